theorem dX6_look_0 : decode cX6_look 0 = .ok (.aload_n 0, 1) := by decide +kernel
theorem dX6_look_1 : decode cX6_look 1 = .ok (.aload_n 1, 1) := by decide +kernel
theorem dX6_look_2 : decode cX6_look 2 = .ok (.putfield 34, 3) := by decide +kernel
theorem dX6_look_5 : decode cX6_look 5 = .ok (.aload_n 0, 1) := by decide +kernel
theorem dX6_look_6 : decode cX6_look 6 = .ok (.getfield 34, 3) := by decide +kernel
theorem dX6_look_9 : decode cX6_look 9 = .ok (.aload_n 0, 1) := by decide +kernel
theorem dX6_look_10 : decode cX6_look 10 = .ok (.getfield 12, 3) := by decide +kernel
theorem dX6_look_13 : decode cX6_look 13 = .ok (.iconst 0, 1) := by decide +kernel
theorem dX6_look_14 : decode cX6_look 14 = .ok (.sipush 1440, 3) := by decide +kernel
theorem dX6_look_17 : decode cX6_look 17 = .ok (.invokevirtual 38, 3) := by decide +kernel
theorem dX6_look_20 : decode cX6_look 20 = .ok (.aload_n 0, 1) := by decide +kernel
theorem dX6_look_21 : decode cX6_look 21 = .ok (.getfield 34, 3) := by decide +kernel
theorem dX6_look_24 : decode cX6_look 24 = .ok (.aload_n 0, 1) := by decide +kernel
theorem dX6_look_25 : decode cX6_look 25 = .ok (.getfield 18, 3) := by decide +kernel
theorem dX6_look_28 : decode cX6_look 28 = .ok (.invokevirtual 42, 3) := by decide +kernel
theorem dX6_look_31 : decode cX6_look 31 = .ok (.return_, 1) := by decide +kernel
theorem dX9_market_0 : decode cX9_market 0 = .ok (.aload_n 0, 1) := by decide +kernel
theorem dX9_market_1 : decode cX9_market 1 = .ok (.iload_n 1, 1) := by decide +kernel
theorem dX9_market_2 : decode cX9_market 2 = .ok (.ifCond .lt 18, 3) := by decide +kernel
theorem dX9_market_5 : decode cX9_market 5 = .ok (.iload_n 1, 1) := by decide +kernel
theorem dX9_market_6 : decode cX9_market 6 = .ok (.aload_n 0, 1) := by decide +kernel
theorem dX9_market_7 : decode cX9_market 7 = .ok (.getfield 12, 3) := by decide +kernel
theorem dX9_market_10 : decode cX9_market 10 = .ok (.getfield 62, 3) := by decide +kernel
theorem dX9_market_13 : decode cX9_market 13 = .ok (.if_icmp .gt 7, 3) := by decide +kernel
theorem dX9_market_16 : decode cX9_market 16 = .ok (.iconst 1, 1) := by decide +kernel
theorem dX9_market_17 : decode cX9_market 17 = .ok (.goto 4, 3) := by decide +kernel
theorem dX9_market_20 : decode cX9_market 20 = .ok (.iconst 0, 1) := by decide +kernel
theorem dX9_market_21 : decode cX9_market 21 = .ok (.invokevirtual 69, 3) := by decide +kernel
theorem dX9_market_24 : decode cX9_market 24 = .ok (.aload_n 0, 1) := by decide +kernel
theorem dX9_market_25 : decode cX9_market 25 = .ok (.getfield 12, 3) := by decide +kernel
theorem dX9_market_28 : decode cX9_market 28 = .ok (.iload_n 1, 1) := by decide +kernel
theorem dX9_market_29 : decode cX9_market 29 = .ok (.aload_n 0, 1) := by decide +kernel
theorem dX9_market_30 : decode cX9_market 30 = .ok (.getfield 52, 3) := by decide +kernel
theorem dX9_market_33 : decode cX9_market 33 = .ok (.invokevirtual 73, 3) := by decide +kernel
theorem dX9_market_36 : decode cX9_market 36 = .ok (.istore_n 2, 1) := by decide +kernel
theorem dX9_market_37 : decode cX9_market 37 = .ok (.iload_n 2, 1) := by decide +kernel
theorem dX9_market_38 : decode cX9_market 38 = .ok (.ifCond .eq 8, 3) := by decide +kernel
theorem dX9_market_41 : decode cX9_market 41 = .ok (.iload_n 2, 1) := by decide +kernel
theorem dX9_market_42 : decode cX9_market 42 = .ok (.bipush 10, 2) := by decide +kernel
theorem dX9_market_44 : decode cX9_market 44 = .ok (.isub, 1) := by decide +kernel
theorem dX9_market_45 : decode cX9_market 45 = .ok (.ireturn, 1) := by decide +kernel
theorem dX9_market_46 : decode cX9_market 46 = .ok (.aload_n 0, 1) := by decide +kernel
theorem dX9_market_47 : decode cX9_market 47 = .ok (.getfield 48, 3) := by decide +kernel
theorem dX9_market_50 : decode cX9_market 50 = .ok (.astore_n 3, 1) := by decide +kernel
theorem dX9_market_51 : decode cX9_market 51 = .ok (.aload_n 0, 1) := by decide +kernel
theorem dX9_market_52 : decode cX9_market 52 = .ok (.aload_n 0, 1) := by decide +kernel
theorem dX9_market_53 : decode cX9_market 53 = .ok (.getfield 52, 3) := by decide +kernel
theorem dX9_market_56 : decode cX9_market 56 = .ok (.putfield 48, 3) := by decide +kernel
theorem dX9_market_59 : decode cX9_market 59 = .ok (.aload_n 0, 1) := by decide +kernel
theorem dX9_market_60 : decode cX9_market 60 = .ok (.aload_n 3, 1) := by decide +kernel
theorem dX9_market_61 : decode cX9_market 61 = .ok (.putfield 52, 3) := by decide +kernel
theorem dX9_market_64 : decode cX9_market 64 = .ok (.aload_n 0, 1) := by decide +kernel
theorem dX9_market_65 : decode cX9_market 65 = .ok (.getfield 41, 3) := by decide +kernel
theorem dX9_market_68 : decode cX9_market 68 = .ok (.aload_n 0, 1) := by decide +kernel
theorem dX9_market_69 : decode cX9_market 69 = .ok (.getfield 48, 3) := by decide +kernel
theorem dX9_market_72 : decode cX9_market 72 = .ok (.invokevirtual 77, 3) := by decide +kernel
theorem dX9_market_75 : decode cX9_market 75 = .ok (.aload_n 0, 1) := by decide +kernel
theorem dX9_market_76 : decode cX9_market 76 = .ok (.getfield 19, 3) := by decide +kernel
theorem dX9_market_79 : decode cX9_market 79 = .ok (.iconst 0, 1) := by decide +kernel
theorem dX9_market_80 : decode cX9_market 80 = .ok (.putfield 81, 3) := by decide +kernel
theorem dX9_market_83 : decode cX9_market 83 = .ok (.aload_n 0, 1) := by decide +kernel
theorem dX9_market_84 : decode cX9_market 84 = .ok (.getfield 33, 3) := by decide +kernel
theorem dX9_market_87 : decode cX9_market 87 = .ok (.iconst 0, 1) := by decide +kernel
theorem dX9_market_88 : decode cX9_market 88 = .ok (.putfield 84, 3) := by decide +kernel
theorem dX9_market_91 : decode cX9_market 91 = .ok (.aload_n 0, 1) := by decide +kernel
theorem dX9_market_92 : decode cX9_market 92 = .ok (.getfield 48, 3) := by decide +kernel
theorem dX9_market_95 : decode cX9_market 95 = .ok (.getfield 87, 3) := by decide +kernel
theorem dX9_market_98 : decode cX9_market 98 = .ok (.getfield 91, 3) := by decide +kernel
theorem dX9_market_101 : decode cX9_market 101 = .ok (.ireturn, 1) := by decide +kernel
set_option maxRecDepth 10000 in
theorem t_X6_look {sc : Nat × (Nat → Int32)} {d : Nat} {Q : aO → aH → Prop} {σ : aH} {v : Nat} (hG : G (sM σ 27 5 (some v)) v)
    (h : ∃ σ1 : aH, Ev sc d mX2_weighCosts [.ref v, .ref 28, .int (nZ 0), .int (nZ 1440)] (sM σ 27 5 (some v)) (.inl none) σ1 ∧ G σ1 v ∧ ∃ σ2 : aH, Ev sc d mX2_weighMinutes [.ref v, .ref 31] σ1 (.inl none) σ2 ∧ Q (.inl none) σ2) :
    T sc (d + 1) mX6_look [.ref 27, .ref v] σ Q := by
  have hv : IsMk v := hG.2.2.2.2
  obtain ⟨σ1, hc1, hG1, σ2, hc2, h⟩ := h
  refine T.of (c := 6) (code := cX6_look) (mL := 2) (rt := none) (ini := false) (l := [(0, .ref 27), (1, .ref v)]) rfl rfl rfl rfl (by decide) hs_X6_look rfl rfl ?_
  refine w_aload_n dX6_look_0 rfl (List.Mem.head _) ?_
  refine w_aload_n dX6_look_1 rfl (List.Mem.tail _ (List.Mem.head _)) ?_
  refine w_putM (ci := 6) (k := 5) dX6_look_2 fl_6_34 (by decide) (gT hG rfl (lt_of rfl)) ?_
  refine w_aload_n dX6_look_5 rfl (List.Mem.head _) ?_
  refine w_getM (ci := 6) (k := 5) (b := v) dX6_look_6 fl_6_34 (by decide) (gT hG rfl (lt_of rfl)) hG.2.2.2.1 ?_
  refine w_aload_n dX6_look_9 rfl (List.Mem.head _) ?_
  refine w_getR (ci := 6) (k := 0) (b := 28) dX6_look_10 fl_6_12 (by decide) (gT hG rfl (lt_of rfl)) (gR hG (b := 28) rfl) ?_
  refine w_iconst (v := nZ 0) dX6_look_13 (by decide) ?_
  refine w_sipush (v := nZ 1440) dX6_look_14 (by decide) ?_
  refine w_callV dX6_look_17 ml_6_38 ⟨ok_X2_weighCosts, vi_X2_weighCosts⟩ hs_X2_weighCosts (As := [.ref 28, .int (nZ 0), .int (nZ 1440)]) rfl rfl (gT hG (IsMk_t0 hv) (IsMk_lt hv (k := 0) (by decide))) (Nat.le_of_ble_eq_true rfl) hc1 ?_
  show wp (Ev sc d) 6 cX6_look 2 none false [] sc Q 20 [(0, .ref 27), (1, .ref v)] [] σ1
  refine w_aload_n dX6_look_20 rfl (List.Mem.head _) ?_
  refine w_getM (ci := 6) (k := 5) (b := v) dX6_look_21 fl_6_34 (by decide) (gT hG1 rfl (lt_of rfl)) hG1.2.2.2.1 ?_
  refine w_aload_n dX6_look_24 rfl (List.Mem.head _) ?_
  refine w_getR (ci := 6) (k := 1) (b := 31) dX6_look_25 fl_6_18 (by decide) (gT hG1 rfl (lt_of rfl)) (gR hG1 (b := 31) rfl) ?_
  refine w_callV dX6_look_28 ml_6_42 ⟨ok_X2_weighMinutes, vi_X2_weighMinutes⟩ hs_X2_weighMinutes (As := [.ref 31]) rfl rfl (gT hG1 (IsMk_t0 hv) (IsMk_lt hv (k := 0) (by decide))) (Nat.le_of_ble_eq_true rfl) hc2 ?_
  show wp (Ev sc d) 6 cX6_look 2 none false [] sc Q 31 [(0, .ref 27), (1, .ref v)] [] σ2
  exact w_vret dX6_look_31 rfl h
set_option maxRecDepth 10000 in
theorem t_X9_market {sc : Nat × (Nat → Int32)} {d : Nat} {Q : aO → aH → Prop} {σ : aH} {u v : Nat} {x : Int} (hG : G σ u) (hv : IsMk v) (rx : inR x)
    (h : ∀ s0 : Int, (s0 = 1 ∧ (0 ≤ x ∧ x ≤ rI σ 1 1)) ∨ (s0 = 0 ∧ ¬ (0 ≤ x ∧ x ≤ rI σ 1 1)) → (∃ (e9 : Nat) (σ1 : aH), Ev sc d mX9_require [.ref 0, .int (nZ s0)] σ (.inr e9) σ1 ∧ Q (.inr e9) σ1) ∨ (∃ σ1 : aH, Ev sc d mX9_require [.ref 0, .int (nZ s0)] σ (.inl none) σ1 ∧ G σ1 u ∧ gM σ1 0 6 = some v ∧ ∃ (r : Int) (σ2 : aH), Ev sc d mX5_read [.ref 1, .int (nZ x), .ref v] σ1 (.inl (some (.int (nZ r)))) σ2 ∧ G σ2 u ∧ gM σ2 0 6 = some v ∧ inR r ∧ (¬ r = 0 → Q (.inl (some (.int (nZ (r - 10))))) σ2) ∧ (r = 0 → ∃ σ3 : aH, Ev sc d mX6_look [.ref 27, .ref v] (sM (sM σ2 0 5 (some v)) 0 6 (some u)) (.inl none) σ3 ∧ G σ3 v ∧ ∀ σ4 : aH, wI σ3 3 6 0 = σ4 → ∀ σ5 : aH, wI σ4 26 12 0 = σ5 → Q (.inl (some (.int (nZ (rI σ5 (v + 1) 8))))) σ5))) :
    T sc (d + 1) mX9_market [.ref 0, .int (nZ x)] σ Q := by
  refine T.of (c := 9) (code := cX9_market) (mL := 4) (rt := (some .int)) (ini := false) (l := [(0, .ref 0), (1, .int (nZ x))]) rfl rfl rfl rfl (by decide) hs_X9_market rfl rfl ?_
  have key : ∀ s0 : Int, (s0 = 1 ∧ (0 ≤ x ∧ x ≤ rI σ 1 1)) ∨ (s0 = 0 ∧ ¬ (0 ≤ x ∧ x ≤ rI σ 1 1)) → wp (Ev sc d) 9 cX9_market 4 (some .int) false [] sc Q 21 [(0, .ref 0), (1, .int (nZ x))] [.int (nZ s0), .ref 0] σ := by
    intro s0 hs
    replace h := h s0 hs
    rcases h with h | h
    · obtain ⟨e9, σ1, hc, h⟩ := h
      exact w_throwV dX9_market_21 mp_9_69 ⟨ok_X9_require, vi_X9_require⟩ hs_X9_require (As := [.int (nZ s0)]) rfl rfl (gT hG rfl (lt_of rfl)) (Nat.le_of_ble_eq_true rfl) hc rfl h
    · obtain ⟨σ1, hc, hG1, hv1, r, σ2, hc2, hG2, hv2, rr, hbad, hgood⟩ := h
      refine w_callV dX9_market_21 ml_9_69 ⟨ok_X9_require, vi_X9_require⟩ hs_X9_require (As := [.int (nZ s0)]) rfl rfl (gT hG rfl (lt_of rfl)) (Nat.le_of_ble_eq_true rfl) hc ?_
      show wp (Ev sc d) 9 cX9_market 4 (some .int) false [] sc Q 24 [(0, .ref 0), (1, .int (nZ x))] [] σ1
      refine w_aload_n dX9_market_24 rfl (List.Mem.head _) ?_
      refine w_getR (ci := 9) (k := 0) (b := 1) dX9_market_25 fl_9_12 (by decide) (gT hG1 rfl (lt_of rfl)) (gR hG1 (b := 1) rfl) ?_
      refine w_iload_n dX9_market_28 rfl (List.Mem.tail _ (List.Mem.head _)) ?_
      refine w_aload_n dX9_market_29 rfl (List.Mem.head _) ?_
      refine w_getM (ci := 9) (k := 6) (b := v) dX9_market_30 fl_9_52 (by decide) (gT hG1 rfl (lt_of rfl)) hv1 ?_
      refine w_callV dX9_market_33 ml_9_73 ⟨ok_X5_read, vi_X5_read⟩ hs_X5_read (As := [.int (nZ x), .ref v]) rfl rfl (gT hG1 rfl (lt_of rfl)) (Nat.le_of_ble_eq_true rfl) hc2 ?_
      show wp (Ev sc d) 9 cX9_market 4 (some .int) false [] sc Q 36 [(0, .ref 0), (1, .int (nZ x))] [.int (nZ r)] σ2
      refine w_istore_n (l' := [(2, .int (nZ r)), (0, .ref 0), (1, .int (nZ x))]) dX9_market_36 rfl (by decide) rfl ?_
      refine w_iload_n dX9_market_37 rfl (List.Mem.head _) ?_
      refine i_if_eq (tgt := 46) dX9_market_38 rfl rr (fun c9 => ?_) (fun c9 => ?_)
      · obtain ⟨σ3, hc3, hG3, h⟩ := hgood c9
        refine w_aload_n dX9_market_46 rfl (List.Mem.tail _ (List.Mem.head _)) ?_
        refine w_getM (ci := 9) (k := 5) (b := u) dX9_market_47 fl_9_48 (by decide) (gT hG2 rfl (lt_of rfl)) hG2.2.2.1 ?_
        refine w_astore_n (l' := [(3, .ref u), (2, .int (nZ r)), (0, .ref 0), (1, .int (nZ x))]) dX9_market_50 rfl (by decide) rfl ?_
        refine w_aload_n dX9_market_51 rfl (List.Mem.tail _ (List.Mem.tail _ (List.Mem.head _))) ?_
        refine w_aload_n dX9_market_52 rfl (List.Mem.tail _ (List.Mem.tail _ (List.Mem.head _))) ?_
        refine w_getM (ci := 9) (k := 6) (b := v) dX9_market_53 fl_9_52 (by decide) (gT hG2 rfl (lt_of rfl)) hv2 ?_
        refine w_putM (ci := 9) (k := 5) dX9_market_56 fl_9_48 (by decide) (gT hG2 rfl (lt_of rfl)) ?_
        refine w_aload_n dX9_market_59 rfl (List.Mem.tail _ (List.Mem.tail _ (List.Mem.head _))) ?_
        refine w_aload_n dX9_market_60 rfl (List.Mem.head _) ?_
        refine w_putM (ci := 9) (k := 6) dX9_market_61 fl_9_52 (by decide) (gT hG2 rfl (lt_of rfl)) ?_
        refine w_aload_n dX9_market_64 rfl (List.Mem.tail _ (List.Mem.tail _ (List.Mem.head _))) ?_
        refine w_getR (ci := 9) (k := 4) (b := 27) dX9_market_65 fl_9_41 (by decide) (gT hG2 rfl (lt_of rfl)) (gR hG2 (b := 27) rfl) ?_
        refine w_aload_n dX9_market_68 rfl (List.Mem.tail _ (List.Mem.tail _ (List.Mem.head _))) ?_
        refine w_getM (ci := 9) (k := 5) (b := v) dX9_market_69 fl_9_48 (by decide) (gT hG2 rfl (lt_of rfl)) rfl ?_
        refine w_callV dX9_market_72 ml_9_77 ⟨ok_X6_look, vi_X6_look⟩ hs_X6_look (As := [.ref v]) rfl rfl (gT hG2 rfl (lt_of rfl)) (Nat.le_of_ble_eq_true rfl) hc3 ?_
        show wp (Ev sc d) 9 cX9_market 4 (some .int) false [] sc Q 75 [(3, .ref u), (2, .int (nZ r)), (0, .ref 0), (1, .int (nZ x))] [] σ3
        refine w_aload_n dX9_market_75 rfl (List.Mem.tail _ (List.Mem.tail _ (List.Mem.head _))) ?_
        refine w_getR (ci := 9) (k := 1) (b := 3) dX9_market_76 fl_9_19 (by decide) (gT hG3 rfl (lt_of rfl)) (gR hG3 (b := 3) rfl) ?_
        refine w_iconst (v := nZ 0) dX9_market_79 (by decide) ?_
        refine i_putI (ci := 1) 6 rfl dX9_market_80 fl_9_81 (by decide) (gT hG3 rfl (lt_of rfl)) (fun σ4 e4 => ?_)
        have hG4 : G σ4 v := e4 ▸ G.wI hG3
        refine w_aload_n dX9_market_83 rfl (List.Mem.tail _ (List.Mem.tail _ (List.Mem.head _))) ?_
        refine w_getR (ci := 9) (k := 3) (b := 26) dX9_market_84 fl_9_33 (by decide) (gT hG4 rfl (lt_of rfl)) (gR hG4 (b := 26) rfl) ?_
        refine w_iconst (v := nZ 0) dX9_market_87 (by decide) ?_
        refine i_putI (ci := 4) 12 rfl dX9_market_88 fl_9_84 (by decide) (gT hG4 rfl (lt_of rfl)) (fun σ5 e5 => ?_)
        have hG5 : G σ5 v := e5 ▸ G.wI hG4
        refine w_aload_n dX9_market_91 rfl (List.Mem.tail _ (List.Mem.tail _ (List.Mem.head _))) ?_
        refine w_getM (ci := 9) (k := 5) (b := v) dX9_market_92 fl_9_48 (by decide) (gT hG5 rfl (lt_of rfl)) hG5.2.2.1 ?_
        refine w_getR (ci := 2) (k := 0) (b := (v + 1)) dX9_market_95 fl_9_87 (by decide) (gT hG5 (IsMk_t0 hv) (IsMk_lt hv (k := 0) (by decide))) (gR hG5 (IsMk_r0_0 hv)) ?_
        refine i_getI (ci := 7) 8 rfl dX9_market_98 fl_9_91 (by decide) (gT hG5 (IsMk_t1 hv) (IsMk_lt hv (k := 1) (by decide))) ?_
        exact w_iret dX9_market_101 rfl (h σ4 e4 σ5 e5)
      · refine w_iload_n dX9_market_41 rfl (List.Mem.head _) ?_
        refine w_bipush (v := nZ 10) dX9_market_42 (by decide) ?_
        refine i_sub dX9_market_44 ?_
        exact w_iret dX9_market_45 rfl (hbad c9)
  refine w_aload_n dX9_market_0 rfl (List.Mem.head _) ?_
  refine w_iload_n dX9_market_1 rfl (List.Mem.tail _ (List.Mem.head _)) ?_
  refine i_if_lt (tgt := 20) dX9_market_2 rfl rx (fun c9 => ?_) (fun c9 => ?_)
  · refine w_iconst (v := nZ 0) dX9_market_20 (by decide) ?_
    exact key 0 (Or.inr ⟨rfl, by omega⟩)
  · refine w_iload_n dX9_market_5 rfl (List.Mem.tail _ (List.Mem.head _)) ?_
    refine w_aload_n dX9_market_6 rfl (List.Mem.head _) ?_
    refine w_getR (ci := 9) (k := 0) (b := 1) dX9_market_7 fl_9_12 (by decide) (gT hG rfl (lt_of rfl)) (gR hG (b := 1) rfl) ?_
    refine i_getI (ci := 5) 1 rfl dX9_market_10 fl_9_62 (by decide) (gT hG rfl (lt_of rfl)) ?_
    refine i_cmp_gt (tgt := 20) dX9_market_13 rfl rx (rI_R _ _ _) (fun c10 => ?_) (fun c10 => ?_)
    · refine w_iconst (v := nZ 0) dX9_market_20 (by decide) ?_
      exact key 0 (Or.inr ⟨rfl, by omega⟩)
    · refine w_iconst (v := nZ 1) dX9_market_16 (by decide) ?_
      refine w_goto (tgt := 21) dX9_market_17 rfl ?_
      exact key 1 (Or.inl ⟨rfl, by omega⟩)
