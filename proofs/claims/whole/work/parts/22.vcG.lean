theorem dX9_feed_0 : decode cX9_feed 0 = .ok (.aload_n 0, 1) := by decide +kernel
theorem dX9_feed_1 : decode cX9_feed 1 = .ok (.getfield 12, 3) := by decide +kernel
theorem dX9_feed_4 : decode cX9_feed 4 = .ok (.getfield 62, 3) := by decide +kernel
theorem dX9_feed_7 : decode cX9_feed 7 = .ok (.bipush 20, 2) := by decide +kernel
theorem dX9_feed_9 : decode cX9_feed 9 = .ok (.iadd, 1) := by decide +kernel
theorem dX9_feed_10 : decode cX9_feed 10 = .ok (.sipush 600, 3) := by decide +kernel
theorem dX9_feed_13 : decode cX9_feed 13 = .ok (.if_icmp .le 5, 3) := by decide +kernel
theorem dX9_feed_16 : decode cX9_feed 16 = .ok (.iconst (-1), 1) := by decide +kernel
theorem dX9_feed_17 : decode cX9_feed 17 = .ok (.ireturn, 1) := by decide +kernel
theorem dX9_feed_18 : decode cX9_feed 18 = .ok (.aload_n 0, 1) := by decide +kernel
theorem dX9_feed_19 : decode cX9_feed 19 = .ok (.getfield 12, 3) := by decide +kernel
theorem dX9_feed_22 : decode cX9_feed 22 = .ok (.iload_n 1, 1) := by decide +kernel
theorem dX9_feed_23 : decode cX9_feed 23 = .ok (.invokevirtual 65, 3) := by decide +kernel
theorem dX9_feed_26 : decode cX9_feed 26 = .ok (.aload_n 0, 1) := by decide +kernel
theorem dX9_feed_27 : decode cX9_feed 27 = .ok (.getfield 12, 3) := by decide +kernel
theorem dX9_feed_30 : decode cX9_feed 30 = .ok (.iload_n 2, 1) := by decide +kernel
theorem dX9_feed_31 : decode cX9_feed 31 = .ok (.invokevirtual 65, 3) := by decide +kernel
theorem dX9_feed_34 : decode cX9_feed 34 = .ok (.aload_n 0, 1) := by decide +kernel
theorem dX9_feed_35 : decode cX9_feed 35 = .ok (.getfield 12, 3) := by decide +kernel
theorem dX9_feed_38 : decode cX9_feed 38 = .ok (.iload_n 3, 1) := by decide +kernel
theorem dX9_feed_39 : decode cX9_feed 39 = .ok (.invokevirtual 65, 3) := by decide +kernel
theorem dX9_feed_42 : decode cX9_feed 42 = .ok (.aload_n 0, 1) := by decide +kernel
theorem dX9_feed_43 : decode cX9_feed 43 = .ok (.getfield 12, 3) := by decide +kernel
theorem dX9_feed_46 : decode cX9_feed 46 = .ok (.iload 4, 2) := by decide +kernel
theorem dX9_feed_48 : decode cX9_feed 48 = .ok (.invokevirtual 65, 3) := by decide +kernel
theorem dX9_feed_51 : decode cX9_feed 51 = .ok (.aload_n 0, 1) := by decide +kernel
theorem dX9_feed_52 : decode cX9_feed 52 = .ok (.getfield 12, 3) := by decide +kernel
theorem dX9_feed_55 : decode cX9_feed 55 = .ok (.iload 5, 2) := by decide +kernel
theorem dX9_feed_57 : decode cX9_feed 57 = .ok (.invokevirtual 65, 3) := by decide +kernel
theorem dX9_feed_60 : decode cX9_feed 60 = .ok (.aload_n 0, 1) := by decide +kernel
theorem dX9_feed_61 : decode cX9_feed 61 = .ok (.getfield 12, 3) := by decide +kernel
theorem dX9_feed_64 : decode cX9_feed 64 = .ok (.getfield 62, 3) := by decide +kernel
theorem dX9_feed_67 : decode cX9_feed 67 = .ok (.ireturn, 1) := by decide +kernel
set_option maxRecDepth 10000 in
theorem t_X9_feed {sc : Nat × (Nat → Int32)} {d : Nat} {Q : aO → aH → Prop} {σ : aH} {u : Nat}  {x1 : Int} {x2 : Int} {x3 : Int} {x4 : Int} {x5 : Int} (hG : G σ u) (rx1 : inR x1) (rx2 : inR x2) (rx3 : inR x3) (rx4 : inR x4) (rx5 : inR x5)
    (h : (inR ((rI σ 1 1) + 20) ∧ ((((rI σ 1 1) + 20) ≤ 600 → (∃ σ2 : aH, Ev sc d mX5_append [.ref 1, .int (nZ x1)] σ (.inl none) σ2 ∧ G σ2 u ∧ (∃ σ6 : aH, Ev sc d mX5_append [.ref 1, .int (nZ x2)] σ2 (.inl none) σ6 ∧ G σ6 u ∧ (∃ σ10 : aH, Ev sc d mX5_append [.ref 1, .int (nZ x3)] σ6 (.inl none) σ10 ∧ G σ10 u ∧ (∃ σ14 : aH, Ev sc d mX5_append [.ref 1, .int (nZ x4)] σ10 (.inl none) σ14 ∧ G σ14 u ∧ (∃ σ18 : aH, Ev sc d mX5_append [.ref 1, .int (nZ x5)] σ14 (.inl none) σ18 ∧ G σ18 u ∧ Q (.inl (some (.int (nZ (rI σ18 1 1))))) σ18)))))) ∧ (¬ (((rI σ 1 1) + 20) ≤ 600) → Q (.inl (some (.int (nZ (-1))))) σ)))) :
    T sc (d + 1) mX9_feed [.ref 0, .int (nZ x1), .int (nZ x2), .int (nZ x3), .int (nZ x4), .int (nZ x5)] σ Q := by
  refine T.of (c := 9) (code := cX9_feed) (mL := 6) (rt := (some .int)) (ini := false) (l := [(0, .ref 0), (1, .int (nZ x1)), (2, .int (nZ x2)), (3, .int (nZ x3)), (4, .int (nZ x4)), (5, .int (nZ x5))]) rfl rfl rfl rfl (by decide) hs_X9_feed rfl rfl ?_
  refine w_aload_n dX9_feed_0 rfl (List.Mem.head _) ?_
  refine w_getR (ci := 9) (k := 0) (b := 1) dX9_feed_1 fl_9_12 (by decide) (gT hG rfl (lt_of rfl)) (gR hG (b := 1) rfl) ?_
  refine i_getI (ci := 5) 1 rfl dX9_feed_4 fl_9_62 (by decide) (gT hG rfl (lt_of rfl)) ?_
  refine w_bipush (v := nZ 20) dX9_feed_7 (by decide) ?_
  obtain ⟨q1, h⟩ := h
  refine i_add dX9_feed_9 ?_
  refine w_sipush (v := nZ 600) dX9_feed_10 (by decide) ?_
  refine i_cmp_le (tgt := 18) dX9_feed_13 rfl q1 (by decide) (fun c9 => ?_) (fun c9 => ?_)
  · replace h := h.1 c9
    refine w_aload_n dX9_feed_18 rfl (List.Mem.head _) ?_
    refine w_getR (ci := 9) (k := 0) (b := 1) dX9_feed_19 fl_9_12 (by decide) (gT hG rfl (lt_of rfl)) (gR hG (b := 1) rfl) ?_
    refine w_iload_n dX9_feed_22 rfl (List.Mem.tail _ (List.Mem.head _)) ?_
    obtain ⟨σ2, hc4, hG3, h⟩ := h
    refine w_callV dX9_feed_23 ml_9_65 ⟨ok_X5_append, vi_X5_append⟩ hs_X5_append (As := [.int (nZ x1)]) rfl rfl (gT hG rfl (lt_of rfl)) (Nat.le_of_ble_eq_true rfl) hc4 ?_
    show wp (Ev sc d) 9 cX9_feed 6 (some .int) false [] sc Q 26 [(0, .ref 0), (1, .int (nZ x1)), (2, .int (nZ x2)), (3, .int (nZ x3)), (4, .int (nZ x4)), (5, .int (nZ x5))] [] σ2
    refine w_aload_n dX9_feed_26 rfl (List.Mem.head _) ?_
    refine w_getR (ci := 9) (k := 0) (b := 1) dX9_feed_27 fl_9_12 (by decide) (gT hG3 rfl (lt_of rfl)) (gR hG3 (b := 1) rfl) ?_
    refine w_iload_n dX9_feed_30 rfl (List.Mem.tail _ (List.Mem.tail _ (List.Mem.head _))) ?_
    obtain ⟨σ6, hc8, hG7, h⟩ := h
    refine w_callV dX9_feed_31 ml_9_65 ⟨ok_X5_append, vi_X5_append⟩ hs_X5_append (As := [.int (nZ x2)]) rfl rfl (gT hG3 rfl (lt_of rfl)) (Nat.le_of_ble_eq_true rfl) hc8 ?_
    show wp (Ev sc d) 9 cX9_feed 6 (some .int) false [] sc Q 34 [(0, .ref 0), (1, .int (nZ x1)), (2, .int (nZ x2)), (3, .int (nZ x3)), (4, .int (nZ x4)), (5, .int (nZ x5))] [] σ6
    refine w_aload_n dX9_feed_34 rfl (List.Mem.head _) ?_
    refine w_getR (ci := 9) (k := 0) (b := 1) dX9_feed_35 fl_9_12 (by decide) (gT hG7 rfl (lt_of rfl)) (gR hG7 (b := 1) rfl) ?_
    refine w_iload_n dX9_feed_38 rfl (List.Mem.tail _ (List.Mem.tail _ (List.Mem.tail _ (List.Mem.head _)))) ?_
    obtain ⟨σ10, hc12, hG11, h⟩ := h
    refine w_callV dX9_feed_39 ml_9_65 ⟨ok_X5_append, vi_X5_append⟩ hs_X5_append (As := [.int (nZ x3)]) rfl rfl (gT hG7 rfl (lt_of rfl)) (Nat.le_of_ble_eq_true rfl) hc12 ?_
    show wp (Ev sc d) 9 cX9_feed 6 (some .int) false [] sc Q 42 [(0, .ref 0), (1, .int (nZ x1)), (2, .int (nZ x2)), (3, .int (nZ x3)), (4, .int (nZ x4)), (5, .int (nZ x5))] [] σ10
    refine w_aload_n dX9_feed_42 rfl (List.Mem.head _) ?_
    refine w_getR (ci := 9) (k := 0) (b := 1) dX9_feed_43 fl_9_12 (by decide) (gT hG11 rfl (lt_of rfl)) (gR hG11 (b := 1) rfl) ?_
    refine w_iload dX9_feed_46 (List.Mem.tail _ (List.Mem.tail _ (List.Mem.tail _ (List.Mem.tail _ (List.Mem.head _))))) ?_
    obtain ⟨σ14, hc16, hG15, h⟩ := h
    refine w_callV dX9_feed_48 ml_9_65 ⟨ok_X5_append, vi_X5_append⟩ hs_X5_append (As := [.int (nZ x4)]) rfl rfl (gT hG11 rfl (lt_of rfl)) (Nat.le_of_ble_eq_true rfl) hc16 ?_
    show wp (Ev sc d) 9 cX9_feed 6 (some .int) false [] sc Q 51 [(0, .ref 0), (1, .int (nZ x1)), (2, .int (nZ x2)), (3, .int (nZ x3)), (4, .int (nZ x4)), (5, .int (nZ x5))] [] σ14
    refine w_aload_n dX9_feed_51 rfl (List.Mem.head _) ?_
    refine w_getR (ci := 9) (k := 0) (b := 1) dX9_feed_52 fl_9_12 (by decide) (gT hG15 rfl (lt_of rfl)) (gR hG15 (b := 1) rfl) ?_
    refine w_iload dX9_feed_55 (List.Mem.tail _ (List.Mem.tail _ (List.Mem.tail _ (List.Mem.tail _ (List.Mem.tail _ (List.Mem.head _)))))) ?_
    obtain ⟨σ18, hc20, hG19, h⟩ := h
    refine w_callV dX9_feed_57 ml_9_65 ⟨ok_X5_append, vi_X5_append⟩ hs_X5_append (As := [.int (nZ x5)]) rfl rfl (gT hG15 rfl (lt_of rfl)) (Nat.le_of_ble_eq_true rfl) hc20 ?_
    show wp (Ev sc d) 9 cX9_feed 6 (some .int) false [] sc Q 60 [(0, .ref 0), (1, .int (nZ x1)), (2, .int (nZ x2)), (3, .int (nZ x3)), (4, .int (nZ x4)), (5, .int (nZ x5))] [] σ18
    refine w_aload_n dX9_feed_60 rfl (List.Mem.head _) ?_
    refine w_getR (ci := 9) (k := 0) (b := 1) dX9_feed_61 fl_9_12 (by decide) (gT hG19 rfl (lt_of rfl)) (gR hG19 (b := 1) rfl) ?_
    refine i_getI (ci := 5) 1 rfl dX9_feed_64 fl_9_62 (by decide) (gT hG19 rfl (lt_of rfl)) ?_
    exact w_iret dX9_feed_67 rfl h
  · replace h := h.2 c9
    refine w_iconst (v := nZ (-1)) dX9_feed_16 (by decide) ?_
    exact w_iret dX9_feed_17 rfl h
theorem dX9_fault_0 : decode cX9_fault 0 = .ok (.aload_n 0, 1) := by decide +kernel
theorem dX9_fault_1 : decode cX9_fault 1 = .ok (.getfield 12, 3) := by decide +kernel
theorem dX9_fault_4 : decode cX9_fault 4 = .ok (.getfield 94, 3) := by decide +kernel
theorem dX9_fault_7 : decode cX9_fault 7 = .ok (.ireturn, 1) := by decide +kernel
set_option maxRecDepth 10000 in
theorem t_X9_fault {sc : Nat × (Nat → Int32)} {d : Nat} {Q : aO → aH → Prop} {σ : aH} {u : Nat}   (hG : G σ u) 
    (h : Q (.inl (some (.int (nZ (rI σ 1 5))))) σ) :
    T sc (d + 1) mX9_fault [.ref 0] σ Q := by
  refine T.of (c := 9) (code := cX9_fault) (mL := 1) (rt := (some .int)) (ini := false) (l := [(0, .ref 0)]) rfl rfl rfl rfl (by decide) hs_X9_fault rfl rfl ?_
  refine w_aload_n dX9_fault_0 rfl (List.Mem.head _) ?_
  refine w_getR (ci := 9) (k := 0) (b := 1) dX9_fault_1 fl_9_12 (by decide) (gT hG rfl (lt_of rfl)) (gR hG (b := 1) rfl) ?_
  refine i_getI (ci := 5) 5 rfl dX9_fault_4 fl_9_94 (by decide) (gT hG rfl (lt_of rfl)) ?_
  exact w_iret dX9_fault_7 rfl h
theorem dX9_told_0 : decode cX9_told 0 = .ok (.aload_n 0, 1) := by decide +kernel
theorem dX9_told_1 : decode cX9_told 1 = .ok (.iload_n 1, 1) := by decide +kernel
theorem dX9_told_2 : decode cX9_told 2 = .ok (.ifCond .lt 13, 3) := by decide +kernel
theorem dX9_told_5 : decode cX9_told 5 = .ok (.iload_n 1, 1) := by decide +kernel
theorem dX9_told_6 : decode cX9_told 6 = .ok (.bipush 7, 2) := by decide +kernel
theorem dX9_told_8 : decode cX9_told 8 = .ok (.if_icmp .gt 7, 3) := by decide +kernel
theorem dX9_told_11 : decode cX9_told 11 = .ok (.iconst 1, 1) := by decide +kernel
theorem dX9_told_12 : decode cX9_told 12 = .ok (.goto 4, 3) := by decide +kernel
theorem dX9_told_15 : decode cX9_told 15 = .ok (.iconst 0, 1) := by decide +kernel
theorem dX9_told_16 : decode cX9_told 16 = .ok (.invokevirtual 69, 3) := by decide +kernel
theorem dX9_told_19 : decode cX9_told 19 = .ok (.iload_n 1, 1) := by decide +kernel
theorem dX9_told_20 : decode cX9_told 20 = .ok (.tableswitch 103 0 6 #[44, 52, 60, 71, 79, 87, 95], 44) := by decide +kernel
theorem dX9_told_64 : decode cX9_told 64 = .ok (.aload_n 0, 1) := by decide +kernel
theorem dX9_told_65 : decode cX9_told 65 = .ok (.getfield 48, 3) := by decide +kernel
theorem dX9_told_68 : decode cX9_told 68 = .ok (.getfield 97, 3) := by decide +kernel
theorem dX9_told_71 : decode cX9_told 71 = .ok (.ireturn, 1) := by decide +kernel
theorem dX9_told_72 : decode cX9_told 72 = .ok (.aload_n 0, 1) := by decide +kernel
theorem dX9_told_73 : decode cX9_told 73 = .ok (.getfield 48, 3) := by decide +kernel
theorem dX9_told_76 : decode cX9_told 76 = .ok (.getfield 100, 3) := by decide +kernel
theorem dX9_told_79 : decode cX9_told 79 = .ok (.ireturn, 1) := by decide +kernel
theorem dX9_told_80 : decode cX9_told 80 = .ok (.aload_n 0, 1) := by decide +kernel
theorem dX9_told_81 : decode cX9_told 81 = .ok (.getfield 48, 3) := by decide +kernel
theorem dX9_told_84 : decode cX9_told 84 = .ok (.getfield 87, 3) := by decide +kernel
theorem dX9_told_87 : decode cX9_told 87 = .ok (.getfield 91, 3) := by decide +kernel
theorem dX9_told_90 : decode cX9_told 90 = .ok (.ireturn, 1) := by decide +kernel
theorem dX9_told_91 : decode cX9_told 91 = .ok (.aload_n 0, 1) := by decide +kernel
theorem dX9_told_92 : decode cX9_told 92 = .ok (.getfield 48, 3) := by decide +kernel
theorem dX9_told_95 : decode cX9_told 95 = .ok (.getfield 103, 3) := by decide +kernel
theorem dX9_told_98 : decode cX9_told 98 = .ok (.ireturn, 1) := by decide +kernel
theorem dX9_told_99 : decode cX9_told 99 = .ok (.aload_n 0, 1) := by decide +kernel
theorem dX9_told_100 : decode cX9_told 100 = .ok (.getfield 48, 3) := by decide +kernel
theorem dX9_told_103 : decode cX9_told 103 = .ok (.getfield 106, 3) := by decide +kernel
theorem dX9_told_106 : decode cX9_told 106 = .ok (.ireturn, 1) := by decide +kernel
theorem dX9_told_107 : decode cX9_told 107 = .ok (.aload_n 0, 1) := by decide +kernel
theorem dX9_told_108 : decode cX9_told 108 = .ok (.getfield 48, 3) := by decide +kernel
theorem dX9_told_111 : decode cX9_told 111 = .ok (.getfield 109, 3) := by decide +kernel
theorem dX9_told_114 : decode cX9_told 114 = .ok (.ireturn, 1) := by decide +kernel
theorem dX9_told_115 : decode cX9_told 115 = .ok (.aload_n 0, 1) := by decide +kernel
theorem dX9_told_116 : decode cX9_told 116 = .ok (.getfield 48, 3) := by decide +kernel
theorem dX9_told_119 : decode cX9_told 119 = .ok (.getfield 112, 3) := by decide +kernel
theorem dX9_told_122 : decode cX9_told 122 = .ok (.ireturn, 1) := by decide +kernel
theorem dX9_told_123 : decode cX9_told 123 = .ok (.aload_n 0, 1) := by decide +kernel
theorem dX9_told_124 : decode cX9_told 124 = .ok (.getfield 48, 3) := by decide +kernel
theorem dX9_told_127 : decode cX9_told 127 = .ok (.getfield 115, 3) := by decide +kernel
theorem dX9_told_130 : decode cX9_told 130 = .ok (.ireturn, 1) := by decide +kernel
def L_X9_told_16 (C : aM → List Value → aH → aO → aH → Prop) (sc : Nat × (Nat → Int32)) (P : aO → aH → Prop) (x1 : Int) (s0 : Int) (σ : aH) : Prop :=
    wp C 9 cX9_told 2 (some .int) false [] sc P 16 [(0, .ref 0), (1, .int (nZ x1))] [.int (nZ s0), .ref 0] σ
set_option maxRecDepth 10000 in
theorem t_X9_told {sc : Nat × (Nat → Int32)} {d : Nat} {Q : aO → aH → Prop} {σ : aH} {u : Nat}  {x1 : Int} (hG : G σ u) (rx1 : inR x1)
    (h : ((x1 < 0 → L_X9_told_16 (Ev sc d) sc Q x1 0 σ) ∧ (¬ (x1 < 0) → ((7 < x1 → L_X9_told_16 (Ev sc d) sc Q x1 0 σ) ∧ (¬ (7 < x1) → L_X9_told_16 (Ev sc d) sc Q x1 1 σ))))) :
    T sc (d + 1) mX9_told [.ref 0, .int (nZ x1)] σ Q := by
  refine T.of (c := 9) (code := cX9_told) (mL := 2) (rt := (some .int)) (ini := false) (l := [(0, .ref 0), (1, .int (nZ x1))]) rfl rfl rfl rfl (by decide) hs_X9_told rfl rfl ?_
  refine w_aload_n dX9_told_0 rfl (List.Mem.head _) ?_
  refine w_iload_n dX9_told_1 rfl (List.Mem.tail _ (List.Mem.head _)) ?_
  refine i_if_lt (tgt := 15) dX9_told_2 rfl rx1 (fun c9 => ?_) (fun c9 => ?_)
  · replace h := h.1 c9
    refine w_iconst (v := nZ 0) dX9_told_15 (by decide) ?_
    exact h
  · replace h := h.2 c9
    refine w_iload_n dX9_told_5 rfl (List.Mem.tail _ (List.Mem.head _)) ?_
    refine w_bipush (v := nZ 7) dX9_told_6 (by decide) ?_
    refine i_cmp_gt (tgt := 15) dX9_told_8 rfl rx1 (by decide) (fun c9 => ?_) (fun c9 => ?_)
    · replace h := h.1 c9
      refine w_iconst (v := nZ 0) dX9_told_15 (by decide) ?_
      exact h
    · replace h := h.2 c9
      refine w_iconst (v := nZ 1) dX9_told_11 (by decide) ?_
      refine w_goto (tgt := 16) dX9_told_12 rfl ?_
      exact h
set_option maxRecDepth 10000 in
theorem v_X9_told_16 {C : aM → List Value → aH → aO → aH → Prop} {sc : Nat × (Nat → Int32)} {P : aO → aH → Prop} {σ : aH} {u : Nat}  {x1 : Int} {s0 : Int} (hG : G σ u) (rx1 : inR x1) (rs0 : inR s0)
    (h : ((∃ (e9 : Nat) (σ1 : aH), C mX9_require [.ref 0, .int (nZ s0)] σ (.inr e9) σ1 ∧ P (.inr e9) σ1) ∨ (∃ σ1 : aH, C mX9_require [.ref 0, .int (nZ s0)] σ (.inl none) σ1 ∧ G σ1 u ∧ (((x1 < 0 ∨ 6 < x1) → P (.inl (some (.int (nZ (rI σ1 u 7))))) σ1) ∧ (x1 = 0 → P (.inl (some (.int (nZ (rI σ1 u 3))))) σ1) ∧ (x1 = 1 → P (.inl (some (.int (nZ (rI σ1 u 4))))) σ1) ∧ (x1 = 2 → P (.inl (some (.int (nZ (rI σ1 (u + 1) 8))))) σ1) ∧ (x1 = 3 → P (.inl (some (.int (nZ (rI σ1 u 8))))) σ1) ∧ (x1 = 4 → P (.inl (some (.int (nZ (rI σ1 u 9))))) σ1) ∧ (x1 = 5 → P (.inl (some (.int (nZ (rI σ1 u 5))))) σ1) ∧ (x1 = 6 → P (.inl (some (.int (nZ (rI σ1 u 6))))) σ1))))) :
    L_X9_told_16 C sc P x1 s0 σ := by
  unfold L_X9_told_16
  rcases h with h | h
  · obtain ⟨e9, σ1, hc3, h⟩ := h
    exact w_throwV dX9_told_16 mp_9_69 ⟨ok_X9_require, vi_X9_require⟩ hs_X9_require (As := [.int (nZ s0)]) rfl rfl (gT hG rfl (lt_of rfl)) (Nat.le_of_ble_eq_true rfl) hc3 rfl h
  · obtain ⟨σ1, hc3, hG2, h⟩ := h
    refine w_callV dX9_told_16 ml_9_69 ⟨ok_X9_require, vi_X9_require⟩ hs_X9_require (As := [.int (nZ s0)]) rfl rfl (gT hG rfl (lt_of rfl)) (Nat.le_of_ble_eq_true rfl) hc3 ?_
    show wp C 9 cX9_told 2 (some .int) false [] sc P 19 [(0, .ref 0), (1, .int (nZ x1))] [] σ1
    refine w_iload_n dX9_told_19 rfl (List.Mem.tail _ (List.Mem.head _)) ?_
    rcases sw_cases x1 0 6 with hz | hz
    · replace h := h.1 hz
      refine i_tabOut (tgt := 123) dX9_told_20 rx1 hz rfl ?_
      refine w_aload_n dX9_told_123 rfl (List.Mem.head _) ?_
      refine w_getM (ci := 9) (k := 5) (b := u) dX9_told_124 fl_9_48 (by decide) (gT hG2 rfl (lt_of rfl)) hG2.2.2.1 ?_
      refine i_getI (ci := 2) 7 rfl dX9_told_127 fl_9_115 (by decide) (gT hG2 (IsMk_t0 hG.2.2.2.2) (IsMk_lt hG.2.2.2.2 (k := 0) (by decide))) ?_
      exact w_iret dX9_told_130 rfl h
    · replace h := h.2
      by_cases hz0 : x1 = 0
      · refine i_tabIn (off := 44) (tgt := 64) 0 hz0 dX9_told_20 rx1 (by decide) (by decide) rfl rfl ?_
        replace h := h.1 hz0
        refine w_aload_n dX9_told_64 rfl (List.Mem.head _) ?_
        refine w_getM (ci := 9) (k := 5) (b := u) dX9_told_65 fl_9_48 (by decide) (gT hG2 rfl (lt_of rfl)) hG2.2.2.1 ?_
        refine i_getI (ci := 2) 3 rfl dX9_told_68 fl_9_97 (by decide) (gT hG2 (IsMk_t0 hG.2.2.2.2) (IsMk_lt hG.2.2.2.2 (k := 0) (by decide))) ?_
        exact w_iret dX9_told_71 rfl h
      by_cases hz1 : x1 = 1
      · refine i_tabIn (off := 52) (tgt := 72) 1 hz1 dX9_told_20 rx1 (by decide) (by decide) rfl rfl ?_
        replace h := h.2.1 hz1
        refine w_aload_n dX9_told_72 rfl (List.Mem.head _) ?_
        refine w_getM (ci := 9) (k := 5) (b := u) dX9_told_73 fl_9_48 (by decide) (gT hG2 rfl (lt_of rfl)) hG2.2.2.1 ?_
        refine i_getI (ci := 2) 4 rfl dX9_told_76 fl_9_100 (by decide) (gT hG2 (IsMk_t0 hG.2.2.2.2) (IsMk_lt hG.2.2.2.2 (k := 0) (by decide))) ?_
        exact w_iret dX9_told_79 rfl h
      by_cases hz2 : x1 = 2
      · refine i_tabIn (off := 60) (tgt := 80) 2 hz2 dX9_told_20 rx1 (by decide) (by decide) rfl rfl ?_
        replace h := h.2.2.1 hz2
        refine w_aload_n dX9_told_80 rfl (List.Mem.head _) ?_
        refine w_getM (ci := 9) (k := 5) (b := u) dX9_told_81 fl_9_48 (by decide) (gT hG2 rfl (lt_of rfl)) hG2.2.2.1 ?_
        refine w_getR (ci := 2) (k := 0) (b := (u + 1)) dX9_told_84 fl_9_87 (by decide) (gT hG2 (IsMk_t0 hG.2.2.2.2) (IsMk_lt hG.2.2.2.2 (k := 0) (by decide))) (gR hG2 (IsMk_r0_0 hG.2.2.2.2)) ?_
        refine i_getI (ci := 7) 8 rfl dX9_told_87 fl_9_91 (by decide) (gT hG2 (IsMk_t1 hG.2.2.2.2) (IsMk_lt hG.2.2.2.2 (k := 1) (by decide))) ?_
        exact w_iret dX9_told_90 rfl h
      by_cases hz3 : x1 = 3
      · refine i_tabIn (off := 71) (tgt := 91) 3 hz3 dX9_told_20 rx1 (by decide) (by decide) rfl rfl ?_
        replace h := h.2.2.2.1 hz3
        refine w_aload_n dX9_told_91 rfl (List.Mem.head _) ?_
        refine w_getM (ci := 9) (k := 5) (b := u) dX9_told_92 fl_9_48 (by decide) (gT hG2 rfl (lt_of rfl)) hG2.2.2.1 ?_
        refine i_getI (ci := 2) 8 rfl dX9_told_95 fl_9_103 (by decide) (gT hG2 (IsMk_t0 hG.2.2.2.2) (IsMk_lt hG.2.2.2.2 (k := 0) (by decide))) ?_
        exact w_iret dX9_told_98 rfl h
      by_cases hz4 : x1 = 4
      · refine i_tabIn (off := 79) (tgt := 99) 4 hz4 dX9_told_20 rx1 (by decide) (by decide) rfl rfl ?_
        replace h := h.2.2.2.2.1 hz4
        refine w_aload_n dX9_told_99 rfl (List.Mem.head _) ?_
        refine w_getM (ci := 9) (k := 5) (b := u) dX9_told_100 fl_9_48 (by decide) (gT hG2 rfl (lt_of rfl)) hG2.2.2.1 ?_
        refine i_getI (ci := 2) 9 rfl dX9_told_103 fl_9_106 (by decide) (gT hG2 (IsMk_t0 hG.2.2.2.2) (IsMk_lt hG.2.2.2.2 (k := 0) (by decide))) ?_
        exact w_iret dX9_told_106 rfl h
      by_cases hz5 : x1 = 5
      · refine i_tabIn (off := 87) (tgt := 107) 5 hz5 dX9_told_20 rx1 (by decide) (by decide) rfl rfl ?_
        replace h := h.2.2.2.2.2.1 hz5
        refine w_aload_n dX9_told_107 rfl (List.Mem.head _) ?_
        refine w_getM (ci := 9) (k := 5) (b := u) dX9_told_108 fl_9_48 (by decide) (gT hG2 rfl (lt_of rfl)) hG2.2.2.1 ?_
        refine i_getI (ci := 2) 5 rfl dX9_told_111 fl_9_109 (by decide) (gT hG2 (IsMk_t0 hG.2.2.2.2) (IsMk_lt hG.2.2.2.2 (k := 0) (by decide))) ?_
        exact w_iret dX9_told_114 rfl h
      have hz6 : x1 = 6 := by omega
      refine i_tabIn (off := 95) (tgt := 115) 6 hz6 dX9_told_20 rx1 (by decide) (by decide) rfl rfl ?_
      replace h := h.2.2.2.2.2.2 hz6
      refine w_aload_n dX9_told_115 rfl (List.Mem.head _) ?_
      refine w_getM (ci := 9) (k := 5) (b := u) dX9_told_116 fl_9_48 (by decide) (gT hG2 rfl (lt_of rfl)) hG2.2.2.1 ?_
      refine i_getI (ci := 2) 6 rfl dX9_told_119 fl_9_112 (by decide) (gT hG2 (IsMk_t0 hG.2.2.2.2) (IsMk_lt hG.2.2.2.2 (k := 0) (by decide))) ?_
      exact w_iret dX9_told_122 rfl h
theorem dX9_stall_0 : decode cX9_stall 0 = .ok (.aload_n 0, 1) := by decide +kernel
theorem dX9_stall_1 : decode cX9_stall 1 = .ok (.iload_n 1, 1) := by decide +kernel
theorem dX9_stall_2 : decode cX9_stall 2 = .ok (.invokevirtual 118, 3) := by decide +kernel
theorem dX9_stall_5 : decode cX9_stall 5 = .ok (.aload_n 0, 1) := by decide +kernel
theorem dX9_stall_6 : decode cX9_stall 6 = .ok (.iload_n 2, 1) := by decide +kernel
theorem dX9_stall_7 : decode cX9_stall 7 = .ok (.ifCond .lt 13, 3) := by decide +kernel
theorem dX9_stall_10 : decode cX9_stall 10 = .ok (.iload_n 2, 1) := by decide +kernel
theorem dX9_stall_11 : decode cX9_stall 11 = .ok (.bipush 6, 2) := by decide +kernel
theorem dX9_stall_13 : decode cX9_stall 13 = .ok (.if_icmp .gt 7, 3) := by decide +kernel
theorem dX9_stall_16 : decode cX9_stall 16 = .ok (.iconst 1, 1) := by decide +kernel
theorem dX9_stall_17 : decode cX9_stall 17 = .ok (.goto 4, 3) := by decide +kernel
theorem dX9_stall_20 : decode cX9_stall 20 = .ok (.iconst 0, 1) := by decide +kernel
theorem dX9_stall_21 : decode cX9_stall 21 = .ok (.invokevirtual 69, 3) := by decide +kernel
theorem dX9_stall_24 : decode cX9_stall 24 = .ok (.aload_n 0, 1) := by decide +kernel
theorem dX9_stall_25 : decode cX9_stall 25 = .ok (.getfield 48, 3) := by decide +kernel
theorem dX9_stall_28 : decode cX9_stall 28 = .ok (.getfield 87, 3) := by decide +kernel
theorem dX9_stall_31 : decode cX9_stall 31 = .ok (.astore_n 3, 1) := by decide +kernel
theorem dX9_stall_32 : decode cX9_stall 32 = .ok (.iload_n 2, 1) := by decide +kernel
theorem dX9_stall_33 : decode cX9_stall 33 = .ok (.tableswitch 81 0 5 #[39, 46, 53, 60, 67, 74], 39) := by decide +kernel
theorem dX9_stall_72 : decode cX9_stall 72 = .ok (.aload_n 3, 1) := by decide +kernel
theorem dX9_stall_73 : decode cX9_stall 73 = .ok (.getfield 121, 3) := by decide +kernel
theorem dX9_stall_76 : decode cX9_stall 76 = .ok (.iload_n 1, 1) := by decide +kernel
theorem dX9_stall_77 : decode cX9_stall 77 = .ok (.iaload, 1) := by decide +kernel
theorem dX9_stall_78 : decode cX9_stall 78 = .ok (.ireturn, 1) := by decide +kernel
theorem dX9_stall_79 : decode cX9_stall 79 = .ok (.aload_n 3, 1) := by decide +kernel
theorem dX9_stall_80 : decode cX9_stall 80 = .ok (.getfield 125, 3) := by decide +kernel
theorem dX9_stall_83 : decode cX9_stall 83 = .ok (.iload_n 1, 1) := by decide +kernel
theorem dX9_stall_84 : decode cX9_stall 84 = .ok (.iaload, 1) := by decide +kernel
theorem dX9_stall_85 : decode cX9_stall 85 = .ok (.ireturn, 1) := by decide +kernel
theorem dX9_stall_86 : decode cX9_stall 86 = .ok (.aload_n 3, 1) := by decide +kernel
theorem dX9_stall_87 : decode cX9_stall 87 = .ok (.getfield 128, 3) := by decide +kernel
theorem dX9_stall_90 : decode cX9_stall 90 = .ok (.iload_n 1, 1) := by decide +kernel
theorem dX9_stall_91 : decode cX9_stall 91 = .ok (.iaload, 1) := by decide +kernel
theorem dX9_stall_92 : decode cX9_stall 92 = .ok (.ireturn, 1) := by decide +kernel
theorem dX9_stall_93 : decode cX9_stall 93 = .ok (.aload_n 3, 1) := by decide +kernel
theorem dX9_stall_94 : decode cX9_stall 94 = .ok (.getfield 131, 3) := by decide +kernel
theorem dX9_stall_97 : decode cX9_stall 97 = .ok (.iload_n 1, 1) := by decide +kernel
theorem dX9_stall_98 : decode cX9_stall 98 = .ok (.iaload, 1) := by decide +kernel
theorem dX9_stall_99 : decode cX9_stall 99 = .ok (.ireturn, 1) := by decide +kernel
theorem dX9_stall_100 : decode cX9_stall 100 = .ok (.aload_n 3, 1) := by decide +kernel
theorem dX9_stall_101 : decode cX9_stall 101 = .ok (.getfield 134, 3) := by decide +kernel
theorem dX9_stall_104 : decode cX9_stall 104 = .ok (.iload_n 1, 1) := by decide +kernel
theorem dX9_stall_105 : decode cX9_stall 105 = .ok (.iaload, 1) := by decide +kernel
theorem dX9_stall_106 : decode cX9_stall 106 = .ok (.ireturn, 1) := by decide +kernel
theorem dX9_stall_107 : decode cX9_stall 107 = .ok (.aload_n 3, 1) := by decide +kernel
theorem dX9_stall_108 : decode cX9_stall 108 = .ok (.getfield 137, 3) := by decide +kernel
theorem dX9_stall_111 : decode cX9_stall 111 = .ok (.iload_n 1, 1) := by decide +kernel
theorem dX9_stall_112 : decode cX9_stall 112 = .ok (.iaload, 1) := by decide +kernel
theorem dX9_stall_113 : decode cX9_stall 113 = .ok (.ireturn, 1) := by decide +kernel
theorem dX9_stall_114 : decode cX9_stall 114 = .ok (.aload_n 3, 1) := by decide +kernel
theorem dX9_stall_115 : decode cX9_stall 115 = .ok (.getfield 140, 3) := by decide +kernel
theorem dX9_stall_118 : decode cX9_stall 118 = .ok (.iload_n 1, 1) := by decide +kernel
theorem dX9_stall_119 : decode cX9_stall 119 = .ok (.iaload, 1) := by decide +kernel
theorem dX9_stall_120 : decode cX9_stall 120 = .ok (.ireturn, 1) := by decide +kernel
def L_X9_stall_21 (C : aM → List Value → aH → aO → aH → Prop) (sc : Nat × (Nat → Int32)) (P : aO → aH → Prop) (x1 : Int) (x2 : Int) (s0 : Int) (σ : aH) : Prop :=
    wp C 9 cX9_stall 4 (some .int) false [] sc P 21 [(0, .ref 0), (1, .int (nZ x1)), (2, .int (nZ x2))] [.int (nZ s0), .ref 0] σ
set_option maxRecDepth 10000 in
theorem t_X9_stall {sc : Nat × (Nat → Int32)} {d : Nat} {Q : aO → aH → Prop} {σ : aH} {u : Nat}  {x1 : Int} {x2 : Int} (hG : G σ u) (rx1 : inR x1) (rx2 : inR x2)
    (h : ((∃ (e9 : Nat) (σ1 : aH), Ev sc d mX9_requireStall [.ref 0, .int (nZ x1)] σ (.inr e9) σ1 ∧ Q (.inr e9) σ1) ∨ (∃ σ1 : aH, Ev sc d mX9_requireStall [.ref 0, .int (nZ x1)] σ (.inl none) σ1 ∧ G σ1 u ∧ ((x2 < 0 → L_X9_stall_21 (Ev sc d) sc Q x1 x2 0 σ1) ∧ (¬ (x2 < 0) → ((6 < x2 → L_X9_stall_21 (Ev sc d) sc Q x1 x2 0 σ1) ∧ (¬ (6 < x2) → L_X9_stall_21 (Ev sc d) sc Q x1 x2 1 σ1))))))) :
    T sc (d + 1) mX9_stall [.ref 0, .int (nZ x1), .int (nZ x2)] σ Q := by
  refine T.of (c := 9) (code := cX9_stall) (mL := 4) (rt := (some .int)) (ini := false) (l := [(0, .ref 0), (1, .int (nZ x1)), (2, .int (nZ x2))]) rfl rfl rfl rfl (by decide) hs_X9_stall rfl rfl ?_
  refine w_aload_n dX9_stall_0 rfl (List.Mem.head _) ?_
  refine w_iload_n dX9_stall_1 rfl (List.Mem.tail _ (List.Mem.head _)) ?_
  rcases h with h | h
  · obtain ⟨e9, σ1, hc3, h⟩ := h
    exact w_throwV dX9_stall_2 mp_9_118 ⟨ok_X9_requireStall, vi_X9_requireStall⟩ hs_X9_requireStall (As := [.int (nZ x1)]) rfl rfl (gT hG rfl (lt_of rfl)) (Nat.le_of_ble_eq_true rfl) hc3 rfl h
  · obtain ⟨σ1, hc3, hG2, h⟩ := h
    refine w_callV dX9_stall_2 ml_9_118 ⟨ok_X9_requireStall, vi_X9_requireStall⟩ hs_X9_requireStall (As := [.int (nZ x1)]) rfl rfl (gT hG rfl (lt_of rfl)) (Nat.le_of_ble_eq_true rfl) hc3 ?_
    show wp (Ev sc d) 9 cX9_stall 4 (some .int) false [] sc Q 5 [(0, .ref 0), (1, .int (nZ x1)), (2, .int (nZ x2))] [] σ1
    refine w_aload_n dX9_stall_5 rfl (List.Mem.head _) ?_
    refine w_iload_n dX9_stall_6 rfl (List.Mem.tail _ (List.Mem.tail _ (List.Mem.head _))) ?_
    refine i_if_lt (tgt := 20) dX9_stall_7 rfl rx2 (fun c9 => ?_) (fun c9 => ?_)
    · replace h := h.1 c9
      refine w_iconst (v := nZ 0) dX9_stall_20 (by decide) ?_
      exact h
    · replace h := h.2 c9
      refine w_iload_n dX9_stall_10 rfl (List.Mem.tail _ (List.Mem.tail _ (List.Mem.head _))) ?_
      refine w_bipush (v := nZ 6) dX9_stall_11 (by decide) ?_
      refine i_cmp_gt (tgt := 20) dX9_stall_13 rfl rx2 (by decide) (fun c9 => ?_) (fun c9 => ?_)
      · replace h := h.1 c9
        refine w_iconst (v := nZ 0) dX9_stall_20 (by decide) ?_
        exact h
      · replace h := h.2 c9
        refine w_iconst (v := nZ 1) dX9_stall_16 (by decide) ?_
        refine w_goto (tgt := 21) dX9_stall_17 rfl ?_
        exact h
set_option maxRecDepth 10000 in
theorem v_X9_stall_21 {C : aM → List Value → aH → aO → aH → Prop} {sc : Nat × (Nat → Int32)} {P : aO → aH → Prop} {σ : aH} {u : Nat}  {x1 : Int} {x2 : Int} {s0 : Int} (hG : G σ u) (rx1 : inR x1) (rx2 : inR x2) (rs0 : inR s0)
    (h : ((∃ (e9 : Nat) (σ1 : aH), C mX9_require [.ref 0, .int (nZ s0)] σ (.inr e9) σ1 ∧ P (.inr e9) σ1) ∨ (∃ σ1 : aH, C mX9_require [.ref 0, .int (nZ s0)] σ (.inl none) σ1 ∧ G σ1 u ∧ (((x2 < 0 ∨ 5 < x2) → ((0 ≤ x1 ∧ x1 < 9) ∧ P (.inl (some (.int (nZ (rI σ1 (u + 8) x1))))) σ1)) ∧ (x2 = 0 → ((0 ≤ x1 ∧ x1 < 9) ∧ P (.inl (some (.int (nZ (rI σ1 (u + 2) x1))))) σ1)) ∧ (x2 = 1 → ((0 ≤ x1 ∧ x1 < 9) ∧ P (.inl (some (.int (nZ (rI σ1 (u + 3) x1))))) σ1)) ∧ (x2 = 2 → ((0 ≤ x1 ∧ x1 < 9) ∧ P (.inl (some (.int (nZ (rI σ1 (u + 4) x1))))) σ1)) ∧ (x2 = 3 → ((0 ≤ x1 ∧ x1 < 9) ∧ P (.inl (some (.int (nZ (rI σ1 (u + 5) x1))))) σ1)) ∧ (x2 = 4 → ((0 ≤ x1 ∧ x1 < 9) ∧ P (.inl (some (.int (nZ (rI σ1 (u + 6) x1))))) σ1)) ∧ (x2 = 5 → ((0 ≤ x1 ∧ x1 < 9) ∧ P (.inl (some (.int (nZ (rI σ1 (u + 7) x1))))) σ1)))))) :
    L_X9_stall_21 C sc P x1 x2 s0 σ := by
  unfold L_X9_stall_21
  rcases h with h | h
  · obtain ⟨e9, σ1, hc3, h⟩ := h
    exact w_throwV dX9_stall_21 mp_9_69 ⟨ok_X9_require, vi_X9_require⟩ hs_X9_require (As := [.int (nZ s0)]) rfl rfl (gT hG rfl (lt_of rfl)) (Nat.le_of_ble_eq_true rfl) hc3 rfl h
  · obtain ⟨σ1, hc3, hG2, h⟩ := h
    refine w_callV dX9_stall_21 ml_9_69 ⟨ok_X9_require, vi_X9_require⟩ hs_X9_require (As := [.int (nZ s0)]) rfl rfl (gT hG rfl (lt_of rfl)) (Nat.le_of_ble_eq_true rfl) hc3 ?_
    show wp C 9 cX9_stall 4 (some .int) false [] sc P 24 [(0, .ref 0), (1, .int (nZ x1)), (2, .int (nZ x2))] [] σ1
    refine w_aload_n dX9_stall_24 rfl (List.Mem.head _) ?_
    refine w_getM (ci := 9) (k := 5) (b := u) dX9_stall_25 fl_9_48 (by decide) (gT hG2 rfl (lt_of rfl)) hG2.2.2.1 ?_
    refine w_getR (ci := 2) (k := 0) (b := (u + 1)) dX9_stall_28 fl_9_87 (by decide) (gT hG2 (IsMk_t0 hG.2.2.2.2) (IsMk_lt hG.2.2.2.2 (k := 0) (by decide))) (gR hG2 (IsMk_r0_0 hG.2.2.2.2)) ?_
    refine w_astore_n (l' := [(3, .ref (u + 1)), (0, .ref 0), (1, .int (nZ x1)), (2, .int (nZ x2))]) dX9_stall_31 rfl (by decide) rfl ?_
    refine w_iload_n dX9_stall_32 rfl (List.Mem.tail _ (List.Mem.tail _ (List.Mem.tail _ (List.Mem.head _)))) ?_
    rcases sw_cases x2 0 5 with hz | hz
    · replace h := h.1 hz
      refine i_tabOut (tgt := 114) dX9_stall_33 rx2 hz rfl ?_
      refine w_aload_n dX9_stall_114 rfl (List.Mem.head _) ?_
      refine w_getR (ci := 7) (k := 6) (b := (u + 8)) dX9_stall_115 fl_9_140 (by decide) (gT hG2 (IsMk_t1 hG.2.2.2.2) (IsMk_lt hG.2.2.2.2 (k := 1) (by decide))) (gR hG2 (IsMk_r1_6 hG.2.2.2.2)) ?_
      refine w_iload_n dX9_stall_118 rfl (List.Mem.tail _ (List.Mem.tail _ (List.Mem.head _))) ?_
      obtain ⟨h9, h⟩ := h
      refine i_iald (n := 9) dX9_stall_119 (gT hG2 (IsMk_t8 hG.2.2.2.2) (IsMk_lt hG.2.2.2.2 (k := 8) (by decide))) (gL hG2 (IsMk_n8 hG.2.2.2.2)) rx1 h9 ?_
      exact w_iret dX9_stall_120 rfl h
    · replace h := h.2
      by_cases hz0 : x2 = 0
      · refine i_tabIn (off := 39) (tgt := 72) 0 hz0 dX9_stall_33 rx2 (by decide) (by decide) rfl rfl ?_
        replace h := h.1 hz0
        refine w_aload_n dX9_stall_72 rfl (List.Mem.head _) ?_
        refine w_getR (ci := 7) (k := 0) (b := (u + 2)) dX9_stall_73 fl_9_121 (by decide) (gT hG2 (IsMk_t1 hG.2.2.2.2) (IsMk_lt hG.2.2.2.2 (k := 1) (by decide))) (gR hG2 (IsMk_r1_0 hG.2.2.2.2)) ?_
        refine w_iload_n dX9_stall_76 rfl (List.Mem.tail _ (List.Mem.tail _ (List.Mem.head _))) ?_
        obtain ⟨h9, h⟩ := h
        refine i_iald (n := 9) dX9_stall_77 (gT hG2 (IsMk_t2 hG.2.2.2.2) (IsMk_lt hG.2.2.2.2 (k := 2) (by decide))) (gL hG2 (IsMk_n2 hG.2.2.2.2)) rx1 h9 ?_
        exact w_iret dX9_stall_78 rfl h
      by_cases hz1 : x2 = 1
      · refine i_tabIn (off := 46) (tgt := 79) 1 hz1 dX9_stall_33 rx2 (by decide) (by decide) rfl rfl ?_
        replace h := h.2.1 hz1
        refine w_aload_n dX9_stall_79 rfl (List.Mem.head _) ?_
        refine w_getR (ci := 7) (k := 1) (b := (u + 3)) dX9_stall_80 fl_9_125 (by decide) (gT hG2 (IsMk_t1 hG.2.2.2.2) (IsMk_lt hG.2.2.2.2 (k := 1) (by decide))) (gR hG2 (IsMk_r1_1 hG.2.2.2.2)) ?_
        refine w_iload_n dX9_stall_83 rfl (List.Mem.tail _ (List.Mem.tail _ (List.Mem.head _))) ?_
        obtain ⟨h9, h⟩ := h
        refine i_iald (n := 9) dX9_stall_84 (gT hG2 (IsMk_t3 hG.2.2.2.2) (IsMk_lt hG.2.2.2.2 (k := 3) (by decide))) (gL hG2 (IsMk_n3 hG.2.2.2.2)) rx1 h9 ?_
        exact w_iret dX9_stall_85 rfl h
      by_cases hz2 : x2 = 2
      · refine i_tabIn (off := 53) (tgt := 86) 2 hz2 dX9_stall_33 rx2 (by decide) (by decide) rfl rfl ?_
        replace h := h.2.2.1 hz2
        refine w_aload_n dX9_stall_86 rfl (List.Mem.head _) ?_
        refine w_getR (ci := 7) (k := 2) (b := (u + 4)) dX9_stall_87 fl_9_128 (by decide) (gT hG2 (IsMk_t1 hG.2.2.2.2) (IsMk_lt hG.2.2.2.2 (k := 1) (by decide))) (gR hG2 (IsMk_r1_2 hG.2.2.2.2)) ?_
        refine w_iload_n dX9_stall_90 rfl (List.Mem.tail _ (List.Mem.tail _ (List.Mem.head _))) ?_
        obtain ⟨h9, h⟩ := h
        refine i_iald (n := 9) dX9_stall_91 (gT hG2 (IsMk_t4 hG.2.2.2.2) (IsMk_lt hG.2.2.2.2 (k := 4) (by decide))) (gL hG2 (IsMk_n4 hG.2.2.2.2)) rx1 h9 ?_
        exact w_iret dX9_stall_92 rfl h
      by_cases hz3 : x2 = 3
      · refine i_tabIn (off := 60) (tgt := 93) 3 hz3 dX9_stall_33 rx2 (by decide) (by decide) rfl rfl ?_
        replace h := h.2.2.2.1 hz3
        refine w_aload_n dX9_stall_93 rfl (List.Mem.head _) ?_
        refine w_getR (ci := 7) (k := 3) (b := (u + 5)) dX9_stall_94 fl_9_131 (by decide) (gT hG2 (IsMk_t1 hG.2.2.2.2) (IsMk_lt hG.2.2.2.2 (k := 1) (by decide))) (gR hG2 (IsMk_r1_3 hG.2.2.2.2)) ?_
        refine w_iload_n dX9_stall_97 rfl (List.Mem.tail _ (List.Mem.tail _ (List.Mem.head _))) ?_
        obtain ⟨h9, h⟩ := h
        refine i_iald (n := 9) dX9_stall_98 (gT hG2 (IsMk_t5 hG.2.2.2.2) (IsMk_lt hG.2.2.2.2 (k := 5) (by decide))) (gL hG2 (IsMk_n5 hG.2.2.2.2)) rx1 h9 ?_
        exact w_iret dX9_stall_99 rfl h
      by_cases hz4 : x2 = 4
      · refine i_tabIn (off := 67) (tgt := 100) 4 hz4 dX9_stall_33 rx2 (by decide) (by decide) rfl rfl ?_
        replace h := h.2.2.2.2.1 hz4
        refine w_aload_n dX9_stall_100 rfl (List.Mem.head _) ?_
        refine w_getR (ci := 7) (k := 4) (b := (u + 6)) dX9_stall_101 fl_9_134 (by decide) (gT hG2 (IsMk_t1 hG.2.2.2.2) (IsMk_lt hG.2.2.2.2 (k := 1) (by decide))) (gR hG2 (IsMk_r1_4 hG.2.2.2.2)) ?_
        refine w_iload_n dX9_stall_104 rfl (List.Mem.tail _ (List.Mem.tail _ (List.Mem.head _))) ?_
        obtain ⟨h9, h⟩ := h
        refine i_iald (n := 9) dX9_stall_105 (gT hG2 (IsMk_t6 hG.2.2.2.2) (IsMk_lt hG.2.2.2.2 (k := 6) (by decide))) (gL hG2 (IsMk_n6 hG.2.2.2.2)) rx1 h9 ?_
        exact w_iret dX9_stall_106 rfl h
      have hz5 : x2 = 5 := by omega
      refine i_tabIn (off := 74) (tgt := 107) 5 hz5 dX9_stall_33 rx2 (by decide) (by decide) rfl rfl ?_
      replace h := h.2.2.2.2.2 hz5
      refine w_aload_n dX9_stall_107 rfl (List.Mem.head _) ?_
      refine w_getR (ci := 7) (k := 5) (b := (u + 7)) dX9_stall_108 fl_9_137 (by decide) (gT hG2 (IsMk_t1 hG.2.2.2.2) (IsMk_lt hG.2.2.2.2 (k := 1) (by decide))) (gR hG2 (IsMk_r1_5 hG.2.2.2.2)) ?_
      refine w_iload_n dX9_stall_111 rfl (List.Mem.tail _ (List.Mem.tail _ (List.Mem.head _))) ?_
      obtain ⟨h9, h⟩ := h
      refine i_iald (n := 9) dX9_stall_112 (gT hG2 (IsMk_t7 hG.2.2.2.2) (IsMk_lt hG.2.2.2.2 (k := 7) (by decide))) (gL hG2 (IsMk_n7 hG.2.2.2.2)) rx1 h9 ?_
      exact w_iret dX9_stall_113 rfl h
theorem dX9_length_0 : decode cX9_length 0 = .ok (.aload_n 0, 1) := by decide +kernel
theorem dX9_length_1 : decode cX9_length 1 = .ok (.iload_n 1, 1) := by decide +kernel
theorem dX9_length_2 : decode cX9_length 2 = .ok (.invokevirtual 118, 3) := by decide +kernel
theorem dX9_length_5 : decode cX9_length 5 = .ok (.aload_n 0, 1) := by decide +kernel
theorem dX9_length_6 : decode cX9_length 6 = .ok (.iload_n 2, 1) := by decide +kernel
theorem dX9_length_7 : decode cX9_length 7 = .ok (.invokestatic 143, 3) := by decide +kernel
theorem dX9_length_10 : decode cX9_length 10 = .ok (.invokevirtual 69, 3) := by decide +kernel
theorem dX9_length_13 : decode cX9_length 13 = .ok (.aload_n 0, 1) := by decide +kernel
theorem dX9_length_14 : decode cX9_length 14 = .ok (.getfield 41, 3) := by decide +kernel
theorem dX9_length_17 : decode cX9_length 17 = .ok (.iload_n 1, 1) := by decide +kernel
theorem dX9_length_18 : decode cX9_length 18 = .ok (.iload_n 2, 1) := by decide +kernel
theorem dX9_length_19 : decode cX9_length 19 = .ok (.invokevirtual 147, 3) := by decide +kernel
theorem dX9_length_22 : decode cX9_length 22 = .ok (.ireturn, 1) := by decide +kernel
set_option maxRecDepth 10000 in
theorem t_X9_length {sc : Nat × (Nat → Int32)} {d : Nat} {Q : aO → aH → Prop} {σ : aH} {u : Nat}  {x1 : Int} {x2 : Int} (hG : G σ u) (rx1 : inR x1) (rx2 : inR x2)
    (h : ((∃ (e9 : Nat) (σ1 : aH), Ev sc d mX9_requireStall [.ref 0, .int (nZ x1)] σ (.inr e9) σ1 ∧ Q (.inr e9) σ1) ∨ (∃ σ1 : aH, Ev sc d mX9_requireStall [.ref 0, .int (nZ x1)] σ (.inl none) σ1 ∧ G σ1 u ∧ (∃ (r9 : Int) (σ5 : aH), Ev sc d mX9_isMinute [.int (nZ x2)] σ1 (.inl (some (.int (nZ r9)))) σ5 ∧ G σ5 u ∧ inR r9 ∧ ((∃ (e9 : Nat) (σ10 : aH), Ev sc d mX9_require [.ref 0, .int (nZ r9)] σ5 (.inr e9) σ10 ∧ Q (.inr e9) σ10) ∨ (∃ σ10 : aH, Ev sc d mX9_require [.ref 0, .int (nZ r9)] σ5 (.inl none) σ10 ∧ G σ10 u ∧ (∃ (r18 : Int) (σ14 : aH), Ev sc d mX6_reach [.ref 27, .int (nZ x1), .int (nZ x2)] σ10 (.inl (some (.int (nZ r18)))) σ14 ∧ G σ14 u ∧ inR r18 ∧ Q (.inl (some (.int (nZ r18)))) σ14))))))) :
    T sc (d + 1) mX9_length [.ref 0, .int (nZ x1), .int (nZ x2)] σ Q := by
  refine T.of (c := 9) (code := cX9_length) (mL := 3) (rt := (some .int)) (ini := false) (l := [(0, .ref 0), (1, .int (nZ x1)), (2, .int (nZ x2))]) rfl rfl rfl rfl (by decide) hs_X9_length rfl rfl ?_
  refine w_aload_n dX9_length_0 rfl (List.Mem.head _) ?_
  refine w_iload_n dX9_length_1 rfl (List.Mem.tail _ (List.Mem.head _)) ?_
  rcases h with h | h
  · obtain ⟨e9, σ1, hc3, h⟩ := h
    exact w_throwV dX9_length_2 mp_9_118 ⟨ok_X9_requireStall, vi_X9_requireStall⟩ hs_X9_requireStall (As := [.int (nZ x1)]) rfl rfl (gT hG rfl (lt_of rfl)) (Nat.le_of_ble_eq_true rfl) hc3 rfl h
  · obtain ⟨σ1, hc3, hG2, h⟩ := h
    refine w_callV dX9_length_2 ml_9_118 ⟨ok_X9_requireStall, vi_X9_requireStall⟩ hs_X9_requireStall (As := [.int (nZ x1)]) rfl rfl (gT hG rfl (lt_of rfl)) (Nat.le_of_ble_eq_true rfl) hc3 ?_
    show wp (Ev sc d) 9 cX9_length 3 (some .int) false [] sc Q 5 [(0, .ref 0), (1, .int (nZ x1)), (2, .int (nZ x2))] [] σ1
    refine w_aload_n dX9_length_5 rfl (List.Mem.head _) ?_
    refine w_iload_n dX9_length_6 rfl (List.Mem.tail _ (List.Mem.tail _ (List.Mem.head _))) ?_
    obtain ⟨r9, σ5, hc7, hG6, rr8, h⟩ := h
    refine w_callS dX9_length_7 ml_9_143 ⟨ok_X9_isMinute, st_X9_isMinute⟩ hs_X9_isMinute (As := [.int (nZ x2)]) rfl rfl (Nat.le_of_ble_eq_true rfl) hc7 ?_
    show wp (Ev sc d) 9 cX9_length 3 (some .int) false [] sc Q 10 [(0, .ref 0), (1, .int (nZ x1)), (2, .int (nZ x2))] [.int (nZ r9), .ref 0] σ5
    rcases h with h | h
    · obtain ⟨e9, σ10, hc12, h⟩ := h
      exact w_throwV dX9_length_10 mp_9_69 ⟨ok_X9_require, vi_X9_require⟩ hs_X9_require (As := [.int (nZ r9)]) rfl rfl (gT hG6 rfl (lt_of rfl)) (Nat.le_of_ble_eq_true rfl) hc12 rfl h
    · obtain ⟨σ10, hc12, hG11, h⟩ := h
      refine w_callV dX9_length_10 ml_9_69 ⟨ok_X9_require, vi_X9_require⟩ hs_X9_require (As := [.int (nZ r9)]) rfl rfl (gT hG6 rfl (lt_of rfl)) (Nat.le_of_ble_eq_true rfl) hc12 ?_
      show wp (Ev sc d) 9 cX9_length 3 (some .int) false [] sc Q 13 [(0, .ref 0), (1, .int (nZ x1)), (2, .int (nZ x2))] [] σ10
      refine w_aload_n dX9_length_13 rfl (List.Mem.head _) ?_
      refine w_getR (ci := 9) (k := 4) (b := 27) dX9_length_14 fl_9_41 (by decide) (gT hG11 rfl (lt_of rfl)) (gR hG11 (b := 27) rfl) ?_
      refine w_iload_n dX9_length_17 rfl (List.Mem.tail _ (List.Mem.head _)) ?_
      refine w_iload_n dX9_length_18 rfl (List.Mem.tail _ (List.Mem.tail _ (List.Mem.head _))) ?_
      obtain ⟨r18, σ14, hc16, hG15, rr17, h⟩ := h
      refine w_callV dX9_length_19 ml_9_147 ⟨ok_X6_reach, vi_X6_reach⟩ hs_X6_reach (As := [.int (nZ x1), .int (nZ x2)]) rfl rfl (gT hG11 rfl (lt_of rfl)) (Nat.le_of_ble_eq_true rfl) hc16 ?_
      show wp (Ev sc d) 9 cX9_length 3 (some .int) false [] sc Q 22 [(0, .ref 0), (1, .int (nZ x1)), (2, .int (nZ x2))] [.int (nZ r18)] σ14
      exact w_iret dX9_length_22 rfl h
theorem dX9_shades_0 : decode cX9_shades 0 = .ok (.aload_n 0, 1) := by decide +kernel
theorem dX9_shades_1 : decode cX9_shades 1 = .ok (.iload_n 1, 1) := by decide +kernel
theorem dX9_shades_2 : decode cX9_shades 2 = .ok (.iload_n 2, 1) := by decide +kernel
theorem dX9_shades_3 : decode cX9_shades 3 = .ok (.invokevirtual 151, 3) := by decide +kernel
theorem dX9_shades_6 : decode cX9_shades 6 = .ok (.aload_n 0, 1) := by decide +kernel
theorem dX9_shades_7 : decode cX9_shades 7 = .ok (.iload_n 3, 1) := by decide +kernel
theorem dX9_shades_8 : decode cX9_shades 8 = .ok (.invokestatic 143, 3) := by decide +kernel
theorem dX9_shades_11 : decode cX9_shades 11 = .ok (.invokevirtual 69, 3) := by decide +kernel
theorem dX9_shades_14 : decode cX9_shades 14 = .ok (.aload_n 0, 1) := by decide +kernel
theorem dX9_shades_15 : decode cX9_shades 15 = .ok (.getfield 41, 3) := by decide +kernel
theorem dX9_shades_18 : decode cX9_shades 18 = .ok (.iload_n 1, 1) := by decide +kernel
theorem dX9_shades_19 : decode cX9_shades 19 = .ok (.iload_n 2, 1) := by decide +kernel
theorem dX9_shades_20 : decode cX9_shades 20 = .ok (.aload_n 0, 1) := by decide +kernel
theorem dX9_shades_21 : decode cX9_shades 21 = .ok (.getfield 48, 3) := by decide +kernel
theorem dX9_shades_24 : decode cX9_shades 24 = .ok (.iload_n 3, 1) := by decide +kernel
theorem dX9_shades_25 : decode cX9_shades 25 = .ok (.invokevirtual 155, 3) := by decide +kernel
theorem dX9_shades_28 : decode cX9_shades 28 = .ok (.invokevirtual 159, 3) := by decide +kernel
theorem dX9_shades_31 : decode cX9_shades 31 = .ok (.ireturn, 1) := by decide +kernel
set_option maxRecDepth 10000 in
theorem t_X9_shades {sc : Nat × (Nat → Int32)} {d : Nat} {Q : aO → aH → Prop} {σ : aH} {u : Nat}  {x1 : Int} {x2 : Int} {x3 : Int} (hG : G σ u) (rx1 : inR x1) (rx2 : inR x2) (rx3 : inR x3)
    (h : ((∃ (e9 : Nat) (σ1 : aH), Ev sc d mX9_requireTwo [.ref 0, .int (nZ x1), .int (nZ x2)] σ (.inr e9) σ1 ∧ Q (.inr e9) σ1) ∨ (∃ σ1 : aH, Ev sc d mX9_requireTwo [.ref 0, .int (nZ x1), .int (nZ x2)] σ (.inl none) σ1 ∧ G σ1 u ∧ (∃ (r9 : Int) (σ5 : aH), Ev sc d mX9_isMinute [.int (nZ x3)] σ1 (.inl (some (.int (nZ r9)))) σ5 ∧ G σ5 u ∧ inR r9 ∧ ((∃ (e9 : Nat) (σ10 : aH), Ev sc d mX9_require [.ref 0, .int (nZ r9)] σ5 (.inr e9) σ10 ∧ Q (.inr e9) σ10) ∨ (∃ σ10 : aH, Ev sc d mX9_require [.ref 0, .int (nZ r9)] σ5 (.inl none) σ10 ∧ G σ10 u ∧ (∃ (r18 : Int) (σ14 : aH), Ev sc d mX2_sunAt [.ref u, .int (nZ x3)] σ10 (.inl (some (.int (nZ r18)))) σ14 ∧ G σ14 u ∧ inR r18 ∧ (∃ (r23 : Int) (σ19 : aH), Ev sc d mX6_falls [.ref 27, .int (nZ x1), .int (nZ x2), .int (nZ r18)] σ14 (.inl (some (.int (nZ r23)))) σ19 ∧ G σ19 u ∧ inR r23 ∧ ((r23 = 0 ∨ r23 = 1) ∧ Q (.inl (some (.int (nZ r23)))) σ19))))))))) :
    T sc (d + 1) mX9_shades [.ref 0, .int (nZ x1), .int (nZ x2), .int (nZ x3)] σ Q := by
  refine T.of (c := 9) (code := cX9_shades) (mL := 4) (rt := (some .boolean)) (ini := false) (l := [(0, .ref 0), (1, .int (nZ x1)), (2, .int (nZ x2)), (3, .int (nZ x3))]) rfl rfl rfl rfl (by decide) hs_X9_shades rfl rfl ?_
  refine w_aload_n dX9_shades_0 rfl (List.Mem.head _) ?_
  refine w_iload_n dX9_shades_1 rfl (List.Mem.tail _ (List.Mem.head _)) ?_
  refine w_iload_n dX9_shades_2 rfl (List.Mem.tail _ (List.Mem.tail _ (List.Mem.head _))) ?_
  rcases h with h | h
  · obtain ⟨e9, σ1, hc3, h⟩ := h
    exact w_throwV dX9_shades_3 mp_9_151 ⟨ok_X9_requireTwo, vi_X9_requireTwo⟩ hs_X9_requireTwo (As := [.int (nZ x1), .int (nZ x2)]) rfl rfl (gT hG rfl (lt_of rfl)) (Nat.le_of_ble_eq_true rfl) hc3 rfl h
  · obtain ⟨σ1, hc3, hG2, h⟩ := h
    refine w_callV dX9_shades_3 ml_9_151 ⟨ok_X9_requireTwo, vi_X9_requireTwo⟩ hs_X9_requireTwo (As := [.int (nZ x1), .int (nZ x2)]) rfl rfl (gT hG rfl (lt_of rfl)) (Nat.le_of_ble_eq_true rfl) hc3 ?_
    show wp (Ev sc d) 9 cX9_shades 4 (some .boolean) false [] sc Q 6 [(0, .ref 0), (1, .int (nZ x1)), (2, .int (nZ x2)), (3, .int (nZ x3))] [] σ1
    refine w_aload_n dX9_shades_6 rfl (List.Mem.head _) ?_
    refine w_iload_n dX9_shades_7 rfl (List.Mem.tail _ (List.Mem.tail _ (List.Mem.tail _ (List.Mem.head _)))) ?_
    obtain ⟨r9, σ5, hc7, hG6, rr8, h⟩ := h
    refine w_callS dX9_shades_8 ml_9_143 ⟨ok_X9_isMinute, st_X9_isMinute⟩ hs_X9_isMinute (As := [.int (nZ x3)]) rfl rfl (Nat.le_of_ble_eq_true rfl) hc7 ?_
    show wp (Ev sc d) 9 cX9_shades 4 (some .boolean) false [] sc Q 11 [(0, .ref 0), (1, .int (nZ x1)), (2, .int (nZ x2)), (3, .int (nZ x3))] [.int (nZ r9), .ref 0] σ5
    rcases h with h | h
    · obtain ⟨e9, σ10, hc12, h⟩ := h
      exact w_throwV dX9_shades_11 mp_9_69 ⟨ok_X9_require, vi_X9_require⟩ hs_X9_require (As := [.int (nZ r9)]) rfl rfl (gT hG6 rfl (lt_of rfl)) (Nat.le_of_ble_eq_true rfl) hc12 rfl h
    · obtain ⟨σ10, hc12, hG11, h⟩ := h
      refine w_callV dX9_shades_11 ml_9_69 ⟨ok_X9_require, vi_X9_require⟩ hs_X9_require (As := [.int (nZ r9)]) rfl rfl (gT hG6 rfl (lt_of rfl)) (Nat.le_of_ble_eq_true rfl) hc12 ?_
      show wp (Ev sc d) 9 cX9_shades 4 (some .boolean) false [] sc Q 14 [(0, .ref 0), (1, .int (nZ x1)), (2, .int (nZ x2)), (3, .int (nZ x3))] [] σ10
      refine w_aload_n dX9_shades_14 rfl (List.Mem.head _) ?_
      refine w_getR (ci := 9) (k := 4) (b := 27) dX9_shades_15 fl_9_41 (by decide) (gT hG11 rfl (lt_of rfl)) (gR hG11 (b := 27) rfl) ?_
      refine w_iload_n dX9_shades_18 rfl (List.Mem.tail _ (List.Mem.head _)) ?_
      refine w_iload_n dX9_shades_19 rfl (List.Mem.tail _ (List.Mem.tail _ (List.Mem.head _))) ?_
      refine w_aload_n dX9_shades_20 rfl (List.Mem.head _) ?_
      refine w_getM (ci := 9) (k := 5) (b := u) dX9_shades_21 fl_9_48 (by decide) (gT hG11 rfl (lt_of rfl)) hG11.2.2.1 ?_
      refine w_iload_n dX9_shades_24 rfl (List.Mem.tail _ (List.Mem.tail _ (List.Mem.tail _ (List.Mem.head _)))) ?_
      obtain ⟨r18, σ14, hc16, hG15, rr17, h⟩ := h
      refine w_callV dX9_shades_25 ml_9_155 ⟨ok_X2_sunAt, vi_X2_sunAt⟩ hs_X2_sunAt (As := [.int (nZ x3)]) rfl rfl (gT hG11 (IsMk_t0 hG.2.2.2.2) (IsMk_lt hG.2.2.2.2 (k := 0) (by decide))) (Nat.le_of_ble_eq_true rfl) hc16 ?_
      show wp (Ev sc d) 9 cX9_shades 4 (some .boolean) false [] sc Q 28 [(0, .ref 0), (1, .int (nZ x1)), (2, .int (nZ x2)), (3, .int (nZ x3))] [.int (nZ r18), .int (nZ x2), .int (nZ x1), .ref 27] σ14
      obtain ⟨r23, σ19, hc21, hG20, rr22, h⟩ := h
      refine w_callV dX9_shades_28 ml_9_159 ⟨ok_X6_falls, vi_X6_falls⟩ hs_X6_falls (As := [.int (nZ x1), .int (nZ x2), .int (nZ r18)]) rfl rfl (gT hG15 rfl (lt_of rfl)) (Nat.le_of_ble_eq_true rfl) hc21 ?_
      show wp (Ev sc d) 9 cX9_shades 4 (some .boolean) false [] sc Q 31 [(0, .ref 0), (1, .int (nZ x1)), (2, .int (nZ x2)), (3, .int (nZ x3))] [.int (nZ r23)] σ19
      exact i_zret dX9_shades_31 rfl h.1 h.2
theorem dX9_under_0 : decode cX9_under 0 = .ok (.aload_n 0, 1) := by decide +kernel
theorem dX9_under_1 : decode cX9_under 1 = .ok (.iload_n 1, 1) := by decide +kernel
theorem dX9_under_2 : decode cX9_under 2 = .ok (.invokevirtual 118, 3) := by decide +kernel
theorem dX9_under_5 : decode cX9_under 5 = .ok (.aload_n 0, 1) := by decide +kernel
theorem dX9_under_6 : decode cX9_under 6 = .ok (.iload_n 2, 1) := by decide +kernel
theorem dX9_under_7 : decode cX9_under 7 = .ok (.invokestatic 143, 3) := by decide +kernel
theorem dX9_under_10 : decode cX9_under 10 = .ok (.invokevirtual 69, 3) := by decide +kernel
theorem dX9_under_13 : decode cX9_under 13 = .ok (.aload_n 0, 1) := by decide +kernel
theorem dX9_under_14 : decode cX9_under 14 = .ok (.getfield 41, 3) := by decide +kernel
theorem dX9_under_17 : decode cX9_under 17 = .ok (.iload_n 1, 1) := by decide +kernel
theorem dX9_under_18 : decode cX9_under 18 = .ok (.aload_n 0, 1) := by decide +kernel
theorem dX9_under_19 : decode cX9_under 19 = .ok (.getfield 48, 3) := by decide +kernel
theorem dX9_under_22 : decode cX9_under 22 = .ok (.iload_n 2, 1) := by decide +kernel
theorem dX9_under_23 : decode cX9_under 23 = .ok (.invokevirtual 155, 3) := by decide +kernel
theorem dX9_under_26 : decode cX9_under 26 = .ok (.invokevirtual 163, 3) := by decide +kernel
theorem dX9_under_29 : decode cX9_under 29 = .ok (.ireturn, 1) := by decide +kernel
set_option maxRecDepth 10000 in
theorem t_X9_under {sc : Nat × (Nat → Int32)} {d : Nat} {Q : aO → aH → Prop} {σ : aH} {u : Nat}  {x1 : Int} {x2 : Int} (hG : G σ u) (rx1 : inR x1) (rx2 : inR x2)
    (h : ((∃ (e9 : Nat) (σ1 : aH), Ev sc d mX9_requireStall [.ref 0, .int (nZ x1)] σ (.inr e9) σ1 ∧ Q (.inr e9) σ1) ∨ (∃ σ1 : aH, Ev sc d mX9_requireStall [.ref 0, .int (nZ x1)] σ (.inl none) σ1 ∧ G σ1 u ∧ (∃ (r9 : Int) (σ5 : aH), Ev sc d mX9_isMinute [.int (nZ x2)] σ1 (.inl (some (.int (nZ r9)))) σ5 ∧ G σ5 u ∧ inR r9 ∧ ((∃ (e9 : Nat) (σ10 : aH), Ev sc d mX9_require [.ref 0, .int (nZ r9)] σ5 (.inr e9) σ10 ∧ Q (.inr e9) σ10) ∨ (∃ σ10 : aH, Ev sc d mX9_require [.ref 0, .int (nZ r9)] σ5 (.inl none) σ10 ∧ G σ10 u ∧ (∃ (r18 : Int) (σ14 : aH), Ev sc d mX2_sunAt [.ref u, .int (nZ x2)] σ10 (.inl (some (.int (nZ r18)))) σ14 ∧ G σ14 u ∧ inR r18 ∧ (∃ (r23 : Int) (σ19 : aH), Ev sc d mX6_throwers [.ref 27, .int (nZ x1), .int (nZ r18)] σ14 (.inl (some (.int (nZ r23)))) σ19 ∧ G σ19 u ∧ inR r23 ∧ Q (.inl (some (.int (nZ r23)))) σ19)))))))) :
    T sc (d + 1) mX9_under [.ref 0, .int (nZ x1), .int (nZ x2)] σ Q := by
  refine T.of (c := 9) (code := cX9_under) (mL := 3) (rt := (some .int)) (ini := false) (l := [(0, .ref 0), (1, .int (nZ x1)), (2, .int (nZ x2))]) rfl rfl rfl rfl (by decide) hs_X9_under rfl rfl ?_
  refine w_aload_n dX9_under_0 rfl (List.Mem.head _) ?_
  refine w_iload_n dX9_under_1 rfl (List.Mem.tail _ (List.Mem.head _)) ?_
  rcases h with h | h
  · obtain ⟨e9, σ1, hc3, h⟩ := h
    exact w_throwV dX9_under_2 mp_9_118 ⟨ok_X9_requireStall, vi_X9_requireStall⟩ hs_X9_requireStall (As := [.int (nZ x1)]) rfl rfl (gT hG rfl (lt_of rfl)) (Nat.le_of_ble_eq_true rfl) hc3 rfl h
  · obtain ⟨σ1, hc3, hG2, h⟩ := h
    refine w_callV dX9_under_2 ml_9_118 ⟨ok_X9_requireStall, vi_X9_requireStall⟩ hs_X9_requireStall (As := [.int (nZ x1)]) rfl rfl (gT hG rfl (lt_of rfl)) (Nat.le_of_ble_eq_true rfl) hc3 ?_
    show wp (Ev sc d) 9 cX9_under 3 (some .int) false [] sc Q 5 [(0, .ref 0), (1, .int (nZ x1)), (2, .int (nZ x2))] [] σ1
    refine w_aload_n dX9_under_5 rfl (List.Mem.head _) ?_
    refine w_iload_n dX9_under_6 rfl (List.Mem.tail _ (List.Mem.tail _ (List.Mem.head _))) ?_
    obtain ⟨r9, σ5, hc7, hG6, rr8, h⟩ := h
    refine w_callS dX9_under_7 ml_9_143 ⟨ok_X9_isMinute, st_X9_isMinute⟩ hs_X9_isMinute (As := [.int (nZ x2)]) rfl rfl (Nat.le_of_ble_eq_true rfl) hc7 ?_
    show wp (Ev sc d) 9 cX9_under 3 (some .int) false [] sc Q 10 [(0, .ref 0), (1, .int (nZ x1)), (2, .int (nZ x2))] [.int (nZ r9), .ref 0] σ5
    rcases h with h | h
    · obtain ⟨e9, σ10, hc12, h⟩ := h
      exact w_throwV dX9_under_10 mp_9_69 ⟨ok_X9_require, vi_X9_require⟩ hs_X9_require (As := [.int (nZ r9)]) rfl rfl (gT hG6 rfl (lt_of rfl)) (Nat.le_of_ble_eq_true rfl) hc12 rfl h
    · obtain ⟨σ10, hc12, hG11, h⟩ := h
      refine w_callV dX9_under_10 ml_9_69 ⟨ok_X9_require, vi_X9_require⟩ hs_X9_require (As := [.int (nZ r9)]) rfl rfl (gT hG6 rfl (lt_of rfl)) (Nat.le_of_ble_eq_true rfl) hc12 ?_
      show wp (Ev sc d) 9 cX9_under 3 (some .int) false [] sc Q 13 [(0, .ref 0), (1, .int (nZ x1)), (2, .int (nZ x2))] [] σ10
      refine w_aload_n dX9_under_13 rfl (List.Mem.head _) ?_
      refine w_getR (ci := 9) (k := 4) (b := 27) dX9_under_14 fl_9_41 (by decide) (gT hG11 rfl (lt_of rfl)) (gR hG11 (b := 27) rfl) ?_
      refine w_iload_n dX9_under_17 rfl (List.Mem.tail _ (List.Mem.head _)) ?_
      refine w_aload_n dX9_under_18 rfl (List.Mem.head _) ?_
      refine w_getM (ci := 9) (k := 5) (b := u) dX9_under_19 fl_9_48 (by decide) (gT hG11 rfl (lt_of rfl)) hG11.2.2.1 ?_
      refine w_iload_n dX9_under_22 rfl (List.Mem.tail _ (List.Mem.tail _ (List.Mem.head _))) ?_
      obtain ⟨r18, σ14, hc16, hG15, rr17, h⟩ := h
      refine w_callV dX9_under_23 ml_9_155 ⟨ok_X2_sunAt, vi_X2_sunAt⟩ hs_X2_sunAt (As := [.int (nZ x2)]) rfl rfl (gT hG11 (IsMk_t0 hG.2.2.2.2) (IsMk_lt hG.2.2.2.2 (k := 0) (by decide))) (Nat.le_of_ble_eq_true rfl) hc16 ?_
      show wp (Ev sc d) 9 cX9_under 3 (some .int) false [] sc Q 26 [(0, .ref 0), (1, .int (nZ x1)), (2, .int (nZ x2))] [.int (nZ r18), .int (nZ x1), .ref 27] σ14
      obtain ⟨r23, σ19, hc21, hG20, rr22, h⟩ := h
      refine w_callV dX9_under_26 ml_9_163 ⟨ok_X6_throwers, vi_X6_throwers⟩ hs_X6_throwers (As := [.int (nZ x1), .int (nZ r18)]) rfl rfl (gT hG15 rfl (lt_of rfl)) (Nat.le_of_ble_eq_true rfl) hc21 ?_
      show wp (Ev sc d) 9 cX9_under 3 (some .int) false [] sc Q 29 [(0, .ref 0), (1, .int (nZ x1)), (2, .int (nZ x2))] [.int (nZ r23)] σ19
      exact w_iret dX9_under_29 rfl h
theorem dX9_minutes_0 : decode cX9_minutes 0 = .ok (.aload_n 0, 1) := by decide +kernel
theorem dX9_minutes_1 : decode cX9_minutes 1 = .ok (.iload_n 1, 1) := by decide +kernel
theorem dX9_minutes_2 : decode cX9_minutes 2 = .ok (.iload_n 2, 1) := by decide +kernel
theorem dX9_minutes_3 : decode cX9_minutes 3 = .ok (.invokevirtual 151, 3) := by decide +kernel
theorem dX9_minutes_6 : decode cX9_minutes 6 = .ok (.aload_n 0, 1) := by decide +kernel
theorem dX9_minutes_7 : decode cX9_minutes 7 = .ok (.getfield 41, 3) := by decide +kernel
theorem dX9_minutes_10 : decode cX9_minutes 10 = .ok (.getfield 166, 3) := by decide +kernel
theorem dX9_minutes_13 : decode cX9_minutes 13 = .ok (.aload_n 0, 1) := by decide +kernel
theorem dX9_minutes_14 : decode cX9_minutes 14 = .ok (.getfield 41, 3) := by decide +kernel
theorem dX9_minutes_17 : decode cX9_minutes 17 = .ok (.iload_n 1, 1) := by decide +kernel
theorem dX9_minutes_18 : decode cX9_minutes 18 = .ok (.iload_n 2, 1) := by decide +kernel
theorem dX9_minutes_19 : decode cX9_minutes 19 = .ok (.invokevirtual 170, 3) := by decide +kernel
theorem dX9_minutes_22 : decode cX9_minutes 22 = .ok (.invokevirtual 173, 3) := by decide +kernel
theorem dX9_minutes_25 : decode cX9_minutes 25 = .ok (.ireturn, 1) := by decide +kernel
set_option maxRecDepth 10000 in
theorem t_X9_minutes {sc : Nat × (Nat → Int32)} {d : Nat} {Q : aO → aH → Prop} {σ : aH} {u : Nat}  {x1 : Int} {x2 : Int} (hG : G σ u) (rx1 : inR x1) (rx2 : inR x2)
    (h : ((∃ (e9 : Nat) (σ1 : aH), Ev sc d mX9_requireTwo [.ref 0, .int (nZ x1), .int (nZ x2)] σ (.inr e9) σ1 ∧ Q (.inr e9) σ1) ∨ (∃ σ1 : aH, Ev sc d mX9_requireTwo [.ref 0, .int (nZ x1), .int (nZ x2)] σ (.inl none) σ1 ∧ G σ1 u ∧ (∃ (r9 : Int) (σ5 : aH), Ev sc d mX6_need [.ref 27, .int (nZ x1), .int (nZ x2)] σ1 (.inl (some (.int (nZ r9)))) σ5 ∧ G σ5 u ∧ inR r9 ∧ (∃ (r14 : Int) (σ10 : aH), Ev sc d mX8_at [.ref 31, .int (nZ r9)] σ5 (.inl (some (.int (nZ r14)))) σ10 ∧ G σ10 u ∧ inR r14 ∧ Q (.inl (some (.int (nZ r14)))) σ10))))) :
    T sc (d + 1) mX9_minutes [.ref 0, .int (nZ x1), .int (nZ x2)] σ Q := by
  refine T.of (c := 9) (code := cX9_minutes) (mL := 3) (rt := (some .int)) (ini := false) (l := [(0, .ref 0), (1, .int (nZ x1)), (2, .int (nZ x2))]) rfl rfl rfl rfl (by decide) hs_X9_minutes rfl rfl ?_
  refine w_aload_n dX9_minutes_0 rfl (List.Mem.head _) ?_
  refine w_iload_n dX9_minutes_1 rfl (List.Mem.tail _ (List.Mem.head _)) ?_
  refine w_iload_n dX9_minutes_2 rfl (List.Mem.tail _ (List.Mem.tail _ (List.Mem.head _))) ?_
  rcases h with h | h
  · obtain ⟨e9, σ1, hc3, h⟩ := h
    exact w_throwV dX9_minutes_3 mp_9_151 ⟨ok_X9_requireTwo, vi_X9_requireTwo⟩ hs_X9_requireTwo (As := [.int (nZ x1), .int (nZ x2)]) rfl rfl (gT hG rfl (lt_of rfl)) (Nat.le_of_ble_eq_true rfl) hc3 rfl h
  · obtain ⟨σ1, hc3, hG2, h⟩ := h
    refine w_callV dX9_minutes_3 ml_9_151 ⟨ok_X9_requireTwo, vi_X9_requireTwo⟩ hs_X9_requireTwo (As := [.int (nZ x1), .int (nZ x2)]) rfl rfl (gT hG rfl (lt_of rfl)) (Nat.le_of_ble_eq_true rfl) hc3 ?_
    show wp (Ev sc d) 9 cX9_minutes 3 (some .int) false [] sc Q 6 [(0, .ref 0), (1, .int (nZ x1)), (2, .int (nZ x2))] [] σ1
    refine w_aload_n dX9_minutes_6 rfl (List.Mem.head _) ?_
    refine w_getR (ci := 9) (k := 4) (b := 27) dX9_minutes_7 fl_9_41 (by decide) (gT hG2 rfl (lt_of rfl)) (gR hG2 (b := 27) rfl) ?_
    refine w_getR (ci := 6) (k := 1) (b := 31) dX9_minutes_10 fl_9_166 (by decide) (gT hG2 rfl (lt_of rfl)) (gR hG2 (b := 31) rfl) ?_
    refine w_aload_n dX9_minutes_13 rfl (List.Mem.head _) ?_
    refine w_getR (ci := 9) (k := 4) (b := 27) dX9_minutes_14 fl_9_41 (by decide) (gT hG2 rfl (lt_of rfl)) (gR hG2 (b := 27) rfl) ?_
    refine w_iload_n dX9_minutes_17 rfl (List.Mem.tail _ (List.Mem.head _)) ?_
    refine w_iload_n dX9_minutes_18 rfl (List.Mem.tail _ (List.Mem.tail _ (List.Mem.head _))) ?_
    obtain ⟨r9, σ5, hc7, hG6, rr8, h⟩ := h
    refine w_callV dX9_minutes_19 ml_9_170 ⟨ok_X6_need, vi_X6_need⟩ hs_X6_need (As := [.int (nZ x1), .int (nZ x2)]) rfl rfl (gT hG2 rfl (lt_of rfl)) (Nat.le_of_ble_eq_true rfl) hc7 ?_
    show wp (Ev sc d) 9 cX9_minutes 3 (some .int) false [] sc Q 22 [(0, .ref 0), (1, .int (nZ x1)), (2, .int (nZ x2))] [.int (nZ r9), .ref 31] σ5
    obtain ⟨r14, σ10, hc12, hG11, rr13, h⟩ := h
    refine w_callV dX9_minutes_22 ml_9_173 ⟨ok_X8_at, vi_X8_at⟩ hs_X8_at (As := [.int (nZ r9)]) rfl rfl (gT hG6 rfl (lt_of rfl)) (Nat.le_of_ble_eq_true rfl) hc12 ?_
    show wp (Ev sc d) 9 cX9_minutes 3 (some .int) false [] sc Q 25 [(0, .ref 0), (1, .int (nZ x1)), (2, .int (nZ x2))] [.int (nZ r14)] σ10
    exact w_iret dX9_minutes_25 rfl h
theorem dX9_chill_0 : decode cX9_chill 0 = .ok (.aload_n 0, 1) := by decide +kernel
theorem dX9_chill_1 : decode cX9_chill 1 = .ok (.iload_n 1, 1) := by decide +kernel
theorem dX9_chill_2 : decode cX9_chill 2 = .ok (.invokevirtual 118, 3) := by decide +kernel
theorem dX9_chill_5 : decode cX9_chill 5 = .ok (.aload_n 0, 1) := by decide +kernel
theorem dX9_chill_6 : decode cX9_chill 6 = .ok (.getfield 41, 3) := by decide +kernel
theorem dX9_chill_9 : decode cX9_chill 9 = .ok (.iload_n 1, 1) := by decide +kernel
theorem dX9_chill_10 : decode cX9_chill 10 = .ok (.invokevirtual 178, 3) := by decide +kernel
theorem dX9_chill_13 : decode cX9_chill 13 = .ok (.ireturn, 1) := by decide +kernel
set_option maxRecDepth 10000 in
theorem t_X9_chill {sc : Nat × (Nat → Int32)} {d : Nat} {Q : aO → aH → Prop} {σ : aH} {u : Nat}  {x1 : Int} (hG : G σ u) (rx1 : inR x1)
    (h : ((∃ (e9 : Nat) (σ1 : aH), Ev sc d mX9_requireStall [.ref 0, .int (nZ x1)] σ (.inr e9) σ1 ∧ Q (.inr e9) σ1) ∨ (∃ σ1 : aH, Ev sc d mX9_requireStall [.ref 0, .int (nZ x1)] σ (.inl none) σ1 ∧ G σ1 u ∧ (∃ (r9 : Int) (σ5 : aH), Ev sc d mX6_chillOf [.ref 27, .int (nZ x1)] σ1 (.inl (some (.int (nZ r9)))) σ5 ∧ G σ5 u ∧ inR r9 ∧ Q (.inl (some (.int (nZ r9)))) σ5)))) :
    T sc (d + 1) mX9_chill [.ref 0, .int (nZ x1)] σ Q := by
  refine T.of (c := 9) (code := cX9_chill) (mL := 2) (rt := (some .int)) (ini := false) (l := [(0, .ref 0), (1, .int (nZ x1))]) rfl rfl rfl rfl (by decide) hs_X9_chill rfl rfl ?_
  refine w_aload_n dX9_chill_0 rfl (List.Mem.head _) ?_
  refine w_iload_n dX9_chill_1 rfl (List.Mem.tail _ (List.Mem.head _)) ?_
  rcases h with h | h
  · obtain ⟨e9, σ1, hc3, h⟩ := h
    exact w_throwV dX9_chill_2 mp_9_118 ⟨ok_X9_requireStall, vi_X9_requireStall⟩ hs_X9_requireStall (As := [.int (nZ x1)]) rfl rfl (gT hG rfl (lt_of rfl)) (Nat.le_of_ble_eq_true rfl) hc3 rfl h
  · obtain ⟨σ1, hc3, hG2, h⟩ := h
    refine w_callV dX9_chill_2 ml_9_118 ⟨ok_X9_requireStall, vi_X9_requireStall⟩ hs_X9_requireStall (As := [.int (nZ x1)]) rfl rfl (gT hG rfl (lt_of rfl)) (Nat.le_of_ble_eq_true rfl) hc3 ?_
    show wp (Ev sc d) 9 cX9_chill 2 (some .int) false [] sc Q 5 [(0, .ref 0), (1, .int (nZ x1))] [] σ1
    refine w_aload_n dX9_chill_5 rfl (List.Mem.head _) ?_
    refine w_getR (ci := 9) (k := 4) (b := 27) dX9_chill_6 fl_9_41 (by decide) (gT hG2 rfl (lt_of rfl)) (gR hG2 (b := 27) rfl) ?_
    refine w_iload_n dX9_chill_9 rfl (List.Mem.tail _ (List.Mem.head _)) ?_
    obtain ⟨r9, σ5, hc7, hG6, rr8, h⟩ := h
    refine w_callV dX9_chill_10 ml_9_178 ⟨ok_X6_chillOf, vi_X6_chillOf⟩ hs_X6_chillOf (As := [.int (nZ x1)]) rfl rfl (gT hG2 rfl (lt_of rfl)) (Nat.le_of_ble_eq_true rfl) hc7 ?_
    show wp (Ev sc d) 9 cX9_chill 2 (some .int) false [] sc Q 13 [(0, .ref 0), (1, .int (nZ x1))] [.int (nZ r9)] σ5
    exact w_iret dX9_chill_13 rfl h
theorem dX9_owes_0 : decode cX9_owes 0 = .ok (.aload_n 0, 1) := by decide +kernel
theorem dX9_owes_1 : decode cX9_owes 1 = .ok (.iload_n 1, 1) := by decide +kernel
theorem dX9_owes_2 : decode cX9_owes 2 = .ok (.iload_n 2, 1) := by decide +kernel
theorem dX9_owes_3 : decode cX9_owes 3 = .ok (.invokevirtual 151, 3) := by decide +kernel
theorem dX9_owes_6 : decode cX9_owes 6 = .ok (.aload_n 0, 1) := by decide +kernel
theorem dX9_owes_7 : decode cX9_owes 7 = .ok (.iload_n 3, 1) := by decide +kernel
theorem dX9_owes_8 : decode cX9_owes 8 = .ok (.invokestatic 181, 3) := by decide +kernel
theorem dX9_owes_11 : decode cX9_owes 11 = .ok (.invokevirtual 69, 3) := by decide +kernel
theorem dX9_owes_14 : decode cX9_owes 14 = .ok (.aload_n 0, 1) := by decide +kernel
theorem dX9_owes_15 : decode cX9_owes 15 = .ok (.getfield 41, 3) := by decide +kernel
theorem dX9_owes_18 : decode cX9_owes 18 = .ok (.aload_n 0, 1) := by decide +kernel
theorem dX9_owes_19 : decode cX9_owes 19 = .ok (.getfield 41, 3) := by decide +kernel
theorem dX9_owes_22 : decode cX9_owes 22 = .ok (.iconst 0, 1) := by decide +kernel
theorem dX9_owes_23 : decode cX9_owes 23 = .ok (.iload_n 3, 1) := by decide +kernel
theorem dX9_owes_24 : decode cX9_owes 24 = .ok (.invokevirtual 184, 3) := by decide +kernel
theorem dX9_owes_27 : decode cX9_owes 27 = .ok (.iload_n 1, 1) := by decide +kernel
theorem dX9_owes_28 : decode cX9_owes 28 = .ok (.iload_n 2, 1) := by decide +kernel
theorem dX9_owes_29 : decode cX9_owes 29 = .ok (.invokevirtual 188, 3) := by decide +kernel
theorem dX9_owes_32 : decode cX9_owes 32 = .ok (.ireturn, 1) := by decide +kernel
set_option maxRecDepth 10000 in
theorem t_X9_owes {sc : Nat × (Nat → Int32)} {d : Nat} {Q : aO → aH → Prop} {σ : aH} {u : Nat}  {x1 : Int} {x2 : Int} {x3 : Int} (hG : G σ u) (rx1 : inR x1) (rx2 : inR x2) (rx3 : inR x3)
    (h : ((∃ (e9 : Nat) (σ1 : aH), Ev sc d mX9_requireTwo [.ref 0, .int (nZ x1), .int (nZ x2)] σ (.inr e9) σ1 ∧ Q (.inr e9) σ1) ∨ (∃ σ1 : aH, Ev sc d mX9_requireTwo [.ref 0, .int (nZ x1), .int (nZ x2)] σ (.inl none) σ1 ∧ G σ1 u ∧ (∃ (r9 : Int) (σ5 : aH), Ev sc d mX9_isEnd [.int (nZ x3)] σ1 (.inl (some (.int (nZ r9)))) σ5 ∧ G σ5 u ∧ inR r9 ∧ ((∃ (e9 : Nat) (σ10 : aH), Ev sc d mX9_require [.ref 0, .int (nZ r9)] σ5 (.inr e9) σ10 ∧ Q (.inr e9) σ10) ∨ (∃ σ10 : aH, Ev sc d mX9_require [.ref 0, .int (nZ r9)] σ5 (.inl none) σ10 ∧ G σ10 u ∧ (∃ σ14 : aH, Ev sc d mX6_costsOf [.ref 27, .int (nZ 0), .int (nZ x3)] σ10 (.inl (some (.ref 34))) σ14 ∧ G σ14 u ∧ (∃ (r22 : Int) (σ18 : aH), Ev sc d mX6_owed [.ref 27, .ref 34, .int (nZ x1), .int (nZ x2)] σ14 (.inl (some (.int (nZ r22)))) σ18 ∧ G σ18 u ∧ inR r22 ∧ Q (.inl (some (.int (nZ r22)))) σ18)))))))) :
    T sc (d + 1) mX9_owes [.ref 0, .int (nZ x1), .int (nZ x2), .int (nZ x3)] σ Q := by
  refine T.of (c := 9) (code := cX9_owes) (mL := 4) (rt := (some .int)) (ini := false) (l := [(0, .ref 0), (1, .int (nZ x1)), (2, .int (nZ x2)), (3, .int (nZ x3))]) rfl rfl rfl rfl (by decide) hs_X9_owes rfl rfl ?_
  refine w_aload_n dX9_owes_0 rfl (List.Mem.head _) ?_
  refine w_iload_n dX9_owes_1 rfl (List.Mem.tail _ (List.Mem.head _)) ?_
  refine w_iload_n dX9_owes_2 rfl (List.Mem.tail _ (List.Mem.tail _ (List.Mem.head _))) ?_
  rcases h with h | h
  · obtain ⟨e9, σ1, hc3, h⟩ := h
    exact w_throwV dX9_owes_3 mp_9_151 ⟨ok_X9_requireTwo, vi_X9_requireTwo⟩ hs_X9_requireTwo (As := [.int (nZ x1), .int (nZ x2)]) rfl rfl (gT hG rfl (lt_of rfl)) (Nat.le_of_ble_eq_true rfl) hc3 rfl h
  · obtain ⟨σ1, hc3, hG2, h⟩ := h
    refine w_callV dX9_owes_3 ml_9_151 ⟨ok_X9_requireTwo, vi_X9_requireTwo⟩ hs_X9_requireTwo (As := [.int (nZ x1), .int (nZ x2)]) rfl rfl (gT hG rfl (lt_of rfl)) (Nat.le_of_ble_eq_true rfl) hc3 ?_
    show wp (Ev sc d) 9 cX9_owes 4 (some .int) false [] sc Q 6 [(0, .ref 0), (1, .int (nZ x1)), (2, .int (nZ x2)), (3, .int (nZ x3))] [] σ1
    refine w_aload_n dX9_owes_6 rfl (List.Mem.head _) ?_
    refine w_iload_n dX9_owes_7 rfl (List.Mem.tail _ (List.Mem.tail _ (List.Mem.tail _ (List.Mem.head _)))) ?_
    obtain ⟨r9, σ5, hc7, hG6, rr8, h⟩ := h
    refine w_callS dX9_owes_8 ml_9_181 ⟨ok_X9_isEnd, st_X9_isEnd⟩ hs_X9_isEnd (As := [.int (nZ x3)]) rfl rfl (Nat.le_of_ble_eq_true rfl) hc7 ?_
    show wp (Ev sc d) 9 cX9_owes 4 (some .int) false [] sc Q 11 [(0, .ref 0), (1, .int (nZ x1)), (2, .int (nZ x2)), (3, .int (nZ x3))] [.int (nZ r9), .ref 0] σ5
    rcases h with h | h
    · obtain ⟨e9, σ10, hc12, h⟩ := h
      exact w_throwV dX9_owes_11 mp_9_69 ⟨ok_X9_require, vi_X9_require⟩ hs_X9_require (As := [.int (nZ r9)]) rfl rfl (gT hG6 rfl (lt_of rfl)) (Nat.le_of_ble_eq_true rfl) hc12 rfl h
    · obtain ⟨σ10, hc12, hG11, h⟩ := h
      refine w_callV dX9_owes_11 ml_9_69 ⟨ok_X9_require, vi_X9_require⟩ hs_X9_require (As := [.int (nZ r9)]) rfl rfl (gT hG6 rfl (lt_of rfl)) (Nat.le_of_ble_eq_true rfl) hc12 ?_
      show wp (Ev sc d) 9 cX9_owes 4 (some .int) false [] sc Q 14 [(0, .ref 0), (1, .int (nZ x1)), (2, .int (nZ x2)), (3, .int (nZ x3))] [] σ10
      refine w_aload_n dX9_owes_14 rfl (List.Mem.head _) ?_
      refine w_getR (ci := 9) (k := 4) (b := 27) dX9_owes_15 fl_9_41 (by decide) (gT hG11 rfl (lt_of rfl)) (gR hG11 (b := 27) rfl) ?_
      refine w_aload_n dX9_owes_18 rfl (List.Mem.head _) ?_
      refine w_getR (ci := 9) (k := 4) (b := 27) dX9_owes_19 fl_9_41 (by decide) (gT hG11 rfl (lt_of rfl)) (gR hG11 (b := 27) rfl) ?_
      refine w_iconst (v := nZ 0) dX9_owes_22 (by decide) ?_
      refine w_iload_n dX9_owes_23 rfl (List.Mem.tail _ (List.Mem.tail _ (List.Mem.tail _ (List.Mem.head _)))) ?_
      obtain ⟨σ14, hc16, hG15, h⟩ := h
      refine w_callV dX9_owes_24 ml_9_184 ⟨ok_X6_costsOf, vi_X6_costsOf⟩ hs_X6_costsOf (As := [.int (nZ 0), .int (nZ x3)]) rfl rfl (gT hG11 rfl (lt_of rfl)) (Nat.le_of_ble_eq_true rfl) hc16 ?_
      show wp (Ev sc d) 9 cX9_owes 4 (some .int) false [] sc Q 27 [(0, .ref 0), (1, .int (nZ x1)), (2, .int (nZ x2)), (3, .int (nZ x3))] [.ref 34, .ref 27] σ14
      refine w_iload_n dX9_owes_27 rfl (List.Mem.tail _ (List.Mem.head _)) ?_
      refine w_iload_n dX9_owes_28 rfl (List.Mem.tail _ (List.Mem.tail _ (List.Mem.head _))) ?_
      obtain ⟨r22, σ18, hc20, hG19, rr21, h⟩ := h
      refine w_callV dX9_owes_29 ml_9_188 ⟨ok_X6_owed, vi_X6_owed⟩ hs_X6_owed (As := [.ref 34, .int (nZ x1), .int (nZ x2)]) rfl rfl (gT hG15 rfl (lt_of rfl)) (Nat.le_of_ble_eq_true rfl) hc20 ?_
      show wp (Ev sc d) 9 cX9_owes 4 (some .int) false [] sc Q 32 [(0, .ref 0), (1, .int (nZ x1)), (2, .int (nZ x2)), (3, .int (nZ x3))] [.int (nZ r22)] σ18
      exact w_iret dX9_owes_32 rfl h
theorem dX9_net_0 : decode cX9_net 0 = .ok (.aload_n 0, 1) := by decide +kernel
theorem dX9_net_1 : decode cX9_net 1 = .ok (.iload_n 1, 1) := by decide +kernel
theorem dX9_net_2 : decode cX9_net 2 = .ok (.invokevirtual 118, 3) := by decide +kernel
theorem dX9_net_5 : decode cX9_net 5 = .ok (.aload_n 0, 1) := by decide +kernel
theorem dX9_net_6 : decode cX9_net 6 = .ok (.iload_n 2, 1) := by decide +kernel
theorem dX9_net_7 : decode cX9_net 7 = .ok (.invokestatic 181, 3) := by decide +kernel
theorem dX9_net_10 : decode cX9_net 10 = .ok (.invokevirtual 69, 3) := by decide +kernel
theorem dX9_net_13 : decode cX9_net 13 = .ok (.aload_n 0, 1) := by decide +kernel
theorem dX9_net_14 : decode cX9_net 14 = .ok (.getfield 41, 3) := by decide +kernel
theorem dX9_net_17 : decode cX9_net 17 = .ok (.aload_n 0, 1) := by decide +kernel
theorem dX9_net_18 : decode cX9_net 18 = .ok (.getfield 41, 3) := by decide +kernel
theorem dX9_net_21 : decode cX9_net 21 = .ok (.iconst 0, 1) := by decide +kernel
theorem dX9_net_22 : decode cX9_net 22 = .ok (.iload_n 2, 1) := by decide +kernel
theorem dX9_net_23 : decode cX9_net 23 = .ok (.invokevirtual 184, 3) := by decide +kernel
theorem dX9_net_26 : decode cX9_net 26 = .ok (.iload_n 1, 1) := by decide +kernel
theorem dX9_net_27 : decode cX9_net 27 = .ok (.invokevirtual 192, 3) := by decide +kernel
theorem dX9_net_30 : decode cX9_net 30 = .ok (.ireturn, 1) := by decide +kernel
set_option maxRecDepth 10000 in
theorem t_X9_net {sc : Nat × (Nat → Int32)} {d : Nat} {Q : aO → aH → Prop} {σ : aH} {u : Nat}  {x1 : Int} {x2 : Int} (hG : G σ u) (rx1 : inR x1) (rx2 : inR x2)
    (h : ((∃ (e9 : Nat) (σ1 : aH), Ev sc d mX9_requireStall [.ref 0, .int (nZ x1)] σ (.inr e9) σ1 ∧ Q (.inr e9) σ1) ∨ (∃ σ1 : aH, Ev sc d mX9_requireStall [.ref 0, .int (nZ x1)] σ (.inl none) σ1 ∧ G σ1 u ∧ (∃ (r9 : Int) (σ5 : aH), Ev sc d mX9_isEnd [.int (nZ x2)] σ1 (.inl (some (.int (nZ r9)))) σ5 ∧ G σ5 u ∧ inR r9 ∧ ((∃ (e9 : Nat) (σ10 : aH), Ev sc d mX9_require [.ref 0, .int (nZ r9)] σ5 (.inr e9) σ10 ∧ Q (.inr e9) σ10) ∨ (∃ σ10 : aH, Ev sc d mX9_require [.ref 0, .int (nZ r9)] σ5 (.inl none) σ10 ∧ G σ10 u ∧ (∃ σ14 : aH, Ev sc d mX6_costsOf [.ref 27, .int (nZ 0), .int (nZ x2)] σ10 (.inl (some (.ref 34))) σ14 ∧ G σ14 u ∧ (∃ (r22 : Int) (σ18 : aH), Ev sc d mX6_gain [.ref 27, .ref 34, .int (nZ x1)] σ14 (.inl (some (.int (nZ r22)))) σ18 ∧ G σ18 u ∧ inR r22 ∧ Q (.inl (some (.int (nZ r22)))) σ18)))))))) :
    T sc (d + 1) mX9_net [.ref 0, .int (nZ x1), .int (nZ x2)] σ Q := by
  refine T.of (c := 9) (code := cX9_net) (mL := 3) (rt := (some .int)) (ini := false) (l := [(0, .ref 0), (1, .int (nZ x1)), (2, .int (nZ x2))]) rfl rfl rfl rfl (by decide) hs_X9_net rfl rfl ?_
  refine w_aload_n dX9_net_0 rfl (List.Mem.head _) ?_
  refine w_iload_n dX9_net_1 rfl (List.Mem.tail _ (List.Mem.head _)) ?_
  rcases h with h | h
  · obtain ⟨e9, σ1, hc3, h⟩ := h
    exact w_throwV dX9_net_2 mp_9_118 ⟨ok_X9_requireStall, vi_X9_requireStall⟩ hs_X9_requireStall (As := [.int (nZ x1)]) rfl rfl (gT hG rfl (lt_of rfl)) (Nat.le_of_ble_eq_true rfl) hc3 rfl h
  · obtain ⟨σ1, hc3, hG2, h⟩ := h
    refine w_callV dX9_net_2 ml_9_118 ⟨ok_X9_requireStall, vi_X9_requireStall⟩ hs_X9_requireStall (As := [.int (nZ x1)]) rfl rfl (gT hG rfl (lt_of rfl)) (Nat.le_of_ble_eq_true rfl) hc3 ?_
    show wp (Ev sc d) 9 cX9_net 3 (some .int) false [] sc Q 5 [(0, .ref 0), (1, .int (nZ x1)), (2, .int (nZ x2))] [] σ1
    refine w_aload_n dX9_net_5 rfl (List.Mem.head _) ?_
    refine w_iload_n dX9_net_6 rfl (List.Mem.tail _ (List.Mem.tail _ (List.Mem.head _))) ?_
    obtain ⟨r9, σ5, hc7, hG6, rr8, h⟩ := h
    refine w_callS dX9_net_7 ml_9_181 ⟨ok_X9_isEnd, st_X9_isEnd⟩ hs_X9_isEnd (As := [.int (nZ x2)]) rfl rfl (Nat.le_of_ble_eq_true rfl) hc7 ?_
    show wp (Ev sc d) 9 cX9_net 3 (some .int) false [] sc Q 10 [(0, .ref 0), (1, .int (nZ x1)), (2, .int (nZ x2))] [.int (nZ r9), .ref 0] σ5
    rcases h with h | h
    · obtain ⟨e9, σ10, hc12, h⟩ := h
      exact w_throwV dX9_net_10 mp_9_69 ⟨ok_X9_require, vi_X9_require⟩ hs_X9_require (As := [.int (nZ r9)]) rfl rfl (gT hG6 rfl (lt_of rfl)) (Nat.le_of_ble_eq_true rfl) hc12 rfl h
    · obtain ⟨σ10, hc12, hG11, h⟩ := h
      refine w_callV dX9_net_10 ml_9_69 ⟨ok_X9_require, vi_X9_require⟩ hs_X9_require (As := [.int (nZ r9)]) rfl rfl (gT hG6 rfl (lt_of rfl)) (Nat.le_of_ble_eq_true rfl) hc12 ?_
      show wp (Ev sc d) 9 cX9_net 3 (some .int) false [] sc Q 13 [(0, .ref 0), (1, .int (nZ x1)), (2, .int (nZ x2))] [] σ10
      refine w_aload_n dX9_net_13 rfl (List.Mem.head _) ?_
      refine w_getR (ci := 9) (k := 4) (b := 27) dX9_net_14 fl_9_41 (by decide) (gT hG11 rfl (lt_of rfl)) (gR hG11 (b := 27) rfl) ?_
      refine w_aload_n dX9_net_17 rfl (List.Mem.head _) ?_
      refine w_getR (ci := 9) (k := 4) (b := 27) dX9_net_18 fl_9_41 (by decide) (gT hG11 rfl (lt_of rfl)) (gR hG11 (b := 27) rfl) ?_
      refine w_iconst (v := nZ 0) dX9_net_21 (by decide) ?_
      refine w_iload_n dX9_net_22 rfl (List.Mem.tail _ (List.Mem.tail _ (List.Mem.head _))) ?_
      obtain ⟨σ14, hc16, hG15, h⟩ := h
      refine w_callV dX9_net_23 ml_9_184 ⟨ok_X6_costsOf, vi_X6_costsOf⟩ hs_X6_costsOf (As := [.int (nZ 0), .int (nZ x2)]) rfl rfl (gT hG11 rfl (lt_of rfl)) (Nat.le_of_ble_eq_true rfl) hc16 ?_
      show wp (Ev sc d) 9 cX9_net 3 (some .int) false [] sc Q 26 [(0, .ref 0), (1, .int (nZ x1)), (2, .int (nZ x2))] [.ref 34, .ref 27] σ14
      refine w_iload_n dX9_net_26 rfl (List.Mem.tail _ (List.Mem.head _)) ?_
      obtain ⟨r22, σ18, hc20, hG19, rr21, h⟩ := h
      refine w_callV dX9_net_27 ml_9_192 ⟨ok_X6_gain, vi_X6_gain⟩ hs_X6_gain (As := [.ref 34, .int (nZ x1)]) rfl rfl (gT hG15 rfl (lt_of rfl)) (Nat.le_of_ble_eq_true rfl) hc20 ?_
      show wp (Ev sc d) 9 cX9_net 3 (some .int) false [] sc Q 30 [(0, .ref 0), (1, .int (nZ x1)), (2, .int (nZ x2))] [.int (nZ r22)] σ18
      exact w_iret dX9_net_30 rfl h
theorem dX9_payments_0 : decode cX9_payments 0 = .ok (.aload_n 0, 1) := by decide +kernel
theorem dX9_payments_1 : decode cX9_payments 1 = .ok (.iload_n 1, 1) := by decide +kernel
theorem dX9_payments_2 : decode cX9_payments 2 = .ok (.invokestatic 181, 3) := by decide +kernel
theorem dX9_payments_5 : decode cX9_payments 5 = .ok (.invokevirtual 69, 3) := by decide +kernel
theorem dX9_payments_8 : decode cX9_payments 8 = .ok (.aload_n 0, 1) := by decide +kernel
theorem dX9_payments_9 : decode cX9_payments 9 = .ok (.getfield 26, 3) := by decide +kernel
theorem dX9_payments_12 : decode cX9_payments 12 = .ok (.aload_n 0, 1) := by decide +kernel
theorem dX9_payments_13 : decode cX9_payments 13 = .ok (.getfield 41, 3) := by decide +kernel
theorem dX9_payments_16 : decode cX9_payments 16 = .ok (.iload_n 1, 1) := by decide +kernel
theorem dX9_payments_17 : decode cX9_payments 17 = .ok (.invokevirtual 196, 3) := by decide +kernel
theorem dX9_payments_20 : decode cX9_payments 20 = .ok (.ireturn, 1) := by decide +kernel
set_option maxRecDepth 10000 in
theorem t_X9_payments {sc : Nat × (Nat → Int32)} {d : Nat} {Q : aO → aH → Prop} {σ : aH} {u : Nat}  {x1 : Int} (hG : G σ u) (rx1 : inR x1)
    (h : (∃ (r5 : Int) (σ1 : aH), Ev sc d mX9_isEnd [.int (nZ x1)] σ (.inl (some (.int (nZ r5)))) σ1 ∧ G σ1 u ∧ inR r5 ∧ ((∃ (e9 : Nat) (σ6 : aH), Ev sc d mX9_require [.ref 0, .int (nZ r5)] σ1 (.inr e9) σ6 ∧ Q (.inr e9) σ6) ∨ (∃ σ6 : aH, Ev sc d mX9_require [.ref 0, .int (nZ r5)] σ1 (.inl none) σ6 ∧ G σ6 u ∧ (∃ (r14 : Int) (σ10 : aH), Ev sc d mX3_fewest [.ref 22, .ref 27, .int (nZ x1)] σ6 (.inl (some (.int (nZ r14)))) σ10 ∧ G σ10 u ∧ inR r14 ∧ Q (.inl (some (.int (nZ r14)))) σ10))))) :
    T sc (d + 1) mX9_payments [.ref 0, .int (nZ x1)] σ Q := by
  refine T.of (c := 9) (code := cX9_payments) (mL := 2) (rt := (some .int)) (ini := false) (l := [(0, .ref 0), (1, .int (nZ x1))]) rfl rfl rfl rfl (by decide) hs_X9_payments rfl rfl ?_
  refine w_aload_n dX9_payments_0 rfl (List.Mem.head _) ?_
  refine w_iload_n dX9_payments_1 rfl (List.Mem.tail _ (List.Mem.head _)) ?_
  obtain ⟨r5, σ1, hc3, hG2, rr4, h⟩ := h
  refine w_callS dX9_payments_2 ml_9_181 ⟨ok_X9_isEnd, st_X9_isEnd⟩ hs_X9_isEnd (As := [.int (nZ x1)]) rfl rfl (Nat.le_of_ble_eq_true rfl) hc3 ?_
  show wp (Ev sc d) 9 cX9_payments 2 (some .int) false [] sc Q 5 [(0, .ref 0), (1, .int (nZ x1))] [.int (nZ r5), .ref 0] σ1
  rcases h with h | h
  · obtain ⟨e9, σ6, hc8, h⟩ := h
    exact w_throwV dX9_payments_5 mp_9_69 ⟨ok_X9_require, vi_X9_require⟩ hs_X9_require (As := [.int (nZ r5)]) rfl rfl (gT hG2 rfl (lt_of rfl)) (Nat.le_of_ble_eq_true rfl) hc8 rfl h
  · obtain ⟨σ6, hc8, hG7, h⟩ := h
    refine w_callV dX9_payments_5 ml_9_69 ⟨ok_X9_require, vi_X9_require⟩ hs_X9_require (As := [.int (nZ r5)]) rfl rfl (gT hG2 rfl (lt_of rfl)) (Nat.le_of_ble_eq_true rfl) hc8 ?_
    show wp (Ev sc d) 9 cX9_payments 2 (some .int) false [] sc Q 8 [(0, .ref 0), (1, .int (nZ x1))] [] σ6
    refine w_aload_n dX9_payments_8 rfl (List.Mem.head _) ?_
    refine w_getR (ci := 9) (k := 2) (b := 22) dX9_payments_9 fl_9_26 (by decide) (gT hG7 rfl (lt_of rfl)) (gR hG7 (b := 22) rfl) ?_
    refine w_aload_n dX9_payments_12 rfl (List.Mem.head _) ?_
    refine w_getR (ci := 9) (k := 4) (b := 27) dX9_payments_13 fl_9_41 (by decide) (gT hG7 rfl (lt_of rfl)) (gR hG7 (b := 27) rfl) ?_
    refine w_iload_n dX9_payments_16 rfl (List.Mem.tail _ (List.Mem.head _)) ?_
    obtain ⟨r14, σ10, hc12, hG11, rr13, h⟩ := h
    refine w_callV dX9_payments_17 ml_9_196 ⟨ok_X3_fewest, vi_X3_fewest⟩ hs_X3_fewest (As := [.ref 27, .int (nZ x1)]) rfl rfl (gT hG7 rfl (lt_of rfl)) (Nat.le_of_ble_eq_true rfl) hc12 ?_
    show wp (Ev sc d) 9 cX9_payments 2 (some .int) false [] sc Q 20 [(0, .ref 0), (1, .int (nZ x1))] [.int (nZ r14)] σ10
    exact w_iret dX9_payments_20 rfl h
theorem dX9_due_0 : decode cX9_due 0 = .ok (.aload_n 0, 1) := by decide +kernel
theorem dX9_due_1 : decode cX9_due 1 = .ok (.getfield 41, 3) := by decide +kernel
theorem dX9_due_4 : decode cX9_due 4 = .ok (.aload_n 0, 1) := by decide +kernel
theorem dX9_due_5 : decode cX9_due 5 = .ok (.getfield 41, 3) := by decide +kernel
theorem dX9_due_8 : decode cX9_due 8 = .ok (.getfield 200, 3) := by decide +kernel
theorem dX9_due_11 : decode cX9_due 11 = .ok (.ldc 203, 2) := by decide +kernel
theorem dX9_due_13 : decode cX9_due 13 = .ok (.invokevirtual 204, 3) := by decide +kernel
theorem dX9_due_16 : decode cX9_due 16 = .ok (.ireturn, 1) := by decide +kernel
set_option maxRecDepth 10000 in
theorem t_X9_due {sc : Nat × (Nat → Int32)} {d : Nat} {Q : aO → aH → Prop} {σ : aH} {u : Nat}   (hG : G σ u) 
    (h : (∃ (r5 : Int) (σ1 : aH), Ev sc d mX6_total [.ref 27, .ref 28, .int (nZ 1000000000)] σ (.inl (some (.int (nZ r5)))) σ1 ∧ G σ1 u ∧ inR r5 ∧ Q (.inl (some (.int (nZ r5)))) σ1)) :
    T sc (d + 1) mX9_due [.ref 0] σ Q := by
  refine T.of (c := 9) (code := cX9_due) (mL := 1) (rt := (some .int)) (ini := false) (l := [(0, .ref 0)]) rfl rfl rfl rfl (by decide) hs_X9_due rfl rfl ?_
  refine w_aload_n dX9_due_0 rfl (List.Mem.head _) ?_
  refine w_getR (ci := 9) (k := 4) (b := 27) dX9_due_1 fl_9_41 (by decide) (gT hG rfl (lt_of rfl)) (gR hG (b := 27) rfl) ?_
  refine w_aload_n dX9_due_4 rfl (List.Mem.head _) ?_
  refine w_getR (ci := 9) (k := 4) (b := 27) dX9_due_5 fl_9_41 (by decide) (gT hG rfl (lt_of rfl)) (gR hG (b := 27) rfl) ?_
  refine w_getR (ci := 6) (k := 0) (b := 28) dX9_due_8 fl_9_200 (by decide) (gT hG rfl (lt_of rfl)) (gR hG (b := 28) rfl) ?_
  refine i_ldc (x := 1000000000) dX9_due_11 kc_9_203 (by decide) ?_
  obtain ⟨r5, σ1, hc3, hG2, rr4, h⟩ := h
  refine w_callV dX9_due_13 ml_9_204 ⟨ok_X6_total, vi_X6_total⟩ hs_X6_total (As := [.ref 28, .int (nZ 1000000000)]) rfl rfl (gT hG rfl (lt_of rfl)) (Nat.le_of_ble_eq_true rfl) hc3 ?_
  show wp (Ev sc d) 9 cX9_due 1 (some .int) false [] sc Q 16 [(0, .ref 0)] [.int (nZ r5)] σ1
  exact w_iret dX9_due_16 rfl h
theorem dX9_first_0 : decode cX9_first 0 = .ok (.aload_n 0, 1) := by decide +kernel
theorem dX9_first_1 : decode cX9_first 1 = .ok (.iload_n 1, 1) := by decide +kernel
theorem dX9_first_2 : decode cX9_first 2 = .ok (.invokestatic 143, 3) := by decide +kernel
theorem dX9_first_5 : decode cX9_first 5 = .ok (.invokevirtual 69, 3) := by decide +kernel
theorem dX9_first_8 : decode cX9_first 8 = .ok (.aload_n 0, 1) := by decide +kernel
theorem dX9_first_9 : decode cX9_first 9 = .ok (.getfield 41, 3) := by decide +kernel
theorem dX9_first_12 : decode cX9_first 12 = .ok (.iload_n 1, 1) := by decide +kernel
theorem dX9_first_13 : decode cX9_first 13 = .ok (.invokevirtual 207, 3) := by decide +kernel
theorem dX9_first_16 : decode cX9_first 16 = .ok (.ireturn, 1) := by decide +kernel
set_option maxRecDepth 10000 in
theorem t_X9_first {sc : Nat × (Nat → Int32)} {d : Nat} {Q : aO → aH → Prop} {σ : aH} {u : Nat}  {x1 : Int} (hG : G σ u) (rx1 : inR x1)
    (h : (∃ (r5 : Int) (σ1 : aH), Ev sc d mX9_isMinute [.int (nZ x1)] σ (.inl (some (.int (nZ r5)))) σ1 ∧ G σ1 u ∧ inR r5 ∧ ((∃ (e9 : Nat) (σ6 : aH), Ev sc d mX9_require [.ref 0, .int (nZ r5)] σ1 (.inr e9) σ6 ∧ Q (.inr e9) σ6) ∨ (∃ σ6 : aH, Ev sc d mX9_require [.ref 0, .int (nZ r5)] σ1 (.inl none) σ6 ∧ G σ6 u ∧ (∃ (r14 : Int) (σ10 : aH), Ev sc d mX6_firstShade [.ref 27, .int (nZ x1)] σ6 (.inl (some (.int (nZ r14)))) σ10 ∧ G σ10 u ∧ inR r14 ∧ Q (.inl (some (.int (nZ r14)))) σ10))))) :
    T sc (d + 1) mX9_first [.ref 0, .int (nZ x1)] σ Q := by
  refine T.of (c := 9) (code := cX9_first) (mL := 2) (rt := (some .int)) (ini := false) (l := [(0, .ref 0), (1, .int (nZ x1))]) rfl rfl rfl rfl (by decide) hs_X9_first rfl rfl ?_
  refine w_aload_n dX9_first_0 rfl (List.Mem.head _) ?_
  refine w_iload_n dX9_first_1 rfl (List.Mem.tail _ (List.Mem.head _)) ?_
  obtain ⟨r5, σ1, hc3, hG2, rr4, h⟩ := h
  refine w_callS dX9_first_2 ml_9_143 ⟨ok_X9_isMinute, st_X9_isMinute⟩ hs_X9_isMinute (As := [.int (nZ x1)]) rfl rfl (Nat.le_of_ble_eq_true rfl) hc3 ?_
  show wp (Ev sc d) 9 cX9_first 2 (some .int) false [] sc Q 5 [(0, .ref 0), (1, .int (nZ x1))] [.int (nZ r5), .ref 0] σ1
  rcases h with h | h
  · obtain ⟨e9, σ6, hc8, h⟩ := h
    exact w_throwV dX9_first_5 mp_9_69 ⟨ok_X9_require, vi_X9_require⟩ hs_X9_require (As := [.int (nZ r5)]) rfl rfl (gT hG2 rfl (lt_of rfl)) (Nat.le_of_ble_eq_true rfl) hc8 rfl h
  · obtain ⟨σ6, hc8, hG7, h⟩ := h
    refine w_callV dX9_first_5 ml_9_69 ⟨ok_X9_require, vi_X9_require⟩ hs_X9_require (As := [.int (nZ r5)]) rfl rfl (gT hG2 rfl (lt_of rfl)) (Nat.le_of_ble_eq_true rfl) hc8 ?_
    show wp (Ev sc d) 9 cX9_first 2 (some .int) false [] sc Q 8 [(0, .ref 0), (1, .int (nZ x1))] [] σ6
    refine w_aload_n dX9_first_8 rfl (List.Mem.head _) ?_
    refine w_getR (ci := 9) (k := 4) (b := 27) dX9_first_9 fl_9_41 (by decide) (gT hG7 rfl (lt_of rfl)) (gR hG7 (b := 27) rfl) ?_
    refine w_iload_n dX9_first_12 rfl (List.Mem.tail _ (List.Mem.head _)) ?_
    obtain ⟨r14, σ10, hc12, hG11, rr13, h⟩ := h
    refine w_callV dX9_first_13 ml_9_207 ⟨ok_X6_firstShade, vi_X6_firstShade⟩ hs_X6_firstShade (As := [.int (nZ x1)]) rfl rfl (gT hG7 rfl (lt_of rfl)) (Nat.le_of_ble_eq_true rfl) hc12 ?_
    show wp (Ev sc d) 9 cX9_first 2 (some .int) false [] sc Q 16 [(0, .ref 0), (1, .int (nZ x1))] [.int (nZ r14)] σ10
    exact w_iret dX9_first_16 rfl h
theorem dX9_winter_0 : decode cX9_winter 0 = .ok (.aload_n 0, 1) := by decide +kernel
theorem dX9_winter_1 : decode cX9_winter 1 = .ok (.iload_n 1, 1) := by decide +kernel
theorem dX9_winter_2 : decode cX9_winter 2 = .ok (.invokestatic 210, 3) := by decide +kernel
theorem dX9_winter_5 : decode cX9_winter 5 = .ok (.invokevirtual 69, 3) := by decide +kernel
theorem dX9_winter_8 : decode cX9_winter 8 = .ok (.aload_n 0, 1) := by decide +kernel
theorem dX9_winter_9 : decode cX9_winter 9 = .ok (.getfield 48, 3) := by decide +kernel
theorem dX9_winter_12 : decode cX9_winter 12 = .ok (.getfield 106, 3) := by decide +kernel
theorem dX9_winter_15 : decode cX9_winter 15 = .ok (.istore_n 2, 1) := by decide +kernel
theorem dX9_winter_16 : decode cX9_winter 16 = .ok (.aload_n 0, 1) := by decide +kernel
theorem dX9_winter_17 : decode cX9_winter 17 = .ok (.getfield 48, 3) := by decide +kernel
theorem dX9_winter_20 : decode cX9_winter 20 = .ok (.iload_n 1, 1) := by decide +kernel
theorem dX9_winter_21 : decode cX9_winter 21 = .ok (.putfield 106, 3) := by decide +kernel
theorem dX9_winter_24 : decode cX9_winter 24 = .ok (.iload_n 2, 1) := by decide +kernel
theorem dX9_winter_25 : decode cX9_winter 25 = .ok (.ireturn, 1) := by decide +kernel
set_option maxRecDepth 10000 in
theorem t_X9_winter {sc : Nat × (Nat → Int32)} {d : Nat} {Q : aO → aH → Prop} {σ : aH} {u : Nat}  {x1 : Int} (hG : G σ u) (rx1 : inR x1)
    (h : (∃ (r5 : Int) (σ1 : aH), Ev sc d mX9_isBit [.int (nZ x1)] σ (.inl (some (.int (nZ r5)))) σ1 ∧ G σ1 u ∧ inR r5 ∧ ((∃ (e9 : Nat) (σ6 : aH), Ev sc d mX9_require [.ref 0, .int (nZ r5)] σ1 (.inr e9) σ6 ∧ Q (.inr e9) σ6) ∨ (∃ σ6 : aH, Ev sc d mX9_require [.ref 0, .int (nZ r5)] σ1 (.inl none) σ6 ∧ G σ6 u ∧ (∀ z10 : Int, z10 = (rI σ6 u 9) → (∀ σ13 : aH, wI σ6 u 9 x1 = σ13 → Q (.inl (some (.int (nZ z10)))) σ13)))))) :
    T sc (d + 1) mX9_winter [.ref 0, .int (nZ x1)] σ Q := by
  refine T.of (c := 9) (code := cX9_winter) (mL := 3) (rt := (some .int)) (ini := false) (l := [(0, .ref 0), (1, .int (nZ x1))]) rfl rfl rfl rfl (by decide) hs_X9_winter rfl rfl ?_
  refine w_aload_n dX9_winter_0 rfl (List.Mem.head _) ?_
  refine w_iload_n dX9_winter_1 rfl (List.Mem.tail _ (List.Mem.head _)) ?_
  obtain ⟨r5, σ1, hc3, hG2, rr4, h⟩ := h
  refine w_callS dX9_winter_2 ml_9_210 ⟨ok_X9_isBit, st_X9_isBit⟩ hs_X9_isBit (As := [.int (nZ x1)]) rfl rfl (Nat.le_of_ble_eq_true rfl) hc3 ?_
  show wp (Ev sc d) 9 cX9_winter 3 (some .int) false [] sc Q 5 [(0, .ref 0), (1, .int (nZ x1))] [.int (nZ r5), .ref 0] σ1
  rcases h with h | h
  · obtain ⟨e9, σ6, hc8, h⟩ := h
    exact w_throwV dX9_winter_5 mp_9_69 ⟨ok_X9_require, vi_X9_require⟩ hs_X9_require (As := [.int (nZ r5)]) rfl rfl (gT hG2 rfl (lt_of rfl)) (Nat.le_of_ble_eq_true rfl) hc8 rfl h
  · obtain ⟨σ6, hc8, hG7, h⟩ := h
    refine w_callV dX9_winter_5 ml_9_69 ⟨ok_X9_require, vi_X9_require⟩ hs_X9_require (As := [.int (nZ r5)]) rfl rfl (gT hG2 rfl (lt_of rfl)) (Nat.le_of_ble_eq_true rfl) hc8 ?_
    show wp (Ev sc d) 9 cX9_winter 3 (some .int) false [] sc Q 8 [(0, .ref 0), (1, .int (nZ x1))] [] σ6
    refine w_aload_n dX9_winter_8 rfl (List.Mem.head _) ?_
    refine w_getM (ci := 9) (k := 5) (b := u) dX9_winter_9 fl_9_48 (by decide) (gT hG7 rfl (lt_of rfl)) hG7.2.2.1 ?_
    refine i_getI (ci := 2) 9 rfl dX9_winter_12 fl_9_106 (by decide) (gT hG7 (IsMk_t0 hG.2.2.2.2) (IsMk_lt hG.2.2.2.2 (k := 0) (by decide))) ?_
    refine top_i (fun z10 ez11 => ?_)
    have rz12 : inR z10 := ez11 ▸ (rI_R _ _ _)
    replace h := h z10 ez11
    refine w_istore_n (l' := [(2, .int (nZ z10)), (0, .ref 0), (1, .int (nZ x1))]) dX9_winter_15 rfl (by decide) rfl ?_
    refine w_aload_n dX9_winter_16 rfl (List.Mem.tail _ (List.Mem.head _)) ?_
    refine w_getM (ci := 9) (k := 5) (b := u) dX9_winter_17 fl_9_48 (by decide) (gT hG7 rfl (lt_of rfl)) hG7.2.2.1 ?_
    refine w_iload_n dX9_winter_20 rfl (List.Mem.tail _ (List.Mem.tail _ (List.Mem.head _))) ?_
    refine i_putI (ci := 2) 9 rfl dX9_winter_21 fl_9_106 (by decide) (gT hG7 (IsMk_t0 hG.2.2.2.2) (IsMk_lt hG.2.2.2.2 (k := 0) (by decide))) (fun σ13 eσ14 => ?_)
    replace h := h σ13 eσ14
    have hG15 : G σ13 u := eσ14 ▸ G.wI hG7
    refine w_iload_n dX9_winter_24 rfl (List.Mem.head _) ?_
    exact w_iret dX9_winter_25 rfl h
theorem dX9_move_0 : decode cX9_move 0 = .ok (.aload_n 0, 1) := by decide +kernel
theorem dX9_move_1 : decode cX9_move 1 = .ok (.iload_n 1, 1) := by decide +kernel
theorem dX9_move_2 : decode cX9_move 2 = .ok (.invokevirtual 118, 3) := by decide +kernel
theorem dX9_move_5 : decode cX9_move 5 = .ok (.aload_n 0, 1) := by decide +kernel
theorem dX9_move_6 : decode cX9_move 6 = .ok (.iload_n 2, 1) := by decide +kernel
theorem dX9_move_7 : decode cX9_move 7 = .ok (.ifCond .lt 33, 3) := by decide +kernel
theorem dX9_move_10 : decode cX9_move 10 = .ok (.iload_n 2, 1) := by decide +kernel
theorem dX9_move_11 : decode cX9_move 11 = .ok (.aload_n 0, 1) := by decide +kernel
theorem dX9_move_12 : decode cX9_move 12 = .ok (.getfield 48, 3) := by decide +kernel
theorem dX9_move_15 : decode cX9_move 15 = .ok (.getfield 97, 3) := by decide +kernel
theorem dX9_move_18 : decode cX9_move 18 = .ok (.if_icmp .ge 22, 3) := by decide +kernel
theorem dX9_move_21 : decode cX9_move 21 = .ok (.iload_n 3, 1) := by decide +kernel
theorem dX9_move_22 : decode cX9_move 22 = .ok (.ifCond .lt 18, 3) := by decide +kernel
theorem dX9_move_25 : decode cX9_move 25 = .ok (.iload_n 3, 1) := by decide +kernel
theorem dX9_move_26 : decode cX9_move 26 = .ok (.aload_n 0, 1) := by decide +kernel
theorem dX9_move_27 : decode cX9_move 27 = .ok (.getfield 48, 3) := by decide +kernel
theorem dX9_move_30 : decode cX9_move 30 = .ok (.getfield 100, 3) := by decide +kernel
theorem dX9_move_33 : decode cX9_move 33 = .ok (.if_icmp .ge 7, 3) := by decide +kernel
theorem dX9_move_36 : decode cX9_move 36 = .ok (.iconst 1, 1) := by decide +kernel
theorem dX9_move_37 : decode cX9_move 37 = .ok (.goto 4, 3) := by decide +kernel
theorem dX9_move_40 : decode cX9_move 40 = .ok (.iconst 0, 1) := by decide +kernel
theorem dX9_move_41 : decode cX9_move 41 = .ok (.invokevirtual 69, 3) := by decide +kernel
theorem dX9_move_44 : decode cX9_move 44 = .ok (.aload_n 0, 1) := by decide +kernel
theorem dX9_move_45 : decode cX9_move 45 = .ok (.getfield 48, 3) := by decide +kernel
theorem dX9_move_48 : decode cX9_move 48 = .ok (.getfield 87, 3) := by decide +kernel
theorem dX9_move_51 : decode cX9_move 51 = .ok (.iload_n 2, 1) := by decide +kernel
theorem dX9_move_52 : decode cX9_move 52 = .ok (.iload_n 3, 1) := by decide +kernel
theorem dX9_move_53 : decode cX9_move 53 = .ok (.invokevirtual 213, 3) := by decide +kernel
theorem dX9_move_56 : decode cX9_move 56 = .ok (.iconst (-1), 1) := by decide +kernel
theorem dX9_move_57 : decode cX9_move 57 = .ok (.if_icmp .eq 5, 3) := by decide +kernel
theorem dX9_move_60 : decode cX9_move 60 = .ok (.iconst 0, 1) := by decide +kernel
theorem dX9_move_61 : decode cX9_move 61 = .ok (.ireturn, 1) := by decide +kernel
theorem dX9_move_62 : decode cX9_move 62 = .ok (.aload_n 0, 1) := by decide +kernel
theorem dX9_move_63 : decode cX9_move 63 = .ok (.getfield 48, 3) := by decide +kernel
theorem dX9_move_66 : decode cX9_move 66 = .ok (.getfield 87, 3) := by decide +kernel
theorem dX9_move_69 : decode cX9_move 69 = .ok (.iload_n 1, 1) := by decide +kernel
theorem dX9_move_70 : decode cX9_move 70 = .ok (.iload_n 2, 1) := by decide +kernel
theorem dX9_move_71 : decode cX9_move 71 = .ok (.iload_n 3, 1) := by decide +kernel
theorem dX9_move_72 : decode cX9_move 72 = .ok (.invokevirtual 216, 3) := by decide +kernel
theorem dX9_move_75 : decode cX9_move 75 = .ok (.iconst 1, 1) := by decide +kernel
theorem dX9_move_76 : decode cX9_move 76 = .ok (.ireturn, 1) := by decide +kernel
def L_X9_move_41 (C : aM → List Value → aH → aO → aH → Prop) (sc : Nat × (Nat → Int32)) (P : aO → aH → Prop) (x1 : Int) (x2 : Int) (x3 : Int) (s0 : Int) (σ : aH) : Prop :=
    wp C 9 cX9_move 4 (some .int) false [] sc P 41 [(0, .ref 0), (1, .int (nZ x1)), (2, .int (nZ x2)), (3, .int (nZ x3))] [.int (nZ s0), .ref 0] σ
set_option maxRecDepth 10000 in
theorem t_X9_move {sc : Nat × (Nat → Int32)} {d : Nat} {Q : aO → aH → Prop} {σ : aH} {u : Nat}  {x1 : Int} {x2 : Int} {x3 : Int} (hG : G σ u) (rx1 : inR x1) (rx2 : inR x2) (rx3 : inR x3)
    (h : ((∃ (e9 : Nat) (σ1 : aH), Ev sc d mX9_requireStall [.ref 0, .int (nZ x1)] σ (.inr e9) σ1 ∧ Q (.inr e9) σ1) ∨ (∃ σ1 : aH, Ev sc d mX9_requireStall [.ref 0, .int (nZ x1)] σ (.inl none) σ1 ∧ G σ1 u ∧ ((x2 < 0 → L_X9_move_41 (Ev sc d) sc Q x1 x2 x3 0 σ1) ∧ (¬ (x2 < 0) → (((rI σ1 u 3) ≤ x2 → L_X9_move_41 (Ev sc d) sc Q x1 x2 x3 0 σ1) ∧ (¬ ((rI σ1 u 3) ≤ x2) → ((x3 < 0 → L_X9_move_41 (Ev sc d) sc Q x1 x2 x3 0 σ1) ∧ (¬ (x3 < 0) → (((rI σ1 u 4) ≤ x3 → L_X9_move_41 (Ev sc d) sc Q x1 x2 x3 0 σ1) ∧ (¬ ((rI σ1 u 4) ≤ x3) → L_X9_move_41 (Ev sc d) sc Q x1 x2 x3 1 σ1))))))))))) :
    T sc (d + 1) mX9_move [.ref 0, .int (nZ x1), .int (nZ x2), .int (nZ x3)] σ Q := by
  refine T.of (c := 9) (code := cX9_move) (mL := 4) (rt := (some .int)) (ini := false) (l := [(0, .ref 0), (1, .int (nZ x1)), (2, .int (nZ x2)), (3, .int (nZ x3))]) rfl rfl rfl rfl (by decide) hs_X9_move rfl rfl ?_
  refine w_aload_n dX9_move_0 rfl (List.Mem.head _) ?_
  refine w_iload_n dX9_move_1 rfl (List.Mem.tail _ (List.Mem.head _)) ?_
  rcases h with h | h
  · obtain ⟨e9, σ1, hc3, h⟩ := h
    exact w_throwV dX9_move_2 mp_9_118 ⟨ok_X9_requireStall, vi_X9_requireStall⟩ hs_X9_requireStall (As := [.int (nZ x1)]) rfl rfl (gT hG rfl (lt_of rfl)) (Nat.le_of_ble_eq_true rfl) hc3 rfl h
  · obtain ⟨σ1, hc3, hG2, h⟩ := h
    refine w_callV dX9_move_2 ml_9_118 ⟨ok_X9_requireStall, vi_X9_requireStall⟩ hs_X9_requireStall (As := [.int (nZ x1)]) rfl rfl (gT hG rfl (lt_of rfl)) (Nat.le_of_ble_eq_true rfl) hc3 ?_
    show wp (Ev sc d) 9 cX9_move 4 (some .int) false [] sc Q 5 [(0, .ref 0), (1, .int (nZ x1)), (2, .int (nZ x2)), (3, .int (nZ x3))] [] σ1
    refine w_aload_n dX9_move_5 rfl (List.Mem.head _) ?_
    refine w_iload_n dX9_move_6 rfl (List.Mem.tail _ (List.Mem.tail _ (List.Mem.head _))) ?_
    refine i_if_lt (tgt := 40) dX9_move_7 rfl rx2 (fun c9 => ?_) (fun c9 => ?_)
    · replace h := h.1 c9
      refine w_iconst (v := nZ 0) dX9_move_40 (by decide) ?_
      exact h
    · replace h := h.2 c9
      refine w_iload_n dX9_move_10 rfl (List.Mem.tail _ (List.Mem.tail _ (List.Mem.head _))) ?_
      refine w_aload_n dX9_move_11 rfl (List.Mem.head _) ?_
      refine w_getM (ci := 9) (k := 5) (b := u) dX9_move_12 fl_9_48 (by decide) (gT hG2 rfl (lt_of rfl)) hG2.2.2.1 ?_
      refine i_getI (ci := 2) 3 rfl dX9_move_15 fl_9_97 (by decide) (gT hG2 (IsMk_t0 hG.2.2.2.2) (IsMk_lt hG.2.2.2.2 (k := 0) (by decide))) ?_
      refine i_cmp_ge (tgt := 40) dX9_move_18 rfl rx2 (rI_R _ _ _) (fun c9 => ?_) (fun c9 => ?_)
      · replace h := h.1 c9
        refine w_iconst (v := nZ 0) dX9_move_40 (by decide) ?_
        exact h
      · replace h := h.2 c9
        refine w_iload_n dX9_move_21 rfl (List.Mem.tail _ (List.Mem.tail _ (List.Mem.tail _ (List.Mem.head _)))) ?_
        refine i_if_lt (tgt := 40) dX9_move_22 rfl rx3 (fun c9 => ?_) (fun c9 => ?_)
        · replace h := h.1 c9
          refine w_iconst (v := nZ 0) dX9_move_40 (by decide) ?_
          exact h
        · replace h := h.2 c9
          refine w_iload_n dX9_move_25 rfl (List.Mem.tail _ (List.Mem.tail _ (List.Mem.tail _ (List.Mem.head _)))) ?_
          refine w_aload_n dX9_move_26 rfl (List.Mem.head _) ?_
          refine w_getM (ci := 9) (k := 5) (b := u) dX9_move_27 fl_9_48 (by decide) (gT hG2 rfl (lt_of rfl)) hG2.2.2.1 ?_
          refine i_getI (ci := 2) 4 rfl dX9_move_30 fl_9_100 (by decide) (gT hG2 (IsMk_t0 hG.2.2.2.2) (IsMk_lt hG.2.2.2.2 (k := 0) (by decide))) ?_
          refine i_cmp_ge (tgt := 40) dX9_move_33 rfl rx3 (rI_R _ _ _) (fun c9 => ?_) (fun c9 => ?_)
          · replace h := h.1 c9
            refine w_iconst (v := nZ 0) dX9_move_40 (by decide) ?_
            exact h
          · replace h := h.2 c9
            refine w_iconst (v := nZ 1) dX9_move_36 (by decide) ?_
            refine w_goto (tgt := 41) dX9_move_37 rfl ?_
            exact h
set_option maxRecDepth 10000 in
theorem v_X9_move_41 {C : aM → List Value → aH → aO → aH → Prop} {sc : Nat × (Nat → Int32)} {P : aO → aH → Prop} {σ : aH} {u : Nat}  {x1 : Int} {x2 : Int} {x3 : Int} {s0 : Int} (hG : G σ u) (rx1 : inR x1) (rx2 : inR x2) (rx3 : inR x3) (rs0 : inR s0)
    (h : ((∃ (e9 : Nat) (σ1 : aH), C mX9_require [.ref 0, .int (nZ s0)] σ (.inr e9) σ1 ∧ P (.inr e9) σ1) ∨ (∃ σ1 : aH, C mX9_require [.ref 0, .int (nZ s0)] σ (.inl none) σ1 ∧ G σ1 u ∧ (∃ (r9 : Int) (σ5 : aH), C mX7_whoIsAt [.ref (u + 1), .int (nZ x2), .int (nZ x3)] σ1 (.inl (some (.int (nZ r9)))) σ5 ∧ G σ5 u ∧ inR r9 ∧ ((r9 = (-1) → (∃ σ10 : aH, C mX7_put [.ref (u + 1), .int (nZ x1), .int (nZ x2), .int (nZ x3)] σ5 (.inl none) σ10 ∧ G σ10 u ∧ P (.inl (some (.int (nZ 1)))) σ10)) ∧ (¬ (r9 = (-1)) → P (.inl (some (.int (nZ 0)))) σ5)))))) :
    L_X9_move_41 C sc P x1 x2 x3 s0 σ := by
  unfold L_X9_move_41
  rcases h with h | h
  · obtain ⟨e9, σ1, hc3, h⟩ := h
    exact w_throwV dX9_move_41 mp_9_69 ⟨ok_X9_require, vi_X9_require⟩ hs_X9_require (As := [.int (nZ s0)]) rfl rfl (gT hG rfl (lt_of rfl)) (Nat.le_of_ble_eq_true rfl) hc3 rfl h
  · obtain ⟨σ1, hc3, hG2, h⟩ := h
    refine w_callV dX9_move_41 ml_9_69 ⟨ok_X9_require, vi_X9_require⟩ hs_X9_require (As := [.int (nZ s0)]) rfl rfl (gT hG rfl (lt_of rfl)) (Nat.le_of_ble_eq_true rfl) hc3 ?_
    show wp C 9 cX9_move 4 (some .int) false [] sc P 44 [(0, .ref 0), (1, .int (nZ x1)), (2, .int (nZ x2)), (3, .int (nZ x3))] [] σ1
    refine w_aload_n dX9_move_44 rfl (List.Mem.head _) ?_
    refine w_getM (ci := 9) (k := 5) (b := u) dX9_move_45 fl_9_48 (by decide) (gT hG2 rfl (lt_of rfl)) hG2.2.2.1 ?_
    refine w_getR (ci := 2) (k := 0) (b := (u + 1)) dX9_move_48 fl_9_87 (by decide) (gT hG2 (IsMk_t0 hG.2.2.2.2) (IsMk_lt hG.2.2.2.2 (k := 0) (by decide))) (gR hG2 (IsMk_r0_0 hG.2.2.2.2)) ?_
    refine w_iload_n dX9_move_51 rfl (List.Mem.tail _ (List.Mem.tail _ (List.Mem.head _))) ?_
    refine w_iload_n dX9_move_52 rfl (List.Mem.tail _ (List.Mem.tail _ (List.Mem.tail _ (List.Mem.head _)))) ?_
    obtain ⟨r9, σ5, hc7, hG6, rr8, h⟩ := h
    refine w_callV dX9_move_53 ml_9_213 ⟨ok_X7_whoIsAt, vi_X7_whoIsAt⟩ hs_X7_whoIsAt (As := [.int (nZ x2), .int (nZ x3)]) rfl rfl (gT hG2 (IsMk_t1 hG.2.2.2.2) (IsMk_lt hG.2.2.2.2 (k := 1) (by decide))) (Nat.le_of_ble_eq_true rfl) hc7 ?_
    show wp C 9 cX9_move 4 (some .int) false [] sc P 56 [(0, .ref 0), (1, .int (nZ x1)), (2, .int (nZ x2)), (3, .int (nZ x3))] [.int (nZ r9)] σ5
    refine w_iconst (v := nZ (-1)) dX9_move_56 (by decide) ?_
    refine i_cmp_eq (tgt := 62) dX9_move_57 rfl rr8 (by decide) (fun c9 => ?_) (fun c9 => ?_)
    · replace h := h.1 c9
      refine w_aload_n dX9_move_62 rfl (List.Mem.head _) ?_
      refine w_getM (ci := 9) (k := 5) (b := u) dX9_move_63 fl_9_48 (by decide) (gT hG6 rfl (lt_of rfl)) hG6.2.2.1 ?_
      refine w_getR (ci := 2) (k := 0) (b := (u + 1)) dX9_move_66 fl_9_87 (by decide) (gT hG6 (IsMk_t0 hG.2.2.2.2) (IsMk_lt hG.2.2.2.2 (k := 0) (by decide))) (gR hG6 (IsMk_r0_0 hG.2.2.2.2)) ?_
      refine w_iload_n dX9_move_69 rfl (List.Mem.tail _ (List.Mem.head _)) ?_
      refine w_iload_n dX9_move_70 rfl (List.Mem.tail _ (List.Mem.tail _ (List.Mem.head _))) ?_
      refine w_iload_n dX9_move_71 rfl (List.Mem.tail _ (List.Mem.tail _ (List.Mem.tail _ (List.Mem.head _)))) ?_
      obtain ⟨σ10, hc12, hG11, h⟩ := h
      refine w_callV dX9_move_72 ml_9_216 ⟨ok_X7_put, vi_X7_put⟩ hs_X7_put (As := [.int (nZ x1), .int (nZ x2), .int (nZ x3)]) rfl rfl (gT hG6 (IsMk_t1 hG.2.2.2.2) (IsMk_lt hG.2.2.2.2 (k := 1) (by decide))) (Nat.le_of_ble_eq_true rfl) hc12 ?_
      show wp C 9 cX9_move 4 (some .int) false [] sc P 75 [(0, .ref 0), (1, .int (nZ x1)), (2, .int (nZ x2)), (3, .int (nZ x3))] [] σ10
      refine w_iconst (v := nZ 1) dX9_move_75 (by decide) ?_
      exact w_iret dX9_move_76 rfl h
    · replace h := h.2 c9
      refine w_iconst (v := nZ 0) dX9_move_60 (by decide) ?_
      exact w_iret dX9_move_61 rfl h
theorem dX9_tall_0 : decode cX9_tall 0 = .ok (.aload_n 0, 1) := by decide +kernel
theorem dX9_tall_1 : decode cX9_tall 1 = .ok (.iload_n 1, 1) := by decide +kernel
theorem dX9_tall_2 : decode cX9_tall 2 = .ok (.invokevirtual 118, 3) := by decide +kernel
theorem dX9_tall_5 : decode cX9_tall 5 = .ok (.aload_n 0, 1) := by decide +kernel
theorem dX9_tall_6 : decode cX9_tall 6 = .ok (.iload_n 2, 1) := by decide +kernel
theorem dX9_tall_7 : decode cX9_tall 7 = .ok (.invokestatic 220, 3) := by decide +kernel
theorem dX9_tall_10 : decode cX9_tall 10 = .ok (.invokevirtual 69, 3) := by decide +kernel
theorem dX9_tall_13 : decode cX9_tall 13 = .ok (.aload_n 0, 1) := by decide +kernel
theorem dX9_tall_14 : decode cX9_tall 14 = .ok (.getfield 48, 3) := by decide +kernel
theorem dX9_tall_17 : decode cX9_tall 17 = .ok (.getfield 87, 3) := by decide +kernel
theorem dX9_tall_20 : decode cX9_tall 20 = .ok (.getfield 128, 3) := by decide +kernel
theorem dX9_tall_23 : decode cX9_tall 23 = .ok (.iload_n 1, 1) := by decide +kernel
theorem dX9_tall_24 : decode cX9_tall 24 = .ok (.iaload, 1) := by decide +kernel
theorem dX9_tall_25 : decode cX9_tall 25 = .ok (.istore_n 3, 1) := by decide +kernel
theorem dX9_tall_26 : decode cX9_tall 26 = .ok (.aload_n 0, 1) := by decide +kernel
theorem dX9_tall_27 : decode cX9_tall 27 = .ok (.getfield 48, 3) := by decide +kernel
theorem dX9_tall_30 : decode cX9_tall 30 = .ok (.getfield 87, 3) := by decide +kernel
theorem dX9_tall_33 : decode cX9_tall 33 = .ok (.getfield 128, 3) := by decide +kernel
theorem dX9_tall_36 : decode cX9_tall 36 = .ok (.iload_n 1, 1) := by decide +kernel
theorem dX9_tall_37 : decode cX9_tall 37 = .ok (.iload_n 2, 1) := by decide +kernel
theorem dX9_tall_38 : decode cX9_tall 38 = .ok (.iastore, 1) := by decide +kernel
theorem dX9_tall_39 : decode cX9_tall 39 = .ok (.iload_n 3, 1) := by decide +kernel
theorem dX9_tall_40 : decode cX9_tall 40 = .ok (.ireturn, 1) := by decide +kernel
set_option maxRecDepth 10000 in
theorem t_X9_tall {sc : Nat × (Nat → Int32)} {d : Nat} {Q : aO → aH → Prop} {σ : aH} {u : Nat}  {x1 : Int} {x2 : Int} (hG : G σ u) (rx1 : inR x1) (rx2 : inR x2)
    (h : ((∃ (e9 : Nat) (σ1 : aH), Ev sc d mX9_requireStall [.ref 0, .int (nZ x1)] σ (.inr e9) σ1 ∧ Q (.inr e9) σ1) ∨ (∃ σ1 : aH, Ev sc d mX9_requireStall [.ref 0, .int (nZ x1)] σ (.inl none) σ1 ∧ G σ1 u ∧ (∃ (r9 : Int) (σ5 : aH), Ev sc d mX9_isHeight [.int (nZ x2)] σ1 (.inl (some (.int (nZ r9)))) σ5 ∧ G σ5 u ∧ inR r9 ∧ ((∃ (e9 : Nat) (σ10 : aH), Ev sc d mX9_require [.ref 0, .int (nZ r9)] σ5 (.inr e9) σ10 ∧ Q (.inr e9) σ10) ∨ (∃ σ10 : aH, Ev sc d mX9_require [.ref 0, .int (nZ r9)] σ5 (.inl none) σ10 ∧ G σ10 u ∧ ((0 ≤ x1 ∧ x1 < 9) ∧ (∀ z14 : Int, z14 = (rI σ10 (u + 4) x1) → ((0 ≤ x1 ∧ x1 < 9) ∧ (∀ σ17 : aH, wI σ10 (u + 4) x1 x2 = σ17 → Q (.inl (some (.int (nZ z14)))) σ17)))))))))) :
    T sc (d + 1) mX9_tall [.ref 0, .int (nZ x1), .int (nZ x2)] σ Q := by
  refine T.of (c := 9) (code := cX9_tall) (mL := 4) (rt := (some .int)) (ini := false) (l := [(0, .ref 0), (1, .int (nZ x1)), (2, .int (nZ x2))]) rfl rfl rfl rfl (by decide) hs_X9_tall rfl rfl ?_
  refine w_aload_n dX9_tall_0 rfl (List.Mem.head _) ?_
  refine w_iload_n dX9_tall_1 rfl (List.Mem.tail _ (List.Mem.head _)) ?_
  rcases h with h | h
  · obtain ⟨e9, σ1, hc3, h⟩ := h
    exact w_throwV dX9_tall_2 mp_9_118 ⟨ok_X9_requireStall, vi_X9_requireStall⟩ hs_X9_requireStall (As := [.int (nZ x1)]) rfl rfl (gT hG rfl (lt_of rfl)) (Nat.le_of_ble_eq_true rfl) hc3 rfl h
  · obtain ⟨σ1, hc3, hG2, h⟩ := h
    refine w_callV dX9_tall_2 ml_9_118 ⟨ok_X9_requireStall, vi_X9_requireStall⟩ hs_X9_requireStall (As := [.int (nZ x1)]) rfl rfl (gT hG rfl (lt_of rfl)) (Nat.le_of_ble_eq_true rfl) hc3 ?_
    show wp (Ev sc d) 9 cX9_tall 4 (some .int) false [] sc Q 5 [(0, .ref 0), (1, .int (nZ x1)), (2, .int (nZ x2))] [] σ1
    refine w_aload_n dX9_tall_5 rfl (List.Mem.head _) ?_
    refine w_iload_n dX9_tall_6 rfl (List.Mem.tail _ (List.Mem.tail _ (List.Mem.head _))) ?_
    obtain ⟨r9, σ5, hc7, hG6, rr8, h⟩ := h
    refine w_callS dX9_tall_7 ml_9_220 ⟨ok_X9_isHeight, st_X9_isHeight⟩ hs_X9_isHeight (As := [.int (nZ x2)]) rfl rfl (Nat.le_of_ble_eq_true rfl) hc7 ?_
    show wp (Ev sc d) 9 cX9_tall 4 (some .int) false [] sc Q 10 [(0, .ref 0), (1, .int (nZ x1)), (2, .int (nZ x2))] [.int (nZ r9), .ref 0] σ5
    rcases h with h | h
    · obtain ⟨e9, σ10, hc12, h⟩ := h
      exact w_throwV dX9_tall_10 mp_9_69 ⟨ok_X9_require, vi_X9_require⟩ hs_X9_require (As := [.int (nZ r9)]) rfl rfl (gT hG6 rfl (lt_of rfl)) (Nat.le_of_ble_eq_true rfl) hc12 rfl h
    · obtain ⟨σ10, hc12, hG11, h⟩ := h
      refine w_callV dX9_tall_10 ml_9_69 ⟨ok_X9_require, vi_X9_require⟩ hs_X9_require (As := [.int (nZ r9)]) rfl rfl (gT hG6 rfl (lt_of rfl)) (Nat.le_of_ble_eq_true rfl) hc12 ?_
      show wp (Ev sc d) 9 cX9_tall 4 (some .int) false [] sc Q 13 [(0, .ref 0), (1, .int (nZ x1)), (2, .int (nZ x2))] [] σ10
      refine w_aload_n dX9_tall_13 rfl (List.Mem.head _) ?_
      refine w_getM (ci := 9) (k := 5) (b := u) dX9_tall_14 fl_9_48 (by decide) (gT hG11 rfl (lt_of rfl)) hG11.2.2.1 ?_
      refine w_getR (ci := 2) (k := 0) (b := (u + 1)) dX9_tall_17 fl_9_87 (by decide) (gT hG11 (IsMk_t0 hG.2.2.2.2) (IsMk_lt hG.2.2.2.2 (k := 0) (by decide))) (gR hG11 (IsMk_r0_0 hG.2.2.2.2)) ?_
      refine w_getR (ci := 7) (k := 2) (b := (u + 4)) dX9_tall_20 fl_9_128 (by decide) (gT hG11 (IsMk_t1 hG.2.2.2.2) (IsMk_lt hG.2.2.2.2 (k := 1) (by decide))) (gR hG11 (IsMk_r1_2 hG.2.2.2.2)) ?_
      refine w_iload_n dX9_tall_23 rfl (List.Mem.tail _ (List.Mem.head _)) ?_
      obtain ⟨h9, h⟩ := h
      refine i_iald (n := 9) dX9_tall_24 (gT hG11 (IsMk_t4 hG.2.2.2.2) (IsMk_lt hG.2.2.2.2 (k := 4) (by decide))) (gL hG11 (IsMk_n4 hG.2.2.2.2)) rx1 h9 ?_
      refine top_i (fun z14 ez15 => ?_)
      have rz16 : inR z14 := ez15 ▸ (rI_R _ _ _)
      replace h := h z14 ez15
      refine w_istore_n (l' := [(3, .int (nZ z14)), (0, .ref 0), (1, .int (nZ x1)), (2, .int (nZ x2))]) dX9_tall_25 rfl (by decide) rfl ?_
      refine w_aload_n dX9_tall_26 rfl (List.Mem.tail _ (List.Mem.head _)) ?_
      refine w_getM (ci := 9) (k := 5) (b := u) dX9_tall_27 fl_9_48 (by decide) (gT hG11 rfl (lt_of rfl)) hG11.2.2.1 ?_
      refine w_getR (ci := 2) (k := 0) (b := (u + 1)) dX9_tall_30 fl_9_87 (by decide) (gT hG11 (IsMk_t0 hG.2.2.2.2) (IsMk_lt hG.2.2.2.2 (k := 0) (by decide))) (gR hG11 (IsMk_r0_0 hG.2.2.2.2)) ?_
      refine w_getR (ci := 7) (k := 2) (b := (u + 4)) dX9_tall_33 fl_9_128 (by decide) (gT hG11 (IsMk_t1 hG.2.2.2.2) (IsMk_lt hG.2.2.2.2 (k := 1) (by decide))) (gR hG11 (IsMk_r1_2 hG.2.2.2.2)) ?_
      refine w_iload_n dX9_tall_36 rfl (List.Mem.tail _ (List.Mem.tail _ (List.Mem.head _))) ?_
      refine w_iload_n dX9_tall_37 rfl (List.Mem.tail _ (List.Mem.tail _ (List.Mem.tail _ (List.Mem.head _)))) ?_
      obtain ⟨h9, h⟩ := h
      refine i_iast (n := 9) dX9_tall_38 (gT hG11 (IsMk_t4 hG.2.2.2.2) (IsMk_lt hG.2.2.2.2 (k := 4) (by decide))) (gL hG11 (IsMk_n4 hG.2.2.2.2)) rx1 h9 (fun σ17 eσ18 => ?_)
      replace h := h σ17 eσ18
      have hG19 : G σ17 u := eσ18 ▸ G.wI hG11
      refine w_iload_n dX9_tall_39 rfl (List.Mem.head _) ?_
      exact w_iret dX9_tall_40 rfl h
theorem dX9_set_0 : decode cX9_set 0 = .ok (.iload_n 1, 1) := by decide +kernel
theorem dX9_set_1 : decode cX9_set 1 = .ok (.invokestatic 223, 3) := by decide +kernel
theorem dX9_set_4 : decode cX9_set 4 = .ok (.istore_n 3, 1) := by decide +kernel
theorem dX9_set_5 : decode cX9_set 5 = .ok (.aload_n 0, 1) := by decide +kernel
theorem dX9_set_6 : decode cX9_set 6 = .ok (.iload_n 3, 1) := by decide +kernel
theorem dX9_set_7 : decode cX9_set 7 = .ok (.iconst 1, 1) := by decide +kernel
theorem dX9_set_8 : decode cX9_set 8 = .ok (.if_icmp .lt 39, 3) := by decide +kernel
theorem dX9_set_11 : decode cX9_set 11 = .ok (.iload_n 3, 1) := by decide +kernel
theorem dX9_set_12 : decode cX9_set 12 = .ok (.iconst 2, 1) := by decide +kernel
theorem dX9_set_13 : decode cX9_set 13 = .ok (.if_icmp .gt 34, 3) := by decide +kernel
theorem dX9_set_16 : decode cX9_set 16 = .ok (.iload_n 1, 1) := by decide +kernel
theorem dX9_set_17 : decode cX9_set 17 = .ok (.ifCond .le 30, 3) := by decide +kernel
theorem dX9_set_20 : decode cX9_set 20 = .ok (.iload_n 1, 1) := by decide +kernel
theorem dX9_set_21 : decode cX9_set 21 = .ok (.iconst 1, 1) := by decide +kernel
theorem dX9_set_22 : decode cX9_set 22 = .ok (.aload_n 0, 1) := by decide +kernel
theorem dX9_set_23 : decode cX9_set 23 = .ok (.getfield 48, 3) := by decide +kernel
theorem dX9_set_26 : decode cX9_set 26 = .ok (.getfield 87, 3) := by decide +kernel
theorem dX9_set_29 : decode cX9_set 29 = .ok (.getfield 91, 3) := by decide +kernel
theorem dX9_set_32 : decode cX9_set 32 = .ok (.ishl, 1) := by decide +kernel
theorem dX9_set_33 : decode cX9_set 33 = .ok (.if_icmp .ge 14, 3) := by decide +kernel
theorem dX9_set_36 : decode cX9_set 36 = .ok (.iload_n 2, 1) := by decide +kernel
theorem dX9_set_37 : decode cX9_set 37 = .ok (.invokestatic 210, 3) := by decide +kernel
theorem dX9_set_40 : decode cX9_set 40 = .ok (.ifCond .eq 7, 3) := by decide +kernel
theorem dX9_set_43 : decode cX9_set 43 = .ok (.iconst 1, 1) := by decide +kernel
theorem dX9_set_44 : decode cX9_set 44 = .ok (.goto 4, 3) := by decide +kernel
theorem dX9_set_47 : decode cX9_set 47 = .ok (.iconst 0, 1) := by decide +kernel
theorem dX9_set_48 : decode cX9_set 48 = .ok (.invokevirtual 69, 3) := by decide +kernel
theorem dX9_set_51 : decode cX9_set 51 = .ok (.iload_n 1, 1) := by decide +kernel
theorem dX9_set_52 : decode cX9_set 52 = .ok (.iconst 0, 1) := by decide +kernel
theorem dX9_set_53 : decode cX9_set 53 = .ok (.invokestatic 228, 3) := by decide +kernel
theorem dX9_set_56 : decode cX9_set 56 = .ok (.istore 4, 2) := by decide +kernel
theorem dX9_set_58 : decode cX9_set 58 = .ok (.aload_n 0, 1) := by decide +kernel
theorem dX9_set_59 : decode cX9_set 59 = .ok (.getfield 33, 3) := by decide +kernel
theorem dX9_set_62 : decode cX9_set 62 = .ok (.iload 4, 2) := by decide +kernel
theorem dX9_set_64 : decode cX9_set 64 = .ok (.iload_n 1, 1) := by decide +kernel
theorem dX9_set_65 : decode cX9_set 65 = .ok (.iload 4, 2) := by decide +kernel
theorem dX9_set_67 : decode cX9_set 67 = .ok (.iconst 1, 1) := by decide +kernel
theorem dX9_set_68 : decode cX9_set 68 = .ok (.iadd, 1) := by decide +kernel
theorem dX9_set_69 : decode cX9_set 69 = .ok (.invokestatic 228, 3) := by decide +kernel
theorem dX9_set_72 : decode cX9_set 72 = .ok (.invokevirtual 231, 3) := by decide +kernel
theorem dX9_set_75 : decode cX9_set 75 = .ok (.iload_n 2, 1) := by decide +kernel
theorem dX9_set_76 : decode cX9_set 76 = .ok (.ifCond .ne 13, 3) := by decide +kernel
theorem dX9_set_79 : decode cX9_set 79 = .ok (.aload_n 0, 1) := by decide +kernel
theorem dX9_set_80 : decode cX9_set 80 = .ok (.getfield 33, 3) := by decide +kernel
theorem dX9_set_83 : decode cX9_set 83 = .ok (.getfield 234, 3) := by decide +kernel
theorem dX9_set_86 : decode cX9_set 86 = .ok (.goto 10, 3) := by decide +kernel
theorem dX9_set_89 : decode cX9_set 89 = .ok (.aload_n 0, 1) := by decide +kernel
theorem dX9_set_90 : decode cX9_set 90 = .ok (.getfield 33, 3) := by decide +kernel
theorem dX9_set_93 : decode cX9_set 93 = .ok (.getfield 237, 3) := by decide +kernel
theorem dX9_set_96 : decode cX9_set 96 = .ok (.ireturn, 1) := by decide +kernel
def L_X9_set_48 (C : aM → List Value → aH → aO → aH → Prop) (sc : Nat × (Nat → Int32)) (P : aO → aH → Prop) (x1 : Int) (x2 : Int) (x3 : Int) (s0 : Int) (σ : aH) : Prop :=
    wp C 9 cX9_set 5 (some .int) false [] sc P 48 [(0, .ref 0), (1, .int (nZ x1)), (2, .int (nZ x2)), (3, .int (nZ x3))] [.int (nZ s0), .ref 0] σ
set_option maxRecDepth 10000 in
theorem t_X9_set {sc : Nat × (Nat → Int32)} {d : Nat} {Q : aO → aH → Prop} {σ : aH} {u : Nat}  {x1 : Int} {x2 : Int} (hG : G σ u) (rx1 : inR x1) (rx2 : inR x2)
    (h : (∃ (r5 : Int) (σ1 : aH), Ev sc d mJ6_bitCount_0f7a4 [.int (nZ x1)] σ (.inl (some (.int (nZ r5)))) σ1 ∧ G σ1 u ∧ inR r5 ∧ ((r5 < 1 → L_X9_set_48 (Ev sc d) sc Q x1 x2 r5 0 σ1) ∧ (¬ (r5 < 1) → ((2 < r5 → L_X9_set_48 (Ev sc d) sc Q x1 x2 r5 0 σ1) ∧ (¬ (2 < r5) → ((x1 ≤ 0 → L_X9_set_48 (Ev sc d) sc Q x1 x2 r5 0 σ1) ∧ (¬ (x1 ≤ 0) → (((zShl 1 (rI σ1 (u + 1) 8)) ≤ x1 → L_X9_set_48 (Ev sc d) sc Q x1 x2 r5 0 σ1) ∧ (¬ ((zShl 1 (rI σ1 (u + 1) 8)) ≤ x1) → (∃ (r10 : Int) (σ6 : aH), Ev sc d mX9_isBit [.int (nZ x2)] σ1 (.inl (some (.int (nZ r10)))) σ6 ∧ G σ6 u ∧ inR r10 ∧ ((r10 = 0 → L_X9_set_48 (Ev sc d) sc Q x1 x2 r5 0 σ6) ∧ (¬ (r10 = 0) → L_X9_set_48 (Ev sc d) sc Q x1 x2 r5 1 σ6))))))))))))) :
    T sc (d + 1) mX9_set [.ref 0, .int (nZ x1), .int (nZ x2)] σ Q := by
  refine T.of (c := 9) (code := cX9_set) (mL := 5) (rt := (some .int)) (ini := false) (l := [(0, .ref 0), (1, .int (nZ x1)), (2, .int (nZ x2))]) rfl rfl rfl rfl (by decide) hs_X9_set rfl rfl ?_
  refine w_iload_n dX9_set_0 rfl (List.Mem.tail _ (List.Mem.head _)) ?_
  obtain ⟨r5, σ1, hc3, hG2, rr4, h⟩ := h
  refine w_callS dX9_set_1 ml_9_223 ⟨ok_J6_bitCount_0f7a4, st_J6_bitCount_0f7a4⟩ hs_J6_bitCount_0f7a4 (As := [.int (nZ x1)]) rfl rfl (Nat.le_of_ble_eq_true rfl) hc3 ?_
  show wp (Ev sc d) 9 cX9_set 5 (some .int) false [] sc Q 4 [(0, .ref 0), (1, .int (nZ x1)), (2, .int (nZ x2))] [.int (nZ r5)] σ1
  refine w_istore_n (l' := [(3, .int (nZ r5)), (0, .ref 0), (1, .int (nZ x1)), (2, .int (nZ x2))]) dX9_set_4 rfl (by decide) rfl ?_
  refine w_aload_n dX9_set_5 rfl (List.Mem.tail _ (List.Mem.head _)) ?_
  refine w_iload_n dX9_set_6 rfl (List.Mem.head _) ?_
  refine w_iconst (v := nZ 1) dX9_set_7 (by decide) ?_
  refine i_cmp_lt (tgt := 47) dX9_set_8 rfl rr4 (by decide) (fun c9 => ?_) (fun c9 => ?_)
  · replace h := h.1 c9
    refine w_iconst (v := nZ 0) dX9_set_47 (by decide) ?_
    exact w_weak (l' := [(0, .ref 0), (1, .int (nZ x1)), (2, .int (nZ x2)), (3, .int (nZ r5))]) (by intro q hq; simp only [List.mem_cons, List.not_mem_nil, or_false] at hq ⊢; rcases hq with rfl | rfl | rfl | rfl <;> simp) h
  · replace h := h.2 c9
    refine w_iload_n dX9_set_11 rfl (List.Mem.head _) ?_
    refine w_iconst (v := nZ 2) dX9_set_12 (by decide) ?_
    refine i_cmp_gt (tgt := 47) dX9_set_13 rfl rr4 (by decide) (fun c9 => ?_) (fun c9 => ?_)
    · replace h := h.1 c9
      refine w_iconst (v := nZ 0) dX9_set_47 (by decide) ?_
      exact w_weak (l' := [(0, .ref 0), (1, .int (nZ x1)), (2, .int (nZ x2)), (3, .int (nZ r5))]) (by intro q hq; simp only [List.mem_cons, List.not_mem_nil, or_false] at hq ⊢; rcases hq with rfl | rfl | rfl | rfl <;> simp) h
    · replace h := h.2 c9
      refine w_iload_n dX9_set_16 rfl (List.Mem.tail _ (List.Mem.tail _ (List.Mem.head _))) ?_
      refine i_if_le (tgt := 47) dX9_set_17 rfl rx1 (fun c9 => ?_) (fun c9 => ?_)
      · replace h := h.1 c9
        refine w_iconst (v := nZ 0) dX9_set_47 (by decide) ?_
        exact w_weak (l' := [(0, .ref 0), (1, .int (nZ x1)), (2, .int (nZ x2)), (3, .int (nZ r5))]) (by intro q hq; simp only [List.mem_cons, List.not_mem_nil, or_false] at hq ⊢; rcases hq with rfl | rfl | rfl | rfl <;> simp) h
      · replace h := h.2 c9
        refine w_iload_n dX9_set_20 rfl (List.Mem.tail _ (List.Mem.tail _ (List.Mem.head _))) ?_
        refine w_iconst (v := nZ 1) dX9_set_21 (by decide) ?_
        refine w_aload_n dX9_set_22 rfl (List.Mem.tail _ (List.Mem.head _)) ?_
        refine w_getM (ci := 9) (k := 5) (b := u) dX9_set_23 fl_9_48 (by decide) (gT hG2 rfl (lt_of rfl)) hG2.2.2.1 ?_
        refine w_getR (ci := 2) (k := 0) (b := (u + 1)) dX9_set_26 fl_9_87 (by decide) (gT hG2 (IsMk_t0 hG.2.2.2.2) (IsMk_lt hG.2.2.2.2 (k := 0) (by decide))) (gR hG2 (IsMk_r0_0 hG.2.2.2.2)) ?_
        refine i_getI (ci := 7) 8 rfl dX9_set_29 fl_9_91 (by decide) (gT hG2 (IsMk_t1 hG.2.2.2.2) (IsMk_lt hG.2.2.2.2 (k := 1) (by decide))) ?_
        refine i_shl dX9_set_32 ?_
        refine i_cmp_ge (tgt := 47) dX9_set_33 rfl rx1 (zShl_R _ _) (fun c9 => ?_) (fun c9 => ?_)
        · replace h := h.1 c9
          refine w_iconst (v := nZ 0) dX9_set_47 (by decide) ?_
          exact w_weak (l' := [(0, .ref 0), (1, .int (nZ x1)), (2, .int (nZ x2)), (3, .int (nZ r5))]) (by intro q hq; simp only [List.mem_cons, List.not_mem_nil, or_false] at hq ⊢; rcases hq with rfl | rfl | rfl | rfl <;> simp) h
        · replace h := h.2 c9
          refine w_iload_n dX9_set_36 rfl (List.Mem.tail _ (List.Mem.tail _ (List.Mem.tail _ (List.Mem.head _)))) ?_
          obtain ⟨r10, σ6, hc8, hG7, rr9, h⟩ := h
          refine w_callS dX9_set_37 ml_9_210 ⟨ok_X9_isBit, st_X9_isBit⟩ hs_X9_isBit (As := [.int (nZ x2)]) rfl rfl (Nat.le_of_ble_eq_true rfl) hc8 ?_
          show wp (Ev sc d) 9 cX9_set 5 (some .int) false [] sc Q 40 [(3, .int (nZ r5)), (0, .ref 0), (1, .int (nZ x1)), (2, .int (nZ x2))] [.int (nZ r10), .ref 0] σ6
          refine i_if_eq (tgt := 47) dX9_set_40 rfl rr9 (fun c9 => ?_) (fun c9 => ?_)
          · replace h := h.1 c9
            refine w_iconst (v := nZ 0) dX9_set_47 (by decide) ?_
            exact w_weak (l' := [(0, .ref 0), (1, .int (nZ x1)), (2, .int (nZ x2)), (3, .int (nZ r5))]) (by intro q hq; simp only [List.mem_cons, List.not_mem_nil, or_false] at hq ⊢; rcases hq with rfl | rfl | rfl | rfl <;> simp) h
          · replace h := h.2 c9
            refine w_iconst (v := nZ 1) dX9_set_43 (by decide) ?_
            refine w_goto (tgt := 48) dX9_set_44 rfl ?_
            exact w_weak (l' := [(0, .ref 0), (1, .int (nZ x1)), (2, .int (nZ x2)), (3, .int (nZ r5))]) (by intro q hq; simp only [List.mem_cons, List.not_mem_nil, or_false] at hq ⊢; rcases hq with rfl | rfl | rfl | rfl <;> simp) h
set_option maxRecDepth 10000 in
theorem v_X9_set_48 {C : aM → List Value → aH → aO → aH → Prop} {sc : Nat × (Nat → Int32)} {P : aO → aH → Prop} {σ : aH} {u : Nat}  {x1 : Int} {x2 : Int} {x3 : Int} {s0 : Int} (hG : G σ u) (rx1 : inR x1) (rx2 : inR x2) (rx3 : inR x3) (rs0 : inR s0)
    (h : ((∃ (e9 : Nat) (σ1 : aH), C mX9_require [.ref 0, .int (nZ s0)] σ (.inr e9) σ1 ∧ P (.inr e9) σ1) ∨ (∃ σ1 : aH, C mX9_require [.ref 0, .int (nZ s0)] σ (.inl none) σ1 ∧ G σ1 u ∧ (∃ (r9 : Int) (σ5 : aH), C mX9_lowestBit [.int (nZ x1), .int (nZ 0)] σ1 (.inl (some (.int (nZ r9)))) σ5 ∧ G σ5 u ∧ inR r9 ∧ (inR (r9 + 1) ∧ (∃ (r15 : Int) (σ11 : aH), C mX9_lowestBit [.int (nZ x1), .int (nZ (r9 + 1))] σ5 (.inl (some (.int (nZ r15)))) σ11 ∧ G σ11 u ∧ inR r15 ∧ (∃ σ16 : aH, C mX4_placeAnew [.ref 26, .int (nZ r9), .int (nZ r15)] σ11 (.inl none) σ16 ∧ G σ16 u ∧ ((¬ x2 = 0 → P (.inl (some (.int (nZ (rI σ16 26 7))))) σ16) ∧ (x2 = 0 → P (.inl (some (.int (nZ (rI σ16 26 6))))) σ16))))))))) :
    L_X9_set_48 C sc P x1 x2 x3 s0 σ := by
  unfold L_X9_set_48
  rcases h with h | h
  · obtain ⟨e9, σ1, hc3, h⟩ := h
    exact w_throwV dX9_set_48 mp_9_69 ⟨ok_X9_require, vi_X9_require⟩ hs_X9_require (As := [.int (nZ s0)]) rfl rfl (gT hG rfl (lt_of rfl)) (Nat.le_of_ble_eq_true rfl) hc3 rfl h
  · obtain ⟨σ1, hc3, hG2, h⟩ := h
    refine w_callV dX9_set_48 ml_9_69 ⟨ok_X9_require, vi_X9_require⟩ hs_X9_require (As := [.int (nZ s0)]) rfl rfl (gT hG rfl (lt_of rfl)) (Nat.le_of_ble_eq_true rfl) hc3 ?_
    show wp C 9 cX9_set 5 (some .int) false [] sc P 51 [(0, .ref 0), (1, .int (nZ x1)), (2, .int (nZ x2)), (3, .int (nZ x3))] [] σ1
    refine w_iload_n dX9_set_51 rfl (List.Mem.tail _ (List.Mem.head _)) ?_
    refine w_iconst (v := nZ 0) dX9_set_52 (by decide) ?_
    obtain ⟨r9, σ5, hc7, hG6, rr8, h⟩ := h
    refine w_callS dX9_set_53 ml_9_228 ⟨ok_X9_lowestBit, st_X9_lowestBit⟩ hs_X9_lowestBit (As := [.int (nZ x1), .int (nZ 0)]) rfl rfl (Nat.le_of_ble_eq_true rfl) hc7 ?_
    show wp C 9 cX9_set 5 (some .int) false [] sc P 56 [(0, .ref 0), (1, .int (nZ x1)), (2, .int (nZ x2)), (3, .int (nZ x3))] [.int (nZ r9)] σ5
    refine w_istore (l' := [(4, .int (nZ r9)), (0, .ref 0), (1, .int (nZ x1)), (2, .int (nZ x2)), (3, .int (nZ x3))]) dX9_set_56 (by decide) rfl ?_
    refine w_aload_n dX9_set_58 rfl (List.Mem.tail _ (List.Mem.head _)) ?_
    refine w_getR (ci := 9) (k := 3) (b := 26) dX9_set_59 fl_9_33 (by decide) (gT hG6 rfl (lt_of rfl)) (gR hG6 (b := 26) rfl) ?_
    refine w_iload dX9_set_62 (List.Mem.head _) ?_
    refine w_iload_n dX9_set_64 rfl (List.Mem.tail _ (List.Mem.tail _ (List.Mem.head _))) ?_
    refine w_iload dX9_set_65 (List.Mem.head _) ?_
    refine w_iconst (v := nZ 1) dX9_set_67 (by decide) ?_
    obtain ⟨q10, h⟩ := h
    refine i_add dX9_set_68 ?_
    obtain ⟨r15, σ11, hc13, hG12, rr14, h⟩ := h
    refine w_callS dX9_set_69 ml_9_228 ⟨ok_X9_lowestBit, st_X9_lowestBit⟩ hs_X9_lowestBit (As := [.int (nZ x1), .int (nZ (r9 + 1))]) rfl rfl (Nat.le_of_ble_eq_true rfl) hc13 ?_
    show wp C 9 cX9_set 5 (some .int) false [] sc P 72 [(4, .int (nZ r9)), (0, .ref 0), (1, .int (nZ x1)), (2, .int (nZ x2)), (3, .int (nZ x3))] [.int (nZ r15), .int (nZ r9), .ref 26] σ11
    obtain ⟨σ16, hc18, hG17, h⟩ := h
    refine w_callV dX9_set_72 ml_9_231 ⟨ok_X4_placeAnew, vi_X4_placeAnew⟩ hs_X4_placeAnew (As := [.int (nZ r9), .int (nZ r15)]) rfl rfl (gT hG12 rfl (lt_of rfl)) (Nat.le_of_ble_eq_true rfl) hc18 ?_
    show wp C 9 cX9_set 5 (some .int) false [] sc P 75 [(4, .int (nZ r9)), (0, .ref 0), (1, .int (nZ x1)), (2, .int (nZ x2)), (3, .int (nZ x3))] [] σ16
    refine w_iload_n dX9_set_75 rfl (List.Mem.tail _ (List.Mem.tail _ (List.Mem.tail _ (List.Mem.head _)))) ?_
    refine i_if_ne (tgt := 89) dX9_set_76 rfl rx2 (fun c9 => ?_) (fun c9 => ?_)
    · replace h := h.1 c9
      refine w_aload_n dX9_set_89 rfl (List.Mem.tail _ (List.Mem.head _)) ?_
      refine w_getR (ci := 9) (k := 3) (b := 26) dX9_set_90 fl_9_33 (by decide) (gT hG17 rfl (lt_of rfl)) (gR hG17 (b := 26) rfl) ?_
      refine i_getI (ci := 4) 7 rfl dX9_set_93 fl_9_237 (by decide) (gT hG17 rfl (lt_of rfl)) ?_
      exact w_iret dX9_set_96 rfl h
    · replace h := h.2 c9
      refine w_aload_n dX9_set_79 rfl (List.Mem.tail _ (List.Mem.head _)) ?_
      refine w_getR (ci := 9) (k := 3) (b := 26) dX9_set_80 fl_9_33 (by decide) (gT hG17 rfl (lt_of rfl)) (gR hG17 (b := 26) rfl) ?_
      refine i_getI (ci := 4) 6 rfl dX9_set_83 fl_9_234 (by decide) (gT hG17 rfl (lt_of rfl)) ?_
      refine w_goto (tgt := 96) dX9_set_86 rfl ?_
      exact w_iret dX9_set_96 rfl h
theorem dX9_exchange_0 : decode cX9_exchange 0 = .ok (.aload_n 0, 1) := by decide +kernel
theorem dX9_exchange_1 : decode cX9_exchange 1 = .ok (.getfield 33, 3) := by decide +kernel
theorem dX9_exchange_4 : decode cX9_exchange 4 = .ok (.invokevirtual 240, 3) := by decide +kernel
theorem dX9_exchange_7 : decode cX9_exchange 7 = .ok (.ireturn, 1) := by decide +kernel
set_option maxRecDepth 10000 in
theorem t_X9_exchange {sc : Nat × (Nat → Int32)} {d : Nat} {Q : aO → aH → Prop} {σ : aH} {u : Nat}   (hG : G σ u) 
    (h : (∃ (r5 : Int) (σ1 : aH), Ev sc d mX4_bestExchange [.ref 26] σ (.inl (some (.int (nZ r5)))) σ1 ∧ G σ1 u ∧ inR r5 ∧ Q (.inl (some (.int (nZ r5)))) σ1)) :
    T sc (d + 1) mX9_exchange [.ref 0] σ Q := by
  refine T.of (c := 9) (code := cX9_exchange) (mL := 1) (rt := (some .int)) (ini := false) (l := [(0, .ref 0)]) rfl rfl rfl rfl (by decide) hs_X9_exchange rfl rfl ?_
  refine w_aload_n dX9_exchange_0 rfl (List.Mem.head _) ?_
  refine w_getR (ci := 9) (k := 3) (b := 26) dX9_exchange_1 fl_9_33 (by decide) (gT hG rfl (lt_of rfl)) (gR hG (b := 26) rfl) ?_
  obtain ⟨r5, σ1, hc3, hG2, rr4, h⟩ := h
  refine w_callV dX9_exchange_4 ml_9_240 ⟨ok_X4_bestExchange, vi_X4_bestExchange⟩ hs_X4_bestExchange (As := []) rfl rfl (gT hG rfl (lt_of rfl)) (Nat.le_of_ble_eq_true rfl) hc3 ?_
  show wp (Ev sc d) 9 cX9_exchange 1 (some .int) false [] sc Q 7 [(0, .ref 0)] [.int (nZ r5)] σ1
  exact w_iret dX9_exchange_7 rfl h
theorem dX9_pole_0 : decode cX9_pole 0 = .ok (.aload_n 0, 1) := by decide +kernel
theorem dX9_pole_1 : decode cX9_pole 1 = .ok (.iload_n 1, 1) := by decide +kernel
theorem dX9_pole_2 : decode cX9_pole 2 = .ok (.invokestatic 220, 3) := by decide +kernel
theorem dX9_pole_5 : decode cX9_pole 5 = .ok (.ifCond .eq 14, 3) := by decide +kernel
theorem dX9_pole_8 : decode cX9_pole 8 = .ok (.iload_n 2, 1) := by decide +kernel
theorem dX9_pole_9 : decode cX9_pole 9 = .ok (.invokestatic 210, 3) := by decide +kernel
theorem dX9_pole_12 : decode cX9_pole 12 = .ok (.ifCond .eq 7, 3) := by decide +kernel
theorem dX9_pole_15 : decode cX9_pole 15 = .ok (.iconst 1, 1) := by decide +kernel
theorem dX9_pole_16 : decode cX9_pole 16 = .ok (.goto 4, 3) := by decide +kernel
theorem dX9_pole_19 : decode cX9_pole 19 = .ok (.iconst 0, 1) := by decide +kernel
theorem dX9_pole_20 : decode cX9_pole 20 = .ok (.invokevirtual 69, 3) := by decide +kernel
theorem dX9_pole_23 : decode cX9_pole 23 = .ok (.aload_n 0, 1) := by decide +kernel
theorem dX9_pole_24 : decode cX9_pole 24 = .ok (.getfield 33, 3) := by decide +kernel
theorem dX9_pole_27 : decode cX9_pole 27 = .ok (.iload_n 1, 1) := by decide +kernel
theorem dX9_pole_28 : decode cX9_pole 28 = .ok (.invokevirtual 244, 3) := by decide +kernel
theorem dX9_pole_31 : decode cX9_pole 31 = .ok (.aload_n 0, 1) := by decide +kernel
theorem dX9_pole_32 : decode cX9_pole 32 = .ok (.getfield 33, 3) := by decide +kernel
theorem dX9_pole_35 : decode cX9_pole 35 = .ok (.getfield 237, 3) := by decide +kernel
theorem dX9_pole_38 : decode cX9_pole 38 = .ok (.iconst (-1), 1) := by decide +kernel
theorem dX9_pole_39 : decode cX9_pole 39 = .ok (.if_icmp .ne 5, 3) := by decide +kernel
theorem dX9_pole_42 : decode cX9_pole 42 = .ok (.iconst (-1), 1) := by decide +kernel
theorem dX9_pole_43 : decode cX9_pole 43 = .ok (.ireturn, 1) := by decide +kernel
theorem dX9_pole_44 : decode cX9_pole 44 = .ok (.iload_n 2, 1) := by decide +kernel
theorem dX9_pole_45 : decode cX9_pole 45 = .ok (.ifCond .ne 13, 3) := by decide +kernel
theorem dX9_pole_48 : decode cX9_pole 48 = .ok (.aload_n 0, 1) := by decide +kernel
theorem dX9_pole_49 : decode cX9_pole 49 = .ok (.getfield 33, 3) := by decide +kernel
theorem dX9_pole_52 : decode cX9_pole 52 = .ok (.getfield 237, 3) := by decide +kernel
theorem dX9_pole_55 : decode cX9_pole 55 = .ok (.goto 10, 3) := by decide +kernel
theorem dX9_pole_58 : decode cX9_pole 58 = .ok (.aload_n 0, 1) := by decide +kernel
theorem dX9_pole_59 : decode cX9_pole 59 = .ok (.getfield 33, 3) := by decide +kernel
theorem dX9_pole_62 : decode cX9_pole 62 = .ok (.getfield 234, 3) := by decide +kernel
theorem dX9_pole_65 : decode cX9_pole 65 = .ok (.ireturn, 1) := by decide +kernel
def L_X9_pole_20 (C : aM → List Value → aH → aO → aH → Prop) (sc : Nat × (Nat → Int32)) (P : aO → aH → Prop) (x1 : Int) (x2 : Int) (s0 : Int) (σ : aH) : Prop :=
    wp C 9 cX9_pole 3 (some .int) false [] sc P 20 [(0, .ref 0), (1, .int (nZ x1)), (2, .int (nZ x2))] [.int (nZ s0), .ref 0] σ
set_option maxRecDepth 10000 in
theorem t_X9_pole {sc : Nat × (Nat → Int32)} {d : Nat} {Q : aO → aH → Prop} {σ : aH} {u : Nat}  {x1 : Int} {x2 : Int} (hG : G σ u) (rx1 : inR x1) (rx2 : inR x2)
    (h : (∃ (r5 : Int) (σ1 : aH), Ev sc d mX9_isHeight [.int (nZ x1)] σ (.inl (some (.int (nZ r5)))) σ1 ∧ G σ1 u ∧ inR r5 ∧ ((r5 = 0 → L_X9_pole_20 (Ev sc d) sc Q x1 x2 0 σ1) ∧ (¬ (r5 = 0) → (∃ (r10 : Int) (σ6 : aH), Ev sc d mX9_isBit [.int (nZ x2)] σ1 (.inl (some (.int (nZ r10)))) σ6 ∧ G σ6 u ∧ inR r10 ∧ ((r10 = 0 → L_X9_pole_20 (Ev sc d) sc Q x1 x2 0 σ6) ∧ (¬ (r10 = 0) → L_X9_pole_20 (Ev sc d) sc Q x1 x2 1 σ6))))))) :
    T sc (d + 1) mX9_pole [.ref 0, .int (nZ x1), .int (nZ x2)] σ Q := by
  refine T.of (c := 9) (code := cX9_pole) (mL := 3) (rt := (some .int)) (ini := false) (l := [(0, .ref 0), (1, .int (nZ x1)), (2, .int (nZ x2))]) rfl rfl rfl rfl (by decide) hs_X9_pole rfl rfl ?_
  refine w_aload_n dX9_pole_0 rfl (List.Mem.head _) ?_
  refine w_iload_n dX9_pole_1 rfl (List.Mem.tail _ (List.Mem.head _)) ?_
  obtain ⟨r5, σ1, hc3, hG2, rr4, h⟩ := h
  refine w_callS dX9_pole_2 ml_9_220 ⟨ok_X9_isHeight, st_X9_isHeight⟩ hs_X9_isHeight (As := [.int (nZ x1)]) rfl rfl (Nat.le_of_ble_eq_true rfl) hc3 ?_
  show wp (Ev sc d) 9 cX9_pole 3 (some .int) false [] sc Q 5 [(0, .ref 0), (1, .int (nZ x1)), (2, .int (nZ x2))] [.int (nZ r5), .ref 0] σ1
  refine i_if_eq (tgt := 19) dX9_pole_5 rfl rr4 (fun c9 => ?_) (fun c9 => ?_)
  · replace h := h.1 c9
    refine w_iconst (v := nZ 0) dX9_pole_19 (by decide) ?_
    exact h
  · replace h := h.2 c9
    refine w_iload_n dX9_pole_8 rfl (List.Mem.tail _ (List.Mem.tail _ (List.Mem.head _))) ?_
    obtain ⟨r10, σ6, hc8, hG7, rr9, h⟩ := h
    refine w_callS dX9_pole_9 ml_9_210 ⟨ok_X9_isBit, st_X9_isBit⟩ hs_X9_isBit (As := [.int (nZ x2)]) rfl rfl (Nat.le_of_ble_eq_true rfl) hc8 ?_
    show wp (Ev sc d) 9 cX9_pole 3 (some .int) false [] sc Q 12 [(0, .ref 0), (1, .int (nZ x1)), (2, .int (nZ x2))] [.int (nZ r10), .ref 0] σ6
    refine i_if_eq (tgt := 19) dX9_pole_12 rfl rr9 (fun c9 => ?_) (fun c9 => ?_)
    · replace h := h.1 c9
      refine w_iconst (v := nZ 0) dX9_pole_19 (by decide) ?_
      exact h
    · replace h := h.2 c9
      refine w_iconst (v := nZ 1) dX9_pole_15 (by decide) ?_
      refine w_goto (tgt := 20) dX9_pole_16 rfl ?_
      exact h
set_option maxRecDepth 10000 in
theorem v_X9_pole_20 {C : aM → List Value → aH → aO → aH → Prop} {sc : Nat × (Nat → Int32)} {P : aO → aH → Prop} {σ : aH} {u : Nat}  {x1 : Int} {x2 : Int} {s0 : Int} (hG : G σ u) (rx1 : inR x1) (rx2 : inR x2) (rs0 : inR s0)
    (h : ((∃ (e9 : Nat) (σ1 : aH), C mX9_require [.ref 0, .int (nZ s0)] σ (.inr e9) σ1 ∧ P (.inr e9) σ1) ∨ (∃ σ1 : aH, C mX9_require [.ref 0, .int (nZ s0)] σ (.inl none) σ1 ∧ G σ1 u ∧ (∃ σ5 : aH, C mX4_placePole [.ref 26, .int (nZ x1)] σ1 (.inl none) σ5 ∧ G σ5 u ∧ ((¬ (rI σ5 26 7) = (-1) → ((¬ x2 = 0 → P (.inl (some (.int (nZ (rI σ5 26 6))))) σ5) ∧ (x2 = 0 → P (.inl (some (.int (nZ (rI σ5 26 7))))) σ5))) ∧ ((rI σ5 26 7) = (-1) → P (.inl (some (.int (nZ (-1))))) σ5)))))) :
    L_X9_pole_20 C sc P x1 x2 s0 σ := by
  unfold L_X9_pole_20
  rcases h with h | h
  · obtain ⟨e9, σ1, hc3, h⟩ := h
    exact w_throwV dX9_pole_20 mp_9_69 ⟨ok_X9_require, vi_X9_require⟩ hs_X9_require (As := [.int (nZ s0)]) rfl rfl (gT hG rfl (lt_of rfl)) (Nat.le_of_ble_eq_true rfl) hc3 rfl h
  · obtain ⟨σ1, hc3, hG2, h⟩ := h
    refine w_callV dX9_pole_20 ml_9_69 ⟨ok_X9_require, vi_X9_require⟩ hs_X9_require (As := [.int (nZ s0)]) rfl rfl (gT hG rfl (lt_of rfl)) (Nat.le_of_ble_eq_true rfl) hc3 ?_
    show wp C 9 cX9_pole 3 (some .int) false [] sc P 23 [(0, .ref 0), (1, .int (nZ x1)), (2, .int (nZ x2))] [] σ1
    refine w_aload_n dX9_pole_23 rfl (List.Mem.head _) ?_
    refine w_getR (ci := 9) (k := 3) (b := 26) dX9_pole_24 fl_9_33 (by decide) (gT hG2 rfl (lt_of rfl)) (gR hG2 (b := 26) rfl) ?_
    refine w_iload_n dX9_pole_27 rfl (List.Mem.tail _ (List.Mem.head _)) ?_
    obtain ⟨σ5, hc7, hG6, h⟩ := h
    refine w_callV dX9_pole_28 ml_9_244 ⟨ok_X4_placePole, vi_X4_placePole⟩ hs_X4_placePole (As := [.int (nZ x1)]) rfl rfl (gT hG2 rfl (lt_of rfl)) (Nat.le_of_ble_eq_true rfl) hc7 ?_
    show wp C 9 cX9_pole 3 (some .int) false [] sc P 31 [(0, .ref 0), (1, .int (nZ x1)), (2, .int (nZ x2))] [] σ5
    refine w_aload_n dX9_pole_31 rfl (List.Mem.head _) ?_
    refine w_getR (ci := 9) (k := 3) (b := 26) dX9_pole_32 fl_9_33 (by decide) (gT hG6 rfl (lt_of rfl)) (gR hG6 (b := 26) rfl) ?_
    refine i_getI (ci := 4) 7 rfl dX9_pole_35 fl_9_237 (by decide) (gT hG6 rfl (lt_of rfl)) ?_
    refine w_iconst (v := nZ (-1)) dX9_pole_38 (by decide) ?_
    refine i_cmp_ne (tgt := 44) dX9_pole_39 rfl (rI_R _ _ _) (by decide) (fun c9 => ?_) (fun c9 => ?_)
    · replace h := h.1 c9
      refine w_iload_n dX9_pole_44 rfl (List.Mem.tail _ (List.Mem.tail _ (List.Mem.head _))) ?_
      refine i_if_ne (tgt := 58) dX9_pole_45 rfl rx2 (fun c9 => ?_) (fun c9 => ?_)
      · replace h := h.1 c9
        refine w_aload_n dX9_pole_58 rfl (List.Mem.head _) ?_
        refine w_getR (ci := 9) (k := 3) (b := 26) dX9_pole_59 fl_9_33 (by decide) (gT hG6 rfl (lt_of rfl)) (gR hG6 (b := 26) rfl) ?_
        refine i_getI (ci := 4) 6 rfl dX9_pole_62 fl_9_234 (by decide) (gT hG6 rfl (lt_of rfl)) ?_
        exact w_iret dX9_pole_65 rfl h
      · replace h := h.2 c9
        refine w_aload_n dX9_pole_48 rfl (List.Mem.head _) ?_
        refine w_getR (ci := 9) (k := 3) (b := 26) dX9_pole_49 fl_9_33 (by decide) (gT hG6 rfl (lt_of rfl)) (gR hG6 (b := 26) rfl) ?_
        refine i_getI (ci := 4) 7 rfl dX9_pole_52 fl_9_237 (by decide) (gT hG6 rfl (lt_of rfl)) ?_
        refine w_goto (tgt := 65) dX9_pole_55 rfl ?_
        exact w_iret dX9_pole_65 rfl h
    · replace h := h.2 c9
      refine w_iconst (v := nZ (-1)) dX9_pole_42 (by decide) ?_
      exact w_iret dX9_pole_43 rfl h
theorem dX9_wish_0 : decode cX9_wish 0 = .ok (.aload_n 0, 1) := by decide +kernel
theorem dX9_wish_1 : decode cX9_wish 1 = .ok (.iload_n 1, 1) := by decide +kernel
theorem dX9_wish_2 : decode cX9_wish 2 = .ok (.invokevirtual 118, 3) := by decide +kernel
theorem dX9_wish_5 : decode cX9_wish 5 = .ok (.aload_n 0, 1) := by decide +kernel
theorem dX9_wish_6 : decode cX9_wish 6 = .ok (.getfield 33, 3) := by decide +kernel
theorem dX9_wish_9 : decode cX9_wish 9 = .ok (.iload_n 1, 1) := by decide +kernel
theorem dX9_wish_10 : decode cX9_wish 10 = .ok (.invokevirtual 247, 3) := by decide +kernel
theorem dX9_wish_13 : decode cX9_wish 13 = .ok (.ireturn, 1) := by decide +kernel
set_option maxRecDepth 10000 in
theorem t_X9_wish {sc : Nat × (Nat → Int32)} {d : Nat} {Q : aO → aH → Prop} {σ : aH} {u : Nat}  {x1 : Int} (hG : G σ u) (rx1 : inR x1)
    (h : ((∃ (e9 : Nat) (σ1 : aH), Ev sc d mX9_requireStall [.ref 0, .int (nZ x1)] σ (.inr e9) σ1 ∧ Q (.inr e9) σ1) ∨ (∃ σ1 : aH, Ev sc d mX9_requireStall [.ref 0, .int (nZ x1)] σ (.inl none) σ1 ∧ G σ1 u ∧ (∃ (r9 : Int) (σ5 : aH), Ev sc d mX4_wishOf [.ref 26, .int (nZ x1)] σ1 (.inl (some (.int (nZ r9)))) σ5 ∧ G σ5 u ∧ inR r9 ∧ Q (.inl (some (.int (nZ r9)))) σ5)))) :
    T sc (d + 1) mX9_wish [.ref 0, .int (nZ x1)] σ Q := by
  refine T.of (c := 9) (code := cX9_wish) (mL := 2) (rt := (some .int)) (ini := false) (l := [(0, .ref 0), (1, .int (nZ x1))]) rfl rfl rfl rfl (by decide) hs_X9_wish rfl rfl ?_
  refine w_aload_n dX9_wish_0 rfl (List.Mem.head _) ?_
  refine w_iload_n dX9_wish_1 rfl (List.Mem.tail _ (List.Mem.head _)) ?_
  rcases h with h | h
  · obtain ⟨e9, σ1, hc3, h⟩ := h
    exact w_throwV dX9_wish_2 mp_9_118 ⟨ok_X9_requireStall, vi_X9_requireStall⟩ hs_X9_requireStall (As := [.int (nZ x1)]) rfl rfl (gT hG rfl (lt_of rfl)) (Nat.le_of_ble_eq_true rfl) hc3 rfl h
  · obtain ⟨σ1, hc3, hG2, h⟩ := h
    refine w_callV dX9_wish_2 ml_9_118 ⟨ok_X9_requireStall, vi_X9_requireStall⟩ hs_X9_requireStall (As := [.int (nZ x1)]) rfl rfl (gT hG rfl (lt_of rfl)) (Nat.le_of_ble_eq_true rfl) hc3 ?_
    show wp (Ev sc d) 9 cX9_wish 2 (some .int) false [] sc Q 5 [(0, .ref 0), (1, .int (nZ x1))] [] σ1
    refine w_aload_n dX9_wish_5 rfl (List.Mem.head _) ?_
    refine w_getR (ci := 9) (k := 3) (b := 26) dX9_wish_6 fl_9_33 (by decide) (gT hG2 rfl (lt_of rfl)) (gR hG2 (b := 26) rfl) ?_
    refine w_iload_n dX9_wish_9 rfl (List.Mem.tail _ (List.Mem.head _)) ?_
    obtain ⟨r9, σ5, hc7, hG6, rr8, h⟩ := h
    refine w_callV dX9_wish_10 ml_9_247 ⟨ok_X4_wishOf, vi_X4_wishOf⟩ hs_X4_wishOf (As := [.int (nZ x1)]) rfl rfl (gT hG2 rfl (lt_of rfl)) (Nat.le_of_ble_eq_true rfl) hc7 ?_
    show wp (Ev sc d) 9 cX9_wish 2 (some .int) false [] sc Q 13 [(0, .ref 0), (1, .int (nZ x1))] [.int (nZ r9)] σ5
    exact w_iret dX9_wish_13 rfl h
theorem dX9_play_0 : decode cX9_play 0 = .ok (.aload_n 0, 1) := by decide +kernel
theorem dX9_play_1 : decode cX9_play 1 = .ok (.getfield 33, 3) := by decide +kernel
theorem dX9_play_4 : decode cX9_play 4 = .ok (.invokevirtual 250, 3) := by decide +kernel
theorem dX9_play_7 : decode cX9_play 7 = .ok (.ifCond .eq 7, 3) := by decide +kernel
theorem dX9_play_10 : decode cX9_play 10 = .ok (.iconst 1, 1) := by decide +kernel
theorem dX9_play_11 : decode cX9_play 11 = .ok (.goto 4, 3) := by decide +kernel
theorem dX9_play_14 : decode cX9_play 14 = .ok (.iconst 0, 1) := by decide +kernel
theorem dX9_play_15 : decode cX9_play 15 = .ok (.ireturn, 1) := by decide +kernel
set_option maxRecDepth 10000 in
theorem t_X9_play {sc : Nat × (Nat → Int32)} {d : Nat} {Q : aO → aH → Prop} {σ : aH} {u : Nat}   (hG : G σ u) 
    (h : (∃ (r5 : Int) (σ1 : aH), Ev sc d mX4_playOut [.ref 26] σ (.inl (some (.int (nZ r5)))) σ1 ∧ G σ1 u ∧ inR r5 ∧ ((r5 = 0 → Q (.inl (some (.int (nZ 0)))) σ1) ∧ (¬ (r5 = 0) → Q (.inl (some (.int (nZ 1)))) σ1)))) :
    T sc (d + 1) mX9_play [.ref 0] σ Q := by
  refine T.of (c := 9) (code := cX9_play) (mL := 1) (rt := (some .int)) (ini := false) (l := [(0, .ref 0)]) rfl rfl rfl rfl (by decide) hs_X9_play rfl rfl ?_
  refine w_aload_n dX9_play_0 rfl (List.Mem.head _) ?_
  refine w_getR (ci := 9) (k := 3) (b := 26) dX9_play_1 fl_9_33 (by decide) (gT hG rfl (lt_of rfl)) (gR hG (b := 26) rfl) ?_
  obtain ⟨r5, σ1, hc3, hG2, rr4, h⟩ := h
  refine w_callV dX9_play_4 ml_9_250 ⟨ok_X4_playOut, vi_X4_playOut⟩ hs_X4_playOut (As := []) rfl rfl (gT hG rfl (lt_of rfl)) (Nat.le_of_ble_eq_true rfl) hc3 ?_
  show wp (Ev sc d) 9 cX9_play 1 (some .int) false [] sc Q 7 [(0, .ref 0)] [.int (nZ r5)] σ1
  refine i_if_eq (tgt := 14) dX9_play_7 rfl rr4 (fun c9 => ?_) (fun c9 => ?_)
  · replace h := h.1 c9
    refine w_iconst (v := nZ 0) dX9_play_14 (by decide) ?_
    exact w_iret dX9_play_15 rfl h
  · replace h := h.2 c9
    refine w_iconst (v := nZ 1) dX9_play_10 (by decide) ?_
    refine w_goto (tgt := 15) dX9_play_11 rfl ?_
    exact w_iret dX9_play_15 rfl h
theorem dX9_rounds_0 : decode cX9_rounds 0 = .ok (.aload_n 0, 1) := by decide +kernel
theorem dX9_rounds_1 : decode cX9_rounds 1 = .ok (.getfield 33, 3) := by decide +kernel
theorem dX9_rounds_4 : decode cX9_rounds 4 = .ok (.getfield 84, 3) := by decide +kernel
theorem dX9_rounds_7 : decode cX9_rounds 7 = .ok (.ireturn, 1) := by decide +kernel
set_option maxRecDepth 10000 in
theorem t_X9_rounds {sc : Nat × (Nat → Int32)} {d : Nat} {Q : aO → aH → Prop} {σ : aH} {u : Nat}   (hG : G σ u) 
    (h : Q (.inl (some (.int (nZ (rI σ 26 12))))) σ) :
    T sc (d + 1) mX9_rounds [.ref 0] σ Q := by
  refine T.of (c := 9) (code := cX9_rounds) (mL := 1) (rt := (some .int)) (ini := false) (l := [(0, .ref 0)]) rfl rfl rfl rfl (by decide) hs_X9_rounds rfl rfl ?_
  refine w_aload_n dX9_rounds_0 rfl (List.Mem.head _) ?_
  refine w_getR (ci := 9) (k := 3) (b := 26) dX9_rounds_1 fl_9_33 (by decide) (gT hG rfl (lt_of rfl)) (gR hG (b := 26) rfl) ?_
  refine i_getI (ci := 4) 12 rfl dX9_rounds_4 fl_9_84 (by decide) (gT hG rfl (lt_of rfl)) ?_
  exact w_iret dX9_rounds_7 rfl h
theorem dX9_cold_0 : decode cX9_cold 0 = .ok (.aload_n 0, 1) := by decide +kernel
theorem dX9_cold_1 : decode cX9_cold 1 = .ok (.iload_n 1, 1) := by decide +kernel
theorem dX9_cold_2 : decode cX9_cold 2 = .ok (.invokevirtual 118, 3) := by decide +kernel
theorem dX9_cold_5 : decode cX9_cold 5 = .ok (.aload_n 0, 1) := by decide +kernel
theorem dX9_cold_6 : decode cX9_cold 6 = .ok (.iload_n 2, 1) := by decide +kernel
theorem dX9_cold_7 : decode cX9_cold 7 = .ok (.iconst (-1), 1) := by decide +kernel
theorem dX9_cold_8 : decode cX9_cold 8 = .ok (.if_icmp .eq 10, 3) := by decide +kernel
theorem dX9_cold_11 : decode cX9_cold 11 = .ok (.iload_n 2, 1) := by decide +kernel
theorem dX9_cold_12 : decode cX9_cold 12 = .ok (.invokestatic 181, 3) := by decide +kernel
theorem dX9_cold_15 : decode cX9_cold 15 = .ok (.ifCond .eq 7, 3) := by decide +kernel
theorem dX9_cold_18 : decode cX9_cold 18 = .ok (.iconst 1, 1) := by decide +kernel
theorem dX9_cold_19 : decode cX9_cold 19 = .ok (.goto 4, 3) := by decide +kernel
theorem dX9_cold_22 : decode cX9_cold 22 = .ok (.iconst 0, 1) := by decide +kernel
theorem dX9_cold_23 : decode cX9_cold 23 = .ok (.invokevirtual 69, 3) := by decide +kernel
theorem dX9_cold_26 : decode cX9_cold 26 = .ok (.aload_n 0, 1) := by decide +kernel
theorem dX9_cold_27 : decode cX9_cold 27 = .ok (.getfield 48, 3) := by decide +kernel
theorem dX9_cold_30 : decode cX9_cold 30 = .ok (.getfield 87, 3) := by decide +kernel
theorem dX9_cold_33 : decode cX9_cold 33 = .ok (.getfield 254, 3) := by decide +kernel
theorem dX9_cold_36 : decode cX9_cold 36 = .ok (.iload_n 1, 1) := by decide +kernel
theorem dX9_cold_37 : decode cX9_cold 37 = .ok (.iaload, 1) := by decide +kernel
theorem dX9_cold_38 : decode cX9_cold 38 = .ok (.istore_n 3, 1) := by decide +kernel
theorem dX9_cold_39 : decode cX9_cold 39 = .ok (.aload_n 0, 1) := by decide +kernel
theorem dX9_cold_40 : decode cX9_cold 40 = .ok (.getfield 48, 3) := by decide +kernel
theorem dX9_cold_43 : decode cX9_cold 43 = .ok (.getfield 87, 3) := by decide +kernel
theorem dX9_cold_46 : decode cX9_cold 46 = .ok (.getfield 254, 3) := by decide +kernel
theorem dX9_cold_49 : decode cX9_cold 49 = .ok (.iload_n 1, 1) := by decide +kernel
theorem dX9_cold_50 : decode cX9_cold 50 = .ok (.iload_n 2, 1) := by decide +kernel
theorem dX9_cold_51 : decode cX9_cold 51 = .ok (.iastore, 1) := by decide +kernel
theorem dX9_cold_52 : decode cX9_cold 52 = .ok (.iload_n 3, 1) := by decide +kernel
theorem dX9_cold_53 : decode cX9_cold 53 = .ok (.ireturn, 1) := by decide +kernel
def L_X9_cold_23 (C : aM → List Value → aH → aO → aH → Prop) (sc : Nat × (Nat → Int32)) (P : aO → aH → Prop) (x1 : Int) (x2 : Int) (s0 : Int) (σ : aH) : Prop :=
    wp C 9 cX9_cold 4 (some .int) false [] sc P 23 [(0, .ref 0), (1, .int (nZ x1)), (2, .int (nZ x2))] [.int (nZ s0), .ref 0] σ
set_option maxRecDepth 10000 in
theorem t_X9_cold {sc : Nat × (Nat → Int32)} {d : Nat} {Q : aO → aH → Prop} {σ : aH} {u : Nat}  {x1 : Int} {x2 : Int} (hG : G σ u) (rx1 : inR x1) (rx2 : inR x2)
    (h : ((∃ (e9 : Nat) (σ1 : aH), Ev sc d mX9_requireStall [.ref 0, .int (nZ x1)] σ (.inr e9) σ1 ∧ Q (.inr e9) σ1) ∨ (∃ σ1 : aH, Ev sc d mX9_requireStall [.ref 0, .int (nZ x1)] σ (.inl none) σ1 ∧ G σ1 u ∧ ((x2 = (-1) → L_X9_cold_23 (Ev sc d) sc Q x1 x2 1 σ1) ∧ (¬ (x2 = (-1)) → (∃ (r9 : Int) (σ5 : aH), Ev sc d mX9_isEnd [.int (nZ x2)] σ1 (.inl (some (.int (nZ r9)))) σ5 ∧ G σ5 u ∧ inR r9 ∧ ((r9 = 0 → L_X9_cold_23 (Ev sc d) sc Q x1 x2 0 σ5) ∧ (¬ (r9 = 0) → L_X9_cold_23 (Ev sc d) sc Q x1 x2 1 σ5)))))))) :
    T sc (d + 1) mX9_cold [.ref 0, .int (nZ x1), .int (nZ x2)] σ Q := by
  refine T.of (c := 9) (code := cX9_cold) (mL := 4) (rt := (some .int)) (ini := false) (l := [(0, .ref 0), (1, .int (nZ x1)), (2, .int (nZ x2))]) rfl rfl rfl rfl (by decide) hs_X9_cold rfl rfl ?_
  refine w_aload_n dX9_cold_0 rfl (List.Mem.head _) ?_
  refine w_iload_n dX9_cold_1 rfl (List.Mem.tail _ (List.Mem.head _)) ?_
  rcases h with h | h
  · obtain ⟨e9, σ1, hc3, h⟩ := h
    exact w_throwV dX9_cold_2 mp_9_118 ⟨ok_X9_requireStall, vi_X9_requireStall⟩ hs_X9_requireStall (As := [.int (nZ x1)]) rfl rfl (gT hG rfl (lt_of rfl)) (Nat.le_of_ble_eq_true rfl) hc3 rfl h
  · obtain ⟨σ1, hc3, hG2, h⟩ := h
    refine w_callV dX9_cold_2 ml_9_118 ⟨ok_X9_requireStall, vi_X9_requireStall⟩ hs_X9_requireStall (As := [.int (nZ x1)]) rfl rfl (gT hG rfl (lt_of rfl)) (Nat.le_of_ble_eq_true rfl) hc3 ?_
    show wp (Ev sc d) 9 cX9_cold 4 (some .int) false [] sc Q 5 [(0, .ref 0), (1, .int (nZ x1)), (2, .int (nZ x2))] [] σ1
    refine w_aload_n dX9_cold_5 rfl (List.Mem.head _) ?_
    refine w_iload_n dX9_cold_6 rfl (List.Mem.tail _ (List.Mem.tail _ (List.Mem.head _))) ?_
    refine w_iconst (v := nZ (-1)) dX9_cold_7 (by decide) ?_
    refine i_cmp_eq (tgt := 18) dX9_cold_8 rfl rx2 (by decide) (fun c9 => ?_) (fun c9 => ?_)
    · replace h := h.1 c9
      refine w_iconst (v := nZ 1) dX9_cold_18 (by decide) ?_
      refine w_goto (tgt := 23) dX9_cold_19 rfl ?_
      exact h
    · replace h := h.2 c9
      refine w_iload_n dX9_cold_11 rfl (List.Mem.tail _ (List.Mem.tail _ (List.Mem.head _))) ?_
      obtain ⟨r9, σ5, hc7, hG6, rr8, h⟩ := h
      refine w_callS dX9_cold_12 ml_9_181 ⟨ok_X9_isEnd, st_X9_isEnd⟩ hs_X9_isEnd (As := [.int (nZ x2)]) rfl rfl (Nat.le_of_ble_eq_true rfl) hc7 ?_
      show wp (Ev sc d) 9 cX9_cold 4 (some .int) false [] sc Q 15 [(0, .ref 0), (1, .int (nZ x1)), (2, .int (nZ x2))] [.int (nZ r9), .ref 0] σ5
      refine i_if_eq (tgt := 22) dX9_cold_15 rfl rr8 (fun c9 => ?_) (fun c9 => ?_)
      · replace h := h.1 c9
        refine w_iconst (v := nZ 0) dX9_cold_22 (by decide) ?_
        exact h
      · replace h := h.2 c9
        refine w_iconst (v := nZ 1) dX9_cold_18 (by decide) ?_
        refine w_goto (tgt := 23) dX9_cold_19 rfl ?_
        exact h
set_option maxRecDepth 10000 in
theorem v_X9_cold_23 {C : aM → List Value → aH → aO → aH → Prop} {sc : Nat × (Nat → Int32)} {P : aO → aH → Prop} {σ : aH} {u : Nat}  {x1 : Int} {x2 : Int} {s0 : Int} (hG : G σ u) (rx1 : inR x1) (rx2 : inR x2) (rs0 : inR s0)
    (h : ((∃ (e9 : Nat) (σ1 : aH), C mX9_require [.ref 0, .int (nZ s0)] σ (.inr e9) σ1 ∧ P (.inr e9) σ1) ∨ (∃ σ1 : aH, C mX9_require [.ref 0, .int (nZ s0)] σ (.inl none) σ1 ∧ G σ1 u ∧ ((0 ≤ x1 ∧ x1 < 9) ∧ (∀ z5 : Int, z5 = (rI σ1 (u + 9) x1) → ((0 ≤ x1 ∧ x1 < 9) ∧ (∀ σ8 : aH, wI σ1 (u + 9) x1 x2 = σ8 → P (.inl (some (.int (nZ z5)))) σ8))))))) :
    L_X9_cold_23 C sc P x1 x2 s0 σ := by
  unfold L_X9_cold_23
  rcases h with h | h
  · obtain ⟨e9, σ1, hc3, h⟩ := h
    exact w_throwV dX9_cold_23 mp_9_69 ⟨ok_X9_require, vi_X9_require⟩ hs_X9_require (As := [.int (nZ s0)]) rfl rfl (gT hG rfl (lt_of rfl)) (Nat.le_of_ble_eq_true rfl) hc3 rfl h
  · obtain ⟨σ1, hc3, hG2, h⟩ := h
    refine w_callV dX9_cold_23 ml_9_69 ⟨ok_X9_require, vi_X9_require⟩ hs_X9_require (As := [.int (nZ s0)]) rfl rfl (gT hG rfl (lt_of rfl)) (Nat.le_of_ble_eq_true rfl) hc3 ?_
    show wp C 9 cX9_cold 4 (some .int) false [] sc P 26 [(0, .ref 0), (1, .int (nZ x1)), (2, .int (nZ x2))] [] σ1
    refine w_aload_n dX9_cold_26 rfl (List.Mem.head _) ?_
    refine w_getM (ci := 9) (k := 5) (b := u) dX9_cold_27 fl_9_48 (by decide) (gT hG2 rfl (lt_of rfl)) hG2.2.2.1 ?_
    refine w_getR (ci := 2) (k := 0) (b := (u + 1)) dX9_cold_30 fl_9_87 (by decide) (gT hG2 (IsMk_t0 hG.2.2.2.2) (IsMk_lt hG.2.2.2.2 (k := 0) (by decide))) (gR hG2 (IsMk_r0_0 hG.2.2.2.2)) ?_
    refine w_getR (ci := 7) (k := 7) (b := (u + 9)) dX9_cold_33 fl_9_254 (by decide) (gT hG2 (IsMk_t1 hG.2.2.2.2) (IsMk_lt hG.2.2.2.2 (k := 1) (by decide))) (gR hG2 (IsMk_r1_7 hG.2.2.2.2)) ?_
    refine w_iload_n dX9_cold_36 rfl (List.Mem.tail _ (List.Mem.head _)) ?_
    obtain ⟨h9, h⟩ := h
    refine i_iald (n := 9) dX9_cold_37 (gT hG2 (IsMk_t9 hG.2.2.2.2) (IsMk_lt hG.2.2.2.2 (k := 9) (by decide))) (gL hG2 (IsMk_n9 hG.2.2.2.2)) rx1 h9 ?_
    refine top_i (fun z5 ez6 => ?_)
    have rz7 : inR z5 := ez6 ▸ (rI_R _ _ _)
    replace h := h z5 ez6
    refine w_istore_n (l' := [(3, .int (nZ z5)), (0, .ref 0), (1, .int (nZ x1)), (2, .int (nZ x2))]) dX9_cold_38 rfl (by decide) rfl ?_
    refine w_aload_n dX9_cold_39 rfl (List.Mem.tail _ (List.Mem.head _)) ?_
    refine w_getM (ci := 9) (k := 5) (b := u) dX9_cold_40 fl_9_48 (by decide) (gT hG2 rfl (lt_of rfl)) hG2.2.2.1 ?_
    refine w_getR (ci := 2) (k := 0) (b := (u + 1)) dX9_cold_43 fl_9_87 (by decide) (gT hG2 (IsMk_t0 hG.2.2.2.2) (IsMk_lt hG.2.2.2.2 (k := 0) (by decide))) (gR hG2 (IsMk_r0_0 hG.2.2.2.2)) ?_
    refine w_getR (ci := 7) (k := 7) (b := (u + 9)) dX9_cold_46 fl_9_254 (by decide) (gT hG2 (IsMk_t1 hG.2.2.2.2) (IsMk_lt hG.2.2.2.2 (k := 1) (by decide))) (gR hG2 (IsMk_r1_7 hG.2.2.2.2)) ?_
    refine w_iload_n dX9_cold_49 rfl (List.Mem.tail _ (List.Mem.tail _ (List.Mem.head _))) ?_
    refine w_iload_n dX9_cold_50 rfl (List.Mem.tail _ (List.Mem.tail _ (List.Mem.tail _ (List.Mem.head _)))) ?_
    obtain ⟨h9, h⟩ := h
    refine i_iast (n := 9) dX9_cold_51 (gT hG2 (IsMk_t9 hG.2.2.2.2) (IsMk_lt hG.2.2.2.2 (k := 9) (by decide))) (gL hG2 (IsMk_n9 hG.2.2.2.2)) rx1 h9 (fun σ8 eσ9 => ?_)
    replace h := h σ8 eσ9
    have hG10 : G σ8 u := eσ9 ▸ G.wI hG2
    refine w_iload_n dX9_cold_52 rfl (List.Mem.head _) ?_
    exact w_iret dX9_cold_53 rfl h
theorem dX9_what_0 : decode cX9_what 0 = .ok (.aload_n 0, 1) := by decide +kernel
theorem dX9_what_1 : decode cX9_what 1 = .ok (.iload_n 1, 1) := by decide +kernel
theorem dX9_what_2 : decode cX9_what 2 = .ok (.invokestatic 210, 3) := by decide +kernel
theorem dX9_what_5 : decode cX9_what 5 = .ok (.invokevirtual 69, 3) := by decide +kernel
theorem dX9_what_8 : decode cX9_what 8 = .ok (.aload_n 0, 1) := by decide +kernel
theorem dX9_what_9 : decode cX9_what 9 = .ok (.getfield 33, 3) := by decide +kernel
theorem dX9_what_12 : decode cX9_what 12 = .ok (.invokevirtual 257, 3) := by decide +kernel
theorem dX9_what_15 : decode cX9_what 15 = .ok (.iload_n 1, 1) := by decide +kernel
theorem dX9_what_16 : decode cX9_what 16 = .ok (.ifCond .ne 13, 3) := by decide +kernel
theorem dX9_what_19 : decode cX9_what 19 = .ok (.aload_n 0, 1) := by decide +kernel
theorem dX9_what_20 : decode cX9_what 20 = .ok (.getfield 33, 3) := by decide +kernel
theorem dX9_what_23 : decode cX9_what 23 = .ok (.getfield 260, 3) := by decide +kernel
theorem dX9_what_26 : decode cX9_what 26 = .ok (.goto 10, 3) := by decide +kernel
theorem dX9_what_29 : decode cX9_what 29 = .ok (.aload_n 0, 1) := by decide +kernel
theorem dX9_what_30 : decode cX9_what 30 = .ok (.getfield 33, 3) := by decide +kernel
theorem dX9_what_33 : decode cX9_what 33 = .ok (.getfield 263, 3) := by decide +kernel
theorem dX9_what_36 : decode cX9_what 36 = .ok (.ireturn, 1) := by decide +kernel
set_option maxRecDepth 10000 in
theorem t_X9_what {sc : Nat × (Nat → Int32)} {d : Nat} {Q : aO → aH → Prop} {σ : aH} {u : Nat}  {x1 : Int} (hG : G σ u) (rx1 : inR x1)
    (h : (∃ (r5 : Int) (σ1 : aH), Ev sc d mX9_isBit [.int (nZ x1)] σ (.inl (some (.int (nZ r5)))) σ1 ∧ G σ1 u ∧ inR r5 ∧ ((∃ (e9 : Nat) (σ6 : aH), Ev sc d mX9_require [.ref 0, .int (nZ r5)] σ1 (.inr e9) σ6 ∧ Q (.inr e9) σ6) ∨ (∃ σ6 : aH, Ev sc d mX9_require [.ref 0, .int (nZ r5)] σ1 (.inl none) σ6 ∧ G σ6 u ∧ (∃ σ10 : aH, Ev sc d mX4_explain [.ref 26] σ6 (.inl none) σ10 ∧ G σ10 u ∧ ((¬ x1 = 0 → Q (.inl (some (.int (nZ (rI σ10 26 11))))) σ10) ∧ (x1 = 0 → Q (.inl (some (.int (nZ (rI σ10 26 10))))) σ10))))))) :
    T sc (d + 1) mX9_what [.ref 0, .int (nZ x1)] σ Q := by
  refine T.of (c := 9) (code := cX9_what) (mL := 2) (rt := (some .int)) (ini := false) (l := [(0, .ref 0), (1, .int (nZ x1))]) rfl rfl rfl rfl (by decide) hs_X9_what rfl rfl ?_
  refine w_aload_n dX9_what_0 rfl (List.Mem.head _) ?_
  refine w_iload_n dX9_what_1 rfl (List.Mem.tail _ (List.Mem.head _)) ?_
  obtain ⟨r5, σ1, hc3, hG2, rr4, h⟩ := h
  refine w_callS dX9_what_2 ml_9_210 ⟨ok_X9_isBit, st_X9_isBit⟩ hs_X9_isBit (As := [.int (nZ x1)]) rfl rfl (Nat.le_of_ble_eq_true rfl) hc3 ?_
  show wp (Ev sc d) 9 cX9_what 2 (some .int) false [] sc Q 5 [(0, .ref 0), (1, .int (nZ x1))] [.int (nZ r5), .ref 0] σ1
  rcases h with h | h
  · obtain ⟨e9, σ6, hc8, h⟩ := h
    exact w_throwV dX9_what_5 mp_9_69 ⟨ok_X9_require, vi_X9_require⟩ hs_X9_require (As := [.int (nZ r5)]) rfl rfl (gT hG2 rfl (lt_of rfl)) (Nat.le_of_ble_eq_true rfl) hc8 rfl h
  · obtain ⟨σ6, hc8, hG7, h⟩ := h
    refine w_callV dX9_what_5 ml_9_69 ⟨ok_X9_require, vi_X9_require⟩ hs_X9_require (As := [.int (nZ r5)]) rfl rfl (gT hG2 rfl (lt_of rfl)) (Nat.le_of_ble_eq_true rfl) hc8 ?_
    show wp (Ev sc d) 9 cX9_what 2 (some .int) false [] sc Q 8 [(0, .ref 0), (1, .int (nZ x1))] [] σ6
    refine w_aload_n dX9_what_8 rfl (List.Mem.head _) ?_
    refine w_getR (ci := 9) (k := 3) (b := 26) dX9_what_9 fl_9_33 (by decide) (gT hG7 rfl (lt_of rfl)) (gR hG7 (b := 26) rfl) ?_
    obtain ⟨σ10, hc12, hG11, h⟩ := h
    refine w_callV dX9_what_12 ml_9_257 ⟨ok_X4_explain, vi_X4_explain⟩ hs_X4_explain (As := []) rfl rfl (gT hG7 rfl (lt_of rfl)) (Nat.le_of_ble_eq_true rfl) hc12 ?_
    show wp (Ev sc d) 9 cX9_what 2 (some .int) false [] sc Q 15 [(0, .ref 0), (1, .int (nZ x1))] [] σ10
    refine w_iload_n dX9_what_15 rfl (List.Mem.tail _ (List.Mem.head _)) ?_
    refine i_if_ne (tgt := 29) dX9_what_16 rfl rx1 (fun c9 => ?_) (fun c9 => ?_)
    · replace h := h.1 c9
      refine w_aload_n dX9_what_29 rfl (List.Mem.head _) ?_
      refine w_getR (ci := 9) (k := 3) (b := 26) dX9_what_30 fl_9_33 (by decide) (gT hG11 rfl (lt_of rfl)) (gR hG11 (b := 26) rfl) ?_
      refine i_getI (ci := 4) 11 rfl dX9_what_33 fl_9_263 (by decide) (gT hG11 rfl (lt_of rfl)) ?_
      exact w_iret dX9_what_36 rfl h
    · replace h := h.2 c9
      refine w_aload_n dX9_what_19 rfl (List.Mem.head _) ?_
      refine w_getR (ci := 9) (k := 3) (b := 26) dX9_what_20 fl_9_33 (by decide) (gT hG11 rfl (lt_of rfl)) (gR hG11 (b := 26) rfl) ?_
      refine i_getI (ci := 4) 10 rfl dX9_what_23 fl_9_260 (by decide) (gT hG11 rfl (lt_of rfl)) ?_
      refine w_goto (tgt := 36) dX9_what_26 rfl ?_
      exact w_iret dX9_what_36 rfl h
theorem dX9_days_0 : decode cX9_days 0 = .ok (.aload_n 0, 1) := by decide +kernel
theorem dX9_days_1 : decode cX9_days 1 = .ok (.iload_n 1, 1) := by decide +kernel
theorem dX9_days_2 : decode cX9_days 2 = .ok (.iconst 1, 1) := by decide +kernel
theorem dX9_days_3 : decode cX9_days 3 = .ok (.if_icmp .lt 13, 3) := by decide +kernel
theorem dX9_days_6 : decode cX9_days 6 = .ok (.iload_n 1, 1) := by decide +kernel
theorem dX9_days_7 : decode cX9_days 7 = .ok (.bipush 99, 2) := by decide +kernel
theorem dX9_days_9 : decode cX9_days 9 = .ok (.if_icmp .gt 7, 3) := by decide +kernel
theorem dX9_days_12 : decode cX9_days 12 = .ok (.iconst 1, 1) := by decide +kernel
theorem dX9_days_13 : decode cX9_days 13 = .ok (.goto 4, 3) := by decide +kernel
theorem dX9_days_16 : decode cX9_days 16 = .ok (.iconst 0, 1) := by decide +kernel
theorem dX9_days_17 : decode cX9_days 17 = .ok (.invokevirtual 69, 3) := by decide +kernel
theorem dX9_days_20 : decode cX9_days 20 = .ok (.iconst 0, 1) := by decide +kernel
theorem dX9_days_21 : decode cX9_days 21 = .ok (.istore_n 2, 1) := by decide +kernel
theorem dX9_days_22 : decode cX9_days 22 = .ok (.iload_n 2, 1) := by decide +kernel
theorem dX9_days_23 : decode cX9_days 23 = .ok (.iload_n 1, 1) := by decide +kernel
theorem dX9_days_24 : decode cX9_days 24 = .ok (.if_icmp .ge 45, 3) := by decide +kernel
theorem dX9_days_27 : decode cX9_days 27 = .ok (.aload_n 0, 1) := by decide +kernel
theorem dX9_days_28 : decode cX9_days 28 = .ok (.getfield 48, 3) := by decide +kernel
theorem dX9_days_31 : decode cX9_days 31 = .ok (.getfield 103, 3) := by decide +kernel
theorem dX9_days_34 : decode cX9_days 34 = .ok (.sipush 999, 3) := by decide +kernel
theorem dX9_days_37 : decode cX9_days 37 = .ok (.if_icmp .ge 32, 3) := by decide +kernel
theorem dX9_days_40 : decode cX9_days 40 = .ok (.aload_n 0, 1) := by decide +kernel
theorem dX9_days_41 : decode cX9_days 41 = .ok (.getfield 48, 3) := by decide +kernel
theorem dX9_days_44 : decode cX9_days 44 = .ok (.dup, 1) := by decide +kernel
theorem dX9_days_45 : decode cX9_days 45 = .ok (.getfield 103, 3) := by decide +kernel
theorem dX9_days_48 : decode cX9_days 48 = .ok (.iconst 1, 1) := by decide +kernel
theorem dX9_days_49 : decode cX9_days 49 = .ok (.iadd, 1) := by decide +kernel
theorem dX9_days_50 : decode cX9_days 50 = .ok (.putfield 103, 3) := by decide +kernel
theorem dX9_days_53 : decode cX9_days 53 = .ok (.aload_n 0, 1) := by decide +kernel
theorem dX9_days_54 : decode cX9_days 54 = .ok (.getfield 48, 3) := by decide +kernel
theorem dX9_days_57 : decode cX9_days 57 = .ok (.getfield 87, 3) := by decide +kernel
theorem dX9_days_60 : decode cX9_days 60 = .ok (.invokevirtual 266, 3) := by decide +kernel
theorem dX9_days_63 : decode cX9_days 63 = .ok (.iinc 2 1, 3) := by decide +kernel
theorem dX9_days_66 : decode cX9_days 66 = .ok (.goto (-44), 3) := by decide +kernel
theorem dX9_days_69 : decode cX9_days 69 = .ok (.aload_n 0, 1) := by decide +kernel
theorem dX9_days_70 : decode cX9_days 70 = .ok (.getfield 48, 3) := by decide +kernel
theorem dX9_days_73 : decode cX9_days 73 = .ok (.getfield 103, 3) := by decide +kernel
theorem dX9_days_76 : decode cX9_days 76 = .ok (.ireturn, 1) := by decide +kernel
def L_X9_days_22 (C : aM → List Value → aH → aO → aH → Prop) (sc : Nat × (Nat → Int32)) (P : aO → aH → Prop) (x1 : Int) (x2 : Int) (σ : aH) : Prop :=
    wp C 9 cX9_days 3 (some .int) false [] sc P 22 [(0, .ref 0), (1, .int (nZ x1)), (2, .int (nZ x2))] [] σ
set_option maxRecDepth 10000 in
theorem t_X9_days {sc : Nat × (Nat → Int32)} {d : Nat} {Q : aO → aH → Prop} {σ : aH} {u : Nat}  {x1 : Int} (hG : G σ u) (rx1 : inR x1)
    (h : ((x1 < 1 → ((∃ (e9 : Nat) (σ1 : aH), Ev sc d mX9_require [.ref 0, .int (nZ 0)] σ (.inr e9) σ1 ∧ Q (.inr e9) σ1) ∨ (∃ σ1 : aH, Ev sc d mX9_require [.ref 0, .int (nZ 0)] σ (.inl none) σ1 ∧ G σ1 u ∧ L_X9_days_22 (Ev sc d) sc Q x1 0 σ1))) ∧ (¬ (x1 < 1) → ((99 < x1 → ((∃ (e9 : Nat) (σ5 : aH), Ev sc d mX9_require [.ref 0, .int (nZ 0)] σ (.inr e9) σ5 ∧ Q (.inr e9) σ5) ∨ (∃ σ5 : aH, Ev sc d mX9_require [.ref 0, .int (nZ 0)] σ (.inl none) σ5 ∧ G σ5 u ∧ L_X9_days_22 (Ev sc d) sc Q x1 0 σ5))) ∧ (¬ (99 < x1) → ((∃ (e9 : Nat) (σ9 : aH), Ev sc d mX9_require [.ref 0, .int (nZ 1)] σ (.inr e9) σ9 ∧ Q (.inr e9) σ9) ∨ (∃ σ9 : aH, Ev sc d mX9_require [.ref 0, .int (nZ 1)] σ (.inl none) σ9 ∧ G σ9 u ∧ L_X9_days_22 (Ev sc d) sc Q x1 0 σ9))))))) :
    T sc (d + 1) mX9_days [.ref 0, .int (nZ x1)] σ Q := by
  refine T.of (c := 9) (code := cX9_days) (mL := 3) (rt := (some .int)) (ini := false) (l := [(0, .ref 0), (1, .int (nZ x1))]) rfl rfl rfl rfl (by decide) hs_X9_days rfl rfl ?_
  refine w_aload_n dX9_days_0 rfl (List.Mem.head _) ?_
  refine w_iload_n dX9_days_1 rfl (List.Mem.tail _ (List.Mem.head _)) ?_
  refine w_iconst (v := nZ 1) dX9_days_2 (by decide) ?_
  refine i_cmp_lt (tgt := 16) dX9_days_3 rfl rx1 (by decide) (fun c9 => ?_) (fun c9 => ?_)
  · replace h := h.1 c9
    refine w_iconst (v := nZ 0) dX9_days_16 (by decide) ?_
    rcases h with h | h
    · obtain ⟨e9, σ1, hc3, h⟩ := h
      exact w_throwV dX9_days_17 mp_9_69 ⟨ok_X9_require, vi_X9_require⟩ hs_X9_require (As := [.int (nZ 0)]) rfl rfl (gT hG rfl (lt_of rfl)) (Nat.le_of_ble_eq_true rfl) hc3 rfl h
    · obtain ⟨σ1, hc3, hG2, h⟩ := h
      refine w_callV dX9_days_17 ml_9_69 ⟨ok_X9_require, vi_X9_require⟩ hs_X9_require (As := [.int (nZ 0)]) rfl rfl (gT hG rfl (lt_of rfl)) (Nat.le_of_ble_eq_true rfl) hc3 ?_
      show wp (Ev sc d) 9 cX9_days 3 (some .int) false [] sc Q 20 [(0, .ref 0), (1, .int (nZ x1))] [] σ1
      refine w_iconst (v := nZ 0) dX9_days_20 (by decide) ?_
      refine w_istore_n (l' := [(2, .int (nZ 0)), (0, .ref 0), (1, .int (nZ x1))]) dX9_days_21 rfl (by decide) rfl ?_
      exact w_weak (l' := [(0, .ref 0), (1, .int (nZ x1)), (2, .int (nZ 0))]) (by intro q hq; simp only [List.mem_cons, List.not_mem_nil, or_false] at hq ⊢; rcases hq with rfl | rfl | rfl <;> simp) h
  · replace h := h.2 c9
    refine w_iload_n dX9_days_6 rfl (List.Mem.tail _ (List.Mem.head _)) ?_
    refine w_bipush (v := nZ 99) dX9_days_7 (by decide) ?_
    refine i_cmp_gt (tgt := 16) dX9_days_9 rfl rx1 (by decide) (fun c9 => ?_) (fun c9 => ?_)
    · replace h := h.1 c9
      refine w_iconst (v := nZ 0) dX9_days_16 (by decide) ?_
      rcases h with h | h
      · obtain ⟨e9, σ5, hc7, h⟩ := h
        exact w_throwV dX9_days_17 mp_9_69 ⟨ok_X9_require, vi_X9_require⟩ hs_X9_require (As := [.int (nZ 0)]) rfl rfl (gT hG rfl (lt_of rfl)) (Nat.le_of_ble_eq_true rfl) hc7 rfl h
      · obtain ⟨σ5, hc7, hG6, h⟩ := h
        refine w_callV dX9_days_17 ml_9_69 ⟨ok_X9_require, vi_X9_require⟩ hs_X9_require (As := [.int (nZ 0)]) rfl rfl (gT hG rfl (lt_of rfl)) (Nat.le_of_ble_eq_true rfl) hc7 ?_
        show wp (Ev sc d) 9 cX9_days 3 (some .int) false [] sc Q 20 [(0, .ref 0), (1, .int (nZ x1))] [] σ5
        refine w_iconst (v := nZ 0) dX9_days_20 (by decide) ?_
        refine w_istore_n (l' := [(2, .int (nZ 0)), (0, .ref 0), (1, .int (nZ x1))]) dX9_days_21 rfl (by decide) rfl ?_
        exact w_weak (l' := [(0, .ref 0), (1, .int (nZ x1)), (2, .int (nZ 0))]) (by intro q hq; simp only [List.mem_cons, List.not_mem_nil, or_false] at hq ⊢; rcases hq with rfl | rfl | rfl <;> simp) h
    · replace h := h.2 c9
      refine w_iconst (v := nZ 1) dX9_days_12 (by decide) ?_
      refine w_goto (tgt := 17) dX9_days_13 rfl ?_
      rcases h with h | h
      · obtain ⟨e9, σ9, hc11, h⟩ := h
        exact w_throwV dX9_days_17 mp_9_69 ⟨ok_X9_require, vi_X9_require⟩ hs_X9_require (As := [.int (nZ 1)]) rfl rfl (gT hG rfl (lt_of rfl)) (Nat.le_of_ble_eq_true rfl) hc11 rfl h
      · obtain ⟨σ9, hc11, hG10, h⟩ := h
        refine w_callV dX9_days_17 ml_9_69 ⟨ok_X9_require, vi_X9_require⟩ hs_X9_require (As := [.int (nZ 1)]) rfl rfl (gT hG rfl (lt_of rfl)) (Nat.le_of_ble_eq_true rfl) hc11 ?_
        show wp (Ev sc d) 9 cX9_days 3 (some .int) false [] sc Q 20 [(0, .ref 0), (1, .int (nZ x1))] [] σ9
        refine w_iconst (v := nZ 0) dX9_days_20 (by decide) ?_
        refine w_istore_n (l' := [(2, .int (nZ 0)), (0, .ref 0), (1, .int (nZ x1))]) dX9_days_21 rfl (by decide) rfl ?_
        exact w_weak (l' := [(0, .ref 0), (1, .int (nZ x1)), (2, .int (nZ 0))]) (by intro q hq; simp only [List.mem_cons, List.not_mem_nil, or_false] at hq ⊢; rcases hq with rfl | rfl | rfl <;> simp) h
set_option maxRecDepth 10000 in
theorem v_X9_days_22 {C : aM → List Value → aH → aO → aH → Prop} {sc : Nat × (Nat → Int32)} {P : aO → aH → Prop} {σ : aH} {u : Nat}  {x1 : Int} {x2 : Int} (hG : G σ u) (rx1 : inR x1) (rx2 : inR x2)
    (h : ((x1 ≤ x2 → P (.inl (some (.int (nZ (rI σ u 8))))) σ) ∧ (¬ (x1 ≤ x2) → ((999 ≤ (rI σ u 8) → P (.inl (some (.int (nZ (rI σ u 8))))) σ) ∧ (¬ (999 ≤ (rI σ u 8)) → (inR ((rI σ u 8) + 1) ∧ (∀ σ2 : aH, wI σ u 8 ((rI σ u 8) + 1) = σ2 → (∃ σ5 : aH, C mX7_grow [.ref (u + 1)] σ2 (.inl none) σ5 ∧ G σ5 u ∧ (inR (x2 + 1) ∧ L_X9_days_22 C sc P x1 (x2 + 1) σ5))))))))) :
    L_X9_days_22 C sc P x1 x2 σ := by
  unfold L_X9_days_22
  refine w_iload_n dX9_days_22 rfl (List.Mem.tail _ (List.Mem.tail _ (List.Mem.head _))) ?_
  refine w_iload_n dX9_days_23 rfl (List.Mem.tail _ (List.Mem.head _)) ?_
  refine i_cmp_ge (tgt := 69) dX9_days_24 rfl rx2 rx1 (fun c9 => ?_) (fun c9 => ?_)
  · replace h := h.1 c9
    refine w_aload_n dX9_days_69 rfl (List.Mem.head _) ?_
    refine w_getM (ci := 9) (k := 5) (b := u) dX9_days_70 fl_9_48 (by decide) (gT hG rfl (lt_of rfl)) hG.2.2.1 ?_
    refine i_getI (ci := 2) 8 rfl dX9_days_73 fl_9_103 (by decide) (gT hG (IsMk_t0 hG.2.2.2.2) (IsMk_lt hG.2.2.2.2 (k := 0) (by decide))) ?_
    exact w_iret dX9_days_76 rfl h
  · replace h := h.2 c9
    refine w_aload_n dX9_days_27 rfl (List.Mem.head _) ?_
    refine w_getM (ci := 9) (k := 5) (b := u) dX9_days_28 fl_9_48 (by decide) (gT hG rfl (lt_of rfl)) hG.2.2.1 ?_
    refine i_getI (ci := 2) 8 rfl dX9_days_31 fl_9_103 (by decide) (gT hG (IsMk_t0 hG.2.2.2.2) (IsMk_lt hG.2.2.2.2 (k := 0) (by decide))) ?_
    refine w_sipush (v := nZ 999) dX9_days_34 (by decide) ?_
    refine i_cmp_ge (tgt := 69) dX9_days_37 rfl (rI_R _ _ _) (by decide) (fun c9 => ?_) (fun c9 => ?_)
    · replace h := h.1 c9
      refine w_aload_n dX9_days_69 rfl (List.Mem.head _) ?_
      refine w_getM (ci := 9) (k := 5) (b := u) dX9_days_70 fl_9_48 (by decide) (gT hG rfl (lt_of rfl)) hG.2.2.1 ?_
      refine i_getI (ci := 2) 8 rfl dX9_days_73 fl_9_103 (by decide) (gT hG (IsMk_t0 hG.2.2.2.2) (IsMk_lt hG.2.2.2.2 (k := 0) (by decide))) ?_
      exact w_iret dX9_days_76 rfl h
    · replace h := h.2 c9
      refine w_aload_n dX9_days_40 rfl (List.Mem.head _) ?_
      refine w_getM (ci := 9) (k := 5) (b := u) dX9_days_41 fl_9_48 (by decide) (gT hG rfl (lt_of rfl)) hG.2.2.1 ?_
      refine w_dup dX9_days_44 rfl ?_
      refine i_getI (ci := 2) 8 rfl dX9_days_45 fl_9_103 (by decide) (gT hG (IsMk_t0 hG.2.2.2.2) (IsMk_lt hG.2.2.2.2 (k := 0) (by decide))) ?_
      refine w_iconst (v := nZ 1) dX9_days_48 (by decide) ?_
      obtain ⟨q1, h⟩ := h
      refine i_add dX9_days_49 ?_
      refine i_putI (ci := 2) 8 rfl dX9_days_50 fl_9_103 (by decide) (gT hG (IsMk_t0 hG.2.2.2.2) (IsMk_lt hG.2.2.2.2 (k := 0) (by decide))) (fun σ2 eσ3 => ?_)
      replace h := h σ2 eσ3
      have hG4 : G σ2 u := eσ3 ▸ G.wI hG
      refine w_aload_n dX9_days_53 rfl (List.Mem.head _) ?_
      refine w_getM (ci := 9) (k := 5) (b := u) dX9_days_54 fl_9_48 (by decide) (gT hG4 rfl (lt_of rfl)) hG4.2.2.1 ?_
      refine w_getR (ci := 2) (k := 0) (b := (u + 1)) dX9_days_57 fl_9_87 (by decide) (gT hG4 (IsMk_t0 hG.2.2.2.2) (IsMk_lt hG.2.2.2.2 (k := 0) (by decide))) (gR hG4 (IsMk_r0_0 hG.2.2.2.2)) ?_
      obtain ⟨σ5, hc7, hG6, h⟩ := h
      refine w_callV dX9_days_60 ml_9_266 ⟨ok_X7_grow, vi_X7_grow⟩ hs_X7_grow (As := []) rfl rfl (gT hG4 (IsMk_t1 hG.2.2.2.2) (IsMk_lt hG.2.2.2.2 (k := 1) (by decide))) (Nat.le_of_ble_eq_true rfl) hc7 ?_
      show wp C 9 cX9_days 3 (some .int) false [] sc P 63 [(0, .ref 0), (1, .int (nZ x1)), (2, .int (nZ x2))] [] σ5
      obtain ⟨q9, h⟩ := h
      refine w_iinc (v := nZ (x2 + 1)) (l' := [(2, .int (nZ (x2 + 1))), (0, .ref 0), (1, .int (nZ x1))]) dX9_days_63 (List.Mem.tail _ (List.Mem.tail _ (List.Mem.head _))) (nZ_add _ _) (by decide) rfl ?_
      refine w_goto (tgt := 22) dX9_days_66 rfl ?_
      exact w_weak (l' := [(0, .ref 0), (1, .int (nZ x1)), (2, .int (nZ (x2 + 1)))]) (by intro q hq; simp only [List.mem_cons, List.not_mem_nil, or_false] at hq ⊢; rcases hq with rfl | rfl | rfl <;> simp) h
theorem dX9_when_0 : decode cX9_when 0 = .ok (.aload_n 0, 1) := by decide +kernel
theorem dX9_when_1 : decode cX9_when 1 = .ok (.iload_n 1, 1) := by decide +kernel
theorem dX9_when_2 : decode cX9_when 2 = .ok (.invokestatic 269, 3) := by decide +kernel
theorem dX9_when_5 : decode cX9_when 5 = .ok (.invokevirtual 69, 3) := by decide +kernel
theorem dX9_when_8 : decode cX9_when 8 = .ok (.aload_n 0, 1) := by decide +kernel
theorem dX9_when_9 : decode cX9_when 9 = .ok (.getfield 33, 3) := by decide +kernel
theorem dX9_when_12 : decode cX9_when 12 = .ok (.iload_n 1, 1) := by decide +kernel
theorem dX9_when_13 : decode cX9_when 13 = .ok (.invokevirtual 272, 3) := by decide +kernel
theorem dX9_when_16 : decode cX9_when 16 = .ok (.ireturn, 1) := by decide +kernel
set_option maxRecDepth 10000 in
theorem t_X9_when {sc : Nat × (Nat → Int32)} {d : Nat} {Q : aO → aH → Prop} {σ : aH} {u : Nat}  {x1 : Int} (hG : G σ u) (rx1 : inR x1)
    (h : (∃ (r5 : Int) (σ1 : aH), Ev sc d mX9_isDue [.int (nZ x1)] σ (.inl (some (.int (nZ r5)))) σ1 ∧ G σ1 u ∧ inR r5 ∧ ((∃ (e9 : Nat) (σ6 : aH), Ev sc d mX9_require [.ref 0, .int (nZ r5)] σ1 (.inr e9) σ6 ∧ Q (.inr e9) σ6) ∨ (∃ σ6 : aH, Ev sc d mX9_require [.ref 0, .int (nZ r5)] σ1 (.inl none) σ6 ∧ G σ6 u ∧ (∃ (r14 : Int) (σ10 : aH), Ev sc d mX4_daysTillAbove [.ref 26, .int (nZ x1)] σ6 (.inl (some (.int (nZ r14)))) σ10 ∧ G σ10 u ∧ inR r14 ∧ Q (.inl (some (.int (nZ r14)))) σ10))))) :
    T sc (d + 1) mX9_when [.ref 0, .int (nZ x1)] σ Q := by
  refine T.of (c := 9) (code := cX9_when) (mL := 2) (rt := (some .int)) (ini := false) (l := [(0, .ref 0), (1, .int (nZ x1))]) rfl rfl rfl rfl (by decide) hs_X9_when rfl rfl ?_
  refine w_aload_n dX9_when_0 rfl (List.Mem.head _) ?_
  refine w_iload_n dX9_when_1 rfl (List.Mem.tail _ (List.Mem.head _)) ?_
  obtain ⟨r5, σ1, hc3, hG2, rr4, h⟩ := h
  refine w_callS dX9_when_2 ml_9_269 ⟨ok_X9_isDue, st_X9_isDue⟩ hs_X9_isDue (As := [.int (nZ x1)]) rfl rfl (Nat.le_of_ble_eq_true rfl) hc3 ?_
  show wp (Ev sc d) 9 cX9_when 2 (some .int) false [] sc Q 5 [(0, .ref 0), (1, .int (nZ x1))] [.int (nZ r5), .ref 0] σ1
  rcases h with h | h
  · obtain ⟨e9, σ6, hc8, h⟩ := h
    exact w_throwV dX9_when_5 mp_9_69 ⟨ok_X9_require, vi_X9_require⟩ hs_X9_require (As := [.int (nZ r5)]) rfl rfl (gT hG2 rfl (lt_of rfl)) (Nat.le_of_ble_eq_true rfl) hc8 rfl h
  · obtain ⟨σ6, hc8, hG7, h⟩ := h
    refine w_callV dX9_when_5 ml_9_69 ⟨ok_X9_require, vi_X9_require⟩ hs_X9_require (As := [.int (nZ r5)]) rfl rfl (gT hG2 rfl (lt_of rfl)) (Nat.le_of_ble_eq_true rfl) hc8 ?_
    show wp (Ev sc d) 9 cX9_when 2 (some .int) false [] sc Q 8 [(0, .ref 0), (1, .int (nZ x1))] [] σ6
    refine w_aload_n dX9_when_8 rfl (List.Mem.head _) ?_
    refine w_getR (ci := 9) (k := 3) (b := 26) dX9_when_9 fl_9_33 (by decide) (gT hG7 rfl (lt_of rfl)) (gR hG7 (b := 26) rfl) ?_
    refine w_iload_n dX9_when_12 rfl (List.Mem.tail _ (List.Mem.head _)) ?_
    obtain ⟨r14, σ10, hc12, hG11, rr13, h⟩ := h
    refine w_callV dX9_when_13 ml_9_272 ⟨ok_X4_daysTillAbove, vi_X4_daysTillAbove⟩ hs_X4_daysTillAbove (As := [.int (nZ x1)]) rfl rfl (gT hG7 rfl (lt_of rfl)) (Nat.le_of_ble_eq_true rfl) hc12 ?_
    show wp (Ev sc d) 9 cX9_when 2 (some .int) false [] sc Q 16 [(0, .ref 0), (1, .int (nZ x1))] [.int (nZ r14)] σ10
    exact w_iret dX9_when_16 rfl h
theorem dX9_clouds_0 : decode cX9_clouds 0 = .ok (.aload_n 0, 1) := by decide +kernel
theorem dX9_clouds_1 : decode cX9_clouds 1 = .ok (.iload_n 2, 1) := by decide +kernel
theorem dX9_clouds_2 : decode cX9_clouds 2 = .ok (.invokestatic 210, 3) := by decide +kernel
theorem dX9_clouds_5 : decode cX9_clouds 5 = .ok (.invokevirtual 69, 3) := by decide +kernel
theorem dX9_clouds_8 : decode cX9_clouds 8 = .ok (.aload_n 0, 1) := by decide +kernel
theorem dX9_clouds_9 : decode cX9_clouds 9 = .ok (.getfield 48, 3) := by decide +kernel
theorem dX9_clouds_12 : decode cX9_clouds 12 = .ok (.iload_n 1, 1) := by decide +kernel
theorem dX9_clouds_13 : decode cX9_clouds 13 = .ok (.invokevirtual 275, 3) := by decide +kernel
theorem dX9_clouds_16 : decode cX9_clouds 16 = .ok (.istore_n 3, 1) := by decide +kernel
theorem dX9_clouds_17 : decode cX9_clouds 17 = .ok (.iload_n 2, 1) := by decide +kernel
theorem dX9_clouds_18 : decode cX9_clouds 18 = .ok (.iconst 1, 1) := by decide +kernel
theorem dX9_clouds_19 : decode cX9_clouds 19 = .ok (.if_icmp .ne 5, 3) := by decide +kernel
theorem dX9_clouds_22 : decode cX9_clouds 22 = .ok (.iload_n 3, 1) := by decide +kernel
theorem dX9_clouds_23 : decode cX9_clouds 23 = .ok (.ireturn, 1) := by decide +kernel
theorem dX9_clouds_24 : decode cX9_clouds 24 = .ok (.aload_n 0, 1) := by decide +kernel
theorem dX9_clouds_25 : decode cX9_clouds 25 = .ok (.getfield 41, 3) := by decide +kernel
theorem dX9_clouds_28 : decode cX9_clouds 28 = .ok (.invokevirtual 278, 3) := by decide +kernel
theorem dX9_clouds_31 : decode cX9_clouds 31 = .ok (.aload_n 0, 1) := by decide +kernel
theorem dX9_clouds_32 : decode cX9_clouds 32 = .ok (.getfield 41, 3) := by decide +kernel
theorem dX9_clouds_35 : decode cX9_clouds 35 = .ok (.iload_n 3, 1) := by decide +kernel
theorem dX9_clouds_36 : decode cX9_clouds 36 = .ok (.invokevirtual 281, 3) := by decide +kernel
theorem dX9_clouds_39 : decode cX9_clouds 39 = .ok (.ireturn, 1) := by decide +kernel
set_option maxRecDepth 10000 in
theorem t_X9_clouds {sc : Nat × (Nat → Int32)} {d : Nat} {Q : aO → aH → Prop} {σ : aH} {u : Nat}  {x1 : Int} {x2 : Int} (hG : G σ u) (rx1 : inR x1) (rx2 : inR x2)
    (h : (∃ (r5 : Int) (σ1 : aH), Ev sc d mX9_isBit [.int (nZ x2)] σ (.inl (some (.int (nZ r5)))) σ1 ∧ G σ1 u ∧ inR r5 ∧ ((∃ (e9 : Nat) (σ6 : aH), Ev sc d mX9_require [.ref 0, .int (nZ r5)] σ1 (.inr e9) σ6 ∧ Q (.inr e9) σ6) ∨ (∃ σ6 : aH, Ev sc d mX9_require [.ref 0, .int (nZ r5)] σ1 (.inl none) σ6 ∧ G σ6 u ∧ (∃ (r14 : Int) (σ10 : aH), Ev sc d mX2_cloudsDrawn [.ref u, .int (nZ x1)] σ6 (.inl (some (.int (nZ r14)))) σ10 ∧ G σ10 u ∧ inR r14 ∧ ((¬ x2 = 1 → (∃ σ15 : aH, Ev sc d mX6_reckonHours [.ref 27] σ10 (.inl none) σ15 ∧ G σ15 u ∧ (∃ (r23 : Int) (σ19 : aH), Ev sc d mX6_dueWithout [.ref 27, .int (nZ r14)] σ15 (.inl (some (.int (nZ r23)))) σ19 ∧ G σ19 u ∧ inR r23 ∧ Q (.inl (some (.int (nZ r23)))) σ19))) ∧ (x2 = 1 → Q (.inl (some (.int (nZ r14)))) σ10))))))) :
    T sc (d + 1) mX9_clouds [.ref 0, .int (nZ x1), .int (nZ x2)] σ Q := by
  refine T.of (c := 9) (code := cX9_clouds) (mL := 4) (rt := (some .int)) (ini := false) (l := [(0, .ref 0), (1, .int (nZ x1)), (2, .int (nZ x2))]) rfl rfl rfl rfl (by decide) hs_X9_clouds rfl rfl ?_
  refine w_aload_n dX9_clouds_0 rfl (List.Mem.head _) ?_
  refine w_iload_n dX9_clouds_1 rfl (List.Mem.tail _ (List.Mem.tail _ (List.Mem.head _))) ?_
  obtain ⟨r5, σ1, hc3, hG2, rr4, h⟩ := h
  refine w_callS dX9_clouds_2 ml_9_210 ⟨ok_X9_isBit, st_X9_isBit⟩ hs_X9_isBit (As := [.int (nZ x2)]) rfl rfl (Nat.le_of_ble_eq_true rfl) hc3 ?_
  show wp (Ev sc d) 9 cX9_clouds 4 (some .int) false [] sc Q 5 [(0, .ref 0), (1, .int (nZ x1)), (2, .int (nZ x2))] [.int (nZ r5), .ref 0] σ1
  rcases h with h | h
  · obtain ⟨e9, σ6, hc8, h⟩ := h
    exact w_throwV dX9_clouds_5 mp_9_69 ⟨ok_X9_require, vi_X9_require⟩ hs_X9_require (As := [.int (nZ r5)]) rfl rfl (gT hG2 rfl (lt_of rfl)) (Nat.le_of_ble_eq_true rfl) hc8 rfl h
  · obtain ⟨σ6, hc8, hG7, h⟩ := h
    refine w_callV dX9_clouds_5 ml_9_69 ⟨ok_X9_require, vi_X9_require⟩ hs_X9_require (As := [.int (nZ r5)]) rfl rfl (gT hG2 rfl (lt_of rfl)) (Nat.le_of_ble_eq_true rfl) hc8 ?_
    show wp (Ev sc d) 9 cX9_clouds 4 (some .int) false [] sc Q 8 [(0, .ref 0), (1, .int (nZ x1)), (2, .int (nZ x2))] [] σ6
    refine w_aload_n dX9_clouds_8 rfl (List.Mem.head _) ?_
    refine w_getM (ci := 9) (k := 5) (b := u) dX9_clouds_9 fl_9_48 (by decide) (gT hG7 rfl (lt_of rfl)) hG7.2.2.1 ?_
    refine w_iload_n dX9_clouds_12 rfl (List.Mem.tail _ (List.Mem.head _)) ?_
    obtain ⟨r14, σ10, hc12, hG11, rr13, h⟩ := h
    refine w_callV dX9_clouds_13 ml_9_275 ⟨ok_X2_cloudsDrawn, vi_X2_cloudsDrawn⟩ hs_X2_cloudsDrawn (As := [.int (nZ x1)]) rfl rfl (gT hG7 (IsMk_t0 hG.2.2.2.2) (IsMk_lt hG.2.2.2.2 (k := 0) (by decide))) (Nat.le_of_ble_eq_true rfl) hc12 ?_
    show wp (Ev sc d) 9 cX9_clouds 4 (some .int) false [] sc Q 16 [(0, .ref 0), (1, .int (nZ x1)), (2, .int (nZ x2))] [.int (nZ r14)] σ10
    refine w_istore_n (l' := [(3, .int (nZ r14)), (0, .ref 0), (1, .int (nZ x1)), (2, .int (nZ x2))]) dX9_clouds_16 rfl (by decide) rfl ?_
    refine w_iload_n dX9_clouds_17 rfl (List.Mem.tail _ (List.Mem.tail _ (List.Mem.tail _ (List.Mem.head _)))) ?_
    refine w_iconst (v := nZ 1) dX9_clouds_18 (by decide) ?_
    refine i_cmp_ne (tgt := 24) dX9_clouds_19 rfl rx2 (by decide) (fun c9 => ?_) (fun c9 => ?_)
    · replace h := h.1 c9
      refine w_aload_n dX9_clouds_24 rfl (List.Mem.tail _ (List.Mem.head _)) ?_
      refine w_getR (ci := 9) (k := 4) (b := 27) dX9_clouds_25 fl_9_41 (by decide) (gT hG11 rfl (lt_of rfl)) (gR hG11 (b := 27) rfl) ?_
      obtain ⟨σ15, hc17, hG16, h⟩ := h
      refine w_callV dX9_clouds_28 ml_9_278 ⟨ok_X6_reckonHours, vi_X6_reckonHours⟩ hs_X6_reckonHours (As := []) rfl rfl (gT hG11 rfl (lt_of rfl)) (Nat.le_of_ble_eq_true rfl) hc17 ?_
      show wp (Ev sc d) 9 cX9_clouds 4 (some .int) false [] sc Q 31 [(3, .int (nZ r14)), (0, .ref 0), (1, .int (nZ x1)), (2, .int (nZ x2))] [] σ15
      refine w_aload_n dX9_clouds_31 rfl (List.Mem.tail _ (List.Mem.head _)) ?_
      refine w_getR (ci := 9) (k := 4) (b := 27) dX9_clouds_32 fl_9_41 (by decide) (gT hG16 rfl (lt_of rfl)) (gR hG16 (b := 27) rfl) ?_
      refine w_iload_n dX9_clouds_35 rfl (List.Mem.head _) ?_
      obtain ⟨r23, σ19, hc21, hG20, rr22, h⟩ := h
      refine w_callV dX9_clouds_36 ml_9_281 ⟨ok_X6_dueWithout, vi_X6_dueWithout⟩ hs_X6_dueWithout (As := [.int (nZ r14)]) rfl rfl (gT hG16 rfl (lt_of rfl)) (Nat.le_of_ble_eq_true rfl) hc21 ?_
      show wp (Ev sc d) 9 cX9_clouds 4 (some .int) false [] sc Q 39 [(3, .int (nZ r14)), (0, .ref 0), (1, .int (nZ x1)), (2, .int (nZ x2))] [.int (nZ r23)] σ19
      exact w_iret dX9_clouds_39 rfl h
    · replace h := h.2 c9
      refine w_iload_n dX9_clouds_22 rfl (List.Mem.head _) ?_
      exact w_iret dX9_clouds_23 rfl h
theorem dX9_span_0 : decode cX9_span 0 = .ok (.aload_n 0, 1) := by decide +kernel
theorem dX9_span_1 : decode cX9_span 1 = .ok (.iload_n 2, 1) := by decide +kernel
theorem dX9_span_2 : decode cX9_span 2 = .ok (.iconst 1, 1) := by decide +kernel
theorem dX9_span_3 : decode cX9_span 3 = .ok (.if_icmp .lt 20, 3) := by decide +kernel
theorem dX9_span_6 : decode cX9_span 6 = .ok (.iload_n 2, 1) := by decide +kernel
theorem dX9_span_7 : decode cX9_span 7 = .ok (.bipush 60, 2) := by decide +kernel
theorem dX9_span_9 : decode cX9_span 9 = .ok (.if_icmp .gt 14, 3) := by decide +kernel
theorem dX9_span_12 : decode cX9_span 12 = .ok (.iload_n 3, 1) := by decide +kernel
theorem dX9_span_13 : decode cX9_span 13 = .ok (.invokestatic 210, 3) := by decide +kernel
theorem dX9_span_16 : decode cX9_span 16 = .ok (.ifCond .eq 7, 3) := by decide +kernel
theorem dX9_span_19 : decode cX9_span 19 = .ok (.iconst 1, 1) := by decide +kernel
theorem dX9_span_20 : decode cX9_span 20 = .ok (.goto 4, 3) := by decide +kernel
theorem dX9_span_23 : decode cX9_span 23 = .ok (.iconst 0, 1) := by decide +kernel
theorem dX9_span_24 : decode cX9_span 24 = .ok (.invokevirtual 69, 3) := by decide +kernel
theorem dX9_span_27 : decode cX9_span 27 = .ok (.aload_n 0, 1) := by decide +kernel
theorem dX9_span_28 : decode cX9_span 28 = .ok (.getfield 41, 3) := by decide +kernel
theorem dX9_span_31 : decode cX9_span 31 = .ok (.invokevirtual 278, 3) := by decide +kernel
theorem dX9_span_34 : decode cX9_span 34 = .ok (.aload_n 0, 1) := by decide +kernel
theorem dX9_span_35 : decode cX9_span 35 = .ok (.getfield 41, 3) := by decide +kernel
theorem dX9_span_38 : decode cX9_span 38 = .ok (.aload_n 0, 1) := by decide +kernel
theorem dX9_span_39 : decode cX9_span 39 = .ok (.getfield 48, 3) := by decide +kernel
theorem dX9_span_42 : decode cX9_span 42 = .ok (.iload_n 1, 1) := by decide +kernel
theorem dX9_span_43 : decode cX9_span 43 = .ok (.invokevirtual 275, 3) := by decide +kernel
theorem dX9_span_46 : decode cX9_span 46 = .ok (.invokevirtual 281, 3) := by decide +kernel
theorem dX9_span_49 : decode cX9_span 49 = .ok (.istore 4, 2) := by decide +kernel
theorem dX9_span_51 : decode cX9_span 51 = .ok (.iconst 1, 1) := by decide +kernel
theorem dX9_span_52 : decode cX9_span 52 = .ok (.istore 5, 2) := by decide +kernel
theorem dX9_span_54 : decode cX9_span 54 = .ok (.iload 5, 2) := by decide +kernel
theorem dX9_span_56 : decode cX9_span 56 = .ok (.iload_n 2, 1) := by decide +kernel
theorem dX9_span_57 : decode cX9_span 57 = .ok (.if_icmp .ge 52, 3) := by decide +kernel
theorem dX9_span_60 : decode cX9_span 60 = .ok (.aload_n 0, 1) := by decide +kernel
theorem dX9_span_61 : decode cX9_span 61 = .ok (.getfield 41, 3) := by decide +kernel
theorem dX9_span_64 : decode cX9_span 64 = .ok (.aload_n 0, 1) := by decide +kernel
theorem dX9_span_65 : decode cX9_span 65 = .ok (.getfield 48, 3) := by decide +kernel
theorem dX9_span_68 : decode cX9_span 68 = .ok (.iload_n 1, 1) := by decide +kernel
theorem dX9_span_69 : decode cX9_span 69 = .ok (.iload 5, 2) := by decide +kernel
theorem dX9_span_71 : decode cX9_span 71 = .ok (.iadd, 1) := by decide +kernel
theorem dX9_span_72 : decode cX9_span 72 = .ok (.invokevirtual 275, 3) := by decide +kernel
theorem dX9_span_75 : decode cX9_span 75 = .ok (.invokevirtual 281, 3) := by decide +kernel
theorem dX9_span_78 : decode cX9_span 78 = .ok (.istore 6, 2) := by decide +kernel
theorem dX9_span_80 : decode cX9_span 80 = .ok (.iload_n 3, 1) := by decide +kernel
theorem dX9_span_81 : decode cX9_span 81 = .ok (.ifCond .ne 13, 3) := by decide +kernel
theorem dX9_span_84 : decode cX9_span 84 = .ok (.iload 4, 2) := by decide +kernel
theorem dX9_span_86 : decode cX9_span 86 = .ok (.iload 6, 2) := by decide +kernel
theorem dX9_span_88 : decode cX9_span 88 = .ok (.invokestatic 284, 3) := by decide +kernel
theorem dX9_span_91 : decode cX9_span 91 = .ok (.goto 10, 3) := by decide +kernel
theorem dX9_span_94 : decode cX9_span 94 = .ok (.iload 4, 2) := by decide +kernel
theorem dX9_span_96 : decode cX9_span 96 = .ok (.iload 6, 2) := by decide +kernel
theorem dX9_span_98 : decode cX9_span 98 = .ok (.invokestatic 289, 3) := by decide +kernel
theorem dX9_span_101 : decode cX9_span 101 = .ok (.istore 4, 2) := by decide +kernel
theorem dX9_span_103 : decode cX9_span 103 = .ok (.iinc 5 1, 3) := by decide +kernel
theorem dX9_span_106 : decode cX9_span 106 = .ok (.goto (-52), 3) := by decide +kernel
theorem dX9_span_109 : decode cX9_span 109 = .ok (.iload 4, 2) := by decide +kernel
theorem dX9_span_111 : decode cX9_span 111 = .ok (.ireturn, 1) := by decide +kernel
def L_X9_span_23 (C : aM → List Value → aH → aO → aH → Prop) (sc : Nat × (Nat → Int32)) (P : aO → aH → Prop) (x1 : Int) (x2 : Int) (x3 : Int) (σ : aH) : Prop :=
    wp C 9 cX9_span 7 (some .int) false [] sc P 23 [(0, .ref 0), (1, .int (nZ x1)), (2, .int (nZ x2)), (3, .int (nZ x3))] [.ref 0] σ
def L_X9_span_54 (C : aM → List Value → aH → aO → aH → Prop) (sc : Nat × (Nat → Int32)) (P : aO → aH → Prop) (x1 : Int) (x2 : Int) (x3 : Int) (x4 : Int) (x5 : Int) (σ : aH) : Prop :=
    wp C 9 cX9_span 7 (some .int) false [] sc P 54 [(0, .ref 0), (1, .int (nZ x1)), (2, .int (nZ x2)), (3, .int (nZ x3)), (4, .int (nZ x4)), (5, .int (nZ x5))] [] σ
set_option maxRecDepth 10000 in
theorem t_X9_span {sc : Nat × (Nat → Int32)} {d : Nat} {Q : aO → aH → Prop} {σ : aH} {u : Nat}  {x1 : Int} {x2 : Int} {x3 : Int} (hG : G σ u) (rx1 : inR x1) (rx2 : inR x2) (rx3 : inR x3)
    (h : ((x2 < 1 → L_X9_span_23 (Ev sc d) sc Q x1 x2 x3 σ) ∧ (¬ (x2 < 1) → ((60 < x2 → L_X9_span_23 (Ev sc d) sc Q x1 x2 x3 σ) ∧ (¬ (60 < x2) → (∃ (r5 : Int) (σ1 : aH), Ev sc d mX9_isBit [.int (nZ x3)] σ (.inl (some (.int (nZ r5)))) σ1 ∧ G σ1 u ∧ inR r5 ∧ ((r5 = 0 → L_X9_span_23 (Ev sc d) sc Q x1 x2 x3 σ1) ∧ (¬ (r5 = 0) → ((∃ (e9 : Nat) (σ6 : aH), Ev sc d mX9_require [.ref 0, .int (nZ 1)] σ1 (.inr e9) σ6 ∧ Q (.inr e9) σ6) ∨ (∃ σ6 : aH, Ev sc d mX9_require [.ref 0, .int (nZ 1)] σ1 (.inl none) σ6 ∧ G σ6 u ∧ (∃ σ10 : aH, Ev sc d mX6_reckonHours [.ref 27] σ6 (.inl none) σ10 ∧ G σ10 u ∧ (∃ (r18 : Int) (σ14 : aH), Ev sc d mX2_cloudsDrawn [.ref u, .int (nZ x1)] σ10 (.inl (some (.int (nZ r18)))) σ14 ∧ G σ14 u ∧ inR r18 ∧ (∃ (r23 : Int) (σ19 : aH), Ev sc d mX6_dueWithout [.ref 27, .int (nZ r18)] σ14 (.inl (some (.int (nZ r23)))) σ19 ∧ G σ19 u ∧ inR r23 ∧ L_X9_span_54 (Ev sc d) sc Q x1 x2 x3 r23 1 σ19))))))))))))) :
    T sc (d + 1) mX9_span [.ref 0, .int (nZ x1), .int (nZ x2), .int (nZ x3)] σ Q := by
  refine T.of (c := 9) (code := cX9_span) (mL := 7) (rt := (some .int)) (ini := false) (l := [(0, .ref 0), (1, .int (nZ x1)), (2, .int (nZ x2)), (3, .int (nZ x3))]) rfl rfl rfl rfl (by decide) hs_X9_span rfl rfl ?_
  refine w_aload_n dX9_span_0 rfl (List.Mem.head _) ?_
  refine w_iload_n dX9_span_1 rfl (List.Mem.tail _ (List.Mem.tail _ (List.Mem.head _))) ?_
  refine w_iconst (v := nZ 1) dX9_span_2 (by decide) ?_
  refine i_cmp_lt (tgt := 23) dX9_span_3 rfl rx2 (by decide) (fun c9 => ?_) (fun c9 => ?_)
  · replace h := h.1 c9
    exact h
  · replace h := h.2 c9
    refine w_iload_n dX9_span_6 rfl (List.Mem.tail _ (List.Mem.tail _ (List.Mem.head _))) ?_
    refine w_bipush (v := nZ 60) dX9_span_7 (by decide) ?_
    refine i_cmp_gt (tgt := 23) dX9_span_9 rfl rx2 (by decide) (fun c9 => ?_) (fun c9 => ?_)
    · replace h := h.1 c9
      exact h
    · replace h := h.2 c9
      refine w_iload_n dX9_span_12 rfl (List.Mem.tail _ (List.Mem.tail _ (List.Mem.tail _ (List.Mem.head _)))) ?_
      obtain ⟨r5, σ1, hc3, hG2, rr4, h⟩ := h
      refine w_callS dX9_span_13 ml_9_210 ⟨ok_X9_isBit, st_X9_isBit⟩ hs_X9_isBit (As := [.int (nZ x3)]) rfl rfl (Nat.le_of_ble_eq_true rfl) hc3 ?_
      show wp (Ev sc d) 9 cX9_span 7 (some .int) false [] sc Q 16 [(0, .ref 0), (1, .int (nZ x1)), (2, .int (nZ x2)), (3, .int (nZ x3))] [.int (nZ r5), .ref 0] σ1
      refine i_if_eq (tgt := 23) dX9_span_16 rfl rr4 (fun c9 => ?_) (fun c9 => ?_)
      · replace h := h.1 c9
        exact h
      · replace h := h.2 c9
        refine w_iconst (v := nZ 1) dX9_span_19 (by decide) ?_
        refine w_goto (tgt := 24) dX9_span_20 rfl ?_
        rcases h with h | h
        · obtain ⟨e9, σ6, hc8, h⟩ := h
          exact w_throwV dX9_span_24 mp_9_69 ⟨ok_X9_require, vi_X9_require⟩ hs_X9_require (As := [.int (nZ 1)]) rfl rfl (gT hG2 rfl (lt_of rfl)) (Nat.le_of_ble_eq_true rfl) hc8 rfl h
        · obtain ⟨σ6, hc8, hG7, h⟩ := h
          refine w_callV dX9_span_24 ml_9_69 ⟨ok_X9_require, vi_X9_require⟩ hs_X9_require (As := [.int (nZ 1)]) rfl rfl (gT hG2 rfl (lt_of rfl)) (Nat.le_of_ble_eq_true rfl) hc8 ?_
          show wp (Ev sc d) 9 cX9_span 7 (some .int) false [] sc Q 27 [(0, .ref 0), (1, .int (nZ x1)), (2, .int (nZ x2)), (3, .int (nZ x3))] [] σ6
          refine w_aload_n dX9_span_27 rfl (List.Mem.head _) ?_
          refine w_getR (ci := 9) (k := 4) (b := 27) dX9_span_28 fl_9_41 (by decide) (gT hG7 rfl (lt_of rfl)) (gR hG7 (b := 27) rfl) ?_
          obtain ⟨σ10, hc12, hG11, h⟩ := h
          refine w_callV dX9_span_31 ml_9_278 ⟨ok_X6_reckonHours, vi_X6_reckonHours⟩ hs_X6_reckonHours (As := []) rfl rfl (gT hG7 rfl (lt_of rfl)) (Nat.le_of_ble_eq_true rfl) hc12 ?_
          show wp (Ev sc d) 9 cX9_span 7 (some .int) false [] sc Q 34 [(0, .ref 0), (1, .int (nZ x1)), (2, .int (nZ x2)), (3, .int (nZ x3))] [] σ10
          refine w_aload_n dX9_span_34 rfl (List.Mem.head _) ?_
          refine w_getR (ci := 9) (k := 4) (b := 27) dX9_span_35 fl_9_41 (by decide) (gT hG11 rfl (lt_of rfl)) (gR hG11 (b := 27) rfl) ?_
          refine w_aload_n dX9_span_38 rfl (List.Mem.head _) ?_
          refine w_getM (ci := 9) (k := 5) (b := u) dX9_span_39 fl_9_48 (by decide) (gT hG11 rfl (lt_of rfl)) hG11.2.2.1 ?_
          refine w_iload_n dX9_span_42 rfl (List.Mem.tail _ (List.Mem.head _)) ?_
          obtain ⟨r18, σ14, hc16, hG15, rr17, h⟩ := h
          refine w_callV dX9_span_43 ml_9_275 ⟨ok_X2_cloudsDrawn, vi_X2_cloudsDrawn⟩ hs_X2_cloudsDrawn (As := [.int (nZ x1)]) rfl rfl (gT hG11 (IsMk_t0 hG.2.2.2.2) (IsMk_lt hG.2.2.2.2 (k := 0) (by decide))) (Nat.le_of_ble_eq_true rfl) hc16 ?_
          show wp (Ev sc d) 9 cX9_span 7 (some .int) false [] sc Q 46 [(0, .ref 0), (1, .int (nZ x1)), (2, .int (nZ x2)), (3, .int (nZ x3))] [.int (nZ r18), .ref 27] σ14
          obtain ⟨r23, σ19, hc21, hG20, rr22, h⟩ := h
          refine w_callV dX9_span_46 ml_9_281 ⟨ok_X6_dueWithout, vi_X6_dueWithout⟩ hs_X6_dueWithout (As := [.int (nZ r18)]) rfl rfl (gT hG15 rfl (lt_of rfl)) (Nat.le_of_ble_eq_true rfl) hc21 ?_
          show wp (Ev sc d) 9 cX9_span 7 (some .int) false [] sc Q 49 [(0, .ref 0), (1, .int (nZ x1)), (2, .int (nZ x2)), (3, .int (nZ x3))] [.int (nZ r23)] σ19
          refine w_istore (l' := [(4, .int (nZ r23)), (0, .ref 0), (1, .int (nZ x1)), (2, .int (nZ x2)), (3, .int (nZ x3))]) dX9_span_49 (by decide) rfl ?_
          refine w_iconst (v := nZ 1) dX9_span_51 (by decide) ?_
          refine w_istore (l' := [(5, .int (nZ 1)), (4, .int (nZ r23)), (0, .ref 0), (1, .int (nZ x1)), (2, .int (nZ x2)), (3, .int (nZ x3))]) dX9_span_52 (by decide) rfl ?_
          exact w_weak (l' := [(0, .ref 0), (1, .int (nZ x1)), (2, .int (nZ x2)), (3, .int (nZ x3)), (4, .int (nZ r23)), (5, .int (nZ 1))]) (by intro q hq; simp only [List.mem_cons, List.not_mem_nil, or_false] at hq ⊢; rcases hq with rfl | rfl | rfl | rfl | rfl | rfl <;> simp) h
set_option maxRecDepth 10000 in
theorem v_X9_span_23 {C : aM → List Value → aH → aO → aH → Prop} {sc : Nat × (Nat → Int32)} {P : aO → aH → Prop} {σ : aH} {u : Nat}  {x1 : Int} {x2 : Int} {x3 : Int} (hG : G σ u) (rx1 : inR x1) (rx2 : inR x2) (rx3 : inR x3)
    (h : ((∃ (e9 : Nat) (σ1 : aH), C mX9_require [.ref 0, .int (nZ 0)] σ (.inr e9) σ1 ∧ P (.inr e9) σ1) ∨ (∃ σ1 : aH, C mX9_require [.ref 0, .int (nZ 0)] σ (.inl none) σ1 ∧ G σ1 u ∧ (∃ σ5 : aH, C mX6_reckonHours [.ref 27] σ1 (.inl none) σ5 ∧ G σ5 u ∧ (∃ (r13 : Int) (σ9 : aH), C mX2_cloudsDrawn [.ref u, .int (nZ x1)] σ5 (.inl (some (.int (nZ r13)))) σ9 ∧ G σ9 u ∧ inR r13 ∧ (∃ (r18 : Int) (σ14 : aH), C mX6_dueWithout [.ref 27, .int (nZ r13)] σ9 (.inl (some (.int (nZ r18)))) σ14 ∧ G σ14 u ∧ inR r18 ∧ L_X9_span_54 C sc P x1 x2 x3 r18 1 σ14)))))) :
    L_X9_span_23 C sc P x1 x2 x3 σ := by
  unfold L_X9_span_23
  refine w_iconst (v := nZ 0) dX9_span_23 (by decide) ?_
  rcases h with h | h
  · obtain ⟨e9, σ1, hc3, h⟩ := h
    exact w_throwV dX9_span_24 mp_9_69 ⟨ok_X9_require, vi_X9_require⟩ hs_X9_require (As := [.int (nZ 0)]) rfl rfl (gT hG rfl (lt_of rfl)) (Nat.le_of_ble_eq_true rfl) hc3 rfl h
  · obtain ⟨σ1, hc3, hG2, h⟩ := h
    refine w_callV dX9_span_24 ml_9_69 ⟨ok_X9_require, vi_X9_require⟩ hs_X9_require (As := [.int (nZ 0)]) rfl rfl (gT hG rfl (lt_of rfl)) (Nat.le_of_ble_eq_true rfl) hc3 ?_
    show wp C 9 cX9_span 7 (some .int) false [] sc P 27 [(0, .ref 0), (1, .int (nZ x1)), (2, .int (nZ x2)), (3, .int (nZ x3))] [] σ1
    refine w_aload_n dX9_span_27 rfl (List.Mem.head _) ?_
    refine w_getR (ci := 9) (k := 4) (b := 27) dX9_span_28 fl_9_41 (by decide) (gT hG2 rfl (lt_of rfl)) (gR hG2 (b := 27) rfl) ?_
    obtain ⟨σ5, hc7, hG6, h⟩ := h
    refine w_callV dX9_span_31 ml_9_278 ⟨ok_X6_reckonHours, vi_X6_reckonHours⟩ hs_X6_reckonHours (As := []) rfl rfl (gT hG2 rfl (lt_of rfl)) (Nat.le_of_ble_eq_true rfl) hc7 ?_
    show wp C 9 cX9_span 7 (some .int) false [] sc P 34 [(0, .ref 0), (1, .int (nZ x1)), (2, .int (nZ x2)), (3, .int (nZ x3))] [] σ5
    refine w_aload_n dX9_span_34 rfl (List.Mem.head _) ?_
    refine w_getR (ci := 9) (k := 4) (b := 27) dX9_span_35 fl_9_41 (by decide) (gT hG6 rfl (lt_of rfl)) (gR hG6 (b := 27) rfl) ?_
    refine w_aload_n dX9_span_38 rfl (List.Mem.head _) ?_
    refine w_getM (ci := 9) (k := 5) (b := u) dX9_span_39 fl_9_48 (by decide) (gT hG6 rfl (lt_of rfl)) hG6.2.2.1 ?_
    refine w_iload_n dX9_span_42 rfl (List.Mem.tail _ (List.Mem.head _)) ?_
    obtain ⟨r13, σ9, hc11, hG10, rr12, h⟩ := h
    refine w_callV dX9_span_43 ml_9_275 ⟨ok_X2_cloudsDrawn, vi_X2_cloudsDrawn⟩ hs_X2_cloudsDrawn (As := [.int (nZ x1)]) rfl rfl (gT hG6 (IsMk_t0 hG.2.2.2.2) (IsMk_lt hG.2.2.2.2 (k := 0) (by decide))) (Nat.le_of_ble_eq_true rfl) hc11 ?_
    show wp C 9 cX9_span 7 (some .int) false [] sc P 46 [(0, .ref 0), (1, .int (nZ x1)), (2, .int (nZ x2)), (3, .int (nZ x3))] [.int (nZ r13), .ref 27] σ9
    obtain ⟨r18, σ14, hc16, hG15, rr17, h⟩ := h
    refine w_callV dX9_span_46 ml_9_281 ⟨ok_X6_dueWithout, vi_X6_dueWithout⟩ hs_X6_dueWithout (As := [.int (nZ r13)]) rfl rfl (gT hG10 rfl (lt_of rfl)) (Nat.le_of_ble_eq_true rfl) hc16 ?_
    show wp C 9 cX9_span 7 (some .int) false [] sc P 49 [(0, .ref 0), (1, .int (nZ x1)), (2, .int (nZ x2)), (3, .int (nZ x3))] [.int (nZ r18)] σ14
    refine w_istore (l' := [(4, .int (nZ r18)), (0, .ref 0), (1, .int (nZ x1)), (2, .int (nZ x2)), (3, .int (nZ x3))]) dX9_span_49 (by decide) rfl ?_
    refine w_iconst (v := nZ 1) dX9_span_51 (by decide) ?_
    refine w_istore (l' := [(5, .int (nZ 1)), (4, .int (nZ r18)), (0, .ref 0), (1, .int (nZ x1)), (2, .int (nZ x2)), (3, .int (nZ x3))]) dX9_span_52 (by decide) rfl ?_
    exact w_weak (l' := [(0, .ref 0), (1, .int (nZ x1)), (2, .int (nZ x2)), (3, .int (nZ x3)), (4, .int (nZ r18)), (5, .int (nZ 1))]) (by intro q hq; simp only [List.mem_cons, List.not_mem_nil, or_false] at hq ⊢; rcases hq with rfl | rfl | rfl | rfl | rfl | rfl <;> simp) h
set_option maxRecDepth 10000 in
theorem v_X9_span_54 {C : aM → List Value → aH → aO → aH → Prop} {sc : Nat × (Nat → Int32)} {P : aO → aH → Prop} {σ : aH} {u : Nat}  {x1 : Int} {x2 : Int} {x3 : Int} {x4 : Int} {x5 : Int} (hG : G σ u) (rx1 : inR x1) (rx2 : inR x2) (rx3 : inR x3) (rx4 : inR x4) (rx5 : inR x5)
    (h : ((x2 ≤ x5 → P (.inl (some (.int (nZ x4)))) σ) ∧ (¬ (x2 ≤ x5) → (∃ (r5 : Int) (σ1 : aH), C mX2_cloudsDrawn [.ref u, .int (nZ (wr (x1 + x5)))] σ (.inl (some (.int (nZ r5)))) σ1 ∧ G σ1 u ∧ inR r5 ∧ (∃ (r10 : Int) (σ6 : aH), C mX6_dueWithout [.ref 27, .int (nZ r5)] σ1 (.inl (some (.int (nZ r10)))) σ6 ∧ G σ6 u ∧ inR r10 ∧ ((¬ x3 = 0 → (∀ z11 : Int, z11 = max x4 r10 → (inR (x5 + 1) ∧ L_X9_span_54 C sc P x1 x2 x3 z11 (x5 + 1) σ6))) ∧ (x3 = 0 → (∀ z15 : Int, z15 = min x4 r10 → (inR (x5 + 1) ∧ L_X9_span_54 C sc P x1 x2 x3 z15 (x5 + 1) σ6))))))))) :
    L_X9_span_54 C sc P x1 x2 x3 x4 x5 σ := by
  unfold L_X9_span_54
  refine w_iload dX9_span_54 (List.Mem.tail _ (List.Mem.tail _ (List.Mem.tail _ (List.Mem.tail _ (List.Mem.tail _ (List.Mem.head _)))))) ?_
  refine w_iload_n dX9_span_56 rfl (List.Mem.tail _ (List.Mem.tail _ (List.Mem.head _))) ?_
  refine i_cmp_ge (tgt := 109) dX9_span_57 rfl rx5 rx2 (fun c9 => ?_) (fun c9 => ?_)
  · replace h := h.1 c9
    refine w_iload dX9_span_109 (List.Mem.tail _ (List.Mem.tail _ (List.Mem.tail _ (List.Mem.tail _ (List.Mem.head _))))) ?_
    exact w_iret dX9_span_111 rfl h
  · replace h := h.2 c9
    refine w_aload_n dX9_span_60 rfl (List.Mem.head _) ?_
    refine w_getR (ci := 9) (k := 4) (b := 27) dX9_span_61 fl_9_41 (by decide) (gT hG rfl (lt_of rfl)) (gR hG (b := 27) rfl) ?_
    refine w_aload_n dX9_span_64 rfl (List.Mem.head _) ?_
    refine w_getM (ci := 9) (k := 5) (b := u) dX9_span_65 fl_9_48 (by decide) (gT hG rfl (lt_of rfl)) hG.2.2.1 ?_
    refine w_iload_n dX9_span_68 rfl (List.Mem.tail _ (List.Mem.head _)) ?_
    refine w_iload dX9_span_69 (List.Mem.tail _ (List.Mem.tail _ (List.Mem.tail _ (List.Mem.tail _ (List.Mem.tail _ (List.Mem.head _)))))) ?_
    refine i_addw dX9_span_71 ?_
    obtain ⟨r5, σ1, hc3, hG2, rr4, h⟩ := h
    refine w_callV dX9_span_72 ml_9_275 ⟨ok_X2_cloudsDrawn, vi_X2_cloudsDrawn⟩ hs_X2_cloudsDrawn (As := [.int (nZ (wr (x1 + x5)))]) rfl rfl (gT hG (IsMk_t0 hG.2.2.2.2) (IsMk_lt hG.2.2.2.2 (k := 0) (by decide))) (Nat.le_of_ble_eq_true rfl) hc3 ?_
    show wp C 9 cX9_span 7 (some .int) false [] sc P 75 [(0, .ref 0), (1, .int (nZ x1)), (2, .int (nZ x2)), (3, .int (nZ x3)), (4, .int (nZ x4)), (5, .int (nZ x5))] [.int (nZ r5), .ref 27] σ1
    obtain ⟨r10, σ6, hc8, hG7, rr9, h⟩ := h
    refine w_callV dX9_span_75 ml_9_281 ⟨ok_X6_dueWithout, vi_X6_dueWithout⟩ hs_X6_dueWithout (As := [.int (nZ r5)]) rfl rfl (gT hG2 rfl (lt_of rfl)) (Nat.le_of_ble_eq_true rfl) hc8 ?_
    show wp C 9 cX9_span 7 (some .int) false [] sc P 78 [(0, .ref 0), (1, .int (nZ x1)), (2, .int (nZ x2)), (3, .int (nZ x3)), (4, .int (nZ x4)), (5, .int (nZ x5))] [.int (nZ r10)] σ6
    refine w_istore (l' := [(6, .int (nZ r10)), (0, .ref 0), (1, .int (nZ x1)), (2, .int (nZ x2)), (3, .int (nZ x3)), (4, .int (nZ x4)), (5, .int (nZ x5))]) dX9_span_78 (by decide) rfl ?_
    refine w_iload_n dX9_span_80 rfl (List.Mem.tail _ (List.Mem.tail _ (List.Mem.tail _ (List.Mem.tail _ (List.Mem.head _))))) ?_
    refine i_if_ne (tgt := 94) dX9_span_81 rfl rx3 (fun c9 => ?_) (fun c9 => ?_)
    · replace h := h.1 c9
      refine w_iload dX9_span_94 (List.Mem.tail _ (List.Mem.tail _ (List.Mem.tail _ (List.Mem.tail _ (List.Mem.tail _ (List.Mem.head _)))))) ?_
      refine w_iload dX9_span_96 (List.Mem.head _) ?_
      refine i_mmax dX9_span_98 lk_9_289 (Nat.le_of_ble_eq_true rfl) rx4 rr9 (fun z11 ez12 rz13 => ?_)
      replace h := h z11 ez12
      refine w_istore (l' := [(4, .int (nZ z11)), (6, .int (nZ r10)), (0, .ref 0), (1, .int (nZ x1)), (2, .int (nZ x2)), (3, .int (nZ x3)), (5, .int (nZ x5))]) dX9_span_101 (by decide) rfl ?_
      obtain ⟨q14, h⟩ := h
      refine w_iinc (v := nZ (x5 + 1)) (l' := [(5, .int (nZ (x5 + 1))), (4, .int (nZ z11)), (6, .int (nZ r10)), (0, .ref 0), (1, .int (nZ x1)), (2, .int (nZ x2)), (3, .int (nZ x3))]) dX9_span_103 (List.Mem.tail _ (List.Mem.tail _ (List.Mem.tail _ (List.Mem.tail _ (List.Mem.tail _ (List.Mem.tail _ (List.Mem.head _))))))) (nZ_add _ _) (by decide) rfl ?_
      refine w_goto (tgt := 54) dX9_span_106 rfl ?_
      exact w_weak (l' := [(0, .ref 0), (1, .int (nZ x1)), (2, .int (nZ x2)), (3, .int (nZ x3)), (4, .int (nZ z11)), (5, .int (nZ (x5 + 1)))]) (by intro q hq; simp only [List.mem_cons, List.not_mem_nil, or_false] at hq ⊢; rcases hq with rfl | rfl | rfl | rfl | rfl | rfl <;> simp) h
    · replace h := h.2 c9
      refine w_iload dX9_span_84 (List.Mem.tail _ (List.Mem.tail _ (List.Mem.tail _ (List.Mem.tail _ (List.Mem.tail _ (List.Mem.head _)))))) ?_
      refine w_iload dX9_span_86 (List.Mem.head _) ?_
      refine i_mmin dX9_span_88 lk_9_284 (Nat.le_of_ble_eq_true rfl) rx4 rr9 (fun z15 ez16 rz17 => ?_)
      replace h := h z15 ez16
      refine w_goto (tgt := 101) dX9_span_91 rfl ?_
      refine w_istore (l' := [(4, .int (nZ z15)), (6, .int (nZ r10)), (0, .ref 0), (1, .int (nZ x1)), (2, .int (nZ x2)), (3, .int (nZ x3)), (5, .int (nZ x5))]) dX9_span_101 (by decide) rfl ?_
      obtain ⟨q18, h⟩ := h
      refine w_iinc (v := nZ (x5 + 1)) (l' := [(5, .int (nZ (x5 + 1))), (4, .int (nZ z15)), (6, .int (nZ r10)), (0, .ref 0), (1, .int (nZ x1)), (2, .int (nZ x2)), (3, .int (nZ x3))]) dX9_span_103 (List.Mem.tail _ (List.Mem.tail _ (List.Mem.tail _ (List.Mem.tail _ (List.Mem.tail _ (List.Mem.tail _ (List.Mem.head _))))))) (nZ_add _ _) (by decide) rfl ?_
      refine w_goto (tgt := 54) dX9_span_106 rfl ?_
      exact w_weak (l' := [(0, .ref 0), (1, .int (nZ x1)), (2, .int (nZ x2)), (3, .int (nZ x3)), (4, .int (nZ z15)), (5, .int (nZ (x5 + 1)))]) (by intro q hq; simp only [List.mem_cons, List.not_mem_nil, or_false] at hq ⊢; rcases hq with rfl | rfl | rfl | rfl | rfl | rfl <;> simp) h
theorem dX9_led_0 : decode cX9_led 0 = .ok (.aload_n 0, 1) := by decide +kernel
theorem dX9_led_1 : decode cX9_led 1 = .ok (.iload_n 1, 1) := by decide +kernel
theorem dX9_led_2 : decode cX9_led 2 = .ok (.iload_n 2, 1) := by decide +kernel
theorem dX9_led_3 : decode cX9_led 3 = .ok (.invokevirtual 151, 3) := by decide +kernel
theorem dX9_led_6 : decode cX9_led 6 = .ok (.aload_n 0, 1) := by decide +kernel
theorem dX9_led_7 : decode cX9_led 7 = .ok (.getfield 41, 3) := by decide +kernel
theorem dX9_led_10 : decode cX9_led 10 = .ok (.iload_n 1, 1) := by decide +kernel
theorem dX9_led_11 : decode cX9_led 11 = .ok (.iload_n 2, 1) := by decide +kernel
theorem dX9_led_12 : decode cX9_led 12 = .ok (.invokevirtual 292, 3) := by decide +kernel
theorem dX9_led_15 : decode cX9_led 15 = .ok (.ireturn, 1) := by decide +kernel
set_option maxRecDepth 10000 in
theorem t_X9_led {sc : Nat × (Nat → Int32)} {d : Nat} {Q : aO → aH → Prop} {σ : aH} {u : Nat}  {x1 : Int} {x2 : Int} (hG : G σ u) (rx1 : inR x1) (rx2 : inR x2)
    (h : ((∃ (e9 : Nat) (σ1 : aH), Ev sc d mX9_requireTwo [.ref 0, .int (nZ x1), .int (nZ x2)] σ (.inr e9) σ1 ∧ Q (.inr e9) σ1) ∨ (∃ σ1 : aH, Ev sc d mX9_requireTwo [.ref 0, .int (nZ x1), .int (nZ x2)] σ (.inl none) σ1 ∧ G σ1 u ∧ (∃ (r9 : Int) (σ5 : aH), Ev sc d mX6_ledTo [.ref 27, .int (nZ x1), .int (nZ x2)] σ1 (.inl (some (.int (nZ r9)))) σ5 ∧ G σ5 u ∧ inR r9 ∧ Q (.inl (some (.int (nZ r9)))) σ5)))) :
    T sc (d + 1) mX9_led [.ref 0, .int (nZ x1), .int (nZ x2)] σ Q := by
  refine T.of (c := 9) (code := cX9_led) (mL := 3) (rt := (some .int)) (ini := false) (l := [(0, .ref 0), (1, .int (nZ x1)), (2, .int (nZ x2))]) rfl rfl rfl rfl (by decide) hs_X9_led rfl rfl ?_
  refine w_aload_n dX9_led_0 rfl (List.Mem.head _) ?_
  refine w_iload_n dX9_led_1 rfl (List.Mem.tail _ (List.Mem.head _)) ?_
  refine w_iload_n dX9_led_2 rfl (List.Mem.tail _ (List.Mem.tail _ (List.Mem.head _))) ?_
  rcases h with h | h
  · obtain ⟨e9, σ1, hc3, h⟩ := h
    exact w_throwV dX9_led_3 mp_9_151 ⟨ok_X9_requireTwo, vi_X9_requireTwo⟩ hs_X9_requireTwo (As := [.int (nZ x1), .int (nZ x2)]) rfl rfl (gT hG rfl (lt_of rfl)) (Nat.le_of_ble_eq_true rfl) hc3 rfl h
  · obtain ⟨σ1, hc3, hG2, h⟩ := h
    refine w_callV dX9_led_3 ml_9_151 ⟨ok_X9_requireTwo, vi_X9_requireTwo⟩ hs_X9_requireTwo (As := [.int (nZ x1), .int (nZ x2)]) rfl rfl (gT hG rfl (lt_of rfl)) (Nat.le_of_ble_eq_true rfl) hc3 ?_
    show wp (Ev sc d) 9 cX9_led 3 (some .int) false [] sc Q 6 [(0, .ref 0), (1, .int (nZ x1)), (2, .int (nZ x2))] [] σ1
    refine w_aload_n dX9_led_6 rfl (List.Mem.head _) ?_
    refine w_getR (ci := 9) (k := 4) (b := 27) dX9_led_7 fl_9_41 (by decide) (gT hG2 rfl (lt_of rfl)) (gR hG2 (b := 27) rfl) ?_
    refine w_iload_n dX9_led_10 rfl (List.Mem.tail _ (List.Mem.head _)) ?_
    refine w_iload_n dX9_led_11 rfl (List.Mem.tail _ (List.Mem.tail _ (List.Mem.head _))) ?_
    obtain ⟨r9, σ5, hc7, hG6, rr8, h⟩ := h
    refine w_callV dX9_led_12 ml_9_292 ⟨ok_X6_ledTo, vi_X6_ledTo⟩ hs_X6_ledTo (As := [.int (nZ x1), .int (nZ x2)]) rfl rfl (gT hG2 rfl (lt_of rfl)) (Nat.le_of_ble_eq_true rfl) hc7 ?_
    show wp (Ev sc d) 9 cX9_led 3 (some .int) false [] sc Q 15 [(0, .ref 0), (1, .int (nZ x1)), (2, .int (nZ x2))] [.int (nZ r9)] σ5
    exact w_iret dX9_led_15 rfl h
theorem dX9_whose_0 : decode cX9_whose 0 = .ok (.aload_n 0, 1) := by decide +kernel
theorem dX9_whose_1 : decode cX9_whose 1 = .ok (.iload_n 1, 1) := by decide +kernel
theorem dX9_whose_2 : decode cX9_whose 2 = .ok (.invokevirtual 118, 3) := by decide +kernel
theorem dX9_whose_5 : decode cX9_whose 5 = .ok (.iconst 0, 1) := by decide +kernel
theorem dX9_whose_6 : decode cX9_whose 6 = .ok (.istore_n 2, 1) := by decide +kernel
theorem dX9_whose_7 : decode cX9_whose 7 = .ok (.iconst (-1), 1) := by decide +kernel
theorem dX9_whose_8 : decode cX9_whose 8 = .ok (.istore_n 3, 1) := by decide +kernel
theorem dX9_whose_9 : decode cX9_whose 9 = .ok (.iconst 0, 1) := by decide +kernel
theorem dX9_whose_10 : decode cX9_whose 10 = .ok (.istore 4, 2) := by decide +kernel
theorem dX9_whose_12 : decode cX9_whose 12 = .ok (.iload 4, 2) := by decide +kernel
theorem dX9_whose_14 : decode cX9_whose 14 = .ok (.aload_n 0, 1) := by decide +kernel
theorem dX9_whose_15 : decode cX9_whose 15 = .ok (.getfield 48, 3) := by decide +kernel
theorem dX9_whose_18 : decode cX9_whose 18 = .ok (.getfield 87, 3) := by decide +kernel
theorem dX9_whose_21 : decode cX9_whose 21 = .ok (.getfield 91, 3) := by decide +kernel
theorem dX9_whose_24 : decode cX9_whose 24 = .ok (.if_icmp .ge 43, 3) := by decide +kernel
theorem dX9_whose_27 : decode cX9_whose 27 = .ok (.iload 4, 2) := by decide +kernel
theorem dX9_whose_29 : decode cX9_whose 29 = .ok (.iload_n 1, 1) := by decide +kernel
theorem dX9_whose_30 : decode cX9_whose 30 = .ok (.if_icmp .ne 7, 3) := by decide +kernel
theorem dX9_whose_33 : decode cX9_whose 33 = .ok (.iconst 0, 1) := by decide +kernel
theorem dX9_whose_34 : decode cX9_whose 34 = .ok (.goto 13, 3) := by decide +kernel
theorem dX9_whose_37 : decode cX9_whose 37 = .ok (.aload_n 0, 1) := by decide +kernel
theorem dX9_whose_38 : decode cX9_whose 38 = .ok (.getfield 41, 3) := by decide +kernel
theorem dX9_whose_41 : decode cX9_whose 41 = .ok (.iload_n 1, 1) := by decide +kernel
theorem dX9_whose_42 : decode cX9_whose 42 = .ok (.iload 4, 2) := by decide +kernel
theorem dX9_whose_44 : decode cX9_whose 44 = .ok (.invokevirtual 292, 3) := by decide +kernel
theorem dX9_whose_47 : decode cX9_whose 47 = .ok (.istore 5, 2) := by decide +kernel
theorem dX9_whose_49 : decode cX9_whose 49 = .ok (.iload 5, 2) := by decide +kernel
theorem dX9_whose_51 : decode cX9_whose 51 = .ok (.iload_n 2, 1) := by decide +kernel
theorem dX9_whose_52 : decode cX9_whose 52 = .ok (.if_icmp .le 9, 3) := by decide +kernel
theorem dX9_whose_55 : decode cX9_whose 55 = .ok (.iload 5, 2) := by decide +kernel
theorem dX9_whose_57 : decode cX9_whose 57 = .ok (.istore_n 2, 1) := by decide +kernel
theorem dX9_whose_58 : decode cX9_whose 58 = .ok (.iload 4, 2) := by decide +kernel
theorem dX9_whose_60 : decode cX9_whose 60 = .ok (.istore_n 3, 1) := by decide +kernel
theorem dX9_whose_61 : decode cX9_whose 61 = .ok (.iinc 4 1, 3) := by decide +kernel
theorem dX9_whose_64 : decode cX9_whose 64 = .ok (.goto (-52), 3) := by decide +kernel
theorem dX9_whose_67 : decode cX9_whose 67 = .ok (.iload_n 3, 1) := by decide +kernel
theorem dX9_whose_68 : decode cX9_whose 68 = .ok (.ireturn, 1) := by decide +kernel
def L_X9_whose_12 (C : aM → List Value → aH → aO → aH → Prop) (sc : Nat × (Nat → Int32)) (P : aO → aH → Prop) (x1 : Int) (x2 : Int) (x3 : Int) (x4 : Int) (σ : aH) : Prop :=
    wp C 9 cX9_whose 6 (some .int) false [] sc P 12 [(0, .ref 0), (1, .int (nZ x1)), (2, .int (nZ x2)), (3, .int (nZ x3)), (4, .int (nZ x4))] [] σ
set_option maxRecDepth 10000 in
theorem t_X9_whose {sc : Nat × (Nat → Int32)} {d : Nat} {Q : aO → aH → Prop} {σ : aH} {u : Nat}  {x1 : Int} (hG : G σ u) (rx1 : inR x1)
    (h : ((∃ (e9 : Nat) (σ1 : aH), Ev sc d mX9_requireStall [.ref 0, .int (nZ x1)] σ (.inr e9) σ1 ∧ Q (.inr e9) σ1) ∨ (∃ σ1 : aH, Ev sc d mX9_requireStall [.ref 0, .int (nZ x1)] σ (.inl none) σ1 ∧ G σ1 u ∧ L_X9_whose_12 (Ev sc d) sc Q x1 0 (-1) 0 σ1))) :
    T sc (d + 1) mX9_whose [.ref 0, .int (nZ x1)] σ Q := by
  refine T.of (c := 9) (code := cX9_whose) (mL := 6) (rt := (some .int)) (ini := false) (l := [(0, .ref 0), (1, .int (nZ x1))]) rfl rfl rfl rfl (by decide) hs_X9_whose rfl rfl ?_
  refine w_aload_n dX9_whose_0 rfl (List.Mem.head _) ?_
  refine w_iload_n dX9_whose_1 rfl (List.Mem.tail _ (List.Mem.head _)) ?_
  rcases h with h | h
  · obtain ⟨e9, σ1, hc3, h⟩ := h
    exact w_throwV dX9_whose_2 mp_9_118 ⟨ok_X9_requireStall, vi_X9_requireStall⟩ hs_X9_requireStall (As := [.int (nZ x1)]) rfl rfl (gT hG rfl (lt_of rfl)) (Nat.le_of_ble_eq_true rfl) hc3 rfl h
  · obtain ⟨σ1, hc3, hG2, h⟩ := h
    refine w_callV dX9_whose_2 ml_9_118 ⟨ok_X9_requireStall, vi_X9_requireStall⟩ hs_X9_requireStall (As := [.int (nZ x1)]) rfl rfl (gT hG rfl (lt_of rfl)) (Nat.le_of_ble_eq_true rfl) hc3 ?_
    show wp (Ev sc d) 9 cX9_whose 6 (some .int) false [] sc Q 5 [(0, .ref 0), (1, .int (nZ x1))] [] σ1
    refine w_iconst (v := nZ 0) dX9_whose_5 (by decide) ?_
    refine w_istore_n (l' := [(2, .int (nZ 0)), (0, .ref 0), (1, .int (nZ x1))]) dX9_whose_6 rfl (by decide) rfl ?_
    refine w_iconst (v := nZ (-1)) dX9_whose_7 (by decide) ?_
    refine w_istore_n (l' := [(3, .int (nZ (-1))), (2, .int (nZ 0)), (0, .ref 0), (1, .int (nZ x1))]) dX9_whose_8 rfl (by decide) rfl ?_
    refine w_iconst (v := nZ 0) dX9_whose_9 (by decide) ?_
    refine w_istore (l' := [(4, .int (nZ 0)), (3, .int (nZ (-1))), (2, .int (nZ 0)), (0, .ref 0), (1, .int (nZ x1))]) dX9_whose_10 (by decide) rfl ?_
    exact w_weak (l' := [(0, .ref 0), (1, .int (nZ x1)), (2, .int (nZ 0)), (3, .int (nZ (-1))), (4, .int (nZ 0))]) (by intro q hq; simp only [List.mem_cons, List.not_mem_nil, or_false] at hq ⊢; rcases hq with rfl | rfl | rfl | rfl | rfl <;> simp) h
set_option maxRecDepth 10000 in
theorem v_X9_whose_12 {C : aM → List Value → aH → aO → aH → Prop} {sc : Nat × (Nat → Int32)} {P : aO → aH → Prop} {σ : aH} {u : Nat}  {x1 : Int} {x2 : Int} {x3 : Int} {x4 : Int} (hG : G σ u) (rx1 : inR x1) (rx2 : inR x2) (rx3 : inR x3) (rx4 : inR x4)
    (h : (((rI σ (u + 1) 8) ≤ x4 → P (.inl (some (.int (nZ x3)))) σ) ∧ (¬ ((rI σ (u + 1) 8) ≤ x4) → ((¬ x4 = x1 → (∃ (r5 : Int) (σ1 : aH), C mX6_ledTo [.ref 27, .int (nZ x1), .int (nZ x4)] σ (.inl (some (.int (nZ r5)))) σ1 ∧ G σ1 u ∧ inR r5 ∧ ((r5 ≤ x2 → (inR (x4 + 1) ∧ L_X9_whose_12 C sc P x1 x2 x3 (x4 + 1) σ1)) ∧ (¬ (r5 ≤ x2) → (inR (x4 + 1) ∧ L_X9_whose_12 C sc P x1 r5 x4 (x4 + 1) σ1))))) ∧ (x4 = x1 → ((0 ≤ x2 → (inR (x4 + 1) ∧ L_X9_whose_12 C sc P x1 x2 x3 (x4 + 1) σ)) ∧ (¬ (0 ≤ x2) → (inR (x4 + 1) ∧ L_X9_whose_12 C sc P x1 0 x4 (x4 + 1) σ)))))))) :
    L_X9_whose_12 C sc P x1 x2 x3 x4 σ := by
  unfold L_X9_whose_12
  refine w_iload dX9_whose_12 (List.Mem.tail _ (List.Mem.tail _ (List.Mem.tail _ (List.Mem.tail _ (List.Mem.head _))))) ?_
  refine w_aload_n dX9_whose_14 rfl (List.Mem.head _) ?_
  refine w_getM (ci := 9) (k := 5) (b := u) dX9_whose_15 fl_9_48 (by decide) (gT hG rfl (lt_of rfl)) hG.2.2.1 ?_
  refine w_getR (ci := 2) (k := 0) (b := (u + 1)) dX9_whose_18 fl_9_87 (by decide) (gT hG (IsMk_t0 hG.2.2.2.2) (IsMk_lt hG.2.2.2.2 (k := 0) (by decide))) (gR hG (IsMk_r0_0 hG.2.2.2.2)) ?_
  refine i_getI (ci := 7) 8 rfl dX9_whose_21 fl_9_91 (by decide) (gT hG (IsMk_t1 hG.2.2.2.2) (IsMk_lt hG.2.2.2.2 (k := 1) (by decide))) ?_
  refine i_cmp_ge (tgt := 67) dX9_whose_24 rfl rx4 (rI_R _ _ _) (fun c9 => ?_) (fun c9 => ?_)
  · replace h := h.1 c9
    refine w_iload_n dX9_whose_67 rfl (List.Mem.tail _ (List.Mem.tail _ (List.Mem.tail _ (List.Mem.head _)))) ?_
    exact w_iret dX9_whose_68 rfl h
  · replace h := h.2 c9
    refine w_iload dX9_whose_27 (List.Mem.tail _ (List.Mem.tail _ (List.Mem.tail _ (List.Mem.tail _ (List.Mem.head _))))) ?_
    refine w_iload_n dX9_whose_29 rfl (List.Mem.tail _ (List.Mem.head _)) ?_
    refine i_cmp_ne (tgt := 37) dX9_whose_30 rfl rx4 rx1 (fun c9 => ?_) (fun c9 => ?_)
    · replace h := h.1 c9
      refine w_aload_n dX9_whose_37 rfl (List.Mem.head _) ?_
      refine w_getR (ci := 9) (k := 4) (b := 27) dX9_whose_38 fl_9_41 (by decide) (gT hG rfl (lt_of rfl)) (gR hG (b := 27) rfl) ?_
      refine w_iload_n dX9_whose_41 rfl (List.Mem.tail _ (List.Mem.head _)) ?_
      refine w_iload dX9_whose_42 (List.Mem.tail _ (List.Mem.tail _ (List.Mem.tail _ (List.Mem.tail _ (List.Mem.head _))))) ?_
      obtain ⟨r5, σ1, hc3, hG2, rr4, h⟩ := h
      refine w_callV dX9_whose_44 ml_9_292 ⟨ok_X6_ledTo, vi_X6_ledTo⟩ hs_X6_ledTo (As := [.int (nZ x1), .int (nZ x4)]) rfl rfl (gT hG rfl (lt_of rfl)) (Nat.le_of_ble_eq_true rfl) hc3 ?_
      show wp C 9 cX9_whose 6 (some .int) false [] sc P 47 [(0, .ref 0), (1, .int (nZ x1)), (2, .int (nZ x2)), (3, .int (nZ x3)), (4, .int (nZ x4))] [.int (nZ r5)] σ1
      refine w_istore (l' := [(5, .int (nZ r5)), (0, .ref 0), (1, .int (nZ x1)), (2, .int (nZ x2)), (3, .int (nZ x3)), (4, .int (nZ x4))]) dX9_whose_47 (by decide) rfl ?_
      refine w_iload dX9_whose_49 (List.Mem.head _) ?_
      refine w_iload_n dX9_whose_51 rfl (List.Mem.tail _ (List.Mem.tail _ (List.Mem.tail _ (List.Mem.head _)))) ?_
      refine i_cmp_le (tgt := 61) dX9_whose_52 rfl rr4 rx2 (fun c9 => ?_) (fun c9 => ?_)
      · replace h := h.1 c9
        obtain ⟨q6, h⟩ := h
        refine w_iinc (v := nZ (x4 + 1)) (l' := [(4, .int (nZ (x4 + 1))), (5, .int (nZ r5)), (0, .ref 0), (1, .int (nZ x1)), (2, .int (nZ x2)), (3, .int (nZ x3))]) dX9_whose_61 (List.Mem.tail _ (List.Mem.tail _ (List.Mem.tail _ (List.Mem.tail _ (List.Mem.tail _ (List.Mem.head _)))))) (nZ_add _ _) (by decide) rfl ?_
        refine w_goto (tgt := 12) dX9_whose_64 rfl ?_
        exact w_weak (l' := [(0, .ref 0), (1, .int (nZ x1)), (2, .int (nZ x2)), (3, .int (nZ x3)), (4, .int (nZ (x4 + 1)))]) (by intro q hq; simp only [List.mem_cons, List.not_mem_nil, or_false] at hq ⊢; rcases hq with rfl | rfl | rfl | rfl | rfl <;> simp) h
      · replace h := h.2 c9
        refine w_iload dX9_whose_55 (List.Mem.head _) ?_
        refine w_istore_n (l' := [(2, .int (nZ r5)), (5, .int (nZ r5)), (0, .ref 0), (1, .int (nZ x1)), (3, .int (nZ x3)), (4, .int (nZ x4))]) dX9_whose_57 rfl (by decide) rfl ?_
        refine w_iload dX9_whose_58 (List.Mem.tail _ (List.Mem.tail _ (List.Mem.tail _ (List.Mem.tail _ (List.Mem.tail _ (List.Mem.head _)))))) ?_
        refine w_istore_n (l' := [(3, .int (nZ x4)), (2, .int (nZ r5)), (5, .int (nZ r5)), (0, .ref 0), (1, .int (nZ x1)), (4, .int (nZ x4))]) dX9_whose_60 rfl (by decide) rfl ?_
        obtain ⟨q7, h⟩ := h
        refine w_iinc (v := nZ (x4 + 1)) (l' := [(4, .int (nZ (x4 + 1))), (3, .int (nZ x4)), (2, .int (nZ r5)), (5, .int (nZ r5)), (0, .ref 0), (1, .int (nZ x1))]) dX9_whose_61 (List.Mem.tail _ (List.Mem.tail _ (List.Mem.tail _ (List.Mem.tail _ (List.Mem.tail _ (List.Mem.head _)))))) (nZ_add _ _) (by decide) rfl ?_
        refine w_goto (tgt := 12) dX9_whose_64 rfl ?_
        exact w_weak (l' := [(0, .ref 0), (1, .int (nZ x1)), (2, .int (nZ r5)), (3, .int (nZ x4)), (4, .int (nZ (x4 + 1)))]) (by intro q hq; simp only [List.mem_cons, List.not_mem_nil, or_false] at hq ⊢; rcases hq with rfl | rfl | rfl | rfl | rfl <;> simp) h
    · replace h := h.2 c9
      refine w_iconst (v := nZ 0) dX9_whose_33 (by decide) ?_
      refine w_goto (tgt := 47) dX9_whose_34 rfl ?_
      refine w_istore (l' := [(5, .int (nZ 0)), (0, .ref 0), (1, .int (nZ x1)), (2, .int (nZ x2)), (3, .int (nZ x3)), (4, .int (nZ x4))]) dX9_whose_47 (by decide) rfl ?_
      refine w_iload dX9_whose_49 (List.Mem.head _) ?_
      refine w_iload_n dX9_whose_51 rfl (List.Mem.tail _ (List.Mem.tail _ (List.Mem.tail _ (List.Mem.head _)))) ?_
      refine i_cmp_le (tgt := 61) dX9_whose_52 rfl (by decide) rx2 (fun c9 => ?_) (fun c9 => ?_)
      · replace h := h.1 c9
        obtain ⟨q8, h⟩ := h
        refine w_iinc (v := nZ (x4 + 1)) (l' := [(4, .int (nZ (x4 + 1))), (5, .int (nZ 0)), (0, .ref 0), (1, .int (nZ x1)), (2, .int (nZ x2)), (3, .int (nZ x3))]) dX9_whose_61 (List.Mem.tail _ (List.Mem.tail _ (List.Mem.tail _ (List.Mem.tail _ (List.Mem.tail _ (List.Mem.head _)))))) (nZ_add _ _) (by decide) rfl ?_
        refine w_goto (tgt := 12) dX9_whose_64 rfl ?_
        exact w_weak (l' := [(0, .ref 0), (1, .int (nZ x1)), (2, .int (nZ x2)), (3, .int (nZ x3)), (4, .int (nZ (x4 + 1)))]) (by intro q hq; simp only [List.mem_cons, List.not_mem_nil, or_false] at hq ⊢; rcases hq with rfl | rfl | rfl | rfl | rfl <;> simp) h
      · replace h := h.2 c9
        refine w_iload dX9_whose_55 (List.Mem.head _) ?_
        refine w_istore_n (l' := [(2, .int (nZ 0)), (5, .int (nZ 0)), (0, .ref 0), (1, .int (nZ x1)), (3, .int (nZ x3)), (4, .int (nZ x4))]) dX9_whose_57 rfl (by decide) rfl ?_
        refine w_iload dX9_whose_58 (List.Mem.tail _ (List.Mem.tail _ (List.Mem.tail _ (List.Mem.tail _ (List.Mem.tail _ (List.Mem.head _)))))) ?_
        refine w_istore_n (l' := [(3, .int (nZ x4)), (2, .int (nZ 0)), (5, .int (nZ 0)), (0, .ref 0), (1, .int (nZ x1)), (4, .int (nZ x4))]) dX9_whose_60 rfl (by decide) rfl ?_
        obtain ⟨q9, h⟩ := h
        refine w_iinc (v := nZ (x4 + 1)) (l' := [(4, .int (nZ (x4 + 1))), (3, .int (nZ x4)), (2, .int (nZ 0)), (5, .int (nZ 0)), (0, .ref 0), (1, .int (nZ x1))]) dX9_whose_61 (List.Mem.tail _ (List.Mem.tail _ (List.Mem.tail _ (List.Mem.tail _ (List.Mem.tail _ (List.Mem.head _)))))) (nZ_add _ _) (by decide) rfl ?_
        refine w_goto (tgt := 12) dX9_whose_64 rfl ?_
        exact w_weak (l' := [(0, .ref 0), (1, .int (nZ x1)), (2, .int (nZ 0)), (3, .int (nZ x4)), (4, .int (nZ (x4 + 1)))]) (by intro q hq; simp only [List.mem_cons, List.not_mem_nil, or_false] at hq ⊢; rcases hq with rfl | rfl | rfl | rfl | rfl <;> simp) h
theorem dX9_harmless_0 : decode cX9_harmless 0 = .ok (.aload_n 0, 1) := by decide +kernel
theorem dX9_harmless_1 : decode cX9_harmless 1 = .ok (.iload_n 1, 1) := by decide +kernel
theorem dX9_harmless_2 : decode cX9_harmless 2 = .ok (.invokevirtual 118, 3) := by decide +kernel
theorem dX9_harmless_5 : decode cX9_harmless 5 = .ok (.aload_n 0, 1) := by decide +kernel
theorem dX9_harmless_6 : decode cX9_harmless 6 = .ok (.getfield 33, 3) := by decide +kernel
theorem dX9_harmless_9 : decode cX9_harmless 9 = .ok (.iload_n 1, 1) := by decide +kernel
theorem dX9_harmless_10 : decode cX9_harmless 10 = .ok (.invokevirtual 295, 3) := by decide +kernel
theorem dX9_harmless_13 : decode cX9_harmless 13 = .ok (.ireturn, 1) := by decide +kernel
set_option maxRecDepth 10000 in
theorem t_X9_harmless {sc : Nat × (Nat → Int32)} {d : Nat} {Q : aO → aH → Prop} {σ : aH} {u : Nat}  {x1 : Int} (hG : G σ u) (rx1 : inR x1)
    (h : ((∃ (e9 : Nat) (σ1 : aH), Ev sc d mX9_requireStall [.ref 0, .int (nZ x1)] σ (.inr e9) σ1 ∧ Q (.inr e9) σ1) ∨ (∃ σ1 : aH, Ev sc d mX9_requireStall [.ref 0, .int (nZ x1)] σ (.inl none) σ1 ∧ G σ1 u ∧ (∃ (r9 : Int) (σ5 : aH), Ev sc d mX4_greatestHarmless [.ref 26, .int (nZ x1)] σ1 (.inl (some (.int (nZ r9)))) σ5 ∧ G σ5 u ∧ inR r9 ∧ Q (.inl (some (.int (nZ r9)))) σ5)))) :
    T sc (d + 1) mX9_harmless [.ref 0, .int (nZ x1)] σ Q := by
  refine T.of (c := 9) (code := cX9_harmless) (mL := 2) (rt := (some .int)) (ini := false) (l := [(0, .ref 0), (1, .int (nZ x1))]) rfl rfl rfl rfl (by decide) hs_X9_harmless rfl rfl ?_
  refine w_aload_n dX9_harmless_0 rfl (List.Mem.head _) ?_
  refine w_iload_n dX9_harmless_1 rfl (List.Mem.tail _ (List.Mem.head _)) ?_
  rcases h with h | h
  · obtain ⟨e9, σ1, hc3, h⟩ := h
    exact w_throwV dX9_harmless_2 mp_9_118 ⟨ok_X9_requireStall, vi_X9_requireStall⟩ hs_X9_requireStall (As := [.int (nZ x1)]) rfl rfl (gT hG rfl (lt_of rfl)) (Nat.le_of_ble_eq_true rfl) hc3 rfl h
  · obtain ⟨σ1, hc3, hG2, h⟩ := h
    refine w_callV dX9_harmless_2 ml_9_118 ⟨ok_X9_requireStall, vi_X9_requireStall⟩ hs_X9_requireStall (As := [.int (nZ x1)]) rfl rfl (gT hG rfl (lt_of rfl)) (Nat.le_of_ble_eq_true rfl) hc3 ?_
    show wp (Ev sc d) 9 cX9_harmless 2 (some .int) false [] sc Q 5 [(0, .ref 0), (1, .int (nZ x1))] [] σ1
    refine w_aload_n dX9_harmless_5 rfl (List.Mem.head _) ?_
    refine w_getR (ci := 9) (k := 3) (b := 26) dX9_harmless_6 fl_9_33 (by decide) (gT hG2 rfl (lt_of rfl)) (gR hG2 (b := 26) rfl) ?_
    refine w_iload_n dX9_harmless_9 rfl (List.Mem.tail _ (List.Mem.head _)) ?_
    obtain ⟨r9, σ5, hc7, hG6, rr8, h⟩ := h
    refine w_callV dX9_harmless_10 ml_9_295 ⟨ok_X4_greatestHarmless, vi_X4_greatestHarmless⟩ hs_X4_greatestHarmless (As := [.int (nZ x1)]) rfl rfl (gT hG2 rfl (lt_of rfl)) (Nat.le_of_ble_eq_true rfl) hc7 ?_
    show wp (Ev sc d) 9 cX9_harmless 2 (some .int) false [] sc Q 13 [(0, .ref 0), (1, .int (nZ x1))] [.int (nZ r9)] σ5
    exact w_iret dX9_harmless_13 rfl h
theorem dX9_folded_0 : decode cX9_folded 0 = .ok (.aload_n 0, 1) := by decide +kernel
theorem dX9_folded_1 : decode cX9_folded 1 = .ok (.iload_n 1, 1) := by decide +kernel
theorem dX9_folded_2 : decode cX9_folded 2 = .ok (.invokestatic 269, 3) := by decide +kernel
theorem dX9_folded_5 : decode cX9_folded 5 = .ok (.invokevirtual 69, 3) := by decide +kernel
theorem dX9_folded_8 : decode cX9_folded 8 = .ok (.aload_n 0, 1) := by decide +kernel
theorem dX9_folded_9 : decode cX9_folded 9 = .ok (.getfield 41, 3) := by decide +kernel
theorem dX9_folded_12 : decode cX9_folded 12 = .ok (.iload_n 1, 1) := by decide +kernel
theorem dX9_folded_13 : decode cX9_folded 13 = .ok (.invokevirtual 298, 3) := by decide +kernel
theorem dX9_folded_16 : decode cX9_folded 16 = .ok (.ireturn, 1) := by decide +kernel
set_option maxRecDepth 10000 in
theorem t_X9_folded {sc : Nat × (Nat → Int32)} {d : Nat} {Q : aO → aH → Prop} {σ : aH} {u : Nat}  {x1 : Int} (hG : G σ u) (rx1 : inR x1)
    (h : (∃ (r5 : Int) (σ1 : aH), Ev sc d mX9_isDue [.int (nZ x1)] σ (.inl (some (.int (nZ r5)))) σ1 ∧ G σ1 u ∧ inR r5 ∧ ((∃ (e9 : Nat) (σ6 : aH), Ev sc d mX9_require [.ref 0, .int (nZ r5)] σ1 (.inr e9) σ6 ∧ Q (.inr e9) σ6) ∨ (∃ σ6 : aH, Ev sc d mX9_require [.ref 0, .int (nZ r5)] σ1 (.inl none) σ6 ∧ G σ6 u ∧ (∃ (r14 : Int) (σ10 : aH), Ev sc d mX6_latestFold [.ref 27, .int (nZ x1)] σ6 (.inl (some (.int (nZ r14)))) σ10 ∧ G σ10 u ∧ inR r14 ∧ Q (.inl (some (.int (nZ r14)))) σ10))))) :
    T sc (d + 1) mX9_folded [.ref 0, .int (nZ x1)] σ Q := by
  refine T.of (c := 9) (code := cX9_folded) (mL := 2) (rt := (some .int)) (ini := false) (l := [(0, .ref 0), (1, .int (nZ x1))]) rfl rfl rfl rfl (by decide) hs_X9_folded rfl rfl ?_
  refine w_aload_n dX9_folded_0 rfl (List.Mem.head _) ?_
  refine w_iload_n dX9_folded_1 rfl (List.Mem.tail _ (List.Mem.head _)) ?_
  obtain ⟨r5, σ1, hc3, hG2, rr4, h⟩ := h
  refine w_callS dX9_folded_2 ml_9_269 ⟨ok_X9_isDue, st_X9_isDue⟩ hs_X9_isDue (As := [.int (nZ x1)]) rfl rfl (Nat.le_of_ble_eq_true rfl) hc3 ?_
  show wp (Ev sc d) 9 cX9_folded 2 (some .int) false [] sc Q 5 [(0, .ref 0), (1, .int (nZ x1))] [.int (nZ r5), .ref 0] σ1
  rcases h with h | h
  · obtain ⟨e9, σ6, hc8, h⟩ := h
    exact w_throwV dX9_folded_5 mp_9_69 ⟨ok_X9_require, vi_X9_require⟩ hs_X9_require (As := [.int (nZ r5)]) rfl rfl (gT hG2 rfl (lt_of rfl)) (Nat.le_of_ble_eq_true rfl) hc8 rfl h
  · obtain ⟨σ6, hc8, hG7, h⟩ := h
    refine w_callV dX9_folded_5 ml_9_69 ⟨ok_X9_require, vi_X9_require⟩ hs_X9_require (As := [.int (nZ r5)]) rfl rfl (gT hG2 rfl (lt_of rfl)) (Nat.le_of_ble_eq_true rfl) hc8 ?_
    show wp (Ev sc d) 9 cX9_folded 2 (some .int) false [] sc Q 8 [(0, .ref 0), (1, .int (nZ x1))] [] σ6
    refine w_aload_n dX9_folded_8 rfl (List.Mem.head _) ?_
    refine w_getR (ci := 9) (k := 4) (b := 27) dX9_folded_9 fl_9_41 (by decide) (gT hG7 rfl (lt_of rfl)) (gR hG7 (b := 27) rfl) ?_
    refine w_iload_n dX9_folded_12 rfl (List.Mem.tail _ (List.Mem.head _)) ?_
    obtain ⟨r14, σ10, hc12, hG11, rr13, h⟩ := h
    refine w_callV dX9_folded_13 ml_9_298 ⟨ok_X6_latestFold, vi_X6_latestFold⟩ hs_X6_latestFold (As := [.int (nZ x1)]) rfl rfl (gT hG7 rfl (lt_of rfl)) (Nat.le_of_ble_eq_true rfl) hc12 ?_
    show wp (Ev sc d) 9 cX9_folded 2 (some .int) false [] sc Q 16 [(0, .ref 0), (1, .int (nZ x1))] [.int (nZ r14)] σ10
    exact w_iret dX9_folded_16 rfl h
theorem dX9_awned_0 : decode cX9_awned 0 = .ok (.aload_n 0, 1) := by decide +kernel
theorem dX9_awned_1 : decode cX9_awned 1 = .ok (.iload_n 1, 1) := by decide +kernel
theorem dX9_awned_2 : decode cX9_awned 2 = .ok (.invokevirtual 118, 3) := by decide +kernel
theorem dX9_awned_5 : decode cX9_awned 5 = .ok (.aload_n 0, 1) := by decide +kernel
theorem dX9_awned_6 : decode cX9_awned 6 = .ok (.iload_n 2, 1) := by decide +kernel
theorem dX9_awned_7 : decode cX9_awned 7 = .ok (.invokestatic 210, 3) := by decide +kernel
theorem dX9_awned_10 : decode cX9_awned 10 = .ok (.invokevirtual 69, 3) := by decide +kernel
theorem dX9_awned_13 : decode cX9_awned 13 = .ok (.aload_n 0, 1) := by decide +kernel
theorem dX9_awned_14 : decode cX9_awned 14 = .ok (.getfield 33, 3) := by decide +kernel
theorem dX9_awned_17 : decode cX9_awned 17 = .ok (.iload_n 1, 1) := by decide +kernel
theorem dX9_awned_18 : decode cX9_awned 18 = .ok (.invokevirtual 301, 3) := by decide +kernel
theorem dX9_awned_21 : decode cX9_awned 21 = .ok (.iload_n 2, 1) := by decide +kernel
theorem dX9_awned_22 : decode cX9_awned 22 = .ok (.ifCond .ne 13, 3) := by decide +kernel
theorem dX9_awned_25 : decode cX9_awned 25 = .ok (.aload_n 0, 1) := by decide +kernel
theorem dX9_awned_26 : decode cX9_awned 26 = .ok (.getfield 33, 3) := by decide +kernel
theorem dX9_awned_29 : decode cX9_awned 29 = .ok (.getfield 304, 3) := by decide +kernel
theorem dX9_awned_32 : decode cX9_awned 32 = .ok (.goto 10, 3) := by decide +kernel
theorem dX9_awned_35 : decode cX9_awned 35 = .ok (.aload_n 0, 1) := by decide +kernel
theorem dX9_awned_36 : decode cX9_awned 36 = .ok (.getfield 33, 3) := by decide +kernel
theorem dX9_awned_39 : decode cX9_awned 39 = .ok (.getfield 307, 3) := by decide +kernel
theorem dX9_awned_42 : decode cX9_awned 42 = .ok (.ireturn, 1) := by decide +kernel
set_option maxRecDepth 10000 in
theorem t_X9_awned {sc : Nat × (Nat → Int32)} {d : Nat} {Q : aO → aH → Prop} {σ : aH} {u : Nat}  {x1 : Int} {x2 : Int} (hG : G σ u) (rx1 : inR x1) (rx2 : inR x2)
    (h : ((∃ (e9 : Nat) (σ1 : aH), Ev sc d mX9_requireStall [.ref 0, .int (nZ x1)] σ (.inr e9) σ1 ∧ Q (.inr e9) σ1) ∨ (∃ σ1 : aH, Ev sc d mX9_requireStall [.ref 0, .int (nZ x1)] σ (.inl none) σ1 ∧ G σ1 u ∧ (∃ (r9 : Int) (σ5 : aH), Ev sc d mX9_isBit [.int (nZ x2)] σ1 (.inl (some (.int (nZ r9)))) σ5 ∧ G σ5 u ∧ inR r9 ∧ ((∃ (e9 : Nat) (σ10 : aH), Ev sc d mX9_require [.ref 0, .int (nZ r9)] σ5 (.inr e9) σ10 ∧ Q (.inr e9) σ10) ∨ (∃ σ10 : aH, Ev sc d mX9_require [.ref 0, .int (nZ r9)] σ5 (.inl none) σ10 ∧ G σ10 u ∧ (∃ σ14 : aH, Ev sc d mX4_tryAwnings [.ref 26, .int (nZ x1)] σ10 (.inl none) σ14 ∧ G σ14 u ∧ ((¬ x2 = 0 → Q (.inl (some (.int (nZ (rI σ14 26 9))))) σ14) ∧ (x2 = 0 → Q (.inl (some (.int (nZ (rI σ14 26 8))))) σ14))))))))) :
    T sc (d + 1) mX9_awned [.ref 0, .int (nZ x1), .int (nZ x2)] σ Q := by
  refine T.of (c := 9) (code := cX9_awned) (mL := 3) (rt := (some .int)) (ini := false) (l := [(0, .ref 0), (1, .int (nZ x1)), (2, .int (nZ x2))]) rfl rfl rfl rfl (by decide) hs_X9_awned rfl rfl ?_
  refine w_aload_n dX9_awned_0 rfl (List.Mem.head _) ?_
  refine w_iload_n dX9_awned_1 rfl (List.Mem.tail _ (List.Mem.head _)) ?_
  rcases h with h | h
  · obtain ⟨e9, σ1, hc3, h⟩ := h
    exact w_throwV dX9_awned_2 mp_9_118 ⟨ok_X9_requireStall, vi_X9_requireStall⟩ hs_X9_requireStall (As := [.int (nZ x1)]) rfl rfl (gT hG rfl (lt_of rfl)) (Nat.le_of_ble_eq_true rfl) hc3 rfl h
  · obtain ⟨σ1, hc3, hG2, h⟩ := h
    refine w_callV dX9_awned_2 ml_9_118 ⟨ok_X9_requireStall, vi_X9_requireStall⟩ hs_X9_requireStall (As := [.int (nZ x1)]) rfl rfl (gT hG rfl (lt_of rfl)) (Nat.le_of_ble_eq_true rfl) hc3 ?_
    show wp (Ev sc d) 9 cX9_awned 3 (some .int) false [] sc Q 5 [(0, .ref 0), (1, .int (nZ x1)), (2, .int (nZ x2))] [] σ1
    refine w_aload_n dX9_awned_5 rfl (List.Mem.head _) ?_
    refine w_iload_n dX9_awned_6 rfl (List.Mem.tail _ (List.Mem.tail _ (List.Mem.head _))) ?_
    obtain ⟨r9, σ5, hc7, hG6, rr8, h⟩ := h
    refine w_callS dX9_awned_7 ml_9_210 ⟨ok_X9_isBit, st_X9_isBit⟩ hs_X9_isBit (As := [.int (nZ x2)]) rfl rfl (Nat.le_of_ble_eq_true rfl) hc7 ?_
    show wp (Ev sc d) 9 cX9_awned 3 (some .int) false [] sc Q 10 [(0, .ref 0), (1, .int (nZ x1)), (2, .int (nZ x2))] [.int (nZ r9), .ref 0] σ5
    rcases h with h | h
    · obtain ⟨e9, σ10, hc12, h⟩ := h
      exact w_throwV dX9_awned_10 mp_9_69 ⟨ok_X9_require, vi_X9_require⟩ hs_X9_require (As := [.int (nZ r9)]) rfl rfl (gT hG6 rfl (lt_of rfl)) (Nat.le_of_ble_eq_true rfl) hc12 rfl h
    · obtain ⟨σ10, hc12, hG11, h⟩ := h
      refine w_callV dX9_awned_10 ml_9_69 ⟨ok_X9_require, vi_X9_require⟩ hs_X9_require (As := [.int (nZ r9)]) rfl rfl (gT hG6 rfl (lt_of rfl)) (Nat.le_of_ble_eq_true rfl) hc12 ?_
      show wp (Ev sc d) 9 cX9_awned 3 (some .int) false [] sc Q 13 [(0, .ref 0), (1, .int (nZ x1)), (2, .int (nZ x2))] [] σ10
      refine w_aload_n dX9_awned_13 rfl (List.Mem.head _) ?_
      refine w_getR (ci := 9) (k := 3) (b := 26) dX9_awned_14 fl_9_33 (by decide) (gT hG11 rfl (lt_of rfl)) (gR hG11 (b := 26) rfl) ?_
      refine w_iload_n dX9_awned_17 rfl (List.Mem.tail _ (List.Mem.head _)) ?_
      obtain ⟨σ14, hc16, hG15, h⟩ := h
      refine w_callV dX9_awned_18 ml_9_301 ⟨ok_X4_tryAwnings, vi_X4_tryAwnings⟩ hs_X4_tryAwnings (As := [.int (nZ x1)]) rfl rfl (gT hG11 rfl (lt_of rfl)) (Nat.le_of_ble_eq_true rfl) hc16 ?_
      show wp (Ev sc d) 9 cX9_awned 3 (some .int) false [] sc Q 21 [(0, .ref 0), (1, .int (nZ x1)), (2, .int (nZ x2))] [] σ14
      refine w_iload_n dX9_awned_21 rfl (List.Mem.tail _ (List.Mem.tail _ (List.Mem.head _))) ?_
      refine i_if_ne (tgt := 35) dX9_awned_22 rfl rx2 (fun c9 => ?_) (fun c9 => ?_)
      · replace h := h.1 c9
        refine w_aload_n dX9_awned_35 rfl (List.Mem.head _) ?_
        refine w_getR (ci := 9) (k := 3) (b := 26) dX9_awned_36 fl_9_33 (by decide) (gT hG15 rfl (lt_of rfl)) (gR hG15 (b := 26) rfl) ?_
        refine i_getI (ci := 4) 9 rfl dX9_awned_39 fl_9_307 (by decide) (gT hG15 rfl (lt_of rfl)) ?_
        exact w_iret dX9_awned_42 rfl h
      · replace h := h.2 c9
        refine w_aload_n dX9_awned_25 rfl (List.Mem.head _) ?_
        refine w_getR (ci := 9) (k := 3) (b := 26) dX9_awned_26 fl_9_33 (by decide) (gT hG15 rfl (lt_of rfl)) (gR hG15 (b := 26) rfl) ?_
        refine i_getI (ci := 4) 8 rfl dX9_awned_29 fl_9_304 (by decide) (gT hG15 rfl (lt_of rfl)) ?_
        refine w_goto (tgt := 42) dX9_awned_32 rfl ?_
        exact w_iret dX9_awned_42 rfl h
theorem dX9_lights_0 : decode cX9_lights 0 = .ok (.aload_n 0, 1) := by decide +kernel
theorem dX9_lights_1 : decode cX9_lights 1 = .ok (.getfield 41, 3) := by decide +kernel
theorem dX9_lights_4 : decode cX9_lights 4 = .ok (.invokevirtual 310, 3) := by decide +kernel
theorem dX9_lights_7 : decode cX9_lights 7 = .ok (.ireturn, 1) := by decide +kernel
set_option maxRecDepth 10000 in
theorem t_X9_lights {sc : Nat × (Nat → Int32)} {d : Nat} {Q : aO → aH → Prop} {σ : aH} {u : Nat}   (hG : G σ u) 
    (h : (∃ (r5 : Int) (σ1 : aH), Ev sc d mX6_dueByLanterns [.ref 27] σ (.inl (some (.int (nZ r5)))) σ1 ∧ G σ1 u ∧ inR r5 ∧ Q (.inl (some (.int (nZ r5)))) σ1)) :
    T sc (d + 1) mX9_lights [.ref 0] σ Q := by
  refine T.of (c := 9) (code := cX9_lights) (mL := 1) (rt := (some .int)) (ini := false) (l := [(0, .ref 0)]) rfl rfl rfl rfl (by decide) hs_X9_lights rfl rfl ?_
  refine w_aload_n dX9_lights_0 rfl (List.Mem.head _) ?_
  refine w_getR (ci := 9) (k := 4) (b := 27) dX9_lights_1 fl_9_41 (by decide) (gT hG rfl (lt_of rfl)) (gR hG (b := 27) rfl) ?_
  obtain ⟨r5, σ1, hc3, hG2, rr4, h⟩ := h
  refine w_callV dX9_lights_4 ml_9_310 ⟨ok_X6_dueByLanterns, vi_X6_dueByLanterns⟩ hs_X6_dueByLanterns (As := []) rfl rfl (gT hG rfl (lt_of rfl)) (Nat.le_of_ble_eq_true rfl) hc3 ?_
  show wp (Ev sc d) 9 cX9_lights 1 (some .int) false [] sc Q 7 [(0, .ref 0)] [.int (nZ r5)] σ1
  exact w_iret dX9_lights_7 rfl h
theorem dX9_hour_0 : decode cX9_hour 0 = .ok (.aload_n 0, 1) := by decide +kernel
theorem dX9_hour_1 : decode cX9_hour 1 = .ok (.iload_n 1, 1) := by decide +kernel
theorem dX9_hour_2 : decode cX9_hour 2 = .ok (.invokestatic 210, 3) := by decide +kernel
theorem dX9_hour_5 : decode cX9_hour 5 = .ok (.invokevirtual 69, 3) := by decide +kernel
theorem dX9_hour_8 : decode cX9_hour 8 = .ok (.aload_n 0, 1) := by decide +kernel
theorem dX9_hour_9 : decode cX9_hour 9 = .ok (.getfield 41, 3) := by decide +kernel
theorem dX9_hour_12 : decode cX9_hour 12 = .ok (.invokevirtual 278, 3) := by decide +kernel
theorem dX9_hour_15 : decode cX9_hour 15 = .ok (.iconst 0, 1) := by decide +kernel
theorem dX9_hour_16 : decode cX9_hour 16 = .ok (.istore_n 2, 1) := by decide +kernel
theorem dX9_hour_17 : decode cX9_hour 17 = .ok (.iconst 1, 1) := by decide +kernel
theorem dX9_hour_18 : decode cX9_hour 18 = .ok (.istore_n 3, 1) := by decide +kernel
theorem dX9_hour_19 : decode cX9_hour 19 = .ok (.iload_n 3, 1) := by decide +kernel
theorem dX9_hour_20 : decode cX9_hour 20 = .ok (.bipush 24, 2) := by decide +kernel
theorem dX9_hour_22 : decode cX9_hour 22 = .ok (.if_icmp .ge 32, 3) := by decide +kernel
theorem dX9_hour_25 : decode cX9_hour 25 = .ok (.aload_n 0, 1) := by decide +kernel
theorem dX9_hour_26 : decode cX9_hour 26 = .ok (.getfield 41, 3) := by decide +kernel
theorem dX9_hour_29 : decode cX9_hour 29 = .ok (.getfield 313, 3) := by decide +kernel
theorem dX9_hour_32 : decode cX9_hour 32 = .ok (.iload_n 3, 1) := by decide +kernel
theorem dX9_hour_33 : decode cX9_hour 33 = .ok (.iaload, 1) := by decide +kernel
theorem dX9_hour_34 : decode cX9_hour 34 = .ok (.aload_n 0, 1) := by decide +kernel
theorem dX9_hour_35 : decode cX9_hour 35 = .ok (.getfield 41, 3) := by decide +kernel
theorem dX9_hour_38 : decode cX9_hour 38 = .ok (.getfield 313, 3) := by decide +kernel
theorem dX9_hour_41 : decode cX9_hour 41 = .ok (.iload_n 2, 1) := by decide +kernel
theorem dX9_hour_42 : decode cX9_hour 42 = .ok (.iaload, 1) := by decide +kernel
theorem dX9_hour_43 : decode cX9_hour 43 = .ok (.if_icmp .le 5, 3) := by decide +kernel
theorem dX9_hour_46 : decode cX9_hour 46 = .ok (.iload_n 3, 1) := by decide +kernel
theorem dX9_hour_47 : decode cX9_hour 47 = .ok (.istore_n 2, 1) := by decide +kernel
theorem dX9_hour_48 : decode cX9_hour 48 = .ok (.iinc 3 1, 3) := by decide +kernel
theorem dX9_hour_51 : decode cX9_hour 51 = .ok (.goto (-32), 3) := by decide +kernel
theorem dX9_hour_54 : decode cX9_hour 54 = .ok (.iload_n 1, 1) := by decide +kernel
theorem dX9_hour_55 : decode cX9_hour 55 = .ok (.ifCond .ne 7, 3) := by decide +kernel
theorem dX9_hour_58 : decode cX9_hour 58 = .ok (.iload_n 2, 1) := by decide +kernel
theorem dX9_hour_59 : decode cX9_hour 59 = .ok (.goto 12, 3) := by decide +kernel
theorem dX9_hour_62 : decode cX9_hour 62 = .ok (.aload_n 0, 1) := by decide +kernel
theorem dX9_hour_63 : decode cX9_hour 63 = .ok (.getfield 41, 3) := by decide +kernel
theorem dX9_hour_66 : decode cX9_hour 66 = .ok (.getfield 313, 3) := by decide +kernel
theorem dX9_hour_69 : decode cX9_hour 69 = .ok (.iload_n 2, 1) := by decide +kernel
theorem dX9_hour_70 : decode cX9_hour 70 = .ok (.iaload, 1) := by decide +kernel
theorem dX9_hour_71 : decode cX9_hour 71 = .ok (.ireturn, 1) := by decide +kernel
def L_X9_hour_19 (C : aM → List Value → aH → aO → aH → Prop) (sc : Nat × (Nat → Int32)) (P : aO → aH → Prop) (x1 : Int) (x2 : Int) (x3 : Int) (σ : aH) : Prop :=
    wp C 9 cX9_hour 4 (some .int) false [] sc P 19 [(0, .ref 0), (1, .int (nZ x1)), (2, .int (nZ x2)), (3, .int (nZ x3))] [] σ
set_option maxRecDepth 10000 in
theorem t_X9_hour {sc : Nat × (Nat → Int32)} {d : Nat} {Q : aO → aH → Prop} {σ : aH} {u : Nat}  {x1 : Int} (hG : G σ u) (rx1 : inR x1)
    (h : (∃ (r5 : Int) (σ1 : aH), Ev sc d mX9_isBit [.int (nZ x1)] σ (.inl (some (.int (nZ r5)))) σ1 ∧ G σ1 u ∧ inR r5 ∧ ((∃ (e9 : Nat) (σ6 : aH), Ev sc d mX9_require [.ref 0, .int (nZ r5)] σ1 (.inr e9) σ6 ∧ Q (.inr e9) σ6) ∨ (∃ σ6 : aH, Ev sc d mX9_require [.ref 0, .int (nZ r5)] σ1 (.inl none) σ6 ∧ G σ6 u ∧ (∃ σ10 : aH, Ev sc d mX6_reckonHours [.ref 27] σ6 (.inl none) σ10 ∧ G σ10 u ∧ L_X9_hour_19 (Ev sc d) sc Q x1 0 1 σ10))))) :
    T sc (d + 1) mX9_hour [.ref 0, .int (nZ x1)] σ Q := by
  refine T.of (c := 9) (code := cX9_hour) (mL := 4) (rt := (some .int)) (ini := false) (l := [(0, .ref 0), (1, .int (nZ x1))]) rfl rfl rfl rfl (by decide) hs_X9_hour rfl rfl ?_
  refine w_aload_n dX9_hour_0 rfl (List.Mem.head _) ?_
  refine w_iload_n dX9_hour_1 rfl (List.Mem.tail _ (List.Mem.head _)) ?_
  obtain ⟨r5, σ1, hc3, hG2, rr4, h⟩ := h
  refine w_callS dX9_hour_2 ml_9_210 ⟨ok_X9_isBit, st_X9_isBit⟩ hs_X9_isBit (As := [.int (nZ x1)]) rfl rfl (Nat.le_of_ble_eq_true rfl) hc3 ?_
  show wp (Ev sc d) 9 cX9_hour 4 (some .int) false [] sc Q 5 [(0, .ref 0), (1, .int (nZ x1))] [.int (nZ r5), .ref 0] σ1
  rcases h with h | h
  · obtain ⟨e9, σ6, hc8, h⟩ := h
    exact w_throwV dX9_hour_5 mp_9_69 ⟨ok_X9_require, vi_X9_require⟩ hs_X9_require (As := [.int (nZ r5)]) rfl rfl (gT hG2 rfl (lt_of rfl)) (Nat.le_of_ble_eq_true rfl) hc8 rfl h
  · obtain ⟨σ6, hc8, hG7, h⟩ := h
    refine w_callV dX9_hour_5 ml_9_69 ⟨ok_X9_require, vi_X9_require⟩ hs_X9_require (As := [.int (nZ r5)]) rfl rfl (gT hG2 rfl (lt_of rfl)) (Nat.le_of_ble_eq_true rfl) hc8 ?_
    show wp (Ev sc d) 9 cX9_hour 4 (some .int) false [] sc Q 8 [(0, .ref 0), (1, .int (nZ x1))] [] σ6
    refine w_aload_n dX9_hour_8 rfl (List.Mem.head _) ?_
    refine w_getR (ci := 9) (k := 4) (b := 27) dX9_hour_9 fl_9_41 (by decide) (gT hG7 rfl (lt_of rfl)) (gR hG7 (b := 27) rfl) ?_
    obtain ⟨σ10, hc12, hG11, h⟩ := h
    refine w_callV dX9_hour_12 ml_9_278 ⟨ok_X6_reckonHours, vi_X6_reckonHours⟩ hs_X6_reckonHours (As := []) rfl rfl (gT hG7 rfl (lt_of rfl)) (Nat.le_of_ble_eq_true rfl) hc12 ?_
    show wp (Ev sc d) 9 cX9_hour 4 (some .int) false [] sc Q 15 [(0, .ref 0), (1, .int (nZ x1))] [] σ10
    refine w_iconst (v := nZ 0) dX9_hour_15 (by decide) ?_
    refine w_istore_n (l' := [(2, .int (nZ 0)), (0, .ref 0), (1, .int (nZ x1))]) dX9_hour_16 rfl (by decide) rfl ?_
    refine w_iconst (v := nZ 1) dX9_hour_17 (by decide) ?_
    refine w_istore_n (l' := [(3, .int (nZ 1)), (2, .int (nZ 0)), (0, .ref 0), (1, .int (nZ x1))]) dX9_hour_18 rfl (by decide) rfl ?_
    exact w_weak (l' := [(0, .ref 0), (1, .int (nZ x1)), (2, .int (nZ 0)), (3, .int (nZ 1))]) (by intro q hq; simp only [List.mem_cons, List.not_mem_nil, or_false] at hq ⊢; rcases hq with rfl | rfl | rfl | rfl <;> simp) h
set_option maxRecDepth 10000 in
theorem v_X9_hour_19 {C : aM → List Value → aH → aO → aH → Prop} {sc : Nat × (Nat → Int32)} {P : aO → aH → Prop} {σ : aH} {u : Nat}  {x1 : Int} {x2 : Int} {x3 : Int} (hG : G σ u) (rx1 : inR x1) (rx2 : inR x2) (rx3 : inR x3)
    (h : ((24 ≤ x3 → ((¬ x1 = 0 → ((0 ≤ x2 ∧ x2 < 24) ∧ P (.inl (some (.int (nZ (rI σ 38 x2))))) σ)) ∧ (x1 = 0 → P (.inl (some (.int (nZ x2)))) σ))) ∧ (¬ (24 ≤ x3) → ((0 ≤ x3 ∧ x3 < 24) ∧ ((0 ≤ x2 ∧ x2 < 24) ∧ (((rI σ 38 x3) ≤ (rI σ 38 x2) → (inR (x3 + 1) ∧ L_X9_hour_19 C sc P x1 x2 (x3 + 1) σ)) ∧ (¬ ((rI σ 38 x3) ≤ (rI σ 38 x2)) → (inR (x3 + 1) ∧ L_X9_hour_19 C sc P x1 x3 (x3 + 1) σ)))))))) :
    L_X9_hour_19 C sc P x1 x2 x3 σ := by
  unfold L_X9_hour_19
  refine w_iload_n dX9_hour_19 rfl (List.Mem.tail _ (List.Mem.tail _ (List.Mem.tail _ (List.Mem.head _)))) ?_
  refine w_bipush (v := nZ 24) dX9_hour_20 (by decide) ?_
  refine i_cmp_ge (tgt := 54) dX9_hour_22 rfl rx3 (by decide) (fun c9 => ?_) (fun c9 => ?_)
  · replace h := h.1 c9
    refine w_iload_n dX9_hour_54 rfl (List.Mem.tail _ (List.Mem.head _)) ?_
    refine i_if_ne (tgt := 62) dX9_hour_55 rfl rx1 (fun c9 => ?_) (fun c9 => ?_)
    · replace h := h.1 c9
      refine w_aload_n dX9_hour_62 rfl (List.Mem.head _) ?_
      refine w_getR (ci := 9) (k := 4) (b := 27) dX9_hour_63 fl_9_41 (by decide) (gT hG rfl (lt_of rfl)) (gR hG (b := 27) rfl) ?_
      refine w_getR (ci := 6) (k := 4) (b := 38) dX9_hour_66 fl_9_313 (by decide) (gT hG rfl (lt_of rfl)) (gR hG (b := 38) rfl) ?_
      refine w_iload_n dX9_hour_69 rfl (List.Mem.tail _ (List.Mem.tail _ (List.Mem.head _))) ?_
      obtain ⟨h9, h⟩ := h
      refine i_iald (n := 24) dX9_hour_70 (gT hG rfl (lt_of rfl)) (gL hG rfl) rx2 h9 ?_
      exact w_iret dX9_hour_71 rfl h
    · replace h := h.2 c9
      refine w_iload_n dX9_hour_58 rfl (List.Mem.tail _ (List.Mem.tail _ (List.Mem.head _))) ?_
      refine w_goto (tgt := 71) dX9_hour_59 rfl ?_
      exact w_iret dX9_hour_71 rfl h
  · replace h := h.2 c9
    refine w_aload_n dX9_hour_25 rfl (List.Mem.head _) ?_
    refine w_getR (ci := 9) (k := 4) (b := 27) dX9_hour_26 fl_9_41 (by decide) (gT hG rfl (lt_of rfl)) (gR hG (b := 27) rfl) ?_
    refine w_getR (ci := 6) (k := 4) (b := 38) dX9_hour_29 fl_9_313 (by decide) (gT hG rfl (lt_of rfl)) (gR hG (b := 38) rfl) ?_
    refine w_iload_n dX9_hour_32 rfl (List.Mem.tail _ (List.Mem.tail _ (List.Mem.tail _ (List.Mem.head _)))) ?_
    obtain ⟨h9, h⟩ := h
    refine i_iald (n := 24) dX9_hour_33 (gT hG rfl (lt_of rfl)) (gL hG rfl) rx3 h9 ?_
    refine w_aload_n dX9_hour_34 rfl (List.Mem.head _) ?_
    refine w_getR (ci := 9) (k := 4) (b := 27) dX9_hour_35 fl_9_41 (by decide) (gT hG rfl (lt_of rfl)) (gR hG (b := 27) rfl) ?_
    refine w_getR (ci := 6) (k := 4) (b := 38) dX9_hour_38 fl_9_313 (by decide) (gT hG rfl (lt_of rfl)) (gR hG (b := 38) rfl) ?_
    refine w_iload_n dX9_hour_41 rfl (List.Mem.tail _ (List.Mem.tail _ (List.Mem.head _))) ?_
    obtain ⟨h9, h⟩ := h
    refine i_iald (n := 24) dX9_hour_42 (gT hG rfl (lt_of rfl)) (gL hG rfl) rx2 h9 ?_
    refine i_cmp_le (tgt := 48) dX9_hour_43 rfl (rI_R _ _ _) (rI_R _ _ _) (fun c9 => ?_) (fun c9 => ?_)
    · replace h := h.1 c9
      obtain ⟨q1, h⟩ := h
      refine w_iinc (v := nZ (x3 + 1)) (l' := [(3, .int (nZ (x3 + 1))), (0, .ref 0), (1, .int (nZ x1)), (2, .int (nZ x2))]) dX9_hour_48 (List.Mem.tail _ (List.Mem.tail _ (List.Mem.tail _ (List.Mem.head _)))) (nZ_add _ _) (by decide) rfl ?_
      refine w_goto (tgt := 19) dX9_hour_51 rfl ?_
      exact w_weak (l' := [(0, .ref 0), (1, .int (nZ x1)), (2, .int (nZ x2)), (3, .int (nZ (x3 + 1)))]) (by intro q hq; simp only [List.mem_cons, List.not_mem_nil, or_false] at hq ⊢; rcases hq with rfl | rfl | rfl | rfl <;> simp) h
    · replace h := h.2 c9
      refine w_iload_n dX9_hour_46 rfl (List.Mem.tail _ (List.Mem.tail _ (List.Mem.tail _ (List.Mem.head _)))) ?_
      refine w_istore_n (l' := [(2, .int (nZ x3)), (0, .ref 0), (1, .int (nZ x1)), (3, .int (nZ x3))]) dX9_hour_47 rfl (by decide) rfl ?_
      obtain ⟨q2, h⟩ := h
      refine w_iinc (v := nZ (x3 + 1)) (l' := [(3, .int (nZ (x3 + 1))), (2, .int (nZ x3)), (0, .ref 0), (1, .int (nZ x1))]) dX9_hour_48 (List.Mem.tail _ (List.Mem.tail _ (List.Mem.tail _ (List.Mem.head _)))) (nZ_add _ _) (by decide) rfl ?_
      refine w_goto (tgt := 19) dX9_hour_51 rfl ?_
      exact w_weak (l' := [(0, .ref 0), (1, .int (nZ x1)), (2, .int (nZ x3)), (3, .int (nZ (x3 + 1)))]) (by intro q hq; simp only [List.mem_cons, List.not_mem_nil, or_false] at hq ⊢; rcases hq with rfl | rfl | rfl | rfl <;> simp) h
theorem dX9_improved_0 : decode cX9_improved 0 = .ok (.aload_n 0, 1) := by decide +kernel
theorem dX9_improved_1 : decode cX9_improved 1 = .ok (.iload_n 1, 1) := by decide +kernel
theorem dX9_improved_2 : decode cX9_improved 2 = .ok (.invokestatic 210, 3) := by decide +kernel
theorem dX9_improved_5 : decode cX9_improved 5 = .ok (.invokevirtual 69, 3) := by decide +kernel
theorem dX9_improved_8 : decode cX9_improved 8 = .ok (.aload_n 0, 1) := by decide +kernel
theorem dX9_improved_9 : decode cX9_improved 9 = .ok (.getfield 33, 3) := by decide +kernel
theorem dX9_improved_12 : decode cX9_improved 12 = .ok (.invokevirtual 316, 3) := by decide +kernel
theorem dX9_improved_15 : decode cX9_improved 15 = .ok (.istore_n 2, 1) := by decide +kernel
theorem dX9_improved_16 : decode cX9_improved 16 = .ok (.iload_n 1, 1) := by decide +kernel
theorem dX9_improved_17 : decode cX9_improved 17 = .ok (.ifCond .ne 7, 3) := by decide +kernel
theorem dX9_improved_20 : decode cX9_improved 20 = .ok (.iload_n 2, 1) := by decide +kernel
theorem dX9_improved_21 : decode cX9_improved 21 = .ok (.goto 10, 3) := by decide +kernel
theorem dX9_improved_24 : decode cX9_improved 24 = .ok (.aload_n 0, 1) := by decide +kernel
theorem dX9_improved_25 : decode cX9_improved 25 = .ok (.getfield 33, 3) := by decide +kernel
theorem dX9_improved_28 : decode cX9_improved 28 = .ok (.getfield 234, 3) := by decide +kernel
theorem dX9_improved_31 : decode cX9_improved 31 = .ok (.ireturn, 1) := by decide +kernel
set_option maxRecDepth 10000 in
theorem t_X9_improved {sc : Nat × (Nat → Int32)} {d : Nat} {Q : aO → aH → Prop} {σ : aH} {u : Nat}  {x1 : Int} (hG : G σ u) (rx1 : inR x1)
    (h : (∃ (r5 : Int) (σ1 : aH), Ev sc d mX9_isBit [.int (nZ x1)] σ (.inl (some (.int (nZ r5)))) σ1 ∧ G σ1 u ∧ inR r5 ∧ ((∃ (e9 : Nat) (σ6 : aH), Ev sc d mX9_require [.ref 0, .int (nZ r5)] σ1 (.inr e9) σ6 ∧ Q (.inr e9) σ6) ∨ (∃ σ6 : aH, Ev sc d mX9_require [.ref 0, .int (nZ r5)] σ1 (.inl none) σ6 ∧ G σ6 u ∧ (∃ (r14 : Int) (σ10 : aH), Ev sc d mX4_exchangeOn [.ref 26] σ6 (.inl (some (.int (nZ r14)))) σ10 ∧ G σ10 u ∧ inR r14 ∧ ((¬ x1 = 0 → Q (.inl (some (.int (nZ (rI σ10 26 6))))) σ10) ∧ (x1 = 0 → Q (.inl (some (.int (nZ r14)))) σ10))))))) :
    T sc (d + 1) mX9_improved [.ref 0, .int (nZ x1)] σ Q := by
  refine T.of (c := 9) (code := cX9_improved) (mL := 3) (rt := (some .int)) (ini := false) (l := [(0, .ref 0), (1, .int (nZ x1))]) rfl rfl rfl rfl (by decide) hs_X9_improved rfl rfl ?_
  refine w_aload_n dX9_improved_0 rfl (List.Mem.head _) ?_
  refine w_iload_n dX9_improved_1 rfl (List.Mem.tail _ (List.Mem.head _)) ?_
  obtain ⟨r5, σ1, hc3, hG2, rr4, h⟩ := h
  refine w_callS dX9_improved_2 ml_9_210 ⟨ok_X9_isBit, st_X9_isBit⟩ hs_X9_isBit (As := [.int (nZ x1)]) rfl rfl (Nat.le_of_ble_eq_true rfl) hc3 ?_
  show wp (Ev sc d) 9 cX9_improved 3 (some .int) false [] sc Q 5 [(0, .ref 0), (1, .int (nZ x1))] [.int (nZ r5), .ref 0] σ1
  rcases h with h | h
  · obtain ⟨e9, σ6, hc8, h⟩ := h
    exact w_throwV dX9_improved_5 mp_9_69 ⟨ok_X9_require, vi_X9_require⟩ hs_X9_require (As := [.int (nZ r5)]) rfl rfl (gT hG2 rfl (lt_of rfl)) (Nat.le_of_ble_eq_true rfl) hc8 rfl h
  · obtain ⟨σ6, hc8, hG7, h⟩ := h
    refine w_callV dX9_improved_5 ml_9_69 ⟨ok_X9_require, vi_X9_require⟩ hs_X9_require (As := [.int (nZ r5)]) rfl rfl (gT hG2 rfl (lt_of rfl)) (Nat.le_of_ble_eq_true rfl) hc8 ?_
    show wp (Ev sc d) 9 cX9_improved 3 (some .int) false [] sc Q 8 [(0, .ref 0), (1, .int (nZ x1))] [] σ6
    refine w_aload_n dX9_improved_8 rfl (List.Mem.head _) ?_
    refine w_getR (ci := 9) (k := 3) (b := 26) dX9_improved_9 fl_9_33 (by decide) (gT hG7 rfl (lt_of rfl)) (gR hG7 (b := 26) rfl) ?_
    obtain ⟨r14, σ10, hc12, hG11, rr13, h⟩ := h
    refine w_callV dX9_improved_12 ml_9_316 ⟨ok_X4_exchangeOn, vi_X4_exchangeOn⟩ hs_X4_exchangeOn (As := []) rfl rfl (gT hG7 rfl (lt_of rfl)) (Nat.le_of_ble_eq_true rfl) hc12 ?_
    show wp (Ev sc d) 9 cX9_improved 3 (some .int) false [] sc Q 15 [(0, .ref 0), (1, .int (nZ x1))] [.int (nZ r14)] σ10
    refine w_istore_n (l' := [(2, .int (nZ r14)), (0, .ref 0), (1, .int (nZ x1))]) dX9_improved_15 rfl (by decide) rfl ?_
    refine w_iload_n dX9_improved_16 rfl (List.Mem.tail _ (List.Mem.tail _ (List.Mem.head _))) ?_
    refine i_if_ne (tgt := 24) dX9_improved_17 rfl rx1 (fun c9 => ?_) (fun c9 => ?_)
    · replace h := h.1 c9
      refine w_aload_n dX9_improved_24 rfl (List.Mem.tail _ (List.Mem.head _)) ?_
      refine w_getR (ci := 9) (k := 3) (b := 26) dX9_improved_25 fl_9_33 (by decide) (gT hG11 rfl (lt_of rfl)) (gR hG11 (b := 26) rfl) ?_
      refine i_getI (ci := 4) 6 rfl dX9_improved_28 fl_9_234 (by decide) (gT hG11 rfl (lt_of rfl)) ?_
      exact w_iret dX9_improved_31 rfl h
    · replace h := h.2 c9
      refine w_iload_n dX9_improved_20 rfl (List.Mem.head _) ?_
      refine w_goto (tgt := 31) dX9_improved_21 rfl ?_
      exact w_iret dX9_improved_31 rfl h
theorem dX9_out_0 : decode cX9_out 0 = .ok (.aload_n 0, 1) := by decide +kernel
theorem dX9_out_1 : decode cX9_out 1 = .ok (.iload_n 1, 1) := by decide +kernel
theorem dX9_out_2 : decode cX9_out 2 = .ok (.invokevirtual 118, 3) := by decide +kernel
theorem dX9_out_5 : decode cX9_out 5 = .ok (.aload_n 0, 1) := by decide +kernel
theorem dX9_out_6 : decode cX9_out 6 = .ok (.getfield 48, 3) := by decide +kernel
theorem dX9_out_9 : decode cX9_out 9 = .ok (.getfield 87, 3) := by decide +kernel
theorem dX9_out_12 : decode cX9_out 12 = .ok (.iload_n 1, 1) := by decide +kernel
theorem dX9_out_13 : decode cX9_out 13 = .ok (.putfield 319, 3) := by decide +kernel
theorem dX9_out_16 : decode cX9_out 16 = .ok (.aload_n 0, 1) := by decide +kernel
theorem dX9_out_17 : decode cX9_out 17 = .ok (.getfield 41, 3) := by decide +kernel
theorem dX9_out_20 : decode cX9_out 20 = .ok (.aload_n 0, 1) := by decide +kernel
theorem dX9_out_21 : decode cX9_out 21 = .ok (.getfield 41, 3) := by decide +kernel
theorem dX9_out_24 : decode cX9_out 24 = .ok (.getfield 200, 3) := by decide +kernel
theorem dX9_out_27 : decode cX9_out 27 = .ok (.ldc 203, 2) := by decide +kernel
theorem dX9_out_29 : decode cX9_out 29 = .ok (.invokevirtual 204, 3) := by decide +kernel
theorem dX9_out_32 : decode cX9_out 32 = .ok (.istore_n 2, 1) := by decide +kernel
theorem dX9_out_33 : decode cX9_out 33 = .ok (.aload_n 0, 1) := by decide +kernel
theorem dX9_out_34 : decode cX9_out 34 = .ok (.getfield 48, 3) := by decide +kernel
theorem dX9_out_37 : decode cX9_out 37 = .ok (.getfield 87, 3) := by decide +kernel
theorem dX9_out_40 : decode cX9_out 40 = .ok (.iconst (-1), 1) := by decide +kernel
theorem dX9_out_41 : decode cX9_out 41 = .ok (.putfield 319, 3) := by decide +kernel
theorem dX9_out_44 : decode cX9_out 44 = .ok (.iload_n 2, 1) := by decide +kernel
theorem dX9_out_45 : decode cX9_out 45 = .ok (.ireturn, 1) := by decide +kernel
set_option maxRecDepth 10000 in
theorem t_X9_out {sc : Nat × (Nat → Int32)} {d : Nat} {Q : aO → aH → Prop} {σ : aH} {u : Nat}  {x1 : Int} (hG : G σ u) (rx1 : inR x1)
    (h : ((∃ (e9 : Nat) (σ1 : aH), Ev sc d mX9_requireStall [.ref 0, .int (nZ x1)] σ (.inr e9) σ1 ∧ Q (.inr e9) σ1) ∨ (∃ σ1 : aH, Ev sc d mX9_requireStall [.ref 0, .int (nZ x1)] σ (.inl none) σ1 ∧ G σ1 u ∧ (∀ σ5 : aH, wI σ1 (u + 1) 9 x1 = σ5 → (∃ (r12 : Int) (σ8 : aH), Ev sc d mX6_total [.ref 27, .ref 28, .int (nZ 1000000000)] σ5 (.inl (some (.int (nZ r12)))) σ8 ∧ G σ8 u ∧ inR r12 ∧ (∀ σ13 : aH, wI σ8 (u + 1) 9 (-1) = σ13 → Q (.inl (some (.int (nZ r12)))) σ13)))))) :
    T sc (d + 1) mX9_out [.ref 0, .int (nZ x1)] σ Q := by
  refine T.of (c := 9) (code := cX9_out) (mL := 3) (rt := (some .int)) (ini := false) (l := [(0, .ref 0), (1, .int (nZ x1))]) rfl rfl rfl rfl (by decide) hs_X9_out rfl rfl ?_
  refine w_aload_n dX9_out_0 rfl (List.Mem.head _) ?_
  refine w_iload_n dX9_out_1 rfl (List.Mem.tail _ (List.Mem.head _)) ?_
  rcases h with h | h
  · obtain ⟨e9, σ1, hc3, h⟩ := h
    exact w_throwV dX9_out_2 mp_9_118 ⟨ok_X9_requireStall, vi_X9_requireStall⟩ hs_X9_requireStall (As := [.int (nZ x1)]) rfl rfl (gT hG rfl (lt_of rfl)) (Nat.le_of_ble_eq_true rfl) hc3 rfl h
  · obtain ⟨σ1, hc3, hG2, h⟩ := h
    refine w_callV dX9_out_2 ml_9_118 ⟨ok_X9_requireStall, vi_X9_requireStall⟩ hs_X9_requireStall (As := [.int (nZ x1)]) rfl rfl (gT hG rfl (lt_of rfl)) (Nat.le_of_ble_eq_true rfl) hc3 ?_
    show wp (Ev sc d) 9 cX9_out 3 (some .int) false [] sc Q 5 [(0, .ref 0), (1, .int (nZ x1))] [] σ1
    refine w_aload_n dX9_out_5 rfl (List.Mem.head _) ?_
    refine w_getM (ci := 9) (k := 5) (b := u) dX9_out_6 fl_9_48 (by decide) (gT hG2 rfl (lt_of rfl)) hG2.2.2.1 ?_
    refine w_getR (ci := 2) (k := 0) (b := (u + 1)) dX9_out_9 fl_9_87 (by decide) (gT hG2 (IsMk_t0 hG.2.2.2.2) (IsMk_lt hG.2.2.2.2 (k := 0) (by decide))) (gR hG2 (IsMk_r0_0 hG.2.2.2.2)) ?_
    refine w_iload_n dX9_out_12 rfl (List.Mem.tail _ (List.Mem.head _)) ?_
    refine i_putI (ci := 7) 9 rfl dX9_out_13 fl_9_319 (by decide) (gT hG2 (IsMk_t1 hG.2.2.2.2) (IsMk_lt hG.2.2.2.2 (k := 1) (by decide))) (fun σ5 eσ6 => ?_)
    replace h := h σ5 eσ6
    have hG7 : G σ5 u := eσ6 ▸ G.wI hG2
    refine w_aload_n dX9_out_16 rfl (List.Mem.head _) ?_
    refine w_getR (ci := 9) (k := 4) (b := 27) dX9_out_17 fl_9_41 (by decide) (gT hG7 rfl (lt_of rfl)) (gR hG7 (b := 27) rfl) ?_
    refine w_aload_n dX9_out_20 rfl (List.Mem.head _) ?_
    refine w_getR (ci := 9) (k := 4) (b := 27) dX9_out_21 fl_9_41 (by decide) (gT hG7 rfl (lt_of rfl)) (gR hG7 (b := 27) rfl) ?_
    refine w_getR (ci := 6) (k := 0) (b := 28) dX9_out_24 fl_9_200 (by decide) (gT hG7 rfl (lt_of rfl)) (gR hG7 (b := 28) rfl) ?_
    refine i_ldc (x := 1000000000) dX9_out_27 kc_9_203 (by decide) ?_
    obtain ⟨r12, σ8, hc10, hG9, rr11, h⟩ := h
    refine w_callV dX9_out_29 ml_9_204 ⟨ok_X6_total, vi_X6_total⟩ hs_X6_total (As := [.ref 28, .int (nZ 1000000000)]) rfl rfl (gT hG7 rfl (lt_of rfl)) (Nat.le_of_ble_eq_true rfl) hc10 ?_
    show wp (Ev sc d) 9 cX9_out 3 (some .int) false [] sc Q 32 [(0, .ref 0), (1, .int (nZ x1))] [.int (nZ r12)] σ8
    refine w_istore_n (l' := [(2, .int (nZ r12)), (0, .ref 0), (1, .int (nZ x1))]) dX9_out_32 rfl (by decide) rfl ?_
    refine w_aload_n dX9_out_33 rfl (List.Mem.tail _ (List.Mem.head _)) ?_
    refine w_getM (ci := 9) (k := 5) (b := u) dX9_out_34 fl_9_48 (by decide) (gT hG9 rfl (lt_of rfl)) hG9.2.2.1 ?_
    refine w_getR (ci := 2) (k := 0) (b := (u + 1)) dX9_out_37 fl_9_87 (by decide) (gT hG9 (IsMk_t0 hG.2.2.2.2) (IsMk_lt hG.2.2.2.2 (k := 0) (by decide))) (gR hG9 (IsMk_r0_0 hG.2.2.2.2)) ?_
    refine w_iconst (v := nZ (-1)) dX9_out_40 (by decide) ?_
    refine i_putI (ci := 7) 9 rfl dX9_out_41 fl_9_319 (by decide) (gT hG9 (IsMk_t1 hG.2.2.2.2) (IsMk_lt hG.2.2.2.2 (k := 1) (by decide))) (fun σ13 eσ14 => ?_)
    replace h := h σ13 eσ14
    have hG15 : G σ13 u := eσ14 ▸ G.wI hG9
    refine w_iload_n dX9_out_44 rfl (List.Mem.head _) ?_
    exact w_iret dX9_out_45 rfl h
theorem dX9_suns_0 : decode cX9_suns 0 = .ok (.aload_n 0, 1) := by decide +kernel
theorem dX9_suns_1 : decode cX9_suns 1 = .ok (.getfield 41, 3) := by decide +kernel
theorem dX9_suns_4 : decode cX9_suns 4 = .ok (.invokevirtual 322, 3) := by decide +kernel
theorem dX9_suns_7 : decode cX9_suns 7 = .ok (.ireturn, 1) := by decide +kernel
set_option maxRecDepth 10000 in
theorem t_X9_suns {sc : Nat × (Nat → Int32)} {d : Nat} {Q : aO → aH → Prop} {σ : aH} {u : Nat}   (hG : G σ u) 
    (h : (∃ (r5 : Int) (σ1 : aH), Ev sc d mX6_dearestSun [.ref 27] σ (.inl (some (.int (nZ r5)))) σ1 ∧ G σ1 u ∧ inR r5 ∧ Q (.inl (some (.int (nZ r5)))) σ1)) :
    T sc (d + 1) mX9_suns [.ref 0] σ Q := by
  refine T.of (c := 9) (code := cX9_suns) (mL := 1) (rt := (some .int)) (ini := false) (l := [(0, .ref 0)]) rfl rfl rfl rfl (by decide) hs_X9_suns rfl rfl ?_
  refine w_aload_n dX9_suns_0 rfl (List.Mem.head _) ?_
  refine w_getR (ci := 9) (k := 4) (b := 27) dX9_suns_1 fl_9_41 (by decide) (gT hG rfl (lt_of rfl)) (gR hG (b := 27) rfl) ?_
  obtain ⟨r5, σ1, hc3, hG2, rr4, h⟩ := h
  refine w_callV dX9_suns_4 ml_9_322 ⟨ok_X6_dearestSun, vi_X6_dearestSun⟩ hs_X6_dearestSun (As := []) rfl rfl (gT hG rfl (lt_of rfl)) (Nat.le_of_ble_eq_true rfl) hc3 ?_
  show wp (Ev sc d) 9 cX9_suns 1 (some .int) false [] sc Q 7 [(0, .ref 0)] [.int (nZ r5)] σ1
  exact w_iret dX9_suns_7 rfl h
theorem dX9_image_0 : decode cX9_image 0 = .ok (.aload_n 0, 1) := by decide +kernel
theorem dX9_image_1 : decode cX9_image 1 = .ok (.getfield 19, 3) := by decide +kernel
theorem dX9_image_4 : decode cX9_image 4 = .ok (.aload_n 0, 1) := by decide +kernel
theorem dX9_image_5 : decode cX9_image 5 = .ok (.getfield 48, 3) := by decide +kernel
theorem dX9_image_8 : decode cX9_image 8 = .ok (.invokevirtual 325, 3) := by decide +kernel
theorem dX9_image_11 : decode cX9_image 11 = .ok (.ireturn, 1) := by decide +kernel
set_option maxRecDepth 10000 in
theorem t_X9_image {sc : Nat × (Nat → Int32)} {d : Nat} {Q : aO → aH → Prop} {σ : aH} {u : Nat}   (hG : G σ u) 
    (h : (∃ (r5 : Int) (σ1 : aH), Ev sc d mX1_take [.ref 3, .ref u] σ (.inl (some (.int (nZ r5)))) σ1 ∧ G σ1 u ∧ inR r5 ∧ Q (.inl (some (.int (nZ r5)))) σ1)) :
    T sc (d + 1) mX9_image [.ref 0] σ Q := by
  refine T.of (c := 9) (code := cX9_image) (mL := 1) (rt := (some .int)) (ini := false) (l := [(0, .ref 0)]) rfl rfl rfl rfl (by decide) hs_X9_image rfl rfl ?_
  refine w_aload_n dX9_image_0 rfl (List.Mem.head _) ?_
  refine w_getR (ci := 9) (k := 1) (b := 3) dX9_image_1 fl_9_19 (by decide) (gT hG rfl (lt_of rfl)) (gR hG (b := 3) rfl) ?_
  refine w_aload_n dX9_image_4 rfl (List.Mem.head _) ?_
  refine w_getM (ci := 9) (k := 5) (b := u) dX9_image_5 fl_9_48 (by decide) (gT hG rfl (lt_of rfl)) hG.2.2.1 ?_
  obtain ⟨r5, σ1, hc3, hG2, rr4, h⟩ := h
  refine w_callV dX9_image_8 ml_9_325 ⟨ok_X1_take, vi_X1_take⟩ hs_X1_take (As := [.ref u]) rfl rfl (gT hG rfl (lt_of rfl)) (Nat.le_of_ble_eq_true rfl) hc3 ?_
  show wp (Ev sc d) 9 cX9_image 1 (some .int) false [] sc Q 11 [(0, .ref 0)] [.int (nZ r5)] σ1
  exact w_iret dX9_image_11 rfl h
theorem dX9_restore_0 : decode cX9_restore 0 = .ok (.aload_n 0, 1) := by decide +kernel
theorem dX9_restore_1 : decode cX9_restore 1 = .ok (.getfield 19, 3) := by decide +kernel
theorem dX9_restore_4 : decode cX9_restore 4 = .ok (.aload_n 0, 1) := by decide +kernel
theorem dX9_restore_5 : decode cX9_restore 5 = .ok (.getfield 48, 3) := by decide +kernel
theorem dX9_restore_8 : decode cX9_restore 8 = .ok (.invokevirtual 329, 3) := by decide +kernel
theorem dX9_restore_11 : decode cX9_restore 11 = .ok (.ireturn, 1) := by decide +kernel
set_option maxRecDepth 10000 in
theorem t_X9_restore {sc : Nat × (Nat → Int32)} {d : Nat} {Q : aO → aH → Prop} {σ : aH} {u : Nat}   (hG : G σ u) 
    (h : (∃ (r5 : Int) (σ1 : aH), Ev sc d mX1_giveBack [.ref 3, .ref u] σ (.inl (some (.int (nZ r5)))) σ1 ∧ G σ1 u ∧ inR r5 ∧ Q (.inl (some (.int (nZ r5)))) σ1)) :
    T sc (d + 1) mX9_restore [.ref 0] σ Q := by
  refine T.of (c := 9) (code := cX9_restore) (mL := 1) (rt := (some .int)) (ini := false) (l := [(0, .ref 0)]) rfl rfl rfl rfl (by decide) hs_X9_restore rfl rfl ?_
  refine w_aload_n dX9_restore_0 rfl (List.Mem.head _) ?_
  refine w_getR (ci := 9) (k := 1) (b := 3) dX9_restore_1 fl_9_19 (by decide) (gT hG rfl (lt_of rfl)) (gR hG (b := 3) rfl) ?_
  refine w_aload_n dX9_restore_4 rfl (List.Mem.head _) ?_
  refine w_getM (ci := 9) (k := 5) (b := u) dX9_restore_5 fl_9_48 (by decide) (gT hG rfl (lt_of rfl)) hG.2.2.1 ?_
  obtain ⟨r5, σ1, hc3, hG2, rr4, h⟩ := h
  refine w_callV dX9_restore_8 ml_9_329 ⟨ok_X1_giveBack, vi_X1_giveBack⟩ hs_X1_giveBack (As := [.ref u]) rfl rfl (gT hG rfl (lt_of rfl)) (Nat.le_of_ble_eq_true rfl) hc3 ?_
  show wp (Ev sc d) 9 cX9_restore 1 (some .int) false [] sc Q 11 [(0, .ref 0)] [.int (nZ r5)] σ1
  exact w_iret dX9_restore_11 rfl h
theorem dX9_status_0 : decode cX9_status 0 = .ok (.iload_n 1, 1) := by decide +kernel
theorem dX9_status_1 : decode cX9_status 1 = .ok (.ifCond .ne 8, 3) := by decide +kernel
theorem dX9_status_4 : decode cX9_status 4 = .ok (.aload_n 0, 1) := by decide +kernel
theorem dX9_status_5 : decode cX9_status 5 = .ok (.getfield 55, 3) := by decide +kernel
theorem dX9_status_8 : decode cX9_status 8 = .ok (.ireturn, 1) := by decide +kernel
theorem dX9_status_9 : decode cX9_status 9 = .ok (.iload_n 1, 1) := by decide +kernel
theorem dX9_status_10 : decode cX9_status 10 = .ok (.iconst 1, 1) := by decide +kernel
theorem dX9_status_11 : decode cX9_status 11 = .ok (.if_icmp .ne 10, 3) := by decide +kernel
theorem dX9_status_14 : decode cX9_status 14 = .ok (.aload_n 0, 1) := by decide +kernel
theorem dX9_status_15 : decode cX9_status 15 = .ok (.getfield 59, 3) := by decide +kernel
theorem dX9_status_18 : decode cX9_status 18 = .ok (.goto 4, 3) := by decide +kernel
theorem dX9_status_21 : decode cX9_status 21 = .ok (.iconst (-1), 1) := by decide +kernel
theorem dX9_status_22 : decode cX9_status 22 = .ok (.ireturn, 1) := by decide +kernel
set_option maxRecDepth 10000 in
theorem t_X9_status {sc : Nat × (Nat → Int32)} {d : Nat} {Q : aO → aH → Prop} {σ : aH} {u : Nat}  {x1 : Int} (hG : G σ u) (rx1 : inR x1)
    (h : ((¬ x1 = 0 → ((¬ x1 = 1 → Q (.inl (some (.int (nZ (-1))))) σ) ∧ (x1 = 1 → Q (.inl (some (.int (nZ (rI σ 0 8))))) σ))) ∧ (x1 = 0 → Q (.inl (some (.int (nZ (rI σ 0 7))))) σ))) :
    T sc (d + 1) mX9_status [.ref 0, .int (nZ x1)] σ Q := by
  refine T.of (c := 9) (code := cX9_status) (mL := 2) (rt := (some .int)) (ini := false) (l := [(0, .ref 0), (1, .int (nZ x1))]) rfl rfl rfl rfl (by decide) hs_X9_status rfl rfl ?_
  refine w_iload_n dX9_status_0 rfl (List.Mem.tail _ (List.Mem.head _)) ?_
  refine i_if_ne (tgt := 9) dX9_status_1 rfl rx1 (fun c9 => ?_) (fun c9 => ?_)
  · replace h := h.1 c9
    refine w_iload_n dX9_status_9 rfl (List.Mem.tail _ (List.Mem.head _)) ?_
    refine w_iconst (v := nZ 1) dX9_status_10 (by decide) ?_
    refine i_cmp_ne (tgt := 21) dX9_status_11 rfl rx1 (by decide) (fun c9 => ?_) (fun c9 => ?_)
    · replace h := h.1 c9
      refine w_iconst (v := nZ (-1)) dX9_status_21 (by decide) ?_
      exact w_iret dX9_status_22 rfl h
    · replace h := h.2 c9
      refine w_aload_n dX9_status_14 rfl (List.Mem.head _) ?_
      refine i_getI (ci := 9) 8 rfl dX9_status_15 fl_9_59 (by decide) (gT hG rfl (lt_of rfl)) ?_
      refine w_goto (tgt := 22) dX9_status_18 rfl ?_
      exact w_iret dX9_status_22 rfl h
  · replace h := h.2 c9
    refine w_aload_n dX9_status_4 rfl (List.Mem.head _) ?_
    refine i_getI (ci := 9) 7 rfl dX9_status_5 fl_9_55 (by decide) (gT hG rfl (lt_of rfl)) ?_
    exact w_iret dX9_status_8 rfl h
theorem dX9_count_0 : decode cX9_count 0 = .ok (.iload_n 1, 1) := by decide +kernel
theorem dX9_count_1 : decode cX9_count 1 = .ok (.ifCond .ne 11, 3) := by decide +kernel
theorem dX9_count_4 : decode cX9_count 4 = .ok (.aload_n 0, 1) := by decide +kernel
theorem dX9_count_5 : decode cX9_count 5 = .ok (.getfield 19, 3) := by decide +kernel
theorem dX9_count_8 : decode cX9_count 8 = .ok (.getfield 81, 3) := by decide +kernel
theorem dX9_count_11 : decode cX9_count 11 = .ok (.ireturn, 1) := by decide +kernel
theorem dX9_count_12 : decode cX9_count 12 = .ok (.iload_n 1, 1) := by decide +kernel
theorem dX9_count_13 : decode cX9_count 13 = .ok (.iconst 1, 1) := by decide +kernel
theorem dX9_count_14 : decode cX9_count 14 = .ok (.if_icmp .ne 13, 3) := by decide +kernel
theorem dX9_count_17 : decode cX9_count 17 = .ok (.aload_n 0, 1) := by decide +kernel
theorem dX9_count_18 : decode cX9_count 18 = .ok (.getfield 12, 3) := by decide +kernel
theorem dX9_count_21 : decode cX9_count 21 = .ok (.getfield 62, 3) := by decide +kernel
theorem dX9_count_24 : decode cX9_count 24 = .ok (.goto 4, 3) := by decide +kernel
theorem dX9_count_27 : decode cX9_count 27 = .ok (.iconst (-1), 1) := by decide +kernel
theorem dX9_count_28 : decode cX9_count 28 = .ok (.ireturn, 1) := by decide +kernel
set_option maxRecDepth 10000 in
theorem t_X9_count {sc : Nat × (Nat → Int32)} {d : Nat} {Q : aO → aH → Prop} {σ : aH} {u : Nat}  {x1 : Int} (hG : G σ u) (rx1 : inR x1)
    (h : ((¬ x1 = 0 → ((¬ x1 = 1 → Q (.inl (some (.int (nZ (-1))))) σ) ∧ (x1 = 1 → Q (.inl (some (.int (nZ (rI σ 1 1))))) σ))) ∧ (x1 = 0 → Q (.inl (some (.int (nZ (rI σ 3 6))))) σ))) :
    T sc (d + 1) mX9_count [.ref 0, .int (nZ x1)] σ Q := by
  refine T.of (c := 9) (code := cX9_count) (mL := 2) (rt := (some .int)) (ini := false) (l := [(0, .ref 0), (1, .int (nZ x1))]) rfl rfl rfl rfl (by decide) hs_X9_count rfl rfl ?_
  refine w_iload_n dX9_count_0 rfl (List.Mem.tail _ (List.Mem.head _)) ?_
  refine i_if_ne (tgt := 12) dX9_count_1 rfl rx1 (fun c9 => ?_) (fun c9 => ?_)
  · replace h := h.1 c9
    refine w_iload_n dX9_count_12 rfl (List.Mem.tail _ (List.Mem.head _)) ?_
    refine w_iconst (v := nZ 1) dX9_count_13 (by decide) ?_
    refine i_cmp_ne (tgt := 27) dX9_count_14 rfl rx1 (by decide) (fun c9 => ?_) (fun c9 => ?_)
    · replace h := h.1 c9
      refine w_iconst (v := nZ (-1)) dX9_count_27 (by decide) ?_
      exact w_iret dX9_count_28 rfl h
    · replace h := h.2 c9
      refine w_aload_n dX9_count_17 rfl (List.Mem.head _) ?_
      refine w_getR (ci := 9) (k := 0) (b := 1) dX9_count_18 fl_9_12 (by decide) (gT hG rfl (lt_of rfl)) (gR hG (b := 1) rfl) ?_
      refine i_getI (ci := 5) 1 rfl dX9_count_21 fl_9_62 (by decide) (gT hG rfl (lt_of rfl)) ?_
      refine w_goto (tgt := 28) dX9_count_24 rfl ?_
      exact w_iret dX9_count_28 rfl h
  · replace h := h.2 c9
    refine w_aload_n dX9_count_4 rfl (List.Mem.head _) ?_
    refine w_getR (ci := 9) (k := 1) (b := 3) dX9_count_5 fl_9_19 (by decide) (gT hG rfl (lt_of rfl)) (gR hG (b := 3) rfl) ?_
    refine i_getI (ci := 1) 6 rfl dX9_count_8 fl_9_81 (by decide) (gT hG rfl (lt_of rfl)) ?_
    exact w_iret dX9_count_11 rfl h
theorem dX9_requireStall_0 : decode cX9_requireStall 0 = .ok (.iload_n 1, 1) := by decide +kernel
theorem dX9_requireStall_1 : decode cX9_requireStall 1 = .ok (.ifCond .lt 17, 3) := by decide +kernel
theorem dX9_requireStall_4 : decode cX9_requireStall 4 = .ok (.iload_n 1, 1) := by decide +kernel
theorem dX9_requireStall_5 : decode cX9_requireStall 5 = .ok (.aload_n 0, 1) := by decide +kernel
theorem dX9_requireStall_6 : decode cX9_requireStall 6 = .ok (.getfield 48, 3) := by decide +kernel
theorem dX9_requireStall_9 : decode cX9_requireStall 9 = .ok (.getfield 87, 3) := by decide +kernel
theorem dX9_requireStall_12 : decode cX9_requireStall 12 = .ok (.getfield 91, 3) := by decide +kernel
theorem dX9_requireStall_15 : decode cX9_requireStall 15 = .ok (.if_icmp .lt 24, 3) := by decide +kernel
theorem dX9_requireStall_18 : decode cX9_requireStall 18 = .ok (.aload_n 0, 1) := by decide +kernel
theorem dX9_requireStall_19 : decode cX9_requireStall 19 = .ok (.dup, 1) := by decide +kernel
theorem dX9_requireStall_20 : decode cX9_requireStall 20 = .ok (.getfield 55, 3) := by decide +kernel
theorem dX9_requireStall_23 : decode cX9_requireStall 23 = .ok (.iconst 1, 1) := by decide +kernel
theorem dX9_requireStall_24 : decode cX9_requireStall 24 = .ok (.iadd, 1) := by decide +kernel
theorem dX9_requireStall_25 : decode cX9_requireStall 25 = .ok (.putfield 55, 3) := by decide +kernel
theorem dX9_requireStall_28 : decode cX9_requireStall 28 = .ok (.new 332, 3) := by decide +kernel
theorem dX9_requireStall_31 : decode cX9_requireStall 31 = .ok (.dup, 1) := by decide +kernel
theorem dX9_requireStall_32 : decode cX9_requireStall 32 = .ok (.ldc_w 334, 3) := by decide +kernel
theorem dX9_requireStall_35 : decode cX9_requireStall 35 = .ok (.invokespecial 336, 3) := by decide +kernel
theorem dX9_requireStall_38 : decode cX9_requireStall 38 = .ok (.athrow, 1) := by decide +kernel
theorem dX9_requireStall_39 : decode cX9_requireStall 39 = .ok (.return_, 1) := by decide +kernel
set_option maxRecDepth 10000 in
theorem t_X9_requireStall {sc : Nat × (Nat → Int32)} {d : Nat} {Q : aO → aH → Prop} {σ : aH} {u : Nat}  {x1 : Int} (hG : G σ u) (rx1 : inR x1)
    (h : ((x1 < 0 → (inR ((rI σ 0 7) + 1) ∧ (∀ σ2 : aH, wI σ 0 7 ((rI σ 0 7) + 1) = σ2 → (gN σ2 + 1 ≤ 1000000 ∧ Q (.inr 0) (sSkip σ2 1 6))))) ∧ (¬ (x1 < 0) → ((x1 < (rI σ (u + 1) 8) → Q (.inl none) σ) ∧ (¬ (x1 < (rI σ (u + 1) 8)) → (inR ((rI σ 0 7) + 1) ∧ (∀ σ6 : aH, wI σ 0 7 ((rI σ 0 7) + 1) = σ6 → (gN σ6 + 1 ≤ 1000000 ∧ Q (.inr 0) (sSkip σ6 1 6))))))))) :
    T sc (d + 1) mX9_requireStall [.ref 0, .int (nZ x1)] σ Q := by
  refine T.of (c := 9) (code := cX9_requireStall) (mL := 2) (rt := none) (ini := false) (l := [(0, .ref 0), (1, .int (nZ x1))]) rfl rfl rfl rfl (by decide) hs_X9_requireStall rfl rfl ?_
  refine w_iload_n dX9_requireStall_0 rfl (List.Mem.tail _ (List.Mem.head _)) ?_
  refine i_if_lt (tgt := 18) dX9_requireStall_1 rfl rx1 (fun c9 => ?_) (fun c9 => ?_)
  · replace h := h.1 c9
    refine w_aload_n dX9_requireStall_18 rfl (List.Mem.head _) ?_
    refine w_dup dX9_requireStall_19 rfl ?_
    refine i_getI (ci := 9) 7 rfl dX9_requireStall_20 fl_9_55 (by decide) (gT hG rfl (lt_of rfl)) ?_
    refine w_iconst (v := nZ 1) dX9_requireStall_23 (by decide) ?_
    obtain ⟨q1, h⟩ := h
    refine i_add dX9_requireStall_24 ?_
    refine i_putI (ci := 9) 7 rfl dX9_requireStall_25 fl_9_55 (by decide) (gT hG rfl (lt_of rfl)) (fun σ2 eσ3 => ?_)
    replace h := h σ2 eσ3
    have hG4 : G σ2 u := eσ3 ▸ G.wI hG
    exact w_throwN dX9_requireStall_28 dX9_requireStall_31 dX9_requireStall_32 dX9_requireStall_35 dX9_requireStall_38 ⟨rfl, Or.inl ⟨rfl, rfl, rfl, rfl⟩⟩ (Nat.le_of_ble_eq_true rfl) h.1 rfl h.2
  · replace h := h.2 c9
    refine w_iload_n dX9_requireStall_4 rfl (List.Mem.tail _ (List.Mem.head _)) ?_
    refine w_aload_n dX9_requireStall_5 rfl (List.Mem.head _) ?_
    refine w_getM (ci := 9) (k := 5) (b := u) dX9_requireStall_6 fl_9_48 (by decide) (gT hG rfl (lt_of rfl)) hG.2.2.1 ?_
    refine w_getR (ci := 2) (k := 0) (b := (u + 1)) dX9_requireStall_9 fl_9_87 (by decide) (gT hG (IsMk_t0 hG.2.2.2.2) (IsMk_lt hG.2.2.2.2 (k := 0) (by decide))) (gR hG (IsMk_r0_0 hG.2.2.2.2)) ?_
    refine i_getI (ci := 7) 8 rfl dX9_requireStall_12 fl_9_91 (by decide) (gT hG (IsMk_t1 hG.2.2.2.2) (IsMk_lt hG.2.2.2.2 (k := 1) (by decide))) ?_
    refine i_cmp_lt (tgt := 39) dX9_requireStall_15 rfl rx1 (rI_R _ _ _) (fun c9 => ?_) (fun c9 => ?_)
    · replace h := h.1 c9
      exact w_vret dX9_requireStall_39 rfl h
    · replace h := h.2 c9
      refine w_aload_n dX9_requireStall_18 rfl (List.Mem.head _) ?_
      refine w_dup dX9_requireStall_19 rfl ?_
      refine i_getI (ci := 9) 7 rfl dX9_requireStall_20 fl_9_55 (by decide) (gT hG rfl (lt_of rfl)) ?_
      refine w_iconst (v := nZ 1) dX9_requireStall_23 (by decide) ?_
      obtain ⟨q5, h⟩ := h
      refine i_add dX9_requireStall_24 ?_
      refine i_putI (ci := 9) 7 rfl dX9_requireStall_25 fl_9_55 (by decide) (gT hG rfl (lt_of rfl)) (fun σ6 eσ7 => ?_)
      replace h := h σ6 eσ7
      have hG8 : G σ6 u := eσ7 ▸ G.wI hG
      exact w_throwN dX9_requireStall_28 dX9_requireStall_31 dX9_requireStall_32 dX9_requireStall_35 dX9_requireStall_38 ⟨rfl, Or.inl ⟨rfl, rfl, rfl, rfl⟩⟩ (Nat.le_of_ble_eq_true rfl) h.1 rfl h.2
theorem dX9_requireTwo_0 : decode cX9_requireTwo 0 = .ok (.aload_n 0, 1) := by decide +kernel
theorem dX9_requireTwo_1 : decode cX9_requireTwo 1 = .ok (.iload_n 1, 1) := by decide +kernel
theorem dX9_requireTwo_2 : decode cX9_requireTwo 2 = .ok (.invokevirtual 118, 3) := by decide +kernel
theorem dX9_requireTwo_5 : decode cX9_requireTwo 5 = .ok (.aload_n 0, 1) := by decide +kernel
theorem dX9_requireTwo_6 : decode cX9_requireTwo 6 = .ok (.iload_n 2, 1) := by decide +kernel
theorem dX9_requireTwo_7 : decode cX9_requireTwo 7 = .ok (.invokevirtual 118, 3) := by decide +kernel
theorem dX9_requireTwo_10 : decode cX9_requireTwo 10 = .ok (.aload_n 0, 1) := by decide +kernel
theorem dX9_requireTwo_11 : decode cX9_requireTwo 11 = .ok (.iload_n 1, 1) := by decide +kernel
theorem dX9_requireTwo_12 : decode cX9_requireTwo 12 = .ok (.iload_n 2, 1) := by decide +kernel
theorem dX9_requireTwo_13 : decode cX9_requireTwo 13 = .ok (.if_icmp .eq 7, 3) := by decide +kernel
theorem dX9_requireTwo_16 : decode cX9_requireTwo 16 = .ok (.iconst 1, 1) := by decide +kernel
theorem dX9_requireTwo_17 : decode cX9_requireTwo 17 = .ok (.goto 4, 3) := by decide +kernel
theorem dX9_requireTwo_20 : decode cX9_requireTwo 20 = .ok (.iconst 0, 1) := by decide +kernel
theorem dX9_requireTwo_21 : decode cX9_requireTwo 21 = .ok (.invokevirtual 69, 3) := by decide +kernel
theorem dX9_requireTwo_24 : decode cX9_requireTwo 24 = .ok (.return_, 1) := by decide +kernel
set_option maxRecDepth 10000 in
theorem t_X9_requireTwo {sc : Nat × (Nat → Int32)} {d : Nat} {Q : aO → aH → Prop} {σ : aH} {u : Nat}  {x1 : Int} {x2 : Int} (hG : G σ u) (rx1 : inR x1) (rx2 : inR x2)
    (h : ((∃ (e9 : Nat) (σ1 : aH), Ev sc d mX9_requireStall [.ref 0, .int (nZ x1)] σ (.inr e9) σ1 ∧ Q (.inr e9) σ1) ∨ (∃ σ1 : aH, Ev sc d mX9_requireStall [.ref 0, .int (nZ x1)] σ (.inl none) σ1 ∧ G σ1 u ∧ ((∃ (e9 : Nat) (σ5 : aH), Ev sc d mX9_requireStall [.ref 0, .int (nZ x2)] σ1 (.inr e9) σ5 ∧ Q (.inr e9) σ5) ∨ (∃ σ5 : aH, Ev sc d mX9_requireStall [.ref 0, .int (nZ x2)] σ1 (.inl none) σ5 ∧ G σ5 u ∧ ((x1 = x2 → ((∃ (e9 : Nat) (σ9 : aH), Ev sc d mX9_require [.ref 0, .int (nZ 0)] σ5 (.inr e9) σ9 ∧ Q (.inr e9) σ9) ∨ (∃ σ9 : aH, Ev sc d mX9_require [.ref 0, .int (nZ 0)] σ5 (.inl none) σ9 ∧ G σ9 u ∧ Q (.inl none) σ9))) ∧ (¬ (x1 = x2) → ((∃ (e9 : Nat) (σ13 : aH), Ev sc d mX9_require [.ref 0, .int (nZ 1)] σ5 (.inr e9) σ13 ∧ Q (.inr e9) σ13) ∨ (∃ σ13 : aH, Ev sc d mX9_require [.ref 0, .int (nZ 1)] σ5 (.inl none) σ13 ∧ G σ13 u ∧ Q (.inl none) σ13))))))))) :
    T sc (d + 1) mX9_requireTwo [.ref 0, .int (nZ x1), .int (nZ x2)] σ Q := by
  refine T.of (c := 9) (code := cX9_requireTwo) (mL := 3) (rt := none) (ini := false) (l := [(0, .ref 0), (1, .int (nZ x1)), (2, .int (nZ x2))]) rfl rfl rfl rfl (by decide) hs_X9_requireTwo rfl rfl ?_
  refine w_aload_n dX9_requireTwo_0 rfl (List.Mem.head _) ?_
  refine w_iload_n dX9_requireTwo_1 rfl (List.Mem.tail _ (List.Mem.head _)) ?_
  rcases h with h | h
  · obtain ⟨e9, σ1, hc3, h⟩ := h
    exact w_throwV dX9_requireTwo_2 mp_9_118 ⟨ok_X9_requireStall, vi_X9_requireStall⟩ hs_X9_requireStall (As := [.int (nZ x1)]) rfl rfl (gT hG rfl (lt_of rfl)) (Nat.le_of_ble_eq_true rfl) hc3 rfl h
  · obtain ⟨σ1, hc3, hG2, h⟩ := h
    refine w_callV dX9_requireTwo_2 ml_9_118 ⟨ok_X9_requireStall, vi_X9_requireStall⟩ hs_X9_requireStall (As := [.int (nZ x1)]) rfl rfl (gT hG rfl (lt_of rfl)) (Nat.le_of_ble_eq_true rfl) hc3 ?_
    show wp (Ev sc d) 9 cX9_requireTwo 3 none false [] sc Q 5 [(0, .ref 0), (1, .int (nZ x1)), (2, .int (nZ x2))] [] σ1
    refine w_aload_n dX9_requireTwo_5 rfl (List.Mem.head _) ?_
    refine w_iload_n dX9_requireTwo_6 rfl (List.Mem.tail _ (List.Mem.tail _ (List.Mem.head _))) ?_
    rcases h with h | h
    · obtain ⟨e9, σ5, hc7, h⟩ := h
      exact w_throwV dX9_requireTwo_7 mp_9_118 ⟨ok_X9_requireStall, vi_X9_requireStall⟩ hs_X9_requireStall (As := [.int (nZ x2)]) rfl rfl (gT hG2 rfl (lt_of rfl)) (Nat.le_of_ble_eq_true rfl) hc7 rfl h
    · obtain ⟨σ5, hc7, hG6, h⟩ := h
      refine w_callV dX9_requireTwo_7 ml_9_118 ⟨ok_X9_requireStall, vi_X9_requireStall⟩ hs_X9_requireStall (As := [.int (nZ x2)]) rfl rfl (gT hG2 rfl (lt_of rfl)) (Nat.le_of_ble_eq_true rfl) hc7 ?_
      show wp (Ev sc d) 9 cX9_requireTwo 3 none false [] sc Q 10 [(0, .ref 0), (1, .int (nZ x1)), (2, .int (nZ x2))] [] σ5
      refine w_aload_n dX9_requireTwo_10 rfl (List.Mem.head _) ?_
      refine w_iload_n dX9_requireTwo_11 rfl (List.Mem.tail _ (List.Mem.head _)) ?_
      refine w_iload_n dX9_requireTwo_12 rfl (List.Mem.tail _ (List.Mem.tail _ (List.Mem.head _))) ?_
      refine i_cmp_eq (tgt := 20) dX9_requireTwo_13 rfl rx1 rx2 (fun c9 => ?_) (fun c9 => ?_)
      · replace h := h.1 c9
        refine w_iconst (v := nZ 0) dX9_requireTwo_20 (by decide) ?_
        rcases h with h | h
        · obtain ⟨e9, σ9, hc11, h⟩ := h
          exact w_throwV dX9_requireTwo_21 mp_9_69 ⟨ok_X9_require, vi_X9_require⟩ hs_X9_require (As := [.int (nZ 0)]) rfl rfl (gT hG6 rfl (lt_of rfl)) (Nat.le_of_ble_eq_true rfl) hc11 rfl h
        · obtain ⟨σ9, hc11, hG10, h⟩ := h
          refine w_callV dX9_requireTwo_21 ml_9_69 ⟨ok_X9_require, vi_X9_require⟩ hs_X9_require (As := [.int (nZ 0)]) rfl rfl (gT hG6 rfl (lt_of rfl)) (Nat.le_of_ble_eq_true rfl) hc11 ?_
          show wp (Ev sc d) 9 cX9_requireTwo 3 none false [] sc Q 24 [(0, .ref 0), (1, .int (nZ x1)), (2, .int (nZ x2))] [] σ9
          exact w_vret dX9_requireTwo_24 rfl h
      · replace h := h.2 c9
        refine w_iconst (v := nZ 1) dX9_requireTwo_16 (by decide) ?_
        refine w_goto (tgt := 21) dX9_requireTwo_17 rfl ?_
        rcases h with h | h
        · obtain ⟨e9, σ13, hc15, h⟩ := h
          exact w_throwV dX9_requireTwo_21 mp_9_69 ⟨ok_X9_require, vi_X9_require⟩ hs_X9_require (As := [.int (nZ 1)]) rfl rfl (gT hG6 rfl (lt_of rfl)) (Nat.le_of_ble_eq_true rfl) hc15 rfl h
        · obtain ⟨σ13, hc15, hG14, h⟩ := h
          refine w_callV dX9_requireTwo_21 ml_9_69 ⟨ok_X9_require, vi_X9_require⟩ hs_X9_require (As := [.int (nZ 1)]) rfl rfl (gT hG6 rfl (lt_of rfl)) (Nat.le_of_ble_eq_true rfl) hc15 ?_
          show wp (Ev sc d) 9 cX9_requireTwo 3 none false [] sc Q 24 [(0, .ref 0), (1, .int (nZ x1)), (2, .int (nZ x2))] [] σ13
          exact w_vret dX9_requireTwo_24 rfl h
theorem dX9_require_0 : decode cX9_require 0 = .ok (.iload_n 1, 1) := by decide +kernel
theorem dX9_require_1 : decode cX9_require 1 = .ok (.ifCond .ne 24, 3) := by decide +kernel
theorem dX9_require_4 : decode cX9_require 4 = .ok (.aload_n 0, 1) := by decide +kernel
theorem dX9_require_5 : decode cX9_require 5 = .ok (.dup, 1) := by decide +kernel
theorem dX9_require_6 : decode cX9_require 6 = .ok (.getfield 59, 3) := by decide +kernel
theorem dX9_require_9 : decode cX9_require 9 = .ok (.iconst 1, 1) := by decide +kernel
theorem dX9_require_10 : decode cX9_require 10 = .ok (.iadd, 1) := by decide +kernel
theorem dX9_require_11 : decode cX9_require 11 = .ok (.putfield 59, 3) := by decide +kernel
theorem dX9_require_14 : decode cX9_require 14 = .ok (.new 339, 3) := by decide +kernel
theorem dX9_require_17 : decode cX9_require 17 = .ok (.dup, 1) := by decide +kernel
theorem dX9_require_18 : decode cX9_require 18 = .ok (.ldc_w 341, 3) := by decide +kernel
theorem dX9_require_21 : decode cX9_require 21 = .ok (.invokespecial 343, 3) := by decide +kernel
theorem dX9_require_24 : decode cX9_require 24 = .ok (.athrow, 1) := by decide +kernel
theorem dX9_require_25 : decode cX9_require 25 = .ok (.return_, 1) := by decide +kernel
set_option maxRecDepth 10000 in
theorem t_X9_require {sc : Nat × (Nat → Int32)} {d : Nat} {Q : aO → aH → Prop} {σ : aH} {u : Nat}  {x1 : Int} (hG : G σ u) (rx1 : inR x1)
    (h : ((¬ x1 = 0 → Q (.inl none) σ) ∧ (x1 = 0 → (inR ((rI σ 0 8) + 1) ∧ (∀ σ2 : aH, wI σ 0 8 ((rI σ 0 8) + 1) = σ2 → (gN σ2 + 1 ≤ 1000000 ∧ Q (.inr 1) (sSkip σ2 1 6))))))) :
    T sc (d + 1) mX9_require [.ref 0, .int (nZ x1)] σ Q := by
  refine T.of (c := 9) (code := cX9_require) (mL := 2) (rt := none) (ini := false) (l := [(0, .ref 0), (1, .int (nZ x1))]) rfl rfl rfl rfl (by decide) hs_X9_require rfl rfl ?_
  refine w_iload_n dX9_require_0 rfl (List.Mem.tail _ (List.Mem.head _)) ?_
  refine i_if_ne (tgt := 25) dX9_require_1 rfl rx1 (fun c9 => ?_) (fun c9 => ?_)
  · replace h := h.1 c9
    exact w_vret dX9_require_25 rfl h
  · replace h := h.2 c9
    refine w_aload_n dX9_require_4 rfl (List.Mem.head _) ?_
    refine w_dup dX9_require_5 rfl ?_
    refine i_getI (ci := 9) 8 rfl dX9_require_6 fl_9_59 (by decide) (gT hG rfl (lt_of rfl)) ?_
    refine w_iconst (v := nZ 1) dX9_require_9 (by decide) ?_
    obtain ⟨q1, h⟩ := h
    refine i_add dX9_require_10 ?_
    refine i_putI (ci := 9) 8 rfl dX9_require_11 fl_9_59 (by decide) (gT hG rfl (lt_of rfl)) (fun σ2 eσ3 => ?_)
    replace h := h σ2 eσ3
    have hG4 : G σ2 u := eσ3 ▸ G.wI hG
    exact w_throwN dX9_require_14 dX9_require_17 dX9_require_18 dX9_require_21 dX9_require_24 ⟨rfl, Or.inr ⟨rfl, rfl, rfl, rfl⟩⟩ (Nat.le_of_ble_eq_true rfl) h.1 rfl h.2
theorem dX9_isMinute_0 : decode cX9_isMinute 0 = .ok (.iload_n 0, 1) := by decide +kernel
theorem dX9_isMinute_1 : decode cX9_isMinute 1 = .ok (.ifCond .lt 14, 3) := by decide +kernel
theorem dX9_isMinute_4 : decode cX9_isMinute 4 = .ok (.iload_n 0, 1) := by decide +kernel
theorem dX9_isMinute_5 : decode cX9_isMinute 5 = .ok (.sipush 1440, 3) := by decide +kernel
theorem dX9_isMinute_8 : decode cX9_isMinute 8 = .ok (.if_icmp .ge 7, 3) := by decide +kernel
theorem dX9_isMinute_11 : decode cX9_isMinute 11 = .ok (.iconst 1, 1) := by decide +kernel
theorem dX9_isMinute_12 : decode cX9_isMinute 12 = .ok (.goto 4, 3) := by decide +kernel
theorem dX9_isMinute_15 : decode cX9_isMinute 15 = .ok (.iconst 0, 1) := by decide +kernel
theorem dX9_isMinute_16 : decode cX9_isMinute 16 = .ok (.ireturn, 1) := by decide +kernel
set_option maxRecDepth 10000 in
theorem t_X9_isMinute {sc : Nat × (Nat → Int32)} {d : Nat} {Q : aO → aH → Prop} {σ : aH} {u : Nat}  {x0 : Int} (hG : G σ u) (rx0 : inR x0)
    (h : ((x0 < 0 → Q (.inl (some (.int (nZ 0)))) σ) ∧ (¬ (x0 < 0) → ((1440 ≤ x0 → Q (.inl (some (.int (nZ 0)))) σ) ∧ (¬ (1440 ≤ x0) → Q (.inl (some (.int (nZ 1)))) σ))))) :
    T sc (d + 1) mX9_isMinute [.int (nZ x0)] σ Q := by
  refine T.of (c := 9) (code := cX9_isMinute) (mL := 1) (rt := (some .boolean)) (ini := false) (l := [(0, .int (nZ x0))]) rfl rfl rfl rfl (by decide) hs_X9_isMinute rfl rfl ?_
  refine w_iload_n dX9_isMinute_0 rfl (List.Mem.head _) ?_
  refine i_if_lt (tgt := 15) dX9_isMinute_1 rfl rx0 (fun c9 => ?_) (fun c9 => ?_)
  · replace h := h.1 c9
    refine w_iconst (v := nZ 0) dX9_isMinute_15 (by decide) ?_
    exact i_zret dX9_isMinute_16 rfl (by decide) h
  · replace h := h.2 c9
    refine w_iload_n dX9_isMinute_4 rfl (List.Mem.head _) ?_
    refine w_sipush (v := nZ 1440) dX9_isMinute_5 (by decide) ?_
    refine i_cmp_ge (tgt := 15) dX9_isMinute_8 rfl rx0 (by decide) (fun c9 => ?_) (fun c9 => ?_)
    · replace h := h.1 c9
      refine w_iconst (v := nZ 0) dX9_isMinute_15 (by decide) ?_
      exact i_zret dX9_isMinute_16 rfl (by decide) h
    · replace h := h.2 c9
      refine w_iconst (v := nZ 1) dX9_isMinute_11 (by decide) ?_
      refine w_goto (tgt := 16) dX9_isMinute_12 rfl ?_
      exact i_zret dX9_isMinute_16 rfl (by decide) h
theorem dX9_isEnd_0 : decode cX9_isEnd 0 = .ok (.iload_n 0, 1) := by decide +kernel
theorem dX9_isEnd_1 : decode cX9_isEnd 1 = .ok (.ifCond .lt 14, 3) := by decide +kernel
theorem dX9_isEnd_4 : decode cX9_isEnd 4 = .ok (.iload_n 0, 1) := by decide +kernel
theorem dX9_isEnd_5 : decode cX9_isEnd 5 = .ok (.sipush 1440, 3) := by decide +kernel
theorem dX9_isEnd_8 : decode cX9_isEnd 8 = .ok (.if_icmp .gt 7, 3) := by decide +kernel
theorem dX9_isEnd_11 : decode cX9_isEnd 11 = .ok (.iconst 1, 1) := by decide +kernel
theorem dX9_isEnd_12 : decode cX9_isEnd 12 = .ok (.goto 4, 3) := by decide +kernel
theorem dX9_isEnd_15 : decode cX9_isEnd 15 = .ok (.iconst 0, 1) := by decide +kernel
theorem dX9_isEnd_16 : decode cX9_isEnd 16 = .ok (.ireturn, 1) := by decide +kernel
set_option maxRecDepth 10000 in
theorem t_X9_isEnd {sc : Nat × (Nat → Int32)} {d : Nat} {Q : aO → aH → Prop} {σ : aH} {u : Nat}  {x0 : Int} (hG : G σ u) (rx0 : inR x0)
    (h : ((x0 < 0 → Q (.inl (some (.int (nZ 0)))) σ) ∧ (¬ (x0 < 0) → ((1440 < x0 → Q (.inl (some (.int (nZ 0)))) σ) ∧ (¬ (1440 < x0) → Q (.inl (some (.int (nZ 1)))) σ))))) :
    T sc (d + 1) mX9_isEnd [.int (nZ x0)] σ Q := by
  refine T.of (c := 9) (code := cX9_isEnd) (mL := 1) (rt := (some .boolean)) (ini := false) (l := [(0, .int (nZ x0))]) rfl rfl rfl rfl (by decide) hs_X9_isEnd rfl rfl ?_
  refine w_iload_n dX9_isEnd_0 rfl (List.Mem.head _) ?_
  refine i_if_lt (tgt := 15) dX9_isEnd_1 rfl rx0 (fun c9 => ?_) (fun c9 => ?_)
  · replace h := h.1 c9
    refine w_iconst (v := nZ 0) dX9_isEnd_15 (by decide) ?_
    exact i_zret dX9_isEnd_16 rfl (by decide) h
  · replace h := h.2 c9
    refine w_iload_n dX9_isEnd_4 rfl (List.Mem.head _) ?_
    refine w_sipush (v := nZ 1440) dX9_isEnd_5 (by decide) ?_
    refine i_cmp_gt (tgt := 15) dX9_isEnd_8 rfl rx0 (by decide) (fun c9 => ?_) (fun c9 => ?_)
    · replace h := h.1 c9
      refine w_iconst (v := nZ 0) dX9_isEnd_15 (by decide) ?_
      exact i_zret dX9_isEnd_16 rfl (by decide) h
    · replace h := h.2 c9
      refine w_iconst (v := nZ 1) dX9_isEnd_11 (by decide) ?_
      refine w_goto (tgt := 16) dX9_isEnd_12 rfl ?_
      exact i_zret dX9_isEnd_16 rfl (by decide) h
theorem dX9_isBit_0 : decode cX9_isBit 0 = .ok (.iload_n 0, 1) := by decide +kernel
theorem dX9_isBit_1 : decode cX9_isBit 1 = .ok (.ifCond .eq 8, 3) := by decide +kernel
theorem dX9_isBit_4 : decode cX9_isBit 4 = .ok (.iload_n 0, 1) := by decide +kernel
theorem dX9_isBit_5 : decode cX9_isBit 5 = .ok (.iconst 1, 1) := by decide +kernel
theorem dX9_isBit_6 : decode cX9_isBit 6 = .ok (.if_icmp .ne 7, 3) := by decide +kernel
theorem dX9_isBit_9 : decode cX9_isBit 9 = .ok (.iconst 1, 1) := by decide +kernel
theorem dX9_isBit_10 : decode cX9_isBit 10 = .ok (.goto 4, 3) := by decide +kernel
theorem dX9_isBit_13 : decode cX9_isBit 13 = .ok (.iconst 0, 1) := by decide +kernel
theorem dX9_isBit_14 : decode cX9_isBit 14 = .ok (.ireturn, 1) := by decide +kernel
set_option maxRecDepth 10000 in
theorem t_X9_isBit {sc : Nat × (Nat → Int32)} {d : Nat} {Q : aO → aH → Prop} {σ : aH} {u : Nat}  {x0 : Int} (hG : G σ u) (rx0 : inR x0)
    (h : ((x0 = 0 → Q (.inl (some (.int (nZ 1)))) σ) ∧ (¬ (x0 = 0) → ((¬ x0 = 1 → Q (.inl (some (.int (nZ 0)))) σ) ∧ (x0 = 1 → Q (.inl (some (.int (nZ 1)))) σ))))) :
    T sc (d + 1) mX9_isBit [.int (nZ x0)] σ Q := by
  refine T.of (c := 9) (code := cX9_isBit) (mL := 1) (rt := (some .boolean)) (ini := false) (l := [(0, .int (nZ x0))]) rfl rfl rfl rfl (by decide) hs_X9_isBit rfl rfl ?_
  refine w_iload_n dX9_isBit_0 rfl (List.Mem.head _) ?_
  refine i_if_eq (tgt := 9) dX9_isBit_1 rfl rx0 (fun c9 => ?_) (fun c9 => ?_)
  · replace h := h.1 c9
    refine w_iconst (v := nZ 1) dX9_isBit_9 (by decide) ?_
    refine w_goto (tgt := 14) dX9_isBit_10 rfl ?_
    exact i_zret dX9_isBit_14 rfl (by decide) h
  · replace h := h.2 c9
    refine w_iload_n dX9_isBit_4 rfl (List.Mem.head _) ?_
    refine w_iconst (v := nZ 1) dX9_isBit_5 (by decide) ?_
    refine i_cmp_ne (tgt := 13) dX9_isBit_6 rfl rx0 (by decide) (fun c9 => ?_) (fun c9 => ?_)
    · replace h := h.1 c9
      refine w_iconst (v := nZ 0) dX9_isBit_13 (by decide) ?_
      exact i_zret dX9_isBit_14 rfl (by decide) h
    · replace h := h.2 c9
      refine w_iconst (v := nZ 1) dX9_isBit_9 (by decide) ?_
      refine w_goto (tgt := 14) dX9_isBit_10 rfl ?_
      exact i_zret dX9_isBit_14 rfl (by decide) h
theorem dX9_isHeight_0 : decode cX9_isHeight 0 = .ok (.iload_n 0, 1) := by decide +kernel
theorem dX9_isHeight_1 : decode cX9_isHeight 1 = .ok (.ifCond .lt 13, 3) := by decide +kernel
theorem dX9_isHeight_4 : decode cX9_isHeight 4 = .ok (.iload_n 0, 1) := by decide +kernel
theorem dX9_isHeight_5 : decode cX9_isHeight 5 = .ok (.bipush 60, 2) := by decide +kernel
theorem dX9_isHeight_7 : decode cX9_isHeight 7 = .ok (.if_icmp .gt 7, 3) := by decide +kernel
theorem dX9_isHeight_10 : decode cX9_isHeight 10 = .ok (.iconst 1, 1) := by decide +kernel
theorem dX9_isHeight_11 : decode cX9_isHeight 11 = .ok (.goto 4, 3) := by decide +kernel
theorem dX9_isHeight_14 : decode cX9_isHeight 14 = .ok (.iconst 0, 1) := by decide +kernel
theorem dX9_isHeight_15 : decode cX9_isHeight 15 = .ok (.ireturn, 1) := by decide +kernel
set_option maxRecDepth 10000 in
theorem t_X9_isHeight {sc : Nat × (Nat → Int32)} {d : Nat} {Q : aO → aH → Prop} {σ : aH} {u : Nat}  {x0 : Int} (hG : G σ u) (rx0 : inR x0)
    (h : ((x0 < 0 → Q (.inl (some (.int (nZ 0)))) σ) ∧ (¬ (x0 < 0) → ((60 < x0 → Q (.inl (some (.int (nZ 0)))) σ) ∧ (¬ (60 < x0) → Q (.inl (some (.int (nZ 1)))) σ))))) :
    T sc (d + 1) mX9_isHeight [.int (nZ x0)] σ Q := by
  refine T.of (c := 9) (code := cX9_isHeight) (mL := 1) (rt := (some .boolean)) (ini := false) (l := [(0, .int (nZ x0))]) rfl rfl rfl rfl (by decide) hs_X9_isHeight rfl rfl ?_
  refine w_iload_n dX9_isHeight_0 rfl (List.Mem.head _) ?_
  refine i_if_lt (tgt := 14) dX9_isHeight_1 rfl rx0 (fun c9 => ?_) (fun c9 => ?_)
  · replace h := h.1 c9
    refine w_iconst (v := nZ 0) dX9_isHeight_14 (by decide) ?_
    exact i_zret dX9_isHeight_15 rfl (by decide) h
  · replace h := h.2 c9
    refine w_iload_n dX9_isHeight_4 rfl (List.Mem.head _) ?_
    refine w_bipush (v := nZ 60) dX9_isHeight_5 (by decide) ?_
    refine i_cmp_gt (tgt := 14) dX9_isHeight_7 rfl rx0 (by decide) (fun c9 => ?_) (fun c9 => ?_)
    · replace h := h.1 c9
      refine w_iconst (v := nZ 0) dX9_isHeight_14 (by decide) ?_
      exact i_zret dX9_isHeight_15 rfl (by decide) h
    · replace h := h.2 c9
      refine w_iconst (v := nZ 1) dX9_isHeight_10 (by decide) ?_
      refine w_goto (tgt := 15) dX9_isHeight_11 rfl ?_
      exact i_zret dX9_isHeight_15 rfl (by decide) h
theorem dX9_isDue_0 : decode cX9_isDue 0 = .ok (.iload_n 0, 1) := by decide +kernel
theorem dX9_isDue_1 : decode cX9_isDue 1 = .ok (.ifCond .lt 14, 3) := by decide +kernel
theorem dX9_isDue_4 : decode cX9_isDue 4 = .ok (.iload_n 0, 1) := by decide +kernel
theorem dX9_isDue_5 : decode cX9_isDue 5 = .ok (.ldc_w 344, 3) := by decide +kernel
theorem dX9_isDue_8 : decode cX9_isDue 8 = .ok (.if_icmp .gt 7, 3) := by decide +kernel
theorem dX9_isDue_11 : decode cX9_isDue 11 = .ok (.iconst 1, 1) := by decide +kernel
theorem dX9_isDue_12 : decode cX9_isDue 12 = .ok (.goto 4, 3) := by decide +kernel
theorem dX9_isDue_15 : decode cX9_isDue 15 = .ok (.iconst 0, 1) := by decide +kernel
theorem dX9_isDue_16 : decode cX9_isDue 16 = .ok (.ireturn, 1) := by decide +kernel
set_option maxRecDepth 10000 in
theorem t_X9_isDue {sc : Nat × (Nat → Int32)} {d : Nat} {Q : aO → aH → Prop} {σ : aH} {u : Nat}  {x0 : Int} (hG : G σ u) (rx0 : inR x0)
    (h : ((x0 < 0 → Q (.inl (some (.int (nZ 0)))) σ) ∧ (¬ (x0 < 0) → ((99999 < x0 → Q (.inl (some (.int (nZ 0)))) σ) ∧ (¬ (99999 < x0) → Q (.inl (some (.int (nZ 1)))) σ))))) :
    T sc (d + 1) mX9_isDue [.int (nZ x0)] σ Q := by
  refine T.of (c := 9) (code := cX9_isDue) (mL := 1) (rt := (some .boolean)) (ini := false) (l := [(0, .int (nZ x0))]) rfl rfl rfl rfl (by decide) hs_X9_isDue rfl rfl ?_
  refine w_iload_n dX9_isDue_0 rfl (List.Mem.head _) ?_
  refine i_if_lt (tgt := 15) dX9_isDue_1 rfl rx0 (fun c9 => ?_) (fun c9 => ?_)
  · replace h := h.1 c9
    refine w_iconst (v := nZ 0) dX9_isDue_15 (by decide) ?_
    exact i_zret dX9_isDue_16 rfl (by decide) h
  · replace h := h.2 c9
    refine w_iload_n dX9_isDue_4 rfl (List.Mem.head _) ?_
    refine i_ldcw (x := 99999) dX9_isDue_5 kc_9_344 (by decide) ?_
    refine i_cmp_gt (tgt := 15) dX9_isDue_8 rfl rx0 (by decide) (fun c9 => ?_) (fun c9 => ?_)
    · replace h := h.1 c9
      refine w_iconst (v := nZ 0) dX9_isDue_15 (by decide) ?_
      exact i_zret dX9_isDue_16 rfl (by decide) h
    · replace h := h.2 c9
      refine w_iconst (v := nZ 1) dX9_isDue_11 (by decide) ?_
      refine w_goto (tgt := 16) dX9_isDue_12 rfl ?_
      exact i_zret dX9_isDue_16 rfl (by decide) h
theorem dX9_lowestBit_0 : decode cX9_lowestBit 0 = .ok (.iload_n 1, 1) := by decide +kernel
theorem dX9_lowestBit_1 : decode cX9_lowestBit 1 = .ok (.istore_n 2, 1) := by decide +kernel
theorem dX9_lowestBit_2 : decode cX9_lowestBit 2 = .ok (.iload_n 2, 1) := by decide +kernel
theorem dX9_lowestBit_3 : decode cX9_lowestBit 3 = .ok (.bipush 8, 2) := by decide +kernel
theorem dX9_lowestBit_5 : decode cX9_lowestBit 5 = .ok (.if_icmp .ge 20, 3) := by decide +kernel
theorem dX9_lowestBit_8 : decode cX9_lowestBit 8 = .ok (.iload_n 0, 1) := by decide +kernel
theorem dX9_lowestBit_9 : decode cX9_lowestBit 9 = .ok (.iload_n 2, 1) := by decide +kernel
theorem dX9_lowestBit_10 : decode cX9_lowestBit 10 = .ok (.iushr, 1) := by decide +kernel
theorem dX9_lowestBit_11 : decode cX9_lowestBit 11 = .ok (.iconst 1, 1) := by decide +kernel
theorem dX9_lowestBit_12 : decode cX9_lowestBit 12 = .ok (.iand, 1) := by decide +kernel
theorem dX9_lowestBit_13 : decode cX9_lowestBit 13 = .ok (.iconst 1, 1) := by decide +kernel
theorem dX9_lowestBit_14 : decode cX9_lowestBit 14 = .ok (.if_icmp .ne 5, 3) := by decide +kernel
theorem dX9_lowestBit_17 : decode cX9_lowestBit 17 = .ok (.iload_n 2, 1) := by decide +kernel
theorem dX9_lowestBit_18 : decode cX9_lowestBit 18 = .ok (.ireturn, 1) := by decide +kernel
theorem dX9_lowestBit_19 : decode cX9_lowestBit 19 = .ok (.iinc 2 1, 3) := by decide +kernel
theorem dX9_lowestBit_22 : decode cX9_lowestBit 22 = .ok (.goto (-20), 3) := by decide +kernel
theorem dX9_lowestBit_25 : decode cX9_lowestBit 25 = .ok (.iconst (-1), 1) := by decide +kernel
theorem dX9_lowestBit_26 : decode cX9_lowestBit 26 = .ok (.ireturn, 1) := by decide +kernel
def L_X9_lowestBit_2 (C : aM → List Value → aH → aO → aH → Prop) (sc : Nat × (Nat → Int32)) (P : aO → aH → Prop) (x0 : Int) (x1 : Int) (x2 : Int) (σ : aH) : Prop :=
    wp C 9 cX9_lowestBit 3 (some .int) false [] sc P 2 [(0, .int (nZ x0)), (1, .int (nZ x1)), (2, .int (nZ x2))] [] σ
set_option maxRecDepth 10000 in
theorem t_X9_lowestBit {sc : Nat × (Nat → Int32)} {d : Nat} {Q : aO → aH → Prop} {σ : aH} {u : Nat}  {x0 : Int} {x1 : Int} (hG : G σ u) (rx0 : inR x0) (rx1 : inR x1)
    (h : L_X9_lowestBit_2 (Ev sc d) sc Q x0 x1 x1 σ) :
    T sc (d + 1) mX9_lowestBit [.int (nZ x0), .int (nZ x1)] σ Q := by
  refine T.of (c := 9) (code := cX9_lowestBit) (mL := 3) (rt := (some .int)) (ini := false) (l := [(0, .int (nZ x0)), (1, .int (nZ x1))]) rfl rfl rfl rfl (by decide) hs_X9_lowestBit rfl rfl ?_
  refine w_iload_n dX9_lowestBit_0 rfl (List.Mem.tail _ (List.Mem.head _)) ?_
  refine w_istore_n (l' := [(2, .int (nZ x1)), (0, .int (nZ x0)), (1, .int (nZ x1))]) dX9_lowestBit_1 rfl (by decide) rfl ?_
  exact w_weak (l' := [(0, .int (nZ x0)), (1, .int (nZ x1)), (2, .int (nZ x1))]) (by intro q hq; simp only [List.mem_cons, List.not_mem_nil, or_false] at hq ⊢; rcases hq with rfl | rfl | rfl <;> simp) h
set_option maxRecDepth 10000 in
theorem v_X9_lowestBit_2 {C : aM → List Value → aH → aO → aH → Prop} {sc : Nat × (Nat → Int32)} {P : aO → aH → Prop} {σ : aH} {u : Nat}  {x0 : Int} {x1 : Int} {x2 : Int} (hG : G σ u) (rx0 : inR x0) (rx1 : inR x1) (rx2 : inR x2)
    (h : ((8 ≤ x2 → P (.inl (some (.int (nZ (-1))))) σ) ∧ (¬ (8 ≤ x2) → ((¬ (zAnd (zUsr x0 x2) 1) = 1 → (inR (x2 + 1) ∧ L_X9_lowestBit_2 C sc P x0 x1 (x2 + 1) σ)) ∧ ((zAnd (zUsr x0 x2) 1) = 1 → P (.inl (some (.int (nZ x2)))) σ))))) :
    L_X9_lowestBit_2 C sc P x0 x1 x2 σ := by
  unfold L_X9_lowestBit_2
  refine w_iload_n dX9_lowestBit_2 rfl (List.Mem.tail _ (List.Mem.tail _ (List.Mem.head _))) ?_
  refine w_bipush (v := nZ 8) dX9_lowestBit_3 (by decide) ?_
  refine i_cmp_ge (tgt := 25) dX9_lowestBit_5 rfl rx2 (by decide) (fun c9 => ?_) (fun c9 => ?_)
  · replace h := h.1 c9
    refine w_iconst (v := nZ (-1)) dX9_lowestBit_25 (by decide) ?_
    exact w_iret dX9_lowestBit_26 rfl h
  · replace h := h.2 c9
    refine w_iload_n dX9_lowestBit_8 rfl (List.Mem.head _) ?_
    refine w_iload_n dX9_lowestBit_9 rfl (List.Mem.tail _ (List.Mem.tail _ (List.Mem.head _))) ?_
    refine i_ushr dX9_lowestBit_10 ?_
    refine w_iconst (v := nZ 1) dX9_lowestBit_11 (by decide) ?_
    refine i_and dX9_lowestBit_12 ?_
    refine w_iconst (v := nZ 1) dX9_lowestBit_13 (by decide) ?_
    refine i_cmp_ne (tgt := 19) dX9_lowestBit_14 rfl (zAnd_R _ _) (by decide) (fun c9 => ?_) (fun c9 => ?_)
    · replace h := h.1 c9
      obtain ⟨q1, h⟩ := h
      refine w_iinc (v := nZ (x2 + 1)) (l' := [(2, .int (nZ (x2 + 1))), (0, .int (nZ x0)), (1, .int (nZ x1))]) dX9_lowestBit_19 (List.Mem.tail _ (List.Mem.tail _ (List.Mem.head _))) (nZ_add _ _) (by decide) rfl ?_
      refine w_goto (tgt := 2) dX9_lowestBit_22 rfl ?_
      exact w_weak (l' := [(0, .int (nZ x0)), (1, .int (nZ x1)), (2, .int (nZ (x2 + 1)))]) (by intro q hq; simp only [List.mem_cons, List.not_mem_nil, or_false] at hq ⊢; rcases hq with rfl | rfl | rfl <;> simp) h
    · replace h := h.2 c9
      refine w_iload_n dX9_lowestBit_17 rfl (List.Mem.tail _ (List.Mem.tail _ (List.Mem.head _))) ?_
      exact w_iret dX9_lowestBit_18 rfl h
