theorem dX10_laysPieces_0 : decode cX10_laysPieces 0 = .ok (.aload_n 0, 1) := by decide +kernel
theorem dX10_laysPieces_1 : decode cX10_laysPieces 1 = .ok (.iconst 0, 1) := by decide +kernel
theorem dX10_laysPieces_2 : decode cX10_laysPieces 2 = .ok (.putfield 224, 3) := by decide +kernel
theorem dX10_laysPieces_5 : decode cX10_laysPieces 5 = .ok (.iconst 0, 1) := by decide +kernel
theorem dX10_laysPieces_6 : decode cX10_laysPieces 6 = .ok (.istore_n 1, 1) := by decide +kernel
theorem dX10_laysPieces_7 : decode cX10_laysPieces 7 = .ok (.iload_n 1, 1) := by decide +kernel
theorem dX10_laysPieces_8 : decode cX10_laysPieces 8 = .ok (.sipush 1440, 3) := by decide +kernel
theorem dX10_laysPieces_11 : decode cX10_laysPieces 11 = .ok (.if_icmp .ge 82, 3) := by decide +kernel
theorem dX10_laysPieces_14 : decode cX10_laysPieces 14 = .ok (.aload_n 0, 1) := by decide +kernel
theorem dX10_laysPieces_15 : decode cX10_laysPieces 15 = .ok (.getfield 52, 3) := by decide +kernel
theorem dX10_laysPieces_18 : decode cX10_laysPieces 18 = .ok (.aload_n 0, 1) := by decide +kernel
theorem dX10_laysPieces_19 : decode cX10_laysPieces 19 = .ok (.getfield 224, 3) := by decide +kernel
theorem dX10_laysPieces_22 : decode cX10_laysPieces 22 = .ok (.aaload, 1) := by decide +kernel
theorem dX10_laysPieces_23 : decode cX10_laysPieces 23 = .ok (.iconst 0, 1) := by decide +kernel
theorem dX10_laysPieces_24 : decode cX10_laysPieces 24 = .ok (.iload_n 1, 1) := by decide +kernel
theorem dX10_laysPieces_25 : decode cX10_laysPieces 25 = .ok (.iastore, 1) := by decide +kernel
theorem dX10_laysPieces_26 : decode cX10_laysPieces 26 = .ok (.aload_n 0, 1) := by decide +kernel
theorem dX10_laysPieces_27 : decode cX10_laysPieces 27 = .ok (.getfield 52, 3) := by decide +kernel
theorem dX10_laysPieces_30 : decode cX10_laysPieces 30 = .ok (.aload_n 0, 1) := by decide +kernel
theorem dX10_laysPieces_31 : decode cX10_laysPieces 31 = .ok (.getfield 224, 3) := by decide +kernel
theorem dX10_laysPieces_34 : decode cX10_laysPieces 34 = .ok (.aaload, 1) := by decide +kernel
theorem dX10_laysPieces_35 : decode cX10_laysPieces 35 = .ok (.iconst 1, 1) := by decide +kernel
theorem dX10_laysPieces_36 : decode cX10_laysPieces 36 = .ok (.aload_n 0, 1) := by decide +kernel
theorem dX10_laysPieces_37 : decode cX10_laysPieces 37 = .ok (.iload_n 1, 1) := by decide +kernel
theorem dX10_laysPieces_38 : decode cX10_laysPieces 38 = .ok (.invokevirtual 227, 3) := by decide +kernel
theorem dX10_laysPieces_41 : decode cX10_laysPieces 41 = .ok (.iastore, 1) := by decide +kernel
theorem dX10_laysPieces_42 : decode cX10_laysPieces 42 = .ok (.aload_n 0, 1) := by decide +kernel
theorem dX10_laysPieces_43 : decode cX10_laysPieces 43 = .ok (.getfield 52, 3) := by decide +kernel
theorem dX10_laysPieces_46 : decode cX10_laysPieces 46 = .ok (.aload_n 0, 1) := by decide +kernel
theorem dX10_laysPieces_47 : decode cX10_laysPieces 47 = .ok (.getfield 224, 3) := by decide +kernel
theorem dX10_laysPieces_50 : decode cX10_laysPieces 50 = .ok (.aaload, 1) := by decide +kernel
theorem dX10_laysPieces_51 : decode cX10_laysPieces 51 = .ok (.iconst 2, 1) := by decide +kernel
theorem dX10_laysPieces_52 : decode cX10_laysPieces 52 = .ok (.aload_n 0, 1) := by decide +kernel
theorem dX10_laysPieces_53 : decode cX10_laysPieces 53 = .ok (.iload_n 1, 1) := by decide +kernel
theorem dX10_laysPieces_54 : decode cX10_laysPieces 54 = .ok (.invokevirtual 230, 3) := by decide +kernel
theorem dX10_laysPieces_57 : decode cX10_laysPieces 57 = .ok (.iastore, 1) := by decide +kernel
theorem dX10_laysPieces_58 : decode cX10_laysPieces 58 = .ok (.aload_n 0, 1) := by decide +kernel
theorem dX10_laysPieces_59 : decode cX10_laysPieces 59 = .ok (.getfield 52, 3) := by decide +kernel
theorem dX10_laysPieces_62 : decode cX10_laysPieces 62 = .ok (.aload_n 0, 1) := by decide +kernel
theorem dX10_laysPieces_63 : decode cX10_laysPieces 63 = .ok (.getfield 224, 3) := by decide +kernel
theorem dX10_laysPieces_66 : decode cX10_laysPieces 66 = .ok (.aaload, 1) := by decide +kernel
theorem dX10_laysPieces_67 : decode cX10_laysPieces 67 = .ok (.iconst 3, 1) := by decide +kernel
theorem dX10_laysPieces_68 : decode cX10_laysPieces 68 = .ok (.aload_n 0, 1) := by decide +kernel
theorem dX10_laysPieces_69 : decode cX10_laysPieces 69 = .ok (.iload_n 1, 1) := by decide +kernel
theorem dX10_laysPieces_70 : decode cX10_laysPieces 70 = .ok (.invokevirtual 233, 3) := by decide +kernel
theorem dX10_laysPieces_73 : decode cX10_laysPieces 73 = .ok (.iastore, 1) := by decide +kernel
theorem dX10_laysPieces_74 : decode cX10_laysPieces 74 = .ok (.aload_n 0, 1) := by decide +kernel
theorem dX10_laysPieces_75 : decode cX10_laysPieces 75 = .ok (.dup, 1) := by decide +kernel
theorem dX10_laysPieces_76 : decode cX10_laysPieces 76 = .ok (.getfield 224, 3) := by decide +kernel
theorem dX10_laysPieces_79 : decode cX10_laysPieces 79 = .ok (.iconst 1, 1) := by decide +kernel
theorem dX10_laysPieces_80 : decode cX10_laysPieces 80 = .ok (.iadd, 1) := by decide +kernel
theorem dX10_laysPieces_81 : decode cX10_laysPieces 81 = .ok (.putfield 224, 3) := by decide +kernel
theorem dX10_laysPieces_84 : decode cX10_laysPieces 84 = .ok (.aload_n 0, 1) := by decide +kernel
theorem dX10_laysPieces_85 : decode cX10_laysPieces 85 = .ok (.iload_n 1, 1) := by decide +kernel
theorem dX10_laysPieces_86 : decode cX10_laysPieces 86 = .ok (.invokevirtual 227, 3) := by decide +kernel
theorem dX10_laysPieces_89 : decode cX10_laysPieces 89 = .ok (.istore_n 1, 1) := by decide +kernel
theorem dX10_laysPieces_90 : decode cX10_laysPieces 90 = .ok (.goto (-83), 3) := by decide +kernel
theorem dX10_laysPieces_93 : decode cX10_laysPieces 93 = .ok (.return_, 1) := by decide +kernel
def L_X10_laysPieces_7 (C : aM → List Value → aH → aO → aH → Prop) (sc : Nat × (Nat → Int32)) (P : aO → aH → Prop) (x1 : Int) (σ : aH) : Prop :=
    wp C 10 cX10_laysPieces 2 none false [] sc P 7 [(0, .ref 76), (1, .int (nZ x1))] [] σ
set_option maxRecDepth 10000 in
theorem t_X10_laysPieces {sc : Nat × (Nat → Int32)} {d : Nat} {Q : aO → aH → Prop} {σ : aH} {u : Nat}   (hG : G σ u) 
    (h : (∀ σ1 : aH, wI σ 76 25 0 = σ1 → L_X10_laysPieces_7 (Ev sc d) sc Q 0 σ1)) :
    T sc (d + 1) mX10_laysPieces [.ref 76] σ Q := by
  refine T.of (c := 10) (code := cX10_laysPieces) (mL := 2) (rt := none) (ini := false) (l := [(0, .ref 76)]) rfl rfl rfl rfl (by decide) hs_X10_laysPieces rfl rfl ?_
  refine w_aload_n dX10_laysPieces_0 rfl (List.Mem.head _) ?_
  refine w_iconst (v := nZ 0) dX10_laysPieces_1 (by decide) ?_
  refine i_putI (ci := 10) 25 rfl dX10_laysPieces_2 fl_10_224 (by decide) (gT hG rfl (lt_of rfl)) (fun σ1 eσ2 => ?_)
  replace h := h σ1 eσ2
  have hG3 : G σ1 u := eσ2 ▸ G.wI hG
  refine w_iconst (v := nZ 0) dX10_laysPieces_5 (by decide) ?_
  refine w_istore_n (l' := [(1, .int (nZ 0)), (0, .ref 76)]) dX10_laysPieces_6 rfl (by decide) rfl ?_
  exact w_weak (l' := [(0, .ref 76), (1, .int (nZ 0))]) (by intro q hq; simp only [List.mem_cons, List.not_mem_nil, or_false] at hq ⊢; rcases hq with rfl | rfl <;> simp) h
set_option maxRecDepth 10000 in
theorem v_X10_laysPieces_7 {C : aM → List Value → aH → aO → aH → Prop} {sc : Nat × (Nat → Int32)} {P : aO → aH → Prop} {σ : aH} {u : Nat}  {x1 : Int} (hG : G σ u) (rx1 : inR x1)
    (h : ((1440 ≤ x1 → P (.inl none) σ) ∧ (¬ (1440 ≤ x1) → ((0 ≤ (rI σ 76 25) ∧ (rI σ 76 25) < 70) ∧ (∀ σ2 : aH, wI σ (190 + ((rI σ 76 25).toNat)) 0 x1 = σ2 → ((0 ≤ (rI σ2 76 25) ∧ (rI σ2 76 25) < 70) ∧ (∃ (r10 : Int) (σ6 : aH), C mX10_change [.ref 76, .int (nZ x1)] σ2 (.inl (some (.int (nZ r10)))) σ6 ∧ G σ6 u ∧ inR r10 ∧ (∀ σ11 : aH, wI σ6 (190 + ((rI σ2 76 25).toNat)) 1 r10 = σ11 → ((0 ≤ (rI σ11 76 25) ∧ (rI σ11 76 25) < 70) ∧ (∃ (r19 : Int) (σ15 : aH), C mX10_sunAt [.ref 76, .int (nZ x1)] σ11 (.inl (some (.int (nZ r19)))) σ15 ∧ G σ15 u ∧ inR r19 ∧ (∀ σ20 : aH, wI σ15 (190 + ((rI σ11 76 25).toNat)) 2 r19 = σ20 → ((0 ≤ (rI σ20 76 25) ∧ (rI σ20 76 25) < 70) ∧ (∃ (r28 : Int) (σ24 : aH), C mX10_rateAt [.ref 76, .int (nZ x1)] σ20 (.inl (some (.int (nZ r28)))) σ24 ∧ G σ24 u ∧ inR r28 ∧ (∀ σ29 : aH, wI σ24 (190 + ((rI σ20 76 25).toNat)) 3 r28 = σ29 → (inR ((rI σ29 76 25) + 1) ∧ (∀ σ33 : aH, wI σ29 76 25 ((rI σ29 76 25) + 1) = σ33 → (∃ (r40 : Int) (σ36 : aH), C mX10_change [.ref 76, .int (nZ x1)] σ33 (.inl (some (.int (nZ r40)))) σ36 ∧ G σ36 u ∧ inR r40 ∧ L_X10_laysPieces_7 C sc P r40 σ36))))))))))))))))) :
    L_X10_laysPieces_7 C sc P x1 σ := by
  unfold L_X10_laysPieces_7
  refine w_iload_n dX10_laysPieces_7 rfl (List.Mem.tail _ (List.Mem.head _)) ?_
  refine w_sipush (v := nZ 1440) dX10_laysPieces_8 (by decide) ?_
  refine i_cmp_ge (tgt := 93) dX10_laysPieces_11 rfl rx1 (by decide) (fun c9 => ?_) (fun c9 => ?_)
  · replace h := h.1 c9
    exact w_vret dX10_laysPieces_93 rfl h
  · replace h := h.2 c9
    refine w_aload_n dX10_laysPieces_14 rfl (List.Mem.head _) ?_
    refine w_getR (ci := 10) (k := 26) (b := 189) dX10_laysPieces_15 fl_10_52 (by decide) (gT hG rfl (lt_of rfl)) (gR hG (b := 189) rfl) ?_
    refine w_aload_n dX10_laysPieces_18 rfl (List.Mem.head _) ?_
    refine i_getI (ci := 10) 25 rfl dX10_laysPieces_19 fl_10_224 (by decide) (gT hG rfl (lt_of rfl)) ?_
    obtain ⟨h9, h⟩ := h
    have hj1 := vin_lt2 (n := 70) h9 rfl
    refine i_aald (n := 70) (b := (190 + ((rI σ 76 25).toNat))) dX10_laysPieces_22 (gT hG rfl (lt_of rfl)) (gL hG rfl) (rI_R _ _ _) h9 (gR hG (rr_189 hj1)) ?_
    refine w_iconst (v := nZ 0) dX10_laysPieces_23 (by decide) ?_
    refine w_iload_n dX10_laysPieces_24 rfl (List.Mem.tail _ (List.Mem.head _)) ?_
    refine i_iast (n := 4) dX10_laysPieces_25 (gT hG (ro_189 _ hj1).1 (by have := hj1; omega)) (gL hG (ro_189 _ hj1).2) (by decide) (by decide) (fun σ2 eσ3 => ?_)
    replace h := h σ2 eσ3
    have hG4 : G σ2 u := eσ3 ▸ G.wI hG
    refine w_aload_n dX10_laysPieces_26 rfl (List.Mem.head _) ?_
    refine w_getR (ci := 10) (k := 26) (b := 189) dX10_laysPieces_27 fl_10_52 (by decide) (gT hG4 rfl (lt_of rfl)) (gR hG4 (b := 189) rfl) ?_
    refine w_aload_n dX10_laysPieces_30 rfl (List.Mem.head _) ?_
    refine i_getI (ci := 10) 25 rfl dX10_laysPieces_31 fl_10_224 (by decide) (gT hG4 rfl (lt_of rfl)) ?_
    obtain ⟨h9, h⟩ := h
    have hj5 := vin_lt2 (n := 70) h9 rfl
    refine i_aald (n := 70) (b := (190 + ((rI σ2 76 25).toNat))) dX10_laysPieces_34 (gT hG4 rfl (lt_of rfl)) (gL hG4 rfl) (rI_R _ _ _) h9 (gR hG4 (rr_189 hj5)) ?_
    refine w_iconst (v := nZ 1) dX10_laysPieces_35 (by decide) ?_
    refine w_aload_n dX10_laysPieces_36 rfl (List.Mem.head _) ?_
    refine w_iload_n dX10_laysPieces_37 rfl (List.Mem.tail _ (List.Mem.head _)) ?_
    obtain ⟨r10, σ6, hc8, hG7, rr9, h⟩ := h
    refine w_callV dX10_laysPieces_38 ml_10_227 ⟨ok_X10_change, vi_X10_change⟩ hs_X10_change (As := [.int (nZ x1)]) rfl rfl (gT hG4 rfl (lt_of rfl)) (Nat.le_of_ble_eq_true rfl) hc8 ?_
    show wp C 10 cX10_laysPieces 2 none false [] sc P 41 [(0, .ref 76), (1, .int (nZ x1))] [.int (nZ r10), .int (nZ 1), .ref (190 + ((rI σ2 76 25).toNat))] σ6
    refine i_iast (n := 4) dX10_laysPieces_41 (gT hG7 (ro_189 _ hj5).1 (by have := hj5; omega)) (gL hG7 (ro_189 _ hj5).2) (by decide) (by decide) (fun σ11 eσ12 => ?_)
    replace h := h σ11 eσ12
    have hG13 : G σ11 u := eσ12 ▸ G.wI hG7
    refine w_aload_n dX10_laysPieces_42 rfl (List.Mem.head _) ?_
    refine w_getR (ci := 10) (k := 26) (b := 189) dX10_laysPieces_43 fl_10_52 (by decide) (gT hG13 rfl (lt_of rfl)) (gR hG13 (b := 189) rfl) ?_
    refine w_aload_n dX10_laysPieces_46 rfl (List.Mem.head _) ?_
    refine i_getI (ci := 10) 25 rfl dX10_laysPieces_47 fl_10_224 (by decide) (gT hG13 rfl (lt_of rfl)) ?_
    obtain ⟨h9, h⟩ := h
    have hj14 := vin_lt2 (n := 70) h9 rfl
    refine i_aald (n := 70) (b := (190 + ((rI σ11 76 25).toNat))) dX10_laysPieces_50 (gT hG13 rfl (lt_of rfl)) (gL hG13 rfl) (rI_R _ _ _) h9 (gR hG13 (rr_189 hj14)) ?_
    refine w_iconst (v := nZ 2) dX10_laysPieces_51 (by decide) ?_
    refine w_aload_n dX10_laysPieces_52 rfl (List.Mem.head _) ?_
    refine w_iload_n dX10_laysPieces_53 rfl (List.Mem.tail _ (List.Mem.head _)) ?_
    obtain ⟨r19, σ15, hc17, hG16, rr18, h⟩ := h
    refine w_callV dX10_laysPieces_54 ml_10_230 ⟨ok_X10_sunAt, vi_X10_sunAt⟩ hs_X10_sunAt (As := [.int (nZ x1)]) rfl rfl (gT hG13 rfl (lt_of rfl)) (Nat.le_of_ble_eq_true rfl) hc17 ?_
    show wp C 10 cX10_laysPieces 2 none false [] sc P 57 [(0, .ref 76), (1, .int (nZ x1))] [.int (nZ r19), .int (nZ 2), .ref (190 + ((rI σ11 76 25).toNat))] σ15
    refine i_iast (n := 4) dX10_laysPieces_57 (gT hG16 (ro_189 _ hj14).1 (by have := hj14; omega)) (gL hG16 (ro_189 _ hj14).2) (by decide) (by decide) (fun σ20 eσ21 => ?_)
    replace h := h σ20 eσ21
    have hG22 : G σ20 u := eσ21 ▸ G.wI hG16
    refine w_aload_n dX10_laysPieces_58 rfl (List.Mem.head _) ?_
    refine w_getR (ci := 10) (k := 26) (b := 189) dX10_laysPieces_59 fl_10_52 (by decide) (gT hG22 rfl (lt_of rfl)) (gR hG22 (b := 189) rfl) ?_
    refine w_aload_n dX10_laysPieces_62 rfl (List.Mem.head _) ?_
    refine i_getI (ci := 10) 25 rfl dX10_laysPieces_63 fl_10_224 (by decide) (gT hG22 rfl (lt_of rfl)) ?_
    obtain ⟨h9, h⟩ := h
    have hj23 := vin_lt2 (n := 70) h9 rfl
    refine i_aald (n := 70) (b := (190 + ((rI σ20 76 25).toNat))) dX10_laysPieces_66 (gT hG22 rfl (lt_of rfl)) (gL hG22 rfl) (rI_R _ _ _) h9 (gR hG22 (rr_189 hj23)) ?_
    refine w_iconst (v := nZ 3) dX10_laysPieces_67 (by decide) ?_
    refine w_aload_n dX10_laysPieces_68 rfl (List.Mem.head _) ?_
    refine w_iload_n dX10_laysPieces_69 rfl (List.Mem.tail _ (List.Mem.head _)) ?_
    obtain ⟨r28, σ24, hc26, hG25, rr27, h⟩ := h
    refine w_callV dX10_laysPieces_70 ml_10_233 ⟨ok_X10_rateAt, vi_X10_rateAt⟩ hs_X10_rateAt (As := [.int (nZ x1)]) rfl rfl (gT hG22 rfl (lt_of rfl)) (Nat.le_of_ble_eq_true rfl) hc26 ?_
    show wp C 10 cX10_laysPieces 2 none false [] sc P 73 [(0, .ref 76), (1, .int (nZ x1))] [.int (nZ r28), .int (nZ 3), .ref (190 + ((rI σ20 76 25).toNat))] σ24
    refine i_iast (n := 4) dX10_laysPieces_73 (gT hG25 (ro_189 _ hj23).1 (by have := hj23; omega)) (gL hG25 (ro_189 _ hj23).2) (by decide) (by decide) (fun σ29 eσ30 => ?_)
    replace h := h σ29 eσ30
    have hG31 : G σ29 u := eσ30 ▸ G.wI hG25
    refine w_aload_n dX10_laysPieces_74 rfl (List.Mem.head _) ?_
    refine w_dup dX10_laysPieces_75 rfl ?_
    refine i_getI (ci := 10) 25 rfl dX10_laysPieces_76 fl_10_224 (by decide) (gT hG31 rfl (lt_of rfl)) ?_
    refine w_iconst (v := nZ 1) dX10_laysPieces_79 (by decide) ?_
    obtain ⟨q32, h⟩ := h
    refine i_add dX10_laysPieces_80 ?_
    refine i_putI (ci := 10) 25 rfl dX10_laysPieces_81 fl_10_224 (by decide) (gT hG31 rfl (lt_of rfl)) (fun σ33 eσ34 => ?_)
    replace h := h σ33 eσ34
    have hG35 : G σ33 u := eσ34 ▸ G.wI hG31
    refine w_aload_n dX10_laysPieces_84 rfl (List.Mem.head _) ?_
    refine w_iload_n dX10_laysPieces_85 rfl (List.Mem.tail _ (List.Mem.head _)) ?_
    obtain ⟨r40, σ36, hc38, hG37, rr39, h⟩ := h
    refine w_callV dX10_laysPieces_86 ml_10_227 ⟨ok_X10_change, vi_X10_change⟩ hs_X10_change (As := [.int (nZ x1)]) rfl rfl (gT hG35 rfl (lt_of rfl)) (Nat.le_of_ble_eq_true rfl) hc38 ?_
    show wp C 10 cX10_laysPieces 2 none false [] sc P 89 [(0, .ref 76), (1, .int (nZ x1))] [.int (nZ r40)] σ36
    refine w_istore_n (l' := [(1, .int (nZ r40)), (0, .ref 76)]) dX10_laysPieces_89 rfl (by decide) rfl ?_
    refine w_goto (tgt := 7) dX10_laysPieces_90 rfl ?_
    exact w_weak (l' := [(0, .ref 76), (1, .int (nZ r40))]) (by intro q hq; simp only [List.mem_cons, List.not_mem_nil, or_false] at hq ⊢; rcases hq with rfl | rfl <;> simp) h
theorem dX10_fault_0 : decode cX10_fault 0 = .ok (.aload_n 0, 1) := by decide +kernel
theorem dX10_fault_1 : decode cX10_fault 1 = .ok (.iconst 0, 1) := by decide +kernel
theorem dX10_fault_2 : decode cX10_fault 2 = .ok (.putfield 106, 3) := by decide +kernel
theorem dX10_fault_5 : decode cX10_fault 5 = .ok (.aload_n 0, 1) := by decide +kernel
theorem dX10_fault_6 : decode cX10_fault 6 = .ok (.getfield 9, 3) := by decide +kernel
theorem dX10_fault_9 : decode cX10_fault 9 = .ok (.ireturn, 1) := by decide +kernel
set_option maxRecDepth 10000 in
theorem t_X10_fault {sc : Nat × (Nat → Int32)} {d : Nat} {Q : aO → aH → Prop} {σ : aH} {u : Nat}   (hG : G σ u) 
    (h : (∀ σ1 : aH, wI σ 76 0 0 = σ1 → Q (.inl (some (.int (nZ (rI σ1 76 3))))) σ1)) :
    T sc (d + 1) mX10_fault [.ref 76] σ Q := by
  refine T.of (c := 10) (code := cX10_fault) (mL := 1) (rt := (some .int)) (ini := false) (l := [(0, .ref 76)]) rfl rfl rfl rfl (by decide) hs_X10_fault rfl rfl ?_
  refine w_aload_n dX10_fault_0 rfl (List.Mem.head _) ?_
  refine w_iconst (v := nZ 0) dX10_fault_1 (by decide) ?_
  refine i_putI (ci := 10) 0 rfl dX10_fault_2 fl_10_106 (by decide) (gT hG rfl (lt_of rfl)) (fun σ1 eσ2 => ?_)
  replace h := h σ1 eσ2
  have hG3 : G σ1 u := eσ2 ▸ G.wI hG
  refine w_aload_n dX10_fault_5 rfl (List.Mem.head _) ?_
  refine i_getI (ci := 10) 3 rfl dX10_fault_6 fl_10_9 (by decide) (gT hG3 rfl (lt_of rfl)) ?_
  exact w_iret dX10_fault_9 rfl h
theorem dX10_told_0 : decode cX10_told 0 = .ok (.aload_n 0, 1) := by decide +kernel
theorem dX10_told_1 : decode cX10_told 1 = .ok (.iconst 0, 1) := by decide +kernel
theorem dX10_told_2 : decode cX10_told 2 = .ok (.putfield 106, 3) := by decide +kernel
theorem dX10_told_5 : decode cX10_told 5 = .ok (.aload_n 0, 1) := by decide +kernel
theorem dX10_told_6 : decode cX10_told 6 = .ok (.iload_n 1, 1) := by decide +kernel
theorem dX10_told_7 : decode cX10_told 7 = .ok (.iconst 0, 1) := by decide +kernel
theorem dX10_told_8 : decode cX10_told 8 = .ok (.bipush 7, 2) := by decide +kernel
theorem dX10_told_10 : decode cX10_told 10 = .ok (.invokestatic 140, 3) := by decide +kernel
theorem dX10_told_13 : decode cX10_told 13 = .ok (.ifCond .ne 7, 3) := by decide +kernel
theorem dX10_told_16 : decode cX10_told 16 = .ok (.iconst 1, 1) := by decide +kernel
theorem dX10_told_17 : decode cX10_told 17 = .ok (.goto 4, 3) := by decide +kernel
theorem dX10_told_20 : decode cX10_told 20 = .ok (.iconst 0, 1) := by decide +kernel
theorem dX10_told_21 : decode cX10_told 21 = .ok (.iconst 1, 1) := by decide +kernel
theorem dX10_told_22 : decode cX10_told 22 = .ok (.iconst 1, 1) := by decide +kernel
theorem dX10_told_23 : decode cX10_told 23 = .ok (.invokevirtual 196, 3) := by decide +kernel
theorem dX10_told_26 : decode cX10_told 26 = .ok (.ifCond .eq 5, 3) := by decide +kernel
theorem dX10_told_29 : decode cX10_told 29 = .ok (.iconst 0, 1) := by decide +kernel
theorem dX10_told_30 : decode cX10_told 30 = .ok (.ireturn, 1) := by decide +kernel
theorem dX10_told_31 : decode cX10_told 31 = .ok (.iload_n 1, 1) := by decide +kernel
theorem dX10_told_32 : decode cX10_told 32 = .ok (.iconst 3, 1) := by decide +kernel
theorem dX10_told_33 : decode cX10_told 33 = .ok (.if_icmp .ge 12, 3) := by decide +kernel
theorem dX10_told_36 : decode cX10_told 36 = .ok (.aload_n 0, 1) := by decide +kernel
theorem dX10_told_37 : decode cX10_told 37 = .ok (.getfield 23, 3) := by decide +kernel
theorem dX10_told_40 : decode cX10_told 40 = .ok (.iload_n 1, 1) := by decide +kernel
theorem dX10_told_41 : decode cX10_told 41 = .ok (.iaload, 1) := by decide +kernel
theorem dX10_told_42 : decode cX10_told 42 = .ok (.goto 35, 3) := by decide +kernel
theorem dX10_told_45 : decode cX10_told 45 = .ok (.iload_n 1, 1) := by decide +kernel
theorem dX10_told_46 : decode cX10_told 46 = .ok (.iconst 3, 1) := by decide +kernel
theorem dX10_told_47 : decode cX10_told 47 = .ok (.if_icmp .ne 10, 3) := by decide +kernel
theorem dX10_told_50 : decode cX10_told 50 = .ok (.aload_n 0, 1) := by decide +kernel
theorem dX10_told_51 : decode cX10_told 51 = .ok (.getfield 203, 3) := by decide +kernel
theorem dX10_told_54 : decode cX10_told 54 = .ok (.goto 23, 3) := by decide +kernel
theorem dX10_told_57 : decode cX10_told 57 = .ok (.iload_n 1, 1) := by decide +kernel
theorem dX10_told_58 : decode cX10_told 58 = .ok (.iconst 4, 1) := by decide +kernel
theorem dX10_told_59 : decode cX10_told 59 = .ok (.if_icmp .ne 10, 3) := by decide +kernel
theorem dX10_told_62 : decode cX10_told 62 = .ok (.aload_n 0, 1) := by decide +kernel
theorem dX10_told_63 : decode cX10_told 63 = .ok (.getfield 206, 3) := by decide +kernel
theorem dX10_told_66 : decode cX10_told 66 = .ok (.goto 11, 3) := by decide +kernel
theorem dX10_told_69 : decode cX10_told 69 = .ok (.aload_n 0, 1) := by decide +kernel
theorem dX10_told_70 : decode cX10_told 70 = .ok (.getfield 23, 3) := by decide +kernel
theorem dX10_told_73 : decode cX10_told 73 = .ok (.iload_n 1, 1) := by decide +kernel
theorem dX10_told_74 : decode cX10_told 74 = .ok (.iconst 2, 1) := by decide +kernel
theorem dX10_told_75 : decode cX10_told 75 = .ok (.isub, 1) := by decide +kernel
theorem dX10_told_76 : decode cX10_told 76 = .ok (.iaload, 1) := by decide +kernel
theorem dX10_told_77 : decode cX10_told 77 = .ok (.ireturn, 1) := by decide +kernel
def L_X10_told_21 (C : aM → List Value → aH → aO → aH → Prop) (sc : Nat × (Nat → Int32)) (P : aO → aH → Prop) (x1 : Int) (s0 : Int) (σ : aH) : Prop :=
    wp C 10 cX10_told 2 (some .int) false [] sc P 21 [(0, .ref 76), (1, .int (nZ x1))] [.int (nZ s0), .ref 76] σ
set_option maxRecDepth 10000 in
theorem t_X10_told {sc : Nat × (Nat → Int32)} {d : Nat} {Q : aO → aH → Prop} {σ : aH} {u : Nat}  {x1 : Int} (hG : G σ u) (rx1 : inR x1)
    (h : (∀ σ1 : aH, wI σ 76 0 0 = σ1 → (∃ (r8 : Int) (σ4 : aH), Ev sc d mX10_in [.int (nZ x1), .int (nZ 0), .int (nZ 7)] σ1 (.inl (some (.int (nZ r8)))) σ4 ∧ G σ4 u ∧ inR r8 ∧ ((¬ r8 = 0 → L_X10_told_21 (Ev sc d) sc Q x1 0 σ4) ∧ (r8 = 0 → L_X10_told_21 (Ev sc d) sc Q x1 1 σ4))))) :
    T sc (d + 1) mX10_told [.ref 76, .int (nZ x1)] σ Q := by
  refine T.of (c := 10) (code := cX10_told) (mL := 2) (rt := (some .int)) (ini := false) (l := [(0, .ref 76), (1, .int (nZ x1))]) rfl rfl rfl rfl (by decide) hs_X10_told rfl rfl ?_
  refine w_aload_n dX10_told_0 rfl (List.Mem.head _) ?_
  refine w_iconst (v := nZ 0) dX10_told_1 (by decide) ?_
  refine i_putI (ci := 10) 0 rfl dX10_told_2 fl_10_106 (by decide) (gT hG rfl (lt_of rfl)) (fun σ1 eσ2 => ?_)
  replace h := h σ1 eσ2
  have hG3 : G σ1 u := eσ2 ▸ G.wI hG
  refine w_aload_n dX10_told_5 rfl (List.Mem.head _) ?_
  refine w_iload_n dX10_told_6 rfl (List.Mem.tail _ (List.Mem.head _)) ?_
  refine w_iconst (v := nZ 0) dX10_told_7 (by decide) ?_
  refine w_bipush (v := nZ 7) dX10_told_8 (by decide) ?_
  obtain ⟨r8, σ4, hc6, hG5, rr7, h⟩ := h
  refine w_callS dX10_told_10 ml_10_140 ⟨ok_X10_in, st_X10_in⟩ hs_X10_in (As := [.int (nZ x1), .int (nZ 0), .int (nZ 7)]) rfl rfl (Nat.le_of_ble_eq_true rfl) hc6 ?_
  show wp (Ev sc d) 10 cX10_told 2 (some .int) false [] sc Q 13 [(0, .ref 76), (1, .int (nZ x1))] [.int (nZ r8), .ref 76] σ4
  refine i_if_ne (tgt := 20) dX10_told_13 rfl rr7 (fun c9 => ?_) (fun c9 => ?_)
  · replace h := h.1 c9
    refine w_iconst (v := nZ 0) dX10_told_20 (by decide) ?_
    exact h
  · replace h := h.2 c9
    refine w_iconst (v := nZ 1) dX10_told_16 (by decide) ?_
    refine w_goto (tgt := 21) dX10_told_17 rfl ?_
    exact h
set_option maxRecDepth 10000 in
theorem v_X10_told_21 {C : aM → List Value → aH → aO → aH → Prop} {sc : Nat × (Nat → Int32)} {P : aO → aH → Prop} {σ : aH} {u : Nat}  {x1 : Int} {s0 : Int} (hG : G σ u) (rx1 : inR x1) (rs0 : inR s0)
    (h : (∃ (r5 : Int) (σ1 : aH), C mX10_bad [.ref 76, .int (nZ s0), .int (nZ 1), .int (nZ 1)] σ (.inl (some (.int (nZ r5)))) σ1 ∧ G σ1 u ∧ inR r5 ∧ ((r5 = 0 → ((3 ≤ x1 → ((¬ x1 = 3 → ((¬ x1 = 4 → (inR (x1 - 2) ∧ ((0 ≤ (x1 - 2) ∧ (x1 - 2) < 8) ∧ P (.inl (some (.int (nZ (rI σ1 80 (x1 - 2)))))) σ1))) ∧ (x1 = 4 → P (.inl (some (.int (nZ (rI σ1 76 19))))) σ1))) ∧ (x1 = 3 → P (.inl (some (.int (nZ (rI σ1 76 18))))) σ1))) ∧ (¬ (3 ≤ x1) → ((0 ≤ x1 ∧ x1 < 8) ∧ P (.inl (some (.int (nZ (rI σ1 80 x1))))) σ1)))) ∧ (¬ (r5 = 0) → P (.inl (some (.int (nZ 0)))) σ1)))) :
    L_X10_told_21 C sc P x1 s0 σ := by
  unfold L_X10_told_21
  refine w_iconst (v := nZ 1) dX10_told_21 (by decide) ?_
  refine w_iconst (v := nZ 1) dX10_told_22 (by decide) ?_
  obtain ⟨r5, σ1, hc3, hG2, rr4, h⟩ := h
  refine w_callV dX10_told_23 ml_10_196 ⟨ok_X10_bad, vi_X10_bad⟩ hs_X10_bad (As := [.int (nZ s0), .int (nZ 1), .int (nZ 1)]) rfl rfl (gT hG rfl (lt_of rfl)) (Nat.le_of_ble_eq_true rfl) hc3 ?_
  show wp C 10 cX10_told 2 (some .int) false [] sc P 26 [(0, .ref 76), (1, .int (nZ x1))] [.int (nZ r5)] σ1
  refine i_if_eq (tgt := 31) dX10_told_26 rfl rr4 (fun c9 => ?_) (fun c9 => ?_)
  · replace h := h.1 c9
    refine w_iload_n dX10_told_31 rfl (List.Mem.tail _ (List.Mem.head _)) ?_
    refine w_iconst (v := nZ 3) dX10_told_32 (by decide) ?_
    refine i_cmp_ge (tgt := 45) dX10_told_33 rfl rx1 (by decide) (fun c9 => ?_) (fun c9 => ?_)
    · replace h := h.1 c9
      refine w_iload_n dX10_told_45 rfl (List.Mem.tail _ (List.Mem.head _)) ?_
      refine w_iconst (v := nZ 3) dX10_told_46 (by decide) ?_
      refine i_cmp_ne (tgt := 57) dX10_told_47 rfl rx1 (by decide) (fun c9 => ?_) (fun c9 => ?_)
      · replace h := h.1 c9
        refine w_iload_n dX10_told_57 rfl (List.Mem.tail _ (List.Mem.head _)) ?_
        refine w_iconst (v := nZ 4) dX10_told_58 (by decide) ?_
        refine i_cmp_ne (tgt := 69) dX10_told_59 rfl rx1 (by decide) (fun c9 => ?_) (fun c9 => ?_)
        · replace h := h.1 c9
          refine w_aload_n dX10_told_69 rfl (List.Mem.head _) ?_
          refine w_getR (ci := 10) (k := 11) (b := 80) dX10_told_70 fl_10_23 (by decide) (gT hG2 rfl (lt_of rfl)) (gR hG2 (b := 80) rfl) ?_
          refine w_iload_n dX10_told_73 rfl (List.Mem.tail _ (List.Mem.head _)) ?_
          refine w_iconst (v := nZ 2) dX10_told_74 (by decide) ?_
          obtain ⟨q6, h⟩ := h
          refine i_sub dX10_told_75 ?_
          obtain ⟨h9, h⟩ := h
          refine i_iald (n := 8) dX10_told_76 (gT hG2 rfl (lt_of rfl)) (gL hG2 rfl) q6 h9 ?_
          exact w_iret dX10_told_77 rfl h
        · replace h := h.2 c9
          refine w_aload_n dX10_told_62 rfl (List.Mem.head _) ?_
          refine i_getI (ci := 10) 19 rfl dX10_told_63 fl_10_206 (by decide) (gT hG2 rfl (lt_of rfl)) ?_
          refine w_goto (tgt := 77) dX10_told_66 rfl ?_
          exact w_iret dX10_told_77 rfl h
      · replace h := h.2 c9
        refine w_aload_n dX10_told_50 rfl (List.Mem.head _) ?_
        refine i_getI (ci := 10) 18 rfl dX10_told_51 fl_10_203 (by decide) (gT hG2 rfl (lt_of rfl)) ?_
        refine w_goto (tgt := 77) dX10_told_54 rfl ?_
        exact w_iret dX10_told_77 rfl h
    · replace h := h.2 c9
      refine w_aload_n dX10_told_36 rfl (List.Mem.head _) ?_
      refine w_getR (ci := 10) (k := 11) (b := 80) dX10_told_37 fl_10_23 (by decide) (gT hG2 rfl (lt_of rfl)) (gR hG2 (b := 80) rfl) ?_
      refine w_iload_n dX10_told_40 rfl (List.Mem.tail _ (List.Mem.head _)) ?_
      obtain ⟨h9, h⟩ := h
      refine i_iald (n := 8) dX10_told_41 (gT hG2 rfl (lt_of rfl)) (gL hG2 rfl) rx1 h9 ?_
      refine w_goto (tgt := 77) dX10_told_42 rfl ?_
      exact w_iret dX10_told_77 rfl h
  · replace h := h.2 c9
    refine w_iconst (v := nZ 0) dX10_told_29 (by decide) ?_
    exact w_iret dX10_told_30 rfl h
theorem dX10_isStall_0 : decode cX10_isStall 0 = .ok (.iload_n 1, 1) := by decide +kernel
theorem dX10_isStall_1 : decode cX10_isStall 1 = .ok (.iconst 0, 1) := by decide +kernel
theorem dX10_isStall_2 : decode cX10_isStall 2 = .ok (.aload_n 0, 1) := by decide +kernel
theorem dX10_isStall_3 : decode cX10_isStall 3 = .ok (.getfield 23, 3) := by decide +kernel
theorem dX10_isStall_6 : decode cX10_isStall 6 = .ok (.iconst 2, 1) := by decide +kernel
theorem dX10_isStall_7 : decode cX10_isStall 7 = .ok (.iaload, 1) := by decide +kernel
theorem dX10_isStall_8 : decode cX10_isStall 8 = .ok (.iconst 1, 1) := by decide +kernel
theorem dX10_isStall_9 : decode cX10_isStall 9 = .ok (.isub, 1) := by decide +kernel
theorem dX10_isStall_10 : decode cX10_isStall 10 = .ok (.invokestatic 140, 3) := by decide +kernel
theorem dX10_isStall_13 : decode cX10_isStall 13 = .ok (.ireturn, 1) := by decide +kernel
set_option maxRecDepth 10000 in
theorem t_X10_isStall {sc : Nat × (Nat → Int32)} {d : Nat} {Q : aO → aH → Prop} {σ : aH} {u : Nat}  {x1 : Int} (hG : G σ u) (rx1 : inR x1)
    (h : (inR ((rI σ 80 2) - 1) ∧ (∃ (r6 : Int) (σ2 : aH), Ev sc d mX10_in [.int (nZ x1), .int (nZ 0), .int (nZ ((rI σ 80 2) - 1))] σ (.inl (some (.int (nZ r6)))) σ2 ∧ G σ2 u ∧ inR r6 ∧ ((r6 = 0 ∨ r6 = 1) ∧ Q (.inl (some (.int (nZ r6)))) σ2)))) :
    T sc (d + 1) mX10_isStall [.ref 76, .int (nZ x1)] σ Q := by
  refine T.of (c := 10) (code := cX10_isStall) (mL := 2) (rt := (some .boolean)) (ini := false) (l := [(0, .ref 76), (1, .int (nZ x1))]) rfl rfl rfl rfl (by decide) hs_X10_isStall rfl rfl ?_
  refine w_iload_n dX10_isStall_0 rfl (List.Mem.tail _ (List.Mem.head _)) ?_
  refine w_iconst (v := nZ 0) dX10_isStall_1 (by decide) ?_
  refine w_aload_n dX10_isStall_2 rfl (List.Mem.head _) ?_
  refine w_getR (ci := 10) (k := 11) (b := 80) dX10_isStall_3 fl_10_23 (by decide) (gT hG rfl (lt_of rfl)) (gR hG (b := 80) rfl) ?_
  refine w_iconst (v := nZ 2) dX10_isStall_6 (by decide) ?_
  refine i_iald (n := 8) dX10_isStall_7 (gT hG rfl (lt_of rfl)) (gL hG rfl) (by decide) (by decide) ?_
  refine w_iconst (v := nZ 1) dX10_isStall_8 (by decide) ?_
  obtain ⟨q1, h⟩ := h
  refine i_sub dX10_isStall_9 ?_
  obtain ⟨r6, σ2, hc4, hG3, rr5, h⟩ := h
  refine w_callS dX10_isStall_10 ml_10_140 ⟨ok_X10_in, st_X10_in⟩ hs_X10_in (As := [.int (nZ x1), .int (nZ 0), .int (nZ ((rI σ 80 2) - 1))]) rfl rfl (Nat.le_of_ble_eq_true rfl) hc4 ?_
  show wp (Ev sc d) 10 cX10_isStall 2 (some .boolean) false [] sc Q 13 [(0, .ref 76), (1, .int (nZ x1))] [.int (nZ r6)] σ2
  exact i_zret dX10_isStall_13 rfl h.1 h.2
theorem dX10_stall_0 : decode cX10_stall 0 = .ok (.aload_n 0, 1) := by decide +kernel
theorem dX10_stall_1 : decode cX10_stall 1 = .ok (.iconst 0, 1) := by decide +kernel
theorem dX10_stall_2 : decode cX10_stall 2 = .ok (.putfield 106, 3) := by decide +kernel
theorem dX10_stall_5 : decode cX10_stall 5 = .ok (.aload_n 0, 1) := by decide +kernel
theorem dX10_stall_6 : decode cX10_stall 6 = .ok (.aload_n 0, 1) := by decide +kernel
theorem dX10_stall_7 : decode cX10_stall 7 = .ok (.iload_n 1, 1) := by decide +kernel
theorem dX10_stall_8 : decode cX10_stall 8 = .ok (.invokevirtual 236, 3) := by decide +kernel
theorem dX10_stall_11 : decode cX10_stall 11 = .ok (.ifCond .ne 7, 3) := by decide +kernel
theorem dX10_stall_14 : decode cX10_stall 14 = .ok (.iconst 1, 1) := by decide +kernel
theorem dX10_stall_15 : decode cX10_stall 15 = .ok (.goto 4, 3) := by decide +kernel
theorem dX10_stall_18 : decode cX10_stall 18 = .ok (.iconst 0, 1) := by decide +kernel
theorem dX10_stall_19 : decode cX10_stall 19 = .ok (.iconst 1, 1) := by decide +kernel
theorem dX10_stall_20 : decode cX10_stall 20 = .ok (.iconst 0, 1) := by decide +kernel
theorem dX10_stall_21 : decode cX10_stall 21 = .ok (.invokevirtual 196, 3) := by decide +kernel
theorem dX10_stall_24 : decode cX10_stall 24 = .ok (.ifCond .ne 27, 3) := by decide +kernel
theorem dX10_stall_27 : decode cX10_stall 27 = .ok (.aload_n 0, 1) := by decide +kernel
theorem dX10_stall_28 : decode cX10_stall 28 = .ok (.iload_n 2, 1) := by decide +kernel
theorem dX10_stall_29 : decode cX10_stall 29 = .ok (.iconst 0, 1) := by decide +kernel
theorem dX10_stall_30 : decode cX10_stall 30 = .ok (.bipush 6, 2) := by decide +kernel
theorem dX10_stall_32 : decode cX10_stall 32 = .ok (.invokestatic 140, 3) := by decide +kernel
theorem dX10_stall_35 : decode cX10_stall 35 = .ok (.ifCond .ne 7, 3) := by decide +kernel
theorem dX10_stall_38 : decode cX10_stall 38 = .ok (.iconst 1, 1) := by decide +kernel
theorem dX10_stall_39 : decode cX10_stall 39 = .ok (.goto 4, 3) := by decide +kernel
theorem dX10_stall_42 : decode cX10_stall 42 = .ok (.iconst 0, 1) := by decide +kernel
theorem dX10_stall_43 : decode cX10_stall 43 = .ok (.iconst 2, 1) := by decide +kernel
theorem dX10_stall_44 : decode cX10_stall 44 = .ok (.iconst 1, 1) := by decide +kernel
theorem dX10_stall_45 : decode cX10_stall 45 = .ok (.invokevirtual 196, 3) := by decide +kernel
theorem dX10_stall_48 : decode cX10_stall 48 = .ok (.ifCond .eq 5, 3) := by decide +kernel
theorem dX10_stall_51 : decode cX10_stall 51 = .ok (.iconst 0, 1) := by decide +kernel
theorem dX10_stall_52 : decode cX10_stall 52 = .ok (.ireturn, 1) := by decide +kernel
theorem dX10_stall_53 : decode cX10_stall 53 = .ok (.aload_n 0, 1) := by decide +kernel
theorem dX10_stall_54 : decode cX10_stall 54 = .ok (.getfield 31, 3) := by decide +kernel
theorem dX10_stall_57 : decode cX10_stall 57 = .ok (.iload_n 1, 1) := by decide +kernel
theorem dX10_stall_58 : decode cX10_stall 58 = .ok (.aaload, 1) := by decide +kernel
theorem dX10_stall_59 : decode cX10_stall 59 = .ok (.iload_n 2, 1) := by decide +kernel
theorem dX10_stall_60 : decode cX10_stall 60 = .ok (.iaload, 1) := by decide +kernel
theorem dX10_stall_61 : decode cX10_stall 61 = .ok (.ireturn, 1) := by decide +kernel
def L_X10_stall_19 (C : aM → List Value → aH → aO → aH → Prop) (sc : Nat × (Nat → Int32)) (P : aO → aH → Prop) (x1 : Int) (x2 : Int) (s0 : Int) (σ : aH) : Prop :=
    wp C 10 cX10_stall 3 (some .int) false [] sc P 19 [(0, .ref 76), (1, .int (nZ x1)), (2, .int (nZ x2))] [.int (nZ s0), .ref 76] σ
set_option maxRecDepth 10000 in
theorem t_X10_stall {sc : Nat × (Nat → Int32)} {d : Nat} {Q : aO → aH → Prop} {σ : aH} {u : Nat}  {x1 : Int} {x2 : Int} (hG : G σ u) (rx1 : inR x1) (rx2 : inR x2)
    (h : (∀ σ1 : aH, wI σ 76 0 0 = σ1 → (∃ (r8 : Int) (σ4 : aH), Ev sc d mX10_isStall [.ref 76, .int (nZ x1)] σ1 (.inl (some (.int (nZ r8)))) σ4 ∧ G σ4 u ∧ inR r8 ∧ ((¬ r8 = 0 → L_X10_stall_19 (Ev sc d) sc Q x1 x2 0 σ4) ∧ (r8 = 0 → L_X10_stall_19 (Ev sc d) sc Q x1 x2 1 σ4))))) :
    T sc (d + 1) mX10_stall [.ref 76, .int (nZ x1), .int (nZ x2)] σ Q := by
  refine T.of (c := 10) (code := cX10_stall) (mL := 3) (rt := (some .int)) (ini := false) (l := [(0, .ref 76), (1, .int (nZ x1)), (2, .int (nZ x2))]) rfl rfl rfl rfl (by decide) hs_X10_stall rfl rfl ?_
  refine w_aload_n dX10_stall_0 rfl (List.Mem.head _) ?_
  refine w_iconst (v := nZ 0) dX10_stall_1 (by decide) ?_
  refine i_putI (ci := 10) 0 rfl dX10_stall_2 fl_10_106 (by decide) (gT hG rfl (lt_of rfl)) (fun σ1 eσ2 => ?_)
  replace h := h σ1 eσ2
  have hG3 : G σ1 u := eσ2 ▸ G.wI hG
  refine w_aload_n dX10_stall_5 rfl (List.Mem.head _) ?_
  refine w_aload_n dX10_stall_6 rfl (List.Mem.head _) ?_
  refine w_iload_n dX10_stall_7 rfl (List.Mem.tail _ (List.Mem.head _)) ?_
  obtain ⟨r8, σ4, hc6, hG5, rr7, h⟩ := h
  refine w_callV dX10_stall_8 ml_10_236 ⟨ok_X10_isStall, vi_X10_isStall⟩ hs_X10_isStall (As := [.int (nZ x1)]) rfl rfl (gT hG3 rfl (lt_of rfl)) (Nat.le_of_ble_eq_true rfl) hc6 ?_
  show wp (Ev sc d) 10 cX10_stall 3 (some .int) false [] sc Q 11 [(0, .ref 76), (1, .int (nZ x1)), (2, .int (nZ x2))] [.int (nZ r8), .ref 76] σ4
  refine i_if_ne (tgt := 18) dX10_stall_11 rfl rr7 (fun c9 => ?_) (fun c9 => ?_)
  · replace h := h.1 c9
    refine w_iconst (v := nZ 0) dX10_stall_18 (by decide) ?_
    exact h
  · replace h := h.2 c9
    refine w_iconst (v := nZ 1) dX10_stall_14 (by decide) ?_
    refine w_goto (tgt := 19) dX10_stall_15 rfl ?_
    exact h
set_option maxRecDepth 10000 in
theorem v_X10_stall_19 {C : aM → List Value → aH → aO → aH → Prop} {sc : Nat × (Nat → Int32)} {P : aO → aH → Prop} {σ : aH} {u : Nat}  {x1 : Int} {x2 : Int} {s0 : Int} (hG : G σ u) (rx1 : inR x1) (rx2 : inR x2) (rs0 : inR s0)
    (h : (∃ (r5 : Int) (σ1 : aH), C mX10_bad [.ref 76, .int (nZ s0), .int (nZ 1), .int (nZ 0)] σ (.inl (some (.int (nZ r5)))) σ1 ∧ G σ1 u ∧ inR r5 ∧ ((¬ r5 = 0 → P (.inl (some (.int (nZ 0)))) σ1) ∧ (r5 = 0 → (∃ (r10 : Int) (σ6 : aH), C mX10_in [.int (nZ x2), .int (nZ 0), .int (nZ 6)] σ1 (.inl (some (.int (nZ r10)))) σ6 ∧ G σ6 u ∧ inR r10 ∧ ((¬ r10 = 0 → (∃ (r15 : Int) (σ11 : aH), C mX10_bad [.ref 76, .int (nZ 0), .int (nZ 2), .int (nZ 1)] σ6 (.inl (some (.int (nZ r15)))) σ11 ∧ G σ11 u ∧ inR r15 ∧ ((r15 = 0 → ((0 ≤ x1 ∧ x1 < 9) ∧ ((0 ≤ x2 ∧ x2 < 7) ∧ P (.inl (some (.int (nZ (rI σ11 (91 + x1.toNat) x2))))) σ11))) ∧ (¬ (r15 = 0) → P (.inl (some (.int (nZ 0)))) σ11)))) ∧ (r10 = 0 → (∃ (r21 : Int) (σ17 : aH), C mX10_bad [.ref 76, .int (nZ 1), .int (nZ 2), .int (nZ 1)] σ6 (.inl (some (.int (nZ r21)))) σ17 ∧ G σ17 u ∧ inR r21 ∧ ((r21 = 0 → ((0 ≤ x1 ∧ x1 < 9) ∧ ((0 ≤ x2 ∧ x2 < 7) ∧ P (.inl (some (.int (nZ (rI σ17 (91 + x1.toNat) x2))))) σ17))) ∧ (¬ (r21 = 0) → P (.inl (some (.int (nZ 0)))) σ17)))))))))) :
    L_X10_stall_19 C sc P x1 x2 s0 σ := by
  unfold L_X10_stall_19
  refine w_iconst (v := nZ 1) dX10_stall_19 (by decide) ?_
  refine w_iconst (v := nZ 0) dX10_stall_20 (by decide) ?_
  obtain ⟨r5, σ1, hc3, hG2, rr4, h⟩ := h
  refine w_callV dX10_stall_21 ml_10_196 ⟨ok_X10_bad, vi_X10_bad⟩ hs_X10_bad (As := [.int (nZ s0), .int (nZ 1), .int (nZ 0)]) rfl rfl (gT hG rfl (lt_of rfl)) (Nat.le_of_ble_eq_true rfl) hc3 ?_
  show wp C 10 cX10_stall 3 (some .int) false [] sc P 24 [(0, .ref 76), (1, .int (nZ x1)), (2, .int (nZ x2))] [.int (nZ r5)] σ1
  refine i_if_ne (tgt := 51) dX10_stall_24 rfl rr4 (fun c9 => ?_) (fun c9 => ?_)
  · replace h := h.1 c9
    refine w_iconst (v := nZ 0) dX10_stall_51 (by decide) ?_
    exact w_iret dX10_stall_52 rfl h
  · replace h := h.2 c9
    refine w_aload_n dX10_stall_27 rfl (List.Mem.head _) ?_
    refine w_iload_n dX10_stall_28 rfl (List.Mem.tail _ (List.Mem.tail _ (List.Mem.head _))) ?_
    refine w_iconst (v := nZ 0) dX10_stall_29 (by decide) ?_
    refine w_bipush (v := nZ 6) dX10_stall_30 (by decide) ?_
    obtain ⟨r10, σ6, hc8, hG7, rr9, h⟩ := h
    refine w_callS dX10_stall_32 ml_10_140 ⟨ok_X10_in, st_X10_in⟩ hs_X10_in (As := [.int (nZ x2), .int (nZ 0), .int (nZ 6)]) rfl rfl (Nat.le_of_ble_eq_true rfl) hc8 ?_
    show wp C 10 cX10_stall 3 (some .int) false [] sc P 35 [(0, .ref 76), (1, .int (nZ x1)), (2, .int (nZ x2))] [.int (nZ r10), .ref 76] σ6
    refine i_if_ne (tgt := 42) dX10_stall_35 rfl rr9 (fun c9 => ?_) (fun c9 => ?_)
    · replace h := h.1 c9
      refine w_iconst (v := nZ 0) dX10_stall_42 (by decide) ?_
      refine w_iconst (v := nZ 2) dX10_stall_43 (by decide) ?_
      refine w_iconst (v := nZ 1) dX10_stall_44 (by decide) ?_
      obtain ⟨r15, σ11, hc13, hG12, rr14, h⟩ := h
      refine w_callV dX10_stall_45 ml_10_196 ⟨ok_X10_bad, vi_X10_bad⟩ hs_X10_bad (As := [.int (nZ 0), .int (nZ 2), .int (nZ 1)]) rfl rfl (gT hG7 rfl (lt_of rfl)) (Nat.le_of_ble_eq_true rfl) hc13 ?_
      show wp C 10 cX10_stall 3 (some .int) false [] sc P 48 [(0, .ref 76), (1, .int (nZ x1)), (2, .int (nZ x2))] [.int (nZ r15)] σ11
      refine i_if_eq (tgt := 53) dX10_stall_48 rfl rr14 (fun c9 => ?_) (fun c9 => ?_)
      · replace h := h.1 c9
        refine w_aload_n dX10_stall_53 rfl (List.Mem.head _) ?_
        refine w_getR (ci := 10) (k := 13) (b := 90) dX10_stall_54 fl_10_31 (by decide) (gT hG12 rfl (lt_of rfl)) (gR hG12 (b := 90) rfl) ?_
        refine w_iload_n dX10_stall_57 rfl (List.Mem.tail _ (List.Mem.head _)) ?_
        obtain ⟨h9, h⟩ := h
        have hj16 := vin_lt2 (n := 9) h9 rfl
        refine i_aald (n := 9) (b := (91 + x1.toNat)) dX10_stall_58 (gT hG12 rfl (lt_of rfl)) (gL hG12 rfl) rx1 h9 (gR hG12 (rr_90 hj16)) ?_
        refine w_iload_n dX10_stall_59 rfl (List.Mem.tail _ (List.Mem.tail _ (List.Mem.head _))) ?_
        obtain ⟨h9, h⟩ := h
        refine i_iald (n := 7) dX10_stall_60 (gT hG12 (ro_90 _ hj16).1 (by have := hj16; omega)) (gL hG12 (ro_90 _ hj16).2) rx2 h9 ?_
        exact w_iret dX10_stall_61 rfl h
      · replace h := h.2 c9
        refine w_iconst (v := nZ 0) dX10_stall_51 (by decide) ?_
        exact w_iret dX10_stall_52 rfl h
    · replace h := h.2 c9
      refine w_iconst (v := nZ 1) dX10_stall_38 (by decide) ?_
      refine w_goto (tgt := 43) dX10_stall_39 rfl ?_
      refine w_iconst (v := nZ 2) dX10_stall_43 (by decide) ?_
      refine w_iconst (v := nZ 1) dX10_stall_44 (by decide) ?_
      obtain ⟨r21, σ17, hc19, hG18, rr20, h⟩ := h
      refine w_callV dX10_stall_45 ml_10_196 ⟨ok_X10_bad, vi_X10_bad⟩ hs_X10_bad (As := [.int (nZ 1), .int (nZ 2), .int (nZ 1)]) rfl rfl (gT hG7 rfl (lt_of rfl)) (Nat.le_of_ble_eq_true rfl) hc19 ?_
      show wp C 10 cX10_stall 3 (some .int) false [] sc P 48 [(0, .ref 76), (1, .int (nZ x1)), (2, .int (nZ x2))] [.int (nZ r21)] σ17
      refine i_if_eq (tgt := 53) dX10_stall_48 rfl rr20 (fun c9 => ?_) (fun c9 => ?_)
      · replace h := h.1 c9
        refine w_aload_n dX10_stall_53 rfl (List.Mem.head _) ?_
        refine w_getR (ci := 10) (k := 13) (b := 90) dX10_stall_54 fl_10_31 (by decide) (gT hG18 rfl (lt_of rfl)) (gR hG18 (b := 90) rfl) ?_
        refine w_iload_n dX10_stall_57 rfl (List.Mem.tail _ (List.Mem.head _)) ?_
        obtain ⟨h9, h⟩ := h
        have hj22 := vin_lt2 (n := 9) h9 rfl
        refine i_aald (n := 9) (b := (91 + x1.toNat)) dX10_stall_58 (gT hG18 rfl (lt_of rfl)) (gL hG18 rfl) rx1 h9 (gR hG18 (rr_90 hj22)) ?_
        refine w_iload_n dX10_stall_59 rfl (List.Mem.tail _ (List.Mem.tail _ (List.Mem.head _))) ?_
        obtain ⟨h9, h⟩ := h
        refine i_iald (n := 7) dX10_stall_60 (gT hG18 (ro_90 _ hj22).1 (by have := hj22; omega)) (gL hG18 (ro_90 _ hj22).2) rx2 h9 ?_
        exact w_iret dX10_stall_61 rfl h
      · replace h := h.2 c9
        refine w_iconst (v := nZ 0) dX10_stall_51 (by decide) ?_
        exact w_iret dX10_stall_52 rfl h
theorem dX10_isThere_0 : decode cX10_isThere 0 = .ok (.aload_n 0, 1) := by decide +kernel
theorem dX10_isThere_1 : decode cX10_isThere 1 = .ok (.getfield 215, 3) := by decide +kernel
theorem dX10_isThere_4 : decode cX10_isThere 4 = .ok (.iload_n 1, 1) := by decide +kernel
theorem dX10_isThere_5 : decode cX10_isThere 5 = .ok (.ishr, 1) := by decide +kernel
theorem dX10_isThere_6 : decode cX10_isThere 6 = .ok (.iconst 1, 1) := by decide +kernel
theorem dX10_isThere_7 : decode cX10_isThere 7 = .ok (.iand, 1) := by decide +kernel
theorem dX10_isThere_8 : decode cX10_isThere 8 = .ok (.ifCond .ne 7, 3) := by decide +kernel
theorem dX10_isThere_11 : decode cX10_isThere 11 = .ok (.iconst 1, 1) := by decide +kernel
theorem dX10_isThere_12 : decode cX10_isThere 12 = .ok (.goto 4, 3) := by decide +kernel
theorem dX10_isThere_15 : decode cX10_isThere 15 = .ok (.iconst 0, 1) := by decide +kernel
theorem dX10_isThere_16 : decode cX10_isThere 16 = .ok (.ireturn, 1) := by decide +kernel
set_option maxRecDepth 10000 in
theorem t_X10_isThere {sc : Nat × (Nat → Int32)} {d : Nat} {Q : aO → aH → Prop} {σ : aH} {u : Nat}  {x1 : Int} (hG : G σ u) (rx1 : inR x1)
    (h : ((¬ (zAnd (zShr (rI σ 76 27) x1) 1) = 0 → Q (.inl (some (.int (nZ 0)))) σ) ∧ ((zAnd (zShr (rI σ 76 27) x1) 1) = 0 → Q (.inl (some (.int (nZ 1)))) σ))) :
    T sc (d + 1) mX10_isThere [.ref 76, .int (nZ x1)] σ Q := by
  refine T.of (c := 10) (code := cX10_isThere) (mL := 2) (rt := (some .boolean)) (ini := false) (l := [(0, .ref 76), (1, .int (nZ x1))]) rfl rfl rfl rfl (by decide) hs_X10_isThere rfl rfl ?_
  refine w_aload_n dX10_isThere_0 rfl (List.Mem.head _) ?_
  refine i_getI (ci := 10) 27 rfl dX10_isThere_1 fl_10_215 (by decide) (gT hG rfl (lt_of rfl)) ?_
  refine w_iload_n dX10_isThere_4 rfl (List.Mem.tail _ (List.Mem.head _)) ?_
  refine i_shr dX10_isThere_5 ?_
  refine w_iconst (v := nZ 1) dX10_isThere_6 (by decide) ?_
  refine i_and dX10_isThere_7 ?_
  refine i_if_ne (tgt := 15) dX10_isThere_8 rfl (zAnd_R _ _) (fun c9 => ?_) (fun c9 => ?_)
  · replace h := h.1 c9
    refine w_iconst (v := nZ 0) dX10_isThere_15 (by decide) ?_
    exact i_zret dX10_isThere_16 rfl (by decide) h
  · replace h := h.2 c9
    refine w_iconst (v := nZ 1) dX10_isThere_11 (by decide) ?_
    refine w_goto (tgt := 16) dX10_isThere_12 rfl ?_
    exact i_zret dX10_isThere_16 rfl (by decide) h
theorem dX10_lengthBy_0 : decode cX10_lengthBy 0 = .ok (.iload_n 2, 1) := by decide +kernel
theorem dX10_lengthBy_1 : decode cX10_lengthBy 1 = .ok (.iconst (-1), 1) := by decide +kernel
theorem dX10_lengthBy_2 : decode cX10_lengthBy 2 = .ok (.if_icmp .ne 7, 3) := by decide +kernel
theorem dX10_lengthBy_5 : decode cX10_lengthBy 5 = .ok (.iconst 0, 1) := by decide +kernel
theorem dX10_lengthBy_6 : decode cX10_lengthBy 6 = .ok (.goto 30, 3) := by decide +kernel
theorem dX10_lengthBy_9 : decode cX10_lengthBy 9 = .ok (.aload_n 0, 1) := by decide +kernel
theorem dX10_lengthBy_10 : decode cX10_lengthBy 10 = .ok (.getfield 31, 3) := by decide +kernel
theorem dX10_lengthBy_13 : decode cX10_lengthBy 13 = .ok (.iload_n 1, 1) := by decide +kernel
theorem dX10_lengthBy_14 : decode cX10_lengthBy 14 = .ok (.aaload, 1) := by decide +kernel
theorem dX10_lengthBy_15 : decode cX10_lengthBy 15 = .ok (.iconst 2, 1) := by decide +kernel
theorem dX10_lengthBy_16 : decode cX10_lengthBy 16 = .ok (.iaload, 1) := by decide +kernel
theorem dX10_lengthBy_17 : decode cX10_lengthBy 17 = .ok (.aload_n 0, 1) := by decide +kernel
theorem dX10_lengthBy_18 : decode cX10_lengthBy 18 = .ok (.getfield 37, 3) := by decide +kernel
theorem dX10_lengthBy_21 : decode cX10_lengthBy 21 = .ok (.iload_n 2, 1) := by decide +kernel
theorem dX10_lengthBy_22 : decode cX10_lengthBy 22 = .ok (.aaload, 1) := by decide +kernel
theorem dX10_lengthBy_23 : decode cX10_lengthBy 23 = .ok (.iconst 3, 1) := by decide +kernel
theorem dX10_lengthBy_24 : decode cX10_lengthBy 24 = .ok (.iaload, 1) := by decide +kernel
theorem dX10_lengthBy_25 : decode cX10_lengthBy 25 = .ok (.imul, 1) := by decide +kernel
theorem dX10_lengthBy_26 : decode cX10_lengthBy 26 = .ok (.iconst 1, 1) := by decide +kernel
theorem dX10_lengthBy_27 : decode cX10_lengthBy 27 = .ok (.aload_n 0, 1) := by decide +kernel
theorem dX10_lengthBy_28 : decode cX10_lengthBy 28 = .ok (.getfield 206, 3) := by decide +kernel
theorem dX10_lengthBy_31 : decode cX10_lengthBy 31 = .ok (.iadd, 1) := by decide +kernel
theorem dX10_lengthBy_32 : decode cX10_lengthBy 32 = .ok (.imul, 1) := by decide +kernel
theorem dX10_lengthBy_33 : decode cX10_lengthBy 33 = .ok (.bipush 10, 2) := by decide +kernel
theorem dX10_lengthBy_35 : decode cX10_lengthBy 35 = .ok (.idiv, 1) := by decide +kernel
theorem dX10_lengthBy_36 : decode cX10_lengthBy 36 = .ok (.ireturn, 1) := by decide +kernel
set_option maxRecDepth 10000 in
theorem t_X10_lengthBy {sc : Nat × (Nat → Int32)} {d : Nat} {Q : aO → aH → Prop} {σ : aH} {u : Nat}  {x1 : Int} {x2 : Int} (hG : G σ u) (rx1 : inR x1) (rx2 : inR x2)
    (h : ((¬ x2 = (-1) → ((0 ≤ x1 ∧ x1 < 9) ∧ ((0 ≤ x2 ∧ x2 < 20) ∧ (inR ((rI σ (91 + x1.toNat) 2) * (rI σ (122 + x2.toNat) 3)) ∧ (inR (1 + (rI σ 76 19)) ∧ (inR (((rI σ (91 + x1.toNat) 2) * (rI σ (122 + x2.toNat) 3)) * (1 + (rI σ 76 19))) ∧ ((0 ≤ (((rI σ (91 + x1.toNat) 2) * (rI σ (122 + x2.toNat) 3)) * (1 + (rI σ 76 19))) ∧ (0 : Int) < 10) ∧ inR ((((rI σ (91 + x1.toNat) 2) * (rI σ (122 + x2.toNat) 3)) * (1 + (rI σ 76 19))) / 10) ∧ Q (.inl (some (.int (nZ ((((rI σ (91 + x1.toNat) 2) * (rI σ (122 + x2.toNat) 3)) * (1 + (rI σ 76 19))) / 10))))) σ))))))) ∧ (x2 = (-1) → Q (.inl (some (.int (nZ 0)))) σ))) :
    T sc (d + 1) mX10_lengthBy [.ref 76, .int (nZ x1), .int (nZ x2)] σ Q := by
  refine T.of (c := 10) (code := cX10_lengthBy) (mL := 3) (rt := (some .int)) (ini := false) (l := [(0, .ref 76), (1, .int (nZ x1)), (2, .int (nZ x2))]) rfl rfl rfl rfl (by decide) hs_X10_lengthBy rfl rfl ?_
  refine w_iload_n dX10_lengthBy_0 rfl (List.Mem.tail _ (List.Mem.tail _ (List.Mem.head _))) ?_
  refine w_iconst (v := nZ (-1)) dX10_lengthBy_1 (by decide) ?_
  refine i_cmp_ne (tgt := 9) dX10_lengthBy_2 rfl rx2 (by decide) (fun c9 => ?_) (fun c9 => ?_)
  · replace h := h.1 c9
    refine w_aload_n dX10_lengthBy_9 rfl (List.Mem.head _) ?_
    refine w_getR (ci := 10) (k := 13) (b := 90) dX10_lengthBy_10 fl_10_31 (by decide) (gT hG rfl (lt_of rfl)) (gR hG (b := 90) rfl) ?_
    refine w_iload_n dX10_lengthBy_13 rfl (List.Mem.tail _ (List.Mem.head _)) ?_
    obtain ⟨h9, h⟩ := h
    have hj1 := vin_lt2 (n := 9) h9 rfl
    refine i_aald (n := 9) (b := (91 + x1.toNat)) dX10_lengthBy_14 (gT hG rfl (lt_of rfl)) (gL hG rfl) rx1 h9 (gR hG (rr_90 hj1)) ?_
    refine w_iconst (v := nZ 2) dX10_lengthBy_15 (by decide) ?_
    refine i_iald (n := 7) dX10_lengthBy_16 (gT hG (ro_90 _ hj1).1 (by have := hj1; omega)) (gL hG (ro_90 _ hj1).2) (by decide) (by decide) ?_
    refine w_aload_n dX10_lengthBy_17 rfl (List.Mem.head _) ?_
    refine w_getR (ci := 10) (k := 15) (b := 121) dX10_lengthBy_18 fl_10_37 (by decide) (gT hG rfl (lt_of rfl)) (gR hG (b := 121) rfl) ?_
    refine w_iload_n dX10_lengthBy_21 rfl (List.Mem.tail _ (List.Mem.tail _ (List.Mem.head _))) ?_
    obtain ⟨h9, h⟩ := h
    have hj2 := vin_lt2 (n := 20) h9 rfl
    refine i_aald (n := 20) (b := (122 + x2.toNat)) dX10_lengthBy_22 (gT hG rfl (lt_of rfl)) (gL hG rfl) rx2 h9 (gR hG (rr_121 hj2)) ?_
    refine w_iconst (v := nZ 3) dX10_lengthBy_23 (by decide) ?_
    refine i_iald (n := 4) dX10_lengthBy_24 (gT hG (ro_121 _ hj2).1 (by have := hj2; omega)) (gL hG (ro_121 _ hj2).2) (by decide) (by decide) ?_
    obtain ⟨q3, h⟩ := h
    refine i_mul dX10_lengthBy_25 ?_
    refine w_iconst (v := nZ 1) dX10_lengthBy_26 (by decide) ?_
    refine w_aload_n dX10_lengthBy_27 rfl (List.Mem.head _) ?_
    refine i_getI (ci := 10) 19 rfl dX10_lengthBy_28 fl_10_206 (by decide) (gT hG rfl (lt_of rfl)) ?_
    obtain ⟨q4, h⟩ := h
    refine i_add dX10_lengthBy_31 ?_
    obtain ⟨q5, h⟩ := h
    refine i_mul dX10_lengthBy_32 ?_
    refine w_bipush (v := nZ 10) dX10_lengthBy_33 (by decide) ?_
    obtain ⟨h9, q6, h⟩ := h
    refine i_div dX10_lengthBy_35 q5 (by decide) h9 ?_
    exact w_iret dX10_lengthBy_36 rfl h
  · replace h := h.2 c9
    refine w_iconst (v := nZ 0) dX10_lengthBy_5 (by decide) ?_
    refine w_goto (tgt := 36) dX10_lengthBy_6 rfl ?_
    exact w_iret dX10_lengthBy_36 rfl h
theorem dX10_stallOn_0 : decode cX10_stallOn 0 = .ok (.iconst 0, 1) := by decide +kernel
theorem dX10_stallOn_1 : decode cX10_stallOn 1 = .ok (.istore_n 3, 1) := by decide +kernel
theorem dX10_stallOn_2 : decode cX10_stallOn 2 = .ok (.iload_n 3, 1) := by decide +kernel
theorem dX10_stallOn_3 : decode cX10_stallOn 3 = .ok (.aload_n 0, 1) := by decide +kernel
theorem dX10_stallOn_4 : decode cX10_stallOn 4 = .ok (.getfield 218, 3) := by decide +kernel
theorem dX10_stallOn_7 : decode cX10_stallOn 7 = .ok (.if_icmp .ge 43, 3) := by decide +kernel
theorem dX10_stallOn_10 : decode cX10_stallOn 10 = .ok (.aload_n 0, 1) := by decide +kernel
theorem dX10_stallOn_11 : decode cX10_stallOn 11 = .ok (.iload_n 3, 1) := by decide +kernel
theorem dX10_stallOn_12 : decode cX10_stallOn 12 = .ok (.invokevirtual 239, 3) := by decide +kernel
theorem dX10_stallOn_15 : decode cX10_stallOn 15 = .ok (.ifCond .eq 29, 3) := by decide +kernel
theorem dX10_stallOn_18 : decode cX10_stallOn 18 = .ok (.aload_n 0, 1) := by decide +kernel
theorem dX10_stallOn_19 : decode cX10_stallOn 19 = .ok (.getfield 31, 3) := by decide +kernel
theorem dX10_stallOn_22 : decode cX10_stallOn 22 = .ok (.iload_n 3, 1) := by decide +kernel
theorem dX10_stallOn_23 : decode cX10_stallOn 23 = .ok (.aaload, 1) := by decide +kernel
theorem dX10_stallOn_24 : decode cX10_stallOn 24 = .ok (.iconst 0, 1) := by decide +kernel
theorem dX10_stallOn_25 : decode cX10_stallOn 25 = .ok (.iaload, 1) := by decide +kernel
theorem dX10_stallOn_26 : decode cX10_stallOn 26 = .ok (.iload_n 1, 1) := by decide +kernel
theorem dX10_stallOn_27 : decode cX10_stallOn 27 = .ok (.if_icmp .ne 17, 3) := by decide +kernel
theorem dX10_stallOn_30 : decode cX10_stallOn 30 = .ok (.aload_n 0, 1) := by decide +kernel
theorem dX10_stallOn_31 : decode cX10_stallOn 31 = .ok (.getfield 31, 3) := by decide +kernel
theorem dX10_stallOn_34 : decode cX10_stallOn 34 = .ok (.iload_n 3, 1) := by decide +kernel
theorem dX10_stallOn_35 : decode cX10_stallOn 35 = .ok (.aaload, 1) := by decide +kernel
theorem dX10_stallOn_36 : decode cX10_stallOn 36 = .ok (.iconst 1, 1) := by decide +kernel
theorem dX10_stallOn_37 : decode cX10_stallOn 37 = .ok (.iaload, 1) := by decide +kernel
theorem dX10_stallOn_38 : decode cX10_stallOn 38 = .ok (.iload_n 2, 1) := by decide +kernel
theorem dX10_stallOn_39 : decode cX10_stallOn 39 = .ok (.if_icmp .ne 5, 3) := by decide +kernel
theorem dX10_stallOn_42 : decode cX10_stallOn 42 = .ok (.iload_n 3, 1) := by decide +kernel
theorem dX10_stallOn_43 : decode cX10_stallOn 43 = .ok (.ireturn, 1) := by decide +kernel
theorem dX10_stallOn_44 : decode cX10_stallOn 44 = .ok (.iinc 3 1, 3) := by decide +kernel
theorem dX10_stallOn_47 : decode cX10_stallOn 47 = .ok (.goto (-45), 3) := by decide +kernel
theorem dX10_stallOn_50 : decode cX10_stallOn 50 = .ok (.iconst (-1), 1) := by decide +kernel
theorem dX10_stallOn_51 : decode cX10_stallOn 51 = .ok (.ireturn, 1) := by decide +kernel
def L_X10_stallOn_2 (C : aM → List Value → aH → aO → aH → Prop) (sc : Nat × (Nat → Int32)) (P : aO → aH → Prop) (x1 : Int) (x2 : Int) (x3 : Int) (σ : aH) : Prop :=
    wp C 10 cX10_stallOn 4 (some .int) false [] sc P 2 [(0, .ref 76), (1, .int (nZ x1)), (2, .int (nZ x2)), (3, .int (nZ x3))] [] σ
set_option maxRecDepth 10000 in
theorem t_X10_stallOn {sc : Nat × (Nat → Int32)} {d : Nat} {Q : aO → aH → Prop} {σ : aH} {u : Nat}  {x1 : Int} {x2 : Int} (hG : G σ u) (rx1 : inR x1) (rx2 : inR x2)
    (h : L_X10_stallOn_2 (Ev sc d) sc Q x1 x2 0 σ) :
    T sc (d + 1) mX10_stallOn [.ref 76, .int (nZ x1), .int (nZ x2)] σ Q := by
  refine T.of (c := 10) (code := cX10_stallOn) (mL := 4) (rt := (some .int)) (ini := false) (l := [(0, .ref 76), (1, .int (nZ x1)), (2, .int (nZ x2))]) rfl rfl rfl rfl (by decide) hs_X10_stallOn rfl rfl ?_
  refine w_iconst (v := nZ 0) dX10_stallOn_0 (by decide) ?_
  refine w_istore_n (l' := [(3, .int (nZ 0)), (0, .ref 76), (1, .int (nZ x1)), (2, .int (nZ x2))]) dX10_stallOn_1 rfl (by decide) rfl ?_
  exact w_weak (l' := [(0, .ref 76), (1, .int (nZ x1)), (2, .int (nZ x2)), (3, .int (nZ 0))]) (by intro q hq; simp only [List.mem_cons, List.not_mem_nil, or_false] at hq ⊢; rcases hq with rfl | rfl | rfl | rfl <;> simp) h
set_option maxRecDepth 10000 in
theorem v_X10_stallOn_2 {C : aM → List Value → aH → aO → aH → Prop} {sc : Nat × (Nat → Int32)} {P : aO → aH → Prop} {σ : aH} {u : Nat}  {x1 : Int} {x2 : Int} {x3 : Int} (hG : G σ u) (rx1 : inR x1) (rx2 : inR x2) (rx3 : inR x3)
    (h : (((rI σ 76 28) ≤ x3 → P (.inl (some (.int (nZ (-1))))) σ) ∧ (¬ ((rI σ 76 28) ≤ x3) → (∃ (r5 : Int) (σ1 : aH), C mX10_isThere [.ref 76, .int (nZ x3)] σ (.inl (some (.int (nZ r5)))) σ1 ∧ G σ1 u ∧ inR r5 ∧ ((r5 = 0 → (inR (x3 + 1) ∧ L_X10_stallOn_2 C sc P x1 x2 (x3 + 1) σ1)) ∧ (¬ (r5 = 0) → ((0 ≤ x3 ∧ x3 < 9) ∧ ((¬ (rI σ1 (91 + x3.toNat) 0) = x1 → (inR (x3 + 1) ∧ L_X10_stallOn_2 C sc P x1 x2 (x3 + 1) σ1)) ∧ ((rI σ1 (91 + x3.toNat) 0) = x1 → ((0 ≤ x3 ∧ x3 < 9) ∧ ((¬ (rI σ1 (91 + x3.toNat) 1) = x2 → (inR (x3 + 1) ∧ L_X10_stallOn_2 C sc P x1 x2 (x3 + 1) σ1)) ∧ ((rI σ1 (91 + x3.toNat) 1) = x2 → P (.inl (some (.int (nZ x3)))) σ1)))))))))))) :
    L_X10_stallOn_2 C sc P x1 x2 x3 σ := by
  unfold L_X10_stallOn_2
  refine w_iload_n dX10_stallOn_2 rfl (List.Mem.tail _ (List.Mem.tail _ (List.Mem.tail _ (List.Mem.head _)))) ?_
  refine w_aload_n dX10_stallOn_3 rfl (List.Mem.head _) ?_
  refine i_getI (ci := 10) 28 rfl dX10_stallOn_4 fl_10_218 (by decide) (gT hG rfl (lt_of rfl)) ?_
  refine i_cmp_ge (tgt := 50) dX10_stallOn_7 rfl rx3 (rI_R _ _ _) (fun c9 => ?_) (fun c9 => ?_)
  · replace h := h.1 c9
    refine w_iconst (v := nZ (-1)) dX10_stallOn_50 (by decide) ?_
    exact w_iret dX10_stallOn_51 rfl h
  · replace h := h.2 c9
    refine w_aload_n dX10_stallOn_10 rfl (List.Mem.head _) ?_
    refine w_iload_n dX10_stallOn_11 rfl (List.Mem.tail _ (List.Mem.tail _ (List.Mem.tail _ (List.Mem.head _)))) ?_
    obtain ⟨r5, σ1, hc3, hG2, rr4, h⟩ := h
    refine w_callV dX10_stallOn_12 ml_10_239 ⟨ok_X10_isThere, vi_X10_isThere⟩ hs_X10_isThere (As := [.int (nZ x3)]) rfl rfl (gT hG rfl (lt_of rfl)) (Nat.le_of_ble_eq_true rfl) hc3 ?_
    show wp C 10 cX10_stallOn 4 (some .int) false [] sc P 15 [(0, .ref 76), (1, .int (nZ x1)), (2, .int (nZ x2)), (3, .int (nZ x3))] [.int (nZ r5)] σ1
    refine i_if_eq (tgt := 44) dX10_stallOn_15 rfl rr4 (fun c9 => ?_) (fun c9 => ?_)
    · replace h := h.1 c9
      obtain ⟨q6, h⟩ := h
      refine w_iinc (v := nZ (x3 + 1)) (l' := [(3, .int (nZ (x3 + 1))), (0, .ref 76), (1, .int (nZ x1)), (2, .int (nZ x2))]) dX10_stallOn_44 (List.Mem.tail _ (List.Mem.tail _ (List.Mem.tail _ (List.Mem.head _)))) (nZ_add _ _) (by decide) rfl ?_
      refine w_goto (tgt := 2) dX10_stallOn_47 rfl ?_
      exact w_weak (l' := [(0, .ref 76), (1, .int (nZ x1)), (2, .int (nZ x2)), (3, .int (nZ (x3 + 1)))]) (by intro q hq; simp only [List.mem_cons, List.not_mem_nil, or_false] at hq ⊢; rcases hq with rfl | rfl | rfl | rfl <;> simp) h
    · replace h := h.2 c9
      refine w_aload_n dX10_stallOn_18 rfl (List.Mem.head _) ?_
      refine w_getR (ci := 10) (k := 13) (b := 90) dX10_stallOn_19 fl_10_31 (by decide) (gT hG2 rfl (lt_of rfl)) (gR hG2 (b := 90) rfl) ?_
      refine w_iload_n dX10_stallOn_22 rfl (List.Mem.tail _ (List.Mem.tail _ (List.Mem.tail _ (List.Mem.head _)))) ?_
      obtain ⟨h9, h⟩ := h
      have hj7 := vin_lt2 (n := 9) h9 rfl
      refine i_aald (n := 9) (b := (91 + x3.toNat)) dX10_stallOn_23 (gT hG2 rfl (lt_of rfl)) (gL hG2 rfl) rx3 h9 (gR hG2 (rr_90 hj7)) ?_
      refine w_iconst (v := nZ 0) dX10_stallOn_24 (by decide) ?_
      refine i_iald (n := 7) dX10_stallOn_25 (gT hG2 (ro_90 _ hj7).1 (by have := hj7; omega)) (gL hG2 (ro_90 _ hj7).2) (by decide) (by decide) ?_
      refine w_iload_n dX10_stallOn_26 rfl (List.Mem.tail _ (List.Mem.head _)) ?_
      refine i_cmp_ne (tgt := 44) dX10_stallOn_27 rfl (rI_R _ _ _) rx1 (fun c9 => ?_) (fun c9 => ?_)
      · replace h := h.1 c9
        obtain ⟨q8, h⟩ := h
        refine w_iinc (v := nZ (x3 + 1)) (l' := [(3, .int (nZ (x3 + 1))), (0, .ref 76), (1, .int (nZ x1)), (2, .int (nZ x2))]) dX10_stallOn_44 (List.Mem.tail _ (List.Mem.tail _ (List.Mem.tail _ (List.Mem.head _)))) (nZ_add _ _) (by decide) rfl ?_
        refine w_goto (tgt := 2) dX10_stallOn_47 rfl ?_
        exact w_weak (l' := [(0, .ref 76), (1, .int (nZ x1)), (2, .int (nZ x2)), (3, .int (nZ (x3 + 1)))]) (by intro q hq; simp only [List.mem_cons, List.not_mem_nil, or_false] at hq ⊢; rcases hq with rfl | rfl | rfl | rfl <;> simp) h
      · replace h := h.2 c9
        refine w_aload_n dX10_stallOn_30 rfl (List.Mem.head _) ?_
        refine w_getR (ci := 10) (k := 13) (b := 90) dX10_stallOn_31 fl_10_31 (by decide) (gT hG2 rfl (lt_of rfl)) (gR hG2 (b := 90) rfl) ?_
        refine w_iload_n dX10_stallOn_34 rfl (List.Mem.tail _ (List.Mem.tail _ (List.Mem.tail _ (List.Mem.head _)))) ?_
        obtain ⟨h9, h⟩ := h
        have hj9 := vin_lt2 (n := 9) h9 rfl
        refine i_aald (n := 9) (b := (91 + x3.toNat)) dX10_stallOn_35 (gT hG2 rfl (lt_of rfl)) (gL hG2 rfl) rx3 h9 (gR hG2 (rr_90 hj9)) ?_
        refine w_iconst (v := nZ 1) dX10_stallOn_36 (by decide) ?_
        refine i_iald (n := 7) dX10_stallOn_37 (gT hG2 (ro_90 _ hj9).1 (by have := hj9; omega)) (gL hG2 (ro_90 _ hj9).2) (by decide) (by decide) ?_
        refine w_iload_n dX10_stallOn_38 rfl (List.Mem.tail _ (List.Mem.tail _ (List.Mem.head _))) ?_
        refine i_cmp_ne (tgt := 44) dX10_stallOn_39 rfl (rI_R _ _ _) rx2 (fun c9 => ?_) (fun c9 => ?_)
        · replace h := h.1 c9
          obtain ⟨q10, h⟩ := h
          refine w_iinc (v := nZ (x3 + 1)) (l' := [(3, .int (nZ (x3 + 1))), (0, .ref 76), (1, .int (nZ x1)), (2, .int (nZ x2))]) dX10_stallOn_44 (List.Mem.tail _ (List.Mem.tail _ (List.Mem.tail _ (List.Mem.head _)))) (nZ_add _ _) (by decide) rfl ?_
          refine w_goto (tgt := 2) dX10_stallOn_47 rfl ?_
          exact w_weak (l' := [(0, .ref 76), (1, .int (nZ x1)), (2, .int (nZ x2)), (3, .int (nZ (x3 + 1)))]) (by intro q hq; simp only [List.mem_cons, List.not_mem_nil, or_false] at hq ⊢; rcases hq with rfl | rfl | rfl | rfl <;> simp) h
        · replace h := h.2 c9
          refine w_iload_n dX10_stallOn_42 rfl (List.Mem.tail _ (List.Mem.tail _ (List.Mem.tail _ (List.Mem.head _)))) ?_
          exact w_iret dX10_stallOn_43 rfl h
theorem dX10_isCovered_0 : decode cX10_isCovered 0 = .ok (.iconst 0, 1) := by decide +kernel
theorem dX10_isCovered_1 : decode cX10_isCovered 1 = .ok (.istore_n 3, 1) := by decide +kernel
theorem dX10_isCovered_2 : decode cX10_isCovered 2 = .ok (.iload_n 3, 1) := by decide +kernel
theorem dX10_isCovered_3 : decode cX10_isCovered 3 = .ok (.aload_n 0, 1) := by decide +kernel
theorem dX10_isCovered_4 : decode cX10_isCovered 4 = .ok (.getfield 218, 3) := by decide +kernel
theorem dX10_isCovered_7 : decode cX10_isCovered 7 = .ok (.if_icmp .ge 80, 3) := by decide +kernel
theorem dX10_isCovered_10 : decode cX10_isCovered 10 = .ok (.aload_n 0, 1) := by decide +kernel
theorem dX10_isCovered_11 : decode cX10_isCovered 11 = .ok (.iload_n 3, 1) := by decide +kernel
theorem dX10_isCovered_12 : decode cX10_isCovered 12 = .ok (.invokevirtual 239, 3) := by decide +kernel
theorem dX10_isCovered_15 : decode cX10_isCovered 15 = .ok (.ifCond .eq 66, 3) := by decide +kernel
theorem dX10_isCovered_18 : decode cX10_isCovered 18 = .ok (.iload_n 3, 1) := by decide +kernel
theorem dX10_isCovered_19 : decode cX10_isCovered 19 = .ok (.iload_n 2, 1) := by decide +kernel
theorem dX10_isCovered_20 : decode cX10_isCovered 20 = .ok (.if_icmp .eq 61, 3) := by decide +kernel
theorem dX10_isCovered_23 : decode cX10_isCovered 23 = .ok (.iload_n 3, 1) := by decide +kernel
theorem dX10_isCovered_24 : decode cX10_isCovered 24 = .ok (.iload_n 1, 1) := by decide +kernel
theorem dX10_isCovered_25 : decode cX10_isCovered 25 = .ok (.if_icmp .eq 56, 3) := by decide +kernel
theorem dX10_isCovered_28 : decode cX10_isCovered 28 = .ok (.aload_n 0, 1) := by decide +kernel
theorem dX10_isCovered_29 : decode cX10_isCovered 29 = .ok (.getfield 31, 3) := by decide +kernel
theorem dX10_isCovered_32 : decode cX10_isCovered 32 = .ok (.iload_n 3, 1) := by decide +kernel
theorem dX10_isCovered_33 : decode cX10_isCovered 33 = .ok (.aaload, 1) := by decide +kernel
theorem dX10_isCovered_34 : decode cX10_isCovered 34 = .ok (.iconst 0, 1) := by decide +kernel
theorem dX10_isCovered_35 : decode cX10_isCovered 35 = .ok (.iaload, 1) := by decide +kernel
theorem dX10_isCovered_36 : decode cX10_isCovered 36 = .ok (.aload_n 0, 1) := by decide +kernel
theorem dX10_isCovered_37 : decode cX10_isCovered 37 = .ok (.getfield 31, 3) := by decide +kernel
theorem dX10_isCovered_40 : decode cX10_isCovered 40 = .ok (.iload_n 1, 1) := by decide +kernel
theorem dX10_isCovered_41 : decode cX10_isCovered 41 = .ok (.aaload, 1) := by decide +kernel
theorem dX10_isCovered_42 : decode cX10_isCovered 42 = .ok (.iconst 0, 1) := by decide +kernel
theorem dX10_isCovered_43 : decode cX10_isCovered 43 = .ok (.iaload, 1) := by decide +kernel
theorem dX10_isCovered_44 : decode cX10_isCovered 44 = .ok (.if_icmp .ne 37, 3) := by decide +kernel
theorem dX10_isCovered_47 : decode cX10_isCovered 47 = .ok (.aload_n 0, 1) := by decide +kernel
theorem dX10_isCovered_48 : decode cX10_isCovered 48 = .ok (.getfield 31, 3) := by decide +kernel
theorem dX10_isCovered_51 : decode cX10_isCovered 51 = .ok (.iload_n 1, 1) := by decide +kernel
theorem dX10_isCovered_52 : decode cX10_isCovered 52 = .ok (.aaload, 1) := by decide +kernel
theorem dX10_isCovered_53 : decode cX10_isCovered 53 = .ok (.iconst 1, 1) := by decide +kernel
theorem dX10_isCovered_54 : decode cX10_isCovered 54 = .ok (.iaload, 1) := by decide +kernel
theorem dX10_isCovered_55 : decode cX10_isCovered 55 = .ok (.aload_n 0, 1) := by decide +kernel
theorem dX10_isCovered_56 : decode cX10_isCovered 56 = .ok (.getfield 31, 3) := by decide +kernel
theorem dX10_isCovered_59 : decode cX10_isCovered 59 = .ok (.iload_n 3, 1) := by decide +kernel
theorem dX10_isCovered_60 : decode cX10_isCovered 60 = .ok (.aaload, 1) := by decide +kernel
theorem dX10_isCovered_61 : decode cX10_isCovered 61 = .ok (.iconst 1, 1) := by decide +kernel
theorem dX10_isCovered_62 : decode cX10_isCovered 62 = .ok (.iaload, 1) := by decide +kernel
theorem dX10_isCovered_63 : decode cX10_isCovered 63 = .ok (.isub, 1) := by decide +kernel
theorem dX10_isCovered_64 : decode cX10_isCovered 64 = .ok (.iconst 1, 1) := by decide +kernel
theorem dX10_isCovered_65 : decode cX10_isCovered 65 = .ok (.aload_n 0, 1) := by decide +kernel
theorem dX10_isCovered_66 : decode cX10_isCovered 66 = .ok (.getfield 31, 3) := by decide +kernel
theorem dX10_isCovered_69 : decode cX10_isCovered 69 = .ok (.iload_n 3, 1) := by decide +kernel
theorem dX10_isCovered_70 : decode cX10_isCovered 70 = .ok (.aaload, 1) := by decide +kernel
theorem dX10_isCovered_71 : decode cX10_isCovered 71 = .ok (.iconst 3, 1) := by decide +kernel
theorem dX10_isCovered_72 : decode cX10_isCovered 72 = .ok (.iaload, 1) := by decide +kernel
theorem dX10_isCovered_73 : decode cX10_isCovered 73 = .ok (.invokestatic 140, 3) := by decide +kernel
theorem dX10_isCovered_76 : decode cX10_isCovered 76 = .ok (.ifCond .eq 5, 3) := by decide +kernel
theorem dX10_isCovered_79 : decode cX10_isCovered 79 = .ok (.iconst 1, 1) := by decide +kernel
theorem dX10_isCovered_80 : decode cX10_isCovered 80 = .ok (.ireturn, 1) := by decide +kernel
theorem dX10_isCovered_81 : decode cX10_isCovered 81 = .ok (.iinc 3 1, 3) := by decide +kernel
theorem dX10_isCovered_84 : decode cX10_isCovered 84 = .ok (.goto (-82), 3) := by decide +kernel
theorem dX10_isCovered_87 : decode cX10_isCovered 87 = .ok (.iconst 0, 1) := by decide +kernel
theorem dX10_isCovered_88 : decode cX10_isCovered 88 = .ok (.ireturn, 1) := by decide +kernel
def L_X10_isCovered_2 (C : aM → List Value → aH → aO → aH → Prop) (sc : Nat × (Nat → Int32)) (P : aO → aH → Prop) (x1 : Int) (x2 : Int) (x3 : Int) (σ : aH) : Prop :=
    wp C 10 cX10_isCovered 4 (some .boolean) false [] sc P 2 [(0, .ref 76), (1, .int (nZ x1)), (2, .int (nZ x2)), (3, .int (nZ x3))] [] σ
set_option maxRecDepth 10000 in
theorem t_X10_isCovered {sc : Nat × (Nat → Int32)} {d : Nat} {Q : aO → aH → Prop} {σ : aH} {u : Nat}  {x1 : Int} {x2 : Int} (hG : G σ u) (rx1 : inR x1) (rx2 : inR x2)
    (h : L_X10_isCovered_2 (Ev sc d) sc Q x1 x2 0 σ) :
    T sc (d + 1) mX10_isCovered [.ref 76, .int (nZ x1), .int (nZ x2)] σ Q := by
  refine T.of (c := 10) (code := cX10_isCovered) (mL := 4) (rt := (some .boolean)) (ini := false) (l := [(0, .ref 76), (1, .int (nZ x1)), (2, .int (nZ x2))]) rfl rfl rfl rfl (by decide) hs_X10_isCovered rfl rfl ?_
  refine w_iconst (v := nZ 0) dX10_isCovered_0 (by decide) ?_
  refine w_istore_n (l' := [(3, .int (nZ 0)), (0, .ref 76), (1, .int (nZ x1)), (2, .int (nZ x2))]) dX10_isCovered_1 rfl (by decide) rfl ?_
  exact w_weak (l' := [(0, .ref 76), (1, .int (nZ x1)), (2, .int (nZ x2)), (3, .int (nZ 0))]) (by intro q hq; simp only [List.mem_cons, List.not_mem_nil, or_false] at hq ⊢; rcases hq with rfl | rfl | rfl | rfl <;> simp) h
set_option maxRecDepth 10000 in
theorem v_X10_isCovered_2 {C : aM → List Value → aH → aO → aH → Prop} {sc : Nat × (Nat → Int32)} {P : aO → aH → Prop} {σ : aH} {u : Nat}  {x1 : Int} {x2 : Int} {x3 : Int} (hG : G σ u) (rx1 : inR x1) (rx2 : inR x2) (rx3 : inR x3)
    (h : (((rI σ 76 28) ≤ x3 → P (.inl (some (.int (nZ 0)))) σ) ∧ (¬ ((rI σ 76 28) ≤ x3) → (∃ (r5 : Int) (σ1 : aH), C mX10_isThere [.ref 76, .int (nZ x3)] σ (.inl (some (.int (nZ r5)))) σ1 ∧ G σ1 u ∧ inR r5 ∧ ((r5 = 0 → (inR (x3 + 1) ∧ L_X10_isCovered_2 C sc P x1 x2 (x3 + 1) σ1)) ∧ (¬ (r5 = 0) → ((x3 = x2 → (inR (x3 + 1) ∧ L_X10_isCovered_2 C sc P x1 x2 (x3 + 1) σ1)) ∧ (¬ (x3 = x2) → ((x3 = x1 → (inR (x3 + 1) ∧ L_X10_isCovered_2 C sc P x1 x2 (x3 + 1) σ1)) ∧ (¬ (x3 = x1) → ((0 ≤ x3 ∧ x3 < 9) ∧ ((0 ≤ x1 ∧ x1 < 9) ∧ ((¬ (rI σ1 (91 + x3.toNat) 0) = (rI σ1 (91 + x1.toNat) 0) → (inR (x3 + 1) ∧ L_X10_isCovered_2 C sc P x1 x2 (x3 + 1) σ1)) ∧ ((rI σ1 (91 + x3.toNat) 0) = (rI σ1 (91 + x1.toNat) 0) → ((0 ≤ x1 ∧ x1 < 9) ∧ ((0 ≤ x3 ∧ x3 < 9) ∧ (inR ((rI σ1 (91 + x1.toNat) 1) - (rI σ1 (91 + x3.toNat) 1)) ∧ ((0 ≤ x3 ∧ x3 < 9) ∧ (∃ (r20 : Int) (σ16 : aH), C mX10_in [.int (nZ ((rI σ1 (91 + x1.toNat) 1) - (rI σ1 (91 + x3.toNat) 1))), .int (nZ 1), .int (nZ (rI σ1 (91 + x3.toNat) 3))] σ1 (.inl (some (.int (nZ r20)))) σ16 ∧ G σ16 u ∧ inR r20 ∧ ((r20 = 0 → (inR (x3 + 1) ∧ L_X10_isCovered_2 C sc P x1 x2 (x3 + 1) σ16)) ∧ (¬ (r20 = 0) → P (.inl (some (.int (nZ 1)))) σ16))))))))))))))))))))) :
    L_X10_isCovered_2 C sc P x1 x2 x3 σ := by
  unfold L_X10_isCovered_2
  refine w_iload_n dX10_isCovered_2 rfl (List.Mem.tail _ (List.Mem.tail _ (List.Mem.tail _ (List.Mem.head _)))) ?_
  refine w_aload_n dX10_isCovered_3 rfl (List.Mem.head _) ?_
  refine i_getI (ci := 10) 28 rfl dX10_isCovered_4 fl_10_218 (by decide) (gT hG rfl (lt_of rfl)) ?_
  refine i_cmp_ge (tgt := 87) dX10_isCovered_7 rfl rx3 (rI_R _ _ _) (fun c9 => ?_) (fun c9 => ?_)
  · replace h := h.1 c9
    refine w_iconst (v := nZ 0) dX10_isCovered_87 (by decide) ?_
    exact i_zret dX10_isCovered_88 rfl (by decide) h
  · replace h := h.2 c9
    refine w_aload_n dX10_isCovered_10 rfl (List.Mem.head _) ?_
    refine w_iload_n dX10_isCovered_11 rfl (List.Mem.tail _ (List.Mem.tail _ (List.Mem.tail _ (List.Mem.head _)))) ?_
    obtain ⟨r5, σ1, hc3, hG2, rr4, h⟩ := h
    refine w_callV dX10_isCovered_12 ml_10_239 ⟨ok_X10_isThere, vi_X10_isThere⟩ hs_X10_isThere (As := [.int (nZ x3)]) rfl rfl (gT hG rfl (lt_of rfl)) (Nat.le_of_ble_eq_true rfl) hc3 ?_
    show wp C 10 cX10_isCovered 4 (some .boolean) false [] sc P 15 [(0, .ref 76), (1, .int (nZ x1)), (2, .int (nZ x2)), (3, .int (nZ x3))] [.int (nZ r5)] σ1
    refine i_if_eq (tgt := 81) dX10_isCovered_15 rfl rr4 (fun c9 => ?_) (fun c9 => ?_)
    · replace h := h.1 c9
      obtain ⟨q6, h⟩ := h
      refine w_iinc (v := nZ (x3 + 1)) (l' := [(3, .int (nZ (x3 + 1))), (0, .ref 76), (1, .int (nZ x1)), (2, .int (nZ x2))]) dX10_isCovered_81 (List.Mem.tail _ (List.Mem.tail _ (List.Mem.tail _ (List.Mem.head _)))) (nZ_add _ _) (by decide) rfl ?_
      refine w_goto (tgt := 2) dX10_isCovered_84 rfl ?_
      exact w_weak (l' := [(0, .ref 76), (1, .int (nZ x1)), (2, .int (nZ x2)), (3, .int (nZ (x3 + 1)))]) (by intro q hq; simp only [List.mem_cons, List.not_mem_nil, or_false] at hq ⊢; rcases hq with rfl | rfl | rfl | rfl <;> simp) h
    · replace h := h.2 c9
      refine w_iload_n dX10_isCovered_18 rfl (List.Mem.tail _ (List.Mem.tail _ (List.Mem.tail _ (List.Mem.head _)))) ?_
      refine w_iload_n dX10_isCovered_19 rfl (List.Mem.tail _ (List.Mem.tail _ (List.Mem.head _))) ?_
      refine i_cmp_eq (tgt := 81) dX10_isCovered_20 rfl rx3 rx2 (fun c9 => ?_) (fun c9 => ?_)
      · replace h := h.1 c9
        obtain ⟨q7, h⟩ := h
        refine w_iinc (v := nZ (x3 + 1)) (l' := [(3, .int (nZ (x3 + 1))), (0, .ref 76), (1, .int (nZ x1)), (2, .int (nZ x2))]) dX10_isCovered_81 (List.Mem.tail _ (List.Mem.tail _ (List.Mem.tail _ (List.Mem.head _)))) (nZ_add _ _) (by decide) rfl ?_
        refine w_goto (tgt := 2) dX10_isCovered_84 rfl ?_
        exact w_weak (l' := [(0, .ref 76), (1, .int (nZ x1)), (2, .int (nZ x2)), (3, .int (nZ (x3 + 1)))]) (by intro q hq; simp only [List.mem_cons, List.not_mem_nil, or_false] at hq ⊢; rcases hq with rfl | rfl | rfl | rfl <;> simp) h
      · replace h := h.2 c9
        refine w_iload_n dX10_isCovered_23 rfl (List.Mem.tail _ (List.Mem.tail _ (List.Mem.tail _ (List.Mem.head _)))) ?_
        refine w_iload_n dX10_isCovered_24 rfl (List.Mem.tail _ (List.Mem.head _)) ?_
        refine i_cmp_eq (tgt := 81) dX10_isCovered_25 rfl rx3 rx1 (fun c9 => ?_) (fun c9 => ?_)
        · replace h := h.1 c9
          obtain ⟨q8, h⟩ := h
          refine w_iinc (v := nZ (x3 + 1)) (l' := [(3, .int (nZ (x3 + 1))), (0, .ref 76), (1, .int (nZ x1)), (2, .int (nZ x2))]) dX10_isCovered_81 (List.Mem.tail _ (List.Mem.tail _ (List.Mem.tail _ (List.Mem.head _)))) (nZ_add _ _) (by decide) rfl ?_
          refine w_goto (tgt := 2) dX10_isCovered_84 rfl ?_
          exact w_weak (l' := [(0, .ref 76), (1, .int (nZ x1)), (2, .int (nZ x2)), (3, .int (nZ (x3 + 1)))]) (by intro q hq; simp only [List.mem_cons, List.not_mem_nil, or_false] at hq ⊢; rcases hq with rfl | rfl | rfl | rfl <;> simp) h
        · replace h := h.2 c9
          refine w_aload_n dX10_isCovered_28 rfl (List.Mem.head _) ?_
          refine w_getR (ci := 10) (k := 13) (b := 90) dX10_isCovered_29 fl_10_31 (by decide) (gT hG2 rfl (lt_of rfl)) (gR hG2 (b := 90) rfl) ?_
          refine w_iload_n dX10_isCovered_32 rfl (List.Mem.tail _ (List.Mem.tail _ (List.Mem.tail _ (List.Mem.head _)))) ?_
          obtain ⟨h9, h⟩ := h
          have hj9 := vin_lt2 (n := 9) h9 rfl
          refine i_aald (n := 9) (b := (91 + x3.toNat)) dX10_isCovered_33 (gT hG2 rfl (lt_of rfl)) (gL hG2 rfl) rx3 h9 (gR hG2 (rr_90 hj9)) ?_
          refine w_iconst (v := nZ 0) dX10_isCovered_34 (by decide) ?_
          refine i_iald (n := 7) dX10_isCovered_35 (gT hG2 (ro_90 _ hj9).1 (by have := hj9; omega)) (gL hG2 (ro_90 _ hj9).2) (by decide) (by decide) ?_
          refine w_aload_n dX10_isCovered_36 rfl (List.Mem.head _) ?_
          refine w_getR (ci := 10) (k := 13) (b := 90) dX10_isCovered_37 fl_10_31 (by decide) (gT hG2 rfl (lt_of rfl)) (gR hG2 (b := 90) rfl) ?_
          refine w_iload_n dX10_isCovered_40 rfl (List.Mem.tail _ (List.Mem.head _)) ?_
          obtain ⟨h9, h⟩ := h
          have hj10 := vin_lt2 (n := 9) h9 rfl
          refine i_aald (n := 9) (b := (91 + x1.toNat)) dX10_isCovered_41 (gT hG2 rfl (lt_of rfl)) (gL hG2 rfl) rx1 h9 (gR hG2 (rr_90 hj10)) ?_
          refine w_iconst (v := nZ 0) dX10_isCovered_42 (by decide) ?_
          refine i_iald (n := 7) dX10_isCovered_43 (gT hG2 (ro_90 _ hj10).1 (by have := hj10; omega)) (gL hG2 (ro_90 _ hj10).2) (by decide) (by decide) ?_
          refine i_cmp_ne (tgt := 81) dX10_isCovered_44 rfl (rI_R _ _ _) (rI_R _ _ _) (fun c9 => ?_) (fun c9 => ?_)
          · replace h := h.1 c9
            obtain ⟨q11, h⟩ := h
            refine w_iinc (v := nZ (x3 + 1)) (l' := [(3, .int (nZ (x3 + 1))), (0, .ref 76), (1, .int (nZ x1)), (2, .int (nZ x2))]) dX10_isCovered_81 (List.Mem.tail _ (List.Mem.tail _ (List.Mem.tail _ (List.Mem.head _)))) (nZ_add _ _) (by decide) rfl ?_
            refine w_goto (tgt := 2) dX10_isCovered_84 rfl ?_
            exact w_weak (l' := [(0, .ref 76), (1, .int (nZ x1)), (2, .int (nZ x2)), (3, .int (nZ (x3 + 1)))]) (by intro q hq; simp only [List.mem_cons, List.not_mem_nil, or_false] at hq ⊢; rcases hq with rfl | rfl | rfl | rfl <;> simp) h
          · replace h := h.2 c9
            refine w_aload_n dX10_isCovered_47 rfl (List.Mem.head _) ?_
            refine w_getR (ci := 10) (k := 13) (b := 90) dX10_isCovered_48 fl_10_31 (by decide) (gT hG2 rfl (lt_of rfl)) (gR hG2 (b := 90) rfl) ?_
            refine w_iload_n dX10_isCovered_51 rfl (List.Mem.tail _ (List.Mem.head _)) ?_
            obtain ⟨h9, h⟩ := h
            have hj12 := vin_lt2 (n := 9) h9 rfl
            refine i_aald (n := 9) (b := (91 + x1.toNat)) dX10_isCovered_52 (gT hG2 rfl (lt_of rfl)) (gL hG2 rfl) rx1 h9 (gR hG2 (rr_90 hj12)) ?_
            refine w_iconst (v := nZ 1) dX10_isCovered_53 (by decide) ?_
            refine i_iald (n := 7) dX10_isCovered_54 (gT hG2 (ro_90 _ hj12).1 (by have := hj12; omega)) (gL hG2 (ro_90 _ hj12).2) (by decide) (by decide) ?_
            refine w_aload_n dX10_isCovered_55 rfl (List.Mem.head _) ?_
            refine w_getR (ci := 10) (k := 13) (b := 90) dX10_isCovered_56 fl_10_31 (by decide) (gT hG2 rfl (lt_of rfl)) (gR hG2 (b := 90) rfl) ?_
            refine w_iload_n dX10_isCovered_59 rfl (List.Mem.tail _ (List.Mem.tail _ (List.Mem.tail _ (List.Mem.head _)))) ?_
            obtain ⟨h9, h⟩ := h
            have hj13 := vin_lt2 (n := 9) h9 rfl
            refine i_aald (n := 9) (b := (91 + x3.toNat)) dX10_isCovered_60 (gT hG2 rfl (lt_of rfl)) (gL hG2 rfl) rx3 h9 (gR hG2 (rr_90 hj13)) ?_
            refine w_iconst (v := nZ 1) dX10_isCovered_61 (by decide) ?_
            refine i_iald (n := 7) dX10_isCovered_62 (gT hG2 (ro_90 _ hj13).1 (by have := hj13; omega)) (gL hG2 (ro_90 _ hj13).2) (by decide) (by decide) ?_
            obtain ⟨q14, h⟩ := h
            refine i_sub dX10_isCovered_63 ?_
            refine w_iconst (v := nZ 1) dX10_isCovered_64 (by decide) ?_
            refine w_aload_n dX10_isCovered_65 rfl (List.Mem.head _) ?_
            refine w_getR (ci := 10) (k := 13) (b := 90) dX10_isCovered_66 fl_10_31 (by decide) (gT hG2 rfl (lt_of rfl)) (gR hG2 (b := 90) rfl) ?_
            refine w_iload_n dX10_isCovered_69 rfl (List.Mem.tail _ (List.Mem.tail _ (List.Mem.tail _ (List.Mem.head _)))) ?_
            obtain ⟨h9, h⟩ := h
            have hj15 := vin_lt2 (n := 9) h9 rfl
            refine i_aald (n := 9) (b := (91 + x3.toNat)) dX10_isCovered_70 (gT hG2 rfl (lt_of rfl)) (gL hG2 rfl) rx3 h9 (gR hG2 (rr_90 hj15)) ?_
            refine w_iconst (v := nZ 3) dX10_isCovered_71 (by decide) ?_
            refine i_iald (n := 7) dX10_isCovered_72 (gT hG2 (ro_90 _ hj15).1 (by have := hj15; omega)) (gL hG2 (ro_90 _ hj15).2) (by decide) (by decide) ?_
            obtain ⟨r20, σ16, hc18, hG17, rr19, h⟩ := h
            refine w_callS dX10_isCovered_73 ml_10_140 ⟨ok_X10_in, st_X10_in⟩ hs_X10_in (As := [.int (nZ ((rI σ1 (91 + x1.toNat) 1) - (rI σ1 (91 + x3.toNat) 1))), .int (nZ 1), .int (nZ (rI σ1 (91 + x3.toNat) 3))]) rfl rfl (Nat.le_of_ble_eq_true rfl) hc18 ?_
            show wp C 10 cX10_isCovered 4 (some .boolean) false [] sc P 76 [(0, .ref 76), (1, .int (nZ x1)), (2, .int (nZ x2)), (3, .int (nZ x3))] [.int (nZ r20)] σ16
            refine i_if_eq (tgt := 81) dX10_isCovered_76 rfl rr19 (fun c9 => ?_) (fun c9 => ?_)
            · replace h := h.1 c9
              obtain ⟨q21, h⟩ := h
              refine w_iinc (v := nZ (x3 + 1)) (l' := [(3, .int (nZ (x3 + 1))), (0, .ref 76), (1, .int (nZ x1)), (2, .int (nZ x2))]) dX10_isCovered_81 (List.Mem.tail _ (List.Mem.tail _ (List.Mem.tail _ (List.Mem.head _)))) (nZ_add _ _) (by decide) rfl ?_
              refine w_goto (tgt := 2) dX10_isCovered_84 rfl ?_
              exact w_weak (l' := [(0, .ref 76), (1, .int (nZ x1)), (2, .int (nZ x2)), (3, .int (nZ (x3 + 1)))]) (by intro q hq; simp only [List.mem_cons, List.not_mem_nil, or_false] at hq ⊢; rcases hq with rfl | rfl | rfl | rfl <;> simp) h
            · replace h := h.2 c9
              refine w_iconst (v := nZ 1) dX10_isCovered_79 (by decide) ?_
              exact i_zret dX10_isCovered_80 rfl (by decide) h
theorem dX10_throwsBy_0 : decode cX10_throwsBy 0 = .ok (.iconst 0, 1) := by decide +kernel
theorem dX10_throwsBy_1 : decode cX10_throwsBy 1 = .ok (.istore_n 2, 1) := by decide +kernel
theorem dX10_throwsBy_2 : decode cX10_throwsBy 2 = .ok (.iload_n 2, 1) := by decide +kernel
theorem dX10_throwsBy_3 : decode cX10_throwsBy 3 = .ok (.aload_n 0, 1) := by decide +kernel
theorem dX10_throwsBy_4 : decode cX10_throwsBy 4 = .ok (.getfield 218, 3) := by decide +kernel
theorem dX10_throwsBy_7 : decode cX10_throwsBy 7 = .ok (.if_icmp .ge 18, 3) := by decide +kernel
theorem dX10_throwsBy_10 : decode cX10_throwsBy 10 = .ok (.aload_n 0, 1) := by decide +kernel
theorem dX10_throwsBy_11 : decode cX10_throwsBy 11 = .ok (.getfield 55, 3) := by decide +kernel
theorem dX10_throwsBy_14 : decode cX10_throwsBy 14 = .ok (.iload_n 1, 1) := by decide +kernel
theorem dX10_throwsBy_15 : decode cX10_throwsBy 15 = .ok (.aaload, 1) := by decide +kernel
theorem dX10_throwsBy_16 : decode cX10_throwsBy 16 = .ok (.iload_n 2, 1) := by decide +kernel
theorem dX10_throwsBy_17 : decode cX10_throwsBy 17 = .ok (.iconst 0, 1) := by decide +kernel
theorem dX10_throwsBy_18 : decode cX10_throwsBy 18 = .ok (.iastore, 1) := by decide +kernel
theorem dX10_throwsBy_19 : decode cX10_throwsBy 19 = .ok (.iinc 2 1, 3) := by decide +kernel
theorem dX10_throwsBy_22 : decode cX10_throwsBy 22 = .ok (.goto (-20), 3) := by decide +kernel
theorem dX10_throwsBy_25 : decode cX10_throwsBy 25 = .ok (.aload_n 0, 1) := by decide +kernel
theorem dX10_throwsBy_26 : decode cX10_throwsBy 26 = .ok (.getfield 37, 3) := by decide +kernel
theorem dX10_throwsBy_29 : decode cX10_throwsBy 29 = .ok (.iload_n 1, 1) := by decide +kernel
theorem dX10_throwsBy_30 : decode cX10_throwsBy 30 = .ok (.aaload, 1) := by decide +kernel
theorem dX10_throwsBy_31 : decode cX10_throwsBy 31 = .ok (.iconst 1, 1) := by decide +kernel
theorem dX10_throwsBy_32 : decode cX10_throwsBy 32 = .ok (.iaload, 1) := by decide +kernel
theorem dX10_throwsBy_33 : decode cX10_throwsBy 33 = .ok (.istore_n 2, 1) := by decide +kernel
theorem dX10_throwsBy_34 : decode cX10_throwsBy 34 = .ok (.aload_n 0, 1) := by decide +kernel
theorem dX10_throwsBy_35 : decode cX10_throwsBy 35 = .ok (.getfield 37, 3) := by decide +kernel
theorem dX10_throwsBy_38 : decode cX10_throwsBy 38 = .ok (.iload_n 1, 1) := by decide +kernel
theorem dX10_throwsBy_39 : decode cX10_throwsBy 39 = .ok (.aaload, 1) := by decide +kernel
theorem dX10_throwsBy_40 : decode cX10_throwsBy 40 = .ok (.iconst 2, 1) := by decide +kernel
theorem dX10_throwsBy_41 : decode cX10_throwsBy 41 = .ok (.iaload, 1) := by decide +kernel
theorem dX10_throwsBy_42 : decode cX10_throwsBy 42 = .ok (.istore_n 3, 1) := by decide +kernel
theorem dX10_throwsBy_43 : decode cX10_throwsBy 43 = .ok (.iload_n 2, 1) := by decide +kernel
theorem dX10_throwsBy_44 : decode cX10_throwsBy 44 = .ok (.ifCond .ne 8, 3) := by decide +kernel
theorem dX10_throwsBy_47 : decode cX10_throwsBy 47 = .ok (.iload_n 3, 1) := by decide +kernel
theorem dX10_throwsBy_48 : decode cX10_throwsBy 48 = .ok (.ifCond .ne 4, 3) := by decide +kernel
theorem dX10_throwsBy_51 : decode cX10_throwsBy 51 = .ok (.return_, 1) := by decide +kernel
theorem dX10_throwsBy_52 : decode cX10_throwsBy 52 = .ok (.iconst 0, 1) := by decide +kernel
theorem dX10_throwsBy_53 : decode cX10_throwsBy 53 = .ok (.istore 4, 2) := by decide +kernel
theorem dX10_throwsBy_55 : decode cX10_throwsBy 55 = .ok (.iload 4, 2) := by decide +kernel
theorem dX10_throwsBy_57 : decode cX10_throwsBy 57 = .ok (.aload_n 0, 1) := by decide +kernel
theorem dX10_throwsBy_58 : decode cX10_throwsBy 58 = .ok (.getfield 218, 3) := by decide +kernel
theorem dX10_throwsBy_61 : decode cX10_throwsBy 61 = .ok (.if_icmp .ge 206, 3) := by decide +kernel
theorem dX10_throwsBy_64 : decode cX10_throwsBy 64 = .ok (.aload_n 0, 1) := by decide +kernel
theorem dX10_throwsBy_65 : decode cX10_throwsBy 65 = .ok (.iload 4, 2) := by decide +kernel
theorem dX10_throwsBy_67 : decode cX10_throwsBy 67 = .ok (.invokevirtual 239, 3) := by decide +kernel
theorem dX10_throwsBy_70 : decode cX10_throwsBy 70 = .ok (.ifCond .ne 6, 3) := by decide +kernel
theorem dX10_throwsBy_73 : decode cX10_throwsBy 73 = .ok (.goto 188, 3) := by decide +kernel
theorem dX10_throwsBy_76 : decode cX10_throwsBy 76 = .ok (.aload_n 0, 1) := by decide +kernel
theorem dX10_throwsBy_77 : decode cX10_throwsBy 77 = .ok (.getfield 31, 3) := by decide +kernel
theorem dX10_throwsBy_80 : decode cX10_throwsBy 80 = .ok (.iload 4, 2) := by decide +kernel
theorem dX10_throwsBy_82 : decode cX10_throwsBy 82 = .ok (.aaload, 1) := by decide +kernel
theorem dX10_throwsBy_83 : decode cX10_throwsBy 83 = .ok (.iconst 0, 1) := by decide +kernel
theorem dX10_throwsBy_84 : decode cX10_throwsBy 84 = .ok (.iaload, 1) := by decide +kernel
theorem dX10_throwsBy_85 : decode cX10_throwsBy 85 = .ok (.iload_n 2, 1) := by decide +kernel
theorem dX10_throwsBy_86 : decode cX10_throwsBy 86 = .ok (.iadd, 1) := by decide +kernel
theorem dX10_throwsBy_87 : decode cX10_throwsBy 87 = .ok (.istore 5, 2) := by decide +kernel
theorem dX10_throwsBy_89 : decode cX10_throwsBy 89 = .ok (.aload_n 0, 1) := by decide +kernel
theorem dX10_throwsBy_90 : decode cX10_throwsBy 90 = .ok (.getfield 31, 3) := by decide +kernel
theorem dX10_throwsBy_93 : decode cX10_throwsBy 93 = .ok (.iload 4, 2) := by decide +kernel
theorem dX10_throwsBy_95 : decode cX10_throwsBy 95 = .ok (.aaload, 1) := by decide +kernel
theorem dX10_throwsBy_96 : decode cX10_throwsBy 96 = .ok (.iconst 1, 1) := by decide +kernel
theorem dX10_throwsBy_97 : decode cX10_throwsBy 97 = .ok (.iaload, 1) := by decide +kernel
theorem dX10_throwsBy_98 : decode cX10_throwsBy 98 = .ok (.iload_n 3, 1) := by decide +kernel
theorem dX10_throwsBy_99 : decode cX10_throwsBy 99 = .ok (.iadd, 1) := by decide +kernel
theorem dX10_throwsBy_100 : decode cX10_throwsBy 100 = .ok (.istore 6, 2) := by decide +kernel
theorem dX10_throwsBy_102 : decode cX10_throwsBy 102 = .ok (.iconst 0, 1) := by decide +kernel
theorem dX10_throwsBy_103 : decode cX10_throwsBy 103 = .ok (.istore 7, 2) := by decide +kernel
theorem dX10_throwsBy_105 : decode cX10_throwsBy 105 = .ok (.aload_n 0, 1) := by decide +kernel
theorem dX10_throwsBy_106 : decode cX10_throwsBy 106 = .ok (.iload 4, 2) := by decide +kernel
theorem dX10_throwsBy_108 : decode cX10_throwsBy 108 = .ok (.iload_n 1, 1) := by decide +kernel
theorem dX10_throwsBy_109 : decode cX10_throwsBy 109 = .ok (.invokevirtual 242, 3) := by decide +kernel
theorem dX10_throwsBy_112 : decode cX10_throwsBy 112 = .ok (.istore 8, 2) := by decide +kernel
theorem dX10_throwsBy_114 : decode cX10_throwsBy 114 = .ok (.iload 8, 2) := by decide +kernel
theorem dX10_throwsBy_116 : decode cX10_throwsBy 116 = .ok (.ifCond .le 145, 3) := by decide +kernel
theorem dX10_throwsBy_119 : decode cX10_throwsBy 119 = .ok (.iload 5, 2) := by decide +kernel
theorem dX10_throwsBy_121 : decode cX10_throwsBy 121 = .ok (.iconst 0, 1) := by decide +kernel
theorem dX10_throwsBy_122 : decode cX10_throwsBy 122 = .ok (.aload_n 0, 1) := by decide +kernel
theorem dX10_throwsBy_123 : decode cX10_throwsBy 123 = .ok (.getfield 23, 3) := by decide +kernel
theorem dX10_throwsBy_126 : decode cX10_throwsBy 126 = .ok (.iconst 0, 1) := by decide +kernel
theorem dX10_throwsBy_127 : decode cX10_throwsBy 127 = .ok (.iaload, 1) := by decide +kernel
theorem dX10_throwsBy_128 : decode cX10_throwsBy 128 = .ok (.iconst 1, 1) := by decide +kernel
theorem dX10_throwsBy_129 : decode cX10_throwsBy 129 = .ok (.isub, 1) := by decide +kernel
theorem dX10_throwsBy_130 : decode cX10_throwsBy 130 = .ok (.invokestatic 140, 3) := by decide +kernel
theorem dX10_throwsBy_133 : decode cX10_throwsBy 133 = .ok (.ifCond .eq 128, 3) := by decide +kernel
theorem dX10_throwsBy_136 : decode cX10_throwsBy 136 = .ok (.iload 6, 2) := by decide +kernel
theorem dX10_throwsBy_138 : decode cX10_throwsBy 138 = .ok (.iconst 0, 1) := by decide +kernel
theorem dX10_throwsBy_139 : decode cX10_throwsBy 139 = .ok (.aload_n 0, 1) := by decide +kernel
theorem dX10_throwsBy_140 : decode cX10_throwsBy 140 = .ok (.getfield 23, 3) := by decide +kernel
theorem dX10_throwsBy_143 : decode cX10_throwsBy 143 = .ok (.iconst 1, 1) := by decide +kernel
theorem dX10_throwsBy_144 : decode cX10_throwsBy 144 = .ok (.iaload, 1) := by decide +kernel
theorem dX10_throwsBy_145 : decode cX10_throwsBy 145 = .ok (.iconst 1, 1) := by decide +kernel
theorem dX10_throwsBy_146 : decode cX10_throwsBy 146 = .ok (.isub, 1) := by decide +kernel
theorem dX10_throwsBy_147 : decode cX10_throwsBy 147 = .ok (.invokestatic 140, 3) := by decide +kernel
theorem dX10_throwsBy_150 : decode cX10_throwsBy 150 = .ok (.ifCond .eq 111, 3) := by decide +kernel
theorem dX10_throwsBy_153 : decode cX10_throwsBy 153 = .ok (.aload_n 0, 1) := by decide +kernel
theorem dX10_throwsBy_154 : decode cX10_throwsBy 154 = .ok (.iload 5, 2) := by decide +kernel
theorem dX10_throwsBy_156 : decode cX10_throwsBy 156 = .ok (.iload 6, 2) := by decide +kernel
theorem dX10_throwsBy_158 : decode cX10_throwsBy 158 = .ok (.invokevirtual 245, 3) := by decide +kernel
theorem dX10_throwsBy_161 : decode cX10_throwsBy 161 = .ok (.istore 9, 2) := by decide +kernel
theorem dX10_throwsBy_163 : decode cX10_throwsBy 163 = .ok (.iload 5, 2) := by decide +kernel
theorem dX10_throwsBy_165 : decode cX10_throwsBy 165 = .ok (.iload_n 2, 1) := by decide +kernel
theorem dX10_throwsBy_166 : decode cX10_throwsBy 166 = .ok (.iadd, 1) := by decide +kernel
theorem dX10_throwsBy_167 : decode cX10_throwsBy 167 = .ok (.istore 5, 2) := by decide +kernel
theorem dX10_throwsBy_169 : decode cX10_throwsBy 169 = .ok (.iload 6, 2) := by decide +kernel
theorem dX10_throwsBy_171 : decode cX10_throwsBy 171 = .ok (.iload_n 3, 1) := by decide +kernel
theorem dX10_throwsBy_172 : decode cX10_throwsBy 172 = .ok (.iadd, 1) := by decide +kernel
theorem dX10_throwsBy_173 : decode cX10_throwsBy 173 = .ok (.istore 6, 2) := by decide +kernel
theorem dX10_throwsBy_175 : decode cX10_throwsBy 175 = .ok (.iload 9, 2) := by decide +kernel
theorem dX10_throwsBy_177 : decode cX10_throwsBy 177 = .ok (.iconst (-1), 1) := by decide +kernel
theorem dX10_throwsBy_178 : decode cX10_throwsBy 178 = .ok (.if_icmp .ne 6, 3) := by decide +kernel
theorem dX10_throwsBy_181 : decode cX10_throwsBy 181 = .ok (.goto 74, 3) := by decide +kernel
theorem dX10_throwsBy_184 : decode cX10_throwsBy 184 = .ok (.iload 7, 2) := by decide +kernel
theorem dX10_throwsBy_186 : decode cX10_throwsBy 186 = .ok (.aload_n 0, 1) := by decide +kernel
theorem dX10_throwsBy_187 : decode cX10_throwsBy 187 = .ok (.getfield 31, 3) := by decide +kernel
theorem dX10_throwsBy_190 : decode cX10_throwsBy 190 = .ok (.iload 4, 2) := by decide +kernel
theorem dX10_throwsBy_192 : decode cX10_throwsBy 192 = .ok (.aaload, 1) := by decide +kernel
theorem dX10_throwsBy_193 : decode cX10_throwsBy 193 = .ok (.iconst 2, 1) := by decide +kernel
theorem dX10_throwsBy_194 : decode cX10_throwsBy 194 = .ok (.iaload, 1) := by decide +kernel
theorem dX10_throwsBy_195 : decode cX10_throwsBy 195 = .ok (.if_icmp .gt 30, 3) := by decide +kernel
theorem dX10_throwsBy_198 : decode cX10_throwsBy 198 = .ok (.aload_n 0, 1) := by decide +kernel
theorem dX10_throwsBy_199 : decode cX10_throwsBy 199 = .ok (.iload 9, 2) := by decide +kernel
theorem dX10_throwsBy_201 : decode cX10_throwsBy 201 = .ok (.iload 4, 2) := by decide +kernel
theorem dX10_throwsBy_203 : decode cX10_throwsBy 203 = .ok (.invokevirtual 248, 3) := by decide +kernel
theorem dX10_throwsBy_206 : decode cX10_throwsBy 206 = .ok (.ifCond .ne 19, 3) := by decide +kernel
theorem dX10_throwsBy_209 : decode cX10_throwsBy 209 = .ok (.aload_n 0, 1) := by decide +kernel
theorem dX10_throwsBy_210 : decode cX10_throwsBy 210 = .ok (.getfield 55, 3) := by decide +kernel
theorem dX10_throwsBy_213 : decode cX10_throwsBy 213 = .ok (.iload_n 1, 1) := by decide +kernel
theorem dX10_throwsBy_214 : decode cX10_throwsBy 214 = .ok (.aaload, 1) := by decide +kernel
theorem dX10_throwsBy_215 : decode cX10_throwsBy 215 = .ok (.iload 9, 2) := by decide +kernel
theorem dX10_throwsBy_217 : decode cX10_throwsBy 217 = .ok (.dup2, 1) := by decide +kernel
theorem dX10_throwsBy_218 : decode cX10_throwsBy 218 = .ok (.iaload, 1) := by decide +kernel
theorem dX10_throwsBy_219 : decode cX10_throwsBy 219 = .ok (.iconst 1, 1) := by decide +kernel
theorem dX10_throwsBy_220 : decode cX10_throwsBy 220 = .ok (.iload 4, 2) := by decide +kernel
theorem dX10_throwsBy_222 : decode cX10_throwsBy 222 = .ok (.ishl, 1) := by decide +kernel
theorem dX10_throwsBy_223 : decode cX10_throwsBy 223 = .ok (.ior, 1) := by decide +kernel
theorem dX10_throwsBy_224 : decode cX10_throwsBy 224 = .ok (.iastore, 1) := by decide +kernel
theorem dX10_throwsBy_225 : decode cX10_throwsBy 225 = .ok (.aload_n 0, 1) := by decide +kernel
theorem dX10_throwsBy_226 : decode cX10_throwsBy 226 = .ok (.getfield 31, 3) := by decide +kernel
theorem dX10_throwsBy_229 : decode cX10_throwsBy 229 = .ok (.iload 9, 2) := by decide +kernel
theorem dX10_throwsBy_231 : decode cX10_throwsBy 231 = .ok (.aaload, 1) := by decide +kernel
theorem dX10_throwsBy_232 : decode cX10_throwsBy 232 = .ok (.iconst 2, 1) := by decide +kernel
theorem dX10_throwsBy_233 : decode cX10_throwsBy 233 = .ok (.iaload, 1) := by decide +kernel
theorem dX10_throwsBy_234 : decode cX10_throwsBy 234 = .ok (.iload 7, 2) := by decide +kernel
theorem dX10_throwsBy_236 : decode cX10_throwsBy 236 = .ok (.if_icmp .le 15, 3) := by decide +kernel
theorem dX10_throwsBy_239 : decode cX10_throwsBy 239 = .ok (.aload_n 0, 1) := by decide +kernel
theorem dX10_throwsBy_240 : decode cX10_throwsBy 240 = .ok (.getfield 31, 3) := by decide +kernel
theorem dX10_throwsBy_243 : decode cX10_throwsBy 243 = .ok (.iload 9, 2) := by decide +kernel
theorem dX10_throwsBy_245 : decode cX10_throwsBy 245 = .ok (.aaload, 1) := by decide +kernel
theorem dX10_throwsBy_246 : decode cX10_throwsBy 246 = .ok (.iconst 2, 1) := by decide +kernel
theorem dX10_throwsBy_247 : decode cX10_throwsBy 247 = .ok (.iaload, 1) := by decide +kernel
theorem dX10_throwsBy_248 : decode cX10_throwsBy 248 = .ok (.goto 5, 3) := by decide +kernel
theorem dX10_throwsBy_251 : decode cX10_throwsBy 251 = .ok (.iload 7, 2) := by decide +kernel
theorem dX10_throwsBy_253 : decode cX10_throwsBy 253 = .ok (.istore 7, 2) := by decide +kernel
theorem dX10_throwsBy_255 : decode cX10_throwsBy 255 = .ok (.iinc 8 (-1), 3) := by decide +kernel
theorem dX10_throwsBy_258 : decode cX10_throwsBy 258 = .ok (.goto (-144), 3) := by decide +kernel
theorem dX10_throwsBy_261 : decode cX10_throwsBy 261 = .ok (.iinc 4 1, 3) := by decide +kernel
theorem dX10_throwsBy_264 : decode cX10_throwsBy 264 = .ok (.goto (-209), 3) := by decide +kernel
theorem dX10_throwsBy_267 : decode cX10_throwsBy 267 = .ok (.return_, 1) := by decide +kernel
def L_X10_throwsBy_2 (C : aM → List Value → aH → aO → aH → Prop) (sc : Nat × (Nat → Int32)) (P : aO → aH → Prop) (x1 : Int) (x2 : Int) (σ : aH) : Prop :=
    wp C 10 cX10_throwsBy 10 none false [] sc P 2 [(0, .ref 76), (1, .int (nZ x1)), (2, .int (nZ x2))] [] σ
def L_X10_throwsBy_55 (C : aM → List Value → aH → aO → aH → Prop) (sc : Nat × (Nat → Int32)) (P : aO → aH → Prop) (x1 : Int) (x2 : Int) (x3 : Int) (x4 : Int) (σ : aH) : Prop :=
    wp C 10 cX10_throwsBy 10 none false [] sc P 55 [(0, .ref 76), (1, .int (nZ x1)), (2, .int (nZ x2)), (3, .int (nZ x3)), (4, .int (nZ x4))] [] σ
def L_X10_throwsBy_114 (C : aM → List Value → aH → aO → aH → Prop) (sc : Nat × (Nat → Int32)) (P : aO → aH → Prop) (x1 : Int) (x2 : Int) (x3 : Int) (x4 : Int) (x5 : Int) (x6 : Int) (x7 : Int) (x8 : Int) (σ : aH) : Prop :=
    wp C 10 cX10_throwsBy 10 none false [] sc P 114 [(0, .ref 76), (1, .int (nZ x1)), (2, .int (nZ x2)), (3, .int (nZ x3)), (4, .int (nZ x4)), (5, .int (nZ x5)), (6, .int (nZ x6)), (7, .int (nZ x7)), (8, .int (nZ x8))] [] σ
def L_X10_throwsBy_225 (C : aM → List Value → aH → aO → aH → Prop) (sc : Nat × (Nat → Int32)) (P : aO → aH → Prop) (x1 : Int) (x2 : Int) (x3 : Int) (x4 : Int) (x5 : Int) (x6 : Int) (x7 : Int) (x8 : Int) (x9 : Int) (σ : aH) : Prop :=
    wp C 10 cX10_throwsBy 10 none false [] sc P 225 [(0, .ref 76), (1, .int (nZ x1)), (2, .int (nZ x2)), (3, .int (nZ x3)), (4, .int (nZ x4)), (5, .int (nZ x5)), (6, .int (nZ x6)), (7, .int (nZ x7)), (8, .int (nZ x8)), (9, .int (nZ x9))] [] σ
set_option maxRecDepth 10000 in
theorem t_X10_throwsBy {sc : Nat × (Nat → Int32)} {d : Nat} {Q : aO → aH → Prop} {σ : aH} {u : Nat}  {x1 : Int} (hG : G σ u) (rx1 : inR x1)
    (h : L_X10_throwsBy_2 (Ev sc d) sc Q x1 0 σ) :
    T sc (d + 1) mX10_throwsBy [.ref 76, .int (nZ x1)] σ Q := by
  refine T.of (c := 10) (code := cX10_throwsBy) (mL := 10) (rt := none) (ini := false) (l := [(0, .ref 76), (1, .int (nZ x1))]) rfl rfl rfl rfl (by decide) hs_X10_throwsBy rfl rfl ?_
  refine w_iconst (v := nZ 0) dX10_throwsBy_0 (by decide) ?_
  refine w_istore_n (l' := [(2, .int (nZ 0)), (0, .ref 76), (1, .int (nZ x1))]) dX10_throwsBy_1 rfl (by decide) rfl ?_
  exact w_weak (l' := [(0, .ref 76), (1, .int (nZ x1)), (2, .int (nZ 0))]) (by intro q hq; simp only [List.mem_cons, List.not_mem_nil, or_false] at hq ⊢; rcases hq with rfl | rfl | rfl <;> simp) h
set_option maxRecDepth 10000 in
theorem v_X10_throwsBy_2 {C : aM → List Value → aH → aO → aH → Prop} {sc : Nat × (Nat → Int32)} {P : aO → aH → Prop} {σ : aH} {u : Nat}  {x1 : Int} {x2 : Int} (hG : G σ u) (rx1 : inR x1) (rx2 : inR x2)
    (h : (((rI σ 76 28) ≤ x2 → ((0 ≤ x1 ∧ x1 < 20) ∧ (∀ z2 : Int, z2 = (rI σ (122 + x1.toNat) 1) → ((0 ≤ x1 ∧ x1 < 20) ∧ (∀ z6 : Int, z6 = (rI σ (122 + x1.toNat) 2) → ((¬ z2 = 0 → L_X10_throwsBy_55 C sc P x1 z2 z6 0 σ) ∧ (z2 = 0 → ((¬ z6 = 0 → L_X10_throwsBy_55 C sc P x1 z2 z6 0 σ) ∧ (z6 = 0 → P (.inl none) σ))))))))) ∧ (¬ ((rI σ 76 28) ≤ x2) → ((0 ≤ x1 ∧ x1 < 20) ∧ ((0 ≤ x2 ∧ x2 < 9) ∧ (∀ σ10 : aH, wI σ (261 + x1.toNat) x2 0 = σ10 → (inR (x2 + 1) ∧ L_X10_throwsBy_2 C sc P x1 (x2 + 1) σ10))))))) :
    L_X10_throwsBy_2 C sc P x1 x2 σ := by
  unfold L_X10_throwsBy_2
  refine w_iload_n dX10_throwsBy_2 rfl (List.Mem.tail _ (List.Mem.tail _ (List.Mem.head _))) ?_
  refine w_aload_n dX10_throwsBy_3 rfl (List.Mem.head _) ?_
  refine i_getI (ci := 10) 28 rfl dX10_throwsBy_4 fl_10_218 (by decide) (gT hG rfl (lt_of rfl)) ?_
  refine i_cmp_ge (tgt := 25) dX10_throwsBy_7 rfl rx2 (rI_R _ _ _) (fun c9 => ?_) (fun c9 => ?_)
  · replace h := h.1 c9
    refine w_aload_n dX10_throwsBy_25 rfl (List.Mem.head _) ?_
    refine w_getR (ci := 10) (k := 15) (b := 121) dX10_throwsBy_26 fl_10_37 (by decide) (gT hG rfl (lt_of rfl)) (gR hG (b := 121) rfl) ?_
    refine w_iload_n dX10_throwsBy_29 rfl (List.Mem.tail _ (List.Mem.head _)) ?_
    obtain ⟨h9, h⟩ := h
    have hj1 := vin_lt2 (n := 20) h9 rfl
    refine i_aald (n := 20) (b := (122 + x1.toNat)) dX10_throwsBy_30 (gT hG rfl (lt_of rfl)) (gL hG rfl) rx1 h9 (gR hG (rr_121 hj1)) ?_
    refine w_iconst (v := nZ 1) dX10_throwsBy_31 (by decide) ?_
    refine i_iald (n := 4) dX10_throwsBy_32 (gT hG (ro_121 _ hj1).1 (by have := hj1; omega)) (gL hG (ro_121 _ hj1).2) (by decide) (by decide) ?_
    refine top_i (fun z2 ez3 => ?_)
    have rz4 : inR z2 := ez3 ▸ (rI_R _ _ _)
    replace h := h z2 ez3
    refine w_istore_n (l' := [(2, .int (nZ z2)), (0, .ref 76), (1, .int (nZ x1))]) dX10_throwsBy_33 rfl (by decide) rfl ?_
    refine w_aload_n dX10_throwsBy_34 rfl (List.Mem.tail _ (List.Mem.head _)) ?_
    refine w_getR (ci := 10) (k := 15) (b := 121) dX10_throwsBy_35 fl_10_37 (by decide) (gT hG rfl (lt_of rfl)) (gR hG (b := 121) rfl) ?_
    refine w_iload_n dX10_throwsBy_38 rfl (List.Mem.tail _ (List.Mem.tail _ (List.Mem.head _))) ?_
    obtain ⟨h9, h⟩ := h
    have hj5 := vin_lt2 (n := 20) h9 rfl
    refine i_aald (n := 20) (b := (122 + x1.toNat)) dX10_throwsBy_39 (gT hG rfl (lt_of rfl)) (gL hG rfl) rx1 h9 (gR hG (rr_121 hj5)) ?_
    refine w_iconst (v := nZ 2) dX10_throwsBy_40 (by decide) ?_
    refine i_iald (n := 4) dX10_throwsBy_41 (gT hG (ro_121 _ hj5).1 (by have := hj5; omega)) (gL hG (ro_121 _ hj5).2) (by decide) (by decide) ?_
    refine top_i (fun z6 ez7 => ?_)
    have rz8 : inR z6 := ez7 ▸ (rI_R _ _ _)
    replace h := h z6 ez7
    refine w_istore_n (l' := [(3, .int (nZ z6)), (2, .int (nZ z2)), (0, .ref 76), (1, .int (nZ x1))]) dX10_throwsBy_42 rfl (by decide) rfl ?_
    refine w_iload_n dX10_throwsBy_43 rfl (List.Mem.tail _ (List.Mem.head _)) ?_
    refine i_if_ne (tgt := 52) dX10_throwsBy_44 rfl rz4 (fun c9 => ?_) (fun c9 => ?_)
    · replace h := h.1 c9
      refine w_iconst (v := nZ 0) dX10_throwsBy_52 (by decide) ?_
      refine w_istore (l' := [(4, .int (nZ 0)), (3, .int (nZ z6)), (2, .int (nZ z2)), (0, .ref 76), (1, .int (nZ x1))]) dX10_throwsBy_53 (by decide) rfl ?_
      exact w_weak (l' := [(0, .ref 76), (1, .int (nZ x1)), (2, .int (nZ z2)), (3, .int (nZ z6)), (4, .int (nZ 0))]) (by intro q hq; simp only [List.mem_cons, List.not_mem_nil, or_false] at hq ⊢; rcases hq with rfl | rfl | rfl | rfl | rfl <;> simp) h
    · replace h := h.2 c9
      refine w_iload_n dX10_throwsBy_47 rfl (List.Mem.head _) ?_
      refine i_if_ne (tgt := 52) dX10_throwsBy_48 rfl rz8 (fun c9 => ?_) (fun c9 => ?_)
      · replace h := h.1 c9
        refine w_iconst (v := nZ 0) dX10_throwsBy_52 (by decide) ?_
        refine w_istore (l' := [(4, .int (nZ 0)), (3, .int (nZ z6)), (2, .int (nZ z2)), (0, .ref 76), (1, .int (nZ x1))]) dX10_throwsBy_53 (by decide) rfl ?_
        exact w_weak (l' := [(0, .ref 76), (1, .int (nZ x1)), (2, .int (nZ z2)), (3, .int (nZ z6)), (4, .int (nZ 0))]) (by intro q hq; simp only [List.mem_cons, List.not_mem_nil, or_false] at hq ⊢; rcases hq with rfl | rfl | rfl | rfl | rfl <;> simp) h
      · replace h := h.2 c9
        exact w_vret dX10_throwsBy_51 rfl h
  · replace h := h.2 c9
    refine w_aload_n dX10_throwsBy_10 rfl (List.Mem.head _) ?_
    refine w_getR (ci := 10) (k := 29) (b := 260) dX10_throwsBy_11 fl_10_55 (by decide) (gT hG rfl (lt_of rfl)) (gR hG (b := 260) rfl) ?_
    refine w_iload_n dX10_throwsBy_14 rfl (List.Mem.tail _ (List.Mem.head _)) ?_
    obtain ⟨h9, h⟩ := h
    have hj9 := vin_lt2 (n := 20) h9 rfl
    refine i_aald (n := 20) (b := (261 + x1.toNat)) dX10_throwsBy_15 (gT hG rfl (lt_of rfl)) (gL hG rfl) rx1 h9 (gR hG (rr_260 hj9)) ?_
    refine w_iload_n dX10_throwsBy_16 rfl (List.Mem.tail _ (List.Mem.tail _ (List.Mem.head _))) ?_
    refine w_iconst (v := nZ 0) dX10_throwsBy_17 (by decide) ?_
    obtain ⟨h9, h⟩ := h
    refine i_iast (n := 9) dX10_throwsBy_18 (gT hG (ro_260 _ hj9).1 (by have := hj9; omega)) (gL hG (ro_260 _ hj9).2) rx2 h9 (fun σ10 eσ11 => ?_)
    replace h := h σ10 eσ11
    have hG12 : G σ10 u := eσ11 ▸ G.wI hG
    obtain ⟨q13, h⟩ := h
    refine w_iinc (v := nZ (x2 + 1)) (l' := [(2, .int (nZ (x2 + 1))), (0, .ref 76), (1, .int (nZ x1))]) dX10_throwsBy_19 (List.Mem.tail _ (List.Mem.tail _ (List.Mem.head _))) (nZ_add _ _) (by decide) rfl ?_
    refine w_goto (tgt := 2) dX10_throwsBy_22 rfl ?_
    exact w_weak (l' := [(0, .ref 76), (1, .int (nZ x1)), (2, .int (nZ (x2 + 1)))]) (by intro q hq; simp only [List.mem_cons, List.not_mem_nil, or_false] at hq ⊢; rcases hq with rfl | rfl | rfl <;> simp) h
set_option maxRecDepth 10000 in
theorem v_X10_throwsBy_55 {C : aM → List Value → aH → aO → aH → Prop} {sc : Nat × (Nat → Int32)} {P : aO → aH → Prop} {σ : aH} {u : Nat}  {x1 : Int} {x2 : Int} {x3 : Int} {x4 : Int} (hG : G σ u) (rx1 : inR x1) (rx2 : inR x2) (rx3 : inR x3) (rx4 : inR x4)
    (h : (((rI σ 76 28) ≤ x4 → P (.inl none) σ) ∧ (¬ ((rI σ 76 28) ≤ x4) → (∃ (r5 : Int) (σ1 : aH), C mX10_isThere [.ref 76, .int (nZ x4)] σ (.inl (some (.int (nZ r5)))) σ1 ∧ G σ1 u ∧ inR r5 ∧ ((¬ r5 = 0 → ((0 ≤ x4 ∧ x4 < 9) ∧ (inR ((rI σ1 (91 + x4.toNat) 0) + x2) ∧ (∀ z8 : Int, z8 = ((rI σ1 (91 + x4.toNat) 0) + x2) → ((0 ≤ x4 ∧ x4 < 9) ∧ (inR ((rI σ1 (91 + x4.toNat) 1) + x3) ∧ (∀ z13 : Int, z13 = ((rI σ1 (91 + x4.toNat) 1) + x3) → (∃ (r20 : Int) (σ16 : aH), C mX10_lengthBy [.ref 76, .int (nZ x4), .int (nZ x1)] σ1 (.inl (some (.int (nZ r20)))) σ16 ∧ G σ16 u ∧ inR r20 ∧ L_X10_throwsBy_114 C sc P x1 x2 x3 x4 z8 z13 0 r20 σ16)))))))) ∧ (r5 = 0 → (inR (x4 + 1) ∧ L_X10_throwsBy_55 C sc P x1 x2 x3 (x4 + 1) σ1))))))) :
    L_X10_throwsBy_55 C sc P x1 x2 x3 x4 σ := by
  unfold L_X10_throwsBy_55
  refine w_iload dX10_throwsBy_55 (List.Mem.tail _ (List.Mem.tail _ (List.Mem.tail _ (List.Mem.tail _ (List.Mem.head _))))) ?_
  refine w_aload_n dX10_throwsBy_57 rfl (List.Mem.head _) ?_
  refine i_getI (ci := 10) 28 rfl dX10_throwsBy_58 fl_10_218 (by decide) (gT hG rfl (lt_of rfl)) ?_
  refine i_cmp_ge (tgt := 267) dX10_throwsBy_61 rfl rx4 (rI_R _ _ _) (fun c9 => ?_) (fun c9 => ?_)
  · replace h := h.1 c9
    exact w_vret dX10_throwsBy_267 rfl h
  · replace h := h.2 c9
    refine w_aload_n dX10_throwsBy_64 rfl (List.Mem.head _) ?_
    refine w_iload dX10_throwsBy_65 (List.Mem.tail _ (List.Mem.tail _ (List.Mem.tail _ (List.Mem.tail _ (List.Mem.head _))))) ?_
    obtain ⟨r5, σ1, hc3, hG2, rr4, h⟩ := h
    refine w_callV dX10_throwsBy_67 ml_10_239 ⟨ok_X10_isThere, vi_X10_isThere⟩ hs_X10_isThere (As := [.int (nZ x4)]) rfl rfl (gT hG rfl (lt_of rfl)) (Nat.le_of_ble_eq_true rfl) hc3 ?_
    show wp C 10 cX10_throwsBy 10 none false [] sc P 70 [(0, .ref 76), (1, .int (nZ x1)), (2, .int (nZ x2)), (3, .int (nZ x3)), (4, .int (nZ x4))] [.int (nZ r5)] σ1
    refine i_if_ne (tgt := 76) dX10_throwsBy_70 rfl rr4 (fun c9 => ?_) (fun c9 => ?_)
    · replace h := h.1 c9
      refine w_aload_n dX10_throwsBy_76 rfl (List.Mem.head _) ?_
      refine w_getR (ci := 10) (k := 13) (b := 90) dX10_throwsBy_77 fl_10_31 (by decide) (gT hG2 rfl (lt_of rfl)) (gR hG2 (b := 90) rfl) ?_
      refine w_iload dX10_throwsBy_80 (List.Mem.tail _ (List.Mem.tail _ (List.Mem.tail _ (List.Mem.tail _ (List.Mem.head _))))) ?_
      obtain ⟨h9, h⟩ := h
      have hj6 := vin_lt2 (n := 9) h9 rfl
      refine i_aald (n := 9) (b := (91 + x4.toNat)) dX10_throwsBy_82 (gT hG2 rfl (lt_of rfl)) (gL hG2 rfl) rx4 h9 (gR hG2 (rr_90 hj6)) ?_
      refine w_iconst (v := nZ 0) dX10_throwsBy_83 (by decide) ?_
      refine i_iald (n := 7) dX10_throwsBy_84 (gT hG2 (ro_90 _ hj6).1 (by have := hj6; omega)) (gL hG2 (ro_90 _ hj6).2) (by decide) (by decide) ?_
      refine w_iload_n dX10_throwsBy_85 rfl (List.Mem.tail _ (List.Mem.tail _ (List.Mem.head _))) ?_
      obtain ⟨q7, h⟩ := h
      refine i_add dX10_throwsBy_86 ?_
      refine top_i (fun z8 ez9 => ?_)
      have rz10 : inR z8 := ez9 ▸ q7
      replace h := h z8 ez9
      refine w_istore (l' := [(5, .int (nZ z8)), (0, .ref 76), (1, .int (nZ x1)), (2, .int (nZ x2)), (3, .int (nZ x3)), (4, .int (nZ x4))]) dX10_throwsBy_87 (by decide) rfl ?_
      refine w_aload_n dX10_throwsBy_89 rfl (List.Mem.tail _ (List.Mem.head _)) ?_
      refine w_getR (ci := 10) (k := 13) (b := 90) dX10_throwsBy_90 fl_10_31 (by decide) (gT hG2 rfl (lt_of rfl)) (gR hG2 (b := 90) rfl) ?_
      refine w_iload dX10_throwsBy_93 (List.Mem.tail _ (List.Mem.tail _ (List.Mem.tail _ (List.Mem.tail _ (List.Mem.tail _ (List.Mem.head _)))))) ?_
      obtain ⟨h9, h⟩ := h
      have hj11 := vin_lt2 (n := 9) h9 rfl
      refine i_aald (n := 9) (b := (91 + x4.toNat)) dX10_throwsBy_95 (gT hG2 rfl (lt_of rfl)) (gL hG2 rfl) rx4 h9 (gR hG2 (rr_90 hj11)) ?_
      refine w_iconst (v := nZ 1) dX10_throwsBy_96 (by decide) ?_
      refine i_iald (n := 7) dX10_throwsBy_97 (gT hG2 (ro_90 _ hj11).1 (by have := hj11; omega)) (gL hG2 (ro_90 _ hj11).2) (by decide) (by decide) ?_
      refine w_iload_n dX10_throwsBy_98 rfl (List.Mem.tail _ (List.Mem.tail _ (List.Mem.tail _ (List.Mem.tail _ (List.Mem.head _))))) ?_
      obtain ⟨q12, h⟩ := h
      refine i_add dX10_throwsBy_99 ?_
      refine top_i (fun z13 ez14 => ?_)
      have rz15 : inR z13 := ez14 ▸ q12
      replace h := h z13 ez14
      refine w_istore (l' := [(6, .int (nZ z13)), (5, .int (nZ z8)), (0, .ref 76), (1, .int (nZ x1)), (2, .int (nZ x2)), (3, .int (nZ x3)), (4, .int (nZ x4))]) dX10_throwsBy_100 (by decide) rfl ?_
      refine w_iconst (v := nZ 0) dX10_throwsBy_102 (by decide) ?_
      refine w_istore (l' := [(7, .int (nZ 0)), (6, .int (nZ z13)), (5, .int (nZ z8)), (0, .ref 76), (1, .int (nZ x1)), (2, .int (nZ x2)), (3, .int (nZ x3)), (4, .int (nZ x4))]) dX10_throwsBy_103 (by decide) rfl ?_
      refine w_aload_n dX10_throwsBy_105 rfl (List.Mem.tail _ (List.Mem.tail _ (List.Mem.tail _ (List.Mem.head _)))) ?_
      refine w_iload dX10_throwsBy_106 (List.Mem.tail _ (List.Mem.tail _ (List.Mem.tail _ (List.Mem.tail _ (List.Mem.tail _ (List.Mem.tail _ (List.Mem.tail _ (List.Mem.head _)))))))) ?_
      refine w_iload_n dX10_throwsBy_108 rfl (List.Mem.tail _ (List.Mem.tail _ (List.Mem.tail _ (List.Mem.tail _ (List.Mem.head _))))) ?_
      obtain ⟨r20, σ16, hc18, hG17, rr19, h⟩ := h
      refine w_callV dX10_throwsBy_109 ml_10_242 ⟨ok_X10_lengthBy, vi_X10_lengthBy⟩ hs_X10_lengthBy (As := [.int (nZ x4), .int (nZ x1)]) rfl rfl (gT hG2 rfl (lt_of rfl)) (Nat.le_of_ble_eq_true rfl) hc18 ?_
      show wp C 10 cX10_throwsBy 10 none false [] sc P 112 [(7, .int (nZ 0)), (6, .int (nZ z13)), (5, .int (nZ z8)), (0, .ref 76), (1, .int (nZ x1)), (2, .int (nZ x2)), (3, .int (nZ x3)), (4, .int (nZ x4))] [.int (nZ r20)] σ16
      refine w_istore (l' := [(8, .int (nZ r20)), (7, .int (nZ 0)), (6, .int (nZ z13)), (5, .int (nZ z8)), (0, .ref 76), (1, .int (nZ x1)), (2, .int (nZ x2)), (3, .int (nZ x3)), (4, .int (nZ x4))]) dX10_throwsBy_112 (by decide) rfl ?_
      exact w_weak (l' := [(0, .ref 76), (1, .int (nZ x1)), (2, .int (nZ x2)), (3, .int (nZ x3)), (4, .int (nZ x4)), (5, .int (nZ z8)), (6, .int (nZ z13)), (7, .int (nZ 0)), (8, .int (nZ r20))]) (by intro q hq; simp only [List.mem_cons, List.not_mem_nil, or_false] at hq ⊢; rcases hq with rfl | rfl | rfl | rfl | rfl | rfl | rfl | rfl | rfl <;> simp) h
    · replace h := h.2 c9
      refine w_goto (tgt := 261) dX10_throwsBy_73 rfl ?_
      obtain ⟨q21, h⟩ := h
      refine w_iinc (v := nZ (x4 + 1)) (l' := [(4, .int (nZ (x4 + 1))), (0, .ref 76), (1, .int (nZ x1)), (2, .int (nZ x2)), (3, .int (nZ x3))]) dX10_throwsBy_261 (List.Mem.tail _ (List.Mem.tail _ (List.Mem.tail _ (List.Mem.tail _ (List.Mem.head _))))) (nZ_add _ _) (by decide) rfl ?_
      refine w_goto (tgt := 55) dX10_throwsBy_264 rfl ?_
      exact w_weak (l' := [(0, .ref 76), (1, .int (nZ x1)), (2, .int (nZ x2)), (3, .int (nZ x3)), (4, .int (nZ (x4 + 1)))]) (by intro q hq; simp only [List.mem_cons, List.not_mem_nil, or_false] at hq ⊢; rcases hq with rfl | rfl | rfl | rfl | rfl <;> simp) h
set_option maxRecDepth 10000 in
theorem v_X10_throwsBy_114 {C : aM → List Value → aH → aO → aH → Prop} {sc : Nat × (Nat → Int32)} {P : aO → aH → Prop} {σ : aH} {u : Nat}  {x1 : Int} {x2 : Int} {x3 : Int} {x4 : Int} {x5 : Int} {x6 : Int} {x7 : Int} {x8 : Int} (hG : G σ u) (rx1 : inR x1) (rx2 : inR x2) (rx3 : inR x3) (rx4 : inR x4) (rx5 : inR x5) (rx6 : inR x6) (rx7 : inR x7) (rx8 : inR x8)
    (h : ((x8 ≤ 0 → (inR (x4 + 1) ∧ L_X10_throwsBy_55 C sc P x1 x2 x3 (x4 + 1) σ)) ∧ (¬ (x8 ≤ 0) → (inR ((rI σ 80 0) - 1) ∧ (∃ (r7 : Int) (σ3 : aH), C mX10_in [.int (nZ x5), .int (nZ 0), .int (nZ ((rI σ 80 0) - 1))] σ (.inl (some (.int (nZ r7)))) σ3 ∧ G σ3 u ∧ inR r7 ∧ ((r7 = 0 → (inR (x4 + 1) ∧ L_X10_throwsBy_55 C sc P x1 x2 x3 (x4 + 1) σ3)) ∧ (¬ (r7 = 0) → (inR ((rI σ3 80 1) - 1) ∧ (∃ (r14 : Int) (σ10 : aH), C mX10_in [.int (nZ x6), .int (nZ 0), .int (nZ ((rI σ3 80 1) - 1))] σ3 (.inl (some (.int (nZ r14)))) σ10 ∧ G σ10 u ∧ inR r14 ∧ ((r14 = 0 → (inR (x4 + 1) ∧ L_X10_throwsBy_55 C sc P x1 x2 x3 (x4 + 1) σ10)) ∧ (¬ (r14 = 0) → (∃ (r20 : Int) (σ16 : aH), C mX10_stallOn [.ref 76, .int (nZ x5), .int (nZ x6)] σ10 (.inl (some (.int (nZ r20)))) σ16 ∧ G σ16 u ∧ inR r20 ∧ (inR (x5 + x2) ∧ (∀ z22 : Int, z22 = (x5 + x2) → (inR (x6 + x3) ∧ (∀ z26 : Int, z26 = (x6 + x3) → ((¬ r20 = (-1) → ((0 ≤ x4 ∧ x4 < 9) ∧ (((rI σ16 (91 + x4.toNat) 2) < x7 → L_X10_throwsBy_225 C sc P x1 x2 x3 x4 z22 z26 x7 x8 r20 σ16) ∧ (¬ ((rI σ16 (91 + x4.toNat) 2) < x7) → (∃ (r34 : Int) (σ30 : aH), C mX10_isCovered [.ref 76, .int (nZ r20), .int (nZ x4)] σ16 (.inl (some (.int (nZ r34)))) σ30 ∧ G σ30 u ∧ inR r34 ∧ ((¬ r34 = 0 → L_X10_throwsBy_225 C sc P x1 x2 x3 x4 z22 z26 x7 x8 r20 σ30) ∧ (r34 = 0 → ((0 ≤ x1 ∧ x1 < 20) ∧ ((0 ≤ r20 ∧ r20 < 9) ∧ ((0 ≤ r20 ∧ r20 < 9) ∧ (∀ σ36 : aH, wI σ30 (261 + x1.toNat) r20 (zOr (rI σ30 (261 + x1.toNat) r20) (zShl 1 x4)) = σ36 → L_X10_throwsBy_225 C sc P x1 x2 x3 x4 z22 z26 x7 x8 r20 σ36))))))))))) ∧ (r20 = (-1) → (inR (x8 + (-1)) ∧ L_X10_throwsBy_114 C sc P x1 x2 x3 x4 z22 z26 x7 (x8 + (-1)) σ16))))))))))))))))))) :
    L_X10_throwsBy_114 C sc P x1 x2 x3 x4 x5 x6 x7 x8 σ := by
  unfold L_X10_throwsBy_114
  refine w_iload dX10_throwsBy_114 (List.Mem.tail _ (List.Mem.tail _ (List.Mem.tail _ (List.Mem.tail _ (List.Mem.tail _ (List.Mem.tail _ (List.Mem.tail _ (List.Mem.tail _ (List.Mem.head _))))))))) ?_
  refine i_if_le (tgt := 261) dX10_throwsBy_116 rfl rx8 (fun c9 => ?_) (fun c9 => ?_)
  · replace h := h.1 c9
    obtain ⟨q1, h⟩ := h
    refine w_iinc (v := nZ (x4 + 1)) (l' := [(4, .int (nZ (x4 + 1))), (0, .ref 76), (1, .int (nZ x1)), (2, .int (nZ x2)), (3, .int (nZ x3)), (5, .int (nZ x5)), (6, .int (nZ x6)), (7, .int (nZ x7)), (8, .int (nZ x8))]) dX10_throwsBy_261 (List.Mem.tail _ (List.Mem.tail _ (List.Mem.tail _ (List.Mem.tail _ (List.Mem.head _))))) (nZ_add _ _) (by decide) rfl ?_
    refine w_goto (tgt := 55) dX10_throwsBy_264 rfl ?_
    exact w_weak (l' := [(0, .ref 76), (1, .int (nZ x1)), (2, .int (nZ x2)), (3, .int (nZ x3)), (4, .int (nZ (x4 + 1)))]) (by intro q hq; simp only [List.mem_cons, List.not_mem_nil, or_false] at hq ⊢; rcases hq with rfl | rfl | rfl | rfl | rfl <;> simp) h
  · replace h := h.2 c9
    refine w_iload dX10_throwsBy_119 (List.Mem.tail _ (List.Mem.tail _ (List.Mem.tail _ (List.Mem.tail _ (List.Mem.tail _ (List.Mem.head _)))))) ?_
    refine w_iconst (v := nZ 0) dX10_throwsBy_121 (by decide) ?_
    refine w_aload_n dX10_throwsBy_122 rfl (List.Mem.head _) ?_
    refine w_getR (ci := 10) (k := 11) (b := 80) dX10_throwsBy_123 fl_10_23 (by decide) (gT hG rfl (lt_of rfl)) (gR hG (b := 80) rfl) ?_
    refine w_iconst (v := nZ 0) dX10_throwsBy_126 (by decide) ?_
    refine i_iald (n := 8) dX10_throwsBy_127 (gT hG rfl (lt_of rfl)) (gL hG rfl) (by decide) (by decide) ?_
    refine w_iconst (v := nZ 1) dX10_throwsBy_128 (by decide) ?_
    obtain ⟨q2, h⟩ := h
    refine i_sub dX10_throwsBy_129 ?_
    obtain ⟨r7, σ3, hc5, hG4, rr6, h⟩ := h
    refine w_callS dX10_throwsBy_130 ml_10_140 ⟨ok_X10_in, st_X10_in⟩ hs_X10_in (As := [.int (nZ x5), .int (nZ 0), .int (nZ ((rI σ 80 0) - 1))]) rfl rfl (Nat.le_of_ble_eq_true rfl) hc5 ?_
    show wp C 10 cX10_throwsBy 10 none false [] sc P 133 [(0, .ref 76), (1, .int (nZ x1)), (2, .int (nZ x2)), (3, .int (nZ x3)), (4, .int (nZ x4)), (5, .int (nZ x5)), (6, .int (nZ x6)), (7, .int (nZ x7)), (8, .int (nZ x8))] [.int (nZ r7)] σ3
    refine i_if_eq (tgt := 261) dX10_throwsBy_133 rfl rr6 (fun c9 => ?_) (fun c9 => ?_)
    · replace h := h.1 c9
      obtain ⟨q8, h⟩ := h
      refine w_iinc (v := nZ (x4 + 1)) (l' := [(4, .int (nZ (x4 + 1))), (0, .ref 76), (1, .int (nZ x1)), (2, .int (nZ x2)), (3, .int (nZ x3)), (5, .int (nZ x5)), (6, .int (nZ x6)), (7, .int (nZ x7)), (8, .int (nZ x8))]) dX10_throwsBy_261 (List.Mem.tail _ (List.Mem.tail _ (List.Mem.tail _ (List.Mem.tail _ (List.Mem.head _))))) (nZ_add _ _) (by decide) rfl ?_
      refine w_goto (tgt := 55) dX10_throwsBy_264 rfl ?_
      exact w_weak (l' := [(0, .ref 76), (1, .int (nZ x1)), (2, .int (nZ x2)), (3, .int (nZ x3)), (4, .int (nZ (x4 + 1)))]) (by intro q hq; simp only [List.mem_cons, List.not_mem_nil, or_false] at hq ⊢; rcases hq with rfl | rfl | rfl | rfl | rfl <;> simp) h
    · replace h := h.2 c9
      refine w_iload dX10_throwsBy_136 (List.Mem.tail _ (List.Mem.tail _ (List.Mem.tail _ (List.Mem.tail _ (List.Mem.tail _ (List.Mem.tail _ (List.Mem.head _))))))) ?_
      refine w_iconst (v := nZ 0) dX10_throwsBy_138 (by decide) ?_
      refine w_aload_n dX10_throwsBy_139 rfl (List.Mem.head _) ?_
      refine w_getR (ci := 10) (k := 11) (b := 80) dX10_throwsBy_140 fl_10_23 (by decide) (gT hG4 rfl (lt_of rfl)) (gR hG4 (b := 80) rfl) ?_
      refine w_iconst (v := nZ 1) dX10_throwsBy_143 (by decide) ?_
      refine i_iald (n := 8) dX10_throwsBy_144 (gT hG4 rfl (lt_of rfl)) (gL hG4 rfl) (by decide) (by decide) ?_
      refine w_iconst (v := nZ 1) dX10_throwsBy_145 (by decide) ?_
      obtain ⟨q9, h⟩ := h
      refine i_sub dX10_throwsBy_146 ?_
      obtain ⟨r14, σ10, hc12, hG11, rr13, h⟩ := h
      refine w_callS dX10_throwsBy_147 ml_10_140 ⟨ok_X10_in, st_X10_in⟩ hs_X10_in (As := [.int (nZ x6), .int (nZ 0), .int (nZ ((rI σ3 80 1) - 1))]) rfl rfl (Nat.le_of_ble_eq_true rfl) hc12 ?_
      show wp C 10 cX10_throwsBy 10 none false [] sc P 150 [(0, .ref 76), (1, .int (nZ x1)), (2, .int (nZ x2)), (3, .int (nZ x3)), (4, .int (nZ x4)), (5, .int (nZ x5)), (6, .int (nZ x6)), (7, .int (nZ x7)), (8, .int (nZ x8))] [.int (nZ r14)] σ10
      refine i_if_eq (tgt := 261) dX10_throwsBy_150 rfl rr13 (fun c9 => ?_) (fun c9 => ?_)
      · replace h := h.1 c9
        obtain ⟨q15, h⟩ := h
        refine w_iinc (v := nZ (x4 + 1)) (l' := [(4, .int (nZ (x4 + 1))), (0, .ref 76), (1, .int (nZ x1)), (2, .int (nZ x2)), (3, .int (nZ x3)), (5, .int (nZ x5)), (6, .int (nZ x6)), (7, .int (nZ x7)), (8, .int (nZ x8))]) dX10_throwsBy_261 (List.Mem.tail _ (List.Mem.tail _ (List.Mem.tail _ (List.Mem.tail _ (List.Mem.head _))))) (nZ_add _ _) (by decide) rfl ?_
        refine w_goto (tgt := 55) dX10_throwsBy_264 rfl ?_
        exact w_weak (l' := [(0, .ref 76), (1, .int (nZ x1)), (2, .int (nZ x2)), (3, .int (nZ x3)), (4, .int (nZ (x4 + 1)))]) (by intro q hq; simp only [List.mem_cons, List.not_mem_nil, or_false] at hq ⊢; rcases hq with rfl | rfl | rfl | rfl | rfl <;> simp) h
      · replace h := h.2 c9
        refine w_aload_n dX10_throwsBy_153 rfl (List.Mem.head _) ?_
        refine w_iload dX10_throwsBy_154 (List.Mem.tail _ (List.Mem.tail _ (List.Mem.tail _ (List.Mem.tail _ (List.Mem.tail _ (List.Mem.head _)))))) ?_
        refine w_iload dX10_throwsBy_156 (List.Mem.tail _ (List.Mem.tail _ (List.Mem.tail _ (List.Mem.tail _ (List.Mem.tail _ (List.Mem.tail _ (List.Mem.head _))))))) ?_
        obtain ⟨r20, σ16, hc18, hG17, rr19, h⟩ := h
        refine w_callV dX10_throwsBy_158 ml_10_245 ⟨ok_X10_stallOn, vi_X10_stallOn⟩ hs_X10_stallOn (As := [.int (nZ x5), .int (nZ x6)]) rfl rfl (gT hG11 rfl (lt_of rfl)) (Nat.le_of_ble_eq_true rfl) hc18 ?_
        show wp C 10 cX10_throwsBy 10 none false [] sc P 161 [(0, .ref 76), (1, .int (nZ x1)), (2, .int (nZ x2)), (3, .int (nZ x3)), (4, .int (nZ x4)), (5, .int (nZ x5)), (6, .int (nZ x6)), (7, .int (nZ x7)), (8, .int (nZ x8))] [.int (nZ r20)] σ16
        refine w_istore (l' := [(9, .int (nZ r20)), (0, .ref 76), (1, .int (nZ x1)), (2, .int (nZ x2)), (3, .int (nZ x3)), (4, .int (nZ x4)), (5, .int (nZ x5)), (6, .int (nZ x6)), (7, .int (nZ x7)), (8, .int (nZ x8))]) dX10_throwsBy_161 (by decide) rfl ?_
        refine w_iload dX10_throwsBy_163 (List.Mem.tail _ (List.Mem.tail _ (List.Mem.tail _ (List.Mem.tail _ (List.Mem.tail _ (List.Mem.tail _ (List.Mem.head _))))))) ?_
        refine w_iload_n dX10_throwsBy_165 rfl (List.Mem.tail _ (List.Mem.tail _ (List.Mem.tail _ (List.Mem.head _)))) ?_
        obtain ⟨q21, h⟩ := h
        refine i_add dX10_throwsBy_166 ?_
        refine top_i (fun z22 ez23 => ?_)
        have rz24 : inR z22 := ez23 ▸ q21
        replace h := h z22 ez23
        refine w_istore (l' := [(5, .int (nZ z22)), (9, .int (nZ r20)), (0, .ref 76), (1, .int (nZ x1)), (2, .int (nZ x2)), (3, .int (nZ x3)), (4, .int (nZ x4)), (6, .int (nZ x6)), (7, .int (nZ x7)), (8, .int (nZ x8))]) dX10_throwsBy_167 (by decide) rfl ?_
        refine w_iload dX10_throwsBy_169 (List.Mem.tail _ (List.Mem.tail _ (List.Mem.tail _ (List.Mem.tail _ (List.Mem.tail _ (List.Mem.tail _ (List.Mem.tail _ (List.Mem.head _)))))))) ?_
        refine w_iload_n dX10_throwsBy_171 rfl (List.Mem.tail _ (List.Mem.tail _ (List.Mem.tail _ (List.Mem.tail _ (List.Mem.tail _ (List.Mem.head _)))))) ?_
        obtain ⟨q25, h⟩ := h
        refine i_add dX10_throwsBy_172 ?_
        refine top_i (fun z26 ez27 => ?_)
        have rz28 : inR z26 := ez27 ▸ q25
        replace h := h z26 ez27
        refine w_istore (l' := [(6, .int (nZ z26)), (5, .int (nZ z22)), (9, .int (nZ r20)), (0, .ref 76), (1, .int (nZ x1)), (2, .int (nZ x2)), (3, .int (nZ x3)), (4, .int (nZ x4)), (7, .int (nZ x7)), (8, .int (nZ x8))]) dX10_throwsBy_173 (by decide) rfl ?_
        refine w_iload dX10_throwsBy_175 (List.Mem.tail _ (List.Mem.tail _ (List.Mem.head _))) ?_
        refine w_iconst (v := nZ (-1)) dX10_throwsBy_177 (by decide) ?_
        refine i_cmp_ne (tgt := 184) dX10_throwsBy_178 rfl rr19 (by decide) (fun c9 => ?_) (fun c9 => ?_)
        · replace h := h.1 c9
          refine w_iload dX10_throwsBy_184 (List.Mem.tail _ (List.Mem.tail _ (List.Mem.tail _ (List.Mem.tail _ (List.Mem.tail _ (List.Mem.tail _ (List.Mem.tail _ (List.Mem.tail _ (List.Mem.head _))))))))) ?_
          refine w_aload_n dX10_throwsBy_186 rfl (List.Mem.tail _ (List.Mem.tail _ (List.Mem.tail _ (List.Mem.head _)))) ?_
          refine w_getR (ci := 10) (k := 13) (b := 90) dX10_throwsBy_187 fl_10_31 (by decide) (gT hG17 rfl (lt_of rfl)) (gR hG17 (b := 90) rfl) ?_
          refine w_iload dX10_throwsBy_190 (List.Mem.tail _ (List.Mem.tail _ (List.Mem.tail _ (List.Mem.tail _ (List.Mem.tail _ (List.Mem.tail _ (List.Mem.tail _ (List.Mem.head _)))))))) ?_
          obtain ⟨h9, h⟩ := h
          have hj29 := vin_lt2 (n := 9) h9 rfl
          refine i_aald (n := 9) (b := (91 + x4.toNat)) dX10_throwsBy_192 (gT hG17 rfl (lt_of rfl)) (gL hG17 rfl) rx4 h9 (gR hG17 (rr_90 hj29)) ?_
          refine w_iconst (v := nZ 2) dX10_throwsBy_193 (by decide) ?_
          refine i_iald (n := 7) dX10_throwsBy_194 (gT hG17 (ro_90 _ hj29).1 (by have := hj29; omega)) (gL hG17 (ro_90 _ hj29).2) (by decide) (by decide) ?_
          refine i_cmp_gt (tgt := 225) dX10_throwsBy_195 rfl rx7 (rI_R _ _ _) (fun c9 => ?_) (fun c9 => ?_)
          · replace h := h.1 c9
            exact w_weak (l' := [(0, .ref 76), (1, .int (nZ x1)), (2, .int (nZ x2)), (3, .int (nZ x3)), (4, .int (nZ x4)), (5, .int (nZ z22)), (6, .int (nZ z26)), (7, .int (nZ x7)), (8, .int (nZ x8)), (9, .int (nZ r20))]) (by intro q hq; simp only [List.mem_cons, List.not_mem_nil, or_false] at hq ⊢; rcases hq with rfl | rfl | rfl | rfl | rfl | rfl | rfl | rfl | rfl | rfl <;> simp) h
          · replace h := h.2 c9
            refine w_aload_n dX10_throwsBy_198 rfl (List.Mem.tail _ (List.Mem.tail _ (List.Mem.tail _ (List.Mem.head _)))) ?_
            refine w_iload dX10_throwsBy_199 (List.Mem.tail _ (List.Mem.tail _ (List.Mem.head _))) ?_
            refine w_iload dX10_throwsBy_201 (List.Mem.tail _ (List.Mem.tail _ (List.Mem.tail _ (List.Mem.tail _ (List.Mem.tail _ (List.Mem.tail _ (List.Mem.tail _ (List.Mem.head _)))))))) ?_
            obtain ⟨r34, σ30, hc32, hG31, rr33, h⟩ := h
            refine w_callV dX10_throwsBy_203 ml_10_248 ⟨ok_X10_isCovered, vi_X10_isCovered⟩ hs_X10_isCovered (As := [.int (nZ r20), .int (nZ x4)]) rfl rfl (gT hG17 rfl (lt_of rfl)) (Nat.le_of_ble_eq_true rfl) hc32 ?_
            show wp C 10 cX10_throwsBy 10 none false [] sc P 206 [(6, .int (nZ z26)), (5, .int (nZ z22)), (9, .int (nZ r20)), (0, .ref 76), (1, .int (nZ x1)), (2, .int (nZ x2)), (3, .int (nZ x3)), (4, .int (nZ x4)), (7, .int (nZ x7)), (8, .int (nZ x8))] [.int (nZ r34)] σ30
            refine i_if_ne (tgt := 225) dX10_throwsBy_206 rfl rr33 (fun c9 => ?_) (fun c9 => ?_)
            · replace h := h.1 c9
              exact w_weak (l' := [(0, .ref 76), (1, .int (nZ x1)), (2, .int (nZ x2)), (3, .int (nZ x3)), (4, .int (nZ x4)), (5, .int (nZ z22)), (6, .int (nZ z26)), (7, .int (nZ x7)), (8, .int (nZ x8)), (9, .int (nZ r20))]) (by intro q hq; simp only [List.mem_cons, List.not_mem_nil, or_false] at hq ⊢; rcases hq with rfl | rfl | rfl | rfl | rfl | rfl | rfl | rfl | rfl | rfl <;> simp) h
            · replace h := h.2 c9
              refine w_aload_n dX10_throwsBy_209 rfl (List.Mem.tail _ (List.Mem.tail _ (List.Mem.tail _ (List.Mem.head _)))) ?_
              refine w_getR (ci := 10) (k := 29) (b := 260) dX10_throwsBy_210 fl_10_55 (by decide) (gT hG31 rfl (lt_of rfl)) (gR hG31 (b := 260) rfl) ?_
              refine w_iload_n dX10_throwsBy_213 rfl (List.Mem.tail _ (List.Mem.tail _ (List.Mem.tail _ (List.Mem.tail _ (List.Mem.head _))))) ?_
              obtain ⟨h9, h⟩ := h
              have hj35 := vin_lt2 (n := 20) h9 rfl
              refine i_aald (n := 20) (b := (261 + x1.toNat)) dX10_throwsBy_214 (gT hG31 rfl (lt_of rfl)) (gL hG31 rfl) rx1 h9 (gR hG31 (rr_260 hj35)) ?_
              refine w_iload dX10_throwsBy_215 (List.Mem.tail _ (List.Mem.tail _ (List.Mem.head _))) ?_
              refine w_dup2 dX10_throwsBy_217 rfl rfl ?_
              obtain ⟨h9, h⟩ := h
              refine i_iald (n := 9) dX10_throwsBy_218 (gT hG31 (ro_260 _ hj35).1 (by have := hj35; omega)) (gL hG31 (ro_260 _ hj35).2) rr19 h9 ?_
              refine w_iconst (v := nZ 1) dX10_throwsBy_219 (by decide) ?_
              refine w_iload dX10_throwsBy_220 (List.Mem.tail _ (List.Mem.tail _ (List.Mem.tail _ (List.Mem.tail _ (List.Mem.tail _ (List.Mem.tail _ (List.Mem.tail _ (List.Mem.head _)))))))) ?_
              refine i_shl dX10_throwsBy_222 ?_
              refine i_or dX10_throwsBy_223 ?_
              obtain ⟨h9, h⟩ := h
              refine i_iast (n := 9) dX10_throwsBy_224 (gT hG31 (ro_260 _ hj35).1 (by have := hj35; omega)) (gL hG31 (ro_260 _ hj35).2) rr19 h9 (fun σ36 eσ37 => ?_)
              replace h := h σ36 eσ37
              have hG38 : G σ36 u := eσ37 ▸ G.wI hG31
              exact w_weak (l' := [(0, .ref 76), (1, .int (nZ x1)), (2, .int (nZ x2)), (3, .int (nZ x3)), (4, .int (nZ x4)), (5, .int (nZ z22)), (6, .int (nZ z26)), (7, .int (nZ x7)), (8, .int (nZ x8)), (9, .int (nZ r20))]) (by intro q hq; simp only [List.mem_cons, List.not_mem_nil, or_false] at hq ⊢; rcases hq with rfl | rfl | rfl | rfl | rfl | rfl | rfl | rfl | rfl | rfl <;> simp) h
        · replace h := h.2 c9
          refine w_goto (tgt := 255) dX10_throwsBy_181 rfl ?_
          obtain ⟨q39, h⟩ := h
          refine w_iinc (v := nZ (x8 + (-1))) (l' := [(8, .int (nZ (x8 + (-1)))), (6, .int (nZ z26)), (5, .int (nZ z22)), (9, .int (nZ r20)), (0, .ref 76), (1, .int (nZ x1)), (2, .int (nZ x2)), (3, .int (nZ x3)), (4, .int (nZ x4)), (7, .int (nZ x7))]) dX10_throwsBy_255 (List.Mem.tail _ (List.Mem.tail _ (List.Mem.tail _ (List.Mem.tail _ (List.Mem.tail _ (List.Mem.tail _ (List.Mem.tail _ (List.Mem.tail _ (List.Mem.tail _ (List.Mem.head _)))))))))) (nZ_add _ _) (by decide) rfl ?_
          refine w_goto (tgt := 114) dX10_throwsBy_258 rfl ?_
          exact w_weak (l' := [(0, .ref 76), (1, .int (nZ x1)), (2, .int (nZ x2)), (3, .int (nZ x3)), (4, .int (nZ x4)), (5, .int (nZ z22)), (6, .int (nZ z26)), (7, .int (nZ x7)), (8, .int (nZ (x8 + (-1))))]) (by intro q hq; simp only [List.mem_cons, List.not_mem_nil, or_false] at hq ⊢; rcases hq with rfl | rfl | rfl | rfl | rfl | rfl | rfl | rfl | rfl <;> simp) h
set_option maxRecDepth 10000 in
theorem v_X10_throwsBy_225 {C : aM → List Value → aH → aO → aH → Prop} {sc : Nat × (Nat → Int32)} {P : aO → aH → Prop} {σ : aH} {u : Nat}  {x1 : Int} {x2 : Int} {x3 : Int} {x4 : Int} {x5 : Int} {x6 : Int} {x7 : Int} {x8 : Int} {x9 : Int} (hG : G σ u) (rx1 : inR x1) (rx2 : inR x2) (rx3 : inR x3) (rx4 : inR x4) (rx5 : inR x5) (rx6 : inR x6) (rx7 : inR x7) (rx8 : inR x8) (rx9 : inR x9)
    (h : ((0 ≤ x9 ∧ x9 < 9) ∧ (((rI σ (91 + x9.toNat) 2) ≤ x7 → (inR (x8 + (-1)) ∧ L_X10_throwsBy_114 C sc P x1 x2 x3 x4 x5 x6 x7 (x8 + (-1)) σ)) ∧ (¬ ((rI σ (91 + x9.toNat) 2) ≤ x7) → ((0 ≤ x9 ∧ x9 < 9) ∧ (∀ z4 : Int, z4 = (rI σ (91 + x9.toNat) 2) → (inR (x8 + (-1)) ∧ L_X10_throwsBy_114 C sc P x1 x2 x3 x4 x5 x6 z4 (x8 + (-1)) σ))))))) :
    L_X10_throwsBy_225 C sc P x1 x2 x3 x4 x5 x6 x7 x8 x9 σ := by
  unfold L_X10_throwsBy_225
  refine w_aload_n dX10_throwsBy_225 rfl (List.Mem.head _) ?_
  refine w_getR (ci := 10) (k := 13) (b := 90) dX10_throwsBy_226 fl_10_31 (by decide) (gT hG rfl (lt_of rfl)) (gR hG (b := 90) rfl) ?_
  refine w_iload dX10_throwsBy_229 (List.Mem.tail _ (List.Mem.tail _ (List.Mem.tail _ (List.Mem.tail _ (List.Mem.tail _ (List.Mem.tail _ (List.Mem.tail _ (List.Mem.tail _ (List.Mem.tail _ (List.Mem.head _)))))))))) ?_
  obtain ⟨h9, h⟩ := h
  have hj1 := vin_lt2 (n := 9) h9 rfl
  refine i_aald (n := 9) (b := (91 + x9.toNat)) dX10_throwsBy_231 (gT hG rfl (lt_of rfl)) (gL hG rfl) rx9 h9 (gR hG (rr_90 hj1)) ?_
  refine w_iconst (v := nZ 2) dX10_throwsBy_232 (by decide) ?_
  refine i_iald (n := 7) dX10_throwsBy_233 (gT hG (ro_90 _ hj1).1 (by have := hj1; omega)) (gL hG (ro_90 _ hj1).2) (by decide) (by decide) ?_
  refine w_iload dX10_throwsBy_234 (List.Mem.tail _ (List.Mem.tail _ (List.Mem.tail _ (List.Mem.tail _ (List.Mem.tail _ (List.Mem.tail _ (List.Mem.tail _ (List.Mem.head _)))))))) ?_
  refine i_cmp_le (tgt := 251) dX10_throwsBy_236 rfl (rI_R _ _ _) rx7 (fun c9 => ?_) (fun c9 => ?_)
  · replace h := h.1 c9
    refine w_iload dX10_throwsBy_251 (List.Mem.tail _ (List.Mem.tail _ (List.Mem.tail _ (List.Mem.tail _ (List.Mem.tail _ (List.Mem.tail _ (List.Mem.tail _ (List.Mem.head _)))))))) ?_
    refine w_istore (l' := [(7, .int (nZ x7)), (0, .ref 76), (1, .int (nZ x1)), (2, .int (nZ x2)), (3, .int (nZ x3)), (4, .int (nZ x4)), (5, .int (nZ x5)), (6, .int (nZ x6)), (8, .int (nZ x8)), (9, .int (nZ x9))]) dX10_throwsBy_253 (by decide) rfl ?_
    obtain ⟨q2, h⟩ := h
    refine w_iinc (v := nZ (x8 + (-1))) (l' := [(8, .int (nZ (x8 + (-1)))), (7, .int (nZ x7)), (0, .ref 76), (1, .int (nZ x1)), (2, .int (nZ x2)), (3, .int (nZ x3)), (4, .int (nZ x4)), (5, .int (nZ x5)), (6, .int (nZ x6)), (9, .int (nZ x9))]) dX10_throwsBy_255 (List.Mem.tail _ (List.Mem.tail _ (List.Mem.tail _ (List.Mem.tail _ (List.Mem.tail _ (List.Mem.tail _ (List.Mem.tail _ (List.Mem.tail _ (List.Mem.head _))))))))) (nZ_add _ _) (by decide) rfl ?_
    refine w_goto (tgt := 114) dX10_throwsBy_258 rfl ?_
    exact w_weak (l' := [(0, .ref 76), (1, .int (nZ x1)), (2, .int (nZ x2)), (3, .int (nZ x3)), (4, .int (nZ x4)), (5, .int (nZ x5)), (6, .int (nZ x6)), (7, .int (nZ x7)), (8, .int (nZ (x8 + (-1))))]) (by intro q hq; simp only [List.mem_cons, List.not_mem_nil, or_false] at hq ⊢; rcases hq with rfl | rfl | rfl | rfl | rfl | rfl | rfl | rfl | rfl <;> simp) h
  · replace h := h.2 c9
    refine w_aload_n dX10_throwsBy_239 rfl (List.Mem.head _) ?_
    refine w_getR (ci := 10) (k := 13) (b := 90) dX10_throwsBy_240 fl_10_31 (by decide) (gT hG rfl (lt_of rfl)) (gR hG (b := 90) rfl) ?_
    refine w_iload dX10_throwsBy_243 (List.Mem.tail _ (List.Mem.tail _ (List.Mem.tail _ (List.Mem.tail _ (List.Mem.tail _ (List.Mem.tail _ (List.Mem.tail _ (List.Mem.tail _ (List.Mem.tail _ (List.Mem.head _)))))))))) ?_
    obtain ⟨h9, h⟩ := h
    have hj3 := vin_lt2 (n := 9) h9 rfl
    refine i_aald (n := 9) (b := (91 + x9.toNat)) dX10_throwsBy_245 (gT hG rfl (lt_of rfl)) (gL hG rfl) rx9 h9 (gR hG (rr_90 hj3)) ?_
    refine w_iconst (v := nZ 2) dX10_throwsBy_246 (by decide) ?_
    refine i_iald (n := 7) dX10_throwsBy_247 (gT hG (ro_90 _ hj3).1 (by have := hj3; omega)) (gL hG (ro_90 _ hj3).2) (by decide) (by decide) ?_
    refine w_goto (tgt := 253) dX10_throwsBy_248 rfl ?_
    refine top_i (fun z4 ez5 => ?_)
    have rz6 : inR z4 := ez5 ▸ (rI_R _ _ _)
    replace h := h z4 ez5
    refine w_istore (l' := [(7, .int (nZ z4)), (0, .ref 76), (1, .int (nZ x1)), (2, .int (nZ x2)), (3, .int (nZ x3)), (4, .int (nZ x4)), (5, .int (nZ x5)), (6, .int (nZ x6)), (8, .int (nZ x8)), (9, .int (nZ x9))]) dX10_throwsBy_253 (by decide) rfl ?_
    obtain ⟨q7, h⟩ := h
    refine w_iinc (v := nZ (x8 + (-1))) (l' := [(8, .int (nZ (x8 + (-1)))), (7, .int (nZ z4)), (0, .ref 76), (1, .int (nZ x1)), (2, .int (nZ x2)), (3, .int (nZ x3)), (4, .int (nZ x4)), (5, .int (nZ x5)), (6, .int (nZ x6)), (9, .int (nZ x9))]) dX10_throwsBy_255 (List.Mem.tail _ (List.Mem.tail _ (List.Mem.tail _ (List.Mem.tail _ (List.Mem.tail _ (List.Mem.tail _ (List.Mem.tail _ (List.Mem.tail _ (List.Mem.head _))))))))) (nZ_add _ _) (by decide) rfl ?_
    refine w_goto (tgt := 114) dX10_throwsBy_258 rfl ?_
    exact w_weak (l' := [(0, .ref 76), (1, .int (nZ x1)), (2, .int (nZ x2)), (3, .int (nZ x3)), (4, .int (nZ x4)), (5, .int (nZ x5)), (6, .int (nZ x6)), (7, .int (nZ z4)), (8, .int (nZ (x8 + (-1))))]) (by intro q hq; simp only [List.mem_cons, List.not_mem_nil, or_false] at hq ⊢; rcases hq with rfl | rfl | rfl | rfl | rfl | rfl | rfl | rfl | rfl <;> simp) h
theorem dX10_ones_0 : decode cX10_ones 0 = .ok (.iconst 0, 1) := by decide +kernel
theorem dX10_ones_1 : decode cX10_ones 1 = .ok (.istore_n 1, 1) := by decide +kernel
theorem dX10_ones_2 : decode cX10_ones 2 = .ok (.iconst 0, 1) := by decide +kernel
theorem dX10_ones_3 : decode cX10_ones 3 = .ok (.istore_n 2, 1) := by decide +kernel
theorem dX10_ones_4 : decode cX10_ones 4 = .ok (.iload_n 2, 1) := by decide +kernel
theorem dX10_ones_5 : decode cX10_ones 5 = .ok (.bipush 24, 2) := by decide +kernel
theorem dX10_ones_7 : decode cX10_ones 7 = .ok (.if_icmp .ge 17, 3) := by decide +kernel
theorem dX10_ones_10 : decode cX10_ones 10 = .ok (.iload_n 1, 1) := by decide +kernel
theorem dX10_ones_11 : decode cX10_ones 11 = .ok (.iload_n 0, 1) := by decide +kernel
theorem dX10_ones_12 : decode cX10_ones 12 = .ok (.iload_n 2, 1) := by decide +kernel
theorem dX10_ones_13 : decode cX10_ones 13 = .ok (.ishr, 1) := by decide +kernel
theorem dX10_ones_14 : decode cX10_ones 14 = .ok (.iconst 1, 1) := by decide +kernel
theorem dX10_ones_15 : decode cX10_ones 15 = .ok (.iand, 1) := by decide +kernel
theorem dX10_ones_16 : decode cX10_ones 16 = .ok (.iadd, 1) := by decide +kernel
theorem dX10_ones_17 : decode cX10_ones 17 = .ok (.istore_n 1, 1) := by decide +kernel
theorem dX10_ones_18 : decode cX10_ones 18 = .ok (.iinc 2 1, 3) := by decide +kernel
theorem dX10_ones_21 : decode cX10_ones 21 = .ok (.goto (-17), 3) := by decide +kernel
theorem dX10_ones_24 : decode cX10_ones 24 = .ok (.iload_n 1, 1) := by decide +kernel
theorem dX10_ones_25 : decode cX10_ones 25 = .ok (.ireturn, 1) := by decide +kernel
def L_X10_ones_4 (C : aM → List Value → aH → aO → aH → Prop) (sc : Nat × (Nat → Int32)) (P : aO → aH → Prop) (x0 : Int) (x1 : Int) (x2 : Int) (σ : aH) : Prop :=
    wp C 10 cX10_ones 3 (some .int) false [] sc P 4 [(0, .int (nZ x0)), (1, .int (nZ x1)), (2, .int (nZ x2))] [] σ
set_option maxRecDepth 10000 in
theorem t_X10_ones {sc : Nat × (Nat → Int32)} {d : Nat} {Q : aO → aH → Prop} {σ : aH} {u : Nat}  {x0 : Int} (hG : G σ u) (rx0 : inR x0)
    (h : L_X10_ones_4 (Ev sc d) sc Q x0 0 0 σ) :
    T sc (d + 1) mX10_ones [.int (nZ x0)] σ Q := by
  refine T.of (c := 10) (code := cX10_ones) (mL := 3) (rt := (some .int)) (ini := false) (l := [(0, .int (nZ x0))]) rfl rfl rfl rfl (by decide) hs_X10_ones rfl rfl ?_
  refine w_iconst (v := nZ 0) dX10_ones_0 (by decide) ?_
  refine w_istore_n (l' := [(1, .int (nZ 0)), (0, .int (nZ x0))]) dX10_ones_1 rfl (by decide) rfl ?_
  refine w_iconst (v := nZ 0) dX10_ones_2 (by decide) ?_
  refine w_istore_n (l' := [(2, .int (nZ 0)), (1, .int (nZ 0)), (0, .int (nZ x0))]) dX10_ones_3 rfl (by decide) rfl ?_
  exact w_weak (l' := [(0, .int (nZ x0)), (1, .int (nZ 0)), (2, .int (nZ 0))]) (by intro q hq; simp only [List.mem_cons, List.not_mem_nil, or_false] at hq ⊢; rcases hq with rfl | rfl | rfl <;> simp) h
set_option maxRecDepth 10000 in
theorem v_X10_ones_4 {C : aM → List Value → aH → aO → aH → Prop} {sc : Nat × (Nat → Int32)} {P : aO → aH → Prop} {σ : aH} {u : Nat}  {x0 : Int} {x1 : Int} {x2 : Int} (hG : G σ u) (rx0 : inR x0) (rx1 : inR x1) (rx2 : inR x2)
    (h : ((24 ≤ x2 → P (.inl (some (.int (nZ x1)))) σ) ∧ (¬ (24 ≤ x2) → (inR (x1 + (zAnd (zShr x0 x2) 1)) ∧ (∀ z2 : Int, z2 = (x1 + (zAnd (zShr x0 x2) 1)) → (inR (x2 + 1) ∧ L_X10_ones_4 C sc P x0 z2 (x2 + 1) σ)))))) :
    L_X10_ones_4 C sc P x0 x1 x2 σ := by
  unfold L_X10_ones_4
  refine w_iload_n dX10_ones_4 rfl (List.Mem.tail _ (List.Mem.tail _ (List.Mem.head _))) ?_
  refine w_bipush (v := nZ 24) dX10_ones_5 (by decide) ?_
  refine i_cmp_ge (tgt := 24) dX10_ones_7 rfl rx2 (by decide) (fun c9 => ?_) (fun c9 => ?_)
  · replace h := h.1 c9
    refine w_iload_n dX10_ones_24 rfl (List.Mem.tail _ (List.Mem.head _)) ?_
    exact w_iret dX10_ones_25 rfl h
  · replace h := h.2 c9
    refine w_iload_n dX10_ones_10 rfl (List.Mem.tail _ (List.Mem.head _)) ?_
    refine w_iload_n dX10_ones_11 rfl (List.Mem.head _) ?_
    refine w_iload_n dX10_ones_12 rfl (List.Mem.tail _ (List.Mem.tail _ (List.Mem.head _))) ?_
    refine i_shr dX10_ones_13 ?_
    refine w_iconst (v := nZ 1) dX10_ones_14 (by decide) ?_
    refine i_and dX10_ones_15 ?_
    obtain ⟨q1, h⟩ := h
    refine i_add dX10_ones_16 ?_
    refine top_i (fun z2 ez3 => ?_)
    have rz4 : inR z2 := ez3 ▸ q1
    replace h := h z2 ez3
    refine w_istore_n (l' := [(1, .int (nZ z2)), (0, .int (nZ x0)), (2, .int (nZ x2))]) dX10_ones_17 rfl (by decide) rfl ?_
    obtain ⟨q5, h⟩ := h
    refine w_iinc (v := nZ (x2 + 1)) (l' := [(2, .int (nZ (x2 + 1))), (1, .int (nZ z2)), (0, .int (nZ x0))]) dX10_ones_18 (List.Mem.tail _ (List.Mem.tail _ (List.Mem.head _))) (nZ_add _ _) (by decide) rfl ?_
    refine w_goto (tgt := 4) dX10_ones_21 rfl ?_
    exact w_weak (l' := [(0, .int (nZ x0)), (1, .int (nZ z2)), (2, .int (nZ (x2 + 1)))]) (by intro q hq; simp only [List.mem_cons, List.not_mem_nil, or_false] at hq ⊢; rcases hq with rfl | rfl | rfl <;> simp) h
theorem dX10_goes_0 : decode cX10_goes 0 = .ok (.iload_n 1, 1) := by decide +kernel
theorem dX10_goes_1 : decode cX10_goes 1 = .ok (.iload_n 2, 1) := by decide +kernel
theorem dX10_goes_2 : decode cX10_goes 2 = .ok (.if_icmp .ge 7, 3) := by decide +kernel
theorem dX10_goes_5 : decode cX10_goes 5 = .ok (.iload_n 1, 1) := by decide +kernel
theorem dX10_goes_6 : decode cX10_goes 6 = .ok (.goto 4, 3) := by decide +kernel
theorem dX10_goes_9 : decode cX10_goes 9 = .ok (.iload_n 2, 1) := by decide +kernel
theorem dX10_goes_10 : decode cX10_goes 10 = .ok (.istore 4, 2) := by decide +kernel
theorem dX10_goes_12 : decode cX10_goes 12 = .ok (.aload_n 0, 1) := by decide +kernel
theorem dX10_goes_13 : decode cX10_goes 13 = .ok (.iconst 0, 1) := by decide +kernel
theorem dX10_goes_14 : decode cX10_goes 14 = .ok (.putfield 252, 3) := by decide +kernel
theorem dX10_goes_17 : decode cX10_goes 17 = .ok (.aload_n 0, 1) := by decide +kernel
theorem dX10_goes_18 : decode cX10_goes 18 = .ok (.iconst 0, 1) := by decide +kernel
theorem dX10_goes_19 : decode cX10_goes 19 = .ok (.putfield 255, 3) := by decide +kernel
theorem dX10_goes_22 : decode cX10_goes 22 = .ok (.iconst 0, 1) := by decide +kernel
theorem dX10_goes_23 : decode cX10_goes 23 = .ok (.istore 5, 2) := by decide +kernel
theorem dX10_goes_25 : decode cX10_goes 25 = .ok (.iload 5, 2) := by decide +kernel
theorem dX10_goes_27 : decode cX10_goes 27 = .ok (.aload_n 0, 1) := by decide +kernel
theorem dX10_goes_28 : decode cX10_goes 28 = .ok (.getfield 218, 3) := by decide +kernel
theorem dX10_goes_31 : decode cX10_goes 31 = .ok (.if_icmp .ge 68, 3) := by decide +kernel
theorem dX10_goes_34 : decode cX10_goes 34 = .ok (.aload_n 0, 1) := by decide +kernel
theorem dX10_goes_35 : decode cX10_goes 35 = .ok (.getfield 67, 3) := by decide +kernel
theorem dX10_goes_38 : decode cX10_goes 38 = .ok (.iload 5, 2) := by decide +kernel
theorem dX10_goes_40 : decode cX10_goes 40 = .ok (.iconst 0, 1) := by decide +kernel
theorem dX10_goes_41 : decode cX10_goes 41 = .ok (.iastore, 1) := by decide +kernel
theorem dX10_goes_42 : decode cX10_goes 42 = .ok (.iconst 0, 1) := by decide +kernel
theorem dX10_goes_43 : decode cX10_goes 43 = .ok (.istore 6, 2) := by decide +kernel
theorem dX10_goes_45 : decode cX10_goes 45 = .ok (.iload 6, 2) := by decide +kernel
theorem dX10_goes_47 : decode cX10_goes 47 = .ok (.aload_n 0, 1) := by decide +kernel
theorem dX10_goes_48 : decode cX10_goes 48 = .ok (.getfield 218, 3) := by decide +kernel
theorem dX10_goes_51 : decode cX10_goes 51 = .ok (.if_icmp .ge 42, 3) := by decide +kernel
theorem dX10_goes_54 : decode cX10_goes 54 = .ok (.aload_n 0, 1) := by decide +kernel
theorem dX10_goes_55 : decode cX10_goes 55 = .ok (.getfield 58, 3) := by decide +kernel
theorem dX10_goes_58 : decode cX10_goes 58 = .ok (.iload 5, 2) := by decide +kernel
theorem dX10_goes_60 : decode cX10_goes 60 = .ok (.aaload, 1) := by decide +kernel
theorem dX10_goes_61 : decode cX10_goes 61 = .ok (.iload 6, 2) := by decide +kernel
theorem dX10_goes_63 : decode cX10_goes 63 = .ok (.iconst 0, 1) := by decide +kernel
theorem dX10_goes_64 : decode cX10_goes 64 = .ok (.iastore, 1) := by decide +kernel
theorem dX10_goes_65 : decode cX10_goes 65 = .ok (.aload_n 0, 1) := by decide +kernel
theorem dX10_goes_66 : decode cX10_goes 66 = .ok (.getfield 61, 3) := by decide +kernel
theorem dX10_goes_69 : decode cX10_goes 69 = .ok (.iload 5, 2) := by decide +kernel
theorem dX10_goes_71 : decode cX10_goes 71 = .ok (.aaload, 1) := by decide +kernel
theorem dX10_goes_72 : decode cX10_goes 72 = .ok (.iload 6, 2) := by decide +kernel
theorem dX10_goes_74 : decode cX10_goes 74 = .ok (.iconst 0, 1) := by decide +kernel
theorem dX10_goes_75 : decode cX10_goes 75 = .ok (.iastore, 1) := by decide +kernel
theorem dX10_goes_76 : decode cX10_goes 76 = .ok (.aload_n 0, 1) := by decide +kernel
theorem dX10_goes_77 : decode cX10_goes 77 = .ok (.getfield 64, 3) := by decide +kernel
theorem dX10_goes_80 : decode cX10_goes 80 = .ok (.iload 5, 2) := by decide +kernel
theorem dX10_goes_82 : decode cX10_goes 82 = .ok (.aaload, 1) := by decide +kernel
theorem dX10_goes_83 : decode cX10_goes 83 = .ok (.iload 6, 2) := by decide +kernel
theorem dX10_goes_85 : decode cX10_goes 85 = .ok (.iconst 0, 1) := by decide +kernel
theorem dX10_goes_86 : decode cX10_goes 86 = .ok (.iastore, 1) := by decide +kernel
theorem dX10_goes_87 : decode cX10_goes 87 = .ok (.iinc 6 1, 3) := by decide +kernel
theorem dX10_goes_90 : decode cX10_goes 90 = .ok (.goto (-45), 3) := by decide +kernel
theorem dX10_goes_93 : decode cX10_goes 93 = .ok (.iinc 5 1, 3) := by decide +kernel
theorem dX10_goes_96 : decode cX10_goes 96 = .ok (.goto (-71), 3) := by decide +kernel
theorem dX10_goes_99 : decode cX10_goes 99 = .ok (.iconst 0, 1) := by decide +kernel
theorem dX10_goes_100 : decode cX10_goes 100 = .ok (.istore 5, 2) := by decide +kernel
theorem dX10_goes_102 : decode cX10_goes 102 = .ok (.iload 5, 2) := by decide +kernel
theorem dX10_goes_104 : decode cX10_goes 104 = .ok (.bipush 24, 2) := by decide +kernel
theorem dX10_goes_106 : decode cX10_goes 106 = .ok (.if_icmp .ge 17, 3) := by decide +kernel
theorem dX10_goes_109 : decode cX10_goes 109 = .ok (.aload_n 0, 1) := by decide +kernel
theorem dX10_goes_110 : decode cX10_goes 110 = .ok (.getfield 70, 3) := by decide +kernel
theorem dX10_goes_113 : decode cX10_goes 113 = .ok (.iload 5, 2) := by decide +kernel
theorem dX10_goes_115 : decode cX10_goes 115 = .ok (.iconst 0, 1) := by decide +kernel
theorem dX10_goes_116 : decode cX10_goes 116 = .ok (.iastore, 1) := by decide +kernel
theorem dX10_goes_117 : decode cX10_goes 117 = .ok (.iinc 5 1, 3) := by decide +kernel
theorem dX10_goes_120 : decode cX10_goes 120 = .ok (.goto (-18), 3) := by decide +kernel
theorem dX10_goes_123 : decode cX10_goes 123 = .ok (.iconst 0, 1) := by decide +kernel
theorem dX10_goes_124 : decode cX10_goes 124 = .ok (.istore 5, 2) := by decide +kernel
theorem dX10_goes_126 : decode cX10_goes 126 = .ok (.iload 5, 2) := by decide +kernel
theorem dX10_goes_128 : decode cX10_goes 128 = .ok (.aload_n 0, 1) := by decide +kernel
theorem dX10_goes_129 : decode cX10_goes 129 = .ok (.getfield 23, 3) := by decide +kernel
theorem dX10_goes_132 : decode cX10_goes 132 = .ok (.bipush 6, 2) := by decide +kernel
theorem dX10_goes_134 : decode cX10_goes 134 = .ok (.iaload, 1) := by decide +kernel
theorem dX10_goes_135 : decode cX10_goes 135 = .ok (.if_icmp .ge 23, 3) := by decide +kernel
theorem dX10_goes_138 : decode cX10_goes 138 = .ok (.aload_n 0, 1) := by decide +kernel
theorem dX10_goes_139 : decode cX10_goes 139 = .ok (.getfield 73, 3) := by decide +kernel
theorem dX10_goes_142 : decode cX10_goes 142 = .ok (.iload 5, 2) := by decide +kernel
theorem dX10_goes_144 : decode cX10_goes 144 = .ok (.iconst 0, 1) := by decide +kernel
theorem dX10_goes_145 : decode cX10_goes 145 = .ok (.iastore, 1) := by decide +kernel
theorem dX10_goes_146 : decode cX10_goes 146 = .ok (.aload_n 0, 1) := by decide +kernel
theorem dX10_goes_147 : decode cX10_goes 147 = .ok (.iload 5, 2) := by decide +kernel
theorem dX10_goes_149 : decode cX10_goes 149 = .ok (.invokevirtual 258, 3) := by decide +kernel
theorem dX10_goes_152 : decode cX10_goes 152 = .ok (.iinc 5 1, 3) := by decide +kernel
theorem dX10_goes_155 : decode cX10_goes 155 = .ok (.goto (-29), 3) := by decide +kernel
theorem dX10_goes_158 : decode cX10_goes 158 = .ok (.iconst 0, 1) := by decide +kernel
theorem dX10_goes_159 : decode cX10_goes 159 = .ok (.istore 5, 2) := by decide +kernel
theorem dX10_goes_161 : decode cX10_goes 161 = .ok (.iload 5, 2) := by decide +kernel
theorem dX10_goes_163 : decode cX10_goes 163 = .ok (.aload_n 0, 1) := by decide +kernel
theorem dX10_goes_164 : decode cX10_goes 164 = .ok (.getfield 224, 3) := by decide +kernel
theorem dX10_goes_167 : decode cX10_goes 167 = .ok (.if_icmp .ge 108, 3) := by decide +kernel
theorem dX10_goes_170 : decode cX10_goes 170 = .ok (.aload_n 0, 1) := by decide +kernel
theorem dX10_goes_171 : decode cX10_goes 171 = .ok (.getfield 52, 3) := by decide +kernel
theorem dX10_goes_174 : decode cX10_goes 174 = .ok (.iload 5, 2) := by decide +kernel
theorem dX10_goes_176 : decode cX10_goes 176 = .ok (.aaload, 1) := by decide +kernel
theorem dX10_goes_177 : decode cX10_goes 177 = .ok (.iconst 0, 1) := by decide +kernel
theorem dX10_goes_178 : decode cX10_goes 178 = .ok (.iaload, 1) := by decide +kernel
theorem dX10_goes_179 : decode cX10_goes 179 = .ok (.iload 4, 2) := by decide +kernel
theorem dX10_goes_181 : decode cX10_goes 181 = .ok (.if_icmp .ge 94, 3) := by decide +kernel
theorem dX10_goes_184 : decode cX10_goes 184 = .ok (.aload_n 0, 1) := by decide +kernel
theorem dX10_goes_185 : decode cX10_goes 185 = .ok (.getfield 52, 3) := by decide +kernel
theorem dX10_goes_188 : decode cX10_goes 188 = .ok (.iload 5, 2) := by decide +kernel
theorem dX10_goes_190 : decode cX10_goes 190 = .ok (.aaload, 1) := by decide +kernel
theorem dX10_goes_191 : decode cX10_goes 191 = .ok (.iconst 1, 1) := by decide +kernel
theorem dX10_goes_192 : decode cX10_goes 192 = .ok (.iaload, 1) := by decide +kernel
theorem dX10_goes_193 : decode cX10_goes 193 = .ok (.iload 4, 2) := by decide +kernel
theorem dX10_goes_195 : decode cX10_goes 195 = .ok (.if_icmp .ge 15, 3) := by decide +kernel
theorem dX10_goes_198 : decode cX10_goes 198 = .ok (.aload_n 0, 1) := by decide +kernel
theorem dX10_goes_199 : decode cX10_goes 199 = .ok (.getfield 52, 3) := by decide +kernel
theorem dX10_goes_202 : decode cX10_goes 202 = .ok (.iload 5, 2) := by decide +kernel
theorem dX10_goes_204 : decode cX10_goes 204 = .ok (.aaload, 1) := by decide +kernel
theorem dX10_goes_205 : decode cX10_goes 205 = .ok (.iconst 1, 1) := by decide +kernel
theorem dX10_goes_206 : decode cX10_goes 206 = .ok (.iaload, 1) := by decide +kernel
theorem dX10_goes_207 : decode cX10_goes 207 = .ok (.goto 5, 3) := by decide +kernel
theorem dX10_goes_210 : decode cX10_goes 210 = .ok (.iload 4, 2) := by decide +kernel
theorem dX10_goes_212 : decode cX10_goes 212 = .ok (.aload_n 0, 1) := by decide +kernel
theorem dX10_goes_213 : decode cX10_goes 213 = .ok (.getfield 52, 3) := by decide +kernel
theorem dX10_goes_216 : decode cX10_goes 216 = .ok (.iload 5, 2) := by decide +kernel
theorem dX10_goes_218 : decode cX10_goes 218 = .ok (.aaload, 1) := by decide +kernel
theorem dX10_goes_219 : decode cX10_goes 219 = .ok (.iconst 0, 1) := by decide +kernel
theorem dX10_goes_220 : decode cX10_goes 220 = .ok (.iaload, 1) := by decide +kernel
theorem dX10_goes_221 : decode cX10_goes 221 = .ok (.isub, 1) := by decide +kernel
theorem dX10_goes_222 : decode cX10_goes 222 = .ok (.istore 6, 2) := by decide +kernel
theorem dX10_goes_224 : decode cX10_goes 224 = .ok (.aload_n 0, 1) := by decide +kernel
theorem dX10_goes_225 : decode cX10_goes 225 = .ok (.getfield 52, 3) := by decide +kernel
theorem dX10_goes_228 : decode cX10_goes 228 = .ok (.iload 5, 2) := by decide +kernel
theorem dX10_goes_230 : decode cX10_goes 230 = .ok (.aaload, 1) := by decide +kernel
theorem dX10_goes_231 : decode cX10_goes 231 = .ok (.iconst 2, 1) := by decide +kernel
theorem dX10_goes_232 : decode cX10_goes 232 = .ok (.iaload, 1) := by decide +kernel
theorem dX10_goes_233 : decode cX10_goes 233 = .ok (.iconst (-1), 1) := by decide +kernel
theorem dX10_goes_234 : decode cX10_goes 234 = .ok (.if_icmp .eq 35, 3) := by decide +kernel
theorem dX10_goes_237 : decode cX10_goes 237 = .ok (.iload_n 3, 1) := by decide +kernel
theorem dX10_goes_238 : decode cX10_goes 238 = .ok (.aload_n 0, 1) := by decide +kernel
theorem dX10_goes_239 : decode cX10_goes 239 = .ok (.getfield 52, 3) := by decide +kernel
theorem dX10_goes_242 : decode cX10_goes 242 = .ok (.iload 5, 2) := by decide +kernel
theorem dX10_goes_244 : decode cX10_goes 244 = .ok (.aaload, 1) := by decide +kernel
theorem dX10_goes_245 : decode cX10_goes 245 = .ok (.iconst 0, 1) := by decide +kernel
theorem dX10_goes_246 : decode cX10_goes 246 = .ok (.iaload, 1) := by decide +kernel
theorem dX10_goes_247 : decode cX10_goes 247 = .ok (.bipush 60, 2) := by decide +kernel
theorem dX10_goes_249 : decode cX10_goes 249 = .ok (.idiv, 1) := by decide +kernel
theorem dX10_goes_250 : decode cX10_goes 250 = .ok (.ishr, 1) := by decide +kernel
theorem dX10_goes_251 : decode cX10_goes 251 = .ok (.iconst 1, 1) := by decide +kernel
theorem dX10_goes_252 : decode cX10_goes 252 = .ok (.iand, 1) := by decide +kernel
theorem dX10_goes_253 : decode cX10_goes 253 = .ok (.ifCond .ne 16, 3) := by decide +kernel
theorem dX10_goes_256 : decode cX10_goes 256 = .ok (.aload_n 0, 1) := by decide +kernel
theorem dX10_goes_257 : decode cX10_goes 257 = .ok (.aload_n 0, 1) := by decide +kernel
theorem dX10_goes_258 : decode cX10_goes 258 = .ok (.getfield 52, 3) := by decide +kernel
theorem dX10_goes_261 : decode cX10_goes 261 = .ok (.iload 5, 2) := by decide +kernel
theorem dX10_goes_263 : decode cX10_goes 263 = .ok (.aaload, 1) := by decide +kernel
theorem dX10_goes_264 : decode cX10_goes 264 = .ok (.iload 6, 2) := by decide +kernel
theorem dX10_goes_266 : decode cX10_goes 266 = .ok (.invokevirtual 261, 3) := by decide +kernel
theorem dX10_goes_269 : decode cX10_goes 269 = .ok (.iinc 5 1, 3) := by decide +kernel
theorem dX10_goes_272 : decode cX10_goes 272 = .ok (.goto (-111), 3) := by decide +kernel
theorem dX10_goes_275 : decode cX10_goes 275 = .ok (.return_, 1) := by decide +kernel
def L_X10_goes_25 (C : aM → List Value → aH → aO → aH → Prop) (sc : Nat × (Nat → Int32)) (P : aO → aH → Prop) (x1 : Int) (x2 : Int) (x3 : Int) (x4 : Int) (x5 : Int) (σ : aH) : Prop :=
    wp C 10 cX10_goes 7 none false [] sc P 25 [(0, .ref 76), (1, .int (nZ x1)), (2, .int (nZ x2)), (3, .int (nZ x3)), (4, .int (nZ x4)), (5, .int (nZ x5))] [] σ
def L_X10_goes_102 (C : aM → List Value → aH → aO → aH → Prop) (sc : Nat × (Nat → Int32)) (P : aO → aH → Prop) (x1 : Int) (x2 : Int) (x3 : Int) (x4 : Int) (x5 : Int) (σ : aH) : Prop :=
    wp C 10 cX10_goes 7 none false [] sc P 102 [(0, .ref 76), (1, .int (nZ x1)), (2, .int (nZ x2)), (3, .int (nZ x3)), (4, .int (nZ x4)), (5, .int (nZ x5))] [] σ
def L_X10_goes_45 (C : aM → List Value → aH → aO → aH → Prop) (sc : Nat × (Nat → Int32)) (P : aO → aH → Prop) (x1 : Int) (x2 : Int) (x3 : Int) (x4 : Int) (x5 : Int) (x6 : Int) (σ : aH) : Prop :=
    wp C 10 cX10_goes 7 none false [] sc P 45 [(0, .ref 76), (1, .int (nZ x1)), (2, .int (nZ x2)), (3, .int (nZ x3)), (4, .int (nZ x4)), (5, .int (nZ x5)), (6, .int (nZ x6))] [] σ
def L_X10_goes_126 (C : aM → List Value → aH → aO → aH → Prop) (sc : Nat × (Nat → Int32)) (P : aO → aH → Prop) (x1 : Int) (x2 : Int) (x3 : Int) (x4 : Int) (x5 : Int) (σ : aH) : Prop :=
    wp C 10 cX10_goes 7 none false [] sc P 126 [(0, .ref 76), (1, .int (nZ x1)), (2, .int (nZ x2)), (3, .int (nZ x3)), (4, .int (nZ x4)), (5, .int (nZ x5))] [] σ
def L_X10_goes_161 (C : aM → List Value → aH → aO → aH → Prop) (sc : Nat × (Nat → Int32)) (P : aO → aH → Prop) (x1 : Int) (x2 : Int) (x3 : Int) (x4 : Int) (x5 : Int) (σ : aH) : Prop :=
    wp C 10 cX10_goes 7 none false [] sc P 161 [(0, .ref 76), (1, .int (nZ x1)), (2, .int (nZ x2)), (3, .int (nZ x3)), (4, .int (nZ x4)), (5, .int (nZ x5))] [] σ
def L_X10_goes_212 (C : aM → List Value → aH → aO → aH → Prop) (sc : Nat × (Nat → Int32)) (P : aO → aH → Prop) (x1 : Int) (x2 : Int) (x3 : Int) (x4 : Int) (x5 : Int) (s0 : Int) (σ : aH) : Prop :=
    wp C 10 cX10_goes 7 none false [] sc P 212 [(0, .ref 76), (1, .int (nZ x1)), (2, .int (nZ x2)), (3, .int (nZ x3)), (4, .int (nZ x4)), (5, .int (nZ x5))] [.int (nZ s0)] σ
set_option maxRecDepth 10000 in
theorem t_X10_goes {sc : Nat × (Nat → Int32)} {d : Nat} {Q : aO → aH → Prop} {σ : aH} {u : Nat}  {x1 : Int} {x2 : Int} {x3 : Int} (hG : G σ u) (rx1 : inR x1) (rx2 : inR x2) (rx3 : inR x3)
    (h : ((x2 ≤ x1 → (∀ σ1 : aH, wI σ 76 36 0 = σ1 → (∀ σ4 : aH, wI σ1 76 37 0 = σ4 → L_X10_goes_25 (Ev sc d) sc Q x1 x2 x3 x2 0 σ4))) ∧ (¬ (x2 ≤ x1) → (∀ σ7 : aH, wI σ 76 36 0 = σ7 → (∀ σ10 : aH, wI σ7 76 37 0 = σ10 → L_X10_goes_25 (Ev sc d) sc Q x1 x2 x3 x1 0 σ10))))) :
    T sc (d + 1) mX10_goes [.ref 76, .int (nZ x1), .int (nZ x2), .int (nZ x3)] σ Q := by
  refine T.of (c := 10) (code := cX10_goes) (mL := 7) (rt := none) (ini := false) (l := [(0, .ref 76), (1, .int (nZ x1)), (2, .int (nZ x2)), (3, .int (nZ x3))]) rfl rfl rfl rfl (by decide) hs_X10_goes rfl rfl ?_
  refine w_iload_n dX10_goes_0 rfl (List.Mem.tail _ (List.Mem.head _)) ?_
  refine w_iload_n dX10_goes_1 rfl (List.Mem.tail _ (List.Mem.tail _ (List.Mem.head _))) ?_
  refine i_cmp_ge (tgt := 9) dX10_goes_2 rfl rx1 rx2 (fun c9 => ?_) (fun c9 => ?_)
  · replace h := h.1 c9
    refine w_iload_n dX10_goes_9 rfl (List.Mem.tail _ (List.Mem.tail _ (List.Mem.head _))) ?_
    refine w_istore (l' := [(4, .int (nZ x2)), (0, .ref 76), (1, .int (nZ x1)), (2, .int (nZ x2)), (3, .int (nZ x3))]) dX10_goes_10 (by decide) rfl ?_
    refine w_aload_n dX10_goes_12 rfl (List.Mem.tail _ (List.Mem.head _)) ?_
    refine w_iconst (v := nZ 0) dX10_goes_13 (by decide) ?_
    refine i_putI (ci := 10) 36 rfl dX10_goes_14 fl_10_252 (by decide) (gT hG rfl (lt_of rfl)) (fun σ1 eσ2 => ?_)
    replace h := h σ1 eσ2
    have hG3 : G σ1 u := eσ2 ▸ G.wI hG
    refine w_aload_n dX10_goes_17 rfl (List.Mem.tail _ (List.Mem.head _)) ?_
    refine w_iconst (v := nZ 0) dX10_goes_18 (by decide) ?_
    refine i_putI (ci := 10) 37 rfl dX10_goes_19 fl_10_255 (by decide) (gT hG3 rfl (lt_of rfl)) (fun σ4 eσ5 => ?_)
    replace h := h σ4 eσ5
    have hG6 : G σ4 u := eσ5 ▸ G.wI hG3
    refine w_iconst (v := nZ 0) dX10_goes_22 (by decide) ?_
    refine w_istore (l' := [(5, .int (nZ 0)), (4, .int (nZ x2)), (0, .ref 76), (1, .int (nZ x1)), (2, .int (nZ x2)), (3, .int (nZ x3))]) dX10_goes_23 (by decide) rfl ?_
    exact w_weak (l' := [(0, .ref 76), (1, .int (nZ x1)), (2, .int (nZ x2)), (3, .int (nZ x3)), (4, .int (nZ x2)), (5, .int (nZ 0))]) (by intro q hq; simp only [List.mem_cons, List.not_mem_nil, or_false] at hq ⊢; rcases hq with rfl | rfl | rfl | rfl | rfl | rfl <;> simp) h
  · replace h := h.2 c9
    refine w_iload_n dX10_goes_5 rfl (List.Mem.tail _ (List.Mem.head _)) ?_
    refine w_goto (tgt := 10) dX10_goes_6 rfl ?_
    refine w_istore (l' := [(4, .int (nZ x1)), (0, .ref 76), (1, .int (nZ x1)), (2, .int (nZ x2)), (3, .int (nZ x3))]) dX10_goes_10 (by decide) rfl ?_
    refine w_aload_n dX10_goes_12 rfl (List.Mem.tail _ (List.Mem.head _)) ?_
    refine w_iconst (v := nZ 0) dX10_goes_13 (by decide) ?_
    refine i_putI (ci := 10) 36 rfl dX10_goes_14 fl_10_252 (by decide) (gT hG rfl (lt_of rfl)) (fun σ7 eσ8 => ?_)
    replace h := h σ7 eσ8
    have hG9 : G σ7 u := eσ8 ▸ G.wI hG
    refine w_aload_n dX10_goes_17 rfl (List.Mem.tail _ (List.Mem.head _)) ?_
    refine w_iconst (v := nZ 0) dX10_goes_18 (by decide) ?_
    refine i_putI (ci := 10) 37 rfl dX10_goes_19 fl_10_255 (by decide) (gT hG9 rfl (lt_of rfl)) (fun σ10 eσ11 => ?_)
    replace h := h σ10 eσ11
    have hG12 : G σ10 u := eσ11 ▸ G.wI hG9
    refine w_iconst (v := nZ 0) dX10_goes_22 (by decide) ?_
    refine w_istore (l' := [(5, .int (nZ 0)), (4, .int (nZ x1)), (0, .ref 76), (1, .int (nZ x1)), (2, .int (nZ x2)), (3, .int (nZ x3))]) dX10_goes_23 (by decide) rfl ?_
    exact w_weak (l' := [(0, .ref 76), (1, .int (nZ x1)), (2, .int (nZ x2)), (3, .int (nZ x3)), (4, .int (nZ x1)), (5, .int (nZ 0))]) (by intro q hq; simp only [List.mem_cons, List.not_mem_nil, or_false] at hq ⊢; rcases hq with rfl | rfl | rfl | rfl | rfl | rfl <;> simp) h
set_option maxRecDepth 10000 in
theorem v_X10_goes_25 {C : aM → List Value → aH → aO → aH → Prop} {sc : Nat × (Nat → Int32)} {P : aO → aH → Prop} {σ : aH} {u : Nat}  {x1 : Int} {x2 : Int} {x3 : Int} {x4 : Int} {x5 : Int} (hG : G σ u) (rx1 : inR x1) (rx2 : inR x2) (rx3 : inR x3) (rx4 : inR x4) (rx5 : inR x5)
    (h : (((rI σ 76 28) ≤ x5 → L_X10_goes_102 C sc P x1 x2 x3 x4 0 σ) ∧ (¬ ((rI σ 76 28) ≤ x5) → ((0 ≤ x5 ∧ x5 < 9) ∧ (∀ σ1 : aH, wI σ 311 x5 0 = σ1 → L_X10_goes_45 C sc P x1 x2 x3 x4 x5 0 σ1))))) :
    L_X10_goes_25 C sc P x1 x2 x3 x4 x5 σ := by
  unfold L_X10_goes_25
  refine w_iload dX10_goes_25 (List.Mem.tail _ (List.Mem.tail _ (List.Mem.tail _ (List.Mem.tail _ (List.Mem.tail _ (List.Mem.head _)))))) ?_
  refine w_aload_n dX10_goes_27 rfl (List.Mem.head _) ?_
  refine i_getI (ci := 10) 28 rfl dX10_goes_28 fl_10_218 (by decide) (gT hG rfl (lt_of rfl)) ?_
  refine i_cmp_ge (tgt := 99) dX10_goes_31 rfl rx5 (rI_R _ _ _) (fun c9 => ?_) (fun c9 => ?_)
  · replace h := h.1 c9
    refine w_iconst (v := nZ 0) dX10_goes_99 (by decide) ?_
    refine w_istore (l' := [(5, .int (nZ 0)), (0, .ref 76), (1, .int (nZ x1)), (2, .int (nZ x2)), (3, .int (nZ x3)), (4, .int (nZ x4))]) dX10_goes_100 (by decide) rfl ?_
    exact w_weak (l' := [(0, .ref 76), (1, .int (nZ x1)), (2, .int (nZ x2)), (3, .int (nZ x3)), (4, .int (nZ x4)), (5, .int (nZ 0))]) (by intro q hq; simp only [List.mem_cons, List.not_mem_nil, or_false] at hq ⊢; rcases hq with rfl | rfl | rfl | rfl | rfl | rfl <;> simp) h
  · replace h := h.2 c9
    refine w_aload_n dX10_goes_34 rfl (List.Mem.head _) ?_
    refine w_getR (ci := 10) (k := 33) (b := 311) dX10_goes_35 fl_10_67 (by decide) (gT hG rfl (lt_of rfl)) (gR hG (b := 311) rfl) ?_
    refine w_iload dX10_goes_38 (List.Mem.tail _ (List.Mem.tail _ (List.Mem.tail _ (List.Mem.tail _ (List.Mem.tail _ (List.Mem.head _)))))) ?_
    refine w_iconst (v := nZ 0) dX10_goes_40 (by decide) ?_
    obtain ⟨h9, h⟩ := h
    refine i_iast (n := 9) dX10_goes_41 (gT hG rfl (lt_of rfl)) (gL hG rfl) rx5 h9 (fun σ1 eσ2 => ?_)
    replace h := h σ1 eσ2
    have hG3 : G σ1 u := eσ2 ▸ G.wI hG
    refine w_iconst (v := nZ 0) dX10_goes_42 (by decide) ?_
    refine w_istore (l' := [(6, .int (nZ 0)), (0, .ref 76), (1, .int (nZ x1)), (2, .int (nZ x2)), (3, .int (nZ x3)), (4, .int (nZ x4)), (5, .int (nZ x5))]) dX10_goes_43 (by decide) rfl ?_
    exact w_weak (l' := [(0, .ref 76), (1, .int (nZ x1)), (2, .int (nZ x2)), (3, .int (nZ x3)), (4, .int (nZ x4)), (5, .int (nZ x5)), (6, .int (nZ 0))]) (by intro q hq; simp only [List.mem_cons, List.not_mem_nil, or_false] at hq ⊢; rcases hq with rfl | rfl | rfl | rfl | rfl | rfl | rfl <;> simp) h
set_option maxRecDepth 10000 in
theorem v_X10_goes_102 {C : aM → List Value → aH → aO → aH → Prop} {sc : Nat × (Nat → Int32)} {P : aO → aH → Prop} {σ : aH} {u : Nat}  {x1 : Int} {x2 : Int} {x3 : Int} {x4 : Int} {x5 : Int} (hG : G σ u) (rx1 : inR x1) (rx2 : inR x2) (rx3 : inR x3) (rx4 : inR x4) (rx5 : inR x5)
    (h : ((24 ≤ x5 → L_X10_goes_126 C sc P x1 x2 x3 x4 0 σ) ∧ (¬ (24 ≤ x5) → ((0 ≤ x5 ∧ x5 < 24) ∧ (∀ σ1 : aH, wI σ 312 x5 0 = σ1 → (inR (x5 + 1) ∧ L_X10_goes_102 C sc P x1 x2 x3 x4 (x5 + 1) σ1)))))) :
    L_X10_goes_102 C sc P x1 x2 x3 x4 x5 σ := by
  unfold L_X10_goes_102
  refine w_iload dX10_goes_102 (List.Mem.tail _ (List.Mem.tail _ (List.Mem.tail _ (List.Mem.tail _ (List.Mem.tail _ (List.Mem.head _)))))) ?_
  refine w_bipush (v := nZ 24) dX10_goes_104 (by decide) ?_
  refine i_cmp_ge (tgt := 123) dX10_goes_106 rfl rx5 (by decide) (fun c9 => ?_) (fun c9 => ?_)
  · replace h := h.1 c9
    refine w_iconst (v := nZ 0) dX10_goes_123 (by decide) ?_
    refine w_istore (l' := [(5, .int (nZ 0)), (0, .ref 76), (1, .int (nZ x1)), (2, .int (nZ x2)), (3, .int (nZ x3)), (4, .int (nZ x4))]) dX10_goes_124 (by decide) rfl ?_
    exact w_weak (l' := [(0, .ref 76), (1, .int (nZ x1)), (2, .int (nZ x2)), (3, .int (nZ x3)), (4, .int (nZ x4)), (5, .int (nZ 0))]) (by intro q hq; simp only [List.mem_cons, List.not_mem_nil, or_false] at hq ⊢; rcases hq with rfl | rfl | rfl | rfl | rfl | rfl <;> simp) h
  · replace h := h.2 c9
    refine w_aload_n dX10_goes_109 rfl (List.Mem.head _) ?_
    refine w_getR (ci := 10) (k := 34) (b := 312) dX10_goes_110 fl_10_70 (by decide) (gT hG rfl (lt_of rfl)) (gR hG (b := 312) rfl) ?_
    refine w_iload dX10_goes_113 (List.Mem.tail _ (List.Mem.tail _ (List.Mem.tail _ (List.Mem.tail _ (List.Mem.tail _ (List.Mem.head _)))))) ?_
    refine w_iconst (v := nZ 0) dX10_goes_115 (by decide) ?_
    obtain ⟨h9, h⟩ := h
    refine i_iast (n := 24) dX10_goes_116 (gT hG rfl (lt_of rfl)) (gL hG rfl) rx5 h9 (fun σ1 eσ2 => ?_)
    replace h := h σ1 eσ2
    have hG3 : G σ1 u := eσ2 ▸ G.wI hG
    obtain ⟨q4, h⟩ := h
    refine w_iinc (v := nZ (x5 + 1)) (l' := [(5, .int (nZ (x5 + 1))), (0, .ref 76), (1, .int (nZ x1)), (2, .int (nZ x2)), (3, .int (nZ x3)), (4, .int (nZ x4))]) dX10_goes_117 (List.Mem.tail _ (List.Mem.tail _ (List.Mem.tail _ (List.Mem.tail _ (List.Mem.tail _ (List.Mem.head _)))))) (nZ_add _ _) (by decide) rfl ?_
    refine w_goto (tgt := 102) dX10_goes_120 rfl ?_
    exact w_weak (l' := [(0, .ref 76), (1, .int (nZ x1)), (2, .int (nZ x2)), (3, .int (nZ x3)), (4, .int (nZ x4)), (5, .int (nZ (x5 + 1)))]) (by intro q hq; simp only [List.mem_cons, List.not_mem_nil, or_false] at hq ⊢; rcases hq with rfl | rfl | rfl | rfl | rfl | rfl <;> simp) h
set_option maxRecDepth 10000 in
theorem v_X10_goes_45 {C : aM → List Value → aH → aO → aH → Prop} {sc : Nat × (Nat → Int32)} {P : aO → aH → Prop} {σ : aH} {u : Nat}  {x1 : Int} {x2 : Int} {x3 : Int} {x4 : Int} {x5 : Int} {x6 : Int} (hG : G σ u) (rx1 : inR x1) (rx2 : inR x2) (rx3 : inR x3) (rx4 : inR x4) (rx5 : inR x5) (rx6 : inR x6)
    (h : (((rI σ 76 28) ≤ x6 → (inR (x5 + 1) ∧ L_X10_goes_25 C sc P x1 x2 x3 x4 (x5 + 1) σ)) ∧ (¬ ((rI σ 76 28) ≤ x6) → ((0 ≤ x5 ∧ x5 < 9) ∧ ((0 ≤ x6 ∧ x6 < 9) ∧ (∀ σ3 : aH, wI σ (282 + x5.toNat) x6 0 = σ3 → ((0 ≤ x5 ∧ x5 < 9) ∧ ((0 ≤ x6 ∧ x6 < 9) ∧ (∀ σ7 : aH, wI σ3 (292 + x5.toNat) x6 0 = σ7 → ((0 ≤ x5 ∧ x5 < 9) ∧ ((0 ≤ x6 ∧ x6 < 9) ∧ (∀ σ11 : aH, wI σ7 (302 + x5.toNat) x6 0 = σ11 → (inR (x6 + 1) ∧ L_X10_goes_45 C sc P x1 x2 x3 x4 x5 (x6 + 1) σ11))))))))))))) :
    L_X10_goes_45 C sc P x1 x2 x3 x4 x5 x6 σ := by
  unfold L_X10_goes_45
  refine w_iload dX10_goes_45 (List.Mem.tail _ (List.Mem.tail _ (List.Mem.tail _ (List.Mem.tail _ (List.Mem.tail _ (List.Mem.tail _ (List.Mem.head _))))))) ?_
  refine w_aload_n dX10_goes_47 rfl (List.Mem.head _) ?_
  refine i_getI (ci := 10) 28 rfl dX10_goes_48 fl_10_218 (by decide) (gT hG rfl (lt_of rfl)) ?_
  refine i_cmp_ge (tgt := 93) dX10_goes_51 rfl rx6 (rI_R _ _ _) (fun c9 => ?_) (fun c9 => ?_)
  · replace h := h.1 c9
    obtain ⟨q1, h⟩ := h
    refine w_iinc (v := nZ (x5 + 1)) (l' := [(5, .int (nZ (x5 + 1))), (0, .ref 76), (1, .int (nZ x1)), (2, .int (nZ x2)), (3, .int (nZ x3)), (4, .int (nZ x4)), (6, .int (nZ x6))]) dX10_goes_93 (List.Mem.tail _ (List.Mem.tail _ (List.Mem.tail _ (List.Mem.tail _ (List.Mem.tail _ (List.Mem.head _)))))) (nZ_add _ _) (by decide) rfl ?_
    refine w_goto (tgt := 25) dX10_goes_96 rfl ?_
    exact w_weak (l' := [(0, .ref 76), (1, .int (nZ x1)), (2, .int (nZ x2)), (3, .int (nZ x3)), (4, .int (nZ x4)), (5, .int (nZ (x5 + 1)))]) (by intro q hq; simp only [List.mem_cons, List.not_mem_nil, or_false] at hq ⊢; rcases hq with rfl | rfl | rfl | rfl | rfl | rfl <;> simp) h
  · replace h := h.2 c9
    refine w_aload_n dX10_goes_54 rfl (List.Mem.head _) ?_
    refine w_getR (ci := 10) (k := 30) (b := 281) dX10_goes_55 fl_10_58 (by decide) (gT hG rfl (lt_of rfl)) (gR hG (b := 281) rfl) ?_
    refine w_iload dX10_goes_58 (List.Mem.tail _ (List.Mem.tail _ (List.Mem.tail _ (List.Mem.tail _ (List.Mem.tail _ (List.Mem.head _)))))) ?_
    obtain ⟨h9, h⟩ := h
    have hj2 := vin_lt2 (n := 9) h9 rfl
    refine i_aald (n := 9) (b := (282 + x5.toNat)) dX10_goes_60 (gT hG rfl (lt_of rfl)) (gL hG rfl) rx5 h9 (gR hG (rr_281 hj2)) ?_
    refine w_iload dX10_goes_61 (List.Mem.tail _ (List.Mem.tail _ (List.Mem.tail _ (List.Mem.tail _ (List.Mem.tail _ (List.Mem.tail _ (List.Mem.head _))))))) ?_
    refine w_iconst (v := nZ 0) dX10_goes_63 (by decide) ?_
    obtain ⟨h9, h⟩ := h
    refine i_iast (n := 9) dX10_goes_64 (gT hG (ro_281 _ hj2).1 (by have := hj2; omega)) (gL hG (ro_281 _ hj2).2) rx6 h9 (fun σ3 eσ4 => ?_)
    replace h := h σ3 eσ4
    have hG5 : G σ3 u := eσ4 ▸ G.wI hG
    refine w_aload_n dX10_goes_65 rfl (List.Mem.head _) ?_
    refine w_getR (ci := 10) (k := 31) (b := 291) dX10_goes_66 fl_10_61 (by decide) (gT hG5 rfl (lt_of rfl)) (gR hG5 (b := 291) rfl) ?_
    refine w_iload dX10_goes_69 (List.Mem.tail _ (List.Mem.tail _ (List.Mem.tail _ (List.Mem.tail _ (List.Mem.tail _ (List.Mem.head _)))))) ?_
    obtain ⟨h9, h⟩ := h
    have hj6 := vin_lt2 (n := 9) h9 rfl
    refine i_aald (n := 9) (b := (292 + x5.toNat)) dX10_goes_71 (gT hG5 rfl (lt_of rfl)) (gL hG5 rfl) rx5 h9 (gR hG5 (rr_291 hj6)) ?_
    refine w_iload dX10_goes_72 (List.Mem.tail _ (List.Mem.tail _ (List.Mem.tail _ (List.Mem.tail _ (List.Mem.tail _ (List.Mem.tail _ (List.Mem.head _))))))) ?_
    refine w_iconst (v := nZ 0) dX10_goes_74 (by decide) ?_
    obtain ⟨h9, h⟩ := h
    refine i_iast (n := 9) dX10_goes_75 (gT hG5 (ro_291 _ hj6).1 (by have := hj6; omega)) (gL hG5 (ro_291 _ hj6).2) rx6 h9 (fun σ7 eσ8 => ?_)
    replace h := h σ7 eσ8
    have hG9 : G σ7 u := eσ8 ▸ G.wI hG5
    refine w_aload_n dX10_goes_76 rfl (List.Mem.head _) ?_
    refine w_getR (ci := 10) (k := 32) (b := 301) dX10_goes_77 fl_10_64 (by decide) (gT hG9 rfl (lt_of rfl)) (gR hG9 (b := 301) rfl) ?_
    refine w_iload dX10_goes_80 (List.Mem.tail _ (List.Mem.tail _ (List.Mem.tail _ (List.Mem.tail _ (List.Mem.tail _ (List.Mem.head _)))))) ?_
    obtain ⟨h9, h⟩ := h
    have hj10 := vin_lt2 (n := 9) h9 rfl
    refine i_aald (n := 9) (b := (302 + x5.toNat)) dX10_goes_82 (gT hG9 rfl (lt_of rfl)) (gL hG9 rfl) rx5 h9 (gR hG9 (rr_301 hj10)) ?_
    refine w_iload dX10_goes_83 (List.Mem.tail _ (List.Mem.tail _ (List.Mem.tail _ (List.Mem.tail _ (List.Mem.tail _ (List.Mem.tail _ (List.Mem.head _))))))) ?_
    refine w_iconst (v := nZ 0) dX10_goes_85 (by decide) ?_
    obtain ⟨h9, h⟩ := h
    refine i_iast (n := 9) dX10_goes_86 (gT hG9 (ro_301 _ hj10).1 (by have := hj10; omega)) (gL hG9 (ro_301 _ hj10).2) rx6 h9 (fun σ11 eσ12 => ?_)
    replace h := h σ11 eσ12
    have hG13 : G σ11 u := eσ12 ▸ G.wI hG9
    obtain ⟨q14, h⟩ := h
    refine w_iinc (v := nZ (x6 + 1)) (l' := [(6, .int (nZ (x6 + 1))), (0, .ref 76), (1, .int (nZ x1)), (2, .int (nZ x2)), (3, .int (nZ x3)), (4, .int (nZ x4)), (5, .int (nZ x5))]) dX10_goes_87 (List.Mem.tail _ (List.Mem.tail _ (List.Mem.tail _ (List.Mem.tail _ (List.Mem.tail _ (List.Mem.tail _ (List.Mem.head _))))))) (nZ_add _ _) (by decide) rfl ?_
    refine w_goto (tgt := 45) dX10_goes_90 rfl ?_
    exact w_weak (l' := [(0, .ref 76), (1, .int (nZ x1)), (2, .int (nZ x2)), (3, .int (nZ x3)), (4, .int (nZ x4)), (5, .int (nZ x5)), (6, .int (nZ (x6 + 1)))]) (by intro q hq; simp only [List.mem_cons, List.not_mem_nil, or_false] at hq ⊢; rcases hq with rfl | rfl | rfl | rfl | rfl | rfl | rfl <;> simp) h
set_option maxRecDepth 10000 in
theorem v_X10_goes_126 {C : aM → List Value → aH → aO → aH → Prop} {sc : Nat × (Nat → Int32)} {P : aO → aH → Prop} {σ : aH} {u : Nat}  {x1 : Int} {x2 : Int} {x3 : Int} {x4 : Int} {x5 : Int} (hG : G σ u) (rx1 : inR x1) (rx2 : inR x2) (rx3 : inR x3) (rx4 : inR x4) (rx5 : inR x5)
    (h : (((rI σ 80 6) ≤ x5 → L_X10_goes_161 C sc P x1 x2 x3 x4 0 σ) ∧ (¬ ((rI σ 80 6) ≤ x5) → ((0 ≤ x5 ∧ x5 < 20) ∧ (∀ σ1 : aH, wI σ 313 x5 0 = σ1 → (∃ σ4 : aH, C mX10_throwsBy [.ref 76, .int (nZ x5)] σ1 (.inl none) σ4 ∧ G σ4 u ∧ (inR (x5 + 1) ∧ L_X10_goes_126 C sc P x1 x2 x3 x4 (x5 + 1) σ4))))))) :
    L_X10_goes_126 C sc P x1 x2 x3 x4 x5 σ := by
  unfold L_X10_goes_126
  refine w_iload dX10_goes_126 (List.Mem.tail _ (List.Mem.tail _ (List.Mem.tail _ (List.Mem.tail _ (List.Mem.tail _ (List.Mem.head _)))))) ?_
  refine w_aload_n dX10_goes_128 rfl (List.Mem.head _) ?_
  refine w_getR (ci := 10) (k := 11) (b := 80) dX10_goes_129 fl_10_23 (by decide) (gT hG rfl (lt_of rfl)) (gR hG (b := 80) rfl) ?_
  refine w_bipush (v := nZ 6) dX10_goes_132 (by decide) ?_
  refine i_iald (n := 8) dX10_goes_134 (gT hG rfl (lt_of rfl)) (gL hG rfl) (by decide) (by decide) ?_
  refine i_cmp_ge (tgt := 158) dX10_goes_135 rfl rx5 (rI_R _ _ _) (fun c9 => ?_) (fun c9 => ?_)
  · replace h := h.1 c9
    refine w_iconst (v := nZ 0) dX10_goes_158 (by decide) ?_
    refine w_istore (l' := [(5, .int (nZ 0)), (0, .ref 76), (1, .int (nZ x1)), (2, .int (nZ x2)), (3, .int (nZ x3)), (4, .int (nZ x4))]) dX10_goes_159 (by decide) rfl ?_
    exact w_weak (l' := [(0, .ref 76), (1, .int (nZ x1)), (2, .int (nZ x2)), (3, .int (nZ x3)), (4, .int (nZ x4)), (5, .int (nZ 0))]) (by intro q hq; simp only [List.mem_cons, List.not_mem_nil, or_false] at hq ⊢; rcases hq with rfl | rfl | rfl | rfl | rfl | rfl <;> simp) h
  · replace h := h.2 c9
    refine w_aload_n dX10_goes_138 rfl (List.Mem.head _) ?_
    refine w_getR (ci := 10) (k := 35) (b := 313) dX10_goes_139 fl_10_73 (by decide) (gT hG rfl (lt_of rfl)) (gR hG (b := 313) rfl) ?_
    refine w_iload dX10_goes_142 (List.Mem.tail _ (List.Mem.tail _ (List.Mem.tail _ (List.Mem.tail _ (List.Mem.tail _ (List.Mem.head _)))))) ?_
    refine w_iconst (v := nZ 0) dX10_goes_144 (by decide) ?_
    obtain ⟨h9, h⟩ := h
    refine i_iast (n := 20) dX10_goes_145 (gT hG rfl (lt_of rfl)) (gL hG rfl) rx5 h9 (fun σ1 eσ2 => ?_)
    replace h := h σ1 eσ2
    have hG3 : G σ1 u := eσ2 ▸ G.wI hG
    refine w_aload_n dX10_goes_146 rfl (List.Mem.head _) ?_
    refine w_iload dX10_goes_147 (List.Mem.tail _ (List.Mem.tail _ (List.Mem.tail _ (List.Mem.tail _ (List.Mem.tail _ (List.Mem.head _)))))) ?_
    obtain ⟨σ4, hc6, hG5, h⟩ := h
    refine w_callV dX10_goes_149 ml_10_258 ⟨ok_X10_throwsBy, vi_X10_throwsBy⟩ hs_X10_throwsBy (As := [.int (nZ x5)]) rfl rfl (gT hG3 rfl (lt_of rfl)) (Nat.le_of_ble_eq_true rfl) hc6 ?_
    show wp C 10 cX10_goes 7 none false [] sc P 152 [(0, .ref 76), (1, .int (nZ x1)), (2, .int (nZ x2)), (3, .int (nZ x3)), (4, .int (nZ x4)), (5, .int (nZ x5))] [] σ4
    obtain ⟨q8, h⟩ := h
    refine w_iinc (v := nZ (x5 + 1)) (l' := [(5, .int (nZ (x5 + 1))), (0, .ref 76), (1, .int (nZ x1)), (2, .int (nZ x2)), (3, .int (nZ x3)), (4, .int (nZ x4))]) dX10_goes_152 (List.Mem.tail _ (List.Mem.tail _ (List.Mem.tail _ (List.Mem.tail _ (List.Mem.tail _ (List.Mem.head _)))))) (nZ_add _ _) (by decide) rfl ?_
    refine w_goto (tgt := 126) dX10_goes_155 rfl ?_
    exact w_weak (l' := [(0, .ref 76), (1, .int (nZ x1)), (2, .int (nZ x2)), (3, .int (nZ x3)), (4, .int (nZ x4)), (5, .int (nZ (x5 + 1)))]) (by intro q hq; simp only [List.mem_cons, List.not_mem_nil, or_false] at hq ⊢; rcases hq with rfl | rfl | rfl | rfl | rfl | rfl <;> simp) h
set_option maxRecDepth 10000 in
theorem v_X10_goes_161 {C : aM → List Value → aH → aO → aH → Prop} {sc : Nat × (Nat → Int32)} {P : aO → aH → Prop} {σ : aH} {u : Nat}  {x1 : Int} {x2 : Int} {x3 : Int} {x4 : Int} {x5 : Int} (hG : G σ u) (rx1 : inR x1) (rx2 : inR x2) (rx3 : inR x3) (rx4 : inR x4) (rx5 : inR x5)
    (h : (((rI σ 76 25) ≤ x5 → P (.inl none) σ) ∧ (¬ ((rI σ 76 25) ≤ x5) → ((0 ≤ x5 ∧ x5 < 70) ∧ ((x4 ≤ (rI σ (190 + x5.toNat) 0) → P (.inl none) σ) ∧ (¬ (x4 ≤ (rI σ (190 + x5.toNat) 0)) → ((0 ≤ x5 ∧ x5 < 70) ∧ ((x4 ≤ (rI σ (190 + x5.toNat) 1) → L_X10_goes_212 C sc P x1 x2 x3 x4 x5 x4 σ) ∧ (¬ (x4 ≤ (rI σ (190 + x5.toNat) 1)) → ((0 ≤ x5 ∧ x5 < 70) ∧ L_X10_goes_212 C sc P x1 x2 x3 x4 x5 (rI σ (190 + x5.toNat) 1) σ)))))))))) :
    L_X10_goes_161 C sc P x1 x2 x3 x4 x5 σ := by
  unfold L_X10_goes_161
  refine w_iload dX10_goes_161 (List.Mem.tail _ (List.Mem.tail _ (List.Mem.tail _ (List.Mem.tail _ (List.Mem.tail _ (List.Mem.head _)))))) ?_
  refine w_aload_n dX10_goes_163 rfl (List.Mem.head _) ?_
  refine i_getI (ci := 10) 25 rfl dX10_goes_164 fl_10_224 (by decide) (gT hG rfl (lt_of rfl)) ?_
  refine i_cmp_ge (tgt := 275) dX10_goes_167 rfl rx5 (rI_R _ _ _) (fun c9 => ?_) (fun c9 => ?_)
  · replace h := h.1 c9
    exact w_vret dX10_goes_275 rfl h
  · replace h := h.2 c9
    refine w_aload_n dX10_goes_170 rfl (List.Mem.head _) ?_
    refine w_getR (ci := 10) (k := 26) (b := 189) dX10_goes_171 fl_10_52 (by decide) (gT hG rfl (lt_of rfl)) (gR hG (b := 189) rfl) ?_
    refine w_iload dX10_goes_174 (List.Mem.tail _ (List.Mem.tail _ (List.Mem.tail _ (List.Mem.tail _ (List.Mem.tail _ (List.Mem.head _)))))) ?_
    obtain ⟨h9, h⟩ := h
    have hj1 := vin_lt2 (n := 70) h9 rfl
    refine i_aald (n := 70) (b := (190 + x5.toNat)) dX10_goes_176 (gT hG rfl (lt_of rfl)) (gL hG rfl) rx5 h9 (gR hG (rr_189 hj1)) ?_
    refine w_iconst (v := nZ 0) dX10_goes_177 (by decide) ?_
    refine i_iald (n := 4) dX10_goes_178 (gT hG (ro_189 _ hj1).1 (by have := hj1; omega)) (gL hG (ro_189 _ hj1).2) (by decide) (by decide) ?_
    refine w_iload dX10_goes_179 (List.Mem.tail _ (List.Mem.tail _ (List.Mem.tail _ (List.Mem.tail _ (List.Mem.head _))))) ?_
    refine i_cmp_ge (tgt := 275) dX10_goes_181 rfl (rI_R _ _ _) rx4 (fun c9 => ?_) (fun c9 => ?_)
    · replace h := h.1 c9
      exact w_vret dX10_goes_275 rfl h
    · replace h := h.2 c9
      refine w_aload_n dX10_goes_184 rfl (List.Mem.head _) ?_
      refine w_getR (ci := 10) (k := 26) (b := 189) dX10_goes_185 fl_10_52 (by decide) (gT hG rfl (lt_of rfl)) (gR hG (b := 189) rfl) ?_
      refine w_iload dX10_goes_188 (List.Mem.tail _ (List.Mem.tail _ (List.Mem.tail _ (List.Mem.tail _ (List.Mem.tail _ (List.Mem.head _)))))) ?_
      obtain ⟨h9, h⟩ := h
      have hj2 := vin_lt2 (n := 70) h9 rfl
      refine i_aald (n := 70) (b := (190 + x5.toNat)) dX10_goes_190 (gT hG rfl (lt_of rfl)) (gL hG rfl) rx5 h9 (gR hG (rr_189 hj2)) ?_
      refine w_iconst (v := nZ 1) dX10_goes_191 (by decide) ?_
      refine i_iald (n := 4) dX10_goes_192 (gT hG (ro_189 _ hj2).1 (by have := hj2; omega)) (gL hG (ro_189 _ hj2).2) (by decide) (by decide) ?_
      refine w_iload dX10_goes_193 (List.Mem.tail _ (List.Mem.tail _ (List.Mem.tail _ (List.Mem.tail _ (List.Mem.head _))))) ?_
      refine i_cmp_ge (tgt := 210) dX10_goes_195 rfl (rI_R _ _ _) rx4 (fun c9 => ?_) (fun c9 => ?_)
      · replace h := h.1 c9
        refine w_iload dX10_goes_210 (List.Mem.tail _ (List.Mem.tail _ (List.Mem.tail _ (List.Mem.tail _ (List.Mem.head _))))) ?_
        exact h
      · replace h := h.2 c9
        refine w_aload_n dX10_goes_198 rfl (List.Mem.head _) ?_
        refine w_getR (ci := 10) (k := 26) (b := 189) dX10_goes_199 fl_10_52 (by decide) (gT hG rfl (lt_of rfl)) (gR hG (b := 189) rfl) ?_
        refine w_iload dX10_goes_202 (List.Mem.tail _ (List.Mem.tail _ (List.Mem.tail _ (List.Mem.tail _ (List.Mem.tail _ (List.Mem.head _)))))) ?_
        obtain ⟨h9, h⟩ := h
        have hj3 := vin_lt2 (n := 70) h9 rfl
        refine i_aald (n := 70) (b := (190 + x5.toNat)) dX10_goes_204 (gT hG rfl (lt_of rfl)) (gL hG rfl) rx5 h9 (gR hG (rr_189 hj3)) ?_
        refine w_iconst (v := nZ 1) dX10_goes_205 (by decide) ?_
        refine i_iald (n := 4) dX10_goes_206 (gT hG (ro_189 _ hj3).1 (by have := hj3; omega)) (gL hG (ro_189 _ hj3).2) (by decide) (by decide) ?_
        refine w_goto (tgt := 212) dX10_goes_207 rfl ?_
        exact h
set_option maxRecDepth 10000 in
theorem v_X10_goes_212 {C : aM → List Value → aH → aO → aH → Prop} {sc : Nat × (Nat → Int32)} {P : aO → aH → Prop} {σ : aH} {u : Nat}  {x1 : Int} {x2 : Int} {x3 : Int} {x4 : Int} {x5 : Int} {s0 : Int} (hG : G σ u) (rx1 : inR x1) (rx2 : inR x2) (rx3 : inR x3) (rx4 : inR x4) (rx5 : inR x5) (rs0 : inR s0)
    (h : ((0 ≤ x5 ∧ x5 < 70) ∧ (inR (s0 - (rI σ (190 + x5.toNat) 0)) ∧ (∀ z3 : Int, z3 = (s0 - (rI σ (190 + x5.toNat) 0)) → ((0 ≤ x5 ∧ x5 < 70) ∧ (((rI σ (190 + x5.toNat) 2) = (-1) → (inR (x5 + 1) ∧ L_X10_goes_161 C sc P x1 x2 x3 x4 (x5 + 1) σ)) ∧ (¬ ((rI σ (190 + x5.toNat) 2) = (-1)) → ((0 ≤ x5 ∧ x5 < 70) ∧ ((0 ≤ (rI σ (190 + x5.toNat) 0) ∧ (0 : Int) < 60) ∧ inR ((rI σ (190 + x5.toNat) 0) / 60) ∧ ((¬ (zAnd (zShr x3 ((rI σ (190 + x5.toNat) 0) / 60)) 1) = 0 → (inR (x5 + 1) ∧ L_X10_goes_161 C sc P x1 x2 x3 x4 (x5 + 1) σ)) ∧ ((zAnd (zShr x3 ((rI σ (190 + x5.toNat) 0) / 60)) 1) = 0 → ((0 ≤ x5 ∧ x5 < 70) ∧ (∃ σ12 : aH, C mX10_counts [.ref 76, .ref (190 + x5.toNat), .int (nZ z3)] σ (.inl none) σ12 ∧ G σ12 u ∧ (inR (x5 + 1) ∧ L_X10_goes_161 C sc P x1 x2 x3 x4 (x5 + 1) σ12)))))))))))))) :
    L_X10_goes_212 C sc P x1 x2 x3 x4 x5 s0 σ := by
  unfold L_X10_goes_212
  refine w_aload_n dX10_goes_212 rfl (List.Mem.head _) ?_
  refine w_getR (ci := 10) (k := 26) (b := 189) dX10_goes_213 fl_10_52 (by decide) (gT hG rfl (lt_of rfl)) (gR hG (b := 189) rfl) ?_
  refine w_iload dX10_goes_216 (List.Mem.tail _ (List.Mem.tail _ (List.Mem.tail _ (List.Mem.tail _ (List.Mem.tail _ (List.Mem.head _)))))) ?_
  obtain ⟨h9, h⟩ := h
  have hj1 := vin_lt2 (n := 70) h9 rfl
  refine i_aald (n := 70) (b := (190 + x5.toNat)) dX10_goes_218 (gT hG rfl (lt_of rfl)) (gL hG rfl) rx5 h9 (gR hG (rr_189 hj1)) ?_
  refine w_iconst (v := nZ 0) dX10_goes_219 (by decide) ?_
  refine i_iald (n := 4) dX10_goes_220 (gT hG (ro_189 _ hj1).1 (by have := hj1; omega)) (gL hG (ro_189 _ hj1).2) (by decide) (by decide) ?_
  obtain ⟨q2, h⟩ := h
  refine i_sub dX10_goes_221 ?_
  refine top_i (fun z3 ez4 => ?_)
  have rz5 : inR z3 := ez4 ▸ q2
  replace h := h z3 ez4
  refine w_istore (l' := [(6, .int (nZ z3)), (0, .ref 76), (1, .int (nZ x1)), (2, .int (nZ x2)), (3, .int (nZ x3)), (4, .int (nZ x4)), (5, .int (nZ x5))]) dX10_goes_222 (by decide) rfl ?_
  refine w_aload_n dX10_goes_224 rfl (List.Mem.tail _ (List.Mem.head _)) ?_
  refine w_getR (ci := 10) (k := 26) (b := 189) dX10_goes_225 fl_10_52 (by decide) (gT hG rfl (lt_of rfl)) (gR hG (b := 189) rfl) ?_
  refine w_iload dX10_goes_228 (List.Mem.tail _ (List.Mem.tail _ (List.Mem.tail _ (List.Mem.tail _ (List.Mem.tail _ (List.Mem.tail _ (List.Mem.head _))))))) ?_
  obtain ⟨h9, h⟩ := h
  have hj6 := vin_lt2 (n := 70) h9 rfl
  refine i_aald (n := 70) (b := (190 + x5.toNat)) dX10_goes_230 (gT hG rfl (lt_of rfl)) (gL hG rfl) rx5 h9 (gR hG (rr_189 hj6)) ?_
  refine w_iconst (v := nZ 2) dX10_goes_231 (by decide) ?_
  refine i_iald (n := 4) dX10_goes_232 (gT hG (ro_189 _ hj6).1 (by have := hj6; omega)) (gL hG (ro_189 _ hj6).2) (by decide) (by decide) ?_
  refine w_iconst (v := nZ (-1)) dX10_goes_233 (by decide) ?_
  refine i_cmp_eq (tgt := 269) dX10_goes_234 rfl (rI_R _ _ _) (by decide) (fun c9 => ?_) (fun c9 => ?_)
  · replace h := h.1 c9
    obtain ⟨q7, h⟩ := h
    refine w_iinc (v := nZ (x5 + 1)) (l' := [(5, .int (nZ (x5 + 1))), (6, .int (nZ z3)), (0, .ref 76), (1, .int (nZ x1)), (2, .int (nZ x2)), (3, .int (nZ x3)), (4, .int (nZ x4))]) dX10_goes_269 (List.Mem.tail _ (List.Mem.tail _ (List.Mem.tail _ (List.Mem.tail _ (List.Mem.tail _ (List.Mem.tail _ (List.Mem.head _))))))) (nZ_add _ _) (by decide) rfl ?_
    refine w_goto (tgt := 161) dX10_goes_272 rfl ?_
    exact w_weak (l' := [(0, .ref 76), (1, .int (nZ x1)), (2, .int (nZ x2)), (3, .int (nZ x3)), (4, .int (nZ x4)), (5, .int (nZ (x5 + 1)))]) (by intro q hq; simp only [List.mem_cons, List.not_mem_nil, or_false] at hq ⊢; rcases hq with rfl | rfl | rfl | rfl | rfl | rfl <;> simp) h
  · replace h := h.2 c9
    refine w_iload_n dX10_goes_237 rfl (List.Mem.tail _ (List.Mem.tail _ (List.Mem.tail _ (List.Mem.tail _ (List.Mem.head _))))) ?_
    refine w_aload_n dX10_goes_238 rfl (List.Mem.tail _ (List.Mem.head _)) ?_
    refine w_getR (ci := 10) (k := 26) (b := 189) dX10_goes_239 fl_10_52 (by decide) (gT hG rfl (lt_of rfl)) (gR hG (b := 189) rfl) ?_
    refine w_iload dX10_goes_242 (List.Mem.tail _ (List.Mem.tail _ (List.Mem.tail _ (List.Mem.tail _ (List.Mem.tail _ (List.Mem.tail _ (List.Mem.head _))))))) ?_
    obtain ⟨h9, h⟩ := h
    have hj8 := vin_lt2 (n := 70) h9 rfl
    refine i_aald (n := 70) (b := (190 + x5.toNat)) dX10_goes_244 (gT hG rfl (lt_of rfl)) (gL hG rfl) rx5 h9 (gR hG (rr_189 hj8)) ?_
    refine w_iconst (v := nZ 0) dX10_goes_245 (by decide) ?_
    refine i_iald (n := 4) dX10_goes_246 (gT hG (ro_189 _ hj8).1 (by have := hj8; omega)) (gL hG (ro_189 _ hj8).2) (by decide) (by decide) ?_
    refine w_bipush (v := nZ 60) dX10_goes_247 (by decide) ?_
    obtain ⟨h9, q9, h⟩ := h
    refine i_div dX10_goes_249 (rI_R _ _ _) (by decide) h9 ?_
    refine i_shr dX10_goes_250 ?_
    refine w_iconst (v := nZ 1) dX10_goes_251 (by decide) ?_
    refine i_and dX10_goes_252 ?_
    refine i_if_ne (tgt := 269) dX10_goes_253 rfl (zAnd_R _ _) (fun c9 => ?_) (fun c9 => ?_)
    · replace h := h.1 c9
      obtain ⟨q10, h⟩ := h
      refine w_iinc (v := nZ (x5 + 1)) (l' := [(5, .int (nZ (x5 + 1))), (6, .int (nZ z3)), (0, .ref 76), (1, .int (nZ x1)), (2, .int (nZ x2)), (3, .int (nZ x3)), (4, .int (nZ x4))]) dX10_goes_269 (List.Mem.tail _ (List.Mem.tail _ (List.Mem.tail _ (List.Mem.tail _ (List.Mem.tail _ (List.Mem.tail _ (List.Mem.head _))))))) (nZ_add _ _) (by decide) rfl ?_
      refine w_goto (tgt := 161) dX10_goes_272 rfl ?_
      exact w_weak (l' := [(0, .ref 76), (1, .int (nZ x1)), (2, .int (nZ x2)), (3, .int (nZ x3)), (4, .int (nZ x4)), (5, .int (nZ (x5 + 1)))]) (by intro q hq; simp only [List.mem_cons, List.not_mem_nil, or_false] at hq ⊢; rcases hq with rfl | rfl | rfl | rfl | rfl | rfl <;> simp) h
    · replace h := h.2 c9
      refine w_aload_n dX10_goes_256 rfl (List.Mem.tail _ (List.Mem.head _)) ?_
      refine w_aload_n dX10_goes_257 rfl (List.Mem.tail _ (List.Mem.head _)) ?_
      refine w_getR (ci := 10) (k := 26) (b := 189) dX10_goes_258 fl_10_52 (by decide) (gT hG rfl (lt_of rfl)) (gR hG (b := 189) rfl) ?_
      refine w_iload dX10_goes_261 (List.Mem.tail _ (List.Mem.tail _ (List.Mem.tail _ (List.Mem.tail _ (List.Mem.tail _ (List.Mem.tail _ (List.Mem.head _))))))) ?_
      obtain ⟨h9, h⟩ := h
      have hj11 := vin_lt2 (n := 70) h9 rfl
      refine i_aald (n := 70) (b := (190 + x5.toNat)) dX10_goes_263 (gT hG rfl (lt_of rfl)) (gL hG rfl) rx5 h9 (gR hG (rr_189 hj11)) ?_
      refine w_iload dX10_goes_264 (List.Mem.head _) ?_
      obtain ⟨σ12, hc14, hG13, h⟩ := h
      refine w_callV dX10_goes_266 ml_10_261 ⟨ok_X10_counts, vi_X10_counts⟩ hs_X10_counts (As := [.ref (190 + x5.toNat), .int (nZ z3)]) rfl rfl (gT hG rfl (lt_of rfl)) (Nat.le_of_ble_eq_true rfl) hc14 ?_
      show wp C 10 cX10_goes 7 none false [] sc P 269 [(6, .int (nZ z3)), (0, .ref 76), (1, .int (nZ x1)), (2, .int (nZ x2)), (3, .int (nZ x3)), (4, .int (nZ x4)), (5, .int (nZ x5))] [] σ12
      obtain ⟨q16, h⟩ := h
      refine w_iinc (v := nZ (x5 + 1)) (l' := [(5, .int (nZ (x5 + 1))), (6, .int (nZ z3)), (0, .ref 76), (1, .int (nZ x1)), (2, .int (nZ x2)), (3, .int (nZ x3)), (4, .int (nZ x4))]) dX10_goes_269 (List.Mem.tail _ (List.Mem.tail _ (List.Mem.tail _ (List.Mem.tail _ (List.Mem.tail _ (List.Mem.tail _ (List.Mem.head _))))))) (nZ_add _ _) (by decide) rfl ?_
      refine w_goto (tgt := 161) dX10_goes_272 rfl ?_
      exact w_weak (l' := [(0, .ref 76), (1, .int (nZ x1)), (2, .int (nZ x2)), (3, .int (nZ x3)), (4, .int (nZ x4)), (5, .int (nZ (x5 + 1)))]) (by intro q hq; simp only [List.mem_cons, List.not_mem_nil, or_false] at hq ⊢; rcases hq with rfl | rfl | rfl | rfl | rfl | rfl <;> simp) h
theorem dX10_counts_0 : decode cX10_counts 0 = .ok (.iconst 0, 1) := by decide +kernel
theorem dX10_counts_1 : decode cX10_counts 1 = .ok (.istore_n 3, 1) := by decide +kernel
theorem dX10_counts_2 : decode cX10_counts 2 = .ok (.iload_n 3, 1) := by decide +kernel
theorem dX10_counts_3 : decode cX10_counts 3 = .ok (.aload_n 0, 1) := by decide +kernel
theorem dX10_counts_4 : decode cX10_counts 4 = .ok (.getfield 218, 3) := by decide +kernel
theorem dX10_counts_7 : decode cX10_counts 7 = .ok (.if_icmp .ge 236, 3) := by decide +kernel
theorem dX10_counts_10 : decode cX10_counts 10 = .ok (.aload_n 0, 1) := by decide +kernel
theorem dX10_counts_11 : decode cX10_counts 11 = .ok (.getfield 55, 3) := by decide +kernel
theorem dX10_counts_14 : decode cX10_counts 14 = .ok (.aload_n 1, 1) := by decide +kernel
theorem dX10_counts_15 : decode cX10_counts 15 = .ok (.iconst 2, 1) := by decide +kernel
theorem dX10_counts_16 : decode cX10_counts 16 = .ok (.iaload, 1) := by decide +kernel
theorem dX10_counts_17 : decode cX10_counts 17 = .ok (.aaload, 1) := by decide +kernel
theorem dX10_counts_18 : decode cX10_counts 18 = .ok (.iload_n 3, 1) := by decide +kernel
theorem dX10_counts_19 : decode cX10_counts 19 = .ok (.iaload, 1) := by decide +kernel
theorem dX10_counts_20 : decode cX10_counts 20 = .ok (.istore 4, 2) := by decide +kernel
theorem dX10_counts_22 : decode cX10_counts 22 = .ok (.iload 4, 2) := by decide +kernel
theorem dX10_counts_24 : decode cX10_counts 24 = .ok (.ifCond .ne 6, 3) := by decide +kernel
theorem dX10_counts_27 : decode cX10_counts 27 = .ok (.goto 210, 3) := by decide +kernel
theorem dX10_counts_30 : decode cX10_counts 30 = .ok (.aload_n 0, 1) := by decide +kernel
theorem dX10_counts_31 : decode cX10_counts 31 = .ok (.getfield 67, 3) := by decide +kernel
theorem dX10_counts_34 : decode cX10_counts 34 = .ok (.iload_n 3, 1) := by decide +kernel
theorem dX10_counts_35 : decode cX10_counts 35 = .ok (.dup2, 1) := by decide +kernel
theorem dX10_counts_36 : decode cX10_counts 36 = .ok (.iaload, 1) := by decide +kernel
theorem dX10_counts_37 : decode cX10_counts 37 = .ok (.iload_n 2, 1) := by decide +kernel
theorem dX10_counts_38 : decode cX10_counts 38 = .ok (.iadd, 1) := by decide +kernel
theorem dX10_counts_39 : decode cX10_counts 39 = .ok (.iastore, 1) := by decide +kernel
theorem dX10_counts_40 : decode cX10_counts 40 = .ok (.iconst 0, 1) := by decide +kernel
theorem dX10_counts_41 : decode cX10_counts 41 = .ok (.istore 5, 2) := by decide +kernel
theorem dX10_counts_43 : decode cX10_counts 43 = .ok (.iload 5, 2) := by decide +kernel
theorem dX10_counts_45 : decode cX10_counts 45 = .ok (.aload_n 0, 1) := by decide +kernel
theorem dX10_counts_46 : decode cX10_counts 46 = .ok (.getfield 218, 3) := by decide +kernel
theorem dX10_counts_49 : decode cX10_counts 49 = .ok (.if_icmp .ge 188, 3) := by decide +kernel
theorem dX10_counts_52 : decode cX10_counts 52 = .ok (.iload 4, 2) := by decide +kernel
theorem dX10_counts_54 : decode cX10_counts 54 = .ok (.iload 5, 2) := by decide +kernel
theorem dX10_counts_56 : decode cX10_counts 56 = .ok (.ishr, 1) := by decide +kernel
theorem dX10_counts_57 : decode cX10_counts 57 = .ok (.iconst 1, 1) := by decide +kernel
theorem dX10_counts_58 : decode cX10_counts 58 = .ok (.iand, 1) := by decide +kernel
theorem dX10_counts_59 : decode cX10_counts 59 = .ok (.ifCond .ne 6, 3) := by decide +kernel
theorem dX10_counts_62 : decode cX10_counts 62 = .ok (.goto 169, 3) := by decide +kernel
theorem dX10_counts_65 : decode cX10_counts 65 = .ok (.aload_n 0, 1) := by decide +kernel
theorem dX10_counts_66 : decode cX10_counts 66 = .ok (.getfield 31, 3) := by decide +kernel
theorem dX10_counts_69 : decode cX10_counts 69 = .ok (.iload 5, 2) := by decide +kernel
theorem dX10_counts_71 : decode cX10_counts 71 = .ok (.aaload, 1) := by decide +kernel
theorem dX10_counts_72 : decode cX10_counts 72 = .ok (.bipush 6, 2) := by decide +kernel
theorem dX10_counts_74 : decode cX10_counts 74 = .ok (.iaload, 1) := by decide +kernel
theorem dX10_counts_75 : decode cX10_counts 75 = .ok (.iconst 1, 1) := by decide +kernel
theorem dX10_counts_76 : decode cX10_counts 76 = .ok (.if_icmp .ne 19, 3) := by decide +kernel
theorem dX10_counts_79 : decode cX10_counts 79 = .ok (.aload_n 1, 1) := by decide +kernel
theorem dX10_counts_80 : decode cX10_counts 80 = .ok (.iconst 0, 1) := by decide +kernel
theorem dX10_counts_81 : decode cX10_counts 81 = .ok (.iaload, 1) := by decide +kernel
theorem dX10_counts_82 : decode cX10_counts 82 = .ok (.aload_n 0, 1) := by decide +kernel
theorem dX10_counts_83 : decode cX10_counts 83 = .ok (.getfield 23, 3) := by decide +kernel
theorem dX10_counts_86 : decode cX10_counts 86 = .ok (.iconst 4, 1) := by decide +kernel
theorem dX10_counts_87 : decode cX10_counts 87 = .ok (.iaload, 1) := by decide +kernel
theorem dX10_counts_88 : decode cX10_counts 88 = .ok (.if_icmp .lt 7, 3) := by decide +kernel
theorem dX10_counts_91 : decode cX10_counts 91 = .ok (.iconst 1, 1) := by decide +kernel
theorem dX10_counts_92 : decode cX10_counts 92 = .ok (.goto 4, 3) := by decide +kernel
theorem dX10_counts_95 : decode cX10_counts 95 = .ok (.iconst 0, 1) := by decide +kernel
theorem dX10_counts_96 : decode cX10_counts 96 = .ok (.istore 6, 2) := by decide +kernel
theorem dX10_counts_98 : decode cX10_counts 98 = .ok (.iload_n 2, 1) := by decide +kernel
theorem dX10_counts_99 : decode cX10_counts 99 = .ok (.aload_n 1, 1) := by decide +kernel
theorem dX10_counts_100 : decode cX10_counts 100 = .ok (.iconst 3, 1) := by decide +kernel
theorem dX10_counts_101 : decode cX10_counts 101 = .ok (.iaload, 1) := by decide +kernel
theorem dX10_counts_102 : decode cX10_counts 102 = .ok (.imul, 1) := by decide +kernel
theorem dX10_counts_103 : decode cX10_counts 103 = .ok (.iload 6, 2) := by decide +kernel
theorem dX10_counts_105 : decode cX10_counts 105 = .ok (.ifCond .eq 7, 3) := by decide +kernel
theorem dX10_counts_108 : decode cX10_counts 108 = .ok (.iconst 2, 1) := by decide +kernel
theorem dX10_counts_109 : decode cX10_counts 109 = .ok (.goto 4, 3) := by decide +kernel
theorem dX10_counts_112 : decode cX10_counts 112 = .ok (.iconst 1, 1) := by decide +kernel
theorem dX10_counts_113 : decode cX10_counts 113 = .ok (.imul, 1) := by decide +kernel
theorem dX10_counts_114 : decode cX10_counts 114 = .ok (.istore 7, 2) := by decide +kernel
theorem dX10_counts_116 : decode cX10_counts 116 = .ok (.aload_n 0, 1) := by decide +kernel
theorem dX10_counts_117 : decode cX10_counts 117 = .ok (.getfield 61, 3) := by decide +kernel
theorem dX10_counts_120 : decode cX10_counts 120 = .ok (.iload_n 3, 1) := by decide +kernel
theorem dX10_counts_121 : decode cX10_counts 121 = .ok (.aaload, 1) := by decide +kernel
theorem dX10_counts_122 : decode cX10_counts 122 = .ok (.iload 5, 2) := by decide +kernel
theorem dX10_counts_124 : decode cX10_counts 124 = .ok (.dup2, 1) := by decide +kernel
theorem dX10_counts_125 : decode cX10_counts 125 = .ok (.iaload, 1) := by decide +kernel
theorem dX10_counts_126 : decode cX10_counts 126 = .ok (.iload_n 2, 1) := by decide +kernel
theorem dX10_counts_127 : decode cX10_counts 127 = .ok (.iadd, 1) := by decide +kernel
theorem dX10_counts_128 : decode cX10_counts 128 = .ok (.iastore, 1) := by decide +kernel
theorem dX10_counts_129 : decode cX10_counts 129 = .ok (.aload_n 0, 1) := by decide +kernel
theorem dX10_counts_130 : decode cX10_counts 130 = .ok (.getfield 64, 3) := by decide +kernel
theorem dX10_counts_133 : decode cX10_counts 133 = .ok (.iload_n 3, 1) := by decide +kernel
theorem dX10_counts_134 : decode cX10_counts 134 = .ok (.aaload, 1) := by decide +kernel
theorem dX10_counts_135 : decode cX10_counts 135 = .ok (.iload 5, 2) := by decide +kernel
theorem dX10_counts_137 : decode cX10_counts 137 = .ok (.dup2, 1) := by decide +kernel
theorem dX10_counts_138 : decode cX10_counts 138 = .ok (.iaload, 1) := by decide +kernel
theorem dX10_counts_139 : decode cX10_counts 139 = .ok (.iload 4, 2) := by decide +kernel
theorem dX10_counts_141 : decode cX10_counts 141 = .ok (.invokestatic 265, 3) := by decide +kernel
theorem dX10_counts_144 : decode cX10_counts 144 = .ok (.iconst 1, 1) := by decide +kernel
theorem dX10_counts_145 : decode cX10_counts 145 = .ok (.if_icmp .ne 7, 3) := by decide +kernel
theorem dX10_counts_148 : decode cX10_counts 148 = .ok (.iload_n 2, 1) := by decide +kernel
theorem dX10_counts_149 : decode cX10_counts 149 = .ok (.goto 4, 3) := by decide +kernel
theorem dX10_counts_152 : decode cX10_counts 152 = .ok (.iconst 0, 1) := by decide +kernel
theorem dX10_counts_153 : decode cX10_counts 153 = .ok (.iadd, 1) := by decide +kernel
theorem dX10_counts_154 : decode cX10_counts 154 = .ok (.iastore, 1) := by decide +kernel
theorem dX10_counts_155 : decode cX10_counts 155 = .ok (.aload_n 0, 1) := by decide +kernel
theorem dX10_counts_156 : decode cX10_counts 156 = .ok (.getfield 58, 3) := by decide +kernel
theorem dX10_counts_159 : decode cX10_counts 159 = .ok (.iload 5, 2) := by decide +kernel
theorem dX10_counts_161 : decode cX10_counts 161 = .ok (.aaload, 1) := by decide +kernel
theorem dX10_counts_162 : decode cX10_counts 162 = .ok (.iload_n 3, 1) := by decide +kernel
theorem dX10_counts_163 : decode cX10_counts 163 = .ok (.dup2, 1) := by decide +kernel
theorem dX10_counts_164 : decode cX10_counts 164 = .ok (.iaload, 1) := by decide +kernel
theorem dX10_counts_165 : decode cX10_counts 165 = .ok (.iload 7, 2) := by decide +kernel
theorem dX10_counts_167 : decode cX10_counts 167 = .ok (.iadd, 1) := by decide +kernel
theorem dX10_counts_168 : decode cX10_counts 168 = .ok (.iastore, 1) := by decide +kernel
theorem dX10_counts_169 : decode cX10_counts 169 = .ok (.aload_n 0, 1) := by decide +kernel
theorem dX10_counts_170 : decode cX10_counts 170 = .ok (.dup, 1) := by decide +kernel
theorem dX10_counts_171 : decode cX10_counts 171 = .ok (.getfield 252, 3) := by decide +kernel
theorem dX10_counts_174 : decode cX10_counts 174 = .ok (.iload 7, 2) := by decide +kernel
theorem dX10_counts_176 : decode cX10_counts 176 = .ok (.iadd, 1) := by decide +kernel
theorem dX10_counts_177 : decode cX10_counts 177 = .ok (.putfield 252, 3) := by decide +kernel
theorem dX10_counts_180 : decode cX10_counts 180 = .ok (.aload_n 0, 1) := by decide +kernel
theorem dX10_counts_181 : decode cX10_counts 181 = .ok (.dup, 1) := by decide +kernel
theorem dX10_counts_182 : decode cX10_counts 182 = .ok (.getfield 255, 3) := by decide +kernel
theorem dX10_counts_185 : decode cX10_counts 185 = .ok (.iload 6, 2) := by decide +kernel
theorem dX10_counts_187 : decode cX10_counts 187 = .ok (.ifCond .eq 10, 3) := by decide +kernel
theorem dX10_counts_190 : decode cX10_counts 190 = .ok (.iload 7, 2) := by decide +kernel
theorem dX10_counts_192 : decode cX10_counts 192 = .ok (.iconst 2, 1) := by decide +kernel
theorem dX10_counts_193 : decode cX10_counts 193 = .ok (.idiv, 1) := by decide +kernel
theorem dX10_counts_194 : decode cX10_counts 194 = .ok (.goto 4, 3) := by decide +kernel
theorem dX10_counts_197 : decode cX10_counts 197 = .ok (.iconst 0, 1) := by decide +kernel
theorem dX10_counts_198 : decode cX10_counts 198 = .ok (.iadd, 1) := by decide +kernel
theorem dX10_counts_199 : decode cX10_counts 199 = .ok (.putfield 255, 3) := by decide +kernel
theorem dX10_counts_202 : decode cX10_counts 202 = .ok (.aload_n 0, 1) := by decide +kernel
theorem dX10_counts_203 : decode cX10_counts 203 = .ok (.getfield 70, 3) := by decide +kernel
theorem dX10_counts_206 : decode cX10_counts 206 = .ok (.aload_n 1, 1) := by decide +kernel
theorem dX10_counts_207 : decode cX10_counts 207 = .ok (.iconst 0, 1) := by decide +kernel
theorem dX10_counts_208 : decode cX10_counts 208 = .ok (.iaload, 1) := by decide +kernel
theorem dX10_counts_209 : decode cX10_counts 209 = .ok (.bipush 60, 2) := by decide +kernel
theorem dX10_counts_211 : decode cX10_counts 211 = .ok (.idiv, 1) := by decide +kernel
theorem dX10_counts_212 : decode cX10_counts 212 = .ok (.dup2, 1) := by decide +kernel
theorem dX10_counts_213 : decode cX10_counts 213 = .ok (.iaload, 1) := by decide +kernel
theorem dX10_counts_214 : decode cX10_counts 214 = .ok (.iload 7, 2) := by decide +kernel
theorem dX10_counts_216 : decode cX10_counts 216 = .ok (.iadd, 1) := by decide +kernel
theorem dX10_counts_217 : decode cX10_counts 217 = .ok (.iastore, 1) := by decide +kernel
theorem dX10_counts_218 : decode cX10_counts 218 = .ok (.aload_n 0, 1) := by decide +kernel
theorem dX10_counts_219 : decode cX10_counts 219 = .ok (.getfield 73, 3) := by decide +kernel
theorem dX10_counts_222 : decode cX10_counts 222 = .ok (.aload_n 1, 1) := by decide +kernel
theorem dX10_counts_223 : decode cX10_counts 223 = .ok (.iconst 2, 1) := by decide +kernel
theorem dX10_counts_224 : decode cX10_counts 224 = .ok (.iaload, 1) := by decide +kernel
theorem dX10_counts_225 : decode cX10_counts 225 = .ok (.dup2, 1) := by decide +kernel
theorem dX10_counts_226 : decode cX10_counts 226 = .ok (.iaload, 1) := by decide +kernel
theorem dX10_counts_227 : decode cX10_counts 227 = .ok (.iload 7, 2) := by decide +kernel
theorem dX10_counts_229 : decode cX10_counts 229 = .ok (.iadd, 1) := by decide +kernel
theorem dX10_counts_230 : decode cX10_counts 230 = .ok (.iastore, 1) := by decide +kernel
theorem dX10_counts_231 : decode cX10_counts 231 = .ok (.iinc 5 1, 3) := by decide +kernel
theorem dX10_counts_234 : decode cX10_counts 234 = .ok (.goto (-191), 3) := by decide +kernel
theorem dX10_counts_237 : decode cX10_counts 237 = .ok (.iinc 3 1, 3) := by decide +kernel
theorem dX10_counts_240 : decode cX10_counts 240 = .ok (.goto (-238), 3) := by decide +kernel
theorem dX10_counts_243 : decode cX10_counts 243 = .ok (.return_, 1) := by decide +kernel
def L_X10_counts_2 (C : aM → List Value → aH → aO → aH → Prop) (sc : Nat × (Nat → Int32)) (P : aO → aH → Prop) (j : Nat) (x2 : Int) (x3 : Int) (σ : aH) : Prop :=
    wp C 10 cX10_counts 8 none false [] sc P 2 [(0, .ref 76), (1, .ref (190 + j)), (2, .int (nZ x2)), (3, .int (nZ x3))] [] σ
def L_X10_counts_43 (C : aM → List Value → aH → aO → aH → Prop) (sc : Nat × (Nat → Int32)) (P : aO → aH → Prop) (j : Nat) (x2 : Int) (x3 : Int) (x4 : Int) (x5 : Int) (σ : aH) : Prop :=
    wp C 10 cX10_counts 8 none false [] sc P 43 [(0, .ref 76), (1, .ref (190 + j)), (2, .int (nZ x2)), (3, .int (nZ x3)), (4, .int (nZ x4)), (5, .int (nZ x5))] [] σ
def L_X10_counts_113 (C : aM → List Value → aH → aO → aH → Prop) (sc : Nat × (Nat → Int32)) (P : aO → aH → Prop) (j : Nat) (x2 : Int) (x3 : Int) (x4 : Int) (x5 : Int) (x6 : Int) (s0 : Int) (s1 : Int) (σ : aH) : Prop :=
    wp C 10 cX10_counts 8 none false [] sc P 113 [(0, .ref 76), (1, .ref (190 + j)), (2, .int (nZ x2)), (3, .int (nZ x3)), (4, .int (nZ x4)), (5, .int (nZ x5)), (6, .int (nZ x6))] [.int (nZ s0), .int (nZ s1)] σ
def L_X10_counts_153 (C : aM → List Value → aH → aO → aH → Prop) (sc : Nat × (Nat → Int32)) (P : aO → aH → Prop) (j : Nat) (js3 : Nat) (x2 : Int) (x3 : Int) (x4 : Int) (x5 : Int) (x6 : Int) (x7 : Int) (s0 : Int) (s1 : Int) (s2 : Int) (σ : aH) : Prop :=
    wp C 10 cX10_counts 8 none false [] sc P 153 [(0, .ref 76), (1, .ref (190 + j)), (2, .int (nZ x2)), (3, .int (nZ x3)), (4, .int (nZ x4)), (5, .int (nZ x5)), (6, .int (nZ x6)), (7, .int (nZ x7))] [.int (nZ s0), .int (nZ s1), .int (nZ s2), .ref (302 + js3)] σ
def L_X10_counts_198 (C : aM → List Value → aH → aO → aH → Prop) (sc : Nat × (Nat → Int32)) (P : aO → aH → Prop) (j : Nat) (x2 : Int) (x3 : Int) (x4 : Int) (x5 : Int) (x6 : Int) (x7 : Int) (s0 : Int) (s1 : Int) (σ : aH) : Prop :=
    wp C 10 cX10_counts 8 none false [] sc P 198 [(0, .ref 76), (1, .ref (190 + j)), (2, .int (nZ x2)), (3, .int (nZ x3)), (4, .int (nZ x4)), (5, .int (nZ x5)), (6, .int (nZ x6)), (7, .int (nZ x7))] [.int (nZ s0), .int (nZ s1), .ref 76] σ
set_option maxRecDepth 10000 in
theorem t_X10_counts {sc : Nat × (Nat → Int32)} {d : Nat} {Q : aO → aH → Prop} {σ : aH} {u : Nat} {j : Nat} {x2 : Int} (hG : G σ u) (hj : j < 70) (rx2 : inR x2)
    (h : L_X10_counts_2 (Ev sc d) sc Q j x2 0 σ) :
    T sc (d + 1) mX10_counts [.ref 76, .ref (190 + j), .int (nZ x2)] σ Q := by
  refine T.of (c := 10) (code := cX10_counts) (mL := 8) (rt := none) (ini := false) (l := [(0, .ref 76), (1, .ref (190 + j)), (2, .int (nZ x2))]) rfl rfl rfl rfl (by decide) hs_X10_counts rfl rfl ?_
  refine w_iconst (v := nZ 0) dX10_counts_0 (by decide) ?_
  refine w_istore_n (l' := [(3, .int (nZ 0)), (0, .ref 76), (1, .ref (190 + j)), (2, .int (nZ x2))]) dX10_counts_1 rfl (by decide) rfl ?_
  exact w_weak (l' := [(0, .ref 76), (1, .ref (190 + j)), (2, .int (nZ x2)), (3, .int (nZ 0))]) (by intro q hq; simp only [List.mem_cons, List.not_mem_nil, or_false] at hq ⊢; rcases hq with rfl | rfl | rfl | rfl <;> simp) h
set_option maxRecDepth 10000 in
theorem v_X10_counts_2 {C : aM → List Value → aH → aO → aH → Prop} {sc : Nat × (Nat → Int32)} {P : aO → aH → Prop} {σ : aH} {u : Nat} {j : Nat} {x2 : Int} {x3 : Int} (hG : G σ u) (hj : j < 70) (rx2 : inR x2) (rx3 : inR x3)
    (h : (((rI σ 76 28) ≤ x3 → P (.inl none) σ) ∧ (¬ ((rI σ 76 28) ≤ x3) → ((0 ≤ (rI σ (190 + j) 2) ∧ (rI σ (190 + j) 2) < 20) ∧ ((0 ≤ x3 ∧ x3 < 9) ∧ (∀ z2 : Int, z2 = (rI σ (261 + ((rI σ (190 + j) 2).toNat)) x3) → ((¬ z2 = 0 → ((0 ≤ x3 ∧ x3 < 9) ∧ (inR ((rI σ 311 x3) + x2) ∧ ((0 ≤ x3 ∧ x3 < 9) ∧ (∀ σ6 : aH, wI σ 311 x3 ((rI σ 311 x3) + x2) = σ6 → L_X10_counts_43 C sc P j x2 x3 z2 0 σ6))))) ∧ (z2 = 0 → (inR (x3 + 1) ∧ L_X10_counts_2 C sc P j x2 (x3 + 1) σ))))))))) :
    L_X10_counts_2 C sc P j x2 x3 σ := by
  unfold L_X10_counts_2
  refine w_iload_n dX10_counts_2 rfl (List.Mem.tail _ (List.Mem.tail _ (List.Mem.tail _ (List.Mem.head _)))) ?_
  refine w_aload_n dX10_counts_3 rfl (List.Mem.head _) ?_
  refine i_getI (ci := 10) 28 rfl dX10_counts_4 fl_10_218 (by decide) (gT hG rfl (lt_of rfl)) ?_
  refine i_cmp_ge (tgt := 243) dX10_counts_7 rfl rx3 (rI_R _ _ _) (fun c9 => ?_) (fun c9 => ?_)
  · replace h := h.1 c9
    exact w_vret dX10_counts_243 rfl h
  · replace h := h.2 c9
    refine w_aload_n dX10_counts_10 rfl (List.Mem.head _) ?_
    refine w_getR (ci := 10) (k := 29) (b := 260) dX10_counts_11 fl_10_55 (by decide) (gT hG rfl (lt_of rfl)) (gR hG (b := 260) rfl) ?_
    refine w_aload_n dX10_counts_14 rfl (List.Mem.tail _ (List.Mem.head _)) ?_
    refine w_iconst (v := nZ 2) dX10_counts_15 (by decide) ?_
    refine i_iald (n := 4) dX10_counts_16 (gT hG (ro_189 _ hj).1 (by have := hj; omega)) (gL hG (ro_189 _ hj).2) (by decide) (by decide) ?_
    obtain ⟨h9, h⟩ := h
    have hj1 := vin_lt2 (n := 20) h9 rfl
    refine i_aald (n := 20) (b := (261 + ((rI σ (190 + j) 2).toNat))) dX10_counts_17 (gT hG rfl (lt_of rfl)) (gL hG rfl) (rI_R _ _ _) h9 (gR hG (rr_260 hj1)) ?_
    refine w_iload_n dX10_counts_18 rfl (List.Mem.tail _ (List.Mem.tail _ (List.Mem.tail _ (List.Mem.head _)))) ?_
    obtain ⟨h9, h⟩ := h
    refine i_iald (n := 9) dX10_counts_19 (gT hG (ro_260 _ hj1).1 (by have := hj1; omega)) (gL hG (ro_260 _ hj1).2) rx3 h9 ?_
    refine top_i (fun z2 ez3 => ?_)
    have rz4 : inR z2 := ez3 ▸ (rI_R _ _ _)
    replace h := h z2 ez3
    refine w_istore (l' := [(4, .int (nZ z2)), (0, .ref 76), (1, .ref (190 + j)), (2, .int (nZ x2)), (3, .int (nZ x3))]) dX10_counts_20 (by decide) rfl ?_
    refine w_iload dX10_counts_22 (List.Mem.head _) ?_
    refine i_if_ne (tgt := 30) dX10_counts_24 rfl rz4 (fun c9 => ?_) (fun c9 => ?_)
    · replace h := h.1 c9
      refine w_aload_n dX10_counts_30 rfl (List.Mem.tail _ (List.Mem.head _)) ?_
      refine w_getR (ci := 10) (k := 33) (b := 311) dX10_counts_31 fl_10_67 (by decide) (gT hG rfl (lt_of rfl)) (gR hG (b := 311) rfl) ?_
      refine w_iload_n dX10_counts_34 rfl (List.Mem.tail _ (List.Mem.tail _ (List.Mem.tail _ (List.Mem.tail _ (List.Mem.head _))))) ?_
      refine w_dup2 dX10_counts_35 rfl rfl ?_
      obtain ⟨h9, h⟩ := h
      refine i_iald (n := 9) dX10_counts_36 (gT hG rfl (lt_of rfl)) (gL hG rfl) rx3 h9 ?_
      refine w_iload_n dX10_counts_37 rfl (List.Mem.tail _ (List.Mem.tail _ (List.Mem.tail _ (List.Mem.head _)))) ?_
      obtain ⟨q5, h⟩ := h
      refine i_add dX10_counts_38 ?_
      obtain ⟨h9, h⟩ := h
      refine i_iast (n := 9) dX10_counts_39 (gT hG rfl (lt_of rfl)) (gL hG rfl) rx3 h9 (fun σ6 eσ7 => ?_)
      replace h := h σ6 eσ7
      have hG8 : G σ6 u := eσ7 ▸ G.wI hG
      refine w_iconst (v := nZ 0) dX10_counts_40 (by decide) ?_
      refine w_istore (l' := [(5, .int (nZ 0)), (4, .int (nZ z2)), (0, .ref 76), (1, .ref (190 + j)), (2, .int (nZ x2)), (3, .int (nZ x3))]) dX10_counts_41 (by decide) rfl ?_
      exact w_weak (l' := [(0, .ref 76), (1, .ref (190 + j)), (2, .int (nZ x2)), (3, .int (nZ x3)), (4, .int (nZ z2)), (5, .int (nZ 0))]) (by intro q hq; simp only [List.mem_cons, List.not_mem_nil, or_false] at hq ⊢; rcases hq with rfl | rfl | rfl | rfl | rfl | rfl <;> simp) h
    · replace h := h.2 c9
      refine w_goto (tgt := 237) dX10_counts_27 rfl ?_
      obtain ⟨q9, h⟩ := h
      refine w_iinc (v := nZ (x3 + 1)) (l' := [(3, .int (nZ (x3 + 1))), (4, .int (nZ z2)), (0, .ref 76), (1, .ref (190 + j)), (2, .int (nZ x2))]) dX10_counts_237 (List.Mem.tail _ (List.Mem.tail _ (List.Mem.tail _ (List.Mem.tail _ (List.Mem.head _))))) (nZ_add _ _) (by decide) rfl ?_
      refine w_goto (tgt := 2) dX10_counts_240 rfl ?_
      exact w_weak (l' := [(0, .ref 76), (1, .ref (190 + j)), (2, .int (nZ x2)), (3, .int (nZ (x3 + 1)))]) (by intro q hq; simp only [List.mem_cons, List.not_mem_nil, or_false] at hq ⊢; rcases hq with rfl | rfl | rfl | rfl <;> simp) h
set_option maxRecDepth 10000 in
theorem v_X10_counts_43 {C : aM → List Value → aH → aO → aH → Prop} {sc : Nat × (Nat → Int32)} {P : aO → aH → Prop} {σ : aH} {u : Nat} {j : Nat} {x2 : Int} {x3 : Int} {x4 : Int} {x5 : Int} (hG : G σ u) (hj : j < 70) (rx2 : inR x2) (rx3 : inR x3) (rx4 : inR x4) (rx5 : inR x5)
    (h : (((rI σ 76 28) ≤ x5 → (inR (x3 + 1) ∧ L_X10_counts_2 C sc P j x2 (x3 + 1) σ)) ∧ (¬ ((rI σ 76 28) ≤ x5) → ((¬ (zAnd (zShr x4 x5) 1) = 0 → ((0 ≤ x5 ∧ x5 < 9) ∧ ((¬ (rI σ (91 + x5.toNat) 6) = 1 → (inR (x2 * (rI σ (190 + j) 3)) ∧ L_X10_counts_113 C sc P j x2 x3 x4 x5 0 1 (x2 * (rI σ (190 + j) 3)) σ)) ∧ ((rI σ (91 + x5.toNat) 6) = 1 → (((rI σ (190 + j) 0) < (rI σ 80 4) → (inR (x2 * (rI σ (190 + j) 3)) ∧ L_X10_counts_113 C sc P j x2 x3 x4 x5 0 1 (x2 * (rI σ (190 + j) 3)) σ)) ∧ (¬ ((rI σ (190 + j) 0) < (rI σ 80 4)) → (inR (x2 * (rI σ (190 + j) 3)) ∧ L_X10_counts_113 C sc P j x2 x3 x4 x5 1 2 (x2 * (rI σ (190 + j) 3)) σ))))))) ∧ ((zAnd (zShr x4 x5) 1) = 0 → (inR (x5 + 1) ∧ L_X10_counts_43 C sc P j x2 x3 x4 (x5 + 1) σ)))))) :
    L_X10_counts_43 C sc P j x2 x3 x4 x5 σ := by
  unfold L_X10_counts_43
  refine w_iload dX10_counts_43 (List.Mem.tail _ (List.Mem.tail _ (List.Mem.tail _ (List.Mem.tail _ (List.Mem.tail _ (List.Mem.head _)))))) ?_
  refine w_aload_n dX10_counts_45 rfl (List.Mem.head _) ?_
  refine i_getI (ci := 10) 28 rfl dX10_counts_46 fl_10_218 (by decide) (gT hG rfl (lt_of rfl)) ?_
  refine i_cmp_ge (tgt := 237) dX10_counts_49 rfl rx5 (rI_R _ _ _) (fun c9 => ?_) (fun c9 => ?_)
  · replace h := h.1 c9
    obtain ⟨q1, h⟩ := h
    refine w_iinc (v := nZ (x3 + 1)) (l' := [(3, .int (nZ (x3 + 1))), (0, .ref 76), (1, .ref (190 + j)), (2, .int (nZ x2)), (4, .int (nZ x4)), (5, .int (nZ x5))]) dX10_counts_237 (List.Mem.tail _ (List.Mem.tail _ (List.Mem.tail _ (List.Mem.head _)))) (nZ_add _ _) (by decide) rfl ?_
    refine w_goto (tgt := 2) dX10_counts_240 rfl ?_
    exact w_weak (l' := [(0, .ref 76), (1, .ref (190 + j)), (2, .int (nZ x2)), (3, .int (nZ (x3 + 1)))]) (by intro q hq; simp only [List.mem_cons, List.not_mem_nil, or_false] at hq ⊢; rcases hq with rfl | rfl | rfl | rfl <;> simp) h
  · replace h := h.2 c9
    refine w_iload dX10_counts_52 (List.Mem.tail _ (List.Mem.tail _ (List.Mem.tail _ (List.Mem.tail _ (List.Mem.head _))))) ?_
    refine w_iload dX10_counts_54 (List.Mem.tail _ (List.Mem.tail _ (List.Mem.tail _ (List.Mem.tail _ (List.Mem.tail _ (List.Mem.head _)))))) ?_
    refine i_shr dX10_counts_56 ?_
    refine w_iconst (v := nZ 1) dX10_counts_57 (by decide) ?_
    refine i_and dX10_counts_58 ?_
    refine i_if_ne (tgt := 65) dX10_counts_59 rfl (zAnd_R _ _) (fun c9 => ?_) (fun c9 => ?_)
    · replace h := h.1 c9
      refine w_aload_n dX10_counts_65 rfl (List.Mem.head _) ?_
      refine w_getR (ci := 10) (k := 13) (b := 90) dX10_counts_66 fl_10_31 (by decide) (gT hG rfl (lt_of rfl)) (gR hG (b := 90) rfl) ?_
      refine w_iload dX10_counts_69 (List.Mem.tail _ (List.Mem.tail _ (List.Mem.tail _ (List.Mem.tail _ (List.Mem.tail _ (List.Mem.head _)))))) ?_
      obtain ⟨h9, h⟩ := h
      have hj2 := vin_lt2 (n := 9) h9 rfl
      refine i_aald (n := 9) (b := (91 + x5.toNat)) dX10_counts_71 (gT hG rfl (lt_of rfl)) (gL hG rfl) rx5 h9 (gR hG (rr_90 hj2)) ?_
      refine w_bipush (v := nZ 6) dX10_counts_72 (by decide) ?_
      refine i_iald (n := 7) dX10_counts_74 (gT hG (ro_90 _ hj2).1 (by have := hj2; omega)) (gL hG (ro_90 _ hj2).2) (by decide) (by decide) ?_
      refine w_iconst (v := nZ 1) dX10_counts_75 (by decide) ?_
      refine i_cmp_ne (tgt := 95) dX10_counts_76 rfl (rI_R _ _ _) (by decide) (fun c9 => ?_) (fun c9 => ?_)
      · replace h := h.1 c9
        refine w_iconst (v := nZ 0) dX10_counts_95 (by decide) ?_
        refine w_istore (l' := [(6, .int (nZ 0)), (0, .ref 76), (1, .ref (190 + j)), (2, .int (nZ x2)), (3, .int (nZ x3)), (4, .int (nZ x4)), (5, .int (nZ x5))]) dX10_counts_96 (by decide) rfl ?_
        refine w_iload_n dX10_counts_98 rfl (List.Mem.tail _ (List.Mem.tail _ (List.Mem.tail _ (List.Mem.head _)))) ?_
        refine w_aload_n dX10_counts_99 rfl (List.Mem.tail _ (List.Mem.tail _ (List.Mem.head _))) ?_
        refine w_iconst (v := nZ 3) dX10_counts_100 (by decide) ?_
        refine i_iald (n := 4) dX10_counts_101 (gT hG (ro_189 _ hj).1 (by have := hj; omega)) (gL hG (ro_189 _ hj).2) (by decide) (by decide) ?_
        obtain ⟨q3, h⟩ := h
        refine i_mul dX10_counts_102 ?_
        refine w_iload dX10_counts_103 (List.Mem.head _) ?_
        refine i_if_eq (tgt := 112) dX10_counts_105 rfl (by decide) (fun _ => ?_) (fun c9 => False.elim (by revert c9; decide))
        refine w_iconst (v := nZ 1) dX10_counts_112 (by decide) ?_
        exact w_weak (l' := [(0, .ref 76), (1, .ref (190 + j)), (2, .int (nZ x2)), (3, .int (nZ x3)), (4, .int (nZ x4)), (5, .int (nZ x5)), (6, .int (nZ 0))]) (by intro q hq; simp only [List.mem_cons, List.not_mem_nil, or_false] at hq ⊢; rcases hq with rfl | rfl | rfl | rfl | rfl | rfl | rfl <;> simp) h
      · replace h := h.2 c9
        refine w_aload_n dX10_counts_79 rfl (List.Mem.tail _ (List.Mem.head _)) ?_
        refine w_iconst (v := nZ 0) dX10_counts_80 (by decide) ?_
        refine i_iald (n := 4) dX10_counts_81 (gT hG (ro_189 _ hj).1 (by have := hj; omega)) (gL hG (ro_189 _ hj).2) (by decide) (by decide) ?_
        refine w_aload_n dX10_counts_82 rfl (List.Mem.head _) ?_
        refine w_getR (ci := 10) (k := 11) (b := 80) dX10_counts_83 fl_10_23 (by decide) (gT hG rfl (lt_of rfl)) (gR hG (b := 80) rfl) ?_
        refine w_iconst (v := nZ 4) dX10_counts_86 (by decide) ?_
        refine i_iald (n := 8) dX10_counts_87 (gT hG rfl (lt_of rfl)) (gL hG rfl) (by decide) (by decide) ?_
        refine i_cmp_lt (tgt := 95) dX10_counts_88 rfl (rI_R _ _ _) (rI_R _ _ _) (fun c9 => ?_) (fun c9 => ?_)
        · replace h := h.1 c9
          refine w_iconst (v := nZ 0) dX10_counts_95 (by decide) ?_
          refine w_istore (l' := [(6, .int (nZ 0)), (0, .ref 76), (1, .ref (190 + j)), (2, .int (nZ x2)), (3, .int (nZ x3)), (4, .int (nZ x4)), (5, .int (nZ x5))]) dX10_counts_96 (by decide) rfl ?_
          refine w_iload_n dX10_counts_98 rfl (List.Mem.tail _ (List.Mem.tail _ (List.Mem.tail _ (List.Mem.head _)))) ?_
          refine w_aload_n dX10_counts_99 rfl (List.Mem.tail _ (List.Mem.tail _ (List.Mem.head _))) ?_
          refine w_iconst (v := nZ 3) dX10_counts_100 (by decide) ?_
          refine i_iald (n := 4) dX10_counts_101 (gT hG (ro_189 _ hj).1 (by have := hj; omega)) (gL hG (ro_189 _ hj).2) (by decide) (by decide) ?_
          obtain ⟨q4, h⟩ := h
          refine i_mul dX10_counts_102 ?_
          refine w_iload dX10_counts_103 (List.Mem.head _) ?_
          refine i_if_eq (tgt := 112) dX10_counts_105 rfl (by decide) (fun _ => ?_) (fun c9 => False.elim (by revert c9; decide))
          refine w_iconst (v := nZ 1) dX10_counts_112 (by decide) ?_
          exact w_weak (l' := [(0, .ref 76), (1, .ref (190 + j)), (2, .int (nZ x2)), (3, .int (nZ x3)), (4, .int (nZ x4)), (5, .int (nZ x5)), (6, .int (nZ 0))]) (by intro q hq; simp only [List.mem_cons, List.not_mem_nil, or_false] at hq ⊢; rcases hq with rfl | rfl | rfl | rfl | rfl | rfl | rfl <;> simp) h
        · replace h := h.2 c9
          refine w_iconst (v := nZ 1) dX10_counts_91 (by decide) ?_
          refine w_goto (tgt := 96) dX10_counts_92 rfl ?_
          refine w_istore (l' := [(6, .int (nZ 1)), (0, .ref 76), (1, .ref (190 + j)), (2, .int (nZ x2)), (3, .int (nZ x3)), (4, .int (nZ x4)), (5, .int (nZ x5))]) dX10_counts_96 (by decide) rfl ?_
          refine w_iload_n dX10_counts_98 rfl (List.Mem.tail _ (List.Mem.tail _ (List.Mem.tail _ (List.Mem.head _)))) ?_
          refine w_aload_n dX10_counts_99 rfl (List.Mem.tail _ (List.Mem.tail _ (List.Mem.head _))) ?_
          refine w_iconst (v := nZ 3) dX10_counts_100 (by decide) ?_
          refine i_iald (n := 4) dX10_counts_101 (gT hG (ro_189 _ hj).1 (by have := hj; omega)) (gL hG (ro_189 _ hj).2) (by decide) (by decide) ?_
          obtain ⟨q5, h⟩ := h
          refine i_mul dX10_counts_102 ?_
          refine w_iload dX10_counts_103 (List.Mem.head _) ?_
          refine i_if_eq (tgt := 112) dX10_counts_105 rfl (by decide) (fun c9 => False.elim (by revert c9; decide)) (fun _ => ?_)
          refine w_iconst (v := nZ 2) dX10_counts_108 (by decide) ?_
          refine w_goto (tgt := 113) dX10_counts_109 rfl ?_
          exact w_weak (l' := [(0, .ref 76), (1, .ref (190 + j)), (2, .int (nZ x2)), (3, .int (nZ x3)), (4, .int (nZ x4)), (5, .int (nZ x5)), (6, .int (nZ 1))]) (by intro q hq; simp only [List.mem_cons, List.not_mem_nil, or_false] at hq ⊢; rcases hq with rfl | rfl | rfl | rfl | rfl | rfl | rfl <;> simp) h
    · replace h := h.2 c9
      refine w_goto (tgt := 231) dX10_counts_62 rfl ?_
      obtain ⟨q6, h⟩ := h
      refine w_iinc (v := nZ (x5 + 1)) (l' := [(5, .int (nZ (x5 + 1))), (0, .ref 76), (1, .ref (190 + j)), (2, .int (nZ x2)), (3, .int (nZ x3)), (4, .int (nZ x4))]) dX10_counts_231 (List.Mem.tail _ (List.Mem.tail _ (List.Mem.tail _ (List.Mem.tail _ (List.Mem.tail _ (List.Mem.head _)))))) (nZ_add _ _) (by decide) rfl ?_
      refine w_goto (tgt := 43) dX10_counts_234 rfl ?_
      exact w_weak (l' := [(0, .ref 76), (1, .ref (190 + j)), (2, .int (nZ x2)), (3, .int (nZ x3)), (4, .int (nZ x4)), (5, .int (nZ (x5 + 1)))]) (by intro q hq; simp only [List.mem_cons, List.not_mem_nil, or_false] at hq ⊢; rcases hq with rfl | rfl | rfl | rfl | rfl | rfl <;> simp) h
set_option maxRecDepth 10000 in
theorem v_X10_counts_113 {C : aM → List Value → aH → aO → aH → Prop} {sc : Nat × (Nat → Int32)} {P : aO → aH → Prop} {σ : aH} {u : Nat} {j : Nat} {x2 : Int} {x3 : Int} {x4 : Int} {x5 : Int} {x6 : Int} {s0 : Int} {s1 : Int} (hG : G σ u) (hj : j < 70) (rx2 : inR x2) (rx3 : inR x3) (rx4 : inR x4) (rx5 : inR x5) (rx6 : inR x6) (rs0 : inR s0) (rs1 : inR s1)
    (h : (inR (s1 * s0) ∧ (∀ z2 : Int, z2 = (s1 * s0) → ((0 ≤ x3 ∧ x3 < 9) ∧ ((0 ≤ x5 ∧ x5 < 9) ∧ (inR ((rI σ (292 + x3.toNat) x5) + x2) ∧ ((0 ≤ x5 ∧ x5 < 9) ∧ (∀ σ7 : aH, wI σ (292 + x3.toNat) x5 ((rI σ (292 + x3.toNat) x5) + x2) = σ7 → ((0 ≤ x3 ∧ x3 < 9) ∧ ((0 ≤ x5 ∧ x5 < 9) ∧ (∃ (r15 : Int) (σ11 : aH), C mX10_ones [.int (nZ x4)] σ7 (.inl (some (.int (nZ r15)))) σ11 ∧ G σ11 u ∧ inR r15 ∧ ((¬ r15 = 1 → L_X10_counts_153 C sc P j x3.toNat x2 x3 x4 x5 x6 z2 0 (rI σ7 (302 + x3.toNat) x5) x5 σ11) ∧ (r15 = 1 → L_X10_counts_153 C sc P j x3.toNat x2 x3 x4 x5 x6 z2 x2 (rI σ7 (302 + x3.toNat) x5) x5 σ11))))))))))))) :
    L_X10_counts_113 C sc P j x2 x3 x4 x5 x6 s0 s1 σ := by
  unfold L_X10_counts_113
  obtain ⟨q1, h⟩ := h
  refine i_mul dX10_counts_113 ?_
  refine top_i (fun z2 ez3 => ?_)
  have rz4 : inR z2 := ez3 ▸ q1
  replace h := h z2 ez3
  refine w_istore (l' := [(7, .int (nZ z2)), (0, .ref 76), (1, .ref (190 + j)), (2, .int (nZ x2)), (3, .int (nZ x3)), (4, .int (nZ x4)), (5, .int (nZ x5)), (6, .int (nZ x6))]) dX10_counts_114 (by decide) rfl ?_
  refine w_aload_n dX10_counts_116 rfl (List.Mem.tail _ (List.Mem.head _)) ?_
  refine w_getR (ci := 10) (k := 31) (b := 291) dX10_counts_117 fl_10_61 (by decide) (gT hG rfl (lt_of rfl)) (gR hG (b := 291) rfl) ?_
  refine w_iload_n dX10_counts_120 rfl (List.Mem.tail _ (List.Mem.tail _ (List.Mem.tail _ (List.Mem.tail _ (List.Mem.head _))))) ?_
  obtain ⟨h9, h⟩ := h
  have hj5 := vin_lt2 (n := 9) h9 rfl
  refine i_aald (n := 9) (b := (292 + x3.toNat)) dX10_counts_121 (gT hG rfl (lt_of rfl)) (gL hG rfl) rx3 h9 (gR hG (rr_291 hj5)) ?_
  refine w_iload dX10_counts_122 (List.Mem.tail _ (List.Mem.tail _ (List.Mem.tail _ (List.Mem.tail _ (List.Mem.tail _ (List.Mem.tail _ (List.Mem.head _))))))) ?_
  refine w_dup2 dX10_counts_124 rfl rfl ?_
  obtain ⟨h9, h⟩ := h
  refine i_iald (n := 9) dX10_counts_125 (gT hG (ro_291 _ hj5).1 (by have := hj5; omega)) (gL hG (ro_291 _ hj5).2) rx5 h9 ?_
  refine w_iload_n dX10_counts_126 rfl (List.Mem.tail _ (List.Mem.tail _ (List.Mem.tail _ (List.Mem.head _)))) ?_
  obtain ⟨q6, h⟩ := h
  refine i_add dX10_counts_127 ?_
  obtain ⟨h9, h⟩ := h
  refine i_iast (n := 9) dX10_counts_128 (gT hG (ro_291 _ hj5).1 (by have := hj5; omega)) (gL hG (ro_291 _ hj5).2) rx5 h9 (fun σ7 eσ8 => ?_)
  replace h := h σ7 eσ8
  have hG9 : G σ7 u := eσ8 ▸ G.wI hG
  refine w_aload_n dX10_counts_129 rfl (List.Mem.tail _ (List.Mem.head _)) ?_
  refine w_getR (ci := 10) (k := 32) (b := 301) dX10_counts_130 fl_10_64 (by decide) (gT hG9 rfl (lt_of rfl)) (gR hG9 (b := 301) rfl) ?_
  refine w_iload_n dX10_counts_133 rfl (List.Mem.tail _ (List.Mem.tail _ (List.Mem.tail _ (List.Mem.tail _ (List.Mem.head _))))) ?_
  obtain ⟨h9, h⟩ := h
  have hj10 := vin_lt2 (n := 9) h9 rfl
  refine i_aald (n := 9) (b := (302 + x3.toNat)) dX10_counts_134 (gT hG9 rfl (lt_of rfl)) (gL hG9 rfl) rx3 h9 (gR hG9 (rr_301 hj10)) ?_
  refine w_iload dX10_counts_135 (List.Mem.tail _ (List.Mem.tail _ (List.Mem.tail _ (List.Mem.tail _ (List.Mem.tail _ (List.Mem.tail _ (List.Mem.head _))))))) ?_
  refine w_dup2 dX10_counts_137 rfl rfl ?_
  obtain ⟨h9, h⟩ := h
  refine i_iald (n := 9) dX10_counts_138 (gT hG9 (ro_301 _ hj10).1 (by have := hj10; omega)) (gL hG9 (ro_301 _ hj10).2) rx5 h9 ?_
  refine w_iload dX10_counts_139 (List.Mem.tail _ (List.Mem.tail _ (List.Mem.tail _ (List.Mem.tail _ (List.Mem.tail _ (List.Mem.head _)))))) ?_
  obtain ⟨r15, σ11, hc13, hG12, rr14, h⟩ := h
  refine w_callS dX10_counts_141 ml_10_265 ⟨ok_X10_ones, st_X10_ones⟩ hs_X10_ones (As := [.int (nZ x4)]) rfl rfl (Nat.le_of_ble_eq_true rfl) hc13 ?_
  show wp C 10 cX10_counts 8 none false [] sc P 144 [(7, .int (nZ z2)), (0, .ref 76), (1, .ref (190 + j)), (2, .int (nZ x2)), (3, .int (nZ x3)), (4, .int (nZ x4)), (5, .int (nZ x5)), (6, .int (nZ x6))] [.int (nZ r15), .int (nZ (rI σ7 (302 + x3.toNat) x5)), .int (nZ x5), .ref (302 + x3.toNat)] σ11
  refine w_iconst (v := nZ 1) dX10_counts_144 (by decide) ?_
  refine i_cmp_ne (tgt := 152) dX10_counts_145 rfl rr14 (by decide) (fun c9 => ?_) (fun c9 => ?_)
  · replace h := h.1 c9
    refine w_iconst (v := nZ 0) dX10_counts_152 (by decide) ?_
    exact w_weak (l' := [(0, .ref 76), (1, .ref (190 + j)), (2, .int (nZ x2)), (3, .int (nZ x3)), (4, .int (nZ x4)), (5, .int (nZ x5)), (6, .int (nZ x6)), (7, .int (nZ z2))]) (by intro q hq; simp only [List.mem_cons, List.not_mem_nil, or_false] at hq ⊢; rcases hq with rfl | rfl | rfl | rfl | rfl | rfl | rfl | rfl <;> simp) h
  · replace h := h.2 c9
    refine w_iload_n dX10_counts_148 rfl (List.Mem.tail _ (List.Mem.tail _ (List.Mem.tail _ (List.Mem.head _)))) ?_
    refine w_goto (tgt := 153) dX10_counts_149 rfl ?_
    exact w_weak (l' := [(0, .ref 76), (1, .ref (190 + j)), (2, .int (nZ x2)), (3, .int (nZ x3)), (4, .int (nZ x4)), (5, .int (nZ x5)), (6, .int (nZ x6)), (7, .int (nZ z2))]) (by intro q hq; simp only [List.mem_cons, List.not_mem_nil, or_false] at hq ⊢; rcases hq with rfl | rfl | rfl | rfl | rfl | rfl | rfl | rfl <;> simp) h
set_option maxRecDepth 10000 in
theorem v_X10_counts_153 {C : aM → List Value → aH → aO → aH → Prop} {sc : Nat × (Nat → Int32)} {P : aO → aH → Prop} {σ : aH} {u : Nat} {j : Nat} {js3 : Nat} {x2 : Int} {x3 : Int} {x4 : Int} {x5 : Int} {x6 : Int} {x7 : Int} {s0 : Int} {s1 : Int} {s2 : Int} (hG : G σ u) (hj : j < 70) (hjs3 : js3 < 9) (rx2 : inR x2) (rx3 : inR x3) (rx4 : inR x4) (rx5 : inR x5) (rx6 : inR x6) (rx7 : inR x7) (rs0 : inR s0) (rs1 : inR s1) (rs2 : inR s2)
    (h : (inR (s1 + s0) ∧ ((0 ≤ s2 ∧ s2 < 9) ∧ (∀ σ2 : aH, wI σ (302 + js3) s2 (s1 + s0) = σ2 → ((0 ≤ x5 ∧ x5 < 9) ∧ ((0 ≤ x3 ∧ x3 < 9) ∧ (inR ((rI σ2 (282 + x5.toNat) x3) + x7) ∧ ((0 ≤ x3 ∧ x3 < 9) ∧ (∀ σ7 : aH, wI σ2 (282 + x5.toNat) x3 ((rI σ2 (282 + x5.toNat) x3) + x7) = σ7 → (inR ((rI σ7 76 36) + x7) ∧ (∀ σ11 : aH, wI σ7 76 36 ((rI σ7 76 36) + x7) = σ11 → ((x6 = 0 → L_X10_counts_198 C sc P j x2 x3 x4 x5 x6 x7 0 (rI σ11 76 37) σ11) ∧ (¬ (x6 = 0) → ((0 ≤ x7 ∧ (0 : Int) < 2) ∧ inR (x7 / 2) ∧ L_X10_counts_198 C sc P j x2 x3 x4 x5 x6 x7 (x7 / 2) (rI σ11 76 37) σ11)))))))))))))) :
    L_X10_counts_153 C sc P j js3 x2 x3 x4 x5 x6 x7 s0 s1 s2 σ := by
  unfold L_X10_counts_153
  obtain ⟨q1, h⟩ := h
  refine i_add dX10_counts_153 ?_
  obtain ⟨h9, h⟩ := h
  refine i_iast (n := 9) dX10_counts_154 (gT hG (ro_301 _ hjs3).1 (by have := hjs3; omega)) (gL hG (ro_301 _ hjs3).2) rs2 h9 (fun σ2 eσ3 => ?_)
  replace h := h σ2 eσ3
  have hG4 : G σ2 u := eσ3 ▸ G.wI hG
  refine w_aload_n dX10_counts_155 rfl (List.Mem.head _) ?_
  refine w_getR (ci := 10) (k := 30) (b := 281) dX10_counts_156 fl_10_58 (by decide) (gT hG4 rfl (lt_of rfl)) (gR hG4 (b := 281) rfl) ?_
  refine w_iload dX10_counts_159 (List.Mem.tail _ (List.Mem.tail _ (List.Mem.tail _ (List.Mem.tail _ (List.Mem.tail _ (List.Mem.head _)))))) ?_
  obtain ⟨h9, h⟩ := h
  have hj5 := vin_lt2 (n := 9) h9 rfl
  refine i_aald (n := 9) (b := (282 + x5.toNat)) dX10_counts_161 (gT hG4 rfl (lt_of rfl)) (gL hG4 rfl) rx5 h9 (gR hG4 (rr_281 hj5)) ?_
  refine w_iload_n dX10_counts_162 rfl (List.Mem.tail _ (List.Mem.tail _ (List.Mem.tail _ (List.Mem.head _)))) ?_
  refine w_dup2 dX10_counts_163 rfl rfl ?_
  obtain ⟨h9, h⟩ := h
  refine i_iald (n := 9) dX10_counts_164 (gT hG4 (ro_281 _ hj5).1 (by have := hj5; omega)) (gL hG4 (ro_281 _ hj5).2) rx3 h9 ?_
  refine w_iload dX10_counts_165 (List.Mem.tail _ (List.Mem.tail _ (List.Mem.tail _ (List.Mem.tail _ (List.Mem.tail _ (List.Mem.tail _ (List.Mem.tail _ (List.Mem.head _)))))))) ?_
  obtain ⟨q6, h⟩ := h
  refine i_add dX10_counts_167 ?_
  obtain ⟨h9, h⟩ := h
  refine i_iast (n := 9) dX10_counts_168 (gT hG4 (ro_281 _ hj5).1 (by have := hj5; omega)) (gL hG4 (ro_281 _ hj5).2) rx3 h9 (fun σ7 eσ8 => ?_)
  replace h := h σ7 eσ8
  have hG9 : G σ7 u := eσ8 ▸ G.wI hG4
  refine w_aload_n dX10_counts_169 rfl (List.Mem.head _) ?_
  refine w_dup dX10_counts_170 rfl ?_
  refine i_getI (ci := 10) 36 rfl dX10_counts_171 fl_10_252 (by decide) (gT hG9 rfl (lt_of rfl)) ?_
  refine w_iload dX10_counts_174 (List.Mem.tail _ (List.Mem.tail _ (List.Mem.tail _ (List.Mem.tail _ (List.Mem.tail _ (List.Mem.tail _ (List.Mem.tail _ (List.Mem.head _)))))))) ?_
  obtain ⟨q10, h⟩ := h
  refine i_add dX10_counts_176 ?_
  refine i_putI (ci := 10) 36 rfl dX10_counts_177 fl_10_252 (by decide) (gT hG9 rfl (lt_of rfl)) (fun σ11 eσ12 => ?_)
  replace h := h σ11 eσ12
  have hG13 : G σ11 u := eσ12 ▸ G.wI hG9
  refine w_aload_n dX10_counts_180 rfl (List.Mem.head _) ?_
  refine w_dup dX10_counts_181 rfl ?_
  refine i_getI (ci := 10) 37 rfl dX10_counts_182 fl_10_255 (by decide) (gT hG13 rfl (lt_of rfl)) ?_
  refine w_iload dX10_counts_185 (List.Mem.tail _ (List.Mem.tail _ (List.Mem.tail _ (List.Mem.tail _ (List.Mem.tail _ (List.Mem.tail _ (List.Mem.head _))))))) ?_
  refine i_if_eq (tgt := 197) dX10_counts_187 rfl rx6 (fun c9 => ?_) (fun c9 => ?_)
  · replace h := h.1 c9
    refine w_iconst (v := nZ 0) dX10_counts_197 (by decide) ?_
    exact h
  · replace h := h.2 c9
    refine w_iload dX10_counts_190 (List.Mem.tail _ (List.Mem.tail _ (List.Mem.tail _ (List.Mem.tail _ (List.Mem.tail _ (List.Mem.tail _ (List.Mem.tail _ (List.Mem.head _)))))))) ?_
    refine w_iconst (v := nZ 2) dX10_counts_192 (by decide) ?_
    obtain ⟨h9, q14, h⟩ := h
    refine i_div dX10_counts_193 rx7 (by decide) h9 ?_
    refine w_goto (tgt := 198) dX10_counts_194 rfl ?_
    exact h
set_option maxRecDepth 10000 in
theorem v_X10_counts_198 {C : aM → List Value → aH → aO → aH → Prop} {sc : Nat × (Nat → Int32)} {P : aO → aH → Prop} {σ : aH} {u : Nat} {j : Nat} {x2 : Int} {x3 : Int} {x4 : Int} {x5 : Int} {x6 : Int} {x7 : Int} {s0 : Int} {s1 : Int} (hG : G σ u) (hj : j < 70) (rx2 : inR x2) (rx3 : inR x3) (rx4 : inR x4) (rx5 : inR x5) (rx6 : inR x6) (rx7 : inR x7) (rs0 : inR s0) (rs1 : inR s1)
    (h : (inR (s1 + s0) ∧ (∀ σ2 : aH, wI σ 76 37 (s1 + s0) = σ2 → ((0 ≤ (rI σ2 (190 + j) 0) ∧ (0 : Int) < 60) ∧ inR ((rI σ2 (190 + j) 0) / 60) ∧ ((0 ≤ ((rI σ2 (190 + j) 0) / 60) ∧ ((rI σ2 (190 + j) 0) / 60) < 24) ∧ (inR ((rI σ2 312 ((rI σ2 (190 + j) 0) / 60)) + x7) ∧ ((0 ≤ ((rI σ2 (190 + j) 0) / 60) ∧ ((rI σ2 (190 + j) 0) / 60) < 24) ∧ (∀ σ7 : aH, wI σ2 312 ((rI σ2 (190 + j) 0) / 60) ((rI σ2 312 ((rI σ2 (190 + j) 0) / 60)) + x7) = σ7 → ((0 ≤ (rI σ7 (190 + j) 2) ∧ (rI σ7 (190 + j) 2) < 20) ∧ (inR ((rI σ7 313 (rI σ7 (190 + j) 2)) + x7) ∧ ((0 ≤ (rI σ7 (190 + j) 2) ∧ (rI σ7 (190 + j) 2) < 20) ∧ (∀ σ11 : aH, wI σ7 313 (rI σ7 (190 + j) 2) ((rI σ7 313 (rI σ7 (190 + j) 2)) + x7) = σ11 → (inR (x5 + 1) ∧ L_X10_counts_43 C sc P j x2 x3 x4 (x5 + 1) σ11))))))))))))) :
    L_X10_counts_198 C sc P j x2 x3 x4 x5 x6 x7 s0 s1 σ := by
  unfold L_X10_counts_198
  obtain ⟨q1, h⟩ := h
  refine i_add dX10_counts_198 ?_
  refine i_putI (ci := 10) 37 rfl dX10_counts_199 fl_10_255 (by decide) (gT hG rfl (lt_of rfl)) (fun σ2 eσ3 => ?_)
  replace h := h σ2 eσ3
  have hG4 : G σ2 u := eσ3 ▸ G.wI hG
  refine w_aload_n dX10_counts_202 rfl (List.Mem.head _) ?_
  refine w_getR (ci := 10) (k := 34) (b := 312) dX10_counts_203 fl_10_70 (by decide) (gT hG4 rfl (lt_of rfl)) (gR hG4 (b := 312) rfl) ?_
  refine w_aload_n dX10_counts_206 rfl (List.Mem.tail _ (List.Mem.head _)) ?_
  refine w_iconst (v := nZ 0) dX10_counts_207 (by decide) ?_
  refine i_iald (n := 4) dX10_counts_208 (gT hG4 (ro_189 _ hj).1 (by have := hj; omega)) (gL hG4 (ro_189 _ hj).2) (by decide) (by decide) ?_
  refine w_bipush (v := nZ 60) dX10_counts_209 (by decide) ?_
  obtain ⟨h9, q5, h⟩ := h
  refine i_div dX10_counts_211 (rI_R _ _ _) (by decide) h9 ?_
  refine w_dup2 dX10_counts_212 rfl rfl ?_
  obtain ⟨h9, h⟩ := h
  refine i_iald (n := 24) dX10_counts_213 (gT hG4 rfl (lt_of rfl)) (gL hG4 rfl) q5 h9 ?_
  refine w_iload dX10_counts_214 (List.Mem.tail _ (List.Mem.tail _ (List.Mem.tail _ (List.Mem.tail _ (List.Mem.tail _ (List.Mem.tail _ (List.Mem.tail _ (List.Mem.head _)))))))) ?_
  obtain ⟨q6, h⟩ := h
  refine i_add dX10_counts_216 ?_
  obtain ⟨h9, h⟩ := h
  refine i_iast (n := 24) dX10_counts_217 (gT hG4 rfl (lt_of rfl)) (gL hG4 rfl) q5 h9 (fun σ7 eσ8 => ?_)
  replace h := h σ7 eσ8
  have hG9 : G σ7 u := eσ8 ▸ G.wI hG4
  refine w_aload_n dX10_counts_218 rfl (List.Mem.head _) ?_
  refine w_getR (ci := 10) (k := 35) (b := 313) dX10_counts_219 fl_10_73 (by decide) (gT hG9 rfl (lt_of rfl)) (gR hG9 (b := 313) rfl) ?_
  refine w_aload_n dX10_counts_222 rfl (List.Mem.tail _ (List.Mem.head _)) ?_
  refine w_iconst (v := nZ 2) dX10_counts_223 (by decide) ?_
  refine i_iald (n := 4) dX10_counts_224 (gT hG9 (ro_189 _ hj).1 (by have := hj; omega)) (gL hG9 (ro_189 _ hj).2) (by decide) (by decide) ?_
  refine w_dup2 dX10_counts_225 rfl rfl ?_
  obtain ⟨h9, h⟩ := h
  refine i_iald (n := 20) dX10_counts_226 (gT hG9 rfl (lt_of rfl)) (gL hG9 rfl) (rI_R _ _ _) h9 ?_
  refine w_iload dX10_counts_227 (List.Mem.tail _ (List.Mem.tail _ (List.Mem.tail _ (List.Mem.tail _ (List.Mem.tail _ (List.Mem.tail _ (List.Mem.tail _ (List.Mem.head _)))))))) ?_
  obtain ⟨q10, h⟩ := h
  refine i_add dX10_counts_229 ?_
  obtain ⟨h9, h⟩ := h
  refine i_iast (n := 20) dX10_counts_230 (gT hG9 rfl (lt_of rfl)) (gL hG9 rfl) (rI_R _ _ _) h9 (fun σ11 eσ12 => ?_)
  replace h := h σ11 eσ12
  have hG13 : G σ11 u := eσ12 ▸ G.wI hG9
  obtain ⟨q14, h⟩ := h
  refine w_iinc (v := nZ (x5 + 1)) (l' := [(5, .int (nZ (x5 + 1))), (0, .ref 76), (1, .ref (190 + j)), (2, .int (nZ x2)), (3, .int (nZ x3)), (4, .int (nZ x4)), (6, .int (nZ x6)), (7, .int (nZ x7))]) dX10_counts_231 (List.Mem.tail _ (List.Mem.tail _ (List.Mem.tail _ (List.Mem.tail _ (List.Mem.tail _ (List.Mem.head _)))))) (nZ_add _ _) (by decide) rfl ?_
  refine w_goto (tgt := 43) dX10_counts_234 rfl ?_
  exact w_weak (l' := [(0, .ref 76), (1, .ref (190 + j)), (2, .int (nZ x2)), (3, .int (nZ x3)), (4, .int (nZ x4)), (5, .int (nZ (x5 + 1)))]) (by intro q hq; simp only [List.mem_cons, List.not_mem_nil, or_false] at hq ⊢; rcases hq with rfl | rfl | rfl | rfl | rfl | rfl <;> simp) h
theorem dX10_dueNow_0 : decode cX10_dueNow 0 = .ok (.aload_n 0, 1) := by decide +kernel
theorem dX10_dueNow_1 : decode cX10_dueNow 1 = .ok (.sipush 1440, 3) := by decide +kernel
theorem dX10_dueNow_4 : decode cX10_dueNow 4 = .ok (.aload_n 0, 1) := by decide +kernel
theorem dX10_dueNow_5 : decode cX10_dueNow 5 = .ok (.getfield 23, 3) := by decide +kernel
theorem dX10_dueNow_8 : decode cX10_dueNow 8 = .ok (.iconst 3, 1) := by decide +kernel
theorem dX10_dueNow_9 : decode cX10_dueNow 9 = .ok (.iaload, 1) := by decide +kernel
theorem dX10_dueNow_10 : decode cX10_dueNow 10 = .ok (.iconst 0, 1) := by decide +kernel
theorem dX10_dueNow_11 : decode cX10_dueNow 11 = .ok (.invokevirtual 268, 3) := by decide +kernel
theorem dX10_dueNow_14 : decode cX10_dueNow 14 = .ok (.aload_n 0, 1) := by decide +kernel
theorem dX10_dueNow_15 : decode cX10_dueNow 15 = .ok (.getfield 252, 3) := by decide +kernel
theorem dX10_dueNow_18 : decode cX10_dueNow 18 = .ok (.ireturn, 1) := by decide +kernel
set_option maxRecDepth 10000 in
theorem t_X10_dueNow {sc : Nat × (Nat → Int32)} {d : Nat} {Q : aO → aH → Prop} {σ : aH} {u : Nat}   (hG : G σ u) 
    (h : (∃ σ1 : aH, Ev sc d mX10_goes [.ref 76, .int (nZ 1440), .int (nZ (rI σ 80 3)), .int (nZ 0)] σ (.inl none) σ1 ∧ G σ1 u ∧ Q (.inl (some (.int (nZ (rI σ1 76 36))))) σ1)) :
    T sc (d + 1) mX10_dueNow [.ref 76] σ Q := by
  refine T.of (c := 10) (code := cX10_dueNow) (mL := 1) (rt := (some .int)) (ini := false) (l := [(0, .ref 76)]) rfl rfl rfl rfl (by decide) hs_X10_dueNow rfl rfl ?_
  refine w_aload_n dX10_dueNow_0 rfl (List.Mem.head _) ?_
  refine w_sipush (v := nZ 1440) dX10_dueNow_1 (by decide) ?_
  refine w_aload_n dX10_dueNow_4 rfl (List.Mem.head _) ?_
  refine w_getR (ci := 10) (k := 11) (b := 80) dX10_dueNow_5 fl_10_23 (by decide) (gT hG rfl (lt_of rfl)) (gR hG (b := 80) rfl) ?_
  refine w_iconst (v := nZ 3) dX10_dueNow_8 (by decide) ?_
  refine i_iald (n := 8) dX10_dueNow_9 (gT hG rfl (lt_of rfl)) (gL hG rfl) (by decide) (by decide) ?_
  refine w_iconst (v := nZ 0) dX10_dueNow_10 (by decide) ?_
  obtain ⟨σ1, hc3, hG2, h⟩ := h
  refine w_callV dX10_dueNow_11 ml_10_268 ⟨ok_X10_goes, vi_X10_goes⟩ hs_X10_goes (As := [.int (nZ 1440), .int (nZ (rI σ 80 3)), .int (nZ 0)]) rfl rfl (gT hG rfl (lt_of rfl)) (Nat.le_of_ble_eq_true rfl) hc3 ?_
  show wp (Ev sc d) 10 cX10_dueNow 1 (some .int) false [] sc Q 14 [(0, .ref 76)] [] σ1
  refine w_aload_n dX10_dueNow_14 rfl (List.Mem.head _) ?_
  refine i_getI (ci := 10) 36 rfl dX10_dueNow_15 fl_10_252 (by decide) (gT hG2 rfl (lt_of rfl)) ?_
  exact w_iret dX10_dueNow_18 rfl h
theorem dX10_isMinute_0 : decode cX10_isMinute 0 = .ok (.iload_n 0, 1) := by decide +kernel
theorem dX10_isMinute_1 : decode cX10_isMinute 1 = .ok (.iconst 0, 1) := by decide +kernel
theorem dX10_isMinute_2 : decode cX10_isMinute 2 = .ok (.sipush 1439, 3) := by decide +kernel
theorem dX10_isMinute_5 : decode cX10_isMinute 5 = .ok (.invokestatic 140, 3) := by decide +kernel
theorem dX10_isMinute_8 : decode cX10_isMinute 8 = .ok (.ireturn, 1) := by decide +kernel
set_option maxRecDepth 10000 in
theorem t_X10_isMinute {sc : Nat × (Nat → Int32)} {d : Nat} {Q : aO → aH → Prop} {σ : aH} {u : Nat}  {x0 : Int} (hG : G σ u) (rx0 : inR x0)
    (h : (∃ (r5 : Int) (σ1 : aH), Ev sc d mX10_in [.int (nZ x0), .int (nZ 0), .int (nZ 1439)] σ (.inl (some (.int (nZ r5)))) σ1 ∧ G σ1 u ∧ inR r5 ∧ ((r5 = 0 ∨ r5 = 1) ∧ Q (.inl (some (.int (nZ r5)))) σ1))) :
    T sc (d + 1) mX10_isMinute [.int (nZ x0)] σ Q := by
  refine T.of (c := 10) (code := cX10_isMinute) (mL := 1) (rt := (some .boolean)) (ini := false) (l := [(0, .int (nZ x0))]) rfl rfl rfl rfl (by decide) hs_X10_isMinute rfl rfl ?_
  refine w_iload_n dX10_isMinute_0 rfl (List.Mem.head _) ?_
  refine w_iconst (v := nZ 0) dX10_isMinute_1 (by decide) ?_
  refine w_sipush (v := nZ 1439) dX10_isMinute_2 (by decide) ?_
  obtain ⟨r5, σ1, hc3, hG2, rr4, h⟩ := h
  refine w_callS dX10_isMinute_5 ml_10_140 ⟨ok_X10_in, st_X10_in⟩ hs_X10_in (As := [.int (nZ x0), .int (nZ 0), .int (nZ 1439)]) rfl rfl (Nat.le_of_ble_eq_true rfl) hc3 ?_
  show wp (Ev sc d) 10 cX10_isMinute 1 (some .boolean) false [] sc Q 8 [(0, .int (nZ x0))] [.int (nZ r5)] σ1
  exact i_zret dX10_isMinute_8 rfl h.1 h.2
theorem dX10_length_0 : decode cX10_length 0 = .ok (.aload_n 0, 1) := by decide +kernel
theorem dX10_length_1 : decode cX10_length 1 = .ok (.iconst 0, 1) := by decide +kernel
theorem dX10_length_2 : decode cX10_length 2 = .ok (.putfield 106, 3) := by decide +kernel
theorem dX10_length_5 : decode cX10_length 5 = .ok (.aload_n 0, 1) := by decide +kernel
theorem dX10_length_6 : decode cX10_length 6 = .ok (.aload_n 0, 1) := by decide +kernel
theorem dX10_length_7 : decode cX10_length 7 = .ok (.iload_n 1, 1) := by decide +kernel
theorem dX10_length_8 : decode cX10_length 8 = .ok (.invokevirtual 236, 3) := by decide +kernel
theorem dX10_length_11 : decode cX10_length 11 = .ok (.ifCond .ne 7, 3) := by decide +kernel
theorem dX10_length_14 : decode cX10_length 14 = .ok (.iconst 1, 1) := by decide +kernel
theorem dX10_length_15 : decode cX10_length 15 = .ok (.goto 4, 3) := by decide +kernel
theorem dX10_length_18 : decode cX10_length 18 = .ok (.iconst 0, 1) := by decide +kernel
theorem dX10_length_19 : decode cX10_length 19 = .ok (.iconst 1, 1) := by decide +kernel
theorem dX10_length_20 : decode cX10_length 20 = .ok (.iconst 0, 1) := by decide +kernel
theorem dX10_length_21 : decode cX10_length 21 = .ok (.invokevirtual 196, 3) := by decide +kernel
theorem dX10_length_24 : decode cX10_length 24 = .ok (.ifCond .ne 24, 3) := by decide +kernel
theorem dX10_length_27 : decode cX10_length 27 = .ok (.aload_n 0, 1) := by decide +kernel
theorem dX10_length_28 : decode cX10_length 28 = .ok (.iload_n 2, 1) := by decide +kernel
theorem dX10_length_29 : decode cX10_length 29 = .ok (.invokestatic 272, 3) := by decide +kernel
theorem dX10_length_32 : decode cX10_length 32 = .ok (.ifCond .ne 7, 3) := by decide +kernel
theorem dX10_length_35 : decode cX10_length 35 = .ok (.iconst 1, 1) := by decide +kernel
theorem dX10_length_36 : decode cX10_length 36 = .ok (.goto 4, 3) := by decide +kernel
theorem dX10_length_39 : decode cX10_length 39 = .ok (.iconst 0, 1) := by decide +kernel
theorem dX10_length_40 : decode cX10_length 40 = .ok (.iconst 2, 1) := by decide +kernel
theorem dX10_length_41 : decode cX10_length 41 = .ok (.iconst 1, 1) := by decide +kernel
theorem dX10_length_42 : decode cX10_length 42 = .ok (.invokevirtual 196, 3) := by decide +kernel
theorem dX10_length_45 : decode cX10_length 45 = .ok (.ifCond .eq 5, 3) := by decide +kernel
theorem dX10_length_48 : decode cX10_length 48 = .ok (.iconst 0, 1) := by decide +kernel
theorem dX10_length_49 : decode cX10_length 49 = .ok (.ireturn, 1) := by decide +kernel
theorem dX10_length_50 : decode cX10_length 50 = .ok (.aload_n 0, 1) := by decide +kernel
theorem dX10_length_51 : decode cX10_length 51 = .ok (.iload_n 2, 1) := by decide +kernel
theorem dX10_length_52 : decode cX10_length 52 = .ok (.invokevirtual 230, 3) := by decide +kernel
theorem dX10_length_55 : decode cX10_length 55 = .ok (.istore_n 3, 1) := by decide +kernel
theorem dX10_length_56 : decode cX10_length 56 = .ok (.iload_n 2, 1) := by decide +kernel
theorem dX10_length_57 : decode cX10_length 57 = .ok (.aload_n 0, 1) := by decide +kernel
theorem dX10_length_58 : decode cX10_length 58 = .ok (.getfield 23, 3) := by decide +kernel
theorem dX10_length_61 : decode cX10_length 61 = .ok (.iconst 3, 1) := by decide +kernel
theorem dX10_length_62 : decode cX10_length 62 = .ok (.iaload, 1) := by decide +kernel
theorem dX10_length_63 : decode cX10_length 63 = .ok (.if_icmp .ge 30, 3) := by decide +kernel
theorem dX10_length_66 : decode cX10_length 66 = .ok (.iload_n 3, 1) := by decide +kernel
theorem dX10_length_67 : decode cX10_length 67 = .ok (.iconst (-1), 1) := by decide +kernel
theorem dX10_length_68 : decode cX10_length 68 = .ok (.if_icmp .eq 25, 3) := by decide +kernel
theorem dX10_length_71 : decode cX10_length 71 = .ok (.aload_n 0, 1) := by decide +kernel
theorem dX10_length_72 : decode cX10_length 72 = .ok (.getfield 37, 3) := by decide +kernel
theorem dX10_length_75 : decode cX10_length 75 = .ok (.iload_n 3, 1) := by decide +kernel
theorem dX10_length_76 : decode cX10_length 76 = .ok (.aaload, 1) := by decide +kernel
theorem dX10_length_77 : decode cX10_length 77 = .ok (.iconst 1, 1) := by decide +kernel
theorem dX10_length_78 : decode cX10_length 78 = .ok (.iaload, 1) := by decide +kernel
theorem dX10_length_79 : decode cX10_length 79 = .ok (.ifCond .ne 18, 3) := by decide +kernel
theorem dX10_length_82 : decode cX10_length 82 = .ok (.aload_n 0, 1) := by decide +kernel
theorem dX10_length_83 : decode cX10_length 83 = .ok (.getfield 37, 3) := by decide +kernel
theorem dX10_length_86 : decode cX10_length 86 = .ok (.iload_n 3, 1) := by decide +kernel
theorem dX10_length_87 : decode cX10_length 87 = .ok (.aaload, 1) := by decide +kernel
theorem dX10_length_88 : decode cX10_length 88 = .ok (.iconst 2, 1) := by decide +kernel
theorem dX10_length_89 : decode cX10_length 89 = .ok (.iaload, 1) := by decide +kernel
theorem dX10_length_90 : decode cX10_length 90 = .ok (.ifCond .ne 7, 3) := by decide +kernel
theorem dX10_length_93 : decode cX10_length 93 = .ok (.iconst 0, 1) := by decide +kernel
theorem dX10_length_94 : decode cX10_length 94 = .ok (.goto 9, 3) := by decide +kernel
theorem dX10_length_97 : decode cX10_length 97 = .ok (.aload_n 0, 1) := by decide +kernel
theorem dX10_length_98 : decode cX10_length 98 = .ok (.iload_n 1, 1) := by decide +kernel
theorem dX10_length_99 : decode cX10_length 99 = .ok (.iload_n 3, 1) := by decide +kernel
theorem dX10_length_100 : decode cX10_length 100 = .ok (.invokevirtual 242, 3) := by decide +kernel
theorem dX10_length_103 : decode cX10_length 103 = .ok (.ireturn, 1) := by decide +kernel
def L_X10_length_40 (C : aM → List Value → aH → aO → aH → Prop) (sc : Nat × (Nat → Int32)) (P : aO → aH → Prop) (x1 : Int) (x2 : Int) (s0 : Int) (σ : aH) : Prop :=
    wp C 10 cX10_length 4 (some .int) false [] sc P 40 [(0, .ref 76), (1, .int (nZ x1)), (2, .int (nZ x2))] [.int (nZ s0), .ref 76] σ
set_option maxRecDepth 10000 in
theorem t_X10_length {sc : Nat × (Nat → Int32)} {d : Nat} {Q : aO → aH → Prop} {σ : aH} {u : Nat}  {x1 : Int} {x2 : Int} (hG : G σ u) (rx1 : inR x1) (rx2 : inR x2)
    (h : (∀ σ1 : aH, wI σ 76 0 0 = σ1 → (∃ (r8 : Int) (σ4 : aH), Ev sc d mX10_isStall [.ref 76, .int (nZ x1)] σ1 (.inl (some (.int (nZ r8)))) σ4 ∧ G σ4 u ∧ inR r8 ∧ ((¬ r8 = 0 → (∃ (r13 : Int) (σ9 : aH), Ev sc d mX10_bad [.ref 76, .int (nZ 0), .int (nZ 1), .int (nZ 0)] σ4 (.inl (some (.int (nZ r13)))) σ9 ∧ G σ9 u ∧ inR r13 ∧ ((¬ r13 = 0 → Q (.inl (some (.int (nZ 0)))) σ9) ∧ (r13 = 0 → (∃ (r18 : Int) (σ14 : aH), Ev sc d mX10_isMinute [.int (nZ x2)] σ9 (.inl (some (.int (nZ r18)))) σ14 ∧ G σ14 u ∧ inR r18 ∧ ((¬ r18 = 0 → L_X10_length_40 (Ev sc d) sc Q x1 x2 0 σ14) ∧ (r18 = 0 → L_X10_length_40 (Ev sc d) sc Q x1 x2 1 σ14))))))) ∧ (r8 = 0 → (∃ (r23 : Int) (σ19 : aH), Ev sc d mX10_bad [.ref 76, .int (nZ 1), .int (nZ 1), .int (nZ 0)] σ4 (.inl (some (.int (nZ r23)))) σ19 ∧ G σ19 u ∧ inR r23 ∧ ((¬ r23 = 0 → Q (.inl (some (.int (nZ 0)))) σ19) ∧ (r23 = 0 → (∃ (r28 : Int) (σ24 : aH), Ev sc d mX10_isMinute [.int (nZ x2)] σ19 (.inl (some (.int (nZ r28)))) σ24 ∧ G σ24 u ∧ inR r28 ∧ ((¬ r28 = 0 → L_X10_length_40 (Ev sc d) sc Q x1 x2 0 σ24) ∧ (r28 = 0 → L_X10_length_40 (Ev sc d) sc Q x1 x2 1 σ24))))))))))) :
    T sc (d + 1) mX10_length [.ref 76, .int (nZ x1), .int (nZ x2)] σ Q := by
  refine T.of (c := 10) (code := cX10_length) (mL := 4) (rt := (some .int)) (ini := false) (l := [(0, .ref 76), (1, .int (nZ x1)), (2, .int (nZ x2))]) rfl rfl rfl rfl (by decide) hs_X10_length rfl rfl ?_
  refine w_aload_n dX10_length_0 rfl (List.Mem.head _) ?_
  refine w_iconst (v := nZ 0) dX10_length_1 (by decide) ?_
  refine i_putI (ci := 10) 0 rfl dX10_length_2 fl_10_106 (by decide) (gT hG rfl (lt_of rfl)) (fun σ1 eσ2 => ?_)
  replace h := h σ1 eσ2
  have hG3 : G σ1 u := eσ2 ▸ G.wI hG
  refine w_aload_n dX10_length_5 rfl (List.Mem.head _) ?_
  refine w_aload_n dX10_length_6 rfl (List.Mem.head _) ?_
  refine w_iload_n dX10_length_7 rfl (List.Mem.tail _ (List.Mem.head _)) ?_
  obtain ⟨r8, σ4, hc6, hG5, rr7, h⟩ := h
  refine w_callV dX10_length_8 ml_10_236 ⟨ok_X10_isStall, vi_X10_isStall⟩ hs_X10_isStall (As := [.int (nZ x1)]) rfl rfl (gT hG3 rfl (lt_of rfl)) (Nat.le_of_ble_eq_true rfl) hc6 ?_
  show wp (Ev sc d) 10 cX10_length 4 (some .int) false [] sc Q 11 [(0, .ref 76), (1, .int (nZ x1)), (2, .int (nZ x2))] [.int (nZ r8), .ref 76] σ4
  refine i_if_ne (tgt := 18) dX10_length_11 rfl rr7 (fun c9 => ?_) (fun c9 => ?_)
  · replace h := h.1 c9
    refine w_iconst (v := nZ 0) dX10_length_18 (by decide) ?_
    refine w_iconst (v := nZ 1) dX10_length_19 (by decide) ?_
    refine w_iconst (v := nZ 0) dX10_length_20 (by decide) ?_
    obtain ⟨r13, σ9, hc11, hG10, rr12, h⟩ := h
    refine w_callV dX10_length_21 ml_10_196 ⟨ok_X10_bad, vi_X10_bad⟩ hs_X10_bad (As := [.int (nZ 0), .int (nZ 1), .int (nZ 0)]) rfl rfl (gT hG5 rfl (lt_of rfl)) (Nat.le_of_ble_eq_true rfl) hc11 ?_
    show wp (Ev sc d) 10 cX10_length 4 (some .int) false [] sc Q 24 [(0, .ref 76), (1, .int (nZ x1)), (2, .int (nZ x2))] [.int (nZ r13)] σ9
    refine i_if_ne (tgt := 48) dX10_length_24 rfl rr12 (fun c9 => ?_) (fun c9 => ?_)
    · replace h := h.1 c9
      refine w_iconst (v := nZ 0) dX10_length_48 (by decide) ?_
      exact w_iret dX10_length_49 rfl h
    · replace h := h.2 c9
      refine w_aload_n dX10_length_27 rfl (List.Mem.head _) ?_
      refine w_iload_n dX10_length_28 rfl (List.Mem.tail _ (List.Mem.tail _ (List.Mem.head _))) ?_
      obtain ⟨r18, σ14, hc16, hG15, rr17, h⟩ := h
      refine w_callS dX10_length_29 ml_10_272 ⟨ok_X10_isMinute, st_X10_isMinute⟩ hs_X10_isMinute (As := [.int (nZ x2)]) rfl rfl (Nat.le_of_ble_eq_true rfl) hc16 ?_
      show wp (Ev sc d) 10 cX10_length 4 (some .int) false [] sc Q 32 [(0, .ref 76), (1, .int (nZ x1)), (2, .int (nZ x2))] [.int (nZ r18), .ref 76] σ14
      refine i_if_ne (tgt := 39) dX10_length_32 rfl rr17 (fun c9 => ?_) (fun c9 => ?_)
      · replace h := h.1 c9
        refine w_iconst (v := nZ 0) dX10_length_39 (by decide) ?_
        exact h
      · replace h := h.2 c9
        refine w_iconst (v := nZ 1) dX10_length_35 (by decide) ?_
        refine w_goto (tgt := 40) dX10_length_36 rfl ?_
        exact h
  · replace h := h.2 c9
    refine w_iconst (v := nZ 1) dX10_length_14 (by decide) ?_
    refine w_goto (tgt := 19) dX10_length_15 rfl ?_
    refine w_iconst (v := nZ 1) dX10_length_19 (by decide) ?_
    refine w_iconst (v := nZ 0) dX10_length_20 (by decide) ?_
    obtain ⟨r23, σ19, hc21, hG20, rr22, h⟩ := h
    refine w_callV dX10_length_21 ml_10_196 ⟨ok_X10_bad, vi_X10_bad⟩ hs_X10_bad (As := [.int (nZ 1), .int (nZ 1), .int (nZ 0)]) rfl rfl (gT hG5 rfl (lt_of rfl)) (Nat.le_of_ble_eq_true rfl) hc21 ?_
    show wp (Ev sc d) 10 cX10_length 4 (some .int) false [] sc Q 24 [(0, .ref 76), (1, .int (nZ x1)), (2, .int (nZ x2))] [.int (nZ r23)] σ19
    refine i_if_ne (tgt := 48) dX10_length_24 rfl rr22 (fun c9 => ?_) (fun c9 => ?_)
    · replace h := h.1 c9
      refine w_iconst (v := nZ 0) dX10_length_48 (by decide) ?_
      exact w_iret dX10_length_49 rfl h
    · replace h := h.2 c9
      refine w_aload_n dX10_length_27 rfl (List.Mem.head _) ?_
      refine w_iload_n dX10_length_28 rfl (List.Mem.tail _ (List.Mem.tail _ (List.Mem.head _))) ?_
      obtain ⟨r28, σ24, hc26, hG25, rr27, h⟩ := h
      refine w_callS dX10_length_29 ml_10_272 ⟨ok_X10_isMinute, st_X10_isMinute⟩ hs_X10_isMinute (As := [.int (nZ x2)]) rfl rfl (Nat.le_of_ble_eq_true rfl) hc26 ?_
      show wp (Ev sc d) 10 cX10_length 4 (some .int) false [] sc Q 32 [(0, .ref 76), (1, .int (nZ x1)), (2, .int (nZ x2))] [.int (nZ r28), .ref 76] σ24
      refine i_if_ne (tgt := 39) dX10_length_32 rfl rr27 (fun c9 => ?_) (fun c9 => ?_)
      · replace h := h.1 c9
        refine w_iconst (v := nZ 0) dX10_length_39 (by decide) ?_
        exact h
      · replace h := h.2 c9
        refine w_iconst (v := nZ 1) dX10_length_35 (by decide) ?_
        refine w_goto (tgt := 40) dX10_length_36 rfl ?_
        exact h
set_option maxRecDepth 10000 in
theorem v_X10_length_40 {C : aM → List Value → aH → aO → aH → Prop} {sc : Nat × (Nat → Int32)} {P : aO → aH → Prop} {σ : aH} {u : Nat}  {x1 : Int} {x2 : Int} {s0 : Int} (hG : G σ u) (rx1 : inR x1) (rx2 : inR x2) (rs0 : inR s0)
    (h : (∃ (r5 : Int) (σ1 : aH), C mX10_bad [.ref 76, .int (nZ s0), .int (nZ 2), .int (nZ 1)] σ (.inl (some (.int (nZ r5)))) σ1 ∧ G σ1 u ∧ inR r5 ∧ ((r5 = 0 → (∃ (r10 : Int) (σ6 : aH), C mX10_sunAt [.ref 76, .int (nZ x2)] σ1 (.inl (some (.int (nZ r10)))) σ6 ∧ G σ6 u ∧ inR r10 ∧ (((rI σ6 80 3) ≤ x2 → P (.inl (some (.int (nZ 0)))) σ6) ∧ (¬ ((rI σ6 80 3) ≤ x2) → ((r10 = (-1) → P (.inl (some (.int (nZ 0)))) σ6) ∧ (¬ (r10 = (-1)) → ((0 ≤ r10 ∧ r10 < 20) ∧ ((¬ (rI σ6 (122 + r10.toNat) 1) = 0 → (∃ (r16 : Int) (σ12 : aH), C mX10_lengthBy [.ref 76, .int (nZ x1), .int (nZ r10)] σ6 (.inl (some (.int (nZ r16)))) σ12 ∧ G σ12 u ∧ inR r16 ∧ P (.inl (some (.int (nZ r16)))) σ12)) ∧ ((rI σ6 (122 + r10.toNat) 1) = 0 → ((0 ≤ r10 ∧ r10 < 20) ∧ ((¬ (rI σ6 (122 + r10.toNat) 2) = 0 → (∃ (r22 : Int) (σ18 : aH), C mX10_lengthBy [.ref 76, .int (nZ x1), .int (nZ r10)] σ6 (.inl (some (.int (nZ r22)))) σ18 ∧ G σ18 u ∧ inR r22 ∧ P (.inl (some (.int (nZ r22)))) σ18)) ∧ ((rI σ6 (122 + r10.toNat) 2) = 0 → P (.inl (some (.int (nZ 0)))) σ6)))))))))))) ∧ (¬ (r5 = 0) → P (.inl (some (.int (nZ 0)))) σ1)))) :
    L_X10_length_40 C sc P x1 x2 s0 σ := by
  unfold L_X10_length_40
  refine w_iconst (v := nZ 2) dX10_length_40 (by decide) ?_
  refine w_iconst (v := nZ 1) dX10_length_41 (by decide) ?_
  obtain ⟨r5, σ1, hc3, hG2, rr4, h⟩ := h
  refine w_callV dX10_length_42 ml_10_196 ⟨ok_X10_bad, vi_X10_bad⟩ hs_X10_bad (As := [.int (nZ s0), .int (nZ 2), .int (nZ 1)]) rfl rfl (gT hG rfl (lt_of rfl)) (Nat.le_of_ble_eq_true rfl) hc3 ?_
  show wp C 10 cX10_length 4 (some .int) false [] sc P 45 [(0, .ref 76), (1, .int (nZ x1)), (2, .int (nZ x2))] [.int (nZ r5)] σ1
  refine i_if_eq (tgt := 50) dX10_length_45 rfl rr4 (fun c9 => ?_) (fun c9 => ?_)
  · replace h := h.1 c9
    refine w_aload_n dX10_length_50 rfl (List.Mem.head _) ?_
    refine w_iload_n dX10_length_51 rfl (List.Mem.tail _ (List.Mem.tail _ (List.Mem.head _))) ?_
    obtain ⟨r10, σ6, hc8, hG7, rr9, h⟩ := h
    refine w_callV dX10_length_52 ml_10_230 ⟨ok_X10_sunAt, vi_X10_sunAt⟩ hs_X10_sunAt (As := [.int (nZ x2)]) rfl rfl (gT hG2 rfl (lt_of rfl)) (Nat.le_of_ble_eq_true rfl) hc8 ?_
    show wp C 10 cX10_length 4 (some .int) false [] sc P 55 [(0, .ref 76), (1, .int (nZ x1)), (2, .int (nZ x2))] [.int (nZ r10)] σ6
    refine w_istore_n (l' := [(3, .int (nZ r10)), (0, .ref 76), (1, .int (nZ x1)), (2, .int (nZ x2))]) dX10_length_55 rfl (by decide) rfl ?_
    refine w_iload_n dX10_length_56 rfl (List.Mem.tail _ (List.Mem.tail _ (List.Mem.tail _ (List.Mem.head _)))) ?_
    refine w_aload_n dX10_length_57 rfl (List.Mem.tail _ (List.Mem.head _)) ?_
    refine w_getR (ci := 10) (k := 11) (b := 80) dX10_length_58 fl_10_23 (by decide) (gT hG7 rfl (lt_of rfl)) (gR hG7 (b := 80) rfl) ?_
    refine w_iconst (v := nZ 3) dX10_length_61 (by decide) ?_
    refine i_iald (n := 8) dX10_length_62 (gT hG7 rfl (lt_of rfl)) (gL hG7 rfl) (by decide) (by decide) ?_
    refine i_cmp_ge (tgt := 93) dX10_length_63 rfl rx2 (rI_R _ _ _) (fun c9 => ?_) (fun c9 => ?_)
    · replace h := h.1 c9
      refine w_iconst (v := nZ 0) dX10_length_93 (by decide) ?_
      refine w_goto (tgt := 103) dX10_length_94 rfl ?_
      exact w_iret dX10_length_103 rfl h
    · replace h := h.2 c9
      refine w_iload_n dX10_length_66 rfl (List.Mem.head _) ?_
      refine w_iconst (v := nZ (-1)) dX10_length_67 (by decide) ?_
      refine i_cmp_eq (tgt := 93) dX10_length_68 rfl rr9 (by decide) (fun c9 => ?_) (fun c9 => ?_)
      · replace h := h.1 c9
        refine w_iconst (v := nZ 0) dX10_length_93 (by decide) ?_
        refine w_goto (tgt := 103) dX10_length_94 rfl ?_
        exact w_iret dX10_length_103 rfl h
      · replace h := h.2 c9
        refine w_aload_n dX10_length_71 rfl (List.Mem.tail _ (List.Mem.head _)) ?_
        refine w_getR (ci := 10) (k := 15) (b := 121) dX10_length_72 fl_10_37 (by decide) (gT hG7 rfl (lt_of rfl)) (gR hG7 (b := 121) rfl) ?_
        refine w_iload_n dX10_length_75 rfl (List.Mem.head _) ?_
        obtain ⟨h9, h⟩ := h
        have hj11 := vin_lt2 (n := 20) h9 rfl
        refine i_aald (n := 20) (b := (122 + r10.toNat)) dX10_length_76 (gT hG7 rfl (lt_of rfl)) (gL hG7 rfl) rr9 h9 (gR hG7 (rr_121 hj11)) ?_
        refine w_iconst (v := nZ 1) dX10_length_77 (by decide) ?_
        refine i_iald (n := 4) dX10_length_78 (gT hG7 (ro_121 _ hj11).1 (by have := hj11; omega)) (gL hG7 (ro_121 _ hj11).2) (by decide) (by decide) ?_
        refine i_if_ne (tgt := 97) dX10_length_79 rfl (rI_R _ _ _) (fun c9 => ?_) (fun c9 => ?_)
        · replace h := h.1 c9
          refine w_aload_n dX10_length_97 rfl (List.Mem.tail _ (List.Mem.head _)) ?_
          refine w_iload_n dX10_length_98 rfl (List.Mem.tail _ (List.Mem.tail _ (List.Mem.head _))) ?_
          refine w_iload_n dX10_length_99 rfl (List.Mem.head _) ?_
          obtain ⟨r16, σ12, hc14, hG13, rr15, h⟩ := h
          refine w_callV dX10_length_100 ml_10_242 ⟨ok_X10_lengthBy, vi_X10_lengthBy⟩ hs_X10_lengthBy (As := [.int (nZ x1), .int (nZ r10)]) rfl rfl (gT hG7 rfl (lt_of rfl)) (Nat.le_of_ble_eq_true rfl) hc14 ?_
          show wp C 10 cX10_length 4 (some .int) false [] sc P 103 [(3, .int (nZ r10)), (0, .ref 76), (1, .int (nZ x1)), (2, .int (nZ x2))] [.int (nZ r16)] σ12
          exact w_iret dX10_length_103 rfl h
        · replace h := h.2 c9
          refine w_aload_n dX10_length_82 rfl (List.Mem.tail _ (List.Mem.head _)) ?_
          refine w_getR (ci := 10) (k := 15) (b := 121) dX10_length_83 fl_10_37 (by decide) (gT hG7 rfl (lt_of rfl)) (gR hG7 (b := 121) rfl) ?_
          refine w_iload_n dX10_length_86 rfl (List.Mem.head _) ?_
          obtain ⟨h9, h⟩ := h
          have hj17 := vin_lt2 (n := 20) h9 rfl
          refine i_aald (n := 20) (b := (122 + r10.toNat)) dX10_length_87 (gT hG7 rfl (lt_of rfl)) (gL hG7 rfl) rr9 h9 (gR hG7 (rr_121 hj17)) ?_
          refine w_iconst (v := nZ 2) dX10_length_88 (by decide) ?_
          refine i_iald (n := 4) dX10_length_89 (gT hG7 (ro_121 _ hj17).1 (by have := hj17; omega)) (gL hG7 (ro_121 _ hj17).2) (by decide) (by decide) ?_
          refine i_if_ne (tgt := 97) dX10_length_90 rfl (rI_R _ _ _) (fun c9 => ?_) (fun c9 => ?_)
          · replace h := h.1 c9
            refine w_aload_n dX10_length_97 rfl (List.Mem.tail _ (List.Mem.head _)) ?_
            refine w_iload_n dX10_length_98 rfl (List.Mem.tail _ (List.Mem.tail _ (List.Mem.head _))) ?_
            refine w_iload_n dX10_length_99 rfl (List.Mem.head _) ?_
            obtain ⟨r22, σ18, hc20, hG19, rr21, h⟩ := h
            refine w_callV dX10_length_100 ml_10_242 ⟨ok_X10_lengthBy, vi_X10_lengthBy⟩ hs_X10_lengthBy (As := [.int (nZ x1), .int (nZ r10)]) rfl rfl (gT hG7 rfl (lt_of rfl)) (Nat.le_of_ble_eq_true rfl) hc20 ?_
            show wp C 10 cX10_length 4 (some .int) false [] sc P 103 [(3, .int (nZ r10)), (0, .ref 76), (1, .int (nZ x1)), (2, .int (nZ x2))] [.int (nZ r22)] σ18
            exact w_iret dX10_length_103 rfl h
          · replace h := h.2 c9
            refine w_iconst (v := nZ 0) dX10_length_93 (by decide) ?_
            refine w_goto (tgt := 103) dX10_length_94 rfl ?_
            exact w_iret dX10_length_103 rfl h
  · replace h := h.2 c9
    refine w_iconst (v := nZ 0) dX10_length_48 (by decide) ?_
    exact w_iret dX10_length_49 rfl h
theorem dX10_onAt_0 : decode cX10_onAt 0 = .ok (.aload_n 0, 1) := by decide +kernel
theorem dX10_onAt_1 : decode cX10_onAt 1 = .ok (.iload_n 2, 1) := by decide +kernel
theorem dX10_onAt_2 : decode cX10_onAt 2 = .ok (.invokevirtual 230, 3) := by decide +kernel
theorem dX10_onAt_5 : decode cX10_onAt 5 = .ok (.istore_n 3, 1) := by decide +kernel
theorem dX10_onAt_6 : decode cX10_onAt 6 = .ok (.iload_n 2, 1) := by decide +kernel
theorem dX10_onAt_7 : decode cX10_onAt 7 = .ok (.aload_n 0, 1) := by decide +kernel
theorem dX10_onAt_8 : decode cX10_onAt 8 = .ok (.getfield 23, 3) := by decide +kernel
theorem dX10_onAt_11 : decode cX10_onAt 11 = .ok (.iconst 3, 1) := by decide +kernel
theorem dX10_onAt_12 : decode cX10_onAt 12 = .ok (.iaload, 1) := by decide +kernel
theorem dX10_onAt_13 : decode cX10_onAt 13 = .ok (.if_icmp .ge 8, 3) := by decide +kernel
theorem dX10_onAt_16 : decode cX10_onAt 16 = .ok (.iload_n 3, 1) := by decide +kernel
theorem dX10_onAt_17 : decode cX10_onAt 17 = .ok (.iconst (-1), 1) := by decide +kernel
theorem dX10_onAt_18 : decode cX10_onAt 18 = .ok (.if_icmp .ne 5, 3) := by decide +kernel
theorem dX10_onAt_21 : decode cX10_onAt 21 = .ok (.iconst 0, 1) := by decide +kernel
theorem dX10_onAt_22 : decode cX10_onAt 22 = .ok (.ireturn, 1) := by decide +kernel
theorem dX10_onAt_23 : decode cX10_onAt 23 = .ok (.aload_n 0, 1) := by decide +kernel
theorem dX10_onAt_24 : decode cX10_onAt 24 = .ok (.iload_n 3, 1) := by decide +kernel
theorem dX10_onAt_25 : decode cX10_onAt 25 = .ok (.invokevirtual 258, 3) := by decide +kernel
theorem dX10_onAt_28 : decode cX10_onAt 28 = .ok (.aload_n 0, 1) := by decide +kernel
theorem dX10_onAt_29 : decode cX10_onAt 29 = .ok (.getfield 55, 3) := by decide +kernel
theorem dX10_onAt_32 : decode cX10_onAt 32 = .ok (.iload_n 3, 1) := by decide +kernel
theorem dX10_onAt_33 : decode cX10_onAt 33 = .ok (.aaload, 1) := by decide +kernel
theorem dX10_onAt_34 : decode cX10_onAt 34 = .ok (.iload_n 1, 1) := by decide +kernel
theorem dX10_onAt_35 : decode cX10_onAt 35 = .ok (.iaload, 1) := by decide +kernel
theorem dX10_onAt_36 : decode cX10_onAt 36 = .ok (.ireturn, 1) := by decide +kernel
set_option maxRecDepth 10000 in
theorem t_X10_onAt {sc : Nat × (Nat → Int32)} {d : Nat} {Q : aO → aH → Prop} {σ : aH} {u : Nat}  {x1 : Int} {x2 : Int} (hG : G σ u) (rx1 : inR x1) (rx2 : inR x2)
    (h : (∃ (r5 : Int) (σ1 : aH), Ev sc d mX10_sunAt [.ref 76, .int (nZ x2)] σ (.inl (some (.int (nZ r5)))) σ1 ∧ G σ1 u ∧ inR r5 ∧ (((rI σ1 80 3) ≤ x2 → Q (.inl (some (.int (nZ 0)))) σ1) ∧ (¬ ((rI σ1 80 3) ≤ x2) → ((¬ r5 = (-1) → (∃ σ6 : aH, Ev sc d mX10_throwsBy [.ref 76, .int (nZ r5)] σ1 (.inl none) σ6 ∧ G σ6 u ∧ ((0 ≤ r5 ∧ r5 < 20) ∧ ((0 ≤ x1 ∧ x1 < 9) ∧ Q (.inl (some (.int (nZ (rI σ6 (261 + r5.toNat) x1))))) σ6)))) ∧ (r5 = (-1) → Q (.inl (some (.int (nZ 0)))) σ1)))))) :
    T sc (d + 1) mX10_onAt [.ref 76, .int (nZ x1), .int (nZ x2)] σ Q := by
  refine T.of (c := 10) (code := cX10_onAt) (mL := 4) (rt := (some .int)) (ini := false) (l := [(0, .ref 76), (1, .int (nZ x1)), (2, .int (nZ x2))]) rfl rfl rfl rfl (by decide) hs_X10_onAt rfl rfl ?_
  refine w_aload_n dX10_onAt_0 rfl (List.Mem.head _) ?_
  refine w_iload_n dX10_onAt_1 rfl (List.Mem.tail _ (List.Mem.tail _ (List.Mem.head _))) ?_
  obtain ⟨r5, σ1, hc3, hG2, rr4, h⟩ := h
  refine w_callV dX10_onAt_2 ml_10_230 ⟨ok_X10_sunAt, vi_X10_sunAt⟩ hs_X10_sunAt (As := [.int (nZ x2)]) rfl rfl (gT hG rfl (lt_of rfl)) (Nat.le_of_ble_eq_true rfl) hc3 ?_
  show wp (Ev sc d) 10 cX10_onAt 4 (some .int) false [] sc Q 5 [(0, .ref 76), (1, .int (nZ x1)), (2, .int (nZ x2))] [.int (nZ r5)] σ1
  refine w_istore_n (l' := [(3, .int (nZ r5)), (0, .ref 76), (1, .int (nZ x1)), (2, .int (nZ x2))]) dX10_onAt_5 rfl (by decide) rfl ?_
  refine w_iload_n dX10_onAt_6 rfl (List.Mem.tail _ (List.Mem.tail _ (List.Mem.tail _ (List.Mem.head _)))) ?_
  refine w_aload_n dX10_onAt_7 rfl (List.Mem.tail _ (List.Mem.head _)) ?_
  refine w_getR (ci := 10) (k := 11) (b := 80) dX10_onAt_8 fl_10_23 (by decide) (gT hG2 rfl (lt_of rfl)) (gR hG2 (b := 80) rfl) ?_
  refine w_iconst (v := nZ 3) dX10_onAt_11 (by decide) ?_
  refine i_iald (n := 8) dX10_onAt_12 (gT hG2 rfl (lt_of rfl)) (gL hG2 rfl) (by decide) (by decide) ?_
  refine i_cmp_ge (tgt := 21) dX10_onAt_13 rfl rx2 (rI_R _ _ _) (fun c9 => ?_) (fun c9 => ?_)
  · replace h := h.1 c9
    refine w_iconst (v := nZ 0) dX10_onAt_21 (by decide) ?_
    exact w_iret dX10_onAt_22 rfl h
  · replace h := h.2 c9
    refine w_iload_n dX10_onAt_16 rfl (List.Mem.head _) ?_
    refine w_iconst (v := nZ (-1)) dX10_onAt_17 (by decide) ?_
    refine i_cmp_ne (tgt := 23) dX10_onAt_18 rfl rr4 (by decide) (fun c9 => ?_) (fun c9 => ?_)
    · replace h := h.1 c9
      refine w_aload_n dX10_onAt_23 rfl (List.Mem.tail _ (List.Mem.head _)) ?_
      refine w_iload_n dX10_onAt_24 rfl (List.Mem.head _) ?_
      obtain ⟨σ6, hc8, hG7, h⟩ := h
      refine w_callV dX10_onAt_25 ml_10_258 ⟨ok_X10_throwsBy, vi_X10_throwsBy⟩ hs_X10_throwsBy (As := [.int (nZ r5)]) rfl rfl (gT hG2 rfl (lt_of rfl)) (Nat.le_of_ble_eq_true rfl) hc8 ?_
      show wp (Ev sc d) 10 cX10_onAt 4 (some .int) false [] sc Q 28 [(3, .int (nZ r5)), (0, .ref 76), (1, .int (nZ x1)), (2, .int (nZ x2))] [] σ6
      refine w_aload_n dX10_onAt_28 rfl (List.Mem.tail _ (List.Mem.head _)) ?_
      refine w_getR (ci := 10) (k := 29) (b := 260) dX10_onAt_29 fl_10_55 (by decide) (gT hG7 rfl (lt_of rfl)) (gR hG7 (b := 260) rfl) ?_
      refine w_iload_n dX10_onAt_32 rfl (List.Mem.head _) ?_
      obtain ⟨h9, h⟩ := h
      have hj10 := vin_lt2 (n := 20) h9 rfl
      refine i_aald (n := 20) (b := (261 + r5.toNat)) dX10_onAt_33 (gT hG7 rfl (lt_of rfl)) (gL hG7 rfl) rr4 h9 (gR hG7 (rr_260 hj10)) ?_
      refine w_iload_n dX10_onAt_34 rfl (List.Mem.tail _ (List.Mem.tail _ (List.Mem.head _))) ?_
      obtain ⟨h9, h⟩ := h
      refine i_iald (n := 9) dX10_onAt_35 (gT hG7 (ro_260 _ hj10).1 (by have := hj10; omega)) (gL hG7 (ro_260 _ hj10).2) rx1 h9 ?_
      exact w_iret dX10_onAt_36 rfl h
    · replace h := h.2 c9
      refine w_iconst (v := nZ 0) dX10_onAt_21 (by decide) ?_
      exact w_iret dX10_onAt_22 rfl h
theorem dX10_badTwo_0 : decode cX10_badTwo 0 = .ok (.aload_n 0, 1) := by decide +kernel
theorem dX10_badTwo_1 : decode cX10_badTwo 1 = .ok (.aload_n 0, 1) := by decide +kernel
theorem dX10_badTwo_2 : decode cX10_badTwo 2 = .ok (.iload_n 1, 1) := by decide +kernel
theorem dX10_badTwo_3 : decode cX10_badTwo 3 = .ok (.invokevirtual 236, 3) := by decide +kernel
theorem dX10_badTwo_6 : decode cX10_badTwo 6 = .ok (.ifCond .eq 11, 3) := by decide +kernel
theorem dX10_badTwo_9 : decode cX10_badTwo 9 = .ok (.aload_n 0, 1) := by decide +kernel
theorem dX10_badTwo_10 : decode cX10_badTwo 10 = .ok (.iload_n 2, 1) := by decide +kernel
theorem dX10_badTwo_11 : decode cX10_badTwo 11 = .ok (.invokevirtual 236, 3) := by decide +kernel
theorem dX10_badTwo_14 : decode cX10_badTwo 14 = .ok (.ifCond .ne 7, 3) := by decide +kernel
theorem dX10_badTwo_17 : decode cX10_badTwo 17 = .ok (.iconst 1, 1) := by decide +kernel
theorem dX10_badTwo_18 : decode cX10_badTwo 18 = .ok (.goto 4, 3) := by decide +kernel
theorem dX10_badTwo_21 : decode cX10_badTwo 21 = .ok (.iconst 0, 1) := by decide +kernel
theorem dX10_badTwo_22 : decode cX10_badTwo 22 = .ok (.iconst 1, 1) := by decide +kernel
theorem dX10_badTwo_23 : decode cX10_badTwo 23 = .ok (.iconst 0, 1) := by decide +kernel
theorem dX10_badTwo_24 : decode cX10_badTwo 24 = .ok (.invokevirtual 196, 3) := by decide +kernel
theorem dX10_badTwo_27 : decode cX10_badTwo 27 = .ok (.ireturn, 1) := by decide +kernel
set_option maxRecDepth 10000 in
theorem t_X10_badTwo {sc : Nat × (Nat → Int32)} {d : Nat} {Q : aO → aH → Prop} {σ : aH} {u : Nat}  {x1 : Int} {x2 : Int} (hG : G σ u) (rx1 : inR x1) (rx2 : inR x2)
    (h : (∃ (r5 : Int) (σ1 : aH), Ev sc d mX10_isStall [.ref 76, .int (nZ x1)] σ (.inl (some (.int (nZ r5)))) σ1 ∧ G σ1 u ∧ inR r5 ∧ ((r5 = 0 → (∃ (r10 : Int) (σ6 : aH), Ev sc d mX10_bad [.ref 76, .int (nZ 1), .int (nZ 1), .int (nZ 0)] σ1 (.inl (some (.int (nZ r10)))) σ6 ∧ G σ6 u ∧ inR r10 ∧ ((r10 = 0 ∨ r10 = 1) ∧ Q (.inl (some (.int (nZ r10)))) σ6))) ∧ (¬ (r5 = 0) → (∃ (r15 : Int) (σ11 : aH), Ev sc d mX10_isStall [.ref 76, .int (nZ x2)] σ1 (.inl (some (.int (nZ r15)))) σ11 ∧ G σ11 u ∧ inR r15 ∧ ((¬ r15 = 0 → (∃ (r20 : Int) (σ16 : aH), Ev sc d mX10_bad [.ref 76, .int (nZ 0), .int (nZ 1), .int (nZ 0)] σ11 (.inl (some (.int (nZ r20)))) σ16 ∧ G σ16 u ∧ inR r20 ∧ ((r20 = 0 ∨ r20 = 1) ∧ Q (.inl (some (.int (nZ r20)))) σ16))) ∧ (r15 = 0 → (∃ (r25 : Int) (σ21 : aH), Ev sc d mX10_bad [.ref 76, .int (nZ 1), .int (nZ 1), .int (nZ 0)] σ11 (.inl (some (.int (nZ r25)))) σ21 ∧ G σ21 u ∧ inR r25 ∧ ((r25 = 0 ∨ r25 = 1) ∧ Q (.inl (some (.int (nZ r25)))) σ21))))))))) :
    T sc (d + 1) mX10_badTwo [.ref 76, .int (nZ x1), .int (nZ x2)] σ Q := by
  refine T.of (c := 10) (code := cX10_badTwo) (mL := 3) (rt := (some .boolean)) (ini := false) (l := [(0, .ref 76), (1, .int (nZ x1)), (2, .int (nZ x2))]) rfl rfl rfl rfl (by decide) hs_X10_badTwo rfl rfl ?_
  refine w_aload_n dX10_badTwo_0 rfl (List.Mem.head _) ?_
  refine w_aload_n dX10_badTwo_1 rfl (List.Mem.head _) ?_
  refine w_iload_n dX10_badTwo_2 rfl (List.Mem.tail _ (List.Mem.head _)) ?_
  obtain ⟨r5, σ1, hc3, hG2, rr4, h⟩ := h
  refine w_callV dX10_badTwo_3 ml_10_236 ⟨ok_X10_isStall, vi_X10_isStall⟩ hs_X10_isStall (As := [.int (nZ x1)]) rfl rfl (gT hG rfl (lt_of rfl)) (Nat.le_of_ble_eq_true rfl) hc3 ?_
  show wp (Ev sc d) 10 cX10_badTwo 3 (some .boolean) false [] sc Q 6 [(0, .ref 76), (1, .int (nZ x1)), (2, .int (nZ x2))] [.int (nZ r5), .ref 76] σ1
  refine i_if_eq (tgt := 17) dX10_badTwo_6 rfl rr4 (fun c9 => ?_) (fun c9 => ?_)
  · replace h := h.1 c9
    refine w_iconst (v := nZ 1) dX10_badTwo_17 (by decide) ?_
    refine w_goto (tgt := 22) dX10_badTwo_18 rfl ?_
    refine w_iconst (v := nZ 1) dX10_badTwo_22 (by decide) ?_
    refine w_iconst (v := nZ 0) dX10_badTwo_23 (by decide) ?_
    obtain ⟨r10, σ6, hc8, hG7, rr9, h⟩ := h
    refine w_callV dX10_badTwo_24 ml_10_196 ⟨ok_X10_bad, vi_X10_bad⟩ hs_X10_bad (As := [.int (nZ 1), .int (nZ 1), .int (nZ 0)]) rfl rfl (gT hG2 rfl (lt_of rfl)) (Nat.le_of_ble_eq_true rfl) hc8 ?_
    show wp (Ev sc d) 10 cX10_badTwo 3 (some .boolean) false [] sc Q 27 [(0, .ref 76), (1, .int (nZ x1)), (2, .int (nZ x2))] [.int (nZ r10)] σ6
    exact i_zret dX10_badTwo_27 rfl h.1 h.2
  · replace h := h.2 c9
    refine w_aload_n dX10_badTwo_9 rfl (List.Mem.head _) ?_
    refine w_iload_n dX10_badTwo_10 rfl (List.Mem.tail _ (List.Mem.tail _ (List.Mem.head _))) ?_
    obtain ⟨r15, σ11, hc13, hG12, rr14, h⟩ := h
    refine w_callV dX10_badTwo_11 ml_10_236 ⟨ok_X10_isStall, vi_X10_isStall⟩ hs_X10_isStall (As := [.int (nZ x2)]) rfl rfl (gT hG2 rfl (lt_of rfl)) (Nat.le_of_ble_eq_true rfl) hc13 ?_
    show wp (Ev sc d) 10 cX10_badTwo 3 (some .boolean) false [] sc Q 14 [(0, .ref 76), (1, .int (nZ x1)), (2, .int (nZ x2))] [.int (nZ r15), .ref 76] σ11
    refine i_if_ne (tgt := 21) dX10_badTwo_14 rfl rr14 (fun c9 => ?_) (fun c9 => ?_)
    · replace h := h.1 c9
      refine w_iconst (v := nZ 0) dX10_badTwo_21 (by decide) ?_
      refine w_iconst (v := nZ 1) dX10_badTwo_22 (by decide) ?_
      refine w_iconst (v := nZ 0) dX10_badTwo_23 (by decide) ?_
      obtain ⟨r20, σ16, hc18, hG17, rr19, h⟩ := h
      refine w_callV dX10_badTwo_24 ml_10_196 ⟨ok_X10_bad, vi_X10_bad⟩ hs_X10_bad (As := [.int (nZ 0), .int (nZ 1), .int (nZ 0)]) rfl rfl (gT hG12 rfl (lt_of rfl)) (Nat.le_of_ble_eq_true rfl) hc18 ?_
      show wp (Ev sc d) 10 cX10_badTwo 3 (some .boolean) false [] sc Q 27 [(0, .ref 76), (1, .int (nZ x1)), (2, .int (nZ x2))] [.int (nZ r20)] σ16
      exact i_zret dX10_badTwo_27 rfl h.1 h.2
    · replace h := h.2 c9
      refine w_iconst (v := nZ 1) dX10_badTwo_17 (by decide) ?_
      refine w_goto (tgt := 22) dX10_badTwo_18 rfl ?_
      refine w_iconst (v := nZ 1) dX10_badTwo_22 (by decide) ?_
      refine w_iconst (v := nZ 0) dX10_badTwo_23 (by decide) ?_
      obtain ⟨r25, σ21, hc23, hG22, rr24, h⟩ := h
      refine w_callV dX10_badTwo_24 ml_10_196 ⟨ok_X10_bad, vi_X10_bad⟩ hs_X10_bad (As := [.int (nZ 1), .int (nZ 1), .int (nZ 0)]) rfl rfl (gT hG12 rfl (lt_of rfl)) (Nat.le_of_ble_eq_true rfl) hc23 ?_
      show wp (Ev sc d) 10 cX10_badTwo 3 (some .boolean) false [] sc Q 27 [(0, .ref 76), (1, .int (nZ x1)), (2, .int (nZ x2))] [.int (nZ r25)] σ21
      exact i_zret dX10_badTwo_27 rfl h.1 h.2
theorem dX10_shades_0 : decode cX10_shades 0 = .ok (.aload_n 0, 1) := by decide +kernel
theorem dX10_shades_1 : decode cX10_shades 1 = .ok (.iconst 0, 1) := by decide +kernel
theorem dX10_shades_2 : decode cX10_shades 2 = .ok (.putfield 106, 3) := by decide +kernel
theorem dX10_shades_5 : decode cX10_shades 5 = .ok (.aload_n 0, 1) := by decide +kernel
theorem dX10_shades_6 : decode cX10_shades 6 = .ok (.iload_n 1, 1) := by decide +kernel
theorem dX10_shades_7 : decode cX10_shades 7 = .ok (.iload_n 2, 1) := by decide +kernel
theorem dX10_shades_8 : decode cX10_shades 8 = .ok (.invokevirtual 275, 3) := by decide +kernel
theorem dX10_shades_11 : decode cX10_shades 11 = .ok (.ifCond .ne 29, 3) := by decide +kernel
theorem dX10_shades_14 : decode cX10_shades 14 = .ok (.aload_n 0, 1) := by decide +kernel
theorem dX10_shades_15 : decode cX10_shades 15 = .ok (.iload_n 1, 1) := by decide +kernel
theorem dX10_shades_16 : decode cX10_shades 16 = .ok (.iload_n 2, 1) := by decide +kernel
theorem dX10_shades_17 : decode cX10_shades 17 = .ok (.if_icmp .eq 10, 3) := by decide +kernel
theorem dX10_shades_20 : decode cX10_shades 20 = .ok (.iload_n 3, 1) := by decide +kernel
theorem dX10_shades_21 : decode cX10_shades 21 = .ok (.invokestatic 272, 3) := by decide +kernel
theorem dX10_shades_24 : decode cX10_shades 24 = .ok (.ifCond .ne 7, 3) := by decide +kernel
theorem dX10_shades_27 : decode cX10_shades 27 = .ok (.iconst 1, 1) := by decide +kernel
theorem dX10_shades_28 : decode cX10_shades 28 = .ok (.goto 4, 3) := by decide +kernel
theorem dX10_shades_31 : decode cX10_shades 31 = .ok (.iconst 0, 1) := by decide +kernel
theorem dX10_shades_32 : decode cX10_shades 32 = .ok (.iconst 2, 1) := by decide +kernel
theorem dX10_shades_33 : decode cX10_shades 33 = .ok (.iconst 1, 1) := by decide +kernel
theorem dX10_shades_34 : decode cX10_shades 34 = .ok (.invokevirtual 196, 3) := by decide +kernel
theorem dX10_shades_37 : decode cX10_shades 37 = .ok (.ifCond .eq 5, 3) := by decide +kernel
theorem dX10_shades_40 : decode cX10_shades 40 = .ok (.iconst 0, 1) := by decide +kernel
theorem dX10_shades_41 : decode cX10_shades 41 = .ok (.ireturn, 1) := by decide +kernel
theorem dX10_shades_42 : decode cX10_shades 42 = .ok (.aload_n 0, 1) := by decide +kernel
theorem dX10_shades_43 : decode cX10_shades 43 = .ok (.iload_n 2, 1) := by decide +kernel
theorem dX10_shades_44 : decode cX10_shades 44 = .ok (.iload_n 3, 1) := by decide +kernel
theorem dX10_shades_45 : decode cX10_shades 45 = .ok (.invokevirtual 278, 3) := by decide +kernel
theorem dX10_shades_48 : decode cX10_shades 48 = .ok (.iload_n 1, 1) := by decide +kernel
theorem dX10_shades_49 : decode cX10_shades 49 = .ok (.ishr, 1) := by decide +kernel
theorem dX10_shades_50 : decode cX10_shades 50 = .ok (.iconst 1, 1) := by decide +kernel
theorem dX10_shades_51 : decode cX10_shades 51 = .ok (.iand, 1) := by decide +kernel
theorem dX10_shades_52 : decode cX10_shades 52 = .ok (.iconst 1, 1) := by decide +kernel
theorem dX10_shades_53 : decode cX10_shades 53 = .ok (.if_icmp .ne 7, 3) := by decide +kernel
theorem dX10_shades_56 : decode cX10_shades 56 = .ok (.iconst 1, 1) := by decide +kernel
theorem dX10_shades_57 : decode cX10_shades 57 = .ok (.goto 4, 3) := by decide +kernel
theorem dX10_shades_60 : decode cX10_shades 60 = .ok (.iconst 0, 1) := by decide +kernel
theorem dX10_shades_61 : decode cX10_shades 61 = .ok (.ireturn, 1) := by decide +kernel
def L_X10_shades_32 (C : aM → List Value → aH → aO → aH → Prop) (sc : Nat × (Nat → Int32)) (P : aO → aH → Prop) (x1 : Int) (x2 : Int) (x3 : Int) (s0 : Int) (σ : aH) : Prop :=
    wp C 10 cX10_shades 4 (some .boolean) false [] sc P 32 [(0, .ref 76), (1, .int (nZ x1)), (2, .int (nZ x2)), (3, .int (nZ x3))] [.int (nZ s0), .ref 76] σ
set_option maxRecDepth 10000 in
theorem t_X10_shades {sc : Nat × (Nat → Int32)} {d : Nat} {Q : aO → aH → Prop} {σ : aH} {u : Nat}  {x1 : Int} {x2 : Int} {x3 : Int} (hG : G σ u) (rx1 : inR x1) (rx2 : inR x2) (rx3 : inR x3)
    (h : (∀ σ1 : aH, wI σ 76 0 0 = σ1 → (∃ (r8 : Int) (σ4 : aH), Ev sc d mX10_badTwo [.ref 76, .int (nZ x1), .int (nZ x2)] σ1 (.inl (some (.int (nZ r8)))) σ4 ∧ G σ4 u ∧ inR r8 ∧ ((¬ r8 = 0 → Q (.inl (some (.int (nZ 0)))) σ4) ∧ (r8 = 0 → ((x1 = x2 → L_X10_shades_32 (Ev sc d) sc Q x1 x2 x3 1 σ4) ∧ (¬ (x1 = x2) → (∃ (r13 : Int) (σ9 : aH), Ev sc d mX10_isMinute [.int (nZ x3)] σ4 (.inl (some (.int (nZ r13)))) σ9 ∧ G σ9 u ∧ inR r13 ∧ ((¬ r13 = 0 → L_X10_shades_32 (Ev sc d) sc Q x1 x2 x3 0 σ9) ∧ (r13 = 0 → L_X10_shades_32 (Ev sc d) sc Q x1 x2 x3 1 σ9)))))))))) :
    T sc (d + 1) mX10_shades [.ref 76, .int (nZ x1), .int (nZ x2), .int (nZ x3)] σ Q := by
  refine T.of (c := 10) (code := cX10_shades) (mL := 4) (rt := (some .boolean)) (ini := false) (l := [(0, .ref 76), (1, .int (nZ x1)), (2, .int (nZ x2)), (3, .int (nZ x3))]) rfl rfl rfl rfl (by decide) hs_X10_shades rfl rfl ?_
  refine w_aload_n dX10_shades_0 rfl (List.Mem.head _) ?_
  refine w_iconst (v := nZ 0) dX10_shades_1 (by decide) ?_
  refine i_putI (ci := 10) 0 rfl dX10_shades_2 fl_10_106 (by decide) (gT hG rfl (lt_of rfl)) (fun σ1 eσ2 => ?_)
  replace h := h σ1 eσ2
  have hG3 : G σ1 u := eσ2 ▸ G.wI hG
  refine w_aload_n dX10_shades_5 rfl (List.Mem.head _) ?_
  refine w_iload_n dX10_shades_6 rfl (List.Mem.tail _ (List.Mem.head _)) ?_
  refine w_iload_n dX10_shades_7 rfl (List.Mem.tail _ (List.Mem.tail _ (List.Mem.head _))) ?_
  obtain ⟨r8, σ4, hc6, hG5, rr7, h⟩ := h
  refine w_callV dX10_shades_8 ml_10_275 ⟨ok_X10_badTwo, vi_X10_badTwo⟩ hs_X10_badTwo (As := [.int (nZ x1), .int (nZ x2)]) rfl rfl (gT hG3 rfl (lt_of rfl)) (Nat.le_of_ble_eq_true rfl) hc6 ?_
  show wp (Ev sc d) 10 cX10_shades 4 (some .boolean) false [] sc Q 11 [(0, .ref 76), (1, .int (nZ x1)), (2, .int (nZ x2)), (3, .int (nZ x3))] [.int (nZ r8)] σ4
  refine i_if_ne (tgt := 40) dX10_shades_11 rfl rr7 (fun c9 => ?_) (fun c9 => ?_)
  · replace h := h.1 c9
    refine w_iconst (v := nZ 0) dX10_shades_40 (by decide) ?_
    exact i_zret dX10_shades_41 rfl (by decide) h
  · replace h := h.2 c9
    refine w_aload_n dX10_shades_14 rfl (List.Mem.head _) ?_
    refine w_iload_n dX10_shades_15 rfl (List.Mem.tail _ (List.Mem.head _)) ?_
    refine w_iload_n dX10_shades_16 rfl (List.Mem.tail _ (List.Mem.tail _ (List.Mem.head _))) ?_
    refine i_cmp_eq (tgt := 27) dX10_shades_17 rfl rx1 rx2 (fun c9 => ?_) (fun c9 => ?_)
    · replace h := h.1 c9
      refine w_iconst (v := nZ 1) dX10_shades_27 (by decide) ?_
      refine w_goto (tgt := 32) dX10_shades_28 rfl ?_
      exact h
    · replace h := h.2 c9
      refine w_iload_n dX10_shades_20 rfl (List.Mem.tail _ (List.Mem.tail _ (List.Mem.tail _ (List.Mem.head _)))) ?_
      obtain ⟨r13, σ9, hc11, hG10, rr12, h⟩ := h
      refine w_callS dX10_shades_21 ml_10_272 ⟨ok_X10_isMinute, st_X10_isMinute⟩ hs_X10_isMinute (As := [.int (nZ x3)]) rfl rfl (Nat.le_of_ble_eq_true rfl) hc11 ?_
      show wp (Ev sc d) 10 cX10_shades 4 (some .boolean) false [] sc Q 24 [(0, .ref 76), (1, .int (nZ x1)), (2, .int (nZ x2)), (3, .int (nZ x3))] [.int (nZ r13), .ref 76] σ9
      refine i_if_ne (tgt := 31) dX10_shades_24 rfl rr12 (fun c9 => ?_) (fun c9 => ?_)
      · replace h := h.1 c9
        refine w_iconst (v := nZ 0) dX10_shades_31 (by decide) ?_
        exact h
      · replace h := h.2 c9
        refine w_iconst (v := nZ 1) dX10_shades_27 (by decide) ?_
        refine w_goto (tgt := 32) dX10_shades_28 rfl ?_
        exact h
set_option maxRecDepth 10000 in
theorem v_X10_shades_32 {C : aM → List Value → aH → aO → aH → Prop} {sc : Nat × (Nat → Int32)} {P : aO → aH → Prop} {σ : aH} {u : Nat}  {x1 : Int} {x2 : Int} {x3 : Int} {s0 : Int} (hG : G σ u) (rx1 : inR x1) (rx2 : inR x2) (rx3 : inR x3) (rs0 : inR s0)
    (h : (∃ (r5 : Int) (σ1 : aH), C mX10_bad [.ref 76, .int (nZ s0), .int (nZ 2), .int (nZ 1)] σ (.inl (some (.int (nZ r5)))) σ1 ∧ G σ1 u ∧ inR r5 ∧ ((r5 = 0 → (∃ (r10 : Int) (σ6 : aH), C mX10_onAt [.ref 76, .int (nZ x2), .int (nZ x3)] σ1 (.inl (some (.int (nZ r10)))) σ6 ∧ G σ6 u ∧ inR r10 ∧ ((¬ (zAnd (zShr r10 x1) 1) = 1 → P (.inl (some (.int (nZ 0)))) σ6) ∧ ((zAnd (zShr r10 x1) 1) = 1 → P (.inl (some (.int (nZ 1)))) σ6)))) ∧ (¬ (r5 = 0) → P (.inl (some (.int (nZ 0)))) σ1)))) :
    L_X10_shades_32 C sc P x1 x2 x3 s0 σ := by
  unfold L_X10_shades_32
  refine w_iconst (v := nZ 2) dX10_shades_32 (by decide) ?_
  refine w_iconst (v := nZ 1) dX10_shades_33 (by decide) ?_
  obtain ⟨r5, σ1, hc3, hG2, rr4, h⟩ := h
  refine w_callV dX10_shades_34 ml_10_196 ⟨ok_X10_bad, vi_X10_bad⟩ hs_X10_bad (As := [.int (nZ s0), .int (nZ 2), .int (nZ 1)]) rfl rfl (gT hG rfl (lt_of rfl)) (Nat.le_of_ble_eq_true rfl) hc3 ?_
  show wp C 10 cX10_shades 4 (some .boolean) false [] sc P 37 [(0, .ref 76), (1, .int (nZ x1)), (2, .int (nZ x2)), (3, .int (nZ x3))] [.int (nZ r5)] σ1
  refine i_if_eq (tgt := 42) dX10_shades_37 rfl rr4 (fun c9 => ?_) (fun c9 => ?_)
  · replace h := h.1 c9
    refine w_aload_n dX10_shades_42 rfl (List.Mem.head _) ?_
    refine w_iload_n dX10_shades_43 rfl (List.Mem.tail _ (List.Mem.tail _ (List.Mem.head _))) ?_
    refine w_iload_n dX10_shades_44 rfl (List.Mem.tail _ (List.Mem.tail _ (List.Mem.tail _ (List.Mem.head _)))) ?_
    obtain ⟨r10, σ6, hc8, hG7, rr9, h⟩ := h
    refine w_callV dX10_shades_45 ml_10_278 ⟨ok_X10_onAt, vi_X10_onAt⟩ hs_X10_onAt (As := [.int (nZ x2), .int (nZ x3)]) rfl rfl (gT hG2 rfl (lt_of rfl)) (Nat.le_of_ble_eq_true rfl) hc8 ?_
    show wp C 10 cX10_shades 4 (some .boolean) false [] sc P 48 [(0, .ref 76), (1, .int (nZ x1)), (2, .int (nZ x2)), (3, .int (nZ x3))] [.int (nZ r10)] σ6
    refine w_iload_n dX10_shades_48 rfl (List.Mem.tail _ (List.Mem.head _)) ?_
    refine i_shr dX10_shades_49 ?_
    refine w_iconst (v := nZ 1) dX10_shades_50 (by decide) ?_
    refine i_and dX10_shades_51 ?_
    refine w_iconst (v := nZ 1) dX10_shades_52 (by decide) ?_
    refine i_cmp_ne (tgt := 60) dX10_shades_53 rfl (zAnd_R _ _) (by decide) (fun c9 => ?_) (fun c9 => ?_)
    · replace h := h.1 c9
      refine w_iconst (v := nZ 0) dX10_shades_60 (by decide) ?_
      exact i_zret dX10_shades_61 rfl (by decide) h
    · replace h := h.2 c9
      refine w_iconst (v := nZ 1) dX10_shades_56 (by decide) ?_
      refine w_goto (tgt := 61) dX10_shades_57 rfl ?_
      exact i_zret dX10_shades_61 rfl (by decide) h
  · replace h := h.2 c9
    refine w_iconst (v := nZ 0) dX10_shades_40 (by decide) ?_
    exact i_zret dX10_shades_41 rfl (by decide) h
theorem dX10_under_0 : decode cX10_under 0 = .ok (.aload_n 0, 1) := by decide +kernel
theorem dX10_under_1 : decode cX10_under 1 = .ok (.iconst 0, 1) := by decide +kernel
theorem dX10_under_2 : decode cX10_under 2 = .ok (.putfield 106, 3) := by decide +kernel
theorem dX10_under_5 : decode cX10_under 5 = .ok (.aload_n 0, 1) := by decide +kernel
theorem dX10_under_6 : decode cX10_under 6 = .ok (.aload_n 0, 1) := by decide +kernel
theorem dX10_under_7 : decode cX10_under 7 = .ok (.iload_n 1, 1) := by decide +kernel
theorem dX10_under_8 : decode cX10_under 8 = .ok (.invokevirtual 236, 3) := by decide +kernel
theorem dX10_under_11 : decode cX10_under 11 = .ok (.ifCond .ne 7, 3) := by decide +kernel
theorem dX10_under_14 : decode cX10_under 14 = .ok (.iconst 1, 1) := by decide +kernel
theorem dX10_under_15 : decode cX10_under 15 = .ok (.goto 4, 3) := by decide +kernel
theorem dX10_under_18 : decode cX10_under 18 = .ok (.iconst 0, 1) := by decide +kernel
theorem dX10_under_19 : decode cX10_under 19 = .ok (.iconst 1, 1) := by decide +kernel
theorem dX10_under_20 : decode cX10_under 20 = .ok (.iconst 0, 1) := by decide +kernel
theorem dX10_under_21 : decode cX10_under 21 = .ok (.invokevirtual 196, 3) := by decide +kernel
theorem dX10_under_24 : decode cX10_under 24 = .ok (.ifCond .ne 24, 3) := by decide +kernel
theorem dX10_under_27 : decode cX10_under 27 = .ok (.aload_n 0, 1) := by decide +kernel
theorem dX10_under_28 : decode cX10_under 28 = .ok (.iload_n 2, 1) := by decide +kernel
theorem dX10_under_29 : decode cX10_under 29 = .ok (.invokestatic 272, 3) := by decide +kernel
theorem dX10_under_32 : decode cX10_under 32 = .ok (.ifCond .ne 7, 3) := by decide +kernel
theorem dX10_under_35 : decode cX10_under 35 = .ok (.iconst 1, 1) := by decide +kernel
theorem dX10_under_36 : decode cX10_under 36 = .ok (.goto 4, 3) := by decide +kernel
theorem dX10_under_39 : decode cX10_under 39 = .ok (.iconst 0, 1) := by decide +kernel
theorem dX10_under_40 : decode cX10_under 40 = .ok (.iconst 2, 1) := by decide +kernel
theorem dX10_under_41 : decode cX10_under 41 = .ok (.iconst 1, 1) := by decide +kernel
theorem dX10_under_42 : decode cX10_under 42 = .ok (.invokevirtual 196, 3) := by decide +kernel
theorem dX10_under_45 : decode cX10_under 45 = .ok (.ifCond .eq 5, 3) := by decide +kernel
theorem dX10_under_48 : decode cX10_under 48 = .ok (.iconst 0, 1) := by decide +kernel
theorem dX10_under_49 : decode cX10_under 49 = .ok (.ireturn, 1) := by decide +kernel
theorem dX10_under_50 : decode cX10_under 50 = .ok (.aload_n 0, 1) := by decide +kernel
theorem dX10_under_51 : decode cX10_under 51 = .ok (.iload_n 1, 1) := by decide +kernel
theorem dX10_under_52 : decode cX10_under 52 = .ok (.iload_n 2, 1) := by decide +kernel
theorem dX10_under_53 : decode cX10_under 53 = .ok (.invokevirtual 278, 3) := by decide +kernel
theorem dX10_under_56 : decode cX10_under 56 = .ok (.ireturn, 1) := by decide +kernel
def L_X10_under_19 (C : aM → List Value → aH → aO → aH → Prop) (sc : Nat × (Nat → Int32)) (P : aO → aH → Prop) (x1 : Int) (x2 : Int) (s0 : Int) (σ : aH) : Prop :=
    wp C 10 cX10_under 3 (some .int) false [] sc P 19 [(0, .ref 76), (1, .int (nZ x1)), (2, .int (nZ x2))] [.int (nZ s0), .ref 76] σ
set_option maxRecDepth 10000 in
theorem t_X10_under {sc : Nat × (Nat → Int32)} {d : Nat} {Q : aO → aH → Prop} {σ : aH} {u : Nat}  {x1 : Int} {x2 : Int} (hG : G σ u) (rx1 : inR x1) (rx2 : inR x2)
    (h : (∀ σ1 : aH, wI σ 76 0 0 = σ1 → (∃ (r8 : Int) (σ4 : aH), Ev sc d mX10_isStall [.ref 76, .int (nZ x1)] σ1 (.inl (some (.int (nZ r8)))) σ4 ∧ G σ4 u ∧ inR r8 ∧ ((¬ r8 = 0 → L_X10_under_19 (Ev sc d) sc Q x1 x2 0 σ4) ∧ (r8 = 0 → L_X10_under_19 (Ev sc d) sc Q x1 x2 1 σ4))))) :
    T sc (d + 1) mX10_under [.ref 76, .int (nZ x1), .int (nZ x2)] σ Q := by
  refine T.of (c := 10) (code := cX10_under) (mL := 3) (rt := (some .int)) (ini := false) (l := [(0, .ref 76), (1, .int (nZ x1)), (2, .int (nZ x2))]) rfl rfl rfl rfl (by decide) hs_X10_under rfl rfl ?_
  refine w_aload_n dX10_under_0 rfl (List.Mem.head _) ?_
  refine w_iconst (v := nZ 0) dX10_under_1 (by decide) ?_
  refine i_putI (ci := 10) 0 rfl dX10_under_2 fl_10_106 (by decide) (gT hG rfl (lt_of rfl)) (fun σ1 eσ2 => ?_)
  replace h := h σ1 eσ2
  have hG3 : G σ1 u := eσ2 ▸ G.wI hG
  refine w_aload_n dX10_under_5 rfl (List.Mem.head _) ?_
  refine w_aload_n dX10_under_6 rfl (List.Mem.head _) ?_
  refine w_iload_n dX10_under_7 rfl (List.Mem.tail _ (List.Mem.head _)) ?_
  obtain ⟨r8, σ4, hc6, hG5, rr7, h⟩ := h
  refine w_callV dX10_under_8 ml_10_236 ⟨ok_X10_isStall, vi_X10_isStall⟩ hs_X10_isStall (As := [.int (nZ x1)]) rfl rfl (gT hG3 rfl (lt_of rfl)) (Nat.le_of_ble_eq_true rfl) hc6 ?_
  show wp (Ev sc d) 10 cX10_under 3 (some .int) false [] sc Q 11 [(0, .ref 76), (1, .int (nZ x1)), (2, .int (nZ x2))] [.int (nZ r8), .ref 76] σ4
  refine i_if_ne (tgt := 18) dX10_under_11 rfl rr7 (fun c9 => ?_) (fun c9 => ?_)
  · replace h := h.1 c9
    refine w_iconst (v := nZ 0) dX10_under_18 (by decide) ?_
    exact h
  · replace h := h.2 c9
    refine w_iconst (v := nZ 1) dX10_under_14 (by decide) ?_
    refine w_goto (tgt := 19) dX10_under_15 rfl ?_
    exact h
set_option maxRecDepth 10000 in
theorem v_X10_under_19 {C : aM → List Value → aH → aO → aH → Prop} {sc : Nat × (Nat → Int32)} {P : aO → aH → Prop} {σ : aH} {u : Nat}  {x1 : Int} {x2 : Int} {s0 : Int} (hG : G σ u) (rx1 : inR x1) (rx2 : inR x2) (rs0 : inR s0)
    (h : (∃ (r5 : Int) (σ1 : aH), C mX10_bad [.ref 76, .int (nZ s0), .int (nZ 1), .int (nZ 0)] σ (.inl (some (.int (nZ r5)))) σ1 ∧ G σ1 u ∧ inR r5 ∧ ((¬ r5 = 0 → P (.inl (some (.int (nZ 0)))) σ1) ∧ (r5 = 0 → (∃ (r10 : Int) (σ6 : aH), C mX10_isMinute [.int (nZ x2)] σ1 (.inl (some (.int (nZ r10)))) σ6 ∧ G σ6 u ∧ inR r10 ∧ ((¬ r10 = 0 → (∃ (r15 : Int) (σ11 : aH), C mX10_bad [.ref 76, .int (nZ 0), .int (nZ 2), .int (nZ 1)] σ6 (.inl (some (.int (nZ r15)))) σ11 ∧ G σ11 u ∧ inR r15 ∧ ((r15 = 0 → (∃ (r20 : Int) (σ16 : aH), C mX10_onAt [.ref 76, .int (nZ x1), .int (nZ x2)] σ11 (.inl (some (.int (nZ r20)))) σ16 ∧ G σ16 u ∧ inR r20 ∧ P (.inl (some (.int (nZ r20)))) σ16)) ∧ (¬ (r15 = 0) → P (.inl (some (.int (nZ 0)))) σ11)))) ∧ (r10 = 0 → (∃ (r25 : Int) (σ21 : aH), C mX10_bad [.ref 76, .int (nZ 1), .int (nZ 2), .int (nZ 1)] σ6 (.inl (some (.int (nZ r25)))) σ21 ∧ G σ21 u ∧ inR r25 ∧ ((r25 = 0 → (∃ (r30 : Int) (σ26 : aH), C mX10_onAt [.ref 76, .int (nZ x1), .int (nZ x2)] σ21 (.inl (some (.int (nZ r30)))) σ26 ∧ G σ26 u ∧ inR r30 ∧ P (.inl (some (.int (nZ r30)))) σ26)) ∧ (¬ (r25 = 0) → P (.inl (some (.int (nZ 0)))) σ21)))))))))) :
    L_X10_under_19 C sc P x1 x2 s0 σ := by
  unfold L_X10_under_19
  refine w_iconst (v := nZ 1) dX10_under_19 (by decide) ?_
  refine w_iconst (v := nZ 0) dX10_under_20 (by decide) ?_
  obtain ⟨r5, σ1, hc3, hG2, rr4, h⟩ := h
  refine w_callV dX10_under_21 ml_10_196 ⟨ok_X10_bad, vi_X10_bad⟩ hs_X10_bad (As := [.int (nZ s0), .int (nZ 1), .int (nZ 0)]) rfl rfl (gT hG rfl (lt_of rfl)) (Nat.le_of_ble_eq_true rfl) hc3 ?_
  show wp C 10 cX10_under 3 (some .int) false [] sc P 24 [(0, .ref 76), (1, .int (nZ x1)), (2, .int (nZ x2))] [.int (nZ r5)] σ1
  refine i_if_ne (tgt := 48) dX10_under_24 rfl rr4 (fun c9 => ?_) (fun c9 => ?_)
  · replace h := h.1 c9
    refine w_iconst (v := nZ 0) dX10_under_48 (by decide) ?_
    exact w_iret dX10_under_49 rfl h
  · replace h := h.2 c9
    refine w_aload_n dX10_under_27 rfl (List.Mem.head _) ?_
    refine w_iload_n dX10_under_28 rfl (List.Mem.tail _ (List.Mem.tail _ (List.Mem.head _))) ?_
    obtain ⟨r10, σ6, hc8, hG7, rr9, h⟩ := h
    refine w_callS dX10_under_29 ml_10_272 ⟨ok_X10_isMinute, st_X10_isMinute⟩ hs_X10_isMinute (As := [.int (nZ x2)]) rfl rfl (Nat.le_of_ble_eq_true rfl) hc8 ?_
    show wp C 10 cX10_under 3 (some .int) false [] sc P 32 [(0, .ref 76), (1, .int (nZ x1)), (2, .int (nZ x2))] [.int (nZ r10), .ref 76] σ6
    refine i_if_ne (tgt := 39) dX10_under_32 rfl rr9 (fun c9 => ?_) (fun c9 => ?_)
    · replace h := h.1 c9
      refine w_iconst (v := nZ 0) dX10_under_39 (by decide) ?_
      refine w_iconst (v := nZ 2) dX10_under_40 (by decide) ?_
      refine w_iconst (v := nZ 1) dX10_under_41 (by decide) ?_
      obtain ⟨r15, σ11, hc13, hG12, rr14, h⟩ := h
      refine w_callV dX10_under_42 ml_10_196 ⟨ok_X10_bad, vi_X10_bad⟩ hs_X10_bad (As := [.int (nZ 0), .int (nZ 2), .int (nZ 1)]) rfl rfl (gT hG7 rfl (lt_of rfl)) (Nat.le_of_ble_eq_true rfl) hc13 ?_
      show wp C 10 cX10_under 3 (some .int) false [] sc P 45 [(0, .ref 76), (1, .int (nZ x1)), (2, .int (nZ x2))] [.int (nZ r15)] σ11
      refine i_if_eq (tgt := 50) dX10_under_45 rfl rr14 (fun c9 => ?_) (fun c9 => ?_)
      · replace h := h.1 c9
        refine w_aload_n dX10_under_50 rfl (List.Mem.head _) ?_
        refine w_iload_n dX10_under_51 rfl (List.Mem.tail _ (List.Mem.head _)) ?_
        refine w_iload_n dX10_under_52 rfl (List.Mem.tail _ (List.Mem.tail _ (List.Mem.head _))) ?_
        obtain ⟨r20, σ16, hc18, hG17, rr19, h⟩ := h
        refine w_callV dX10_under_53 ml_10_278 ⟨ok_X10_onAt, vi_X10_onAt⟩ hs_X10_onAt (As := [.int (nZ x1), .int (nZ x2)]) rfl rfl (gT hG12 rfl (lt_of rfl)) (Nat.le_of_ble_eq_true rfl) hc18 ?_
        show wp C 10 cX10_under 3 (some .int) false [] sc P 56 [(0, .ref 76), (1, .int (nZ x1)), (2, .int (nZ x2))] [.int (nZ r20)] σ16
        exact w_iret dX10_under_56 rfl h
      · replace h := h.2 c9
        refine w_iconst (v := nZ 0) dX10_under_48 (by decide) ?_
        exact w_iret dX10_under_49 rfl h
    · replace h := h.2 c9
      refine w_iconst (v := nZ 1) dX10_under_35 (by decide) ?_
      refine w_goto (tgt := 40) dX10_under_36 rfl ?_
      refine w_iconst (v := nZ 2) dX10_under_40 (by decide) ?_
      refine w_iconst (v := nZ 1) dX10_under_41 (by decide) ?_
      obtain ⟨r25, σ21, hc23, hG22, rr24, h⟩ := h
      refine w_callV dX10_under_42 ml_10_196 ⟨ok_X10_bad, vi_X10_bad⟩ hs_X10_bad (As := [.int (nZ 1), .int (nZ 2), .int (nZ 1)]) rfl rfl (gT hG7 rfl (lt_of rfl)) (Nat.le_of_ble_eq_true rfl) hc23 ?_
      show wp C 10 cX10_under 3 (some .int) false [] sc P 45 [(0, .ref 76), (1, .int (nZ x1)), (2, .int (nZ x2))] [.int (nZ r25)] σ21
      refine i_if_eq (tgt := 50) dX10_under_45 rfl rr24 (fun c9 => ?_) (fun c9 => ?_)
      · replace h := h.1 c9
        refine w_aload_n dX10_under_50 rfl (List.Mem.head _) ?_
        refine w_iload_n dX10_under_51 rfl (List.Mem.tail _ (List.Mem.head _)) ?_
        refine w_iload_n dX10_under_52 rfl (List.Mem.tail _ (List.Mem.tail _ (List.Mem.head _))) ?_
        obtain ⟨r30, σ26, hc28, hG27, rr29, h⟩ := h
        refine w_callV dX10_under_53 ml_10_278 ⟨ok_X10_onAt, vi_X10_onAt⟩ hs_X10_onAt (As := [.int (nZ x1), .int (nZ x2)]) rfl rfl (gT hG22 rfl (lt_of rfl)) (Nat.le_of_ble_eq_true rfl) hc28 ?_
        show wp C 10 cX10_under 3 (some .int) false [] sc P 56 [(0, .ref 76), (1, .int (nZ x1)), (2, .int (nZ x2))] [.int (nZ r30)] σ26
        exact w_iret dX10_under_56 rfl h
      · replace h := h.2 c9
        refine w_iconst (v := nZ 0) dX10_under_48 (by decide) ?_
        exact w_iret dX10_under_49 rfl h
theorem dX10_minutes_0 : decode cX10_minutes 0 = .ok (.aload_n 0, 1) := by decide +kernel
theorem dX10_minutes_1 : decode cX10_minutes 1 = .ok (.iconst 0, 1) := by decide +kernel
theorem dX10_minutes_2 : decode cX10_minutes 2 = .ok (.putfield 106, 3) := by decide +kernel
theorem dX10_minutes_5 : decode cX10_minutes 5 = .ok (.aload_n 0, 1) := by decide +kernel
theorem dX10_minutes_6 : decode cX10_minutes 6 = .ok (.iload_n 1, 1) := by decide +kernel
theorem dX10_minutes_7 : decode cX10_minutes 7 = .ok (.iload_n 2, 1) := by decide +kernel
theorem dX10_minutes_8 : decode cX10_minutes 8 = .ok (.invokevirtual 275, 3) := by decide +kernel
theorem dX10_minutes_11 : decode cX10_minutes 11 = .ok (.ifCond .ne 22, 3) := by decide +kernel
theorem dX10_minutes_14 : decode cX10_minutes 14 = .ok (.aload_n 0, 1) := by decide +kernel
theorem dX10_minutes_15 : decode cX10_minutes 15 = .ok (.iload_n 1, 1) := by decide +kernel
theorem dX10_minutes_16 : decode cX10_minutes 16 = .ok (.iload_n 2, 1) := by decide +kernel
theorem dX10_minutes_17 : decode cX10_minutes 17 = .ok (.if_icmp .ne 7, 3) := by decide +kernel
theorem dX10_minutes_20 : decode cX10_minutes 20 = .ok (.iconst 1, 1) := by decide +kernel
theorem dX10_minutes_21 : decode cX10_minutes 21 = .ok (.goto 4, 3) := by decide +kernel
theorem dX10_minutes_24 : decode cX10_minutes 24 = .ok (.iconst 0, 1) := by decide +kernel
theorem dX10_minutes_25 : decode cX10_minutes 25 = .ok (.iconst 2, 1) := by decide +kernel
theorem dX10_minutes_26 : decode cX10_minutes 26 = .ok (.iconst 1, 1) := by decide +kernel
theorem dX10_minutes_27 : decode cX10_minutes 27 = .ok (.invokevirtual 196, 3) := by decide +kernel
theorem dX10_minutes_30 : decode cX10_minutes 30 = .ok (.ifCond .eq 5, 3) := by decide +kernel
theorem dX10_minutes_33 : decode cX10_minutes 33 = .ok (.iconst 0, 1) := by decide +kernel
theorem dX10_minutes_34 : decode cX10_minutes 34 = .ok (.ireturn, 1) := by decide +kernel
theorem dX10_minutes_35 : decode cX10_minutes 35 = .ok (.aload_n 0, 1) := by decide +kernel
theorem dX10_minutes_36 : decode cX10_minutes 36 = .ok (.invokevirtual 281, 3) := by decide +kernel
theorem dX10_minutes_39 : decode cX10_minutes 39 = .ok (.pop, 1) := by decide +kernel
theorem dX10_minutes_40 : decode cX10_minutes 40 = .ok (.aload_n 0, 1) := by decide +kernel
theorem dX10_minutes_41 : decode cX10_minutes 41 = .ok (.getfield 61, 3) := by decide +kernel
theorem dX10_minutes_44 : decode cX10_minutes 44 = .ok (.iload_n 2, 1) := by decide +kernel
theorem dX10_minutes_45 : decode cX10_minutes 45 = .ok (.aaload, 1) := by decide +kernel
theorem dX10_minutes_46 : decode cX10_minutes 46 = .ok (.iload_n 1, 1) := by decide +kernel
theorem dX10_minutes_47 : decode cX10_minutes 47 = .ok (.iaload, 1) := by decide +kernel
theorem dX10_minutes_48 : decode cX10_minutes 48 = .ok (.ireturn, 1) := by decide +kernel
def L_X10_minutes_25 (C : aM → List Value → aH → aO → aH → Prop) (sc : Nat × (Nat → Int32)) (P : aO → aH → Prop) (x1 : Int) (x2 : Int) (s0 : Int) (σ : aH) : Prop :=
    wp C 10 cX10_minutes 3 (some .int) false [] sc P 25 [(0, .ref 76), (1, .int (nZ x1)), (2, .int (nZ x2))] [.int (nZ s0), .ref 76] σ
set_option maxRecDepth 10000 in
theorem t_X10_minutes {sc : Nat × (Nat → Int32)} {d : Nat} {Q : aO → aH → Prop} {σ : aH} {u : Nat}  {x1 : Int} {x2 : Int} (hG : G σ u) (rx1 : inR x1) (rx2 : inR x2)
    (h : (∀ σ1 : aH, wI σ 76 0 0 = σ1 → (∃ (r8 : Int) (σ4 : aH), Ev sc d mX10_badTwo [.ref 76, .int (nZ x1), .int (nZ x2)] σ1 (.inl (some (.int (nZ r8)))) σ4 ∧ G σ4 u ∧ inR r8 ∧ ((¬ r8 = 0 → Q (.inl (some (.int (nZ 0)))) σ4) ∧ (r8 = 0 → ((¬ x1 = x2 → L_X10_minutes_25 (Ev sc d) sc Q x1 x2 0 σ4) ∧ (x1 = x2 → L_X10_minutes_25 (Ev sc d) sc Q x1 x2 1 σ4))))))) :
    T sc (d + 1) mX10_minutes [.ref 76, .int (nZ x1), .int (nZ x2)] σ Q := by
  refine T.of (c := 10) (code := cX10_minutes) (mL := 3) (rt := (some .int)) (ini := false) (l := [(0, .ref 76), (1, .int (nZ x1)), (2, .int (nZ x2))]) rfl rfl rfl rfl (by decide) hs_X10_minutes rfl rfl ?_
  refine w_aload_n dX10_minutes_0 rfl (List.Mem.head _) ?_
  refine w_iconst (v := nZ 0) dX10_minutes_1 (by decide) ?_
  refine i_putI (ci := 10) 0 rfl dX10_minutes_2 fl_10_106 (by decide) (gT hG rfl (lt_of rfl)) (fun σ1 eσ2 => ?_)
  replace h := h σ1 eσ2
  have hG3 : G σ1 u := eσ2 ▸ G.wI hG
  refine w_aload_n dX10_minutes_5 rfl (List.Mem.head _) ?_
  refine w_iload_n dX10_minutes_6 rfl (List.Mem.tail _ (List.Mem.head _)) ?_
  refine w_iload_n dX10_minutes_7 rfl (List.Mem.tail _ (List.Mem.tail _ (List.Mem.head _))) ?_
  obtain ⟨r8, σ4, hc6, hG5, rr7, h⟩ := h
  refine w_callV dX10_minutes_8 ml_10_275 ⟨ok_X10_badTwo, vi_X10_badTwo⟩ hs_X10_badTwo (As := [.int (nZ x1), .int (nZ x2)]) rfl rfl (gT hG3 rfl (lt_of rfl)) (Nat.le_of_ble_eq_true rfl) hc6 ?_
  show wp (Ev sc d) 10 cX10_minutes 3 (some .int) false [] sc Q 11 [(0, .ref 76), (1, .int (nZ x1)), (2, .int (nZ x2))] [.int (nZ r8)] σ4
  refine i_if_ne (tgt := 33) dX10_minutes_11 rfl rr7 (fun c9 => ?_) (fun c9 => ?_)
  · replace h := h.1 c9
    refine w_iconst (v := nZ 0) dX10_minutes_33 (by decide) ?_
    exact w_iret dX10_minutes_34 rfl h
  · replace h := h.2 c9
    refine w_aload_n dX10_minutes_14 rfl (List.Mem.head _) ?_
    refine w_iload_n dX10_minutes_15 rfl (List.Mem.tail _ (List.Mem.head _)) ?_
    refine w_iload_n dX10_minutes_16 rfl (List.Mem.tail _ (List.Mem.tail _ (List.Mem.head _))) ?_
    refine i_cmp_ne (tgt := 24) dX10_minutes_17 rfl rx1 rx2 (fun c9 => ?_) (fun c9 => ?_)
    · replace h := h.1 c9
      refine w_iconst (v := nZ 0) dX10_minutes_24 (by decide) ?_
      exact h
    · replace h := h.2 c9
      refine w_iconst (v := nZ 1) dX10_minutes_20 (by decide) ?_
      refine w_goto (tgt := 25) dX10_minutes_21 rfl ?_
      exact h
set_option maxRecDepth 10000 in
theorem v_X10_minutes_25 {C : aM → List Value → aH → aO → aH → Prop} {sc : Nat × (Nat → Int32)} {P : aO → aH → Prop} {σ : aH} {u : Nat}  {x1 : Int} {x2 : Int} {s0 : Int} (hG : G σ u) (rx1 : inR x1) (rx2 : inR x2) (rs0 : inR s0)
    (h : (∃ (r5 : Int) (σ1 : aH), C mX10_bad [.ref 76, .int (nZ s0), .int (nZ 2), .int (nZ 1)] σ (.inl (some (.int (nZ r5)))) σ1 ∧ G σ1 u ∧ inR r5 ∧ ((r5 = 0 → (∃ (r10 : Int) (σ6 : aH), C mX10_dueNow [.ref 76] σ1 (.inl (some (.int (nZ r10)))) σ6 ∧ G σ6 u ∧ inR r10 ∧ ((0 ≤ x2 ∧ x2 < 9) ∧ ((0 ≤ x1 ∧ x1 < 9) ∧ P (.inl (some (.int (nZ (rI σ6 (292 + x2.toNat) x1))))) σ6)))) ∧ (¬ (r5 = 0) → P (.inl (some (.int (nZ 0)))) σ1)))) :
    L_X10_minutes_25 C sc P x1 x2 s0 σ := by
  unfold L_X10_minutes_25
  refine w_iconst (v := nZ 2) dX10_minutes_25 (by decide) ?_
  refine w_iconst (v := nZ 1) dX10_minutes_26 (by decide) ?_
  obtain ⟨r5, σ1, hc3, hG2, rr4, h⟩ := h
  refine w_callV dX10_minutes_27 ml_10_196 ⟨ok_X10_bad, vi_X10_bad⟩ hs_X10_bad (As := [.int (nZ s0), .int (nZ 2), .int (nZ 1)]) rfl rfl (gT hG rfl (lt_of rfl)) (Nat.le_of_ble_eq_true rfl) hc3 ?_
  show wp C 10 cX10_minutes 3 (some .int) false [] sc P 30 [(0, .ref 76), (1, .int (nZ x1)), (2, .int (nZ x2))] [.int (nZ r5)] σ1
  refine i_if_eq (tgt := 35) dX10_minutes_30 rfl rr4 (fun c9 => ?_) (fun c9 => ?_)
  · replace h := h.1 c9
    refine w_aload_n dX10_minutes_35 rfl (List.Mem.head _) ?_
    obtain ⟨r10, σ6, hc8, hG7, rr9, h⟩ := h
    refine w_callV dX10_minutes_36 ml_10_281 ⟨ok_X10_dueNow, vi_X10_dueNow⟩ hs_X10_dueNow (As := []) rfl rfl (gT hG2 rfl (lt_of rfl)) (Nat.le_of_ble_eq_true rfl) hc8 ?_
    show wp C 10 cX10_minutes 3 (some .int) false [] sc P 39 [(0, .ref 76), (1, .int (nZ x1)), (2, .int (nZ x2))] [.int (nZ r10)] σ6
    refine w_pop dX10_minutes_39 rfl ?_
    refine w_aload_n dX10_minutes_40 rfl (List.Mem.head _) ?_
    refine w_getR (ci := 10) (k := 31) (b := 291) dX10_minutes_41 fl_10_61 (by decide) (gT hG7 rfl (lt_of rfl)) (gR hG7 (b := 291) rfl) ?_
    refine w_iload_n dX10_minutes_44 rfl (List.Mem.tail _ (List.Mem.tail _ (List.Mem.head _))) ?_
    obtain ⟨h9, h⟩ := h
    have hj11 := vin_lt2 (n := 9) h9 rfl
    refine i_aald (n := 9) (b := (292 + x2.toNat)) dX10_minutes_45 (gT hG7 rfl (lt_of rfl)) (gL hG7 rfl) rx2 h9 (gR hG7 (rr_291 hj11)) ?_
    refine w_iload_n dX10_minutes_46 rfl (List.Mem.tail _ (List.Mem.head _)) ?_
    obtain ⟨h9, h⟩ := h
    refine i_iald (n := 9) dX10_minutes_47 (gT hG7 (ro_291 _ hj11).1 (by have := hj11; omega)) (gL hG7 (ro_291 _ hj11).2) rx1 h9 ?_
    exact w_iret dX10_minutes_48 rfl h
  · replace h := h.2 c9
    refine w_iconst (v := nZ 0) dX10_minutes_33 (by decide) ?_
    exact w_iret dX10_minutes_34 rfl h
theorem dX10_chill_0 : decode cX10_chill 0 = .ok (.aload_n 0, 1) := by decide +kernel
theorem dX10_chill_1 : decode cX10_chill 1 = .ok (.iconst 0, 1) := by decide +kernel
theorem dX10_chill_2 : decode cX10_chill 2 = .ok (.putfield 106, 3) := by decide +kernel
theorem dX10_chill_5 : decode cX10_chill 5 = .ok (.aload_n 0, 1) := by decide +kernel
theorem dX10_chill_6 : decode cX10_chill 6 = .ok (.aload_n 0, 1) := by decide +kernel
theorem dX10_chill_7 : decode cX10_chill 7 = .ok (.iload_n 1, 1) := by decide +kernel
theorem dX10_chill_8 : decode cX10_chill 8 = .ok (.invokevirtual 236, 3) := by decide +kernel
theorem dX10_chill_11 : decode cX10_chill 11 = .ok (.ifCond .ne 7, 3) := by decide +kernel
theorem dX10_chill_14 : decode cX10_chill 14 = .ok (.iconst 1, 1) := by decide +kernel
theorem dX10_chill_15 : decode cX10_chill 15 = .ok (.goto 4, 3) := by decide +kernel
theorem dX10_chill_18 : decode cX10_chill 18 = .ok (.iconst 0, 1) := by decide +kernel
theorem dX10_chill_19 : decode cX10_chill 19 = .ok (.iconst 1, 1) := by decide +kernel
theorem dX10_chill_20 : decode cX10_chill 20 = .ok (.iconst 0, 1) := by decide +kernel
theorem dX10_chill_21 : decode cX10_chill 21 = .ok (.invokevirtual 196, 3) := by decide +kernel
theorem dX10_chill_24 : decode cX10_chill 24 = .ok (.ifCond .eq 5, 3) := by decide +kernel
theorem dX10_chill_27 : decode cX10_chill 27 = .ok (.iconst 0, 1) := by decide +kernel
theorem dX10_chill_28 : decode cX10_chill 28 = .ok (.ireturn, 1) := by decide +kernel
theorem dX10_chill_29 : decode cX10_chill 29 = .ok (.aload_n 0, 1) := by decide +kernel
theorem dX10_chill_30 : decode cX10_chill 30 = .ok (.invokevirtual 281, 3) := by decide +kernel
theorem dX10_chill_33 : decode cX10_chill 33 = .ok (.pop, 1) := by decide +kernel
theorem dX10_chill_34 : decode cX10_chill 34 = .ok (.aload_n 0, 1) := by decide +kernel
theorem dX10_chill_35 : decode cX10_chill 35 = .ok (.getfield 67, 3) := by decide +kernel
theorem dX10_chill_38 : decode cX10_chill 38 = .ok (.iload_n 1, 1) := by decide +kernel
theorem dX10_chill_39 : decode cX10_chill 39 = .ok (.iaload, 1) := by decide +kernel
theorem dX10_chill_40 : decode cX10_chill 40 = .ok (.ireturn, 1) := by decide +kernel
set_option maxRecDepth 10000 in
theorem t_X10_chill {sc : Nat × (Nat → Int32)} {d : Nat} {Q : aO → aH → Prop} {σ : aH} {u : Nat}  {x1 : Int} (hG : G σ u) (rx1 : inR x1)
    (h : (∀ σ1 : aH, wI σ 76 0 0 = σ1 → (∃ (r8 : Int) (σ4 : aH), Ev sc d mX10_isStall [.ref 76, .int (nZ x1)] σ1 (.inl (some (.int (nZ r8)))) σ4 ∧ G σ4 u ∧ inR r8 ∧ ((¬ r8 = 0 → (∃ (r13 : Int) (σ9 : aH), Ev sc d mX10_bad [.ref 76, .int (nZ 0), .int (nZ 1), .int (nZ 0)] σ4 (.inl (some (.int (nZ r13)))) σ9 ∧ G σ9 u ∧ inR r13 ∧ ((r13 = 0 → (∃ (r18 : Int) (σ14 : aH), Ev sc d mX10_dueNow [.ref 76] σ9 (.inl (some (.int (nZ r18)))) σ14 ∧ G σ14 u ∧ inR r18 ∧ ((0 ≤ x1 ∧ x1 < 9) ∧ Q (.inl (some (.int (nZ (rI σ14 311 x1))))) σ14))) ∧ (¬ (r13 = 0) → Q (.inl (some (.int (nZ 0)))) σ9)))) ∧ (r8 = 0 → (∃ (r23 : Int) (σ19 : aH), Ev sc d mX10_bad [.ref 76, .int (nZ 1), .int (nZ 1), .int (nZ 0)] σ4 (.inl (some (.int (nZ r23)))) σ19 ∧ G σ19 u ∧ inR r23 ∧ ((r23 = 0 → (∃ (r28 : Int) (σ24 : aH), Ev sc d mX10_dueNow [.ref 76] σ19 (.inl (some (.int (nZ r28)))) σ24 ∧ G σ24 u ∧ inR r28 ∧ ((0 ≤ x1 ∧ x1 < 9) ∧ Q (.inl (some (.int (nZ (rI σ24 311 x1))))) σ24))) ∧ (¬ (r23 = 0) → Q (.inl (some (.int (nZ 0)))) σ19)))))))) :
    T sc (d + 1) mX10_chill [.ref 76, .int (nZ x1)] σ Q := by
  refine T.of (c := 10) (code := cX10_chill) (mL := 2) (rt := (some .int)) (ini := false) (l := [(0, .ref 76), (1, .int (nZ x1))]) rfl rfl rfl rfl (by decide) hs_X10_chill rfl rfl ?_
  refine w_aload_n dX10_chill_0 rfl (List.Mem.head _) ?_
  refine w_iconst (v := nZ 0) dX10_chill_1 (by decide) ?_
  refine i_putI (ci := 10) 0 rfl dX10_chill_2 fl_10_106 (by decide) (gT hG rfl (lt_of rfl)) (fun σ1 eσ2 => ?_)
  replace h := h σ1 eσ2
  have hG3 : G σ1 u := eσ2 ▸ G.wI hG
  refine w_aload_n dX10_chill_5 rfl (List.Mem.head _) ?_
  refine w_aload_n dX10_chill_6 rfl (List.Mem.head _) ?_
  refine w_iload_n dX10_chill_7 rfl (List.Mem.tail _ (List.Mem.head _)) ?_
  obtain ⟨r8, σ4, hc6, hG5, rr7, h⟩ := h
  refine w_callV dX10_chill_8 ml_10_236 ⟨ok_X10_isStall, vi_X10_isStall⟩ hs_X10_isStall (As := [.int (nZ x1)]) rfl rfl (gT hG3 rfl (lt_of rfl)) (Nat.le_of_ble_eq_true rfl) hc6 ?_
  show wp (Ev sc d) 10 cX10_chill 2 (some .int) false [] sc Q 11 [(0, .ref 76), (1, .int (nZ x1))] [.int (nZ r8), .ref 76] σ4
  refine i_if_ne (tgt := 18) dX10_chill_11 rfl rr7 (fun c9 => ?_) (fun c9 => ?_)
  · replace h := h.1 c9
    refine w_iconst (v := nZ 0) dX10_chill_18 (by decide) ?_
    refine w_iconst (v := nZ 1) dX10_chill_19 (by decide) ?_
    refine w_iconst (v := nZ 0) dX10_chill_20 (by decide) ?_
    obtain ⟨r13, σ9, hc11, hG10, rr12, h⟩ := h
    refine w_callV dX10_chill_21 ml_10_196 ⟨ok_X10_bad, vi_X10_bad⟩ hs_X10_bad (As := [.int (nZ 0), .int (nZ 1), .int (nZ 0)]) rfl rfl (gT hG5 rfl (lt_of rfl)) (Nat.le_of_ble_eq_true rfl) hc11 ?_
    show wp (Ev sc d) 10 cX10_chill 2 (some .int) false [] sc Q 24 [(0, .ref 76), (1, .int (nZ x1))] [.int (nZ r13)] σ9
    refine i_if_eq (tgt := 29) dX10_chill_24 rfl rr12 (fun c9 => ?_) (fun c9 => ?_)
    · replace h := h.1 c9
      refine w_aload_n dX10_chill_29 rfl (List.Mem.head _) ?_
      obtain ⟨r18, σ14, hc16, hG15, rr17, h⟩ := h
      refine w_callV dX10_chill_30 ml_10_281 ⟨ok_X10_dueNow, vi_X10_dueNow⟩ hs_X10_dueNow (As := []) rfl rfl (gT hG10 rfl (lt_of rfl)) (Nat.le_of_ble_eq_true rfl) hc16 ?_
      show wp (Ev sc d) 10 cX10_chill 2 (some .int) false [] sc Q 33 [(0, .ref 76), (1, .int (nZ x1))] [.int (nZ r18)] σ14
      refine w_pop dX10_chill_33 rfl ?_
      refine w_aload_n dX10_chill_34 rfl (List.Mem.head _) ?_
      refine w_getR (ci := 10) (k := 33) (b := 311) dX10_chill_35 fl_10_67 (by decide) (gT hG15 rfl (lt_of rfl)) (gR hG15 (b := 311) rfl) ?_
      refine w_iload_n dX10_chill_38 rfl (List.Mem.tail _ (List.Mem.head _)) ?_
      obtain ⟨h9, h⟩ := h
      refine i_iald (n := 9) dX10_chill_39 (gT hG15 rfl (lt_of rfl)) (gL hG15 rfl) rx1 h9 ?_
      exact w_iret dX10_chill_40 rfl h
    · replace h := h.2 c9
      refine w_iconst (v := nZ 0) dX10_chill_27 (by decide) ?_
      exact w_iret dX10_chill_28 rfl h
  · replace h := h.2 c9
    refine w_iconst (v := nZ 1) dX10_chill_14 (by decide) ?_
    refine w_goto (tgt := 19) dX10_chill_15 rfl ?_
    refine w_iconst (v := nZ 1) dX10_chill_19 (by decide) ?_
    refine w_iconst (v := nZ 0) dX10_chill_20 (by decide) ?_
    obtain ⟨r23, σ19, hc21, hG20, rr22, h⟩ := h
    refine w_callV dX10_chill_21 ml_10_196 ⟨ok_X10_bad, vi_X10_bad⟩ hs_X10_bad (As := [.int (nZ 1), .int (nZ 1), .int (nZ 0)]) rfl rfl (gT hG5 rfl (lt_of rfl)) (Nat.le_of_ble_eq_true rfl) hc21 ?_
    show wp (Ev sc d) 10 cX10_chill 2 (some .int) false [] sc Q 24 [(0, .ref 76), (1, .int (nZ x1))] [.int (nZ r23)] σ19
    refine i_if_eq (tgt := 29) dX10_chill_24 rfl rr22 (fun c9 => ?_) (fun c9 => ?_)
    · replace h := h.1 c9
      refine w_aload_n dX10_chill_29 rfl (List.Mem.head _) ?_
      obtain ⟨r28, σ24, hc26, hG25, rr27, h⟩ := h
      refine w_callV dX10_chill_30 ml_10_281 ⟨ok_X10_dueNow, vi_X10_dueNow⟩ hs_X10_dueNow (As := []) rfl rfl (gT hG20 rfl (lt_of rfl)) (Nat.le_of_ble_eq_true rfl) hc26 ?_
      show wp (Ev sc d) 10 cX10_chill 2 (some .int) false [] sc Q 33 [(0, .ref 76), (1, .int (nZ x1))] [.int (nZ r28)] σ24
      refine w_pop dX10_chill_33 rfl ?_
      refine w_aload_n dX10_chill_34 rfl (List.Mem.head _) ?_
      refine w_getR (ci := 10) (k := 33) (b := 311) dX10_chill_35 fl_10_67 (by decide) (gT hG25 rfl (lt_of rfl)) (gR hG25 (b := 311) rfl) ?_
      refine w_iload_n dX10_chill_38 rfl (List.Mem.tail _ (List.Mem.head _)) ?_
      obtain ⟨h9, h⟩ := h
      refine i_iald (n := 9) dX10_chill_39 (gT hG25 rfl (lt_of rfl)) (gL hG25 rfl) rx1 h9 ?_
      exact w_iret dX10_chill_40 rfl h
    · replace h := h.2 c9
      refine w_iconst (v := nZ 0) dX10_chill_27 (by decide) ?_
      exact w_iret dX10_chill_28 rfl h
theorem dX10_isTill_0 : decode cX10_isTill 0 = .ok (.iload_n 0, 1) := by decide +kernel
theorem dX10_isTill_1 : decode cX10_isTill 1 = .ok (.iconst 0, 1) := by decide +kernel
theorem dX10_isTill_2 : decode cX10_isTill 2 = .ok (.sipush 1440, 3) := by decide +kernel
theorem dX10_isTill_5 : decode cX10_isTill 5 = .ok (.invokestatic 140, 3) := by decide +kernel
theorem dX10_isTill_8 : decode cX10_isTill 8 = .ok (.ireturn, 1) := by decide +kernel
set_option maxRecDepth 10000 in
theorem t_X10_isTill {sc : Nat × (Nat → Int32)} {d : Nat} {Q : aO → aH → Prop} {σ : aH} {u : Nat}  {x0 : Int} (hG : G σ u) (rx0 : inR x0)
    (h : (∃ (r5 : Int) (σ1 : aH), Ev sc d mX10_in [.int (nZ x0), .int (nZ 0), .int (nZ 1440)] σ (.inl (some (.int (nZ r5)))) σ1 ∧ G σ1 u ∧ inR r5 ∧ ((r5 = 0 ∨ r5 = 1) ∧ Q (.inl (some (.int (nZ r5)))) σ1))) :
    T sc (d + 1) mX10_isTill [.int (nZ x0)] σ Q := by
  refine T.of (c := 10) (code := cX10_isTill) (mL := 1) (rt := (some .boolean)) (ini := false) (l := [(0, .int (nZ x0))]) rfl rfl rfl rfl (by decide) hs_X10_isTill rfl rfl ?_
  refine w_iload_n dX10_isTill_0 rfl (List.Mem.head _) ?_
  refine w_iconst (v := nZ 0) dX10_isTill_1 (by decide) ?_
  refine w_sipush (v := nZ 1440) dX10_isTill_2 (by decide) ?_
  obtain ⟨r5, σ1, hc3, hG2, rr4, h⟩ := h
  refine w_callS dX10_isTill_5 ml_10_140 ⟨ok_X10_in, st_X10_in⟩ hs_X10_in (As := [.int (nZ x0), .int (nZ 0), .int (nZ 1440)]) rfl rfl (Nat.le_of_ble_eq_true rfl) hc3 ?_
  show wp (Ev sc d) 10 cX10_isTill 1 (some .boolean) false [] sc Q 8 [(0, .int (nZ x0))] [.int (nZ r5)] σ1
  exact i_zret dX10_isTill_8 rfl h.1 h.2
theorem dX10_owes_0 : decode cX10_owes 0 = .ok (.aload_n 0, 1) := by decide +kernel
theorem dX10_owes_1 : decode cX10_owes 1 = .ok (.iconst 0, 1) := by decide +kernel
theorem dX10_owes_2 : decode cX10_owes 2 = .ok (.putfield 106, 3) := by decide +kernel
theorem dX10_owes_5 : decode cX10_owes 5 = .ok (.aload_n 0, 1) := by decide +kernel
theorem dX10_owes_6 : decode cX10_owes 6 = .ok (.iload_n 1, 1) := by decide +kernel
theorem dX10_owes_7 : decode cX10_owes 7 = .ok (.iload_n 2, 1) := by decide +kernel
theorem dX10_owes_8 : decode cX10_owes 8 = .ok (.invokevirtual 275, 3) := by decide +kernel
theorem dX10_owes_11 : decode cX10_owes 11 = .ok (.ifCond .ne 29, 3) := by decide +kernel
theorem dX10_owes_14 : decode cX10_owes 14 = .ok (.aload_n 0, 1) := by decide +kernel
theorem dX10_owes_15 : decode cX10_owes 15 = .ok (.iload_n 1, 1) := by decide +kernel
theorem dX10_owes_16 : decode cX10_owes 16 = .ok (.iload_n 2, 1) := by decide +kernel
theorem dX10_owes_17 : decode cX10_owes 17 = .ok (.if_icmp .eq 10, 3) := by decide +kernel
theorem dX10_owes_20 : decode cX10_owes 20 = .ok (.iload_n 3, 1) := by decide +kernel
theorem dX10_owes_21 : decode cX10_owes 21 = .ok (.invokestatic 284, 3) := by decide +kernel
theorem dX10_owes_24 : decode cX10_owes 24 = .ok (.ifCond .ne 7, 3) := by decide +kernel
theorem dX10_owes_27 : decode cX10_owes 27 = .ok (.iconst 1, 1) := by decide +kernel
theorem dX10_owes_28 : decode cX10_owes 28 = .ok (.goto 4, 3) := by decide +kernel
theorem dX10_owes_31 : decode cX10_owes 31 = .ok (.iconst 0, 1) := by decide +kernel
theorem dX10_owes_32 : decode cX10_owes 32 = .ok (.iconst 2, 1) := by decide +kernel
theorem dX10_owes_33 : decode cX10_owes 33 = .ok (.iconst 1, 1) := by decide +kernel
theorem dX10_owes_34 : decode cX10_owes 34 = .ok (.invokevirtual 196, 3) := by decide +kernel
theorem dX10_owes_37 : decode cX10_owes 37 = .ok (.ifCond .eq 5, 3) := by decide +kernel
theorem dX10_owes_40 : decode cX10_owes 40 = .ok (.iconst 0, 1) := by decide +kernel
theorem dX10_owes_41 : decode cX10_owes 41 = .ok (.ireturn, 1) := by decide +kernel
theorem dX10_owes_42 : decode cX10_owes 42 = .ok (.aload_n 0, 1) := by decide +kernel
theorem dX10_owes_43 : decode cX10_owes 43 = .ok (.iload_n 3, 1) := by decide +kernel
theorem dX10_owes_44 : decode cX10_owes 44 = .ok (.aload_n 0, 1) := by decide +kernel
theorem dX10_owes_45 : decode cX10_owes 45 = .ok (.getfield 23, 3) := by decide +kernel
theorem dX10_owes_48 : decode cX10_owes 48 = .ok (.iconst 3, 1) := by decide +kernel
theorem dX10_owes_49 : decode cX10_owes 49 = .ok (.iaload, 1) := by decide +kernel
theorem dX10_owes_50 : decode cX10_owes 50 = .ok (.iconst 0, 1) := by decide +kernel
theorem dX10_owes_51 : decode cX10_owes 51 = .ok (.invokevirtual 268, 3) := by decide +kernel
theorem dX10_owes_54 : decode cX10_owes 54 = .ok (.aload_n 0, 1) := by decide +kernel
theorem dX10_owes_55 : decode cX10_owes 55 = .ok (.getfield 58, 3) := by decide +kernel
theorem dX10_owes_58 : decode cX10_owes 58 = .ok (.iload_n 1, 1) := by decide +kernel
theorem dX10_owes_59 : decode cX10_owes 59 = .ok (.aaload, 1) := by decide +kernel
theorem dX10_owes_60 : decode cX10_owes 60 = .ok (.iload_n 2, 1) := by decide +kernel
theorem dX10_owes_61 : decode cX10_owes 61 = .ok (.iaload, 1) := by decide +kernel
theorem dX10_owes_62 : decode cX10_owes 62 = .ok (.ireturn, 1) := by decide +kernel
def L_X10_owes_32 (C : aM → List Value → aH → aO → aH → Prop) (sc : Nat × (Nat → Int32)) (P : aO → aH → Prop) (x1 : Int) (x2 : Int) (x3 : Int) (s0 : Int) (σ : aH) : Prop :=
    wp C 10 cX10_owes 4 (some .int) false [] sc P 32 [(0, .ref 76), (1, .int (nZ x1)), (2, .int (nZ x2)), (3, .int (nZ x3))] [.int (nZ s0), .ref 76] σ
set_option maxRecDepth 10000 in
theorem t_X10_owes {sc : Nat × (Nat → Int32)} {d : Nat} {Q : aO → aH → Prop} {σ : aH} {u : Nat}  {x1 : Int} {x2 : Int} {x3 : Int} (hG : G σ u) (rx1 : inR x1) (rx2 : inR x2) (rx3 : inR x3)
    (h : (∀ σ1 : aH, wI σ 76 0 0 = σ1 → (∃ (r8 : Int) (σ4 : aH), Ev sc d mX10_badTwo [.ref 76, .int (nZ x1), .int (nZ x2)] σ1 (.inl (some (.int (nZ r8)))) σ4 ∧ G σ4 u ∧ inR r8 ∧ ((¬ r8 = 0 → Q (.inl (some (.int (nZ 0)))) σ4) ∧ (r8 = 0 → ((x1 = x2 → L_X10_owes_32 (Ev sc d) sc Q x1 x2 x3 1 σ4) ∧ (¬ (x1 = x2) → (∃ (r13 : Int) (σ9 : aH), Ev sc d mX10_isTill [.int (nZ x3)] σ4 (.inl (some (.int (nZ r13)))) σ9 ∧ G σ9 u ∧ inR r13 ∧ ((¬ r13 = 0 → L_X10_owes_32 (Ev sc d) sc Q x1 x2 x3 0 σ9) ∧ (r13 = 0 → L_X10_owes_32 (Ev sc d) sc Q x1 x2 x3 1 σ9)))))))))) :
    T sc (d + 1) mX10_owes [.ref 76, .int (nZ x1), .int (nZ x2), .int (nZ x3)] σ Q := by
  refine T.of (c := 10) (code := cX10_owes) (mL := 4) (rt := (some .int)) (ini := false) (l := [(0, .ref 76), (1, .int (nZ x1)), (2, .int (nZ x2)), (3, .int (nZ x3))]) rfl rfl rfl rfl (by decide) hs_X10_owes rfl rfl ?_
  refine w_aload_n dX10_owes_0 rfl (List.Mem.head _) ?_
  refine w_iconst (v := nZ 0) dX10_owes_1 (by decide) ?_
  refine i_putI (ci := 10) 0 rfl dX10_owes_2 fl_10_106 (by decide) (gT hG rfl (lt_of rfl)) (fun σ1 eσ2 => ?_)
  replace h := h σ1 eσ2
  have hG3 : G σ1 u := eσ2 ▸ G.wI hG
  refine w_aload_n dX10_owes_5 rfl (List.Mem.head _) ?_
  refine w_iload_n dX10_owes_6 rfl (List.Mem.tail _ (List.Mem.head _)) ?_
  refine w_iload_n dX10_owes_7 rfl (List.Mem.tail _ (List.Mem.tail _ (List.Mem.head _))) ?_
  obtain ⟨r8, σ4, hc6, hG5, rr7, h⟩ := h
  refine w_callV dX10_owes_8 ml_10_275 ⟨ok_X10_badTwo, vi_X10_badTwo⟩ hs_X10_badTwo (As := [.int (nZ x1), .int (nZ x2)]) rfl rfl (gT hG3 rfl (lt_of rfl)) (Nat.le_of_ble_eq_true rfl) hc6 ?_
  show wp (Ev sc d) 10 cX10_owes 4 (some .int) false [] sc Q 11 [(0, .ref 76), (1, .int (nZ x1)), (2, .int (nZ x2)), (3, .int (nZ x3))] [.int (nZ r8)] σ4
  refine i_if_ne (tgt := 40) dX10_owes_11 rfl rr7 (fun c9 => ?_) (fun c9 => ?_)
  · replace h := h.1 c9
    refine w_iconst (v := nZ 0) dX10_owes_40 (by decide) ?_
    exact w_iret dX10_owes_41 rfl h
  · replace h := h.2 c9
    refine w_aload_n dX10_owes_14 rfl (List.Mem.head _) ?_
    refine w_iload_n dX10_owes_15 rfl (List.Mem.tail _ (List.Mem.head _)) ?_
    refine w_iload_n dX10_owes_16 rfl (List.Mem.tail _ (List.Mem.tail _ (List.Mem.head _))) ?_
    refine i_cmp_eq (tgt := 27) dX10_owes_17 rfl rx1 rx2 (fun c9 => ?_) (fun c9 => ?_)
    · replace h := h.1 c9
      refine w_iconst (v := nZ 1) dX10_owes_27 (by decide) ?_
      refine w_goto (tgt := 32) dX10_owes_28 rfl ?_
      exact h
    · replace h := h.2 c9
      refine w_iload_n dX10_owes_20 rfl (List.Mem.tail _ (List.Mem.tail _ (List.Mem.tail _ (List.Mem.head _)))) ?_
      obtain ⟨r13, σ9, hc11, hG10, rr12, h⟩ := h
      refine w_callS dX10_owes_21 ml_10_284 ⟨ok_X10_isTill, st_X10_isTill⟩ hs_X10_isTill (As := [.int (nZ x3)]) rfl rfl (Nat.le_of_ble_eq_true rfl) hc11 ?_
      show wp (Ev sc d) 10 cX10_owes 4 (some .int) false [] sc Q 24 [(0, .ref 76), (1, .int (nZ x1)), (2, .int (nZ x2)), (3, .int (nZ x3))] [.int (nZ r13), .ref 76] σ9
      refine i_if_ne (tgt := 31) dX10_owes_24 rfl rr12 (fun c9 => ?_) (fun c9 => ?_)
      · replace h := h.1 c9
        refine w_iconst (v := nZ 0) dX10_owes_31 (by decide) ?_
        exact h
      · replace h := h.2 c9
        refine w_iconst (v := nZ 1) dX10_owes_27 (by decide) ?_
        refine w_goto (tgt := 32) dX10_owes_28 rfl ?_
        exact h
set_option maxRecDepth 10000 in
theorem v_X10_owes_32 {C : aM → List Value → aH → aO → aH → Prop} {sc : Nat × (Nat → Int32)} {P : aO → aH → Prop} {σ : aH} {u : Nat}  {x1 : Int} {x2 : Int} {x3 : Int} {s0 : Int} (hG : G σ u) (rx1 : inR x1) (rx2 : inR x2) (rx3 : inR x3) (rs0 : inR s0)
    (h : (∃ (r5 : Int) (σ1 : aH), C mX10_bad [.ref 76, .int (nZ s0), .int (nZ 2), .int (nZ 1)] σ (.inl (some (.int (nZ r5)))) σ1 ∧ G σ1 u ∧ inR r5 ∧ ((r5 = 0 → (∃ σ6 : aH, C mX10_goes [.ref 76, .int (nZ x3), .int (nZ (rI σ1 80 3)), .int (nZ 0)] σ1 (.inl none) σ6 ∧ G σ6 u ∧ ((0 ≤ x1 ∧ x1 < 9) ∧ ((0 ≤ x2 ∧ x2 < 9) ∧ P (.inl (some (.int (nZ (rI σ6 (282 + x1.toNat) x2))))) σ6)))) ∧ (¬ (r5 = 0) → P (.inl (some (.int (nZ 0)))) σ1)))) :
    L_X10_owes_32 C sc P x1 x2 x3 s0 σ := by
  unfold L_X10_owes_32
  refine w_iconst (v := nZ 2) dX10_owes_32 (by decide) ?_
  refine w_iconst (v := nZ 1) dX10_owes_33 (by decide) ?_
  obtain ⟨r5, σ1, hc3, hG2, rr4, h⟩ := h
  refine w_callV dX10_owes_34 ml_10_196 ⟨ok_X10_bad, vi_X10_bad⟩ hs_X10_bad (As := [.int (nZ s0), .int (nZ 2), .int (nZ 1)]) rfl rfl (gT hG rfl (lt_of rfl)) (Nat.le_of_ble_eq_true rfl) hc3 ?_
  show wp C 10 cX10_owes 4 (some .int) false [] sc P 37 [(0, .ref 76), (1, .int (nZ x1)), (2, .int (nZ x2)), (3, .int (nZ x3))] [.int (nZ r5)] σ1
  refine i_if_eq (tgt := 42) dX10_owes_37 rfl rr4 (fun c9 => ?_) (fun c9 => ?_)
  · replace h := h.1 c9
    refine w_aload_n dX10_owes_42 rfl (List.Mem.head _) ?_
    refine w_iload_n dX10_owes_43 rfl (List.Mem.tail _ (List.Mem.tail _ (List.Mem.tail _ (List.Mem.head _)))) ?_
    refine w_aload_n dX10_owes_44 rfl (List.Mem.head _) ?_
    refine w_getR (ci := 10) (k := 11) (b := 80) dX10_owes_45 fl_10_23 (by decide) (gT hG2 rfl (lt_of rfl)) (gR hG2 (b := 80) rfl) ?_
    refine w_iconst (v := nZ 3) dX10_owes_48 (by decide) ?_
    refine i_iald (n := 8) dX10_owes_49 (gT hG2 rfl (lt_of rfl)) (gL hG2 rfl) (by decide) (by decide) ?_
    refine w_iconst (v := nZ 0) dX10_owes_50 (by decide) ?_
    obtain ⟨σ6, hc8, hG7, h⟩ := h
    refine w_callV dX10_owes_51 ml_10_268 ⟨ok_X10_goes, vi_X10_goes⟩ hs_X10_goes (As := [.int (nZ x3), .int (nZ (rI σ1 80 3)), .int (nZ 0)]) rfl rfl (gT hG2 rfl (lt_of rfl)) (Nat.le_of_ble_eq_true rfl) hc8 ?_
    show wp C 10 cX10_owes 4 (some .int) false [] sc P 54 [(0, .ref 76), (1, .int (nZ x1)), (2, .int (nZ x2)), (3, .int (nZ x3))] [] σ6
    refine w_aload_n dX10_owes_54 rfl (List.Mem.head _) ?_
    refine w_getR (ci := 10) (k := 30) (b := 281) dX10_owes_55 fl_10_58 (by decide) (gT hG7 rfl (lt_of rfl)) (gR hG7 (b := 281) rfl) ?_
    refine w_iload_n dX10_owes_58 rfl (List.Mem.tail _ (List.Mem.head _)) ?_
    obtain ⟨h9, h⟩ := h
    have hj10 := vin_lt2 (n := 9) h9 rfl
    refine i_aald (n := 9) (b := (282 + x1.toNat)) dX10_owes_59 (gT hG7 rfl (lt_of rfl)) (gL hG7 rfl) rx1 h9 (gR hG7 (rr_281 hj10)) ?_
    refine w_iload_n dX10_owes_60 rfl (List.Mem.tail _ (List.Mem.tail _ (List.Mem.head _))) ?_
    obtain ⟨h9, h⟩ := h
    refine i_iald (n := 9) dX10_owes_61 (gT hG7 (ro_281 _ hj10).1 (by have := hj10; omega)) (gL hG7 (ro_281 _ hj10).2) rx2 h9 ?_
    exact w_iret dX10_owes_62 rfl h
  · replace h := h.2 c9
    refine w_iconst (v := nZ 0) dX10_owes_40 (by decide) ?_
    exact w_iret dX10_owes_41 rfl h
