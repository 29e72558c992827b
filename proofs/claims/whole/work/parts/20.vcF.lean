theorem dX5_append_0 : decode cX5_append 0 = .ok (.bipush 24, 2) := by decide +kernel
theorem dX5_append_2 : decode cX5_append 2 = .ok (.istore_n 2, 1) := by decide +kernel
theorem dX5_append_3 : decode cX5_append 3 = .ok (.iload_n 2, 1) := by decide +kernel
theorem dX5_append_4 : decode cX5_append 4 = .ok (.ifCond .lt 42, 3) := by decide +kernel
theorem dX5_append_7 : decode cX5_append 7 = .ok (.aload_n 0, 1) := by decide +kernel
theorem dX5_append_8 : decode cX5_append 8 = .ok (.getfield 15, 3) := by decide +kernel
theorem dX5_append_11 : decode cX5_append 11 = .ok (.sipush 600, 3) := by decide +kernel
theorem dX5_append_14 : decode cX5_append 14 = .ok (.if_icmp .ge 32, 3) := by decide +kernel
theorem dX5_append_17 : decode cX5_append 17 = .ok (.aload_n 0, 1) := by decide +kernel
theorem dX5_append_18 : decode cX5_append 18 = .ok (.getfield 9, 3) := by decide +kernel
theorem dX5_append_21 : decode cX5_append 21 = .ok (.aload_n 0, 1) := by decide +kernel
theorem dX5_append_22 : decode cX5_append 22 = .ok (.getfield 15, 3) := by decide +kernel
theorem dX5_append_25 : decode cX5_append 25 = .ok (.iload_n 1, 1) := by decide +kernel
theorem dX5_append_26 : decode cX5_append 26 = .ok (.iload_n 2, 1) := by decide +kernel
theorem dX5_append_27 : decode cX5_append 27 = .ok (.iushr, 1) := by decide +kernel
theorem dX5_append_28 : decode cX5_append 28 = .ok (.i2b, 1) := by decide +kernel
theorem dX5_append_29 : decode cX5_append 29 = .ok (.bastore, 1) := by decide +kernel
theorem dX5_append_30 : decode cX5_append 30 = .ok (.aload_n 0, 1) := by decide +kernel
theorem dX5_append_31 : decode cX5_append 31 = .ok (.dup, 1) := by decide +kernel
theorem dX5_append_32 : decode cX5_append 32 = .ok (.getfield 15, 3) := by decide +kernel
theorem dX5_append_35 : decode cX5_append 35 = .ok (.iconst 1, 1) := by decide +kernel
theorem dX5_append_36 : decode cX5_append 36 = .ok (.iadd, 1) := by decide +kernel
theorem dX5_append_37 : decode cX5_append 37 = .ok (.putfield 15, 3) := by decide +kernel
theorem dX5_append_40 : decode cX5_append 40 = .ok (.iinc 2 (-8), 3) := by decide +kernel
theorem dX5_append_43 : decode cX5_append 43 = .ok (.goto (-40), 3) := by decide +kernel
theorem dX5_append_46 : decode cX5_append 46 = .ok (.return_, 1) := by decide +kernel
set_option maxRecDepth 10000 in
theorem v_X5_append_0 {C : aM → List Value → aH → aO → aH → Prop} {sc : Nat × (Nat → Int32)} {P : aO → aH → Prop} {σ : aH} {u : Nat}  {x1 : Int32} (hG : G σ u) 
    (h : wp C 5 cX5_append 3 none false [] sc P 3 [(0, .ref 1), (1, .int x1), (2, .int 24)] [] σ) :
    wp C 5 cX5_append 3 none false [] sc P 0 [(0, .ref 1), (1, .int x1)] [] σ := by
  refine w_bipush (v := 24) dX5_append_0 (by decide) ?_
  refine w_istore_n (l' := [(2, .int 24), (0, .ref 1), (1, .int x1)]) dX5_append_2 rfl (by decide) rfl ?_
  exact w_weak (l' := [(0, .ref 1), (1, .int x1), (2, .int 24)]) (by intro q hq; simp only [List.mem_cons, List.not_mem_nil, or_false] at hq ⊢; rcases hq with rfl | rfl | rfl <;> simp) h
set_option maxRecDepth 10000 in
theorem v_X5_append_3 {C : aM → List Value → aH → aO → aH → Prop} {sc : Nat × (Nat → Int32)} {P : aO → aH → Prop} {σ : aH} {u : Nat}  {x1 : Int32} {x2 : Int32} (hG : G σ u) 
    (h : ((x2 < 0 → P (.inl none) σ) ∧ (¬ (x2 < 0) → ((600 ≤ (gI σ 1 1) → P (.inl none) σ) ∧ (¬ (600 ≤ (gI σ 1 1)) → (vp_in (gI σ 1 1) 600 ∧ (∀ σ1 : aH, sI σ 2 ((gI σ 1 1).toNatClampNeg) (((((((x1 : Int32).toUInt32 >>> ((x2 : Int32).toUInt32 &&& Int32.toUInt32 31)).toInt32) : Int32).toInt8.toInt32) : Int32).toInt8.toInt32) = σ1 → (∀ σ4 : aH, sI σ1 1 1 ((gI σ1 1 1) + 1) = σ4 → wp C 5 cX5_append 3 none false [] sc P 3 [(0, .ref 1), (1, .int x1), (2, .int (x2 + (-8)))] [] σ4)))))))) :
    wp C 5 cX5_append 3 none false [] sc P 3 [(0, .ref 1), (1, .int x1), (2, .int x2)] [] σ := by
  refine w_iload_n dX5_append_3 rfl (List.Mem.tail _ (List.Mem.tail _ (List.Mem.head _))) ?_
  refine w_if_lt (tgt := 46) dX5_append_4 rfl (fun c9 => ?_) (fun c9 => ?_)
  · replace h := h.1 c9
    exact w_vret dX5_append_46 rfl h
  · replace h := h.2 c9
    refine w_aload_n dX5_append_7 rfl (List.Mem.head _) ?_
    refine w_getI (ci := 5) (k := 1) dX5_append_8 fl_5_15 (by decide) (gT hG rfl (lt_of rfl)) ?_
    refine w_sipush (v := 600) dX5_append_11 (by decide) ?_
    refine w_icmp_ge (tgt := 46) dX5_append_14 rfl (fun c9 => ?_) (fun c9 => ?_)
    · replace h := h.1 c9
      exact w_vret dX5_append_46 rfl h
    · replace h := h.2 c9
      refine w_aload_n dX5_append_17 rfl (List.Mem.head _) ?_
      refine w_getR (ci := 5) (k := 0) (b := 2) dX5_append_18 fl_5_9 (by decide) (gT hG rfl (lt_of rfl)) (gR hG (b := 2) rfl) ?_
      refine w_aload_n dX5_append_21 rfl (List.Mem.head _) ?_
      refine w_getI (ci := 5) (k := 1) dX5_append_22 fl_5_15 (by decide) (gT hG rfl (lt_of rfl)) ?_
      refine w_iload_n dX5_append_25 rfl (List.Mem.tail _ (List.Mem.head _)) ?_
      refine w_iload_n dX5_append_26 rfl (List.Mem.tail _ (List.Mem.tail _ (List.Mem.head _))) ?_
      refine w_iushr dX5_append_27 ?_
      refine w_i2b dX5_append_28 ?_
      obtain ⟨h9, h⟩ := h
      refine y_bast (n := 600) ((gI σ 1 1).toNatClampNeg) dX5_append_29 (gT hG rfl (lt_of rfl)) (gL hG rfl) h9 rfl (fun σ1 eσ2 => ?_)
      replace h := h σ1 eσ2
      have hG3 : G σ1 u := eσ2 ▸ G.sI hG
      refine w_aload_n dX5_append_30 rfl (List.Mem.head _) ?_
      refine w_dup dX5_append_31 rfl ?_
      refine w_getI (ci := 5) (k := 1) dX5_append_32 fl_5_15 (by decide) (gT hG3 rfl (lt_of rfl)) ?_
      refine w_iconst (v := 1) dX5_append_35 (by decide) ?_
      refine w_iadd dX5_append_36 ?_
      refine y_putI (ci := 5) (k := 1) dX5_append_37 fl_5_15 (by decide) (gT hG3 rfl (lt_of rfl)) (fun σ4 eσ5 => ?_)
      replace h := h σ4 eσ5
      have hG6 : G σ4 u := eσ5 ▸ G.sI hG3
      refine w_iinc (v := x2 + (-8)) (l' := [(2, .int (x2 + (-8))), (0, .ref 1), (1, .int x1)]) dX5_append_40 (List.Mem.tail _ (List.Mem.tail _ (List.Mem.head _))) rfl (by decide) rfl ?_
      refine w_goto (tgt := 3) dX5_append_43 rfl ?_
      exact w_weak (l' := [(0, .ref 1), (1, .int x1), (2, .int (x2 + (-8)))]) (by intro q hq; simp only [List.mem_cons, List.not_mem_nil, or_false] at hq ⊢; rcases hq with rfl | rfl | rfl <;> simp) h
theorem dX5_read_0 : decode cX5_read 0 = .ok (.aload_n 0, 1) := by decide +kernel
theorem dX5_read_1 : decode cX5_read 1 = .ok (.iload_n 1, 1) := by decide +kernel
theorem dX5_read_2 : decode cX5_read 2 = .ok (.aload_n 0, 1) := by decide +kernel
theorem dX5_read_3 : decode cX5_read 3 = .ok (.getfield 15, 3) := by decide +kernel
theorem dX5_read_6 : decode cX5_read 6 = .ok (.invokestatic 40, 3) := by decide +kernel
theorem dX5_read_9 : decode cX5_read 9 = .ok (.putfield 19, 3) := by decide +kernel
theorem dX5_read_12 : decode cX5_read 12 = .ok (.aload_n 0, 1) := by decide +kernel
theorem dX5_read_13 : decode cX5_read 13 = .ok (.iconst 0, 1) := by decide +kernel
theorem dX5_read_14 : decode cX5_read 14 = .ok (.putfield 15, 3) := by decide +kernel
theorem dX5_read_17 : decode cX5_read 17 = .ok (.aload_n 0, 1) := by decide +kernel
theorem dX5_read_18 : decode cX5_read 18 = .ok (.iconst 0, 1) := by decide +kernel
theorem dX5_read_19 : decode cX5_read 19 = .ok (.putfield 22, 3) := by decide +kernel
theorem dX5_read_22 : decode cX5_read 22 = .ok (.aload_n 0, 1) := by decide +kernel
theorem dX5_read_23 : decode cX5_read 23 = .ok (.iconst 0, 1) := by decide +kernel
theorem dX5_read_24 : decode cX5_read 24 = .ok (.putfield 25, 3) := by decide +kernel
theorem dX5_read_27 : decode cX5_read 27 = .ok (.aload_n 0, 1) := by decide +kernel
theorem dX5_read_28 : decode cX5_read 28 = .ok (.iconst (-1), 1) := by decide +kernel
theorem dX5_read_29 : decode cX5_read 29 = .ok (.putfield 28, 3) := by decide +kernel
theorem dX5_read_32 : decode cX5_read 32 = .ok (.aload_n 0, 1) := by decide +kernel
theorem dX5_read_33 : decode cX5_read 33 = .ok (.iconst 0, 1) := by decide +kernel
theorem dX5_read_34 : decode cX5_read 34 = .ok (.putfield 31, 3) := by decide +kernel
theorem dX5_read_37 : decode cX5_read 37 = .ok (.aload_n 0, 1) := by decide +kernel
theorem dX5_read_38 : decode cX5_read 38 = .ok (.iconst 0, 1) := by decide +kernel
theorem dX5_read_39 : decode cX5_read 39 = .ok (.putfield 34, 3) := by decide +kernel
theorem dX5_read_42 : decode cX5_read 42 = .ok (.aload_n 0, 1) := by decide +kernel
theorem dX5_read_43 : decode cX5_read 43 = .ok (.iconst 0, 1) := by decide +kernel
theorem dX5_read_44 : decode cX5_read 44 = .ok (.putfield 37, 3) := by decide +kernel
theorem dX5_read_47 : decode cX5_read 47 = .ok (.aload_n 2, 1) := by decide +kernel
theorem dX5_read_48 : decode cX5_read 48 = .ok (.invokevirtual 46, 3) := by decide +kernel
theorem dX5_read_51 : decode cX5_read 51 = .ok (.aload_n 0, 1) := by decide +kernel
theorem dX5_read_52 : decode cX5_read 52 = .ok (.invokevirtual 51, 3) := by decide +kernel
theorem dX5_read_55 : decode cX5_read 55 = .ok (.iconst 0, 1) := by decide +kernel
theorem dX5_read_56 : decode cX5_read 56 = .ok (.istore_n 3, 1) := by decide +kernel
theorem dX5_read_57 : decode cX5_read 57 = .ok (.iload_n 3, 1) := by decide +kernel
theorem dX5_read_58 : decode cX5_read 58 = .ok (.bipush 60, 2) := by decide +kernel
theorem dX5_read_60 : decode cX5_read 60 = .ok (.if_icmp .gt 36, 3) := by decide +kernel
theorem dX5_read_63 : decode cX5_read 63 = .ok (.aload_n 0, 1) := by decide +kernel
theorem dX5_read_64 : decode cX5_read 64 = .ok (.getfield 22, 3) := by decide +kernel
theorem dX5_read_67 : decode cX5_read 67 = .ok (.aload_n 0, 1) := by decide +kernel
theorem dX5_read_68 : decode cX5_read 68 = .ok (.getfield 19, 3) := by decide +kernel
theorem dX5_read_71 : decode cX5_read 71 = .ok (.if_icmp .ge 25, 3) := by decide +kernel
theorem dX5_read_74 : decode cX5_read 74 = .ok (.aload_n 0, 1) := by decide +kernel
theorem dX5_read_75 : decode cX5_read 75 = .ok (.getfield 25, 3) := by decide +kernel
theorem dX5_read_78 : decode cX5_read 78 = .ok (.ifCond .ne 18, 3) := by decide +kernel
theorem dX5_read_81 : decode cX5_read 81 = .ok (.aload_n 0, 1) := by decide +kernel
theorem dX5_read_82 : decode cX5_read 82 = .ok (.aload_n 2, 1) := by decide +kernel
theorem dX5_read_83 : decode cX5_read 83 = .ok (.invokevirtual 54, 3) := by decide +kernel
theorem dX5_read_86 : decode cX5_read 86 = .ok (.aload_n 0, 1) := by decide +kernel
theorem dX5_read_87 : decode cX5_read 87 = .ok (.invokevirtual 51, 3) := by decide +kernel
theorem dX5_read_90 : decode cX5_read 90 = .ok (.iinc 3 1, 3) := by decide +kernel
theorem dX5_read_93 : decode cX5_read 93 = .ok (.goto (-36), 3) := by decide +kernel
theorem dX5_read_96 : decode cX5_read 96 = .ok (.aload_n 0, 1) := by decide +kernel
theorem dX5_read_97 : decode cX5_read 97 = .ok (.getfield 25, 3) := by decide +kernel
theorem dX5_read_100 : decode cX5_read 100 = .ok (.ireturn, 1) := by decide +kernel
set_option maxRecDepth 10000 in
theorem v_X5_read_0 {C : aM → List Value → aH → aO → aH → Prop} {sc : Nat × (Nat → Int32)} {P : aO → aH → Prop} {σ : aH} {u : Nat} {v : Nat} {x1 : Int32} (hG : G σ u) (hv : IsMk v)
    (h : (∀ z1 : Int32, z1 = (if (gI σ 1 1) < x1 then (gI σ 1 1) else x1) → (∀ σ3 : aH, sI σ 1 2 z1 = σ3 → (∀ σ6 : aH, sI σ3 1 1 0 = σ6 → (∀ σ9 : aH, sI σ6 1 3 0 = σ9 → (∀ σ12 : aH, sI σ9 1 4 0 = σ12 → (∀ σ15 : aH, sI σ12 1 5 (-1) = σ15 → (∀ σ18 : aH, sI σ15 1 6 0 = σ18 → (∀ σ21 : aH, sI σ18 1 7 0 = σ21 → (∀ σ24 : aH, sI σ21 1 8 0 = σ24 → (∃ σ27 : aH, C mX2_clear [.ref v] σ24 (.inl none) σ27 ∧ G σ27 u ∧ (∃ σ30 : aH, C mX5_skipBlanks [.ref 1] σ27 (.inl none) σ30 ∧ G σ30 u ∧ wp C 5 cX5_read 4 (some .int) false [] sc P 57 [(0, .ref 1), (1, .int x1), (2, .ref v), (3, .int 0)] [] σ30)))))))))))) :
    wp C 5 cX5_read 4 (some .int) false [] sc P 0 [(0, .ref 1), (1, .int x1), (2, .ref v)] [] σ := by
  refine w_aload_n dX5_read_0 rfl (List.Mem.head _) ?_
  refine w_iload_n dX5_read_1 rfl (List.Mem.tail _ (List.Mem.head _)) ?_
  refine w_aload_n dX5_read_2 rfl (List.Mem.head _) ?_
  refine w_getI (ci := 5) (k := 1) dX5_read_3 fl_5_15 (by decide) (gT hG rfl (lt_of rfl)) ?_
  refine w_mmin dX5_read_6 lk_5_40 (Nat.le_of_ble_eq_true rfl) ?_
  refine top_i (fun z1 ez2 => ?_)
  replace h := h z1 ez2
  refine y_putI (ci := 5) (k := 2) dX5_read_9 fl_5_19 (by decide) (gT hG rfl (lt_of rfl)) (fun σ3 eσ4 => ?_)
  replace h := h σ3 eσ4
  have hG5 : G σ3 u := eσ4 ▸ G.sI hG
  refine w_aload_n dX5_read_12 rfl (List.Mem.head _) ?_
  refine w_iconst (v := 0) dX5_read_13 (by decide) ?_
  refine y_putI (ci := 5) (k := 1) dX5_read_14 fl_5_15 (by decide) (gT hG5 rfl (lt_of rfl)) (fun σ6 eσ7 => ?_)
  replace h := h σ6 eσ7
  have hG8 : G σ6 u := eσ7 ▸ G.sI hG5
  refine w_aload_n dX5_read_17 rfl (List.Mem.head _) ?_
  refine w_iconst (v := 0) dX5_read_18 (by decide) ?_
  refine y_putI (ci := 5) (k := 3) dX5_read_19 fl_5_22 (by decide) (gT hG8 rfl (lt_of rfl)) (fun σ9 eσ10 => ?_)
  replace h := h σ9 eσ10
  have hG11 : G σ9 u := eσ10 ▸ G.sI hG8
  refine w_aload_n dX5_read_22 rfl (List.Mem.head _) ?_
  refine w_iconst (v := 0) dX5_read_23 (by decide) ?_
  refine y_putI (ci := 5) (k := 4) dX5_read_24 fl_5_25 (by decide) (gT hG11 rfl (lt_of rfl)) (fun σ12 eσ13 => ?_)
  replace h := h σ12 eσ13
  have hG14 : G σ12 u := eσ13 ▸ G.sI hG11
  refine w_aload_n dX5_read_27 rfl (List.Mem.head _) ?_
  refine w_iconst (v := (-1)) dX5_read_28 (by decide) ?_
  refine y_putI (ci := 5) (k := 5) dX5_read_29 fl_5_28 (by decide) (gT hG14 rfl (lt_of rfl)) (fun σ15 eσ16 => ?_)
  replace h := h σ15 eσ16
  have hG17 : G σ15 u := eσ16 ▸ G.sI hG14
  refine w_aload_n dX5_read_32 rfl (List.Mem.head _) ?_
  refine w_iconst (v := 0) dX5_read_33 (by decide) ?_
  refine y_putI (ci := 5) (k := 6) dX5_read_34 fl_5_31 (by decide) (gT hG17 rfl (lt_of rfl)) (fun σ18 eσ19 => ?_)
  replace h := h σ18 eσ19
  have hG20 : G σ18 u := eσ19 ▸ G.sI hG17
  refine w_aload_n dX5_read_37 rfl (List.Mem.head _) ?_
  refine w_iconst (v := 0) dX5_read_38 (by decide) ?_
  refine y_putI (ci := 5) (k := 7) dX5_read_39 fl_5_34 (by decide) (gT hG20 rfl (lt_of rfl)) (fun σ21 eσ22 => ?_)
  replace h := h σ21 eσ22
  have hG23 : G σ21 u := eσ22 ▸ G.sI hG20
  refine w_aload_n dX5_read_42 rfl (List.Mem.head _) ?_
  refine w_iconst (v := 0) dX5_read_43 (by decide) ?_
  refine y_putI (ci := 5) (k := 8) dX5_read_44 fl_5_37 (by decide) (gT hG23 rfl (lt_of rfl)) (fun σ24 eσ25 => ?_)
  replace h := h σ24 eσ25
  have hG26 : G σ24 u := eσ25 ▸ G.sI hG23
  refine w_aload_n dX5_read_47 rfl (List.Mem.tail _ (List.Mem.tail _ (List.Mem.head _))) ?_
  obtain ⟨σ27, hc29, hG28, h⟩ := h
  refine w_callV dX5_read_48 ml_5_46 ⟨ok_X2_clear, vi_X2_clear⟩ hs_X2_clear (As := []) rfl rfl (gT hG26 (IsMk_t0 hv) (IsMk_lt hv (k := 0) (by decide))) (Nat.le_of_ble_eq_true rfl) hc29 ?_
  show wp C 5 cX5_read 4 (some .int) false [] sc P 51 [(0, .ref 1), (1, .int x1), (2, .ref v)] [] σ27
  refine w_aload_n dX5_read_51 rfl (List.Mem.head _) ?_
  obtain ⟨σ30, hc32, hG31, h⟩ := h
  refine w_callV dX5_read_52 ml_5_51 ⟨ok_X5_skipBlanks, vi_X5_skipBlanks⟩ hs_X5_skipBlanks (As := []) rfl rfl (gT hG28 rfl (lt_of rfl)) (Nat.le_of_ble_eq_true rfl) hc32 ?_
  show wp C 5 cX5_read 4 (some .int) false [] sc P 55 [(0, .ref 1), (1, .int x1), (2, .ref v)] [] σ30
  refine w_iconst (v := 0) dX5_read_55 (by decide) ?_
  refine w_istore_n (l' := [(3, .int 0), (0, .ref 1), (1, .int x1), (2, .ref v)]) dX5_read_56 rfl (by decide) rfl ?_
  exact w_weak (l' := [(0, .ref 1), (1, .int x1), (2, .ref v), (3, .int 0)]) (by intro q hq; simp only [List.mem_cons, List.not_mem_nil, or_false] at hq ⊢; rcases hq with rfl | rfl | rfl | rfl <;> simp) h
set_option maxRecDepth 10000 in
theorem v_X5_read_57 {C : aM → List Value → aH → aO → aH → Prop} {sc : Nat × (Nat → Int32)} {P : aO → aH → Prop} {σ : aH} {u : Nat} {v : Nat} {x1 : Int32} {x3 : Int32} (hG : G σ u) (hv : IsMk v)
    (h : ((60 < x3 → P (.inl (some (.int (gI σ 1 4)))) σ) ∧ (¬ (60 < x3) → (((gI σ 1 2) ≤ (gI σ 1 3) → P (.inl (some (.int (gI σ 1 4)))) σ) ∧ (¬ ((gI σ 1 2) ≤ (gI σ 1 3)) → ((¬ (gI σ 1 4) = 0 → P (.inl (some (.int (gI σ 1 4)))) σ) ∧ ((gI σ 1 4) = 0 → (∃ σ1 : aH, C mX5_readClause [.ref 1, .ref v] σ (.inl none) σ1 ∧ G σ1 u ∧ (∃ σ4 : aH, C mX5_skipBlanks [.ref 1] σ1 (.inl none) σ4 ∧ G σ4 u ∧ wp C 5 cX5_read 4 (some .int) false [] sc P 57 [(0, .ref 1), (1, .int x1), (2, .ref v), (3, .int (x3 + 1))] [] σ4))))))))) :
    wp C 5 cX5_read 4 (some .int) false [] sc P 57 [(0, .ref 1), (1, .int x1), (2, .ref v), (3, .int x3)] [] σ := by
  refine w_iload_n dX5_read_57 rfl (List.Mem.tail _ (List.Mem.tail _ (List.Mem.tail _ (List.Mem.head _)))) ?_
  refine w_bipush (v := 60) dX5_read_58 (by decide) ?_
  refine w_icmp_gt (tgt := 96) dX5_read_60 rfl (fun c9 => ?_) (fun c9 => ?_)
  · replace h := h.1 c9
    refine w_aload_n dX5_read_96 rfl (List.Mem.head _) ?_
    refine w_getI (ci := 5) (k := 4) dX5_read_97 fl_5_25 (by decide) (gT hG rfl (lt_of rfl)) ?_
    exact w_iret dX5_read_100 rfl h
  · replace h := h.2 c9
    refine w_aload_n dX5_read_63 rfl (List.Mem.head _) ?_
    refine w_getI (ci := 5) (k := 3) dX5_read_64 fl_5_22 (by decide) (gT hG rfl (lt_of rfl)) ?_
    refine w_aload_n dX5_read_67 rfl (List.Mem.head _) ?_
    refine w_getI (ci := 5) (k := 2) dX5_read_68 fl_5_19 (by decide) (gT hG rfl (lt_of rfl)) ?_
    refine w_icmp_ge (tgt := 96) dX5_read_71 rfl (fun c9 => ?_) (fun c9 => ?_)
    · replace h := h.1 c9
      refine w_aload_n dX5_read_96 rfl (List.Mem.head _) ?_
      refine w_getI (ci := 5) (k := 4) dX5_read_97 fl_5_25 (by decide) (gT hG rfl (lt_of rfl)) ?_
      exact w_iret dX5_read_100 rfl h
    · replace h := h.2 c9
      refine w_aload_n dX5_read_74 rfl (List.Mem.head _) ?_
      refine w_getI (ci := 5) (k := 4) dX5_read_75 fl_5_25 (by decide) (gT hG rfl (lt_of rfl)) ?_
      refine w_if_ne (tgt := 96) dX5_read_78 rfl (fun c9 => ?_) (fun c9 => ?_)
      · replace h := h.1 c9
        refine w_aload_n dX5_read_96 rfl (List.Mem.head _) ?_
        refine w_getI (ci := 5) (k := 4) dX5_read_97 fl_5_25 (by decide) (gT hG rfl (lt_of rfl)) ?_
        exact w_iret dX5_read_100 rfl h
      · replace h := h.2 c9
        refine w_aload_n dX5_read_81 rfl (List.Mem.head _) ?_
        refine w_aload_n dX5_read_82 rfl (List.Mem.tail _ (List.Mem.tail _ (List.Mem.head _))) ?_
        obtain ⟨σ1, hc3, hG2, h⟩ := h
        refine w_callV dX5_read_83 ml_5_54 ⟨ok_X5_readClause, vi_X5_readClause⟩ hs_X5_readClause (As := [.ref v]) rfl rfl (gT hG rfl (lt_of rfl)) (Nat.le_of_ble_eq_true rfl) hc3 ?_
        show wp C 5 cX5_read 4 (some .int) false [] sc P 86 [(0, .ref 1), (1, .int x1), (2, .ref v), (3, .int x3)] [] σ1
        refine w_aload_n dX5_read_86 rfl (List.Mem.head _) ?_
        obtain ⟨σ4, hc6, hG5, h⟩ := h
        refine w_callV dX5_read_87 ml_5_51 ⟨ok_X5_skipBlanks, vi_X5_skipBlanks⟩ hs_X5_skipBlanks (As := []) rfl rfl (gT hG2 rfl (lt_of rfl)) (Nat.le_of_ble_eq_true rfl) hc6 ?_
        show wp C 5 cX5_read 4 (some .int) false [] sc P 90 [(0, .ref 1), (1, .int x1), (2, .ref v), (3, .int x3)] [] σ4
        refine w_iinc (v := x3 + 1) (l' := [(3, .int (x3 + 1)), (0, .ref 1), (1, .int x1), (2, .ref v)]) dX5_read_90 (List.Mem.tail _ (List.Mem.tail _ (List.Mem.tail _ (List.Mem.head _)))) rfl (by decide) rfl ?_
        refine w_goto (tgt := 57) dX5_read_93 rfl ?_
        exact w_weak (l' := [(0, .ref 1), (1, .int x1), (2, .ref v), (3, .int (x3 + 1))]) (by intro q hq; simp only [List.mem_cons, List.not_mem_nil, or_false] at hq ⊢; rcases hq with rfl | rfl | rfl | rfl <;> simp) h
theorem dX5_blame_0 : decode cX5_blame 0 = .ok (.aload_n 0, 1) := by decide +kernel
theorem dX5_blame_1 : decode cX5_blame 1 = .ok (.getfield 25, 3) := by decide +kernel
theorem dX5_blame_4 : decode cX5_blame 4 = .ok (.ifCond .ne 13, 3) := by decide +kernel
theorem dX5_blame_7 : decode cX5_blame 7 = .ok (.aload_n 0, 1) := by decide +kernel
theorem dX5_blame_8 : decode cX5_blame 8 = .ok (.iload_n 1, 1) := by decide +kernel
theorem dX5_blame_9 : decode cX5_blame 9 = .ok (.putfield 25, 3) := by decide +kernel
theorem dX5_blame_12 : decode cX5_blame 12 = .ok (.aload_n 0, 1) := by decide +kernel
theorem dX5_blame_13 : decode cX5_blame 13 = .ok (.iload_n 2, 1) := by decide +kernel
theorem dX5_blame_14 : decode cX5_blame 14 = .ok (.putfield 28, 3) := by decide +kernel
theorem dX5_blame_17 : decode cX5_blame 17 = .ok (.return_, 1) := by decide +kernel
set_option maxRecDepth 10000 in
theorem v_X5_blame_0 {C : aM → List Value → aH → aO → aH → Prop} {sc : Nat × (Nat → Int32)} {P : aO → aH → Prop} {σ : aH} {u : Nat}  {x1 : Int32} {x2 : Int32} (hG : G σ u) 
    (h : ((¬ (gI σ 1 4) = 0 → P (.inl none) σ) ∧ ((gI σ 1 4) = 0 → (∀ σ1 : aH, sI σ 1 4 x1 = σ1 → (∀ σ4 : aH, sI σ1 1 5 x2 = σ4 → P (.inl none) σ4))))) :
    wp C 5 cX5_blame 3 none false [] sc P 0 [(0, .ref 1), (1, .int x1), (2, .int x2)] [] σ := by
  refine w_aload_n dX5_blame_0 rfl (List.Mem.head _) ?_
  refine w_getI (ci := 5) (k := 4) dX5_blame_1 fl_5_25 (by decide) (gT hG rfl (lt_of rfl)) ?_
  refine w_if_ne (tgt := 17) dX5_blame_4 rfl (fun c9 => ?_) (fun c9 => ?_)
  · replace h := h.1 c9
    exact w_vret dX5_blame_17 rfl h
  · replace h := h.2 c9
    refine w_aload_n dX5_blame_7 rfl (List.Mem.head _) ?_
    refine w_iload_n dX5_blame_8 rfl (List.Mem.tail _ (List.Mem.head _)) ?_
    refine y_putI (ci := 5) (k := 4) dX5_blame_9 fl_5_25 (by decide) (gT hG rfl (lt_of rfl)) (fun σ1 eσ2 => ?_)
    replace h := h σ1 eσ2
    have hG3 : G σ1 u := eσ2 ▸ G.sI hG
    refine w_aload_n dX5_blame_12 rfl (List.Mem.head _) ?_
    refine w_iload_n dX5_blame_13 rfl (List.Mem.tail _ (List.Mem.tail _ (List.Mem.head _))) ?_
    refine y_putI (ci := 5) (k := 5) dX5_blame_14 fl_5_28 (by decide) (gT hG3 rfl (lt_of rfl)) (fun σ4 eσ5 => ?_)
    replace h := h σ4 eσ5
    have hG6 : G σ4 u := eσ5 ▸ G.sI hG3
    exact w_vret dX5_blame_17 rfl h
theorem dX5_here_0 : decode cX5_here 0 = .ok (.aload_n 0, 1) := by decide +kernel
theorem dX5_here_1 : decode cX5_here 1 = .ok (.getfield 22, 3) := by decide +kernel
theorem dX5_here_4 : decode cX5_here 4 = .ok (.aload_n 0, 1) := by decide +kernel
theorem dX5_here_5 : decode cX5_here 5 = .ok (.getfield 19, 3) := by decide +kernel
theorem dX5_here_8 : decode cX5_here 8 = .ok (.if_icmp .ge 15, 3) := by decide +kernel
theorem dX5_here_11 : decode cX5_here 11 = .ok (.aload_n 0, 1) := by decide +kernel
theorem dX5_here_12 : decode cX5_here 12 = .ok (.getfield 9, 3) := by decide +kernel
theorem dX5_here_15 : decode cX5_here 15 = .ok (.aload_n 0, 1) := by decide +kernel
theorem dX5_here_16 : decode cX5_here 16 = .ok (.getfield 22, 3) := by decide +kernel
theorem dX5_here_19 : decode cX5_here 19 = .ok (.baload, 1) := by decide +kernel
theorem dX5_here_20 : decode cX5_here 20 = .ok (.goto 4, 3) := by decide +kernel
theorem dX5_here_23 : decode cX5_here 23 = .ok (.iconst 0, 1) := by decide +kernel
theorem dX5_here_24 : decode cX5_here 24 = .ok (.ireturn, 1) := by decide +kernel
set_option maxRecDepth 10000 in
theorem v_X5_here_0 {C : aM → List Value → aH → aO → aH → Prop} {sc : Nat × (Nat → Int32)} {P : aO → aH → Prop} {σ : aH} {u : Nat}   (hG : G σ u) 
    (h : (((gI σ 1 2) ≤ (gI σ 1 3) → P (.inl (some (.int 0))) σ) ∧ (¬ ((gI σ 1 2) ≤ (gI σ 1 3)) → (vp_in (gI σ 1 3) 600 ∧ P (.inl (some (.int (gI σ 2 ((gI σ 1 3).toNatClampNeg))))) σ)))) :
    wp C 5 cX5_here 1 (some .int) false [] sc P 0 [(0, .ref 1)] [] σ := by
  refine w_aload_n dX5_here_0 rfl (List.Mem.head _) ?_
  refine w_getI (ci := 5) (k := 3) dX5_here_1 fl_5_22 (by decide) (gT hG rfl (lt_of rfl)) ?_
  refine w_aload_n dX5_here_4 rfl (List.Mem.head _) ?_
  refine w_getI (ci := 5) (k := 2) dX5_here_5 fl_5_19 (by decide) (gT hG rfl (lt_of rfl)) ?_
  refine w_icmp_ge (tgt := 23) dX5_here_8 rfl (fun c9 => ?_) (fun c9 => ?_)
  · replace h := h.1 c9
    refine w_iconst (v := 0) dX5_here_23 (by decide) ?_
    exact w_iret dX5_here_24 rfl h
  · replace h := h.2 c9
    refine w_aload_n dX5_here_11 rfl (List.Mem.head _) ?_
    refine w_getR (ci := 5) (k := 0) (b := 2) dX5_here_12 fl_5_9 (by decide) (gT hG rfl (lt_of rfl)) (gR hG (b := 2) rfl) ?_
    refine w_aload_n dX5_here_15 rfl (List.Mem.head _) ?_
    refine w_getI (ci := 5) (k := 3) dX5_here_16 fl_5_22 (by decide) (gT hG rfl (lt_of rfl)) ?_
    obtain ⟨h9, h⟩ := h
    refine x_bald (n := 600) ((gI σ 1 3).toNatClampNeg) dX5_here_19 (gT hG rfl (lt_of rfl)) (gL hG rfl) h9 rfl ?_
    refine w_goto (tgt := 24) dX5_here_20 rfl ?_
    exact w_iret dX5_here_24 rfl h
theorem dX5_skipBlanks_0 : decode cX5_skipBlanks 0 = .ok (.aload_n 0, 1) := by decide +kernel
theorem dX5_skipBlanks_1 : decode cX5_skipBlanks 1 = .ok (.getfield 22, 3) := by decide +kernel
theorem dX5_skipBlanks_4 : decode cX5_skipBlanks 4 = .ok (.aload_n 0, 1) := by decide +kernel
theorem dX5_skipBlanks_5 : decode cX5_skipBlanks 5 = .ok (.getfield 19, 3) := by decide +kernel
theorem dX5_skipBlanks_8 : decode cX5_skipBlanks 8 = .ok (.if_icmp .ge 25, 3) := by decide +kernel
theorem dX5_skipBlanks_11 : decode cX5_skipBlanks 11 = .ok (.aload_n 0, 1) := by decide +kernel
theorem dX5_skipBlanks_12 : decode cX5_skipBlanks 12 = .ok (.invokevirtual 58, 3) := by decide +kernel
theorem dX5_skipBlanks_15 : decode cX5_skipBlanks 15 = .ok (.bipush 32, 2) := by decide +kernel
theorem dX5_skipBlanks_17 : decode cX5_skipBlanks 17 = .ok (.if_icmp .ne 16, 3) := by decide +kernel
theorem dX5_skipBlanks_20 : decode cX5_skipBlanks 20 = .ok (.aload_n 0, 1) := by decide +kernel
theorem dX5_skipBlanks_21 : decode cX5_skipBlanks 21 = .ok (.dup, 1) := by decide +kernel
theorem dX5_skipBlanks_22 : decode cX5_skipBlanks 22 = .ok (.getfield 22, 3) := by decide +kernel
theorem dX5_skipBlanks_25 : decode cX5_skipBlanks 25 = .ok (.iconst 1, 1) := by decide +kernel
theorem dX5_skipBlanks_26 : decode cX5_skipBlanks 26 = .ok (.iadd, 1) := by decide +kernel
theorem dX5_skipBlanks_27 : decode cX5_skipBlanks 27 = .ok (.putfield 22, 3) := by decide +kernel
theorem dX5_skipBlanks_30 : decode cX5_skipBlanks 30 = .ok (.goto (-30), 3) := by decide +kernel
theorem dX5_skipBlanks_33 : decode cX5_skipBlanks 33 = .ok (.return_, 1) := by decide +kernel
set_option maxRecDepth 10000 in
theorem v_X5_skipBlanks_0 {C : aM → List Value → aH → aO → aH → Prop} {sc : Nat × (Nat → Int32)} {P : aO → aH → Prop} {σ : aH} {u : Nat}   (hG : G σ u) 
    (h : (((gI σ 1 2) ≤ (gI σ 1 3) → P (.inl none) σ) ∧ (¬ ((gI σ 1 2) ≤ (gI σ 1 3)) → (∃ (r4 : Int32) (σ1 : aH), C mX5_here [.ref 1] σ (.inl (some (.int r4))) σ1 ∧ G σ1 u ∧ ((¬ r4 = 32 → P (.inl none) σ1) ∧ (r4 = 32 → (∀ σ5 : aH, sI σ1 1 3 ((gI σ1 1 3) + 1) = σ5 → wp C 5 cX5_skipBlanks 1 none false [] sc P 0 [(0, .ref 1)] [] σ5))))))) :
    wp C 5 cX5_skipBlanks 1 none false [] sc P 0 [(0, .ref 1)] [] σ := by
  refine w_aload_n dX5_skipBlanks_0 rfl (List.Mem.head _) ?_
  refine w_getI (ci := 5) (k := 3) dX5_skipBlanks_1 fl_5_22 (by decide) (gT hG rfl (lt_of rfl)) ?_
  refine w_aload_n dX5_skipBlanks_4 rfl (List.Mem.head _) ?_
  refine w_getI (ci := 5) (k := 2) dX5_skipBlanks_5 fl_5_19 (by decide) (gT hG rfl (lt_of rfl)) ?_
  refine w_icmp_ge (tgt := 33) dX5_skipBlanks_8 rfl (fun c9 => ?_) (fun c9 => ?_)
  · replace h := h.1 c9
    exact w_vret dX5_skipBlanks_33 rfl h
  · replace h := h.2 c9
    refine w_aload_n dX5_skipBlanks_11 rfl (List.Mem.head _) ?_
    obtain ⟨r4, σ1, hc3, hG2, h⟩ := h
    refine w_callV dX5_skipBlanks_12 ml_5_58 ⟨ok_X5_here, vi_X5_here⟩ hs_X5_here (As := []) rfl rfl (gT hG rfl (lt_of rfl)) (Nat.le_of_ble_eq_true rfl) hc3 ?_
    show wp C 5 cX5_skipBlanks 1 none false [] sc P 15 [(0, .ref 1)] [.int r4] σ1
    refine w_bipush (v := 32) dX5_skipBlanks_15 (by decide) ?_
    refine w_icmp_ne (tgt := 33) dX5_skipBlanks_17 rfl (fun c9 => ?_) (fun c9 => ?_)
    · replace h := h.1 c9
      exact w_vret dX5_skipBlanks_33 rfl h
    · replace h := h.2 c9
      refine w_aload_n dX5_skipBlanks_20 rfl (List.Mem.head _) ?_
      refine w_dup dX5_skipBlanks_21 rfl ?_
      refine w_getI (ci := 5) (k := 3) dX5_skipBlanks_22 fl_5_22 (by decide) (gT hG2 rfl (lt_of rfl)) ?_
      refine w_iconst (v := 1) dX5_skipBlanks_25 (by decide) ?_
      refine w_iadd dX5_skipBlanks_26 ?_
      refine y_putI (ci := 5) (k := 3) dX5_skipBlanks_27 fl_5_22 (by decide) (gT hG2 rfl (lt_of rfl)) (fun σ5 eσ6 => ?_)
      replace h := h σ5 eσ6
      have hG7 : G σ5 u := eσ6 ▸ G.sI hG2
      refine w_goto (tgt := 0) dX5_skipBlanks_30 rfl ?_
      exact h
theorem dX5_readClause_0 : decode cX5_readClause 0 = .ok (.aload_n 0, 1) := by decide +kernel
theorem dX5_readClause_1 : decode cX5_readClause 1 = .ok (.getfield 22, 3) := by decide +kernel
theorem dX5_readClause_4 : decode cX5_readClause 4 = .ok (.istore_n 2, 1) := by decide +kernel
theorem dX5_readClause_5 : decode cX5_readClause 5 = .ok (.aload_n 0, 1) := by decide +kernel
theorem dX5_readClause_6 : decode cX5_readClause 6 = .ok (.invokevirtual 62, 3) := by decide +kernel
theorem dX5_readClause_9 : decode cX5_readClause 9 = .ok (.istore_n 3, 1) := by decide +kernel
theorem dX5_readClause_10 : decode cX5_readClause 10 = .ok (.iload_n 3, 1) := by decide +kernel
theorem dX5_readClause_11 : decode cX5_readClause 11 = .ok (.iconst (-1), 1) := by decide +kernel
theorem dX5_readClause_12 : decode cX5_readClause 12 = .ok (.if_icmp .ne 12, 3) := by decide +kernel
theorem dX5_readClause_15 : decode cX5_readClause 15 = .ok (.aload_n 0, 1) := by decide +kernel
theorem dX5_readClause_16 : decode cX5_readClause 16 = .ok (.iconst 1, 1) := by decide +kernel
theorem dX5_readClause_17 : decode cX5_readClause 17 = .ok (.iload_n 2, 1) := by decide +kernel
theorem dX5_readClause_18 : decode cX5_readClause 18 = .ok (.invokevirtual 65, 3) := by decide +kernel
theorem dX5_readClause_21 : decode cX5_readClause 21 = .ok (.goto 70, 3) := by decide +kernel
theorem dX5_readClause_24 : decode cX5_readClause 24 = .ok (.aload_n 0, 1) := by decide +kernel
theorem dX5_readClause_25 : decode cX5_readClause 25 = .ok (.getfield 31, 3) := by decide +kernel
theorem dX5_readClause_28 : decode cX5_readClause 28 = .ok (.bipush 60, 2) := by decide +kernel
theorem dX5_readClause_30 : decode cX5_readClause 30 = .ok (.if_icmp .ge 12, 3) := by decide +kernel
theorem dX5_readClause_33 : decode cX5_readClause 33 = .ok (.aload_n 0, 1) := by decide +kernel
theorem dX5_readClause_34 : decode cX5_readClause 34 = .ok (.iload_n 3, 1) := by decide +kernel
theorem dX5_readClause_35 : decode cX5_readClause 35 = .ok (.aload_n 1, 1) := by decide +kernel
theorem dX5_readClause_36 : decode cX5_readClause 36 = .ok (.invokevirtual 69, 3) := by decide +kernel
theorem dX5_readClause_39 : decode cX5_readClause 39 = .ok (.ifCond .eq 12, 3) := by decide +kernel
theorem dX5_readClause_42 : decode cX5_readClause 42 = .ok (.aload_n 0, 1) := by decide +kernel
theorem dX5_readClause_43 : decode cX5_readClause 43 = .ok (.iconst 3, 1) := by decide +kernel
theorem dX5_readClause_44 : decode cX5_readClause 44 = .ok (.iload_n 2, 1) := by decide +kernel
theorem dX5_readClause_45 : decode cX5_readClause 45 = .ok (.invokevirtual 65, 3) := by decide +kernel
theorem dX5_readClause_48 : decode cX5_readClause 48 = .ok (.goto 43, 3) := by decide +kernel
theorem dX5_readClause_51 : decode cX5_readClause 51 = .ok (.iload_n 3, 1) := by decide +kernel
theorem dX5_readClause_52 : decode cX5_readClause 52 = .ok (.ifCond .ne 19, 3) := by decide +kernel
theorem dX5_readClause_55 : decode cX5_readClause 55 = .ok (.aload_n 0, 1) := by decide +kernel
theorem dX5_readClause_56 : decode cX5_readClause 56 = .ok (.getfield 31, 3) := by decide +kernel
theorem dX5_readClause_59 : decode cX5_readClause 59 = .ok (.ifCond .le 12, 3) := by decide +kernel
theorem dX5_readClause_62 : decode cX5_readClause 62 = .ok (.aload_n 0, 1) := by decide +kernel
theorem dX5_readClause_63 : decode cX5_readClause 63 = .ok (.iconst 4, 1) := by decide +kernel
theorem dX5_readClause_64 : decode cX5_readClause 64 = .ok (.iload_n 2, 1) := by decide +kernel
theorem dX5_readClause_65 : decode cX5_readClause 65 = .ok (.invokevirtual 65, 3) := by decide +kernel
theorem dX5_readClause_68 : decode cX5_readClause 68 = .ok (.goto 23, 3) := by decide +kernel
theorem dX5_readClause_71 : decode cX5_readClause 71 = .ok (.aload_n 0, 1) := by decide +kernel
theorem dX5_readClause_72 : decode cX5_readClause 72 = .ok (.iload_n 3, 1) := by decide +kernel
theorem dX5_readClause_73 : decode cX5_readClause 73 = .ok (.aload_n 1, 1) := by decide +kernel
theorem dX5_readClause_74 : decode cX5_readClause 74 = .ok (.invokevirtual 73, 3) := by decide +kernel
theorem dX5_readClause_77 : decode cX5_readClause 77 = .ok (.aload_n 0, 1) := by decide +kernel
theorem dX5_readClause_78 : decode cX5_readClause 78 = .ok (.invokevirtual 77, 3) := by decide +kernel
theorem dX5_readClause_81 : decode cX5_readClause 81 = .ok (.aload_n 0, 1) := by decide +kernel
theorem dX5_readClause_82 : decode cX5_readClause 82 = .ok (.dup, 1) := by decide +kernel
theorem dX5_readClause_83 : decode cX5_readClause 83 = .ok (.getfield 31, 3) := by decide +kernel
theorem dX5_readClause_86 : decode cX5_readClause 86 = .ok (.iconst 1, 1) := by decide +kernel
theorem dX5_readClause_87 : decode cX5_readClause 87 = .ok (.iadd, 1) := by decide +kernel
theorem dX5_readClause_88 : decode cX5_readClause 88 = .ok (.putfield 31, 3) := by decide +kernel
theorem dX5_readClause_91 : decode cX5_readClause 91 = .ok (.return_, 1) := by decide +kernel
set_option maxRecDepth 10000 in
theorem v_X5_readClause_0 {C : aM → List Value → aH → aO → aH → Prop} {sc : Nat × (Nat → Int32)} {P : aO → aH → Prop} {σ : aH} {u : Nat} {v : Nat}  (hG : G σ u) (hv : IsMk v)
    (h : (∀ z1 : Int32, z1 = (gI σ 1 3) → (∃ (r6 : Int32) (σ3 : aH), C mX5_readWord [.ref 1] σ (.inl (some (.int r6))) σ3 ∧ G σ3 u ∧ ((¬ r6 = (-1) → ((60 ≤ (gI σ3 1 6) → (∃ σ7 : aH, C mX5_blame [.ref 1, .int 3, .int z1] σ3 (.inl none) σ7 ∧ G σ7 u ∧ P (.inl none) σ7)) ∧ (¬ (60 ≤ (gI σ3 1 6)) → (∃ (r13 : Int32) (σ10 : aH), C mX5_isFull [.ref 1, .int r6, .ref v] σ3 (.inl (some (.int r13))) σ10 ∧ G σ10 u ∧ ((r13 = 0 → ((¬ r6 = 0 → (∃ σ14 : aH, C mX5_readNumbers [.ref 1, .int r6, .ref v] σ10 (.inl none) σ14 ∧ G σ14 u ∧ (∃ σ17 : aH, C mX5_readEnd [.ref 1] σ14 (.inl none) σ17 ∧ G σ17 u ∧ (∀ σ20 : aH, sI σ17 1 6 ((gI σ17 1 6) + 1) = σ20 → P (.inl none) σ20)))) ∧ (r6 = 0 → (((gI σ10 1 6) ≤ 0 → (∃ σ23 : aH, C mX5_readNumbers [.ref 1, .int r6, .ref v] σ10 (.inl none) σ23 ∧ G σ23 u ∧ (∃ σ26 : aH, C mX5_readEnd [.ref 1] σ23 (.inl none) σ26 ∧ G σ26 u ∧ (∀ σ29 : aH, sI σ26 1 6 ((gI σ26 1 6) + 1) = σ29 → P (.inl none) σ29)))) ∧ (¬ ((gI σ10 1 6) ≤ 0) → (∃ σ32 : aH, C mX5_blame [.ref 1, .int 4, .int z1] σ10 (.inl none) σ32 ∧ G σ32 u ∧ P (.inl none) σ32)))))) ∧ (¬ (r13 = 0) → (∃ σ35 : aH, C mX5_blame [.ref 1, .int 3, .int z1] σ10 (.inl none) σ35 ∧ G σ35 u ∧ P (.inl none) σ35))))))) ∧ (r6 = (-1) → (∃ σ38 : aH, C mX5_blame [.ref 1, .int 1, .int z1] σ3 (.inl none) σ38 ∧ G σ38 u ∧ P (.inl none) σ38)))))) :
    wp C 5 cX5_readClause 4 none false [] sc P 0 [(0, .ref 1), (1, .ref v)] [] σ := by
  refine w_aload_n dX5_readClause_0 rfl (List.Mem.head _) ?_
  refine w_getI (ci := 5) (k := 3) dX5_readClause_1 fl_5_22 (by decide) (gT hG rfl (lt_of rfl)) ?_
  refine top_i (fun z1 ez2 => ?_)
  replace h := h z1 ez2
  refine w_istore_n (l' := [(2, .int z1), (0, .ref 1), (1, .ref v)]) dX5_readClause_4 rfl (by decide) rfl ?_
  refine w_aload_n dX5_readClause_5 rfl (List.Mem.tail _ (List.Mem.head _)) ?_
  obtain ⟨r6, σ3, hc5, hG4, h⟩ := h
  refine w_callV dX5_readClause_6 ml_5_62 ⟨ok_X5_readWord, vi_X5_readWord⟩ hs_X5_readWord (As := []) rfl rfl (gT hG rfl (lt_of rfl)) (Nat.le_of_ble_eq_true rfl) hc5 ?_
  show wp C 5 cX5_readClause 4 none false [] sc P 9 [(2, .int z1), (0, .ref 1), (1, .ref v)] [.int r6] σ3
  refine w_istore_n (l' := [(3, .int r6), (2, .int z1), (0, .ref 1), (1, .ref v)]) dX5_readClause_9 rfl (by decide) rfl ?_
  refine w_iload_n dX5_readClause_10 rfl (List.Mem.head _) ?_
  refine w_iconst (v := (-1)) dX5_readClause_11 (by decide) ?_
  refine w_icmp_ne (tgt := 24) dX5_readClause_12 rfl (fun c9 => ?_) (fun c9 => ?_)
  · replace h := h.1 c9
    refine w_aload_n dX5_readClause_24 rfl (List.Mem.tail _ (List.Mem.tail _ (List.Mem.head _))) ?_
    refine w_getI (ci := 5) (k := 6) dX5_readClause_25 fl_5_31 (by decide) (gT hG4 rfl (lt_of rfl)) ?_
    refine w_bipush (v := 60) dX5_readClause_28 (by decide) ?_
    refine w_icmp_ge (tgt := 42) dX5_readClause_30 rfl (fun c9 => ?_) (fun c9 => ?_)
    · replace h := h.1 c9
      refine w_aload_n dX5_readClause_42 rfl (List.Mem.tail _ (List.Mem.tail _ (List.Mem.head _))) ?_
      refine w_iconst (v := 3) dX5_readClause_43 (by decide) ?_
      refine w_iload_n dX5_readClause_44 rfl (List.Mem.tail _ (List.Mem.head _)) ?_
      obtain ⟨σ7, hc9, hG8, h⟩ := h
      refine w_callV dX5_readClause_45 ml_5_65 ⟨ok_X5_blame, vi_X5_blame⟩ hs_X5_blame (As := [.int 3, .int z1]) rfl rfl (gT hG4 rfl (lt_of rfl)) (Nat.le_of_ble_eq_true rfl) hc9 ?_
      show wp C 5 cX5_readClause 4 none false [] sc P 48 [(3, .int r6), (2, .int z1), (0, .ref 1), (1, .ref v)] [] σ7
      refine w_goto (tgt := 91) dX5_readClause_48 rfl ?_
      exact w_vret dX5_readClause_91 rfl h
    · replace h := h.2 c9
      refine w_aload_n dX5_readClause_33 rfl (List.Mem.tail _ (List.Mem.tail _ (List.Mem.head _))) ?_
      refine w_iload_n dX5_readClause_34 rfl (List.Mem.head _) ?_
      refine w_aload_n dX5_readClause_35 rfl (List.Mem.tail _ (List.Mem.tail _ (List.Mem.tail _ (List.Mem.head _)))) ?_
      obtain ⟨r13, σ10, hc12, hG11, h⟩ := h
      refine w_callV dX5_readClause_36 ml_5_69 ⟨ok_X5_isFull, vi_X5_isFull⟩ hs_X5_isFull (As := [.int r6, .ref v]) rfl rfl (gT hG4 rfl (lt_of rfl)) (Nat.le_of_ble_eq_true rfl) hc12 ?_
      show wp C 5 cX5_readClause 4 none false [] sc P 39 [(3, .int r6), (2, .int z1), (0, .ref 1), (1, .ref v)] [.int r13] σ10
      refine w_if_eq (tgt := 51) dX5_readClause_39 rfl (fun c9 => ?_) (fun c9 => ?_)
      · replace h := h.1 c9
        refine w_iload_n dX5_readClause_51 rfl (List.Mem.head _) ?_
        refine w_if_ne (tgt := 71) dX5_readClause_52 rfl (fun c9 => ?_) (fun c9 => ?_)
        · replace h := h.1 c9
          refine w_aload_n dX5_readClause_71 rfl (List.Mem.tail _ (List.Mem.tail _ (List.Mem.head _))) ?_
          refine w_iload_n dX5_readClause_72 rfl (List.Mem.head _) ?_
          refine w_aload_n dX5_readClause_73 rfl (List.Mem.tail _ (List.Mem.tail _ (List.Mem.tail _ (List.Mem.head _)))) ?_
          obtain ⟨σ14, hc16, hG15, h⟩ := h
          refine w_callV dX5_readClause_74 ml_5_73 ⟨ok_X5_readNumbers, vi_X5_readNumbers⟩ hs_X5_readNumbers (As := [.int r6, .ref v]) rfl rfl (gT hG11 rfl (lt_of rfl)) (Nat.le_of_ble_eq_true rfl) hc16 ?_
          show wp C 5 cX5_readClause 4 none false [] sc P 77 [(3, .int r6), (2, .int z1), (0, .ref 1), (1, .ref v)] [] σ14
          refine w_aload_n dX5_readClause_77 rfl (List.Mem.tail _ (List.Mem.tail _ (List.Mem.head _))) ?_
          obtain ⟨σ17, hc19, hG18, h⟩ := h
          refine w_callV dX5_readClause_78 ml_5_77 ⟨ok_X5_readEnd, vi_X5_readEnd⟩ hs_X5_readEnd (As := []) rfl rfl (gT hG15 rfl (lt_of rfl)) (Nat.le_of_ble_eq_true rfl) hc19 ?_
          show wp C 5 cX5_readClause 4 none false [] sc P 81 [(3, .int r6), (2, .int z1), (0, .ref 1), (1, .ref v)] [] σ17
          refine w_aload_n dX5_readClause_81 rfl (List.Mem.tail _ (List.Mem.tail _ (List.Mem.head _))) ?_
          refine w_dup dX5_readClause_82 rfl ?_
          refine w_getI (ci := 5) (k := 6) dX5_readClause_83 fl_5_31 (by decide) (gT hG18 rfl (lt_of rfl)) ?_
          refine w_iconst (v := 1) dX5_readClause_86 (by decide) ?_
          refine w_iadd dX5_readClause_87 ?_
          refine y_putI (ci := 5) (k := 6) dX5_readClause_88 fl_5_31 (by decide) (gT hG18 rfl (lt_of rfl)) (fun σ20 eσ21 => ?_)
          replace h := h σ20 eσ21
          have hG22 : G σ20 u := eσ21 ▸ G.sI hG18
          exact w_vret dX5_readClause_91 rfl h
        · replace h := h.2 c9
          refine w_aload_n dX5_readClause_55 rfl (List.Mem.tail _ (List.Mem.tail _ (List.Mem.head _))) ?_
          refine w_getI (ci := 5) (k := 6) dX5_readClause_56 fl_5_31 (by decide) (gT hG11 rfl (lt_of rfl)) ?_
          refine w_if_le (tgt := 71) dX5_readClause_59 rfl (fun c9 => ?_) (fun c9 => ?_)
          · replace h := h.1 c9
            refine w_aload_n dX5_readClause_71 rfl (List.Mem.tail _ (List.Mem.tail _ (List.Mem.head _))) ?_
            refine w_iload_n dX5_readClause_72 rfl (List.Mem.head _) ?_
            refine w_aload_n dX5_readClause_73 rfl (List.Mem.tail _ (List.Mem.tail _ (List.Mem.tail _ (List.Mem.head _)))) ?_
            obtain ⟨σ23, hc25, hG24, h⟩ := h
            refine w_callV dX5_readClause_74 ml_5_73 ⟨ok_X5_readNumbers, vi_X5_readNumbers⟩ hs_X5_readNumbers (As := [.int r6, .ref v]) rfl rfl (gT hG11 rfl (lt_of rfl)) (Nat.le_of_ble_eq_true rfl) hc25 ?_
            show wp C 5 cX5_readClause 4 none false [] sc P 77 [(3, .int r6), (2, .int z1), (0, .ref 1), (1, .ref v)] [] σ23
            refine w_aload_n dX5_readClause_77 rfl (List.Mem.tail _ (List.Mem.tail _ (List.Mem.head _))) ?_
            obtain ⟨σ26, hc28, hG27, h⟩ := h
            refine w_callV dX5_readClause_78 ml_5_77 ⟨ok_X5_readEnd, vi_X5_readEnd⟩ hs_X5_readEnd (As := []) rfl rfl (gT hG24 rfl (lt_of rfl)) (Nat.le_of_ble_eq_true rfl) hc28 ?_
            show wp C 5 cX5_readClause 4 none false [] sc P 81 [(3, .int r6), (2, .int z1), (0, .ref 1), (1, .ref v)] [] σ26
            refine w_aload_n dX5_readClause_81 rfl (List.Mem.tail _ (List.Mem.tail _ (List.Mem.head _))) ?_
            refine w_dup dX5_readClause_82 rfl ?_
            refine w_getI (ci := 5) (k := 6) dX5_readClause_83 fl_5_31 (by decide) (gT hG27 rfl (lt_of rfl)) ?_
            refine w_iconst (v := 1) dX5_readClause_86 (by decide) ?_
            refine w_iadd dX5_readClause_87 ?_
            refine y_putI (ci := 5) (k := 6) dX5_readClause_88 fl_5_31 (by decide) (gT hG27 rfl (lt_of rfl)) (fun σ29 eσ30 => ?_)
            replace h := h σ29 eσ30
            have hG31 : G σ29 u := eσ30 ▸ G.sI hG27
            exact w_vret dX5_readClause_91 rfl h
          · replace h := h.2 c9
            refine w_aload_n dX5_readClause_62 rfl (List.Mem.tail _ (List.Mem.tail _ (List.Mem.head _))) ?_
            refine w_iconst (v := 4) dX5_readClause_63 (by decide) ?_
            refine w_iload_n dX5_readClause_64 rfl (List.Mem.tail _ (List.Mem.head _)) ?_
            obtain ⟨σ32, hc34, hG33, h⟩ := h
            refine w_callV dX5_readClause_65 ml_5_65 ⟨ok_X5_blame, vi_X5_blame⟩ hs_X5_blame (As := [.int 4, .int z1]) rfl rfl (gT hG11 rfl (lt_of rfl)) (Nat.le_of_ble_eq_true rfl) hc34 ?_
            show wp C 5 cX5_readClause 4 none false [] sc P 68 [(3, .int r6), (2, .int z1), (0, .ref 1), (1, .ref v)] [] σ32
            refine w_goto (tgt := 91) dX5_readClause_68 rfl ?_
            exact w_vret dX5_readClause_91 rfl h
      · replace h := h.2 c9
        refine w_aload_n dX5_readClause_42 rfl (List.Mem.tail _ (List.Mem.tail _ (List.Mem.head _))) ?_
        refine w_iconst (v := 3) dX5_readClause_43 (by decide) ?_
        refine w_iload_n dX5_readClause_44 rfl (List.Mem.tail _ (List.Mem.head _)) ?_
        obtain ⟨σ35, hc37, hG36, h⟩ := h
        refine w_callV dX5_readClause_45 ml_5_65 ⟨ok_X5_blame, vi_X5_blame⟩ hs_X5_blame (As := [.int 3, .int z1]) rfl rfl (gT hG11 rfl (lt_of rfl)) (Nat.le_of_ble_eq_true rfl) hc37 ?_
        show wp C 5 cX5_readClause 4 none false [] sc P 48 [(3, .int r6), (2, .int z1), (0, .ref 1), (1, .ref v)] [] σ35
        refine w_goto (tgt := 91) dX5_readClause_48 rfl ?_
        exact w_vret dX5_readClause_91 rfl h
  · replace h := h.2 c9
    refine w_aload_n dX5_readClause_15 rfl (List.Mem.tail _ (List.Mem.tail _ (List.Mem.head _))) ?_
    refine w_iconst (v := 1) dX5_readClause_16 (by decide) ?_
    refine w_iload_n dX5_readClause_17 rfl (List.Mem.tail _ (List.Mem.head _)) ?_
    obtain ⟨σ38, hc40, hG39, h⟩ := h
    refine w_callV dX5_readClause_18 ml_5_65 ⟨ok_X5_blame, vi_X5_blame⟩ hs_X5_blame (As := [.int 1, .int z1]) rfl rfl (gT hG4 rfl (lt_of rfl)) (Nat.le_of_ble_eq_true rfl) hc40 ?_
    show wp C 5 cX5_readClause 4 none false [] sc P 21 [(3, .int r6), (2, .int z1), (0, .ref 1), (1, .ref v)] [] σ38
    refine w_goto (tgt := 91) dX5_readClause_21 rfl ?_
    exact w_vret dX5_readClause_91 rfl h
theorem dX5_nameOf_0 : decode cX5_nameOf 0 = .ok (.iload_n 0, 1) := by decide +kernel
theorem dX5_nameOf_1 : decode cX5_nameOf 1 = .ok (.tableswitch 78 0 8 #[51, 54, 57, 60, 63, 66, 69, 72, 75], 51) := by decide +kernel
theorem dX5_nameOf_52 : decode cX5_nameOf 52 = .ok (.ldc 88, 2) := by decide +kernel
theorem dX5_nameOf_54 : decode cX5_nameOf 54 = .ok (.areturn, 1) := by decide +kernel
theorem dX5_nameOf_55 : decode cX5_nameOf 55 = .ok (.ldc 90, 2) := by decide +kernel
theorem dX5_nameOf_57 : decode cX5_nameOf 57 = .ok (.areturn, 1) := by decide +kernel
theorem dX5_nameOf_58 : decode cX5_nameOf 58 = .ok (.ldc 92, 2) := by decide +kernel
theorem dX5_nameOf_60 : decode cX5_nameOf 60 = .ok (.areturn, 1) := by decide +kernel
theorem dX5_nameOf_61 : decode cX5_nameOf 61 = .ok (.ldc 94, 2) := by decide +kernel
theorem dX5_nameOf_63 : decode cX5_nameOf 63 = .ok (.areturn, 1) := by decide +kernel
theorem dX5_nameOf_64 : decode cX5_nameOf 64 = .ok (.ldc 96, 2) := by decide +kernel
theorem dX5_nameOf_66 : decode cX5_nameOf 66 = .ok (.areturn, 1) := by decide +kernel
theorem dX5_nameOf_67 : decode cX5_nameOf 67 = .ok (.ldc 98, 2) := by decide +kernel
theorem dX5_nameOf_69 : decode cX5_nameOf 69 = .ok (.areturn, 1) := by decide +kernel
theorem dX5_nameOf_70 : decode cX5_nameOf 70 = .ok (.ldc 100, 2) := by decide +kernel
theorem dX5_nameOf_72 : decode cX5_nameOf 72 = .ok (.areturn, 1) := by decide +kernel
theorem dX5_nameOf_73 : decode cX5_nameOf 73 = .ok (.ldc 102, 2) := by decide +kernel
theorem dX5_nameOf_75 : decode cX5_nameOf 75 = .ok (.areturn, 1) := by decide +kernel
theorem dX5_nameOf_76 : decode cX5_nameOf 76 = .ok (.ldc 104, 2) := by decide +kernel
theorem dX5_nameOf_78 : decode cX5_nameOf 78 = .ok (.areturn, 1) := by decide +kernel
theorem dX5_nameOf_79 : decode cX5_nameOf 79 = .ok (.ldc 106, 2) := by decide +kernel
theorem dX5_nameOf_81 : decode cX5_nameOf 81 = .ok (.areturn, 1) := by decide +kernel
set_option maxRecDepth 10000 in
theorem v_X5_nameOf_0 {C : aM → List Value → aH → aO → aH → Prop} {sc : Nat × (Nat → Int32)} {P : aO → aH → Prop} {σ : aH} {u : Nat}  {x0 : Int32} (hG : G σ u) 
    (h : (((x0.toInt < 0 ∨ 8 < x0.toInt) → P (.inl (some (.ref 1000010))) σ) ∧ (x0.toInt = 0 → P (.inl (some (.ref 1000001))) σ) ∧ (x0.toInt = 1 → P (.inl (some (.ref 1000002))) σ) ∧ (x0.toInt = 2 → P (.inl (some (.ref 1000003))) σ) ∧ (x0.toInt = 3 → P (.inl (some (.ref 1000004))) σ) ∧ (x0.toInt = 4 → P (.inl (some (.ref 1000005))) σ) ∧ (x0.toInt = 5 → P (.inl (some (.ref 1000006))) σ) ∧ (x0.toInt = 6 → P (.inl (some (.ref 1000007))) σ) ∧ (x0.toInt = 7 → P (.inl (some (.ref 1000008))) σ) ∧ (x0.toInt = 8 → P (.inl (some (.ref 1000009))) σ))) :
    wp C 5 cX5_nameOf 1 (some (.object "java/lang/String")) false [] sc P 0 [(0, .int x0)] [] σ := by
  refine w_iload_n dX5_nameOf_0 rfl (List.Mem.head _) ?_
  rcases sw_cases x0 0 8 with hx | hx
  · refine w_tabOut (tgt := 79) dX5_nameOf_1 hx rfl ?_
    replace h := h.1 hx
    refine w_ldcS (q := 1000010) dX5_nameOf_79 ⟨by decide, _, rfl⟩ ?_
    exact w_aret dX5_nameOf_81 rfl h
  · replace h := h.2
    by_cases hz0 : x0.toInt = 0
    · refine w_tabIn (off := 51) (tgt := 52) dX5_nameOf_1 (by omega) (by omega) (by rw [hz0]; rfl) rfl ?_
      replace h := h.1 hz0
      refine w_ldcS (q := 1000001) dX5_nameOf_52 ⟨by decide, _, rfl⟩ ?_
      exact w_aret dX5_nameOf_54 rfl h
    by_cases hz1 : x0.toInt = 1
    · refine w_tabIn (off := 54) (tgt := 55) dX5_nameOf_1 (by omega) (by omega) (by rw [hz1]; rfl) rfl ?_
      replace h := h.2.1 hz1
      refine w_ldcS (q := 1000002) dX5_nameOf_55 ⟨by decide, _, rfl⟩ ?_
      exact w_aret dX5_nameOf_57 rfl h
    by_cases hz2 : x0.toInt = 2
    · refine w_tabIn (off := 57) (tgt := 58) dX5_nameOf_1 (by omega) (by omega) (by rw [hz2]; rfl) rfl ?_
      replace h := h.2.2.1 hz2
      refine w_ldcS (q := 1000003) dX5_nameOf_58 ⟨by decide, _, rfl⟩ ?_
      exact w_aret dX5_nameOf_60 rfl h
    by_cases hz3 : x0.toInt = 3
    · refine w_tabIn (off := 60) (tgt := 61) dX5_nameOf_1 (by omega) (by omega) (by rw [hz3]; rfl) rfl ?_
      replace h := h.2.2.2.1 hz3
      refine w_ldcS (q := 1000004) dX5_nameOf_61 ⟨by decide, _, rfl⟩ ?_
      exact w_aret dX5_nameOf_63 rfl h
    by_cases hz4 : x0.toInt = 4
    · refine w_tabIn (off := 63) (tgt := 64) dX5_nameOf_1 (by omega) (by omega) (by rw [hz4]; rfl) rfl ?_
      replace h := h.2.2.2.2.1 hz4
      refine w_ldcS (q := 1000005) dX5_nameOf_64 ⟨by decide, _, rfl⟩ ?_
      exact w_aret dX5_nameOf_66 rfl h
    by_cases hz5 : x0.toInt = 5
    · refine w_tabIn (off := 66) (tgt := 67) dX5_nameOf_1 (by omega) (by omega) (by rw [hz5]; rfl) rfl ?_
      replace h := h.2.2.2.2.2.1 hz5
      refine w_ldcS (q := 1000006) dX5_nameOf_67 ⟨by decide, _, rfl⟩ ?_
      exact w_aret dX5_nameOf_69 rfl h
    by_cases hz6 : x0.toInt = 6
    · refine w_tabIn (off := 69) (tgt := 70) dX5_nameOf_1 (by omega) (by omega) (by rw [hz6]; rfl) rfl ?_
      replace h := h.2.2.2.2.2.2.1 hz6
      refine w_ldcS (q := 1000007) dX5_nameOf_70 ⟨by decide, _, rfl⟩ ?_
      exact w_aret dX5_nameOf_72 rfl h
    by_cases hz7 : x0.toInt = 7
    · refine w_tabIn (off := 72) (tgt := 73) dX5_nameOf_1 (by omega) (by omega) (by rw [hz7]; rfl) rfl ?_
      replace h := h.2.2.2.2.2.2.2.1 hz7
      refine w_ldcS (q := 1000008) dX5_nameOf_73 ⟨by decide, _, rfl⟩ ?_
      exact w_aret dX5_nameOf_75 rfl h
    have hz8 : x0.toInt = 8 := by omega
    refine w_tabIn (off := 75) (tgt := 76) dX5_nameOf_1 (by omega) (by omega) (by rw [hz8]; rfl) rfl ?_
    replace h := h.2.2.2.2.2.2.2.2 hz8
    refine w_ldcS (q := 1000009) dX5_nameOf_76 ⟨by decide, _, rfl⟩ ?_
    exact w_aret dX5_nameOf_78 rfl h
theorem dX5_isFull_0 : decode cX5_isFull 0 = .ok (.iload_n 1, 1) := by decide +kernel
theorem dX5_isFull_1 : decode cX5_isFull 1 = .ok (.tableswitch 83 1 5 #[35, 83, 83, 53, 68], 35) := by decide +kernel
theorem dX5_isFull_36 : decode cX5_isFull 36 = .ok (.aload_n 2, 1) := by decide +kernel
theorem dX5_isFull_37 : decode cX5_isFull 37 = .ok (.getfield 117, 3) := by decide +kernel
theorem dX5_isFull_40 : decode cX5_isFull 40 = .ok (.getfield 121, 3) := by decide +kernel
theorem dX5_isFull_43 : decode cX5_isFull 43 = .ok (.bipush 8, 2) := by decide +kernel
theorem dX5_isFull_45 : decode cX5_isFull 45 = .ok (.if_icmp .lt 7, 3) := by decide +kernel
theorem dX5_isFull_48 : decode cX5_isFull 48 = .ok (.iconst 1, 1) := by decide +kernel
theorem dX5_isFull_49 : decode cX5_isFull 49 = .ok (.goto 4, 3) := by decide +kernel
theorem dX5_isFull_52 : decode cX5_isFull 52 = .ok (.iconst 0, 1) := by decide +kernel
theorem dX5_isFull_53 : decode cX5_isFull 53 = .ok (.ireturn, 1) := by decide +kernel
theorem dX5_isFull_54 : decode cX5_isFull 54 = .ok (.aload_n 0, 1) := by decide +kernel
theorem dX5_isFull_55 : decode cX5_isFull 55 = .ok (.getfield 34, 3) := by decide +kernel
theorem dX5_isFull_58 : decode cX5_isFull 58 = .ok (.bipush 20, 2) := by decide +kernel
theorem dX5_isFull_60 : decode cX5_isFull 60 = .ok (.if_icmp .lt 7, 3) := by decide +kernel
theorem dX5_isFull_63 : decode cX5_isFull 63 = .ok (.iconst 1, 1) := by decide +kernel
theorem dX5_isFull_64 : decode cX5_isFull 64 = .ok (.goto 4, 3) := by decide +kernel
theorem dX5_isFull_67 : decode cX5_isFull 67 = .ok (.iconst 0, 1) := by decide +kernel
theorem dX5_isFull_68 : decode cX5_isFull 68 = .ok (.ireturn, 1) := by decide +kernel
theorem dX5_isFull_69 : decode cX5_isFull 69 = .ok (.aload_n 0, 1) := by decide +kernel
theorem dX5_isFull_70 : decode cX5_isFull 70 = .ok (.getfield 37, 3) := by decide +kernel
theorem dX5_isFull_73 : decode cX5_isFull 73 = .ok (.bipush 20, 2) := by decide +kernel
theorem dX5_isFull_75 : decode cX5_isFull 75 = .ok (.if_icmp .lt 7, 3) := by decide +kernel
theorem dX5_isFull_78 : decode cX5_isFull 78 = .ok (.iconst 1, 1) := by decide +kernel
theorem dX5_isFull_79 : decode cX5_isFull 79 = .ok (.goto 4, 3) := by decide +kernel
theorem dX5_isFull_82 : decode cX5_isFull 82 = .ok (.iconst 0, 1) := by decide +kernel
theorem dX5_isFull_83 : decode cX5_isFull 83 = .ok (.ireturn, 1) := by decide +kernel
theorem dX5_isFull_84 : decode cX5_isFull 84 = .ok (.iconst 0, 1) := by decide +kernel
theorem dX5_isFull_85 : decode cX5_isFull 85 = .ok (.ireturn, 1) := by decide +kernel
set_option maxRecDepth 10000 in
theorem v_X5_isFull_0 {C : aM → List Value → aH → aO → aH → Prop} {sc : Nat × (Nat → Int32)} {P : aO → aH → Prop} {σ : aH} {u : Nat} {v : Nat} {x1 : Int32} (hG : G σ u) (hv : IsMk v)
    (h : (((x1.toInt < 1 ∨ 5 < x1.toInt) → P (.inl (some (.int 0))) σ) ∧ (x1.toInt = 1 → (((gI σ (v + 1) 8) < 8 → P (.inl (some (.int 0))) σ) ∧ (¬ ((gI σ (v + 1) 8) < 8) → P (.inl (some (.int 1))) σ))) ∧ (x1.toInt = 2 → P (.inl (some (.int 0))) σ) ∧ (x1.toInt = 3 → P (.inl (some (.int 0))) σ) ∧ (x1.toInt = 4 → (((gI σ 1 7) < 20 → P (.inl (some (.int 0))) σ) ∧ (¬ ((gI σ 1 7) < 20) → P (.inl (some (.int 1))) σ))) ∧ (x1.toInt = 5 → (((gI σ 1 8) < 20 → P (.inl (some (.int 0))) σ) ∧ (¬ ((gI σ 1 8) < 20) → P (.inl (some (.int 1))) σ))))) :
    wp C 5 cX5_isFull 3 (some .boolean) false [] sc P 0 [(0, .ref 1), (1, .int x1), (2, .ref v)] [] σ := by
  refine w_iload_n dX5_isFull_0 rfl (List.Mem.tail _ (List.Mem.head _)) ?_
  rcases sw_cases x1 1 5 with hx | hx
  · refine w_tabOut (tgt := 84) dX5_isFull_1 hx rfl ?_
    replace h := h.1 hx
    refine w_iconst (v := 0) dX5_isFull_84 (by decide) ?_
    exact w_zret dX5_isFull_85 rfl (by decide) h
  · replace h := h.2
    by_cases hz0 : x1.toInt = 1
    · refine w_tabIn (off := 35) (tgt := 36) dX5_isFull_1 (by omega) (by omega) (by rw [hz0]; rfl) rfl ?_
      replace h := h.1 hz0
      refine w_aload_n dX5_isFull_36 rfl (List.Mem.tail _ (List.Mem.tail _ (List.Mem.head _))) ?_
      refine w_getR (ci := 2) (k := 0) (b := (v + 1)) dX5_isFull_37 fl_5_117 (by decide) (gT hG (IsMk_t0 hv) (IsMk_lt hv (k := 0) (by decide))) (gR hG (IsMk_r0_0 hv)) ?_
      refine w_getI (ci := 7) (k := 8) dX5_isFull_40 fl_5_121 (by decide) (gT hG (IsMk_t1 hv) (IsMk_lt hv (k := 1) (by decide))) ?_
      refine w_bipush (v := 8) dX5_isFull_43 (by decide) ?_
      refine w_icmp_lt (tgt := 52) dX5_isFull_45 rfl (fun c9 => ?_) (fun c9 => ?_)
      · replace h := h.1 c9
        refine w_iconst (v := 0) dX5_isFull_52 (by decide) ?_
        exact w_zret dX5_isFull_53 rfl (by decide) h
      · replace h := h.2 c9
        refine w_iconst (v := 1) dX5_isFull_48 (by decide) ?_
        refine w_goto (tgt := 53) dX5_isFull_49 rfl ?_
        exact w_zret dX5_isFull_53 rfl (by decide) h
    by_cases hz1 : x1.toInt = 2
    · refine w_tabIn (off := 83) (tgt := 84) dX5_isFull_1 (by omega) (by omega) (by rw [hz1]; rfl) rfl ?_
      replace h := h.2.1 hz1
      refine w_iconst (v := 0) dX5_isFull_84 (by decide) ?_
      exact w_zret dX5_isFull_85 rfl (by decide) h
    by_cases hz2 : x1.toInt = 3
    · refine w_tabIn (off := 83) (tgt := 84) dX5_isFull_1 (by omega) (by omega) (by rw [hz2]; rfl) rfl ?_
      replace h := h.2.2.1 hz2
      refine w_iconst (v := 0) dX5_isFull_84 (by decide) ?_
      exact w_zret dX5_isFull_85 rfl (by decide) h
    by_cases hz3 : x1.toInt = 4
    · refine w_tabIn (off := 53) (tgt := 54) dX5_isFull_1 (by omega) (by omega) (by rw [hz3]; rfl) rfl ?_
      replace h := h.2.2.2.1 hz3
      refine w_aload_n dX5_isFull_54 rfl (List.Mem.head _) ?_
      refine w_getI (ci := 5) (k := 7) dX5_isFull_55 fl_5_34 (by decide) (gT hG rfl (lt_of rfl)) ?_
      refine w_bipush (v := 20) dX5_isFull_58 (by decide) ?_
      refine w_icmp_lt (tgt := 67) dX5_isFull_60 rfl (fun c9 => ?_) (fun c9 => ?_)
      · replace h := h.1 c9
        refine w_iconst (v := 0) dX5_isFull_67 (by decide) ?_
        exact w_zret dX5_isFull_68 rfl (by decide) h
      · replace h := h.2 c9
        refine w_iconst (v := 1) dX5_isFull_63 (by decide) ?_
        refine w_goto (tgt := 68) dX5_isFull_64 rfl ?_
        exact w_zret dX5_isFull_68 rfl (by decide) h
    have hz4 : x1.toInt = 5 := by omega
    refine w_tabIn (off := 68) (tgt := 69) dX5_isFull_1 (by omega) (by omega) (by rw [hz4]; rfl) rfl ?_
    replace h := h.2.2.2.2 hz4
    refine w_aload_n dX5_isFull_69 rfl (List.Mem.head _) ?_
    refine w_getI (ci := 5) (k := 8) dX5_isFull_70 fl_5_37 (by decide) (gT hG rfl (lt_of rfl)) ?_
    refine w_bipush (v := 20) dX5_isFull_73 (by decide) ?_
    refine w_icmp_lt (tgt := 82) dX5_isFull_75 rfl (fun c9 => ?_) (fun c9 => ?_)
    · replace h := h.1 c9
      refine w_iconst (v := 0) dX5_isFull_82 (by decide) ?_
      exact w_zret dX5_isFull_83 rfl (by decide) h
    · replace h := h.2 c9
      refine w_iconst (v := 1) dX5_isFull_78 (by decide) ?_
      refine w_goto (tgt := 83) dX5_isFull_79 rfl ?_
      exact w_zret dX5_isFull_83 rfl (by decide) h
theorem dX5_readNumbers_0 : decode cX5_readNumbers 0 = .ok (.iload_n 1, 1) := by decide +kernel
theorem dX5_readNumbers_1 : decode cX5_readNumbers 1 = .ok (.tableswitch 148 0 9 #[55, 80, 148, 148, 88, 96, 104, 148, 119, 134], 55) := by decide +kernel
theorem dX5_readNumbers_56 : decode cX5_readNumbers 56 = .ok (.aload_n 2, 1) := by decide +kernel
theorem dX5_readNumbers_57 : decode cX5_readNumbers 57 = .ok (.aload_n 0, 1) := by decide +kernel
theorem dX5_readNumbers_58 : decode cX5_readNumbers 58 = .ok (.iconst 2, 1) := by decide +kernel
theorem dX5_readNumbers_59 : decode cX5_readNumbers 59 = .ok (.bipush 9, 2) := by decide +kernel
theorem dX5_readNumbers_61 : decode cX5_readNumbers 61 = .ok (.invokevirtual 126, 3) := by decide +kernel
theorem dX5_readNumbers_64 : decode cX5_readNumbers 64 = .ok (.putfield 129, 3) := by decide +kernel
theorem dX5_readNumbers_67 : decode cX5_readNumbers 67 = .ok (.aload_n 2, 1) := by decide +kernel
theorem dX5_readNumbers_68 : decode cX5_readNumbers 68 = .ok (.aload_n 0, 1) := by decide +kernel
theorem dX5_readNumbers_69 : decode cX5_readNumbers 69 = .ok (.iconst 2, 1) := by decide +kernel
theorem dX5_readNumbers_70 : decode cX5_readNumbers 70 = .ok (.bipush 9, 2) := by decide +kernel
theorem dX5_readNumbers_72 : decode cX5_readNumbers 72 = .ok (.invokevirtual 126, 3) := by decide +kernel
theorem dX5_readNumbers_75 : decode cX5_readNumbers 75 = .ok (.putfield 132, 3) := by decide +kernel
theorem dX5_readNumbers_78 : decode cX5_readNumbers 78 = .ok (.goto 80, 3) := by decide +kernel
theorem dX5_readNumbers_81 : decode cX5_readNumbers 81 = .ok (.aload_n 0, 1) := by decide +kernel
theorem dX5_readNumbers_82 : decode cX5_readNumbers 82 = .ok (.aload_n 2, 1) := by decide +kernel
theorem dX5_readNumbers_83 : decode cX5_readNumbers 83 = .ok (.invokevirtual 135, 3) := by decide +kernel
theorem dX5_readNumbers_86 : decode cX5_readNumbers 86 = .ok (.goto 72, 3) := by decide +kernel
theorem dX5_readNumbers_89 : decode cX5_readNumbers 89 = .ok (.aload_n 0, 1) := by decide +kernel
theorem dX5_readNumbers_90 : decode cX5_readNumbers 90 = .ok (.aload_n 2, 1) := by decide +kernel
theorem dX5_readNumbers_91 : decode cX5_readNumbers 91 = .ok (.invokevirtual 138, 3) := by decide +kernel
theorem dX5_readNumbers_94 : decode cX5_readNumbers 94 = .ok (.goto 64, 3) := by decide +kernel
theorem dX5_readNumbers_97 : decode cX5_readNumbers 97 = .ok (.aload_n 0, 1) := by decide +kernel
theorem dX5_readNumbers_98 : decode cX5_readNumbers 98 = .ok (.aload_n 2, 1) := by decide +kernel
theorem dX5_readNumbers_99 : decode cX5_readNumbers 99 = .ok (.invokevirtual 141, 3) := by decide +kernel
theorem dX5_readNumbers_102 : decode cX5_readNumbers 102 = .ok (.goto 56, 3) := by decide +kernel
theorem dX5_readNumbers_105 : decode cX5_readNumbers 105 = .ok (.aload_n 2, 1) := by decide +kernel
theorem dX5_readNumbers_106 : decode cX5_readNumbers 106 = .ok (.aload_n 0, 1) := by decide +kernel
theorem dX5_readNumbers_107 : decode cX5_readNumbers 107 = .ok (.iconst 0, 1) := by decide +kernel
theorem dX5_readNumbers_108 : decode cX5_readNumbers 108 = .ok (.sipush 1440, 3) := by decide +kernel
theorem dX5_readNumbers_111 : decode cX5_readNumbers 111 = .ok (.invokevirtual 126, 3) := by decide +kernel
theorem dX5_readNumbers_114 : decode cX5_readNumbers 114 = .ok (.putfield 144, 3) := by decide +kernel
theorem dX5_readNumbers_117 : decode cX5_readNumbers 117 = .ok (.goto 41, 3) := by decide +kernel
theorem dX5_readNumbers_120 : decode cX5_readNumbers 120 = .ok (.aload_n 2, 1) := by decide +kernel
theorem dX5_readNumbers_121 : decode cX5_readNumbers 121 = .ok (.aload_n 0, 1) := by decide +kernel
theorem dX5_readNumbers_122 : decode cX5_readNumbers 122 = .ok (.iconst 0, 1) := by decide +kernel
theorem dX5_readNumbers_123 : decode cX5_readNumbers 123 = .ok (.sipush 1440, 3) := by decide +kernel
theorem dX5_readNumbers_126 : decode cX5_readNumbers 126 = .ok (.invokevirtual 126, 3) := by decide +kernel
theorem dX5_readNumbers_129 : decode cX5_readNumbers 129 = .ok (.putfield 146, 3) := by decide +kernel
theorem dX5_readNumbers_132 : decode cX5_readNumbers 132 = .ok (.goto 26, 3) := by decide +kernel
theorem dX5_readNumbers_135 : decode cX5_readNumbers 135 = .ok (.aload_n 2, 1) := by decide +kernel
theorem dX5_readNumbers_136 : decode cX5_readNumbers 136 = .ok (.aload_n 0, 1) := by decide +kernel
theorem dX5_readNumbers_137 : decode cX5_readNumbers 137 = .ok (.iconst 0, 1) := by decide +kernel
theorem dX5_readNumbers_138 : decode cX5_readNumbers 138 = .ok (.bipush 8, 2) := by decide +kernel
theorem dX5_readNumbers_140 : decode cX5_readNumbers 140 = .ok (.invokevirtual 126, 3) := by decide +kernel
theorem dX5_readNumbers_143 : decode cX5_readNumbers 143 = .ok (.putfield 148, 3) := by decide +kernel
theorem dX5_readNumbers_146 : decode cX5_readNumbers 146 = .ok (.goto 12, 3) := by decide +kernel
theorem dX5_readNumbers_149 : decode cX5_readNumbers 149 = .ok (.aload_n 0, 1) := by decide +kernel
theorem dX5_readNumbers_150 : decode cX5_readNumbers 150 = .ok (.iload_n 1, 1) := by decide +kernel
theorem dX5_readNumbers_151 : decode cX5_readNumbers 151 = .ok (.aload_n 2, 1) := by decide +kernel
theorem dX5_readNumbers_152 : decode cX5_readNumbers 152 = .ok (.getfield 117, 3) := by decide +kernel
theorem dX5_readNumbers_155 : decode cX5_readNumbers 155 = .ok (.invokevirtual 150, 3) := by decide +kernel
theorem dX5_readNumbers_158 : decode cX5_readNumbers 158 = .ok (.return_, 1) := by decide +kernel
set_option maxRecDepth 10000 in
theorem v_X5_readNumbers_0 {C : aM → List Value → aH → aO → aH → Prop} {sc : Nat × (Nat → Int32)} {P : aO → aH → Prop} {σ : aH} {u : Nat} {v : Nat} {x1 : Int32} (hG : G σ u) (hv : IsMk v)
    (h : (((x1.toInt < 0 ∨ 9 < x1.toInt) → (∃ σ2 : aH, C mX5_readOfStall [.ref 1, .int x1, .ref (v + 1)] σ (.inl none) σ2 ∧ G σ2 u ∧ P (.inl none) σ2)) ∧ (x1.toInt = 0 → (∃ (r8 : Int32) (σ5 : aH), C mX5_readNumber [.ref 1, .int 2, .int 9] σ (.inl (some (.int r8))) σ5 ∧ G σ5 u ∧ (∀ σ9 : aH, sI σ5 v 3 r8 = σ9 → (∃ (r15 : Int32) (σ12 : aH), C mX5_readNumber [.ref 1, .int 2, .int 9] σ9 (.inl (some (.int r15))) σ12 ∧ G σ12 u ∧ (∀ σ16 : aH, sI σ12 v 4 r15 = σ16 → P (.inl none) σ16))))) ∧ (x1.toInt = 1 → (∃ σ19 : aH, C mX5_readStall [.ref 1, .ref v] σ (.inl none) σ19 ∧ G σ19 u ∧ P (.inl none) σ19)) ∧ (x1.toInt = 2 → (∃ σ22 : aH, C mX5_readOfStall [.ref 1, .int x1, .ref (v + 1)] σ (.inl none) σ22 ∧ G σ22 u ∧ P (.inl none) σ22)) ∧ (x1.toInt = 3 → (∃ σ25 : aH, C mX5_readOfStall [.ref 1, .int x1, .ref (v + 1)] σ (.inl none) σ25 ∧ G σ25 u ∧ P (.inl none) σ25)) ∧ (x1.toInt = 4 → (∃ σ28 : aH, C mX5_readSun [.ref 1, .ref v] σ (.inl none) σ28 ∧ G σ28 u ∧ P (.inl none) σ28)) ∧ (x1.toInt = 5 → (∃ σ31 : aH, C mX5_readRate [.ref 1, .ref v] σ (.inl none) σ31 ∧ G σ31 u ∧ P (.inl none) σ31)) ∧ (x1.toInt = 6 → (∃ (r37 : Int32) (σ34 : aH), C mX5_readNumber [.ref 1, .int 0, .int 1440] σ (.inl (some (.int r37))) σ34 ∧ G σ34 u ∧ (∀ σ38 : aH, sI σ34 v 5 r37 = σ38 → P (.inl none) σ38))) ∧ (x1.toInt = 7 → (∃ σ41 : aH, C mX5_readOfStall [.ref 1, .int x1, .ref (v + 1)] σ (.inl none) σ41 ∧ G σ41 u ∧ P (.inl none) σ41)) ∧ (x1.toInt = 8 → (∃ (r47 : Int32) (σ44 : aH), C mX5_readNumber [.ref 1, .int 0, .int 1440] σ (.inl (some (.int r47))) σ44 ∧ G σ44 u ∧ (∀ σ48 : aH, sI σ44 v 6 r47 = σ48 → P (.inl none) σ48))) ∧ (x1.toInt = 9 → (∃ (r54 : Int32) (σ51 : aH), C mX5_readNumber [.ref 1, .int 0, .int 8] σ (.inl (some (.int r54))) σ51 ∧ G σ51 u ∧ (∀ σ55 : aH, sI σ51 v 7 r54 = σ55 → P (.inl none) σ55))))) :
    wp C 5 cX5_readNumbers 3 none false [] sc P 0 [(0, .ref 1), (1, .int x1), (2, .ref v)] [] σ := by
  refine w_iload_n dX5_readNumbers_0 rfl (List.Mem.tail _ (List.Mem.head _)) ?_
  rcases sw_cases x1 0 9 with hx | hx
  · refine w_tabOut (tgt := 149) dX5_readNumbers_1 hx rfl ?_
    replace h := h.1 hx
    refine w_aload_n dX5_readNumbers_149 rfl (List.Mem.head _) ?_
    refine w_iload_n dX5_readNumbers_150 rfl (List.Mem.tail _ (List.Mem.head _)) ?_
    refine w_aload_n dX5_readNumbers_151 rfl (List.Mem.tail _ (List.Mem.tail _ (List.Mem.head _))) ?_
    refine w_getR (ci := 2) (k := 0) (b := (v + 1)) dX5_readNumbers_152 fl_5_117 (by decide) (gT hG (IsMk_t0 hv) (IsMk_lt hv (k := 0) (by decide))) (gR hG (IsMk_r0_0 hv)) ?_
    obtain ⟨σ2, hc4, hG3, h⟩ := h
    refine w_callV dX5_readNumbers_155 ml_5_150 ⟨ok_X5_readOfStall, vi_X5_readOfStall⟩ hs_X5_readOfStall (As := [.int x1, .ref (v + 1)]) rfl rfl (gT hG rfl (lt_of rfl)) (Nat.le_of_ble_eq_true rfl) hc4 ?_
    show wp C 5 cX5_readNumbers 3 none false [] sc P 158 [(0, .ref 1), (1, .int x1), (2, .ref v)] [] σ2
    exact w_vret dX5_readNumbers_158 rfl h
  · replace h := h.2
    by_cases hz0 : x1.toInt = 0
    · refine w_tabIn (off := 55) (tgt := 56) dX5_readNumbers_1 (by omega) (by omega) (by rw [hz0]; rfl) rfl ?_
      replace h := h.1 hz0
      refine w_aload_n dX5_readNumbers_56 rfl (List.Mem.tail _ (List.Mem.tail _ (List.Mem.head _))) ?_
      refine w_aload_n dX5_readNumbers_57 rfl (List.Mem.head _) ?_
      refine w_iconst (v := 2) dX5_readNumbers_58 (by decide) ?_
      refine w_bipush (v := 9) dX5_readNumbers_59 (by decide) ?_
      obtain ⟨r8, σ5, hc7, hG6, h⟩ := h
      refine w_callV dX5_readNumbers_61 ml_5_126 ⟨ok_X5_readNumber, vi_X5_readNumber⟩ hs_X5_readNumber (As := [.int 2, .int 9]) rfl rfl (gT hG rfl (lt_of rfl)) (Nat.le_of_ble_eq_true rfl) hc7 ?_
      show wp C 5 cX5_readNumbers 3 none false [] sc P 64 [(0, .ref 1), (1, .int x1), (2, .ref v)] [.int r8, .ref v] σ5
      refine y_putI (ci := 2) (k := 3) dX5_readNumbers_64 fl_5_129 (by decide) (gT hG6 (IsMk_t0 hv) (IsMk_lt hv (k := 0) (by decide))) (fun σ9 eσ10 => ?_)
      replace h := h σ9 eσ10
      have hG11 : G σ9 u := eσ10 ▸ G.sI hG6
      refine w_aload_n dX5_readNumbers_67 rfl (List.Mem.tail _ (List.Mem.tail _ (List.Mem.head _))) ?_
      refine w_aload_n dX5_readNumbers_68 rfl (List.Mem.head _) ?_
      refine w_iconst (v := 2) dX5_readNumbers_69 (by decide) ?_
      refine w_bipush (v := 9) dX5_readNumbers_70 (by decide) ?_
      obtain ⟨r15, σ12, hc14, hG13, h⟩ := h
      refine w_callV dX5_readNumbers_72 ml_5_126 ⟨ok_X5_readNumber, vi_X5_readNumber⟩ hs_X5_readNumber (As := [.int 2, .int 9]) rfl rfl (gT hG11 rfl (lt_of rfl)) (Nat.le_of_ble_eq_true rfl) hc14 ?_
      show wp C 5 cX5_readNumbers 3 none false [] sc P 75 [(0, .ref 1), (1, .int x1), (2, .ref v)] [.int r15, .ref v] σ12
      refine y_putI (ci := 2) (k := 4) dX5_readNumbers_75 fl_5_132 (by decide) (gT hG13 (IsMk_t0 hv) (IsMk_lt hv (k := 0) (by decide))) (fun σ16 eσ17 => ?_)
      replace h := h σ16 eσ17
      have hG18 : G σ16 u := eσ17 ▸ G.sI hG13
      refine w_goto (tgt := 158) dX5_readNumbers_78 rfl ?_
      exact w_vret dX5_readNumbers_158 rfl h
    by_cases hz1 : x1.toInt = 1
    · refine w_tabIn (off := 80) (tgt := 81) dX5_readNumbers_1 (by omega) (by omega) (by rw [hz1]; rfl) rfl ?_
      replace h := h.2.1 hz1
      refine w_aload_n dX5_readNumbers_81 rfl (List.Mem.head _) ?_
      refine w_aload_n dX5_readNumbers_82 rfl (List.Mem.tail _ (List.Mem.tail _ (List.Mem.head _))) ?_
      obtain ⟨σ19, hc21, hG20, h⟩ := h
      refine w_callV dX5_readNumbers_83 ml_5_135 ⟨ok_X5_readStall, vi_X5_readStall⟩ hs_X5_readStall (As := [.ref v]) rfl rfl (gT hG rfl (lt_of rfl)) (Nat.le_of_ble_eq_true rfl) hc21 ?_
      show wp C 5 cX5_readNumbers 3 none false [] sc P 86 [(0, .ref 1), (1, .int x1), (2, .ref v)] [] σ19
      refine w_goto (tgt := 158) dX5_readNumbers_86 rfl ?_
      exact w_vret dX5_readNumbers_158 rfl h
    by_cases hz2 : x1.toInt = 2
    · refine w_tabIn (off := 148) (tgt := 149) dX5_readNumbers_1 (by omega) (by omega) (by rw [hz2]; rfl) rfl ?_
      replace h := h.2.2.1 hz2
      refine w_aload_n dX5_readNumbers_149 rfl (List.Mem.head _) ?_
      refine w_iload_n dX5_readNumbers_150 rfl (List.Mem.tail _ (List.Mem.head _)) ?_
      refine w_aload_n dX5_readNumbers_151 rfl (List.Mem.tail _ (List.Mem.tail _ (List.Mem.head _))) ?_
      refine w_getR (ci := 2) (k := 0) (b := (v + 1)) dX5_readNumbers_152 fl_5_117 (by decide) (gT hG (IsMk_t0 hv) (IsMk_lt hv (k := 0) (by decide))) (gR hG (IsMk_r0_0 hv)) ?_
      obtain ⟨σ22, hc24, hG23, h⟩ := h
      refine w_callV dX5_readNumbers_155 ml_5_150 ⟨ok_X5_readOfStall, vi_X5_readOfStall⟩ hs_X5_readOfStall (As := [.int x1, .ref (v + 1)]) rfl rfl (gT hG rfl (lt_of rfl)) (Nat.le_of_ble_eq_true rfl) hc24 ?_
      show wp C 5 cX5_readNumbers 3 none false [] sc P 158 [(0, .ref 1), (1, .int x1), (2, .ref v)] [] σ22
      exact w_vret dX5_readNumbers_158 rfl h
    by_cases hz3 : x1.toInt = 3
    · refine w_tabIn (off := 148) (tgt := 149) dX5_readNumbers_1 (by omega) (by omega) (by rw [hz3]; rfl) rfl ?_
      replace h := h.2.2.2.1 hz3
      refine w_aload_n dX5_readNumbers_149 rfl (List.Mem.head _) ?_
      refine w_iload_n dX5_readNumbers_150 rfl (List.Mem.tail _ (List.Mem.head _)) ?_
      refine w_aload_n dX5_readNumbers_151 rfl (List.Mem.tail _ (List.Mem.tail _ (List.Mem.head _))) ?_
      refine w_getR (ci := 2) (k := 0) (b := (v + 1)) dX5_readNumbers_152 fl_5_117 (by decide) (gT hG (IsMk_t0 hv) (IsMk_lt hv (k := 0) (by decide))) (gR hG (IsMk_r0_0 hv)) ?_
      obtain ⟨σ25, hc27, hG26, h⟩ := h
      refine w_callV dX5_readNumbers_155 ml_5_150 ⟨ok_X5_readOfStall, vi_X5_readOfStall⟩ hs_X5_readOfStall (As := [.int x1, .ref (v + 1)]) rfl rfl (gT hG rfl (lt_of rfl)) (Nat.le_of_ble_eq_true rfl) hc27 ?_
      show wp C 5 cX5_readNumbers 3 none false [] sc P 158 [(0, .ref 1), (1, .int x1), (2, .ref v)] [] σ25
      exact w_vret dX5_readNumbers_158 rfl h
    by_cases hz4 : x1.toInt = 4
    · refine w_tabIn (off := 88) (tgt := 89) dX5_readNumbers_1 (by omega) (by omega) (by rw [hz4]; rfl) rfl ?_
      replace h := h.2.2.2.2.1 hz4
      refine w_aload_n dX5_readNumbers_89 rfl (List.Mem.head _) ?_
      refine w_aload_n dX5_readNumbers_90 rfl (List.Mem.tail _ (List.Mem.tail _ (List.Mem.head _))) ?_
      obtain ⟨σ28, hc30, hG29, h⟩ := h
      refine w_callV dX5_readNumbers_91 ml_5_138 ⟨ok_X5_readSun, vi_X5_readSun⟩ hs_X5_readSun (As := [.ref v]) rfl rfl (gT hG rfl (lt_of rfl)) (Nat.le_of_ble_eq_true rfl) hc30 ?_
      show wp C 5 cX5_readNumbers 3 none false [] sc P 94 [(0, .ref 1), (1, .int x1), (2, .ref v)] [] σ28
      refine w_goto (tgt := 158) dX5_readNumbers_94 rfl ?_
      exact w_vret dX5_readNumbers_158 rfl h
    by_cases hz5 : x1.toInt = 5
    · refine w_tabIn (off := 96) (tgt := 97) dX5_readNumbers_1 (by omega) (by omega) (by rw [hz5]; rfl) rfl ?_
      replace h := h.2.2.2.2.2.1 hz5
      refine w_aload_n dX5_readNumbers_97 rfl (List.Mem.head _) ?_
      refine w_aload_n dX5_readNumbers_98 rfl (List.Mem.tail _ (List.Mem.tail _ (List.Mem.head _))) ?_
      obtain ⟨σ31, hc33, hG32, h⟩ := h
      refine w_callV dX5_readNumbers_99 ml_5_141 ⟨ok_X5_readRate, vi_X5_readRate⟩ hs_X5_readRate (As := [.ref v]) rfl rfl (gT hG rfl (lt_of rfl)) (Nat.le_of_ble_eq_true rfl) hc33 ?_
      show wp C 5 cX5_readNumbers 3 none false [] sc P 102 [(0, .ref 1), (1, .int x1), (2, .ref v)] [] σ31
      refine w_goto (tgt := 158) dX5_readNumbers_102 rfl ?_
      exact w_vret dX5_readNumbers_158 rfl h
    by_cases hz6 : x1.toInt = 6
    · refine w_tabIn (off := 104) (tgt := 105) dX5_readNumbers_1 (by omega) (by omega) (by rw [hz6]; rfl) rfl ?_
      replace h := h.2.2.2.2.2.2.1 hz6
      refine w_aload_n dX5_readNumbers_105 rfl (List.Mem.tail _ (List.Mem.tail _ (List.Mem.head _))) ?_
      refine w_aload_n dX5_readNumbers_106 rfl (List.Mem.head _) ?_
      refine w_iconst (v := 0) dX5_readNumbers_107 (by decide) ?_
      refine w_sipush (v := 1440) dX5_readNumbers_108 (by decide) ?_
      obtain ⟨r37, σ34, hc36, hG35, h⟩ := h
      refine w_callV dX5_readNumbers_111 ml_5_126 ⟨ok_X5_readNumber, vi_X5_readNumber⟩ hs_X5_readNumber (As := [.int 0, .int 1440]) rfl rfl (gT hG rfl (lt_of rfl)) (Nat.le_of_ble_eq_true rfl) hc36 ?_
      show wp C 5 cX5_readNumbers 3 none false [] sc P 114 [(0, .ref 1), (1, .int x1), (2, .ref v)] [.int r37, .ref v] σ34
      refine y_putI (ci := 2) (k := 5) dX5_readNumbers_114 fl_5_144 (by decide) (gT hG35 (IsMk_t0 hv) (IsMk_lt hv (k := 0) (by decide))) (fun σ38 eσ39 => ?_)
      replace h := h σ38 eσ39
      have hG40 : G σ38 u := eσ39 ▸ G.sI hG35
      refine w_goto (tgt := 158) dX5_readNumbers_117 rfl ?_
      exact w_vret dX5_readNumbers_158 rfl h
    by_cases hz7 : x1.toInt = 7
    · refine w_tabIn (off := 148) (tgt := 149) dX5_readNumbers_1 (by omega) (by omega) (by rw [hz7]; rfl) rfl ?_
      replace h := h.2.2.2.2.2.2.2.1 hz7
      refine w_aload_n dX5_readNumbers_149 rfl (List.Mem.head _) ?_
      refine w_iload_n dX5_readNumbers_150 rfl (List.Mem.tail _ (List.Mem.head _)) ?_
      refine w_aload_n dX5_readNumbers_151 rfl (List.Mem.tail _ (List.Mem.tail _ (List.Mem.head _))) ?_
      refine w_getR (ci := 2) (k := 0) (b := (v + 1)) dX5_readNumbers_152 fl_5_117 (by decide) (gT hG (IsMk_t0 hv) (IsMk_lt hv (k := 0) (by decide))) (gR hG (IsMk_r0_0 hv)) ?_
      obtain ⟨σ41, hc43, hG42, h⟩ := h
      refine w_callV dX5_readNumbers_155 ml_5_150 ⟨ok_X5_readOfStall, vi_X5_readOfStall⟩ hs_X5_readOfStall (As := [.int x1, .ref (v + 1)]) rfl rfl (gT hG rfl (lt_of rfl)) (Nat.le_of_ble_eq_true rfl) hc43 ?_
      show wp C 5 cX5_readNumbers 3 none false [] sc P 158 [(0, .ref 1), (1, .int x1), (2, .ref v)] [] σ41
      exact w_vret dX5_readNumbers_158 rfl h
    by_cases hz8 : x1.toInt = 8
    · refine w_tabIn (off := 119) (tgt := 120) dX5_readNumbers_1 (by omega) (by omega) (by rw [hz8]; rfl) rfl ?_
      replace h := h.2.2.2.2.2.2.2.2.1 hz8
      refine w_aload_n dX5_readNumbers_120 rfl (List.Mem.tail _ (List.Mem.tail _ (List.Mem.head _))) ?_
      refine w_aload_n dX5_readNumbers_121 rfl (List.Mem.head _) ?_
      refine w_iconst (v := 0) dX5_readNumbers_122 (by decide) ?_
      refine w_sipush (v := 1440) dX5_readNumbers_123 (by decide) ?_
      obtain ⟨r47, σ44, hc46, hG45, h⟩ := h
      refine w_callV dX5_readNumbers_126 ml_5_126 ⟨ok_X5_readNumber, vi_X5_readNumber⟩ hs_X5_readNumber (As := [.int 0, .int 1440]) rfl rfl (gT hG rfl (lt_of rfl)) (Nat.le_of_ble_eq_true rfl) hc46 ?_
      show wp C 5 cX5_readNumbers 3 none false [] sc P 129 [(0, .ref 1), (1, .int x1), (2, .ref v)] [.int r47, .ref v] σ44
      refine y_putI (ci := 2) (k := 6) dX5_readNumbers_129 fl_5_146 (by decide) (gT hG45 (IsMk_t0 hv) (IsMk_lt hv (k := 0) (by decide))) (fun σ48 eσ49 => ?_)
      replace h := h σ48 eσ49
      have hG50 : G σ48 u := eσ49 ▸ G.sI hG45
      refine w_goto (tgt := 158) dX5_readNumbers_132 rfl ?_
      exact w_vret dX5_readNumbers_158 rfl h
    have hz9 : x1.toInt = 9 := by omega
    refine w_tabIn (off := 134) (tgt := 135) dX5_readNumbers_1 (by omega) (by omega) (by rw [hz9]; rfl) rfl ?_
    replace h := h.2.2.2.2.2.2.2.2.2 hz9
    refine w_aload_n dX5_readNumbers_135 rfl (List.Mem.tail _ (List.Mem.tail _ (List.Mem.head _))) ?_
    refine w_aload_n dX5_readNumbers_136 rfl (List.Mem.head _) ?_
    refine w_iconst (v := 0) dX5_readNumbers_137 (by decide) ?_
    refine w_bipush (v := 8) dX5_readNumbers_138 (by decide) ?_
    obtain ⟨r54, σ51, hc53, hG52, h⟩ := h
    refine w_callV dX5_readNumbers_140 ml_5_126 ⟨ok_X5_readNumber, vi_X5_readNumber⟩ hs_X5_readNumber (As := [.int 0, .int 8]) rfl rfl (gT hG rfl (lt_of rfl)) (Nat.le_of_ble_eq_true rfl) hc53 ?_
    show wp C 5 cX5_readNumbers 3 none false [] sc P 143 [(0, .ref 1), (1, .int x1), (2, .ref v)] [.int r54, .ref v] σ51
    refine y_putI (ci := 2) (k := 7) dX5_readNumbers_143 fl_5_148 (by decide) (gT hG52 (IsMk_t0 hv) (IsMk_lt hv (k := 0) (by decide))) (fun σ55 eσ56 => ?_)
    replace h := h σ55 eσ56
    have hG57 : G σ55 u := eσ56 ▸ G.sI hG52
    refine w_goto (tgt := 158) dX5_readNumbers_146 rfl ?_
    exact w_vret dX5_readNumbers_158 rfl h
theorem dX5_readStall_0 : decode cX5_readStall 0 = .ok (.aload_n 0, 1) := by decide +kernel
theorem dX5_readStall_1 : decode cX5_readStall 1 = .ok (.iconst 0, 1) := by decide +kernel
theorem dX5_readStall_2 : decode cX5_readStall 2 = .ok (.aload_n 1, 1) := by decide +kernel
theorem dX5_readStall_3 : decode cX5_readStall 3 = .ok (.getfield 129, 3) := by decide +kernel
theorem dX5_readStall_6 : decode cX5_readStall 6 = .ok (.iconst 1, 1) := by decide +kernel
theorem dX5_readStall_7 : decode cX5_readStall 7 = .ok (.isub, 1) := by decide +kernel
theorem dX5_readStall_8 : decode cX5_readStall 8 = .ok (.invokevirtual 126, 3) := by decide +kernel
theorem dX5_readStall_11 : decode cX5_readStall 11 = .ok (.istore_n 2, 1) := by decide +kernel
theorem dX5_readStall_12 : decode cX5_readStall 12 = .ok (.aload_n 0, 1) := by decide +kernel
theorem dX5_readStall_13 : decode cX5_readStall 13 = .ok (.invokevirtual 51, 3) := by decide +kernel
theorem dX5_readStall_16 : decode cX5_readStall 16 = .ok (.aload_n 0, 1) := by decide +kernel
theorem dX5_readStall_17 : decode cX5_readStall 17 = .ok (.getfield 22, 3) := by decide +kernel
theorem dX5_readStall_20 : decode cX5_readStall 20 = .ok (.istore_n 3, 1) := by decide +kernel
theorem dX5_readStall_21 : decode cX5_readStall 21 = .ok (.aload_n 0, 1) := by decide +kernel
theorem dX5_readStall_22 : decode cX5_readStall 22 = .ok (.iconst 0, 1) := by decide +kernel
theorem dX5_readStall_23 : decode cX5_readStall 23 = .ok (.aload_n 1, 1) := by decide +kernel
theorem dX5_readStall_24 : decode cX5_readStall 24 = .ok (.getfield 132, 3) := by decide +kernel
theorem dX5_readStall_27 : decode cX5_readStall 27 = .ok (.iconst 1, 1) := by decide +kernel
theorem dX5_readStall_28 : decode cX5_readStall 28 = .ok (.isub, 1) := by decide +kernel
theorem dX5_readStall_29 : decode cX5_readStall 29 = .ok (.invokevirtual 126, 3) := by decide +kernel
theorem dX5_readStall_32 : decode cX5_readStall 32 = .ok (.istore 4, 2) := by decide +kernel
theorem dX5_readStall_34 : decode cX5_readStall 34 = .ok (.aload_n 1, 1) := by decide +kernel
theorem dX5_readStall_35 : decode cX5_readStall 35 = .ok (.getfield 117, 3) := by decide +kernel
theorem dX5_readStall_38 : decode cX5_readStall 38 = .ok (.iload_n 2, 1) := by decide +kernel
theorem dX5_readStall_39 : decode cX5_readStall 39 = .ok (.iload 4, 2) := by decide +kernel
theorem dX5_readStall_41 : decode cX5_readStall 41 = .ok (.invokevirtual 154, 3) := by decide +kernel
theorem dX5_readStall_44 : decode cX5_readStall 44 = .ok (.iconst (-1), 1) := by decide +kernel
theorem dX5_readStall_45 : decode cX5_readStall 45 = .ok (.if_icmp .eq 9, 3) := by decide +kernel
theorem dX5_readStall_48 : decode cX5_readStall 48 = .ok (.aload_n 0, 1) := by decide +kernel
theorem dX5_readStall_49 : decode cX5_readStall 49 = .ok (.iconst 2, 1) := by decide +kernel
theorem dX5_readStall_50 : decode cX5_readStall 50 = .ok (.iload_n 3, 1) := by decide +kernel
theorem dX5_readStall_51 : decode cX5_readStall 51 = .ok (.invokevirtual 65, 3) := by decide +kernel
theorem dX5_readStall_54 : decode cX5_readStall 54 = .ok (.aload_n 0, 1) := by decide +kernel
theorem dX5_readStall_55 : decode cX5_readStall 55 = .ok (.iconst 0, 1) := by decide +kernel
theorem dX5_readStall_56 : decode cX5_readStall 56 = .ok (.bipush 40, 2) := by decide +kernel
theorem dX5_readStall_58 : decode cX5_readStall 58 = .ok (.invokevirtual 126, 3) := by decide +kernel
theorem dX5_readStall_61 : decode cX5_readStall 61 = .ok (.istore 5, 2) := by decide +kernel
theorem dX5_readStall_63 : decode cX5_readStall 63 = .ok (.aload_n 1, 1) := by decide +kernel
theorem dX5_readStall_64 : decode cX5_readStall 64 = .ok (.getfield 117, 3) := by decide +kernel
theorem dX5_readStall_67 : decode cX5_readStall 67 = .ok (.iload_n 2, 1) := by decide +kernel
theorem dX5_readStall_68 : decode cX5_readStall 68 = .ok (.iload 4, 2) := by decide +kernel
theorem dX5_readStall_70 : decode cX5_readStall 70 = .ok (.iload 5, 2) := by decide +kernel
theorem dX5_readStall_72 : decode cX5_readStall 72 = .ok (.invokevirtual 157, 3) := by decide +kernel
theorem dX5_readStall_75 : decode cX5_readStall 75 = .ok (.return_, 1) := by decide +kernel
set_option maxRecDepth 10000 in
theorem v_X5_readStall_0 {C : aM → List Value → aH → aO → aH → Prop} {sc : Nat × (Nat → Int32)} {P : aO → aH → Prop} {σ : aH} {u : Nat} {v : Nat}  (hG : G σ u) (hv : IsMk v)
    (h : (∃ (r4 : Int32) (σ1 : aH), C mX5_readNumber [.ref 1, .int 0, .int ((gI σ v 3) - 1)] σ (.inl (some (.int r4))) σ1 ∧ G σ1 u ∧ (∃ σ5 : aH, C mX5_skipBlanks [.ref 1] σ1 (.inl none) σ5 ∧ G σ5 u ∧ (∀ z8 : Int32, z8 = (gI σ5 1 3) → (∃ (r13 : Int32) (σ10 : aH), C mX5_readNumber [.ref 1, .int 0, .int ((gI σ5 v 4) - 1)] σ5 (.inl (some (.int r13))) σ10 ∧ G σ10 u ∧ (∃ (r17 : Int32) (σ14 : aH), C mX7_whoIsAt [.ref (v + 1), .int r4, .int r13] σ10 (.inl (some (.int r17))) σ14 ∧ G σ14 u ∧ ((r17 = (-1) → (∃ (r21 : Int32) (σ18 : aH), C mX5_readNumber [.ref 1, .int 0, .int 40] σ14 (.inl (some (.int r21))) σ18 ∧ G σ18 u ∧ (∃ σ22 : aH, C mX7_add [.ref (v + 1), .int r4, .int r13, .int r21] σ18 (.inl none) σ22 ∧ G σ22 u ∧ P (.inl none) σ22))) ∧ (¬ (r17 = (-1)) → (∃ σ25 : aH, C mX5_blame [.ref 1, .int 2, .int z8] σ14 (.inl none) σ25 ∧ G σ25 u ∧ (∃ (r31 : Int32) (σ28 : aH), C mX5_readNumber [.ref 1, .int 0, .int 40] σ25 (.inl (some (.int r31))) σ28 ∧ G σ28 u ∧ (∃ σ32 : aH, C mX7_add [.ref (v + 1), .int r4, .int r13, .int r31] σ28 (.inl none) σ32 ∧ G σ32 u ∧ P (.inl none) σ32))))))))))) :
    wp C 5 cX5_readStall 6 none false [] sc P 0 [(0, .ref 1), (1, .ref v)] [] σ := by
  refine w_aload_n dX5_readStall_0 rfl (List.Mem.head _) ?_
  refine w_iconst (v := 0) dX5_readStall_1 (by decide) ?_
  refine w_aload_n dX5_readStall_2 rfl (List.Mem.tail _ (List.Mem.head _)) ?_
  refine w_getI (ci := 2) (k := 3) dX5_readStall_3 fl_5_129 (by decide) (gT hG (IsMk_t0 hv) (IsMk_lt hv (k := 0) (by decide))) ?_
  refine w_iconst (v := 1) dX5_readStall_6 (by decide) ?_
  refine w_isub dX5_readStall_7 ?_
  obtain ⟨r4, σ1, hc3, hG2, h⟩ := h
  refine w_callV dX5_readStall_8 ml_5_126 ⟨ok_X5_readNumber, vi_X5_readNumber⟩ hs_X5_readNumber (As := [.int 0, .int ((gI σ v 3) - 1)]) rfl rfl (gT hG rfl (lt_of rfl)) (Nat.le_of_ble_eq_true rfl) hc3 ?_
  show wp C 5 cX5_readStall 6 none false [] sc P 11 [(0, .ref 1), (1, .ref v)] [.int r4] σ1
  refine w_istore_n (l' := [(2, .int r4), (0, .ref 1), (1, .ref v)]) dX5_readStall_11 rfl (by decide) rfl ?_
  refine w_aload_n dX5_readStall_12 rfl (List.Mem.tail _ (List.Mem.head _)) ?_
  obtain ⟨σ5, hc7, hG6, h⟩ := h
  refine w_callV dX5_readStall_13 ml_5_51 ⟨ok_X5_skipBlanks, vi_X5_skipBlanks⟩ hs_X5_skipBlanks (As := []) rfl rfl (gT hG2 rfl (lt_of rfl)) (Nat.le_of_ble_eq_true rfl) hc7 ?_
  show wp C 5 cX5_readStall 6 none false [] sc P 16 [(2, .int r4), (0, .ref 1), (1, .ref v)] [] σ5
  refine w_aload_n dX5_readStall_16 rfl (List.Mem.tail _ (List.Mem.head _)) ?_
  refine w_getI (ci := 5) (k := 3) dX5_readStall_17 fl_5_22 (by decide) (gT hG6 rfl (lt_of rfl)) ?_
  refine top_i (fun z8 ez9 => ?_)
  replace h := h z8 ez9
  refine w_istore_n (l' := [(3, .int z8), (2, .int r4), (0, .ref 1), (1, .ref v)]) dX5_readStall_20 rfl (by decide) rfl ?_
  refine w_aload_n dX5_readStall_21 rfl (List.Mem.tail _ (List.Mem.tail _ (List.Mem.head _))) ?_
  refine w_iconst (v := 0) dX5_readStall_22 (by decide) ?_
  refine w_aload_n dX5_readStall_23 rfl (List.Mem.tail _ (List.Mem.tail _ (List.Mem.tail _ (List.Mem.head _)))) ?_
  refine w_getI (ci := 2) (k := 4) dX5_readStall_24 fl_5_132 (by decide) (gT hG6 (IsMk_t0 hv) (IsMk_lt hv (k := 0) (by decide))) ?_
  refine w_iconst (v := 1) dX5_readStall_27 (by decide) ?_
  refine w_isub dX5_readStall_28 ?_
  obtain ⟨r13, σ10, hc12, hG11, h⟩ := h
  refine w_callV dX5_readStall_29 ml_5_126 ⟨ok_X5_readNumber, vi_X5_readNumber⟩ hs_X5_readNumber (As := [.int 0, .int ((gI σ5 v 4) - 1)]) rfl rfl (gT hG6 rfl (lt_of rfl)) (Nat.le_of_ble_eq_true rfl) hc12 ?_
  show wp C 5 cX5_readStall 6 none false [] sc P 32 [(3, .int z8), (2, .int r4), (0, .ref 1), (1, .ref v)] [.int r13] σ10
  refine w_istore (l' := [(4, .int r13), (3, .int z8), (2, .int r4), (0, .ref 1), (1, .ref v)]) dX5_readStall_32 (by decide) rfl ?_
  refine w_aload_n dX5_readStall_34 rfl (List.Mem.tail _ (List.Mem.tail _ (List.Mem.tail _ (List.Mem.tail _ (List.Mem.head _))))) ?_
  refine w_getR (ci := 2) (k := 0) (b := (v + 1)) dX5_readStall_35 fl_5_117 (by decide) (gT hG11 (IsMk_t0 hv) (IsMk_lt hv (k := 0) (by decide))) (gR hG11 (IsMk_r0_0 hv)) ?_
  refine w_iload_n dX5_readStall_38 rfl (List.Mem.tail _ (List.Mem.tail _ (List.Mem.head _))) ?_
  refine w_iload dX5_readStall_39 (List.Mem.head _) ?_
  obtain ⟨r17, σ14, hc16, hG15, h⟩ := h
  refine w_callV dX5_readStall_41 ml_5_154 ⟨ok_X7_whoIsAt, vi_X7_whoIsAt⟩ hs_X7_whoIsAt (As := [.int r4, .int r13]) rfl rfl (gT hG11 (IsMk_t1 hv) (IsMk_lt hv (k := 1) (by decide))) (Nat.le_of_ble_eq_true rfl) hc16 ?_
  show wp C 5 cX5_readStall 6 none false [] sc P 44 [(4, .int r13), (3, .int z8), (2, .int r4), (0, .ref 1), (1, .ref v)] [.int r17] σ14
  refine w_iconst (v := (-1)) dX5_readStall_44 (by decide) ?_
  refine w_icmp_eq (tgt := 54) dX5_readStall_45 rfl (fun c9 => ?_) (fun c9 => ?_)
  · replace h := h.1 c9
    refine w_aload_n dX5_readStall_54 rfl (List.Mem.tail _ (List.Mem.tail _ (List.Mem.tail _ (List.Mem.head _)))) ?_
    refine w_iconst (v := 0) dX5_readStall_55 (by decide) ?_
    refine w_bipush (v := 40) dX5_readStall_56 (by decide) ?_
    obtain ⟨r21, σ18, hc20, hG19, h⟩ := h
    refine w_callV dX5_readStall_58 ml_5_126 ⟨ok_X5_readNumber, vi_X5_readNumber⟩ hs_X5_readNumber (As := [.int 0, .int 40]) rfl rfl (gT hG15 rfl (lt_of rfl)) (Nat.le_of_ble_eq_true rfl) hc20 ?_
    show wp C 5 cX5_readStall 6 none false [] sc P 61 [(4, .int r13), (3, .int z8), (2, .int r4), (0, .ref 1), (1, .ref v)] [.int r21] σ18
    refine w_istore (l' := [(5, .int r21), (4, .int r13), (3, .int z8), (2, .int r4), (0, .ref 1), (1, .ref v)]) dX5_readStall_61 (by decide) rfl ?_
    refine w_aload_n dX5_readStall_63 rfl (List.Mem.tail _ (List.Mem.tail _ (List.Mem.tail _ (List.Mem.tail _ (List.Mem.tail _ (List.Mem.head _)))))) ?_
    refine w_getR (ci := 2) (k := 0) (b := (v + 1)) dX5_readStall_64 fl_5_117 (by decide) (gT hG19 (IsMk_t0 hv) (IsMk_lt hv (k := 0) (by decide))) (gR hG19 (IsMk_r0_0 hv)) ?_
    refine w_iload_n dX5_readStall_67 rfl (List.Mem.tail _ (List.Mem.tail _ (List.Mem.tail _ (List.Mem.head _)))) ?_
    refine w_iload dX5_readStall_68 (List.Mem.tail _ (List.Mem.head _)) ?_
    refine w_iload dX5_readStall_70 (List.Mem.head _) ?_
    obtain ⟨σ22, hc24, hG23, h⟩ := h
    refine w_callV dX5_readStall_72 ml_5_157 ⟨ok_X7_add, vi_X7_add⟩ hs_X7_add (As := [.int r4, .int r13, .int r21]) rfl rfl (gT hG19 (IsMk_t1 hv) (IsMk_lt hv (k := 1) (by decide))) (Nat.le_of_ble_eq_true rfl) hc24 ?_
    show wp C 5 cX5_readStall 6 none false [] sc P 75 [(5, .int r21), (4, .int r13), (3, .int z8), (2, .int r4), (0, .ref 1), (1, .ref v)] [] σ22
    exact w_vret dX5_readStall_75 rfl h
  · replace h := h.2 c9
    refine w_aload_n dX5_readStall_48 rfl (List.Mem.tail _ (List.Mem.tail _ (List.Mem.tail _ (List.Mem.head _)))) ?_
    refine w_iconst (v := 2) dX5_readStall_49 (by decide) ?_
    refine w_iload_n dX5_readStall_50 rfl (List.Mem.tail _ (List.Mem.head _)) ?_
    obtain ⟨σ25, hc27, hG26, h⟩ := h
    refine w_callV dX5_readStall_51 ml_5_65 ⟨ok_X5_blame, vi_X5_blame⟩ hs_X5_blame (As := [.int 2, .int z8]) rfl rfl (gT hG15 rfl (lt_of rfl)) (Nat.le_of_ble_eq_true rfl) hc27 ?_
    show wp C 5 cX5_readStall 6 none false [] sc P 54 [(4, .int r13), (3, .int z8), (2, .int r4), (0, .ref 1), (1, .ref v)] [] σ25
    refine w_aload_n dX5_readStall_54 rfl (List.Mem.tail _ (List.Mem.tail _ (List.Mem.tail _ (List.Mem.head _)))) ?_
    refine w_iconst (v := 0) dX5_readStall_55 (by decide) ?_
    refine w_bipush (v := 40) dX5_readStall_56 (by decide) ?_
    obtain ⟨r31, σ28, hc30, hG29, h⟩ := h
    refine w_callV dX5_readStall_58 ml_5_126 ⟨ok_X5_readNumber, vi_X5_readNumber⟩ hs_X5_readNumber (As := [.int 0, .int 40]) rfl rfl (gT hG26 rfl (lt_of rfl)) (Nat.le_of_ble_eq_true rfl) hc30 ?_
    show wp C 5 cX5_readStall 6 none false [] sc P 61 [(4, .int r13), (3, .int z8), (2, .int r4), (0, .ref 1), (1, .ref v)] [.int r31] σ28
    refine w_istore (l' := [(5, .int r31), (4, .int r13), (3, .int z8), (2, .int r4), (0, .ref 1), (1, .ref v)]) dX5_readStall_61 (by decide) rfl ?_
    refine w_aload_n dX5_readStall_63 rfl (List.Mem.tail _ (List.Mem.tail _ (List.Mem.tail _ (List.Mem.tail _ (List.Mem.tail _ (List.Mem.head _)))))) ?_
    refine w_getR (ci := 2) (k := 0) (b := (v + 1)) dX5_readStall_64 fl_5_117 (by decide) (gT hG29 (IsMk_t0 hv) (IsMk_lt hv (k := 0) (by decide))) (gR hG29 (IsMk_r0_0 hv)) ?_
    refine w_iload_n dX5_readStall_67 rfl (List.Mem.tail _ (List.Mem.tail _ (List.Mem.tail _ (List.Mem.head _)))) ?_
    refine w_iload dX5_readStall_68 (List.Mem.tail _ (List.Mem.head _)) ?_
    refine w_iload dX5_readStall_70 (List.Mem.head _) ?_
    obtain ⟨σ32, hc34, hG33, h⟩ := h
    refine w_callV dX5_readStall_72 ml_5_157 ⟨ok_X7_add, vi_X7_add⟩ hs_X7_add (As := [.int r4, .int r13, .int r31]) rfl rfl (gT hG29 (IsMk_t1 hv) (IsMk_lt hv (k := 1) (by decide))) (Nat.le_of_ble_eq_true rfl) hc34 ?_
    show wp C 5 cX5_readStall 6 none false [] sc P 75 [(5, .int r31), (4, .int r13), (3, .int z8), (2, .int r4), (0, .ref 1), (1, .ref v)] [] σ32
    exact w_vret dX5_readStall_75 rfl h
theorem dX5_readSun_0 : decode cX5_readSun 0 = .ok (.aload_n 0, 1) := by decide +kernel
theorem dX5_readSun_1 : decode cX5_readSun 1 = .ok (.dup, 1) := by decide +kernel
theorem dX5_readSun_2 : decode cX5_readSun 2 = .ok (.getfield 34, 3) := by decide +kernel
theorem dX5_readSun_5 : decode cX5_readSun 5 = .ok (.iconst 1, 1) := by decide +kernel
theorem dX5_readSun_6 : decode cX5_readSun 6 = .ok (.iadd, 1) := by decide +kernel
theorem dX5_readSun_7 : decode cX5_readSun 7 = .ok (.putfield 34, 3) := by decide +kernel
theorem dX5_readSun_10 : decode cX5_readSun 10 = .ok (.aload_n 0, 1) := by decide +kernel
theorem dX5_readSun_11 : decode cX5_readSun 11 = .ok (.iconst 0, 1) := by decide +kernel
theorem dX5_readSun_12 : decode cX5_readSun 12 = .ok (.sipush 1439, 3) := by decide +kernel
theorem dX5_readSun_15 : decode cX5_readSun 15 = .ok (.invokevirtual 126, 3) := by decide +kernel
theorem dX5_readSun_18 : decode cX5_readSun 18 = .ok (.istore_n 2, 1) := by decide +kernel
theorem dX5_readSun_19 : decode cX5_readSun 19 = .ok (.aload_n 0, 1) := by decide +kernel
theorem dX5_readSun_20 : decode cX5_readSun 20 = .ok (.iconst 0, 1) := by decide +kernel
theorem dX5_readSun_21 : decode cX5_readSun 21 = .ok (.iconst 2, 1) := by decide +kernel
theorem dX5_readSun_22 : decode cX5_readSun 22 = .ok (.invokevirtual 126, 3) := by decide +kernel
theorem dX5_readSun_25 : decode cX5_readSun 25 = .ok (.istore_n 3, 1) := by decide +kernel
theorem dX5_readSun_26 : decode cX5_readSun 26 = .ok (.iload_n 3, 1) := by decide +kernel
theorem dX5_readSun_27 : decode cX5_readSun 27 = .ok (.iconst 3, 1) := by decide +kernel
theorem dX5_readSun_28 : decode cX5_readSun 28 = .ok (.aload_n 0, 1) := by decide +kernel
theorem dX5_readSun_29 : decode cX5_readSun 29 = .ok (.iconst 0, 1) := by decide +kernel
theorem dX5_readSun_30 : decode cX5_readSun 30 = .ok (.iconst 2, 1) := by decide +kernel
theorem dX5_readSun_31 : decode cX5_readSun 31 = .ok (.invokevirtual 126, 3) := by decide +kernel
theorem dX5_readSun_34 : decode cX5_readSun 34 = .ok (.imul, 1) := by decide +kernel
theorem dX5_readSun_35 : decode cX5_readSun 35 = .ok (.iadd, 1) := by decide +kernel
theorem dX5_readSun_36 : decode cX5_readSun 36 = .ok (.istore_n 3, 1) := by decide +kernel
theorem dX5_readSun_37 : decode cX5_readSun 37 = .ok (.aload_n 1, 1) := by decide +kernel
theorem dX5_readSun_38 : decode cX5_readSun 38 = .ok (.getfield 161, 3) := by decide +kernel
theorem dX5_readSun_41 : decode cX5_readSun 41 = .ok (.iload_n 2, 1) := by decide +kernel
theorem dX5_readSun_42 : decode cX5_readSun 42 = .ok (.bipush 10, 2) := by decide +kernel
theorem dX5_readSun_44 : decode cX5_readSun 44 = .ok (.iload_n 3, 1) := by decide +kernel
theorem dX5_readSun_45 : decode cX5_readSun 45 = .ok (.imul, 1) := by decide +kernel
theorem dX5_readSun_46 : decode cX5_readSun 46 = .ok (.aload_n 0, 1) := by decide +kernel
theorem dX5_readSun_47 : decode cX5_readSun 47 = .ok (.iconst 0, 1) := by decide +kernel
theorem dX5_readSun_48 : decode cX5_readSun 48 = .ok (.bipush 9, 2) := by decide +kernel
theorem dX5_readSun_50 : decode cX5_readSun 50 = .ok (.invokevirtual 126, 3) := by decide +kernel
theorem dX5_readSun_53 : decode cX5_readSun 53 = .ok (.iadd, 1) := by decide +kernel
theorem dX5_readSun_54 : decode cX5_readSun 54 = .ok (.invokevirtual 164, 3) := by decide +kernel
theorem dX5_readSun_57 : decode cX5_readSun 57 = .ok (.return_, 1) := by decide +kernel
set_option maxRecDepth 10000 in
theorem v_X5_readSun_0 {C : aM → List Value → aH → aO → aH → Prop} {sc : Nat × (Nat → Int32)} {P : aO → aH → Prop} {σ : aH} {u : Nat} {v : Nat}  (hG : G σ u) (hv : IsMk v)
    (h : (∀ σ1 : aH, sI σ 1 7 ((gI σ 1 7) + 1) = σ1 → (∃ (r7 : Int32) (σ4 : aH), C mX5_readNumber [.ref 1, .int 0, .int 1439] σ1 (.inl (some (.int r7))) σ4 ∧ G σ4 u ∧ (∃ (r11 : Int32) (σ8 : aH), C mX5_readNumber [.ref 1, .int 0, .int 2] σ4 (.inl (some (.int r11))) σ8 ∧ G σ8 u ∧ (∃ (r15 : Int32) (σ12 : aH), C mX5_readNumber [.ref 1, .int 0, .int 2] σ8 (.inl (some (.int r15))) σ12 ∧ G σ12 u ∧ (∀ z16 : Int32, z16 = (r11 + (3 * r15)) → (∃ (r21 : Int32) (σ18 : aH), C mX5_readNumber [.ref 1, .int 0, .int 9] σ12 (.inl (some (.int r21))) σ18 ∧ G σ18 u ∧ (∃ σ22 : aH, C mX0_tell [.ref (v + 10), .int r7, .int ((10 * z16) + r21)] σ18 (.inl none) σ22 ∧ G σ22 u ∧ P (.inl none) σ22)))))))) :
    wp C 5 cX5_readSun 4 none false [] sc P 0 [(0, .ref 1), (1, .ref v)] [] σ := by
  refine w_aload_n dX5_readSun_0 rfl (List.Mem.head _) ?_
  refine w_dup dX5_readSun_1 rfl ?_
  refine w_getI (ci := 5) (k := 7) dX5_readSun_2 fl_5_34 (by decide) (gT hG rfl (lt_of rfl)) ?_
  refine w_iconst (v := 1) dX5_readSun_5 (by decide) ?_
  refine w_iadd dX5_readSun_6 ?_
  refine y_putI (ci := 5) (k := 7) dX5_readSun_7 fl_5_34 (by decide) (gT hG rfl (lt_of rfl)) (fun σ1 eσ2 => ?_)
  replace h := h σ1 eσ2
  have hG3 : G σ1 u := eσ2 ▸ G.sI hG
  refine w_aload_n dX5_readSun_10 rfl (List.Mem.head _) ?_
  refine w_iconst (v := 0) dX5_readSun_11 (by decide) ?_
  refine w_sipush (v := 1439) dX5_readSun_12 (by decide) ?_
  obtain ⟨r7, σ4, hc6, hG5, h⟩ := h
  refine w_callV dX5_readSun_15 ml_5_126 ⟨ok_X5_readNumber, vi_X5_readNumber⟩ hs_X5_readNumber (As := [.int 0, .int 1439]) rfl rfl (gT hG3 rfl (lt_of rfl)) (Nat.le_of_ble_eq_true rfl) hc6 ?_
  show wp C 5 cX5_readSun 4 none false [] sc P 18 [(0, .ref 1), (1, .ref v)] [.int r7] σ4
  refine w_istore_n (l' := [(2, .int r7), (0, .ref 1), (1, .ref v)]) dX5_readSun_18 rfl (by decide) rfl ?_
  refine w_aload_n dX5_readSun_19 rfl (List.Mem.tail _ (List.Mem.head _)) ?_
  refine w_iconst (v := 0) dX5_readSun_20 (by decide) ?_
  refine w_iconst (v := 2) dX5_readSun_21 (by decide) ?_
  obtain ⟨r11, σ8, hc10, hG9, h⟩ := h
  refine w_callV dX5_readSun_22 ml_5_126 ⟨ok_X5_readNumber, vi_X5_readNumber⟩ hs_X5_readNumber (As := [.int 0, .int 2]) rfl rfl (gT hG5 rfl (lt_of rfl)) (Nat.le_of_ble_eq_true rfl) hc10 ?_
  show wp C 5 cX5_readSun 4 none false [] sc P 25 [(2, .int r7), (0, .ref 1), (1, .ref v)] [.int r11] σ8
  refine w_istore_n (l' := [(3, .int r11), (2, .int r7), (0, .ref 1), (1, .ref v)]) dX5_readSun_25 rfl (by decide) rfl ?_
  refine w_iload_n dX5_readSun_26 rfl (List.Mem.head _) ?_
  refine w_iconst (v := 3) dX5_readSun_27 (by decide) ?_
  refine w_aload_n dX5_readSun_28 rfl (List.Mem.tail _ (List.Mem.tail _ (List.Mem.head _))) ?_
  refine w_iconst (v := 0) dX5_readSun_29 (by decide) ?_
  refine w_iconst (v := 2) dX5_readSun_30 (by decide) ?_
  obtain ⟨r15, σ12, hc14, hG13, h⟩ := h
  refine w_callV dX5_readSun_31 ml_5_126 ⟨ok_X5_readNumber, vi_X5_readNumber⟩ hs_X5_readNumber (As := [.int 0, .int 2]) rfl rfl (gT hG9 rfl (lt_of rfl)) (Nat.le_of_ble_eq_true rfl) hc14 ?_
  show wp C 5 cX5_readSun 4 none false [] sc P 34 [(3, .int r11), (2, .int r7), (0, .ref 1), (1, .ref v)] [.int r15, .int 3, .int r11] σ12
  refine w_imul dX5_readSun_34 ?_
  refine w_iadd dX5_readSun_35 ?_
  refine top_i (fun z16 ez17 => ?_)
  replace h := h z16 ez17
  refine w_istore_n (l' := [(3, .int z16), (2, .int r7), (0, .ref 1), (1, .ref v)]) dX5_readSun_36 rfl (by decide) rfl ?_
  refine w_aload_n dX5_readSun_37 rfl (List.Mem.tail _ (List.Mem.tail _ (List.Mem.tail _ (List.Mem.head _)))) ?_
  refine w_getR (ci := 2) (k := 1) (b := (v + 10)) dX5_readSun_38 fl_5_161 (by decide) (gT hG13 (IsMk_t0 hv) (IsMk_lt hv (k := 0) (by decide))) (gR hG13 (IsMk_r0_1 hv)) ?_
  refine w_iload_n dX5_readSun_41 rfl (List.Mem.tail _ (List.Mem.head _)) ?_
  refine w_bipush (v := 10) dX5_readSun_42 (by decide) ?_
  refine w_iload_n dX5_readSun_44 rfl (List.Mem.head _) ?_
  refine w_imul dX5_readSun_45 ?_
  refine w_aload_n dX5_readSun_46 rfl (List.Mem.tail _ (List.Mem.tail _ (List.Mem.head _))) ?_
  refine w_iconst (v := 0) dX5_readSun_47 (by decide) ?_
  refine w_bipush (v := 9) dX5_readSun_48 (by decide) ?_
  obtain ⟨r21, σ18, hc20, hG19, h⟩ := h
  refine w_callV dX5_readSun_50 ml_5_126 ⟨ok_X5_readNumber, vi_X5_readNumber⟩ hs_X5_readNumber (As := [.int 0, .int 9]) rfl rfl (gT hG13 rfl (lt_of rfl)) (Nat.le_of_ble_eq_true rfl) hc20 ?_
  show wp C 5 cX5_readSun 4 none false [] sc P 53 [(3, .int z16), (2, .int r7), (0, .ref 1), (1, .ref v)] [.int r21, .int (10 * z16), .int r7, .ref (v + 10)] σ18
  refine w_iadd dX5_readSun_53 ?_
  obtain ⟨σ22, hc24, hG23, h⟩ := h
  refine w_callV dX5_readSun_54 ml_5_164 ⟨ok_X0_tell, vi_X0_tell⟩ hs_X0_tell (As := [.int r7, .int ((10 * z16) + r21)]) rfl rfl (gT hG19 (IsMk_t10 hv) (IsMk_lt hv (k := 10) (by decide))) (Nat.le_of_ble_eq_true rfl) hc24 ?_
  show wp C 5 cX5_readSun 4 none false [] sc P 57 [(3, .int z16), (2, .int r7), (0, .ref 1), (1, .ref v)] [] σ22
  exact w_vret dX5_readSun_57 rfl h
theorem dX5_readRate_0 : decode cX5_readRate 0 = .ok (.aload_n 0, 1) := by decide +kernel
theorem dX5_readRate_1 : decode cX5_readRate 1 = .ok (.dup, 1) := by decide +kernel
theorem dX5_readRate_2 : decode cX5_readRate 2 = .ok (.getfield 37, 3) := by decide +kernel
theorem dX5_readRate_5 : decode cX5_readRate 5 = .ok (.iconst 1, 1) := by decide +kernel
theorem dX5_readRate_6 : decode cX5_readRate 6 = .ok (.iadd, 1) := by decide +kernel
theorem dX5_readRate_7 : decode cX5_readRate 7 = .ok (.putfield 37, 3) := by decide +kernel
theorem dX5_readRate_10 : decode cX5_readRate 10 = .ok (.aload_n 0, 1) := by decide +kernel
theorem dX5_readRate_11 : decode cX5_readRate 11 = .ok (.iconst 0, 1) := by decide +kernel
theorem dX5_readRate_12 : decode cX5_readRate 12 = .ok (.sipush 1439, 3) := by decide +kernel
theorem dX5_readRate_15 : decode cX5_readRate 15 = .ok (.invokevirtual 126, 3) := by decide +kernel
theorem dX5_readRate_18 : decode cX5_readRate 18 = .ok (.istore_n 2, 1) := by decide +kernel
theorem dX5_readRate_19 : decode cX5_readRate 19 = .ok (.aload_n 1, 1) := by decide +kernel
theorem dX5_readRate_20 : decode cX5_readRate 20 = .ok (.getfield 169, 3) := by decide +kernel
theorem dX5_readRate_23 : decode cX5_readRate 23 = .ok (.iload_n 2, 1) := by decide +kernel
theorem dX5_readRate_24 : decode cX5_readRate 24 = .ok (.aload_n 0, 1) := by decide +kernel
theorem dX5_readRate_25 : decode cX5_readRate 25 = .ok (.iconst 0, 1) := by decide +kernel
theorem dX5_readRate_26 : decode cX5_readRate 26 = .ok (.bipush 9, 2) := by decide +kernel
theorem dX5_readRate_28 : decode cX5_readRate 28 = .ok (.invokevirtual 126, 3) := by decide +kernel
theorem dX5_readRate_31 : decode cX5_readRate 31 = .ok (.invokevirtual 164, 3) := by decide +kernel
theorem dX5_readRate_34 : decode cX5_readRate 34 = .ok (.return_, 1) := by decide +kernel
set_option maxRecDepth 10000 in
theorem v_X5_readRate_0 {C : aM → List Value → aH → aO → aH → Prop} {sc : Nat × (Nat → Int32)} {P : aO → aH → Prop} {σ : aH} {u : Nat} {v : Nat}  (hG : G σ u) (hv : IsMk v)
    (h : (∀ σ1 : aH, sI σ 1 8 ((gI σ 1 8) + 1) = σ1 → (∃ (r7 : Int32) (σ4 : aH), C mX5_readNumber [.ref 1, .int 0, .int 1439] σ1 (.inl (some (.int r7))) σ4 ∧ G σ4 u ∧ (∃ (r11 : Int32) (σ8 : aH), C mX5_readNumber [.ref 1, .int 0, .int 9] σ4 (.inl (some (.int r11))) σ8 ∧ G σ8 u ∧ (∃ σ12 : aH, C mX0_tell [.ref (v + 13), .int r7, .int r11] σ8 (.inl none) σ12 ∧ G σ12 u ∧ P (.inl none) σ12))))) :
    wp C 5 cX5_readRate 3 none false [] sc P 0 [(0, .ref 1), (1, .ref v)] [] σ := by
  refine w_aload_n dX5_readRate_0 rfl (List.Mem.head _) ?_
  refine w_dup dX5_readRate_1 rfl ?_
  refine w_getI (ci := 5) (k := 8) dX5_readRate_2 fl_5_37 (by decide) (gT hG rfl (lt_of rfl)) ?_
  refine w_iconst (v := 1) dX5_readRate_5 (by decide) ?_
  refine w_iadd dX5_readRate_6 ?_
  refine y_putI (ci := 5) (k := 8) dX5_readRate_7 fl_5_37 (by decide) (gT hG rfl (lt_of rfl)) (fun σ1 eσ2 => ?_)
  replace h := h σ1 eσ2
  have hG3 : G σ1 u := eσ2 ▸ G.sI hG
  refine w_aload_n dX5_readRate_10 rfl (List.Mem.head _) ?_
  refine w_iconst (v := 0) dX5_readRate_11 (by decide) ?_
  refine w_sipush (v := 1439) dX5_readRate_12 (by decide) ?_
  obtain ⟨r7, σ4, hc6, hG5, h⟩ := h
  refine w_callV dX5_readRate_15 ml_5_126 ⟨ok_X5_readNumber, vi_X5_readNumber⟩ hs_X5_readNumber (As := [.int 0, .int 1439]) rfl rfl (gT hG3 rfl (lt_of rfl)) (Nat.le_of_ble_eq_true rfl) hc6 ?_
  show wp C 5 cX5_readRate 3 none false [] sc P 18 [(0, .ref 1), (1, .ref v)] [.int r7] σ4
  refine w_istore_n (l' := [(2, .int r7), (0, .ref 1), (1, .ref v)]) dX5_readRate_18 rfl (by decide) rfl ?_
  refine w_aload_n dX5_readRate_19 rfl (List.Mem.tail _ (List.Mem.tail _ (List.Mem.head _))) ?_
  refine w_getR (ci := 2) (k := 2) (b := (v + 13)) dX5_readRate_20 fl_5_169 (by decide) (gT hG5 (IsMk_t0 hv) (IsMk_lt hv (k := 0) (by decide))) (gR hG5 (IsMk_r0_2 hv)) ?_
  refine w_iload_n dX5_readRate_23 rfl (List.Mem.head _) ?_
  refine w_aload_n dX5_readRate_24 rfl (List.Mem.tail _ (List.Mem.head _)) ?_
  refine w_iconst (v := 0) dX5_readRate_25 (by decide) ?_
  refine w_bipush (v := 9) dX5_readRate_26 (by decide) ?_
  obtain ⟨r11, σ8, hc10, hG9, h⟩ := h
  refine w_callV dX5_readRate_28 ml_5_126 ⟨ok_X5_readNumber, vi_X5_readNumber⟩ hs_X5_readNumber (As := [.int 0, .int 9]) rfl rfl (gT hG5 rfl (lt_of rfl)) (Nat.le_of_ble_eq_true rfl) hc10 ?_
  show wp C 5 cX5_readRate 3 none false [] sc P 31 [(2, .int r7), (0, .ref 1), (1, .ref v)] [.int r11, .int r7, .ref (v + 13)] σ8
  obtain ⟨σ12, hc14, hG13, h⟩ := h
  refine w_callV dX5_readRate_31 ml_5_164 ⟨ok_X0_tell, vi_X0_tell⟩ hs_X0_tell (As := [.int r7, .int r11]) rfl rfl (gT hG9 (IsMk_t13 hv) (IsMk_lt hv (k := 13) (by decide))) (Nat.le_of_ble_eq_true rfl) hc14 ?_
  show wp C 5 cX5_readRate 3 none false [] sc P 34 [(2, .int r7), (0, .ref 1), (1, .ref v)] [] σ12
  exact w_vret dX5_readRate_34 rfl h
theorem dX5_readOfStall_0 : decode cX5_readOfStall 0 = .ok (.aload_n 0, 1) := by decide +kernel
theorem dX5_readOfStall_1 : decode cX5_readOfStall 1 = .ok (.iconst 0, 1) := by decide +kernel
theorem dX5_readOfStall_2 : decode cX5_readOfStall 2 = .ok (.aload_n 2, 1) := by decide +kernel
theorem dX5_readOfStall_3 : decode cX5_readOfStall 3 = .ok (.getfield 121, 3) := by decide +kernel
theorem dX5_readOfStall_6 : decode cX5_readOfStall 6 = .ok (.iconst 1, 1) := by decide +kernel
theorem dX5_readOfStall_7 : decode cX5_readOfStall 7 = .ok (.isub, 1) := by decide +kernel
theorem dX5_readOfStall_8 : decode cX5_readOfStall 8 = .ok (.invokevirtual 126, 3) := by decide +kernel
theorem dX5_readOfStall_11 : decode cX5_readOfStall 11 = .ok (.istore_n 3, 1) := by decide +kernel
theorem dX5_readOfStall_12 : decode cX5_readOfStall 12 = .ok (.iload_n 3, 1) := by decide +kernel
theorem dX5_readOfStall_13 : decode cX5_readOfStall 13 = .ok (.aload_n 2, 1) := by decide +kernel
theorem dX5_readOfStall_14 : decode cX5_readOfStall 14 = .ok (.getfield 121, 3) := by decide +kernel
theorem dX5_readOfStall_17 : decode cX5_readOfStall 17 = .ok (.if_icmp .lt 4, 3) := by decide +kernel
theorem dX5_readOfStall_20 : decode cX5_readOfStall 20 = .ok (.return_, 1) := by decide +kernel
theorem dX5_readOfStall_21 : decode cX5_readOfStall 21 = .ok (.iload_n 1, 1) := by decide +kernel
theorem dX5_readOfStall_22 : decode cX5_readOfStall 22 = .ok (.iconst 2, 1) := by decide +kernel
theorem dX5_readOfStall_23 : decode cX5_readOfStall 23 = .ok (.if_icmp .ne 18, 3) := by decide +kernel
theorem dX5_readOfStall_26 : decode cX5_readOfStall 26 = .ok (.aload_n 2, 1) := by decide +kernel
theorem dX5_readOfStall_27 : decode cX5_readOfStall 27 = .ok (.getfield 171, 3) := by decide +kernel
theorem dX5_readOfStall_30 : decode cX5_readOfStall 30 = .ok (.iload_n 3, 1) := by decide +kernel
theorem dX5_readOfStall_31 : decode cX5_readOfStall 31 = .ok (.aload_n 0, 1) := by decide +kernel
theorem dX5_readOfStall_32 : decode cX5_readOfStall 32 = .ok (.iconst 0, 1) := by decide +kernel
theorem dX5_readOfStall_33 : decode cX5_readOfStall 33 = .ok (.iconst 3, 1) := by decide +kernel
theorem dX5_readOfStall_34 : decode cX5_readOfStall 34 = .ok (.invokevirtual 126, 3) := by decide +kernel
theorem dX5_readOfStall_37 : decode cX5_readOfStall 37 = .ok (.iastore, 1) := by decide +kernel
theorem dX5_readOfStall_38 : decode cX5_readOfStall 38 = .ok (.goto 43, 3) := by decide +kernel
theorem dX5_readOfStall_41 : decode cX5_readOfStall 41 = .ok (.iload_n 1, 1) := by decide +kernel
theorem dX5_readOfStall_42 : decode cX5_readOfStall 42 = .ok (.iconst 3, 1) := by decide +kernel
theorem dX5_readOfStall_43 : decode cX5_readOfStall 43 = .ok (.if_icmp .ne 31, 3) := by decide +kernel
theorem dX5_readOfStall_46 : decode cX5_readOfStall 46 = .ok (.aload_n 2, 1) := by decide +kernel
theorem dX5_readOfStall_47 : decode cX5_readOfStall 47 = .ok (.getfield 174, 3) := by decide +kernel
theorem dX5_readOfStall_50 : decode cX5_readOfStall 50 = .ok (.iload_n 3, 1) := by decide +kernel
theorem dX5_readOfStall_51 : decode cX5_readOfStall 51 = .ok (.aload_n 0, 1) := by decide +kernel
theorem dX5_readOfStall_52 : decode cX5_readOfStall 52 = .ok (.iconst 0, 1) := by decide +kernel
theorem dX5_readOfStall_53 : decode cX5_readOfStall 53 = .ok (.iconst 5, 1) := by decide +kernel
theorem dX5_readOfStall_54 : decode cX5_readOfStall 54 = .ok (.invokevirtual 126, 3) := by decide +kernel
theorem dX5_readOfStall_57 : decode cX5_readOfStall 57 = .ok (.iastore, 1) := by decide +kernel
theorem dX5_readOfStall_58 : decode cX5_readOfStall 58 = .ok (.aload_n 2, 1) := by decide +kernel
theorem dX5_readOfStall_59 : decode cX5_readOfStall 59 = .ok (.getfield 177, 3) := by decide +kernel
theorem dX5_readOfStall_62 : decode cX5_readOfStall 62 = .ok (.iload_n 3, 1) := by decide +kernel
theorem dX5_readOfStall_63 : decode cX5_readOfStall 63 = .ok (.aload_n 0, 1) := by decide +kernel
theorem dX5_readOfStall_64 : decode cX5_readOfStall 64 = .ok (.iconst 0, 1) := by decide +kernel
theorem dX5_readOfStall_65 : decode cX5_readOfStall 65 = .ok (.bipush 60, 2) := by decide +kernel
theorem dX5_readOfStall_67 : decode cX5_readOfStall 67 = .ok (.invokevirtual 126, 3) := by decide +kernel
theorem dX5_readOfStall_70 : decode cX5_readOfStall 70 = .ok (.iastore, 1) := by decide +kernel
theorem dX5_readOfStall_71 : decode cX5_readOfStall 71 = .ok (.goto 10, 3) := by decide +kernel
theorem dX5_readOfStall_74 : decode cX5_readOfStall 74 = .ok (.aload_n 2, 1) := by decide +kernel
theorem dX5_readOfStall_75 : decode cX5_readOfStall 75 = .ok (.getfield 180, 3) := by decide +kernel
theorem dX5_readOfStall_78 : decode cX5_readOfStall 78 = .ok (.iload_n 3, 1) := by decide +kernel
theorem dX5_readOfStall_79 : decode cX5_readOfStall 79 = .ok (.iconst 1, 1) := by decide +kernel
theorem dX5_readOfStall_80 : decode cX5_readOfStall 80 = .ok (.iastore, 1) := by decide +kernel
theorem dX5_readOfStall_81 : decode cX5_readOfStall 81 = .ok (.return_, 1) := by decide +kernel
set_option maxRecDepth 10000 in
theorem v_X5_readOfStall_0 {C : aM → List Value → aH → aO → aH → Prop} {sc : Nat × (Nat → Int32)} {P : aO → aH → Prop} {σ : aH} {u : Nat} {v : Nat} {x1 : Int32} (hG : G σ u) (hv : IsMk v)
    (h : (∃ (r4 : Int32) (σ1 : aH), C mX5_readNumber [.ref 1, .int 0, .int ((gI σ (v + 1) 8) - 1)] σ (.inl (some (.int r4))) σ1 ∧ G σ1 u ∧ ((r4 < (gI σ1 (v + 1) 8) → ((¬ x1 = 2 → ((¬ x1 = 3 → (vp_in r4 9 ∧ (∀ σ5 : aH, sI σ1 (v + 8) r4.toNatClampNeg 1 = σ5 → P (.inl none) σ5))) ∧ (x1 = 3 → (∃ (r11 : Int32) (σ8 : aH), C mX5_readNumber [.ref 1, .int 0, .int 5] σ1 (.inl (some (.int r11))) σ8 ∧ G σ8 u ∧ (vp_in r4 9 ∧ (∀ σ12 : aH, sI σ8 (v + 6) r4.toNatClampNeg r11 = σ12 → (∃ (r18 : Int32) (σ15 : aH), C mX5_readNumber [.ref 1, .int 0, .int 60] σ12 (.inl (some (.int r18))) σ15 ∧ G σ15 u ∧ (vp_in r4 9 ∧ (∀ σ19 : aH, sI σ15 (v + 7) r4.toNatClampNeg r18 = σ19 → P (.inl none) σ19))))))))) ∧ (x1 = 2 → (∃ (r25 : Int32) (σ22 : aH), C mX5_readNumber [.ref 1, .int 0, .int 3] σ1 (.inl (some (.int r25))) σ22 ∧ G σ22 u ∧ (vp_in r4 9 ∧ (∀ σ26 : aH, sI σ22 (v + 5) r4.toNatClampNeg r25 = σ26 → P (.inl none) σ26)))))) ∧ (¬ (r4 < (gI σ1 (v + 1) 8)) → P (.inl none) σ1)))) :
    wp C 5 cX5_readOfStall 4 none false [] sc P 0 [(0, .ref 1), (1, .int x1), (2, .ref (v + 1))] [] σ := by
  refine w_aload_n dX5_readOfStall_0 rfl (List.Mem.head _) ?_
  refine w_iconst (v := 0) dX5_readOfStall_1 (by decide) ?_
  refine w_aload_n dX5_readOfStall_2 rfl (List.Mem.tail _ (List.Mem.tail _ (List.Mem.head _))) ?_
  refine w_getI (ci := 7) (k := 8) dX5_readOfStall_3 fl_5_121 (by decide) (gT hG (IsMk_t1 hv) (IsMk_lt hv (k := 1) (by decide))) ?_
  refine w_iconst (v := 1) dX5_readOfStall_6 (by decide) ?_
  refine w_isub dX5_readOfStall_7 ?_
  obtain ⟨r4, σ1, hc3, hG2, h⟩ := h
  refine w_callV dX5_readOfStall_8 ml_5_126 ⟨ok_X5_readNumber, vi_X5_readNumber⟩ hs_X5_readNumber (As := [.int 0, .int ((gI σ (v + 1) 8) - 1)]) rfl rfl (gT hG rfl (lt_of rfl)) (Nat.le_of_ble_eq_true rfl) hc3 ?_
  show wp C 5 cX5_readOfStall 4 none false [] sc P 11 [(0, .ref 1), (1, .int x1), (2, .ref (v + 1))] [.int r4] σ1
  refine w_istore_n (l' := [(3, .int r4), (0, .ref 1), (1, .int x1), (2, .ref (v + 1))]) dX5_readOfStall_11 rfl (by decide) rfl ?_
  refine w_iload_n dX5_readOfStall_12 rfl (List.Mem.head _) ?_
  refine w_aload_n dX5_readOfStall_13 rfl (List.Mem.tail _ (List.Mem.tail _ (List.Mem.tail _ (List.Mem.head _)))) ?_
  refine w_getI (ci := 7) (k := 8) dX5_readOfStall_14 fl_5_121 (by decide) (gT hG2 (IsMk_t1 hv) (IsMk_lt hv (k := 1) (by decide))) ?_
  refine w_icmp_lt (tgt := 21) dX5_readOfStall_17 rfl (fun c9 => ?_) (fun c9 => ?_)
  · replace h := h.1 c9
    refine w_iload_n dX5_readOfStall_21 rfl (List.Mem.tail _ (List.Mem.tail _ (List.Mem.head _))) ?_
    refine w_iconst (v := 2) dX5_readOfStall_22 (by decide) ?_
    refine w_icmp_ne (tgt := 41) dX5_readOfStall_23 rfl (fun c9 => ?_) (fun c9 => ?_)
    · replace h := h.1 c9
      refine w_iload_n dX5_readOfStall_41 rfl (List.Mem.tail _ (List.Mem.tail _ (List.Mem.head _))) ?_
      refine w_iconst (v := 3) dX5_readOfStall_42 (by decide) ?_
      refine w_icmp_ne (tgt := 74) dX5_readOfStall_43 rfl (fun c9 => ?_) (fun c9 => ?_)
      · replace h := h.1 c9
        refine w_aload_n dX5_readOfStall_74 rfl (List.Mem.tail _ (List.Mem.tail _ (List.Mem.tail _ (List.Mem.head _)))) ?_
        refine w_getR (ci := 7) (k := 6) (b := (v + 8)) dX5_readOfStall_75 fl_5_180 (by decide) (gT hG2 (IsMk_t1 hv) (IsMk_lt hv (k := 1) (by decide))) (gR hG2 (IsMk_r1_6 hv)) ?_
        refine w_iload_n dX5_readOfStall_78 rfl (List.Mem.head _) ?_
        refine w_iconst (v := 1) dX5_readOfStall_79 (by decide) ?_
        obtain ⟨h9, h⟩ := h
        refine y_iast (n := 9) r4.toNatClampNeg dX5_readOfStall_80 (gT hG2 (IsMk_t8 hv) (IsMk_lt hv (k := 8) (by decide))) (gL hG2 (IsMk_n8 hv)) h9 rfl (fun σ5 eσ6 => ?_)
        replace h := h σ5 eσ6
        have hG7 : G σ5 u := eσ6 ▸ G.sI hG2
        exact w_vret dX5_readOfStall_81 rfl h
      · replace h := h.2 c9
        refine w_aload_n dX5_readOfStall_46 rfl (List.Mem.tail _ (List.Mem.tail _ (List.Mem.tail _ (List.Mem.head _)))) ?_
        refine w_getR (ci := 7) (k := 4) (b := (v + 6)) dX5_readOfStall_47 fl_5_174 (by decide) (gT hG2 (IsMk_t1 hv) (IsMk_lt hv (k := 1) (by decide))) (gR hG2 (IsMk_r1_4 hv)) ?_
        refine w_iload_n dX5_readOfStall_50 rfl (List.Mem.head _) ?_
        refine w_aload_n dX5_readOfStall_51 rfl (List.Mem.tail _ (List.Mem.head _)) ?_
        refine w_iconst (v := 0) dX5_readOfStall_52 (by decide) ?_
        refine w_iconst (v := 5) dX5_readOfStall_53 (by decide) ?_
        obtain ⟨r11, σ8, hc10, hG9, h⟩ := h
        refine w_callV dX5_readOfStall_54 ml_5_126 ⟨ok_X5_readNumber, vi_X5_readNumber⟩ hs_X5_readNumber (As := [.int 0, .int 5]) rfl rfl (gT hG2 rfl (lt_of rfl)) (Nat.le_of_ble_eq_true rfl) hc10 ?_
        show wp C 5 cX5_readOfStall 4 none false [] sc P 57 [(3, .int r4), (0, .ref 1), (1, .int x1), (2, .ref (v + 1))] [.int r11, .int r4, .ref (v + 6)] σ8
        obtain ⟨h9, h⟩ := h
        refine y_iast (n := 9) r4.toNatClampNeg dX5_readOfStall_57 (gT hG9 (IsMk_t6 hv) (IsMk_lt hv (k := 6) (by decide))) (gL hG9 (IsMk_n6 hv)) h9 rfl (fun σ12 eσ13 => ?_)
        replace h := h σ12 eσ13
        have hG14 : G σ12 u := eσ13 ▸ G.sI hG9
        refine w_aload_n dX5_readOfStall_58 rfl (List.Mem.tail _ (List.Mem.tail _ (List.Mem.tail _ (List.Mem.head _)))) ?_
        refine w_getR (ci := 7) (k := 5) (b := (v + 7)) dX5_readOfStall_59 fl_5_177 (by decide) (gT hG14 (IsMk_t1 hv) (IsMk_lt hv (k := 1) (by decide))) (gR hG14 (IsMk_r1_5 hv)) ?_
        refine w_iload_n dX5_readOfStall_62 rfl (List.Mem.head _) ?_
        refine w_aload_n dX5_readOfStall_63 rfl (List.Mem.tail _ (List.Mem.head _)) ?_
        refine w_iconst (v := 0) dX5_readOfStall_64 (by decide) ?_
        refine w_bipush (v := 60) dX5_readOfStall_65 (by decide) ?_
        obtain ⟨r18, σ15, hc17, hG16, h⟩ := h
        refine w_callV dX5_readOfStall_67 ml_5_126 ⟨ok_X5_readNumber, vi_X5_readNumber⟩ hs_X5_readNumber (As := [.int 0, .int 60]) rfl rfl (gT hG14 rfl (lt_of rfl)) (Nat.le_of_ble_eq_true rfl) hc17 ?_
        show wp C 5 cX5_readOfStall 4 none false [] sc P 70 [(3, .int r4), (0, .ref 1), (1, .int x1), (2, .ref (v + 1))] [.int r18, .int r4, .ref (v + 7)] σ15
        obtain ⟨h9, h⟩ := h
        refine y_iast (n := 9) r4.toNatClampNeg dX5_readOfStall_70 (gT hG16 (IsMk_t7 hv) (IsMk_lt hv (k := 7) (by decide))) (gL hG16 (IsMk_n7 hv)) h9 rfl (fun σ19 eσ20 => ?_)
        replace h := h σ19 eσ20
        have hG21 : G σ19 u := eσ20 ▸ G.sI hG16
        refine w_goto (tgt := 81) dX5_readOfStall_71 rfl ?_
        exact w_vret dX5_readOfStall_81 rfl h
    · replace h := h.2 c9
      refine w_aload_n dX5_readOfStall_26 rfl (List.Mem.tail _ (List.Mem.tail _ (List.Mem.tail _ (List.Mem.head _)))) ?_
      refine w_getR (ci := 7) (k := 3) (b := (v + 5)) dX5_readOfStall_27 fl_5_171 (by decide) (gT hG2 (IsMk_t1 hv) (IsMk_lt hv (k := 1) (by decide))) (gR hG2 (IsMk_r1_3 hv)) ?_
      refine w_iload_n dX5_readOfStall_30 rfl (List.Mem.head _) ?_
      refine w_aload_n dX5_readOfStall_31 rfl (List.Mem.tail _ (List.Mem.head _)) ?_
      refine w_iconst (v := 0) dX5_readOfStall_32 (by decide) ?_
      refine w_iconst (v := 3) dX5_readOfStall_33 (by decide) ?_
      obtain ⟨r25, σ22, hc24, hG23, h⟩ := h
      refine w_callV dX5_readOfStall_34 ml_5_126 ⟨ok_X5_readNumber, vi_X5_readNumber⟩ hs_X5_readNumber (As := [.int 0, .int 3]) rfl rfl (gT hG2 rfl (lt_of rfl)) (Nat.le_of_ble_eq_true rfl) hc24 ?_
      show wp C 5 cX5_readOfStall 4 none false [] sc P 37 [(3, .int r4), (0, .ref 1), (1, .int x1), (2, .ref (v + 1))] [.int r25, .int r4, .ref (v + 5)] σ22
      obtain ⟨h9, h⟩ := h
      refine y_iast (n := 9) r4.toNatClampNeg dX5_readOfStall_37 (gT hG23 (IsMk_t5 hv) (IsMk_lt hv (k := 5) (by decide))) (gL hG23 (IsMk_n5 hv)) h9 rfl (fun σ26 eσ27 => ?_)
      replace h := h σ26 eσ27
      have hG28 : G σ26 u := eσ27 ▸ G.sI hG23
      refine w_goto (tgt := 81) dX5_readOfStall_38 rfl ?_
      exact w_vret dX5_readOfStall_81 rfl h
  · replace h := h.2 c9
    exact w_vret dX5_readOfStall_20 rfl h
theorem dX5_readNumber_0 : decode cX5_readNumber 0 = .ok (.aload_n 0, 1) := by decide +kernel
theorem dX5_readNumber_1 : decode cX5_readNumber 1 = .ok (.invokevirtual 51, 3) := by decide +kernel
theorem dX5_readNumber_4 : decode cX5_readNumber 4 = .ok (.aload_n 0, 1) := by decide +kernel
theorem dX5_readNumber_5 : decode cX5_readNumber 5 = .ok (.getfield 22, 3) := by decide +kernel
theorem dX5_readNumber_8 : decode cX5_readNumber 8 = .ok (.istore_n 3, 1) := by decide +kernel
theorem dX5_readNumber_9 : decode cX5_readNumber 9 = .ok (.iconst 0, 1) := by decide +kernel
theorem dX5_readNumber_10 : decode cX5_readNumber 10 = .ok (.istore 4, 2) := by decide +kernel
theorem dX5_readNumber_12 : decode cX5_readNumber 12 = .ok (.aload_n 0, 1) := by decide +kernel
theorem dX5_readNumber_13 : decode cX5_readNumber 13 = .ok (.getfield 22, 3) := by decide +kernel
theorem dX5_readNumber_16 : decode cX5_readNumber 16 = .ok (.aload_n 0, 1) := by decide +kernel
theorem dX5_readNumber_17 : decode cX5_readNumber 17 = .ok (.getfield 19, 3) := by decide +kernel
theorem dX5_readNumber_20 : decode cX5_readNumber 20 = .ok (.if_icmp .ge 54, 3) := by decide +kernel
theorem dX5_readNumber_23 : decode cX5_readNumber 23 = .ok (.aload_n 0, 1) := by decide +kernel
theorem dX5_readNumber_24 : decode cX5_readNumber 24 = .ok (.invokevirtual 58, 3) := by decide +kernel
theorem dX5_readNumber_27 : decode cX5_readNumber 27 = .ok (.bipush 48, 2) := by decide +kernel
theorem dX5_readNumber_29 : decode cX5_readNumber 29 = .ok (.if_icmp .lt 45, 3) := by decide +kernel
theorem dX5_readNumber_32 : decode cX5_readNumber 32 = .ok (.aload_n 0, 1) := by decide +kernel
theorem dX5_readNumber_33 : decode cX5_readNumber 33 = .ok (.invokevirtual 58, 3) := by decide +kernel
theorem dX5_readNumber_36 : decode cX5_readNumber 36 = .ok (.bipush 57, 2) := by decide +kernel
theorem dX5_readNumber_38 : decode cX5_readNumber 38 = .ok (.if_icmp .gt 36, 3) := by decide +kernel
theorem dX5_readNumber_41 : decode cX5_readNumber 41 = .ok (.ldc 182, 2) := by decide +kernel
theorem dX5_readNumber_43 : decode cX5_readNumber 43 = .ok (.bipush 10, 2) := by decide +kernel
theorem dX5_readNumber_45 : decode cX5_readNumber 45 = .ok (.iload 4, 2) := by decide +kernel
theorem dX5_readNumber_47 : decode cX5_readNumber 47 = .ok (.imul, 1) := by decide +kernel
theorem dX5_readNumber_48 : decode cX5_readNumber 48 = .ok (.aload_n 0, 1) := by decide +kernel
theorem dX5_readNumber_49 : decode cX5_readNumber 49 = .ok (.invokevirtual 58, 3) := by decide +kernel
theorem dX5_readNumber_52 : decode cX5_readNumber 52 = .ok (.iadd, 1) := by decide +kernel
theorem dX5_readNumber_53 : decode cX5_readNumber 53 = .ok (.bipush 48, 2) := by decide +kernel
theorem dX5_readNumber_55 : decode cX5_readNumber 55 = .ok (.isub, 1) := by decide +kernel
theorem dX5_readNumber_56 : decode cX5_readNumber 56 = .ok (.invokestatic 40, 3) := by decide +kernel
theorem dX5_readNumber_59 : decode cX5_readNumber 59 = .ok (.istore 4, 2) := by decide +kernel
theorem dX5_readNumber_61 : decode cX5_readNumber 61 = .ok (.aload_n 0, 1) := by decide +kernel
theorem dX5_readNumber_62 : decode cX5_readNumber 62 = .ok (.dup, 1) := by decide +kernel
theorem dX5_readNumber_63 : decode cX5_readNumber 63 = .ok (.getfield 22, 3) := by decide +kernel
theorem dX5_readNumber_66 : decode cX5_readNumber 66 = .ok (.iconst 1, 1) := by decide +kernel
theorem dX5_readNumber_67 : decode cX5_readNumber 67 = .ok (.iadd, 1) := by decide +kernel
theorem dX5_readNumber_68 : decode cX5_readNumber 68 = .ok (.putfield 22, 3) := by decide +kernel
theorem dX5_readNumber_71 : decode cX5_readNumber 71 = .ok (.goto (-59), 3) := by decide +kernel
theorem dX5_readNumber_74 : decode cX5_readNumber 74 = .ok (.aload_n 0, 1) := by decide +kernel
theorem dX5_readNumber_75 : decode cX5_readNumber 75 = .ok (.getfield 22, 3) := by decide +kernel
theorem dX5_readNumber_78 : decode cX5_readNumber 78 = .ok (.iload_n 3, 1) := by decide +kernel
theorem dX5_readNumber_79 : decode cX5_readNumber 79 = .ok (.if_icmp .ne 12, 3) := by decide +kernel
theorem dX5_readNumber_82 : decode cX5_readNumber 82 = .ok (.aload_n 0, 1) := by decide +kernel
theorem dX5_readNumber_83 : decode cX5_readNumber 83 = .ok (.iconst 1, 1) := by decide +kernel
theorem dX5_readNumber_84 : decode cX5_readNumber 84 = .ok (.iload_n 3, 1) := by decide +kernel
theorem dX5_readNumber_85 : decode cX5_readNumber 85 = .ok (.invokevirtual 65, 3) := by decide +kernel
theorem dX5_readNumber_88 : decode cX5_readNumber 88 = .ok (.goto 21, 3) := by decide +kernel
theorem dX5_readNumber_91 : decode cX5_readNumber 91 = .ok (.iload 4, 2) := by decide +kernel
theorem dX5_readNumber_93 : decode cX5_readNumber 93 = .ok (.iload_n 1, 1) := by decide +kernel
theorem dX5_readNumber_94 : decode cX5_readNumber 94 = .ok (.if_icmp .lt 9, 3) := by decide +kernel
theorem dX5_readNumber_97 : decode cX5_readNumber 97 = .ok (.iload 4, 2) := by decide +kernel
theorem dX5_readNumber_99 : decode cX5_readNumber 99 = .ok (.iload_n 2, 1) := by decide +kernel
theorem dX5_readNumber_100 : decode cX5_readNumber 100 = .ok (.if_icmp .le 9, 3) := by decide +kernel
theorem dX5_readNumber_103 : decode cX5_readNumber 103 = .ok (.aload_n 0, 1) := by decide +kernel
theorem dX5_readNumber_104 : decode cX5_readNumber 104 = .ok (.iconst 2, 1) := by decide +kernel
theorem dX5_readNumber_105 : decode cX5_readNumber 105 = .ok (.iload_n 3, 1) := by decide +kernel
theorem dX5_readNumber_106 : decode cX5_readNumber 106 = .ok (.invokevirtual 65, 3) := by decide +kernel
theorem dX5_readNumber_109 : decode cX5_readNumber 109 = .ok (.aload_n 0, 1) := by decide +kernel
theorem dX5_readNumber_110 : decode cX5_readNumber 110 = .ok (.getfield 25, 3) := by decide +kernel
theorem dX5_readNumber_113 : decode cX5_readNumber 113 = .ok (.ifCond .ne 8, 3) := by decide +kernel
theorem dX5_readNumber_116 : decode cX5_readNumber 116 = .ok (.iload 4, 2) := by decide +kernel
theorem dX5_readNumber_118 : decode cX5_readNumber 118 = .ok (.goto 4, 3) := by decide +kernel
theorem dX5_readNumber_121 : decode cX5_readNumber 121 = .ok (.iconst 0, 1) := by decide +kernel
theorem dX5_readNumber_122 : decode cX5_readNumber 122 = .ok (.ireturn, 1) := by decide +kernel
set_option maxRecDepth 10000 in
theorem v_X5_readNumber_0 {C : aM → List Value → aH → aO → aH → Prop} {sc : Nat × (Nat → Int32)} {P : aO → aH → Prop} {σ : aH} {u : Nat}  {x1 : Int32} {x2 : Int32} (hG : G σ u) 
    (h : (∃ σ1 : aH, C mX5_skipBlanks [.ref 1] σ (.inl none) σ1 ∧ G σ1 u ∧ (∀ z4 : Int32, z4 = (gI σ1 1 3) → wp C 5 cX5_readNumber 5 (some .int) false [] sc P 12 [(0, .ref 1), (1, .int x1), (2, .int x2), (3, .int z4), (4, .int 0)] [] σ1))) :
    wp C 5 cX5_readNumber 5 (some .int) false [] sc P 0 [(0, .ref 1), (1, .int x1), (2, .int x2)] [] σ := by
  refine w_aload_n dX5_readNumber_0 rfl (List.Mem.head _) ?_
  obtain ⟨σ1, hc3, hG2, h⟩ := h
  refine w_callV dX5_readNumber_1 ml_5_51 ⟨ok_X5_skipBlanks, vi_X5_skipBlanks⟩ hs_X5_skipBlanks (As := []) rfl rfl (gT hG rfl (lt_of rfl)) (Nat.le_of_ble_eq_true rfl) hc3 ?_
  show wp C 5 cX5_readNumber 5 (some .int) false [] sc P 4 [(0, .ref 1), (1, .int x1), (2, .int x2)] [] σ1
  refine w_aload_n dX5_readNumber_4 rfl (List.Mem.head _) ?_
  refine w_getI (ci := 5) (k := 3) dX5_readNumber_5 fl_5_22 (by decide) (gT hG2 rfl (lt_of rfl)) ?_
  refine top_i (fun z4 ez5 => ?_)
  replace h := h z4 ez5
  refine w_istore_n (l' := [(3, .int z4), (0, .ref 1), (1, .int x1), (2, .int x2)]) dX5_readNumber_8 rfl (by decide) rfl ?_
  refine w_iconst (v := 0) dX5_readNumber_9 (by decide) ?_
  refine w_istore (l' := [(4, .int 0), (3, .int z4), (0, .ref 1), (1, .int x1), (2, .int x2)]) dX5_readNumber_10 (by decide) rfl ?_
  exact w_weak (l' := [(0, .ref 1), (1, .int x1), (2, .int x2), (3, .int z4), (4, .int 0)]) (by intro q hq; simp only [List.mem_cons, List.not_mem_nil, or_false] at hq ⊢; rcases hq with rfl | rfl | rfl | rfl | rfl <;> simp) h
set_option maxRecDepth 10000 in
theorem v_X5_readNumber_12 {C : aM → List Value → aH → aO → aH → Prop} {sc : Nat × (Nat → Int32)} {P : aO → aH → Prop} {σ : aH} {u : Nat}  {x1 : Int32} {x2 : Int32} {x3 : Int32} {x4 : Int32} (hG : G σ u) 
    (h : (((gI σ 1 2) ≤ (gI σ 1 3) → wp C 5 cX5_readNumber 5 (some .int) false [] sc P 74 [(0, .ref 1), (1, .int x1), (2, .int x2), (3, .int x3), (4, .int x4)] [] σ) ∧ (¬ ((gI σ 1 2) ≤ (gI σ 1 3)) → (∃ (r4 : Int32) (σ1 : aH), C mX5_here [.ref 1] σ (.inl (some (.int r4))) σ1 ∧ G σ1 u ∧ ((r4 < 48 → wp C 5 cX5_readNumber 5 (some .int) false [] sc P 74 [(0, .ref 1), (1, .int x1), (2, .int x2), (3, .int x3), (4, .int x4)] [] σ1) ∧ (¬ (r4 < 48) → (∃ (r8 : Int32) (σ5 : aH), C mX5_here [.ref 1] σ1 (.inl (some (.int r8))) σ5 ∧ G σ5 u ∧ ((57 < r8 → wp C 5 cX5_readNumber 5 (some .int) false [] sc P 74 [(0, .ref 1), (1, .int x1), (2, .int x2), (3, .int x3), (4, .int x4)] [] σ5) ∧ (¬ (57 < r8) → (∃ (r12 : Int32) (σ9 : aH), C mX5_here [.ref 1] σ5 (.inl (some (.int r12))) σ9 ∧ G σ9 u ∧ (∀ z13 : Int32, z13 = (if (((10 * x4) + r12) - 48) < 100000 then (((10 * x4) + r12) - 48) else 100000) → (∀ σ15 : aH, sI σ9 1 3 ((gI σ9 1 3) + 1) = σ15 → wp C 5 cX5_readNumber 5 (some .int) false [] sc P 12 [(0, .ref 1), (1, .int x1), (2, .int x2), (3, .int x3), (4, .int z13)] [] σ15)))))))))))) :
    wp C 5 cX5_readNumber 5 (some .int) false [] sc P 12 [(0, .ref 1), (1, .int x1), (2, .int x2), (3, .int x3), (4, .int x4)] [] σ := by
  refine w_aload_n dX5_readNumber_12 rfl (List.Mem.head _) ?_
  refine w_getI (ci := 5) (k := 3) dX5_readNumber_13 fl_5_22 (by decide) (gT hG rfl (lt_of rfl)) ?_
  refine w_aload_n dX5_readNumber_16 rfl (List.Mem.head _) ?_
  refine w_getI (ci := 5) (k := 2) dX5_readNumber_17 fl_5_19 (by decide) (gT hG rfl (lt_of rfl)) ?_
  refine w_icmp_ge (tgt := 74) dX5_readNumber_20 rfl (fun c9 => ?_) (fun c9 => ?_)
  · replace h := h.1 c9
    exact h
  · replace h := h.2 c9
    refine w_aload_n dX5_readNumber_23 rfl (List.Mem.head _) ?_
    obtain ⟨r4, σ1, hc3, hG2, h⟩ := h
    refine w_callV dX5_readNumber_24 ml_5_58 ⟨ok_X5_here, vi_X5_here⟩ hs_X5_here (As := []) rfl rfl (gT hG rfl (lt_of rfl)) (Nat.le_of_ble_eq_true rfl) hc3 ?_
    show wp C 5 cX5_readNumber 5 (some .int) false [] sc P 27 [(0, .ref 1), (1, .int x1), (2, .int x2), (3, .int x3), (4, .int x4)] [.int r4] σ1
    refine w_bipush (v := 48) dX5_readNumber_27 (by decide) ?_
    refine w_icmp_lt (tgt := 74) dX5_readNumber_29 rfl (fun c9 => ?_) (fun c9 => ?_)
    · replace h := h.1 c9
      exact h
    · replace h := h.2 c9
      refine w_aload_n dX5_readNumber_32 rfl (List.Mem.head _) ?_
      obtain ⟨r8, σ5, hc7, hG6, h⟩ := h
      refine w_callV dX5_readNumber_33 ml_5_58 ⟨ok_X5_here, vi_X5_here⟩ hs_X5_here (As := []) rfl rfl (gT hG2 rfl (lt_of rfl)) (Nat.le_of_ble_eq_true rfl) hc7 ?_
      show wp C 5 cX5_readNumber 5 (some .int) false [] sc P 36 [(0, .ref 1), (1, .int x1), (2, .int x2), (3, .int x3), (4, .int x4)] [.int r8] σ5
      refine w_bipush (v := 57) dX5_readNumber_36 (by decide) ?_
      refine w_icmp_gt (tgt := 74) dX5_readNumber_38 rfl (fun c9 => ?_) (fun c9 => ?_)
      · replace h := h.1 c9
        exact h
      · replace h := h.2 c9
        refine w_ldc dX5_readNumber_41 kc_5_182 ?_
        refine w_bipush (v := 10) dX5_readNumber_43 (by decide) ?_
        refine w_iload dX5_readNumber_45 (List.Mem.tail _ (List.Mem.tail _ (List.Mem.tail _ (List.Mem.tail _ (List.Mem.head _))))) ?_
        refine w_imul dX5_readNumber_47 ?_
        refine w_aload_n dX5_readNumber_48 rfl (List.Mem.head _) ?_
        obtain ⟨r12, σ9, hc11, hG10, h⟩ := h
        refine w_callV dX5_readNumber_49 ml_5_58 ⟨ok_X5_here, vi_X5_here⟩ hs_X5_here (As := []) rfl rfl (gT hG6 rfl (lt_of rfl)) (Nat.le_of_ble_eq_true rfl) hc11 ?_
        show wp C 5 cX5_readNumber 5 (some .int) false [] sc P 52 [(0, .ref 1), (1, .int x1), (2, .int x2), (3, .int x3), (4, .int x4)] [.int r12, .int (10 * x4), .int 100000] σ9
        refine w_iadd dX5_readNumber_52 ?_
        refine w_bipush (v := 48) dX5_readNumber_53 (by decide) ?_
        refine w_isub dX5_readNumber_55 ?_
        refine w_mmin dX5_readNumber_56 lk_5_40 (Nat.le_of_ble_eq_true rfl) ?_
        refine top_i (fun z13 ez14 => ?_)
        replace h := h z13 ez14
        refine w_istore (l' := [(4, .int z13), (0, .ref 1), (1, .int x1), (2, .int x2), (3, .int x3)]) dX5_readNumber_59 (by decide) rfl ?_
        refine w_aload_n dX5_readNumber_61 rfl (List.Mem.tail _ (List.Mem.head _)) ?_
        refine w_dup dX5_readNumber_62 rfl ?_
        refine w_getI (ci := 5) (k := 3) dX5_readNumber_63 fl_5_22 (by decide) (gT hG10 rfl (lt_of rfl)) ?_
        refine w_iconst (v := 1) dX5_readNumber_66 (by decide) ?_
        refine w_iadd dX5_readNumber_67 ?_
        refine y_putI (ci := 5) (k := 3) dX5_readNumber_68 fl_5_22 (by decide) (gT hG10 rfl (lt_of rfl)) (fun σ15 eσ16 => ?_)
        replace h := h σ15 eσ16
        have hG17 : G σ15 u := eσ16 ▸ G.sI hG10
        refine w_goto (tgt := 12) dX5_readNumber_71 rfl ?_
        exact w_weak (l' := [(0, .ref 1), (1, .int x1), (2, .int x2), (3, .int x3), (4, .int z13)]) (by intro q hq; simp only [List.mem_cons, List.not_mem_nil, or_false] at hq ⊢; rcases hq with rfl | rfl | rfl | rfl | rfl <;> simp) h
set_option maxRecDepth 10000 in
theorem v_X5_readNumber_74 {C : aM → List Value → aH → aO → aH → Prop} {sc : Nat × (Nat → Int32)} {P : aO → aH → Prop} {σ : aH} {u : Nat}  {x1 : Int32} {x2 : Int32} {x3 : Int32} {x4 : Int32} (hG : G σ u) 
    (h : ((¬ (gI σ 1 3) = x3 → ((x4 < x1 → (∃ σ1 : aH, C mX5_blame [.ref 1, .int 2, .int x3] σ (.inl none) σ1 ∧ G σ1 u ∧ ((¬ (gI σ1 1 4) = 0 → P (.inl (some (.int 0))) σ1) ∧ ((gI σ1 1 4) = 0 → P (.inl (some (.int x4))) σ1)))) ∧ (¬ (x4 < x1) → ((x4 ≤ x2 → ((¬ (gI σ 1 4) = 0 → P (.inl (some (.int 0))) σ) ∧ ((gI σ 1 4) = 0 → P (.inl (some (.int x4))) σ))) ∧ (¬ (x4 ≤ x2) → (∃ σ4 : aH, C mX5_blame [.ref 1, .int 2, .int x3] σ (.inl none) σ4 ∧ G σ4 u ∧ ((¬ (gI σ4 1 4) = 0 → P (.inl (some (.int 0))) σ4) ∧ ((gI σ4 1 4) = 0 → P (.inl (some (.int x4))) σ4)))))))) ∧ ((gI σ 1 3) = x3 → (∃ σ7 : aH, C mX5_blame [.ref 1, .int 1, .int x3] σ (.inl none) σ7 ∧ G σ7 u ∧ ((¬ (gI σ7 1 4) = 0 → P (.inl (some (.int 0))) σ7) ∧ ((gI σ7 1 4) = 0 → P (.inl (some (.int x4))) σ7)))))) :
    wp C 5 cX5_readNumber 5 (some .int) false [] sc P 74 [(0, .ref 1), (1, .int x1), (2, .int x2), (3, .int x3), (4, .int x4)] [] σ := by
  refine w_aload_n dX5_readNumber_74 rfl (List.Mem.head _) ?_
  refine w_getI (ci := 5) (k := 3) dX5_readNumber_75 fl_5_22 (by decide) (gT hG rfl (lt_of rfl)) ?_
  refine w_iload_n dX5_readNumber_78 rfl (List.Mem.tail _ (List.Mem.tail _ (List.Mem.tail _ (List.Mem.head _)))) ?_
  refine w_icmp_ne (tgt := 91) dX5_readNumber_79 rfl (fun c9 => ?_) (fun c9 => ?_)
  · replace h := h.1 c9
    refine w_iload dX5_readNumber_91 (List.Mem.tail _ (List.Mem.tail _ (List.Mem.tail _ (List.Mem.tail _ (List.Mem.head _))))) ?_
    refine w_iload_n dX5_readNumber_93 rfl (List.Mem.tail _ (List.Mem.head _)) ?_
    refine w_icmp_lt (tgt := 103) dX5_readNumber_94 rfl (fun c9 => ?_) (fun c9 => ?_)
    · replace h := h.1 c9
      refine w_aload_n dX5_readNumber_103 rfl (List.Mem.head _) ?_
      refine w_iconst (v := 2) dX5_readNumber_104 (by decide) ?_
      refine w_iload_n dX5_readNumber_105 rfl (List.Mem.tail _ (List.Mem.tail _ (List.Mem.tail _ (List.Mem.head _)))) ?_
      obtain ⟨σ1, hc3, hG2, h⟩ := h
      refine w_callV dX5_readNumber_106 ml_5_65 ⟨ok_X5_blame, vi_X5_blame⟩ hs_X5_blame (As := [.int 2, .int x3]) rfl rfl (gT hG rfl (lt_of rfl)) (Nat.le_of_ble_eq_true rfl) hc3 ?_
      show wp C 5 cX5_readNumber 5 (some .int) false [] sc P 109 [(0, .ref 1), (1, .int x1), (2, .int x2), (3, .int x3), (4, .int x4)] [] σ1
      refine w_aload_n dX5_readNumber_109 rfl (List.Mem.head _) ?_
      refine w_getI (ci := 5) (k := 4) dX5_readNumber_110 fl_5_25 (by decide) (gT hG2 rfl (lt_of rfl)) ?_
      refine w_if_ne (tgt := 121) dX5_readNumber_113 rfl (fun c9 => ?_) (fun c9 => ?_)
      · replace h := h.1 c9
        refine w_iconst (v := 0) dX5_readNumber_121 (by decide) ?_
        exact w_iret dX5_readNumber_122 rfl h
      · replace h := h.2 c9
        refine w_iload dX5_readNumber_116 (List.Mem.tail _ (List.Mem.tail _ (List.Mem.tail _ (List.Mem.tail _ (List.Mem.head _))))) ?_
        refine w_goto (tgt := 122) dX5_readNumber_118 rfl ?_
        exact w_iret dX5_readNumber_122 rfl h
    · replace h := h.2 c9
      refine w_iload dX5_readNumber_97 (List.Mem.tail _ (List.Mem.tail _ (List.Mem.tail _ (List.Mem.tail _ (List.Mem.head _))))) ?_
      refine w_iload_n dX5_readNumber_99 rfl (List.Mem.tail _ (List.Mem.tail _ (List.Mem.head _))) ?_
      refine w_icmp_le (tgt := 109) dX5_readNumber_100 rfl (fun c9 => ?_) (fun c9 => ?_)
      · replace h := h.1 c9
        refine w_aload_n dX5_readNumber_109 rfl (List.Mem.head _) ?_
        refine w_getI (ci := 5) (k := 4) dX5_readNumber_110 fl_5_25 (by decide) (gT hG rfl (lt_of rfl)) ?_
        refine w_if_ne (tgt := 121) dX5_readNumber_113 rfl (fun c9 => ?_) (fun c9 => ?_)
        · replace h := h.1 c9
          refine w_iconst (v := 0) dX5_readNumber_121 (by decide) ?_
          exact w_iret dX5_readNumber_122 rfl h
        · replace h := h.2 c9
          refine w_iload dX5_readNumber_116 (List.Mem.tail _ (List.Mem.tail _ (List.Mem.tail _ (List.Mem.tail _ (List.Mem.head _))))) ?_
          refine w_goto (tgt := 122) dX5_readNumber_118 rfl ?_
          exact w_iret dX5_readNumber_122 rfl h
      · replace h := h.2 c9
        refine w_aload_n dX5_readNumber_103 rfl (List.Mem.head _) ?_
        refine w_iconst (v := 2) dX5_readNumber_104 (by decide) ?_
        refine w_iload_n dX5_readNumber_105 rfl (List.Mem.tail _ (List.Mem.tail _ (List.Mem.tail _ (List.Mem.head _)))) ?_
        obtain ⟨σ4, hc6, hG5, h⟩ := h
        refine w_callV dX5_readNumber_106 ml_5_65 ⟨ok_X5_blame, vi_X5_blame⟩ hs_X5_blame (As := [.int 2, .int x3]) rfl rfl (gT hG rfl (lt_of rfl)) (Nat.le_of_ble_eq_true rfl) hc6 ?_
        show wp C 5 cX5_readNumber 5 (some .int) false [] sc P 109 [(0, .ref 1), (1, .int x1), (2, .int x2), (3, .int x3), (4, .int x4)] [] σ4
        refine w_aload_n dX5_readNumber_109 rfl (List.Mem.head _) ?_
        refine w_getI (ci := 5) (k := 4) dX5_readNumber_110 fl_5_25 (by decide) (gT hG5 rfl (lt_of rfl)) ?_
        refine w_if_ne (tgt := 121) dX5_readNumber_113 rfl (fun c9 => ?_) (fun c9 => ?_)
        · replace h := h.1 c9
          refine w_iconst (v := 0) dX5_readNumber_121 (by decide) ?_
          exact w_iret dX5_readNumber_122 rfl h
        · replace h := h.2 c9
          refine w_iload dX5_readNumber_116 (List.Mem.tail _ (List.Mem.tail _ (List.Mem.tail _ (List.Mem.tail _ (List.Mem.head _))))) ?_
          refine w_goto (tgt := 122) dX5_readNumber_118 rfl ?_
          exact w_iret dX5_readNumber_122 rfl h
  · replace h := h.2 c9
    refine w_aload_n dX5_readNumber_82 rfl (List.Mem.head _) ?_
    refine w_iconst (v := 1) dX5_readNumber_83 (by decide) ?_
    refine w_iload_n dX5_readNumber_84 rfl (List.Mem.tail _ (List.Mem.tail _ (List.Mem.tail _ (List.Mem.head _)))) ?_
    obtain ⟨σ7, hc9, hG8, h⟩ := h
    refine w_callV dX5_readNumber_85 ml_5_65 ⟨ok_X5_blame, vi_X5_blame⟩ hs_X5_blame (As := [.int 1, .int x3]) rfl rfl (gT hG rfl (lt_of rfl)) (Nat.le_of_ble_eq_true rfl) hc9 ?_
    show wp C 5 cX5_readNumber 5 (some .int) false [] sc P 88 [(0, .ref 1), (1, .int x1), (2, .int x2), (3, .int x3), (4, .int x4)] [] σ7
    refine w_goto (tgt := 109) dX5_readNumber_88 rfl ?_
    refine w_aload_n dX5_readNumber_109 rfl (List.Mem.head _) ?_
    refine w_getI (ci := 5) (k := 4) dX5_readNumber_110 fl_5_25 (by decide) (gT hG8 rfl (lt_of rfl)) ?_
    refine w_if_ne (tgt := 121) dX5_readNumber_113 rfl (fun c9 => ?_) (fun c9 => ?_)
    · replace h := h.1 c9
      refine w_iconst (v := 0) dX5_readNumber_121 (by decide) ?_
      exact w_iret dX5_readNumber_122 rfl h
    · replace h := h.2 c9
      refine w_iload dX5_readNumber_116 (List.Mem.tail _ (List.Mem.tail _ (List.Mem.tail _ (List.Mem.tail _ (List.Mem.head _))))) ?_
      refine w_goto (tgt := 122) dX5_readNumber_118 rfl ?_
      exact w_iret dX5_readNumber_122 rfl h
theorem dX5_readEnd_0 : decode cX5_readEnd 0 = .ok (.aload_n 0, 1) := by decide +kernel
theorem dX5_readEnd_1 : decode cX5_readEnd 1 = .ok (.invokevirtual 51, 3) := by decide +kernel
theorem dX5_readEnd_4 : decode cX5_readEnd 4 = .ok (.aload_n 0, 1) := by decide +kernel
theorem dX5_readEnd_5 : decode cX5_readEnd 5 = .ok (.invokevirtual 58, 3) := by decide +kernel
theorem dX5_readEnd_8 : decode cX5_readEnd 8 = .ok (.bipush 59, 2) := by decide +kernel
theorem dX5_readEnd_10 : decode cX5_readEnd 10 = .ok (.if_icmp .ne 16, 3) := by decide +kernel
theorem dX5_readEnd_13 : decode cX5_readEnd 13 = .ok (.aload_n 0, 1) := by decide +kernel
theorem dX5_readEnd_14 : decode cX5_readEnd 14 = .ok (.dup, 1) := by decide +kernel
theorem dX5_readEnd_15 : decode cX5_readEnd 15 = .ok (.getfield 22, 3) := by decide +kernel
theorem dX5_readEnd_18 : decode cX5_readEnd 18 = .ok (.iconst 1, 1) := by decide +kernel
theorem dX5_readEnd_19 : decode cX5_readEnd 19 = .ok (.iadd, 1) := by decide +kernel
theorem dX5_readEnd_20 : decode cX5_readEnd 20 = .ok (.putfield 22, 3) := by decide +kernel
theorem dX5_readEnd_23 : decode cX5_readEnd 23 = .ok (.goto 12, 3) := by decide +kernel
theorem dX5_readEnd_26 : decode cX5_readEnd 26 = .ok (.aload_n 0, 1) := by decide +kernel
theorem dX5_readEnd_27 : decode cX5_readEnd 27 = .ok (.iconst 1, 1) := by decide +kernel
theorem dX5_readEnd_28 : decode cX5_readEnd 28 = .ok (.aload_n 0, 1) := by decide +kernel
theorem dX5_readEnd_29 : decode cX5_readEnd 29 = .ok (.getfield 22, 3) := by decide +kernel
theorem dX5_readEnd_32 : decode cX5_readEnd 32 = .ok (.invokevirtual 65, 3) := by decide +kernel
theorem dX5_readEnd_35 : decode cX5_readEnd 35 = .ok (.return_, 1) := by decide +kernel
set_option maxRecDepth 10000 in
theorem v_X5_readEnd_0 {C : aM → List Value → aH → aO → aH → Prop} {sc : Nat × (Nat → Int32)} {P : aO → aH → Prop} {σ : aH} {u : Nat}   (hG : G σ u) 
    (h : (∃ σ1 : aH, C mX5_skipBlanks [.ref 1] σ (.inl none) σ1 ∧ G σ1 u ∧ (∃ (r7 : Int32) (σ4 : aH), C mX5_here [.ref 1] σ1 (.inl (some (.int r7))) σ4 ∧ G σ4 u ∧ ((¬ r7 = 59 → (∃ σ8 : aH, C mX5_blame [.ref 1, .int 1, .int (gI σ4 1 3)] σ4 (.inl none) σ8 ∧ G σ8 u ∧ P (.inl none) σ8)) ∧ (r7 = 59 → (∀ σ11 : aH, sI σ4 1 3 ((gI σ4 1 3) + 1) = σ11 → P (.inl none) σ11)))))) :
    wp C 5 cX5_readEnd 1 none false [] sc P 0 [(0, .ref 1)] [] σ := by
  refine w_aload_n dX5_readEnd_0 rfl (List.Mem.head _) ?_
  obtain ⟨σ1, hc3, hG2, h⟩ := h
  refine w_callV dX5_readEnd_1 ml_5_51 ⟨ok_X5_skipBlanks, vi_X5_skipBlanks⟩ hs_X5_skipBlanks (As := []) rfl rfl (gT hG rfl (lt_of rfl)) (Nat.le_of_ble_eq_true rfl) hc3 ?_
  show wp C 5 cX5_readEnd 1 none false [] sc P 4 [(0, .ref 1)] [] σ1
  refine w_aload_n dX5_readEnd_4 rfl (List.Mem.head _) ?_
  obtain ⟨r7, σ4, hc6, hG5, h⟩ := h
  refine w_callV dX5_readEnd_5 ml_5_58 ⟨ok_X5_here, vi_X5_here⟩ hs_X5_here (As := []) rfl rfl (gT hG2 rfl (lt_of rfl)) (Nat.le_of_ble_eq_true rfl) hc6 ?_
  show wp C 5 cX5_readEnd 1 none false [] sc P 8 [(0, .ref 1)] [.int r7] σ4
  refine w_bipush (v := 59) dX5_readEnd_8 (by decide) ?_
  refine w_icmp_ne (tgt := 26) dX5_readEnd_10 rfl (fun c9 => ?_) (fun c9 => ?_)
  · replace h := h.1 c9
    refine w_aload_n dX5_readEnd_26 rfl (List.Mem.head _) ?_
    refine w_iconst (v := 1) dX5_readEnd_27 (by decide) ?_
    refine w_aload_n dX5_readEnd_28 rfl (List.Mem.head _) ?_
    refine w_getI (ci := 5) (k := 3) dX5_readEnd_29 fl_5_22 (by decide) (gT hG5 rfl (lt_of rfl)) ?_
    obtain ⟨σ8, hc10, hG9, h⟩ := h
    refine w_callV dX5_readEnd_32 ml_5_65 ⟨ok_X5_blame, vi_X5_blame⟩ hs_X5_blame (As := [.int 1, .int (gI σ4 1 3)]) rfl rfl (gT hG5 rfl (lt_of rfl)) (Nat.le_of_ble_eq_true rfl) hc10 ?_
    show wp C 5 cX5_readEnd 1 none false [] sc P 35 [(0, .ref 1)] [] σ8
    exact w_vret dX5_readEnd_35 rfl h
  · replace h := h.2 c9
    refine w_aload_n dX5_readEnd_13 rfl (List.Mem.head _) ?_
    refine w_dup dX5_readEnd_14 rfl ?_
    refine w_getI (ci := 5) (k := 3) dX5_readEnd_15 fl_5_22 (by decide) (gT hG5 rfl (lt_of rfl)) ?_
    refine w_iconst (v := 1) dX5_readEnd_18 (by decide) ?_
    refine w_iadd dX5_readEnd_19 ?_
    refine y_putI (ci := 5) (k := 3) dX5_readEnd_20 fl_5_22 (by decide) (gT hG5 rfl (lt_of rfl)) (fun σ11 eσ12 => ?_)
    replace h := h σ11 eσ12
    have hG13 : G σ11 u := eσ12 ▸ G.sI hG5
    refine w_goto (tgt := 35) dX5_readEnd_23 rfl ?_
    exact w_vret dX5_readEnd_35 rfl h
