theorem dX7_add_0 : decode cX7_add 0 = .ok (.aload_n 0, 1) := by decide +kernel
theorem dX7_add_1 : decode cX7_add 1 = .ok (.getfield 36, 3) := by decide +kernel
theorem dX7_add_4 : decode cX7_add 4 = .ok (.bipush 9, 2) := by decide +kernel
theorem dX7_add_6 : decode cX7_add 6 = .ok (.if_icmp .lt 4, 3) := by decide +kernel
theorem dX7_add_9 : decode cX7_add 9 = .ok (.return_, 1) := by decide +kernel
theorem dX7_add_10 : decode cX7_add 10 = .ok (.aload_n 0, 1) := by decide +kernel
theorem dX7_add_11 : decode cX7_add 11 = .ok (.getfield 9, 3) := by decide +kernel
theorem dX7_add_14 : decode cX7_add 14 = .ok (.aload_n 0, 1) := by decide +kernel
theorem dX7_add_15 : decode cX7_add 15 = .ok (.getfield 36, 3) := by decide +kernel
theorem dX7_add_18 : decode cX7_add 18 = .ok (.iload_n 1, 1) := by decide +kernel
theorem dX7_add_19 : decode cX7_add 19 = .ok (.iastore, 1) := by decide +kernel
theorem dX7_add_20 : decode cX7_add 20 = .ok (.aload_n 0, 1) := by decide +kernel
theorem dX7_add_21 : decode cX7_add 21 = .ok (.getfield 15, 3) := by decide +kernel
theorem dX7_add_24 : decode cX7_add 24 = .ok (.aload_n 0, 1) := by decide +kernel
theorem dX7_add_25 : decode cX7_add 25 = .ok (.getfield 36, 3) := by decide +kernel
theorem dX7_add_28 : decode cX7_add 28 = .ok (.iload_n 2, 1) := by decide +kernel
theorem dX7_add_29 : decode cX7_add 29 = .ok (.iastore, 1) := by decide +kernel
theorem dX7_add_30 : decode cX7_add 30 = .ok (.aload_n 0, 1) := by decide +kernel
theorem dX7_add_31 : decode cX7_add 31 = .ok (.getfield 18, 3) := by decide +kernel
theorem dX7_add_34 : decode cX7_add 34 = .ok (.aload_n 0, 1) := by decide +kernel
theorem dX7_add_35 : decode cX7_add 35 = .ok (.getfield 36, 3) := by decide +kernel
theorem dX7_add_38 : decode cX7_add 38 = .ok (.iload_n 3, 1) := by decide +kernel
theorem dX7_add_39 : decode cX7_add 39 = .ok (.iastore, 1) := by decide +kernel
theorem dX7_add_40 : decode cX7_add 40 = .ok (.aload_n 0, 1) := by decide +kernel
theorem dX7_add_41 : decode cX7_add 41 = .ok (.getfield 21, 3) := by decide +kernel
theorem dX7_add_44 : decode cX7_add 44 = .ok (.aload_n 0, 1) := by decide +kernel
theorem dX7_add_45 : decode cX7_add 45 = .ok (.getfield 36, 3) := by decide +kernel
theorem dX7_add_48 : decode cX7_add 48 = .ok (.iconst 0, 1) := by decide +kernel
theorem dX7_add_49 : decode cX7_add 49 = .ok (.iastore, 1) := by decide +kernel
theorem dX7_add_50 : decode cX7_add 50 = .ok (.aload_n 0, 1) := by decide +kernel
theorem dX7_add_51 : decode cX7_add 51 = .ok (.getfield 24, 3) := by decide +kernel
theorem dX7_add_54 : decode cX7_add 54 = .ok (.aload_n 0, 1) := by decide +kernel
theorem dX7_add_55 : decode cX7_add 55 = .ok (.getfield 36, 3) := by decide +kernel
theorem dX7_add_58 : decode cX7_add 58 = .ok (.iconst 0, 1) := by decide +kernel
theorem dX7_add_59 : decode cX7_add 59 = .ok (.iastore, 1) := by decide +kernel
theorem dX7_add_60 : decode cX7_add 60 = .ok (.aload_n 0, 1) := by decide +kernel
theorem dX7_add_61 : decode cX7_add 61 = .ok (.getfield 27, 3) := by decide +kernel
theorem dX7_add_64 : decode cX7_add 64 = .ok (.aload_n 0, 1) := by decide +kernel
theorem dX7_add_65 : decode cX7_add 65 = .ok (.getfield 36, 3) := by decide +kernel
theorem dX7_add_68 : decode cX7_add 68 = .ok (.iconst 0, 1) := by decide +kernel
theorem dX7_add_69 : decode cX7_add 69 = .ok (.iastore, 1) := by decide +kernel
theorem dX7_add_70 : decode cX7_add 70 = .ok (.aload_n 0, 1) := by decide +kernel
theorem dX7_add_71 : decode cX7_add 71 = .ok (.getfield 30, 3) := by decide +kernel
theorem dX7_add_74 : decode cX7_add 74 = .ok (.aload_n 0, 1) := by decide +kernel
theorem dX7_add_75 : decode cX7_add 75 = .ok (.getfield 36, 3) := by decide +kernel
theorem dX7_add_78 : decode cX7_add 78 = .ok (.iconst 0, 1) := by decide +kernel
theorem dX7_add_79 : decode cX7_add 79 = .ok (.iastore, 1) := by decide +kernel
theorem dX7_add_80 : decode cX7_add 80 = .ok (.aload_n 0, 1) := by decide +kernel
theorem dX7_add_81 : decode cX7_add 81 = .ok (.getfield 33, 3) := by decide +kernel
theorem dX7_add_84 : decode cX7_add 84 = .ok (.aload_n 0, 1) := by decide +kernel
theorem dX7_add_85 : decode cX7_add 85 = .ok (.getfield 36, 3) := by decide +kernel
theorem dX7_add_88 : decode cX7_add 88 = .ok (.iconst (-1), 1) := by decide +kernel
theorem dX7_add_89 : decode cX7_add 89 = .ok (.iastore, 1) := by decide +kernel
theorem dX7_add_90 : decode cX7_add 90 = .ok (.aload_n 0, 1) := by decide +kernel
theorem dX7_add_91 : decode cX7_add 91 = .ok (.dup, 1) := by decide +kernel
theorem dX7_add_92 : decode cX7_add 92 = .ok (.getfield 36, 3) := by decide +kernel
theorem dX7_add_95 : decode cX7_add 95 = .ok (.iconst 1, 1) := by decide +kernel
theorem dX7_add_96 : decode cX7_add 96 = .ok (.iadd, 1) := by decide +kernel
theorem dX7_add_97 : decode cX7_add 97 = .ok (.putfield 36, 3) := by decide +kernel
theorem dX7_add_100 : decode cX7_add 100 = .ok (.return_, 1) := by decide +kernel
set_option maxRecDepth 10000 in
theorem v_X7_add_0 {C : aM → List Value → aH → aO → aH → Prop} {sc : Nat × (Nat → Int32)} {P : aO → aH → Prop} {σ : aH} {u : Nat} {v : Nat} {x1 : Int32} {x2 : Int32} {x3 : Int32} (hG : G σ u) (hv : IsMk v)
    (h : (((gI σ (v + 1) 8) < 9 → (vp_in (gI σ (v + 1) 8) 9 ∧ (∀ σ1 : aH, sI σ (v + 2) ((gI σ (v + 1) 8).toNatClampNeg) x1 = σ1 → (vp_in (gI σ1 (v + 1) 8) 9 ∧ (∀ σ4 : aH, sI σ1 (v + 3) ((gI σ1 (v + 1) 8).toNatClampNeg) x2 = σ4 → (vp_in (gI σ4 (v + 1) 8) 9 ∧ (∀ σ7 : aH, sI σ4 (v + 4) ((gI σ4 (v + 1) 8).toNatClampNeg) x3 = σ7 → (vp_in (gI σ7 (v + 1) 8) 9 ∧ (∀ σ10 : aH, sI σ7 (v + 5) ((gI σ7 (v + 1) 8).toNatClampNeg) 0 = σ10 → (vp_in (gI σ10 (v + 1) 8) 9 ∧ (∀ σ13 : aH, sI σ10 (v + 6) ((gI σ10 (v + 1) 8).toNatClampNeg) 0 = σ13 → (vp_in (gI σ13 (v + 1) 8) 9 ∧ (∀ σ16 : aH, sI σ13 (v + 7) ((gI σ13 (v + 1) 8).toNatClampNeg) 0 = σ16 → (vp_in (gI σ16 (v + 1) 8) 9 ∧ (∀ σ19 : aH, sI σ16 (v + 8) ((gI σ16 (v + 1) 8).toNatClampNeg) 0 = σ19 → (vp_in (gI σ19 (v + 1) 8) 9 ∧ (∀ σ22 : aH, sI σ19 (v + 9) ((gI σ19 (v + 1) 8).toNatClampNeg) (-1) = σ22 → (∀ σ25 : aH, sI σ22 (v + 1) 8 ((gI σ22 (v + 1) 8) + 1) = σ25 → P (.inl none) σ25)))))))))))))))))) ∧ (¬ ((gI σ (v + 1) 8) < 9) → P (.inl none) σ))) :
    wp C 7 cX7_add 4 none false [] sc P 0 [(0, .ref (v + 1)), (1, .int x1), (2, .int x2), (3, .int x3)] [] σ := by
  refine w_aload_n dX7_add_0 rfl (List.Mem.head _) ?_
  refine w_getI (ci := 7) (k := 8) dX7_add_1 fl_7_36 (by decide) (gT hG (IsMk_t1 hv) (IsMk_lt hv (k := 1) (by decide))) ?_
  refine w_bipush (v := 9) dX7_add_4 (by decide) ?_
  refine w_icmp_lt (tgt := 10) dX7_add_6 rfl (fun c9 => ?_) (fun c9 => ?_)
  · replace h := h.1 c9
    refine w_aload_n dX7_add_10 rfl (List.Mem.head _) ?_
    refine w_getR (ci := 7) (k := 0) (b := (v + 2)) dX7_add_11 fl_7_9 (by decide) (gT hG (IsMk_t1 hv) (IsMk_lt hv (k := 1) (by decide))) (gR hG (IsMk_r1_0 hv)) ?_
    refine w_aload_n dX7_add_14 rfl (List.Mem.head _) ?_
    refine w_getI (ci := 7) (k := 8) dX7_add_15 fl_7_36 (by decide) (gT hG (IsMk_t1 hv) (IsMk_lt hv (k := 1) (by decide))) ?_
    refine w_iload_n dX7_add_18 rfl (List.Mem.tail _ (List.Mem.head _)) ?_
    obtain ⟨h9, h⟩ := h
    refine y_iast (n := 9) ((gI σ (v + 1) 8).toNatClampNeg) dX7_add_19 (gT hG (IsMk_t2 hv) (IsMk_lt hv (k := 2) (by decide))) (gL hG (IsMk_n2 hv)) h9 rfl (fun σ1 eσ2 => ?_)
    replace h := h σ1 eσ2
    have hG3 : G σ1 u := eσ2 ▸ G.sI hG
    refine w_aload_n dX7_add_20 rfl (List.Mem.head _) ?_
    refine w_getR (ci := 7) (k := 1) (b := (v + 3)) dX7_add_21 fl_7_15 (by decide) (gT hG3 (IsMk_t1 hv) (IsMk_lt hv (k := 1) (by decide))) (gR hG3 (IsMk_r1_1 hv)) ?_
    refine w_aload_n dX7_add_24 rfl (List.Mem.head _) ?_
    refine w_getI (ci := 7) (k := 8) dX7_add_25 fl_7_36 (by decide) (gT hG3 (IsMk_t1 hv) (IsMk_lt hv (k := 1) (by decide))) ?_
    refine w_iload_n dX7_add_28 rfl (List.Mem.tail _ (List.Mem.tail _ (List.Mem.head _))) ?_
    obtain ⟨h9, h⟩ := h
    refine y_iast (n := 9) ((gI σ1 (v + 1) 8).toNatClampNeg) dX7_add_29 (gT hG3 (IsMk_t3 hv) (IsMk_lt hv (k := 3) (by decide))) (gL hG3 (IsMk_n3 hv)) h9 rfl (fun σ4 eσ5 => ?_)
    replace h := h σ4 eσ5
    have hG6 : G σ4 u := eσ5 ▸ G.sI hG3
    refine w_aload_n dX7_add_30 rfl (List.Mem.head _) ?_
    refine w_getR (ci := 7) (k := 2) (b := (v + 4)) dX7_add_31 fl_7_18 (by decide) (gT hG6 (IsMk_t1 hv) (IsMk_lt hv (k := 1) (by decide))) (gR hG6 (IsMk_r1_2 hv)) ?_
    refine w_aload_n dX7_add_34 rfl (List.Mem.head _) ?_
    refine w_getI (ci := 7) (k := 8) dX7_add_35 fl_7_36 (by decide) (gT hG6 (IsMk_t1 hv) (IsMk_lt hv (k := 1) (by decide))) ?_
    refine w_iload_n dX7_add_38 rfl (List.Mem.tail _ (List.Mem.tail _ (List.Mem.tail _ (List.Mem.head _)))) ?_
    obtain ⟨h9, h⟩ := h
    refine y_iast (n := 9) ((gI σ4 (v + 1) 8).toNatClampNeg) dX7_add_39 (gT hG6 (IsMk_t4 hv) (IsMk_lt hv (k := 4) (by decide))) (gL hG6 (IsMk_n4 hv)) h9 rfl (fun σ7 eσ8 => ?_)
    replace h := h σ7 eσ8
    have hG9 : G σ7 u := eσ8 ▸ G.sI hG6
    refine w_aload_n dX7_add_40 rfl (List.Mem.head _) ?_
    refine w_getR (ci := 7) (k := 3) (b := (v + 5)) dX7_add_41 fl_7_21 (by decide) (gT hG9 (IsMk_t1 hv) (IsMk_lt hv (k := 1) (by decide))) (gR hG9 (IsMk_r1_3 hv)) ?_
    refine w_aload_n dX7_add_44 rfl (List.Mem.head _) ?_
    refine w_getI (ci := 7) (k := 8) dX7_add_45 fl_7_36 (by decide) (gT hG9 (IsMk_t1 hv) (IsMk_lt hv (k := 1) (by decide))) ?_
    refine w_iconst (v := 0) dX7_add_48 (by decide) ?_
    obtain ⟨h9, h⟩ := h
    refine y_iast (n := 9) ((gI σ7 (v + 1) 8).toNatClampNeg) dX7_add_49 (gT hG9 (IsMk_t5 hv) (IsMk_lt hv (k := 5) (by decide))) (gL hG9 (IsMk_n5 hv)) h9 rfl (fun σ10 eσ11 => ?_)
    replace h := h σ10 eσ11
    have hG12 : G σ10 u := eσ11 ▸ G.sI hG9
    refine w_aload_n dX7_add_50 rfl (List.Mem.head _) ?_
    refine w_getR (ci := 7) (k := 4) (b := (v + 6)) dX7_add_51 fl_7_24 (by decide) (gT hG12 (IsMk_t1 hv) (IsMk_lt hv (k := 1) (by decide))) (gR hG12 (IsMk_r1_4 hv)) ?_
    refine w_aload_n dX7_add_54 rfl (List.Mem.head _) ?_
    refine w_getI (ci := 7) (k := 8) dX7_add_55 fl_7_36 (by decide) (gT hG12 (IsMk_t1 hv) (IsMk_lt hv (k := 1) (by decide))) ?_
    refine w_iconst (v := 0) dX7_add_58 (by decide) ?_
    obtain ⟨h9, h⟩ := h
    refine y_iast (n := 9) ((gI σ10 (v + 1) 8).toNatClampNeg) dX7_add_59 (gT hG12 (IsMk_t6 hv) (IsMk_lt hv (k := 6) (by decide))) (gL hG12 (IsMk_n6 hv)) h9 rfl (fun σ13 eσ14 => ?_)
    replace h := h σ13 eσ14
    have hG15 : G σ13 u := eσ14 ▸ G.sI hG12
    refine w_aload_n dX7_add_60 rfl (List.Mem.head _) ?_
    refine w_getR (ci := 7) (k := 5) (b := (v + 7)) dX7_add_61 fl_7_27 (by decide) (gT hG15 (IsMk_t1 hv) (IsMk_lt hv (k := 1) (by decide))) (gR hG15 (IsMk_r1_5 hv)) ?_
    refine w_aload_n dX7_add_64 rfl (List.Mem.head _) ?_
    refine w_getI (ci := 7) (k := 8) dX7_add_65 fl_7_36 (by decide) (gT hG15 (IsMk_t1 hv) (IsMk_lt hv (k := 1) (by decide))) ?_
    refine w_iconst (v := 0) dX7_add_68 (by decide) ?_
    obtain ⟨h9, h⟩ := h
    refine y_iast (n := 9) ((gI σ13 (v + 1) 8).toNatClampNeg) dX7_add_69 (gT hG15 (IsMk_t7 hv) (IsMk_lt hv (k := 7) (by decide))) (gL hG15 (IsMk_n7 hv)) h9 rfl (fun σ16 eσ17 => ?_)
    replace h := h σ16 eσ17
    have hG18 : G σ16 u := eσ17 ▸ G.sI hG15
    refine w_aload_n dX7_add_70 rfl (List.Mem.head _) ?_
    refine w_getR (ci := 7) (k := 6) (b := (v + 8)) dX7_add_71 fl_7_30 (by decide) (gT hG18 (IsMk_t1 hv) (IsMk_lt hv (k := 1) (by decide))) (gR hG18 (IsMk_r1_6 hv)) ?_
    refine w_aload_n dX7_add_74 rfl (List.Mem.head _) ?_
    refine w_getI (ci := 7) (k := 8) dX7_add_75 fl_7_36 (by decide) (gT hG18 (IsMk_t1 hv) (IsMk_lt hv (k := 1) (by decide))) ?_
    refine w_iconst (v := 0) dX7_add_78 (by decide) ?_
    obtain ⟨h9, h⟩ := h
    refine y_iast (n := 9) ((gI σ16 (v + 1) 8).toNatClampNeg) dX7_add_79 (gT hG18 (IsMk_t8 hv) (IsMk_lt hv (k := 8) (by decide))) (gL hG18 (IsMk_n8 hv)) h9 rfl (fun σ19 eσ20 => ?_)
    replace h := h σ19 eσ20
    have hG21 : G σ19 u := eσ20 ▸ G.sI hG18
    refine w_aload_n dX7_add_80 rfl (List.Mem.head _) ?_
    refine w_getR (ci := 7) (k := 7) (b := (v + 9)) dX7_add_81 fl_7_33 (by decide) (gT hG21 (IsMk_t1 hv) (IsMk_lt hv (k := 1) (by decide))) (gR hG21 (IsMk_r1_7 hv)) ?_
    refine w_aload_n dX7_add_84 rfl (List.Mem.head _) ?_
    refine w_getI (ci := 7) (k := 8) dX7_add_85 fl_7_36 (by decide) (gT hG21 (IsMk_t1 hv) (IsMk_lt hv (k := 1) (by decide))) ?_
    refine w_iconst (v := (-1)) dX7_add_88 (by decide) ?_
    obtain ⟨h9, h⟩ := h
    refine y_iast (n := 9) ((gI σ19 (v + 1) 8).toNatClampNeg) dX7_add_89 (gT hG21 (IsMk_t9 hv) (IsMk_lt hv (k := 9) (by decide))) (gL hG21 (IsMk_n9 hv)) h9 rfl (fun σ22 eσ23 => ?_)
    replace h := h σ22 eσ23
    have hG24 : G σ22 u := eσ23 ▸ G.sI hG21
    refine w_aload_n dX7_add_90 rfl (List.Mem.head _) ?_
    refine w_dup dX7_add_91 rfl ?_
    refine w_getI (ci := 7) (k := 8) dX7_add_92 fl_7_36 (by decide) (gT hG24 (IsMk_t1 hv) (IsMk_lt hv (k := 1) (by decide))) ?_
    refine w_iconst (v := 1) dX7_add_95 (by decide) ?_
    refine w_iadd dX7_add_96 ?_
    refine y_putI (ci := 7) (k := 8) dX7_add_97 fl_7_36 (by decide) (gT hG24 (IsMk_t1 hv) (IsMk_lt hv (k := 1) (by decide))) (fun σ25 eσ26 => ?_)
    replace h := h σ25 eσ26
    have hG27 : G σ25 u := eσ26 ▸ G.sI hG24
    exact w_vret dX7_add_100 rfl h
  · replace h := h.2 c9
    exact w_vret dX7_add_9 rfl h
theorem dX7_put_0 : decode cX7_put 0 = .ok (.aload_n 0, 1) := by decide +kernel
theorem dX7_put_1 : decode cX7_put 1 = .ok (.getfield 9, 3) := by decide +kernel
theorem dX7_put_4 : decode cX7_put 4 = .ok (.iload_n 1, 1) := by decide +kernel
theorem dX7_put_5 : decode cX7_put 5 = .ok (.iload_n 2, 1) := by decide +kernel
theorem dX7_put_6 : decode cX7_put 6 = .ok (.iastore, 1) := by decide +kernel
theorem dX7_put_7 : decode cX7_put 7 = .ok (.aload_n 0, 1) := by decide +kernel
theorem dX7_put_8 : decode cX7_put 8 = .ok (.getfield 15, 3) := by decide +kernel
theorem dX7_put_11 : decode cX7_put 11 = .ok (.iload_n 1, 1) := by decide +kernel
theorem dX7_put_12 : decode cX7_put 12 = .ok (.iload_n 3, 1) := by decide +kernel
theorem dX7_put_13 : decode cX7_put 13 = .ok (.iastore, 1) := by decide +kernel
theorem dX7_put_14 : decode cX7_put 14 = .ok (.return_, 1) := by decide +kernel
set_option maxRecDepth 10000 in
theorem v_X7_put_0 {C : aM → List Value → aH → aO → aH → Prop} {sc : Nat × (Nat → Int32)} {P : aO → aH → Prop} {σ : aH} {u : Nat} {v : Nat} {x1 : Int32} {x2 : Int32} {x3 : Int32} (hG : G σ u) (hv : IsMk v)
    (h : (vp_in x1 9 ∧ (∀ σ1 : aH, sI σ (v + 2) x1.toNatClampNeg x2 = σ1 → (vp_in x1 9 ∧ (∀ σ4 : aH, sI σ1 (v + 3) x1.toNatClampNeg x3 = σ4 → P (.inl none) σ4))))) :
    wp C 7 cX7_put 4 none false [] sc P 0 [(0, .ref (v + 1)), (1, .int x1), (2, .int x2), (3, .int x3)] [] σ := by
  refine w_aload_n dX7_put_0 rfl (List.Mem.head _) ?_
  refine w_getR (ci := 7) (k := 0) (b := (v + 2)) dX7_put_1 fl_7_9 (by decide) (gT hG (IsMk_t1 hv) (IsMk_lt hv (k := 1) (by decide))) (gR hG (IsMk_r1_0 hv)) ?_
  refine w_iload_n dX7_put_4 rfl (List.Mem.tail _ (List.Mem.head _)) ?_
  refine w_iload_n dX7_put_5 rfl (List.Mem.tail _ (List.Mem.tail _ (List.Mem.head _))) ?_
  obtain ⟨h9, h⟩ := h
  refine y_iast (n := 9) x1.toNatClampNeg dX7_put_6 (gT hG (IsMk_t2 hv) (IsMk_lt hv (k := 2) (by decide))) (gL hG (IsMk_n2 hv)) h9 rfl (fun σ1 eσ2 => ?_)
  replace h := h σ1 eσ2
  have hG3 : G σ1 u := eσ2 ▸ G.sI hG
  refine w_aload_n dX7_put_7 rfl (List.Mem.head _) ?_
  refine w_getR (ci := 7) (k := 1) (b := (v + 3)) dX7_put_8 fl_7_15 (by decide) (gT hG3 (IsMk_t1 hv) (IsMk_lt hv (k := 1) (by decide))) (gR hG3 (IsMk_r1_1 hv)) ?_
  refine w_iload_n dX7_put_11 rfl (List.Mem.tail _ (List.Mem.head _)) ?_
  refine w_iload_n dX7_put_12 rfl (List.Mem.tail _ (List.Mem.tail _ (List.Mem.tail _ (List.Mem.head _)))) ?_
  obtain ⟨h9, h⟩ := h
  refine y_iast (n := 9) x1.toNatClampNeg dX7_put_13 (gT hG3 (IsMk_t3 hv) (IsMk_lt hv (k := 3) (by decide))) (gL hG3 (IsMk_n3 hv)) h9 rfl (fun σ4 eσ5 => ?_)
  replace h := h σ4 eσ5
  have hG6 : G σ4 u := eσ5 ▸ G.sI hG3
  exact w_vret dX7_put_14 rfl h
theorem dX7_whoIsAt_0 : decode cX7_whoIsAt 0 = .ok (.iconst 0, 1) := by decide +kernel
theorem dX7_whoIsAt_1 : decode cX7_whoIsAt 1 = .ok (.istore_n 3, 1) := by decide +kernel
theorem dX7_whoIsAt_2 : decode cX7_whoIsAt 2 = .ok (.iload_n 3, 1) := by decide +kernel
theorem dX7_whoIsAt_3 : decode cX7_whoIsAt 3 = .ok (.aload_n 0, 1) := by decide +kernel
theorem dX7_whoIsAt_4 : decode cX7_whoIsAt 4 = .ok (.getfield 36, 3) := by decide +kernel
theorem dX7_whoIsAt_7 : decode cX7_whoIsAt 7 = .ok (.if_icmp .ge 31, 3) := by decide +kernel
theorem dX7_whoIsAt_10 : decode cX7_whoIsAt 10 = .ok (.aload_n 0, 1) := by decide +kernel
theorem dX7_whoIsAt_11 : decode cX7_whoIsAt 11 = .ok (.getfield 9, 3) := by decide +kernel
theorem dX7_whoIsAt_14 : decode cX7_whoIsAt 14 = .ok (.iload_n 3, 1) := by decide +kernel
theorem dX7_whoIsAt_15 : decode cX7_whoIsAt 15 = .ok (.iaload, 1) := by decide +kernel
theorem dX7_whoIsAt_16 : decode cX7_whoIsAt 16 = .ok (.iload_n 1, 1) := by decide +kernel
theorem dX7_whoIsAt_17 : decode cX7_whoIsAt 17 = .ok (.if_icmp .ne 15, 3) := by decide +kernel
theorem dX7_whoIsAt_20 : decode cX7_whoIsAt 20 = .ok (.aload_n 0, 1) := by decide +kernel
theorem dX7_whoIsAt_21 : decode cX7_whoIsAt 21 = .ok (.getfield 15, 3) := by decide +kernel
theorem dX7_whoIsAt_24 : decode cX7_whoIsAt 24 = .ok (.iload_n 3, 1) := by decide +kernel
theorem dX7_whoIsAt_25 : decode cX7_whoIsAt 25 = .ok (.iaload, 1) := by decide +kernel
theorem dX7_whoIsAt_26 : decode cX7_whoIsAt 26 = .ok (.iload_n 2, 1) := by decide +kernel
theorem dX7_whoIsAt_27 : decode cX7_whoIsAt 27 = .ok (.if_icmp .ne 5, 3) := by decide +kernel
theorem dX7_whoIsAt_30 : decode cX7_whoIsAt 30 = .ok (.iload_n 3, 1) := by decide +kernel
theorem dX7_whoIsAt_31 : decode cX7_whoIsAt 31 = .ok (.ireturn, 1) := by decide +kernel
theorem dX7_whoIsAt_32 : decode cX7_whoIsAt 32 = .ok (.iinc 3 1, 3) := by decide +kernel
theorem dX7_whoIsAt_35 : decode cX7_whoIsAt 35 = .ok (.goto (-33), 3) := by decide +kernel
theorem dX7_whoIsAt_38 : decode cX7_whoIsAt 38 = .ok (.iconst (-1), 1) := by decide +kernel
theorem dX7_whoIsAt_39 : decode cX7_whoIsAt 39 = .ok (.ireturn, 1) := by decide +kernel
set_option maxRecDepth 10000 in
theorem v_X7_whoIsAt_0 {C : aM → List Value → aH → aO → aH → Prop} {sc : Nat × (Nat → Int32)} {P : aO → aH → Prop} {σ : aH} {u : Nat} {v : Nat} {x1 : Int32} {x2 : Int32} (hG : G σ u) (hv : IsMk v)
    (h : wp C 7 cX7_whoIsAt 4 (some .int) false [] sc P 2 [(0, .ref (v + 1)), (1, .int x1), (2, .int x2), (3, .int 0)] [] σ) :
    wp C 7 cX7_whoIsAt 4 (some .int) false [] sc P 0 [(0, .ref (v + 1)), (1, .int x1), (2, .int x2)] [] σ := by
  refine w_iconst (v := 0) dX7_whoIsAt_0 (by decide) ?_
  refine w_istore_n (l' := [(3, .int 0), (0, .ref (v + 1)), (1, .int x1), (2, .int x2)]) dX7_whoIsAt_1 rfl (by decide) rfl ?_
  exact w_weak (l' := [(0, .ref (v + 1)), (1, .int x1), (2, .int x2), (3, .int 0)]) (by intro q hq; simp only [List.mem_cons, List.not_mem_nil, or_false] at hq ⊢; rcases hq with rfl | rfl | rfl | rfl <;> simp) h
set_option maxRecDepth 10000 in
theorem v_X7_whoIsAt_2 {C : aM → List Value → aH → aO → aH → Prop} {sc : Nat × (Nat → Int32)} {P : aO → aH → Prop} {σ : aH} {u : Nat} {v : Nat} {x1 : Int32} {x2 : Int32} {x3 : Int32} (hG : G σ u) (hv : IsMk v)
    (h : (((gI σ (v + 1) 8) ≤ x3 → P (.inl (some (.int (-1)))) σ) ∧ (¬ ((gI σ (v + 1) 8) ≤ x3) → (vp_in x3 9 ∧ ((¬ (gI σ (v + 2) x3.toNatClampNeg) = x1 → wp C 7 cX7_whoIsAt 4 (some .int) false [] sc P 2 [(0, .ref (v + 1)), (1, .int x1), (2, .int x2), (3, .int (x3 + 1))] [] σ) ∧ ((gI σ (v + 2) x3.toNatClampNeg) = x1 → (vp_in x3 9 ∧ ((¬ (gI σ (v + 3) x3.toNatClampNeg) = x2 → wp C 7 cX7_whoIsAt 4 (some .int) false [] sc P 2 [(0, .ref (v + 1)), (1, .int x1), (2, .int x2), (3, .int (x3 + 1))] [] σ) ∧ ((gI σ (v + 3) x3.toNatClampNeg) = x2 → P (.inl (some (.int x3))) σ))))))))) :
    wp C 7 cX7_whoIsAt 4 (some .int) false [] sc P 2 [(0, .ref (v + 1)), (1, .int x1), (2, .int x2), (3, .int x3)] [] σ := by
  refine w_iload_n dX7_whoIsAt_2 rfl (List.Mem.tail _ (List.Mem.tail _ (List.Mem.tail _ (List.Mem.head _)))) ?_
  refine w_aload_n dX7_whoIsAt_3 rfl (List.Mem.head _) ?_
  refine w_getI (ci := 7) (k := 8) dX7_whoIsAt_4 fl_7_36 (by decide) (gT hG (IsMk_t1 hv) (IsMk_lt hv (k := 1) (by decide))) ?_
  refine w_icmp_ge (tgt := 38) dX7_whoIsAt_7 rfl (fun c9 => ?_) (fun c9 => ?_)
  · replace h := h.1 c9
    refine w_iconst (v := (-1)) dX7_whoIsAt_38 (by decide) ?_
    exact w_iret dX7_whoIsAt_39 rfl h
  · replace h := h.2 c9
    refine w_aload_n dX7_whoIsAt_10 rfl (List.Mem.head _) ?_
    refine w_getR (ci := 7) (k := 0) (b := (v + 2)) dX7_whoIsAt_11 fl_7_9 (by decide) (gT hG (IsMk_t1 hv) (IsMk_lt hv (k := 1) (by decide))) (gR hG (IsMk_r1_0 hv)) ?_
    refine w_iload_n dX7_whoIsAt_14 rfl (List.Mem.tail _ (List.Mem.tail _ (List.Mem.tail _ (List.Mem.head _)))) ?_
    obtain ⟨h9, h⟩ := h
    refine x_iald (n := 9) x3.toNatClampNeg dX7_whoIsAt_15 (gT hG (IsMk_t2 hv) (IsMk_lt hv (k := 2) (by decide))) (gL hG (IsMk_n2 hv)) h9 rfl ?_
    refine w_iload_n dX7_whoIsAt_16 rfl (List.Mem.tail _ (List.Mem.head _)) ?_
    refine w_icmp_ne (tgt := 32) dX7_whoIsAt_17 rfl (fun c9 => ?_) (fun c9 => ?_)
    · replace h := h.1 c9
      refine w_iinc (v := x3 + 1) (l' := [(3, .int (x3 + 1)), (0, .ref (v + 1)), (1, .int x1), (2, .int x2)]) dX7_whoIsAt_32 (List.Mem.tail _ (List.Mem.tail _ (List.Mem.tail _ (List.Mem.head _)))) rfl (by decide) rfl ?_
      refine w_goto (tgt := 2) dX7_whoIsAt_35 rfl ?_
      exact w_weak (l' := [(0, .ref (v + 1)), (1, .int x1), (2, .int x2), (3, .int (x3 + 1))]) (by intro q hq; simp only [List.mem_cons, List.not_mem_nil, or_false] at hq ⊢; rcases hq with rfl | rfl | rfl | rfl <;> simp) h
    · replace h := h.2 c9
      refine w_aload_n dX7_whoIsAt_20 rfl (List.Mem.head _) ?_
      refine w_getR (ci := 7) (k := 1) (b := (v + 3)) dX7_whoIsAt_21 fl_7_15 (by decide) (gT hG (IsMk_t1 hv) (IsMk_lt hv (k := 1) (by decide))) (gR hG (IsMk_r1_1 hv)) ?_
      refine w_iload_n dX7_whoIsAt_24 rfl (List.Mem.tail _ (List.Mem.tail _ (List.Mem.tail _ (List.Mem.head _)))) ?_
      obtain ⟨h9, h⟩ := h
      refine x_iald (n := 9) x3.toNatClampNeg dX7_whoIsAt_25 (gT hG (IsMk_t3 hv) (IsMk_lt hv (k := 3) (by decide))) (gL hG (IsMk_n3 hv)) h9 rfl ?_
      refine w_iload_n dX7_whoIsAt_26 rfl (List.Mem.tail _ (List.Mem.tail _ (List.Mem.head _))) ?_
      refine w_icmp_ne (tgt := 32) dX7_whoIsAt_27 rfl (fun c9 => ?_) (fun c9 => ?_)
      · replace h := h.1 c9
        refine w_iinc (v := x3 + 1) (l' := [(3, .int (x3 + 1)), (0, .ref (v + 1)), (1, .int x1), (2, .int x2)]) dX7_whoIsAt_32 (List.Mem.tail _ (List.Mem.tail _ (List.Mem.tail _ (List.Mem.head _)))) rfl (by decide) rfl ?_
        refine w_goto (tgt := 2) dX7_whoIsAt_35 rfl ?_
        exact w_weak (l' := [(0, .ref (v + 1)), (1, .int x1), (2, .int x2), (3, .int (x3 + 1))]) (by intro q hq; simp only [List.mem_cons, List.not_mem_nil, or_false] at hq ⊢; rcases hq with rfl | rfl | rfl | rfl <;> simp) h
      · replace h := h.2 c9
        refine w_iload_n dX7_whoIsAt_30 rfl (List.Mem.tail _ (List.Mem.tail _ (List.Mem.tail _ (List.Mem.head _)))) ?_
        exact w_iret dX7_whoIsAt_31 rfl h
theorem dX7_swapCells_0 : decode cX7_swapCells 0 = .ok (.aload_n 0, 1) := by decide +kernel
theorem dX7_swapCells_1 : decode cX7_swapCells 1 = .ok (.getfield 9, 3) := by decide +kernel
theorem dX7_swapCells_4 : decode cX7_swapCells 4 = .ok (.iload_n 1, 1) := by decide +kernel
theorem dX7_swapCells_5 : decode cX7_swapCells 5 = .ok (.iaload, 1) := by decide +kernel
theorem dX7_swapCells_6 : decode cX7_swapCells 6 = .ok (.istore_n 3, 1) := by decide +kernel
theorem dX7_swapCells_7 : decode cX7_swapCells 7 = .ok (.aload_n 0, 1) := by decide +kernel
theorem dX7_swapCells_8 : decode cX7_swapCells 8 = .ok (.getfield 15, 3) := by decide +kernel
theorem dX7_swapCells_11 : decode cX7_swapCells 11 = .ok (.iload_n 1, 1) := by decide +kernel
theorem dX7_swapCells_12 : decode cX7_swapCells 12 = .ok (.iaload, 1) := by decide +kernel
theorem dX7_swapCells_13 : decode cX7_swapCells 13 = .ok (.istore 4, 2) := by decide +kernel
theorem dX7_swapCells_15 : decode cX7_swapCells 15 = .ok (.aload_n 0, 1) := by decide +kernel
theorem dX7_swapCells_16 : decode cX7_swapCells 16 = .ok (.iload_n 1, 1) := by decide +kernel
theorem dX7_swapCells_17 : decode cX7_swapCells 17 = .ok (.aload_n 0, 1) := by decide +kernel
theorem dX7_swapCells_18 : decode cX7_swapCells 18 = .ok (.getfield 9, 3) := by decide +kernel
theorem dX7_swapCells_21 : decode cX7_swapCells 21 = .ok (.iload_n 2, 1) := by decide +kernel
theorem dX7_swapCells_22 : decode cX7_swapCells 22 = .ok (.iaload, 1) := by decide +kernel
theorem dX7_swapCells_23 : decode cX7_swapCells 23 = .ok (.aload_n 0, 1) := by decide +kernel
theorem dX7_swapCells_24 : decode cX7_swapCells 24 = .ok (.getfield 15, 3) := by decide +kernel
theorem dX7_swapCells_27 : decode cX7_swapCells 27 = .ok (.iload_n 2, 1) := by decide +kernel
theorem dX7_swapCells_28 : decode cX7_swapCells 28 = .ok (.iaload, 1) := by decide +kernel
theorem dX7_swapCells_29 : decode cX7_swapCells 29 = .ok (.invokevirtual 43, 3) := by decide +kernel
theorem dX7_swapCells_32 : decode cX7_swapCells 32 = .ok (.aload_n 0, 1) := by decide +kernel
theorem dX7_swapCells_33 : decode cX7_swapCells 33 = .ok (.iload_n 2, 1) := by decide +kernel
theorem dX7_swapCells_34 : decode cX7_swapCells 34 = .ok (.iload_n 3, 1) := by decide +kernel
theorem dX7_swapCells_35 : decode cX7_swapCells 35 = .ok (.iload 4, 2) := by decide +kernel
theorem dX7_swapCells_37 : decode cX7_swapCells 37 = .ok (.invokevirtual 43, 3) := by decide +kernel
theorem dX7_swapCells_40 : decode cX7_swapCells 40 = .ok (.return_, 1) := by decide +kernel
set_option maxRecDepth 10000 in
theorem v_X7_swapCells_0 {C : aM → List Value → aH → aO → aH → Prop} {sc : Nat × (Nat → Int32)} {P : aO → aH → Prop} {σ : aH} {u : Nat} {v : Nat} {x1 : Int32} {x2 : Int32} (hG : G σ u) (hv : IsMk v)
    (h : (vp_in x1 9 ∧ (∀ z1 : Int32, z1 = (gI σ (v + 2) x1.toNatClampNeg) → (vp_in x1 9 ∧ (∀ z3 : Int32, z3 = (gI σ (v + 3) x1.toNatClampNeg) → (vp_in x2 9 ∧ (vp_in x2 9 ∧ (∃ σ5 : aH, C mX7_put [.ref (v + 1), .int x1, .int (gI σ (v + 2) x2.toNatClampNeg), .int (gI σ (v + 3) x2.toNatClampNeg)] σ (.inl none) σ5 ∧ G σ5 u ∧ (∃ σ8 : aH, C mX7_put [.ref (v + 1), .int x2, .int z1, .int z3] σ5 (.inl none) σ8 ∧ G σ8 u ∧ P (.inl none) σ8))))))))) :
    wp C 7 cX7_swapCells 5 none false [] sc P 0 [(0, .ref (v + 1)), (1, .int x1), (2, .int x2)] [] σ := by
  refine w_aload_n dX7_swapCells_0 rfl (List.Mem.head _) ?_
  refine w_getR (ci := 7) (k := 0) (b := (v + 2)) dX7_swapCells_1 fl_7_9 (by decide) (gT hG (IsMk_t1 hv) (IsMk_lt hv (k := 1) (by decide))) (gR hG (IsMk_r1_0 hv)) ?_
  refine w_iload_n dX7_swapCells_4 rfl (List.Mem.tail _ (List.Mem.head _)) ?_
  obtain ⟨h9, h⟩ := h
  refine x_iald (n := 9) x1.toNatClampNeg dX7_swapCells_5 (gT hG (IsMk_t2 hv) (IsMk_lt hv (k := 2) (by decide))) (gL hG (IsMk_n2 hv)) h9 rfl ?_
  refine top_i (fun z1 ez2 => ?_)
  replace h := h z1 ez2
  refine w_istore_n (l' := [(3, .int z1), (0, .ref (v + 1)), (1, .int x1), (2, .int x2)]) dX7_swapCells_6 rfl (by decide) rfl ?_
  refine w_aload_n dX7_swapCells_7 rfl (List.Mem.tail _ (List.Mem.head _)) ?_
  refine w_getR (ci := 7) (k := 1) (b := (v + 3)) dX7_swapCells_8 fl_7_15 (by decide) (gT hG (IsMk_t1 hv) (IsMk_lt hv (k := 1) (by decide))) (gR hG (IsMk_r1_1 hv)) ?_
  refine w_iload_n dX7_swapCells_11 rfl (List.Mem.tail _ (List.Mem.tail _ (List.Mem.head _))) ?_
  obtain ⟨h9, h⟩ := h
  refine x_iald (n := 9) x1.toNatClampNeg dX7_swapCells_12 (gT hG (IsMk_t3 hv) (IsMk_lt hv (k := 3) (by decide))) (gL hG (IsMk_n3 hv)) h9 rfl ?_
  refine top_i (fun z3 ez4 => ?_)
  replace h := h z3 ez4
  refine w_istore (l' := [(4, .int z3), (3, .int z1), (0, .ref (v + 1)), (1, .int x1), (2, .int x2)]) dX7_swapCells_13 (by decide) rfl ?_
  refine w_aload_n dX7_swapCells_15 rfl (List.Mem.tail _ (List.Mem.tail _ (List.Mem.head _))) ?_
  refine w_iload_n dX7_swapCells_16 rfl (List.Mem.tail _ (List.Mem.tail _ (List.Mem.tail _ (List.Mem.head _)))) ?_
  refine w_aload_n dX7_swapCells_17 rfl (List.Mem.tail _ (List.Mem.tail _ (List.Mem.head _))) ?_
  refine w_getR (ci := 7) (k := 0) (b := (v + 2)) dX7_swapCells_18 fl_7_9 (by decide) (gT hG (IsMk_t1 hv) (IsMk_lt hv (k := 1) (by decide))) (gR hG (IsMk_r1_0 hv)) ?_
  refine w_iload_n dX7_swapCells_21 rfl (List.Mem.tail _ (List.Mem.tail _ (List.Mem.tail _ (List.Mem.tail _ (List.Mem.head _))))) ?_
  obtain ⟨h9, h⟩ := h
  refine x_iald (n := 9) x2.toNatClampNeg dX7_swapCells_22 (gT hG (IsMk_t2 hv) (IsMk_lt hv (k := 2) (by decide))) (gL hG (IsMk_n2 hv)) h9 rfl ?_
  refine w_aload_n dX7_swapCells_23 rfl (List.Mem.tail _ (List.Mem.tail _ (List.Mem.head _))) ?_
  refine w_getR (ci := 7) (k := 1) (b := (v + 3)) dX7_swapCells_24 fl_7_15 (by decide) (gT hG (IsMk_t1 hv) (IsMk_lt hv (k := 1) (by decide))) (gR hG (IsMk_r1_1 hv)) ?_
  refine w_iload_n dX7_swapCells_27 rfl (List.Mem.tail _ (List.Mem.tail _ (List.Mem.tail _ (List.Mem.tail _ (List.Mem.head _))))) ?_
  obtain ⟨h9, h⟩ := h
  refine x_iald (n := 9) x2.toNatClampNeg dX7_swapCells_28 (gT hG (IsMk_t3 hv) (IsMk_lt hv (k := 3) (by decide))) (gL hG (IsMk_n3 hv)) h9 rfl ?_
  obtain ⟨σ5, hc7, hG6, h⟩ := h
  refine w_callV dX7_swapCells_29 ml_7_43 ⟨ok_X7_put, vi_X7_put⟩ hs_X7_put (As := [.int x1, .int (gI σ (v + 2) x2.toNatClampNeg), .int (gI σ (v + 3) x2.toNatClampNeg)]) rfl rfl (gT hG (IsMk_t1 hv) (IsMk_lt hv (k := 1) (by decide))) (Nat.le_of_ble_eq_true rfl) hc7 ?_
  show wp C 7 cX7_swapCells 5 none false [] sc P 32 [(4, .int z3), (3, .int z1), (0, .ref (v + 1)), (1, .int x1), (2, .int x2)] [] σ5
  refine w_aload_n dX7_swapCells_32 rfl (List.Mem.tail _ (List.Mem.tail _ (List.Mem.head _))) ?_
  refine w_iload_n dX7_swapCells_33 rfl (List.Mem.tail _ (List.Mem.tail _ (List.Mem.tail _ (List.Mem.tail _ (List.Mem.head _))))) ?_
  refine w_iload_n dX7_swapCells_34 rfl (List.Mem.tail _ (List.Mem.head _)) ?_
  refine w_iload dX7_swapCells_35 (List.Mem.head _) ?_
  obtain ⟨σ8, hc10, hG9, h⟩ := h
  refine w_callV dX7_swapCells_37 ml_7_43 ⟨ok_X7_put, vi_X7_put⟩ hs_X7_put (As := [.int x2, .int z1, .int z3]) rfl rfl (gT hG6 (IsMk_t1 hv) (IsMk_lt hv (k := 1) (by decide))) (Nat.le_of_ble_eq_true rfl) hc10 ?_
  show wp C 7 cX7_swapCells 5 none false [] sc P 40 [(4, .int z3), (3, .int z1), (0, .ref (v + 1)), (1, .int x1), (2, .int x2)] [] σ8
  exact w_vret dX7_swapCells_40 rfl h
theorem dX7_grow_0 : decode cX7_grow 0 = .ok (.iconst 0, 1) := by decide +kernel
theorem dX7_grow_1 : decode cX7_grow 1 = .ok (.istore_n 1, 1) := by decide +kernel
theorem dX7_grow_2 : decode cX7_grow 2 = .ok (.iload_n 1, 1) := by decide +kernel
theorem dX7_grow_3 : decode cX7_grow 3 = .ok (.aload_n 0, 1) := by decide +kernel
theorem dX7_grow_4 : decode cX7_grow 4 = .ok (.getfield 36, 3) := by decide +kernel
theorem dX7_grow_7 : decode cX7_grow 7 = .ok (.if_icmp .ge 52, 3) := by decide +kernel
theorem dX7_grow_10 : decode cX7_grow 10 = .ok (.aload_n 0, 1) := by decide +kernel
theorem dX7_grow_11 : decode cX7_grow 11 = .ok (.getfield 18, 3) := by decide +kernel
theorem dX7_grow_14 : decode cX7_grow 14 = .ok (.iload_n 1, 1) := by decide +kernel
theorem dX7_grow_15 : decode cX7_grow 15 = .ok (.iaload, 1) := by decide +kernel
theorem dX7_grow_16 : decode cX7_grow 16 = .ok (.aload_n 0, 1) := by decide +kernel
theorem dX7_grow_17 : decode cX7_grow 17 = .ok (.getfield 27, 3) := by decide +kernel
theorem dX7_grow_20 : decode cX7_grow 20 = .ok (.iload_n 1, 1) := by decide +kernel
theorem dX7_grow_21 : decode cX7_grow 21 = .ok (.iaload, 1) := by decide +kernel
theorem dX7_grow_22 : decode cX7_grow 22 = .ok (.if_icmp .ge 31, 3) := by decide +kernel
theorem dX7_grow_25 : decode cX7_grow 25 = .ok (.aload_n 0, 1) := by decide +kernel
theorem dX7_grow_26 : decode cX7_grow 26 = .ok (.getfield 18, 3) := by decide +kernel
theorem dX7_grow_29 : decode cX7_grow 29 = .ok (.iload_n 1, 1) := by decide +kernel
theorem dX7_grow_30 : decode cX7_grow 30 = .ok (.aload_n 0, 1) := by decide +kernel
theorem dX7_grow_31 : decode cX7_grow 31 = .ok (.getfield 27, 3) := by decide +kernel
theorem dX7_grow_34 : decode cX7_grow 34 = .ok (.iload_n 1, 1) := by decide +kernel
theorem dX7_grow_35 : decode cX7_grow 35 = .ok (.iaload, 1) := by decide +kernel
theorem dX7_grow_36 : decode cX7_grow 36 = .ok (.aload_n 0, 1) := by decide +kernel
theorem dX7_grow_37 : decode cX7_grow 37 = .ok (.getfield 18, 3) := by decide +kernel
theorem dX7_grow_40 : decode cX7_grow 40 = .ok (.iload_n 1, 1) := by decide +kernel
theorem dX7_grow_41 : decode cX7_grow 41 = .ok (.iaload, 1) := by decide +kernel
theorem dX7_grow_42 : decode cX7_grow 42 = .ok (.aload_n 0, 1) := by decide +kernel
theorem dX7_grow_43 : decode cX7_grow 43 = .ok (.getfield 24, 3) := by decide +kernel
theorem dX7_grow_46 : decode cX7_grow 46 = .ok (.iload_n 1, 1) := by decide +kernel
theorem dX7_grow_47 : decode cX7_grow 47 = .ok (.iaload, 1) := by decide +kernel
theorem dX7_grow_48 : decode cX7_grow 48 = .ok (.iadd, 1) := by decide +kernel
theorem dX7_grow_49 : decode cX7_grow 49 = .ok (.invokestatic 47, 3) := by decide +kernel
theorem dX7_grow_52 : decode cX7_grow 52 = .ok (.iastore, 1) := by decide +kernel
theorem dX7_grow_53 : decode cX7_grow 53 = .ok (.iinc 1 1, 3) := by decide +kernel
theorem dX7_grow_56 : decode cX7_grow 56 = .ok (.goto (-54), 3) := by decide +kernel
theorem dX7_grow_59 : decode cX7_grow 59 = .ok (.return_, 1) := by decide +kernel
set_option maxRecDepth 10000 in
theorem v_X7_grow_0 {C : aM → List Value → aH → aO → aH → Prop} {sc : Nat × (Nat → Int32)} {P : aO → aH → Prop} {σ : aH} {u : Nat} {v : Nat}  (hG : G σ u) (hv : IsMk v)
    (h : wp C 7 cX7_grow 2 none false [] sc P 2 [(0, .ref (v + 1)), (1, .int 0)] [] σ) :
    wp C 7 cX7_grow 2 none false [] sc P 0 [(0, .ref (v + 1))] [] σ := by
  refine w_iconst (v := 0) dX7_grow_0 (by decide) ?_
  refine w_istore_n (l' := [(1, .int 0), (0, .ref (v + 1))]) dX7_grow_1 rfl (by decide) rfl ?_
  exact w_weak (l' := [(0, .ref (v + 1)), (1, .int 0)]) (by intro q hq; simp only [List.mem_cons, List.not_mem_nil, or_false] at hq ⊢; rcases hq with rfl | rfl <;> simp) h
set_option maxRecDepth 10000 in
theorem v_X7_grow_2 {C : aM → List Value → aH → aO → aH → Prop} {sc : Nat × (Nat → Int32)} {P : aO → aH → Prop} {σ : aH} {u : Nat} {v : Nat} {x1 : Int32} (hG : G σ u) (hv : IsMk v)
    (h : (((gI σ (v + 1) 8) ≤ x1 → P (.inl none) σ) ∧ (¬ ((gI σ (v + 1) 8) ≤ x1) → (vp_in x1 9 ∧ (vp_in x1 9 ∧ (((gI σ (v + 7) x1.toNatClampNeg) ≤ (gI σ (v + 4) x1.toNatClampNeg) → wp C 7 cX7_grow 2 none false [] sc P 2 [(0, .ref (v + 1)), (1, .int (x1 + 1))] [] σ) ∧ (¬ ((gI σ (v + 7) x1.toNatClampNeg) ≤ (gI σ (v + 4) x1.toNatClampNeg)) → (vp_in x1 9 ∧ (vp_in x1 9 ∧ (vp_in x1 9 ∧ (∀ z1 : Int32, z1 = (if ((gI σ (v + 4) x1.toNatClampNeg) + (gI σ (v + 6) x1.toNatClampNeg)) < (gI σ (v + 7) x1.toNatClampNeg) then ((gI σ (v + 4) x1.toNatClampNeg) + (gI σ (v + 6) x1.toNatClampNeg)) else (gI σ (v + 7) x1.toNatClampNeg)) → (vp_in x1 9 ∧ (∀ σ3 : aH, sI σ (v + 4) x1.toNatClampNeg z1 = σ3 → wp C 7 cX7_grow 2 none false [] sc P 2 [(0, .ref (v + 1)), (1, .int (x1 + 1))] [] σ3))))))))))))) :
    wp C 7 cX7_grow 2 none false [] sc P 2 [(0, .ref (v + 1)), (1, .int x1)] [] σ := by
  refine w_iload_n dX7_grow_2 rfl (List.Mem.tail _ (List.Mem.head _)) ?_
  refine w_aload_n dX7_grow_3 rfl (List.Mem.head _) ?_
  refine w_getI (ci := 7) (k := 8) dX7_grow_4 fl_7_36 (by decide) (gT hG (IsMk_t1 hv) (IsMk_lt hv (k := 1) (by decide))) ?_
  refine w_icmp_ge (tgt := 59) dX7_grow_7 rfl (fun c9 => ?_) (fun c9 => ?_)
  · replace h := h.1 c9
    exact w_vret dX7_grow_59 rfl h
  · replace h := h.2 c9
    refine w_aload_n dX7_grow_10 rfl (List.Mem.head _) ?_
    refine w_getR (ci := 7) (k := 2) (b := (v + 4)) dX7_grow_11 fl_7_18 (by decide) (gT hG (IsMk_t1 hv) (IsMk_lt hv (k := 1) (by decide))) (gR hG (IsMk_r1_2 hv)) ?_
    refine w_iload_n dX7_grow_14 rfl (List.Mem.tail _ (List.Mem.head _)) ?_
    obtain ⟨h9, h⟩ := h
    refine x_iald (n := 9) x1.toNatClampNeg dX7_grow_15 (gT hG (IsMk_t4 hv) (IsMk_lt hv (k := 4) (by decide))) (gL hG (IsMk_n4 hv)) h9 rfl ?_
    refine w_aload_n dX7_grow_16 rfl (List.Mem.head _) ?_
    refine w_getR (ci := 7) (k := 5) (b := (v + 7)) dX7_grow_17 fl_7_27 (by decide) (gT hG (IsMk_t1 hv) (IsMk_lt hv (k := 1) (by decide))) (gR hG (IsMk_r1_5 hv)) ?_
    refine w_iload_n dX7_grow_20 rfl (List.Mem.tail _ (List.Mem.head _)) ?_
    obtain ⟨h9, h⟩ := h
    refine x_iald (n := 9) x1.toNatClampNeg dX7_grow_21 (gT hG (IsMk_t7 hv) (IsMk_lt hv (k := 7) (by decide))) (gL hG (IsMk_n7 hv)) h9 rfl ?_
    refine w_icmp_ge (tgt := 53) dX7_grow_22 rfl (fun c9 => ?_) (fun c9 => ?_)
    · replace h := h.1 c9
      refine w_iinc (v := x1 + 1) (l' := [(1, .int (x1 + 1)), (0, .ref (v + 1))]) dX7_grow_53 (List.Mem.tail _ (List.Mem.head _)) rfl (by decide) rfl ?_
      refine w_goto (tgt := 2) dX7_grow_56 rfl ?_
      exact w_weak (l' := [(0, .ref (v + 1)), (1, .int (x1 + 1))]) (by intro q hq; simp only [List.mem_cons, List.not_mem_nil, or_false] at hq ⊢; rcases hq with rfl | rfl <;> simp) h
    · replace h := h.2 c9
      refine w_aload_n dX7_grow_25 rfl (List.Mem.head _) ?_
      refine w_getR (ci := 7) (k := 2) (b := (v + 4)) dX7_grow_26 fl_7_18 (by decide) (gT hG (IsMk_t1 hv) (IsMk_lt hv (k := 1) (by decide))) (gR hG (IsMk_r1_2 hv)) ?_
      refine w_iload_n dX7_grow_29 rfl (List.Mem.tail _ (List.Mem.head _)) ?_
      refine w_aload_n dX7_grow_30 rfl (List.Mem.head _) ?_
      refine w_getR (ci := 7) (k := 5) (b := (v + 7)) dX7_grow_31 fl_7_27 (by decide) (gT hG (IsMk_t1 hv) (IsMk_lt hv (k := 1) (by decide))) (gR hG (IsMk_r1_5 hv)) ?_
      refine w_iload_n dX7_grow_34 rfl (List.Mem.tail _ (List.Mem.head _)) ?_
      obtain ⟨h9, h⟩ := h
      refine x_iald (n := 9) x1.toNatClampNeg dX7_grow_35 (gT hG (IsMk_t7 hv) (IsMk_lt hv (k := 7) (by decide))) (gL hG (IsMk_n7 hv)) h9 rfl ?_
      refine w_aload_n dX7_grow_36 rfl (List.Mem.head _) ?_
      refine w_getR (ci := 7) (k := 2) (b := (v + 4)) dX7_grow_37 fl_7_18 (by decide) (gT hG (IsMk_t1 hv) (IsMk_lt hv (k := 1) (by decide))) (gR hG (IsMk_r1_2 hv)) ?_
      refine w_iload_n dX7_grow_40 rfl (List.Mem.tail _ (List.Mem.head _)) ?_
      obtain ⟨h9, h⟩ := h
      refine x_iald (n := 9) x1.toNatClampNeg dX7_grow_41 (gT hG (IsMk_t4 hv) (IsMk_lt hv (k := 4) (by decide))) (gL hG (IsMk_n4 hv)) h9 rfl ?_
      refine w_aload_n dX7_grow_42 rfl (List.Mem.head _) ?_
      refine w_getR (ci := 7) (k := 4) (b := (v + 6)) dX7_grow_43 fl_7_24 (by decide) (gT hG (IsMk_t1 hv) (IsMk_lt hv (k := 1) (by decide))) (gR hG (IsMk_r1_4 hv)) ?_
      refine w_iload_n dX7_grow_46 rfl (List.Mem.tail _ (List.Mem.head _)) ?_
      obtain ⟨h9, h⟩ := h
      refine x_iald (n := 9) x1.toNatClampNeg dX7_grow_47 (gT hG (IsMk_t6 hv) (IsMk_lt hv (k := 6) (by decide))) (gL hG (IsMk_n6 hv)) h9 rfl ?_
      refine w_iadd dX7_grow_48 ?_
      refine w_mmin dX7_grow_49 lk_7_47 (Nat.le_of_ble_eq_true rfl) ?_
      refine top_i (fun z1 ez2 => ?_)
      replace h := h z1 ez2
      obtain ⟨h9, h⟩ := h
      refine y_iast (n := 9) x1.toNatClampNeg dX7_grow_52 (gT hG (IsMk_t4 hv) (IsMk_lt hv (k := 4) (by decide))) (gL hG (IsMk_n4 hv)) h9 rfl (fun σ3 eσ4 => ?_)
      replace h := h σ3 eσ4
      have hG5 : G σ3 u := eσ4 ▸ G.sI hG
      refine w_iinc (v := x1 + 1) (l' := [(1, .int (x1 + 1)), (0, .ref (v + 1))]) dX7_grow_53 (List.Mem.tail _ (List.Mem.head _)) rfl (by decide) rfl ?_
      refine w_goto (tgt := 2) dX7_grow_56 rfl ?_
      exact w_weak (l' := [(0, .ref (v + 1)), (1, .int (x1 + 1))]) (by intro q hq; simp only [List.mem_cons, List.not_mem_nil, or_false] at hq ⊢; rcases hq with rfl | rfl <;> simp) h
theorem dX8_clear_0 : decode cX8_clear 0 = .ok (.iconst 0, 1) := by decide +kernel
theorem dX8_clear_1 : decode cX8_clear 1 = .ok (.istore_n 1, 1) := by decide +kernel
theorem dX8_clear_2 : decode cX8_clear 2 = .ok (.iload_n 1, 1) := by decide +kernel
theorem dX8_clear_3 : decode cX8_clear 3 = .ok (.bipush 90, 2) := by decide +kernel
theorem dX8_clear_5 : decode cX8_clear 5 = .ok (.if_icmp .ge 23, 3) := by decide +kernel
theorem dX8_clear_8 : decode cX8_clear 8 = .ok (.aload_n 0, 1) := by decide +kernel
theorem dX8_clear_9 : decode cX8_clear 9 = .ok (.getfield 9, 3) := by decide +kernel
theorem dX8_clear_12 : decode cX8_clear 12 = .ok (.iload_n 1, 1) := by decide +kernel
theorem dX8_clear_13 : decode cX8_clear 13 = .ok (.iconst 0, 1) := by decide +kernel
theorem dX8_clear_14 : decode cX8_clear 14 = .ok (.iastore, 1) := by decide +kernel
theorem dX8_clear_15 : decode cX8_clear 15 = .ok (.aload_n 0, 1) := by decide +kernel
theorem dX8_clear_16 : decode cX8_clear 16 = .ok (.getfield 15, 3) := by decide +kernel
theorem dX8_clear_19 : decode cX8_clear 19 = .ok (.iload_n 1, 1) := by decide +kernel
theorem dX8_clear_20 : decode cX8_clear 20 = .ok (.iconst 0, 1) := by decide +kernel
theorem dX8_clear_21 : decode cX8_clear 21 = .ok (.iastore, 1) := by decide +kernel
theorem dX8_clear_22 : decode cX8_clear 22 = .ok (.iinc 1 1, 3) := by decide +kernel
theorem dX8_clear_25 : decode cX8_clear 25 = .ok (.goto (-23), 3) := by decide +kernel
theorem dX8_clear_28 : decode cX8_clear 28 = .ok (.return_, 1) := by decide +kernel
set_option maxRecDepth 10000 in
theorem v_X8_clear_0 {C : aM → List Value → aH → aO → aH → Prop} {sc : Nat × (Nat → Int32)} {P : aO → aH → Prop} {σ : aH} {u : Nat} {w : Nat}  (hG : G σ u) (hw : IsWt w)
    (h : wp C 8 cX8_clear 2 none false [] sc P 2 [(0, .ref w), (1, .int 0)] [] σ) :
    wp C 8 cX8_clear 2 none false [] sc P 0 [(0, .ref w)] [] σ := by
  refine w_iconst (v := 0) dX8_clear_0 (by decide) ?_
  refine w_istore_n (l' := [(1, .int 0), (0, .ref w)]) dX8_clear_1 rfl (by decide) rfl ?_
  exact w_weak (l' := [(0, .ref w), (1, .int 0)]) (by intro q hq; simp only [List.mem_cons, List.not_mem_nil, or_false] at hq ⊢; rcases hq with rfl | rfl <;> simp) h
set_option maxRecDepth 10000 in
theorem v_X8_clear_2 {C : aM → List Value → aH → aO → aH → Prop} {sc : Nat × (Nat → Int32)} {P : aO → aH → Prop} {σ : aH} {u : Nat} {w : Nat} {x1 : Int32} (hG : G σ u) (hw : IsWt w)
    (h : ((90 ≤ x1 → P (.inl none) σ) ∧ (¬ (90 ≤ x1) → (vp_in x1 90 ∧ (∀ σ1 : aH, sI σ (w + 1) x1.toNatClampNeg 0 = σ1 → (vp_in x1 90 ∧ (∀ σ4 : aH, sI σ1 (w + 2) x1.toNatClampNeg 0 = σ4 → wp C 8 cX8_clear 2 none false [] sc P 2 [(0, .ref w), (1, .int (x1 + 1))] [] σ4))))))) :
    wp C 8 cX8_clear 2 none false [] sc P 2 [(0, .ref w), (1, .int x1)] [] σ := by
  refine w_iload_n dX8_clear_2 rfl (List.Mem.tail _ (List.Mem.head _)) ?_
  refine w_bipush (v := 90) dX8_clear_3 (by decide) ?_
  refine w_icmp_ge (tgt := 28) dX8_clear_5 rfl (fun c9 => ?_) (fun c9 => ?_)
  · replace h := h.1 c9
    exact w_vret dX8_clear_28 rfl h
  · replace h := h.2 c9
    refine w_aload_n dX8_clear_8 rfl (List.Mem.head _) ?_
    refine w_getR (ci := 8) (k := 0) (b := (w + 1)) dX8_clear_9 fl_8_9 (by decide) (gT hG (IsWt_t0 hw) (IsWt_lt hw (k := 0) (by decide))) (gR hG (IsWt_r0_0 hw)) ?_
    refine w_iload_n dX8_clear_12 rfl (List.Mem.tail _ (List.Mem.head _)) ?_
    refine w_iconst (v := 0) dX8_clear_13 (by decide) ?_
    obtain ⟨h9, h⟩ := h
    refine y_iast (n := 90) x1.toNatClampNeg dX8_clear_14 (gT hG (IsWt_t1 hw) (IsWt_lt hw (k := 1) (by decide))) (gL hG (IsWt_n1 hw)) h9 rfl (fun σ1 eσ2 => ?_)
    replace h := h σ1 eσ2
    have hG3 : G σ1 u := eσ2 ▸ G.sI hG
    refine w_aload_n dX8_clear_15 rfl (List.Mem.head _) ?_
    refine w_getR (ci := 8) (k := 1) (b := (w + 2)) dX8_clear_16 fl_8_15 (by decide) (gT hG3 (IsWt_t0 hw) (IsWt_lt hw (k := 0) (by decide))) (gR hG3 (IsWt_r0_1 hw)) ?_
    refine w_iload_n dX8_clear_19 rfl (List.Mem.tail _ (List.Mem.head _)) ?_
    refine w_iconst (v := 0) dX8_clear_20 (by decide) ?_
    obtain ⟨h9, h⟩ := h
    refine y_iast (n := 90) x1.toNatClampNeg dX8_clear_21 (gT hG3 (IsWt_t2 hw) (IsWt_lt hw (k := 2) (by decide))) (gL hG3 (IsWt_n2 hw)) h9 rfl (fun σ4 eσ5 => ?_)
    replace h := h σ4 eσ5
    have hG6 : G σ4 u := eσ5 ▸ G.sI hG3
    refine w_iinc (v := x1 + 1) (l' := [(1, .int (x1 + 1)), (0, .ref w)]) dX8_clear_22 (List.Mem.tail _ (List.Mem.head _)) rfl (by decide) rfl ?_
    refine w_goto (tgt := 2) dX8_clear_25 rfl ?_
    exact w_weak (l' := [(0, .ref w), (1, .int (x1 + 1))]) (by intro q hq; simp only [List.mem_cons, List.not_mem_nil, or_false] at hq ⊢; rcases hq with rfl | rfl <;> simp) h
theorem dX8_add_0 : decode cX8_add 0 = .ok (.iload_n 1, 1) := by decide +kernel
theorem dX8_add_1 : decode cX8_add 1 = .ok (.ifCond .lt 29, 3) := by decide +kernel
theorem dX8_add_4 : decode cX8_add 4 = .ok (.iload_n 1, 1) := by decide +kernel
theorem dX8_add_5 : decode cX8_add 5 = .ok (.bipush 90, 2) := by decide +kernel
theorem dX8_add_7 : decode cX8_add 7 = .ok (.if_icmp .ge 23, 3) := by decide +kernel
theorem dX8_add_10 : decode cX8_add 10 = .ok (.aload_n 0, 1) := by decide +kernel
theorem dX8_add_11 : decode cX8_add 11 = .ok (.getfield 9, 3) := by decide +kernel
theorem dX8_add_14 : decode cX8_add 14 = .ok (.iload_n 1, 1) := by decide +kernel
theorem dX8_add_15 : decode cX8_add 15 = .ok (.dup2, 1) := by decide +kernel
theorem dX8_add_16 : decode cX8_add 16 = .ok (.iaload, 1) := by decide +kernel
theorem dX8_add_17 : decode cX8_add 17 = .ok (.iload_n 2, 1) := by decide +kernel
theorem dX8_add_18 : decode cX8_add 18 = .ok (.iadd, 1) := by decide +kernel
theorem dX8_add_19 : decode cX8_add 19 = .ok (.iastore, 1) := by decide +kernel
theorem dX8_add_20 : decode cX8_add 20 = .ok (.aload_n 0, 1) := by decide +kernel
theorem dX8_add_21 : decode cX8_add 21 = .ok (.getfield 15, 3) := by decide +kernel
theorem dX8_add_24 : decode cX8_add 24 = .ok (.iload_n 1, 1) := by decide +kernel
theorem dX8_add_25 : decode cX8_add 25 = .ok (.dup2, 1) := by decide +kernel
theorem dX8_add_26 : decode cX8_add 26 = .ok (.iaload, 1) := by decide +kernel
theorem dX8_add_27 : decode cX8_add 27 = .ok (.iload_n 3, 1) := by decide +kernel
theorem dX8_add_28 : decode cX8_add 28 = .ok (.iadd, 1) := by decide +kernel
theorem dX8_add_29 : decode cX8_add 29 = .ok (.iastore, 1) := by decide +kernel
theorem dX8_add_30 : decode cX8_add 30 = .ok (.return_, 1) := by decide +kernel
set_option maxRecDepth 10000 in
theorem v_X8_add_0 {C : aM → List Value → aH → aO → aH → Prop} {sc : Nat × (Nat → Int32)} {P : aO → aH → Prop} {σ : aH} {u : Nat} {w : Nat} {x1 : Int32} {x2 : Int32} {x3 : Int32} (hG : G σ u) (hw : IsWt w)
    (h : ((x1 < 0 → P (.inl none) σ) ∧ (¬ (x1 < 0) → ((90 ≤ x1 → P (.inl none) σ) ∧ (¬ (90 ≤ x1) → (vp_in x1 90 ∧ (vp_in x1 90 ∧ (∀ σ1 : aH, sI σ (w + 1) x1.toNatClampNeg ((gI σ (w + 1) x1.toNatClampNeg) + x2) = σ1 → (vp_in x1 90 ∧ (vp_in x1 90 ∧ (∀ σ4 : aH, sI σ1 (w + 2) x1.toNatClampNeg ((gI σ1 (w + 2) x1.toNatClampNeg) + x3) = σ4 → P (.inl none) σ4))))))))))) :
    wp C 8 cX8_add 4 none false [] sc P 0 [(0, .ref w), (1, .int x1), (2, .int x2), (3, .int x3)] [] σ := by
  refine w_iload_n dX8_add_0 rfl (List.Mem.tail _ (List.Mem.head _)) ?_
  refine w_if_lt (tgt := 30) dX8_add_1 rfl (fun c9 => ?_) (fun c9 => ?_)
  · replace h := h.1 c9
    exact w_vret dX8_add_30 rfl h
  · replace h := h.2 c9
    refine w_iload_n dX8_add_4 rfl (List.Mem.tail _ (List.Mem.head _)) ?_
    refine w_bipush (v := 90) dX8_add_5 (by decide) ?_
    refine w_icmp_ge (tgt := 30) dX8_add_7 rfl (fun c9 => ?_) (fun c9 => ?_)
    · replace h := h.1 c9
      exact w_vret dX8_add_30 rfl h
    · replace h := h.2 c9
      refine w_aload_n dX8_add_10 rfl (List.Mem.head _) ?_
      refine w_getR (ci := 8) (k := 0) (b := (w + 1)) dX8_add_11 fl_8_9 (by decide) (gT hG (IsWt_t0 hw) (IsWt_lt hw (k := 0) (by decide))) (gR hG (IsWt_r0_0 hw)) ?_
      refine w_iload_n dX8_add_14 rfl (List.Mem.tail _ (List.Mem.head _)) ?_
      refine w_dup2 dX8_add_15 rfl rfl ?_
      obtain ⟨h9, h⟩ := h
      refine x_iald (n := 90) x1.toNatClampNeg dX8_add_16 (gT hG (IsWt_t1 hw) (IsWt_lt hw (k := 1) (by decide))) (gL hG (IsWt_n1 hw)) h9 rfl ?_
      refine w_iload_n dX8_add_17 rfl (List.Mem.tail _ (List.Mem.tail _ (List.Mem.head _))) ?_
      refine w_iadd dX8_add_18 ?_
      obtain ⟨h9, h⟩ := h
      refine y_iast (n := 90) x1.toNatClampNeg dX8_add_19 (gT hG (IsWt_t1 hw) (IsWt_lt hw (k := 1) (by decide))) (gL hG (IsWt_n1 hw)) h9 rfl (fun σ1 eσ2 => ?_)
      replace h := h σ1 eσ2
      have hG3 : G σ1 u := eσ2 ▸ G.sI hG
      refine w_aload_n dX8_add_20 rfl (List.Mem.head _) ?_
      refine w_getR (ci := 8) (k := 1) (b := (w + 2)) dX8_add_21 fl_8_15 (by decide) (gT hG3 (IsWt_t0 hw) (IsWt_lt hw (k := 0) (by decide))) (gR hG3 (IsWt_r0_1 hw)) ?_
      refine w_iload_n dX8_add_24 rfl (List.Mem.tail _ (List.Mem.head _)) ?_
      refine w_dup2 dX8_add_25 rfl rfl ?_
      obtain ⟨h9, h⟩ := h
      refine x_iald (n := 90) x1.toNatClampNeg dX8_add_26 (gT hG3 (IsWt_t2 hw) (IsWt_lt hw (k := 2) (by decide))) (gL hG3 (IsWt_n2 hw)) h9 rfl ?_
      refine w_iload_n dX8_add_27 rfl (List.Mem.tail _ (List.Mem.tail _ (List.Mem.tail _ (List.Mem.head _)))) ?_
      refine w_iadd dX8_add_28 ?_
      obtain ⟨h9, h⟩ := h
      refine y_iast (n := 90) x1.toNatClampNeg dX8_add_29 (gT hG3 (IsWt_t2 hw) (IsWt_lt hw (k := 2) (by decide))) (gL hG3 (IsWt_n2 hw)) h9 rfl (fun σ4 eσ5 => ?_)
      replace h := h σ4 eσ5
      have hG6 : G σ4 u := eσ5 ▸ G.sI hG3
      exact w_vret dX8_add_30 rfl h
theorem dX8_heap_0 : decode cX8_heap 0 = .ok (.bipush 88, 2) := by decide +kernel
theorem dX8_heap_2 : decode cX8_heap 2 = .ok (.istore_n 1, 1) := by decide +kernel
theorem dX8_heap_3 : decode cX8_heap 3 = .ok (.iload_n 1, 1) := by decide +kernel
theorem dX8_heap_4 : decode cX8_heap 4 = .ok (.ifCond .lt 52, 3) := by decide +kernel
theorem dX8_heap_7 : decode cX8_heap 7 = .ok (.iload_n 1, 1) := by decide +kernel
theorem dX8_heap_8 : decode cX8_heap 8 = .ok (.bipush 10, 2) := by decide +kernel
theorem dX8_heap_10 : decode cX8_heap 10 = .ok (.irem, 1) := by decide +kernel
theorem dX8_heap_11 : decode cX8_heap 11 = .ok (.bipush 9, 2) := by decide +kernel
theorem dX8_heap_13 : decode cX8_heap 13 = .ok (.if_icmp .eq 37, 3) := by decide +kernel
theorem dX8_heap_16 : decode cX8_heap 16 = .ok (.aload_n 0, 1) := by decide +kernel
theorem dX8_heap_17 : decode cX8_heap 17 = .ok (.getfield 9, 3) := by decide +kernel
theorem dX8_heap_20 : decode cX8_heap 20 = .ok (.iload_n 1, 1) := by decide +kernel
theorem dX8_heap_21 : decode cX8_heap 21 = .ok (.dup2, 1) := by decide +kernel
theorem dX8_heap_22 : decode cX8_heap 22 = .ok (.iaload, 1) := by decide +kernel
theorem dX8_heap_23 : decode cX8_heap 23 = .ok (.aload_n 0, 1) := by decide +kernel
theorem dX8_heap_24 : decode cX8_heap 24 = .ok (.getfield 9, 3) := by decide +kernel
theorem dX8_heap_27 : decode cX8_heap 27 = .ok (.iload_n 1, 1) := by decide +kernel
theorem dX8_heap_28 : decode cX8_heap 28 = .ok (.iconst 1, 1) := by decide +kernel
theorem dX8_heap_29 : decode cX8_heap 29 = .ok (.iadd, 1) := by decide +kernel
theorem dX8_heap_30 : decode cX8_heap 30 = .ok (.iaload, 1) := by decide +kernel
theorem dX8_heap_31 : decode cX8_heap 31 = .ok (.iadd, 1) := by decide +kernel
theorem dX8_heap_32 : decode cX8_heap 32 = .ok (.iastore, 1) := by decide +kernel
theorem dX8_heap_33 : decode cX8_heap 33 = .ok (.aload_n 0, 1) := by decide +kernel
theorem dX8_heap_34 : decode cX8_heap 34 = .ok (.getfield 15, 3) := by decide +kernel
theorem dX8_heap_37 : decode cX8_heap 37 = .ok (.iload_n 1, 1) := by decide +kernel
theorem dX8_heap_38 : decode cX8_heap 38 = .ok (.dup2, 1) := by decide +kernel
theorem dX8_heap_39 : decode cX8_heap 39 = .ok (.iaload, 1) := by decide +kernel
theorem dX8_heap_40 : decode cX8_heap 40 = .ok (.aload_n 0, 1) := by decide +kernel
theorem dX8_heap_41 : decode cX8_heap 41 = .ok (.getfield 15, 3) := by decide +kernel
theorem dX8_heap_44 : decode cX8_heap 44 = .ok (.iload_n 1, 1) := by decide +kernel
theorem dX8_heap_45 : decode cX8_heap 45 = .ok (.iconst 1, 1) := by decide +kernel
theorem dX8_heap_46 : decode cX8_heap 46 = .ok (.iadd, 1) := by decide +kernel
theorem dX8_heap_47 : decode cX8_heap 47 = .ok (.iaload, 1) := by decide +kernel
theorem dX8_heap_48 : decode cX8_heap 48 = .ok (.iadd, 1) := by decide +kernel
theorem dX8_heap_49 : decode cX8_heap 49 = .ok (.iastore, 1) := by decide +kernel
theorem dX8_heap_50 : decode cX8_heap 50 = .ok (.iinc 1 (-1), 3) := by decide +kernel
theorem dX8_heap_53 : decode cX8_heap 53 = .ok (.goto (-50), 3) := by decide +kernel
theorem dX8_heap_56 : decode cX8_heap 56 = .ok (.return_, 1) := by decide +kernel
set_option maxRecDepth 10000 in
theorem v_X8_heap_0 {C : aM → List Value → aH → aO → aH → Prop} {sc : Nat × (Nat → Int32)} {P : aO → aH → Prop} {σ : aH} {u : Nat} {w : Nat}  (hG : G σ u) (hw : IsWt w)
    (h : wp C 8 cX8_heap 2 none false [] sc P 3 [(0, .ref w), (1, .int 88)] [] σ) :
    wp C 8 cX8_heap 2 none false [] sc P 0 [(0, .ref w)] [] σ := by
  refine w_bipush (v := 88) dX8_heap_0 (by decide) ?_
  refine w_istore_n (l' := [(1, .int 88), (0, .ref w)]) dX8_heap_2 rfl (by decide) rfl ?_
  exact w_weak (l' := [(0, .ref w), (1, .int 88)]) (by intro q hq; simp only [List.mem_cons, List.not_mem_nil, or_false] at hq ⊢; rcases hq with rfl | rfl <;> simp) h
set_option maxRecDepth 10000 in
theorem v_X8_heap_3 {C : aM → List Value → aH → aO → aH → Prop} {sc : Nat × (Nat → Int32)} {P : aO → aH → Prop} {σ : aH} {u : Nat} {w : Nat} {x1 : Int32} (hG : G σ u) (hw : IsWt w)
    (h : ((x1 < 0 → P (.inl none) σ) ∧ (¬ (x1 < 0) → (((x1 - x1 / 10 * 10) = 9 → wp C 8 cX8_heap 2 none false [] sc P 3 [(0, .ref w), (1, .int (x1 + (-1)))] [] σ) ∧ (¬ ((x1 - x1 / 10 * 10) = 9) → (vp_in x1 90 ∧ (vp_in (x1 + 1) 90 ∧ (vp_in x1 90 ∧ (∀ σ1 : aH, sI σ (w + 1) x1.toNatClampNeg ((gI σ (w + 1) x1.toNatClampNeg) + (gI σ (w + 1) ((x1 + 1).toNatClampNeg))) = σ1 → (vp_in x1 90 ∧ (vp_in (x1 + 1) 90 ∧ (vp_in x1 90 ∧ (∀ σ4 : aH, sI σ1 (w + 2) x1.toNatClampNeg ((gI σ1 (w + 2) x1.toNatClampNeg) + (gI σ1 (w + 2) ((x1 + 1).toNatClampNeg))) = σ4 → wp C 8 cX8_heap 2 none false [] sc P 3 [(0, .ref w), (1, .int (x1 + (-1)))] [] σ4))))))))))))) :
    wp C 8 cX8_heap 2 none false [] sc P 3 [(0, .ref w), (1, .int x1)] [] σ := by
  refine w_iload_n dX8_heap_3 rfl (List.Mem.tail _ (List.Mem.head _)) ?_
  refine w_if_lt (tgt := 56) dX8_heap_4 rfl (fun c9 => ?_) (fun c9 => ?_)
  · replace h := h.1 c9
    exact w_vret dX8_heap_56 rfl h
  · replace h := h.2 c9
    refine w_iload_n dX8_heap_7 rfl (List.Mem.tail _ (List.Mem.head _)) ?_
    refine w_bipush (v := 10) dX8_heap_8 (by decide) ?_
    refine w_irem dX8_heap_10 (by decide) ?_
    refine w_bipush (v := 9) dX8_heap_11 (by decide) ?_
    refine w_icmp_eq (tgt := 50) dX8_heap_13 rfl (fun c9 => ?_) (fun c9 => ?_)
    · replace h := h.1 c9
      refine w_iinc (v := x1 + (-1)) (l' := [(1, .int (x1 + (-1))), (0, .ref w)]) dX8_heap_50 (List.Mem.tail _ (List.Mem.head _)) rfl (by decide) rfl ?_
      refine w_goto (tgt := 3) dX8_heap_53 rfl ?_
      exact w_weak (l' := [(0, .ref w), (1, .int (x1 + (-1)))]) (by intro q hq; simp only [List.mem_cons, List.not_mem_nil, or_false] at hq ⊢; rcases hq with rfl | rfl <;> simp) h
    · replace h := h.2 c9
      refine w_aload_n dX8_heap_16 rfl (List.Mem.head _) ?_
      refine w_getR (ci := 8) (k := 0) (b := (w + 1)) dX8_heap_17 fl_8_9 (by decide) (gT hG (IsWt_t0 hw) (IsWt_lt hw (k := 0) (by decide))) (gR hG (IsWt_r0_0 hw)) ?_
      refine w_iload_n dX8_heap_20 rfl (List.Mem.tail _ (List.Mem.head _)) ?_
      refine w_dup2 dX8_heap_21 rfl rfl ?_
      obtain ⟨h9, h⟩ := h
      refine x_iald (n := 90) x1.toNatClampNeg dX8_heap_22 (gT hG (IsWt_t1 hw) (IsWt_lt hw (k := 1) (by decide))) (gL hG (IsWt_n1 hw)) h9 rfl ?_
      refine w_aload_n dX8_heap_23 rfl (List.Mem.head _) ?_
      refine w_getR (ci := 8) (k := 0) (b := (w + 1)) dX8_heap_24 fl_8_9 (by decide) (gT hG (IsWt_t0 hw) (IsWt_lt hw (k := 0) (by decide))) (gR hG (IsWt_r0_0 hw)) ?_
      refine w_iload_n dX8_heap_27 rfl (List.Mem.tail _ (List.Mem.head _)) ?_
      refine w_iconst (v := 1) dX8_heap_28 (by decide) ?_
      refine w_iadd dX8_heap_29 ?_
      obtain ⟨h9, h⟩ := h
      refine x_iald (n := 90) ((x1 + 1).toNatClampNeg) dX8_heap_30 (gT hG (IsWt_t1 hw) (IsWt_lt hw (k := 1) (by decide))) (gL hG (IsWt_n1 hw)) h9 rfl ?_
      refine w_iadd dX8_heap_31 ?_
      obtain ⟨h9, h⟩ := h
      refine y_iast (n := 90) x1.toNatClampNeg dX8_heap_32 (gT hG (IsWt_t1 hw) (IsWt_lt hw (k := 1) (by decide))) (gL hG (IsWt_n1 hw)) h9 rfl (fun σ1 eσ2 => ?_)
      replace h := h σ1 eσ2
      have hG3 : G σ1 u := eσ2 ▸ G.sI hG
      refine w_aload_n dX8_heap_33 rfl (List.Mem.head _) ?_
      refine w_getR (ci := 8) (k := 1) (b := (w + 2)) dX8_heap_34 fl_8_15 (by decide) (gT hG3 (IsWt_t0 hw) (IsWt_lt hw (k := 0) (by decide))) (gR hG3 (IsWt_r0_1 hw)) ?_
      refine w_iload_n dX8_heap_37 rfl (List.Mem.tail _ (List.Mem.head _)) ?_
      refine w_dup2 dX8_heap_38 rfl rfl ?_
      obtain ⟨h9, h⟩ := h
      refine x_iald (n := 90) x1.toNatClampNeg dX8_heap_39 (gT hG3 (IsWt_t2 hw) (IsWt_lt hw (k := 2) (by decide))) (gL hG3 (IsWt_n2 hw)) h9 rfl ?_
      refine w_aload_n dX8_heap_40 rfl (List.Mem.head _) ?_
      refine w_getR (ci := 8) (k := 1) (b := (w + 2)) dX8_heap_41 fl_8_15 (by decide) (gT hG3 (IsWt_t0 hw) (IsWt_lt hw (k := 0) (by decide))) (gR hG3 (IsWt_r0_1 hw)) ?_
      refine w_iload_n dX8_heap_44 rfl (List.Mem.tail _ (List.Mem.head _)) ?_
      refine w_iconst (v := 1) dX8_heap_45 (by decide) ?_
      refine w_iadd dX8_heap_46 ?_
      obtain ⟨h9, h⟩ := h
      refine x_iald (n := 90) ((x1 + 1).toNatClampNeg) dX8_heap_47 (gT hG3 (IsWt_t2 hw) (IsWt_lt hw (k := 2) (by decide))) (gL hG3 (IsWt_n2 hw)) h9 rfl ?_
      refine w_iadd dX8_heap_48 ?_
      obtain ⟨h9, h⟩ := h
      refine y_iast (n := 90) x1.toNatClampNeg dX8_heap_49 (gT hG3 (IsWt_t2 hw) (IsWt_lt hw (k := 2) (by decide))) (gL hG3 (IsWt_n2 hw)) h9 rfl (fun σ4 eσ5 => ?_)
      replace h := h σ4 eσ5
      have hG6 : G σ4 u := eσ5 ▸ G.sI hG3
      refine w_iinc (v := x1 + (-1)) (l' := [(1, .int (x1 + (-1))), (0, .ref w)]) dX8_heap_50 (List.Mem.tail _ (List.Mem.head _)) rfl (by decide) rfl ?_
      refine w_goto (tgt := 3) dX8_heap_53 rfl ?_
      exact w_weak (l' := [(0, .ref w), (1, .int (x1 + (-1)))]) (by intro q hq; simp only [List.mem_cons, List.not_mem_nil, or_false] at hq ⊢; rcases hq with rfl | rfl <;> simp) h
theorem dX8_at_0 : decode cX8_at 0 = .ok (.iload_n 1, 1) := by decide +kernel
theorem dX8_at_1 : decode cX8_at 1 = .ok (.ifCond .lt 18, 3) := by decide +kernel
theorem dX8_at_4 : decode cX8_at 4 = .ok (.iload_n 1, 1) := by decide +kernel
theorem dX8_at_5 : decode cX8_at 5 = .ok (.bipush 90, 2) := by decide +kernel
theorem dX8_at_7 : decode cX8_at 7 = .ok (.if_icmp .ge 12, 3) := by decide +kernel
theorem dX8_at_10 : decode cX8_at 10 = .ok (.aload_n 0, 1) := by decide +kernel
theorem dX8_at_11 : decode cX8_at 11 = .ok (.getfield 9, 3) := by decide +kernel
theorem dX8_at_14 : decode cX8_at 14 = .ok (.iload_n 1, 1) := by decide +kernel
theorem dX8_at_15 : decode cX8_at 15 = .ok (.iaload, 1) := by decide +kernel
theorem dX8_at_16 : decode cX8_at 16 = .ok (.goto 4, 3) := by decide +kernel
theorem dX8_at_19 : decode cX8_at 19 = .ok (.iconst 0, 1) := by decide +kernel
theorem dX8_at_20 : decode cX8_at 20 = .ok (.ireturn, 1) := by decide +kernel
set_option maxRecDepth 10000 in
theorem v_X8_at_0 {C : aM → List Value → aH → aO → aH → Prop} {sc : Nat × (Nat → Int32)} {P : aO → aH → Prop} {σ : aH} {u : Nat} {w : Nat} {x1 : Int32} (hG : G σ u) (hw : IsWt w)
    (h : ((x1 < 0 → P (.inl (some (.int 0))) σ) ∧ (¬ (x1 < 0) → ((90 ≤ x1 → P (.inl (some (.int 0))) σ) ∧ (¬ (90 ≤ x1) → (vp_in x1 90 ∧ P (.inl (some (.int (gI σ (w + 1) x1.toNatClampNeg)))) σ)))))) :
    wp C 8 cX8_at 2 (some .int) false [] sc P 0 [(0, .ref w), (1, .int x1)] [] σ := by
  refine w_iload_n dX8_at_0 rfl (List.Mem.tail _ (List.Mem.head _)) ?_
  refine w_if_lt (tgt := 19) dX8_at_1 rfl (fun c9 => ?_) (fun c9 => ?_)
  · replace h := h.1 c9
    refine w_iconst (v := 0) dX8_at_19 (by decide) ?_
    exact w_iret dX8_at_20 rfl h
  · replace h := h.2 c9
    refine w_iload_n dX8_at_4 rfl (List.Mem.tail _ (List.Mem.head _)) ?_
    refine w_bipush (v := 90) dX8_at_5 (by decide) ?_
    refine w_icmp_ge (tgt := 19) dX8_at_7 rfl (fun c9 => ?_) (fun c9 => ?_)
    · replace h := h.1 c9
      refine w_iconst (v := 0) dX8_at_19 (by decide) ?_
      exact w_iret dX8_at_20 rfl h
    · replace h := h.2 c9
      refine w_aload_n dX8_at_10 rfl (List.Mem.head _) ?_
      refine w_getR (ci := 8) (k := 0) (b := (w + 1)) dX8_at_11 fl_8_9 (by decide) (gT hG (IsWt_t0 hw) (IsWt_lt hw (k := 0) (by decide))) (gR hG (IsWt_r0_0 hw)) ?_
      refine w_iload_n dX8_at_14 rfl (List.Mem.tail _ (List.Mem.head _)) ?_
      obtain ⟨h9, h⟩ := h
      refine x_iald (n := 90) x1.toNatClampNeg dX8_at_15 (gT hG (IsWt_t1 hw) (IsWt_lt hw (k := 1) (by decide))) (gL hG (IsWt_n1 hw)) h9 rfl ?_
      refine w_goto (tgt := 20) dX8_at_16 rfl ?_
      exact w_iret dX8_at_20 rfl h
theorem dX8_lanternsAt_0 : decode cX8_lanternsAt 0 = .ok (.iload_n 1, 1) := by decide +kernel
theorem dX8_lanternsAt_1 : decode cX8_lanternsAt 1 = .ok (.ifCond .lt 18, 3) := by decide +kernel
theorem dX8_lanternsAt_4 : decode cX8_lanternsAt 4 = .ok (.iload_n 1, 1) := by decide +kernel
theorem dX8_lanternsAt_5 : decode cX8_lanternsAt 5 = .ok (.bipush 90, 2) := by decide +kernel
theorem dX8_lanternsAt_7 : decode cX8_lanternsAt 7 = .ok (.if_icmp .ge 12, 3) := by decide +kernel
theorem dX8_lanternsAt_10 : decode cX8_lanternsAt 10 = .ok (.aload_n 0, 1) := by decide +kernel
theorem dX8_lanternsAt_11 : decode cX8_lanternsAt 11 = .ok (.getfield 15, 3) := by decide +kernel
theorem dX8_lanternsAt_14 : decode cX8_lanternsAt 14 = .ok (.iload_n 1, 1) := by decide +kernel
theorem dX8_lanternsAt_15 : decode cX8_lanternsAt 15 = .ok (.iaload, 1) := by decide +kernel
theorem dX8_lanternsAt_16 : decode cX8_lanternsAt 16 = .ok (.goto 4, 3) := by decide +kernel
theorem dX8_lanternsAt_19 : decode cX8_lanternsAt 19 = .ok (.iconst 0, 1) := by decide +kernel
theorem dX8_lanternsAt_20 : decode cX8_lanternsAt 20 = .ok (.ireturn, 1) := by decide +kernel
set_option maxRecDepth 10000 in
theorem v_X8_lanternsAt_0 {C : aM → List Value → aH → aO → aH → Prop} {sc : Nat × (Nat → Int32)} {P : aO → aH → Prop} {σ : aH} {u : Nat} {w : Nat} {x1 : Int32} (hG : G σ u) (hw : IsWt w)
    (h : ((x1 < 0 → P (.inl (some (.int 0))) σ) ∧ (¬ (x1 < 0) → ((90 ≤ x1 → P (.inl (some (.int 0))) σ) ∧ (¬ (90 ≤ x1) → (vp_in x1 90 ∧ P (.inl (some (.int (gI σ (w + 2) x1.toNatClampNeg)))) σ)))))) :
    wp C 8 cX8_lanternsAt 2 (some .int) false [] sc P 0 [(0, .ref w), (1, .int x1)] [] σ := by
  refine w_iload_n dX8_lanternsAt_0 rfl (List.Mem.tail _ (List.Mem.head _)) ?_
  refine w_if_lt (tgt := 19) dX8_lanternsAt_1 rfl (fun c9 => ?_) (fun c9 => ?_)
  · replace h := h.1 c9
    refine w_iconst (v := 0) dX8_lanternsAt_19 (by decide) ?_
    exact w_iret dX8_lanternsAt_20 rfl h
  · replace h := h.2 c9
    refine w_iload_n dX8_lanternsAt_4 rfl (List.Mem.tail _ (List.Mem.head _)) ?_
    refine w_bipush (v := 90) dX8_lanternsAt_5 (by decide) ?_
    refine w_icmp_ge (tgt := 19) dX8_lanternsAt_7 rfl (fun c9 => ?_) (fun c9 => ?_)
    · replace h := h.1 c9
      refine w_iconst (v := 0) dX8_lanternsAt_19 (by decide) ?_
      exact w_iret dX8_lanternsAt_20 rfl h
    · replace h := h.2 c9
      refine w_aload_n dX8_lanternsAt_10 rfl (List.Mem.head _) ?_
      refine w_getR (ci := 8) (k := 1) (b := (w + 2)) dX8_lanternsAt_11 fl_8_15 (by decide) (gT hG (IsWt_t0 hw) (IsWt_lt hw (k := 0) (by decide))) (gR hG (IsWt_r0_1 hw)) ?_
      refine w_iload_n dX8_lanternsAt_14 rfl (List.Mem.tail _ (List.Mem.head _)) ?_
      obtain ⟨h9, h⟩ := h
      refine x_iald (n := 90) x1.toNatClampNeg dX8_lanternsAt_15 (gT hG (IsWt_t2 hw) (IsWt_lt hw (k := 2) (by decide))) (gL hG (IsWt_n2 hw)) h9 rfl ?_
      refine w_goto (tgt := 20) dX8_lanternsAt_16 rfl ?_
      exact w_iret dX8_lanternsAt_20 rfl h
theorem dX8_priceAt_0 : decode cX8_priceAt 0 = .ok (.iload_n 1, 1) := by decide +kernel
theorem dX8_priceAt_1 : decode cX8_priceAt 1 = .ok (.ifCond .lt 9, 3) := by decide +kernel
theorem dX8_priceAt_4 : decode cX8_priceAt 4 = .ok (.iload_n 1, 1) := by decide +kernel
theorem dX8_priceAt_5 : decode cX8_priceAt 5 = .ok (.bipush 90, 2) := by decide +kernel
theorem dX8_priceAt_7 : decode cX8_priceAt 7 = .ok (.if_icmp .lt 5, 3) := by decide +kernel
theorem dX8_priceAt_10 : decode cX8_priceAt 10 = .ok (.iconst 0, 1) := by decide +kernel
theorem dX8_priceAt_11 : decode cX8_priceAt 11 = .ok (.ireturn, 1) := by decide +kernel
theorem dX8_priceAt_12 : decode cX8_priceAt 12 = .ok (.iload_n 2, 1) := by decide +kernel
theorem dX8_priceAt_13 : decode cX8_priceAt 13 = .ok (.iconst 1, 1) := by decide +kernel
theorem dX8_priceAt_14 : decode cX8_priceAt 14 = .ok (.if_icmp .ne 19, 3) := by decide +kernel
theorem dX8_priceAt_17 : decode cX8_priceAt 17 = .ok (.aload_n 0, 1) := by decide +kernel
theorem dX8_priceAt_18 : decode cX8_priceAt 18 = .ok (.getfield 9, 3) := by decide +kernel
theorem dX8_priceAt_21 : decode cX8_priceAt 21 = .ok (.iload_n 1, 1) := by decide +kernel
theorem dX8_priceAt_22 : decode cX8_priceAt 22 = .ok (.iaload, 1) := by decide +kernel
theorem dX8_priceAt_23 : decode cX8_priceAt 23 = .ok (.aload_n 0, 1) := by decide +kernel
theorem dX8_priceAt_24 : decode cX8_priceAt 24 = .ok (.getfield 15, 3) := by decide +kernel
theorem dX8_priceAt_27 : decode cX8_priceAt 27 = .ok (.iload_n 1, 1) := by decide +kernel
theorem dX8_priceAt_28 : decode cX8_priceAt 28 = .ok (.iaload, 1) := by decide +kernel
theorem dX8_priceAt_29 : decode cX8_priceAt 29 = .ok (.iadd, 1) := by decide +kernel
theorem dX8_priceAt_30 : decode cX8_priceAt 30 = .ok (.goto 9, 3) := by decide +kernel
theorem dX8_priceAt_33 : decode cX8_priceAt 33 = .ok (.aload_n 0, 1) := by decide +kernel
theorem dX8_priceAt_34 : decode cX8_priceAt 34 = .ok (.getfield 9, 3) := by decide +kernel
theorem dX8_priceAt_37 : decode cX8_priceAt 37 = .ok (.iload_n 1, 1) := by decide +kernel
theorem dX8_priceAt_38 : decode cX8_priceAt 38 = .ok (.iaload, 1) := by decide +kernel
theorem dX8_priceAt_39 : decode cX8_priceAt 39 = .ok (.ireturn, 1) := by decide +kernel
set_option maxRecDepth 10000 in
theorem v_X8_priceAt_0 {C : aM → List Value → aH → aO → aH → Prop} {sc : Nat × (Nat → Int32)} {P : aO → aH → Prop} {σ : aH} {u : Nat} {w : Nat} {x1 : Int32} {x2 : Int32} (hG : G σ u) (hw : IsWt w)
    (h : ((x1 < 0 → P (.inl (some (.int 0))) σ) ∧ (¬ (x1 < 0) → ((x1 < 90 → ((¬ x2 = 1 → (vp_in x1 90 ∧ P (.inl (some (.int (gI σ (w + 1) x1.toNatClampNeg)))) σ)) ∧ (x2 = 1 → (vp_in x1 90 ∧ (vp_in x1 90 ∧ P (.inl (some (.int ((gI σ (w + 1) x1.toNatClampNeg) + (gI σ (w + 2) x1.toNatClampNeg))))) σ))))) ∧ (¬ (x1 < 90) → P (.inl (some (.int 0))) σ))))) :
    wp C 8 cX8_priceAt 3 (some .int) false [] sc P 0 [(0, .ref w), (1, .int x1), (2, .int x2)] [] σ := by
  refine w_iload_n dX8_priceAt_0 rfl (List.Mem.tail _ (List.Mem.head _)) ?_
  refine w_if_lt (tgt := 10) dX8_priceAt_1 rfl (fun c9 => ?_) (fun c9 => ?_)
  · replace h := h.1 c9
    refine w_iconst (v := 0) dX8_priceAt_10 (by decide) ?_
    exact w_iret dX8_priceAt_11 rfl h
  · replace h := h.2 c9
    refine w_iload_n dX8_priceAt_4 rfl (List.Mem.tail _ (List.Mem.head _)) ?_
    refine w_bipush (v := 90) dX8_priceAt_5 (by decide) ?_
    refine w_icmp_lt (tgt := 12) dX8_priceAt_7 rfl (fun c9 => ?_) (fun c9 => ?_)
    · replace h := h.1 c9
      refine w_iload_n dX8_priceAt_12 rfl (List.Mem.tail _ (List.Mem.tail _ (List.Mem.head _))) ?_
      refine w_iconst (v := 1) dX8_priceAt_13 (by decide) ?_
      refine w_icmp_ne (tgt := 33) dX8_priceAt_14 rfl (fun c9 => ?_) (fun c9 => ?_)
      · replace h := h.1 c9
        refine w_aload_n dX8_priceAt_33 rfl (List.Mem.head _) ?_
        refine w_getR (ci := 8) (k := 0) (b := (w + 1)) dX8_priceAt_34 fl_8_9 (by decide) (gT hG (IsWt_t0 hw) (IsWt_lt hw (k := 0) (by decide))) (gR hG (IsWt_r0_0 hw)) ?_
        refine w_iload_n dX8_priceAt_37 rfl (List.Mem.tail _ (List.Mem.head _)) ?_
        obtain ⟨h9, h⟩ := h
        refine x_iald (n := 90) x1.toNatClampNeg dX8_priceAt_38 (gT hG (IsWt_t1 hw) (IsWt_lt hw (k := 1) (by decide))) (gL hG (IsWt_n1 hw)) h9 rfl ?_
        exact w_iret dX8_priceAt_39 rfl h
      · replace h := h.2 c9
        refine w_aload_n dX8_priceAt_17 rfl (List.Mem.head _) ?_
        refine w_getR (ci := 8) (k := 0) (b := (w + 1)) dX8_priceAt_18 fl_8_9 (by decide) (gT hG (IsWt_t0 hw) (IsWt_lt hw (k := 0) (by decide))) (gR hG (IsWt_r0_0 hw)) ?_
        refine w_iload_n dX8_priceAt_21 rfl (List.Mem.tail _ (List.Mem.head _)) ?_
        obtain ⟨h9, h⟩ := h
        refine x_iald (n := 90) x1.toNatClampNeg dX8_priceAt_22 (gT hG (IsWt_t1 hw) (IsWt_lt hw (k := 1) (by decide))) (gL hG (IsWt_n1 hw)) h9 rfl ?_
        refine w_aload_n dX8_priceAt_23 rfl (List.Mem.head _) ?_
        refine w_getR (ci := 8) (k := 1) (b := (w + 2)) dX8_priceAt_24 fl_8_15 (by decide) (gT hG (IsWt_t0 hw) (IsWt_lt hw (k := 0) (by decide))) (gR hG (IsWt_r0_1 hw)) ?_
        refine w_iload_n dX8_priceAt_27 rfl (List.Mem.tail _ (List.Mem.head _)) ?_
        obtain ⟨h9, h⟩ := h
        refine x_iald (n := 90) x1.toNatClampNeg dX8_priceAt_28 (gT hG (IsWt_t2 hw) (IsWt_lt hw (k := 2) (by decide))) (gL hG (IsWt_n2 hw)) h9 rfl ?_
        refine w_iadd dX8_priceAt_29 ?_
        refine w_goto (tgt := 39) dX8_priceAt_30 rfl ?_
        exact w_iret dX8_priceAt_39 rfl h
    · replace h := h.2 c9
      refine w_iconst (v := 0) dX8_priceAt_10 (by decide) ?_
      exact w_iret dX8_priceAt_11 rfl h
theorem dX0_tell_0 : decode cX0_tell 0 = .ok (.iconst 0, 1) := by decide +kernel
theorem dX0_tell_1 : decode cX0_tell 1 = .ok (.istore_n 3, 1) := by decide +kernel
theorem dX0_tell_2 : decode cX0_tell 2 = .ok (.iload_n 3, 1) := by decide +kernel
theorem dX0_tell_3 : decode cX0_tell 3 = .ok (.aload_n 0, 1) := by decide +kernel
theorem dX0_tell_4 : decode cX0_tell 4 = .ok (.getfield 18, 3) := by decide +kernel
theorem dX0_tell_7 : decode cX0_tell 7 = .ok (.if_icmp .ge 19, 3) := by decide +kernel
theorem dX0_tell_10 : decode cX0_tell 10 = .ok (.aload_n 0, 1) := by decide +kernel
theorem dX0_tell_11 : decode cX0_tell 11 = .ok (.getfield 9, 3) := by decide +kernel
theorem dX0_tell_14 : decode cX0_tell 14 = .ok (.iload_n 3, 1) := by decide +kernel
theorem dX0_tell_15 : decode cX0_tell 15 = .ok (.iaload, 1) := by decide +kernel
theorem dX0_tell_16 : decode cX0_tell 16 = .ok (.iload_n 1, 1) := by decide +kernel
theorem dX0_tell_17 : decode cX0_tell 17 = .ok (.if_icmp .ge 9, 3) := by decide +kernel
theorem dX0_tell_20 : decode cX0_tell 20 = .ok (.iinc 3 1, 3) := by decide +kernel
theorem dX0_tell_23 : decode cX0_tell 23 = .ok (.goto (-21), 3) := by decide +kernel
theorem dX0_tell_26 : decode cX0_tell 26 = .ok (.iload_n 3, 1) := by decide +kernel
theorem dX0_tell_27 : decode cX0_tell 27 = .ok (.aload_n 0, 1) := by decide +kernel
theorem dX0_tell_28 : decode cX0_tell 28 = .ok (.getfield 18, 3) := by decide +kernel
theorem dX0_tell_31 : decode cX0_tell 31 = .ok (.if_icmp .ge 21, 3) := by decide +kernel
theorem dX0_tell_34 : decode cX0_tell 34 = .ok (.aload_n 0, 1) := by decide +kernel
theorem dX0_tell_35 : decode cX0_tell 35 = .ok (.getfield 9, 3) := by decide +kernel
theorem dX0_tell_38 : decode cX0_tell 38 = .ok (.iload_n 3, 1) := by decide +kernel
theorem dX0_tell_39 : decode cX0_tell 39 = .ok (.iaload, 1) := by decide +kernel
theorem dX0_tell_40 : decode cX0_tell 40 = .ok (.iload_n 1, 1) := by decide +kernel
theorem dX0_tell_41 : decode cX0_tell 41 = .ok (.if_icmp .ne 11, 3) := by decide +kernel
theorem dX0_tell_44 : decode cX0_tell 44 = .ok (.aload_n 0, 1) := by decide +kernel
theorem dX0_tell_45 : decode cX0_tell 45 = .ok (.getfield 15, 3) := by decide +kernel
theorem dX0_tell_48 : decode cX0_tell 48 = .ok (.iload_n 3, 1) := by decide +kernel
theorem dX0_tell_49 : decode cX0_tell 49 = .ok (.iload_n 2, 1) := by decide +kernel
theorem dX0_tell_50 : decode cX0_tell 50 = .ok (.iastore, 1) := by decide +kernel
theorem dX0_tell_51 : decode cX0_tell 51 = .ok (.return_, 1) := by decide +kernel
theorem dX0_tell_52 : decode cX0_tell 52 = .ok (.aload_n 0, 1) := by decide +kernel
theorem dX0_tell_53 : decode cX0_tell 53 = .ok (.getfield 18, 3) := by decide +kernel
theorem dX0_tell_56 : decode cX0_tell 56 = .ok (.bipush 20, 2) := by decide +kernel
theorem dX0_tell_58 : decode cX0_tell 58 = .ok (.if_icmp .lt 4, 3) := by decide +kernel
theorem dX0_tell_61 : decode cX0_tell 61 = .ok (.return_, 1) := by decide +kernel
theorem dX0_tell_62 : decode cX0_tell 62 = .ok (.aload_n 0, 1) := by decide +kernel
theorem dX0_tell_63 : decode cX0_tell 63 = .ok (.getfield 18, 3) := by decide +kernel
theorem dX0_tell_66 : decode cX0_tell 66 = .ok (.istore 4, 2) := by decide +kernel
theorem dX0_tell_68 : decode cX0_tell 68 = .ok (.iload 4, 2) := by decide +kernel
theorem dX0_tell_70 : decode cX0_tell 70 = .ok (.iload_n 3, 1) := by decide +kernel
theorem dX0_tell_71 : decode cX0_tell 71 = .ok (.if_icmp .le 41, 3) := by decide +kernel
theorem dX0_tell_74 : decode cX0_tell 74 = .ok (.aload_n 0, 1) := by decide +kernel
theorem dX0_tell_75 : decode cX0_tell 75 = .ok (.getfield 9, 3) := by decide +kernel
theorem dX0_tell_78 : decode cX0_tell 78 = .ok (.iload 4, 2) := by decide +kernel
theorem dX0_tell_80 : decode cX0_tell 80 = .ok (.aload_n 0, 1) := by decide +kernel
theorem dX0_tell_81 : decode cX0_tell 81 = .ok (.getfield 9, 3) := by decide +kernel
theorem dX0_tell_84 : decode cX0_tell 84 = .ok (.iload 4, 2) := by decide +kernel
theorem dX0_tell_86 : decode cX0_tell 86 = .ok (.iconst 1, 1) := by decide +kernel
theorem dX0_tell_87 : decode cX0_tell 87 = .ok (.isub, 1) := by decide +kernel
theorem dX0_tell_88 : decode cX0_tell 88 = .ok (.iaload, 1) := by decide +kernel
theorem dX0_tell_89 : decode cX0_tell 89 = .ok (.iastore, 1) := by decide +kernel
theorem dX0_tell_90 : decode cX0_tell 90 = .ok (.aload_n 0, 1) := by decide +kernel
theorem dX0_tell_91 : decode cX0_tell 91 = .ok (.getfield 15, 3) := by decide +kernel
theorem dX0_tell_94 : decode cX0_tell 94 = .ok (.iload 4, 2) := by decide +kernel
theorem dX0_tell_96 : decode cX0_tell 96 = .ok (.aload_n 0, 1) := by decide +kernel
theorem dX0_tell_97 : decode cX0_tell 97 = .ok (.getfield 15, 3) := by decide +kernel
theorem dX0_tell_100 : decode cX0_tell 100 = .ok (.iload 4, 2) := by decide +kernel
theorem dX0_tell_102 : decode cX0_tell 102 = .ok (.iconst 1, 1) := by decide +kernel
theorem dX0_tell_103 : decode cX0_tell 103 = .ok (.isub, 1) := by decide +kernel
theorem dX0_tell_104 : decode cX0_tell 104 = .ok (.iaload, 1) := by decide +kernel
theorem dX0_tell_105 : decode cX0_tell 105 = .ok (.iastore, 1) := by decide +kernel
theorem dX0_tell_106 : decode cX0_tell 106 = .ok (.iinc 4 (-1), 3) := by decide +kernel
theorem dX0_tell_109 : decode cX0_tell 109 = .ok (.goto (-41), 3) := by decide +kernel
theorem dX0_tell_112 : decode cX0_tell 112 = .ok (.aload_n 0, 1) := by decide +kernel
theorem dX0_tell_113 : decode cX0_tell 113 = .ok (.getfield 9, 3) := by decide +kernel
theorem dX0_tell_116 : decode cX0_tell 116 = .ok (.iload_n 3, 1) := by decide +kernel
theorem dX0_tell_117 : decode cX0_tell 117 = .ok (.iload_n 1, 1) := by decide +kernel
theorem dX0_tell_118 : decode cX0_tell 118 = .ok (.iastore, 1) := by decide +kernel
theorem dX0_tell_119 : decode cX0_tell 119 = .ok (.aload_n 0, 1) := by decide +kernel
theorem dX0_tell_120 : decode cX0_tell 120 = .ok (.getfield 15, 3) := by decide +kernel
theorem dX0_tell_123 : decode cX0_tell 123 = .ok (.iload_n 3, 1) := by decide +kernel
theorem dX0_tell_124 : decode cX0_tell 124 = .ok (.iload_n 2, 1) := by decide +kernel
theorem dX0_tell_125 : decode cX0_tell 125 = .ok (.iastore, 1) := by decide +kernel
theorem dX0_tell_126 : decode cX0_tell 126 = .ok (.aload_n 0, 1) := by decide +kernel
theorem dX0_tell_127 : decode cX0_tell 127 = .ok (.dup, 1) := by decide +kernel
theorem dX0_tell_128 : decode cX0_tell 128 = .ok (.getfield 18, 3) := by decide +kernel
theorem dX0_tell_131 : decode cX0_tell 131 = .ok (.iconst 1, 1) := by decide +kernel
theorem dX0_tell_132 : decode cX0_tell 132 = .ok (.iadd, 1) := by decide +kernel
theorem dX0_tell_133 : decode cX0_tell 133 = .ok (.putfield 18, 3) := by decide +kernel
theorem dX0_tell_136 : decode cX0_tell 136 = .ok (.return_, 1) := by decide +kernel
set_option maxRecDepth 10000 in
theorem v_X0_tell_0 {C : aM → List Value → aH → aO → aH → Prop} {sc : Nat × (Nat → Int32)} {P : aO → aH → Prop} {σ : aH} {u : Nat} {a : Nat} {x1 : Int32} {x2 : Int32} (hG : G σ u) (ha : IsCh a)
    (h : wp C 0 cX0_tell 5 none false [] sc P 2 [(0, .ref a), (1, .int x1), (2, .int x2), (3, .int 0)] [] σ) :
    wp C 0 cX0_tell 5 none false [] sc P 0 [(0, .ref a), (1, .int x1), (2, .int x2)] [] σ := by
  refine w_iconst (v := 0) dX0_tell_0 (by decide) ?_
  refine w_istore_n (l' := [(3, .int 0), (0, .ref a), (1, .int x1), (2, .int x2)]) dX0_tell_1 rfl (by decide) rfl ?_
  exact w_weak (l' := [(0, .ref a), (1, .int x1), (2, .int x2), (3, .int 0)]) (by intro q hq; simp only [List.mem_cons, List.not_mem_nil, or_false] at hq ⊢; rcases hq with rfl | rfl | rfl | rfl <;> simp) h
set_option maxRecDepth 10000 in
theorem v_X0_tell_2 {C : aM → List Value → aH → aO → aH → Prop} {sc : Nat × (Nat → Int32)} {P : aO → aH → Prop} {σ : aH} {u : Nat} {a : Nat} {x1 : Int32} {x2 : Int32} {x3 : Int32} (hG : G σ u) (ha : IsCh a)
    (h : (((gI σ a 2) ≤ x3 → wp C 0 cX0_tell 5 none false [] sc P 26 [(0, .ref a), (1, .int x1), (2, .int x2), (3, .int x3)] [] σ) ∧ (¬ ((gI σ a 2) ≤ x3) → (vp_in x3 20 ∧ ((x1 ≤ (gI σ (a + 1) x3.toNatClampNeg) → wp C 0 cX0_tell 5 none false [] sc P 26 [(0, .ref a), (1, .int x1), (2, .int x2), (3, .int x3)] [] σ) ∧ (¬ (x1 ≤ (gI σ (a + 1) x3.toNatClampNeg)) → wp C 0 cX0_tell 5 none false [] sc P 2 [(0, .ref a), (1, .int x1), (2, .int x2), (3, .int (x3 + 1))] [] σ)))))) :
    wp C 0 cX0_tell 5 none false [] sc P 2 [(0, .ref a), (1, .int x1), (2, .int x2), (3, .int x3)] [] σ := by
  refine w_iload_n dX0_tell_2 rfl (List.Mem.tail _ (List.Mem.tail _ (List.Mem.tail _ (List.Mem.head _)))) ?_
  refine w_aload_n dX0_tell_3 rfl (List.Mem.head _) ?_
  refine w_getI (ci := 0) (k := 2) dX0_tell_4 fl_0_18 (by decide) (gT hG (IsCh_t0 ha) (IsCh_lt ha (k := 0) (by decide))) ?_
  refine w_icmp_ge (tgt := 26) dX0_tell_7 rfl (fun c9 => ?_) (fun c9 => ?_)
  · replace h := h.1 c9
    exact h
  · replace h := h.2 c9
    refine w_aload_n dX0_tell_10 rfl (List.Mem.head _) ?_
    refine w_getR (ci := 0) (k := 0) (b := (a + 1)) dX0_tell_11 fl_0_9 (by decide) (gT hG (IsCh_t0 ha) (IsCh_lt ha (k := 0) (by decide))) (gR hG (IsCh_r0_0 ha)) ?_
    refine w_iload_n dX0_tell_14 rfl (List.Mem.tail _ (List.Mem.tail _ (List.Mem.tail _ (List.Mem.head _)))) ?_
    obtain ⟨h9, h⟩ := h
    refine x_iald (n := 20) x3.toNatClampNeg dX0_tell_15 (gT hG (IsCh_t1 ha) (IsCh_lt ha (k := 1) (by decide))) (gL hG (IsCh_n1 ha)) h9 rfl ?_
    refine w_iload_n dX0_tell_16 rfl (List.Mem.tail _ (List.Mem.head _)) ?_
    refine w_icmp_ge (tgt := 26) dX0_tell_17 rfl (fun c9 => ?_) (fun c9 => ?_)
    · replace h := h.1 c9
      exact h
    · replace h := h.2 c9
      refine w_iinc (v := x3 + 1) (l' := [(3, .int (x3 + 1)), (0, .ref a), (1, .int x1), (2, .int x2)]) dX0_tell_20 (List.Mem.tail _ (List.Mem.tail _ (List.Mem.tail _ (List.Mem.head _)))) rfl (by decide) rfl ?_
      refine w_goto (tgt := 2) dX0_tell_23 rfl ?_
      exact w_weak (l' := [(0, .ref a), (1, .int x1), (2, .int x2), (3, .int (x3 + 1))]) (by intro q hq; simp only [List.mem_cons, List.not_mem_nil, or_false] at hq ⊢; rcases hq with rfl | rfl | rfl | rfl <;> simp) h
set_option maxRecDepth 10000 in
theorem v_X0_tell_26 {C : aM → List Value → aH → aO → aH → Prop} {sc : Nat × (Nat → Int32)} {P : aO → aH → Prop} {σ : aH} {u : Nat} {a : Nat} {x1 : Int32} {x2 : Int32} {x3 : Int32} (hG : G σ u) (ha : IsCh a)
    (h : (((gI σ a 2) ≤ x3 → (((gI σ a 2) < 20 → (∀ z1 : Int32, z1 = (gI σ a 2) → wp C 0 cX0_tell 5 none false [] sc P 68 [(0, .ref a), (1, .int x1), (2, .int x2), (3, .int x3), (4, .int z1)] [] σ)) ∧ (¬ ((gI σ a 2) < 20) → P (.inl none) σ))) ∧ (¬ ((gI σ a 2) ≤ x3) → (vp_in x3 20 ∧ ((¬ (gI σ (a + 1) x3.toNatClampNeg) = x1 → (((gI σ a 2) < 20 → (∀ z3 : Int32, z3 = (gI σ a 2) → wp C 0 cX0_tell 5 none false [] sc P 68 [(0, .ref a), (1, .int x1), (2, .int x2), (3, .int x3), (4, .int z3)] [] σ)) ∧ (¬ ((gI σ a 2) < 20) → P (.inl none) σ))) ∧ ((gI σ (a + 1) x3.toNatClampNeg) = x1 → (vp_in x3 20 ∧ (∀ σ5 : aH, sI σ (a + 2) x3.toNatClampNeg x2 = σ5 → P (.inl none) σ5)))))))) :
    wp C 0 cX0_tell 5 none false [] sc P 26 [(0, .ref a), (1, .int x1), (2, .int x2), (3, .int x3)] [] σ := by
  refine w_iload_n dX0_tell_26 rfl (List.Mem.tail _ (List.Mem.tail _ (List.Mem.tail _ (List.Mem.head _)))) ?_
  refine w_aload_n dX0_tell_27 rfl (List.Mem.head _) ?_
  refine w_getI (ci := 0) (k := 2) dX0_tell_28 fl_0_18 (by decide) (gT hG (IsCh_t0 ha) (IsCh_lt ha (k := 0) (by decide))) ?_
  refine w_icmp_ge (tgt := 52) dX0_tell_31 rfl (fun c9 => ?_) (fun c9 => ?_)
  · replace h := h.1 c9
    refine w_aload_n dX0_tell_52 rfl (List.Mem.head _) ?_
    refine w_getI (ci := 0) (k := 2) dX0_tell_53 fl_0_18 (by decide) (gT hG (IsCh_t0 ha) (IsCh_lt ha (k := 0) (by decide))) ?_
    refine w_bipush (v := 20) dX0_tell_56 (by decide) ?_
    refine w_icmp_lt (tgt := 62) dX0_tell_58 rfl (fun c9 => ?_) (fun c9 => ?_)
    · replace h := h.1 c9
      refine w_aload_n dX0_tell_62 rfl (List.Mem.head _) ?_
      refine w_getI (ci := 0) (k := 2) dX0_tell_63 fl_0_18 (by decide) (gT hG (IsCh_t0 ha) (IsCh_lt ha (k := 0) (by decide))) ?_
      refine top_i (fun z1 ez2 => ?_)
      replace h := h z1 ez2
      refine w_istore (l' := [(4, .int z1), (0, .ref a), (1, .int x1), (2, .int x2), (3, .int x3)]) dX0_tell_66 (by decide) rfl ?_
      exact w_weak (l' := [(0, .ref a), (1, .int x1), (2, .int x2), (3, .int x3), (4, .int z1)]) (by intro q hq; simp only [List.mem_cons, List.not_mem_nil, or_false] at hq ⊢; rcases hq with rfl | rfl | rfl | rfl | rfl <;> simp) h
    · replace h := h.2 c9
      exact w_vret dX0_tell_61 rfl h
  · replace h := h.2 c9
    refine w_aload_n dX0_tell_34 rfl (List.Mem.head _) ?_
    refine w_getR (ci := 0) (k := 0) (b := (a + 1)) dX0_tell_35 fl_0_9 (by decide) (gT hG (IsCh_t0 ha) (IsCh_lt ha (k := 0) (by decide))) (gR hG (IsCh_r0_0 ha)) ?_
    refine w_iload_n dX0_tell_38 rfl (List.Mem.tail _ (List.Mem.tail _ (List.Mem.tail _ (List.Mem.head _)))) ?_
    obtain ⟨h9, h⟩ := h
    refine x_iald (n := 20) x3.toNatClampNeg dX0_tell_39 (gT hG (IsCh_t1 ha) (IsCh_lt ha (k := 1) (by decide))) (gL hG (IsCh_n1 ha)) h9 rfl ?_
    refine w_iload_n dX0_tell_40 rfl (List.Mem.tail _ (List.Mem.head _)) ?_
    refine w_icmp_ne (tgt := 52) dX0_tell_41 rfl (fun c9 => ?_) (fun c9 => ?_)
    · replace h := h.1 c9
      refine w_aload_n dX0_tell_52 rfl (List.Mem.head _) ?_
      refine w_getI (ci := 0) (k := 2) dX0_tell_53 fl_0_18 (by decide) (gT hG (IsCh_t0 ha) (IsCh_lt ha (k := 0) (by decide))) ?_
      refine w_bipush (v := 20) dX0_tell_56 (by decide) ?_
      refine w_icmp_lt (tgt := 62) dX0_tell_58 rfl (fun c9 => ?_) (fun c9 => ?_)
      · replace h := h.1 c9
        refine w_aload_n dX0_tell_62 rfl (List.Mem.head _) ?_
        refine w_getI (ci := 0) (k := 2) dX0_tell_63 fl_0_18 (by decide) (gT hG (IsCh_t0 ha) (IsCh_lt ha (k := 0) (by decide))) ?_
        refine top_i (fun z3 ez4 => ?_)
        replace h := h z3 ez4
        refine w_istore (l' := [(4, .int z3), (0, .ref a), (1, .int x1), (2, .int x2), (3, .int x3)]) dX0_tell_66 (by decide) rfl ?_
        exact w_weak (l' := [(0, .ref a), (1, .int x1), (2, .int x2), (3, .int x3), (4, .int z3)]) (by intro q hq; simp only [List.mem_cons, List.not_mem_nil, or_false] at hq ⊢; rcases hq with rfl | rfl | rfl | rfl | rfl <;> simp) h
      · replace h := h.2 c9
        exact w_vret dX0_tell_61 rfl h
    · replace h := h.2 c9
      refine w_aload_n dX0_tell_44 rfl (List.Mem.head _) ?_
      refine w_getR (ci := 0) (k := 1) (b := (a + 2)) dX0_tell_45 fl_0_15 (by decide) (gT hG (IsCh_t0 ha) (IsCh_lt ha (k := 0) (by decide))) (gR hG (IsCh_r0_1 ha)) ?_
      refine w_iload_n dX0_tell_48 rfl (List.Mem.tail _ (List.Mem.tail _ (List.Mem.tail _ (List.Mem.head _)))) ?_
      refine w_iload_n dX0_tell_49 rfl (List.Mem.tail _ (List.Mem.tail _ (List.Mem.head _))) ?_
      obtain ⟨h9, h⟩ := h
      refine y_iast (n := 20) x3.toNatClampNeg dX0_tell_50 (gT hG (IsCh_t2 ha) (IsCh_lt ha (k := 2) (by decide))) (gL hG (IsCh_n2 ha)) h9 rfl (fun σ5 eσ6 => ?_)
      replace h := h σ5 eσ6
      have hG7 : G σ5 u := eσ6 ▸ G.sI hG
      exact w_vret dX0_tell_51 rfl h
set_option maxRecDepth 10000 in
theorem v_X0_tell_68 {C : aM → List Value → aH → aO → aH → Prop} {sc : Nat × (Nat → Int32)} {P : aO → aH → Prop} {σ : aH} {u : Nat} {a : Nat} {x1 : Int32} {x2 : Int32} {x3 : Int32} {x4 : Int32} (hG : G σ u) (ha : IsCh a)
    (h : ((x4 ≤ x3 → (vp_in x3 20 ∧ (∀ σ1 : aH, sI σ (a + 1) x3.toNatClampNeg x1 = σ1 → (vp_in x3 20 ∧ (∀ σ4 : aH, sI σ1 (a + 2) x3.toNatClampNeg x2 = σ4 → (∀ σ7 : aH, sI σ4 a 2 ((gI σ4 a 2) + 1) = σ7 → P (.inl none) σ7)))))) ∧ (¬ (x4 ≤ x3) → (vp_in (x4 - 1) 20 ∧ (vp_in x4 20 ∧ (∀ σ10 : aH, sI σ (a + 1) x4.toNatClampNeg (gI σ (a + 1) ((x4 - 1).toNatClampNeg)) = σ10 → (vp_in (x4 - 1) 20 ∧ (vp_in x4 20 ∧ (∀ σ13 : aH, sI σ10 (a + 2) x4.toNatClampNeg (gI σ10 (a + 2) ((x4 - 1).toNatClampNeg)) = σ13 → wp C 0 cX0_tell 5 none false [] sc P 68 [(0, .ref a), (1, .int x1), (2, .int x2), (3, .int x3), (4, .int (x4 + (-1)))] [] σ13))))))))) :
    wp C 0 cX0_tell 5 none false [] sc P 68 [(0, .ref a), (1, .int x1), (2, .int x2), (3, .int x3), (4, .int x4)] [] σ := by
  refine w_iload dX0_tell_68 (List.Mem.tail _ (List.Mem.tail _ (List.Mem.tail _ (List.Mem.tail _ (List.Mem.head _))))) ?_
  refine w_iload_n dX0_tell_70 rfl (List.Mem.tail _ (List.Mem.tail _ (List.Mem.tail _ (List.Mem.head _)))) ?_
  refine w_icmp_le (tgt := 112) dX0_tell_71 rfl (fun c9 => ?_) (fun c9 => ?_)
  · replace h := h.1 c9
    refine w_aload_n dX0_tell_112 rfl (List.Mem.head _) ?_
    refine w_getR (ci := 0) (k := 0) (b := (a + 1)) dX0_tell_113 fl_0_9 (by decide) (gT hG (IsCh_t0 ha) (IsCh_lt ha (k := 0) (by decide))) (gR hG (IsCh_r0_0 ha)) ?_
    refine w_iload_n dX0_tell_116 rfl (List.Mem.tail _ (List.Mem.tail _ (List.Mem.tail _ (List.Mem.head _)))) ?_
    refine w_iload_n dX0_tell_117 rfl (List.Mem.tail _ (List.Mem.head _)) ?_
    obtain ⟨h9, h⟩ := h
    refine y_iast (n := 20) x3.toNatClampNeg dX0_tell_118 (gT hG (IsCh_t1 ha) (IsCh_lt ha (k := 1) (by decide))) (gL hG (IsCh_n1 ha)) h9 rfl (fun σ1 eσ2 => ?_)
    replace h := h σ1 eσ2
    have hG3 : G σ1 u := eσ2 ▸ G.sI hG
    refine w_aload_n dX0_tell_119 rfl (List.Mem.head _) ?_
    refine w_getR (ci := 0) (k := 1) (b := (a + 2)) dX0_tell_120 fl_0_15 (by decide) (gT hG3 (IsCh_t0 ha) (IsCh_lt ha (k := 0) (by decide))) (gR hG3 (IsCh_r0_1 ha)) ?_
    refine w_iload_n dX0_tell_123 rfl (List.Mem.tail _ (List.Mem.tail _ (List.Mem.tail _ (List.Mem.head _)))) ?_
    refine w_iload_n dX0_tell_124 rfl (List.Mem.tail _ (List.Mem.tail _ (List.Mem.head _))) ?_
    obtain ⟨h9, h⟩ := h
    refine y_iast (n := 20) x3.toNatClampNeg dX0_tell_125 (gT hG3 (IsCh_t2 ha) (IsCh_lt ha (k := 2) (by decide))) (gL hG3 (IsCh_n2 ha)) h9 rfl (fun σ4 eσ5 => ?_)
    replace h := h σ4 eσ5
    have hG6 : G σ4 u := eσ5 ▸ G.sI hG3
    refine w_aload_n dX0_tell_126 rfl (List.Mem.head _) ?_
    refine w_dup dX0_tell_127 rfl ?_
    refine w_getI (ci := 0) (k := 2) dX0_tell_128 fl_0_18 (by decide) (gT hG6 (IsCh_t0 ha) (IsCh_lt ha (k := 0) (by decide))) ?_
    refine w_iconst (v := 1) dX0_tell_131 (by decide) ?_
    refine w_iadd dX0_tell_132 ?_
    refine y_putI (ci := 0) (k := 2) dX0_tell_133 fl_0_18 (by decide) (gT hG6 (IsCh_t0 ha) (IsCh_lt ha (k := 0) (by decide))) (fun σ7 eσ8 => ?_)
    replace h := h σ7 eσ8
    have hG9 : G σ7 u := eσ8 ▸ G.sI hG6
    exact w_vret dX0_tell_136 rfl h
  · replace h := h.2 c9
    refine w_aload_n dX0_tell_74 rfl (List.Mem.head _) ?_
    refine w_getR (ci := 0) (k := 0) (b := (a + 1)) dX0_tell_75 fl_0_9 (by decide) (gT hG (IsCh_t0 ha) (IsCh_lt ha (k := 0) (by decide))) (gR hG (IsCh_r0_0 ha)) ?_
    refine w_iload dX0_tell_78 (List.Mem.tail _ (List.Mem.tail _ (List.Mem.tail _ (List.Mem.tail _ (List.Mem.head _))))) ?_
    refine w_aload_n dX0_tell_80 rfl (List.Mem.head _) ?_
    refine w_getR (ci := 0) (k := 0) (b := (a + 1)) dX0_tell_81 fl_0_9 (by decide) (gT hG (IsCh_t0 ha) (IsCh_lt ha (k := 0) (by decide))) (gR hG (IsCh_r0_0 ha)) ?_
    refine w_iload dX0_tell_84 (List.Mem.tail _ (List.Mem.tail _ (List.Mem.tail _ (List.Mem.tail _ (List.Mem.head _))))) ?_
    refine w_iconst (v := 1) dX0_tell_86 (by decide) ?_
    refine w_isub dX0_tell_87 ?_
    obtain ⟨h9, h⟩ := h
    refine x_iald (n := 20) ((x4 - 1).toNatClampNeg) dX0_tell_88 (gT hG (IsCh_t1 ha) (IsCh_lt ha (k := 1) (by decide))) (gL hG (IsCh_n1 ha)) h9 rfl ?_
    obtain ⟨h9, h⟩ := h
    refine y_iast (n := 20) x4.toNatClampNeg dX0_tell_89 (gT hG (IsCh_t1 ha) (IsCh_lt ha (k := 1) (by decide))) (gL hG (IsCh_n1 ha)) h9 rfl (fun σ10 eσ11 => ?_)
    replace h := h σ10 eσ11
    have hG12 : G σ10 u := eσ11 ▸ G.sI hG
    refine w_aload_n dX0_tell_90 rfl (List.Mem.head _) ?_
    refine w_getR (ci := 0) (k := 1) (b := (a + 2)) dX0_tell_91 fl_0_15 (by decide) (gT hG12 (IsCh_t0 ha) (IsCh_lt ha (k := 0) (by decide))) (gR hG12 (IsCh_r0_1 ha)) ?_
    refine w_iload dX0_tell_94 (List.Mem.tail _ (List.Mem.tail _ (List.Mem.tail _ (List.Mem.tail _ (List.Mem.head _))))) ?_
    refine w_aload_n dX0_tell_96 rfl (List.Mem.head _) ?_
    refine w_getR (ci := 0) (k := 1) (b := (a + 2)) dX0_tell_97 fl_0_15 (by decide) (gT hG12 (IsCh_t0 ha) (IsCh_lt ha (k := 0) (by decide))) (gR hG12 (IsCh_r0_1 ha)) ?_
    refine w_iload dX0_tell_100 (List.Mem.tail _ (List.Mem.tail _ (List.Mem.tail _ (List.Mem.tail _ (List.Mem.head _))))) ?_
    refine w_iconst (v := 1) dX0_tell_102 (by decide) ?_
    refine w_isub dX0_tell_103 ?_
    obtain ⟨h9, h⟩ := h
    refine x_iald (n := 20) ((x4 - 1).toNatClampNeg) dX0_tell_104 (gT hG12 (IsCh_t2 ha) (IsCh_lt ha (k := 2) (by decide))) (gL hG12 (IsCh_n2 ha)) h9 rfl ?_
    obtain ⟨h9, h⟩ := h
    refine y_iast (n := 20) x4.toNatClampNeg dX0_tell_105 (gT hG12 (IsCh_t2 ha) (IsCh_lt ha (k := 2) (by decide))) (gL hG12 (IsCh_n2 ha)) h9 rfl (fun σ13 eσ14 => ?_)
    replace h := h σ13 eσ14
    have hG15 : G σ13 u := eσ14 ▸ G.sI hG12
    refine w_iinc (v := x4 + (-1)) (l' := [(4, .int (x4 + (-1))), (0, .ref a), (1, .int x1), (2, .int x2), (3, .int x3)]) dX0_tell_106 (List.Mem.tail _ (List.Mem.tail _ (List.Mem.tail _ (List.Mem.tail _ (List.Mem.head _))))) rfl (by decide) rfl ?_
    refine w_goto (tgt := 68) dX0_tell_109 rfl ?_
    exact w_weak (l' := [(0, .ref a), (1, .int x1), (2, .int x2), (3, .int x3), (4, .int (x4 + (-1)))]) (by intro q hq; simp only [List.mem_cons, List.not_mem_nil, or_false] at hq ⊢; rcases hq with rfl | rfl | rfl | rfl | rfl <;> simp) h
theorem dX0_endOf_0 : decode cX0_endOf 0 = .ok (.iload_n 1, 1) := by decide +kernel
theorem dX0_endOf_1 : decode cX0_endOf 1 = .ok (.iconst 1, 1) := by decide +kernel
theorem dX0_endOf_2 : decode cX0_endOf 2 = .ok (.iadd, 1) := by decide +kernel
theorem dX0_endOf_3 : decode cX0_endOf 3 = .ok (.aload_n 0, 1) := by decide +kernel
theorem dX0_endOf_4 : decode cX0_endOf 4 = .ok (.getfield 18, 3) := by decide +kernel
theorem dX0_endOf_7 : decode cX0_endOf 7 = .ok (.if_icmp .ge 14, 3) := by decide +kernel
theorem dX0_endOf_10 : decode cX0_endOf 10 = .ok (.aload_n 0, 1) := by decide +kernel
theorem dX0_endOf_11 : decode cX0_endOf 11 = .ok (.getfield 9, 3) := by decide +kernel
theorem dX0_endOf_14 : decode cX0_endOf 14 = .ok (.iload_n 1, 1) := by decide +kernel
theorem dX0_endOf_15 : decode cX0_endOf 15 = .ok (.iconst 1, 1) := by decide +kernel
theorem dX0_endOf_16 : decode cX0_endOf 16 = .ok (.iadd, 1) := by decide +kernel
theorem dX0_endOf_17 : decode cX0_endOf 17 = .ok (.iaload, 1) := by decide +kernel
theorem dX0_endOf_18 : decode cX0_endOf 18 = .ok (.goto 6, 3) := by decide +kernel
theorem dX0_endOf_21 : decode cX0_endOf 21 = .ok (.sipush 1440, 3) := by decide +kernel
theorem dX0_endOf_24 : decode cX0_endOf 24 = .ok (.ireturn, 1) := by decide +kernel
set_option maxRecDepth 10000 in
theorem v_X0_endOf_0 {C : aM → List Value → aH → aO → aH → Prop} {sc : Nat × (Nat → Int32)} {P : aO → aH → Prop} {σ : aH} {u : Nat} {a : Nat} {x1 : Int32} (hG : G σ u) (ha : IsCh a)
    (h : (((gI σ a 2) ≤ (x1 + 1) → P (.inl (some (.int 1440))) σ) ∧ (¬ ((gI σ a 2) ≤ (x1 + 1)) → (vp_in (x1 + 1) 20 ∧ P (.inl (some (.int (gI σ (a + 1) ((x1 + 1).toNatClampNeg))))) σ)))) :
    wp C 0 cX0_endOf 2 (some .int) false [] sc P 0 [(0, .ref a), (1, .int x1)] [] σ := by
  refine w_iload_n dX0_endOf_0 rfl (List.Mem.tail _ (List.Mem.head _)) ?_
  refine w_iconst (v := 1) dX0_endOf_1 (by decide) ?_
  refine w_iadd dX0_endOf_2 ?_
  refine w_aload_n dX0_endOf_3 rfl (List.Mem.head _) ?_
  refine w_getI (ci := 0) (k := 2) dX0_endOf_4 fl_0_18 (by decide) (gT hG (IsCh_t0 ha) (IsCh_lt ha (k := 0) (by decide))) ?_
  refine w_icmp_ge (tgt := 21) dX0_endOf_7 rfl (fun c9 => ?_) (fun c9 => ?_)
  · replace h := h.1 c9
    refine w_sipush (v := 1440) dX0_endOf_21 (by decide) ?_
    exact w_iret dX0_endOf_24 rfl h
  · replace h := h.2 c9
    refine w_aload_n dX0_endOf_10 rfl (List.Mem.head _) ?_
    refine w_getR (ci := 0) (k := 0) (b := (a + 1)) dX0_endOf_11 fl_0_9 (by decide) (gT hG (IsCh_t0 ha) (IsCh_lt ha (k := 0) (by decide))) (gR hG (IsCh_r0_0 ha)) ?_
    refine w_iload_n dX0_endOf_14 rfl (List.Mem.tail _ (List.Mem.head _)) ?_
    refine w_iconst (v := 1) dX0_endOf_15 (by decide) ?_
    refine w_iadd dX0_endOf_16 ?_
    obtain ⟨h9, h⟩ := h
    refine x_iald (n := 20) ((x1 + 1).toNatClampNeg) dX0_endOf_17 (gT hG (IsCh_t1 ha) (IsCh_lt ha (k := 1) (by decide))) (gL hG (IsCh_n1 ha)) h9 rfl ?_
    refine w_goto (tgt := 24) dX0_endOf_18 rfl ?_
    exact w_iret dX0_endOf_24 rfl h
theorem dX0_valueAt_0 : decode cX0_valueAt 0 = .ok (.iload_n 2, 1) := by decide +kernel
theorem dX0_valueAt_1 : decode cX0_valueAt 1 = .ok (.istore_n 3, 1) := by decide +kernel
theorem dX0_valueAt_2 : decode cX0_valueAt 2 = .ok (.iconst 0, 1) := by decide +kernel
theorem dX0_valueAt_3 : decode cX0_valueAt 3 = .ok (.istore 4, 2) := by decide +kernel
theorem dX0_valueAt_5 : decode cX0_valueAt 5 = .ok (.iload 4, 2) := by decide +kernel
theorem dX0_valueAt_7 : decode cX0_valueAt 7 = .ok (.aload_n 0, 1) := by decide +kernel
theorem dX0_valueAt_8 : decode cX0_valueAt 8 = .ok (.getfield 18, 3) := by decide +kernel
theorem dX0_valueAt_11 : decode cX0_valueAt 11 = .ok (.if_icmp .ge 28, 3) := by decide +kernel
theorem dX0_valueAt_14 : decode cX0_valueAt 14 = .ok (.aload_n 0, 1) := by decide +kernel
theorem dX0_valueAt_15 : decode cX0_valueAt 15 = .ok (.getfield 9, 3) := by decide +kernel
theorem dX0_valueAt_18 : decode cX0_valueAt 18 = .ok (.iload 4, 2) := by decide +kernel
theorem dX0_valueAt_20 : decode cX0_valueAt 20 = .ok (.iaload, 1) := by decide +kernel
theorem dX0_valueAt_21 : decode cX0_valueAt 21 = .ok (.iload_n 1, 1) := by decide +kernel
theorem dX0_valueAt_22 : decode cX0_valueAt 22 = .ok (.if_icmp .gt 17, 3) := by decide +kernel
theorem dX0_valueAt_25 : decode cX0_valueAt 25 = .ok (.aload_n 0, 1) := by decide +kernel
theorem dX0_valueAt_26 : decode cX0_valueAt 26 = .ok (.getfield 15, 3) := by decide +kernel
theorem dX0_valueAt_29 : decode cX0_valueAt 29 = .ok (.iload 4, 2) := by decide +kernel
theorem dX0_valueAt_31 : decode cX0_valueAt 31 = .ok (.iaload, 1) := by decide +kernel
theorem dX0_valueAt_32 : decode cX0_valueAt 32 = .ok (.istore_n 3, 1) := by decide +kernel
theorem dX0_valueAt_33 : decode cX0_valueAt 33 = .ok (.iinc 4 1, 3) := by decide +kernel
theorem dX0_valueAt_36 : decode cX0_valueAt 36 = .ok (.goto (-31), 3) := by decide +kernel
theorem dX0_valueAt_39 : decode cX0_valueAt 39 = .ok (.iload_n 3, 1) := by decide +kernel
theorem dX0_valueAt_40 : decode cX0_valueAt 40 = .ok (.ireturn, 1) := by decide +kernel
set_option maxRecDepth 10000 in
theorem v_X0_valueAt_0 {C : aM → List Value → aH → aO → aH → Prop} {sc : Nat × (Nat → Int32)} {P : aO → aH → Prop} {σ : aH} {u : Nat} {a : Nat} {x1 : Int32} {x2 : Int32} (hG : G σ u) (ha : IsCh a)
    (h : wp C 0 cX0_valueAt 5 (some .int) false [] sc P 5 [(0, .ref a), (1, .int x1), (2, .int x2), (3, .int x2), (4, .int 0)] [] σ) :
    wp C 0 cX0_valueAt 5 (some .int) false [] sc P 0 [(0, .ref a), (1, .int x1), (2, .int x2)] [] σ := by
  refine w_iload_n dX0_valueAt_0 rfl (List.Mem.tail _ (List.Mem.tail _ (List.Mem.head _))) ?_
  refine w_istore_n (l' := [(3, .int x2), (0, .ref a), (1, .int x1), (2, .int x2)]) dX0_valueAt_1 rfl (by decide) rfl ?_
  refine w_iconst (v := 0) dX0_valueAt_2 (by decide) ?_
  refine w_istore (l' := [(4, .int 0), (3, .int x2), (0, .ref a), (1, .int x1), (2, .int x2)]) dX0_valueAt_3 (by decide) rfl ?_
  exact w_weak (l' := [(0, .ref a), (1, .int x1), (2, .int x2), (3, .int x2), (4, .int 0)]) (by intro q hq; simp only [List.mem_cons, List.not_mem_nil, or_false] at hq ⊢; rcases hq with rfl | rfl | rfl | rfl | rfl <;> simp) h
set_option maxRecDepth 10000 in
theorem v_X0_valueAt_5 {C : aM → List Value → aH → aO → aH → Prop} {sc : Nat × (Nat → Int32)} {P : aO → aH → Prop} {σ : aH} {u : Nat} {a : Nat} {x1 : Int32} {x2 : Int32} {x3 : Int32} {x4 : Int32} (hG : G σ u) (ha : IsCh a)
    (h : (((gI σ a 2) ≤ x4 → P (.inl (some (.int x3))) σ) ∧ (¬ ((gI σ a 2) ≤ x4) → (vp_in x4 20 ∧ ((x1 < (gI σ (a + 1) x4.toNatClampNeg) → P (.inl (some (.int x3))) σ) ∧ (¬ (x1 < (gI σ (a + 1) x4.toNatClampNeg)) → (vp_in x4 20 ∧ (∀ z1 : Int32, z1 = (gI σ (a + 2) x4.toNatClampNeg) → wp C 0 cX0_valueAt 5 (some .int) false [] sc P 5 [(0, .ref a), (1, .int x1), (2, .int x2), (3, .int z1), (4, .int (x4 + 1))] [] σ)))))))) :
    wp C 0 cX0_valueAt 5 (some .int) false [] sc P 5 [(0, .ref a), (1, .int x1), (2, .int x2), (3, .int x3), (4, .int x4)] [] σ := by
  refine w_iload dX0_valueAt_5 (List.Mem.tail _ (List.Mem.tail _ (List.Mem.tail _ (List.Mem.tail _ (List.Mem.head _))))) ?_
  refine w_aload_n dX0_valueAt_7 rfl (List.Mem.head _) ?_
  refine w_getI (ci := 0) (k := 2) dX0_valueAt_8 fl_0_18 (by decide) (gT hG (IsCh_t0 ha) (IsCh_lt ha (k := 0) (by decide))) ?_
  refine w_icmp_ge (tgt := 39) dX0_valueAt_11 rfl (fun c9 => ?_) (fun c9 => ?_)
  · replace h := h.1 c9
    refine w_iload_n dX0_valueAt_39 rfl (List.Mem.tail _ (List.Mem.tail _ (List.Mem.tail _ (List.Mem.head _)))) ?_
    exact w_iret dX0_valueAt_40 rfl h
  · replace h := h.2 c9
    refine w_aload_n dX0_valueAt_14 rfl (List.Mem.head _) ?_
    refine w_getR (ci := 0) (k := 0) (b := (a + 1)) dX0_valueAt_15 fl_0_9 (by decide) (gT hG (IsCh_t0 ha) (IsCh_lt ha (k := 0) (by decide))) (gR hG (IsCh_r0_0 ha)) ?_
    refine w_iload dX0_valueAt_18 (List.Mem.tail _ (List.Mem.tail _ (List.Mem.tail _ (List.Mem.tail _ (List.Mem.head _))))) ?_
    obtain ⟨h9, h⟩ := h
    refine x_iald (n := 20) x4.toNatClampNeg dX0_valueAt_20 (gT hG (IsCh_t1 ha) (IsCh_lt ha (k := 1) (by decide))) (gL hG (IsCh_n1 ha)) h9 rfl ?_
    refine w_iload_n dX0_valueAt_21 rfl (List.Mem.tail _ (List.Mem.head _)) ?_
    refine w_icmp_gt (tgt := 39) dX0_valueAt_22 rfl (fun c9 => ?_) (fun c9 => ?_)
    · replace h := h.1 c9
      refine w_iload_n dX0_valueAt_39 rfl (List.Mem.tail _ (List.Mem.tail _ (List.Mem.tail _ (List.Mem.head _)))) ?_
      exact w_iret dX0_valueAt_40 rfl h
    · replace h := h.2 c9
      refine w_aload_n dX0_valueAt_25 rfl (List.Mem.head _) ?_
      refine w_getR (ci := 0) (k := 1) (b := (a + 2)) dX0_valueAt_26 fl_0_15 (by decide) (gT hG (IsCh_t0 ha) (IsCh_lt ha (k := 0) (by decide))) (gR hG (IsCh_r0_1 ha)) ?_
      refine w_iload dX0_valueAt_29 (List.Mem.tail _ (List.Mem.tail _ (List.Mem.tail _ (List.Mem.tail _ (List.Mem.head _))))) ?_
      obtain ⟨h9, h⟩ := h
      refine x_iald (n := 20) x4.toNatClampNeg dX0_valueAt_31 (gT hG (IsCh_t2 ha) (IsCh_lt ha (k := 2) (by decide))) (gL hG (IsCh_n2 ha)) h9 rfl ?_
      refine top_i (fun z1 ez2 => ?_)
      replace h := h z1 ez2
      refine w_istore_n (l' := [(3, .int z1), (0, .ref a), (1, .int x1), (2, .int x2), (4, .int x4)]) dX0_valueAt_32 rfl (by decide) rfl ?_
      refine w_iinc (v := x4 + 1) (l' := [(4, .int (x4 + 1)), (3, .int z1), (0, .ref a), (1, .int x1), (2, .int x2)]) dX0_valueAt_33 (List.Mem.tail _ (List.Mem.tail _ (List.Mem.tail _ (List.Mem.tail _ (List.Mem.head _))))) rfl (by decide) rfl ?_
      refine w_goto (tgt := 5) dX0_valueAt_36 rfl ?_
      exact w_weak (l' := [(0, .ref a), (1, .int x1), (2, .int x2), (3, .int z1), (4, .int (x4 + 1))]) (by intro q hq; simp only [List.mem_cons, List.not_mem_nil, or_false] at hq ⊢; rcases hq with rfl | rfl | rfl | rfl | rfl <;> simp) h
