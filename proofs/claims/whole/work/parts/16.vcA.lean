theorem dX7_add_0 : decode cX7_add 0 = .ok (.aload_n 0, 1) := by decide +kernel
theorem dX7_add_1 : decode cX7_add 1 = .ok (.getfield 36, 3) := by decide +kernel
theorem dX7_add_4 : decode cX7_add 4 = .ok (.bipush 9, 2) := by decide +kernel
theorem dX7_add_6 : decode cX7_add 6 = .ok (.if_icmp .lt 4, 3) := by decide +kernel
theorem dX7_add_9 : decode cX7_add 9 = .ok (.return_, 1) := by decide +kernel
theorem dX7_add_10 : decode cX7_add 10 = .ok (.aload_n 0, 1) := by decide +kernel
theorem dX7_add_11 : decode cX7_add 11 = .ok (.getfield 9, 3) := by decide +kernel
theorem dX7_add_14 : decode cX7_add 14 = .ok (.aload_n 0, 1) := by decide +kernel
theorem dX7_add_15 : decode cX7_add 15 = .ok (.getfield 36, 3) := by decide +kernel
theorem dX7_add_18 : decode cX7_add 18 = .ok (.iload_n 1, 1) := by decide +kernel
theorem dX7_add_19 : decode cX7_add 19 = .ok (.iastore, 1) := by decide +kernel
theorem dX7_add_20 : decode cX7_add 20 = .ok (.aload_n 0, 1) := by decide +kernel
theorem dX7_add_21 : decode cX7_add 21 = .ok (.getfield 15, 3) := by decide +kernel
theorem dX7_add_24 : decode cX7_add 24 = .ok (.aload_n 0, 1) := by decide +kernel
theorem dX7_add_25 : decode cX7_add 25 = .ok (.getfield 36, 3) := by decide +kernel
theorem dX7_add_28 : decode cX7_add 28 = .ok (.iload_n 2, 1) := by decide +kernel
theorem dX7_add_29 : decode cX7_add 29 = .ok (.iastore, 1) := by decide +kernel
theorem dX7_add_30 : decode cX7_add 30 = .ok (.aload_n 0, 1) := by decide +kernel
theorem dX7_add_31 : decode cX7_add 31 = .ok (.getfield 18, 3) := by decide +kernel
theorem dX7_add_34 : decode cX7_add 34 = .ok (.aload_n 0, 1) := by decide +kernel
theorem dX7_add_35 : decode cX7_add 35 = .ok (.getfield 36, 3) := by decide +kernel
theorem dX7_add_38 : decode cX7_add 38 = .ok (.iload_n 3, 1) := by decide +kernel
theorem dX7_add_39 : decode cX7_add 39 = .ok (.iastore, 1) := by decide +kernel
theorem dX7_add_40 : decode cX7_add 40 = .ok (.aload_n 0, 1) := by decide +kernel
theorem dX7_add_41 : decode cX7_add 41 = .ok (.getfield 21, 3) := by decide +kernel
theorem dX7_add_44 : decode cX7_add 44 = .ok (.aload_n 0, 1) := by decide +kernel
theorem dX7_add_45 : decode cX7_add 45 = .ok (.getfield 36, 3) := by decide +kernel
theorem dX7_add_48 : decode cX7_add 48 = .ok (.iconst 0, 1) := by decide +kernel
theorem dX7_add_49 : decode cX7_add 49 = .ok (.iastore, 1) := by decide +kernel
theorem dX7_add_50 : decode cX7_add 50 = .ok (.aload_n 0, 1) := by decide +kernel
theorem dX7_add_51 : decode cX7_add 51 = .ok (.getfield 24, 3) := by decide +kernel
theorem dX7_add_54 : decode cX7_add 54 = .ok (.aload_n 0, 1) := by decide +kernel
theorem dX7_add_55 : decode cX7_add 55 = .ok (.getfield 36, 3) := by decide +kernel
theorem dX7_add_58 : decode cX7_add 58 = .ok (.iconst 0, 1) := by decide +kernel
theorem dX7_add_59 : decode cX7_add 59 = .ok (.iastore, 1) := by decide +kernel
theorem dX7_add_60 : decode cX7_add 60 = .ok (.aload_n 0, 1) := by decide +kernel
theorem dX7_add_61 : decode cX7_add 61 = .ok (.getfield 27, 3) := by decide +kernel
theorem dX7_add_64 : decode cX7_add 64 = .ok (.aload_n 0, 1) := by decide +kernel
theorem dX7_add_65 : decode cX7_add 65 = .ok (.getfield 36, 3) := by decide +kernel
theorem dX7_add_68 : decode cX7_add 68 = .ok (.iconst 0, 1) := by decide +kernel
theorem dX7_add_69 : decode cX7_add 69 = .ok (.iastore, 1) := by decide +kernel
theorem dX7_add_70 : decode cX7_add 70 = .ok (.aload_n 0, 1) := by decide +kernel
theorem dX7_add_71 : decode cX7_add 71 = .ok (.getfield 30, 3) := by decide +kernel
theorem dX7_add_74 : decode cX7_add 74 = .ok (.aload_n 0, 1) := by decide +kernel
theorem dX7_add_75 : decode cX7_add 75 = .ok (.getfield 36, 3) := by decide +kernel
theorem dX7_add_78 : decode cX7_add 78 = .ok (.iconst 0, 1) := by decide +kernel
theorem dX7_add_79 : decode cX7_add 79 = .ok (.iastore, 1) := by decide +kernel
theorem dX7_add_80 : decode cX7_add 80 = .ok (.aload_n 0, 1) := by decide +kernel
theorem dX7_add_81 : decode cX7_add 81 = .ok (.getfield 33, 3) := by decide +kernel
theorem dX7_add_84 : decode cX7_add 84 = .ok (.aload_n 0, 1) := by decide +kernel
theorem dX7_add_85 : decode cX7_add 85 = .ok (.getfield 36, 3) := by decide +kernel
theorem dX7_add_88 : decode cX7_add 88 = .ok (.iconst (-1), 1) := by decide +kernel
theorem dX7_add_89 : decode cX7_add 89 = .ok (.iastore, 1) := by decide +kernel
theorem dX7_add_90 : decode cX7_add 90 = .ok (.aload_n 0, 1) := by decide +kernel
theorem dX7_add_91 : decode cX7_add 91 = .ok (.dup, 1) := by decide +kernel
theorem dX7_add_92 : decode cX7_add 92 = .ok (.getfield 36, 3) := by decide +kernel
theorem dX7_add_95 : decode cX7_add 95 = .ok (.iconst 1, 1) := by decide +kernel
theorem dX7_add_96 : decode cX7_add 96 = .ok (.iadd, 1) := by decide +kernel
theorem dX7_add_97 : decode cX7_add 97 = .ok (.putfield 36, 3) := by decide +kernel
theorem dX7_add_100 : decode cX7_add 100 = .ok (.return_, 1) := by decide +kernel
set_option maxRecDepth 10000 in
theorem t_X7_add {sc : Nat × (Nat → Int32)} {d : Nat} {Q : aO → aH → Prop} {σ : aH} {u : Nat} {v : Nat} {x1 : Int} {x2 : Int} {x3 : Int} (hG : G σ u) (hv : IsMk v) (rx1 : inR x1) (rx2 : inR x2) (rx3 : inR x3)
    (h : (((rI σ (v + 1) 8) < 9 → ((0 ≤ (rI σ (v + 1) 8) ∧ (rI σ (v + 1) 8) < 9) ∧ (∀ σ1 : aH, wI σ (v + 2) (rI σ (v + 1) 8) x1 = σ1 → ((0 ≤ (rI σ1 (v + 1) 8) ∧ (rI σ1 (v + 1) 8) < 9) ∧ (∀ σ4 : aH, wI σ1 (v + 3) (rI σ1 (v + 1) 8) x2 = σ4 → ((0 ≤ (rI σ4 (v + 1) 8) ∧ (rI σ4 (v + 1) 8) < 9) ∧ (∀ σ7 : aH, wI σ4 (v + 4) (rI σ4 (v + 1) 8) x3 = σ7 → ((0 ≤ (rI σ7 (v + 1) 8) ∧ (rI σ7 (v + 1) 8) < 9) ∧ (∀ σ10 : aH, wI σ7 (v + 5) (rI σ7 (v + 1) 8) 0 = σ10 → ((0 ≤ (rI σ10 (v + 1) 8) ∧ (rI σ10 (v + 1) 8) < 9) ∧ (∀ σ13 : aH, wI σ10 (v + 6) (rI σ10 (v + 1) 8) 0 = σ13 → ((0 ≤ (rI σ13 (v + 1) 8) ∧ (rI σ13 (v + 1) 8) < 9) ∧ (∀ σ16 : aH, wI σ13 (v + 7) (rI σ13 (v + 1) 8) 0 = σ16 → ((0 ≤ (rI σ16 (v + 1) 8) ∧ (rI σ16 (v + 1) 8) < 9) ∧ (∀ σ19 : aH, wI σ16 (v + 8) (rI σ16 (v + 1) 8) 0 = σ19 → ((0 ≤ (rI σ19 (v + 1) 8) ∧ (rI σ19 (v + 1) 8) < 9) ∧ (∀ σ22 : aH, wI σ19 (v + 9) (rI σ19 (v + 1) 8) (-1) = σ22 → (inR ((rI σ22 (v + 1) 8) + 1) ∧ (∀ σ26 : aH, wI σ22 (v + 1) 8 ((rI σ22 (v + 1) 8) + 1) = σ26 → Q (.inl none) σ26))))))))))))))))))) ∧ (¬ ((rI σ (v + 1) 8) < 9) → Q (.inl none) σ))) :
    T sc (d + 1) mX7_add [.ref (v + 1), .int (nZ x1), .int (nZ x2), .int (nZ x3)] σ Q := by
  refine T.of (c := 7) (code := cX7_add) (mL := 4) (rt := none) (ini := false) (l := [(0, .ref (v + 1)), (1, .int (nZ x1)), (2, .int (nZ x2)), (3, .int (nZ x3))]) rfl rfl rfl rfl (by decide) hs_X7_add rfl rfl ?_
  refine w_aload_n dX7_add_0 rfl (List.Mem.head _) ?_
  refine i_getI (ci := 7) 8 rfl dX7_add_1 fl_7_36 (by decide) (gT hG (IsMk_t1 hv) (IsMk_lt hv (k := 1) (by decide))) ?_
  refine w_bipush (v := nZ 9) dX7_add_4 (by decide) ?_
  refine i_cmp_lt (tgt := 10) dX7_add_6 rfl (rI_R _ _ _) (by decide) (fun c9 => ?_) (fun c9 => ?_)
  · replace h := h.1 c9
    refine w_aload_n dX7_add_10 rfl (List.Mem.head _) ?_
    refine w_getR (ci := 7) (k := 0) (b := (v + 2)) dX7_add_11 fl_7_9 (by decide) (gT hG (IsMk_t1 hv) (IsMk_lt hv (k := 1) (by decide))) (gR hG (IsMk_r1_0 hv)) ?_
    refine w_aload_n dX7_add_14 rfl (List.Mem.head _) ?_
    refine i_getI (ci := 7) 8 rfl dX7_add_15 fl_7_36 (by decide) (gT hG (IsMk_t1 hv) (IsMk_lt hv (k := 1) (by decide))) ?_
    refine w_iload_n dX7_add_18 rfl (List.Mem.tail _ (List.Mem.head _)) ?_
    obtain ⟨h9, h⟩ := h
    refine i_iast (n := 9) dX7_add_19 (gT hG (IsMk_t2 hv) (IsMk_lt hv (k := 2) (by decide))) (gL hG (IsMk_n2 hv)) (rI_R _ _ _) h9 (fun σ1 eσ2 => ?_)
    replace h := h σ1 eσ2
    have hG3 : G σ1 u := eσ2 ▸ G.wI hG
    refine w_aload_n dX7_add_20 rfl (List.Mem.head _) ?_
    refine w_getR (ci := 7) (k := 1) (b := (v + 3)) dX7_add_21 fl_7_15 (by decide) (gT hG3 (IsMk_t1 hv) (IsMk_lt hv (k := 1) (by decide))) (gR hG3 (IsMk_r1_1 hv)) ?_
    refine w_aload_n dX7_add_24 rfl (List.Mem.head _) ?_
    refine i_getI (ci := 7) 8 rfl dX7_add_25 fl_7_36 (by decide) (gT hG3 (IsMk_t1 hv) (IsMk_lt hv (k := 1) (by decide))) ?_
    refine w_iload_n dX7_add_28 rfl (List.Mem.tail _ (List.Mem.tail _ (List.Mem.head _))) ?_
    obtain ⟨h9, h⟩ := h
    refine i_iast (n := 9) dX7_add_29 (gT hG3 (IsMk_t3 hv) (IsMk_lt hv (k := 3) (by decide))) (gL hG3 (IsMk_n3 hv)) (rI_R _ _ _) h9 (fun σ4 eσ5 => ?_)
    replace h := h σ4 eσ5
    have hG6 : G σ4 u := eσ5 ▸ G.wI hG3
    refine w_aload_n dX7_add_30 rfl (List.Mem.head _) ?_
    refine w_getR (ci := 7) (k := 2) (b := (v + 4)) dX7_add_31 fl_7_18 (by decide) (gT hG6 (IsMk_t1 hv) (IsMk_lt hv (k := 1) (by decide))) (gR hG6 (IsMk_r1_2 hv)) ?_
    refine w_aload_n dX7_add_34 rfl (List.Mem.head _) ?_
    refine i_getI (ci := 7) 8 rfl dX7_add_35 fl_7_36 (by decide) (gT hG6 (IsMk_t1 hv) (IsMk_lt hv (k := 1) (by decide))) ?_
    refine w_iload_n dX7_add_38 rfl (List.Mem.tail _ (List.Mem.tail _ (List.Mem.tail _ (List.Mem.head _)))) ?_
    obtain ⟨h9, h⟩ := h
    refine i_iast (n := 9) dX7_add_39 (gT hG6 (IsMk_t4 hv) (IsMk_lt hv (k := 4) (by decide))) (gL hG6 (IsMk_n4 hv)) (rI_R _ _ _) h9 (fun σ7 eσ8 => ?_)
    replace h := h σ7 eσ8
    have hG9 : G σ7 u := eσ8 ▸ G.wI hG6
    refine w_aload_n dX7_add_40 rfl (List.Mem.head _) ?_
    refine w_getR (ci := 7) (k := 3) (b := (v + 5)) dX7_add_41 fl_7_21 (by decide) (gT hG9 (IsMk_t1 hv) (IsMk_lt hv (k := 1) (by decide))) (gR hG9 (IsMk_r1_3 hv)) ?_
    refine w_aload_n dX7_add_44 rfl (List.Mem.head _) ?_
    refine i_getI (ci := 7) 8 rfl dX7_add_45 fl_7_36 (by decide) (gT hG9 (IsMk_t1 hv) (IsMk_lt hv (k := 1) (by decide))) ?_
    refine w_iconst (v := nZ 0) dX7_add_48 (by decide) ?_
    obtain ⟨h9, h⟩ := h
    refine i_iast (n := 9) dX7_add_49 (gT hG9 (IsMk_t5 hv) (IsMk_lt hv (k := 5) (by decide))) (gL hG9 (IsMk_n5 hv)) (rI_R _ _ _) h9 (fun σ10 eσ11 => ?_)
    replace h := h σ10 eσ11
    have hG12 : G σ10 u := eσ11 ▸ G.wI hG9
    refine w_aload_n dX7_add_50 rfl (List.Mem.head _) ?_
    refine w_getR (ci := 7) (k := 4) (b := (v + 6)) dX7_add_51 fl_7_24 (by decide) (gT hG12 (IsMk_t1 hv) (IsMk_lt hv (k := 1) (by decide))) (gR hG12 (IsMk_r1_4 hv)) ?_
    refine w_aload_n dX7_add_54 rfl (List.Mem.head _) ?_
    refine i_getI (ci := 7) 8 rfl dX7_add_55 fl_7_36 (by decide) (gT hG12 (IsMk_t1 hv) (IsMk_lt hv (k := 1) (by decide))) ?_
    refine w_iconst (v := nZ 0) dX7_add_58 (by decide) ?_
    obtain ⟨h9, h⟩ := h
    refine i_iast (n := 9) dX7_add_59 (gT hG12 (IsMk_t6 hv) (IsMk_lt hv (k := 6) (by decide))) (gL hG12 (IsMk_n6 hv)) (rI_R _ _ _) h9 (fun σ13 eσ14 => ?_)
    replace h := h σ13 eσ14
    have hG15 : G σ13 u := eσ14 ▸ G.wI hG12
    refine w_aload_n dX7_add_60 rfl (List.Mem.head _) ?_
    refine w_getR (ci := 7) (k := 5) (b := (v + 7)) dX7_add_61 fl_7_27 (by decide) (gT hG15 (IsMk_t1 hv) (IsMk_lt hv (k := 1) (by decide))) (gR hG15 (IsMk_r1_5 hv)) ?_
    refine w_aload_n dX7_add_64 rfl (List.Mem.head _) ?_
    refine i_getI (ci := 7) 8 rfl dX7_add_65 fl_7_36 (by decide) (gT hG15 (IsMk_t1 hv) (IsMk_lt hv (k := 1) (by decide))) ?_
    refine w_iconst (v := nZ 0) dX7_add_68 (by decide) ?_
    obtain ⟨h9, h⟩ := h
    refine i_iast (n := 9) dX7_add_69 (gT hG15 (IsMk_t7 hv) (IsMk_lt hv (k := 7) (by decide))) (gL hG15 (IsMk_n7 hv)) (rI_R _ _ _) h9 (fun σ16 eσ17 => ?_)
    replace h := h σ16 eσ17
    have hG18 : G σ16 u := eσ17 ▸ G.wI hG15
    refine w_aload_n dX7_add_70 rfl (List.Mem.head _) ?_
    refine w_getR (ci := 7) (k := 6) (b := (v + 8)) dX7_add_71 fl_7_30 (by decide) (gT hG18 (IsMk_t1 hv) (IsMk_lt hv (k := 1) (by decide))) (gR hG18 (IsMk_r1_6 hv)) ?_
    refine w_aload_n dX7_add_74 rfl (List.Mem.head _) ?_
    refine i_getI (ci := 7) 8 rfl dX7_add_75 fl_7_36 (by decide) (gT hG18 (IsMk_t1 hv) (IsMk_lt hv (k := 1) (by decide))) ?_
    refine w_iconst (v := nZ 0) dX7_add_78 (by decide) ?_
    obtain ⟨h9, h⟩ := h
    refine i_iast (n := 9) dX7_add_79 (gT hG18 (IsMk_t8 hv) (IsMk_lt hv (k := 8) (by decide))) (gL hG18 (IsMk_n8 hv)) (rI_R _ _ _) h9 (fun σ19 eσ20 => ?_)
    replace h := h σ19 eσ20
    have hG21 : G σ19 u := eσ20 ▸ G.wI hG18
    refine w_aload_n dX7_add_80 rfl (List.Mem.head _) ?_
    refine w_getR (ci := 7) (k := 7) (b := (v + 9)) dX7_add_81 fl_7_33 (by decide) (gT hG21 (IsMk_t1 hv) (IsMk_lt hv (k := 1) (by decide))) (gR hG21 (IsMk_r1_7 hv)) ?_
    refine w_aload_n dX7_add_84 rfl (List.Mem.head _) ?_
    refine i_getI (ci := 7) 8 rfl dX7_add_85 fl_7_36 (by decide) (gT hG21 (IsMk_t1 hv) (IsMk_lt hv (k := 1) (by decide))) ?_
    refine w_iconst (v := nZ (-1)) dX7_add_88 (by decide) ?_
    obtain ⟨h9, h⟩ := h
    refine i_iast (n := 9) dX7_add_89 (gT hG21 (IsMk_t9 hv) (IsMk_lt hv (k := 9) (by decide))) (gL hG21 (IsMk_n9 hv)) (rI_R _ _ _) h9 (fun σ22 eσ23 => ?_)
    replace h := h σ22 eσ23
    have hG24 : G σ22 u := eσ23 ▸ G.wI hG21
    refine w_aload_n dX7_add_90 rfl (List.Mem.head _) ?_
    refine w_dup dX7_add_91 rfl ?_
    refine i_getI (ci := 7) 8 rfl dX7_add_92 fl_7_36 (by decide) (gT hG24 (IsMk_t1 hv) (IsMk_lt hv (k := 1) (by decide))) ?_
    refine w_iconst (v := nZ 1) dX7_add_95 (by decide) ?_
    obtain ⟨q25, h⟩ := h
    refine i_add dX7_add_96 ?_
    refine i_putI (ci := 7) 8 rfl dX7_add_97 fl_7_36 (by decide) (gT hG24 (IsMk_t1 hv) (IsMk_lt hv (k := 1) (by decide))) (fun σ26 eσ27 => ?_)
    replace h := h σ26 eσ27
    have hG28 : G σ26 u := eσ27 ▸ G.wI hG24
    exact w_vret dX7_add_100 rfl h
  · replace h := h.2 c9
    exact w_vret dX7_add_9 rfl h
theorem dX7_put_0 : decode cX7_put 0 = .ok (.aload_n 0, 1) := by decide +kernel
theorem dX7_put_1 : decode cX7_put 1 = .ok (.getfield 9, 3) := by decide +kernel
theorem dX7_put_4 : decode cX7_put 4 = .ok (.iload_n 1, 1) := by decide +kernel
theorem dX7_put_5 : decode cX7_put 5 = .ok (.iload_n 2, 1) := by decide +kernel
theorem dX7_put_6 : decode cX7_put 6 = .ok (.iastore, 1) := by decide +kernel
theorem dX7_put_7 : decode cX7_put 7 = .ok (.aload_n 0, 1) := by decide +kernel
theorem dX7_put_8 : decode cX7_put 8 = .ok (.getfield 15, 3) := by decide +kernel
theorem dX7_put_11 : decode cX7_put 11 = .ok (.iload_n 1, 1) := by decide +kernel
theorem dX7_put_12 : decode cX7_put 12 = .ok (.iload_n 3, 1) := by decide +kernel
theorem dX7_put_13 : decode cX7_put 13 = .ok (.iastore, 1) := by decide +kernel
theorem dX7_put_14 : decode cX7_put 14 = .ok (.return_, 1) := by decide +kernel
set_option maxRecDepth 10000 in
theorem t_X7_put {sc : Nat × (Nat → Int32)} {d : Nat} {Q : aO → aH → Prop} {σ : aH} {u : Nat} {v : Nat} {x1 : Int} {x2 : Int} {x3 : Int} (hG : G σ u) (hv : IsMk v) (rx1 : inR x1) (rx2 : inR x2) (rx3 : inR x3)
    (h : ((0 ≤ x1 ∧ x1 < 9) ∧ (∀ σ1 : aH, wI σ (v + 2) x1 x2 = σ1 → ((0 ≤ x1 ∧ x1 < 9) ∧ (∀ σ4 : aH, wI σ1 (v + 3) x1 x3 = σ4 → Q (.inl none) σ4))))) :
    T sc (d + 1) mX7_put [.ref (v + 1), .int (nZ x1), .int (nZ x2), .int (nZ x3)] σ Q := by
  refine T.of (c := 7) (code := cX7_put) (mL := 4) (rt := none) (ini := false) (l := [(0, .ref (v + 1)), (1, .int (nZ x1)), (2, .int (nZ x2)), (3, .int (nZ x3))]) rfl rfl rfl rfl (by decide) hs_X7_put rfl rfl ?_
  refine w_aload_n dX7_put_0 rfl (List.Mem.head _) ?_
  refine w_getR (ci := 7) (k := 0) (b := (v + 2)) dX7_put_1 fl_7_9 (by decide) (gT hG (IsMk_t1 hv) (IsMk_lt hv (k := 1) (by decide))) (gR hG (IsMk_r1_0 hv)) ?_
  refine w_iload_n dX7_put_4 rfl (List.Mem.tail _ (List.Mem.head _)) ?_
  refine w_iload_n dX7_put_5 rfl (List.Mem.tail _ (List.Mem.tail _ (List.Mem.head _))) ?_
  obtain ⟨h9, h⟩ := h
  refine i_iast (n := 9) dX7_put_6 (gT hG (IsMk_t2 hv) (IsMk_lt hv (k := 2) (by decide))) (gL hG (IsMk_n2 hv)) rx1 h9 (fun σ1 eσ2 => ?_)
  replace h := h σ1 eσ2
  have hG3 : G σ1 u := eσ2 ▸ G.wI hG
  refine w_aload_n dX7_put_7 rfl (List.Mem.head _) ?_
  refine w_getR (ci := 7) (k := 1) (b := (v + 3)) dX7_put_8 fl_7_15 (by decide) (gT hG3 (IsMk_t1 hv) (IsMk_lt hv (k := 1) (by decide))) (gR hG3 (IsMk_r1_1 hv)) ?_
  refine w_iload_n dX7_put_11 rfl (List.Mem.tail _ (List.Mem.head _)) ?_
  refine w_iload_n dX7_put_12 rfl (List.Mem.tail _ (List.Mem.tail _ (List.Mem.tail _ (List.Mem.head _)))) ?_
  obtain ⟨h9, h⟩ := h
  refine i_iast (n := 9) dX7_put_13 (gT hG3 (IsMk_t3 hv) (IsMk_lt hv (k := 3) (by decide))) (gL hG3 (IsMk_n3 hv)) rx1 h9 (fun σ4 eσ5 => ?_)
  replace h := h σ4 eσ5
  have hG6 : G σ4 u := eσ5 ▸ G.wI hG3
  exact w_vret dX7_put_14 rfl h
theorem dX7_whoIsAt_0 : decode cX7_whoIsAt 0 = .ok (.iconst 0, 1) := by decide +kernel
theorem dX7_whoIsAt_1 : decode cX7_whoIsAt 1 = .ok (.istore_n 3, 1) := by decide +kernel
theorem dX7_whoIsAt_2 : decode cX7_whoIsAt 2 = .ok (.iload_n 3, 1) := by decide +kernel
theorem dX7_whoIsAt_3 : decode cX7_whoIsAt 3 = .ok (.aload_n 0, 1) := by decide +kernel
theorem dX7_whoIsAt_4 : decode cX7_whoIsAt 4 = .ok (.getfield 36, 3) := by decide +kernel
theorem dX7_whoIsAt_7 : decode cX7_whoIsAt 7 = .ok (.if_icmp .ge 31, 3) := by decide +kernel
theorem dX7_whoIsAt_10 : decode cX7_whoIsAt 10 = .ok (.aload_n 0, 1) := by decide +kernel
theorem dX7_whoIsAt_11 : decode cX7_whoIsAt 11 = .ok (.getfield 9, 3) := by decide +kernel
theorem dX7_whoIsAt_14 : decode cX7_whoIsAt 14 = .ok (.iload_n 3, 1) := by decide +kernel
theorem dX7_whoIsAt_15 : decode cX7_whoIsAt 15 = .ok (.iaload, 1) := by decide +kernel
theorem dX7_whoIsAt_16 : decode cX7_whoIsAt 16 = .ok (.iload_n 1, 1) := by decide +kernel
theorem dX7_whoIsAt_17 : decode cX7_whoIsAt 17 = .ok (.if_icmp .ne 15, 3) := by decide +kernel
theorem dX7_whoIsAt_20 : decode cX7_whoIsAt 20 = .ok (.aload_n 0, 1) := by decide +kernel
theorem dX7_whoIsAt_21 : decode cX7_whoIsAt 21 = .ok (.getfield 15, 3) := by decide +kernel
theorem dX7_whoIsAt_24 : decode cX7_whoIsAt 24 = .ok (.iload_n 3, 1) := by decide +kernel
theorem dX7_whoIsAt_25 : decode cX7_whoIsAt 25 = .ok (.iaload, 1) := by decide +kernel
theorem dX7_whoIsAt_26 : decode cX7_whoIsAt 26 = .ok (.iload_n 2, 1) := by decide +kernel
theorem dX7_whoIsAt_27 : decode cX7_whoIsAt 27 = .ok (.if_icmp .ne 5, 3) := by decide +kernel
theorem dX7_whoIsAt_30 : decode cX7_whoIsAt 30 = .ok (.iload_n 3, 1) := by decide +kernel
theorem dX7_whoIsAt_31 : decode cX7_whoIsAt 31 = .ok (.ireturn, 1) := by decide +kernel
theorem dX7_whoIsAt_32 : decode cX7_whoIsAt 32 = .ok (.iinc 3 1, 3) := by decide +kernel
theorem dX7_whoIsAt_35 : decode cX7_whoIsAt 35 = .ok (.goto (-33), 3) := by decide +kernel
theorem dX7_whoIsAt_38 : decode cX7_whoIsAt 38 = .ok (.iconst (-1), 1) := by decide +kernel
theorem dX7_whoIsAt_39 : decode cX7_whoIsAt 39 = .ok (.ireturn, 1) := by decide +kernel
def L_X7_whoIsAt_2 (C : aM → List Value → aH → aO → aH → Prop) (sc : Nat × (Nat → Int32)) (P : aO → aH → Prop) (v : Nat) (x1 : Int) (x2 : Int) (x3 : Int) (σ : aH) : Prop :=
    wp C 7 cX7_whoIsAt 4 (some .int) false [] sc P 2 [(0, .ref (v + 1)), (1, .int (nZ x1)), (2, .int (nZ x2)), (3, .int (nZ x3))] [] σ
set_option maxRecDepth 10000 in
theorem t_X7_whoIsAt {sc : Nat × (Nat → Int32)} {d : Nat} {Q : aO → aH → Prop} {σ : aH} {u : Nat} {v : Nat} {x1 : Int} {x2 : Int} (hG : G σ u) (hv : IsMk v) (rx1 : inR x1) (rx2 : inR x2)
    (h : L_X7_whoIsAt_2 (Ev sc d) sc Q v x1 x2 0 σ) :
    T sc (d + 1) mX7_whoIsAt [.ref (v + 1), .int (nZ x1), .int (nZ x2)] σ Q := by
  refine T.of (c := 7) (code := cX7_whoIsAt) (mL := 4) (rt := (some .int)) (ini := false) (l := [(0, .ref (v + 1)), (1, .int (nZ x1)), (2, .int (nZ x2))]) rfl rfl rfl rfl (by decide) hs_X7_whoIsAt rfl rfl ?_
  refine w_iconst (v := nZ 0) dX7_whoIsAt_0 (by decide) ?_
  refine w_istore_n (l' := [(3, .int (nZ 0)), (0, .ref (v + 1)), (1, .int (nZ x1)), (2, .int (nZ x2))]) dX7_whoIsAt_1 rfl (by decide) rfl ?_
  exact w_weak (l' := [(0, .ref (v + 1)), (1, .int (nZ x1)), (2, .int (nZ x2)), (3, .int (nZ 0))]) (by intro q hq; simp only [List.mem_cons, List.not_mem_nil, or_false] at hq ⊢; rcases hq with rfl | rfl | rfl | rfl <;> simp) h
set_option maxRecDepth 10000 in
theorem v_X7_whoIsAt_2 {C : aM → List Value → aH → aO → aH → Prop} {sc : Nat × (Nat → Int32)} {P : aO → aH → Prop} {σ : aH} {u : Nat} {v : Nat} {x1 : Int} {x2 : Int} {x3 : Int} (hG : G σ u) (hv : IsMk v) (rx1 : inR x1) (rx2 : inR x2) (rx3 : inR x3)
    (h : (((rI σ (v + 1) 8) ≤ x3 → P (.inl (some (.int (nZ (-1))))) σ) ∧ (¬ ((rI σ (v + 1) 8) ≤ x3) → ((0 ≤ x3 ∧ x3 < 9) ∧ ((¬ (rI σ (v + 2) x3) = x1 → (inR (x3 + 1) ∧ L_X7_whoIsAt_2 C sc P v x1 x2 (x3 + 1) σ)) ∧ ((rI σ (v + 2) x3) = x1 → ((0 ≤ x3 ∧ x3 < 9) ∧ ((¬ (rI σ (v + 3) x3) = x2 → (inR (x3 + 1) ∧ L_X7_whoIsAt_2 C sc P v x1 x2 (x3 + 1) σ)) ∧ ((rI σ (v + 3) x3) = x2 → P (.inl (some (.int (nZ x3)))) σ))))))))) :
    L_X7_whoIsAt_2 C sc P v x1 x2 x3 σ := by
  unfold L_X7_whoIsAt_2
  refine w_iload_n dX7_whoIsAt_2 rfl (List.Mem.tail _ (List.Mem.tail _ (List.Mem.tail _ (List.Mem.head _)))) ?_
  refine w_aload_n dX7_whoIsAt_3 rfl (List.Mem.head _) ?_
  refine i_getI (ci := 7) 8 rfl dX7_whoIsAt_4 fl_7_36 (by decide) (gT hG (IsMk_t1 hv) (IsMk_lt hv (k := 1) (by decide))) ?_
  refine i_cmp_ge (tgt := 38) dX7_whoIsAt_7 rfl rx3 (rI_R _ _ _) (fun c9 => ?_) (fun c9 => ?_)
  · replace h := h.1 c9
    refine w_iconst (v := nZ (-1)) dX7_whoIsAt_38 (by decide) ?_
    exact w_iret dX7_whoIsAt_39 rfl h
  · replace h := h.2 c9
    refine w_aload_n dX7_whoIsAt_10 rfl (List.Mem.head _) ?_
    refine w_getR (ci := 7) (k := 0) (b := (v + 2)) dX7_whoIsAt_11 fl_7_9 (by decide) (gT hG (IsMk_t1 hv) (IsMk_lt hv (k := 1) (by decide))) (gR hG (IsMk_r1_0 hv)) ?_
    refine w_iload_n dX7_whoIsAt_14 rfl (List.Mem.tail _ (List.Mem.tail _ (List.Mem.tail _ (List.Mem.head _)))) ?_
    obtain ⟨h9, h⟩ := h
    refine i_iald (n := 9) dX7_whoIsAt_15 (gT hG (IsMk_t2 hv) (IsMk_lt hv (k := 2) (by decide))) (gL hG (IsMk_n2 hv)) rx3 h9 ?_
    refine w_iload_n dX7_whoIsAt_16 rfl (List.Mem.tail _ (List.Mem.head _)) ?_
    refine i_cmp_ne (tgt := 32) dX7_whoIsAt_17 rfl (rI_R _ _ _) rx1 (fun c9 => ?_) (fun c9 => ?_)
    · replace h := h.1 c9
      obtain ⟨q1, h⟩ := h
      refine w_iinc (v := nZ (x3 + 1)) (l' := [(3, .int (nZ (x3 + 1))), (0, .ref (v + 1)), (1, .int (nZ x1)), (2, .int (nZ x2))]) dX7_whoIsAt_32 (List.Mem.tail _ (List.Mem.tail _ (List.Mem.tail _ (List.Mem.head _)))) (nZ_add _ _) (by decide) rfl ?_
      refine w_goto (tgt := 2) dX7_whoIsAt_35 rfl ?_
      exact w_weak (l' := [(0, .ref (v + 1)), (1, .int (nZ x1)), (2, .int (nZ x2)), (3, .int (nZ (x3 + 1)))]) (by intro q hq; simp only [List.mem_cons, List.not_mem_nil, or_false] at hq ⊢; rcases hq with rfl | rfl | rfl | rfl <;> simp) h
    · replace h := h.2 c9
      refine w_aload_n dX7_whoIsAt_20 rfl (List.Mem.head _) ?_
      refine w_getR (ci := 7) (k := 1) (b := (v + 3)) dX7_whoIsAt_21 fl_7_15 (by decide) (gT hG (IsMk_t1 hv) (IsMk_lt hv (k := 1) (by decide))) (gR hG (IsMk_r1_1 hv)) ?_
      refine w_iload_n dX7_whoIsAt_24 rfl (List.Mem.tail _ (List.Mem.tail _ (List.Mem.tail _ (List.Mem.head _)))) ?_
      obtain ⟨h9, h⟩ := h
      refine i_iald (n := 9) dX7_whoIsAt_25 (gT hG (IsMk_t3 hv) (IsMk_lt hv (k := 3) (by decide))) (gL hG (IsMk_n3 hv)) rx3 h9 ?_
      refine w_iload_n dX7_whoIsAt_26 rfl (List.Mem.tail _ (List.Mem.tail _ (List.Mem.head _))) ?_
      refine i_cmp_ne (tgt := 32) dX7_whoIsAt_27 rfl (rI_R _ _ _) rx2 (fun c9 => ?_) (fun c9 => ?_)
      · replace h := h.1 c9
        obtain ⟨q2, h⟩ := h
        refine w_iinc (v := nZ (x3 + 1)) (l' := [(3, .int (nZ (x3 + 1))), (0, .ref (v + 1)), (1, .int (nZ x1)), (2, .int (nZ x2))]) dX7_whoIsAt_32 (List.Mem.tail _ (List.Mem.tail _ (List.Mem.tail _ (List.Mem.head _)))) (nZ_add _ _) (by decide) rfl ?_
        refine w_goto (tgt := 2) dX7_whoIsAt_35 rfl ?_
        exact w_weak (l' := [(0, .ref (v + 1)), (1, .int (nZ x1)), (2, .int (nZ x2)), (3, .int (nZ (x3 + 1)))]) (by intro q hq; simp only [List.mem_cons, List.not_mem_nil, or_false] at hq ⊢; rcases hq with rfl | rfl | rfl | rfl <;> simp) h
      · replace h := h.2 c9
        refine w_iload_n dX7_whoIsAt_30 rfl (List.Mem.tail _ (List.Mem.tail _ (List.Mem.tail _ (List.Mem.head _)))) ?_
        exact w_iret dX7_whoIsAt_31 rfl h
theorem dX7_swapCells_0 : decode cX7_swapCells 0 = .ok (.aload_n 0, 1) := by decide +kernel
theorem dX7_swapCells_1 : decode cX7_swapCells 1 = .ok (.getfield 9, 3) := by decide +kernel
theorem dX7_swapCells_4 : decode cX7_swapCells 4 = .ok (.iload_n 1, 1) := by decide +kernel
theorem dX7_swapCells_5 : decode cX7_swapCells 5 = .ok (.iaload, 1) := by decide +kernel
theorem dX7_swapCells_6 : decode cX7_swapCells 6 = .ok (.istore_n 3, 1) := by decide +kernel
theorem dX7_swapCells_7 : decode cX7_swapCells 7 = .ok (.aload_n 0, 1) := by decide +kernel
theorem dX7_swapCells_8 : decode cX7_swapCells 8 = .ok (.getfield 15, 3) := by decide +kernel
theorem dX7_swapCells_11 : decode cX7_swapCells 11 = .ok (.iload_n 1, 1) := by decide +kernel
theorem dX7_swapCells_12 : decode cX7_swapCells 12 = .ok (.iaload, 1) := by decide +kernel
theorem dX7_swapCells_13 : decode cX7_swapCells 13 = .ok (.istore 4, 2) := by decide +kernel
theorem dX7_swapCells_15 : decode cX7_swapCells 15 = .ok (.aload_n 0, 1) := by decide +kernel
theorem dX7_swapCells_16 : decode cX7_swapCells 16 = .ok (.iload_n 1, 1) := by decide +kernel
theorem dX7_swapCells_17 : decode cX7_swapCells 17 = .ok (.aload_n 0, 1) := by decide +kernel
theorem dX7_swapCells_18 : decode cX7_swapCells 18 = .ok (.getfield 9, 3) := by decide +kernel
theorem dX7_swapCells_21 : decode cX7_swapCells 21 = .ok (.iload_n 2, 1) := by decide +kernel
theorem dX7_swapCells_22 : decode cX7_swapCells 22 = .ok (.iaload, 1) := by decide +kernel
theorem dX7_swapCells_23 : decode cX7_swapCells 23 = .ok (.aload_n 0, 1) := by decide +kernel
theorem dX7_swapCells_24 : decode cX7_swapCells 24 = .ok (.getfield 15, 3) := by decide +kernel
theorem dX7_swapCells_27 : decode cX7_swapCells 27 = .ok (.iload_n 2, 1) := by decide +kernel
theorem dX7_swapCells_28 : decode cX7_swapCells 28 = .ok (.iaload, 1) := by decide +kernel
theorem dX7_swapCells_29 : decode cX7_swapCells 29 = .ok (.invokevirtual 43, 3) := by decide +kernel
theorem dX7_swapCells_32 : decode cX7_swapCells 32 = .ok (.aload_n 0, 1) := by decide +kernel
theorem dX7_swapCells_33 : decode cX7_swapCells 33 = .ok (.iload_n 2, 1) := by decide +kernel
theorem dX7_swapCells_34 : decode cX7_swapCells 34 = .ok (.iload_n 3, 1) := by decide +kernel
theorem dX7_swapCells_35 : decode cX7_swapCells 35 = .ok (.iload 4, 2) := by decide +kernel
theorem dX7_swapCells_37 : decode cX7_swapCells 37 = .ok (.invokevirtual 43, 3) := by decide +kernel
theorem dX7_swapCells_40 : decode cX7_swapCells 40 = .ok (.return_, 1) := by decide +kernel
set_option maxRecDepth 10000 in
theorem t_X7_swapCells {sc : Nat × (Nat → Int32)} {d : Nat} {Q : aO → aH → Prop} {σ : aH} {u : Nat} {v : Nat} {x1 : Int} {x2 : Int} (hG : G σ u) (hv : IsMk v) (rx1 : inR x1) (rx2 : inR x2)
    (h : ((0 ≤ x1 ∧ x1 < 9) ∧ (∀ z1 : Int, z1 = (rI σ (v + 2) x1) → ((0 ≤ x1 ∧ x1 < 9) ∧ (∀ z4 : Int, z4 = (rI σ (v + 3) x1) → ((0 ≤ x2 ∧ x2 < 9) ∧ ((0 ≤ x2 ∧ x2 < 9) ∧ (∃ σ7 : aH, Ev sc d mX7_put [.ref (v + 1), .int (nZ x1), .int (nZ (rI σ (v + 2) x2)), .int (nZ (rI σ (v + 3) x2))] σ (.inl none) σ7 ∧ G σ7 u ∧ (∃ σ11 : aH, Ev sc d mX7_put [.ref (v + 1), .int (nZ x2), .int (nZ z1), .int (nZ z4)] σ7 (.inl none) σ11 ∧ G σ11 u ∧ Q (.inl none) σ11))))))))) :
    T sc (d + 1) mX7_swapCells [.ref (v + 1), .int (nZ x1), .int (nZ x2)] σ Q := by
  refine T.of (c := 7) (code := cX7_swapCells) (mL := 5) (rt := none) (ini := false) (l := [(0, .ref (v + 1)), (1, .int (nZ x1)), (2, .int (nZ x2))]) rfl rfl rfl rfl (by decide) hs_X7_swapCells rfl rfl ?_
  refine w_aload_n dX7_swapCells_0 rfl (List.Mem.head _) ?_
  refine w_getR (ci := 7) (k := 0) (b := (v + 2)) dX7_swapCells_1 fl_7_9 (by decide) (gT hG (IsMk_t1 hv) (IsMk_lt hv (k := 1) (by decide))) (gR hG (IsMk_r1_0 hv)) ?_
  refine w_iload_n dX7_swapCells_4 rfl (List.Mem.tail _ (List.Mem.head _)) ?_
  obtain ⟨h9, h⟩ := h
  refine i_iald (n := 9) dX7_swapCells_5 (gT hG (IsMk_t2 hv) (IsMk_lt hv (k := 2) (by decide))) (gL hG (IsMk_n2 hv)) rx1 h9 ?_
  refine top_i (fun z1 ez2 => ?_)
  have rz3 : inR z1 := ez2 ▸ (rI_R _ _ _)
  replace h := h z1 ez2
  refine w_istore_n (l' := [(3, .int (nZ z1)), (0, .ref (v + 1)), (1, .int (nZ x1)), (2, .int (nZ x2))]) dX7_swapCells_6 rfl (by decide) rfl ?_
  refine w_aload_n dX7_swapCells_7 rfl (List.Mem.tail _ (List.Mem.head _)) ?_
  refine w_getR (ci := 7) (k := 1) (b := (v + 3)) dX7_swapCells_8 fl_7_15 (by decide) (gT hG (IsMk_t1 hv) (IsMk_lt hv (k := 1) (by decide))) (gR hG (IsMk_r1_1 hv)) ?_
  refine w_iload_n dX7_swapCells_11 rfl (List.Mem.tail _ (List.Mem.tail _ (List.Mem.head _))) ?_
  obtain ⟨h9, h⟩ := h
  refine i_iald (n := 9) dX7_swapCells_12 (gT hG (IsMk_t3 hv) (IsMk_lt hv (k := 3) (by decide))) (gL hG (IsMk_n3 hv)) rx1 h9 ?_
  refine top_i (fun z4 ez5 => ?_)
  have rz6 : inR z4 := ez5 ▸ (rI_R _ _ _)
  replace h := h z4 ez5
  refine w_istore (l' := [(4, .int (nZ z4)), (3, .int (nZ z1)), (0, .ref (v + 1)), (1, .int (nZ x1)), (2, .int (nZ x2))]) dX7_swapCells_13 (by decide) rfl ?_
  refine w_aload_n dX7_swapCells_15 rfl (List.Mem.tail _ (List.Mem.tail _ (List.Mem.head _))) ?_
  refine w_iload_n dX7_swapCells_16 rfl (List.Mem.tail _ (List.Mem.tail _ (List.Mem.tail _ (List.Mem.head _)))) ?_
  refine w_aload_n dX7_swapCells_17 rfl (List.Mem.tail _ (List.Mem.tail _ (List.Mem.head _))) ?_
  refine w_getR (ci := 7) (k := 0) (b := (v + 2)) dX7_swapCells_18 fl_7_9 (by decide) (gT hG (IsMk_t1 hv) (IsMk_lt hv (k := 1) (by decide))) (gR hG (IsMk_r1_0 hv)) ?_
  refine w_iload_n dX7_swapCells_21 rfl (List.Mem.tail _ (List.Mem.tail _ (List.Mem.tail _ (List.Mem.tail _ (List.Mem.head _))))) ?_
  obtain ⟨h9, h⟩ := h
  refine i_iald (n := 9) dX7_swapCells_22 (gT hG (IsMk_t2 hv) (IsMk_lt hv (k := 2) (by decide))) (gL hG (IsMk_n2 hv)) rx2 h9 ?_
  refine w_aload_n dX7_swapCells_23 rfl (List.Mem.tail _ (List.Mem.tail _ (List.Mem.head _))) ?_
  refine w_getR (ci := 7) (k := 1) (b := (v + 3)) dX7_swapCells_24 fl_7_15 (by decide) (gT hG (IsMk_t1 hv) (IsMk_lt hv (k := 1) (by decide))) (gR hG (IsMk_r1_1 hv)) ?_
  refine w_iload_n dX7_swapCells_27 rfl (List.Mem.tail _ (List.Mem.tail _ (List.Mem.tail _ (List.Mem.tail _ (List.Mem.head _))))) ?_
  obtain ⟨h9, h⟩ := h
  refine i_iald (n := 9) dX7_swapCells_28 (gT hG (IsMk_t3 hv) (IsMk_lt hv (k := 3) (by decide))) (gL hG (IsMk_n3 hv)) rx2 h9 ?_
  obtain ⟨σ7, hc9, hG8, h⟩ := h
  refine w_callV dX7_swapCells_29 ml_7_43 ⟨ok_X7_put, vi_X7_put⟩ hs_X7_put (As := [.int (nZ x1), .int (nZ (rI σ (v + 2) x2)), .int (nZ (rI σ (v + 3) x2))]) rfl rfl (gT hG (IsMk_t1 hv) (IsMk_lt hv (k := 1) (by decide))) (Nat.le_of_ble_eq_true rfl) hc9 ?_
  show wp (Ev sc d) 7 cX7_swapCells 5 none false [] sc Q 32 [(4, .int (nZ z4)), (3, .int (nZ z1)), (0, .ref (v + 1)), (1, .int (nZ x1)), (2, .int (nZ x2))] [] σ7
  refine w_aload_n dX7_swapCells_32 rfl (List.Mem.tail _ (List.Mem.tail _ (List.Mem.head _))) ?_
  refine w_iload_n dX7_swapCells_33 rfl (List.Mem.tail _ (List.Mem.tail _ (List.Mem.tail _ (List.Mem.tail _ (List.Mem.head _))))) ?_
  refine w_iload_n dX7_swapCells_34 rfl (List.Mem.tail _ (List.Mem.head _)) ?_
  refine w_iload dX7_swapCells_35 (List.Mem.head _) ?_
  obtain ⟨σ11, hc13, hG12, h⟩ := h
  refine w_callV dX7_swapCells_37 ml_7_43 ⟨ok_X7_put, vi_X7_put⟩ hs_X7_put (As := [.int (nZ x2), .int (nZ z1), .int (nZ z4)]) rfl rfl (gT hG8 (IsMk_t1 hv) (IsMk_lt hv (k := 1) (by decide))) (Nat.le_of_ble_eq_true rfl) hc13 ?_
  show wp (Ev sc d) 7 cX7_swapCells 5 none false [] sc Q 40 [(4, .int (nZ z4)), (3, .int (nZ z1)), (0, .ref (v + 1)), (1, .int (nZ x1)), (2, .int (nZ x2))] [] σ11
  exact w_vret dX7_swapCells_40 rfl h
theorem dX7_grow_0 : decode cX7_grow 0 = .ok (.iconst 0, 1) := by decide +kernel
theorem dX7_grow_1 : decode cX7_grow 1 = .ok (.istore_n 1, 1) := by decide +kernel
theorem dX7_grow_2 : decode cX7_grow 2 = .ok (.iload_n 1, 1) := by decide +kernel
theorem dX7_grow_3 : decode cX7_grow 3 = .ok (.aload_n 0, 1) := by decide +kernel
theorem dX7_grow_4 : decode cX7_grow 4 = .ok (.getfield 36, 3) := by decide +kernel
theorem dX7_grow_7 : decode cX7_grow 7 = .ok (.if_icmp .ge 52, 3) := by decide +kernel
theorem dX7_grow_10 : decode cX7_grow 10 = .ok (.aload_n 0, 1) := by decide +kernel
theorem dX7_grow_11 : decode cX7_grow 11 = .ok (.getfield 18, 3) := by decide +kernel
theorem dX7_grow_14 : decode cX7_grow 14 = .ok (.iload_n 1, 1) := by decide +kernel
theorem dX7_grow_15 : decode cX7_grow 15 = .ok (.iaload, 1) := by decide +kernel
theorem dX7_grow_16 : decode cX7_grow 16 = .ok (.aload_n 0, 1) := by decide +kernel
theorem dX7_grow_17 : decode cX7_grow 17 = .ok (.getfield 27, 3) := by decide +kernel
theorem dX7_grow_20 : decode cX7_grow 20 = .ok (.iload_n 1, 1) := by decide +kernel
theorem dX7_grow_21 : decode cX7_grow 21 = .ok (.iaload, 1) := by decide +kernel
theorem dX7_grow_22 : decode cX7_grow 22 = .ok (.if_icmp .ge 31, 3) := by decide +kernel
theorem dX7_grow_25 : decode cX7_grow 25 = .ok (.aload_n 0, 1) := by decide +kernel
theorem dX7_grow_26 : decode cX7_grow 26 = .ok (.getfield 18, 3) := by decide +kernel
theorem dX7_grow_29 : decode cX7_grow 29 = .ok (.iload_n 1, 1) := by decide +kernel
theorem dX7_grow_30 : decode cX7_grow 30 = .ok (.aload_n 0, 1) := by decide +kernel
theorem dX7_grow_31 : decode cX7_grow 31 = .ok (.getfield 27, 3) := by decide +kernel
theorem dX7_grow_34 : decode cX7_grow 34 = .ok (.iload_n 1, 1) := by decide +kernel
theorem dX7_grow_35 : decode cX7_grow 35 = .ok (.iaload, 1) := by decide +kernel
theorem dX7_grow_36 : decode cX7_grow 36 = .ok (.aload_n 0, 1) := by decide +kernel
theorem dX7_grow_37 : decode cX7_grow 37 = .ok (.getfield 18, 3) := by decide +kernel
theorem dX7_grow_40 : decode cX7_grow 40 = .ok (.iload_n 1, 1) := by decide +kernel
theorem dX7_grow_41 : decode cX7_grow 41 = .ok (.iaload, 1) := by decide +kernel
theorem dX7_grow_42 : decode cX7_grow 42 = .ok (.aload_n 0, 1) := by decide +kernel
theorem dX7_grow_43 : decode cX7_grow 43 = .ok (.getfield 24, 3) := by decide +kernel
theorem dX7_grow_46 : decode cX7_grow 46 = .ok (.iload_n 1, 1) := by decide +kernel
theorem dX7_grow_47 : decode cX7_grow 47 = .ok (.iaload, 1) := by decide +kernel
theorem dX7_grow_48 : decode cX7_grow 48 = .ok (.iadd, 1) := by decide +kernel
theorem dX7_grow_49 : decode cX7_grow 49 = .ok (.invokestatic 47, 3) := by decide +kernel
theorem dX7_grow_52 : decode cX7_grow 52 = .ok (.iastore, 1) := by decide +kernel
theorem dX7_grow_53 : decode cX7_grow 53 = .ok (.iinc 1 1, 3) := by decide +kernel
theorem dX7_grow_56 : decode cX7_grow 56 = .ok (.goto (-54), 3) := by decide +kernel
theorem dX7_grow_59 : decode cX7_grow 59 = .ok (.return_, 1) := by decide +kernel
def L_X7_grow_2 (C : aM → List Value → aH → aO → aH → Prop) (sc : Nat × (Nat → Int32)) (P : aO → aH → Prop) (v : Nat) (x1 : Int) (σ : aH) : Prop :=
    wp C 7 cX7_grow 2 none false [] sc P 2 [(0, .ref (v + 1)), (1, .int (nZ x1))] [] σ
set_option maxRecDepth 10000 in
theorem t_X7_grow {sc : Nat × (Nat → Int32)} {d : Nat} {Q : aO → aH → Prop} {σ : aH} {u : Nat} {v : Nat}  (hG : G σ u) (hv : IsMk v)
    (h : L_X7_grow_2 (Ev sc d) sc Q v 0 σ) :
    T sc (d + 1) mX7_grow [.ref (v + 1)] σ Q := by
  refine T.of (c := 7) (code := cX7_grow) (mL := 2) (rt := none) (ini := false) (l := [(0, .ref (v + 1))]) rfl rfl rfl rfl (by decide) hs_X7_grow rfl rfl ?_
  refine w_iconst (v := nZ 0) dX7_grow_0 (by decide) ?_
  refine w_istore_n (l' := [(1, .int (nZ 0)), (0, .ref (v + 1))]) dX7_grow_1 rfl (by decide) rfl ?_
  exact w_weak (l' := [(0, .ref (v + 1)), (1, .int (nZ 0))]) (by intro q hq; simp only [List.mem_cons, List.not_mem_nil, or_false] at hq ⊢; rcases hq with rfl | rfl <;> simp) h
set_option maxRecDepth 10000 in
theorem v_X7_grow_2 {C : aM → List Value → aH → aO → aH → Prop} {sc : Nat × (Nat → Int32)} {P : aO → aH → Prop} {σ : aH} {u : Nat} {v : Nat} {x1 : Int} (hG : G σ u) (hv : IsMk v) (rx1 : inR x1)
    (h : (((rI σ (v + 1) 8) ≤ x1 → P (.inl none) σ) ∧ (¬ ((rI σ (v + 1) 8) ≤ x1) → ((0 ≤ x1 ∧ x1 < 9) ∧ ((0 ≤ x1 ∧ x1 < 9) ∧ (((rI σ (v + 7) x1) ≤ (rI σ (v + 4) x1) → (inR (x1 + 1) ∧ L_X7_grow_2 C sc P v (x1 + 1) σ)) ∧ (¬ ((rI σ (v + 7) x1) ≤ (rI σ (v + 4) x1)) → ((0 ≤ x1 ∧ x1 < 9) ∧ ((0 ≤ x1 ∧ x1 < 9) ∧ ((0 ≤ x1 ∧ x1 < 9) ∧ (inR ((rI σ (v + 4) x1) + (rI σ (v + 6) x1)) ∧ (∀ z3 : Int, z3 = min (rI σ (v + 7) x1) ((rI σ (v + 4) x1) + (rI σ (v + 6) x1)) → ((0 ≤ x1 ∧ x1 < 9) ∧ (∀ σ6 : aH, wI σ (v + 4) x1 z3 = σ6 → (inR (x1 + 1) ∧ L_X7_grow_2 C sc P v (x1 + 1) σ6))))))))))))))) :
    L_X7_grow_2 C sc P v x1 σ := by
  unfold L_X7_grow_2
  refine w_iload_n dX7_grow_2 rfl (List.Mem.tail _ (List.Mem.head _)) ?_
  refine w_aload_n dX7_grow_3 rfl (List.Mem.head _) ?_
  refine i_getI (ci := 7) 8 rfl dX7_grow_4 fl_7_36 (by decide) (gT hG (IsMk_t1 hv) (IsMk_lt hv (k := 1) (by decide))) ?_
  refine i_cmp_ge (tgt := 59) dX7_grow_7 rfl rx1 (rI_R _ _ _) (fun c9 => ?_) (fun c9 => ?_)
  · replace h := h.1 c9
    exact w_vret dX7_grow_59 rfl h
  · replace h := h.2 c9
    refine w_aload_n dX7_grow_10 rfl (List.Mem.head _) ?_
    refine w_getR (ci := 7) (k := 2) (b := (v + 4)) dX7_grow_11 fl_7_18 (by decide) (gT hG (IsMk_t1 hv) (IsMk_lt hv (k := 1) (by decide))) (gR hG (IsMk_r1_2 hv)) ?_
    refine w_iload_n dX7_grow_14 rfl (List.Mem.tail _ (List.Mem.head _)) ?_
    obtain ⟨h9, h⟩ := h
    refine i_iald (n := 9) dX7_grow_15 (gT hG (IsMk_t4 hv) (IsMk_lt hv (k := 4) (by decide))) (gL hG (IsMk_n4 hv)) rx1 h9 ?_
    refine w_aload_n dX7_grow_16 rfl (List.Mem.head _) ?_
    refine w_getR (ci := 7) (k := 5) (b := (v + 7)) dX7_grow_17 fl_7_27 (by decide) (gT hG (IsMk_t1 hv) (IsMk_lt hv (k := 1) (by decide))) (gR hG (IsMk_r1_5 hv)) ?_
    refine w_iload_n dX7_grow_20 rfl (List.Mem.tail _ (List.Mem.head _)) ?_
    obtain ⟨h9, h⟩ := h
    refine i_iald (n := 9) dX7_grow_21 (gT hG (IsMk_t7 hv) (IsMk_lt hv (k := 7) (by decide))) (gL hG (IsMk_n7 hv)) rx1 h9 ?_
    refine i_cmp_ge (tgt := 53) dX7_grow_22 rfl (rI_R _ _ _) (rI_R _ _ _) (fun c9 => ?_) (fun c9 => ?_)
    · replace h := h.1 c9
      obtain ⟨q1, h⟩ := h
      refine w_iinc (v := nZ (x1 + 1)) (l' := [(1, .int (nZ (x1 + 1))), (0, .ref (v + 1))]) dX7_grow_53 (List.Mem.tail _ (List.Mem.head _)) (nZ_add _ _) (by decide) rfl ?_
      refine w_goto (tgt := 2) dX7_grow_56 rfl ?_
      exact w_weak (l' := [(0, .ref (v + 1)), (1, .int (nZ (x1 + 1)))]) (by intro q hq; simp only [List.mem_cons, List.not_mem_nil, or_false] at hq ⊢; rcases hq with rfl | rfl <;> simp) h
    · replace h := h.2 c9
      refine w_aload_n dX7_grow_25 rfl (List.Mem.head _) ?_
      refine w_getR (ci := 7) (k := 2) (b := (v + 4)) dX7_grow_26 fl_7_18 (by decide) (gT hG (IsMk_t1 hv) (IsMk_lt hv (k := 1) (by decide))) (gR hG (IsMk_r1_2 hv)) ?_
      refine w_iload_n dX7_grow_29 rfl (List.Mem.tail _ (List.Mem.head _)) ?_
      refine w_aload_n dX7_grow_30 rfl (List.Mem.head _) ?_
      refine w_getR (ci := 7) (k := 5) (b := (v + 7)) dX7_grow_31 fl_7_27 (by decide) (gT hG (IsMk_t1 hv) (IsMk_lt hv (k := 1) (by decide))) (gR hG (IsMk_r1_5 hv)) ?_
      refine w_iload_n dX7_grow_34 rfl (List.Mem.tail _ (List.Mem.head _)) ?_
      obtain ⟨h9, h⟩ := h
      refine i_iald (n := 9) dX7_grow_35 (gT hG (IsMk_t7 hv) (IsMk_lt hv (k := 7) (by decide))) (gL hG (IsMk_n7 hv)) rx1 h9 ?_
      refine w_aload_n dX7_grow_36 rfl (List.Mem.head _) ?_
      refine w_getR (ci := 7) (k := 2) (b := (v + 4)) dX7_grow_37 fl_7_18 (by decide) (gT hG (IsMk_t1 hv) (IsMk_lt hv (k := 1) (by decide))) (gR hG (IsMk_r1_2 hv)) ?_
      refine w_iload_n dX7_grow_40 rfl (List.Mem.tail _ (List.Mem.head _)) ?_
      obtain ⟨h9, h⟩ := h
      refine i_iald (n := 9) dX7_grow_41 (gT hG (IsMk_t4 hv) (IsMk_lt hv (k := 4) (by decide))) (gL hG (IsMk_n4 hv)) rx1 h9 ?_
      refine w_aload_n dX7_grow_42 rfl (List.Mem.head _) ?_
      refine w_getR (ci := 7) (k := 4) (b := (v + 6)) dX7_grow_43 fl_7_24 (by decide) (gT hG (IsMk_t1 hv) (IsMk_lt hv (k := 1) (by decide))) (gR hG (IsMk_r1_4 hv)) ?_
      refine w_iload_n dX7_grow_46 rfl (List.Mem.tail _ (List.Mem.head _)) ?_
      obtain ⟨h9, h⟩ := h
      refine i_iald (n := 9) dX7_grow_47 (gT hG (IsMk_t6 hv) (IsMk_lt hv (k := 6) (by decide))) (gL hG (IsMk_n6 hv)) rx1 h9 ?_
      obtain ⟨q2, h⟩ := h
      refine i_add dX7_grow_48 ?_
      refine i_mmin dX7_grow_49 lk_7_47 (Nat.le_of_ble_eq_true rfl) (rI_R _ _ _) q2 (fun z3 ez4 rz5 => ?_)
      replace h := h z3 ez4
      obtain ⟨h9, h⟩ := h
      refine i_iast (n := 9) dX7_grow_52 (gT hG (IsMk_t4 hv) (IsMk_lt hv (k := 4) (by decide))) (gL hG (IsMk_n4 hv)) rx1 h9 (fun σ6 eσ7 => ?_)
      replace h := h σ6 eσ7
      have hG8 : G σ6 u := eσ7 ▸ G.wI hG
      obtain ⟨q9, h⟩ := h
      refine w_iinc (v := nZ (x1 + 1)) (l' := [(1, .int (nZ (x1 + 1))), (0, .ref (v + 1))]) dX7_grow_53 (List.Mem.tail _ (List.Mem.head _)) (nZ_add _ _) (by decide) rfl ?_
      refine w_goto (tgt := 2) dX7_grow_56 rfl ?_
      exact w_weak (l' := [(0, .ref (v + 1)), (1, .int (nZ (x1 + 1)))]) (by intro q hq; simp only [List.mem_cons, List.not_mem_nil, or_false] at hq ⊢; rcases hq with rfl | rfl <;> simp) h
theorem dX8_clear_0 : decode cX8_clear 0 = .ok (.iconst 0, 1) := by decide +kernel
theorem dX8_clear_1 : decode cX8_clear 1 = .ok (.istore_n 1, 1) := by decide +kernel
theorem dX8_clear_2 : decode cX8_clear 2 = .ok (.iload_n 1, 1) := by decide +kernel
theorem dX8_clear_3 : decode cX8_clear 3 = .ok (.bipush 90, 2) := by decide +kernel
theorem dX8_clear_5 : decode cX8_clear 5 = .ok (.if_icmp .ge 23, 3) := by decide +kernel
theorem dX8_clear_8 : decode cX8_clear 8 = .ok (.aload_n 0, 1) := by decide +kernel
theorem dX8_clear_9 : decode cX8_clear 9 = .ok (.getfield 9, 3) := by decide +kernel
theorem dX8_clear_12 : decode cX8_clear 12 = .ok (.iload_n 1, 1) := by decide +kernel
theorem dX8_clear_13 : decode cX8_clear 13 = .ok (.iconst 0, 1) := by decide +kernel
theorem dX8_clear_14 : decode cX8_clear 14 = .ok (.iastore, 1) := by decide +kernel
theorem dX8_clear_15 : decode cX8_clear 15 = .ok (.aload_n 0, 1) := by decide +kernel
theorem dX8_clear_16 : decode cX8_clear 16 = .ok (.getfield 15, 3) := by decide +kernel
theorem dX8_clear_19 : decode cX8_clear 19 = .ok (.iload_n 1, 1) := by decide +kernel
theorem dX8_clear_20 : decode cX8_clear 20 = .ok (.iconst 0, 1) := by decide +kernel
theorem dX8_clear_21 : decode cX8_clear 21 = .ok (.iastore, 1) := by decide +kernel
theorem dX8_clear_22 : decode cX8_clear 22 = .ok (.iinc 1 1, 3) := by decide +kernel
theorem dX8_clear_25 : decode cX8_clear 25 = .ok (.goto (-23), 3) := by decide +kernel
theorem dX8_clear_28 : decode cX8_clear 28 = .ok (.return_, 1) := by decide +kernel
def L_X8_clear_2 (C : aM → List Value → aH → aO → aH → Prop) (sc : Nat × (Nat → Int32)) (P : aO → aH → Prop) (w : Nat) (x1 : Int) (σ : aH) : Prop :=
    wp C 8 cX8_clear 2 none false [] sc P 2 [(0, .ref w), (1, .int (nZ x1))] [] σ
set_option maxRecDepth 10000 in
theorem t_X8_clear {sc : Nat × (Nat → Int32)} {d : Nat} {Q : aO → aH → Prop} {σ : aH} {u : Nat} {w : Nat}  (hG : G σ u) (hw : IsWt w)
    (h : L_X8_clear_2 (Ev sc d) sc Q w 0 σ) :
    T sc (d + 1) mX8_clear [.ref w] σ Q := by
  refine T.of (c := 8) (code := cX8_clear) (mL := 2) (rt := none) (ini := false) (l := [(0, .ref w)]) rfl rfl rfl rfl (by decide) hs_X8_clear rfl rfl ?_
  refine w_iconst (v := nZ 0) dX8_clear_0 (by decide) ?_
  refine w_istore_n (l' := [(1, .int (nZ 0)), (0, .ref w)]) dX8_clear_1 rfl (by decide) rfl ?_
  exact w_weak (l' := [(0, .ref w), (1, .int (nZ 0))]) (by intro q hq; simp only [List.mem_cons, List.not_mem_nil, or_false] at hq ⊢; rcases hq with rfl | rfl <;> simp) h
set_option maxRecDepth 10000 in
theorem v_X8_clear_2 {C : aM → List Value → aH → aO → aH → Prop} {sc : Nat × (Nat → Int32)} {P : aO → aH → Prop} {σ : aH} {u : Nat} {w : Nat} {x1 : Int} (hG : G σ u) (hw : IsWt w) (rx1 : inR x1)
    (h : ((90 ≤ x1 → P (.inl none) σ) ∧ (¬ (90 ≤ x1) → ((0 ≤ x1 ∧ x1 < 90) ∧ (∀ σ1 : aH, wI σ (w + 1) x1 0 = σ1 → ((0 ≤ x1 ∧ x1 < 90) ∧ (∀ σ4 : aH, wI σ1 (w + 2) x1 0 = σ4 → (inR (x1 + 1) ∧ L_X8_clear_2 C sc P w (x1 + 1) σ4)))))))) :
    L_X8_clear_2 C sc P w x1 σ := by
  unfold L_X8_clear_2
  refine w_iload_n dX8_clear_2 rfl (List.Mem.tail _ (List.Mem.head _)) ?_
  refine w_bipush (v := nZ 90) dX8_clear_3 (by decide) ?_
  refine i_cmp_ge (tgt := 28) dX8_clear_5 rfl rx1 (by decide) (fun c9 => ?_) (fun c9 => ?_)
  · replace h := h.1 c9
    exact w_vret dX8_clear_28 rfl h
  · replace h := h.2 c9
    refine w_aload_n dX8_clear_8 rfl (List.Mem.head _) ?_
    refine w_getR (ci := 8) (k := 0) (b := (w + 1)) dX8_clear_9 fl_8_9 (by decide) (gT hG (IsWt_t0 hw) (IsWt_lt hw (k := 0) (by decide))) (gR hG (IsWt_r0_0 hw)) ?_
    refine w_iload_n dX8_clear_12 rfl (List.Mem.tail _ (List.Mem.head _)) ?_
    refine w_iconst (v := nZ 0) dX8_clear_13 (by decide) ?_
    obtain ⟨h9, h⟩ := h
    refine i_iast (n := 90) dX8_clear_14 (gT hG (IsWt_t1 hw) (IsWt_lt hw (k := 1) (by decide))) (gL hG (IsWt_n1 hw)) rx1 h9 (fun σ1 eσ2 => ?_)
    replace h := h σ1 eσ2
    have hG3 : G σ1 u := eσ2 ▸ G.wI hG
    refine w_aload_n dX8_clear_15 rfl (List.Mem.head _) ?_
    refine w_getR (ci := 8) (k := 1) (b := (w + 2)) dX8_clear_16 fl_8_15 (by decide) (gT hG3 (IsWt_t0 hw) (IsWt_lt hw (k := 0) (by decide))) (gR hG3 (IsWt_r0_1 hw)) ?_
    refine w_iload_n dX8_clear_19 rfl (List.Mem.tail _ (List.Mem.head _)) ?_
    refine w_iconst (v := nZ 0) dX8_clear_20 (by decide) ?_
    obtain ⟨h9, h⟩ := h
    refine i_iast (n := 90) dX8_clear_21 (gT hG3 (IsWt_t2 hw) (IsWt_lt hw (k := 2) (by decide))) (gL hG3 (IsWt_n2 hw)) rx1 h9 (fun σ4 eσ5 => ?_)
    replace h := h σ4 eσ5
    have hG6 : G σ4 u := eσ5 ▸ G.wI hG3
    obtain ⟨q7, h⟩ := h
    refine w_iinc (v := nZ (x1 + 1)) (l' := [(1, .int (nZ (x1 + 1))), (0, .ref w)]) dX8_clear_22 (List.Mem.tail _ (List.Mem.head _)) (nZ_add _ _) (by decide) rfl ?_
    refine w_goto (tgt := 2) dX8_clear_25 rfl ?_
    exact w_weak (l' := [(0, .ref w), (1, .int (nZ (x1 + 1)))]) (by intro q hq; simp only [List.mem_cons, List.not_mem_nil, or_false] at hq ⊢; rcases hq with rfl | rfl <;> simp) h
theorem dX8_add_0 : decode cX8_add 0 = .ok (.iload_n 1, 1) := by decide +kernel
theorem dX8_add_1 : decode cX8_add 1 = .ok (.ifCond .lt 29, 3) := by decide +kernel
theorem dX8_add_4 : decode cX8_add 4 = .ok (.iload_n 1, 1) := by decide +kernel
theorem dX8_add_5 : decode cX8_add 5 = .ok (.bipush 90, 2) := by decide +kernel
theorem dX8_add_7 : decode cX8_add 7 = .ok (.if_icmp .ge 23, 3) := by decide +kernel
theorem dX8_add_10 : decode cX8_add 10 = .ok (.aload_n 0, 1) := by decide +kernel
theorem dX8_add_11 : decode cX8_add 11 = .ok (.getfield 9, 3) := by decide +kernel
theorem dX8_add_14 : decode cX8_add 14 = .ok (.iload_n 1, 1) := by decide +kernel
theorem dX8_add_15 : decode cX8_add 15 = .ok (.dup2, 1) := by decide +kernel
theorem dX8_add_16 : decode cX8_add 16 = .ok (.iaload, 1) := by decide +kernel
theorem dX8_add_17 : decode cX8_add 17 = .ok (.iload_n 2, 1) := by decide +kernel
theorem dX8_add_18 : decode cX8_add 18 = .ok (.iadd, 1) := by decide +kernel
theorem dX8_add_19 : decode cX8_add 19 = .ok (.iastore, 1) := by decide +kernel
theorem dX8_add_20 : decode cX8_add 20 = .ok (.aload_n 0, 1) := by decide +kernel
theorem dX8_add_21 : decode cX8_add 21 = .ok (.getfield 15, 3) := by decide +kernel
theorem dX8_add_24 : decode cX8_add 24 = .ok (.iload_n 1, 1) := by decide +kernel
theorem dX8_add_25 : decode cX8_add 25 = .ok (.dup2, 1) := by decide +kernel
theorem dX8_add_26 : decode cX8_add 26 = .ok (.iaload, 1) := by decide +kernel
theorem dX8_add_27 : decode cX8_add 27 = .ok (.iload_n 3, 1) := by decide +kernel
theorem dX8_add_28 : decode cX8_add 28 = .ok (.iadd, 1) := by decide +kernel
theorem dX8_add_29 : decode cX8_add 29 = .ok (.iastore, 1) := by decide +kernel
theorem dX8_add_30 : decode cX8_add 30 = .ok (.return_, 1) := by decide +kernel
set_option maxRecDepth 10000 in
theorem t_X8_add {sc : Nat × (Nat → Int32)} {d : Nat} {Q : aO → aH → Prop} {σ : aH} {u : Nat} {w : Nat} {x1 : Int} {x2 : Int} {x3 : Int} (hG : G σ u) (hw : IsWt w) (rx1 : inR x1) (rx2 : inR x2) (rx3 : inR x3)
    (h : ((x1 < 0 → Q (.inl none) σ) ∧ (¬ (x1 < 0) → ((90 ≤ x1 → Q (.inl none) σ) ∧ (¬ (90 ≤ x1) → ((0 ≤ x1 ∧ x1 < 90) ∧ (inR ((rI σ (w + 1) x1) + x2) ∧ ((0 ≤ x1 ∧ x1 < 90) ∧ (∀ σ2 : aH, wI σ (w + 1) x1 ((rI σ (w + 1) x1) + x2) = σ2 → ((0 ≤ x1 ∧ x1 < 90) ∧ (inR ((rI σ2 (w + 2) x1) + x3) ∧ ((0 ≤ x1 ∧ x1 < 90) ∧ (∀ σ6 : aH, wI σ2 (w + 2) x1 ((rI σ2 (w + 2) x1) + x3) = σ6 → Q (.inl none) σ6))))))))))))) :
    T sc (d + 1) mX8_add [.ref w, .int (nZ x1), .int (nZ x2), .int (nZ x3)] σ Q := by
  refine T.of (c := 8) (code := cX8_add) (mL := 4) (rt := none) (ini := false) (l := [(0, .ref w), (1, .int (nZ x1)), (2, .int (nZ x2)), (3, .int (nZ x3))]) rfl rfl rfl rfl (by decide) hs_X8_add rfl rfl ?_
  refine w_iload_n dX8_add_0 rfl (List.Mem.tail _ (List.Mem.head _)) ?_
  refine i_if_lt (tgt := 30) dX8_add_1 rfl rx1 (fun c9 => ?_) (fun c9 => ?_)
  · replace h := h.1 c9
    exact w_vret dX8_add_30 rfl h
  · replace h := h.2 c9
    refine w_iload_n dX8_add_4 rfl (List.Mem.tail _ (List.Mem.head _)) ?_
    refine w_bipush (v := nZ 90) dX8_add_5 (by decide) ?_
    refine i_cmp_ge (tgt := 30) dX8_add_7 rfl rx1 (by decide) (fun c9 => ?_) (fun c9 => ?_)
    · replace h := h.1 c9
      exact w_vret dX8_add_30 rfl h
    · replace h := h.2 c9
      refine w_aload_n dX8_add_10 rfl (List.Mem.head _) ?_
      refine w_getR (ci := 8) (k := 0) (b := (w + 1)) dX8_add_11 fl_8_9 (by decide) (gT hG (IsWt_t0 hw) (IsWt_lt hw (k := 0) (by decide))) (gR hG (IsWt_r0_0 hw)) ?_
      refine w_iload_n dX8_add_14 rfl (List.Mem.tail _ (List.Mem.head _)) ?_
      refine w_dup2 dX8_add_15 rfl rfl ?_
      obtain ⟨h9, h⟩ := h
      refine i_iald (n := 90) dX8_add_16 (gT hG (IsWt_t1 hw) (IsWt_lt hw (k := 1) (by decide))) (gL hG (IsWt_n1 hw)) rx1 h9 ?_
      refine w_iload_n dX8_add_17 rfl (List.Mem.tail _ (List.Mem.tail _ (List.Mem.head _))) ?_
      obtain ⟨q1, h⟩ := h
      refine i_add dX8_add_18 ?_
      obtain ⟨h9, h⟩ := h
      refine i_iast (n := 90) dX8_add_19 (gT hG (IsWt_t1 hw) (IsWt_lt hw (k := 1) (by decide))) (gL hG (IsWt_n1 hw)) rx1 h9 (fun σ2 eσ3 => ?_)
      replace h := h σ2 eσ3
      have hG4 : G σ2 u := eσ3 ▸ G.wI hG
      refine w_aload_n dX8_add_20 rfl (List.Mem.head _) ?_
      refine w_getR (ci := 8) (k := 1) (b := (w + 2)) dX8_add_21 fl_8_15 (by decide) (gT hG4 (IsWt_t0 hw) (IsWt_lt hw (k := 0) (by decide))) (gR hG4 (IsWt_r0_1 hw)) ?_
      refine w_iload_n dX8_add_24 rfl (List.Mem.tail _ (List.Mem.head _)) ?_
      refine w_dup2 dX8_add_25 rfl rfl ?_
      obtain ⟨h9, h⟩ := h
      refine i_iald (n := 90) dX8_add_26 (gT hG4 (IsWt_t2 hw) (IsWt_lt hw (k := 2) (by decide))) (gL hG4 (IsWt_n2 hw)) rx1 h9 ?_
      refine w_iload_n dX8_add_27 rfl (List.Mem.tail _ (List.Mem.tail _ (List.Mem.tail _ (List.Mem.head _)))) ?_
      obtain ⟨q5, h⟩ := h
      refine i_add dX8_add_28 ?_
      obtain ⟨h9, h⟩ := h
      refine i_iast (n := 90) dX8_add_29 (gT hG4 (IsWt_t2 hw) (IsWt_lt hw (k := 2) (by decide))) (gL hG4 (IsWt_n2 hw)) rx1 h9 (fun σ6 eσ7 => ?_)
      replace h := h σ6 eσ7
      have hG8 : G σ6 u := eσ7 ▸ G.wI hG4
      exact w_vret dX8_add_30 rfl h
theorem dX8_heap_0 : decode cX8_heap 0 = .ok (.bipush 88, 2) := by decide +kernel
theorem dX8_heap_2 : decode cX8_heap 2 = .ok (.istore_n 1, 1) := by decide +kernel
theorem dX8_heap_3 : decode cX8_heap 3 = .ok (.iload_n 1, 1) := by decide +kernel
theorem dX8_heap_4 : decode cX8_heap 4 = .ok (.ifCond .lt 52, 3) := by decide +kernel
theorem dX8_heap_7 : decode cX8_heap 7 = .ok (.iload_n 1, 1) := by decide +kernel
theorem dX8_heap_8 : decode cX8_heap 8 = .ok (.bipush 10, 2) := by decide +kernel
theorem dX8_heap_10 : decode cX8_heap 10 = .ok (.irem, 1) := by decide +kernel
theorem dX8_heap_11 : decode cX8_heap 11 = .ok (.bipush 9, 2) := by decide +kernel
theorem dX8_heap_13 : decode cX8_heap 13 = .ok (.if_icmp .eq 37, 3) := by decide +kernel
theorem dX8_heap_16 : decode cX8_heap 16 = .ok (.aload_n 0, 1) := by decide +kernel
theorem dX8_heap_17 : decode cX8_heap 17 = .ok (.getfield 9, 3) := by decide +kernel
theorem dX8_heap_20 : decode cX8_heap 20 = .ok (.iload_n 1, 1) := by decide +kernel
theorem dX8_heap_21 : decode cX8_heap 21 = .ok (.dup2, 1) := by decide +kernel
theorem dX8_heap_22 : decode cX8_heap 22 = .ok (.iaload, 1) := by decide +kernel
theorem dX8_heap_23 : decode cX8_heap 23 = .ok (.aload_n 0, 1) := by decide +kernel
theorem dX8_heap_24 : decode cX8_heap 24 = .ok (.getfield 9, 3) := by decide +kernel
theorem dX8_heap_27 : decode cX8_heap 27 = .ok (.iload_n 1, 1) := by decide +kernel
theorem dX8_heap_28 : decode cX8_heap 28 = .ok (.iconst 1, 1) := by decide +kernel
theorem dX8_heap_29 : decode cX8_heap 29 = .ok (.iadd, 1) := by decide +kernel
theorem dX8_heap_30 : decode cX8_heap 30 = .ok (.iaload, 1) := by decide +kernel
theorem dX8_heap_31 : decode cX8_heap 31 = .ok (.iadd, 1) := by decide +kernel
theorem dX8_heap_32 : decode cX8_heap 32 = .ok (.iastore, 1) := by decide +kernel
theorem dX8_heap_33 : decode cX8_heap 33 = .ok (.aload_n 0, 1) := by decide +kernel
theorem dX8_heap_34 : decode cX8_heap 34 = .ok (.getfield 15, 3) := by decide +kernel
theorem dX8_heap_37 : decode cX8_heap 37 = .ok (.iload_n 1, 1) := by decide +kernel
theorem dX8_heap_38 : decode cX8_heap 38 = .ok (.dup2, 1) := by decide +kernel
theorem dX8_heap_39 : decode cX8_heap 39 = .ok (.iaload, 1) := by decide +kernel
theorem dX8_heap_40 : decode cX8_heap 40 = .ok (.aload_n 0, 1) := by decide +kernel
theorem dX8_heap_41 : decode cX8_heap 41 = .ok (.getfield 15, 3) := by decide +kernel
theorem dX8_heap_44 : decode cX8_heap 44 = .ok (.iload_n 1, 1) := by decide +kernel
theorem dX8_heap_45 : decode cX8_heap 45 = .ok (.iconst 1, 1) := by decide +kernel
theorem dX8_heap_46 : decode cX8_heap 46 = .ok (.iadd, 1) := by decide +kernel
theorem dX8_heap_47 : decode cX8_heap 47 = .ok (.iaload, 1) := by decide +kernel
theorem dX8_heap_48 : decode cX8_heap 48 = .ok (.iadd, 1) := by decide +kernel
theorem dX8_heap_49 : decode cX8_heap 49 = .ok (.iastore, 1) := by decide +kernel
theorem dX8_heap_50 : decode cX8_heap 50 = .ok (.iinc 1 (-1), 3) := by decide +kernel
theorem dX8_heap_53 : decode cX8_heap 53 = .ok (.goto (-50), 3) := by decide +kernel
theorem dX8_heap_56 : decode cX8_heap 56 = .ok (.return_, 1) := by decide +kernel
def L_X8_heap_3 (C : aM → List Value → aH → aO → aH → Prop) (sc : Nat × (Nat → Int32)) (P : aO → aH → Prop) (w : Nat) (x1 : Int) (σ : aH) : Prop :=
    wp C 8 cX8_heap 2 none false [] sc P 3 [(0, .ref w), (1, .int (nZ x1))] [] σ
set_option maxRecDepth 10000 in
theorem t_X8_heap {sc : Nat × (Nat → Int32)} {d : Nat} {Q : aO → aH → Prop} {σ : aH} {u : Nat} {w : Nat}  (hG : G σ u) (hw : IsWt w)
    (h : L_X8_heap_3 (Ev sc d) sc Q w 88 σ) :
    T sc (d + 1) mX8_heap [.ref w] σ Q := by
  refine T.of (c := 8) (code := cX8_heap) (mL := 2) (rt := none) (ini := false) (l := [(0, .ref w)]) rfl rfl rfl rfl (by decide) hs_X8_heap rfl rfl ?_
  refine w_bipush (v := nZ 88) dX8_heap_0 (by decide) ?_
  refine w_istore_n (l' := [(1, .int (nZ 88)), (0, .ref w)]) dX8_heap_2 rfl (by decide) rfl ?_
  exact w_weak (l' := [(0, .ref w), (1, .int (nZ 88))]) (by intro q hq; simp only [List.mem_cons, List.not_mem_nil, or_false] at hq ⊢; rcases hq with rfl | rfl <;> simp) h
set_option maxRecDepth 10000 in
theorem v_X8_heap_3 {C : aM → List Value → aH → aO → aH → Prop} {sc : Nat × (Nat → Int32)} {P : aO → aH → Prop} {σ : aH} {u : Nat} {w : Nat} {x1 : Int} (hG : G σ u) (hw : IsWt w) (rx1 : inR x1)
    (h : ((x1 < 0 → P (.inl none) σ) ∧ (¬ (x1 < 0) → ((0 ≤ x1 ∧ (0 : Int) < 10) ∧ inR (x1 % 10) ∧ (((x1 % 10) = 9 → (inR (x1 + (-1)) ∧ L_X8_heap_3 C sc P w (x1 + (-1)) σ)) ∧ (¬ ((x1 % 10) = 9) → ((0 ≤ x1 ∧ x1 < 90) ∧ (inR (x1 + 1) ∧ ((0 ≤ (x1 + 1) ∧ (x1 + 1) < 90) ∧ (inR ((rI σ (w + 1) x1) + (rI σ (w + 1) (x1 + 1))) ∧ ((0 ≤ x1 ∧ x1 < 90) ∧ (∀ σ5 : aH, wI σ (w + 1) x1 ((rI σ (w + 1) x1) + (rI σ (w + 1) (x1 + 1))) = σ5 → ((0 ≤ x1 ∧ x1 < 90) ∧ (inR (x1 + 1) ∧ ((0 ≤ (x1 + 1) ∧ (x1 + 1) < 90) ∧ (inR ((rI σ5 (w + 2) x1) + (rI σ5 (w + 2) (x1 + 1))) ∧ ((0 ≤ x1 ∧ x1 < 90) ∧ (∀ σ10 : aH, wI σ5 (w + 2) x1 ((rI σ5 (w + 2) x1) + (rI σ5 (w + 2) (x1 + 1))) = σ10 → (inR (x1 + (-1)) ∧ L_X8_heap_3 C sc P w (x1 + (-1)) σ10))))))))))))))))))) :
    L_X8_heap_3 C sc P w x1 σ := by
  unfold L_X8_heap_3
  refine w_iload_n dX8_heap_3 rfl (List.Mem.tail _ (List.Mem.head _)) ?_
  refine i_if_lt (tgt := 56) dX8_heap_4 rfl rx1 (fun c9 => ?_) (fun c9 => ?_)
  · replace h := h.1 c9
    exact w_vret dX8_heap_56 rfl h
  · replace h := h.2 c9
    refine w_iload_n dX8_heap_7 rfl (List.Mem.tail _ (List.Mem.head _)) ?_
    refine w_bipush (v := nZ 10) dX8_heap_8 (by decide) ?_
    obtain ⟨h9, q1, h⟩ := h
    refine i_rem dX8_heap_10 rx1 (by decide) h9 ?_
    refine w_bipush (v := nZ 9) dX8_heap_11 (by decide) ?_
    refine i_cmp_eq (tgt := 50) dX8_heap_13 rfl q1 (by decide) (fun c9 => ?_) (fun c9 => ?_)
    · replace h := h.1 c9
      obtain ⟨q2, h⟩ := h
      refine w_iinc (v := nZ (x1 + (-1))) (l' := [(1, .int (nZ (x1 + (-1)))), (0, .ref w)]) dX8_heap_50 (List.Mem.tail _ (List.Mem.head _)) (nZ_add _ _) (by decide) rfl ?_
      refine w_goto (tgt := 3) dX8_heap_53 rfl ?_
      exact w_weak (l' := [(0, .ref w), (1, .int (nZ (x1 + (-1))))]) (by intro q hq; simp only [List.mem_cons, List.not_mem_nil, or_false] at hq ⊢; rcases hq with rfl | rfl <;> simp) h
    · replace h := h.2 c9
      refine w_aload_n dX8_heap_16 rfl (List.Mem.head _) ?_
      refine w_getR (ci := 8) (k := 0) (b := (w + 1)) dX8_heap_17 fl_8_9 (by decide) (gT hG (IsWt_t0 hw) (IsWt_lt hw (k := 0) (by decide))) (gR hG (IsWt_r0_0 hw)) ?_
      refine w_iload_n dX8_heap_20 rfl (List.Mem.tail _ (List.Mem.head _)) ?_
      refine w_dup2 dX8_heap_21 rfl rfl ?_
      obtain ⟨h9, h⟩ := h
      refine i_iald (n := 90) dX8_heap_22 (gT hG (IsWt_t1 hw) (IsWt_lt hw (k := 1) (by decide))) (gL hG (IsWt_n1 hw)) rx1 h9 ?_
      refine w_aload_n dX8_heap_23 rfl (List.Mem.head _) ?_
      refine w_getR (ci := 8) (k := 0) (b := (w + 1)) dX8_heap_24 fl_8_9 (by decide) (gT hG (IsWt_t0 hw) (IsWt_lt hw (k := 0) (by decide))) (gR hG (IsWt_r0_0 hw)) ?_
      refine w_iload_n dX8_heap_27 rfl (List.Mem.tail _ (List.Mem.head _)) ?_
      refine w_iconst (v := nZ 1) dX8_heap_28 (by decide) ?_
      obtain ⟨q3, h⟩ := h
      refine i_add dX8_heap_29 ?_
      obtain ⟨h9, h⟩ := h
      refine i_iald (n := 90) dX8_heap_30 (gT hG (IsWt_t1 hw) (IsWt_lt hw (k := 1) (by decide))) (gL hG (IsWt_n1 hw)) q3 h9 ?_
      obtain ⟨q4, h⟩ := h
      refine i_add dX8_heap_31 ?_
      obtain ⟨h9, h⟩ := h
      refine i_iast (n := 90) dX8_heap_32 (gT hG (IsWt_t1 hw) (IsWt_lt hw (k := 1) (by decide))) (gL hG (IsWt_n1 hw)) rx1 h9 (fun σ5 eσ6 => ?_)
      replace h := h σ5 eσ6
      have hG7 : G σ5 u := eσ6 ▸ G.wI hG
      refine w_aload_n dX8_heap_33 rfl (List.Mem.head _) ?_
      refine w_getR (ci := 8) (k := 1) (b := (w + 2)) dX8_heap_34 fl_8_15 (by decide) (gT hG7 (IsWt_t0 hw) (IsWt_lt hw (k := 0) (by decide))) (gR hG7 (IsWt_r0_1 hw)) ?_
      refine w_iload_n dX8_heap_37 rfl (List.Mem.tail _ (List.Mem.head _)) ?_
      refine w_dup2 dX8_heap_38 rfl rfl ?_
      obtain ⟨h9, h⟩ := h
      refine i_iald (n := 90) dX8_heap_39 (gT hG7 (IsWt_t2 hw) (IsWt_lt hw (k := 2) (by decide))) (gL hG7 (IsWt_n2 hw)) rx1 h9 ?_
      refine w_aload_n dX8_heap_40 rfl (List.Mem.head _) ?_
      refine w_getR (ci := 8) (k := 1) (b := (w + 2)) dX8_heap_41 fl_8_15 (by decide) (gT hG7 (IsWt_t0 hw) (IsWt_lt hw (k := 0) (by decide))) (gR hG7 (IsWt_r0_1 hw)) ?_
      refine w_iload_n dX8_heap_44 rfl (List.Mem.tail _ (List.Mem.head _)) ?_
      refine w_iconst (v := nZ 1) dX8_heap_45 (by decide) ?_
      obtain ⟨q8, h⟩ := h
      refine i_add dX8_heap_46 ?_
      obtain ⟨h9, h⟩ := h
      refine i_iald (n := 90) dX8_heap_47 (gT hG7 (IsWt_t2 hw) (IsWt_lt hw (k := 2) (by decide))) (gL hG7 (IsWt_n2 hw)) q8 h9 ?_
      obtain ⟨q9, h⟩ := h
      refine i_add dX8_heap_48 ?_
      obtain ⟨h9, h⟩ := h
      refine i_iast (n := 90) dX8_heap_49 (gT hG7 (IsWt_t2 hw) (IsWt_lt hw (k := 2) (by decide))) (gL hG7 (IsWt_n2 hw)) rx1 h9 (fun σ10 eσ11 => ?_)
      replace h := h σ10 eσ11
      have hG12 : G σ10 u := eσ11 ▸ G.wI hG7
      obtain ⟨q13, h⟩ := h
      refine w_iinc (v := nZ (x1 + (-1))) (l' := [(1, .int (nZ (x1 + (-1)))), (0, .ref w)]) dX8_heap_50 (List.Mem.tail _ (List.Mem.head _)) (nZ_add _ _) (by decide) rfl ?_
      refine w_goto (tgt := 3) dX8_heap_53 rfl ?_
      exact w_weak (l' := [(0, .ref w), (1, .int (nZ (x1 + (-1))))]) (by intro q hq; simp only [List.mem_cons, List.not_mem_nil, or_false] at hq ⊢; rcases hq with rfl | rfl <;> simp) h
theorem dX8_at_0 : decode cX8_at 0 = .ok (.iload_n 1, 1) := by decide +kernel
theorem dX8_at_1 : decode cX8_at 1 = .ok (.ifCond .lt 18, 3) := by decide +kernel
theorem dX8_at_4 : decode cX8_at 4 = .ok (.iload_n 1, 1) := by decide +kernel
theorem dX8_at_5 : decode cX8_at 5 = .ok (.bipush 90, 2) := by decide +kernel
theorem dX8_at_7 : decode cX8_at 7 = .ok (.if_icmp .ge 12, 3) := by decide +kernel
theorem dX8_at_10 : decode cX8_at 10 = .ok (.aload_n 0, 1) := by decide +kernel
theorem dX8_at_11 : decode cX8_at 11 = .ok (.getfield 9, 3) := by decide +kernel
theorem dX8_at_14 : decode cX8_at 14 = .ok (.iload_n 1, 1) := by decide +kernel
theorem dX8_at_15 : decode cX8_at 15 = .ok (.iaload, 1) := by decide +kernel
theorem dX8_at_16 : decode cX8_at 16 = .ok (.goto 4, 3) := by decide +kernel
theorem dX8_at_19 : decode cX8_at 19 = .ok (.iconst 0, 1) := by decide +kernel
theorem dX8_at_20 : decode cX8_at 20 = .ok (.ireturn, 1) := by decide +kernel
set_option maxRecDepth 10000 in
theorem t_X8_at {sc : Nat × (Nat → Int32)} {d : Nat} {Q : aO → aH → Prop} {σ : aH} {u : Nat} {w : Nat} {x1 : Int} (hG : G σ u) (hw : IsWt w) (rx1 : inR x1)
    (h : ((x1 < 0 → Q (.inl (some (.int (nZ 0)))) σ) ∧ (¬ (x1 < 0) → ((90 ≤ x1 → Q (.inl (some (.int (nZ 0)))) σ) ∧ (¬ (90 ≤ x1) → ((0 ≤ x1 ∧ x1 < 90) ∧ Q (.inl (some (.int (nZ (rI σ (w + 1) x1))))) σ)))))) :
    T sc (d + 1) mX8_at [.ref w, .int (nZ x1)] σ Q := by
  refine T.of (c := 8) (code := cX8_at) (mL := 2) (rt := (some .int)) (ini := false) (l := [(0, .ref w), (1, .int (nZ x1))]) rfl rfl rfl rfl (by decide) hs_X8_at rfl rfl ?_
  refine w_iload_n dX8_at_0 rfl (List.Mem.tail _ (List.Mem.head _)) ?_
  refine i_if_lt (tgt := 19) dX8_at_1 rfl rx1 (fun c9 => ?_) (fun c9 => ?_)
  · replace h := h.1 c9
    refine w_iconst (v := nZ 0) dX8_at_19 (by decide) ?_
    exact w_iret dX8_at_20 rfl h
  · replace h := h.2 c9
    refine w_iload_n dX8_at_4 rfl (List.Mem.tail _ (List.Mem.head _)) ?_
    refine w_bipush (v := nZ 90) dX8_at_5 (by decide) ?_
    refine i_cmp_ge (tgt := 19) dX8_at_7 rfl rx1 (by decide) (fun c9 => ?_) (fun c9 => ?_)
    · replace h := h.1 c9
      refine w_iconst (v := nZ 0) dX8_at_19 (by decide) ?_
      exact w_iret dX8_at_20 rfl h
    · replace h := h.2 c9
      refine w_aload_n dX8_at_10 rfl (List.Mem.head _) ?_
      refine w_getR (ci := 8) (k := 0) (b := (w + 1)) dX8_at_11 fl_8_9 (by decide) (gT hG (IsWt_t0 hw) (IsWt_lt hw (k := 0) (by decide))) (gR hG (IsWt_r0_0 hw)) ?_
      refine w_iload_n dX8_at_14 rfl (List.Mem.tail _ (List.Mem.head _)) ?_
      obtain ⟨h9, h⟩ := h
      refine i_iald (n := 90) dX8_at_15 (gT hG (IsWt_t1 hw) (IsWt_lt hw (k := 1) (by decide))) (gL hG (IsWt_n1 hw)) rx1 h9 ?_
      refine w_goto (tgt := 20) dX8_at_16 rfl ?_
      exact w_iret dX8_at_20 rfl h
theorem dX8_lanternsAt_0 : decode cX8_lanternsAt 0 = .ok (.iload_n 1, 1) := by decide +kernel
theorem dX8_lanternsAt_1 : decode cX8_lanternsAt 1 = .ok (.ifCond .lt 18, 3) := by decide +kernel
theorem dX8_lanternsAt_4 : decode cX8_lanternsAt 4 = .ok (.iload_n 1, 1) := by decide +kernel
theorem dX8_lanternsAt_5 : decode cX8_lanternsAt 5 = .ok (.bipush 90, 2) := by decide +kernel
theorem dX8_lanternsAt_7 : decode cX8_lanternsAt 7 = .ok (.if_icmp .ge 12, 3) := by decide +kernel
theorem dX8_lanternsAt_10 : decode cX8_lanternsAt 10 = .ok (.aload_n 0, 1) := by decide +kernel
theorem dX8_lanternsAt_11 : decode cX8_lanternsAt 11 = .ok (.getfield 15, 3) := by decide +kernel
theorem dX8_lanternsAt_14 : decode cX8_lanternsAt 14 = .ok (.iload_n 1, 1) := by decide +kernel
theorem dX8_lanternsAt_15 : decode cX8_lanternsAt 15 = .ok (.iaload, 1) := by decide +kernel
theorem dX8_lanternsAt_16 : decode cX8_lanternsAt 16 = .ok (.goto 4, 3) := by decide +kernel
theorem dX8_lanternsAt_19 : decode cX8_lanternsAt 19 = .ok (.iconst 0, 1) := by decide +kernel
theorem dX8_lanternsAt_20 : decode cX8_lanternsAt 20 = .ok (.ireturn, 1) := by decide +kernel
set_option maxRecDepth 10000 in
theorem t_X8_lanternsAt {sc : Nat × (Nat → Int32)} {d : Nat} {Q : aO → aH → Prop} {σ : aH} {u : Nat} {w : Nat} {x1 : Int} (hG : G σ u) (hw : IsWt w) (rx1 : inR x1)
    (h : ((x1 < 0 → Q (.inl (some (.int (nZ 0)))) σ) ∧ (¬ (x1 < 0) → ((90 ≤ x1 → Q (.inl (some (.int (nZ 0)))) σ) ∧ (¬ (90 ≤ x1) → ((0 ≤ x1 ∧ x1 < 90) ∧ Q (.inl (some (.int (nZ (rI σ (w + 2) x1))))) σ)))))) :
    T sc (d + 1) mX8_lanternsAt [.ref w, .int (nZ x1)] σ Q := by
  refine T.of (c := 8) (code := cX8_lanternsAt) (mL := 2) (rt := (some .int)) (ini := false) (l := [(0, .ref w), (1, .int (nZ x1))]) rfl rfl rfl rfl (by decide) hs_X8_lanternsAt rfl rfl ?_
  refine w_iload_n dX8_lanternsAt_0 rfl (List.Mem.tail _ (List.Mem.head _)) ?_
  refine i_if_lt (tgt := 19) dX8_lanternsAt_1 rfl rx1 (fun c9 => ?_) (fun c9 => ?_)
  · replace h := h.1 c9
    refine w_iconst (v := nZ 0) dX8_lanternsAt_19 (by decide) ?_
    exact w_iret dX8_lanternsAt_20 rfl h
  · replace h := h.2 c9
    refine w_iload_n dX8_lanternsAt_4 rfl (List.Mem.tail _ (List.Mem.head _)) ?_
    refine w_bipush (v := nZ 90) dX8_lanternsAt_5 (by decide) ?_
    refine i_cmp_ge (tgt := 19) dX8_lanternsAt_7 rfl rx1 (by decide) (fun c9 => ?_) (fun c9 => ?_)
    · replace h := h.1 c9
      refine w_iconst (v := nZ 0) dX8_lanternsAt_19 (by decide) ?_
      exact w_iret dX8_lanternsAt_20 rfl h
    · replace h := h.2 c9
      refine w_aload_n dX8_lanternsAt_10 rfl (List.Mem.head _) ?_
      refine w_getR (ci := 8) (k := 1) (b := (w + 2)) dX8_lanternsAt_11 fl_8_15 (by decide) (gT hG (IsWt_t0 hw) (IsWt_lt hw (k := 0) (by decide))) (gR hG (IsWt_r0_1 hw)) ?_
      refine w_iload_n dX8_lanternsAt_14 rfl (List.Mem.tail _ (List.Mem.head _)) ?_
      obtain ⟨h9, h⟩ := h
      refine i_iald (n := 90) dX8_lanternsAt_15 (gT hG (IsWt_t2 hw) (IsWt_lt hw (k := 2) (by decide))) (gL hG (IsWt_n2 hw)) rx1 h9 ?_
      refine w_goto (tgt := 20) dX8_lanternsAt_16 rfl ?_
      exact w_iret dX8_lanternsAt_20 rfl h
theorem dX8_priceAt_0 : decode cX8_priceAt 0 = .ok (.iload_n 1, 1) := by decide +kernel
theorem dX8_priceAt_1 : decode cX8_priceAt 1 = .ok (.ifCond .lt 9, 3) := by decide +kernel
theorem dX8_priceAt_4 : decode cX8_priceAt 4 = .ok (.iload_n 1, 1) := by decide +kernel
theorem dX8_priceAt_5 : decode cX8_priceAt 5 = .ok (.bipush 90, 2) := by decide +kernel
theorem dX8_priceAt_7 : decode cX8_priceAt 7 = .ok (.if_icmp .lt 5, 3) := by decide +kernel
theorem dX8_priceAt_10 : decode cX8_priceAt 10 = .ok (.iconst 0, 1) := by decide +kernel
theorem dX8_priceAt_11 : decode cX8_priceAt 11 = .ok (.ireturn, 1) := by decide +kernel
theorem dX8_priceAt_12 : decode cX8_priceAt 12 = .ok (.iload_n 2, 1) := by decide +kernel
theorem dX8_priceAt_13 : decode cX8_priceAt 13 = .ok (.iconst 1, 1) := by decide +kernel
theorem dX8_priceAt_14 : decode cX8_priceAt 14 = .ok (.if_icmp .ne 19, 3) := by decide +kernel
theorem dX8_priceAt_17 : decode cX8_priceAt 17 = .ok (.aload_n 0, 1) := by decide +kernel
theorem dX8_priceAt_18 : decode cX8_priceAt 18 = .ok (.getfield 9, 3) := by decide +kernel
theorem dX8_priceAt_21 : decode cX8_priceAt 21 = .ok (.iload_n 1, 1) := by decide +kernel
theorem dX8_priceAt_22 : decode cX8_priceAt 22 = .ok (.iaload, 1) := by decide +kernel
theorem dX8_priceAt_23 : decode cX8_priceAt 23 = .ok (.aload_n 0, 1) := by decide +kernel
theorem dX8_priceAt_24 : decode cX8_priceAt 24 = .ok (.getfield 15, 3) := by decide +kernel
theorem dX8_priceAt_27 : decode cX8_priceAt 27 = .ok (.iload_n 1, 1) := by decide +kernel
theorem dX8_priceAt_28 : decode cX8_priceAt 28 = .ok (.iaload, 1) := by decide +kernel
theorem dX8_priceAt_29 : decode cX8_priceAt 29 = .ok (.iadd, 1) := by decide +kernel
theorem dX8_priceAt_30 : decode cX8_priceAt 30 = .ok (.goto 9, 3) := by decide +kernel
theorem dX8_priceAt_33 : decode cX8_priceAt 33 = .ok (.aload_n 0, 1) := by decide +kernel
theorem dX8_priceAt_34 : decode cX8_priceAt 34 = .ok (.getfield 9, 3) := by decide +kernel
theorem dX8_priceAt_37 : decode cX8_priceAt 37 = .ok (.iload_n 1, 1) := by decide +kernel
theorem dX8_priceAt_38 : decode cX8_priceAt 38 = .ok (.iaload, 1) := by decide +kernel
theorem dX8_priceAt_39 : decode cX8_priceAt 39 = .ok (.ireturn, 1) := by decide +kernel
set_option maxRecDepth 10000 in
theorem t_X8_priceAt {sc : Nat × (Nat → Int32)} {d : Nat} {Q : aO → aH → Prop} {σ : aH} {u : Nat} {w : Nat} {x1 : Int} {x2 : Int} (hG : G σ u) (hw : IsWt w) (rx1 : inR x1) (rx2 : inR x2)
    (h : ((x1 < 0 → Q (.inl (some (.int (nZ 0)))) σ) ∧ (¬ (x1 < 0) → ((x1 < 90 → ((¬ x2 = 1 → ((0 ≤ x1 ∧ x1 < 90) ∧ Q (.inl (some (.int (nZ (rI σ (w + 1) x1))))) σ)) ∧ (x2 = 1 → ((0 ≤ x1 ∧ x1 < 90) ∧ ((0 ≤ x1 ∧ x1 < 90) ∧ (inR ((rI σ (w + 1) x1) + (rI σ (w + 2) x1)) ∧ Q (.inl (some (.int (nZ ((rI σ (w + 1) x1) + (rI σ (w + 2) x1)))))) σ)))))) ∧ (¬ (x1 < 90) → Q (.inl (some (.int (nZ 0)))) σ))))) :
    T sc (d + 1) mX8_priceAt [.ref w, .int (nZ x1), .int (nZ x2)] σ Q := by
  refine T.of (c := 8) (code := cX8_priceAt) (mL := 3) (rt := (some .int)) (ini := false) (l := [(0, .ref w), (1, .int (nZ x1)), (2, .int (nZ x2))]) rfl rfl rfl rfl (by decide) hs_X8_priceAt rfl rfl ?_
  refine w_iload_n dX8_priceAt_0 rfl (List.Mem.tail _ (List.Mem.head _)) ?_
  refine i_if_lt (tgt := 10) dX8_priceAt_1 rfl rx1 (fun c9 => ?_) (fun c9 => ?_)
  · replace h := h.1 c9
    refine w_iconst (v := nZ 0) dX8_priceAt_10 (by decide) ?_
    exact w_iret dX8_priceAt_11 rfl h
  · replace h := h.2 c9
    refine w_iload_n dX8_priceAt_4 rfl (List.Mem.tail _ (List.Mem.head _)) ?_
    refine w_bipush (v := nZ 90) dX8_priceAt_5 (by decide) ?_
    refine i_cmp_lt (tgt := 12) dX8_priceAt_7 rfl rx1 (by decide) (fun c9 => ?_) (fun c9 => ?_)
    · replace h := h.1 c9
      refine w_iload_n dX8_priceAt_12 rfl (List.Mem.tail _ (List.Mem.tail _ (List.Mem.head _))) ?_
      refine w_iconst (v := nZ 1) dX8_priceAt_13 (by decide) ?_
      refine i_cmp_ne (tgt := 33) dX8_priceAt_14 rfl rx2 (by decide) (fun c9 => ?_) (fun c9 => ?_)
      · replace h := h.1 c9
        refine w_aload_n dX8_priceAt_33 rfl (List.Mem.head _) ?_
        refine w_getR (ci := 8) (k := 0) (b := (w + 1)) dX8_priceAt_34 fl_8_9 (by decide) (gT hG (IsWt_t0 hw) (IsWt_lt hw (k := 0) (by decide))) (gR hG (IsWt_r0_0 hw)) ?_
        refine w_iload_n dX8_priceAt_37 rfl (List.Mem.tail _ (List.Mem.head _)) ?_
        obtain ⟨h9, h⟩ := h
        refine i_iald (n := 90) dX8_priceAt_38 (gT hG (IsWt_t1 hw) (IsWt_lt hw (k := 1) (by decide))) (gL hG (IsWt_n1 hw)) rx1 h9 ?_
        exact w_iret dX8_priceAt_39 rfl h
      · replace h := h.2 c9
        refine w_aload_n dX8_priceAt_17 rfl (List.Mem.head _) ?_
        refine w_getR (ci := 8) (k := 0) (b := (w + 1)) dX8_priceAt_18 fl_8_9 (by decide) (gT hG (IsWt_t0 hw) (IsWt_lt hw (k := 0) (by decide))) (gR hG (IsWt_r0_0 hw)) ?_
        refine w_iload_n dX8_priceAt_21 rfl (List.Mem.tail _ (List.Mem.head _)) ?_
        obtain ⟨h9, h⟩ := h
        refine i_iald (n := 90) dX8_priceAt_22 (gT hG (IsWt_t1 hw) (IsWt_lt hw (k := 1) (by decide))) (gL hG (IsWt_n1 hw)) rx1 h9 ?_
        refine w_aload_n dX8_priceAt_23 rfl (List.Mem.head _) ?_
        refine w_getR (ci := 8) (k := 1) (b := (w + 2)) dX8_priceAt_24 fl_8_15 (by decide) (gT hG (IsWt_t0 hw) (IsWt_lt hw (k := 0) (by decide))) (gR hG (IsWt_r0_1 hw)) ?_
        refine w_iload_n dX8_priceAt_27 rfl (List.Mem.tail _ (List.Mem.head _)) ?_
        obtain ⟨h9, h⟩ := h
        refine i_iald (n := 90) dX8_priceAt_28 (gT hG (IsWt_t2 hw) (IsWt_lt hw (k := 2) (by decide))) (gL hG (IsWt_n2 hw)) rx1 h9 ?_
        obtain ⟨q1, h⟩ := h
        refine i_add dX8_priceAt_29 ?_
        refine w_goto (tgt := 39) dX8_priceAt_30 rfl ?_
        exact w_iret dX8_priceAt_39 rfl h
    · replace h := h.2 c9
      refine w_iconst (v := nZ 0) dX8_priceAt_10 (by decide) ?_
      exact w_iret dX8_priceAt_11 rfl h
theorem dX0_tell_0 : decode cX0_tell 0 = .ok (.iconst 0, 1) := by decide +kernel
theorem dX0_tell_1 : decode cX0_tell 1 = .ok (.istore_n 3, 1) := by decide +kernel
theorem dX0_tell_2 : decode cX0_tell 2 = .ok (.iload_n 3, 1) := by decide +kernel
theorem dX0_tell_3 : decode cX0_tell 3 = .ok (.aload_n 0, 1) := by decide +kernel
theorem dX0_tell_4 : decode cX0_tell 4 = .ok (.getfield 18, 3) := by decide +kernel
theorem dX0_tell_7 : decode cX0_tell 7 = .ok (.if_icmp .ge 19, 3) := by decide +kernel
theorem dX0_tell_10 : decode cX0_tell 10 = .ok (.aload_n 0, 1) := by decide +kernel
theorem dX0_tell_11 : decode cX0_tell 11 = .ok (.getfield 9, 3) := by decide +kernel
theorem dX0_tell_14 : decode cX0_tell 14 = .ok (.iload_n 3, 1) := by decide +kernel
theorem dX0_tell_15 : decode cX0_tell 15 = .ok (.iaload, 1) := by decide +kernel
theorem dX0_tell_16 : decode cX0_tell 16 = .ok (.iload_n 1, 1) := by decide +kernel
theorem dX0_tell_17 : decode cX0_tell 17 = .ok (.if_icmp .ge 9, 3) := by decide +kernel
theorem dX0_tell_20 : decode cX0_tell 20 = .ok (.iinc 3 1, 3) := by decide +kernel
theorem dX0_tell_23 : decode cX0_tell 23 = .ok (.goto (-21), 3) := by decide +kernel
theorem dX0_tell_26 : decode cX0_tell 26 = .ok (.iload_n 3, 1) := by decide +kernel
theorem dX0_tell_27 : decode cX0_tell 27 = .ok (.aload_n 0, 1) := by decide +kernel
theorem dX0_tell_28 : decode cX0_tell 28 = .ok (.getfield 18, 3) := by decide +kernel
theorem dX0_tell_31 : decode cX0_tell 31 = .ok (.if_icmp .ge 21, 3) := by decide +kernel
theorem dX0_tell_34 : decode cX0_tell 34 = .ok (.aload_n 0, 1) := by decide +kernel
theorem dX0_tell_35 : decode cX0_tell 35 = .ok (.getfield 9, 3) := by decide +kernel
theorem dX0_tell_38 : decode cX0_tell 38 = .ok (.iload_n 3, 1) := by decide +kernel
theorem dX0_tell_39 : decode cX0_tell 39 = .ok (.iaload, 1) := by decide +kernel
theorem dX0_tell_40 : decode cX0_tell 40 = .ok (.iload_n 1, 1) := by decide +kernel
theorem dX0_tell_41 : decode cX0_tell 41 = .ok (.if_icmp .ne 11, 3) := by decide +kernel
theorem dX0_tell_44 : decode cX0_tell 44 = .ok (.aload_n 0, 1) := by decide +kernel
theorem dX0_tell_45 : decode cX0_tell 45 = .ok (.getfield 15, 3) := by decide +kernel
theorem dX0_tell_48 : decode cX0_tell 48 = .ok (.iload_n 3, 1) := by decide +kernel
theorem dX0_tell_49 : decode cX0_tell 49 = .ok (.iload_n 2, 1) := by decide +kernel
theorem dX0_tell_50 : decode cX0_tell 50 = .ok (.iastore, 1) := by decide +kernel
theorem dX0_tell_51 : decode cX0_tell 51 = .ok (.return_, 1) := by decide +kernel
theorem dX0_tell_52 : decode cX0_tell 52 = .ok (.aload_n 0, 1) := by decide +kernel
theorem dX0_tell_53 : decode cX0_tell 53 = .ok (.getfield 18, 3) := by decide +kernel
theorem dX0_tell_56 : decode cX0_tell 56 = .ok (.bipush 20, 2) := by decide +kernel
theorem dX0_tell_58 : decode cX0_tell 58 = .ok (.if_icmp .lt 4, 3) := by decide +kernel
theorem dX0_tell_61 : decode cX0_tell 61 = .ok (.return_, 1) := by decide +kernel
theorem dX0_tell_62 : decode cX0_tell 62 = .ok (.aload_n 0, 1) := by decide +kernel
theorem dX0_tell_63 : decode cX0_tell 63 = .ok (.getfield 18, 3) := by decide +kernel
theorem dX0_tell_66 : decode cX0_tell 66 = .ok (.istore 4, 2) := by decide +kernel
theorem dX0_tell_68 : decode cX0_tell 68 = .ok (.iload 4, 2) := by decide +kernel
theorem dX0_tell_70 : decode cX0_tell 70 = .ok (.iload_n 3, 1) := by decide +kernel
theorem dX0_tell_71 : decode cX0_tell 71 = .ok (.if_icmp .le 41, 3) := by decide +kernel
theorem dX0_tell_74 : decode cX0_tell 74 = .ok (.aload_n 0, 1) := by decide +kernel
theorem dX0_tell_75 : decode cX0_tell 75 = .ok (.getfield 9, 3) := by decide +kernel
theorem dX0_tell_78 : decode cX0_tell 78 = .ok (.iload 4, 2) := by decide +kernel
theorem dX0_tell_80 : decode cX0_tell 80 = .ok (.aload_n 0, 1) := by decide +kernel
theorem dX0_tell_81 : decode cX0_tell 81 = .ok (.getfield 9, 3) := by decide +kernel
theorem dX0_tell_84 : decode cX0_tell 84 = .ok (.iload 4, 2) := by decide +kernel
theorem dX0_tell_86 : decode cX0_tell 86 = .ok (.iconst 1, 1) := by decide +kernel
theorem dX0_tell_87 : decode cX0_tell 87 = .ok (.isub, 1) := by decide +kernel
theorem dX0_tell_88 : decode cX0_tell 88 = .ok (.iaload, 1) := by decide +kernel
theorem dX0_tell_89 : decode cX0_tell 89 = .ok (.iastore, 1) := by decide +kernel
theorem dX0_tell_90 : decode cX0_tell 90 = .ok (.aload_n 0, 1) := by decide +kernel
theorem dX0_tell_91 : decode cX0_tell 91 = .ok (.getfield 15, 3) := by decide +kernel
theorem dX0_tell_94 : decode cX0_tell 94 = .ok (.iload 4, 2) := by decide +kernel
theorem dX0_tell_96 : decode cX0_tell 96 = .ok (.aload_n 0, 1) := by decide +kernel
theorem dX0_tell_97 : decode cX0_tell 97 = .ok (.getfield 15, 3) := by decide +kernel
theorem dX0_tell_100 : decode cX0_tell 100 = .ok (.iload 4, 2) := by decide +kernel
theorem dX0_tell_102 : decode cX0_tell 102 = .ok (.iconst 1, 1) := by decide +kernel
theorem dX0_tell_103 : decode cX0_tell 103 = .ok (.isub, 1) := by decide +kernel
theorem dX0_tell_104 : decode cX0_tell 104 = .ok (.iaload, 1) := by decide +kernel
theorem dX0_tell_105 : decode cX0_tell 105 = .ok (.iastore, 1) := by decide +kernel
theorem dX0_tell_106 : decode cX0_tell 106 = .ok (.iinc 4 (-1), 3) := by decide +kernel
theorem dX0_tell_109 : decode cX0_tell 109 = .ok (.goto (-41), 3) := by decide +kernel
theorem dX0_tell_112 : decode cX0_tell 112 = .ok (.aload_n 0, 1) := by decide +kernel
theorem dX0_tell_113 : decode cX0_tell 113 = .ok (.getfield 9, 3) := by decide +kernel
theorem dX0_tell_116 : decode cX0_tell 116 = .ok (.iload_n 3, 1) := by decide +kernel
theorem dX0_tell_117 : decode cX0_tell 117 = .ok (.iload_n 1, 1) := by decide +kernel
theorem dX0_tell_118 : decode cX0_tell 118 = .ok (.iastore, 1) := by decide +kernel
theorem dX0_tell_119 : decode cX0_tell 119 = .ok (.aload_n 0, 1) := by decide +kernel
theorem dX0_tell_120 : decode cX0_tell 120 = .ok (.getfield 15, 3) := by decide +kernel
theorem dX0_tell_123 : decode cX0_tell 123 = .ok (.iload_n 3, 1) := by decide +kernel
theorem dX0_tell_124 : decode cX0_tell 124 = .ok (.iload_n 2, 1) := by decide +kernel
theorem dX0_tell_125 : decode cX0_tell 125 = .ok (.iastore, 1) := by decide +kernel
theorem dX0_tell_126 : decode cX0_tell 126 = .ok (.aload_n 0, 1) := by decide +kernel
theorem dX0_tell_127 : decode cX0_tell 127 = .ok (.dup, 1) := by decide +kernel
theorem dX0_tell_128 : decode cX0_tell 128 = .ok (.getfield 18, 3) := by decide +kernel
theorem dX0_tell_131 : decode cX0_tell 131 = .ok (.iconst 1, 1) := by decide +kernel
theorem dX0_tell_132 : decode cX0_tell 132 = .ok (.iadd, 1) := by decide +kernel
theorem dX0_tell_133 : decode cX0_tell 133 = .ok (.putfield 18, 3) := by decide +kernel
theorem dX0_tell_136 : decode cX0_tell 136 = .ok (.return_, 1) := by decide +kernel
def L_X0_tell_2 (C : aM → List Value → aH → aO → aH → Prop) (sc : Nat × (Nat → Int32)) (P : aO → aH → Prop) (a : Nat) (x1 : Int) (x2 : Int) (x3 : Int) (σ : aH) : Prop :=
    wp C 0 cX0_tell 5 none false [] sc P 2 [(0, .ref a), (1, .int (nZ x1)), (2, .int (nZ x2)), (3, .int (nZ x3))] [] σ
def L_X0_tell_26 (C : aM → List Value → aH → aO → aH → Prop) (sc : Nat × (Nat → Int32)) (P : aO → aH → Prop) (a : Nat) (x1 : Int) (x2 : Int) (x3 : Int) (σ : aH) : Prop :=
    wp C 0 cX0_tell 5 none false [] sc P 26 [(0, .ref a), (1, .int (nZ x1)), (2, .int (nZ x2)), (3, .int (nZ x3))] [] σ
def L_X0_tell_68 (C : aM → List Value → aH → aO → aH → Prop) (sc : Nat × (Nat → Int32)) (P : aO → aH → Prop) (a : Nat) (x1 : Int) (x2 : Int) (x3 : Int) (x4 : Int) (σ : aH) : Prop :=
    wp C 0 cX0_tell 5 none false [] sc P 68 [(0, .ref a), (1, .int (nZ x1)), (2, .int (nZ x2)), (3, .int (nZ x3)), (4, .int (nZ x4))] [] σ
set_option maxRecDepth 10000 in
theorem t_X0_tell {sc : Nat × (Nat → Int32)} {d : Nat} {Q : aO → aH → Prop} {σ : aH} {u : Nat} {a : Nat} {x1 : Int} {x2 : Int} (hG : G σ u) (ha : IsCh a) (rx1 : inR x1) (rx2 : inR x2)
    (h : L_X0_tell_2 (Ev sc d) sc Q a x1 x2 0 σ) :
    T sc (d + 1) mX0_tell [.ref a, .int (nZ x1), .int (nZ x2)] σ Q := by
  refine T.of (c := 0) (code := cX0_tell) (mL := 5) (rt := none) (ini := false) (l := [(0, .ref a), (1, .int (nZ x1)), (2, .int (nZ x2))]) rfl rfl rfl rfl (by decide) hs_X0_tell rfl rfl ?_
  refine w_iconst (v := nZ 0) dX0_tell_0 (by decide) ?_
  refine w_istore_n (l' := [(3, .int (nZ 0)), (0, .ref a), (1, .int (nZ x1)), (2, .int (nZ x2))]) dX0_tell_1 rfl (by decide) rfl ?_
  exact w_weak (l' := [(0, .ref a), (1, .int (nZ x1)), (2, .int (nZ x2)), (3, .int (nZ 0))]) (by intro q hq; simp only [List.mem_cons, List.not_mem_nil, or_false] at hq ⊢; rcases hq with rfl | rfl | rfl | rfl <;> simp) h
set_option maxRecDepth 10000 in
theorem v_X0_tell_2 {C : aM → List Value → aH → aO → aH → Prop} {sc : Nat × (Nat → Int32)} {P : aO → aH → Prop} {σ : aH} {u : Nat} {a : Nat} {x1 : Int} {x2 : Int} {x3 : Int} (hG : G σ u) (ha : IsCh a) (rx1 : inR x1) (rx2 : inR x2) (rx3 : inR x3)
    (h : (((rI σ a 2) ≤ x3 → L_X0_tell_26 C sc P a x1 x2 x3 σ) ∧ (¬ ((rI σ a 2) ≤ x3) → ((0 ≤ x3 ∧ x3 < 20) ∧ ((x1 ≤ (rI σ (a + 1) x3) → L_X0_tell_26 C sc P a x1 x2 x3 σ) ∧ (¬ (x1 ≤ (rI σ (a + 1) x3)) → (inR (x3 + 1) ∧ L_X0_tell_2 C sc P a x1 x2 (x3 + 1) σ))))))) :
    L_X0_tell_2 C sc P a x1 x2 x3 σ := by
  unfold L_X0_tell_2
  refine w_iload_n dX0_tell_2 rfl (List.Mem.tail _ (List.Mem.tail _ (List.Mem.tail _ (List.Mem.head _)))) ?_
  refine w_aload_n dX0_tell_3 rfl (List.Mem.head _) ?_
  refine i_getI (ci := 0) 2 rfl dX0_tell_4 fl_0_18 (by decide) (gT hG (IsCh_t0 ha) (IsCh_lt ha (k := 0) (by decide))) ?_
  refine i_cmp_ge (tgt := 26) dX0_tell_7 rfl rx3 (rI_R _ _ _) (fun c9 => ?_) (fun c9 => ?_)
  · replace h := h.1 c9
    exact h
  · replace h := h.2 c9
    refine w_aload_n dX0_tell_10 rfl (List.Mem.head _) ?_
    refine w_getR (ci := 0) (k := 0) (b := (a + 1)) dX0_tell_11 fl_0_9 (by decide) (gT hG (IsCh_t0 ha) (IsCh_lt ha (k := 0) (by decide))) (gR hG (IsCh_r0_0 ha)) ?_
    refine w_iload_n dX0_tell_14 rfl (List.Mem.tail _ (List.Mem.tail _ (List.Mem.tail _ (List.Mem.head _)))) ?_
    obtain ⟨h9, h⟩ := h
    refine i_iald (n := 20) dX0_tell_15 (gT hG (IsCh_t1 ha) (IsCh_lt ha (k := 1) (by decide))) (gL hG (IsCh_n1 ha)) rx3 h9 ?_
    refine w_iload_n dX0_tell_16 rfl (List.Mem.tail _ (List.Mem.head _)) ?_
    refine i_cmp_ge (tgt := 26) dX0_tell_17 rfl (rI_R _ _ _) rx1 (fun c9 => ?_) (fun c9 => ?_)
    · replace h := h.1 c9
      exact h
    · replace h := h.2 c9
      obtain ⟨q1, h⟩ := h
      refine w_iinc (v := nZ (x3 + 1)) (l' := [(3, .int (nZ (x3 + 1))), (0, .ref a), (1, .int (nZ x1)), (2, .int (nZ x2))]) dX0_tell_20 (List.Mem.tail _ (List.Mem.tail _ (List.Mem.tail _ (List.Mem.head _)))) (nZ_add _ _) (by decide) rfl ?_
      refine w_goto (tgt := 2) dX0_tell_23 rfl ?_
      exact w_weak (l' := [(0, .ref a), (1, .int (nZ x1)), (2, .int (nZ x2)), (3, .int (nZ (x3 + 1)))]) (by intro q hq; simp only [List.mem_cons, List.not_mem_nil, or_false] at hq ⊢; rcases hq with rfl | rfl | rfl | rfl <;> simp) h
set_option maxRecDepth 10000 in
theorem v_X0_tell_26 {C : aM → List Value → aH → aO → aH → Prop} {sc : Nat × (Nat → Int32)} {P : aO → aH → Prop} {σ : aH} {u : Nat} {a : Nat} {x1 : Int} {x2 : Int} {x3 : Int} (hG : G σ u) (ha : IsCh a) (rx1 : inR x1) (rx2 : inR x2) (rx3 : inR x3)
    (h : (((rI σ a 2) ≤ x3 → (((rI σ a 2) < 20 → (∀ z1 : Int, z1 = (rI σ a 2) → L_X0_tell_68 C sc P a x1 x2 x3 z1 σ)) ∧ (¬ ((rI σ a 2) < 20) → P (.inl none) σ))) ∧ (¬ ((rI σ a 2) ≤ x3) → ((0 ≤ x3 ∧ x3 < 20) ∧ ((¬ (rI σ (a + 1) x3) = x1 → (((rI σ a 2) < 20 → (∀ z4 : Int, z4 = (rI σ a 2) → L_X0_tell_68 C sc P a x1 x2 x3 z4 σ)) ∧ (¬ ((rI σ a 2) < 20) → P (.inl none) σ))) ∧ ((rI σ (a + 1) x3) = x1 → ((0 ≤ x3 ∧ x3 < 20) ∧ (∀ σ7 : aH, wI σ (a + 2) x3 x2 = σ7 → P (.inl none) σ7)))))))) :
    L_X0_tell_26 C sc P a x1 x2 x3 σ := by
  unfold L_X0_tell_26
  refine w_iload_n dX0_tell_26 rfl (List.Mem.tail _ (List.Mem.tail _ (List.Mem.tail _ (List.Mem.head _)))) ?_
  refine w_aload_n dX0_tell_27 rfl (List.Mem.head _) ?_
  refine i_getI (ci := 0) 2 rfl dX0_tell_28 fl_0_18 (by decide) (gT hG (IsCh_t0 ha) (IsCh_lt ha (k := 0) (by decide))) ?_
  refine i_cmp_ge (tgt := 52) dX0_tell_31 rfl rx3 (rI_R _ _ _) (fun c9 => ?_) (fun c9 => ?_)
  · replace h := h.1 c9
    refine w_aload_n dX0_tell_52 rfl (List.Mem.head _) ?_
    refine i_getI (ci := 0) 2 rfl dX0_tell_53 fl_0_18 (by decide) (gT hG (IsCh_t0 ha) (IsCh_lt ha (k := 0) (by decide))) ?_
    refine w_bipush (v := nZ 20) dX0_tell_56 (by decide) ?_
    refine i_cmp_lt (tgt := 62) dX0_tell_58 rfl (rI_R _ _ _) (by decide) (fun c9 => ?_) (fun c9 => ?_)
    · replace h := h.1 c9
      refine w_aload_n dX0_tell_62 rfl (List.Mem.head _) ?_
      refine i_getI (ci := 0) 2 rfl dX0_tell_63 fl_0_18 (by decide) (gT hG (IsCh_t0 ha) (IsCh_lt ha (k := 0) (by decide))) ?_
      refine top_i (fun z1 ez2 => ?_)
      have rz3 : inR z1 := ez2 ▸ (rI_R _ _ _)
      replace h := h z1 ez2
      refine w_istore (l' := [(4, .int (nZ z1)), (0, .ref a), (1, .int (nZ x1)), (2, .int (nZ x2)), (3, .int (nZ x3))]) dX0_tell_66 (by decide) rfl ?_
      exact w_weak (l' := [(0, .ref a), (1, .int (nZ x1)), (2, .int (nZ x2)), (3, .int (nZ x3)), (4, .int (nZ z1))]) (by intro q hq; simp only [List.mem_cons, List.not_mem_nil, or_false] at hq ⊢; rcases hq with rfl | rfl | rfl | rfl | rfl <;> simp) h
    · replace h := h.2 c9
      exact w_vret dX0_tell_61 rfl h
  · replace h := h.2 c9
    refine w_aload_n dX0_tell_34 rfl (List.Mem.head _) ?_
    refine w_getR (ci := 0) (k := 0) (b := (a + 1)) dX0_tell_35 fl_0_9 (by decide) (gT hG (IsCh_t0 ha) (IsCh_lt ha (k := 0) (by decide))) (gR hG (IsCh_r0_0 ha)) ?_
    refine w_iload_n dX0_tell_38 rfl (List.Mem.tail _ (List.Mem.tail _ (List.Mem.tail _ (List.Mem.head _)))) ?_
    obtain ⟨h9, h⟩ := h
    refine i_iald (n := 20) dX0_tell_39 (gT hG (IsCh_t1 ha) (IsCh_lt ha (k := 1) (by decide))) (gL hG (IsCh_n1 ha)) rx3 h9 ?_
    refine w_iload_n dX0_tell_40 rfl (List.Mem.tail _ (List.Mem.head _)) ?_
    refine i_cmp_ne (tgt := 52) dX0_tell_41 rfl (rI_R _ _ _) rx1 (fun c9 => ?_) (fun c9 => ?_)
    · replace h := h.1 c9
      refine w_aload_n dX0_tell_52 rfl (List.Mem.head _) ?_
      refine i_getI (ci := 0) 2 rfl dX0_tell_53 fl_0_18 (by decide) (gT hG (IsCh_t0 ha) (IsCh_lt ha (k := 0) (by decide))) ?_
      refine w_bipush (v := nZ 20) dX0_tell_56 (by decide) ?_
      refine i_cmp_lt (tgt := 62) dX0_tell_58 rfl (rI_R _ _ _) (by decide) (fun c9 => ?_) (fun c9 => ?_)
      · replace h := h.1 c9
        refine w_aload_n dX0_tell_62 rfl (List.Mem.head _) ?_
        refine i_getI (ci := 0) 2 rfl dX0_tell_63 fl_0_18 (by decide) (gT hG (IsCh_t0 ha) (IsCh_lt ha (k := 0) (by decide))) ?_
        refine top_i (fun z4 ez5 => ?_)
        have rz6 : inR z4 := ez5 ▸ (rI_R _ _ _)
        replace h := h z4 ez5
        refine w_istore (l' := [(4, .int (nZ z4)), (0, .ref a), (1, .int (nZ x1)), (2, .int (nZ x2)), (3, .int (nZ x3))]) dX0_tell_66 (by decide) rfl ?_
        exact w_weak (l' := [(0, .ref a), (1, .int (nZ x1)), (2, .int (nZ x2)), (3, .int (nZ x3)), (4, .int (nZ z4))]) (by intro q hq; simp only [List.mem_cons, List.not_mem_nil, or_false] at hq ⊢; rcases hq with rfl | rfl | rfl | rfl | rfl <;> simp) h
      · replace h := h.2 c9
        exact w_vret dX0_tell_61 rfl h
    · replace h := h.2 c9
      refine w_aload_n dX0_tell_44 rfl (List.Mem.head _) ?_
      refine w_getR (ci := 0) (k := 1) (b := (a + 2)) dX0_tell_45 fl_0_15 (by decide) (gT hG (IsCh_t0 ha) (IsCh_lt ha (k := 0) (by decide))) (gR hG (IsCh_r0_1 ha)) ?_
      refine w_iload_n dX0_tell_48 rfl (List.Mem.tail _ (List.Mem.tail _ (List.Mem.tail _ (List.Mem.head _)))) ?_
      refine w_iload_n dX0_tell_49 rfl (List.Mem.tail _ (List.Mem.tail _ (List.Mem.head _))) ?_
      obtain ⟨h9, h⟩ := h
      refine i_iast (n := 20) dX0_tell_50 (gT hG (IsCh_t2 ha) (IsCh_lt ha (k := 2) (by decide))) (gL hG (IsCh_n2 ha)) rx3 h9 (fun σ7 eσ8 => ?_)
      replace h := h σ7 eσ8
      have hG9 : G σ7 u := eσ8 ▸ G.wI hG
      exact w_vret dX0_tell_51 rfl h
set_option maxRecDepth 10000 in
theorem v_X0_tell_68 {C : aM → List Value → aH → aO → aH → Prop} {sc : Nat × (Nat → Int32)} {P : aO → aH → Prop} {σ : aH} {u : Nat} {a : Nat} {x1 : Int} {x2 : Int} {x3 : Int} {x4 : Int} (hG : G σ u) (ha : IsCh a) (rx1 : inR x1) (rx2 : inR x2) (rx3 : inR x3) (rx4 : inR x4)
    (h : ((x4 ≤ x3 → ((0 ≤ x3 ∧ x3 < 20) ∧ (∀ σ1 : aH, wI σ (a + 1) x3 x1 = σ1 → ((0 ≤ x3 ∧ x3 < 20) ∧ (∀ σ4 : aH, wI σ1 (a + 2) x3 x2 = σ4 → (inR ((rI σ4 a 2) + 1) ∧ (∀ σ8 : aH, wI σ4 a 2 ((rI σ4 a 2) + 1) = σ8 → P (.inl none) σ8))))))) ∧ (¬ (x4 ≤ x3) → (inR (x4 - 1) ∧ ((0 ≤ (x4 - 1) ∧ (x4 - 1) < 20) ∧ ((0 ≤ x4 ∧ x4 < 20) ∧ (∀ σ12 : aH, wI σ (a + 1) x4 (rI σ (a + 1) (x4 - 1)) = σ12 → (inR (x4 - 1) ∧ ((0 ≤ (x4 - 1) ∧ (x4 - 1) < 20) ∧ ((0 ≤ x4 ∧ x4 < 20) ∧ (∀ σ16 : aH, wI σ12 (a + 2) x4 (rI σ12 (a + 2) (x4 - 1)) = σ16 → (inR (x4 + (-1)) ∧ L_X0_tell_68 C sc P a x1 x2 x3 (x4 + (-1)) σ16)))))))))))) :
    L_X0_tell_68 C sc P a x1 x2 x3 x4 σ := by
  unfold L_X0_tell_68
  refine w_iload dX0_tell_68 (List.Mem.tail _ (List.Mem.tail _ (List.Mem.tail _ (List.Mem.tail _ (List.Mem.head _))))) ?_
  refine w_iload_n dX0_tell_70 rfl (List.Mem.tail _ (List.Mem.tail _ (List.Mem.tail _ (List.Mem.head _)))) ?_
  refine i_cmp_le (tgt := 112) dX0_tell_71 rfl rx4 rx3 (fun c9 => ?_) (fun c9 => ?_)
  · replace h := h.1 c9
    refine w_aload_n dX0_tell_112 rfl (List.Mem.head _) ?_
    refine w_getR (ci := 0) (k := 0) (b := (a + 1)) dX0_tell_113 fl_0_9 (by decide) (gT hG (IsCh_t0 ha) (IsCh_lt ha (k := 0) (by decide))) (gR hG (IsCh_r0_0 ha)) ?_
    refine w_iload_n dX0_tell_116 rfl (List.Mem.tail _ (List.Mem.tail _ (List.Mem.tail _ (List.Mem.head _)))) ?_
    refine w_iload_n dX0_tell_117 rfl (List.Mem.tail _ (List.Mem.head _)) ?_
    obtain ⟨h9, h⟩ := h
    refine i_iast (n := 20) dX0_tell_118 (gT hG (IsCh_t1 ha) (IsCh_lt ha (k := 1) (by decide))) (gL hG (IsCh_n1 ha)) rx3 h9 (fun σ1 eσ2 => ?_)
    replace h := h σ1 eσ2
    have hG3 : G σ1 u := eσ2 ▸ G.wI hG
    refine w_aload_n dX0_tell_119 rfl (List.Mem.head _) ?_
    refine w_getR (ci := 0) (k := 1) (b := (a + 2)) dX0_tell_120 fl_0_15 (by decide) (gT hG3 (IsCh_t0 ha) (IsCh_lt ha (k := 0) (by decide))) (gR hG3 (IsCh_r0_1 ha)) ?_
    refine w_iload_n dX0_tell_123 rfl (List.Mem.tail _ (List.Mem.tail _ (List.Mem.tail _ (List.Mem.head _)))) ?_
    refine w_iload_n dX0_tell_124 rfl (List.Mem.tail _ (List.Mem.tail _ (List.Mem.head _))) ?_
    obtain ⟨h9, h⟩ := h
    refine i_iast (n := 20) dX0_tell_125 (gT hG3 (IsCh_t2 ha) (IsCh_lt ha (k := 2) (by decide))) (gL hG3 (IsCh_n2 ha)) rx3 h9 (fun σ4 eσ5 => ?_)
    replace h := h σ4 eσ5
    have hG6 : G σ4 u := eσ5 ▸ G.wI hG3
    refine w_aload_n dX0_tell_126 rfl (List.Mem.head _) ?_
    refine w_dup dX0_tell_127 rfl ?_
    refine i_getI (ci := 0) 2 rfl dX0_tell_128 fl_0_18 (by decide) (gT hG6 (IsCh_t0 ha) (IsCh_lt ha (k := 0) (by decide))) ?_
    refine w_iconst (v := nZ 1) dX0_tell_131 (by decide) ?_
    obtain ⟨q7, h⟩ := h
    refine i_add dX0_tell_132 ?_
    refine i_putI (ci := 0) 2 rfl dX0_tell_133 fl_0_18 (by decide) (gT hG6 (IsCh_t0 ha) (IsCh_lt ha (k := 0) (by decide))) (fun σ8 eσ9 => ?_)
    replace h := h σ8 eσ9
    have hG10 : G σ8 u := eσ9 ▸ G.wI hG6
    exact w_vret dX0_tell_136 rfl h
  · replace h := h.2 c9
    refine w_aload_n dX0_tell_74 rfl (List.Mem.head _) ?_
    refine w_getR (ci := 0) (k := 0) (b := (a + 1)) dX0_tell_75 fl_0_9 (by decide) (gT hG (IsCh_t0 ha) (IsCh_lt ha (k := 0) (by decide))) (gR hG (IsCh_r0_0 ha)) ?_
    refine w_iload dX0_tell_78 (List.Mem.tail _ (List.Mem.tail _ (List.Mem.tail _ (List.Mem.tail _ (List.Mem.head _))))) ?_
    refine w_aload_n dX0_tell_80 rfl (List.Mem.head _) ?_
    refine w_getR (ci := 0) (k := 0) (b := (a + 1)) dX0_tell_81 fl_0_9 (by decide) (gT hG (IsCh_t0 ha) (IsCh_lt ha (k := 0) (by decide))) (gR hG (IsCh_r0_0 ha)) ?_
    refine w_iload dX0_tell_84 (List.Mem.tail _ (List.Mem.tail _ (List.Mem.tail _ (List.Mem.tail _ (List.Mem.head _))))) ?_
    refine w_iconst (v := nZ 1) dX0_tell_86 (by decide) ?_
    obtain ⟨q11, h⟩ := h
    refine i_sub dX0_tell_87 ?_
    obtain ⟨h9, h⟩ := h
    refine i_iald (n := 20) dX0_tell_88 (gT hG (IsCh_t1 ha) (IsCh_lt ha (k := 1) (by decide))) (gL hG (IsCh_n1 ha)) q11 h9 ?_
    obtain ⟨h9, h⟩ := h
    refine i_iast (n := 20) dX0_tell_89 (gT hG (IsCh_t1 ha) (IsCh_lt ha (k := 1) (by decide))) (gL hG (IsCh_n1 ha)) rx4 h9 (fun σ12 eσ13 => ?_)
    replace h := h σ12 eσ13
    have hG14 : G σ12 u := eσ13 ▸ G.wI hG
    refine w_aload_n dX0_tell_90 rfl (List.Mem.head _) ?_
    refine w_getR (ci := 0) (k := 1) (b := (a + 2)) dX0_tell_91 fl_0_15 (by decide) (gT hG14 (IsCh_t0 ha) (IsCh_lt ha (k := 0) (by decide))) (gR hG14 (IsCh_r0_1 ha)) ?_
    refine w_iload dX0_tell_94 (List.Mem.tail _ (List.Mem.tail _ (List.Mem.tail _ (List.Mem.tail _ (List.Mem.head _))))) ?_
    refine w_aload_n dX0_tell_96 rfl (List.Mem.head _) ?_
    refine w_getR (ci := 0) (k := 1) (b := (a + 2)) dX0_tell_97 fl_0_15 (by decide) (gT hG14 (IsCh_t0 ha) (IsCh_lt ha (k := 0) (by decide))) (gR hG14 (IsCh_r0_1 ha)) ?_
    refine w_iload dX0_tell_100 (List.Mem.tail _ (List.Mem.tail _ (List.Mem.tail _ (List.Mem.tail _ (List.Mem.head _))))) ?_
    refine w_iconst (v := nZ 1) dX0_tell_102 (by decide) ?_
    obtain ⟨q15, h⟩ := h
    refine i_sub dX0_tell_103 ?_
    obtain ⟨h9, h⟩ := h
    refine i_iald (n := 20) dX0_tell_104 (gT hG14 (IsCh_t2 ha) (IsCh_lt ha (k := 2) (by decide))) (gL hG14 (IsCh_n2 ha)) q15 h9 ?_
    obtain ⟨h9, h⟩ := h
    refine i_iast (n := 20) dX0_tell_105 (gT hG14 (IsCh_t2 ha) (IsCh_lt ha (k := 2) (by decide))) (gL hG14 (IsCh_n2 ha)) rx4 h9 (fun σ16 eσ17 => ?_)
    replace h := h σ16 eσ17
    have hG18 : G σ16 u := eσ17 ▸ G.wI hG14
    obtain ⟨q19, h⟩ := h
    refine w_iinc (v := nZ (x4 + (-1))) (l' := [(4, .int (nZ (x4 + (-1)))), (0, .ref a), (1, .int (nZ x1)), (2, .int (nZ x2)), (3, .int (nZ x3))]) dX0_tell_106 (List.Mem.tail _ (List.Mem.tail _ (List.Mem.tail _ (List.Mem.tail _ (List.Mem.head _))))) (nZ_add _ _) (by decide) rfl ?_
    refine w_goto (tgt := 68) dX0_tell_109 rfl ?_
    exact w_weak (l' := [(0, .ref a), (1, .int (nZ x1)), (2, .int (nZ x2)), (3, .int (nZ x3)), (4, .int (nZ (x4 + (-1))))]) (by intro q hq; simp only [List.mem_cons, List.not_mem_nil, or_false] at hq ⊢; rcases hq with rfl | rfl | rfl | rfl | rfl <;> simp) h
theorem dX0_endOf_0 : decode cX0_endOf 0 = .ok (.iload_n 1, 1) := by decide +kernel
theorem dX0_endOf_1 : decode cX0_endOf 1 = .ok (.iconst 1, 1) := by decide +kernel
theorem dX0_endOf_2 : decode cX0_endOf 2 = .ok (.iadd, 1) := by decide +kernel
theorem dX0_endOf_3 : decode cX0_endOf 3 = .ok (.aload_n 0, 1) := by decide +kernel
theorem dX0_endOf_4 : decode cX0_endOf 4 = .ok (.getfield 18, 3) := by decide +kernel
theorem dX0_endOf_7 : decode cX0_endOf 7 = .ok (.if_icmp .ge 14, 3) := by decide +kernel
theorem dX0_endOf_10 : decode cX0_endOf 10 = .ok (.aload_n 0, 1) := by decide +kernel
theorem dX0_endOf_11 : decode cX0_endOf 11 = .ok (.getfield 9, 3) := by decide +kernel
theorem dX0_endOf_14 : decode cX0_endOf 14 = .ok (.iload_n 1, 1) := by decide +kernel
theorem dX0_endOf_15 : decode cX0_endOf 15 = .ok (.iconst 1, 1) := by decide +kernel
theorem dX0_endOf_16 : decode cX0_endOf 16 = .ok (.iadd, 1) := by decide +kernel
theorem dX0_endOf_17 : decode cX0_endOf 17 = .ok (.iaload, 1) := by decide +kernel
theorem dX0_endOf_18 : decode cX0_endOf 18 = .ok (.goto 6, 3) := by decide +kernel
theorem dX0_endOf_21 : decode cX0_endOf 21 = .ok (.sipush 1440, 3) := by decide +kernel
theorem dX0_endOf_24 : decode cX0_endOf 24 = .ok (.ireturn, 1) := by decide +kernel
set_option maxRecDepth 10000 in
theorem t_X0_endOf {sc : Nat × (Nat → Int32)} {d : Nat} {Q : aO → aH → Prop} {σ : aH} {u : Nat} {a : Nat} {x1 : Int} (hG : G σ u) (ha : IsCh a) (rx1 : inR x1)
    (h : (inR (x1 + 1) ∧ (((rI σ a 2) ≤ (x1 + 1) → Q (.inl (some (.int (nZ 1440)))) σ) ∧ (¬ ((rI σ a 2) ≤ (x1 + 1)) → (inR (x1 + 1) ∧ ((0 ≤ (x1 + 1) ∧ (x1 + 1) < 20) ∧ Q (.inl (some (.int (nZ (rI σ (a + 1) (x1 + 1)))))) σ)))))) :
    T sc (d + 1) mX0_endOf [.ref a, .int (nZ x1)] σ Q := by
  refine T.of (c := 0) (code := cX0_endOf) (mL := 2) (rt := (some .int)) (ini := false) (l := [(0, .ref a), (1, .int (nZ x1))]) rfl rfl rfl rfl (by decide) hs_X0_endOf rfl rfl ?_
  refine w_iload_n dX0_endOf_0 rfl (List.Mem.tail _ (List.Mem.head _)) ?_
  refine w_iconst (v := nZ 1) dX0_endOf_1 (by decide) ?_
  obtain ⟨q1, h⟩ := h
  refine i_add dX0_endOf_2 ?_
  refine w_aload_n dX0_endOf_3 rfl (List.Mem.head _) ?_
  refine i_getI (ci := 0) 2 rfl dX0_endOf_4 fl_0_18 (by decide) (gT hG (IsCh_t0 ha) (IsCh_lt ha (k := 0) (by decide))) ?_
  refine i_cmp_ge (tgt := 21) dX0_endOf_7 rfl q1 (rI_R _ _ _) (fun c9 => ?_) (fun c9 => ?_)
  · replace h := h.1 c9
    refine w_sipush (v := nZ 1440) dX0_endOf_21 (by decide) ?_
    exact w_iret dX0_endOf_24 rfl h
  · replace h := h.2 c9
    refine w_aload_n dX0_endOf_10 rfl (List.Mem.head _) ?_
    refine w_getR (ci := 0) (k := 0) (b := (a + 1)) dX0_endOf_11 fl_0_9 (by decide) (gT hG (IsCh_t0 ha) (IsCh_lt ha (k := 0) (by decide))) (gR hG (IsCh_r0_0 ha)) ?_
    refine w_iload_n dX0_endOf_14 rfl (List.Mem.tail _ (List.Mem.head _)) ?_
    refine w_iconst (v := nZ 1) dX0_endOf_15 (by decide) ?_
    obtain ⟨q2, h⟩ := h
    refine i_add dX0_endOf_16 ?_
    obtain ⟨h9, h⟩ := h
    refine i_iald (n := 20) dX0_endOf_17 (gT hG (IsCh_t1 ha) (IsCh_lt ha (k := 1) (by decide))) (gL hG (IsCh_n1 ha)) q2 h9 ?_
    refine w_goto (tgt := 24) dX0_endOf_18 rfl ?_
    exact w_iret dX0_endOf_24 rfl h
theorem dX0_valueAt_0 : decode cX0_valueAt 0 = .ok (.iload_n 2, 1) := by decide +kernel
theorem dX0_valueAt_1 : decode cX0_valueAt 1 = .ok (.istore_n 3, 1) := by decide +kernel
theorem dX0_valueAt_2 : decode cX0_valueAt 2 = .ok (.iconst 0, 1) := by decide +kernel
theorem dX0_valueAt_3 : decode cX0_valueAt 3 = .ok (.istore 4, 2) := by decide +kernel
theorem dX0_valueAt_5 : decode cX0_valueAt 5 = .ok (.iload 4, 2) := by decide +kernel
theorem dX0_valueAt_7 : decode cX0_valueAt 7 = .ok (.aload_n 0, 1) := by decide +kernel
theorem dX0_valueAt_8 : decode cX0_valueAt 8 = .ok (.getfield 18, 3) := by decide +kernel
theorem dX0_valueAt_11 : decode cX0_valueAt 11 = .ok (.if_icmp .ge 28, 3) := by decide +kernel
theorem dX0_valueAt_14 : decode cX0_valueAt 14 = .ok (.aload_n 0, 1) := by decide +kernel
theorem dX0_valueAt_15 : decode cX0_valueAt 15 = .ok (.getfield 9, 3) := by decide +kernel
theorem dX0_valueAt_18 : decode cX0_valueAt 18 = .ok (.iload 4, 2) := by decide +kernel
theorem dX0_valueAt_20 : decode cX0_valueAt 20 = .ok (.iaload, 1) := by decide +kernel
theorem dX0_valueAt_21 : decode cX0_valueAt 21 = .ok (.iload_n 1, 1) := by decide +kernel
theorem dX0_valueAt_22 : decode cX0_valueAt 22 = .ok (.if_icmp .gt 17, 3) := by decide +kernel
theorem dX0_valueAt_25 : decode cX0_valueAt 25 = .ok (.aload_n 0, 1) := by decide +kernel
theorem dX0_valueAt_26 : decode cX0_valueAt 26 = .ok (.getfield 15, 3) := by decide +kernel
theorem dX0_valueAt_29 : decode cX0_valueAt 29 = .ok (.iload 4, 2) := by decide +kernel
theorem dX0_valueAt_31 : decode cX0_valueAt 31 = .ok (.iaload, 1) := by decide +kernel
theorem dX0_valueAt_32 : decode cX0_valueAt 32 = .ok (.istore_n 3, 1) := by decide +kernel
theorem dX0_valueAt_33 : decode cX0_valueAt 33 = .ok (.iinc 4 1, 3) := by decide +kernel
theorem dX0_valueAt_36 : decode cX0_valueAt 36 = .ok (.goto (-31), 3) := by decide +kernel
theorem dX0_valueAt_39 : decode cX0_valueAt 39 = .ok (.iload_n 3, 1) := by decide +kernel
theorem dX0_valueAt_40 : decode cX0_valueAt 40 = .ok (.ireturn, 1) := by decide +kernel
def L_X0_valueAt_5 (C : aM → List Value → aH → aO → aH → Prop) (sc : Nat × (Nat → Int32)) (P : aO → aH → Prop) (a : Nat) (x1 : Int) (x2 : Int) (x3 : Int) (x4 : Int) (σ : aH) : Prop :=
    wp C 0 cX0_valueAt 5 (some .int) false [] sc P 5 [(0, .ref a), (1, .int (nZ x1)), (2, .int (nZ x2)), (3, .int (nZ x3)), (4, .int (nZ x4))] [] σ
set_option maxRecDepth 10000 in
theorem t_X0_valueAt {sc : Nat × (Nat → Int32)} {d : Nat} {Q : aO → aH → Prop} {σ : aH} {u : Nat} {a : Nat} {x1 : Int} {x2 : Int} (hG : G σ u) (ha : IsCh a) (rx1 : inR x1) (rx2 : inR x2)
    (h : L_X0_valueAt_5 (Ev sc d) sc Q a x1 x2 x2 0 σ) :
    T sc (d + 1) mX0_valueAt [.ref a, .int (nZ x1), .int (nZ x2)] σ Q := by
  refine T.of (c := 0) (code := cX0_valueAt) (mL := 5) (rt := (some .int)) (ini := false) (l := [(0, .ref a), (1, .int (nZ x1)), (2, .int (nZ x2))]) rfl rfl rfl rfl (by decide) hs_X0_valueAt rfl rfl ?_
  refine w_iload_n dX0_valueAt_0 rfl (List.Mem.tail _ (List.Mem.tail _ (List.Mem.head _))) ?_
  refine w_istore_n (l' := [(3, .int (nZ x2)), (0, .ref a), (1, .int (nZ x1)), (2, .int (nZ x2))]) dX0_valueAt_1 rfl (by decide) rfl ?_
  refine w_iconst (v := nZ 0) dX0_valueAt_2 (by decide) ?_
  refine w_istore (l' := [(4, .int (nZ 0)), (3, .int (nZ x2)), (0, .ref a), (1, .int (nZ x1)), (2, .int (nZ x2))]) dX0_valueAt_3 (by decide) rfl ?_
  exact w_weak (l' := [(0, .ref a), (1, .int (nZ x1)), (2, .int (nZ x2)), (3, .int (nZ x2)), (4, .int (nZ 0))]) (by intro q hq; simp only [List.mem_cons, List.not_mem_nil, or_false] at hq ⊢; rcases hq with rfl | rfl | rfl | rfl | rfl <;> simp) h
set_option maxRecDepth 10000 in
theorem v_X0_valueAt_5 {C : aM → List Value → aH → aO → aH → Prop} {sc : Nat × (Nat → Int32)} {P : aO → aH → Prop} {σ : aH} {u : Nat} {a : Nat} {x1 : Int} {x2 : Int} {x3 : Int} {x4 : Int} (hG : G σ u) (ha : IsCh a) (rx1 : inR x1) (rx2 : inR x2) (rx3 : inR x3) (rx4 : inR x4)
    (h : (((rI σ a 2) ≤ x4 → P (.inl (some (.int (nZ x3)))) σ) ∧ (¬ ((rI σ a 2) ≤ x4) → ((0 ≤ x4 ∧ x4 < 20) ∧ ((x1 < (rI σ (a + 1) x4) → P (.inl (some (.int (nZ x3)))) σ) ∧ (¬ (x1 < (rI σ (a + 1) x4)) → ((0 ≤ x4 ∧ x4 < 20) ∧ (∀ z1 : Int, z1 = (rI σ (a + 2) x4) → (inR (x4 + 1) ∧ L_X0_valueAt_5 C sc P a x1 x2 z1 (x4 + 1) σ))))))))) :
    L_X0_valueAt_5 C sc P a x1 x2 x3 x4 σ := by
  unfold L_X0_valueAt_5
  refine w_iload dX0_valueAt_5 (List.Mem.tail _ (List.Mem.tail _ (List.Mem.tail _ (List.Mem.tail _ (List.Mem.head _))))) ?_
  refine w_aload_n dX0_valueAt_7 rfl (List.Mem.head _) ?_
  refine i_getI (ci := 0) 2 rfl dX0_valueAt_8 fl_0_18 (by decide) (gT hG (IsCh_t0 ha) (IsCh_lt ha (k := 0) (by decide))) ?_
  refine i_cmp_ge (tgt := 39) dX0_valueAt_11 rfl rx4 (rI_R _ _ _) (fun c9 => ?_) (fun c9 => ?_)
  · replace h := h.1 c9
    refine w_iload_n dX0_valueAt_39 rfl (List.Mem.tail _ (List.Mem.tail _ (List.Mem.tail _ (List.Mem.head _)))) ?_
    exact w_iret dX0_valueAt_40 rfl h
  · replace h := h.2 c9
    refine w_aload_n dX0_valueAt_14 rfl (List.Mem.head _) ?_
    refine w_getR (ci := 0) (k := 0) (b := (a + 1)) dX0_valueAt_15 fl_0_9 (by decide) (gT hG (IsCh_t0 ha) (IsCh_lt ha (k := 0) (by decide))) (gR hG (IsCh_r0_0 ha)) ?_
    refine w_iload dX0_valueAt_18 (List.Mem.tail _ (List.Mem.tail _ (List.Mem.tail _ (List.Mem.tail _ (List.Mem.head _))))) ?_
    obtain ⟨h9, h⟩ := h
    refine i_iald (n := 20) dX0_valueAt_20 (gT hG (IsCh_t1 ha) (IsCh_lt ha (k := 1) (by decide))) (gL hG (IsCh_n1 ha)) rx4 h9 ?_
    refine w_iload_n dX0_valueAt_21 rfl (List.Mem.tail _ (List.Mem.head _)) ?_
    refine i_cmp_gt (tgt := 39) dX0_valueAt_22 rfl (rI_R _ _ _) rx1 (fun c9 => ?_) (fun c9 => ?_)
    · replace h := h.1 c9
      refine w_iload_n dX0_valueAt_39 rfl (List.Mem.tail _ (List.Mem.tail _ (List.Mem.tail _ (List.Mem.head _)))) ?_
      exact w_iret dX0_valueAt_40 rfl h
    · replace h := h.2 c9
      refine w_aload_n dX0_valueAt_25 rfl (List.Mem.head _) ?_
      refine w_getR (ci := 0) (k := 1) (b := (a + 2)) dX0_valueAt_26 fl_0_15 (by decide) (gT hG (IsCh_t0 ha) (IsCh_lt ha (k := 0) (by decide))) (gR hG (IsCh_r0_1 ha)) ?_
      refine w_iload dX0_valueAt_29 (List.Mem.tail _ (List.Mem.tail _ (List.Mem.tail _ (List.Mem.tail _ (List.Mem.head _))))) ?_
      obtain ⟨h9, h⟩ := h
      refine i_iald (n := 20) dX0_valueAt_31 (gT hG (IsCh_t2 ha) (IsCh_lt ha (k := 2) (by decide))) (gL hG (IsCh_n2 ha)) rx4 h9 ?_
      refine top_i (fun z1 ez2 => ?_)
      have rz3 : inR z1 := ez2 ▸ (rI_R _ _ _)
      replace h := h z1 ez2
      refine w_istore_n (l' := [(3, .int (nZ z1)), (0, .ref a), (1, .int (nZ x1)), (2, .int (nZ x2)), (4, .int (nZ x4))]) dX0_valueAt_32 rfl (by decide) rfl ?_
      obtain ⟨q4, h⟩ := h
      refine w_iinc (v := nZ (x4 + 1)) (l' := [(4, .int (nZ (x4 + 1))), (3, .int (nZ z1)), (0, .ref a), (1, .int (nZ x1)), (2, .int (nZ x2))]) dX0_valueAt_33 (List.Mem.tail _ (List.Mem.tail _ (List.Mem.tail _ (List.Mem.tail _ (List.Mem.head _))))) (nZ_add _ _) (by decide) rfl ?_
      refine w_goto (tgt := 5) dX0_valueAt_36 rfl ?_
      exact w_weak (l' := [(0, .ref a), (1, .int (nZ x1)), (2, .int (nZ x2)), (3, .int (nZ z1)), (4, .int (nZ (x4 + 1)))]) (by intro q hq; simp only [List.mem_cons, List.not_mem_nil, or_false] at hq ⊢; rcases hq with rfl | rfl | rfl | rfl | rfl <;> simp) h
