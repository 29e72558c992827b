theorem dX2_clear_0 : decode cX2_clear 0 = .ok (.aload_n 0, 1) := by decide +kernel
theorem dX2_clear_1 : decode cX2_clear 1 = .ok (.getfield 12, 3) := by decide +kernel
theorem dX2_clear_4 : decode cX2_clear 4 = .ok (.iconst 0, 1) := by decide +kernel
theorem dX2_clear_5 : decode cX2_clear 5 = .ok (.putfield 31, 3) := by decide +kernel
theorem dX2_clear_8 : decode cX2_clear 8 = .ok (.aload_n 0, 1) := by decide +kernel
theorem dX2_clear_9 : decode cX2_clear 9 = .ok (.getfield 21, 3) := by decide +kernel
theorem dX2_clear_12 : decode cX2_clear 12 = .ok (.iconst 0, 1) := by decide +kernel
theorem dX2_clear_13 : decode cX2_clear 13 = .ok (.putfield 35, 3) := by decide +kernel
theorem dX2_clear_16 : decode cX2_clear 16 = .ok (.aload_n 0, 1) := by decide +kernel
theorem dX2_clear_17 : decode cX2_clear 17 = .ok (.getfield 25, 3) := by decide +kernel
theorem dX2_clear_20 : decode cX2_clear 20 = .ok (.iconst 0, 1) := by decide +kernel
theorem dX2_clear_21 : decode cX2_clear 21 = .ok (.putfield 35, 3) := by decide +kernel
theorem dX2_clear_24 : decode cX2_clear 24 = .ok (.aload_n 0, 1) := by decide +kernel
theorem dX2_clear_25 : decode cX2_clear 25 = .ok (.bipush 6, 2) := by decide +kernel
theorem dX2_clear_27 : decode cX2_clear 27 = .ok (.putfield 36, 3) := by decide +kernel
theorem dX2_clear_30 : decode cX2_clear 30 = .ok (.aload_n 0, 1) := by decide +kernel
theorem dX2_clear_31 : decode cX2_clear 31 = .ok (.iconst 4, 1) := by decide +kernel
theorem dX2_clear_32 : decode cX2_clear 32 = .ok (.putfield 39, 3) := by decide +kernel
theorem dX2_clear_35 : decode cX2_clear 35 = .ok (.aload_n 0, 1) := by decide +kernel
theorem dX2_clear_36 : decode cX2_clear 36 = .ok (.sipush 1440, 3) := by decide +kernel
theorem dX2_clear_39 : decode cX2_clear 39 = .ok (.putfield 42, 3) := by decide +kernel
theorem dX2_clear_42 : decode cX2_clear 42 = .ok (.aload_n 0, 1) := by decide +kernel
theorem dX2_clear_43 : decode cX2_clear 43 = .ok (.sipush 1440, 3) := by decide +kernel
theorem dX2_clear_46 : decode cX2_clear 46 = .ok (.putfield 45, 3) := by decide +kernel
theorem dX2_clear_49 : decode cX2_clear 49 = .ok (.aload_n 0, 1) := by decide +kernel
theorem dX2_clear_50 : decode cX2_clear 50 = .ok (.iconst 0, 1) := by decide +kernel
theorem dX2_clear_51 : decode cX2_clear 51 = .ok (.putfield 48, 3) := by decide +kernel
theorem dX2_clear_54 : decode cX2_clear 54 = .ok (.aload_n 0, 1) := by decide +kernel
theorem dX2_clear_55 : decode cX2_clear 55 = .ok (.iconst 0, 1) := by decide +kernel
theorem dX2_clear_56 : decode cX2_clear 56 = .ok (.putfield 51, 3) := by decide +kernel
theorem dX2_clear_59 : decode cX2_clear 59 = .ok (.aload_n 0, 1) := by decide +kernel
theorem dX2_clear_60 : decode cX2_clear 60 = .ok (.iconst 0, 1) := by decide +kernel
theorem dX2_clear_61 : decode cX2_clear 61 = .ok (.putfield 54, 3) := by decide +kernel
theorem dX2_clear_64 : decode cX2_clear 64 = .ok (.return_, 1) := by decide +kernel
set_option maxRecDepth 10000 in
theorem t_X2_clear {sc : Nat × (Nat → Int32)} {d : Nat} {Q : aO → aH → Prop} {σ : aH} {u : Nat} {v : Nat}  (hG : G σ u) (hv : IsMk v)
    (h : (∀ σ1 : aH, wI σ (v + 1) 8 0 = σ1 → (∀ σ4 : aH, wI σ1 (v + 10) 2 0 = σ4 → (∀ σ7 : aH, wI σ4 (v + 13) 2 0 = σ7 → (∀ σ10 : aH, wI σ7 v 3 6 = σ10 → (∀ σ13 : aH, wI σ10 v 4 4 = σ13 → (∀ σ16 : aH, wI σ13 v 5 1440 = σ16 → (∀ σ19 : aH, wI σ16 v 6 1440 = σ19 → (∀ σ22 : aH, wI σ19 v 7 0 = σ22 → (∀ σ25 : aH, wI σ22 v 8 0 = σ25 → (∀ σ28 : aH, wI σ25 v 9 0 = σ28 → Q (.inl none) σ28))))))))))) :
    T sc (d + 1) mX2_clear [.ref v] σ Q := by
  refine T.of (c := 2) (code := cX2_clear) (mL := 1) (rt := none) (ini := false) (l := [(0, .ref v)]) rfl rfl rfl rfl (by decide) hs_X2_clear rfl rfl ?_
  refine w_aload_n dX2_clear_0 rfl (List.Mem.head _) ?_
  refine w_getR (ci := 2) (k := 0) (b := (v + 1)) dX2_clear_1 fl_2_12 (by decide) (gT hG (IsMk_t0 hv) (IsMk_lt hv (k := 0) (by decide))) (gR hG (IsMk_r0_0 hv)) ?_
  refine w_iconst (v := nZ 0) dX2_clear_4 (by decide) ?_
  refine i_putI (ci := 7) 8 rfl dX2_clear_5 fl_2_31 (by decide) (gT hG (IsMk_t1 hv) (IsMk_lt hv (k := 1) (by decide))) (fun σ1 eσ2 => ?_)
  replace h := h σ1 eσ2
  have hG3 : G σ1 u := eσ2 ▸ G.wI hG
  refine w_aload_n dX2_clear_8 rfl (List.Mem.head _) ?_
  refine w_getR (ci := 2) (k := 1) (b := (v + 10)) dX2_clear_9 fl_2_21 (by decide) (gT hG3 (IsMk_t0 hv) (IsMk_lt hv (k := 0) (by decide))) (gR hG3 (IsMk_r0_1 hv)) ?_
  refine w_iconst (v := nZ 0) dX2_clear_12 (by decide) ?_
  refine i_putI (ci := 0) 2 rfl dX2_clear_13 fl_2_35 (by decide) (gT hG3 (IsMk_t10 hv) (IsMk_lt hv (k := 10) (by decide))) (fun σ4 eσ5 => ?_)
  replace h := h σ4 eσ5
  have hG6 : G σ4 u := eσ5 ▸ G.wI hG3
  refine w_aload_n dX2_clear_16 rfl (List.Mem.head _) ?_
  refine w_getR (ci := 2) (k := 2) (b := (v + 13)) dX2_clear_17 fl_2_25 (by decide) (gT hG6 (IsMk_t0 hv) (IsMk_lt hv (k := 0) (by decide))) (gR hG6 (IsMk_r0_2 hv)) ?_
  refine w_iconst (v := nZ 0) dX2_clear_20 (by decide) ?_
  refine i_putI (ci := 0) 2 rfl dX2_clear_21 fl_2_35 (by decide) (gT hG6 (IsMk_t13 hv) (IsMk_lt hv (k := 13) (by decide))) (fun σ7 eσ8 => ?_)
  replace h := h σ7 eσ8
  have hG9 : G σ7 u := eσ8 ▸ G.wI hG6
  refine w_aload_n dX2_clear_24 rfl (List.Mem.head _) ?_
  refine w_bipush (v := nZ 6) dX2_clear_25 (by decide) ?_
  refine i_putI (ci := 2) 3 rfl dX2_clear_27 fl_2_36 (by decide) (gT hG9 (IsMk_t0 hv) (IsMk_lt hv (k := 0) (by decide))) (fun σ10 eσ11 => ?_)
  replace h := h σ10 eσ11
  have hG12 : G σ10 u := eσ11 ▸ G.wI hG9
  refine w_aload_n dX2_clear_30 rfl (List.Mem.head _) ?_
  refine w_iconst (v := nZ 4) dX2_clear_31 (by decide) ?_
  refine i_putI (ci := 2) 4 rfl dX2_clear_32 fl_2_39 (by decide) (gT hG12 (IsMk_t0 hv) (IsMk_lt hv (k := 0) (by decide))) (fun σ13 eσ14 => ?_)
  replace h := h σ13 eσ14
  have hG15 : G σ13 u := eσ14 ▸ G.wI hG12
  refine w_aload_n dX2_clear_35 rfl (List.Mem.head _) ?_
  refine w_sipush (v := nZ 1440) dX2_clear_36 (by decide) ?_
  refine i_putI (ci := 2) 5 rfl dX2_clear_39 fl_2_42 (by decide) (gT hG15 (IsMk_t0 hv) (IsMk_lt hv (k := 0) (by decide))) (fun σ16 eσ17 => ?_)
  replace h := h σ16 eσ17
  have hG18 : G σ16 u := eσ17 ▸ G.wI hG15
  refine w_aload_n dX2_clear_42 rfl (List.Mem.head _) ?_
  refine w_sipush (v := nZ 1440) dX2_clear_43 (by decide) ?_
  refine i_putI (ci := 2) 6 rfl dX2_clear_46 fl_2_45 (by decide) (gT hG18 (IsMk_t0 hv) (IsMk_lt hv (k := 0) (by decide))) (fun σ19 eσ20 => ?_)
  replace h := h σ19 eσ20
  have hG21 : G σ19 u := eσ20 ▸ G.wI hG18
  refine w_aload_n dX2_clear_49 rfl (List.Mem.head _) ?_
  refine w_iconst (v := nZ 0) dX2_clear_50 (by decide) ?_
  refine i_putI (ci := 2) 7 rfl dX2_clear_51 fl_2_48 (by decide) (gT hG21 (IsMk_t0 hv) (IsMk_lt hv (k := 0) (by decide))) (fun σ22 eσ23 => ?_)
  replace h := h σ22 eσ23
  have hG24 : G σ22 u := eσ23 ▸ G.wI hG21
  refine w_aload_n dX2_clear_54 rfl (List.Mem.head _) ?_
  refine w_iconst (v := nZ 0) dX2_clear_55 (by decide) ?_
  refine i_putI (ci := 2) 8 rfl dX2_clear_56 fl_2_51 (by decide) (gT hG24 (IsMk_t0 hv) (IsMk_lt hv (k := 0) (by decide))) (fun σ25 eσ26 => ?_)
  replace h := h σ25 eσ26
  have hG27 : G σ25 u := eσ26 ▸ G.wI hG24
  refine w_aload_n dX2_clear_59 rfl (List.Mem.head _) ?_
  refine w_iconst (v := nZ 0) dX2_clear_60 (by decide) ?_
  refine i_putI (ci := 2) 9 rfl dX2_clear_61 fl_2_54 (by decide) (gT hG27 (IsMk_t0 hv) (IsMk_lt hv (k := 0) (by decide))) (fun σ28 eσ29 => ?_)
  replace h := h σ28 eσ29
  have hG30 : G σ28 u := eσ29 ▸ G.wI hG27
  exact w_vret dX2_clear_64 rfl h
theorem dX2_sunAt_0 : decode cX2_sunAt 0 = .ok (.iload_n 1, 1) := by decide +kernel
theorem dX2_sunAt_1 : decode cX2_sunAt 1 = .ok (.aload_n 0, 1) := by decide +kernel
theorem dX2_sunAt_2 : decode cX2_sunAt 2 = .ok (.getfield 42, 3) := by decide +kernel
theorem dX2_sunAt_5 : decode cX2_sunAt 5 = .ok (.if_icmp .lt 7, 3) := by decide +kernel
theorem dX2_sunAt_8 : decode cX2_sunAt 8 = .ok (.iconst (-1), 1) := by decide +kernel
theorem dX2_sunAt_9 : decode cX2_sunAt 9 = .ok (.goto 12, 3) := by decide +kernel
theorem dX2_sunAt_12 : decode cX2_sunAt 12 = .ok (.aload_n 0, 1) := by decide +kernel
theorem dX2_sunAt_13 : decode cX2_sunAt 13 = .ok (.getfield 21, 3) := by decide +kernel
theorem dX2_sunAt_16 : decode cX2_sunAt 16 = .ok (.iload_n 1, 1) := by decide +kernel
theorem dX2_sunAt_17 : decode cX2_sunAt 17 = .ok (.iconst (-1), 1) := by decide +kernel
theorem dX2_sunAt_18 : decode cX2_sunAt 18 = .ok (.invokevirtual 57, 3) := by decide +kernel
theorem dX2_sunAt_21 : decode cX2_sunAt 21 = .ok (.ireturn, 1) := by decide +kernel
set_option maxRecDepth 10000 in
theorem t_X2_sunAt {sc : Nat × (Nat → Int32)} {d : Nat} {Q : aO → aH → Prop} {σ : aH} {u : Nat} {v : Nat} {x1 : Int} (hG : G σ u) (hv : IsMk v) (rx1 : inR x1)
    (h : ((x1 < (rI σ v 5) → (∃ (r5 : Int) (σ1 : aH), Ev sc d mX0_valueAt [.ref (v + 10), .int (nZ x1), .int (nZ (-1))] σ (.inl (some (.int (nZ r5)))) σ1 ∧ G σ1 u ∧ inR r5 ∧ Q (.inl (some (.int (nZ r5)))) σ1)) ∧ (¬ (x1 < (rI σ v 5)) → Q (.inl (some (.int (nZ (-1))))) σ))) :
    T sc (d + 1) mX2_sunAt [.ref v, .int (nZ x1)] σ Q := by
  refine T.of (c := 2) (code := cX2_sunAt) (mL := 2) (rt := (some .int)) (ini := false) (l := [(0, .ref v), (1, .int (nZ x1))]) rfl rfl rfl rfl (by decide) hs_X2_sunAt rfl rfl ?_
  refine w_iload_n dX2_sunAt_0 rfl (List.Mem.tail _ (List.Mem.head _)) ?_
  refine w_aload_n dX2_sunAt_1 rfl (List.Mem.head _) ?_
  refine i_getI (ci := 2) 5 rfl dX2_sunAt_2 fl_2_42 (by decide) (gT hG (IsMk_t0 hv) (IsMk_lt hv (k := 0) (by decide))) ?_
  refine i_cmp_lt (tgt := 12) dX2_sunAt_5 rfl rx1 (rI_R _ _ _) (fun c9 => ?_) (fun c9 => ?_)
  · replace h := h.1 c9
    refine w_aload_n dX2_sunAt_12 rfl (List.Mem.head _) ?_
    refine w_getR (ci := 2) (k := 1) (b := (v + 10)) dX2_sunAt_13 fl_2_21 (by decide) (gT hG (IsMk_t0 hv) (IsMk_lt hv (k := 0) (by decide))) (gR hG (IsMk_r0_1 hv)) ?_
    refine w_iload_n dX2_sunAt_16 rfl (List.Mem.tail _ (List.Mem.head _)) ?_
    refine w_iconst (v := nZ (-1)) dX2_sunAt_17 (by decide) ?_
    obtain ⟨r5, σ1, hc3, hG2, rr4, h⟩ := h
    refine w_callV dX2_sunAt_18 ml_2_57 ⟨ok_X0_valueAt, vi_X0_valueAt⟩ hs_X0_valueAt (As := [.int (nZ x1), .int (nZ (-1))]) rfl rfl (gT hG (IsMk_t10 hv) (IsMk_lt hv (k := 10) (by decide))) (Nat.le_of_ble_eq_true rfl) hc3 ?_
    show wp (Ev sc d) 2 cX2_sunAt 2 (some .int) false [] sc Q 21 [(0, .ref v), (1, .int (nZ x1))] [.int (nZ r5)] σ1
    exact w_iret dX2_sunAt_21 rfl h
  · replace h := h.2 c9
    refine w_iconst (v := nZ (-1)) dX2_sunAt_8 (by decide) ?_
    refine w_goto (tgt := 21) dX2_sunAt_9 rfl ?_
    exact w_iret dX2_sunAt_21 rfl h
theorem dX2_costBefore_0 : decode cX2_costBefore 0 = .ok (.iconst 0, 1) := by decide +kernel
theorem dX2_costBefore_1 : decode cX2_costBefore 1 = .ok (.istore_n 2, 1) := by decide +kernel
theorem dX2_costBefore_2 : decode cX2_costBefore 2 = .ok (.iconst 0, 1) := by decide +kernel
theorem dX2_costBefore_3 : decode cX2_costBefore 3 = .ok (.istore_n 3, 1) := by decide +kernel
theorem dX2_costBefore_4 : decode cX2_costBefore 4 = .ok (.iconst 1, 1) := by decide +kernel
theorem dX2_costBefore_5 : decode cX2_costBefore 5 = .ok (.istore 4, 2) := by decide +kernel
theorem dX2_costBefore_7 : decode cX2_costBefore 7 = .ok (.iconst 0, 1) := by decide +kernel
theorem dX2_costBefore_8 : decode cX2_costBefore 8 = .ok (.istore 5, 2) := by decide +kernel
theorem dX2_costBefore_10 : decode cX2_costBefore 10 = .ok (.iload 5, 2) := by decide +kernel
theorem dX2_costBefore_12 : decode cX2_costBefore 12 = .ok (.aload_n 0, 1) := by decide +kernel
theorem dX2_costBefore_13 : decode cX2_costBefore 13 = .ok (.getfield 25, 3) := by decide +kernel
theorem dX2_costBefore_16 : decode cX2_costBefore 16 = .ok (.getfield 35, 3) := by decide +kernel
theorem dX2_costBefore_19 : decode cX2_costBefore 19 = .ok (.if_icmp .ge 50, 3) := by decide +kernel
theorem dX2_costBefore_22 : decode cX2_costBefore 22 = .ok (.aload_n 0, 1) := by decide +kernel
theorem dX2_costBefore_23 : decode cX2_costBefore 23 = .ok (.getfield 25, 3) := by decide +kernel
theorem dX2_costBefore_26 : decode cX2_costBefore 26 = .ok (.getfield 61, 3) := by decide +kernel
theorem dX2_costBefore_29 : decode cX2_costBefore 29 = .ok (.iload 5, 2) := by decide +kernel
theorem dX2_costBefore_31 : decode cX2_costBefore 31 = .ok (.iaload, 1) := by decide +kernel
theorem dX2_costBefore_32 : decode cX2_costBefore 32 = .ok (.iload_n 1, 1) := by decide +kernel
theorem dX2_costBefore_33 : decode cX2_costBefore 33 = .ok (.invokestatic 65, 3) := by decide +kernel
theorem dX2_costBefore_36 : decode cX2_costBefore 36 = .ok (.istore 6, 2) := by decide +kernel
theorem dX2_costBefore_38 : decode cX2_costBefore 38 = .ok (.iload_n 2, 1) := by decide +kernel
theorem dX2_costBefore_39 : decode cX2_costBefore 39 = .ok (.iload 6, 2) := by decide +kernel
theorem dX2_costBefore_41 : decode cX2_costBefore 41 = .ok (.iload_n 3, 1) := by decide +kernel
theorem dX2_costBefore_42 : decode cX2_costBefore 42 = .ok (.isub, 1) := by decide +kernel
theorem dX2_costBefore_43 : decode cX2_costBefore 43 = .ok (.iload 4, 2) := by decide +kernel
theorem dX2_costBefore_45 : decode cX2_costBefore 45 = .ok (.imul, 1) := by decide +kernel
theorem dX2_costBefore_46 : decode cX2_costBefore 46 = .ok (.iadd, 1) := by decide +kernel
theorem dX2_costBefore_47 : decode cX2_costBefore 47 = .ok (.istore_n 2, 1) := by decide +kernel
theorem dX2_costBefore_48 : decode cX2_costBefore 48 = .ok (.iload 6, 2) := by decide +kernel
theorem dX2_costBefore_50 : decode cX2_costBefore 50 = .ok (.istore_n 3, 1) := by decide +kernel
theorem dX2_costBefore_51 : decode cX2_costBefore 51 = .ok (.aload_n 0, 1) := by decide +kernel
theorem dX2_costBefore_52 : decode cX2_costBefore 52 = .ok (.getfield 25, 3) := by decide +kernel
theorem dX2_costBefore_55 : decode cX2_costBefore 55 = .ok (.getfield 70, 3) := by decide +kernel
theorem dX2_costBefore_58 : decode cX2_costBefore 58 = .ok (.iload 5, 2) := by decide +kernel
theorem dX2_costBefore_60 : decode cX2_costBefore 60 = .ok (.iaload, 1) := by decide +kernel
theorem dX2_costBefore_61 : decode cX2_costBefore 61 = .ok (.istore 4, 2) := by decide +kernel
theorem dX2_costBefore_63 : decode cX2_costBefore 63 = .ok (.iinc 5 1, 3) := by decide +kernel
theorem dX2_costBefore_66 : decode cX2_costBefore 66 = .ok (.goto (-56), 3) := by decide +kernel
theorem dX2_costBefore_69 : decode cX2_costBefore 69 = .ok (.iload_n 2, 1) := by decide +kernel
theorem dX2_costBefore_70 : decode cX2_costBefore 70 = .ok (.iload_n 1, 1) := by decide +kernel
theorem dX2_costBefore_71 : decode cX2_costBefore 71 = .ok (.iload_n 3, 1) := by decide +kernel
theorem dX2_costBefore_72 : decode cX2_costBefore 72 = .ok (.isub, 1) := by decide +kernel
theorem dX2_costBefore_73 : decode cX2_costBefore 73 = .ok (.iload 4, 2) := by decide +kernel
theorem dX2_costBefore_75 : decode cX2_costBefore 75 = .ok (.imul, 1) := by decide +kernel
theorem dX2_costBefore_76 : decode cX2_costBefore 76 = .ok (.iadd, 1) := by decide +kernel
theorem dX2_costBefore_77 : decode cX2_costBefore 77 = .ok (.ireturn, 1) := by decide +kernel
def L_X2_costBefore_10 (C : aM → List Value → aH → aO → aH → Prop) (sc : Nat × (Nat → Int32)) (P : aO → aH → Prop) (v : Nat) (x1 : Int) (x2 : Int) (x3 : Int) (x4 : Int) (x5 : Int) (σ : aH) : Prop :=
    wp C 2 cX2_costBefore 7 (some .int) false [] sc P 10 [(0, .ref v), (1, .int (nZ x1)), (2, .int (nZ x2)), (3, .int (nZ x3)), (4, .int (nZ x4)), (5, .int (nZ x5))] [] σ
set_option maxRecDepth 10000 in
theorem t_X2_costBefore {sc : Nat × (Nat → Int32)} {d : Nat} {Q : aO → aH → Prop} {σ : aH} {u : Nat} {v : Nat} {x1 : Int} (hG : G σ u) (hv : IsMk v) (rx1 : inR x1)
    (h : L_X2_costBefore_10 (Ev sc d) sc Q v x1 0 0 1 0 σ) :
    T sc (d + 1) mX2_costBefore [.ref v, .int (nZ x1)] σ Q := by
  refine T.of (c := 2) (code := cX2_costBefore) (mL := 7) (rt := (some .int)) (ini := false) (l := [(0, .ref v), (1, .int (nZ x1))]) rfl rfl rfl rfl (by decide) hs_X2_costBefore rfl rfl ?_
  refine w_iconst (v := nZ 0) dX2_costBefore_0 (by decide) ?_
  refine w_istore_n (l' := [(2, .int (nZ 0)), (0, .ref v), (1, .int (nZ x1))]) dX2_costBefore_1 rfl (by decide) rfl ?_
  refine w_iconst (v := nZ 0) dX2_costBefore_2 (by decide) ?_
  refine w_istore_n (l' := [(3, .int (nZ 0)), (2, .int (nZ 0)), (0, .ref v), (1, .int (nZ x1))]) dX2_costBefore_3 rfl (by decide) rfl ?_
  refine w_iconst (v := nZ 1) dX2_costBefore_4 (by decide) ?_
  refine w_istore (l' := [(4, .int (nZ 1)), (3, .int (nZ 0)), (2, .int (nZ 0)), (0, .ref v), (1, .int (nZ x1))]) dX2_costBefore_5 (by decide) rfl ?_
  refine w_iconst (v := nZ 0) dX2_costBefore_7 (by decide) ?_
  refine w_istore (l' := [(5, .int (nZ 0)), (4, .int (nZ 1)), (3, .int (nZ 0)), (2, .int (nZ 0)), (0, .ref v), (1, .int (nZ x1))]) dX2_costBefore_8 (by decide) rfl ?_
  exact w_weak (l' := [(0, .ref v), (1, .int (nZ x1)), (2, .int (nZ 0)), (3, .int (nZ 0)), (4, .int (nZ 1)), (5, .int (nZ 0))]) (by intro q hq; simp only [List.mem_cons, List.not_mem_nil, or_false] at hq ⊢; rcases hq with rfl | rfl | rfl | rfl | rfl | rfl <;> simp) h
set_option maxRecDepth 10000 in
theorem v_X2_costBefore_10 {C : aM → List Value → aH → aO → aH → Prop} {sc : Nat × (Nat → Int32)} {P : aO → aH → Prop} {σ : aH} {u : Nat} {v : Nat} {x1 : Int} {x2 : Int} {x3 : Int} {x4 : Int} {x5 : Int} (hG : G σ u) (hv : IsMk v) (rx1 : inR x1) (rx2 : inR x2) (rx3 : inR x3) (rx4 : inR x4) (rx5 : inR x5)
    (h : (((rI σ (v + 13) 2) ≤ x5 → (inR (x1 - x3) ∧ (inR ((x1 - x3) * x4) ∧ (inR (x2 + ((x1 - x3) * x4)) ∧ P (.inl (some (.int (nZ (x2 + ((x1 - x3) * x4)))))) σ)))) ∧ (¬ ((rI σ (v + 13) 2) ≤ x5) → ((0 ≤ x5 ∧ x5 < 20) ∧ (∀ z4 : Int, z4 = min (rI σ (v + 14) x5) x1 → (inR (z4 - x3) ∧ (inR ((z4 - x3) * x4) ∧ (inR (x2 + ((z4 - x3) * x4)) ∧ (∀ z10 : Int, z10 = (x2 + ((z4 - x3) * x4)) → ((0 ≤ x5 ∧ x5 < 20) ∧ (∀ z13 : Int, z13 = (rI σ (v + 15) x5) → (inR (x5 + 1) ∧ L_X2_costBefore_10 C sc P v x1 z10 z4 z13 (x5 + 1) σ)))))))))))) :
    L_X2_costBefore_10 C sc P v x1 x2 x3 x4 x5 σ := by
  unfold L_X2_costBefore_10
  refine w_iload dX2_costBefore_10 (List.Mem.tail _ (List.Mem.tail _ (List.Mem.tail _ (List.Mem.tail _ (List.Mem.tail _ (List.Mem.head _)))))) ?_
  refine w_aload_n dX2_costBefore_12 rfl (List.Mem.head _) ?_
  refine w_getR (ci := 2) (k := 2) (b := (v + 13)) dX2_costBefore_13 fl_2_25 (by decide) (gT hG (IsMk_t0 hv) (IsMk_lt hv (k := 0) (by decide))) (gR hG (IsMk_r0_2 hv)) ?_
  refine i_getI (ci := 0) 2 rfl dX2_costBefore_16 fl_2_35 (by decide) (gT hG (IsMk_t13 hv) (IsMk_lt hv (k := 13) (by decide))) ?_
  refine i_cmp_ge (tgt := 69) dX2_costBefore_19 rfl rx5 (rI_R _ _ _) (fun c9 => ?_) (fun c9 => ?_)
  · replace h := h.1 c9
    refine w_iload_n dX2_costBefore_69 rfl (List.Mem.tail _ (List.Mem.tail _ (List.Mem.head _))) ?_
    refine w_iload_n dX2_costBefore_70 rfl (List.Mem.tail _ (List.Mem.head _)) ?_
    refine w_iload_n dX2_costBefore_71 rfl (List.Mem.tail _ (List.Mem.tail _ (List.Mem.tail _ (List.Mem.head _)))) ?_
    obtain ⟨q1, h⟩ := h
    refine i_sub dX2_costBefore_72 ?_
    refine w_iload dX2_costBefore_73 (List.Mem.tail _ (List.Mem.tail _ (List.Mem.tail _ (List.Mem.tail _ (List.Mem.head _))))) ?_
    obtain ⟨q2, h⟩ := h
    refine i_mul dX2_costBefore_75 ?_
    obtain ⟨q3, h⟩ := h
    refine i_add dX2_costBefore_76 ?_
    exact w_iret dX2_costBefore_77 rfl h
  · replace h := h.2 c9
    refine w_aload_n dX2_costBefore_22 rfl (List.Mem.head _) ?_
    refine w_getR (ci := 2) (k := 2) (b := (v + 13)) dX2_costBefore_23 fl_2_25 (by decide) (gT hG (IsMk_t0 hv) (IsMk_lt hv (k := 0) (by decide))) (gR hG (IsMk_r0_2 hv)) ?_
    refine w_getR (ci := 0) (k := 0) (b := (v + 14)) dX2_costBefore_26 fl_2_61 (by decide) (gT hG (IsMk_t13 hv) (IsMk_lt hv (k := 13) (by decide))) (gR hG (IsMk_r13_0 hv)) ?_
    refine w_iload dX2_costBefore_29 (List.Mem.tail _ (List.Mem.tail _ (List.Mem.tail _ (List.Mem.tail _ (List.Mem.tail _ (List.Mem.head _)))))) ?_
    obtain ⟨h9, h⟩ := h
    refine i_iald (n := 20) dX2_costBefore_31 (gT hG (IsMk_t14 hv) (IsMk_lt hv (k := 14) (by decide))) (gL hG (IsMk_n14 hv)) rx5 h9 ?_
    refine w_iload_n dX2_costBefore_32 rfl (List.Mem.tail _ (List.Mem.head _)) ?_
    refine i_mmin dX2_costBefore_33 lk_2_65 (Nat.le_of_ble_eq_true rfl) (rI_R _ _ _) rx1 (fun z4 ez5 rz6 => ?_)
    replace h := h z4 ez5
    refine w_istore (l' := [(6, .int (nZ z4)), (0, .ref v), (1, .int (nZ x1)), (2, .int (nZ x2)), (3, .int (nZ x3)), (4, .int (nZ x4)), (5, .int (nZ x5))]) dX2_costBefore_36 (by decide) rfl ?_
    refine w_iload_n dX2_costBefore_38 rfl (List.Mem.tail _ (List.Mem.tail _ (List.Mem.tail _ (List.Mem.head _)))) ?_
    refine w_iload dX2_costBefore_39 (List.Mem.head _) ?_
    refine w_iload_n dX2_costBefore_41 rfl (List.Mem.tail _ (List.Mem.tail _ (List.Mem.tail _ (List.Mem.tail _ (List.Mem.head _))))) ?_
    obtain ⟨q7, h⟩ := h
    refine i_sub dX2_costBefore_42 ?_
    refine w_iload dX2_costBefore_43 (List.Mem.tail _ (List.Mem.tail _ (List.Mem.tail _ (List.Mem.tail _ (List.Mem.tail _ (List.Mem.head _)))))) ?_
    obtain ⟨q8, h⟩ := h
    refine i_mul dX2_costBefore_45 ?_
    obtain ⟨q9, h⟩ := h
    refine i_add dX2_costBefore_46 ?_
    refine top_i (fun z10 ez11 => ?_)
    have rz12 : inR z10 := ez11 ▸ q9
    replace h := h z10 ez11
    refine w_istore_n (l' := [(2, .int (nZ z10)), (6, .int (nZ z4)), (0, .ref v), (1, .int (nZ x1)), (3, .int (nZ x3)), (4, .int (nZ x4)), (5, .int (nZ x5))]) dX2_costBefore_47 rfl (by decide) rfl ?_
    refine w_iload dX2_costBefore_48 (List.Mem.tail _ (List.Mem.head _)) ?_
    refine w_istore_n (l' := [(3, .int (nZ z4)), (2, .int (nZ z10)), (6, .int (nZ z4)), (0, .ref v), (1, .int (nZ x1)), (4, .int (nZ x4)), (5, .int (nZ x5))]) dX2_costBefore_50 rfl (by decide) rfl ?_
    refine w_aload_n dX2_costBefore_51 rfl (List.Mem.tail _ (List.Mem.tail _ (List.Mem.tail _ (List.Mem.head _)))) ?_
    refine w_getR (ci := 2) (k := 2) (b := (v + 13)) dX2_costBefore_52 fl_2_25 (by decide) (gT hG (IsMk_t0 hv) (IsMk_lt hv (k := 0) (by decide))) (gR hG (IsMk_r0_2 hv)) ?_
    refine w_getR (ci := 0) (k := 1) (b := (v + 15)) dX2_costBefore_55 fl_2_70 (by decide) (gT hG (IsMk_t13 hv) (IsMk_lt hv (k := 13) (by decide))) (gR hG (IsMk_r13_1 hv)) ?_
    refine w_iload dX2_costBefore_58 (List.Mem.tail _ (List.Mem.tail _ (List.Mem.tail _ (List.Mem.tail _ (List.Mem.tail _ (List.Mem.tail _ (List.Mem.head _))))))) ?_
    obtain ⟨h9, h⟩ := h
    refine i_iald (n := 20) dX2_costBefore_60 (gT hG (IsMk_t15 hv) (IsMk_lt hv (k := 15) (by decide))) (gL hG (IsMk_n15 hv)) rx5 h9 ?_
    refine top_i (fun z13 ez14 => ?_)
    have rz15 : inR z13 := ez14 ▸ (rI_R _ _ _)
    replace h := h z13 ez14
    refine w_istore (l' := [(4, .int (nZ z13)), (3, .int (nZ z4)), (2, .int (nZ z10)), (6, .int (nZ z4)), (0, .ref v), (1, .int (nZ x1)), (5, .int (nZ x5))]) dX2_costBefore_61 (by decide) rfl ?_
    obtain ⟨q16, h⟩ := h
    refine w_iinc (v := nZ (x5 + 1)) (l' := [(5, .int (nZ (x5 + 1))), (4, .int (nZ z13)), (3, .int (nZ z4)), (2, .int (nZ z10)), (6, .int (nZ z4)), (0, .ref v), (1, .int (nZ x1))]) dX2_costBefore_63 (List.Mem.tail _ (List.Mem.tail _ (List.Mem.tail _ (List.Mem.tail _ (List.Mem.tail _ (List.Mem.tail _ (List.Mem.head _))))))) (nZ_add _ _) (by decide) rfl ?_
    refine w_goto (tgt := 10) dX2_costBefore_66 rfl ?_
    exact w_weak (l' := [(0, .ref v), (1, .int (nZ x1)), (2, .int (nZ z10)), (3, .int (nZ z4)), (4, .int (nZ z13)), (5, .int (nZ (x5 + 1)))]) (by intro q hq; simp only [List.mem_cons, List.not_mem_nil, or_false] at hq ⊢; rcases hq with rfl | rfl | rfl | rfl | rfl | rfl <;> simp) h
theorem dX2_weighCosts_0 : decode cX2_weighCosts 0 = .ok (.aload_n 1, 1) := by decide +kernel
theorem dX2_weighCosts_1 : decode cX2_weighCosts 1 = .ok (.invokevirtual 73, 3) := by decide +kernel
theorem dX2_weighCosts_4 : decode cX2_weighCosts 4 = .ok (.iconst 0, 1) := by decide +kernel
theorem dX2_weighCosts_5 : decode cX2_weighCosts 5 = .ok (.istore 4, 2) := by decide +kernel
theorem dX2_weighCosts_7 : decode cX2_weighCosts 7 = .ok (.iload 4, 2) := by decide +kernel
theorem dX2_weighCosts_9 : decode cX2_weighCosts 9 = .ok (.aload_n 0, 1) := by decide +kernel
theorem dX2_weighCosts_10 : decode cX2_weighCosts 10 = .ok (.getfield 21, 3) := by decide +kernel
theorem dX2_weighCosts_13 : decode cX2_weighCosts 13 = .ok (.getfield 35, 3) := by decide +kernel
theorem dX2_weighCosts_16 : decode cX2_weighCosts 16 = .ok (.if_icmp .ge 110, 3) := by decide +kernel
theorem dX2_weighCosts_19 : decode cX2_weighCosts 19 = .ok (.iload_n 2, 1) := by decide +kernel
theorem dX2_weighCosts_20 : decode cX2_weighCosts 20 = .ok (.aload_n 0, 1) := by decide +kernel
theorem dX2_weighCosts_21 : decode cX2_weighCosts 21 = .ok (.getfield 21, 3) := by decide +kernel
theorem dX2_weighCosts_24 : decode cX2_weighCosts 24 = .ok (.getfield 61, 3) := by decide +kernel
theorem dX2_weighCosts_27 : decode cX2_weighCosts 27 = .ok (.iload 4, 2) := by decide +kernel
theorem dX2_weighCosts_29 : decode cX2_weighCosts 29 = .ok (.iaload, 1) := by decide +kernel
theorem dX2_weighCosts_30 : decode cX2_weighCosts 30 = .ok (.invokestatic 76, 3) := by decide +kernel
theorem dX2_weighCosts_33 : decode cX2_weighCosts 33 = .ok (.istore 5, 2) := by decide +kernel
theorem dX2_weighCosts_35 : decode cX2_weighCosts 35 = .ok (.iload_n 3, 1) := by decide +kernel
theorem dX2_weighCosts_36 : decode cX2_weighCosts 36 = .ok (.aload_n 0, 1) := by decide +kernel
theorem dX2_weighCosts_37 : decode cX2_weighCosts 37 = .ok (.getfield 42, 3) := by decide +kernel
theorem dX2_weighCosts_40 : decode cX2_weighCosts 40 = .ok (.invokestatic 65, 3) := by decide +kernel
theorem dX2_weighCosts_43 : decode cX2_weighCosts 43 = .ok (.aload_n 0, 1) := by decide +kernel
theorem dX2_weighCosts_44 : decode cX2_weighCosts 44 = .ok (.getfield 21, 3) := by decide +kernel
theorem dX2_weighCosts_47 : decode cX2_weighCosts 47 = .ok (.iload 4, 2) := by decide +kernel
theorem dX2_weighCosts_49 : decode cX2_weighCosts 49 = .ok (.invokevirtual 79, 3) := by decide +kernel
theorem dX2_weighCosts_52 : decode cX2_weighCosts 52 = .ok (.invokestatic 65, 3) := by decide +kernel
theorem dX2_weighCosts_55 : decode cX2_weighCosts 55 = .ok (.istore 6, 2) := by decide +kernel
theorem dX2_weighCosts_57 : decode cX2_weighCosts 57 = .ok (.iload 5, 2) := by decide +kernel
theorem dX2_weighCosts_59 : decode cX2_weighCosts 59 = .ok (.iload 6, 2) := by decide +kernel
theorem dX2_weighCosts_61 : decode cX2_weighCosts 61 = .ok (.if_icmp .ge 59, 3) := by decide +kernel
theorem dX2_weighCosts_64 : decode cX2_weighCosts 64 = .ok (.aload_n 0, 1) := by decide +kernel
theorem dX2_weighCosts_65 : decode cX2_weighCosts 65 = .ok (.iload 6, 2) := by decide +kernel
theorem dX2_weighCosts_67 : decode cX2_weighCosts 67 = .ok (.invokevirtual 83, 3) := by decide +kernel
theorem dX2_weighCosts_70 : decode cX2_weighCosts 70 = .ok (.istore 7, 2) := by decide +kernel
theorem dX2_weighCosts_72 : decode cX2_weighCosts 72 = .ok (.iload 5, 2) := by decide +kernel
theorem dX2_weighCosts_74 : decode cX2_weighCosts 74 = .ok (.aload_n 0, 1) := by decide +kernel
theorem dX2_weighCosts_75 : decode cX2_weighCosts 75 = .ok (.getfield 45, 3) := by decide +kernel
theorem dX2_weighCosts_78 : decode cX2_weighCosts 78 = .ok (.invokestatic 76, 3) := by decide +kernel
theorem dX2_weighCosts_81 : decode cX2_weighCosts 81 = .ok (.iload 6, 2) := by decide +kernel
theorem dX2_weighCosts_83 : decode cX2_weighCosts 83 = .ok (.invokestatic 65, 3) := by decide +kernel
theorem dX2_weighCosts_86 : decode cX2_weighCosts 86 = .ok (.istore 8, 2) := by decide +kernel
theorem dX2_weighCosts_88 : decode cX2_weighCosts 88 = .ok (.aload_n 1, 1) := by decide +kernel
theorem dX2_weighCosts_89 : decode cX2_weighCosts 89 = .ok (.aload_n 0, 1) := by decide +kernel
theorem dX2_weighCosts_90 : decode cX2_weighCosts 90 = .ok (.getfield 21, 3) := by decide +kernel
theorem dX2_weighCosts_93 : decode cX2_weighCosts 93 = .ok (.getfield 70, 3) := by decide +kernel
theorem dX2_weighCosts_96 : decode cX2_weighCosts 96 = .ok (.iload 4, 2) := by decide +kernel
theorem dX2_weighCosts_98 : decode cX2_weighCosts 98 = .ok (.iaload, 1) := by decide +kernel
theorem dX2_weighCosts_99 : decode cX2_weighCosts 99 = .ok (.iload 7, 2) := by decide +kernel
theorem dX2_weighCosts_101 : decode cX2_weighCosts 101 = .ok (.aload_n 0, 1) := by decide +kernel
theorem dX2_weighCosts_102 : decode cX2_weighCosts 102 = .ok (.iload 5, 2) := by decide +kernel
theorem dX2_weighCosts_104 : decode cX2_weighCosts 104 = .ok (.invokevirtual 83, 3) := by decide +kernel
theorem dX2_weighCosts_107 : decode cX2_weighCosts 107 = .ok (.isub, 1) := by decide +kernel
theorem dX2_weighCosts_108 : decode cX2_weighCosts 108 = .ok (.iload 7, 2) := by decide +kernel
theorem dX2_weighCosts_110 : decode cX2_weighCosts 110 = .ok (.aload_n 0, 1) := by decide +kernel
theorem dX2_weighCosts_111 : decode cX2_weighCosts 111 = .ok (.iload 8, 2) := by decide +kernel
theorem dX2_weighCosts_113 : decode cX2_weighCosts 113 = .ok (.invokevirtual 83, 3) := by decide +kernel
theorem dX2_weighCosts_116 : decode cX2_weighCosts 116 = .ok (.isub, 1) := by decide +kernel
theorem dX2_weighCosts_117 : decode cX2_weighCosts 117 = .ok (.invokevirtual 86, 3) := by decide +kernel
theorem dX2_weighCosts_120 : decode cX2_weighCosts 120 = .ok (.iinc 4 1, 3) := by decide +kernel
theorem dX2_weighCosts_123 : decode cX2_weighCosts 123 = .ok (.goto (-116), 3) := by decide +kernel
theorem dX2_weighCosts_126 : decode cX2_weighCosts 126 = .ok (.aload_n 1, 1) := by decide +kernel
theorem dX2_weighCosts_127 : decode cX2_weighCosts 127 = .ok (.invokevirtual 90, 3) := by decide +kernel
theorem dX2_weighCosts_130 : decode cX2_weighCosts 130 = .ok (.return_, 1) := by decide +kernel
def L_X2_weighCosts_7 (C : aM → List Value → aH → aO → aH → Prop) (sc : Nat × (Nat → Int32)) (P : aO → aH → Prop) (v : Nat) (w : Nat) (x2 : Int) (x3 : Int) (x4 : Int) (σ : aH) : Prop :=
    wp C 2 cX2_weighCosts 9 none false [] sc P 7 [(0, .ref v), (1, .ref w), (2, .int (nZ x2)), (3, .int (nZ x3)), (4, .int (nZ x4))] [] σ
set_option maxRecDepth 10000 in
theorem t_X2_weighCosts {sc : Nat × (Nat → Int32)} {d : Nat} {Q : aO → aH → Prop} {σ : aH} {u : Nat} {v : Nat} {w : Nat} {x2 : Int} {x3 : Int} (hG : G σ u) (hv : IsMk v) (hw : IsWt w) (rx2 : inR x2) (rx3 : inR x3)
    (h : (∃ σ1 : aH, Ev sc d mX8_clear [.ref w] σ (.inl none) σ1 ∧ G σ1 u ∧ L_X2_weighCosts_7 (Ev sc d) sc Q v w x2 x3 0 σ1)) :
    T sc (d + 1) mX2_weighCosts [.ref v, .ref w, .int (nZ x2), .int (nZ x3)] σ Q := by
  refine T.of (c := 2) (code := cX2_weighCosts) (mL := 9) (rt := none) (ini := false) (l := [(0, .ref v), (1, .ref w), (2, .int (nZ x2)), (3, .int (nZ x3))]) rfl rfl rfl rfl (by decide) hs_X2_weighCosts rfl rfl ?_
  refine w_aload_n dX2_weighCosts_0 rfl (List.Mem.tail _ (List.Mem.head _)) ?_
  obtain ⟨σ1, hc3, hG2, h⟩ := h
  refine w_callV dX2_weighCosts_1 ml_2_73 ⟨ok_X8_clear, vi_X8_clear⟩ hs_X8_clear (As := []) rfl rfl (gT hG (IsWt_t0 hw) (IsWt_lt hw (k := 0) (by decide))) (Nat.le_of_ble_eq_true rfl) hc3 ?_
  show wp (Ev sc d) 2 cX2_weighCosts 9 none false [] sc Q 4 [(0, .ref v), (1, .ref w), (2, .int (nZ x2)), (3, .int (nZ x3))] [] σ1
  refine w_iconst (v := nZ 0) dX2_weighCosts_4 (by decide) ?_
  refine w_istore (l' := [(4, .int (nZ 0)), (0, .ref v), (1, .ref w), (2, .int (nZ x2)), (3, .int (nZ x3))]) dX2_weighCosts_5 (by decide) rfl ?_
  exact w_weak (l' := [(0, .ref v), (1, .ref w), (2, .int (nZ x2)), (3, .int (nZ x3)), (4, .int (nZ 0))]) (by intro q hq; simp only [List.mem_cons, List.not_mem_nil, or_false] at hq ⊢; rcases hq with rfl | rfl | rfl | rfl | rfl <;> simp) h
set_option maxRecDepth 10000 in
theorem v_X2_weighCosts_7 {C : aM → List Value → aH → aO → aH → Prop} {sc : Nat × (Nat → Int32)} {P : aO → aH → Prop} {σ : aH} {u : Nat} {v : Nat} {w : Nat} {x2 : Int} {x3 : Int} {x4 : Int} (hG : G σ u) (hv : IsMk v) (hw : IsWt w) (rx2 : inR x2) (rx3 : inR x3) (rx4 : inR x4)
    (h : (((rI σ (v + 10) 2) ≤ x4 → (∃ σ1 : aH, C mX8_heap [.ref w] σ (.inl none) σ1 ∧ G σ1 u ∧ P (.inl none) σ1)) ∧ (¬ ((rI σ (v + 10) 2) ≤ x4) → ((0 ≤ x4 ∧ x4 < 20) ∧ (∀ z5 : Int, z5 = max x2 (rI σ (v + 11) x4) → (∀ z8 : Int, z8 = min x3 (rI σ v 5) → (∃ (r15 : Int) (σ11 : aH), C mX0_endOf [.ref (v + 10), .int (nZ x4)] σ (.inl (some (.int (nZ r15)))) σ11 ∧ G σ11 u ∧ inR r15 ∧ (∀ z16 : Int, z16 = min z8 r15 → ((z16 ≤ z5 → (inR (x4 + 1) ∧ L_X2_weighCosts_7 C sc P v w x2 x3 (x4 + 1) σ11)) ∧ (¬ (z16 ≤ z5) → (∃ (r24 : Int) (σ20 : aH), C mX2_costBefore [.ref v, .int (nZ z16)] σ11 (.inl (some (.int (nZ r24)))) σ20 ∧ G σ20 u ∧ inR r24 ∧ (∀ z25 : Int, z25 = max z5 (rI σ20 v 6) → (∀ z28 : Int, z28 = min z25 z16 → ((0 ≤ x4 ∧ x4 < 20) ∧ (∃ (r35 : Int) (σ31 : aH), C mX2_costBefore [.ref v, .int (nZ z5)] σ20 (.inl (some (.int (nZ r35)))) σ31 ∧ G σ31 u ∧ inR r35 ∧ (inR (r24 - r35) ∧ (∃ (r41 : Int) (σ37 : aH), C mX2_costBefore [.ref v, .int (nZ z28)] σ31 (.inl (some (.int (nZ r41)))) σ37 ∧ G σ37 u ∧ inR r41 ∧ (inR (r24 - r41) ∧ (∃ σ43 : aH, C mX8_add [.ref w, .int (nZ (rI σ20 (v + 12) x4)), .int (nZ (r24 - r35)), .int (nZ (r24 - r41))] σ37 (.inl none) σ43 ∧ G σ43 u ∧ (inR (x4 + 1) ∧ L_X2_weighCosts_7 C sc P v w x2 x3 (x4 + 1) σ43)))))))))))))))))))) :
    L_X2_weighCosts_7 C sc P v w x2 x3 x4 σ := by
  unfold L_X2_weighCosts_7
  refine w_iload dX2_weighCosts_7 (List.Mem.tail _ (List.Mem.tail _ (List.Mem.tail _ (List.Mem.tail _ (List.Mem.head _))))) ?_
  refine w_aload_n dX2_weighCosts_9 rfl (List.Mem.head _) ?_
  refine w_getR (ci := 2) (k := 1) (b := (v + 10)) dX2_weighCosts_10 fl_2_21 (by decide) (gT hG (IsMk_t0 hv) (IsMk_lt hv (k := 0) (by decide))) (gR hG (IsMk_r0_1 hv)) ?_
  refine i_getI (ci := 0) 2 rfl dX2_weighCosts_13 fl_2_35 (by decide) (gT hG (IsMk_t10 hv) (IsMk_lt hv (k := 10) (by decide))) ?_
  refine i_cmp_ge (tgt := 126) dX2_weighCosts_16 rfl rx4 (rI_R _ _ _) (fun c9 => ?_) (fun c9 => ?_)
  · replace h := h.1 c9
    refine w_aload_n dX2_weighCosts_126 rfl (List.Mem.tail _ (List.Mem.head _)) ?_
    obtain ⟨σ1, hc3, hG2, h⟩ := h
    refine w_callV dX2_weighCosts_127 ml_2_90 ⟨ok_X8_heap, vi_X8_heap⟩ hs_X8_heap (As := []) rfl rfl (gT hG (IsWt_t0 hw) (IsWt_lt hw (k := 0) (by decide))) (Nat.le_of_ble_eq_true rfl) hc3 ?_
    show wp C 2 cX2_weighCosts 9 none false [] sc P 130 [(0, .ref v), (1, .ref w), (2, .int (nZ x2)), (3, .int (nZ x3)), (4, .int (nZ x4))] [] σ1
    exact w_vret dX2_weighCosts_130 rfl h
  · replace h := h.2 c9
    refine w_iload_n dX2_weighCosts_19 rfl (List.Mem.tail _ (List.Mem.tail _ (List.Mem.head _))) ?_
    refine w_aload_n dX2_weighCosts_20 rfl (List.Mem.head _) ?_
    refine w_getR (ci := 2) (k := 1) (b := (v + 10)) dX2_weighCosts_21 fl_2_21 (by decide) (gT hG (IsMk_t0 hv) (IsMk_lt hv (k := 0) (by decide))) (gR hG (IsMk_r0_1 hv)) ?_
    refine w_getR (ci := 0) (k := 0) (b := (v + 11)) dX2_weighCosts_24 fl_2_61 (by decide) (gT hG (IsMk_t10 hv) (IsMk_lt hv (k := 10) (by decide))) (gR hG (IsMk_r10_0 hv)) ?_
    refine w_iload dX2_weighCosts_27 (List.Mem.tail _ (List.Mem.tail _ (List.Mem.tail _ (List.Mem.tail _ (List.Mem.head _))))) ?_
    obtain ⟨h9, h⟩ := h
    refine i_iald (n := 20) dX2_weighCosts_29 (gT hG (IsMk_t11 hv) (IsMk_lt hv (k := 11) (by decide))) (gL hG (IsMk_n11 hv)) rx4 h9 ?_
    refine i_mmax dX2_weighCosts_30 lk_2_76 (Nat.le_of_ble_eq_true rfl) rx2 (rI_R _ _ _) (fun z5 ez6 rz7 => ?_)
    replace h := h z5 ez6
    refine w_istore (l' := [(5, .int (nZ z5)), (0, .ref v), (1, .ref w), (2, .int (nZ x2)), (3, .int (nZ x3)), (4, .int (nZ x4))]) dX2_weighCosts_33 (by decide) rfl ?_
    refine w_iload_n dX2_weighCosts_35 rfl (List.Mem.tail _ (List.Mem.tail _ (List.Mem.tail _ (List.Mem.tail _ (List.Mem.head _))))) ?_
    refine w_aload_n dX2_weighCosts_36 rfl (List.Mem.tail _ (List.Mem.head _)) ?_
    refine i_getI (ci := 2) 5 rfl dX2_weighCosts_37 fl_2_42 (by decide) (gT hG (IsMk_t0 hv) (IsMk_lt hv (k := 0) (by decide))) ?_
    refine i_mmin dX2_weighCosts_40 lk_2_65 (Nat.le_of_ble_eq_true rfl) rx3 (rI_R _ _ _) (fun z8 ez9 rz10 => ?_)
    replace h := h z8 ez9
    refine w_aload_n dX2_weighCosts_43 rfl (List.Mem.tail _ (List.Mem.head _)) ?_
    refine w_getR (ci := 2) (k := 1) (b := (v + 10)) dX2_weighCosts_44 fl_2_21 (by decide) (gT hG (IsMk_t0 hv) (IsMk_lt hv (k := 0) (by decide))) (gR hG (IsMk_r0_1 hv)) ?_
    refine w_iload dX2_weighCosts_47 (List.Mem.tail _ (List.Mem.tail _ (List.Mem.tail _ (List.Mem.tail _ (List.Mem.tail _ (List.Mem.head _)))))) ?_
    obtain ⟨r15, σ11, hc13, hG12, rr14, h⟩ := h
    refine w_callV dX2_weighCosts_49 ml_2_79 ⟨ok_X0_endOf, vi_X0_endOf⟩ hs_X0_endOf (As := [.int (nZ x4)]) rfl rfl (gT hG (IsMk_t10 hv) (IsMk_lt hv (k := 10) (by decide))) (Nat.le_of_ble_eq_true rfl) hc13 ?_
    show wp C 2 cX2_weighCosts 9 none false [] sc P 52 [(5, .int (nZ z5)), (0, .ref v), (1, .ref w), (2, .int (nZ x2)), (3, .int (nZ x3)), (4, .int (nZ x4))] [.int (nZ r15), .int (nZ z8)] σ11
    refine i_mmin dX2_weighCosts_52 lk_2_65 (Nat.le_of_ble_eq_true rfl) rz10 rr14 (fun z16 ez17 rz18 => ?_)
    replace h := h z16 ez17
    refine w_istore (l' := [(6, .int (nZ z16)), (5, .int (nZ z5)), (0, .ref v), (1, .ref w), (2, .int (nZ x2)), (3, .int (nZ x3)), (4, .int (nZ x4))]) dX2_weighCosts_55 (by decide) rfl ?_
    refine w_iload dX2_weighCosts_57 (List.Mem.tail _ (List.Mem.head _)) ?_
    refine w_iload dX2_weighCosts_59 (List.Mem.head _) ?_
    refine i_cmp_ge (tgt := 120) dX2_weighCosts_61 rfl rz7 rz18 (fun c9 => ?_) (fun c9 => ?_)
    · replace h := h.1 c9
      obtain ⟨q19, h⟩ := h
      refine w_iinc (v := nZ (x4 + 1)) (l' := [(4, .int (nZ (x4 + 1))), (6, .int (nZ z16)), (5, .int (nZ z5)), (0, .ref v), (1, .ref w), (2, .int (nZ x2)), (3, .int (nZ x3))]) dX2_weighCosts_120 (List.Mem.tail _ (List.Mem.tail _ (List.Mem.tail _ (List.Mem.tail _ (List.Mem.tail _ (List.Mem.tail _ (List.Mem.head _))))))) (nZ_add _ _) (by decide) rfl ?_
      refine w_goto (tgt := 7) dX2_weighCosts_123 rfl ?_
      exact w_weak (l' := [(0, .ref v), (1, .ref w), (2, .int (nZ x2)), (3, .int (nZ x3)), (4, .int (nZ (x4 + 1)))]) (by intro q hq; simp only [List.mem_cons, List.not_mem_nil, or_false] at hq ⊢; rcases hq with rfl | rfl | rfl | rfl | rfl <;> simp) h
    · replace h := h.2 c9
      refine w_aload_n dX2_weighCosts_64 rfl (List.Mem.tail _ (List.Mem.tail _ (List.Mem.head _))) ?_
      refine w_iload dX2_weighCosts_65 (List.Mem.head _) ?_
      obtain ⟨r24, σ20, hc22, hG21, rr23, h⟩ := h
      refine w_callV dX2_weighCosts_67 ml_2_83 ⟨ok_X2_costBefore, vi_X2_costBefore⟩ hs_X2_costBefore (As := [.int (nZ z16)]) rfl rfl (gT hG12 (IsMk_t0 hv) (IsMk_lt hv (k := 0) (by decide))) (Nat.le_of_ble_eq_true rfl) hc22 ?_
      show wp C 2 cX2_weighCosts 9 none false [] sc P 70 [(6, .int (nZ z16)), (5, .int (nZ z5)), (0, .ref v), (1, .ref w), (2, .int (nZ x2)), (3, .int (nZ x3)), (4, .int (nZ x4))] [.int (nZ r24)] σ20
      refine w_istore (l' := [(7, .int (nZ r24)), (6, .int (nZ z16)), (5, .int (nZ z5)), (0, .ref v), (1, .ref w), (2, .int (nZ x2)), (3, .int (nZ x3)), (4, .int (nZ x4))]) dX2_weighCosts_70 (by decide) rfl ?_
      refine w_iload dX2_weighCosts_72 (List.Mem.tail _ (List.Mem.tail _ (List.Mem.head _))) ?_
      refine w_aload_n dX2_weighCosts_74 rfl (List.Mem.tail _ (List.Mem.tail _ (List.Mem.tail _ (List.Mem.head _)))) ?_
      refine i_getI (ci := 2) 6 rfl dX2_weighCosts_75 fl_2_45 (by decide) (gT hG21 (IsMk_t0 hv) (IsMk_lt hv (k := 0) (by decide))) ?_
      refine i_mmax dX2_weighCosts_78 lk_2_76 (Nat.le_of_ble_eq_true rfl) rz7 (rI_R _ _ _) (fun z25 ez26 rz27 => ?_)
      replace h := h z25 ez26
      refine w_iload dX2_weighCosts_81 (List.Mem.tail _ (List.Mem.head _)) ?_
      refine i_mmin dX2_weighCosts_83 lk_2_65 (Nat.le_of_ble_eq_true rfl) rz27 rz18 (fun z28 ez29 rz30 => ?_)
      replace h := h z28 ez29
      refine w_istore (l' := [(8, .int (nZ z28)), (7, .int (nZ r24)), (6, .int (nZ z16)), (5, .int (nZ z5)), (0, .ref v), (1, .ref w), (2, .int (nZ x2)), (3, .int (nZ x3)), (4, .int (nZ x4))]) dX2_weighCosts_86 (by decide) rfl ?_
      refine w_aload_n dX2_weighCosts_88 rfl (List.Mem.tail _ (List.Mem.tail _ (List.Mem.tail _ (List.Mem.tail _ (List.Mem.tail _ (List.Mem.head _)))))) ?_
      refine w_aload_n dX2_weighCosts_89 rfl (List.Mem.tail _ (List.Mem.tail _ (List.Mem.tail _ (List.Mem.tail _ (List.Mem.head _))))) ?_
      refine w_getR (ci := 2) (k := 1) (b := (v + 10)) dX2_weighCosts_90 fl_2_21 (by decide) (gT hG21 (IsMk_t0 hv) (IsMk_lt hv (k := 0) (by decide))) (gR hG21 (IsMk_r0_1 hv)) ?_
      refine w_getR (ci := 0) (k := 1) (b := (v + 12)) dX2_weighCosts_93 fl_2_70 (by decide) (gT hG21 (IsMk_t10 hv) (IsMk_lt hv (k := 10) (by decide))) (gR hG21 (IsMk_r10_1 hv)) ?_
      refine w_iload dX2_weighCosts_96 (List.Mem.tail _ (List.Mem.tail _ (List.Mem.tail _ (List.Mem.tail _ (List.Mem.tail _ (List.Mem.tail _ (List.Mem.tail _ (List.Mem.tail _ (List.Mem.head _))))))))) ?_
      obtain ⟨h9, h⟩ := h
      refine i_iald (n := 20) dX2_weighCosts_98 (gT hG21 (IsMk_t12 hv) (IsMk_lt hv (k := 12) (by decide))) (gL hG21 (IsMk_n12 hv)) rx4 h9 ?_
      refine w_iload dX2_weighCosts_99 (List.Mem.tail _ (List.Mem.head _)) ?_
      refine w_aload_n dX2_weighCosts_101 rfl (List.Mem.tail _ (List.Mem.tail _ (List.Mem.tail _ (List.Mem.tail _ (List.Mem.head _))))) ?_
      refine w_iload dX2_weighCosts_102 (List.Mem.tail _ (List.Mem.tail _ (List.Mem.tail _ (List.Mem.head _)))) ?_
      obtain ⟨r35, σ31, hc33, hG32, rr34, h⟩ := h
      refine w_callV dX2_weighCosts_104 ml_2_83 ⟨ok_X2_costBefore, vi_X2_costBefore⟩ hs_X2_costBefore (As := [.int (nZ z5)]) rfl rfl (gT hG21 (IsMk_t0 hv) (IsMk_lt hv (k := 0) (by decide))) (Nat.le_of_ble_eq_true rfl) hc33 ?_
      show wp C 2 cX2_weighCosts 9 none false [] sc P 107 [(8, .int (nZ z28)), (7, .int (nZ r24)), (6, .int (nZ z16)), (5, .int (nZ z5)), (0, .ref v), (1, .ref w), (2, .int (nZ x2)), (3, .int (nZ x3)), (4, .int (nZ x4))] [.int (nZ r35), .int (nZ r24), .int (nZ (rI σ20 (v + 12) x4)), .ref w] σ31
      obtain ⟨q36, h⟩ := h
      refine i_sub dX2_weighCosts_107 ?_
      refine w_iload dX2_weighCosts_108 (List.Mem.tail _ (List.Mem.head _)) ?_
      refine w_aload_n dX2_weighCosts_110 rfl (List.Mem.tail _ (List.Mem.tail _ (List.Mem.tail _ (List.Mem.tail _ (List.Mem.head _))))) ?_
      refine w_iload dX2_weighCosts_111 (List.Mem.head _) ?_
      obtain ⟨r41, σ37, hc39, hG38, rr40, h⟩ := h
      refine w_callV dX2_weighCosts_113 ml_2_83 ⟨ok_X2_costBefore, vi_X2_costBefore⟩ hs_X2_costBefore (As := [.int (nZ z28)]) rfl rfl (gT hG32 (IsMk_t0 hv) (IsMk_lt hv (k := 0) (by decide))) (Nat.le_of_ble_eq_true rfl) hc39 ?_
      show wp C 2 cX2_weighCosts 9 none false [] sc P 116 [(8, .int (nZ z28)), (7, .int (nZ r24)), (6, .int (nZ z16)), (5, .int (nZ z5)), (0, .ref v), (1, .ref w), (2, .int (nZ x2)), (3, .int (nZ x3)), (4, .int (nZ x4))] [.int (nZ r41), .int (nZ r24), .int (nZ (r24 - r35)), .int (nZ (rI σ20 (v + 12) x4)), .ref w] σ37
      obtain ⟨q42, h⟩ := h
      refine i_sub dX2_weighCosts_116 ?_
      obtain ⟨σ43, hc45, hG44, h⟩ := h
      refine w_callV dX2_weighCosts_117 ml_2_86 ⟨ok_X8_add, vi_X8_add⟩ hs_X8_add (As := [.int (nZ (rI σ20 (v + 12) x4)), .int (nZ (r24 - r35)), .int (nZ (r24 - r41))]) rfl rfl (gT hG38 (IsWt_t0 hw) (IsWt_lt hw (k := 0) (by decide))) (Nat.le_of_ble_eq_true rfl) hc45 ?_
      show wp C 2 cX2_weighCosts 9 none false [] sc P 120 [(8, .int (nZ z28)), (7, .int (nZ r24)), (6, .int (nZ z16)), (5, .int (nZ z5)), (0, .ref v), (1, .ref w), (2, .int (nZ x2)), (3, .int (nZ x3)), (4, .int (nZ x4))] [] σ43
      obtain ⟨q47, h⟩ := h
      refine w_iinc (v := nZ (x4 + 1)) (l' := [(4, .int (nZ (x4 + 1))), (8, .int (nZ z28)), (7, .int (nZ r24)), (6, .int (nZ z16)), (5, .int (nZ z5)), (0, .ref v), (1, .ref w), (2, .int (nZ x2)), (3, .int (nZ x3))]) dX2_weighCosts_120 (List.Mem.tail _ (List.Mem.tail _ (List.Mem.tail _ (List.Mem.tail _ (List.Mem.tail _ (List.Mem.tail _ (List.Mem.tail _ (List.Mem.tail _ (List.Mem.head _))))))))) (nZ_add _ _) (by decide) rfl ?_
      refine w_goto (tgt := 7) dX2_weighCosts_123 rfl ?_
      exact w_weak (l' := [(0, .ref v), (1, .ref w), (2, .int (nZ x2)), (3, .int (nZ x3)), (4, .int (nZ (x4 + 1)))]) (by intro q hq; simp only [List.mem_cons, List.not_mem_nil, or_false] at hq ⊢; rcases hq with rfl | rfl | rfl | rfl | rfl <;> simp) h
theorem dX2_weighMinutes_0 : decode cX2_weighMinutes 0 = .ok (.aload_n 1, 1) := by decide +kernel
theorem dX2_weighMinutes_1 : decode cX2_weighMinutes 1 = .ok (.invokevirtual 73, 3) := by decide +kernel
theorem dX2_weighMinutes_4 : decode cX2_weighMinutes 4 = .ok (.iconst 0, 1) := by decide +kernel
theorem dX2_weighMinutes_5 : decode cX2_weighMinutes 5 = .ok (.istore_n 2, 1) := by decide +kernel
theorem dX2_weighMinutes_6 : decode cX2_weighMinutes 6 = .ok (.iload_n 2, 1) := by decide +kernel
theorem dX2_weighMinutes_7 : decode cX2_weighMinutes 7 = .ok (.aload_n 0, 1) := by decide +kernel
theorem dX2_weighMinutes_8 : decode cX2_weighMinutes 8 = .ok (.getfield 21, 3) := by decide +kernel
theorem dX2_weighMinutes_11 : decode cX2_weighMinutes 11 = .ok (.getfield 35, 3) := by decide +kernel
theorem dX2_weighMinutes_14 : decode cX2_weighMinutes 14 = .ok (.if_icmp .ge 63, 3) := by decide +kernel
theorem dX2_weighMinutes_17 : decode cX2_weighMinutes 17 = .ok (.aload_n 0, 1) := by decide +kernel
theorem dX2_weighMinutes_18 : decode cX2_weighMinutes 18 = .ok (.getfield 42, 3) := by decide +kernel
theorem dX2_weighMinutes_21 : decode cX2_weighMinutes 21 = .ok (.aload_n 0, 1) := by decide +kernel
theorem dX2_weighMinutes_22 : decode cX2_weighMinutes 22 = .ok (.getfield 21, 3) := by decide +kernel
theorem dX2_weighMinutes_25 : decode cX2_weighMinutes 25 = .ok (.iload_n 2, 1) := by decide +kernel
theorem dX2_weighMinutes_26 : decode cX2_weighMinutes 26 = .ok (.invokevirtual 79, 3) := by decide +kernel
theorem dX2_weighMinutes_29 : decode cX2_weighMinutes 29 = .ok (.invokestatic 65, 3) := by decide +kernel
theorem dX2_weighMinutes_32 : decode cX2_weighMinutes 32 = .ok (.istore_n 3, 1) := by decide +kernel
theorem dX2_weighMinutes_33 : decode cX2_weighMinutes 33 = .ok (.aload_n 0, 1) := by decide +kernel
theorem dX2_weighMinutes_34 : decode cX2_weighMinutes 34 = .ok (.getfield 21, 3) := by decide +kernel
theorem dX2_weighMinutes_37 : decode cX2_weighMinutes 37 = .ok (.getfield 61, 3) := by decide +kernel
theorem dX2_weighMinutes_40 : decode cX2_weighMinutes 40 = .ok (.iload_n 2, 1) := by decide +kernel
theorem dX2_weighMinutes_41 : decode cX2_weighMinutes 41 = .ok (.iaload, 1) := by decide +kernel
theorem dX2_weighMinutes_42 : decode cX2_weighMinutes 42 = .ok (.iload_n 3, 1) := by decide +kernel
theorem dX2_weighMinutes_43 : decode cX2_weighMinutes 43 = .ok (.if_icmp .ge 28, 3) := by decide +kernel
theorem dX2_weighMinutes_46 : decode cX2_weighMinutes 46 = .ok (.aload_n 1, 1) := by decide +kernel
theorem dX2_weighMinutes_47 : decode cX2_weighMinutes 47 = .ok (.aload_n 0, 1) := by decide +kernel
theorem dX2_weighMinutes_48 : decode cX2_weighMinutes 48 = .ok (.getfield 21, 3) := by decide +kernel
theorem dX2_weighMinutes_51 : decode cX2_weighMinutes 51 = .ok (.getfield 70, 3) := by decide +kernel
theorem dX2_weighMinutes_54 : decode cX2_weighMinutes 54 = .ok (.iload_n 2, 1) := by decide +kernel
theorem dX2_weighMinutes_55 : decode cX2_weighMinutes 55 = .ok (.iaload, 1) := by decide +kernel
theorem dX2_weighMinutes_56 : decode cX2_weighMinutes 56 = .ok (.iload_n 3, 1) := by decide +kernel
theorem dX2_weighMinutes_57 : decode cX2_weighMinutes 57 = .ok (.aload_n 0, 1) := by decide +kernel
theorem dX2_weighMinutes_58 : decode cX2_weighMinutes 58 = .ok (.getfield 21, 3) := by decide +kernel
theorem dX2_weighMinutes_61 : decode cX2_weighMinutes 61 = .ok (.getfield 61, 3) := by decide +kernel
theorem dX2_weighMinutes_64 : decode cX2_weighMinutes 64 = .ok (.iload_n 2, 1) := by decide +kernel
theorem dX2_weighMinutes_65 : decode cX2_weighMinutes 65 = .ok (.iaload, 1) := by decide +kernel
theorem dX2_weighMinutes_66 : decode cX2_weighMinutes 66 = .ok (.isub, 1) := by decide +kernel
theorem dX2_weighMinutes_67 : decode cX2_weighMinutes 67 = .ok (.iconst 0, 1) := by decide +kernel
theorem dX2_weighMinutes_68 : decode cX2_weighMinutes 68 = .ok (.invokevirtual 86, 3) := by decide +kernel
theorem dX2_weighMinutes_71 : decode cX2_weighMinutes 71 = .ok (.iinc 2 1, 3) := by decide +kernel
theorem dX2_weighMinutes_74 : decode cX2_weighMinutes 74 = .ok (.goto (-68), 3) := by decide +kernel
theorem dX2_weighMinutes_77 : decode cX2_weighMinutes 77 = .ok (.aload_n 1, 1) := by decide +kernel
theorem dX2_weighMinutes_78 : decode cX2_weighMinutes 78 = .ok (.invokevirtual 90, 3) := by decide +kernel
theorem dX2_weighMinutes_81 : decode cX2_weighMinutes 81 = .ok (.return_, 1) := by decide +kernel
def L_X2_weighMinutes_6 (C : aM → List Value → aH → aO → aH → Prop) (sc : Nat × (Nat → Int32)) (P : aO → aH → Prop) (v : Nat) (w : Nat) (x2 : Int) (σ : aH) : Prop :=
    wp C 2 cX2_weighMinutes 4 none false [] sc P 6 [(0, .ref v), (1, .ref w), (2, .int (nZ x2))] [] σ
set_option maxRecDepth 10000 in
theorem t_X2_weighMinutes {sc : Nat × (Nat → Int32)} {d : Nat} {Q : aO → aH → Prop} {σ : aH} {u : Nat} {v : Nat} {w : Nat}  (hG : G σ u) (hv : IsMk v) (hw : IsWt w)
    (h : (∃ σ1 : aH, Ev sc d mX8_clear [.ref w] σ (.inl none) σ1 ∧ G σ1 u ∧ L_X2_weighMinutes_6 (Ev sc d) sc Q v w 0 σ1)) :
    T sc (d + 1) mX2_weighMinutes [.ref v, .ref w] σ Q := by
  refine T.of (c := 2) (code := cX2_weighMinutes) (mL := 4) (rt := none) (ini := false) (l := [(0, .ref v), (1, .ref w)]) rfl rfl rfl rfl (by decide) hs_X2_weighMinutes rfl rfl ?_
  refine w_aload_n dX2_weighMinutes_0 rfl (List.Mem.tail _ (List.Mem.head _)) ?_
  obtain ⟨σ1, hc3, hG2, h⟩ := h
  refine w_callV dX2_weighMinutes_1 ml_2_73 ⟨ok_X8_clear, vi_X8_clear⟩ hs_X8_clear (As := []) rfl rfl (gT hG (IsWt_t0 hw) (IsWt_lt hw (k := 0) (by decide))) (Nat.le_of_ble_eq_true rfl) hc3 ?_
  show wp (Ev sc d) 2 cX2_weighMinutes 4 none false [] sc Q 4 [(0, .ref v), (1, .ref w)] [] σ1
  refine w_iconst (v := nZ 0) dX2_weighMinutes_4 (by decide) ?_
  refine w_istore_n (l' := [(2, .int (nZ 0)), (0, .ref v), (1, .ref w)]) dX2_weighMinutes_5 rfl (by decide) rfl ?_
  exact w_weak (l' := [(0, .ref v), (1, .ref w), (2, .int (nZ 0))]) (by intro q hq; simp only [List.mem_cons, List.not_mem_nil, or_false] at hq ⊢; rcases hq with rfl | rfl | rfl <;> simp) h
set_option maxRecDepth 10000 in
theorem v_X2_weighMinutes_6 {C : aM → List Value → aH → aO → aH → Prop} {sc : Nat × (Nat → Int32)} {P : aO → aH → Prop} {σ : aH} {u : Nat} {v : Nat} {w : Nat} {x2 : Int} (hG : G σ u) (hv : IsMk v) (hw : IsWt w) (rx2 : inR x2)
    (h : (((rI σ (v + 10) 2) ≤ x2 → (∃ σ1 : aH, C mX8_heap [.ref w] σ (.inl none) σ1 ∧ G σ1 u ∧ P (.inl none) σ1)) ∧ (¬ ((rI σ (v + 10) 2) ≤ x2) → (∃ (r9 : Int) (σ5 : aH), C mX0_endOf [.ref (v + 10), .int (nZ x2)] σ (.inl (some (.int (nZ r9)))) σ5 ∧ G σ5 u ∧ inR r9 ∧ (∀ z10 : Int, z10 = min (rI σ v 5) r9 → ((0 ≤ x2 ∧ x2 < 20) ∧ ((z10 ≤ (rI σ5 (v + 11) x2) → (inR (x2 + 1) ∧ L_X2_weighMinutes_6 C sc P v w (x2 + 1) σ5)) ∧ (¬ (z10 ≤ (rI σ5 (v + 11) x2)) → ((0 ≤ x2 ∧ x2 < 20) ∧ ((0 ≤ x2 ∧ x2 < 20) ∧ (inR (z10 - (rI σ5 (v + 11) x2)) ∧ (∃ σ15 : aH, C mX8_add [.ref w, .int (nZ (rI σ5 (v + 12) x2)), .int (nZ (z10 - (rI σ5 (v + 11) x2))), .int (nZ 0)] σ5 (.inl none) σ15 ∧ G σ15 u ∧ (inR (x2 + 1) ∧ L_X2_weighMinutes_6 C sc P v w (x2 + 1) σ15))))))))))))) :
    L_X2_weighMinutes_6 C sc P v w x2 σ := by
  unfold L_X2_weighMinutes_6
  refine w_iload_n dX2_weighMinutes_6 rfl (List.Mem.tail _ (List.Mem.tail _ (List.Mem.head _))) ?_
  refine w_aload_n dX2_weighMinutes_7 rfl (List.Mem.head _) ?_
  refine w_getR (ci := 2) (k := 1) (b := (v + 10)) dX2_weighMinutes_8 fl_2_21 (by decide) (gT hG (IsMk_t0 hv) (IsMk_lt hv (k := 0) (by decide))) (gR hG (IsMk_r0_1 hv)) ?_
  refine i_getI (ci := 0) 2 rfl dX2_weighMinutes_11 fl_2_35 (by decide) (gT hG (IsMk_t10 hv) (IsMk_lt hv (k := 10) (by decide))) ?_
  refine i_cmp_ge (tgt := 77) dX2_weighMinutes_14 rfl rx2 (rI_R _ _ _) (fun c9 => ?_) (fun c9 => ?_)
  · replace h := h.1 c9
    refine w_aload_n dX2_weighMinutes_77 rfl (List.Mem.tail _ (List.Mem.head _)) ?_
    obtain ⟨σ1, hc3, hG2, h⟩ := h
    refine w_callV dX2_weighMinutes_78 ml_2_90 ⟨ok_X8_heap, vi_X8_heap⟩ hs_X8_heap (As := []) rfl rfl (gT hG (IsWt_t0 hw) (IsWt_lt hw (k := 0) (by decide))) (Nat.le_of_ble_eq_true rfl) hc3 ?_
    show wp C 2 cX2_weighMinutes 4 none false [] sc P 81 [(0, .ref v), (1, .ref w), (2, .int (nZ x2))] [] σ1
    exact w_vret dX2_weighMinutes_81 rfl h
  · replace h := h.2 c9
    refine w_aload_n dX2_weighMinutes_17 rfl (List.Mem.head _) ?_
    refine i_getI (ci := 2) 5 rfl dX2_weighMinutes_18 fl_2_42 (by decide) (gT hG (IsMk_t0 hv) (IsMk_lt hv (k := 0) (by decide))) ?_
    refine w_aload_n dX2_weighMinutes_21 rfl (List.Mem.head _) ?_
    refine w_getR (ci := 2) (k := 1) (b := (v + 10)) dX2_weighMinutes_22 fl_2_21 (by decide) (gT hG (IsMk_t0 hv) (IsMk_lt hv (k := 0) (by decide))) (gR hG (IsMk_r0_1 hv)) ?_
    refine w_iload_n dX2_weighMinutes_25 rfl (List.Mem.tail _ (List.Mem.tail _ (List.Mem.head _))) ?_
    obtain ⟨r9, σ5, hc7, hG6, rr8, h⟩ := h
    refine w_callV dX2_weighMinutes_26 ml_2_79 ⟨ok_X0_endOf, vi_X0_endOf⟩ hs_X0_endOf (As := [.int (nZ x2)]) rfl rfl (gT hG (IsMk_t10 hv) (IsMk_lt hv (k := 10) (by decide))) (Nat.le_of_ble_eq_true rfl) hc7 ?_
    show wp C 2 cX2_weighMinutes 4 none false [] sc P 29 [(0, .ref v), (1, .ref w), (2, .int (nZ x2))] [.int (nZ r9), .int (nZ (rI σ v 5))] σ5
    refine i_mmin dX2_weighMinutes_29 lk_2_65 (Nat.le_of_ble_eq_true rfl) (rI_R _ _ _) rr8 (fun z10 ez11 rz12 => ?_)
    replace h := h z10 ez11
    refine w_istore_n (l' := [(3, .int (nZ z10)), (0, .ref v), (1, .ref w), (2, .int (nZ x2))]) dX2_weighMinutes_32 rfl (by decide) rfl ?_
    refine w_aload_n dX2_weighMinutes_33 rfl (List.Mem.tail _ (List.Mem.head _)) ?_
    refine w_getR (ci := 2) (k := 1) (b := (v + 10)) dX2_weighMinutes_34 fl_2_21 (by decide) (gT hG6 (IsMk_t0 hv) (IsMk_lt hv (k := 0) (by decide))) (gR hG6 (IsMk_r0_1 hv)) ?_
    refine w_getR (ci := 0) (k := 0) (b := (v + 11)) dX2_weighMinutes_37 fl_2_61 (by decide) (gT hG6 (IsMk_t10 hv) (IsMk_lt hv (k := 10) (by decide))) (gR hG6 (IsMk_r10_0 hv)) ?_
    refine w_iload_n dX2_weighMinutes_40 rfl (List.Mem.tail _ (List.Mem.tail _ (List.Mem.tail _ (List.Mem.head _)))) ?_
    obtain ⟨h9, h⟩ := h
    refine i_iald (n := 20) dX2_weighMinutes_41 (gT hG6 (IsMk_t11 hv) (IsMk_lt hv (k := 11) (by decide))) (gL hG6 (IsMk_n11 hv)) rx2 h9 ?_
    refine w_iload_n dX2_weighMinutes_42 rfl (List.Mem.head _) ?_
    refine i_cmp_ge (tgt := 71) dX2_weighMinutes_43 rfl (rI_R _ _ _) rz12 (fun c9 => ?_) (fun c9 => ?_)
    · replace h := h.1 c9
      obtain ⟨q13, h⟩ := h
      refine w_iinc (v := nZ (x2 + 1)) (l' := [(2, .int (nZ (x2 + 1))), (3, .int (nZ z10)), (0, .ref v), (1, .ref w)]) dX2_weighMinutes_71 (List.Mem.tail _ (List.Mem.tail _ (List.Mem.tail _ (List.Mem.head _)))) (nZ_add _ _) (by decide) rfl ?_
      refine w_goto (tgt := 6) dX2_weighMinutes_74 rfl ?_
      exact w_weak (l' := [(0, .ref v), (1, .ref w), (2, .int (nZ (x2 + 1)))]) (by intro q hq; simp only [List.mem_cons, List.not_mem_nil, or_false] at hq ⊢; rcases hq with rfl | rfl | rfl <;> simp) h
    · replace h := h.2 c9
      refine w_aload_n dX2_weighMinutes_46 rfl (List.Mem.tail _ (List.Mem.tail _ (List.Mem.head _))) ?_
      refine w_aload_n dX2_weighMinutes_47 rfl (List.Mem.tail _ (List.Mem.head _)) ?_
      refine w_getR (ci := 2) (k := 1) (b := (v + 10)) dX2_weighMinutes_48 fl_2_21 (by decide) (gT hG6 (IsMk_t0 hv) (IsMk_lt hv (k := 0) (by decide))) (gR hG6 (IsMk_r0_1 hv)) ?_
      refine w_getR (ci := 0) (k := 1) (b := (v + 12)) dX2_weighMinutes_51 fl_2_70 (by decide) (gT hG6 (IsMk_t10 hv) (IsMk_lt hv (k := 10) (by decide))) (gR hG6 (IsMk_r10_1 hv)) ?_
      refine w_iload_n dX2_weighMinutes_54 rfl (List.Mem.tail _ (List.Mem.tail _ (List.Mem.tail _ (List.Mem.head _)))) ?_
      obtain ⟨h9, h⟩ := h
      refine i_iald (n := 20) dX2_weighMinutes_55 (gT hG6 (IsMk_t12 hv) (IsMk_lt hv (k := 12) (by decide))) (gL hG6 (IsMk_n12 hv)) rx2 h9 ?_
      refine w_iload_n dX2_weighMinutes_56 rfl (List.Mem.head _) ?_
      refine w_aload_n dX2_weighMinutes_57 rfl (List.Mem.tail _ (List.Mem.head _)) ?_
      refine w_getR (ci := 2) (k := 1) (b := (v + 10)) dX2_weighMinutes_58 fl_2_21 (by decide) (gT hG6 (IsMk_t0 hv) (IsMk_lt hv (k := 0) (by decide))) (gR hG6 (IsMk_r0_1 hv)) ?_
      refine w_getR (ci := 0) (k := 0) (b := (v + 11)) dX2_weighMinutes_61 fl_2_61 (by decide) (gT hG6 (IsMk_t10 hv) (IsMk_lt hv (k := 10) (by decide))) (gR hG6 (IsMk_r10_0 hv)) ?_
      refine w_iload_n dX2_weighMinutes_64 rfl (List.Mem.tail _ (List.Mem.tail _ (List.Mem.tail _ (List.Mem.head _)))) ?_
      obtain ⟨h9, h⟩ := h
      refine i_iald (n := 20) dX2_weighMinutes_65 (gT hG6 (IsMk_t11 hv) (IsMk_lt hv (k := 11) (by decide))) (gL hG6 (IsMk_n11 hv)) rx2 h9 ?_
      obtain ⟨q14, h⟩ := h
      refine i_sub dX2_weighMinutes_66 ?_
      refine w_iconst (v := nZ 0) dX2_weighMinutes_67 (by decide) ?_
      obtain ⟨σ15, hc17, hG16, h⟩ := h
      refine w_callV dX2_weighMinutes_68 ml_2_86 ⟨ok_X8_add, vi_X8_add⟩ hs_X8_add (As := [.int (nZ (rI σ5 (v + 12) x2)), .int (nZ (z10 - (rI σ5 (v + 11) x2))), .int (nZ 0)]) rfl rfl (gT hG6 (IsWt_t0 hw) (IsWt_lt hw (k := 0) (by decide))) (Nat.le_of_ble_eq_true rfl) hc17 ?_
      show wp C 2 cX2_weighMinutes 4 none false [] sc P 71 [(3, .int (nZ z10)), (0, .ref v), (1, .ref w), (2, .int (nZ x2))] [] σ15
      obtain ⟨q19, h⟩ := h
      refine w_iinc (v := nZ (x2 + 1)) (l' := [(2, .int (nZ (x2 + 1))), (3, .int (nZ z10)), (0, .ref v), (1, .ref w)]) dX2_weighMinutes_71 (List.Mem.tail _ (List.Mem.tail _ (List.Mem.tail _ (List.Mem.head _)))) (nZ_add _ _) (by decide) rfl ?_
      refine w_goto (tgt := 6) dX2_weighMinutes_74 rfl ?_
      exact w_weak (l' := [(0, .ref v), (1, .ref w), (2, .int (nZ (x2 + 1)))]) (by intro q hq; simp only [List.mem_cons, List.not_mem_nil, or_false] at hq ⊢; rcases hq with rfl | rfl | rfl <;> simp) h
theorem dX2_cloudsDrawn_0 : decode cX2_cloudsDrawn 0 = .ok (.iconst 0, 1) := by decide +kernel
theorem dX2_cloudsDrawn_1 : decode cX2_cloudsDrawn 1 = .ok (.istore_n 2, 1) := by decide +kernel
theorem dX2_cloudsDrawn_2 : decode cX2_cloudsDrawn 2 = .ok (.iload_n 1, 1) := by decide +kernel
theorem dX2_cloudsDrawn_3 : decode cX2_cloudsDrawn 3 = .ok (.istore_n 3, 1) := by decide +kernel
theorem dX2_cloudsDrawn_4 : decode cX2_cloudsDrawn 4 = .ok (.iconst 0, 1) := by decide +kernel
theorem dX2_cloudsDrawn_5 : decode cX2_cloudsDrawn 5 = .ok (.istore 4, 2) := by decide +kernel
theorem dX2_cloudsDrawn_7 : decode cX2_cloudsDrawn 7 = .ok (.iload 4, 2) := by decide +kernel
theorem dX2_cloudsDrawn_9 : decode cX2_cloudsDrawn 9 = .ok (.bipush 24, 2) := by decide +kernel
theorem dX2_cloudsDrawn_11 : decode cX2_cloudsDrawn 11 = .ok (.if_icmp .ge 39, 3) := by decide +kernel
theorem dX2_cloudsDrawn_14 : decode cX2_cloudsDrawn 14 = .ok (.iload_n 3, 1) := by decide +kernel
theorem dX2_cloudsDrawn_15 : decode cX2_cloudsDrawn 15 = .ok (.ldc 93, 2) := by decide +kernel
theorem dX2_cloudsDrawn_17 : decode cX2_cloudsDrawn 17 = .ok (.imul, 1) := by decide +kernel
theorem dX2_cloudsDrawn_18 : decode cX2_cloudsDrawn 18 = .ok (.sipush 12345, 3) := by decide +kernel
theorem dX2_cloudsDrawn_21 : decode cX2_cloudsDrawn 21 = .ok (.iadd, 1) := by decide +kernel
theorem dX2_cloudsDrawn_22 : decode cX2_cloudsDrawn 22 = .ok (.istore_n 3, 1) := by decide +kernel
theorem dX2_cloudsDrawn_23 : decode cX2_cloudsDrawn 23 = .ok (.iload_n 3, 1) := by decide +kernel
theorem dX2_cloudsDrawn_24 : decode cX2_cloudsDrawn 24 = .ok (.bipush 16, 2) := by decide +kernel
theorem dX2_cloudsDrawn_26 : decode cX2_cloudsDrawn 26 = .ok (.iushr, 1) := by decide +kernel
theorem dX2_cloudsDrawn_27 : decode cX2_cloudsDrawn 27 = .ok (.bipush 7, 2) := by decide +kernel
theorem dX2_cloudsDrawn_29 : decode cX2_cloudsDrawn 29 = .ok (.iand, 1) := by decide +kernel
theorem dX2_cloudsDrawn_30 : decode cX2_cloudsDrawn 30 = .ok (.aload_n 0, 1) := by decide +kernel
theorem dX2_cloudsDrawn_31 : decode cX2_cloudsDrawn 31 = .ok (.getfield 48, 3) := by decide +kernel
theorem dX2_cloudsDrawn_34 : decode cX2_cloudsDrawn 34 = .ok (.if_icmp .ge 10, 3) := by decide +kernel
theorem dX2_cloudsDrawn_37 : decode cX2_cloudsDrawn 37 = .ok (.iload_n 2, 1) := by decide +kernel
theorem dX2_cloudsDrawn_38 : decode cX2_cloudsDrawn 38 = .ok (.iconst 1, 1) := by decide +kernel
theorem dX2_cloudsDrawn_39 : decode cX2_cloudsDrawn 39 = .ok (.iload 4, 2) := by decide +kernel
theorem dX2_cloudsDrawn_41 : decode cX2_cloudsDrawn 41 = .ok (.ishl, 1) := by decide +kernel
theorem dX2_cloudsDrawn_42 : decode cX2_cloudsDrawn 42 = .ok (.ior, 1) := by decide +kernel
theorem dX2_cloudsDrawn_43 : decode cX2_cloudsDrawn 43 = .ok (.istore_n 2, 1) := by decide +kernel
theorem dX2_cloudsDrawn_44 : decode cX2_cloudsDrawn 44 = .ok (.iinc 4 1, 3) := by decide +kernel
theorem dX2_cloudsDrawn_47 : decode cX2_cloudsDrawn 47 = .ok (.goto (-40), 3) := by decide +kernel
theorem dX2_cloudsDrawn_50 : decode cX2_cloudsDrawn 50 = .ok (.iload_n 2, 1) := by decide +kernel
theorem dX2_cloudsDrawn_51 : decode cX2_cloudsDrawn 51 = .ok (.ireturn, 1) := by decide +kernel
def L_X2_cloudsDrawn_7 (C : aM → List Value → aH → aO → aH → Prop) (sc : Nat × (Nat → Int32)) (P : aO → aH → Prop) (v : Nat) (x1 : Int) (x2 : Int) (x3 : Int) (x4 : Int) (σ : aH) : Prop :=
    wp C 2 cX2_cloudsDrawn 5 (some .int) false [] sc P 7 [(0, .ref v), (1, .int (nZ x1)), (2, .int (nZ x2)), (3, .int (nZ x3)), (4, .int (nZ x4))] [] σ
set_option maxRecDepth 10000 in
theorem t_X2_cloudsDrawn {sc : Nat × (Nat → Int32)} {d : Nat} {Q : aO → aH → Prop} {σ : aH} {u : Nat} {v : Nat} {x1 : Int} (hG : G σ u) (hv : IsMk v) (rx1 : inR x1)
    (h : L_X2_cloudsDrawn_7 (Ev sc d) sc Q v x1 0 x1 0 σ) :
    T sc (d + 1) mX2_cloudsDrawn [.ref v, .int (nZ x1)] σ Q := by
  refine T.of (c := 2) (code := cX2_cloudsDrawn) (mL := 5) (rt := (some .int)) (ini := false) (l := [(0, .ref v), (1, .int (nZ x1))]) rfl rfl rfl rfl (by decide) hs_X2_cloudsDrawn rfl rfl ?_
  refine w_iconst (v := nZ 0) dX2_cloudsDrawn_0 (by decide) ?_
  refine w_istore_n (l' := [(2, .int (nZ 0)), (0, .ref v), (1, .int (nZ x1))]) dX2_cloudsDrawn_1 rfl (by decide) rfl ?_
  refine w_iload_n dX2_cloudsDrawn_2 rfl (List.Mem.tail _ (List.Mem.tail _ (List.Mem.head _))) ?_
  refine w_istore_n (l' := [(3, .int (nZ x1)), (2, .int (nZ 0)), (0, .ref v), (1, .int (nZ x1))]) dX2_cloudsDrawn_3 rfl (by decide) rfl ?_
  refine w_iconst (v := nZ 0) dX2_cloudsDrawn_4 (by decide) ?_
  refine w_istore (l' := [(4, .int (nZ 0)), (3, .int (nZ x1)), (2, .int (nZ 0)), (0, .ref v), (1, .int (nZ x1))]) dX2_cloudsDrawn_5 (by decide) rfl ?_
  exact w_weak (l' := [(0, .ref v), (1, .int (nZ x1)), (2, .int (nZ 0)), (3, .int (nZ x1)), (4, .int (nZ 0))]) (by intro q hq; simp only [List.mem_cons, List.not_mem_nil, or_false] at hq ⊢; rcases hq with rfl | rfl | rfl | rfl | rfl <;> simp) h
set_option maxRecDepth 10000 in
theorem v_X2_cloudsDrawn_7 {C : aM → List Value → aH → aO → aH → Prop} {sc : Nat × (Nat → Int32)} {P : aO → aH → Prop} {σ : aH} {u : Nat} {v : Nat} {x1 : Int} {x2 : Int} {x3 : Int} {x4 : Int} (hG : G σ u) (hv : IsMk v) (rx1 : inR x1) (rx2 : inR x2) (rx3 : inR x3) (rx4 : inR x4)
    (h : ((24 ≤ x4 → P (.inl (some (.int (nZ x2)))) σ) ∧ (¬ (24 ≤ x4) → (∀ z1 : Int, z1 = (wr ((wr (x3 * 1103515245)) + 12345)) → (((rI σ v 7) ≤ (zAnd (zUsr z1 16) 7) → (inR (x4 + 1) ∧ L_X2_cloudsDrawn_7 C sc P v x1 x2 z1 (x4 + 1) σ)) ∧ (¬ ((rI σ v 7) ≤ (zAnd (zUsr z1 16) 7)) → (∀ z5 : Int, z5 = (zOr x2 (zShl 1 x4)) → (inR (x4 + 1) ∧ L_X2_cloudsDrawn_7 C sc P v x1 z5 z1 (x4 + 1) σ)))))))) :
    L_X2_cloudsDrawn_7 C sc P v x1 x2 x3 x4 σ := by
  unfold L_X2_cloudsDrawn_7
  refine w_iload dX2_cloudsDrawn_7 (List.Mem.tail _ (List.Mem.tail _ (List.Mem.tail _ (List.Mem.tail _ (List.Mem.head _))))) ?_
  refine w_bipush (v := nZ 24) dX2_cloudsDrawn_9 (by decide) ?_
  refine i_cmp_ge (tgt := 50) dX2_cloudsDrawn_11 rfl rx4 (by decide) (fun c9 => ?_) (fun c9 => ?_)
  · replace h := h.1 c9
    refine w_iload_n dX2_cloudsDrawn_50 rfl (List.Mem.tail _ (List.Mem.tail _ (List.Mem.head _))) ?_
    exact w_iret dX2_cloudsDrawn_51 rfl h
  · replace h := h.2 c9
    refine w_iload_n dX2_cloudsDrawn_14 rfl (List.Mem.tail _ (List.Mem.tail _ (List.Mem.tail _ (List.Mem.head _)))) ?_
    refine i_ldc (x := 1103515245) dX2_cloudsDrawn_15 kc_2_93 (by decide) ?_
    refine i_mulw dX2_cloudsDrawn_17 ?_
    refine w_sipush (v := nZ 12345) dX2_cloudsDrawn_18 (by decide) ?_
    refine i_addw dX2_cloudsDrawn_21 ?_
    refine top_i (fun z1 ez2 => ?_)
    have rz3 : inR z1 := ez2 ▸ (wr_R _)
    replace h := h z1 ez2
    refine w_istore_n (l' := [(3, .int (nZ z1)), (0, .ref v), (1, .int (nZ x1)), (2, .int (nZ x2)), (4, .int (nZ x4))]) dX2_cloudsDrawn_22 rfl (by decide) rfl ?_
    refine w_iload_n dX2_cloudsDrawn_23 rfl (List.Mem.head _) ?_
    refine w_bipush (v := nZ 16) dX2_cloudsDrawn_24 (by decide) ?_
    refine i_ushr dX2_cloudsDrawn_26 ?_
    refine w_bipush (v := nZ 7) dX2_cloudsDrawn_27 (by decide) ?_
    refine i_and dX2_cloudsDrawn_29 ?_
    refine w_aload_n dX2_cloudsDrawn_30 rfl (List.Mem.tail _ (List.Mem.head _)) ?_
    refine i_getI (ci := 2) 7 rfl dX2_cloudsDrawn_31 fl_2_48 (by decide) (gT hG (IsMk_t0 hv) (IsMk_lt hv (k := 0) (by decide))) ?_
    refine i_cmp_ge (tgt := 44) dX2_cloudsDrawn_34 rfl (zAnd_R _ _) (rI_R _ _ _) (fun c9 => ?_) (fun c9 => ?_)
    · replace h := h.1 c9
      obtain ⟨q4, h⟩ := h
      refine w_iinc (v := nZ (x4 + 1)) (l' := [(4, .int (nZ (x4 + 1))), (3, .int (nZ z1)), (0, .ref v), (1, .int (nZ x1)), (2, .int (nZ x2))]) dX2_cloudsDrawn_44 (List.Mem.tail _ (List.Mem.tail _ (List.Mem.tail _ (List.Mem.tail _ (List.Mem.head _))))) (nZ_add _ _) (by decide) rfl ?_
      refine w_goto (tgt := 7) dX2_cloudsDrawn_47 rfl ?_
      exact w_weak (l' := [(0, .ref v), (1, .int (nZ x1)), (2, .int (nZ x2)), (3, .int (nZ z1)), (4, .int (nZ (x4 + 1)))]) (by intro q hq; simp only [List.mem_cons, List.not_mem_nil, or_false] at hq ⊢; rcases hq with rfl | rfl | rfl | rfl | rfl <;> simp) h
    · replace h := h.2 c9
      refine w_iload_n dX2_cloudsDrawn_37 rfl (List.Mem.tail _ (List.Mem.tail _ (List.Mem.tail _ (List.Mem.head _)))) ?_
      refine w_iconst (v := nZ 1) dX2_cloudsDrawn_38 (by decide) ?_
      refine w_iload dX2_cloudsDrawn_39 (List.Mem.tail _ (List.Mem.tail _ (List.Mem.tail _ (List.Mem.tail _ (List.Mem.head _))))) ?_
      refine i_shl dX2_cloudsDrawn_41 ?_
      refine i_or dX2_cloudsDrawn_42 ?_
      refine top_i (fun z5 ez6 => ?_)
      have rz7 : inR z5 := ez6 ▸ (zOr_R _ _)
      replace h := h z5 ez6
      refine w_istore_n (l' := [(2, .int (nZ z5)), (3, .int (nZ z1)), (0, .ref v), (1, .int (nZ x1)), (4, .int (nZ x4))]) dX2_cloudsDrawn_43 rfl (by decide) rfl ?_
      obtain ⟨q8, h⟩ := h
      refine w_iinc (v := nZ (x4 + 1)) (l' := [(4, .int (nZ (x4 + 1))), (2, .int (nZ z5)), (3, .int (nZ z1)), (0, .ref v), (1, .int (nZ x1))]) dX2_cloudsDrawn_44 (List.Mem.tail _ (List.Mem.tail _ (List.Mem.tail _ (List.Mem.tail _ (List.Mem.head _))))) (nZ_add _ _) (by decide) rfl ?_
      refine w_goto (tgt := 7) dX2_cloudsDrawn_47 rfl ?_
      exact w_weak (l' := [(0, .ref v), (1, .int (nZ x1)), (2, .int (nZ z5)), (3, .int (nZ z1)), (4, .int (nZ (x4 + 1)))]) (by intro q hq; simp only [List.mem_cons, List.not_mem_nil, or_false] at hq ⊢; rcases hq with rfl | rfl | rfl | rfl | rfl <;> simp) h
