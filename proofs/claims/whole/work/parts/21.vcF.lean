theorem dX5_append_0 : decode cX5_append 0 = .ok (.bipush 24, 2) := by decide +kernel
theorem dX5_append_2 : decode cX5_append 2 = .ok (.istore_n 2, 1) := by decide +kernel
theorem dX5_append_3 : decode cX5_append 3 = .ok (.iload_n 2, 1) := by decide +kernel
theorem dX5_append_4 : decode cX5_append 4 = .ok (.ifCond .lt 42, 3) := by decide +kernel
theorem dX5_append_7 : decode cX5_append 7 = .ok (.aload_n 0, 1) := by decide +kernel
theorem dX5_append_8 : decode cX5_append 8 = .ok (.getfield 15, 3) := by decide +kernel
theorem dX5_append_11 : decode cX5_append 11 = .ok (.sipush 600, 3) := by decide +kernel
theorem dX5_append_14 : decode cX5_append 14 = .ok (.if_icmp .ge 32, 3) := by decide +kernel
theorem dX5_append_17 : decode cX5_append 17 = .ok (.aload_n 0, 1) := by decide +kernel
theorem dX5_append_18 : decode cX5_append 18 = .ok (.getfield 9, 3) := by decide +kernel
theorem dX5_append_21 : decode cX5_append 21 = .ok (.aload_n 0, 1) := by decide +kernel
theorem dX5_append_22 : decode cX5_append 22 = .ok (.getfield 15, 3) := by decide +kernel
theorem dX5_append_25 : decode cX5_append 25 = .ok (.iload_n 1, 1) := by decide +kernel
theorem dX5_append_26 : decode cX5_append 26 = .ok (.iload_n 2, 1) := by decide +kernel
theorem dX5_append_27 : decode cX5_append 27 = .ok (.iushr, 1) := by decide +kernel
theorem dX5_append_28 : decode cX5_append 28 = .ok (.i2b, 1) := by decide +kernel
theorem dX5_append_29 : decode cX5_append 29 = .ok (.bastore, 1) := by decide +kernel
theorem dX5_append_30 : decode cX5_append 30 = .ok (.aload_n 0, 1) := by decide +kernel
theorem dX5_append_31 : decode cX5_append 31 = .ok (.dup, 1) := by decide +kernel
theorem dX5_append_32 : decode cX5_append 32 = .ok (.getfield 15, 3) := by decide +kernel
theorem dX5_append_35 : decode cX5_append 35 = .ok (.iconst 1, 1) := by decide +kernel
theorem dX5_append_36 : decode cX5_append 36 = .ok (.iadd, 1) := by decide +kernel
theorem dX5_append_37 : decode cX5_append 37 = .ok (.putfield 15, 3) := by decide +kernel
theorem dX5_append_40 : decode cX5_append 40 = .ok (.iinc 2 (-8), 3) := by decide +kernel
theorem dX5_append_43 : decode cX5_append 43 = .ok (.goto (-40), 3) := by decide +kernel
theorem dX5_append_46 : decode cX5_append 46 = .ok (.return_, 1) := by decide +kernel
def L_X5_append_3 (C : aM → List Value → aH → aO → aH → Prop) (sc : Nat × (Nat → Int32)) (P : aO → aH → Prop) (x1 : Int) (x2 : Int) (σ : aH) : Prop :=
    wp C 5 cX5_append 3 none false [] sc P 3 [(0, .ref 1), (1, .int (nZ x1)), (2, .int (nZ x2))] [] σ
set_option maxRecDepth 10000 in
theorem t_X5_append {sc : Nat × (Nat → Int32)} {d : Nat} {Q : aO → aH → Prop} {σ : aH} {u : Nat}  {x1 : Int} (hG : G σ u) (rx1 : inR x1)
    (h : L_X5_append_3 (Ev sc d) sc Q x1 24 σ) :
    T sc (d + 1) mX5_append [.ref 1, .int (nZ x1)] σ Q := by
  refine T.of (c := 5) (code := cX5_append) (mL := 3) (rt := none) (ini := false) (l := [(0, .ref 1), (1, .int (nZ x1))]) rfl rfl rfl rfl (by decide) hs_X5_append rfl rfl ?_
  refine w_bipush (v := nZ 24) dX5_append_0 (by decide) ?_
  refine w_istore_n (l' := [(2, .int (nZ 24)), (0, .ref 1), (1, .int (nZ x1))]) dX5_append_2 rfl (by decide) rfl ?_
  exact w_weak (l' := [(0, .ref 1), (1, .int (nZ x1)), (2, .int (nZ 24))]) (by intro q hq; simp only [List.mem_cons, List.not_mem_nil, or_false] at hq ⊢; rcases hq with rfl | rfl | rfl <;> simp) h
set_option maxRecDepth 10000 in
theorem v_X5_append_3 {C : aM → List Value → aH → aO → aH → Prop} {sc : Nat × (Nat → Int32)} {P : aO → aH → Prop} {σ : aH} {u : Nat}  {x1 : Int} {x2 : Int} (hG : G σ u) (rx1 : inR x1) (rx2 : inR x2)
    (h : ((x2 < 0 → P (.inl none) σ) ∧ (¬ (x2 < 0) → ((600 ≤ (rI σ 1 1) → P (.inl none) σ) ∧ (¬ (600 ≤ (rI σ 1 1)) → ((0 ≤ (rI σ 1 1) ∧ (rI σ 1 1) < 600) ∧ (∀ σ1 : aH, wI σ 2 (rI σ 1 1) (zByt (zByt (zUsr x1 x2))) = σ1 → (inR ((rI σ1 1 1) + 1) ∧ (∀ σ5 : aH, wI σ1 1 1 ((rI σ1 1 1) + 1) = σ5 → (inR (x2 + (-8)) ∧ L_X5_append_3 C sc P x1 (x2 + (-8)) σ5)))))))))) :
    L_X5_append_3 C sc P x1 x2 σ := by
  unfold L_X5_append_3
  refine w_iload_n dX5_append_3 rfl (List.Mem.tail _ (List.Mem.tail _ (List.Mem.head _))) ?_
  refine i_if_lt (tgt := 46) dX5_append_4 rfl rx2 (fun c9 => ?_) (fun c9 => ?_)
  · replace h := h.1 c9
    exact w_vret dX5_append_46 rfl h
  · replace h := h.2 c9
    refine w_aload_n dX5_append_7 rfl (List.Mem.head _) ?_
    refine i_getI (ci := 5) 1 rfl dX5_append_8 fl_5_15 (by decide) (gT hG rfl (lt_of rfl)) ?_
    refine w_sipush (v := nZ 600) dX5_append_11 (by decide) ?_
    refine i_cmp_ge (tgt := 46) dX5_append_14 rfl (rI_R _ _ _) (by decide) (fun c9 => ?_) (fun c9 => ?_)
    · replace h := h.1 c9
      exact w_vret dX5_append_46 rfl h
    · replace h := h.2 c9
      refine w_aload_n dX5_append_17 rfl (List.Mem.head _) ?_
      refine w_getR (ci := 5) (k := 0) (b := 2) dX5_append_18 fl_5_9 (by decide) (gT hG rfl (lt_of rfl)) (gR hG (b := 2) rfl) ?_
      refine w_aload_n dX5_append_21 rfl (List.Mem.head _) ?_
      refine i_getI (ci := 5) 1 rfl dX5_append_22 fl_5_15 (by decide) (gT hG rfl (lt_of rfl)) ?_
      refine w_iload_n dX5_append_25 rfl (List.Mem.tail _ (List.Mem.head _)) ?_
      refine w_iload_n dX5_append_26 rfl (List.Mem.tail _ (List.Mem.tail _ (List.Mem.head _))) ?_
      refine i_ushr dX5_append_27 ?_
      refine i_2b dX5_append_28 ?_
      obtain ⟨h9, h⟩ := h
      refine i_bast (n := 600) dX5_append_29 (gT hG rfl (lt_of rfl)) (gL hG rfl) (rI_R _ _ _) h9 (fun σ1 eσ2 => ?_)
      replace h := h σ1 eσ2
      have hG3 : G σ1 u := eσ2 ▸ G.wI hG
      refine w_aload_n dX5_append_30 rfl (List.Mem.head _) ?_
      refine w_dup dX5_append_31 rfl ?_
      refine i_getI (ci := 5) 1 rfl dX5_append_32 fl_5_15 (by decide) (gT hG3 rfl (lt_of rfl)) ?_
      refine w_iconst (v := nZ 1) dX5_append_35 (by decide) ?_
      obtain ⟨q4, h⟩ := h
      refine i_add dX5_append_36 ?_
      refine i_putI (ci := 5) 1 rfl dX5_append_37 fl_5_15 (by decide) (gT hG3 rfl (lt_of rfl)) (fun σ5 eσ6 => ?_)
      replace h := h σ5 eσ6
      have hG7 : G σ5 u := eσ6 ▸ G.wI hG3
      obtain ⟨q8, h⟩ := h
      refine w_iinc (v := nZ (x2 + (-8))) (l' := [(2, .int (nZ (x2 + (-8)))), (0, .ref 1), (1, .int (nZ x1))]) dX5_append_40 (List.Mem.tail _ (List.Mem.tail _ (List.Mem.head _))) (nZ_add _ _) (by decide) rfl ?_
      refine w_goto (tgt := 3) dX5_append_43 rfl ?_
      exact w_weak (l' := [(0, .ref 1), (1, .int (nZ x1)), (2, .int (nZ (x2 + (-8))))]) (by intro q hq; simp only [List.mem_cons, List.not_mem_nil, or_false] at hq ⊢; rcases hq with rfl | rfl | rfl <;> simp) h
theorem dX5_read_0 : decode cX5_read 0 = .ok (.aload_n 0, 1) := by decide +kernel
theorem dX5_read_1 : decode cX5_read 1 = .ok (.iload_n 1, 1) := by decide +kernel
theorem dX5_read_2 : decode cX5_read 2 = .ok (.aload_n 0, 1) := by decide +kernel
theorem dX5_read_3 : decode cX5_read 3 = .ok (.getfield 15, 3) := by decide +kernel
theorem dX5_read_6 : decode cX5_read 6 = .ok (.invokestatic 40, 3) := by decide +kernel
theorem dX5_read_9 : decode cX5_read 9 = .ok (.putfield 19, 3) := by decide +kernel
theorem dX5_read_12 : decode cX5_read 12 = .ok (.aload_n 0, 1) := by decide +kernel
theorem dX5_read_13 : decode cX5_read 13 = .ok (.iconst 0, 1) := by decide +kernel
theorem dX5_read_14 : decode cX5_read 14 = .ok (.putfield 15, 3) := by decide +kernel
theorem dX5_read_17 : decode cX5_read 17 = .ok (.aload_n 0, 1) := by decide +kernel
theorem dX5_read_18 : decode cX5_read 18 = .ok (.iconst 0, 1) := by decide +kernel
theorem dX5_read_19 : decode cX5_read 19 = .ok (.putfield 22, 3) := by decide +kernel
theorem dX5_read_22 : decode cX5_read 22 = .ok (.aload_n 0, 1) := by decide +kernel
theorem dX5_read_23 : decode cX5_read 23 = .ok (.iconst 0, 1) := by decide +kernel
theorem dX5_read_24 : decode cX5_read 24 = .ok (.putfield 25, 3) := by decide +kernel
theorem dX5_read_27 : decode cX5_read 27 = .ok (.aload_n 0, 1) := by decide +kernel
theorem dX5_read_28 : decode cX5_read 28 = .ok (.iconst (-1), 1) := by decide +kernel
theorem dX5_read_29 : decode cX5_read 29 = .ok (.putfield 28, 3) := by decide +kernel
theorem dX5_read_32 : decode cX5_read 32 = .ok (.aload_n 0, 1) := by decide +kernel
theorem dX5_read_33 : decode cX5_read 33 = .ok (.iconst 0, 1) := by decide +kernel
theorem dX5_read_34 : decode cX5_read 34 = .ok (.putfield 31, 3) := by decide +kernel
theorem dX5_read_37 : decode cX5_read 37 = .ok (.aload_n 0, 1) := by decide +kernel
theorem dX5_read_38 : decode cX5_read 38 = .ok (.iconst 0, 1) := by decide +kernel
theorem dX5_read_39 : decode cX5_read 39 = .ok (.putfield 34, 3) := by decide +kernel
theorem dX5_read_42 : decode cX5_read 42 = .ok (.aload_n 0, 1) := by decide +kernel
theorem dX5_read_43 : decode cX5_read 43 = .ok (.iconst 0, 1) := by decide +kernel
theorem dX5_read_44 : decode cX5_read 44 = .ok (.putfield 37, 3) := by decide +kernel
theorem dX5_read_47 : decode cX5_read 47 = .ok (.aload_n 2, 1) := by decide +kernel
theorem dX5_read_48 : decode cX5_read 48 = .ok (.invokevirtual 46, 3) := by decide +kernel
theorem dX5_read_51 : decode cX5_read 51 = .ok (.aload_n 0, 1) := by decide +kernel
theorem dX5_read_52 : decode cX5_read 52 = .ok (.invokevirtual 51, 3) := by decide +kernel
theorem dX5_read_55 : decode cX5_read 55 = .ok (.iconst 0, 1) := by decide +kernel
theorem dX5_read_56 : decode cX5_read 56 = .ok (.istore_n 3, 1) := by decide +kernel
theorem dX5_read_57 : decode cX5_read 57 = .ok (.iload_n 3, 1) := by decide +kernel
theorem dX5_read_58 : decode cX5_read 58 = .ok (.bipush 60, 2) := by decide +kernel
theorem dX5_read_60 : decode cX5_read 60 = .ok (.if_icmp .gt 36, 3) := by decide +kernel
theorem dX5_read_63 : decode cX5_read 63 = .ok (.aload_n 0, 1) := by decide +kernel
theorem dX5_read_64 : decode cX5_read 64 = .ok (.getfield 22, 3) := by decide +kernel
theorem dX5_read_67 : decode cX5_read 67 = .ok (.aload_n 0, 1) := by decide +kernel
theorem dX5_read_68 : decode cX5_read 68 = .ok (.getfield 19, 3) := by decide +kernel
theorem dX5_read_71 : decode cX5_read 71 = .ok (.if_icmp .ge 25, 3) := by decide +kernel
theorem dX5_read_74 : decode cX5_read 74 = .ok (.aload_n 0, 1) := by decide +kernel
theorem dX5_read_75 : decode cX5_read 75 = .ok (.getfield 25, 3) := by decide +kernel
theorem dX5_read_78 : decode cX5_read 78 = .ok (.ifCond .ne 18, 3) := by decide +kernel
theorem dX5_read_81 : decode cX5_read 81 = .ok (.aload_n 0, 1) := by decide +kernel
theorem dX5_read_82 : decode cX5_read 82 = .ok (.aload_n 2, 1) := by decide +kernel
theorem dX5_read_83 : decode cX5_read 83 = .ok (.invokevirtual 54, 3) := by decide +kernel
theorem dX5_read_86 : decode cX5_read 86 = .ok (.aload_n 0, 1) := by decide +kernel
theorem dX5_read_87 : decode cX5_read 87 = .ok (.invokevirtual 51, 3) := by decide +kernel
theorem dX5_read_90 : decode cX5_read 90 = .ok (.iinc 3 1, 3) := by decide +kernel
theorem dX5_read_93 : decode cX5_read 93 = .ok (.goto (-36), 3) := by decide +kernel
theorem dX5_read_96 : decode cX5_read 96 = .ok (.aload_n 0, 1) := by decide +kernel
theorem dX5_read_97 : decode cX5_read 97 = .ok (.getfield 25, 3) := by decide +kernel
theorem dX5_read_100 : decode cX5_read 100 = .ok (.ireturn, 1) := by decide +kernel
def L_X5_read_57 (C : aM → List Value → aH → aO → aH → Prop) (sc : Nat × (Nat → Int32)) (P : aO → aH → Prop) (v : Nat) (x1 : Int) (x3 : Int) (σ : aH) : Prop :=
    wp C 5 cX5_read 4 (some .int) false [] sc P 57 [(0, .ref 1), (1, .int (nZ x1)), (2, .ref v), (3, .int (nZ x3))] [] σ
set_option maxRecDepth 10000 in
theorem t_X5_read {sc : Nat × (Nat → Int32)} {d : Nat} {Q : aO → aH → Prop} {σ : aH} {u : Nat} {v : Nat} {x1 : Int} (hG : G σ u) (hv : IsMk v) (rx1 : inR x1)
    (h : (∀ z1 : Int, z1 = min x1 (rI σ 1 1) → (∀ σ4 : aH, wI σ 1 2 z1 = σ4 → (∀ σ7 : aH, wI σ4 1 1 0 = σ7 → (∀ σ10 : aH, wI σ7 1 3 0 = σ10 → (∀ σ13 : aH, wI σ10 1 4 0 = σ13 → (∀ σ16 : aH, wI σ13 1 5 (-1) = σ16 → (∀ σ19 : aH, wI σ16 1 6 0 = σ19 → (∀ σ22 : aH, wI σ19 1 7 0 = σ22 → (∀ σ25 : aH, wI σ22 1 8 0 = σ25 → (∃ σ28 : aH, Ev sc d mX2_clear [.ref v] σ25 (.inl none) σ28 ∧ G σ28 u ∧ (∃ σ32 : aH, Ev sc d mX5_skipBlanks [.ref 1] σ28 (.inl none) σ32 ∧ G σ32 u ∧ L_X5_read_57 (Ev sc d) sc Q v x1 0 σ32)))))))))))) :
    T sc (d + 1) mX5_read [.ref 1, .int (nZ x1), .ref v] σ Q := by
  refine T.of (c := 5) (code := cX5_read) (mL := 4) (rt := (some .int)) (ini := false) (l := [(0, .ref 1), (1, .int (nZ x1)), (2, .ref v)]) rfl rfl rfl rfl (by decide) hs_X5_read rfl rfl ?_
  refine w_aload_n dX5_read_0 rfl (List.Mem.head _) ?_
  refine w_iload_n dX5_read_1 rfl (List.Mem.tail _ (List.Mem.head _)) ?_
  refine w_aload_n dX5_read_2 rfl (List.Mem.head _) ?_
  refine i_getI (ci := 5) 1 rfl dX5_read_3 fl_5_15 (by decide) (gT hG rfl (lt_of rfl)) ?_
  refine i_mmin dX5_read_6 lk_5_40 (Nat.le_of_ble_eq_true rfl) rx1 (rI_R _ _ _) (fun z1 ez2 rz3 => ?_)
  replace h := h z1 ez2
  refine i_putI (ci := 5) 2 rfl dX5_read_9 fl_5_19 (by decide) (gT hG rfl (lt_of rfl)) (fun σ4 eσ5 => ?_)
  replace h := h σ4 eσ5
  have hG6 : G σ4 u := eσ5 ▸ G.wI hG
  refine w_aload_n dX5_read_12 rfl (List.Mem.head _) ?_
  refine w_iconst (v := nZ 0) dX5_read_13 (by decide) ?_
  refine i_putI (ci := 5) 1 rfl dX5_read_14 fl_5_15 (by decide) (gT hG6 rfl (lt_of rfl)) (fun σ7 eσ8 => ?_)
  replace h := h σ7 eσ8
  have hG9 : G σ7 u := eσ8 ▸ G.wI hG6
  refine w_aload_n dX5_read_17 rfl (List.Mem.head _) ?_
  refine w_iconst (v := nZ 0) dX5_read_18 (by decide) ?_
  refine i_putI (ci := 5) 3 rfl dX5_read_19 fl_5_22 (by decide) (gT hG9 rfl (lt_of rfl)) (fun σ10 eσ11 => ?_)
  replace h := h σ10 eσ11
  have hG12 : G σ10 u := eσ11 ▸ G.wI hG9
  refine w_aload_n dX5_read_22 rfl (List.Mem.head _) ?_
  refine w_iconst (v := nZ 0) dX5_read_23 (by decide) ?_
  refine i_putI (ci := 5) 4 rfl dX5_read_24 fl_5_25 (by decide) (gT hG12 rfl (lt_of rfl)) (fun σ13 eσ14 => ?_)
  replace h := h σ13 eσ14
  have hG15 : G σ13 u := eσ14 ▸ G.wI hG12
  refine w_aload_n dX5_read_27 rfl (List.Mem.head _) ?_
  refine w_iconst (v := nZ (-1)) dX5_read_28 (by decide) ?_
  refine i_putI (ci := 5) 5 rfl dX5_read_29 fl_5_28 (by decide) (gT hG15 rfl (lt_of rfl)) (fun σ16 eσ17 => ?_)
  replace h := h σ16 eσ17
  have hG18 : G σ16 u := eσ17 ▸ G.wI hG15
  refine w_aload_n dX5_read_32 rfl (List.Mem.head _) ?_
  refine w_iconst (v := nZ 0) dX5_read_33 (by decide) ?_
  refine i_putI (ci := 5) 6 rfl dX5_read_34 fl_5_31 (by decide) (gT hG18 rfl (lt_of rfl)) (fun σ19 eσ20 => ?_)
  replace h := h σ19 eσ20
  have hG21 : G σ19 u := eσ20 ▸ G.wI hG18
  refine w_aload_n dX5_read_37 rfl (List.Mem.head _) ?_
  refine w_iconst (v := nZ 0) dX5_read_38 (by decide) ?_
  refine i_putI (ci := 5) 7 rfl dX5_read_39 fl_5_34 (by decide) (gT hG21 rfl (lt_of rfl)) (fun σ22 eσ23 => ?_)
  replace h := h σ22 eσ23
  have hG24 : G σ22 u := eσ23 ▸ G.wI hG21
  refine w_aload_n dX5_read_42 rfl (List.Mem.head _) ?_
  refine w_iconst (v := nZ 0) dX5_read_43 (by decide) ?_
  refine i_putI (ci := 5) 8 rfl dX5_read_44 fl_5_37 (by decide) (gT hG24 rfl (lt_of rfl)) (fun σ25 eσ26 => ?_)
  replace h := h σ25 eσ26
  have hG27 : G σ25 u := eσ26 ▸ G.wI hG24
  refine w_aload_n dX5_read_47 rfl (List.Mem.tail _ (List.Mem.tail _ (List.Mem.head _))) ?_
  obtain ⟨σ28, hc30, hG29, h⟩ := h
  refine w_callV dX5_read_48 ml_5_46 ⟨ok_X2_clear, vi_X2_clear⟩ hs_X2_clear (As := []) rfl rfl (gT hG27 (IsMk_t0 hv) (IsMk_lt hv (k := 0) (by decide))) (Nat.le_of_ble_eq_true rfl) hc30 ?_
  show wp (Ev sc d) 5 cX5_read 4 (some .int) false [] sc Q 51 [(0, .ref 1), (1, .int (nZ x1)), (2, .ref v)] [] σ28
  refine w_aload_n dX5_read_51 rfl (List.Mem.head _) ?_
  obtain ⟨σ32, hc34, hG33, h⟩ := h
  refine w_callV dX5_read_52 ml_5_51 ⟨ok_X5_skipBlanks, vi_X5_skipBlanks⟩ hs_X5_skipBlanks (As := []) rfl rfl (gT hG29 rfl (lt_of rfl)) (Nat.le_of_ble_eq_true rfl) hc34 ?_
  show wp (Ev sc d) 5 cX5_read 4 (some .int) false [] sc Q 55 [(0, .ref 1), (1, .int (nZ x1)), (2, .ref v)] [] σ32
  refine w_iconst (v := nZ 0) dX5_read_55 (by decide) ?_
  refine w_istore_n (l' := [(3, .int (nZ 0)), (0, .ref 1), (1, .int (nZ x1)), (2, .ref v)]) dX5_read_56 rfl (by decide) rfl ?_
  exact w_weak (l' := [(0, .ref 1), (1, .int (nZ x1)), (2, .ref v), (3, .int (nZ 0))]) (by intro q hq; simp only [List.mem_cons, List.not_mem_nil, or_false] at hq ⊢; rcases hq with rfl | rfl | rfl | rfl <;> simp) h
set_option maxRecDepth 10000 in
theorem v_X5_read_57 {C : aM → List Value → aH → aO → aH → Prop} {sc : Nat × (Nat → Int32)} {P : aO → aH → Prop} {σ : aH} {u : Nat} {v : Nat} {x1 : Int} {x3 : Int} (hG : G σ u) (hv : IsMk v) (rx1 : inR x1) (rx3 : inR x3)
    (h : ((60 < x3 → P (.inl (some (.int (nZ (rI σ 1 4))))) σ) ∧ (¬ (60 < x3) → (((rI σ 1 2) ≤ (rI σ 1 3) → P (.inl (some (.int (nZ (rI σ 1 4))))) σ) ∧ (¬ ((rI σ 1 2) ≤ (rI σ 1 3)) → ((¬ (rI σ 1 4) = 0 → P (.inl (some (.int (nZ (rI σ 1 4))))) σ) ∧ ((rI σ 1 4) = 0 → (∃ σ1 : aH, C mX5_readClause [.ref 1, .ref v] σ (.inl none) σ1 ∧ G σ1 u ∧ (∃ σ5 : aH, C mX5_skipBlanks [.ref 1] σ1 (.inl none) σ5 ∧ G σ5 u ∧ (inR (x3 + 1) ∧ L_X5_read_57 C sc P v x1 (x3 + 1) σ5)))))))))) :
    L_X5_read_57 C sc P v x1 x3 σ := by
  unfold L_X5_read_57
  refine w_iload_n dX5_read_57 rfl (List.Mem.tail _ (List.Mem.tail _ (List.Mem.tail _ (List.Mem.head _)))) ?_
  refine w_bipush (v := nZ 60) dX5_read_58 (by decide) ?_
  refine i_cmp_gt (tgt := 96) dX5_read_60 rfl rx3 (by decide) (fun c9 => ?_) (fun c9 => ?_)
  · replace h := h.1 c9
    refine w_aload_n dX5_read_96 rfl (List.Mem.head _) ?_
    refine i_getI (ci := 5) 4 rfl dX5_read_97 fl_5_25 (by decide) (gT hG rfl (lt_of rfl)) ?_
    exact w_iret dX5_read_100 rfl h
  · replace h := h.2 c9
    refine w_aload_n dX5_read_63 rfl (List.Mem.head _) ?_
    refine i_getI (ci := 5) 3 rfl dX5_read_64 fl_5_22 (by decide) (gT hG rfl (lt_of rfl)) ?_
    refine w_aload_n dX5_read_67 rfl (List.Mem.head _) ?_
    refine i_getI (ci := 5) 2 rfl dX5_read_68 fl_5_19 (by decide) (gT hG rfl (lt_of rfl)) ?_
    refine i_cmp_ge (tgt := 96) dX5_read_71 rfl (rI_R _ _ _) (rI_R _ _ _) (fun c9 => ?_) (fun c9 => ?_)
    · replace h := h.1 c9
      refine w_aload_n dX5_read_96 rfl (List.Mem.head _) ?_
      refine i_getI (ci := 5) 4 rfl dX5_read_97 fl_5_25 (by decide) (gT hG rfl (lt_of rfl)) ?_
      exact w_iret dX5_read_100 rfl h
    · replace h := h.2 c9
      refine w_aload_n dX5_read_74 rfl (List.Mem.head _) ?_
      refine i_getI (ci := 5) 4 rfl dX5_read_75 fl_5_25 (by decide) (gT hG rfl (lt_of rfl)) ?_
      refine i_if_ne (tgt := 96) dX5_read_78 rfl (rI_R _ _ _) (fun c9 => ?_) (fun c9 => ?_)
      · replace h := h.1 c9
        refine w_aload_n dX5_read_96 rfl (List.Mem.head _) ?_
        refine i_getI (ci := 5) 4 rfl dX5_read_97 fl_5_25 (by decide) (gT hG rfl (lt_of rfl)) ?_
        exact w_iret dX5_read_100 rfl h
      · replace h := h.2 c9
        refine w_aload_n dX5_read_81 rfl (List.Mem.head _) ?_
        refine w_aload_n dX5_read_82 rfl (List.Mem.tail _ (List.Mem.tail _ (List.Mem.head _))) ?_
        obtain ⟨σ1, hc3, hG2, h⟩ := h
        refine w_callV dX5_read_83 ml_5_54 ⟨ok_X5_readClause, vi_X5_readClause⟩ hs_X5_readClause (As := [.ref v]) rfl rfl (gT hG rfl (lt_of rfl)) (Nat.le_of_ble_eq_true rfl) hc3 ?_
        show wp C 5 cX5_read 4 (some .int) false [] sc P 86 [(0, .ref 1), (1, .int (nZ x1)), (2, .ref v), (3, .int (nZ x3))] [] σ1
        refine w_aload_n dX5_read_86 rfl (List.Mem.head _) ?_
        obtain ⟨σ5, hc7, hG6, h⟩ := h
        refine w_callV dX5_read_87 ml_5_51 ⟨ok_X5_skipBlanks, vi_X5_skipBlanks⟩ hs_X5_skipBlanks (As := []) rfl rfl (gT hG2 rfl (lt_of rfl)) (Nat.le_of_ble_eq_true rfl) hc7 ?_
        show wp C 5 cX5_read 4 (some .int) false [] sc P 90 [(0, .ref 1), (1, .int (nZ x1)), (2, .ref v), (3, .int (nZ x3))] [] σ5
        obtain ⟨q9, h⟩ := h
        refine w_iinc (v := nZ (x3 + 1)) (l' := [(3, .int (nZ (x3 + 1))), (0, .ref 1), (1, .int (nZ x1)), (2, .ref v)]) dX5_read_90 (List.Mem.tail _ (List.Mem.tail _ (List.Mem.tail _ (List.Mem.head _)))) (nZ_add _ _) (by decide) rfl ?_
        refine w_goto (tgt := 57) dX5_read_93 rfl ?_
        exact w_weak (l' := [(0, .ref 1), (1, .int (nZ x1)), (2, .ref v), (3, .int (nZ (x3 + 1)))]) (by intro q hq; simp only [List.mem_cons, List.not_mem_nil, or_false] at hq ⊢; rcases hq with rfl | rfl | rfl | rfl <;> simp) h
theorem dX5_blame_0 : decode cX5_blame 0 = .ok (.aload_n 0, 1) := by decide +kernel
theorem dX5_blame_1 : decode cX5_blame 1 = .ok (.getfield 25, 3) := by decide +kernel
theorem dX5_blame_4 : decode cX5_blame 4 = .ok (.ifCond .ne 13, 3) := by decide +kernel
theorem dX5_blame_7 : decode cX5_blame 7 = .ok (.aload_n 0, 1) := by decide +kernel
theorem dX5_blame_8 : decode cX5_blame 8 = .ok (.iload_n 1, 1) := by decide +kernel
theorem dX5_blame_9 : decode cX5_blame 9 = .ok (.putfield 25, 3) := by decide +kernel
theorem dX5_blame_12 : decode cX5_blame 12 = .ok (.aload_n 0, 1) := by decide +kernel
theorem dX5_blame_13 : decode cX5_blame 13 = .ok (.iload_n 2, 1) := by decide +kernel
theorem dX5_blame_14 : decode cX5_blame 14 = .ok (.putfield 28, 3) := by decide +kernel
theorem dX5_blame_17 : decode cX5_blame 17 = .ok (.return_, 1) := by decide +kernel
set_option maxRecDepth 10000 in
theorem t_X5_blame {sc : Nat × (Nat → Int32)} {d : Nat} {Q : aO → aH → Prop} {σ : aH} {u : Nat}  {x1 : Int} {x2 : Int} (hG : G σ u) (rx1 : inR x1) (rx2 : inR x2)
    (h : ((¬ (rI σ 1 4) = 0 → Q (.inl none) σ) ∧ ((rI σ 1 4) = 0 → (∀ σ1 : aH, wI σ 1 4 x1 = σ1 → (∀ σ4 : aH, wI σ1 1 5 x2 = σ4 → Q (.inl none) σ4))))) :
    T sc (d + 1) mX5_blame [.ref 1, .int (nZ x1), .int (nZ x2)] σ Q := by
  refine T.of (c := 5) (code := cX5_blame) (mL := 3) (rt := none) (ini := false) (l := [(0, .ref 1), (1, .int (nZ x1)), (2, .int (nZ x2))]) rfl rfl rfl rfl (by decide) hs_X5_blame rfl rfl ?_
  refine w_aload_n dX5_blame_0 rfl (List.Mem.head _) ?_
  refine i_getI (ci := 5) 4 rfl dX5_blame_1 fl_5_25 (by decide) (gT hG rfl (lt_of rfl)) ?_
  refine i_if_ne (tgt := 17) dX5_blame_4 rfl (rI_R _ _ _) (fun c9 => ?_) (fun c9 => ?_)
  · replace h := h.1 c9
    exact w_vret dX5_blame_17 rfl h
  · replace h := h.2 c9
    refine w_aload_n dX5_blame_7 rfl (List.Mem.head _) ?_
    refine w_iload_n dX5_blame_8 rfl (List.Mem.tail _ (List.Mem.head _)) ?_
    refine i_putI (ci := 5) 4 rfl dX5_blame_9 fl_5_25 (by decide) (gT hG rfl (lt_of rfl)) (fun σ1 eσ2 => ?_)
    replace h := h σ1 eσ2
    have hG3 : G σ1 u := eσ2 ▸ G.wI hG
    refine w_aload_n dX5_blame_12 rfl (List.Mem.head _) ?_
    refine w_iload_n dX5_blame_13 rfl (List.Mem.tail _ (List.Mem.tail _ (List.Mem.head _))) ?_
    refine i_putI (ci := 5) 5 rfl dX5_blame_14 fl_5_28 (by decide) (gT hG3 rfl (lt_of rfl)) (fun σ4 eσ5 => ?_)
    replace h := h σ4 eσ5
    have hG6 : G σ4 u := eσ5 ▸ G.wI hG3
    exact w_vret dX5_blame_17 rfl h
theorem dX5_here_0 : decode cX5_here 0 = .ok (.aload_n 0, 1) := by decide +kernel
theorem dX5_here_1 : decode cX5_here 1 = .ok (.getfield 22, 3) := by decide +kernel
theorem dX5_here_4 : decode cX5_here 4 = .ok (.aload_n 0, 1) := by decide +kernel
theorem dX5_here_5 : decode cX5_here 5 = .ok (.getfield 19, 3) := by decide +kernel
theorem dX5_here_8 : decode cX5_here 8 = .ok (.if_icmp .ge 15, 3) := by decide +kernel
theorem dX5_here_11 : decode cX5_here 11 = .ok (.aload_n 0, 1) := by decide +kernel
theorem dX5_here_12 : decode cX5_here 12 = .ok (.getfield 9, 3) := by decide +kernel
theorem dX5_here_15 : decode cX5_here 15 = .ok (.aload_n 0, 1) := by decide +kernel
theorem dX5_here_16 : decode cX5_here 16 = .ok (.getfield 22, 3) := by decide +kernel
theorem dX5_here_19 : decode cX5_here 19 = .ok (.baload, 1) := by decide +kernel
theorem dX5_here_20 : decode cX5_here 20 = .ok (.goto 4, 3) := by decide +kernel
theorem dX5_here_23 : decode cX5_here 23 = .ok (.iconst 0, 1) := by decide +kernel
theorem dX5_here_24 : decode cX5_here 24 = .ok (.ireturn, 1) := by decide +kernel
set_option maxRecDepth 10000 in
theorem t_X5_here {sc : Nat × (Nat → Int32)} {d : Nat} {Q : aO → aH → Prop} {σ : aH} {u : Nat}   (hG : G σ u) 
    (h : (((rI σ 1 2) ≤ (rI σ 1 3) → Q (.inl (some (.int (nZ 0)))) σ) ∧ (¬ ((rI σ 1 2) ≤ (rI σ 1 3)) → ((0 ≤ (rI σ 1 3) ∧ (rI σ 1 3) < 600) ∧ Q (.inl (some (.int (nZ (rI σ 2 (rI σ 1 3)))))) σ)))) :
    T sc (d + 1) mX5_here [.ref 1] σ Q := by
  refine T.of (c := 5) (code := cX5_here) (mL := 1) (rt := (some .int)) (ini := false) (l := [(0, .ref 1)]) rfl rfl rfl rfl (by decide) hs_X5_here rfl rfl ?_
  refine w_aload_n dX5_here_0 rfl (List.Mem.head _) ?_
  refine i_getI (ci := 5) 3 rfl dX5_here_1 fl_5_22 (by decide) (gT hG rfl (lt_of rfl)) ?_
  refine w_aload_n dX5_here_4 rfl (List.Mem.head _) ?_
  refine i_getI (ci := 5) 2 rfl dX5_here_5 fl_5_19 (by decide) (gT hG rfl (lt_of rfl)) ?_
  refine i_cmp_ge (tgt := 23) dX5_here_8 rfl (rI_R _ _ _) (rI_R _ _ _) (fun c9 => ?_) (fun c9 => ?_)
  · replace h := h.1 c9
    refine w_iconst (v := nZ 0) dX5_here_23 (by decide) ?_
    exact w_iret dX5_here_24 rfl h
  · replace h := h.2 c9
    refine w_aload_n dX5_here_11 rfl (List.Mem.head _) ?_
    refine w_getR (ci := 5) (k := 0) (b := 2) dX5_here_12 fl_5_9 (by decide) (gT hG rfl (lt_of rfl)) (gR hG (b := 2) rfl) ?_
    refine w_aload_n dX5_here_15 rfl (List.Mem.head _) ?_
    refine i_getI (ci := 5) 3 rfl dX5_here_16 fl_5_22 (by decide) (gT hG rfl (lt_of rfl)) ?_
    obtain ⟨h9, h⟩ := h
    refine i_bald (n := 600) dX5_here_19 (gT hG rfl (lt_of rfl)) (gL hG rfl) (rI_R _ _ _) h9 ?_
    refine w_goto (tgt := 24) dX5_here_20 rfl ?_
    exact w_iret dX5_here_24 rfl h
theorem dX5_skipBlanks_0 : decode cX5_skipBlanks 0 = .ok (.aload_n 0, 1) := by decide +kernel
theorem dX5_skipBlanks_1 : decode cX5_skipBlanks 1 = .ok (.getfield 22, 3) := by decide +kernel
theorem dX5_skipBlanks_4 : decode cX5_skipBlanks 4 = .ok (.aload_n 0, 1) := by decide +kernel
theorem dX5_skipBlanks_5 : decode cX5_skipBlanks 5 = .ok (.getfield 19, 3) := by decide +kernel
theorem dX5_skipBlanks_8 : decode cX5_skipBlanks 8 = .ok (.if_icmp .ge 25, 3) := by decide +kernel
theorem dX5_skipBlanks_11 : decode cX5_skipBlanks 11 = .ok (.aload_n 0, 1) := by decide +kernel
theorem dX5_skipBlanks_12 : decode cX5_skipBlanks 12 = .ok (.invokevirtual 58, 3) := by decide +kernel
theorem dX5_skipBlanks_15 : decode cX5_skipBlanks 15 = .ok (.bipush 32, 2) := by decide +kernel
theorem dX5_skipBlanks_17 : decode cX5_skipBlanks 17 = .ok (.if_icmp .ne 16, 3) := by decide +kernel
theorem dX5_skipBlanks_20 : decode cX5_skipBlanks 20 = .ok (.aload_n 0, 1) := by decide +kernel
theorem dX5_skipBlanks_21 : decode cX5_skipBlanks 21 = .ok (.dup, 1) := by decide +kernel
theorem dX5_skipBlanks_22 : decode cX5_skipBlanks 22 = .ok (.getfield 22, 3) := by decide +kernel
theorem dX5_skipBlanks_25 : decode cX5_skipBlanks 25 = .ok (.iconst 1, 1) := by decide +kernel
theorem dX5_skipBlanks_26 : decode cX5_skipBlanks 26 = .ok (.iadd, 1) := by decide +kernel
theorem dX5_skipBlanks_27 : decode cX5_skipBlanks 27 = .ok (.putfield 22, 3) := by decide +kernel
theorem dX5_skipBlanks_30 : decode cX5_skipBlanks 30 = .ok (.goto (-30), 3) := by decide +kernel
theorem dX5_skipBlanks_33 : decode cX5_skipBlanks 33 = .ok (.return_, 1) := by decide +kernel
def L_X5_skipBlanks_0 (C : aM → List Value → aH → aO → aH → Prop) (sc : Nat × (Nat → Int32)) (P : aO → aH → Prop)  (σ : aH) : Prop :=
    wp C 5 cX5_skipBlanks 1 none false [] sc P 0 [(0, .ref 1)] [] σ
set_option maxRecDepth 10000 in
theorem v_X5_skipBlanks_0 {C : aM → List Value → aH → aO → aH → Prop} {sc : Nat × (Nat → Int32)} {P : aO → aH → Prop} {σ : aH} {u : Nat}   (hG : G σ u) 
    (h : (((rI σ 1 2) ≤ (rI σ 1 3) → P (.inl none) σ) ∧ (¬ ((rI σ 1 2) ≤ (rI σ 1 3)) → (∃ (r5 : Int) (σ1 : aH), C mX5_here [.ref 1] σ (.inl (some (.int (nZ r5)))) σ1 ∧ G σ1 u ∧ inR r5 ∧ ((¬ r5 = 32 → P (.inl none) σ1) ∧ (r5 = 32 → (inR ((rI σ1 1 3) + 1) ∧ (∀ σ7 : aH, wI σ1 1 3 ((rI σ1 1 3) + 1) = σ7 → L_X5_skipBlanks_0 C sc P  σ7)))))))) :
    L_X5_skipBlanks_0 C sc P  σ := by
  unfold L_X5_skipBlanks_0
  refine w_aload_n dX5_skipBlanks_0 rfl (List.Mem.head _) ?_
  refine i_getI (ci := 5) 3 rfl dX5_skipBlanks_1 fl_5_22 (by decide) (gT hG rfl (lt_of rfl)) ?_
  refine w_aload_n dX5_skipBlanks_4 rfl (List.Mem.head _) ?_
  refine i_getI (ci := 5) 2 rfl dX5_skipBlanks_5 fl_5_19 (by decide) (gT hG rfl (lt_of rfl)) ?_
  refine i_cmp_ge (tgt := 33) dX5_skipBlanks_8 rfl (rI_R _ _ _) (rI_R _ _ _) (fun c9 => ?_) (fun c9 => ?_)
  · replace h := h.1 c9
    exact w_vret dX5_skipBlanks_33 rfl h
  · replace h := h.2 c9
    refine w_aload_n dX5_skipBlanks_11 rfl (List.Mem.head _) ?_
    obtain ⟨r5, σ1, hc3, hG2, rr4, h⟩ := h
    refine w_callV dX5_skipBlanks_12 ml_5_58 ⟨ok_X5_here, vi_X5_here⟩ hs_X5_here (As := []) rfl rfl (gT hG rfl (lt_of rfl)) (Nat.le_of_ble_eq_true rfl) hc3 ?_
    show wp C 5 cX5_skipBlanks 1 none false [] sc P 15 [(0, .ref 1)] [.int (nZ r5)] σ1
    refine w_bipush (v := nZ 32) dX5_skipBlanks_15 (by decide) ?_
    refine i_cmp_ne (tgt := 33) dX5_skipBlanks_17 rfl rr4 (by decide) (fun c9 => ?_) (fun c9 => ?_)
    · replace h := h.1 c9
      exact w_vret dX5_skipBlanks_33 rfl h
    · replace h := h.2 c9
      refine w_aload_n dX5_skipBlanks_20 rfl (List.Mem.head _) ?_
      refine w_dup dX5_skipBlanks_21 rfl ?_
      refine i_getI (ci := 5) 3 rfl dX5_skipBlanks_22 fl_5_22 (by decide) (gT hG2 rfl (lt_of rfl)) ?_
      refine w_iconst (v := nZ 1) dX5_skipBlanks_25 (by decide) ?_
      obtain ⟨q6, h⟩ := h
      refine i_add dX5_skipBlanks_26 ?_
      refine i_putI (ci := 5) 3 rfl dX5_skipBlanks_27 fl_5_22 (by decide) (gT hG2 rfl (lt_of rfl)) (fun σ7 eσ8 => ?_)
      replace h := h σ7 eσ8
      have hG9 : G σ7 u := eσ8 ▸ G.wI hG2
      refine w_goto (tgt := 0) dX5_skipBlanks_30 rfl ?_
      exact h
theorem t_X5_skipBlanks {sc : Nat × (Nat → Int32)} {d : Nat} {Q : aO → aH → Prop} {σ : aH}  
    (h : L_X5_skipBlanks_0 (Ev sc d) sc Q  σ) :
    T sc (d + 1) mX5_skipBlanks [.ref 1] σ Q := T.of (c := 5) (code := cX5_skipBlanks) (mL := 1) (rt := none) (ini := false) (l := [(0, .ref 1)]) rfl rfl rfl rfl (by decide) hs_X5_skipBlanks rfl rfl h
theorem dX5_readClause_0 : decode cX5_readClause 0 = .ok (.aload_n 0, 1) := by decide +kernel
theorem dX5_readClause_1 : decode cX5_readClause 1 = .ok (.getfield 22, 3) := by decide +kernel
theorem dX5_readClause_4 : decode cX5_readClause 4 = .ok (.istore_n 2, 1) := by decide +kernel
theorem dX5_readClause_5 : decode cX5_readClause 5 = .ok (.aload_n 0, 1) := by decide +kernel
theorem dX5_readClause_6 : decode cX5_readClause 6 = .ok (.invokevirtual 62, 3) := by decide +kernel
theorem dX5_readClause_9 : decode cX5_readClause 9 = .ok (.istore_n 3, 1) := by decide +kernel
theorem dX5_readClause_10 : decode cX5_readClause 10 = .ok (.iload_n 3, 1) := by decide +kernel
theorem dX5_readClause_11 : decode cX5_readClause 11 = .ok (.iconst (-1), 1) := by decide +kernel
theorem dX5_readClause_12 : decode cX5_readClause 12 = .ok (.if_icmp .ne 12, 3) := by decide +kernel
theorem dX5_readClause_15 : decode cX5_readClause 15 = .ok (.aload_n 0, 1) := by decide +kernel
theorem dX5_readClause_16 : decode cX5_readClause 16 = .ok (.iconst 1, 1) := by decide +kernel
theorem dX5_readClause_17 : decode cX5_readClause 17 = .ok (.iload_n 2, 1) := by decide +kernel
theorem dX5_readClause_18 : decode cX5_readClause 18 = .ok (.invokevirtual 65, 3) := by decide +kernel
theorem dX5_readClause_21 : decode cX5_readClause 21 = .ok (.goto 70, 3) := by decide +kernel
theorem dX5_readClause_24 : decode cX5_readClause 24 = .ok (.aload_n 0, 1) := by decide +kernel
theorem dX5_readClause_25 : decode cX5_readClause 25 = .ok (.getfield 31, 3) := by decide +kernel
theorem dX5_readClause_28 : decode cX5_readClause 28 = .ok (.bipush 60, 2) := by decide +kernel
theorem dX5_readClause_30 : decode cX5_readClause 30 = .ok (.if_icmp .ge 12, 3) := by decide +kernel
theorem dX5_readClause_33 : decode cX5_readClause 33 = .ok (.aload_n 0, 1) := by decide +kernel
theorem dX5_readClause_34 : decode cX5_readClause 34 = .ok (.iload_n 3, 1) := by decide +kernel
theorem dX5_readClause_35 : decode cX5_readClause 35 = .ok (.aload_n 1, 1) := by decide +kernel
theorem dX5_readClause_36 : decode cX5_readClause 36 = .ok (.invokevirtual 69, 3) := by decide +kernel
theorem dX5_readClause_39 : decode cX5_readClause 39 = .ok (.ifCond .eq 12, 3) := by decide +kernel
theorem dX5_readClause_42 : decode cX5_readClause 42 = .ok (.aload_n 0, 1) := by decide +kernel
theorem dX5_readClause_43 : decode cX5_readClause 43 = .ok (.iconst 3, 1) := by decide +kernel
theorem dX5_readClause_44 : decode cX5_readClause 44 = .ok (.iload_n 2, 1) := by decide +kernel
theorem dX5_readClause_45 : decode cX5_readClause 45 = .ok (.invokevirtual 65, 3) := by decide +kernel
theorem dX5_readClause_48 : decode cX5_readClause 48 = .ok (.goto 43, 3) := by decide +kernel
theorem dX5_readClause_51 : decode cX5_readClause 51 = .ok (.iload_n 3, 1) := by decide +kernel
theorem dX5_readClause_52 : decode cX5_readClause 52 = .ok (.ifCond .ne 19, 3) := by decide +kernel
theorem dX5_readClause_55 : decode cX5_readClause 55 = .ok (.aload_n 0, 1) := by decide +kernel
theorem dX5_readClause_56 : decode cX5_readClause 56 = .ok (.getfield 31, 3) := by decide +kernel
theorem dX5_readClause_59 : decode cX5_readClause 59 = .ok (.ifCond .le 12, 3) := by decide +kernel
theorem dX5_readClause_62 : decode cX5_readClause 62 = .ok (.aload_n 0, 1) := by decide +kernel
theorem dX5_readClause_63 : decode cX5_readClause 63 = .ok (.iconst 4, 1) := by decide +kernel
theorem dX5_readClause_64 : decode cX5_readClause 64 = .ok (.iload_n 2, 1) := by decide +kernel
theorem dX5_readClause_65 : decode cX5_readClause 65 = .ok (.invokevirtual 65, 3) := by decide +kernel
theorem dX5_readClause_68 : decode cX5_readClause 68 = .ok (.goto 23, 3) := by decide +kernel
theorem dX5_readClause_71 : decode cX5_readClause 71 = .ok (.aload_n 0, 1) := by decide +kernel
theorem dX5_readClause_72 : decode cX5_readClause 72 = .ok (.iload_n 3, 1) := by decide +kernel
theorem dX5_readClause_73 : decode cX5_readClause 73 = .ok (.aload_n 1, 1) := by decide +kernel
theorem dX5_readClause_74 : decode cX5_readClause 74 = .ok (.invokevirtual 73, 3) := by decide +kernel
theorem dX5_readClause_77 : decode cX5_readClause 77 = .ok (.aload_n 0, 1) := by decide +kernel
theorem dX5_readClause_78 : decode cX5_readClause 78 = .ok (.invokevirtual 77, 3) := by decide +kernel
theorem dX5_readClause_81 : decode cX5_readClause 81 = .ok (.aload_n 0, 1) := by decide +kernel
theorem dX5_readClause_82 : decode cX5_readClause 82 = .ok (.dup, 1) := by decide +kernel
theorem dX5_readClause_83 : decode cX5_readClause 83 = .ok (.getfield 31, 3) := by decide +kernel
theorem dX5_readClause_86 : decode cX5_readClause 86 = .ok (.iconst 1, 1) := by decide +kernel
theorem dX5_readClause_87 : decode cX5_readClause 87 = .ok (.iadd, 1) := by decide +kernel
theorem dX5_readClause_88 : decode cX5_readClause 88 = .ok (.putfield 31, 3) := by decide +kernel
theorem dX5_readClause_91 : decode cX5_readClause 91 = .ok (.return_, 1) := by decide +kernel
set_option maxRecDepth 10000 in
theorem t_X5_readClause {sc : Nat × (Nat → Int32)} {d : Nat} {Q : aO → aH → Prop} {σ : aH} {u : Nat} {v : Nat}  (hG : G σ u) (hv : IsMk v)
    (h : (∀ z1 : Int, z1 = (rI σ 1 3) → (∃ (r8 : Int) (σ4 : aH), Ev sc d mX5_readWord [.ref 1] σ (.inl (some (.int (nZ r8)))) σ4 ∧ G σ4 u ∧ inR r8 ∧ ((¬ r8 = (-1) → ((60 ≤ (rI σ4 1 6) → (∃ σ9 : aH, Ev sc d mX5_blame [.ref 1, .int (nZ 3), .int (nZ z1)] σ4 (.inl none) σ9 ∧ G σ9 u ∧ Q (.inl none) σ9)) ∧ (¬ (60 ≤ (rI σ4 1 6)) → (∃ (r17 : Int) (σ13 : aH), Ev sc d mX5_isFull [.ref 1, .int (nZ r8), .ref v] σ4 (.inl (some (.int (nZ r17)))) σ13 ∧ G σ13 u ∧ inR r17 ∧ ((r17 = 0 → ((¬ r8 = 0 → (∃ σ18 : aH, Ev sc d mX5_readNumbers [.ref 1, .int (nZ r8), .ref v] σ13 (.inl none) σ18 ∧ G σ18 u ∧ (∃ σ22 : aH, Ev sc d mX5_readEnd [.ref 1] σ18 (.inl none) σ22 ∧ G σ22 u ∧ (inR ((rI σ22 1 6) + 1) ∧ (∀ σ27 : aH, wI σ22 1 6 ((rI σ22 1 6) + 1) = σ27 → Q (.inl none) σ27))))) ∧ (r8 = 0 → (((rI σ13 1 6) ≤ 0 → (∃ σ30 : aH, Ev sc d mX5_readNumbers [.ref 1, .int (nZ r8), .ref v] σ13 (.inl none) σ30 ∧ G σ30 u ∧ (∃ σ34 : aH, Ev sc d mX5_readEnd [.ref 1] σ30 (.inl none) σ34 ∧ G σ34 u ∧ (inR ((rI σ34 1 6) + 1) ∧ (∀ σ39 : aH, wI σ34 1 6 ((rI σ34 1 6) + 1) = σ39 → Q (.inl none) σ39))))) ∧ (¬ ((rI σ13 1 6) ≤ 0) → (∃ σ42 : aH, Ev sc d mX5_blame [.ref 1, .int (nZ 4), .int (nZ z1)] σ13 (.inl none) σ42 ∧ G σ42 u ∧ Q (.inl none) σ42)))))) ∧ (¬ (r17 = 0) → (∃ σ46 : aH, Ev sc d mX5_blame [.ref 1, .int (nZ 3), .int (nZ z1)] σ13 (.inl none) σ46 ∧ G σ46 u ∧ Q (.inl none) σ46))))))) ∧ (r8 = (-1) → (∃ σ50 : aH, Ev sc d mX5_blame [.ref 1, .int (nZ 1), .int (nZ z1)] σ4 (.inl none) σ50 ∧ G σ50 u ∧ Q (.inl none) σ50)))))) :
    T sc (d + 1) mX5_readClause [.ref 1, .ref v] σ Q := by
  refine T.of (c := 5) (code := cX5_readClause) (mL := 4) (rt := none) (ini := false) (l := [(0, .ref 1), (1, .ref v)]) rfl rfl rfl rfl (by decide) hs_X5_readClause rfl rfl ?_
  refine w_aload_n dX5_readClause_0 rfl (List.Mem.head _) ?_
  refine i_getI (ci := 5) 3 rfl dX5_readClause_1 fl_5_22 (by decide) (gT hG rfl (lt_of rfl)) ?_
  refine top_i (fun z1 ez2 => ?_)
  have rz3 : inR z1 := ez2 ▸ (rI_R _ _ _)
  replace h := h z1 ez2
  refine w_istore_n (l' := [(2, .int (nZ z1)), (0, .ref 1), (1, .ref v)]) dX5_readClause_4 rfl (by decide) rfl ?_
  refine w_aload_n dX5_readClause_5 rfl (List.Mem.tail _ (List.Mem.head _)) ?_
  obtain ⟨r8, σ4, hc6, hG5, rr7, h⟩ := h
  refine w_callV dX5_readClause_6 ml_5_62 ⟨ok_X5_readWord, vi_X5_readWord⟩ hs_X5_readWord (As := []) rfl rfl (gT hG rfl (lt_of rfl)) (Nat.le_of_ble_eq_true rfl) hc6 ?_
  show wp (Ev sc d) 5 cX5_readClause 4 none false [] sc Q 9 [(2, .int (nZ z1)), (0, .ref 1), (1, .ref v)] [.int (nZ r8)] σ4
  refine w_istore_n (l' := [(3, .int (nZ r8)), (2, .int (nZ z1)), (0, .ref 1), (1, .ref v)]) dX5_readClause_9 rfl (by decide) rfl ?_
  refine w_iload_n dX5_readClause_10 rfl (List.Mem.head _) ?_
  refine w_iconst (v := nZ (-1)) dX5_readClause_11 (by decide) ?_
  refine i_cmp_ne (tgt := 24) dX5_readClause_12 rfl rr7 (by decide) (fun c9 => ?_) (fun c9 => ?_)
  · replace h := h.1 c9
    refine w_aload_n dX5_readClause_24 rfl (List.Mem.tail _ (List.Mem.tail _ (List.Mem.head _))) ?_
    refine i_getI (ci := 5) 6 rfl dX5_readClause_25 fl_5_31 (by decide) (gT hG5 rfl (lt_of rfl)) ?_
    refine w_bipush (v := nZ 60) dX5_readClause_28 (by decide) ?_
    refine i_cmp_ge (tgt := 42) dX5_readClause_30 rfl (rI_R _ _ _) (by decide) (fun c9 => ?_) (fun c9 => ?_)
    · replace h := h.1 c9
      refine w_aload_n dX5_readClause_42 rfl (List.Mem.tail _ (List.Mem.tail _ (List.Mem.head _))) ?_
      refine w_iconst (v := nZ 3) dX5_readClause_43 (by decide) ?_
      refine w_iload_n dX5_readClause_44 rfl (List.Mem.tail _ (List.Mem.head _)) ?_
      obtain ⟨σ9, hc11, hG10, h⟩ := h
      refine w_callV dX5_readClause_45 ml_5_65 ⟨ok_X5_blame, vi_X5_blame⟩ hs_X5_blame (As := [.int (nZ 3), .int (nZ z1)]) rfl rfl (gT hG5 rfl (lt_of rfl)) (Nat.le_of_ble_eq_true rfl) hc11 ?_
      show wp (Ev sc d) 5 cX5_readClause 4 none false [] sc Q 48 [(3, .int (nZ r8)), (2, .int (nZ z1)), (0, .ref 1), (1, .ref v)] [] σ9
      refine w_goto (tgt := 91) dX5_readClause_48 rfl ?_
      exact w_vret dX5_readClause_91 rfl h
    · replace h := h.2 c9
      refine w_aload_n dX5_readClause_33 rfl (List.Mem.tail _ (List.Mem.tail _ (List.Mem.head _))) ?_
      refine w_iload_n dX5_readClause_34 rfl (List.Mem.head _) ?_
      refine w_aload_n dX5_readClause_35 rfl (List.Mem.tail _ (List.Mem.tail _ (List.Mem.tail _ (List.Mem.head _)))) ?_
      obtain ⟨r17, σ13, hc15, hG14, rr16, h⟩ := h
      refine w_callV dX5_readClause_36 ml_5_69 ⟨ok_X5_isFull, vi_X5_isFull⟩ hs_X5_isFull (As := [.int (nZ r8), .ref v]) rfl rfl (gT hG5 rfl (lt_of rfl)) (Nat.le_of_ble_eq_true rfl) hc15 ?_
      show wp (Ev sc d) 5 cX5_readClause 4 none false [] sc Q 39 [(3, .int (nZ r8)), (2, .int (nZ z1)), (0, .ref 1), (1, .ref v)] [.int (nZ r17)] σ13
      refine i_if_eq (tgt := 51) dX5_readClause_39 rfl rr16 (fun c9 => ?_) (fun c9 => ?_)
      · replace h := h.1 c9
        refine w_iload_n dX5_readClause_51 rfl (List.Mem.head _) ?_
        refine i_if_ne (tgt := 71) dX5_readClause_52 rfl rr7 (fun c9 => ?_) (fun c9 => ?_)
        · replace h := h.1 c9
          refine w_aload_n dX5_readClause_71 rfl (List.Mem.tail _ (List.Mem.tail _ (List.Mem.head _))) ?_
          refine w_iload_n dX5_readClause_72 rfl (List.Mem.head _) ?_
          refine w_aload_n dX5_readClause_73 rfl (List.Mem.tail _ (List.Mem.tail _ (List.Mem.tail _ (List.Mem.head _)))) ?_
          obtain ⟨σ18, hc20, hG19, h⟩ := h
          refine w_callV dX5_readClause_74 ml_5_73 ⟨ok_X5_readNumbers, vi_X5_readNumbers⟩ hs_X5_readNumbers (As := [.int (nZ r8), .ref v]) rfl rfl (gT hG14 rfl (lt_of rfl)) (Nat.le_of_ble_eq_true rfl) hc20 ?_
          show wp (Ev sc d) 5 cX5_readClause 4 none false [] sc Q 77 [(3, .int (nZ r8)), (2, .int (nZ z1)), (0, .ref 1), (1, .ref v)] [] σ18
          refine w_aload_n dX5_readClause_77 rfl (List.Mem.tail _ (List.Mem.tail _ (List.Mem.head _))) ?_
          obtain ⟨σ22, hc24, hG23, h⟩ := h
          refine w_callV dX5_readClause_78 ml_5_77 ⟨ok_X5_readEnd, vi_X5_readEnd⟩ hs_X5_readEnd (As := []) rfl rfl (gT hG19 rfl (lt_of rfl)) (Nat.le_of_ble_eq_true rfl) hc24 ?_
          show wp (Ev sc d) 5 cX5_readClause 4 none false [] sc Q 81 [(3, .int (nZ r8)), (2, .int (nZ z1)), (0, .ref 1), (1, .ref v)] [] σ22
          refine w_aload_n dX5_readClause_81 rfl (List.Mem.tail _ (List.Mem.tail _ (List.Mem.head _))) ?_
          refine w_dup dX5_readClause_82 rfl ?_
          refine i_getI (ci := 5) 6 rfl dX5_readClause_83 fl_5_31 (by decide) (gT hG23 rfl (lt_of rfl)) ?_
          refine w_iconst (v := nZ 1) dX5_readClause_86 (by decide) ?_
          obtain ⟨q26, h⟩ := h
          refine i_add dX5_readClause_87 ?_
          refine i_putI (ci := 5) 6 rfl dX5_readClause_88 fl_5_31 (by decide) (gT hG23 rfl (lt_of rfl)) (fun σ27 eσ28 => ?_)
          replace h := h σ27 eσ28
          have hG29 : G σ27 u := eσ28 ▸ G.wI hG23
          exact w_vret dX5_readClause_91 rfl h
        · replace h := h.2 c9
          refine w_aload_n dX5_readClause_55 rfl (List.Mem.tail _ (List.Mem.tail _ (List.Mem.head _))) ?_
          refine i_getI (ci := 5) 6 rfl dX5_readClause_56 fl_5_31 (by decide) (gT hG14 rfl (lt_of rfl)) ?_
          refine i_if_le (tgt := 71) dX5_readClause_59 rfl (rI_R _ _ _) (fun c9 => ?_) (fun c9 => ?_)
          · replace h := h.1 c9
            refine w_aload_n dX5_readClause_71 rfl (List.Mem.tail _ (List.Mem.tail _ (List.Mem.head _))) ?_
            refine w_iload_n dX5_readClause_72 rfl (List.Mem.head _) ?_
            refine w_aload_n dX5_readClause_73 rfl (List.Mem.tail _ (List.Mem.tail _ (List.Mem.tail _ (List.Mem.head _)))) ?_
            obtain ⟨σ30, hc32, hG31, h⟩ := h
            refine w_callV dX5_readClause_74 ml_5_73 ⟨ok_X5_readNumbers, vi_X5_readNumbers⟩ hs_X5_readNumbers (As := [.int (nZ r8), .ref v]) rfl rfl (gT hG14 rfl (lt_of rfl)) (Nat.le_of_ble_eq_true rfl) hc32 ?_
            show wp (Ev sc d) 5 cX5_readClause 4 none false [] sc Q 77 [(3, .int (nZ r8)), (2, .int (nZ z1)), (0, .ref 1), (1, .ref v)] [] σ30
            refine w_aload_n dX5_readClause_77 rfl (List.Mem.tail _ (List.Mem.tail _ (List.Mem.head _))) ?_
            obtain ⟨σ34, hc36, hG35, h⟩ := h
            refine w_callV dX5_readClause_78 ml_5_77 ⟨ok_X5_readEnd, vi_X5_readEnd⟩ hs_X5_readEnd (As := []) rfl rfl (gT hG31 rfl (lt_of rfl)) (Nat.le_of_ble_eq_true rfl) hc36 ?_
            show wp (Ev sc d) 5 cX5_readClause 4 none false [] sc Q 81 [(3, .int (nZ r8)), (2, .int (nZ z1)), (0, .ref 1), (1, .ref v)] [] σ34
            refine w_aload_n dX5_readClause_81 rfl (List.Mem.tail _ (List.Mem.tail _ (List.Mem.head _))) ?_
            refine w_dup dX5_readClause_82 rfl ?_
            refine i_getI (ci := 5) 6 rfl dX5_readClause_83 fl_5_31 (by decide) (gT hG35 rfl (lt_of rfl)) ?_
            refine w_iconst (v := nZ 1) dX5_readClause_86 (by decide) ?_
            obtain ⟨q38, h⟩ := h
            refine i_add dX5_readClause_87 ?_
            refine i_putI (ci := 5) 6 rfl dX5_readClause_88 fl_5_31 (by decide) (gT hG35 rfl (lt_of rfl)) (fun σ39 eσ40 => ?_)
            replace h := h σ39 eσ40
            have hG41 : G σ39 u := eσ40 ▸ G.wI hG35
            exact w_vret dX5_readClause_91 rfl h
          · replace h := h.2 c9
            refine w_aload_n dX5_readClause_62 rfl (List.Mem.tail _ (List.Mem.tail _ (List.Mem.head _))) ?_
            refine w_iconst (v := nZ 4) dX5_readClause_63 (by decide) ?_
            refine w_iload_n dX5_readClause_64 rfl (List.Mem.tail _ (List.Mem.head _)) ?_
            obtain ⟨σ42, hc44, hG43, h⟩ := h
            refine w_callV dX5_readClause_65 ml_5_65 ⟨ok_X5_blame, vi_X5_blame⟩ hs_X5_blame (As := [.int (nZ 4), .int (nZ z1)]) rfl rfl (gT hG14 rfl (lt_of rfl)) (Nat.le_of_ble_eq_true rfl) hc44 ?_
            show wp (Ev sc d) 5 cX5_readClause 4 none false [] sc Q 68 [(3, .int (nZ r8)), (2, .int (nZ z1)), (0, .ref 1), (1, .ref v)] [] σ42
            refine w_goto (tgt := 91) dX5_readClause_68 rfl ?_
            exact w_vret dX5_readClause_91 rfl h
      · replace h := h.2 c9
        refine w_aload_n dX5_readClause_42 rfl (List.Mem.tail _ (List.Mem.tail _ (List.Mem.head _))) ?_
        refine w_iconst (v := nZ 3) dX5_readClause_43 (by decide) ?_
        refine w_iload_n dX5_readClause_44 rfl (List.Mem.tail _ (List.Mem.head _)) ?_
        obtain ⟨σ46, hc48, hG47, h⟩ := h
        refine w_callV dX5_readClause_45 ml_5_65 ⟨ok_X5_blame, vi_X5_blame⟩ hs_X5_blame (As := [.int (nZ 3), .int (nZ z1)]) rfl rfl (gT hG14 rfl (lt_of rfl)) (Nat.le_of_ble_eq_true rfl) hc48 ?_
        show wp (Ev sc d) 5 cX5_readClause 4 none false [] sc Q 48 [(3, .int (nZ r8)), (2, .int (nZ z1)), (0, .ref 1), (1, .ref v)] [] σ46
        refine w_goto (tgt := 91) dX5_readClause_48 rfl ?_
        exact w_vret dX5_readClause_91 rfl h
  · replace h := h.2 c9
    refine w_aload_n dX5_readClause_15 rfl (List.Mem.tail _ (List.Mem.tail _ (List.Mem.head _))) ?_
    refine w_iconst (v := nZ 1) dX5_readClause_16 (by decide) ?_
    refine w_iload_n dX5_readClause_17 rfl (List.Mem.tail _ (List.Mem.head _)) ?_
    obtain ⟨σ50, hc52, hG51, h⟩ := h
    refine w_callV dX5_readClause_18 ml_5_65 ⟨ok_X5_blame, vi_X5_blame⟩ hs_X5_blame (As := [.int (nZ 1), .int (nZ z1)]) rfl rfl (gT hG5 rfl (lt_of rfl)) (Nat.le_of_ble_eq_true rfl) hc52 ?_
    show wp (Ev sc d) 5 cX5_readClause 4 none false [] sc Q 21 [(3, .int (nZ r8)), (2, .int (nZ z1)), (0, .ref 1), (1, .ref v)] [] σ50
    refine w_goto (tgt := 91) dX5_readClause_21 rfl ?_
    exact w_vret dX5_readClause_91 rfl h
theorem dX5_readWord_0 : decode cX5_readWord 0 = .ok (.aload_n 0, 1) := by decide +kernel
theorem dX5_readWord_1 : decode cX5_readWord 1 = .ok (.getfield 22, 3) := by decide +kernel
theorem dX5_readWord_4 : decode cX5_readWord 4 = .ok (.istore_n 1, 1) := by decide +kernel
theorem dX5_readWord_5 : decode cX5_readWord 5 = .ok (.aload_n 0, 1) := by decide +kernel
theorem dX5_readWord_6 : decode cX5_readWord 6 = .ok (.getfield 22, 3) := by decide +kernel
theorem dX5_readWord_9 : decode cX5_readWord 9 = .ok (.aload_n 0, 1) := by decide +kernel
theorem dX5_readWord_10 : decode cX5_readWord 10 = .ok (.getfield 19, 3) := by decide +kernel
theorem dX5_readWord_13 : decode cX5_readWord 13 = .ok (.if_icmp .ge 34, 3) := by decide +kernel
theorem dX5_readWord_16 : decode cX5_readWord 16 = .ok (.aload_n 0, 1) := by decide +kernel
theorem dX5_readWord_17 : decode cX5_readWord 17 = .ok (.invokevirtual 58, 3) := by decide +kernel
theorem dX5_readWord_20 : decode cX5_readWord 20 = .ok (.bipush 97, 2) := by decide +kernel
theorem dX5_readWord_22 : decode cX5_readWord 22 = .ok (.if_icmp .lt 25, 3) := by decide +kernel
theorem dX5_readWord_25 : decode cX5_readWord 25 = .ok (.aload_n 0, 1) := by decide +kernel
theorem dX5_readWord_26 : decode cX5_readWord 26 = .ok (.invokevirtual 58, 3) := by decide +kernel
theorem dX5_readWord_29 : decode cX5_readWord 29 = .ok (.bipush 122, 2) := by decide +kernel
theorem dX5_readWord_31 : decode cX5_readWord 31 = .ok (.if_icmp .gt 16, 3) := by decide +kernel
theorem dX5_readWord_34 : decode cX5_readWord 34 = .ok (.aload_n 0, 1) := by decide +kernel
theorem dX5_readWord_35 : decode cX5_readWord 35 = .ok (.dup, 1) := by decide +kernel
theorem dX5_readWord_36 : decode cX5_readWord 36 = .ok (.getfield 22, 3) := by decide +kernel
theorem dX5_readWord_39 : decode cX5_readWord 39 = .ok (.iconst 1, 1) := by decide +kernel
theorem dX5_readWord_40 : decode cX5_readWord 40 = .ok (.iadd, 1) := by decide +kernel
theorem dX5_readWord_41 : decode cX5_readWord 41 = .ok (.putfield 22, 3) := by decide +kernel
theorem dX5_readWord_44 : decode cX5_readWord 44 = .ok (.goto (-39), 3) := by decide +kernel
theorem dX5_readWord_47 : decode cX5_readWord 47 = .ok (.iconst 0, 1) := by decide +kernel
theorem dX5_readWord_48 : decode cX5_readWord 48 = .ok (.istore_n 2, 1) := by decide +kernel
theorem dX5_readWord_49 : decode cX5_readWord 49 = .ok (.iload_n 2, 1) := by decide +kernel
theorem dX5_readWord_50 : decode cX5_readWord 50 = .ok (.bipush 10, 2) := by decide +kernel
theorem dX5_readWord_52 : decode cX5_readWord 52 = .ok (.if_icmp .ge 23, 3) := by decide +kernel
theorem dX5_readWord_55 : decode cX5_readWord 55 = .ok (.aload_n 0, 1) := by decide +kernel
theorem dX5_readWord_56 : decode cX5_readWord 56 = .ok (.iload_n 2, 1) := by decide +kernel
theorem dX5_readWord_57 : decode cX5_readWord 57 = .ok (.invokestatic 80, 3) := by decide +kernel
theorem dX5_readWord_60 : decode cX5_readWord 60 = .ok (.iload_n 1, 1) := by decide +kernel
theorem dX5_readWord_61 : decode cX5_readWord 61 = .ok (.invokevirtual 84, 3) := by decide +kernel
theorem dX5_readWord_64 : decode cX5_readWord 64 = .ok (.ifCond .eq 5, 3) := by decide +kernel
theorem dX5_readWord_67 : decode cX5_readWord 67 = .ok (.iload_n 2, 1) := by decide +kernel
theorem dX5_readWord_68 : decode cX5_readWord 68 = .ok (.ireturn, 1) := by decide +kernel
theorem dX5_readWord_69 : decode cX5_readWord 69 = .ok (.iinc 2 1, 3) := by decide +kernel
theorem dX5_readWord_72 : decode cX5_readWord 72 = .ok (.goto (-23), 3) := by decide +kernel
theorem dX5_readWord_75 : decode cX5_readWord 75 = .ok (.iconst (-1), 1) := by decide +kernel
theorem dX5_readWord_76 : decode cX5_readWord 76 = .ok (.ireturn, 1) := by decide +kernel
def L_X5_readWord_5 (C : aM → List Value → aH → aO → aH → Prop) (sc : Nat × (Nat → Int32)) (P : aO → aH → Prop) (x1 : Int) (σ : aH) : Prop :=
    wp C 5 cX5_readWord 3 (some .int) false [] sc P 5 [(0, .ref 1), (1, .int (nZ x1))] [] σ
def L_X5_readWord_49 (C : aM → List Value → aH → aO → aH → Prop) (sc : Nat × (Nat → Int32)) (P : aO → aH → Prop) (x1 : Int) (x2 : Int) (σ : aH) : Prop :=
    wp C 5 cX5_readWord 3 (some .int) false [] sc P 49 [(0, .ref 1), (1, .int (nZ x1)), (2, .int (nZ x2))] [] σ
set_option maxRecDepth 10000 in
theorem t_X5_readWord {sc : Nat × (Nat → Int32)} {d : Nat} {Q : aO → aH → Prop} {σ : aH} {u : Nat}   (hG : G σ u) 
    (h : (∀ z1 : Int, z1 = (rI σ 1 3) → L_X5_readWord_5 (Ev sc d) sc Q z1 σ)) :
    T sc (d + 1) mX5_readWord [.ref 1] σ Q := by
  refine T.of (c := 5) (code := cX5_readWord) (mL := 3) (rt := (some .int)) (ini := false) (l := [(0, .ref 1)]) rfl rfl rfl rfl (by decide) hs_X5_readWord rfl rfl ?_
  refine w_aload_n dX5_readWord_0 rfl (List.Mem.head _) ?_
  refine i_getI (ci := 5) 3 rfl dX5_readWord_1 fl_5_22 (by decide) (gT hG rfl (lt_of rfl)) ?_
  refine top_i (fun z1 ez2 => ?_)
  have rz3 : inR z1 := ez2 ▸ (rI_R _ _ _)
  replace h := h z1 ez2
  refine w_istore_n (l' := [(1, .int (nZ z1)), (0, .ref 1)]) dX5_readWord_4 rfl (by decide) rfl ?_
  exact w_weak (l' := [(0, .ref 1), (1, .int (nZ z1))]) (by intro q hq; simp only [List.mem_cons, List.not_mem_nil, or_false] at hq ⊢; rcases hq with rfl | rfl <;> simp) h
set_option maxRecDepth 10000 in
theorem v_X5_readWord_5 {C : aM → List Value → aH → aO → aH → Prop} {sc : Nat × (Nat → Int32)} {P : aO → aH → Prop} {σ : aH} {u : Nat}  {x1 : Int} (hG : G σ u) (rx1 : inR x1)
    (h : (((rI σ 1 2) ≤ (rI σ 1 3) → L_X5_readWord_49 C sc P x1 0 σ) ∧ (¬ ((rI σ 1 2) ≤ (rI σ 1 3)) → (∃ (r5 : Int) (σ1 : aH), C mX5_here [.ref 1] σ (.inl (some (.int (nZ r5)))) σ1 ∧ G σ1 u ∧ inR r5 ∧ ((r5 < 97 → L_X5_readWord_49 C sc P x1 0 σ1) ∧ (¬ (r5 < 97) → (∃ (r10 : Int) (σ6 : aH), C mX5_here [.ref 1] σ1 (.inl (some (.int (nZ r10)))) σ6 ∧ G σ6 u ∧ inR r10 ∧ ((122 < r10 → L_X5_readWord_49 C sc P x1 0 σ6) ∧ (¬ (122 < r10) → (inR ((rI σ6 1 3) + 1) ∧ (∀ σ12 : aH, wI σ6 1 3 ((rI σ6 1 3) + 1) = σ12 → L_X5_readWord_5 C sc P x1 σ12))))))))))) :
    L_X5_readWord_5 C sc P x1 σ := by
  unfold L_X5_readWord_5
  refine w_aload_n dX5_readWord_5 rfl (List.Mem.head _) ?_
  refine i_getI (ci := 5) 3 rfl dX5_readWord_6 fl_5_22 (by decide) (gT hG rfl (lt_of rfl)) ?_
  refine w_aload_n dX5_readWord_9 rfl (List.Mem.head _) ?_
  refine i_getI (ci := 5) 2 rfl dX5_readWord_10 fl_5_19 (by decide) (gT hG rfl (lt_of rfl)) ?_
  refine i_cmp_ge (tgt := 47) dX5_readWord_13 rfl (rI_R _ _ _) (rI_R _ _ _) (fun c9 => ?_) (fun c9 => ?_)
  · replace h := h.1 c9
    refine w_iconst (v := nZ 0) dX5_readWord_47 (by decide) ?_
    refine w_istore_n (l' := [(2, .int (nZ 0)), (0, .ref 1), (1, .int (nZ x1))]) dX5_readWord_48 rfl (by decide) rfl ?_
    exact w_weak (l' := [(0, .ref 1), (1, .int (nZ x1)), (2, .int (nZ 0))]) (by intro q hq; simp only [List.mem_cons, List.not_mem_nil, or_false] at hq ⊢; rcases hq with rfl | rfl | rfl <;> simp) h
  · replace h := h.2 c9
    refine w_aload_n dX5_readWord_16 rfl (List.Mem.head _) ?_
    obtain ⟨r5, σ1, hc3, hG2, rr4, h⟩ := h
    refine w_callV dX5_readWord_17 ml_5_58 ⟨ok_X5_here, vi_X5_here⟩ hs_X5_here (As := []) rfl rfl (gT hG rfl (lt_of rfl)) (Nat.le_of_ble_eq_true rfl) hc3 ?_
    show wp C 5 cX5_readWord 3 (some .int) false [] sc P 20 [(0, .ref 1), (1, .int (nZ x1))] [.int (nZ r5)] σ1
    refine w_bipush (v := nZ 97) dX5_readWord_20 (by decide) ?_
    refine i_cmp_lt (tgt := 47) dX5_readWord_22 rfl rr4 (by decide) (fun c9 => ?_) (fun c9 => ?_)
    · replace h := h.1 c9
      refine w_iconst (v := nZ 0) dX5_readWord_47 (by decide) ?_
      refine w_istore_n (l' := [(2, .int (nZ 0)), (0, .ref 1), (1, .int (nZ x1))]) dX5_readWord_48 rfl (by decide) rfl ?_
      exact w_weak (l' := [(0, .ref 1), (1, .int (nZ x1)), (2, .int (nZ 0))]) (by intro q hq; simp only [List.mem_cons, List.not_mem_nil, or_false] at hq ⊢; rcases hq with rfl | rfl | rfl <;> simp) h
    · replace h := h.2 c9
      refine w_aload_n dX5_readWord_25 rfl (List.Mem.head _) ?_
      obtain ⟨r10, σ6, hc8, hG7, rr9, h⟩ := h
      refine w_callV dX5_readWord_26 ml_5_58 ⟨ok_X5_here, vi_X5_here⟩ hs_X5_here (As := []) rfl rfl (gT hG2 rfl (lt_of rfl)) (Nat.le_of_ble_eq_true rfl) hc8 ?_
      show wp C 5 cX5_readWord 3 (some .int) false [] sc P 29 [(0, .ref 1), (1, .int (nZ x1))] [.int (nZ r10)] σ6
      refine w_bipush (v := nZ 122) dX5_readWord_29 (by decide) ?_
      refine i_cmp_gt (tgt := 47) dX5_readWord_31 rfl rr9 (by decide) (fun c9 => ?_) (fun c9 => ?_)
      · replace h := h.1 c9
        refine w_iconst (v := nZ 0) dX5_readWord_47 (by decide) ?_
        refine w_istore_n (l' := [(2, .int (nZ 0)), (0, .ref 1), (1, .int (nZ x1))]) dX5_readWord_48 rfl (by decide) rfl ?_
        exact w_weak (l' := [(0, .ref 1), (1, .int (nZ x1)), (2, .int (nZ 0))]) (by intro q hq; simp only [List.mem_cons, List.not_mem_nil, or_false] at hq ⊢; rcases hq with rfl | rfl | rfl <;> simp) h
      · replace h := h.2 c9
        refine w_aload_n dX5_readWord_34 rfl (List.Mem.head _) ?_
        refine w_dup dX5_readWord_35 rfl ?_
        refine i_getI (ci := 5) 3 rfl dX5_readWord_36 fl_5_22 (by decide) (gT hG7 rfl (lt_of rfl)) ?_
        refine w_iconst (v := nZ 1) dX5_readWord_39 (by decide) ?_
        obtain ⟨q11, h⟩ := h
        refine i_add dX5_readWord_40 ?_
        refine i_putI (ci := 5) 3 rfl dX5_readWord_41 fl_5_22 (by decide) (gT hG7 rfl (lt_of rfl)) (fun σ12 eσ13 => ?_)
        replace h := h σ12 eσ13
        have hG14 : G σ12 u := eσ13 ▸ G.wI hG7
        refine w_goto (tgt := 5) dX5_readWord_44 rfl ?_
        exact h
set_option maxRecDepth 10000 in
theorem v_X5_readWord_49 {C : aM → List Value → aH → aO → aH → Prop} {sc : Nat × (Nat → Int32)} {P : aO → aH → Prop} {σ : aH} {u : Nat}  {x1 : Int} {x2 : Int} (hG : G σ u) (rx1 : inR x1) (rx2 : inR x2)
    (h : ((10 ≤ x2 → P (.inl (some (.int (nZ (-1))))) σ) ∧ (¬ (10 ≤ x2) → (∃ (j5 : Nat) (σ1 : aH), j5 < 10 ∧ C mX5_nameOf [.int (nZ x2)] σ (.inl (some (.ref (1000001 + j5)))) σ1 ∧ G σ1 u ∧ (∃ (r10 : Int) (σ6 : aH), C mX5_isWord [.ref 1, .ref (1000001 + j5), .int (nZ x1)] σ1 (.inl (some (.int (nZ r10)))) σ6 ∧ G σ6 u ∧ inR r10 ∧ ((r10 = 0 → (inR (x2 + 1) ∧ L_X5_readWord_49 C sc P x1 (x2 + 1) σ6)) ∧ (¬ (r10 = 0) → P (.inl (some (.int (nZ x2)))) σ6))))))) :
    L_X5_readWord_49 C sc P x1 x2 σ := by
  unfold L_X5_readWord_49
  refine w_iload_n dX5_readWord_49 rfl (List.Mem.tail _ (List.Mem.tail _ (List.Mem.head _))) ?_
  refine w_bipush (v := nZ 10) dX5_readWord_50 (by decide) ?_
  refine i_cmp_ge (tgt := 75) dX5_readWord_52 rfl rx2 (by decide) (fun c9 => ?_) (fun c9 => ?_)
  · replace h := h.1 c9
    refine w_iconst (v := nZ (-1)) dX5_readWord_75 (by decide) ?_
    exact w_iret dX5_readWord_76 rfl h
  · replace h := h.2 c9
    refine w_aload_n dX5_readWord_55 rfl (List.Mem.head _) ?_
    refine w_iload_n dX5_readWord_56 rfl (List.Mem.tail _ (List.Mem.tail _ (List.Mem.head _))) ?_
    obtain ⟨j5, σ1, hjj5, hc3, hG2, h⟩ := h
    refine w_callS dX5_readWord_57 ml_5_80 ⟨ok_X5_nameOf, st_X5_nameOf⟩ hs_X5_nameOf (As := [.int (nZ x2)]) rfl rfl (Nat.le_of_ble_eq_true rfl) hc3 ?_
    show wp C 5 cX5_readWord 3 (some .int) false [] sc P 60 [(0, .ref 1), (1, .int (nZ x1)), (2, .int (nZ x2))] [.ref (1000001 + j5), .ref 1] σ1
    refine w_iload_n dX5_readWord_60 rfl (List.Mem.tail _ (List.Mem.head _)) ?_
    obtain ⟨r10, σ6, hc8, hG7, rr9, h⟩ := h
    refine w_callV dX5_readWord_61 ml_5_84 ⟨ok_X5_isWord, vi_X5_isWord⟩ hs_X5_isWord (As := [.ref (1000001 + j5), .int (nZ x1)]) rfl rfl (gT hG2 rfl (lt_of rfl)) (Nat.le_of_ble_eq_true rfl) hc8 ?_
    show wp C 5 cX5_readWord 3 (some .int) false [] sc P 64 [(0, .ref 1), (1, .int (nZ x1)), (2, .int (nZ x2))] [.int (nZ r10)] σ6
    refine i_if_eq (tgt := 69) dX5_readWord_64 rfl rr9 (fun c9 => ?_) (fun c9 => ?_)
    · replace h := h.1 c9
      obtain ⟨q11, h⟩ := h
      refine w_iinc (v := nZ (x2 + 1)) (l' := [(2, .int (nZ (x2 + 1))), (0, .ref 1), (1, .int (nZ x1))]) dX5_readWord_69 (List.Mem.tail _ (List.Mem.tail _ (List.Mem.head _))) (nZ_add _ _) (by decide) rfl ?_
      refine w_goto (tgt := 49) dX5_readWord_72 rfl ?_
      exact w_weak (l' := [(0, .ref 1), (1, .int (nZ x1)), (2, .int (nZ (x2 + 1)))]) (by intro q hq; simp only [List.mem_cons, List.not_mem_nil, or_false] at hq ⊢; rcases hq with rfl | rfl | rfl <;> simp) h
    · replace h := h.2 c9
      refine w_iload_n dX5_readWord_67 rfl (List.Mem.tail _ (List.Mem.tail _ (List.Mem.head _))) ?_
      exact w_iret dX5_readWord_68 rfl h
theorem dX5_nameOf_0 : decode cX5_nameOf 0 = .ok (.iload_n 0, 1) := by decide +kernel
theorem dX5_nameOf_1 : decode cX5_nameOf 1 = .ok (.tableswitch 78 0 8 #[51, 54, 57, 60, 63, 66, 69, 72, 75], 51) := by decide +kernel
theorem dX5_nameOf_52 : decode cX5_nameOf 52 = .ok (.ldc 88, 2) := by decide +kernel
theorem dX5_nameOf_54 : decode cX5_nameOf 54 = .ok (.areturn, 1) := by decide +kernel
theorem dX5_nameOf_55 : decode cX5_nameOf 55 = .ok (.ldc 90, 2) := by decide +kernel
theorem dX5_nameOf_57 : decode cX5_nameOf 57 = .ok (.areturn, 1) := by decide +kernel
theorem dX5_nameOf_58 : decode cX5_nameOf 58 = .ok (.ldc 92, 2) := by decide +kernel
theorem dX5_nameOf_60 : decode cX5_nameOf 60 = .ok (.areturn, 1) := by decide +kernel
theorem dX5_nameOf_61 : decode cX5_nameOf 61 = .ok (.ldc 94, 2) := by decide +kernel
theorem dX5_nameOf_63 : decode cX5_nameOf 63 = .ok (.areturn, 1) := by decide +kernel
theorem dX5_nameOf_64 : decode cX5_nameOf 64 = .ok (.ldc 96, 2) := by decide +kernel
theorem dX5_nameOf_66 : decode cX5_nameOf 66 = .ok (.areturn, 1) := by decide +kernel
theorem dX5_nameOf_67 : decode cX5_nameOf 67 = .ok (.ldc 98, 2) := by decide +kernel
theorem dX5_nameOf_69 : decode cX5_nameOf 69 = .ok (.areturn, 1) := by decide +kernel
theorem dX5_nameOf_70 : decode cX5_nameOf 70 = .ok (.ldc 100, 2) := by decide +kernel
theorem dX5_nameOf_72 : decode cX5_nameOf 72 = .ok (.areturn, 1) := by decide +kernel
theorem dX5_nameOf_73 : decode cX5_nameOf 73 = .ok (.ldc 102, 2) := by decide +kernel
theorem dX5_nameOf_75 : decode cX5_nameOf 75 = .ok (.areturn, 1) := by decide +kernel
theorem dX5_nameOf_76 : decode cX5_nameOf 76 = .ok (.ldc 104, 2) := by decide +kernel
theorem dX5_nameOf_78 : decode cX5_nameOf 78 = .ok (.areturn, 1) := by decide +kernel
theorem dX5_nameOf_79 : decode cX5_nameOf 79 = .ok (.ldc 106, 2) := by decide +kernel
theorem dX5_nameOf_81 : decode cX5_nameOf 81 = .ok (.areturn, 1) := by decide +kernel
set_option maxRecDepth 10000 in
theorem t_X5_nameOf {sc : Nat × (Nat → Int32)} {d : Nat} {Q : aO → aH → Prop} {σ : aH} {u : Nat}  {x0 : Int} (hG : G σ u) (rx0 : inR x0)
    (h : (((x0 < 0 ∨ 8 < x0) → Q (.inl (some (.ref 1000010))) σ) ∧ (x0 = 0 → Q (.inl (some (.ref 1000001))) σ) ∧ (x0 = 1 → Q (.inl (some (.ref 1000002))) σ) ∧ (x0 = 2 → Q (.inl (some (.ref 1000003))) σ) ∧ (x0 = 3 → Q (.inl (some (.ref 1000004))) σ) ∧ (x0 = 4 → Q (.inl (some (.ref 1000005))) σ) ∧ (x0 = 5 → Q (.inl (some (.ref 1000006))) σ) ∧ (x0 = 6 → Q (.inl (some (.ref 1000007))) σ) ∧ (x0 = 7 → Q (.inl (some (.ref 1000008))) σ) ∧ (x0 = 8 → Q (.inl (some (.ref 1000009))) σ))) :
    T sc (d + 1) mX5_nameOf [.int (nZ x0)] σ Q := by
  refine T.of (c := 5) (code := cX5_nameOf) (mL := 1) (rt := (some (.object "java/lang/String"))) (ini := false) (l := [(0, .int (nZ x0))]) rfl rfl rfl rfl (by decide) hs_X5_nameOf rfl rfl ?_
  refine w_iload_n dX5_nameOf_0 rfl (List.Mem.head _) ?_
  rcases sw_cases x0 0 8 with hz | hz
  · replace h := h.1 hz
    refine i_tabOut (tgt := 79) dX5_nameOf_1 rx0 hz rfl ?_
    refine w_ldcS (q := 1000010) dX5_nameOf_79 ⟨by decide, _, rfl⟩ ?_
    exact w_aret dX5_nameOf_81 rfl h
  · replace h := h.2
    by_cases hz0 : x0 = 0
    · refine i_tabIn (off := 51) (tgt := 52) 0 hz0 dX5_nameOf_1 rx0 (by decide) (by decide) rfl rfl ?_
      replace h := h.1 hz0
      refine w_ldcS (q := 1000001) dX5_nameOf_52 ⟨by decide, _, rfl⟩ ?_
      exact w_aret dX5_nameOf_54 rfl h
    by_cases hz1 : x0 = 1
    · refine i_tabIn (off := 54) (tgt := 55) 1 hz1 dX5_nameOf_1 rx0 (by decide) (by decide) rfl rfl ?_
      replace h := h.2.1 hz1
      refine w_ldcS (q := 1000002) dX5_nameOf_55 ⟨by decide, _, rfl⟩ ?_
      exact w_aret dX5_nameOf_57 rfl h
    by_cases hz2 : x0 = 2
    · refine i_tabIn (off := 57) (tgt := 58) 2 hz2 dX5_nameOf_1 rx0 (by decide) (by decide) rfl rfl ?_
      replace h := h.2.2.1 hz2
      refine w_ldcS (q := 1000003) dX5_nameOf_58 ⟨by decide, _, rfl⟩ ?_
      exact w_aret dX5_nameOf_60 rfl h
    by_cases hz3 : x0 = 3
    · refine i_tabIn (off := 60) (tgt := 61) 3 hz3 dX5_nameOf_1 rx0 (by decide) (by decide) rfl rfl ?_
      replace h := h.2.2.2.1 hz3
      refine w_ldcS (q := 1000004) dX5_nameOf_61 ⟨by decide, _, rfl⟩ ?_
      exact w_aret dX5_nameOf_63 rfl h
    by_cases hz4 : x0 = 4
    · refine i_tabIn (off := 63) (tgt := 64) 4 hz4 dX5_nameOf_1 rx0 (by decide) (by decide) rfl rfl ?_
      replace h := h.2.2.2.2.1 hz4
      refine w_ldcS (q := 1000005) dX5_nameOf_64 ⟨by decide, _, rfl⟩ ?_
      exact w_aret dX5_nameOf_66 rfl h
    by_cases hz5 : x0 = 5
    · refine i_tabIn (off := 66) (tgt := 67) 5 hz5 dX5_nameOf_1 rx0 (by decide) (by decide) rfl rfl ?_
      replace h := h.2.2.2.2.2.1 hz5
      refine w_ldcS (q := 1000006) dX5_nameOf_67 ⟨by decide, _, rfl⟩ ?_
      exact w_aret dX5_nameOf_69 rfl h
    by_cases hz6 : x0 = 6
    · refine i_tabIn (off := 69) (tgt := 70) 6 hz6 dX5_nameOf_1 rx0 (by decide) (by decide) rfl rfl ?_
      replace h := h.2.2.2.2.2.2.1 hz6
      refine w_ldcS (q := 1000007) dX5_nameOf_70 ⟨by decide, _, rfl⟩ ?_
      exact w_aret dX5_nameOf_72 rfl h
    by_cases hz7 : x0 = 7
    · refine i_tabIn (off := 72) (tgt := 73) 7 hz7 dX5_nameOf_1 rx0 (by decide) (by decide) rfl rfl ?_
      replace h := h.2.2.2.2.2.2.2.1 hz7
      refine w_ldcS (q := 1000008) dX5_nameOf_73 ⟨by decide, _, rfl⟩ ?_
      exact w_aret dX5_nameOf_75 rfl h
    have hz8 : x0 = 8 := by omega
    refine i_tabIn (off := 75) (tgt := 76) 8 hz8 dX5_nameOf_1 rx0 (by decide) (by decide) rfl rfl ?_
    replace h := h.2.2.2.2.2.2.2.2 hz8
    refine w_ldcS (q := 1000009) dX5_nameOf_76 ⟨by decide, _, rfl⟩ ?_
    exact w_aret dX5_nameOf_78 rfl h
theorem dX5_isWord_0 : decode cX5_isWord 0 = .ok (.aload_n 0, 1) := by decide +kernel
theorem dX5_isWord_1 : decode cX5_isWord 1 = .ok (.getfield 22, 3) := by decide +kernel
theorem dX5_isWord_4 : decode cX5_isWord 4 = .ok (.iload_n 2, 1) := by decide +kernel
theorem dX5_isWord_5 : decode cX5_isWord 5 = .ok (.isub, 1) := by decide +kernel
theorem dX5_isWord_6 : decode cX5_isWord 6 = .ok (.aload_n 1, 1) := by decide +kernel
theorem dX5_isWord_7 : decode cX5_isWord 7 = .ok (.invokevirtual 108, 3) := by decide +kernel
theorem dX5_isWord_10 : decode cX5_isWord 10 = .ok (.if_icmp .eq 5, 3) := by decide +kernel
theorem dX5_isWord_13 : decode cX5_isWord 13 = .ok (.iconst 0, 1) := by decide +kernel
theorem dX5_isWord_14 : decode cX5_isWord 14 = .ok (.ireturn, 1) := by decide +kernel
theorem dX5_isWord_15 : decode cX5_isWord 15 = .ok (.iconst 0, 1) := by decide +kernel
theorem dX5_isWord_16 : decode cX5_isWord 16 = .ok (.istore_n 3, 1) := by decide +kernel
theorem dX5_isWord_17 : decode cX5_isWord 17 = .ok (.iload_n 3, 1) := by decide +kernel
theorem dX5_isWord_18 : decode cX5_isWord 18 = .ok (.aload_n 1, 1) := by decide +kernel
theorem dX5_isWord_19 : decode cX5_isWord 19 = .ok (.invokevirtual 108, 3) := by decide +kernel
theorem dX5_isWord_22 : decode cX5_isWord 22 = .ok (.if_icmp .ge 27, 3) := by decide +kernel
theorem dX5_isWord_25 : decode cX5_isWord 25 = .ok (.aload_n 0, 1) := by decide +kernel
theorem dX5_isWord_26 : decode cX5_isWord 26 = .ok (.getfield 9, 3) := by decide +kernel
theorem dX5_isWord_29 : decode cX5_isWord 29 = .ok (.iload_n 2, 1) := by decide +kernel
theorem dX5_isWord_30 : decode cX5_isWord 30 = .ok (.iload_n 3, 1) := by decide +kernel
theorem dX5_isWord_31 : decode cX5_isWord 31 = .ok (.iadd, 1) := by decide +kernel
theorem dX5_isWord_32 : decode cX5_isWord 32 = .ok (.baload, 1) := by decide +kernel
theorem dX5_isWord_33 : decode cX5_isWord 33 = .ok (.aload_n 1, 1) := by decide +kernel
theorem dX5_isWord_34 : decode cX5_isWord 34 = .ok (.iload_n 3, 1) := by decide +kernel
theorem dX5_isWord_35 : decode cX5_isWord 35 = .ok (.invokevirtual 113, 3) := by decide +kernel
theorem dX5_isWord_38 : decode cX5_isWord 38 = .ok (.if_icmp .eq 5, 3) := by decide +kernel
theorem dX5_isWord_41 : decode cX5_isWord 41 = .ok (.iconst 0, 1) := by decide +kernel
theorem dX5_isWord_42 : decode cX5_isWord 42 = .ok (.ireturn, 1) := by decide +kernel
theorem dX5_isWord_43 : decode cX5_isWord 43 = .ok (.iinc 3 1, 3) := by decide +kernel
theorem dX5_isWord_46 : decode cX5_isWord 46 = .ok (.goto (-29), 3) := by decide +kernel
theorem dX5_isWord_49 : decode cX5_isWord 49 = .ok (.iconst 1, 1) := by decide +kernel
theorem dX5_isWord_50 : decode cX5_isWord 50 = .ok (.ireturn, 1) := by decide +kernel
def L_X5_isWord_17 (C : aM → List Value → aH → aO → aH → Prop) (sc : Nat × (Nat → Int32)) (P : aO → aH → Prop) (j : Nat) (x2 : Int) (x3 : Int) (σ : aH) : Prop :=
    wp C 5 cX5_isWord 4 (some .boolean) false [] sc P 17 [(0, .ref 1), (1, .ref (1000001 + j)), (2, .int (nZ x2)), (3, .int (nZ x3))] [] σ
set_option maxRecDepth 10000 in
theorem t_X5_isWord {sc : Nat × (Nat → Int32)} {d : Nat} {Q : aO → aH → Prop} {σ : aH} {u : Nat} {j : Nat} {x2 : Int} (hG : G σ u) (hj : j < 10) (rx2 : inR x2)
    (h : (inR ((rI σ 1 3) - x2) ∧ ((((rI σ 1 3) - x2) = ((wdLen.getD j 0 : Nat) : Int) → L_X5_isWord_17 (Ev sc d) sc Q j x2 0 σ) ∧ (¬ (((rI σ 1 3) - x2) = ((wdLen.getD j 0 : Nat) : Int)) → Q (.inl (some (.int (nZ 0)))) σ)))) :
    T sc (d + 1) mX5_isWord [.ref 1, .ref (1000001 + j), .int (nZ x2)] σ Q := by
  refine T.of (c := 5) (code := cX5_isWord) (mL := 4) (rt := (some .boolean)) (ini := false) (l := [(0, .ref 1), (1, .ref (1000001 + j)), (2, .int (nZ x2))]) rfl rfl rfl rfl (by decide) hs_X5_isWord rfl rfl ?_
  refine w_aload_n dX5_isWord_0 rfl (List.Mem.head _) ?_
  refine i_getI (ci := 5) 3 rfl dX5_isWord_1 fl_5_22 (by decide) (gT hG rfl (lt_of rfl)) ?_
  refine w_iload_n dX5_isWord_4 rfl (List.Mem.tail _ (List.Mem.tail _ (List.Mem.head _))) ?_
  obtain ⟨q1, h⟩ := h
  refine i_sub dX5_isWord_5 ?_
  refine w_aload_n dX5_isWord_6 rfl (List.Mem.tail _ (List.Mem.head _)) ?_
  refine i_strL (j := j) dX5_isWord_7 ls_5_108 (Nat.le_of_ble_eq_true rfl) hj ?_
  refine i_cmp_eq (tgt := 15) dX5_isWord_10 rfl q1 (wdR _) (fun c9 => ?_) (fun c9 => ?_)
  · replace h := h.1 c9
    refine w_iconst (v := nZ 0) dX5_isWord_15 (by decide) ?_
    refine w_istore_n (l' := [(3, .int (nZ 0)), (0, .ref 1), (1, .ref (1000001 + j)), (2, .int (nZ x2))]) dX5_isWord_16 rfl (by decide) rfl ?_
    exact w_weak (l' := [(0, .ref 1), (1, .ref (1000001 + j)), (2, .int (nZ x2)), (3, .int (nZ 0))]) (by intro q hq; simp only [List.mem_cons, List.not_mem_nil, or_false] at hq ⊢; rcases hq with rfl | rfl | rfl | rfl <;> simp) h
  · replace h := h.2 c9
    refine w_iconst (v := nZ 0) dX5_isWord_13 (by decide) ?_
    exact i_zret dX5_isWord_14 rfl (by decide) h
set_option maxRecDepth 10000 in
theorem v_X5_isWord_17 {C : aM → List Value → aH → aO → aH → Prop} {sc : Nat × (Nat → Int32)} {P : aO → aH → Prop} {σ : aH} {u : Nat} {j : Nat} {x2 : Int} {x3 : Int} (hG : G σ u) (hj : j < 10) (rx2 : inR x2) (rx3 : inR x3)
    (h : ((((wdLen.getD j 0 : Nat) : Int) ≤ x3 → P (.inl (some (.int (nZ 1)))) σ) ∧ (¬ (((wdLen.getD j 0 : Nat) : Int) ≤ x3) → (inR (x2 + x3) ∧ ((0 ≤ (x2 + x3) ∧ (x2 + x3) < 600) ∧ ((0 ≤ x3 ∧ x3 < ((wdLen.getD j 0 : Nat) : Int)) ∧ (((rI σ 2 (x2 + x3)) = (((wdByt.getD j []).getD (x3).toNat 0).toInt) → (inR (x3 + 1) ∧ L_X5_isWord_17 C sc P j x2 (x3 + 1) σ)) ∧ (¬ ((rI σ 2 (x2 + x3)) = (((wdByt.getD j []).getD (x3).toNat 0).toInt)) → P (.inl (some (.int (nZ 0)))) σ)))))))) :
    L_X5_isWord_17 C sc P j x2 x3 σ := by
  unfold L_X5_isWord_17
  refine w_iload_n dX5_isWord_17 rfl (List.Mem.tail _ (List.Mem.tail _ (List.Mem.tail _ (List.Mem.head _)))) ?_
  refine w_aload_n dX5_isWord_18 rfl (List.Mem.tail _ (List.Mem.head _)) ?_
  refine i_strL (j := j) dX5_isWord_19 ls_5_108 (Nat.le_of_ble_eq_true rfl) hj ?_
  refine i_cmp_ge (tgt := 49) dX5_isWord_22 rfl rx3 (wdR _) (fun c9 => ?_) (fun c9 => ?_)
  · replace h := h.1 c9
    refine w_iconst (v := nZ 1) dX5_isWord_49 (by decide) ?_
    exact i_zret dX5_isWord_50 rfl (by decide) h
  · replace h := h.2 c9
    refine w_aload_n dX5_isWord_25 rfl (List.Mem.head _) ?_
    refine w_getR (ci := 5) (k := 0) (b := 2) dX5_isWord_26 fl_5_9 (by decide) (gT hG rfl (lt_of rfl)) (gR hG (b := 2) rfl) ?_
    refine w_iload_n dX5_isWord_29 rfl (List.Mem.tail _ (List.Mem.tail _ (List.Mem.head _))) ?_
    refine w_iload_n dX5_isWord_30 rfl (List.Mem.tail _ (List.Mem.tail _ (List.Mem.tail _ (List.Mem.head _)))) ?_
    obtain ⟨q1, h⟩ := h
    refine i_add dX5_isWord_31 ?_
    obtain ⟨h9, h⟩ := h
    refine i_bald (n := 600) dX5_isWord_32 (gT hG rfl (lt_of rfl)) (gL hG rfl) q1 h9 ?_
    refine w_aload_n dX5_isWord_33 rfl (List.Mem.tail _ (List.Mem.head _)) ?_
    refine w_iload_n dX5_isWord_34 rfl (List.Mem.tail _ (List.Mem.tail _ (List.Mem.tail _ (List.Mem.head _)))) ?_
    obtain ⟨h9, h⟩ := h
    refine i_strC (j := j) dX5_isWord_35 ls_5_113 (Nat.le_of_ble_eq_true rfl) hj h9 ?_
    refine i_cmp_eq (tgt := 43) dX5_isWord_38 rfl (rI_R _ _ _) (tR _) (fun c9 => ?_) (fun c9 => ?_)
    · replace h := h.1 c9
      obtain ⟨q2, h⟩ := h
      refine w_iinc (v := nZ (x3 + 1)) (l' := [(3, .int (nZ (x3 + 1))), (0, .ref 1), (1, .ref (1000001 + j)), (2, .int (nZ x2))]) dX5_isWord_43 (List.Mem.tail _ (List.Mem.tail _ (List.Mem.tail _ (List.Mem.head _)))) (nZ_add _ _) (by decide) rfl ?_
      refine w_goto (tgt := 17) dX5_isWord_46 rfl ?_
      exact w_weak (l' := [(0, .ref 1), (1, .ref (1000001 + j)), (2, .int (nZ x2)), (3, .int (nZ (x3 + 1)))]) (by intro q hq; simp only [List.mem_cons, List.not_mem_nil, or_false] at hq ⊢; rcases hq with rfl | rfl | rfl | rfl <;> simp) h
    · replace h := h.2 c9
      refine w_iconst (v := nZ 0) dX5_isWord_41 (by decide) ?_
      exact i_zret dX5_isWord_42 rfl (by decide) h
theorem dX5_isFull_0 : decode cX5_isFull 0 = .ok (.iload_n 1, 1) := by decide +kernel
theorem dX5_isFull_1 : decode cX5_isFull 1 = .ok (.tableswitch 83 1 5 #[35, 83, 83, 53, 68], 35) := by decide +kernel
theorem dX5_isFull_36 : decode cX5_isFull 36 = .ok (.aload_n 2, 1) := by decide +kernel
theorem dX5_isFull_37 : decode cX5_isFull 37 = .ok (.getfield 117, 3) := by decide +kernel
theorem dX5_isFull_40 : decode cX5_isFull 40 = .ok (.getfield 121, 3) := by decide +kernel
theorem dX5_isFull_43 : decode cX5_isFull 43 = .ok (.bipush 8, 2) := by decide +kernel
theorem dX5_isFull_45 : decode cX5_isFull 45 = .ok (.if_icmp .lt 7, 3) := by decide +kernel
theorem dX5_isFull_48 : decode cX5_isFull 48 = .ok (.iconst 1, 1) := by decide +kernel
theorem dX5_isFull_49 : decode cX5_isFull 49 = .ok (.goto 4, 3) := by decide +kernel
theorem dX5_isFull_52 : decode cX5_isFull 52 = .ok (.iconst 0, 1) := by decide +kernel
theorem dX5_isFull_53 : decode cX5_isFull 53 = .ok (.ireturn, 1) := by decide +kernel
theorem dX5_isFull_54 : decode cX5_isFull 54 = .ok (.aload_n 0, 1) := by decide +kernel
theorem dX5_isFull_55 : decode cX5_isFull 55 = .ok (.getfield 34, 3) := by decide +kernel
theorem dX5_isFull_58 : decode cX5_isFull 58 = .ok (.bipush 20, 2) := by decide +kernel
theorem dX5_isFull_60 : decode cX5_isFull 60 = .ok (.if_icmp .lt 7, 3) := by decide +kernel
theorem dX5_isFull_63 : decode cX5_isFull 63 = .ok (.iconst 1, 1) := by decide +kernel
theorem dX5_isFull_64 : decode cX5_isFull 64 = .ok (.goto 4, 3) := by decide +kernel
theorem dX5_isFull_67 : decode cX5_isFull 67 = .ok (.iconst 0, 1) := by decide +kernel
theorem dX5_isFull_68 : decode cX5_isFull 68 = .ok (.ireturn, 1) := by decide +kernel
theorem dX5_isFull_69 : decode cX5_isFull 69 = .ok (.aload_n 0, 1) := by decide +kernel
theorem dX5_isFull_70 : decode cX5_isFull 70 = .ok (.getfield 37, 3) := by decide +kernel
theorem dX5_isFull_73 : decode cX5_isFull 73 = .ok (.bipush 20, 2) := by decide +kernel
theorem dX5_isFull_75 : decode cX5_isFull 75 = .ok (.if_icmp .lt 7, 3) := by decide +kernel
theorem dX5_isFull_78 : decode cX5_isFull 78 = .ok (.iconst 1, 1) := by decide +kernel
theorem dX5_isFull_79 : decode cX5_isFull 79 = .ok (.goto 4, 3) := by decide +kernel
theorem dX5_isFull_82 : decode cX5_isFull 82 = .ok (.iconst 0, 1) := by decide +kernel
theorem dX5_isFull_83 : decode cX5_isFull 83 = .ok (.ireturn, 1) := by decide +kernel
theorem dX5_isFull_84 : decode cX5_isFull 84 = .ok (.iconst 0, 1) := by decide +kernel
theorem dX5_isFull_85 : decode cX5_isFull 85 = .ok (.ireturn, 1) := by decide +kernel
set_option maxRecDepth 10000 in
theorem t_X5_isFull {sc : Nat × (Nat → Int32)} {d : Nat} {Q : aO → aH → Prop} {σ : aH} {u : Nat} {v : Nat} {x1 : Int} (hG : G σ u) (hv : IsMk v) (rx1 : inR x1)
    (h : (((x1 < 1 ∨ 5 < x1) → Q (.inl (some (.int (nZ 0)))) σ) ∧ (x1 = 1 → (((rI σ (v + 1) 8) < 8 → Q (.inl (some (.int (nZ 0)))) σ) ∧ (¬ ((rI σ (v + 1) 8) < 8) → Q (.inl (some (.int (nZ 1)))) σ))) ∧ (x1 = 2 → Q (.inl (some (.int (nZ 0)))) σ) ∧ (x1 = 3 → Q (.inl (some (.int (nZ 0)))) σ) ∧ (x1 = 4 → (((rI σ 1 7) < 20 → Q (.inl (some (.int (nZ 0)))) σ) ∧ (¬ ((rI σ 1 7) < 20) → Q (.inl (some (.int (nZ 1)))) σ))) ∧ (x1 = 5 → (((rI σ 1 8) < 20 → Q (.inl (some (.int (nZ 0)))) σ) ∧ (¬ ((rI σ 1 8) < 20) → Q (.inl (some (.int (nZ 1)))) σ))))) :
    T sc (d + 1) mX5_isFull [.ref 1, .int (nZ x1), .ref v] σ Q := by
  refine T.of (c := 5) (code := cX5_isFull) (mL := 3) (rt := (some .boolean)) (ini := false) (l := [(0, .ref 1), (1, .int (nZ x1)), (2, .ref v)]) rfl rfl rfl rfl (by decide) hs_X5_isFull rfl rfl ?_
  refine w_iload_n dX5_isFull_0 rfl (List.Mem.tail _ (List.Mem.head _)) ?_
  rcases sw_cases x1 1 5 with hz | hz
  · replace h := h.1 hz
    refine i_tabOut (tgt := 84) dX5_isFull_1 rx1 hz rfl ?_
    refine w_iconst (v := nZ 0) dX5_isFull_84 (by decide) ?_
    exact i_zret dX5_isFull_85 rfl (by decide) h
  · replace h := h.2
    by_cases hz0 : x1 = 1
    · refine i_tabIn (off := 35) (tgt := 36) 1 hz0 dX5_isFull_1 rx1 (by decide) (by decide) rfl rfl ?_
      replace h := h.1 hz0
      refine w_aload_n dX5_isFull_36 rfl (List.Mem.tail _ (List.Mem.tail _ (List.Mem.head _))) ?_
      refine w_getR (ci := 2) (k := 0) (b := (v + 1)) dX5_isFull_37 fl_5_117 (by decide) (gT hG (IsMk_t0 hv) (IsMk_lt hv (k := 0) (by decide))) (gR hG (IsMk_r0_0 hv)) ?_
      refine i_getI (ci := 7) 8 rfl dX5_isFull_40 fl_5_121 (by decide) (gT hG (IsMk_t1 hv) (IsMk_lt hv (k := 1) (by decide))) ?_
      refine w_bipush (v := nZ 8) dX5_isFull_43 (by decide) ?_
      refine i_cmp_lt (tgt := 52) dX5_isFull_45 rfl (rI_R _ _ _) (by decide) (fun c9 => ?_) (fun c9 => ?_)
      · replace h := h.1 c9
        refine w_iconst (v := nZ 0) dX5_isFull_52 (by decide) ?_
        exact i_zret dX5_isFull_53 rfl (by decide) h
      · replace h := h.2 c9
        refine w_iconst (v := nZ 1) dX5_isFull_48 (by decide) ?_
        refine w_goto (tgt := 53) dX5_isFull_49 rfl ?_
        exact i_zret dX5_isFull_53 rfl (by decide) h
    by_cases hz1 : x1 = 2
    · refine i_tabIn (off := 83) (tgt := 84) 2 hz1 dX5_isFull_1 rx1 (by decide) (by decide) rfl rfl ?_
      replace h := h.2.1 hz1
      refine w_iconst (v := nZ 0) dX5_isFull_84 (by decide) ?_
      exact i_zret dX5_isFull_85 rfl (by decide) h
    by_cases hz2 : x1 = 3
    · refine i_tabIn (off := 83) (tgt := 84) 3 hz2 dX5_isFull_1 rx1 (by decide) (by decide) rfl rfl ?_
      replace h := h.2.2.1 hz2
      refine w_iconst (v := nZ 0) dX5_isFull_84 (by decide) ?_
      exact i_zret dX5_isFull_85 rfl (by decide) h
    by_cases hz3 : x1 = 4
    · refine i_tabIn (off := 53) (tgt := 54) 4 hz3 dX5_isFull_1 rx1 (by decide) (by decide) rfl rfl ?_
      replace h := h.2.2.2.1 hz3
      refine w_aload_n dX5_isFull_54 rfl (List.Mem.head _) ?_
      refine i_getI (ci := 5) 7 rfl dX5_isFull_55 fl_5_34 (by decide) (gT hG rfl (lt_of rfl)) ?_
      refine w_bipush (v := nZ 20) dX5_isFull_58 (by decide) ?_
      refine i_cmp_lt (tgt := 67) dX5_isFull_60 rfl (rI_R _ _ _) (by decide) (fun c9 => ?_) (fun c9 => ?_)
      · replace h := h.1 c9
        refine w_iconst (v := nZ 0) dX5_isFull_67 (by decide) ?_
        exact i_zret dX5_isFull_68 rfl (by decide) h
      · replace h := h.2 c9
        refine w_iconst (v := nZ 1) dX5_isFull_63 (by decide) ?_
        refine w_goto (tgt := 68) dX5_isFull_64 rfl ?_
        exact i_zret dX5_isFull_68 rfl (by decide) h
    have hz4 : x1 = 5 := by omega
    refine i_tabIn (off := 68) (tgt := 69) 5 hz4 dX5_isFull_1 rx1 (by decide) (by decide) rfl rfl ?_
    replace h := h.2.2.2.2 hz4
    refine w_aload_n dX5_isFull_69 rfl (List.Mem.head _) ?_
    refine i_getI (ci := 5) 8 rfl dX5_isFull_70 fl_5_37 (by decide) (gT hG rfl (lt_of rfl)) ?_
    refine w_bipush (v := nZ 20) dX5_isFull_73 (by decide) ?_
    refine i_cmp_lt (tgt := 82) dX5_isFull_75 rfl (rI_R _ _ _) (by decide) (fun c9 => ?_) (fun c9 => ?_)
    · replace h := h.1 c9
      refine w_iconst (v := nZ 0) dX5_isFull_82 (by decide) ?_
      exact i_zret dX5_isFull_83 rfl (by decide) h
    · replace h := h.2 c9
      refine w_iconst (v := nZ 1) dX5_isFull_78 (by decide) ?_
      refine w_goto (tgt := 83) dX5_isFull_79 rfl ?_
      exact i_zret dX5_isFull_83 rfl (by decide) h
theorem dX5_readNumbers_0 : decode cX5_readNumbers 0 = .ok (.iload_n 1, 1) := by decide +kernel
theorem dX5_readNumbers_1 : decode cX5_readNumbers 1 = .ok (.tableswitch 148 0 9 #[55, 80, 148, 148, 88, 96, 104, 148, 119, 134], 55) := by decide +kernel
theorem dX5_readNumbers_56 : decode cX5_readNumbers 56 = .ok (.aload_n 2, 1) := by decide +kernel
theorem dX5_readNumbers_57 : decode cX5_readNumbers 57 = .ok (.aload_n 0, 1) := by decide +kernel
theorem dX5_readNumbers_58 : decode cX5_readNumbers 58 = .ok (.iconst 2, 1) := by decide +kernel
theorem dX5_readNumbers_59 : decode cX5_readNumbers 59 = .ok (.bipush 9, 2) := by decide +kernel
theorem dX5_readNumbers_61 : decode cX5_readNumbers 61 = .ok (.invokevirtual 126, 3) := by decide +kernel
theorem dX5_readNumbers_64 : decode cX5_readNumbers 64 = .ok (.putfield 129, 3) := by decide +kernel
theorem dX5_readNumbers_67 : decode cX5_readNumbers 67 = .ok (.aload_n 2, 1) := by decide +kernel
theorem dX5_readNumbers_68 : decode cX5_readNumbers 68 = .ok (.aload_n 0, 1) := by decide +kernel
theorem dX5_readNumbers_69 : decode cX5_readNumbers 69 = .ok (.iconst 2, 1) := by decide +kernel
theorem dX5_readNumbers_70 : decode cX5_readNumbers 70 = .ok (.bipush 9, 2) := by decide +kernel
theorem dX5_readNumbers_72 : decode cX5_readNumbers 72 = .ok (.invokevirtual 126, 3) := by decide +kernel
theorem dX5_readNumbers_75 : decode cX5_readNumbers 75 = .ok (.putfield 132, 3) := by decide +kernel
theorem dX5_readNumbers_78 : decode cX5_readNumbers 78 = .ok (.goto 80, 3) := by decide +kernel
theorem dX5_readNumbers_81 : decode cX5_readNumbers 81 = .ok (.aload_n 0, 1) := by decide +kernel
theorem dX5_readNumbers_82 : decode cX5_readNumbers 82 = .ok (.aload_n 2, 1) := by decide +kernel
theorem dX5_readNumbers_83 : decode cX5_readNumbers 83 = .ok (.invokevirtual 135, 3) := by decide +kernel
theorem dX5_readNumbers_86 : decode cX5_readNumbers 86 = .ok (.goto 72, 3) := by decide +kernel
theorem dX5_readNumbers_89 : decode cX5_readNumbers 89 = .ok (.aload_n 0, 1) := by decide +kernel
theorem dX5_readNumbers_90 : decode cX5_readNumbers 90 = .ok (.aload_n 2, 1) := by decide +kernel
theorem dX5_readNumbers_91 : decode cX5_readNumbers 91 = .ok (.invokevirtual 138, 3) := by decide +kernel
theorem dX5_readNumbers_94 : decode cX5_readNumbers 94 = .ok (.goto 64, 3) := by decide +kernel
theorem dX5_readNumbers_97 : decode cX5_readNumbers 97 = .ok (.aload_n 0, 1) := by decide +kernel
theorem dX5_readNumbers_98 : decode cX5_readNumbers 98 = .ok (.aload_n 2, 1) := by decide +kernel
theorem dX5_readNumbers_99 : decode cX5_readNumbers 99 = .ok (.invokevirtual 141, 3) := by decide +kernel
theorem dX5_readNumbers_102 : decode cX5_readNumbers 102 = .ok (.goto 56, 3) := by decide +kernel
theorem dX5_readNumbers_105 : decode cX5_readNumbers 105 = .ok (.aload_n 2, 1) := by decide +kernel
theorem dX5_readNumbers_106 : decode cX5_readNumbers 106 = .ok (.aload_n 0, 1) := by decide +kernel
theorem dX5_readNumbers_107 : decode cX5_readNumbers 107 = .ok (.iconst 0, 1) := by decide +kernel
theorem dX5_readNumbers_108 : decode cX5_readNumbers 108 = .ok (.sipush 1440, 3) := by decide +kernel
theorem dX5_readNumbers_111 : decode cX5_readNumbers 111 = .ok (.invokevirtual 126, 3) := by decide +kernel
theorem dX5_readNumbers_114 : decode cX5_readNumbers 114 = .ok (.putfield 144, 3) := by decide +kernel
theorem dX5_readNumbers_117 : decode cX5_readNumbers 117 = .ok (.goto 41, 3) := by decide +kernel
theorem dX5_readNumbers_120 : decode cX5_readNumbers 120 = .ok (.aload_n 2, 1) := by decide +kernel
theorem dX5_readNumbers_121 : decode cX5_readNumbers 121 = .ok (.aload_n 0, 1) := by decide +kernel
theorem dX5_readNumbers_122 : decode cX5_readNumbers 122 = .ok (.iconst 0, 1) := by decide +kernel
theorem dX5_readNumbers_123 : decode cX5_readNumbers 123 = .ok (.sipush 1440, 3) := by decide +kernel
theorem dX5_readNumbers_126 : decode cX5_readNumbers 126 = .ok (.invokevirtual 126, 3) := by decide +kernel
theorem dX5_readNumbers_129 : decode cX5_readNumbers 129 = .ok (.putfield 146, 3) := by decide +kernel
theorem dX5_readNumbers_132 : decode cX5_readNumbers 132 = .ok (.goto 26, 3) := by decide +kernel
theorem dX5_readNumbers_135 : decode cX5_readNumbers 135 = .ok (.aload_n 2, 1) := by decide +kernel
theorem dX5_readNumbers_136 : decode cX5_readNumbers 136 = .ok (.aload_n 0, 1) := by decide +kernel
theorem dX5_readNumbers_137 : decode cX5_readNumbers 137 = .ok (.iconst 0, 1) := by decide +kernel
theorem dX5_readNumbers_138 : decode cX5_readNumbers 138 = .ok (.bipush 8, 2) := by decide +kernel
theorem dX5_readNumbers_140 : decode cX5_readNumbers 140 = .ok (.invokevirtual 126, 3) := by decide +kernel
theorem dX5_readNumbers_143 : decode cX5_readNumbers 143 = .ok (.putfield 148, 3) := by decide +kernel
theorem dX5_readNumbers_146 : decode cX5_readNumbers 146 = .ok (.goto 12, 3) := by decide +kernel
theorem dX5_readNumbers_149 : decode cX5_readNumbers 149 = .ok (.aload_n 0, 1) := by decide +kernel
theorem dX5_readNumbers_150 : decode cX5_readNumbers 150 = .ok (.iload_n 1, 1) := by decide +kernel
theorem dX5_readNumbers_151 : decode cX5_readNumbers 151 = .ok (.aload_n 2, 1) := by decide +kernel
theorem dX5_readNumbers_152 : decode cX5_readNumbers 152 = .ok (.getfield 117, 3) := by decide +kernel
theorem dX5_readNumbers_155 : decode cX5_readNumbers 155 = .ok (.invokevirtual 150, 3) := by decide +kernel
theorem dX5_readNumbers_158 : decode cX5_readNumbers 158 = .ok (.return_, 1) := by decide +kernel
set_option maxRecDepth 10000 in
theorem t_X5_readNumbers {sc : Nat × (Nat → Int32)} {d : Nat} {Q : aO → aH → Prop} {σ : aH} {u : Nat} {v : Nat} {x1 : Int} (hG : G σ u) (hv : IsMk v) (rx1 : inR x1)
    (h : (((x1 < 0 ∨ 9 < x1) → (∃ σ1 : aH, Ev sc d mX5_readOfStall [.ref 1, .int (nZ x1), .ref (v + 1)] σ (.inl none) σ1 ∧ G σ1 u ∧ Q (.inl none) σ1)) ∧ (x1 = 0 → (∃ (r9 : Int) (σ5 : aH), Ev sc d mX5_readNumber [.ref 1, .int (nZ 2), .int (nZ 9)] σ (.inl (some (.int (nZ r9)))) σ5 ∧ G σ5 u ∧ inR r9 ∧ (∀ σ10 : aH, wI σ5 v 3 r9 = σ10 → (∃ (r17 : Int) (σ13 : aH), Ev sc d mX5_readNumber [.ref 1, .int (nZ 2), .int (nZ 9)] σ10 (.inl (some (.int (nZ r17)))) σ13 ∧ G σ13 u ∧ inR r17 ∧ (∀ σ18 : aH, wI σ13 v 4 r17 = σ18 → Q (.inl none) σ18))))) ∧ (x1 = 1 → (∃ σ21 : aH, Ev sc d mX5_readStall [.ref 1, .ref v] σ (.inl none) σ21 ∧ G σ21 u ∧ Q (.inl none) σ21)) ∧ (x1 = 2 → (∃ σ25 : aH, Ev sc d mX5_readOfStall [.ref 1, .int (nZ x1), .ref (v + 1)] σ (.inl none) σ25 ∧ G σ25 u ∧ Q (.inl none) σ25)) ∧ (x1 = 3 → (∃ σ29 : aH, Ev sc d mX5_readOfStall [.ref 1, .int (nZ x1), .ref (v + 1)] σ (.inl none) σ29 ∧ G σ29 u ∧ Q (.inl none) σ29)) ∧ (x1 = 4 → (∃ σ33 : aH, Ev sc d mX5_readSun [.ref 1, .ref v] σ (.inl none) σ33 ∧ G σ33 u ∧ Q (.inl none) σ33)) ∧ (x1 = 5 → (∃ σ37 : aH, Ev sc d mX5_readRate [.ref 1, .ref v] σ (.inl none) σ37 ∧ G σ37 u ∧ Q (.inl none) σ37)) ∧ (x1 = 6 → (∃ (r45 : Int) (σ41 : aH), Ev sc d mX5_readNumber [.ref 1, .int (nZ 0), .int (nZ 1440)] σ (.inl (some (.int (nZ r45)))) σ41 ∧ G σ41 u ∧ inR r45 ∧ (∀ σ46 : aH, wI σ41 v 5 r45 = σ46 → Q (.inl none) σ46))) ∧ (x1 = 7 → (∃ σ49 : aH, Ev sc d mX5_readOfStall [.ref 1, .int (nZ x1), .ref (v + 1)] σ (.inl none) σ49 ∧ G σ49 u ∧ Q (.inl none) σ49)) ∧ (x1 = 8 → (∃ (r57 : Int) (σ53 : aH), Ev sc d mX5_readNumber [.ref 1, .int (nZ 0), .int (nZ 1440)] σ (.inl (some (.int (nZ r57)))) σ53 ∧ G σ53 u ∧ inR r57 ∧ (∀ σ58 : aH, wI σ53 v 6 r57 = σ58 → Q (.inl none) σ58))) ∧ (x1 = 9 → (∃ (r65 : Int) (σ61 : aH), Ev sc d mX5_readNumber [.ref 1, .int (nZ 0), .int (nZ 8)] σ (.inl (some (.int (nZ r65)))) σ61 ∧ G σ61 u ∧ inR r65 ∧ (∀ σ66 : aH, wI σ61 v 7 r65 = σ66 → Q (.inl none) σ66))))) :
    T sc (d + 1) mX5_readNumbers [.ref 1, .int (nZ x1), .ref v] σ Q := by
  refine T.of (c := 5) (code := cX5_readNumbers) (mL := 3) (rt := none) (ini := false) (l := [(0, .ref 1), (1, .int (nZ x1)), (2, .ref v)]) rfl rfl rfl rfl (by decide) hs_X5_readNumbers rfl rfl ?_
  refine w_iload_n dX5_readNumbers_0 rfl (List.Mem.tail _ (List.Mem.head _)) ?_
  rcases sw_cases x1 0 9 with hz | hz
  · replace h := h.1 hz
    refine i_tabOut (tgt := 149) dX5_readNumbers_1 rx1 hz rfl ?_
    refine w_aload_n dX5_readNumbers_149 rfl (List.Mem.head _) ?_
    refine w_iload_n dX5_readNumbers_150 rfl (List.Mem.tail _ (List.Mem.head _)) ?_
    refine w_aload_n dX5_readNumbers_151 rfl (List.Mem.tail _ (List.Mem.tail _ (List.Mem.head _))) ?_
    refine w_getR (ci := 2) (k := 0) (b := (v + 1)) dX5_readNumbers_152 fl_5_117 (by decide) (gT hG (IsMk_t0 hv) (IsMk_lt hv (k := 0) (by decide))) (gR hG (IsMk_r0_0 hv)) ?_
    obtain ⟨σ1, hc3, hG2, h⟩ := h
    refine w_callV dX5_readNumbers_155 ml_5_150 ⟨ok_X5_readOfStall, vi_X5_readOfStall⟩ hs_X5_readOfStall (As := [.int (nZ x1), .ref (v + 1)]) rfl rfl (gT hG rfl (lt_of rfl)) (Nat.le_of_ble_eq_true rfl) hc3 ?_
    show wp (Ev sc d) 5 cX5_readNumbers 3 none false [] sc Q 158 [(0, .ref 1), (1, .int (nZ x1)), (2, .ref v)] [] σ1
    exact w_vret dX5_readNumbers_158 rfl h
  · replace h := h.2
    by_cases hz0 : x1 = 0
    · refine i_tabIn (off := 55) (tgt := 56) 0 hz0 dX5_readNumbers_1 rx1 (by decide) (by decide) rfl rfl ?_
      replace h := h.1 hz0
      refine w_aload_n dX5_readNumbers_56 rfl (List.Mem.tail _ (List.Mem.tail _ (List.Mem.head _))) ?_
      refine w_aload_n dX5_readNumbers_57 rfl (List.Mem.head _) ?_
      refine w_iconst (v := nZ 2) dX5_readNumbers_58 (by decide) ?_
      refine w_bipush (v := nZ 9) dX5_readNumbers_59 (by decide) ?_
      obtain ⟨r9, σ5, hc7, hG6, rr8, h⟩ := h
      refine w_callV dX5_readNumbers_61 ml_5_126 ⟨ok_X5_readNumber, vi_X5_readNumber⟩ hs_X5_readNumber (As := [.int (nZ 2), .int (nZ 9)]) rfl rfl (gT hG rfl (lt_of rfl)) (Nat.le_of_ble_eq_true rfl) hc7 ?_
      show wp (Ev sc d) 5 cX5_readNumbers 3 none false [] sc Q 64 [(0, .ref 1), (1, .int (nZ x1)), (2, .ref v)] [.int (nZ r9), .ref v] σ5
      refine i_putI (ci := 2) 3 rfl dX5_readNumbers_64 fl_5_129 (by decide) (gT hG6 (IsMk_t0 hv) (IsMk_lt hv (k := 0) (by decide))) (fun σ10 eσ11 => ?_)
      replace h := h σ10 eσ11
      have hG12 : G σ10 u := eσ11 ▸ G.wI hG6
      refine w_aload_n dX5_readNumbers_67 rfl (List.Mem.tail _ (List.Mem.tail _ (List.Mem.head _))) ?_
      refine w_aload_n dX5_readNumbers_68 rfl (List.Mem.head _) ?_
      refine w_iconst (v := nZ 2) dX5_readNumbers_69 (by decide) ?_
      refine w_bipush (v := nZ 9) dX5_readNumbers_70 (by decide) ?_
      obtain ⟨r17, σ13, hc15, hG14, rr16, h⟩ := h
      refine w_callV dX5_readNumbers_72 ml_5_126 ⟨ok_X5_readNumber, vi_X5_readNumber⟩ hs_X5_readNumber (As := [.int (nZ 2), .int (nZ 9)]) rfl rfl (gT hG12 rfl (lt_of rfl)) (Nat.le_of_ble_eq_true rfl) hc15 ?_
      show wp (Ev sc d) 5 cX5_readNumbers 3 none false [] sc Q 75 [(0, .ref 1), (1, .int (nZ x1)), (2, .ref v)] [.int (nZ r17), .ref v] σ13
      refine i_putI (ci := 2) 4 rfl dX5_readNumbers_75 fl_5_132 (by decide) (gT hG14 (IsMk_t0 hv) (IsMk_lt hv (k := 0) (by decide))) (fun σ18 eσ19 => ?_)
      replace h := h σ18 eσ19
      have hG20 : G σ18 u := eσ19 ▸ G.wI hG14
      refine w_goto (tgt := 158) dX5_readNumbers_78 rfl ?_
      exact w_vret dX5_readNumbers_158 rfl h
    by_cases hz1 : x1 = 1
    · refine i_tabIn (off := 80) (tgt := 81) 1 hz1 dX5_readNumbers_1 rx1 (by decide) (by decide) rfl rfl ?_
      replace h := h.2.1 hz1
      refine w_aload_n dX5_readNumbers_81 rfl (List.Mem.head _) ?_
      refine w_aload_n dX5_readNumbers_82 rfl (List.Mem.tail _ (List.Mem.tail _ (List.Mem.head _))) ?_
      obtain ⟨σ21, hc23, hG22, h⟩ := h
      refine w_callV dX5_readNumbers_83 ml_5_135 ⟨ok_X5_readStall, vi_X5_readStall⟩ hs_X5_readStall (As := [.ref v]) rfl rfl (gT hG rfl (lt_of rfl)) (Nat.le_of_ble_eq_true rfl) hc23 ?_
      show wp (Ev sc d) 5 cX5_readNumbers 3 none false [] sc Q 86 [(0, .ref 1), (1, .int (nZ x1)), (2, .ref v)] [] σ21
      refine w_goto (tgt := 158) dX5_readNumbers_86 rfl ?_
      exact w_vret dX5_readNumbers_158 rfl h
    by_cases hz2 : x1 = 2
    · refine i_tabIn (off := 148) (tgt := 149) 2 hz2 dX5_readNumbers_1 rx1 (by decide) (by decide) rfl rfl ?_
      replace h := h.2.2.1 hz2
      refine w_aload_n dX5_readNumbers_149 rfl (List.Mem.head _) ?_
      refine w_iload_n dX5_readNumbers_150 rfl (List.Mem.tail _ (List.Mem.head _)) ?_
      refine w_aload_n dX5_readNumbers_151 rfl (List.Mem.tail _ (List.Mem.tail _ (List.Mem.head _))) ?_
      refine w_getR (ci := 2) (k := 0) (b := (v + 1)) dX5_readNumbers_152 fl_5_117 (by decide) (gT hG (IsMk_t0 hv) (IsMk_lt hv (k := 0) (by decide))) (gR hG (IsMk_r0_0 hv)) ?_
      obtain ⟨σ25, hc27, hG26, h⟩ := h
      refine w_callV dX5_readNumbers_155 ml_5_150 ⟨ok_X5_readOfStall, vi_X5_readOfStall⟩ hs_X5_readOfStall (As := [.int (nZ x1), .ref (v + 1)]) rfl rfl (gT hG rfl (lt_of rfl)) (Nat.le_of_ble_eq_true rfl) hc27 ?_
      show wp (Ev sc d) 5 cX5_readNumbers 3 none false [] sc Q 158 [(0, .ref 1), (1, .int (nZ x1)), (2, .ref v)] [] σ25
      exact w_vret dX5_readNumbers_158 rfl h
    by_cases hz3 : x1 = 3
    · refine i_tabIn (off := 148) (tgt := 149) 3 hz3 dX5_readNumbers_1 rx1 (by decide) (by decide) rfl rfl ?_
      replace h := h.2.2.2.1 hz3
      refine w_aload_n dX5_readNumbers_149 rfl (List.Mem.head _) ?_
      refine w_iload_n dX5_readNumbers_150 rfl (List.Mem.tail _ (List.Mem.head _)) ?_
      refine w_aload_n dX5_readNumbers_151 rfl (List.Mem.tail _ (List.Mem.tail _ (List.Mem.head _))) ?_
      refine w_getR (ci := 2) (k := 0) (b := (v + 1)) dX5_readNumbers_152 fl_5_117 (by decide) (gT hG (IsMk_t0 hv) (IsMk_lt hv (k := 0) (by decide))) (gR hG (IsMk_r0_0 hv)) ?_
      obtain ⟨σ29, hc31, hG30, h⟩ := h
      refine w_callV dX5_readNumbers_155 ml_5_150 ⟨ok_X5_readOfStall, vi_X5_readOfStall⟩ hs_X5_readOfStall (As := [.int (nZ x1), .ref (v + 1)]) rfl rfl (gT hG rfl (lt_of rfl)) (Nat.le_of_ble_eq_true rfl) hc31 ?_
      show wp (Ev sc d) 5 cX5_readNumbers 3 none false [] sc Q 158 [(0, .ref 1), (1, .int (nZ x1)), (2, .ref v)] [] σ29
      exact w_vret dX5_readNumbers_158 rfl h
    by_cases hz4 : x1 = 4
    · refine i_tabIn (off := 88) (tgt := 89) 4 hz4 dX5_readNumbers_1 rx1 (by decide) (by decide) rfl rfl ?_
      replace h := h.2.2.2.2.1 hz4
      refine w_aload_n dX5_readNumbers_89 rfl (List.Mem.head _) ?_
      refine w_aload_n dX5_readNumbers_90 rfl (List.Mem.tail _ (List.Mem.tail _ (List.Mem.head _))) ?_
      obtain ⟨σ33, hc35, hG34, h⟩ := h
      refine w_callV dX5_readNumbers_91 ml_5_138 ⟨ok_X5_readSun, vi_X5_readSun⟩ hs_X5_readSun (As := [.ref v]) rfl rfl (gT hG rfl (lt_of rfl)) (Nat.le_of_ble_eq_true rfl) hc35 ?_
      show wp (Ev sc d) 5 cX5_readNumbers 3 none false [] sc Q 94 [(0, .ref 1), (1, .int (nZ x1)), (2, .ref v)] [] σ33
      refine w_goto (tgt := 158) dX5_readNumbers_94 rfl ?_
      exact w_vret dX5_readNumbers_158 rfl h
    by_cases hz5 : x1 = 5
    · refine i_tabIn (off := 96) (tgt := 97) 5 hz5 dX5_readNumbers_1 rx1 (by decide) (by decide) rfl rfl ?_
      replace h := h.2.2.2.2.2.1 hz5
      refine w_aload_n dX5_readNumbers_97 rfl (List.Mem.head _) ?_
      refine w_aload_n dX5_readNumbers_98 rfl (List.Mem.tail _ (List.Mem.tail _ (List.Mem.head _))) ?_
      obtain ⟨σ37, hc39, hG38, h⟩ := h
      refine w_callV dX5_readNumbers_99 ml_5_141 ⟨ok_X5_readRate, vi_X5_readRate⟩ hs_X5_readRate (As := [.ref v]) rfl rfl (gT hG rfl (lt_of rfl)) (Nat.le_of_ble_eq_true rfl) hc39 ?_
      show wp (Ev sc d) 5 cX5_readNumbers 3 none false [] sc Q 102 [(0, .ref 1), (1, .int (nZ x1)), (2, .ref v)] [] σ37
      refine w_goto (tgt := 158) dX5_readNumbers_102 rfl ?_
      exact w_vret dX5_readNumbers_158 rfl h
    by_cases hz6 : x1 = 6
    · refine i_tabIn (off := 104) (tgt := 105) 6 hz6 dX5_readNumbers_1 rx1 (by decide) (by decide) rfl rfl ?_
      replace h := h.2.2.2.2.2.2.1 hz6
      refine w_aload_n dX5_readNumbers_105 rfl (List.Mem.tail _ (List.Mem.tail _ (List.Mem.head _))) ?_
      refine w_aload_n dX5_readNumbers_106 rfl (List.Mem.head _) ?_
      refine w_iconst (v := nZ 0) dX5_readNumbers_107 (by decide) ?_
      refine w_sipush (v := nZ 1440) dX5_readNumbers_108 (by decide) ?_
      obtain ⟨r45, σ41, hc43, hG42, rr44, h⟩ := h
      refine w_callV dX5_readNumbers_111 ml_5_126 ⟨ok_X5_readNumber, vi_X5_readNumber⟩ hs_X5_readNumber (As := [.int (nZ 0), .int (nZ 1440)]) rfl rfl (gT hG rfl (lt_of rfl)) (Nat.le_of_ble_eq_true rfl) hc43 ?_
      show wp (Ev sc d) 5 cX5_readNumbers 3 none false [] sc Q 114 [(0, .ref 1), (1, .int (nZ x1)), (2, .ref v)] [.int (nZ r45), .ref v] σ41
      refine i_putI (ci := 2) 5 rfl dX5_readNumbers_114 fl_5_144 (by decide) (gT hG42 (IsMk_t0 hv) (IsMk_lt hv (k := 0) (by decide))) (fun σ46 eσ47 => ?_)
      replace h := h σ46 eσ47
      have hG48 : G σ46 u := eσ47 ▸ G.wI hG42
      refine w_goto (tgt := 158) dX5_readNumbers_117 rfl ?_
      exact w_vret dX5_readNumbers_158 rfl h
    by_cases hz7 : x1 = 7
    · refine i_tabIn (off := 148) (tgt := 149) 7 hz7 dX5_readNumbers_1 rx1 (by decide) (by decide) rfl rfl ?_
      replace h := h.2.2.2.2.2.2.2.1 hz7
      refine w_aload_n dX5_readNumbers_149 rfl (List.Mem.head _) ?_
      refine w_iload_n dX5_readNumbers_150 rfl (List.Mem.tail _ (List.Mem.head _)) ?_
      refine w_aload_n dX5_readNumbers_151 rfl (List.Mem.tail _ (List.Mem.tail _ (List.Mem.head _))) ?_
      refine w_getR (ci := 2) (k := 0) (b := (v + 1)) dX5_readNumbers_152 fl_5_117 (by decide) (gT hG (IsMk_t0 hv) (IsMk_lt hv (k := 0) (by decide))) (gR hG (IsMk_r0_0 hv)) ?_
      obtain ⟨σ49, hc51, hG50, h⟩ := h
      refine w_callV dX5_readNumbers_155 ml_5_150 ⟨ok_X5_readOfStall, vi_X5_readOfStall⟩ hs_X5_readOfStall (As := [.int (nZ x1), .ref (v + 1)]) rfl rfl (gT hG rfl (lt_of rfl)) (Nat.le_of_ble_eq_true rfl) hc51 ?_
      show wp (Ev sc d) 5 cX5_readNumbers 3 none false [] sc Q 158 [(0, .ref 1), (1, .int (nZ x1)), (2, .ref v)] [] σ49
      exact w_vret dX5_readNumbers_158 rfl h
    by_cases hz8 : x1 = 8
    · refine i_tabIn (off := 119) (tgt := 120) 8 hz8 dX5_readNumbers_1 rx1 (by decide) (by decide) rfl rfl ?_
      replace h := h.2.2.2.2.2.2.2.2.1 hz8
      refine w_aload_n dX5_readNumbers_120 rfl (List.Mem.tail _ (List.Mem.tail _ (List.Mem.head _))) ?_
      refine w_aload_n dX5_readNumbers_121 rfl (List.Mem.head _) ?_
      refine w_iconst (v := nZ 0) dX5_readNumbers_122 (by decide) ?_
      refine w_sipush (v := nZ 1440) dX5_readNumbers_123 (by decide) ?_
      obtain ⟨r57, σ53, hc55, hG54, rr56, h⟩ := h
      refine w_callV dX5_readNumbers_126 ml_5_126 ⟨ok_X5_readNumber, vi_X5_readNumber⟩ hs_X5_readNumber (As := [.int (nZ 0), .int (nZ 1440)]) rfl rfl (gT hG rfl (lt_of rfl)) (Nat.le_of_ble_eq_true rfl) hc55 ?_
      show wp (Ev sc d) 5 cX5_readNumbers 3 none false [] sc Q 129 [(0, .ref 1), (1, .int (nZ x1)), (2, .ref v)] [.int (nZ r57), .ref v] σ53
      refine i_putI (ci := 2) 6 rfl dX5_readNumbers_129 fl_5_146 (by decide) (gT hG54 (IsMk_t0 hv) (IsMk_lt hv (k := 0) (by decide))) (fun σ58 eσ59 => ?_)
      replace h := h σ58 eσ59
      have hG60 : G σ58 u := eσ59 ▸ G.wI hG54
      refine w_goto (tgt := 158) dX5_readNumbers_132 rfl ?_
      exact w_vret dX5_readNumbers_158 rfl h
    have hz9 : x1 = 9 := by omega
    refine i_tabIn (off := 134) (tgt := 135) 9 hz9 dX5_readNumbers_1 rx1 (by decide) (by decide) rfl rfl ?_
    replace h := h.2.2.2.2.2.2.2.2.2 hz9
    refine w_aload_n dX5_readNumbers_135 rfl (List.Mem.tail _ (List.Mem.tail _ (List.Mem.head _))) ?_
    refine w_aload_n dX5_readNumbers_136 rfl (List.Mem.head _) ?_
    refine w_iconst (v := nZ 0) dX5_readNumbers_137 (by decide) ?_
    refine w_bipush (v := nZ 8) dX5_readNumbers_138 (by decide) ?_
    obtain ⟨r65, σ61, hc63, hG62, rr64, h⟩ := h
    refine w_callV dX5_readNumbers_140 ml_5_126 ⟨ok_X5_readNumber, vi_X5_readNumber⟩ hs_X5_readNumber (As := [.int (nZ 0), .int (nZ 8)]) rfl rfl (gT hG rfl (lt_of rfl)) (Nat.le_of_ble_eq_true rfl) hc63 ?_
    show wp (Ev sc d) 5 cX5_readNumbers 3 none false [] sc Q 143 [(0, .ref 1), (1, .int (nZ x1)), (2, .ref v)] [.int (nZ r65), .ref v] σ61
    refine i_putI (ci := 2) 7 rfl dX5_readNumbers_143 fl_5_148 (by decide) (gT hG62 (IsMk_t0 hv) (IsMk_lt hv (k := 0) (by decide))) (fun σ66 eσ67 => ?_)
    replace h := h σ66 eσ67
    have hG68 : G σ66 u := eσ67 ▸ G.wI hG62
    refine w_goto (tgt := 158) dX5_readNumbers_146 rfl ?_
    exact w_vret dX5_readNumbers_158 rfl h
theorem dX5_readStall_0 : decode cX5_readStall 0 = .ok (.aload_n 0, 1) := by decide +kernel
theorem dX5_readStall_1 : decode cX5_readStall 1 = .ok (.iconst 0, 1) := by decide +kernel
theorem dX5_readStall_2 : decode cX5_readStall 2 = .ok (.aload_n 1, 1) := by decide +kernel
theorem dX5_readStall_3 : decode cX5_readStall 3 = .ok (.getfield 129, 3) := by decide +kernel
theorem dX5_readStall_6 : decode cX5_readStall 6 = .ok (.iconst 1, 1) := by decide +kernel
theorem dX5_readStall_7 : decode cX5_readStall 7 = .ok (.isub, 1) := by decide +kernel
theorem dX5_readStall_8 : decode cX5_readStall 8 = .ok (.invokevirtual 126, 3) := by decide +kernel
theorem dX5_readStall_11 : decode cX5_readStall 11 = .ok (.istore_n 2, 1) := by decide +kernel
theorem dX5_readStall_12 : decode cX5_readStall 12 = .ok (.aload_n 0, 1) := by decide +kernel
theorem dX5_readStall_13 : decode cX5_readStall 13 = .ok (.invokevirtual 51, 3) := by decide +kernel
theorem dX5_readStall_16 : decode cX5_readStall 16 = .ok (.aload_n 0, 1) := by decide +kernel
theorem dX5_readStall_17 : decode cX5_readStall 17 = .ok (.getfield 22, 3) := by decide +kernel
theorem dX5_readStall_20 : decode cX5_readStall 20 = .ok (.istore_n 3, 1) := by decide +kernel
theorem dX5_readStall_21 : decode cX5_readStall 21 = .ok (.aload_n 0, 1) := by decide +kernel
theorem dX5_readStall_22 : decode cX5_readStall 22 = .ok (.iconst 0, 1) := by decide +kernel
theorem dX5_readStall_23 : decode cX5_readStall 23 = .ok (.aload_n 1, 1) := by decide +kernel
theorem dX5_readStall_24 : decode cX5_readStall 24 = .ok (.getfield 132, 3) := by decide +kernel
theorem dX5_readStall_27 : decode cX5_readStall 27 = .ok (.iconst 1, 1) := by decide +kernel
theorem dX5_readStall_28 : decode cX5_readStall 28 = .ok (.isub, 1) := by decide +kernel
theorem dX5_readStall_29 : decode cX5_readStall 29 = .ok (.invokevirtual 126, 3) := by decide +kernel
theorem dX5_readStall_32 : decode cX5_readStall 32 = .ok (.istore 4, 2) := by decide +kernel
theorem dX5_readStall_34 : decode cX5_readStall 34 = .ok (.aload_n 1, 1) := by decide +kernel
theorem dX5_readStall_35 : decode cX5_readStall 35 = .ok (.getfield 117, 3) := by decide +kernel
theorem dX5_readStall_38 : decode cX5_readStall 38 = .ok (.iload_n 2, 1) := by decide +kernel
theorem dX5_readStall_39 : decode cX5_readStall 39 = .ok (.iload 4, 2) := by decide +kernel
theorem dX5_readStall_41 : decode cX5_readStall 41 = .ok (.invokevirtual 154, 3) := by decide +kernel
theorem dX5_readStall_44 : decode cX5_readStall 44 = .ok (.iconst (-1), 1) := by decide +kernel
theorem dX5_readStall_45 : decode cX5_readStall 45 = .ok (.if_icmp .eq 9, 3) := by decide +kernel
theorem dX5_readStall_48 : decode cX5_readStall 48 = .ok (.aload_n 0, 1) := by decide +kernel
theorem dX5_readStall_49 : decode cX5_readStall 49 = .ok (.iconst 2, 1) := by decide +kernel
theorem dX5_readStall_50 : decode cX5_readStall 50 = .ok (.iload_n 3, 1) := by decide +kernel
theorem dX5_readStall_51 : decode cX5_readStall 51 = .ok (.invokevirtual 65, 3) := by decide +kernel
theorem dX5_readStall_54 : decode cX5_readStall 54 = .ok (.aload_n 0, 1) := by decide +kernel
theorem dX5_readStall_55 : decode cX5_readStall 55 = .ok (.iconst 0, 1) := by decide +kernel
theorem dX5_readStall_56 : decode cX5_readStall 56 = .ok (.bipush 40, 2) := by decide +kernel
theorem dX5_readStall_58 : decode cX5_readStall 58 = .ok (.invokevirtual 126, 3) := by decide +kernel
theorem dX5_readStall_61 : decode cX5_readStall 61 = .ok (.istore 5, 2) := by decide +kernel
theorem dX5_readStall_63 : decode cX5_readStall 63 = .ok (.aload_n 1, 1) := by decide +kernel
theorem dX5_readStall_64 : decode cX5_readStall 64 = .ok (.getfield 117, 3) := by decide +kernel
theorem dX5_readStall_67 : decode cX5_readStall 67 = .ok (.iload_n 2, 1) := by decide +kernel
theorem dX5_readStall_68 : decode cX5_readStall 68 = .ok (.iload 4, 2) := by decide +kernel
theorem dX5_readStall_70 : decode cX5_readStall 70 = .ok (.iload 5, 2) := by decide +kernel
theorem dX5_readStall_72 : decode cX5_readStall 72 = .ok (.invokevirtual 157, 3) := by decide +kernel
theorem dX5_readStall_75 : decode cX5_readStall 75 = .ok (.return_, 1) := by decide +kernel
set_option maxRecDepth 10000 in
theorem t_X5_readStall {sc : Nat × (Nat → Int32)} {d : Nat} {Q : aO → aH → Prop} {σ : aH} {u : Nat} {v : Nat}  (hG : G σ u) (hv : IsMk v)
    (h : (inR ((rI σ v 3) - 1) ∧ (∃ (r6 : Int) (σ2 : aH), Ev sc d mX5_readNumber [.ref 1, .int (nZ 0), .int (nZ ((rI σ v 3) - 1))] σ (.inl (some (.int (nZ r6)))) σ2 ∧ G σ2 u ∧ inR r6 ∧ (∃ σ7 : aH, Ev sc d mX5_skipBlanks [.ref 1] σ2 (.inl none) σ7 ∧ G σ7 u ∧ (∀ z11 : Int, z11 = (rI σ7 1 3) → (inR ((rI σ7 v 4) - 1) ∧ (∃ (r19 : Int) (σ15 : aH), Ev sc d mX5_readNumber [.ref 1, .int (nZ 0), .int (nZ ((rI σ7 v 4) - 1))] σ7 (.inl (some (.int (nZ r19)))) σ15 ∧ G σ15 u ∧ inR r19 ∧ (∃ (r24 : Int) (σ20 : aH), Ev sc d mX7_whoIsAt [.ref (v + 1), .int (nZ r6), .int (nZ r19)] σ15 (.inl (some (.int (nZ r24)))) σ20 ∧ G σ20 u ∧ inR r24 ∧ ((r24 = (-1) → (∃ (r29 : Int) (σ25 : aH), Ev sc d mX5_readNumber [.ref 1, .int (nZ 0), .int (nZ 40)] σ20 (.inl (some (.int (nZ r29)))) σ25 ∧ G σ25 u ∧ inR r29 ∧ (∃ σ30 : aH, Ev sc d mX7_add [.ref (v + 1), .int (nZ r6), .int (nZ r19), .int (nZ r29)] σ25 (.inl none) σ30 ∧ G σ30 u ∧ Q (.inl none) σ30))) ∧ (¬ (r24 = (-1)) → (∃ σ34 : aH, Ev sc d mX5_blame [.ref 1, .int (nZ 2), .int (nZ z11)] σ20 (.inl none) σ34 ∧ G σ34 u ∧ (∃ (r42 : Int) (σ38 : aH), Ev sc d mX5_readNumber [.ref 1, .int (nZ 0), .int (nZ 40)] σ34 (.inl (some (.int (nZ r42)))) σ38 ∧ G σ38 u ∧ inR r42 ∧ (∃ σ43 : aH, Ev sc d mX7_add [.ref (v + 1), .int (nZ r6), .int (nZ r19), .int (nZ r42)] σ38 (.inl none) σ43 ∧ G σ43 u ∧ Q (.inl none) σ43))))))))))))) :
    T sc (d + 1) mX5_readStall [.ref 1, .ref v] σ Q := by
  refine T.of (c := 5) (code := cX5_readStall) (mL := 6) (rt := none) (ini := false) (l := [(0, .ref 1), (1, .ref v)]) rfl rfl rfl rfl (by decide) hs_X5_readStall rfl rfl ?_
  refine w_aload_n dX5_readStall_0 rfl (List.Mem.head _) ?_
  refine w_iconst (v := nZ 0) dX5_readStall_1 (by decide) ?_
  refine w_aload_n dX5_readStall_2 rfl (List.Mem.tail _ (List.Mem.head _)) ?_
  refine i_getI (ci := 2) 3 rfl dX5_readStall_3 fl_5_129 (by decide) (gT hG (IsMk_t0 hv) (IsMk_lt hv (k := 0) (by decide))) ?_
  refine w_iconst (v := nZ 1) dX5_readStall_6 (by decide) ?_
  obtain ⟨q1, h⟩ := h
  refine i_sub dX5_readStall_7 ?_
  obtain ⟨r6, σ2, hc4, hG3, rr5, h⟩ := h
  refine w_callV dX5_readStall_8 ml_5_126 ⟨ok_X5_readNumber, vi_X5_readNumber⟩ hs_X5_readNumber (As := [.int (nZ 0), .int (nZ ((rI σ v 3) - 1))]) rfl rfl (gT hG rfl (lt_of rfl)) (Nat.le_of_ble_eq_true rfl) hc4 ?_
  show wp (Ev sc d) 5 cX5_readStall 6 none false [] sc Q 11 [(0, .ref 1), (1, .ref v)] [.int (nZ r6)] σ2
  refine w_istore_n (l' := [(2, .int (nZ r6)), (0, .ref 1), (1, .ref v)]) dX5_readStall_11 rfl (by decide) rfl ?_
  refine w_aload_n dX5_readStall_12 rfl (List.Mem.tail _ (List.Mem.head _)) ?_
  obtain ⟨σ7, hc9, hG8, h⟩ := h
  refine w_callV dX5_readStall_13 ml_5_51 ⟨ok_X5_skipBlanks, vi_X5_skipBlanks⟩ hs_X5_skipBlanks (As := []) rfl rfl (gT hG3 rfl (lt_of rfl)) (Nat.le_of_ble_eq_true rfl) hc9 ?_
  show wp (Ev sc d) 5 cX5_readStall 6 none false [] sc Q 16 [(2, .int (nZ r6)), (0, .ref 1), (1, .ref v)] [] σ7
  refine w_aload_n dX5_readStall_16 rfl (List.Mem.tail _ (List.Mem.head _)) ?_
  refine i_getI (ci := 5) 3 rfl dX5_readStall_17 fl_5_22 (by decide) (gT hG8 rfl (lt_of rfl)) ?_
  refine top_i (fun z11 ez12 => ?_)
  have rz13 : inR z11 := ez12 ▸ (rI_R _ _ _)
  replace h := h z11 ez12
  refine w_istore_n (l' := [(3, .int (nZ z11)), (2, .int (nZ r6)), (0, .ref 1), (1, .ref v)]) dX5_readStall_20 rfl (by decide) rfl ?_
  refine w_aload_n dX5_readStall_21 rfl (List.Mem.tail _ (List.Mem.tail _ (List.Mem.head _))) ?_
  refine w_iconst (v := nZ 0) dX5_readStall_22 (by decide) ?_
  refine w_aload_n dX5_readStall_23 rfl (List.Mem.tail _ (List.Mem.tail _ (List.Mem.tail _ (List.Mem.head _)))) ?_
  refine i_getI (ci := 2) 4 rfl dX5_readStall_24 fl_5_132 (by decide) (gT hG8 (IsMk_t0 hv) (IsMk_lt hv (k := 0) (by decide))) ?_
  refine w_iconst (v := nZ 1) dX5_readStall_27 (by decide) ?_
  obtain ⟨q14, h⟩ := h
  refine i_sub dX5_readStall_28 ?_
  obtain ⟨r19, σ15, hc17, hG16, rr18, h⟩ := h
  refine w_callV dX5_readStall_29 ml_5_126 ⟨ok_X5_readNumber, vi_X5_readNumber⟩ hs_X5_readNumber (As := [.int (nZ 0), .int (nZ ((rI σ7 v 4) - 1))]) rfl rfl (gT hG8 rfl (lt_of rfl)) (Nat.le_of_ble_eq_true rfl) hc17 ?_
  show wp (Ev sc d) 5 cX5_readStall 6 none false [] sc Q 32 [(3, .int (nZ z11)), (2, .int (nZ r6)), (0, .ref 1), (1, .ref v)] [.int (nZ r19)] σ15
  refine w_istore (l' := [(4, .int (nZ r19)), (3, .int (nZ z11)), (2, .int (nZ r6)), (0, .ref 1), (1, .ref v)]) dX5_readStall_32 (by decide) rfl ?_
  refine w_aload_n dX5_readStall_34 rfl (List.Mem.tail _ (List.Mem.tail _ (List.Mem.tail _ (List.Mem.tail _ (List.Mem.head _))))) ?_
  refine w_getR (ci := 2) (k := 0) (b := (v + 1)) dX5_readStall_35 fl_5_117 (by decide) (gT hG16 (IsMk_t0 hv) (IsMk_lt hv (k := 0) (by decide))) (gR hG16 (IsMk_r0_0 hv)) ?_
  refine w_iload_n dX5_readStall_38 rfl (List.Mem.tail _ (List.Mem.tail _ (List.Mem.head _))) ?_
  refine w_iload dX5_readStall_39 (List.Mem.head _) ?_
  obtain ⟨r24, σ20, hc22, hG21, rr23, h⟩ := h
  refine w_callV dX5_readStall_41 ml_5_154 ⟨ok_X7_whoIsAt, vi_X7_whoIsAt⟩ hs_X7_whoIsAt (As := [.int (nZ r6), .int (nZ r19)]) rfl rfl (gT hG16 (IsMk_t1 hv) (IsMk_lt hv (k := 1) (by decide))) (Nat.le_of_ble_eq_true rfl) hc22 ?_
  show wp (Ev sc d) 5 cX5_readStall 6 none false [] sc Q 44 [(4, .int (nZ r19)), (3, .int (nZ z11)), (2, .int (nZ r6)), (0, .ref 1), (1, .ref v)] [.int (nZ r24)] σ20
  refine w_iconst (v := nZ (-1)) dX5_readStall_44 (by decide) ?_
  refine i_cmp_eq (tgt := 54) dX5_readStall_45 rfl rr23 (by decide) (fun c9 => ?_) (fun c9 => ?_)
  · replace h := h.1 c9
    refine w_aload_n dX5_readStall_54 rfl (List.Mem.tail _ (List.Mem.tail _ (List.Mem.tail _ (List.Mem.head _)))) ?_
    refine w_iconst (v := nZ 0) dX5_readStall_55 (by decide) ?_
    refine w_bipush (v := nZ 40) dX5_readStall_56 (by decide) ?_
    obtain ⟨r29, σ25, hc27, hG26, rr28, h⟩ := h
    refine w_callV dX5_readStall_58 ml_5_126 ⟨ok_X5_readNumber, vi_X5_readNumber⟩ hs_X5_readNumber (As := [.int (nZ 0), .int (nZ 40)]) rfl rfl (gT hG21 rfl (lt_of rfl)) (Nat.le_of_ble_eq_true rfl) hc27 ?_
    show wp (Ev sc d) 5 cX5_readStall 6 none false [] sc Q 61 [(4, .int (nZ r19)), (3, .int (nZ z11)), (2, .int (nZ r6)), (0, .ref 1), (1, .ref v)] [.int (nZ r29)] σ25
    refine w_istore (l' := [(5, .int (nZ r29)), (4, .int (nZ r19)), (3, .int (nZ z11)), (2, .int (nZ r6)), (0, .ref 1), (1, .ref v)]) dX5_readStall_61 (by decide) rfl ?_
    refine w_aload_n dX5_readStall_63 rfl (List.Mem.tail _ (List.Mem.tail _ (List.Mem.tail _ (List.Mem.tail _ (List.Mem.tail _ (List.Mem.head _)))))) ?_
    refine w_getR (ci := 2) (k := 0) (b := (v + 1)) dX5_readStall_64 fl_5_117 (by decide) (gT hG26 (IsMk_t0 hv) (IsMk_lt hv (k := 0) (by decide))) (gR hG26 (IsMk_r0_0 hv)) ?_
    refine w_iload_n dX5_readStall_67 rfl (List.Mem.tail _ (List.Mem.tail _ (List.Mem.tail _ (List.Mem.head _)))) ?_
    refine w_iload dX5_readStall_68 (List.Mem.tail _ (List.Mem.head _)) ?_
    refine w_iload dX5_readStall_70 (List.Mem.head _) ?_
    obtain ⟨σ30, hc32, hG31, h⟩ := h
    refine w_callV dX5_readStall_72 ml_5_157 ⟨ok_X7_add, vi_X7_add⟩ hs_X7_add (As := [.int (nZ r6), .int (nZ r19), .int (nZ r29)]) rfl rfl (gT hG26 (IsMk_t1 hv) (IsMk_lt hv (k := 1) (by decide))) (Nat.le_of_ble_eq_true rfl) hc32 ?_
    show wp (Ev sc d) 5 cX5_readStall 6 none false [] sc Q 75 [(5, .int (nZ r29)), (4, .int (nZ r19)), (3, .int (nZ z11)), (2, .int (nZ r6)), (0, .ref 1), (1, .ref v)] [] σ30
    exact w_vret dX5_readStall_75 rfl h
  · replace h := h.2 c9
    refine w_aload_n dX5_readStall_48 rfl (List.Mem.tail _ (List.Mem.tail _ (List.Mem.tail _ (List.Mem.head _)))) ?_
    refine w_iconst (v := nZ 2) dX5_readStall_49 (by decide) ?_
    refine w_iload_n dX5_readStall_50 rfl (List.Mem.tail _ (List.Mem.head _)) ?_
    obtain ⟨σ34, hc36, hG35, h⟩ := h
    refine w_callV dX5_readStall_51 ml_5_65 ⟨ok_X5_blame, vi_X5_blame⟩ hs_X5_blame (As := [.int (nZ 2), .int (nZ z11)]) rfl rfl (gT hG21 rfl (lt_of rfl)) (Nat.le_of_ble_eq_true rfl) hc36 ?_
    show wp (Ev sc d) 5 cX5_readStall 6 none false [] sc Q 54 [(4, .int (nZ r19)), (3, .int (nZ z11)), (2, .int (nZ r6)), (0, .ref 1), (1, .ref v)] [] σ34
    refine w_aload_n dX5_readStall_54 rfl (List.Mem.tail _ (List.Mem.tail _ (List.Mem.tail _ (List.Mem.head _)))) ?_
    refine w_iconst (v := nZ 0) dX5_readStall_55 (by decide) ?_
    refine w_bipush (v := nZ 40) dX5_readStall_56 (by decide) ?_
    obtain ⟨r42, σ38, hc40, hG39, rr41, h⟩ := h
    refine w_callV dX5_readStall_58 ml_5_126 ⟨ok_X5_readNumber, vi_X5_readNumber⟩ hs_X5_readNumber (As := [.int (nZ 0), .int (nZ 40)]) rfl rfl (gT hG35 rfl (lt_of rfl)) (Nat.le_of_ble_eq_true rfl) hc40 ?_
    show wp (Ev sc d) 5 cX5_readStall 6 none false [] sc Q 61 [(4, .int (nZ r19)), (3, .int (nZ z11)), (2, .int (nZ r6)), (0, .ref 1), (1, .ref v)] [.int (nZ r42)] σ38
    refine w_istore (l' := [(5, .int (nZ r42)), (4, .int (nZ r19)), (3, .int (nZ z11)), (2, .int (nZ r6)), (0, .ref 1), (1, .ref v)]) dX5_readStall_61 (by decide) rfl ?_
    refine w_aload_n dX5_readStall_63 rfl (List.Mem.tail _ (List.Mem.tail _ (List.Mem.tail _ (List.Mem.tail _ (List.Mem.tail _ (List.Mem.head _)))))) ?_
    refine w_getR (ci := 2) (k := 0) (b := (v + 1)) dX5_readStall_64 fl_5_117 (by decide) (gT hG39 (IsMk_t0 hv) (IsMk_lt hv (k := 0) (by decide))) (gR hG39 (IsMk_r0_0 hv)) ?_
    refine w_iload_n dX5_readStall_67 rfl (List.Mem.tail _ (List.Mem.tail _ (List.Mem.tail _ (List.Mem.head _)))) ?_
    refine w_iload dX5_readStall_68 (List.Mem.tail _ (List.Mem.head _)) ?_
    refine w_iload dX5_readStall_70 (List.Mem.head _) ?_
    obtain ⟨σ43, hc45, hG44, h⟩ := h
    refine w_callV dX5_readStall_72 ml_5_157 ⟨ok_X7_add, vi_X7_add⟩ hs_X7_add (As := [.int (nZ r6), .int (nZ r19), .int (nZ r42)]) rfl rfl (gT hG39 (IsMk_t1 hv) (IsMk_lt hv (k := 1) (by decide))) (Nat.le_of_ble_eq_true rfl) hc45 ?_
    show wp (Ev sc d) 5 cX5_readStall 6 none false [] sc Q 75 [(5, .int (nZ r42)), (4, .int (nZ r19)), (3, .int (nZ z11)), (2, .int (nZ r6)), (0, .ref 1), (1, .ref v)] [] σ43
    exact w_vret dX5_readStall_75 rfl h
theorem dX5_readSun_0 : decode cX5_readSun 0 = .ok (.aload_n 0, 1) := by decide +kernel
theorem dX5_readSun_1 : decode cX5_readSun 1 = .ok (.dup, 1) := by decide +kernel
theorem dX5_readSun_2 : decode cX5_readSun 2 = .ok (.getfield 34, 3) := by decide +kernel
theorem dX5_readSun_5 : decode cX5_readSun 5 = .ok (.iconst 1, 1) := by decide +kernel
theorem dX5_readSun_6 : decode cX5_readSun 6 = .ok (.iadd, 1) := by decide +kernel
theorem dX5_readSun_7 : decode cX5_readSun 7 = .ok (.putfield 34, 3) := by decide +kernel
theorem dX5_readSun_10 : decode cX5_readSun 10 = .ok (.aload_n 0, 1) := by decide +kernel
theorem dX5_readSun_11 : decode cX5_readSun 11 = .ok (.iconst 0, 1) := by decide +kernel
theorem dX5_readSun_12 : decode cX5_readSun 12 = .ok (.sipush 1439, 3) := by decide +kernel
theorem dX5_readSun_15 : decode cX5_readSun 15 = .ok (.invokevirtual 126, 3) := by decide +kernel
theorem dX5_readSun_18 : decode cX5_readSun 18 = .ok (.istore_n 2, 1) := by decide +kernel
theorem dX5_readSun_19 : decode cX5_readSun 19 = .ok (.aload_n 0, 1) := by decide +kernel
theorem dX5_readSun_20 : decode cX5_readSun 20 = .ok (.iconst 0, 1) := by decide +kernel
theorem dX5_readSun_21 : decode cX5_readSun 21 = .ok (.iconst 2, 1) := by decide +kernel
theorem dX5_readSun_22 : decode cX5_readSun 22 = .ok (.invokevirtual 126, 3) := by decide +kernel
theorem dX5_readSun_25 : decode cX5_readSun 25 = .ok (.istore_n 3, 1) := by decide +kernel
theorem dX5_readSun_26 : decode cX5_readSun 26 = .ok (.iload_n 3, 1) := by decide +kernel
theorem dX5_readSun_27 : decode cX5_readSun 27 = .ok (.iconst 3, 1) := by decide +kernel
theorem dX5_readSun_28 : decode cX5_readSun 28 = .ok (.aload_n 0, 1) := by decide +kernel
theorem dX5_readSun_29 : decode cX5_readSun 29 = .ok (.iconst 0, 1) := by decide +kernel
theorem dX5_readSun_30 : decode cX5_readSun 30 = .ok (.iconst 2, 1) := by decide +kernel
theorem dX5_readSun_31 : decode cX5_readSun 31 = .ok (.invokevirtual 126, 3) := by decide +kernel
theorem dX5_readSun_34 : decode cX5_readSun 34 = .ok (.imul, 1) := by decide +kernel
theorem dX5_readSun_35 : decode cX5_readSun 35 = .ok (.iadd, 1) := by decide +kernel
theorem dX5_readSun_36 : decode cX5_readSun 36 = .ok (.istore_n 3, 1) := by decide +kernel
theorem dX5_readSun_37 : decode cX5_readSun 37 = .ok (.aload_n 1, 1) := by decide +kernel
theorem dX5_readSun_38 : decode cX5_readSun 38 = .ok (.getfield 161, 3) := by decide +kernel
theorem dX5_readSun_41 : decode cX5_readSun 41 = .ok (.iload_n 2, 1) := by decide +kernel
theorem dX5_readSun_42 : decode cX5_readSun 42 = .ok (.bipush 10, 2) := by decide +kernel
theorem dX5_readSun_44 : decode cX5_readSun 44 = .ok (.iload_n 3, 1) := by decide +kernel
theorem dX5_readSun_45 : decode cX5_readSun 45 = .ok (.imul, 1) := by decide +kernel
theorem dX5_readSun_46 : decode cX5_readSun 46 = .ok (.aload_n 0, 1) := by decide +kernel
theorem dX5_readSun_47 : decode cX5_readSun 47 = .ok (.iconst 0, 1) := by decide +kernel
theorem dX5_readSun_48 : decode cX5_readSun 48 = .ok (.bipush 9, 2) := by decide +kernel
theorem dX5_readSun_50 : decode cX5_readSun 50 = .ok (.invokevirtual 126, 3) := by decide +kernel
theorem dX5_readSun_53 : decode cX5_readSun 53 = .ok (.iadd, 1) := by decide +kernel
theorem dX5_readSun_54 : decode cX5_readSun 54 = .ok (.invokevirtual 164, 3) := by decide +kernel
theorem dX5_readSun_57 : decode cX5_readSun 57 = .ok (.return_, 1) := by decide +kernel
set_option maxRecDepth 10000 in
theorem t_X5_readSun {sc : Nat × (Nat → Int32)} {d : Nat} {Q : aO → aH → Prop} {σ : aH} {u : Nat} {v : Nat}  (hG : G σ u) (hv : IsMk v)
    (h : (inR ((rI σ 1 7) + 1) ∧ (∀ σ2 : aH, wI σ 1 7 ((rI σ 1 7) + 1) = σ2 → (∃ (r9 : Int) (σ5 : aH), Ev sc d mX5_readNumber [.ref 1, .int (nZ 0), .int (nZ 1439)] σ2 (.inl (some (.int (nZ r9)))) σ5 ∧ G σ5 u ∧ inR r9 ∧ (∃ (r14 : Int) (σ10 : aH), Ev sc d mX5_readNumber [.ref 1, .int (nZ 0), .int (nZ 2)] σ5 (.inl (some (.int (nZ r14)))) σ10 ∧ G σ10 u ∧ inR r14 ∧ (∃ (r19 : Int) (σ15 : aH), Ev sc d mX5_readNumber [.ref 1, .int (nZ 0), .int (nZ 2)] σ10 (.inl (some (.int (nZ r19)))) σ15 ∧ G σ15 u ∧ inR r19 ∧ (inR (3 * r19) ∧ (inR (r14 + (3 * r19)) ∧ (∀ z22 : Int, z22 = (r14 + (3 * r19)) → (inR (10 * z22) ∧ (∃ (r30 : Int) (σ26 : aH), Ev sc d mX5_readNumber [.ref 1, .int (nZ 0), .int (nZ 9)] σ15 (.inl (some (.int (nZ r30)))) σ26 ∧ G σ26 u ∧ inR r30 ∧ (inR ((10 * z22) + r30) ∧ (∃ σ32 : aH, Ev sc d mX0_tell [.ref (v + 10), .int (nZ r9), .int (nZ ((10 * z22) + r30))] σ26 (.inl none) σ32 ∧ G σ32 u ∧ Q (.inl none) σ32))))))))))))) :
    T sc (d + 1) mX5_readSun [.ref 1, .ref v] σ Q := by
  refine T.of (c := 5) (code := cX5_readSun) (mL := 4) (rt := none) (ini := false) (l := [(0, .ref 1), (1, .ref v)]) rfl rfl rfl rfl (by decide) hs_X5_readSun rfl rfl ?_
  refine w_aload_n dX5_readSun_0 rfl (List.Mem.head _) ?_
  refine w_dup dX5_readSun_1 rfl ?_
  refine i_getI (ci := 5) 7 rfl dX5_readSun_2 fl_5_34 (by decide) (gT hG rfl (lt_of rfl)) ?_
  refine w_iconst (v := nZ 1) dX5_readSun_5 (by decide) ?_
  obtain ⟨q1, h⟩ := h
  refine i_add dX5_readSun_6 ?_
  refine i_putI (ci := 5) 7 rfl dX5_readSun_7 fl_5_34 (by decide) (gT hG rfl (lt_of rfl)) (fun σ2 eσ3 => ?_)
  replace h := h σ2 eσ3
  have hG4 : G σ2 u := eσ3 ▸ G.wI hG
  refine w_aload_n dX5_readSun_10 rfl (List.Mem.head _) ?_
  refine w_iconst (v := nZ 0) dX5_readSun_11 (by decide) ?_
  refine w_sipush (v := nZ 1439) dX5_readSun_12 (by decide) ?_
  obtain ⟨r9, σ5, hc7, hG6, rr8, h⟩ := h
  refine w_callV dX5_readSun_15 ml_5_126 ⟨ok_X5_readNumber, vi_X5_readNumber⟩ hs_X5_readNumber (As := [.int (nZ 0), .int (nZ 1439)]) rfl rfl (gT hG4 rfl (lt_of rfl)) (Nat.le_of_ble_eq_true rfl) hc7 ?_
  show wp (Ev sc d) 5 cX5_readSun 4 none false [] sc Q 18 [(0, .ref 1), (1, .ref v)] [.int (nZ r9)] σ5
  refine w_istore_n (l' := [(2, .int (nZ r9)), (0, .ref 1), (1, .ref v)]) dX5_readSun_18 rfl (by decide) rfl ?_
  refine w_aload_n dX5_readSun_19 rfl (List.Mem.tail _ (List.Mem.head _)) ?_
  refine w_iconst (v := nZ 0) dX5_readSun_20 (by decide) ?_
  refine w_iconst (v := nZ 2) dX5_readSun_21 (by decide) ?_
  obtain ⟨r14, σ10, hc12, hG11, rr13, h⟩ := h
  refine w_callV dX5_readSun_22 ml_5_126 ⟨ok_X5_readNumber, vi_X5_readNumber⟩ hs_X5_readNumber (As := [.int (nZ 0), .int (nZ 2)]) rfl rfl (gT hG6 rfl (lt_of rfl)) (Nat.le_of_ble_eq_true rfl) hc12 ?_
  show wp (Ev sc d) 5 cX5_readSun 4 none false [] sc Q 25 [(2, .int (nZ r9)), (0, .ref 1), (1, .ref v)] [.int (nZ r14)] σ10
  refine w_istore_n (l' := [(3, .int (nZ r14)), (2, .int (nZ r9)), (0, .ref 1), (1, .ref v)]) dX5_readSun_25 rfl (by decide) rfl ?_
  refine w_iload_n dX5_readSun_26 rfl (List.Mem.head _) ?_
  refine w_iconst (v := nZ 3) dX5_readSun_27 (by decide) ?_
  refine w_aload_n dX5_readSun_28 rfl (List.Mem.tail _ (List.Mem.tail _ (List.Mem.head _))) ?_
  refine w_iconst (v := nZ 0) dX5_readSun_29 (by decide) ?_
  refine w_iconst (v := nZ 2) dX5_readSun_30 (by decide) ?_
  obtain ⟨r19, σ15, hc17, hG16, rr18, h⟩ := h
  refine w_callV dX5_readSun_31 ml_5_126 ⟨ok_X5_readNumber, vi_X5_readNumber⟩ hs_X5_readNumber (As := [.int (nZ 0), .int (nZ 2)]) rfl rfl (gT hG11 rfl (lt_of rfl)) (Nat.le_of_ble_eq_true rfl) hc17 ?_
  show wp (Ev sc d) 5 cX5_readSun 4 none false [] sc Q 34 [(3, .int (nZ r14)), (2, .int (nZ r9)), (0, .ref 1), (1, .ref v)] [.int (nZ r19), .int (nZ 3), .int (nZ r14)] σ15
  obtain ⟨q20, h⟩ := h
  refine i_mul dX5_readSun_34 ?_
  obtain ⟨q21, h⟩ := h
  refine i_add dX5_readSun_35 ?_
  refine top_i (fun z22 ez23 => ?_)
  have rz24 : inR z22 := ez23 ▸ q21
  replace h := h z22 ez23
  refine w_istore_n (l' := [(3, .int (nZ z22)), (2, .int (nZ r9)), (0, .ref 1), (1, .ref v)]) dX5_readSun_36 rfl (by decide) rfl ?_
  refine w_aload_n dX5_readSun_37 rfl (List.Mem.tail _ (List.Mem.tail _ (List.Mem.tail _ (List.Mem.head _)))) ?_
  refine w_getR (ci := 2) (k := 1) (b := (v + 10)) dX5_readSun_38 fl_5_161 (by decide) (gT hG16 (IsMk_t0 hv) (IsMk_lt hv (k := 0) (by decide))) (gR hG16 (IsMk_r0_1 hv)) ?_
  refine w_iload_n dX5_readSun_41 rfl (List.Mem.tail _ (List.Mem.head _)) ?_
  refine w_bipush (v := nZ 10) dX5_readSun_42 (by decide) ?_
  refine w_iload_n dX5_readSun_44 rfl (List.Mem.head _) ?_
  obtain ⟨q25, h⟩ := h
  refine i_mul dX5_readSun_45 ?_
  refine w_aload_n dX5_readSun_46 rfl (List.Mem.tail _ (List.Mem.tail _ (List.Mem.head _))) ?_
  refine w_iconst (v := nZ 0) dX5_readSun_47 (by decide) ?_
  refine w_bipush (v := nZ 9) dX5_readSun_48 (by decide) ?_
  obtain ⟨r30, σ26, hc28, hG27, rr29, h⟩ := h
  refine w_callV dX5_readSun_50 ml_5_126 ⟨ok_X5_readNumber, vi_X5_readNumber⟩ hs_X5_readNumber (As := [.int (nZ 0), .int (nZ 9)]) rfl rfl (gT hG16 rfl (lt_of rfl)) (Nat.le_of_ble_eq_true rfl) hc28 ?_
  show wp (Ev sc d) 5 cX5_readSun 4 none false [] sc Q 53 [(3, .int (nZ z22)), (2, .int (nZ r9)), (0, .ref 1), (1, .ref v)] [.int (nZ r30), .int (nZ (10 * z22)), .int (nZ r9), .ref (v + 10)] σ26
  obtain ⟨q31, h⟩ := h
  refine i_add dX5_readSun_53 ?_
  obtain ⟨σ32, hc34, hG33, h⟩ := h
  refine w_callV dX5_readSun_54 ml_5_164 ⟨ok_X0_tell, vi_X0_tell⟩ hs_X0_tell (As := [.int (nZ r9), .int (nZ ((10 * z22) + r30))]) rfl rfl (gT hG27 (IsMk_t10 hv) (IsMk_lt hv (k := 10) (by decide))) (Nat.le_of_ble_eq_true rfl) hc34 ?_
  show wp (Ev sc d) 5 cX5_readSun 4 none false [] sc Q 57 [(3, .int (nZ z22)), (2, .int (nZ r9)), (0, .ref 1), (1, .ref v)] [] σ32
  exact w_vret dX5_readSun_57 rfl h
theorem dX5_readRate_0 : decode cX5_readRate 0 = .ok (.aload_n 0, 1) := by decide +kernel
theorem dX5_readRate_1 : decode cX5_readRate 1 = .ok (.dup, 1) := by decide +kernel
theorem dX5_readRate_2 : decode cX5_readRate 2 = .ok (.getfield 37, 3) := by decide +kernel
theorem dX5_readRate_5 : decode cX5_readRate 5 = .ok (.iconst 1, 1) := by decide +kernel
theorem dX5_readRate_6 : decode cX5_readRate 6 = .ok (.iadd, 1) := by decide +kernel
theorem dX5_readRate_7 : decode cX5_readRate 7 = .ok (.putfield 37, 3) := by decide +kernel
theorem dX5_readRate_10 : decode cX5_readRate 10 = .ok (.aload_n 0, 1) := by decide +kernel
theorem dX5_readRate_11 : decode cX5_readRate 11 = .ok (.iconst 0, 1) := by decide +kernel
theorem dX5_readRate_12 : decode cX5_readRate 12 = .ok (.sipush 1439, 3) := by decide +kernel
theorem dX5_readRate_15 : decode cX5_readRate 15 = .ok (.invokevirtual 126, 3) := by decide +kernel
theorem dX5_readRate_18 : decode cX5_readRate 18 = .ok (.istore_n 2, 1) := by decide +kernel
theorem dX5_readRate_19 : decode cX5_readRate 19 = .ok (.aload_n 1, 1) := by decide +kernel
theorem dX5_readRate_20 : decode cX5_readRate 20 = .ok (.getfield 169, 3) := by decide +kernel
theorem dX5_readRate_23 : decode cX5_readRate 23 = .ok (.iload_n 2, 1) := by decide +kernel
theorem dX5_readRate_24 : decode cX5_readRate 24 = .ok (.aload_n 0, 1) := by decide +kernel
theorem dX5_readRate_25 : decode cX5_readRate 25 = .ok (.iconst 0, 1) := by decide +kernel
theorem dX5_readRate_26 : decode cX5_readRate 26 = .ok (.bipush 9, 2) := by decide +kernel
theorem dX5_readRate_28 : decode cX5_readRate 28 = .ok (.invokevirtual 126, 3) := by decide +kernel
theorem dX5_readRate_31 : decode cX5_readRate 31 = .ok (.invokevirtual 164, 3) := by decide +kernel
theorem dX5_readRate_34 : decode cX5_readRate 34 = .ok (.return_, 1) := by decide +kernel
set_option maxRecDepth 10000 in
theorem t_X5_readRate {sc : Nat × (Nat → Int32)} {d : Nat} {Q : aO → aH → Prop} {σ : aH} {u : Nat} {v : Nat}  (hG : G σ u) (hv : IsMk v)
    (h : (inR ((rI σ 1 8) + 1) ∧ (∀ σ2 : aH, wI σ 1 8 ((rI σ 1 8) + 1) = σ2 → (∃ (r9 : Int) (σ5 : aH), Ev sc d mX5_readNumber [.ref 1, .int (nZ 0), .int (nZ 1439)] σ2 (.inl (some (.int (nZ r9)))) σ5 ∧ G σ5 u ∧ inR r9 ∧ (∃ (r14 : Int) (σ10 : aH), Ev sc d mX5_readNumber [.ref 1, .int (nZ 0), .int (nZ 9)] σ5 (.inl (some (.int (nZ r14)))) σ10 ∧ G σ10 u ∧ inR r14 ∧ (∃ σ15 : aH, Ev sc d mX0_tell [.ref (v + 13), .int (nZ r9), .int (nZ r14)] σ10 (.inl none) σ15 ∧ G σ15 u ∧ Q (.inl none) σ15)))))) :
    T sc (d + 1) mX5_readRate [.ref 1, .ref v] σ Q := by
  refine T.of (c := 5) (code := cX5_readRate) (mL := 3) (rt := none) (ini := false) (l := [(0, .ref 1), (1, .ref v)]) rfl rfl rfl rfl (by decide) hs_X5_readRate rfl rfl ?_
  refine w_aload_n dX5_readRate_0 rfl (List.Mem.head _) ?_
  refine w_dup dX5_readRate_1 rfl ?_
  refine i_getI (ci := 5) 8 rfl dX5_readRate_2 fl_5_37 (by decide) (gT hG rfl (lt_of rfl)) ?_
  refine w_iconst (v := nZ 1) dX5_readRate_5 (by decide) ?_
  obtain ⟨q1, h⟩ := h
  refine i_add dX5_readRate_6 ?_
  refine i_putI (ci := 5) 8 rfl dX5_readRate_7 fl_5_37 (by decide) (gT hG rfl (lt_of rfl)) (fun σ2 eσ3 => ?_)
  replace h := h σ2 eσ3
  have hG4 : G σ2 u := eσ3 ▸ G.wI hG
  refine w_aload_n dX5_readRate_10 rfl (List.Mem.head _) ?_
  refine w_iconst (v := nZ 0) dX5_readRate_11 (by decide) ?_
  refine w_sipush (v := nZ 1439) dX5_readRate_12 (by decide) ?_
  obtain ⟨r9, σ5, hc7, hG6, rr8, h⟩ := h
  refine w_callV dX5_readRate_15 ml_5_126 ⟨ok_X5_readNumber, vi_X5_readNumber⟩ hs_X5_readNumber (As := [.int (nZ 0), .int (nZ 1439)]) rfl rfl (gT hG4 rfl (lt_of rfl)) (Nat.le_of_ble_eq_true rfl) hc7 ?_
  show wp (Ev sc d) 5 cX5_readRate 3 none false [] sc Q 18 [(0, .ref 1), (1, .ref v)] [.int (nZ r9)] σ5
  refine w_istore_n (l' := [(2, .int (nZ r9)), (0, .ref 1), (1, .ref v)]) dX5_readRate_18 rfl (by decide) rfl ?_
  refine w_aload_n dX5_readRate_19 rfl (List.Mem.tail _ (List.Mem.tail _ (List.Mem.head _))) ?_
  refine w_getR (ci := 2) (k := 2) (b := (v + 13)) dX5_readRate_20 fl_5_169 (by decide) (gT hG6 (IsMk_t0 hv) (IsMk_lt hv (k := 0) (by decide))) (gR hG6 (IsMk_r0_2 hv)) ?_
  refine w_iload_n dX5_readRate_23 rfl (List.Mem.head _) ?_
  refine w_aload_n dX5_readRate_24 rfl (List.Mem.tail _ (List.Mem.head _)) ?_
  refine w_iconst (v := nZ 0) dX5_readRate_25 (by decide) ?_
  refine w_bipush (v := nZ 9) dX5_readRate_26 (by decide) ?_
  obtain ⟨r14, σ10, hc12, hG11, rr13, h⟩ := h
  refine w_callV dX5_readRate_28 ml_5_126 ⟨ok_X5_readNumber, vi_X5_readNumber⟩ hs_X5_readNumber (As := [.int (nZ 0), .int (nZ 9)]) rfl rfl (gT hG6 rfl (lt_of rfl)) (Nat.le_of_ble_eq_true rfl) hc12 ?_
  show wp (Ev sc d) 5 cX5_readRate 3 none false [] sc Q 31 [(2, .int (nZ r9)), (0, .ref 1), (1, .ref v)] [.int (nZ r14), .int (nZ r9), .ref (v + 13)] σ10
  obtain ⟨σ15, hc17, hG16, h⟩ := h
  refine w_callV dX5_readRate_31 ml_5_164 ⟨ok_X0_tell, vi_X0_tell⟩ hs_X0_tell (As := [.int (nZ r9), .int (nZ r14)]) rfl rfl (gT hG11 (IsMk_t13 hv) (IsMk_lt hv (k := 13) (by decide))) (Nat.le_of_ble_eq_true rfl) hc17 ?_
  show wp (Ev sc d) 5 cX5_readRate 3 none false [] sc Q 34 [(2, .int (nZ r9)), (0, .ref 1), (1, .ref v)] [] σ15
  exact w_vret dX5_readRate_34 rfl h
theorem dX5_readOfStall_0 : decode cX5_readOfStall 0 = .ok (.aload_n 0, 1) := by decide +kernel
theorem dX5_readOfStall_1 : decode cX5_readOfStall 1 = .ok (.iconst 0, 1) := by decide +kernel
theorem dX5_readOfStall_2 : decode cX5_readOfStall 2 = .ok (.aload_n 2, 1) := by decide +kernel
theorem dX5_readOfStall_3 : decode cX5_readOfStall 3 = .ok (.getfield 121, 3) := by decide +kernel
theorem dX5_readOfStall_6 : decode cX5_readOfStall 6 = .ok (.iconst 1, 1) := by decide +kernel
theorem dX5_readOfStall_7 : decode cX5_readOfStall 7 = .ok (.isub, 1) := by decide +kernel
theorem dX5_readOfStall_8 : decode cX5_readOfStall 8 = .ok (.invokevirtual 126, 3) := by decide +kernel
theorem dX5_readOfStall_11 : decode cX5_readOfStall 11 = .ok (.istore_n 3, 1) := by decide +kernel
theorem dX5_readOfStall_12 : decode cX5_readOfStall 12 = .ok (.iload_n 3, 1) := by decide +kernel
theorem dX5_readOfStall_13 : decode cX5_readOfStall 13 = .ok (.aload_n 2, 1) := by decide +kernel
theorem dX5_readOfStall_14 : decode cX5_readOfStall 14 = .ok (.getfield 121, 3) := by decide +kernel
theorem dX5_readOfStall_17 : decode cX5_readOfStall 17 = .ok (.if_icmp .lt 4, 3) := by decide +kernel
theorem dX5_readOfStall_20 : decode cX5_readOfStall 20 = .ok (.return_, 1) := by decide +kernel
theorem dX5_readOfStall_21 : decode cX5_readOfStall 21 = .ok (.iload_n 1, 1) := by decide +kernel
theorem dX5_readOfStall_22 : decode cX5_readOfStall 22 = .ok (.iconst 2, 1) := by decide +kernel
theorem dX5_readOfStall_23 : decode cX5_readOfStall 23 = .ok (.if_icmp .ne 18, 3) := by decide +kernel
theorem dX5_readOfStall_26 : decode cX5_readOfStall 26 = .ok (.aload_n 2, 1) := by decide +kernel
theorem dX5_readOfStall_27 : decode cX5_readOfStall 27 = .ok (.getfield 171, 3) := by decide +kernel
theorem dX5_readOfStall_30 : decode cX5_readOfStall 30 = .ok (.iload_n 3, 1) := by decide +kernel
theorem dX5_readOfStall_31 : decode cX5_readOfStall 31 = .ok (.aload_n 0, 1) := by decide +kernel
theorem dX5_readOfStall_32 : decode cX5_readOfStall 32 = .ok (.iconst 0, 1) := by decide +kernel
theorem dX5_readOfStall_33 : decode cX5_readOfStall 33 = .ok (.iconst 3, 1) := by decide +kernel
theorem dX5_readOfStall_34 : decode cX5_readOfStall 34 = .ok (.invokevirtual 126, 3) := by decide +kernel
theorem dX5_readOfStall_37 : decode cX5_readOfStall 37 = .ok (.iastore, 1) := by decide +kernel
theorem dX5_readOfStall_38 : decode cX5_readOfStall 38 = .ok (.goto 43, 3) := by decide +kernel
theorem dX5_readOfStall_41 : decode cX5_readOfStall 41 = .ok (.iload_n 1, 1) := by decide +kernel
theorem dX5_readOfStall_42 : decode cX5_readOfStall 42 = .ok (.iconst 3, 1) := by decide +kernel
theorem dX5_readOfStall_43 : decode cX5_readOfStall 43 = .ok (.if_icmp .ne 31, 3) := by decide +kernel
theorem dX5_readOfStall_46 : decode cX5_readOfStall 46 = .ok (.aload_n 2, 1) := by decide +kernel
theorem dX5_readOfStall_47 : decode cX5_readOfStall 47 = .ok (.getfield 174, 3) := by decide +kernel
theorem dX5_readOfStall_50 : decode cX5_readOfStall 50 = .ok (.iload_n 3, 1) := by decide +kernel
theorem dX5_readOfStall_51 : decode cX5_readOfStall 51 = .ok (.aload_n 0, 1) := by decide +kernel
theorem dX5_readOfStall_52 : decode cX5_readOfStall 52 = .ok (.iconst 0, 1) := by decide +kernel
theorem dX5_readOfStall_53 : decode cX5_readOfStall 53 = .ok (.iconst 5, 1) := by decide +kernel
theorem dX5_readOfStall_54 : decode cX5_readOfStall 54 = .ok (.invokevirtual 126, 3) := by decide +kernel
theorem dX5_readOfStall_57 : decode cX5_readOfStall 57 = .ok (.iastore, 1) := by decide +kernel
theorem dX5_readOfStall_58 : decode cX5_readOfStall 58 = .ok (.aload_n 2, 1) := by decide +kernel
theorem dX5_readOfStall_59 : decode cX5_readOfStall 59 = .ok (.getfield 177, 3) := by decide +kernel
theorem dX5_readOfStall_62 : decode cX5_readOfStall 62 = .ok (.iload_n 3, 1) := by decide +kernel
theorem dX5_readOfStall_63 : decode cX5_readOfStall 63 = .ok (.aload_n 0, 1) := by decide +kernel
theorem dX5_readOfStall_64 : decode cX5_readOfStall 64 = .ok (.iconst 0, 1) := by decide +kernel
theorem dX5_readOfStall_65 : decode cX5_readOfStall 65 = .ok (.bipush 60, 2) := by decide +kernel
theorem dX5_readOfStall_67 : decode cX5_readOfStall 67 = .ok (.invokevirtual 126, 3) := by decide +kernel
theorem dX5_readOfStall_70 : decode cX5_readOfStall 70 = .ok (.iastore, 1) := by decide +kernel
theorem dX5_readOfStall_71 : decode cX5_readOfStall 71 = .ok (.goto 10, 3) := by decide +kernel
theorem dX5_readOfStall_74 : decode cX5_readOfStall 74 = .ok (.aload_n 2, 1) := by decide +kernel
theorem dX5_readOfStall_75 : decode cX5_readOfStall 75 = .ok (.getfield 180, 3) := by decide +kernel
theorem dX5_readOfStall_78 : decode cX5_readOfStall 78 = .ok (.iload_n 3, 1) := by decide +kernel
theorem dX5_readOfStall_79 : decode cX5_readOfStall 79 = .ok (.iconst 1, 1) := by decide +kernel
theorem dX5_readOfStall_80 : decode cX5_readOfStall 80 = .ok (.iastore, 1) := by decide +kernel
theorem dX5_readOfStall_81 : decode cX5_readOfStall 81 = .ok (.return_, 1) := by decide +kernel
set_option maxRecDepth 10000 in
theorem t_X5_readOfStall {sc : Nat × (Nat → Int32)} {d : Nat} {Q : aO → aH → Prop} {σ : aH} {u : Nat} {v : Nat} {x1 : Int} (hG : G σ u) (hv : IsMk v) (rx1 : inR x1)
    (h : (inR ((rI σ (v + 1) 8) - 1) ∧ (∃ (r6 : Int) (σ2 : aH), Ev sc d mX5_readNumber [.ref 1, .int (nZ 0), .int (nZ ((rI σ (v + 1) 8) - 1))] σ (.inl (some (.int (nZ r6)))) σ2 ∧ G σ2 u ∧ inR r6 ∧ ((r6 < (rI σ2 (v + 1) 8) → ((¬ x1 = 2 → ((¬ x1 = 3 → ((0 ≤ r6 ∧ r6 < 9) ∧ (∀ σ7 : aH, wI σ2 (v + 8) r6 1 = σ7 → Q (.inl none) σ7))) ∧ (x1 = 3 → (∃ (r14 : Int) (σ10 : aH), Ev sc d mX5_readNumber [.ref 1, .int (nZ 0), .int (nZ 5)] σ2 (.inl (some (.int (nZ r14)))) σ10 ∧ G σ10 u ∧ inR r14 ∧ ((0 ≤ r6 ∧ r6 < 9) ∧ (∀ σ15 : aH, wI σ10 (v + 6) r6 r14 = σ15 → (∃ (r22 : Int) (σ18 : aH), Ev sc d mX5_readNumber [.ref 1, .int (nZ 0), .int (nZ 60)] σ15 (.inl (some (.int (nZ r22)))) σ18 ∧ G σ18 u ∧ inR r22 ∧ ((0 ≤ r6 ∧ r6 < 9) ∧ (∀ σ23 : aH, wI σ18 (v + 7) r6 r22 = σ23 → Q (.inl none) σ23))))))))) ∧ (x1 = 2 → (∃ (r30 : Int) (σ26 : aH), Ev sc d mX5_readNumber [.ref 1, .int (nZ 0), .int (nZ 3)] σ2 (.inl (some (.int (nZ r30)))) σ26 ∧ G σ26 u ∧ inR r30 ∧ ((0 ≤ r6 ∧ r6 < 9) ∧ (∀ σ31 : aH, wI σ26 (v + 5) r6 r30 = σ31 → Q (.inl none) σ31)))))) ∧ (¬ (r6 < (rI σ2 (v + 1) 8)) → Q (.inl none) σ2))))) :
    T sc (d + 1) mX5_readOfStall [.ref 1, .int (nZ x1), .ref (v + 1)] σ Q := by
  refine T.of (c := 5) (code := cX5_readOfStall) (mL := 4) (rt := none) (ini := false) (l := [(0, .ref 1), (1, .int (nZ x1)), (2, .ref (v + 1))]) rfl rfl rfl rfl (by decide) hs_X5_readOfStall rfl rfl ?_
  refine w_aload_n dX5_readOfStall_0 rfl (List.Mem.head _) ?_
  refine w_iconst (v := nZ 0) dX5_readOfStall_1 (by decide) ?_
  refine w_aload_n dX5_readOfStall_2 rfl (List.Mem.tail _ (List.Mem.tail _ (List.Mem.head _))) ?_
  refine i_getI (ci := 7) 8 rfl dX5_readOfStall_3 fl_5_121 (by decide) (gT hG (IsMk_t1 hv) (IsMk_lt hv (k := 1) (by decide))) ?_
  refine w_iconst (v := nZ 1) dX5_readOfStall_6 (by decide) ?_
  obtain ⟨q1, h⟩ := h
  refine i_sub dX5_readOfStall_7 ?_
  obtain ⟨r6, σ2, hc4, hG3, rr5, h⟩ := h
  refine w_callV dX5_readOfStall_8 ml_5_126 ⟨ok_X5_readNumber, vi_X5_readNumber⟩ hs_X5_readNumber (As := [.int (nZ 0), .int (nZ ((rI σ (v + 1) 8) - 1))]) rfl rfl (gT hG rfl (lt_of rfl)) (Nat.le_of_ble_eq_true rfl) hc4 ?_
  show wp (Ev sc d) 5 cX5_readOfStall 4 none false [] sc Q 11 [(0, .ref 1), (1, .int (nZ x1)), (2, .ref (v + 1))] [.int (nZ r6)] σ2
  refine w_istore_n (l' := [(3, .int (nZ r6)), (0, .ref 1), (1, .int (nZ x1)), (2, .ref (v + 1))]) dX5_readOfStall_11 rfl (by decide) rfl ?_
  refine w_iload_n dX5_readOfStall_12 rfl (List.Mem.head _) ?_
  refine w_aload_n dX5_readOfStall_13 rfl (List.Mem.tail _ (List.Mem.tail _ (List.Mem.tail _ (List.Mem.head _)))) ?_
  refine i_getI (ci := 7) 8 rfl dX5_readOfStall_14 fl_5_121 (by decide) (gT hG3 (IsMk_t1 hv) (IsMk_lt hv (k := 1) (by decide))) ?_
  refine i_cmp_lt (tgt := 21) dX5_readOfStall_17 rfl rr5 (rI_R _ _ _) (fun c9 => ?_) (fun c9 => ?_)
  · replace h := h.1 c9
    refine w_iload_n dX5_readOfStall_21 rfl (List.Mem.tail _ (List.Mem.tail _ (List.Mem.head _))) ?_
    refine w_iconst (v := nZ 2) dX5_readOfStall_22 (by decide) ?_
    refine i_cmp_ne (tgt := 41) dX5_readOfStall_23 rfl rx1 (by decide) (fun c9 => ?_) (fun c9 => ?_)
    · replace h := h.1 c9
      refine w_iload_n dX5_readOfStall_41 rfl (List.Mem.tail _ (List.Mem.tail _ (List.Mem.head _))) ?_
      refine w_iconst (v := nZ 3) dX5_readOfStall_42 (by decide) ?_
      refine i_cmp_ne (tgt := 74) dX5_readOfStall_43 rfl rx1 (by decide) (fun c9 => ?_) (fun c9 => ?_)
      · replace h := h.1 c9
        refine w_aload_n dX5_readOfStall_74 rfl (List.Mem.tail _ (List.Mem.tail _ (List.Mem.tail _ (List.Mem.head _)))) ?_
        refine w_getR (ci := 7) (k := 6) (b := (v + 8)) dX5_readOfStall_75 fl_5_180 (by decide) (gT hG3 (IsMk_t1 hv) (IsMk_lt hv (k := 1) (by decide))) (gR hG3 (IsMk_r1_6 hv)) ?_
        refine w_iload_n dX5_readOfStall_78 rfl (List.Mem.head _) ?_
        refine w_iconst (v := nZ 1) dX5_readOfStall_79 (by decide) ?_
        obtain ⟨h9, h⟩ := h
        refine i_iast (n := 9) dX5_readOfStall_80 (gT hG3 (IsMk_t8 hv) (IsMk_lt hv (k := 8) (by decide))) (gL hG3 (IsMk_n8 hv)) rr5 h9 (fun σ7 eσ8 => ?_)
        replace h := h σ7 eσ8
        have hG9 : G σ7 u := eσ8 ▸ G.wI hG3
        exact w_vret dX5_readOfStall_81 rfl h
      · replace h := h.2 c9
        refine w_aload_n dX5_readOfStall_46 rfl (List.Mem.tail _ (List.Mem.tail _ (List.Mem.tail _ (List.Mem.head _)))) ?_
        refine w_getR (ci := 7) (k := 4) (b := (v + 6)) dX5_readOfStall_47 fl_5_174 (by decide) (gT hG3 (IsMk_t1 hv) (IsMk_lt hv (k := 1) (by decide))) (gR hG3 (IsMk_r1_4 hv)) ?_
        refine w_iload_n dX5_readOfStall_50 rfl (List.Mem.head _) ?_
        refine w_aload_n dX5_readOfStall_51 rfl (List.Mem.tail _ (List.Mem.head _)) ?_
        refine w_iconst (v := nZ 0) dX5_readOfStall_52 (by decide) ?_
        refine w_iconst (v := nZ 5) dX5_readOfStall_53 (by decide) ?_
        obtain ⟨r14, σ10, hc12, hG11, rr13, h⟩ := h
        refine w_callV dX5_readOfStall_54 ml_5_126 ⟨ok_X5_readNumber, vi_X5_readNumber⟩ hs_X5_readNumber (As := [.int (nZ 0), .int (nZ 5)]) rfl rfl (gT hG3 rfl (lt_of rfl)) (Nat.le_of_ble_eq_true rfl) hc12 ?_
        show wp (Ev sc d) 5 cX5_readOfStall 4 none false [] sc Q 57 [(3, .int (nZ r6)), (0, .ref 1), (1, .int (nZ x1)), (2, .ref (v + 1))] [.int (nZ r14), .int (nZ r6), .ref (v + 6)] σ10
        obtain ⟨h9, h⟩ := h
        refine i_iast (n := 9) dX5_readOfStall_57 (gT hG11 (IsMk_t6 hv) (IsMk_lt hv (k := 6) (by decide))) (gL hG11 (IsMk_n6 hv)) rr5 h9 (fun σ15 eσ16 => ?_)
        replace h := h σ15 eσ16
        have hG17 : G σ15 u := eσ16 ▸ G.wI hG11
        refine w_aload_n dX5_readOfStall_58 rfl (List.Mem.tail _ (List.Mem.tail _ (List.Mem.tail _ (List.Mem.head _)))) ?_
        refine w_getR (ci := 7) (k := 5) (b := (v + 7)) dX5_readOfStall_59 fl_5_177 (by decide) (gT hG17 (IsMk_t1 hv) (IsMk_lt hv (k := 1) (by decide))) (gR hG17 (IsMk_r1_5 hv)) ?_
        refine w_iload_n dX5_readOfStall_62 rfl (List.Mem.head _) ?_
        refine w_aload_n dX5_readOfStall_63 rfl (List.Mem.tail _ (List.Mem.head _)) ?_
        refine w_iconst (v := nZ 0) dX5_readOfStall_64 (by decide) ?_
        refine w_bipush (v := nZ 60) dX5_readOfStall_65 (by decide) ?_
        obtain ⟨r22, σ18, hc20, hG19, rr21, h⟩ := h
        refine w_callV dX5_readOfStall_67 ml_5_126 ⟨ok_X5_readNumber, vi_X5_readNumber⟩ hs_X5_readNumber (As := [.int (nZ 0), .int (nZ 60)]) rfl rfl (gT hG17 rfl (lt_of rfl)) (Nat.le_of_ble_eq_true rfl) hc20 ?_
        show wp (Ev sc d) 5 cX5_readOfStall 4 none false [] sc Q 70 [(3, .int (nZ r6)), (0, .ref 1), (1, .int (nZ x1)), (2, .ref (v + 1))] [.int (nZ r22), .int (nZ r6), .ref (v + 7)] σ18
        obtain ⟨h9, h⟩ := h
        refine i_iast (n := 9) dX5_readOfStall_70 (gT hG19 (IsMk_t7 hv) (IsMk_lt hv (k := 7) (by decide))) (gL hG19 (IsMk_n7 hv)) rr5 h9 (fun σ23 eσ24 => ?_)
        replace h := h σ23 eσ24
        have hG25 : G σ23 u := eσ24 ▸ G.wI hG19
        refine w_goto (tgt := 81) dX5_readOfStall_71 rfl ?_
        exact w_vret dX5_readOfStall_81 rfl h
    · replace h := h.2 c9
      refine w_aload_n dX5_readOfStall_26 rfl (List.Mem.tail _ (List.Mem.tail _ (List.Mem.tail _ (List.Mem.head _)))) ?_
      refine w_getR (ci := 7) (k := 3) (b := (v + 5)) dX5_readOfStall_27 fl_5_171 (by decide) (gT hG3 (IsMk_t1 hv) (IsMk_lt hv (k := 1) (by decide))) (gR hG3 (IsMk_r1_3 hv)) ?_
      refine w_iload_n dX5_readOfStall_30 rfl (List.Mem.head _) ?_
      refine w_aload_n dX5_readOfStall_31 rfl (List.Mem.tail _ (List.Mem.head _)) ?_
      refine w_iconst (v := nZ 0) dX5_readOfStall_32 (by decide) ?_
      refine w_iconst (v := nZ 3) dX5_readOfStall_33 (by decide) ?_
      obtain ⟨r30, σ26, hc28, hG27, rr29, h⟩ := h
      refine w_callV dX5_readOfStall_34 ml_5_126 ⟨ok_X5_readNumber, vi_X5_readNumber⟩ hs_X5_readNumber (As := [.int (nZ 0), .int (nZ 3)]) rfl rfl (gT hG3 rfl (lt_of rfl)) (Nat.le_of_ble_eq_true rfl) hc28 ?_
      show wp (Ev sc d) 5 cX5_readOfStall 4 none false [] sc Q 37 [(3, .int (nZ r6)), (0, .ref 1), (1, .int (nZ x1)), (2, .ref (v + 1))] [.int (nZ r30), .int (nZ r6), .ref (v + 5)] σ26
      obtain ⟨h9, h⟩ := h
      refine i_iast (n := 9) dX5_readOfStall_37 (gT hG27 (IsMk_t5 hv) (IsMk_lt hv (k := 5) (by decide))) (gL hG27 (IsMk_n5 hv)) rr5 h9 (fun σ31 eσ32 => ?_)
      replace h := h σ31 eσ32
      have hG33 : G σ31 u := eσ32 ▸ G.wI hG27
      refine w_goto (tgt := 81) dX5_readOfStall_38 rfl ?_
      exact w_vret dX5_readOfStall_81 rfl h
  · replace h := h.2 c9
    exact w_vret dX5_readOfStall_20 rfl h
theorem dX5_readNumber_0 : decode cX5_readNumber 0 = .ok (.aload_n 0, 1) := by decide +kernel
theorem dX5_readNumber_1 : decode cX5_readNumber 1 = .ok (.invokevirtual 51, 3) := by decide +kernel
theorem dX5_readNumber_4 : decode cX5_readNumber 4 = .ok (.aload_n 0, 1) := by decide +kernel
theorem dX5_readNumber_5 : decode cX5_readNumber 5 = .ok (.getfield 22, 3) := by decide +kernel
theorem dX5_readNumber_8 : decode cX5_readNumber 8 = .ok (.istore_n 3, 1) := by decide +kernel
theorem dX5_readNumber_9 : decode cX5_readNumber 9 = .ok (.iconst 0, 1) := by decide +kernel
theorem dX5_readNumber_10 : decode cX5_readNumber 10 = .ok (.istore 4, 2) := by decide +kernel
theorem dX5_readNumber_12 : decode cX5_readNumber 12 = .ok (.aload_n 0, 1) := by decide +kernel
theorem dX5_readNumber_13 : decode cX5_readNumber 13 = .ok (.getfield 22, 3) := by decide +kernel
theorem dX5_readNumber_16 : decode cX5_readNumber 16 = .ok (.aload_n 0, 1) := by decide +kernel
theorem dX5_readNumber_17 : decode cX5_readNumber 17 = .ok (.getfield 19, 3) := by decide +kernel
theorem dX5_readNumber_20 : decode cX5_readNumber 20 = .ok (.if_icmp .ge 54, 3) := by decide +kernel
theorem dX5_readNumber_23 : decode cX5_readNumber 23 = .ok (.aload_n 0, 1) := by decide +kernel
theorem dX5_readNumber_24 : decode cX5_readNumber 24 = .ok (.invokevirtual 58, 3) := by decide +kernel
theorem dX5_readNumber_27 : decode cX5_readNumber 27 = .ok (.bipush 48, 2) := by decide +kernel
theorem dX5_readNumber_29 : decode cX5_readNumber 29 = .ok (.if_icmp .lt 45, 3) := by decide +kernel
theorem dX5_readNumber_32 : decode cX5_readNumber 32 = .ok (.aload_n 0, 1) := by decide +kernel
theorem dX5_readNumber_33 : decode cX5_readNumber 33 = .ok (.invokevirtual 58, 3) := by decide +kernel
theorem dX5_readNumber_36 : decode cX5_readNumber 36 = .ok (.bipush 57, 2) := by decide +kernel
theorem dX5_readNumber_38 : decode cX5_readNumber 38 = .ok (.if_icmp .gt 36, 3) := by decide +kernel
theorem dX5_readNumber_41 : decode cX5_readNumber 41 = .ok (.ldc 182, 2) := by decide +kernel
theorem dX5_readNumber_43 : decode cX5_readNumber 43 = .ok (.bipush 10, 2) := by decide +kernel
theorem dX5_readNumber_45 : decode cX5_readNumber 45 = .ok (.iload 4, 2) := by decide +kernel
theorem dX5_readNumber_47 : decode cX5_readNumber 47 = .ok (.imul, 1) := by decide +kernel
theorem dX5_readNumber_48 : decode cX5_readNumber 48 = .ok (.aload_n 0, 1) := by decide +kernel
theorem dX5_readNumber_49 : decode cX5_readNumber 49 = .ok (.invokevirtual 58, 3) := by decide +kernel
theorem dX5_readNumber_52 : decode cX5_readNumber 52 = .ok (.iadd, 1) := by decide +kernel
theorem dX5_readNumber_53 : decode cX5_readNumber 53 = .ok (.bipush 48, 2) := by decide +kernel
theorem dX5_readNumber_55 : decode cX5_readNumber 55 = .ok (.isub, 1) := by decide +kernel
theorem dX5_readNumber_56 : decode cX5_readNumber 56 = .ok (.invokestatic 40, 3) := by decide +kernel
theorem dX5_readNumber_59 : decode cX5_readNumber 59 = .ok (.istore 4, 2) := by decide +kernel
theorem dX5_readNumber_61 : decode cX5_readNumber 61 = .ok (.aload_n 0, 1) := by decide +kernel
theorem dX5_readNumber_62 : decode cX5_readNumber 62 = .ok (.dup, 1) := by decide +kernel
theorem dX5_readNumber_63 : decode cX5_readNumber 63 = .ok (.getfield 22, 3) := by decide +kernel
theorem dX5_readNumber_66 : decode cX5_readNumber 66 = .ok (.iconst 1, 1) := by decide +kernel
theorem dX5_readNumber_67 : decode cX5_readNumber 67 = .ok (.iadd, 1) := by decide +kernel
theorem dX5_readNumber_68 : decode cX5_readNumber 68 = .ok (.putfield 22, 3) := by decide +kernel
theorem dX5_readNumber_71 : decode cX5_readNumber 71 = .ok (.goto (-59), 3) := by decide +kernel
theorem dX5_readNumber_74 : decode cX5_readNumber 74 = .ok (.aload_n 0, 1) := by decide +kernel
theorem dX5_readNumber_75 : decode cX5_readNumber 75 = .ok (.getfield 22, 3) := by decide +kernel
theorem dX5_readNumber_78 : decode cX5_readNumber 78 = .ok (.iload_n 3, 1) := by decide +kernel
theorem dX5_readNumber_79 : decode cX5_readNumber 79 = .ok (.if_icmp .ne 12, 3) := by decide +kernel
theorem dX5_readNumber_82 : decode cX5_readNumber 82 = .ok (.aload_n 0, 1) := by decide +kernel
theorem dX5_readNumber_83 : decode cX5_readNumber 83 = .ok (.iconst 1, 1) := by decide +kernel
theorem dX5_readNumber_84 : decode cX5_readNumber 84 = .ok (.iload_n 3, 1) := by decide +kernel
theorem dX5_readNumber_85 : decode cX5_readNumber 85 = .ok (.invokevirtual 65, 3) := by decide +kernel
theorem dX5_readNumber_88 : decode cX5_readNumber 88 = .ok (.goto 21, 3) := by decide +kernel
theorem dX5_readNumber_91 : decode cX5_readNumber 91 = .ok (.iload 4, 2) := by decide +kernel
theorem dX5_readNumber_93 : decode cX5_readNumber 93 = .ok (.iload_n 1, 1) := by decide +kernel
theorem dX5_readNumber_94 : decode cX5_readNumber 94 = .ok (.if_icmp .lt 9, 3) := by decide +kernel
theorem dX5_readNumber_97 : decode cX5_readNumber 97 = .ok (.iload 4, 2) := by decide +kernel
theorem dX5_readNumber_99 : decode cX5_readNumber 99 = .ok (.iload_n 2, 1) := by decide +kernel
theorem dX5_readNumber_100 : decode cX5_readNumber 100 = .ok (.if_icmp .le 9, 3) := by decide +kernel
theorem dX5_readNumber_103 : decode cX5_readNumber 103 = .ok (.aload_n 0, 1) := by decide +kernel
theorem dX5_readNumber_104 : decode cX5_readNumber 104 = .ok (.iconst 2, 1) := by decide +kernel
theorem dX5_readNumber_105 : decode cX5_readNumber 105 = .ok (.iload_n 3, 1) := by decide +kernel
theorem dX5_readNumber_106 : decode cX5_readNumber 106 = .ok (.invokevirtual 65, 3) := by decide +kernel
theorem dX5_readNumber_109 : decode cX5_readNumber 109 = .ok (.aload_n 0, 1) := by decide +kernel
theorem dX5_readNumber_110 : decode cX5_readNumber 110 = .ok (.getfield 25, 3) := by decide +kernel
theorem dX5_readNumber_113 : decode cX5_readNumber 113 = .ok (.ifCond .ne 8, 3) := by decide +kernel
theorem dX5_readNumber_116 : decode cX5_readNumber 116 = .ok (.iload 4, 2) := by decide +kernel
theorem dX5_readNumber_118 : decode cX5_readNumber 118 = .ok (.goto 4, 3) := by decide +kernel
theorem dX5_readNumber_121 : decode cX5_readNumber 121 = .ok (.iconst 0, 1) := by decide +kernel
theorem dX5_readNumber_122 : decode cX5_readNumber 122 = .ok (.ireturn, 1) := by decide +kernel
def L_X5_readNumber_12 (C : aM → List Value → aH → aO → aH → Prop) (sc : Nat × (Nat → Int32)) (P : aO → aH → Prop) (x1 : Int) (x2 : Int) (x3 : Int) (x4 : Int) (σ : aH) : Prop :=
    wp C 5 cX5_readNumber 5 (some .int) false [] sc P 12 [(0, .ref 1), (1, .int (nZ x1)), (2, .int (nZ x2)), (3, .int (nZ x3)), (4, .int (nZ x4))] [] σ
def L_X5_readNumber_74 (C : aM → List Value → aH → aO → aH → Prop) (sc : Nat × (Nat → Int32)) (P : aO → aH → Prop) (x1 : Int) (x2 : Int) (x3 : Int) (x4 : Int) (σ : aH) : Prop :=
    wp C 5 cX5_readNumber 5 (some .int) false [] sc P 74 [(0, .ref 1), (1, .int (nZ x1)), (2, .int (nZ x2)), (3, .int (nZ x3)), (4, .int (nZ x4))] [] σ
set_option maxRecDepth 10000 in
theorem t_X5_readNumber {sc : Nat × (Nat → Int32)} {d : Nat} {Q : aO → aH → Prop} {σ : aH} {u : Nat}  {x1 : Int} {x2 : Int} (hG : G σ u) (rx1 : inR x1) (rx2 : inR x2)
    (h : (∃ σ1 : aH, Ev sc d mX5_skipBlanks [.ref 1] σ (.inl none) σ1 ∧ G σ1 u ∧ (∀ z5 : Int, z5 = (rI σ1 1 3) → L_X5_readNumber_12 (Ev sc d) sc Q x1 x2 z5 0 σ1))) :
    T sc (d + 1) mX5_readNumber [.ref 1, .int (nZ x1), .int (nZ x2)] σ Q := by
  refine T.of (c := 5) (code := cX5_readNumber) (mL := 5) (rt := (some .int)) (ini := false) (l := [(0, .ref 1), (1, .int (nZ x1)), (2, .int (nZ x2))]) rfl rfl rfl rfl (by decide) hs_X5_readNumber rfl rfl ?_
  refine w_aload_n dX5_readNumber_0 rfl (List.Mem.head _) ?_
  obtain ⟨σ1, hc3, hG2, h⟩ := h
  refine w_callV dX5_readNumber_1 ml_5_51 ⟨ok_X5_skipBlanks, vi_X5_skipBlanks⟩ hs_X5_skipBlanks (As := []) rfl rfl (gT hG rfl (lt_of rfl)) (Nat.le_of_ble_eq_true rfl) hc3 ?_
  show wp (Ev sc d) 5 cX5_readNumber 5 (some .int) false [] sc Q 4 [(0, .ref 1), (1, .int (nZ x1)), (2, .int (nZ x2))] [] σ1
  refine w_aload_n dX5_readNumber_4 rfl (List.Mem.head _) ?_
  refine i_getI (ci := 5) 3 rfl dX5_readNumber_5 fl_5_22 (by decide) (gT hG2 rfl (lt_of rfl)) ?_
  refine top_i (fun z5 ez6 => ?_)
  have rz7 : inR z5 := ez6 ▸ (rI_R _ _ _)
  replace h := h z5 ez6
  refine w_istore_n (l' := [(3, .int (nZ z5)), (0, .ref 1), (1, .int (nZ x1)), (2, .int (nZ x2))]) dX5_readNumber_8 rfl (by decide) rfl ?_
  refine w_iconst (v := nZ 0) dX5_readNumber_9 (by decide) ?_
  refine w_istore (l' := [(4, .int (nZ 0)), (3, .int (nZ z5)), (0, .ref 1), (1, .int (nZ x1)), (2, .int (nZ x2))]) dX5_readNumber_10 (by decide) rfl ?_
  exact w_weak (l' := [(0, .ref 1), (1, .int (nZ x1)), (2, .int (nZ x2)), (3, .int (nZ z5)), (4, .int (nZ 0))]) (by intro q hq; simp only [List.mem_cons, List.not_mem_nil, or_false] at hq ⊢; rcases hq with rfl | rfl | rfl | rfl | rfl <;> simp) h
set_option maxRecDepth 10000 in
theorem v_X5_readNumber_12 {C : aM → List Value → aH → aO → aH → Prop} {sc : Nat × (Nat → Int32)} {P : aO → aH → Prop} {σ : aH} {u : Nat}  {x1 : Int} {x2 : Int} {x3 : Int} {x4 : Int} (hG : G σ u) (rx1 : inR x1) (rx2 : inR x2) (rx3 : inR x3) (rx4 : inR x4)
    (h : (((rI σ 1 2) ≤ (rI σ 1 3) → L_X5_readNumber_74 C sc P x1 x2 x3 x4 σ) ∧ (¬ ((rI σ 1 2) ≤ (rI σ 1 3)) → (∃ (r5 : Int) (σ1 : aH), C mX5_here [.ref 1] σ (.inl (some (.int (nZ r5)))) σ1 ∧ G σ1 u ∧ inR r5 ∧ ((r5 < 48 → L_X5_readNumber_74 C sc P x1 x2 x3 x4 σ1) ∧ (¬ (r5 < 48) → (∃ (r10 : Int) (σ6 : aH), C mX5_here [.ref 1] σ1 (.inl (some (.int (nZ r10)))) σ6 ∧ G σ6 u ∧ inR r10 ∧ ((57 < r10 → L_X5_readNumber_74 C sc P x1 x2 x3 x4 σ6) ∧ (¬ (57 < r10) → (inR (10 * x4) ∧ (∃ (r16 : Int) (σ12 : aH), C mX5_here [.ref 1] σ6 (.inl (some (.int (nZ r16)))) σ12 ∧ G σ12 u ∧ inR r16 ∧ (inR ((10 * x4) + r16) ∧ (inR (((10 * x4) + r16) - 48) ∧ (∀ z19 : Int, z19 = min 100000 (((10 * x4) + r16) - 48) → (inR ((rI σ12 1 3) + 1) ∧ (∀ σ23 : aH, wI σ12 1 3 ((rI σ12 1 3) + 1) = σ23 → L_X5_readNumber_12 C sc P x1 x2 x3 z19 σ23)))))))))))))))) :
    L_X5_readNumber_12 C sc P x1 x2 x3 x4 σ := by
  unfold L_X5_readNumber_12
  refine w_aload_n dX5_readNumber_12 rfl (List.Mem.head _) ?_
  refine i_getI (ci := 5) 3 rfl dX5_readNumber_13 fl_5_22 (by decide) (gT hG rfl (lt_of rfl)) ?_
  refine w_aload_n dX5_readNumber_16 rfl (List.Mem.head _) ?_
  refine i_getI (ci := 5) 2 rfl dX5_readNumber_17 fl_5_19 (by decide) (gT hG rfl (lt_of rfl)) ?_
  refine i_cmp_ge (tgt := 74) dX5_readNumber_20 rfl (rI_R _ _ _) (rI_R _ _ _) (fun c9 => ?_) (fun c9 => ?_)
  · replace h := h.1 c9
    exact h
  · replace h := h.2 c9
    refine w_aload_n dX5_readNumber_23 rfl (List.Mem.head _) ?_
    obtain ⟨r5, σ1, hc3, hG2, rr4, h⟩ := h
    refine w_callV dX5_readNumber_24 ml_5_58 ⟨ok_X5_here, vi_X5_here⟩ hs_X5_here (As := []) rfl rfl (gT hG rfl (lt_of rfl)) (Nat.le_of_ble_eq_true rfl) hc3 ?_
    show wp C 5 cX5_readNumber 5 (some .int) false [] sc P 27 [(0, .ref 1), (1, .int (nZ x1)), (2, .int (nZ x2)), (3, .int (nZ x3)), (4, .int (nZ x4))] [.int (nZ r5)] σ1
    refine w_bipush (v := nZ 48) dX5_readNumber_27 (by decide) ?_
    refine i_cmp_lt (tgt := 74) dX5_readNumber_29 rfl rr4 (by decide) (fun c9 => ?_) (fun c9 => ?_)
    · replace h := h.1 c9
      exact h
    · replace h := h.2 c9
      refine w_aload_n dX5_readNumber_32 rfl (List.Mem.head _) ?_
      obtain ⟨r10, σ6, hc8, hG7, rr9, h⟩ := h
      refine w_callV dX5_readNumber_33 ml_5_58 ⟨ok_X5_here, vi_X5_here⟩ hs_X5_here (As := []) rfl rfl (gT hG2 rfl (lt_of rfl)) (Nat.le_of_ble_eq_true rfl) hc8 ?_
      show wp C 5 cX5_readNumber 5 (some .int) false [] sc P 36 [(0, .ref 1), (1, .int (nZ x1)), (2, .int (nZ x2)), (3, .int (nZ x3)), (4, .int (nZ x4))] [.int (nZ r10)] σ6
      refine w_bipush (v := nZ 57) dX5_readNumber_36 (by decide) ?_
      refine i_cmp_gt (tgt := 74) dX5_readNumber_38 rfl rr9 (by decide) (fun c9 => ?_) (fun c9 => ?_)
      · replace h := h.1 c9
        exact h
      · replace h := h.2 c9
        refine i_ldc (x := 100000) dX5_readNumber_41 kc_5_182 (by decide) ?_
        refine w_bipush (v := nZ 10) dX5_readNumber_43 (by decide) ?_
        refine w_iload dX5_readNumber_45 (List.Mem.tail _ (List.Mem.tail _ (List.Mem.tail _ (List.Mem.tail _ (List.Mem.head _))))) ?_
        obtain ⟨q11, h⟩ := h
        refine i_mul dX5_readNumber_47 ?_
        refine w_aload_n dX5_readNumber_48 rfl (List.Mem.head _) ?_
        obtain ⟨r16, σ12, hc14, hG13, rr15, h⟩ := h
        refine w_callV dX5_readNumber_49 ml_5_58 ⟨ok_X5_here, vi_X5_here⟩ hs_X5_here (As := []) rfl rfl (gT hG7 rfl (lt_of rfl)) (Nat.le_of_ble_eq_true rfl) hc14 ?_
        show wp C 5 cX5_readNumber 5 (some .int) false [] sc P 52 [(0, .ref 1), (1, .int (nZ x1)), (2, .int (nZ x2)), (3, .int (nZ x3)), (4, .int (nZ x4))] [.int (nZ r16), .int (nZ (10 * x4)), .int (nZ 100000)] σ12
        obtain ⟨q17, h⟩ := h
        refine i_add dX5_readNumber_52 ?_
        refine w_bipush (v := nZ 48) dX5_readNumber_53 (by decide) ?_
        obtain ⟨q18, h⟩ := h
        refine i_sub dX5_readNumber_55 ?_
        refine i_mmin dX5_readNumber_56 lk_5_40 (Nat.le_of_ble_eq_true rfl) (by decide) q18 (fun z19 ez20 rz21 => ?_)
        replace h := h z19 ez20
        refine w_istore (l' := [(4, .int (nZ z19)), (0, .ref 1), (1, .int (nZ x1)), (2, .int (nZ x2)), (3, .int (nZ x3))]) dX5_readNumber_59 (by decide) rfl ?_
        refine w_aload_n dX5_readNumber_61 rfl (List.Mem.tail _ (List.Mem.head _)) ?_
        refine w_dup dX5_readNumber_62 rfl ?_
        refine i_getI (ci := 5) 3 rfl dX5_readNumber_63 fl_5_22 (by decide) (gT hG13 rfl (lt_of rfl)) ?_
        refine w_iconst (v := nZ 1) dX5_readNumber_66 (by decide) ?_
        obtain ⟨q22, h⟩ := h
        refine i_add dX5_readNumber_67 ?_
        refine i_putI (ci := 5) 3 rfl dX5_readNumber_68 fl_5_22 (by decide) (gT hG13 rfl (lt_of rfl)) (fun σ23 eσ24 => ?_)
        replace h := h σ23 eσ24
        have hG25 : G σ23 u := eσ24 ▸ G.wI hG13
        refine w_goto (tgt := 12) dX5_readNumber_71 rfl ?_
        exact w_weak (l' := [(0, .ref 1), (1, .int (nZ x1)), (2, .int (nZ x2)), (3, .int (nZ x3)), (4, .int (nZ z19))]) (by intro q hq; simp only [List.mem_cons, List.not_mem_nil, or_false] at hq ⊢; rcases hq with rfl | rfl | rfl | rfl | rfl <;> simp) h
set_option maxRecDepth 10000 in
theorem v_X5_readNumber_74 {C : aM → List Value → aH → aO → aH → Prop} {sc : Nat × (Nat → Int32)} {P : aO → aH → Prop} {σ : aH} {u : Nat}  {x1 : Int} {x2 : Int} {x3 : Int} {x4 : Int} (hG : G σ u) (rx1 : inR x1) (rx2 : inR x2) (rx3 : inR x3) (rx4 : inR x4)
    (h : ((¬ (rI σ 1 3) = x3 → ((x4 < x1 → (∃ σ1 : aH, C mX5_blame [.ref 1, .int (nZ 2), .int (nZ x3)] σ (.inl none) σ1 ∧ G σ1 u ∧ ((¬ (rI σ1 1 4) = 0 → P (.inl (some (.int (nZ 0)))) σ1) ∧ ((rI σ1 1 4) = 0 → P (.inl (some (.int (nZ x4)))) σ1)))) ∧ (¬ (x4 < x1) → ((x4 ≤ x2 → ((¬ (rI σ 1 4) = 0 → P (.inl (some (.int (nZ 0)))) σ) ∧ ((rI σ 1 4) = 0 → P (.inl (some (.int (nZ x4)))) σ))) ∧ (¬ (x4 ≤ x2) → (∃ σ5 : aH, C mX5_blame [.ref 1, .int (nZ 2), .int (nZ x3)] σ (.inl none) σ5 ∧ G σ5 u ∧ ((¬ (rI σ5 1 4) = 0 → P (.inl (some (.int (nZ 0)))) σ5) ∧ ((rI σ5 1 4) = 0 → P (.inl (some (.int (nZ x4)))) σ5)))))))) ∧ ((rI σ 1 3) = x3 → (∃ σ9 : aH, C mX5_blame [.ref 1, .int (nZ 1), .int (nZ x3)] σ (.inl none) σ9 ∧ G σ9 u ∧ ((¬ (rI σ9 1 4) = 0 → P (.inl (some (.int (nZ 0)))) σ9) ∧ ((rI σ9 1 4) = 0 → P (.inl (some (.int (nZ x4)))) σ9)))))) :
    L_X5_readNumber_74 C sc P x1 x2 x3 x4 σ := by
  unfold L_X5_readNumber_74
  refine w_aload_n dX5_readNumber_74 rfl (List.Mem.head _) ?_
  refine i_getI (ci := 5) 3 rfl dX5_readNumber_75 fl_5_22 (by decide) (gT hG rfl (lt_of rfl)) ?_
  refine w_iload_n dX5_readNumber_78 rfl (List.Mem.tail _ (List.Mem.tail _ (List.Mem.tail _ (List.Mem.head _)))) ?_
  refine i_cmp_ne (tgt := 91) dX5_readNumber_79 rfl (rI_R _ _ _) rx3 (fun c9 => ?_) (fun c9 => ?_)
  · replace h := h.1 c9
    refine w_iload dX5_readNumber_91 (List.Mem.tail _ (List.Mem.tail _ (List.Mem.tail _ (List.Mem.tail _ (List.Mem.head _))))) ?_
    refine w_iload_n dX5_readNumber_93 rfl (List.Mem.tail _ (List.Mem.head _)) ?_
    refine i_cmp_lt (tgt := 103) dX5_readNumber_94 rfl rx4 rx1 (fun c9 => ?_) (fun c9 => ?_)
    · replace h := h.1 c9
      refine w_aload_n dX5_readNumber_103 rfl (List.Mem.head _) ?_
      refine w_iconst (v := nZ 2) dX5_readNumber_104 (by decide) ?_
      refine w_iload_n dX5_readNumber_105 rfl (List.Mem.tail _ (List.Mem.tail _ (List.Mem.tail _ (List.Mem.head _)))) ?_
      obtain ⟨σ1, hc3, hG2, h⟩ := h
      refine w_callV dX5_readNumber_106 ml_5_65 ⟨ok_X5_blame, vi_X5_blame⟩ hs_X5_blame (As := [.int (nZ 2), .int (nZ x3)]) rfl rfl (gT hG rfl (lt_of rfl)) (Nat.le_of_ble_eq_true rfl) hc3 ?_
      show wp C 5 cX5_readNumber 5 (some .int) false [] sc P 109 [(0, .ref 1), (1, .int (nZ x1)), (2, .int (nZ x2)), (3, .int (nZ x3)), (4, .int (nZ x4))] [] σ1
      refine w_aload_n dX5_readNumber_109 rfl (List.Mem.head _) ?_
      refine i_getI (ci := 5) 4 rfl dX5_readNumber_110 fl_5_25 (by decide) (gT hG2 rfl (lt_of rfl)) ?_
      refine i_if_ne (tgt := 121) dX5_readNumber_113 rfl (rI_R _ _ _) (fun c9 => ?_) (fun c9 => ?_)
      · replace h := h.1 c9
        refine w_iconst (v := nZ 0) dX5_readNumber_121 (by decide) ?_
        exact w_iret dX5_readNumber_122 rfl h
      · replace h := h.2 c9
        refine w_iload dX5_readNumber_116 (List.Mem.tail _ (List.Mem.tail _ (List.Mem.tail _ (List.Mem.tail _ (List.Mem.head _))))) ?_
        refine w_goto (tgt := 122) dX5_readNumber_118 rfl ?_
        exact w_iret dX5_readNumber_122 rfl h
    · replace h := h.2 c9
      refine w_iload dX5_readNumber_97 (List.Mem.tail _ (List.Mem.tail _ (List.Mem.tail _ (List.Mem.tail _ (List.Mem.head _))))) ?_
      refine w_iload_n dX5_readNumber_99 rfl (List.Mem.tail _ (List.Mem.tail _ (List.Mem.head _))) ?_
      refine i_cmp_le (tgt := 109) dX5_readNumber_100 rfl rx4 rx2 (fun c9 => ?_) (fun c9 => ?_)
      · replace h := h.1 c9
        refine w_aload_n dX5_readNumber_109 rfl (List.Mem.head _) ?_
        refine i_getI (ci := 5) 4 rfl dX5_readNumber_110 fl_5_25 (by decide) (gT hG rfl (lt_of rfl)) ?_
        refine i_if_ne (tgt := 121) dX5_readNumber_113 rfl (rI_R _ _ _) (fun c9 => ?_) (fun c9 => ?_)
        · replace h := h.1 c9
          refine w_iconst (v := nZ 0) dX5_readNumber_121 (by decide) ?_
          exact w_iret dX5_readNumber_122 rfl h
        · replace h := h.2 c9
          refine w_iload dX5_readNumber_116 (List.Mem.tail _ (List.Mem.tail _ (List.Mem.tail _ (List.Mem.tail _ (List.Mem.head _))))) ?_
          refine w_goto (tgt := 122) dX5_readNumber_118 rfl ?_
          exact w_iret dX5_readNumber_122 rfl h
      · replace h := h.2 c9
        refine w_aload_n dX5_readNumber_103 rfl (List.Mem.head _) ?_
        refine w_iconst (v := nZ 2) dX5_readNumber_104 (by decide) ?_
        refine w_iload_n dX5_readNumber_105 rfl (List.Mem.tail _ (List.Mem.tail _ (List.Mem.tail _ (List.Mem.head _)))) ?_
        obtain ⟨σ5, hc7, hG6, h⟩ := h
        refine w_callV dX5_readNumber_106 ml_5_65 ⟨ok_X5_blame, vi_X5_blame⟩ hs_X5_blame (As := [.int (nZ 2), .int (nZ x3)]) rfl rfl (gT hG rfl (lt_of rfl)) (Nat.le_of_ble_eq_true rfl) hc7 ?_
        show wp C 5 cX5_readNumber 5 (some .int) false [] sc P 109 [(0, .ref 1), (1, .int (nZ x1)), (2, .int (nZ x2)), (3, .int (nZ x3)), (4, .int (nZ x4))] [] σ5
        refine w_aload_n dX5_readNumber_109 rfl (List.Mem.head _) ?_
        refine i_getI (ci := 5) 4 rfl dX5_readNumber_110 fl_5_25 (by decide) (gT hG6 rfl (lt_of rfl)) ?_
        refine i_if_ne (tgt := 121) dX5_readNumber_113 rfl (rI_R _ _ _) (fun c9 => ?_) (fun c9 => ?_)
        · replace h := h.1 c9
          refine w_iconst (v := nZ 0) dX5_readNumber_121 (by decide) ?_
          exact w_iret dX5_readNumber_122 rfl h
        · replace h := h.2 c9
          refine w_iload dX5_readNumber_116 (List.Mem.tail _ (List.Mem.tail _ (List.Mem.tail _ (List.Mem.tail _ (List.Mem.head _))))) ?_
          refine w_goto (tgt := 122) dX5_readNumber_118 rfl ?_
          exact w_iret dX5_readNumber_122 rfl h
  · replace h := h.2 c9
    refine w_aload_n dX5_readNumber_82 rfl (List.Mem.head _) ?_
    refine w_iconst (v := nZ 1) dX5_readNumber_83 (by decide) ?_
    refine w_iload_n dX5_readNumber_84 rfl (List.Mem.tail _ (List.Mem.tail _ (List.Mem.tail _ (List.Mem.head _)))) ?_
    obtain ⟨σ9, hc11, hG10, h⟩ := h
    refine w_callV dX5_readNumber_85 ml_5_65 ⟨ok_X5_blame, vi_X5_blame⟩ hs_X5_blame (As := [.int (nZ 1), .int (nZ x3)]) rfl rfl (gT hG rfl (lt_of rfl)) (Nat.le_of_ble_eq_true rfl) hc11 ?_
    show wp C 5 cX5_readNumber 5 (some .int) false [] sc P 88 [(0, .ref 1), (1, .int (nZ x1)), (2, .int (nZ x2)), (3, .int (nZ x3)), (4, .int (nZ x4))] [] σ9
    refine w_goto (tgt := 109) dX5_readNumber_88 rfl ?_
    refine w_aload_n dX5_readNumber_109 rfl (List.Mem.head _) ?_
    refine i_getI (ci := 5) 4 rfl dX5_readNumber_110 fl_5_25 (by decide) (gT hG10 rfl (lt_of rfl)) ?_
    refine i_if_ne (tgt := 121) dX5_readNumber_113 rfl (rI_R _ _ _) (fun c9 => ?_) (fun c9 => ?_)
    · replace h := h.1 c9
      refine w_iconst (v := nZ 0) dX5_readNumber_121 (by decide) ?_
      exact w_iret dX5_readNumber_122 rfl h
    · replace h := h.2 c9
      refine w_iload dX5_readNumber_116 (List.Mem.tail _ (List.Mem.tail _ (List.Mem.tail _ (List.Mem.tail _ (List.Mem.head _))))) ?_
      refine w_goto (tgt := 122) dX5_readNumber_118 rfl ?_
      exact w_iret dX5_readNumber_122 rfl h
theorem dX5_readEnd_0 : decode cX5_readEnd 0 = .ok (.aload_n 0, 1) := by decide +kernel
theorem dX5_readEnd_1 : decode cX5_readEnd 1 = .ok (.invokevirtual 51, 3) := by decide +kernel
theorem dX5_readEnd_4 : decode cX5_readEnd 4 = .ok (.aload_n 0, 1) := by decide +kernel
theorem dX5_readEnd_5 : decode cX5_readEnd 5 = .ok (.invokevirtual 58, 3) := by decide +kernel
theorem dX5_readEnd_8 : decode cX5_readEnd 8 = .ok (.bipush 59, 2) := by decide +kernel
theorem dX5_readEnd_10 : decode cX5_readEnd 10 = .ok (.if_icmp .ne 16, 3) := by decide +kernel
theorem dX5_readEnd_13 : decode cX5_readEnd 13 = .ok (.aload_n 0, 1) := by decide +kernel
theorem dX5_readEnd_14 : decode cX5_readEnd 14 = .ok (.dup, 1) := by decide +kernel
theorem dX5_readEnd_15 : decode cX5_readEnd 15 = .ok (.getfield 22, 3) := by decide +kernel
theorem dX5_readEnd_18 : decode cX5_readEnd 18 = .ok (.iconst 1, 1) := by decide +kernel
theorem dX5_readEnd_19 : decode cX5_readEnd 19 = .ok (.iadd, 1) := by decide +kernel
theorem dX5_readEnd_20 : decode cX5_readEnd 20 = .ok (.putfield 22, 3) := by decide +kernel
theorem dX5_readEnd_23 : decode cX5_readEnd 23 = .ok (.goto 12, 3) := by decide +kernel
theorem dX5_readEnd_26 : decode cX5_readEnd 26 = .ok (.aload_n 0, 1) := by decide +kernel
theorem dX5_readEnd_27 : decode cX5_readEnd 27 = .ok (.iconst 1, 1) := by decide +kernel
theorem dX5_readEnd_28 : decode cX5_readEnd 28 = .ok (.aload_n 0, 1) := by decide +kernel
theorem dX5_readEnd_29 : decode cX5_readEnd 29 = .ok (.getfield 22, 3) := by decide +kernel
theorem dX5_readEnd_32 : decode cX5_readEnd 32 = .ok (.invokevirtual 65, 3) := by decide +kernel
theorem dX5_readEnd_35 : decode cX5_readEnd 35 = .ok (.return_, 1) := by decide +kernel
set_option maxRecDepth 10000 in
theorem t_X5_readEnd {sc : Nat × (Nat → Int32)} {d : Nat} {Q : aO → aH → Prop} {σ : aH} {u : Nat}   (hG : G σ u) 
    (h : (∃ σ1 : aH, Ev sc d mX5_skipBlanks [.ref 1] σ (.inl none) σ1 ∧ G σ1 u ∧ (∃ (r9 : Int) (σ5 : aH), Ev sc d mX5_here [.ref 1] σ1 (.inl (some (.int (nZ r9)))) σ5 ∧ G σ5 u ∧ inR r9 ∧ ((¬ r9 = 59 → (∃ σ10 : aH, Ev sc d mX5_blame [.ref 1, .int (nZ 1), .int (nZ (rI σ5 1 3))] σ5 (.inl none) σ10 ∧ G σ10 u ∧ Q (.inl none) σ10)) ∧ (r9 = 59 → (inR ((rI σ5 1 3) + 1) ∧ (∀ σ15 : aH, wI σ5 1 3 ((rI σ5 1 3) + 1) = σ15 → Q (.inl none) σ15))))))) :
    T sc (d + 1) mX5_readEnd [.ref 1] σ Q := by
  refine T.of (c := 5) (code := cX5_readEnd) (mL := 1) (rt := none) (ini := false) (l := [(0, .ref 1)]) rfl rfl rfl rfl (by decide) hs_X5_readEnd rfl rfl ?_
  refine w_aload_n dX5_readEnd_0 rfl (List.Mem.head _) ?_
  obtain ⟨σ1, hc3, hG2, h⟩ := h
  refine w_callV dX5_readEnd_1 ml_5_51 ⟨ok_X5_skipBlanks, vi_X5_skipBlanks⟩ hs_X5_skipBlanks (As := []) rfl rfl (gT hG rfl (lt_of rfl)) (Nat.le_of_ble_eq_true rfl) hc3 ?_
  show wp (Ev sc d) 5 cX5_readEnd 1 none false [] sc Q 4 [(0, .ref 1)] [] σ1
  refine w_aload_n dX5_readEnd_4 rfl (List.Mem.head _) ?_
  obtain ⟨r9, σ5, hc7, hG6, rr8, h⟩ := h
  refine w_callV dX5_readEnd_5 ml_5_58 ⟨ok_X5_here, vi_X5_here⟩ hs_X5_here (As := []) rfl rfl (gT hG2 rfl (lt_of rfl)) (Nat.le_of_ble_eq_true rfl) hc7 ?_
  show wp (Ev sc d) 5 cX5_readEnd 1 none false [] sc Q 8 [(0, .ref 1)] [.int (nZ r9)] σ5
  refine w_bipush (v := nZ 59) dX5_readEnd_8 (by decide) ?_
  refine i_cmp_ne (tgt := 26) dX5_readEnd_10 rfl rr8 (by decide) (fun c9 => ?_) (fun c9 => ?_)
  · replace h := h.1 c9
    refine w_aload_n dX5_readEnd_26 rfl (List.Mem.head _) ?_
    refine w_iconst (v := nZ 1) dX5_readEnd_27 (by decide) ?_
    refine w_aload_n dX5_readEnd_28 rfl (List.Mem.head _) ?_
    refine i_getI (ci := 5) 3 rfl dX5_readEnd_29 fl_5_22 (by decide) (gT hG6 rfl (lt_of rfl)) ?_
    obtain ⟨σ10, hc12, hG11, h⟩ := h
    refine w_callV dX5_readEnd_32 ml_5_65 ⟨ok_X5_blame, vi_X5_blame⟩ hs_X5_blame (As := [.int (nZ 1), .int (nZ (rI σ5 1 3))]) rfl rfl (gT hG6 rfl (lt_of rfl)) (Nat.le_of_ble_eq_true rfl) hc12 ?_
    show wp (Ev sc d) 5 cX5_readEnd 1 none false [] sc Q 35 [(0, .ref 1)] [] σ10
    exact w_vret dX5_readEnd_35 rfl h
  · replace h := h.2 c9
    refine w_aload_n dX5_readEnd_13 rfl (List.Mem.head _) ?_
    refine w_dup dX5_readEnd_14 rfl ?_
    refine i_getI (ci := 5) 3 rfl dX5_readEnd_15 fl_5_22 (by decide) (gT hG6 rfl (lt_of rfl)) ?_
    refine w_iconst (v := nZ 1) dX5_readEnd_18 (by decide) ?_
    obtain ⟨q14, h⟩ := h
    refine i_add dX5_readEnd_19 ?_
    refine i_putI (ci := 5) 3 rfl dX5_readEnd_20 fl_5_22 (by decide) (gT hG6 rfl (lt_of rfl)) (fun σ15 eσ16 => ?_)
    replace h := h σ15 eσ16
    have hG17 : G σ15 u := eσ16 ▸ G.wI hG6
    refine w_goto (tgt := 35) dX5_readEnd_23 rfl ?_
    exact w_vret dX5_readEnd_35 rfl h
