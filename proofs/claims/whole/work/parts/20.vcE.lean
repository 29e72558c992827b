theorem dX3_fewest_0 : decode cX3_fewest 0 = .ok (.aload_n 0, 1) := by decide +kernel
theorem dX3_fewest_1 : decode cX3_fewest 1 = .ok (.aload_n 1, 1) := by decide +kernel
theorem dX3_fewest_2 : decode cX3_fewest 2 = .ok (.aload_n 1, 1) := by decide +kernel
theorem dX3_fewest_3 : decode cX3_fewest 3 = .ok (.iconst 0, 1) := by decide +kernel
theorem dX3_fewest_4 : decode cX3_fewest 4 = .ok (.iload_n 2, 1) := by decide +kernel
theorem dX3_fewest_5 : decode cX3_fewest 5 = .ok (.invokevirtual 21, 3) := by decide +kernel
theorem dX3_fewest_8 : decode cX3_fewest 8 = .ok (.invokevirtual 27, 3) := by decide +kernel
theorem dX3_fewest_11 : decode cX3_fewest 11 = .ok (.istore_n 3, 1) := by decide +kernel
theorem dX3_fewest_12 : decode cX3_fewest 12 = .ok (.aload_n 0, 1) := by decide +kernel
theorem dX3_fewest_13 : decode cX3_fewest 13 = .ok (.getfield 15, 3) := by decide +kernel
theorem dX3_fewest_16 : decode cX3_fewest 16 = .ok (.iconst 0, 1) := by decide +kernel
theorem dX3_fewest_17 : decode cX3_fewest 17 = .ok (.iconst 0, 1) := by decide +kernel
theorem dX3_fewest_18 : decode cX3_fewest 18 = .ok (.iastore, 1) := by decide +kernel
theorem dX3_fewest_19 : decode cX3_fewest 19 = .ok (.aload_n 0, 1) := by decide +kernel
theorem dX3_fewest_20 : decode cX3_fewest 20 = .ok (.getfield 18, 3) := by decide +kernel
theorem dX3_fewest_23 : decode cX3_fewest 23 = .ok (.iconst 0, 1) := by decide +kernel
theorem dX3_fewest_24 : decode cX3_fewest 24 = .ok (.iconst 0, 1) := by decide +kernel
theorem dX3_fewest_25 : decode cX3_fewest 25 = .ok (.iastore, 1) := by decide +kernel
theorem dX3_fewest_26 : decode cX3_fewest 26 = .ok (.iconst 1, 1) := by decide +kernel
theorem dX3_fewest_27 : decode cX3_fewest 27 = .ok (.istore 4, 2) := by decide +kernel
theorem dX3_fewest_29 : decode cX3_fewest 29 = .ok (.iload 4, 2) := by decide +kernel
theorem dX3_fewest_31 : decode cX3_fewest 31 = .ok (.iconst 1, 1) := by decide +kernel
theorem dX3_fewest_32 : decode cX3_fewest 32 = .ok (.iload_n 3, 1) := by decide +kernel
theorem dX3_fewest_33 : decode cX3_fewest 33 = .ok (.ishl, 1) := by decide +kernel
theorem dX3_fewest_34 : decode cX3_fewest 34 = .ok (.if_icmp .ge 16, 3) := by decide +kernel
theorem dX3_fewest_37 : decode cX3_fewest 37 = .ok (.aload_n 0, 1) := by decide +kernel
theorem dX3_fewest_38 : decode cX3_fewest 38 = .ok (.iload 4, 2) := by decide +kernel
theorem dX3_fewest_40 : decode cX3_fewest 40 = .ok (.iload_n 3, 1) := by decide +kernel
theorem dX3_fewest_41 : decode cX3_fewest 41 = .ok (.invokevirtual 31, 3) := by decide +kernel
theorem dX3_fewest_44 : decode cX3_fewest 44 = .ok (.iinc 4 1, 3) := by decide +kernel
theorem dX3_fewest_47 : decode cX3_fewest 47 = .ok (.goto (-18), 3) := by decide +kernel
theorem dX3_fewest_50 : decode cX3_fewest 50 = .ok (.iload_n 3, 1) := by decide +kernel
theorem dX3_fewest_51 : decode cX3_fewest 51 = .ok (.aload_n 0, 1) := by decide +kernel
theorem dX3_fewest_52 : decode cX3_fewest 52 = .ok (.getfield 18, 3) := by decide +kernel
theorem dX3_fewest_55 : decode cX3_fewest 55 = .ok (.iconst 1, 1) := by decide +kernel
theorem dX3_fewest_56 : decode cX3_fewest 56 = .ok (.iload_n 3, 1) := by decide +kernel
theorem dX3_fewest_57 : decode cX3_fewest 57 = .ok (.ishl, 1) := by decide +kernel
theorem dX3_fewest_58 : decode cX3_fewest 58 = .ok (.iconst 1, 1) := by decide +kernel
theorem dX3_fewest_59 : decode cX3_fewest 59 = .ok (.isub, 1) := by decide +kernel
theorem dX3_fewest_60 : decode cX3_fewest 60 = .ok (.iaload, 1) := by decide +kernel
theorem dX3_fewest_61 : decode cX3_fewest 61 = .ok (.isub, 1) := by decide +kernel
theorem dX3_fewest_62 : decode cX3_fewest 62 = .ok (.ireturn, 1) := by decide +kernel
def L_X3_fewest_29 (C : aM → List Value → aH → aO → aH → Prop) (sc : Nat × (Nat → Int32)) (P : aO → aH → Prop) (x2 : Int) (x3 : Int) (x4 : Int) (σ : aH) : Prop :=
    wp C 3 cX3_fewest 5 (some .int) false [] sc P 29 [(0, .ref 22), (1, .ref 27), (2, .int (nZ x2)), (3, .int (nZ x3)), (4, .int (nZ x4))] [] σ
set_option maxRecDepth 10000 in
theorem t_X3_fewest {sc : Nat × (Nat → Int32)} {d : Nat} {Q : aO → aH → Prop} {σ : aH} {u : Nat}  {x2 : Int} (hG : G σ u) (rx2 : inR x2)
    (h : (∃ σ1 : aH, Ev sc d mX6_costsOf [.ref 27, .int (nZ 0), .int (nZ x2)] σ (.inl (some (.ref 34))) σ1 ∧ G σ1 u ∧ (∃ (r9 : Int) (σ5 : aH), Ev sc d mX3_gatherNets [.ref 22, .ref 27, .ref 34] σ1 (.inl (some (.int (nZ r9)))) σ5 ∧ G σ5 u ∧ inR r9 ∧ (∀ σ10 : aH, wI σ5 24 0 0 = σ10 → (∀ σ13 : aH, wI σ10 25 0 0 = σ13 → L_X3_fewest_29 (Ev sc d) sc Q x2 r9 1 σ13))))) :
    T sc (d + 1) mX3_fewest [.ref 22, .ref 27, .int (nZ x2)] σ Q := by
  refine T.of (c := 3) (code := cX3_fewest) (mL := 5) (rt := (some .int)) (ini := false) (l := [(0, .ref 22), (1, .ref 27), (2, .int (nZ x2))]) rfl rfl rfl rfl (by decide) hs_X3_fewest rfl rfl ?_
  refine w_aload_n dX3_fewest_0 rfl (List.Mem.head _) ?_
  refine w_aload_n dX3_fewest_1 rfl (List.Mem.tail _ (List.Mem.head _)) ?_
  refine w_aload_n dX3_fewest_2 rfl (List.Mem.tail _ (List.Mem.head _)) ?_
  refine w_iconst (v := nZ 0) dX3_fewest_3 (by decide) ?_
  refine w_iload_n dX3_fewest_4 rfl (List.Mem.tail _ (List.Mem.tail _ (List.Mem.head _))) ?_
  obtain ⟨σ1, hc3, hG2, h⟩ := h
  refine w_callV dX3_fewest_5 ml_3_21 ⟨ok_X6_costsOf, vi_X6_costsOf⟩ hs_X6_costsOf (As := [.int (nZ 0), .int (nZ x2)]) rfl rfl (gT hG rfl (lt_of rfl)) (Nat.le_of_ble_eq_true rfl) hc3 ?_
  show wp (Ev sc d) 3 cX3_fewest 5 (some .int) false [] sc Q 8 [(0, .ref 22), (1, .ref 27), (2, .int (nZ x2))] [.ref 34, .ref 27, .ref 22] σ1
  obtain ⟨r9, σ5, hc7, hG6, rr8, h⟩ := h
  refine w_callV dX3_fewest_8 ml_3_27 ⟨ok_X3_gatherNets, vi_X3_gatherNets⟩ hs_X3_gatherNets (As := [.ref 27, .ref 34]) rfl rfl (gT hG2 rfl (lt_of rfl)) (Nat.le_of_ble_eq_true rfl) hc7 ?_
  show wp (Ev sc d) 3 cX3_fewest 5 (some .int) false [] sc Q 11 [(0, .ref 22), (1, .ref 27), (2, .int (nZ x2))] [.int (nZ r9)] σ5
  refine w_istore_n (l' := [(3, .int (nZ r9)), (0, .ref 22), (1, .ref 27), (2, .int (nZ x2))]) dX3_fewest_11 rfl (by decide) rfl ?_
  refine w_aload_n dX3_fewest_12 rfl (List.Mem.tail _ (List.Mem.head _)) ?_
  refine w_getR (ci := 3) (k := 1) (b := 24) dX3_fewest_13 fl_3_15 (by decide) (gT hG6 rfl (lt_of rfl)) (gR hG6 (b := 24) rfl) ?_
  refine w_iconst (v := nZ 0) dX3_fewest_16 (by decide) ?_
  refine w_iconst (v := nZ 0) dX3_fewest_17 (by decide) ?_
  refine i_iast (n := 256) dX3_fewest_18 (gT hG6 rfl (lt_of rfl)) (gL hG6 rfl) (by decide) (by decide) (fun σ10 eσ11 => ?_)
  replace h := h σ10 eσ11
  have hG12 : G σ10 u := eσ11 ▸ G.wI hG6
  refine w_aload_n dX3_fewest_19 rfl (List.Mem.tail _ (List.Mem.head _)) ?_
  refine w_getR (ci := 3) (k := 2) (b := 25) dX3_fewest_20 fl_3_18 (by decide) (gT hG12 rfl (lt_of rfl)) (gR hG12 (b := 25) rfl) ?_
  refine w_iconst (v := nZ 0) dX3_fewest_23 (by decide) ?_
  refine w_iconst (v := nZ 0) dX3_fewest_24 (by decide) ?_
  refine i_iast (n := 256) dX3_fewest_25 (gT hG12 rfl (lt_of rfl)) (gL hG12 rfl) (by decide) (by decide) (fun σ13 eσ14 => ?_)
  replace h := h σ13 eσ14
  have hG15 : G σ13 u := eσ14 ▸ G.wI hG12
  refine w_iconst (v := nZ 1) dX3_fewest_26 (by decide) ?_
  refine w_istore (l' := [(4, .int (nZ 1)), (3, .int (nZ r9)), (0, .ref 22), (1, .ref 27), (2, .int (nZ x2))]) dX3_fewest_27 (by decide) rfl ?_
  exact w_weak (l' := [(0, .ref 22), (1, .ref 27), (2, .int (nZ x2)), (3, .int (nZ r9)), (4, .int (nZ 1))]) (by intro q hq; simp only [List.mem_cons, List.not_mem_nil, or_false] at hq ⊢; rcases hq with rfl | rfl | rfl | rfl | rfl <;> simp) h
set_option maxRecDepth 10000 in
theorem v_X3_fewest_29 {C : aM → List Value → aH → aO → aH → Prop} {sc : Nat × (Nat → Int32)} {P : aO → aH → Prop} {σ : aH} {u : Nat}  {x2 : Int} {x3 : Int} {x4 : Int} (hG : G σ u) (rx2 : inR x2) (rx3 : inR x3) (rx4 : inR x4)
    (h : (((zShl 1 x3) ≤ x4 → (inR ((zShl 1 x3) - 1) ∧ ((0 ≤ ((zShl 1 x3) - 1) ∧ ((zShl 1 x3) - 1) < 256) ∧ (inR (x3 - (rI σ 25 ((zShl 1 x3) - 1))) ∧ P (.inl (some (.int (nZ (x3 - (rI σ 25 ((zShl 1 x3) - 1))))))) σ)))) ∧ (¬ ((zShl 1 x3) ≤ x4) → (∃ σ3 : aH, C mX3_splitSet [.ref 22, .int (nZ x4), .int (nZ x3)] σ (.inl none) σ3 ∧ G σ3 u ∧ (inR (x4 + 1) ∧ L_X3_fewest_29 C sc P x2 x3 (x4 + 1) σ3))))) :
    L_X3_fewest_29 C sc P x2 x3 x4 σ := by
  unfold L_X3_fewest_29
  refine w_iload dX3_fewest_29 (List.Mem.tail _ (List.Mem.tail _ (List.Mem.tail _ (List.Mem.tail _ (List.Mem.head _))))) ?_
  refine w_iconst (v := nZ 1) dX3_fewest_31 (by decide) ?_
  refine w_iload_n dX3_fewest_32 rfl (List.Mem.tail _ (List.Mem.tail _ (List.Mem.tail _ (List.Mem.head _)))) ?_
  refine i_shl dX3_fewest_33 ?_
  refine i_cmp_ge (tgt := 50) dX3_fewest_34 rfl rx4 (zShl_R _ _) (fun c9 => ?_) (fun c9 => ?_)
  · replace h := h.1 c9
    refine w_iload_n dX3_fewest_50 rfl (List.Mem.tail _ (List.Mem.tail _ (List.Mem.tail _ (List.Mem.head _)))) ?_
    refine w_aload_n dX3_fewest_51 rfl (List.Mem.head _) ?_
    refine w_getR (ci := 3) (k := 2) (b := 25) dX3_fewest_52 fl_3_18 (by decide) (gT hG rfl (lt_of rfl)) (gR hG (b := 25) rfl) ?_
    refine w_iconst (v := nZ 1) dX3_fewest_55 (by decide) ?_
    refine w_iload_n dX3_fewest_56 rfl (List.Mem.tail _ (List.Mem.tail _ (List.Mem.tail _ (List.Mem.head _)))) ?_
    refine i_shl dX3_fewest_57 ?_
    refine w_iconst (v := nZ 1) dX3_fewest_58 (by decide) ?_
    obtain ⟨q1, h⟩ := h
    refine i_sub dX3_fewest_59 ?_
    obtain ⟨h9, h⟩ := h
    refine i_iald (n := 256) dX3_fewest_60 (gT hG rfl (lt_of rfl)) (gL hG rfl) q1 h9 ?_
    obtain ⟨q2, h⟩ := h
    refine i_sub dX3_fewest_61 ?_
    exact w_iret dX3_fewest_62 rfl h
  · replace h := h.2 c9
    refine w_aload_n dX3_fewest_37 rfl (List.Mem.head _) ?_
    refine w_iload dX3_fewest_38 (List.Mem.tail _ (List.Mem.tail _ (List.Mem.tail _ (List.Mem.tail _ (List.Mem.head _))))) ?_
    refine w_iload_n dX3_fewest_40 rfl (List.Mem.tail _ (List.Mem.tail _ (List.Mem.tail _ (List.Mem.head _)))) ?_
    obtain ⟨σ3, hc5, hG4, h⟩ := h
    refine w_callV dX3_fewest_41 ml_3_31 ⟨ok_X3_splitSet, vi_X3_splitSet⟩ hs_X3_splitSet (As := [.int (nZ x4), .int (nZ x3)]) rfl rfl (gT hG rfl (lt_of rfl)) (Nat.le_of_ble_eq_true rfl) hc5 ?_
    show wp C 3 cX3_fewest 5 (some .int) false [] sc P 44 [(0, .ref 22), (1, .ref 27), (2, .int (nZ x2)), (3, .int (nZ x3)), (4, .int (nZ x4))] [] σ3
    obtain ⟨q7, h⟩ := h
    refine w_iinc (v := nZ (x4 + 1)) (l' := [(4, .int (nZ (x4 + 1))), (0, .ref 22), (1, .ref 27), (2, .int (nZ x2)), (3, .int (nZ x3))]) dX3_fewest_44 (List.Mem.tail _ (List.Mem.tail _ (List.Mem.tail _ (List.Mem.tail _ (List.Mem.head _))))) (nZ_add _ _) (by decide) rfl ?_
    refine w_goto (tgt := 29) dX3_fewest_47 rfl ?_
    exact w_weak (l' := [(0, .ref 22), (1, .ref 27), (2, .int (nZ x2)), (3, .int (nZ x3)), (4, .int (nZ (x4 + 1)))]) (by intro q hq; simp only [List.mem_cons, List.not_mem_nil, or_false] at hq ⊢; rcases hq with rfl | rfl | rfl | rfl | rfl <;> simp) h
theorem dX3_gatherNets_0 : decode cX3_gatherNets 0 = .ok (.iconst 0, 1) := by decide +kernel
theorem dX3_gatherNets_1 : decode cX3_gatherNets 1 = .ok (.istore_n 3, 1) := by decide +kernel
theorem dX3_gatherNets_2 : decode cX3_gatherNets 2 = .ok (.iconst 0, 1) := by decide +kernel
theorem dX3_gatherNets_3 : decode cX3_gatherNets 3 = .ok (.istore 4, 2) := by decide +kernel
theorem dX3_gatherNets_5 : decode cX3_gatherNets 5 = .ok (.iload 4, 2) := by decide +kernel
theorem dX3_gatherNets_7 : decode cX3_gatherNets 7 = .ok (.aload_n 1, 1) := by decide +kernel
theorem dX3_gatherNets_8 : decode cX3_gatherNets 8 = .ok (.getfield 35, 3) := by decide +kernel
theorem dX3_gatherNets_11 : decode cX3_gatherNets 11 = .ok (.getfield 39, 3) := by decide +kernel
theorem dX3_gatherNets_14 : decode cX3_gatherNets 14 = .ok (.getfield 45, 3) := by decide +kernel
theorem dX3_gatherNets_17 : decode cX3_gatherNets 17 = .ok (.if_icmp .ge 40, 3) := by decide +kernel
theorem dX3_gatherNets_20 : decode cX3_gatherNets 20 = .ok (.aload_n 1, 1) := by decide +kernel
theorem dX3_gatherNets_21 : decode cX3_gatherNets 21 = .ok (.aload_n 2, 1) := by decide +kernel
theorem dX3_gatherNets_22 : decode cX3_gatherNets 22 = .ok (.iload 4, 2) := by decide +kernel
theorem dX3_gatherNets_24 : decode cX3_gatherNets 24 = .ok (.invokevirtual 51, 3) := by decide +kernel
theorem dX3_gatherNets_27 : decode cX3_gatherNets 27 = .ok (.istore 5, 2) := by decide +kernel
theorem dX3_gatherNets_29 : decode cX3_gatherNets 29 = .ok (.iload 5, 2) := by decide +kernel
theorem dX3_gatherNets_31 : decode cX3_gatherNets 31 = .ok (.ifCond .eq 20, 3) := by decide +kernel
theorem dX3_gatherNets_34 : decode cX3_gatherNets 34 = .ok (.iload_n 3, 1) := by decide +kernel
theorem dX3_gatherNets_35 : decode cX3_gatherNets 35 = .ok (.bipush 8, 2) := by decide +kernel
theorem dX3_gatherNets_37 : decode cX3_gatherNets 37 = .ok (.if_icmp .ge 14, 3) := by decide +kernel
theorem dX3_gatherNets_40 : decode cX3_gatherNets 40 = .ok (.aload_n 0, 1) := by decide +kernel
theorem dX3_gatherNets_41 : decode cX3_gatherNets 41 = .ok (.getfield 9, 3) := by decide +kernel
theorem dX3_gatherNets_44 : decode cX3_gatherNets 44 = .ok (.iload_n 3, 1) := by decide +kernel
theorem dX3_gatherNets_45 : decode cX3_gatherNets 45 = .ok (.iload 5, 2) := by decide +kernel
theorem dX3_gatherNets_47 : decode cX3_gatherNets 47 = .ok (.iastore, 1) := by decide +kernel
theorem dX3_gatherNets_48 : decode cX3_gatherNets 48 = .ok (.iinc 3 1, 3) := by decide +kernel
theorem dX3_gatherNets_51 : decode cX3_gatherNets 51 = .ok (.iinc 4 1, 3) := by decide +kernel
theorem dX3_gatherNets_54 : decode cX3_gatherNets 54 = .ok (.goto (-49), 3) := by decide +kernel
theorem dX3_gatherNets_57 : decode cX3_gatherNets 57 = .ok (.iload_n 3, 1) := by decide +kernel
theorem dX3_gatherNets_58 : decode cX3_gatherNets 58 = .ok (.ireturn, 1) := by decide +kernel
def L_X3_gatherNets_5 (C : aM → List Value → aH → aO → aH → Prop) (sc : Nat × (Nat → Int32)) (P : aO → aH → Prop) (w : Nat) (x3 : Int) (x4 : Int) (σ : aH) : Prop :=
    wp C 3 cX3_gatherNets 6 (some .int) false [] sc P 5 [(0, .ref 22), (1, .ref 27), (2, .ref w), (3, .int (nZ x3)), (4, .int (nZ x4))] [] σ
set_option maxRecDepth 10000 in
theorem t_X3_gatherNets {sc : Nat × (Nat → Int32)} {d : Nat} {Q : aO → aH → Prop} {σ : aH} {u : Nat} {w : Nat}  (hG : G σ u) (hw : IsWt w)
    (h : L_X3_gatherNets_5 (Ev sc d) sc Q w 0 0 σ) :
    T sc (d + 1) mX3_gatherNets [.ref 22, .ref 27, .ref w] σ Q := by
  refine T.of (c := 3) (code := cX3_gatherNets) (mL := 6) (rt := (some .int)) (ini := false) (l := [(0, .ref 22), (1, .ref 27), (2, .ref w)]) rfl rfl rfl rfl (by decide) hs_X3_gatherNets rfl rfl ?_
  refine w_iconst (v := nZ 0) dX3_gatherNets_0 (by decide) ?_
  refine w_istore_n (l' := [(3, .int (nZ 0)), (0, .ref 22), (1, .ref 27), (2, .ref w)]) dX3_gatherNets_1 rfl (by decide) rfl ?_
  refine w_iconst (v := nZ 0) dX3_gatherNets_2 (by decide) ?_
  refine w_istore (l' := [(4, .int (nZ 0)), (3, .int (nZ 0)), (0, .ref 22), (1, .ref 27), (2, .ref w)]) dX3_gatherNets_3 (by decide) rfl ?_
  exact w_weak (l' := [(0, .ref 22), (1, .ref 27), (2, .ref w), (3, .int (nZ 0)), (4, .int (nZ 0))]) (by intro q hq; simp only [List.mem_cons, List.not_mem_nil, or_false] at hq ⊢; rcases hq with rfl | rfl | rfl | rfl | rfl <;> simp) h
set_option maxRecDepth 10000 in
theorem v_X3_gatherNets_5 {C : aM → List Value → aH → aO → aH → Prop} {sc : Nat × (Nat → Int32)} {P : aO → aH → Prop} {σ : aH} {u : Nat} {w : Nat} {x3 : Int} {x4 : Int} (hG : G σ u) (hw : IsWt w) (rx3 : inR x3) (rx4 : inR x4)
    (h : (((rI σ (u + 1) 8) ≤ x4 → P (.inl (some (.int (nZ x3)))) σ) ∧ (¬ ((rI σ (u + 1) 8) ≤ x4) → (∃ (r5 : Int) (σ1 : aH), C mX6_gain [.ref 27, .ref w, .int (nZ x4)] σ (.inl (some (.int (nZ r5)))) σ1 ∧ G σ1 u ∧ inR r5 ∧ ((r5 = 0 → (inR (x4 + 1) ∧ L_X3_gatherNets_5 C sc P w x3 (x4 + 1) σ1)) ∧ (¬ (r5 = 0) → ((8 ≤ x3 → (inR (x4 + 1) ∧ L_X3_gatherNets_5 C sc P w x3 (x4 + 1) σ1)) ∧ (¬ (8 ≤ x3) → ((0 ≤ x3 ∧ x3 < 8) ∧ (∀ σ8 : aH, wI σ1 23 x3 r5 = σ8 → (inR (x3 + 1) ∧ (inR (x4 + 1) ∧ L_X3_gatherNets_5 C sc P w (x3 + 1) (x4 + 1) σ8)))))))))))) :
    L_X3_gatherNets_5 C sc P w x3 x4 σ := by
  unfold L_X3_gatherNets_5
  refine w_iload dX3_gatherNets_5 (List.Mem.tail _ (List.Mem.tail _ (List.Mem.tail _ (List.Mem.tail _ (List.Mem.head _))))) ?_
  refine w_aload_n dX3_gatherNets_7 rfl (List.Mem.tail _ (List.Mem.head _)) ?_
  refine w_getM (ci := 6) (k := 5) (b := u) dX3_gatherNets_8 fl_3_35 (by decide) (gT hG rfl (lt_of rfl)) hG.2.2.2.1 ?_
  refine w_getR (ci := 2) (k := 0) (b := (u + 1)) dX3_gatherNets_11 fl_3_39 (by decide) (gT hG (IsMk_t0 hG.2.2.2.2) (IsMk_lt hG.2.2.2.2 (k := 0) (by decide))) (gR hG (IsMk_r0_0 hG.2.2.2.2)) ?_
  refine i_getI (ci := 7) 8 rfl dX3_gatherNets_14 fl_3_45 (by decide) (gT hG (IsMk_t1 hG.2.2.2.2) (IsMk_lt hG.2.2.2.2 (k := 1) (by decide))) ?_
  refine i_cmp_ge (tgt := 57) dX3_gatherNets_17 rfl rx4 (rI_R _ _ _) (fun c9 => ?_) (fun c9 => ?_)
  · replace h := h.1 c9
    refine w_iload_n dX3_gatherNets_57 rfl (List.Mem.tail _ (List.Mem.tail _ (List.Mem.tail _ (List.Mem.head _)))) ?_
    exact w_iret dX3_gatherNets_58 rfl h
  · replace h := h.2 c9
    refine w_aload_n dX3_gatherNets_20 rfl (List.Mem.tail _ (List.Mem.head _)) ?_
    refine w_aload_n dX3_gatherNets_21 rfl (List.Mem.tail _ (List.Mem.tail _ (List.Mem.head _))) ?_
    refine w_iload dX3_gatherNets_22 (List.Mem.tail _ (List.Mem.tail _ (List.Mem.tail _ (List.Mem.tail _ (List.Mem.head _))))) ?_
    obtain ⟨r5, σ1, hc3, hG2, rr4, h⟩ := h
    refine w_callV dX3_gatherNets_24 ml_3_51 ⟨ok_X6_gain, vi_X6_gain⟩ hs_X6_gain (As := [.ref w, .int (nZ x4)]) rfl rfl (gT hG rfl (lt_of rfl)) (Nat.le_of_ble_eq_true rfl) hc3 ?_
    show wp C 3 cX3_gatherNets 6 (some .int) false [] sc P 27 [(0, .ref 22), (1, .ref 27), (2, .ref w), (3, .int (nZ x3)), (4, .int (nZ x4))] [.int (nZ r5)] σ1
    refine w_istore (l' := [(5, .int (nZ r5)), (0, .ref 22), (1, .ref 27), (2, .ref w), (3, .int (nZ x3)), (4, .int (nZ x4))]) dX3_gatherNets_27 (by decide) rfl ?_
    refine w_iload dX3_gatherNets_29 (List.Mem.head _) ?_
    refine i_if_eq (tgt := 51) dX3_gatherNets_31 rfl rr4 (fun c9 => ?_) (fun c9 => ?_)
    · replace h := h.1 c9
      obtain ⟨q6, h⟩ := h
      refine w_iinc (v := nZ (x4 + 1)) (l' := [(4, .int (nZ (x4 + 1))), (5, .int (nZ r5)), (0, .ref 22), (1, .ref 27), (2, .ref w), (3, .int (nZ x3))]) dX3_gatherNets_51 (List.Mem.tail _ (List.Mem.tail _ (List.Mem.tail _ (List.Mem.tail _ (List.Mem.tail _ (List.Mem.head _)))))) (nZ_add _ _) (by decide) rfl ?_
      refine w_goto (tgt := 5) dX3_gatherNets_54 rfl ?_
      exact w_weak (l' := [(0, .ref 22), (1, .ref 27), (2, .ref w), (3, .int (nZ x3)), (4, .int (nZ (x4 + 1)))]) (by intro q hq; simp only [List.mem_cons, List.not_mem_nil, or_false] at hq ⊢; rcases hq with rfl | rfl | rfl | rfl | rfl <;> simp) h
    · replace h := h.2 c9
      refine w_iload_n dX3_gatherNets_34 rfl (List.Mem.tail _ (List.Mem.tail _ (List.Mem.tail _ (List.Mem.tail _ (List.Mem.head _))))) ?_
      refine w_bipush (v := nZ 8) dX3_gatherNets_35 (by decide) ?_
      refine i_cmp_ge (tgt := 51) dX3_gatherNets_37 rfl rx3 (by decide) (fun c9 => ?_) (fun c9 => ?_)
      · replace h := h.1 c9
        obtain ⟨q7, h⟩ := h
        refine w_iinc (v := nZ (x4 + 1)) (l' := [(4, .int (nZ (x4 + 1))), (5, .int (nZ r5)), (0, .ref 22), (1, .ref 27), (2, .ref w), (3, .int (nZ x3))]) dX3_gatherNets_51 (List.Mem.tail _ (List.Mem.tail _ (List.Mem.tail _ (List.Mem.tail _ (List.Mem.tail _ (List.Mem.head _)))))) (nZ_add _ _) (by decide) rfl ?_
        refine w_goto (tgt := 5) dX3_gatherNets_54 rfl ?_
        exact w_weak (l' := [(0, .ref 22), (1, .ref 27), (2, .ref w), (3, .int (nZ x3)), (4, .int (nZ (x4 + 1)))]) (by intro q hq; simp only [List.mem_cons, List.not_mem_nil, or_false] at hq ⊢; rcases hq with rfl | rfl | rfl | rfl | rfl <;> simp) h
      · replace h := h.2 c9
        refine w_aload_n dX3_gatherNets_40 rfl (List.Mem.tail _ (List.Mem.head _)) ?_
        refine w_getR (ci := 3) (k := 0) (b := 23) dX3_gatherNets_41 fl_3_9 (by decide) (gT hG2 rfl (lt_of rfl)) (gR hG2 (b := 23) rfl) ?_
        refine w_iload_n dX3_gatherNets_44 rfl (List.Mem.tail _ (List.Mem.tail _ (List.Mem.tail _ (List.Mem.tail _ (List.Mem.head _))))) ?_
        refine w_iload dX3_gatherNets_45 (List.Mem.head _) ?_
        obtain ⟨h9, h⟩ := h
        refine i_iast (n := 8) dX3_gatherNets_47 (gT hG2 rfl (lt_of rfl)) (gL hG2 rfl) rx3 h9 (fun σ8 eσ9 => ?_)
        replace h := h σ8 eσ9
        have hG10 : G σ8 u := eσ9 ▸ G.wI hG2
        obtain ⟨q11, h⟩ := h
        refine w_iinc (v := nZ (x3 + 1)) (l' := [(3, .int (nZ (x3 + 1))), (5, .int (nZ r5)), (0, .ref 22), (1, .ref 27), (2, .ref w), (4, .int (nZ x4))]) dX3_gatherNets_48 (List.Mem.tail _ (List.Mem.tail _ (List.Mem.tail _ (List.Mem.tail _ (List.Mem.head _))))) (nZ_add _ _) (by decide) rfl ?_
        obtain ⟨q12, h⟩ := h
        refine w_iinc (v := nZ (x4 + 1)) (l' := [(4, .int (nZ (x4 + 1))), (3, .int (nZ (x3 + 1))), (5, .int (nZ r5)), (0, .ref 22), (1, .ref 27), (2, .ref w)]) dX3_gatherNets_51 (List.Mem.tail _ (List.Mem.tail _ (List.Mem.tail _ (List.Mem.tail _ (List.Mem.tail _ (List.Mem.head _)))))) (nZ_add _ _) (by decide) rfl ?_
        refine w_goto (tgt := 5) dX3_gatherNets_54 rfl ?_
        exact w_weak (l' := [(0, .ref 22), (1, .ref 27), (2, .ref w), (3, .int (nZ (x3 + 1))), (4, .int (nZ (x4 + 1)))]) (by intro q hq; simp only [List.mem_cons, List.not_mem_nil, or_false] at hq ⊢; rcases hq with rfl | rfl | rfl | rfl | rfl <;> simp) h
theorem dX3_splitSet_0 : decode cX3_splitSet 0 = .ok (.iconst 0, 1) := by decide +kernel
theorem dX3_splitSet_1 : decode cX3_splitSet 1 = .ok (.istore_n 3, 1) := by decide +kernel
theorem dX3_splitSet_2 : decode cX3_splitSet 2 = .ok (.iconst 0, 1) := by decide +kernel
theorem dX3_splitSet_3 : decode cX3_splitSet 3 = .ok (.istore 4, 2) := by decide +kernel
theorem dX3_splitSet_5 : decode cX3_splitSet 5 = .ok (.iload 4, 2) := by decide +kernel
theorem dX3_splitSet_7 : decode cX3_splitSet 7 = .ok (.iload_n 2, 1) := by decide +kernel
theorem dX3_splitSet_8 : decode cX3_splitSet 8 = .ok (.if_icmp .ge 60, 3) := by decide +kernel
theorem dX3_splitSet_11 : decode cX3_splitSet 11 = .ok (.iload_n 1, 1) := by decide +kernel
theorem dX3_splitSet_12 : decode cX3_splitSet 12 = .ok (.iload 4, 2) := by decide +kernel
theorem dX3_splitSet_14 : decode cX3_splitSet 14 = .ok (.iushr, 1) := by decide +kernel
theorem dX3_splitSet_15 : decode cX3_splitSet 15 = .ok (.iconst 1, 1) := by decide +kernel
theorem dX3_splitSet_16 : decode cX3_splitSet 16 = .ok (.iand, 1) := by decide +kernel
theorem dX3_splitSet_17 : decode cX3_splitSet 17 = .ok (.iconst 1, 1) := by decide +kernel
theorem dX3_splitSet_18 : decode cX3_splitSet 18 = .ok (.if_icmp .ne 44, 3) := by decide +kernel
theorem dX3_splitSet_21 : decode cX3_splitSet 21 = .ok (.iload_n 1, 1) := by decide +kernel
theorem dX3_splitSet_22 : decode cX3_splitSet 22 = .ok (.iconst 1, 1) := by decide +kernel
theorem dX3_splitSet_23 : decode cX3_splitSet 23 = .ok (.iload 4, 2) := by decide +kernel
theorem dX3_splitSet_25 : decode cX3_splitSet 25 = .ok (.ishl, 1) := by decide +kernel
theorem dX3_splitSet_26 : decode cX3_splitSet 26 = .ok (.ixor, 1) := by decide +kernel
theorem dX3_splitSet_27 : decode cX3_splitSet 27 = .ok (.istore 5, 2) := by decide +kernel
theorem dX3_splitSet_29 : decode cX3_splitSet 29 = .ok (.aload_n 0, 1) := by decide +kernel
theorem dX3_splitSet_30 : decode cX3_splitSet 30 = .ok (.getfield 15, 3) := by decide +kernel
theorem dX3_splitSet_33 : decode cX3_splitSet 33 = .ok (.iload_n 1, 1) := by decide +kernel
theorem dX3_splitSet_34 : decode cX3_splitSet 34 = .ok (.aload_n 0, 1) := by decide +kernel
theorem dX3_splitSet_35 : decode cX3_splitSet 35 = .ok (.getfield 15, 3) := by decide +kernel
theorem dX3_splitSet_38 : decode cX3_splitSet 38 = .ok (.iload 5, 2) := by decide +kernel
theorem dX3_splitSet_40 : decode cX3_splitSet 40 = .ok (.iaload, 1) := by decide +kernel
theorem dX3_splitSet_41 : decode cX3_splitSet 41 = .ok (.aload_n 0, 1) := by decide +kernel
theorem dX3_splitSet_42 : decode cX3_splitSet 42 = .ok (.getfield 9, 3) := by decide +kernel
theorem dX3_splitSet_45 : decode cX3_splitSet 45 = .ok (.iload 4, 2) := by decide +kernel
theorem dX3_splitSet_47 : decode cX3_splitSet 47 = .ok (.iaload, 1) := by decide +kernel
theorem dX3_splitSet_48 : decode cX3_splitSet 48 = .ok (.iadd, 1) := by decide +kernel
theorem dX3_splitSet_49 : decode cX3_splitSet 49 = .ok (.iastore, 1) := by decide +kernel
theorem dX3_splitSet_50 : decode cX3_splitSet 50 = .ok (.iload_n 3, 1) := by decide +kernel
theorem dX3_splitSet_51 : decode cX3_splitSet 51 = .ok (.aload_n 0, 1) := by decide +kernel
theorem dX3_splitSet_52 : decode cX3_splitSet 52 = .ok (.getfield 18, 3) := by decide +kernel
theorem dX3_splitSet_55 : decode cX3_splitSet 55 = .ok (.iload 5, 2) := by decide +kernel
theorem dX3_splitSet_57 : decode cX3_splitSet 57 = .ok (.iaload, 1) := by decide +kernel
theorem dX3_splitSet_58 : decode cX3_splitSet 58 = .ok (.invokestatic 55, 3) := by decide +kernel
theorem dX3_splitSet_61 : decode cX3_splitSet 61 = .ok (.istore_n 3, 1) := by decide +kernel
theorem dX3_splitSet_62 : decode cX3_splitSet 62 = .ok (.iinc 4 1, 3) := by decide +kernel
theorem dX3_splitSet_65 : decode cX3_splitSet 65 = .ok (.goto (-60), 3) := by decide +kernel
theorem dX3_splitSet_68 : decode cX3_splitSet 68 = .ok (.aload_n 0, 1) := by decide +kernel
theorem dX3_splitSet_69 : decode cX3_splitSet 69 = .ok (.getfield 18, 3) := by decide +kernel
theorem dX3_splitSet_72 : decode cX3_splitSet 72 = .ok (.iload_n 1, 1) := by decide +kernel
theorem dX3_splitSet_73 : decode cX3_splitSet 73 = .ok (.aload_n 0, 1) := by decide +kernel
theorem dX3_splitSet_74 : decode cX3_splitSet 74 = .ok (.getfield 15, 3) := by decide +kernel
theorem dX3_splitSet_77 : decode cX3_splitSet 77 = .ok (.iload_n 1, 1) := by decide +kernel
theorem dX3_splitSet_78 : decode cX3_splitSet 78 = .ok (.iaload, 1) := by decide +kernel
theorem dX3_splitSet_79 : decode cX3_splitSet 79 = .ok (.ifCond .ne 9, 3) := by decide +kernel
theorem dX3_splitSet_82 : decode cX3_splitSet 82 = .ok (.iload_n 3, 1) := by decide +kernel
theorem dX3_splitSet_83 : decode cX3_splitSet 83 = .ok (.iconst 1, 1) := by decide +kernel
theorem dX3_splitSet_84 : decode cX3_splitSet 84 = .ok (.iadd, 1) := by decide +kernel
theorem dX3_splitSet_85 : decode cX3_splitSet 85 = .ok (.goto 4, 3) := by decide +kernel
theorem dX3_splitSet_88 : decode cX3_splitSet 88 = .ok (.iload_n 3, 1) := by decide +kernel
theorem dX3_splitSet_89 : decode cX3_splitSet 89 = .ok (.iastore, 1) := by decide +kernel
theorem dX3_splitSet_90 : decode cX3_splitSet 90 = .ok (.return_, 1) := by decide +kernel
def L_X3_splitSet_5 (C : aM → List Value → aH → aO → aH → Prop) (sc : Nat × (Nat → Int32)) (P : aO → aH → Prop) (x1 : Int) (x2 : Int) (x3 : Int) (x4 : Int) (σ : aH) : Prop :=
    wp C 3 cX3_splitSet 6 none false [] sc P 5 [(0, .ref 22), (1, .int (nZ x1)), (2, .int (nZ x2)), (3, .int (nZ x3)), (4, .int (nZ x4))] [] σ
set_option maxRecDepth 10000 in
theorem t_X3_splitSet {sc : Nat × (Nat → Int32)} {d : Nat} {Q : aO → aH → Prop} {σ : aH} {u : Nat}  {x1 : Int} {x2 : Int} (hG : G σ u) (rx1 : inR x1) (rx2 : inR x2)
    (h : L_X3_splitSet_5 (Ev sc d) sc Q x1 x2 0 0 σ) :
    T sc (d + 1) mX3_splitSet [.ref 22, .int (nZ x1), .int (nZ x2)] σ Q := by
  refine T.of (c := 3) (code := cX3_splitSet) (mL := 6) (rt := none) (ini := false) (l := [(0, .ref 22), (1, .int (nZ x1)), (2, .int (nZ x2))]) rfl rfl rfl rfl (by decide) hs_X3_splitSet rfl rfl ?_
  refine w_iconst (v := nZ 0) dX3_splitSet_0 (by decide) ?_
  refine w_istore_n (l' := [(3, .int (nZ 0)), (0, .ref 22), (1, .int (nZ x1)), (2, .int (nZ x2))]) dX3_splitSet_1 rfl (by decide) rfl ?_
  refine w_iconst (v := nZ 0) dX3_splitSet_2 (by decide) ?_
  refine w_istore (l' := [(4, .int (nZ 0)), (3, .int (nZ 0)), (0, .ref 22), (1, .int (nZ x1)), (2, .int (nZ x2))]) dX3_splitSet_3 (by decide) rfl ?_
  exact w_weak (l' := [(0, .ref 22), (1, .int (nZ x1)), (2, .int (nZ x2)), (3, .int (nZ 0)), (4, .int (nZ 0))]) (by intro q hq; simp only [List.mem_cons, List.not_mem_nil, or_false] at hq ⊢; rcases hq with rfl | rfl | rfl | rfl | rfl <;> simp) h
set_option maxRecDepth 10000 in
theorem v_X3_splitSet_5 {C : aM → List Value → aH → aO → aH → Prop} {sc : Nat × (Nat → Int32)} {P : aO → aH → Prop} {σ : aH} {u : Nat}  {x1 : Int} {x2 : Int} {x3 : Int} {x4 : Int} (hG : G σ u) (rx1 : inR x1) (rx2 : inR x2) (rx3 : inR x3) (rx4 : inR x4)
    (h : ((x2 ≤ x4 → ((0 ≤ x1 ∧ x1 < 256) ∧ ((¬ (rI σ 24 x1) = 0 → ((0 ≤ x1 ∧ x1 < 256) ∧ (∀ σ1 : aH, wI σ 25 x1 x3 = σ1 → P (.inl none) σ1))) ∧ ((rI σ 24 x1) = 0 → (inR (x3 + 1) ∧ ((0 ≤ x1 ∧ x1 < 256) ∧ (∀ σ5 : aH, wI σ 25 x1 (x3 + 1) = σ5 → P (.inl none) σ5))))))) ∧ (¬ (x2 ≤ x4) → ((¬ (zAnd (zUsr x1 x4) 1) = 1 → (inR (x4 + 1) ∧ L_X3_splitSet_5 C sc P x1 x2 x3 (x4 + 1) σ)) ∧ ((zAnd (zUsr x1 x4) 1) = 1 → (∀ z9 : Int, z9 = (zXor x1 (zShl 1 x4)) → ((0 ≤ z9 ∧ z9 < 256) ∧ ((0 ≤ x4 ∧ x4 < 8) ∧ (inR ((rI σ 24 z9) + (rI σ 23 x4)) ∧ ((0 ≤ x1 ∧ x1 < 256) ∧ (∀ σ13 : aH, wI σ 24 x1 ((rI σ 24 z9) + (rI σ 23 x4)) = σ13 → ((0 ≤ z9 ∧ z9 < 256) ∧ (∀ z16 : Int, z16 = max x3 (rI σ13 25 z9) → (inR (x4 + 1) ∧ L_X3_splitSet_5 C sc P x1 x2 z16 (x4 + 1) σ13)))))))))))))) :
    L_X3_splitSet_5 C sc P x1 x2 x3 x4 σ := by
  unfold L_X3_splitSet_5
  refine w_iload dX3_splitSet_5 (List.Mem.tail _ (List.Mem.tail _ (List.Mem.tail _ (List.Mem.tail _ (List.Mem.head _))))) ?_
  refine w_iload_n dX3_splitSet_7 rfl (List.Mem.tail _ (List.Mem.tail _ (List.Mem.head _))) ?_
  refine i_cmp_ge (tgt := 68) dX3_splitSet_8 rfl rx4 rx2 (fun c9 => ?_) (fun c9 => ?_)
  · replace h := h.1 c9
    refine w_aload_n dX3_splitSet_68 rfl (List.Mem.head _) ?_
    refine w_getR (ci := 3) (k := 2) (b := 25) dX3_splitSet_69 fl_3_18 (by decide) (gT hG rfl (lt_of rfl)) (gR hG (b := 25) rfl) ?_
    refine w_iload_n dX3_splitSet_72 rfl (List.Mem.tail _ (List.Mem.head _)) ?_
    refine w_aload_n dX3_splitSet_73 rfl (List.Mem.head _) ?_
    refine w_getR (ci := 3) (k := 1) (b := 24) dX3_splitSet_74 fl_3_15 (by decide) (gT hG rfl (lt_of rfl)) (gR hG (b := 24) rfl) ?_
    refine w_iload_n dX3_splitSet_77 rfl (List.Mem.tail _ (List.Mem.head _)) ?_
    obtain ⟨h9, h⟩ := h
    refine i_iald (n := 256) dX3_splitSet_78 (gT hG rfl (lt_of rfl)) (gL hG rfl) rx1 h9 ?_
    refine i_if_ne (tgt := 88) dX3_splitSet_79 rfl (rI_R _ _ _) (fun c9 => ?_) (fun c9 => ?_)
    · replace h := h.1 c9
      refine w_iload_n dX3_splitSet_88 rfl (List.Mem.tail _ (List.Mem.tail _ (List.Mem.tail _ (List.Mem.head _)))) ?_
      obtain ⟨h9, h⟩ := h
      refine i_iast (n := 256) dX3_splitSet_89 (gT hG rfl (lt_of rfl)) (gL hG rfl) rx1 h9 (fun σ1 eσ2 => ?_)
      replace h := h σ1 eσ2
      have hG3 : G σ1 u := eσ2 ▸ G.wI hG
      exact w_vret dX3_splitSet_90 rfl h
    · replace h := h.2 c9
      refine w_iload_n dX3_splitSet_82 rfl (List.Mem.tail _ (List.Mem.tail _ (List.Mem.tail _ (List.Mem.head _)))) ?_
      refine w_iconst (v := nZ 1) dX3_splitSet_83 (by decide) ?_
      obtain ⟨q4, h⟩ := h
      refine i_add dX3_splitSet_84 ?_
      refine w_goto (tgt := 89) dX3_splitSet_85 rfl ?_
      obtain ⟨h9, h⟩ := h
      refine i_iast (n := 256) dX3_splitSet_89 (gT hG rfl (lt_of rfl)) (gL hG rfl) rx1 h9 (fun σ5 eσ6 => ?_)
      replace h := h σ5 eσ6
      have hG7 : G σ5 u := eσ6 ▸ G.wI hG
      exact w_vret dX3_splitSet_90 rfl h
  · replace h := h.2 c9
    refine w_iload_n dX3_splitSet_11 rfl (List.Mem.tail _ (List.Mem.head _)) ?_
    refine w_iload dX3_splitSet_12 (List.Mem.tail _ (List.Mem.tail _ (List.Mem.tail _ (List.Mem.tail _ (List.Mem.head _))))) ?_
    refine i_ushr dX3_splitSet_14 ?_
    refine w_iconst (v := nZ 1) dX3_splitSet_15 (by decide) ?_
    refine i_and dX3_splitSet_16 ?_
    refine w_iconst (v := nZ 1) dX3_splitSet_17 (by decide) ?_
    refine i_cmp_ne (tgt := 62) dX3_splitSet_18 rfl (zAnd_R _ _) (by decide) (fun c9 => ?_) (fun c9 => ?_)
    · replace h := h.1 c9
      obtain ⟨q8, h⟩ := h
      refine w_iinc (v := nZ (x4 + 1)) (l' := [(4, .int (nZ (x4 + 1))), (0, .ref 22), (1, .int (nZ x1)), (2, .int (nZ x2)), (3, .int (nZ x3))]) dX3_splitSet_62 (List.Mem.tail _ (List.Mem.tail _ (List.Mem.tail _ (List.Mem.tail _ (List.Mem.head _))))) (nZ_add _ _) (by decide) rfl ?_
      refine w_goto (tgt := 5) dX3_splitSet_65 rfl ?_
      exact w_weak (l' := [(0, .ref 22), (1, .int (nZ x1)), (2, .int (nZ x2)), (3, .int (nZ x3)), (4, .int (nZ (x4 + 1)))]) (by intro q hq; simp only [List.mem_cons, List.not_mem_nil, or_false] at hq ⊢; rcases hq with rfl | rfl | rfl | rfl | rfl <;> simp) h
    · replace h := h.2 c9
      refine w_iload_n dX3_splitSet_21 rfl (List.Mem.tail _ (List.Mem.head _)) ?_
      refine w_iconst (v := nZ 1) dX3_splitSet_22 (by decide) ?_
      refine w_iload dX3_splitSet_23 (List.Mem.tail _ (List.Mem.tail _ (List.Mem.tail _ (List.Mem.tail _ (List.Mem.head _))))) ?_
      refine i_shl dX3_splitSet_25 ?_
      refine i_xor dX3_splitSet_26 ?_
      refine top_i (fun z9 ez10 => ?_)
      have rz11 : inR z9 := ez10 ▸ (zXor_R _ _)
      replace h := h z9 ez10
      refine w_istore (l' := [(5, .int (nZ z9)), (0, .ref 22), (1, .int (nZ x1)), (2, .int (nZ x2)), (3, .int (nZ x3)), (4, .int (nZ x4))]) dX3_splitSet_27 (by decide) rfl ?_
      refine w_aload_n dX3_splitSet_29 rfl (List.Mem.tail _ (List.Mem.head _)) ?_
      refine w_getR (ci := 3) (k := 1) (b := 24) dX3_splitSet_30 fl_3_15 (by decide) (gT hG rfl (lt_of rfl)) (gR hG (b := 24) rfl) ?_
      refine w_iload_n dX3_splitSet_33 rfl (List.Mem.tail _ (List.Mem.tail _ (List.Mem.head _))) ?_
      refine w_aload_n dX3_splitSet_34 rfl (List.Mem.tail _ (List.Mem.head _)) ?_
      refine w_getR (ci := 3) (k := 1) (b := 24) dX3_splitSet_35 fl_3_15 (by decide) (gT hG rfl (lt_of rfl)) (gR hG (b := 24) rfl) ?_
      refine w_iload dX3_splitSet_38 (List.Mem.head _) ?_
      obtain ⟨h9, h⟩ := h
      refine i_iald (n := 256) dX3_splitSet_40 (gT hG rfl (lt_of rfl)) (gL hG rfl) rz11 h9 ?_
      refine w_aload_n dX3_splitSet_41 rfl (List.Mem.tail _ (List.Mem.head _)) ?_
      refine w_getR (ci := 3) (k := 0) (b := 23) dX3_splitSet_42 fl_3_9 (by decide) (gT hG rfl (lt_of rfl)) (gR hG (b := 23) rfl) ?_
      refine w_iload dX3_splitSet_45 (List.Mem.tail _ (List.Mem.tail _ (List.Mem.tail _ (List.Mem.tail _ (List.Mem.tail _ (List.Mem.head _)))))) ?_
      obtain ⟨h9, h⟩ := h
      refine i_iald (n := 8) dX3_splitSet_47 (gT hG rfl (lt_of rfl)) (gL hG rfl) rx4 h9 ?_
      obtain ⟨q12, h⟩ := h
      refine i_add dX3_splitSet_48 ?_
      obtain ⟨h9, h⟩ := h
      refine i_iast (n := 256) dX3_splitSet_49 (gT hG rfl (lt_of rfl)) (gL hG rfl) rx1 h9 (fun σ13 eσ14 => ?_)
      replace h := h σ13 eσ14
      have hG15 : G σ13 u := eσ14 ▸ G.wI hG
      refine w_iload_n dX3_splitSet_50 rfl (List.Mem.tail _ (List.Mem.tail _ (List.Mem.tail _ (List.Mem.tail _ (List.Mem.head _))))) ?_
      refine w_aload_n dX3_splitSet_51 rfl (List.Mem.tail _ (List.Mem.head _)) ?_
      refine w_getR (ci := 3) (k := 2) (b := 25) dX3_splitSet_52 fl_3_18 (by decide) (gT hG15 rfl (lt_of rfl)) (gR hG15 (b := 25) rfl) ?_
      refine w_iload dX3_splitSet_55 (List.Mem.head _) ?_
      obtain ⟨h9, h⟩ := h
      refine i_iald (n := 256) dX3_splitSet_57 (gT hG15 rfl (lt_of rfl)) (gL hG15 rfl) rz11 h9 ?_
      refine i_mmax dX3_splitSet_58 lk_3_55 (Nat.le_of_ble_eq_true rfl) rx3 (rI_R _ _ _) (fun z16 ez17 rz18 => ?_)
      replace h := h z16 ez17
      refine w_istore_n (l' := [(3, .int (nZ z16)), (5, .int (nZ z9)), (0, .ref 22), (1, .int (nZ x1)), (2, .int (nZ x2)), (4, .int (nZ x4))]) dX3_splitSet_61 rfl (by decide) rfl ?_
      obtain ⟨q19, h⟩ := h
      refine w_iinc (v := nZ (x4 + 1)) (l' := [(4, .int (nZ (x4 + 1))), (3, .int (nZ z16)), (5, .int (nZ z9)), (0, .ref 22), (1, .int (nZ x1)), (2, .int (nZ x2))]) dX3_splitSet_62 (List.Mem.tail _ (List.Mem.tail _ (List.Mem.tail _ (List.Mem.tail _ (List.Mem.tail _ (List.Mem.head _)))))) (nZ_add _ _) (by decide) rfl ?_
      refine w_goto (tgt := 5) dX3_splitSet_65 rfl ?_
      exact w_weak (l' := [(0, .ref 22), (1, .int (nZ x1)), (2, .int (nZ x2)), (3, .int (nZ z16)), (4, .int (nZ (x4 + 1)))]) (by intro q hq; simp only [List.mem_cons, List.not_mem_nil, or_false] at hq ⊢; rcases hq with rfl | rfl | rfl | rfl | rfl <;> simp) h
theorem dX1_take_0 : decode cX1_take 0 = .ok (.aload_n 0, 1) := by decide +kernel
theorem dX1_take_1 : decode cX1_take 1 = .ok (.getfield 32, 3) := by decide +kernel
theorem dX1_take_4 : decode cX1_take 4 = .ok (.iconst 3, 1) := by decide +kernel
theorem dX1_take_5 : decode cX1_take 5 = .ok (.if_icmp .lt 5, 3) := by decide +kernel
theorem dX1_take_8 : decode cX1_take 8 = .ok (.iconst (-1), 1) := by decide +kernel
theorem dX1_take_9 : decode cX1_take 9 = .ok (.ireturn, 1) := by decide +kernel
theorem dX1_take_10 : decode cX1_take 10 = .ok (.aload_n 0, 1) := by decide +kernel
theorem dX1_take_11 : decode cX1_take 11 = .ok (.getfield 9, 3) := by decide +kernel
theorem dX1_take_14 : decode cX1_take 14 = .ok (.aload_n 0, 1) := by decide +kernel
theorem dX1_take_15 : decode cX1_take 15 = .ok (.getfield 32, 3) := by decide +kernel
theorem dX1_take_18 : decode cX1_take 18 = .ok (.aload_n 1, 1) := by decide +kernel
theorem dX1_take_19 : decode cX1_take 19 = .ok (.getfield 36, 3) := by decide +kernel
theorem dX1_take_22 : decode cX1_take 22 = .ok (.iastore, 1) := by decide +kernel
theorem dX1_take_23 : decode cX1_take 23 = .ok (.aload_n 0, 1) := by decide +kernel
theorem dX1_take_24 : decode cX1_take 24 = .ok (.getfield 15, 3) := by decide +kernel
theorem dX1_take_27 : decode cX1_take 27 = .ok (.aload_n 0, 1) := by decide +kernel
theorem dX1_take_28 : decode cX1_take 28 = .ok (.getfield 32, 3) := by decide +kernel
theorem dX1_take_31 : decode cX1_take 31 = .ok (.aload_n 1, 1) := by decide +kernel
theorem dX1_take_32 : decode cX1_take 32 = .ok (.getfield 40, 3) := by decide +kernel
theorem dX1_take_35 : decode cX1_take 35 = .ok (.iastore, 1) := by decide +kernel
theorem dX1_take_36 : decode cX1_take 36 = .ok (.aload_n 1, 1) := by decide +kernel
theorem dX1_take_37 : decode cX1_take 37 = .ok (.getfield 42, 3) := by decide +kernel
theorem dX1_take_40 : decode cX1_take 40 = .ok (.getfield 46, 3) := by decide +kernel
theorem dX1_take_43 : decode cX1_take 43 = .ok (.iconst 0, 1) := by decide +kernel
theorem dX1_take_44 : decode cX1_take 44 = .ok (.aload_n 0, 1) := by decide +kernel
theorem dX1_take_45 : decode cX1_take 45 = .ok (.getfield 20, 3) := by decide +kernel
theorem dX1_take_48 : decode cX1_take 48 = .ok (.aload_n 0, 1) := by decide +kernel
theorem dX1_take_49 : decode cX1_take 49 = .ok (.getfield 32, 3) := by decide +kernel
theorem dX1_take_52 : decode cX1_take 52 = .ok (.aaload, 1) := by decide +kernel
theorem dX1_take_53 : decode cX1_take 53 = .ok (.iconst 0, 1) := by decide +kernel
theorem dX1_take_54 : decode cX1_take 54 = .ok (.bipush 9, 2) := by decide +kernel
theorem dX1_take_56 : decode cX1_take 56 = .ok (.invokestatic 50, 3) := by decide +kernel
theorem dX1_take_59 : decode cX1_take 59 = .ok (.aload_n 1, 1) := by decide +kernel
theorem dX1_take_60 : decode cX1_take 60 = .ok (.getfield 42, 3) := by decide +kernel
theorem dX1_take_63 : decode cX1_take 63 = .ok (.getfield 56, 3) := by decide +kernel
theorem dX1_take_66 : decode cX1_take 66 = .ok (.iconst 0, 1) := by decide +kernel
theorem dX1_take_67 : decode cX1_take 67 = .ok (.aload_n 0, 1) := by decide +kernel
theorem dX1_take_68 : decode cX1_take 68 = .ok (.getfield 23, 3) := by decide +kernel
theorem dX1_take_71 : decode cX1_take 71 = .ok (.aload_n 0, 1) := by decide +kernel
theorem dX1_take_72 : decode cX1_take 72 = .ok (.getfield 32, 3) := by decide +kernel
theorem dX1_take_75 : decode cX1_take 75 = .ok (.aaload, 1) := by decide +kernel
theorem dX1_take_76 : decode cX1_take 76 = .ok (.iconst 0, 1) := by decide +kernel
theorem dX1_take_77 : decode cX1_take 77 = .ok (.bipush 9, 2) := by decide +kernel
theorem dX1_take_79 : decode cX1_take 79 = .ok (.invokestatic 50, 3) := by decide +kernel
theorem dX1_take_82 : decode cX1_take 82 = .ok (.aload_n 1, 1) := by decide +kernel
theorem dX1_take_83 : decode cX1_take 83 = .ok (.getfield 42, 3) := by decide +kernel
theorem dX1_take_86 : decode cX1_take 86 = .ok (.getfield 58, 3) := by decide +kernel
theorem dX1_take_89 : decode cX1_take 89 = .ok (.iconst 0, 1) := by decide +kernel
theorem dX1_take_90 : decode cX1_take 90 = .ok (.aload_n 0, 1) := by decide +kernel
theorem dX1_take_91 : decode cX1_take 91 = .ok (.getfield 26, 3) := by decide +kernel
theorem dX1_take_94 : decode cX1_take 94 = .ok (.aload_n 0, 1) := by decide +kernel
theorem dX1_take_95 : decode cX1_take 95 = .ok (.getfield 32, 3) := by decide +kernel
theorem dX1_take_98 : decode cX1_take 98 = .ok (.aaload, 1) := by decide +kernel
theorem dX1_take_99 : decode cX1_take 99 = .ok (.iconst 0, 1) := by decide +kernel
theorem dX1_take_100 : decode cX1_take 100 = .ok (.bipush 9, 2) := by decide +kernel
theorem dX1_take_102 : decode cX1_take 102 = .ok (.invokestatic 50, 3) := by decide +kernel
theorem dX1_take_105 : decode cX1_take 105 = .ok (.aload_n 1, 1) := by decide +kernel
theorem dX1_take_106 : decode cX1_take 106 = .ok (.getfield 42, 3) := by decide +kernel
theorem dX1_take_109 : decode cX1_take 109 = .ok (.getfield 60, 3) := by decide +kernel
theorem dX1_take_112 : decode cX1_take 112 = .ok (.iconst 0, 1) := by decide +kernel
theorem dX1_take_113 : decode cX1_take 113 = .ok (.aload_n 0, 1) := by decide +kernel
theorem dX1_take_114 : decode cX1_take 114 = .ok (.getfield 29, 3) := by decide +kernel
theorem dX1_take_117 : decode cX1_take 117 = .ok (.aload_n 0, 1) := by decide +kernel
theorem dX1_take_118 : decode cX1_take 118 = .ok (.getfield 32, 3) := by decide +kernel
theorem dX1_take_121 : decode cX1_take 121 = .ok (.aaload, 1) := by decide +kernel
theorem dX1_take_122 : decode cX1_take 122 = .ok (.iconst 0, 1) := by decide +kernel
theorem dX1_take_123 : decode cX1_take 123 = .ok (.bipush 9, 2) := by decide +kernel
theorem dX1_take_125 : decode cX1_take 125 = .ok (.invokestatic 50, 3) := by decide +kernel
theorem dX1_take_128 : decode cX1_take 128 = .ok (.aload_n 0, 1) := by decide +kernel
theorem dX1_take_129 : decode cX1_take 129 = .ok (.dup, 1) := by decide +kernel
theorem dX1_take_130 : decode cX1_take 130 = .ok (.getfield 32, 3) := by decide +kernel
theorem dX1_take_133 : decode cX1_take 133 = .ok (.iconst 1, 1) := by decide +kernel
theorem dX1_take_134 : decode cX1_take 134 = .ok (.iadd, 1) := by decide +kernel
theorem dX1_take_135 : decode cX1_take 135 = .ok (.putfield 32, 3) := by decide +kernel
theorem dX1_take_138 : decode cX1_take 138 = .ok (.aload_n 0, 1) := by decide +kernel
theorem dX1_take_139 : decode cX1_take 139 = .ok (.getfield 32, 3) := by decide +kernel
theorem dX1_take_142 : decode cX1_take 142 = .ok (.ireturn, 1) := by decide +kernel
set_option maxRecDepth 10000 in
theorem t_X1_take {sc : Nat × (Nat → Int32)} {d : Nat} {Q : aO → aH → Prop} {σ : aH} {u : Nat} {v : Nat}  (hG : G σ u) (hv : IsMk v)
    (h : (((rI σ 3 6) < 3 → ((0 ≤ (rI σ 3 6) ∧ (rI σ 3 6) < 3) ∧ (∀ σ1 : aH, wI σ 4 (rI σ 3 6) (rI σ v 8) = σ1 → ((0 ≤ (rI σ1 3 6) ∧ (rI σ1 3 6) < 3) ∧ (∀ σ4 : aH, wI σ1 5 (rI σ1 3 6) (rI σ1 v 9) = σ4 → ((0 ≤ (rI σ4 3 6) ∧ (rI σ4 3 6) < 3) ∧ (∀ σ8 : aH, wC σ4 (v + 2) (7 + ((rI σ4 3 6).toNat)) = σ8 → ((0 ≤ (rI σ8 3 6) ∧ (rI σ8 3 6) < 3) ∧ (∀ σ12 : aH, wC σ8 (v + 3) (11 + ((rI σ8 3 6).toNat)) = σ12 → ((0 ≤ (rI σ12 3 6) ∧ (rI σ12 3 6) < 3) ∧ (∀ σ16 : aH, wC σ12 (v + 4) (15 + ((rI σ12 3 6).toNat)) = σ16 → ((0 ≤ (rI σ16 3 6) ∧ (rI σ16 3 6) < 3) ∧ (∀ σ20 : aH, wC σ16 (v + 9) (19 + ((rI σ16 3 6).toNat)) = σ20 → (inR ((rI σ20 3 6) + 1) ∧ (∀ σ24 : aH, wI σ20 3 6 ((rI σ20 3 6) + 1) = σ24 → Q (.inl (some (.int (nZ (rI σ24 3 6))))) σ24))))))))))))))) ∧ (¬ ((rI σ 3 6) < 3) → Q (.inl (some (.int (nZ (-1))))) σ))) :
    T sc (d + 1) mX1_take [.ref 3, .ref v] σ Q := by
  refine T.of (c := 1) (code := cX1_take) (mL := 2) (rt := (some .int)) (ini := false) (l := [(0, .ref 3), (1, .ref v)]) rfl rfl rfl rfl (by decide) hs_X1_take rfl rfl ?_
  refine w_aload_n dX1_take_0 rfl (List.Mem.head _) ?_
  refine i_getI (ci := 1) 6 rfl dX1_take_1 fl_1_32 (by decide) (gT hG rfl (lt_of rfl)) ?_
  refine w_iconst (v := nZ 3) dX1_take_4 (by decide) ?_
  refine i_cmp_lt (tgt := 10) dX1_take_5 rfl (rI_R _ _ _) (by decide) (fun c9 => ?_) (fun c9 => ?_)
  · replace h := h.1 c9
    refine w_aload_n dX1_take_10 rfl (List.Mem.head _) ?_
    refine w_getR (ci := 1) (k := 0) (b := 4) dX1_take_11 fl_1_9 (by decide) (gT hG rfl (lt_of rfl)) (gR hG (b := 4) rfl) ?_
    refine w_aload_n dX1_take_14 rfl (List.Mem.head _) ?_
    refine i_getI (ci := 1) 6 rfl dX1_take_15 fl_1_32 (by decide) (gT hG rfl (lt_of rfl)) ?_
    refine w_aload_n dX1_take_18 rfl (List.Mem.tail _ (List.Mem.head _)) ?_
    refine i_getI (ci := 2) 8 rfl dX1_take_19 fl_1_36 (by decide) (gT hG (IsMk_t0 hv) (IsMk_lt hv (k := 0) (by decide))) ?_
    obtain ⟨h9, h⟩ := h
    refine i_iast (n := 3) dX1_take_22 (gT hG rfl (lt_of rfl)) (gL hG rfl) (rI_R _ _ _) h9 (fun σ1 eσ2 => ?_)
    replace h := h σ1 eσ2
    have hG3 : G σ1 u := eσ2 ▸ G.wI hG
    refine w_aload_n dX1_take_23 rfl (List.Mem.head _) ?_
    refine w_getR (ci := 1) (k := 1) (b := 5) dX1_take_24 fl_1_15 (by decide) (gT hG3 rfl (lt_of rfl)) (gR hG3 (b := 5) rfl) ?_
    refine w_aload_n dX1_take_27 rfl (List.Mem.head _) ?_
    refine i_getI (ci := 1) 6 rfl dX1_take_28 fl_1_32 (by decide) (gT hG3 rfl (lt_of rfl)) ?_
    refine w_aload_n dX1_take_31 rfl (List.Mem.tail _ (List.Mem.head _)) ?_
    refine i_getI (ci := 2) 9 rfl dX1_take_32 fl_1_40 (by decide) (gT hG3 (IsMk_t0 hv) (IsMk_lt hv (k := 0) (by decide))) ?_
    obtain ⟨h9, h⟩ := h
    refine i_iast (n := 3) dX1_take_35 (gT hG3 rfl (lt_of rfl)) (gL hG3 rfl) (rI_R _ _ _) h9 (fun σ4 eσ5 => ?_)
    replace h := h σ4 eσ5
    have hG6 : G σ4 u := eσ5 ▸ G.wI hG3
    refine w_aload_n dX1_take_36 rfl (List.Mem.tail _ (List.Mem.head _)) ?_
    refine w_getR (ci := 2) (k := 0) (b := (v + 1)) dX1_take_37 fl_1_42 (by decide) (gT hG6 (IsMk_t0 hv) (IsMk_lt hv (k := 0) (by decide))) (gR hG6 (IsMk_r0_0 hv)) ?_
    refine w_getR (ci := 7) (k := 0) (b := (v + 2)) dX1_take_40 fl_1_46 (by decide) (gT hG6 (IsMk_t1 hv) (IsMk_lt hv (k := 1) (by decide))) (gR hG6 (IsMk_r1_0 hv)) ?_
    refine w_iconst (v := nZ 0) dX1_take_43 (by decide) ?_
    refine w_aload_n dX1_take_44 rfl (List.Mem.head _) ?_
    refine w_getR (ci := 1) (k := 2) (b := 6) dX1_take_45 fl_1_20 (by decide) (gT hG6 rfl (lt_of rfl)) (gR hG6 (b := 6) rfl) ?_
    refine w_aload_n dX1_take_48 rfl (List.Mem.head _) ?_
    refine i_getI (ci := 1) 6 rfl dX1_take_49 fl_1_32 (by decide) (gT hG6 rfl (lt_of rfl)) ?_
    obtain ⟨h9, h⟩ := h
    have hj7 := vin_lt2 (n := 3) h9 rfl
    refine i_aald (n := 3) (b := (7 + ((rI σ4 3 6).toNat))) dX1_take_52 (gT hG6 rfl (lt_of rfl)) (gL hG6 rfl) (rI_R _ _ _) h9 (gR hG6 (rr_6 hj7)) ?_
    refine w_iconst (v := nZ 0) dX1_take_53 (by decide) ?_
    refine w_bipush (v := nZ 9) dX1_take_54 (by decide) ?_
    refine i_copy dX1_take_56 lk_1_50 (Nat.le_of_ble_eq_true rfl) (gT hG6 (IsMk_t2 hv) (IsMk_lt hv (k := 2) (by decide))) (gT hG6 (ro_6 _ hj7).1 (by have := hj7; omega)) (gL hG6 (IsMk_n2 hv)) (gL hG6 (ro_6 _ hj7).2) (by decide) (fun σ8 eσ9 => ?_)
    replace h := h σ8 eσ9
    have hG10 : G σ8 u := eσ9 ▸ G.wC hG6
    refine w_aload_n dX1_take_59 rfl (List.Mem.tail _ (List.Mem.head _)) ?_
    refine w_getR (ci := 2) (k := 0) (b := (v + 1)) dX1_take_60 fl_1_42 (by decide) (gT hG10 (IsMk_t0 hv) (IsMk_lt hv (k := 0) (by decide))) (gR hG10 (IsMk_r0_0 hv)) ?_
    refine w_getR (ci := 7) (k := 1) (b := (v + 3)) dX1_take_63 fl_1_56 (by decide) (gT hG10 (IsMk_t1 hv) (IsMk_lt hv (k := 1) (by decide))) (gR hG10 (IsMk_r1_1 hv)) ?_
    refine w_iconst (v := nZ 0) dX1_take_66 (by decide) ?_
    refine w_aload_n dX1_take_67 rfl (List.Mem.head _) ?_
    refine w_getR (ci := 1) (k := 3) (b := 10) dX1_take_68 fl_1_23 (by decide) (gT hG10 rfl (lt_of rfl)) (gR hG10 (b := 10) rfl) ?_
    refine w_aload_n dX1_take_71 rfl (List.Mem.head _) ?_
    refine i_getI (ci := 1) 6 rfl dX1_take_72 fl_1_32 (by decide) (gT hG10 rfl (lt_of rfl)) ?_
    obtain ⟨h9, h⟩ := h
    have hj11 := vin_lt2 (n := 3) h9 rfl
    refine i_aald (n := 3) (b := (11 + ((rI σ8 3 6).toNat))) dX1_take_75 (gT hG10 rfl (lt_of rfl)) (gL hG10 rfl) (rI_R _ _ _) h9 (gR hG10 (rr_10 hj11)) ?_
    refine w_iconst (v := nZ 0) dX1_take_76 (by decide) ?_
    refine w_bipush (v := nZ 9) dX1_take_77 (by decide) ?_
    refine i_copy dX1_take_79 lk_1_50 (Nat.le_of_ble_eq_true rfl) (gT hG10 (IsMk_t3 hv) (IsMk_lt hv (k := 3) (by decide))) (gT hG10 (ro_10 _ hj11).1 (by have := hj11; omega)) (gL hG10 (IsMk_n3 hv)) (gL hG10 (ro_10 _ hj11).2) (by decide) (fun σ12 eσ13 => ?_)
    replace h := h σ12 eσ13
    have hG14 : G σ12 u := eσ13 ▸ G.wC hG10
    refine w_aload_n dX1_take_82 rfl (List.Mem.tail _ (List.Mem.head _)) ?_
    refine w_getR (ci := 2) (k := 0) (b := (v + 1)) dX1_take_83 fl_1_42 (by decide) (gT hG14 (IsMk_t0 hv) (IsMk_lt hv (k := 0) (by decide))) (gR hG14 (IsMk_r0_0 hv)) ?_
    refine w_getR (ci := 7) (k := 2) (b := (v + 4)) dX1_take_86 fl_1_58 (by decide) (gT hG14 (IsMk_t1 hv) (IsMk_lt hv (k := 1) (by decide))) (gR hG14 (IsMk_r1_2 hv)) ?_
    refine w_iconst (v := nZ 0) dX1_take_89 (by decide) ?_
    refine w_aload_n dX1_take_90 rfl (List.Mem.head _) ?_
    refine w_getR (ci := 1) (k := 4) (b := 14) dX1_take_91 fl_1_26 (by decide) (gT hG14 rfl (lt_of rfl)) (gR hG14 (b := 14) rfl) ?_
    refine w_aload_n dX1_take_94 rfl (List.Mem.head _) ?_
    refine i_getI (ci := 1) 6 rfl dX1_take_95 fl_1_32 (by decide) (gT hG14 rfl (lt_of rfl)) ?_
    obtain ⟨h9, h⟩ := h
    have hj15 := vin_lt2 (n := 3) h9 rfl
    refine i_aald (n := 3) (b := (15 + ((rI σ12 3 6).toNat))) dX1_take_98 (gT hG14 rfl (lt_of rfl)) (gL hG14 rfl) (rI_R _ _ _) h9 (gR hG14 (rr_14 hj15)) ?_
    refine w_iconst (v := nZ 0) dX1_take_99 (by decide) ?_
    refine w_bipush (v := nZ 9) dX1_take_100 (by decide) ?_
    refine i_copy dX1_take_102 lk_1_50 (Nat.le_of_ble_eq_true rfl) (gT hG14 (IsMk_t4 hv) (IsMk_lt hv (k := 4) (by decide))) (gT hG14 (ro_14 _ hj15).1 (by have := hj15; omega)) (gL hG14 (IsMk_n4 hv)) (gL hG14 (ro_14 _ hj15).2) (by decide) (fun σ16 eσ17 => ?_)
    replace h := h σ16 eσ17
    have hG18 : G σ16 u := eσ17 ▸ G.wC hG14
    refine w_aload_n dX1_take_105 rfl (List.Mem.tail _ (List.Mem.head _)) ?_
    refine w_getR (ci := 2) (k := 0) (b := (v + 1)) dX1_take_106 fl_1_42 (by decide) (gT hG18 (IsMk_t0 hv) (IsMk_lt hv (k := 0) (by decide))) (gR hG18 (IsMk_r0_0 hv)) ?_
    refine w_getR (ci := 7) (k := 7) (b := (v + 9)) dX1_take_109 fl_1_60 (by decide) (gT hG18 (IsMk_t1 hv) (IsMk_lt hv (k := 1) (by decide))) (gR hG18 (IsMk_r1_7 hv)) ?_
    refine w_iconst (v := nZ 0) dX1_take_112 (by decide) ?_
    refine w_aload_n dX1_take_113 rfl (List.Mem.head _) ?_
    refine w_getR (ci := 1) (k := 5) (b := 18) dX1_take_114 fl_1_29 (by decide) (gT hG18 rfl (lt_of rfl)) (gR hG18 (b := 18) rfl) ?_
    refine w_aload_n dX1_take_117 rfl (List.Mem.head _) ?_
    refine i_getI (ci := 1) 6 rfl dX1_take_118 fl_1_32 (by decide) (gT hG18 rfl (lt_of rfl)) ?_
    obtain ⟨h9, h⟩ := h
    have hj19 := vin_lt2 (n := 3) h9 rfl
    refine i_aald (n := 3) (b := (19 + ((rI σ16 3 6).toNat))) dX1_take_121 (gT hG18 rfl (lt_of rfl)) (gL hG18 rfl) (rI_R _ _ _) h9 (gR hG18 (rr_18 hj19)) ?_
    refine w_iconst (v := nZ 0) dX1_take_122 (by decide) ?_
    refine w_bipush (v := nZ 9) dX1_take_123 (by decide) ?_
    refine i_copy dX1_take_125 lk_1_50 (Nat.le_of_ble_eq_true rfl) (gT hG18 (IsMk_t9 hv) (IsMk_lt hv (k := 9) (by decide))) (gT hG18 (ro_18 _ hj19).1 (by have := hj19; omega)) (gL hG18 (IsMk_n9 hv)) (gL hG18 (ro_18 _ hj19).2) (by decide) (fun σ20 eσ21 => ?_)
    replace h := h σ20 eσ21
    have hG22 : G σ20 u := eσ21 ▸ G.wC hG18
    refine w_aload_n dX1_take_128 rfl (List.Mem.head _) ?_
    refine w_dup dX1_take_129 rfl ?_
    refine i_getI (ci := 1) 6 rfl dX1_take_130 fl_1_32 (by decide) (gT hG22 rfl (lt_of rfl)) ?_
    refine w_iconst (v := nZ 1) dX1_take_133 (by decide) ?_
    obtain ⟨q23, h⟩ := h
    refine i_add dX1_take_134 ?_
    refine i_putI (ci := 1) 6 rfl dX1_take_135 fl_1_32 (by decide) (gT hG22 rfl (lt_of rfl)) (fun σ24 eσ25 => ?_)
    replace h := h σ24 eσ25
    have hG26 : G σ24 u := eσ25 ▸ G.wI hG22
    refine w_aload_n dX1_take_138 rfl (List.Mem.head _) ?_
    refine i_getI (ci := 1) 6 rfl dX1_take_139 fl_1_32 (by decide) (gT hG26 rfl (lt_of rfl)) ?_
    exact w_iret dX1_take_142 rfl h
  · replace h := h.2 c9
    refine w_iconst (v := nZ (-1)) dX1_take_8 (by decide) ?_
    exact w_iret dX1_take_9 rfl h
theorem dX1_giveBack_0 : decode cX1_giveBack 0 = .ok (.aload_n 0, 1) := by decide +kernel
theorem dX1_giveBack_1 : decode cX1_giveBack 1 = .ok (.getfield 32, 3) := by decide +kernel
theorem dX1_giveBack_4 : decode cX1_giveBack 4 = .ok (.ifCond .gt 5, 3) := by decide +kernel
theorem dX1_giveBack_7 : decode cX1_giveBack 7 = .ok (.iconst (-1), 1) := by decide +kernel
theorem dX1_giveBack_8 : decode cX1_giveBack 8 = .ok (.ireturn, 1) := by decide +kernel
theorem dX1_giveBack_9 : decode cX1_giveBack 9 = .ok (.aload_n 0, 1) := by decide +kernel
theorem dX1_giveBack_10 : decode cX1_giveBack 10 = .ok (.dup, 1) := by decide +kernel
theorem dX1_giveBack_11 : decode cX1_giveBack 11 = .ok (.getfield 32, 3) := by decide +kernel
theorem dX1_giveBack_14 : decode cX1_giveBack 14 = .ok (.iconst 1, 1) := by decide +kernel
theorem dX1_giveBack_15 : decode cX1_giveBack 15 = .ok (.isub, 1) := by decide +kernel
theorem dX1_giveBack_16 : decode cX1_giveBack 16 = .ok (.putfield 32, 3) := by decide +kernel
theorem dX1_giveBack_19 : decode cX1_giveBack 19 = .ok (.aload_n 1, 1) := by decide +kernel
theorem dX1_giveBack_20 : decode cX1_giveBack 20 = .ok (.aload_n 0, 1) := by decide +kernel
theorem dX1_giveBack_21 : decode cX1_giveBack 21 = .ok (.getfield 9, 3) := by decide +kernel
theorem dX1_giveBack_24 : decode cX1_giveBack 24 = .ok (.aload_n 0, 1) := by decide +kernel
theorem dX1_giveBack_25 : decode cX1_giveBack 25 = .ok (.getfield 32, 3) := by decide +kernel
theorem dX1_giveBack_28 : decode cX1_giveBack 28 = .ok (.iaload, 1) := by decide +kernel
theorem dX1_giveBack_29 : decode cX1_giveBack 29 = .ok (.putfield 36, 3) := by decide +kernel
theorem dX1_giveBack_32 : decode cX1_giveBack 32 = .ok (.aload_n 1, 1) := by decide +kernel
theorem dX1_giveBack_33 : decode cX1_giveBack 33 = .ok (.aload_n 0, 1) := by decide +kernel
theorem dX1_giveBack_34 : decode cX1_giveBack 34 = .ok (.getfield 15, 3) := by decide +kernel
theorem dX1_giveBack_37 : decode cX1_giveBack 37 = .ok (.aload_n 0, 1) := by decide +kernel
theorem dX1_giveBack_38 : decode cX1_giveBack 38 = .ok (.getfield 32, 3) := by decide +kernel
theorem dX1_giveBack_41 : decode cX1_giveBack 41 = .ok (.iaload, 1) := by decide +kernel
theorem dX1_giveBack_42 : decode cX1_giveBack 42 = .ok (.putfield 40, 3) := by decide +kernel
theorem dX1_giveBack_45 : decode cX1_giveBack 45 = .ok (.aload_n 0, 1) := by decide +kernel
theorem dX1_giveBack_46 : decode cX1_giveBack 46 = .ok (.getfield 20, 3) := by decide +kernel
theorem dX1_giveBack_49 : decode cX1_giveBack 49 = .ok (.aload_n 0, 1) := by decide +kernel
theorem dX1_giveBack_50 : decode cX1_giveBack 50 = .ok (.getfield 32, 3) := by decide +kernel
theorem dX1_giveBack_53 : decode cX1_giveBack 53 = .ok (.aaload, 1) := by decide +kernel
theorem dX1_giveBack_54 : decode cX1_giveBack 54 = .ok (.iconst 0, 1) := by decide +kernel
theorem dX1_giveBack_55 : decode cX1_giveBack 55 = .ok (.aload_n 1, 1) := by decide +kernel
theorem dX1_giveBack_56 : decode cX1_giveBack 56 = .ok (.getfield 42, 3) := by decide +kernel
theorem dX1_giveBack_59 : decode cX1_giveBack 59 = .ok (.getfield 46, 3) := by decide +kernel
theorem dX1_giveBack_62 : decode cX1_giveBack 62 = .ok (.iconst 0, 1) := by decide +kernel
theorem dX1_giveBack_63 : decode cX1_giveBack 63 = .ok (.bipush 9, 2) := by decide +kernel
theorem dX1_giveBack_65 : decode cX1_giveBack 65 = .ok (.invokestatic 50, 3) := by decide +kernel
theorem dX1_giveBack_68 : decode cX1_giveBack 68 = .ok (.aload_n 0, 1) := by decide +kernel
theorem dX1_giveBack_69 : decode cX1_giveBack 69 = .ok (.getfield 23, 3) := by decide +kernel
theorem dX1_giveBack_72 : decode cX1_giveBack 72 = .ok (.aload_n 0, 1) := by decide +kernel
theorem dX1_giveBack_73 : decode cX1_giveBack 73 = .ok (.getfield 32, 3) := by decide +kernel
theorem dX1_giveBack_76 : decode cX1_giveBack 76 = .ok (.aaload, 1) := by decide +kernel
theorem dX1_giveBack_77 : decode cX1_giveBack 77 = .ok (.iconst 0, 1) := by decide +kernel
theorem dX1_giveBack_78 : decode cX1_giveBack 78 = .ok (.aload_n 1, 1) := by decide +kernel
theorem dX1_giveBack_79 : decode cX1_giveBack 79 = .ok (.getfield 42, 3) := by decide +kernel
theorem dX1_giveBack_82 : decode cX1_giveBack 82 = .ok (.getfield 56, 3) := by decide +kernel
theorem dX1_giveBack_85 : decode cX1_giveBack 85 = .ok (.iconst 0, 1) := by decide +kernel
theorem dX1_giveBack_86 : decode cX1_giveBack 86 = .ok (.bipush 9, 2) := by decide +kernel
theorem dX1_giveBack_88 : decode cX1_giveBack 88 = .ok (.invokestatic 50, 3) := by decide +kernel
theorem dX1_giveBack_91 : decode cX1_giveBack 91 = .ok (.aload_n 0, 1) := by decide +kernel
theorem dX1_giveBack_92 : decode cX1_giveBack 92 = .ok (.getfield 26, 3) := by decide +kernel
theorem dX1_giveBack_95 : decode cX1_giveBack 95 = .ok (.aload_n 0, 1) := by decide +kernel
theorem dX1_giveBack_96 : decode cX1_giveBack 96 = .ok (.getfield 32, 3) := by decide +kernel
theorem dX1_giveBack_99 : decode cX1_giveBack 99 = .ok (.aaload, 1) := by decide +kernel
theorem dX1_giveBack_100 : decode cX1_giveBack 100 = .ok (.iconst 0, 1) := by decide +kernel
theorem dX1_giveBack_101 : decode cX1_giveBack 101 = .ok (.aload_n 1, 1) := by decide +kernel
theorem dX1_giveBack_102 : decode cX1_giveBack 102 = .ok (.getfield 42, 3) := by decide +kernel
theorem dX1_giveBack_105 : decode cX1_giveBack 105 = .ok (.getfield 58, 3) := by decide +kernel
theorem dX1_giveBack_108 : decode cX1_giveBack 108 = .ok (.iconst 0, 1) := by decide +kernel
theorem dX1_giveBack_109 : decode cX1_giveBack 109 = .ok (.bipush 9, 2) := by decide +kernel
theorem dX1_giveBack_111 : decode cX1_giveBack 111 = .ok (.invokestatic 50, 3) := by decide +kernel
theorem dX1_giveBack_114 : decode cX1_giveBack 114 = .ok (.aload_n 0, 1) := by decide +kernel
theorem dX1_giveBack_115 : decode cX1_giveBack 115 = .ok (.getfield 29, 3) := by decide +kernel
theorem dX1_giveBack_118 : decode cX1_giveBack 118 = .ok (.aload_n 0, 1) := by decide +kernel
theorem dX1_giveBack_119 : decode cX1_giveBack 119 = .ok (.getfield 32, 3) := by decide +kernel
theorem dX1_giveBack_122 : decode cX1_giveBack 122 = .ok (.aaload, 1) := by decide +kernel
theorem dX1_giveBack_123 : decode cX1_giveBack 123 = .ok (.iconst 0, 1) := by decide +kernel
theorem dX1_giveBack_124 : decode cX1_giveBack 124 = .ok (.aload_n 1, 1) := by decide +kernel
theorem dX1_giveBack_125 : decode cX1_giveBack 125 = .ok (.getfield 42, 3) := by decide +kernel
theorem dX1_giveBack_128 : decode cX1_giveBack 128 = .ok (.getfield 60, 3) := by decide +kernel
theorem dX1_giveBack_131 : decode cX1_giveBack 131 = .ok (.iconst 0, 1) := by decide +kernel
theorem dX1_giveBack_132 : decode cX1_giveBack 132 = .ok (.bipush 9, 2) := by decide +kernel
theorem dX1_giveBack_134 : decode cX1_giveBack 134 = .ok (.invokestatic 50, 3) := by decide +kernel
theorem dX1_giveBack_137 : decode cX1_giveBack 137 = .ok (.aload_n 0, 1) := by decide +kernel
theorem dX1_giveBack_138 : decode cX1_giveBack 138 = .ok (.getfield 32, 3) := by decide +kernel
theorem dX1_giveBack_141 : decode cX1_giveBack 141 = .ok (.ireturn, 1) := by decide +kernel
set_option maxRecDepth 10000 in
theorem t_X1_giveBack {sc : Nat × (Nat → Int32)} {d : Nat} {Q : aO → aH → Prop} {σ : aH} {u : Nat} {v : Nat}  (hG : G σ u) (hv : IsMk v)
    (h : ((0 < (rI σ 3 6) → (inR ((rI σ 3 6) - 1) ∧ (∀ σ2 : aH, wI σ 3 6 ((rI σ 3 6) - 1) = σ2 → ((0 ≤ (rI σ2 3 6) ∧ (rI σ2 3 6) < 3) ∧ (∀ σ5 : aH, wI σ2 v 8 (rI σ2 4 (rI σ2 3 6)) = σ5 → ((0 ≤ (rI σ5 3 6) ∧ (rI σ5 3 6) < 3) ∧ (∀ σ8 : aH, wI σ5 v 9 (rI σ5 5 (rI σ5 3 6)) = σ8 → ((0 ≤ (rI σ8 3 6) ∧ (rI σ8 3 6) < 3) ∧ (∀ σ12 : aH, wC σ8 (7 + ((rI σ8 3 6).toNat)) (v + 2) = σ12 → ((0 ≤ (rI σ12 3 6) ∧ (rI σ12 3 6) < 3) ∧ (∀ σ16 : aH, wC σ12 (11 + ((rI σ12 3 6).toNat)) (v + 3) = σ16 → ((0 ≤ (rI σ16 3 6) ∧ (rI σ16 3 6) < 3) ∧ (∀ σ20 : aH, wC σ16 (15 + ((rI σ16 3 6).toNat)) (v + 4) = σ20 → ((0 ≤ (rI σ20 3 6) ∧ (rI σ20 3 6) < 3) ∧ (∀ σ24 : aH, wC σ20 (19 + ((rI σ20 3 6).toNat)) (v + 9) = σ24 → Q (.inl (some (.int (nZ (rI σ24 3 6))))) σ24))))))))))))))) ∧ (¬ (0 < (rI σ 3 6)) → Q (.inl (some (.int (nZ (-1))))) σ))) :
    T sc (d + 1) mX1_giveBack [.ref 3, .ref v] σ Q := by
  refine T.of (c := 1) (code := cX1_giveBack) (mL := 2) (rt := (some .int)) (ini := false) (l := [(0, .ref 3), (1, .ref v)]) rfl rfl rfl rfl (by decide) hs_X1_giveBack rfl rfl ?_
  refine w_aload_n dX1_giveBack_0 rfl (List.Mem.head _) ?_
  refine i_getI (ci := 1) 6 rfl dX1_giveBack_1 fl_1_32 (by decide) (gT hG rfl (lt_of rfl)) ?_
  refine i_if_gt (tgt := 9) dX1_giveBack_4 rfl (rI_R _ _ _) (fun c9 => ?_) (fun c9 => ?_)
  · replace h := h.1 c9
    refine w_aload_n dX1_giveBack_9 rfl (List.Mem.head _) ?_
    refine w_dup dX1_giveBack_10 rfl ?_
    refine i_getI (ci := 1) 6 rfl dX1_giveBack_11 fl_1_32 (by decide) (gT hG rfl (lt_of rfl)) ?_
    refine w_iconst (v := nZ 1) dX1_giveBack_14 (by decide) ?_
    obtain ⟨q1, h⟩ := h
    refine i_sub dX1_giveBack_15 ?_
    refine i_putI (ci := 1) 6 rfl dX1_giveBack_16 fl_1_32 (by decide) (gT hG rfl (lt_of rfl)) (fun σ2 eσ3 => ?_)
    replace h := h σ2 eσ3
    have hG4 : G σ2 u := eσ3 ▸ G.wI hG
    refine w_aload_n dX1_giveBack_19 rfl (List.Mem.tail _ (List.Mem.head _)) ?_
    refine w_aload_n dX1_giveBack_20 rfl (List.Mem.head _) ?_
    refine w_getR (ci := 1) (k := 0) (b := 4) dX1_giveBack_21 fl_1_9 (by decide) (gT hG4 rfl (lt_of rfl)) (gR hG4 (b := 4) rfl) ?_
    refine w_aload_n dX1_giveBack_24 rfl (List.Mem.head _) ?_
    refine i_getI (ci := 1) 6 rfl dX1_giveBack_25 fl_1_32 (by decide) (gT hG4 rfl (lt_of rfl)) ?_
    obtain ⟨h9, h⟩ := h
    refine i_iald (n := 3) dX1_giveBack_28 (gT hG4 rfl (lt_of rfl)) (gL hG4 rfl) (rI_R _ _ _) h9 ?_
    refine i_putI (ci := 2) 8 rfl dX1_giveBack_29 fl_1_36 (by decide) (gT hG4 (IsMk_t0 hv) (IsMk_lt hv (k := 0) (by decide))) (fun σ5 eσ6 => ?_)
    replace h := h σ5 eσ6
    have hG7 : G σ5 u := eσ6 ▸ G.wI hG4
    refine w_aload_n dX1_giveBack_32 rfl (List.Mem.tail _ (List.Mem.head _)) ?_
    refine w_aload_n dX1_giveBack_33 rfl (List.Mem.head _) ?_
    refine w_getR (ci := 1) (k := 1) (b := 5) dX1_giveBack_34 fl_1_15 (by decide) (gT hG7 rfl (lt_of rfl)) (gR hG7 (b := 5) rfl) ?_
    refine w_aload_n dX1_giveBack_37 rfl (List.Mem.head _) ?_
    refine i_getI (ci := 1) 6 rfl dX1_giveBack_38 fl_1_32 (by decide) (gT hG7 rfl (lt_of rfl)) ?_
    obtain ⟨h9, h⟩ := h
    refine i_iald (n := 3) dX1_giveBack_41 (gT hG7 rfl (lt_of rfl)) (gL hG7 rfl) (rI_R _ _ _) h9 ?_
    refine i_putI (ci := 2) 9 rfl dX1_giveBack_42 fl_1_40 (by decide) (gT hG7 (IsMk_t0 hv) (IsMk_lt hv (k := 0) (by decide))) (fun σ8 eσ9 => ?_)
    replace h := h σ8 eσ9
    have hG10 : G σ8 u := eσ9 ▸ G.wI hG7
    refine w_aload_n dX1_giveBack_45 rfl (List.Mem.head _) ?_
    refine w_getR (ci := 1) (k := 2) (b := 6) dX1_giveBack_46 fl_1_20 (by decide) (gT hG10 rfl (lt_of rfl)) (gR hG10 (b := 6) rfl) ?_
    refine w_aload_n dX1_giveBack_49 rfl (List.Mem.head _) ?_
    refine i_getI (ci := 1) 6 rfl dX1_giveBack_50 fl_1_32 (by decide) (gT hG10 rfl (lt_of rfl)) ?_
    obtain ⟨h9, h⟩ := h
    have hj11 := vin_lt2 (n := 3) h9 rfl
    refine i_aald (n := 3) (b := (7 + ((rI σ8 3 6).toNat))) dX1_giveBack_53 (gT hG10 rfl (lt_of rfl)) (gL hG10 rfl) (rI_R _ _ _) h9 (gR hG10 (rr_6 hj11)) ?_
    refine w_iconst (v := nZ 0) dX1_giveBack_54 (by decide) ?_
    refine w_aload_n dX1_giveBack_55 rfl (List.Mem.tail _ (List.Mem.head _)) ?_
    refine w_getR (ci := 2) (k := 0) (b := (v + 1)) dX1_giveBack_56 fl_1_42 (by decide) (gT hG10 (IsMk_t0 hv) (IsMk_lt hv (k := 0) (by decide))) (gR hG10 (IsMk_r0_0 hv)) ?_
    refine w_getR (ci := 7) (k := 0) (b := (v + 2)) dX1_giveBack_59 fl_1_46 (by decide) (gT hG10 (IsMk_t1 hv) (IsMk_lt hv (k := 1) (by decide))) (gR hG10 (IsMk_r1_0 hv)) ?_
    refine w_iconst (v := nZ 0) dX1_giveBack_62 (by decide) ?_
    refine w_bipush (v := nZ 9) dX1_giveBack_63 (by decide) ?_
    refine i_copy dX1_giveBack_65 lk_1_50 (Nat.le_of_ble_eq_true rfl) (gT hG10 (ro_6 _ hj11).1 (by have := hj11; omega)) (gT hG10 (IsMk_t2 hv) (IsMk_lt hv (k := 2) (by decide))) (gL hG10 (ro_6 _ hj11).2) (gL hG10 (IsMk_n2 hv)) (by decide) (fun σ12 eσ13 => ?_)
    replace h := h σ12 eσ13
    have hG14 : G σ12 u := eσ13 ▸ G.wC hG10
    refine w_aload_n dX1_giveBack_68 rfl (List.Mem.head _) ?_
    refine w_getR (ci := 1) (k := 3) (b := 10) dX1_giveBack_69 fl_1_23 (by decide) (gT hG14 rfl (lt_of rfl)) (gR hG14 (b := 10) rfl) ?_
    refine w_aload_n dX1_giveBack_72 rfl (List.Mem.head _) ?_
    refine i_getI (ci := 1) 6 rfl dX1_giveBack_73 fl_1_32 (by decide) (gT hG14 rfl (lt_of rfl)) ?_
    obtain ⟨h9, h⟩ := h
    have hj15 := vin_lt2 (n := 3) h9 rfl
    refine i_aald (n := 3) (b := (11 + ((rI σ12 3 6).toNat))) dX1_giveBack_76 (gT hG14 rfl (lt_of rfl)) (gL hG14 rfl) (rI_R _ _ _) h9 (gR hG14 (rr_10 hj15)) ?_
    refine w_iconst (v := nZ 0) dX1_giveBack_77 (by decide) ?_
    refine w_aload_n dX1_giveBack_78 rfl (List.Mem.tail _ (List.Mem.head _)) ?_
    refine w_getR (ci := 2) (k := 0) (b := (v + 1)) dX1_giveBack_79 fl_1_42 (by decide) (gT hG14 (IsMk_t0 hv) (IsMk_lt hv (k := 0) (by decide))) (gR hG14 (IsMk_r0_0 hv)) ?_
    refine w_getR (ci := 7) (k := 1) (b := (v + 3)) dX1_giveBack_82 fl_1_56 (by decide) (gT hG14 (IsMk_t1 hv) (IsMk_lt hv (k := 1) (by decide))) (gR hG14 (IsMk_r1_1 hv)) ?_
    refine w_iconst (v := nZ 0) dX1_giveBack_85 (by decide) ?_
    refine w_bipush (v := nZ 9) dX1_giveBack_86 (by decide) ?_
    refine i_copy dX1_giveBack_88 lk_1_50 (Nat.le_of_ble_eq_true rfl) (gT hG14 (ro_10 _ hj15).1 (by have := hj15; omega)) (gT hG14 (IsMk_t3 hv) (IsMk_lt hv (k := 3) (by decide))) (gL hG14 (ro_10 _ hj15).2) (gL hG14 (IsMk_n3 hv)) (by decide) (fun σ16 eσ17 => ?_)
    replace h := h σ16 eσ17
    have hG18 : G σ16 u := eσ17 ▸ G.wC hG14
    refine w_aload_n dX1_giveBack_91 rfl (List.Mem.head _) ?_
    refine w_getR (ci := 1) (k := 4) (b := 14) dX1_giveBack_92 fl_1_26 (by decide) (gT hG18 rfl (lt_of rfl)) (gR hG18 (b := 14) rfl) ?_
    refine w_aload_n dX1_giveBack_95 rfl (List.Mem.head _) ?_
    refine i_getI (ci := 1) 6 rfl dX1_giveBack_96 fl_1_32 (by decide) (gT hG18 rfl (lt_of rfl)) ?_
    obtain ⟨h9, h⟩ := h
    have hj19 := vin_lt2 (n := 3) h9 rfl
    refine i_aald (n := 3) (b := (15 + ((rI σ16 3 6).toNat))) dX1_giveBack_99 (gT hG18 rfl (lt_of rfl)) (gL hG18 rfl) (rI_R _ _ _) h9 (gR hG18 (rr_14 hj19)) ?_
    refine w_iconst (v := nZ 0) dX1_giveBack_100 (by decide) ?_
    refine w_aload_n dX1_giveBack_101 rfl (List.Mem.tail _ (List.Mem.head _)) ?_
    refine w_getR (ci := 2) (k := 0) (b := (v + 1)) dX1_giveBack_102 fl_1_42 (by decide) (gT hG18 (IsMk_t0 hv) (IsMk_lt hv (k := 0) (by decide))) (gR hG18 (IsMk_r0_0 hv)) ?_
    refine w_getR (ci := 7) (k := 2) (b := (v + 4)) dX1_giveBack_105 fl_1_58 (by decide) (gT hG18 (IsMk_t1 hv) (IsMk_lt hv (k := 1) (by decide))) (gR hG18 (IsMk_r1_2 hv)) ?_
    refine w_iconst (v := nZ 0) dX1_giveBack_108 (by decide) ?_
    refine w_bipush (v := nZ 9) dX1_giveBack_109 (by decide) ?_
    refine i_copy dX1_giveBack_111 lk_1_50 (Nat.le_of_ble_eq_true rfl) (gT hG18 (ro_14 _ hj19).1 (by have := hj19; omega)) (gT hG18 (IsMk_t4 hv) (IsMk_lt hv (k := 4) (by decide))) (gL hG18 (ro_14 _ hj19).2) (gL hG18 (IsMk_n4 hv)) (by decide) (fun σ20 eσ21 => ?_)
    replace h := h σ20 eσ21
    have hG22 : G σ20 u := eσ21 ▸ G.wC hG18
    refine w_aload_n dX1_giveBack_114 rfl (List.Mem.head _) ?_
    refine w_getR (ci := 1) (k := 5) (b := 18) dX1_giveBack_115 fl_1_29 (by decide) (gT hG22 rfl (lt_of rfl)) (gR hG22 (b := 18) rfl) ?_
    refine w_aload_n dX1_giveBack_118 rfl (List.Mem.head _) ?_
    refine i_getI (ci := 1) 6 rfl dX1_giveBack_119 fl_1_32 (by decide) (gT hG22 rfl (lt_of rfl)) ?_
    obtain ⟨h9, h⟩ := h
    have hj23 := vin_lt2 (n := 3) h9 rfl
    refine i_aald (n := 3) (b := (19 + ((rI σ20 3 6).toNat))) dX1_giveBack_122 (gT hG22 rfl (lt_of rfl)) (gL hG22 rfl) (rI_R _ _ _) h9 (gR hG22 (rr_18 hj23)) ?_
    refine w_iconst (v := nZ 0) dX1_giveBack_123 (by decide) ?_
    refine w_aload_n dX1_giveBack_124 rfl (List.Mem.tail _ (List.Mem.head _)) ?_
    refine w_getR (ci := 2) (k := 0) (b := (v + 1)) dX1_giveBack_125 fl_1_42 (by decide) (gT hG22 (IsMk_t0 hv) (IsMk_lt hv (k := 0) (by decide))) (gR hG22 (IsMk_r0_0 hv)) ?_
    refine w_getR (ci := 7) (k := 7) (b := (v + 9)) dX1_giveBack_128 fl_1_60 (by decide) (gT hG22 (IsMk_t1 hv) (IsMk_lt hv (k := 1) (by decide))) (gR hG22 (IsMk_r1_7 hv)) ?_
    refine w_iconst (v := nZ 0) dX1_giveBack_131 (by decide) ?_
    refine w_bipush (v := nZ 9) dX1_giveBack_132 (by decide) ?_
    refine i_copy dX1_giveBack_134 lk_1_50 (Nat.le_of_ble_eq_true rfl) (gT hG22 (ro_18 _ hj23).1 (by have := hj23; omega)) (gT hG22 (IsMk_t9 hv) (IsMk_lt hv (k := 9) (by decide))) (gL hG22 (ro_18 _ hj23).2) (gL hG22 (IsMk_n9 hv)) (by decide) (fun σ24 eσ25 => ?_)
    replace h := h σ24 eσ25
    have hG26 : G σ24 u := eσ25 ▸ G.wC hG22
    refine w_aload_n dX1_giveBack_137 rfl (List.Mem.head _) ?_
    refine i_getI (ci := 1) 6 rfl dX1_giveBack_138 fl_1_32 (by decide) (gT hG26 rfl (lt_of rfl)) ?_
    exact w_iret dX1_giveBack_141 rfl h
  · replace h := h.2 c9
    refine w_iconst (v := nZ (-1)) dX1_giveBack_7 (by decide) ?_
    exact w_iret dX1_giveBack_8 rfl h
