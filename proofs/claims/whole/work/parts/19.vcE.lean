theorem dX3_fewest_0 : decode cX3_fewest 0 = .ok (.aload_n 0, 1) := by decide +kernel
theorem dX3_fewest_1 : decode cX3_fewest 1 = .ok (.aload_n 1, 1) := by decide +kernel
theorem dX3_fewest_2 : decode cX3_fewest 2 = .ok (.aload_n 1, 1) := by decide +kernel
theorem dX3_fewest_3 : decode cX3_fewest 3 = .ok (.iconst 0, 1) := by decide +kernel
theorem dX3_fewest_4 : decode cX3_fewest 4 = .ok (.iload_n 2, 1) := by decide +kernel
theorem dX3_fewest_5 : decode cX3_fewest 5 = .ok (.invokevirtual 21, 3) := by decide +kernel
theorem dX3_fewest_8 : decode cX3_fewest 8 = .ok (.invokevirtual 27, 3) := by decide +kernel
theorem dX3_fewest_11 : decode cX3_fewest 11 = .ok (.istore_n 3, 1) := by decide +kernel
theorem dX3_fewest_12 : decode cX3_fewest 12 = .ok (.aload_n 0, 1) := by decide +kernel
theorem dX3_fewest_13 : decode cX3_fewest 13 = .ok (.getfield 15, 3) := by decide +kernel
theorem dX3_fewest_16 : decode cX3_fewest 16 = .ok (.iconst 0, 1) := by decide +kernel
theorem dX3_fewest_17 : decode cX3_fewest 17 = .ok (.iconst 0, 1) := by decide +kernel
theorem dX3_fewest_18 : decode cX3_fewest 18 = .ok (.iastore, 1) := by decide +kernel
theorem dX3_fewest_19 : decode cX3_fewest 19 = .ok (.aload_n 0, 1) := by decide +kernel
theorem dX3_fewest_20 : decode cX3_fewest 20 = .ok (.getfield 18, 3) := by decide +kernel
theorem dX3_fewest_23 : decode cX3_fewest 23 = .ok (.iconst 0, 1) := by decide +kernel
theorem dX3_fewest_24 : decode cX3_fewest 24 = .ok (.iconst 0, 1) := by decide +kernel
theorem dX3_fewest_25 : decode cX3_fewest 25 = .ok (.iastore, 1) := by decide +kernel
theorem dX3_fewest_26 : decode cX3_fewest 26 = .ok (.iconst 1, 1) := by decide +kernel
theorem dX3_fewest_27 : decode cX3_fewest 27 = .ok (.istore 4, 2) := by decide +kernel
theorem dX3_fewest_29 : decode cX3_fewest 29 = .ok (.iload 4, 2) := by decide +kernel
theorem dX3_fewest_31 : decode cX3_fewest 31 = .ok (.iconst 1, 1) := by decide +kernel
theorem dX3_fewest_32 : decode cX3_fewest 32 = .ok (.iload_n 3, 1) := by decide +kernel
theorem dX3_fewest_33 : decode cX3_fewest 33 = .ok (.ishl, 1) := by decide +kernel
theorem dX3_fewest_34 : decode cX3_fewest 34 = .ok (.if_icmp .ge 16, 3) := by decide +kernel
theorem dX3_fewest_37 : decode cX3_fewest 37 = .ok (.aload_n 0, 1) := by decide +kernel
theorem dX3_fewest_38 : decode cX3_fewest 38 = .ok (.iload 4, 2) := by decide +kernel
theorem dX3_fewest_40 : decode cX3_fewest 40 = .ok (.iload_n 3, 1) := by decide +kernel
theorem dX3_fewest_41 : decode cX3_fewest 41 = .ok (.invokevirtual 31, 3) := by decide +kernel
theorem dX3_fewest_44 : decode cX3_fewest 44 = .ok (.iinc 4 1, 3) := by decide +kernel
theorem dX3_fewest_47 : decode cX3_fewest 47 = .ok (.goto (-18), 3) := by decide +kernel
theorem dX3_fewest_50 : decode cX3_fewest 50 = .ok (.iload_n 3, 1) := by decide +kernel
theorem dX3_fewest_51 : decode cX3_fewest 51 = .ok (.aload_n 0, 1) := by decide +kernel
theorem dX3_fewest_52 : decode cX3_fewest 52 = .ok (.getfield 18, 3) := by decide +kernel
theorem dX3_fewest_55 : decode cX3_fewest 55 = .ok (.iconst 1, 1) := by decide +kernel
theorem dX3_fewest_56 : decode cX3_fewest 56 = .ok (.iload_n 3, 1) := by decide +kernel
theorem dX3_fewest_57 : decode cX3_fewest 57 = .ok (.ishl, 1) := by decide +kernel
theorem dX3_fewest_58 : decode cX3_fewest 58 = .ok (.iconst 1, 1) := by decide +kernel
theorem dX3_fewest_59 : decode cX3_fewest 59 = .ok (.isub, 1) := by decide +kernel
theorem dX3_fewest_60 : decode cX3_fewest 60 = .ok (.iaload, 1) := by decide +kernel
theorem dX3_fewest_61 : decode cX3_fewest 61 = .ok (.isub, 1) := by decide +kernel
theorem dX3_fewest_62 : decode cX3_fewest 62 = .ok (.ireturn, 1) := by decide +kernel
set_option maxRecDepth 10000 in
theorem v_X3_fewest_0 {C : aM → List Value → aH → aO → aH → Prop} {sc : Nat × (Nat → Int32)} {P : aO → aH → Prop} {σ : aH} {u : Nat}  {x2 : Int32} (hG : G σ u) 
    (h : (∃ σ1 : aH, C mX6_costsOf [.ref 27, .int 0, .int x2] σ (.inl (some (.ref 34))) σ1 ∧ G σ1 u ∧ (∃ (r7 : Int32) (σ4 : aH), C mX3_gatherNets [.ref 22, .ref 27, .ref 34] σ1 (.inl (some (.int r7))) σ4 ∧ G σ4 u ∧ (∀ σ8 : aH, sI σ4 24 0 0 = σ8 → (∀ σ11 : aH, sI σ8 25 0 0 = σ11 → wp C 3 cX3_fewest 5 (some .int) false [] sc P 29 [(0, .ref 22), (1, .ref 27), (2, .int x2), (3, .int r7), (4, .int 1)] [] σ11))))) :
    wp C 3 cX3_fewest 5 (some .int) false [] sc P 0 [(0, .ref 22), (1, .ref 27), (2, .int x2)] [] σ := by
  refine w_aload_n dX3_fewest_0 rfl (List.Mem.head _) ?_
  refine w_aload_n dX3_fewest_1 rfl (List.Mem.tail _ (List.Mem.head _)) ?_
  refine w_aload_n dX3_fewest_2 rfl (List.Mem.tail _ (List.Mem.head _)) ?_
  refine w_iconst (v := 0) dX3_fewest_3 (by decide) ?_
  refine w_iload_n dX3_fewest_4 rfl (List.Mem.tail _ (List.Mem.tail _ (List.Mem.head _))) ?_
  obtain ⟨σ1, hc3, hG2, h⟩ := h
  refine w_callV dX3_fewest_5 ml_3_21 ⟨ok_X6_costsOf, vi_X6_costsOf⟩ hs_X6_costsOf (As := [.int 0, .int x2]) rfl rfl (gT hG rfl (lt_of rfl)) (Nat.le_of_ble_eq_true rfl) hc3 ?_
  show wp C 3 cX3_fewest 5 (some .int) false [] sc P 8 [(0, .ref 22), (1, .ref 27), (2, .int x2)] [.ref 34, .ref 27, .ref 22] σ1
  obtain ⟨r7, σ4, hc6, hG5, h⟩ := h
  refine w_callV dX3_fewest_8 ml_3_27 ⟨ok_X3_gatherNets, vi_X3_gatherNets⟩ hs_X3_gatherNets (As := [.ref 27, .ref 34]) rfl rfl (gT hG2 rfl (lt_of rfl)) (Nat.le_of_ble_eq_true rfl) hc6 ?_
  show wp C 3 cX3_fewest 5 (some .int) false [] sc P 11 [(0, .ref 22), (1, .ref 27), (2, .int x2)] [.int r7] σ4
  refine w_istore_n (l' := [(3, .int r7), (0, .ref 22), (1, .ref 27), (2, .int x2)]) dX3_fewest_11 rfl (by decide) rfl ?_
  refine w_aload_n dX3_fewest_12 rfl (List.Mem.tail _ (List.Mem.head _)) ?_
  refine w_getR (ci := 3) (k := 1) (b := 24) dX3_fewest_13 fl_3_15 (by decide) (gT hG5 rfl (lt_of rfl)) (gR hG5 (b := 24) rfl) ?_
  refine w_iconst (v := 0) dX3_fewest_16 (by decide) ?_
  refine w_iconst (v := 0) dX3_fewest_17 (by decide) ?_
  refine y_iast (n := 256) 0 dX3_fewest_18 (gT hG5 rfl (lt_of rfl)) (gL hG5 rfl) (vin_of rfl) rfl (fun σ8 eσ9 => ?_)
  replace h := h σ8 eσ9
  have hG10 : G σ8 u := eσ9 ▸ G.sI hG5
  refine w_aload_n dX3_fewest_19 rfl (List.Mem.tail _ (List.Mem.head _)) ?_
  refine w_getR (ci := 3) (k := 2) (b := 25) dX3_fewest_20 fl_3_18 (by decide) (gT hG10 rfl (lt_of rfl)) (gR hG10 (b := 25) rfl) ?_
  refine w_iconst (v := 0) dX3_fewest_23 (by decide) ?_
  refine w_iconst (v := 0) dX3_fewest_24 (by decide) ?_
  refine y_iast (n := 256) 0 dX3_fewest_25 (gT hG10 rfl (lt_of rfl)) (gL hG10 rfl) (vin_of rfl) rfl (fun σ11 eσ12 => ?_)
  replace h := h σ11 eσ12
  have hG13 : G σ11 u := eσ12 ▸ G.sI hG10
  refine w_iconst (v := 1) dX3_fewest_26 (by decide) ?_
  refine w_istore (l' := [(4, .int 1), (3, .int r7), (0, .ref 22), (1, .ref 27), (2, .int x2)]) dX3_fewest_27 (by decide) rfl ?_
  exact w_weak (l' := [(0, .ref 22), (1, .ref 27), (2, .int x2), (3, .int r7), (4, .int 1)]) (by intro q hq; simp only [List.mem_cons, List.not_mem_nil, or_false] at hq ⊢; rcases hq with rfl | rfl | rfl | rfl | rfl <;> simp) h
set_option maxRecDepth 10000 in
theorem v_X3_fewest_29 {C : aM → List Value → aH → aO → aH → Prop} {sc : Nat × (Nat → Int32)} {P : aO → aH → Prop} {σ : aH} {u : Nat}  {x2 : Int32} {x3 : Int32} {x4 : Int32} (hG : G σ u) 
    (h : (((1 <<< (x3 &&& 31)) ≤ x4 → (vp_in ((1 <<< (x3 &&& 31)) - 1) 256 ∧ P (.inl (some (.int (x3 - (gI σ 25 (((1 <<< (x3 &&& 31)) - 1).toNatClampNeg)))))) σ)) ∧ (¬ ((1 <<< (x3 &&& 31)) ≤ x4) → (∃ σ1 : aH, C mX3_splitSet [.ref 22, .int x4, .int x3] σ (.inl none) σ1 ∧ G σ1 u ∧ wp C 3 cX3_fewest 5 (some .int) false [] sc P 29 [(0, .ref 22), (1, .ref 27), (2, .int x2), (3, .int x3), (4, .int (x4 + 1))] [] σ1)))) :
    wp C 3 cX3_fewest 5 (some .int) false [] sc P 29 [(0, .ref 22), (1, .ref 27), (2, .int x2), (3, .int x3), (4, .int x4)] [] σ := by
  refine w_iload dX3_fewest_29 (List.Mem.tail _ (List.Mem.tail _ (List.Mem.tail _ (List.Mem.tail _ (List.Mem.head _))))) ?_
  refine w_iconst (v := 1) dX3_fewest_31 (by decide) ?_
  refine w_iload_n dX3_fewest_32 rfl (List.Mem.tail _ (List.Mem.tail _ (List.Mem.tail _ (List.Mem.head _)))) ?_
  refine w_ishl dX3_fewest_33 ?_
  refine w_icmp_ge (tgt := 50) dX3_fewest_34 rfl (fun c9 => ?_) (fun c9 => ?_)
  · replace h := h.1 c9
    refine w_iload_n dX3_fewest_50 rfl (List.Mem.tail _ (List.Mem.tail _ (List.Mem.tail _ (List.Mem.head _)))) ?_
    refine w_aload_n dX3_fewest_51 rfl (List.Mem.head _) ?_
    refine w_getR (ci := 3) (k := 2) (b := 25) dX3_fewest_52 fl_3_18 (by decide) (gT hG rfl (lt_of rfl)) (gR hG (b := 25) rfl) ?_
    refine w_iconst (v := 1) dX3_fewest_55 (by decide) ?_
    refine w_iload_n dX3_fewest_56 rfl (List.Mem.tail _ (List.Mem.tail _ (List.Mem.tail _ (List.Mem.head _)))) ?_
    refine w_ishl dX3_fewest_57 ?_
    refine w_iconst (v := 1) dX3_fewest_58 (by decide) ?_
    refine w_isub dX3_fewest_59 ?_
    obtain ⟨h9, h⟩ := h
    refine x_iald (n := 256) (((1 <<< (x3 &&& 31)) - 1).toNatClampNeg) dX3_fewest_60 (gT hG rfl (lt_of rfl)) (gL hG rfl) h9 rfl ?_
    refine w_isub dX3_fewest_61 ?_
    exact w_iret dX3_fewest_62 rfl h
  · replace h := h.2 c9
    refine w_aload_n dX3_fewest_37 rfl (List.Mem.head _) ?_
    refine w_iload dX3_fewest_38 (List.Mem.tail _ (List.Mem.tail _ (List.Mem.tail _ (List.Mem.tail _ (List.Mem.head _))))) ?_
    refine w_iload_n dX3_fewest_40 rfl (List.Mem.tail _ (List.Mem.tail _ (List.Mem.tail _ (List.Mem.head _)))) ?_
    obtain ⟨σ1, hc3, hG2, h⟩ := h
    refine w_callV dX3_fewest_41 ml_3_31 ⟨ok_X3_splitSet, vi_X3_splitSet⟩ hs_X3_splitSet (As := [.int x4, .int x3]) rfl rfl (gT hG rfl (lt_of rfl)) (Nat.le_of_ble_eq_true rfl) hc3 ?_
    show wp C 3 cX3_fewest 5 (some .int) false [] sc P 44 [(0, .ref 22), (1, .ref 27), (2, .int x2), (3, .int x3), (4, .int x4)] [] σ1
    refine w_iinc (v := x4 + 1) (l' := [(4, .int (x4 + 1)), (0, .ref 22), (1, .ref 27), (2, .int x2), (3, .int x3)]) dX3_fewest_44 (List.Mem.tail _ (List.Mem.tail _ (List.Mem.tail _ (List.Mem.tail _ (List.Mem.head _))))) rfl (by decide) rfl ?_
    refine w_goto (tgt := 29) dX3_fewest_47 rfl ?_
    exact w_weak (l' := [(0, .ref 22), (1, .ref 27), (2, .int x2), (3, .int x3), (4, .int (x4 + 1))]) (by intro q hq; simp only [List.mem_cons, List.not_mem_nil, or_false] at hq ⊢; rcases hq with rfl | rfl | rfl | rfl | rfl <;> simp) h
theorem dX3_gatherNets_0 : decode cX3_gatherNets 0 = .ok (.iconst 0, 1) := by decide +kernel
theorem dX3_gatherNets_1 : decode cX3_gatherNets 1 = .ok (.istore_n 3, 1) := by decide +kernel
theorem dX3_gatherNets_2 : decode cX3_gatherNets 2 = .ok (.iconst 0, 1) := by decide +kernel
theorem dX3_gatherNets_3 : decode cX3_gatherNets 3 = .ok (.istore 4, 2) := by decide +kernel
theorem dX3_gatherNets_5 : decode cX3_gatherNets 5 = .ok (.iload 4, 2) := by decide +kernel
theorem dX3_gatherNets_7 : decode cX3_gatherNets 7 = .ok (.aload_n 1, 1) := by decide +kernel
theorem dX3_gatherNets_8 : decode cX3_gatherNets 8 = .ok (.getfield 35, 3) := by decide +kernel
theorem dX3_gatherNets_11 : decode cX3_gatherNets 11 = .ok (.getfield 39, 3) := by decide +kernel
theorem dX3_gatherNets_14 : decode cX3_gatherNets 14 = .ok (.getfield 45, 3) := by decide +kernel
theorem dX3_gatherNets_17 : decode cX3_gatherNets 17 = .ok (.if_icmp .ge 40, 3) := by decide +kernel
theorem dX3_gatherNets_20 : decode cX3_gatherNets 20 = .ok (.aload_n 1, 1) := by decide +kernel
theorem dX3_gatherNets_21 : decode cX3_gatherNets 21 = .ok (.aload_n 2, 1) := by decide +kernel
theorem dX3_gatherNets_22 : decode cX3_gatherNets 22 = .ok (.iload 4, 2) := by decide +kernel
theorem dX3_gatherNets_24 : decode cX3_gatherNets 24 = .ok (.invokevirtual 51, 3) := by decide +kernel
theorem dX3_gatherNets_27 : decode cX3_gatherNets 27 = .ok (.istore 5, 2) := by decide +kernel
theorem dX3_gatherNets_29 : decode cX3_gatherNets 29 = .ok (.iload 5, 2) := by decide +kernel
theorem dX3_gatherNets_31 : decode cX3_gatherNets 31 = .ok (.ifCond .eq 20, 3) := by decide +kernel
theorem dX3_gatherNets_34 : decode cX3_gatherNets 34 = .ok (.iload_n 3, 1) := by decide +kernel
theorem dX3_gatherNets_35 : decode cX3_gatherNets 35 = .ok (.bipush 8, 2) := by decide +kernel
theorem dX3_gatherNets_37 : decode cX3_gatherNets 37 = .ok (.if_icmp .ge 14, 3) := by decide +kernel
theorem dX3_gatherNets_40 : decode cX3_gatherNets 40 = .ok (.aload_n 0, 1) := by decide +kernel
theorem dX3_gatherNets_41 : decode cX3_gatherNets 41 = .ok (.getfield 9, 3) := by decide +kernel
theorem dX3_gatherNets_44 : decode cX3_gatherNets 44 = .ok (.iload_n 3, 1) := by decide +kernel
theorem dX3_gatherNets_45 : decode cX3_gatherNets 45 = .ok (.iload 5, 2) := by decide +kernel
theorem dX3_gatherNets_47 : decode cX3_gatherNets 47 = .ok (.iastore, 1) := by decide +kernel
theorem dX3_gatherNets_48 : decode cX3_gatherNets 48 = .ok (.iinc 3 1, 3) := by decide +kernel
theorem dX3_gatherNets_51 : decode cX3_gatherNets 51 = .ok (.iinc 4 1, 3) := by decide +kernel
theorem dX3_gatherNets_54 : decode cX3_gatherNets 54 = .ok (.goto (-49), 3) := by decide +kernel
theorem dX3_gatherNets_57 : decode cX3_gatherNets 57 = .ok (.iload_n 3, 1) := by decide +kernel
theorem dX3_gatherNets_58 : decode cX3_gatherNets 58 = .ok (.ireturn, 1) := by decide +kernel
set_option maxRecDepth 10000 in
theorem v_X3_gatherNets_0 {C : aM → List Value → aH → aO → aH → Prop} {sc : Nat × (Nat → Int32)} {P : aO → aH → Prop} {σ : aH} {u : Nat} {w : Nat}  (hG : G σ u) (hw : IsWt w)
    (h : wp C 3 cX3_gatherNets 6 (some .int) false [] sc P 5 [(0, .ref 22), (1, .ref 27), (2, .ref w), (3, .int 0), (4, .int 0)] [] σ) :
    wp C 3 cX3_gatherNets 6 (some .int) false [] sc P 0 [(0, .ref 22), (1, .ref 27), (2, .ref w)] [] σ := by
  refine w_iconst (v := 0) dX3_gatherNets_0 (by decide) ?_
  refine w_istore_n (l' := [(3, .int 0), (0, .ref 22), (1, .ref 27), (2, .ref w)]) dX3_gatherNets_1 rfl (by decide) rfl ?_
  refine w_iconst (v := 0) dX3_gatherNets_2 (by decide) ?_
  refine w_istore (l' := [(4, .int 0), (3, .int 0), (0, .ref 22), (1, .ref 27), (2, .ref w)]) dX3_gatherNets_3 (by decide) rfl ?_
  exact w_weak (l' := [(0, .ref 22), (1, .ref 27), (2, .ref w), (3, .int 0), (4, .int 0)]) (by intro q hq; simp only [List.mem_cons, List.not_mem_nil, or_false] at hq ⊢; rcases hq with rfl | rfl | rfl | rfl | rfl <;> simp) h
set_option maxRecDepth 10000 in
theorem v_X3_gatherNets_5 {C : aM → List Value → aH → aO → aH → Prop} {sc : Nat × (Nat → Int32)} {P : aO → aH → Prop} {σ : aH} {u : Nat} {w : Nat} {x3 : Int32} {x4 : Int32} (hG : G σ u) (hw : IsWt w)
    (h : (((gI σ (u + 1) 8) ≤ x4 → P (.inl (some (.int x3))) σ) ∧ (¬ ((gI σ (u + 1) 8) ≤ x4) → (∃ (r4 : Int32) (σ1 : aH), C mX6_gain [.ref 27, .ref w, .int x4] σ (.inl (some (.int r4))) σ1 ∧ G σ1 u ∧ ((r4 = 0 → wp C 3 cX3_gatherNets 6 (some .int) false [] sc P 5 [(0, .ref 22), (1, .ref 27), (2, .ref w), (3, .int x3), (4, .int (x4 + 1))] [] σ1) ∧ (¬ (r4 = 0) → ((8 ≤ x3 → wp C 3 cX3_gatherNets 6 (some .int) false [] sc P 5 [(0, .ref 22), (1, .ref 27), (2, .ref w), (3, .int x3), (4, .int (x4 + 1))] [] σ1) ∧ (¬ (8 ≤ x3) → (vp_in x3 8 ∧ (∀ σ5 : aH, sI σ1 23 x3.toNatClampNeg r4 = σ5 → wp C 3 cX3_gatherNets 6 (some .int) false [] sc P 5 [(0, .ref 22), (1, .ref 27), (2, .ref w), (3, .int (x3 + 1)), (4, .int (x4 + 1))] [] σ5)))))))))) :
    wp C 3 cX3_gatherNets 6 (some .int) false [] sc P 5 [(0, .ref 22), (1, .ref 27), (2, .ref w), (3, .int x3), (4, .int x4)] [] σ := by
  refine w_iload dX3_gatherNets_5 (List.Mem.tail _ (List.Mem.tail _ (List.Mem.tail _ (List.Mem.tail _ (List.Mem.head _))))) ?_
  refine w_aload_n dX3_gatherNets_7 rfl (List.Mem.tail _ (List.Mem.head _)) ?_
  refine w_getM (ci := 6) (k := 5) (b := u) dX3_gatherNets_8 fl_3_35 (by decide) (gT hG rfl (lt_of rfl)) hG.2.2.2.1 ?_
  refine w_getR (ci := 2) (k := 0) (b := (u + 1)) dX3_gatherNets_11 fl_3_39 (by decide) (gT hG (IsMk_t0 hG.2.2.2.2) (IsMk_lt hG.2.2.2.2 (k := 0) (by decide))) (gR hG (IsMk_r0_0 hG.2.2.2.2)) ?_
  refine w_getI (ci := 7) (k := 8) dX3_gatherNets_14 fl_3_45 (by decide) (gT hG (IsMk_t1 hG.2.2.2.2) (IsMk_lt hG.2.2.2.2 (k := 1) (by decide))) ?_
  refine w_icmp_ge (tgt := 57) dX3_gatherNets_17 rfl (fun c9 => ?_) (fun c9 => ?_)
  · replace h := h.1 c9
    refine w_iload_n dX3_gatherNets_57 rfl (List.Mem.tail _ (List.Mem.tail _ (List.Mem.tail _ (List.Mem.head _)))) ?_
    exact w_iret dX3_gatherNets_58 rfl h
  · replace h := h.2 c9
    refine w_aload_n dX3_gatherNets_20 rfl (List.Mem.tail _ (List.Mem.head _)) ?_
    refine w_aload_n dX3_gatherNets_21 rfl (List.Mem.tail _ (List.Mem.tail _ (List.Mem.head _))) ?_
    refine w_iload dX3_gatherNets_22 (List.Mem.tail _ (List.Mem.tail _ (List.Mem.tail _ (List.Mem.tail _ (List.Mem.head _))))) ?_
    obtain ⟨r4, σ1, hc3, hG2, h⟩ := h
    refine w_callV dX3_gatherNets_24 ml_3_51 ⟨ok_X6_gain, vi_X6_gain⟩ hs_X6_gain (As := [.ref w, .int x4]) rfl rfl (gT hG rfl (lt_of rfl)) (Nat.le_of_ble_eq_true rfl) hc3 ?_
    show wp C 3 cX3_gatherNets 6 (some .int) false [] sc P 27 [(0, .ref 22), (1, .ref 27), (2, .ref w), (3, .int x3), (4, .int x4)] [.int r4] σ1
    refine w_istore (l' := [(5, .int r4), (0, .ref 22), (1, .ref 27), (2, .ref w), (3, .int x3), (4, .int x4)]) dX3_gatherNets_27 (by decide) rfl ?_
    refine w_iload dX3_gatherNets_29 (List.Mem.head _) ?_
    refine w_if_eq (tgt := 51) dX3_gatherNets_31 rfl (fun c9 => ?_) (fun c9 => ?_)
    · replace h := h.1 c9
      refine w_iinc (v := x4 + 1) (l' := [(4, .int (x4 + 1)), (5, .int r4), (0, .ref 22), (1, .ref 27), (2, .ref w), (3, .int x3)]) dX3_gatherNets_51 (List.Mem.tail _ (List.Mem.tail _ (List.Mem.tail _ (List.Mem.tail _ (List.Mem.tail _ (List.Mem.head _)))))) rfl (by decide) rfl ?_
      refine w_goto (tgt := 5) dX3_gatherNets_54 rfl ?_
      exact w_weak (l' := [(0, .ref 22), (1, .ref 27), (2, .ref w), (3, .int x3), (4, .int (x4 + 1))]) (by intro q hq; simp only [List.mem_cons, List.not_mem_nil, or_false] at hq ⊢; rcases hq with rfl | rfl | rfl | rfl | rfl <;> simp) h
    · replace h := h.2 c9
      refine w_iload_n dX3_gatherNets_34 rfl (List.Mem.tail _ (List.Mem.tail _ (List.Mem.tail _ (List.Mem.tail _ (List.Mem.head _))))) ?_
      refine w_bipush (v := 8) dX3_gatherNets_35 (by decide) ?_
      refine w_icmp_ge (tgt := 51) dX3_gatherNets_37 rfl (fun c9 => ?_) (fun c9 => ?_)
      · replace h := h.1 c9
        refine w_iinc (v := x4 + 1) (l' := [(4, .int (x4 + 1)), (5, .int r4), (0, .ref 22), (1, .ref 27), (2, .ref w), (3, .int x3)]) dX3_gatherNets_51 (List.Mem.tail _ (List.Mem.tail _ (List.Mem.tail _ (List.Mem.tail _ (List.Mem.tail _ (List.Mem.head _)))))) rfl (by decide) rfl ?_
        refine w_goto (tgt := 5) dX3_gatherNets_54 rfl ?_
        exact w_weak (l' := [(0, .ref 22), (1, .ref 27), (2, .ref w), (3, .int x3), (4, .int (x4 + 1))]) (by intro q hq; simp only [List.mem_cons, List.not_mem_nil, or_false] at hq ⊢; rcases hq with rfl | rfl | rfl | rfl | rfl <;> simp) h
      · replace h := h.2 c9
        refine w_aload_n dX3_gatherNets_40 rfl (List.Mem.tail _ (List.Mem.head _)) ?_
        refine w_getR (ci := 3) (k := 0) (b := 23) dX3_gatherNets_41 fl_3_9 (by decide) (gT hG2 rfl (lt_of rfl)) (gR hG2 (b := 23) rfl) ?_
        refine w_iload_n dX3_gatherNets_44 rfl (List.Mem.tail _ (List.Mem.tail _ (List.Mem.tail _ (List.Mem.tail _ (List.Mem.head _))))) ?_
        refine w_iload dX3_gatherNets_45 (List.Mem.head _) ?_
        obtain ⟨h9, h⟩ := h
        refine y_iast (n := 8) x3.toNatClampNeg dX3_gatherNets_47 (gT hG2 rfl (lt_of rfl)) (gL hG2 rfl) h9 rfl (fun σ5 eσ6 => ?_)
        replace h := h σ5 eσ6
        have hG7 : G σ5 u := eσ6 ▸ G.sI hG2
        refine w_iinc (v := x3 + 1) (l' := [(3, .int (x3 + 1)), (5, .int r4), (0, .ref 22), (1, .ref 27), (2, .ref w), (4, .int x4)]) dX3_gatherNets_48 (List.Mem.tail _ (List.Mem.tail _ (List.Mem.tail _ (List.Mem.tail _ (List.Mem.head _))))) rfl (by decide) rfl ?_
        refine w_iinc (v := x4 + 1) (l' := [(4, .int (x4 + 1)), (3, .int (x3 + 1)), (5, .int r4), (0, .ref 22), (1, .ref 27), (2, .ref w)]) dX3_gatherNets_51 (List.Mem.tail _ (List.Mem.tail _ (List.Mem.tail _ (List.Mem.tail _ (List.Mem.tail _ (List.Mem.head _)))))) rfl (by decide) rfl ?_
        refine w_goto (tgt := 5) dX3_gatherNets_54 rfl ?_
        exact w_weak (l' := [(0, .ref 22), (1, .ref 27), (2, .ref w), (3, .int (x3 + 1)), (4, .int (x4 + 1))]) (by intro q hq; simp only [List.mem_cons, List.not_mem_nil, or_false] at hq ⊢; rcases hq with rfl | rfl | rfl | rfl | rfl <;> simp) h
theorem dX3_splitSet_0 : decode cX3_splitSet 0 = .ok (.iconst 0, 1) := by decide +kernel
theorem dX3_splitSet_1 : decode cX3_splitSet 1 = .ok (.istore_n 3, 1) := by decide +kernel
theorem dX3_splitSet_2 : decode cX3_splitSet 2 = .ok (.iconst 0, 1) := by decide +kernel
theorem dX3_splitSet_3 : decode cX3_splitSet 3 = .ok (.istore 4, 2) := by decide +kernel
theorem dX3_splitSet_5 : decode cX3_splitSet 5 = .ok (.iload 4, 2) := by decide +kernel
theorem dX3_splitSet_7 : decode cX3_splitSet 7 = .ok (.iload_n 2, 1) := by decide +kernel
theorem dX3_splitSet_8 : decode cX3_splitSet 8 = .ok (.if_icmp .ge 60, 3) := by decide +kernel
theorem dX3_splitSet_11 : decode cX3_splitSet 11 = .ok (.iload_n 1, 1) := by decide +kernel
theorem dX3_splitSet_12 : decode cX3_splitSet 12 = .ok (.iload 4, 2) := by decide +kernel
theorem dX3_splitSet_14 : decode cX3_splitSet 14 = .ok (.iushr, 1) := by decide +kernel
theorem dX3_splitSet_15 : decode cX3_splitSet 15 = .ok (.iconst 1, 1) := by decide +kernel
theorem dX3_splitSet_16 : decode cX3_splitSet 16 = .ok (.iand, 1) := by decide +kernel
theorem dX3_splitSet_17 : decode cX3_splitSet 17 = .ok (.iconst 1, 1) := by decide +kernel
theorem dX3_splitSet_18 : decode cX3_splitSet 18 = .ok (.if_icmp .ne 44, 3) := by decide +kernel
theorem dX3_splitSet_21 : decode cX3_splitSet 21 = .ok (.iload_n 1, 1) := by decide +kernel
theorem dX3_splitSet_22 : decode cX3_splitSet 22 = .ok (.iconst 1, 1) := by decide +kernel
theorem dX3_splitSet_23 : decode cX3_splitSet 23 = .ok (.iload 4, 2) := by decide +kernel
theorem dX3_splitSet_25 : decode cX3_splitSet 25 = .ok (.ishl, 1) := by decide +kernel
theorem dX3_splitSet_26 : decode cX3_splitSet 26 = .ok (.ixor, 1) := by decide +kernel
theorem dX3_splitSet_27 : decode cX3_splitSet 27 = .ok (.istore 5, 2) := by decide +kernel
theorem dX3_splitSet_29 : decode cX3_splitSet 29 = .ok (.aload_n 0, 1) := by decide +kernel
theorem dX3_splitSet_30 : decode cX3_splitSet 30 = .ok (.getfield 15, 3) := by decide +kernel
theorem dX3_splitSet_33 : decode cX3_splitSet 33 = .ok (.iload_n 1, 1) := by decide +kernel
theorem dX3_splitSet_34 : decode cX3_splitSet 34 = .ok (.aload_n 0, 1) := by decide +kernel
theorem dX3_splitSet_35 : decode cX3_splitSet 35 = .ok (.getfield 15, 3) := by decide +kernel
theorem dX3_splitSet_38 : decode cX3_splitSet 38 = .ok (.iload 5, 2) := by decide +kernel
theorem dX3_splitSet_40 : decode cX3_splitSet 40 = .ok (.iaload, 1) := by decide +kernel
theorem dX3_splitSet_41 : decode cX3_splitSet 41 = .ok (.aload_n 0, 1) := by decide +kernel
theorem dX3_splitSet_42 : decode cX3_splitSet 42 = .ok (.getfield 9, 3) := by decide +kernel
theorem dX3_splitSet_45 : decode cX3_splitSet 45 = .ok (.iload 4, 2) := by decide +kernel
theorem dX3_splitSet_47 : decode cX3_splitSet 47 = .ok (.iaload, 1) := by decide +kernel
theorem dX3_splitSet_48 : decode cX3_splitSet 48 = .ok (.iadd, 1) := by decide +kernel
theorem dX3_splitSet_49 : decode cX3_splitSet 49 = .ok (.iastore, 1) := by decide +kernel
theorem dX3_splitSet_50 : decode cX3_splitSet 50 = .ok (.iload_n 3, 1) := by decide +kernel
theorem dX3_splitSet_51 : decode cX3_splitSet 51 = .ok (.aload_n 0, 1) := by decide +kernel
theorem dX3_splitSet_52 : decode cX3_splitSet 52 = .ok (.getfield 18, 3) := by decide +kernel
theorem dX3_splitSet_55 : decode cX3_splitSet 55 = .ok (.iload 5, 2) := by decide +kernel
theorem dX3_splitSet_57 : decode cX3_splitSet 57 = .ok (.iaload, 1) := by decide +kernel
theorem dX3_splitSet_58 : decode cX3_splitSet 58 = .ok (.invokestatic 55, 3) := by decide +kernel
theorem dX3_splitSet_61 : decode cX3_splitSet 61 = .ok (.istore_n 3, 1) := by decide +kernel
theorem dX3_splitSet_62 : decode cX3_splitSet 62 = .ok (.iinc 4 1, 3) := by decide +kernel
theorem dX3_splitSet_65 : decode cX3_splitSet 65 = .ok (.goto (-60), 3) := by decide +kernel
theorem dX3_splitSet_68 : decode cX3_splitSet 68 = .ok (.aload_n 0, 1) := by decide +kernel
theorem dX3_splitSet_69 : decode cX3_splitSet 69 = .ok (.getfield 18, 3) := by decide +kernel
theorem dX3_splitSet_72 : decode cX3_splitSet 72 = .ok (.iload_n 1, 1) := by decide +kernel
theorem dX3_splitSet_73 : decode cX3_splitSet 73 = .ok (.aload_n 0, 1) := by decide +kernel
theorem dX3_splitSet_74 : decode cX3_splitSet 74 = .ok (.getfield 15, 3) := by decide +kernel
theorem dX3_splitSet_77 : decode cX3_splitSet 77 = .ok (.iload_n 1, 1) := by decide +kernel
theorem dX3_splitSet_78 : decode cX3_splitSet 78 = .ok (.iaload, 1) := by decide +kernel
theorem dX3_splitSet_79 : decode cX3_splitSet 79 = .ok (.ifCond .ne 9, 3) := by decide +kernel
theorem dX3_splitSet_82 : decode cX3_splitSet 82 = .ok (.iload_n 3, 1) := by decide +kernel
theorem dX3_splitSet_83 : decode cX3_splitSet 83 = .ok (.iconst 1, 1) := by decide +kernel
theorem dX3_splitSet_84 : decode cX3_splitSet 84 = .ok (.iadd, 1) := by decide +kernel
theorem dX3_splitSet_85 : decode cX3_splitSet 85 = .ok (.goto 4, 3) := by decide +kernel
theorem dX3_splitSet_88 : decode cX3_splitSet 88 = .ok (.iload_n 3, 1) := by decide +kernel
theorem dX3_splitSet_89 : decode cX3_splitSet 89 = .ok (.iastore, 1) := by decide +kernel
theorem dX3_splitSet_90 : decode cX3_splitSet 90 = .ok (.return_, 1) := by decide +kernel
set_option maxRecDepth 10000 in
theorem v_X3_splitSet_0 {C : aM → List Value → aH → aO → aH → Prop} {sc : Nat × (Nat → Int32)} {P : aO → aH → Prop} {σ : aH} {u : Nat}  {x1 : Int32} {x2 : Int32} (hG : G σ u) 
    (h : wp C 3 cX3_splitSet 6 none false [] sc P 5 [(0, .ref 22), (1, .int x1), (2, .int x2), (3, .int 0), (4, .int 0)] [] σ) :
    wp C 3 cX3_splitSet 6 none false [] sc P 0 [(0, .ref 22), (1, .int x1), (2, .int x2)] [] σ := by
  refine w_iconst (v := 0) dX3_splitSet_0 (by decide) ?_
  refine w_istore_n (l' := [(3, .int 0), (0, .ref 22), (1, .int x1), (2, .int x2)]) dX3_splitSet_1 rfl (by decide) rfl ?_
  refine w_iconst (v := 0) dX3_splitSet_2 (by decide) ?_
  refine w_istore (l' := [(4, .int 0), (3, .int 0), (0, .ref 22), (1, .int x1), (2, .int x2)]) dX3_splitSet_3 (by decide) rfl ?_
  exact w_weak (l' := [(0, .ref 22), (1, .int x1), (2, .int x2), (3, .int 0), (4, .int 0)]) (by intro q hq; simp only [List.mem_cons, List.not_mem_nil, or_false] at hq ⊢; rcases hq with rfl | rfl | rfl | rfl | rfl <;> simp) h
set_option maxRecDepth 10000 in
theorem v_X3_splitSet_5 {C : aM → List Value → aH → aO → aH → Prop} {sc : Nat × (Nat → Int32)} {P : aO → aH → Prop} {σ : aH} {u : Nat}  {x1 : Int32} {x2 : Int32} {x3 : Int32} {x4 : Int32} (hG : G σ u) 
    (h : ((x2 ≤ x4 → (vp_in x1 256 ∧ ((¬ (gI σ 24 x1.toNatClampNeg) = 0 → (vp_in x1 256 ∧ (∀ σ1 : aH, sI σ 25 x1.toNatClampNeg x3 = σ1 → P (.inl none) σ1))) ∧ ((gI σ 24 x1.toNatClampNeg) = 0 → (vp_in x1 256 ∧ (∀ σ4 : aH, sI σ 25 x1.toNatClampNeg (x3 + 1) = σ4 → P (.inl none) σ4)))))) ∧ (¬ (x2 ≤ x4) → ((¬ ((((x1 : Int32).toUInt32 >>> ((x4 : Int32).toUInt32 &&& Int32.toUInt32 31)).toInt32) &&& 1) = 1 → wp C 3 cX3_splitSet 6 none false [] sc P 5 [(0, .ref 22), (1, .int x1), (2, .int x2), (3, .int x3), (4, .int (x4 + 1))] [] σ) ∧ (((((x1 : Int32).toUInt32 >>> ((x4 : Int32).toUInt32 &&& Int32.toUInt32 31)).toInt32) &&& 1) = 1 → (∀ z7 : Int32, z7 = (x1 ^^^ (1 <<< (x4 &&& 31))) → (vp_in z7 256 ∧ (vp_in x4 8 ∧ (vp_in x1 256 ∧ (∀ σ9 : aH, sI σ 24 x1.toNatClampNeg ((gI σ 24 z7.toNatClampNeg) + (gI σ 23 x4.toNatClampNeg)) = σ9 → (vp_in z7 256 ∧ (∀ z12 : Int32, z12 = (if x3 < (gI σ9 25 z7.toNatClampNeg) then (gI σ9 25 z7.toNatClampNeg) else x3) → wp C 3 cX3_splitSet 6 none false [] sc P 5 [(0, .ref 22), (1, .int x1), (2, .int x2), (3, .int z12), (4, .int (x4 + 1))] [] σ9)))))))))))) :
    wp C 3 cX3_splitSet 6 none false [] sc P 5 [(0, .ref 22), (1, .int x1), (2, .int x2), (3, .int x3), (4, .int x4)] [] σ := by
  refine w_iload dX3_splitSet_5 (List.Mem.tail _ (List.Mem.tail _ (List.Mem.tail _ (List.Mem.tail _ (List.Mem.head _))))) ?_
  refine w_iload_n dX3_splitSet_7 rfl (List.Mem.tail _ (List.Mem.tail _ (List.Mem.head _))) ?_
  refine w_icmp_ge (tgt := 68) dX3_splitSet_8 rfl (fun c9 => ?_) (fun c9 => ?_)
  · replace h := h.1 c9
    refine w_aload_n dX3_splitSet_68 rfl (List.Mem.head _) ?_
    refine w_getR (ci := 3) (k := 2) (b := 25) dX3_splitSet_69 fl_3_18 (by decide) (gT hG rfl (lt_of rfl)) (gR hG (b := 25) rfl) ?_
    refine w_iload_n dX3_splitSet_72 rfl (List.Mem.tail _ (List.Mem.head _)) ?_
    refine w_aload_n dX3_splitSet_73 rfl (List.Mem.head _) ?_
    refine w_getR (ci := 3) (k := 1) (b := 24) dX3_splitSet_74 fl_3_15 (by decide) (gT hG rfl (lt_of rfl)) (gR hG (b := 24) rfl) ?_
    refine w_iload_n dX3_splitSet_77 rfl (List.Mem.tail _ (List.Mem.head _)) ?_
    obtain ⟨h9, h⟩ := h
    refine x_iald (n := 256) x1.toNatClampNeg dX3_splitSet_78 (gT hG rfl (lt_of rfl)) (gL hG rfl) h9 rfl ?_
    refine w_if_ne (tgt := 88) dX3_splitSet_79 rfl (fun c9 => ?_) (fun c9 => ?_)
    · replace h := h.1 c9
      refine w_iload_n dX3_splitSet_88 rfl (List.Mem.tail _ (List.Mem.tail _ (List.Mem.tail _ (List.Mem.head _)))) ?_
      obtain ⟨h9, h⟩ := h
      refine y_iast (n := 256) x1.toNatClampNeg dX3_splitSet_89 (gT hG rfl (lt_of rfl)) (gL hG rfl) h9 rfl (fun σ1 eσ2 => ?_)
      replace h := h σ1 eσ2
      have hG3 : G σ1 u := eσ2 ▸ G.sI hG
      exact w_vret dX3_splitSet_90 rfl h
    · replace h := h.2 c9
      refine w_iload_n dX3_splitSet_82 rfl (List.Mem.tail _ (List.Mem.tail _ (List.Mem.tail _ (List.Mem.head _)))) ?_
      refine w_iconst (v := 1) dX3_splitSet_83 (by decide) ?_
      refine w_iadd dX3_splitSet_84 ?_
      refine w_goto (tgt := 89) dX3_splitSet_85 rfl ?_
      obtain ⟨h9, h⟩ := h
      refine y_iast (n := 256) x1.toNatClampNeg dX3_splitSet_89 (gT hG rfl (lt_of rfl)) (gL hG rfl) h9 rfl (fun σ4 eσ5 => ?_)
      replace h := h σ4 eσ5
      have hG6 : G σ4 u := eσ5 ▸ G.sI hG
      exact w_vret dX3_splitSet_90 rfl h
  · replace h := h.2 c9
    refine w_iload_n dX3_splitSet_11 rfl (List.Mem.tail _ (List.Mem.head _)) ?_
    refine w_iload dX3_splitSet_12 (List.Mem.tail _ (List.Mem.tail _ (List.Mem.tail _ (List.Mem.tail _ (List.Mem.head _))))) ?_
    refine w_iushr dX3_splitSet_14 ?_
    refine w_iconst (v := 1) dX3_splitSet_15 (by decide) ?_
    refine w_iand dX3_splitSet_16 ?_
    refine w_iconst (v := 1) dX3_splitSet_17 (by decide) ?_
    refine w_icmp_ne (tgt := 62) dX3_splitSet_18 rfl (fun c9 => ?_) (fun c9 => ?_)
    · replace h := h.1 c9
      refine w_iinc (v := x4 + 1) (l' := [(4, .int (x4 + 1)), (0, .ref 22), (1, .int x1), (2, .int x2), (3, .int x3)]) dX3_splitSet_62 (List.Mem.tail _ (List.Mem.tail _ (List.Mem.tail _ (List.Mem.tail _ (List.Mem.head _))))) rfl (by decide) rfl ?_
      refine w_goto (tgt := 5) dX3_splitSet_65 rfl ?_
      exact w_weak (l' := [(0, .ref 22), (1, .int x1), (2, .int x2), (3, .int x3), (4, .int (x4 + 1))]) (by intro q hq; simp only [List.mem_cons, List.not_mem_nil, or_false] at hq ⊢; rcases hq with rfl | rfl | rfl | rfl | rfl <;> simp) h
    · replace h := h.2 c9
      refine w_iload_n dX3_splitSet_21 rfl (List.Mem.tail _ (List.Mem.head _)) ?_
      refine w_iconst (v := 1) dX3_splitSet_22 (by decide) ?_
      refine w_iload dX3_splitSet_23 (List.Mem.tail _ (List.Mem.tail _ (List.Mem.tail _ (List.Mem.tail _ (List.Mem.head _))))) ?_
      refine w_ishl dX3_splitSet_25 ?_
      refine w_ixor dX3_splitSet_26 ?_
      refine top_i (fun z7 ez8 => ?_)
      replace h := h z7 ez8
      refine w_istore (l' := [(5, .int z7), (0, .ref 22), (1, .int x1), (2, .int x2), (3, .int x3), (4, .int x4)]) dX3_splitSet_27 (by decide) rfl ?_
      refine w_aload_n dX3_splitSet_29 rfl (List.Mem.tail _ (List.Mem.head _)) ?_
      refine w_getR (ci := 3) (k := 1) (b := 24) dX3_splitSet_30 fl_3_15 (by decide) (gT hG rfl (lt_of rfl)) (gR hG (b := 24) rfl) ?_
      refine w_iload_n dX3_splitSet_33 rfl (List.Mem.tail _ (List.Mem.tail _ (List.Mem.head _))) ?_
      refine w_aload_n dX3_splitSet_34 rfl (List.Mem.tail _ (List.Mem.head _)) ?_
      refine w_getR (ci := 3) (k := 1) (b := 24) dX3_splitSet_35 fl_3_15 (by decide) (gT hG rfl (lt_of rfl)) (gR hG (b := 24) rfl) ?_
      refine w_iload dX3_splitSet_38 (List.Mem.head _) ?_
      obtain ⟨h9, h⟩ := h
      refine x_iald (n := 256) z7.toNatClampNeg dX3_splitSet_40 (gT hG rfl (lt_of rfl)) (gL hG rfl) h9 rfl ?_
      refine w_aload_n dX3_splitSet_41 rfl (List.Mem.tail _ (List.Mem.head _)) ?_
      refine w_getR (ci := 3) (k := 0) (b := 23) dX3_splitSet_42 fl_3_9 (by decide) (gT hG rfl (lt_of rfl)) (gR hG (b := 23) rfl) ?_
      refine w_iload dX3_splitSet_45 (List.Mem.tail _ (List.Mem.tail _ (List.Mem.tail _ (List.Mem.tail _ (List.Mem.tail _ (List.Mem.head _)))))) ?_
      obtain ⟨h9, h⟩ := h
      refine x_iald (n := 8) x4.toNatClampNeg dX3_splitSet_47 (gT hG rfl (lt_of rfl)) (gL hG rfl) h9 rfl ?_
      refine w_iadd dX3_splitSet_48 ?_
      obtain ⟨h9, h⟩ := h
      refine y_iast (n := 256) x1.toNatClampNeg dX3_splitSet_49 (gT hG rfl (lt_of rfl)) (gL hG rfl) h9 rfl (fun σ9 eσ10 => ?_)
      replace h := h σ9 eσ10
      have hG11 : G σ9 u := eσ10 ▸ G.sI hG
      refine w_iload_n dX3_splitSet_50 rfl (List.Mem.tail _ (List.Mem.tail _ (List.Mem.tail _ (List.Mem.tail _ (List.Mem.head _))))) ?_
      refine w_aload_n dX3_splitSet_51 rfl (List.Mem.tail _ (List.Mem.head _)) ?_
      refine w_getR (ci := 3) (k := 2) (b := 25) dX3_splitSet_52 fl_3_18 (by decide) (gT hG11 rfl (lt_of rfl)) (gR hG11 (b := 25) rfl) ?_
      refine w_iload dX3_splitSet_55 (List.Mem.head _) ?_
      obtain ⟨h9, h⟩ := h
      refine x_iald (n := 256) z7.toNatClampNeg dX3_splitSet_57 (gT hG11 rfl (lt_of rfl)) (gL hG11 rfl) h9 rfl ?_
      refine w_mmax dX3_splitSet_58 lk_3_55 (Nat.le_of_ble_eq_true rfl) ?_
      refine top_i (fun z12 ez13 => ?_)
      replace h := h z12 ez13
      refine w_istore_n (l' := [(3, .int z12), (5, .int z7), (0, .ref 22), (1, .int x1), (2, .int x2), (4, .int x4)]) dX3_splitSet_61 rfl (by decide) rfl ?_
      refine w_iinc (v := x4 + 1) (l' := [(4, .int (x4 + 1)), (3, .int z12), (5, .int z7), (0, .ref 22), (1, .int x1), (2, .int x2)]) dX3_splitSet_62 (List.Mem.tail _ (List.Mem.tail _ (List.Mem.tail _ (List.Mem.tail _ (List.Mem.tail _ (List.Mem.head _)))))) rfl (by decide) rfl ?_
      refine w_goto (tgt := 5) dX3_splitSet_65 rfl ?_
      exact w_weak (l' := [(0, .ref 22), (1, .int x1), (2, .int x2), (3, .int z12), (4, .int (x4 + 1))]) (by intro q hq; simp only [List.mem_cons, List.not_mem_nil, or_false] at hq ⊢; rcases hq with rfl | rfl | rfl | rfl | rfl <;> simp) h
theorem dX1_take_0 : decode cX1_take 0 = .ok (.aload_n 0, 1) := by decide +kernel
theorem dX1_take_1 : decode cX1_take 1 = .ok (.getfield 32, 3) := by decide +kernel
theorem dX1_take_4 : decode cX1_take 4 = .ok (.iconst 3, 1) := by decide +kernel
theorem dX1_take_5 : decode cX1_take 5 = .ok (.if_icmp .lt 5, 3) := by decide +kernel
theorem dX1_take_8 : decode cX1_take 8 = .ok (.iconst (-1), 1) := by decide +kernel
theorem dX1_take_9 : decode cX1_take 9 = .ok (.ireturn, 1) := by decide +kernel
theorem dX1_take_10 : decode cX1_take 10 = .ok (.aload_n 0, 1) := by decide +kernel
theorem dX1_take_11 : decode cX1_take 11 = .ok (.getfield 9, 3) := by decide +kernel
theorem dX1_take_14 : decode cX1_take 14 = .ok (.aload_n 0, 1) := by decide +kernel
theorem dX1_take_15 : decode cX1_take 15 = .ok (.getfield 32, 3) := by decide +kernel
theorem dX1_take_18 : decode cX1_take 18 = .ok (.aload_n 1, 1) := by decide +kernel
theorem dX1_take_19 : decode cX1_take 19 = .ok (.getfield 36, 3) := by decide +kernel
theorem dX1_take_22 : decode cX1_take 22 = .ok (.iastore, 1) := by decide +kernel
theorem dX1_take_23 : decode cX1_take 23 = .ok (.aload_n 0, 1) := by decide +kernel
theorem dX1_take_24 : decode cX1_take 24 = .ok (.getfield 15, 3) := by decide +kernel
theorem dX1_take_27 : decode cX1_take 27 = .ok (.aload_n 0, 1) := by decide +kernel
theorem dX1_take_28 : decode cX1_take 28 = .ok (.getfield 32, 3) := by decide +kernel
theorem dX1_take_31 : decode cX1_take 31 = .ok (.aload_n 1, 1) := by decide +kernel
theorem dX1_take_32 : decode cX1_take 32 = .ok (.getfield 40, 3) := by decide +kernel
theorem dX1_take_35 : decode cX1_take 35 = .ok (.iastore, 1) := by decide +kernel
theorem dX1_take_36 : decode cX1_take 36 = .ok (.aload_n 1, 1) := by decide +kernel
theorem dX1_take_37 : decode cX1_take 37 = .ok (.getfield 42, 3) := by decide +kernel
theorem dX1_take_40 : decode cX1_take 40 = .ok (.getfield 46, 3) := by decide +kernel
theorem dX1_take_43 : decode cX1_take 43 = .ok (.iconst 0, 1) := by decide +kernel
theorem dX1_take_44 : decode cX1_take 44 = .ok (.aload_n 0, 1) := by decide +kernel
theorem dX1_take_45 : decode cX1_take 45 = .ok (.getfield 20, 3) := by decide +kernel
theorem dX1_take_48 : decode cX1_take 48 = .ok (.aload_n 0, 1) := by decide +kernel
theorem dX1_take_49 : decode cX1_take 49 = .ok (.getfield 32, 3) := by decide +kernel
theorem dX1_take_52 : decode cX1_take 52 = .ok (.aaload, 1) := by decide +kernel
theorem dX1_take_53 : decode cX1_take 53 = .ok (.iconst 0, 1) := by decide +kernel
theorem dX1_take_54 : decode cX1_take 54 = .ok (.bipush 9, 2) := by decide +kernel
theorem dX1_take_56 : decode cX1_take 56 = .ok (.invokestatic 50, 3) := by decide +kernel
theorem dX1_take_59 : decode cX1_take 59 = .ok (.aload_n 1, 1) := by decide +kernel
theorem dX1_take_60 : decode cX1_take 60 = .ok (.getfield 42, 3) := by decide +kernel
theorem dX1_take_63 : decode cX1_take 63 = .ok (.getfield 56, 3) := by decide +kernel
theorem dX1_take_66 : decode cX1_take 66 = .ok (.iconst 0, 1) := by decide +kernel
theorem dX1_take_67 : decode cX1_take 67 = .ok (.aload_n 0, 1) := by decide +kernel
theorem dX1_take_68 : decode cX1_take 68 = .ok (.getfield 23, 3) := by decide +kernel
theorem dX1_take_71 : decode cX1_take 71 = .ok (.aload_n 0, 1) := by decide +kernel
theorem dX1_take_72 : decode cX1_take 72 = .ok (.getfield 32, 3) := by decide +kernel
theorem dX1_take_75 : decode cX1_take 75 = .ok (.aaload, 1) := by decide +kernel
theorem dX1_take_76 : decode cX1_take 76 = .ok (.iconst 0, 1) := by decide +kernel
theorem dX1_take_77 : decode cX1_take 77 = .ok (.bipush 9, 2) := by decide +kernel
theorem dX1_take_79 : decode cX1_take 79 = .ok (.invokestatic 50, 3) := by decide +kernel
theorem dX1_take_82 : decode cX1_take 82 = .ok (.aload_n 1, 1) := by decide +kernel
theorem dX1_take_83 : decode cX1_take 83 = .ok (.getfield 42, 3) := by decide +kernel
theorem dX1_take_86 : decode cX1_take 86 = .ok (.getfield 58, 3) := by decide +kernel
theorem dX1_take_89 : decode cX1_take 89 = .ok (.iconst 0, 1) := by decide +kernel
theorem dX1_take_90 : decode cX1_take 90 = .ok (.aload_n 0, 1) := by decide +kernel
theorem dX1_take_91 : decode cX1_take 91 = .ok (.getfield 26, 3) := by decide +kernel
theorem dX1_take_94 : decode cX1_take 94 = .ok (.aload_n 0, 1) := by decide +kernel
theorem dX1_take_95 : decode cX1_take 95 = .ok (.getfield 32, 3) := by decide +kernel
theorem dX1_take_98 : decode cX1_take 98 = .ok (.aaload, 1) := by decide +kernel
theorem dX1_take_99 : decode cX1_take 99 = .ok (.iconst 0, 1) := by decide +kernel
theorem dX1_take_100 : decode cX1_take 100 = .ok (.bipush 9, 2) := by decide +kernel
theorem dX1_take_102 : decode cX1_take 102 = .ok (.invokestatic 50, 3) := by decide +kernel
theorem dX1_take_105 : decode cX1_take 105 = .ok (.aload_n 1, 1) := by decide +kernel
theorem dX1_take_106 : decode cX1_take 106 = .ok (.getfield 42, 3) := by decide +kernel
theorem dX1_take_109 : decode cX1_take 109 = .ok (.getfield 60, 3) := by decide +kernel
theorem dX1_take_112 : decode cX1_take 112 = .ok (.iconst 0, 1) := by decide +kernel
theorem dX1_take_113 : decode cX1_take 113 = .ok (.aload_n 0, 1) := by decide +kernel
theorem dX1_take_114 : decode cX1_take 114 = .ok (.getfield 29, 3) := by decide +kernel
theorem dX1_take_117 : decode cX1_take 117 = .ok (.aload_n 0, 1) := by decide +kernel
theorem dX1_take_118 : decode cX1_take 118 = .ok (.getfield 32, 3) := by decide +kernel
theorem dX1_take_121 : decode cX1_take 121 = .ok (.aaload, 1) := by decide +kernel
theorem dX1_take_122 : decode cX1_take 122 = .ok (.iconst 0, 1) := by decide +kernel
theorem dX1_take_123 : decode cX1_take 123 = .ok (.bipush 9, 2) := by decide +kernel
theorem dX1_take_125 : decode cX1_take 125 = .ok (.invokestatic 50, 3) := by decide +kernel
theorem dX1_take_128 : decode cX1_take 128 = .ok (.aload_n 0, 1) := by decide +kernel
theorem dX1_take_129 : decode cX1_take 129 = .ok (.dup, 1) := by decide +kernel
theorem dX1_take_130 : decode cX1_take 130 = .ok (.getfield 32, 3) := by decide +kernel
theorem dX1_take_133 : decode cX1_take 133 = .ok (.iconst 1, 1) := by decide +kernel
theorem dX1_take_134 : decode cX1_take 134 = .ok (.iadd, 1) := by decide +kernel
theorem dX1_take_135 : decode cX1_take 135 = .ok (.putfield 32, 3) := by decide +kernel
theorem dX1_take_138 : decode cX1_take 138 = .ok (.aload_n 0, 1) := by decide +kernel
theorem dX1_take_139 : decode cX1_take 139 = .ok (.getfield 32, 3) := by decide +kernel
theorem dX1_take_142 : decode cX1_take 142 = .ok (.ireturn, 1) := by decide +kernel
set_option maxRecDepth 10000 in
theorem v_X1_take_0 {C : aM → List Value → aH → aO → aH → Prop} {sc : Nat × (Nat → Int32)} {P : aO → aH → Prop} {σ : aH} {u : Nat} {v : Nat}  (hG : G σ u) (hv : IsMk v)
    (h : (((gI σ 3 6) < 3 → (vp_in (gI σ 3 6) 3 ∧ (∀ σ1 : aH, sI σ 4 ((gI σ 3 6).toNatClampNeg) (gI σ v 8) = σ1 → (vp_in (gI σ1 3 6) 3 ∧ (∀ σ4 : aH, sI σ1 5 ((gI σ1 3 6).toNatClampNeg) (gI σ1 v 9) = σ4 → (vp_in (gI σ4 3 6) 3 ∧ (∀ σ8 : aH, sRow σ4 (7 + ((gI σ4 3 6).toNatClampNeg)) (va_cpy (gI σ4 (v + 2)) (gI σ4 (7 + ((gI σ4 3 6).toNatClampNeg))) 0 0 9) = σ8 → (vp_in (gI σ8 3 6) 3 ∧ (∀ σ12 : aH, sRow σ8 (11 + ((gI σ8 3 6).toNatClampNeg)) (va_cpy (gI σ8 (v + 3)) (gI σ8 (11 + ((gI σ8 3 6).toNatClampNeg))) 0 0 9) = σ12 → (vp_in (gI σ12 3 6) 3 ∧ (∀ σ16 : aH, sRow σ12 (15 + ((gI σ12 3 6).toNatClampNeg)) (va_cpy (gI σ12 (v + 4)) (gI σ12 (15 + ((gI σ12 3 6).toNatClampNeg))) 0 0 9) = σ16 → (vp_in (gI σ16 3 6) 3 ∧ (∀ σ20 : aH, sRow σ16 (19 + ((gI σ16 3 6).toNatClampNeg)) (va_cpy (gI σ16 (v + 9)) (gI σ16 (19 + ((gI σ16 3 6).toNatClampNeg))) 0 0 9) = σ20 → (∀ σ23 : aH, sI σ20 3 6 ((gI σ20 3 6) + 1) = σ23 → P (.inl (some (.int (gI σ23 3 6)))) σ23)))))))))))))) ∧ (¬ ((gI σ 3 6) < 3) → P (.inl (some (.int (-1)))) σ))) :
    wp C 1 cX1_take 2 (some .int) false [] sc P 0 [(0, .ref 3), (1, .ref v)] [] σ := by
  refine w_aload_n dX1_take_0 rfl (List.Mem.head _) ?_
  refine w_getI (ci := 1) (k := 6) dX1_take_1 fl_1_32 (by decide) (gT hG rfl (lt_of rfl)) ?_
  refine w_iconst (v := 3) dX1_take_4 (by decide) ?_
  refine w_icmp_lt (tgt := 10) dX1_take_5 rfl (fun c9 => ?_) (fun c9 => ?_)
  · replace h := h.1 c9
    refine w_aload_n dX1_take_10 rfl (List.Mem.head _) ?_
    refine w_getR (ci := 1) (k := 0) (b := 4) dX1_take_11 fl_1_9 (by decide) (gT hG rfl (lt_of rfl)) (gR hG (b := 4) rfl) ?_
    refine w_aload_n dX1_take_14 rfl (List.Mem.head _) ?_
    refine w_getI (ci := 1) (k := 6) dX1_take_15 fl_1_32 (by decide) (gT hG rfl (lt_of rfl)) ?_
    refine w_aload_n dX1_take_18 rfl (List.Mem.tail _ (List.Mem.head _)) ?_
    refine w_getI (ci := 2) (k := 8) dX1_take_19 fl_1_36 (by decide) (gT hG (IsMk_t0 hv) (IsMk_lt hv (k := 0) (by decide))) ?_
    obtain ⟨h9, h⟩ := h
    refine y_iast (n := 3) ((gI σ 3 6).toNatClampNeg) dX1_take_22 (gT hG rfl (lt_of rfl)) (gL hG rfl) h9 rfl (fun σ1 eσ2 => ?_)
    replace h := h σ1 eσ2
    have hG3 : G σ1 u := eσ2 ▸ G.sI hG
    refine w_aload_n dX1_take_23 rfl (List.Mem.head _) ?_
    refine w_getR (ci := 1) (k := 1) (b := 5) dX1_take_24 fl_1_15 (by decide) (gT hG3 rfl (lt_of rfl)) (gR hG3 (b := 5) rfl) ?_
    refine w_aload_n dX1_take_27 rfl (List.Mem.head _) ?_
    refine w_getI (ci := 1) (k := 6) dX1_take_28 fl_1_32 (by decide) (gT hG3 rfl (lt_of rfl)) ?_
    refine w_aload_n dX1_take_31 rfl (List.Mem.tail _ (List.Mem.head _)) ?_
    refine w_getI (ci := 2) (k := 9) dX1_take_32 fl_1_40 (by decide) (gT hG3 (IsMk_t0 hv) (IsMk_lt hv (k := 0) (by decide))) ?_
    obtain ⟨h9, h⟩ := h
    refine y_iast (n := 3) ((gI σ1 3 6).toNatClampNeg) dX1_take_35 (gT hG3 rfl (lt_of rfl)) (gL hG3 rfl) h9 rfl (fun σ4 eσ5 => ?_)
    replace h := h σ4 eσ5
    have hG6 : G σ4 u := eσ5 ▸ G.sI hG3
    refine w_aload_n dX1_take_36 rfl (List.Mem.tail _ (List.Mem.head _)) ?_
    refine w_getR (ci := 2) (k := 0) (b := (v + 1)) dX1_take_37 fl_1_42 (by decide) (gT hG6 (IsMk_t0 hv) (IsMk_lt hv (k := 0) (by decide))) (gR hG6 (IsMk_r0_0 hv)) ?_
    refine w_getR (ci := 7) (k := 0) (b := (v + 2)) dX1_take_40 fl_1_46 (by decide) (gT hG6 (IsMk_t1 hv) (IsMk_lt hv (k := 1) (by decide))) (gR hG6 (IsMk_r1_0 hv)) ?_
    refine w_iconst (v := 0) dX1_take_43 (by decide) ?_
    refine w_aload_n dX1_take_44 rfl (List.Mem.head _) ?_
    refine w_getR (ci := 1) (k := 2) (b := 6) dX1_take_45 fl_1_20 (by decide) (gT hG6 rfl (lt_of rfl)) (gR hG6 (b := 6) rfl) ?_
    refine w_aload_n dX1_take_48 rfl (List.Mem.head _) ?_
    refine w_getI (ci := 1) (k := 6) dX1_take_49 fl_1_32 (by decide) (gT hG6 rfl (lt_of rfl)) ?_
    obtain ⟨h9, h⟩ := h
    have hj7 := vin_lt h9
    refine x_aald (n := 3) (b := (7 + ((gI σ4 3 6).toNatClampNeg))) dX1_take_52 (gT hG6 rfl (lt_of rfl)) (gL hG6 rfl) h9 (gR hG6 (rr_6 hj7)) ?_
    refine w_iconst (v := 0) dX1_take_53 (by decide) ?_
    refine w_bipush (v := 9) dX1_take_54 (by decide) ?_
    refine y_copy dX1_take_56 lk_1_50 (Nat.le_of_ble_eq_true rfl) (gT hG6 (IsMk_t2 hv) (IsMk_lt hv (k := 2) (by decide))) (gT hG6 (ro_6 _ hj7).1 (by have := hj7; omega)) (gL hG6 (IsMk_n2 hv)) (gL hG6 (ro_6 _ hj7).2) (by decide) (fun σ8 eσ9 => ?_)
    replace h := h σ8 eσ9
    have hG10 : G σ8 u := eσ9 ▸ G.sRow hG6
    refine w_aload_n dX1_take_59 rfl (List.Mem.tail _ (List.Mem.head _)) ?_
    refine w_getR (ci := 2) (k := 0) (b := (v + 1)) dX1_take_60 fl_1_42 (by decide) (gT hG10 (IsMk_t0 hv) (IsMk_lt hv (k := 0) (by decide))) (gR hG10 (IsMk_r0_0 hv)) ?_
    refine w_getR (ci := 7) (k := 1) (b := (v + 3)) dX1_take_63 fl_1_56 (by decide) (gT hG10 (IsMk_t1 hv) (IsMk_lt hv (k := 1) (by decide))) (gR hG10 (IsMk_r1_1 hv)) ?_
    refine w_iconst (v := 0) dX1_take_66 (by decide) ?_
    refine w_aload_n dX1_take_67 rfl (List.Mem.head _) ?_
    refine w_getR (ci := 1) (k := 3) (b := 10) dX1_take_68 fl_1_23 (by decide) (gT hG10 rfl (lt_of rfl)) (gR hG10 (b := 10) rfl) ?_
    refine w_aload_n dX1_take_71 rfl (List.Mem.head _) ?_
    refine w_getI (ci := 1) (k := 6) dX1_take_72 fl_1_32 (by decide) (gT hG10 rfl (lt_of rfl)) ?_
    obtain ⟨h9, h⟩ := h
    have hj11 := vin_lt h9
    refine x_aald (n := 3) (b := (11 + ((gI σ8 3 6).toNatClampNeg))) dX1_take_75 (gT hG10 rfl (lt_of rfl)) (gL hG10 rfl) h9 (gR hG10 (rr_10 hj11)) ?_
    refine w_iconst (v := 0) dX1_take_76 (by decide) ?_
    refine w_bipush (v := 9) dX1_take_77 (by decide) ?_
    refine y_copy dX1_take_79 lk_1_50 (Nat.le_of_ble_eq_true rfl) (gT hG10 (IsMk_t3 hv) (IsMk_lt hv (k := 3) (by decide))) (gT hG10 (ro_10 _ hj11).1 (by have := hj11; omega)) (gL hG10 (IsMk_n3 hv)) (gL hG10 (ro_10 _ hj11).2) (by decide) (fun σ12 eσ13 => ?_)
    replace h := h σ12 eσ13
    have hG14 : G σ12 u := eσ13 ▸ G.sRow hG10
    refine w_aload_n dX1_take_82 rfl (List.Mem.tail _ (List.Mem.head _)) ?_
    refine w_getR (ci := 2) (k := 0) (b := (v + 1)) dX1_take_83 fl_1_42 (by decide) (gT hG14 (IsMk_t0 hv) (IsMk_lt hv (k := 0) (by decide))) (gR hG14 (IsMk_r0_0 hv)) ?_
    refine w_getR (ci := 7) (k := 2) (b := (v + 4)) dX1_take_86 fl_1_58 (by decide) (gT hG14 (IsMk_t1 hv) (IsMk_lt hv (k := 1) (by decide))) (gR hG14 (IsMk_r1_2 hv)) ?_
    refine w_iconst (v := 0) dX1_take_89 (by decide) ?_
    refine w_aload_n dX1_take_90 rfl (List.Mem.head _) ?_
    refine w_getR (ci := 1) (k := 4) (b := 14) dX1_take_91 fl_1_26 (by decide) (gT hG14 rfl (lt_of rfl)) (gR hG14 (b := 14) rfl) ?_
    refine w_aload_n dX1_take_94 rfl (List.Mem.head _) ?_
    refine w_getI (ci := 1) (k := 6) dX1_take_95 fl_1_32 (by decide) (gT hG14 rfl (lt_of rfl)) ?_
    obtain ⟨h9, h⟩ := h
    have hj15 := vin_lt h9
    refine x_aald (n := 3) (b := (15 + ((gI σ12 3 6).toNatClampNeg))) dX1_take_98 (gT hG14 rfl (lt_of rfl)) (gL hG14 rfl) h9 (gR hG14 (rr_14 hj15)) ?_
    refine w_iconst (v := 0) dX1_take_99 (by decide) ?_
    refine w_bipush (v := 9) dX1_take_100 (by decide) ?_
    refine y_copy dX1_take_102 lk_1_50 (Nat.le_of_ble_eq_true rfl) (gT hG14 (IsMk_t4 hv) (IsMk_lt hv (k := 4) (by decide))) (gT hG14 (ro_14 _ hj15).1 (by have := hj15; omega)) (gL hG14 (IsMk_n4 hv)) (gL hG14 (ro_14 _ hj15).2) (by decide) (fun σ16 eσ17 => ?_)
    replace h := h σ16 eσ17
    have hG18 : G σ16 u := eσ17 ▸ G.sRow hG14
    refine w_aload_n dX1_take_105 rfl (List.Mem.tail _ (List.Mem.head _)) ?_
    refine w_getR (ci := 2) (k := 0) (b := (v + 1)) dX1_take_106 fl_1_42 (by decide) (gT hG18 (IsMk_t0 hv) (IsMk_lt hv (k := 0) (by decide))) (gR hG18 (IsMk_r0_0 hv)) ?_
    refine w_getR (ci := 7) (k := 7) (b := (v + 9)) dX1_take_109 fl_1_60 (by decide) (gT hG18 (IsMk_t1 hv) (IsMk_lt hv (k := 1) (by decide))) (gR hG18 (IsMk_r1_7 hv)) ?_
    refine w_iconst (v := 0) dX1_take_112 (by decide) ?_
    refine w_aload_n dX1_take_113 rfl (List.Mem.head _) ?_
    refine w_getR (ci := 1) (k := 5) (b := 18) dX1_take_114 fl_1_29 (by decide) (gT hG18 rfl (lt_of rfl)) (gR hG18 (b := 18) rfl) ?_
    refine w_aload_n dX1_take_117 rfl (List.Mem.head _) ?_
    refine w_getI (ci := 1) (k := 6) dX1_take_118 fl_1_32 (by decide) (gT hG18 rfl (lt_of rfl)) ?_
    obtain ⟨h9, h⟩ := h
    have hj19 := vin_lt h9
    refine x_aald (n := 3) (b := (19 + ((gI σ16 3 6).toNatClampNeg))) dX1_take_121 (gT hG18 rfl (lt_of rfl)) (gL hG18 rfl) h9 (gR hG18 (rr_18 hj19)) ?_
    refine w_iconst (v := 0) dX1_take_122 (by decide) ?_
    refine w_bipush (v := 9) dX1_take_123 (by decide) ?_
    refine y_copy dX1_take_125 lk_1_50 (Nat.le_of_ble_eq_true rfl) (gT hG18 (IsMk_t9 hv) (IsMk_lt hv (k := 9) (by decide))) (gT hG18 (ro_18 _ hj19).1 (by have := hj19; omega)) (gL hG18 (IsMk_n9 hv)) (gL hG18 (ro_18 _ hj19).2) (by decide) (fun σ20 eσ21 => ?_)
    replace h := h σ20 eσ21
    have hG22 : G σ20 u := eσ21 ▸ G.sRow hG18
    refine w_aload_n dX1_take_128 rfl (List.Mem.head _) ?_
    refine w_dup dX1_take_129 rfl ?_
    refine w_getI (ci := 1) (k := 6) dX1_take_130 fl_1_32 (by decide) (gT hG22 rfl (lt_of rfl)) ?_
    refine w_iconst (v := 1) dX1_take_133 (by decide) ?_
    refine w_iadd dX1_take_134 ?_
    refine y_putI (ci := 1) (k := 6) dX1_take_135 fl_1_32 (by decide) (gT hG22 rfl (lt_of rfl)) (fun σ23 eσ24 => ?_)
    replace h := h σ23 eσ24
    have hG25 : G σ23 u := eσ24 ▸ G.sI hG22
    refine w_aload_n dX1_take_138 rfl (List.Mem.head _) ?_
    refine w_getI (ci := 1) (k := 6) dX1_take_139 fl_1_32 (by decide) (gT hG25 rfl (lt_of rfl)) ?_
    exact w_iret dX1_take_142 rfl h
  · replace h := h.2 c9
    refine w_iconst (v := (-1)) dX1_take_8 (by decide) ?_
    exact w_iret dX1_take_9 rfl h
theorem dX1_giveBack_0 : decode cX1_giveBack 0 = .ok (.aload_n 0, 1) := by decide +kernel
theorem dX1_giveBack_1 : decode cX1_giveBack 1 = .ok (.getfield 32, 3) := by decide +kernel
theorem dX1_giveBack_4 : decode cX1_giveBack 4 = .ok (.ifCond .gt 5, 3) := by decide +kernel
theorem dX1_giveBack_7 : decode cX1_giveBack 7 = .ok (.iconst (-1), 1) := by decide +kernel
theorem dX1_giveBack_8 : decode cX1_giveBack 8 = .ok (.ireturn, 1) := by decide +kernel
theorem dX1_giveBack_9 : decode cX1_giveBack 9 = .ok (.aload_n 0, 1) := by decide +kernel
theorem dX1_giveBack_10 : decode cX1_giveBack 10 = .ok (.dup, 1) := by decide +kernel
theorem dX1_giveBack_11 : decode cX1_giveBack 11 = .ok (.getfield 32, 3) := by decide +kernel
theorem dX1_giveBack_14 : decode cX1_giveBack 14 = .ok (.iconst 1, 1) := by decide +kernel
theorem dX1_giveBack_15 : decode cX1_giveBack 15 = .ok (.isub, 1) := by decide +kernel
theorem dX1_giveBack_16 : decode cX1_giveBack 16 = .ok (.putfield 32, 3) := by decide +kernel
theorem dX1_giveBack_19 : decode cX1_giveBack 19 = .ok (.aload_n 1, 1) := by decide +kernel
theorem dX1_giveBack_20 : decode cX1_giveBack 20 = .ok (.aload_n 0, 1) := by decide +kernel
theorem dX1_giveBack_21 : decode cX1_giveBack 21 = .ok (.getfield 9, 3) := by decide +kernel
theorem dX1_giveBack_24 : decode cX1_giveBack 24 = .ok (.aload_n 0, 1) := by decide +kernel
theorem dX1_giveBack_25 : decode cX1_giveBack 25 = .ok (.getfield 32, 3) := by decide +kernel
theorem dX1_giveBack_28 : decode cX1_giveBack 28 = .ok (.iaload, 1) := by decide +kernel
theorem dX1_giveBack_29 : decode cX1_giveBack 29 = .ok (.putfield 36, 3) := by decide +kernel
theorem dX1_giveBack_32 : decode cX1_giveBack 32 = .ok (.aload_n 1, 1) := by decide +kernel
theorem dX1_giveBack_33 : decode cX1_giveBack 33 = .ok (.aload_n 0, 1) := by decide +kernel
theorem dX1_giveBack_34 : decode cX1_giveBack 34 = .ok (.getfield 15, 3) := by decide +kernel
theorem dX1_giveBack_37 : decode cX1_giveBack 37 = .ok (.aload_n 0, 1) := by decide +kernel
theorem dX1_giveBack_38 : decode cX1_giveBack 38 = .ok (.getfield 32, 3) := by decide +kernel
theorem dX1_giveBack_41 : decode cX1_giveBack 41 = .ok (.iaload, 1) := by decide +kernel
theorem dX1_giveBack_42 : decode cX1_giveBack 42 = .ok (.putfield 40, 3) := by decide +kernel
theorem dX1_giveBack_45 : decode cX1_giveBack 45 = .ok (.aload_n 0, 1) := by decide +kernel
theorem dX1_giveBack_46 : decode cX1_giveBack 46 = .ok (.getfield 20, 3) := by decide +kernel
theorem dX1_giveBack_49 : decode cX1_giveBack 49 = .ok (.aload_n 0, 1) := by decide +kernel
theorem dX1_giveBack_50 : decode cX1_giveBack 50 = .ok (.getfield 32, 3) := by decide +kernel
theorem dX1_giveBack_53 : decode cX1_giveBack 53 = .ok (.aaload, 1) := by decide +kernel
theorem dX1_giveBack_54 : decode cX1_giveBack 54 = .ok (.iconst 0, 1) := by decide +kernel
theorem dX1_giveBack_55 : decode cX1_giveBack 55 = .ok (.aload_n 1, 1) := by decide +kernel
theorem dX1_giveBack_56 : decode cX1_giveBack 56 = .ok (.getfield 42, 3) := by decide +kernel
theorem dX1_giveBack_59 : decode cX1_giveBack 59 = .ok (.getfield 46, 3) := by decide +kernel
theorem dX1_giveBack_62 : decode cX1_giveBack 62 = .ok (.iconst 0, 1) := by decide +kernel
theorem dX1_giveBack_63 : decode cX1_giveBack 63 = .ok (.bipush 9, 2) := by decide +kernel
theorem dX1_giveBack_65 : decode cX1_giveBack 65 = .ok (.invokestatic 50, 3) := by decide +kernel
theorem dX1_giveBack_68 : decode cX1_giveBack 68 = .ok (.aload_n 0, 1) := by decide +kernel
theorem dX1_giveBack_69 : decode cX1_giveBack 69 = .ok (.getfield 23, 3) := by decide +kernel
theorem dX1_giveBack_72 : decode cX1_giveBack 72 = .ok (.aload_n 0, 1) := by decide +kernel
theorem dX1_giveBack_73 : decode cX1_giveBack 73 = .ok (.getfield 32, 3) := by decide +kernel
theorem dX1_giveBack_76 : decode cX1_giveBack 76 = .ok (.aaload, 1) := by decide +kernel
theorem dX1_giveBack_77 : decode cX1_giveBack 77 = .ok (.iconst 0, 1) := by decide +kernel
theorem dX1_giveBack_78 : decode cX1_giveBack 78 = .ok (.aload_n 1, 1) := by decide +kernel
theorem dX1_giveBack_79 : decode cX1_giveBack 79 = .ok (.getfield 42, 3) := by decide +kernel
theorem dX1_giveBack_82 : decode cX1_giveBack 82 = .ok (.getfield 56, 3) := by decide +kernel
theorem dX1_giveBack_85 : decode cX1_giveBack 85 = .ok (.iconst 0, 1) := by decide +kernel
theorem dX1_giveBack_86 : decode cX1_giveBack 86 = .ok (.bipush 9, 2) := by decide +kernel
theorem dX1_giveBack_88 : decode cX1_giveBack 88 = .ok (.invokestatic 50, 3) := by decide +kernel
theorem dX1_giveBack_91 : decode cX1_giveBack 91 = .ok (.aload_n 0, 1) := by decide +kernel
theorem dX1_giveBack_92 : decode cX1_giveBack 92 = .ok (.getfield 26, 3) := by decide +kernel
theorem dX1_giveBack_95 : decode cX1_giveBack 95 = .ok (.aload_n 0, 1) := by decide +kernel
theorem dX1_giveBack_96 : decode cX1_giveBack 96 = .ok (.getfield 32, 3) := by decide +kernel
theorem dX1_giveBack_99 : decode cX1_giveBack 99 = .ok (.aaload, 1) := by decide +kernel
theorem dX1_giveBack_100 : decode cX1_giveBack 100 = .ok (.iconst 0, 1) := by decide +kernel
theorem dX1_giveBack_101 : decode cX1_giveBack 101 = .ok (.aload_n 1, 1) := by decide +kernel
theorem dX1_giveBack_102 : decode cX1_giveBack 102 = .ok (.getfield 42, 3) := by decide +kernel
theorem dX1_giveBack_105 : decode cX1_giveBack 105 = .ok (.getfield 58, 3) := by decide +kernel
theorem dX1_giveBack_108 : decode cX1_giveBack 108 = .ok (.iconst 0, 1) := by decide +kernel
theorem dX1_giveBack_109 : decode cX1_giveBack 109 = .ok (.bipush 9, 2) := by decide +kernel
theorem dX1_giveBack_111 : decode cX1_giveBack 111 = .ok (.invokestatic 50, 3) := by decide +kernel
theorem dX1_giveBack_114 : decode cX1_giveBack 114 = .ok (.aload_n 0, 1) := by decide +kernel
theorem dX1_giveBack_115 : decode cX1_giveBack 115 = .ok (.getfield 29, 3) := by decide +kernel
theorem dX1_giveBack_118 : decode cX1_giveBack 118 = .ok (.aload_n 0, 1) := by decide +kernel
theorem dX1_giveBack_119 : decode cX1_giveBack 119 = .ok (.getfield 32, 3) := by decide +kernel
theorem dX1_giveBack_122 : decode cX1_giveBack 122 = .ok (.aaload, 1) := by decide +kernel
theorem dX1_giveBack_123 : decode cX1_giveBack 123 = .ok (.iconst 0, 1) := by decide +kernel
theorem dX1_giveBack_124 : decode cX1_giveBack 124 = .ok (.aload_n 1, 1) := by decide +kernel
theorem dX1_giveBack_125 : decode cX1_giveBack 125 = .ok (.getfield 42, 3) := by decide +kernel
theorem dX1_giveBack_128 : decode cX1_giveBack 128 = .ok (.getfield 60, 3) := by decide +kernel
theorem dX1_giveBack_131 : decode cX1_giveBack 131 = .ok (.iconst 0, 1) := by decide +kernel
theorem dX1_giveBack_132 : decode cX1_giveBack 132 = .ok (.bipush 9, 2) := by decide +kernel
theorem dX1_giveBack_134 : decode cX1_giveBack 134 = .ok (.invokestatic 50, 3) := by decide +kernel
theorem dX1_giveBack_137 : decode cX1_giveBack 137 = .ok (.aload_n 0, 1) := by decide +kernel
theorem dX1_giveBack_138 : decode cX1_giveBack 138 = .ok (.getfield 32, 3) := by decide +kernel
theorem dX1_giveBack_141 : decode cX1_giveBack 141 = .ok (.ireturn, 1) := by decide +kernel
set_option maxRecDepth 10000 in
theorem v_X1_giveBack_0 {C : aM → List Value → aH → aO → aH → Prop} {sc : Nat × (Nat → Int32)} {P : aO → aH → Prop} {σ : aH} {u : Nat} {v : Nat}  (hG : G σ u) (hv : IsMk v)
    (h : ((0 < (gI σ 3 6) → (∀ σ1 : aH, sI σ 3 6 ((gI σ 3 6) - 1) = σ1 → (vp_in (gI σ1 3 6) 3 ∧ (∀ σ4 : aH, sI σ1 v 8 (gI σ1 4 ((gI σ1 3 6).toNatClampNeg)) = σ4 → (vp_in (gI σ4 3 6) 3 ∧ (∀ σ7 : aH, sI σ4 v 9 (gI σ4 5 ((gI σ4 3 6).toNatClampNeg)) = σ7 → (vp_in (gI σ7 3 6) 3 ∧ (∀ σ11 : aH, sRow σ7 (v + 2) (va_cpy (gI σ7 (7 + ((gI σ7 3 6).toNatClampNeg))) (gI σ7 (v + 2)) 0 0 9) = σ11 → (vp_in (gI σ11 3 6) 3 ∧ (∀ σ15 : aH, sRow σ11 (v + 3) (va_cpy (gI σ11 (11 + ((gI σ11 3 6).toNatClampNeg))) (gI σ11 (v + 3)) 0 0 9) = σ15 → (vp_in (gI σ15 3 6) 3 ∧ (∀ σ19 : aH, sRow σ15 (v + 4) (va_cpy (gI σ15 (15 + ((gI σ15 3 6).toNatClampNeg))) (gI σ15 (v + 4)) 0 0 9) = σ19 → (vp_in (gI σ19 3 6) 3 ∧ (∀ σ23 : aH, sRow σ19 (v + 9) (va_cpy (gI σ19 (19 + ((gI σ19 3 6).toNatClampNeg))) (gI σ19 (v + 9)) 0 0 9) = σ23 → P (.inl (some (.int (gI σ23 3 6)))) σ23)))))))))))))) ∧ (¬ (0 < (gI σ 3 6)) → P (.inl (some (.int (-1)))) σ))) :
    wp C 1 cX1_giveBack 2 (some .int) false [] sc P 0 [(0, .ref 3), (1, .ref v)] [] σ := by
  refine w_aload_n dX1_giveBack_0 rfl (List.Mem.head _) ?_
  refine w_getI (ci := 1) (k := 6) dX1_giveBack_1 fl_1_32 (by decide) (gT hG rfl (lt_of rfl)) ?_
  refine w_if_gt (tgt := 9) dX1_giveBack_4 rfl (fun c9 => ?_) (fun c9 => ?_)
  · replace h := h.1 c9
    refine w_aload_n dX1_giveBack_9 rfl (List.Mem.head _) ?_
    refine w_dup dX1_giveBack_10 rfl ?_
    refine w_getI (ci := 1) (k := 6) dX1_giveBack_11 fl_1_32 (by decide) (gT hG rfl (lt_of rfl)) ?_
    refine w_iconst (v := 1) dX1_giveBack_14 (by decide) ?_
    refine w_isub dX1_giveBack_15 ?_
    refine y_putI (ci := 1) (k := 6) dX1_giveBack_16 fl_1_32 (by decide) (gT hG rfl (lt_of rfl)) (fun σ1 eσ2 => ?_)
    replace h := h σ1 eσ2
    have hG3 : G σ1 u := eσ2 ▸ G.sI hG
    refine w_aload_n dX1_giveBack_19 rfl (List.Mem.tail _ (List.Mem.head _)) ?_
    refine w_aload_n dX1_giveBack_20 rfl (List.Mem.head _) ?_
    refine w_getR (ci := 1) (k := 0) (b := 4) dX1_giveBack_21 fl_1_9 (by decide) (gT hG3 rfl (lt_of rfl)) (gR hG3 (b := 4) rfl) ?_
    refine w_aload_n dX1_giveBack_24 rfl (List.Mem.head _) ?_
    refine w_getI (ci := 1) (k := 6) dX1_giveBack_25 fl_1_32 (by decide) (gT hG3 rfl (lt_of rfl)) ?_
    obtain ⟨h9, h⟩ := h
    refine x_iald (n := 3) ((gI σ1 3 6).toNatClampNeg) dX1_giveBack_28 (gT hG3 rfl (lt_of rfl)) (gL hG3 rfl) h9 rfl ?_
    refine y_putI (ci := 2) (k := 8) dX1_giveBack_29 fl_1_36 (by decide) (gT hG3 (IsMk_t0 hv) (IsMk_lt hv (k := 0) (by decide))) (fun σ4 eσ5 => ?_)
    replace h := h σ4 eσ5
    have hG6 : G σ4 u := eσ5 ▸ G.sI hG3
    refine w_aload_n dX1_giveBack_32 rfl (List.Mem.tail _ (List.Mem.head _)) ?_
    refine w_aload_n dX1_giveBack_33 rfl (List.Mem.head _) ?_
    refine w_getR (ci := 1) (k := 1) (b := 5) dX1_giveBack_34 fl_1_15 (by decide) (gT hG6 rfl (lt_of rfl)) (gR hG6 (b := 5) rfl) ?_
    refine w_aload_n dX1_giveBack_37 rfl (List.Mem.head _) ?_
    refine w_getI (ci := 1) (k := 6) dX1_giveBack_38 fl_1_32 (by decide) (gT hG6 rfl (lt_of rfl)) ?_
    obtain ⟨h9, h⟩ := h
    refine x_iald (n := 3) ((gI σ4 3 6).toNatClampNeg) dX1_giveBack_41 (gT hG6 rfl (lt_of rfl)) (gL hG6 rfl) h9 rfl ?_
    refine y_putI (ci := 2) (k := 9) dX1_giveBack_42 fl_1_40 (by decide) (gT hG6 (IsMk_t0 hv) (IsMk_lt hv (k := 0) (by decide))) (fun σ7 eσ8 => ?_)
    replace h := h σ7 eσ8
    have hG9 : G σ7 u := eσ8 ▸ G.sI hG6
    refine w_aload_n dX1_giveBack_45 rfl (List.Mem.head _) ?_
    refine w_getR (ci := 1) (k := 2) (b := 6) dX1_giveBack_46 fl_1_20 (by decide) (gT hG9 rfl (lt_of rfl)) (gR hG9 (b := 6) rfl) ?_
    refine w_aload_n dX1_giveBack_49 rfl (List.Mem.head _) ?_
    refine w_getI (ci := 1) (k := 6) dX1_giveBack_50 fl_1_32 (by decide) (gT hG9 rfl (lt_of rfl)) ?_
    obtain ⟨h9, h⟩ := h
    have hj10 := vin_lt h9
    refine x_aald (n := 3) (b := (7 + ((gI σ7 3 6).toNatClampNeg))) dX1_giveBack_53 (gT hG9 rfl (lt_of rfl)) (gL hG9 rfl) h9 (gR hG9 (rr_6 hj10)) ?_
    refine w_iconst (v := 0) dX1_giveBack_54 (by decide) ?_
    refine w_aload_n dX1_giveBack_55 rfl (List.Mem.tail _ (List.Mem.head _)) ?_
    refine w_getR (ci := 2) (k := 0) (b := (v + 1)) dX1_giveBack_56 fl_1_42 (by decide) (gT hG9 (IsMk_t0 hv) (IsMk_lt hv (k := 0) (by decide))) (gR hG9 (IsMk_r0_0 hv)) ?_
    refine w_getR (ci := 7) (k := 0) (b := (v + 2)) dX1_giveBack_59 fl_1_46 (by decide) (gT hG9 (IsMk_t1 hv) (IsMk_lt hv (k := 1) (by decide))) (gR hG9 (IsMk_r1_0 hv)) ?_
    refine w_iconst (v := 0) dX1_giveBack_62 (by decide) ?_
    refine w_bipush (v := 9) dX1_giveBack_63 (by decide) ?_
    refine y_copy dX1_giveBack_65 lk_1_50 (Nat.le_of_ble_eq_true rfl) (gT hG9 (ro_6 _ hj10).1 (by have := hj10; omega)) (gT hG9 (IsMk_t2 hv) (IsMk_lt hv (k := 2) (by decide))) (gL hG9 (ro_6 _ hj10).2) (gL hG9 (IsMk_n2 hv)) (by decide) (fun σ11 eσ12 => ?_)
    replace h := h σ11 eσ12
    have hG13 : G σ11 u := eσ12 ▸ G.sRow hG9
    refine w_aload_n dX1_giveBack_68 rfl (List.Mem.head _) ?_
    refine w_getR (ci := 1) (k := 3) (b := 10) dX1_giveBack_69 fl_1_23 (by decide) (gT hG13 rfl (lt_of rfl)) (gR hG13 (b := 10) rfl) ?_
    refine w_aload_n dX1_giveBack_72 rfl (List.Mem.head _) ?_
    refine w_getI (ci := 1) (k := 6) dX1_giveBack_73 fl_1_32 (by decide) (gT hG13 rfl (lt_of rfl)) ?_
    obtain ⟨h9, h⟩ := h
    have hj14 := vin_lt h9
    refine x_aald (n := 3) (b := (11 + ((gI σ11 3 6).toNatClampNeg))) dX1_giveBack_76 (gT hG13 rfl (lt_of rfl)) (gL hG13 rfl) h9 (gR hG13 (rr_10 hj14)) ?_
    refine w_iconst (v := 0) dX1_giveBack_77 (by decide) ?_
    refine w_aload_n dX1_giveBack_78 rfl (List.Mem.tail _ (List.Mem.head _)) ?_
    refine w_getR (ci := 2) (k := 0) (b := (v + 1)) dX1_giveBack_79 fl_1_42 (by decide) (gT hG13 (IsMk_t0 hv) (IsMk_lt hv (k := 0) (by decide))) (gR hG13 (IsMk_r0_0 hv)) ?_
    refine w_getR (ci := 7) (k := 1) (b := (v + 3)) dX1_giveBack_82 fl_1_56 (by decide) (gT hG13 (IsMk_t1 hv) (IsMk_lt hv (k := 1) (by decide))) (gR hG13 (IsMk_r1_1 hv)) ?_
    refine w_iconst (v := 0) dX1_giveBack_85 (by decide) ?_
    refine w_bipush (v := 9) dX1_giveBack_86 (by decide) ?_
    refine y_copy dX1_giveBack_88 lk_1_50 (Nat.le_of_ble_eq_true rfl) (gT hG13 (ro_10 _ hj14).1 (by have := hj14; omega)) (gT hG13 (IsMk_t3 hv) (IsMk_lt hv (k := 3) (by decide))) (gL hG13 (ro_10 _ hj14).2) (gL hG13 (IsMk_n3 hv)) (by decide) (fun σ15 eσ16 => ?_)
    replace h := h σ15 eσ16
    have hG17 : G σ15 u := eσ16 ▸ G.sRow hG13
    refine w_aload_n dX1_giveBack_91 rfl (List.Mem.head _) ?_
    refine w_getR (ci := 1) (k := 4) (b := 14) dX1_giveBack_92 fl_1_26 (by decide) (gT hG17 rfl (lt_of rfl)) (gR hG17 (b := 14) rfl) ?_
    refine w_aload_n dX1_giveBack_95 rfl (List.Mem.head _) ?_
    refine w_getI (ci := 1) (k := 6) dX1_giveBack_96 fl_1_32 (by decide) (gT hG17 rfl (lt_of rfl)) ?_
    obtain ⟨h9, h⟩ := h
    have hj18 := vin_lt h9
    refine x_aald (n := 3) (b := (15 + ((gI σ15 3 6).toNatClampNeg))) dX1_giveBack_99 (gT hG17 rfl (lt_of rfl)) (gL hG17 rfl) h9 (gR hG17 (rr_14 hj18)) ?_
    refine w_iconst (v := 0) dX1_giveBack_100 (by decide) ?_
    refine w_aload_n dX1_giveBack_101 rfl (List.Mem.tail _ (List.Mem.head _)) ?_
    refine w_getR (ci := 2) (k := 0) (b := (v + 1)) dX1_giveBack_102 fl_1_42 (by decide) (gT hG17 (IsMk_t0 hv) (IsMk_lt hv (k := 0) (by decide))) (gR hG17 (IsMk_r0_0 hv)) ?_
    refine w_getR (ci := 7) (k := 2) (b := (v + 4)) dX1_giveBack_105 fl_1_58 (by decide) (gT hG17 (IsMk_t1 hv) (IsMk_lt hv (k := 1) (by decide))) (gR hG17 (IsMk_r1_2 hv)) ?_
    refine w_iconst (v := 0) dX1_giveBack_108 (by decide) ?_
    refine w_bipush (v := 9) dX1_giveBack_109 (by decide) ?_
    refine y_copy dX1_giveBack_111 lk_1_50 (Nat.le_of_ble_eq_true rfl) (gT hG17 (ro_14 _ hj18).1 (by have := hj18; omega)) (gT hG17 (IsMk_t4 hv) (IsMk_lt hv (k := 4) (by decide))) (gL hG17 (ro_14 _ hj18).2) (gL hG17 (IsMk_n4 hv)) (by decide) (fun σ19 eσ20 => ?_)
    replace h := h σ19 eσ20
    have hG21 : G σ19 u := eσ20 ▸ G.sRow hG17
    refine w_aload_n dX1_giveBack_114 rfl (List.Mem.head _) ?_
    refine w_getR (ci := 1) (k := 5) (b := 18) dX1_giveBack_115 fl_1_29 (by decide) (gT hG21 rfl (lt_of rfl)) (gR hG21 (b := 18) rfl) ?_
    refine w_aload_n dX1_giveBack_118 rfl (List.Mem.head _) ?_
    refine w_getI (ci := 1) (k := 6) dX1_giveBack_119 fl_1_32 (by decide) (gT hG21 rfl (lt_of rfl)) ?_
    obtain ⟨h9, h⟩ := h
    have hj22 := vin_lt h9
    refine x_aald (n := 3) (b := (19 + ((gI σ19 3 6).toNatClampNeg))) dX1_giveBack_122 (gT hG21 rfl (lt_of rfl)) (gL hG21 rfl) h9 (gR hG21 (rr_18 hj22)) ?_
    refine w_iconst (v := 0) dX1_giveBack_123 (by decide) ?_
    refine w_aload_n dX1_giveBack_124 rfl (List.Mem.tail _ (List.Mem.head _)) ?_
    refine w_getR (ci := 2) (k := 0) (b := (v + 1)) dX1_giveBack_125 fl_1_42 (by decide) (gT hG21 (IsMk_t0 hv) (IsMk_lt hv (k := 0) (by decide))) (gR hG21 (IsMk_r0_0 hv)) ?_
    refine w_getR (ci := 7) (k := 7) (b := (v + 9)) dX1_giveBack_128 fl_1_60 (by decide) (gT hG21 (IsMk_t1 hv) (IsMk_lt hv (k := 1) (by decide))) (gR hG21 (IsMk_r1_7 hv)) ?_
    refine w_iconst (v := 0) dX1_giveBack_131 (by decide) ?_
    refine w_bipush (v := 9) dX1_giveBack_132 (by decide) ?_
    refine y_copy dX1_giveBack_134 lk_1_50 (Nat.le_of_ble_eq_true rfl) (gT hG21 (ro_18 _ hj22).1 (by have := hj22; omega)) (gT hG21 (IsMk_t9 hv) (IsMk_lt hv (k := 9) (by decide))) (gL hG21 (ro_18 _ hj22).2) (gL hG21 (IsMk_n9 hv)) (by decide) (fun σ23 eσ24 => ?_)
    replace h := h σ23 eσ24
    have hG25 : G σ23 u := eσ24 ▸ G.sRow hG21
    refine w_aload_n dX1_giveBack_137 rfl (List.Mem.head _) ?_
    refine w_getI (ci := 1) (k := 6) dX1_giveBack_138 fl_1_32 (by decide) (gT hG25 rfl (lt_of rfl)) ?_
    exact w_iret dX1_giveBack_141 rfl h
  · replace h := h.2 c9
    refine w_iconst (v := (-1)) dX1_giveBack_7 (by decide) ?_
    exact w_iret dX1_giveBack_8 rfl h
