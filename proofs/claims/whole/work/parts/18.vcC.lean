theorem dX6_costsOf_0 : decode cX6_costsOf 0 = .ok (.aload_n 0, 1) := by decide +kernel
theorem dX6_costsOf_1 : decode cX6_costsOf 1 = .ok (.getfield 34, 3) := by decide +kernel
theorem dX6_costsOf_4 : decode cX6_costsOf 4 = .ok (.aload_n 0, 1) := by decide +kernel
theorem dX6_costsOf_5 : decode cX6_costsOf 5 = .ok (.getfield 21, 3) := by decide +kernel
theorem dX6_costsOf_8 : decode cX6_costsOf 8 = .ok (.iload_n 1, 1) := by decide +kernel
theorem dX6_costsOf_9 : decode cX6_costsOf 9 = .ok (.iload_n 2, 1) := by decide +kernel
theorem dX6_costsOf_10 : decode cX6_costsOf 10 = .ok (.invokevirtual 38, 3) := by decide +kernel
theorem dX6_costsOf_13 : decode cX6_costsOf 13 = .ok (.aload_n 0, 1) := by decide +kernel
theorem dX6_costsOf_14 : decode cX6_costsOf 14 = .ok (.getfield 21, 3) := by decide +kernel
theorem dX6_costsOf_17 : decode cX6_costsOf 17 = .ok (.areturn, 1) := by decide +kernel
set_option maxRecDepth 10000 in
theorem t_X6_costsOf {sc : Nat × (Nat → Int32)} {d : Nat} {Q : aO → aH → Prop} {σ : aH} {u : Nat}  {x1 : Int} {x2 : Int} (hG : G σ u) (rx1 : inR x1) (rx2 : inR x2)
    (h : (∃ σ1 : aH, Ev sc d mX2_weighCosts [.ref u, .ref 34, .int (nZ x1), .int (nZ x2)] σ (.inl none) σ1 ∧ G σ1 u ∧ Q (.inl (some (.ref 34))) σ1)) :
    T sc (d + 1) mX6_costsOf [.ref 27, .int (nZ x1), .int (nZ x2)] σ Q := by
  refine T.of (c := 6) (code := cX6_costsOf) (mL := 3) (rt := (some (.object "ShadeLedger$Weights"))) (ini := false) (l := [(0, .ref 27), (1, .int (nZ x1)), (2, .int (nZ x2))]) rfl rfl rfl rfl (by decide) hs_X6_costsOf rfl rfl ?_
  refine w_aload_n dX6_costsOf_0 rfl (List.Mem.head _) ?_
  refine w_getM (ci := 6) (k := 5) (b := u) dX6_costsOf_1 fl_6_34 (by decide) (gT hG rfl (lt_of rfl)) hG.2.2.2.1 ?_
  refine w_aload_n dX6_costsOf_4 rfl (List.Mem.head _) ?_
  refine w_getR (ci := 6) (k := 2) (b := 34) dX6_costsOf_5 fl_6_21 (by decide) (gT hG rfl (lt_of rfl)) (gR hG (b := 34) rfl) ?_
  refine w_iload_n dX6_costsOf_8 rfl (List.Mem.tail _ (List.Mem.head _)) ?_
  refine w_iload_n dX6_costsOf_9 rfl (List.Mem.tail _ (List.Mem.tail _ (List.Mem.head _))) ?_
  obtain ⟨σ1, hc3, hG2, h⟩ := h
  refine w_callV dX6_costsOf_10 ml_6_38 ⟨ok_X2_weighCosts, vi_X2_weighCosts⟩ hs_X2_weighCosts (As := [.ref 34, .int (nZ x1), .int (nZ x2)]) rfl rfl (gT hG (IsMk_t0 hG.2.2.2.2) (IsMk_lt hG.2.2.2.2 (k := 0) (by decide))) (Nat.le_of_ble_eq_true rfl) hc3 ?_
  show wp (Ev sc d) 6 cX6_costsOf 3 (some (.object "ShadeLedger$Weights")) false [] sc Q 13 [(0, .ref 27), (1, .int (nZ x1)), (2, .int (nZ x2))] [] σ1
  refine w_aload_n dX6_costsOf_13 rfl (List.Mem.head _) ?_
  refine w_getR (ci := 6) (k := 2) (b := 34) dX6_costsOf_14 fl_6_21 (by decide) (gT hG2 rfl (lt_of rfl)) (gR hG2 (b := 34) rfl) ?_
  exact w_aret dX6_costsOf_17 rfl h
theorem dX6_cellsFor_0 : decode cX6_cellsFor 0 = .ok (.iload_n 1, 1) := by decide +kernel
theorem dX6_cellsFor_1 : decode cX6_cellsFor 1 = .ok (.iload_n 2, 1) := by decide +kernel
theorem dX6_cellsFor_2 : decode cX6_cellsFor 2 = .ok (.imul, 1) := by decide +kernel
theorem dX6_cellsFor_3 : decode cX6_cellsFor 3 = .ok (.aload_n 0, 1) := by decide +kernel
theorem dX6_cellsFor_4 : decode cX6_cellsFor 4 = .ok (.getfield 34, 3) := by decide +kernel
theorem dX6_cellsFor_7 : decode cX6_cellsFor 7 = .ok (.getfield 46, 3) := by decide +kernel
theorem dX6_cellsFor_10 : decode cX6_cellsFor 10 = .ok (.iconst 1, 1) := by decide +kernel
theorem dX6_cellsFor_11 : decode cX6_cellsFor 11 = .ok (.if_icmp .ne 7, 3) := by decide +kernel
theorem dX6_cellsFor_14 : decode cX6_cellsFor 14 = .ok (.iconst 2, 1) := by decide +kernel
theorem dX6_cellsFor_15 : decode cX6_cellsFor 15 = .ok (.goto 4, 3) := by decide +kernel
theorem dX6_cellsFor_18 : decode cX6_cellsFor 18 = .ok (.iconst 1, 1) := by decide +kernel
theorem dX6_cellsFor_19 : decode cX6_cellsFor 19 = .ok (.imul, 1) := by decide +kernel
theorem dX6_cellsFor_20 : decode cX6_cellsFor 20 = .ok (.bipush 10, 2) := by decide +kernel
theorem dX6_cellsFor_22 : decode cX6_cellsFor 22 = .ok (.idiv, 1) := by decide +kernel
theorem dX6_cellsFor_23 : decode cX6_cellsFor 23 = .ok (.ireturn, 1) := by decide +kernel
set_option maxRecDepth 10000 in
theorem t_X6_cellsFor {sc : Nat × (Nat → Int32)} {d : Nat} {Q : aO → aH → Prop} {σ : aH} {u : Nat}  {x1 : Int} {x2 : Int} (hG : G σ u) (rx1 : inR x1) (rx2 : inR x2)
    (h : (inR (x1 * x2) ∧ ((¬ (rI σ u 9) = 1 → (inR ((x1 * x2) * 1) ∧ ((0 ≤ ((x1 * x2) * 1) ∧ (0 : Int) < 10) ∧ inR (((x1 * x2) * 1) / 10) ∧ Q (.inl (some (.int (nZ (((x1 * x2) * 1) / 10))))) σ))) ∧ ((rI σ u 9) = 1 → (inR ((x1 * x2) * 2) ∧ ((0 ≤ ((x1 * x2) * 2) ∧ (0 : Int) < 10) ∧ inR (((x1 * x2) * 2) / 10) ∧ Q (.inl (some (.int (nZ (((x1 * x2) * 2) / 10))))) σ)))))) :
    T sc (d + 1) mX6_cellsFor [.ref 27, .int (nZ x1), .int (nZ x2)] σ Q := by
  refine T.of (c := 6) (code := cX6_cellsFor) (mL := 3) (rt := (some .int)) (ini := false) (l := [(0, .ref 27), (1, .int (nZ x1)), (2, .int (nZ x2))]) rfl rfl rfl rfl (by decide) hs_X6_cellsFor rfl rfl ?_
  refine w_iload_n dX6_cellsFor_0 rfl (List.Mem.tail _ (List.Mem.head _)) ?_
  refine w_iload_n dX6_cellsFor_1 rfl (List.Mem.tail _ (List.Mem.tail _ (List.Mem.head _))) ?_
  obtain ⟨q1, h⟩ := h
  refine i_mul dX6_cellsFor_2 ?_
  refine w_aload_n dX6_cellsFor_3 rfl (List.Mem.head _) ?_
  refine w_getM (ci := 6) (k := 5) (b := u) dX6_cellsFor_4 fl_6_34 (by decide) (gT hG rfl (lt_of rfl)) hG.2.2.2.1 ?_
  refine i_getI (ci := 2) 9 rfl dX6_cellsFor_7 fl_6_46 (by decide) (gT hG (IsMk_t0 hG.2.2.2.2) (IsMk_lt hG.2.2.2.2 (k := 0) (by decide))) ?_
  refine w_iconst (v := nZ 1) dX6_cellsFor_10 (by decide) ?_
  refine i_cmp_ne (tgt := 18) dX6_cellsFor_11 rfl (rI_R _ _ _) (by decide) (fun c9 => ?_) (fun c9 => ?_)
  · replace h := h.1 c9
    refine w_iconst (v := nZ 1) dX6_cellsFor_18 (by decide) ?_
    obtain ⟨q2, h⟩ := h
    refine i_mul dX6_cellsFor_19 ?_
    refine w_bipush (v := nZ 10) dX6_cellsFor_20 (by decide) ?_
    obtain ⟨h9, q3, h⟩ := h
    refine i_div dX6_cellsFor_22 q2 (by decide) h9 ?_
    exact w_iret dX6_cellsFor_23 rfl h
  · replace h := h.2 c9
    refine w_iconst (v := nZ 2) dX6_cellsFor_14 (by decide) ?_
    refine w_goto (tgt := 19) dX6_cellsFor_15 rfl ?_
    obtain ⟨q4, h⟩ := h
    refine i_mul dX6_cellsFor_19 ?_
    refine w_bipush (v := nZ 10) dX6_cellsFor_20 (by decide) ?_
    obtain ⟨h9, q5, h⟩ := h
    refine i_div dX6_cellsFor_22 q4 (by decide) h9 ?_
    exact w_iret dX6_cellsFor_23 rfl h
theorem dX6_reach_0 : decode cX6_reach 0 = .ok (.aload_n 0, 1) := by decide +kernel
theorem dX6_reach_1 : decode cX6_reach 1 = .ok (.getfield 34, 3) := by decide +kernel
theorem dX6_reach_4 : decode cX6_reach 4 = .ok (.iload_n 2, 1) := by decide +kernel
theorem dX6_reach_5 : decode cX6_reach 5 = .ok (.invokevirtual 50, 3) := by decide +kernel
theorem dX6_reach_8 : decode cX6_reach 8 = .ok (.istore_n 3, 1) := by decide +kernel
theorem dX6_reach_9 : decode cX6_reach 9 = .ok (.iload_n 3, 1) := by decide +kernel
theorem dX6_reach_10 : decode cX6_reach 10 = .ok (.iconst (-1), 1) := by decide +kernel
theorem dX6_reach_11 : decode cX6_reach 11 = .ok (.if_icmp .eq 11, 3) := by decide +kernel
theorem dX6_reach_14 : decode cX6_reach 14 = .ok (.iload_n 3, 1) := by decide +kernel
theorem dX6_reach_15 : decode cX6_reach 15 = .ok (.bipush 10, 2) := by decide +kernel
theorem dX6_reach_17 : decode cX6_reach 17 = .ok (.idiv, 1) := by decide +kernel
theorem dX6_reach_18 : decode cX6_reach 18 = .ok (.iconst 4, 1) := by decide +kernel
theorem dX6_reach_19 : decode cX6_reach 19 = .ok (.if_icmp .ne 5, 3) := by decide +kernel
theorem dX6_reach_22 : decode cX6_reach 22 = .ok (.iconst 0, 1) := by decide +kernel
theorem dX6_reach_23 : decode cX6_reach 23 = .ok (.ireturn, 1) := by decide +kernel
theorem dX6_reach_24 : decode cX6_reach 24 = .ok (.aload_n 0, 1) := by decide +kernel
theorem dX6_reach_25 : decode cX6_reach 25 = .ok (.aload_n 0, 1) := by decide +kernel
theorem dX6_reach_26 : decode cX6_reach 26 = .ok (.getfield 34, 3) := by decide +kernel
theorem dX6_reach_29 : decode cX6_reach 29 = .ok (.getfield 54, 3) := by decide +kernel
theorem dX6_reach_32 : decode cX6_reach 32 = .ok (.getfield 58, 3) := by decide +kernel
theorem dX6_reach_35 : decode cX6_reach 35 = .ok (.iload_n 1, 1) := by decide +kernel
theorem dX6_reach_36 : decode cX6_reach 36 = .ok (.iaload, 1) := by decide +kernel
theorem dX6_reach_37 : decode cX6_reach 37 = .ok (.iload_n 3, 1) := by decide +kernel
theorem dX6_reach_38 : decode cX6_reach 38 = .ok (.bipush 10, 2) := by decide +kernel
theorem dX6_reach_40 : decode cX6_reach 40 = .ok (.irem, 1) := by decide +kernel
theorem dX6_reach_41 : decode cX6_reach 41 = .ok (.invokevirtual 63, 3) := by decide +kernel
theorem dX6_reach_44 : decode cX6_reach 44 = .ok (.ireturn, 1) := by decide +kernel
set_option maxRecDepth 10000 in
theorem t_X6_reach {sc : Nat × (Nat → Int32)} {d : Nat} {Q : aO → aH → Prop} {σ : aH} {u : Nat}  {x1 : Int} {x2 : Int} (hG : G σ u) (rx1 : inR x1) (rx2 : inR x2)
    (h : (∃ (r5 : Int) (σ1 : aH), Ev sc d mX2_sunAt [.ref u, .int (nZ x2)] σ (.inl (some (.int (nZ r5)))) σ1 ∧ G σ1 u ∧ inR r5 ∧ ((r5 = (-1) → Q (.inl (some (.int (nZ 0)))) σ1) ∧ (¬ (r5 = (-1)) → ((0 ≤ r5 ∧ (0 : Int) < 10) ∧ inR (r5 / 10) ∧ ((¬ (r5 / 10) = 4 → ((0 ≤ x1 ∧ x1 < 9) ∧ ((0 ≤ r5 ∧ (0 : Int) < 10) ∧ inR (r5 % 10) ∧ (∃ (r12 : Int) (σ8 : aH), Ev sc d mX6_cellsFor [.ref 27, .int (nZ (rI σ1 (u + 4) x1)), .int (nZ (r5 % 10))] σ1 (.inl (some (.int (nZ r12)))) σ8 ∧ G σ8 u ∧ inR r12 ∧ Q (.inl (some (.int (nZ r12)))) σ8)))) ∧ ((r5 / 10) = 4 → Q (.inl (some (.int (nZ 0)))) σ1))))))) :
    T sc (d + 1) mX6_reach [.ref 27, .int (nZ x1), .int (nZ x2)] σ Q := by
  refine T.of (c := 6) (code := cX6_reach) (mL := 4) (rt := (some .int)) (ini := false) (l := [(0, .ref 27), (1, .int (nZ x1)), (2, .int (nZ x2))]) rfl rfl rfl rfl (by decide) hs_X6_reach rfl rfl ?_
  refine w_aload_n dX6_reach_0 rfl (List.Mem.head _) ?_
  refine w_getM (ci := 6) (k := 5) (b := u) dX6_reach_1 fl_6_34 (by decide) (gT hG rfl (lt_of rfl)) hG.2.2.2.1 ?_
  refine w_iload_n dX6_reach_4 rfl (List.Mem.tail _ (List.Mem.tail _ (List.Mem.head _))) ?_
  obtain ⟨r5, σ1, hc3, hG2, rr4, h⟩ := h
  refine w_callV dX6_reach_5 ml_6_50 ⟨ok_X2_sunAt, vi_X2_sunAt⟩ hs_X2_sunAt (As := [.int (nZ x2)]) rfl rfl (gT hG (IsMk_t0 hG.2.2.2.2) (IsMk_lt hG.2.2.2.2 (k := 0) (by decide))) (Nat.le_of_ble_eq_true rfl) hc3 ?_
  show wp (Ev sc d) 6 cX6_reach 4 (some .int) false [] sc Q 8 [(0, .ref 27), (1, .int (nZ x1)), (2, .int (nZ x2))] [.int (nZ r5)] σ1
  refine w_istore_n (l' := [(3, .int (nZ r5)), (0, .ref 27), (1, .int (nZ x1)), (2, .int (nZ x2))]) dX6_reach_8 rfl (by decide) rfl ?_
  refine w_iload_n dX6_reach_9 rfl (List.Mem.head _) ?_
  refine w_iconst (v := nZ (-1)) dX6_reach_10 (by decide) ?_
  refine i_cmp_eq (tgt := 22) dX6_reach_11 rfl rr4 (by decide) (fun c9 => ?_) (fun c9 => ?_)
  · replace h := h.1 c9
    refine w_iconst (v := nZ 0) dX6_reach_22 (by decide) ?_
    exact w_iret dX6_reach_23 rfl h
  · replace h := h.2 c9
    refine w_iload_n dX6_reach_14 rfl (List.Mem.head _) ?_
    refine w_bipush (v := nZ 10) dX6_reach_15 (by decide) ?_
    obtain ⟨h9, q6, h⟩ := h
    refine i_div dX6_reach_17 rr4 (by decide) h9 ?_
    refine w_iconst (v := nZ 4) dX6_reach_18 (by decide) ?_
    refine i_cmp_ne (tgt := 24) dX6_reach_19 rfl q6 (by decide) (fun c9 => ?_) (fun c9 => ?_)
    · replace h := h.1 c9
      refine w_aload_n dX6_reach_24 rfl (List.Mem.tail _ (List.Mem.head _)) ?_
      refine w_aload_n dX6_reach_25 rfl (List.Mem.tail _ (List.Mem.head _)) ?_
      refine w_getM (ci := 6) (k := 5) (b := u) dX6_reach_26 fl_6_34 (by decide) (gT hG2 rfl (lt_of rfl)) hG2.2.2.2.1 ?_
      refine w_getR (ci := 2) (k := 0) (b := (u + 1)) dX6_reach_29 fl_6_54 (by decide) (gT hG2 (IsMk_t0 hG.2.2.2.2) (IsMk_lt hG.2.2.2.2 (k := 0) (by decide))) (gR hG2 (IsMk_r0_0 hG.2.2.2.2)) ?_
      refine w_getR (ci := 7) (k := 2) (b := (u + 4)) dX6_reach_32 fl_6_58 (by decide) (gT hG2 (IsMk_t1 hG.2.2.2.2) (IsMk_lt hG.2.2.2.2 (k := 1) (by decide))) (gR hG2 (IsMk_r1_2 hG.2.2.2.2)) ?_
      refine w_iload_n dX6_reach_35 rfl (List.Mem.tail _ (List.Mem.tail _ (List.Mem.head _))) ?_
      obtain ⟨h9, h⟩ := h
      refine i_iald (n := 9) dX6_reach_36 (gT hG2 (IsMk_t4 hG.2.2.2.2) (IsMk_lt hG.2.2.2.2 (k := 4) (by decide))) (gL hG2 (IsMk_n4 hG.2.2.2.2)) rx1 h9 ?_
      refine w_iload_n dX6_reach_37 rfl (List.Mem.head _) ?_
      refine w_bipush (v := nZ 10) dX6_reach_38 (by decide) ?_
      obtain ⟨h9, q7, h⟩ := h
      refine i_rem dX6_reach_40 rr4 (by decide) h9 ?_
      obtain ⟨r12, σ8, hc10, hG9, rr11, h⟩ := h
      refine w_callV dX6_reach_41 ml_6_63 ⟨ok_X6_cellsFor, vi_X6_cellsFor⟩ hs_X6_cellsFor (As := [.int (nZ (rI σ1 (u + 4) x1)), .int (nZ (r5 % 10))]) rfl rfl (gT hG2 rfl (lt_of rfl)) (Nat.le_of_ble_eq_true rfl) hc10 ?_
      show wp (Ev sc d) 6 cX6_reach 4 (some .int) false [] sc Q 44 [(3, .int (nZ r5)), (0, .ref 27), (1, .int (nZ x1)), (2, .int (nZ x2))] [.int (nZ r12)] σ8
      exact w_iret dX6_reach_44 rfl h
    · replace h := h.2 c9
      refine w_iconst (v := nZ 0) dX6_reach_22 (by decide) ?_
      exact w_iret dX6_reach_23 rfl h
theorem dX6_isInLine_0 : decode cX6_isInLine 0 = .ok (.aload_n 0, 1) := by decide +kernel
theorem dX6_isInLine_1 : decode cX6_isInLine 1 = .ok (.getfield 34, 3) := by decide +kernel
theorem dX6_isInLine_4 : decode cX6_isInLine 4 = .ok (.getfield 54, 3) := by decide +kernel
theorem dX6_isInLine_7 : decode cX6_isInLine 7 = .ok (.getfield 67, 3) := by decide +kernel
theorem dX6_isInLine_10 : decode cX6_isInLine 10 = .ok (.iload_n 2, 1) := by decide +kernel
theorem dX6_isInLine_11 : decode cX6_isInLine 11 = .ok (.iaload, 1) := by decide +kernel
theorem dX6_isInLine_12 : decode cX6_isInLine 12 = .ok (.aload_n 0, 1) := by decide +kernel
theorem dX6_isInLine_13 : decode cX6_isInLine 13 = .ok (.getfield 34, 3) := by decide +kernel
theorem dX6_isInLine_16 : decode cX6_isInLine 16 = .ok (.getfield 54, 3) := by decide +kernel
theorem dX6_isInLine_19 : decode cX6_isInLine 19 = .ok (.getfield 67, 3) := by decide +kernel
theorem dX6_isInLine_22 : decode cX6_isInLine 22 = .ok (.iload_n 1, 1) := by decide +kernel
theorem dX6_isInLine_23 : decode cX6_isInLine 23 = .ok (.iaload, 1) := by decide +kernel
theorem dX6_isInLine_24 : decode cX6_isInLine 24 = .ok (.isub, 1) := by decide +kernel
theorem dX6_isInLine_25 : decode cX6_isInLine 25 = .ok (.istore_n 3, 1) := by decide +kernel
theorem dX6_isInLine_26 : decode cX6_isInLine 26 = .ok (.aload_n 0, 1) := by decide +kernel
theorem dX6_isInLine_27 : decode cX6_isInLine 27 = .ok (.getfield 34, 3) := by decide +kernel
theorem dX6_isInLine_30 : decode cX6_isInLine 30 = .ok (.getfield 54, 3) := by decide +kernel
theorem dX6_isInLine_33 : decode cX6_isInLine 33 = .ok (.getfield 70, 3) := by decide +kernel
theorem dX6_isInLine_36 : decode cX6_isInLine 36 = .ok (.iload_n 2, 1) := by decide +kernel
theorem dX6_isInLine_37 : decode cX6_isInLine 37 = .ok (.iaload, 1) := by decide +kernel
theorem dX6_isInLine_38 : decode cX6_isInLine 38 = .ok (.aload_n 0, 1) := by decide +kernel
theorem dX6_isInLine_39 : decode cX6_isInLine 39 = .ok (.getfield 34, 3) := by decide +kernel
theorem dX6_isInLine_42 : decode cX6_isInLine 42 = .ok (.getfield 54, 3) := by decide +kernel
theorem dX6_isInLine_45 : decode cX6_isInLine 45 = .ok (.getfield 70, 3) := by decide +kernel
theorem dX6_isInLine_48 : decode cX6_isInLine 48 = .ok (.iload_n 1, 1) := by decide +kernel
theorem dX6_isInLine_49 : decode cX6_isInLine 49 = .ok (.iaload, 1) := by decide +kernel
theorem dX6_isInLine_50 : decode cX6_isInLine 50 = .ok (.isub, 1) := by decide +kernel
theorem dX6_isInLine_51 : decode cX6_isInLine 51 = .ok (.istore 4, 2) := by decide +kernel
theorem dX6_isInLine_53 : decode cX6_isInLine 53 = .ok (.iload_n 3, 1) := by decide +kernel
theorem dX6_isInLine_54 : decode cX6_isInLine 54 = .ok (.ifCond .eq 21, 3) := by decide +kernel
theorem dX6_isInLine_57 : decode cX6_isInLine 57 = .ok (.iload 4, 2) := by decide +kernel
theorem dX6_isInLine_59 : decode cX6_isInLine 59 = .ok (.ifCond .eq 16, 3) := by decide +kernel
theorem dX6_isInLine_62 : decode cX6_isInLine 62 = .ok (.iload_n 3, 1) := by decide +kernel
theorem dX6_isInLine_63 : decode cX6_isInLine 63 = .ok (.iload 4, 2) := by decide +kernel
theorem dX6_isInLine_65 : decode cX6_isInLine 65 = .ok (.if_icmp .eq 10, 3) := by decide +kernel
theorem dX6_isInLine_68 : decode cX6_isInLine 68 = .ok (.iload_n 3, 1) := by decide +kernel
theorem dX6_isInLine_69 : decode cX6_isInLine 69 = .ok (.iload 4, 2) := by decide +kernel
theorem dX6_isInLine_71 : decode cX6_isInLine 71 = .ok (.ineg, 1) := by decide +kernel
theorem dX6_isInLine_72 : decode cX6_isInLine 72 = .ok (.if_icmp .ne 7, 3) := by decide +kernel
theorem dX6_isInLine_75 : decode cX6_isInLine 75 = .ok (.iconst 1, 1) := by decide +kernel
theorem dX6_isInLine_76 : decode cX6_isInLine 76 = .ok (.goto 4, 3) := by decide +kernel
theorem dX6_isInLine_79 : decode cX6_isInLine 79 = .ok (.iconst 0, 1) := by decide +kernel
theorem dX6_isInLine_80 : decode cX6_isInLine 80 = .ok (.ireturn, 1) := by decide +kernel
set_option maxRecDepth 10000 in
theorem t_X6_isInLine {sc : Nat × (Nat → Int32)} {d : Nat} {Q : aO → aH → Prop} {σ : aH} {u : Nat}  {x1 : Int} {x2 : Int} (hG : G σ u) (rx1 : inR x1) (rx2 : inR x2)
    (h : ((0 ≤ x2 ∧ x2 < 9) ∧ ((0 ≤ x1 ∧ x1 < 9) ∧ (inR ((rI σ (u + 2) x2) - (rI σ (u + 2) x1)) ∧ (∀ z2 : Int, z2 = ((rI σ (u + 2) x2) - (rI σ (u + 2) x1)) → ((0 ≤ x2 ∧ x2 < 9) ∧ ((0 ≤ x1 ∧ x1 < 9) ∧ (inR ((rI σ (u + 3) x2) - (rI σ (u + 3) x1)) ∧ (∀ z6 : Int, z6 = ((rI σ (u + 3) x2) - (rI σ (u + 3) x1)) → ((z2 = 0 → Q (.inl (some (.int (nZ 1)))) σ) ∧ (¬ (z2 = 0) → ((z6 = 0 → Q (.inl (some (.int (nZ 1)))) σ) ∧ (¬ (z6 = 0) → ((z2 = z6 → Q (.inl (some (.int (nZ 1)))) σ) ∧ (¬ (z2 = z6) → (inR (-z6) ∧ ((¬ z2 = (-z6) → Q (.inl (some (.int (nZ 0)))) σ) ∧ (z2 = (-z6) → Q (.inl (some (.int (nZ 1)))) σ)))))))))))))))))) :
    T sc (d + 1) mX6_isInLine [.ref 27, .int (nZ x1), .int (nZ x2)] σ Q := by
  refine T.of (c := 6) (code := cX6_isInLine) (mL := 5) (rt := (some .boolean)) (ini := false) (l := [(0, .ref 27), (1, .int (nZ x1)), (2, .int (nZ x2))]) rfl rfl rfl rfl (by decide) hs_X6_isInLine rfl rfl ?_
  refine w_aload_n dX6_isInLine_0 rfl (List.Mem.head _) ?_
  refine w_getM (ci := 6) (k := 5) (b := u) dX6_isInLine_1 fl_6_34 (by decide) (gT hG rfl (lt_of rfl)) hG.2.2.2.1 ?_
  refine w_getR (ci := 2) (k := 0) (b := (u + 1)) dX6_isInLine_4 fl_6_54 (by decide) (gT hG (IsMk_t0 hG.2.2.2.2) (IsMk_lt hG.2.2.2.2 (k := 0) (by decide))) (gR hG (IsMk_r0_0 hG.2.2.2.2)) ?_
  refine w_getR (ci := 7) (k := 0) (b := (u + 2)) dX6_isInLine_7 fl_6_67 (by decide) (gT hG (IsMk_t1 hG.2.2.2.2) (IsMk_lt hG.2.2.2.2 (k := 1) (by decide))) (gR hG (IsMk_r1_0 hG.2.2.2.2)) ?_
  refine w_iload_n dX6_isInLine_10 rfl (List.Mem.tail _ (List.Mem.tail _ (List.Mem.head _))) ?_
  obtain ⟨h9, h⟩ := h
  refine i_iald (n := 9) dX6_isInLine_11 (gT hG (IsMk_t2 hG.2.2.2.2) (IsMk_lt hG.2.2.2.2 (k := 2) (by decide))) (gL hG (IsMk_n2 hG.2.2.2.2)) rx2 h9 ?_
  refine w_aload_n dX6_isInLine_12 rfl (List.Mem.head _) ?_
  refine w_getM (ci := 6) (k := 5) (b := u) dX6_isInLine_13 fl_6_34 (by decide) (gT hG rfl (lt_of rfl)) hG.2.2.2.1 ?_
  refine w_getR (ci := 2) (k := 0) (b := (u + 1)) dX6_isInLine_16 fl_6_54 (by decide) (gT hG (IsMk_t0 hG.2.2.2.2) (IsMk_lt hG.2.2.2.2 (k := 0) (by decide))) (gR hG (IsMk_r0_0 hG.2.2.2.2)) ?_
  refine w_getR (ci := 7) (k := 0) (b := (u + 2)) dX6_isInLine_19 fl_6_67 (by decide) (gT hG (IsMk_t1 hG.2.2.2.2) (IsMk_lt hG.2.2.2.2 (k := 1) (by decide))) (gR hG (IsMk_r1_0 hG.2.2.2.2)) ?_
  refine w_iload_n dX6_isInLine_22 rfl (List.Mem.tail _ (List.Mem.head _)) ?_
  obtain ⟨h9, h⟩ := h
  refine i_iald (n := 9) dX6_isInLine_23 (gT hG (IsMk_t2 hG.2.2.2.2) (IsMk_lt hG.2.2.2.2 (k := 2) (by decide))) (gL hG (IsMk_n2 hG.2.2.2.2)) rx1 h9 ?_
  obtain ⟨q1, h⟩ := h
  refine i_sub dX6_isInLine_24 ?_
  refine top_i (fun z2 ez3 => ?_)
  have rz4 : inR z2 := ez3 ▸ q1
  replace h := h z2 ez3
  refine w_istore_n (l' := [(3, .int (nZ z2)), (0, .ref 27), (1, .int (nZ x1)), (2, .int (nZ x2))]) dX6_isInLine_25 rfl (by decide) rfl ?_
  refine w_aload_n dX6_isInLine_26 rfl (List.Mem.tail _ (List.Mem.head _)) ?_
  refine w_getM (ci := 6) (k := 5) (b := u) dX6_isInLine_27 fl_6_34 (by decide) (gT hG rfl (lt_of rfl)) hG.2.2.2.1 ?_
  refine w_getR (ci := 2) (k := 0) (b := (u + 1)) dX6_isInLine_30 fl_6_54 (by decide) (gT hG (IsMk_t0 hG.2.2.2.2) (IsMk_lt hG.2.2.2.2 (k := 0) (by decide))) (gR hG (IsMk_r0_0 hG.2.2.2.2)) ?_
  refine w_getR (ci := 7) (k := 1) (b := (u + 3)) dX6_isInLine_33 fl_6_70 (by decide) (gT hG (IsMk_t1 hG.2.2.2.2) (IsMk_lt hG.2.2.2.2 (k := 1) (by decide))) (gR hG (IsMk_r1_1 hG.2.2.2.2)) ?_
  refine w_iload_n dX6_isInLine_36 rfl (List.Mem.tail _ (List.Mem.tail _ (List.Mem.tail _ (List.Mem.head _)))) ?_
  obtain ⟨h9, h⟩ := h
  refine i_iald (n := 9) dX6_isInLine_37 (gT hG (IsMk_t3 hG.2.2.2.2) (IsMk_lt hG.2.2.2.2 (k := 3) (by decide))) (gL hG (IsMk_n3 hG.2.2.2.2)) rx2 h9 ?_
  refine w_aload_n dX6_isInLine_38 rfl (List.Mem.tail _ (List.Mem.head _)) ?_
  refine w_getM (ci := 6) (k := 5) (b := u) dX6_isInLine_39 fl_6_34 (by decide) (gT hG rfl (lt_of rfl)) hG.2.2.2.1 ?_
  refine w_getR (ci := 2) (k := 0) (b := (u + 1)) dX6_isInLine_42 fl_6_54 (by decide) (gT hG (IsMk_t0 hG.2.2.2.2) (IsMk_lt hG.2.2.2.2 (k := 0) (by decide))) (gR hG (IsMk_r0_0 hG.2.2.2.2)) ?_
  refine w_getR (ci := 7) (k := 1) (b := (u + 3)) dX6_isInLine_45 fl_6_70 (by decide) (gT hG (IsMk_t1 hG.2.2.2.2) (IsMk_lt hG.2.2.2.2 (k := 1) (by decide))) (gR hG (IsMk_r1_1 hG.2.2.2.2)) ?_
  refine w_iload_n dX6_isInLine_48 rfl (List.Mem.tail _ (List.Mem.tail _ (List.Mem.head _))) ?_
  obtain ⟨h9, h⟩ := h
  refine i_iald (n := 9) dX6_isInLine_49 (gT hG (IsMk_t3 hG.2.2.2.2) (IsMk_lt hG.2.2.2.2 (k := 3) (by decide))) (gL hG (IsMk_n3 hG.2.2.2.2)) rx1 h9 ?_
  obtain ⟨q5, h⟩ := h
  refine i_sub dX6_isInLine_50 ?_
  refine top_i (fun z6 ez7 => ?_)
  have rz8 : inR z6 := ez7 ▸ q5
  replace h := h z6 ez7
  refine w_istore (l' := [(4, .int (nZ z6)), (3, .int (nZ z2)), (0, .ref 27), (1, .int (nZ x1)), (2, .int (nZ x2))]) dX6_isInLine_51 (by decide) rfl ?_
  refine w_iload_n dX6_isInLine_53 rfl (List.Mem.tail _ (List.Mem.head _)) ?_
  refine i_if_eq (tgt := 75) dX6_isInLine_54 rfl rz4 (fun c9 => ?_) (fun c9 => ?_)
  · replace h := h.1 c9
    refine w_iconst (v := nZ 1) dX6_isInLine_75 (by decide) ?_
    refine w_goto (tgt := 80) dX6_isInLine_76 rfl ?_
    exact i_zret dX6_isInLine_80 rfl (by decide) h
  · replace h := h.2 c9
    refine w_iload dX6_isInLine_57 (List.Mem.head _) ?_
    refine i_if_eq (tgt := 75) dX6_isInLine_59 rfl rz8 (fun c9 => ?_) (fun c9 => ?_)
    · replace h := h.1 c9
      refine w_iconst (v := nZ 1) dX6_isInLine_75 (by decide) ?_
      refine w_goto (tgt := 80) dX6_isInLine_76 rfl ?_
      exact i_zret dX6_isInLine_80 rfl (by decide) h
    · replace h := h.2 c9
      refine w_iload_n dX6_isInLine_62 rfl (List.Mem.tail _ (List.Mem.head _)) ?_
      refine w_iload dX6_isInLine_63 (List.Mem.head _) ?_
      refine i_cmp_eq (tgt := 75) dX6_isInLine_65 rfl rz4 rz8 (fun c9 => ?_) (fun c9 => ?_)
      · replace h := h.1 c9
        refine w_iconst (v := nZ 1) dX6_isInLine_75 (by decide) ?_
        refine w_goto (tgt := 80) dX6_isInLine_76 rfl ?_
        exact i_zret dX6_isInLine_80 rfl (by decide) h
      · replace h := h.2 c9
        refine w_iload_n dX6_isInLine_68 rfl (List.Mem.tail _ (List.Mem.head _)) ?_
        refine w_iload dX6_isInLine_69 (List.Mem.head _) ?_
        obtain ⟨q9, h⟩ := h
        refine i_neg dX6_isInLine_71 ?_
        refine i_cmp_ne (tgt := 79) dX6_isInLine_72 rfl rz4 q9 (fun c9 => ?_) (fun c9 => ?_)
        · replace h := h.1 c9
          refine w_iconst (v := nZ 0) dX6_isInLine_79 (by decide) ?_
          exact i_zret dX6_isInLine_80 rfl (by decide) h
        · replace h := h.2 c9
          refine w_iconst (v := nZ 1) dX6_isInLine_75 (by decide) ?_
          refine w_goto (tgt := 80) dX6_isInLine_76 rfl ?_
          exact i_zret dX6_isInLine_80 rfl (by decide) h
theorem dX6_need_0 : decode cX6_need 0 = .ok (.aload_n 0, 1) := by decide +kernel
theorem dX6_need_1 : decode cX6_need 1 = .ok (.iload_n 1, 1) := by decide +kernel
theorem dX6_need_2 : decode cX6_need 2 = .ok (.iload_n 2, 1) := by decide +kernel
theorem dX6_need_3 : decode cX6_need 3 = .ok (.invokevirtual 73, 3) := by decide +kernel
theorem dX6_need_6 : decode cX6_need 6 = .ok (.ifCond .ne 5, 3) := by decide +kernel
theorem dX6_need_9 : decode cX6_need 9 = .ok (.iconst (-1), 1) := by decide +kernel
theorem dX6_need_10 : decode cX6_need 10 = .ok (.ireturn, 1) := by decide +kernel
theorem dX6_need_11 : decode cX6_need 11 = .ok (.aload_n 0, 1) := by decide +kernel
theorem dX6_need_12 : decode cX6_need 12 = .ok (.getfield 34, 3) := by decide +kernel
theorem dX6_need_15 : decode cX6_need 15 = .ok (.getfield 54, 3) := by decide +kernel
theorem dX6_need_18 : decode cX6_need 18 = .ok (.astore_n 3, 1) := by decide +kernel
theorem dX6_need_19 : decode cX6_need 19 = .ok (.aload_n 3, 1) := by decide +kernel
theorem dX6_need_20 : decode cX6_need 20 = .ok (.getfield 67, 3) := by decide +kernel
theorem dX6_need_23 : decode cX6_need 23 = .ok (.iload_n 2, 1) := by decide +kernel
theorem dX6_need_24 : decode cX6_need 24 = .ok (.iaload, 1) := by decide +kernel
theorem dX6_need_25 : decode cX6_need 25 = .ok (.aload_n 3, 1) := by decide +kernel
theorem dX6_need_26 : decode cX6_need 26 = .ok (.getfield 67, 3) := by decide +kernel
theorem dX6_need_29 : decode cX6_need 29 = .ok (.iload_n 1, 1) := by decide +kernel
theorem dX6_need_30 : decode cX6_need 30 = .ok (.iaload, 1) := by decide +kernel
theorem dX6_need_31 : decode cX6_need 31 = .ok (.isub, 1) := by decide +kernel
theorem dX6_need_32 : decode cX6_need 32 = .ok (.istore 4, 2) := by decide +kernel
theorem dX6_need_34 : decode cX6_need 34 = .ok (.aload_n 3, 1) := by decide +kernel
theorem dX6_need_35 : decode cX6_need 35 = .ok (.getfield 70, 3) := by decide +kernel
theorem dX6_need_38 : decode cX6_need 38 = .ok (.iload_n 2, 1) := by decide +kernel
theorem dX6_need_39 : decode cX6_need 39 = .ok (.iaload, 1) := by decide +kernel
theorem dX6_need_40 : decode cX6_need 40 = .ok (.aload_n 3, 1) := by decide +kernel
theorem dX6_need_41 : decode cX6_need 41 = .ok (.getfield 70, 3) := by decide +kernel
theorem dX6_need_44 : decode cX6_need 44 = .ok (.iload_n 1, 1) := by decide +kernel
theorem dX6_need_45 : decode cX6_need 45 = .ok (.iaload, 1) := by decide +kernel
theorem dX6_need_46 : decode cX6_need 46 = .ok (.isub, 1) := by decide +kernel
theorem dX6_need_47 : decode cX6_need 47 = .ok (.istore 5, 2) := by decide +kernel
theorem dX6_need_49 : decode cX6_need 49 = .ok (.iload 4, 2) := by decide +kernel
theorem dX6_need_51 : decode cX6_need 51 = .ok (.invokestatic 77, 3) := by decide +kernel
theorem dX6_need_54 : decode cX6_need 54 = .ok (.iload 5, 2) := by decide +kernel
theorem dX6_need_56 : decode cX6_need 56 = .ok (.invokestatic 77, 3) := by decide +kernel
theorem dX6_need_59 : decode cX6_need 59 = .ok (.invokestatic 82, 3) := by decide +kernel
theorem dX6_need_62 : decode cX6_need 62 = .ok (.istore 6, 2) := by decide +kernel
theorem dX6_need_64 : decode cX6_need 64 = .ok (.aload_n 0, 1) := by decide +kernel
theorem dX6_need_65 : decode cX6_need 65 = .ok (.aload_n 3, 1) := by decide +kernel
theorem dX6_need_66 : decode cX6_need 66 = .ok (.getfield 58, 3) := by decide +kernel
theorem dX6_need_69 : decode cX6_need 69 = .ok (.iload_n 1, 1) := by decide +kernel
theorem dX6_need_70 : decode cX6_need 70 = .ok (.iaload, 1) := by decide +kernel
theorem dX6_need_71 : decode cX6_need 71 = .ok (.bipush 10, 2) := by decide +kernel
theorem dX6_need_73 : decode cX6_need 73 = .ok (.invokevirtual 63, 3) := by decide +kernel
theorem dX6_need_76 : decode cX6_need 76 = .ok (.istore 7, 2) := by decide +kernel
theorem dX6_need_78 : decode cX6_need 78 = .ok (.iload 6, 2) := by decide +kernel
theorem dX6_need_80 : decode cX6_need 80 = .ok (.ifCond .eq 8, 3) := by decide +kernel
theorem dX6_need_83 : decode cX6_need 83 = .ok (.iload 7, 2) := by decide +kernel
theorem dX6_need_85 : decode cX6_need 85 = .ok (.ifCond .gt 5, 3) := by decide +kernel
theorem dX6_need_88 : decode cX6_need 88 = .ok (.iconst (-1), 1) := by decide +kernel
theorem dX6_need_89 : decode cX6_need 89 = .ok (.ireturn, 1) := by decide +kernel
theorem dX6_need_90 : decode cX6_need 90 = .ok (.iload 4, 2) := by decide +kernel
theorem dX6_need_92 : decode cX6_need 92 = .ok (.invokestatic 85, 3) := by decide +kernel
theorem dX6_need_95 : decode cX6_need 95 = .ok (.istore 8, 2) := by decide +kernel
theorem dX6_need_97 : decode cX6_need 97 = .ok (.iload 5, 2) := by decide +kernel
theorem dX6_need_99 : decode cX6_need 99 = .ok (.invokestatic 85, 3) := by decide +kernel
theorem dX6_need_102 : decode cX6_need 102 = .ok (.istore 9, 2) := by decide +kernel
theorem dX6_need_104 : decode cX6_need 104 = .ok (.bipush 10, 2) := by decide +kernel
theorem dX6_need_106 : decode cX6_need 106 = .ok (.iload 6, 2) := by decide +kernel
theorem dX6_need_108 : decode cX6_need 108 = .ok (.imul, 1) := by decide +kernel
theorem dX6_need_109 : decode cX6_need 109 = .ok (.iload 7, 2) := by decide +kernel
theorem dX6_need_111 : decode cX6_need 111 = .ok (.iadd, 1) := by decide +kernel
theorem dX6_need_112 : decode cX6_need 112 = .ok (.iconst 1, 1) := by decide +kernel
theorem dX6_need_113 : decode cX6_need 113 = .ok (.isub, 1) := by decide +kernel
theorem dX6_need_114 : decode cX6_need 114 = .ok (.iload 7, 2) := by decide +kernel
theorem dX6_need_116 : decode cX6_need 116 = .ok (.idiv, 1) := by decide +kernel
theorem dX6_need_117 : decode cX6_need 117 = .ok (.istore 10, 2) := by decide +kernel
theorem dX6_need_119 : decode cX6_need 119 = .ok (.iload 10, 2) := by decide +kernel
theorem dX6_need_121 : decode cX6_need 121 = .ok (.bipush 9, 2) := by decide +kernel
theorem dX6_need_123 : decode cX6_need 123 = .ok (.if_icmp .gt 18, 3) := by decide +kernel
theorem dX6_need_126 : decode cX6_need 126 = .ok (.aload_n 0, 1) := by decide +kernel
theorem dX6_need_127 : decode cX6_need 127 = .ok (.iload_n 1, 1) := by decide +kernel
theorem dX6_need_128 : decode cX6_need 128 = .ok (.iload_n 2, 1) := by decide +kernel
theorem dX6_need_129 : decode cX6_need 129 = .ok (.iload 8, 2) := by decide +kernel
theorem dX6_need_131 : decode cX6_need 131 = .ok (.iload 9, 2) := by decide +kernel
theorem dX6_need_133 : decode cX6_need 133 = .ok (.iload 6, 2) := by decide +kernel
theorem dX6_need_135 : decode cX6_need 135 = .ok (.invokevirtual 88, 3) := by decide +kernel
theorem dX6_need_138 : decode cX6_need 138 = .ok (.ifCond .eq 5, 3) := by decide +kernel
theorem dX6_need_141 : decode cX6_need 141 = .ok (.iconst (-1), 1) := by decide +kernel
theorem dX6_need_142 : decode cX6_need 142 = .ok (.ireturn, 1) := by decide +kernel
theorem dX6_need_143 : decode cX6_need 143 = .ok (.bipush 10, 2) := by decide +kernel
theorem dX6_need_145 : decode cX6_need 145 = .ok (.iload 8, 2) := by decide +kernel
theorem dX6_need_147 : decode cX6_need 147 = .ok (.iconst 1, 1) := by decide +kernel
theorem dX6_need_148 : decode cX6_need 148 = .ok (.iadd, 1) := by decide +kernel
theorem dX6_need_149 : decode cX6_need 149 = .ok (.iconst 3, 1) := by decide +kernel
theorem dX6_need_150 : decode cX6_need 150 = .ok (.iload 9, 2) := by decide +kernel
theorem dX6_need_152 : decode cX6_need 152 = .ok (.iconst 1, 1) := by decide +kernel
theorem dX6_need_153 : decode cX6_need 153 = .ok (.iadd, 1) := by decide +kernel
theorem dX6_need_154 : decode cX6_need 154 = .ok (.imul, 1) := by decide +kernel
theorem dX6_need_155 : decode cX6_need 155 = .ok (.iadd, 1) := by decide +kernel
theorem dX6_need_156 : decode cX6_need 156 = .ok (.imul, 1) := by decide +kernel
theorem dX6_need_157 : decode cX6_need 157 = .ok (.iload 10, 2) := by decide +kernel
theorem dX6_need_159 : decode cX6_need 159 = .ok (.iadd, 1) := by decide +kernel
theorem dX6_need_160 : decode cX6_need 160 = .ok (.ireturn, 1) := by decide +kernel
set_option maxRecDepth 10000 in
theorem t_X6_need {sc : Nat × (Nat → Int32)} {d : Nat} {Q : aO → aH → Prop} {σ : aH} {u : Nat}  {x1 : Int} {x2 : Int} (hG : G σ u) (rx1 : inR x1) (rx2 : inR x2)
    (h : (∃ (r5 : Int) (σ1 : aH), Ev sc d mX6_isInLine [.ref 27, .int (nZ x1), .int (nZ x2)] σ (.inl (some (.int (nZ r5)))) σ1 ∧ G σ1 u ∧ inR r5 ∧ ((¬ r5 = 0 → ((0 ≤ x2 ∧ x2 < 9) ∧ ((0 ≤ x1 ∧ x1 < 9) ∧ (inR ((rI σ1 (u + 2) x2) - (rI σ1 (u + 2) x1)) ∧ (∀ z7 : Int, z7 = ((rI σ1 (u + 2) x2) - (rI σ1 (u + 2) x1)) → ((0 ≤ x2 ∧ x2 < 9) ∧ ((0 ≤ x1 ∧ x1 < 9) ∧ (inR ((rI σ1 (u + 3) x2) - (rI σ1 (u + 3) x1)) ∧ (∀ z11 : Int, z11 = ((rI σ1 (u + 3) x2) - (rI σ1 (u + 3) x1)) → (inR (-z7) ∧ (∀ z14 : Int, z14 = max z7 (-z7) → (inR (-z11) ∧ (∀ z17 : Int, z17 = max z11 (-z11) → (∀ z20 : Int, z20 = max z14 z17 → ((0 ≤ x1 ∧ x1 < 9) ∧ (∃ (r27 : Int) (σ23 : aH), Ev sc d mX6_cellsFor [.ref 27, .int (nZ (rI σ1 (u + 4) x1)), .int (nZ 10)] σ1 (.inl (some (.int (nZ r27)))) σ23 ∧ G σ23 u ∧ inR r27 ∧ ((z20 = 0 → Q (.inl (some (.int (nZ (-1))))) σ23) ∧ (¬ (z20 = 0) → ((0 < r27 → (∃ (r32 : Int) (σ28 : aH), Ev sc d mX6_sign [.int (nZ z7)] σ23 (.inl (some (.int (nZ r32)))) σ28 ∧ G σ28 u ∧ inR r32 ∧ (∃ (r37 : Int) (σ33 : aH), Ev sc d mX6_sign [.int (nZ z11)] σ28 (.inl (some (.int (nZ r37)))) σ33 ∧ G σ33 u ∧ inR r37 ∧ (inR (10 * z20) ∧ (inR ((10 * z20) + r27) ∧ (inR (((10 * z20) + r27) - 1) ∧ ((0 ≤ (((10 * z20) + r27) - 1) ∧ (0 : Int) < r27) ∧ inR ((((10 * z20) + r27) - 1) / r27) ∧ (∀ z42 : Int, z42 = ((((10 * z20) + r27) - 1) / r27) → ((9 < z42 → Q (.inl (some (.int (nZ (-1))))) σ33) ∧ (¬ (9 < z42) → (∃ (r49 : Int) (σ45 : aH), Ev sc d mX6_isKeptOff [.ref 27, .int (nZ x1), .int (nZ x2), .int (nZ r32), .int (nZ r37), .int (nZ z20)] σ33 (.inl (some (.int (nZ r49)))) σ45 ∧ G σ45 u ∧ inR r49 ∧ ((r49 = 0 → (inR (r32 + 1) ∧ (inR (r37 + 1) ∧ (inR (3 * (r37 + 1)) ∧ (inR ((r32 + 1) + (3 * (r37 + 1))) ∧ (inR (10 * ((r32 + 1) + (3 * (r37 + 1)))) ∧ (inR ((10 * ((r32 + 1) + (3 * (r37 + 1)))) + z42) ∧ Q (.inl (some (.int (nZ ((10 * ((r32 + 1) + (3 * (r37 + 1)))) + z42))))) σ45))))))) ∧ (¬ (r49 = 0) → Q (.inl (some (.int (nZ (-1))))) σ45))))))))))))) ∧ (¬ (0 < r27) → Q (.inl (some (.int (nZ (-1))))) σ23)))))))))))))))))))) ∧ (r5 = 0 → Q (.inl (some (.int (nZ (-1))))) σ1)))) :
    T sc (d + 1) mX6_need [.ref 27, .int (nZ x1), .int (nZ x2)] σ Q := by
  refine T.of (c := 6) (code := cX6_need) (mL := 11) (rt := (some .int)) (ini := false) (l := [(0, .ref 27), (1, .int (nZ x1)), (2, .int (nZ x2))]) rfl rfl rfl rfl (by decide) hs_X6_need rfl rfl ?_
  refine w_aload_n dX6_need_0 rfl (List.Mem.head _) ?_
  refine w_iload_n dX6_need_1 rfl (List.Mem.tail _ (List.Mem.head _)) ?_
  refine w_iload_n dX6_need_2 rfl (List.Mem.tail _ (List.Mem.tail _ (List.Mem.head _))) ?_
  obtain ⟨r5, σ1, hc3, hG2, rr4, h⟩ := h
  refine w_callV dX6_need_3 ml_6_73 ⟨ok_X6_isInLine, vi_X6_isInLine⟩ hs_X6_isInLine (As := [.int (nZ x1), .int (nZ x2)]) rfl rfl (gT hG rfl (lt_of rfl)) (Nat.le_of_ble_eq_true rfl) hc3 ?_
  show wp (Ev sc d) 6 cX6_need 11 (some .int) false [] sc Q 6 [(0, .ref 27), (1, .int (nZ x1)), (2, .int (nZ x2))] [.int (nZ r5)] σ1
  refine i_if_ne (tgt := 11) dX6_need_6 rfl rr4 (fun c9 => ?_) (fun c9 => ?_)
  · replace h := h.1 c9
    refine w_aload_n dX6_need_11 rfl (List.Mem.head _) ?_
    refine w_getM (ci := 6) (k := 5) (b := u) dX6_need_12 fl_6_34 (by decide) (gT hG2 rfl (lt_of rfl)) hG2.2.2.2.1 ?_
    refine w_getR (ci := 2) (k := 0) (b := (u + 1)) dX6_need_15 fl_6_54 (by decide) (gT hG2 (IsMk_t0 hG.2.2.2.2) (IsMk_lt hG.2.2.2.2 (k := 0) (by decide))) (gR hG2 (IsMk_r0_0 hG.2.2.2.2)) ?_
    refine w_astore_n (l' := [(3, .ref (u + 1)), (0, .ref 27), (1, .int (nZ x1)), (2, .int (nZ x2))]) dX6_need_18 rfl (by decide) rfl ?_
    refine w_aload_n dX6_need_19 rfl (List.Mem.head _) ?_
    refine w_getR (ci := 7) (k := 0) (b := (u + 2)) dX6_need_20 fl_6_67 (by decide) (gT hG2 (IsMk_t1 hG.2.2.2.2) (IsMk_lt hG.2.2.2.2 (k := 1) (by decide))) (gR hG2 (IsMk_r1_0 hG.2.2.2.2)) ?_
    refine w_iload_n dX6_need_23 rfl (List.Mem.tail _ (List.Mem.tail _ (List.Mem.tail _ (List.Mem.head _)))) ?_
    obtain ⟨h9, h⟩ := h
    refine i_iald (n := 9) dX6_need_24 (gT hG2 (IsMk_t2 hG.2.2.2.2) (IsMk_lt hG.2.2.2.2 (k := 2) (by decide))) (gL hG2 (IsMk_n2 hG.2.2.2.2)) rx2 h9 ?_
    refine w_aload_n dX6_need_25 rfl (List.Mem.head _) ?_
    refine w_getR (ci := 7) (k := 0) (b := (u + 2)) dX6_need_26 fl_6_67 (by decide) (gT hG2 (IsMk_t1 hG.2.2.2.2) (IsMk_lt hG.2.2.2.2 (k := 1) (by decide))) (gR hG2 (IsMk_r1_0 hG.2.2.2.2)) ?_
    refine w_iload_n dX6_need_29 rfl (List.Mem.tail _ (List.Mem.tail _ (List.Mem.head _))) ?_
    obtain ⟨h9, h⟩ := h
    refine i_iald (n := 9) dX6_need_30 (gT hG2 (IsMk_t2 hG.2.2.2.2) (IsMk_lt hG.2.2.2.2 (k := 2) (by decide))) (gL hG2 (IsMk_n2 hG.2.2.2.2)) rx1 h9 ?_
    obtain ⟨q6, h⟩ := h
    refine i_sub dX6_need_31 ?_
    refine top_i (fun z7 ez8 => ?_)
    have rz9 : inR z7 := ez8 ▸ q6
    replace h := h z7 ez8
    refine w_istore (l' := [(4, .int (nZ z7)), (3, .ref (u + 1)), (0, .ref 27), (1, .int (nZ x1)), (2, .int (nZ x2))]) dX6_need_32 (by decide) rfl ?_
    refine w_aload_n dX6_need_34 rfl (List.Mem.tail _ (List.Mem.head _)) ?_
    refine w_getR (ci := 7) (k := 1) (b := (u + 3)) dX6_need_35 fl_6_70 (by decide) (gT hG2 (IsMk_t1 hG.2.2.2.2) (IsMk_lt hG.2.2.2.2 (k := 1) (by decide))) (gR hG2 (IsMk_r1_1 hG.2.2.2.2)) ?_
    refine w_iload_n dX6_need_38 rfl (List.Mem.tail _ (List.Mem.tail _ (List.Mem.tail _ (List.Mem.tail _ (List.Mem.head _))))) ?_
    obtain ⟨h9, h⟩ := h
    refine i_iald (n := 9) dX6_need_39 (gT hG2 (IsMk_t3 hG.2.2.2.2) (IsMk_lt hG.2.2.2.2 (k := 3) (by decide))) (gL hG2 (IsMk_n3 hG.2.2.2.2)) rx2 h9 ?_
    refine w_aload_n dX6_need_40 rfl (List.Mem.tail _ (List.Mem.head _)) ?_
    refine w_getR (ci := 7) (k := 1) (b := (u + 3)) dX6_need_41 fl_6_70 (by decide) (gT hG2 (IsMk_t1 hG.2.2.2.2) (IsMk_lt hG.2.2.2.2 (k := 1) (by decide))) (gR hG2 (IsMk_r1_1 hG.2.2.2.2)) ?_
    refine w_iload_n dX6_need_44 rfl (List.Mem.tail _ (List.Mem.tail _ (List.Mem.tail _ (List.Mem.head _)))) ?_
    obtain ⟨h9, h⟩ := h
    refine i_iald (n := 9) dX6_need_45 (gT hG2 (IsMk_t3 hG.2.2.2.2) (IsMk_lt hG.2.2.2.2 (k := 3) (by decide))) (gL hG2 (IsMk_n3 hG.2.2.2.2)) rx1 h9 ?_
    obtain ⟨q10, h⟩ := h
    refine i_sub dX6_need_46 ?_
    refine top_i (fun z11 ez12 => ?_)
    have rz13 : inR z11 := ez12 ▸ q10
    replace h := h z11 ez12
    refine w_istore (l' := [(5, .int (nZ z11)), (4, .int (nZ z7)), (3, .ref (u + 1)), (0, .ref 27), (1, .int (nZ x1)), (2, .int (nZ x2))]) dX6_need_47 (by decide) rfl ?_
    refine w_iload dX6_need_49 (List.Mem.tail _ (List.Mem.head _)) ?_
    obtain ⟨h9, h⟩ := h
    refine i_mabs dX6_need_51 lk_6_77 (Nat.le_of_ble_eq_true rfl) rz9 h9 (fun z14 ez15 rz16 => ?_)
    replace h := h z14 ez15
    refine w_iload dX6_need_54 (List.Mem.head _) ?_
    obtain ⟨h9, h⟩ := h
    refine i_mabs dX6_need_56 lk_6_77 (Nat.le_of_ble_eq_true rfl) rz13 h9 (fun z17 ez18 rz19 => ?_)
    replace h := h z17 ez18
    refine i_mmax dX6_need_59 lk_6_82 (Nat.le_of_ble_eq_true rfl) rz16 rz19 (fun z20 ez21 rz22 => ?_)
    replace h := h z20 ez21
    refine w_istore (l' := [(6, .int (nZ z20)), (5, .int (nZ z11)), (4, .int (nZ z7)), (3, .ref (u + 1)), (0, .ref 27), (1, .int (nZ x1)), (2, .int (nZ x2))]) dX6_need_62 (by decide) rfl ?_
    refine w_aload_n dX6_need_64 rfl (List.Mem.tail _ (List.Mem.tail _ (List.Mem.tail _ (List.Mem.tail _ (List.Mem.head _))))) ?_
    refine w_aload_n dX6_need_65 rfl (List.Mem.tail _ (List.Mem.tail _ (List.Mem.tail _ (List.Mem.head _)))) ?_
    refine w_getR (ci := 7) (k := 2) (b := (u + 4)) dX6_need_66 fl_6_58 (by decide) (gT hG2 (IsMk_t1 hG.2.2.2.2) (IsMk_lt hG.2.2.2.2 (k := 1) (by decide))) (gR hG2 (IsMk_r1_2 hG.2.2.2.2)) ?_
    refine w_iload_n dX6_need_69 rfl (List.Mem.tail _ (List.Mem.tail _ (List.Mem.tail _ (List.Mem.tail _ (List.Mem.tail _ (List.Mem.head _)))))) ?_
    obtain ⟨h9, h⟩ := h
    refine i_iald (n := 9) dX6_need_70 (gT hG2 (IsMk_t4 hG.2.2.2.2) (IsMk_lt hG.2.2.2.2 (k := 4) (by decide))) (gL hG2 (IsMk_n4 hG.2.2.2.2)) rx1 h9 ?_
    refine w_bipush (v := nZ 10) dX6_need_71 (by decide) ?_
    obtain ⟨r27, σ23, hc25, hG24, rr26, h⟩ := h
    refine w_callV dX6_need_73 ml_6_63 ⟨ok_X6_cellsFor, vi_X6_cellsFor⟩ hs_X6_cellsFor (As := [.int (nZ (rI σ1 (u + 4) x1)), .int (nZ 10)]) rfl rfl (gT hG2 rfl (lt_of rfl)) (Nat.le_of_ble_eq_true rfl) hc25 ?_
    show wp (Ev sc d) 6 cX6_need 11 (some .int) false [] sc Q 76 [(6, .int (nZ z20)), (5, .int (nZ z11)), (4, .int (nZ z7)), (3, .ref (u + 1)), (0, .ref 27), (1, .int (nZ x1)), (2, .int (nZ x2))] [.int (nZ r27)] σ23
    refine w_istore (l' := [(7, .int (nZ r27)), (6, .int (nZ z20)), (5, .int (nZ z11)), (4, .int (nZ z7)), (3, .ref (u + 1)), (0, .ref 27), (1, .int (nZ x1)), (2, .int (nZ x2))]) dX6_need_76 (by decide) rfl ?_
    refine w_iload dX6_need_78 (List.Mem.tail _ (List.Mem.head _)) ?_
    refine i_if_eq (tgt := 88) dX6_need_80 rfl rz22 (fun c9 => ?_) (fun c9 => ?_)
    · replace h := h.1 c9
      refine w_iconst (v := nZ (-1)) dX6_need_88 (by decide) ?_
      exact w_iret dX6_need_89 rfl h
    · replace h := h.2 c9
      refine w_iload dX6_need_83 (List.Mem.head _) ?_
      refine i_if_gt (tgt := 90) dX6_need_85 rfl rr26 (fun c9 => ?_) (fun c9 => ?_)
      · replace h := h.1 c9
        refine w_iload dX6_need_90 (List.Mem.tail _ (List.Mem.tail _ (List.Mem.tail _ (List.Mem.head _)))) ?_
        obtain ⟨r32, σ28, hc30, hG29, rr31, h⟩ := h
        refine w_callS dX6_need_92 ml_6_85 ⟨ok_X6_sign, st_X6_sign⟩ hs_X6_sign (As := [.int (nZ z7)]) rfl rfl (Nat.le_of_ble_eq_true rfl) hc30 ?_
        show wp (Ev sc d) 6 cX6_need 11 (some .int) false [] sc Q 95 [(7, .int (nZ r27)), (6, .int (nZ z20)), (5, .int (nZ z11)), (4, .int (nZ z7)), (3, .ref (u + 1)), (0, .ref 27), (1, .int (nZ x1)), (2, .int (nZ x2))] [.int (nZ r32)] σ28
        refine w_istore (l' := [(8, .int (nZ r32)), (7, .int (nZ r27)), (6, .int (nZ z20)), (5, .int (nZ z11)), (4, .int (nZ z7)), (3, .ref (u + 1)), (0, .ref 27), (1, .int (nZ x1)), (2, .int (nZ x2))]) dX6_need_95 (by decide) rfl ?_
        refine w_iload dX6_need_97 (List.Mem.tail _ (List.Mem.tail _ (List.Mem.tail _ (List.Mem.head _)))) ?_
        obtain ⟨r37, σ33, hc35, hG34, rr36, h⟩ := h
        refine w_callS dX6_need_99 ml_6_85 ⟨ok_X6_sign, st_X6_sign⟩ hs_X6_sign (As := [.int (nZ z11)]) rfl rfl (Nat.le_of_ble_eq_true rfl) hc35 ?_
        show wp (Ev sc d) 6 cX6_need 11 (some .int) false [] sc Q 102 [(8, .int (nZ r32)), (7, .int (nZ r27)), (6, .int (nZ z20)), (5, .int (nZ z11)), (4, .int (nZ z7)), (3, .ref (u + 1)), (0, .ref 27), (1, .int (nZ x1)), (2, .int (nZ x2))] [.int (nZ r37)] σ33
        refine w_istore (l' := [(9, .int (nZ r37)), (8, .int (nZ r32)), (7, .int (nZ r27)), (6, .int (nZ z20)), (5, .int (nZ z11)), (4, .int (nZ z7)), (3, .ref (u + 1)), (0, .ref 27), (1, .int (nZ x1)), (2, .int (nZ x2))]) dX6_need_102 (by decide) rfl ?_
        refine w_bipush (v := nZ 10) dX6_need_104 (by decide) ?_
        refine w_iload dX6_need_106 (List.Mem.tail _ (List.Mem.tail _ (List.Mem.tail _ (List.Mem.head _)))) ?_
        obtain ⟨q38, h⟩ := h
        refine i_mul dX6_need_108 ?_
        refine w_iload dX6_need_109 (List.Mem.tail _ (List.Mem.tail _ (List.Mem.head _))) ?_
        obtain ⟨q39, h⟩ := h
        refine i_add dX6_need_111 ?_
        refine w_iconst (v := nZ 1) dX6_need_112 (by decide) ?_
        obtain ⟨q40, h⟩ := h
        refine i_sub dX6_need_113 ?_
        refine w_iload dX6_need_114 (List.Mem.tail _ (List.Mem.tail _ (List.Mem.head _))) ?_
        obtain ⟨h9, q41, h⟩ := h
        refine i_div dX6_need_116 q40 rr26 h9 ?_
        refine top_i (fun z42 ez43 => ?_)
        have rz44 : inR z42 := ez43 ▸ q41
        replace h := h z42 ez43
        refine w_istore (l' := [(10, .int (nZ z42)), (9, .int (nZ r37)), (8, .int (nZ r32)), (7, .int (nZ r27)), (6, .int (nZ z20)), (5, .int (nZ z11)), (4, .int (nZ z7)), (3, .ref (u + 1)), (0, .ref 27), (1, .int (nZ x1)), (2, .int (nZ x2))]) dX6_need_117 (by decide) rfl ?_
        refine w_iload dX6_need_119 (List.Mem.head _) ?_
        refine w_bipush (v := nZ 9) dX6_need_121 (by decide) ?_
        refine i_cmp_gt (tgt := 141) dX6_need_123 rfl rz44 (by decide) (fun c9 => ?_) (fun c9 => ?_)
        · replace h := h.1 c9
          refine w_iconst (v := nZ (-1)) dX6_need_141 (by decide) ?_
          exact w_iret dX6_need_142 rfl h
        · replace h := h.2 c9
          refine w_aload_n dX6_need_126 rfl (List.Mem.tail _ (List.Mem.tail _ (List.Mem.tail _ (List.Mem.tail _ (List.Mem.tail _ (List.Mem.tail _ (List.Mem.tail _ (List.Mem.tail _ (List.Mem.head _))))))))) ?_
          refine w_iload_n dX6_need_127 rfl (List.Mem.tail _ (List.Mem.tail _ (List.Mem.tail _ (List.Mem.tail _ (List.Mem.tail _ (List.Mem.tail _ (List.Mem.tail _ (List.Mem.tail _ (List.Mem.tail _ (List.Mem.head _)))))))))) ?_
          refine w_iload_n dX6_need_128 rfl (List.Mem.tail _ (List.Mem.tail _ (List.Mem.tail _ (List.Mem.tail _ (List.Mem.tail _ (List.Mem.tail _ (List.Mem.tail _ (List.Mem.tail _ (List.Mem.tail _ (List.Mem.tail _ (List.Mem.head _))))))))))) ?_
          refine w_iload dX6_need_129 (List.Mem.tail _ (List.Mem.tail _ (List.Mem.head _))) ?_
          refine w_iload dX6_need_131 (List.Mem.tail _ (List.Mem.head _)) ?_
          refine w_iload dX6_need_133 (List.Mem.tail _ (List.Mem.tail _ (List.Mem.tail _ (List.Mem.tail _ (List.Mem.head _))))) ?_
          obtain ⟨r49, σ45, hc47, hG46, rr48, h⟩ := h
          refine w_callV dX6_need_135 ml_6_88 ⟨ok_X6_isKeptOff, vi_X6_isKeptOff⟩ hs_X6_isKeptOff (As := [.int (nZ x1), .int (nZ x2), .int (nZ r32), .int (nZ r37), .int (nZ z20)]) rfl rfl (gT hG34 rfl (lt_of rfl)) (Nat.le_of_ble_eq_true rfl) hc47 ?_
          show wp (Ev sc d) 6 cX6_need 11 (some .int) false [] sc Q 138 [(10, .int (nZ z42)), (9, .int (nZ r37)), (8, .int (nZ r32)), (7, .int (nZ r27)), (6, .int (nZ z20)), (5, .int (nZ z11)), (4, .int (nZ z7)), (3, .ref (u + 1)), (0, .ref 27), (1, .int (nZ x1)), (2, .int (nZ x2))] [.int (nZ r49)] σ45
          refine i_if_eq (tgt := 143) dX6_need_138 rfl rr48 (fun c9 => ?_) (fun c9 => ?_)
          · replace h := h.1 c9
            refine w_bipush (v := nZ 10) dX6_need_143 (by decide) ?_
            refine w_iload dX6_need_145 (List.Mem.tail _ (List.Mem.tail _ (List.Mem.head _))) ?_
            refine w_iconst (v := nZ 1) dX6_need_147 (by decide) ?_
            obtain ⟨q50, h⟩ := h
            refine i_add dX6_need_148 ?_
            refine w_iconst (v := nZ 3) dX6_need_149 (by decide) ?_
            refine w_iload dX6_need_150 (List.Mem.tail _ (List.Mem.head _)) ?_
            refine w_iconst (v := nZ 1) dX6_need_152 (by decide) ?_
            obtain ⟨q51, h⟩ := h
            refine i_add dX6_need_153 ?_
            obtain ⟨q52, h⟩ := h
            refine i_mul dX6_need_154 ?_
            obtain ⟨q53, h⟩ := h
            refine i_add dX6_need_155 ?_
            obtain ⟨q54, h⟩ := h
            refine i_mul dX6_need_156 ?_
            refine w_iload dX6_need_157 (List.Mem.head _) ?_
            obtain ⟨q55, h⟩ := h
            refine i_add dX6_need_159 ?_
            exact w_iret dX6_need_160 rfl h
          · replace h := h.2 c9
            refine w_iconst (v := nZ (-1)) dX6_need_141 (by decide) ?_
            exact w_iret dX6_need_142 rfl h
      · replace h := h.2 c9
        refine w_iconst (v := nZ (-1)) dX6_need_88 (by decide) ?_
        exact w_iret dX6_need_89 rfl h
  · replace h := h.2 c9
    refine w_iconst (v := nZ (-1)) dX6_need_9 (by decide) ?_
    exact w_iret dX6_need_10 rfl h
theorem dX6_sign_0 : decode cX6_sign 0 = .ok (.iload_n 0, 1) := by decide +kernel
theorem dX6_sign_1 : decode cX6_sign 1 = .ok (.ifCond .ne 5, 3) := by decide +kernel
theorem dX6_sign_4 : decode cX6_sign 4 = .ok (.iconst 0, 1) := by decide +kernel
theorem dX6_sign_5 : decode cX6_sign 5 = .ok (.ireturn, 1) := by decide +kernel
theorem dX6_sign_6 : decode cX6_sign 6 = .ok (.iload_n 0, 1) := by decide +kernel
theorem dX6_sign_7 : decode cX6_sign 7 = .ok (.ifCond .ge 7, 3) := by decide +kernel
theorem dX6_sign_10 : decode cX6_sign 10 = .ok (.iconst (-1), 1) := by decide +kernel
theorem dX6_sign_11 : decode cX6_sign 11 = .ok (.goto 4, 3) := by decide +kernel
theorem dX6_sign_14 : decode cX6_sign 14 = .ok (.iconst 1, 1) := by decide +kernel
theorem dX6_sign_15 : decode cX6_sign 15 = .ok (.ireturn, 1) := by decide +kernel
set_option maxRecDepth 10000 in
theorem t_X6_sign {sc : Nat × (Nat → Int32)} {d : Nat} {Q : aO → aH → Prop} {σ : aH} {u : Nat}  {x0 : Int} (hG : G σ u) (rx0 : inR x0)
    (h : ((¬ x0 = 0 → ((0 ≤ x0 → Q (.inl (some (.int (nZ 1)))) σ) ∧ (¬ (0 ≤ x0) → Q (.inl (some (.int (nZ (-1))))) σ))) ∧ (x0 = 0 → Q (.inl (some (.int (nZ 0)))) σ))) :
    T sc (d + 1) mX6_sign [.int (nZ x0)] σ Q := by
  refine T.of (c := 6) (code := cX6_sign) (mL := 1) (rt := (some .int)) (ini := false) (l := [(0, .int (nZ x0))]) rfl rfl rfl rfl (by decide) hs_X6_sign rfl rfl ?_
  refine w_iload_n dX6_sign_0 rfl (List.Mem.head _) ?_
  refine i_if_ne (tgt := 6) dX6_sign_1 rfl rx0 (fun c9 => ?_) (fun c9 => ?_)
  · replace h := h.1 c9
    refine w_iload_n dX6_sign_6 rfl (List.Mem.head _) ?_
    refine i_if_ge (tgt := 14) dX6_sign_7 rfl rx0 (fun c9 => ?_) (fun c9 => ?_)
    · replace h := h.1 c9
      refine w_iconst (v := nZ 1) dX6_sign_14 (by decide) ?_
      exact w_iret dX6_sign_15 rfl h
    · replace h := h.2 c9
      refine w_iconst (v := nZ (-1)) dX6_sign_10 (by decide) ?_
      refine w_goto (tgt := 15) dX6_sign_11 rfl ?_
      exact w_iret dX6_sign_15 rfl h
  · replace h := h.2 c9
    refine w_iconst (v := nZ 0) dX6_sign_4 (by decide) ?_
    exact w_iret dX6_sign_5 rfl h
theorem dX6_isKeptOff_0 : decode cX6_isKeptOff 0 = .ok (.aload_n 0, 1) := by decide +kernel
theorem dX6_isKeptOff_1 : decode cX6_isKeptOff 1 = .ok (.getfield 34, 3) := by decide +kernel
theorem dX6_isKeptOff_4 : decode cX6_isKeptOff 4 = .ok (.getfield 54, 3) := by decide +kernel
theorem dX6_isKeptOff_7 : decode cX6_isKeptOff 7 = .ok (.astore 6, 2) := by decide +kernel
theorem dX6_isKeptOff_9 : decode cX6_isKeptOff 9 = .ok (.iconst 0, 1) := by decide +kernel
theorem dX6_isKeptOff_10 : decode cX6_isKeptOff 10 = .ok (.istore 7, 2) := by decide +kernel
theorem dX6_isKeptOff_12 : decode cX6_isKeptOff 12 = .ok (.iload 7, 2) := by decide +kernel
theorem dX6_isKeptOff_14 : decode cX6_isKeptOff 14 = .ok (.aload 6, 2) := by decide +kernel
theorem dX6_isKeptOff_16 : decode cX6_isKeptOff 16 = .ok (.getfield 92, 3) := by decide +kernel
theorem dX6_isKeptOff_19 : decode cX6_isKeptOff 19 = .ok (.if_icmp .ge 161, 3) := by decide +kernel
theorem dX6_isKeptOff_22 : decode cX6_isKeptOff 22 = .ok (.iload 7, 2) := by decide +kernel
theorem dX6_isKeptOff_24 : decode cX6_isKeptOff 24 = .ok (.iload_n 1, 1) := by decide +kernel
theorem dX6_isKeptOff_25 : decode cX6_isKeptOff 25 = .ok (.if_icmp .eq 149, 3) := by decide +kernel
theorem dX6_isKeptOff_28 : decode cX6_isKeptOff 28 = .ok (.iload 7, 2) := by decide +kernel
theorem dX6_isKeptOff_30 : decode cX6_isKeptOff 30 = .ok (.iload_n 2, 1) := by decide +kernel
theorem dX6_isKeptOff_31 : decode cX6_isKeptOff 31 = .ok (.if_icmp .eq 143, 3) := by decide +kernel
theorem dX6_isKeptOff_34 : decode cX6_isKeptOff 34 = .ok (.iload 7, 2) := by decide +kernel
theorem dX6_isKeptOff_36 : decode cX6_isKeptOff 36 = .ok (.aload 6, 2) := by decide +kernel
theorem dX6_isKeptOff_38 : decode cX6_isKeptOff 38 = .ok (.getfield 95, 3) := by decide +kernel
theorem dX6_isKeptOff_41 : decode cX6_isKeptOff 41 = .ok (.if_icmp .eq 133, 3) := by decide +kernel
theorem dX6_isKeptOff_44 : decode cX6_isKeptOff 44 = .ok (.aload 6, 2) := by decide +kernel
theorem dX6_isKeptOff_46 : decode cX6_isKeptOff 46 = .ok (.getfield 67, 3) := by decide +kernel
theorem dX6_isKeptOff_49 : decode cX6_isKeptOff 49 = .ok (.iload_n 2, 1) := by decide +kernel
theorem dX6_isKeptOff_50 : decode cX6_isKeptOff 50 = .ok (.iaload, 1) := by decide +kernel
theorem dX6_isKeptOff_51 : decode cX6_isKeptOff 51 = .ok (.aload 6, 2) := by decide +kernel
theorem dX6_isKeptOff_53 : decode cX6_isKeptOff 53 = .ok (.getfield 67, 3) := by decide +kernel
theorem dX6_isKeptOff_56 : decode cX6_isKeptOff 56 = .ok (.iload 7, 2) := by decide +kernel
theorem dX6_isKeptOff_58 : decode cX6_isKeptOff 58 = .ok (.iaload, 1) := by decide +kernel
theorem dX6_isKeptOff_59 : decode cX6_isKeptOff 59 = .ok (.isub, 1) := by decide +kernel
theorem dX6_isKeptOff_60 : decode cX6_isKeptOff 60 = .ok (.istore 8, 2) := by decide +kernel
theorem dX6_isKeptOff_62 : decode cX6_isKeptOff 62 = .ok (.aload 6, 2) := by decide +kernel
theorem dX6_isKeptOff_64 : decode cX6_isKeptOff 64 = .ok (.getfield 70, 3) := by decide +kernel
theorem dX6_isKeptOff_67 : decode cX6_isKeptOff 67 = .ok (.iload_n 2, 1) := by decide +kernel
theorem dX6_isKeptOff_68 : decode cX6_isKeptOff 68 = .ok (.iaload, 1) := by decide +kernel
theorem dX6_isKeptOff_69 : decode cX6_isKeptOff 69 = .ok (.aload 6, 2) := by decide +kernel
theorem dX6_isKeptOff_71 : decode cX6_isKeptOff 71 = .ok (.getfield 70, 3) := by decide +kernel
theorem dX6_isKeptOff_74 : decode cX6_isKeptOff 74 = .ok (.iload 7, 2) := by decide +kernel
theorem dX6_isKeptOff_76 : decode cX6_isKeptOff 76 = .ok (.iaload, 1) := by decide +kernel
theorem dX6_isKeptOff_77 : decode cX6_isKeptOff 77 = .ok (.isub, 1) := by decide +kernel
theorem dX6_isKeptOff_78 : decode cX6_isKeptOff 78 = .ok (.istore 9, 2) := by decide +kernel
theorem dX6_isKeptOff_80 : decode cX6_isKeptOff 80 = .ok (.iload 8, 2) := by decide +kernel
theorem dX6_isKeptOff_82 : decode cX6_isKeptOff 82 = .ok (.ifCond .ne 23, 3) := by decide +kernel
theorem dX6_isKeptOff_85 : decode cX6_isKeptOff 85 = .ok (.iload 9, 2) := by decide +kernel
theorem dX6_isKeptOff_87 : decode cX6_isKeptOff 87 = .ok (.ifCond .le 18, 3) := by decide +kernel
theorem dX6_isKeptOff_90 : decode cX6_isKeptOff 90 = .ok (.iload 9, 2) := by decide +kernel
theorem dX6_isKeptOff_92 : decode cX6_isKeptOff 92 = .ok (.aload 6, 2) := by decide +kernel
theorem dX6_isKeptOff_94 : decode cX6_isKeptOff 94 = .ok (.getfield 98, 3) := by decide +kernel
theorem dX6_isKeptOff_97 : decode cX6_isKeptOff 97 = .ok (.iload 7, 2) := by decide +kernel
theorem dX6_isKeptOff_99 : decode cX6_isKeptOff 99 = .ok (.iaload, 1) := by decide +kernel
theorem dX6_isKeptOff_100 : decode cX6_isKeptOff 100 = .ok (.if_icmp .gt 5, 3) := by decide +kernel
theorem dX6_isKeptOff_103 : decode cX6_isKeptOff 103 = .ok (.iconst 1, 1) := by decide +kernel
theorem dX6_isKeptOff_104 : decode cX6_isKeptOff 104 = .ok (.ireturn, 1) := by decide +kernel
theorem dX6_isKeptOff_105 : decode cX6_isKeptOff 105 = .ok (.iload_n 3, 1) := by decide +kernel
theorem dX6_isKeptOff_106 : decode cX6_isKeptOff 106 = .ok (.ifCond .ne 11, 3) := by decide +kernel
theorem dX6_isKeptOff_109 : decode cX6_isKeptOff 109 = .ok (.iload 9, 2) := by decide +kernel
theorem dX6_isKeptOff_111 : decode cX6_isKeptOff 111 = .ok (.iload 4, 2) := by decide +kernel
theorem dX6_isKeptOff_113 : decode cX6_isKeptOff 113 = .ok (.imul, 1) := by decide +kernel
theorem dX6_isKeptOff_114 : decode cX6_isKeptOff 114 = .ok (.goto 7, 3) := by decide +kernel
theorem dX6_isKeptOff_117 : decode cX6_isKeptOff 117 = .ok (.iload 8, 2) := by decide +kernel
theorem dX6_isKeptOff_119 : decode cX6_isKeptOff 119 = .ok (.iload_n 3, 1) := by decide +kernel
theorem dX6_isKeptOff_120 : decode cX6_isKeptOff 120 = .ok (.imul, 1) := by decide +kernel
theorem dX6_isKeptOff_121 : decode cX6_isKeptOff 121 = .ok (.istore 10, 2) := by decide +kernel
theorem dX6_isKeptOff_123 : decode cX6_isKeptOff 123 = .ok (.aload 6, 2) := by decide +kernel
theorem dX6_isKeptOff_125 : decode cX6_isKeptOff 125 = .ok (.getfield 58, 3) := by decide +kernel
theorem dX6_isKeptOff_128 : decode cX6_isKeptOff 128 = .ok (.iload 7, 2) := by decide +kernel
theorem dX6_isKeptOff_130 : decode cX6_isKeptOff 130 = .ok (.iaload, 1) := by decide +kernel
theorem dX6_isKeptOff_131 : decode cX6_isKeptOff 131 = .ok (.aload 6, 2) := by decide +kernel
theorem dX6_isKeptOff_133 : decode cX6_isKeptOff 133 = .ok (.getfield 58, 3) := by decide +kernel
theorem dX6_isKeptOff_136 : decode cX6_isKeptOff 136 = .ok (.iload_n 1, 1) := by decide +kernel
theorem dX6_isKeptOff_137 : decode cX6_isKeptOff 137 = .ok (.iaload, 1) := by decide +kernel
theorem dX6_isKeptOff_138 : decode cX6_isKeptOff 138 = .ok (.if_icmp .le 36, 3) := by decide +kernel
theorem dX6_isKeptOff_141 : decode cX6_isKeptOff 141 = .ok (.iload 10, 2) := by decide +kernel
theorem dX6_isKeptOff_143 : decode cX6_isKeptOff 143 = .ok (.ifCond .le 31, 3) := by decide +kernel
theorem dX6_isKeptOff_146 : decode cX6_isKeptOff 146 = .ok (.iload 10, 2) := by decide +kernel
theorem dX6_isKeptOff_148 : decode cX6_isKeptOff 148 = .ok (.iload 5, 2) := by decide +kernel
theorem dX6_isKeptOff_150 : decode cX6_isKeptOff 150 = .ok (.if_icmp .ge 24, 3) := by decide +kernel
theorem dX6_isKeptOff_153 : decode cX6_isKeptOff 153 = .ok (.iload 8, 2) := by decide +kernel
theorem dX6_isKeptOff_155 : decode cX6_isKeptOff 155 = .ok (.iload_n 3, 1) := by decide +kernel
theorem dX6_isKeptOff_156 : decode cX6_isKeptOff 156 = .ok (.iload 10, 2) := by decide +kernel
theorem dX6_isKeptOff_158 : decode cX6_isKeptOff 158 = .ok (.imul, 1) := by decide +kernel
theorem dX6_isKeptOff_159 : decode cX6_isKeptOff 159 = .ok (.if_icmp .ne 15, 3) := by decide +kernel
theorem dX6_isKeptOff_162 : decode cX6_isKeptOff 162 = .ok (.iload 9, 2) := by decide +kernel
theorem dX6_isKeptOff_164 : decode cX6_isKeptOff 164 = .ok (.iload 4, 2) := by decide +kernel
theorem dX6_isKeptOff_166 : decode cX6_isKeptOff 166 = .ok (.iload 10, 2) := by decide +kernel
theorem dX6_isKeptOff_168 : decode cX6_isKeptOff 168 = .ok (.imul, 1) := by decide +kernel
theorem dX6_isKeptOff_169 : decode cX6_isKeptOff 169 = .ok (.if_icmp .ne 5, 3) := by decide +kernel
theorem dX6_isKeptOff_172 : decode cX6_isKeptOff 172 = .ok (.iconst 1, 1) := by decide +kernel
theorem dX6_isKeptOff_173 : decode cX6_isKeptOff 173 = .ok (.ireturn, 1) := by decide +kernel
theorem dX6_isKeptOff_174 : decode cX6_isKeptOff 174 = .ok (.iinc 7 1, 3) := by decide +kernel
theorem dX6_isKeptOff_177 : decode cX6_isKeptOff 177 = .ok (.goto (-165), 3) := by decide +kernel
theorem dX6_isKeptOff_180 : decode cX6_isKeptOff 180 = .ok (.iconst 0, 1) := by decide +kernel
theorem dX6_isKeptOff_181 : decode cX6_isKeptOff 181 = .ok (.ireturn, 1) := by decide +kernel
def L_X6_isKeptOff_12 (C : aM → List Value → aH → aO → aH → Prop) (sc : Nat × (Nat → Int32)) (P : aO → aH → Prop) (u : Nat) (x1 : Int) (x2 : Int) (x3 : Int) (x4 : Int) (x5 : Int) (x7 : Int) (σ : aH) : Prop :=
    wp C 6 cX6_isKeptOff 11 (some .boolean) false [] sc P 12 [(0, .ref 27), (1, .int (nZ x1)), (2, .int (nZ x2)), (3, .int (nZ x3)), (4, .int (nZ x4)), (5, .int (nZ x5)), (6, .ref (u + 1)), (7, .int (nZ x7))] [] σ
def L_X6_isKeptOff_121 (C : aM → List Value → aH → aO → aH → Prop) (sc : Nat × (Nat → Int32)) (P : aO → aH → Prop) (u : Nat) (x1 : Int) (x2 : Int) (x3 : Int) (x4 : Int) (x5 : Int) (x7 : Int) (x8 : Int) (x9 : Int) (s0 : Int) (σ : aH) : Prop :=
    wp C 6 cX6_isKeptOff 11 (some .boolean) false [] sc P 121 [(0, .ref 27), (1, .int (nZ x1)), (2, .int (nZ x2)), (3, .int (nZ x3)), (4, .int (nZ x4)), (5, .int (nZ x5)), (6, .ref (u + 1)), (7, .int (nZ x7)), (8, .int (nZ x8)), (9, .int (nZ x9))] [.int (nZ s0)] σ
set_option maxRecDepth 10000 in
theorem t_X6_isKeptOff {sc : Nat × (Nat → Int32)} {d : Nat} {Q : aO → aH → Prop} {σ : aH} {u : Nat}  {x1 : Int} {x2 : Int} {x3 : Int} {x4 : Int} {x5 : Int} (hG : G σ u) (rx1 : inR x1) (rx2 : inR x2) (rx3 : inR x3) (rx4 : inR x4) (rx5 : inR x5)
    (h : L_X6_isKeptOff_12 (Ev sc d) sc Q u x1 x2 x3 x4 x5 0 σ) :
    T sc (d + 1) mX6_isKeptOff [.ref 27, .int (nZ x1), .int (nZ x2), .int (nZ x3), .int (nZ x4), .int (nZ x5)] σ Q := by
  refine T.of (c := 6) (code := cX6_isKeptOff) (mL := 11) (rt := (some .boolean)) (ini := false) (l := [(0, .ref 27), (1, .int (nZ x1)), (2, .int (nZ x2)), (3, .int (nZ x3)), (4, .int (nZ x4)), (5, .int (nZ x5))]) rfl rfl rfl rfl (by decide) hs_X6_isKeptOff rfl rfl ?_
  refine w_aload_n dX6_isKeptOff_0 rfl (List.Mem.head _) ?_
  refine w_getM (ci := 6) (k := 5) (b := u) dX6_isKeptOff_1 fl_6_34 (by decide) (gT hG rfl (lt_of rfl)) hG.2.2.2.1 ?_
  refine w_getR (ci := 2) (k := 0) (b := (u + 1)) dX6_isKeptOff_4 fl_6_54 (by decide) (gT hG (IsMk_t0 hG.2.2.2.2) (IsMk_lt hG.2.2.2.2 (k := 0) (by decide))) (gR hG (IsMk_r0_0 hG.2.2.2.2)) ?_
  refine w_astore (l' := [(6, .ref (u + 1)), (0, .ref 27), (1, .int (nZ x1)), (2, .int (nZ x2)), (3, .int (nZ x3)), (4, .int (nZ x4)), (5, .int (nZ x5))]) dX6_isKeptOff_7 (by decide) rfl ?_
  refine w_iconst (v := nZ 0) dX6_isKeptOff_9 (by decide) ?_
  refine w_istore (l' := [(7, .int (nZ 0)), (6, .ref (u + 1)), (0, .ref 27), (1, .int (nZ x1)), (2, .int (nZ x2)), (3, .int (nZ x3)), (4, .int (nZ x4)), (5, .int (nZ x5))]) dX6_isKeptOff_10 (by decide) rfl ?_
  exact w_weak (l' := [(0, .ref 27), (1, .int (nZ x1)), (2, .int (nZ x2)), (3, .int (nZ x3)), (4, .int (nZ x4)), (5, .int (nZ x5)), (6, .ref (u + 1)), (7, .int (nZ 0))]) (by intro q hq; simp only [List.mem_cons, List.not_mem_nil, or_false] at hq ⊢; rcases hq with rfl | rfl | rfl | rfl | rfl | rfl | rfl | rfl <;> simp) h
set_option maxRecDepth 10000 in
theorem v_X6_isKeptOff_12 {C : aM → List Value → aH → aO → aH → Prop} {sc : Nat × (Nat → Int32)} {P : aO → aH → Prop} {σ : aH} {u : Nat}  {x1 : Int} {x2 : Int} {x3 : Int} {x4 : Int} {x5 : Int} {x7 : Int} (hG : G σ u) (rx1 : inR x1) (rx2 : inR x2) (rx3 : inR x3) (rx4 : inR x4) (rx5 : inR x5) (rx7 : inR x7)
    (h : (((rI σ (u + 1) 8) ≤ x7 → P (.inl (some (.int (nZ 0)))) σ) ∧ (¬ ((rI σ (u + 1) 8) ≤ x7) → ((x7 = x1 → (inR (x7 + 1) ∧ L_X6_isKeptOff_12 C sc P u x1 x2 x3 x4 x5 (x7 + 1) σ)) ∧ (¬ (x7 = x1) → ((x7 = x2 → (inR (x7 + 1) ∧ L_X6_isKeptOff_12 C sc P u x1 x2 x3 x4 x5 (x7 + 1) σ)) ∧ (¬ (x7 = x2) → ((x7 = (rI σ (u + 1) 9) → (inR (x7 + 1) ∧ L_X6_isKeptOff_12 C sc P u x1 x2 x3 x4 x5 (x7 + 1) σ)) ∧ (¬ (x7 = (rI σ (u + 1) 9)) → ((0 ≤ x2 ∧ x2 < 9) ∧ ((0 ≤ x7 ∧ x7 < 9) ∧ (inR ((rI σ (u + 2) x2) - (rI σ (u + 2) x7)) ∧ (∀ z5 : Int, z5 = ((rI σ (u + 2) x2) - (rI σ (u + 2) x7)) → ((0 ≤ x2 ∧ x2 < 9) ∧ ((0 ≤ x7 ∧ x7 < 9) ∧ (inR ((rI σ (u + 3) x2) - (rI σ (u + 3) x7)) ∧ (∀ z9 : Int, z9 = ((rI σ (u + 3) x2) - (rI σ (u + 3) x7)) → ((¬ z5 = 0 → ((¬ x3 = 0 → (inR (z5 * x3) ∧ L_X6_isKeptOff_121 C sc P u x1 x2 x3 x4 x5 x7 z5 z9 (z5 * x3) σ)) ∧ (x3 = 0 → (inR (z9 * x4) ∧ L_X6_isKeptOff_121 C sc P u x1 x2 x3 x4 x5 x7 z5 z9 (z9 * x4) σ)))) ∧ (z5 = 0 → ((z9 ≤ 0 → ((¬ x3 = 0 → (inR (z5 * x3) ∧ L_X6_isKeptOff_121 C sc P u x1 x2 x3 x4 x5 x7 z5 z9 (z5 * x3) σ)) ∧ (x3 = 0 → (inR (z9 * x4) ∧ L_X6_isKeptOff_121 C sc P u x1 x2 x3 x4 x5 x7 z5 z9 (z9 * x4) σ)))) ∧ (¬ (z9 ≤ 0) → ((0 ≤ x7 ∧ x7 < 9) ∧ (((rI σ (u + 5) x7) < z9 → ((¬ x3 = 0 → (inR (z5 * x3) ∧ L_X6_isKeptOff_121 C sc P u x1 x2 x3 x4 x5 x7 z5 z9 (z5 * x3) σ)) ∧ (x3 = 0 → (inR (z9 * x4) ∧ L_X6_isKeptOff_121 C sc P u x1 x2 x3 x4 x5 x7 z5 z9 (z9 * x4) σ)))) ∧ (¬ ((rI σ (u + 5) x7) < z9) → P (.inl (some (.int (nZ 1)))) σ)))))))))))))))))))))))) :
    L_X6_isKeptOff_12 C sc P u x1 x2 x3 x4 x5 x7 σ := by
  unfold L_X6_isKeptOff_12
  refine w_iload dX6_isKeptOff_12 (List.Mem.tail _ (List.Mem.tail _ (List.Mem.tail _ (List.Mem.tail _ (List.Mem.tail _ (List.Mem.tail _ (List.Mem.tail _ (List.Mem.head _)))))))) ?_
  refine w_aload dX6_isKeptOff_14 (List.Mem.tail _ (List.Mem.tail _ (List.Mem.tail _ (List.Mem.tail _ (List.Mem.tail _ (List.Mem.tail _ (List.Mem.head _))))))) ?_
  refine i_getI (ci := 7) 8 rfl dX6_isKeptOff_16 fl_6_92 (by decide) (gT hG (IsMk_t1 hG.2.2.2.2) (IsMk_lt hG.2.2.2.2 (k := 1) (by decide))) ?_
  refine i_cmp_ge (tgt := 180) dX6_isKeptOff_19 rfl rx7 (rI_R _ _ _) (fun c9 => ?_) (fun c9 => ?_)
  · replace h := h.1 c9
    refine w_iconst (v := nZ 0) dX6_isKeptOff_180 (by decide) ?_
    exact i_zret dX6_isKeptOff_181 rfl (by decide) h
  · replace h := h.2 c9
    refine w_iload dX6_isKeptOff_22 (List.Mem.tail _ (List.Mem.tail _ (List.Mem.tail _ (List.Mem.tail _ (List.Mem.tail _ (List.Mem.tail _ (List.Mem.tail _ (List.Mem.head _)))))))) ?_
    refine w_iload_n dX6_isKeptOff_24 rfl (List.Mem.tail _ (List.Mem.head _)) ?_
    refine i_cmp_eq (tgt := 174) dX6_isKeptOff_25 rfl rx7 rx1 (fun c9 => ?_) (fun c9 => ?_)
    · replace h := h.1 c9
      obtain ⟨q1, h⟩ := h
      refine w_iinc (v := nZ (x7 + 1)) (l' := [(7, .int (nZ (x7 + 1))), (0, .ref 27), (1, .int (nZ x1)), (2, .int (nZ x2)), (3, .int (nZ x3)), (4, .int (nZ x4)), (5, .int (nZ x5)), (6, .ref (u + 1))]) dX6_isKeptOff_174 (List.Mem.tail _ (List.Mem.tail _ (List.Mem.tail _ (List.Mem.tail _ (List.Mem.tail _ (List.Mem.tail _ (List.Mem.tail _ (List.Mem.head _)))))))) (nZ_add _ _) (by decide) rfl ?_
      refine w_goto (tgt := 12) dX6_isKeptOff_177 rfl ?_
      exact w_weak (l' := [(0, .ref 27), (1, .int (nZ x1)), (2, .int (nZ x2)), (3, .int (nZ x3)), (4, .int (nZ x4)), (5, .int (nZ x5)), (6, .ref (u + 1)), (7, .int (nZ (x7 + 1)))]) (by intro q hq; simp only [List.mem_cons, List.not_mem_nil, or_false] at hq ⊢; rcases hq with rfl | rfl | rfl | rfl | rfl | rfl | rfl | rfl <;> simp) h
    · replace h := h.2 c9
      refine w_iload dX6_isKeptOff_28 (List.Mem.tail _ (List.Mem.tail _ (List.Mem.tail _ (List.Mem.tail _ (List.Mem.tail _ (List.Mem.tail _ (List.Mem.tail _ (List.Mem.head _)))))))) ?_
      refine w_iload_n dX6_isKeptOff_30 rfl (List.Mem.tail _ (List.Mem.tail _ (List.Mem.head _))) ?_
      refine i_cmp_eq (tgt := 174) dX6_isKeptOff_31 rfl rx7 rx2 (fun c9 => ?_) (fun c9 => ?_)
      · replace h := h.1 c9
        obtain ⟨q2, h⟩ := h
        refine w_iinc (v := nZ (x7 + 1)) (l' := [(7, .int (nZ (x7 + 1))), (0, .ref 27), (1, .int (nZ x1)), (2, .int (nZ x2)), (3, .int (nZ x3)), (4, .int (nZ x4)), (5, .int (nZ x5)), (6, .ref (u + 1))]) dX6_isKeptOff_174 (List.Mem.tail _ (List.Mem.tail _ (List.Mem.tail _ (List.Mem.tail _ (List.Mem.tail _ (List.Mem.tail _ (List.Mem.tail _ (List.Mem.head _)))))))) (nZ_add _ _) (by decide) rfl ?_
        refine w_goto (tgt := 12) dX6_isKeptOff_177 rfl ?_
        exact w_weak (l' := [(0, .ref 27), (1, .int (nZ x1)), (2, .int (nZ x2)), (3, .int (nZ x3)), (4, .int (nZ x4)), (5, .int (nZ x5)), (6, .ref (u + 1)), (7, .int (nZ (x7 + 1)))]) (by intro q hq; simp only [List.mem_cons, List.not_mem_nil, or_false] at hq ⊢; rcases hq with rfl | rfl | rfl | rfl | rfl | rfl | rfl | rfl <;> simp) h
      · replace h := h.2 c9
        refine w_iload dX6_isKeptOff_34 (List.Mem.tail _ (List.Mem.tail _ (List.Mem.tail _ (List.Mem.tail _ (List.Mem.tail _ (List.Mem.tail _ (List.Mem.tail _ (List.Mem.head _)))))))) ?_
        refine w_aload dX6_isKeptOff_36 (List.Mem.tail _ (List.Mem.tail _ (List.Mem.tail _ (List.Mem.tail _ (List.Mem.tail _ (List.Mem.tail _ (List.Mem.head _))))))) ?_
        refine i_getI (ci := 7) 9 rfl dX6_isKeptOff_38 fl_6_95 (by decide) (gT hG (IsMk_t1 hG.2.2.2.2) (IsMk_lt hG.2.2.2.2 (k := 1) (by decide))) ?_
        refine i_cmp_eq (tgt := 174) dX6_isKeptOff_41 rfl rx7 (rI_R _ _ _) (fun c9 => ?_) (fun c9 => ?_)
        · replace h := h.1 c9
          obtain ⟨q3, h⟩ := h
          refine w_iinc (v := nZ (x7 + 1)) (l' := [(7, .int (nZ (x7 + 1))), (0, .ref 27), (1, .int (nZ x1)), (2, .int (nZ x2)), (3, .int (nZ x3)), (4, .int (nZ x4)), (5, .int (nZ x5)), (6, .ref (u + 1))]) dX6_isKeptOff_174 (List.Mem.tail _ (List.Mem.tail _ (List.Mem.tail _ (List.Mem.tail _ (List.Mem.tail _ (List.Mem.tail _ (List.Mem.tail _ (List.Mem.head _)))))))) (nZ_add _ _) (by decide) rfl ?_
          refine w_goto (tgt := 12) dX6_isKeptOff_177 rfl ?_
          exact w_weak (l' := [(0, .ref 27), (1, .int (nZ x1)), (2, .int (nZ x2)), (3, .int (nZ x3)), (4, .int (nZ x4)), (5, .int (nZ x5)), (6, .ref (u + 1)), (7, .int (nZ (x7 + 1)))]) (by intro q hq; simp only [List.mem_cons, List.not_mem_nil, or_false] at hq ⊢; rcases hq with rfl | rfl | rfl | rfl | rfl | rfl | rfl | rfl <;> simp) h
        · replace h := h.2 c9
          refine w_aload dX6_isKeptOff_44 (List.Mem.tail _ (List.Mem.tail _ (List.Mem.tail _ (List.Mem.tail _ (List.Mem.tail _ (List.Mem.tail _ (List.Mem.head _))))))) ?_
          refine w_getR (ci := 7) (k := 0) (b := (u + 2)) dX6_isKeptOff_46 fl_6_67 (by decide) (gT hG (IsMk_t1 hG.2.2.2.2) (IsMk_lt hG.2.2.2.2 (k := 1) (by decide))) (gR hG (IsMk_r1_0 hG.2.2.2.2)) ?_
          refine w_iload_n dX6_isKeptOff_49 rfl (List.Mem.tail _ (List.Mem.tail _ (List.Mem.head _))) ?_
          obtain ⟨h9, h⟩ := h
          refine i_iald (n := 9) dX6_isKeptOff_50 (gT hG (IsMk_t2 hG.2.2.2.2) (IsMk_lt hG.2.2.2.2 (k := 2) (by decide))) (gL hG (IsMk_n2 hG.2.2.2.2)) rx2 h9 ?_
          refine w_aload dX6_isKeptOff_51 (List.Mem.tail _ (List.Mem.tail _ (List.Mem.tail _ (List.Mem.tail _ (List.Mem.tail _ (List.Mem.tail _ (List.Mem.head _))))))) ?_
          refine w_getR (ci := 7) (k := 0) (b := (u + 2)) dX6_isKeptOff_53 fl_6_67 (by decide) (gT hG (IsMk_t1 hG.2.2.2.2) (IsMk_lt hG.2.2.2.2 (k := 1) (by decide))) (gR hG (IsMk_r1_0 hG.2.2.2.2)) ?_
          refine w_iload dX6_isKeptOff_56 (List.Mem.tail _ (List.Mem.tail _ (List.Mem.tail _ (List.Mem.tail _ (List.Mem.tail _ (List.Mem.tail _ (List.Mem.tail _ (List.Mem.head _)))))))) ?_
          obtain ⟨h9, h⟩ := h
          refine i_iald (n := 9) dX6_isKeptOff_58 (gT hG (IsMk_t2 hG.2.2.2.2) (IsMk_lt hG.2.2.2.2 (k := 2) (by decide))) (gL hG (IsMk_n2 hG.2.2.2.2)) rx7 h9 ?_
          obtain ⟨q4, h⟩ := h
          refine i_sub dX6_isKeptOff_59 ?_
          refine top_i (fun z5 ez6 => ?_)
          have rz7 : inR z5 := ez6 ▸ q4
          replace h := h z5 ez6
          refine w_istore (l' := [(8, .int (nZ z5)), (0, .ref 27), (1, .int (nZ x1)), (2, .int (nZ x2)), (3, .int (nZ x3)), (4, .int (nZ x4)), (5, .int (nZ x5)), (6, .ref (u + 1)), (7, .int (nZ x7))]) dX6_isKeptOff_60 (by decide) rfl ?_
          refine w_aload dX6_isKeptOff_62 (List.Mem.tail _ (List.Mem.tail _ (List.Mem.tail _ (List.Mem.tail _ (List.Mem.tail _ (List.Mem.tail _ (List.Mem.tail _ (List.Mem.head _)))))))) ?_
          refine w_getR (ci := 7) (k := 1) (b := (u + 3)) dX6_isKeptOff_64 fl_6_70 (by decide) (gT hG (IsMk_t1 hG.2.2.2.2) (IsMk_lt hG.2.2.2.2 (k := 1) (by decide))) (gR hG (IsMk_r1_1 hG.2.2.2.2)) ?_
          refine w_iload_n dX6_isKeptOff_67 rfl (List.Mem.tail _ (List.Mem.tail _ (List.Mem.tail _ (List.Mem.head _)))) ?_
          obtain ⟨h9, h⟩ := h
          refine i_iald (n := 9) dX6_isKeptOff_68 (gT hG (IsMk_t3 hG.2.2.2.2) (IsMk_lt hG.2.2.2.2 (k := 3) (by decide))) (gL hG (IsMk_n3 hG.2.2.2.2)) rx2 h9 ?_
          refine w_aload dX6_isKeptOff_69 (List.Mem.tail _ (List.Mem.tail _ (List.Mem.tail _ (List.Mem.tail _ (List.Mem.tail _ (List.Mem.tail _ (List.Mem.tail _ (List.Mem.head _)))))))) ?_
          refine w_getR (ci := 7) (k := 1) (b := (u + 3)) dX6_isKeptOff_71 fl_6_70 (by decide) (gT hG (IsMk_t1 hG.2.2.2.2) (IsMk_lt hG.2.2.2.2 (k := 1) (by decide))) (gR hG (IsMk_r1_1 hG.2.2.2.2)) ?_
          refine w_iload dX6_isKeptOff_74 (List.Mem.tail _ (List.Mem.tail _ (List.Mem.tail _ (List.Mem.tail _ (List.Mem.tail _ (List.Mem.tail _ (List.Mem.tail _ (List.Mem.tail _ (List.Mem.head _))))))))) ?_
          obtain ⟨h9, h⟩ := h
          refine i_iald (n := 9) dX6_isKeptOff_76 (gT hG (IsMk_t3 hG.2.2.2.2) (IsMk_lt hG.2.2.2.2 (k := 3) (by decide))) (gL hG (IsMk_n3 hG.2.2.2.2)) rx7 h9 ?_
          obtain ⟨q8, h⟩ := h
          refine i_sub dX6_isKeptOff_77 ?_
          refine top_i (fun z9 ez10 => ?_)
          have rz11 : inR z9 := ez10 ▸ q8
          replace h := h z9 ez10
          refine w_istore (l' := [(9, .int (nZ z9)), (8, .int (nZ z5)), (0, .ref 27), (1, .int (nZ x1)), (2, .int (nZ x2)), (3, .int (nZ x3)), (4, .int (nZ x4)), (5, .int (nZ x5)), (6, .ref (u + 1)), (7, .int (nZ x7))]) dX6_isKeptOff_78 (by decide) rfl ?_
          refine w_iload dX6_isKeptOff_80 (List.Mem.tail _ (List.Mem.head _)) ?_
          refine i_if_ne (tgt := 105) dX6_isKeptOff_82 rfl rz7 (fun c9 => ?_) (fun c9 => ?_)
          · replace h := h.1 c9
            refine w_iload_n dX6_isKeptOff_105 rfl (List.Mem.tail _ (List.Mem.tail _ (List.Mem.tail _ (List.Mem.tail _ (List.Mem.tail _ (List.Mem.head _)))))) ?_
            refine i_if_ne (tgt := 117) dX6_isKeptOff_106 rfl rx3 (fun c9 => ?_) (fun c9 => ?_)
            · replace h := h.1 c9
              refine w_iload dX6_isKeptOff_117 (List.Mem.tail _ (List.Mem.head _)) ?_
              refine w_iload_n dX6_isKeptOff_119 rfl (List.Mem.tail _ (List.Mem.tail _ (List.Mem.tail _ (List.Mem.tail _ (List.Mem.tail _ (List.Mem.head _)))))) ?_
              obtain ⟨q12, h⟩ := h
              refine i_mul dX6_isKeptOff_120 ?_
              exact w_weak (l' := [(0, .ref 27), (1, .int (nZ x1)), (2, .int (nZ x2)), (3, .int (nZ x3)), (4, .int (nZ x4)), (5, .int (nZ x5)), (6, .ref (u + 1)), (7, .int (nZ x7)), (8, .int (nZ z5)), (9, .int (nZ z9))]) (by intro q hq; simp only [List.mem_cons, List.not_mem_nil, or_false] at hq ⊢; rcases hq with rfl | rfl | rfl | rfl | rfl | rfl | rfl | rfl | rfl | rfl <;> simp) h
            · replace h := h.2 c9
              refine w_iload dX6_isKeptOff_109 (List.Mem.head _) ?_
              refine w_iload dX6_isKeptOff_111 (List.Mem.tail _ (List.Mem.tail _ (List.Mem.tail _ (List.Mem.tail _ (List.Mem.tail _ (List.Mem.tail _ (List.Mem.head _))))))) ?_
              obtain ⟨q13, h⟩ := h
              refine i_mul dX6_isKeptOff_113 ?_
              refine w_goto (tgt := 121) dX6_isKeptOff_114 rfl ?_
              exact w_weak (l' := [(0, .ref 27), (1, .int (nZ x1)), (2, .int (nZ x2)), (3, .int (nZ x3)), (4, .int (nZ x4)), (5, .int (nZ x5)), (6, .ref (u + 1)), (7, .int (nZ x7)), (8, .int (nZ z5)), (9, .int (nZ z9))]) (by intro q hq; simp only [List.mem_cons, List.not_mem_nil, or_false] at hq ⊢; rcases hq with rfl | rfl | rfl | rfl | rfl | rfl | rfl | rfl | rfl | rfl <;> simp) h
          · replace h := h.2 c9
            refine w_iload dX6_isKeptOff_85 (List.Mem.head _) ?_
            refine i_if_le (tgt := 105) dX6_isKeptOff_87 rfl rz11 (fun c9 => ?_) (fun c9 => ?_)
            · replace h := h.1 c9
              refine w_iload_n dX6_isKeptOff_105 rfl (List.Mem.tail _ (List.Mem.tail _ (List.Mem.tail _ (List.Mem.tail _ (List.Mem.tail _ (List.Mem.head _)))))) ?_
              refine i_if_ne (tgt := 117) dX6_isKeptOff_106 rfl rx3 (fun c9 => ?_) (fun c9 => ?_)
              · replace h := h.1 c9
                refine w_iload dX6_isKeptOff_117 (List.Mem.tail _ (List.Mem.head _)) ?_
                refine w_iload_n dX6_isKeptOff_119 rfl (List.Mem.tail _ (List.Mem.tail _ (List.Mem.tail _ (List.Mem.tail _ (List.Mem.tail _ (List.Mem.head _)))))) ?_
                obtain ⟨q14, h⟩ := h
                refine i_mul dX6_isKeptOff_120 ?_
                exact w_weak (l' := [(0, .ref 27), (1, .int (nZ x1)), (2, .int (nZ x2)), (3, .int (nZ x3)), (4, .int (nZ x4)), (5, .int (nZ x5)), (6, .ref (u + 1)), (7, .int (nZ x7)), (8, .int (nZ z5)), (9, .int (nZ z9))]) (by intro q hq; simp only [List.mem_cons, List.not_mem_nil, or_false] at hq ⊢; rcases hq with rfl | rfl | rfl | rfl | rfl | rfl | rfl | rfl | rfl | rfl <;> simp) h
              · replace h := h.2 c9
                refine w_iload dX6_isKeptOff_109 (List.Mem.head _) ?_
                refine w_iload dX6_isKeptOff_111 (List.Mem.tail _ (List.Mem.tail _ (List.Mem.tail _ (List.Mem.tail _ (List.Mem.tail _ (List.Mem.tail _ (List.Mem.head _))))))) ?_
                obtain ⟨q15, h⟩ := h
                refine i_mul dX6_isKeptOff_113 ?_
                refine w_goto (tgt := 121) dX6_isKeptOff_114 rfl ?_
                exact w_weak (l' := [(0, .ref 27), (1, .int (nZ x1)), (2, .int (nZ x2)), (3, .int (nZ x3)), (4, .int (nZ x4)), (5, .int (nZ x5)), (6, .ref (u + 1)), (7, .int (nZ x7)), (8, .int (nZ z5)), (9, .int (nZ z9))]) (by intro q hq; simp only [List.mem_cons, List.not_mem_nil, or_false] at hq ⊢; rcases hq with rfl | rfl | rfl | rfl | rfl | rfl | rfl | rfl | rfl | rfl <;> simp) h
            · replace h := h.2 c9
              refine w_iload dX6_isKeptOff_90 (List.Mem.head _) ?_
              refine w_aload dX6_isKeptOff_92 (List.Mem.tail _ (List.Mem.tail _ (List.Mem.tail _ (List.Mem.tail _ (List.Mem.tail _ (List.Mem.tail _ (List.Mem.tail _ (List.Mem.tail _ (List.Mem.head _))))))))) ?_
              refine w_getR (ci := 7) (k := 3) (b := (u + 5)) dX6_isKeptOff_94 fl_6_98 (by decide) (gT hG (IsMk_t1 hG.2.2.2.2) (IsMk_lt hG.2.2.2.2 (k := 1) (by decide))) (gR hG (IsMk_r1_3 hG.2.2.2.2)) ?_
              refine w_iload dX6_isKeptOff_97 (List.Mem.tail _ (List.Mem.tail _ (List.Mem.tail _ (List.Mem.tail _ (List.Mem.tail _ (List.Mem.tail _ (List.Mem.tail _ (List.Mem.tail _ (List.Mem.tail _ (List.Mem.head _)))))))))) ?_
              obtain ⟨h9, h⟩ := h
              refine i_iald (n := 9) dX6_isKeptOff_99 (gT hG (IsMk_t5 hG.2.2.2.2) (IsMk_lt hG.2.2.2.2 (k := 5) (by decide))) (gL hG (IsMk_n5 hG.2.2.2.2)) rx7 h9 ?_
              refine i_cmp_gt (tgt := 105) dX6_isKeptOff_100 rfl rz11 (rI_R _ _ _) (fun c9 => ?_) (fun c9 => ?_)
              · replace h := h.1 c9
                refine w_iload_n dX6_isKeptOff_105 rfl (List.Mem.tail _ (List.Mem.tail _ (List.Mem.tail _ (List.Mem.tail _ (List.Mem.tail _ (List.Mem.head _)))))) ?_
                refine i_if_ne (tgt := 117) dX6_isKeptOff_106 rfl rx3 (fun c9 => ?_) (fun c9 => ?_)
                · replace h := h.1 c9
                  refine w_iload dX6_isKeptOff_117 (List.Mem.tail _ (List.Mem.head _)) ?_
                  refine w_iload_n dX6_isKeptOff_119 rfl (List.Mem.tail _ (List.Mem.tail _ (List.Mem.tail _ (List.Mem.tail _ (List.Mem.tail _ (List.Mem.head _)))))) ?_
                  obtain ⟨q16, h⟩ := h
                  refine i_mul dX6_isKeptOff_120 ?_
                  exact w_weak (l' := [(0, .ref 27), (1, .int (nZ x1)), (2, .int (nZ x2)), (3, .int (nZ x3)), (4, .int (nZ x4)), (5, .int (nZ x5)), (6, .ref (u + 1)), (7, .int (nZ x7)), (8, .int (nZ z5)), (9, .int (nZ z9))]) (by intro q hq; simp only [List.mem_cons, List.not_mem_nil, or_false] at hq ⊢; rcases hq with rfl | rfl | rfl | rfl | rfl | rfl | rfl | rfl | rfl | rfl <;> simp) h
                · replace h := h.2 c9
                  refine w_iload dX6_isKeptOff_109 (List.Mem.head _) ?_
                  refine w_iload dX6_isKeptOff_111 (List.Mem.tail _ (List.Mem.tail _ (List.Mem.tail _ (List.Mem.tail _ (List.Mem.tail _ (List.Mem.tail _ (List.Mem.head _))))))) ?_
                  obtain ⟨q17, h⟩ := h
                  refine i_mul dX6_isKeptOff_113 ?_
                  refine w_goto (tgt := 121) dX6_isKeptOff_114 rfl ?_
                  exact w_weak (l' := [(0, .ref 27), (1, .int (nZ x1)), (2, .int (nZ x2)), (3, .int (nZ x3)), (4, .int (nZ x4)), (5, .int (nZ x5)), (6, .ref (u + 1)), (7, .int (nZ x7)), (8, .int (nZ z5)), (9, .int (nZ z9))]) (by intro q hq; simp only [List.mem_cons, List.not_mem_nil, or_false] at hq ⊢; rcases hq with rfl | rfl | rfl | rfl | rfl | rfl | rfl | rfl | rfl | rfl <;> simp) h
              · replace h := h.2 c9
                refine w_iconst (v := nZ 1) dX6_isKeptOff_103 (by decide) ?_
                exact i_zret dX6_isKeptOff_104 rfl (by decide) h
set_option maxRecDepth 10000 in
theorem v_X6_isKeptOff_121 {C : aM → List Value → aH → aO → aH → Prop} {sc : Nat × (Nat → Int32)} {P : aO → aH → Prop} {σ : aH} {u : Nat}  {x1 : Int} {x2 : Int} {x3 : Int} {x4 : Int} {x5 : Int} {x7 : Int} {x8 : Int} {x9 : Int} {s0 : Int} (hG : G σ u) (rx1 : inR x1) (rx2 : inR x2) (rx3 : inR x3) (rx4 : inR x4) (rx5 : inR x5) (rx7 : inR x7) (rx8 : inR x8) (rx9 : inR x9) (rs0 : inR s0)
    (h : ((0 ≤ x7 ∧ x7 < 9) ∧ ((0 ≤ x1 ∧ x1 < 9) ∧ (((rI σ (u + 4) x7) ≤ (rI σ (u + 4) x1) → (inR (x7 + 1) ∧ L_X6_isKeptOff_12 C sc P u x1 x2 x3 x4 x5 (x7 + 1) σ)) ∧ (¬ ((rI σ (u + 4) x7) ≤ (rI σ (u + 4) x1)) → ((s0 ≤ 0 → (inR (x7 + 1) ∧ L_X6_isKeptOff_12 C sc P u x1 x2 x3 x4 x5 (x7 + 1) σ)) ∧ (¬ (s0 ≤ 0) → ((x5 ≤ s0 → (inR (x7 + 1) ∧ L_X6_isKeptOff_12 C sc P u x1 x2 x3 x4 x5 (x7 + 1) σ)) ∧ (¬ (x5 ≤ s0) → (inR (x3 * s0) ∧ ((¬ x8 = (x3 * s0) → (inR (x7 + 1) ∧ L_X6_isKeptOff_12 C sc P u x1 x2 x3 x4 x5 (x7 + 1) σ)) ∧ (x8 = (x3 * s0) → (inR (x4 * s0) ∧ ((¬ x9 = (x4 * s0) → (inR (x7 + 1) ∧ L_X6_isKeptOff_12 C sc P u x1 x2 x3 x4 x5 (x7 + 1) σ)) ∧ (x9 = (x4 * s0) → P (.inl (some (.int (nZ 1)))) σ))))))))))))))) :
    L_X6_isKeptOff_121 C sc P u x1 x2 x3 x4 x5 x7 x8 x9 s0 σ := by
  unfold L_X6_isKeptOff_121
  refine w_istore (l' := [(10, .int (nZ s0)), (0, .ref 27), (1, .int (nZ x1)), (2, .int (nZ x2)), (3, .int (nZ x3)), (4, .int (nZ x4)), (5, .int (nZ x5)), (6, .ref (u + 1)), (7, .int (nZ x7)), (8, .int (nZ x8)), (9, .int (nZ x9))]) dX6_isKeptOff_121 (by decide) rfl ?_
  refine w_aload dX6_isKeptOff_123 (List.Mem.tail _ (List.Mem.tail _ (List.Mem.tail _ (List.Mem.tail _ (List.Mem.tail _ (List.Mem.tail _ (List.Mem.tail _ (List.Mem.head _)))))))) ?_
  refine w_getR (ci := 7) (k := 2) (b := (u + 4)) dX6_isKeptOff_125 fl_6_58 (by decide) (gT hG (IsMk_t1 hG.2.2.2.2) (IsMk_lt hG.2.2.2.2 (k := 1) (by decide))) (gR hG (IsMk_r1_2 hG.2.2.2.2)) ?_
  refine w_iload dX6_isKeptOff_128 (List.Mem.tail _ (List.Mem.tail _ (List.Mem.tail _ (List.Mem.tail _ (List.Mem.tail _ (List.Mem.tail _ (List.Mem.tail _ (List.Mem.tail _ (List.Mem.head _))))))))) ?_
  obtain ⟨h9, h⟩ := h
  refine i_iald (n := 9) dX6_isKeptOff_130 (gT hG (IsMk_t4 hG.2.2.2.2) (IsMk_lt hG.2.2.2.2 (k := 4) (by decide))) (gL hG (IsMk_n4 hG.2.2.2.2)) rx7 h9 ?_
  refine w_aload dX6_isKeptOff_131 (List.Mem.tail _ (List.Mem.tail _ (List.Mem.tail _ (List.Mem.tail _ (List.Mem.tail _ (List.Mem.tail _ (List.Mem.tail _ (List.Mem.head _)))))))) ?_
  refine w_getR (ci := 7) (k := 2) (b := (u + 4)) dX6_isKeptOff_133 fl_6_58 (by decide) (gT hG (IsMk_t1 hG.2.2.2.2) (IsMk_lt hG.2.2.2.2 (k := 1) (by decide))) (gR hG (IsMk_r1_2 hG.2.2.2.2)) ?_
  refine w_iload_n dX6_isKeptOff_136 rfl (List.Mem.tail _ (List.Mem.tail _ (List.Mem.head _))) ?_
  obtain ⟨h9, h⟩ := h
  refine i_iald (n := 9) dX6_isKeptOff_137 (gT hG (IsMk_t4 hG.2.2.2.2) (IsMk_lt hG.2.2.2.2 (k := 4) (by decide))) (gL hG (IsMk_n4 hG.2.2.2.2)) rx1 h9 ?_
  refine i_cmp_le (tgt := 174) dX6_isKeptOff_138 rfl (rI_R _ _ _) (rI_R _ _ _) (fun c9 => ?_) (fun c9 => ?_)
  · replace h := h.1 c9
    obtain ⟨q1, h⟩ := h
    refine w_iinc (v := nZ (x7 + 1)) (l' := [(7, .int (nZ (x7 + 1))), (10, .int (nZ s0)), (0, .ref 27), (1, .int (nZ x1)), (2, .int (nZ x2)), (3, .int (nZ x3)), (4, .int (nZ x4)), (5, .int (nZ x5)), (6, .ref (u + 1)), (8, .int (nZ x8)), (9, .int (nZ x9))]) dX6_isKeptOff_174 (List.Mem.tail _ (List.Mem.tail _ (List.Mem.tail _ (List.Mem.tail _ (List.Mem.tail _ (List.Mem.tail _ (List.Mem.tail _ (List.Mem.tail _ (List.Mem.head _))))))))) (nZ_add _ _) (by decide) rfl ?_
    refine w_goto (tgt := 12) dX6_isKeptOff_177 rfl ?_
    exact w_weak (l' := [(0, .ref 27), (1, .int (nZ x1)), (2, .int (nZ x2)), (3, .int (nZ x3)), (4, .int (nZ x4)), (5, .int (nZ x5)), (6, .ref (u + 1)), (7, .int (nZ (x7 + 1)))]) (by intro q hq; simp only [List.mem_cons, List.not_mem_nil, or_false] at hq ⊢; rcases hq with rfl | rfl | rfl | rfl | rfl | rfl | rfl | rfl <;> simp) h
  · replace h := h.2 c9
    refine w_iload dX6_isKeptOff_141 (List.Mem.head _) ?_
    refine i_if_le (tgt := 174) dX6_isKeptOff_143 rfl rs0 (fun c9 => ?_) (fun c9 => ?_)
    · replace h := h.1 c9
      obtain ⟨q2, h⟩ := h
      refine w_iinc (v := nZ (x7 + 1)) (l' := [(7, .int (nZ (x7 + 1))), (10, .int (nZ s0)), (0, .ref 27), (1, .int (nZ x1)), (2, .int (nZ x2)), (3, .int (nZ x3)), (4, .int (nZ x4)), (5, .int (nZ x5)), (6, .ref (u + 1)), (8, .int (nZ x8)), (9, .int (nZ x9))]) dX6_isKeptOff_174 (List.Mem.tail _ (List.Mem.tail _ (List.Mem.tail _ (List.Mem.tail _ (List.Mem.tail _ (List.Mem.tail _ (List.Mem.tail _ (List.Mem.tail _ (List.Mem.head _))))))))) (nZ_add _ _) (by decide) rfl ?_
      refine w_goto (tgt := 12) dX6_isKeptOff_177 rfl ?_
      exact w_weak (l' := [(0, .ref 27), (1, .int (nZ x1)), (2, .int (nZ x2)), (3, .int (nZ x3)), (4, .int (nZ x4)), (5, .int (nZ x5)), (6, .ref (u + 1)), (7, .int (nZ (x7 + 1)))]) (by intro q hq; simp only [List.mem_cons, List.not_mem_nil, or_false] at hq ⊢; rcases hq with rfl | rfl | rfl | rfl | rfl | rfl | rfl | rfl <;> simp) h
    · replace h := h.2 c9
      refine w_iload dX6_isKeptOff_146 (List.Mem.head _) ?_
      refine w_iload dX6_isKeptOff_148 (List.Mem.tail _ (List.Mem.tail _ (List.Mem.tail _ (List.Mem.tail _ (List.Mem.tail _ (List.Mem.tail _ (List.Mem.head _))))))) ?_
      refine i_cmp_ge (tgt := 174) dX6_isKeptOff_150 rfl rs0 rx5 (fun c9 => ?_) (fun c9 => ?_)
      · replace h := h.1 c9
        obtain ⟨q3, h⟩ := h
        refine w_iinc (v := nZ (x7 + 1)) (l' := [(7, .int (nZ (x7 + 1))), (10, .int (nZ s0)), (0, .ref 27), (1, .int (nZ x1)), (2, .int (nZ x2)), (3, .int (nZ x3)), (4, .int (nZ x4)), (5, .int (nZ x5)), (6, .ref (u + 1)), (8, .int (nZ x8)), (9, .int (nZ x9))]) dX6_isKeptOff_174 (List.Mem.tail _ (List.Mem.tail _ (List.Mem.tail _ (List.Mem.tail _ (List.Mem.tail _ (List.Mem.tail _ (List.Mem.tail _ (List.Mem.tail _ (List.Mem.head _))))))))) (nZ_add _ _) (by decide) rfl ?_
        refine w_goto (tgt := 12) dX6_isKeptOff_177 rfl ?_
        exact w_weak (l' := [(0, .ref 27), (1, .int (nZ x1)), (2, .int (nZ x2)), (3, .int (nZ x3)), (4, .int (nZ x4)), (5, .int (nZ x5)), (6, .ref (u + 1)), (7, .int (nZ (x7 + 1)))]) (by intro q hq; simp only [List.mem_cons, List.not_mem_nil, or_false] at hq ⊢; rcases hq with rfl | rfl | rfl | rfl | rfl | rfl | rfl | rfl <;> simp) h
      · replace h := h.2 c9
        refine w_iload dX6_isKeptOff_153 (List.Mem.tail _ (List.Mem.tail _ (List.Mem.tail _ (List.Mem.tail _ (List.Mem.tail _ (List.Mem.tail _ (List.Mem.tail _ (List.Mem.tail _ (List.Mem.tail _ (List.Mem.head _)))))))))) ?_
        refine w_iload_n dX6_isKeptOff_155 rfl (List.Mem.tail _ (List.Mem.tail _ (List.Mem.tail _ (List.Mem.tail _ (List.Mem.head _))))) ?_
        refine w_iload dX6_isKeptOff_156 (List.Mem.head _) ?_
        obtain ⟨q4, h⟩ := h
        refine i_mul dX6_isKeptOff_158 ?_
        refine i_cmp_ne (tgt := 174) dX6_isKeptOff_159 rfl rx8 q4 (fun c9 => ?_) (fun c9 => ?_)
        · replace h := h.1 c9
          obtain ⟨q5, h⟩ := h
          refine w_iinc (v := nZ (x7 + 1)) (l' := [(7, .int (nZ (x7 + 1))), (10, .int (nZ s0)), (0, .ref 27), (1, .int (nZ x1)), (2, .int (nZ x2)), (3, .int (nZ x3)), (4, .int (nZ x4)), (5, .int (nZ x5)), (6, .ref (u + 1)), (8, .int (nZ x8)), (9, .int (nZ x9))]) dX6_isKeptOff_174 (List.Mem.tail _ (List.Mem.tail _ (List.Mem.tail _ (List.Mem.tail _ (List.Mem.tail _ (List.Mem.tail _ (List.Mem.tail _ (List.Mem.tail _ (List.Mem.head _))))))))) (nZ_add _ _) (by decide) rfl ?_
          refine w_goto (tgt := 12) dX6_isKeptOff_177 rfl ?_
          exact w_weak (l' := [(0, .ref 27), (1, .int (nZ x1)), (2, .int (nZ x2)), (3, .int (nZ x3)), (4, .int (nZ x4)), (5, .int (nZ x5)), (6, .ref (u + 1)), (7, .int (nZ (x7 + 1)))]) (by intro q hq; simp only [List.mem_cons, List.not_mem_nil, or_false] at hq ⊢; rcases hq with rfl | rfl | rfl | rfl | rfl | rfl | rfl | rfl <;> simp) h
        · replace h := h.2 c9
          refine w_iload dX6_isKeptOff_162 (List.Mem.tail _ (List.Mem.tail _ (List.Mem.tail _ (List.Mem.tail _ (List.Mem.tail _ (List.Mem.tail _ (List.Mem.tail _ (List.Mem.tail _ (List.Mem.tail _ (List.Mem.tail _ (List.Mem.head _))))))))))) ?_
          refine w_iload dX6_isKeptOff_164 (List.Mem.tail _ (List.Mem.tail _ (List.Mem.tail _ (List.Mem.tail _ (List.Mem.tail _ (List.Mem.head _)))))) ?_
          refine w_iload dX6_isKeptOff_166 (List.Mem.head _) ?_
          obtain ⟨q6, h⟩ := h
          refine i_mul dX6_isKeptOff_168 ?_
          refine i_cmp_ne (tgt := 174) dX6_isKeptOff_169 rfl rx9 q6 (fun c9 => ?_) (fun c9 => ?_)
          · replace h := h.1 c9
            obtain ⟨q7, h⟩ := h
            refine w_iinc (v := nZ (x7 + 1)) (l' := [(7, .int (nZ (x7 + 1))), (10, .int (nZ s0)), (0, .ref 27), (1, .int (nZ x1)), (2, .int (nZ x2)), (3, .int (nZ x3)), (4, .int (nZ x4)), (5, .int (nZ x5)), (6, .ref (u + 1)), (8, .int (nZ x8)), (9, .int (nZ x9))]) dX6_isKeptOff_174 (List.Mem.tail _ (List.Mem.tail _ (List.Mem.tail _ (List.Mem.tail _ (List.Mem.tail _ (List.Mem.tail _ (List.Mem.tail _ (List.Mem.tail _ (List.Mem.head _))))))))) (nZ_add _ _) (by decide) rfl ?_
            refine w_goto (tgt := 12) dX6_isKeptOff_177 rfl ?_
            exact w_weak (l' := [(0, .ref 27), (1, .int (nZ x1)), (2, .int (nZ x2)), (3, .int (nZ x3)), (4, .int (nZ x4)), (5, .int (nZ x5)), (6, .ref (u + 1)), (7, .int (nZ (x7 + 1)))]) (by intro q hq; simp only [List.mem_cons, List.not_mem_nil, or_false] at hq ⊢; rcases hq with rfl | rfl | rfl | rfl | rfl | rfl | rfl | rfl <;> simp) h
          · replace h := h.2 c9
            refine w_iconst (v := nZ 1) dX6_isKeptOff_172 (by decide) ?_
            exact i_zret dX6_isKeptOff_173 rfl (by decide) h
theorem dX6_falls_0 : decode cX6_falls 0 = .ok (.iload_n 3, 1) := by decide +kernel
theorem dX6_falls_1 : decode cX6_falls 1 = .ok (.iconst (-1), 1) := by decide +kernel
theorem dX6_falls_2 : decode cX6_falls 2 = .ok (.if_icmp .ne 5, 3) := by decide +kernel
theorem dX6_falls_5 : decode cX6_falls 5 = .ok (.iconst 0, 1) := by decide +kernel
theorem dX6_falls_6 : decode cX6_falls 6 = .ok (.ireturn, 1) := by decide +kernel
theorem dX6_falls_7 : decode cX6_falls 7 = .ok (.aload_n 0, 1) := by decide +kernel
theorem dX6_falls_8 : decode cX6_falls 8 = .ok (.iload_n 1, 1) := by decide +kernel
theorem dX6_falls_9 : decode cX6_falls 9 = .ok (.iload_n 2, 1) := by decide +kernel
theorem dX6_falls_10 : decode cX6_falls 10 = .ok (.invokevirtual 101, 3) := by decide +kernel
theorem dX6_falls_13 : decode cX6_falls 13 = .ok (.istore 4, 2) := by decide +kernel
theorem dX6_falls_15 : decode cX6_falls 15 = .ok (.iload 4, 2) := by decide +kernel
theorem dX6_falls_17 : decode cX6_falls 17 = .ok (.iconst (-1), 1) := by decide +kernel
theorem dX6_falls_18 : decode cX6_falls 18 = .ok (.if_icmp .eq 25, 3) := by decide +kernel
theorem dX6_falls_21 : decode cX6_falls 21 = .ok (.iload 4, 2) := by decide +kernel
theorem dX6_falls_23 : decode cX6_falls 23 = .ok (.iload_n 3, 1) := by decide +kernel
theorem dX6_falls_24 : decode cX6_falls 24 = .ok (.if_icmp .gt 19, 3) := by decide +kernel
theorem dX6_falls_27 : decode cX6_falls 27 = .ok (.iload 4, 2) := by decide +kernel
theorem dX6_falls_29 : decode cX6_falls 29 = .ok (.bipush 10, 2) := by decide +kernel
theorem dX6_falls_31 : decode cX6_falls 31 = .ok (.idiv, 1) := by decide +kernel
theorem dX6_falls_32 : decode cX6_falls 32 = .ok (.iload_n 3, 1) := by decide +kernel
theorem dX6_falls_33 : decode cX6_falls 33 = .ok (.bipush 10, 2) := by decide +kernel
theorem dX6_falls_35 : decode cX6_falls 35 = .ok (.idiv, 1) := by decide +kernel
theorem dX6_falls_36 : decode cX6_falls 36 = .ok (.if_icmp .ne 7, 3) := by decide +kernel
theorem dX6_falls_39 : decode cX6_falls 39 = .ok (.iconst 1, 1) := by decide +kernel
theorem dX6_falls_40 : decode cX6_falls 40 = .ok (.goto 4, 3) := by decide +kernel
theorem dX6_falls_43 : decode cX6_falls 43 = .ok (.iconst 0, 1) := by decide +kernel
theorem dX6_falls_44 : decode cX6_falls 44 = .ok (.ireturn, 1) := by decide +kernel
set_option maxRecDepth 10000 in
theorem t_X6_falls {sc : Nat × (Nat → Int32)} {d : Nat} {Q : aO → aH → Prop} {σ : aH} {u : Nat}  {x1 : Int} {x2 : Int} {x3 : Int} (hG : G σ u) (rx1 : inR x1) (rx2 : inR x2) (rx3 : inR x3)
    (h : ((¬ x3 = (-1) → (∃ (r5 : Int) (σ1 : aH), Ev sc d mX6_need [.ref 27, .int (nZ x1), .int (nZ x2)] σ (.inl (some (.int (nZ r5)))) σ1 ∧ G σ1 u ∧ inR r5 ∧ ((r5 = (-1) → Q (.inl (some (.int (nZ 0)))) σ1) ∧ (¬ (r5 = (-1)) → ((x3 < r5 → Q (.inl (some (.int (nZ 0)))) σ1) ∧ (¬ (x3 < r5) → ((0 ≤ r5 ∧ (0 : Int) < 10) ∧ inR (r5 / 10) ∧ ((0 ≤ x3 ∧ (0 : Int) < 10) ∧ inR (x3 / 10) ∧ ((¬ (r5 / 10) = (x3 / 10) → Q (.inl (some (.int (nZ 0)))) σ1) ∧ ((r5 / 10) = (x3 / 10) → Q (.inl (some (.int (nZ 1)))) σ1)))))))))) ∧ (x3 = (-1) → Q (.inl (some (.int (nZ 0)))) σ))) :
    T sc (d + 1) mX6_falls [.ref 27, .int (nZ x1), .int (nZ x2), .int (nZ x3)] σ Q := by
  refine T.of (c := 6) (code := cX6_falls) (mL := 5) (rt := (some .boolean)) (ini := false) (l := [(0, .ref 27), (1, .int (nZ x1)), (2, .int (nZ x2)), (3, .int (nZ x3))]) rfl rfl rfl rfl (by decide) hs_X6_falls rfl rfl ?_
  refine w_iload_n dX6_falls_0 rfl (List.Mem.tail _ (List.Mem.tail _ (List.Mem.tail _ (List.Mem.head _)))) ?_
  refine w_iconst (v := nZ (-1)) dX6_falls_1 (by decide) ?_
  refine i_cmp_ne (tgt := 7) dX6_falls_2 rfl rx3 (by decide) (fun c9 => ?_) (fun c9 => ?_)
  · replace h := h.1 c9
    refine w_aload_n dX6_falls_7 rfl (List.Mem.head _) ?_
    refine w_iload_n dX6_falls_8 rfl (List.Mem.tail _ (List.Mem.head _)) ?_
    refine w_iload_n dX6_falls_9 rfl (List.Mem.tail _ (List.Mem.tail _ (List.Mem.head _))) ?_
    obtain ⟨r5, σ1, hc3, hG2, rr4, h⟩ := h
    refine w_callV dX6_falls_10 ml_6_101 ⟨ok_X6_need, vi_X6_need⟩ hs_X6_need (As := [.int (nZ x1), .int (nZ x2)]) rfl rfl (gT hG rfl (lt_of rfl)) (Nat.le_of_ble_eq_true rfl) hc3 ?_
    show wp (Ev sc d) 6 cX6_falls 5 (some .boolean) false [] sc Q 13 [(0, .ref 27), (1, .int (nZ x1)), (2, .int (nZ x2)), (3, .int (nZ x3))] [.int (nZ r5)] σ1
    refine w_istore (l' := [(4, .int (nZ r5)), (0, .ref 27), (1, .int (nZ x1)), (2, .int (nZ x2)), (3, .int (nZ x3))]) dX6_falls_13 (by decide) rfl ?_
    refine w_iload dX6_falls_15 (List.Mem.head _) ?_
    refine w_iconst (v := nZ (-1)) dX6_falls_17 (by decide) ?_
    refine i_cmp_eq (tgt := 43) dX6_falls_18 rfl rr4 (by decide) (fun c9 => ?_) (fun c9 => ?_)
    · replace h := h.1 c9
      refine w_iconst (v := nZ 0) dX6_falls_43 (by decide) ?_
      exact i_zret dX6_falls_44 rfl (by decide) h
    · replace h := h.2 c9
      refine w_iload dX6_falls_21 (List.Mem.head _) ?_
      refine w_iload_n dX6_falls_23 rfl (List.Mem.tail _ (List.Mem.tail _ (List.Mem.tail _ (List.Mem.tail _ (List.Mem.head _))))) ?_
      refine i_cmp_gt (tgt := 43) dX6_falls_24 rfl rr4 rx3 (fun c9 => ?_) (fun c9 => ?_)
      · replace h := h.1 c9
        refine w_iconst (v := nZ 0) dX6_falls_43 (by decide) ?_
        exact i_zret dX6_falls_44 rfl (by decide) h
      · replace h := h.2 c9
        refine w_iload dX6_falls_27 (List.Mem.head _) ?_
        refine w_bipush (v := nZ 10) dX6_falls_29 (by decide) ?_
        obtain ⟨h9, q6, h⟩ := h
        refine i_div dX6_falls_31 rr4 (by decide) h9 ?_
        refine w_iload_n dX6_falls_32 rfl (List.Mem.tail _ (List.Mem.tail _ (List.Mem.tail _ (List.Mem.tail _ (List.Mem.head _))))) ?_
        refine w_bipush (v := nZ 10) dX6_falls_33 (by decide) ?_
        obtain ⟨h9, q7, h⟩ := h
        refine i_div dX6_falls_35 rx3 (by decide) h9 ?_
        refine i_cmp_ne (tgt := 43) dX6_falls_36 rfl q6 q7 (fun c9 => ?_) (fun c9 => ?_)
        · replace h := h.1 c9
          refine w_iconst (v := nZ 0) dX6_falls_43 (by decide) ?_
          exact i_zret dX6_falls_44 rfl (by decide) h
        · replace h := h.2 c9
          refine w_iconst (v := nZ 1) dX6_falls_39 (by decide) ?_
          refine w_goto (tgt := 44) dX6_falls_40 rfl ?_
          exact i_zret dX6_falls_44 rfl (by decide) h
  · replace h := h.2 c9
    refine w_iconst (v := nZ 0) dX6_falls_5 (by decide) ?_
    exact i_zret dX6_falls_6 rfl (by decide) h
theorem dX6_throwers_0 : decode cX6_throwers 0 = .ok (.iconst 0, 1) := by decide +kernel
theorem dX6_throwers_1 : decode cX6_throwers 1 = .ok (.istore_n 3, 1) := by decide +kernel
theorem dX6_throwers_2 : decode cX6_throwers 2 = .ok (.iconst 0, 1) := by decide +kernel
theorem dX6_throwers_3 : decode cX6_throwers 3 = .ok (.istore 4, 2) := by decide +kernel
theorem dX6_throwers_5 : decode cX6_throwers 5 = .ok (.iload 4, 2) := by decide +kernel
theorem dX6_throwers_7 : decode cX6_throwers 7 = .ok (.aload_n 0, 1) := by decide +kernel
theorem dX6_throwers_8 : decode cX6_throwers 8 = .ok (.getfield 34, 3) := by decide +kernel
theorem dX6_throwers_11 : decode cX6_throwers 11 = .ok (.getfield 54, 3) := by decide +kernel
theorem dX6_throwers_14 : decode cX6_throwers 14 = .ok (.getfield 92, 3) := by decide +kernel
theorem dX6_throwers_17 : decode cX6_throwers 17 = .ok (.if_icmp .ge 33, 3) := by decide +kernel
theorem dX6_throwers_20 : decode cX6_throwers 20 = .ok (.iload 4, 2) := by decide +kernel
theorem dX6_throwers_22 : decode cX6_throwers 22 = .ok (.iload_n 1, 1) := by decide +kernel
theorem dX6_throwers_23 : decode cX6_throwers 23 = .ok (.if_icmp .eq 21, 3) := by decide +kernel
theorem dX6_throwers_26 : decode cX6_throwers 26 = .ok (.aload_n 0, 1) := by decide +kernel
theorem dX6_throwers_27 : decode cX6_throwers 27 = .ok (.iload 4, 2) := by decide +kernel
theorem dX6_throwers_29 : decode cX6_throwers 29 = .ok (.iload_n 1, 1) := by decide +kernel
theorem dX6_throwers_30 : decode cX6_throwers 30 = .ok (.iload_n 2, 1) := by decide +kernel
theorem dX6_throwers_31 : decode cX6_throwers 31 = .ok (.invokevirtual 104, 3) := by decide +kernel
theorem dX6_throwers_34 : decode cX6_throwers 34 = .ok (.ifCond .eq 10, 3) := by decide +kernel
theorem dX6_throwers_37 : decode cX6_throwers 37 = .ok (.iload_n 3, 1) := by decide +kernel
theorem dX6_throwers_38 : decode cX6_throwers 38 = .ok (.iconst 1, 1) := by decide +kernel
theorem dX6_throwers_39 : decode cX6_throwers 39 = .ok (.iload 4, 2) := by decide +kernel
theorem dX6_throwers_41 : decode cX6_throwers 41 = .ok (.ishl, 1) := by decide +kernel
theorem dX6_throwers_42 : decode cX6_throwers 42 = .ok (.ior, 1) := by decide +kernel
theorem dX6_throwers_43 : decode cX6_throwers 43 = .ok (.istore_n 3, 1) := by decide +kernel
theorem dX6_throwers_44 : decode cX6_throwers 44 = .ok (.iinc 4 1, 3) := by decide +kernel
theorem dX6_throwers_47 : decode cX6_throwers 47 = .ok (.goto (-42), 3) := by decide +kernel
theorem dX6_throwers_50 : decode cX6_throwers 50 = .ok (.iload_n 3, 1) := by decide +kernel
theorem dX6_throwers_51 : decode cX6_throwers 51 = .ok (.ireturn, 1) := by decide +kernel
def L_X6_throwers_5 (C : aM → List Value → aH → aO → aH → Prop) (sc : Nat × (Nat → Int32)) (P : aO → aH → Prop) (x1 : Int) (x2 : Int) (x3 : Int) (x4 : Int) (σ : aH) : Prop :=
    wp C 6 cX6_throwers 5 (some .int) false [] sc P 5 [(0, .ref 27), (1, .int (nZ x1)), (2, .int (nZ x2)), (3, .int (nZ x3)), (4, .int (nZ x4))] [] σ
set_option maxRecDepth 10000 in
theorem t_X6_throwers {sc : Nat × (Nat → Int32)} {d : Nat} {Q : aO → aH → Prop} {σ : aH} {u : Nat}  {x1 : Int} {x2 : Int} (hG : G σ u) (rx1 : inR x1) (rx2 : inR x2)
    (h : L_X6_throwers_5 (Ev sc d) sc Q x1 x2 0 0 σ) :
    T sc (d + 1) mX6_throwers [.ref 27, .int (nZ x1), .int (nZ x2)] σ Q := by
  refine T.of (c := 6) (code := cX6_throwers) (mL := 5) (rt := (some .int)) (ini := false) (l := [(0, .ref 27), (1, .int (nZ x1)), (2, .int (nZ x2))]) rfl rfl rfl rfl (by decide) hs_X6_throwers rfl rfl ?_
  refine w_iconst (v := nZ 0) dX6_throwers_0 (by decide) ?_
  refine w_istore_n (l' := [(3, .int (nZ 0)), (0, .ref 27), (1, .int (nZ x1)), (2, .int (nZ x2))]) dX6_throwers_1 rfl (by decide) rfl ?_
  refine w_iconst (v := nZ 0) dX6_throwers_2 (by decide) ?_
  refine w_istore (l' := [(4, .int (nZ 0)), (3, .int (nZ 0)), (0, .ref 27), (1, .int (nZ x1)), (2, .int (nZ x2))]) dX6_throwers_3 (by decide) rfl ?_
  exact w_weak (l' := [(0, .ref 27), (1, .int (nZ x1)), (2, .int (nZ x2)), (3, .int (nZ 0)), (4, .int (nZ 0))]) (by intro q hq; simp only [List.mem_cons, List.not_mem_nil, or_false] at hq ⊢; rcases hq with rfl | rfl | rfl | rfl | rfl <;> simp) h
set_option maxRecDepth 10000 in
theorem v_X6_throwers_5 {C : aM → List Value → aH → aO → aH → Prop} {sc : Nat × (Nat → Int32)} {P : aO → aH → Prop} {σ : aH} {u : Nat}  {x1 : Int} {x2 : Int} {x3 : Int} {x4 : Int} (hG : G σ u) (rx1 : inR x1) (rx2 : inR x2) (rx3 : inR x3) (rx4 : inR x4)
    (h : (((rI σ (u + 1) 8) ≤ x4 → P (.inl (some (.int (nZ x3)))) σ) ∧ (¬ ((rI σ (u + 1) 8) ≤ x4) → ((x4 = x1 → (inR (x4 + 1) ∧ L_X6_throwers_5 C sc P x1 x2 x3 (x4 + 1) σ)) ∧ (¬ (x4 = x1) → (∃ (r6 : Int) (σ2 : aH), C mX6_falls [.ref 27, .int (nZ x4), .int (nZ x1), .int (nZ x2)] σ (.inl (some (.int (nZ r6)))) σ2 ∧ G σ2 u ∧ inR r6 ∧ ((r6 = 0 → (inR (x4 + 1) ∧ L_X6_throwers_5 C sc P x1 x2 x3 (x4 + 1) σ2)) ∧ (¬ (r6 = 0) → (∀ z8 : Int, z8 = (zOr x3 (zShl 1 x4)) → (inR (x4 + 1) ∧ L_X6_throwers_5 C sc P x1 x2 z8 (x4 + 1) σ2)))))))))) :
    L_X6_throwers_5 C sc P x1 x2 x3 x4 σ := by
  unfold L_X6_throwers_5
  refine w_iload dX6_throwers_5 (List.Mem.tail _ (List.Mem.tail _ (List.Mem.tail _ (List.Mem.tail _ (List.Mem.head _))))) ?_
  refine w_aload_n dX6_throwers_7 rfl (List.Mem.head _) ?_
  refine w_getM (ci := 6) (k := 5) (b := u) dX6_throwers_8 fl_6_34 (by decide) (gT hG rfl (lt_of rfl)) hG.2.2.2.1 ?_
  refine w_getR (ci := 2) (k := 0) (b := (u + 1)) dX6_throwers_11 fl_6_54 (by decide) (gT hG (IsMk_t0 hG.2.2.2.2) (IsMk_lt hG.2.2.2.2 (k := 0) (by decide))) (gR hG (IsMk_r0_0 hG.2.2.2.2)) ?_
  refine i_getI (ci := 7) 8 rfl dX6_throwers_14 fl_6_92 (by decide) (gT hG (IsMk_t1 hG.2.2.2.2) (IsMk_lt hG.2.2.2.2 (k := 1) (by decide))) ?_
  refine i_cmp_ge (tgt := 50) dX6_throwers_17 rfl rx4 (rI_R _ _ _) (fun c9 => ?_) (fun c9 => ?_)
  · replace h := h.1 c9
    refine w_iload_n dX6_throwers_50 rfl (List.Mem.tail _ (List.Mem.tail _ (List.Mem.tail _ (List.Mem.head _)))) ?_
    exact w_iret dX6_throwers_51 rfl h
  · replace h := h.2 c9
    refine w_iload dX6_throwers_20 (List.Mem.tail _ (List.Mem.tail _ (List.Mem.tail _ (List.Mem.tail _ (List.Mem.head _))))) ?_
    refine w_iload_n dX6_throwers_22 rfl (List.Mem.tail _ (List.Mem.head _)) ?_
    refine i_cmp_eq (tgt := 44) dX6_throwers_23 rfl rx4 rx1 (fun c9 => ?_) (fun c9 => ?_)
    · replace h := h.1 c9
      obtain ⟨q1, h⟩ := h
      refine w_iinc (v := nZ (x4 + 1)) (l' := [(4, .int (nZ (x4 + 1))), (0, .ref 27), (1, .int (nZ x1)), (2, .int (nZ x2)), (3, .int (nZ x3))]) dX6_throwers_44 (List.Mem.tail _ (List.Mem.tail _ (List.Mem.tail _ (List.Mem.tail _ (List.Mem.head _))))) (nZ_add _ _) (by decide) rfl ?_
      refine w_goto (tgt := 5) dX6_throwers_47 rfl ?_
      exact w_weak (l' := [(0, .ref 27), (1, .int (nZ x1)), (2, .int (nZ x2)), (3, .int (nZ x3)), (4, .int (nZ (x4 + 1)))]) (by intro q hq; simp only [List.mem_cons, List.not_mem_nil, or_false] at hq ⊢; rcases hq with rfl | rfl | rfl | rfl | rfl <;> simp) h
    · replace h := h.2 c9
      refine w_aload_n dX6_throwers_26 rfl (List.Mem.head _) ?_
      refine w_iload dX6_throwers_27 (List.Mem.tail _ (List.Mem.tail _ (List.Mem.tail _ (List.Mem.tail _ (List.Mem.head _))))) ?_
      refine w_iload_n dX6_throwers_29 rfl (List.Mem.tail _ (List.Mem.head _)) ?_
      refine w_iload_n dX6_throwers_30 rfl (List.Mem.tail _ (List.Mem.tail _ (List.Mem.head _))) ?_
      obtain ⟨r6, σ2, hc4, hG3, rr5, h⟩ := h
      refine w_callV dX6_throwers_31 ml_6_104 ⟨ok_X6_falls, vi_X6_falls⟩ hs_X6_falls (As := [.int (nZ x4), .int (nZ x1), .int (nZ x2)]) rfl rfl (gT hG rfl (lt_of rfl)) (Nat.le_of_ble_eq_true rfl) hc4 ?_
      show wp C 6 cX6_throwers 5 (some .int) false [] sc P 34 [(0, .ref 27), (1, .int (nZ x1)), (2, .int (nZ x2)), (3, .int (nZ x3)), (4, .int (nZ x4))] [.int (nZ r6)] σ2
      refine i_if_eq (tgt := 44) dX6_throwers_34 rfl rr5 (fun c9 => ?_) (fun c9 => ?_)
      · replace h := h.1 c9
        obtain ⟨q7, h⟩ := h
        refine w_iinc (v := nZ (x4 + 1)) (l' := [(4, .int (nZ (x4 + 1))), (0, .ref 27), (1, .int (nZ x1)), (2, .int (nZ x2)), (3, .int (nZ x3))]) dX6_throwers_44 (List.Mem.tail _ (List.Mem.tail _ (List.Mem.tail _ (List.Mem.tail _ (List.Mem.head _))))) (nZ_add _ _) (by decide) rfl ?_
        refine w_goto (tgt := 5) dX6_throwers_47 rfl ?_
        exact w_weak (l' := [(0, .ref 27), (1, .int (nZ x1)), (2, .int (nZ x2)), (3, .int (nZ x3)), (4, .int (nZ (x4 + 1)))]) (by intro q hq; simp only [List.mem_cons, List.not_mem_nil, or_false] at hq ⊢; rcases hq with rfl | rfl | rfl | rfl | rfl <;> simp) h
      · replace h := h.2 c9
        refine w_iload_n dX6_throwers_37 rfl (List.Mem.tail _ (List.Mem.tail _ (List.Mem.tail _ (List.Mem.head _)))) ?_
        refine w_iconst (v := nZ 1) dX6_throwers_38 (by decide) ?_
        refine w_iload dX6_throwers_39 (List.Mem.tail _ (List.Mem.tail _ (List.Mem.tail _ (List.Mem.tail _ (List.Mem.head _))))) ?_
        refine i_shl dX6_throwers_41 ?_
        refine i_or dX6_throwers_42 ?_
        refine top_i (fun z8 ez9 => ?_)
        have rz10 : inR z8 := ez9 ▸ (zOr_R _ _)
        replace h := h z8 ez9
        refine w_istore_n (l' := [(3, .int (nZ z8)), (0, .ref 27), (1, .int (nZ x1)), (2, .int (nZ x2)), (4, .int (nZ x4))]) dX6_throwers_43 rfl (by decide) rfl ?_
        obtain ⟨q11, h⟩ := h
        refine w_iinc (v := nZ (x4 + 1)) (l' := [(4, .int (nZ (x4 + 1))), (3, .int (nZ z8)), (0, .ref 27), (1, .int (nZ x1)), (2, .int (nZ x2))]) dX6_throwers_44 (List.Mem.tail _ (List.Mem.tail _ (List.Mem.tail _ (List.Mem.tail _ (List.Mem.head _))))) (nZ_add _ _) (by decide) rfl ?_
        refine w_goto (tgt := 5) dX6_throwers_47 rfl ?_
        exact w_weak (l' := [(0, .ref 27), (1, .int (nZ x1)), (2, .int (nZ x2)), (3, .int (nZ z8)), (4, .int (nZ (x4 + 1)))]) (by intro q hq; simp only [List.mem_cons, List.not_mem_nil, or_false] at hq ⊢; rcases hq with rfl | rfl | rfl | rfl | rfl <;> simp) h
theorem dX6_owed_0 : decode cX6_owed 0 = .ok (.aload_n 1, 1) := by decide +kernel
theorem dX6_owed_1 : decode cX6_owed 1 = .ok (.aload_n 0, 1) := by decide +kernel
theorem dX6_owed_2 : decode cX6_owed 2 = .ok (.iload_n 2, 1) := by decide +kernel
theorem dX6_owed_3 : decode cX6_owed 3 = .ok (.iload_n 3, 1) := by decide +kernel
theorem dX6_owed_4 : decode cX6_owed 4 = .ok (.invokevirtual 101, 3) := by decide +kernel
theorem dX6_owed_7 : decode cX6_owed 7 = .ok (.aload_n 0, 1) := by decide +kernel
theorem dX6_owed_8 : decode cX6_owed 8 = .ok (.getfield 34, 3) := by decide +kernel
theorem dX6_owed_11 : decode cX6_owed 11 = .ok (.getfield 54, 3) := by decide +kernel
theorem dX6_owed_14 : decode cX6_owed 14 = .ok (.getfield 108, 3) := by decide +kernel
theorem dX6_owed_17 : decode cX6_owed 17 = .ok (.iload_n 2, 1) := by decide +kernel
theorem dX6_owed_18 : decode cX6_owed 18 = .ok (.iaload, 1) := by decide +kernel
theorem dX6_owed_19 : decode cX6_owed 19 = .ok (.invokevirtual 111, 3) := by decide +kernel
theorem dX6_owed_22 : decode cX6_owed 22 = .ok (.ireturn, 1) := by decide +kernel
set_option maxRecDepth 10000 in
theorem t_X6_owed {sc : Nat × (Nat → Int32)} {d : Nat} {Q : aO → aH → Prop} {σ : aH} {u : Nat} {w : Nat} {x2 : Int} {x3 : Int} (hG : G σ u) (hw : IsWt w) (rx2 : inR x2) (rx3 : inR x3)
    (h : (∃ (r5 : Int) (σ1 : aH), Ev sc d mX6_need [.ref 27, .int (nZ x2), .int (nZ x3)] σ (.inl (some (.int (nZ r5)))) σ1 ∧ G σ1 u ∧ inR r5 ∧ ((0 ≤ x2 ∧ x2 < 9) ∧ (∃ (r10 : Int) (σ6 : aH), Ev sc d mX8_priceAt [.ref w, .int (nZ r5), .int (nZ (rI σ1 (u + 8) x2))] σ1 (.inl (some (.int (nZ r10)))) σ6 ∧ G σ6 u ∧ inR r10 ∧ Q (.inl (some (.int (nZ r10)))) σ6)))) :
    T sc (d + 1) mX6_owed [.ref 27, .ref w, .int (nZ x2), .int (nZ x3)] σ Q := by
  refine T.of (c := 6) (code := cX6_owed) (mL := 4) (rt := (some .int)) (ini := false) (l := [(0, .ref 27), (1, .ref w), (2, .int (nZ x2)), (3, .int (nZ x3))]) rfl rfl rfl rfl (by decide) hs_X6_owed rfl rfl ?_
  refine w_aload_n dX6_owed_0 rfl (List.Mem.tail _ (List.Mem.head _)) ?_
  refine w_aload_n dX6_owed_1 rfl (List.Mem.head _) ?_
  refine w_iload_n dX6_owed_2 rfl (List.Mem.tail _ (List.Mem.tail _ (List.Mem.head _))) ?_
  refine w_iload_n dX6_owed_3 rfl (List.Mem.tail _ (List.Mem.tail _ (List.Mem.tail _ (List.Mem.head _)))) ?_
  obtain ⟨r5, σ1, hc3, hG2, rr4, h⟩ := h
  refine w_callV dX6_owed_4 ml_6_101 ⟨ok_X6_need, vi_X6_need⟩ hs_X6_need (As := [.int (nZ x2), .int (nZ x3)]) rfl rfl (gT hG rfl (lt_of rfl)) (Nat.le_of_ble_eq_true rfl) hc3 ?_
  show wp (Ev sc d) 6 cX6_owed 4 (some .int) false [] sc Q 7 [(0, .ref 27), (1, .ref w), (2, .int (nZ x2)), (3, .int (nZ x3))] [.int (nZ r5), .ref w] σ1
  refine w_aload_n dX6_owed_7 rfl (List.Mem.head _) ?_
  refine w_getM (ci := 6) (k := 5) (b := u) dX6_owed_8 fl_6_34 (by decide) (gT hG2 rfl (lt_of rfl)) hG2.2.2.2.1 ?_
  refine w_getR (ci := 2) (k := 0) (b := (u + 1)) dX6_owed_11 fl_6_54 (by decide) (gT hG2 (IsMk_t0 hG.2.2.2.2) (IsMk_lt hG.2.2.2.2 (k := 0) (by decide))) (gR hG2 (IsMk_r0_0 hG.2.2.2.2)) ?_
  refine w_getR (ci := 7) (k := 6) (b := (u + 8)) dX6_owed_14 fl_6_108 (by decide) (gT hG2 (IsMk_t1 hG.2.2.2.2) (IsMk_lt hG.2.2.2.2 (k := 1) (by decide))) (gR hG2 (IsMk_r1_6 hG.2.2.2.2)) ?_
  refine w_iload_n dX6_owed_17 rfl (List.Mem.tail _ (List.Mem.tail _ (List.Mem.head _))) ?_
  obtain ⟨h9, h⟩ := h
  refine i_iald (n := 9) dX6_owed_18 (gT hG2 (IsMk_t8 hG.2.2.2.2) (IsMk_lt hG.2.2.2.2 (k := 8) (by decide))) (gL hG2 (IsMk_n8 hG.2.2.2.2)) rx2 h9 ?_
  obtain ⟨r10, σ6, hc8, hG7, rr9, h⟩ := h
  refine w_callV dX6_owed_19 ml_6_111 ⟨ok_X8_priceAt, vi_X8_priceAt⟩ hs_X8_priceAt (As := [.int (nZ r5), .int (nZ (rI σ1 (u + 8) x2))]) rfl rfl (gT hG2 (IsWt_t0 hw) (IsWt_lt hw (k := 0) (by decide))) (Nat.le_of_ble_eq_true rfl) hc8 ?_
  show wp (Ev sc d) 6 cX6_owed 4 (some .int) false [] sc Q 22 [(0, .ref 27), (1, .ref w), (2, .int (nZ x2)), (3, .int (nZ x3))] [.int (nZ r10)] σ6
  exact w_iret dX6_owed_22 rfl h
theorem dX6_gain_0 : decode cX6_gain 0 = .ok (.aload_n 0, 1) := by decide +kernel
theorem dX6_gain_1 : decode cX6_gain 1 = .ok (.getfield 34, 3) := by decide +kernel
theorem dX6_gain_4 : decode cX6_gain 4 = .ok (.getfield 54, 3) := by decide +kernel
theorem dX6_gain_7 : decode cX6_gain 7 = .ok (.astore_n 3, 1) := by decide +kernel
theorem dX6_gain_8 : decode cX6_gain 8 = .ok (.iconst 0, 1) := by decide +kernel
theorem dX6_gain_9 : decode cX6_gain 9 = .ok (.istore 4, 2) := by decide +kernel
theorem dX6_gain_11 : decode cX6_gain 11 = .ok (.iconst 0, 1) := by decide +kernel
theorem dX6_gain_12 : decode cX6_gain 12 = .ok (.istore 5, 2) := by decide +kernel
theorem dX6_gain_14 : decode cX6_gain 14 = .ok (.iload 5, 2) := by decide +kernel
theorem dX6_gain_16 : decode cX6_gain 16 = .ok (.aload_n 3, 1) := by decide +kernel
theorem dX6_gain_17 : decode cX6_gain 17 = .ok (.getfield 92, 3) := by decide +kernel
theorem dX6_gain_20 : decode cX6_gain 20 = .ok (.if_icmp .ge 60, 3) := by decide +kernel
theorem dX6_gain_23 : decode cX6_gain 23 = .ok (.iload 5, 2) := by decide +kernel
theorem dX6_gain_25 : decode cX6_gain 25 = .ok (.iload_n 2, 1) := by decide +kernel
theorem dX6_gain_26 : decode cX6_gain 26 = .ok (.if_icmp .eq 48, 3) := by decide +kernel
theorem dX6_gain_29 : decode cX6_gain 29 = .ok (.iload 4, 2) := by decide +kernel
theorem dX6_gain_31 : decode cX6_gain 31 = .ok (.aload_n 1, 1) := by decide +kernel
theorem dX6_gain_32 : decode cX6_gain 32 = .ok (.aload_n 0, 1) := by decide +kernel
theorem dX6_gain_33 : decode cX6_gain 33 = .ok (.iload 5, 2) := by decide +kernel
theorem dX6_gain_35 : decode cX6_gain 35 = .ok (.iload_n 2, 1) := by decide +kernel
theorem dX6_gain_36 : decode cX6_gain 36 = .ok (.invokevirtual 101, 3) := by decide +kernel
theorem dX6_gain_39 : decode cX6_gain 39 = .ok (.aload_n 3, 1) := by decide +kernel
theorem dX6_gain_40 : decode cX6_gain 40 = .ok (.getfield 108, 3) := by decide +kernel
theorem dX6_gain_43 : decode cX6_gain 43 = .ok (.iload 5, 2) := by decide +kernel
theorem dX6_gain_45 : decode cX6_gain 45 = .ok (.iaload, 1) := by decide +kernel
theorem dX6_gain_46 : decode cX6_gain 46 = .ok (.invokevirtual 111, 3) := by decide +kernel
theorem dX6_gain_49 : decode cX6_gain 49 = .ok (.iadd, 1) := by decide +kernel
theorem dX6_gain_50 : decode cX6_gain 50 = .ok (.istore 4, 2) := by decide +kernel
theorem dX6_gain_52 : decode cX6_gain 52 = .ok (.iload 4, 2) := by decide +kernel
theorem dX6_gain_54 : decode cX6_gain 54 = .ok (.aload_n 1, 1) := by decide +kernel
theorem dX6_gain_55 : decode cX6_gain 55 = .ok (.aload_n 0, 1) := by decide +kernel
theorem dX6_gain_56 : decode cX6_gain 56 = .ok (.iload_n 2, 1) := by decide +kernel
theorem dX6_gain_57 : decode cX6_gain 57 = .ok (.iload 5, 2) := by decide +kernel
theorem dX6_gain_59 : decode cX6_gain 59 = .ok (.invokevirtual 101, 3) := by decide +kernel
theorem dX6_gain_62 : decode cX6_gain 62 = .ok (.aload_n 3, 1) := by decide +kernel
theorem dX6_gain_63 : decode cX6_gain 63 = .ok (.getfield 108, 3) := by decide +kernel
theorem dX6_gain_66 : decode cX6_gain 66 = .ok (.iload_n 2, 1) := by decide +kernel
theorem dX6_gain_67 : decode cX6_gain 67 = .ok (.iaload, 1) := by decide +kernel
theorem dX6_gain_68 : decode cX6_gain 68 = .ok (.invokevirtual 111, 3) := by decide +kernel
theorem dX6_gain_71 : decode cX6_gain 71 = .ok (.isub, 1) := by decide +kernel
theorem dX6_gain_72 : decode cX6_gain 72 = .ok (.istore 4, 2) := by decide +kernel
theorem dX6_gain_74 : decode cX6_gain 74 = .ok (.iinc 5 1, 3) := by decide +kernel
theorem dX6_gain_77 : decode cX6_gain 77 = .ok (.goto (-63), 3) := by decide +kernel
theorem dX6_gain_80 : decode cX6_gain 80 = .ok (.iload 4, 2) := by decide +kernel
theorem dX6_gain_82 : decode cX6_gain 82 = .ok (.ireturn, 1) := by decide +kernel
def L_X6_gain_14 (C : aM → List Value → aH → aO → aH → Prop) (sc : Nat × (Nat → Int32)) (P : aO → aH → Prop) (u : Nat) (w : Nat) (x2 : Int) (x4 : Int) (x5 : Int) (σ : aH) : Prop :=
    wp C 6 cX6_gain 6 (some .int) false [] sc P 14 [(0, .ref 27), (1, .ref w), (2, .int (nZ x2)), (3, .ref (u + 1)), (4, .int (nZ x4)), (5, .int (nZ x5))] [] σ
set_option maxRecDepth 10000 in
theorem t_X6_gain {sc : Nat × (Nat → Int32)} {d : Nat} {Q : aO → aH → Prop} {σ : aH} {u : Nat} {w : Nat} {x2 : Int} (hG : G σ u) (hw : IsWt w) (rx2 : inR x2)
    (h : L_X6_gain_14 (Ev sc d) sc Q u w x2 0 0 σ) :
    T sc (d + 1) mX6_gain [.ref 27, .ref w, .int (nZ x2)] σ Q := by
  refine T.of (c := 6) (code := cX6_gain) (mL := 6) (rt := (some .int)) (ini := false) (l := [(0, .ref 27), (1, .ref w), (2, .int (nZ x2))]) rfl rfl rfl rfl (by decide) hs_X6_gain rfl rfl ?_
  refine w_aload_n dX6_gain_0 rfl (List.Mem.head _) ?_
  refine w_getM (ci := 6) (k := 5) (b := u) dX6_gain_1 fl_6_34 (by decide) (gT hG rfl (lt_of rfl)) hG.2.2.2.1 ?_
  refine w_getR (ci := 2) (k := 0) (b := (u + 1)) dX6_gain_4 fl_6_54 (by decide) (gT hG (IsMk_t0 hG.2.2.2.2) (IsMk_lt hG.2.2.2.2 (k := 0) (by decide))) (gR hG (IsMk_r0_0 hG.2.2.2.2)) ?_
  refine w_astore_n (l' := [(3, .ref (u + 1)), (0, .ref 27), (1, .ref w), (2, .int (nZ x2))]) dX6_gain_7 rfl (by decide) rfl ?_
  refine w_iconst (v := nZ 0) dX6_gain_8 (by decide) ?_
  refine w_istore (l' := [(4, .int (nZ 0)), (3, .ref (u + 1)), (0, .ref 27), (1, .ref w), (2, .int (nZ x2))]) dX6_gain_9 (by decide) rfl ?_
  refine w_iconst (v := nZ 0) dX6_gain_11 (by decide) ?_
  refine w_istore (l' := [(5, .int (nZ 0)), (4, .int (nZ 0)), (3, .ref (u + 1)), (0, .ref 27), (1, .ref w), (2, .int (nZ x2))]) dX6_gain_12 (by decide) rfl ?_
  exact w_weak (l' := [(0, .ref 27), (1, .ref w), (2, .int (nZ x2)), (3, .ref (u + 1)), (4, .int (nZ 0)), (5, .int (nZ 0))]) (by intro q hq; simp only [List.mem_cons, List.not_mem_nil, or_false] at hq ⊢; rcases hq with rfl | rfl | rfl | rfl | rfl | rfl <;> simp) h
set_option maxRecDepth 10000 in
theorem v_X6_gain_14 {C : aM → List Value → aH → aO → aH → Prop} {sc : Nat × (Nat → Int32)} {P : aO → aH → Prop} {σ : aH} {u : Nat} {w : Nat} {x2 : Int} {x4 : Int} {x5 : Int} (hG : G σ u) (hw : IsWt w) (rx2 : inR x2) (rx4 : inR x4) (rx5 : inR x5)
    (h : (((rI σ (u + 1) 8) ≤ x5 → P (.inl (some (.int (nZ x4)))) σ) ∧ (¬ ((rI σ (u + 1) 8) ≤ x5) → ((x5 = x2 → (inR (x5 + 1) ∧ L_X6_gain_14 C sc P u w x2 x4 (x5 + 1) σ)) ∧ (¬ (x5 = x2) → (∃ (r6 : Int) (σ2 : aH), C mX6_need [.ref 27, .int (nZ x5), .int (nZ x2)] σ (.inl (some (.int (nZ r6)))) σ2 ∧ G σ2 u ∧ inR r6 ∧ ((0 ≤ x5 ∧ x5 < 9) ∧ (∃ (r11 : Int) (σ7 : aH), C mX8_priceAt [.ref w, .int (nZ r6), .int (nZ (rI σ2 (u + 8) x5))] σ2 (.inl (some (.int (nZ r11)))) σ7 ∧ G σ7 u ∧ inR r11 ∧ (inR (x4 + r11) ∧ (∀ z13 : Int, z13 = (x4 + r11) → (∃ (r20 : Int) (σ16 : aH), C mX6_need [.ref 27, .int (nZ x2), .int (nZ x5)] σ7 (.inl (some (.int (nZ r20)))) σ16 ∧ G σ16 u ∧ inR r20 ∧ ((0 ≤ x2 ∧ x2 < 9) ∧ (∃ (r25 : Int) (σ21 : aH), C mX8_priceAt [.ref w, .int (nZ r20), .int (nZ (rI σ16 (u + 8) x2))] σ16 (.inl (some (.int (nZ r25)))) σ21 ∧ G σ21 u ∧ inR r25 ∧ (inR (z13 - r25) ∧ (∀ z27 : Int, z27 = (z13 - r25) → (inR (x5 + 1) ∧ L_X6_gain_14 C sc P u w x2 z27 (x5 + 1) σ21)))))))))))))))) :
    L_X6_gain_14 C sc P u w x2 x4 x5 σ := by
  unfold L_X6_gain_14
  refine w_iload dX6_gain_14 (List.Mem.tail _ (List.Mem.tail _ (List.Mem.tail _ (List.Mem.tail _ (List.Mem.tail _ (List.Mem.head _)))))) ?_
  refine w_aload_n dX6_gain_16 rfl (List.Mem.tail _ (List.Mem.tail _ (List.Mem.tail _ (List.Mem.head _)))) ?_
  refine i_getI (ci := 7) 8 rfl dX6_gain_17 fl_6_92 (by decide) (gT hG (IsMk_t1 hG.2.2.2.2) (IsMk_lt hG.2.2.2.2 (k := 1) (by decide))) ?_
  refine i_cmp_ge (tgt := 80) dX6_gain_20 rfl rx5 (rI_R _ _ _) (fun c9 => ?_) (fun c9 => ?_)
  · replace h := h.1 c9
    refine w_iload dX6_gain_80 (List.Mem.tail _ (List.Mem.tail _ (List.Mem.tail _ (List.Mem.tail _ (List.Mem.head _))))) ?_
    exact w_iret dX6_gain_82 rfl h
  · replace h := h.2 c9
    refine w_iload dX6_gain_23 (List.Mem.tail _ (List.Mem.tail _ (List.Mem.tail _ (List.Mem.tail _ (List.Mem.tail _ (List.Mem.head _)))))) ?_
    refine w_iload_n dX6_gain_25 rfl (List.Mem.tail _ (List.Mem.tail _ (List.Mem.head _))) ?_
    refine i_cmp_eq (tgt := 74) dX6_gain_26 rfl rx5 rx2 (fun c9 => ?_) (fun c9 => ?_)
    · replace h := h.1 c9
      obtain ⟨q1, h⟩ := h
      refine w_iinc (v := nZ (x5 + 1)) (l' := [(5, .int (nZ (x5 + 1))), (0, .ref 27), (1, .ref w), (2, .int (nZ x2)), (3, .ref (u + 1)), (4, .int (nZ x4))]) dX6_gain_74 (List.Mem.tail _ (List.Mem.tail _ (List.Mem.tail _ (List.Mem.tail _ (List.Mem.tail _ (List.Mem.head _)))))) (nZ_add _ _) (by decide) rfl ?_
      refine w_goto (tgt := 14) dX6_gain_77 rfl ?_
      exact w_weak (l' := [(0, .ref 27), (1, .ref w), (2, .int (nZ x2)), (3, .ref (u + 1)), (4, .int (nZ x4)), (5, .int (nZ (x5 + 1)))]) (by intro q hq; simp only [List.mem_cons, List.not_mem_nil, or_false] at hq ⊢; rcases hq with rfl | rfl | rfl | rfl | rfl | rfl <;> simp) h
    · replace h := h.2 c9
      refine w_iload dX6_gain_29 (List.Mem.tail _ (List.Mem.tail _ (List.Mem.tail _ (List.Mem.tail _ (List.Mem.head _))))) ?_
      refine w_aload_n dX6_gain_31 rfl (List.Mem.tail _ (List.Mem.head _)) ?_
      refine w_aload_n dX6_gain_32 rfl (List.Mem.head _) ?_
      refine w_iload dX6_gain_33 (List.Mem.tail _ (List.Mem.tail _ (List.Mem.tail _ (List.Mem.tail _ (List.Mem.tail _ (List.Mem.head _)))))) ?_
      refine w_iload_n dX6_gain_35 rfl (List.Mem.tail _ (List.Mem.tail _ (List.Mem.head _))) ?_
      obtain ⟨r6, σ2, hc4, hG3, rr5, h⟩ := h
      refine w_callV dX6_gain_36 ml_6_101 ⟨ok_X6_need, vi_X6_need⟩ hs_X6_need (As := [.int (nZ x5), .int (nZ x2)]) rfl rfl (gT hG rfl (lt_of rfl)) (Nat.le_of_ble_eq_true rfl) hc4 ?_
      show wp C 6 cX6_gain 6 (some .int) false [] sc P 39 [(0, .ref 27), (1, .ref w), (2, .int (nZ x2)), (3, .ref (u + 1)), (4, .int (nZ x4)), (5, .int (nZ x5))] [.int (nZ r6), .ref w, .int (nZ x4)] σ2
      refine w_aload_n dX6_gain_39 rfl (List.Mem.tail _ (List.Mem.tail _ (List.Mem.tail _ (List.Mem.head _)))) ?_
      refine w_getR (ci := 7) (k := 6) (b := (u + 8)) dX6_gain_40 fl_6_108 (by decide) (gT hG3 (IsMk_t1 hG.2.2.2.2) (IsMk_lt hG.2.2.2.2 (k := 1) (by decide))) (gR hG3 (IsMk_r1_6 hG.2.2.2.2)) ?_
      refine w_iload dX6_gain_43 (List.Mem.tail _ (List.Mem.tail _ (List.Mem.tail _ (List.Mem.tail _ (List.Mem.tail _ (List.Mem.head _)))))) ?_
      obtain ⟨h9, h⟩ := h
      refine i_iald (n := 9) dX6_gain_45 (gT hG3 (IsMk_t8 hG.2.2.2.2) (IsMk_lt hG.2.2.2.2 (k := 8) (by decide))) (gL hG3 (IsMk_n8 hG.2.2.2.2)) rx5 h9 ?_
      obtain ⟨r11, σ7, hc9, hG8, rr10, h⟩ := h
      refine w_callV dX6_gain_46 ml_6_111 ⟨ok_X8_priceAt, vi_X8_priceAt⟩ hs_X8_priceAt (As := [.int (nZ r6), .int (nZ (rI σ2 (u + 8) x5))]) rfl rfl (gT hG3 (IsWt_t0 hw) (IsWt_lt hw (k := 0) (by decide))) (Nat.le_of_ble_eq_true rfl) hc9 ?_
      show wp C 6 cX6_gain 6 (some .int) false [] sc P 49 [(0, .ref 27), (1, .ref w), (2, .int (nZ x2)), (3, .ref (u + 1)), (4, .int (nZ x4)), (5, .int (nZ x5))] [.int (nZ r11), .int (nZ x4)] σ7
      obtain ⟨q12, h⟩ := h
      refine i_add dX6_gain_49 ?_
      refine top_i (fun z13 ez14 => ?_)
      have rz15 : inR z13 := ez14 ▸ q12
      replace h := h z13 ez14
      refine w_istore (l' := [(4, .int (nZ z13)), (0, .ref 27), (1, .ref w), (2, .int (nZ x2)), (3, .ref (u + 1)), (5, .int (nZ x5))]) dX6_gain_50 (by decide) rfl ?_
      refine w_iload dX6_gain_52 (List.Mem.head _) ?_
      refine w_aload_n dX6_gain_54 rfl (List.Mem.tail _ (List.Mem.tail _ (List.Mem.head _))) ?_
      refine w_aload_n dX6_gain_55 rfl (List.Mem.tail _ (List.Mem.head _)) ?_
      refine w_iload_n dX6_gain_56 rfl (List.Mem.tail _ (List.Mem.tail _ (List.Mem.tail _ (List.Mem.head _)))) ?_
      refine w_iload dX6_gain_57 (List.Mem.tail _ (List.Mem.tail _ (List.Mem.tail _ (List.Mem.tail _ (List.Mem.tail _ (List.Mem.head _)))))) ?_
      obtain ⟨r20, σ16, hc18, hG17, rr19, h⟩ := h
      refine w_callV dX6_gain_59 ml_6_101 ⟨ok_X6_need, vi_X6_need⟩ hs_X6_need (As := [.int (nZ x2), .int (nZ x5)]) rfl rfl (gT hG8 rfl (lt_of rfl)) (Nat.le_of_ble_eq_true rfl) hc18 ?_
      show wp C 6 cX6_gain 6 (some .int) false [] sc P 62 [(4, .int (nZ z13)), (0, .ref 27), (1, .ref w), (2, .int (nZ x2)), (3, .ref (u + 1)), (5, .int (nZ x5))] [.int (nZ r20), .ref w, .int (nZ z13)] σ16
      refine w_aload_n dX6_gain_62 rfl (List.Mem.tail _ (List.Mem.tail _ (List.Mem.tail _ (List.Mem.tail _ (List.Mem.head _))))) ?_
      refine w_getR (ci := 7) (k := 6) (b := (u + 8)) dX6_gain_63 fl_6_108 (by decide) (gT hG17 (IsMk_t1 hG.2.2.2.2) (IsMk_lt hG.2.2.2.2 (k := 1) (by decide))) (gR hG17 (IsMk_r1_6 hG.2.2.2.2)) ?_
      refine w_iload_n dX6_gain_66 rfl (List.Mem.tail _ (List.Mem.tail _ (List.Mem.tail _ (List.Mem.head _)))) ?_
      obtain ⟨h9, h⟩ := h
      refine i_iald (n := 9) dX6_gain_67 (gT hG17 (IsMk_t8 hG.2.2.2.2) (IsMk_lt hG.2.2.2.2 (k := 8) (by decide))) (gL hG17 (IsMk_n8 hG.2.2.2.2)) rx2 h9 ?_
      obtain ⟨r25, σ21, hc23, hG22, rr24, h⟩ := h
      refine w_callV dX6_gain_68 ml_6_111 ⟨ok_X8_priceAt, vi_X8_priceAt⟩ hs_X8_priceAt (As := [.int (nZ r20), .int (nZ (rI σ16 (u + 8) x2))]) rfl rfl (gT hG17 (IsWt_t0 hw) (IsWt_lt hw (k := 0) (by decide))) (Nat.le_of_ble_eq_true rfl) hc23 ?_
      show wp C 6 cX6_gain 6 (some .int) false [] sc P 71 [(4, .int (nZ z13)), (0, .ref 27), (1, .ref w), (2, .int (nZ x2)), (3, .ref (u + 1)), (5, .int (nZ x5))] [.int (nZ r25), .int (nZ z13)] σ21
      obtain ⟨q26, h⟩ := h
      refine i_sub dX6_gain_71 ?_
      refine top_i (fun z27 ez28 => ?_)
      have rz29 : inR z27 := ez28 ▸ q26
      replace h := h z27 ez28
      refine w_istore (l' := [(4, .int (nZ z27)), (0, .ref 27), (1, .ref w), (2, .int (nZ x2)), (3, .ref (u + 1)), (5, .int (nZ x5))]) dX6_gain_72 (by decide) rfl ?_
      obtain ⟨q30, h⟩ := h
      refine w_iinc (v := nZ (x5 + 1)) (l' := [(5, .int (nZ (x5 + 1))), (4, .int (nZ z27)), (0, .ref 27), (1, .ref w), (2, .int (nZ x2)), (3, .ref (u + 1))]) dX6_gain_74 (List.Mem.tail _ (List.Mem.tail _ (List.Mem.tail _ (List.Mem.tail _ (List.Mem.tail _ (List.Mem.head _)))))) (nZ_add _ _) (by decide) rfl ?_
      refine w_goto (tgt := 14) dX6_gain_77 rfl ?_
      exact w_weak (l' := [(0, .ref 27), (1, .ref w), (2, .int (nZ x2)), (3, .ref (u + 1)), (4, .int (nZ z27)), (5, .int (nZ (x5 + 1)))]) (by intro q hq; simp only [List.mem_cons, List.not_mem_nil, or_false] at hq ⊢; rcases hq with rfl | rfl | rfl | rfl | rfl | rfl <;> simp) h
theorem dX6_total_0 : decode cX6_total 0 = .ok (.aload_n 0, 1) := by decide +kernel
theorem dX6_total_1 : decode cX6_total 1 = .ok (.getfield 34, 3) := by decide +kernel
theorem dX6_total_4 : decode cX6_total 4 = .ok (.getfield 54, 3) := by decide +kernel
theorem dX6_total_7 : decode cX6_total 7 = .ok (.astore_n 3, 1) := by decide +kernel
theorem dX6_total_8 : decode cX6_total 8 = .ok (.iconst 0, 1) := by decide +kernel
theorem dX6_total_9 : decode cX6_total 9 = .ok (.istore 4, 2) := by decide +kernel
theorem dX6_total_11 : decode cX6_total 11 = .ok (.iconst 0, 1) := by decide +kernel
theorem dX6_total_12 : decode cX6_total 12 = .ok (.istore 5, 2) := by decide +kernel
theorem dX6_total_14 : decode cX6_total 14 = .ok (.iload 5, 2) := by decide +kernel
theorem dX6_total_16 : decode cX6_total 16 = .ok (.aload_n 3, 1) := by decide +kernel
theorem dX6_total_17 : decode cX6_total 17 = .ok (.getfield 92, 3) := by decide +kernel
theorem dX6_total_20 : decode cX6_total 20 = .ok (.if_icmp .ge 82, 3) := by decide +kernel
theorem dX6_total_23 : decode cX6_total 23 = .ok (.iconst 0, 1) := by decide +kernel
theorem dX6_total_24 : decode cX6_total 24 = .ok (.istore 6, 2) := by decide +kernel
theorem dX6_total_26 : decode cX6_total 26 = .ok (.iload 6, 2) := by decide +kernel
theorem dX6_total_28 : decode cX6_total 28 = .ok (.aload_n 3, 1) := by decide +kernel
theorem dX6_total_29 : decode cX6_total 29 = .ok (.getfield 92, 3) := by decide +kernel
theorem dX6_total_32 : decode cX6_total 32 = .ok (.if_icmp .ge 64, 3) := by decide +kernel
theorem dX6_total_35 : decode cX6_total 35 = .ok (.iload 5, 2) := by decide +kernel
theorem dX6_total_37 : decode cX6_total 37 = .ok (.aload_n 3, 1) := by decide +kernel
theorem dX6_total_38 : decode cX6_total 38 = .ok (.getfield 95, 3) := by decide +kernel
theorem dX6_total_41 : decode cX6_total 41 = .ok (.if_icmp .eq 55, 3) := by decide +kernel
theorem dX6_total_44 : decode cX6_total 44 = .ok (.iload 4, 2) := by decide +kernel
theorem dX6_total_46 : decode cX6_total 46 = .ok (.iload_n 2, 1) := by decide +kernel
theorem dX6_total_47 : decode cX6_total 47 = .ok (.if_icmp .ge 49, 3) := by decide +kernel
theorem dX6_total_50 : decode cX6_total 50 = .ok (.iload 5, 2) := by decide +kernel
theorem dX6_total_52 : decode cX6_total 52 = .ok (.iload 6, 2) := by decide +kernel
theorem dX6_total_54 : decode cX6_total 54 = .ok (.if_icmp .eq 36, 3) := by decide +kernel
theorem dX6_total_57 : decode cX6_total 57 = .ok (.iload 6, 2) := by decide +kernel
theorem dX6_total_59 : decode cX6_total 59 = .ok (.aload_n 3, 1) := by decide +kernel
theorem dX6_total_60 : decode cX6_total 60 = .ok (.getfield 95, 3) := by decide +kernel
theorem dX6_total_63 : decode cX6_total 63 = .ok (.if_icmp .eq 27, 3) := by decide +kernel
theorem dX6_total_66 : decode cX6_total 66 = .ok (.iload 4, 2) := by decide +kernel
theorem dX6_total_68 : decode cX6_total 68 = .ok (.aload_n 1, 1) := by decide +kernel
theorem dX6_total_69 : decode cX6_total 69 = .ok (.aload_n 0, 1) := by decide +kernel
theorem dX6_total_70 : decode cX6_total 70 = .ok (.iload 5, 2) := by decide +kernel
theorem dX6_total_72 : decode cX6_total 72 = .ok (.iload 6, 2) := by decide +kernel
theorem dX6_total_74 : decode cX6_total 74 = .ok (.invokevirtual 101, 3) := by decide +kernel
theorem dX6_total_77 : decode cX6_total 77 = .ok (.aload_n 3, 1) := by decide +kernel
theorem dX6_total_78 : decode cX6_total 78 = .ok (.getfield 108, 3) := by decide +kernel
theorem dX6_total_81 : decode cX6_total 81 = .ok (.iload 5, 2) := by decide +kernel
theorem dX6_total_83 : decode cX6_total 83 = .ok (.iaload, 1) := by decide +kernel
theorem dX6_total_84 : decode cX6_total 84 = .ok (.invokevirtual 111, 3) := by decide +kernel
theorem dX6_total_87 : decode cX6_total 87 = .ok (.iadd, 1) := by decide +kernel
theorem dX6_total_88 : decode cX6_total 88 = .ok (.istore 4, 2) := by decide +kernel
theorem dX6_total_90 : decode cX6_total 90 = .ok (.iinc 6 1, 3) := by decide +kernel
theorem dX6_total_93 : decode cX6_total 93 = .ok (.goto (-67), 3) := by decide +kernel
theorem dX6_total_96 : decode cX6_total 96 = .ok (.iinc 5 1, 3) := by decide +kernel
theorem dX6_total_99 : decode cX6_total 99 = .ok (.goto (-85), 3) := by decide +kernel
theorem dX6_total_102 : decode cX6_total 102 = .ok (.iload 4, 2) := by decide +kernel
theorem dX6_total_104 : decode cX6_total 104 = .ok (.ireturn, 1) := by decide +kernel
def L_X6_total_14 (C : aM → List Value → aH → aO → aH → Prop) (sc : Nat × (Nat → Int32)) (P : aO → aH → Prop) (u : Nat) (w : Nat) (x2 : Int) (x4 : Int) (x5 : Int) (σ : aH) : Prop :=
    wp C 6 cX6_total 7 (some .int) false [] sc P 14 [(0, .ref 27), (1, .ref w), (2, .int (nZ x2)), (3, .ref (u + 1)), (4, .int (nZ x4)), (5, .int (nZ x5))] [] σ
def L_X6_total_26 (C : aM → List Value → aH → aO → aH → Prop) (sc : Nat × (Nat → Int32)) (P : aO → aH → Prop) (u : Nat) (w : Nat) (x2 : Int) (x4 : Int) (x5 : Int) (x6 : Int) (σ : aH) : Prop :=
    wp C 6 cX6_total 7 (some .int) false [] sc P 26 [(0, .ref 27), (1, .ref w), (2, .int (nZ x2)), (3, .ref (u + 1)), (4, .int (nZ x4)), (5, .int (nZ x5)), (6, .int (nZ x6))] [] σ
set_option maxRecDepth 10000 in
theorem t_X6_total {sc : Nat × (Nat → Int32)} {d : Nat} {Q : aO → aH → Prop} {σ : aH} {u : Nat} {w : Nat} {x2 : Int} (hG : G σ u) (hw : IsWt w) (rx2 : inR x2)
    (h : L_X6_total_14 (Ev sc d) sc Q u w x2 0 0 σ) :
    T sc (d + 1) mX6_total [.ref 27, .ref w, .int (nZ x2)] σ Q := by
  refine T.of (c := 6) (code := cX6_total) (mL := 7) (rt := (some .int)) (ini := false) (l := [(0, .ref 27), (1, .ref w), (2, .int (nZ x2))]) rfl rfl rfl rfl (by decide) hs_X6_total rfl rfl ?_
  refine w_aload_n dX6_total_0 rfl (List.Mem.head _) ?_
  refine w_getM (ci := 6) (k := 5) (b := u) dX6_total_1 fl_6_34 (by decide) (gT hG rfl (lt_of rfl)) hG.2.2.2.1 ?_
  refine w_getR (ci := 2) (k := 0) (b := (u + 1)) dX6_total_4 fl_6_54 (by decide) (gT hG (IsMk_t0 hG.2.2.2.2) (IsMk_lt hG.2.2.2.2 (k := 0) (by decide))) (gR hG (IsMk_r0_0 hG.2.2.2.2)) ?_
  refine w_astore_n (l' := [(3, .ref (u + 1)), (0, .ref 27), (1, .ref w), (2, .int (nZ x2))]) dX6_total_7 rfl (by decide) rfl ?_
  refine w_iconst (v := nZ 0) dX6_total_8 (by decide) ?_
  refine w_istore (l' := [(4, .int (nZ 0)), (3, .ref (u + 1)), (0, .ref 27), (1, .ref w), (2, .int (nZ x2))]) dX6_total_9 (by decide) rfl ?_
  refine w_iconst (v := nZ 0) dX6_total_11 (by decide) ?_
  refine w_istore (l' := [(5, .int (nZ 0)), (4, .int (nZ 0)), (3, .ref (u + 1)), (0, .ref 27), (1, .ref w), (2, .int (nZ x2))]) dX6_total_12 (by decide) rfl ?_
  exact w_weak (l' := [(0, .ref 27), (1, .ref w), (2, .int (nZ x2)), (3, .ref (u + 1)), (4, .int (nZ 0)), (5, .int (nZ 0))]) (by intro q hq; simp only [List.mem_cons, List.not_mem_nil, or_false] at hq ⊢; rcases hq with rfl | rfl | rfl | rfl | rfl | rfl <;> simp) h
set_option maxRecDepth 10000 in
theorem v_X6_total_14 {C : aM → List Value → aH → aO → aH → Prop} {sc : Nat × (Nat → Int32)} {P : aO → aH → Prop} {σ : aH} {u : Nat} {w : Nat} {x2 : Int} {x4 : Int} {x5 : Int} (hG : G σ u) (hw : IsWt w) (rx2 : inR x2) (rx4 : inR x4) (rx5 : inR x5)
    (h : (((rI σ (u + 1) 8) ≤ x5 → P (.inl (some (.int (nZ x4)))) σ) ∧ (¬ ((rI σ (u + 1) 8) ≤ x5) → L_X6_total_26 C sc P u w x2 x4 x5 0 σ))) :
    L_X6_total_14 C sc P u w x2 x4 x5 σ := by
  unfold L_X6_total_14
  refine w_iload dX6_total_14 (List.Mem.tail _ (List.Mem.tail _ (List.Mem.tail _ (List.Mem.tail _ (List.Mem.tail _ (List.Mem.head _)))))) ?_
  refine w_aload_n dX6_total_16 rfl (List.Mem.tail _ (List.Mem.tail _ (List.Mem.tail _ (List.Mem.head _)))) ?_
  refine i_getI (ci := 7) 8 rfl dX6_total_17 fl_6_92 (by decide) (gT hG (IsMk_t1 hG.2.2.2.2) (IsMk_lt hG.2.2.2.2 (k := 1) (by decide))) ?_
  refine i_cmp_ge (tgt := 102) dX6_total_20 rfl rx5 (rI_R _ _ _) (fun c9 => ?_) (fun c9 => ?_)
  · replace h := h.1 c9
    refine w_iload dX6_total_102 (List.Mem.tail _ (List.Mem.tail _ (List.Mem.tail _ (List.Mem.tail _ (List.Mem.head _))))) ?_
    exact w_iret dX6_total_104 rfl h
  · replace h := h.2 c9
    refine w_iconst (v := nZ 0) dX6_total_23 (by decide) ?_
    refine w_istore (l' := [(6, .int (nZ 0)), (0, .ref 27), (1, .ref w), (2, .int (nZ x2)), (3, .ref (u + 1)), (4, .int (nZ x4)), (5, .int (nZ x5))]) dX6_total_24 (by decide) rfl ?_
    exact w_weak (l' := [(0, .ref 27), (1, .ref w), (2, .int (nZ x2)), (3, .ref (u + 1)), (4, .int (nZ x4)), (5, .int (nZ x5)), (6, .int (nZ 0))]) (by intro q hq; simp only [List.mem_cons, List.not_mem_nil, or_false] at hq ⊢; rcases hq with rfl | rfl | rfl | rfl | rfl | rfl | rfl <;> simp) h
set_option maxRecDepth 10000 in
theorem v_X6_total_26 {C : aM → List Value → aH → aO → aH → Prop} {sc : Nat × (Nat → Int32)} {P : aO → aH → Prop} {σ : aH} {u : Nat} {w : Nat} {x2 : Int} {x4 : Int} {x5 : Int} {x6 : Int} (hG : G σ u) (hw : IsWt w) (rx2 : inR x2) (rx4 : inR x4) (rx5 : inR x5) (rx6 : inR x6)
    (h : (((rI σ (u + 1) 8) ≤ x6 → (inR (x5 + 1) ∧ L_X6_total_14 C sc P u w x2 x4 (x5 + 1) σ)) ∧ (¬ ((rI σ (u + 1) 8) ≤ x6) → ((x5 = (rI σ (u + 1) 9) → (inR (x5 + 1) ∧ L_X6_total_14 C sc P u w x2 x4 (x5 + 1) σ)) ∧ (¬ (x5 = (rI σ (u + 1) 9)) → ((x2 ≤ x4 → (inR (x5 + 1) ∧ L_X6_total_14 C sc P u w x2 x4 (x5 + 1) σ)) ∧ (¬ (x2 ≤ x4) → ((x5 = x6 → (inR (x6 + 1) ∧ L_X6_total_26 C sc P u w x2 x4 x5 (x6 + 1) σ)) ∧ (¬ (x5 = x6) → ((x6 = (rI σ (u + 1) 9) → (inR (x6 + 1) ∧ L_X6_total_26 C sc P u w x2 x4 x5 (x6 + 1) σ)) ∧ (¬ (x6 = (rI σ (u + 1) 9)) → (∃ (r10 : Int) (σ6 : aH), C mX6_need [.ref 27, .int (nZ x5), .int (nZ x6)] σ (.inl (some (.int (nZ r10)))) σ6 ∧ G σ6 u ∧ inR r10 ∧ ((0 ≤ x5 ∧ x5 < 9) ∧ (∃ (r15 : Int) (σ11 : aH), C mX8_priceAt [.ref w, .int (nZ r10), .int (nZ (rI σ6 (u + 8) x5))] σ6 (.inl (some (.int (nZ r15)))) σ11 ∧ G σ11 u ∧ inR r15 ∧ (inR (x4 + r15) ∧ (∀ z17 : Int, z17 = (x4 + r15) → (inR (x6 + 1) ∧ L_X6_total_26 C sc P u w x2 z17 x5 (x6 + 1) σ11))))))))))))))))) :
    L_X6_total_26 C sc P u w x2 x4 x5 x6 σ := by
  unfold L_X6_total_26
  refine w_iload dX6_total_26 (List.Mem.tail _ (List.Mem.tail _ (List.Mem.tail _ (List.Mem.tail _ (List.Mem.tail _ (List.Mem.tail _ (List.Mem.head _))))))) ?_
  refine w_aload_n dX6_total_28 rfl (List.Mem.tail _ (List.Mem.tail _ (List.Mem.tail _ (List.Mem.head _)))) ?_
  refine i_getI (ci := 7) 8 rfl dX6_total_29 fl_6_92 (by decide) (gT hG (IsMk_t1 hG.2.2.2.2) (IsMk_lt hG.2.2.2.2 (k := 1) (by decide))) ?_
  refine i_cmp_ge (tgt := 96) dX6_total_32 rfl rx6 (rI_R _ _ _) (fun c9 => ?_) (fun c9 => ?_)
  · replace h := h.1 c9
    obtain ⟨q1, h⟩ := h
    refine w_iinc (v := nZ (x5 + 1)) (l' := [(5, .int (nZ (x5 + 1))), (0, .ref 27), (1, .ref w), (2, .int (nZ x2)), (3, .ref (u + 1)), (4, .int (nZ x4)), (6, .int (nZ x6))]) dX6_total_96 (List.Mem.tail _ (List.Mem.tail _ (List.Mem.tail _ (List.Mem.tail _ (List.Mem.tail _ (List.Mem.head _)))))) (nZ_add _ _) (by decide) rfl ?_
    refine w_goto (tgt := 14) dX6_total_99 rfl ?_
    exact w_weak (l' := [(0, .ref 27), (1, .ref w), (2, .int (nZ x2)), (3, .ref (u + 1)), (4, .int (nZ x4)), (5, .int (nZ (x5 + 1)))]) (by intro q hq; simp only [List.mem_cons, List.not_mem_nil, or_false] at hq ⊢; rcases hq with rfl | rfl | rfl | rfl | rfl | rfl <;> simp) h
  · replace h := h.2 c9
    refine w_iload dX6_total_35 (List.Mem.tail _ (List.Mem.tail _ (List.Mem.tail _ (List.Mem.tail _ (List.Mem.tail _ (List.Mem.head _)))))) ?_
    refine w_aload_n dX6_total_37 rfl (List.Mem.tail _ (List.Mem.tail _ (List.Mem.tail _ (List.Mem.head _)))) ?_
    refine i_getI (ci := 7) 9 rfl dX6_total_38 fl_6_95 (by decide) (gT hG (IsMk_t1 hG.2.2.2.2) (IsMk_lt hG.2.2.2.2 (k := 1) (by decide))) ?_
    refine i_cmp_eq (tgt := 96) dX6_total_41 rfl rx5 (rI_R _ _ _) (fun c9 => ?_) (fun c9 => ?_)
    · replace h := h.1 c9
      obtain ⟨q2, h⟩ := h
      refine w_iinc (v := nZ (x5 + 1)) (l' := [(5, .int (nZ (x5 + 1))), (0, .ref 27), (1, .ref w), (2, .int (nZ x2)), (3, .ref (u + 1)), (4, .int (nZ x4)), (6, .int (nZ x6))]) dX6_total_96 (List.Mem.tail _ (List.Mem.tail _ (List.Mem.tail _ (List.Mem.tail _ (List.Mem.tail _ (List.Mem.head _)))))) (nZ_add _ _) (by decide) rfl ?_
      refine w_goto (tgt := 14) dX6_total_99 rfl ?_
      exact w_weak (l' := [(0, .ref 27), (1, .ref w), (2, .int (nZ x2)), (3, .ref (u + 1)), (4, .int (nZ x4)), (5, .int (nZ (x5 + 1)))]) (by intro q hq; simp only [List.mem_cons, List.not_mem_nil, or_false] at hq ⊢; rcases hq with rfl | rfl | rfl | rfl | rfl | rfl <;> simp) h
    · replace h := h.2 c9
      refine w_iload dX6_total_44 (List.Mem.tail _ (List.Mem.tail _ (List.Mem.tail _ (List.Mem.tail _ (List.Mem.head _))))) ?_
      refine w_iload_n dX6_total_46 rfl (List.Mem.tail _ (List.Mem.tail _ (List.Mem.head _))) ?_
      refine i_cmp_ge (tgt := 96) dX6_total_47 rfl rx4 rx2 (fun c9 => ?_) (fun c9 => ?_)
      · replace h := h.1 c9
        obtain ⟨q3, h⟩ := h
        refine w_iinc (v := nZ (x5 + 1)) (l' := [(5, .int (nZ (x5 + 1))), (0, .ref 27), (1, .ref w), (2, .int (nZ x2)), (3, .ref (u + 1)), (4, .int (nZ x4)), (6, .int (nZ x6))]) dX6_total_96 (List.Mem.tail _ (List.Mem.tail _ (List.Mem.tail _ (List.Mem.tail _ (List.Mem.tail _ (List.Mem.head _)))))) (nZ_add _ _) (by decide) rfl ?_
        refine w_goto (tgt := 14) dX6_total_99 rfl ?_
        exact w_weak (l' := [(0, .ref 27), (1, .ref w), (2, .int (nZ x2)), (3, .ref (u + 1)), (4, .int (nZ x4)), (5, .int (nZ (x5 + 1)))]) (by intro q hq; simp only [List.mem_cons, List.not_mem_nil, or_false] at hq ⊢; rcases hq with rfl | rfl | rfl | rfl | rfl | rfl <;> simp) h
      · replace h := h.2 c9
        refine w_iload dX6_total_50 (List.Mem.tail _ (List.Mem.tail _ (List.Mem.tail _ (List.Mem.tail _ (List.Mem.tail _ (List.Mem.head _)))))) ?_
        refine w_iload dX6_total_52 (List.Mem.tail _ (List.Mem.tail _ (List.Mem.tail _ (List.Mem.tail _ (List.Mem.tail _ (List.Mem.tail _ (List.Mem.head _))))))) ?_
        refine i_cmp_eq (tgt := 90) dX6_total_54 rfl rx5 rx6 (fun c9 => ?_) (fun c9 => ?_)
        · replace h := h.1 c9
          obtain ⟨q4, h⟩ := h
          refine w_iinc (v := nZ (x6 + 1)) (l' := [(6, .int (nZ (x6 + 1))), (0, .ref 27), (1, .ref w), (2, .int (nZ x2)), (3, .ref (u + 1)), (4, .int (nZ x4)), (5, .int (nZ x5))]) dX6_total_90 (List.Mem.tail _ (List.Mem.tail _ (List.Mem.tail _ (List.Mem.tail _ (List.Mem.tail _ (List.Mem.tail _ (List.Mem.head _))))))) (nZ_add _ _) (by decide) rfl ?_
          refine w_goto (tgt := 26) dX6_total_93 rfl ?_
          exact w_weak (l' := [(0, .ref 27), (1, .ref w), (2, .int (nZ x2)), (3, .ref (u + 1)), (4, .int (nZ x4)), (5, .int (nZ x5)), (6, .int (nZ (x6 + 1)))]) (by intro q hq; simp only [List.mem_cons, List.not_mem_nil, or_false] at hq ⊢; rcases hq with rfl | rfl | rfl | rfl | rfl | rfl | rfl <;> simp) h
        · replace h := h.2 c9
          refine w_iload dX6_total_57 (List.Mem.tail _ (List.Mem.tail _ (List.Mem.tail _ (List.Mem.tail _ (List.Mem.tail _ (List.Mem.tail _ (List.Mem.head _))))))) ?_
          refine w_aload_n dX6_total_59 rfl (List.Mem.tail _ (List.Mem.tail _ (List.Mem.tail _ (List.Mem.head _)))) ?_
          refine i_getI (ci := 7) 9 rfl dX6_total_60 fl_6_95 (by decide) (gT hG (IsMk_t1 hG.2.2.2.2) (IsMk_lt hG.2.2.2.2 (k := 1) (by decide))) ?_
          refine i_cmp_eq (tgt := 90) dX6_total_63 rfl rx6 (rI_R _ _ _) (fun c9 => ?_) (fun c9 => ?_)
          · replace h := h.1 c9
            obtain ⟨q5, h⟩ := h
            refine w_iinc (v := nZ (x6 + 1)) (l' := [(6, .int (nZ (x6 + 1))), (0, .ref 27), (1, .ref w), (2, .int (nZ x2)), (3, .ref (u + 1)), (4, .int (nZ x4)), (5, .int (nZ x5))]) dX6_total_90 (List.Mem.tail _ (List.Mem.tail _ (List.Mem.tail _ (List.Mem.tail _ (List.Mem.tail _ (List.Mem.tail _ (List.Mem.head _))))))) (nZ_add _ _) (by decide) rfl ?_
            refine w_goto (tgt := 26) dX6_total_93 rfl ?_
            exact w_weak (l' := [(0, .ref 27), (1, .ref w), (2, .int (nZ x2)), (3, .ref (u + 1)), (4, .int (nZ x4)), (5, .int (nZ x5)), (6, .int (nZ (x6 + 1)))]) (by intro q hq; simp only [List.mem_cons, List.not_mem_nil, or_false] at hq ⊢; rcases hq with rfl | rfl | rfl | rfl | rfl | rfl | rfl <;> simp) h
          · replace h := h.2 c9
            refine w_iload dX6_total_66 (List.Mem.tail _ (List.Mem.tail _ (List.Mem.tail _ (List.Mem.tail _ (List.Mem.head _))))) ?_
            refine w_aload_n dX6_total_68 rfl (List.Mem.tail _ (List.Mem.head _)) ?_
            refine w_aload_n dX6_total_69 rfl (List.Mem.head _) ?_
            refine w_iload dX6_total_70 (List.Mem.tail _ (List.Mem.tail _ (List.Mem.tail _ (List.Mem.tail _ (List.Mem.tail _ (List.Mem.head _)))))) ?_
            refine w_iload dX6_total_72 (List.Mem.tail _ (List.Mem.tail _ (List.Mem.tail _ (List.Mem.tail _ (List.Mem.tail _ (List.Mem.tail _ (List.Mem.head _))))))) ?_
            obtain ⟨r10, σ6, hc8, hG7, rr9, h⟩ := h
            refine w_callV dX6_total_74 ml_6_101 ⟨ok_X6_need, vi_X6_need⟩ hs_X6_need (As := [.int (nZ x5), .int (nZ x6)]) rfl rfl (gT hG rfl (lt_of rfl)) (Nat.le_of_ble_eq_true rfl) hc8 ?_
            show wp C 6 cX6_total 7 (some .int) false [] sc P 77 [(0, .ref 27), (1, .ref w), (2, .int (nZ x2)), (3, .ref (u + 1)), (4, .int (nZ x4)), (5, .int (nZ x5)), (6, .int (nZ x6))] [.int (nZ r10), .ref w, .int (nZ x4)] σ6
            refine w_aload_n dX6_total_77 rfl (List.Mem.tail _ (List.Mem.tail _ (List.Mem.tail _ (List.Mem.head _)))) ?_
            refine w_getR (ci := 7) (k := 6) (b := (u + 8)) dX6_total_78 fl_6_108 (by decide) (gT hG7 (IsMk_t1 hG.2.2.2.2) (IsMk_lt hG.2.2.2.2 (k := 1) (by decide))) (gR hG7 (IsMk_r1_6 hG.2.2.2.2)) ?_
            refine w_iload dX6_total_81 (List.Mem.tail _ (List.Mem.tail _ (List.Mem.tail _ (List.Mem.tail _ (List.Mem.tail _ (List.Mem.head _)))))) ?_
            obtain ⟨h9, h⟩ := h
            refine i_iald (n := 9) dX6_total_83 (gT hG7 (IsMk_t8 hG.2.2.2.2) (IsMk_lt hG.2.2.2.2 (k := 8) (by decide))) (gL hG7 (IsMk_n8 hG.2.2.2.2)) rx5 h9 ?_
            obtain ⟨r15, σ11, hc13, hG12, rr14, h⟩ := h
            refine w_callV dX6_total_84 ml_6_111 ⟨ok_X8_priceAt, vi_X8_priceAt⟩ hs_X8_priceAt (As := [.int (nZ r10), .int (nZ (rI σ6 (u + 8) x5))]) rfl rfl (gT hG7 (IsWt_t0 hw) (IsWt_lt hw (k := 0) (by decide))) (Nat.le_of_ble_eq_true rfl) hc13 ?_
            show wp C 6 cX6_total 7 (some .int) false [] sc P 87 [(0, .ref 27), (1, .ref w), (2, .int (nZ x2)), (3, .ref (u + 1)), (4, .int (nZ x4)), (5, .int (nZ x5)), (6, .int (nZ x6))] [.int (nZ r15), .int (nZ x4)] σ11
            obtain ⟨q16, h⟩ := h
            refine i_add dX6_total_87 ?_
            refine top_i (fun z17 ez18 => ?_)
            have rz19 : inR z17 := ez18 ▸ q16
            replace h := h z17 ez18
            refine w_istore (l' := [(4, .int (nZ z17)), (0, .ref 27), (1, .ref w), (2, .int (nZ x2)), (3, .ref (u + 1)), (5, .int (nZ x5)), (6, .int (nZ x6))]) dX6_total_88 (by decide) rfl ?_
            obtain ⟨q20, h⟩ := h
            refine w_iinc (v := nZ (x6 + 1)) (l' := [(6, .int (nZ (x6 + 1))), (4, .int (nZ z17)), (0, .ref 27), (1, .ref w), (2, .int (nZ x2)), (3, .ref (u + 1)), (5, .int (nZ x5))]) dX6_total_90 (List.Mem.tail _ (List.Mem.tail _ (List.Mem.tail _ (List.Mem.tail _ (List.Mem.tail _ (List.Mem.tail _ (List.Mem.head _))))))) (nZ_add _ _) (by decide) rfl ?_
            refine w_goto (tgt := 26) dX6_total_93 rfl ?_
            exact w_weak (l' := [(0, .ref 27), (1, .ref w), (2, .int (nZ x2)), (3, .ref (u + 1)), (4, .int (nZ z17)), (5, .int (nZ x5)), (6, .int (nZ (x6 + 1)))]) (by intro q hq; simp only [List.mem_cons, List.not_mem_nil, or_false] at hq ⊢; rcases hq with rfl | rfl | rfl | rfl | rfl | rfl | rfl <;> simp) h
theorem dX6_dueByLanterns_0 : decode cX6_dueByLanterns 0 = .ok (.aload_n 0, 1) := by decide +kernel
theorem dX6_dueByLanterns_1 : decode cX6_dueByLanterns 1 = .ok (.getfield 34, 3) := by decide +kernel
theorem dX6_dueByLanterns_4 : decode cX6_dueByLanterns 4 = .ok (.getfield 54, 3) := by decide +kernel
theorem dX6_dueByLanterns_7 : decode cX6_dueByLanterns 7 = .ok (.astore_n 1, 1) := by decide +kernel
theorem dX6_dueByLanterns_8 : decode cX6_dueByLanterns 8 = .ok (.iconst 0, 1) := by decide +kernel
theorem dX6_dueByLanterns_9 : decode cX6_dueByLanterns 9 = .ok (.istore_n 2, 1) := by decide +kernel
theorem dX6_dueByLanterns_10 : decode cX6_dueByLanterns 10 = .ok (.iconst 0, 1) := by decide +kernel
theorem dX6_dueByLanterns_11 : decode cX6_dueByLanterns 11 = .ok (.istore_n 3, 1) := by decide +kernel
theorem dX6_dueByLanterns_12 : decode cX6_dueByLanterns 12 = .ok (.iload_n 3, 1) := by decide +kernel
theorem dX6_dueByLanterns_13 : decode cX6_dueByLanterns 13 = .ok (.aload_n 1, 1) := by decide +kernel
theorem dX6_dueByLanterns_14 : decode cX6_dueByLanterns 14 = .ok (.getfield 92, 3) := by decide +kernel
theorem dX6_dueByLanterns_17 : decode cX6_dueByLanterns 17 = .ok (.if_icmp .ge 60, 3) := by decide +kernel
theorem dX6_dueByLanterns_20 : decode cX6_dueByLanterns 20 = .ok (.iconst 0, 1) := by decide +kernel
theorem dX6_dueByLanterns_21 : decode cX6_dueByLanterns 21 = .ok (.istore 4, 2) := by decide +kernel
theorem dX6_dueByLanterns_23 : decode cX6_dueByLanterns 23 = .ok (.iload 4, 2) := by decide +kernel
theorem dX6_dueByLanterns_25 : decode cX6_dueByLanterns 25 = .ok (.aload_n 1, 1) := by decide +kernel
theorem dX6_dueByLanterns_26 : decode cX6_dueByLanterns 26 = .ok (.getfield 92, 3) := by decide +kernel
theorem dX6_dueByLanterns_29 : decode cX6_dueByLanterns 29 = .ok (.if_icmp .ge 42, 3) := by decide +kernel
theorem dX6_dueByLanterns_32 : decode cX6_dueByLanterns 32 = .ok (.aload_n 1, 1) := by decide +kernel
theorem dX6_dueByLanterns_33 : decode cX6_dueByLanterns 33 = .ok (.getfield 108, 3) := by decide +kernel
theorem dX6_dueByLanterns_36 : decode cX6_dueByLanterns 36 = .ok (.iload_n 3, 1) := by decide +kernel
theorem dX6_dueByLanterns_37 : decode cX6_dueByLanterns 37 = .ok (.iaload, 1) := by decide +kernel
theorem dX6_dueByLanterns_38 : decode cX6_dueByLanterns 38 = .ok (.iconst 1, 1) := by decide +kernel
theorem dX6_dueByLanterns_39 : decode cX6_dueByLanterns 39 = .ok (.if_icmp .ne 32, 3) := by decide +kernel
theorem dX6_dueByLanterns_42 : decode cX6_dueByLanterns 42 = .ok (.iload_n 3, 1) := by decide +kernel
theorem dX6_dueByLanterns_43 : decode cX6_dueByLanterns 43 = .ok (.iload 4, 2) := by decide +kernel
theorem dX6_dueByLanterns_45 : decode cX6_dueByLanterns 45 = .ok (.if_icmp .eq 20, 3) := by decide +kernel
theorem dX6_dueByLanterns_48 : decode cX6_dueByLanterns 48 = .ok (.iload_n 2, 1) := by decide +kernel
theorem dX6_dueByLanterns_49 : decode cX6_dueByLanterns 49 = .ok (.aload_n 0, 1) := by decide +kernel
theorem dX6_dueByLanterns_50 : decode cX6_dueByLanterns 50 = .ok (.getfield 12, 3) := by decide +kernel
theorem dX6_dueByLanterns_53 : decode cX6_dueByLanterns 53 = .ok (.aload_n 0, 1) := by decide +kernel
theorem dX6_dueByLanterns_54 : decode cX6_dueByLanterns 54 = .ok (.iload_n 3, 1) := by decide +kernel
theorem dX6_dueByLanterns_55 : decode cX6_dueByLanterns 55 = .ok (.iload 4, 2) := by decide +kernel
theorem dX6_dueByLanterns_57 : decode cX6_dueByLanterns 57 = .ok (.invokevirtual 101, 3) := by decide +kernel
theorem dX6_dueByLanterns_60 : decode cX6_dueByLanterns 60 = .ok (.invokevirtual 114, 3) := by decide +kernel
theorem dX6_dueByLanterns_63 : decode cX6_dueByLanterns 63 = .ok (.iadd, 1) := by decide +kernel
theorem dX6_dueByLanterns_64 : decode cX6_dueByLanterns 64 = .ok (.istore_n 2, 1) := by decide +kernel
theorem dX6_dueByLanterns_65 : decode cX6_dueByLanterns 65 = .ok (.iinc 4 1, 3) := by decide +kernel
theorem dX6_dueByLanterns_68 : decode cX6_dueByLanterns 68 = .ok (.goto (-45), 3) := by decide +kernel
theorem dX6_dueByLanterns_71 : decode cX6_dueByLanterns 71 = .ok (.iinc 3 1, 3) := by decide +kernel
theorem dX6_dueByLanterns_74 : decode cX6_dueByLanterns 74 = .ok (.goto (-62), 3) := by decide +kernel
theorem dX6_dueByLanterns_77 : decode cX6_dueByLanterns 77 = .ok (.iload_n 2, 1) := by decide +kernel
theorem dX6_dueByLanterns_78 : decode cX6_dueByLanterns 78 = .ok (.ireturn, 1) := by decide +kernel
def L_X6_dueByLanterns_12 (C : aM → List Value → aH → aO → aH → Prop) (sc : Nat × (Nat → Int32)) (P : aO → aH → Prop) (u : Nat) (x2 : Int) (x3 : Int) (σ : aH) : Prop :=
    wp C 6 cX6_dueByLanterns 5 (some .int) false [] sc P 12 [(0, .ref 27), (1, .ref (u + 1)), (2, .int (nZ x2)), (3, .int (nZ x3))] [] σ
def L_X6_dueByLanterns_23 (C : aM → List Value → aH → aO → aH → Prop) (sc : Nat × (Nat → Int32)) (P : aO → aH → Prop) (u : Nat) (x2 : Int) (x3 : Int) (x4 : Int) (σ : aH) : Prop :=
    wp C 6 cX6_dueByLanterns 5 (some .int) false [] sc P 23 [(0, .ref 27), (1, .ref (u + 1)), (2, .int (nZ x2)), (3, .int (nZ x3)), (4, .int (nZ x4))] [] σ
set_option maxRecDepth 10000 in
theorem t_X6_dueByLanterns {sc : Nat × (Nat → Int32)} {d : Nat} {Q : aO → aH → Prop} {σ : aH} {u : Nat}   (hG : G σ u) 
    (h : L_X6_dueByLanterns_12 (Ev sc d) sc Q u 0 0 σ) :
    T sc (d + 1) mX6_dueByLanterns [.ref 27] σ Q := by
  refine T.of (c := 6) (code := cX6_dueByLanterns) (mL := 5) (rt := (some .int)) (ini := false) (l := [(0, .ref 27)]) rfl rfl rfl rfl (by decide) hs_X6_dueByLanterns rfl rfl ?_
  refine w_aload_n dX6_dueByLanterns_0 rfl (List.Mem.head _) ?_
  refine w_getM (ci := 6) (k := 5) (b := u) dX6_dueByLanterns_1 fl_6_34 (by decide) (gT hG rfl (lt_of rfl)) hG.2.2.2.1 ?_
  refine w_getR (ci := 2) (k := 0) (b := (u + 1)) dX6_dueByLanterns_4 fl_6_54 (by decide) (gT hG (IsMk_t0 hG.2.2.2.2) (IsMk_lt hG.2.2.2.2 (k := 0) (by decide))) (gR hG (IsMk_r0_0 hG.2.2.2.2)) ?_
  refine w_astore_n (l' := [(1, .ref (u + 1)), (0, .ref 27)]) dX6_dueByLanterns_7 rfl (by decide) rfl ?_
  refine w_iconst (v := nZ 0) dX6_dueByLanterns_8 (by decide) ?_
  refine w_istore_n (l' := [(2, .int (nZ 0)), (1, .ref (u + 1)), (0, .ref 27)]) dX6_dueByLanterns_9 rfl (by decide) rfl ?_
  refine w_iconst (v := nZ 0) dX6_dueByLanterns_10 (by decide) ?_
  refine w_istore_n (l' := [(3, .int (nZ 0)), (2, .int (nZ 0)), (1, .ref (u + 1)), (0, .ref 27)]) dX6_dueByLanterns_11 rfl (by decide) rfl ?_
  exact w_weak (l' := [(0, .ref 27), (1, .ref (u + 1)), (2, .int (nZ 0)), (3, .int (nZ 0))]) (by intro q hq; simp only [List.mem_cons, List.not_mem_nil, or_false] at hq ⊢; rcases hq with rfl | rfl | rfl | rfl <;> simp) h
set_option maxRecDepth 10000 in
theorem v_X6_dueByLanterns_12 {C : aM → List Value → aH → aO → aH → Prop} {sc : Nat × (Nat → Int32)} {P : aO → aH → Prop} {σ : aH} {u : Nat}  {x2 : Int} {x3 : Int} (hG : G σ u) (rx2 : inR x2) (rx3 : inR x3)
    (h : (((rI σ (u + 1) 8) ≤ x3 → P (.inl (some (.int (nZ x2)))) σ) ∧ (¬ ((rI σ (u + 1) 8) ≤ x3) → L_X6_dueByLanterns_23 C sc P u x2 x3 0 σ))) :
    L_X6_dueByLanterns_12 C sc P u x2 x3 σ := by
  unfold L_X6_dueByLanterns_12
  refine w_iload_n dX6_dueByLanterns_12 rfl (List.Mem.tail _ (List.Mem.tail _ (List.Mem.tail _ (List.Mem.head _)))) ?_
  refine w_aload_n dX6_dueByLanterns_13 rfl (List.Mem.tail _ (List.Mem.head _)) ?_
  refine i_getI (ci := 7) 8 rfl dX6_dueByLanterns_14 fl_6_92 (by decide) (gT hG (IsMk_t1 hG.2.2.2.2) (IsMk_lt hG.2.2.2.2 (k := 1) (by decide))) ?_
  refine i_cmp_ge (tgt := 77) dX6_dueByLanterns_17 rfl rx3 (rI_R _ _ _) (fun c9 => ?_) (fun c9 => ?_)
  · replace h := h.1 c9
    refine w_iload_n dX6_dueByLanterns_77 rfl (List.Mem.tail _ (List.Mem.tail _ (List.Mem.head _))) ?_
    exact w_iret dX6_dueByLanterns_78 rfl h
  · replace h := h.2 c9
    refine w_iconst (v := nZ 0) dX6_dueByLanterns_20 (by decide) ?_
    refine w_istore (l' := [(4, .int (nZ 0)), (0, .ref 27), (1, .ref (u + 1)), (2, .int (nZ x2)), (3, .int (nZ x3))]) dX6_dueByLanterns_21 (by decide) rfl ?_
    exact w_weak (l' := [(0, .ref 27), (1, .ref (u + 1)), (2, .int (nZ x2)), (3, .int (nZ x3)), (4, .int (nZ 0))]) (by intro q hq; simp only [List.mem_cons, List.not_mem_nil, or_false] at hq ⊢; rcases hq with rfl | rfl | rfl | rfl | rfl <;> simp) h
set_option maxRecDepth 10000 in
theorem v_X6_dueByLanterns_23 {C : aM → List Value → aH → aO → aH → Prop} {sc : Nat × (Nat → Int32)} {P : aO → aH → Prop} {σ : aH} {u : Nat}  {x2 : Int} {x3 : Int} {x4 : Int} (hG : G σ u) (rx2 : inR x2) (rx3 : inR x3) (rx4 : inR x4)
    (h : (((rI σ (u + 1) 8) ≤ x4 → (inR (x3 + 1) ∧ L_X6_dueByLanterns_12 C sc P u x2 (x3 + 1) σ)) ∧ (¬ ((rI σ (u + 1) 8) ≤ x4) → ((0 ≤ x3 ∧ x3 < 9) ∧ ((¬ (rI σ (u + 8) x3) = 1 → (inR (x3 + 1) ∧ L_X6_dueByLanterns_12 C sc P u x2 (x3 + 1) σ)) ∧ ((rI σ (u + 8) x3) = 1 → ((x3 = x4 → (inR (x4 + 1) ∧ L_X6_dueByLanterns_23 C sc P u x2 x3 (x4 + 1) σ)) ∧ (¬ (x3 = x4) → (∃ (r8 : Int) (σ4 : aH), C mX6_need [.ref 27, .int (nZ x3), .int (nZ x4)] σ (.inl (some (.int (nZ r8)))) σ4 ∧ G σ4 u ∧ inR r8 ∧ (∃ (r13 : Int) (σ9 : aH), C mX8_lanternsAt [.ref 28, .int (nZ r8)] σ4 (.inl (some (.int (nZ r13)))) σ9 ∧ G σ9 u ∧ inR r13 ∧ (inR (x2 + r13) ∧ (∀ z15 : Int, z15 = (x2 + r13) → (inR (x4 + 1) ∧ L_X6_dueByLanterns_23 C sc P u z15 x3 (x4 + 1) σ9))))))))))))) :
    L_X6_dueByLanterns_23 C sc P u x2 x3 x4 σ := by
  unfold L_X6_dueByLanterns_23
  refine w_iload dX6_dueByLanterns_23 (List.Mem.tail _ (List.Mem.tail _ (List.Mem.tail _ (List.Mem.tail _ (List.Mem.head _))))) ?_
  refine w_aload_n dX6_dueByLanterns_25 rfl (List.Mem.tail _ (List.Mem.head _)) ?_
  refine i_getI (ci := 7) 8 rfl dX6_dueByLanterns_26 fl_6_92 (by decide) (gT hG (IsMk_t1 hG.2.2.2.2) (IsMk_lt hG.2.2.2.2 (k := 1) (by decide))) ?_
  refine i_cmp_ge (tgt := 71) dX6_dueByLanterns_29 rfl rx4 (rI_R _ _ _) (fun c9 => ?_) (fun c9 => ?_)
  · replace h := h.1 c9
    obtain ⟨q1, h⟩ := h
    refine w_iinc (v := nZ (x3 + 1)) (l' := [(3, .int (nZ (x3 + 1))), (0, .ref 27), (1, .ref (u + 1)), (2, .int (nZ x2)), (4, .int (nZ x4))]) dX6_dueByLanterns_71 (List.Mem.tail _ (List.Mem.tail _ (List.Mem.tail _ (List.Mem.head _)))) (nZ_add _ _) (by decide) rfl ?_
    refine w_goto (tgt := 12) dX6_dueByLanterns_74 rfl ?_
    exact w_weak (l' := [(0, .ref 27), (1, .ref (u + 1)), (2, .int (nZ x2)), (3, .int (nZ (x3 + 1)))]) (by intro q hq; simp only [List.mem_cons, List.not_mem_nil, or_false] at hq ⊢; rcases hq with rfl | rfl | rfl | rfl <;> simp) h
  · replace h := h.2 c9
    refine w_aload_n dX6_dueByLanterns_32 rfl (List.Mem.tail _ (List.Mem.head _)) ?_
    refine w_getR (ci := 7) (k := 6) (b := (u + 8)) dX6_dueByLanterns_33 fl_6_108 (by decide) (gT hG (IsMk_t1 hG.2.2.2.2) (IsMk_lt hG.2.2.2.2 (k := 1) (by decide))) (gR hG (IsMk_r1_6 hG.2.2.2.2)) ?_
    refine w_iload_n dX6_dueByLanterns_36 rfl (List.Mem.tail _ (List.Mem.tail _ (List.Mem.tail _ (List.Mem.head _)))) ?_
    obtain ⟨h9, h⟩ := h
    refine i_iald (n := 9) dX6_dueByLanterns_37 (gT hG (IsMk_t8 hG.2.2.2.2) (IsMk_lt hG.2.2.2.2 (k := 8) (by decide))) (gL hG (IsMk_n8 hG.2.2.2.2)) rx3 h9 ?_
    refine w_iconst (v := nZ 1) dX6_dueByLanterns_38 (by decide) ?_
    refine i_cmp_ne (tgt := 71) dX6_dueByLanterns_39 rfl (rI_R _ _ _) (by decide) (fun c9 => ?_) (fun c9 => ?_)
    · replace h := h.1 c9
      obtain ⟨q2, h⟩ := h
      refine w_iinc (v := nZ (x3 + 1)) (l' := [(3, .int (nZ (x3 + 1))), (0, .ref 27), (1, .ref (u + 1)), (2, .int (nZ x2)), (4, .int (nZ x4))]) dX6_dueByLanterns_71 (List.Mem.tail _ (List.Mem.tail _ (List.Mem.tail _ (List.Mem.head _)))) (nZ_add _ _) (by decide) rfl ?_
      refine w_goto (tgt := 12) dX6_dueByLanterns_74 rfl ?_
      exact w_weak (l' := [(0, .ref 27), (1, .ref (u + 1)), (2, .int (nZ x2)), (3, .int (nZ (x3 + 1)))]) (by intro q hq; simp only [List.mem_cons, List.not_mem_nil, or_false] at hq ⊢; rcases hq with rfl | rfl | rfl | rfl <;> simp) h
    · replace h := h.2 c9
      refine w_iload_n dX6_dueByLanterns_42 rfl (List.Mem.tail _ (List.Mem.tail _ (List.Mem.tail _ (List.Mem.head _)))) ?_
      refine w_iload dX6_dueByLanterns_43 (List.Mem.tail _ (List.Mem.tail _ (List.Mem.tail _ (List.Mem.tail _ (List.Mem.head _))))) ?_
      refine i_cmp_eq (tgt := 65) dX6_dueByLanterns_45 rfl rx3 rx4 (fun c9 => ?_) (fun c9 => ?_)
      · replace h := h.1 c9
        obtain ⟨q3, h⟩ := h
        refine w_iinc (v := nZ (x4 + 1)) (l' := [(4, .int (nZ (x4 + 1))), (0, .ref 27), (1, .ref (u + 1)), (2, .int (nZ x2)), (3, .int (nZ x3))]) dX6_dueByLanterns_65 (List.Mem.tail _ (List.Mem.tail _ (List.Mem.tail _ (List.Mem.tail _ (List.Mem.head _))))) (nZ_add _ _) (by decide) rfl ?_
        refine w_goto (tgt := 23) dX6_dueByLanterns_68 rfl ?_
        exact w_weak (l' := [(0, .ref 27), (1, .ref (u + 1)), (2, .int (nZ x2)), (3, .int (nZ x3)), (4, .int (nZ (x4 + 1)))]) (by intro q hq; simp only [List.mem_cons, List.not_mem_nil, or_false] at hq ⊢; rcases hq with rfl | rfl | rfl | rfl | rfl <;> simp) h
      · replace h := h.2 c9
        refine w_iload_n dX6_dueByLanterns_48 rfl (List.Mem.tail _ (List.Mem.tail _ (List.Mem.head _))) ?_
        refine w_aload_n dX6_dueByLanterns_49 rfl (List.Mem.head _) ?_
        refine w_getR (ci := 6) (k := 0) (b := 28) dX6_dueByLanterns_50 fl_6_12 (by decide) (gT hG rfl (lt_of rfl)) (gR hG (b := 28) rfl) ?_
        refine w_aload_n dX6_dueByLanterns_53 rfl (List.Mem.head _) ?_
        refine w_iload_n dX6_dueByLanterns_54 rfl (List.Mem.tail _ (List.Mem.tail _ (List.Mem.tail _ (List.Mem.head _)))) ?_
        refine w_iload dX6_dueByLanterns_55 (List.Mem.tail _ (List.Mem.tail _ (List.Mem.tail _ (List.Mem.tail _ (List.Mem.head _))))) ?_
        obtain ⟨r8, σ4, hc6, hG5, rr7, h⟩ := h
        refine w_callV dX6_dueByLanterns_57 ml_6_101 ⟨ok_X6_need, vi_X6_need⟩ hs_X6_need (As := [.int (nZ x3), .int (nZ x4)]) rfl rfl (gT hG rfl (lt_of rfl)) (Nat.le_of_ble_eq_true rfl) hc6 ?_
        show wp C 6 cX6_dueByLanterns 5 (some .int) false [] sc P 60 [(0, .ref 27), (1, .ref (u + 1)), (2, .int (nZ x2)), (3, .int (nZ x3)), (4, .int (nZ x4))] [.int (nZ r8), .ref 28, .int (nZ x2)] σ4
        obtain ⟨r13, σ9, hc11, hG10, rr12, h⟩ := h
        refine w_callV dX6_dueByLanterns_60 ml_6_114 ⟨ok_X8_lanternsAt, vi_X8_lanternsAt⟩ hs_X8_lanternsAt (As := [.int (nZ r8)]) rfl rfl (gT hG5 rfl (lt_of rfl)) (Nat.le_of_ble_eq_true rfl) hc11 ?_
        show wp C 6 cX6_dueByLanterns 5 (some .int) false [] sc P 63 [(0, .ref 27), (1, .ref (u + 1)), (2, .int (nZ x2)), (3, .int (nZ x3)), (4, .int (nZ x4))] [.int (nZ r13), .int (nZ x2)] σ9
        obtain ⟨q14, h⟩ := h
        refine i_add dX6_dueByLanterns_63 ?_
        refine top_i (fun z15 ez16 => ?_)
        have rz17 : inR z15 := ez16 ▸ q14
        replace h := h z15 ez16
        refine w_istore_n (l' := [(2, .int (nZ z15)), (0, .ref 27), (1, .ref (u + 1)), (3, .int (nZ x3)), (4, .int (nZ x4))]) dX6_dueByLanterns_64 rfl (by decide) rfl ?_
        obtain ⟨q18, h⟩ := h
        refine w_iinc (v := nZ (x4 + 1)) (l' := [(4, .int (nZ (x4 + 1))), (2, .int (nZ z15)), (0, .ref 27), (1, .ref (u + 1)), (3, .int (nZ x3))]) dX6_dueByLanterns_65 (List.Mem.tail _ (List.Mem.tail _ (List.Mem.tail _ (List.Mem.tail _ (List.Mem.head _))))) (nZ_add _ _) (by decide) rfl ?_
        refine w_goto (tgt := 23) dX6_dueByLanterns_68 rfl ?_
        exact w_weak (l' := [(0, .ref 27), (1, .ref (u + 1)), (2, .int (nZ z15)), (3, .int (nZ x3)), (4, .int (nZ (x4 + 1)))]) (by intro q hq; simp only [List.mem_cons, List.not_mem_nil, or_false] at hq ⊢; rcases hq with rfl | rfl | rfl | rfl | rfl <;> simp) h
theorem dX6_findLeast_0 : decode cX6_findLeast 0 = .ok (.iconst 0, 1) := by decide +kernel
theorem dX6_findLeast_1 : decode cX6_findLeast 1 = .ok (.istore_n 3, 1) := by decide +kernel
theorem dX6_findLeast_2 : decode cX6_findLeast 2 = .ok (.iload_n 3, 1) := by decide +kernel
theorem dX6_findLeast_3 : decode cX6_findLeast 3 = .ok (.bipush 9, 2) := by decide +kernel
theorem dX6_findLeast_5 : decode cX6_findLeast 5 = .ok (.if_icmp .ge 17, 3) := by decide +kernel
theorem dX6_findLeast_8 : decode cX6_findLeast 8 = .ok (.aload_n 0, 1) := by decide +kernel
theorem dX6_findLeast_9 : decode cX6_findLeast 9 = .ok (.getfield 24, 3) := by decide +kernel
theorem dX6_findLeast_12 : decode cX6_findLeast 12 = .ok (.iload_n 3, 1) := by decide +kernel
theorem dX6_findLeast_13 : decode cX6_findLeast 13 = .ok (.bipush 10, 2) := by decide +kernel
theorem dX6_findLeast_15 : decode cX6_findLeast 15 = .ok (.iastore, 1) := by decide +kernel
theorem dX6_findLeast_16 : decode cX6_findLeast 16 = .ok (.iinc 3 1, 3) := by decide +kernel
theorem dX6_findLeast_19 : decode cX6_findLeast 19 = .ok (.goto (-17), 3) := by decide +kernel
theorem dX6_findLeast_22 : decode cX6_findLeast 22 = .ok (.iconst 0, 1) := by decide +kernel
theorem dX6_findLeast_23 : decode cX6_findLeast 23 = .ok (.istore_n 3, 1) := by decide +kernel
theorem dX6_findLeast_24 : decode cX6_findLeast 24 = .ok (.iload_n 3, 1) := by decide +kernel
theorem dX6_findLeast_25 : decode cX6_findLeast 25 = .ok (.aload_n 0, 1) := by decide +kernel
theorem dX6_findLeast_26 : decode cX6_findLeast 26 = .ok (.getfield 34, 3) := by decide +kernel
theorem dX6_findLeast_29 : decode cX6_findLeast 29 = .ok (.getfield 54, 3) := by decide +kernel
theorem dX6_findLeast_32 : decode cX6_findLeast 32 = .ok (.getfield 92, 3) := by decide +kernel
theorem dX6_findLeast_35 : decode cX6_findLeast 35 = .ok (.if_icmp .ge 71, 3) := by decide +kernel
theorem dX6_findLeast_38 : decode cX6_findLeast 38 = .ok (.iload_n 3, 1) := by decide +kernel
theorem dX6_findLeast_39 : decode cX6_findLeast 39 = .ok (.iload_n 1, 1) := by decide +kernel
theorem dX6_findLeast_40 : decode cX6_findLeast 40 = .ok (.if_icmp .eq 8, 3) := by decide +kernel
theorem dX6_findLeast_43 : decode cX6_findLeast 43 = .ok (.iload_n 3, 1) := by decide +kernel
theorem dX6_findLeast_44 : decode cX6_findLeast 44 = .ok (.iload_n 2, 1) := by decide +kernel
theorem dX6_findLeast_45 : decode cX6_findLeast 45 = .ok (.if_icmp .ne 7, 3) := by decide +kernel
theorem dX6_findLeast_48 : decode cX6_findLeast 48 = .ok (.iconst (-1), 1) := by decide +kernel
theorem dX6_findLeast_49 : decode cX6_findLeast 49 = .ok (.goto 9, 3) := by decide +kernel
theorem dX6_findLeast_52 : decode cX6_findLeast 52 = .ok (.aload_n 0, 1) := by decide +kernel
theorem dX6_findLeast_53 : decode cX6_findLeast 53 = .ok (.iload_n 3, 1) := by decide +kernel
theorem dX6_findLeast_54 : decode cX6_findLeast 54 = .ok (.iload_n 1, 1) := by decide +kernel
theorem dX6_findLeast_55 : decode cX6_findLeast 55 = .ok (.invokevirtual 101, 3) := by decide +kernel
theorem dX6_findLeast_58 : decode cX6_findLeast 58 = .ok (.istore 4, 2) := by decide +kernel
theorem dX6_findLeast_60 : decode cX6_findLeast 60 = .ok (.iload 4, 2) := by decide +kernel
theorem dX6_findLeast_62 : decode cX6_findLeast 62 = .ok (.ifCond .lt 38, 3) := by decide +kernel
theorem dX6_findLeast_65 : decode cX6_findLeast 65 = .ok (.iload 4, 2) := by decide +kernel
theorem dX6_findLeast_67 : decode cX6_findLeast 67 = .ok (.bipush 90, 2) := by decide +kernel
theorem dX6_findLeast_69 : decode cX6_findLeast 69 = .ok (.if_icmp .ge 31, 3) := by decide +kernel
theorem dX6_findLeast_72 : decode cX6_findLeast 72 = .ok (.aload_n 0, 1) := by decide +kernel
theorem dX6_findLeast_73 : decode cX6_findLeast 73 = .ok (.getfield 24, 3) := by decide +kernel
theorem dX6_findLeast_76 : decode cX6_findLeast 76 = .ok (.iload 4, 2) := by decide +kernel
theorem dX6_findLeast_78 : decode cX6_findLeast 78 = .ok (.bipush 10, 2) := by decide +kernel
theorem dX6_findLeast_80 : decode cX6_findLeast 80 = .ok (.idiv, 1) := by decide +kernel
theorem dX6_findLeast_81 : decode cX6_findLeast 81 = .ok (.aload_n 0, 1) := by decide +kernel
theorem dX6_findLeast_82 : decode cX6_findLeast 82 = .ok (.getfield 24, 3) := by decide +kernel
theorem dX6_findLeast_85 : decode cX6_findLeast 85 = .ok (.iload 4, 2) := by decide +kernel
theorem dX6_findLeast_87 : decode cX6_findLeast 87 = .ok (.bipush 10, 2) := by decide +kernel
theorem dX6_findLeast_89 : decode cX6_findLeast 89 = .ok (.idiv, 1) := by decide +kernel
theorem dX6_findLeast_90 : decode cX6_findLeast 90 = .ok (.iaload, 1) := by decide +kernel
theorem dX6_findLeast_91 : decode cX6_findLeast 91 = .ok (.iload 4, 2) := by decide +kernel
theorem dX6_findLeast_93 : decode cX6_findLeast 93 = .ok (.bipush 10, 2) := by decide +kernel
theorem dX6_findLeast_95 : decode cX6_findLeast 95 = .ok (.irem, 1) := by decide +kernel
theorem dX6_findLeast_96 : decode cX6_findLeast 96 = .ok (.invokestatic 117, 3) := by decide +kernel
theorem dX6_findLeast_99 : decode cX6_findLeast 99 = .ok (.iastore, 1) := by decide +kernel
theorem dX6_findLeast_100 : decode cX6_findLeast 100 = .ok (.iinc 3 1, 3) := by decide +kernel
theorem dX6_findLeast_103 : decode cX6_findLeast 103 = .ok (.goto (-79), 3) := by decide +kernel
theorem dX6_findLeast_106 : decode cX6_findLeast 106 = .ok (.return_, 1) := by decide +kernel
def L_X6_findLeast_2 (C : aM → List Value → aH → aO → aH → Prop) (sc : Nat × (Nat → Int32)) (P : aO → aH → Prop) (x1 : Int) (x2 : Int) (x3 : Int) (σ : aH) : Prop :=
    wp C 6 cX6_findLeast 5 none false [] sc P 2 [(0, .ref 27), (1, .int (nZ x1)), (2, .int (nZ x2)), (3, .int (nZ x3))] [] σ
def L_X6_findLeast_24 (C : aM → List Value → aH → aO → aH → Prop) (sc : Nat × (Nat → Int32)) (P : aO → aH → Prop) (x1 : Int) (x2 : Int) (x3 : Int) (σ : aH) : Prop :=
    wp C 6 cX6_findLeast 5 none false [] sc P 24 [(0, .ref 27), (1, .int (nZ x1)), (2, .int (nZ x2)), (3, .int (nZ x3))] [] σ
def L_X6_findLeast_58 (C : aM → List Value → aH → aO → aH → Prop) (sc : Nat × (Nat → Int32)) (P : aO → aH → Prop) (x1 : Int) (x2 : Int) (x3 : Int) (s0 : Int) (σ : aH) : Prop :=
    wp C 6 cX6_findLeast 5 none false [] sc P 58 [(0, .ref 27), (1, .int (nZ x1)), (2, .int (nZ x2)), (3, .int (nZ x3))] [.int (nZ s0)] σ
set_option maxRecDepth 10000 in
theorem t_X6_findLeast {sc : Nat × (Nat → Int32)} {d : Nat} {Q : aO → aH → Prop} {σ : aH} {u : Nat}  {x1 : Int} {x2 : Int} (hG : G σ u) (rx1 : inR x1) (rx2 : inR x2)
    (h : L_X6_findLeast_2 (Ev sc d) sc Q x1 x2 0 σ) :
    T sc (d + 1) mX6_findLeast [.ref 27, .int (nZ x1), .int (nZ x2)] σ Q := by
  refine T.of (c := 6) (code := cX6_findLeast) (mL := 5) (rt := none) (ini := false) (l := [(0, .ref 27), (1, .int (nZ x1)), (2, .int (nZ x2))]) rfl rfl rfl rfl (by decide) hs_X6_findLeast rfl rfl ?_
  refine w_iconst (v := nZ 0) dX6_findLeast_0 (by decide) ?_
  refine w_istore_n (l' := [(3, .int (nZ 0)), (0, .ref 27), (1, .int (nZ x1)), (2, .int (nZ x2))]) dX6_findLeast_1 rfl (by decide) rfl ?_
  exact w_weak (l' := [(0, .ref 27), (1, .int (nZ x1)), (2, .int (nZ x2)), (3, .int (nZ 0))]) (by intro q hq; simp only [List.mem_cons, List.not_mem_nil, or_false] at hq ⊢; rcases hq with rfl | rfl | rfl | rfl <;> simp) h
set_option maxRecDepth 10000 in
theorem v_X6_findLeast_2 {C : aM → List Value → aH → aO → aH → Prop} {sc : Nat × (Nat → Int32)} {P : aO → aH → Prop} {σ : aH} {u : Nat}  {x1 : Int} {x2 : Int} {x3 : Int} (hG : G σ u) (rx1 : inR x1) (rx2 : inR x2) (rx3 : inR x3)
    (h : ((9 ≤ x3 → L_X6_findLeast_24 C sc P x1 x2 0 σ) ∧ (¬ (9 ≤ x3) → ((0 ≤ x3 ∧ x3 < 9) ∧ (∀ σ1 : aH, wI σ 37 x3 10 = σ1 → (inR (x3 + 1) ∧ L_X6_findLeast_2 C sc P x1 x2 (x3 + 1) σ1)))))) :
    L_X6_findLeast_2 C sc P x1 x2 x3 σ := by
  unfold L_X6_findLeast_2
  refine w_iload_n dX6_findLeast_2 rfl (List.Mem.tail _ (List.Mem.tail _ (List.Mem.tail _ (List.Mem.head _)))) ?_
  refine w_bipush (v := nZ 9) dX6_findLeast_3 (by decide) ?_
  refine i_cmp_ge (tgt := 22) dX6_findLeast_5 rfl rx3 (by decide) (fun c9 => ?_) (fun c9 => ?_)
  · replace h := h.1 c9
    refine w_iconst (v := nZ 0) dX6_findLeast_22 (by decide) ?_
    refine w_istore_n (l' := [(3, .int (nZ 0)), (0, .ref 27), (1, .int (nZ x1)), (2, .int (nZ x2))]) dX6_findLeast_23 rfl (by decide) rfl ?_
    exact w_weak (l' := [(0, .ref 27), (1, .int (nZ x1)), (2, .int (nZ x2)), (3, .int (nZ 0))]) (by intro q hq; simp only [List.mem_cons, List.not_mem_nil, or_false] at hq ⊢; rcases hq with rfl | rfl | rfl | rfl <;> simp) h
  · replace h := h.2 c9
    refine w_aload_n dX6_findLeast_8 rfl (List.Mem.head _) ?_
    refine w_getR (ci := 6) (k := 3) (b := 37) dX6_findLeast_9 fl_6_24 (by decide) (gT hG rfl (lt_of rfl)) (gR hG (b := 37) rfl) ?_
    refine w_iload_n dX6_findLeast_12 rfl (List.Mem.tail _ (List.Mem.tail _ (List.Mem.tail _ (List.Mem.head _)))) ?_
    refine w_bipush (v := nZ 10) dX6_findLeast_13 (by decide) ?_
    obtain ⟨h9, h⟩ := h
    refine i_iast (n := 9) dX6_findLeast_15 (gT hG rfl (lt_of rfl)) (gL hG rfl) rx3 h9 (fun σ1 eσ2 => ?_)
    replace h := h σ1 eσ2
    have hG3 : G σ1 u := eσ2 ▸ G.wI hG
    obtain ⟨q4, h⟩ := h
    refine w_iinc (v := nZ (x3 + 1)) (l' := [(3, .int (nZ (x3 + 1))), (0, .ref 27), (1, .int (nZ x1)), (2, .int (nZ x2))]) dX6_findLeast_16 (List.Mem.tail _ (List.Mem.tail _ (List.Mem.tail _ (List.Mem.head _)))) (nZ_add _ _) (by decide) rfl ?_
    refine w_goto (tgt := 2) dX6_findLeast_19 rfl ?_
    exact w_weak (l' := [(0, .ref 27), (1, .int (nZ x1)), (2, .int (nZ x2)), (3, .int (nZ (x3 + 1)))]) (by intro q hq; simp only [List.mem_cons, List.not_mem_nil, or_false] at hq ⊢; rcases hq with rfl | rfl | rfl | rfl <;> simp) h
set_option maxRecDepth 10000 in
theorem v_X6_findLeast_24 {C : aM → List Value → aH → aO → aH → Prop} {sc : Nat × (Nat → Int32)} {P : aO → aH → Prop} {σ : aH} {u : Nat}  {x1 : Int} {x2 : Int} {x3 : Int} (hG : G σ u) (rx1 : inR x1) (rx2 : inR x2) (rx3 : inR x3)
    (h : (((rI σ (u + 1) 8) ≤ x3 → P (.inl none) σ) ∧ (¬ ((rI σ (u + 1) 8) ≤ x3) → ((x3 = x1 → L_X6_findLeast_58 C sc P x1 x2 x3 (-1) σ) ∧ (¬ (x3 = x1) → ((¬ x3 = x2 → (∃ (r5 : Int) (σ1 : aH), C mX6_need [.ref 27, .int (nZ x3), .int (nZ x1)] σ (.inl (some (.int (nZ r5)))) σ1 ∧ G σ1 u ∧ inR r5 ∧ L_X6_findLeast_58 C sc P x1 x2 x3 r5 σ1)) ∧ (x3 = x2 → L_X6_findLeast_58 C sc P x1 x2 x3 (-1) σ))))))) :
    L_X6_findLeast_24 C sc P x1 x2 x3 σ := by
  unfold L_X6_findLeast_24
  refine w_iload_n dX6_findLeast_24 rfl (List.Mem.tail _ (List.Mem.tail _ (List.Mem.tail _ (List.Mem.head _)))) ?_
  refine w_aload_n dX6_findLeast_25 rfl (List.Mem.head _) ?_
  refine w_getM (ci := 6) (k := 5) (b := u) dX6_findLeast_26 fl_6_34 (by decide) (gT hG rfl (lt_of rfl)) hG.2.2.2.1 ?_
  refine w_getR (ci := 2) (k := 0) (b := (u + 1)) dX6_findLeast_29 fl_6_54 (by decide) (gT hG (IsMk_t0 hG.2.2.2.2) (IsMk_lt hG.2.2.2.2 (k := 0) (by decide))) (gR hG (IsMk_r0_0 hG.2.2.2.2)) ?_
  refine i_getI (ci := 7) 8 rfl dX6_findLeast_32 fl_6_92 (by decide) (gT hG (IsMk_t1 hG.2.2.2.2) (IsMk_lt hG.2.2.2.2 (k := 1) (by decide))) ?_
  refine i_cmp_ge (tgt := 106) dX6_findLeast_35 rfl rx3 (rI_R _ _ _) (fun c9 => ?_) (fun c9 => ?_)
  · replace h := h.1 c9
    exact w_vret dX6_findLeast_106 rfl h
  · replace h := h.2 c9
    refine w_iload_n dX6_findLeast_38 rfl (List.Mem.tail _ (List.Mem.tail _ (List.Mem.tail _ (List.Mem.head _)))) ?_
    refine w_iload_n dX6_findLeast_39 rfl (List.Mem.tail _ (List.Mem.head _)) ?_
    refine i_cmp_eq (tgt := 48) dX6_findLeast_40 rfl rx3 rx1 (fun c9 => ?_) (fun c9 => ?_)
    · replace h := h.1 c9
      refine w_iconst (v := nZ (-1)) dX6_findLeast_48 (by decide) ?_
      refine w_goto (tgt := 58) dX6_findLeast_49 rfl ?_
      exact h
    · replace h := h.2 c9
      refine w_iload_n dX6_findLeast_43 rfl (List.Mem.tail _ (List.Mem.tail _ (List.Mem.tail _ (List.Mem.head _)))) ?_
      refine w_iload_n dX6_findLeast_44 rfl (List.Mem.tail _ (List.Mem.tail _ (List.Mem.head _))) ?_
      refine i_cmp_ne (tgt := 52) dX6_findLeast_45 rfl rx3 rx2 (fun c9 => ?_) (fun c9 => ?_)
      · replace h := h.1 c9
        refine w_aload_n dX6_findLeast_52 rfl (List.Mem.head _) ?_
        refine w_iload_n dX6_findLeast_53 rfl (List.Mem.tail _ (List.Mem.tail _ (List.Mem.tail _ (List.Mem.head _)))) ?_
        refine w_iload_n dX6_findLeast_54 rfl (List.Mem.tail _ (List.Mem.head _)) ?_
        obtain ⟨r5, σ1, hc3, hG2, rr4, h⟩ := h
        refine w_callV dX6_findLeast_55 ml_6_101 ⟨ok_X6_need, vi_X6_need⟩ hs_X6_need (As := [.int (nZ x3), .int (nZ x1)]) rfl rfl (gT hG rfl (lt_of rfl)) (Nat.le_of_ble_eq_true rfl) hc3 ?_
        show wp C 6 cX6_findLeast 5 none false [] sc P 58 [(0, .ref 27), (1, .int (nZ x1)), (2, .int (nZ x2)), (3, .int (nZ x3))] [.int (nZ r5)] σ1
        exact h
      · replace h := h.2 c9
        refine w_iconst (v := nZ (-1)) dX6_findLeast_48 (by decide) ?_
        refine w_goto (tgt := 58) dX6_findLeast_49 rfl ?_
        exact h
set_option maxRecDepth 10000 in
theorem v_X6_findLeast_58 {C : aM → List Value → aH → aO → aH → Prop} {sc : Nat × (Nat → Int32)} {P : aO → aH → Prop} {σ : aH} {u : Nat}  {x1 : Int} {x2 : Int} {x3 : Int} {s0 : Int} (hG : G σ u) (rx1 : inR x1) (rx2 : inR x2) (rx3 : inR x3) (rs0 : inR s0)
    (h : ((s0 < 0 → (inR (x3 + 1) ∧ L_X6_findLeast_24 C sc P x1 x2 (x3 + 1) σ)) ∧ (¬ (s0 < 0) → ((90 ≤ s0 → (inR (x3 + 1) ∧ L_X6_findLeast_24 C sc P x1 x2 (x3 + 1) σ)) ∧ (¬ (90 ≤ s0) → ((0 ≤ s0 ∧ (0 : Int) < 10) ∧ inR (s0 / 10) ∧ ((0 ≤ s0 ∧ (0 : Int) < 10) ∧ inR (s0 / 10) ∧ ((0 ≤ (s0 / 10) ∧ (s0 / 10) < 9) ∧ ((0 ≤ s0 ∧ (0 : Int) < 10) ∧ inR (s0 % 10) ∧ (∀ z6 : Int, z6 = min (rI σ 37 (s0 / 10)) (s0 % 10) → ((0 ≤ (s0 / 10) ∧ (s0 / 10) < 9) ∧ (∀ σ9 : aH, wI σ 37 (s0 / 10) z6 = σ9 → (inR (x3 + 1) ∧ L_X6_findLeast_24 C sc P x1 x2 (x3 + 1) σ9))))))))))))) :
    L_X6_findLeast_58 C sc P x1 x2 x3 s0 σ := by
  unfold L_X6_findLeast_58
  refine w_istore (l' := [(4, .int (nZ s0)), (0, .ref 27), (1, .int (nZ x1)), (2, .int (nZ x2)), (3, .int (nZ x3))]) dX6_findLeast_58 (by decide) rfl ?_
  refine w_iload dX6_findLeast_60 (List.Mem.head _) ?_
  refine i_if_lt (tgt := 100) dX6_findLeast_62 rfl rs0 (fun c9 => ?_) (fun c9 => ?_)
  · replace h := h.1 c9
    obtain ⟨q1, h⟩ := h
    refine w_iinc (v := nZ (x3 + 1)) (l' := [(3, .int (nZ (x3 + 1))), (4, .int (nZ s0)), (0, .ref 27), (1, .int (nZ x1)), (2, .int (nZ x2))]) dX6_findLeast_100 (List.Mem.tail _ (List.Mem.tail _ (List.Mem.tail _ (List.Mem.tail _ (List.Mem.head _))))) (nZ_add _ _) (by decide) rfl ?_
    refine w_goto (tgt := 24) dX6_findLeast_103 rfl ?_
    exact w_weak (l' := [(0, .ref 27), (1, .int (nZ x1)), (2, .int (nZ x2)), (3, .int (nZ (x3 + 1)))]) (by intro q hq; simp only [List.mem_cons, List.not_mem_nil, or_false] at hq ⊢; rcases hq with rfl | rfl | rfl | rfl <;> simp) h
  · replace h := h.2 c9
    refine w_iload dX6_findLeast_65 (List.Mem.head _) ?_
    refine w_bipush (v := nZ 90) dX6_findLeast_67 (by decide) ?_
    refine i_cmp_ge (tgt := 100) dX6_findLeast_69 rfl rs0 (by decide) (fun c9 => ?_) (fun c9 => ?_)
    · replace h := h.1 c9
      obtain ⟨q2, h⟩ := h
      refine w_iinc (v := nZ (x3 + 1)) (l' := [(3, .int (nZ (x3 + 1))), (4, .int (nZ s0)), (0, .ref 27), (1, .int (nZ x1)), (2, .int (nZ x2))]) dX6_findLeast_100 (List.Mem.tail _ (List.Mem.tail _ (List.Mem.tail _ (List.Mem.tail _ (List.Mem.head _))))) (nZ_add _ _) (by decide) rfl ?_
      refine w_goto (tgt := 24) dX6_findLeast_103 rfl ?_
      exact w_weak (l' := [(0, .ref 27), (1, .int (nZ x1)), (2, .int (nZ x2)), (3, .int (nZ (x3 + 1)))]) (by intro q hq; simp only [List.mem_cons, List.not_mem_nil, or_false] at hq ⊢; rcases hq with rfl | rfl | rfl | rfl <;> simp) h
    · replace h := h.2 c9
      refine w_aload_n dX6_findLeast_72 rfl (List.Mem.tail _ (List.Mem.head _)) ?_
      refine w_getR (ci := 6) (k := 3) (b := 37) dX6_findLeast_73 fl_6_24 (by decide) (gT hG rfl (lt_of rfl)) (gR hG (b := 37) rfl) ?_
      refine w_iload dX6_findLeast_76 (List.Mem.head _) ?_
      refine w_bipush (v := nZ 10) dX6_findLeast_78 (by decide) ?_
      obtain ⟨h9, q3, h⟩ := h
      refine i_div dX6_findLeast_80 rs0 (by decide) h9 ?_
      refine w_aload_n dX6_findLeast_81 rfl (List.Mem.tail _ (List.Mem.head _)) ?_
      refine w_getR (ci := 6) (k := 3) (b := 37) dX6_findLeast_82 fl_6_24 (by decide) (gT hG rfl (lt_of rfl)) (gR hG (b := 37) rfl) ?_
      refine w_iload dX6_findLeast_85 (List.Mem.head _) ?_
      refine w_bipush (v := nZ 10) dX6_findLeast_87 (by decide) ?_
      obtain ⟨h9, q4, h⟩ := h
      refine i_div dX6_findLeast_89 rs0 (by decide) h9 ?_
      obtain ⟨h9, h⟩ := h
      refine i_iald (n := 9) dX6_findLeast_90 (gT hG rfl (lt_of rfl)) (gL hG rfl) q4 h9 ?_
      refine w_iload dX6_findLeast_91 (List.Mem.head _) ?_
      refine w_bipush (v := nZ 10) dX6_findLeast_93 (by decide) ?_
      obtain ⟨h9, q5, h⟩ := h
      refine i_rem dX6_findLeast_95 rs0 (by decide) h9 ?_
      refine i_mmin dX6_findLeast_96 lk_6_117 (Nat.le_of_ble_eq_true rfl) (rI_R _ _ _) q5 (fun z6 ez7 rz8 => ?_)
      replace h := h z6 ez7
      obtain ⟨h9, h⟩ := h
      refine i_iast (n := 9) dX6_findLeast_99 (gT hG rfl (lt_of rfl)) (gL hG rfl) q3 h9 (fun σ9 eσ10 => ?_)
      replace h := h σ9 eσ10
      have hG11 : G σ9 u := eσ10 ▸ G.wI hG
      obtain ⟨q12, h⟩ := h
      refine w_iinc (v := nZ (x3 + 1)) (l' := [(3, .int (nZ (x3 + 1))), (4, .int (nZ s0)), (0, .ref 27), (1, .int (nZ x1)), (2, .int (nZ x2))]) dX6_findLeast_100 (List.Mem.tail _ (List.Mem.tail _ (List.Mem.tail _ (List.Mem.tail _ (List.Mem.head _))))) (nZ_add _ _) (by decide) rfl ?_
      refine w_goto (tgt := 24) dX6_findLeast_103 rfl ?_
      exact w_weak (l' := [(0, .ref 27), (1, .int (nZ x1)), (2, .int (nZ x2)), (3, .int (nZ (x3 + 1)))]) (by intro q hq; simp only [List.mem_cons, List.not_mem_nil, or_false] at hq ⊢; rcases hq with rfl | rfl | rfl | rfl <;> simp) h
theorem dX6_minutesFrom_0 : decode cX6_minutesFrom 0 = .ok (.iload_n 2, 1) := by decide +kernel
theorem dX6_minutesFrom_1 : decode cX6_minutesFrom 1 = .ok (.bipush 9, 2) := by decide +kernel
theorem dX6_minutesFrom_3 : decode cX6_minutesFrom 3 = .ok (.if_icmp .le 7, 3) := by decide +kernel
theorem dX6_minutesFrom_6 : decode cX6_minutesFrom 6 = .ok (.iconst 0, 1) := by decide +kernel
theorem dX6_minutesFrom_7 : decode cX6_minutesFrom 7 = .ok (.goto 16, 3) := by decide +kernel
theorem dX6_minutesFrom_10 : decode cX6_minutesFrom 10 = .ok (.aload_n 0, 1) := by decide +kernel
theorem dX6_minutesFrom_11 : decode cX6_minutesFrom 11 = .ok (.getfield 18, 3) := by decide +kernel
theorem dX6_minutesFrom_14 : decode cX6_minutesFrom 14 = .ok (.bipush 10, 2) := by decide +kernel
theorem dX6_minutesFrom_16 : decode cX6_minutesFrom 16 = .ok (.iload_n 1, 1) := by decide +kernel
theorem dX6_minutesFrom_17 : decode cX6_minutesFrom 17 = .ok (.imul, 1) := by decide +kernel
theorem dX6_minutesFrom_18 : decode cX6_minutesFrom 18 = .ok (.iload_n 2, 1) := by decide +kernel
theorem dX6_minutesFrom_19 : decode cX6_minutesFrom 19 = .ok (.iadd, 1) := by decide +kernel
theorem dX6_minutesFrom_20 : decode cX6_minutesFrom 20 = .ok (.invokevirtual 120, 3) := by decide +kernel
theorem dX6_minutesFrom_23 : decode cX6_minutesFrom 23 = .ok (.ireturn, 1) := by decide +kernel
set_option maxRecDepth 10000 in
theorem t_X6_minutesFrom {sc : Nat × (Nat → Int32)} {d : Nat} {Q : aO → aH → Prop} {σ : aH} {u : Nat}  {x1 : Int} {x2 : Int} (hG : G σ u) (rx1 : inR x1) (rx2 : inR x2)
    (h : ((x2 ≤ 9 → (inR (10 * x1) ∧ (inR ((10 * x1) + x2) ∧ (∃ (r7 : Int) (σ3 : aH), Ev sc d mX8_at [.ref 31, .int (nZ ((10 * x1) + x2))] σ (.inl (some (.int (nZ r7)))) σ3 ∧ G σ3 u ∧ inR r7 ∧ Q (.inl (some (.int (nZ r7)))) σ3)))) ∧ (¬ (x2 ≤ 9) → Q (.inl (some (.int (nZ 0)))) σ))) :
    T sc (d + 1) mX6_minutesFrom [.ref 27, .int (nZ x1), .int (nZ x2)] σ Q := by
  refine T.of (c := 6) (code := cX6_minutesFrom) (mL := 3) (rt := (some .int)) (ini := false) (l := [(0, .ref 27), (1, .int (nZ x1)), (2, .int (nZ x2))]) rfl rfl rfl rfl (by decide) hs_X6_minutesFrom rfl rfl ?_
  refine w_iload_n dX6_minutesFrom_0 rfl (List.Mem.tail _ (List.Mem.tail _ (List.Mem.head _))) ?_
  refine w_bipush (v := nZ 9) dX6_minutesFrom_1 (by decide) ?_
  refine i_cmp_le (tgt := 10) dX6_minutesFrom_3 rfl rx2 (by decide) (fun c9 => ?_) (fun c9 => ?_)
  · replace h := h.1 c9
    refine w_aload_n dX6_minutesFrom_10 rfl (List.Mem.head _) ?_
    refine w_getR (ci := 6) (k := 1) (b := 31) dX6_minutesFrom_11 fl_6_18 (by decide) (gT hG rfl (lt_of rfl)) (gR hG (b := 31) rfl) ?_
    refine w_bipush (v := nZ 10) dX6_minutesFrom_14 (by decide) ?_
    refine w_iload_n dX6_minutesFrom_16 rfl (List.Mem.tail _ (List.Mem.head _)) ?_
    obtain ⟨q1, h⟩ := h
    refine i_mul dX6_minutesFrom_17 ?_
    refine w_iload_n dX6_minutesFrom_18 rfl (List.Mem.tail _ (List.Mem.tail _ (List.Mem.head _))) ?_
    obtain ⟨q2, h⟩ := h
    refine i_add dX6_minutesFrom_19 ?_
    obtain ⟨r7, σ3, hc5, hG4, rr6, h⟩ := h
    refine w_callV dX6_minutesFrom_20 ml_6_120 ⟨ok_X8_at, vi_X8_at⟩ hs_X8_at (As := [.int (nZ ((10 * x1) + x2))]) rfl rfl (gT hG rfl (lt_of rfl)) (Nat.le_of_ble_eq_true rfl) hc5 ?_
    show wp (Ev sc d) 6 cX6_minutesFrom 3 (some .int) false [] sc Q 23 [(0, .ref 27), (1, .int (nZ x1)), (2, .int (nZ x2))] [.int (nZ r7)] σ3
    exact w_iret dX6_minutesFrom_23 rfl h
  · replace h := h.2 c9
    refine w_iconst (v := nZ 0) dX6_minutesFrom_6 (by decide) ?_
    refine w_goto (tgt := 23) dX6_minutesFrom_7 rfl ?_
    exact w_iret dX6_minutesFrom_23 rfl h
theorem dX6_chillOf_0 : decode cX6_chillOf 0 = .ok (.aload_n 0, 1) := by decide +kernel
theorem dX6_chillOf_1 : decode cX6_chillOf 1 = .ok (.iload_n 1, 1) := by decide +kernel
theorem dX6_chillOf_2 : decode cX6_chillOf 2 = .ok (.iconst (-1), 1) := by decide +kernel
theorem dX6_chillOf_3 : decode cX6_chillOf 3 = .ok (.invokevirtual 123, 3) := by decide +kernel
theorem dX6_chillOf_6 : decode cX6_chillOf 6 = .ok (.iconst 0, 1) := by decide +kernel
theorem dX6_chillOf_7 : decode cX6_chillOf 7 = .ok (.istore_n 2, 1) := by decide +kernel
theorem dX6_chillOf_8 : decode cX6_chillOf 8 = .ok (.iconst 0, 1) := by decide +kernel
theorem dX6_chillOf_9 : decode cX6_chillOf 9 = .ok (.istore_n 3, 1) := by decide +kernel
theorem dX6_chillOf_10 : decode cX6_chillOf 10 = .ok (.iload_n 3, 1) := by decide +kernel
theorem dX6_chillOf_11 : decode cX6_chillOf 11 = .ok (.bipush 9, 2) := by decide +kernel
theorem dX6_chillOf_13 : decode cX6_chillOf 13 = .ok (.if_icmp .ge 23, 3) := by decide +kernel
theorem dX6_chillOf_16 : decode cX6_chillOf 16 = .ok (.iload_n 2, 1) := by decide +kernel
theorem dX6_chillOf_17 : decode cX6_chillOf 17 = .ok (.aload_n 0, 1) := by decide +kernel
theorem dX6_chillOf_18 : decode cX6_chillOf 18 = .ok (.iload_n 3, 1) := by decide +kernel
theorem dX6_chillOf_19 : decode cX6_chillOf 19 = .ok (.aload_n 0, 1) := by decide +kernel
theorem dX6_chillOf_20 : decode cX6_chillOf 20 = .ok (.getfield 24, 3) := by decide +kernel
theorem dX6_chillOf_23 : decode cX6_chillOf 23 = .ok (.iload_n 3, 1) := by decide +kernel
theorem dX6_chillOf_24 : decode cX6_chillOf 24 = .ok (.iaload, 1) := by decide +kernel
theorem dX6_chillOf_25 : decode cX6_chillOf 25 = .ok (.invokevirtual 127, 3) := by decide +kernel
theorem dX6_chillOf_28 : decode cX6_chillOf 28 = .ok (.iadd, 1) := by decide +kernel
theorem dX6_chillOf_29 : decode cX6_chillOf 29 = .ok (.istore_n 2, 1) := by decide +kernel
theorem dX6_chillOf_30 : decode cX6_chillOf 30 = .ok (.iinc 3 1, 3) := by decide +kernel
theorem dX6_chillOf_33 : decode cX6_chillOf 33 = .ok (.goto (-23), 3) := by decide +kernel
theorem dX6_chillOf_36 : decode cX6_chillOf 36 = .ok (.iload_n 2, 1) := by decide +kernel
theorem dX6_chillOf_37 : decode cX6_chillOf 37 = .ok (.ireturn, 1) := by decide +kernel
def L_X6_chillOf_10 (C : aM → List Value → aH → aO → aH → Prop) (sc : Nat × (Nat → Int32)) (P : aO → aH → Prop) (x1 : Int) (x2 : Int) (x3 : Int) (σ : aH) : Prop :=
    wp C 6 cX6_chillOf 4 (some .int) false [] sc P 10 [(0, .ref 27), (1, .int (nZ x1)), (2, .int (nZ x2)), (3, .int (nZ x3))] [] σ
set_option maxRecDepth 10000 in
theorem t_X6_chillOf {sc : Nat × (Nat → Int32)} {d : Nat} {Q : aO → aH → Prop} {σ : aH} {u : Nat}  {x1 : Int} (hG : G σ u) (rx1 : inR x1)
    (h : (∃ σ1 : aH, Ev sc d mX6_findLeast [.ref 27, .int (nZ x1), .int (nZ (-1))] σ (.inl none) σ1 ∧ G σ1 u ∧ L_X6_chillOf_10 (Ev sc d) sc Q x1 0 0 σ1)) :
    T sc (d + 1) mX6_chillOf [.ref 27, .int (nZ x1)] σ Q := by
  refine T.of (c := 6) (code := cX6_chillOf) (mL := 4) (rt := (some .int)) (ini := false) (l := [(0, .ref 27), (1, .int (nZ x1))]) rfl rfl rfl rfl (by decide) hs_X6_chillOf rfl rfl ?_
  refine w_aload_n dX6_chillOf_0 rfl (List.Mem.head _) ?_
  refine w_iload_n dX6_chillOf_1 rfl (List.Mem.tail _ (List.Mem.head _)) ?_
  refine w_iconst (v := nZ (-1)) dX6_chillOf_2 (by decide) ?_
  obtain ⟨σ1, hc3, hG2, h⟩ := h
  refine w_callV dX6_chillOf_3 ml_6_123 ⟨ok_X6_findLeast, vi_X6_findLeast⟩ hs_X6_findLeast (As := [.int (nZ x1), .int (nZ (-1))]) rfl rfl (gT hG rfl (lt_of rfl)) (Nat.le_of_ble_eq_true rfl) hc3 ?_
  show wp (Ev sc d) 6 cX6_chillOf 4 (some .int) false [] sc Q 6 [(0, .ref 27), (1, .int (nZ x1))] [] σ1
  refine w_iconst (v := nZ 0) dX6_chillOf_6 (by decide) ?_
  refine w_istore_n (l' := [(2, .int (nZ 0)), (0, .ref 27), (1, .int (nZ x1))]) dX6_chillOf_7 rfl (by decide) rfl ?_
  refine w_iconst (v := nZ 0) dX6_chillOf_8 (by decide) ?_
  refine w_istore_n (l' := [(3, .int (nZ 0)), (2, .int (nZ 0)), (0, .ref 27), (1, .int (nZ x1))]) dX6_chillOf_9 rfl (by decide) rfl ?_
  exact w_weak (l' := [(0, .ref 27), (1, .int (nZ x1)), (2, .int (nZ 0)), (3, .int (nZ 0))]) (by intro q hq; simp only [List.mem_cons, List.not_mem_nil, or_false] at hq ⊢; rcases hq with rfl | rfl | rfl | rfl <;> simp) h
set_option maxRecDepth 10000 in
theorem v_X6_chillOf_10 {C : aM → List Value → aH → aO → aH → Prop} {sc : Nat × (Nat → Int32)} {P : aO → aH → Prop} {σ : aH} {u : Nat}  {x1 : Int} {x2 : Int} {x3 : Int} (hG : G σ u) (rx1 : inR x1) (rx2 : inR x2) (rx3 : inR x3)
    (h : ((9 ≤ x3 → P (.inl (some (.int (nZ x2)))) σ) ∧ (¬ (9 ≤ x3) → ((0 ≤ x3 ∧ x3 < 9) ∧ (∃ (r5 : Int) (σ1 : aH), C mX6_minutesFrom [.ref 27, .int (nZ x3), .int (nZ (rI σ 37 x3))] σ (.inl (some (.int (nZ r5)))) σ1 ∧ G σ1 u ∧ inR r5 ∧ (inR (x2 + r5) ∧ (∀ z7 : Int, z7 = (x2 + r5) → (inR (x3 + 1) ∧ L_X6_chillOf_10 C sc P x1 z7 (x3 + 1) σ1)))))))) :
    L_X6_chillOf_10 C sc P x1 x2 x3 σ := by
  unfold L_X6_chillOf_10
  refine w_iload_n dX6_chillOf_10 rfl (List.Mem.tail _ (List.Mem.tail _ (List.Mem.tail _ (List.Mem.head _)))) ?_
  refine w_bipush (v := nZ 9) dX6_chillOf_11 (by decide) ?_
  refine i_cmp_ge (tgt := 36) dX6_chillOf_13 rfl rx3 (by decide) (fun c9 => ?_) (fun c9 => ?_)
  · replace h := h.1 c9
    refine w_iload_n dX6_chillOf_36 rfl (List.Mem.tail _ (List.Mem.tail _ (List.Mem.head _))) ?_
    exact w_iret dX6_chillOf_37 rfl h
  · replace h := h.2 c9
    refine w_iload_n dX6_chillOf_16 rfl (List.Mem.tail _ (List.Mem.tail _ (List.Mem.head _))) ?_
    refine w_aload_n dX6_chillOf_17 rfl (List.Mem.head _) ?_
    refine w_iload_n dX6_chillOf_18 rfl (List.Mem.tail _ (List.Mem.tail _ (List.Mem.tail _ (List.Mem.head _)))) ?_
    refine w_aload_n dX6_chillOf_19 rfl (List.Mem.head _) ?_
    refine w_getR (ci := 6) (k := 3) (b := 37) dX6_chillOf_20 fl_6_24 (by decide) (gT hG rfl (lt_of rfl)) (gR hG (b := 37) rfl) ?_
    refine w_iload_n dX6_chillOf_23 rfl (List.Mem.tail _ (List.Mem.tail _ (List.Mem.tail _ (List.Mem.head _)))) ?_
    obtain ⟨h9, h⟩ := h
    refine i_iald (n := 9) dX6_chillOf_24 (gT hG rfl (lt_of rfl)) (gL hG rfl) rx3 h9 ?_
    obtain ⟨r5, σ1, hc3, hG2, rr4, h⟩ := h
    refine w_callV dX6_chillOf_25 ml_6_127 ⟨ok_X6_minutesFrom, vi_X6_minutesFrom⟩ hs_X6_minutesFrom (As := [.int (nZ x3), .int (nZ (rI σ 37 x3))]) rfl rfl (gT hG rfl (lt_of rfl)) (Nat.le_of_ble_eq_true rfl) hc3 ?_
    show wp C 6 cX6_chillOf 4 (some .int) false [] sc P 28 [(0, .ref 27), (1, .int (nZ x1)), (2, .int (nZ x2)), (3, .int (nZ x3))] [.int (nZ r5), .int (nZ x2)] σ1
    obtain ⟨q6, h⟩ := h
    refine i_add dX6_chillOf_28 ?_
    refine top_i (fun z7 ez8 => ?_)
    have rz9 : inR z7 := ez8 ▸ q6
    replace h := h z7 ez8
    refine w_istore_n (l' := [(2, .int (nZ z7)), (0, .ref 27), (1, .int (nZ x1)), (3, .int (nZ x3))]) dX6_chillOf_29 rfl (by decide) rfl ?_
    obtain ⟨q10, h⟩ := h
    refine w_iinc (v := nZ (x3 + 1)) (l' := [(3, .int (nZ (x3 + 1))), (2, .int (nZ z7)), (0, .ref 27), (1, .int (nZ x1))]) dX6_chillOf_30 (List.Mem.tail _ (List.Mem.tail _ (List.Mem.tail _ (List.Mem.head _)))) (nZ_add _ _) (by decide) rfl ?_
    refine w_goto (tgt := 10) dX6_chillOf_33 rfl ?_
    exact w_weak (l' := [(0, .ref 27), (1, .int (nZ x1)), (2, .int (nZ z7)), (3, .int (nZ (x3 + 1)))]) (by intro q hq; simp only [List.mem_cons, List.not_mem_nil, or_false] at hq ⊢; rcases hq with rfl | rfl | rfl | rfl <;> simp) h
theorem dX6_ledTo_0 : decode cX6_ledTo 0 = .ok (.aload_n 0, 1) := by decide +kernel
theorem dX6_ledTo_1 : decode cX6_ledTo 1 = .ok (.iload_n 2, 1) := by decide +kernel
theorem dX6_ledTo_2 : decode cX6_ledTo 2 = .ok (.iload_n 1, 1) := by decide +kernel
theorem dX6_ledTo_3 : decode cX6_ledTo 3 = .ok (.invokevirtual 101, 3) := by decide +kernel
theorem dX6_ledTo_6 : decode cX6_ledTo 6 = .ok (.istore_n 3, 1) := by decide +kernel
theorem dX6_ledTo_7 : decode cX6_ledTo 7 = .ok (.iload_n 3, 1) := by decide +kernel
theorem dX6_ledTo_8 : decode cX6_ledTo 8 = .ok (.ifCond .lt 9, 3) := by decide +kernel
theorem dX6_ledTo_11 : decode cX6_ledTo 11 = .ok (.iload_n 3, 1) := by decide +kernel
theorem dX6_ledTo_12 : decode cX6_ledTo 12 = .ok (.bipush 90, 2) := by decide +kernel
theorem dX6_ledTo_14 : decode cX6_ledTo 14 = .ok (.if_icmp .lt 5, 3) := by decide +kernel
theorem dX6_ledTo_17 : decode cX6_ledTo 17 = .ok (.iconst 0, 1) := by decide +kernel
theorem dX6_ledTo_18 : decode cX6_ledTo 18 = .ok (.ireturn, 1) := by decide +kernel
theorem dX6_ledTo_19 : decode cX6_ledTo 19 = .ok (.aload_n 0, 1) := by decide +kernel
theorem dX6_ledTo_20 : decode cX6_ledTo 20 = .ok (.iload_n 1, 1) := by decide +kernel
theorem dX6_ledTo_21 : decode cX6_ledTo 21 = .ok (.iload_n 2, 1) := by decide +kernel
theorem dX6_ledTo_22 : decode cX6_ledTo 22 = .ok (.invokevirtual 123, 3) := by decide +kernel
theorem dX6_ledTo_25 : decode cX6_ledTo 25 = .ok (.iload_n 3, 1) := by decide +kernel
theorem dX6_ledTo_26 : decode cX6_ledTo 26 = .ok (.bipush 10, 2) := by decide +kernel
theorem dX6_ledTo_28 : decode cX6_ledTo 28 = .ok (.idiv, 1) := by decide +kernel
theorem dX6_ledTo_29 : decode cX6_ledTo 29 = .ok (.istore 4, 2) := by decide +kernel
theorem dX6_ledTo_31 : decode cX6_ledTo 31 = .ok (.iconst 0, 1) := by decide +kernel
theorem dX6_ledTo_32 : decode cX6_ledTo 32 = .ok (.aload_n 0, 1) := by decide +kernel
theorem dX6_ledTo_33 : decode cX6_ledTo 33 = .ok (.getfield 18, 3) := by decide +kernel
theorem dX6_ledTo_36 : decode cX6_ledTo 36 = .ok (.iload_n 3, 1) := by decide +kernel
theorem dX6_ledTo_37 : decode cX6_ledTo 37 = .ok (.invokevirtual 120, 3) := by decide +kernel
theorem dX6_ledTo_40 : decode cX6_ledTo 40 = .ok (.aload_n 0, 1) := by decide +kernel
theorem dX6_ledTo_41 : decode cX6_ledTo 41 = .ok (.iload 4, 2) := by decide +kernel
theorem dX6_ledTo_43 : decode cX6_ledTo 43 = .ok (.aload_n 0, 1) := by decide +kernel
theorem dX6_ledTo_44 : decode cX6_ledTo 44 = .ok (.getfield 24, 3) := by decide +kernel
theorem dX6_ledTo_47 : decode cX6_ledTo 47 = .ok (.iload 4, 2) := by decide +kernel
theorem dX6_ledTo_49 : decode cX6_ledTo 49 = .ok (.iaload, 1) := by decide +kernel
theorem dX6_ledTo_50 : decode cX6_ledTo 50 = .ok (.invokevirtual 127, 3) := by decide +kernel
theorem dX6_ledTo_53 : decode cX6_ledTo 53 = .ok (.isub, 1) := by decide +kernel
theorem dX6_ledTo_54 : decode cX6_ledTo 54 = .ok (.invokestatic 82, 3) := by decide +kernel
theorem dX6_ledTo_57 : decode cX6_ledTo 57 = .ok (.ireturn, 1) := by decide +kernel
set_option maxRecDepth 10000 in
theorem t_X6_ledTo {sc : Nat × (Nat → Int32)} {d : Nat} {Q : aO → aH → Prop} {σ : aH} {u : Nat}  {x1 : Int} {x2 : Int} (hG : G σ u) (rx1 : inR x1) (rx2 : inR x2)
    (h : (∃ (r5 : Int) (σ1 : aH), Ev sc d mX6_need [.ref 27, .int (nZ x2), .int (nZ x1)] σ (.inl (some (.int (nZ r5)))) σ1 ∧ G σ1 u ∧ inR r5 ∧ ((r5 < 0 → Q (.inl (some (.int (nZ 0)))) σ1) ∧ (¬ (r5 < 0) → ((r5 < 90 → (∃ σ6 : aH, Ev sc d mX6_findLeast [.ref 27, .int (nZ x1), .int (nZ x2)] σ1 (.inl none) σ6 ∧ G σ6 u ∧ ((0 ≤ r5 ∧ (0 : Int) < 10) ∧ inR (r5 / 10) ∧ (∀ z11 : Int, z11 = (r5 / 10) → (∃ (r18 : Int) (σ14 : aH), Ev sc d mX8_at [.ref 31, .int (nZ r5)] σ6 (.inl (some (.int (nZ r18)))) σ14 ∧ G σ14 u ∧ inR r18 ∧ ((0 ≤ z11 ∧ z11 < 9) ∧ (∃ (r23 : Int) (σ19 : aH), Ev sc d mX6_minutesFrom [.ref 27, .int (nZ z11), .int (nZ (rI σ14 37 z11))] σ14 (.inl (some (.int (nZ r23)))) σ19 ∧ G σ19 u ∧ inR r23 ∧ (inR (r18 - r23) ∧ (∀ z25 : Int, z25 = max 0 (r18 - r23) → Q (.inl (some (.int (nZ z25)))) σ19))))))))) ∧ (¬ (r5 < 90) → Q (.inl (some (.int (nZ 0)))) σ1)))))) :
    T sc (d + 1) mX6_ledTo [.ref 27, .int (nZ x1), .int (nZ x2)] σ Q := by
  refine T.of (c := 6) (code := cX6_ledTo) (mL := 5) (rt := (some .int)) (ini := false) (l := [(0, .ref 27), (1, .int (nZ x1)), (2, .int (nZ x2))]) rfl rfl rfl rfl (by decide) hs_X6_ledTo rfl rfl ?_
  refine w_aload_n dX6_ledTo_0 rfl (List.Mem.head _) ?_
  refine w_iload_n dX6_ledTo_1 rfl (List.Mem.tail _ (List.Mem.tail _ (List.Mem.head _))) ?_
  refine w_iload_n dX6_ledTo_2 rfl (List.Mem.tail _ (List.Mem.head _)) ?_
  obtain ⟨r5, σ1, hc3, hG2, rr4, h⟩ := h
  refine w_callV dX6_ledTo_3 ml_6_101 ⟨ok_X6_need, vi_X6_need⟩ hs_X6_need (As := [.int (nZ x2), .int (nZ x1)]) rfl rfl (gT hG rfl (lt_of rfl)) (Nat.le_of_ble_eq_true rfl) hc3 ?_
  show wp (Ev sc d) 6 cX6_ledTo 5 (some .int) false [] sc Q 6 [(0, .ref 27), (1, .int (nZ x1)), (2, .int (nZ x2))] [.int (nZ r5)] σ1
  refine w_istore_n (l' := [(3, .int (nZ r5)), (0, .ref 27), (1, .int (nZ x1)), (2, .int (nZ x2))]) dX6_ledTo_6 rfl (by decide) rfl ?_
  refine w_iload_n dX6_ledTo_7 rfl (List.Mem.head _) ?_
  refine i_if_lt (tgt := 17) dX6_ledTo_8 rfl rr4 (fun c9 => ?_) (fun c9 => ?_)
  · replace h := h.1 c9
    refine w_iconst (v := nZ 0) dX6_ledTo_17 (by decide) ?_
    exact w_iret dX6_ledTo_18 rfl h
  · replace h := h.2 c9
    refine w_iload_n dX6_ledTo_11 rfl (List.Mem.head _) ?_
    refine w_bipush (v := nZ 90) dX6_ledTo_12 (by decide) ?_
    refine i_cmp_lt (tgt := 19) dX6_ledTo_14 rfl rr4 (by decide) (fun c9 => ?_) (fun c9 => ?_)
    · replace h := h.1 c9
      refine w_aload_n dX6_ledTo_19 rfl (List.Mem.tail _ (List.Mem.head _)) ?_
      refine w_iload_n dX6_ledTo_20 rfl (List.Mem.tail _ (List.Mem.tail _ (List.Mem.head _))) ?_
      refine w_iload_n dX6_ledTo_21 rfl (List.Mem.tail _ (List.Mem.tail _ (List.Mem.tail _ (List.Mem.head _)))) ?_
      obtain ⟨σ6, hc8, hG7, h⟩ := h
      refine w_callV dX6_ledTo_22 ml_6_123 ⟨ok_X6_findLeast, vi_X6_findLeast⟩ hs_X6_findLeast (As := [.int (nZ x1), .int (nZ x2)]) rfl rfl (gT hG2 rfl (lt_of rfl)) (Nat.le_of_ble_eq_true rfl) hc8 ?_
      show wp (Ev sc d) 6 cX6_ledTo 5 (some .int) false [] sc Q 25 [(3, .int (nZ r5)), (0, .ref 27), (1, .int (nZ x1)), (2, .int (nZ x2))] [] σ6
      refine w_iload_n dX6_ledTo_25 rfl (List.Mem.head _) ?_
      refine w_bipush (v := nZ 10) dX6_ledTo_26 (by decide) ?_
      obtain ⟨h9, q10, h⟩ := h
      refine i_div dX6_ledTo_28 rr4 (by decide) h9 ?_
      refine top_i (fun z11 ez12 => ?_)
      have rz13 : inR z11 := ez12 ▸ q10
      replace h := h z11 ez12
      refine w_istore (l' := [(4, .int (nZ z11)), (3, .int (nZ r5)), (0, .ref 27), (1, .int (nZ x1)), (2, .int (nZ x2))]) dX6_ledTo_29 (by decide) rfl ?_
      refine w_iconst (v := nZ 0) dX6_ledTo_31 (by decide) ?_
      refine w_aload_n dX6_ledTo_32 rfl (List.Mem.tail _ (List.Mem.tail _ (List.Mem.head _))) ?_
      refine w_getR (ci := 6) (k := 1) (b := 31) dX6_ledTo_33 fl_6_18 (by decide) (gT hG7 rfl (lt_of rfl)) (gR hG7 (b := 31) rfl) ?_
      refine w_iload_n dX6_ledTo_36 rfl (List.Mem.tail _ (List.Mem.head _)) ?_
      obtain ⟨r18, σ14, hc16, hG15, rr17, h⟩ := h
      refine w_callV dX6_ledTo_37 ml_6_120 ⟨ok_X8_at, vi_X8_at⟩ hs_X8_at (As := [.int (nZ r5)]) rfl rfl (gT hG7 rfl (lt_of rfl)) (Nat.le_of_ble_eq_true rfl) hc16 ?_
      show wp (Ev sc d) 6 cX6_ledTo 5 (some .int) false [] sc Q 40 [(4, .int (nZ z11)), (3, .int (nZ r5)), (0, .ref 27), (1, .int (nZ x1)), (2, .int (nZ x2))] [.int (nZ r18), .int (nZ 0)] σ14
      refine w_aload_n dX6_ledTo_40 rfl (List.Mem.tail _ (List.Mem.tail _ (List.Mem.head _))) ?_
      refine w_iload dX6_ledTo_41 (List.Mem.head _) ?_
      refine w_aload_n dX6_ledTo_43 rfl (List.Mem.tail _ (List.Mem.tail _ (List.Mem.head _))) ?_
      refine w_getR (ci := 6) (k := 3) (b := 37) dX6_ledTo_44 fl_6_24 (by decide) (gT hG15 rfl (lt_of rfl)) (gR hG15 (b := 37) rfl) ?_
      refine w_iload dX6_ledTo_47 (List.Mem.head _) ?_
      obtain ⟨h9, h⟩ := h
      refine i_iald (n := 9) dX6_ledTo_49 (gT hG15 rfl (lt_of rfl)) (gL hG15 rfl) rz13 h9 ?_
      obtain ⟨r23, σ19, hc21, hG20, rr22, h⟩ := h
      refine w_callV dX6_ledTo_50 ml_6_127 ⟨ok_X6_minutesFrom, vi_X6_minutesFrom⟩ hs_X6_minutesFrom (As := [.int (nZ z11), .int (nZ (rI σ14 37 z11))]) rfl rfl (gT hG15 rfl (lt_of rfl)) (Nat.le_of_ble_eq_true rfl) hc21 ?_
      show wp (Ev sc d) 6 cX6_ledTo 5 (some .int) false [] sc Q 53 [(4, .int (nZ z11)), (3, .int (nZ r5)), (0, .ref 27), (1, .int (nZ x1)), (2, .int (nZ x2))] [.int (nZ r23), .int (nZ r18), .int (nZ 0)] σ19
      obtain ⟨q24, h⟩ := h
      refine i_sub dX6_ledTo_53 ?_
      refine i_mmax dX6_ledTo_54 lk_6_82 (Nat.le_of_ble_eq_true rfl) (by decide) q24 (fun z25 ez26 rz27 => ?_)
      replace h := h z25 ez26
      exact w_iret dX6_ledTo_57 rfl h
    · replace h := h.2 c9
      refine w_iconst (v := nZ 0) dX6_ledTo_17 (by decide) ?_
      exact w_iret dX6_ledTo_18 rfl h
theorem dX6_harms_0 : decode cX6_harms 0 = .ok (.iconst 0, 1) := by decide +kernel
theorem dX6_harms_1 : decode cX6_harms 1 = .ok (.istore_n 2, 1) := by decide +kernel
theorem dX6_harms_2 : decode cX6_harms 2 = .ok (.iload_n 2, 1) := by decide +kernel
theorem dX6_harms_3 : decode cX6_harms 3 = .ok (.aload_n 0, 1) := by decide +kernel
theorem dX6_harms_4 : decode cX6_harms 4 = .ok (.getfield 34, 3) := by decide +kernel
theorem dX6_harms_7 : decode cX6_harms 7 = .ok (.getfield 54, 3) := by decide +kernel
theorem dX6_harms_10 : decode cX6_harms 10 = .ok (.getfield 92, 3) := by decide +kernel
theorem dX6_harms_13 : decode cX6_harms 13 = .ok (.if_icmp .ge 32, 3) := by decide +kernel
theorem dX6_harms_16 : decode cX6_harms 16 = .ok (.iload_n 2, 1) := by decide +kernel
theorem dX6_harms_17 : decode cX6_harms 17 = .ok (.iload_n 1, 1) := by decide +kernel
theorem dX6_harms_18 : decode cX6_harms 18 = .ok (.if_icmp .eq 21, 3) := by decide +kernel
theorem dX6_harms_21 : decode cX6_harms 21 = .ok (.aload_n 0, 1) := by decide +kernel
theorem dX6_harms_22 : decode cX6_harms 22 = .ok (.getfield 18, 3) := by decide +kernel
theorem dX6_harms_25 : decode cX6_harms 25 = .ok (.aload_n 0, 1) := by decide +kernel
theorem dX6_harms_26 : decode cX6_harms 26 = .ok (.iload_n 1, 1) := by decide +kernel
theorem dX6_harms_27 : decode cX6_harms 27 = .ok (.iload_n 2, 1) := by decide +kernel
theorem dX6_harms_28 : decode cX6_harms 28 = .ok (.invokevirtual 101, 3) := by decide +kernel
theorem dX6_harms_31 : decode cX6_harms 31 = .ok (.invokevirtual 120, 3) := by decide +kernel
theorem dX6_harms_34 : decode cX6_harms 34 = .ok (.ifCond .le 5, 3) := by decide +kernel
theorem dX6_harms_37 : decode cX6_harms 37 = .ok (.iconst 1, 1) := by decide +kernel
theorem dX6_harms_38 : decode cX6_harms 38 = .ok (.ireturn, 1) := by decide +kernel
theorem dX6_harms_39 : decode cX6_harms 39 = .ok (.iinc 2 1, 3) := by decide +kernel
theorem dX6_harms_42 : decode cX6_harms 42 = .ok (.goto (-40), 3) := by decide +kernel
theorem dX6_harms_45 : decode cX6_harms 45 = .ok (.iconst 0, 1) := by decide +kernel
theorem dX6_harms_46 : decode cX6_harms 46 = .ok (.ireturn, 1) := by decide +kernel
def L_X6_harms_2 (C : aM → List Value → aH → aO → aH → Prop) (sc : Nat × (Nat → Int32)) (P : aO → aH → Prop) (x1 : Int) (x2 : Int) (σ : aH) : Prop :=
    wp C 6 cX6_harms 3 (some .boolean) false [] sc P 2 [(0, .ref 27), (1, .int (nZ x1)), (2, .int (nZ x2))] [] σ
set_option maxRecDepth 10000 in
theorem t_X6_harms {sc : Nat × (Nat → Int32)} {d : Nat} {Q : aO → aH → Prop} {σ : aH} {u : Nat}  {x1 : Int} (hG : G σ u) (rx1 : inR x1)
    (h : L_X6_harms_2 (Ev sc d) sc Q x1 0 σ) :
    T sc (d + 1) mX6_harms [.ref 27, .int (nZ x1)] σ Q := by
  refine T.of (c := 6) (code := cX6_harms) (mL := 3) (rt := (some .boolean)) (ini := false) (l := [(0, .ref 27), (1, .int (nZ x1))]) rfl rfl rfl rfl (by decide) hs_X6_harms rfl rfl ?_
  refine w_iconst (v := nZ 0) dX6_harms_0 (by decide) ?_
  refine w_istore_n (l' := [(2, .int (nZ 0)), (0, .ref 27), (1, .int (nZ x1))]) dX6_harms_1 rfl (by decide) rfl ?_
  exact w_weak (l' := [(0, .ref 27), (1, .int (nZ x1)), (2, .int (nZ 0))]) (by intro q hq; simp only [List.mem_cons, List.not_mem_nil, or_false] at hq ⊢; rcases hq with rfl | rfl | rfl <;> simp) h
set_option maxRecDepth 10000 in
theorem v_X6_harms_2 {C : aM → List Value → aH → aO → aH → Prop} {sc : Nat × (Nat → Int32)} {P : aO → aH → Prop} {σ : aH} {u : Nat}  {x1 : Int} {x2 : Int} (hG : G σ u) (rx1 : inR x1) (rx2 : inR x2)
    (h : (((rI σ (u + 1) 8) ≤ x2 → P (.inl (some (.int (nZ 0)))) σ) ∧ (¬ ((rI σ (u + 1) 8) ≤ x2) → ((x2 = x1 → (inR (x2 + 1) ∧ L_X6_harms_2 C sc P x1 (x2 + 1) σ)) ∧ (¬ (x2 = x1) → (∃ (r6 : Int) (σ2 : aH), C mX6_need [.ref 27, .int (nZ x1), .int (nZ x2)] σ (.inl (some (.int (nZ r6)))) σ2 ∧ G σ2 u ∧ inR r6 ∧ (∃ (r11 : Int) (σ7 : aH), C mX8_at [.ref 31, .int (nZ r6)] σ2 (.inl (some (.int (nZ r11)))) σ7 ∧ G σ7 u ∧ inR r11 ∧ ((r11 ≤ 0 → (inR (x2 + 1) ∧ L_X6_harms_2 C sc P x1 (x2 + 1) σ7)) ∧ (¬ (r11 ≤ 0) → P (.inl (some (.int (nZ 1)))) σ7))))))))) :
    L_X6_harms_2 C sc P x1 x2 σ := by
  unfold L_X6_harms_2
  refine w_iload_n dX6_harms_2 rfl (List.Mem.tail _ (List.Mem.tail _ (List.Mem.head _))) ?_
  refine w_aload_n dX6_harms_3 rfl (List.Mem.head _) ?_
  refine w_getM (ci := 6) (k := 5) (b := u) dX6_harms_4 fl_6_34 (by decide) (gT hG rfl (lt_of rfl)) hG.2.2.2.1 ?_
  refine w_getR (ci := 2) (k := 0) (b := (u + 1)) dX6_harms_7 fl_6_54 (by decide) (gT hG (IsMk_t0 hG.2.2.2.2) (IsMk_lt hG.2.2.2.2 (k := 0) (by decide))) (gR hG (IsMk_r0_0 hG.2.2.2.2)) ?_
  refine i_getI (ci := 7) 8 rfl dX6_harms_10 fl_6_92 (by decide) (gT hG (IsMk_t1 hG.2.2.2.2) (IsMk_lt hG.2.2.2.2 (k := 1) (by decide))) ?_
  refine i_cmp_ge (tgt := 45) dX6_harms_13 rfl rx2 (rI_R _ _ _) (fun c9 => ?_) (fun c9 => ?_)
  · replace h := h.1 c9
    refine w_iconst (v := nZ 0) dX6_harms_45 (by decide) ?_
    exact i_zret dX6_harms_46 rfl (by decide) h
  · replace h := h.2 c9
    refine w_iload_n dX6_harms_16 rfl (List.Mem.tail _ (List.Mem.tail _ (List.Mem.head _))) ?_
    refine w_iload_n dX6_harms_17 rfl (List.Mem.tail _ (List.Mem.head _)) ?_
    refine i_cmp_eq (tgt := 39) dX6_harms_18 rfl rx2 rx1 (fun c9 => ?_) (fun c9 => ?_)
    · replace h := h.1 c9
      obtain ⟨q1, h⟩ := h
      refine w_iinc (v := nZ (x2 + 1)) (l' := [(2, .int (nZ (x2 + 1))), (0, .ref 27), (1, .int (nZ x1))]) dX6_harms_39 (List.Mem.tail _ (List.Mem.tail _ (List.Mem.head _))) (nZ_add _ _) (by decide) rfl ?_
      refine w_goto (tgt := 2) dX6_harms_42 rfl ?_
      exact w_weak (l' := [(0, .ref 27), (1, .int (nZ x1)), (2, .int (nZ (x2 + 1)))]) (by intro q hq; simp only [List.mem_cons, List.not_mem_nil, or_false] at hq ⊢; rcases hq with rfl | rfl | rfl <;> simp) h
    · replace h := h.2 c9
      refine w_aload_n dX6_harms_21 rfl (List.Mem.head _) ?_
      refine w_getR (ci := 6) (k := 1) (b := 31) dX6_harms_22 fl_6_18 (by decide) (gT hG rfl (lt_of rfl)) (gR hG (b := 31) rfl) ?_
      refine w_aload_n dX6_harms_25 rfl (List.Mem.head _) ?_
      refine w_iload_n dX6_harms_26 rfl (List.Mem.tail _ (List.Mem.head _)) ?_
      refine w_iload_n dX6_harms_27 rfl (List.Mem.tail _ (List.Mem.tail _ (List.Mem.head _))) ?_
      obtain ⟨r6, σ2, hc4, hG3, rr5, h⟩ := h
      refine w_callV dX6_harms_28 ml_6_101 ⟨ok_X6_need, vi_X6_need⟩ hs_X6_need (As := [.int (nZ x1), .int (nZ x2)]) rfl rfl (gT hG rfl (lt_of rfl)) (Nat.le_of_ble_eq_true rfl) hc4 ?_
      show wp C 6 cX6_harms 3 (some .boolean) false [] sc P 31 [(0, .ref 27), (1, .int (nZ x1)), (2, .int (nZ x2))] [.int (nZ r6), .ref 31] σ2
      obtain ⟨r11, σ7, hc9, hG8, rr10, h⟩ := h
      refine w_callV dX6_harms_31 ml_6_120 ⟨ok_X8_at, vi_X8_at⟩ hs_X8_at (As := [.int (nZ r6)]) rfl rfl (gT hG3 rfl (lt_of rfl)) (Nat.le_of_ble_eq_true rfl) hc9 ?_
      show wp C 6 cX6_harms 3 (some .boolean) false [] sc P 34 [(0, .ref 27), (1, .int (nZ x1)), (2, .int (nZ x2))] [.int (nZ r11)] σ7
      refine i_if_le (tgt := 39) dX6_harms_34 rfl rr10 (fun c9 => ?_) (fun c9 => ?_)
      · replace h := h.1 c9
        obtain ⟨q12, h⟩ := h
        refine w_iinc (v := nZ (x2 + 1)) (l' := [(2, .int (nZ (x2 + 1))), (0, .ref 27), (1, .int (nZ x1))]) dX6_harms_39 (List.Mem.tail _ (List.Mem.tail _ (List.Mem.head _))) (nZ_add _ _) (by decide) rfl ?_
        refine w_goto (tgt := 2) dX6_harms_42 rfl ?_
        exact w_weak (l' := [(0, .ref 27), (1, .int (nZ x1)), (2, .int (nZ (x2 + 1)))]) (by intro q hq; simp only [List.mem_cons, List.not_mem_nil, or_false] at hq ⊢; rcases hq with rfl | rfl | rfl <;> simp) h
      · replace h := h.2 c9
        refine w_iconst (v := nZ 1) dX6_harms_37 (by decide) ?_
        exact i_zret dX6_harms_38 rfl (by decide) h
theorem dX6_firstShade_0 : decode cX6_firstShade 0 = .ok (.aload_n 0, 1) := by decide +kernel
theorem dX6_firstShade_1 : decode cX6_firstShade 1 = .ok (.getfield 34, 3) := by decide +kernel
theorem dX6_firstShade_4 : decode cX6_firstShade 4 = .ok (.getfield 130, 3) := by decide +kernel
theorem dX6_firstShade_7 : decode cX6_firstShade 7 = .ok (.astore_n 2, 1) := by decide +kernel
theorem dX6_firstShade_8 : decode cX6_firstShade 8 = .ok (.iconst 0, 1) := by decide +kernel
theorem dX6_firstShade_9 : decode cX6_firstShade 9 = .ok (.istore_n 3, 1) := by decide +kernel
theorem dX6_firstShade_10 : decode cX6_firstShade 10 = .ok (.iload_n 3, 1) := by decide +kernel
theorem dX6_firstShade_11 : decode cX6_firstShade 11 = .ok (.aload_n 2, 1) := by decide +kernel
theorem dX6_firstShade_12 : decode cX6_firstShade 12 = .ok (.getfield 134, 3) := by decide +kernel
theorem dX6_firstShade_15 : decode cX6_firstShade 15 = .ok (.if_icmp .ge 57, 3) := by decide +kernel
theorem dX6_firstShade_18 : decode cX6_firstShade 18 = .ok (.iload_n 1, 1) := by decide +kernel
theorem dX6_firstShade_19 : decode cX6_firstShade 19 = .ok (.aload_n 2, 1) := by decide +kernel
theorem dX6_firstShade_20 : decode cX6_firstShade 20 = .ok (.getfield 137, 3) := by decide +kernel
theorem dX6_firstShade_23 : decode cX6_firstShade 23 = .ok (.iload_n 3, 1) := by decide +kernel
theorem dX6_firstShade_24 : decode cX6_firstShade 24 = .ok (.iaload, 1) := by decide +kernel
theorem dX6_firstShade_25 : decode cX6_firstShade 25 = .ok (.invokestatic 82, 3) := by decide +kernel
theorem dX6_firstShade_28 : decode cX6_firstShade 28 = .ok (.istore 4, 2) := by decide +kernel
theorem dX6_firstShade_30 : decode cX6_firstShade 30 = .ok (.iload 4, 2) := by decide +kernel
theorem dX6_firstShade_32 : decode cX6_firstShade 32 = .ok (.aload_n 0, 1) := by decide +kernel
theorem dX6_firstShade_33 : decode cX6_firstShade 33 = .ok (.getfield 34, 3) := by decide +kernel
theorem dX6_firstShade_36 : decode cX6_firstShade 36 = .ok (.getfield 140, 3) := by decide +kernel
theorem dX6_firstShade_39 : decode cX6_firstShade 39 = .ok (.aload_n 2, 1) := by decide +kernel
theorem dX6_firstShade_40 : decode cX6_firstShade 40 = .ok (.iload_n 3, 1) := by decide +kernel
theorem dX6_firstShade_41 : decode cX6_firstShade 41 = .ok (.invokevirtual 143, 3) := by decide +kernel
theorem dX6_firstShade_44 : decode cX6_firstShade 44 = .ok (.invokestatic 117, 3) := by decide +kernel
theorem dX6_firstShade_47 : decode cX6_firstShade 47 = .ok (.if_icmp .ge 19, 3) := by decide +kernel
theorem dX6_firstShade_50 : decode cX6_firstShade 50 = .ok (.aload_n 0, 1) := by decide +kernel
theorem dX6_firstShade_51 : decode cX6_firstShade 51 = .ok (.aload_n 2, 1) := by decide +kernel
theorem dX6_firstShade_52 : decode cX6_firstShade 52 = .ok (.getfield 146, 3) := by decide +kernel
theorem dX6_firstShade_55 : decode cX6_firstShade 55 = .ok (.iload_n 3, 1) := by decide +kernel
theorem dX6_firstShade_56 : decode cX6_firstShade 56 = .ok (.iaload, 1) := by decide +kernel
theorem dX6_firstShade_57 : decode cX6_firstShade 57 = .ok (.invokevirtual 149, 3) := by decide +kernel
theorem dX6_firstShade_60 : decode cX6_firstShade 60 = .ok (.ifCond .eq 6, 3) := by decide +kernel
theorem dX6_firstShade_63 : decode cX6_firstShade 63 = .ok (.iload 4, 2) := by decide +kernel
theorem dX6_firstShade_65 : decode cX6_firstShade 65 = .ok (.ireturn, 1) := by decide +kernel
theorem dX6_firstShade_66 : decode cX6_firstShade 66 = .ok (.iinc 3 1, 3) := by decide +kernel
theorem dX6_firstShade_69 : decode cX6_firstShade 69 = .ok (.goto (-59), 3) := by decide +kernel
theorem dX6_firstShade_72 : decode cX6_firstShade 72 = .ok (.iconst (-1), 1) := by decide +kernel
theorem dX6_firstShade_73 : decode cX6_firstShade 73 = .ok (.ireturn, 1) := by decide +kernel
def L_X6_firstShade_10 (C : aM → List Value → aH → aO → aH → Prop) (sc : Nat × (Nat → Int32)) (P : aO → aH → Prop) (u : Nat) (x1 : Int) (x3 : Int) (σ : aH) : Prop :=
    wp C 6 cX6_firstShade 5 (some .int) false [] sc P 10 [(0, .ref 27), (1, .int (nZ x1)), (2, .ref (u + 10)), (3, .int (nZ x3))] [] σ
set_option maxRecDepth 10000 in
theorem t_X6_firstShade {sc : Nat × (Nat → Int32)} {d : Nat} {Q : aO → aH → Prop} {σ : aH} {u : Nat}  {x1 : Int} (hG : G σ u) (rx1 : inR x1)
    (h : L_X6_firstShade_10 (Ev sc d) sc Q u x1 0 σ) :
    T sc (d + 1) mX6_firstShade [.ref 27, .int (nZ x1)] σ Q := by
  refine T.of (c := 6) (code := cX6_firstShade) (mL := 5) (rt := (some .int)) (ini := false) (l := [(0, .ref 27), (1, .int (nZ x1))]) rfl rfl rfl rfl (by decide) hs_X6_firstShade rfl rfl ?_
  refine w_aload_n dX6_firstShade_0 rfl (List.Mem.head _) ?_
  refine w_getM (ci := 6) (k := 5) (b := u) dX6_firstShade_1 fl_6_34 (by decide) (gT hG rfl (lt_of rfl)) hG.2.2.2.1 ?_
  refine w_getR (ci := 2) (k := 1) (b := (u + 10)) dX6_firstShade_4 fl_6_130 (by decide) (gT hG (IsMk_t0 hG.2.2.2.2) (IsMk_lt hG.2.2.2.2 (k := 0) (by decide))) (gR hG (IsMk_r0_1 hG.2.2.2.2)) ?_
  refine w_astore_n (l' := [(2, .ref (u + 10)), (0, .ref 27), (1, .int (nZ x1))]) dX6_firstShade_7 rfl (by decide) rfl ?_
  refine w_iconst (v := nZ 0) dX6_firstShade_8 (by decide) ?_
  refine w_istore_n (l' := [(3, .int (nZ 0)), (2, .ref (u + 10)), (0, .ref 27), (1, .int (nZ x1))]) dX6_firstShade_9 rfl (by decide) rfl ?_
  exact w_weak (l' := [(0, .ref 27), (1, .int (nZ x1)), (2, .ref (u + 10)), (3, .int (nZ 0))]) (by intro q hq; simp only [List.mem_cons, List.not_mem_nil, or_false] at hq ⊢; rcases hq with rfl | rfl | rfl | rfl <;> simp) h
set_option maxRecDepth 10000 in
theorem v_X6_firstShade_10 {C : aM → List Value → aH → aO → aH → Prop} {sc : Nat × (Nat → Int32)} {P : aO → aH → Prop} {σ : aH} {u : Nat}  {x1 : Int} {x3 : Int} (hG : G σ u) (rx1 : inR x1) (rx3 : inR x3)
    (h : (((rI σ (u + 10) 2) ≤ x3 → P (.inl (some (.int (nZ (-1))))) σ) ∧ (¬ ((rI σ (u + 10) 2) ≤ x3) → ((0 ≤ x3 ∧ x3 < 20) ∧ (∀ z1 : Int, z1 = max x1 (rI σ (u + 11) x3) → (∃ (r8 : Int) (σ4 : aH), C mX0_endOf [.ref (u + 10), .int (nZ x3)] σ (.inl (some (.int (nZ r8)))) σ4 ∧ G σ4 u ∧ inR r8 ∧ (∀ z9 : Int, z9 = min (rI σ u 5) r8 → ((z9 ≤ z1 → (inR (x3 + 1) ∧ L_X6_firstShade_10 C sc P u x1 (x3 + 1) σ4)) ∧ (¬ (z9 ≤ z1) → ((0 ≤ x3 ∧ x3 < 20) ∧ (∃ (r17 : Int) (σ13 : aH), C mX6_isAnybodyUnder [.ref 27, .int (nZ (rI σ4 (u + 12) x3))] σ4 (.inl (some (.int (nZ r17)))) σ13 ∧ G σ13 u ∧ inR r17 ∧ ((r17 = 0 → (inR (x3 + 1) ∧ L_X6_firstShade_10 C sc P u x1 (x3 + 1) σ13)) ∧ (¬ (r17 = 0) → P (.inl (some (.int (nZ z1)))) σ13))))))))))))) :
    L_X6_firstShade_10 C sc P u x1 x3 σ := by
  unfold L_X6_firstShade_10
  refine w_iload_n dX6_firstShade_10 rfl (List.Mem.tail _ (List.Mem.tail _ (List.Mem.tail _ (List.Mem.head _)))) ?_
  refine w_aload_n dX6_firstShade_11 rfl (List.Mem.tail _ (List.Mem.tail _ (List.Mem.head _))) ?_
  refine i_getI (ci := 0) 2 rfl dX6_firstShade_12 fl_6_134 (by decide) (gT hG (IsMk_t10 hG.2.2.2.2) (IsMk_lt hG.2.2.2.2 (k := 10) (by decide))) ?_
  refine i_cmp_ge (tgt := 72) dX6_firstShade_15 rfl rx3 (rI_R _ _ _) (fun c9 => ?_) (fun c9 => ?_)
  · replace h := h.1 c9
    refine w_iconst (v := nZ (-1)) dX6_firstShade_72 (by decide) ?_
    exact w_iret dX6_firstShade_73 rfl h
  · replace h := h.2 c9
    refine w_iload_n dX6_firstShade_18 rfl (List.Mem.tail _ (List.Mem.head _)) ?_
    refine w_aload_n dX6_firstShade_19 rfl (List.Mem.tail _ (List.Mem.tail _ (List.Mem.head _))) ?_
    refine w_getR (ci := 0) (k := 0) (b := (u + 11)) dX6_firstShade_20 fl_6_137 (by decide) (gT hG (IsMk_t10 hG.2.2.2.2) (IsMk_lt hG.2.2.2.2 (k := 10) (by decide))) (gR hG (IsMk_r10_0 hG.2.2.2.2)) ?_
    refine w_iload_n dX6_firstShade_23 rfl (List.Mem.tail _ (List.Mem.tail _ (List.Mem.tail _ (List.Mem.head _)))) ?_
    obtain ⟨h9, h⟩ := h
    refine i_iald (n := 20) dX6_firstShade_24 (gT hG (IsMk_t11 hG.2.2.2.2) (IsMk_lt hG.2.2.2.2 (k := 11) (by decide))) (gL hG (IsMk_n11 hG.2.2.2.2)) rx3 h9 ?_
    refine i_mmax dX6_firstShade_25 lk_6_82 (Nat.le_of_ble_eq_true rfl) rx1 (rI_R _ _ _) (fun z1 ez2 rz3 => ?_)
    replace h := h z1 ez2
    refine w_istore (l' := [(4, .int (nZ z1)), (0, .ref 27), (1, .int (nZ x1)), (2, .ref (u + 10)), (3, .int (nZ x3))]) dX6_firstShade_28 (by decide) rfl ?_
    refine w_iload dX6_firstShade_30 (List.Mem.head _) ?_
    refine w_aload_n dX6_firstShade_32 rfl (List.Mem.tail _ (List.Mem.head _)) ?_
    refine w_getM (ci := 6) (k := 5) (b := u) dX6_firstShade_33 fl_6_34 (by decide) (gT hG rfl (lt_of rfl)) hG.2.2.2.1 ?_
    refine i_getI (ci := 2) 5 rfl dX6_firstShade_36 fl_6_140 (by decide) (gT hG (IsMk_t0 hG.2.2.2.2) (IsMk_lt hG.2.2.2.2 (k := 0) (by decide))) ?_
    refine w_aload_n dX6_firstShade_39 rfl (List.Mem.tail _ (List.Mem.tail _ (List.Mem.tail _ (List.Mem.head _)))) ?_
    refine w_iload_n dX6_firstShade_40 rfl (List.Mem.tail _ (List.Mem.tail _ (List.Mem.tail _ (List.Mem.tail _ (List.Mem.head _))))) ?_
    obtain ⟨r8, σ4, hc6, hG5, rr7, h⟩ := h
    refine w_callV dX6_firstShade_41 ml_6_143 ⟨ok_X0_endOf, vi_X0_endOf⟩ hs_X0_endOf (As := [.int (nZ x3)]) rfl rfl (gT hG (IsMk_t10 hG.2.2.2.2) (IsMk_lt hG.2.2.2.2 (k := 10) (by decide))) (Nat.le_of_ble_eq_true rfl) hc6 ?_
    show wp C 6 cX6_firstShade 5 (some .int) false [] sc P 44 [(4, .int (nZ z1)), (0, .ref 27), (1, .int (nZ x1)), (2, .ref (u + 10)), (3, .int (nZ x3))] [.int (nZ r8), .int (nZ (rI σ u 5)), .int (nZ z1)] σ4
    refine i_mmin dX6_firstShade_44 lk_6_117 (Nat.le_of_ble_eq_true rfl) (rI_R _ _ _) rr7 (fun z9 ez10 rz11 => ?_)
    replace h := h z9 ez10
    refine i_cmp_ge (tgt := 66) dX6_firstShade_47 rfl rz3 rz11 (fun c9 => ?_) (fun c9 => ?_)
    · replace h := h.1 c9
      obtain ⟨q12, h⟩ := h
      refine w_iinc (v := nZ (x3 + 1)) (l' := [(3, .int (nZ (x3 + 1))), (4, .int (nZ z1)), (0, .ref 27), (1, .int (nZ x1)), (2, .ref (u + 10))]) dX6_firstShade_66 (List.Mem.tail _ (List.Mem.tail _ (List.Mem.tail _ (List.Mem.tail _ (List.Mem.head _))))) (nZ_add _ _) (by decide) rfl ?_
      refine w_goto (tgt := 10) dX6_firstShade_69 rfl ?_
      exact w_weak (l' := [(0, .ref 27), (1, .int (nZ x1)), (2, .ref (u + 10)), (3, .int (nZ (x3 + 1)))]) (by intro q hq; simp only [List.mem_cons, List.not_mem_nil, or_false] at hq ⊢; rcases hq with rfl | rfl | rfl | rfl <;> simp) h
    · replace h := h.2 c9
      refine w_aload_n dX6_firstShade_50 rfl (List.Mem.tail _ (List.Mem.head _)) ?_
      refine w_aload_n dX6_firstShade_51 rfl (List.Mem.tail _ (List.Mem.tail _ (List.Mem.tail _ (List.Mem.head _)))) ?_
      refine w_getR (ci := 0) (k := 1) (b := (u + 12)) dX6_firstShade_52 fl_6_146 (by decide) (gT hG5 (IsMk_t10 hG.2.2.2.2) (IsMk_lt hG.2.2.2.2 (k := 10) (by decide))) (gR hG5 (IsMk_r10_1 hG.2.2.2.2)) ?_
      refine w_iload_n dX6_firstShade_55 rfl (List.Mem.tail _ (List.Mem.tail _ (List.Mem.tail _ (List.Mem.tail _ (List.Mem.head _))))) ?_
      obtain ⟨h9, h⟩ := h
      refine i_iald (n := 20) dX6_firstShade_56 (gT hG5 (IsMk_t12 hG.2.2.2.2) (IsMk_lt hG.2.2.2.2 (k := 12) (by decide))) (gL hG5 (IsMk_n12 hG.2.2.2.2)) rx3 h9 ?_
      obtain ⟨r17, σ13, hc15, hG14, rr16, h⟩ := h
      refine w_callV dX6_firstShade_57 ml_6_149 ⟨ok_X6_isAnybodyUnder, vi_X6_isAnybodyUnder⟩ hs_X6_isAnybodyUnder (As := [.int (nZ (rI σ4 (u + 12) x3))]) rfl rfl (gT hG5 rfl (lt_of rfl)) (Nat.le_of_ble_eq_true rfl) hc15 ?_
      show wp C 6 cX6_firstShade 5 (some .int) false [] sc P 60 [(4, .int (nZ z1)), (0, .ref 27), (1, .int (nZ x1)), (2, .ref (u + 10)), (3, .int (nZ x3))] [.int (nZ r17)] σ13
      refine i_if_eq (tgt := 66) dX6_firstShade_60 rfl rr16 (fun c9 => ?_) (fun c9 => ?_)
      · replace h := h.1 c9
        obtain ⟨q18, h⟩ := h
        refine w_iinc (v := nZ (x3 + 1)) (l' := [(3, .int (nZ (x3 + 1))), (4, .int (nZ z1)), (0, .ref 27), (1, .int (nZ x1)), (2, .ref (u + 10))]) dX6_firstShade_66 (List.Mem.tail _ (List.Mem.tail _ (List.Mem.tail _ (List.Mem.tail _ (List.Mem.head _))))) (nZ_add _ _) (by decide) rfl ?_
        refine w_goto (tgt := 10) dX6_firstShade_69 rfl ?_
        exact w_weak (l' := [(0, .ref 27), (1, .int (nZ x1)), (2, .ref (u + 10)), (3, .int (nZ (x3 + 1)))]) (by intro q hq; simp only [List.mem_cons, List.not_mem_nil, or_false] at hq ⊢; rcases hq with rfl | rfl | rfl | rfl <;> simp) h
      · replace h := h.2 c9
        refine w_iload dX6_firstShade_63 (List.Mem.head _) ?_
        exact w_iret dX6_firstShade_65 rfl h
theorem dX6_isAnybodyUnder_0 : decode cX6_isAnybodyUnder 0 = .ok (.iconst 0, 1) := by decide +kernel
theorem dX6_isAnybodyUnder_1 : decode cX6_isAnybodyUnder 1 = .ok (.istore_n 2, 1) := by decide +kernel
theorem dX6_isAnybodyUnder_2 : decode cX6_isAnybodyUnder 2 = .ok (.iload_n 2, 1) := by decide +kernel
theorem dX6_isAnybodyUnder_3 : decode cX6_isAnybodyUnder 3 = .ok (.aload_n 0, 1) := by decide +kernel
theorem dX6_isAnybodyUnder_4 : decode cX6_isAnybodyUnder 4 = .ok (.getfield 34, 3) := by decide +kernel
theorem dX6_isAnybodyUnder_7 : decode cX6_isAnybodyUnder 7 = .ok (.getfield 54, 3) := by decide +kernel
theorem dX6_isAnybodyUnder_10 : decode cX6_isAnybodyUnder 10 = .ok (.getfield 92, 3) := by decide +kernel
theorem dX6_isAnybodyUnder_13 : decode cX6_isAnybodyUnder 13 = .ok (.if_icmp .ge 20, 3) := by decide +kernel
theorem dX6_isAnybodyUnder_16 : decode cX6_isAnybodyUnder 16 = .ok (.aload_n 0, 1) := by decide +kernel
theorem dX6_isAnybodyUnder_17 : decode cX6_isAnybodyUnder 17 = .ok (.iload_n 2, 1) := by decide +kernel
theorem dX6_isAnybodyUnder_18 : decode cX6_isAnybodyUnder 18 = .ok (.iload_n 1, 1) := by decide +kernel
theorem dX6_isAnybodyUnder_19 : decode cX6_isAnybodyUnder 19 = .ok (.invokevirtual 153, 3) := by decide +kernel
theorem dX6_isAnybodyUnder_22 : decode cX6_isAnybodyUnder 22 = .ok (.ifCond .eq 5, 3) := by decide +kernel
theorem dX6_isAnybodyUnder_25 : decode cX6_isAnybodyUnder 25 = .ok (.iconst 1, 1) := by decide +kernel
theorem dX6_isAnybodyUnder_26 : decode cX6_isAnybodyUnder 26 = .ok (.ireturn, 1) := by decide +kernel
theorem dX6_isAnybodyUnder_27 : decode cX6_isAnybodyUnder 27 = .ok (.iinc 2 1, 3) := by decide +kernel
theorem dX6_isAnybodyUnder_30 : decode cX6_isAnybodyUnder 30 = .ok (.goto (-28), 3) := by decide +kernel
theorem dX6_isAnybodyUnder_33 : decode cX6_isAnybodyUnder 33 = .ok (.iconst 0, 1) := by decide +kernel
theorem dX6_isAnybodyUnder_34 : decode cX6_isAnybodyUnder 34 = .ok (.ireturn, 1) := by decide +kernel
def L_X6_isAnybodyUnder_2 (C : aM → List Value → aH → aO → aH → Prop) (sc : Nat × (Nat → Int32)) (P : aO → aH → Prop) (x1 : Int) (x2 : Int) (σ : aH) : Prop :=
    wp C 6 cX6_isAnybodyUnder 3 (some .boolean) false [] sc P 2 [(0, .ref 27), (1, .int (nZ x1)), (2, .int (nZ x2))] [] σ
set_option maxRecDepth 10000 in
theorem t_X6_isAnybodyUnder {sc : Nat × (Nat → Int32)} {d : Nat} {Q : aO → aH → Prop} {σ : aH} {u : Nat}  {x1 : Int} (hG : G σ u) (rx1 : inR x1)
    (h : L_X6_isAnybodyUnder_2 (Ev sc d) sc Q x1 0 σ) :
    T sc (d + 1) mX6_isAnybodyUnder [.ref 27, .int (nZ x1)] σ Q := by
  refine T.of (c := 6) (code := cX6_isAnybodyUnder) (mL := 3) (rt := (some .boolean)) (ini := false) (l := [(0, .ref 27), (1, .int (nZ x1))]) rfl rfl rfl rfl (by decide) hs_X6_isAnybodyUnder rfl rfl ?_
  refine w_iconst (v := nZ 0) dX6_isAnybodyUnder_0 (by decide) ?_
  refine w_istore_n (l' := [(2, .int (nZ 0)), (0, .ref 27), (1, .int (nZ x1))]) dX6_isAnybodyUnder_1 rfl (by decide) rfl ?_
  exact w_weak (l' := [(0, .ref 27), (1, .int (nZ x1)), (2, .int (nZ 0))]) (by intro q hq; simp only [List.mem_cons, List.not_mem_nil, or_false] at hq ⊢; rcases hq with rfl | rfl | rfl <;> simp) h
set_option maxRecDepth 10000 in
theorem v_X6_isAnybodyUnder_2 {C : aM → List Value → aH → aO → aH → Prop} {sc : Nat × (Nat → Int32)} {P : aO → aH → Prop} {σ : aH} {u : Nat}  {x1 : Int} {x2 : Int} (hG : G σ u) (rx1 : inR x1) (rx2 : inR x2)
    (h : (((rI σ (u + 1) 8) ≤ x2 → P (.inl (some (.int (nZ 0)))) σ) ∧ (¬ ((rI σ (u + 1) 8) ≤ x2) → (∃ (r5 : Int) (σ1 : aH), C mX6_throwers [.ref 27, .int (nZ x2), .int (nZ x1)] σ (.inl (some (.int (nZ r5)))) σ1 ∧ G σ1 u ∧ inR r5 ∧ ((r5 = 0 → (inR (x2 + 1) ∧ L_X6_isAnybodyUnder_2 C sc P x1 (x2 + 1) σ1)) ∧ (¬ (r5 = 0) → P (.inl (some (.int (nZ 1)))) σ1)))))) :
    L_X6_isAnybodyUnder_2 C sc P x1 x2 σ := by
  unfold L_X6_isAnybodyUnder_2
  refine w_iload_n dX6_isAnybodyUnder_2 rfl (List.Mem.tail _ (List.Mem.tail _ (List.Mem.head _))) ?_
  refine w_aload_n dX6_isAnybodyUnder_3 rfl (List.Mem.head _) ?_
  refine w_getM (ci := 6) (k := 5) (b := u) dX6_isAnybodyUnder_4 fl_6_34 (by decide) (gT hG rfl (lt_of rfl)) hG.2.2.2.1 ?_
  refine w_getR (ci := 2) (k := 0) (b := (u + 1)) dX6_isAnybodyUnder_7 fl_6_54 (by decide) (gT hG (IsMk_t0 hG.2.2.2.2) (IsMk_lt hG.2.2.2.2 (k := 0) (by decide))) (gR hG (IsMk_r0_0 hG.2.2.2.2)) ?_
  refine i_getI (ci := 7) 8 rfl dX6_isAnybodyUnder_10 fl_6_92 (by decide) (gT hG (IsMk_t1 hG.2.2.2.2) (IsMk_lt hG.2.2.2.2 (k := 1) (by decide))) ?_
  refine i_cmp_ge (tgt := 33) dX6_isAnybodyUnder_13 rfl rx2 (rI_R _ _ _) (fun c9 => ?_) (fun c9 => ?_)
  · replace h := h.1 c9
    refine w_iconst (v := nZ 0) dX6_isAnybodyUnder_33 (by decide) ?_
    exact i_zret dX6_isAnybodyUnder_34 rfl (by decide) h
  · replace h := h.2 c9
    refine w_aload_n dX6_isAnybodyUnder_16 rfl (List.Mem.head _) ?_
    refine w_iload_n dX6_isAnybodyUnder_17 rfl (List.Mem.tail _ (List.Mem.tail _ (List.Mem.head _))) ?_
    refine w_iload_n dX6_isAnybodyUnder_18 rfl (List.Mem.tail _ (List.Mem.head _)) ?_
    obtain ⟨r5, σ1, hc3, hG2, rr4, h⟩ := h
    refine w_callV dX6_isAnybodyUnder_19 ml_6_153 ⟨ok_X6_throwers, vi_X6_throwers⟩ hs_X6_throwers (As := [.int (nZ x2), .int (nZ x1)]) rfl rfl (gT hG rfl (lt_of rfl)) (Nat.le_of_ble_eq_true rfl) hc3 ?_
    show wp C 6 cX6_isAnybodyUnder 3 (some .boolean) false [] sc P 22 [(0, .ref 27), (1, .int (nZ x1)), (2, .int (nZ x2))] [.int (nZ r5)] σ1
    refine i_if_eq (tgt := 27) dX6_isAnybodyUnder_22 rfl rr4 (fun c9 => ?_) (fun c9 => ?_)
    · replace h := h.1 c9
      obtain ⟨q6, h⟩ := h
      refine w_iinc (v := nZ (x2 + 1)) (l' := [(2, .int (nZ (x2 + 1))), (0, .ref 27), (1, .int (nZ x1))]) dX6_isAnybodyUnder_27 (List.Mem.tail _ (List.Mem.tail _ (List.Mem.head _))) (nZ_add _ _) (by decide) rfl ?_
      refine w_goto (tgt := 2) dX6_isAnybodyUnder_30 rfl ?_
      exact w_weak (l' := [(0, .ref 27), (1, .int (nZ x1)), (2, .int (nZ (x2 + 1)))]) (by intro q hq; simp only [List.mem_cons, List.not_mem_nil, or_false] at hq ⊢; rcases hq with rfl | rfl | rfl <;> simp) h
    · replace h := h.2 c9
      refine w_iconst (v := nZ 1) dX6_isAnybodyUnder_25 (by decide) ?_
      exact i_zret dX6_isAnybodyUnder_26 rfl (by decide) h
theorem dX6_reckonHours_0 : decode cX6_reckonHours 0 = .ok (.iconst 0, 1) := by decide +kernel
theorem dX6_reckonHours_1 : decode cX6_reckonHours 1 = .ok (.istore_n 1, 1) := by decide +kernel
theorem dX6_reckonHours_2 : decode cX6_reckonHours 2 = .ok (.iload_n 1, 1) := by decide +kernel
theorem dX6_reckonHours_3 : decode cX6_reckonHours 3 = .ok (.bipush 24, 2) := by decide +kernel
theorem dX6_reckonHours_5 : decode cX6_reckonHours 5 = .ok (.if_icmp .ge 36, 3) := by decide +kernel
theorem dX6_reckonHours_8 : decode cX6_reckonHours 8 = .ok (.aload_n 0, 1) := by decide +kernel
theorem dX6_reckonHours_9 : decode cX6_reckonHours 9 = .ok (.getfield 28, 3) := by decide +kernel
theorem dX6_reckonHours_12 : decode cX6_reckonHours 12 = .ok (.iload_n 1, 1) := by decide +kernel
theorem dX6_reckonHours_13 : decode cX6_reckonHours 13 = .ok (.aload_n 0, 1) := by decide +kernel
theorem dX6_reckonHours_14 : decode cX6_reckonHours 14 = .ok (.aload_n 0, 1) := by decide +kernel
theorem dX6_reckonHours_15 : decode cX6_reckonHours 15 = .ok (.bipush 60, 2) := by decide +kernel
theorem dX6_reckonHours_17 : decode cX6_reckonHours 17 = .ok (.iload_n 1, 1) := by decide +kernel
theorem dX6_reckonHours_18 : decode cX6_reckonHours 18 = .ok (.imul, 1) := by decide +kernel
theorem dX6_reckonHours_19 : decode cX6_reckonHours 19 = .ok (.bipush 60, 2) := by decide +kernel
theorem dX6_reckonHours_21 : decode cX6_reckonHours 21 = .ok (.iload_n 1, 1) := by decide +kernel
theorem dX6_reckonHours_22 : decode cX6_reckonHours 22 = .ok (.imul, 1) := by decide +kernel
theorem dX6_reckonHours_23 : decode cX6_reckonHours 23 = .ok (.bipush 60, 2) := by decide +kernel
theorem dX6_reckonHours_25 : decode cX6_reckonHours 25 = .ok (.iadd, 1) := by decide +kernel
theorem dX6_reckonHours_26 : decode cX6_reckonHours 26 = .ok (.invokevirtual 156, 3) := by decide +kernel
theorem dX6_reckonHours_29 : decode cX6_reckonHours 29 = .ok (.ldc 160, 2) := by decide +kernel
theorem dX6_reckonHours_31 : decode cX6_reckonHours 31 = .ok (.invokevirtual 161, 3) := by decide +kernel
theorem dX6_reckonHours_34 : decode cX6_reckonHours 34 = .ok (.iastore, 1) := by decide +kernel
theorem dX6_reckonHours_35 : decode cX6_reckonHours 35 = .ok (.iinc 1 1, 3) := by decide +kernel
theorem dX6_reckonHours_38 : decode cX6_reckonHours 38 = .ok (.goto (-36), 3) := by decide +kernel
theorem dX6_reckonHours_41 : decode cX6_reckonHours 41 = .ok (.return_, 1) := by decide +kernel
def L_X6_reckonHours_2 (C : aM → List Value → aH → aO → aH → Prop) (sc : Nat × (Nat → Int32)) (P : aO → aH → Prop) (x1 : Int) (σ : aH) : Prop :=
    wp C 6 cX6_reckonHours 2 none false [] sc P 2 [(0, .ref 27), (1, .int (nZ x1))] [] σ
set_option maxRecDepth 10000 in
theorem t_X6_reckonHours {sc : Nat × (Nat → Int32)} {d : Nat} {Q : aO → aH → Prop} {σ : aH} {u : Nat}   (hG : G σ u) 
    (h : L_X6_reckonHours_2 (Ev sc d) sc Q 0 σ) :
    T sc (d + 1) mX6_reckonHours [.ref 27] σ Q := by
  refine T.of (c := 6) (code := cX6_reckonHours) (mL := 2) (rt := none) (ini := false) (l := [(0, .ref 27)]) rfl rfl rfl rfl (by decide) hs_X6_reckonHours rfl rfl ?_
  refine w_iconst (v := nZ 0) dX6_reckonHours_0 (by decide) ?_
  refine w_istore_n (l' := [(1, .int (nZ 0)), (0, .ref 27)]) dX6_reckonHours_1 rfl (by decide) rfl ?_
  exact w_weak (l' := [(0, .ref 27), (1, .int (nZ 0))]) (by intro q hq; simp only [List.mem_cons, List.not_mem_nil, or_false] at hq ⊢; rcases hq with rfl | rfl <;> simp) h
set_option maxRecDepth 10000 in
theorem v_X6_reckonHours_2 {C : aM → List Value → aH → aO → aH → Prop} {sc : Nat × (Nat → Int32)} {P : aO → aH → Prop} {σ : aH} {u : Nat}  {x1 : Int} (hG : G σ u) (rx1 : inR x1)
    (h : ((24 ≤ x1 → P (.inl none) σ) ∧ (¬ (24 ≤ x1) → (inR (60 * x1) ∧ (inR (60 * x1) ∧ (inR ((60 * x1) + 60) ∧ (∃ σ4 : aH, C mX6_costsOf [.ref 27, .int (nZ (60 * x1)), .int (nZ ((60 * x1) + 60))] σ (.inl (some (.ref 34))) σ4 ∧ G σ4 u ∧ (∃ (r12 : Int) (σ8 : aH), C mX6_total [.ref 27, .ref 34, .int (nZ 1000000000)] σ4 (.inl (some (.int (nZ r12)))) σ8 ∧ G σ8 u ∧ inR r12 ∧ ((0 ≤ x1 ∧ x1 < 24) ∧ (∀ σ13 : aH, wI σ8 38 x1 r12 = σ13 → (inR (x1 + 1) ∧ L_X6_reckonHours_2 C sc P (x1 + 1) σ13))))))))))) :
    L_X6_reckonHours_2 C sc P x1 σ := by
  unfold L_X6_reckonHours_2
  refine w_iload_n dX6_reckonHours_2 rfl (List.Mem.tail _ (List.Mem.head _)) ?_
  refine w_bipush (v := nZ 24) dX6_reckonHours_3 (by decide) ?_
  refine i_cmp_ge (tgt := 41) dX6_reckonHours_5 rfl rx1 (by decide) (fun c9 => ?_) (fun c9 => ?_)
  · replace h := h.1 c9
    exact w_vret dX6_reckonHours_41 rfl h
  · replace h := h.2 c9
    refine w_aload_n dX6_reckonHours_8 rfl (List.Mem.head _) ?_
    refine w_getR (ci := 6) (k := 4) (b := 38) dX6_reckonHours_9 fl_6_28 (by decide) (gT hG rfl (lt_of rfl)) (gR hG (b := 38) rfl) ?_
    refine w_iload_n dX6_reckonHours_12 rfl (List.Mem.tail _ (List.Mem.head _)) ?_
    refine w_aload_n dX6_reckonHours_13 rfl (List.Mem.head _) ?_
    refine w_aload_n dX6_reckonHours_14 rfl (List.Mem.head _) ?_
    refine w_bipush (v := nZ 60) dX6_reckonHours_15 (by decide) ?_
    refine w_iload_n dX6_reckonHours_17 rfl (List.Mem.tail _ (List.Mem.head _)) ?_
    obtain ⟨q1, h⟩ := h
    refine i_mul dX6_reckonHours_18 ?_
    refine w_bipush (v := nZ 60) dX6_reckonHours_19 (by decide) ?_
    refine w_iload_n dX6_reckonHours_21 rfl (List.Mem.tail _ (List.Mem.head _)) ?_
    obtain ⟨q2, h⟩ := h
    refine i_mul dX6_reckonHours_22 ?_
    refine w_bipush (v := nZ 60) dX6_reckonHours_23 (by decide) ?_
    obtain ⟨q3, h⟩ := h
    refine i_add dX6_reckonHours_25 ?_
    obtain ⟨σ4, hc6, hG5, h⟩ := h
    refine w_callV dX6_reckonHours_26 ml_6_156 ⟨ok_X6_costsOf, vi_X6_costsOf⟩ hs_X6_costsOf (As := [.int (nZ (60 * x1)), .int (nZ ((60 * x1) + 60))]) rfl rfl (gT hG rfl (lt_of rfl)) (Nat.le_of_ble_eq_true rfl) hc6 ?_
    show wp C 6 cX6_reckonHours 2 none false [] sc P 29 [(0, .ref 27), (1, .int (nZ x1))] [.ref 34, .ref 27, .int (nZ x1), .ref 38] σ4
    refine i_ldc (x := 1000000000) dX6_reckonHours_29 kc_6_160 (by decide) ?_
    obtain ⟨r12, σ8, hc10, hG9, rr11, h⟩ := h
    refine w_callV dX6_reckonHours_31 ml_6_161 ⟨ok_X6_total, vi_X6_total⟩ hs_X6_total (As := [.ref 34, .int (nZ 1000000000)]) rfl rfl (gT hG5 rfl (lt_of rfl)) (Nat.le_of_ble_eq_true rfl) hc10 ?_
    show wp C 6 cX6_reckonHours 2 none false [] sc P 34 [(0, .ref 27), (1, .int (nZ x1))] [.int (nZ r12), .int (nZ x1), .ref 38] σ8
    obtain ⟨h9, h⟩ := h
    refine i_iast (n := 24) dX6_reckonHours_34 (gT hG9 rfl (lt_of rfl)) (gL hG9 rfl) rx1 h9 (fun σ13 eσ14 => ?_)
    replace h := h σ13 eσ14
    have hG15 : G σ13 u := eσ14 ▸ G.wI hG9
    obtain ⟨q16, h⟩ := h
    refine w_iinc (v := nZ (x1 + 1)) (l' := [(1, .int (nZ (x1 + 1))), (0, .ref 27)]) dX6_reckonHours_35 (List.Mem.tail _ (List.Mem.head _)) (nZ_add _ _) (by decide) rfl ?_
    refine w_goto (tgt := 2) dX6_reckonHours_38 rfl ?_
    exact w_weak (l' := [(0, .ref 27), (1, .int (nZ (x1 + 1)))]) (by intro q hq; simp only [List.mem_cons, List.not_mem_nil, or_false] at hq ⊢; rcases hq with rfl | rfl <;> simp) h
theorem dX6_dueWithout_0 : decode cX6_dueWithout 0 = .ok (.iconst 0, 1) := by decide +kernel
theorem dX6_dueWithout_1 : decode cX6_dueWithout 1 = .ok (.istore_n 2, 1) := by decide +kernel
theorem dX6_dueWithout_2 : decode cX6_dueWithout 2 = .ok (.iconst 0, 1) := by decide +kernel
theorem dX6_dueWithout_3 : decode cX6_dueWithout 3 = .ok (.istore_n 3, 1) := by decide +kernel
theorem dX6_dueWithout_4 : decode cX6_dueWithout 4 = .ok (.iload_n 3, 1) := by decide +kernel
theorem dX6_dueWithout_5 : decode cX6_dueWithout 5 = .ok (.bipush 24, 2) := by decide +kernel
theorem dX6_dueWithout_7 : decode cX6_dueWithout 7 = .ok (.if_icmp .ge 26, 3) := by decide +kernel
theorem dX6_dueWithout_10 : decode cX6_dueWithout 10 = .ok (.iload_n 1, 1) := by decide +kernel
theorem dX6_dueWithout_11 : decode cX6_dueWithout 11 = .ok (.iload_n 3, 1) := by decide +kernel
theorem dX6_dueWithout_12 : decode cX6_dueWithout 12 = .ok (.iushr, 1) := by decide +kernel
theorem dX6_dueWithout_13 : decode cX6_dueWithout 13 = .ok (.iconst 1, 1) := by decide +kernel
theorem dX6_dueWithout_14 : decode cX6_dueWithout 14 = .ok (.iand, 1) := by decide +kernel
theorem dX6_dueWithout_15 : decode cX6_dueWithout 15 = .ok (.ifCond .ne 12, 3) := by decide +kernel
theorem dX6_dueWithout_18 : decode cX6_dueWithout 18 = .ok (.iload_n 2, 1) := by decide +kernel
theorem dX6_dueWithout_19 : decode cX6_dueWithout 19 = .ok (.aload_n 0, 1) := by decide +kernel
theorem dX6_dueWithout_20 : decode cX6_dueWithout 20 = .ok (.getfield 28, 3) := by decide +kernel
theorem dX6_dueWithout_23 : decode cX6_dueWithout 23 = .ok (.iload_n 3, 1) := by decide +kernel
theorem dX6_dueWithout_24 : decode cX6_dueWithout 24 = .ok (.iaload, 1) := by decide +kernel
theorem dX6_dueWithout_25 : decode cX6_dueWithout 25 = .ok (.iadd, 1) := by decide +kernel
theorem dX6_dueWithout_26 : decode cX6_dueWithout 26 = .ok (.istore_n 2, 1) := by decide +kernel
theorem dX6_dueWithout_27 : decode cX6_dueWithout 27 = .ok (.iinc 3 1, 3) := by decide +kernel
theorem dX6_dueWithout_30 : decode cX6_dueWithout 30 = .ok (.goto (-26), 3) := by decide +kernel
theorem dX6_dueWithout_33 : decode cX6_dueWithout 33 = .ok (.iload_n 2, 1) := by decide +kernel
theorem dX6_dueWithout_34 : decode cX6_dueWithout 34 = .ok (.ireturn, 1) := by decide +kernel
def L_X6_dueWithout_4 (C : aM → List Value → aH → aO → aH → Prop) (sc : Nat × (Nat → Int32)) (P : aO → aH → Prop) (x1 : Int) (x2 : Int) (x3 : Int) (σ : aH) : Prop :=
    wp C 6 cX6_dueWithout 4 (some .int) false [] sc P 4 [(0, .ref 27), (1, .int (nZ x1)), (2, .int (nZ x2)), (3, .int (nZ x3))] [] σ
set_option maxRecDepth 10000 in
theorem t_X6_dueWithout {sc : Nat × (Nat → Int32)} {d : Nat} {Q : aO → aH → Prop} {σ : aH} {u : Nat}  {x1 : Int} (hG : G σ u) (rx1 : inR x1)
    (h : L_X6_dueWithout_4 (Ev sc d) sc Q x1 0 0 σ) :
    T sc (d + 1) mX6_dueWithout [.ref 27, .int (nZ x1)] σ Q := by
  refine T.of (c := 6) (code := cX6_dueWithout) (mL := 4) (rt := (some .int)) (ini := false) (l := [(0, .ref 27), (1, .int (nZ x1))]) rfl rfl rfl rfl (by decide) hs_X6_dueWithout rfl rfl ?_
  refine w_iconst (v := nZ 0) dX6_dueWithout_0 (by decide) ?_
  refine w_istore_n (l' := [(2, .int (nZ 0)), (0, .ref 27), (1, .int (nZ x1))]) dX6_dueWithout_1 rfl (by decide) rfl ?_
  refine w_iconst (v := nZ 0) dX6_dueWithout_2 (by decide) ?_
  refine w_istore_n (l' := [(3, .int (nZ 0)), (2, .int (nZ 0)), (0, .ref 27), (1, .int (nZ x1))]) dX6_dueWithout_3 rfl (by decide) rfl ?_
  exact w_weak (l' := [(0, .ref 27), (1, .int (nZ x1)), (2, .int (nZ 0)), (3, .int (nZ 0))]) (by intro q hq; simp only [List.mem_cons, List.not_mem_nil, or_false] at hq ⊢; rcases hq with rfl | rfl | rfl | rfl <;> simp) h
set_option maxRecDepth 10000 in
theorem v_X6_dueWithout_4 {C : aM → List Value → aH → aO → aH → Prop} {sc : Nat × (Nat → Int32)} {P : aO → aH → Prop} {σ : aH} {u : Nat}  {x1 : Int} {x2 : Int} {x3 : Int} (hG : G σ u) (rx1 : inR x1) (rx2 : inR x2) (rx3 : inR x3)
    (h : ((24 ≤ x3 → P (.inl (some (.int (nZ x2)))) σ) ∧ (¬ (24 ≤ x3) → ((¬ (zAnd (zUsr x1 x3) 1) = 0 → (inR (x3 + 1) ∧ L_X6_dueWithout_4 C sc P x1 x2 (x3 + 1) σ)) ∧ ((zAnd (zUsr x1 x3) 1) = 0 → ((0 ≤ x3 ∧ x3 < 24) ∧ (inR (x2 + (rI σ 38 x3)) ∧ (∀ z3 : Int, z3 = (x2 + (rI σ 38 x3)) → (inR (x3 + 1) ∧ L_X6_dueWithout_4 C sc P x1 z3 (x3 + 1) σ))))))))) :
    L_X6_dueWithout_4 C sc P x1 x2 x3 σ := by
  unfold L_X6_dueWithout_4
  refine w_iload_n dX6_dueWithout_4 rfl (List.Mem.tail _ (List.Mem.tail _ (List.Mem.tail _ (List.Mem.head _)))) ?_
  refine w_bipush (v := nZ 24) dX6_dueWithout_5 (by decide) ?_
  refine i_cmp_ge (tgt := 33) dX6_dueWithout_7 rfl rx3 (by decide) (fun c9 => ?_) (fun c9 => ?_)
  · replace h := h.1 c9
    refine w_iload_n dX6_dueWithout_33 rfl (List.Mem.tail _ (List.Mem.tail _ (List.Mem.head _))) ?_
    exact w_iret dX6_dueWithout_34 rfl h
  · replace h := h.2 c9
    refine w_iload_n dX6_dueWithout_10 rfl (List.Mem.tail _ (List.Mem.head _)) ?_
    refine w_iload_n dX6_dueWithout_11 rfl (List.Mem.tail _ (List.Mem.tail _ (List.Mem.tail _ (List.Mem.head _)))) ?_
    refine i_ushr dX6_dueWithout_12 ?_
    refine w_iconst (v := nZ 1) dX6_dueWithout_13 (by decide) ?_
    refine i_and dX6_dueWithout_14 ?_
    refine i_if_ne (tgt := 27) dX6_dueWithout_15 rfl (zAnd_R _ _) (fun c9 => ?_) (fun c9 => ?_)
    · replace h := h.1 c9
      obtain ⟨q1, h⟩ := h
      refine w_iinc (v := nZ (x3 + 1)) (l' := [(3, .int (nZ (x3 + 1))), (0, .ref 27), (1, .int (nZ x1)), (2, .int (nZ x2))]) dX6_dueWithout_27 (List.Mem.tail _ (List.Mem.tail _ (List.Mem.tail _ (List.Mem.head _)))) (nZ_add _ _) (by decide) rfl ?_
      refine w_goto (tgt := 4) dX6_dueWithout_30 rfl ?_
      exact w_weak (l' := [(0, .ref 27), (1, .int (nZ x1)), (2, .int (nZ x2)), (3, .int (nZ (x3 + 1)))]) (by intro q hq; simp only [List.mem_cons, List.not_mem_nil, or_false] at hq ⊢; rcases hq with rfl | rfl | rfl | rfl <;> simp) h
    · replace h := h.2 c9
      refine w_iload_n dX6_dueWithout_18 rfl (List.Mem.tail _ (List.Mem.tail _ (List.Mem.head _))) ?_
      refine w_aload_n dX6_dueWithout_19 rfl (List.Mem.head _) ?_
      refine w_getR (ci := 6) (k := 4) (b := 38) dX6_dueWithout_20 fl_6_28 (by decide) (gT hG rfl (lt_of rfl)) (gR hG (b := 38) rfl) ?_
      refine w_iload_n dX6_dueWithout_23 rfl (List.Mem.tail _ (List.Mem.tail _ (List.Mem.tail _ (List.Mem.head _)))) ?_
      obtain ⟨h9, h⟩ := h
      refine i_iald (n := 24) dX6_dueWithout_24 (gT hG rfl (lt_of rfl)) (gL hG rfl) rx3 h9 ?_
      obtain ⟨q2, h⟩ := h
      refine i_add dX6_dueWithout_25 ?_
      refine top_i (fun z3 ez4 => ?_)
      have rz5 : inR z3 := ez4 ▸ q2
      replace h := h z3 ez4
      refine w_istore_n (l' := [(2, .int (nZ z3)), (0, .ref 27), (1, .int (nZ x1)), (3, .int (nZ x3))]) dX6_dueWithout_26 rfl (by decide) rfl ?_
      obtain ⟨q6, h⟩ := h
      refine w_iinc (v := nZ (x3 + 1)) (l' := [(3, .int (nZ (x3 + 1))), (2, .int (nZ z3)), (0, .ref 27), (1, .int (nZ x1))]) dX6_dueWithout_27 (List.Mem.tail _ (List.Mem.tail _ (List.Mem.tail _ (List.Mem.head _)))) (nZ_add _ _) (by decide) rfl ?_
      refine w_goto (tgt := 4) dX6_dueWithout_30 rfl ?_
      exact w_weak (l' := [(0, .ref 27), (1, .int (nZ x1)), (2, .int (nZ z3)), (3, .int (nZ (x3 + 1)))]) (by intro q hq; simp only [List.mem_cons, List.not_mem_nil, or_false] at hq ⊢; rcases hq with rfl | rfl | rfl | rfl <;> simp) h
theorem dX6_latestFold_0 : decode cX6_latestFold 0 = .ok (.iconst 0, 1) := by decide +kernel
theorem dX6_latestFold_1 : decode cX6_latestFold 1 = .ok (.istore_n 2, 1) := by decide +kernel
theorem dX6_latestFold_2 : decode cX6_latestFold 2 = .ok (.aload_n 0, 1) := by decide +kernel
theorem dX6_latestFold_3 : decode cX6_latestFold 3 = .ok (.getfield 34, 3) := by decide +kernel
theorem dX6_latestFold_6 : decode cX6_latestFold 6 = .ok (.getfield 140, 3) := by decide +kernel
theorem dX6_latestFold_9 : decode cX6_latestFold 9 = .ok (.iconst 1, 1) := by decide +kernel
theorem dX6_latestFold_10 : decode cX6_latestFold 10 = .ok (.iadd, 1) := by decide +kernel
theorem dX6_latestFold_11 : decode cX6_latestFold 11 = .ok (.istore_n 3, 1) := by decide +kernel
theorem dX6_latestFold_12 : decode cX6_latestFold 12 = .ok (.iconst 0, 1) := by decide +kernel
theorem dX6_latestFold_13 : decode cX6_latestFold 13 = .ok (.istore 4, 2) := by decide +kernel
theorem dX6_latestFold_15 : decode cX6_latestFold 15 = .ok (.iload 4, 2) := by decide +kernel
theorem dX6_latestFold_17 : decode cX6_latestFold 17 = .ok (.sipush 1440, 3) := by decide +kernel
theorem dX6_latestFold_20 : decode cX6_latestFold 20 = .ok (.if_icmp .ge 49, 3) := by decide +kernel
theorem dX6_latestFold_23 : decode cX6_latestFold 23 = .ok (.iload_n 2, 1) := by decide +kernel
theorem dX6_latestFold_24 : decode cX6_latestFold 24 = .ok (.iconst 1, 1) := by decide +kernel
theorem dX6_latestFold_25 : decode cX6_latestFold 25 = .ok (.iadd, 1) := by decide +kernel
theorem dX6_latestFold_26 : decode cX6_latestFold 26 = .ok (.iload_n 3, 1) := by decide +kernel
theorem dX6_latestFold_27 : decode cX6_latestFold 27 = .ok (.if_icmp .ge 42, 3) := by decide +kernel
theorem dX6_latestFold_30 : decode cX6_latestFold 30 = .ok (.iload_n 2, 1) := by decide +kernel
theorem dX6_latestFold_31 : decode cX6_latestFold 31 = .ok (.iload_n 3, 1) := by decide +kernel
theorem dX6_latestFold_32 : decode cX6_latestFold 32 = .ok (.iadd, 1) := by decide +kernel
theorem dX6_latestFold_33 : decode cX6_latestFold 33 = .ok (.iconst 2, 1) := by decide +kernel
theorem dX6_latestFold_34 : decode cX6_latestFold 34 = .ok (.idiv, 1) := by decide +kernel
theorem dX6_latestFold_35 : decode cX6_latestFold 35 = .ok (.istore 5, 2) := by decide +kernel
theorem dX6_latestFold_37 : decode cX6_latestFold 37 = .ok (.aload_n 0, 1) := by decide +kernel
theorem dX6_latestFold_38 : decode cX6_latestFold 38 = .ok (.aload_n 0, 1) := by decide +kernel
theorem dX6_latestFold_39 : decode cX6_latestFold 39 = .ok (.iconst 0, 1) := by decide +kernel
theorem dX6_latestFold_40 : decode cX6_latestFold 40 = .ok (.iload 5, 2) := by decide +kernel
theorem dX6_latestFold_42 : decode cX6_latestFold 42 = .ok (.invokevirtual 156, 3) := by decide +kernel
theorem dX6_latestFold_45 : decode cX6_latestFold 45 = .ok (.ldc 160, 2) := by decide +kernel
theorem dX6_latestFold_47 : decode cX6_latestFold 47 = .ok (.invokevirtual 161, 3) := by decide +kernel
theorem dX6_latestFold_50 : decode cX6_latestFold 50 = .ok (.iload_n 1, 1) := by decide +kernel
theorem dX6_latestFold_51 : decode cX6_latestFold 51 = .ok (.if_icmp .gt 9, 3) := by decide +kernel
theorem dX6_latestFold_54 : decode cX6_latestFold 54 = .ok (.iload 5, 2) := by decide +kernel
theorem dX6_latestFold_56 : decode cX6_latestFold 56 = .ok (.istore_n 2, 1) := by decide +kernel
theorem dX6_latestFold_57 : decode cX6_latestFold 57 = .ok (.goto 6, 3) := by decide +kernel
theorem dX6_latestFold_60 : decode cX6_latestFold 60 = .ok (.iload 5, 2) := by decide +kernel
theorem dX6_latestFold_62 : decode cX6_latestFold 62 = .ok (.istore_n 3, 1) := by decide +kernel
theorem dX6_latestFold_63 : decode cX6_latestFold 63 = .ok (.iinc 4 1, 3) := by decide +kernel
theorem dX6_latestFold_66 : decode cX6_latestFold 66 = .ok (.goto (-51), 3) := by decide +kernel
theorem dX6_latestFold_69 : decode cX6_latestFold 69 = .ok (.iload_n 2, 1) := by decide +kernel
theorem dX6_latestFold_70 : decode cX6_latestFold 70 = .ok (.ireturn, 1) := by decide +kernel
def L_X6_latestFold_15 (C : aM → List Value → aH → aO → aH → Prop) (sc : Nat × (Nat → Int32)) (P : aO → aH → Prop) (x1 : Int) (x2 : Int) (x3 : Int) (x4 : Int) (σ : aH) : Prop :=
    wp C 6 cX6_latestFold 6 (some .int) false [] sc P 15 [(0, .ref 27), (1, .int (nZ x1)), (2, .int (nZ x2)), (3, .int (nZ x3)), (4, .int (nZ x4))] [] σ
set_option maxRecDepth 10000 in
theorem t_X6_latestFold {sc : Nat × (Nat → Int32)} {d : Nat} {Q : aO → aH → Prop} {σ : aH} {u : Nat}  {x1 : Int} (hG : G σ u) (rx1 : inR x1)
    (h : (inR ((rI σ u 5) + 1) ∧ (∀ z2 : Int, z2 = ((rI σ u 5) + 1) → L_X6_latestFold_15 (Ev sc d) sc Q x1 0 z2 0 σ))) :
    T sc (d + 1) mX6_latestFold [.ref 27, .int (nZ x1)] σ Q := by
  refine T.of (c := 6) (code := cX6_latestFold) (mL := 6) (rt := (some .int)) (ini := false) (l := [(0, .ref 27), (1, .int (nZ x1))]) rfl rfl rfl rfl (by decide) hs_X6_latestFold rfl rfl ?_
  refine w_iconst (v := nZ 0) dX6_latestFold_0 (by decide) ?_
  refine w_istore_n (l' := [(2, .int (nZ 0)), (0, .ref 27), (1, .int (nZ x1))]) dX6_latestFold_1 rfl (by decide) rfl ?_
  refine w_aload_n dX6_latestFold_2 rfl (List.Mem.tail _ (List.Mem.head _)) ?_
  refine w_getM (ci := 6) (k := 5) (b := u) dX6_latestFold_3 fl_6_34 (by decide) (gT hG rfl (lt_of rfl)) hG.2.2.2.1 ?_
  refine i_getI (ci := 2) 5 rfl dX6_latestFold_6 fl_6_140 (by decide) (gT hG (IsMk_t0 hG.2.2.2.2) (IsMk_lt hG.2.2.2.2 (k := 0) (by decide))) ?_
  refine w_iconst (v := nZ 1) dX6_latestFold_9 (by decide) ?_
  obtain ⟨q1, h⟩ := h
  refine i_add dX6_latestFold_10 ?_
  refine top_i (fun z2 ez3 => ?_)
  have rz4 : inR z2 := ez3 ▸ q1
  replace h := h z2 ez3
  refine w_istore_n (l' := [(3, .int (nZ z2)), (2, .int (nZ 0)), (0, .ref 27), (1, .int (nZ x1))]) dX6_latestFold_11 rfl (by decide) rfl ?_
  refine w_iconst (v := nZ 0) dX6_latestFold_12 (by decide) ?_
  refine w_istore (l' := [(4, .int (nZ 0)), (3, .int (nZ z2)), (2, .int (nZ 0)), (0, .ref 27), (1, .int (nZ x1))]) dX6_latestFold_13 (by decide) rfl ?_
  exact w_weak (l' := [(0, .ref 27), (1, .int (nZ x1)), (2, .int (nZ 0)), (3, .int (nZ z2)), (4, .int (nZ 0))]) (by intro q hq; simp only [List.mem_cons, List.not_mem_nil, or_false] at hq ⊢; rcases hq with rfl | rfl | rfl | rfl | rfl <;> simp) h
set_option maxRecDepth 10000 in
theorem v_X6_latestFold_15 {C : aM → List Value → aH → aO → aH → Prop} {sc : Nat × (Nat → Int32)} {P : aO → aH → Prop} {σ : aH} {u : Nat}  {x1 : Int} {x2 : Int} {x3 : Int} {x4 : Int} (hG : G σ u) (rx1 : inR x1) (rx2 : inR x2) (rx3 : inR x3) (rx4 : inR x4)
    (h : ((1440 ≤ x4 → P (.inl (some (.int (nZ x2)))) σ) ∧ (¬ (1440 ≤ x4) → (inR (x2 + 1) ∧ ((x3 ≤ (x2 + 1) → P (.inl (some (.int (nZ x2)))) σ) ∧ (¬ (x3 ≤ (x2 + 1)) → (inR (x2 + x3) ∧ ((0 ≤ (x2 + x3) ∧ (0 : Int) < 2) ∧ inR ((x2 + x3) / 2) ∧ (∀ z4 : Int, z4 = ((x2 + x3) / 2) → (∃ σ7 : aH, C mX6_costsOf [.ref 27, .int (nZ 0), .int (nZ z4)] σ (.inl (some (.ref 34))) σ7 ∧ G σ7 u ∧ (∃ (r15 : Int) (σ11 : aH), C mX6_total [.ref 27, .ref 34, .int (nZ 1000000000)] σ7 (.inl (some (.int (nZ r15)))) σ11 ∧ G σ11 u ∧ inR r15 ∧ ((x1 < r15 → (inR (x4 + 1) ∧ L_X6_latestFold_15 C sc P x1 x2 z4 (x4 + 1) σ11)) ∧ (¬ (x1 < r15) → (inR (x4 + 1) ∧ L_X6_latestFold_15 C sc P x1 z4 x3 (x4 + 1) σ11)))))))))))))) :
    L_X6_latestFold_15 C sc P x1 x2 x3 x4 σ := by
  unfold L_X6_latestFold_15
  refine w_iload dX6_latestFold_15 (List.Mem.tail _ (List.Mem.tail _ (List.Mem.tail _ (List.Mem.tail _ (List.Mem.head _))))) ?_
  refine w_sipush (v := nZ 1440) dX6_latestFold_17 (by decide) ?_
  refine i_cmp_ge (tgt := 69) dX6_latestFold_20 rfl rx4 (by decide) (fun c9 => ?_) (fun c9 => ?_)
  · replace h := h.1 c9
    refine w_iload_n dX6_latestFold_69 rfl (List.Mem.tail _ (List.Mem.tail _ (List.Mem.head _))) ?_
    exact w_iret dX6_latestFold_70 rfl h
  · replace h := h.2 c9
    refine w_iload_n dX6_latestFold_23 rfl (List.Mem.tail _ (List.Mem.tail _ (List.Mem.head _))) ?_
    refine w_iconst (v := nZ 1) dX6_latestFold_24 (by decide) ?_
    obtain ⟨q1, h⟩ := h
    refine i_add dX6_latestFold_25 ?_
    refine w_iload_n dX6_latestFold_26 rfl (List.Mem.tail _ (List.Mem.tail _ (List.Mem.tail _ (List.Mem.head _)))) ?_
    refine i_cmp_ge (tgt := 69) dX6_latestFold_27 rfl q1 rx3 (fun c9 => ?_) (fun c9 => ?_)
    · replace h := h.1 c9
      refine w_iload_n dX6_latestFold_69 rfl (List.Mem.tail _ (List.Mem.tail _ (List.Mem.head _))) ?_
      exact w_iret dX6_latestFold_70 rfl h
    · replace h := h.2 c9
      refine w_iload_n dX6_latestFold_30 rfl (List.Mem.tail _ (List.Mem.tail _ (List.Mem.head _))) ?_
      refine w_iload_n dX6_latestFold_31 rfl (List.Mem.tail _ (List.Mem.tail _ (List.Mem.tail _ (List.Mem.head _)))) ?_
      obtain ⟨q2, h⟩ := h
      refine i_add dX6_latestFold_32 ?_
      refine w_iconst (v := nZ 2) dX6_latestFold_33 (by decide) ?_
      obtain ⟨h9, q3, h⟩ := h
      refine i_div dX6_latestFold_34 q2 (by decide) h9 ?_
      refine top_i (fun z4 ez5 => ?_)
      have rz6 : inR z4 := ez5 ▸ q3
      replace h := h z4 ez5
      refine w_istore (l' := [(5, .int (nZ z4)), (0, .ref 27), (1, .int (nZ x1)), (2, .int (nZ x2)), (3, .int (nZ x3)), (4, .int (nZ x4))]) dX6_latestFold_35 (by decide) rfl ?_
      refine w_aload_n dX6_latestFold_37 rfl (List.Mem.tail _ (List.Mem.head _)) ?_
      refine w_aload_n dX6_latestFold_38 rfl (List.Mem.tail _ (List.Mem.head _)) ?_
      refine w_iconst (v := nZ 0) dX6_latestFold_39 (by decide) ?_
      refine w_iload dX6_latestFold_40 (List.Mem.head _) ?_
      obtain ⟨σ7, hc9, hG8, h⟩ := h
      refine w_callV dX6_latestFold_42 ml_6_156 ⟨ok_X6_costsOf, vi_X6_costsOf⟩ hs_X6_costsOf (As := [.int (nZ 0), .int (nZ z4)]) rfl rfl (gT hG rfl (lt_of rfl)) (Nat.le_of_ble_eq_true rfl) hc9 ?_
      show wp C 6 cX6_latestFold 6 (some .int) false [] sc P 45 [(5, .int (nZ z4)), (0, .ref 27), (1, .int (nZ x1)), (2, .int (nZ x2)), (3, .int (nZ x3)), (4, .int (nZ x4))] [.ref 34, .ref 27] σ7
      refine i_ldc (x := 1000000000) dX6_latestFold_45 kc_6_160 (by decide) ?_
      obtain ⟨r15, σ11, hc13, hG12, rr14, h⟩ := h
      refine w_callV dX6_latestFold_47 ml_6_161 ⟨ok_X6_total, vi_X6_total⟩ hs_X6_total (As := [.ref 34, .int (nZ 1000000000)]) rfl rfl (gT hG8 rfl (lt_of rfl)) (Nat.le_of_ble_eq_true rfl) hc13 ?_
      show wp C 6 cX6_latestFold 6 (some .int) false [] sc P 50 [(5, .int (nZ z4)), (0, .ref 27), (1, .int (nZ x1)), (2, .int (nZ x2)), (3, .int (nZ x3)), (4, .int (nZ x4))] [.int (nZ r15)] σ11
      refine w_iload_n dX6_latestFold_50 rfl (List.Mem.tail _ (List.Mem.tail _ (List.Mem.head _))) ?_
      refine i_cmp_gt (tgt := 60) dX6_latestFold_51 rfl rr14 rx1 (fun c9 => ?_) (fun c9 => ?_)
      · replace h := h.1 c9
        refine w_iload dX6_latestFold_60 (List.Mem.head _) ?_
        refine w_istore_n (l' := [(3, .int (nZ z4)), (5, .int (nZ z4)), (0, .ref 27), (1, .int (nZ x1)), (2, .int (nZ x2)), (4, .int (nZ x4))]) dX6_latestFold_62 rfl (by decide) rfl ?_
        obtain ⟨q16, h⟩ := h
        refine w_iinc (v := nZ (x4 + 1)) (l' := [(4, .int (nZ (x4 + 1))), (3, .int (nZ z4)), (5, .int (nZ z4)), (0, .ref 27), (1, .int (nZ x1)), (2, .int (nZ x2))]) dX6_latestFold_63 (List.Mem.tail _ (List.Mem.tail _ (List.Mem.tail _ (List.Mem.tail _ (List.Mem.tail _ (List.Mem.head _)))))) (nZ_add _ _) (by decide) rfl ?_
        refine w_goto (tgt := 15) dX6_latestFold_66 rfl ?_
        exact w_weak (l' := [(0, .ref 27), (1, .int (nZ x1)), (2, .int (nZ x2)), (3, .int (nZ z4)), (4, .int (nZ (x4 + 1)))]) (by intro q hq; simp only [List.mem_cons, List.not_mem_nil, or_false] at hq ⊢; rcases hq with rfl | rfl | rfl | rfl | rfl <;> simp) h
      · replace h := h.2 c9
        refine w_iload dX6_latestFold_54 (List.Mem.head _) ?_
        refine w_istore_n (l' := [(2, .int (nZ z4)), (5, .int (nZ z4)), (0, .ref 27), (1, .int (nZ x1)), (3, .int (nZ x3)), (4, .int (nZ x4))]) dX6_latestFold_56 rfl (by decide) rfl ?_
        refine w_goto (tgt := 63) dX6_latestFold_57 rfl ?_
        obtain ⟨q17, h⟩ := h
        refine w_iinc (v := nZ (x4 + 1)) (l' := [(4, .int (nZ (x4 + 1))), (2, .int (nZ z4)), (5, .int (nZ z4)), (0, .ref 27), (1, .int (nZ x1)), (3, .int (nZ x3))]) dX6_latestFold_63 (List.Mem.tail _ (List.Mem.tail _ (List.Mem.tail _ (List.Mem.tail _ (List.Mem.tail _ (List.Mem.head _)))))) (nZ_add _ _) (by decide) rfl ?_
        refine w_goto (tgt := 15) dX6_latestFold_66 rfl ?_
        exact w_weak (l' := [(0, .ref 27), (1, .int (nZ x1)), (2, .int (nZ z4)), (3, .int (nZ x3)), (4, .int (nZ (x4 + 1)))]) (by intro q hq; simp only [List.mem_cons, List.not_mem_nil, or_false] at hq ⊢; rcases hq with rfl | rfl | rfl | rfl | rfl <;> simp) h
theorem dX6_dearestSun_0 : decode cX6_dearestSun 0 = .ok (.aload_n 0, 1) := by decide +kernel
theorem dX6_dearestSun_1 : decode cX6_dearestSun 1 = .ok (.getfield 34, 3) := by decide +kernel
theorem dX6_dearestSun_4 : decode cX6_dearestSun 4 = .ok (.getfield 130, 3) := by decide +kernel
theorem dX6_dearestSun_7 : decode cX6_dearestSun 7 = .ok (.astore_n 1, 1) := by decide +kernel
theorem dX6_dearestSun_8 : decode cX6_dearestSun 8 = .ok (.iconst 0, 1) := by decide +kernel
theorem dX6_dearestSun_9 : decode cX6_dearestSun 9 = .ok (.istore_n 2, 1) := by decide +kernel
theorem dX6_dearestSun_10 : decode cX6_dearestSun 10 = .ok (.iconst (-1), 1) := by decide +kernel
theorem dX6_dearestSun_11 : decode cX6_dearestSun 11 = .ok (.istore_n 3, 1) := by decide +kernel
theorem dX6_dearestSun_12 : decode cX6_dearestSun 12 = .ok (.iconst 0, 1) := by decide +kernel
theorem dX6_dearestSun_13 : decode cX6_dearestSun 13 = .ok (.istore 4, 2) := by decide +kernel
theorem dX6_dearestSun_15 : decode cX6_dearestSun 15 = .ok (.iload 4, 2) := by decide +kernel
theorem dX6_dearestSun_17 : decode cX6_dearestSun 17 = .ok (.aload_n 1, 1) := by decide +kernel
theorem dX6_dearestSun_18 : decode cX6_dearestSun 18 = .ok (.getfield 134, 3) := by decide +kernel
theorem dX6_dearestSun_21 : decode cX6_dearestSun 21 = .ok (.if_icmp .ge 51, 3) := by decide +kernel
theorem dX6_dearestSun_24 : decode cX6_dearestSun 24 = .ok (.aload_n 0, 1) := by decide +kernel
theorem dX6_dearestSun_25 : decode cX6_dearestSun 25 = .ok (.aload_n 0, 1) := by decide +kernel
theorem dX6_dearestSun_26 : decode cX6_dearestSun 26 = .ok (.aload_n 1, 1) := by decide +kernel
theorem dX6_dearestSun_27 : decode cX6_dearestSun 27 = .ok (.getfield 137, 3) := by decide +kernel
theorem dX6_dearestSun_30 : decode cX6_dearestSun 30 = .ok (.iload 4, 2) := by decide +kernel
theorem dX6_dearestSun_32 : decode cX6_dearestSun 32 = .ok (.iaload, 1) := by decide +kernel
theorem dX6_dearestSun_33 : decode cX6_dearestSun 33 = .ok (.aload_n 1, 1) := by decide +kernel
theorem dX6_dearestSun_34 : decode cX6_dearestSun 34 = .ok (.iload 4, 2) := by decide +kernel
theorem dX6_dearestSun_36 : decode cX6_dearestSun 36 = .ok (.invokevirtual 143, 3) := by decide +kernel
theorem dX6_dearestSun_39 : decode cX6_dearestSun 39 = .ok (.invokevirtual 156, 3) := by decide +kernel
theorem dX6_dearestSun_42 : decode cX6_dearestSun 42 = .ok (.ldc 160, 2) := by decide +kernel
theorem dX6_dearestSun_44 : decode cX6_dearestSun 44 = .ok (.invokevirtual 161, 3) := by decide +kernel
theorem dX6_dearestSun_47 : decode cX6_dearestSun 47 = .ok (.istore 5, 2) := by decide +kernel
theorem dX6_dearestSun_49 : decode cX6_dearestSun 49 = .ok (.iload 5, 2) := by decide +kernel
theorem dX6_dearestSun_51 : decode cX6_dearestSun 51 = .ok (.iload_n 2, 1) := by decide +kernel
theorem dX6_dearestSun_52 : decode cX6_dearestSun 52 = .ok (.if_icmp .le 14, 3) := by decide +kernel
theorem dX6_dearestSun_55 : decode cX6_dearestSun 55 = .ok (.iload 5, 2) := by decide +kernel
theorem dX6_dearestSun_57 : decode cX6_dearestSun 57 = .ok (.istore_n 2, 1) := by decide +kernel
theorem dX6_dearestSun_58 : decode cX6_dearestSun 58 = .ok (.aload_n 1, 1) := by decide +kernel
theorem dX6_dearestSun_59 : decode cX6_dearestSun 59 = .ok (.getfield 137, 3) := by decide +kernel
theorem dX6_dearestSun_62 : decode cX6_dearestSun 62 = .ok (.iload 4, 2) := by decide +kernel
theorem dX6_dearestSun_64 : decode cX6_dearestSun 64 = .ok (.iaload, 1) := by decide +kernel
theorem dX6_dearestSun_65 : decode cX6_dearestSun 65 = .ok (.istore_n 3, 1) := by decide +kernel
theorem dX6_dearestSun_66 : decode cX6_dearestSun 66 = .ok (.iinc 4 1, 3) := by decide +kernel
theorem dX6_dearestSun_69 : decode cX6_dearestSun 69 = .ok (.goto (-54), 3) := by decide +kernel
theorem dX6_dearestSun_72 : decode cX6_dearestSun 72 = .ok (.iload_n 3, 1) := by decide +kernel
theorem dX6_dearestSun_73 : decode cX6_dearestSun 73 = .ok (.ireturn, 1) := by decide +kernel
def L_X6_dearestSun_15 (C : aM → List Value → aH → aO → aH → Prop) (sc : Nat × (Nat → Int32)) (P : aO → aH → Prop) (u : Nat) (x2 : Int) (x3 : Int) (x4 : Int) (σ : aH) : Prop :=
    wp C 6 cX6_dearestSun 6 (some .int) false [] sc P 15 [(0, .ref 27), (1, .ref (u + 10)), (2, .int (nZ x2)), (3, .int (nZ x3)), (4, .int (nZ x4))] [] σ
set_option maxRecDepth 10000 in
theorem t_X6_dearestSun {sc : Nat × (Nat → Int32)} {d : Nat} {Q : aO → aH → Prop} {σ : aH} {u : Nat}   (hG : G σ u) 
    (h : L_X6_dearestSun_15 (Ev sc d) sc Q u 0 (-1) 0 σ) :
    T sc (d + 1) mX6_dearestSun [.ref 27] σ Q := by
  refine T.of (c := 6) (code := cX6_dearestSun) (mL := 6) (rt := (some .int)) (ini := false) (l := [(0, .ref 27)]) rfl rfl rfl rfl (by decide) hs_X6_dearestSun rfl rfl ?_
  refine w_aload_n dX6_dearestSun_0 rfl (List.Mem.head _) ?_
  refine w_getM (ci := 6) (k := 5) (b := u) dX6_dearestSun_1 fl_6_34 (by decide) (gT hG rfl (lt_of rfl)) hG.2.2.2.1 ?_
  refine w_getR (ci := 2) (k := 1) (b := (u + 10)) dX6_dearestSun_4 fl_6_130 (by decide) (gT hG (IsMk_t0 hG.2.2.2.2) (IsMk_lt hG.2.2.2.2 (k := 0) (by decide))) (gR hG (IsMk_r0_1 hG.2.2.2.2)) ?_
  refine w_astore_n (l' := [(1, .ref (u + 10)), (0, .ref 27)]) dX6_dearestSun_7 rfl (by decide) rfl ?_
  refine w_iconst (v := nZ 0) dX6_dearestSun_8 (by decide) ?_
  refine w_istore_n (l' := [(2, .int (nZ 0)), (1, .ref (u + 10)), (0, .ref 27)]) dX6_dearestSun_9 rfl (by decide) rfl ?_
  refine w_iconst (v := nZ (-1)) dX6_dearestSun_10 (by decide) ?_
  refine w_istore_n (l' := [(3, .int (nZ (-1))), (2, .int (nZ 0)), (1, .ref (u + 10)), (0, .ref 27)]) dX6_dearestSun_11 rfl (by decide) rfl ?_
  refine w_iconst (v := nZ 0) dX6_dearestSun_12 (by decide) ?_
  refine w_istore (l' := [(4, .int (nZ 0)), (3, .int (nZ (-1))), (2, .int (nZ 0)), (1, .ref (u + 10)), (0, .ref 27)]) dX6_dearestSun_13 (by decide) rfl ?_
  exact w_weak (l' := [(0, .ref 27), (1, .ref (u + 10)), (2, .int (nZ 0)), (3, .int (nZ (-1))), (4, .int (nZ 0))]) (by intro q hq; simp only [List.mem_cons, List.not_mem_nil, or_false] at hq ⊢; rcases hq with rfl | rfl | rfl | rfl | rfl <;> simp) h
set_option maxRecDepth 10000 in
theorem v_X6_dearestSun_15 {C : aM → List Value → aH → aO → aH → Prop} {sc : Nat × (Nat → Int32)} {P : aO → aH → Prop} {σ : aH} {u : Nat}  {x2 : Int} {x3 : Int} {x4 : Int} (hG : G σ u) (rx2 : inR x2) (rx3 : inR x3) (rx4 : inR x4)
    (h : (((rI σ (u + 10) 2) ≤ x4 → P (.inl (some (.int (nZ x3)))) σ) ∧ (¬ ((rI σ (u + 10) 2) ≤ x4) → ((0 ≤ x4 ∧ x4 < 20) ∧ (∃ (r5 : Int) (σ1 : aH), C mX0_endOf [.ref (u + 10), .int (nZ x4)] σ (.inl (some (.int (nZ r5)))) σ1 ∧ G σ1 u ∧ inR r5 ∧ (∃ σ6 : aH, C mX6_costsOf [.ref 27, .int (nZ (rI σ (u + 11) x4)), .int (nZ r5)] σ1 (.inl (some (.ref 34))) σ6 ∧ G σ6 u ∧ (∃ (r14 : Int) (σ10 : aH), C mX6_total [.ref 27, .ref 34, .int (nZ 1000000000)] σ6 (.inl (some (.int (nZ r14)))) σ10 ∧ G σ10 u ∧ inR r14 ∧ ((r14 ≤ x2 → (inR (x4 + 1) ∧ L_X6_dearestSun_15 C sc P u x2 x3 (x4 + 1) σ10)) ∧ (¬ (r14 ≤ x2) → ((0 ≤ x4 ∧ x4 < 20) ∧ (∀ z16 : Int, z16 = (rI σ10 (u + 11) x4) → (inR (x4 + 1) ∧ L_X6_dearestSun_15 C sc P u r14 z16 (x4 + 1) σ10)))))))))))) :
    L_X6_dearestSun_15 C sc P u x2 x3 x4 σ := by
  unfold L_X6_dearestSun_15
  refine w_iload dX6_dearestSun_15 (List.Mem.tail _ (List.Mem.tail _ (List.Mem.tail _ (List.Mem.tail _ (List.Mem.head _))))) ?_
  refine w_aload_n dX6_dearestSun_17 rfl (List.Mem.tail _ (List.Mem.head _)) ?_
  refine i_getI (ci := 0) 2 rfl dX6_dearestSun_18 fl_6_134 (by decide) (gT hG (IsMk_t10 hG.2.2.2.2) (IsMk_lt hG.2.2.2.2 (k := 10) (by decide))) ?_
  refine i_cmp_ge (tgt := 72) dX6_dearestSun_21 rfl rx4 (rI_R _ _ _) (fun c9 => ?_) (fun c9 => ?_)
  · replace h := h.1 c9
    refine w_iload_n dX6_dearestSun_72 rfl (List.Mem.tail _ (List.Mem.tail _ (List.Mem.tail _ (List.Mem.head _)))) ?_
    exact w_iret dX6_dearestSun_73 rfl h
  · replace h := h.2 c9
    refine w_aload_n dX6_dearestSun_24 rfl (List.Mem.head _) ?_
    refine w_aload_n dX6_dearestSun_25 rfl (List.Mem.head _) ?_
    refine w_aload_n dX6_dearestSun_26 rfl (List.Mem.tail _ (List.Mem.head _)) ?_
    refine w_getR (ci := 0) (k := 0) (b := (u + 11)) dX6_dearestSun_27 fl_6_137 (by decide) (gT hG (IsMk_t10 hG.2.2.2.2) (IsMk_lt hG.2.2.2.2 (k := 10) (by decide))) (gR hG (IsMk_r10_0 hG.2.2.2.2)) ?_
    refine w_iload dX6_dearestSun_30 (List.Mem.tail _ (List.Mem.tail _ (List.Mem.tail _ (List.Mem.tail _ (List.Mem.head _))))) ?_
    obtain ⟨h9, h⟩ := h
    refine i_iald (n := 20) dX6_dearestSun_32 (gT hG (IsMk_t11 hG.2.2.2.2) (IsMk_lt hG.2.2.2.2 (k := 11) (by decide))) (gL hG (IsMk_n11 hG.2.2.2.2)) rx4 h9 ?_
    refine w_aload_n dX6_dearestSun_33 rfl (List.Mem.tail _ (List.Mem.head _)) ?_
    refine w_iload dX6_dearestSun_34 (List.Mem.tail _ (List.Mem.tail _ (List.Mem.tail _ (List.Mem.tail _ (List.Mem.head _))))) ?_
    obtain ⟨r5, σ1, hc3, hG2, rr4, h⟩ := h
    refine w_callV dX6_dearestSun_36 ml_6_143 ⟨ok_X0_endOf, vi_X0_endOf⟩ hs_X0_endOf (As := [.int (nZ x4)]) rfl rfl (gT hG (IsMk_t10 hG.2.2.2.2) (IsMk_lt hG.2.2.2.2 (k := 10) (by decide))) (Nat.le_of_ble_eq_true rfl) hc3 ?_
    show wp C 6 cX6_dearestSun 6 (some .int) false [] sc P 39 [(0, .ref 27), (1, .ref (u + 10)), (2, .int (nZ x2)), (3, .int (nZ x3)), (4, .int (nZ x4))] [.int (nZ r5), .int (nZ (rI σ (u + 11) x4)), .ref 27, .ref 27] σ1
    obtain ⟨σ6, hc8, hG7, h⟩ := h
    refine w_callV dX6_dearestSun_39 ml_6_156 ⟨ok_X6_costsOf, vi_X6_costsOf⟩ hs_X6_costsOf (As := [.int (nZ (rI σ (u + 11) x4)), .int (nZ r5)]) rfl rfl (gT hG2 rfl (lt_of rfl)) (Nat.le_of_ble_eq_true rfl) hc8 ?_
    show wp C 6 cX6_dearestSun 6 (some .int) false [] sc P 42 [(0, .ref 27), (1, .ref (u + 10)), (2, .int (nZ x2)), (3, .int (nZ x3)), (4, .int (nZ x4))] [.ref 34, .ref 27] σ6
    refine i_ldc (x := 1000000000) dX6_dearestSun_42 kc_6_160 (by decide) ?_
    obtain ⟨r14, σ10, hc12, hG11, rr13, h⟩ := h
    refine w_callV dX6_dearestSun_44 ml_6_161 ⟨ok_X6_total, vi_X6_total⟩ hs_X6_total (As := [.ref 34, .int (nZ 1000000000)]) rfl rfl (gT hG7 rfl (lt_of rfl)) (Nat.le_of_ble_eq_true rfl) hc12 ?_
    show wp C 6 cX6_dearestSun 6 (some .int) false [] sc P 47 [(0, .ref 27), (1, .ref (u + 10)), (2, .int (nZ x2)), (3, .int (nZ x3)), (4, .int (nZ x4))] [.int (nZ r14)] σ10
    refine w_istore (l' := [(5, .int (nZ r14)), (0, .ref 27), (1, .ref (u + 10)), (2, .int (nZ x2)), (3, .int (nZ x3)), (4, .int (nZ x4))]) dX6_dearestSun_47 (by decide) rfl ?_
    refine w_iload dX6_dearestSun_49 (List.Mem.head _) ?_
    refine w_iload_n dX6_dearestSun_51 rfl (List.Mem.tail _ (List.Mem.tail _ (List.Mem.tail _ (List.Mem.head _)))) ?_
    refine i_cmp_le (tgt := 66) dX6_dearestSun_52 rfl rr13 rx2 (fun c9 => ?_) (fun c9 => ?_)
    · replace h := h.1 c9
      obtain ⟨q15, h⟩ := h
      refine w_iinc (v := nZ (x4 + 1)) (l' := [(4, .int (nZ (x4 + 1))), (5, .int (nZ r14)), (0, .ref 27), (1, .ref (u + 10)), (2, .int (nZ x2)), (3, .int (nZ x3))]) dX6_dearestSun_66 (List.Mem.tail _ (List.Mem.tail _ (List.Mem.tail _ (List.Mem.tail _ (List.Mem.tail _ (List.Mem.head _)))))) (nZ_add _ _) (by decide) rfl ?_
      refine w_goto (tgt := 15) dX6_dearestSun_69 rfl ?_
      exact w_weak (l' := [(0, .ref 27), (1, .ref (u + 10)), (2, .int (nZ x2)), (3, .int (nZ x3)), (4, .int (nZ (x4 + 1)))]) (by intro q hq; simp only [List.mem_cons, List.not_mem_nil, or_false] at hq ⊢; rcases hq with rfl | rfl | rfl | rfl | rfl <;> simp) h
    · replace h := h.2 c9
      refine w_iload dX6_dearestSun_55 (List.Mem.head _) ?_
      refine w_istore_n (l' := [(2, .int (nZ r14)), (5, .int (nZ r14)), (0, .ref 27), (1, .ref (u + 10)), (3, .int (nZ x3)), (4, .int (nZ x4))]) dX6_dearestSun_57 rfl (by decide) rfl ?_
      refine w_aload_n dX6_dearestSun_58 rfl (List.Mem.tail _ (List.Mem.tail _ (List.Mem.tail _ (List.Mem.head _)))) ?_
      refine w_getR (ci := 0) (k := 0) (b := (u + 11)) dX6_dearestSun_59 fl_6_137 (by decide) (gT hG11 (IsMk_t10 hG.2.2.2.2) (IsMk_lt hG.2.2.2.2 (k := 10) (by decide))) (gR hG11 (IsMk_r10_0 hG.2.2.2.2)) ?_
      refine w_iload dX6_dearestSun_62 (List.Mem.tail _ (List.Mem.tail _ (List.Mem.tail _ (List.Mem.tail _ (List.Mem.tail _ (List.Mem.head _)))))) ?_
      obtain ⟨h9, h⟩ := h
      refine i_iald (n := 20) dX6_dearestSun_64 (gT hG11 (IsMk_t11 hG.2.2.2.2) (IsMk_lt hG.2.2.2.2 (k := 11) (by decide))) (gL hG11 (IsMk_n11 hG.2.2.2.2)) rx4 h9 ?_
      refine top_i (fun z16 ez17 => ?_)
      have rz18 : inR z16 := ez17 ▸ (rI_R _ _ _)
      replace h := h z16 ez17
      refine w_istore_n (l' := [(3, .int (nZ z16)), (2, .int (nZ r14)), (5, .int (nZ r14)), (0, .ref 27), (1, .ref (u + 10)), (4, .int (nZ x4))]) dX6_dearestSun_65 rfl (by decide) rfl ?_
      obtain ⟨q19, h⟩ := h
      refine w_iinc (v := nZ (x4 + 1)) (l' := [(4, .int (nZ (x4 + 1))), (3, .int (nZ z16)), (2, .int (nZ r14)), (5, .int (nZ r14)), (0, .ref 27), (1, .ref (u + 10))]) dX6_dearestSun_66 (List.Mem.tail _ (List.Mem.tail _ (List.Mem.tail _ (List.Mem.tail _ (List.Mem.tail _ (List.Mem.head _)))))) (nZ_add _ _) (by decide) rfl ?_
      refine w_goto (tgt := 15) dX6_dearestSun_69 rfl ?_
      exact w_weak (l' := [(0, .ref 27), (1, .ref (u + 10)), (2, .int (nZ r14)), (3, .int (nZ z16)), (4, .int (nZ (x4 + 1)))]) (by intro q hq; simp only [List.mem_cons, List.not_mem_nil, or_false] at hq ⊢; rcases hq with rfl | rfl | rfl | rfl | rfl <;> simp) h
