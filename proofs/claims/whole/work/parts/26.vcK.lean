theorem dX10_rounds_0 : decode cX10_rounds 0 = .ok (.aload_n 0, 1) := by decide +kernel
theorem dX10_rounds_1 : decode cX10_rounds 1 = .ok (.iconst 0, 1) := by decide +kernel
theorem dX10_rounds_2 : decode cX10_rounds 2 = .ok (.putfield 106, 3) := by decide +kernel
theorem dX10_rounds_5 : decode cX10_rounds 5 = .ok (.aload_n 0, 1) := by decide +kernel
theorem dX10_rounds_6 : decode cX10_rounds 6 = .ok (.getfield 209, 3) := by decide +kernel
theorem dX10_rounds_9 : decode cX10_rounds 9 = .ok (.ireturn, 1) := by decide +kernel
set_option maxRecDepth 10000 in
theorem t_X10_rounds {sc : Nat × (Nat → Int32)} {d : Nat} {Q : aO → aH → Prop} {σ : aH} {u : Nat}   (hG : G σ u) 
    (h : (∀ σ1 : aH, wI σ 76 0 0 = σ1 → Q (.inl (some (.int (nZ (rI σ1 76 20))))) σ1)) :
    T sc (d + 1) mX10_rounds [.ref 76] σ Q := by
  refine T.of (c := 10) (code := cX10_rounds) (mL := 1) (rt := (some .int)) (ini := false) (l := [(0, .ref 76)]) rfl rfl rfl rfl (by decide) hs_X10_rounds rfl rfl ?_
  refine w_aload_n dX10_rounds_0 rfl (List.Mem.head _) ?_
  refine w_iconst (v := nZ 0) dX10_rounds_1 (by decide) ?_
  refine i_putI (ci := 10) 0 rfl dX10_rounds_2 fl_10_106 (by decide) (gT hG rfl (lt_of rfl)) (fun σ1 eσ2 => ?_)
  replace h := h σ1 eσ2
  have hG3 : G σ1 u := eσ2 ▸ G.wI hG
  refine w_aload_n dX10_rounds_5 rfl (List.Mem.head _) ?_
  refine i_getI (ci := 10) 20 rfl dX10_rounds_6 fl_10_209 (by decide) (gT hG3 rfl (lt_of rfl)) ?_
  exact w_iret dX10_rounds_9 rfl h
theorem dX10_cold_0 : decode cX10_cold 0 = .ok (.aload_n 0, 1) := by decide +kernel
theorem dX10_cold_1 : decode cX10_cold 1 = .ok (.iconst 0, 1) := by decide +kernel
theorem dX10_cold_2 : decode cX10_cold 2 = .ok (.putfield 106, 3) := by decide +kernel
theorem dX10_cold_5 : decode cX10_cold 5 = .ok (.aload_n 0, 1) := by decide +kernel
theorem dX10_cold_6 : decode cX10_cold 6 = .ok (.aload_n 0, 1) := by decide +kernel
theorem dX10_cold_7 : decode cX10_cold 7 = .ok (.iload_n 1, 1) := by decide +kernel
theorem dX10_cold_8 : decode cX10_cold 8 = .ok (.invokevirtual 236, 3) := by decide +kernel
theorem dX10_cold_11 : decode cX10_cold 11 = .ok (.ifCond .ne 7, 3) := by decide +kernel
theorem dX10_cold_14 : decode cX10_cold 14 = .ok (.iconst 1, 1) := by decide +kernel
theorem dX10_cold_15 : decode cX10_cold 15 = .ok (.goto 4, 3) := by decide +kernel
theorem dX10_cold_18 : decode cX10_cold 18 = .ok (.iconst 0, 1) := by decide +kernel
theorem dX10_cold_19 : decode cX10_cold 19 = .ok (.iconst 1, 1) := by decide +kernel
theorem dX10_cold_20 : decode cX10_cold 20 = .ok (.iconst 0, 1) := by decide +kernel
theorem dX10_cold_21 : decode cX10_cold 21 = .ok (.invokevirtual 196, 3) := by decide +kernel
theorem dX10_cold_24 : decode cX10_cold 24 = .ok (.ifCond .ne 28, 3) := by decide +kernel
theorem dX10_cold_27 : decode cX10_cold 27 = .ok (.aload_n 0, 1) := by decide +kernel
theorem dX10_cold_28 : decode cX10_cold 28 = .ok (.iload_n 2, 1) := by decide +kernel
theorem dX10_cold_29 : decode cX10_cold 29 = .ok (.iconst (-1), 1) := by decide +kernel
theorem dX10_cold_30 : decode cX10_cold 30 = .ok (.sipush 1440, 3) := by decide +kernel
theorem dX10_cold_33 : decode cX10_cold 33 = .ok (.invokestatic 140, 3) := by decide +kernel
theorem dX10_cold_36 : decode cX10_cold 36 = .ok (.ifCond .ne 7, 3) := by decide +kernel
theorem dX10_cold_39 : decode cX10_cold 39 = .ok (.iconst 1, 1) := by decide +kernel
theorem dX10_cold_40 : decode cX10_cold 40 = .ok (.goto 4, 3) := by decide +kernel
theorem dX10_cold_43 : decode cX10_cold 43 = .ok (.iconst 0, 1) := by decide +kernel
theorem dX10_cold_44 : decode cX10_cold 44 = .ok (.iconst 2, 1) := by decide +kernel
theorem dX10_cold_45 : decode cX10_cold 45 = .ok (.iconst 1, 1) := by decide +kernel
theorem dX10_cold_46 : decode cX10_cold 46 = .ok (.invokevirtual 196, 3) := by decide +kernel
theorem dX10_cold_49 : decode cX10_cold 49 = .ok (.ifCond .eq 5, 3) := by decide +kernel
theorem dX10_cold_52 : decode cX10_cold 52 = .ok (.iconst 0, 1) := by decide +kernel
theorem dX10_cold_53 : decode cX10_cold 53 = .ok (.ireturn, 1) := by decide +kernel
theorem dX10_cold_54 : decode cX10_cold 54 = .ok (.aload_n 0, 1) := by decide +kernel
theorem dX10_cold_55 : decode cX10_cold 55 = .ok (.getfield 46, 3) := by decide +kernel
theorem dX10_cold_58 : decode cX10_cold 58 = .ok (.iload_n 1, 1) := by decide +kernel
theorem dX10_cold_59 : decode cX10_cold 59 = .ok (.iaload, 1) := by decide +kernel
theorem dX10_cold_60 : decode cX10_cold 60 = .ok (.istore_n 3, 1) := by decide +kernel
theorem dX10_cold_61 : decode cX10_cold 61 = .ok (.aload_n 0, 1) := by decide +kernel
theorem dX10_cold_62 : decode cX10_cold 62 = .ok (.getfield 46, 3) := by decide +kernel
theorem dX10_cold_65 : decode cX10_cold 65 = .ok (.iload_n 1, 1) := by decide +kernel
theorem dX10_cold_66 : decode cX10_cold 66 = .ok (.iload_n 2, 1) := by decide +kernel
theorem dX10_cold_67 : decode cX10_cold 67 = .ok (.iastore, 1) := by decide +kernel
theorem dX10_cold_68 : decode cX10_cold 68 = .ok (.iload_n 3, 1) := by decide +kernel
theorem dX10_cold_69 : decode cX10_cold 69 = .ok (.ireturn, 1) := by decide +kernel
def L_X10_cold_19 (C : aM → List Value → aH → aO → aH → Prop) (sc : Nat × (Nat → Int32)) (P : aO → aH → Prop) (x1 : Int) (x2 : Int) (s0 : Int) (σ : aH) : Prop :=
    wp C 10 cX10_cold 4 (some .int) false [] sc P 19 [(0, .ref 76), (1, .int (nZ x1)), (2, .int (nZ x2))] [.int (nZ s0), .ref 76] σ
def L_X10_cold_44 (C : aM → List Value → aH → aO → aH → Prop) (sc : Nat × (Nat → Int32)) (P : aO → aH → Prop) (x1 : Int) (x2 : Int) (s0 : Int) (σ : aH) : Prop :=
    wp C 10 cX10_cold 4 (some .int) false [] sc P 44 [(0, .ref 76), (1, .int (nZ x1)), (2, .int (nZ x2))] [.int (nZ s0), .ref 76] σ
set_option maxRecDepth 10000 in
theorem t_X10_cold {sc : Nat × (Nat → Int32)} {d : Nat} {Q : aO → aH → Prop} {σ : aH} {u : Nat}  {x1 : Int} {x2 : Int} (hG : G σ u) (rx1 : inR x1) (rx2 : inR x2)
    (h : (∀ σ1 : aH, wI σ 76 0 0 = σ1 → (∃ (r8 : Int) (σ4 : aH), Ev sc d mX10_isStall [.ref 76, .int (nZ x1)] σ1 (.inl (some (.int (nZ r8)))) σ4 ∧ G σ4 u ∧ inR r8 ∧ ((¬ r8 = 0 → L_X10_cold_19 (Ev sc d) sc Q x1 x2 0 σ4) ∧ (r8 = 0 → L_X10_cold_19 (Ev sc d) sc Q x1 x2 1 σ4))))) :
    T sc (d + 1) mX10_cold [.ref 76, .int (nZ x1), .int (nZ x2)] σ Q := by
  refine T.of (c := 10) (code := cX10_cold) (mL := 4) (rt := (some .int)) (ini := false) (l := [(0, .ref 76), (1, .int (nZ x1)), (2, .int (nZ x2))]) rfl rfl rfl rfl (by decide) hs_X10_cold rfl rfl ?_
  refine w_aload_n dX10_cold_0 rfl (List.Mem.head _) ?_
  refine w_iconst (v := nZ 0) dX10_cold_1 (by decide) ?_
  refine i_putI (ci := 10) 0 rfl dX10_cold_2 fl_10_106 (by decide) (gT hG rfl (lt_of rfl)) (fun σ1 eσ2 => ?_)
  replace h := h σ1 eσ2
  have hG3 : G σ1 u := eσ2 ▸ G.wI hG
  refine w_aload_n dX10_cold_5 rfl (List.Mem.head _) ?_
  refine w_aload_n dX10_cold_6 rfl (List.Mem.head _) ?_
  refine w_iload_n dX10_cold_7 rfl (List.Mem.tail _ (List.Mem.head _)) ?_
  obtain ⟨r8, σ4, hc6, hG5, rr7, h⟩ := h
  refine w_callV dX10_cold_8 ml_10_236 ⟨ok_X10_isStall, vi_X10_isStall⟩ hs_X10_isStall (As := [.int (nZ x1)]) rfl rfl (gT hG3 rfl (lt_of rfl)) (Nat.le_of_ble_eq_true rfl) hc6 ?_
  show wp (Ev sc d) 10 cX10_cold 4 (some .int) false [] sc Q 11 [(0, .ref 76), (1, .int (nZ x1)), (2, .int (nZ x2))] [.int (nZ r8), .ref 76] σ4
  refine i_if_ne (tgt := 18) dX10_cold_11 rfl rr7 (fun c9 => ?_) (fun c9 => ?_)
  · replace h := h.1 c9
    refine w_iconst (v := nZ 0) dX10_cold_18 (by decide) ?_
    exact h
  · replace h := h.2 c9
    refine w_iconst (v := nZ 1) dX10_cold_14 (by decide) ?_
    refine w_goto (tgt := 19) dX10_cold_15 rfl ?_
    exact h
set_option maxRecDepth 10000 in
theorem v_X10_cold_19 {C : aM → List Value → aH → aO → aH → Prop} {sc : Nat × (Nat → Int32)} {P : aO → aH → Prop} {σ : aH} {u : Nat}  {x1 : Int} {x2 : Int} {s0 : Int} (hG : G σ u) (rx1 : inR x1) (rx2 : inR x2) (rs0 : inR s0)
    (h : (∃ (r5 : Int) (σ1 : aH), C mX10_bad [.ref 76, .int (nZ s0), .int (nZ 1), .int (nZ 0)] σ (.inl (some (.int (nZ r5)))) σ1 ∧ G σ1 u ∧ inR r5 ∧ ((¬ r5 = 0 → P (.inl (some (.int (nZ 0)))) σ1) ∧ (r5 = 0 → (∃ (r10 : Int) (σ6 : aH), C mX10_in [.int (nZ x2), .int (nZ (-1)), .int (nZ 1440)] σ1 (.inl (some (.int (nZ r10)))) σ6 ∧ G σ6 u ∧ inR r10 ∧ ((¬ r10 = 0 → L_X10_cold_44 C sc P x1 x2 0 σ6) ∧ (r10 = 0 → L_X10_cold_44 C sc P x1 x2 1 σ6))))))) :
    L_X10_cold_19 C sc P x1 x2 s0 σ := by
  unfold L_X10_cold_19
  refine w_iconst (v := nZ 1) dX10_cold_19 (by decide) ?_
  refine w_iconst (v := nZ 0) dX10_cold_20 (by decide) ?_
  obtain ⟨r5, σ1, hc3, hG2, rr4, h⟩ := h
  refine w_callV dX10_cold_21 ml_10_196 ⟨ok_X10_bad, vi_X10_bad⟩ hs_X10_bad (As := [.int (nZ s0), .int (nZ 1), .int (nZ 0)]) rfl rfl (gT hG rfl (lt_of rfl)) (Nat.le_of_ble_eq_true rfl) hc3 ?_
  show wp C 10 cX10_cold 4 (some .int) false [] sc P 24 [(0, .ref 76), (1, .int (nZ x1)), (2, .int (nZ x2))] [.int (nZ r5)] σ1
  refine i_if_ne (tgt := 52) dX10_cold_24 rfl rr4 (fun c9 => ?_) (fun c9 => ?_)
  · replace h := h.1 c9
    refine w_iconst (v := nZ 0) dX10_cold_52 (by decide) ?_
    exact w_iret dX10_cold_53 rfl h
  · replace h := h.2 c9
    refine w_aload_n dX10_cold_27 rfl (List.Mem.head _) ?_
    refine w_iload_n dX10_cold_28 rfl (List.Mem.tail _ (List.Mem.tail _ (List.Mem.head _))) ?_
    refine w_iconst (v := nZ (-1)) dX10_cold_29 (by decide) ?_
    refine w_sipush (v := nZ 1440) dX10_cold_30 (by decide) ?_
    obtain ⟨r10, σ6, hc8, hG7, rr9, h⟩ := h
    refine w_callS dX10_cold_33 ml_10_140 ⟨ok_X10_in, st_X10_in⟩ hs_X10_in (As := [.int (nZ x2), .int (nZ (-1)), .int (nZ 1440)]) rfl rfl (Nat.le_of_ble_eq_true rfl) hc8 ?_
    show wp C 10 cX10_cold 4 (some .int) false [] sc P 36 [(0, .ref 76), (1, .int (nZ x1)), (2, .int (nZ x2))] [.int (nZ r10), .ref 76] σ6
    refine i_if_ne (tgt := 43) dX10_cold_36 rfl rr9 (fun c9 => ?_) (fun c9 => ?_)
    · replace h := h.1 c9
      refine w_iconst (v := nZ 0) dX10_cold_43 (by decide) ?_
      exact h
    · replace h := h.2 c9
      refine w_iconst (v := nZ 1) dX10_cold_39 (by decide) ?_
      refine w_goto (tgt := 44) dX10_cold_40 rfl ?_
      exact h
set_option maxRecDepth 10000 in
theorem v_X10_cold_44 {C : aM → List Value → aH → aO → aH → Prop} {sc : Nat × (Nat → Int32)} {P : aO → aH → Prop} {σ : aH} {u : Nat}  {x1 : Int} {x2 : Int} {s0 : Int} (hG : G σ u) (rx1 : inR x1) (rx2 : inR x2) (rs0 : inR s0)
    (h : (∃ (r5 : Int) (σ1 : aH), C mX10_bad [.ref 76, .int (nZ s0), .int (nZ 2), .int (nZ 1)] σ (.inl (some (.int (nZ r5)))) σ1 ∧ G σ1 u ∧ inR r5 ∧ ((r5 = 0 → ((0 ≤ x1 ∧ x1 < 8) ∧ (∀ z6 : Int, z6 = (rI σ1 184 x1) → ((0 ≤ x1 ∧ x1 < 8) ∧ (∀ σ9 : aH, wI σ1 184 x1 x2 = σ9 → P (.inl (some (.int (nZ z6)))) σ9))))) ∧ (¬ (r5 = 0) → P (.inl (some (.int (nZ 0)))) σ1)))) :
    L_X10_cold_44 C sc P x1 x2 s0 σ := by
  unfold L_X10_cold_44
  refine w_iconst (v := nZ 2) dX10_cold_44 (by decide) ?_
  refine w_iconst (v := nZ 1) dX10_cold_45 (by decide) ?_
  obtain ⟨r5, σ1, hc3, hG2, rr4, h⟩ := h
  refine w_callV dX10_cold_46 ml_10_196 ⟨ok_X10_bad, vi_X10_bad⟩ hs_X10_bad (As := [.int (nZ s0), .int (nZ 2), .int (nZ 1)]) rfl rfl (gT hG rfl (lt_of rfl)) (Nat.le_of_ble_eq_true rfl) hc3 ?_
  show wp C 10 cX10_cold 4 (some .int) false [] sc P 49 [(0, .ref 76), (1, .int (nZ x1)), (2, .int (nZ x2))] [.int (nZ r5)] σ1
  refine i_if_eq (tgt := 54) dX10_cold_49 rfl rr4 (fun c9 => ?_) (fun c9 => ?_)
  · replace h := h.1 c9
    refine w_aload_n dX10_cold_54 rfl (List.Mem.head _) ?_
    refine w_getR (ci := 10) (k := 23) (b := 184) dX10_cold_55 fl_10_46 (by decide) (gT hG2 rfl (lt_of rfl)) (gR hG2 (b := 184) rfl) ?_
    refine w_iload_n dX10_cold_58 rfl (List.Mem.tail _ (List.Mem.head _)) ?_
    obtain ⟨h9, h⟩ := h
    refine i_iald (n := 8) dX10_cold_59 (gT hG2 rfl (lt_of rfl)) (gL hG2 rfl) rx1 h9 ?_
    refine top_i (fun z6 ez7 => ?_)
    have rz8 : inR z6 := ez7 ▸ (rI_R _ _ _)
    replace h := h z6 ez7
    refine w_istore_n (l' := [(3, .int (nZ z6)), (0, .ref 76), (1, .int (nZ x1)), (2, .int (nZ x2))]) dX10_cold_60 rfl (by decide) rfl ?_
    refine w_aload_n dX10_cold_61 rfl (List.Mem.tail _ (List.Mem.head _)) ?_
    refine w_getR (ci := 10) (k := 23) (b := 184) dX10_cold_62 fl_10_46 (by decide) (gT hG2 rfl (lt_of rfl)) (gR hG2 (b := 184) rfl) ?_
    refine w_iload_n dX10_cold_65 rfl (List.Mem.tail _ (List.Mem.tail _ (List.Mem.head _))) ?_
    refine w_iload_n dX10_cold_66 rfl (List.Mem.tail _ (List.Mem.tail _ (List.Mem.tail _ (List.Mem.head _)))) ?_
    obtain ⟨h9, h⟩ := h
    refine i_iast (n := 8) dX10_cold_67 (gT hG2 rfl (lt_of rfl)) (gL hG2 rfl) rx1 h9 (fun σ9 eσ10 => ?_)
    replace h := h σ9 eσ10
    have hG11 : G σ9 u := eσ10 ▸ G.wI hG2
    refine w_iload_n dX10_cold_68 rfl (List.Mem.head _) ?_
    exact w_iret dX10_cold_69 rfl h
  · replace h := h.2 c9
    refine w_iconst (v := nZ 0) dX10_cold_52 (by decide) ?_
    exact w_iret dX10_cold_53 rfl h
theorem dX10_explains_0 : decode cX10_explains 0 = .ok (.aload_n 0, 1) := by decide +kernel
theorem dX10_explains_1 : decode cX10_explains 1 = .ok (.invokevirtual 281, 3) := by decide +kernel
theorem dX10_explains_4 : decode cX10_explains 4 = .ok (.pop, 1) := by decide +kernel
theorem dX10_explains_5 : decode cX10_explains 5 = .ok (.iconst 0, 1) := by decide +kernel
theorem dX10_explains_6 : decode cX10_explains 6 = .ok (.istore_n 1, 1) := by decide +kernel
theorem dX10_explains_7 : decode cX10_explains 7 = .ok (.iload_n 1, 1) := by decide +kernel
theorem dX10_explains_8 : decode cX10_explains 8 = .ok (.aload_n 0, 1) := by decide +kernel
theorem dX10_explains_9 : decode cX10_explains 9 = .ok (.getfield 23, 3) := by decide +kernel
theorem dX10_explains_12 : decode cX10_explains 12 = .ok (.iconst 2, 1) := by decide +kernel
theorem dX10_explains_13 : decode cX10_explains 13 = .ok (.iaload, 1) := by decide +kernel
theorem dX10_explains_14 : decode cX10_explains 14 = .ok (.if_icmp .ge 43, 3) := by decide +kernel
theorem dX10_explains_17 : decode cX10_explains 17 = .ok (.aload_n 0, 1) := by decide +kernel
theorem dX10_explains_18 : decode cX10_explains 18 = .ok (.getfield 46, 3) := by decide +kernel
theorem dX10_explains_21 : decode cX10_explains 21 = .ok (.iload_n 1, 1) := by decide +kernel
theorem dX10_explains_22 : decode cX10_explains 22 = .ok (.iaload, 1) := by decide +kernel
theorem dX10_explains_23 : decode cX10_explains 23 = .ok (.iconst (-1), 1) := by decide +kernel
theorem dX10_explains_24 : decode cX10_explains 24 = .ok (.if_icmp .eq 27, 3) := by decide +kernel
theorem dX10_explains_27 : decode cX10_explains 27 = .ok (.aload_n 0, 1) := by decide +kernel
theorem dX10_explains_28 : decode cX10_explains 28 = .ok (.getfield 67, 3) := by decide +kernel
theorem dX10_explains_31 : decode cX10_explains 31 = .ok (.iload_n 1, 1) := by decide +kernel
theorem dX10_explains_32 : decode cX10_explains 32 = .ok (.iaload, 1) := by decide +kernel
theorem dX10_explains_33 : decode cX10_explains 33 = .ok (.aload_n 0, 1) := by decide +kernel
theorem dX10_explains_34 : decode cX10_explains 34 = .ok (.getfield 97, 3) := by decide +kernel
theorem dX10_explains_37 : decode cX10_explains 37 = .ok (.iload_n 1, 1) := by decide +kernel
theorem dX10_explains_38 : decode cX10_explains 38 = .ok (.iaload, 1) := by decide +kernel
theorem dX10_explains_39 : decode cX10_explains 39 = .ok (.isub, 1) := by decide +kernel
theorem dX10_explains_40 : decode cX10_explains 40 = .ok (.aload_n 0, 1) := by decide +kernel
theorem dX10_explains_41 : decode cX10_explains 41 = .ok (.getfield 46, 3) := by decide +kernel
theorem dX10_explains_44 : decode cX10_explains 44 = .ok (.iload_n 1, 1) := by decide +kernel
theorem dX10_explains_45 : decode cX10_explains 45 = .ok (.iaload, 1) := by decide +kernel
theorem dX10_explains_46 : decode cX10_explains 46 = .ok (.if_icmp .eq 5, 3) := by decide +kernel
theorem dX10_explains_49 : decode cX10_explains 49 = .ok (.iconst 0, 1) := by decide +kernel
theorem dX10_explains_50 : decode cX10_explains 50 = .ok (.ireturn, 1) := by decide +kernel
theorem dX10_explains_51 : decode cX10_explains 51 = .ok (.iinc 1 1, 3) := by decide +kernel
theorem dX10_explains_54 : decode cX10_explains 54 = .ok (.goto (-47), 3) := by decide +kernel
theorem dX10_explains_57 : decode cX10_explains 57 = .ok (.iconst 1, 1) := by decide +kernel
theorem dX10_explains_58 : decode cX10_explains 58 = .ok (.ireturn, 1) := by decide +kernel
def L_X10_explains_7 (C : aM → List Value → aH → aO → aH → Prop) (sc : Nat × (Nat → Int32)) (P : aO → aH → Prop) (x1 : Int) (σ : aH) : Prop :=
    wp C 10 cX10_explains 2 (some .boolean) false [] sc P 7 [(0, .ref 76), (1, .int (nZ x1))] [] σ
set_option maxRecDepth 10000 in
theorem t_X10_explains {sc : Nat × (Nat → Int32)} {d : Nat} {Q : aO → aH → Prop} {σ : aH} {u : Nat}   (hG : G σ u) 
    (h : (∃ (r5 : Int) (σ1 : aH), Ev sc d mX10_dueNow [.ref 76] σ (.inl (some (.int (nZ r5)))) σ1 ∧ G σ1 u ∧ inR r5 ∧ L_X10_explains_7 (Ev sc d) sc Q 0 σ1)) :
    T sc (d + 1) mX10_explains [.ref 76] σ Q := by
  refine T.of (c := 10) (code := cX10_explains) (mL := 2) (rt := (some .boolean)) (ini := false) (l := [(0, .ref 76)]) rfl rfl rfl rfl (by decide) hs_X10_explains rfl rfl ?_
  refine w_aload_n dX10_explains_0 rfl (List.Mem.head _) ?_
  obtain ⟨r5, σ1, hc3, hG2, rr4, h⟩ := h
  refine w_callV dX10_explains_1 ml_10_281 ⟨ok_X10_dueNow, vi_X10_dueNow⟩ hs_X10_dueNow (As := []) rfl rfl (gT hG rfl (lt_of rfl)) (Nat.le_of_ble_eq_true rfl) hc3 ?_
  show wp (Ev sc d) 10 cX10_explains 2 (some .boolean) false [] sc Q 4 [(0, .ref 76)] [.int (nZ r5)] σ1
  refine w_pop dX10_explains_4 rfl ?_
  refine w_iconst (v := nZ 0) dX10_explains_5 (by decide) ?_
  refine w_istore_n (l' := [(1, .int (nZ 0)), (0, .ref 76)]) dX10_explains_6 rfl (by decide) rfl ?_
  exact w_weak (l' := [(0, .ref 76), (1, .int (nZ 0))]) (by intro q hq; simp only [List.mem_cons, List.not_mem_nil, or_false] at hq ⊢; rcases hq with rfl | rfl <;> simp) h
set_option maxRecDepth 10000 in
theorem v_X10_explains_7 {C : aM → List Value → aH → aO → aH → Prop} {sc : Nat × (Nat → Int32)} {P : aO → aH → Prop} {σ : aH} {u : Nat}  {x1 : Int} (hG : G σ u) (rx1 : inR x1)
    (h : (((rI σ 80 2) ≤ x1 → P (.inl (some (.int (nZ 1)))) σ) ∧ (¬ ((rI σ 80 2) ≤ x1) → ((0 ≤ x1 ∧ x1 < 8) ∧ (((rI σ 184 x1) = (-1) → (inR (x1 + 1) ∧ L_X10_explains_7 C sc P (x1 + 1) σ)) ∧ (¬ ((rI σ 184 x1) = (-1)) → ((0 ≤ x1 ∧ x1 < 9) ∧ ((0 ≤ x1 ∧ x1 < 9) ∧ (inR ((rI σ 311 x1) - (rI σ 342 x1)) ∧ ((0 ≤ x1 ∧ x1 < 8) ∧ ((((rI σ 311 x1) - (rI σ 342 x1)) = (rI σ 184 x1) → (inR (x1 + 1) ∧ L_X10_explains_7 C sc P (x1 + 1) σ)) ∧ (¬ (((rI σ 311 x1) - (rI σ 342 x1)) = (rI σ 184 x1)) → P (.inl (some (.int (nZ 0)))) σ)))))))))))) :
    L_X10_explains_7 C sc P x1 σ := by
  unfold L_X10_explains_7
  refine w_iload_n dX10_explains_7 rfl (List.Mem.tail _ (List.Mem.head _)) ?_
  refine w_aload_n dX10_explains_8 rfl (List.Mem.head _) ?_
  refine w_getR (ci := 10) (k := 11) (b := 80) dX10_explains_9 fl_10_23 (by decide) (gT hG rfl (lt_of rfl)) (gR hG (b := 80) rfl) ?_
  refine w_iconst (v := nZ 2) dX10_explains_12 (by decide) ?_
  refine i_iald (n := 8) dX10_explains_13 (gT hG rfl (lt_of rfl)) (gL hG rfl) (by decide) (by decide) ?_
  refine i_cmp_ge (tgt := 57) dX10_explains_14 rfl rx1 (rI_R _ _ _) (fun c9 => ?_) (fun c9 => ?_)
  · replace h := h.1 c9
    refine w_iconst (v := nZ 1) dX10_explains_57 (by decide) ?_
    exact i_zret dX10_explains_58 rfl (by decide) h
  · replace h := h.2 c9
    refine w_aload_n dX10_explains_17 rfl (List.Mem.head _) ?_
    refine w_getR (ci := 10) (k := 23) (b := 184) dX10_explains_18 fl_10_46 (by decide) (gT hG rfl (lt_of rfl)) (gR hG (b := 184) rfl) ?_
    refine w_iload_n dX10_explains_21 rfl (List.Mem.tail _ (List.Mem.head _)) ?_
    obtain ⟨h9, h⟩ := h
    refine i_iald (n := 8) dX10_explains_22 (gT hG rfl (lt_of rfl)) (gL hG rfl) rx1 h9 ?_
    refine w_iconst (v := nZ (-1)) dX10_explains_23 (by decide) ?_
    refine i_cmp_eq (tgt := 51) dX10_explains_24 rfl (rI_R _ _ _) (by decide) (fun c9 => ?_) (fun c9 => ?_)
    · replace h := h.1 c9
      obtain ⟨q1, h⟩ := h
      refine w_iinc (v := nZ (x1 + 1)) (l' := [(1, .int (nZ (x1 + 1))), (0, .ref 76)]) dX10_explains_51 (List.Mem.tail _ (List.Mem.head _)) (nZ_add _ _) (by decide) rfl ?_
      refine w_goto (tgt := 7) dX10_explains_54 rfl ?_
      exact w_weak (l' := [(0, .ref 76), (1, .int (nZ (x1 + 1)))]) (by intro q hq; simp only [List.mem_cons, List.not_mem_nil, or_false] at hq ⊢; rcases hq with rfl | rfl <;> simp) h
    · replace h := h.2 c9
      refine w_aload_n dX10_explains_27 rfl (List.Mem.head _) ?_
      refine w_getR (ci := 10) (k := 33) (b := 311) dX10_explains_28 fl_10_67 (by decide) (gT hG rfl (lt_of rfl)) (gR hG (b := 311) rfl) ?_
      refine w_iload_n dX10_explains_31 rfl (List.Mem.tail _ (List.Mem.head _)) ?_
      obtain ⟨h9, h⟩ := h
      refine i_iald (n := 9) dX10_explains_32 (gT hG rfl (lt_of rfl)) (gL hG rfl) rx1 h9 ?_
      refine w_aload_n dX10_explains_33 rfl (List.Mem.head _) ?_
      refine w_getR (ci := 10) (k := 49) (b := 342) dX10_explains_34 fl_10_97 (by decide) (gT hG rfl (lt_of rfl)) (gR hG (b := 342) rfl) ?_
      refine w_iload_n dX10_explains_37 rfl (List.Mem.tail _ (List.Mem.head _)) ?_
      obtain ⟨h9, h⟩ := h
      refine i_iald (n := 9) dX10_explains_38 (gT hG rfl (lt_of rfl)) (gL hG rfl) rx1 h9 ?_
      obtain ⟨q2, h⟩ := h
      refine i_sub dX10_explains_39 ?_
      refine w_aload_n dX10_explains_40 rfl (List.Mem.head _) ?_
      refine w_getR (ci := 10) (k := 23) (b := 184) dX10_explains_41 fl_10_46 (by decide) (gT hG rfl (lt_of rfl)) (gR hG (b := 184) rfl) ?_
      refine w_iload_n dX10_explains_44 rfl (List.Mem.tail _ (List.Mem.head _)) ?_
      obtain ⟨h9, h⟩ := h
      refine i_iald (n := 8) dX10_explains_45 (gT hG rfl (lt_of rfl)) (gL hG rfl) rx1 h9 ?_
      refine i_cmp_eq (tgt := 51) dX10_explains_46 rfl q2 (rI_R _ _ _) (fun c9 => ?_) (fun c9 => ?_)
      · replace h := h.1 c9
        obtain ⟨q3, h⟩ := h
        refine w_iinc (v := nZ (x1 + 1)) (l' := [(1, .int (nZ (x1 + 1))), (0, .ref 76)]) dX10_explains_51 (List.Mem.tail _ (List.Mem.head _)) (nZ_add _ _) (by decide) rfl ?_
        refine w_goto (tgt := 7) dX10_explains_54 rfl ?_
        exact w_weak (l' := [(0, .ref 76), (1, .int (nZ (x1 + 1)))]) (by intro q hq; simp only [List.mem_cons, List.not_mem_nil, or_false] at hq ⊢; rcases hq with rfl | rfl <;> simp) h
      · replace h := h.2 c9
        refine w_iconst (v := nZ 0) dX10_explains_49 (by decide) ?_
        exact i_zret dX10_explains_50 rfl (by decide) h
theorem dX10_what_0 : decode cX10_what 0 = .ok (.aload_n 0, 1) := by decide +kernel
theorem dX10_what_1 : decode cX10_what 1 = .ok (.iconst 0, 1) := by decide +kernel
theorem dX10_what_2 : decode cX10_what 2 = .ok (.putfield 106, 3) := by decide +kernel
theorem dX10_what_5 : decode cX10_what 5 = .ok (.aload_n 0, 1) := by decide +kernel
theorem dX10_what_6 : decode cX10_what 6 = .ok (.iload_n 1, 1) := by decide +kernel
theorem dX10_what_7 : decode cX10_what 7 = .ok (.iconst 0, 1) := by decide +kernel
theorem dX10_what_8 : decode cX10_what 8 = .ok (.iconst 1, 1) := by decide +kernel
theorem dX10_what_9 : decode cX10_what 9 = .ok (.invokestatic 140, 3) := by decide +kernel
theorem dX10_what_12 : decode cX10_what 12 = .ok (.ifCond .ne 7, 3) := by decide +kernel
theorem dX10_what_15 : decode cX10_what 15 = .ok (.iconst 1, 1) := by decide +kernel
theorem dX10_what_16 : decode cX10_what 16 = .ok (.goto 4, 3) := by decide +kernel
theorem dX10_what_19 : decode cX10_what 19 = .ok (.iconst 0, 1) := by decide +kernel
theorem dX10_what_20 : decode cX10_what 20 = .ok (.iconst 1, 1) := by decide +kernel
theorem dX10_what_21 : decode cX10_what 21 = .ok (.iconst 1, 1) := by decide +kernel
theorem dX10_what_22 : decode cX10_what 22 = .ok (.invokevirtual 196, 3) := by decide +kernel
theorem dX10_what_25 : decode cX10_what 25 = .ok (.ifCond .eq 5, 3) := by decide +kernel
theorem dX10_what_28 : decode cX10_what 28 = .ok (.iconst 0, 1) := by decide +kernel
theorem dX10_what_29 : decode cX10_what 29 = .ok (.ireturn, 1) := by decide +kernel
theorem dX10_what_30 : decode cX10_what 30 = .ok (.iconst 0, 1) := by decide +kernel
theorem dX10_what_31 : decode cX10_what 31 = .ok (.istore_n 2, 1) := by decide +kernel
theorem dX10_what_32 : decode cX10_what 32 = .ok (.iconst (-1), 1) := by decide +kernel
theorem dX10_what_33 : decode cX10_what 33 = .ok (.istore_n 3, 1) := by decide +kernel
theorem dX10_what_34 : decode cX10_what 34 = .ok (.aload_n 0, 1) := by decide +kernel
theorem dX10_what_35 : decode cX10_what 35 = .ok (.invokevirtual 281, 3) := by decide +kernel
theorem dX10_what_38 : decode cX10_what 38 = .ok (.pop, 1) := by decide +kernel
theorem dX10_what_39 : decode cX10_what 39 = .ok (.iconst 0, 1) := by decide +kernel
theorem dX10_what_40 : decode cX10_what 40 = .ok (.istore 4, 2) := by decide +kernel
theorem dX10_what_42 : decode cX10_what 42 = .ok (.iload 4, 2) := by decide +kernel
theorem dX10_what_44 : decode cX10_what 44 = .ok (.aload_n 0, 1) := by decide +kernel
theorem dX10_what_45 : decode cX10_what 45 = .ok (.getfield 23, 3) := by decide +kernel
theorem dX10_what_48 : decode cX10_what 48 = .ok (.iconst 2, 1) := by decide +kernel
theorem dX10_what_49 : decode cX10_what 49 = .ok (.iaload, 1) := by decide +kernel
theorem dX10_what_50 : decode cX10_what 50 = .ok (.if_icmp .ge 23, 3) := by decide +kernel
theorem dX10_what_53 : decode cX10_what 53 = .ok (.aload_n 0, 1) := by decide +kernel
theorem dX10_what_54 : decode cX10_what 54 = .ok (.getfield 97, 3) := by decide +kernel
theorem dX10_what_57 : decode cX10_what 57 = .ok (.iload 4, 2) := by decide +kernel
theorem dX10_what_59 : decode cX10_what 59 = .ok (.aload_n 0, 1) := by decide +kernel
theorem dX10_what_60 : decode cX10_what 60 = .ok (.getfield 67, 3) := by decide +kernel
theorem dX10_what_63 : decode cX10_what 63 = .ok (.iload 4, 2) := by decide +kernel
theorem dX10_what_65 : decode cX10_what 65 = .ok (.iaload, 1) := by decide +kernel
theorem dX10_what_66 : decode cX10_what 66 = .ok (.iastore, 1) := by decide +kernel
theorem dX10_what_67 : decode cX10_what 67 = .ok (.iinc 4 1, 3) := by decide +kernel
theorem dX10_what_70 : decode cX10_what 70 = .ok (.goto (-28), 3) := by decide +kernel
theorem dX10_what_73 : decode cX10_what 73 = .ok (.iconst 0, 1) := by decide +kernel
theorem dX10_what_74 : decode cX10_what 74 = .ok (.istore 4, 2) := by decide +kernel
theorem dX10_what_76 : decode cX10_what 76 = .ok (.iload 4, 2) := by decide +kernel
theorem dX10_what_78 : decode cX10_what 78 = .ok (.aload_n 0, 1) := by decide +kernel
theorem dX10_what_79 : decode cX10_what 79 = .ok (.getfield 23, 3) := by decide +kernel
theorem dX10_what_82 : decode cX10_what 82 = .ok (.iconst 1, 1) := by decide +kernel
theorem dX10_what_83 : decode cX10_what 83 = .ok (.iaload, 1) := by decide +kernel
theorem dX10_what_84 : decode cX10_what 84 = .ok (.if_icmp .ge 121, 3) := by decide +kernel
theorem dX10_what_87 : decode cX10_what 87 = .ok (.iconst 0, 1) := by decide +kernel
theorem dX10_what_88 : decode cX10_what 88 = .ok (.istore 5, 2) := by decide +kernel
theorem dX10_what_90 : decode cX10_what 90 = .ok (.iload 5, 2) := by decide +kernel
theorem dX10_what_92 : decode cX10_what 92 = .ok (.aload_n 0, 1) := by decide +kernel
theorem dX10_what_93 : decode cX10_what 93 = .ok (.getfield 23, 3) := by decide +kernel
theorem dX10_what_96 : decode cX10_what 96 = .ok (.iconst 0, 1) := by decide +kernel
theorem dX10_what_97 : decode cX10_what 97 = .ok (.iaload, 1) := by decide +kernel
theorem dX10_what_98 : decode cX10_what 98 = .ok (.if_icmp .ge 101, 3) := by decide +kernel
theorem dX10_what_101 : decode cX10_what 101 = .ok (.aload_n 0, 1) := by decide +kernel
theorem dX10_what_102 : decode cX10_what 102 = .ok (.iload 5, 2) := by decide +kernel
theorem dX10_what_104 : decode cX10_what 104 = .ok (.iload 4, 2) := by decide +kernel
theorem dX10_what_106 : decode cX10_what 106 = .ok (.invokevirtual 245, 3) := by decide +kernel
theorem dX10_what_109 : decode cX10_what 109 = .ok (.iconst (-1), 1) := by decide +kernel
theorem dX10_what_110 : decode cX10_what 110 = .ok (.if_icmp .eq 6, 3) := by decide +kernel
theorem dX10_what_113 : decode cX10_what 113 = .ok (.goto 80, 3) := by decide +kernel
theorem dX10_what_116 : decode cX10_what 116 = .ok (.iconst 1, 1) := by decide +kernel
theorem dX10_what_117 : decode cX10_what 117 = .ok (.istore 6, 2) := by decide +kernel
theorem dX10_what_119 : decode cX10_what 119 = .ok (.iload 6, 2) := by decide +kernel
theorem dX10_what_121 : decode cX10_what 121 = .ok (.bipush 60, 2) := by decide +kernel
theorem dX10_what_123 : decode cX10_what 123 = .ok (.if_icmp .gt 70, 3) := by decide +kernel
theorem dX10_what_126 : decode cX10_what 126 = .ok (.aload_n 0, 1) := by decide +kernel
theorem dX10_what_127 : decode cX10_what 127 = .ok (.iload 5, 2) := by decide +kernel
theorem dX10_what_129 : decode cX10_what 129 = .ok (.iload 4, 2) := by decide +kernel
theorem dX10_what_131 : decode cX10_what 131 = .ok (.iload 6, 2) := by decide +kernel
theorem dX10_what_133 : decode cX10_what 133 = .ok (.invokevirtual 312, 3) := by decide +kernel
theorem dX10_what_136 : decode cX10_what 136 = .ok (.aload_n 0, 1) := by decide +kernel
theorem dX10_what_137 : decode cX10_what 137 = .ok (.invokevirtual 327, 3) := by decide +kernel
theorem dX10_what_140 : decode cX10_what 140 = .ok (.istore 7, 2) := by decide +kernel
theorem dX10_what_142 : decode cX10_what 142 = .ok (.aload_n 0, 1) := by decide +kernel
theorem dX10_what_143 : decode cX10_what 143 = .ok (.dup, 1) := by decide +kernel
theorem dX10_what_144 : decode cX10_what 144 = .ok (.getfield 218, 3) := by decide +kernel
theorem dX10_what_147 : decode cX10_what 147 = .ok (.iconst 1, 1) := by decide +kernel
theorem dX10_what_148 : decode cX10_what 148 = .ok (.isub, 1) := by decide +kernel
theorem dX10_what_149 : decode cX10_what 149 = .ok (.putfield 218, 3) := by decide +kernel
theorem dX10_what_152 : decode cX10_what 152 = .ok (.iload 7, 2) := by decide +kernel
theorem dX10_what_154 : decode cX10_what 154 = .ok (.ifCond .ne 6, 3) := by decide +kernel
theorem dX10_what_157 : decode cX10_what 157 = .ok (.goto 30, 3) := by decide +kernel
theorem dX10_what_160 : decode cX10_what 160 = .ok (.iload_n 3, 1) := by decide +kernel
theorem dX10_what_161 : decode cX10_what 161 = .ok (.iconst (-1), 1) := by decide +kernel
theorem dX10_what_162 : decode cX10_what 162 = .ok (.if_icmp .ne 20, 3) := by decide +kernel
theorem dX10_what_165 : decode cX10_what 165 = .ok (.bipush 100, 2) := by decide +kernel
theorem dX10_what_167 : decode cX10_what 167 = .ok (.iload 6, 2) := by decide +kernel
theorem dX10_what_169 : decode cX10_what 169 = .ok (.imul, 1) := by decide +kernel
theorem dX10_what_170 : decode cX10_what 170 = .ok (.iload 5, 2) := by decide +kernel
theorem dX10_what_172 : decode cX10_what 172 = .ok (.iadd, 1) := by decide +kernel
theorem dX10_what_173 : decode cX10_what 173 = .ok (.bipush 10, 2) := by decide +kernel
theorem dX10_what_175 : decode cX10_what 175 = .ok (.iload 4, 2) := by decide +kernel
theorem dX10_what_177 : decode cX10_what 177 = .ok (.imul, 1) := by decide +kernel
theorem dX10_what_178 : decode cX10_what 178 = .ok (.iadd, 1) := by decide +kernel
theorem dX10_what_179 : decode cX10_what 179 = .ok (.goto 4, 3) := by decide +kernel
theorem dX10_what_182 : decode cX10_what 182 = .ok (.iload_n 3, 1) := by decide +kernel
theorem dX10_what_183 : decode cX10_what 183 = .ok (.istore_n 3, 1) := by decide +kernel
theorem dX10_what_184 : decode cX10_what 184 = .ok (.iinc 2 1, 3) := by decide +kernel
theorem dX10_what_187 : decode cX10_what 187 = .ok (.iinc 6 1, 3) := by decide +kernel
theorem dX10_what_190 : decode cX10_what 190 = .ok (.goto (-71), 3) := by decide +kernel
theorem dX10_what_193 : decode cX10_what 193 = .ok (.iinc 5 1, 3) := by decide +kernel
theorem dX10_what_196 : decode cX10_what 196 = .ok (.goto (-106), 3) := by decide +kernel
theorem dX10_what_199 : decode cX10_what 199 = .ok (.iinc 4 1, 3) := by decide +kernel
theorem dX10_what_202 : decode cX10_what 202 = .ok (.goto (-126), 3) := by decide +kernel
theorem dX10_what_205 : decode cX10_what 205 = .ok (.iload_n 1, 1) := by decide +kernel
theorem dX10_what_206 : decode cX10_what 206 = .ok (.ifCond .ne 7, 3) := by decide +kernel
theorem dX10_what_209 : decode cX10_what 209 = .ok (.iload_n 2, 1) := by decide +kernel
theorem dX10_what_210 : decode cX10_what 210 = .ok (.goto 4, 3) := by decide +kernel
theorem dX10_what_213 : decode cX10_what 213 = .ok (.iload_n 3, 1) := by decide +kernel
theorem dX10_what_214 : decode cX10_what 214 = .ok (.ireturn, 1) := by decide +kernel
def L_X10_what_20 (C : aM → List Value → aH → aO → aH → Prop) (sc : Nat × (Nat → Int32)) (P : aO → aH → Prop) (x1 : Int) (s0 : Int) (σ : aH) : Prop :=
    wp C 10 cX10_what 8 (some .int) false [] sc P 20 [(0, .ref 76), (1, .int (nZ x1))] [.int (nZ s0), .ref 76] σ
def L_X10_what_42 (C : aM → List Value → aH → aO → aH → Prop) (sc : Nat × (Nat → Int32)) (P : aO → aH → Prop) (x1 : Int) (x2 : Int) (x3 : Int) (x4 : Int) (σ : aH) : Prop :=
    wp C 10 cX10_what 8 (some .int) false [] sc P 42 [(0, .ref 76), (1, .int (nZ x1)), (2, .int (nZ x2)), (3, .int (nZ x3)), (4, .int (nZ x4))] [] σ
def L_X10_what_76 (C : aM → List Value → aH → aO → aH → Prop) (sc : Nat × (Nat → Int32)) (P : aO → aH → Prop) (x1 : Int) (x2 : Int) (x3 : Int) (x4 : Int) (σ : aH) : Prop :=
    wp C 10 cX10_what 8 (some .int) false [] sc P 76 [(0, .ref 76), (1, .int (nZ x1)), (2, .int (nZ x2)), (3, .int (nZ x3)), (4, .int (nZ x4))] [] σ
def L_X10_what_90 (C : aM → List Value → aH → aO → aH → Prop) (sc : Nat × (Nat → Int32)) (P : aO → aH → Prop) (x1 : Int) (x2 : Int) (x3 : Int) (x4 : Int) (x5 : Int) (σ : aH) : Prop :=
    wp C 10 cX10_what 8 (some .int) false [] sc P 90 [(0, .ref 76), (1, .int (nZ x1)), (2, .int (nZ x2)), (3, .int (nZ x3)), (4, .int (nZ x4)), (5, .int (nZ x5))] [] σ
def L_X10_what_119 (C : aM → List Value → aH → aO → aH → Prop) (sc : Nat × (Nat → Int32)) (P : aO → aH → Prop) (x1 : Int) (x2 : Int) (x3 : Int) (x4 : Int) (x5 : Int) (x6 : Int) (σ : aH) : Prop :=
    wp C 10 cX10_what 8 (some .int) false [] sc P 119 [(0, .ref 76), (1, .int (nZ x1)), (2, .int (nZ x2)), (3, .int (nZ x3)), (4, .int (nZ x4)), (5, .int (nZ x5)), (6, .int (nZ x6))] [] σ
set_option maxRecDepth 10000 in
theorem t_X10_what {sc : Nat × (Nat → Int32)} {d : Nat} {Q : aO → aH → Prop} {σ : aH} {u : Nat}  {x1 : Int} (hG : G σ u) (rx1 : inR x1)
    (h : (∀ σ1 : aH, wI σ 76 0 0 = σ1 → (∃ (r8 : Int) (σ4 : aH), Ev sc d mX10_in [.int (nZ x1), .int (nZ 0), .int (nZ 1)] σ1 (.inl (some (.int (nZ r8)))) σ4 ∧ G σ4 u ∧ inR r8 ∧ ((¬ r8 = 0 → L_X10_what_20 (Ev sc d) sc Q x1 0 σ4) ∧ (r8 = 0 → L_X10_what_20 (Ev sc d) sc Q x1 1 σ4))))) :
    T sc (d + 1) mX10_what [.ref 76, .int (nZ x1)] σ Q := by
  refine T.of (c := 10) (code := cX10_what) (mL := 8) (rt := (some .int)) (ini := false) (l := [(0, .ref 76), (1, .int (nZ x1))]) rfl rfl rfl rfl (by decide) hs_X10_what rfl rfl ?_
  refine w_aload_n dX10_what_0 rfl (List.Mem.head _) ?_
  refine w_iconst (v := nZ 0) dX10_what_1 (by decide) ?_
  refine i_putI (ci := 10) 0 rfl dX10_what_2 fl_10_106 (by decide) (gT hG rfl (lt_of rfl)) (fun σ1 eσ2 => ?_)
  replace h := h σ1 eσ2
  have hG3 : G σ1 u := eσ2 ▸ G.wI hG
  refine w_aload_n dX10_what_5 rfl (List.Mem.head _) ?_
  refine w_iload_n dX10_what_6 rfl (List.Mem.tail _ (List.Mem.head _)) ?_
  refine w_iconst (v := nZ 0) dX10_what_7 (by decide) ?_
  refine w_iconst (v := nZ 1) dX10_what_8 (by decide) ?_
  obtain ⟨r8, σ4, hc6, hG5, rr7, h⟩ := h
  refine w_callS dX10_what_9 ml_10_140 ⟨ok_X10_in, st_X10_in⟩ hs_X10_in (As := [.int (nZ x1), .int (nZ 0), .int (nZ 1)]) rfl rfl (Nat.le_of_ble_eq_true rfl) hc6 ?_
  show wp (Ev sc d) 10 cX10_what 8 (some .int) false [] sc Q 12 [(0, .ref 76), (1, .int (nZ x1))] [.int (nZ r8), .ref 76] σ4
  refine i_if_ne (tgt := 19) dX10_what_12 rfl rr7 (fun c9 => ?_) (fun c9 => ?_)
  · replace h := h.1 c9
    refine w_iconst (v := nZ 0) dX10_what_19 (by decide) ?_
    exact h
  · replace h := h.2 c9
    refine w_iconst (v := nZ 1) dX10_what_15 (by decide) ?_
    refine w_goto (tgt := 20) dX10_what_16 rfl ?_
    exact h
set_option maxRecDepth 10000 in
theorem v_X10_what_20 {C : aM → List Value → aH → aO → aH → Prop} {sc : Nat × (Nat → Int32)} {P : aO → aH → Prop} {σ : aH} {u : Nat}  {x1 : Int} {s0 : Int} (hG : G σ u) (rx1 : inR x1) (rs0 : inR s0)
    (h : (∃ (r5 : Int) (σ1 : aH), C mX10_bad [.ref 76, .int (nZ s0), .int (nZ 1), .int (nZ 1)] σ (.inl (some (.int (nZ r5)))) σ1 ∧ G σ1 u ∧ inR r5 ∧ ((r5 = 0 → (∃ (r10 : Int) (σ6 : aH), C mX10_dueNow [.ref 76] σ1 (.inl (some (.int (nZ r10)))) σ6 ∧ G σ6 u ∧ inR r10 ∧ L_X10_what_42 C sc P x1 0 (-1) 0 σ6)) ∧ (¬ (r5 = 0) → P (.inl (some (.int (nZ 0)))) σ1)))) :
    L_X10_what_20 C sc P x1 s0 σ := by
  unfold L_X10_what_20
  refine w_iconst (v := nZ 1) dX10_what_20 (by decide) ?_
  refine w_iconst (v := nZ 1) dX10_what_21 (by decide) ?_
  obtain ⟨r5, σ1, hc3, hG2, rr4, h⟩ := h
  refine w_callV dX10_what_22 ml_10_196 ⟨ok_X10_bad, vi_X10_bad⟩ hs_X10_bad (As := [.int (nZ s0), .int (nZ 1), .int (nZ 1)]) rfl rfl (gT hG rfl (lt_of rfl)) (Nat.le_of_ble_eq_true rfl) hc3 ?_
  show wp C 10 cX10_what 8 (some .int) false [] sc P 25 [(0, .ref 76), (1, .int (nZ x1))] [.int (nZ r5)] σ1
  refine i_if_eq (tgt := 30) dX10_what_25 rfl rr4 (fun c9 => ?_) (fun c9 => ?_)
  · replace h := h.1 c9
    refine w_iconst (v := nZ 0) dX10_what_30 (by decide) ?_
    refine w_istore_n (l' := [(2, .int (nZ 0)), (0, .ref 76), (1, .int (nZ x1))]) dX10_what_31 rfl (by decide) rfl ?_
    refine w_iconst (v := nZ (-1)) dX10_what_32 (by decide) ?_
    refine w_istore_n (l' := [(3, .int (nZ (-1))), (2, .int (nZ 0)), (0, .ref 76), (1, .int (nZ x1))]) dX10_what_33 rfl (by decide) rfl ?_
    refine w_aload_n dX10_what_34 rfl (List.Mem.tail _ (List.Mem.tail _ (List.Mem.head _))) ?_
    obtain ⟨r10, σ6, hc8, hG7, rr9, h⟩ := h
    refine w_callV dX10_what_35 ml_10_281 ⟨ok_X10_dueNow, vi_X10_dueNow⟩ hs_X10_dueNow (As := []) rfl rfl (gT hG2 rfl (lt_of rfl)) (Nat.le_of_ble_eq_true rfl) hc8 ?_
    show wp C 10 cX10_what 8 (some .int) false [] sc P 38 [(3, .int (nZ (-1))), (2, .int (nZ 0)), (0, .ref 76), (1, .int (nZ x1))] [.int (nZ r10)] σ6
    refine w_pop dX10_what_38 rfl ?_
    refine w_iconst (v := nZ 0) dX10_what_39 (by decide) ?_
    refine w_istore (l' := [(4, .int (nZ 0)), (3, .int (nZ (-1))), (2, .int (nZ 0)), (0, .ref 76), (1, .int (nZ x1))]) dX10_what_40 (by decide) rfl ?_
    exact w_weak (l' := [(0, .ref 76), (1, .int (nZ x1)), (2, .int (nZ 0)), (3, .int (nZ (-1))), (4, .int (nZ 0))]) (by intro q hq; simp only [List.mem_cons, List.not_mem_nil, or_false] at hq ⊢; rcases hq with rfl | rfl | rfl | rfl | rfl <;> simp) h
  · replace h := h.2 c9
    refine w_iconst (v := nZ 0) dX10_what_28 (by decide) ?_
    exact w_iret dX10_what_29 rfl h
set_option maxRecDepth 10000 in
theorem v_X10_what_42 {C : aM → List Value → aH → aO → aH → Prop} {sc : Nat × (Nat → Int32)} {P : aO → aH → Prop} {σ : aH} {u : Nat}  {x1 : Int} {x2 : Int} {x3 : Int} {x4 : Int} (hG : G σ u) (rx1 : inR x1) (rx2 : inR x2) (rx3 : inR x3) (rx4 : inR x4)
    (h : (((rI σ 80 2) ≤ x4 → L_X10_what_76 C sc P x1 x2 x3 0 σ) ∧ (¬ ((rI σ 80 2) ≤ x4) → ((0 ≤ x4 ∧ x4 < 9) ∧ ((0 ≤ x4 ∧ x4 < 9) ∧ (∀ σ1 : aH, wI σ 342 x4 (rI σ 311 x4) = σ1 → (inR (x4 + 1) ∧ L_X10_what_42 C sc P x1 x2 x3 (x4 + 1) σ1))))))) :
    L_X10_what_42 C sc P x1 x2 x3 x4 σ := by
  unfold L_X10_what_42
  refine w_iload dX10_what_42 (List.Mem.tail _ (List.Mem.tail _ (List.Mem.tail _ (List.Mem.tail _ (List.Mem.head _))))) ?_
  refine w_aload_n dX10_what_44 rfl (List.Mem.head _) ?_
  refine w_getR (ci := 10) (k := 11) (b := 80) dX10_what_45 fl_10_23 (by decide) (gT hG rfl (lt_of rfl)) (gR hG (b := 80) rfl) ?_
  refine w_iconst (v := nZ 2) dX10_what_48 (by decide) ?_
  refine i_iald (n := 8) dX10_what_49 (gT hG rfl (lt_of rfl)) (gL hG rfl) (by decide) (by decide) ?_
  refine i_cmp_ge (tgt := 73) dX10_what_50 rfl rx4 (rI_R _ _ _) (fun c9 => ?_) (fun c9 => ?_)
  · replace h := h.1 c9
    refine w_iconst (v := nZ 0) dX10_what_73 (by decide) ?_
    refine w_istore (l' := [(4, .int (nZ 0)), (0, .ref 76), (1, .int (nZ x1)), (2, .int (nZ x2)), (3, .int (nZ x3))]) dX10_what_74 (by decide) rfl ?_
    exact w_weak (l' := [(0, .ref 76), (1, .int (nZ x1)), (2, .int (nZ x2)), (3, .int (nZ x3)), (4, .int (nZ 0))]) (by intro q hq; simp only [List.mem_cons, List.not_mem_nil, or_false] at hq ⊢; rcases hq with rfl | rfl | rfl | rfl | rfl <;> simp) h
  · replace h := h.2 c9
    refine w_aload_n dX10_what_53 rfl (List.Mem.head _) ?_
    refine w_getR (ci := 10) (k := 49) (b := 342) dX10_what_54 fl_10_97 (by decide) (gT hG rfl (lt_of rfl)) (gR hG (b := 342) rfl) ?_
    refine w_iload dX10_what_57 (List.Mem.tail _ (List.Mem.tail _ (List.Mem.tail _ (List.Mem.tail _ (List.Mem.head _))))) ?_
    refine w_aload_n dX10_what_59 rfl (List.Mem.head _) ?_
    refine w_getR (ci := 10) (k := 33) (b := 311) dX10_what_60 fl_10_67 (by decide) (gT hG rfl (lt_of rfl)) (gR hG (b := 311) rfl) ?_
    refine w_iload dX10_what_63 (List.Mem.tail _ (List.Mem.tail _ (List.Mem.tail _ (List.Mem.tail _ (List.Mem.head _))))) ?_
    obtain ⟨h9, h⟩ := h
    refine i_iald (n := 9) dX10_what_65 (gT hG rfl (lt_of rfl)) (gL hG rfl) rx4 h9 ?_
    obtain ⟨h9, h⟩ := h
    refine i_iast (n := 9) dX10_what_66 (gT hG rfl (lt_of rfl)) (gL hG rfl) rx4 h9 (fun σ1 eσ2 => ?_)
    replace h := h σ1 eσ2
    have hG3 : G σ1 u := eσ2 ▸ G.wI hG
    obtain ⟨q4, h⟩ := h
    refine w_iinc (v := nZ (x4 + 1)) (l' := [(4, .int (nZ (x4 + 1))), (0, .ref 76), (1, .int (nZ x1)), (2, .int (nZ x2)), (3, .int (nZ x3))]) dX10_what_67 (List.Mem.tail _ (List.Mem.tail _ (List.Mem.tail _ (List.Mem.tail _ (List.Mem.head _))))) (nZ_add _ _) (by decide) rfl ?_
    refine w_goto (tgt := 42) dX10_what_70 rfl ?_
    exact w_weak (l' := [(0, .ref 76), (1, .int (nZ x1)), (2, .int (nZ x2)), (3, .int (nZ x3)), (4, .int (nZ (x4 + 1)))]) (by intro q hq; simp only [List.mem_cons, List.not_mem_nil, or_false] at hq ⊢; rcases hq with rfl | rfl | rfl | rfl | rfl <;> simp) h
set_option maxRecDepth 10000 in
theorem v_X10_what_76 {C : aM → List Value → aH → aO → aH → Prop} {sc : Nat × (Nat → Int32)} {P : aO → aH → Prop} {σ : aH} {u : Nat}  {x1 : Int} {x2 : Int} {x3 : Int} {x4 : Int} (hG : G σ u) (rx1 : inR x1) (rx2 : inR x2) (rx3 : inR x3) (rx4 : inR x4)
    (h : (((rI σ 80 1) ≤ x4 → ((¬ x1 = 0 → P (.inl (some (.int (nZ x3)))) σ) ∧ (x1 = 0 → P (.inl (some (.int (nZ x2)))) σ))) ∧ (¬ ((rI σ 80 1) ≤ x4) → L_X10_what_90 C sc P x1 x2 x3 x4 0 σ))) :
    L_X10_what_76 C sc P x1 x2 x3 x4 σ := by
  unfold L_X10_what_76
  refine w_iload dX10_what_76 (List.Mem.tail _ (List.Mem.tail _ (List.Mem.tail _ (List.Mem.tail _ (List.Mem.head _))))) ?_
  refine w_aload_n dX10_what_78 rfl (List.Mem.head _) ?_
  refine w_getR (ci := 10) (k := 11) (b := 80) dX10_what_79 fl_10_23 (by decide) (gT hG rfl (lt_of rfl)) (gR hG (b := 80) rfl) ?_
  refine w_iconst (v := nZ 1) dX10_what_82 (by decide) ?_
  refine i_iald (n := 8) dX10_what_83 (gT hG rfl (lt_of rfl)) (gL hG rfl) (by decide) (by decide) ?_
  refine i_cmp_ge (tgt := 205) dX10_what_84 rfl rx4 (rI_R _ _ _) (fun c9 => ?_) (fun c9 => ?_)
  · replace h := h.1 c9
    refine w_iload_n dX10_what_205 rfl (List.Mem.tail _ (List.Mem.head _)) ?_
    refine i_if_ne (tgt := 213) dX10_what_206 rfl rx1 (fun c9 => ?_) (fun c9 => ?_)
    · replace h := h.1 c9
      refine w_iload_n dX10_what_213 rfl (List.Mem.tail _ (List.Mem.tail _ (List.Mem.tail _ (List.Mem.head _)))) ?_
      exact w_iret dX10_what_214 rfl h
    · replace h := h.2 c9
      refine w_iload_n dX10_what_209 rfl (List.Mem.tail _ (List.Mem.tail _ (List.Mem.head _))) ?_
      refine w_goto (tgt := 214) dX10_what_210 rfl ?_
      exact w_iret dX10_what_214 rfl h
  · replace h := h.2 c9
    refine w_iconst (v := nZ 0) dX10_what_87 (by decide) ?_
    refine w_istore (l' := [(5, .int (nZ 0)), (0, .ref 76), (1, .int (nZ x1)), (2, .int (nZ x2)), (3, .int (nZ x3)), (4, .int (nZ x4))]) dX10_what_88 (by decide) rfl ?_
    exact w_weak (l' := [(0, .ref 76), (1, .int (nZ x1)), (2, .int (nZ x2)), (3, .int (nZ x3)), (4, .int (nZ x4)), (5, .int (nZ 0))]) (by intro q hq; simp only [List.mem_cons, List.not_mem_nil, or_false] at hq ⊢; rcases hq with rfl | rfl | rfl | rfl | rfl | rfl <;> simp) h
set_option maxRecDepth 10000 in
theorem v_X10_what_90 {C : aM → List Value → aH → aO → aH → Prop} {sc : Nat × (Nat → Int32)} {P : aO → aH → Prop} {σ : aH} {u : Nat}  {x1 : Int} {x2 : Int} {x3 : Int} {x4 : Int} {x5 : Int} (hG : G σ u) (rx1 : inR x1) (rx2 : inR x2) (rx3 : inR x3) (rx4 : inR x4) (rx5 : inR x5)
    (h : (((rI σ 80 0) ≤ x5 → (inR (x4 + 1) ∧ L_X10_what_76 C sc P x1 x2 x3 (x4 + 1) σ)) ∧ (¬ ((rI σ 80 0) ≤ x5) → (∃ (r6 : Int) (σ2 : aH), C mX10_stallOn [.ref 76, .int (nZ x5), .int (nZ x4)] σ (.inl (some (.int (nZ r6)))) σ2 ∧ G σ2 u ∧ inR r6 ∧ ((r6 = (-1) → L_X10_what_119 C sc P x1 x2 x3 x4 x5 1 σ2) ∧ (¬ (r6 = (-1)) → (inR (x5 + 1) ∧ L_X10_what_90 C sc P x1 x2 x3 x4 (x5 + 1) σ2))))))) :
    L_X10_what_90 C sc P x1 x2 x3 x4 x5 σ := by
  unfold L_X10_what_90
  refine w_iload dX10_what_90 (List.Mem.tail _ (List.Mem.tail _ (List.Mem.tail _ (List.Mem.tail _ (List.Mem.tail _ (List.Mem.head _)))))) ?_
  refine w_aload_n dX10_what_92 rfl (List.Mem.head _) ?_
  refine w_getR (ci := 10) (k := 11) (b := 80) dX10_what_93 fl_10_23 (by decide) (gT hG rfl (lt_of rfl)) (gR hG (b := 80) rfl) ?_
  refine w_iconst (v := nZ 0) dX10_what_96 (by decide) ?_
  refine i_iald (n := 8) dX10_what_97 (gT hG rfl (lt_of rfl)) (gL hG rfl) (by decide) (by decide) ?_
  refine i_cmp_ge (tgt := 199) dX10_what_98 rfl rx5 (rI_R _ _ _) (fun c9 => ?_) (fun c9 => ?_)
  · replace h := h.1 c9
    obtain ⟨q1, h⟩ := h
    refine w_iinc (v := nZ (x4 + 1)) (l' := [(4, .int (nZ (x4 + 1))), (0, .ref 76), (1, .int (nZ x1)), (2, .int (nZ x2)), (3, .int (nZ x3)), (5, .int (nZ x5))]) dX10_what_199 (List.Mem.tail _ (List.Mem.tail _ (List.Mem.tail _ (List.Mem.tail _ (List.Mem.head _))))) (nZ_add _ _) (by decide) rfl ?_
    refine w_goto (tgt := 76) dX10_what_202 rfl ?_
    exact w_weak (l' := [(0, .ref 76), (1, .int (nZ x1)), (2, .int (nZ x2)), (3, .int (nZ x3)), (4, .int (nZ (x4 + 1)))]) (by intro q hq; simp only [List.mem_cons, List.not_mem_nil, or_false] at hq ⊢; rcases hq with rfl | rfl | rfl | rfl | rfl <;> simp) h
  · replace h := h.2 c9
    refine w_aload_n dX10_what_101 rfl (List.Mem.head _) ?_
    refine w_iload dX10_what_102 (List.Mem.tail _ (List.Mem.tail _ (List.Mem.tail _ (List.Mem.tail _ (List.Mem.tail _ (List.Mem.head _)))))) ?_
    refine w_iload dX10_what_104 (List.Mem.tail _ (List.Mem.tail _ (List.Mem.tail _ (List.Mem.tail _ (List.Mem.head _))))) ?_
    obtain ⟨r6, σ2, hc4, hG3, rr5, h⟩ := h
    refine w_callV dX10_what_106 ml_10_245 ⟨ok_X10_stallOn, vi_X10_stallOn⟩ hs_X10_stallOn (As := [.int (nZ x5), .int (nZ x4)]) rfl rfl (gT hG rfl (lt_of rfl)) (Nat.le_of_ble_eq_true rfl) hc4 ?_
    show wp C 10 cX10_what 8 (some .int) false [] sc P 109 [(0, .ref 76), (1, .int (nZ x1)), (2, .int (nZ x2)), (3, .int (nZ x3)), (4, .int (nZ x4)), (5, .int (nZ x5))] [.int (nZ r6)] σ2
    refine w_iconst (v := nZ (-1)) dX10_what_109 (by decide) ?_
    refine i_cmp_eq (tgt := 116) dX10_what_110 rfl rr5 (by decide) (fun c9 => ?_) (fun c9 => ?_)
    · replace h := h.1 c9
      refine w_iconst (v := nZ 1) dX10_what_116 (by decide) ?_
      refine w_istore (l' := [(6, .int (nZ 1)), (0, .ref 76), (1, .int (nZ x1)), (2, .int (nZ x2)), (3, .int (nZ x3)), (4, .int (nZ x4)), (5, .int (nZ x5))]) dX10_what_117 (by decide) rfl ?_
      exact w_weak (l' := [(0, .ref 76), (1, .int (nZ x1)), (2, .int (nZ x2)), (3, .int (nZ x3)), (4, .int (nZ x4)), (5, .int (nZ x5)), (6, .int (nZ 1))]) (by intro q hq; simp only [List.mem_cons, List.not_mem_nil, or_false] at hq ⊢; rcases hq with rfl | rfl | rfl | rfl | rfl | rfl | rfl <;> simp) h
    · replace h := h.2 c9
      refine w_goto (tgt := 193) dX10_what_113 rfl ?_
      obtain ⟨q7, h⟩ := h
      refine w_iinc (v := nZ (x5 + 1)) (l' := [(5, .int (nZ (x5 + 1))), (0, .ref 76), (1, .int (nZ x1)), (2, .int (nZ x2)), (3, .int (nZ x3)), (4, .int (nZ x4))]) dX10_what_193 (List.Mem.tail _ (List.Mem.tail _ (List.Mem.tail _ (List.Mem.tail _ (List.Mem.tail _ (List.Mem.head _)))))) (nZ_add _ _) (by decide) rfl ?_
      refine w_goto (tgt := 90) dX10_what_196 rfl ?_
      exact w_weak (l' := [(0, .ref 76), (1, .int (nZ x1)), (2, .int (nZ x2)), (3, .int (nZ x3)), (4, .int (nZ x4)), (5, .int (nZ (x5 + 1)))]) (by intro q hq; simp only [List.mem_cons, List.not_mem_nil, or_false] at hq ⊢; rcases hq with rfl | rfl | rfl | rfl | rfl | rfl <;> simp) h
set_option maxRecDepth 10000 in
theorem v_X10_what_119 {C : aM → List Value → aH → aO → aH → Prop} {sc : Nat × (Nat → Int32)} {P : aO → aH → Prop} {σ : aH} {u : Nat}  {x1 : Int} {x2 : Int} {x3 : Int} {x4 : Int} {x5 : Int} {x6 : Int} (hG : G σ u) (rx1 : inR x1) (rx2 : inR x2) (rx3 : inR x3) (rx4 : inR x4) (rx5 : inR x5) (rx6 : inR x6)
    (h : ((60 < x6 → (inR (x5 + 1) ∧ L_X10_what_90 C sc P x1 x2 x3 x4 (x5 + 1) σ)) ∧ (¬ (60 < x6) → (∃ σ2 : aH, C mX10_adds [.ref 76, .int (nZ x5), .int (nZ x4), .int (nZ x6)] σ (.inl none) σ2 ∧ G σ2 u ∧ (∃ (r10 : Int) (σ6 : aH), C mX10_explains [.ref 76] σ2 (.inl (some (.int (nZ r10)))) σ6 ∧ G σ6 u ∧ inR r10 ∧ (inR ((rI σ6 76 28) - 1) ∧ (∀ σ12 : aH, wI σ6 76 28 ((rI σ6 76 28) - 1) = σ12 → ((¬ r10 = 0 → ((¬ x3 = (-1) → (inR (x2 + 1) ∧ (inR (x6 + 1) ∧ L_X10_what_119 C sc P x1 (x2 + 1) x3 x4 x5 (x6 + 1) σ12))) ∧ (x3 = (-1) → (inR (100 * x6) ∧ (inR ((100 * x6) + x5) ∧ (inR (10 * x4) ∧ (inR (((100 * x6) + x5) + (10 * x4)) ∧ (∀ z21 : Int, z21 = (((100 * x6) + x5) + (10 * x4)) → (inR (x2 + 1) ∧ (inR (x6 + 1) ∧ L_X10_what_119 C sc P x1 (x2 + 1) z21 x4 x5 (x6 + 1) σ12)))))))))) ∧ (r10 = 0 → (inR (x6 + 1) ∧ L_X10_what_119 C sc P x1 x2 x3 x4 x5 (x6 + 1) σ12)))))))))) :
    L_X10_what_119 C sc P x1 x2 x3 x4 x5 x6 σ := by
  unfold L_X10_what_119
  refine w_iload dX10_what_119 (List.Mem.tail _ (List.Mem.tail _ (List.Mem.tail _ (List.Mem.tail _ (List.Mem.tail _ (List.Mem.tail _ (List.Mem.head _))))))) ?_
  refine w_bipush (v := nZ 60) dX10_what_121 (by decide) ?_
  refine i_cmp_gt (tgt := 193) dX10_what_123 rfl rx6 (by decide) (fun c9 => ?_) (fun c9 => ?_)
  · replace h := h.1 c9
    obtain ⟨q1, h⟩ := h
    refine w_iinc (v := nZ (x5 + 1)) (l' := [(5, .int (nZ (x5 + 1))), (0, .ref 76), (1, .int (nZ x1)), (2, .int (nZ x2)), (3, .int (nZ x3)), (4, .int (nZ x4)), (6, .int (nZ x6))]) dX10_what_193 (List.Mem.tail _ (List.Mem.tail _ (List.Mem.tail _ (List.Mem.tail _ (List.Mem.tail _ (List.Mem.head _)))))) (nZ_add _ _) (by decide) rfl ?_
    refine w_goto (tgt := 90) dX10_what_196 rfl ?_
    exact w_weak (l' := [(0, .ref 76), (1, .int (nZ x1)), (2, .int (nZ x2)), (3, .int (nZ x3)), (4, .int (nZ x4)), (5, .int (nZ (x5 + 1)))]) (by intro q hq; simp only [List.mem_cons, List.not_mem_nil, or_false] at hq ⊢; rcases hq with rfl | rfl | rfl | rfl | rfl | rfl <;> simp) h
  · replace h := h.2 c9
    refine w_aload_n dX10_what_126 rfl (List.Mem.head _) ?_
    refine w_iload dX10_what_127 (List.Mem.tail _ (List.Mem.tail _ (List.Mem.tail _ (List.Mem.tail _ (List.Mem.tail _ (List.Mem.head _)))))) ?_
    refine w_iload dX10_what_129 (List.Mem.tail _ (List.Mem.tail _ (List.Mem.tail _ (List.Mem.tail _ (List.Mem.head _))))) ?_
    refine w_iload dX10_what_131 (List.Mem.tail _ (List.Mem.tail _ (List.Mem.tail _ (List.Mem.tail _ (List.Mem.tail _ (List.Mem.tail _ (List.Mem.head _))))))) ?_
    obtain ⟨σ2, hc4, hG3, h⟩ := h
    refine w_callV dX10_what_133 ml_10_312 ⟨ok_X10_adds, vi_X10_adds⟩ hs_X10_adds (As := [.int (nZ x5), .int (nZ x4), .int (nZ x6)]) rfl rfl (gT hG rfl (lt_of rfl)) (Nat.le_of_ble_eq_true rfl) hc4 ?_
    show wp C 10 cX10_what 8 (some .int) false [] sc P 136 [(0, .ref 76), (1, .int (nZ x1)), (2, .int (nZ x2)), (3, .int (nZ x3)), (4, .int (nZ x4)), (5, .int (nZ x5)), (6, .int (nZ x6))] [] σ2
    refine w_aload_n dX10_what_136 rfl (List.Mem.head _) ?_
    obtain ⟨r10, σ6, hc8, hG7, rr9, h⟩ := h
    refine w_callV dX10_what_137 ml_10_327 ⟨ok_X10_explains, vi_X10_explains⟩ hs_X10_explains (As := []) rfl rfl (gT hG3 rfl (lt_of rfl)) (Nat.le_of_ble_eq_true rfl) hc8 ?_
    show wp C 10 cX10_what 8 (some .int) false [] sc P 140 [(0, .ref 76), (1, .int (nZ x1)), (2, .int (nZ x2)), (3, .int (nZ x3)), (4, .int (nZ x4)), (5, .int (nZ x5)), (6, .int (nZ x6))] [.int (nZ r10)] σ6
    refine w_istore (l' := [(7, .int (nZ r10)), (0, .ref 76), (1, .int (nZ x1)), (2, .int (nZ x2)), (3, .int (nZ x3)), (4, .int (nZ x4)), (5, .int (nZ x5)), (6, .int (nZ x6))]) dX10_what_140 (by decide) rfl ?_
    refine w_aload_n dX10_what_142 rfl (List.Mem.tail _ (List.Mem.head _)) ?_
    refine w_dup dX10_what_143 rfl ?_
    refine i_getI (ci := 10) 28 rfl dX10_what_144 fl_10_218 (by decide) (gT hG7 rfl (lt_of rfl)) ?_
    refine w_iconst (v := nZ 1) dX10_what_147 (by decide) ?_
    obtain ⟨q11, h⟩ := h
    refine i_sub dX10_what_148 ?_
    refine i_putI (ci := 10) 28 rfl dX10_what_149 fl_10_218 (by decide) (gT hG7 rfl (lt_of rfl)) (fun σ12 eσ13 => ?_)
    replace h := h σ12 eσ13
    have hG14 : G σ12 u := eσ13 ▸ G.wI hG7
    refine w_iload dX10_what_152 (List.Mem.head _) ?_
    refine i_if_ne (tgt := 160) dX10_what_154 rfl rr9 (fun c9 => ?_) (fun c9 => ?_)
    · replace h := h.1 c9
      refine w_iload_n dX10_what_160 rfl (List.Mem.tail _ (List.Mem.tail _ (List.Mem.tail _ (List.Mem.tail _ (List.Mem.head _))))) ?_
      refine w_iconst (v := nZ (-1)) dX10_what_161 (by decide) ?_
      refine i_cmp_ne (tgt := 182) dX10_what_162 rfl rx3 (by decide) (fun c9 => ?_) (fun c9 => ?_)
      · replace h := h.1 c9
        refine w_iload_n dX10_what_182 rfl (List.Mem.tail _ (List.Mem.tail _ (List.Mem.tail _ (List.Mem.tail _ (List.Mem.head _))))) ?_
        refine w_istore_n (l' := [(3, .int (nZ x3)), (7, .int (nZ r10)), (0, .ref 76), (1, .int (nZ x1)), (2, .int (nZ x2)), (4, .int (nZ x4)), (5, .int (nZ x5)), (6, .int (nZ x6))]) dX10_what_183 rfl (by decide) rfl ?_
        obtain ⟨q15, h⟩ := h
        refine w_iinc (v := nZ (x2 + 1)) (l' := [(2, .int (nZ (x2 + 1))), (3, .int (nZ x3)), (7, .int (nZ r10)), (0, .ref 76), (1, .int (nZ x1)), (4, .int (nZ x4)), (5, .int (nZ x5)), (6, .int (nZ x6))]) dX10_what_184 (List.Mem.tail _ (List.Mem.tail _ (List.Mem.tail _ (List.Mem.tail _ (List.Mem.head _))))) (nZ_add _ _) (by decide) rfl ?_
        obtain ⟨q16, h⟩ := h
        refine w_iinc (v := nZ (x6 + 1)) (l' := [(6, .int (nZ (x6 + 1))), (2, .int (nZ (x2 + 1))), (3, .int (nZ x3)), (7, .int (nZ r10)), (0, .ref 76), (1, .int (nZ x1)), (4, .int (nZ x4)), (5, .int (nZ x5))]) dX10_what_187 (List.Mem.tail _ (List.Mem.tail _ (List.Mem.tail _ (List.Mem.tail _ (List.Mem.tail _ (List.Mem.tail _ (List.Mem.tail _ (List.Mem.head _)))))))) (nZ_add _ _) (by decide) rfl ?_
        refine w_goto (tgt := 119) dX10_what_190 rfl ?_
        exact w_weak (l' := [(0, .ref 76), (1, .int (nZ x1)), (2, .int (nZ (x2 + 1))), (3, .int (nZ x3)), (4, .int (nZ x4)), (5, .int (nZ x5)), (6, .int (nZ (x6 + 1)))]) (by intro q hq; simp only [List.mem_cons, List.not_mem_nil, or_false] at hq ⊢; rcases hq with rfl | rfl | rfl | rfl | rfl | rfl | rfl <;> simp) h
      · replace h := h.2 c9
        refine w_bipush (v := nZ 100) dX10_what_165 (by decide) ?_
        refine w_iload dX10_what_167 (List.Mem.tail _ (List.Mem.tail _ (List.Mem.tail _ (List.Mem.tail _ (List.Mem.tail _ (List.Mem.tail _ (List.Mem.tail _ (List.Mem.head _)))))))) ?_
        obtain ⟨q17, h⟩ := h
        refine i_mul dX10_what_169 ?_
        refine w_iload dX10_what_170 (List.Mem.tail _ (List.Mem.tail _ (List.Mem.tail _ (List.Mem.tail _ (List.Mem.tail _ (List.Mem.tail _ (List.Mem.head _))))))) ?_
        obtain ⟨q18, h⟩ := h
        refine i_add dX10_what_172 ?_
        refine w_bipush (v := nZ 10) dX10_what_173 (by decide) ?_
        refine w_iload dX10_what_175 (List.Mem.tail _ (List.Mem.tail _ (List.Mem.tail _ (List.Mem.tail _ (List.Mem.tail _ (List.Mem.head _)))))) ?_
        obtain ⟨q19, h⟩ := h
        refine i_mul dX10_what_177 ?_
        obtain ⟨q20, h⟩ := h
        refine i_add dX10_what_178 ?_
        refine w_goto (tgt := 183) dX10_what_179 rfl ?_
        refine top_i (fun z21 ez22 => ?_)
        have rz23 : inR z21 := ez22 ▸ q20
        replace h := h z21 ez22
        refine w_istore_n (l' := [(3, .int (nZ z21)), (7, .int (nZ r10)), (0, .ref 76), (1, .int (nZ x1)), (2, .int (nZ x2)), (4, .int (nZ x4)), (5, .int (nZ x5)), (6, .int (nZ x6))]) dX10_what_183 rfl (by decide) rfl ?_
        obtain ⟨q24, h⟩ := h
        refine w_iinc (v := nZ (x2 + 1)) (l' := [(2, .int (nZ (x2 + 1))), (3, .int (nZ z21)), (7, .int (nZ r10)), (0, .ref 76), (1, .int (nZ x1)), (4, .int (nZ x4)), (5, .int (nZ x5)), (6, .int (nZ x6))]) dX10_what_184 (List.Mem.tail _ (List.Mem.tail _ (List.Mem.tail _ (List.Mem.tail _ (List.Mem.head _))))) (nZ_add _ _) (by decide) rfl ?_
        obtain ⟨q25, h⟩ := h
        refine w_iinc (v := nZ (x6 + 1)) (l' := [(6, .int (nZ (x6 + 1))), (2, .int (nZ (x2 + 1))), (3, .int (nZ z21)), (7, .int (nZ r10)), (0, .ref 76), (1, .int (nZ x1)), (4, .int (nZ x4)), (5, .int (nZ x5))]) dX10_what_187 (List.Mem.tail _ (List.Mem.tail _ (List.Mem.tail _ (List.Mem.tail _ (List.Mem.tail _ (List.Mem.tail _ (List.Mem.tail _ (List.Mem.head _)))))))) (nZ_add _ _) (by decide) rfl ?_
        refine w_goto (tgt := 119) dX10_what_190 rfl ?_
        exact w_weak (l' := [(0, .ref 76), (1, .int (nZ x1)), (2, .int (nZ (x2 + 1))), (3, .int (nZ z21)), (4, .int (nZ x4)), (5, .int (nZ x5)), (6, .int (nZ (x6 + 1)))]) (by intro q hq; simp only [List.mem_cons, List.not_mem_nil, or_false] at hq ⊢; rcases hq with rfl | rfl | rfl | rfl | rfl | rfl | rfl <;> simp) h
    · replace h := h.2 c9
      refine w_goto (tgt := 187) dX10_what_157 rfl ?_
      obtain ⟨q26, h⟩ := h
      refine w_iinc (v := nZ (x6 + 1)) (l' := [(6, .int (nZ (x6 + 1))), (7, .int (nZ r10)), (0, .ref 76), (1, .int (nZ x1)), (2, .int (nZ x2)), (3, .int (nZ x3)), (4, .int (nZ x4)), (5, .int (nZ x5))]) dX10_what_187 (List.Mem.tail _ (List.Mem.tail _ (List.Mem.tail _ (List.Mem.tail _ (List.Mem.tail _ (List.Mem.tail _ (List.Mem.tail _ (List.Mem.head _)))))))) (nZ_add _ _) (by decide) rfl ?_
      refine w_goto (tgt := 119) dX10_what_190 rfl ?_
      exact w_weak (l' := [(0, .ref 76), (1, .int (nZ x1)), (2, .int (nZ x2)), (3, .int (nZ x3)), (4, .int (nZ x4)), (5, .int (nZ x5)), (6, .int (nZ (x6 + 1)))]) (by intro q hq; simp only [List.mem_cons, List.not_mem_nil, or_false] at hq ⊢; rcases hq with rfl | rfl | rfl | rfl | rfl | rfl | rfl <;> simp) h
theorem dX10_grows_0 : decode cX10_grows 0 = .ok (.iconst 0, 1) := by decide +kernel
theorem dX10_grows_1 : decode cX10_grows 1 = .ok (.istore_n 1, 1) := by decide +kernel
theorem dX10_grows_2 : decode cX10_grows 2 = .ok (.iload_n 1, 1) := by decide +kernel
theorem dX10_grows_3 : decode cX10_grows 3 = .ok (.aload_n 0, 1) := by decide +kernel
theorem dX10_grows_4 : decode cX10_grows 4 = .ok (.getfield 23, 3) := by decide +kernel
theorem dX10_grows_7 : decode cX10_grows 7 = .ok (.iconst 2, 1) := by decide +kernel
theorem dX10_grows_8 : decode cX10_grows 8 = .ok (.iaload, 1) := by decide +kernel
theorem dX10_grows_9 : decode cX10_grows 9 = .ok (.if_icmp .ge 92, 3) := by decide +kernel
theorem dX10_grows_12 : decode cX10_grows 12 = .ok (.aload_n 0, 1) := by decide +kernel
theorem dX10_grows_13 : decode cX10_grows 13 = .ok (.getfield 31, 3) := by decide +kernel
theorem dX10_grows_16 : decode cX10_grows 16 = .ok (.iload_n 1, 1) := by decide +kernel
theorem dX10_grows_17 : decode cX10_grows 17 = .ok (.aaload, 1) := by decide +kernel
theorem dX10_grows_18 : decode cX10_grows 18 = .ok (.iconst 2, 1) := by decide +kernel
theorem dX10_grows_19 : decode cX10_grows 19 = .ok (.iaload, 1) := by decide +kernel
theorem dX10_grows_20 : decode cX10_grows 20 = .ok (.aload_n 0, 1) := by decide +kernel
theorem dX10_grows_21 : decode cX10_grows 21 = .ok (.getfield 31, 3) := by decide +kernel
theorem dX10_grows_24 : decode cX10_grows 24 = .ok (.iload_n 1, 1) := by decide +kernel
theorem dX10_grows_25 : decode cX10_grows 25 = .ok (.aaload, 1) := by decide +kernel
theorem dX10_grows_26 : decode cX10_grows 26 = .ok (.iconst 5, 1) := by decide +kernel
theorem dX10_grows_27 : decode cX10_grows 27 = .ok (.iaload, 1) := by decide +kernel
theorem dX10_grows_28 : decode cX10_grows 28 = .ok (.if_icmp .ge 67, 3) := by decide +kernel
theorem dX10_grows_31 : decode cX10_grows 31 = .ok (.aload_n 0, 1) := by decide +kernel
theorem dX10_grows_32 : decode cX10_grows 32 = .ok (.getfield 31, 3) := by decide +kernel
theorem dX10_grows_35 : decode cX10_grows 35 = .ok (.iload_n 1, 1) := by decide +kernel
theorem dX10_grows_36 : decode cX10_grows 36 = .ok (.aaload, 1) := by decide +kernel
theorem dX10_grows_37 : decode cX10_grows 37 = .ok (.iconst 2, 1) := by decide +kernel
theorem dX10_grows_38 : decode cX10_grows 38 = .ok (.aload_n 0, 1) := by decide +kernel
theorem dX10_grows_39 : decode cX10_grows 39 = .ok (.getfield 31, 3) := by decide +kernel
theorem dX10_grows_42 : decode cX10_grows 42 = .ok (.iload_n 1, 1) := by decide +kernel
theorem dX10_grows_43 : decode cX10_grows 43 = .ok (.aaload, 1) := by decide +kernel
theorem dX10_grows_44 : decode cX10_grows 44 = .ok (.iconst 2, 1) := by decide +kernel
theorem dX10_grows_45 : decode cX10_grows 45 = .ok (.iaload, 1) := by decide +kernel
theorem dX10_grows_46 : decode cX10_grows 46 = .ok (.aload_n 0, 1) := by decide +kernel
theorem dX10_grows_47 : decode cX10_grows 47 = .ok (.getfield 31, 3) := by decide +kernel
theorem dX10_grows_50 : decode cX10_grows 50 = .ok (.iload_n 1, 1) := by decide +kernel
theorem dX10_grows_51 : decode cX10_grows 51 = .ok (.aaload, 1) := by decide +kernel
theorem dX10_grows_52 : decode cX10_grows 52 = .ok (.iconst 4, 1) := by decide +kernel
theorem dX10_grows_53 : decode cX10_grows 53 = .ok (.iaload, 1) := by decide +kernel
theorem dX10_grows_54 : decode cX10_grows 54 = .ok (.iadd, 1) := by decide +kernel
theorem dX10_grows_55 : decode cX10_grows 55 = .ok (.aload_n 0, 1) := by decide +kernel
theorem dX10_grows_56 : decode cX10_grows 56 = .ok (.getfield 31, 3) := by decide +kernel
theorem dX10_grows_59 : decode cX10_grows 59 = .ok (.iload_n 1, 1) := by decide +kernel
theorem dX10_grows_60 : decode cX10_grows 60 = .ok (.aaload, 1) := by decide +kernel
theorem dX10_grows_61 : decode cX10_grows 61 = .ok (.iconst 5, 1) := by decide +kernel
theorem dX10_grows_62 : decode cX10_grows 62 = .ok (.iaload, 1) := by decide +kernel
theorem dX10_grows_63 : decode cX10_grows 63 = .ok (.if_icmp .ge 23, 3) := by decide +kernel
theorem dX10_grows_66 : decode cX10_grows 66 = .ok (.aload_n 0, 1) := by decide +kernel
theorem dX10_grows_67 : decode cX10_grows 67 = .ok (.getfield 31, 3) := by decide +kernel
theorem dX10_grows_70 : decode cX10_grows 70 = .ok (.iload_n 1, 1) := by decide +kernel
theorem dX10_grows_71 : decode cX10_grows 71 = .ok (.aaload, 1) := by decide +kernel
theorem dX10_grows_72 : decode cX10_grows 72 = .ok (.iconst 2, 1) := by decide +kernel
theorem dX10_grows_73 : decode cX10_grows 73 = .ok (.iaload, 1) := by decide +kernel
theorem dX10_grows_74 : decode cX10_grows 74 = .ok (.aload_n 0, 1) := by decide +kernel
theorem dX10_grows_75 : decode cX10_grows 75 = .ok (.getfield 31, 3) := by decide +kernel
theorem dX10_grows_78 : decode cX10_grows 78 = .ok (.iload_n 1, 1) := by decide +kernel
theorem dX10_grows_79 : decode cX10_grows 79 = .ok (.aaload, 1) := by decide +kernel
theorem dX10_grows_80 : decode cX10_grows 80 = .ok (.iconst 4, 1) := by decide +kernel
theorem dX10_grows_81 : decode cX10_grows 81 = .ok (.iaload, 1) := by decide +kernel
theorem dX10_grows_82 : decode cX10_grows 82 = .ok (.iadd, 1) := by decide +kernel
theorem dX10_grows_83 : decode cX10_grows 83 = .ok (.goto 11, 3) := by decide +kernel
theorem dX10_grows_86 : decode cX10_grows 86 = .ok (.aload_n 0, 1) := by decide +kernel
theorem dX10_grows_87 : decode cX10_grows 87 = .ok (.getfield 31, 3) := by decide +kernel
theorem dX10_grows_90 : decode cX10_grows 90 = .ok (.iload_n 1, 1) := by decide +kernel
theorem dX10_grows_91 : decode cX10_grows 91 = .ok (.aaload, 1) := by decide +kernel
theorem dX10_grows_92 : decode cX10_grows 92 = .ok (.iconst 5, 1) := by decide +kernel
theorem dX10_grows_93 : decode cX10_grows 93 = .ok (.iaload, 1) := by decide +kernel
theorem dX10_grows_94 : decode cX10_grows 94 = .ok (.iastore, 1) := by decide +kernel
theorem dX10_grows_95 : decode cX10_grows 95 = .ok (.iinc 1 1, 3) := by decide +kernel
theorem dX10_grows_98 : decode cX10_grows 98 = .ok (.goto (-96), 3) := by decide +kernel
theorem dX10_grows_101 : decode cX10_grows 101 = .ok (.return_, 1) := by decide +kernel
def L_X10_grows_2 (C : aM → List Value → aH → aO → aH → Prop) (sc : Nat × (Nat → Int32)) (P : aO → aH → Prop) (x1 : Int) (σ : aH) : Prop :=
    wp C 10 cX10_grows 2 none false [] sc P 2 [(0, .ref 76), (1, .int (nZ x1))] [] σ
set_option maxRecDepth 10000 in
theorem t_X10_grows {sc : Nat × (Nat → Int32)} {d : Nat} {Q : aO → aH → Prop} {σ : aH} {u : Nat}   (hG : G σ u) 
    (h : L_X10_grows_2 (Ev sc d) sc Q 0 σ) :
    T sc (d + 1) mX10_grows [.ref 76] σ Q := by
  refine T.of (c := 10) (code := cX10_grows) (mL := 2) (rt := none) (ini := false) (l := [(0, .ref 76)]) rfl rfl rfl rfl (by decide) hs_X10_grows rfl rfl ?_
  refine w_iconst (v := nZ 0) dX10_grows_0 (by decide) ?_
  refine w_istore_n (l' := [(1, .int (nZ 0)), (0, .ref 76)]) dX10_grows_1 rfl (by decide) rfl ?_
  exact w_weak (l' := [(0, .ref 76), (1, .int (nZ 0))]) (by intro q hq; simp only [List.mem_cons, List.not_mem_nil, or_false] at hq ⊢; rcases hq with rfl | rfl <;> simp) h
set_option maxRecDepth 10000 in
theorem v_X10_grows_2 {C : aM → List Value → aH → aO → aH → Prop} {sc : Nat × (Nat → Int32)} {P : aO → aH → Prop} {σ : aH} {u : Nat}  {x1 : Int} (hG : G σ u) (rx1 : inR x1)
    (h : (((rI σ 80 2) ≤ x1 → P (.inl none) σ) ∧ (¬ ((rI σ 80 2) ≤ x1) → ((0 ≤ x1 ∧ x1 < 9) ∧ ((0 ≤ x1 ∧ x1 < 9) ∧ (((rI σ (91 + x1.toNat) 5) ≤ (rI σ (91 + x1.toNat) 2) → (inR (x1 + 1) ∧ L_X10_grows_2 C sc P (x1 + 1) σ)) ∧ (¬ ((rI σ (91 + x1.toNat) 5) ≤ (rI σ (91 + x1.toNat) 2)) → ((0 ≤ x1 ∧ x1 < 9) ∧ ((0 ≤ x1 ∧ x1 < 9) ∧ ((0 ≤ x1 ∧ x1 < 9) ∧ (inR ((rI σ (91 + x1.toNat) 2) + (rI σ (91 + x1.toNat) 4)) ∧ ((0 ≤ x1 ∧ x1 < 9) ∧ (((rI σ (91 + x1.toNat) 5) ≤ ((rI σ (91 + x1.toNat) 2) + (rI σ (91 + x1.toNat) 4)) → ((0 ≤ x1 ∧ x1 < 9) ∧ (∀ σ10 : aH, wI σ (91 + x1.toNat) 2 (rI σ (91 + x1.toNat) 5) = σ10 → (inR (x1 + 1) ∧ L_X10_grows_2 C sc P (x1 + 1) σ10)))) ∧ (¬ ((rI σ (91 + x1.toNat) 5) ≤ ((rI σ (91 + x1.toNat) 2) + (rI σ (91 + x1.toNat) 4))) → ((0 ≤ x1 ∧ x1 < 9) ∧ ((0 ≤ x1 ∧ x1 < 9) ∧ (inR ((rI σ (91 + x1.toNat) 2) + (rI σ (91 + x1.toNat) 4)) ∧ (∀ σ17 : aH, wI σ (91 + x1.toNat) 2 ((rI σ (91 + x1.toNat) 2) + (rI σ (91 + x1.toNat) 4)) = σ17 → (inR (x1 + 1) ∧ L_X10_grows_2 C sc P (x1 + 1) σ17))))))))))))))))))) :
    L_X10_grows_2 C sc P x1 σ := by
  unfold L_X10_grows_2
  refine w_iload_n dX10_grows_2 rfl (List.Mem.tail _ (List.Mem.head _)) ?_
  refine w_aload_n dX10_grows_3 rfl (List.Mem.head _) ?_
  refine w_getR (ci := 10) (k := 11) (b := 80) dX10_grows_4 fl_10_23 (by decide) (gT hG rfl (lt_of rfl)) (gR hG (b := 80) rfl) ?_
  refine w_iconst (v := nZ 2) dX10_grows_7 (by decide) ?_
  refine i_iald (n := 8) dX10_grows_8 (gT hG rfl (lt_of rfl)) (gL hG rfl) (by decide) (by decide) ?_
  refine i_cmp_ge (tgt := 101) dX10_grows_9 rfl rx1 (rI_R _ _ _) (fun c9 => ?_) (fun c9 => ?_)
  · replace h := h.1 c9
    exact w_vret dX10_grows_101 rfl h
  · replace h := h.2 c9
    refine w_aload_n dX10_grows_12 rfl (List.Mem.head _) ?_
    refine w_getR (ci := 10) (k := 13) (b := 90) dX10_grows_13 fl_10_31 (by decide) (gT hG rfl (lt_of rfl)) (gR hG (b := 90) rfl) ?_
    refine w_iload_n dX10_grows_16 rfl (List.Mem.tail _ (List.Mem.head _)) ?_
    obtain ⟨h9, h⟩ := h
    have hj1 := vin_lt2 (n := 9) h9 rfl
    refine i_aald (n := 9) (b := (91 + x1.toNat)) dX10_grows_17 (gT hG rfl (lt_of rfl)) (gL hG rfl) rx1 h9 (gR hG (rr_90 hj1)) ?_
    refine w_iconst (v := nZ 2) dX10_grows_18 (by decide) ?_
    refine i_iald (n := 7) dX10_grows_19 (gT hG (ro_90 _ hj1).1 (by have := hj1; omega)) (gL hG (ro_90 _ hj1).2) (by decide) (by decide) ?_
    refine w_aload_n dX10_grows_20 rfl (List.Mem.head _) ?_
    refine w_getR (ci := 10) (k := 13) (b := 90) dX10_grows_21 fl_10_31 (by decide) (gT hG rfl (lt_of rfl)) (gR hG (b := 90) rfl) ?_
    refine w_iload_n dX10_grows_24 rfl (List.Mem.tail _ (List.Mem.head _)) ?_
    obtain ⟨h9, h⟩ := h
    have hj2 := vin_lt2 (n := 9) h9 rfl
    refine i_aald (n := 9) (b := (91 + x1.toNat)) dX10_grows_25 (gT hG rfl (lt_of rfl)) (gL hG rfl) rx1 h9 (gR hG (rr_90 hj2)) ?_
    refine w_iconst (v := nZ 5) dX10_grows_26 (by decide) ?_
    refine i_iald (n := 7) dX10_grows_27 (gT hG (ro_90 _ hj2).1 (by have := hj2; omega)) (gL hG (ro_90 _ hj2).2) (by decide) (by decide) ?_
    refine i_cmp_ge (tgt := 95) dX10_grows_28 rfl (rI_R _ _ _) (rI_R _ _ _) (fun c9 => ?_) (fun c9 => ?_)
    · replace h := h.1 c9
      obtain ⟨q3, h⟩ := h
      refine w_iinc (v := nZ (x1 + 1)) (l' := [(1, .int (nZ (x1 + 1))), (0, .ref 76)]) dX10_grows_95 (List.Mem.tail _ (List.Mem.head _)) (nZ_add _ _) (by decide) rfl ?_
      refine w_goto (tgt := 2) dX10_grows_98 rfl ?_
      exact w_weak (l' := [(0, .ref 76), (1, .int (nZ (x1 + 1)))]) (by intro q hq; simp only [List.mem_cons, List.not_mem_nil, or_false] at hq ⊢; rcases hq with rfl | rfl <;> simp) h
    · replace h := h.2 c9
      refine w_aload_n dX10_grows_31 rfl (List.Mem.head _) ?_
      refine w_getR (ci := 10) (k := 13) (b := 90) dX10_grows_32 fl_10_31 (by decide) (gT hG rfl (lt_of rfl)) (gR hG (b := 90) rfl) ?_
      refine w_iload_n dX10_grows_35 rfl (List.Mem.tail _ (List.Mem.head _)) ?_
      obtain ⟨h9, h⟩ := h
      have hj4 := vin_lt2 (n := 9) h9 rfl
      refine i_aald (n := 9) (b := (91 + x1.toNat)) dX10_grows_36 (gT hG rfl (lt_of rfl)) (gL hG rfl) rx1 h9 (gR hG (rr_90 hj4)) ?_
      refine w_iconst (v := nZ 2) dX10_grows_37 (by decide) ?_
      refine w_aload_n dX10_grows_38 rfl (List.Mem.head _) ?_
      refine w_getR (ci := 10) (k := 13) (b := 90) dX10_grows_39 fl_10_31 (by decide) (gT hG rfl (lt_of rfl)) (gR hG (b := 90) rfl) ?_
      refine w_iload_n dX10_grows_42 rfl (List.Mem.tail _ (List.Mem.head _)) ?_
      obtain ⟨h9, h⟩ := h
      have hj5 := vin_lt2 (n := 9) h9 rfl
      refine i_aald (n := 9) (b := (91 + x1.toNat)) dX10_grows_43 (gT hG rfl (lt_of rfl)) (gL hG rfl) rx1 h9 (gR hG (rr_90 hj5)) ?_
      refine w_iconst (v := nZ 2) dX10_grows_44 (by decide) ?_
      refine i_iald (n := 7) dX10_grows_45 (gT hG (ro_90 _ hj5).1 (by have := hj5; omega)) (gL hG (ro_90 _ hj5).2) (by decide) (by decide) ?_
      refine w_aload_n dX10_grows_46 rfl (List.Mem.head _) ?_
      refine w_getR (ci := 10) (k := 13) (b := 90) dX10_grows_47 fl_10_31 (by decide) (gT hG rfl (lt_of rfl)) (gR hG (b := 90) rfl) ?_
      refine w_iload_n dX10_grows_50 rfl (List.Mem.tail _ (List.Mem.head _)) ?_
      obtain ⟨h9, h⟩ := h
      have hj6 := vin_lt2 (n := 9) h9 rfl
      refine i_aald (n := 9) (b := (91 + x1.toNat)) dX10_grows_51 (gT hG rfl (lt_of rfl)) (gL hG rfl) rx1 h9 (gR hG (rr_90 hj6)) ?_
      refine w_iconst (v := nZ 4) dX10_grows_52 (by decide) ?_
      refine i_iald (n := 7) dX10_grows_53 (gT hG (ro_90 _ hj6).1 (by have := hj6; omega)) (gL hG (ro_90 _ hj6).2) (by decide) (by decide) ?_
      obtain ⟨q7, h⟩ := h
      refine i_add dX10_grows_54 ?_
      refine w_aload_n dX10_grows_55 rfl (List.Mem.head _) ?_
      refine w_getR (ci := 10) (k := 13) (b := 90) dX10_grows_56 fl_10_31 (by decide) (gT hG rfl (lt_of rfl)) (gR hG (b := 90) rfl) ?_
      refine w_iload_n dX10_grows_59 rfl (List.Mem.tail _ (List.Mem.head _)) ?_
      obtain ⟨h9, h⟩ := h
      have hj8 := vin_lt2 (n := 9) h9 rfl
      refine i_aald (n := 9) (b := (91 + x1.toNat)) dX10_grows_60 (gT hG rfl (lt_of rfl)) (gL hG rfl) rx1 h9 (gR hG (rr_90 hj8)) ?_
      refine w_iconst (v := nZ 5) dX10_grows_61 (by decide) ?_
      refine i_iald (n := 7) dX10_grows_62 (gT hG (ro_90 _ hj8).1 (by have := hj8; omega)) (gL hG (ro_90 _ hj8).2) (by decide) (by decide) ?_
      refine i_cmp_ge (tgt := 86) dX10_grows_63 rfl q7 (rI_R _ _ _) (fun c9 => ?_) (fun c9 => ?_)
      · replace h := h.1 c9
        refine w_aload_n dX10_grows_86 rfl (List.Mem.head _) ?_
        refine w_getR (ci := 10) (k := 13) (b := 90) dX10_grows_87 fl_10_31 (by decide) (gT hG rfl (lt_of rfl)) (gR hG (b := 90) rfl) ?_
        refine w_iload_n dX10_grows_90 rfl (List.Mem.tail _ (List.Mem.head _)) ?_
        obtain ⟨h9, h⟩ := h
        have hj9 := vin_lt2 (n := 9) h9 rfl
        refine i_aald (n := 9) (b := (91 + x1.toNat)) dX10_grows_91 (gT hG rfl (lt_of rfl)) (gL hG rfl) rx1 h9 (gR hG (rr_90 hj9)) ?_
        refine w_iconst (v := nZ 5) dX10_grows_92 (by decide) ?_
        refine i_iald (n := 7) dX10_grows_93 (gT hG (ro_90 _ hj9).1 (by have := hj9; omega)) (gL hG (ro_90 _ hj9).2) (by decide) (by decide) ?_
        refine i_iast (n := 7) dX10_grows_94 (gT hG (ro_90 _ hj4).1 (by have := hj4; omega)) (gL hG (ro_90 _ hj4).2) (by decide) (by decide) (fun σ10 eσ11 => ?_)
        replace h := h σ10 eσ11
        have hG12 : G σ10 u := eσ11 ▸ G.wI hG
        obtain ⟨q13, h⟩ := h
        refine w_iinc (v := nZ (x1 + 1)) (l' := [(1, .int (nZ (x1 + 1))), (0, .ref 76)]) dX10_grows_95 (List.Mem.tail _ (List.Mem.head _)) (nZ_add _ _) (by decide) rfl ?_
        refine w_goto (tgt := 2) dX10_grows_98 rfl ?_
        exact w_weak (l' := [(0, .ref 76), (1, .int (nZ (x1 + 1)))]) (by intro q hq; simp only [List.mem_cons, List.not_mem_nil, or_false] at hq ⊢; rcases hq with rfl | rfl <;> simp) h
      · replace h := h.2 c9
        refine w_aload_n dX10_grows_66 rfl (List.Mem.head _) ?_
        refine w_getR (ci := 10) (k := 13) (b := 90) dX10_grows_67 fl_10_31 (by decide) (gT hG rfl (lt_of rfl)) (gR hG (b := 90) rfl) ?_
        refine w_iload_n dX10_grows_70 rfl (List.Mem.tail _ (List.Mem.head _)) ?_
        obtain ⟨h9, h⟩ := h
        have hj14 := vin_lt2 (n := 9) h9 rfl
        refine i_aald (n := 9) (b := (91 + x1.toNat)) dX10_grows_71 (gT hG rfl (lt_of rfl)) (gL hG rfl) rx1 h9 (gR hG (rr_90 hj14)) ?_
        refine w_iconst (v := nZ 2) dX10_grows_72 (by decide) ?_
        refine i_iald (n := 7) dX10_grows_73 (gT hG (ro_90 _ hj14).1 (by have := hj14; omega)) (gL hG (ro_90 _ hj14).2) (by decide) (by decide) ?_
        refine w_aload_n dX10_grows_74 rfl (List.Mem.head _) ?_
        refine w_getR (ci := 10) (k := 13) (b := 90) dX10_grows_75 fl_10_31 (by decide) (gT hG rfl (lt_of rfl)) (gR hG (b := 90) rfl) ?_
        refine w_iload_n dX10_grows_78 rfl (List.Mem.tail _ (List.Mem.head _)) ?_
        obtain ⟨h9, h⟩ := h
        have hj15 := vin_lt2 (n := 9) h9 rfl
        refine i_aald (n := 9) (b := (91 + x1.toNat)) dX10_grows_79 (gT hG rfl (lt_of rfl)) (gL hG rfl) rx1 h9 (gR hG (rr_90 hj15)) ?_
        refine w_iconst (v := nZ 4) dX10_grows_80 (by decide) ?_
        refine i_iald (n := 7) dX10_grows_81 (gT hG (ro_90 _ hj15).1 (by have := hj15; omega)) (gL hG (ro_90 _ hj15).2) (by decide) (by decide) ?_
        obtain ⟨q16, h⟩ := h
        refine i_add dX10_grows_82 ?_
        refine w_goto (tgt := 94) dX10_grows_83 rfl ?_
        refine i_iast (n := 7) dX10_grows_94 (gT hG (ro_90 _ hj4).1 (by have := hj4; omega)) (gL hG (ro_90 _ hj4).2) (by decide) (by decide) (fun σ17 eσ18 => ?_)
        replace h := h σ17 eσ18
        have hG19 : G σ17 u := eσ18 ▸ G.wI hG
        obtain ⟨q20, h⟩ := h
        refine w_iinc (v := nZ (x1 + 1)) (l' := [(1, .int (nZ (x1 + 1))), (0, .ref 76)]) dX10_grows_95 (List.Mem.tail _ (List.Mem.head _)) (nZ_add _ _) (by decide) rfl ?_
        refine w_goto (tgt := 2) dX10_grows_98 rfl ?_
        exact w_weak (l' := [(0, .ref 76), (1, .int (nZ (x1 + 1)))]) (by intro q hq; simp only [List.mem_cons, List.not_mem_nil, or_false] at hq ⊢; rcases hq with rfl | rfl <;> simp) h
theorem dX10_days_0 : decode cX10_days 0 = .ok (.aload_n 0, 1) := by decide +kernel
theorem dX10_days_1 : decode cX10_days 1 = .ok (.iconst 0, 1) := by decide +kernel
theorem dX10_days_2 : decode cX10_days 2 = .ok (.putfield 106, 3) := by decide +kernel
theorem dX10_days_5 : decode cX10_days 5 = .ok (.aload_n 0, 1) := by decide +kernel
theorem dX10_days_6 : decode cX10_days 6 = .ok (.iload_n 1, 1) := by decide +kernel
theorem dX10_days_7 : decode cX10_days 7 = .ok (.iconst 1, 1) := by decide +kernel
theorem dX10_days_8 : decode cX10_days 8 = .ok (.bipush 99, 2) := by decide +kernel
theorem dX10_days_10 : decode cX10_days 10 = .ok (.invokestatic 140, 3) := by decide +kernel
theorem dX10_days_13 : decode cX10_days 13 = .ok (.ifCond .ne 7, 3) := by decide +kernel
theorem dX10_days_16 : decode cX10_days 16 = .ok (.iconst 1, 1) := by decide +kernel
theorem dX10_days_17 : decode cX10_days 17 = .ok (.goto 4, 3) := by decide +kernel
theorem dX10_days_20 : decode cX10_days 20 = .ok (.iconst 0, 1) := by decide +kernel
theorem dX10_days_21 : decode cX10_days 21 = .ok (.iconst 1, 1) := by decide +kernel
theorem dX10_days_22 : decode cX10_days 22 = .ok (.iconst 1, 1) := by decide +kernel
theorem dX10_days_23 : decode cX10_days 23 = .ok (.invokevirtual 196, 3) := by decide +kernel
theorem dX10_days_26 : decode cX10_days 26 = .ok (.ifCond .eq 5, 3) := by decide +kernel
theorem dX10_days_29 : decode cX10_days 29 = .ok (.iconst 0, 1) := by decide +kernel
theorem dX10_days_30 : decode cX10_days 30 = .ok (.ireturn, 1) := by decide +kernel
theorem dX10_days_31 : decode cX10_days 31 = .ok (.iconst 0, 1) := by decide +kernel
theorem dX10_days_32 : decode cX10_days 32 = .ok (.istore_n 2, 1) := by decide +kernel
theorem dX10_days_33 : decode cX10_days 33 = .ok (.iload_n 2, 1) := by decide +kernel
theorem dX10_days_34 : decode cX10_days 34 = .ok (.iload_n 1, 1) := by decide +kernel
theorem dX10_days_35 : decode cX10_days 35 = .ok (.if_icmp .ge 33, 3) := by decide +kernel
theorem dX10_days_38 : decode cX10_days 38 = .ok (.aload_n 0, 1) := by decide +kernel
theorem dX10_days_39 : decode cX10_days 39 = .ok (.getfield 203, 3) := by decide +kernel
theorem dX10_days_42 : decode cX10_days 42 = .ok (.sipush 999, 3) := by decide +kernel
theorem dX10_days_45 : decode cX10_days 45 = .ok (.if_icmp .ge 23, 3) := by decide +kernel
theorem dX10_days_48 : decode cX10_days 48 = .ok (.aload_n 0, 1) := by decide +kernel
theorem dX10_days_49 : decode cX10_days 49 = .ok (.invokevirtual 331, 3) := by decide +kernel
theorem dX10_days_52 : decode cX10_days 52 = .ok (.aload_n 0, 1) := by decide +kernel
theorem dX10_days_53 : decode cX10_days 53 = .ok (.dup, 1) := by decide +kernel
theorem dX10_days_54 : decode cX10_days 54 = .ok (.getfield 203, 3) := by decide +kernel
theorem dX10_days_57 : decode cX10_days 57 = .ok (.iconst 1, 1) := by decide +kernel
theorem dX10_days_58 : decode cX10_days 58 = .ok (.iadd, 1) := by decide +kernel
theorem dX10_days_59 : decode cX10_days 59 = .ok (.putfield 203, 3) := by decide +kernel
theorem dX10_days_62 : decode cX10_days 62 = .ok (.iinc 2 1, 3) := by decide +kernel
theorem dX10_days_65 : decode cX10_days 65 = .ok (.goto (-32), 3) := by decide +kernel
theorem dX10_days_68 : decode cX10_days 68 = .ok (.aload_n 0, 1) := by decide +kernel
theorem dX10_days_69 : decode cX10_days 69 = .ok (.getfield 203, 3) := by decide +kernel
theorem dX10_days_72 : decode cX10_days 72 = .ok (.ireturn, 1) := by decide +kernel
def L_X10_days_33 (C : aM → List Value → aH → aO → aH → Prop) (sc : Nat × (Nat → Int32)) (P : aO → aH → Prop) (x1 : Int) (x2 : Int) (σ : aH) : Prop :=
    wp C 10 cX10_days 3 (some .int) false [] sc P 33 [(0, .ref 76), (1, .int (nZ x1)), (2, .int (nZ x2))] [] σ
set_option maxRecDepth 10000 in
theorem t_X10_days {sc : Nat × (Nat → Int32)} {d : Nat} {Q : aO → aH → Prop} {σ : aH} {u : Nat}  {x1 : Int} (hG : G σ u) (rx1 : inR x1)
    (h : (∀ σ1 : aH, wI σ 76 0 0 = σ1 → (∃ (r8 : Int) (σ4 : aH), Ev sc d mX10_in [.int (nZ x1), .int (nZ 1), .int (nZ 99)] σ1 (.inl (some (.int (nZ r8)))) σ4 ∧ G σ4 u ∧ inR r8 ∧ ((¬ r8 = 0 → (∃ (r13 : Int) (σ9 : aH), Ev sc d mX10_bad [.ref 76, .int (nZ 0), .int (nZ 1), .int (nZ 1)] σ4 (.inl (some (.int (nZ r13)))) σ9 ∧ G σ9 u ∧ inR r13 ∧ ((r13 = 0 → L_X10_days_33 (Ev sc d) sc Q x1 0 σ9) ∧ (¬ (r13 = 0) → Q (.inl (some (.int (nZ 0)))) σ9)))) ∧ (r8 = 0 → (∃ (r18 : Int) (σ14 : aH), Ev sc d mX10_bad [.ref 76, .int (nZ 1), .int (nZ 1), .int (nZ 1)] σ4 (.inl (some (.int (nZ r18)))) σ14 ∧ G σ14 u ∧ inR r18 ∧ ((r18 = 0 → L_X10_days_33 (Ev sc d) sc Q x1 0 σ14) ∧ (¬ (r18 = 0) → Q (.inl (some (.int (nZ 0)))) σ14)))))))) :
    T sc (d + 1) mX10_days [.ref 76, .int (nZ x1)] σ Q := by
  refine T.of (c := 10) (code := cX10_days) (mL := 3) (rt := (some .int)) (ini := false) (l := [(0, .ref 76), (1, .int (nZ x1))]) rfl rfl rfl rfl (by decide) hs_X10_days rfl rfl ?_
  refine w_aload_n dX10_days_0 rfl (List.Mem.head _) ?_
  refine w_iconst (v := nZ 0) dX10_days_1 (by decide) ?_
  refine i_putI (ci := 10) 0 rfl dX10_days_2 fl_10_106 (by decide) (gT hG rfl (lt_of rfl)) (fun σ1 eσ2 => ?_)
  replace h := h σ1 eσ2
  have hG3 : G σ1 u := eσ2 ▸ G.wI hG
  refine w_aload_n dX10_days_5 rfl (List.Mem.head _) ?_
  refine w_iload_n dX10_days_6 rfl (List.Mem.tail _ (List.Mem.head _)) ?_
  refine w_iconst (v := nZ 1) dX10_days_7 (by decide) ?_
  refine w_bipush (v := nZ 99) dX10_days_8 (by decide) ?_
  obtain ⟨r8, σ4, hc6, hG5, rr7, h⟩ := h
  refine w_callS dX10_days_10 ml_10_140 ⟨ok_X10_in, st_X10_in⟩ hs_X10_in (As := [.int (nZ x1), .int (nZ 1), .int (nZ 99)]) rfl rfl (Nat.le_of_ble_eq_true rfl) hc6 ?_
  show wp (Ev sc d) 10 cX10_days 3 (some .int) false [] sc Q 13 [(0, .ref 76), (1, .int (nZ x1))] [.int (nZ r8), .ref 76] σ4
  refine i_if_ne (tgt := 20) dX10_days_13 rfl rr7 (fun c9 => ?_) (fun c9 => ?_)
  · replace h := h.1 c9
    refine w_iconst (v := nZ 0) dX10_days_20 (by decide) ?_
    refine w_iconst (v := nZ 1) dX10_days_21 (by decide) ?_
    refine w_iconst (v := nZ 1) dX10_days_22 (by decide) ?_
    obtain ⟨r13, σ9, hc11, hG10, rr12, h⟩ := h
    refine w_callV dX10_days_23 ml_10_196 ⟨ok_X10_bad, vi_X10_bad⟩ hs_X10_bad (As := [.int (nZ 0), .int (nZ 1), .int (nZ 1)]) rfl rfl (gT hG5 rfl (lt_of rfl)) (Nat.le_of_ble_eq_true rfl) hc11 ?_
    show wp (Ev sc d) 10 cX10_days 3 (some .int) false [] sc Q 26 [(0, .ref 76), (1, .int (nZ x1))] [.int (nZ r13)] σ9
    refine i_if_eq (tgt := 31) dX10_days_26 rfl rr12 (fun c9 => ?_) (fun c9 => ?_)
    · replace h := h.1 c9
      refine w_iconst (v := nZ 0) dX10_days_31 (by decide) ?_
      refine w_istore_n (l' := [(2, .int (nZ 0)), (0, .ref 76), (1, .int (nZ x1))]) dX10_days_32 rfl (by decide) rfl ?_
      exact w_weak (l' := [(0, .ref 76), (1, .int (nZ x1)), (2, .int (nZ 0))]) (by intro q hq; simp only [List.mem_cons, List.not_mem_nil, or_false] at hq ⊢; rcases hq with rfl | rfl | rfl <;> simp) h
    · replace h := h.2 c9
      refine w_iconst (v := nZ 0) dX10_days_29 (by decide) ?_
      exact w_iret dX10_days_30 rfl h
  · replace h := h.2 c9
    refine w_iconst (v := nZ 1) dX10_days_16 (by decide) ?_
    refine w_goto (tgt := 21) dX10_days_17 rfl ?_
    refine w_iconst (v := nZ 1) dX10_days_21 (by decide) ?_
    refine w_iconst (v := nZ 1) dX10_days_22 (by decide) ?_
    obtain ⟨r18, σ14, hc16, hG15, rr17, h⟩ := h
    refine w_callV dX10_days_23 ml_10_196 ⟨ok_X10_bad, vi_X10_bad⟩ hs_X10_bad (As := [.int (nZ 1), .int (nZ 1), .int (nZ 1)]) rfl rfl (gT hG5 rfl (lt_of rfl)) (Nat.le_of_ble_eq_true rfl) hc16 ?_
    show wp (Ev sc d) 10 cX10_days 3 (some .int) false [] sc Q 26 [(0, .ref 76), (1, .int (nZ x1))] [.int (nZ r18)] σ14
    refine i_if_eq (tgt := 31) dX10_days_26 rfl rr17 (fun c9 => ?_) (fun c9 => ?_)
    · replace h := h.1 c9
      refine w_iconst (v := nZ 0) dX10_days_31 (by decide) ?_
      refine w_istore_n (l' := [(2, .int (nZ 0)), (0, .ref 76), (1, .int (nZ x1))]) dX10_days_32 rfl (by decide) rfl ?_
      exact w_weak (l' := [(0, .ref 76), (1, .int (nZ x1)), (2, .int (nZ 0))]) (by intro q hq; simp only [List.mem_cons, List.not_mem_nil, or_false] at hq ⊢; rcases hq with rfl | rfl | rfl <;> simp) h
    · replace h := h.2 c9
      refine w_iconst (v := nZ 0) dX10_days_29 (by decide) ?_
      exact w_iret dX10_days_30 rfl h
set_option maxRecDepth 10000 in
theorem v_X10_days_33 {C : aM → List Value → aH → aO → aH → Prop} {sc : Nat × (Nat → Int32)} {P : aO → aH → Prop} {σ : aH} {u : Nat}  {x1 : Int} {x2 : Int} (hG : G σ u) (rx1 : inR x1) (rx2 : inR x2)
    (h : ((x1 ≤ x2 → P (.inl (some (.int (nZ (rI σ 76 18))))) σ) ∧ (¬ (x1 ≤ x2) → ((999 ≤ (rI σ 76 18) → P (.inl (some (.int (nZ (rI σ 76 18))))) σ) ∧ (¬ (999 ≤ (rI σ 76 18)) → (∃ σ1 : aH, C mX10_grows [.ref 76] σ (.inl none) σ1 ∧ G σ1 u ∧ (inR ((rI σ1 76 18) + 1) ∧ (∀ σ6 : aH, wI σ1 76 18 ((rI σ1 76 18) + 1) = σ6 → (inR (x2 + 1) ∧ L_X10_days_33 C sc P x1 (x2 + 1) σ6))))))))) :
    L_X10_days_33 C sc P x1 x2 σ := by
  unfold L_X10_days_33
  refine w_iload_n dX10_days_33 rfl (List.Mem.tail _ (List.Mem.tail _ (List.Mem.head _))) ?_
  refine w_iload_n dX10_days_34 rfl (List.Mem.tail _ (List.Mem.head _)) ?_
  refine i_cmp_ge (tgt := 68) dX10_days_35 rfl rx2 rx1 (fun c9 => ?_) (fun c9 => ?_)
  · replace h := h.1 c9
    refine w_aload_n dX10_days_68 rfl (List.Mem.head _) ?_
    refine i_getI (ci := 10) 18 rfl dX10_days_69 fl_10_203 (by decide) (gT hG rfl (lt_of rfl)) ?_
    exact w_iret dX10_days_72 rfl h
  · replace h := h.2 c9
    refine w_aload_n dX10_days_38 rfl (List.Mem.head _) ?_
    refine i_getI (ci := 10) 18 rfl dX10_days_39 fl_10_203 (by decide) (gT hG rfl (lt_of rfl)) ?_
    refine w_sipush (v := nZ 999) dX10_days_42 (by decide) ?_
    refine i_cmp_ge (tgt := 68) dX10_days_45 rfl (rI_R _ _ _) (by decide) (fun c9 => ?_) (fun c9 => ?_)
    · replace h := h.1 c9
      refine w_aload_n dX10_days_68 rfl (List.Mem.head _) ?_
      refine i_getI (ci := 10) 18 rfl dX10_days_69 fl_10_203 (by decide) (gT hG rfl (lt_of rfl)) ?_
      exact w_iret dX10_days_72 rfl h
    · replace h := h.2 c9
      refine w_aload_n dX10_days_48 rfl (List.Mem.head _) ?_
      obtain ⟨σ1, hc3, hG2, h⟩ := h
      refine w_callV dX10_days_49 ml_10_331 ⟨ok_X10_grows, vi_X10_grows⟩ hs_X10_grows (As := []) rfl rfl (gT hG rfl (lt_of rfl)) (Nat.le_of_ble_eq_true rfl) hc3 ?_
      show wp C 10 cX10_days 3 (some .int) false [] sc P 52 [(0, .ref 76), (1, .int (nZ x1)), (2, .int (nZ x2))] [] σ1
      refine w_aload_n dX10_days_52 rfl (List.Mem.head _) ?_
      refine w_dup dX10_days_53 rfl ?_
      refine i_getI (ci := 10) 18 rfl dX10_days_54 fl_10_203 (by decide) (gT hG2 rfl (lt_of rfl)) ?_
      refine w_iconst (v := nZ 1) dX10_days_57 (by decide) ?_
      obtain ⟨q5, h⟩ := h
      refine i_add dX10_days_58 ?_
      refine i_putI (ci := 10) 18 rfl dX10_days_59 fl_10_203 (by decide) (gT hG2 rfl (lt_of rfl)) (fun σ6 eσ7 => ?_)
      replace h := h σ6 eσ7
      have hG8 : G σ6 u := eσ7 ▸ G.wI hG2
      obtain ⟨q9, h⟩ := h
      refine w_iinc (v := nZ (x2 + 1)) (l' := [(2, .int (nZ (x2 + 1))), (0, .ref 76), (1, .int (nZ x1))]) dX10_days_62 (List.Mem.tail _ (List.Mem.tail _ (List.Mem.head _))) (nZ_add _ _) (by decide) rfl ?_
      refine w_goto (tgt := 33) dX10_days_65 rfl ?_
      exact w_weak (l' := [(0, .ref 76), (1, .int (nZ x1)), (2, .int (nZ (x2 + 1)))]) (by intro q hq; simp only [List.mem_cons, List.not_mem_nil, or_false] at hq ⊢; rcases hq with rfl | rfl | rfl <;> simp) h
theorem dX10_when_0 : decode cX10_when 0 = .ok (.aload_n 0, 1) := by decide +kernel
theorem dX10_when_1 : decode cX10_when 1 = .ok (.iconst 0, 1) := by decide +kernel
theorem dX10_when_2 : decode cX10_when 2 = .ok (.putfield 106, 3) := by decide +kernel
theorem dX10_when_5 : decode cX10_when 5 = .ok (.aload_n 0, 1) := by decide +kernel
theorem dX10_when_6 : decode cX10_when 6 = .ok (.iload_n 1, 1) := by decide +kernel
theorem dX10_when_7 : decode cX10_when 7 = .ok (.iconst 0, 1) := by decide +kernel
theorem dX10_when_8 : decode cX10_when 8 = .ok (.ldc_w 334, 3) := by decide +kernel
theorem dX10_when_11 : decode cX10_when 11 = .ok (.invokestatic 140, 3) := by decide +kernel
theorem dX10_when_14 : decode cX10_when 14 = .ok (.ifCond .ne 7, 3) := by decide +kernel
theorem dX10_when_17 : decode cX10_when 17 = .ok (.iconst 1, 1) := by decide +kernel
theorem dX10_when_18 : decode cX10_when 18 = .ok (.goto 4, 3) := by decide +kernel
theorem dX10_when_21 : decode cX10_when 21 = .ok (.iconst 0, 1) := by decide +kernel
theorem dX10_when_22 : decode cX10_when 22 = .ok (.iconst 1, 1) := by decide +kernel
theorem dX10_when_23 : decode cX10_when 23 = .ok (.iconst 1, 1) := by decide +kernel
theorem dX10_when_24 : decode cX10_when 24 = .ok (.invokevirtual 196, 3) := by decide +kernel
theorem dX10_when_27 : decode cX10_when 27 = .ok (.ifCond .eq 5, 3) := by decide +kernel
theorem dX10_when_30 : decode cX10_when 30 = .ok (.iconst 0, 1) := by decide +kernel
theorem dX10_when_31 : decode cX10_when 31 = .ok (.ireturn, 1) := by decide +kernel
theorem dX10_when_32 : decode cX10_when 32 = .ok (.iconst (-1), 1) := by decide +kernel
theorem dX10_when_33 : decode cX10_when 33 = .ok (.istore_n 2, 1) := by decide +kernel
theorem dX10_when_34 : decode cX10_when 34 = .ok (.aload_n 0, 1) := by decide +kernel
theorem dX10_when_35 : decode cX10_when 35 = .ok (.iconst 0, 1) := by decide +kernel
theorem dX10_when_36 : decode cX10_when 36 = .ok (.invokevirtual 321, 3) := by decide +kernel
theorem dX10_when_39 : decode cX10_when 39 = .ok (.iconst 0, 1) := by decide +kernel
theorem dX10_when_40 : decode cX10_when 40 = .ok (.istore_n 3, 1) := by decide +kernel
theorem dX10_when_41 : decode cX10_when 41 = .ok (.iload_n 3, 1) := by decide +kernel
theorem dX10_when_42 : decode cX10_when 42 = .ok (.bipush 100, 2) := by decide +kernel
theorem dX10_when_44 : decode cX10_when 44 = .ok (.if_icmp .ge 28, 3) := by decide +kernel
theorem dX10_when_47 : decode cX10_when 47 = .ok (.iload_n 2, 1) := by decide +kernel
theorem dX10_when_48 : decode cX10_when 48 = .ok (.iconst (-1), 1) := by decide +kernel
theorem dX10_when_49 : decode cX10_when 49 = .ok (.if_icmp .ne 23, 3) := by decide +kernel
theorem dX10_when_52 : decode cX10_when 52 = .ok (.aload_n 0, 1) := by decide +kernel
theorem dX10_when_53 : decode cX10_when 53 = .ok (.invokevirtual 281, 3) := by decide +kernel
theorem dX10_when_56 : decode cX10_when 56 = .ok (.iload_n 1, 1) := by decide +kernel
theorem dX10_when_57 : decode cX10_when 57 = .ok (.if_icmp .le 5, 3) := by decide +kernel
theorem dX10_when_60 : decode cX10_when 60 = .ok (.iload_n 3, 1) := by decide +kernel
theorem dX10_when_61 : decode cX10_when 61 = .ok (.istore_n 2, 1) := by decide +kernel
theorem dX10_when_62 : decode cX10_when 62 = .ok (.aload_n 0, 1) := by decide +kernel
theorem dX10_when_63 : decode cX10_when 63 = .ok (.invokevirtual 331, 3) := by decide +kernel
theorem dX10_when_66 : decode cX10_when 66 = .ok (.iinc 3 1, 3) := by decide +kernel
theorem dX10_when_69 : decode cX10_when 69 = .ok (.goto (-28), 3) := by decide +kernel
theorem dX10_when_72 : decode cX10_when 72 = .ok (.iconst 0, 1) := by decide +kernel
theorem dX10_when_73 : decode cX10_when 73 = .ok (.istore_n 3, 1) := by decide +kernel
theorem dX10_when_74 : decode cX10_when 74 = .ok (.iload_n 3, 1) := by decide +kernel
theorem dX10_when_75 : decode cX10_when 75 = .ok (.aload_n 0, 1) := by decide +kernel
theorem dX10_when_76 : decode cX10_when 76 = .ok (.getfield 23, 3) := by decide +kernel
theorem dX10_when_79 : decode cX10_when 79 = .ok (.iconst 2, 1) := by decide +kernel
theorem dX10_when_80 : decode cX10_when 80 = .ok (.iaload, 1) := by decide +kernel
theorem dX10_when_81 : decode cX10_when 81 = .ok (.if_icmp .ge 25, 3) := by decide +kernel
theorem dX10_when_84 : decode cX10_when 84 = .ok (.aload_n 0, 1) := by decide +kernel
theorem dX10_when_85 : decode cX10_when 85 = .ok (.getfield 31, 3) := by decide +kernel
theorem dX10_when_88 : decode cX10_when 88 = .ok (.iload_n 3, 1) := by decide +kernel
theorem dX10_when_89 : decode cX10_when 89 = .ok (.aaload, 1) := by decide +kernel
theorem dX10_when_90 : decode cX10_when 90 = .ok (.iconst 2, 1) := by decide +kernel
theorem dX10_when_91 : decode cX10_when 91 = .ok (.aload_n 0, 1) := by decide +kernel
theorem dX10_when_92 : decode cX10_when 92 = .ok (.getfield 94, 3) := by decide +kernel
theorem dX10_when_95 : decode cX10_when 95 = .ok (.iconst 0, 1) := by decide +kernel
theorem dX10_when_96 : decode cX10_when 96 = .ok (.aaload, 1) := by decide +kernel
theorem dX10_when_97 : decode cX10_when 97 = .ok (.iload_n 3, 1) := by decide +kernel
theorem dX10_when_98 : decode cX10_when 98 = .ok (.iaload, 1) := by decide +kernel
theorem dX10_when_99 : decode cX10_when 99 = .ok (.iastore, 1) := by decide +kernel
theorem dX10_when_100 : decode cX10_when 100 = .ok (.iinc 3 1, 3) := by decide +kernel
theorem dX10_when_103 : decode cX10_when 103 = .ok (.goto (-29), 3) := by decide +kernel
theorem dX10_when_106 : decode cX10_when 106 = .ok (.iload_n 2, 1) := by decide +kernel
theorem dX10_when_107 : decode cX10_when 107 = .ok (.ireturn, 1) := by decide +kernel
def L_X10_when_41 (C : aM → List Value → aH → aO → aH → Prop) (sc : Nat × (Nat → Int32)) (P : aO → aH → Prop) (x1 : Int) (x2 : Int) (x3 : Int) (σ : aH) : Prop :=
    wp C 10 cX10_when 4 (some .int) false [] sc P 41 [(0, .ref 76), (1, .int (nZ x1)), (2, .int (nZ x2)), (3, .int (nZ x3))] [] σ
def L_X10_when_74 (C : aM → List Value → aH → aO → aH → Prop) (sc : Nat × (Nat → Int32)) (P : aO → aH → Prop) (x1 : Int) (x2 : Int) (x3 : Int) (σ : aH) : Prop :=
    wp C 10 cX10_when 4 (some .int) false [] sc P 74 [(0, .ref 76), (1, .int (nZ x1)), (2, .int (nZ x2)), (3, .int (nZ x3))] [] σ
set_option maxRecDepth 10000 in
theorem t_X10_when {sc : Nat × (Nat → Int32)} {d : Nat} {Q : aO → aH → Prop} {σ : aH} {u : Nat}  {x1 : Int} (hG : G σ u) (rx1 : inR x1)
    (h : (∀ σ1 : aH, wI σ 76 0 0 = σ1 → (∃ (r8 : Int) (σ4 : aH), Ev sc d mX10_in [.int (nZ x1), .int (nZ 0), .int (nZ 99999)] σ1 (.inl (some (.int (nZ r8)))) σ4 ∧ G σ4 u ∧ inR r8 ∧ ((¬ r8 = 0 → (∃ (r13 : Int) (σ9 : aH), Ev sc d mX10_bad [.ref 76, .int (nZ 0), .int (nZ 1), .int (nZ 1)] σ4 (.inl (some (.int (nZ r13)))) σ9 ∧ G σ9 u ∧ inR r13 ∧ ((r13 = 0 → (∃ σ14 : aH, Ev sc d mX10_notes [.ref 76, .int (nZ 0)] σ9 (.inl none) σ14 ∧ G σ14 u ∧ L_X10_when_41 (Ev sc d) sc Q x1 (-1) 0 σ14)) ∧ (¬ (r13 = 0) → Q (.inl (some (.int (nZ 0)))) σ9)))) ∧ (r8 = 0 → (∃ (r22 : Int) (σ18 : aH), Ev sc d mX10_bad [.ref 76, .int (nZ 1), .int (nZ 1), .int (nZ 1)] σ4 (.inl (some (.int (nZ r22)))) σ18 ∧ G σ18 u ∧ inR r22 ∧ ((r22 = 0 → (∃ σ23 : aH, Ev sc d mX10_notes [.ref 76, .int (nZ 0)] σ18 (.inl none) σ23 ∧ G σ23 u ∧ L_X10_when_41 (Ev sc d) sc Q x1 (-1) 0 σ23)) ∧ (¬ (r22 = 0) → Q (.inl (some (.int (nZ 0)))) σ18)))))))) :
    T sc (d + 1) mX10_when [.ref 76, .int (nZ x1)] σ Q := by
  refine T.of (c := 10) (code := cX10_when) (mL := 4) (rt := (some .int)) (ini := false) (l := [(0, .ref 76), (1, .int (nZ x1))]) rfl rfl rfl rfl (by decide) hs_X10_when rfl rfl ?_
  refine w_aload_n dX10_when_0 rfl (List.Mem.head _) ?_
  refine w_iconst (v := nZ 0) dX10_when_1 (by decide) ?_
  refine i_putI (ci := 10) 0 rfl dX10_when_2 fl_10_106 (by decide) (gT hG rfl (lt_of rfl)) (fun σ1 eσ2 => ?_)
  replace h := h σ1 eσ2
  have hG3 : G σ1 u := eσ2 ▸ G.wI hG
  refine w_aload_n dX10_when_5 rfl (List.Mem.head _) ?_
  refine w_iload_n dX10_when_6 rfl (List.Mem.tail _ (List.Mem.head _)) ?_
  refine w_iconst (v := nZ 0) dX10_when_7 (by decide) ?_
  refine i_ldcw (x := 99999) dX10_when_8 kc_10_334 (by decide) ?_
  obtain ⟨r8, σ4, hc6, hG5, rr7, h⟩ := h
  refine w_callS dX10_when_11 ml_10_140 ⟨ok_X10_in, st_X10_in⟩ hs_X10_in (As := [.int (nZ x1), .int (nZ 0), .int (nZ 99999)]) rfl rfl (Nat.le_of_ble_eq_true rfl) hc6 ?_
  show wp (Ev sc d) 10 cX10_when 4 (some .int) false [] sc Q 14 [(0, .ref 76), (1, .int (nZ x1))] [.int (nZ r8), .ref 76] σ4
  refine i_if_ne (tgt := 21) dX10_when_14 rfl rr7 (fun c9 => ?_) (fun c9 => ?_)
  · replace h := h.1 c9
    refine w_iconst (v := nZ 0) dX10_when_21 (by decide) ?_
    refine w_iconst (v := nZ 1) dX10_when_22 (by decide) ?_
    refine w_iconst (v := nZ 1) dX10_when_23 (by decide) ?_
    obtain ⟨r13, σ9, hc11, hG10, rr12, h⟩ := h
    refine w_callV dX10_when_24 ml_10_196 ⟨ok_X10_bad, vi_X10_bad⟩ hs_X10_bad (As := [.int (nZ 0), .int (nZ 1), .int (nZ 1)]) rfl rfl (gT hG5 rfl (lt_of rfl)) (Nat.le_of_ble_eq_true rfl) hc11 ?_
    show wp (Ev sc d) 10 cX10_when 4 (some .int) false [] sc Q 27 [(0, .ref 76), (1, .int (nZ x1))] [.int (nZ r13)] σ9
    refine i_if_eq (tgt := 32) dX10_when_27 rfl rr12 (fun c9 => ?_) (fun c9 => ?_)
    · replace h := h.1 c9
      refine w_iconst (v := nZ (-1)) dX10_when_32 (by decide) ?_
      refine w_istore_n (l' := [(2, .int (nZ (-1))), (0, .ref 76), (1, .int (nZ x1))]) dX10_when_33 rfl (by decide) rfl ?_
      refine w_aload_n dX10_when_34 rfl (List.Mem.tail _ (List.Mem.head _)) ?_
      refine w_iconst (v := nZ 0) dX10_when_35 (by decide) ?_
      obtain ⟨σ14, hc16, hG15, h⟩ := h
      refine w_callV dX10_when_36 ml_10_321 ⟨ok_X10_notes, vi_X10_notes⟩ hs_X10_notes (As := [.int (nZ 0)]) rfl rfl (gT hG10 rfl (lt_of rfl)) (Nat.le_of_ble_eq_true rfl) hc16 ?_
      show wp (Ev sc d) 10 cX10_when 4 (some .int) false [] sc Q 39 [(2, .int (nZ (-1))), (0, .ref 76), (1, .int (nZ x1))] [] σ14
      refine w_iconst (v := nZ 0) dX10_when_39 (by decide) ?_
      refine w_istore_n (l' := [(3, .int (nZ 0)), (2, .int (nZ (-1))), (0, .ref 76), (1, .int (nZ x1))]) dX10_when_40 rfl (by decide) rfl ?_
      exact w_weak (l' := [(0, .ref 76), (1, .int (nZ x1)), (2, .int (nZ (-1))), (3, .int (nZ 0))]) (by intro q hq; simp only [List.mem_cons, List.not_mem_nil, or_false] at hq ⊢; rcases hq with rfl | rfl | rfl | rfl <;> simp) h
    · replace h := h.2 c9
      refine w_iconst (v := nZ 0) dX10_when_30 (by decide) ?_
      exact w_iret dX10_when_31 rfl h
  · replace h := h.2 c9
    refine w_iconst (v := nZ 1) dX10_when_17 (by decide) ?_
    refine w_goto (tgt := 22) dX10_when_18 rfl ?_
    refine w_iconst (v := nZ 1) dX10_when_22 (by decide) ?_
    refine w_iconst (v := nZ 1) dX10_when_23 (by decide) ?_
    obtain ⟨r22, σ18, hc20, hG19, rr21, h⟩ := h
    refine w_callV dX10_when_24 ml_10_196 ⟨ok_X10_bad, vi_X10_bad⟩ hs_X10_bad (As := [.int (nZ 1), .int (nZ 1), .int (nZ 1)]) rfl rfl (gT hG5 rfl (lt_of rfl)) (Nat.le_of_ble_eq_true rfl) hc20 ?_
    show wp (Ev sc d) 10 cX10_when 4 (some .int) false [] sc Q 27 [(0, .ref 76), (1, .int (nZ x1))] [.int (nZ r22)] σ18
    refine i_if_eq (tgt := 32) dX10_when_27 rfl rr21 (fun c9 => ?_) (fun c9 => ?_)
    · replace h := h.1 c9
      refine w_iconst (v := nZ (-1)) dX10_when_32 (by decide) ?_
      refine w_istore_n (l' := [(2, .int (nZ (-1))), (0, .ref 76), (1, .int (nZ x1))]) dX10_when_33 rfl (by decide) rfl ?_
      refine w_aload_n dX10_when_34 rfl (List.Mem.tail _ (List.Mem.head _)) ?_
      refine w_iconst (v := nZ 0) dX10_when_35 (by decide) ?_
      obtain ⟨σ23, hc25, hG24, h⟩ := h
      refine w_callV dX10_when_36 ml_10_321 ⟨ok_X10_notes, vi_X10_notes⟩ hs_X10_notes (As := [.int (nZ 0)]) rfl rfl (gT hG19 rfl (lt_of rfl)) (Nat.le_of_ble_eq_true rfl) hc25 ?_
      show wp (Ev sc d) 10 cX10_when 4 (some .int) false [] sc Q 39 [(2, .int (nZ (-1))), (0, .ref 76), (1, .int (nZ x1))] [] σ23
      refine w_iconst (v := nZ 0) dX10_when_39 (by decide) ?_
      refine w_istore_n (l' := [(3, .int (nZ 0)), (2, .int (nZ (-1))), (0, .ref 76), (1, .int (nZ x1))]) dX10_when_40 rfl (by decide) rfl ?_
      exact w_weak (l' := [(0, .ref 76), (1, .int (nZ x1)), (2, .int (nZ (-1))), (3, .int (nZ 0))]) (by intro q hq; simp only [List.mem_cons, List.not_mem_nil, or_false] at hq ⊢; rcases hq with rfl | rfl | rfl | rfl <;> simp) h
    · replace h := h.2 c9
      refine w_iconst (v := nZ 0) dX10_when_30 (by decide) ?_
      exact w_iret dX10_when_31 rfl h
set_option maxRecDepth 10000 in
theorem v_X10_when_41 {C : aM → List Value → aH → aO → aH → Prop} {sc : Nat × (Nat → Int32)} {P : aO → aH → Prop} {σ : aH} {u : Nat}  {x1 : Int} {x2 : Int} {x3 : Int} (hG : G σ u) (rx1 : inR x1) (rx2 : inR x2) (rx3 : inR x3)
    (h : ((100 ≤ x3 → L_X10_when_74 C sc P x1 x2 0 σ) ∧ (¬ (100 ≤ x3) → ((¬ x2 = (-1) → L_X10_when_74 C sc P x1 x2 0 σ) ∧ (x2 = (-1) → (∃ (r5 : Int) (σ1 : aH), C mX10_dueNow [.ref 76] σ (.inl (some (.int (nZ r5)))) σ1 ∧ G σ1 u ∧ inR r5 ∧ ((r5 ≤ x1 → (∃ σ6 : aH, C mX10_grows [.ref 76] σ1 (.inl none) σ6 ∧ G σ6 u ∧ (inR (x3 + 1) ∧ L_X10_when_41 C sc P x1 x2 (x3 + 1) σ6))) ∧ (¬ (r5 ≤ x1) → (∃ σ11 : aH, C mX10_grows [.ref 76] σ1 (.inl none) σ11 ∧ G σ11 u ∧ (inR (x3 + 1) ∧ L_X10_when_41 C sc P x1 x3 (x3 + 1) σ11)))))))))) :
    L_X10_when_41 C sc P x1 x2 x3 σ := by
  unfold L_X10_when_41
  refine w_iload_n dX10_when_41 rfl (List.Mem.tail _ (List.Mem.tail _ (List.Mem.tail _ (List.Mem.head _)))) ?_
  refine w_bipush (v := nZ 100) dX10_when_42 (by decide) ?_
  refine i_cmp_ge (tgt := 72) dX10_when_44 rfl rx3 (by decide) (fun c9 => ?_) (fun c9 => ?_)
  · replace h := h.1 c9
    refine w_iconst (v := nZ 0) dX10_when_72 (by decide) ?_
    refine w_istore_n (l' := [(3, .int (nZ 0)), (0, .ref 76), (1, .int (nZ x1)), (2, .int (nZ x2))]) dX10_when_73 rfl (by decide) rfl ?_
    exact w_weak (l' := [(0, .ref 76), (1, .int (nZ x1)), (2, .int (nZ x2)), (3, .int (nZ 0))]) (by intro q hq; simp only [List.mem_cons, List.not_mem_nil, or_false] at hq ⊢; rcases hq with rfl | rfl | rfl | rfl <;> simp) h
  · replace h := h.2 c9
    refine w_iload_n dX10_when_47 rfl (List.Mem.tail _ (List.Mem.tail _ (List.Mem.head _))) ?_
    refine w_iconst (v := nZ (-1)) dX10_when_48 (by decide) ?_
    refine i_cmp_ne (tgt := 72) dX10_when_49 rfl rx2 (by decide) (fun c9 => ?_) (fun c9 => ?_)
    · replace h := h.1 c9
      refine w_iconst (v := nZ 0) dX10_when_72 (by decide) ?_
      refine w_istore_n (l' := [(3, .int (nZ 0)), (0, .ref 76), (1, .int (nZ x1)), (2, .int (nZ x2))]) dX10_when_73 rfl (by decide) rfl ?_
      exact w_weak (l' := [(0, .ref 76), (1, .int (nZ x1)), (2, .int (nZ x2)), (3, .int (nZ 0))]) (by intro q hq; simp only [List.mem_cons, List.not_mem_nil, or_false] at hq ⊢; rcases hq with rfl | rfl | rfl | rfl <;> simp) h
    · replace h := h.2 c9
      refine w_aload_n dX10_when_52 rfl (List.Mem.head _) ?_
      obtain ⟨r5, σ1, hc3, hG2, rr4, h⟩ := h
      refine w_callV dX10_when_53 ml_10_281 ⟨ok_X10_dueNow, vi_X10_dueNow⟩ hs_X10_dueNow (As := []) rfl rfl (gT hG rfl (lt_of rfl)) (Nat.le_of_ble_eq_true rfl) hc3 ?_
      show wp C 10 cX10_when 4 (some .int) false [] sc P 56 [(0, .ref 76), (1, .int (nZ x1)), (2, .int (nZ x2)), (3, .int (nZ x3))] [.int (nZ r5)] σ1
      refine w_iload_n dX10_when_56 rfl (List.Mem.tail _ (List.Mem.head _)) ?_
      refine i_cmp_le (tgt := 62) dX10_when_57 rfl rr4 rx1 (fun c9 => ?_) (fun c9 => ?_)
      · replace h := h.1 c9
        refine w_aload_n dX10_when_62 rfl (List.Mem.head _) ?_
        obtain ⟨σ6, hc8, hG7, h⟩ := h
        refine w_callV dX10_when_63 ml_10_331 ⟨ok_X10_grows, vi_X10_grows⟩ hs_X10_grows (As := []) rfl rfl (gT hG2 rfl (lt_of rfl)) (Nat.le_of_ble_eq_true rfl) hc8 ?_
        show wp C 10 cX10_when 4 (some .int) false [] sc P 66 [(0, .ref 76), (1, .int (nZ x1)), (2, .int (nZ x2)), (3, .int (nZ x3))] [] σ6
        obtain ⟨q10, h⟩ := h
        refine w_iinc (v := nZ (x3 + 1)) (l' := [(3, .int (nZ (x3 + 1))), (0, .ref 76), (1, .int (nZ x1)), (2, .int (nZ x2))]) dX10_when_66 (List.Mem.tail _ (List.Mem.tail _ (List.Mem.tail _ (List.Mem.head _)))) (nZ_add _ _) (by decide) rfl ?_
        refine w_goto (tgt := 41) dX10_when_69 rfl ?_
        exact w_weak (l' := [(0, .ref 76), (1, .int (nZ x1)), (2, .int (nZ x2)), (3, .int (nZ (x3 + 1)))]) (by intro q hq; simp only [List.mem_cons, List.not_mem_nil, or_false] at hq ⊢; rcases hq with rfl | rfl | rfl | rfl <;> simp) h
      · replace h := h.2 c9
        refine w_iload_n dX10_when_60 rfl (List.Mem.tail _ (List.Mem.tail _ (List.Mem.tail _ (List.Mem.head _)))) ?_
        refine w_istore_n (l' := [(2, .int (nZ x3)), (0, .ref 76), (1, .int (nZ x1)), (3, .int (nZ x3))]) dX10_when_61 rfl (by decide) rfl ?_
        refine w_aload_n dX10_when_62 rfl (List.Mem.tail _ (List.Mem.head _)) ?_
        obtain ⟨σ11, hc13, hG12, h⟩ := h
        refine w_callV dX10_when_63 ml_10_331 ⟨ok_X10_grows, vi_X10_grows⟩ hs_X10_grows (As := []) rfl rfl (gT hG2 rfl (lt_of rfl)) (Nat.le_of_ble_eq_true rfl) hc13 ?_
        show wp C 10 cX10_when 4 (some .int) false [] sc P 66 [(2, .int (nZ x3)), (0, .ref 76), (1, .int (nZ x1)), (3, .int (nZ x3))] [] σ11
        obtain ⟨q15, h⟩ := h
        refine w_iinc (v := nZ (x3 + 1)) (l' := [(3, .int (nZ (x3 + 1))), (2, .int (nZ x3)), (0, .ref 76), (1, .int (nZ x1))]) dX10_when_66 (List.Mem.tail _ (List.Mem.tail _ (List.Mem.tail _ (List.Mem.head _)))) (nZ_add _ _) (by decide) rfl ?_
        refine w_goto (tgt := 41) dX10_when_69 rfl ?_
        exact w_weak (l' := [(0, .ref 76), (1, .int (nZ x1)), (2, .int (nZ x3)), (3, .int (nZ (x3 + 1)))]) (by intro q hq; simp only [List.mem_cons, List.not_mem_nil, or_false] at hq ⊢; rcases hq with rfl | rfl | rfl | rfl <;> simp) h
set_option maxRecDepth 10000 in
theorem v_X10_when_74 {C : aM → List Value → aH → aO → aH → Prop} {sc : Nat × (Nat → Int32)} {P : aO → aH → Prop} {σ : aH} {u : Nat}  {x1 : Int} {x2 : Int} {x3 : Int} (hG : G σ u) (rx1 : inR x1) (rx2 : inR x2) (rx3 : inR x3)
    (h : (((rI σ 80 2) ≤ x3 → P (.inl (some (.int (nZ x2)))) σ) ∧ (¬ ((rI σ 80 2) ≤ x3) → ((0 ≤ x3 ∧ x3 < 9) ∧ ((0 ≤ x3 ∧ x3 < 8) ∧ (∀ σ2 : aH, wI σ (91 + x3.toNat) 2 (rI σ 321 x3) = σ2 → (inR (x3 + 1) ∧ L_X10_when_74 C sc P x1 x2 (x3 + 1) σ2))))))) :
    L_X10_when_74 C sc P x1 x2 x3 σ := by
  unfold L_X10_when_74
  refine w_iload_n dX10_when_74 rfl (List.Mem.tail _ (List.Mem.tail _ (List.Mem.tail _ (List.Mem.head _)))) ?_
  refine w_aload_n dX10_when_75 rfl (List.Mem.head _) ?_
  refine w_getR (ci := 10) (k := 11) (b := 80) dX10_when_76 fl_10_23 (by decide) (gT hG rfl (lt_of rfl)) (gR hG (b := 80) rfl) ?_
  refine w_iconst (v := nZ 2) dX10_when_79 (by decide) ?_
  refine i_iald (n := 8) dX10_when_80 (gT hG rfl (lt_of rfl)) (gL hG rfl) (by decide) (by decide) ?_
  refine i_cmp_ge (tgt := 106) dX10_when_81 rfl rx3 (rI_R _ _ _) (fun c9 => ?_) (fun c9 => ?_)
  · replace h := h.1 c9
    refine w_iload_n dX10_when_106 rfl (List.Mem.tail _ (List.Mem.tail _ (List.Mem.head _))) ?_
    exact w_iret dX10_when_107 rfl h
  · replace h := h.2 c9
    refine w_aload_n dX10_when_84 rfl (List.Mem.head _) ?_
    refine w_getR (ci := 10) (k := 13) (b := 90) dX10_when_85 fl_10_31 (by decide) (gT hG rfl (lt_of rfl)) (gR hG (b := 90) rfl) ?_
    refine w_iload_n dX10_when_88 rfl (List.Mem.tail _ (List.Mem.tail _ (List.Mem.tail _ (List.Mem.head _)))) ?_
    obtain ⟨h9, h⟩ := h
    have hj1 := vin_lt2 (n := 9) h9 rfl
    refine i_aald (n := 9) (b := (91 + x3.toNat)) dX10_when_89 (gT hG rfl (lt_of rfl)) (gL hG rfl) rx3 h9 (gR hG (rr_90 hj1)) ?_
    refine w_iconst (v := nZ 2) dX10_when_90 (by decide) ?_
    refine w_aload_n dX10_when_91 rfl (List.Mem.head _) ?_
    refine w_getR (ci := 10) (k := 48) (b := 320) dX10_when_92 fl_10_94 (by decide) (gT hG rfl (lt_of rfl)) (gR hG (b := 320) rfl) ?_
    refine w_iconst (v := nZ 0) dX10_when_95 (by decide) ?_
    refine i_aald (n := 21) (b := 321) dX10_when_96 (gT hG rfl (lt_of rfl)) (gL hG rfl) (by decide) (by decide) (gR hG rfl) ?_
    refine w_iload_n dX10_when_97 rfl (List.Mem.tail _ (List.Mem.tail _ (List.Mem.tail _ (List.Mem.head _)))) ?_
    obtain ⟨h9, h⟩ := h
    refine i_iald (n := 8) dX10_when_98 (gT hG rfl (lt_of rfl)) (gL hG rfl) rx3 h9 ?_
    refine i_iast (n := 7) dX10_when_99 (gT hG (ro_90 _ hj1).1 (by have := hj1; omega)) (gL hG (ro_90 _ hj1).2) (by decide) (by decide) (fun σ2 eσ3 => ?_)
    replace h := h σ2 eσ3
    have hG4 : G σ2 u := eσ3 ▸ G.wI hG
    obtain ⟨q5, h⟩ := h
    refine w_iinc (v := nZ (x3 + 1)) (l' := [(3, .int (nZ (x3 + 1))), (0, .ref 76), (1, .int (nZ x1)), (2, .int (nZ x2))]) dX10_when_100 (List.Mem.tail _ (List.Mem.tail _ (List.Mem.tail _ (List.Mem.head _)))) (nZ_add _ _) (by decide) rfl ?_
    refine w_goto (tgt := 74) dX10_when_103 rfl ?_
    exact w_weak (l' := [(0, .ref 76), (1, .int (nZ x1)), (2, .int (nZ x2)), (3, .int (nZ (x3 + 1)))]) (by intro q hq; simp only [List.mem_cons, List.not_mem_nil, or_false] at hq ⊢; rcases hq with rfl | rfl | rfl | rfl <;> simp) h
theorem dX10_cloudsBy_0 : decode cX10_cloudsBy 0 = .ok (.iload_n 1, 1) := by decide +kernel
theorem dX10_cloudsBy_1 : decode cX10_cloudsBy 1 = .ok (.istore_n 2, 1) := by decide +kernel
theorem dX10_cloudsBy_2 : decode cX10_cloudsBy 2 = .ok (.iconst 0, 1) := by decide +kernel
theorem dX10_cloudsBy_3 : decode cX10_cloudsBy 3 = .ok (.istore_n 3, 1) := by decide +kernel
theorem dX10_cloudsBy_4 : decode cX10_cloudsBy 4 = .ok (.iconst 0, 1) := by decide +kernel
theorem dX10_cloudsBy_5 : decode cX10_cloudsBy 5 = .ok (.istore 4, 2) := by decide +kernel
theorem dX10_cloudsBy_7 : decode cX10_cloudsBy 7 = .ok (.iload 4, 2) := by decide +kernel
theorem dX10_cloudsBy_9 : decode cX10_cloudsBy 9 = .ok (.bipush 24, 2) := by decide +kernel
theorem dX10_cloudsBy_11 : decode cX10_cloudsBy 11 = .ok (.if_icmp .ge 46, 3) := by decide +kernel
theorem dX10_cloudsBy_14 : decode cX10_cloudsBy 14 = .ok (.iload_n 2, 1) := by decide +kernel
theorem dX10_cloudsBy_15 : decode cX10_cloudsBy 15 = .ok (.ldc_w 335, 3) := by decide +kernel
theorem dX10_cloudsBy_18 : decode cX10_cloudsBy 18 = .ok (.imul, 1) := by decide +kernel
theorem dX10_cloudsBy_19 : decode cX10_cloudsBy 19 = .ok (.sipush 12345, 3) := by decide +kernel
theorem dX10_cloudsBy_22 : decode cX10_cloudsBy 22 = .ok (.iadd, 1) := by decide +kernel
theorem dX10_cloudsBy_23 : decode cX10_cloudsBy 23 = .ok (.istore_n 2, 1) := by decide +kernel
theorem dX10_cloudsBy_24 : decode cX10_cloudsBy 24 = .ok (.iload_n 3, 1) := by decide +kernel
theorem dX10_cloudsBy_25 : decode cX10_cloudsBy 25 = .ok (.iload_n 2, 1) := by decide +kernel
theorem dX10_cloudsBy_26 : decode cX10_cloudsBy 26 = .ok (.bipush 16, 2) := by decide +kernel
theorem dX10_cloudsBy_28 : decode cX10_cloudsBy 28 = .ok (.ishr, 1) := by decide +kernel
theorem dX10_cloudsBy_29 : decode cX10_cloudsBy 29 = .ok (.bipush 7, 2) := by decide +kernel
theorem dX10_cloudsBy_31 : decode cX10_cloudsBy 31 = .ok (.iand, 1) := by decide +kernel
theorem dX10_cloudsBy_32 : decode cX10_cloudsBy 32 = .ok (.aload_n 0, 1) := by decide +kernel
theorem dX10_cloudsBy_33 : decode cX10_cloudsBy 33 = .ok (.getfield 23, 3) := by decide +kernel
theorem dX10_cloudsBy_36 : decode cX10_cloudsBy 36 = .ok (.iconst 5, 1) := by decide +kernel
theorem dX10_cloudsBy_37 : decode cX10_cloudsBy 37 = .ok (.iaload, 1) := by decide +kernel
theorem dX10_cloudsBy_38 : decode cX10_cloudsBy 38 = .ok (.if_icmp .ge 10, 3) := by decide +kernel
theorem dX10_cloudsBy_41 : decode cX10_cloudsBy 41 = .ok (.iconst 1, 1) := by decide +kernel
theorem dX10_cloudsBy_42 : decode cX10_cloudsBy 42 = .ok (.iload 4, 2) := by decide +kernel
theorem dX10_cloudsBy_44 : decode cX10_cloudsBy 44 = .ok (.ishl, 1) := by decide +kernel
theorem dX10_cloudsBy_45 : decode cX10_cloudsBy 45 = .ok (.goto 4, 3) := by decide +kernel
theorem dX10_cloudsBy_48 : decode cX10_cloudsBy 48 = .ok (.iconst 0, 1) := by decide +kernel
theorem dX10_cloudsBy_49 : decode cX10_cloudsBy 49 = .ok (.ior, 1) := by decide +kernel
theorem dX10_cloudsBy_50 : decode cX10_cloudsBy 50 = .ok (.istore_n 3, 1) := by decide +kernel
theorem dX10_cloudsBy_51 : decode cX10_cloudsBy 51 = .ok (.iinc 4 1, 3) := by decide +kernel
theorem dX10_cloudsBy_54 : decode cX10_cloudsBy 54 = .ok (.goto (-47), 3) := by decide +kernel
theorem dX10_cloudsBy_57 : decode cX10_cloudsBy 57 = .ok (.iload_n 3, 1) := by decide +kernel
theorem dX10_cloudsBy_58 : decode cX10_cloudsBy 58 = .ok (.ireturn, 1) := by decide +kernel
def L_X10_cloudsBy_7 (C : aM → List Value → aH → aO → aH → Prop) (sc : Nat × (Nat → Int32)) (P : aO → aH → Prop) (x1 : Int) (x2 : Int) (x3 : Int) (x4 : Int) (σ : aH) : Prop :=
    wp C 10 cX10_cloudsBy 5 (some .int) false [] sc P 7 [(0, .ref 76), (1, .int (nZ x1)), (2, .int (nZ x2)), (3, .int (nZ x3)), (4, .int (nZ x4))] [] σ
set_option maxRecDepth 10000 in
theorem t_X10_cloudsBy {sc : Nat × (Nat → Int32)} {d : Nat} {Q : aO → aH → Prop} {σ : aH} {u : Nat}  {x1 : Int} (hG : G σ u) (rx1 : inR x1)
    (h : L_X10_cloudsBy_7 (Ev sc d) sc Q x1 x1 0 0 σ) :
    T sc (d + 1) mX10_cloudsBy [.ref 76, .int (nZ x1)] σ Q := by
  refine T.of (c := 10) (code := cX10_cloudsBy) (mL := 5) (rt := (some .int)) (ini := false) (l := [(0, .ref 76), (1, .int (nZ x1))]) rfl rfl rfl rfl (by decide) hs_X10_cloudsBy rfl rfl ?_
  refine w_iload_n dX10_cloudsBy_0 rfl (List.Mem.tail _ (List.Mem.head _)) ?_
  refine w_istore_n (l' := [(2, .int (nZ x1)), (0, .ref 76), (1, .int (nZ x1))]) dX10_cloudsBy_1 rfl (by decide) rfl ?_
  refine w_iconst (v := nZ 0) dX10_cloudsBy_2 (by decide) ?_
  refine w_istore_n (l' := [(3, .int (nZ 0)), (2, .int (nZ x1)), (0, .ref 76), (1, .int (nZ x1))]) dX10_cloudsBy_3 rfl (by decide) rfl ?_
  refine w_iconst (v := nZ 0) dX10_cloudsBy_4 (by decide) ?_
  refine w_istore (l' := [(4, .int (nZ 0)), (3, .int (nZ 0)), (2, .int (nZ x1)), (0, .ref 76), (1, .int (nZ x1))]) dX10_cloudsBy_5 (by decide) rfl ?_
  exact w_weak (l' := [(0, .ref 76), (1, .int (nZ x1)), (2, .int (nZ x1)), (3, .int (nZ 0)), (4, .int (nZ 0))]) (by intro q hq; simp only [List.mem_cons, List.not_mem_nil, or_false] at hq ⊢; rcases hq with rfl | rfl | rfl | rfl | rfl <;> simp) h
set_option maxRecDepth 10000 in
theorem v_X10_cloudsBy_7 {C : aM → List Value → aH → aO → aH → Prop} {sc : Nat × (Nat → Int32)} {P : aO → aH → Prop} {σ : aH} {u : Nat}  {x1 : Int} {x2 : Int} {x3 : Int} {x4 : Int} (hG : G σ u) (rx1 : inR x1) (rx2 : inR x2) (rx3 : inR x3) (rx4 : inR x4)
    (h : ((24 ≤ x4 → P (.inl (some (.int (nZ x3)))) σ) ∧ (¬ (24 ≤ x4) → (∀ z1 : Int, z1 = (wr ((wr (x2 * 1103515245)) + 12345)) → (((rI σ 80 5) ≤ (zAnd (zShr z1 16) 7) → (∀ z4 : Int, z4 = (zOr x3 0) → (inR (x4 + 1) ∧ L_X10_cloudsBy_7 C sc P x1 z1 z4 (x4 + 1) σ))) ∧ (¬ ((rI σ 80 5) ≤ (zAnd (zShr z1 16) 7)) → (∀ z8 : Int, z8 = (zOr x3 (zShl 1 x4)) → (inR (x4 + 1) ∧ L_X10_cloudsBy_7 C sc P x1 z1 z8 (x4 + 1) σ)))))))) :
    L_X10_cloudsBy_7 C sc P x1 x2 x3 x4 σ := by
  unfold L_X10_cloudsBy_7
  refine w_iload dX10_cloudsBy_7 (List.Mem.tail _ (List.Mem.tail _ (List.Mem.tail _ (List.Mem.tail _ (List.Mem.head _))))) ?_
  refine w_bipush (v := nZ 24) dX10_cloudsBy_9 (by decide) ?_
  refine i_cmp_ge (tgt := 57) dX10_cloudsBy_11 rfl rx4 (by decide) (fun c9 => ?_) (fun c9 => ?_)
  · replace h := h.1 c9
    refine w_iload_n dX10_cloudsBy_57 rfl (List.Mem.tail _ (List.Mem.tail _ (List.Mem.tail _ (List.Mem.head _)))) ?_
    exact w_iret dX10_cloudsBy_58 rfl h
  · replace h := h.2 c9
    refine w_iload_n dX10_cloudsBy_14 rfl (List.Mem.tail _ (List.Mem.tail _ (List.Mem.head _))) ?_
    refine i_ldcw (x := 1103515245) dX10_cloudsBy_15 kc_10_335 (by decide) ?_
    refine i_mulw dX10_cloudsBy_18 ?_
    refine w_sipush (v := nZ 12345) dX10_cloudsBy_19 (by decide) ?_
    refine i_addw dX10_cloudsBy_22 ?_
    refine top_i (fun z1 ez2 => ?_)
    have rz3 : inR z1 := ez2 ▸ (wr_R _)
    replace h := h z1 ez2
    refine w_istore_n (l' := [(2, .int (nZ z1)), (0, .ref 76), (1, .int (nZ x1)), (3, .int (nZ x3)), (4, .int (nZ x4))]) dX10_cloudsBy_23 rfl (by decide) rfl ?_
    refine w_iload_n dX10_cloudsBy_24 rfl (List.Mem.tail _ (List.Mem.tail _ (List.Mem.tail _ (List.Mem.head _)))) ?_
    refine w_iload_n dX10_cloudsBy_25 rfl (List.Mem.head _) ?_
    refine w_bipush (v := nZ 16) dX10_cloudsBy_26 (by decide) ?_
    refine i_shr dX10_cloudsBy_28 ?_
    refine w_bipush (v := nZ 7) dX10_cloudsBy_29 (by decide) ?_
    refine i_and dX10_cloudsBy_31 ?_
    refine w_aload_n dX10_cloudsBy_32 rfl (List.Mem.tail _ (List.Mem.head _)) ?_
    refine w_getR (ci := 10) (k := 11) (b := 80) dX10_cloudsBy_33 fl_10_23 (by decide) (gT hG rfl (lt_of rfl)) (gR hG (b := 80) rfl) ?_
    refine w_iconst (v := nZ 5) dX10_cloudsBy_36 (by decide) ?_
    refine i_iald (n := 8) dX10_cloudsBy_37 (gT hG rfl (lt_of rfl)) (gL hG rfl) (by decide) (by decide) ?_
    refine i_cmp_ge (tgt := 48) dX10_cloudsBy_38 rfl (zAnd_R _ _) (rI_R _ _ _) (fun c9 => ?_) (fun c9 => ?_)
    · replace h := h.1 c9
      refine w_iconst (v := nZ 0) dX10_cloudsBy_48 (by decide) ?_
      refine i_or dX10_cloudsBy_49 ?_
      refine top_i (fun z4 ez5 => ?_)
      have rz6 : inR z4 := ez5 ▸ (zOr_R _ _)
      replace h := h z4 ez5
      refine w_istore_n (l' := [(3, .int (nZ z4)), (2, .int (nZ z1)), (0, .ref 76), (1, .int (nZ x1)), (4, .int (nZ x4))]) dX10_cloudsBy_50 rfl (by decide) rfl ?_
      obtain ⟨q7, h⟩ := h
      refine w_iinc (v := nZ (x4 + 1)) (l' := [(4, .int (nZ (x4 + 1))), (3, .int (nZ z4)), (2, .int (nZ z1)), (0, .ref 76), (1, .int (nZ x1))]) dX10_cloudsBy_51 (List.Mem.tail _ (List.Mem.tail _ (List.Mem.tail _ (List.Mem.tail _ (List.Mem.head _))))) (nZ_add _ _) (by decide) rfl ?_
      refine w_goto (tgt := 7) dX10_cloudsBy_54 rfl ?_
      exact w_weak (l' := [(0, .ref 76), (1, .int (nZ x1)), (2, .int (nZ z1)), (3, .int (nZ z4)), (4, .int (nZ (x4 + 1)))]) (by intro q hq; simp only [List.mem_cons, List.not_mem_nil, or_false] at hq ⊢; rcases hq with rfl | rfl | rfl | rfl | rfl <;> simp) h
    · replace h := h.2 c9
      refine w_iconst (v := nZ 1) dX10_cloudsBy_41 (by decide) ?_
      refine w_iload dX10_cloudsBy_42 (List.Mem.tail _ (List.Mem.tail _ (List.Mem.tail _ (List.Mem.tail _ (List.Mem.head _))))) ?_
      refine i_shl dX10_cloudsBy_44 ?_
      refine w_goto (tgt := 49) dX10_cloudsBy_45 rfl ?_
      refine i_or dX10_cloudsBy_49 ?_
      refine top_i (fun z8 ez9 => ?_)
      have rz10 : inR z8 := ez9 ▸ (zOr_R _ _)
      replace h := h z8 ez9
      refine w_istore_n (l' := [(3, .int (nZ z8)), (2, .int (nZ z1)), (0, .ref 76), (1, .int (nZ x1)), (4, .int (nZ x4))]) dX10_cloudsBy_50 rfl (by decide) rfl ?_
      obtain ⟨q11, h⟩ := h
      refine w_iinc (v := nZ (x4 + 1)) (l' := [(4, .int (nZ (x4 + 1))), (3, .int (nZ z8)), (2, .int (nZ z1)), (0, .ref 76), (1, .int (nZ x1))]) dX10_cloudsBy_51 (List.Mem.tail _ (List.Mem.tail _ (List.Mem.tail _ (List.Mem.tail _ (List.Mem.head _))))) (nZ_add _ _) (by decide) rfl ?_
      refine w_goto (tgt := 7) dX10_cloudsBy_54 rfl ?_
      exact w_weak (l' := [(0, .ref 76), (1, .int (nZ x1)), (2, .int (nZ z1)), (3, .int (nZ z8)), (4, .int (nZ (x4 + 1)))]) (by intro q hq; simp only [List.mem_cons, List.not_mem_nil, or_false] at hq ⊢; rcases hq with rfl | rfl | rfl | rfl | rfl <;> simp) h
theorem dX10_dueBy_0 : decode cX10_dueBy 0 = .ok (.aload_n 0, 1) := by decide +kernel
theorem dX10_dueBy_1 : decode cX10_dueBy 1 = .ok (.sipush 1440, 3) := by decide +kernel
theorem dX10_dueBy_4 : decode cX10_dueBy 4 = .ok (.aload_n 0, 1) := by decide +kernel
theorem dX10_dueBy_5 : decode cX10_dueBy 5 = .ok (.getfield 23, 3) := by decide +kernel
theorem dX10_dueBy_8 : decode cX10_dueBy 8 = .ok (.iconst 3, 1) := by decide +kernel
theorem dX10_dueBy_9 : decode cX10_dueBy 9 = .ok (.iaload, 1) := by decide +kernel
theorem dX10_dueBy_10 : decode cX10_dueBy 10 = .ok (.aload_n 0, 1) := by decide +kernel
theorem dX10_dueBy_11 : decode cX10_dueBy 11 = .ok (.iload_n 1, 1) := by decide +kernel
theorem dX10_dueBy_12 : decode cX10_dueBy 12 = .ok (.invokevirtual 336, 3) := by decide +kernel
theorem dX10_dueBy_15 : decode cX10_dueBy 15 = .ok (.invokevirtual 268, 3) := by decide +kernel
theorem dX10_dueBy_18 : decode cX10_dueBy 18 = .ok (.aload_n 0, 1) := by decide +kernel
theorem dX10_dueBy_19 : decode cX10_dueBy 19 = .ok (.getfield 252, 3) := by decide +kernel
theorem dX10_dueBy_22 : decode cX10_dueBy 22 = .ok (.ireturn, 1) := by decide +kernel
set_option maxRecDepth 10000 in
theorem t_X10_dueBy {sc : Nat × (Nat → Int32)} {d : Nat} {Q : aO → aH → Prop} {σ : aH} {u : Nat}  {x1 : Int} (hG : G σ u) (rx1 : inR x1)
    (h : (∃ (r5 : Int) (σ1 : aH), Ev sc d mX10_cloudsBy [.ref 76, .int (nZ x1)] σ (.inl (some (.int (nZ r5)))) σ1 ∧ G σ1 u ∧ inR r5 ∧ (∃ σ6 : aH, Ev sc d mX10_goes [.ref 76, .int (nZ 1440), .int (nZ (rI σ 80 3)), .int (nZ r5)] σ1 (.inl none) σ6 ∧ G σ6 u ∧ Q (.inl (some (.int (nZ (rI σ6 76 36))))) σ6))) :
    T sc (d + 1) mX10_dueBy [.ref 76, .int (nZ x1)] σ Q := by
  refine T.of (c := 10) (code := cX10_dueBy) (mL := 2) (rt := (some .int)) (ini := false) (l := [(0, .ref 76), (1, .int (nZ x1))]) rfl rfl rfl rfl (by decide) hs_X10_dueBy rfl rfl ?_
  refine w_aload_n dX10_dueBy_0 rfl (List.Mem.head _) ?_
  refine w_sipush (v := nZ 1440) dX10_dueBy_1 (by decide) ?_
  refine w_aload_n dX10_dueBy_4 rfl (List.Mem.head _) ?_
  refine w_getR (ci := 10) (k := 11) (b := 80) dX10_dueBy_5 fl_10_23 (by decide) (gT hG rfl (lt_of rfl)) (gR hG (b := 80) rfl) ?_
  refine w_iconst (v := nZ 3) dX10_dueBy_8 (by decide) ?_
  refine i_iald (n := 8) dX10_dueBy_9 (gT hG rfl (lt_of rfl)) (gL hG rfl) (by decide) (by decide) ?_
  refine w_aload_n dX10_dueBy_10 rfl (List.Mem.head _) ?_
  refine w_iload_n dX10_dueBy_11 rfl (List.Mem.tail _ (List.Mem.head _)) ?_
  obtain ⟨r5, σ1, hc3, hG2, rr4, h⟩ := h
  refine w_callV dX10_dueBy_12 ml_10_336 ⟨ok_X10_cloudsBy, vi_X10_cloudsBy⟩ hs_X10_cloudsBy (As := [.int (nZ x1)]) rfl rfl (gT hG rfl (lt_of rfl)) (Nat.le_of_ble_eq_true rfl) hc3 ?_
  show wp (Ev sc d) 10 cX10_dueBy 2 (some .int) false [] sc Q 15 [(0, .ref 76), (1, .int (nZ x1))] [.int (nZ r5), .int (nZ (rI σ 80 3)), .int (nZ 1440), .ref 76] σ1
  obtain ⟨σ6, hc8, hG7, h⟩ := h
  refine w_callV dX10_dueBy_15 ml_10_268 ⟨ok_X10_goes, vi_X10_goes⟩ hs_X10_goes (As := [.int (nZ 1440), .int (nZ (rI σ 80 3)), .int (nZ r5)]) rfl rfl (gT hG2 rfl (lt_of rfl)) (Nat.le_of_ble_eq_true rfl) hc8 ?_
  show wp (Ev sc d) 10 cX10_dueBy 2 (some .int) false [] sc Q 18 [(0, .ref 76), (1, .int (nZ x1))] [] σ6
  refine w_aload_n dX10_dueBy_18 rfl (List.Mem.head _) ?_
  refine i_getI (ci := 10) 36 rfl dX10_dueBy_19 fl_10_252 (by decide) (gT hG7 rfl (lt_of rfl)) ?_
  exact w_iret dX10_dueBy_22 rfl h
theorem dX10_clouds_0 : decode cX10_clouds 0 = .ok (.aload_n 0, 1) := by decide +kernel
theorem dX10_clouds_1 : decode cX10_clouds 1 = .ok (.iconst 0, 1) := by decide +kernel
theorem dX10_clouds_2 : decode cX10_clouds 2 = .ok (.putfield 106, 3) := by decide +kernel
theorem dX10_clouds_5 : decode cX10_clouds 5 = .ok (.aload_n 0, 1) := by decide +kernel
theorem dX10_clouds_6 : decode cX10_clouds 6 = .ok (.iload_n 2, 1) := by decide +kernel
theorem dX10_clouds_7 : decode cX10_clouds 7 = .ok (.iconst 0, 1) := by decide +kernel
theorem dX10_clouds_8 : decode cX10_clouds 8 = .ok (.iconst 1, 1) := by decide +kernel
theorem dX10_clouds_9 : decode cX10_clouds 9 = .ok (.invokestatic 140, 3) := by decide +kernel
theorem dX10_clouds_12 : decode cX10_clouds 12 = .ok (.ifCond .ne 7, 3) := by decide +kernel
theorem dX10_clouds_15 : decode cX10_clouds 15 = .ok (.iconst 1, 1) := by decide +kernel
theorem dX10_clouds_16 : decode cX10_clouds 16 = .ok (.goto 4, 3) := by decide +kernel
theorem dX10_clouds_19 : decode cX10_clouds 19 = .ok (.iconst 0, 1) := by decide +kernel
theorem dX10_clouds_20 : decode cX10_clouds 20 = .ok (.iconst 1, 1) := by decide +kernel
theorem dX10_clouds_21 : decode cX10_clouds 21 = .ok (.iconst 1, 1) := by decide +kernel
theorem dX10_clouds_22 : decode cX10_clouds 22 = .ok (.invokevirtual 196, 3) := by decide +kernel
theorem dX10_clouds_25 : decode cX10_clouds 25 = .ok (.ifCond .eq 5, 3) := by decide +kernel
theorem dX10_clouds_28 : decode cX10_clouds 28 = .ok (.iconst 0, 1) := by decide +kernel
theorem dX10_clouds_29 : decode cX10_clouds 29 = .ok (.ireturn, 1) := by decide +kernel
theorem dX10_clouds_30 : decode cX10_clouds 30 = .ok (.iload_n 2, 1) := by decide +kernel
theorem dX10_clouds_31 : decode cX10_clouds 31 = .ok (.iconst 1, 1) := by decide +kernel
theorem dX10_clouds_32 : decode cX10_clouds 32 = .ok (.if_icmp .ne 11, 3) := by decide +kernel
theorem dX10_clouds_35 : decode cX10_clouds 35 = .ok (.aload_n 0, 1) := by decide +kernel
theorem dX10_clouds_36 : decode cX10_clouds 36 = .ok (.iload_n 1, 1) := by decide +kernel
theorem dX10_clouds_37 : decode cX10_clouds 37 = .ok (.invokevirtual 336, 3) := by decide +kernel
theorem dX10_clouds_40 : decode cX10_clouds 40 = .ok (.goto 8, 3) := by decide +kernel
theorem dX10_clouds_43 : decode cX10_clouds 43 = .ok (.aload_n 0, 1) := by decide +kernel
theorem dX10_clouds_44 : decode cX10_clouds 44 = .ok (.iload_n 1, 1) := by decide +kernel
theorem dX10_clouds_45 : decode cX10_clouds 45 = .ok (.invokevirtual 339, 3) := by decide +kernel
theorem dX10_clouds_48 : decode cX10_clouds 48 = .ok (.ireturn, 1) := by decide +kernel
def L_X10_clouds_20 (C : aM → List Value → aH → aO → aH → Prop) (sc : Nat × (Nat → Int32)) (P : aO → aH → Prop) (x1 : Int) (x2 : Int) (s0 : Int) (σ : aH) : Prop :=
    wp C 10 cX10_clouds 3 (some .int) false [] sc P 20 [(0, .ref 76), (1, .int (nZ x1)), (2, .int (nZ x2))] [.int (nZ s0), .ref 76] σ
set_option maxRecDepth 10000 in
theorem t_X10_clouds {sc : Nat × (Nat → Int32)} {d : Nat} {Q : aO → aH → Prop} {σ : aH} {u : Nat}  {x1 : Int} {x2 : Int} (hG : G σ u) (rx1 : inR x1) (rx2 : inR x2)
    (h : (∀ σ1 : aH, wI σ 76 0 0 = σ1 → (∃ (r8 : Int) (σ4 : aH), Ev sc d mX10_in [.int (nZ x2), .int (nZ 0), .int (nZ 1)] σ1 (.inl (some (.int (nZ r8)))) σ4 ∧ G σ4 u ∧ inR r8 ∧ ((¬ r8 = 0 → L_X10_clouds_20 (Ev sc d) sc Q x1 x2 0 σ4) ∧ (r8 = 0 → L_X10_clouds_20 (Ev sc d) sc Q x1 x2 1 σ4))))) :
    T sc (d + 1) mX10_clouds [.ref 76, .int (nZ x1), .int (nZ x2)] σ Q := by
  refine T.of (c := 10) (code := cX10_clouds) (mL := 3) (rt := (some .int)) (ini := false) (l := [(0, .ref 76), (1, .int (nZ x1)), (2, .int (nZ x2))]) rfl rfl rfl rfl (by decide) hs_X10_clouds rfl rfl ?_
  refine w_aload_n dX10_clouds_0 rfl (List.Mem.head _) ?_
  refine w_iconst (v := nZ 0) dX10_clouds_1 (by decide) ?_
  refine i_putI (ci := 10) 0 rfl dX10_clouds_2 fl_10_106 (by decide) (gT hG rfl (lt_of rfl)) (fun σ1 eσ2 => ?_)
  replace h := h σ1 eσ2
  have hG3 : G σ1 u := eσ2 ▸ G.wI hG
  refine w_aload_n dX10_clouds_5 rfl (List.Mem.head _) ?_
  refine w_iload_n dX10_clouds_6 rfl (List.Mem.tail _ (List.Mem.tail _ (List.Mem.head _))) ?_
  refine w_iconst (v := nZ 0) dX10_clouds_7 (by decide) ?_
  refine w_iconst (v := nZ 1) dX10_clouds_8 (by decide) ?_
  obtain ⟨r8, σ4, hc6, hG5, rr7, h⟩ := h
  refine w_callS dX10_clouds_9 ml_10_140 ⟨ok_X10_in, st_X10_in⟩ hs_X10_in (As := [.int (nZ x2), .int (nZ 0), .int (nZ 1)]) rfl rfl (Nat.le_of_ble_eq_true rfl) hc6 ?_
  show wp (Ev sc d) 10 cX10_clouds 3 (some .int) false [] sc Q 12 [(0, .ref 76), (1, .int (nZ x1)), (2, .int (nZ x2))] [.int (nZ r8), .ref 76] σ4
  refine i_if_ne (tgt := 19) dX10_clouds_12 rfl rr7 (fun c9 => ?_) (fun c9 => ?_)
  · replace h := h.1 c9
    refine w_iconst (v := nZ 0) dX10_clouds_19 (by decide) ?_
    exact h
  · replace h := h.2 c9
    refine w_iconst (v := nZ 1) dX10_clouds_15 (by decide) ?_
    refine w_goto (tgt := 20) dX10_clouds_16 rfl ?_
    exact h
set_option maxRecDepth 10000 in
theorem v_X10_clouds_20 {C : aM → List Value → aH → aO → aH → Prop} {sc : Nat × (Nat → Int32)} {P : aO → aH → Prop} {σ : aH} {u : Nat}  {x1 : Int} {x2 : Int} {s0 : Int} (hG : G σ u) (rx1 : inR x1) (rx2 : inR x2) (rs0 : inR s0)
    (h : (∃ (r5 : Int) (σ1 : aH), C mX10_bad [.ref 76, .int (nZ s0), .int (nZ 1), .int (nZ 1)] σ (.inl (some (.int (nZ r5)))) σ1 ∧ G σ1 u ∧ inR r5 ∧ ((r5 = 0 → ((¬ x2 = 1 → (∃ (r10 : Int) (σ6 : aH), C mX10_dueBy [.ref 76, .int (nZ x1)] σ1 (.inl (some (.int (nZ r10)))) σ6 ∧ G σ6 u ∧ inR r10 ∧ P (.inl (some (.int (nZ r10)))) σ6)) ∧ (x2 = 1 → (∃ (r15 : Int) (σ11 : aH), C mX10_cloudsBy [.ref 76, .int (nZ x1)] σ1 (.inl (some (.int (nZ r15)))) σ11 ∧ G σ11 u ∧ inR r15 ∧ P (.inl (some (.int (nZ r15)))) σ11)))) ∧ (¬ (r5 = 0) → P (.inl (some (.int (nZ 0)))) σ1)))) :
    L_X10_clouds_20 C sc P x1 x2 s0 σ := by
  unfold L_X10_clouds_20
  refine w_iconst (v := nZ 1) dX10_clouds_20 (by decide) ?_
  refine w_iconst (v := nZ 1) dX10_clouds_21 (by decide) ?_
  obtain ⟨r5, σ1, hc3, hG2, rr4, h⟩ := h
  refine w_callV dX10_clouds_22 ml_10_196 ⟨ok_X10_bad, vi_X10_bad⟩ hs_X10_bad (As := [.int (nZ s0), .int (nZ 1), .int (nZ 1)]) rfl rfl (gT hG rfl (lt_of rfl)) (Nat.le_of_ble_eq_true rfl) hc3 ?_
  show wp C 10 cX10_clouds 3 (some .int) false [] sc P 25 [(0, .ref 76), (1, .int (nZ x1)), (2, .int (nZ x2))] [.int (nZ r5)] σ1
  refine i_if_eq (tgt := 30) dX10_clouds_25 rfl rr4 (fun c9 => ?_) (fun c9 => ?_)
  · replace h := h.1 c9
    refine w_iload_n dX10_clouds_30 rfl (List.Mem.tail _ (List.Mem.tail _ (List.Mem.head _))) ?_
    refine w_iconst (v := nZ 1) dX10_clouds_31 (by decide) ?_
    refine i_cmp_ne (tgt := 43) dX10_clouds_32 rfl rx2 (by decide) (fun c9 => ?_) (fun c9 => ?_)
    · replace h := h.1 c9
      refine w_aload_n dX10_clouds_43 rfl (List.Mem.head _) ?_
      refine w_iload_n dX10_clouds_44 rfl (List.Mem.tail _ (List.Mem.head _)) ?_
      obtain ⟨r10, σ6, hc8, hG7, rr9, h⟩ := h
      refine w_callV dX10_clouds_45 ml_10_339 ⟨ok_X10_dueBy, vi_X10_dueBy⟩ hs_X10_dueBy (As := [.int (nZ x1)]) rfl rfl (gT hG2 rfl (lt_of rfl)) (Nat.le_of_ble_eq_true rfl) hc8 ?_
      show wp C 10 cX10_clouds 3 (some .int) false [] sc P 48 [(0, .ref 76), (1, .int (nZ x1)), (2, .int (nZ x2))] [.int (nZ r10)] σ6
      exact w_iret dX10_clouds_48 rfl h
    · replace h := h.2 c9
      refine w_aload_n dX10_clouds_35 rfl (List.Mem.head _) ?_
      refine w_iload_n dX10_clouds_36 rfl (List.Mem.tail _ (List.Mem.head _)) ?_
      obtain ⟨r15, σ11, hc13, hG12, rr14, h⟩ := h
      refine w_callV dX10_clouds_37 ml_10_336 ⟨ok_X10_cloudsBy, vi_X10_cloudsBy⟩ hs_X10_cloudsBy (As := [.int (nZ x1)]) rfl rfl (gT hG2 rfl (lt_of rfl)) (Nat.le_of_ble_eq_true rfl) hc13 ?_
      show wp C 10 cX10_clouds 3 (some .int) false [] sc P 40 [(0, .ref 76), (1, .int (nZ x1)), (2, .int (nZ x2))] [.int (nZ r15)] σ11
      refine w_goto (tgt := 48) dX10_clouds_40 rfl ?_
      exact w_iret dX10_clouds_48 rfl h
  · replace h := h.2 c9
    refine w_iconst (v := nZ 0) dX10_clouds_28 (by decide) ?_
    exact w_iret dX10_clouds_29 rfl h
theorem dX10_span_0 : decode cX10_span 0 = .ok (.aload_n 0, 1) := by decide +kernel
theorem dX10_span_1 : decode cX10_span 1 = .ok (.iconst 0, 1) := by decide +kernel
theorem dX10_span_2 : decode cX10_span 2 = .ok (.putfield 106, 3) := by decide +kernel
theorem dX10_span_5 : decode cX10_span 5 = .ok (.aload_n 0, 1) := by decide +kernel
theorem dX10_span_6 : decode cX10_span 6 = .ok (.iload_n 2, 1) := by decide +kernel
theorem dX10_span_7 : decode cX10_span 7 = .ok (.iconst 1, 1) := by decide +kernel
theorem dX10_span_8 : decode cX10_span 8 = .ok (.bipush 60, 2) := by decide +kernel
theorem dX10_span_10 : decode cX10_span 10 = .ok (.invokestatic 140, 3) := by decide +kernel
theorem dX10_span_13 : decode cX10_span 13 = .ok (.ifCond .eq 12, 3) := by decide +kernel
theorem dX10_span_16 : decode cX10_span 16 = .ok (.iload_n 3, 1) := by decide +kernel
theorem dX10_span_17 : decode cX10_span 17 = .ok (.iconst 0, 1) := by decide +kernel
theorem dX10_span_18 : decode cX10_span 18 = .ok (.iconst 1, 1) := by decide +kernel
theorem dX10_span_19 : decode cX10_span 19 = .ok (.invokestatic 140, 3) := by decide +kernel
theorem dX10_span_22 : decode cX10_span 22 = .ok (.ifCond .ne 7, 3) := by decide +kernel
theorem dX10_span_25 : decode cX10_span 25 = .ok (.iconst 1, 1) := by decide +kernel
theorem dX10_span_26 : decode cX10_span 26 = .ok (.goto 4, 3) := by decide +kernel
theorem dX10_span_29 : decode cX10_span 29 = .ok (.iconst 0, 1) := by decide +kernel
theorem dX10_span_30 : decode cX10_span 30 = .ok (.iconst 1, 1) := by decide +kernel
theorem dX10_span_31 : decode cX10_span 31 = .ok (.iconst 1, 1) := by decide +kernel
theorem dX10_span_32 : decode cX10_span 32 = .ok (.invokevirtual 196, 3) := by decide +kernel
theorem dX10_span_35 : decode cX10_span 35 = .ok (.ifCond .eq 5, 3) := by decide +kernel
theorem dX10_span_38 : decode cX10_span 38 = .ok (.iconst 0, 1) := by decide +kernel
theorem dX10_span_39 : decode cX10_span 39 = .ok (.ireturn, 1) := by decide +kernel
theorem dX10_span_40 : decode cX10_span 40 = .ok (.aload_n 0, 1) := by decide +kernel
theorem dX10_span_41 : decode cX10_span 41 = .ok (.iload_n 1, 1) := by decide +kernel
theorem dX10_span_42 : decode cX10_span 42 = .ok (.invokevirtual 339, 3) := by decide +kernel
theorem dX10_span_45 : decode cX10_span 45 = .ok (.istore 4, 2) := by decide +kernel
theorem dX10_span_47 : decode cX10_span 47 = .ok (.iconst 1, 1) := by decide +kernel
theorem dX10_span_48 : decode cX10_span 48 = .ok (.istore 5, 2) := by decide +kernel
theorem dX10_span_50 : decode cX10_span 50 = .ok (.iload 5, 2) := by decide +kernel
theorem dX10_span_52 : decode cX10_span 52 = .ok (.iload_n 2, 1) := by decide +kernel
theorem dX10_span_53 : decode cX10_span 53 = .ok (.if_icmp .ge 56, 3) := by decide +kernel
theorem dX10_span_56 : decode cX10_span 56 = .ok (.aload_n 0, 1) := by decide +kernel
theorem dX10_span_57 : decode cX10_span 57 = .ok (.iload_n 1, 1) := by decide +kernel
theorem dX10_span_58 : decode cX10_span 58 = .ok (.iload 5, 2) := by decide +kernel
theorem dX10_span_60 : decode cX10_span 60 = .ok (.iadd, 1) := by decide +kernel
theorem dX10_span_61 : decode cX10_span 61 = .ok (.invokevirtual 339, 3) := by decide +kernel
theorem dX10_span_64 : decode cX10_span 64 = .ok (.istore 6, 2) := by decide +kernel
theorem dX10_span_66 : decode cX10_span 66 = .ok (.iload_n 3, 1) := by decide +kernel
theorem dX10_span_67 : decode cX10_span 67 = .ok (.ifCond .ne 20, 3) := by decide +kernel
theorem dX10_span_70 : decode cX10_span 70 = .ok (.iload 6, 2) := by decide +kernel
theorem dX10_span_72 : decode cX10_span 72 = .ok (.iload 4, 2) := by decide +kernel
theorem dX10_span_74 : decode cX10_span 74 = .ok (.if_icmp .ge 8, 3) := by decide +kernel
theorem dX10_span_77 : decode cX10_span 77 = .ok (.iload 6, 2) := by decide +kernel
theorem dX10_span_79 : decode cX10_span 79 = .ok (.goto 22, 3) := by decide +kernel
theorem dX10_span_82 : decode cX10_span 82 = .ok (.iload 4, 2) := by decide +kernel
theorem dX10_span_84 : decode cX10_span 84 = .ok (.goto 17, 3) := by decide +kernel
theorem dX10_span_87 : decode cX10_span 87 = .ok (.iload 6, 2) := by decide +kernel
theorem dX10_span_89 : decode cX10_span 89 = .ok (.iload 4, 2) := by decide +kernel
theorem dX10_span_91 : decode cX10_span 91 = .ok (.if_icmp .le 8, 3) := by decide +kernel
theorem dX10_span_94 : decode cX10_span 94 = .ok (.iload 6, 2) := by decide +kernel
theorem dX10_span_96 : decode cX10_span 96 = .ok (.goto 5, 3) := by decide +kernel
theorem dX10_span_99 : decode cX10_span 99 = .ok (.iload 4, 2) := by decide +kernel
theorem dX10_span_101 : decode cX10_span 101 = .ok (.istore 4, 2) := by decide +kernel
theorem dX10_span_103 : decode cX10_span 103 = .ok (.iinc 5 1, 3) := by decide +kernel
theorem dX10_span_106 : decode cX10_span 106 = .ok (.goto (-56), 3) := by decide +kernel
theorem dX10_span_109 : decode cX10_span 109 = .ok (.iload 4, 2) := by decide +kernel
theorem dX10_span_111 : decode cX10_span 111 = .ok (.ireturn, 1) := by decide +kernel
def L_X10_span_50 (C : aM → List Value → aH → aO → aH → Prop) (sc : Nat × (Nat → Int32)) (P : aO → aH → Prop) (x1 : Int) (x2 : Int) (x3 : Int) (x4 : Int) (x5 : Int) (σ : aH) : Prop :=
    wp C 10 cX10_span 7 (some .int) false [] sc P 50 [(0, .ref 76), (1, .int (nZ x1)), (2, .int (nZ x2)), (3, .int (nZ x3)), (4, .int (nZ x4)), (5, .int (nZ x5))] [] σ
set_option maxRecDepth 10000 in
theorem t_X10_span {sc : Nat × (Nat → Int32)} {d : Nat} {Q : aO → aH → Prop} {σ : aH} {u : Nat}  {x1 : Int} {x2 : Int} {x3 : Int} (hG : G σ u) (rx1 : inR x1) (rx2 : inR x2) (rx3 : inR x3)
    (h : (∀ σ1 : aH, wI σ 76 0 0 = σ1 → (∃ (r8 : Int) (σ4 : aH), Ev sc d mX10_in [.int (nZ x2), .int (nZ 1), .int (nZ 60)] σ1 (.inl (some (.int (nZ r8)))) σ4 ∧ G σ4 u ∧ inR r8 ∧ ((r8 = 0 → (∃ (r13 : Int) (σ9 : aH), Ev sc d mX10_bad [.ref 76, .int (nZ 1), .int (nZ 1), .int (nZ 1)] σ4 (.inl (some (.int (nZ r13)))) σ9 ∧ G σ9 u ∧ inR r13 ∧ ((r13 = 0 → (∃ (r18 : Int) (σ14 : aH), Ev sc d mX10_dueBy [.ref 76, .int (nZ x1)] σ9 (.inl (some (.int (nZ r18)))) σ14 ∧ G σ14 u ∧ inR r18 ∧ L_X10_span_50 (Ev sc d) sc Q x1 x2 x3 r18 1 σ14)) ∧ (¬ (r13 = 0) → Q (.inl (some (.int (nZ 0)))) σ9)))) ∧ (¬ (r8 = 0) → (∃ (r23 : Int) (σ19 : aH), Ev sc d mX10_in [.int (nZ x3), .int (nZ 0), .int (nZ 1)] σ4 (.inl (some (.int (nZ r23)))) σ19 ∧ G σ19 u ∧ inR r23 ∧ ((¬ r23 = 0 → (∃ (r28 : Int) (σ24 : aH), Ev sc d mX10_bad [.ref 76, .int (nZ 0), .int (nZ 1), .int (nZ 1)] σ19 (.inl (some (.int (nZ r28)))) σ24 ∧ G σ24 u ∧ inR r28 ∧ ((r28 = 0 → (∃ (r33 : Int) (σ29 : aH), Ev sc d mX10_dueBy [.ref 76, .int (nZ x1)] σ24 (.inl (some (.int (nZ r33)))) σ29 ∧ G σ29 u ∧ inR r33 ∧ L_X10_span_50 (Ev sc d) sc Q x1 x2 x3 r33 1 σ29)) ∧ (¬ (r28 = 0) → Q (.inl (some (.int (nZ 0)))) σ24)))) ∧ (r23 = 0 → (∃ (r38 : Int) (σ34 : aH), Ev sc d mX10_bad [.ref 76, .int (nZ 1), .int (nZ 1), .int (nZ 1)] σ19 (.inl (some (.int (nZ r38)))) σ34 ∧ G σ34 u ∧ inR r38 ∧ ((r38 = 0 → (∃ (r43 : Int) (σ39 : aH), Ev sc d mX10_dueBy [.ref 76, .int (nZ x1)] σ34 (.inl (some (.int (nZ r43)))) σ39 ∧ G σ39 u ∧ inR r43 ∧ L_X10_span_50 (Ev sc d) sc Q x1 x2 x3 r43 1 σ39)) ∧ (¬ (r38 = 0) → Q (.inl (some (.int (nZ 0)))) σ34))))))))))) :
    T sc (d + 1) mX10_span [.ref 76, .int (nZ x1), .int (nZ x2), .int (nZ x3)] σ Q := by
  refine T.of (c := 10) (code := cX10_span) (mL := 7) (rt := (some .int)) (ini := false) (l := [(0, .ref 76), (1, .int (nZ x1)), (2, .int (nZ x2)), (3, .int (nZ x3))]) rfl rfl rfl rfl (by decide) hs_X10_span rfl rfl ?_
  refine w_aload_n dX10_span_0 rfl (List.Mem.head _) ?_
  refine w_iconst (v := nZ 0) dX10_span_1 (by decide) ?_
  refine i_putI (ci := 10) 0 rfl dX10_span_2 fl_10_106 (by decide) (gT hG rfl (lt_of rfl)) (fun σ1 eσ2 => ?_)
  replace h := h σ1 eσ2
  have hG3 : G σ1 u := eσ2 ▸ G.wI hG
  refine w_aload_n dX10_span_5 rfl (List.Mem.head _) ?_
  refine w_iload_n dX10_span_6 rfl (List.Mem.tail _ (List.Mem.tail _ (List.Mem.head _))) ?_
  refine w_iconst (v := nZ 1) dX10_span_7 (by decide) ?_
  refine w_bipush (v := nZ 60) dX10_span_8 (by decide) ?_
  obtain ⟨r8, σ4, hc6, hG5, rr7, h⟩ := h
  refine w_callS dX10_span_10 ml_10_140 ⟨ok_X10_in, st_X10_in⟩ hs_X10_in (As := [.int (nZ x2), .int (nZ 1), .int (nZ 60)]) rfl rfl (Nat.le_of_ble_eq_true rfl) hc6 ?_
  show wp (Ev sc d) 10 cX10_span 7 (some .int) false [] sc Q 13 [(0, .ref 76), (1, .int (nZ x1)), (2, .int (nZ x2)), (3, .int (nZ x3))] [.int (nZ r8), .ref 76] σ4
  refine i_if_eq (tgt := 25) dX10_span_13 rfl rr7 (fun c9 => ?_) (fun c9 => ?_)
  · replace h := h.1 c9
    refine w_iconst (v := nZ 1) dX10_span_25 (by decide) ?_
    refine w_goto (tgt := 30) dX10_span_26 rfl ?_
    refine w_iconst (v := nZ 1) dX10_span_30 (by decide) ?_
    refine w_iconst (v := nZ 1) dX10_span_31 (by decide) ?_
    obtain ⟨r13, σ9, hc11, hG10, rr12, h⟩ := h
    refine w_callV dX10_span_32 ml_10_196 ⟨ok_X10_bad, vi_X10_bad⟩ hs_X10_bad (As := [.int (nZ 1), .int (nZ 1), .int (nZ 1)]) rfl rfl (gT hG5 rfl (lt_of rfl)) (Nat.le_of_ble_eq_true rfl) hc11 ?_
    show wp (Ev sc d) 10 cX10_span 7 (some .int) false [] sc Q 35 [(0, .ref 76), (1, .int (nZ x1)), (2, .int (nZ x2)), (3, .int (nZ x3))] [.int (nZ r13)] σ9
    refine i_if_eq (tgt := 40) dX10_span_35 rfl rr12 (fun c9 => ?_) (fun c9 => ?_)
    · replace h := h.1 c9
      refine w_aload_n dX10_span_40 rfl (List.Mem.head _) ?_
      refine w_iload_n dX10_span_41 rfl (List.Mem.tail _ (List.Mem.head _)) ?_
      obtain ⟨r18, σ14, hc16, hG15, rr17, h⟩ := h
      refine w_callV dX10_span_42 ml_10_339 ⟨ok_X10_dueBy, vi_X10_dueBy⟩ hs_X10_dueBy (As := [.int (nZ x1)]) rfl rfl (gT hG10 rfl (lt_of rfl)) (Nat.le_of_ble_eq_true rfl) hc16 ?_
      show wp (Ev sc d) 10 cX10_span 7 (some .int) false [] sc Q 45 [(0, .ref 76), (1, .int (nZ x1)), (2, .int (nZ x2)), (3, .int (nZ x3))] [.int (nZ r18)] σ14
      refine w_istore (l' := [(4, .int (nZ r18)), (0, .ref 76), (1, .int (nZ x1)), (2, .int (nZ x2)), (3, .int (nZ x3))]) dX10_span_45 (by decide) rfl ?_
      refine w_iconst (v := nZ 1) dX10_span_47 (by decide) ?_
      refine w_istore (l' := [(5, .int (nZ 1)), (4, .int (nZ r18)), (0, .ref 76), (1, .int (nZ x1)), (2, .int (nZ x2)), (3, .int (nZ x3))]) dX10_span_48 (by decide) rfl ?_
      exact w_weak (l' := [(0, .ref 76), (1, .int (nZ x1)), (2, .int (nZ x2)), (3, .int (nZ x3)), (4, .int (nZ r18)), (5, .int (nZ 1))]) (by intro q hq; simp only [List.mem_cons, List.not_mem_nil, or_false] at hq ⊢; rcases hq with rfl | rfl | rfl | rfl | rfl | rfl <;> simp) h
    · replace h := h.2 c9
      refine w_iconst (v := nZ 0) dX10_span_38 (by decide) ?_
      exact w_iret dX10_span_39 rfl h
  · replace h := h.2 c9
    refine w_iload_n dX10_span_16 rfl (List.Mem.tail _ (List.Mem.tail _ (List.Mem.tail _ (List.Mem.head _)))) ?_
    refine w_iconst (v := nZ 0) dX10_span_17 (by decide) ?_
    refine w_iconst (v := nZ 1) dX10_span_18 (by decide) ?_
    obtain ⟨r23, σ19, hc21, hG20, rr22, h⟩ := h
    refine w_callS dX10_span_19 ml_10_140 ⟨ok_X10_in, st_X10_in⟩ hs_X10_in (As := [.int (nZ x3), .int (nZ 0), .int (nZ 1)]) rfl rfl (Nat.le_of_ble_eq_true rfl) hc21 ?_
    show wp (Ev sc d) 10 cX10_span 7 (some .int) false [] sc Q 22 [(0, .ref 76), (1, .int (nZ x1)), (2, .int (nZ x2)), (3, .int (nZ x3))] [.int (nZ r23), .ref 76] σ19
    refine i_if_ne (tgt := 29) dX10_span_22 rfl rr22 (fun c9 => ?_) (fun c9 => ?_)
    · replace h := h.1 c9
      refine w_iconst (v := nZ 0) dX10_span_29 (by decide) ?_
      refine w_iconst (v := nZ 1) dX10_span_30 (by decide) ?_
      refine w_iconst (v := nZ 1) dX10_span_31 (by decide) ?_
      obtain ⟨r28, σ24, hc26, hG25, rr27, h⟩ := h
      refine w_callV dX10_span_32 ml_10_196 ⟨ok_X10_bad, vi_X10_bad⟩ hs_X10_bad (As := [.int (nZ 0), .int (nZ 1), .int (nZ 1)]) rfl rfl (gT hG20 rfl (lt_of rfl)) (Nat.le_of_ble_eq_true rfl) hc26 ?_
      show wp (Ev sc d) 10 cX10_span 7 (some .int) false [] sc Q 35 [(0, .ref 76), (1, .int (nZ x1)), (2, .int (nZ x2)), (3, .int (nZ x3))] [.int (nZ r28)] σ24
      refine i_if_eq (tgt := 40) dX10_span_35 rfl rr27 (fun c9 => ?_) (fun c9 => ?_)
      · replace h := h.1 c9
        refine w_aload_n dX10_span_40 rfl (List.Mem.head _) ?_
        refine w_iload_n dX10_span_41 rfl (List.Mem.tail _ (List.Mem.head _)) ?_
        obtain ⟨r33, σ29, hc31, hG30, rr32, h⟩ := h
        refine w_callV dX10_span_42 ml_10_339 ⟨ok_X10_dueBy, vi_X10_dueBy⟩ hs_X10_dueBy (As := [.int (nZ x1)]) rfl rfl (gT hG25 rfl (lt_of rfl)) (Nat.le_of_ble_eq_true rfl) hc31 ?_
        show wp (Ev sc d) 10 cX10_span 7 (some .int) false [] sc Q 45 [(0, .ref 76), (1, .int (nZ x1)), (2, .int (nZ x2)), (3, .int (nZ x3))] [.int (nZ r33)] σ29
        refine w_istore (l' := [(4, .int (nZ r33)), (0, .ref 76), (1, .int (nZ x1)), (2, .int (nZ x2)), (3, .int (nZ x3))]) dX10_span_45 (by decide) rfl ?_
        refine w_iconst (v := nZ 1) dX10_span_47 (by decide) ?_
        refine w_istore (l' := [(5, .int (nZ 1)), (4, .int (nZ r33)), (0, .ref 76), (1, .int (nZ x1)), (2, .int (nZ x2)), (3, .int (nZ x3))]) dX10_span_48 (by decide) rfl ?_
        exact w_weak (l' := [(0, .ref 76), (1, .int (nZ x1)), (2, .int (nZ x2)), (3, .int (nZ x3)), (4, .int (nZ r33)), (5, .int (nZ 1))]) (by intro q hq; simp only [List.mem_cons, List.not_mem_nil, or_false] at hq ⊢; rcases hq with rfl | rfl | rfl | rfl | rfl | rfl <;> simp) h
      · replace h := h.2 c9
        refine w_iconst (v := nZ 0) dX10_span_38 (by decide) ?_
        exact w_iret dX10_span_39 rfl h
    · replace h := h.2 c9
      refine w_iconst (v := nZ 1) dX10_span_25 (by decide) ?_
      refine w_goto (tgt := 30) dX10_span_26 rfl ?_
      refine w_iconst (v := nZ 1) dX10_span_30 (by decide) ?_
      refine w_iconst (v := nZ 1) dX10_span_31 (by decide) ?_
      obtain ⟨r38, σ34, hc36, hG35, rr37, h⟩ := h
      refine w_callV dX10_span_32 ml_10_196 ⟨ok_X10_bad, vi_X10_bad⟩ hs_X10_bad (As := [.int (nZ 1), .int (nZ 1), .int (nZ 1)]) rfl rfl (gT hG20 rfl (lt_of rfl)) (Nat.le_of_ble_eq_true rfl) hc36 ?_
      show wp (Ev sc d) 10 cX10_span 7 (some .int) false [] sc Q 35 [(0, .ref 76), (1, .int (nZ x1)), (2, .int (nZ x2)), (3, .int (nZ x3))] [.int (nZ r38)] σ34
      refine i_if_eq (tgt := 40) dX10_span_35 rfl rr37 (fun c9 => ?_) (fun c9 => ?_)
      · replace h := h.1 c9
        refine w_aload_n dX10_span_40 rfl (List.Mem.head _) ?_
        refine w_iload_n dX10_span_41 rfl (List.Mem.tail _ (List.Mem.head _)) ?_
        obtain ⟨r43, σ39, hc41, hG40, rr42, h⟩ := h
        refine w_callV dX10_span_42 ml_10_339 ⟨ok_X10_dueBy, vi_X10_dueBy⟩ hs_X10_dueBy (As := [.int (nZ x1)]) rfl rfl (gT hG35 rfl (lt_of rfl)) (Nat.le_of_ble_eq_true rfl) hc41 ?_
        show wp (Ev sc d) 10 cX10_span 7 (some .int) false [] sc Q 45 [(0, .ref 76), (1, .int (nZ x1)), (2, .int (nZ x2)), (3, .int (nZ x3))] [.int (nZ r43)] σ39
        refine w_istore (l' := [(4, .int (nZ r43)), (0, .ref 76), (1, .int (nZ x1)), (2, .int (nZ x2)), (3, .int (nZ x3))]) dX10_span_45 (by decide) rfl ?_
        refine w_iconst (v := nZ 1) dX10_span_47 (by decide) ?_
        refine w_istore (l' := [(5, .int (nZ 1)), (4, .int (nZ r43)), (0, .ref 76), (1, .int (nZ x1)), (2, .int (nZ x2)), (3, .int (nZ x3))]) dX10_span_48 (by decide) rfl ?_
        exact w_weak (l' := [(0, .ref 76), (1, .int (nZ x1)), (2, .int (nZ x2)), (3, .int (nZ x3)), (4, .int (nZ r43)), (5, .int (nZ 1))]) (by intro q hq; simp only [List.mem_cons, List.not_mem_nil, or_false] at hq ⊢; rcases hq with rfl | rfl | rfl | rfl | rfl | rfl <;> simp) h
      · replace h := h.2 c9
        refine w_iconst (v := nZ 0) dX10_span_38 (by decide) ?_
        exact w_iret dX10_span_39 rfl h
set_option maxRecDepth 10000 in
theorem v_X10_span_50 {C : aM → List Value → aH → aO → aH → Prop} {sc : Nat × (Nat → Int32)} {P : aO → aH → Prop} {σ : aH} {u : Nat}  {x1 : Int} {x2 : Int} {x3 : Int} {x4 : Int} {x5 : Int} (hG : G σ u) (rx1 : inR x1) (rx2 : inR x2) (rx3 : inR x3) (rx4 : inR x4) (rx5 : inR x5)
    (h : ((x2 ≤ x5 → P (.inl (some (.int (nZ x4)))) σ) ∧ (¬ (x2 ≤ x5) → (∃ (r5 : Int) (σ1 : aH), C mX10_dueBy [.ref 76, .int (nZ (wr (x1 + x5)))] σ (.inl (some (.int (nZ r5)))) σ1 ∧ G σ1 u ∧ inR r5 ∧ ((¬ x3 = 0 → ((r5 ≤ x4 → (inR (x5 + 1) ∧ L_X10_span_50 C sc P x1 x2 x3 x4 (x5 + 1) σ1)) ∧ (¬ (r5 ≤ x4) → (inR (x5 + 1) ∧ L_X10_span_50 C sc P x1 x2 x3 r5 (x5 + 1) σ1)))) ∧ (x3 = 0 → ((x4 ≤ r5 → (inR (x5 + 1) ∧ L_X10_span_50 C sc P x1 x2 x3 x4 (x5 + 1) σ1)) ∧ (¬ (x4 ≤ r5) → (inR (x5 + 1) ∧ L_X10_span_50 C sc P x1 x2 x3 r5 (x5 + 1) σ1))))))))) :
    L_X10_span_50 C sc P x1 x2 x3 x4 x5 σ := by
  unfold L_X10_span_50
  refine w_iload dX10_span_50 (List.Mem.tail _ (List.Mem.tail _ (List.Mem.tail _ (List.Mem.tail _ (List.Mem.tail _ (List.Mem.head _)))))) ?_
  refine w_iload_n dX10_span_52 rfl (List.Mem.tail _ (List.Mem.tail _ (List.Mem.head _))) ?_
  refine i_cmp_ge (tgt := 109) dX10_span_53 rfl rx5 rx2 (fun c9 => ?_) (fun c9 => ?_)
  · replace h := h.1 c9
    refine w_iload dX10_span_109 (List.Mem.tail _ (List.Mem.tail _ (List.Mem.tail _ (List.Mem.tail _ (List.Mem.head _))))) ?_
    exact w_iret dX10_span_111 rfl h
  · replace h := h.2 c9
    refine w_aload_n dX10_span_56 rfl (List.Mem.head _) ?_
    refine w_iload_n dX10_span_57 rfl (List.Mem.tail _ (List.Mem.head _)) ?_
    refine w_iload dX10_span_58 (List.Mem.tail _ (List.Mem.tail _ (List.Mem.tail _ (List.Mem.tail _ (List.Mem.tail _ (List.Mem.head _)))))) ?_
    refine i_addw dX10_span_60 ?_
    obtain ⟨r5, σ1, hc3, hG2, rr4, h⟩ := h
    refine w_callV dX10_span_61 ml_10_339 ⟨ok_X10_dueBy, vi_X10_dueBy⟩ hs_X10_dueBy (As := [.int (nZ (wr (x1 + x5)))]) rfl rfl (gT hG rfl (lt_of rfl)) (Nat.le_of_ble_eq_true rfl) hc3 ?_
    show wp C 10 cX10_span 7 (some .int) false [] sc P 64 [(0, .ref 76), (1, .int (nZ x1)), (2, .int (nZ x2)), (3, .int (nZ x3)), (4, .int (nZ x4)), (5, .int (nZ x5))] [.int (nZ r5)] σ1
    refine w_istore (l' := [(6, .int (nZ r5)), (0, .ref 76), (1, .int (nZ x1)), (2, .int (nZ x2)), (3, .int (nZ x3)), (4, .int (nZ x4)), (5, .int (nZ x5))]) dX10_span_64 (by decide) rfl ?_
    refine w_iload_n dX10_span_66 rfl (List.Mem.tail _ (List.Mem.tail _ (List.Mem.tail _ (List.Mem.tail _ (List.Mem.head _))))) ?_
    refine i_if_ne (tgt := 87) dX10_span_67 rfl rx3 (fun c9 => ?_) (fun c9 => ?_)
    · replace h := h.1 c9
      refine w_iload dX10_span_87 (List.Mem.head _) ?_
      refine w_iload dX10_span_89 (List.Mem.tail _ (List.Mem.tail _ (List.Mem.tail _ (List.Mem.tail _ (List.Mem.tail _ (List.Mem.head _)))))) ?_
      refine i_cmp_le (tgt := 99) dX10_span_91 rfl rr4 rx4 (fun c9 => ?_) (fun c9 => ?_)
      · replace h := h.1 c9
        refine w_iload dX10_span_99 (List.Mem.tail _ (List.Mem.tail _ (List.Mem.tail _ (List.Mem.tail _ (List.Mem.tail _ (List.Mem.head _)))))) ?_
        refine w_istore (l' := [(4, .int (nZ x4)), (6, .int (nZ r5)), (0, .ref 76), (1, .int (nZ x1)), (2, .int (nZ x2)), (3, .int (nZ x3)), (5, .int (nZ x5))]) dX10_span_101 (by decide) rfl ?_
        obtain ⟨q6, h⟩ := h
        refine w_iinc (v := nZ (x5 + 1)) (l' := [(5, .int (nZ (x5 + 1))), (4, .int (nZ x4)), (6, .int (nZ r5)), (0, .ref 76), (1, .int (nZ x1)), (2, .int (nZ x2)), (3, .int (nZ x3))]) dX10_span_103 (List.Mem.tail _ (List.Mem.tail _ (List.Mem.tail _ (List.Mem.tail _ (List.Mem.tail _ (List.Mem.tail _ (List.Mem.head _))))))) (nZ_add _ _) (by decide) rfl ?_
        refine w_goto (tgt := 50) dX10_span_106 rfl ?_
        exact w_weak (l' := [(0, .ref 76), (1, .int (nZ x1)), (2, .int (nZ x2)), (3, .int (nZ x3)), (4, .int (nZ x4)), (5, .int (nZ (x5 + 1)))]) (by intro q hq; simp only [List.mem_cons, List.not_mem_nil, or_false] at hq ⊢; rcases hq with rfl | rfl | rfl | rfl | rfl | rfl <;> simp) h
      · replace h := h.2 c9
        refine w_iload dX10_span_94 (List.Mem.head _) ?_
        refine w_goto (tgt := 101) dX10_span_96 rfl ?_
        refine w_istore (l' := [(4, .int (nZ r5)), (6, .int (nZ r5)), (0, .ref 76), (1, .int (nZ x1)), (2, .int (nZ x2)), (3, .int (nZ x3)), (5, .int (nZ x5))]) dX10_span_101 (by decide) rfl ?_
        obtain ⟨q7, h⟩ := h
        refine w_iinc (v := nZ (x5 + 1)) (l' := [(5, .int (nZ (x5 + 1))), (4, .int (nZ r5)), (6, .int (nZ r5)), (0, .ref 76), (1, .int (nZ x1)), (2, .int (nZ x2)), (3, .int (nZ x3))]) dX10_span_103 (List.Mem.tail _ (List.Mem.tail _ (List.Mem.tail _ (List.Mem.tail _ (List.Mem.tail _ (List.Mem.tail _ (List.Mem.head _))))))) (nZ_add _ _) (by decide) rfl ?_
        refine w_goto (tgt := 50) dX10_span_106 rfl ?_
        exact w_weak (l' := [(0, .ref 76), (1, .int (nZ x1)), (2, .int (nZ x2)), (3, .int (nZ x3)), (4, .int (nZ r5)), (5, .int (nZ (x5 + 1)))]) (by intro q hq; simp only [List.mem_cons, List.not_mem_nil, or_false] at hq ⊢; rcases hq with rfl | rfl | rfl | rfl | rfl | rfl <;> simp) h
    · replace h := h.2 c9
      refine w_iload dX10_span_70 (List.Mem.head _) ?_
      refine w_iload dX10_span_72 (List.Mem.tail _ (List.Mem.tail _ (List.Mem.tail _ (List.Mem.tail _ (List.Mem.tail _ (List.Mem.head _)))))) ?_
      refine i_cmp_ge (tgt := 82) dX10_span_74 rfl rr4 rx4 (fun c9 => ?_) (fun c9 => ?_)
      · replace h := h.1 c9
        refine w_iload dX10_span_82 (List.Mem.tail _ (List.Mem.tail _ (List.Mem.tail _ (List.Mem.tail _ (List.Mem.tail _ (List.Mem.head _)))))) ?_
        refine w_goto (tgt := 101) dX10_span_84 rfl ?_
        refine w_istore (l' := [(4, .int (nZ x4)), (6, .int (nZ r5)), (0, .ref 76), (1, .int (nZ x1)), (2, .int (nZ x2)), (3, .int (nZ x3)), (5, .int (nZ x5))]) dX10_span_101 (by decide) rfl ?_
        obtain ⟨q8, h⟩ := h
        refine w_iinc (v := nZ (x5 + 1)) (l' := [(5, .int (nZ (x5 + 1))), (4, .int (nZ x4)), (6, .int (nZ r5)), (0, .ref 76), (1, .int (nZ x1)), (2, .int (nZ x2)), (3, .int (nZ x3))]) dX10_span_103 (List.Mem.tail _ (List.Mem.tail _ (List.Mem.tail _ (List.Mem.tail _ (List.Mem.tail _ (List.Mem.tail _ (List.Mem.head _))))))) (nZ_add _ _) (by decide) rfl ?_
        refine w_goto (tgt := 50) dX10_span_106 rfl ?_
        exact w_weak (l' := [(0, .ref 76), (1, .int (nZ x1)), (2, .int (nZ x2)), (3, .int (nZ x3)), (4, .int (nZ x4)), (5, .int (nZ (x5 + 1)))]) (by intro q hq; simp only [List.mem_cons, List.not_mem_nil, or_false] at hq ⊢; rcases hq with rfl | rfl | rfl | rfl | rfl | rfl <;> simp) h
      · replace h := h.2 c9
        refine w_iload dX10_span_77 (List.Mem.head _) ?_
        refine w_goto (tgt := 101) dX10_span_79 rfl ?_
        refine w_istore (l' := [(4, .int (nZ r5)), (6, .int (nZ r5)), (0, .ref 76), (1, .int (nZ x1)), (2, .int (nZ x2)), (3, .int (nZ x3)), (5, .int (nZ x5))]) dX10_span_101 (by decide) rfl ?_
        obtain ⟨q9, h⟩ := h
        refine w_iinc (v := nZ (x5 + 1)) (l' := [(5, .int (nZ (x5 + 1))), (4, .int (nZ r5)), (6, .int (nZ r5)), (0, .ref 76), (1, .int (nZ x1)), (2, .int (nZ x2)), (3, .int (nZ x3))]) dX10_span_103 (List.Mem.tail _ (List.Mem.tail _ (List.Mem.tail _ (List.Mem.tail _ (List.Mem.tail _ (List.Mem.tail _ (List.Mem.head _))))))) (nZ_add _ _) (by decide) rfl ?_
        refine w_goto (tgt := 50) dX10_span_106 rfl ?_
        exact w_weak (l' := [(0, .ref 76), (1, .int (nZ x1)), (2, .int (nZ x2)), (3, .int (nZ x3)), (4, .int (nZ r5)), (5, .int (nZ (x5 + 1)))]) (by intro q hq; simp only [List.mem_cons, List.not_mem_nil, or_false] at hq ⊢; rcases hq with rfl | rfl | rfl | rfl | rfl | rfl <;> simp) h
theorem dX10_led_0 : decode cX10_led 0 = .ok (.aload_n 0, 1) := by decide +kernel
theorem dX10_led_1 : decode cX10_led 1 = .ok (.iconst 0, 1) := by decide +kernel
theorem dX10_led_2 : decode cX10_led 2 = .ok (.putfield 106, 3) := by decide +kernel
theorem dX10_led_5 : decode cX10_led 5 = .ok (.aload_n 0, 1) := by decide +kernel
theorem dX10_led_6 : decode cX10_led 6 = .ok (.iload_n 1, 1) := by decide +kernel
theorem dX10_led_7 : decode cX10_led 7 = .ok (.iload_n 2, 1) := by decide +kernel
theorem dX10_led_8 : decode cX10_led 8 = .ok (.invokevirtual 275, 3) := by decide +kernel
theorem dX10_led_11 : decode cX10_led 11 = .ok (.ifCond .ne 22, 3) := by decide +kernel
theorem dX10_led_14 : decode cX10_led 14 = .ok (.aload_n 0, 1) := by decide +kernel
theorem dX10_led_15 : decode cX10_led 15 = .ok (.iload_n 1, 1) := by decide +kernel
theorem dX10_led_16 : decode cX10_led 16 = .ok (.iload_n 2, 1) := by decide +kernel
theorem dX10_led_17 : decode cX10_led 17 = .ok (.if_icmp .ne 7, 3) := by decide +kernel
theorem dX10_led_20 : decode cX10_led 20 = .ok (.iconst 1, 1) := by decide +kernel
theorem dX10_led_21 : decode cX10_led 21 = .ok (.goto 4, 3) := by decide +kernel
theorem dX10_led_24 : decode cX10_led 24 = .ok (.iconst 0, 1) := by decide +kernel
theorem dX10_led_25 : decode cX10_led 25 = .ok (.iconst 2, 1) := by decide +kernel
theorem dX10_led_26 : decode cX10_led 26 = .ok (.iconst 1, 1) := by decide +kernel
theorem dX10_led_27 : decode cX10_led 27 = .ok (.invokevirtual 196, 3) := by decide +kernel
theorem dX10_led_30 : decode cX10_led 30 = .ok (.ifCond .eq 5, 3) := by decide +kernel
theorem dX10_led_33 : decode cX10_led 33 = .ok (.iconst 0, 1) := by decide +kernel
theorem dX10_led_34 : decode cX10_led 34 = .ok (.ireturn, 1) := by decide +kernel
theorem dX10_led_35 : decode cX10_led 35 = .ok (.aload_n 0, 1) := by decide +kernel
theorem dX10_led_36 : decode cX10_led 36 = .ok (.invokevirtual 281, 3) := by decide +kernel
theorem dX10_led_39 : decode cX10_led 39 = .ok (.pop, 1) := by decide +kernel
theorem dX10_led_40 : decode cX10_led 40 = .ok (.aload_n 0, 1) := by decide +kernel
theorem dX10_led_41 : decode cX10_led 41 = .ok (.getfield 64, 3) := by decide +kernel
theorem dX10_led_44 : decode cX10_led 44 = .ok (.iload_n 1, 1) := by decide +kernel
theorem dX10_led_45 : decode cX10_led 45 = .ok (.aaload, 1) := by decide +kernel
theorem dX10_led_46 : decode cX10_led 46 = .ok (.iload_n 2, 1) := by decide +kernel
theorem dX10_led_47 : decode cX10_led 47 = .ok (.iaload, 1) := by decide +kernel
theorem dX10_led_48 : decode cX10_led 48 = .ok (.ireturn, 1) := by decide +kernel
def L_X10_led_25 (C : aM → List Value → aH → aO → aH → Prop) (sc : Nat × (Nat → Int32)) (P : aO → aH → Prop) (x1 : Int) (x2 : Int) (s0 : Int) (σ : aH) : Prop :=
    wp C 10 cX10_led 3 (some .int) false [] sc P 25 [(0, .ref 76), (1, .int (nZ x1)), (2, .int (nZ x2))] [.int (nZ s0), .ref 76] σ
set_option maxRecDepth 10000 in
theorem t_X10_led {sc : Nat × (Nat → Int32)} {d : Nat} {Q : aO → aH → Prop} {σ : aH} {u : Nat}  {x1 : Int} {x2 : Int} (hG : G σ u) (rx1 : inR x1) (rx2 : inR x2)
    (h : (∀ σ1 : aH, wI σ 76 0 0 = σ1 → (∃ (r8 : Int) (σ4 : aH), Ev sc d mX10_badTwo [.ref 76, .int (nZ x1), .int (nZ x2)] σ1 (.inl (some (.int (nZ r8)))) σ4 ∧ G σ4 u ∧ inR r8 ∧ ((¬ r8 = 0 → Q (.inl (some (.int (nZ 0)))) σ4) ∧ (r8 = 0 → ((¬ x1 = x2 → L_X10_led_25 (Ev sc d) sc Q x1 x2 0 σ4) ∧ (x1 = x2 → L_X10_led_25 (Ev sc d) sc Q x1 x2 1 σ4))))))) :
    T sc (d + 1) mX10_led [.ref 76, .int (nZ x1), .int (nZ x2)] σ Q := by
  refine T.of (c := 10) (code := cX10_led) (mL := 3) (rt := (some .int)) (ini := false) (l := [(0, .ref 76), (1, .int (nZ x1)), (2, .int (nZ x2))]) rfl rfl rfl rfl (by decide) hs_X10_led rfl rfl ?_
  refine w_aload_n dX10_led_0 rfl (List.Mem.head _) ?_
  refine w_iconst (v := nZ 0) dX10_led_1 (by decide) ?_
  refine i_putI (ci := 10) 0 rfl dX10_led_2 fl_10_106 (by decide) (gT hG rfl (lt_of rfl)) (fun σ1 eσ2 => ?_)
  replace h := h σ1 eσ2
  have hG3 : G σ1 u := eσ2 ▸ G.wI hG
  refine w_aload_n dX10_led_5 rfl (List.Mem.head _) ?_
  refine w_iload_n dX10_led_6 rfl (List.Mem.tail _ (List.Mem.head _)) ?_
  refine w_iload_n dX10_led_7 rfl (List.Mem.tail _ (List.Mem.tail _ (List.Mem.head _))) ?_
  obtain ⟨r8, σ4, hc6, hG5, rr7, h⟩ := h
  refine w_callV dX10_led_8 ml_10_275 ⟨ok_X10_badTwo, vi_X10_badTwo⟩ hs_X10_badTwo (As := [.int (nZ x1), .int (nZ x2)]) rfl rfl (gT hG3 rfl (lt_of rfl)) (Nat.le_of_ble_eq_true rfl) hc6 ?_
  show wp (Ev sc d) 10 cX10_led 3 (some .int) false [] sc Q 11 [(0, .ref 76), (1, .int (nZ x1)), (2, .int (nZ x2))] [.int (nZ r8)] σ4
  refine i_if_ne (tgt := 33) dX10_led_11 rfl rr7 (fun c9 => ?_) (fun c9 => ?_)
  · replace h := h.1 c9
    refine w_iconst (v := nZ 0) dX10_led_33 (by decide) ?_
    exact w_iret dX10_led_34 rfl h
  · replace h := h.2 c9
    refine w_aload_n dX10_led_14 rfl (List.Mem.head _) ?_
    refine w_iload_n dX10_led_15 rfl (List.Mem.tail _ (List.Mem.head _)) ?_
    refine w_iload_n dX10_led_16 rfl (List.Mem.tail _ (List.Mem.tail _ (List.Mem.head _))) ?_
    refine i_cmp_ne (tgt := 24) dX10_led_17 rfl rx1 rx2 (fun c9 => ?_) (fun c9 => ?_)
    · replace h := h.1 c9
      refine w_iconst (v := nZ 0) dX10_led_24 (by decide) ?_
      exact h
    · replace h := h.2 c9
      refine w_iconst (v := nZ 1) dX10_led_20 (by decide) ?_
      refine w_goto (tgt := 25) dX10_led_21 rfl ?_
      exact h
set_option maxRecDepth 10000 in
theorem v_X10_led_25 {C : aM → List Value → aH → aO → aH → Prop} {sc : Nat × (Nat → Int32)} {P : aO → aH → Prop} {σ : aH} {u : Nat}  {x1 : Int} {x2 : Int} {s0 : Int} (hG : G σ u) (rx1 : inR x1) (rx2 : inR x2) (rs0 : inR s0)
    (h : (∃ (r5 : Int) (σ1 : aH), C mX10_bad [.ref 76, .int (nZ s0), .int (nZ 2), .int (nZ 1)] σ (.inl (some (.int (nZ r5)))) σ1 ∧ G σ1 u ∧ inR r5 ∧ ((r5 = 0 → (∃ (r10 : Int) (σ6 : aH), C mX10_dueNow [.ref 76] σ1 (.inl (some (.int (nZ r10)))) σ6 ∧ G σ6 u ∧ inR r10 ∧ ((0 ≤ x1 ∧ x1 < 9) ∧ ((0 ≤ x2 ∧ x2 < 9) ∧ P (.inl (some (.int (nZ (rI σ6 (302 + x1.toNat) x2))))) σ6)))) ∧ (¬ (r5 = 0) → P (.inl (some (.int (nZ 0)))) σ1)))) :
    L_X10_led_25 C sc P x1 x2 s0 σ := by
  unfold L_X10_led_25
  refine w_iconst (v := nZ 2) dX10_led_25 (by decide) ?_
  refine w_iconst (v := nZ 1) dX10_led_26 (by decide) ?_
  obtain ⟨r5, σ1, hc3, hG2, rr4, h⟩ := h
  refine w_callV dX10_led_27 ml_10_196 ⟨ok_X10_bad, vi_X10_bad⟩ hs_X10_bad (As := [.int (nZ s0), .int (nZ 2), .int (nZ 1)]) rfl rfl (gT hG rfl (lt_of rfl)) (Nat.le_of_ble_eq_true rfl) hc3 ?_
  show wp C 10 cX10_led 3 (some .int) false [] sc P 30 [(0, .ref 76), (1, .int (nZ x1)), (2, .int (nZ x2))] [.int (nZ r5)] σ1
  refine i_if_eq (tgt := 35) dX10_led_30 rfl rr4 (fun c9 => ?_) (fun c9 => ?_)
  · replace h := h.1 c9
    refine w_aload_n dX10_led_35 rfl (List.Mem.head _) ?_
    obtain ⟨r10, σ6, hc8, hG7, rr9, h⟩ := h
    refine w_callV dX10_led_36 ml_10_281 ⟨ok_X10_dueNow, vi_X10_dueNow⟩ hs_X10_dueNow (As := []) rfl rfl (gT hG2 rfl (lt_of rfl)) (Nat.le_of_ble_eq_true rfl) hc8 ?_
    show wp C 10 cX10_led 3 (some .int) false [] sc P 39 [(0, .ref 76), (1, .int (nZ x1)), (2, .int (nZ x2))] [.int (nZ r10)] σ6
    refine w_pop dX10_led_39 rfl ?_
    refine w_aload_n dX10_led_40 rfl (List.Mem.head _) ?_
    refine w_getR (ci := 10) (k := 32) (b := 301) dX10_led_41 fl_10_64 (by decide) (gT hG7 rfl (lt_of rfl)) (gR hG7 (b := 301) rfl) ?_
    refine w_iload_n dX10_led_44 rfl (List.Mem.tail _ (List.Mem.head _)) ?_
    obtain ⟨h9, h⟩ := h
    have hj11 := vin_lt2 (n := 9) h9 rfl
    refine i_aald (n := 9) (b := (302 + x1.toNat)) dX10_led_45 (gT hG7 rfl (lt_of rfl)) (gL hG7 rfl) rx1 h9 (gR hG7 (rr_301 hj11)) ?_
    refine w_iload_n dX10_led_46 rfl (List.Mem.tail _ (List.Mem.tail _ (List.Mem.head _))) ?_
    obtain ⟨h9, h⟩ := h
    refine i_iald (n := 9) dX10_led_47 (gT hG7 (ro_301 _ hj11).1 (by have := hj11; omega)) (gL hG7 (ro_301 _ hj11).2) rx2 h9 ?_
    exact w_iret dX10_led_48 rfl h
  · replace h := h.2 c9
    refine w_iconst (v := nZ 0) dX10_led_33 (by decide) ?_
    exact w_iret dX10_led_34 rfl h
theorem dX10_whose_0 : decode cX10_whose 0 = .ok (.aload_n 0, 1) := by decide +kernel
theorem dX10_whose_1 : decode cX10_whose 1 = .ok (.iconst 0, 1) := by decide +kernel
theorem dX10_whose_2 : decode cX10_whose 2 = .ok (.putfield 106, 3) := by decide +kernel
theorem dX10_whose_5 : decode cX10_whose 5 = .ok (.aload_n 0, 1) := by decide +kernel
theorem dX10_whose_6 : decode cX10_whose 6 = .ok (.aload_n 0, 1) := by decide +kernel
theorem dX10_whose_7 : decode cX10_whose 7 = .ok (.iload_n 1, 1) := by decide +kernel
theorem dX10_whose_8 : decode cX10_whose 8 = .ok (.invokevirtual 236, 3) := by decide +kernel
theorem dX10_whose_11 : decode cX10_whose 11 = .ok (.ifCond .ne 7, 3) := by decide +kernel
theorem dX10_whose_14 : decode cX10_whose 14 = .ok (.iconst 1, 1) := by decide +kernel
theorem dX10_whose_15 : decode cX10_whose 15 = .ok (.goto 4, 3) := by decide +kernel
theorem dX10_whose_18 : decode cX10_whose 18 = .ok (.iconst 0, 1) := by decide +kernel
theorem dX10_whose_19 : decode cX10_whose 19 = .ok (.iconst 1, 1) := by decide +kernel
theorem dX10_whose_20 : decode cX10_whose 20 = .ok (.iconst 0, 1) := by decide +kernel
theorem dX10_whose_21 : decode cX10_whose 21 = .ok (.invokevirtual 196, 3) := by decide +kernel
theorem dX10_whose_24 : decode cX10_whose 24 = .ok (.ifCond .eq 5, 3) := by decide +kernel
theorem dX10_whose_27 : decode cX10_whose 27 = .ok (.iconst 0, 1) := by decide +kernel
theorem dX10_whose_28 : decode cX10_whose 28 = .ok (.ireturn, 1) := by decide +kernel
theorem dX10_whose_29 : decode cX10_whose 29 = .ok (.aload_n 0, 1) := by decide +kernel
theorem dX10_whose_30 : decode cX10_whose 30 = .ok (.invokevirtual 281, 3) := by decide +kernel
theorem dX10_whose_33 : decode cX10_whose 33 = .ok (.pop, 1) := by decide +kernel
theorem dX10_whose_34 : decode cX10_whose 34 = .ok (.iconst (-1), 1) := by decide +kernel
theorem dX10_whose_35 : decode cX10_whose 35 = .ok (.istore_n 2, 1) := by decide +kernel
theorem dX10_whose_36 : decode cX10_whose 36 = .ok (.iconst 0, 1) := by decide +kernel
theorem dX10_whose_37 : decode cX10_whose 37 = .ok (.istore_n 3, 1) := by decide +kernel
theorem dX10_whose_38 : decode cX10_whose 38 = .ok (.iconst 0, 1) := by decide +kernel
theorem dX10_whose_39 : decode cX10_whose 39 = .ok (.istore 4, 2) := by decide +kernel
theorem dX10_whose_41 : decode cX10_whose 41 = .ok (.iload 4, 2) := by decide +kernel
theorem dX10_whose_43 : decode cX10_whose 43 = .ok (.aload_n 0, 1) := by decide +kernel
theorem dX10_whose_44 : decode cX10_whose 44 = .ok (.getfield 23, 3) := by decide +kernel
theorem dX10_whose_47 : decode cX10_whose 47 = .ok (.iconst 2, 1) := by decide +kernel
theorem dX10_whose_48 : decode cX10_whose 48 = .ok (.iaload, 1) := by decide +kernel
theorem dX10_whose_49 : decode cX10_whose 49 = .ok (.if_icmp .ge 38, 3) := by decide +kernel
theorem dX10_whose_52 : decode cX10_whose 52 = .ok (.aload_n 0, 1) := by decide +kernel
theorem dX10_whose_53 : decode cX10_whose 53 = .ok (.getfield 64, 3) := by decide +kernel
theorem dX10_whose_56 : decode cX10_whose 56 = .ok (.iload_n 1, 1) := by decide +kernel
theorem dX10_whose_57 : decode cX10_whose 57 = .ok (.aaload, 1) := by decide +kernel
theorem dX10_whose_58 : decode cX10_whose 58 = .ok (.iload 4, 2) := by decide +kernel
theorem dX10_whose_60 : decode cX10_whose 60 = .ok (.iaload, 1) := by decide +kernel
theorem dX10_whose_61 : decode cX10_whose 61 = .ok (.iload_n 3, 1) := by decide +kernel
theorem dX10_whose_62 : decode cX10_whose 62 = .ok (.if_icmp .gt 6, 3) := by decide +kernel
theorem dX10_whose_65 : decode cX10_whose 65 = .ok (.goto 16, 3) := by decide +kernel
theorem dX10_whose_68 : decode cX10_whose 68 = .ok (.iload 4, 2) := by decide +kernel
theorem dX10_whose_70 : decode cX10_whose 70 = .ok (.istore_n 2, 1) := by decide +kernel
theorem dX10_whose_71 : decode cX10_whose 71 = .ok (.aload_n 0, 1) := by decide +kernel
theorem dX10_whose_72 : decode cX10_whose 72 = .ok (.getfield 64, 3) := by decide +kernel
theorem dX10_whose_75 : decode cX10_whose 75 = .ok (.iload_n 1, 1) := by decide +kernel
theorem dX10_whose_76 : decode cX10_whose 76 = .ok (.aaload, 1) := by decide +kernel
theorem dX10_whose_77 : decode cX10_whose 77 = .ok (.iload 4, 2) := by decide +kernel
theorem dX10_whose_79 : decode cX10_whose 79 = .ok (.iaload, 1) := by decide +kernel
theorem dX10_whose_80 : decode cX10_whose 80 = .ok (.istore_n 3, 1) := by decide +kernel
theorem dX10_whose_81 : decode cX10_whose 81 = .ok (.iinc 4 1, 3) := by decide +kernel
theorem dX10_whose_84 : decode cX10_whose 84 = .ok (.goto (-43), 3) := by decide +kernel
theorem dX10_whose_87 : decode cX10_whose 87 = .ok (.iload_n 2, 1) := by decide +kernel
theorem dX10_whose_88 : decode cX10_whose 88 = .ok (.ireturn, 1) := by decide +kernel
def L_X10_whose_19 (C : aM → List Value → aH → aO → aH → Prop) (sc : Nat × (Nat → Int32)) (P : aO → aH → Prop) (x1 : Int) (s0 : Int) (σ : aH) : Prop :=
    wp C 10 cX10_whose 5 (some .int) false [] sc P 19 [(0, .ref 76), (1, .int (nZ x1))] [.int (nZ s0), .ref 76] σ
def L_X10_whose_41 (C : aM → List Value → aH → aO → aH → Prop) (sc : Nat × (Nat → Int32)) (P : aO → aH → Prop) (x1 : Int) (x2 : Int) (x3 : Int) (x4 : Int) (σ : aH) : Prop :=
    wp C 10 cX10_whose 5 (some .int) false [] sc P 41 [(0, .ref 76), (1, .int (nZ x1)), (2, .int (nZ x2)), (3, .int (nZ x3)), (4, .int (nZ x4))] [] σ
set_option maxRecDepth 10000 in
theorem t_X10_whose {sc : Nat × (Nat → Int32)} {d : Nat} {Q : aO → aH → Prop} {σ : aH} {u : Nat}  {x1 : Int} (hG : G σ u) (rx1 : inR x1)
    (h : (∀ σ1 : aH, wI σ 76 0 0 = σ1 → (∃ (r8 : Int) (σ4 : aH), Ev sc d mX10_isStall [.ref 76, .int (nZ x1)] σ1 (.inl (some (.int (nZ r8)))) σ4 ∧ G σ4 u ∧ inR r8 ∧ ((¬ r8 = 0 → L_X10_whose_19 (Ev sc d) sc Q x1 0 σ4) ∧ (r8 = 0 → L_X10_whose_19 (Ev sc d) sc Q x1 1 σ4))))) :
    T sc (d + 1) mX10_whose [.ref 76, .int (nZ x1)] σ Q := by
  refine T.of (c := 10) (code := cX10_whose) (mL := 5) (rt := (some .int)) (ini := false) (l := [(0, .ref 76), (1, .int (nZ x1))]) rfl rfl rfl rfl (by decide) hs_X10_whose rfl rfl ?_
  refine w_aload_n dX10_whose_0 rfl (List.Mem.head _) ?_
  refine w_iconst (v := nZ 0) dX10_whose_1 (by decide) ?_
  refine i_putI (ci := 10) 0 rfl dX10_whose_2 fl_10_106 (by decide) (gT hG rfl (lt_of rfl)) (fun σ1 eσ2 => ?_)
  replace h := h σ1 eσ2
  have hG3 : G σ1 u := eσ2 ▸ G.wI hG
  refine w_aload_n dX10_whose_5 rfl (List.Mem.head _) ?_
  refine w_aload_n dX10_whose_6 rfl (List.Mem.head _) ?_
  refine w_iload_n dX10_whose_7 rfl (List.Mem.tail _ (List.Mem.head _)) ?_
  obtain ⟨r8, σ4, hc6, hG5, rr7, h⟩ := h
  refine w_callV dX10_whose_8 ml_10_236 ⟨ok_X10_isStall, vi_X10_isStall⟩ hs_X10_isStall (As := [.int (nZ x1)]) rfl rfl (gT hG3 rfl (lt_of rfl)) (Nat.le_of_ble_eq_true rfl) hc6 ?_
  show wp (Ev sc d) 10 cX10_whose 5 (some .int) false [] sc Q 11 [(0, .ref 76), (1, .int (nZ x1))] [.int (nZ r8), .ref 76] σ4
  refine i_if_ne (tgt := 18) dX10_whose_11 rfl rr7 (fun c9 => ?_) (fun c9 => ?_)
  · replace h := h.1 c9
    refine w_iconst (v := nZ 0) dX10_whose_18 (by decide) ?_
    exact h
  · replace h := h.2 c9
    refine w_iconst (v := nZ 1) dX10_whose_14 (by decide) ?_
    refine w_goto (tgt := 19) dX10_whose_15 rfl ?_
    exact h
set_option maxRecDepth 10000 in
theorem v_X10_whose_19 {C : aM → List Value → aH → aO → aH → Prop} {sc : Nat × (Nat → Int32)} {P : aO → aH → Prop} {σ : aH} {u : Nat}  {x1 : Int} {s0 : Int} (hG : G σ u) (rx1 : inR x1) (rs0 : inR s0)
    (h : (∃ (r5 : Int) (σ1 : aH), C mX10_bad [.ref 76, .int (nZ s0), .int (nZ 1), .int (nZ 0)] σ (.inl (some (.int (nZ r5)))) σ1 ∧ G σ1 u ∧ inR r5 ∧ ((r5 = 0 → (∃ (r10 : Int) (σ6 : aH), C mX10_dueNow [.ref 76] σ1 (.inl (some (.int (nZ r10)))) σ6 ∧ G σ6 u ∧ inR r10 ∧ L_X10_whose_41 C sc P x1 (-1) 0 0 σ6)) ∧ (¬ (r5 = 0) → P (.inl (some (.int (nZ 0)))) σ1)))) :
    L_X10_whose_19 C sc P x1 s0 σ := by
  unfold L_X10_whose_19
  refine w_iconst (v := nZ 1) dX10_whose_19 (by decide) ?_
  refine w_iconst (v := nZ 0) dX10_whose_20 (by decide) ?_
  obtain ⟨r5, σ1, hc3, hG2, rr4, h⟩ := h
  refine w_callV dX10_whose_21 ml_10_196 ⟨ok_X10_bad, vi_X10_bad⟩ hs_X10_bad (As := [.int (nZ s0), .int (nZ 1), .int (nZ 0)]) rfl rfl (gT hG rfl (lt_of rfl)) (Nat.le_of_ble_eq_true rfl) hc3 ?_
  show wp C 10 cX10_whose 5 (some .int) false [] sc P 24 [(0, .ref 76), (1, .int (nZ x1))] [.int (nZ r5)] σ1
  refine i_if_eq (tgt := 29) dX10_whose_24 rfl rr4 (fun c9 => ?_) (fun c9 => ?_)
  · replace h := h.1 c9
    refine w_aload_n dX10_whose_29 rfl (List.Mem.head _) ?_
    obtain ⟨r10, σ6, hc8, hG7, rr9, h⟩ := h
    refine w_callV dX10_whose_30 ml_10_281 ⟨ok_X10_dueNow, vi_X10_dueNow⟩ hs_X10_dueNow (As := []) rfl rfl (gT hG2 rfl (lt_of rfl)) (Nat.le_of_ble_eq_true rfl) hc8 ?_
    show wp C 10 cX10_whose 5 (some .int) false [] sc P 33 [(0, .ref 76), (1, .int (nZ x1))] [.int (nZ r10)] σ6
    refine w_pop dX10_whose_33 rfl ?_
    refine w_iconst (v := nZ (-1)) dX10_whose_34 (by decide) ?_
    refine w_istore_n (l' := [(2, .int (nZ (-1))), (0, .ref 76), (1, .int (nZ x1))]) dX10_whose_35 rfl (by decide) rfl ?_
    refine w_iconst (v := nZ 0) dX10_whose_36 (by decide) ?_
    refine w_istore_n (l' := [(3, .int (nZ 0)), (2, .int (nZ (-1))), (0, .ref 76), (1, .int (nZ x1))]) dX10_whose_37 rfl (by decide) rfl ?_
    refine w_iconst (v := nZ 0) dX10_whose_38 (by decide) ?_
    refine w_istore (l' := [(4, .int (nZ 0)), (3, .int (nZ 0)), (2, .int (nZ (-1))), (0, .ref 76), (1, .int (nZ x1))]) dX10_whose_39 (by decide) rfl ?_
    exact w_weak (l' := [(0, .ref 76), (1, .int (nZ x1)), (2, .int (nZ (-1))), (3, .int (nZ 0)), (4, .int (nZ 0))]) (by intro q hq; simp only [List.mem_cons, List.not_mem_nil, or_false] at hq ⊢; rcases hq with rfl | rfl | rfl | rfl | rfl <;> simp) h
  · replace h := h.2 c9
    refine w_iconst (v := nZ 0) dX10_whose_27 (by decide) ?_
    exact w_iret dX10_whose_28 rfl h
set_option maxRecDepth 10000 in
theorem v_X10_whose_41 {C : aM → List Value → aH → aO → aH → Prop} {sc : Nat × (Nat → Int32)} {P : aO → aH → Prop} {σ : aH} {u : Nat}  {x1 : Int} {x2 : Int} {x3 : Int} {x4 : Int} (hG : G σ u) (rx1 : inR x1) (rx2 : inR x2) (rx3 : inR x3) (rx4 : inR x4)
    (h : (((rI σ 80 2) ≤ x4 → P (.inl (some (.int (nZ x2)))) σ) ∧ (¬ ((rI σ 80 2) ≤ x4) → ((0 ≤ x1 ∧ x1 < 9) ∧ ((0 ≤ x4 ∧ x4 < 9) ∧ ((x3 < (rI σ (302 + x1.toNat) x4) → ((0 ≤ x1 ∧ x1 < 9) ∧ ((0 ≤ x4 ∧ x4 < 9) ∧ (∀ z3 : Int, z3 = (rI σ (302 + x1.toNat) x4) → (inR (x4 + 1) ∧ L_X10_whose_41 C sc P x1 x4 z3 (x4 + 1) σ))))) ∧ (¬ (x3 < (rI σ (302 + x1.toNat) x4)) → (inR (x4 + 1) ∧ L_X10_whose_41 C sc P x1 x2 x3 (x4 + 1) σ)))))))) :
    L_X10_whose_41 C sc P x1 x2 x3 x4 σ := by
  unfold L_X10_whose_41
  refine w_iload dX10_whose_41 (List.Mem.tail _ (List.Mem.tail _ (List.Mem.tail _ (List.Mem.tail _ (List.Mem.head _))))) ?_
  refine w_aload_n dX10_whose_43 rfl (List.Mem.head _) ?_
  refine w_getR (ci := 10) (k := 11) (b := 80) dX10_whose_44 fl_10_23 (by decide) (gT hG rfl (lt_of rfl)) (gR hG (b := 80) rfl) ?_
  refine w_iconst (v := nZ 2) dX10_whose_47 (by decide) ?_
  refine i_iald (n := 8) dX10_whose_48 (gT hG rfl (lt_of rfl)) (gL hG rfl) (by decide) (by decide) ?_
  refine i_cmp_ge (tgt := 87) dX10_whose_49 rfl rx4 (rI_R _ _ _) (fun c9 => ?_) (fun c9 => ?_)
  · replace h := h.1 c9
    refine w_iload_n dX10_whose_87 rfl (List.Mem.tail _ (List.Mem.tail _ (List.Mem.head _))) ?_
    exact w_iret dX10_whose_88 rfl h
  · replace h := h.2 c9
    refine w_aload_n dX10_whose_52 rfl (List.Mem.head _) ?_
    refine w_getR (ci := 10) (k := 32) (b := 301) dX10_whose_53 fl_10_64 (by decide) (gT hG rfl (lt_of rfl)) (gR hG (b := 301) rfl) ?_
    refine w_iload_n dX10_whose_56 rfl (List.Mem.tail _ (List.Mem.head _)) ?_
    obtain ⟨h9, h⟩ := h
    have hj1 := vin_lt2 (n := 9) h9 rfl
    refine i_aald (n := 9) (b := (302 + x1.toNat)) dX10_whose_57 (gT hG rfl (lt_of rfl)) (gL hG rfl) rx1 h9 (gR hG (rr_301 hj1)) ?_
    refine w_iload dX10_whose_58 (List.Mem.tail _ (List.Mem.tail _ (List.Mem.tail _ (List.Mem.tail _ (List.Mem.head _))))) ?_
    obtain ⟨h9, h⟩ := h
    refine i_iald (n := 9) dX10_whose_60 (gT hG (ro_301 _ hj1).1 (by have := hj1; omega)) (gL hG (ro_301 _ hj1).2) rx4 h9 ?_
    refine w_iload_n dX10_whose_61 rfl (List.Mem.tail _ (List.Mem.tail _ (List.Mem.tail _ (List.Mem.head _)))) ?_
    refine i_cmp_gt (tgt := 68) dX10_whose_62 rfl (rI_R _ _ _) rx3 (fun c9 => ?_) (fun c9 => ?_)
    · replace h := h.1 c9
      refine w_iload dX10_whose_68 (List.Mem.tail _ (List.Mem.tail _ (List.Mem.tail _ (List.Mem.tail _ (List.Mem.head _))))) ?_
      refine w_istore_n (l' := [(2, .int (nZ x4)), (0, .ref 76), (1, .int (nZ x1)), (3, .int (nZ x3)), (4, .int (nZ x4))]) dX10_whose_70 rfl (by decide) rfl ?_
      refine w_aload_n dX10_whose_71 rfl (List.Mem.tail _ (List.Mem.head _)) ?_
      refine w_getR (ci := 10) (k := 32) (b := 301) dX10_whose_72 fl_10_64 (by decide) (gT hG rfl (lt_of rfl)) (gR hG (b := 301) rfl) ?_
      refine w_iload_n dX10_whose_75 rfl (List.Mem.tail _ (List.Mem.tail _ (List.Mem.head _))) ?_
      obtain ⟨h9, h⟩ := h
      have hj2 := vin_lt2 (n := 9) h9 rfl
      refine i_aald (n := 9) (b := (302 + x1.toNat)) dX10_whose_76 (gT hG rfl (lt_of rfl)) (gL hG rfl) rx1 h9 (gR hG (rr_301 hj2)) ?_
      refine w_iload dX10_whose_77 (List.Mem.tail _ (List.Mem.tail _ (List.Mem.tail _ (List.Mem.tail _ (List.Mem.head _))))) ?_
      obtain ⟨h9, h⟩ := h
      refine i_iald (n := 9) dX10_whose_79 (gT hG (ro_301 _ hj2).1 (by have := hj2; omega)) (gL hG (ro_301 _ hj2).2) rx4 h9 ?_
      refine top_i (fun z3 ez4 => ?_)
      have rz5 : inR z3 := ez4 ▸ (rI_R _ _ _)
      replace h := h z3 ez4
      refine w_istore_n (l' := [(3, .int (nZ z3)), (2, .int (nZ x4)), (0, .ref 76), (1, .int (nZ x1)), (4, .int (nZ x4))]) dX10_whose_80 rfl (by decide) rfl ?_
      obtain ⟨q6, h⟩ := h
      refine w_iinc (v := nZ (x4 + 1)) (l' := [(4, .int (nZ (x4 + 1))), (3, .int (nZ z3)), (2, .int (nZ x4)), (0, .ref 76), (1, .int (nZ x1))]) dX10_whose_81 (List.Mem.tail _ (List.Mem.tail _ (List.Mem.tail _ (List.Mem.tail _ (List.Mem.head _))))) (nZ_add _ _) (by decide) rfl ?_
      refine w_goto (tgt := 41) dX10_whose_84 rfl ?_
      exact w_weak (l' := [(0, .ref 76), (1, .int (nZ x1)), (2, .int (nZ x4)), (3, .int (nZ z3)), (4, .int (nZ (x4 + 1)))]) (by intro q hq; simp only [List.mem_cons, List.not_mem_nil, or_false] at hq ⊢; rcases hq with rfl | rfl | rfl | rfl | rfl <;> simp) h
    · replace h := h.2 c9
      refine w_goto (tgt := 81) dX10_whose_65 rfl ?_
      obtain ⟨q7, h⟩ := h
      refine w_iinc (v := nZ (x4 + 1)) (l' := [(4, .int (nZ (x4 + 1))), (0, .ref 76), (1, .int (nZ x1)), (2, .int (nZ x2)), (3, .int (nZ x3))]) dX10_whose_81 (List.Mem.tail _ (List.Mem.tail _ (List.Mem.tail _ (List.Mem.tail _ (List.Mem.head _))))) (nZ_add _ _) (by decide) rfl ?_
      refine w_goto (tgt := 41) dX10_whose_84 rfl ?_
      exact w_weak (l' := [(0, .ref 76), (1, .int (nZ x1)), (2, .int (nZ x2)), (3, .int (nZ x3)), (4, .int (nZ (x4 + 1)))]) (by intro q hq; simp only [List.mem_cons, List.not_mem_nil, or_false] at hq ⊢; rcases hq with rfl | rfl | rfl | rfl | rfl <;> simp) h
theorem dX10_harmless_0 : decode cX10_harmless 0 = .ok (.aload_n 0, 1) := by decide +kernel
theorem dX10_harmless_1 : decode cX10_harmless 1 = .ok (.iconst 0, 1) := by decide +kernel
theorem dX10_harmless_2 : decode cX10_harmless 2 = .ok (.putfield 106, 3) := by decide +kernel
theorem dX10_harmless_5 : decode cX10_harmless 5 = .ok (.aload_n 0, 1) := by decide +kernel
theorem dX10_harmless_6 : decode cX10_harmless 6 = .ok (.aload_n 0, 1) := by decide +kernel
theorem dX10_harmless_7 : decode cX10_harmless 7 = .ok (.iload_n 1, 1) := by decide +kernel
theorem dX10_harmless_8 : decode cX10_harmless 8 = .ok (.invokevirtual 236, 3) := by decide +kernel
theorem dX10_harmless_11 : decode cX10_harmless 11 = .ok (.ifCond .ne 7, 3) := by decide +kernel
theorem dX10_harmless_14 : decode cX10_harmless 14 = .ok (.iconst 1, 1) := by decide +kernel
theorem dX10_harmless_15 : decode cX10_harmless 15 = .ok (.goto 4, 3) := by decide +kernel
theorem dX10_harmless_18 : decode cX10_harmless 18 = .ok (.iconst 0, 1) := by decide +kernel
theorem dX10_harmless_19 : decode cX10_harmless 19 = .ok (.iconst 1, 1) := by decide +kernel
theorem dX10_harmless_20 : decode cX10_harmless 20 = .ok (.iconst 0, 1) := by decide +kernel
theorem dX10_harmless_21 : decode cX10_harmless 21 = .ok (.invokevirtual 196, 3) := by decide +kernel
theorem dX10_harmless_24 : decode cX10_harmless 24 = .ok (.ifCond .eq 5, 3) := by decide +kernel
theorem dX10_harmless_27 : decode cX10_harmless 27 = .ok (.iconst 0, 1) := by decide +kernel
theorem dX10_harmless_28 : decode cX10_harmless 28 = .ok (.ireturn, 1) := by decide +kernel
theorem dX10_harmless_29 : decode cX10_harmless 29 = .ok (.aload_n 0, 1) := by decide +kernel
theorem dX10_harmless_30 : decode cX10_harmless 30 = .ok (.getfield 31, 3) := by decide +kernel
theorem dX10_harmless_33 : decode cX10_harmless 33 = .ok (.iload_n 1, 1) := by decide +kernel
theorem dX10_harmless_34 : decode cX10_harmless 34 = .ok (.aaload, 1) := by decide +kernel
theorem dX10_harmless_35 : decode cX10_harmless 35 = .ok (.iconst 2, 1) := by decide +kernel
theorem dX10_harmless_36 : decode cX10_harmless 36 = .ok (.iaload, 1) := by decide +kernel
theorem dX10_harmless_37 : decode cX10_harmless 37 = .ok (.istore_n 2, 1) := by decide +kernel
theorem dX10_harmless_38 : decode cX10_harmless 38 = .ok (.iconst (-1), 1) := by decide +kernel
theorem dX10_harmless_39 : decode cX10_harmless 39 = .ok (.istore_n 3, 1) := by decide +kernel
theorem dX10_harmless_40 : decode cX10_harmless 40 = .ok (.iconst 0, 1) := by decide +kernel
theorem dX10_harmless_41 : decode cX10_harmless 41 = .ok (.istore 4, 2) := by decide +kernel
theorem dX10_harmless_43 : decode cX10_harmless 43 = .ok (.iload 4, 2) := by decide +kernel
theorem dX10_harmless_45 : decode cX10_harmless 45 = .ok (.bipush 60, 2) := by decide +kernel
theorem dX10_harmless_47 : decode cX10_harmless 47 = .ok (.if_icmp .gt 83, 3) := by decide +kernel
theorem dX10_harmless_50 : decode cX10_harmless 50 = .ok (.iconst 0, 1) := by decide +kernel
theorem dX10_harmless_51 : decode cX10_harmless 51 = .ok (.istore 5, 2) := by decide +kernel
theorem dX10_harmless_53 : decode cX10_harmless 53 = .ok (.aload_n 0, 1) := by decide +kernel
theorem dX10_harmless_54 : decode cX10_harmless 54 = .ok (.getfield 31, 3) := by decide +kernel
theorem dX10_harmless_57 : decode cX10_harmless 57 = .ok (.iload_n 1, 1) := by decide +kernel
theorem dX10_harmless_58 : decode cX10_harmless 58 = .ok (.aaload, 1) := by decide +kernel
theorem dX10_harmless_59 : decode cX10_harmless 59 = .ok (.iconst 2, 1) := by decide +kernel
theorem dX10_harmless_60 : decode cX10_harmless 60 = .ok (.iload 4, 2) := by decide +kernel
theorem dX10_harmless_62 : decode cX10_harmless 62 = .ok (.iastore, 1) := by decide +kernel
theorem dX10_harmless_63 : decode cX10_harmless 63 = .ok (.aload_n 0, 1) := by decide +kernel
theorem dX10_harmless_64 : decode cX10_harmless 64 = .ok (.invokevirtual 281, 3) := by decide +kernel
theorem dX10_harmless_67 : decode cX10_harmless 67 = .ok (.pop, 1) := by decide +kernel
theorem dX10_harmless_68 : decode cX10_harmless 68 = .ok (.iconst 0, 1) := by decide +kernel
theorem dX10_harmless_69 : decode cX10_harmless 69 = .ok (.istore 6, 2) := by decide +kernel
theorem dX10_harmless_71 : decode cX10_harmless 71 = .ok (.iload 6, 2) := by decide +kernel
theorem dX10_harmless_73 : decode cX10_harmless 73 = .ok (.aload_n 0, 1) := by decide +kernel
theorem dX10_harmless_74 : decode cX10_harmless 74 = .ok (.getfield 23, 3) := by decide +kernel
theorem dX10_harmless_77 : decode cX10_harmless 77 = .ok (.iconst 2, 1) := by decide +kernel
theorem dX10_harmless_78 : decode cX10_harmless 78 = .ok (.iaload, 1) := by decide +kernel
theorem dX10_harmless_79 : decode cX10_harmless 79 = .ok (.if_icmp .ge 33, 3) := by decide +kernel
theorem dX10_harmless_82 : decode cX10_harmless 82 = .ok (.iload 5, 2) := by decide +kernel
theorem dX10_harmless_84 : decode cX10_harmless 84 = .ok (.ifCond .ne 15, 3) := by decide +kernel
theorem dX10_harmless_87 : decode cX10_harmless 87 = .ok (.aload_n 0, 1) := by decide +kernel
theorem dX10_harmless_88 : decode cX10_harmless 88 = .ok (.getfield 61, 3) := by decide +kernel
theorem dX10_harmless_91 : decode cX10_harmless 91 = .ok (.iload 6, 2) := by decide +kernel
theorem dX10_harmless_93 : decode cX10_harmless 93 = .ok (.aaload, 1) := by decide +kernel
theorem dX10_harmless_94 : decode cX10_harmless 94 = .ok (.iload_n 1, 1) := by decide +kernel
theorem dX10_harmless_95 : decode cX10_harmless 95 = .ok (.iaload, 1) := by decide +kernel
theorem dX10_harmless_96 : decode cX10_harmless 96 = .ok (.ifCond .le 7, 3) := by decide +kernel
theorem dX10_harmless_99 : decode cX10_harmless 99 = .ok (.iconst 1, 1) := by decide +kernel
theorem dX10_harmless_100 : decode cX10_harmless 100 = .ok (.goto 4, 3) := by decide +kernel
theorem dX10_harmless_103 : decode cX10_harmless 103 = .ok (.iconst 0, 1) := by decide +kernel
theorem dX10_harmless_104 : decode cX10_harmless 104 = .ok (.istore 5, 2) := by decide +kernel
theorem dX10_harmless_106 : decode cX10_harmless 106 = .ok (.iinc 6 1, 3) := by decide +kernel
theorem dX10_harmless_109 : decode cX10_harmless 109 = .ok (.goto (-38), 3) := by decide +kernel
theorem dX10_harmless_112 : decode cX10_harmless 112 = .ok (.iload 5, 2) := by decide +kernel
theorem dX10_harmless_114 : decode cX10_harmless 114 = .ok (.ifCond .eq 7, 3) := by decide +kernel
theorem dX10_harmless_117 : decode cX10_harmless 117 = .ok (.iload_n 3, 1) := by decide +kernel
theorem dX10_harmless_118 : decode cX10_harmless 118 = .ok (.goto 5, 3) := by decide +kernel
theorem dX10_harmless_121 : decode cX10_harmless 121 = .ok (.iload 4, 2) := by decide +kernel
theorem dX10_harmless_123 : decode cX10_harmless 123 = .ok (.istore_n 3, 1) := by decide +kernel
theorem dX10_harmless_124 : decode cX10_harmless 124 = .ok (.iinc 4 1, 3) := by decide +kernel
theorem dX10_harmless_127 : decode cX10_harmless 127 = .ok (.goto (-84), 3) := by decide +kernel
theorem dX10_harmless_130 : decode cX10_harmless 130 = .ok (.aload_n 0, 1) := by decide +kernel
theorem dX10_harmless_131 : decode cX10_harmless 131 = .ok (.getfield 31, 3) := by decide +kernel
theorem dX10_harmless_134 : decode cX10_harmless 134 = .ok (.iload_n 1, 1) := by decide +kernel
theorem dX10_harmless_135 : decode cX10_harmless 135 = .ok (.aaload, 1) := by decide +kernel
theorem dX10_harmless_136 : decode cX10_harmless 136 = .ok (.iconst 2, 1) := by decide +kernel
theorem dX10_harmless_137 : decode cX10_harmless 137 = .ok (.iload_n 2, 1) := by decide +kernel
theorem dX10_harmless_138 : decode cX10_harmless 138 = .ok (.iastore, 1) := by decide +kernel
theorem dX10_harmless_139 : decode cX10_harmless 139 = .ok (.iload_n 3, 1) := by decide +kernel
theorem dX10_harmless_140 : decode cX10_harmless 140 = .ok (.ireturn, 1) := by decide +kernel
def L_X10_harmless_19 (C : aM → List Value → aH → aO → aH → Prop) (sc : Nat × (Nat → Int32)) (P : aO → aH → Prop) (x1 : Int) (s0 : Int) (σ : aH) : Prop :=
    wp C 10 cX10_harmless 7 (some .int) false [] sc P 19 [(0, .ref 76), (1, .int (nZ x1))] [.int (nZ s0), .ref 76] σ
def L_X10_harmless_43 (C : aM → List Value → aH → aO → aH → Prop) (sc : Nat × (Nat → Int32)) (P : aO → aH → Prop) (x1 : Int) (x2 : Int) (x3 : Int) (x4 : Int) (σ : aH) : Prop :=
    wp C 10 cX10_harmless 7 (some .int) false [] sc P 43 [(0, .ref 76), (1, .int (nZ x1)), (2, .int (nZ x2)), (3, .int (nZ x3)), (4, .int (nZ x4))] [] σ
def L_X10_harmless_71 (C : aM → List Value → aH → aO → aH → Prop) (sc : Nat × (Nat → Int32)) (P : aO → aH → Prop) (x1 : Int) (x2 : Int) (x3 : Int) (x4 : Int) (x5 : Int) (x6 : Int) (σ : aH) : Prop :=
    wp C 10 cX10_harmless 7 (some .int) false [] sc P 71 [(0, .ref 76), (1, .int (nZ x1)), (2, .int (nZ x2)), (3, .int (nZ x3)), (4, .int (nZ x4)), (5, .int (nZ x5)), (6, .int (nZ x6))] [] σ
set_option maxRecDepth 10000 in
theorem t_X10_harmless {sc : Nat × (Nat → Int32)} {d : Nat} {Q : aO → aH → Prop} {σ : aH} {u : Nat}  {x1 : Int} (hG : G σ u) (rx1 : inR x1)
    (h : (∀ σ1 : aH, wI σ 76 0 0 = σ1 → (∃ (r8 : Int) (σ4 : aH), Ev sc d mX10_isStall [.ref 76, .int (nZ x1)] σ1 (.inl (some (.int (nZ r8)))) σ4 ∧ G σ4 u ∧ inR r8 ∧ ((¬ r8 = 0 → L_X10_harmless_19 (Ev sc d) sc Q x1 0 σ4) ∧ (r8 = 0 → L_X10_harmless_19 (Ev sc d) sc Q x1 1 σ4))))) :
    T sc (d + 1) mX10_harmless [.ref 76, .int (nZ x1)] σ Q := by
  refine T.of (c := 10) (code := cX10_harmless) (mL := 7) (rt := (some .int)) (ini := false) (l := [(0, .ref 76), (1, .int (nZ x1))]) rfl rfl rfl rfl (by decide) hs_X10_harmless rfl rfl ?_
  refine w_aload_n dX10_harmless_0 rfl (List.Mem.head _) ?_
  refine w_iconst (v := nZ 0) dX10_harmless_1 (by decide) ?_
  refine i_putI (ci := 10) 0 rfl dX10_harmless_2 fl_10_106 (by decide) (gT hG rfl (lt_of rfl)) (fun σ1 eσ2 => ?_)
  replace h := h σ1 eσ2
  have hG3 : G σ1 u := eσ2 ▸ G.wI hG
  refine w_aload_n dX10_harmless_5 rfl (List.Mem.head _) ?_
  refine w_aload_n dX10_harmless_6 rfl (List.Mem.head _) ?_
  refine w_iload_n dX10_harmless_7 rfl (List.Mem.tail _ (List.Mem.head _)) ?_
  obtain ⟨r8, σ4, hc6, hG5, rr7, h⟩ := h
  refine w_callV dX10_harmless_8 ml_10_236 ⟨ok_X10_isStall, vi_X10_isStall⟩ hs_X10_isStall (As := [.int (nZ x1)]) rfl rfl (gT hG3 rfl (lt_of rfl)) (Nat.le_of_ble_eq_true rfl) hc6 ?_
  show wp (Ev sc d) 10 cX10_harmless 7 (some .int) false [] sc Q 11 [(0, .ref 76), (1, .int (nZ x1))] [.int (nZ r8), .ref 76] σ4
  refine i_if_ne (tgt := 18) dX10_harmless_11 rfl rr7 (fun c9 => ?_) (fun c9 => ?_)
  · replace h := h.1 c9
    refine w_iconst (v := nZ 0) dX10_harmless_18 (by decide) ?_
    exact h
  · replace h := h.2 c9
    refine w_iconst (v := nZ 1) dX10_harmless_14 (by decide) ?_
    refine w_goto (tgt := 19) dX10_harmless_15 rfl ?_
    exact h
set_option maxRecDepth 10000 in
theorem v_X10_harmless_19 {C : aM → List Value → aH → aO → aH → Prop} {sc : Nat × (Nat → Int32)} {P : aO → aH → Prop} {σ : aH} {u : Nat}  {x1 : Int} {s0 : Int} (hG : G σ u) (rx1 : inR x1) (rs0 : inR s0)
    (h : (∃ (r5 : Int) (σ1 : aH), C mX10_bad [.ref 76, .int (nZ s0), .int (nZ 1), .int (nZ 0)] σ (.inl (some (.int (nZ r5)))) σ1 ∧ G σ1 u ∧ inR r5 ∧ ((r5 = 0 → ((0 ≤ x1 ∧ x1 < 9) ∧ (∀ z7 : Int, z7 = (rI σ1 (91 + x1.toNat) 2) → L_X10_harmless_43 C sc P x1 z7 (-1) 0 σ1))) ∧ (¬ (r5 = 0) → P (.inl (some (.int (nZ 0)))) σ1)))) :
    L_X10_harmless_19 C sc P x1 s0 σ := by
  unfold L_X10_harmless_19
  refine w_iconst (v := nZ 1) dX10_harmless_19 (by decide) ?_
  refine w_iconst (v := nZ 0) dX10_harmless_20 (by decide) ?_
  obtain ⟨r5, σ1, hc3, hG2, rr4, h⟩ := h
  refine w_callV dX10_harmless_21 ml_10_196 ⟨ok_X10_bad, vi_X10_bad⟩ hs_X10_bad (As := [.int (nZ s0), .int (nZ 1), .int (nZ 0)]) rfl rfl (gT hG rfl (lt_of rfl)) (Nat.le_of_ble_eq_true rfl) hc3 ?_
  show wp C 10 cX10_harmless 7 (some .int) false [] sc P 24 [(0, .ref 76), (1, .int (nZ x1))] [.int (nZ r5)] σ1
  refine i_if_eq (tgt := 29) dX10_harmless_24 rfl rr4 (fun c9 => ?_) (fun c9 => ?_)
  · replace h := h.1 c9
    refine w_aload_n dX10_harmless_29 rfl (List.Mem.head _) ?_
    refine w_getR (ci := 10) (k := 13) (b := 90) dX10_harmless_30 fl_10_31 (by decide) (gT hG2 rfl (lt_of rfl)) (gR hG2 (b := 90) rfl) ?_
    refine w_iload_n dX10_harmless_33 rfl (List.Mem.tail _ (List.Mem.head _)) ?_
    obtain ⟨h9, h⟩ := h
    have hj6 := vin_lt2 (n := 9) h9 rfl
    refine i_aald (n := 9) (b := (91 + x1.toNat)) dX10_harmless_34 (gT hG2 rfl (lt_of rfl)) (gL hG2 rfl) rx1 h9 (gR hG2 (rr_90 hj6)) ?_
    refine w_iconst (v := nZ 2) dX10_harmless_35 (by decide) ?_
    refine i_iald (n := 7) dX10_harmless_36 (gT hG2 (ro_90 _ hj6).1 (by have := hj6; omega)) (gL hG2 (ro_90 _ hj6).2) (by decide) (by decide) ?_
    refine top_i (fun z7 ez8 => ?_)
    have rz9 : inR z7 := ez8 ▸ (rI_R _ _ _)
    replace h := h z7 ez8
    refine w_istore_n (l' := [(2, .int (nZ z7)), (0, .ref 76), (1, .int (nZ x1))]) dX10_harmless_37 rfl (by decide) rfl ?_
    refine w_iconst (v := nZ (-1)) dX10_harmless_38 (by decide) ?_
    refine w_istore_n (l' := [(3, .int (nZ (-1))), (2, .int (nZ z7)), (0, .ref 76), (1, .int (nZ x1))]) dX10_harmless_39 rfl (by decide) rfl ?_
    refine w_iconst (v := nZ 0) dX10_harmless_40 (by decide) ?_
    refine w_istore (l' := [(4, .int (nZ 0)), (3, .int (nZ (-1))), (2, .int (nZ z7)), (0, .ref 76), (1, .int (nZ x1))]) dX10_harmless_41 (by decide) rfl ?_
    exact w_weak (l' := [(0, .ref 76), (1, .int (nZ x1)), (2, .int (nZ z7)), (3, .int (nZ (-1))), (4, .int (nZ 0))]) (by intro q hq; simp only [List.mem_cons, List.not_mem_nil, or_false] at hq ⊢; rcases hq with rfl | rfl | rfl | rfl | rfl <;> simp) h
  · replace h := h.2 c9
    refine w_iconst (v := nZ 0) dX10_harmless_27 (by decide) ?_
    exact w_iret dX10_harmless_28 rfl h
set_option maxRecDepth 10000 in
theorem v_X10_harmless_43 {C : aM → List Value → aH → aO → aH → Prop} {sc : Nat × (Nat → Int32)} {P : aO → aH → Prop} {σ : aH} {u : Nat}  {x1 : Int} {x2 : Int} {x3 : Int} {x4 : Int} (hG : G σ u) (rx1 : inR x1) (rx2 : inR x2) (rx3 : inR x3) (rx4 : inR x4)
    (h : ((60 < x4 → ((0 ≤ x1 ∧ x1 < 9) ∧ (∀ σ2 : aH, wI σ (91 + x1.toNat) 2 x2 = σ2 → P (.inl (some (.int (nZ x3)))) σ2))) ∧ (¬ (60 < x4) → ((0 ≤ x1 ∧ x1 < 9) ∧ (∀ σ6 : aH, wI σ (91 + x1.toNat) 2 x4 = σ6 → (∃ (r13 : Int) (σ9 : aH), C mX10_dueNow [.ref 76] σ6 (.inl (some (.int (nZ r13)))) σ9 ∧ G σ9 u ∧ inR r13 ∧ L_X10_harmless_71 C sc P x1 x2 x3 x4 0 0 σ9)))))) :
    L_X10_harmless_43 C sc P x1 x2 x3 x4 σ := by
  unfold L_X10_harmless_43
  refine w_iload dX10_harmless_43 (List.Mem.tail _ (List.Mem.tail _ (List.Mem.tail _ (List.Mem.tail _ (List.Mem.head _))))) ?_
  refine w_bipush (v := nZ 60) dX10_harmless_45 (by decide) ?_
  refine i_cmp_gt (tgt := 130) dX10_harmless_47 rfl rx4 (by decide) (fun c9 => ?_) (fun c9 => ?_)
  · replace h := h.1 c9
    refine w_aload_n dX10_harmless_130 rfl (List.Mem.head _) ?_
    refine w_getR (ci := 10) (k := 13) (b := 90) dX10_harmless_131 fl_10_31 (by decide) (gT hG rfl (lt_of rfl)) (gR hG (b := 90) rfl) ?_
    refine w_iload_n dX10_harmless_134 rfl (List.Mem.tail _ (List.Mem.head _)) ?_
    obtain ⟨h9, h⟩ := h
    have hj1 := vin_lt2 (n := 9) h9 rfl
    refine i_aald (n := 9) (b := (91 + x1.toNat)) dX10_harmless_135 (gT hG rfl (lt_of rfl)) (gL hG rfl) rx1 h9 (gR hG (rr_90 hj1)) ?_
    refine w_iconst (v := nZ 2) dX10_harmless_136 (by decide) ?_
    refine w_iload_n dX10_harmless_137 rfl (List.Mem.tail _ (List.Mem.tail _ (List.Mem.head _))) ?_
    refine i_iast (n := 7) dX10_harmless_138 (gT hG (ro_90 _ hj1).1 (by have := hj1; omega)) (gL hG (ro_90 _ hj1).2) (by decide) (by decide) (fun σ2 eσ3 => ?_)
    replace h := h σ2 eσ3
    have hG4 : G σ2 u := eσ3 ▸ G.wI hG
    refine w_iload_n dX10_harmless_139 rfl (List.Mem.tail _ (List.Mem.tail _ (List.Mem.tail _ (List.Mem.head _)))) ?_
    exact w_iret dX10_harmless_140 rfl h
  · replace h := h.2 c9
    refine w_iconst (v := nZ 0) dX10_harmless_50 (by decide) ?_
    refine w_istore (l' := [(5, .int (nZ 0)), (0, .ref 76), (1, .int (nZ x1)), (2, .int (nZ x2)), (3, .int (nZ x3)), (4, .int (nZ x4))]) dX10_harmless_51 (by decide) rfl ?_
    refine w_aload_n dX10_harmless_53 rfl (List.Mem.tail _ (List.Mem.head _)) ?_
    refine w_getR (ci := 10) (k := 13) (b := 90) dX10_harmless_54 fl_10_31 (by decide) (gT hG rfl (lt_of rfl)) (gR hG (b := 90) rfl) ?_
    refine w_iload_n dX10_harmless_57 rfl (List.Mem.tail _ (List.Mem.tail _ (List.Mem.head _))) ?_
    obtain ⟨h9, h⟩ := h
    have hj5 := vin_lt2 (n := 9) h9 rfl
    refine i_aald (n := 9) (b := (91 + x1.toNat)) dX10_harmless_58 (gT hG rfl (lt_of rfl)) (gL hG rfl) rx1 h9 (gR hG (rr_90 hj5)) ?_
    refine w_iconst (v := nZ 2) dX10_harmless_59 (by decide) ?_
    refine w_iload dX10_harmless_60 (List.Mem.tail _ (List.Mem.tail _ (List.Mem.tail _ (List.Mem.tail _ (List.Mem.tail _ (List.Mem.head _)))))) ?_
    refine i_iast (n := 7) dX10_harmless_62 (gT hG (ro_90 _ hj5).1 (by have := hj5; omega)) (gL hG (ro_90 _ hj5).2) (by decide) (by decide) (fun σ6 eσ7 => ?_)
    replace h := h σ6 eσ7
    have hG8 : G σ6 u := eσ7 ▸ G.wI hG
    refine w_aload_n dX10_harmless_63 rfl (List.Mem.tail _ (List.Mem.head _)) ?_
    obtain ⟨r13, σ9, hc11, hG10, rr12, h⟩ := h
    refine w_callV dX10_harmless_64 ml_10_281 ⟨ok_X10_dueNow, vi_X10_dueNow⟩ hs_X10_dueNow (As := []) rfl rfl (gT hG8 rfl (lt_of rfl)) (Nat.le_of_ble_eq_true rfl) hc11 ?_
    show wp C 10 cX10_harmless 7 (some .int) false [] sc P 67 [(5, .int (nZ 0)), (0, .ref 76), (1, .int (nZ x1)), (2, .int (nZ x2)), (3, .int (nZ x3)), (4, .int (nZ x4))] [.int (nZ r13)] σ9
    refine w_pop dX10_harmless_67 rfl ?_
    refine w_iconst (v := nZ 0) dX10_harmless_68 (by decide) ?_
    refine w_istore (l' := [(6, .int (nZ 0)), (5, .int (nZ 0)), (0, .ref 76), (1, .int (nZ x1)), (2, .int (nZ x2)), (3, .int (nZ x3)), (4, .int (nZ x4))]) dX10_harmless_69 (by decide) rfl ?_
    exact w_weak (l' := [(0, .ref 76), (1, .int (nZ x1)), (2, .int (nZ x2)), (3, .int (nZ x3)), (4, .int (nZ x4)), (5, .int (nZ 0)), (6, .int (nZ 0))]) (by intro q hq; simp only [List.mem_cons, List.not_mem_nil, or_false] at hq ⊢; rcases hq with rfl | rfl | rfl | rfl | rfl | rfl | rfl <;> simp) h
set_option maxRecDepth 10000 in
theorem v_X10_harmless_71 {C : aM → List Value → aH → aO → aH → Prop} {sc : Nat × (Nat → Int32)} {P : aO → aH → Prop} {σ : aH} {u : Nat}  {x1 : Int} {x2 : Int} {x3 : Int} {x4 : Int} {x5 : Int} {x6 : Int} (hG : G σ u) (rx1 : inR x1) (rx2 : inR x2) (rx3 : inR x3) (rx4 : inR x4) (rx5 : inR x5) (rx6 : inR x6)
    (h : (((rI σ 80 2) ≤ x6 → ((x5 = 0 → (inR (x4 + 1) ∧ L_X10_harmless_43 C sc P x1 x2 x4 (x4 + 1) σ)) ∧ (¬ (x5 = 0) → (inR (x4 + 1) ∧ L_X10_harmless_43 C sc P x1 x2 x3 (x4 + 1) σ)))) ∧ (¬ ((rI σ 80 2) ≤ x6) → ((¬ x5 = 0 → (inR (x6 + 1) ∧ L_X10_harmless_71 C sc P x1 x2 x3 x4 1 (x6 + 1) σ)) ∧ (x5 = 0 → ((0 ≤ x6 ∧ x6 < 9) ∧ ((0 ≤ x1 ∧ x1 < 9) ∧ (((rI σ (292 + x6.toNat) x1) ≤ 0 → (inR (x6 + 1) ∧ L_X10_harmless_71 C sc P x1 x2 x3 x4 0 (x6 + 1) σ)) ∧ (¬ ((rI σ (292 + x6.toNat) x1) ≤ 0) → (inR (x6 + 1) ∧ L_X10_harmless_71 C sc P x1 x2 x3 x4 1 (x6 + 1) σ)))))))))) :
    L_X10_harmless_71 C sc P x1 x2 x3 x4 x5 x6 σ := by
  unfold L_X10_harmless_71
  refine w_iload dX10_harmless_71 (List.Mem.tail _ (List.Mem.tail _ (List.Mem.tail _ (List.Mem.tail _ (List.Mem.tail _ (List.Mem.tail _ (List.Mem.head _))))))) ?_
  refine w_aload_n dX10_harmless_73 rfl (List.Mem.head _) ?_
  refine w_getR (ci := 10) (k := 11) (b := 80) dX10_harmless_74 fl_10_23 (by decide) (gT hG rfl (lt_of rfl)) (gR hG (b := 80) rfl) ?_
  refine w_iconst (v := nZ 2) dX10_harmless_77 (by decide) ?_
  refine i_iald (n := 8) dX10_harmless_78 (gT hG rfl (lt_of rfl)) (gL hG rfl) (by decide) (by decide) ?_
  refine i_cmp_ge (tgt := 112) dX10_harmless_79 rfl rx6 (rI_R _ _ _) (fun c9 => ?_) (fun c9 => ?_)
  · replace h := h.1 c9
    refine w_iload dX10_harmless_112 (List.Mem.tail _ (List.Mem.tail _ (List.Mem.tail _ (List.Mem.tail _ (List.Mem.tail _ (List.Mem.head _)))))) ?_
    refine i_if_eq (tgt := 121) dX10_harmless_114 rfl rx5 (fun c9 => ?_) (fun c9 => ?_)
    · replace h := h.1 c9
      refine w_iload dX10_harmless_121 (List.Mem.tail _ (List.Mem.tail _ (List.Mem.tail _ (List.Mem.tail _ (List.Mem.head _))))) ?_
      refine w_istore_n (l' := [(3, .int (nZ x4)), (0, .ref 76), (1, .int (nZ x1)), (2, .int (nZ x2)), (4, .int (nZ x4)), (5, .int (nZ x5)), (6, .int (nZ x6))]) dX10_harmless_123 rfl (by decide) rfl ?_
      obtain ⟨q1, h⟩ := h
      refine w_iinc (v := nZ (x4 + 1)) (l' := [(4, .int (nZ (x4 + 1))), (3, .int (nZ x4)), (0, .ref 76), (1, .int (nZ x1)), (2, .int (nZ x2)), (5, .int (nZ x5)), (6, .int (nZ x6))]) dX10_harmless_124 (List.Mem.tail _ (List.Mem.tail _ (List.Mem.tail _ (List.Mem.tail _ (List.Mem.head _))))) (nZ_add _ _) (by decide) rfl ?_
      refine w_goto (tgt := 43) dX10_harmless_127 rfl ?_
      exact w_weak (l' := [(0, .ref 76), (1, .int (nZ x1)), (2, .int (nZ x2)), (3, .int (nZ x4)), (4, .int (nZ (x4 + 1)))]) (by intro q hq; simp only [List.mem_cons, List.not_mem_nil, or_false] at hq ⊢; rcases hq with rfl | rfl | rfl | rfl | rfl <;> simp) h
    · replace h := h.2 c9
      refine w_iload_n dX10_harmless_117 rfl (List.Mem.tail _ (List.Mem.tail _ (List.Mem.tail _ (List.Mem.head _)))) ?_
      refine w_goto (tgt := 123) dX10_harmless_118 rfl ?_
      refine w_istore_n (l' := [(3, .int (nZ x3)), (0, .ref 76), (1, .int (nZ x1)), (2, .int (nZ x2)), (4, .int (nZ x4)), (5, .int (nZ x5)), (6, .int (nZ x6))]) dX10_harmless_123 rfl (by decide) rfl ?_
      obtain ⟨q2, h⟩ := h
      refine w_iinc (v := nZ (x4 + 1)) (l' := [(4, .int (nZ (x4 + 1))), (3, .int (nZ x3)), (0, .ref 76), (1, .int (nZ x1)), (2, .int (nZ x2)), (5, .int (nZ x5)), (6, .int (nZ x6))]) dX10_harmless_124 (List.Mem.tail _ (List.Mem.tail _ (List.Mem.tail _ (List.Mem.tail _ (List.Mem.head _))))) (nZ_add _ _) (by decide) rfl ?_
      refine w_goto (tgt := 43) dX10_harmless_127 rfl ?_
      exact w_weak (l' := [(0, .ref 76), (1, .int (nZ x1)), (2, .int (nZ x2)), (3, .int (nZ x3)), (4, .int (nZ (x4 + 1)))]) (by intro q hq; simp only [List.mem_cons, List.not_mem_nil, or_false] at hq ⊢; rcases hq with rfl | rfl | rfl | rfl | rfl <;> simp) h
  · replace h := h.2 c9
    refine w_iload dX10_harmless_82 (List.Mem.tail _ (List.Mem.tail _ (List.Mem.tail _ (List.Mem.tail _ (List.Mem.tail _ (List.Mem.head _)))))) ?_
    refine i_if_ne (tgt := 99) dX10_harmless_84 rfl rx5 (fun c9 => ?_) (fun c9 => ?_)
    · replace h := h.1 c9
      refine w_iconst (v := nZ 1) dX10_harmless_99 (by decide) ?_
      refine w_goto (tgt := 104) dX10_harmless_100 rfl ?_
      refine w_istore (l' := [(5, .int (nZ 1)), (0, .ref 76), (1, .int (nZ x1)), (2, .int (nZ x2)), (3, .int (nZ x3)), (4, .int (nZ x4)), (6, .int (nZ x6))]) dX10_harmless_104 (by decide) rfl ?_
      obtain ⟨q3, h⟩ := h
      refine w_iinc (v := nZ (x6 + 1)) (l' := [(6, .int (nZ (x6 + 1))), (5, .int (nZ 1)), (0, .ref 76), (1, .int (nZ x1)), (2, .int (nZ x2)), (3, .int (nZ x3)), (4, .int (nZ x4))]) dX10_harmless_106 (List.Mem.tail _ (List.Mem.tail _ (List.Mem.tail _ (List.Mem.tail _ (List.Mem.tail _ (List.Mem.tail _ (List.Mem.head _))))))) (nZ_add _ _) (by decide) rfl ?_
      refine w_goto (tgt := 71) dX10_harmless_109 rfl ?_
      exact w_weak (l' := [(0, .ref 76), (1, .int (nZ x1)), (2, .int (nZ x2)), (3, .int (nZ x3)), (4, .int (nZ x4)), (5, .int (nZ 1)), (6, .int (nZ (x6 + 1)))]) (by intro q hq; simp only [List.mem_cons, List.not_mem_nil, or_false] at hq ⊢; rcases hq with rfl | rfl | rfl | rfl | rfl | rfl | rfl <;> simp) h
    · replace h := h.2 c9
      refine w_aload_n dX10_harmless_87 rfl (List.Mem.head _) ?_
      refine w_getR (ci := 10) (k := 31) (b := 291) dX10_harmless_88 fl_10_61 (by decide) (gT hG rfl (lt_of rfl)) (gR hG (b := 291) rfl) ?_
      refine w_iload dX10_harmless_91 (List.Mem.tail _ (List.Mem.tail _ (List.Mem.tail _ (List.Mem.tail _ (List.Mem.tail _ (List.Mem.tail _ (List.Mem.head _))))))) ?_
      obtain ⟨h9, h⟩ := h
      have hj4 := vin_lt2 (n := 9) h9 rfl
      refine i_aald (n := 9) (b := (292 + x6.toNat)) dX10_harmless_93 (gT hG rfl (lt_of rfl)) (gL hG rfl) rx6 h9 (gR hG (rr_291 hj4)) ?_
      refine w_iload_n dX10_harmless_94 rfl (List.Mem.tail _ (List.Mem.head _)) ?_
      obtain ⟨h9, h⟩ := h
      refine i_iald (n := 9) dX10_harmless_95 (gT hG (ro_291 _ hj4).1 (by have := hj4; omega)) (gL hG (ro_291 _ hj4).2) rx1 h9 ?_
      refine i_if_le (tgt := 103) dX10_harmless_96 rfl (rI_R _ _ _) (fun c9 => ?_) (fun c9 => ?_)
      · replace h := h.1 c9
        refine w_iconst (v := nZ 0) dX10_harmless_103 (by decide) ?_
        refine w_istore (l' := [(5, .int (nZ 0)), (0, .ref 76), (1, .int (nZ x1)), (2, .int (nZ x2)), (3, .int (nZ x3)), (4, .int (nZ x4)), (6, .int (nZ x6))]) dX10_harmless_104 (by decide) rfl ?_
        obtain ⟨q5, h⟩ := h
        refine w_iinc (v := nZ (x6 + 1)) (l' := [(6, .int (nZ (x6 + 1))), (5, .int (nZ 0)), (0, .ref 76), (1, .int (nZ x1)), (2, .int (nZ x2)), (3, .int (nZ x3)), (4, .int (nZ x4))]) dX10_harmless_106 (List.Mem.tail _ (List.Mem.tail _ (List.Mem.tail _ (List.Mem.tail _ (List.Mem.tail _ (List.Mem.tail _ (List.Mem.head _))))))) (nZ_add _ _) (by decide) rfl ?_
        refine w_goto (tgt := 71) dX10_harmless_109 rfl ?_
        exact w_weak (l' := [(0, .ref 76), (1, .int (nZ x1)), (2, .int (nZ x2)), (3, .int (nZ x3)), (4, .int (nZ x4)), (5, .int (nZ 0)), (6, .int (nZ (x6 + 1)))]) (by intro q hq; simp only [List.mem_cons, List.not_mem_nil, or_false] at hq ⊢; rcases hq with rfl | rfl | rfl | rfl | rfl | rfl | rfl <;> simp) h
      · replace h := h.2 c9
        refine w_iconst (v := nZ 1) dX10_harmless_99 (by decide) ?_
        refine w_goto (tgt := 104) dX10_harmless_100 rfl ?_
        refine w_istore (l' := [(5, .int (nZ 1)), (0, .ref 76), (1, .int (nZ x1)), (2, .int (nZ x2)), (3, .int (nZ x3)), (4, .int (nZ x4)), (6, .int (nZ x6))]) dX10_harmless_104 (by decide) rfl ?_
        obtain ⟨q6, h⟩ := h
        refine w_iinc (v := nZ (x6 + 1)) (l' := [(6, .int (nZ (x6 + 1))), (5, .int (nZ 1)), (0, .ref 76), (1, .int (nZ x1)), (2, .int (nZ x2)), (3, .int (nZ x3)), (4, .int (nZ x4))]) dX10_harmless_106 (List.Mem.tail _ (List.Mem.tail _ (List.Mem.tail _ (List.Mem.tail _ (List.Mem.tail _ (List.Mem.tail _ (List.Mem.head _))))))) (nZ_add _ _) (by decide) rfl ?_
        refine w_goto (tgt := 71) dX10_harmless_109 rfl ?_
        exact w_weak (l' := [(0, .ref 76), (1, .int (nZ x1)), (2, .int (nZ x2)), (3, .int (nZ x3)), (4, .int (nZ x4)), (5, .int (nZ 1)), (6, .int (nZ (x6 + 1)))]) (by intro q hq; simp only [List.mem_cons, List.not_mem_nil, or_false] at hq ⊢; rcases hq with rfl | rfl | rfl | rfl | rfl | rfl | rfl <;> simp) h
theorem dX10_folded_0 : decode cX10_folded 0 = .ok (.aload_n 0, 1) := by decide +kernel
theorem dX10_folded_1 : decode cX10_folded 1 = .ok (.iconst 0, 1) := by decide +kernel
theorem dX10_folded_2 : decode cX10_folded 2 = .ok (.putfield 106, 3) := by decide +kernel
theorem dX10_folded_5 : decode cX10_folded 5 = .ok (.aload_n 0, 1) := by decide +kernel
theorem dX10_folded_6 : decode cX10_folded 6 = .ok (.iload_n 1, 1) := by decide +kernel
theorem dX10_folded_7 : decode cX10_folded 7 = .ok (.iconst 0, 1) := by decide +kernel
theorem dX10_folded_8 : decode cX10_folded 8 = .ok (.ldc_w 334, 3) := by decide +kernel
theorem dX10_folded_11 : decode cX10_folded 11 = .ok (.invokestatic 140, 3) := by decide +kernel
theorem dX10_folded_14 : decode cX10_folded 14 = .ok (.ifCond .ne 7, 3) := by decide +kernel
theorem dX10_folded_17 : decode cX10_folded 17 = .ok (.iconst 1, 1) := by decide +kernel
theorem dX10_folded_18 : decode cX10_folded 18 = .ok (.goto 4, 3) := by decide +kernel
theorem dX10_folded_21 : decode cX10_folded 21 = .ok (.iconst 0, 1) := by decide +kernel
theorem dX10_folded_22 : decode cX10_folded 22 = .ok (.iconst 1, 1) := by decide +kernel
theorem dX10_folded_23 : decode cX10_folded 23 = .ok (.iconst 1, 1) := by decide +kernel
theorem dX10_folded_24 : decode cX10_folded 24 = .ok (.invokevirtual 196, 3) := by decide +kernel
theorem dX10_folded_27 : decode cX10_folded 27 = .ok (.ifCond .eq 5, 3) := by decide +kernel
theorem dX10_folded_30 : decode cX10_folded 30 = .ok (.iconst 0, 1) := by decide +kernel
theorem dX10_folded_31 : decode cX10_folded 31 = .ok (.ireturn, 1) := by decide +kernel
theorem dX10_folded_32 : decode cX10_folded 32 = .ok (.iconst 0, 1) := by decide +kernel
theorem dX10_folded_33 : decode cX10_folded 33 = .ok (.istore_n 2, 1) := by decide +kernel
theorem dX10_folded_34 : decode cX10_folded 34 = .ok (.aload_n 0, 1) := by decide +kernel
theorem dX10_folded_35 : decode cX10_folded 35 = .ok (.getfield 23, 3) := by decide +kernel
theorem dX10_folded_38 : decode cX10_folded 38 = .ok (.iconst 3, 1) := by decide +kernel
theorem dX10_folded_39 : decode cX10_folded 39 = .ok (.iaload, 1) := by decide +kernel
theorem dX10_folded_40 : decode cX10_folded 40 = .ok (.istore_n 3, 1) := by decide +kernel
theorem dX10_folded_41 : decode cX10_folded 41 = .ok (.iload_n 2, 1) := by decide +kernel
theorem dX10_folded_42 : decode cX10_folded 42 = .ok (.iload_n 3, 1) := by decide +kernel
theorem dX10_folded_43 : decode cX10_folded 43 = .ok (.if_icmp .ge 44, 3) := by decide +kernel
theorem dX10_folded_46 : decode cX10_folded 46 = .ok (.iload_n 2, 1) := by decide +kernel
theorem dX10_folded_47 : decode cX10_folded 47 = .ok (.iload_n 3, 1) := by decide +kernel
theorem dX10_folded_48 : decode cX10_folded 48 = .ok (.iadd, 1) := by decide +kernel
theorem dX10_folded_49 : decode cX10_folded 49 = .ok (.iconst 1, 1) := by decide +kernel
theorem dX10_folded_50 : decode cX10_folded 50 = .ok (.iadd, 1) := by decide +kernel
theorem dX10_folded_51 : decode cX10_folded 51 = .ok (.iconst 2, 1) := by decide +kernel
theorem dX10_folded_52 : decode cX10_folded 52 = .ok (.idiv, 1) := by decide +kernel
theorem dX10_folded_53 : decode cX10_folded 53 = .ok (.istore 4, 2) := by decide +kernel
theorem dX10_folded_55 : decode cX10_folded 55 = .ok (.aload_n 0, 1) := by decide +kernel
theorem dX10_folded_56 : decode cX10_folded 56 = .ok (.sipush 1440, 3) := by decide +kernel
theorem dX10_folded_59 : decode cX10_folded 59 = .ok (.iload 4, 2) := by decide +kernel
theorem dX10_folded_61 : decode cX10_folded 61 = .ok (.iconst 0, 1) := by decide +kernel
theorem dX10_folded_62 : decode cX10_folded 62 = .ok (.invokevirtual 268, 3) := by decide +kernel
theorem dX10_folded_65 : decode cX10_folded 65 = .ok (.aload_n 0, 1) := by decide +kernel
theorem dX10_folded_66 : decode cX10_folded 66 = .ok (.getfield 252, 3) := by decide +kernel
theorem dX10_folded_69 : decode cX10_folded 69 = .ok (.iload_n 1, 1) := by decide +kernel
theorem dX10_folded_70 : decode cX10_folded 70 = .ok (.if_icmp .gt 9, 3) := by decide +kernel
theorem dX10_folded_73 : decode cX10_folded 73 = .ok (.iload 4, 2) := by decide +kernel
theorem dX10_folded_75 : decode cX10_folded 75 = .ok (.istore_n 2, 1) := by decide +kernel
theorem dX10_folded_76 : decode cX10_folded 76 = .ok (.goto 8, 3) := by decide +kernel
theorem dX10_folded_79 : decode cX10_folded 79 = .ok (.iload 4, 2) := by decide +kernel
theorem dX10_folded_81 : decode cX10_folded 81 = .ok (.iconst 1, 1) := by decide +kernel
theorem dX10_folded_82 : decode cX10_folded 82 = .ok (.isub, 1) := by decide +kernel
theorem dX10_folded_83 : decode cX10_folded 83 = .ok (.istore_n 3, 1) := by decide +kernel
theorem dX10_folded_84 : decode cX10_folded 84 = .ok (.goto (-43), 3) := by decide +kernel
theorem dX10_folded_87 : decode cX10_folded 87 = .ok (.iload_n 2, 1) := by decide +kernel
theorem dX10_folded_88 : decode cX10_folded 88 = .ok (.ireturn, 1) := by decide +kernel
def L_X10_folded_41 (C : aM → List Value → aH → aO → aH → Prop) (sc : Nat × (Nat → Int32)) (P : aO → aH → Prop) (x1 : Int) (x2 : Int) (x3 : Int) (σ : aH) : Prop :=
    wp C 10 cX10_folded 5 (some .int) false [] sc P 41 [(0, .ref 76), (1, .int (nZ x1)), (2, .int (nZ x2)), (3, .int (nZ x3))] [] σ
set_option maxRecDepth 10000 in
theorem t_X10_folded {sc : Nat × (Nat → Int32)} {d : Nat} {Q : aO → aH → Prop} {σ : aH} {u : Nat}  {x1 : Int} (hG : G σ u) (rx1 : inR x1)
    (h : (∀ σ1 : aH, wI σ 76 0 0 = σ1 → (∃ (r8 : Int) (σ4 : aH), Ev sc d mX10_in [.int (nZ x1), .int (nZ 0), .int (nZ 99999)] σ1 (.inl (some (.int (nZ r8)))) σ4 ∧ G σ4 u ∧ inR r8 ∧ ((¬ r8 = 0 → (∃ (r13 : Int) (σ9 : aH), Ev sc d mX10_bad [.ref 76, .int (nZ 0), .int (nZ 1), .int (nZ 1)] σ4 (.inl (some (.int (nZ r13)))) σ9 ∧ G σ9 u ∧ inR r13 ∧ ((r13 = 0 → (∀ z14 : Int, z14 = (rI σ9 80 3) → L_X10_folded_41 (Ev sc d) sc Q x1 0 z14 σ9)) ∧ (¬ (r13 = 0) → Q (.inl (some (.int (nZ 0)))) σ9)))) ∧ (r8 = 0 → (∃ (r21 : Int) (σ17 : aH), Ev sc d mX10_bad [.ref 76, .int (nZ 1), .int (nZ 1), .int (nZ 1)] σ4 (.inl (some (.int (nZ r21)))) σ17 ∧ G σ17 u ∧ inR r21 ∧ ((r21 = 0 → (∀ z22 : Int, z22 = (rI σ17 80 3) → L_X10_folded_41 (Ev sc d) sc Q x1 0 z22 σ17)) ∧ (¬ (r21 = 0) → Q (.inl (some (.int (nZ 0)))) σ17)))))))) :
    T sc (d + 1) mX10_folded [.ref 76, .int (nZ x1)] σ Q := by
  refine T.of (c := 10) (code := cX10_folded) (mL := 5) (rt := (some .int)) (ini := false) (l := [(0, .ref 76), (1, .int (nZ x1))]) rfl rfl rfl rfl (by decide) hs_X10_folded rfl rfl ?_
  refine w_aload_n dX10_folded_0 rfl (List.Mem.head _) ?_
  refine w_iconst (v := nZ 0) dX10_folded_1 (by decide) ?_
  refine i_putI (ci := 10) 0 rfl dX10_folded_2 fl_10_106 (by decide) (gT hG rfl (lt_of rfl)) (fun σ1 eσ2 => ?_)
  replace h := h σ1 eσ2
  have hG3 : G σ1 u := eσ2 ▸ G.wI hG
  refine w_aload_n dX10_folded_5 rfl (List.Mem.head _) ?_
  refine w_iload_n dX10_folded_6 rfl (List.Mem.tail _ (List.Mem.head _)) ?_
  refine w_iconst (v := nZ 0) dX10_folded_7 (by decide) ?_
  refine i_ldcw (x := 99999) dX10_folded_8 kc_10_334 (by decide) ?_
  obtain ⟨r8, σ4, hc6, hG5, rr7, h⟩ := h
  refine w_callS dX10_folded_11 ml_10_140 ⟨ok_X10_in, st_X10_in⟩ hs_X10_in (As := [.int (nZ x1), .int (nZ 0), .int (nZ 99999)]) rfl rfl (Nat.le_of_ble_eq_true rfl) hc6 ?_
  show wp (Ev sc d) 10 cX10_folded 5 (some .int) false [] sc Q 14 [(0, .ref 76), (1, .int (nZ x1))] [.int (nZ r8), .ref 76] σ4
  refine i_if_ne (tgt := 21) dX10_folded_14 rfl rr7 (fun c9 => ?_) (fun c9 => ?_)
  · replace h := h.1 c9
    refine w_iconst (v := nZ 0) dX10_folded_21 (by decide) ?_
    refine w_iconst (v := nZ 1) dX10_folded_22 (by decide) ?_
    refine w_iconst (v := nZ 1) dX10_folded_23 (by decide) ?_
    obtain ⟨r13, σ9, hc11, hG10, rr12, h⟩ := h
    refine w_callV dX10_folded_24 ml_10_196 ⟨ok_X10_bad, vi_X10_bad⟩ hs_X10_bad (As := [.int (nZ 0), .int (nZ 1), .int (nZ 1)]) rfl rfl (gT hG5 rfl (lt_of rfl)) (Nat.le_of_ble_eq_true rfl) hc11 ?_
    show wp (Ev sc d) 10 cX10_folded 5 (some .int) false [] sc Q 27 [(0, .ref 76), (1, .int (nZ x1))] [.int (nZ r13)] σ9
    refine i_if_eq (tgt := 32) dX10_folded_27 rfl rr12 (fun c9 => ?_) (fun c9 => ?_)
    · replace h := h.1 c9
      refine w_iconst (v := nZ 0) dX10_folded_32 (by decide) ?_
      refine w_istore_n (l' := [(2, .int (nZ 0)), (0, .ref 76), (1, .int (nZ x1))]) dX10_folded_33 rfl (by decide) rfl ?_
      refine w_aload_n dX10_folded_34 rfl (List.Mem.tail _ (List.Mem.head _)) ?_
      refine w_getR (ci := 10) (k := 11) (b := 80) dX10_folded_35 fl_10_23 (by decide) (gT hG10 rfl (lt_of rfl)) (gR hG10 (b := 80) rfl) ?_
      refine w_iconst (v := nZ 3) dX10_folded_38 (by decide) ?_
      refine i_iald (n := 8) dX10_folded_39 (gT hG10 rfl (lt_of rfl)) (gL hG10 rfl) (by decide) (by decide) ?_
      refine top_i (fun z14 ez15 => ?_)
      have rz16 : inR z14 := ez15 ▸ (rI_R _ _ _)
      replace h := h z14 ez15
      refine w_istore_n (l' := [(3, .int (nZ z14)), (2, .int (nZ 0)), (0, .ref 76), (1, .int (nZ x1))]) dX10_folded_40 rfl (by decide) rfl ?_
      exact w_weak (l' := [(0, .ref 76), (1, .int (nZ x1)), (2, .int (nZ 0)), (3, .int (nZ z14))]) (by intro q hq; simp only [List.mem_cons, List.not_mem_nil, or_false] at hq ⊢; rcases hq with rfl | rfl | rfl | rfl <;> simp) h
    · replace h := h.2 c9
      refine w_iconst (v := nZ 0) dX10_folded_30 (by decide) ?_
      exact w_iret dX10_folded_31 rfl h
  · replace h := h.2 c9
    refine w_iconst (v := nZ 1) dX10_folded_17 (by decide) ?_
    refine w_goto (tgt := 22) dX10_folded_18 rfl ?_
    refine w_iconst (v := nZ 1) dX10_folded_22 (by decide) ?_
    refine w_iconst (v := nZ 1) dX10_folded_23 (by decide) ?_
    obtain ⟨r21, σ17, hc19, hG18, rr20, h⟩ := h
    refine w_callV dX10_folded_24 ml_10_196 ⟨ok_X10_bad, vi_X10_bad⟩ hs_X10_bad (As := [.int (nZ 1), .int (nZ 1), .int (nZ 1)]) rfl rfl (gT hG5 rfl (lt_of rfl)) (Nat.le_of_ble_eq_true rfl) hc19 ?_
    show wp (Ev sc d) 10 cX10_folded 5 (some .int) false [] sc Q 27 [(0, .ref 76), (1, .int (nZ x1))] [.int (nZ r21)] σ17
    refine i_if_eq (tgt := 32) dX10_folded_27 rfl rr20 (fun c9 => ?_) (fun c9 => ?_)
    · replace h := h.1 c9
      refine w_iconst (v := nZ 0) dX10_folded_32 (by decide) ?_
      refine w_istore_n (l' := [(2, .int (nZ 0)), (0, .ref 76), (1, .int (nZ x1))]) dX10_folded_33 rfl (by decide) rfl ?_
      refine w_aload_n dX10_folded_34 rfl (List.Mem.tail _ (List.Mem.head _)) ?_
      refine w_getR (ci := 10) (k := 11) (b := 80) dX10_folded_35 fl_10_23 (by decide) (gT hG18 rfl (lt_of rfl)) (gR hG18 (b := 80) rfl) ?_
      refine w_iconst (v := nZ 3) dX10_folded_38 (by decide) ?_
      refine i_iald (n := 8) dX10_folded_39 (gT hG18 rfl (lt_of rfl)) (gL hG18 rfl) (by decide) (by decide) ?_
      refine top_i (fun z22 ez23 => ?_)
      have rz24 : inR z22 := ez23 ▸ (rI_R _ _ _)
      replace h := h z22 ez23
      refine w_istore_n (l' := [(3, .int (nZ z22)), (2, .int (nZ 0)), (0, .ref 76), (1, .int (nZ x1))]) dX10_folded_40 rfl (by decide) rfl ?_
      exact w_weak (l' := [(0, .ref 76), (1, .int (nZ x1)), (2, .int (nZ 0)), (3, .int (nZ z22))]) (by intro q hq; simp only [List.mem_cons, List.not_mem_nil, or_false] at hq ⊢; rcases hq with rfl | rfl | rfl | rfl <;> simp) h
    · replace h := h.2 c9
      refine w_iconst (v := nZ 0) dX10_folded_30 (by decide) ?_
      exact w_iret dX10_folded_31 rfl h
set_option maxRecDepth 10000 in
theorem v_X10_folded_41 {C : aM → List Value → aH → aO → aH → Prop} {sc : Nat × (Nat → Int32)} {P : aO → aH → Prop} {σ : aH} {u : Nat}  {x1 : Int} {x2 : Int} {x3 : Int} (hG : G σ u) (rx1 : inR x1) (rx2 : inR x2) (rx3 : inR x3)
    (h : ((x3 ≤ x2 → P (.inl (some (.int (nZ x2)))) σ) ∧ (¬ (x3 ≤ x2) → (inR (x2 + x3) ∧ (inR ((x2 + x3) + 1) ∧ ((0 ≤ ((x2 + x3) + 1) ∧ (0 : Int) < 2) ∧ inR (((x2 + x3) + 1) / 2) ∧ (∀ z4 : Int, z4 = (((x2 + x3) + 1) / 2) → (∃ σ7 : aH, C mX10_goes [.ref 76, .int (nZ 1440), .int (nZ z4), .int (nZ 0)] σ (.inl none) σ7 ∧ G σ7 u ∧ ((x1 < (rI σ7 76 36) → (inR (z4 - 1) ∧ (∀ z12 : Int, z12 = (z4 - 1) → L_X10_folded_41 C sc P x1 x2 z12 σ7))) ∧ (¬ (x1 < (rI σ7 76 36)) → L_X10_folded_41 C sc P x1 z4 x3 σ7)))))))))) :
    L_X10_folded_41 C sc P x1 x2 x3 σ := by
  unfold L_X10_folded_41
  refine w_iload_n dX10_folded_41 rfl (List.Mem.tail _ (List.Mem.tail _ (List.Mem.head _))) ?_
  refine w_iload_n dX10_folded_42 rfl (List.Mem.tail _ (List.Mem.tail _ (List.Mem.tail _ (List.Mem.head _)))) ?_
  refine i_cmp_ge (tgt := 87) dX10_folded_43 rfl rx2 rx3 (fun c9 => ?_) (fun c9 => ?_)
  · replace h := h.1 c9
    refine w_iload_n dX10_folded_87 rfl (List.Mem.tail _ (List.Mem.tail _ (List.Mem.head _))) ?_
    exact w_iret dX10_folded_88 rfl h
  · replace h := h.2 c9
    refine w_iload_n dX10_folded_46 rfl (List.Mem.tail _ (List.Mem.tail _ (List.Mem.head _))) ?_
    refine w_iload_n dX10_folded_47 rfl (List.Mem.tail _ (List.Mem.tail _ (List.Mem.tail _ (List.Mem.head _)))) ?_
    obtain ⟨q1, h⟩ := h
    refine i_add dX10_folded_48 ?_
    refine w_iconst (v := nZ 1) dX10_folded_49 (by decide) ?_
    obtain ⟨q2, h⟩ := h
    refine i_add dX10_folded_50 ?_
    refine w_iconst (v := nZ 2) dX10_folded_51 (by decide) ?_
    obtain ⟨h9, q3, h⟩ := h
    refine i_div dX10_folded_52 q2 (by decide) h9 ?_
    refine top_i (fun z4 ez5 => ?_)
    have rz6 : inR z4 := ez5 ▸ q3
    replace h := h z4 ez5
    refine w_istore (l' := [(4, .int (nZ z4)), (0, .ref 76), (1, .int (nZ x1)), (2, .int (nZ x2)), (3, .int (nZ x3))]) dX10_folded_53 (by decide) rfl ?_
    refine w_aload_n dX10_folded_55 rfl (List.Mem.tail _ (List.Mem.head _)) ?_
    refine w_sipush (v := nZ 1440) dX10_folded_56 (by decide) ?_
    refine w_iload dX10_folded_59 (List.Mem.head _) ?_
    refine w_iconst (v := nZ 0) dX10_folded_61 (by decide) ?_
    obtain ⟨σ7, hc9, hG8, h⟩ := h
    refine w_callV dX10_folded_62 ml_10_268 ⟨ok_X10_goes, vi_X10_goes⟩ hs_X10_goes (As := [.int (nZ 1440), .int (nZ z4), .int (nZ 0)]) rfl rfl (gT hG rfl (lt_of rfl)) (Nat.le_of_ble_eq_true rfl) hc9 ?_
    show wp C 10 cX10_folded 5 (some .int) false [] sc P 65 [(4, .int (nZ z4)), (0, .ref 76), (1, .int (nZ x1)), (2, .int (nZ x2)), (3, .int (nZ x3))] [] σ7
    refine w_aload_n dX10_folded_65 rfl (List.Mem.tail _ (List.Mem.head _)) ?_
    refine i_getI (ci := 10) 36 rfl dX10_folded_66 fl_10_252 (by decide) (gT hG8 rfl (lt_of rfl)) ?_
    refine w_iload_n dX10_folded_69 rfl (List.Mem.tail _ (List.Mem.tail _ (List.Mem.head _))) ?_
    refine i_cmp_gt (tgt := 79) dX10_folded_70 rfl (rI_R _ _ _) rx1 (fun c9 => ?_) (fun c9 => ?_)
    · replace h := h.1 c9
      refine w_iload dX10_folded_79 (List.Mem.head _) ?_
      refine w_iconst (v := nZ 1) dX10_folded_81 (by decide) ?_
      obtain ⟨q11, h⟩ := h
      refine i_sub dX10_folded_82 ?_
      refine top_i (fun z12 ez13 => ?_)
      have rz14 : inR z12 := ez13 ▸ q11
      replace h := h z12 ez13
      refine w_istore_n (l' := [(3, .int (nZ z12)), (4, .int (nZ z4)), (0, .ref 76), (1, .int (nZ x1)), (2, .int (nZ x2))]) dX10_folded_83 rfl (by decide) rfl ?_
      refine w_goto (tgt := 41) dX10_folded_84 rfl ?_
      exact w_weak (l' := [(0, .ref 76), (1, .int (nZ x1)), (2, .int (nZ x2)), (3, .int (nZ z12))]) (by intro q hq; simp only [List.mem_cons, List.not_mem_nil, or_false] at hq ⊢; rcases hq with rfl | rfl | rfl | rfl <;> simp) h
    · replace h := h.2 c9
      refine w_iload dX10_folded_73 (List.Mem.head _) ?_
      refine w_istore_n (l' := [(2, .int (nZ z4)), (4, .int (nZ z4)), (0, .ref 76), (1, .int (nZ x1)), (3, .int (nZ x3))]) dX10_folded_75 rfl (by decide) rfl ?_
      refine w_goto (tgt := 84) dX10_folded_76 rfl ?_
      refine w_goto (tgt := 41) dX10_folded_84 rfl ?_
      exact w_weak (l' := [(0, .ref 76), (1, .int (nZ x1)), (2, .int (nZ z4)), (3, .int (nZ x3))]) (by intro q hq; simp only [List.mem_cons, List.not_mem_nil, or_false] at hq ⊢; rcases hq with rfl | rfl | rfl | rfl <;> simp) h
theorem dX10_awned_0 : decode cX10_awned 0 = .ok (.aload_n 0, 1) := by decide +kernel
theorem dX10_awned_1 : decode cX10_awned 1 = .ok (.iconst 0, 1) := by decide +kernel
theorem dX10_awned_2 : decode cX10_awned 2 = .ok (.putfield 106, 3) := by decide +kernel
theorem dX10_awned_5 : decode cX10_awned 5 = .ok (.aload_n 0, 1) := by decide +kernel
theorem dX10_awned_6 : decode cX10_awned 6 = .ok (.aload_n 0, 1) := by decide +kernel
theorem dX10_awned_7 : decode cX10_awned 7 = .ok (.iload_n 1, 1) := by decide +kernel
theorem dX10_awned_8 : decode cX10_awned 8 = .ok (.invokevirtual 236, 3) := by decide +kernel
theorem dX10_awned_11 : decode cX10_awned 11 = .ok (.ifCond .ne 7, 3) := by decide +kernel
theorem dX10_awned_14 : decode cX10_awned 14 = .ok (.iconst 1, 1) := by decide +kernel
theorem dX10_awned_15 : decode cX10_awned 15 = .ok (.goto 4, 3) := by decide +kernel
theorem dX10_awned_18 : decode cX10_awned 18 = .ok (.iconst 0, 1) := by decide +kernel
theorem dX10_awned_19 : decode cX10_awned 19 = .ok (.iconst 1, 1) := by decide +kernel
theorem dX10_awned_20 : decode cX10_awned 20 = .ok (.iconst 0, 1) := by decide +kernel
theorem dX10_awned_21 : decode cX10_awned 21 = .ok (.invokevirtual 196, 3) := by decide +kernel
theorem dX10_awned_24 : decode cX10_awned 24 = .ok (.ifCond .ne 26, 3) := by decide +kernel
theorem dX10_awned_27 : decode cX10_awned 27 = .ok (.aload_n 0, 1) := by decide +kernel
theorem dX10_awned_28 : decode cX10_awned 28 = .ok (.iload_n 2, 1) := by decide +kernel
theorem dX10_awned_29 : decode cX10_awned 29 = .ok (.iconst 0, 1) := by decide +kernel
theorem dX10_awned_30 : decode cX10_awned 30 = .ok (.iconst 1, 1) := by decide +kernel
theorem dX10_awned_31 : decode cX10_awned 31 = .ok (.invokestatic 140, 3) := by decide +kernel
theorem dX10_awned_34 : decode cX10_awned 34 = .ok (.ifCond .ne 7, 3) := by decide +kernel
theorem dX10_awned_37 : decode cX10_awned 37 = .ok (.iconst 1, 1) := by decide +kernel
theorem dX10_awned_38 : decode cX10_awned 38 = .ok (.goto 4, 3) := by decide +kernel
theorem dX10_awned_41 : decode cX10_awned 41 = .ok (.iconst 0, 1) := by decide +kernel
theorem dX10_awned_42 : decode cX10_awned 42 = .ok (.iconst 2, 1) := by decide +kernel
theorem dX10_awned_43 : decode cX10_awned 43 = .ok (.iconst 1, 1) := by decide +kernel
theorem dX10_awned_44 : decode cX10_awned 44 = .ok (.invokevirtual 196, 3) := by decide +kernel
theorem dX10_awned_47 : decode cX10_awned 47 = .ok (.ifCond .eq 5, 3) := by decide +kernel
theorem dX10_awned_50 : decode cX10_awned 50 = .ok (.iconst 0, 1) := by decide +kernel
theorem dX10_awned_51 : decode cX10_awned 51 = .ok (.ireturn, 1) := by decide +kernel
theorem dX10_awned_52 : decode cX10_awned 52 = .ok (.aload_n 0, 1) := by decide +kernel
theorem dX10_awned_53 : decode cX10_awned 53 = .ok (.getfield 31, 3) := by decide +kernel
theorem dX10_awned_56 : decode cX10_awned 56 = .ok (.iload_n 1, 1) := by decide +kernel
theorem dX10_awned_57 : decode cX10_awned 57 = .ok (.aaload, 1) := by decide +kernel
theorem dX10_awned_58 : decode cX10_awned 58 = .ok (.iconst 3, 1) := by decide +kernel
theorem dX10_awned_59 : decode cX10_awned 59 = .ok (.iaload, 1) := by decide +kernel
theorem dX10_awned_60 : decode cX10_awned 60 = .ok (.istore_n 3, 1) := by decide +kernel
theorem dX10_awned_61 : decode cX10_awned 61 = .ok (.iconst 0, 1) := by decide +kernel
theorem dX10_awned_62 : decode cX10_awned 62 = .ok (.istore 4, 2) := by decide +kernel
theorem dX10_awned_64 : decode cX10_awned 64 = .ok (.iconst 0, 1) := by decide +kernel
theorem dX10_awned_65 : decode cX10_awned 65 = .ok (.istore 5, 2) := by decide +kernel
theorem dX10_awned_67 : decode cX10_awned 67 = .ok (.iconst 0, 1) := by decide +kernel
theorem dX10_awned_68 : decode cX10_awned 68 = .ok (.istore 6, 2) := by decide +kernel
theorem dX10_awned_70 : decode cX10_awned 70 = .ok (.iload 6, 2) := by decide +kernel
theorem dX10_awned_72 : decode cX10_awned 72 = .ok (.iconst 4, 1) := by decide +kernel
theorem dX10_awned_73 : decode cX10_awned 73 = .ok (.if_icmp .ge 49, 3) := by decide +kernel
theorem dX10_awned_76 : decode cX10_awned 76 = .ok (.aload_n 0, 1) := by decide +kernel
theorem dX10_awned_77 : decode cX10_awned 77 = .ok (.getfield 31, 3) := by decide +kernel
theorem dX10_awned_80 : decode cX10_awned 80 = .ok (.iload_n 1, 1) := by decide +kernel
theorem dX10_awned_81 : decode cX10_awned 81 = .ok (.aaload, 1) := by decide +kernel
theorem dX10_awned_82 : decode cX10_awned 82 = .ok (.iconst 3, 1) := by decide +kernel
theorem dX10_awned_83 : decode cX10_awned 83 = .ok (.iload 6, 2) := by decide +kernel
theorem dX10_awned_85 : decode cX10_awned 85 = .ok (.iastore, 1) := by decide +kernel
theorem dX10_awned_86 : decode cX10_awned 86 = .ok (.aload_n 0, 1) := by decide +kernel
theorem dX10_awned_87 : decode cX10_awned 87 = .ok (.iload_n 1, 1) := by decide +kernel
theorem dX10_awned_88 : decode cX10_awned 88 = .ok (.invokevirtual 315, 3) := by decide +kernel
theorem dX10_awned_91 : decode cX10_awned 91 = .ok (.istore 7, 2) := by decide +kernel
theorem dX10_awned_93 : decode cX10_awned 93 = .ok (.iload 6, 2) := by decide +kernel
theorem dX10_awned_95 : decode cX10_awned 95 = .ok (.ifCond .le 13, 3) := by decide +kernel
theorem dX10_awned_98 : decode cX10_awned 98 = .ok (.iload 7, 2) := by decide +kernel
theorem dX10_awned_100 : decode cX10_awned 100 = .ok (.iload 5, 2) := by decide +kernel
theorem dX10_awned_102 : decode cX10_awned 102 = .ok (.if_icmp .gt 6, 3) := by decide +kernel
theorem dX10_awned_105 : decode cX10_awned 105 = .ok (.goto 11, 3) := by decide +kernel
theorem dX10_awned_108 : decode cX10_awned 108 = .ok (.iload 6, 2) := by decide +kernel
theorem dX10_awned_110 : decode cX10_awned 110 = .ok (.istore 4, 2) := by decide +kernel
theorem dX10_awned_112 : decode cX10_awned 112 = .ok (.iload 7, 2) := by decide +kernel
theorem dX10_awned_114 : decode cX10_awned 114 = .ok (.istore 5, 2) := by decide +kernel
theorem dX10_awned_116 : decode cX10_awned 116 = .ok (.iinc 6 1, 3) := by decide +kernel
theorem dX10_awned_119 : decode cX10_awned 119 = .ok (.goto (-49), 3) := by decide +kernel
theorem dX10_awned_122 : decode cX10_awned 122 = .ok (.aload_n 0, 1) := by decide +kernel
theorem dX10_awned_123 : decode cX10_awned 123 = .ok (.getfield 31, 3) := by decide +kernel
theorem dX10_awned_126 : decode cX10_awned 126 = .ok (.iload_n 1, 1) := by decide +kernel
theorem dX10_awned_127 : decode cX10_awned 127 = .ok (.aaload, 1) := by decide +kernel
theorem dX10_awned_128 : decode cX10_awned 128 = .ok (.iconst 3, 1) := by decide +kernel
theorem dX10_awned_129 : decode cX10_awned 129 = .ok (.iload_n 3, 1) := by decide +kernel
theorem dX10_awned_130 : decode cX10_awned 130 = .ok (.iastore, 1) := by decide +kernel
theorem dX10_awned_131 : decode cX10_awned 131 = .ok (.iload_n 2, 1) := by decide +kernel
theorem dX10_awned_132 : decode cX10_awned 132 = .ok (.ifCond .ne 8, 3) := by decide +kernel
theorem dX10_awned_135 : decode cX10_awned 135 = .ok (.iload 4, 2) := by decide +kernel
theorem dX10_awned_137 : decode cX10_awned 137 = .ok (.goto 5, 3) := by decide +kernel
theorem dX10_awned_140 : decode cX10_awned 140 = .ok (.iload 5, 2) := by decide +kernel
theorem dX10_awned_142 : decode cX10_awned 142 = .ok (.ireturn, 1) := by decide +kernel
def L_X10_awned_19 (C : aM → List Value → aH → aO → aH → Prop) (sc : Nat × (Nat → Int32)) (P : aO → aH → Prop) (x1 : Int) (x2 : Int) (s0 : Int) (σ : aH) : Prop :=
    wp C 10 cX10_awned 8 (some .int) false [] sc P 19 [(0, .ref 76), (1, .int (nZ x1)), (2, .int (nZ x2))] [.int (nZ s0), .ref 76] σ
def L_X10_awned_42 (C : aM → List Value → aH → aO → aH → Prop) (sc : Nat × (Nat → Int32)) (P : aO → aH → Prop) (x1 : Int) (x2 : Int) (s0 : Int) (σ : aH) : Prop :=
    wp C 10 cX10_awned 8 (some .int) false [] sc P 42 [(0, .ref 76), (1, .int (nZ x1)), (2, .int (nZ x2))] [.int (nZ s0), .ref 76] σ
def L_X10_awned_70 (C : aM → List Value → aH → aO → aH → Prop) (sc : Nat × (Nat → Int32)) (P : aO → aH → Prop) (x1 : Int) (x2 : Int) (x3 : Int) (x4 : Int) (x5 : Int) (x6 : Int) (σ : aH) : Prop :=
    wp C 10 cX10_awned 8 (some .int) false [] sc P 70 [(0, .ref 76), (1, .int (nZ x1)), (2, .int (nZ x2)), (3, .int (nZ x3)), (4, .int (nZ x4)), (5, .int (nZ x5)), (6, .int (nZ x6))] [] σ
set_option maxRecDepth 10000 in
theorem t_X10_awned {sc : Nat × (Nat → Int32)} {d : Nat} {Q : aO → aH → Prop} {σ : aH} {u : Nat}  {x1 : Int} {x2 : Int} (hG : G σ u) (rx1 : inR x1) (rx2 : inR x2)
    (h : (∀ σ1 : aH, wI σ 76 0 0 = σ1 → (∃ (r8 : Int) (σ4 : aH), Ev sc d mX10_isStall [.ref 76, .int (nZ x1)] σ1 (.inl (some (.int (nZ r8)))) σ4 ∧ G σ4 u ∧ inR r8 ∧ ((¬ r8 = 0 → L_X10_awned_19 (Ev sc d) sc Q x1 x2 0 σ4) ∧ (r8 = 0 → L_X10_awned_19 (Ev sc d) sc Q x1 x2 1 σ4))))) :
    T sc (d + 1) mX10_awned [.ref 76, .int (nZ x1), .int (nZ x2)] σ Q := by
  refine T.of (c := 10) (code := cX10_awned) (mL := 8) (rt := (some .int)) (ini := false) (l := [(0, .ref 76), (1, .int (nZ x1)), (2, .int (nZ x2))]) rfl rfl rfl rfl (by decide) hs_X10_awned rfl rfl ?_
  refine w_aload_n dX10_awned_0 rfl (List.Mem.head _) ?_
  refine w_iconst (v := nZ 0) dX10_awned_1 (by decide) ?_
  refine i_putI (ci := 10) 0 rfl dX10_awned_2 fl_10_106 (by decide) (gT hG rfl (lt_of rfl)) (fun σ1 eσ2 => ?_)
  replace h := h σ1 eσ2
  have hG3 : G σ1 u := eσ2 ▸ G.wI hG
  refine w_aload_n dX10_awned_5 rfl (List.Mem.head _) ?_
  refine w_aload_n dX10_awned_6 rfl (List.Mem.head _) ?_
  refine w_iload_n dX10_awned_7 rfl (List.Mem.tail _ (List.Mem.head _)) ?_
  obtain ⟨r8, σ4, hc6, hG5, rr7, h⟩ := h
  refine w_callV dX10_awned_8 ml_10_236 ⟨ok_X10_isStall, vi_X10_isStall⟩ hs_X10_isStall (As := [.int (nZ x1)]) rfl rfl (gT hG3 rfl (lt_of rfl)) (Nat.le_of_ble_eq_true rfl) hc6 ?_
  show wp (Ev sc d) 10 cX10_awned 8 (some .int) false [] sc Q 11 [(0, .ref 76), (1, .int (nZ x1)), (2, .int (nZ x2))] [.int (nZ r8), .ref 76] σ4
  refine i_if_ne (tgt := 18) dX10_awned_11 rfl rr7 (fun c9 => ?_) (fun c9 => ?_)
  · replace h := h.1 c9
    refine w_iconst (v := nZ 0) dX10_awned_18 (by decide) ?_
    exact h
  · replace h := h.2 c9
    refine w_iconst (v := nZ 1) dX10_awned_14 (by decide) ?_
    refine w_goto (tgt := 19) dX10_awned_15 rfl ?_
    exact h
set_option maxRecDepth 10000 in
theorem v_X10_awned_19 {C : aM → List Value → aH → aO → aH → Prop} {sc : Nat × (Nat → Int32)} {P : aO → aH → Prop} {σ : aH} {u : Nat}  {x1 : Int} {x2 : Int} {s0 : Int} (hG : G σ u) (rx1 : inR x1) (rx2 : inR x2) (rs0 : inR s0)
    (h : (∃ (r5 : Int) (σ1 : aH), C mX10_bad [.ref 76, .int (nZ s0), .int (nZ 1), .int (nZ 0)] σ (.inl (some (.int (nZ r5)))) σ1 ∧ G σ1 u ∧ inR r5 ∧ ((¬ r5 = 0 → P (.inl (some (.int (nZ 0)))) σ1) ∧ (r5 = 0 → (∃ (r10 : Int) (σ6 : aH), C mX10_in [.int (nZ x2), .int (nZ 0), .int (nZ 1)] σ1 (.inl (some (.int (nZ r10)))) σ6 ∧ G σ6 u ∧ inR r10 ∧ ((¬ r10 = 0 → L_X10_awned_42 C sc P x1 x2 0 σ6) ∧ (r10 = 0 → L_X10_awned_42 C sc P x1 x2 1 σ6))))))) :
    L_X10_awned_19 C sc P x1 x2 s0 σ := by
  unfold L_X10_awned_19
  refine w_iconst (v := nZ 1) dX10_awned_19 (by decide) ?_
  refine w_iconst (v := nZ 0) dX10_awned_20 (by decide) ?_
  obtain ⟨r5, σ1, hc3, hG2, rr4, h⟩ := h
  refine w_callV dX10_awned_21 ml_10_196 ⟨ok_X10_bad, vi_X10_bad⟩ hs_X10_bad (As := [.int (nZ s0), .int (nZ 1), .int (nZ 0)]) rfl rfl (gT hG rfl (lt_of rfl)) (Nat.le_of_ble_eq_true rfl) hc3 ?_
  show wp C 10 cX10_awned 8 (some .int) false [] sc P 24 [(0, .ref 76), (1, .int (nZ x1)), (2, .int (nZ x2))] [.int (nZ r5)] σ1
  refine i_if_ne (tgt := 50) dX10_awned_24 rfl rr4 (fun c9 => ?_) (fun c9 => ?_)
  · replace h := h.1 c9
    refine w_iconst (v := nZ 0) dX10_awned_50 (by decide) ?_
    exact w_iret dX10_awned_51 rfl h
  · replace h := h.2 c9
    refine w_aload_n dX10_awned_27 rfl (List.Mem.head _) ?_
    refine w_iload_n dX10_awned_28 rfl (List.Mem.tail _ (List.Mem.tail _ (List.Mem.head _))) ?_
    refine w_iconst (v := nZ 0) dX10_awned_29 (by decide) ?_
    refine w_iconst (v := nZ 1) dX10_awned_30 (by decide) ?_
    obtain ⟨r10, σ6, hc8, hG7, rr9, h⟩ := h
    refine w_callS dX10_awned_31 ml_10_140 ⟨ok_X10_in, st_X10_in⟩ hs_X10_in (As := [.int (nZ x2), .int (nZ 0), .int (nZ 1)]) rfl rfl (Nat.le_of_ble_eq_true rfl) hc8 ?_
    show wp C 10 cX10_awned 8 (some .int) false [] sc P 34 [(0, .ref 76), (1, .int (nZ x1)), (2, .int (nZ x2))] [.int (nZ r10), .ref 76] σ6
    refine i_if_ne (tgt := 41) dX10_awned_34 rfl rr9 (fun c9 => ?_) (fun c9 => ?_)
    · replace h := h.1 c9
      refine w_iconst (v := nZ 0) dX10_awned_41 (by decide) ?_
      exact h
    · replace h := h.2 c9
      refine w_iconst (v := nZ 1) dX10_awned_37 (by decide) ?_
      refine w_goto (tgt := 42) dX10_awned_38 rfl ?_
      exact h
set_option maxRecDepth 10000 in
theorem v_X10_awned_42 {C : aM → List Value → aH → aO → aH → Prop} {sc : Nat × (Nat → Int32)} {P : aO → aH → Prop} {σ : aH} {u : Nat}  {x1 : Int} {x2 : Int} {s0 : Int} (hG : G σ u) (rx1 : inR x1) (rx2 : inR x2) (rs0 : inR s0)
    (h : (∃ (r5 : Int) (σ1 : aH), C mX10_bad [.ref 76, .int (nZ s0), .int (nZ 2), .int (nZ 1)] σ (.inl (some (.int (nZ r5)))) σ1 ∧ G σ1 u ∧ inR r5 ∧ ((r5 = 0 → ((0 ≤ x1 ∧ x1 < 9) ∧ (∀ z7 : Int, z7 = (rI σ1 (91 + x1.toNat) 3) → L_X10_awned_70 C sc P x1 x2 z7 0 0 0 σ1))) ∧ (¬ (r5 = 0) → P (.inl (some (.int (nZ 0)))) σ1)))) :
    L_X10_awned_42 C sc P x1 x2 s0 σ := by
  unfold L_X10_awned_42
  refine w_iconst (v := nZ 2) dX10_awned_42 (by decide) ?_
  refine w_iconst (v := nZ 1) dX10_awned_43 (by decide) ?_
  obtain ⟨r5, σ1, hc3, hG2, rr4, h⟩ := h
  refine w_callV dX10_awned_44 ml_10_196 ⟨ok_X10_bad, vi_X10_bad⟩ hs_X10_bad (As := [.int (nZ s0), .int (nZ 2), .int (nZ 1)]) rfl rfl (gT hG rfl (lt_of rfl)) (Nat.le_of_ble_eq_true rfl) hc3 ?_
  show wp C 10 cX10_awned 8 (some .int) false [] sc P 47 [(0, .ref 76), (1, .int (nZ x1)), (2, .int (nZ x2))] [.int (nZ r5)] σ1
  refine i_if_eq (tgt := 52) dX10_awned_47 rfl rr4 (fun c9 => ?_) (fun c9 => ?_)
  · replace h := h.1 c9
    refine w_aload_n dX10_awned_52 rfl (List.Mem.head _) ?_
    refine w_getR (ci := 10) (k := 13) (b := 90) dX10_awned_53 fl_10_31 (by decide) (gT hG2 rfl (lt_of rfl)) (gR hG2 (b := 90) rfl) ?_
    refine w_iload_n dX10_awned_56 rfl (List.Mem.tail _ (List.Mem.head _)) ?_
    obtain ⟨h9, h⟩ := h
    have hj6 := vin_lt2 (n := 9) h9 rfl
    refine i_aald (n := 9) (b := (91 + x1.toNat)) dX10_awned_57 (gT hG2 rfl (lt_of rfl)) (gL hG2 rfl) rx1 h9 (gR hG2 (rr_90 hj6)) ?_
    refine w_iconst (v := nZ 3) dX10_awned_58 (by decide) ?_
    refine i_iald (n := 7) dX10_awned_59 (gT hG2 (ro_90 _ hj6).1 (by have := hj6; omega)) (gL hG2 (ro_90 _ hj6).2) (by decide) (by decide) ?_
    refine top_i (fun z7 ez8 => ?_)
    have rz9 : inR z7 := ez8 ▸ (rI_R _ _ _)
    replace h := h z7 ez8
    refine w_istore_n (l' := [(3, .int (nZ z7)), (0, .ref 76), (1, .int (nZ x1)), (2, .int (nZ x2))]) dX10_awned_60 rfl (by decide) rfl ?_
    refine w_iconst (v := nZ 0) dX10_awned_61 (by decide) ?_
    refine w_istore (l' := [(4, .int (nZ 0)), (3, .int (nZ z7)), (0, .ref 76), (1, .int (nZ x1)), (2, .int (nZ x2))]) dX10_awned_62 (by decide) rfl ?_
    refine w_iconst (v := nZ 0) dX10_awned_64 (by decide) ?_
    refine w_istore (l' := [(5, .int (nZ 0)), (4, .int (nZ 0)), (3, .int (nZ z7)), (0, .ref 76), (1, .int (nZ x1)), (2, .int (nZ x2))]) dX10_awned_65 (by decide) rfl ?_
    refine w_iconst (v := nZ 0) dX10_awned_67 (by decide) ?_
    refine w_istore (l' := [(6, .int (nZ 0)), (5, .int (nZ 0)), (4, .int (nZ 0)), (3, .int (nZ z7)), (0, .ref 76), (1, .int (nZ x1)), (2, .int (nZ x2))]) dX10_awned_68 (by decide) rfl ?_
    exact w_weak (l' := [(0, .ref 76), (1, .int (nZ x1)), (2, .int (nZ x2)), (3, .int (nZ z7)), (4, .int (nZ 0)), (5, .int (nZ 0)), (6, .int (nZ 0))]) (by intro q hq; simp only [List.mem_cons, List.not_mem_nil, or_false] at hq ⊢; rcases hq with rfl | rfl | rfl | rfl | rfl | rfl | rfl <;> simp) h
  · replace h := h.2 c9
    refine w_iconst (v := nZ 0) dX10_awned_50 (by decide) ?_
    exact w_iret dX10_awned_51 rfl h
set_option maxRecDepth 10000 in
theorem v_X10_awned_70 {C : aM → List Value → aH → aO → aH → Prop} {sc : Nat × (Nat → Int32)} {P : aO → aH → Prop} {σ : aH} {u : Nat}  {x1 : Int} {x2 : Int} {x3 : Int} {x4 : Int} {x5 : Int} {x6 : Int} (hG : G σ u) (rx1 : inR x1) (rx2 : inR x2) (rx3 : inR x3) (rx4 : inR x4) (rx5 : inR x5) (rx6 : inR x6)
    (h : ((4 ≤ x6 → ((0 ≤ x1 ∧ x1 < 9) ∧ (∀ σ2 : aH, wI σ (91 + x1.toNat) 3 x3 = σ2 → ((¬ x2 = 0 → P (.inl (some (.int (nZ x5)))) σ2) ∧ (x2 = 0 → P (.inl (some (.int (nZ x4)))) σ2))))) ∧ (¬ (4 ≤ x6) → ((0 ≤ x1 ∧ x1 < 9) ∧ (∀ σ6 : aH, wI σ (91 + x1.toNat) 3 x6 = σ6 → (∃ (r13 : Int) (σ9 : aH), C mX10_gainOf [.ref 76, .int (nZ x1)] σ6 (.inl (some (.int (nZ r13)))) σ9 ∧ G σ9 u ∧ inR r13 ∧ ((x6 ≤ 0 → (inR (x6 + 1) ∧ L_X10_awned_70 C sc P x1 x2 x3 x6 r13 (x6 + 1) σ9)) ∧ (¬ (x6 ≤ 0) → ((x5 < r13 → (inR (x6 + 1) ∧ L_X10_awned_70 C sc P x1 x2 x3 x6 r13 (x6 + 1) σ9)) ∧ (¬ (x5 < r13) → (inR (x6 + 1) ∧ L_X10_awned_70 C sc P x1 x2 x3 x4 x5 (x6 + 1) σ9))))))))))) :
    L_X10_awned_70 C sc P x1 x2 x3 x4 x5 x6 σ := by
  unfold L_X10_awned_70
  refine w_iload dX10_awned_70 (List.Mem.tail _ (List.Mem.tail _ (List.Mem.tail _ (List.Mem.tail _ (List.Mem.tail _ (List.Mem.tail _ (List.Mem.head _))))))) ?_
  refine w_iconst (v := nZ 4) dX10_awned_72 (by decide) ?_
  refine i_cmp_ge (tgt := 122) dX10_awned_73 rfl rx6 (by decide) (fun c9 => ?_) (fun c9 => ?_)
  · replace h := h.1 c9
    refine w_aload_n dX10_awned_122 rfl (List.Mem.head _) ?_
    refine w_getR (ci := 10) (k := 13) (b := 90) dX10_awned_123 fl_10_31 (by decide) (gT hG rfl (lt_of rfl)) (gR hG (b := 90) rfl) ?_
    refine w_iload_n dX10_awned_126 rfl (List.Mem.tail _ (List.Mem.head _)) ?_
    obtain ⟨h9, h⟩ := h
    have hj1 := vin_lt2 (n := 9) h9 rfl
    refine i_aald (n := 9) (b := (91 + x1.toNat)) dX10_awned_127 (gT hG rfl (lt_of rfl)) (gL hG rfl) rx1 h9 (gR hG (rr_90 hj1)) ?_
    refine w_iconst (v := nZ 3) dX10_awned_128 (by decide) ?_
    refine w_iload_n dX10_awned_129 rfl (List.Mem.tail _ (List.Mem.tail _ (List.Mem.tail _ (List.Mem.head _)))) ?_
    refine i_iast (n := 7) dX10_awned_130 (gT hG (ro_90 _ hj1).1 (by have := hj1; omega)) (gL hG (ro_90 _ hj1).2) (by decide) (by decide) (fun σ2 eσ3 => ?_)
    replace h := h σ2 eσ3
    have hG4 : G σ2 u := eσ3 ▸ G.wI hG
    refine w_iload_n dX10_awned_131 rfl (List.Mem.tail _ (List.Mem.tail _ (List.Mem.head _))) ?_
    refine i_if_ne (tgt := 140) dX10_awned_132 rfl rx2 (fun c9 => ?_) (fun c9 => ?_)
    · replace h := h.1 c9
      refine w_iload dX10_awned_140 (List.Mem.tail _ (List.Mem.tail _ (List.Mem.tail _ (List.Mem.tail _ (List.Mem.tail _ (List.Mem.head _)))))) ?_
      exact w_iret dX10_awned_142 rfl h
    · replace h := h.2 c9
      refine w_iload dX10_awned_135 (List.Mem.tail _ (List.Mem.tail _ (List.Mem.tail _ (List.Mem.tail _ (List.Mem.head _))))) ?_
      refine w_goto (tgt := 142) dX10_awned_137 rfl ?_
      exact w_iret dX10_awned_142 rfl h
  · replace h := h.2 c9
    refine w_aload_n dX10_awned_76 rfl (List.Mem.head _) ?_
    refine w_getR (ci := 10) (k := 13) (b := 90) dX10_awned_77 fl_10_31 (by decide) (gT hG rfl (lt_of rfl)) (gR hG (b := 90) rfl) ?_
    refine w_iload_n dX10_awned_80 rfl (List.Mem.tail _ (List.Mem.head _)) ?_
    obtain ⟨h9, h⟩ := h
    have hj5 := vin_lt2 (n := 9) h9 rfl
    refine i_aald (n := 9) (b := (91 + x1.toNat)) dX10_awned_81 (gT hG rfl (lt_of rfl)) (gL hG rfl) rx1 h9 (gR hG (rr_90 hj5)) ?_
    refine w_iconst (v := nZ 3) dX10_awned_82 (by decide) ?_
    refine w_iload dX10_awned_83 (List.Mem.tail _ (List.Mem.tail _ (List.Mem.tail _ (List.Mem.tail _ (List.Mem.tail _ (List.Mem.tail _ (List.Mem.head _))))))) ?_
    refine i_iast (n := 7) dX10_awned_85 (gT hG (ro_90 _ hj5).1 (by have := hj5; omega)) (gL hG (ro_90 _ hj5).2) (by decide) (by decide) (fun σ6 eσ7 => ?_)
    replace h := h σ6 eσ7
    have hG8 : G σ6 u := eσ7 ▸ G.wI hG
    refine w_aload_n dX10_awned_86 rfl (List.Mem.head _) ?_
    refine w_iload_n dX10_awned_87 rfl (List.Mem.tail _ (List.Mem.head _)) ?_
    obtain ⟨r13, σ9, hc11, hG10, rr12, h⟩ := h
    refine w_callV dX10_awned_88 ml_10_315 ⟨ok_X10_gainOf, vi_X10_gainOf⟩ hs_X10_gainOf (As := [.int (nZ x1)]) rfl rfl (gT hG8 rfl (lt_of rfl)) (Nat.le_of_ble_eq_true rfl) hc11 ?_
    show wp C 10 cX10_awned 8 (some .int) false [] sc P 91 [(0, .ref 76), (1, .int (nZ x1)), (2, .int (nZ x2)), (3, .int (nZ x3)), (4, .int (nZ x4)), (5, .int (nZ x5)), (6, .int (nZ x6))] [.int (nZ r13)] σ9
    refine w_istore (l' := [(7, .int (nZ r13)), (0, .ref 76), (1, .int (nZ x1)), (2, .int (nZ x2)), (3, .int (nZ x3)), (4, .int (nZ x4)), (5, .int (nZ x5)), (6, .int (nZ x6))]) dX10_awned_91 (by decide) rfl ?_
    refine w_iload dX10_awned_93 (List.Mem.tail _ (List.Mem.tail _ (List.Mem.tail _ (List.Mem.tail _ (List.Mem.tail _ (List.Mem.tail _ (List.Mem.tail _ (List.Mem.head _)))))))) ?_
    refine i_if_le (tgt := 108) dX10_awned_95 rfl rx6 (fun c9 => ?_) (fun c9 => ?_)
    · replace h := h.1 c9
      refine w_iload dX10_awned_108 (List.Mem.tail _ (List.Mem.tail _ (List.Mem.tail _ (List.Mem.tail _ (List.Mem.tail _ (List.Mem.tail _ (List.Mem.tail _ (List.Mem.head _)))))))) ?_
      refine w_istore (l' := [(4, .int (nZ x6)), (7, .int (nZ r13)), (0, .ref 76), (1, .int (nZ x1)), (2, .int (nZ x2)), (3, .int (nZ x3)), (5, .int (nZ x5)), (6, .int (nZ x6))]) dX10_awned_110 (by decide) rfl ?_
      refine w_iload dX10_awned_112 (List.Mem.tail _ (List.Mem.head _)) ?_
      refine w_istore (l' := [(5, .int (nZ r13)), (4, .int (nZ x6)), (7, .int (nZ r13)), (0, .ref 76), (1, .int (nZ x1)), (2, .int (nZ x2)), (3, .int (nZ x3)), (6, .int (nZ x6))]) dX10_awned_114 (by decide) rfl ?_
      obtain ⟨q14, h⟩ := h
      refine w_iinc (v := nZ (x6 + 1)) (l' := [(6, .int (nZ (x6 + 1))), (5, .int (nZ r13)), (4, .int (nZ x6)), (7, .int (nZ r13)), (0, .ref 76), (1, .int (nZ x1)), (2, .int (nZ x2)), (3, .int (nZ x3))]) dX10_awned_116 (List.Mem.tail _ (List.Mem.tail _ (List.Mem.tail _ (List.Mem.tail _ (List.Mem.tail _ (List.Mem.tail _ (List.Mem.tail _ (List.Mem.head _)))))))) (nZ_add _ _) (by decide) rfl ?_
      refine w_goto (tgt := 70) dX10_awned_119 rfl ?_
      exact w_weak (l' := [(0, .ref 76), (1, .int (nZ x1)), (2, .int (nZ x2)), (3, .int (nZ x3)), (4, .int (nZ x6)), (5, .int (nZ r13)), (6, .int (nZ (x6 + 1)))]) (by intro q hq; simp only [List.mem_cons, List.not_mem_nil, or_false] at hq ⊢; rcases hq with rfl | rfl | rfl | rfl | rfl | rfl | rfl <;> simp) h
    · replace h := h.2 c9
      refine w_iload dX10_awned_98 (List.Mem.head _) ?_
      refine w_iload dX10_awned_100 (List.Mem.tail _ (List.Mem.tail _ (List.Mem.tail _ (List.Mem.tail _ (List.Mem.tail _ (List.Mem.tail _ (List.Mem.head _))))))) ?_
      refine i_cmp_gt (tgt := 108) dX10_awned_102 rfl rr12 rx5 (fun c9 => ?_) (fun c9 => ?_)
      · replace h := h.1 c9
        refine w_iload dX10_awned_108 (List.Mem.tail _ (List.Mem.tail _ (List.Mem.tail _ (List.Mem.tail _ (List.Mem.tail _ (List.Mem.tail _ (List.Mem.tail _ (List.Mem.head _)))))))) ?_
        refine w_istore (l' := [(4, .int (nZ x6)), (7, .int (nZ r13)), (0, .ref 76), (1, .int (nZ x1)), (2, .int (nZ x2)), (3, .int (nZ x3)), (5, .int (nZ x5)), (6, .int (nZ x6))]) dX10_awned_110 (by decide) rfl ?_
        refine w_iload dX10_awned_112 (List.Mem.tail _ (List.Mem.head _)) ?_
        refine w_istore (l' := [(5, .int (nZ r13)), (4, .int (nZ x6)), (7, .int (nZ r13)), (0, .ref 76), (1, .int (nZ x1)), (2, .int (nZ x2)), (3, .int (nZ x3)), (6, .int (nZ x6))]) dX10_awned_114 (by decide) rfl ?_
        obtain ⟨q15, h⟩ := h
        refine w_iinc (v := nZ (x6 + 1)) (l' := [(6, .int (nZ (x6 + 1))), (5, .int (nZ r13)), (4, .int (nZ x6)), (7, .int (nZ r13)), (0, .ref 76), (1, .int (nZ x1)), (2, .int (nZ x2)), (3, .int (nZ x3))]) dX10_awned_116 (List.Mem.tail _ (List.Mem.tail _ (List.Mem.tail _ (List.Mem.tail _ (List.Mem.tail _ (List.Mem.tail _ (List.Mem.tail _ (List.Mem.head _)))))))) (nZ_add _ _) (by decide) rfl ?_
        refine w_goto (tgt := 70) dX10_awned_119 rfl ?_
        exact w_weak (l' := [(0, .ref 76), (1, .int (nZ x1)), (2, .int (nZ x2)), (3, .int (nZ x3)), (4, .int (nZ x6)), (5, .int (nZ r13)), (6, .int (nZ (x6 + 1)))]) (by intro q hq; simp only [List.mem_cons, List.not_mem_nil, or_false] at hq ⊢; rcases hq with rfl | rfl | rfl | rfl | rfl | rfl | rfl <;> simp) h
      · replace h := h.2 c9
        refine w_goto (tgt := 116) dX10_awned_105 rfl ?_
        obtain ⟨q16, h⟩ := h
        refine w_iinc (v := nZ (x6 + 1)) (l' := [(6, .int (nZ (x6 + 1))), (7, .int (nZ r13)), (0, .ref 76), (1, .int (nZ x1)), (2, .int (nZ x2)), (3, .int (nZ x3)), (4, .int (nZ x4)), (5, .int (nZ x5))]) dX10_awned_116 (List.Mem.tail _ (List.Mem.tail _ (List.Mem.tail _ (List.Mem.tail _ (List.Mem.tail _ (List.Mem.tail _ (List.Mem.tail _ (List.Mem.head _)))))))) (nZ_add _ _) (by decide) rfl ?_
        refine w_goto (tgt := 70) dX10_awned_119 rfl ?_
        exact w_weak (l' := [(0, .ref 76), (1, .int (nZ x1)), (2, .int (nZ x2)), (3, .int (nZ x3)), (4, .int (nZ x4)), (5, .int (nZ x5)), (6, .int (nZ (x6 + 1)))]) (by intro q hq; simp only [List.mem_cons, List.not_mem_nil, or_false] at hq ⊢; rcases hq with rfl | rfl | rfl | rfl | rfl | rfl | rfl <;> simp) h
theorem dX10_lights_0 : decode cX10_lights 0 = .ok (.aload_n 0, 1) := by decide +kernel
theorem dX10_lights_1 : decode cX10_lights 1 = .ok (.iconst 0, 1) := by decide +kernel
theorem dX10_lights_2 : decode cX10_lights 2 = .ok (.putfield 106, 3) := by decide +kernel
theorem dX10_lights_5 : decode cX10_lights 5 = .ok (.aload_n 0, 1) := by decide +kernel
theorem dX10_lights_6 : decode cX10_lights 6 = .ok (.invokevirtual 281, 3) := by decide +kernel
theorem dX10_lights_9 : decode cX10_lights 9 = .ok (.pop, 1) := by decide +kernel
theorem dX10_lights_10 : decode cX10_lights 10 = .ok (.aload_n 0, 1) := by decide +kernel
theorem dX10_lights_11 : decode cX10_lights 11 = .ok (.getfield 255, 3) := by decide +kernel
theorem dX10_lights_14 : decode cX10_lights 14 = .ok (.ireturn, 1) := by decide +kernel
set_option maxRecDepth 10000 in
theorem t_X10_lights {sc : Nat × (Nat → Int32)} {d : Nat} {Q : aO → aH → Prop} {σ : aH} {u : Nat}   (hG : G σ u) 
    (h : (∀ σ1 : aH, wI σ 76 0 0 = σ1 → (∃ (r8 : Int) (σ4 : aH), Ev sc d mX10_dueNow [.ref 76] σ1 (.inl (some (.int (nZ r8)))) σ4 ∧ G σ4 u ∧ inR r8 ∧ Q (.inl (some (.int (nZ (rI σ4 76 37))))) σ4))) :
    T sc (d + 1) mX10_lights [.ref 76] σ Q := by
  refine T.of (c := 10) (code := cX10_lights) (mL := 1) (rt := (some .int)) (ini := false) (l := [(0, .ref 76)]) rfl rfl rfl rfl (by decide) hs_X10_lights rfl rfl ?_
  refine w_aload_n dX10_lights_0 rfl (List.Mem.head _) ?_
  refine w_iconst (v := nZ 0) dX10_lights_1 (by decide) ?_
  refine i_putI (ci := 10) 0 rfl dX10_lights_2 fl_10_106 (by decide) (gT hG rfl (lt_of rfl)) (fun σ1 eσ2 => ?_)
  replace h := h σ1 eσ2
  have hG3 : G σ1 u := eσ2 ▸ G.wI hG
  refine w_aload_n dX10_lights_5 rfl (List.Mem.head _) ?_
  obtain ⟨r8, σ4, hc6, hG5, rr7, h⟩ := h
  refine w_callV dX10_lights_6 ml_10_281 ⟨ok_X10_dueNow, vi_X10_dueNow⟩ hs_X10_dueNow (As := []) rfl rfl (gT hG3 rfl (lt_of rfl)) (Nat.le_of_ble_eq_true rfl) hc6 ?_
  show wp (Ev sc d) 10 cX10_lights 1 (some .int) false [] sc Q 9 [(0, .ref 76)] [.int (nZ r8)] σ4
  refine w_pop dX10_lights_9 rfl ?_
  refine w_aload_n dX10_lights_10 rfl (List.Mem.head _) ?_
  refine i_getI (ci := 10) 37 rfl dX10_lights_11 fl_10_255 (by decide) (gT hG5 rfl (lt_of rfl)) ?_
  exact w_iret dX10_lights_14 rfl h
theorem dX10_hour_0 : decode cX10_hour 0 = .ok (.aload_n 0, 1) := by decide +kernel
theorem dX10_hour_1 : decode cX10_hour 1 = .ok (.iconst 0, 1) := by decide +kernel
theorem dX10_hour_2 : decode cX10_hour 2 = .ok (.putfield 106, 3) := by decide +kernel
theorem dX10_hour_5 : decode cX10_hour 5 = .ok (.aload_n 0, 1) := by decide +kernel
theorem dX10_hour_6 : decode cX10_hour 6 = .ok (.iload_n 1, 1) := by decide +kernel
theorem dX10_hour_7 : decode cX10_hour 7 = .ok (.iconst 0, 1) := by decide +kernel
theorem dX10_hour_8 : decode cX10_hour 8 = .ok (.iconst 1, 1) := by decide +kernel
theorem dX10_hour_9 : decode cX10_hour 9 = .ok (.invokestatic 140, 3) := by decide +kernel
theorem dX10_hour_12 : decode cX10_hour 12 = .ok (.ifCond .ne 7, 3) := by decide +kernel
theorem dX10_hour_15 : decode cX10_hour 15 = .ok (.iconst 1, 1) := by decide +kernel
theorem dX10_hour_16 : decode cX10_hour 16 = .ok (.goto 4, 3) := by decide +kernel
theorem dX10_hour_19 : decode cX10_hour 19 = .ok (.iconst 0, 1) := by decide +kernel
theorem dX10_hour_20 : decode cX10_hour 20 = .ok (.iconst 1, 1) := by decide +kernel
theorem dX10_hour_21 : decode cX10_hour 21 = .ok (.iconst 1, 1) := by decide +kernel
theorem dX10_hour_22 : decode cX10_hour 22 = .ok (.invokevirtual 196, 3) := by decide +kernel
theorem dX10_hour_25 : decode cX10_hour 25 = .ok (.ifCond .eq 5, 3) := by decide +kernel
theorem dX10_hour_28 : decode cX10_hour 28 = .ok (.iconst 0, 1) := by decide +kernel
theorem dX10_hour_29 : decode cX10_hour 29 = .ok (.ireturn, 1) := by decide +kernel
theorem dX10_hour_30 : decode cX10_hour 30 = .ok (.aload_n 0, 1) := by decide +kernel
theorem dX10_hour_31 : decode cX10_hour 31 = .ok (.invokevirtual 281, 3) := by decide +kernel
theorem dX10_hour_34 : decode cX10_hour 34 = .ok (.pop, 1) := by decide +kernel
theorem dX10_hour_35 : decode cX10_hour 35 = .ok (.iconst 0, 1) := by decide +kernel
theorem dX10_hour_36 : decode cX10_hour 36 = .ok (.istore_n 2, 1) := by decide +kernel
theorem dX10_hour_37 : decode cX10_hour 37 = .ok (.iconst 1, 1) := by decide +kernel
theorem dX10_hour_38 : decode cX10_hour 38 = .ok (.istore_n 3, 1) := by decide +kernel
theorem dX10_hour_39 : decode cX10_hour 39 = .ok (.iload_n 3, 1) := by decide +kernel
theorem dX10_hour_40 : decode cX10_hour 40 = .ok (.bipush 24, 2) := by decide +kernel
theorem dX10_hour_42 : decode cX10_hour 42 = .ok (.if_icmp .ge 30, 3) := by decide +kernel
theorem dX10_hour_45 : decode cX10_hour 45 = .ok (.aload_n 0, 1) := by decide +kernel
theorem dX10_hour_46 : decode cX10_hour 46 = .ok (.getfield 70, 3) := by decide +kernel
theorem dX10_hour_49 : decode cX10_hour 49 = .ok (.iload_n 3, 1) := by decide +kernel
theorem dX10_hour_50 : decode cX10_hour 50 = .ok (.iaload, 1) := by decide +kernel
theorem dX10_hour_51 : decode cX10_hour 51 = .ok (.aload_n 0, 1) := by decide +kernel
theorem dX10_hour_52 : decode cX10_hour 52 = .ok (.getfield 70, 3) := by decide +kernel
theorem dX10_hour_55 : decode cX10_hour 55 = .ok (.iload_n 2, 1) := by decide +kernel
theorem dX10_hour_56 : decode cX10_hour 56 = .ok (.iaload, 1) := by decide +kernel
theorem dX10_hour_57 : decode cX10_hour 57 = .ok (.if_icmp .le 7, 3) := by decide +kernel
theorem dX10_hour_60 : decode cX10_hour 60 = .ok (.iload_n 3, 1) := by decide +kernel
theorem dX10_hour_61 : decode cX10_hour 61 = .ok (.goto 4, 3) := by decide +kernel
theorem dX10_hour_64 : decode cX10_hour 64 = .ok (.iload_n 2, 1) := by decide +kernel
theorem dX10_hour_65 : decode cX10_hour 65 = .ok (.istore_n 2, 1) := by decide +kernel
theorem dX10_hour_66 : decode cX10_hour 66 = .ok (.iinc 3 1, 3) := by decide +kernel
theorem dX10_hour_69 : decode cX10_hour 69 = .ok (.goto (-30), 3) := by decide +kernel
theorem dX10_hour_72 : decode cX10_hour 72 = .ok (.iload_n 1, 1) := by decide +kernel
theorem dX10_hour_73 : decode cX10_hour 73 = .ok (.ifCond .ne 7, 3) := by decide +kernel
theorem dX10_hour_76 : decode cX10_hour 76 = .ok (.iload_n 2, 1) := by decide +kernel
theorem dX10_hour_77 : decode cX10_hour 77 = .ok (.goto 9, 3) := by decide +kernel
theorem dX10_hour_80 : decode cX10_hour 80 = .ok (.aload_n 0, 1) := by decide +kernel
theorem dX10_hour_81 : decode cX10_hour 81 = .ok (.getfield 70, 3) := by decide +kernel
theorem dX10_hour_84 : decode cX10_hour 84 = .ok (.iload_n 2, 1) := by decide +kernel
theorem dX10_hour_85 : decode cX10_hour 85 = .ok (.iaload, 1) := by decide +kernel
theorem dX10_hour_86 : decode cX10_hour 86 = .ok (.ireturn, 1) := by decide +kernel
def L_X10_hour_39 (C : aM → List Value → aH → aO → aH → Prop) (sc : Nat × (Nat → Int32)) (P : aO → aH → Prop) (x1 : Int) (x2 : Int) (x3 : Int) (σ : aH) : Prop :=
    wp C 10 cX10_hour 4 (some .int) false [] sc P 39 [(0, .ref 76), (1, .int (nZ x1)), (2, .int (nZ x2)), (3, .int (nZ x3))] [] σ
set_option maxRecDepth 10000 in
theorem t_X10_hour {sc : Nat × (Nat → Int32)} {d : Nat} {Q : aO → aH → Prop} {σ : aH} {u : Nat}  {x1 : Int} (hG : G σ u) (rx1 : inR x1)
    (h : (∀ σ1 : aH, wI σ 76 0 0 = σ1 → (∃ (r8 : Int) (σ4 : aH), Ev sc d mX10_in [.int (nZ x1), .int (nZ 0), .int (nZ 1)] σ1 (.inl (some (.int (nZ r8)))) σ4 ∧ G σ4 u ∧ inR r8 ∧ ((¬ r8 = 0 → (∃ (r13 : Int) (σ9 : aH), Ev sc d mX10_bad [.ref 76, .int (nZ 0), .int (nZ 1), .int (nZ 1)] σ4 (.inl (some (.int (nZ r13)))) σ9 ∧ G σ9 u ∧ inR r13 ∧ ((r13 = 0 → (∃ (r18 : Int) (σ14 : aH), Ev sc d mX10_dueNow [.ref 76] σ9 (.inl (some (.int (nZ r18)))) σ14 ∧ G σ14 u ∧ inR r18 ∧ L_X10_hour_39 (Ev sc d) sc Q x1 0 1 σ14)) ∧ (¬ (r13 = 0) → Q (.inl (some (.int (nZ 0)))) σ9)))) ∧ (r8 = 0 → (∃ (r23 : Int) (σ19 : aH), Ev sc d mX10_bad [.ref 76, .int (nZ 1), .int (nZ 1), .int (nZ 1)] σ4 (.inl (some (.int (nZ r23)))) σ19 ∧ G σ19 u ∧ inR r23 ∧ ((r23 = 0 → (∃ (r28 : Int) (σ24 : aH), Ev sc d mX10_dueNow [.ref 76] σ19 (.inl (some (.int (nZ r28)))) σ24 ∧ G σ24 u ∧ inR r28 ∧ L_X10_hour_39 (Ev sc d) sc Q x1 0 1 σ24)) ∧ (¬ (r23 = 0) → Q (.inl (some (.int (nZ 0)))) σ19)))))))) :
    T sc (d + 1) mX10_hour [.ref 76, .int (nZ x1)] σ Q := by
  refine T.of (c := 10) (code := cX10_hour) (mL := 4) (rt := (some .int)) (ini := false) (l := [(0, .ref 76), (1, .int (nZ x1))]) rfl rfl rfl rfl (by decide) hs_X10_hour rfl rfl ?_
  refine w_aload_n dX10_hour_0 rfl (List.Mem.head _) ?_
  refine w_iconst (v := nZ 0) dX10_hour_1 (by decide) ?_
  refine i_putI (ci := 10) 0 rfl dX10_hour_2 fl_10_106 (by decide) (gT hG rfl (lt_of rfl)) (fun σ1 eσ2 => ?_)
  replace h := h σ1 eσ2
  have hG3 : G σ1 u := eσ2 ▸ G.wI hG
  refine w_aload_n dX10_hour_5 rfl (List.Mem.head _) ?_
  refine w_iload_n dX10_hour_6 rfl (List.Mem.tail _ (List.Mem.head _)) ?_
  refine w_iconst (v := nZ 0) dX10_hour_7 (by decide) ?_
  refine w_iconst (v := nZ 1) dX10_hour_8 (by decide) ?_
  obtain ⟨r8, σ4, hc6, hG5, rr7, h⟩ := h
  refine w_callS dX10_hour_9 ml_10_140 ⟨ok_X10_in, st_X10_in⟩ hs_X10_in (As := [.int (nZ x1), .int (nZ 0), .int (nZ 1)]) rfl rfl (Nat.le_of_ble_eq_true rfl) hc6 ?_
  show wp (Ev sc d) 10 cX10_hour 4 (some .int) false [] sc Q 12 [(0, .ref 76), (1, .int (nZ x1))] [.int (nZ r8), .ref 76] σ4
  refine i_if_ne (tgt := 19) dX10_hour_12 rfl rr7 (fun c9 => ?_) (fun c9 => ?_)
  · replace h := h.1 c9
    refine w_iconst (v := nZ 0) dX10_hour_19 (by decide) ?_
    refine w_iconst (v := nZ 1) dX10_hour_20 (by decide) ?_
    refine w_iconst (v := nZ 1) dX10_hour_21 (by decide) ?_
    obtain ⟨r13, σ9, hc11, hG10, rr12, h⟩ := h
    refine w_callV dX10_hour_22 ml_10_196 ⟨ok_X10_bad, vi_X10_bad⟩ hs_X10_bad (As := [.int (nZ 0), .int (nZ 1), .int (nZ 1)]) rfl rfl (gT hG5 rfl (lt_of rfl)) (Nat.le_of_ble_eq_true rfl) hc11 ?_
    show wp (Ev sc d) 10 cX10_hour 4 (some .int) false [] sc Q 25 [(0, .ref 76), (1, .int (nZ x1))] [.int (nZ r13)] σ9
    refine i_if_eq (tgt := 30) dX10_hour_25 rfl rr12 (fun c9 => ?_) (fun c9 => ?_)
    · replace h := h.1 c9
      refine w_aload_n dX10_hour_30 rfl (List.Mem.head _) ?_
      obtain ⟨r18, σ14, hc16, hG15, rr17, h⟩ := h
      refine w_callV dX10_hour_31 ml_10_281 ⟨ok_X10_dueNow, vi_X10_dueNow⟩ hs_X10_dueNow (As := []) rfl rfl (gT hG10 rfl (lt_of rfl)) (Nat.le_of_ble_eq_true rfl) hc16 ?_
      show wp (Ev sc d) 10 cX10_hour 4 (some .int) false [] sc Q 34 [(0, .ref 76), (1, .int (nZ x1))] [.int (nZ r18)] σ14
      refine w_pop dX10_hour_34 rfl ?_
      refine w_iconst (v := nZ 0) dX10_hour_35 (by decide) ?_
      refine w_istore_n (l' := [(2, .int (nZ 0)), (0, .ref 76), (1, .int (nZ x1))]) dX10_hour_36 rfl (by decide) rfl ?_
      refine w_iconst (v := nZ 1) dX10_hour_37 (by decide) ?_
      refine w_istore_n (l' := [(3, .int (nZ 1)), (2, .int (nZ 0)), (0, .ref 76), (1, .int (nZ x1))]) dX10_hour_38 rfl (by decide) rfl ?_
      exact w_weak (l' := [(0, .ref 76), (1, .int (nZ x1)), (2, .int (nZ 0)), (3, .int (nZ 1))]) (by intro q hq; simp only [List.mem_cons, List.not_mem_nil, or_false] at hq ⊢; rcases hq with rfl | rfl | rfl | rfl <;> simp) h
    · replace h := h.2 c9
      refine w_iconst (v := nZ 0) dX10_hour_28 (by decide) ?_
      exact w_iret dX10_hour_29 rfl h
  · replace h := h.2 c9
    refine w_iconst (v := nZ 1) dX10_hour_15 (by decide) ?_
    refine w_goto (tgt := 20) dX10_hour_16 rfl ?_
    refine w_iconst (v := nZ 1) dX10_hour_20 (by decide) ?_
    refine w_iconst (v := nZ 1) dX10_hour_21 (by decide) ?_
    obtain ⟨r23, σ19, hc21, hG20, rr22, h⟩ := h
    refine w_callV dX10_hour_22 ml_10_196 ⟨ok_X10_bad, vi_X10_bad⟩ hs_X10_bad (As := [.int (nZ 1), .int (nZ 1), .int (nZ 1)]) rfl rfl (gT hG5 rfl (lt_of rfl)) (Nat.le_of_ble_eq_true rfl) hc21 ?_
    show wp (Ev sc d) 10 cX10_hour 4 (some .int) false [] sc Q 25 [(0, .ref 76), (1, .int (nZ x1))] [.int (nZ r23)] σ19
    refine i_if_eq (tgt := 30) dX10_hour_25 rfl rr22 (fun c9 => ?_) (fun c9 => ?_)
    · replace h := h.1 c9
      refine w_aload_n dX10_hour_30 rfl (List.Mem.head _) ?_
      obtain ⟨r28, σ24, hc26, hG25, rr27, h⟩ := h
      refine w_callV dX10_hour_31 ml_10_281 ⟨ok_X10_dueNow, vi_X10_dueNow⟩ hs_X10_dueNow (As := []) rfl rfl (gT hG20 rfl (lt_of rfl)) (Nat.le_of_ble_eq_true rfl) hc26 ?_
      show wp (Ev sc d) 10 cX10_hour 4 (some .int) false [] sc Q 34 [(0, .ref 76), (1, .int (nZ x1))] [.int (nZ r28)] σ24
      refine w_pop dX10_hour_34 rfl ?_
      refine w_iconst (v := nZ 0) dX10_hour_35 (by decide) ?_
      refine w_istore_n (l' := [(2, .int (nZ 0)), (0, .ref 76), (1, .int (nZ x1))]) dX10_hour_36 rfl (by decide) rfl ?_
      refine w_iconst (v := nZ 1) dX10_hour_37 (by decide) ?_
      refine w_istore_n (l' := [(3, .int (nZ 1)), (2, .int (nZ 0)), (0, .ref 76), (1, .int (nZ x1))]) dX10_hour_38 rfl (by decide) rfl ?_
      exact w_weak (l' := [(0, .ref 76), (1, .int (nZ x1)), (2, .int (nZ 0)), (3, .int (nZ 1))]) (by intro q hq; simp only [List.mem_cons, List.not_mem_nil, or_false] at hq ⊢; rcases hq with rfl | rfl | rfl | rfl <;> simp) h
    · replace h := h.2 c9
      refine w_iconst (v := nZ 0) dX10_hour_28 (by decide) ?_
      exact w_iret dX10_hour_29 rfl h
set_option maxRecDepth 10000 in
theorem v_X10_hour_39 {C : aM → List Value → aH → aO → aH → Prop} {sc : Nat × (Nat → Int32)} {P : aO → aH → Prop} {σ : aH} {u : Nat}  {x1 : Int} {x2 : Int} {x3 : Int} (hG : G σ u) (rx1 : inR x1) (rx2 : inR x2) (rx3 : inR x3)
    (h : ((24 ≤ x3 → ((¬ x1 = 0 → ((0 ≤ x2 ∧ x2 < 24) ∧ P (.inl (some (.int (nZ (rI σ 312 x2))))) σ)) ∧ (x1 = 0 → P (.inl (some (.int (nZ x2)))) σ))) ∧ (¬ (24 ≤ x3) → ((0 ≤ x3 ∧ x3 < 24) ∧ ((0 ≤ x2 ∧ x2 < 24) ∧ (((rI σ 312 x3) ≤ (rI σ 312 x2) → (inR (x3 + 1) ∧ L_X10_hour_39 C sc P x1 x2 (x3 + 1) σ)) ∧ (¬ ((rI σ 312 x3) ≤ (rI σ 312 x2)) → (inR (x3 + 1) ∧ L_X10_hour_39 C sc P x1 x3 (x3 + 1) σ)))))))) :
    L_X10_hour_39 C sc P x1 x2 x3 σ := by
  unfold L_X10_hour_39
  refine w_iload_n dX10_hour_39 rfl (List.Mem.tail _ (List.Mem.tail _ (List.Mem.tail _ (List.Mem.head _)))) ?_
  refine w_bipush (v := nZ 24) dX10_hour_40 (by decide) ?_
  refine i_cmp_ge (tgt := 72) dX10_hour_42 rfl rx3 (by decide) (fun c9 => ?_) (fun c9 => ?_)
  · replace h := h.1 c9
    refine w_iload_n dX10_hour_72 rfl (List.Mem.tail _ (List.Mem.head _)) ?_
    refine i_if_ne (tgt := 80) dX10_hour_73 rfl rx1 (fun c9 => ?_) (fun c9 => ?_)
    · replace h := h.1 c9
      refine w_aload_n dX10_hour_80 rfl (List.Mem.head _) ?_
      refine w_getR (ci := 10) (k := 34) (b := 312) dX10_hour_81 fl_10_70 (by decide) (gT hG rfl (lt_of rfl)) (gR hG (b := 312) rfl) ?_
      refine w_iload_n dX10_hour_84 rfl (List.Mem.tail _ (List.Mem.tail _ (List.Mem.head _))) ?_
      obtain ⟨h9, h⟩ := h
      refine i_iald (n := 24) dX10_hour_85 (gT hG rfl (lt_of rfl)) (gL hG rfl) rx2 h9 ?_
      exact w_iret dX10_hour_86 rfl h
    · replace h := h.2 c9
      refine w_iload_n dX10_hour_76 rfl (List.Mem.tail _ (List.Mem.tail _ (List.Mem.head _))) ?_
      refine w_goto (tgt := 86) dX10_hour_77 rfl ?_
      exact w_iret dX10_hour_86 rfl h
  · replace h := h.2 c9
    refine w_aload_n dX10_hour_45 rfl (List.Mem.head _) ?_
    refine w_getR (ci := 10) (k := 34) (b := 312) dX10_hour_46 fl_10_70 (by decide) (gT hG rfl (lt_of rfl)) (gR hG (b := 312) rfl) ?_
    refine w_iload_n dX10_hour_49 rfl (List.Mem.tail _ (List.Mem.tail _ (List.Mem.tail _ (List.Mem.head _)))) ?_
    obtain ⟨h9, h⟩ := h
    refine i_iald (n := 24) dX10_hour_50 (gT hG rfl (lt_of rfl)) (gL hG rfl) rx3 h9 ?_
    refine w_aload_n dX10_hour_51 rfl (List.Mem.head _) ?_
    refine w_getR (ci := 10) (k := 34) (b := 312) dX10_hour_52 fl_10_70 (by decide) (gT hG rfl (lt_of rfl)) (gR hG (b := 312) rfl) ?_
    refine w_iload_n dX10_hour_55 rfl (List.Mem.tail _ (List.Mem.tail _ (List.Mem.head _))) ?_
    obtain ⟨h9, h⟩ := h
    refine i_iald (n := 24) dX10_hour_56 (gT hG rfl (lt_of rfl)) (gL hG rfl) rx2 h9 ?_
    refine i_cmp_le (tgt := 64) dX10_hour_57 rfl (rI_R _ _ _) (rI_R _ _ _) (fun c9 => ?_) (fun c9 => ?_)
    · replace h := h.1 c9
      refine w_iload_n dX10_hour_64 rfl (List.Mem.tail _ (List.Mem.tail _ (List.Mem.head _))) ?_
      refine w_istore_n (l' := [(2, .int (nZ x2)), (0, .ref 76), (1, .int (nZ x1)), (3, .int (nZ x3))]) dX10_hour_65 rfl (by decide) rfl ?_
      obtain ⟨q1, h⟩ := h
      refine w_iinc (v := nZ (x3 + 1)) (l' := [(3, .int (nZ (x3 + 1))), (2, .int (nZ x2)), (0, .ref 76), (1, .int (nZ x1))]) dX10_hour_66 (List.Mem.tail _ (List.Mem.tail _ (List.Mem.tail _ (List.Mem.head _)))) (nZ_add _ _) (by decide) rfl ?_
      refine w_goto (tgt := 39) dX10_hour_69 rfl ?_
      exact w_weak (l' := [(0, .ref 76), (1, .int (nZ x1)), (2, .int (nZ x2)), (3, .int (nZ (x3 + 1)))]) (by intro q hq; simp only [List.mem_cons, List.not_mem_nil, or_false] at hq ⊢; rcases hq with rfl | rfl | rfl | rfl <;> simp) h
    · replace h := h.2 c9
      refine w_iload_n dX10_hour_60 rfl (List.Mem.tail _ (List.Mem.tail _ (List.Mem.tail _ (List.Mem.head _)))) ?_
      refine w_goto (tgt := 65) dX10_hour_61 rfl ?_
      refine w_istore_n (l' := [(2, .int (nZ x3)), (0, .ref 76), (1, .int (nZ x1)), (3, .int (nZ x3))]) dX10_hour_65 rfl (by decide) rfl ?_
      obtain ⟨q2, h⟩ := h
      refine w_iinc (v := nZ (x3 + 1)) (l' := [(3, .int (nZ (x3 + 1))), (2, .int (nZ x3)), (0, .ref 76), (1, .int (nZ x1))]) dX10_hour_66 (List.Mem.tail _ (List.Mem.tail _ (List.Mem.tail _ (List.Mem.head _)))) (nZ_add _ _) (by decide) rfl ?_
      refine w_goto (tgt := 39) dX10_hour_69 rfl ?_
      exact w_weak (l' := [(0, .ref 76), (1, .int (nZ x1)), (2, .int (nZ x3)), (3, .int (nZ (x3 + 1)))]) (by intro q hq; simp only [List.mem_cons, List.not_mem_nil, or_false] at hq ⊢; rcases hq with rfl | rfl | rfl | rfl <;> simp) h
theorem dX10_out_0 : decode cX10_out 0 = .ok (.aload_n 0, 1) := by decide +kernel
theorem dX10_out_1 : decode cX10_out 1 = .ok (.iconst 0, 1) := by decide +kernel
theorem dX10_out_2 : decode cX10_out 2 = .ok (.putfield 106, 3) := by decide +kernel
theorem dX10_out_5 : decode cX10_out 5 = .ok (.aload_n 0, 1) := by decide +kernel
theorem dX10_out_6 : decode cX10_out 6 = .ok (.aload_n 0, 1) := by decide +kernel
theorem dX10_out_7 : decode cX10_out 7 = .ok (.iload_n 1, 1) := by decide +kernel
theorem dX10_out_8 : decode cX10_out 8 = .ok (.invokevirtual 236, 3) := by decide +kernel
theorem dX10_out_11 : decode cX10_out 11 = .ok (.ifCond .ne 7, 3) := by decide +kernel
theorem dX10_out_14 : decode cX10_out 14 = .ok (.iconst 1, 1) := by decide +kernel
theorem dX10_out_15 : decode cX10_out 15 = .ok (.goto 4, 3) := by decide +kernel
theorem dX10_out_18 : decode cX10_out 18 = .ok (.iconst 0, 1) := by decide +kernel
theorem dX10_out_19 : decode cX10_out 19 = .ok (.iconst 1, 1) := by decide +kernel
theorem dX10_out_20 : decode cX10_out 20 = .ok (.iconst 0, 1) := by decide +kernel
theorem dX10_out_21 : decode cX10_out 21 = .ok (.invokevirtual 196, 3) := by decide +kernel
theorem dX10_out_24 : decode cX10_out 24 = .ok (.ifCond .eq 5, 3) := by decide +kernel
theorem dX10_out_27 : decode cX10_out 27 = .ok (.iconst 0, 1) := by decide +kernel
theorem dX10_out_28 : decode cX10_out 28 = .ok (.ireturn, 1) := by decide +kernel
theorem dX10_out_29 : decode cX10_out 29 = .ok (.aload_n 0, 1) := by decide +kernel
theorem dX10_out_30 : decode cX10_out 30 = .ok (.iconst 1, 1) := by decide +kernel
theorem dX10_out_31 : decode cX10_out 31 = .ok (.iload_n 1, 1) := by decide +kernel
theorem dX10_out_32 : decode cX10_out 32 = .ok (.ishl, 1) := by decide +kernel
theorem dX10_out_33 : decode cX10_out 33 = .ok (.putfield 215, 3) := by decide +kernel
theorem dX10_out_36 : decode cX10_out 36 = .ok (.aload_n 0, 1) := by decide +kernel
theorem dX10_out_37 : decode cX10_out 37 = .ok (.invokevirtual 281, 3) := by decide +kernel
theorem dX10_out_40 : decode cX10_out 40 = .ok (.istore_n 2, 1) := by decide +kernel
theorem dX10_out_41 : decode cX10_out 41 = .ok (.aload_n 0, 1) := by decide +kernel
theorem dX10_out_42 : decode cX10_out 42 = .ok (.iconst 0, 1) := by decide +kernel
theorem dX10_out_43 : decode cX10_out 43 = .ok (.putfield 215, 3) := by decide +kernel
theorem dX10_out_46 : decode cX10_out 46 = .ok (.iload_n 2, 1) := by decide +kernel
theorem dX10_out_47 : decode cX10_out 47 = .ok (.ireturn, 1) := by decide +kernel
def L_X10_out_19 (C : aM → List Value → aH → aO → aH → Prop) (sc : Nat × (Nat → Int32)) (P : aO → aH → Prop) (x1 : Int) (s0 : Int) (σ : aH) : Prop :=
    wp C 10 cX10_out 3 (some .int) false [] sc P 19 [(0, .ref 76), (1, .int (nZ x1))] [.int (nZ s0), .ref 76] σ
set_option maxRecDepth 10000 in
theorem t_X10_out {sc : Nat × (Nat → Int32)} {d : Nat} {Q : aO → aH → Prop} {σ : aH} {u : Nat}  {x1 : Int} (hG : G σ u) (rx1 : inR x1)
    (h : (∀ σ1 : aH, wI σ 76 0 0 = σ1 → (∃ (r8 : Int) (σ4 : aH), Ev sc d mX10_isStall [.ref 76, .int (nZ x1)] σ1 (.inl (some (.int (nZ r8)))) σ4 ∧ G σ4 u ∧ inR r8 ∧ ((¬ r8 = 0 → L_X10_out_19 (Ev sc d) sc Q x1 0 σ4) ∧ (r8 = 0 → L_X10_out_19 (Ev sc d) sc Q x1 1 σ4))))) :
    T sc (d + 1) mX10_out [.ref 76, .int (nZ x1)] σ Q := by
  refine T.of (c := 10) (code := cX10_out) (mL := 3) (rt := (some .int)) (ini := false) (l := [(0, .ref 76), (1, .int (nZ x1))]) rfl rfl rfl rfl (by decide) hs_X10_out rfl rfl ?_
  refine w_aload_n dX10_out_0 rfl (List.Mem.head _) ?_
  refine w_iconst (v := nZ 0) dX10_out_1 (by decide) ?_
  refine i_putI (ci := 10) 0 rfl dX10_out_2 fl_10_106 (by decide) (gT hG rfl (lt_of rfl)) (fun σ1 eσ2 => ?_)
  replace h := h σ1 eσ2
  have hG3 : G σ1 u := eσ2 ▸ G.wI hG
  refine w_aload_n dX10_out_5 rfl (List.Mem.head _) ?_
  refine w_aload_n dX10_out_6 rfl (List.Mem.head _) ?_
  refine w_iload_n dX10_out_7 rfl (List.Mem.tail _ (List.Mem.head _)) ?_
  obtain ⟨r8, σ4, hc6, hG5, rr7, h⟩ := h
  refine w_callV dX10_out_8 ml_10_236 ⟨ok_X10_isStall, vi_X10_isStall⟩ hs_X10_isStall (As := [.int (nZ x1)]) rfl rfl (gT hG3 rfl (lt_of rfl)) (Nat.le_of_ble_eq_true rfl) hc6 ?_
  show wp (Ev sc d) 10 cX10_out 3 (some .int) false [] sc Q 11 [(0, .ref 76), (1, .int (nZ x1))] [.int (nZ r8), .ref 76] σ4
  refine i_if_ne (tgt := 18) dX10_out_11 rfl rr7 (fun c9 => ?_) (fun c9 => ?_)
  · replace h := h.1 c9
    refine w_iconst (v := nZ 0) dX10_out_18 (by decide) ?_
    exact h
  · replace h := h.2 c9
    refine w_iconst (v := nZ 1) dX10_out_14 (by decide) ?_
    refine w_goto (tgt := 19) dX10_out_15 rfl ?_
    exact h
set_option maxRecDepth 10000 in
theorem v_X10_out_19 {C : aM → List Value → aH → aO → aH → Prop} {sc : Nat × (Nat → Int32)} {P : aO → aH → Prop} {σ : aH} {u : Nat}  {x1 : Int} {s0 : Int} (hG : G σ u) (rx1 : inR x1) (rs0 : inR s0)
    (h : (∃ (r5 : Int) (σ1 : aH), C mX10_bad [.ref 76, .int (nZ s0), .int (nZ 1), .int (nZ 0)] σ (.inl (some (.int (nZ r5)))) σ1 ∧ G σ1 u ∧ inR r5 ∧ ((r5 = 0 → (∀ σ6 : aH, wI σ1 76 27 (zShl 1 x1) = σ6 → (∃ (r13 : Int) (σ9 : aH), C mX10_dueNow [.ref 76] σ6 (.inl (some (.int (nZ r13)))) σ9 ∧ G σ9 u ∧ inR r13 ∧ (∀ σ14 : aH, wI σ9 76 27 0 = σ14 → P (.inl (some (.int (nZ r13)))) σ14)))) ∧ (¬ (r5 = 0) → P (.inl (some (.int (nZ 0)))) σ1)))) :
    L_X10_out_19 C sc P x1 s0 σ := by
  unfold L_X10_out_19
  refine w_iconst (v := nZ 1) dX10_out_19 (by decide) ?_
  refine w_iconst (v := nZ 0) dX10_out_20 (by decide) ?_
  obtain ⟨r5, σ1, hc3, hG2, rr4, h⟩ := h
  refine w_callV dX10_out_21 ml_10_196 ⟨ok_X10_bad, vi_X10_bad⟩ hs_X10_bad (As := [.int (nZ s0), .int (nZ 1), .int (nZ 0)]) rfl rfl (gT hG rfl (lt_of rfl)) (Nat.le_of_ble_eq_true rfl) hc3 ?_
  show wp C 10 cX10_out 3 (some .int) false [] sc P 24 [(0, .ref 76), (1, .int (nZ x1))] [.int (nZ r5)] σ1
  refine i_if_eq (tgt := 29) dX10_out_24 rfl rr4 (fun c9 => ?_) (fun c9 => ?_)
  · replace h := h.1 c9
    refine w_aload_n dX10_out_29 rfl (List.Mem.head _) ?_
    refine w_iconst (v := nZ 1) dX10_out_30 (by decide) ?_
    refine w_iload_n dX10_out_31 rfl (List.Mem.tail _ (List.Mem.head _)) ?_
    refine i_shl dX10_out_32 ?_
    refine i_putI (ci := 10) 27 rfl dX10_out_33 fl_10_215 (by decide) (gT hG2 rfl (lt_of rfl)) (fun σ6 eσ7 => ?_)
    replace h := h σ6 eσ7
    have hG8 : G σ6 u := eσ7 ▸ G.wI hG2
    refine w_aload_n dX10_out_36 rfl (List.Mem.head _) ?_
    obtain ⟨r13, σ9, hc11, hG10, rr12, h⟩ := h
    refine w_callV dX10_out_37 ml_10_281 ⟨ok_X10_dueNow, vi_X10_dueNow⟩ hs_X10_dueNow (As := []) rfl rfl (gT hG8 rfl (lt_of rfl)) (Nat.le_of_ble_eq_true rfl) hc11 ?_
    show wp C 10 cX10_out 3 (some .int) false [] sc P 40 [(0, .ref 76), (1, .int (nZ x1))] [.int (nZ r13)] σ9
    refine w_istore_n (l' := [(2, .int (nZ r13)), (0, .ref 76), (1, .int (nZ x1))]) dX10_out_40 rfl (by decide) rfl ?_
    refine w_aload_n dX10_out_41 rfl (List.Mem.tail _ (List.Mem.head _)) ?_
    refine w_iconst (v := nZ 0) dX10_out_42 (by decide) ?_
    refine i_putI (ci := 10) 27 rfl dX10_out_43 fl_10_215 (by decide) (gT hG10 rfl (lt_of rfl)) (fun σ14 eσ15 => ?_)
    replace h := h σ14 eσ15
    have hG16 : G σ14 u := eσ15 ▸ G.wI hG10
    refine w_iload_n dX10_out_46 rfl (List.Mem.head _) ?_
    exact w_iret dX10_out_47 rfl h
  · replace h := h.2 c9
    refine w_iconst (v := nZ 0) dX10_out_27 (by decide) ?_
    exact w_iret dX10_out_28 rfl h
theorem dX10_suns_0 : decode cX10_suns 0 = .ok (.aload_n 0, 1) := by decide +kernel
theorem dX10_suns_1 : decode cX10_suns 1 = .ok (.iconst 0, 1) := by decide +kernel
theorem dX10_suns_2 : decode cX10_suns 2 = .ok (.putfield 106, 3) := by decide +kernel
theorem dX10_suns_5 : decode cX10_suns 5 = .ok (.aload_n 0, 1) := by decide +kernel
theorem dX10_suns_6 : decode cX10_suns 6 = .ok (.invokevirtual 281, 3) := by decide +kernel
theorem dX10_suns_9 : decode cX10_suns 9 = .ok (.pop, 1) := by decide +kernel
theorem dX10_suns_10 : decode cX10_suns 10 = .ok (.iconst (-1), 1) := by decide +kernel
theorem dX10_suns_11 : decode cX10_suns 11 = .ok (.istore_n 1, 1) := by decide +kernel
theorem dX10_suns_12 : decode cX10_suns 12 = .ok (.iconst 0, 1) := by decide +kernel
theorem dX10_suns_13 : decode cX10_suns 13 = .ok (.istore_n 2, 1) := by decide +kernel
theorem dX10_suns_14 : decode cX10_suns 14 = .ok (.iload_n 2, 1) := by decide +kernel
theorem dX10_suns_15 : decode cX10_suns 15 = .ok (.aload_n 0, 1) := by decide +kernel
theorem dX10_suns_16 : decode cX10_suns 16 = .ok (.getfield 23, 3) := by decide +kernel
theorem dX10_suns_19 : decode cX10_suns 19 = .ok (.bipush 6, 2) := by decide +kernel
theorem dX10_suns_21 : decode cX10_suns 21 = .ok (.iaload, 1) := by decide +kernel
theorem dX10_suns_22 : decode cX10_suns 22 = .ok (.if_icmp .ge 77, 3) := by decide +kernel
theorem dX10_suns_25 : decode cX10_suns 25 = .ok (.aload_n 0, 1) := by decide +kernel
theorem dX10_suns_26 : decode cX10_suns 26 = .ok (.getfield 73, 3) := by decide +kernel
theorem dX10_suns_29 : decode cX10_suns 29 = .ok (.iload_n 2, 1) := by decide +kernel
theorem dX10_suns_30 : decode cX10_suns 30 = .ok (.iaload, 1) := by decide +kernel
theorem dX10_suns_31 : decode cX10_suns 31 = .ok (.ifCond .ne 6, 3) := by decide +kernel
theorem dX10_suns_34 : decode cX10_suns 34 = .ok (.goto 59, 3) := by decide +kernel
theorem dX10_suns_37 : decode cX10_suns 37 = .ok (.iload_n 1, 1) := by decide +kernel
theorem dX10_suns_38 : decode cX10_suns 38 = .ok (.iconst (-1), 1) := by decide +kernel
theorem dX10_suns_39 : decode cX10_suns 39 = .ok (.if_icmp .eq 52, 3) := by decide +kernel
theorem dX10_suns_42 : decode cX10_suns 42 = .ok (.aload_n 0, 1) := by decide +kernel
theorem dX10_suns_43 : decode cX10_suns 43 = .ok (.getfield 73, 3) := by decide +kernel
theorem dX10_suns_46 : decode cX10_suns 46 = .ok (.iload_n 2, 1) := by decide +kernel
theorem dX10_suns_47 : decode cX10_suns 47 = .ok (.iaload, 1) := by decide +kernel
theorem dX10_suns_48 : decode cX10_suns 48 = .ok (.aload_n 0, 1) := by decide +kernel
theorem dX10_suns_49 : decode cX10_suns 49 = .ok (.getfield 73, 3) := by decide +kernel
theorem dX10_suns_52 : decode cX10_suns 52 = .ok (.iload_n 1, 1) := by decide +kernel
theorem dX10_suns_53 : decode cX10_suns 53 = .ok (.iaload, 1) := by decide +kernel
theorem dX10_suns_54 : decode cX10_suns 54 = .ok (.if_icmp .gt 37, 3) := by decide +kernel
theorem dX10_suns_57 : decode cX10_suns 57 = .ok (.aload_n 0, 1) := by decide +kernel
theorem dX10_suns_58 : decode cX10_suns 58 = .ok (.getfield 73, 3) := by decide +kernel
theorem dX10_suns_61 : decode cX10_suns 61 = .ok (.iload_n 2, 1) := by decide +kernel
theorem dX10_suns_62 : decode cX10_suns 62 = .ok (.iaload, 1) := by decide +kernel
theorem dX10_suns_63 : decode cX10_suns 63 = .ok (.aload_n 0, 1) := by decide +kernel
theorem dX10_suns_64 : decode cX10_suns 64 = .ok (.getfield 73, 3) := by decide +kernel
theorem dX10_suns_67 : decode cX10_suns 67 = .ok (.iload_n 1, 1) := by decide +kernel
theorem dX10_suns_68 : decode cX10_suns 68 = .ok (.iaload, 1) := by decide +kernel
theorem dX10_suns_69 : decode cX10_suns 69 = .ok (.if_icmp .ne 24, 3) := by decide +kernel
theorem dX10_suns_72 : decode cX10_suns 72 = .ok (.aload_n 0, 1) := by decide +kernel
theorem dX10_suns_73 : decode cX10_suns 73 = .ok (.getfield 37, 3) := by decide +kernel
theorem dX10_suns_76 : decode cX10_suns 76 = .ok (.iload_n 2, 1) := by decide +kernel
theorem dX10_suns_77 : decode cX10_suns 77 = .ok (.aaload, 1) := by decide +kernel
theorem dX10_suns_78 : decode cX10_suns 78 = .ok (.iconst 0, 1) := by decide +kernel
theorem dX10_suns_79 : decode cX10_suns 79 = .ok (.iaload, 1) := by decide +kernel
theorem dX10_suns_80 : decode cX10_suns 80 = .ok (.aload_n 0, 1) := by decide +kernel
theorem dX10_suns_81 : decode cX10_suns 81 = .ok (.getfield 37, 3) := by decide +kernel
theorem dX10_suns_84 : decode cX10_suns 84 = .ok (.iload_n 1, 1) := by decide +kernel
theorem dX10_suns_85 : decode cX10_suns 85 = .ok (.aaload, 1) := by decide +kernel
theorem dX10_suns_86 : decode cX10_suns 86 = .ok (.iconst 0, 1) := by decide +kernel
theorem dX10_suns_87 : decode cX10_suns 87 = .ok (.iaload, 1) := by decide +kernel
theorem dX10_suns_88 : decode cX10_suns 88 = .ok (.if_icmp .ge 5, 3) := by decide +kernel
theorem dX10_suns_91 : decode cX10_suns 91 = .ok (.iload_n 2, 1) := by decide +kernel
theorem dX10_suns_92 : decode cX10_suns 92 = .ok (.istore_n 1, 1) := by decide +kernel
theorem dX10_suns_93 : decode cX10_suns 93 = .ok (.iinc 2 1, 3) := by decide +kernel
theorem dX10_suns_96 : decode cX10_suns 96 = .ok (.goto (-82), 3) := by decide +kernel
theorem dX10_suns_99 : decode cX10_suns 99 = .ok (.iload_n 1, 1) := by decide +kernel
theorem dX10_suns_100 : decode cX10_suns 100 = .ok (.iconst (-1), 1) := by decide +kernel
theorem dX10_suns_101 : decode cX10_suns 101 = .ok (.if_icmp .ne 7, 3) := by decide +kernel
theorem dX10_suns_104 : decode cX10_suns 104 = .ok (.iconst (-1), 1) := by decide +kernel
theorem dX10_suns_105 : decode cX10_suns 105 = .ok (.goto 11, 3) := by decide +kernel
theorem dX10_suns_108 : decode cX10_suns 108 = .ok (.aload_n 0, 1) := by decide +kernel
theorem dX10_suns_109 : decode cX10_suns 109 = .ok (.getfield 37, 3) := by decide +kernel
theorem dX10_suns_112 : decode cX10_suns 112 = .ok (.iload_n 1, 1) := by decide +kernel
theorem dX10_suns_113 : decode cX10_suns 113 = .ok (.aaload, 1) := by decide +kernel
theorem dX10_suns_114 : decode cX10_suns 114 = .ok (.iconst 0, 1) := by decide +kernel
theorem dX10_suns_115 : decode cX10_suns 115 = .ok (.iaload, 1) := by decide +kernel
theorem dX10_suns_116 : decode cX10_suns 116 = .ok (.ireturn, 1) := by decide +kernel
def L_X10_suns_14 (C : aM → List Value → aH → aO → aH → Prop) (sc : Nat × (Nat → Int32)) (P : aO → aH → Prop) (x1 : Int) (x2 : Int) (σ : aH) : Prop :=
    wp C 10 cX10_suns 3 (some .int) false [] sc P 14 [(0, .ref 76), (1, .int (nZ x1)), (2, .int (nZ x2))] [] σ
set_option maxRecDepth 10000 in
theorem t_X10_suns {sc : Nat × (Nat → Int32)} {d : Nat} {Q : aO → aH → Prop} {σ : aH} {u : Nat}   (hG : G σ u) 
    (h : (∀ σ1 : aH, wI σ 76 0 0 = σ1 → (∃ (r8 : Int) (σ4 : aH), Ev sc d mX10_dueNow [.ref 76] σ1 (.inl (some (.int (nZ r8)))) σ4 ∧ G σ4 u ∧ inR r8 ∧ L_X10_suns_14 (Ev sc d) sc Q (-1) 0 σ4))) :
    T sc (d + 1) mX10_suns [.ref 76] σ Q := by
  refine T.of (c := 10) (code := cX10_suns) (mL := 3) (rt := (some .int)) (ini := false) (l := [(0, .ref 76)]) rfl rfl rfl rfl (by decide) hs_X10_suns rfl rfl ?_
  refine w_aload_n dX10_suns_0 rfl (List.Mem.head _) ?_
  refine w_iconst (v := nZ 0) dX10_suns_1 (by decide) ?_
  refine i_putI (ci := 10) 0 rfl dX10_suns_2 fl_10_106 (by decide) (gT hG rfl (lt_of rfl)) (fun σ1 eσ2 => ?_)
  replace h := h σ1 eσ2
  have hG3 : G σ1 u := eσ2 ▸ G.wI hG
  refine w_aload_n dX10_suns_5 rfl (List.Mem.head _) ?_
  obtain ⟨r8, σ4, hc6, hG5, rr7, h⟩ := h
  refine w_callV dX10_suns_6 ml_10_281 ⟨ok_X10_dueNow, vi_X10_dueNow⟩ hs_X10_dueNow (As := []) rfl rfl (gT hG3 rfl (lt_of rfl)) (Nat.le_of_ble_eq_true rfl) hc6 ?_
  show wp (Ev sc d) 10 cX10_suns 3 (some .int) false [] sc Q 9 [(0, .ref 76)] [.int (nZ r8)] σ4
  refine w_pop dX10_suns_9 rfl ?_
  refine w_iconst (v := nZ (-1)) dX10_suns_10 (by decide) ?_
  refine w_istore_n (l' := [(1, .int (nZ (-1))), (0, .ref 76)]) dX10_suns_11 rfl (by decide) rfl ?_
  refine w_iconst (v := nZ 0) dX10_suns_12 (by decide) ?_
  refine w_istore_n (l' := [(2, .int (nZ 0)), (1, .int (nZ (-1))), (0, .ref 76)]) dX10_suns_13 rfl (by decide) rfl ?_
  exact w_weak (l' := [(0, .ref 76), (1, .int (nZ (-1))), (2, .int (nZ 0))]) (by intro q hq; simp only [List.mem_cons, List.not_mem_nil, or_false] at hq ⊢; rcases hq with rfl | rfl | rfl <;> simp) h
set_option maxRecDepth 10000 in
theorem v_X10_suns_14 {C : aM → List Value → aH → aO → aH → Prop} {sc : Nat × (Nat → Int32)} {P : aO → aH → Prop} {σ : aH} {u : Nat}  {x1 : Int} {x2 : Int} (hG : G σ u) (rx1 : inR x1) (rx2 : inR x2)
    (h : (((rI σ 80 6) ≤ x2 → ((¬ x1 = (-1) → ((0 ≤ x1 ∧ x1 < 20) ∧ P (.inl (some (.int (nZ (rI σ (122 + x1.toNat) 0))))) σ)) ∧ (x1 = (-1) → P (.inl (some (.int (nZ (-1))))) σ))) ∧ (¬ ((rI σ 80 6) ≤ x2) → ((0 ≤ x2 ∧ x2 < 20) ∧ ((¬ (rI σ 313 x2) = 0 → ((x1 = (-1) → (inR (x2 + 1) ∧ L_X10_suns_14 C sc P x2 (x2 + 1) σ)) ∧ (¬ (x1 = (-1)) → ((0 ≤ x2 ∧ x2 < 20) ∧ ((0 ≤ x1 ∧ x1 < 20) ∧ (((rI σ 313 x1) < (rI σ 313 x2) → (inR (x2 + 1) ∧ L_X10_suns_14 C sc P x2 (x2 + 1) σ)) ∧ (¬ ((rI σ 313 x1) < (rI σ 313 x2)) → ((0 ≤ x2 ∧ x2 < 20) ∧ ((0 ≤ x1 ∧ x1 < 20) ∧ ((¬ (rI σ 313 x2) = (rI σ 313 x1) → (inR (x2 + 1) ∧ L_X10_suns_14 C sc P x1 (x2 + 1) σ)) ∧ ((rI σ 313 x2) = (rI σ 313 x1) → ((0 ≤ x2 ∧ x2 < 20) ∧ ((0 ≤ x1 ∧ x1 < 20) ∧ (((rI σ (122 + x1.toNat) 0) ≤ (rI σ (122 + x2.toNat) 0) → (inR (x2 + 1) ∧ L_X10_suns_14 C sc P x1 (x2 + 1) σ)) ∧ (¬ ((rI σ (122 + x1.toNat) 0) ≤ (rI σ (122 + x2.toNat) 0)) → (inR (x2 + 1) ∧ L_X10_suns_14 C sc P x2 (x2 + 1) σ)))))))))))))))) ∧ ((rI σ 313 x2) = 0 → (inR (x2 + 1) ∧ L_X10_suns_14 C sc P x1 (x2 + 1) σ))))))) :
    L_X10_suns_14 C sc P x1 x2 σ := by
  unfold L_X10_suns_14
  refine w_iload_n dX10_suns_14 rfl (List.Mem.tail _ (List.Mem.tail _ (List.Mem.head _))) ?_
  refine w_aload_n dX10_suns_15 rfl (List.Mem.head _) ?_
  refine w_getR (ci := 10) (k := 11) (b := 80) dX10_suns_16 fl_10_23 (by decide) (gT hG rfl (lt_of rfl)) (gR hG (b := 80) rfl) ?_
  refine w_bipush (v := nZ 6) dX10_suns_19 (by decide) ?_
  refine i_iald (n := 8) dX10_suns_21 (gT hG rfl (lt_of rfl)) (gL hG rfl) (by decide) (by decide) ?_
  refine i_cmp_ge (tgt := 99) dX10_suns_22 rfl rx2 (rI_R _ _ _) (fun c9 => ?_) (fun c9 => ?_)
  · replace h := h.1 c9
    refine w_iload_n dX10_suns_99 rfl (List.Mem.tail _ (List.Mem.head _)) ?_
    refine w_iconst (v := nZ (-1)) dX10_suns_100 (by decide) ?_
    refine i_cmp_ne (tgt := 108) dX10_suns_101 rfl rx1 (by decide) (fun c9 => ?_) (fun c9 => ?_)
    · replace h := h.1 c9
      refine w_aload_n dX10_suns_108 rfl (List.Mem.head _) ?_
      refine w_getR (ci := 10) (k := 15) (b := 121) dX10_suns_109 fl_10_37 (by decide) (gT hG rfl (lt_of rfl)) (gR hG (b := 121) rfl) ?_
      refine w_iload_n dX10_suns_112 rfl (List.Mem.tail _ (List.Mem.head _)) ?_
      obtain ⟨h9, h⟩ := h
      have hj1 := vin_lt2 (n := 20) h9 rfl
      refine i_aald (n := 20) (b := (122 + x1.toNat)) dX10_suns_113 (gT hG rfl (lt_of rfl)) (gL hG rfl) rx1 h9 (gR hG (rr_121 hj1)) ?_
      refine w_iconst (v := nZ 0) dX10_suns_114 (by decide) ?_
      refine i_iald (n := 4) dX10_suns_115 (gT hG (ro_121 _ hj1).1 (by have := hj1; omega)) (gL hG (ro_121 _ hj1).2) (by decide) (by decide) ?_
      exact w_iret dX10_suns_116 rfl h
    · replace h := h.2 c9
      refine w_iconst (v := nZ (-1)) dX10_suns_104 (by decide) ?_
      refine w_goto (tgt := 116) dX10_suns_105 rfl ?_
      exact w_iret dX10_suns_116 rfl h
  · replace h := h.2 c9
    refine w_aload_n dX10_suns_25 rfl (List.Mem.head _) ?_
    refine w_getR (ci := 10) (k := 35) (b := 313) dX10_suns_26 fl_10_73 (by decide) (gT hG rfl (lt_of rfl)) (gR hG (b := 313) rfl) ?_
    refine w_iload_n dX10_suns_29 rfl (List.Mem.tail _ (List.Mem.tail _ (List.Mem.head _))) ?_
    obtain ⟨h9, h⟩ := h
    refine i_iald (n := 20) dX10_suns_30 (gT hG rfl (lt_of rfl)) (gL hG rfl) rx2 h9 ?_
    refine i_if_ne (tgt := 37) dX10_suns_31 rfl (rI_R _ _ _) (fun c9 => ?_) (fun c9 => ?_)
    · replace h := h.1 c9
      refine w_iload_n dX10_suns_37 rfl (List.Mem.tail _ (List.Mem.head _)) ?_
      refine w_iconst (v := nZ (-1)) dX10_suns_38 (by decide) ?_
      refine i_cmp_eq (tgt := 91) dX10_suns_39 rfl rx1 (by decide) (fun c9 => ?_) (fun c9 => ?_)
      · replace h := h.1 c9
        refine w_iload_n dX10_suns_91 rfl (List.Mem.tail _ (List.Mem.tail _ (List.Mem.head _))) ?_
        refine w_istore_n (l' := [(1, .int (nZ x2)), (0, .ref 76), (2, .int (nZ x2))]) dX10_suns_92 rfl (by decide) rfl ?_
        obtain ⟨q2, h⟩ := h
        refine w_iinc (v := nZ (x2 + 1)) (l' := [(2, .int (nZ (x2 + 1))), (1, .int (nZ x2)), (0, .ref 76)]) dX10_suns_93 (List.Mem.tail _ (List.Mem.tail _ (List.Mem.head _))) (nZ_add _ _) (by decide) rfl ?_
        refine w_goto (tgt := 14) dX10_suns_96 rfl ?_
        exact w_weak (l' := [(0, .ref 76), (1, .int (nZ x2)), (2, .int (nZ (x2 + 1)))]) (by intro q hq; simp only [List.mem_cons, List.not_mem_nil, or_false] at hq ⊢; rcases hq with rfl | rfl | rfl <;> simp) h
      · replace h := h.2 c9
        refine w_aload_n dX10_suns_42 rfl (List.Mem.head _) ?_
        refine w_getR (ci := 10) (k := 35) (b := 313) dX10_suns_43 fl_10_73 (by decide) (gT hG rfl (lt_of rfl)) (gR hG (b := 313) rfl) ?_
        refine w_iload_n dX10_suns_46 rfl (List.Mem.tail _ (List.Mem.tail _ (List.Mem.head _))) ?_
        obtain ⟨h9, h⟩ := h
        refine i_iald (n := 20) dX10_suns_47 (gT hG rfl (lt_of rfl)) (gL hG rfl) rx2 h9 ?_
        refine w_aload_n dX10_suns_48 rfl (List.Mem.head _) ?_
        refine w_getR (ci := 10) (k := 35) (b := 313) dX10_suns_49 fl_10_73 (by decide) (gT hG rfl (lt_of rfl)) (gR hG (b := 313) rfl) ?_
        refine w_iload_n dX10_suns_52 rfl (List.Mem.tail _ (List.Mem.head _)) ?_
        obtain ⟨h9, h⟩ := h
        refine i_iald (n := 20) dX10_suns_53 (gT hG rfl (lt_of rfl)) (gL hG rfl) rx1 h9 ?_
        refine i_cmp_gt (tgt := 91) dX10_suns_54 rfl (rI_R _ _ _) (rI_R _ _ _) (fun c9 => ?_) (fun c9 => ?_)
        · replace h := h.1 c9
          refine w_iload_n dX10_suns_91 rfl (List.Mem.tail _ (List.Mem.tail _ (List.Mem.head _))) ?_
          refine w_istore_n (l' := [(1, .int (nZ x2)), (0, .ref 76), (2, .int (nZ x2))]) dX10_suns_92 rfl (by decide) rfl ?_
          obtain ⟨q3, h⟩ := h
          refine w_iinc (v := nZ (x2 + 1)) (l' := [(2, .int (nZ (x2 + 1))), (1, .int (nZ x2)), (0, .ref 76)]) dX10_suns_93 (List.Mem.tail _ (List.Mem.tail _ (List.Mem.head _))) (nZ_add _ _) (by decide) rfl ?_
          refine w_goto (tgt := 14) dX10_suns_96 rfl ?_
          exact w_weak (l' := [(0, .ref 76), (1, .int (nZ x2)), (2, .int (nZ (x2 + 1)))]) (by intro q hq; simp only [List.mem_cons, List.not_mem_nil, or_false] at hq ⊢; rcases hq with rfl | rfl | rfl <;> simp) h
        · replace h := h.2 c9
          refine w_aload_n dX10_suns_57 rfl (List.Mem.head _) ?_
          refine w_getR (ci := 10) (k := 35) (b := 313) dX10_suns_58 fl_10_73 (by decide) (gT hG rfl (lt_of rfl)) (gR hG (b := 313) rfl) ?_
          refine w_iload_n dX10_suns_61 rfl (List.Mem.tail _ (List.Mem.tail _ (List.Mem.head _))) ?_
          obtain ⟨h9, h⟩ := h
          refine i_iald (n := 20) dX10_suns_62 (gT hG rfl (lt_of rfl)) (gL hG rfl) rx2 h9 ?_
          refine w_aload_n dX10_suns_63 rfl (List.Mem.head _) ?_
          refine w_getR (ci := 10) (k := 35) (b := 313) dX10_suns_64 fl_10_73 (by decide) (gT hG rfl (lt_of rfl)) (gR hG (b := 313) rfl) ?_
          refine w_iload_n dX10_suns_67 rfl (List.Mem.tail _ (List.Mem.head _)) ?_
          obtain ⟨h9, h⟩ := h
          refine i_iald (n := 20) dX10_suns_68 (gT hG rfl (lt_of rfl)) (gL hG rfl) rx1 h9 ?_
          refine i_cmp_ne (tgt := 93) dX10_suns_69 rfl (rI_R _ _ _) (rI_R _ _ _) (fun c9 => ?_) (fun c9 => ?_)
          · replace h := h.1 c9
            obtain ⟨q4, h⟩ := h
            refine w_iinc (v := nZ (x2 + 1)) (l' := [(2, .int (nZ (x2 + 1))), (0, .ref 76), (1, .int (nZ x1))]) dX10_suns_93 (List.Mem.tail _ (List.Mem.tail _ (List.Mem.head _))) (nZ_add _ _) (by decide) rfl ?_
            refine w_goto (tgt := 14) dX10_suns_96 rfl ?_
            exact w_weak (l' := [(0, .ref 76), (1, .int (nZ x1)), (2, .int (nZ (x2 + 1)))]) (by intro q hq; simp only [List.mem_cons, List.not_mem_nil, or_false] at hq ⊢; rcases hq with rfl | rfl | rfl <;> simp) h
          · replace h := h.2 c9
            refine w_aload_n dX10_suns_72 rfl (List.Mem.head _) ?_
            refine w_getR (ci := 10) (k := 15) (b := 121) dX10_suns_73 fl_10_37 (by decide) (gT hG rfl (lt_of rfl)) (gR hG (b := 121) rfl) ?_
            refine w_iload_n dX10_suns_76 rfl (List.Mem.tail _ (List.Mem.tail _ (List.Mem.head _))) ?_
            obtain ⟨h9, h⟩ := h
            have hj5 := vin_lt2 (n := 20) h9 rfl
            refine i_aald (n := 20) (b := (122 + x2.toNat)) dX10_suns_77 (gT hG rfl (lt_of rfl)) (gL hG rfl) rx2 h9 (gR hG (rr_121 hj5)) ?_
            refine w_iconst (v := nZ 0) dX10_suns_78 (by decide) ?_
            refine i_iald (n := 4) dX10_suns_79 (gT hG (ro_121 _ hj5).1 (by have := hj5; omega)) (gL hG (ro_121 _ hj5).2) (by decide) (by decide) ?_
            refine w_aload_n dX10_suns_80 rfl (List.Mem.head _) ?_
            refine w_getR (ci := 10) (k := 15) (b := 121) dX10_suns_81 fl_10_37 (by decide) (gT hG rfl (lt_of rfl)) (gR hG (b := 121) rfl) ?_
            refine w_iload_n dX10_suns_84 rfl (List.Mem.tail _ (List.Mem.head _)) ?_
            obtain ⟨h9, h⟩ := h
            have hj6 := vin_lt2 (n := 20) h9 rfl
            refine i_aald (n := 20) (b := (122 + x1.toNat)) dX10_suns_85 (gT hG rfl (lt_of rfl)) (gL hG rfl) rx1 h9 (gR hG (rr_121 hj6)) ?_
            refine w_iconst (v := nZ 0) dX10_suns_86 (by decide) ?_
            refine i_iald (n := 4) dX10_suns_87 (gT hG (ro_121 _ hj6).1 (by have := hj6; omega)) (gL hG (ro_121 _ hj6).2) (by decide) (by decide) ?_
            refine i_cmp_ge (tgt := 93) dX10_suns_88 rfl (rI_R _ _ _) (rI_R _ _ _) (fun c9 => ?_) (fun c9 => ?_)
            · replace h := h.1 c9
              obtain ⟨q7, h⟩ := h
              refine w_iinc (v := nZ (x2 + 1)) (l' := [(2, .int (nZ (x2 + 1))), (0, .ref 76), (1, .int (nZ x1))]) dX10_suns_93 (List.Mem.tail _ (List.Mem.tail _ (List.Mem.head _))) (nZ_add _ _) (by decide) rfl ?_
              refine w_goto (tgt := 14) dX10_suns_96 rfl ?_
              exact w_weak (l' := [(0, .ref 76), (1, .int (nZ x1)), (2, .int (nZ (x2 + 1)))]) (by intro q hq; simp only [List.mem_cons, List.not_mem_nil, or_false] at hq ⊢; rcases hq with rfl | rfl | rfl <;> simp) h
            · replace h := h.2 c9
              refine w_iload_n dX10_suns_91 rfl (List.Mem.tail _ (List.Mem.tail _ (List.Mem.head _))) ?_
              refine w_istore_n (l' := [(1, .int (nZ x2)), (0, .ref 76), (2, .int (nZ x2))]) dX10_suns_92 rfl (by decide) rfl ?_
              obtain ⟨q8, h⟩ := h
              refine w_iinc (v := nZ (x2 + 1)) (l' := [(2, .int (nZ (x2 + 1))), (1, .int (nZ x2)), (0, .ref 76)]) dX10_suns_93 (List.Mem.tail _ (List.Mem.tail _ (List.Mem.head _))) (nZ_add _ _) (by decide) rfl ?_
              refine w_goto (tgt := 14) dX10_suns_96 rfl ?_
              exact w_weak (l' := [(0, .ref 76), (1, .int (nZ x2)), (2, .int (nZ (x2 + 1)))]) (by intro q hq; simp only [List.mem_cons, List.not_mem_nil, or_false] at hq ⊢; rcases hq with rfl | rfl | rfl <;> simp) h
    · replace h := h.2 c9
      refine w_goto (tgt := 93) dX10_suns_34 rfl ?_
      obtain ⟨q9, h⟩ := h
      refine w_iinc (v := nZ (x2 + 1)) (l' := [(2, .int (nZ (x2 + 1))), (0, .ref 76), (1, .int (nZ x1))]) dX10_suns_93 (List.Mem.tail _ (List.Mem.tail _ (List.Mem.head _))) (nZ_add _ _) (by decide) rfl ?_
      refine w_goto (tgt := 14) dX10_suns_96 rfl ?_
      exact w_weak (l' := [(0, .ref 76), (1, .int (nZ x1)), (2, .int (nZ (x2 + 1)))]) (by intro q hq; simp only [List.mem_cons, List.not_mem_nil, or_false] at hq ⊢; rcases hq with rfl | rfl | rfl <;> simp) h
theorem dX10_moves_0 : decode cX10_moves 0 = .ok (.iload_n 3, 1) := by decide +kernel
theorem dX10_moves_1 : decode cX10_moves 1 = .ok (.ifCond .ne 10, 3) := by decide +kernel
theorem dX10_moves_4 : decode cX10_moves 4 = .ok (.aload_n 1, 1) := by decide +kernel
theorem dX10_moves_5 : decode cX10_moves 5 = .ok (.aload_n 0, 1) := by decide +kernel
theorem dX10_moves_6 : decode cX10_moves 6 = .ok (.getfield 342, 3) := by decide +kernel
theorem dX10_moves_9 : decode cX10_moves 9 = .ok (.iload_n 2, 1) := by decide +kernel
theorem dX10_moves_10 : decode cX10_moves 10 = .ok (.iastore, 1) := by decide +kernel
theorem dX10_moves_11 : decode cX10_moves 11 = .ok (.aload_n 0, 1) := by decide +kernel
theorem dX10_moves_12 : decode cX10_moves 12 = .ok (.dup, 1) := by decide +kernel
theorem dX10_moves_13 : decode cX10_moves 13 = .ok (.getfield 342, 3) := by decide +kernel
theorem dX10_moves_16 : decode cX10_moves 16 = .ok (.iconst 1, 1) := by decide +kernel
theorem dX10_moves_17 : decode cX10_moves 17 = .ok (.iadd, 1) := by decide +kernel
theorem dX10_moves_18 : decode cX10_moves 18 = .ok (.putfield 342, 3) := by decide +kernel
theorem dX10_moves_21 : decode cX10_moves 21 = .ok (.aload_n 1, 1) := by decide +kernel
theorem dX10_moves_22 : decode cX10_moves 22 = .ok (.aload_n 0, 1) := by decide +kernel
theorem dX10_moves_23 : decode cX10_moves 23 = .ok (.getfield 342, 3) := by decide +kernel
theorem dX10_moves_26 : decode cX10_moves 26 = .ok (.iconst 1, 1) := by decide +kernel
theorem dX10_moves_27 : decode cX10_moves 27 = .ok (.isub, 1) := by decide +kernel
theorem dX10_moves_28 : decode cX10_moves 28 = .ok (.iaload, 1) := by decide +kernel
theorem dX10_moves_29 : decode cX10_moves 29 = .ok (.ireturn, 1) := by decide +kernel
set_option maxRecDepth 10000 in
theorem t_X10_moves {sc : Nat × (Nat → Int32)} {d : Nat} {Q : aO → aH → Prop} {σ : aH} {u : Nat} {j : Nat} {x2 : Int} {x3 : Int} (hG : G σ u) (hj : j < 3) (rx2 : inR x2) (rx3 : inR x3)
    (h : ((¬ x3 = 0 → (inR ((rI σ 76 22) + 1) ∧ (∀ σ2 : aH, wI σ 76 22 ((rI σ 76 22) + 1) = σ2 → (inR ((rI σ2 76 22) - 1) ∧ ((0 ≤ ((rI σ2 76 22) - 1) ∧ ((rI σ2 76 22) - 1) < 34) ∧ Q (.inl (some (.int (nZ (rI σ2 (186 + j) ((rI σ2 76 22) - 1)))))) σ2))))) ∧ (x3 = 0 → ((0 ≤ (rI σ 76 22) ∧ (rI σ 76 22) < 34) ∧ (∀ σ6 : aH, wI σ (186 + j) (rI σ 76 22) x2 = σ6 → (inR ((rI σ6 76 22) + 1) ∧ (∀ σ10 : aH, wI σ6 76 22 ((rI σ6 76 22) + 1) = σ10 → (inR ((rI σ10 76 22) - 1) ∧ ((0 ≤ ((rI σ10 76 22) - 1) ∧ ((rI σ10 76 22) - 1) < 34) ∧ Q (.inl (some (.int (nZ (rI σ10 (186 + j) ((rI σ10 76 22) - 1)))))) σ10))))))))) :
    T sc (d + 1) mX10_moves [.ref 76, .ref (186 + j), .int (nZ x2), .int (nZ x3)] σ Q := by
  refine T.of (c := 10) (code := cX10_moves) (mL := 4) (rt := (some .int)) (ini := false) (l := [(0, .ref 76), (1, .ref (186 + j)), (2, .int (nZ x2)), (3, .int (nZ x3))]) rfl rfl rfl rfl (by decide) hs_X10_moves rfl rfl ?_
  refine w_iload_n dX10_moves_0 rfl (List.Mem.tail _ (List.Mem.tail _ (List.Mem.tail _ (List.Mem.head _)))) ?_
  refine i_if_ne (tgt := 11) dX10_moves_1 rfl rx3 (fun c9 => ?_) (fun c9 => ?_)
  · replace h := h.1 c9
    refine w_aload_n dX10_moves_11 rfl (List.Mem.head _) ?_
    refine w_dup dX10_moves_12 rfl ?_
    refine i_getI (ci := 10) 22 rfl dX10_moves_13 fl_10_342 (by decide) (gT hG rfl (lt_of rfl)) ?_
    refine w_iconst (v := nZ 1) dX10_moves_16 (by decide) ?_
    obtain ⟨q1, h⟩ := h
    refine i_add dX10_moves_17 ?_
    refine i_putI (ci := 10) 22 rfl dX10_moves_18 fl_10_342 (by decide) (gT hG rfl (lt_of rfl)) (fun σ2 eσ3 => ?_)
    replace h := h σ2 eσ3
    have hG4 : G σ2 u := eσ3 ▸ G.wI hG
    refine w_aload_n dX10_moves_21 rfl (List.Mem.tail _ (List.Mem.head _)) ?_
    refine w_aload_n dX10_moves_22 rfl (List.Mem.head _) ?_
    refine i_getI (ci := 10) 22 rfl dX10_moves_23 fl_10_342 (by decide) (gT hG4 rfl (lt_of rfl)) ?_
    refine w_iconst (v := nZ 1) dX10_moves_26 (by decide) ?_
    obtain ⟨q5, h⟩ := h
    refine i_sub dX10_moves_27 ?_
    obtain ⟨h9, h⟩ := h
    refine i_iald (n := 34) dX10_moves_28 (gT hG4 (ro_185 _ hj).1 (by have := hj; omega)) (gL hG4 (ro_185 _ hj).2) q5 h9 ?_
    exact w_iret dX10_moves_29 rfl h
  · replace h := h.2 c9
    refine w_aload_n dX10_moves_4 rfl (List.Mem.tail _ (List.Mem.head _)) ?_
    refine w_aload_n dX10_moves_5 rfl (List.Mem.head _) ?_
    refine i_getI (ci := 10) 22 rfl dX10_moves_6 fl_10_342 (by decide) (gT hG rfl (lt_of rfl)) ?_
    refine w_iload_n dX10_moves_9 rfl (List.Mem.tail _ (List.Mem.tail _ (List.Mem.head _))) ?_
    obtain ⟨h9, h⟩ := h
    refine i_iast (n := 34) dX10_moves_10 (gT hG (ro_185 _ hj).1 (by have := hj; omega)) (gL hG (ro_185 _ hj).2) (rI_R _ _ _) h9 (fun σ6 eσ7 => ?_)
    replace h := h σ6 eσ7
    have hG8 : G σ6 u := eσ7 ▸ G.wI hG
    refine w_aload_n dX10_moves_11 rfl (List.Mem.head _) ?_
    refine w_dup dX10_moves_12 rfl ?_
    refine i_getI (ci := 10) 22 rfl dX10_moves_13 fl_10_342 (by decide) (gT hG8 rfl (lt_of rfl)) ?_
    refine w_iconst (v := nZ 1) dX10_moves_16 (by decide) ?_
    obtain ⟨q9, h⟩ := h
    refine i_add dX10_moves_17 ?_
    refine i_putI (ci := 10) 22 rfl dX10_moves_18 fl_10_342 (by decide) (gT hG8 rfl (lt_of rfl)) (fun σ10 eσ11 => ?_)
    replace h := h σ10 eσ11
    have hG12 : G σ10 u := eσ11 ▸ G.wI hG8
    refine w_aload_n dX10_moves_21 rfl (List.Mem.tail _ (List.Mem.head _)) ?_
    refine w_aload_n dX10_moves_22 rfl (List.Mem.head _) ?_
    refine i_getI (ci := 10) 22 rfl dX10_moves_23 fl_10_342 (by decide) (gT hG12 rfl (lt_of rfl)) ?_
    refine w_iconst (v := nZ 1) dX10_moves_26 (by decide) ?_
    obtain ⟨q13, h⟩ := h
    refine i_sub dX10_moves_27 ?_
    obtain ⟨h9, h⟩ := h
    refine i_iald (n := 34) dX10_moves_28 (gT hG12 (ro_185 _ hj).1 (by have := hj; omega)) (gL hG12 (ro_185 _ hj).2) q13 h9 ?_
    exact w_iret dX10_moves_29 rfl h
theorem dX10_movesAll_0 : decode cX10_movesAll 0 = .ok (.aload_n 0, 1) := by decide +kernel
theorem dX10_movesAll_1 : decode cX10_movesAll 1 = .ok (.iconst 0, 1) := by decide +kernel
theorem dX10_movesAll_2 : decode cX10_movesAll 2 = .ok (.putfield 342, 3) := by decide +kernel
theorem dX10_movesAll_5 : decode cX10_movesAll 5 = .ok (.aload_n 0, 1) := by decide +kernel
theorem dX10_movesAll_6 : decode cX10_movesAll 6 = .ok (.aload_n 0, 1) := by decide +kernel
theorem dX10_movesAll_7 : decode cX10_movesAll 7 = .ok (.aload_n 1, 1) := by decide +kernel
theorem dX10_movesAll_8 : decode cX10_movesAll 8 = .ok (.aload_n 0, 1) := by decide +kernel
theorem dX10_movesAll_9 : decode cX10_movesAll 9 = .ok (.getfield 203, 3) := by decide +kernel
theorem dX10_movesAll_12 : decode cX10_movesAll 12 = .ok (.iload_n 2, 1) := by decide +kernel
theorem dX10_movesAll_13 : decode cX10_movesAll 13 = .ok (.invokevirtual 345, 3) := by decide +kernel
theorem dX10_movesAll_16 : decode cX10_movesAll 16 = .ok (.putfield 203, 3) := by decide +kernel
theorem dX10_movesAll_19 : decode cX10_movesAll 19 = .ok (.aload_n 0, 1) := by decide +kernel
theorem dX10_movesAll_20 : decode cX10_movesAll 20 = .ok (.aload_n 0, 1) := by decide +kernel
theorem dX10_movesAll_21 : decode cX10_movesAll 21 = .ok (.aload_n 1, 1) := by decide +kernel
theorem dX10_movesAll_22 : decode cX10_movesAll 22 = .ok (.aload_n 0, 1) := by decide +kernel
theorem dX10_movesAll_23 : decode cX10_movesAll 23 = .ok (.getfield 206, 3) := by decide +kernel
theorem dX10_movesAll_26 : decode cX10_movesAll 26 = .ok (.iload_n 2, 1) := by decide +kernel
theorem dX10_movesAll_27 : decode cX10_movesAll 27 = .ok (.invokevirtual 345, 3) := by decide +kernel
theorem dX10_movesAll_30 : decode cX10_movesAll 30 = .ok (.putfield 206, 3) := by decide +kernel
theorem dX10_movesAll_33 : decode cX10_movesAll 33 = .ok (.iconst 0, 1) := by decide +kernel
theorem dX10_movesAll_34 : decode cX10_movesAll 34 = .ok (.istore_n 3, 1) := by decide +kernel
theorem dX10_movesAll_35 : decode cX10_movesAll 35 = .ok (.iload_n 3, 1) := by decide +kernel
theorem dX10_movesAll_36 : decode cX10_movesAll 36 = .ok (.bipush 8, 2) := by decide +kernel
theorem dX10_movesAll_38 : decode cX10_movesAll 38 = .ok (.if_icmp .ge 66, 3) := by decide +kernel
theorem dX10_movesAll_41 : decode cX10_movesAll 41 = .ok (.iconst 0, 1) := by decide +kernel
theorem dX10_movesAll_42 : decode cX10_movesAll 42 = .ok (.istore 4, 2) := by decide +kernel
theorem dX10_movesAll_44 : decode cX10_movesAll 44 = .ok (.iload 4, 2) := by decide +kernel
theorem dX10_movesAll_46 : decode cX10_movesAll 46 = .ok (.iconst 3, 1) := by decide +kernel
theorem dX10_movesAll_47 : decode cX10_movesAll 47 = .ok (.if_icmp .ge 33, 3) := by decide +kernel
theorem dX10_movesAll_50 : decode cX10_movesAll 50 = .ok (.aload_n 0, 1) := by decide +kernel
theorem dX10_movesAll_51 : decode cX10_movesAll 51 = .ok (.getfield 31, 3) := by decide +kernel
theorem dX10_movesAll_54 : decode cX10_movesAll 54 = .ok (.iload_n 3, 1) := by decide +kernel
theorem dX10_movesAll_55 : decode cX10_movesAll 55 = .ok (.aaload, 1) := by decide +kernel
theorem dX10_movesAll_56 : decode cX10_movesAll 56 = .ok (.iload 4, 2) := by decide +kernel
theorem dX10_movesAll_58 : decode cX10_movesAll 58 = .ok (.aload_n 0, 1) := by decide +kernel
theorem dX10_movesAll_59 : decode cX10_movesAll 59 = .ok (.aload_n 1, 1) := by decide +kernel
theorem dX10_movesAll_60 : decode cX10_movesAll 60 = .ok (.aload_n 0, 1) := by decide +kernel
theorem dX10_movesAll_61 : decode cX10_movesAll 61 = .ok (.getfield 31, 3) := by decide +kernel
theorem dX10_movesAll_64 : decode cX10_movesAll 64 = .ok (.iload_n 3, 1) := by decide +kernel
theorem dX10_movesAll_65 : decode cX10_movesAll 65 = .ok (.aaload, 1) := by decide +kernel
theorem dX10_movesAll_66 : decode cX10_movesAll 66 = .ok (.iload 4, 2) := by decide +kernel
theorem dX10_movesAll_68 : decode cX10_movesAll 68 = .ok (.iaload, 1) := by decide +kernel
theorem dX10_movesAll_69 : decode cX10_movesAll 69 = .ok (.iload_n 2, 1) := by decide +kernel
theorem dX10_movesAll_70 : decode cX10_movesAll 70 = .ok (.invokevirtual 345, 3) := by decide +kernel
theorem dX10_movesAll_73 : decode cX10_movesAll 73 = .ok (.iastore, 1) := by decide +kernel
theorem dX10_movesAll_74 : decode cX10_movesAll 74 = .ok (.iinc 4 1, 3) := by decide +kernel
theorem dX10_movesAll_77 : decode cX10_movesAll 77 = .ok (.goto (-33), 3) := by decide +kernel
theorem dX10_movesAll_80 : decode cX10_movesAll 80 = .ok (.aload_n 0, 1) := by decide +kernel
theorem dX10_movesAll_81 : decode cX10_movesAll 81 = .ok (.getfield 46, 3) := by decide +kernel
theorem dX10_movesAll_84 : decode cX10_movesAll 84 = .ok (.iload_n 3, 1) := by decide +kernel
theorem dX10_movesAll_85 : decode cX10_movesAll 85 = .ok (.aload_n 0, 1) := by decide +kernel
theorem dX10_movesAll_86 : decode cX10_movesAll 86 = .ok (.aload_n 1, 1) := by decide +kernel
theorem dX10_movesAll_87 : decode cX10_movesAll 87 = .ok (.aload_n 0, 1) := by decide +kernel
theorem dX10_movesAll_88 : decode cX10_movesAll 88 = .ok (.getfield 46, 3) := by decide +kernel
theorem dX10_movesAll_91 : decode cX10_movesAll 91 = .ok (.iload_n 3, 1) := by decide +kernel
theorem dX10_movesAll_92 : decode cX10_movesAll 92 = .ok (.iaload, 1) := by decide +kernel
theorem dX10_movesAll_93 : decode cX10_movesAll 93 = .ok (.iload_n 2, 1) := by decide +kernel
theorem dX10_movesAll_94 : decode cX10_movesAll 94 = .ok (.invokevirtual 345, 3) := by decide +kernel
theorem dX10_movesAll_97 : decode cX10_movesAll 97 = .ok (.iastore, 1) := by decide +kernel
theorem dX10_movesAll_98 : decode cX10_movesAll 98 = .ok (.iinc 3 1, 3) := by decide +kernel
theorem dX10_movesAll_101 : decode cX10_movesAll 101 = .ok (.goto (-66), 3) := by decide +kernel
theorem dX10_movesAll_104 : decode cX10_movesAll 104 = .ok (.return_, 1) := by decide +kernel
def L_X10_movesAll_35 (C : aM → List Value → aH → aO → aH → Prop) (sc : Nat × (Nat → Int32)) (P : aO → aH → Prop) (j : Nat) (x2 : Int) (x3 : Int) (σ : aH) : Prop :=
    wp C 10 cX10_movesAll 5 none false [] sc P 35 [(0, .ref 76), (1, .ref (186 + j)), (2, .int (nZ x2)), (3, .int (nZ x3))] [] σ
def L_X10_movesAll_44 (C : aM → List Value → aH → aO → aH → Prop) (sc : Nat × (Nat → Int32)) (P : aO → aH → Prop) (j : Nat) (x2 : Int) (x3 : Int) (x4 : Int) (σ : aH) : Prop :=
    wp C 10 cX10_movesAll 5 none false [] sc P 44 [(0, .ref 76), (1, .ref (186 + j)), (2, .int (nZ x2)), (3, .int (nZ x3)), (4, .int (nZ x4))] [] σ
set_option maxRecDepth 10000 in
theorem t_X10_movesAll {sc : Nat × (Nat → Int32)} {d : Nat} {Q : aO → aH → Prop} {σ : aH} {u : Nat} {j : Nat} {x2 : Int} (hG : G σ u) (hj : j < 3) (rx2 : inR x2)
    (h : (∀ σ1 : aH, wI σ 76 22 0 = σ1 → (∃ (r8 : Int) (σ4 : aH), Ev sc d mX10_moves [.ref 76, .ref (186 + j), .int (nZ (rI σ1 76 18)), .int (nZ x2)] σ1 (.inl (some (.int (nZ r8)))) σ4 ∧ G σ4 u ∧ inR r8 ∧ (∀ σ9 : aH, wI σ4 76 18 r8 = σ9 → (∃ (r16 : Int) (σ12 : aH), Ev sc d mX10_moves [.ref 76, .ref (186 + j), .int (nZ (rI σ9 76 19)), .int (nZ x2)] σ9 (.inl (some (.int (nZ r16)))) σ12 ∧ G σ12 u ∧ inR r16 ∧ (∀ σ17 : aH, wI σ12 76 19 r16 = σ17 → L_X10_movesAll_35 (Ev sc d) sc Q j x2 0 σ17)))))) :
    T sc (d + 1) mX10_movesAll [.ref 76, .ref (186 + j), .int (nZ x2)] σ Q := by
  refine T.of (c := 10) (code := cX10_movesAll) (mL := 5) (rt := none) (ini := false) (l := [(0, .ref 76), (1, .ref (186 + j)), (2, .int (nZ x2))]) rfl rfl rfl rfl (by decide) hs_X10_movesAll rfl rfl ?_
  refine w_aload_n dX10_movesAll_0 rfl (List.Mem.head _) ?_
  refine w_iconst (v := nZ 0) dX10_movesAll_1 (by decide) ?_
  refine i_putI (ci := 10) 22 rfl dX10_movesAll_2 fl_10_342 (by decide) (gT hG rfl (lt_of rfl)) (fun σ1 eσ2 => ?_)
  replace h := h σ1 eσ2
  have hG3 : G σ1 u := eσ2 ▸ G.wI hG
  refine w_aload_n dX10_movesAll_5 rfl (List.Mem.head _) ?_
  refine w_aload_n dX10_movesAll_6 rfl (List.Mem.head _) ?_
  refine w_aload_n dX10_movesAll_7 rfl (List.Mem.tail _ (List.Mem.head _)) ?_
  refine w_aload_n dX10_movesAll_8 rfl (List.Mem.head _) ?_
  refine i_getI (ci := 10) 18 rfl dX10_movesAll_9 fl_10_203 (by decide) (gT hG3 rfl (lt_of rfl)) ?_
  refine w_iload_n dX10_movesAll_12 rfl (List.Mem.tail _ (List.Mem.tail _ (List.Mem.head _))) ?_
  obtain ⟨r8, σ4, hc6, hG5, rr7, h⟩ := h
  refine w_callV dX10_movesAll_13 ml_10_345 ⟨ok_X10_moves, vi_X10_moves⟩ hs_X10_moves (As := [.ref (186 + j), .int (nZ (rI σ1 76 18)), .int (nZ x2)]) rfl rfl (gT hG3 rfl (lt_of rfl)) (Nat.le_of_ble_eq_true rfl) hc6 ?_
  show wp (Ev sc d) 10 cX10_movesAll 5 none false [] sc Q 16 [(0, .ref 76), (1, .ref (186 + j)), (2, .int (nZ x2))] [.int (nZ r8), .ref 76] σ4
  refine i_putI (ci := 10) 18 rfl dX10_movesAll_16 fl_10_203 (by decide) (gT hG5 rfl (lt_of rfl)) (fun σ9 eσ10 => ?_)
  replace h := h σ9 eσ10
  have hG11 : G σ9 u := eσ10 ▸ G.wI hG5
  refine w_aload_n dX10_movesAll_19 rfl (List.Mem.head _) ?_
  refine w_aload_n dX10_movesAll_20 rfl (List.Mem.head _) ?_
  refine w_aload_n dX10_movesAll_21 rfl (List.Mem.tail _ (List.Mem.head _)) ?_
  refine w_aload_n dX10_movesAll_22 rfl (List.Mem.head _) ?_
  refine i_getI (ci := 10) 19 rfl dX10_movesAll_23 fl_10_206 (by decide) (gT hG11 rfl (lt_of rfl)) ?_
  refine w_iload_n dX10_movesAll_26 rfl (List.Mem.tail _ (List.Mem.tail _ (List.Mem.head _))) ?_
  obtain ⟨r16, σ12, hc14, hG13, rr15, h⟩ := h
  refine w_callV dX10_movesAll_27 ml_10_345 ⟨ok_X10_moves, vi_X10_moves⟩ hs_X10_moves (As := [.ref (186 + j), .int (nZ (rI σ9 76 19)), .int (nZ x2)]) rfl rfl (gT hG11 rfl (lt_of rfl)) (Nat.le_of_ble_eq_true rfl) hc14 ?_
  show wp (Ev sc d) 10 cX10_movesAll 5 none false [] sc Q 30 [(0, .ref 76), (1, .ref (186 + j)), (2, .int (nZ x2))] [.int (nZ r16), .ref 76] σ12
  refine i_putI (ci := 10) 19 rfl dX10_movesAll_30 fl_10_206 (by decide) (gT hG13 rfl (lt_of rfl)) (fun σ17 eσ18 => ?_)
  replace h := h σ17 eσ18
  have hG19 : G σ17 u := eσ18 ▸ G.wI hG13
  refine w_iconst (v := nZ 0) dX10_movesAll_33 (by decide) ?_
  refine w_istore_n (l' := [(3, .int (nZ 0)), (0, .ref 76), (1, .ref (186 + j)), (2, .int (nZ x2))]) dX10_movesAll_34 rfl (by decide) rfl ?_
  exact w_weak (l' := [(0, .ref 76), (1, .ref (186 + j)), (2, .int (nZ x2)), (3, .int (nZ 0))]) (by intro q hq; simp only [List.mem_cons, List.not_mem_nil, or_false] at hq ⊢; rcases hq with rfl | rfl | rfl | rfl <;> simp) h
set_option maxRecDepth 10000 in
theorem v_X10_movesAll_35 {C : aM → List Value → aH → aO → aH → Prop} {sc : Nat × (Nat → Int32)} {P : aO → aH → Prop} {σ : aH} {u : Nat} {j : Nat} {x2 : Int} {x3 : Int} (hG : G σ u) (hj : j < 3) (rx2 : inR x2) (rx3 : inR x3)
    (h : ((8 ≤ x3 → P (.inl none) σ) ∧ (¬ (8 ≤ x3) → L_X10_movesAll_44 C sc P j x2 x3 0 σ))) :
    L_X10_movesAll_35 C sc P j x2 x3 σ := by
  unfold L_X10_movesAll_35
  refine w_iload_n dX10_movesAll_35 rfl (List.Mem.tail _ (List.Mem.tail _ (List.Mem.tail _ (List.Mem.head _)))) ?_
  refine w_bipush (v := nZ 8) dX10_movesAll_36 (by decide) ?_
  refine i_cmp_ge (tgt := 104) dX10_movesAll_38 rfl rx3 (by decide) (fun c9 => ?_) (fun c9 => ?_)
  · replace h := h.1 c9
    exact w_vret dX10_movesAll_104 rfl h
  · replace h := h.2 c9
    refine w_iconst (v := nZ 0) dX10_movesAll_41 (by decide) ?_
    refine w_istore (l' := [(4, .int (nZ 0)), (0, .ref 76), (1, .ref (186 + j)), (2, .int (nZ x2)), (3, .int (nZ x3))]) dX10_movesAll_42 (by decide) rfl ?_
    exact w_weak (l' := [(0, .ref 76), (1, .ref (186 + j)), (2, .int (nZ x2)), (3, .int (nZ x3)), (4, .int (nZ 0))]) (by intro q hq; simp only [List.mem_cons, List.not_mem_nil, or_false] at hq ⊢; rcases hq with rfl | rfl | rfl | rfl | rfl <;> simp) h
set_option maxRecDepth 10000 in
theorem v_X10_movesAll_44 {C : aM → List Value → aH → aO → aH → Prop} {sc : Nat × (Nat → Int32)} {P : aO → aH → Prop} {σ : aH} {u : Nat} {j : Nat} {x2 : Int} {x3 : Int} {x4 : Int} (hG : G σ u) (hj : j < 3) (rx2 : inR x2) (rx3 : inR x3) (rx4 : inR x4)
    (h : ((3 ≤ x4 → ((0 ≤ x3 ∧ x3 < 8) ∧ (∃ (r5 : Int) (σ1 : aH), C mX10_moves [.ref 76, .ref (186 + j), .int (nZ (rI σ 184 x3)), .int (nZ x2)] σ (.inl (some (.int (nZ r5)))) σ1 ∧ G σ1 u ∧ inR r5 ∧ ((0 ≤ x3 ∧ x3 < 8) ∧ (∀ σ6 : aH, wI σ1 184 x3 r5 = σ6 → (inR (x3 + 1) ∧ L_X10_movesAll_35 C sc P j x2 (x3 + 1) σ6)))))) ∧ (¬ (3 ≤ x4) → ((0 ≤ x3 ∧ x3 < 9) ∧ ((0 ≤ x3 ∧ x3 < 9) ∧ ((0 ≤ x4 ∧ x4 < 7) ∧ (∃ (r16 : Int) (σ12 : aH), C mX10_moves [.ref 76, .ref (186 + j), .int (nZ (rI σ (91 + x3.toNat) x4)), .int (nZ x2)] σ (.inl (some (.int (nZ r16)))) σ12 ∧ G σ12 u ∧ inR r16 ∧ ((0 ≤ x4 ∧ x4 < 7) ∧ (∀ σ17 : aH, wI σ12 (91 + x3.toNat) x4 r16 = σ17 → (inR (x4 + 1) ∧ L_X10_movesAll_44 C sc P j x2 x3 (x4 + 1) σ17)))))))))) :
    L_X10_movesAll_44 C sc P j x2 x3 x4 σ := by
  unfold L_X10_movesAll_44
  refine w_iload dX10_movesAll_44 (List.Mem.tail _ (List.Mem.tail _ (List.Mem.tail _ (List.Mem.tail _ (List.Mem.head _))))) ?_
  refine w_iconst (v := nZ 3) dX10_movesAll_46 (by decide) ?_
  refine i_cmp_ge (tgt := 80) dX10_movesAll_47 rfl rx4 (by decide) (fun c9 => ?_) (fun c9 => ?_)
  · replace h := h.1 c9
    refine w_aload_n dX10_movesAll_80 rfl (List.Mem.head _) ?_
    refine w_getR (ci := 10) (k := 23) (b := 184) dX10_movesAll_81 fl_10_46 (by decide) (gT hG rfl (lt_of rfl)) (gR hG (b := 184) rfl) ?_
    refine w_iload_n dX10_movesAll_84 rfl (List.Mem.tail _ (List.Mem.tail _ (List.Mem.tail _ (List.Mem.head _)))) ?_
    refine w_aload_n dX10_movesAll_85 rfl (List.Mem.head _) ?_
    refine w_aload_n dX10_movesAll_86 rfl (List.Mem.tail _ (List.Mem.head _)) ?_
    refine w_aload_n dX10_movesAll_87 rfl (List.Mem.head _) ?_
    refine w_getR (ci := 10) (k := 23) (b := 184) dX10_movesAll_88 fl_10_46 (by decide) (gT hG rfl (lt_of rfl)) (gR hG (b := 184) rfl) ?_
    refine w_iload_n dX10_movesAll_91 rfl (List.Mem.tail _ (List.Mem.tail _ (List.Mem.tail _ (List.Mem.head _)))) ?_
    obtain ⟨h9, h⟩ := h
    refine i_iald (n := 8) dX10_movesAll_92 (gT hG rfl (lt_of rfl)) (gL hG rfl) rx3 h9 ?_
    refine w_iload_n dX10_movesAll_93 rfl (List.Mem.tail _ (List.Mem.tail _ (List.Mem.head _))) ?_
    obtain ⟨r5, σ1, hc3, hG2, rr4, h⟩ := h
    refine w_callV dX10_movesAll_94 ml_10_345 ⟨ok_X10_moves, vi_X10_moves⟩ hs_X10_moves (As := [.ref (186 + j), .int (nZ (rI σ 184 x3)), .int (nZ x2)]) rfl rfl (gT hG rfl (lt_of rfl)) (Nat.le_of_ble_eq_true rfl) hc3 ?_
    show wp C 10 cX10_movesAll 5 none false [] sc P 97 [(0, .ref 76), (1, .ref (186 + j)), (2, .int (nZ x2)), (3, .int (nZ x3)), (4, .int (nZ x4))] [.int (nZ r5), .int (nZ x3), .ref 184] σ1
    obtain ⟨h9, h⟩ := h
    refine i_iast (n := 8) dX10_movesAll_97 (gT hG2 rfl (lt_of rfl)) (gL hG2 rfl) rx3 h9 (fun σ6 eσ7 => ?_)
    replace h := h σ6 eσ7
    have hG8 : G σ6 u := eσ7 ▸ G.wI hG2
    obtain ⟨q9, h⟩ := h
    refine w_iinc (v := nZ (x3 + 1)) (l' := [(3, .int (nZ (x3 + 1))), (0, .ref 76), (1, .ref (186 + j)), (2, .int (nZ x2)), (4, .int (nZ x4))]) dX10_movesAll_98 (List.Mem.tail _ (List.Mem.tail _ (List.Mem.tail _ (List.Mem.head _)))) (nZ_add _ _) (by decide) rfl ?_
    refine w_goto (tgt := 35) dX10_movesAll_101 rfl ?_
    exact w_weak (l' := [(0, .ref 76), (1, .ref (186 + j)), (2, .int (nZ x2)), (3, .int (nZ (x3 + 1)))]) (by intro q hq; simp only [List.mem_cons, List.not_mem_nil, or_false] at hq ⊢; rcases hq with rfl | rfl | rfl | rfl <;> simp) h
  · replace h := h.2 c9
    refine w_aload_n dX10_movesAll_50 rfl (List.Mem.head _) ?_
    refine w_getR (ci := 10) (k := 13) (b := 90) dX10_movesAll_51 fl_10_31 (by decide) (gT hG rfl (lt_of rfl)) (gR hG (b := 90) rfl) ?_
    refine w_iload_n dX10_movesAll_54 rfl (List.Mem.tail _ (List.Mem.tail _ (List.Mem.tail _ (List.Mem.head _)))) ?_
    obtain ⟨h9, h⟩ := h
    have hj10 := vin_lt2 (n := 9) h9 rfl
    refine i_aald (n := 9) (b := (91 + x3.toNat)) dX10_movesAll_55 (gT hG rfl (lt_of rfl)) (gL hG rfl) rx3 h9 (gR hG (rr_90 hj10)) ?_
    refine w_iload dX10_movesAll_56 (List.Mem.tail _ (List.Mem.tail _ (List.Mem.tail _ (List.Mem.tail _ (List.Mem.head _))))) ?_
    refine w_aload_n dX10_movesAll_58 rfl (List.Mem.head _) ?_
    refine w_aload_n dX10_movesAll_59 rfl (List.Mem.tail _ (List.Mem.head _)) ?_
    refine w_aload_n dX10_movesAll_60 rfl (List.Mem.head _) ?_
    refine w_getR (ci := 10) (k := 13) (b := 90) dX10_movesAll_61 fl_10_31 (by decide) (gT hG rfl (lt_of rfl)) (gR hG (b := 90) rfl) ?_
    refine w_iload_n dX10_movesAll_64 rfl (List.Mem.tail _ (List.Mem.tail _ (List.Mem.tail _ (List.Mem.head _)))) ?_
    obtain ⟨h9, h⟩ := h
    have hj11 := vin_lt2 (n := 9) h9 rfl
    refine i_aald (n := 9) (b := (91 + x3.toNat)) dX10_movesAll_65 (gT hG rfl (lt_of rfl)) (gL hG rfl) rx3 h9 (gR hG (rr_90 hj11)) ?_
    refine w_iload dX10_movesAll_66 (List.Mem.tail _ (List.Mem.tail _ (List.Mem.tail _ (List.Mem.tail _ (List.Mem.head _))))) ?_
    obtain ⟨h9, h⟩ := h
    refine i_iald (n := 7) dX10_movesAll_68 (gT hG (ro_90 _ hj11).1 (by have := hj11; omega)) (gL hG (ro_90 _ hj11).2) rx4 h9 ?_
    refine w_iload_n dX10_movesAll_69 rfl (List.Mem.tail _ (List.Mem.tail _ (List.Mem.head _))) ?_
    obtain ⟨r16, σ12, hc14, hG13, rr15, h⟩ := h
    refine w_callV dX10_movesAll_70 ml_10_345 ⟨ok_X10_moves, vi_X10_moves⟩ hs_X10_moves (As := [.ref (186 + j), .int (nZ (rI σ (91 + x3.toNat) x4)), .int (nZ x2)]) rfl rfl (gT hG rfl (lt_of rfl)) (Nat.le_of_ble_eq_true rfl) hc14 ?_
    show wp C 10 cX10_movesAll 5 none false [] sc P 73 [(0, .ref 76), (1, .ref (186 + j)), (2, .int (nZ x2)), (3, .int (nZ x3)), (4, .int (nZ x4))] [.int (nZ r16), .int (nZ x4), .ref (91 + x3.toNat)] σ12
    obtain ⟨h9, h⟩ := h
    refine i_iast (n := 7) dX10_movesAll_73 (gT hG13 (ro_90 _ hj10).1 (by have := hj10; omega)) (gL hG13 (ro_90 _ hj10).2) rx4 h9 (fun σ17 eσ18 => ?_)
    replace h := h σ17 eσ18
    have hG19 : G σ17 u := eσ18 ▸ G.wI hG13
    obtain ⟨q20, h⟩ := h
    refine w_iinc (v := nZ (x4 + 1)) (l' := [(4, .int (nZ (x4 + 1))), (0, .ref 76), (1, .ref (186 + j)), (2, .int (nZ x2)), (3, .int (nZ x3))]) dX10_movesAll_74 (List.Mem.tail _ (List.Mem.tail _ (List.Mem.tail _ (List.Mem.tail _ (List.Mem.head _))))) (nZ_add _ _) (by decide) rfl ?_
    refine w_goto (tgt := 44) dX10_movesAll_77 rfl ?_
    exact w_weak (l' := [(0, .ref 76), (1, .ref (186 + j)), (2, .int (nZ x2)), (3, .int (nZ x3)), (4, .int (nZ (x4 + 1)))]) (by intro q hq; simp only [List.mem_cons, List.not_mem_nil, or_false] at hq ⊢; rcases hq with rfl | rfl | rfl | rfl | rfl <;> simp) h
theorem dX10_image_0 : decode cX10_image 0 = .ok (.aload_n 0, 1) := by decide +kernel
theorem dX10_image_1 : decode cX10_image 1 = .ok (.iconst 0, 1) := by decide +kernel
theorem dX10_image_2 : decode cX10_image 2 = .ok (.putfield 106, 3) := by decide +kernel
theorem dX10_image_5 : decode cX10_image 5 = .ok (.aload_n 0, 1) := by decide +kernel
theorem dX10_image_6 : decode cX10_image 6 = .ok (.getfield 212, 3) := by decide +kernel
theorem dX10_image_9 : decode cX10_image 9 = .ok (.iconst 3, 1) := by decide +kernel
theorem dX10_image_10 : decode cX10_image 10 = .ok (.if_icmp .ne 5, 3) := by decide +kernel
theorem dX10_image_13 : decode cX10_image 13 = .ok (.iconst (-1), 1) := by decide +kernel
theorem dX10_image_14 : decode cX10_image 14 = .ok (.ireturn, 1) := by decide +kernel
theorem dX10_image_15 : decode cX10_image 15 = .ok (.aload_n 0, 1) := by decide +kernel
theorem dX10_image_16 : decode cX10_image 16 = .ok (.aload_n 0, 1) := by decide +kernel
theorem dX10_image_17 : decode cX10_image 17 = .ok (.getfield 49, 3) := by decide +kernel
theorem dX10_image_20 : decode cX10_image 20 = .ok (.aload_n 0, 1) := by decide +kernel
theorem dX10_image_21 : decode cX10_image 21 = .ok (.getfield 212, 3) := by decide +kernel
theorem dX10_image_24 : decode cX10_image 24 = .ok (.aaload, 1) := by decide +kernel
theorem dX10_image_25 : decode cX10_image 25 = .ok (.iconst 0, 1) := by decide +kernel
theorem dX10_image_26 : decode cX10_image 26 = .ok (.invokevirtual 349, 3) := by decide +kernel
theorem dX10_image_29 : decode cX10_image 29 = .ok (.aload_n 0, 1) := by decide +kernel
theorem dX10_image_30 : decode cX10_image 30 = .ok (.dup, 1) := by decide +kernel
theorem dX10_image_31 : decode cX10_image 31 = .ok (.getfield 212, 3) := by decide +kernel
theorem dX10_image_34 : decode cX10_image 34 = .ok (.iconst 1, 1) := by decide +kernel
theorem dX10_image_35 : decode cX10_image 35 = .ok (.iadd, 1) := by decide +kernel
theorem dX10_image_36 : decode cX10_image 36 = .ok (.putfield 212, 3) := by decide +kernel
theorem dX10_image_39 : decode cX10_image 39 = .ok (.aload_n 0, 1) := by decide +kernel
theorem dX10_image_40 : decode cX10_image 40 = .ok (.getfield 212, 3) := by decide +kernel
theorem dX10_image_43 : decode cX10_image 43 = .ok (.ireturn, 1) := by decide +kernel
set_option maxRecDepth 10000 in
theorem t_X10_image {sc : Nat × (Nat → Int32)} {d : Nat} {Q : aO → aH → Prop} {σ : aH} {u : Nat}   (hG : G σ u) 
    (h : (∀ σ1 : aH, wI σ 76 0 0 = σ1 → ((¬ (rI σ1 76 21) = 3 → ((0 ≤ (rI σ1 76 21) ∧ (rI σ1 76 21) < 3) ∧ (∃ σ5 : aH, Ev sc d mX10_movesAll [.ref 76, .ref (186 + ((rI σ1 76 21).toNat)), .int (nZ 0)] σ1 (.inl none) σ5 ∧ G σ5 u ∧ (inR ((rI σ5 76 21) + 1) ∧ (∀ σ10 : aH, wI σ5 76 21 ((rI σ5 76 21) + 1) = σ10 → Q (.inl (some (.int (nZ (rI σ10 76 21))))) σ10))))) ∧ ((rI σ1 76 21) = 3 → Q (.inl (some (.int (nZ (-1))))) σ1)))) :
    T sc (d + 1) mX10_image [.ref 76] σ Q := by
  refine T.of (c := 10) (code := cX10_image) (mL := 1) (rt := (some .int)) (ini := false) (l := [(0, .ref 76)]) rfl rfl rfl rfl (by decide) hs_X10_image rfl rfl ?_
  refine w_aload_n dX10_image_0 rfl (List.Mem.head _) ?_
  refine w_iconst (v := nZ 0) dX10_image_1 (by decide) ?_
  refine i_putI (ci := 10) 0 rfl dX10_image_2 fl_10_106 (by decide) (gT hG rfl (lt_of rfl)) (fun σ1 eσ2 => ?_)
  replace h := h σ1 eσ2
  have hG3 : G σ1 u := eσ2 ▸ G.wI hG
  refine w_aload_n dX10_image_5 rfl (List.Mem.head _) ?_
  refine i_getI (ci := 10) 21 rfl dX10_image_6 fl_10_212 (by decide) (gT hG3 rfl (lt_of rfl)) ?_
  refine w_iconst (v := nZ 3) dX10_image_9 (by decide) ?_
  refine i_cmp_ne (tgt := 15) dX10_image_10 rfl (rI_R _ _ _) (by decide) (fun c9 => ?_) (fun c9 => ?_)
  · replace h := h.1 c9
    refine w_aload_n dX10_image_15 rfl (List.Mem.head _) ?_
    refine w_aload_n dX10_image_16 rfl (List.Mem.head _) ?_
    refine w_getR (ci := 10) (k := 24) (b := 185) dX10_image_17 fl_10_49 (by decide) (gT hG3 rfl (lt_of rfl)) (gR hG3 (b := 185) rfl) ?_
    refine w_aload_n dX10_image_20 rfl (List.Mem.head _) ?_
    refine i_getI (ci := 10) 21 rfl dX10_image_21 fl_10_212 (by decide) (gT hG3 rfl (lt_of rfl)) ?_
    obtain ⟨h9, h⟩ := h
    have hj4 := vin_lt2 (n := 3) h9 rfl
    refine i_aald (n := 3) (b := (186 + ((rI σ1 76 21).toNat))) dX10_image_24 (gT hG3 rfl (lt_of rfl)) (gL hG3 rfl) (rI_R _ _ _) h9 (gR hG3 (rr_185 hj4)) ?_
    refine w_iconst (v := nZ 0) dX10_image_25 (by decide) ?_
    obtain ⟨σ5, hc7, hG6, h⟩ := h
    refine w_callV dX10_image_26 ml_10_349 ⟨ok_X10_movesAll, vi_X10_movesAll⟩ hs_X10_movesAll (As := [.ref (186 + ((rI σ1 76 21).toNat)), .int (nZ 0)]) rfl rfl (gT hG3 rfl (lt_of rfl)) (Nat.le_of_ble_eq_true rfl) hc7 ?_
    show wp (Ev sc d) 10 cX10_image 1 (some .int) false [] sc Q 29 [(0, .ref 76)] [] σ5
    refine w_aload_n dX10_image_29 rfl (List.Mem.head _) ?_
    refine w_dup dX10_image_30 rfl ?_
    refine i_getI (ci := 10) 21 rfl dX10_image_31 fl_10_212 (by decide) (gT hG6 rfl (lt_of rfl)) ?_
    refine w_iconst (v := nZ 1) dX10_image_34 (by decide) ?_
    obtain ⟨q9, h⟩ := h
    refine i_add dX10_image_35 ?_
    refine i_putI (ci := 10) 21 rfl dX10_image_36 fl_10_212 (by decide) (gT hG6 rfl (lt_of rfl)) (fun σ10 eσ11 => ?_)
    replace h := h σ10 eσ11
    have hG12 : G σ10 u := eσ11 ▸ G.wI hG6
    refine w_aload_n dX10_image_39 rfl (List.Mem.head _) ?_
    refine i_getI (ci := 10) 21 rfl dX10_image_40 fl_10_212 (by decide) (gT hG12 rfl (lt_of rfl)) ?_
    exact w_iret dX10_image_43 rfl h
  · replace h := h.2 c9
    refine w_iconst (v := nZ (-1)) dX10_image_13 (by decide) ?_
    exact w_iret dX10_image_14 rfl h
theorem dX10_restore_0 : decode cX10_restore 0 = .ok (.aload_n 0, 1) := by decide +kernel
theorem dX10_restore_1 : decode cX10_restore 1 = .ok (.iconst 0, 1) := by decide +kernel
theorem dX10_restore_2 : decode cX10_restore 2 = .ok (.putfield 106, 3) := by decide +kernel
theorem dX10_restore_5 : decode cX10_restore 5 = .ok (.aload_n 0, 1) := by decide +kernel
theorem dX10_restore_6 : decode cX10_restore 6 = .ok (.getfield 212, 3) := by decide +kernel
theorem dX10_restore_9 : decode cX10_restore 9 = .ok (.ifCond .ne 5, 3) := by decide +kernel
theorem dX10_restore_12 : decode cX10_restore 12 = .ok (.iconst (-1), 1) := by decide +kernel
theorem dX10_restore_13 : decode cX10_restore 13 = .ok (.ireturn, 1) := by decide +kernel
theorem dX10_restore_14 : decode cX10_restore 14 = .ok (.aload_n 0, 1) := by decide +kernel
theorem dX10_restore_15 : decode cX10_restore 15 = .ok (.dup, 1) := by decide +kernel
theorem dX10_restore_16 : decode cX10_restore 16 = .ok (.getfield 212, 3) := by decide +kernel
theorem dX10_restore_19 : decode cX10_restore 19 = .ok (.iconst 1, 1) := by decide +kernel
theorem dX10_restore_20 : decode cX10_restore 20 = .ok (.isub, 1) := by decide +kernel
theorem dX10_restore_21 : decode cX10_restore 21 = .ok (.putfield 212, 3) := by decide +kernel
theorem dX10_restore_24 : decode cX10_restore 24 = .ok (.aload_n 0, 1) := by decide +kernel
theorem dX10_restore_25 : decode cX10_restore 25 = .ok (.aload_n 0, 1) := by decide +kernel
theorem dX10_restore_26 : decode cX10_restore 26 = .ok (.getfield 49, 3) := by decide +kernel
theorem dX10_restore_29 : decode cX10_restore 29 = .ok (.aload_n 0, 1) := by decide +kernel
theorem dX10_restore_30 : decode cX10_restore 30 = .ok (.getfield 212, 3) := by decide +kernel
theorem dX10_restore_33 : decode cX10_restore 33 = .ok (.aaload, 1) := by decide +kernel
theorem dX10_restore_34 : decode cX10_restore 34 = .ok (.iconst 1, 1) := by decide +kernel
theorem dX10_restore_35 : decode cX10_restore 35 = .ok (.invokevirtual 349, 3) := by decide +kernel
theorem dX10_restore_38 : decode cX10_restore 38 = .ok (.aload_n 0, 1) := by decide +kernel
theorem dX10_restore_39 : decode cX10_restore 39 = .ok (.getfield 212, 3) := by decide +kernel
theorem dX10_restore_42 : decode cX10_restore 42 = .ok (.ireturn, 1) := by decide +kernel
set_option maxRecDepth 10000 in
theorem t_X10_restore {sc : Nat × (Nat → Int32)} {d : Nat} {Q : aO → aH → Prop} {σ : aH} {u : Nat}   (hG : G σ u) 
    (h : (∀ σ1 : aH, wI σ 76 0 0 = σ1 → ((¬ (rI σ1 76 21) = 0 → (inR ((rI σ1 76 21) - 1) ∧ (∀ σ5 : aH, wI σ1 76 21 ((rI σ1 76 21) - 1) = σ5 → ((0 ≤ (rI σ5 76 21) ∧ (rI σ5 76 21) < 3) ∧ (∃ σ9 : aH, Ev sc d mX10_movesAll [.ref 76, .ref (186 + ((rI σ5 76 21).toNat)), .int (nZ 1)] σ5 (.inl none) σ9 ∧ G σ9 u ∧ Q (.inl (some (.int (nZ (rI σ9 76 21))))) σ9))))) ∧ ((rI σ1 76 21) = 0 → Q (.inl (some (.int (nZ (-1))))) σ1)))) :
    T sc (d + 1) mX10_restore [.ref 76] σ Q := by
  refine T.of (c := 10) (code := cX10_restore) (mL := 1) (rt := (some .int)) (ini := false) (l := [(0, .ref 76)]) rfl rfl rfl rfl (by decide) hs_X10_restore rfl rfl ?_
  refine w_aload_n dX10_restore_0 rfl (List.Mem.head _) ?_
  refine w_iconst (v := nZ 0) dX10_restore_1 (by decide) ?_
  refine i_putI (ci := 10) 0 rfl dX10_restore_2 fl_10_106 (by decide) (gT hG rfl (lt_of rfl)) (fun σ1 eσ2 => ?_)
  replace h := h σ1 eσ2
  have hG3 : G σ1 u := eσ2 ▸ G.wI hG
  refine w_aload_n dX10_restore_5 rfl (List.Mem.head _) ?_
  refine i_getI (ci := 10) 21 rfl dX10_restore_6 fl_10_212 (by decide) (gT hG3 rfl (lt_of rfl)) ?_
  refine i_if_ne (tgt := 14) dX10_restore_9 rfl (rI_R _ _ _) (fun c9 => ?_) (fun c9 => ?_)
  · replace h := h.1 c9
    refine w_aload_n dX10_restore_14 rfl (List.Mem.head _) ?_
    refine w_dup dX10_restore_15 rfl ?_
    refine i_getI (ci := 10) 21 rfl dX10_restore_16 fl_10_212 (by decide) (gT hG3 rfl (lt_of rfl)) ?_
    refine w_iconst (v := nZ 1) dX10_restore_19 (by decide) ?_
    obtain ⟨q4, h⟩ := h
    refine i_sub dX10_restore_20 ?_
    refine i_putI (ci := 10) 21 rfl dX10_restore_21 fl_10_212 (by decide) (gT hG3 rfl (lt_of rfl)) (fun σ5 eσ6 => ?_)
    replace h := h σ5 eσ6
    have hG7 : G σ5 u := eσ6 ▸ G.wI hG3
    refine w_aload_n dX10_restore_24 rfl (List.Mem.head _) ?_
    refine w_aload_n dX10_restore_25 rfl (List.Mem.head _) ?_
    refine w_getR (ci := 10) (k := 24) (b := 185) dX10_restore_26 fl_10_49 (by decide) (gT hG7 rfl (lt_of rfl)) (gR hG7 (b := 185) rfl) ?_
    refine w_aload_n dX10_restore_29 rfl (List.Mem.head _) ?_
    refine i_getI (ci := 10) 21 rfl dX10_restore_30 fl_10_212 (by decide) (gT hG7 rfl (lt_of rfl)) ?_
    obtain ⟨h9, h⟩ := h
    have hj8 := vin_lt2 (n := 3) h9 rfl
    refine i_aald (n := 3) (b := (186 + ((rI σ5 76 21).toNat))) dX10_restore_33 (gT hG7 rfl (lt_of rfl)) (gL hG7 rfl) (rI_R _ _ _) h9 (gR hG7 (rr_185 hj8)) ?_
    refine w_iconst (v := nZ 1) dX10_restore_34 (by decide) ?_
    obtain ⟨σ9, hc11, hG10, h⟩ := h
    refine w_callV dX10_restore_35 ml_10_349 ⟨ok_X10_movesAll, vi_X10_movesAll⟩ hs_X10_movesAll (As := [.ref (186 + ((rI σ5 76 21).toNat)), .int (nZ 1)]) rfl rfl (gT hG7 rfl (lt_of rfl)) (Nat.le_of_ble_eq_true rfl) hc11 ?_
    show wp (Ev sc d) 10 cX10_restore 1 (some .int) false [] sc Q 38 [(0, .ref 76)] [] σ9
    refine w_aload_n dX10_restore_38 rfl (List.Mem.head _) ?_
    refine i_getI (ci := 10) 21 rfl dX10_restore_39 fl_10_212 (by decide) (gT hG10 rfl (lt_of rfl)) ?_
    exact w_iret dX10_restore_42 rfl h
  · replace h := h.2 c9
    refine w_iconst (v := nZ (-1)) dX10_restore_12 (by decide) ?_
    exact w_iret dX10_restore_13 rfl h
theorem dX10_status_0 : decode cX10_status 0 = .ok (.aload_n 0, 1) := by decide +kernel
theorem dX10_status_1 : decode cX10_status 1 = .ok (.iconst 0, 1) := by decide +kernel
theorem dX10_status_2 : decode cX10_status 2 = .ok (.putfield 106, 3) := by decide +kernel
theorem dX10_status_5 : decode cX10_status 5 = .ok (.iload_n 1, 1) := by decide +kernel
theorem dX10_status_6 : decode cX10_status 6 = .ok (.iconst 0, 1) := by decide +kernel
theorem dX10_status_7 : decode cX10_status 7 = .ok (.iconst 1, 1) := by decide +kernel
theorem dX10_status_8 : decode cX10_status 8 = .ok (.invokestatic 140, 3) := by decide +kernel
theorem dX10_status_11 : decode cX10_status 11 = .ok (.ifCond .eq 12, 3) := by decide +kernel
theorem dX10_status_14 : decode cX10_status 14 = .ok (.aload_n 0, 1) := by decide +kernel
theorem dX10_status_15 : decode cX10_status 15 = .ok (.getfield 17, 3) := by decide +kernel
theorem dX10_status_18 : decode cX10_status 18 = .ok (.iload_n 1, 1) := by decide +kernel
theorem dX10_status_19 : decode cX10_status 19 = .ok (.iaload, 1) := by decide +kernel
theorem dX10_status_20 : decode cX10_status 20 = .ok (.goto 4, 3) := by decide +kernel
theorem dX10_status_23 : decode cX10_status 23 = .ok (.iconst (-1), 1) := by decide +kernel
theorem dX10_status_24 : decode cX10_status 24 = .ok (.ireturn, 1) := by decide +kernel
set_option maxRecDepth 10000 in
theorem t_X10_status {sc : Nat × (Nat → Int32)} {d : Nat} {Q : aO → aH → Prop} {σ : aH} {u : Nat}  {x1 : Int} (hG : G σ u) (rx1 : inR x1)
    (h : (∀ σ1 : aH, wI σ 76 0 0 = σ1 → (∃ (r8 : Int) (σ4 : aH), Ev sc d mX10_in [.int (nZ x1), .int (nZ 0), .int (nZ 1)] σ1 (.inl (some (.int (nZ r8)))) σ4 ∧ G σ4 u ∧ inR r8 ∧ ((r8 = 0 → Q (.inl (some (.int (nZ (-1))))) σ4) ∧ (¬ (r8 = 0) → ((0 ≤ x1 ∧ x1 < 2) ∧ Q (.inl (some (.int (nZ (rI σ4 78 x1))))) σ4)))))) :
    T sc (d + 1) mX10_status [.ref 76, .int (nZ x1)] σ Q := by
  refine T.of (c := 10) (code := cX10_status) (mL := 2) (rt := (some .int)) (ini := false) (l := [(0, .ref 76), (1, .int (nZ x1))]) rfl rfl rfl rfl (by decide) hs_X10_status rfl rfl ?_
  refine w_aload_n dX10_status_0 rfl (List.Mem.head _) ?_
  refine w_iconst (v := nZ 0) dX10_status_1 (by decide) ?_
  refine i_putI (ci := 10) 0 rfl dX10_status_2 fl_10_106 (by decide) (gT hG rfl (lt_of rfl)) (fun σ1 eσ2 => ?_)
  replace h := h σ1 eσ2
  have hG3 : G σ1 u := eσ2 ▸ G.wI hG
  refine w_iload_n dX10_status_5 rfl (List.Mem.tail _ (List.Mem.head _)) ?_
  refine w_iconst (v := nZ 0) dX10_status_6 (by decide) ?_
  refine w_iconst (v := nZ 1) dX10_status_7 (by decide) ?_
  obtain ⟨r8, σ4, hc6, hG5, rr7, h⟩ := h
  refine w_callS dX10_status_8 ml_10_140 ⟨ok_X10_in, st_X10_in⟩ hs_X10_in (As := [.int (nZ x1), .int (nZ 0), .int (nZ 1)]) rfl rfl (Nat.le_of_ble_eq_true rfl) hc6 ?_
  show wp (Ev sc d) 10 cX10_status 2 (some .int) false [] sc Q 11 [(0, .ref 76), (1, .int (nZ x1))] [.int (nZ r8)] σ4
  refine i_if_eq (tgt := 23) dX10_status_11 rfl rr7 (fun c9 => ?_) (fun c9 => ?_)
  · replace h := h.1 c9
    refine w_iconst (v := nZ (-1)) dX10_status_23 (by decide) ?_
    exact w_iret dX10_status_24 rfl h
  · replace h := h.2 c9
    refine w_aload_n dX10_status_14 rfl (List.Mem.head _) ?_
    refine w_getR (ci := 10) (k := 9) (b := 78) dX10_status_15 fl_10_17 (by decide) (gT hG5 rfl (lt_of rfl)) (gR hG5 (b := 78) rfl) ?_
    refine w_iload_n dX10_status_18 rfl (List.Mem.tail _ (List.Mem.head _)) ?_
    obtain ⟨h9, h⟩ := h
    refine i_iald (n := 2) dX10_status_19 (gT hG5 rfl (lt_of rfl)) (gL hG5 rfl) rx1 h9 ?_
    refine w_goto (tgt := 24) dX10_status_20 rfl ?_
    exact w_iret dX10_status_24 rfl h
theorem dX10_count_0 : decode cX10_count 0 = .ok (.aload_n 0, 1) := by decide +kernel
theorem dX10_count_1 : decode cX10_count 1 = .ok (.iconst 0, 1) := by decide +kernel
theorem dX10_count_2 : decode cX10_count 2 = .ok (.putfield 106, 3) := by decide +kernel
theorem dX10_count_5 : decode cX10_count 5 = .ok (.iload_n 1, 1) := by decide +kernel
theorem dX10_count_6 : decode cX10_count 6 = .ok (.ifCond .ne 10, 3) := by decide +kernel
theorem dX10_count_9 : decode cX10_count 9 = .ok (.aload_n 0, 1) := by decide +kernel
theorem dX10_count_10 : decode cX10_count 10 = .ok (.getfield 212, 3) := by decide +kernel
theorem dX10_count_13 : decode cX10_count 13 = .ok (.goto 16, 3) := by decide +kernel
theorem dX10_count_16 : decode cX10_count 16 = .ok (.iload_n 1, 1) := by decide +kernel
theorem dX10_count_17 : decode cX10_count 17 = .ok (.iconst 1, 1) := by decide +kernel
theorem dX10_count_18 : decode cX10_count 18 = .ok (.if_icmp .ne 10, 3) := by decide +kernel
theorem dX10_count_21 : decode cX10_count 21 = .ok (.aload_n 0, 1) := by decide +kernel
theorem dX10_count_22 : decode cX10_count 22 = .ok (.getfield 109, 3) := by decide +kernel
theorem dX10_count_25 : decode cX10_count 25 = .ok (.goto 4, 3) := by decide +kernel
theorem dX10_count_28 : decode cX10_count 28 = .ok (.iconst (-1), 1) := by decide +kernel
theorem dX10_count_29 : decode cX10_count 29 = .ok (.ireturn, 1) := by decide +kernel
set_option maxRecDepth 10000 in
theorem t_X10_count {sc : Nat × (Nat → Int32)} {d : Nat} {Q : aO → aH → Prop} {σ : aH} {u : Nat}  {x1 : Int} (hG : G σ u) (rx1 : inR x1)
    (h : (∀ σ1 : aH, wI σ 76 0 0 = σ1 → ((¬ x1 = 0 → ((¬ x1 = 1 → Q (.inl (some (.int (nZ (-1))))) σ1) ∧ (x1 = 1 → Q (.inl (some (.int (nZ (rI σ1 76 1))))) σ1))) ∧ (x1 = 0 → Q (.inl (some (.int (nZ (rI σ1 76 21))))) σ1)))) :
    T sc (d + 1) mX10_count [.ref 76, .int (nZ x1)] σ Q := by
  refine T.of (c := 10) (code := cX10_count) (mL := 2) (rt := (some .int)) (ini := false) (l := [(0, .ref 76), (1, .int (nZ x1))]) rfl rfl rfl rfl (by decide) hs_X10_count rfl rfl ?_
  refine w_aload_n dX10_count_0 rfl (List.Mem.head _) ?_
  refine w_iconst (v := nZ 0) dX10_count_1 (by decide) ?_
  refine i_putI (ci := 10) 0 rfl dX10_count_2 fl_10_106 (by decide) (gT hG rfl (lt_of rfl)) (fun σ1 eσ2 => ?_)
  replace h := h σ1 eσ2
  have hG3 : G σ1 u := eσ2 ▸ G.wI hG
  refine w_iload_n dX10_count_5 rfl (List.Mem.tail _ (List.Mem.head _)) ?_
  refine i_if_ne (tgt := 16) dX10_count_6 rfl rx1 (fun c9 => ?_) (fun c9 => ?_)
  · replace h := h.1 c9
    refine w_iload_n dX10_count_16 rfl (List.Mem.tail _ (List.Mem.head _)) ?_
    refine w_iconst (v := nZ 1) dX10_count_17 (by decide) ?_
    refine i_cmp_ne (tgt := 28) dX10_count_18 rfl rx1 (by decide) (fun c9 => ?_) (fun c9 => ?_)
    · replace h := h.1 c9
      refine w_iconst (v := nZ (-1)) dX10_count_28 (by decide) ?_
      exact w_iret dX10_count_29 rfl h
    · replace h := h.2 c9
      refine w_aload_n dX10_count_21 rfl (List.Mem.head _) ?_
      refine i_getI (ci := 10) 1 rfl dX10_count_22 fl_10_109 (by decide) (gT hG3 rfl (lt_of rfl)) ?_
      refine w_goto (tgt := 29) dX10_count_25 rfl ?_
      exact w_iret dX10_count_29 rfl h
  · replace h := h.2 c9
    refine w_aload_n dX10_count_9 rfl (List.Mem.head _) ?_
    refine i_getI (ci := 10) 21 rfl dX10_count_10 fl_10_212 (by decide) (gT hG3 rfl (lt_of rfl)) ?_
    refine w_goto (tgt := 29) dX10_count_13 rfl ?_
    exact w_iret dX10_count_29 rfl h
