theorem dX10_netOf_0 : decode cX10_netOf 0 = .ok (.iconst 0, 1) := by decide +kernel
theorem dX10_netOf_1 : decode cX10_netOf 1 = .ok (.istore_n 2, 1) := by decide +kernel
theorem dX10_netOf_2 : decode cX10_netOf 2 = .ok (.iconst 0, 1) := by decide +kernel
theorem dX10_netOf_3 : decode cX10_netOf 3 = .ok (.istore_n 3, 1) := by decide +kernel
theorem dX10_netOf_4 : decode cX10_netOf 4 = .ok (.iload_n 3, 1) := by decide +kernel
theorem dX10_netOf_5 : decode cX10_netOf 5 = .ok (.aload_n 0, 1) := by decide +kernel
theorem dX10_netOf_6 : decode cX10_netOf 6 = .ok (.getfield 218, 3) := by decide +kernel
theorem dX10_netOf_9 : decode cX10_netOf 9 = .ok (.if_icmp .ge 29, 3) := by decide +kernel
theorem dX10_netOf_12 : decode cX10_netOf 12 = .ok (.iload_n 2, 1) := by decide +kernel
theorem dX10_netOf_13 : decode cX10_netOf 13 = .ok (.aload_n 0, 1) := by decide +kernel
theorem dX10_netOf_14 : decode cX10_netOf 14 = .ok (.getfield 58, 3) := by decide +kernel
theorem dX10_netOf_17 : decode cX10_netOf 17 = .ok (.iload_n 3, 1) := by decide +kernel
theorem dX10_netOf_18 : decode cX10_netOf 18 = .ok (.aaload, 1) := by decide +kernel
theorem dX10_netOf_19 : decode cX10_netOf 19 = .ok (.iload_n 1, 1) := by decide +kernel
theorem dX10_netOf_20 : decode cX10_netOf 20 = .ok (.iaload, 1) := by decide +kernel
theorem dX10_netOf_21 : decode cX10_netOf 21 = .ok (.aload_n 0, 1) := by decide +kernel
theorem dX10_netOf_22 : decode cX10_netOf 22 = .ok (.getfield 58, 3) := by decide +kernel
theorem dX10_netOf_25 : decode cX10_netOf 25 = .ok (.iload_n 1, 1) := by decide +kernel
theorem dX10_netOf_26 : decode cX10_netOf 26 = .ok (.aaload, 1) := by decide +kernel
theorem dX10_netOf_27 : decode cX10_netOf 27 = .ok (.iload_n 3, 1) := by decide +kernel
theorem dX10_netOf_28 : decode cX10_netOf 28 = .ok (.iaload, 1) := by decide +kernel
theorem dX10_netOf_29 : decode cX10_netOf 29 = .ok (.isub, 1) := by decide +kernel
theorem dX10_netOf_30 : decode cX10_netOf 30 = .ok (.iadd, 1) := by decide +kernel
theorem dX10_netOf_31 : decode cX10_netOf 31 = .ok (.istore_n 2, 1) := by decide +kernel
theorem dX10_netOf_32 : decode cX10_netOf 32 = .ok (.iinc 3 1, 3) := by decide +kernel
theorem dX10_netOf_35 : decode cX10_netOf 35 = .ok (.goto (-31), 3) := by decide +kernel
theorem dX10_netOf_38 : decode cX10_netOf 38 = .ok (.iload_n 2, 1) := by decide +kernel
theorem dX10_netOf_39 : decode cX10_netOf 39 = .ok (.ireturn, 1) := by decide +kernel
def L_X10_netOf_4 (C : aM → List Value → aH → aO → aH → Prop) (sc : Nat × (Nat → Int32)) (P : aO → aH → Prop) (x1 : Int) (x2 : Int) (x3 : Int) (σ : aH) : Prop :=
    wp C 10 cX10_netOf 4 (some .int) false [] sc P 4 [(0, .ref 76), (1, .int (nZ x1)), (2, .int (nZ x2)), (3, .int (nZ x3))] [] σ
set_option maxRecDepth 10000 in
theorem t_X10_netOf {sc : Nat × (Nat → Int32)} {d : Nat} {Q : aO → aH → Prop} {σ : aH} {u : Nat}  {x1 : Int} (hG : G σ u) (rx1 : inR x1)
    (h : L_X10_netOf_4 (Ev sc d) sc Q x1 0 0 σ) :
    T sc (d + 1) mX10_netOf [.ref 76, .int (nZ x1)] σ Q := by
  refine T.of (c := 10) (code := cX10_netOf) (mL := 4) (rt := (some .int)) (ini := false) (l := [(0, .ref 76), (1, .int (nZ x1))]) rfl rfl rfl rfl (by decide) hs_X10_netOf rfl rfl ?_
  refine w_iconst (v := nZ 0) dX10_netOf_0 (by decide) ?_
  refine w_istore_n (l' := [(2, .int (nZ 0)), (0, .ref 76), (1, .int (nZ x1))]) dX10_netOf_1 rfl (by decide) rfl ?_
  refine w_iconst (v := nZ 0) dX10_netOf_2 (by decide) ?_
  refine w_istore_n (l' := [(3, .int (nZ 0)), (2, .int (nZ 0)), (0, .ref 76), (1, .int (nZ x1))]) dX10_netOf_3 rfl (by decide) rfl ?_
  exact w_weak (l' := [(0, .ref 76), (1, .int (nZ x1)), (2, .int (nZ 0)), (3, .int (nZ 0))]) (by intro q hq; simp only [List.mem_cons, List.not_mem_nil, or_false] at hq ⊢; rcases hq with rfl | rfl | rfl | rfl <;> simp) h
set_option maxRecDepth 10000 in
theorem v_X10_netOf_4 {C : aM → List Value → aH → aO → aH → Prop} {sc : Nat × (Nat → Int32)} {P : aO → aH → Prop} {σ : aH} {u : Nat}  {x1 : Int} {x2 : Int} {x3 : Int} (hG : G σ u) (rx1 : inR x1) (rx2 : inR x2) (rx3 : inR x3)
    (h : (((rI σ 76 28) ≤ x3 → P (.inl (some (.int (nZ x2)))) σ) ∧ (¬ ((rI σ 76 28) ≤ x3) → ((0 ≤ x3 ∧ x3 < 9) ∧ ((0 ≤ x1 ∧ x1 < 9) ∧ ((0 ≤ x1 ∧ x1 < 9) ∧ ((0 ≤ x3 ∧ x3 < 9) ∧ (inR ((rI σ (282 + x3.toNat) x1) - (rI σ (282 + x1.toNat) x3)) ∧ (inR (x2 + ((rI σ (282 + x3.toNat) x1) - (rI σ (282 + x1.toNat) x3))) ∧ (∀ z5 : Int, z5 = (x2 + ((rI σ (282 + x3.toNat) x1) - (rI σ (282 + x1.toNat) x3))) → (inR (x3 + 1) ∧ L_X10_netOf_4 C sc P x1 z5 (x3 + 1) σ))))))))))) :
    L_X10_netOf_4 C sc P x1 x2 x3 σ := by
  unfold L_X10_netOf_4
  refine w_iload_n dX10_netOf_4 rfl (List.Mem.tail _ (List.Mem.tail _ (List.Mem.tail _ (List.Mem.head _)))) ?_
  refine w_aload_n dX10_netOf_5 rfl (List.Mem.head _) ?_
  refine i_getI (ci := 10) 28 rfl dX10_netOf_6 fl_10_218 (by decide) (gT hG rfl (lt_of rfl)) ?_
  refine i_cmp_ge (tgt := 38) dX10_netOf_9 rfl rx3 (rI_R _ _ _) (fun c9 => ?_) (fun c9 => ?_)
  · replace h := h.1 c9
    refine w_iload_n dX10_netOf_38 rfl (List.Mem.tail _ (List.Mem.tail _ (List.Mem.head _))) ?_
    exact w_iret dX10_netOf_39 rfl h
  · replace h := h.2 c9
    refine w_iload_n dX10_netOf_12 rfl (List.Mem.tail _ (List.Mem.tail _ (List.Mem.head _))) ?_
    refine w_aload_n dX10_netOf_13 rfl (List.Mem.head _) ?_
    refine w_getR (ci := 10) (k := 30) (b := 281) dX10_netOf_14 fl_10_58 (by decide) (gT hG rfl (lt_of rfl)) (gR hG (b := 281) rfl) ?_
    refine w_iload_n dX10_netOf_17 rfl (List.Mem.tail _ (List.Mem.tail _ (List.Mem.tail _ (List.Mem.head _)))) ?_
    obtain ⟨h9, h⟩ := h
    have hj1 := vin_lt2 (n := 9) h9 rfl
    refine i_aald (n := 9) (b := (282 + x3.toNat)) dX10_netOf_18 (gT hG rfl (lt_of rfl)) (gL hG rfl) rx3 h9 (gR hG (rr_281 hj1)) ?_
    refine w_iload_n dX10_netOf_19 rfl (List.Mem.tail _ (List.Mem.head _)) ?_
    obtain ⟨h9, h⟩ := h
    refine i_iald (n := 9) dX10_netOf_20 (gT hG (ro_281 _ hj1).1 (by have := hj1; omega)) (gL hG (ro_281 _ hj1).2) rx1 h9 ?_
    refine w_aload_n dX10_netOf_21 rfl (List.Mem.head _) ?_
    refine w_getR (ci := 10) (k := 30) (b := 281) dX10_netOf_22 fl_10_58 (by decide) (gT hG rfl (lt_of rfl)) (gR hG (b := 281) rfl) ?_
    refine w_iload_n dX10_netOf_25 rfl (List.Mem.tail _ (List.Mem.head _)) ?_
    obtain ⟨h9, h⟩ := h
    have hj2 := vin_lt2 (n := 9) h9 rfl
    refine i_aald (n := 9) (b := (282 + x1.toNat)) dX10_netOf_26 (gT hG rfl (lt_of rfl)) (gL hG rfl) rx1 h9 (gR hG (rr_281 hj2)) ?_
    refine w_iload_n dX10_netOf_27 rfl (List.Mem.tail _ (List.Mem.tail _ (List.Mem.tail _ (List.Mem.head _)))) ?_
    obtain ⟨h9, h⟩ := h
    refine i_iald (n := 9) dX10_netOf_28 (gT hG (ro_281 _ hj2).1 (by have := hj2; omega)) (gL hG (ro_281 _ hj2).2) rx3 h9 ?_
    obtain ⟨q3, h⟩ := h
    refine i_sub dX10_netOf_29 ?_
    obtain ⟨q4, h⟩ := h
    refine i_add dX10_netOf_30 ?_
    refine top_i (fun z5 ez6 => ?_)
    have rz7 : inR z5 := ez6 ▸ q4
    replace h := h z5 ez6
    refine w_istore_n (l' := [(2, .int (nZ z5)), (0, .ref 76), (1, .int (nZ x1)), (3, .int (nZ x3))]) dX10_netOf_31 rfl (by decide) rfl ?_
    obtain ⟨q8, h⟩ := h
    refine w_iinc (v := nZ (x3 + 1)) (l' := [(3, .int (nZ (x3 + 1))), (2, .int (nZ z5)), (0, .ref 76), (1, .int (nZ x1))]) dX10_netOf_32 (List.Mem.tail _ (List.Mem.tail _ (List.Mem.tail _ (List.Mem.head _)))) (nZ_add _ _) (by decide) rfl ?_
    refine w_goto (tgt := 4) dX10_netOf_35 rfl ?_
    exact w_weak (l' := [(0, .ref 76), (1, .int (nZ x1)), (2, .int (nZ z5)), (3, .int (nZ (x3 + 1)))]) (by intro q hq; simp only [List.mem_cons, List.not_mem_nil, or_false] at hq ⊢; rcases hq with rfl | rfl | rfl | rfl <;> simp) h
theorem dX10_net_0 : decode cX10_net 0 = .ok (.aload_n 0, 1) := by decide +kernel
theorem dX10_net_1 : decode cX10_net 1 = .ok (.iconst 0, 1) := by decide +kernel
theorem dX10_net_2 : decode cX10_net 2 = .ok (.putfield 106, 3) := by decide +kernel
theorem dX10_net_5 : decode cX10_net 5 = .ok (.aload_n 0, 1) := by decide +kernel
theorem dX10_net_6 : decode cX10_net 6 = .ok (.aload_n 0, 1) := by decide +kernel
theorem dX10_net_7 : decode cX10_net 7 = .ok (.iload_n 1, 1) := by decide +kernel
theorem dX10_net_8 : decode cX10_net 8 = .ok (.invokevirtual 236, 3) := by decide +kernel
theorem dX10_net_11 : decode cX10_net 11 = .ok (.ifCond .ne 7, 3) := by decide +kernel
theorem dX10_net_14 : decode cX10_net 14 = .ok (.iconst 1, 1) := by decide +kernel
theorem dX10_net_15 : decode cX10_net 15 = .ok (.goto 4, 3) := by decide +kernel
theorem dX10_net_18 : decode cX10_net 18 = .ok (.iconst 0, 1) := by decide +kernel
theorem dX10_net_19 : decode cX10_net 19 = .ok (.iconst 1, 1) := by decide +kernel
theorem dX10_net_20 : decode cX10_net 20 = .ok (.iconst 0, 1) := by decide +kernel
theorem dX10_net_21 : decode cX10_net 21 = .ok (.invokevirtual 196, 3) := by decide +kernel
theorem dX10_net_24 : decode cX10_net 24 = .ok (.ifCond .ne 24, 3) := by decide +kernel
theorem dX10_net_27 : decode cX10_net 27 = .ok (.aload_n 0, 1) := by decide +kernel
theorem dX10_net_28 : decode cX10_net 28 = .ok (.iload_n 2, 1) := by decide +kernel
theorem dX10_net_29 : decode cX10_net 29 = .ok (.invokestatic 284, 3) := by decide +kernel
theorem dX10_net_32 : decode cX10_net 32 = .ok (.ifCond .ne 7, 3) := by decide +kernel
theorem dX10_net_35 : decode cX10_net 35 = .ok (.iconst 1, 1) := by decide +kernel
theorem dX10_net_36 : decode cX10_net 36 = .ok (.goto 4, 3) := by decide +kernel
theorem dX10_net_39 : decode cX10_net 39 = .ok (.iconst 0, 1) := by decide +kernel
theorem dX10_net_40 : decode cX10_net 40 = .ok (.iconst 2, 1) := by decide +kernel
theorem dX10_net_41 : decode cX10_net 41 = .ok (.iconst 1, 1) := by decide +kernel
theorem dX10_net_42 : decode cX10_net 42 = .ok (.invokevirtual 196, 3) := by decide +kernel
theorem dX10_net_45 : decode cX10_net 45 = .ok (.ifCond .eq 5, 3) := by decide +kernel
theorem dX10_net_48 : decode cX10_net 48 = .ok (.iconst 0, 1) := by decide +kernel
theorem dX10_net_49 : decode cX10_net 49 = .ok (.ireturn, 1) := by decide +kernel
theorem dX10_net_50 : decode cX10_net 50 = .ok (.aload_n 0, 1) := by decide +kernel
theorem dX10_net_51 : decode cX10_net 51 = .ok (.iload_n 2, 1) := by decide +kernel
theorem dX10_net_52 : decode cX10_net 52 = .ok (.aload_n 0, 1) := by decide +kernel
theorem dX10_net_53 : decode cX10_net 53 = .ok (.getfield 23, 3) := by decide +kernel
theorem dX10_net_56 : decode cX10_net 56 = .ok (.iconst 3, 1) := by decide +kernel
theorem dX10_net_57 : decode cX10_net 57 = .ok (.iaload, 1) := by decide +kernel
theorem dX10_net_58 : decode cX10_net 58 = .ok (.iconst 0, 1) := by decide +kernel
theorem dX10_net_59 : decode cX10_net 59 = .ok (.invokevirtual 268, 3) := by decide +kernel
theorem dX10_net_62 : decode cX10_net 62 = .ok (.aload_n 0, 1) := by decide +kernel
theorem dX10_net_63 : decode cX10_net 63 = .ok (.iload_n 1, 1) := by decide +kernel
theorem dX10_net_64 : decode cX10_net 64 = .ok (.invokevirtual 287, 3) := by decide +kernel
theorem dX10_net_67 : decode cX10_net 67 = .ok (.ireturn, 1) := by decide +kernel
def L_X10_net_40 (C : aM → List Value → aH → aO → aH → Prop) (sc : Nat × (Nat → Int32)) (P : aO → aH → Prop) (x1 : Int) (x2 : Int) (s0 : Int) (σ : aH) : Prop :=
    wp C 10 cX10_net 3 (some .int) false [] sc P 40 [(0, .ref 76), (1, .int (nZ x1)), (2, .int (nZ x2))] [.int (nZ s0), .ref 76] σ
set_option maxRecDepth 10000 in
theorem t_X10_net {sc : Nat × (Nat → Int32)} {d : Nat} {Q : aO → aH → Prop} {σ : aH} {u : Nat}  {x1 : Int} {x2 : Int} (hG : G σ u) (rx1 : inR x1) (rx2 : inR x2)
    (h : (∀ σ1 : aH, wI σ 76 0 0 = σ1 → (∃ (r8 : Int) (σ4 : aH), Ev sc d mX10_isStall [.ref 76, .int (nZ x1)] σ1 (.inl (some (.int (nZ r8)))) σ4 ∧ G σ4 u ∧ inR r8 ∧ ((¬ r8 = 0 → (∃ (r13 : Int) (σ9 : aH), Ev sc d mX10_bad [.ref 76, .int (nZ 0), .int (nZ 1), .int (nZ 0)] σ4 (.inl (some (.int (nZ r13)))) σ9 ∧ G σ9 u ∧ inR r13 ∧ ((¬ r13 = 0 → Q (.inl (some (.int (nZ 0)))) σ9) ∧ (r13 = 0 → (∃ (r18 : Int) (σ14 : aH), Ev sc d mX10_isTill [.int (nZ x2)] σ9 (.inl (some (.int (nZ r18)))) σ14 ∧ G σ14 u ∧ inR r18 ∧ ((¬ r18 = 0 → L_X10_net_40 (Ev sc d) sc Q x1 x2 0 σ14) ∧ (r18 = 0 → L_X10_net_40 (Ev sc d) sc Q x1 x2 1 σ14))))))) ∧ (r8 = 0 → (∃ (r23 : Int) (σ19 : aH), Ev sc d mX10_bad [.ref 76, .int (nZ 1), .int (nZ 1), .int (nZ 0)] σ4 (.inl (some (.int (nZ r23)))) σ19 ∧ G σ19 u ∧ inR r23 ∧ ((¬ r23 = 0 → Q (.inl (some (.int (nZ 0)))) σ19) ∧ (r23 = 0 → (∃ (r28 : Int) (σ24 : aH), Ev sc d mX10_isTill [.int (nZ x2)] σ19 (.inl (some (.int (nZ r28)))) σ24 ∧ G σ24 u ∧ inR r28 ∧ ((¬ r28 = 0 → L_X10_net_40 (Ev sc d) sc Q x1 x2 0 σ24) ∧ (r28 = 0 → L_X10_net_40 (Ev sc d) sc Q x1 x2 1 σ24))))))))))) :
    T sc (d + 1) mX10_net [.ref 76, .int (nZ x1), .int (nZ x2)] σ Q := by
  refine T.of (c := 10) (code := cX10_net) (mL := 3) (rt := (some .int)) (ini := false) (l := [(0, .ref 76), (1, .int (nZ x1)), (2, .int (nZ x2))]) rfl rfl rfl rfl (by decide) hs_X10_net rfl rfl ?_
  refine w_aload_n dX10_net_0 rfl (List.Mem.head _) ?_
  refine w_iconst (v := nZ 0) dX10_net_1 (by decide) ?_
  refine i_putI (ci := 10) 0 rfl dX10_net_2 fl_10_106 (by decide) (gT hG rfl (lt_of rfl)) (fun σ1 eσ2 => ?_)
  replace h := h σ1 eσ2
  have hG3 : G σ1 u := eσ2 ▸ G.wI hG
  refine w_aload_n dX10_net_5 rfl (List.Mem.head _) ?_
  refine w_aload_n dX10_net_6 rfl (List.Mem.head _) ?_
  refine w_iload_n dX10_net_7 rfl (List.Mem.tail _ (List.Mem.head _)) ?_
  obtain ⟨r8, σ4, hc6, hG5, rr7, h⟩ := h
  refine w_callV dX10_net_8 ml_10_236 ⟨ok_X10_isStall, vi_X10_isStall⟩ hs_X10_isStall (As := [.int (nZ x1)]) rfl rfl (gT hG3 rfl (lt_of rfl)) (Nat.le_of_ble_eq_true rfl) hc6 ?_
  show wp (Ev sc d) 10 cX10_net 3 (some .int) false [] sc Q 11 [(0, .ref 76), (1, .int (nZ x1)), (2, .int (nZ x2))] [.int (nZ r8), .ref 76] σ4
  refine i_if_ne (tgt := 18) dX10_net_11 rfl rr7 (fun c9 => ?_) (fun c9 => ?_)
  · replace h := h.1 c9
    refine w_iconst (v := nZ 0) dX10_net_18 (by decide) ?_
    refine w_iconst (v := nZ 1) dX10_net_19 (by decide) ?_
    refine w_iconst (v := nZ 0) dX10_net_20 (by decide) ?_
    obtain ⟨r13, σ9, hc11, hG10, rr12, h⟩ := h
    refine w_callV dX10_net_21 ml_10_196 ⟨ok_X10_bad, vi_X10_bad⟩ hs_X10_bad (As := [.int (nZ 0), .int (nZ 1), .int (nZ 0)]) rfl rfl (gT hG5 rfl (lt_of rfl)) (Nat.le_of_ble_eq_true rfl) hc11 ?_
    show wp (Ev sc d) 10 cX10_net 3 (some .int) false [] sc Q 24 [(0, .ref 76), (1, .int (nZ x1)), (2, .int (nZ x2))] [.int (nZ r13)] σ9
    refine i_if_ne (tgt := 48) dX10_net_24 rfl rr12 (fun c9 => ?_) (fun c9 => ?_)
    · replace h := h.1 c9
      refine w_iconst (v := nZ 0) dX10_net_48 (by decide) ?_
      exact w_iret dX10_net_49 rfl h
    · replace h := h.2 c9
      refine w_aload_n dX10_net_27 rfl (List.Mem.head _) ?_
      refine w_iload_n dX10_net_28 rfl (List.Mem.tail _ (List.Mem.tail _ (List.Mem.head _))) ?_
      obtain ⟨r18, σ14, hc16, hG15, rr17, h⟩ := h
      refine w_callS dX10_net_29 ml_10_284 ⟨ok_X10_isTill, st_X10_isTill⟩ hs_X10_isTill (As := [.int (nZ x2)]) rfl rfl (Nat.le_of_ble_eq_true rfl) hc16 ?_
      show wp (Ev sc d) 10 cX10_net 3 (some .int) false [] sc Q 32 [(0, .ref 76), (1, .int (nZ x1)), (2, .int (nZ x2))] [.int (nZ r18), .ref 76] σ14
      refine i_if_ne (tgt := 39) dX10_net_32 rfl rr17 (fun c9 => ?_) (fun c9 => ?_)
      · replace h := h.1 c9
        refine w_iconst (v := nZ 0) dX10_net_39 (by decide) ?_
        exact h
      · replace h := h.2 c9
        refine w_iconst (v := nZ 1) dX10_net_35 (by decide) ?_
        refine w_goto (tgt := 40) dX10_net_36 rfl ?_
        exact h
  · replace h := h.2 c9
    refine w_iconst (v := nZ 1) dX10_net_14 (by decide) ?_
    refine w_goto (tgt := 19) dX10_net_15 rfl ?_
    refine w_iconst (v := nZ 1) dX10_net_19 (by decide) ?_
    refine w_iconst (v := nZ 0) dX10_net_20 (by decide) ?_
    obtain ⟨r23, σ19, hc21, hG20, rr22, h⟩ := h
    refine w_callV dX10_net_21 ml_10_196 ⟨ok_X10_bad, vi_X10_bad⟩ hs_X10_bad (As := [.int (nZ 1), .int (nZ 1), .int (nZ 0)]) rfl rfl (gT hG5 rfl (lt_of rfl)) (Nat.le_of_ble_eq_true rfl) hc21 ?_
    show wp (Ev sc d) 10 cX10_net 3 (some .int) false [] sc Q 24 [(0, .ref 76), (1, .int (nZ x1)), (2, .int (nZ x2))] [.int (nZ r23)] σ19
    refine i_if_ne (tgt := 48) dX10_net_24 rfl rr22 (fun c9 => ?_) (fun c9 => ?_)
    · replace h := h.1 c9
      refine w_iconst (v := nZ 0) dX10_net_48 (by decide) ?_
      exact w_iret dX10_net_49 rfl h
    · replace h := h.2 c9
      refine w_aload_n dX10_net_27 rfl (List.Mem.head _) ?_
      refine w_iload_n dX10_net_28 rfl (List.Mem.tail _ (List.Mem.tail _ (List.Mem.head _))) ?_
      obtain ⟨r28, σ24, hc26, hG25, rr27, h⟩ := h
      refine w_callS dX10_net_29 ml_10_284 ⟨ok_X10_isTill, st_X10_isTill⟩ hs_X10_isTill (As := [.int (nZ x2)]) rfl rfl (Nat.le_of_ble_eq_true rfl) hc26 ?_
      show wp (Ev sc d) 10 cX10_net 3 (some .int) false [] sc Q 32 [(0, .ref 76), (1, .int (nZ x1)), (2, .int (nZ x2))] [.int (nZ r28), .ref 76] σ24
      refine i_if_ne (tgt := 39) dX10_net_32 rfl rr27 (fun c9 => ?_) (fun c9 => ?_)
      · replace h := h.1 c9
        refine w_iconst (v := nZ 0) dX10_net_39 (by decide) ?_
        exact h
      · replace h := h.2 c9
        refine w_iconst (v := nZ 1) dX10_net_35 (by decide) ?_
        refine w_goto (tgt := 40) dX10_net_36 rfl ?_
        exact h
set_option maxRecDepth 10000 in
theorem v_X10_net_40 {C : aM → List Value → aH → aO → aH → Prop} {sc : Nat × (Nat → Int32)} {P : aO → aH → Prop} {σ : aH} {u : Nat}  {x1 : Int} {x2 : Int} {s0 : Int} (hG : G σ u) (rx1 : inR x1) (rx2 : inR x2) (rs0 : inR s0)
    (h : (∃ (r5 : Int) (σ1 : aH), C mX10_bad [.ref 76, .int (nZ s0), .int (nZ 2), .int (nZ 1)] σ (.inl (some (.int (nZ r5)))) σ1 ∧ G σ1 u ∧ inR r5 ∧ ((r5 = 0 → (∃ σ6 : aH, C mX10_goes [.ref 76, .int (nZ x2), .int (nZ (rI σ1 80 3)), .int (nZ 0)] σ1 (.inl none) σ6 ∧ G σ6 u ∧ (∃ (r14 : Int) (σ10 : aH), C mX10_netOf [.ref 76, .int (nZ x1)] σ6 (.inl (some (.int (nZ r14)))) σ10 ∧ G σ10 u ∧ inR r14 ∧ P (.inl (some (.int (nZ r14)))) σ10))) ∧ (¬ (r5 = 0) → P (.inl (some (.int (nZ 0)))) σ1)))) :
    L_X10_net_40 C sc P x1 x2 s0 σ := by
  unfold L_X10_net_40
  refine w_iconst (v := nZ 2) dX10_net_40 (by decide) ?_
  refine w_iconst (v := nZ 1) dX10_net_41 (by decide) ?_
  obtain ⟨r5, σ1, hc3, hG2, rr4, h⟩ := h
  refine w_callV dX10_net_42 ml_10_196 ⟨ok_X10_bad, vi_X10_bad⟩ hs_X10_bad (As := [.int (nZ s0), .int (nZ 2), .int (nZ 1)]) rfl rfl (gT hG rfl (lt_of rfl)) (Nat.le_of_ble_eq_true rfl) hc3 ?_
  show wp C 10 cX10_net 3 (some .int) false [] sc P 45 [(0, .ref 76), (1, .int (nZ x1)), (2, .int (nZ x2))] [.int (nZ r5)] σ1
  refine i_if_eq (tgt := 50) dX10_net_45 rfl rr4 (fun c9 => ?_) (fun c9 => ?_)
  · replace h := h.1 c9
    refine w_aload_n dX10_net_50 rfl (List.Mem.head _) ?_
    refine w_iload_n dX10_net_51 rfl (List.Mem.tail _ (List.Mem.tail _ (List.Mem.head _))) ?_
    refine w_aload_n dX10_net_52 rfl (List.Mem.head _) ?_
    refine w_getR (ci := 10) (k := 11) (b := 80) dX10_net_53 fl_10_23 (by decide) (gT hG2 rfl (lt_of rfl)) (gR hG2 (b := 80) rfl) ?_
    refine w_iconst (v := nZ 3) dX10_net_56 (by decide) ?_
    refine i_iald (n := 8) dX10_net_57 (gT hG2 rfl (lt_of rfl)) (gL hG2 rfl) (by decide) (by decide) ?_
    refine w_iconst (v := nZ 0) dX10_net_58 (by decide) ?_
    obtain ⟨σ6, hc8, hG7, h⟩ := h
    refine w_callV dX10_net_59 ml_10_268 ⟨ok_X10_goes, vi_X10_goes⟩ hs_X10_goes (As := [.int (nZ x2), .int (nZ (rI σ1 80 3)), .int (nZ 0)]) rfl rfl (gT hG2 rfl (lt_of rfl)) (Nat.le_of_ble_eq_true rfl) hc8 ?_
    show wp C 10 cX10_net 3 (some .int) false [] sc P 62 [(0, .ref 76), (1, .int (nZ x1)), (2, .int (nZ x2))] [] σ6
    refine w_aload_n dX10_net_62 rfl (List.Mem.head _) ?_
    refine w_iload_n dX10_net_63 rfl (List.Mem.tail _ (List.Mem.head _)) ?_
    obtain ⟨r14, σ10, hc12, hG11, rr13, h⟩ := h
    refine w_callV dX10_net_64 ml_10_287 ⟨ok_X10_netOf, vi_X10_netOf⟩ hs_X10_netOf (As := [.int (nZ x1)]) rfl rfl (gT hG7 rfl (lt_of rfl)) (Nat.le_of_ble_eq_true rfl) hc12 ?_
    show wp C 10 cX10_net 3 (some .int) false [] sc P 67 [(0, .ref 76), (1, .int (nZ x1)), (2, .int (nZ x2))] [.int (nZ r14)] σ10
    exact w_iret dX10_net_67 rfl h
  · replace h := h.2 c9
    refine w_iconst (v := nZ 0) dX10_net_48 (by decide) ?_
    exact w_iret dX10_net_49 rfl h
theorem dX10_payments_0 : decode cX10_payments 0 = .ok (.aload_n 0, 1) := by decide +kernel
theorem dX10_payments_1 : decode cX10_payments 1 = .ok (.iconst 0, 1) := by decide +kernel
theorem dX10_payments_2 : decode cX10_payments 2 = .ok (.putfield 106, 3) := by decide +kernel
theorem dX10_payments_5 : decode cX10_payments 5 = .ok (.aload_n 0, 1) := by decide +kernel
theorem dX10_payments_6 : decode cX10_payments 6 = .ok (.iload_n 1, 1) := by decide +kernel
theorem dX10_payments_7 : decode cX10_payments 7 = .ok (.invokestatic 284, 3) := by decide +kernel
theorem dX10_payments_10 : decode cX10_payments 10 = .ok (.ifCond .ne 7, 3) := by decide +kernel
theorem dX10_payments_13 : decode cX10_payments 13 = .ok (.iconst 1, 1) := by decide +kernel
theorem dX10_payments_14 : decode cX10_payments 14 = .ok (.goto 4, 3) := by decide +kernel
theorem dX10_payments_17 : decode cX10_payments 17 = .ok (.iconst 0, 1) := by decide +kernel
theorem dX10_payments_18 : decode cX10_payments 18 = .ok (.iconst 1, 1) := by decide +kernel
theorem dX10_payments_19 : decode cX10_payments 19 = .ok (.iconst 1, 1) := by decide +kernel
theorem dX10_payments_20 : decode cX10_payments 20 = .ok (.invokevirtual 196, 3) := by decide +kernel
theorem dX10_payments_23 : decode cX10_payments 23 = .ok (.ifCond .eq 5, 3) := by decide +kernel
theorem dX10_payments_26 : decode cX10_payments 26 = .ok (.iconst 0, 1) := by decide +kernel
theorem dX10_payments_27 : decode cX10_payments 27 = .ok (.ireturn, 1) := by decide +kernel
theorem dX10_payments_28 : decode cX10_payments 28 = .ok (.aload_n 0, 1) := by decide +kernel
theorem dX10_payments_29 : decode cX10_payments 29 = .ok (.iload_n 1, 1) := by decide +kernel
theorem dX10_payments_30 : decode cX10_payments 30 = .ok (.aload_n 0, 1) := by decide +kernel
theorem dX10_payments_31 : decode cX10_payments 31 = .ok (.getfield 23, 3) := by decide +kernel
theorem dX10_payments_34 : decode cX10_payments 34 = .ok (.iconst 3, 1) := by decide +kernel
theorem dX10_payments_35 : decode cX10_payments 35 = .ok (.iaload, 1) := by decide +kernel
theorem dX10_payments_36 : decode cX10_payments 36 = .ok (.iconst 0, 1) := by decide +kernel
theorem dX10_payments_37 : decode cX10_payments 37 = .ok (.invokevirtual 268, 3) := by decide +kernel
theorem dX10_payments_40 : decode cX10_payments 40 = .ok (.iconst 0, 1) := by decide +kernel
theorem dX10_payments_41 : decode cX10_payments 41 = .ok (.istore_n 2, 1) := by decide +kernel
theorem dX10_payments_42 : decode cX10_payments 42 = .ok (.iconst 0, 1) := by decide +kernel
theorem dX10_payments_43 : decode cX10_payments 43 = .ok (.istore_n 3, 1) := by decide +kernel
theorem dX10_payments_44 : decode cX10_payments 44 = .ok (.iload_n 3, 1) := by decide +kernel
theorem dX10_payments_45 : decode cX10_payments 45 = .ok (.aload_n 0, 1) := by decide +kernel
theorem dX10_payments_46 : decode cX10_payments 46 = .ok (.getfield 23, 3) := by decide +kernel
theorem dX10_payments_49 : decode cX10_payments 49 = .ok (.iconst 2, 1) := by decide +kernel
theorem dX10_payments_50 : decode cX10_payments 50 = .ok (.iaload, 1) := by decide +kernel
theorem dX10_payments_51 : decode cX10_payments 51 = .ok (.if_icmp .ge 27, 3) := by decide +kernel
theorem dX10_payments_54 : decode cX10_payments 54 = .ok (.iload_n 2, 1) := by decide +kernel
theorem dX10_payments_55 : decode cX10_payments 55 = .ok (.aload_n 0, 1) := by decide +kernel
theorem dX10_payments_56 : decode cX10_payments 56 = .ok (.iload_n 3, 1) := by decide +kernel
theorem dX10_payments_57 : decode cX10_payments 57 = .ok (.invokevirtual 287, 3) := by decide +kernel
theorem dX10_payments_60 : decode cX10_payments 60 = .ok (.ifCond .ne 7, 3) := by decide +kernel
theorem dX10_payments_63 : decode cX10_payments 63 = .ok (.iconst 0, 1) := by decide +kernel
theorem dX10_payments_64 : decode cX10_payments 64 = .ok (.goto 6, 3) := by decide +kernel
theorem dX10_payments_67 : decode cX10_payments 67 = .ok (.iconst 1, 1) := by decide +kernel
theorem dX10_payments_68 : decode cX10_payments 68 = .ok (.iload_n 3, 1) := by decide +kernel
theorem dX10_payments_69 : decode cX10_payments 69 = .ok (.ishl, 1) := by decide +kernel
theorem dX10_payments_70 : decode cX10_payments 70 = .ok (.ior, 1) := by decide +kernel
theorem dX10_payments_71 : decode cX10_payments 71 = .ok (.istore_n 2, 1) := by decide +kernel
theorem dX10_payments_72 : decode cX10_payments 72 = .ok (.iinc 3 1, 3) := by decide +kernel
theorem dX10_payments_75 : decode cX10_payments 75 = .ok (.goto (-31), 3) := by decide +kernel
theorem dX10_payments_78 : decode cX10_payments 78 = .ok (.iconst 0, 1) := by decide +kernel
theorem dX10_payments_79 : decode cX10_payments 79 = .ok (.istore_n 3, 1) := by decide +kernel
theorem dX10_payments_80 : decode cX10_payments 80 = .ok (.iload_n 3, 1) := by decide +kernel
theorem dX10_payments_81 : decode cX10_payments 81 = .ok (.iconst 1, 1) := by decide +kernel
theorem dX10_payments_82 : decode cX10_payments 82 = .ok (.aload_n 0, 1) := by decide +kernel
theorem dX10_payments_83 : decode cX10_payments 83 = .ok (.getfield 23, 3) := by decide +kernel
theorem dX10_payments_86 : decode cX10_payments 86 = .ok (.iconst 2, 1) := by decide +kernel
theorem dX10_payments_87 : decode cX10_payments 87 = .ok (.iaload, 1) := by decide +kernel
theorem dX10_payments_88 : decode cX10_payments 88 = .ok (.ishl, 1) := by decide +kernel
theorem dX10_payments_89 : decode cX10_payments 89 = .ok (.if_icmp .ge 155, 3) := by decide +kernel
theorem dX10_payments_92 : decode cX10_payments 92 = .ok (.aload_n 0, 1) := by decide +kernel
theorem dX10_payments_93 : decode cX10_payments 93 = .ok (.getfield 79, 3) := by decide +kernel
theorem dX10_payments_96 : decode cX10_payments 96 = .ok (.iload_n 3, 1) := by decide +kernel
theorem dX10_payments_97 : decode cX10_payments 97 = .ok (.iconst 0, 1) := by decide +kernel
theorem dX10_payments_98 : decode cX10_payments 98 = .ok (.iastore, 1) := by decide +kernel
theorem dX10_payments_99 : decode cX10_payments 99 = .ok (.aload_n 0, 1) := by decide +kernel
theorem dX10_payments_100 : decode cX10_payments 100 = .ok (.getfield 76, 3) := by decide +kernel
theorem dX10_payments_103 : decode cX10_payments 103 = .ok (.iload_n 3, 1) := by decide +kernel
theorem dX10_payments_104 : decode cX10_payments 104 = .ok (.iconst 0, 1) := by decide +kernel
theorem dX10_payments_105 : decode cX10_payments 105 = .ok (.iastore, 1) := by decide +kernel
theorem dX10_payments_106 : decode cX10_payments 106 = .ok (.iconst 0, 1) := by decide +kernel
theorem dX10_payments_107 : decode cX10_payments 107 = .ok (.istore 4, 2) := by decide +kernel
theorem dX10_payments_109 : decode cX10_payments 109 = .ok (.iload 4, 2) := by decide +kernel
theorem dX10_payments_111 : decode cX10_payments 111 = .ok (.aload_n 0, 1) := by decide +kernel
theorem dX10_payments_112 : decode cX10_payments 112 = .ok (.getfield 23, 3) := by decide +kernel
theorem dX10_payments_115 : decode cX10_payments 115 = .ok (.iconst 2, 1) := by decide +kernel
theorem dX10_payments_116 : decode cX10_payments 116 = .ok (.iaload, 1) := by decide +kernel
theorem dX10_payments_117 : decode cX10_payments 117 = .ok (.if_icmp .ge 86, 3) := by decide +kernel
theorem dX10_payments_120 : decode cX10_payments 120 = .ok (.iload_n 3, 1) := by decide +kernel
theorem dX10_payments_121 : decode cX10_payments 121 = .ok (.iload 4, 2) := by decide +kernel
theorem dX10_payments_123 : decode cX10_payments 123 = .ok (.ishr, 1) := by decide +kernel
theorem dX10_payments_124 : decode cX10_payments 124 = .ok (.iconst 1, 1) := by decide +kernel
theorem dX10_payments_125 : decode cX10_payments 125 = .ok (.iand, 1) := by decide +kernel
theorem dX10_payments_126 : decode cX10_payments 126 = .ok (.ifCond .ne 6, 3) := by decide +kernel
theorem dX10_payments_129 : decode cX10_payments 129 = .ok (.goto 68, 3) := by decide +kernel
theorem dX10_payments_132 : decode cX10_payments 132 = .ok (.aload_n 0, 1) := by decide +kernel
theorem dX10_payments_133 : decode cX10_payments 133 = .ok (.getfield 79, 3) := by decide +kernel
theorem dX10_payments_136 : decode cX10_payments 136 = .ok (.iload_n 3, 1) := by decide +kernel
theorem dX10_payments_137 : decode cX10_payments 137 = .ok (.dup2, 1) := by decide +kernel
theorem dX10_payments_138 : decode cX10_payments 138 = .ok (.iaload, 1) := by decide +kernel
theorem dX10_payments_139 : decode cX10_payments 139 = .ok (.aload_n 0, 1) := by decide +kernel
theorem dX10_payments_140 : decode cX10_payments 140 = .ok (.iload 4, 2) := by decide +kernel
theorem dX10_payments_142 : decode cX10_payments 142 = .ok (.invokevirtual 287, 3) := by decide +kernel
theorem dX10_payments_145 : decode cX10_payments 145 = .ok (.iadd, 1) := by decide +kernel
theorem dX10_payments_146 : decode cX10_payments 146 = .ok (.iastore, 1) := by decide +kernel
theorem dX10_payments_147 : decode cX10_payments 147 = .ok (.aload_n 0, 1) := by decide +kernel
theorem dX10_payments_148 : decode cX10_payments 148 = .ok (.getfield 76, 3) := by decide +kernel
theorem dX10_payments_151 : decode cX10_payments 151 = .ok (.iload_n 3, 1) := by decide +kernel
theorem dX10_payments_152 : decode cX10_payments 152 = .ok (.aload_n 0, 1) := by decide +kernel
theorem dX10_payments_153 : decode cX10_payments 153 = .ok (.getfield 76, 3) := by decide +kernel
theorem dX10_payments_156 : decode cX10_payments 156 = .ok (.iload_n 3, 1) := by decide +kernel
theorem dX10_payments_157 : decode cX10_payments 157 = .ok (.iconst 1, 1) := by decide +kernel
theorem dX10_payments_158 : decode cX10_payments 158 = .ok (.iload 4, 2) := by decide +kernel
theorem dX10_payments_160 : decode cX10_payments 160 = .ok (.ishl, 1) := by decide +kernel
theorem dX10_payments_161 : decode cX10_payments 161 = .ok (.iconst (-1), 1) := by decide +kernel
theorem dX10_payments_162 : decode cX10_payments 162 = .ok (.ixor, 1) := by decide +kernel
theorem dX10_payments_163 : decode cX10_payments 163 = .ok (.iand, 1) := by decide +kernel
theorem dX10_payments_164 : decode cX10_payments 164 = .ok (.iaload, 1) := by decide +kernel
theorem dX10_payments_165 : decode cX10_payments 165 = .ok (.aload_n 0, 1) := by decide +kernel
theorem dX10_payments_166 : decode cX10_payments 166 = .ok (.getfield 76, 3) := by decide +kernel
theorem dX10_payments_169 : decode cX10_payments 169 = .ok (.iload_n 3, 1) := by decide +kernel
theorem dX10_payments_170 : decode cX10_payments 170 = .ok (.iaload, 1) := by decide +kernel
theorem dX10_payments_171 : decode cX10_payments 171 = .ok (.if_icmp .le 19, 3) := by decide +kernel
theorem dX10_payments_174 : decode cX10_payments 174 = .ok (.aload_n 0, 1) := by decide +kernel
theorem dX10_payments_175 : decode cX10_payments 175 = .ok (.getfield 76, 3) := by decide +kernel
theorem dX10_payments_178 : decode cX10_payments 178 = .ok (.iload_n 3, 1) := by decide +kernel
theorem dX10_payments_179 : decode cX10_payments 179 = .ok (.iconst 1, 1) := by decide +kernel
theorem dX10_payments_180 : decode cX10_payments 180 = .ok (.iload 4, 2) := by decide +kernel
theorem dX10_payments_182 : decode cX10_payments 182 = .ok (.ishl, 1) := by decide +kernel
theorem dX10_payments_183 : decode cX10_payments 183 = .ok (.iconst (-1), 1) := by decide +kernel
theorem dX10_payments_184 : decode cX10_payments 184 = .ok (.ixor, 1) := by decide +kernel
theorem dX10_payments_185 : decode cX10_payments 185 = .ok (.iand, 1) := by decide +kernel
theorem dX10_payments_186 : decode cX10_payments 186 = .ok (.iaload, 1) := by decide +kernel
theorem dX10_payments_187 : decode cX10_payments 187 = .ok (.goto 9, 3) := by decide +kernel
theorem dX10_payments_190 : decode cX10_payments 190 = .ok (.aload_n 0, 1) := by decide +kernel
theorem dX10_payments_191 : decode cX10_payments 191 = .ok (.getfield 76, 3) := by decide +kernel
theorem dX10_payments_194 : decode cX10_payments 194 = .ok (.iload_n 3, 1) := by decide +kernel
theorem dX10_payments_195 : decode cX10_payments 195 = .ok (.iaload, 1) := by decide +kernel
theorem dX10_payments_196 : decode cX10_payments 196 = .ok (.iastore, 1) := by decide +kernel
theorem dX10_payments_197 : decode cX10_payments 197 = .ok (.iinc 4 1, 3) := by decide +kernel
theorem dX10_payments_200 : decode cX10_payments 200 = .ok (.goto (-91), 3) := by decide +kernel
theorem dX10_payments_203 : decode cX10_payments 203 = .ok (.aload_n 0, 1) := by decide +kernel
theorem dX10_payments_204 : decode cX10_payments 204 = .ok (.getfield 76, 3) := by decide +kernel
theorem dX10_payments_207 : decode cX10_payments 207 = .ok (.iload_n 3, 1) := by decide +kernel
theorem dX10_payments_208 : decode cX10_payments 208 = .ok (.dup2, 1) := by decide +kernel
theorem dX10_payments_209 : decode cX10_payments 209 = .ok (.iaload, 1) := by decide +kernel
theorem dX10_payments_210 : decode cX10_payments 210 = .ok (.iload_n 3, 1) := by decide +kernel
theorem dX10_payments_211 : decode cX10_payments 211 = .ok (.ifCond .eq 24, 3) := by decide +kernel
theorem dX10_payments_214 : decode cX10_payments 214 = .ok (.iload_n 3, 1) := by decide +kernel
theorem dX10_payments_215 : decode cX10_payments 215 = .ok (.iload_n 2, 1) := by decide +kernel
theorem dX10_payments_216 : decode cX10_payments 216 = .ok (.iconst (-1), 1) := by decide +kernel
theorem dX10_payments_217 : decode cX10_payments 217 = .ok (.ixor, 1) := by decide +kernel
theorem dX10_payments_218 : decode cX10_payments 218 = .ok (.iand, 1) := by decide +kernel
theorem dX10_payments_219 : decode cX10_payments 219 = .ok (.ifCond .ne 16, 3) := by decide +kernel
theorem dX10_payments_222 : decode cX10_payments 222 = .ok (.aload_n 0, 1) := by decide +kernel
theorem dX10_payments_223 : decode cX10_payments 223 = .ok (.getfield 79, 3) := by decide +kernel
theorem dX10_payments_226 : decode cX10_payments 226 = .ok (.iload_n 3, 1) := by decide +kernel
theorem dX10_payments_227 : decode cX10_payments 227 = .ok (.iaload, 1) := by decide +kernel
theorem dX10_payments_228 : decode cX10_payments 228 = .ok (.ifCond .ne 7, 3) := by decide +kernel
theorem dX10_payments_231 : decode cX10_payments 231 = .ok (.iconst 1, 1) := by decide +kernel
theorem dX10_payments_232 : decode cX10_payments 232 = .ok (.goto 4, 3) := by decide +kernel
theorem dX10_payments_235 : decode cX10_payments 235 = .ok (.iconst 0, 1) := by decide +kernel
theorem dX10_payments_236 : decode cX10_payments 236 = .ok (.iadd, 1) := by decide +kernel
theorem dX10_payments_237 : decode cX10_payments 237 = .ok (.iastore, 1) := by decide +kernel
theorem dX10_payments_238 : decode cX10_payments 238 = .ok (.iinc 3 1, 3) := by decide +kernel
theorem dX10_payments_241 : decode cX10_payments 241 = .ok (.goto (-161), 3) := by decide +kernel
theorem dX10_payments_244 : decode cX10_payments 244 = .ok (.iload_n 2, 1) := by decide +kernel
theorem dX10_payments_245 : decode cX10_payments 245 = .ok (.invokestatic 265, 3) := by decide +kernel
theorem dX10_payments_248 : decode cX10_payments 248 = .ok (.aload_n 0, 1) := by decide +kernel
theorem dX10_payments_249 : decode cX10_payments 249 = .ok (.getfield 76, 3) := by decide +kernel
theorem dX10_payments_252 : decode cX10_payments 252 = .ok (.iload_n 2, 1) := by decide +kernel
theorem dX10_payments_253 : decode cX10_payments 253 = .ok (.iaload, 1) := by decide +kernel
theorem dX10_payments_254 : decode cX10_payments 254 = .ok (.isub, 1) := by decide +kernel
theorem dX10_payments_255 : decode cX10_payments 255 = .ok (.ireturn, 1) := by decide +kernel
def L_X10_payments_18 (C : aM → List Value → aH → aO → aH → Prop) (sc : Nat × (Nat → Int32)) (P : aO → aH → Prop) (x1 : Int) (s0 : Int) (σ : aH) : Prop :=
    wp C 10 cX10_payments 5 (some .int) false [] sc P 18 [(0, .ref 76), (1, .int (nZ x1))] [.int (nZ s0), .ref 76] σ
def L_X10_payments_44 (C : aM → List Value → aH → aO → aH → Prop) (sc : Nat × (Nat → Int32)) (P : aO → aH → Prop) (x1 : Int) (x2 : Int) (x3 : Int) (σ : aH) : Prop :=
    wp C 10 cX10_payments 5 (some .int) false [] sc P 44 [(0, .ref 76), (1, .int (nZ x1)), (2, .int (nZ x2)), (3, .int (nZ x3))] [] σ
def L_X10_payments_80 (C : aM → List Value → aH → aO → aH → Prop) (sc : Nat × (Nat → Int32)) (P : aO → aH → Prop) (x1 : Int) (x2 : Int) (x3 : Int) (σ : aH) : Prop :=
    wp C 10 cX10_payments 5 (some .int) false [] sc P 80 [(0, .ref 76), (1, .int (nZ x1)), (2, .int (nZ x2)), (3, .int (nZ x3))] [] σ
def L_X10_payments_109 (C : aM → List Value → aH → aO → aH → Prop) (sc : Nat × (Nat → Int32)) (P : aO → aH → Prop) (x1 : Int) (x2 : Int) (x3 : Int) (x4 : Int) (σ : aH) : Prop :=
    wp C 10 cX10_payments 5 (some .int) false [] sc P 109 [(0, .ref 76), (1, .int (nZ x1)), (2, .int (nZ x2)), (3, .int (nZ x3)), (4, .int (nZ x4))] [] σ
set_option maxRecDepth 10000 in
theorem t_X10_payments {sc : Nat × (Nat → Int32)} {d : Nat} {Q : aO → aH → Prop} {σ : aH} {u : Nat}  {x1 : Int} (hG : G σ u) (rx1 : inR x1)
    (h : (∀ σ1 : aH, wI σ 76 0 0 = σ1 → (∃ (r8 : Int) (σ4 : aH), Ev sc d mX10_isTill [.int (nZ x1)] σ1 (.inl (some (.int (nZ r8)))) σ4 ∧ G σ4 u ∧ inR r8 ∧ ((¬ r8 = 0 → L_X10_payments_18 (Ev sc d) sc Q x1 0 σ4) ∧ (r8 = 0 → L_X10_payments_18 (Ev sc d) sc Q x1 1 σ4))))) :
    T sc (d + 1) mX10_payments [.ref 76, .int (nZ x1)] σ Q := by
  refine T.of (c := 10) (code := cX10_payments) (mL := 5) (rt := (some .int)) (ini := false) (l := [(0, .ref 76), (1, .int (nZ x1))]) rfl rfl rfl rfl (by decide) hs_X10_payments rfl rfl ?_
  refine w_aload_n dX10_payments_0 rfl (List.Mem.head _) ?_
  refine w_iconst (v := nZ 0) dX10_payments_1 (by decide) ?_
  refine i_putI (ci := 10) 0 rfl dX10_payments_2 fl_10_106 (by decide) (gT hG rfl (lt_of rfl)) (fun σ1 eσ2 => ?_)
  replace h := h σ1 eσ2
  have hG3 : G σ1 u := eσ2 ▸ G.wI hG
  refine w_aload_n dX10_payments_5 rfl (List.Mem.head _) ?_
  refine w_iload_n dX10_payments_6 rfl (List.Mem.tail _ (List.Mem.head _)) ?_
  obtain ⟨r8, σ4, hc6, hG5, rr7, h⟩ := h
  refine w_callS dX10_payments_7 ml_10_284 ⟨ok_X10_isTill, st_X10_isTill⟩ hs_X10_isTill (As := [.int (nZ x1)]) rfl rfl (Nat.le_of_ble_eq_true rfl) hc6 ?_
  show wp (Ev sc d) 10 cX10_payments 5 (some .int) false [] sc Q 10 [(0, .ref 76), (1, .int (nZ x1))] [.int (nZ r8), .ref 76] σ4
  refine i_if_ne (tgt := 17) dX10_payments_10 rfl rr7 (fun c9 => ?_) (fun c9 => ?_)
  · replace h := h.1 c9
    refine w_iconst (v := nZ 0) dX10_payments_17 (by decide) ?_
    exact h
  · replace h := h.2 c9
    refine w_iconst (v := nZ 1) dX10_payments_13 (by decide) ?_
    refine w_goto (tgt := 18) dX10_payments_14 rfl ?_
    exact h
set_option maxRecDepth 10000 in
theorem v_X10_payments_18 {C : aM → List Value → aH → aO → aH → Prop} {sc : Nat × (Nat → Int32)} {P : aO → aH → Prop} {σ : aH} {u : Nat}  {x1 : Int} {s0 : Int} (hG : G σ u) (rx1 : inR x1) (rs0 : inR s0)
    (h : (∃ (r5 : Int) (σ1 : aH), C mX10_bad [.ref 76, .int (nZ s0), .int (nZ 1), .int (nZ 1)] σ (.inl (some (.int (nZ r5)))) σ1 ∧ G σ1 u ∧ inR r5 ∧ ((r5 = 0 → (∃ σ6 : aH, C mX10_goes [.ref 76, .int (nZ x1), .int (nZ (rI σ1 80 3)), .int (nZ 0)] σ1 (.inl none) σ6 ∧ G σ6 u ∧ L_X10_payments_44 C sc P x1 0 0 σ6)) ∧ (¬ (r5 = 0) → P (.inl (some (.int (nZ 0)))) σ1)))) :
    L_X10_payments_18 C sc P x1 s0 σ := by
  unfold L_X10_payments_18
  refine w_iconst (v := nZ 1) dX10_payments_18 (by decide) ?_
  refine w_iconst (v := nZ 1) dX10_payments_19 (by decide) ?_
  obtain ⟨r5, σ1, hc3, hG2, rr4, h⟩ := h
  refine w_callV dX10_payments_20 ml_10_196 ⟨ok_X10_bad, vi_X10_bad⟩ hs_X10_bad (As := [.int (nZ s0), .int (nZ 1), .int (nZ 1)]) rfl rfl (gT hG rfl (lt_of rfl)) (Nat.le_of_ble_eq_true rfl) hc3 ?_
  show wp C 10 cX10_payments 5 (some .int) false [] sc P 23 [(0, .ref 76), (1, .int (nZ x1))] [.int (nZ r5)] σ1
  refine i_if_eq (tgt := 28) dX10_payments_23 rfl rr4 (fun c9 => ?_) (fun c9 => ?_)
  · replace h := h.1 c9
    refine w_aload_n dX10_payments_28 rfl (List.Mem.head _) ?_
    refine w_iload_n dX10_payments_29 rfl (List.Mem.tail _ (List.Mem.head _)) ?_
    refine w_aload_n dX10_payments_30 rfl (List.Mem.head _) ?_
    refine w_getR (ci := 10) (k := 11) (b := 80) dX10_payments_31 fl_10_23 (by decide) (gT hG2 rfl (lt_of rfl)) (gR hG2 (b := 80) rfl) ?_
    refine w_iconst (v := nZ 3) dX10_payments_34 (by decide) ?_
    refine i_iald (n := 8) dX10_payments_35 (gT hG2 rfl (lt_of rfl)) (gL hG2 rfl) (by decide) (by decide) ?_
    refine w_iconst (v := nZ 0) dX10_payments_36 (by decide) ?_
    obtain ⟨σ6, hc8, hG7, h⟩ := h
    refine w_callV dX10_payments_37 ml_10_268 ⟨ok_X10_goes, vi_X10_goes⟩ hs_X10_goes (As := [.int (nZ x1), .int (nZ (rI σ1 80 3)), .int (nZ 0)]) rfl rfl (gT hG2 rfl (lt_of rfl)) (Nat.le_of_ble_eq_true rfl) hc8 ?_
    show wp C 10 cX10_payments 5 (some .int) false [] sc P 40 [(0, .ref 76), (1, .int (nZ x1))] [] σ6
    refine w_iconst (v := nZ 0) dX10_payments_40 (by decide) ?_
    refine w_istore_n (l' := [(2, .int (nZ 0)), (0, .ref 76), (1, .int (nZ x1))]) dX10_payments_41 rfl (by decide) rfl ?_
    refine w_iconst (v := nZ 0) dX10_payments_42 (by decide) ?_
    refine w_istore_n (l' := [(3, .int (nZ 0)), (2, .int (nZ 0)), (0, .ref 76), (1, .int (nZ x1))]) dX10_payments_43 rfl (by decide) rfl ?_
    exact w_weak (l' := [(0, .ref 76), (1, .int (nZ x1)), (2, .int (nZ 0)), (3, .int (nZ 0))]) (by intro q hq; simp only [List.mem_cons, List.not_mem_nil, or_false] at hq ⊢; rcases hq with rfl | rfl | rfl | rfl <;> simp) h
  · replace h := h.2 c9
    refine w_iconst (v := nZ 0) dX10_payments_26 (by decide) ?_
    exact w_iret dX10_payments_27 rfl h
set_option maxRecDepth 10000 in
theorem v_X10_payments_44 {C : aM → List Value → aH → aO → aH → Prop} {sc : Nat × (Nat → Int32)} {P : aO → aH → Prop} {σ : aH} {u : Nat}  {x1 : Int} {x2 : Int} {x3 : Int} (hG : G σ u) (rx1 : inR x1) (rx2 : inR x2) (rx3 : inR x3)
    (h : (((rI σ 80 2) ≤ x3 → L_X10_payments_80 C sc P x1 x2 0 σ) ∧ (¬ ((rI σ 80 2) ≤ x3) → (∃ (r5 : Int) (σ1 : aH), C mX10_netOf [.ref 76, .int (nZ x3)] σ (.inl (some (.int (nZ r5)))) σ1 ∧ G σ1 u ∧ inR r5 ∧ ((¬ r5 = 0 → (∀ z6 : Int, z6 = (zOr x2 (zShl 1 x3)) → (inR (x3 + 1) ∧ L_X10_payments_44 C sc P x1 z6 (x3 + 1) σ1))) ∧ (r5 = 0 → (∀ z10 : Int, z10 = (zOr x2 0) → (inR (x3 + 1) ∧ L_X10_payments_44 C sc P x1 z10 (x3 + 1) σ1)))))))) :
    L_X10_payments_44 C sc P x1 x2 x3 σ := by
  unfold L_X10_payments_44
  refine w_iload_n dX10_payments_44 rfl (List.Mem.tail _ (List.Mem.tail _ (List.Mem.tail _ (List.Mem.head _)))) ?_
  refine w_aload_n dX10_payments_45 rfl (List.Mem.head _) ?_
  refine w_getR (ci := 10) (k := 11) (b := 80) dX10_payments_46 fl_10_23 (by decide) (gT hG rfl (lt_of rfl)) (gR hG (b := 80) rfl) ?_
  refine w_iconst (v := nZ 2) dX10_payments_49 (by decide) ?_
  refine i_iald (n := 8) dX10_payments_50 (gT hG rfl (lt_of rfl)) (gL hG rfl) (by decide) (by decide) ?_
  refine i_cmp_ge (tgt := 78) dX10_payments_51 rfl rx3 (rI_R _ _ _) (fun c9 => ?_) (fun c9 => ?_)
  · replace h := h.1 c9
    refine w_iconst (v := nZ 0) dX10_payments_78 (by decide) ?_
    refine w_istore_n (l' := [(3, .int (nZ 0)), (0, .ref 76), (1, .int (nZ x1)), (2, .int (nZ x2))]) dX10_payments_79 rfl (by decide) rfl ?_
    exact w_weak (l' := [(0, .ref 76), (1, .int (nZ x1)), (2, .int (nZ x2)), (3, .int (nZ 0))]) (by intro q hq; simp only [List.mem_cons, List.not_mem_nil, or_false] at hq ⊢; rcases hq with rfl | rfl | rfl | rfl <;> simp) h
  · replace h := h.2 c9
    refine w_iload_n dX10_payments_54 rfl (List.Mem.tail _ (List.Mem.tail _ (List.Mem.head _))) ?_
    refine w_aload_n dX10_payments_55 rfl (List.Mem.head _) ?_
    refine w_iload_n dX10_payments_56 rfl (List.Mem.tail _ (List.Mem.tail _ (List.Mem.tail _ (List.Mem.head _)))) ?_
    obtain ⟨r5, σ1, hc3, hG2, rr4, h⟩ := h
    refine w_callV dX10_payments_57 ml_10_287 ⟨ok_X10_netOf, vi_X10_netOf⟩ hs_X10_netOf (As := [.int (nZ x3)]) rfl rfl (gT hG rfl (lt_of rfl)) (Nat.le_of_ble_eq_true rfl) hc3 ?_
    show wp C 10 cX10_payments 5 (some .int) false [] sc P 60 [(0, .ref 76), (1, .int (nZ x1)), (2, .int (nZ x2)), (3, .int (nZ x3))] [.int (nZ r5), .int (nZ x2)] σ1
    refine i_if_ne (tgt := 67) dX10_payments_60 rfl rr4 (fun c9 => ?_) (fun c9 => ?_)
    · replace h := h.1 c9
      refine w_iconst (v := nZ 1) dX10_payments_67 (by decide) ?_
      refine w_iload_n dX10_payments_68 rfl (List.Mem.tail _ (List.Mem.tail _ (List.Mem.tail _ (List.Mem.head _)))) ?_
      refine i_shl dX10_payments_69 ?_
      refine i_or dX10_payments_70 ?_
      refine top_i (fun z6 ez7 => ?_)
      have rz8 : inR z6 := ez7 ▸ (zOr_R _ _)
      replace h := h z6 ez7
      refine w_istore_n (l' := [(2, .int (nZ z6)), (0, .ref 76), (1, .int (nZ x1)), (3, .int (nZ x3))]) dX10_payments_71 rfl (by decide) rfl ?_
      obtain ⟨q9, h⟩ := h
      refine w_iinc (v := nZ (x3 + 1)) (l' := [(3, .int (nZ (x3 + 1))), (2, .int (nZ z6)), (0, .ref 76), (1, .int (nZ x1))]) dX10_payments_72 (List.Mem.tail _ (List.Mem.tail _ (List.Mem.tail _ (List.Mem.head _)))) (nZ_add _ _) (by decide) rfl ?_
      refine w_goto (tgt := 44) dX10_payments_75 rfl ?_
      exact w_weak (l' := [(0, .ref 76), (1, .int (nZ x1)), (2, .int (nZ z6)), (3, .int (nZ (x3 + 1)))]) (by intro q hq; simp only [List.mem_cons, List.not_mem_nil, or_false] at hq ⊢; rcases hq with rfl | rfl | rfl | rfl <;> simp) h
    · replace h := h.2 c9
      refine w_iconst (v := nZ 0) dX10_payments_63 (by decide) ?_
      refine w_goto (tgt := 70) dX10_payments_64 rfl ?_
      refine i_or dX10_payments_70 ?_
      refine top_i (fun z10 ez11 => ?_)
      have rz12 : inR z10 := ez11 ▸ (zOr_R _ _)
      replace h := h z10 ez11
      refine w_istore_n (l' := [(2, .int (nZ z10)), (0, .ref 76), (1, .int (nZ x1)), (3, .int (nZ x3))]) dX10_payments_71 rfl (by decide) rfl ?_
      obtain ⟨q13, h⟩ := h
      refine w_iinc (v := nZ (x3 + 1)) (l' := [(3, .int (nZ (x3 + 1))), (2, .int (nZ z10)), (0, .ref 76), (1, .int (nZ x1))]) dX10_payments_72 (List.Mem.tail _ (List.Mem.tail _ (List.Mem.tail _ (List.Mem.head _)))) (nZ_add _ _) (by decide) rfl ?_
      refine w_goto (tgt := 44) dX10_payments_75 rfl ?_
      exact w_weak (l' := [(0, .ref 76), (1, .int (nZ x1)), (2, .int (nZ z10)), (3, .int (nZ (x3 + 1)))]) (by intro q hq; simp only [List.mem_cons, List.not_mem_nil, or_false] at hq ⊢; rcases hq with rfl | rfl | rfl | rfl <;> simp) h
set_option maxRecDepth 10000 in
theorem v_X10_payments_80 {C : aM → List Value → aH → aO → aH → Prop} {sc : Nat × (Nat → Int32)} {P : aO → aH → Prop} {σ : aH} {u : Nat}  {x1 : Int} {x2 : Int} {x3 : Int} (hG : G σ u) (rx1 : inR x1) (rx2 : inR x2) (rx3 : inR x3)
    (h : (((zShl 1 (rI σ 80 2)) ≤ x3 → (∃ (r5 : Int) (σ1 : aH), C mX10_ones [.int (nZ x2)] σ (.inl (some (.int (nZ r5)))) σ1 ∧ G σ1 u ∧ inR r5 ∧ ((0 ≤ x2 ∧ x2 < 256) ∧ (inR (r5 - (rI σ1 314 x2)) ∧ P (.inl (some (.int (nZ (r5 - (rI σ1 314 x2)))))) σ1)))) ∧ (¬ ((zShl 1 (rI σ 80 2)) ≤ x3) → ((0 ≤ x3 ∧ x3 < 256) ∧ (∀ σ7 : aH, wI σ 315 x3 0 = σ7 → ((0 ≤ x3 ∧ x3 < 256) ∧ (∀ σ10 : aH, wI σ7 314 x3 0 = σ10 → L_X10_payments_109 C sc P x1 x2 x3 0 σ10))))))) :
    L_X10_payments_80 C sc P x1 x2 x3 σ := by
  unfold L_X10_payments_80
  refine w_iload_n dX10_payments_80 rfl (List.Mem.tail _ (List.Mem.tail _ (List.Mem.tail _ (List.Mem.head _)))) ?_
  refine w_iconst (v := nZ 1) dX10_payments_81 (by decide) ?_
  refine w_aload_n dX10_payments_82 rfl (List.Mem.head _) ?_
  refine w_getR (ci := 10) (k := 11) (b := 80) dX10_payments_83 fl_10_23 (by decide) (gT hG rfl (lt_of rfl)) (gR hG (b := 80) rfl) ?_
  refine w_iconst (v := nZ 2) dX10_payments_86 (by decide) ?_
  refine i_iald (n := 8) dX10_payments_87 (gT hG rfl (lt_of rfl)) (gL hG rfl) (by decide) (by decide) ?_
  refine i_shl dX10_payments_88 ?_
  refine i_cmp_ge (tgt := 244) dX10_payments_89 rfl rx3 (zShl_R _ _) (fun c9 => ?_) (fun c9 => ?_)
  · replace h := h.1 c9
    refine w_iload_n dX10_payments_244 rfl (List.Mem.tail _ (List.Mem.tail _ (List.Mem.head _))) ?_
    obtain ⟨r5, σ1, hc3, hG2, rr4, h⟩ := h
    refine w_callS dX10_payments_245 ml_10_265 ⟨ok_X10_ones, st_X10_ones⟩ hs_X10_ones (As := [.int (nZ x2)]) rfl rfl (Nat.le_of_ble_eq_true rfl) hc3 ?_
    show wp C 10 cX10_payments 5 (some .int) false [] sc P 248 [(0, .ref 76), (1, .int (nZ x1)), (2, .int (nZ x2)), (3, .int (nZ x3))] [.int (nZ r5)] σ1
    refine w_aload_n dX10_payments_248 rfl (List.Mem.head _) ?_
    refine w_getR (ci := 10) (k := 40) (b := 314) dX10_payments_249 fl_10_76 (by decide) (gT hG2 rfl (lt_of rfl)) (gR hG2 (b := 314) rfl) ?_
    refine w_iload_n dX10_payments_252 rfl (List.Mem.tail _ (List.Mem.tail _ (List.Mem.head _))) ?_
    obtain ⟨h9, h⟩ := h
    refine i_iald (n := 256) dX10_payments_253 (gT hG2 rfl (lt_of rfl)) (gL hG2 rfl) rx2 h9 ?_
    obtain ⟨q6, h⟩ := h
    refine i_sub dX10_payments_254 ?_
    exact w_iret dX10_payments_255 rfl h
  · replace h := h.2 c9
    refine w_aload_n dX10_payments_92 rfl (List.Mem.head _) ?_
    refine w_getR (ci := 10) (k := 41) (b := 315) dX10_payments_93 fl_10_79 (by decide) (gT hG rfl (lt_of rfl)) (gR hG (b := 315) rfl) ?_
    refine w_iload_n dX10_payments_96 rfl (List.Mem.tail _ (List.Mem.tail _ (List.Mem.tail _ (List.Mem.head _)))) ?_
    refine w_iconst (v := nZ 0) dX10_payments_97 (by decide) ?_
    obtain ⟨h9, h⟩ := h
    refine i_iast (n := 256) dX10_payments_98 (gT hG rfl (lt_of rfl)) (gL hG rfl) rx3 h9 (fun σ7 eσ8 => ?_)
    replace h := h σ7 eσ8
    have hG9 : G σ7 u := eσ8 ▸ G.wI hG
    refine w_aload_n dX10_payments_99 rfl (List.Mem.head _) ?_
    refine w_getR (ci := 10) (k := 40) (b := 314) dX10_payments_100 fl_10_76 (by decide) (gT hG9 rfl (lt_of rfl)) (gR hG9 (b := 314) rfl) ?_
    refine w_iload_n dX10_payments_103 rfl (List.Mem.tail _ (List.Mem.tail _ (List.Mem.tail _ (List.Mem.head _)))) ?_
    refine w_iconst (v := nZ 0) dX10_payments_104 (by decide) ?_
    obtain ⟨h9, h⟩ := h
    refine i_iast (n := 256) dX10_payments_105 (gT hG9 rfl (lt_of rfl)) (gL hG9 rfl) rx3 h9 (fun σ10 eσ11 => ?_)
    replace h := h σ10 eσ11
    have hG12 : G σ10 u := eσ11 ▸ G.wI hG9
    refine w_iconst (v := nZ 0) dX10_payments_106 (by decide) ?_
    refine w_istore (l' := [(4, .int (nZ 0)), (0, .ref 76), (1, .int (nZ x1)), (2, .int (nZ x2)), (3, .int (nZ x3))]) dX10_payments_107 (by decide) rfl ?_
    exact w_weak (l' := [(0, .ref 76), (1, .int (nZ x1)), (2, .int (nZ x2)), (3, .int (nZ x3)), (4, .int (nZ 0))]) (by intro q hq; simp only [List.mem_cons, List.not_mem_nil, or_false] at hq ⊢; rcases hq with rfl | rfl | rfl | rfl | rfl <;> simp) h
set_option maxRecDepth 10000 in
theorem v_X10_payments_109 {C : aM → List Value → aH → aO → aH → Prop} {sc : Nat × (Nat → Int32)} {P : aO → aH → Prop} {σ : aH} {u : Nat}  {x1 : Int} {x2 : Int} {x3 : Int} {x4 : Int} (hG : G σ u) (rx1 : inR x1) (rx2 : inR x2) (rx3 : inR x3) (rx4 : inR x4)
    (h : (((rI σ 80 2) ≤ x4 → ((0 ≤ x3 ∧ x3 < 256) ∧ ((x3 = 0 → (inR ((rI σ 314 x3) + 0) ∧ ((0 ≤ x3 ∧ x3 < 256) ∧ (∀ σ2 : aH, wI σ 314 x3 ((rI σ 314 x3) + 0) = σ2 → (inR (x3 + 1) ∧ L_X10_payments_80 C sc P x1 x2 (x3 + 1) σ2))))) ∧ (¬ (x3 = 0) → ((¬ (zAnd x3 (zXor x2 (-1))) = 0 → (inR ((rI σ 314 x3) + 0) ∧ ((0 ≤ x3 ∧ x3 < 256) ∧ (∀ σ7 : aH, wI σ 314 x3 ((rI σ 314 x3) + 0) = σ7 → (inR (x3 + 1) ∧ L_X10_payments_80 C sc P x1 x2 (x3 + 1) σ7))))) ∧ ((zAnd x3 (zXor x2 (-1))) = 0 → ((0 ≤ x3 ∧ x3 < 256) ∧ ((¬ (rI σ 315 x3) = 0 → (inR ((rI σ 314 x3) + 0) ∧ ((0 ≤ x3 ∧ x3 < 256) ∧ (∀ σ12 : aH, wI σ 314 x3 ((rI σ 314 x3) + 0) = σ12 → (inR (x3 + 1) ∧ L_X10_payments_80 C sc P x1 x2 (x3 + 1) σ12))))) ∧ ((rI σ 315 x3) = 0 → (inR ((rI σ 314 x3) + 1) ∧ ((0 ≤ x3 ∧ x3 < 256) ∧ (∀ σ17 : aH, wI σ 314 x3 ((rI σ 314 x3) + 1) = σ17 → (inR (x3 + 1) ∧ L_X10_payments_80 C sc P x1 x2 (x3 + 1) σ17))))))))))))) ∧ (¬ ((rI σ 80 2) ≤ x4) → ((¬ (zAnd (zShr x3 x4) 1) = 0 → ((0 ≤ x3 ∧ x3 < 256) ∧ (∃ (r25 : Int) (σ21 : aH), C mX10_netOf [.ref 76, .int (nZ x4)] σ (.inl (some (.int (nZ r25)))) σ21 ∧ G σ21 u ∧ inR r25 ∧ (inR ((rI σ 315 x3) + r25) ∧ ((0 ≤ x3 ∧ x3 < 256) ∧ (∀ σ27 : aH, wI σ21 315 x3 ((rI σ 315 x3) + r25) = σ27 → ((0 ≤ (zAnd x3 (zXor (zShl 1 x4) (-1))) ∧ (zAnd x3 (zXor (zShl 1 x4) (-1))) < 256) ∧ ((0 ≤ x3 ∧ x3 < 256) ∧ (((rI σ27 314 (zAnd x3 (zXor (zShl 1 x4) (-1)))) ≤ (rI σ27 314 x3) → ((0 ≤ x3 ∧ x3 < 256) ∧ ((0 ≤ x3 ∧ x3 < 256) ∧ (∀ σ30 : aH, wI σ27 314 x3 (rI σ27 314 x3) = σ30 → (inR (x4 + 1) ∧ L_X10_payments_109 C sc P x1 x2 x3 (x4 + 1) σ30))))) ∧ (¬ ((rI σ27 314 (zAnd x3 (zXor (zShl 1 x4) (-1)))) ≤ (rI σ27 314 x3)) → ((0 ≤ (zAnd x3 (zXor (zShl 1 x4) (-1))) ∧ (zAnd x3 (zXor (zShl 1 x4) (-1))) < 256) ∧ ((0 ≤ x3 ∧ x3 < 256) ∧ (∀ σ34 : aH, wI σ27 314 x3 (rI σ27 314 (zAnd x3 (zXor (zShl 1 x4) (-1)))) = σ34 → (inR (x4 + 1) ∧ L_X10_payments_109 C sc P x1 x2 x3 (x4 + 1) σ34)))))))))))))) ∧ ((zAnd (zShr x3 x4) 1) = 0 → (inR (x4 + 1) ∧ L_X10_payments_109 C sc P x1 x2 x3 (x4 + 1) σ)))))) :
    L_X10_payments_109 C sc P x1 x2 x3 x4 σ := by
  unfold L_X10_payments_109
  refine w_iload dX10_payments_109 (List.Mem.tail _ (List.Mem.tail _ (List.Mem.tail _ (List.Mem.tail _ (List.Mem.head _))))) ?_
  refine w_aload_n dX10_payments_111 rfl (List.Mem.head _) ?_
  refine w_getR (ci := 10) (k := 11) (b := 80) dX10_payments_112 fl_10_23 (by decide) (gT hG rfl (lt_of rfl)) (gR hG (b := 80) rfl) ?_
  refine w_iconst (v := nZ 2) dX10_payments_115 (by decide) ?_
  refine i_iald (n := 8) dX10_payments_116 (gT hG rfl (lt_of rfl)) (gL hG rfl) (by decide) (by decide) ?_
  refine i_cmp_ge (tgt := 203) dX10_payments_117 rfl rx4 (rI_R _ _ _) (fun c9 => ?_) (fun c9 => ?_)
  · replace h := h.1 c9
    refine w_aload_n dX10_payments_203 rfl (List.Mem.head _) ?_
    refine w_getR (ci := 10) (k := 40) (b := 314) dX10_payments_204 fl_10_76 (by decide) (gT hG rfl (lt_of rfl)) (gR hG (b := 314) rfl) ?_
    refine w_iload_n dX10_payments_207 rfl (List.Mem.tail _ (List.Mem.tail _ (List.Mem.tail _ (List.Mem.head _)))) ?_
    refine w_dup2 dX10_payments_208 rfl rfl ?_
    obtain ⟨h9, h⟩ := h
    refine i_iald (n := 256) dX10_payments_209 (gT hG rfl (lt_of rfl)) (gL hG rfl) rx3 h9 ?_
    refine w_iload_n dX10_payments_210 rfl (List.Mem.tail _ (List.Mem.tail _ (List.Mem.tail _ (List.Mem.head _)))) ?_
    refine i_if_eq (tgt := 235) dX10_payments_211 rfl rx3 (fun c9 => ?_) (fun c9 => ?_)
    · replace h := h.1 c9
      refine w_iconst (v := nZ 0) dX10_payments_235 (by decide) ?_
      obtain ⟨q1, h⟩ := h
      refine i_add dX10_payments_236 ?_
      obtain ⟨h9, h⟩ := h
      refine i_iast (n := 256) dX10_payments_237 (gT hG rfl (lt_of rfl)) (gL hG rfl) rx3 h9 (fun σ2 eσ3 => ?_)
      replace h := h σ2 eσ3
      have hG4 : G σ2 u := eσ3 ▸ G.wI hG
      obtain ⟨q5, h⟩ := h
      refine w_iinc (v := nZ (x3 + 1)) (l' := [(3, .int (nZ (x3 + 1))), (0, .ref 76), (1, .int (nZ x1)), (2, .int (nZ x2)), (4, .int (nZ x4))]) dX10_payments_238 (List.Mem.tail _ (List.Mem.tail _ (List.Mem.tail _ (List.Mem.head _)))) (nZ_add _ _) (by decide) rfl ?_
      refine w_goto (tgt := 80) dX10_payments_241 rfl ?_
      exact w_weak (l' := [(0, .ref 76), (1, .int (nZ x1)), (2, .int (nZ x2)), (3, .int (nZ (x3 + 1)))]) (by intro q hq; simp only [List.mem_cons, List.not_mem_nil, or_false] at hq ⊢; rcases hq with rfl | rfl | rfl | rfl <;> simp) h
    · replace h := h.2 c9
      refine w_iload_n dX10_payments_214 rfl (List.Mem.tail _ (List.Mem.tail _ (List.Mem.tail _ (List.Mem.head _)))) ?_
      refine w_iload_n dX10_payments_215 rfl (List.Mem.tail _ (List.Mem.tail _ (List.Mem.head _))) ?_
      refine w_iconst (v := nZ (-1)) dX10_payments_216 (by decide) ?_
      refine i_xor dX10_payments_217 ?_
      refine i_and dX10_payments_218 ?_
      refine i_if_ne (tgt := 235) dX10_payments_219 rfl (zAnd_R _ _) (fun c9 => ?_) (fun c9 => ?_)
      · replace h := h.1 c9
        refine w_iconst (v := nZ 0) dX10_payments_235 (by decide) ?_
        obtain ⟨q6, h⟩ := h
        refine i_add dX10_payments_236 ?_
        obtain ⟨h9, h⟩ := h
        refine i_iast (n := 256) dX10_payments_237 (gT hG rfl (lt_of rfl)) (gL hG rfl) rx3 h9 (fun σ7 eσ8 => ?_)
        replace h := h σ7 eσ8
        have hG9 : G σ7 u := eσ8 ▸ G.wI hG
        obtain ⟨q10, h⟩ := h
        refine w_iinc (v := nZ (x3 + 1)) (l' := [(3, .int (nZ (x3 + 1))), (0, .ref 76), (1, .int (nZ x1)), (2, .int (nZ x2)), (4, .int (nZ x4))]) dX10_payments_238 (List.Mem.tail _ (List.Mem.tail _ (List.Mem.tail _ (List.Mem.head _)))) (nZ_add _ _) (by decide) rfl ?_
        refine w_goto (tgt := 80) dX10_payments_241 rfl ?_
        exact w_weak (l' := [(0, .ref 76), (1, .int (nZ x1)), (2, .int (nZ x2)), (3, .int (nZ (x3 + 1)))]) (by intro q hq; simp only [List.mem_cons, List.not_mem_nil, or_false] at hq ⊢; rcases hq with rfl | rfl | rfl | rfl <;> simp) h
      · replace h := h.2 c9
        refine w_aload_n dX10_payments_222 rfl (List.Mem.head _) ?_
        refine w_getR (ci := 10) (k := 41) (b := 315) dX10_payments_223 fl_10_79 (by decide) (gT hG rfl (lt_of rfl)) (gR hG (b := 315) rfl) ?_
        refine w_iload_n dX10_payments_226 rfl (List.Mem.tail _ (List.Mem.tail _ (List.Mem.tail _ (List.Mem.head _)))) ?_
        obtain ⟨h9, h⟩ := h
        refine i_iald (n := 256) dX10_payments_227 (gT hG rfl (lt_of rfl)) (gL hG rfl) rx3 h9 ?_
        refine i_if_ne (tgt := 235) dX10_payments_228 rfl (rI_R _ _ _) (fun c9 => ?_) (fun c9 => ?_)
        · replace h := h.1 c9
          refine w_iconst (v := nZ 0) dX10_payments_235 (by decide) ?_
          obtain ⟨q11, h⟩ := h
          refine i_add dX10_payments_236 ?_
          obtain ⟨h9, h⟩ := h
          refine i_iast (n := 256) dX10_payments_237 (gT hG rfl (lt_of rfl)) (gL hG rfl) rx3 h9 (fun σ12 eσ13 => ?_)
          replace h := h σ12 eσ13
          have hG14 : G σ12 u := eσ13 ▸ G.wI hG
          obtain ⟨q15, h⟩ := h
          refine w_iinc (v := nZ (x3 + 1)) (l' := [(3, .int (nZ (x3 + 1))), (0, .ref 76), (1, .int (nZ x1)), (2, .int (nZ x2)), (4, .int (nZ x4))]) dX10_payments_238 (List.Mem.tail _ (List.Mem.tail _ (List.Mem.tail _ (List.Mem.head _)))) (nZ_add _ _) (by decide) rfl ?_
          refine w_goto (tgt := 80) dX10_payments_241 rfl ?_
          exact w_weak (l' := [(0, .ref 76), (1, .int (nZ x1)), (2, .int (nZ x2)), (3, .int (nZ (x3 + 1)))]) (by intro q hq; simp only [List.mem_cons, List.not_mem_nil, or_false] at hq ⊢; rcases hq with rfl | rfl | rfl | rfl <;> simp) h
        · replace h := h.2 c9
          refine w_iconst (v := nZ 1) dX10_payments_231 (by decide) ?_
          refine w_goto (tgt := 236) dX10_payments_232 rfl ?_
          obtain ⟨q16, h⟩ := h
          refine i_add dX10_payments_236 ?_
          obtain ⟨h9, h⟩ := h
          refine i_iast (n := 256) dX10_payments_237 (gT hG rfl (lt_of rfl)) (gL hG rfl) rx3 h9 (fun σ17 eσ18 => ?_)
          replace h := h σ17 eσ18
          have hG19 : G σ17 u := eσ18 ▸ G.wI hG
          obtain ⟨q20, h⟩ := h
          refine w_iinc (v := nZ (x3 + 1)) (l' := [(3, .int (nZ (x3 + 1))), (0, .ref 76), (1, .int (nZ x1)), (2, .int (nZ x2)), (4, .int (nZ x4))]) dX10_payments_238 (List.Mem.tail _ (List.Mem.tail _ (List.Mem.tail _ (List.Mem.head _)))) (nZ_add _ _) (by decide) rfl ?_
          refine w_goto (tgt := 80) dX10_payments_241 rfl ?_
          exact w_weak (l' := [(0, .ref 76), (1, .int (nZ x1)), (2, .int (nZ x2)), (3, .int (nZ (x3 + 1)))]) (by intro q hq; simp only [List.mem_cons, List.not_mem_nil, or_false] at hq ⊢; rcases hq with rfl | rfl | rfl | rfl <;> simp) h
  · replace h := h.2 c9
    refine w_iload_n dX10_payments_120 rfl (List.Mem.tail _ (List.Mem.tail _ (List.Mem.tail _ (List.Mem.head _)))) ?_
    refine w_iload dX10_payments_121 (List.Mem.tail _ (List.Mem.tail _ (List.Mem.tail _ (List.Mem.tail _ (List.Mem.head _))))) ?_
    refine i_shr dX10_payments_123 ?_
    refine w_iconst (v := nZ 1) dX10_payments_124 (by decide) ?_
    refine i_and dX10_payments_125 ?_
    refine i_if_ne (tgt := 132) dX10_payments_126 rfl (zAnd_R _ _) (fun c9 => ?_) (fun c9 => ?_)
    · replace h := h.1 c9
      refine w_aload_n dX10_payments_132 rfl (List.Mem.head _) ?_
      refine w_getR (ci := 10) (k := 41) (b := 315) dX10_payments_133 fl_10_79 (by decide) (gT hG rfl (lt_of rfl)) (gR hG (b := 315) rfl) ?_
      refine w_iload_n dX10_payments_136 rfl (List.Mem.tail _ (List.Mem.tail _ (List.Mem.tail _ (List.Mem.head _)))) ?_
      refine w_dup2 dX10_payments_137 rfl rfl ?_
      obtain ⟨h9, h⟩ := h
      refine i_iald (n := 256) dX10_payments_138 (gT hG rfl (lt_of rfl)) (gL hG rfl) rx3 h9 ?_
      refine w_aload_n dX10_payments_139 rfl (List.Mem.head _) ?_
      refine w_iload dX10_payments_140 (List.Mem.tail _ (List.Mem.tail _ (List.Mem.tail _ (List.Mem.tail _ (List.Mem.head _))))) ?_
      obtain ⟨r25, σ21, hc23, hG22, rr24, h⟩ := h
      refine w_callV dX10_payments_142 ml_10_287 ⟨ok_X10_netOf, vi_X10_netOf⟩ hs_X10_netOf (As := [.int (nZ x4)]) rfl rfl (gT hG rfl (lt_of rfl)) (Nat.le_of_ble_eq_true rfl) hc23 ?_
      show wp C 10 cX10_payments 5 (some .int) false [] sc P 145 [(0, .ref 76), (1, .int (nZ x1)), (2, .int (nZ x2)), (3, .int (nZ x3)), (4, .int (nZ x4))] [.int (nZ r25), .int (nZ (rI σ 315 x3)), .int (nZ x3), .ref 315] σ21
      obtain ⟨q26, h⟩ := h
      refine i_add dX10_payments_145 ?_
      obtain ⟨h9, h⟩ := h
      refine i_iast (n := 256) dX10_payments_146 (gT hG22 rfl (lt_of rfl)) (gL hG22 rfl) rx3 h9 (fun σ27 eσ28 => ?_)
      replace h := h σ27 eσ28
      have hG29 : G σ27 u := eσ28 ▸ G.wI hG22
      refine w_aload_n dX10_payments_147 rfl (List.Mem.head _) ?_
      refine w_getR (ci := 10) (k := 40) (b := 314) dX10_payments_148 fl_10_76 (by decide) (gT hG29 rfl (lt_of rfl)) (gR hG29 (b := 314) rfl) ?_
      refine w_iload_n dX10_payments_151 rfl (List.Mem.tail _ (List.Mem.tail _ (List.Mem.tail _ (List.Mem.head _)))) ?_
      refine w_aload_n dX10_payments_152 rfl (List.Mem.head _) ?_
      refine w_getR (ci := 10) (k := 40) (b := 314) dX10_payments_153 fl_10_76 (by decide) (gT hG29 rfl (lt_of rfl)) (gR hG29 (b := 314) rfl) ?_
      refine w_iload_n dX10_payments_156 rfl (List.Mem.tail _ (List.Mem.tail _ (List.Mem.tail _ (List.Mem.head _)))) ?_
      refine w_iconst (v := nZ 1) dX10_payments_157 (by decide) ?_
      refine w_iload dX10_payments_158 (List.Mem.tail _ (List.Mem.tail _ (List.Mem.tail _ (List.Mem.tail _ (List.Mem.head _))))) ?_
      refine i_shl dX10_payments_160 ?_
      refine w_iconst (v := nZ (-1)) dX10_payments_161 (by decide) ?_
      refine i_xor dX10_payments_162 ?_
      refine i_and dX10_payments_163 ?_
      obtain ⟨h9, h⟩ := h
      refine i_iald (n := 256) dX10_payments_164 (gT hG29 rfl (lt_of rfl)) (gL hG29 rfl) (zAnd_R _ _) h9 ?_
      refine w_aload_n dX10_payments_165 rfl (List.Mem.head _) ?_
      refine w_getR (ci := 10) (k := 40) (b := 314) dX10_payments_166 fl_10_76 (by decide) (gT hG29 rfl (lt_of rfl)) (gR hG29 (b := 314) rfl) ?_
      refine w_iload_n dX10_payments_169 rfl (List.Mem.tail _ (List.Mem.tail _ (List.Mem.tail _ (List.Mem.head _)))) ?_
      obtain ⟨h9, h⟩ := h
      refine i_iald (n := 256) dX10_payments_170 (gT hG29 rfl (lt_of rfl)) (gL hG29 rfl) rx3 h9 ?_
      refine i_cmp_le (tgt := 190) dX10_payments_171 rfl (rI_R _ _ _) (rI_R _ _ _) (fun c9 => ?_) (fun c9 => ?_)
      · replace h := h.1 c9
        refine w_aload_n dX10_payments_190 rfl (List.Mem.head _) ?_
        refine w_getR (ci := 10) (k := 40) (b := 314) dX10_payments_191 fl_10_76 (by decide) (gT hG29 rfl (lt_of rfl)) (gR hG29 (b := 314) rfl) ?_
        refine w_iload_n dX10_payments_194 rfl (List.Mem.tail _ (List.Mem.tail _ (List.Mem.tail _ (List.Mem.head _)))) ?_
        obtain ⟨h9, h⟩ := h
        refine i_iald (n := 256) dX10_payments_195 (gT hG29 rfl (lt_of rfl)) (gL hG29 rfl) rx3 h9 ?_
        obtain ⟨h9, h⟩ := h
        refine i_iast (n := 256) dX10_payments_196 (gT hG29 rfl (lt_of rfl)) (gL hG29 rfl) rx3 h9 (fun σ30 eσ31 => ?_)
        replace h := h σ30 eσ31
        have hG32 : G σ30 u := eσ31 ▸ G.wI hG29
        obtain ⟨q33, h⟩ := h
        refine w_iinc (v := nZ (x4 + 1)) (l' := [(4, .int (nZ (x4 + 1))), (0, .ref 76), (1, .int (nZ x1)), (2, .int (nZ x2)), (3, .int (nZ x3))]) dX10_payments_197 (List.Mem.tail _ (List.Mem.tail _ (List.Mem.tail _ (List.Mem.tail _ (List.Mem.head _))))) (nZ_add _ _) (by decide) rfl ?_
        refine w_goto (tgt := 109) dX10_payments_200 rfl ?_
        exact w_weak (l' := [(0, .ref 76), (1, .int (nZ x1)), (2, .int (nZ x2)), (3, .int (nZ x3)), (4, .int (nZ (x4 + 1)))]) (by intro q hq; simp only [List.mem_cons, List.not_mem_nil, or_false] at hq ⊢; rcases hq with rfl | rfl | rfl | rfl | rfl <;> simp) h
      · replace h := h.2 c9
        refine w_aload_n dX10_payments_174 rfl (List.Mem.head _) ?_
        refine w_getR (ci := 10) (k := 40) (b := 314) dX10_payments_175 fl_10_76 (by decide) (gT hG29 rfl (lt_of rfl)) (gR hG29 (b := 314) rfl) ?_
        refine w_iload_n dX10_payments_178 rfl (List.Mem.tail _ (List.Mem.tail _ (List.Mem.tail _ (List.Mem.head _)))) ?_
        refine w_iconst (v := nZ 1) dX10_payments_179 (by decide) ?_
        refine w_iload dX10_payments_180 (List.Mem.tail _ (List.Mem.tail _ (List.Mem.tail _ (List.Mem.tail _ (List.Mem.head _))))) ?_
        refine i_shl dX10_payments_182 ?_
        refine w_iconst (v := nZ (-1)) dX10_payments_183 (by decide) ?_
        refine i_xor dX10_payments_184 ?_
        refine i_and dX10_payments_185 ?_
        obtain ⟨h9, h⟩ := h
        refine i_iald (n := 256) dX10_payments_186 (gT hG29 rfl (lt_of rfl)) (gL hG29 rfl) (zAnd_R _ _) h9 ?_
        refine w_goto (tgt := 196) dX10_payments_187 rfl ?_
        obtain ⟨h9, h⟩ := h
        refine i_iast (n := 256) dX10_payments_196 (gT hG29 rfl (lt_of rfl)) (gL hG29 rfl) rx3 h9 (fun σ34 eσ35 => ?_)
        replace h := h σ34 eσ35
        have hG36 : G σ34 u := eσ35 ▸ G.wI hG29
        obtain ⟨q37, h⟩ := h
        refine w_iinc (v := nZ (x4 + 1)) (l' := [(4, .int (nZ (x4 + 1))), (0, .ref 76), (1, .int (nZ x1)), (2, .int (nZ x2)), (3, .int (nZ x3))]) dX10_payments_197 (List.Mem.tail _ (List.Mem.tail _ (List.Mem.tail _ (List.Mem.tail _ (List.Mem.head _))))) (nZ_add _ _) (by decide) rfl ?_
        refine w_goto (tgt := 109) dX10_payments_200 rfl ?_
        exact w_weak (l' := [(0, .ref 76), (1, .int (nZ x1)), (2, .int (nZ x2)), (3, .int (nZ x3)), (4, .int (nZ (x4 + 1)))]) (by intro q hq; simp only [List.mem_cons, List.not_mem_nil, or_false] at hq ⊢; rcases hq with rfl | rfl | rfl | rfl | rfl <;> simp) h
    · replace h := h.2 c9
      refine w_goto (tgt := 197) dX10_payments_129 rfl ?_
      obtain ⟨q38, h⟩ := h
      refine w_iinc (v := nZ (x4 + 1)) (l' := [(4, .int (nZ (x4 + 1))), (0, .ref 76), (1, .int (nZ x1)), (2, .int (nZ x2)), (3, .int (nZ x3))]) dX10_payments_197 (List.Mem.tail _ (List.Mem.tail _ (List.Mem.tail _ (List.Mem.tail _ (List.Mem.head _))))) (nZ_add _ _) (by decide) rfl ?_
      refine w_goto (tgt := 109) dX10_payments_200 rfl ?_
      exact w_weak (l' := [(0, .ref 76), (1, .int (nZ x1)), (2, .int (nZ x2)), (3, .int (nZ x3)), (4, .int (nZ (x4 + 1)))]) (by intro q hq; simp only [List.mem_cons, List.not_mem_nil, or_false] at hq ⊢; rcases hq with rfl | rfl | rfl | rfl | rfl <;> simp) h
theorem dX10_due_0 : decode cX10_due 0 = .ok (.aload_n 0, 1) := by decide +kernel
theorem dX10_due_1 : decode cX10_due 1 = .ok (.iconst 0, 1) := by decide +kernel
theorem dX10_due_2 : decode cX10_due 2 = .ok (.putfield 106, 3) := by decide +kernel
theorem dX10_due_5 : decode cX10_due 5 = .ok (.aload_n 0, 1) := by decide +kernel
theorem dX10_due_6 : decode cX10_due 6 = .ok (.invokevirtual 281, 3) := by decide +kernel
theorem dX10_due_9 : decode cX10_due 9 = .ok (.ireturn, 1) := by decide +kernel
set_option maxRecDepth 10000 in
theorem t_X10_due {sc : Nat × (Nat → Int32)} {d : Nat} {Q : aO → aH → Prop} {σ : aH} {u : Nat}   (hG : G σ u) 
    (h : (∀ σ1 : aH, wI σ 76 0 0 = σ1 → (∃ (r8 : Int) (σ4 : aH), Ev sc d mX10_dueNow [.ref 76] σ1 (.inl (some (.int (nZ r8)))) σ4 ∧ G σ4 u ∧ inR r8 ∧ Q (.inl (some (.int (nZ r8)))) σ4))) :
    T sc (d + 1) mX10_due [.ref 76] σ Q := by
  refine T.of (c := 10) (code := cX10_due) (mL := 1) (rt := (some .int)) (ini := false) (l := [(0, .ref 76)]) rfl rfl rfl rfl (by decide) hs_X10_due rfl rfl ?_
  refine w_aload_n dX10_due_0 rfl (List.Mem.head _) ?_
  refine w_iconst (v := nZ 0) dX10_due_1 (by decide) ?_
  refine i_putI (ci := 10) 0 rfl dX10_due_2 fl_10_106 (by decide) (gT hG rfl (lt_of rfl)) (fun σ1 eσ2 => ?_)
  replace h := h σ1 eσ2
  have hG3 : G σ1 u := eσ2 ▸ G.wI hG
  refine w_aload_n dX10_due_5 rfl (List.Mem.head _) ?_
  obtain ⟨r8, σ4, hc6, hG5, rr7, h⟩ := h
  refine w_callV dX10_due_6 ml_10_281 ⟨ok_X10_dueNow, vi_X10_dueNow⟩ hs_X10_dueNow (As := []) rfl rfl (gT hG3 rfl (lt_of rfl)) (Nat.le_of_ble_eq_true rfl) hc6 ?_
  show wp (Ev sc d) 10 cX10_due 1 (some .int) false [] sc Q 9 [(0, .ref 76)] [.int (nZ r8)] σ4
  exact w_iret dX10_due_9 rfl h
theorem dX10_first_0 : decode cX10_first 0 = .ok (.aload_n 0, 1) := by decide +kernel
theorem dX10_first_1 : decode cX10_first 1 = .ok (.iconst 0, 1) := by decide +kernel
theorem dX10_first_2 : decode cX10_first 2 = .ok (.putfield 106, 3) := by decide +kernel
theorem dX10_first_5 : decode cX10_first 5 = .ok (.aload_n 0, 1) := by decide +kernel
theorem dX10_first_6 : decode cX10_first 6 = .ok (.iload_n 1, 1) := by decide +kernel
theorem dX10_first_7 : decode cX10_first 7 = .ok (.invokestatic 272, 3) := by decide +kernel
theorem dX10_first_10 : decode cX10_first 10 = .ok (.ifCond .ne 7, 3) := by decide +kernel
theorem dX10_first_13 : decode cX10_first 13 = .ok (.iconst 1, 1) := by decide +kernel
theorem dX10_first_14 : decode cX10_first 14 = .ok (.goto 4, 3) := by decide +kernel
theorem dX10_first_17 : decode cX10_first 17 = .ok (.iconst 0, 1) := by decide +kernel
theorem dX10_first_18 : decode cX10_first 18 = .ok (.iconst 1, 1) := by decide +kernel
theorem dX10_first_19 : decode cX10_first 19 = .ok (.iconst 1, 1) := by decide +kernel
theorem dX10_first_20 : decode cX10_first 20 = .ok (.invokevirtual 196, 3) := by decide +kernel
theorem dX10_first_23 : decode cX10_first 23 = .ok (.ifCond .eq 5, 3) := by decide +kernel
theorem dX10_first_26 : decode cX10_first 26 = .ok (.iconst 0, 1) := by decide +kernel
theorem dX10_first_27 : decode cX10_first 27 = .ok (.ireturn, 1) := by decide +kernel
theorem dX10_first_28 : decode cX10_first 28 = .ok (.aload_n 0, 1) := by decide +kernel
theorem dX10_first_29 : decode cX10_first 29 = .ok (.invokevirtual 281, 3) := by decide +kernel
theorem dX10_first_32 : decode cX10_first 32 = .ok (.pop, 1) := by decide +kernel
theorem dX10_first_33 : decode cX10_first 33 = .ok (.iconst 0, 1) := by decide +kernel
theorem dX10_first_34 : decode cX10_first 34 = .ok (.istore_n 2, 1) := by decide +kernel
theorem dX10_first_35 : decode cX10_first 35 = .ok (.iload_n 2, 1) := by decide +kernel
theorem dX10_first_36 : decode cX10_first 36 = .ok (.aload_n 0, 1) := by decide +kernel
theorem dX10_first_37 : decode cX10_first 37 = .ok (.getfield 224, 3) := by decide +kernel
theorem dX10_first_40 : decode cX10_first 40 = .ok (.if_icmp .ge 110, 3) := by decide +kernel
theorem dX10_first_43 : decode cX10_first 43 = .ok (.aload_n 0, 1) := by decide +kernel
theorem dX10_first_44 : decode cX10_first 44 = .ok (.getfield 52, 3) := by decide +kernel
theorem dX10_first_47 : decode cX10_first 47 = .ok (.iload_n 2, 1) := by decide +kernel
theorem dX10_first_48 : decode cX10_first 48 = .ok (.aaload, 1) := by decide +kernel
theorem dX10_first_49 : decode cX10_first 49 = .ok (.iconst 0, 1) := by decide +kernel
theorem dX10_first_50 : decode cX10_first 50 = .ok (.iaload, 1) := by decide +kernel
theorem dX10_first_51 : decode cX10_first 51 = .ok (.iload_n 1, 1) := by decide +kernel
theorem dX10_first_52 : decode cX10_first 52 = .ok (.if_icmp .le 14, 3) := by decide +kernel
theorem dX10_first_55 : decode cX10_first 55 = .ok (.aload_n 0, 1) := by decide +kernel
theorem dX10_first_56 : decode cX10_first 56 = .ok (.getfield 52, 3) := by decide +kernel
theorem dX10_first_59 : decode cX10_first 59 = .ok (.iload_n 2, 1) := by decide +kernel
theorem dX10_first_60 : decode cX10_first 60 = .ok (.aaload, 1) := by decide +kernel
theorem dX10_first_61 : decode cX10_first 61 = .ok (.iconst 0, 1) := by decide +kernel
theorem dX10_first_62 : decode cX10_first 62 = .ok (.iaload, 1) := by decide +kernel
theorem dX10_first_63 : decode cX10_first 63 = .ok (.goto 4, 3) := by decide +kernel
theorem dX10_first_66 : decode cX10_first 66 = .ok (.iload_n 1, 1) := by decide +kernel
theorem dX10_first_67 : decode cX10_first 67 = .ok (.istore_n 3, 1) := by decide +kernel
theorem dX10_first_68 : decode cX10_first 68 = .ok (.aload_n 0, 1) := by decide +kernel
theorem dX10_first_69 : decode cX10_first 69 = .ok (.getfield 52, 3) := by decide +kernel
theorem dX10_first_72 : decode cX10_first 72 = .ok (.iload_n 2, 1) := by decide +kernel
theorem dX10_first_73 : decode cX10_first 73 = .ok (.aaload, 1) := by decide +kernel
theorem dX10_first_74 : decode cX10_first 74 = .ok (.iconst 1, 1) := by decide +kernel
theorem dX10_first_75 : decode cX10_first 75 = .ok (.iaload, 1) := by decide +kernel
theorem dX10_first_76 : decode cX10_first 76 = .ok (.iload_n 1, 1) := by decide +kernel
theorem dX10_first_77 : decode cX10_first 77 = .ok (.if_icmp .le 67, 3) := by decide +kernel
theorem dX10_first_80 : decode cX10_first 80 = .ok (.iload_n 3, 1) := by decide +kernel
theorem dX10_first_81 : decode cX10_first 81 = .ok (.aload_n 0, 1) := by decide +kernel
theorem dX10_first_82 : decode cX10_first 82 = .ok (.getfield 23, 3) := by decide +kernel
theorem dX10_first_85 : decode cX10_first 85 = .ok (.iconst 3, 1) := by decide +kernel
theorem dX10_first_86 : decode cX10_first 86 = .ok (.iaload, 1) := by decide +kernel
theorem dX10_first_87 : decode cX10_first 87 = .ok (.if_icmp .ge 57, 3) := by decide +kernel
theorem dX10_first_90 : decode cX10_first 90 = .ok (.aload_n 0, 1) := by decide +kernel
theorem dX10_first_91 : decode cX10_first 91 = .ok (.getfield 52, 3) := by decide +kernel
theorem dX10_first_94 : decode cX10_first 94 = .ok (.iload_n 2, 1) := by decide +kernel
theorem dX10_first_95 : decode cX10_first 95 = .ok (.aaload, 1) := by decide +kernel
theorem dX10_first_96 : decode cX10_first 96 = .ok (.iconst 2, 1) := by decide +kernel
theorem dX10_first_97 : decode cX10_first 97 = .ok (.iaload, 1) := by decide +kernel
theorem dX10_first_98 : decode cX10_first 98 = .ok (.iconst (-1), 1) := by decide +kernel
theorem dX10_first_99 : decode cX10_first 99 = .ok (.if_icmp .ne 6, 3) := by decide +kernel
theorem dX10_first_102 : decode cX10_first 102 = .ok (.goto 42, 3) := by decide +kernel
theorem dX10_first_105 : decode cX10_first 105 = .ok (.iconst 0, 1) := by decide +kernel
theorem dX10_first_106 : decode cX10_first 106 = .ok (.istore 4, 2) := by decide +kernel
theorem dX10_first_108 : decode cX10_first 108 = .ok (.iload 4, 2) := by decide +kernel
theorem dX10_first_110 : decode cX10_first 110 = .ok (.aload_n 0, 1) := by decide +kernel
theorem dX10_first_111 : decode cX10_first 111 = .ok (.getfield 218, 3) := by decide +kernel
theorem dX10_first_114 : decode cX10_first 114 = .ok (.if_icmp .ge 30, 3) := by decide +kernel
theorem dX10_first_117 : decode cX10_first 117 = .ok (.aload_n 0, 1) := by decide +kernel
theorem dX10_first_118 : decode cX10_first 118 = .ok (.getfield 55, 3) := by decide +kernel
theorem dX10_first_121 : decode cX10_first 121 = .ok (.aload_n 0, 1) := by decide +kernel
theorem dX10_first_122 : decode cX10_first 122 = .ok (.getfield 52, 3) := by decide +kernel
theorem dX10_first_125 : decode cX10_first 125 = .ok (.iload_n 2, 1) := by decide +kernel
theorem dX10_first_126 : decode cX10_first 126 = .ok (.aaload, 1) := by decide +kernel
theorem dX10_first_127 : decode cX10_first 127 = .ok (.iconst 2, 1) := by decide +kernel
theorem dX10_first_128 : decode cX10_first 128 = .ok (.iaload, 1) := by decide +kernel
theorem dX10_first_129 : decode cX10_first 129 = .ok (.aaload, 1) := by decide +kernel
theorem dX10_first_130 : decode cX10_first 130 = .ok (.iload 4, 2) := by decide +kernel
theorem dX10_first_132 : decode cX10_first 132 = .ok (.iaload, 1) := by decide +kernel
theorem dX10_first_133 : decode cX10_first 133 = .ok (.ifCond .eq 5, 3) := by decide +kernel
theorem dX10_first_136 : decode cX10_first 136 = .ok (.iload_n 3, 1) := by decide +kernel
theorem dX10_first_137 : decode cX10_first 137 = .ok (.ireturn, 1) := by decide +kernel
theorem dX10_first_138 : decode cX10_first 138 = .ok (.iinc 4 1, 3) := by decide +kernel
theorem dX10_first_141 : decode cX10_first 141 = .ok (.goto (-33), 3) := by decide +kernel
theorem dX10_first_144 : decode cX10_first 144 = .ok (.iinc 2 1, 3) := by decide +kernel
theorem dX10_first_147 : decode cX10_first 147 = .ok (.goto (-112), 3) := by decide +kernel
theorem dX10_first_150 : decode cX10_first 150 = .ok (.iconst (-1), 1) := by decide +kernel
theorem dX10_first_151 : decode cX10_first 151 = .ok (.ireturn, 1) := by decide +kernel
def L_X10_first_35 (C : aM → List Value → aH → aO → aH → Prop) (sc : Nat × (Nat → Int32)) (P : aO → aH → Prop) (x1 : Int) (x2 : Int) (σ : aH) : Prop :=
    wp C 10 cX10_first 5 (some .int) false [] sc P 35 [(0, .ref 76), (1, .int (nZ x1)), (2, .int (nZ x2))] [] σ
def L_X10_first_67 (C : aM → List Value → aH → aO → aH → Prop) (sc : Nat × (Nat → Int32)) (P : aO → aH → Prop) (x1 : Int) (x2 : Int) (s0 : Int) (σ : aH) : Prop :=
    wp C 10 cX10_first 5 (some .int) false [] sc P 67 [(0, .ref 76), (1, .int (nZ x1)), (2, .int (nZ x2))] [.int (nZ s0)] σ
def L_X10_first_108 (C : aM → List Value → aH → aO → aH → Prop) (sc : Nat × (Nat → Int32)) (P : aO → aH → Prop) (x1 : Int) (x2 : Int) (x3 : Int) (x4 : Int) (σ : aH) : Prop :=
    wp C 10 cX10_first 5 (some .int) false [] sc P 108 [(0, .ref 76), (1, .int (nZ x1)), (2, .int (nZ x2)), (3, .int (nZ x3)), (4, .int (nZ x4))] [] σ
set_option maxRecDepth 10000 in
theorem t_X10_first {sc : Nat × (Nat → Int32)} {d : Nat} {Q : aO → aH → Prop} {σ : aH} {u : Nat}  {x1 : Int} (hG : G σ u) (rx1 : inR x1)
    (h : (∀ σ1 : aH, wI σ 76 0 0 = σ1 → (∃ (r8 : Int) (σ4 : aH), Ev sc d mX10_isMinute [.int (nZ x1)] σ1 (.inl (some (.int (nZ r8)))) σ4 ∧ G σ4 u ∧ inR r8 ∧ ((¬ r8 = 0 → (∃ (r13 : Int) (σ9 : aH), Ev sc d mX10_bad [.ref 76, .int (nZ 0), .int (nZ 1), .int (nZ 1)] σ4 (.inl (some (.int (nZ r13)))) σ9 ∧ G σ9 u ∧ inR r13 ∧ ((r13 = 0 → (∃ (r18 : Int) (σ14 : aH), Ev sc d mX10_dueNow [.ref 76] σ9 (.inl (some (.int (nZ r18)))) σ14 ∧ G σ14 u ∧ inR r18 ∧ L_X10_first_35 (Ev sc d) sc Q x1 0 σ14)) ∧ (¬ (r13 = 0) → Q (.inl (some (.int (nZ 0)))) σ9)))) ∧ (r8 = 0 → (∃ (r23 : Int) (σ19 : aH), Ev sc d mX10_bad [.ref 76, .int (nZ 1), .int (nZ 1), .int (nZ 1)] σ4 (.inl (some (.int (nZ r23)))) σ19 ∧ G σ19 u ∧ inR r23 ∧ ((r23 = 0 → (∃ (r28 : Int) (σ24 : aH), Ev sc d mX10_dueNow [.ref 76] σ19 (.inl (some (.int (nZ r28)))) σ24 ∧ G σ24 u ∧ inR r28 ∧ L_X10_first_35 (Ev sc d) sc Q x1 0 σ24)) ∧ (¬ (r23 = 0) → Q (.inl (some (.int (nZ 0)))) σ19)))))))) :
    T sc (d + 1) mX10_first [.ref 76, .int (nZ x1)] σ Q := by
  refine T.of (c := 10) (code := cX10_first) (mL := 5) (rt := (some .int)) (ini := false) (l := [(0, .ref 76), (1, .int (nZ x1))]) rfl rfl rfl rfl (by decide) hs_X10_first rfl rfl ?_
  refine w_aload_n dX10_first_0 rfl (List.Mem.head _) ?_
  refine w_iconst (v := nZ 0) dX10_first_1 (by decide) ?_
  refine i_putI (ci := 10) 0 rfl dX10_first_2 fl_10_106 (by decide) (gT hG rfl (lt_of rfl)) (fun σ1 eσ2 => ?_)
  replace h := h σ1 eσ2
  have hG3 : G σ1 u := eσ2 ▸ G.wI hG
  refine w_aload_n dX10_first_5 rfl (List.Mem.head _) ?_
  refine w_iload_n dX10_first_6 rfl (List.Mem.tail _ (List.Mem.head _)) ?_
  obtain ⟨r8, σ4, hc6, hG5, rr7, h⟩ := h
  refine w_callS dX10_first_7 ml_10_272 ⟨ok_X10_isMinute, st_X10_isMinute⟩ hs_X10_isMinute (As := [.int (nZ x1)]) rfl rfl (Nat.le_of_ble_eq_true rfl) hc6 ?_
  show wp (Ev sc d) 10 cX10_first 5 (some .int) false [] sc Q 10 [(0, .ref 76), (1, .int (nZ x1))] [.int (nZ r8), .ref 76] σ4
  refine i_if_ne (tgt := 17) dX10_first_10 rfl rr7 (fun c9 => ?_) (fun c9 => ?_)
  · replace h := h.1 c9
    refine w_iconst (v := nZ 0) dX10_first_17 (by decide) ?_
    refine w_iconst (v := nZ 1) dX10_first_18 (by decide) ?_
    refine w_iconst (v := nZ 1) dX10_first_19 (by decide) ?_
    obtain ⟨r13, σ9, hc11, hG10, rr12, h⟩ := h
    refine w_callV dX10_first_20 ml_10_196 ⟨ok_X10_bad, vi_X10_bad⟩ hs_X10_bad (As := [.int (nZ 0), .int (nZ 1), .int (nZ 1)]) rfl rfl (gT hG5 rfl (lt_of rfl)) (Nat.le_of_ble_eq_true rfl) hc11 ?_
    show wp (Ev sc d) 10 cX10_first 5 (some .int) false [] sc Q 23 [(0, .ref 76), (1, .int (nZ x1))] [.int (nZ r13)] σ9
    refine i_if_eq (tgt := 28) dX10_first_23 rfl rr12 (fun c9 => ?_) (fun c9 => ?_)
    · replace h := h.1 c9
      refine w_aload_n dX10_first_28 rfl (List.Mem.head _) ?_
      obtain ⟨r18, σ14, hc16, hG15, rr17, h⟩ := h
      refine w_callV dX10_first_29 ml_10_281 ⟨ok_X10_dueNow, vi_X10_dueNow⟩ hs_X10_dueNow (As := []) rfl rfl (gT hG10 rfl (lt_of rfl)) (Nat.le_of_ble_eq_true rfl) hc16 ?_
      show wp (Ev sc d) 10 cX10_first 5 (some .int) false [] sc Q 32 [(0, .ref 76), (1, .int (nZ x1))] [.int (nZ r18)] σ14
      refine w_pop dX10_first_32 rfl ?_
      refine w_iconst (v := nZ 0) dX10_first_33 (by decide) ?_
      refine w_istore_n (l' := [(2, .int (nZ 0)), (0, .ref 76), (1, .int (nZ x1))]) dX10_first_34 rfl (by decide) rfl ?_
      exact w_weak (l' := [(0, .ref 76), (1, .int (nZ x1)), (2, .int (nZ 0))]) (by intro q hq; simp only [List.mem_cons, List.not_mem_nil, or_false] at hq ⊢; rcases hq with rfl | rfl | rfl <;> simp) h
    · replace h := h.2 c9
      refine w_iconst (v := nZ 0) dX10_first_26 (by decide) ?_
      exact w_iret dX10_first_27 rfl h
  · replace h := h.2 c9
    refine w_iconst (v := nZ 1) dX10_first_13 (by decide) ?_
    refine w_goto (tgt := 18) dX10_first_14 rfl ?_
    refine w_iconst (v := nZ 1) dX10_first_18 (by decide) ?_
    refine w_iconst (v := nZ 1) dX10_first_19 (by decide) ?_
    obtain ⟨r23, σ19, hc21, hG20, rr22, h⟩ := h
    refine w_callV dX10_first_20 ml_10_196 ⟨ok_X10_bad, vi_X10_bad⟩ hs_X10_bad (As := [.int (nZ 1), .int (nZ 1), .int (nZ 1)]) rfl rfl (gT hG5 rfl (lt_of rfl)) (Nat.le_of_ble_eq_true rfl) hc21 ?_
    show wp (Ev sc d) 10 cX10_first 5 (some .int) false [] sc Q 23 [(0, .ref 76), (1, .int (nZ x1))] [.int (nZ r23)] σ19
    refine i_if_eq (tgt := 28) dX10_first_23 rfl rr22 (fun c9 => ?_) (fun c9 => ?_)
    · replace h := h.1 c9
      refine w_aload_n dX10_first_28 rfl (List.Mem.head _) ?_
      obtain ⟨r28, σ24, hc26, hG25, rr27, h⟩ := h
      refine w_callV dX10_first_29 ml_10_281 ⟨ok_X10_dueNow, vi_X10_dueNow⟩ hs_X10_dueNow (As := []) rfl rfl (gT hG20 rfl (lt_of rfl)) (Nat.le_of_ble_eq_true rfl) hc26 ?_
      show wp (Ev sc d) 10 cX10_first 5 (some .int) false [] sc Q 32 [(0, .ref 76), (1, .int (nZ x1))] [.int (nZ r28)] σ24
      refine w_pop dX10_first_32 rfl ?_
      refine w_iconst (v := nZ 0) dX10_first_33 (by decide) ?_
      refine w_istore_n (l' := [(2, .int (nZ 0)), (0, .ref 76), (1, .int (nZ x1))]) dX10_first_34 rfl (by decide) rfl ?_
      exact w_weak (l' := [(0, .ref 76), (1, .int (nZ x1)), (2, .int (nZ 0))]) (by intro q hq; simp only [List.mem_cons, List.not_mem_nil, or_false] at hq ⊢; rcases hq with rfl | rfl | rfl <;> simp) h
    · replace h := h.2 c9
      refine w_iconst (v := nZ 0) dX10_first_26 (by decide) ?_
      exact w_iret dX10_first_27 rfl h
set_option maxRecDepth 10000 in
theorem v_X10_first_35 {C : aM → List Value → aH → aO → aH → Prop} {sc : Nat × (Nat → Int32)} {P : aO → aH → Prop} {σ : aH} {u : Nat}  {x1 : Int} {x2 : Int} (hG : G σ u) (rx1 : inR x1) (rx2 : inR x2)
    (h : (((rI σ 76 25) ≤ x2 → P (.inl (some (.int (nZ (-1))))) σ) ∧ (¬ ((rI σ 76 25) ≤ x2) → ((0 ≤ x2 ∧ x2 < 70) ∧ (((rI σ (190 + x2.toNat) 0) ≤ x1 → L_X10_first_67 C sc P x1 x2 x1 σ) ∧ (¬ ((rI σ (190 + x2.toNat) 0) ≤ x1) → ((0 ≤ x2 ∧ x2 < 70) ∧ L_X10_first_67 C sc P x1 x2 (rI σ (190 + x2.toNat) 0) σ))))))) :
    L_X10_first_35 C sc P x1 x2 σ := by
  unfold L_X10_first_35
  refine w_iload_n dX10_first_35 rfl (List.Mem.tail _ (List.Mem.tail _ (List.Mem.head _))) ?_
  refine w_aload_n dX10_first_36 rfl (List.Mem.head _) ?_
  refine i_getI (ci := 10) 25 rfl dX10_first_37 fl_10_224 (by decide) (gT hG rfl (lt_of rfl)) ?_
  refine i_cmp_ge (tgt := 150) dX10_first_40 rfl rx2 (rI_R _ _ _) (fun c9 => ?_) (fun c9 => ?_)
  · replace h := h.1 c9
    refine w_iconst (v := nZ (-1)) dX10_first_150 (by decide) ?_
    exact w_iret dX10_first_151 rfl h
  · replace h := h.2 c9
    refine w_aload_n dX10_first_43 rfl (List.Mem.head _) ?_
    refine w_getR (ci := 10) (k := 26) (b := 189) dX10_first_44 fl_10_52 (by decide) (gT hG rfl (lt_of rfl)) (gR hG (b := 189) rfl) ?_
    refine w_iload_n dX10_first_47 rfl (List.Mem.tail _ (List.Mem.tail _ (List.Mem.head _))) ?_
    obtain ⟨h9, h⟩ := h
    have hj1 := vin_lt2 (n := 70) h9 rfl
    refine i_aald (n := 70) (b := (190 + x2.toNat)) dX10_first_48 (gT hG rfl (lt_of rfl)) (gL hG rfl) rx2 h9 (gR hG (rr_189 hj1)) ?_
    refine w_iconst (v := nZ 0) dX10_first_49 (by decide) ?_
    refine i_iald (n := 4) dX10_first_50 (gT hG (ro_189 _ hj1).1 (by have := hj1; omega)) (gL hG (ro_189 _ hj1).2) (by decide) (by decide) ?_
    refine w_iload_n dX10_first_51 rfl (List.Mem.tail _ (List.Mem.head _)) ?_
    refine i_cmp_le (tgt := 66) dX10_first_52 rfl (rI_R _ _ _) rx1 (fun c9 => ?_) (fun c9 => ?_)
    · replace h := h.1 c9
      refine w_iload_n dX10_first_66 rfl (List.Mem.tail _ (List.Mem.head _)) ?_
      exact h
    · replace h := h.2 c9
      refine w_aload_n dX10_first_55 rfl (List.Mem.head _) ?_
      refine w_getR (ci := 10) (k := 26) (b := 189) dX10_first_56 fl_10_52 (by decide) (gT hG rfl (lt_of rfl)) (gR hG (b := 189) rfl) ?_
      refine w_iload_n dX10_first_59 rfl (List.Mem.tail _ (List.Mem.tail _ (List.Mem.head _))) ?_
      obtain ⟨h9, h⟩ := h
      have hj2 := vin_lt2 (n := 70) h9 rfl
      refine i_aald (n := 70) (b := (190 + x2.toNat)) dX10_first_60 (gT hG rfl (lt_of rfl)) (gL hG rfl) rx2 h9 (gR hG (rr_189 hj2)) ?_
      refine w_iconst (v := nZ 0) dX10_first_61 (by decide) ?_
      refine i_iald (n := 4) dX10_first_62 (gT hG (ro_189 _ hj2).1 (by have := hj2; omega)) (gL hG (ro_189 _ hj2).2) (by decide) (by decide) ?_
      refine w_goto (tgt := 67) dX10_first_63 rfl ?_
      exact h
set_option maxRecDepth 10000 in
theorem v_X10_first_67 {C : aM → List Value → aH → aO → aH → Prop} {sc : Nat × (Nat → Int32)} {P : aO → aH → Prop} {σ : aH} {u : Nat}  {x1 : Int} {x2 : Int} {s0 : Int} (hG : G σ u) (rx1 : inR x1) (rx2 : inR x2) (rs0 : inR s0)
    (h : ((0 ≤ x2 ∧ x2 < 70) ∧ (((rI σ (190 + x2.toNat) 1) ≤ x1 → (inR (x2 + 1) ∧ L_X10_first_35 C sc P x1 (x2 + 1) σ)) ∧ (¬ ((rI σ (190 + x2.toNat) 1) ≤ x1) → (((rI σ 80 3) ≤ s0 → (inR (x2 + 1) ∧ L_X10_first_35 C sc P x1 (x2 + 1) σ)) ∧ (¬ ((rI σ 80 3) ≤ s0) → ((0 ≤ x2 ∧ x2 < 70) ∧ ((¬ (rI σ (190 + x2.toNat) 2) = (-1) → L_X10_first_108 C sc P x1 x2 s0 0 σ) ∧ ((rI σ (190 + x2.toNat) 2) = (-1) → (inR (x2 + 1) ∧ L_X10_first_35 C sc P x1 (x2 + 1) σ)))))))))) :
    L_X10_first_67 C sc P x1 x2 s0 σ := by
  unfold L_X10_first_67
  refine w_istore_n (l' := [(3, .int (nZ s0)), (0, .ref 76), (1, .int (nZ x1)), (2, .int (nZ x2))]) dX10_first_67 rfl (by decide) rfl ?_
  refine w_aload_n dX10_first_68 rfl (List.Mem.tail _ (List.Mem.head _)) ?_
  refine w_getR (ci := 10) (k := 26) (b := 189) dX10_first_69 fl_10_52 (by decide) (gT hG rfl (lt_of rfl)) (gR hG (b := 189) rfl) ?_
  refine w_iload_n dX10_first_72 rfl (List.Mem.tail _ (List.Mem.tail _ (List.Mem.tail _ (List.Mem.head _)))) ?_
  obtain ⟨h9, h⟩ := h
  have hj1 := vin_lt2 (n := 70) h9 rfl
  refine i_aald (n := 70) (b := (190 + x2.toNat)) dX10_first_73 (gT hG rfl (lt_of rfl)) (gL hG rfl) rx2 h9 (gR hG (rr_189 hj1)) ?_
  refine w_iconst (v := nZ 1) dX10_first_74 (by decide) ?_
  refine i_iald (n := 4) dX10_first_75 (gT hG (ro_189 _ hj1).1 (by have := hj1; omega)) (gL hG (ro_189 _ hj1).2) (by decide) (by decide) ?_
  refine w_iload_n dX10_first_76 rfl (List.Mem.tail _ (List.Mem.tail _ (List.Mem.head _))) ?_
  refine i_cmp_le (tgt := 144) dX10_first_77 rfl (rI_R _ _ _) rx1 (fun c9 => ?_) (fun c9 => ?_)
  · replace h := h.1 c9
    obtain ⟨q2, h⟩ := h
    refine w_iinc (v := nZ (x2 + 1)) (l' := [(2, .int (nZ (x2 + 1))), (3, .int (nZ s0)), (0, .ref 76), (1, .int (nZ x1))]) dX10_first_144 (List.Mem.tail _ (List.Mem.tail _ (List.Mem.tail _ (List.Mem.head _)))) (nZ_add _ _) (by decide) rfl ?_
    refine w_goto (tgt := 35) dX10_first_147 rfl ?_
    exact w_weak (l' := [(0, .ref 76), (1, .int (nZ x1)), (2, .int (nZ (x2 + 1)))]) (by intro q hq; simp only [List.mem_cons, List.not_mem_nil, or_false] at hq ⊢; rcases hq with rfl | rfl | rfl <;> simp) h
  · replace h := h.2 c9
    refine w_iload_n dX10_first_80 rfl (List.Mem.head _) ?_
    refine w_aload_n dX10_first_81 rfl (List.Mem.tail _ (List.Mem.head _)) ?_
    refine w_getR (ci := 10) (k := 11) (b := 80) dX10_first_82 fl_10_23 (by decide) (gT hG rfl (lt_of rfl)) (gR hG (b := 80) rfl) ?_
    refine w_iconst (v := nZ 3) dX10_first_85 (by decide) ?_
    refine i_iald (n := 8) dX10_first_86 (gT hG rfl (lt_of rfl)) (gL hG rfl) (by decide) (by decide) ?_
    refine i_cmp_ge (tgt := 144) dX10_first_87 rfl rs0 (rI_R _ _ _) (fun c9 => ?_) (fun c9 => ?_)
    · replace h := h.1 c9
      obtain ⟨q3, h⟩ := h
      refine w_iinc (v := nZ (x2 + 1)) (l' := [(2, .int (nZ (x2 + 1))), (3, .int (nZ s0)), (0, .ref 76), (1, .int (nZ x1))]) dX10_first_144 (List.Mem.tail _ (List.Mem.tail _ (List.Mem.tail _ (List.Mem.head _)))) (nZ_add _ _) (by decide) rfl ?_
      refine w_goto (tgt := 35) dX10_first_147 rfl ?_
      exact w_weak (l' := [(0, .ref 76), (1, .int (nZ x1)), (2, .int (nZ (x2 + 1)))]) (by intro q hq; simp only [List.mem_cons, List.not_mem_nil, or_false] at hq ⊢; rcases hq with rfl | rfl | rfl <;> simp) h
    · replace h := h.2 c9
      refine w_aload_n dX10_first_90 rfl (List.Mem.tail _ (List.Mem.head _)) ?_
      refine w_getR (ci := 10) (k := 26) (b := 189) dX10_first_91 fl_10_52 (by decide) (gT hG rfl (lt_of rfl)) (gR hG (b := 189) rfl) ?_
      refine w_iload_n dX10_first_94 rfl (List.Mem.tail _ (List.Mem.tail _ (List.Mem.tail _ (List.Mem.head _)))) ?_
      obtain ⟨h9, h⟩ := h
      have hj4 := vin_lt2 (n := 70) h9 rfl
      refine i_aald (n := 70) (b := (190 + x2.toNat)) dX10_first_95 (gT hG rfl (lt_of rfl)) (gL hG rfl) rx2 h9 (gR hG (rr_189 hj4)) ?_
      refine w_iconst (v := nZ 2) dX10_first_96 (by decide) ?_
      refine i_iald (n := 4) dX10_first_97 (gT hG (ro_189 _ hj4).1 (by have := hj4; omega)) (gL hG (ro_189 _ hj4).2) (by decide) (by decide) ?_
      refine w_iconst (v := nZ (-1)) dX10_first_98 (by decide) ?_
      refine i_cmp_ne (tgt := 105) dX10_first_99 rfl (rI_R _ _ _) (by decide) (fun c9 => ?_) (fun c9 => ?_)
      · replace h := h.1 c9
        refine w_iconst (v := nZ 0) dX10_first_105 (by decide) ?_
        refine w_istore (l' := [(4, .int (nZ 0)), (3, .int (nZ s0)), (0, .ref 76), (1, .int (nZ x1)), (2, .int (nZ x2))]) dX10_first_106 (by decide) rfl ?_
        exact w_weak (l' := [(0, .ref 76), (1, .int (nZ x1)), (2, .int (nZ x2)), (3, .int (nZ s0)), (4, .int (nZ 0))]) (by intro q hq; simp only [List.mem_cons, List.not_mem_nil, or_false] at hq ⊢; rcases hq with rfl | rfl | rfl | rfl | rfl <;> simp) h
      · replace h := h.2 c9
        refine w_goto (tgt := 144) dX10_first_102 rfl ?_
        obtain ⟨q5, h⟩ := h
        refine w_iinc (v := nZ (x2 + 1)) (l' := [(2, .int (nZ (x2 + 1))), (3, .int (nZ s0)), (0, .ref 76), (1, .int (nZ x1))]) dX10_first_144 (List.Mem.tail _ (List.Mem.tail _ (List.Mem.tail _ (List.Mem.head _)))) (nZ_add _ _) (by decide) rfl ?_
        refine w_goto (tgt := 35) dX10_first_147 rfl ?_
        exact w_weak (l' := [(0, .ref 76), (1, .int (nZ x1)), (2, .int (nZ (x2 + 1)))]) (by intro q hq; simp only [List.mem_cons, List.not_mem_nil, or_false] at hq ⊢; rcases hq with rfl | rfl | rfl <;> simp) h
set_option maxRecDepth 10000 in
theorem v_X10_first_108 {C : aM → List Value → aH → aO → aH → Prop} {sc : Nat × (Nat → Int32)} {P : aO → aH → Prop} {σ : aH} {u : Nat}  {x1 : Int} {x2 : Int} {x3 : Int} {x4 : Int} (hG : G σ u) (rx1 : inR x1) (rx2 : inR x2) (rx3 : inR x3) (rx4 : inR x4)
    (h : (((rI σ 76 28) ≤ x4 → (inR (x2 + 1) ∧ L_X10_first_35 C sc P x1 (x2 + 1) σ)) ∧ (¬ ((rI σ 76 28) ≤ x4) → ((0 ≤ x2 ∧ x2 < 70) ∧ ((0 ≤ (rI σ (190 + x2.toNat) 2) ∧ (rI σ (190 + x2.toNat) 2) < 20) ∧ ((0 ≤ x4 ∧ x4 < 9) ∧ (((rI σ (261 + ((rI σ (190 + x2.toNat) 2).toNat)) x4) = 0 → (inR (x4 + 1) ∧ L_X10_first_108 C sc P x1 x2 x3 (x4 + 1) σ)) ∧ (¬ ((rI σ (261 + ((rI σ (190 + x2.toNat) 2).toNat)) x4) = 0) → P (.inl (some (.int (nZ x3)))) σ)))))))) :
    L_X10_first_108 C sc P x1 x2 x3 x4 σ := by
  unfold L_X10_first_108
  refine w_iload dX10_first_108 (List.Mem.tail _ (List.Mem.tail _ (List.Mem.tail _ (List.Mem.tail _ (List.Mem.head _))))) ?_
  refine w_aload_n dX10_first_110 rfl (List.Mem.head _) ?_
  refine i_getI (ci := 10) 28 rfl dX10_first_111 fl_10_218 (by decide) (gT hG rfl (lt_of rfl)) ?_
  refine i_cmp_ge (tgt := 144) dX10_first_114 rfl rx4 (rI_R _ _ _) (fun c9 => ?_) (fun c9 => ?_)
  · replace h := h.1 c9
    obtain ⟨q1, h⟩ := h
    refine w_iinc (v := nZ (x2 + 1)) (l' := [(2, .int (nZ (x2 + 1))), (0, .ref 76), (1, .int (nZ x1)), (3, .int (nZ x3)), (4, .int (nZ x4))]) dX10_first_144 (List.Mem.tail _ (List.Mem.tail _ (List.Mem.head _))) (nZ_add _ _) (by decide) rfl ?_
    refine w_goto (tgt := 35) dX10_first_147 rfl ?_
    exact w_weak (l' := [(0, .ref 76), (1, .int (nZ x1)), (2, .int (nZ (x2 + 1)))]) (by intro q hq; simp only [List.mem_cons, List.not_mem_nil, or_false] at hq ⊢; rcases hq with rfl | rfl | rfl <;> simp) h
  · replace h := h.2 c9
    refine w_aload_n dX10_first_117 rfl (List.Mem.head _) ?_
    refine w_getR (ci := 10) (k := 29) (b := 260) dX10_first_118 fl_10_55 (by decide) (gT hG rfl (lt_of rfl)) (gR hG (b := 260) rfl) ?_
    refine w_aload_n dX10_first_121 rfl (List.Mem.head _) ?_
    refine w_getR (ci := 10) (k := 26) (b := 189) dX10_first_122 fl_10_52 (by decide) (gT hG rfl (lt_of rfl)) (gR hG (b := 189) rfl) ?_
    refine w_iload_n dX10_first_125 rfl (List.Mem.tail _ (List.Mem.tail _ (List.Mem.head _))) ?_
    obtain ⟨h9, h⟩ := h
    have hj2 := vin_lt2 (n := 70) h9 rfl
    refine i_aald (n := 70) (b := (190 + x2.toNat)) dX10_first_126 (gT hG rfl (lt_of rfl)) (gL hG rfl) rx2 h9 (gR hG (rr_189 hj2)) ?_
    refine w_iconst (v := nZ 2) dX10_first_127 (by decide) ?_
    refine i_iald (n := 4) dX10_first_128 (gT hG (ro_189 _ hj2).1 (by have := hj2; omega)) (gL hG (ro_189 _ hj2).2) (by decide) (by decide) ?_
    obtain ⟨h9, h⟩ := h
    have hj3 := vin_lt2 (n := 20) h9 rfl
    refine i_aald (n := 20) (b := (261 + ((rI σ (190 + x2.toNat) 2).toNat))) dX10_first_129 (gT hG rfl (lt_of rfl)) (gL hG rfl) (rI_R _ _ _) h9 (gR hG (rr_260 hj3)) ?_
    refine w_iload dX10_first_130 (List.Mem.tail _ (List.Mem.tail _ (List.Mem.tail _ (List.Mem.tail _ (List.Mem.head _))))) ?_
    obtain ⟨h9, h⟩ := h
    refine i_iald (n := 9) dX10_first_132 (gT hG (ro_260 _ hj3).1 (by have := hj3; omega)) (gL hG (ro_260 _ hj3).2) rx4 h9 ?_
    refine i_if_eq (tgt := 138) dX10_first_133 rfl (rI_R _ _ _) (fun c9 => ?_) (fun c9 => ?_)
    · replace h := h.1 c9
      obtain ⟨q4, h⟩ := h
      refine w_iinc (v := nZ (x4 + 1)) (l' := [(4, .int (nZ (x4 + 1))), (0, .ref 76), (1, .int (nZ x1)), (2, .int (nZ x2)), (3, .int (nZ x3))]) dX10_first_138 (List.Mem.tail _ (List.Mem.tail _ (List.Mem.tail _ (List.Mem.tail _ (List.Mem.head _))))) (nZ_add _ _) (by decide) rfl ?_
      refine w_goto (tgt := 108) dX10_first_141 rfl ?_
      exact w_weak (l' := [(0, .ref 76), (1, .int (nZ x1)), (2, .int (nZ x2)), (3, .int (nZ x3)), (4, .int (nZ (x4 + 1)))]) (by intro q hq; simp only [List.mem_cons, List.not_mem_nil, or_false] at hq ⊢; rcases hq with rfl | rfl | rfl | rfl | rfl <;> simp) h
    · replace h := h.2 c9
      refine w_iload_n dX10_first_136 rfl (List.Mem.tail _ (List.Mem.tail _ (List.Mem.tail _ (List.Mem.head _)))) ?_
      exact w_iret dX10_first_137 rfl h
theorem dX10_winter_0 : decode cX10_winter 0 = .ok (.aload_n 0, 1) := by decide +kernel
theorem dX10_winter_1 : decode cX10_winter 1 = .ok (.iconst 0, 1) := by decide +kernel
theorem dX10_winter_2 : decode cX10_winter 2 = .ok (.putfield 106, 3) := by decide +kernel
theorem dX10_winter_5 : decode cX10_winter 5 = .ok (.aload_n 0, 1) := by decide +kernel
theorem dX10_winter_6 : decode cX10_winter 6 = .ok (.iload_n 1, 1) := by decide +kernel
theorem dX10_winter_7 : decode cX10_winter 7 = .ok (.iconst 0, 1) := by decide +kernel
theorem dX10_winter_8 : decode cX10_winter 8 = .ok (.iconst 1, 1) := by decide +kernel
theorem dX10_winter_9 : decode cX10_winter 9 = .ok (.invokestatic 140, 3) := by decide +kernel
theorem dX10_winter_12 : decode cX10_winter 12 = .ok (.ifCond .ne 7, 3) := by decide +kernel
theorem dX10_winter_15 : decode cX10_winter 15 = .ok (.iconst 1, 1) := by decide +kernel
theorem dX10_winter_16 : decode cX10_winter 16 = .ok (.goto 4, 3) := by decide +kernel
theorem dX10_winter_19 : decode cX10_winter 19 = .ok (.iconst 0, 1) := by decide +kernel
theorem dX10_winter_20 : decode cX10_winter 20 = .ok (.iconst 1, 1) := by decide +kernel
theorem dX10_winter_21 : decode cX10_winter 21 = .ok (.iconst 1, 1) := by decide +kernel
theorem dX10_winter_22 : decode cX10_winter 22 = .ok (.invokevirtual 196, 3) := by decide +kernel
theorem dX10_winter_25 : decode cX10_winter 25 = .ok (.ifCond .eq 5, 3) := by decide +kernel
theorem dX10_winter_28 : decode cX10_winter 28 = .ok (.iconst 0, 1) := by decide +kernel
theorem dX10_winter_29 : decode cX10_winter 29 = .ok (.ireturn, 1) := by decide +kernel
theorem dX10_winter_30 : decode cX10_winter 30 = .ok (.aload_n 0, 1) := by decide +kernel
theorem dX10_winter_31 : decode cX10_winter 31 = .ok (.getfield 206, 3) := by decide +kernel
theorem dX10_winter_34 : decode cX10_winter 34 = .ok (.istore_n 2, 1) := by decide +kernel
theorem dX10_winter_35 : decode cX10_winter 35 = .ok (.aload_n 0, 1) := by decide +kernel
theorem dX10_winter_36 : decode cX10_winter 36 = .ok (.iload_n 1, 1) := by decide +kernel
theorem dX10_winter_37 : decode cX10_winter 37 = .ok (.putfield 206, 3) := by decide +kernel
theorem dX10_winter_40 : decode cX10_winter 40 = .ok (.iload_n 2, 1) := by decide +kernel
theorem dX10_winter_41 : decode cX10_winter 41 = .ok (.ireturn, 1) := by decide +kernel
set_option maxRecDepth 10000 in
theorem t_X10_winter {sc : Nat × (Nat → Int32)} {d : Nat} {Q : aO → aH → Prop} {σ : aH} {u : Nat}  {x1 : Int} (hG : G σ u) (rx1 : inR x1)
    (h : (∀ σ1 : aH, wI σ 76 0 0 = σ1 → (∃ (r8 : Int) (σ4 : aH), Ev sc d mX10_in [.int (nZ x1), .int (nZ 0), .int (nZ 1)] σ1 (.inl (some (.int (nZ r8)))) σ4 ∧ G σ4 u ∧ inR r8 ∧ ((¬ r8 = 0 → (∃ (r13 : Int) (σ9 : aH), Ev sc d mX10_bad [.ref 76, .int (nZ 0), .int (nZ 1), .int (nZ 1)] σ4 (.inl (some (.int (nZ r13)))) σ9 ∧ G σ9 u ∧ inR r13 ∧ ((r13 = 0 → (∀ z14 : Int, z14 = (rI σ9 76 19) → (∀ σ17 : aH, wI σ9 76 19 x1 = σ17 → Q (.inl (some (.int (nZ z14)))) σ17))) ∧ (¬ (r13 = 0) → Q (.inl (some (.int (nZ 0)))) σ9)))) ∧ (r8 = 0 → (∃ (r24 : Int) (σ20 : aH), Ev sc d mX10_bad [.ref 76, .int (nZ 1), .int (nZ 1), .int (nZ 1)] σ4 (.inl (some (.int (nZ r24)))) σ20 ∧ G σ20 u ∧ inR r24 ∧ ((r24 = 0 → (∀ z25 : Int, z25 = (rI σ20 76 19) → (∀ σ28 : aH, wI σ20 76 19 x1 = σ28 → Q (.inl (some (.int (nZ z25)))) σ28))) ∧ (¬ (r24 = 0) → Q (.inl (some (.int (nZ 0)))) σ20)))))))) :
    T sc (d + 1) mX10_winter [.ref 76, .int (nZ x1)] σ Q := by
  refine T.of (c := 10) (code := cX10_winter) (mL := 3) (rt := (some .int)) (ini := false) (l := [(0, .ref 76), (1, .int (nZ x1))]) rfl rfl rfl rfl (by decide) hs_X10_winter rfl rfl ?_
  refine w_aload_n dX10_winter_0 rfl (List.Mem.head _) ?_
  refine w_iconst (v := nZ 0) dX10_winter_1 (by decide) ?_
  refine i_putI (ci := 10) 0 rfl dX10_winter_2 fl_10_106 (by decide) (gT hG rfl (lt_of rfl)) (fun σ1 eσ2 => ?_)
  replace h := h σ1 eσ2
  have hG3 : G σ1 u := eσ2 ▸ G.wI hG
  refine w_aload_n dX10_winter_5 rfl (List.Mem.head _) ?_
  refine w_iload_n dX10_winter_6 rfl (List.Mem.tail _ (List.Mem.head _)) ?_
  refine w_iconst (v := nZ 0) dX10_winter_7 (by decide) ?_
  refine w_iconst (v := nZ 1) dX10_winter_8 (by decide) ?_
  obtain ⟨r8, σ4, hc6, hG5, rr7, h⟩ := h
  refine w_callS dX10_winter_9 ml_10_140 ⟨ok_X10_in, st_X10_in⟩ hs_X10_in (As := [.int (nZ x1), .int (nZ 0), .int (nZ 1)]) rfl rfl (Nat.le_of_ble_eq_true rfl) hc6 ?_
  show wp (Ev sc d) 10 cX10_winter 3 (some .int) false [] sc Q 12 [(0, .ref 76), (1, .int (nZ x1))] [.int (nZ r8), .ref 76] σ4
  refine i_if_ne (tgt := 19) dX10_winter_12 rfl rr7 (fun c9 => ?_) (fun c9 => ?_)
  · replace h := h.1 c9
    refine w_iconst (v := nZ 0) dX10_winter_19 (by decide) ?_
    refine w_iconst (v := nZ 1) dX10_winter_20 (by decide) ?_
    refine w_iconst (v := nZ 1) dX10_winter_21 (by decide) ?_
    obtain ⟨r13, σ9, hc11, hG10, rr12, h⟩ := h
    refine w_callV dX10_winter_22 ml_10_196 ⟨ok_X10_bad, vi_X10_bad⟩ hs_X10_bad (As := [.int (nZ 0), .int (nZ 1), .int (nZ 1)]) rfl rfl (gT hG5 rfl (lt_of rfl)) (Nat.le_of_ble_eq_true rfl) hc11 ?_
    show wp (Ev sc d) 10 cX10_winter 3 (some .int) false [] sc Q 25 [(0, .ref 76), (1, .int (nZ x1))] [.int (nZ r13)] σ9
    refine i_if_eq (tgt := 30) dX10_winter_25 rfl rr12 (fun c9 => ?_) (fun c9 => ?_)
    · replace h := h.1 c9
      refine w_aload_n dX10_winter_30 rfl (List.Mem.head _) ?_
      refine i_getI (ci := 10) 19 rfl dX10_winter_31 fl_10_206 (by decide) (gT hG10 rfl (lt_of rfl)) ?_
      refine top_i (fun z14 ez15 => ?_)
      have rz16 : inR z14 := ez15 ▸ (rI_R _ _ _)
      replace h := h z14 ez15
      refine w_istore_n (l' := [(2, .int (nZ z14)), (0, .ref 76), (1, .int (nZ x1))]) dX10_winter_34 rfl (by decide) rfl ?_
      refine w_aload_n dX10_winter_35 rfl (List.Mem.tail _ (List.Mem.head _)) ?_
      refine w_iload_n dX10_winter_36 rfl (List.Mem.tail _ (List.Mem.tail _ (List.Mem.head _))) ?_
      refine i_putI (ci := 10) 19 rfl dX10_winter_37 fl_10_206 (by decide) (gT hG10 rfl (lt_of rfl)) (fun σ17 eσ18 => ?_)
      replace h := h σ17 eσ18
      have hG19 : G σ17 u := eσ18 ▸ G.wI hG10
      refine w_iload_n dX10_winter_40 rfl (List.Mem.head _) ?_
      exact w_iret dX10_winter_41 rfl h
    · replace h := h.2 c9
      refine w_iconst (v := nZ 0) dX10_winter_28 (by decide) ?_
      exact w_iret dX10_winter_29 rfl h
  · replace h := h.2 c9
    refine w_iconst (v := nZ 1) dX10_winter_15 (by decide) ?_
    refine w_goto (tgt := 20) dX10_winter_16 rfl ?_
    refine w_iconst (v := nZ 1) dX10_winter_20 (by decide) ?_
    refine w_iconst (v := nZ 1) dX10_winter_21 (by decide) ?_
    obtain ⟨r24, σ20, hc22, hG21, rr23, h⟩ := h
    refine w_callV dX10_winter_22 ml_10_196 ⟨ok_X10_bad, vi_X10_bad⟩ hs_X10_bad (As := [.int (nZ 1), .int (nZ 1), .int (nZ 1)]) rfl rfl (gT hG5 rfl (lt_of rfl)) (Nat.le_of_ble_eq_true rfl) hc22 ?_
    show wp (Ev sc d) 10 cX10_winter 3 (some .int) false [] sc Q 25 [(0, .ref 76), (1, .int (nZ x1))] [.int (nZ r24)] σ20
    refine i_if_eq (tgt := 30) dX10_winter_25 rfl rr23 (fun c9 => ?_) (fun c9 => ?_)
    · replace h := h.1 c9
      refine w_aload_n dX10_winter_30 rfl (List.Mem.head _) ?_
      refine i_getI (ci := 10) 19 rfl dX10_winter_31 fl_10_206 (by decide) (gT hG21 rfl (lt_of rfl)) ?_
      refine top_i (fun z25 ez26 => ?_)
      have rz27 : inR z25 := ez26 ▸ (rI_R _ _ _)
      replace h := h z25 ez26
      refine w_istore_n (l' := [(2, .int (nZ z25)), (0, .ref 76), (1, .int (nZ x1))]) dX10_winter_34 rfl (by decide) rfl ?_
      refine w_aload_n dX10_winter_35 rfl (List.Mem.tail _ (List.Mem.head _)) ?_
      refine w_iload_n dX10_winter_36 rfl (List.Mem.tail _ (List.Mem.tail _ (List.Mem.head _))) ?_
      refine i_putI (ci := 10) 19 rfl dX10_winter_37 fl_10_206 (by decide) (gT hG21 rfl (lt_of rfl)) (fun σ28 eσ29 => ?_)
      replace h := h σ28 eσ29
      have hG30 : G σ28 u := eσ29 ▸ G.wI hG21
      refine w_iload_n dX10_winter_40 rfl (List.Mem.head _) ?_
      exact w_iret dX10_winter_41 rfl h
    · replace h := h.2 c9
      refine w_iconst (v := nZ 0) dX10_winter_28 (by decide) ?_
      exact w_iret dX10_winter_29 rfl h
theorem dX10_move_0 : decode cX10_move 0 = .ok (.aload_n 0, 1) := by decide +kernel
theorem dX10_move_1 : decode cX10_move 1 = .ok (.iconst 0, 1) := by decide +kernel
theorem dX10_move_2 : decode cX10_move 2 = .ok (.putfield 106, 3) := by decide +kernel
theorem dX10_move_5 : decode cX10_move 5 = .ok (.aload_n 0, 1) := by decide +kernel
theorem dX10_move_6 : decode cX10_move 6 = .ok (.aload_n 0, 1) := by decide +kernel
theorem dX10_move_7 : decode cX10_move 7 = .ok (.iload_n 1, 1) := by decide +kernel
theorem dX10_move_8 : decode cX10_move 8 = .ok (.invokevirtual 236, 3) := by decide +kernel
theorem dX10_move_11 : decode cX10_move 11 = .ok (.ifCond .ne 7, 3) := by decide +kernel
theorem dX10_move_14 : decode cX10_move 14 = .ok (.iconst 1, 1) := by decide +kernel
theorem dX10_move_15 : decode cX10_move 15 = .ok (.goto 4, 3) := by decide +kernel
theorem dX10_move_18 : decode cX10_move 18 = .ok (.iconst 0, 1) := by decide +kernel
theorem dX10_move_19 : decode cX10_move 19 = .ok (.iconst 1, 1) := by decide +kernel
theorem dX10_move_20 : decode cX10_move 20 = .ok (.iconst 0, 1) := by decide +kernel
theorem dX10_move_21 : decode cX10_move 21 = .ok (.invokevirtual 196, 3) := by decide +kernel
theorem dX10_move_24 : decode cX10_move 24 = .ok (.ifCond .ne 49, 3) := by decide +kernel
theorem dX10_move_27 : decode cX10_move 27 = .ok (.aload_n 0, 1) := by decide +kernel
theorem dX10_move_28 : decode cX10_move 28 = .ok (.iload_n 2, 1) := by decide +kernel
theorem dX10_move_29 : decode cX10_move 29 = .ok (.iconst 0, 1) := by decide +kernel
theorem dX10_move_30 : decode cX10_move 30 = .ok (.aload_n 0, 1) := by decide +kernel
theorem dX10_move_31 : decode cX10_move 31 = .ok (.getfield 23, 3) := by decide +kernel
theorem dX10_move_34 : decode cX10_move 34 = .ok (.iconst 0, 1) := by decide +kernel
theorem dX10_move_35 : decode cX10_move 35 = .ok (.iaload, 1) := by decide +kernel
theorem dX10_move_36 : decode cX10_move 36 = .ok (.iconst 1, 1) := by decide +kernel
theorem dX10_move_37 : decode cX10_move 37 = .ok (.isub, 1) := by decide +kernel
theorem dX10_move_38 : decode cX10_move 38 = .ok (.invokestatic 140, 3) := by decide +kernel
theorem dX10_move_41 : decode cX10_move 41 = .ok (.ifCond .eq 19, 3) := by decide +kernel
theorem dX10_move_44 : decode cX10_move 44 = .ok (.iload_n 3, 1) := by decide +kernel
theorem dX10_move_45 : decode cX10_move 45 = .ok (.iconst 0, 1) := by decide +kernel
theorem dX10_move_46 : decode cX10_move 46 = .ok (.aload_n 0, 1) := by decide +kernel
theorem dX10_move_47 : decode cX10_move 47 = .ok (.getfield 23, 3) := by decide +kernel
theorem dX10_move_50 : decode cX10_move 50 = .ok (.iconst 1, 1) := by decide +kernel
theorem dX10_move_51 : decode cX10_move 51 = .ok (.iaload, 1) := by decide +kernel
theorem dX10_move_52 : decode cX10_move 52 = .ok (.iconst 1, 1) := by decide +kernel
theorem dX10_move_53 : decode cX10_move 53 = .ok (.isub, 1) := by decide +kernel
theorem dX10_move_54 : decode cX10_move 54 = .ok (.invokestatic 140, 3) := by decide +kernel
theorem dX10_move_57 : decode cX10_move 57 = .ok (.ifCond .ne 7, 3) := by decide +kernel
theorem dX10_move_60 : decode cX10_move 60 = .ok (.iconst 1, 1) := by decide +kernel
theorem dX10_move_61 : decode cX10_move 61 = .ok (.goto 4, 3) := by decide +kernel
theorem dX10_move_64 : decode cX10_move 64 = .ok (.iconst 0, 1) := by decide +kernel
theorem dX10_move_65 : decode cX10_move 65 = .ok (.iconst 2, 1) := by decide +kernel
theorem dX10_move_66 : decode cX10_move 66 = .ok (.iconst 1, 1) := by decide +kernel
theorem dX10_move_67 : decode cX10_move 67 = .ok (.invokevirtual 196, 3) := by decide +kernel
theorem dX10_move_70 : decode cX10_move 70 = .ok (.ifCond .eq 5, 3) := by decide +kernel
theorem dX10_move_73 : decode cX10_move 73 = .ok (.iconst 0, 1) := by decide +kernel
theorem dX10_move_74 : decode cX10_move 74 = .ok (.ireturn, 1) := by decide +kernel
theorem dX10_move_75 : decode cX10_move 75 = .ok (.aload_n 0, 1) := by decide +kernel
theorem dX10_move_76 : decode cX10_move 76 = .ok (.iload_n 2, 1) := by decide +kernel
theorem dX10_move_77 : decode cX10_move 77 = .ok (.iload_n 3, 1) := by decide +kernel
theorem dX10_move_78 : decode cX10_move 78 = .ok (.invokevirtual 245, 3) := by decide +kernel
theorem dX10_move_81 : decode cX10_move 81 = .ok (.iconst (-1), 1) := by decide +kernel
theorem dX10_move_82 : decode cX10_move 82 = .ok (.if_icmp .eq 5, 3) := by decide +kernel
theorem dX10_move_85 : decode cX10_move 85 = .ok (.iconst 0, 1) := by decide +kernel
theorem dX10_move_86 : decode cX10_move 86 = .ok (.ireturn, 1) := by decide +kernel
theorem dX10_move_87 : decode cX10_move 87 = .ok (.aload_n 0, 1) := by decide +kernel
theorem dX10_move_88 : decode cX10_move 88 = .ok (.getfield 31, 3) := by decide +kernel
theorem dX10_move_91 : decode cX10_move 91 = .ok (.iload_n 1, 1) := by decide +kernel
theorem dX10_move_92 : decode cX10_move 92 = .ok (.aaload, 1) := by decide +kernel
theorem dX10_move_93 : decode cX10_move 93 = .ok (.iconst 0, 1) := by decide +kernel
theorem dX10_move_94 : decode cX10_move 94 = .ok (.iload_n 2, 1) := by decide +kernel
theorem dX10_move_95 : decode cX10_move 95 = .ok (.iastore, 1) := by decide +kernel
theorem dX10_move_96 : decode cX10_move 96 = .ok (.aload_n 0, 1) := by decide +kernel
theorem dX10_move_97 : decode cX10_move 97 = .ok (.getfield 31, 3) := by decide +kernel
theorem dX10_move_100 : decode cX10_move 100 = .ok (.iload_n 1, 1) := by decide +kernel
theorem dX10_move_101 : decode cX10_move 101 = .ok (.aaload, 1) := by decide +kernel
theorem dX10_move_102 : decode cX10_move 102 = .ok (.iconst 1, 1) := by decide +kernel
theorem dX10_move_103 : decode cX10_move 103 = .ok (.iload_n 3, 1) := by decide +kernel
theorem dX10_move_104 : decode cX10_move 104 = .ok (.iastore, 1) := by decide +kernel
theorem dX10_move_105 : decode cX10_move 105 = .ok (.iconst 1, 1) := by decide +kernel
theorem dX10_move_106 : decode cX10_move 106 = .ok (.ireturn, 1) := by decide +kernel
def L_X10_move_19 (C : aM → List Value → aH → aO → aH → Prop) (sc : Nat × (Nat → Int32)) (P : aO → aH → Prop) (x1 : Int) (x2 : Int) (x3 : Int) (s0 : Int) (σ : aH) : Prop :=
    wp C 10 cX10_move 4 (some .int) false [] sc P 19 [(0, .ref 76), (1, .int (nZ x1)), (2, .int (nZ x2)), (3, .int (nZ x3))] [.int (nZ s0), .ref 76] σ
def L_X10_move_65 (C : aM → List Value → aH → aO → aH → Prop) (sc : Nat × (Nat → Int32)) (P : aO → aH → Prop) (x1 : Int) (x2 : Int) (x3 : Int) (s0 : Int) (σ : aH) : Prop :=
    wp C 10 cX10_move 4 (some .int) false [] sc P 65 [(0, .ref 76), (1, .int (nZ x1)), (2, .int (nZ x2)), (3, .int (nZ x3))] [.int (nZ s0), .ref 76] σ
set_option maxRecDepth 10000 in
theorem t_X10_move {sc : Nat × (Nat → Int32)} {d : Nat} {Q : aO → aH → Prop} {σ : aH} {u : Nat}  {x1 : Int} {x2 : Int} {x3 : Int} (hG : G σ u) (rx1 : inR x1) (rx2 : inR x2) (rx3 : inR x3)
    (h : (∀ σ1 : aH, wI σ 76 0 0 = σ1 → (∃ (r8 : Int) (σ4 : aH), Ev sc d mX10_isStall [.ref 76, .int (nZ x1)] σ1 (.inl (some (.int (nZ r8)))) σ4 ∧ G σ4 u ∧ inR r8 ∧ ((¬ r8 = 0 → L_X10_move_19 (Ev sc d) sc Q x1 x2 x3 0 σ4) ∧ (r8 = 0 → L_X10_move_19 (Ev sc d) sc Q x1 x2 x3 1 σ4))))) :
    T sc (d + 1) mX10_move [.ref 76, .int (nZ x1), .int (nZ x2), .int (nZ x3)] σ Q := by
  refine T.of (c := 10) (code := cX10_move) (mL := 4) (rt := (some .int)) (ini := false) (l := [(0, .ref 76), (1, .int (nZ x1)), (2, .int (nZ x2)), (3, .int (nZ x3))]) rfl rfl rfl rfl (by decide) hs_X10_move rfl rfl ?_
  refine w_aload_n dX10_move_0 rfl (List.Mem.head _) ?_
  refine w_iconst (v := nZ 0) dX10_move_1 (by decide) ?_
  refine i_putI (ci := 10) 0 rfl dX10_move_2 fl_10_106 (by decide) (gT hG rfl (lt_of rfl)) (fun σ1 eσ2 => ?_)
  replace h := h σ1 eσ2
  have hG3 : G σ1 u := eσ2 ▸ G.wI hG
  refine w_aload_n dX10_move_5 rfl (List.Mem.head _) ?_
  refine w_aload_n dX10_move_6 rfl (List.Mem.head _) ?_
  refine w_iload_n dX10_move_7 rfl (List.Mem.tail _ (List.Mem.head _)) ?_
  obtain ⟨r8, σ4, hc6, hG5, rr7, h⟩ := h
  refine w_callV dX10_move_8 ml_10_236 ⟨ok_X10_isStall, vi_X10_isStall⟩ hs_X10_isStall (As := [.int (nZ x1)]) rfl rfl (gT hG3 rfl (lt_of rfl)) (Nat.le_of_ble_eq_true rfl) hc6 ?_
  show wp (Ev sc d) 10 cX10_move 4 (some .int) false [] sc Q 11 [(0, .ref 76), (1, .int (nZ x1)), (2, .int (nZ x2)), (3, .int (nZ x3))] [.int (nZ r8), .ref 76] σ4
  refine i_if_ne (tgt := 18) dX10_move_11 rfl rr7 (fun c9 => ?_) (fun c9 => ?_)
  · replace h := h.1 c9
    refine w_iconst (v := nZ 0) dX10_move_18 (by decide) ?_
    exact h
  · replace h := h.2 c9
    refine w_iconst (v := nZ 1) dX10_move_14 (by decide) ?_
    refine w_goto (tgt := 19) dX10_move_15 rfl ?_
    exact h
set_option maxRecDepth 10000 in
theorem v_X10_move_19 {C : aM → List Value → aH → aO → aH → Prop} {sc : Nat × (Nat → Int32)} {P : aO → aH → Prop} {σ : aH} {u : Nat}  {x1 : Int} {x2 : Int} {x3 : Int} {s0 : Int} (hG : G σ u) (rx1 : inR x1) (rx2 : inR x2) (rx3 : inR x3) (rs0 : inR s0)
    (h : (∃ (r5 : Int) (σ1 : aH), C mX10_bad [.ref 76, .int (nZ s0), .int (nZ 1), .int (nZ 0)] σ (.inl (some (.int (nZ r5)))) σ1 ∧ G σ1 u ∧ inR r5 ∧ ((¬ r5 = 0 → P (.inl (some (.int (nZ 0)))) σ1) ∧ (r5 = 0 → (inR ((rI σ1 80 0) - 1) ∧ (∃ (r11 : Int) (σ7 : aH), C mX10_in [.int (nZ x2), .int (nZ 0), .int (nZ ((rI σ1 80 0) - 1))] σ1 (.inl (some (.int (nZ r11)))) σ7 ∧ G σ7 u ∧ inR r11 ∧ ((r11 = 0 → L_X10_move_65 C sc P x1 x2 x3 1 σ7) ∧ (¬ (r11 = 0) → (inR ((rI σ7 80 1) - 1) ∧ (∃ (r17 : Int) (σ13 : aH), C mX10_in [.int (nZ x3), .int (nZ 0), .int (nZ ((rI σ7 80 1) - 1))] σ7 (.inl (some (.int (nZ r17)))) σ13 ∧ G σ13 u ∧ inR r17 ∧ ((¬ r17 = 0 → L_X10_move_65 C sc P x1 x2 x3 0 σ13) ∧ (r17 = 0 → L_X10_move_65 C sc P x1 x2 x3 1 σ13)))))))))))) :
    L_X10_move_19 C sc P x1 x2 x3 s0 σ := by
  unfold L_X10_move_19
  refine w_iconst (v := nZ 1) dX10_move_19 (by decide) ?_
  refine w_iconst (v := nZ 0) dX10_move_20 (by decide) ?_
  obtain ⟨r5, σ1, hc3, hG2, rr4, h⟩ := h
  refine w_callV dX10_move_21 ml_10_196 ⟨ok_X10_bad, vi_X10_bad⟩ hs_X10_bad (As := [.int (nZ s0), .int (nZ 1), .int (nZ 0)]) rfl rfl (gT hG rfl (lt_of rfl)) (Nat.le_of_ble_eq_true rfl) hc3 ?_
  show wp C 10 cX10_move 4 (some .int) false [] sc P 24 [(0, .ref 76), (1, .int (nZ x1)), (2, .int (nZ x2)), (3, .int (nZ x3))] [.int (nZ r5)] σ1
  refine i_if_ne (tgt := 73) dX10_move_24 rfl rr4 (fun c9 => ?_) (fun c9 => ?_)
  · replace h := h.1 c9
    refine w_iconst (v := nZ 0) dX10_move_73 (by decide) ?_
    exact w_iret dX10_move_74 rfl h
  · replace h := h.2 c9
    refine w_aload_n dX10_move_27 rfl (List.Mem.head _) ?_
    refine w_iload_n dX10_move_28 rfl (List.Mem.tail _ (List.Mem.tail _ (List.Mem.head _))) ?_
    refine w_iconst (v := nZ 0) dX10_move_29 (by decide) ?_
    refine w_aload_n dX10_move_30 rfl (List.Mem.head _) ?_
    refine w_getR (ci := 10) (k := 11) (b := 80) dX10_move_31 fl_10_23 (by decide) (gT hG2 rfl (lt_of rfl)) (gR hG2 (b := 80) rfl) ?_
    refine w_iconst (v := nZ 0) dX10_move_34 (by decide) ?_
    refine i_iald (n := 8) dX10_move_35 (gT hG2 rfl (lt_of rfl)) (gL hG2 rfl) (by decide) (by decide) ?_
    refine w_iconst (v := nZ 1) dX10_move_36 (by decide) ?_
    obtain ⟨q6, h⟩ := h
    refine i_sub dX10_move_37 ?_
    obtain ⟨r11, σ7, hc9, hG8, rr10, h⟩ := h
    refine w_callS dX10_move_38 ml_10_140 ⟨ok_X10_in, st_X10_in⟩ hs_X10_in (As := [.int (nZ x2), .int (nZ 0), .int (nZ ((rI σ1 80 0) - 1))]) rfl rfl (Nat.le_of_ble_eq_true rfl) hc9 ?_
    show wp C 10 cX10_move 4 (some .int) false [] sc P 41 [(0, .ref 76), (1, .int (nZ x1)), (2, .int (nZ x2)), (3, .int (nZ x3))] [.int (nZ r11), .ref 76] σ7
    refine i_if_eq (tgt := 60) dX10_move_41 rfl rr10 (fun c9 => ?_) (fun c9 => ?_)
    · replace h := h.1 c9
      refine w_iconst (v := nZ 1) dX10_move_60 (by decide) ?_
      refine w_goto (tgt := 65) dX10_move_61 rfl ?_
      exact h
    · replace h := h.2 c9
      refine w_iload_n dX10_move_44 rfl (List.Mem.tail _ (List.Mem.tail _ (List.Mem.tail _ (List.Mem.head _)))) ?_
      refine w_iconst (v := nZ 0) dX10_move_45 (by decide) ?_
      refine w_aload_n dX10_move_46 rfl (List.Mem.head _) ?_
      refine w_getR (ci := 10) (k := 11) (b := 80) dX10_move_47 fl_10_23 (by decide) (gT hG8 rfl (lt_of rfl)) (gR hG8 (b := 80) rfl) ?_
      refine w_iconst (v := nZ 1) dX10_move_50 (by decide) ?_
      refine i_iald (n := 8) dX10_move_51 (gT hG8 rfl (lt_of rfl)) (gL hG8 rfl) (by decide) (by decide) ?_
      refine w_iconst (v := nZ 1) dX10_move_52 (by decide) ?_
      obtain ⟨q12, h⟩ := h
      refine i_sub dX10_move_53 ?_
      obtain ⟨r17, σ13, hc15, hG14, rr16, h⟩ := h
      refine w_callS dX10_move_54 ml_10_140 ⟨ok_X10_in, st_X10_in⟩ hs_X10_in (As := [.int (nZ x3), .int (nZ 0), .int (nZ ((rI σ7 80 1) - 1))]) rfl rfl (Nat.le_of_ble_eq_true rfl) hc15 ?_
      show wp C 10 cX10_move 4 (some .int) false [] sc P 57 [(0, .ref 76), (1, .int (nZ x1)), (2, .int (nZ x2)), (3, .int (nZ x3))] [.int (nZ r17), .ref 76] σ13
      refine i_if_ne (tgt := 64) dX10_move_57 rfl rr16 (fun c9 => ?_) (fun c9 => ?_)
      · replace h := h.1 c9
        refine w_iconst (v := nZ 0) dX10_move_64 (by decide) ?_
        exact h
      · replace h := h.2 c9
        refine w_iconst (v := nZ 1) dX10_move_60 (by decide) ?_
        refine w_goto (tgt := 65) dX10_move_61 rfl ?_
        exact h
set_option maxRecDepth 10000 in
theorem v_X10_move_65 {C : aM → List Value → aH → aO → aH → Prop} {sc : Nat × (Nat → Int32)} {P : aO → aH → Prop} {σ : aH} {u : Nat}  {x1 : Int} {x2 : Int} {x3 : Int} {s0 : Int} (hG : G σ u) (rx1 : inR x1) (rx2 : inR x2) (rx3 : inR x3) (rs0 : inR s0)
    (h : (∃ (r5 : Int) (σ1 : aH), C mX10_bad [.ref 76, .int (nZ s0), .int (nZ 2), .int (nZ 1)] σ (.inl (some (.int (nZ r5)))) σ1 ∧ G σ1 u ∧ inR r5 ∧ ((r5 = 0 → (∃ (r10 : Int) (σ6 : aH), C mX10_stallOn [.ref 76, .int (nZ x2), .int (nZ x3)] σ1 (.inl (some (.int (nZ r10)))) σ6 ∧ G σ6 u ∧ inR r10 ∧ ((r10 = (-1) → ((0 ≤ x1 ∧ x1 < 9) ∧ (∀ σ12 : aH, wI σ6 (91 + x1.toNat) 0 x2 = σ12 → ((0 ≤ x1 ∧ x1 < 9) ∧ (∀ σ16 : aH, wI σ12 (91 + x1.toNat) 1 x3 = σ16 → P (.inl (some (.int (nZ 1)))) σ16))))) ∧ (¬ (r10 = (-1)) → P (.inl (some (.int (nZ 0)))) σ6)))) ∧ (¬ (r5 = 0) → P (.inl (some (.int (nZ 0)))) σ1)))) :
    L_X10_move_65 C sc P x1 x2 x3 s0 σ := by
  unfold L_X10_move_65
  refine w_iconst (v := nZ 2) dX10_move_65 (by decide) ?_
  refine w_iconst (v := nZ 1) dX10_move_66 (by decide) ?_
  obtain ⟨r5, σ1, hc3, hG2, rr4, h⟩ := h
  refine w_callV dX10_move_67 ml_10_196 ⟨ok_X10_bad, vi_X10_bad⟩ hs_X10_bad (As := [.int (nZ s0), .int (nZ 2), .int (nZ 1)]) rfl rfl (gT hG rfl (lt_of rfl)) (Nat.le_of_ble_eq_true rfl) hc3 ?_
  show wp C 10 cX10_move 4 (some .int) false [] sc P 70 [(0, .ref 76), (1, .int (nZ x1)), (2, .int (nZ x2)), (3, .int (nZ x3))] [.int (nZ r5)] σ1
  refine i_if_eq (tgt := 75) dX10_move_70 rfl rr4 (fun c9 => ?_) (fun c9 => ?_)
  · replace h := h.1 c9
    refine w_aload_n dX10_move_75 rfl (List.Mem.head _) ?_
    refine w_iload_n dX10_move_76 rfl (List.Mem.tail _ (List.Mem.tail _ (List.Mem.head _))) ?_
    refine w_iload_n dX10_move_77 rfl (List.Mem.tail _ (List.Mem.tail _ (List.Mem.tail _ (List.Mem.head _)))) ?_
    obtain ⟨r10, σ6, hc8, hG7, rr9, h⟩ := h
    refine w_callV dX10_move_78 ml_10_245 ⟨ok_X10_stallOn, vi_X10_stallOn⟩ hs_X10_stallOn (As := [.int (nZ x2), .int (nZ x3)]) rfl rfl (gT hG2 rfl (lt_of rfl)) (Nat.le_of_ble_eq_true rfl) hc8 ?_
    show wp C 10 cX10_move 4 (some .int) false [] sc P 81 [(0, .ref 76), (1, .int (nZ x1)), (2, .int (nZ x2)), (3, .int (nZ x3))] [.int (nZ r10)] σ6
    refine w_iconst (v := nZ (-1)) dX10_move_81 (by decide) ?_
    refine i_cmp_eq (tgt := 87) dX10_move_82 rfl rr9 (by decide) (fun c9 => ?_) (fun c9 => ?_)
    · replace h := h.1 c9
      refine w_aload_n dX10_move_87 rfl (List.Mem.head _) ?_
      refine w_getR (ci := 10) (k := 13) (b := 90) dX10_move_88 fl_10_31 (by decide) (gT hG7 rfl (lt_of rfl)) (gR hG7 (b := 90) rfl) ?_
      refine w_iload_n dX10_move_91 rfl (List.Mem.tail _ (List.Mem.head _)) ?_
      obtain ⟨h9, h⟩ := h
      have hj11 := vin_lt2 (n := 9) h9 rfl
      refine i_aald (n := 9) (b := (91 + x1.toNat)) dX10_move_92 (gT hG7 rfl (lt_of rfl)) (gL hG7 rfl) rx1 h9 (gR hG7 (rr_90 hj11)) ?_
      refine w_iconst (v := nZ 0) dX10_move_93 (by decide) ?_
      refine w_iload_n dX10_move_94 rfl (List.Mem.tail _ (List.Mem.tail _ (List.Mem.head _))) ?_
      refine i_iast (n := 7) dX10_move_95 (gT hG7 (ro_90 _ hj11).1 (by have := hj11; omega)) (gL hG7 (ro_90 _ hj11).2) (by decide) (by decide) (fun σ12 eσ13 => ?_)
      replace h := h σ12 eσ13
      have hG14 : G σ12 u := eσ13 ▸ G.wI hG7
      refine w_aload_n dX10_move_96 rfl (List.Mem.head _) ?_
      refine w_getR (ci := 10) (k := 13) (b := 90) dX10_move_97 fl_10_31 (by decide) (gT hG14 rfl (lt_of rfl)) (gR hG14 (b := 90) rfl) ?_
      refine w_iload_n dX10_move_100 rfl (List.Mem.tail _ (List.Mem.head _)) ?_
      obtain ⟨h9, h⟩ := h
      have hj15 := vin_lt2 (n := 9) h9 rfl
      refine i_aald (n := 9) (b := (91 + x1.toNat)) dX10_move_101 (gT hG14 rfl (lt_of rfl)) (gL hG14 rfl) rx1 h9 (gR hG14 (rr_90 hj15)) ?_
      refine w_iconst (v := nZ 1) dX10_move_102 (by decide) ?_
      refine w_iload_n dX10_move_103 rfl (List.Mem.tail _ (List.Mem.tail _ (List.Mem.tail _ (List.Mem.head _)))) ?_
      refine i_iast (n := 7) dX10_move_104 (gT hG14 (ro_90 _ hj15).1 (by have := hj15; omega)) (gL hG14 (ro_90 _ hj15).2) (by decide) (by decide) (fun σ16 eσ17 => ?_)
      replace h := h σ16 eσ17
      have hG18 : G σ16 u := eσ17 ▸ G.wI hG14
      refine w_iconst (v := nZ 1) dX10_move_105 (by decide) ?_
      exact w_iret dX10_move_106 rfl h
    · replace h := h.2 c9
      refine w_iconst (v := nZ 0) dX10_move_85 (by decide) ?_
      exact w_iret dX10_move_86 rfl h
  · replace h := h.2 c9
    refine w_iconst (v := nZ 0) dX10_move_73 (by decide) ?_
    exact w_iret dX10_move_74 rfl h
theorem dX10_tall_0 : decode cX10_tall 0 = .ok (.aload_n 0, 1) := by decide +kernel
theorem dX10_tall_1 : decode cX10_tall 1 = .ok (.iconst 0, 1) := by decide +kernel
theorem dX10_tall_2 : decode cX10_tall 2 = .ok (.putfield 106, 3) := by decide +kernel
theorem dX10_tall_5 : decode cX10_tall 5 = .ok (.aload_n 0, 1) := by decide +kernel
theorem dX10_tall_6 : decode cX10_tall 6 = .ok (.aload_n 0, 1) := by decide +kernel
theorem dX10_tall_7 : decode cX10_tall 7 = .ok (.iload_n 1, 1) := by decide +kernel
theorem dX10_tall_8 : decode cX10_tall 8 = .ok (.invokevirtual 236, 3) := by decide +kernel
theorem dX10_tall_11 : decode cX10_tall 11 = .ok (.ifCond .ne 7, 3) := by decide +kernel
theorem dX10_tall_14 : decode cX10_tall 14 = .ok (.iconst 1, 1) := by decide +kernel
theorem dX10_tall_15 : decode cX10_tall 15 = .ok (.goto 4, 3) := by decide +kernel
theorem dX10_tall_18 : decode cX10_tall 18 = .ok (.iconst 0, 1) := by decide +kernel
theorem dX10_tall_19 : decode cX10_tall 19 = .ok (.iconst 1, 1) := by decide +kernel
theorem dX10_tall_20 : decode cX10_tall 20 = .ok (.iconst 0, 1) := by decide +kernel
theorem dX10_tall_21 : decode cX10_tall 21 = .ok (.invokevirtual 196, 3) := by decide +kernel
theorem dX10_tall_24 : decode cX10_tall 24 = .ok (.ifCond .ne 27, 3) := by decide +kernel
theorem dX10_tall_27 : decode cX10_tall 27 = .ok (.aload_n 0, 1) := by decide +kernel
theorem dX10_tall_28 : decode cX10_tall 28 = .ok (.iload_n 2, 1) := by decide +kernel
theorem dX10_tall_29 : decode cX10_tall 29 = .ok (.iconst 0, 1) := by decide +kernel
theorem dX10_tall_30 : decode cX10_tall 30 = .ok (.bipush 60, 2) := by decide +kernel
theorem dX10_tall_32 : decode cX10_tall 32 = .ok (.invokestatic 140, 3) := by decide +kernel
theorem dX10_tall_35 : decode cX10_tall 35 = .ok (.ifCond .ne 7, 3) := by decide +kernel
theorem dX10_tall_38 : decode cX10_tall 38 = .ok (.iconst 1, 1) := by decide +kernel
theorem dX10_tall_39 : decode cX10_tall 39 = .ok (.goto 4, 3) := by decide +kernel
theorem dX10_tall_42 : decode cX10_tall 42 = .ok (.iconst 0, 1) := by decide +kernel
theorem dX10_tall_43 : decode cX10_tall 43 = .ok (.iconst 2, 1) := by decide +kernel
theorem dX10_tall_44 : decode cX10_tall 44 = .ok (.iconst 1, 1) := by decide +kernel
theorem dX10_tall_45 : decode cX10_tall 45 = .ok (.invokevirtual 196, 3) := by decide +kernel
theorem dX10_tall_48 : decode cX10_tall 48 = .ok (.ifCond .eq 5, 3) := by decide +kernel
theorem dX10_tall_51 : decode cX10_tall 51 = .ok (.iconst 0, 1) := by decide +kernel
theorem dX10_tall_52 : decode cX10_tall 52 = .ok (.ireturn, 1) := by decide +kernel
theorem dX10_tall_53 : decode cX10_tall 53 = .ok (.aload_n 0, 1) := by decide +kernel
theorem dX10_tall_54 : decode cX10_tall 54 = .ok (.getfield 31, 3) := by decide +kernel
theorem dX10_tall_57 : decode cX10_tall 57 = .ok (.iload_n 1, 1) := by decide +kernel
theorem dX10_tall_58 : decode cX10_tall 58 = .ok (.aaload, 1) := by decide +kernel
theorem dX10_tall_59 : decode cX10_tall 59 = .ok (.iconst 2, 1) := by decide +kernel
theorem dX10_tall_60 : decode cX10_tall 60 = .ok (.iaload, 1) := by decide +kernel
theorem dX10_tall_61 : decode cX10_tall 61 = .ok (.istore_n 3, 1) := by decide +kernel
theorem dX10_tall_62 : decode cX10_tall 62 = .ok (.aload_n 0, 1) := by decide +kernel
theorem dX10_tall_63 : decode cX10_tall 63 = .ok (.getfield 31, 3) := by decide +kernel
theorem dX10_tall_66 : decode cX10_tall 66 = .ok (.iload_n 1, 1) := by decide +kernel
theorem dX10_tall_67 : decode cX10_tall 67 = .ok (.aaload, 1) := by decide +kernel
theorem dX10_tall_68 : decode cX10_tall 68 = .ok (.iconst 2, 1) := by decide +kernel
theorem dX10_tall_69 : decode cX10_tall 69 = .ok (.iload_n 2, 1) := by decide +kernel
theorem dX10_tall_70 : decode cX10_tall 70 = .ok (.iastore, 1) := by decide +kernel
theorem dX10_tall_71 : decode cX10_tall 71 = .ok (.iload_n 3, 1) := by decide +kernel
theorem dX10_tall_72 : decode cX10_tall 72 = .ok (.ireturn, 1) := by decide +kernel
def L_X10_tall_19 (C : aM → List Value → aH → aO → aH → Prop) (sc : Nat × (Nat → Int32)) (P : aO → aH → Prop) (x1 : Int) (x2 : Int) (s0 : Int) (σ : aH) : Prop :=
    wp C 10 cX10_tall 4 (some .int) false [] sc P 19 [(0, .ref 76), (1, .int (nZ x1)), (2, .int (nZ x2))] [.int (nZ s0), .ref 76] σ
def L_X10_tall_43 (C : aM → List Value → aH → aO → aH → Prop) (sc : Nat × (Nat → Int32)) (P : aO → aH → Prop) (x1 : Int) (x2 : Int) (s0 : Int) (σ : aH) : Prop :=
    wp C 10 cX10_tall 4 (some .int) false [] sc P 43 [(0, .ref 76), (1, .int (nZ x1)), (2, .int (nZ x2))] [.int (nZ s0), .ref 76] σ
set_option maxRecDepth 10000 in
theorem t_X10_tall {sc : Nat × (Nat → Int32)} {d : Nat} {Q : aO → aH → Prop} {σ : aH} {u : Nat}  {x1 : Int} {x2 : Int} (hG : G σ u) (rx1 : inR x1) (rx2 : inR x2)
    (h : (∀ σ1 : aH, wI σ 76 0 0 = σ1 → (∃ (r8 : Int) (σ4 : aH), Ev sc d mX10_isStall [.ref 76, .int (nZ x1)] σ1 (.inl (some (.int (nZ r8)))) σ4 ∧ G σ4 u ∧ inR r8 ∧ ((¬ r8 = 0 → L_X10_tall_19 (Ev sc d) sc Q x1 x2 0 σ4) ∧ (r8 = 0 → L_X10_tall_19 (Ev sc d) sc Q x1 x2 1 σ4))))) :
    T sc (d + 1) mX10_tall [.ref 76, .int (nZ x1), .int (nZ x2)] σ Q := by
  refine T.of (c := 10) (code := cX10_tall) (mL := 4) (rt := (some .int)) (ini := false) (l := [(0, .ref 76), (1, .int (nZ x1)), (2, .int (nZ x2))]) rfl rfl rfl rfl (by decide) hs_X10_tall rfl rfl ?_
  refine w_aload_n dX10_tall_0 rfl (List.Mem.head _) ?_
  refine w_iconst (v := nZ 0) dX10_tall_1 (by decide) ?_
  refine i_putI (ci := 10) 0 rfl dX10_tall_2 fl_10_106 (by decide) (gT hG rfl (lt_of rfl)) (fun σ1 eσ2 => ?_)
  replace h := h σ1 eσ2
  have hG3 : G σ1 u := eσ2 ▸ G.wI hG
  refine w_aload_n dX10_tall_5 rfl (List.Mem.head _) ?_
  refine w_aload_n dX10_tall_6 rfl (List.Mem.head _) ?_
  refine w_iload_n dX10_tall_7 rfl (List.Mem.tail _ (List.Mem.head _)) ?_
  obtain ⟨r8, σ4, hc6, hG5, rr7, h⟩ := h
  refine w_callV dX10_tall_8 ml_10_236 ⟨ok_X10_isStall, vi_X10_isStall⟩ hs_X10_isStall (As := [.int (nZ x1)]) rfl rfl (gT hG3 rfl (lt_of rfl)) (Nat.le_of_ble_eq_true rfl) hc6 ?_
  show wp (Ev sc d) 10 cX10_tall 4 (some .int) false [] sc Q 11 [(0, .ref 76), (1, .int (nZ x1)), (2, .int (nZ x2))] [.int (nZ r8), .ref 76] σ4
  refine i_if_ne (tgt := 18) dX10_tall_11 rfl rr7 (fun c9 => ?_) (fun c9 => ?_)
  · replace h := h.1 c9
    refine w_iconst (v := nZ 0) dX10_tall_18 (by decide) ?_
    exact h
  · replace h := h.2 c9
    refine w_iconst (v := nZ 1) dX10_tall_14 (by decide) ?_
    refine w_goto (tgt := 19) dX10_tall_15 rfl ?_
    exact h
set_option maxRecDepth 10000 in
theorem v_X10_tall_19 {C : aM → List Value → aH → aO → aH → Prop} {sc : Nat × (Nat → Int32)} {P : aO → aH → Prop} {σ : aH} {u : Nat}  {x1 : Int} {x2 : Int} {s0 : Int} (hG : G σ u) (rx1 : inR x1) (rx2 : inR x2) (rs0 : inR s0)
    (h : (∃ (r5 : Int) (σ1 : aH), C mX10_bad [.ref 76, .int (nZ s0), .int (nZ 1), .int (nZ 0)] σ (.inl (some (.int (nZ r5)))) σ1 ∧ G σ1 u ∧ inR r5 ∧ ((¬ r5 = 0 → P (.inl (some (.int (nZ 0)))) σ1) ∧ (r5 = 0 → (∃ (r10 : Int) (σ6 : aH), C mX10_in [.int (nZ x2), .int (nZ 0), .int (nZ 60)] σ1 (.inl (some (.int (nZ r10)))) σ6 ∧ G σ6 u ∧ inR r10 ∧ ((¬ r10 = 0 → L_X10_tall_43 C sc P x1 x2 0 σ6) ∧ (r10 = 0 → L_X10_tall_43 C sc P x1 x2 1 σ6))))))) :
    L_X10_tall_19 C sc P x1 x2 s0 σ := by
  unfold L_X10_tall_19
  refine w_iconst (v := nZ 1) dX10_tall_19 (by decide) ?_
  refine w_iconst (v := nZ 0) dX10_tall_20 (by decide) ?_
  obtain ⟨r5, σ1, hc3, hG2, rr4, h⟩ := h
  refine w_callV dX10_tall_21 ml_10_196 ⟨ok_X10_bad, vi_X10_bad⟩ hs_X10_bad (As := [.int (nZ s0), .int (nZ 1), .int (nZ 0)]) rfl rfl (gT hG rfl (lt_of rfl)) (Nat.le_of_ble_eq_true rfl) hc3 ?_
  show wp C 10 cX10_tall 4 (some .int) false [] sc P 24 [(0, .ref 76), (1, .int (nZ x1)), (2, .int (nZ x2))] [.int (nZ r5)] σ1
  refine i_if_ne (tgt := 51) dX10_tall_24 rfl rr4 (fun c9 => ?_) (fun c9 => ?_)
  · replace h := h.1 c9
    refine w_iconst (v := nZ 0) dX10_tall_51 (by decide) ?_
    exact w_iret dX10_tall_52 rfl h
  · replace h := h.2 c9
    refine w_aload_n dX10_tall_27 rfl (List.Mem.head _) ?_
    refine w_iload_n dX10_tall_28 rfl (List.Mem.tail _ (List.Mem.tail _ (List.Mem.head _))) ?_
    refine w_iconst (v := nZ 0) dX10_tall_29 (by decide) ?_
    refine w_bipush (v := nZ 60) dX10_tall_30 (by decide) ?_
    obtain ⟨r10, σ6, hc8, hG7, rr9, h⟩ := h
    refine w_callS dX10_tall_32 ml_10_140 ⟨ok_X10_in, st_X10_in⟩ hs_X10_in (As := [.int (nZ x2), .int (nZ 0), .int (nZ 60)]) rfl rfl (Nat.le_of_ble_eq_true rfl) hc8 ?_
    show wp C 10 cX10_tall 4 (some .int) false [] sc P 35 [(0, .ref 76), (1, .int (nZ x1)), (2, .int (nZ x2))] [.int (nZ r10), .ref 76] σ6
    refine i_if_ne (tgt := 42) dX10_tall_35 rfl rr9 (fun c9 => ?_) (fun c9 => ?_)
    · replace h := h.1 c9
      refine w_iconst (v := nZ 0) dX10_tall_42 (by decide) ?_
      exact h
    · replace h := h.2 c9
      refine w_iconst (v := nZ 1) dX10_tall_38 (by decide) ?_
      refine w_goto (tgt := 43) dX10_tall_39 rfl ?_
      exact h
set_option maxRecDepth 10000 in
theorem v_X10_tall_43 {C : aM → List Value → aH → aO → aH → Prop} {sc : Nat × (Nat → Int32)} {P : aO → aH → Prop} {σ : aH} {u : Nat}  {x1 : Int} {x2 : Int} {s0 : Int} (hG : G σ u) (rx1 : inR x1) (rx2 : inR x2) (rs0 : inR s0)
    (h : (∃ (r5 : Int) (σ1 : aH), C mX10_bad [.ref 76, .int (nZ s0), .int (nZ 2), .int (nZ 1)] σ (.inl (some (.int (nZ r5)))) σ1 ∧ G σ1 u ∧ inR r5 ∧ ((r5 = 0 → ((0 ≤ x1 ∧ x1 < 9) ∧ (∀ z7 : Int, z7 = (rI σ1 (91 + x1.toNat) 2) → ((0 ≤ x1 ∧ x1 < 9) ∧ (∀ σ11 : aH, wI σ1 (91 + x1.toNat) 2 x2 = σ11 → P (.inl (some (.int (nZ z7)))) σ11))))) ∧ (¬ (r5 = 0) → P (.inl (some (.int (nZ 0)))) σ1)))) :
    L_X10_tall_43 C sc P x1 x2 s0 σ := by
  unfold L_X10_tall_43
  refine w_iconst (v := nZ 2) dX10_tall_43 (by decide) ?_
  refine w_iconst (v := nZ 1) dX10_tall_44 (by decide) ?_
  obtain ⟨r5, σ1, hc3, hG2, rr4, h⟩ := h
  refine w_callV dX10_tall_45 ml_10_196 ⟨ok_X10_bad, vi_X10_bad⟩ hs_X10_bad (As := [.int (nZ s0), .int (nZ 2), .int (nZ 1)]) rfl rfl (gT hG rfl (lt_of rfl)) (Nat.le_of_ble_eq_true rfl) hc3 ?_
  show wp C 10 cX10_tall 4 (some .int) false [] sc P 48 [(0, .ref 76), (1, .int (nZ x1)), (2, .int (nZ x2))] [.int (nZ r5)] σ1
  refine i_if_eq (tgt := 53) dX10_tall_48 rfl rr4 (fun c9 => ?_) (fun c9 => ?_)
  · replace h := h.1 c9
    refine w_aload_n dX10_tall_53 rfl (List.Mem.head _) ?_
    refine w_getR (ci := 10) (k := 13) (b := 90) dX10_tall_54 fl_10_31 (by decide) (gT hG2 rfl (lt_of rfl)) (gR hG2 (b := 90) rfl) ?_
    refine w_iload_n dX10_tall_57 rfl (List.Mem.tail _ (List.Mem.head _)) ?_
    obtain ⟨h9, h⟩ := h
    have hj6 := vin_lt2 (n := 9) h9 rfl
    refine i_aald (n := 9) (b := (91 + x1.toNat)) dX10_tall_58 (gT hG2 rfl (lt_of rfl)) (gL hG2 rfl) rx1 h9 (gR hG2 (rr_90 hj6)) ?_
    refine w_iconst (v := nZ 2) dX10_tall_59 (by decide) ?_
    refine i_iald (n := 7) dX10_tall_60 (gT hG2 (ro_90 _ hj6).1 (by have := hj6; omega)) (gL hG2 (ro_90 _ hj6).2) (by decide) (by decide) ?_
    refine top_i (fun z7 ez8 => ?_)
    have rz9 : inR z7 := ez8 ▸ (rI_R _ _ _)
    replace h := h z7 ez8
    refine w_istore_n (l' := [(3, .int (nZ z7)), (0, .ref 76), (1, .int (nZ x1)), (2, .int (nZ x2))]) dX10_tall_61 rfl (by decide) rfl ?_
    refine w_aload_n dX10_tall_62 rfl (List.Mem.tail _ (List.Mem.head _)) ?_
    refine w_getR (ci := 10) (k := 13) (b := 90) dX10_tall_63 fl_10_31 (by decide) (gT hG2 rfl (lt_of rfl)) (gR hG2 (b := 90) rfl) ?_
    refine w_iload_n dX10_tall_66 rfl (List.Mem.tail _ (List.Mem.tail _ (List.Mem.head _))) ?_
    obtain ⟨h9, h⟩ := h
    have hj10 := vin_lt2 (n := 9) h9 rfl
    refine i_aald (n := 9) (b := (91 + x1.toNat)) dX10_tall_67 (gT hG2 rfl (lt_of rfl)) (gL hG2 rfl) rx1 h9 (gR hG2 (rr_90 hj10)) ?_
    refine w_iconst (v := nZ 2) dX10_tall_68 (by decide) ?_
    refine w_iload_n dX10_tall_69 rfl (List.Mem.tail _ (List.Mem.tail _ (List.Mem.tail _ (List.Mem.head _)))) ?_
    refine i_iast (n := 7) dX10_tall_70 (gT hG2 (ro_90 _ hj10).1 (by have := hj10; omega)) (gL hG2 (ro_90 _ hj10).2) (by decide) (by decide) (fun σ11 eσ12 => ?_)
    replace h := h σ11 eσ12
    have hG13 : G σ11 u := eσ12 ▸ G.wI hG2
    refine w_iload_n dX10_tall_71 rfl (List.Mem.head _) ?_
    exact w_iret dX10_tall_72 rfl h
  · replace h := h.2 c9
    refine w_iconst (v := nZ 0) dX10_tall_51 (by decide) ?_
    exact w_iret dX10_tall_52 rfl h
theorem dX10_puts_0 : decode cX10_puts 0 = .ok (.iload_n 2, 1) := by decide +kernel
theorem dX10_puts_1 : decode cX10_puts 1 = .ok (.istore 4, 2) := by decide +kernel
theorem dX10_puts_3 : decode cX10_puts 3 = .ok (.iload 4, 2) := by decide +kernel
theorem dX10_puts_5 : decode cX10_puts 5 = .ok (.aload_n 0, 1) := by decide +kernel
theorem dX10_puts_6 : decode cX10_puts 6 = .ok (.getfield 218, 3) := by decide +kernel
theorem dX10_puts_9 : decode cX10_puts 9 = .ok (.if_icmp .ge 18, 3) := by decide +kernel
theorem dX10_puts_12 : decode cX10_puts 12 = .ok (.iload_n 1, 1) := by decide +kernel
theorem dX10_puts_13 : decode cX10_puts 13 = .ok (.iload 4, 2) := by decide +kernel
theorem dX10_puts_15 : decode cX10_puts 15 = .ok (.ishr, 1) := by decide +kernel
theorem dX10_puts_16 : decode cX10_puts 16 = .ok (.iconst 1, 1) := by decide +kernel
theorem dX10_puts_17 : decode cX10_puts 17 = .ok (.iand, 1) := by decide +kernel
theorem dX10_puts_18 : decode cX10_puts 18 = .ok (.ifCond .ne 9, 3) := by decide +kernel
theorem dX10_puts_21 : decode cX10_puts 21 = .ok (.iinc 4 1, 3) := by decide +kernel
theorem dX10_puts_24 : decode cX10_puts 24 = .ok (.goto (-21), 3) := by decide +kernel
theorem dX10_puts_27 : decode cX10_puts 27 = .ok (.iload 4, 2) := by decide +kernel
theorem dX10_puts_29 : decode cX10_puts 29 = .ok (.aload_n 0, 1) := by decide +kernel
theorem dX10_puts_30 : decode cX10_puts 30 = .ok (.getfield 218, 3) := by decide +kernel
theorem dX10_puts_33 : decode cX10_puts 33 = .ok (.if_icmp .ne 39, 3) := by decide +kernel
theorem dX10_puts_36 : decode cX10_puts 36 = .ok (.aload_n 0, 1) := by decide +kernel
theorem dX10_puts_37 : decode cX10_puts 37 = .ok (.invokevirtual 281, 3) := by decide +kernel
theorem dX10_puts_40 : decode cX10_puts 40 = .ok (.istore 5, 2) := by decide +kernel
theorem dX10_puts_42 : decode cX10_puts 42 = .ok (.aload_n 0, 1) := by decide +kernel
theorem dX10_puts_43 : decode cX10_puts 43 = .ok (.getfield 290, 3) := by decide +kernel
theorem dX10_puts_46 : decode cX10_puts 46 = .ok (.iconst (-1), 1) := by decide +kernel
theorem dX10_puts_47 : decode cX10_puts 47 = .ok (.if_icmp .eq 13, 3) := by decide +kernel
theorem dX10_puts_50 : decode cX10_puts 50 = .ok (.iload 5, 2) := by decide +kernel
theorem dX10_puts_52 : decode cX10_puts 52 = .ok (.aload_n 0, 1) := by decide +kernel
theorem dX10_puts_53 : decode cX10_puts 53 = .ok (.getfield 290, 3) := by decide +kernel
theorem dX10_puts_56 : decode cX10_puts 56 = .ok (.if_icmp .lt 4, 3) := by decide +kernel
theorem dX10_puts_59 : decode cX10_puts 59 = .ok (.return_, 1) := by decide +kernel
theorem dX10_puts_60 : decode cX10_puts 60 = .ok (.aload_n 0, 1) := by decide +kernel
theorem dX10_puts_61 : decode cX10_puts 61 = .ok (.iload 5, 2) := by decide +kernel
theorem dX10_puts_63 : decode cX10_puts 63 = .ok (.putfield 290, 3) := by decide +kernel
theorem dX10_puts_66 : decode cX10_puts 66 = .ok (.aload_n 0, 1) := by decide +kernel
theorem dX10_puts_67 : decode cX10_puts 67 = .ok (.iload_n 3, 1) := by decide +kernel
theorem dX10_puts_68 : decode cX10_puts 68 = .ok (.putfield 293, 3) := by decide +kernel
theorem dX10_puts_71 : decode cX10_puts 71 = .ok (.return_, 1) := by decide +kernel
theorem dX10_puts_72 : decode cX10_puts 72 = .ok (.iconst 0, 1) := by decide +kernel
theorem dX10_puts_73 : decode cX10_puts 73 = .ok (.istore 5, 2) := by decide +kernel
theorem dX10_puts_75 : decode cX10_puts 75 = .ok (.iload 5, 2) := by decide +kernel
theorem dX10_puts_77 : decode cX10_puts 77 = .ok (.aload_n 0, 1) := by decide +kernel
theorem dX10_puts_78 : decode cX10_puts 78 = .ok (.getfield 23, 3) := by decide +kernel
theorem dX10_puts_81 : decode cX10_puts 81 = .ok (.iconst 1, 1) := by decide +kernel
theorem dX10_puts_82 : decode cX10_puts 82 = .ok (.iaload, 1) := by decide +kernel
theorem dX10_puts_83 : decode cX10_puts 83 = .ok (.if_icmp .ge 99, 3) := by decide +kernel
theorem dX10_puts_86 : decode cX10_puts 86 = .ok (.iconst 0, 1) := by decide +kernel
theorem dX10_puts_87 : decode cX10_puts 87 = .ok (.istore 6, 2) := by decide +kernel
theorem dX10_puts_89 : decode cX10_puts 89 = .ok (.iload 6, 2) := by decide +kernel
theorem dX10_puts_91 : decode cX10_puts 91 = .ok (.aload_n 0, 1) := by decide +kernel
theorem dX10_puts_92 : decode cX10_puts 92 = .ok (.getfield 23, 3) := by decide +kernel
theorem dX10_puts_95 : decode cX10_puts 95 = .ok (.iconst 0, 1) := by decide +kernel
theorem dX10_puts_96 : decode cX10_puts 96 = .ok (.iaload, 1) := by decide +kernel
theorem dX10_puts_97 : decode cX10_puts 97 = .ok (.if_icmp .ge 79, 3) := by decide +kernel
theorem dX10_puts_100 : decode cX10_puts 100 = .ok (.aload_n 0, 1) := by decide +kernel
theorem dX10_puts_101 : decode cX10_puts 101 = .ok (.iload 6, 2) := by decide +kernel
theorem dX10_puts_103 : decode cX10_puts 103 = .ok (.iload 5, 2) := by decide +kernel
theorem dX10_puts_105 : decode cX10_puts 105 = .ok (.invokevirtual 245, 3) := by decide +kernel
theorem dX10_puts_108 : decode cX10_puts 108 = .ok (.iconst (-1), 1) := by decide +kernel
theorem dX10_puts_109 : decode cX10_puts 109 = .ok (.if_icmp .eq 6, 3) := by decide +kernel
theorem dX10_puts_112 : decode cX10_puts 112 = .ok (.goto 58, 3) := by decide +kernel
theorem dX10_puts_115 : decode cX10_puts 115 = .ok (.aload_n 0, 1) := by decide +kernel
theorem dX10_puts_116 : decode cX10_puts 116 = .ok (.getfield 31, 3) := by decide +kernel
theorem dX10_puts_119 : decode cX10_puts 119 = .ok (.iload 4, 2) := by decide +kernel
theorem dX10_puts_121 : decode cX10_puts 121 = .ok (.aaload, 1) := by decide +kernel
theorem dX10_puts_122 : decode cX10_puts 122 = .ok (.iconst 0, 1) := by decide +kernel
theorem dX10_puts_123 : decode cX10_puts 123 = .ok (.iload 6, 2) := by decide +kernel
theorem dX10_puts_125 : decode cX10_puts 125 = .ok (.iastore, 1) := by decide +kernel
theorem dX10_puts_126 : decode cX10_puts 126 = .ok (.aload_n 0, 1) := by decide +kernel
theorem dX10_puts_127 : decode cX10_puts 127 = .ok (.getfield 31, 3) := by decide +kernel
theorem dX10_puts_130 : decode cX10_puts 130 = .ok (.iload 4, 2) := by decide +kernel
theorem dX10_puts_132 : decode cX10_puts 132 = .ok (.aaload, 1) := by decide +kernel
theorem dX10_puts_133 : decode cX10_puts 133 = .ok (.iconst 1, 1) := by decide +kernel
theorem dX10_puts_134 : decode cX10_puts 134 = .ok (.iload 5, 2) := by decide +kernel
theorem dX10_puts_136 : decode cX10_puts 136 = .ok (.iastore, 1) := by decide +kernel
theorem dX10_puts_137 : decode cX10_puts 137 = .ok (.aload_n 0, 1) := by decide +kernel
theorem dX10_puts_138 : decode cX10_puts 138 = .ok (.iload_n 1, 1) := by decide +kernel
theorem dX10_puts_139 : decode cX10_puts 139 = .ok (.iload 4, 2) := by decide +kernel
theorem dX10_puts_141 : decode cX10_puts 141 = .ok (.iconst 1, 1) := by decide +kernel
theorem dX10_puts_142 : decode cX10_puts 142 = .ok (.iadd, 1) := by decide +kernel
theorem dX10_puts_143 : decode cX10_puts 143 = .ok (.bipush 100, 2) := by decide +kernel
theorem dX10_puts_145 : decode cX10_puts 145 = .ok (.iload_n 3, 1) := by decide +kernel
theorem dX10_puts_146 : decode cX10_puts 146 = .ok (.imul, 1) := by decide +kernel
theorem dX10_puts_147 : decode cX10_puts 147 = .ok (.iload 6, 2) := by decide +kernel
theorem dX10_puts_149 : decode cX10_puts 149 = .ok (.iadd, 1) := by decide +kernel
theorem dX10_puts_150 : decode cX10_puts 150 = .ok (.bipush 10, 2) := by decide +kernel
theorem dX10_puts_152 : decode cX10_puts 152 = .ok (.iload 5, 2) := by decide +kernel
theorem dX10_puts_154 : decode cX10_puts 154 = .ok (.imul, 1) := by decide +kernel
theorem dX10_puts_155 : decode cX10_puts 155 = .ok (.iadd, 1) := by decide +kernel
theorem dX10_puts_156 : decode cX10_puts 156 = .ok (.invokevirtual 296, 3) := by decide +kernel
theorem dX10_puts_159 : decode cX10_puts 159 = .ok (.aload_n 0, 1) := by decide +kernel
theorem dX10_puts_160 : decode cX10_puts 160 = .ok (.getfield 31, 3) := by decide +kernel
theorem dX10_puts_163 : decode cX10_puts 163 = .ok (.iload 4, 2) := by decide +kernel
theorem dX10_puts_165 : decode cX10_puts 165 = .ok (.aaload, 1) := by decide +kernel
theorem dX10_puts_166 : decode cX10_puts 166 = .ok (.iconst 0, 1) := by decide +kernel
theorem dX10_puts_167 : decode cX10_puts 167 = .ok (.bipush (-9), 2) := by decide +kernel
theorem dX10_puts_169 : decode cX10_puts 169 = .ok (.iastore, 1) := by decide +kernel
theorem dX10_puts_170 : decode cX10_puts 170 = .ok (.iinc 6 1, 3) := by decide +kernel
theorem dX10_puts_173 : decode cX10_puts 173 = .ok (.goto (-84), 3) := by decide +kernel
theorem dX10_puts_176 : decode cX10_puts 176 = .ok (.iinc 5 1, 3) := by decide +kernel
theorem dX10_puts_179 : decode cX10_puts 179 = .ok (.goto (-104), 3) := by decide +kernel
theorem dX10_puts_182 : decode cX10_puts 182 = .ok (.return_, 1) := by decide +kernel
def L_X10_puts_3 (C : aM → List Value → aH → aO → aH → Prop) (sc : Nat × (Nat → Int32)) (P : aO → aH → Prop) (x1 : Int) (x2 : Int) (x3 : Int) (x4 : Int) (σ : aH) : Prop :=
    wp C 10 cX10_puts 7 none false [] sc P 3 [(0, .ref 76), (1, .int (nZ x1)), (2, .int (nZ x2)), (3, .int (nZ x3)), (4, .int (nZ x4))] [] σ
def L_X10_puts_27 (C : aM → List Value → aH → aO → aH → Prop) (sc : Nat × (Nat → Int32)) (P : aO → aH → Prop) (x1 : Int) (x2 : Int) (x3 : Int) (x4 : Int) (σ : aH) : Prop :=
    wp C 10 cX10_puts 7 none false [] sc P 27 [(0, .ref 76), (1, .int (nZ x1)), (2, .int (nZ x2)), (3, .int (nZ x3)), (4, .int (nZ x4))] [] σ
def L_X10_puts_75 (C : aM → List Value → aH → aO → aH → Prop) (sc : Nat × (Nat → Int32)) (P : aO → aH → Prop) (x1 : Int) (x2 : Int) (x3 : Int) (x4 : Int) (x5 : Int) (σ : aH) : Prop :=
    wp C 10 cX10_puts 7 none false [] sc P 75 [(0, .ref 76), (1, .int (nZ x1)), (2, .int (nZ x2)), (3, .int (nZ x3)), (4, .int (nZ x4)), (5, .int (nZ x5))] [] σ
def L_X10_puts_89 (C : aM → List Value → aH → aO → aH → Prop) (sc : Nat × (Nat → Int32)) (P : aO → aH → Prop) (x1 : Int) (x2 : Int) (x3 : Int) (x4 : Int) (x5 : Int) (x6 : Int) (σ : aH) : Prop :=
    wp C 10 cX10_puts 7 none false [] sc P 89 [(0, .ref 76), (1, .int (nZ x1)), (2, .int (nZ x2)), (3, .int (nZ x3)), (4, .int (nZ x4)), (5, .int (nZ x5)), (6, .int (nZ x6))] [] σ
set_option maxRecDepth 10000 in
theorem t_X10_puts {sc : Nat × (Nat → Int32)} {d : Nat} {Q : aO → aH → Prop} {σ : aH} {u : Nat}  {x1 : Int} {x2 : Int} {x3 : Int} (hG : G σ u) (rx1 : inR x1) (rx2 : inR x2) (rx3 : inR x3)
    (h : L_X10_puts_3 (Ev sc d) sc Q x1 x2 x3 x2 σ) :
    T sc (d + 1) mX10_puts [.ref 76, .int (nZ x1), .int (nZ x2), .int (nZ x3)] σ Q := by
  refine T.of (c := 10) (code := cX10_puts) (mL := 7) (rt := none) (ini := false) (l := [(0, .ref 76), (1, .int (nZ x1)), (2, .int (nZ x2)), (3, .int (nZ x3))]) rfl rfl rfl rfl (by decide) hs_X10_puts rfl rfl ?_
  refine w_iload_n dX10_puts_0 rfl (List.Mem.tail _ (List.Mem.tail _ (List.Mem.head _))) ?_
  refine w_istore (l' := [(4, .int (nZ x2)), (0, .ref 76), (1, .int (nZ x1)), (2, .int (nZ x2)), (3, .int (nZ x3))]) dX10_puts_1 (by decide) rfl ?_
  exact w_weak (l' := [(0, .ref 76), (1, .int (nZ x1)), (2, .int (nZ x2)), (3, .int (nZ x3)), (4, .int (nZ x2))]) (by intro q hq; simp only [List.mem_cons, List.not_mem_nil, or_false] at hq ⊢; rcases hq with rfl | rfl | rfl | rfl | rfl <;> simp) h
set_option maxRecDepth 10000 in
theorem v_X10_puts_3 {C : aM → List Value → aH → aO → aH → Prop} {sc : Nat × (Nat → Int32)} {P : aO → aH → Prop} {σ : aH} {u : Nat}  {x1 : Int} {x2 : Int} {x3 : Int} {x4 : Int} (hG : G σ u) (rx1 : inR x1) (rx2 : inR x2) (rx3 : inR x3) (rx4 : inR x4)
    (h : (((rI σ 76 28) ≤ x4 → L_X10_puts_27 C sc P x1 x2 x3 x4 σ) ∧ (¬ ((rI σ 76 28) ≤ x4) → ((¬ (zAnd (zShr x1 x4) 1) = 0 → L_X10_puts_27 C sc P x1 x2 x3 x4 σ) ∧ ((zAnd (zShr x1 x4) 1) = 0 → (inR (x4 + 1) ∧ L_X10_puts_3 C sc P x1 x2 x3 (x4 + 1) σ)))))) :
    L_X10_puts_3 C sc P x1 x2 x3 x4 σ := by
  unfold L_X10_puts_3
  refine w_iload dX10_puts_3 (List.Mem.tail _ (List.Mem.tail _ (List.Mem.tail _ (List.Mem.tail _ (List.Mem.head _))))) ?_
  refine w_aload_n dX10_puts_5 rfl (List.Mem.head _) ?_
  refine i_getI (ci := 10) 28 rfl dX10_puts_6 fl_10_218 (by decide) (gT hG rfl (lt_of rfl)) ?_
  refine i_cmp_ge (tgt := 27) dX10_puts_9 rfl rx4 (rI_R _ _ _) (fun c9 => ?_) (fun c9 => ?_)
  · replace h := h.1 c9
    exact h
  · replace h := h.2 c9
    refine w_iload_n dX10_puts_12 rfl (List.Mem.tail _ (List.Mem.head _)) ?_
    refine w_iload dX10_puts_13 (List.Mem.tail _ (List.Mem.tail _ (List.Mem.tail _ (List.Mem.tail _ (List.Mem.head _))))) ?_
    refine i_shr dX10_puts_15 ?_
    refine w_iconst (v := nZ 1) dX10_puts_16 (by decide) ?_
    refine i_and dX10_puts_17 ?_
    refine i_if_ne (tgt := 27) dX10_puts_18 rfl (zAnd_R _ _) (fun c9 => ?_) (fun c9 => ?_)
    · replace h := h.1 c9
      exact h
    · replace h := h.2 c9
      obtain ⟨q1, h⟩ := h
      refine w_iinc (v := nZ (x4 + 1)) (l' := [(4, .int (nZ (x4 + 1))), (0, .ref 76), (1, .int (nZ x1)), (2, .int (nZ x2)), (3, .int (nZ x3))]) dX10_puts_21 (List.Mem.tail _ (List.Mem.tail _ (List.Mem.tail _ (List.Mem.tail _ (List.Mem.head _))))) (nZ_add _ _) (by decide) rfl ?_
      refine w_goto (tgt := 3) dX10_puts_24 rfl ?_
      exact w_weak (l' := [(0, .ref 76), (1, .int (nZ x1)), (2, .int (nZ x2)), (3, .int (nZ x3)), (4, .int (nZ (x4 + 1)))]) (by intro q hq; simp only [List.mem_cons, List.not_mem_nil, or_false] at hq ⊢; rcases hq with rfl | rfl | rfl | rfl | rfl <;> simp) h
set_option maxRecDepth 10000 in
theorem v_X10_puts_27 {C : aM → List Value → aH → aO → aH → Prop} {sc : Nat × (Nat → Int32)} {P : aO → aH → Prop} {σ : aH} {u : Nat}  {x1 : Int} {x2 : Int} {x3 : Int} {x4 : Int} (hG : G σ u) (rx1 : inR x1) (rx2 : inR x2) (rx3 : inR x3) (rx4 : inR x4)
    (h : ((¬ x4 = (rI σ 76 28) → L_X10_puts_75 C sc P x1 x2 x3 x4 0 σ) ∧ (x4 = (rI σ 76 28) → (∃ (r5 : Int) (σ1 : aH), C mX10_dueNow [.ref 76] σ (.inl (some (.int (nZ r5)))) σ1 ∧ G σ1 u ∧ inR r5 ∧ (((rI σ1 76 42) = (-1) → (∀ σ6 : aH, wI σ1 76 42 r5 = σ6 → (∀ σ9 : aH, wI σ6 76 43 x3 = σ9 → P (.inl none) σ9))) ∧ (¬ ((rI σ1 76 42) = (-1)) → ((r5 < (rI σ1 76 42) → (∀ σ12 : aH, wI σ1 76 42 r5 = σ12 → (∀ σ15 : aH, wI σ12 76 43 x3 = σ15 → P (.inl none) σ15))) ∧ (¬ (r5 < (rI σ1 76 42)) → P (.inl none) σ1)))))))) :
    L_X10_puts_27 C sc P x1 x2 x3 x4 σ := by
  unfold L_X10_puts_27
  refine w_iload dX10_puts_27 (List.Mem.tail _ (List.Mem.tail _ (List.Mem.tail _ (List.Mem.tail _ (List.Mem.head _))))) ?_
  refine w_aload_n dX10_puts_29 rfl (List.Mem.head _) ?_
  refine i_getI (ci := 10) 28 rfl dX10_puts_30 fl_10_218 (by decide) (gT hG rfl (lt_of rfl)) ?_
  refine i_cmp_ne (tgt := 72) dX10_puts_33 rfl rx4 (rI_R _ _ _) (fun c9 => ?_) (fun c9 => ?_)
  · replace h := h.1 c9
    refine w_iconst (v := nZ 0) dX10_puts_72 (by decide) ?_
    refine w_istore (l' := [(5, .int (nZ 0)), (0, .ref 76), (1, .int (nZ x1)), (2, .int (nZ x2)), (3, .int (nZ x3)), (4, .int (nZ x4))]) dX10_puts_73 (by decide) rfl ?_
    exact w_weak (l' := [(0, .ref 76), (1, .int (nZ x1)), (2, .int (nZ x2)), (3, .int (nZ x3)), (4, .int (nZ x4)), (5, .int (nZ 0))]) (by intro q hq; simp only [List.mem_cons, List.not_mem_nil, or_false] at hq ⊢; rcases hq with rfl | rfl | rfl | rfl | rfl | rfl <;> simp) h
  · replace h := h.2 c9
    refine w_aload_n dX10_puts_36 rfl (List.Mem.head _) ?_
    obtain ⟨r5, σ1, hc3, hG2, rr4, h⟩ := h
    refine w_callV dX10_puts_37 ml_10_281 ⟨ok_X10_dueNow, vi_X10_dueNow⟩ hs_X10_dueNow (As := []) rfl rfl (gT hG rfl (lt_of rfl)) (Nat.le_of_ble_eq_true rfl) hc3 ?_
    show wp C 10 cX10_puts 7 none false [] sc P 40 [(0, .ref 76), (1, .int (nZ x1)), (2, .int (nZ x2)), (3, .int (nZ x3)), (4, .int (nZ x4))] [.int (nZ r5)] σ1
    refine w_istore (l' := [(5, .int (nZ r5)), (0, .ref 76), (1, .int (nZ x1)), (2, .int (nZ x2)), (3, .int (nZ x3)), (4, .int (nZ x4))]) dX10_puts_40 (by decide) rfl ?_
    refine w_aload_n dX10_puts_42 rfl (List.Mem.tail _ (List.Mem.head _)) ?_
    refine i_getI (ci := 10) 42 rfl dX10_puts_43 fl_10_290 (by decide) (gT hG2 rfl (lt_of rfl)) ?_
    refine w_iconst (v := nZ (-1)) dX10_puts_46 (by decide) ?_
    refine i_cmp_eq (tgt := 60) dX10_puts_47 rfl (rI_R _ _ _) (by decide) (fun c9 => ?_) (fun c9 => ?_)
    · replace h := h.1 c9
      refine w_aload_n dX10_puts_60 rfl (List.Mem.tail _ (List.Mem.head _)) ?_
      refine w_iload dX10_puts_61 (List.Mem.head _) ?_
      refine i_putI (ci := 10) 42 rfl dX10_puts_63 fl_10_290 (by decide) (gT hG2 rfl (lt_of rfl)) (fun σ6 eσ7 => ?_)
      replace h := h σ6 eσ7
      have hG8 : G σ6 u := eσ7 ▸ G.wI hG2
      refine w_aload_n dX10_puts_66 rfl (List.Mem.tail _ (List.Mem.head _)) ?_
      refine w_iload_n dX10_puts_67 rfl (List.Mem.tail _ (List.Mem.tail _ (List.Mem.tail _ (List.Mem.tail _ (List.Mem.head _))))) ?_
      refine i_putI (ci := 10) 43 rfl dX10_puts_68 fl_10_293 (by decide) (gT hG8 rfl (lt_of rfl)) (fun σ9 eσ10 => ?_)
      replace h := h σ9 eσ10
      have hG11 : G σ9 u := eσ10 ▸ G.wI hG8
      exact w_vret dX10_puts_71 rfl h
    · replace h := h.2 c9
      refine w_iload dX10_puts_50 (List.Mem.head _) ?_
      refine w_aload_n dX10_puts_52 rfl (List.Mem.tail _ (List.Mem.head _)) ?_
      refine i_getI (ci := 10) 42 rfl dX10_puts_53 fl_10_290 (by decide) (gT hG2 rfl (lt_of rfl)) ?_
      refine i_cmp_lt (tgt := 60) dX10_puts_56 rfl rr4 (rI_R _ _ _) (fun c9 => ?_) (fun c9 => ?_)
      · replace h := h.1 c9
        refine w_aload_n dX10_puts_60 rfl (List.Mem.tail _ (List.Mem.head _)) ?_
        refine w_iload dX10_puts_61 (List.Mem.head _) ?_
        refine i_putI (ci := 10) 42 rfl dX10_puts_63 fl_10_290 (by decide) (gT hG2 rfl (lt_of rfl)) (fun σ12 eσ13 => ?_)
        replace h := h σ12 eσ13
        have hG14 : G σ12 u := eσ13 ▸ G.wI hG2
        refine w_aload_n dX10_puts_66 rfl (List.Mem.tail _ (List.Mem.head _)) ?_
        refine w_iload_n dX10_puts_67 rfl (List.Mem.tail _ (List.Mem.tail _ (List.Mem.tail _ (List.Mem.tail _ (List.Mem.head _))))) ?_
        refine i_putI (ci := 10) 43 rfl dX10_puts_68 fl_10_293 (by decide) (gT hG14 rfl (lt_of rfl)) (fun σ15 eσ16 => ?_)
        replace h := h σ15 eσ16
        have hG17 : G σ15 u := eσ16 ▸ G.wI hG14
        exact w_vret dX10_puts_71 rfl h
      · replace h := h.2 c9
        exact w_vret dX10_puts_59 rfl h
set_option maxRecDepth 10000 in
theorem v_X10_puts_75 {C : aM → List Value → aH → aO → aH → Prop} {sc : Nat × (Nat → Int32)} {P : aO → aH → Prop} {σ : aH} {u : Nat}  {x1 : Int} {x2 : Int} {x3 : Int} {x4 : Int} {x5 : Int} (hG : G σ u) (rx1 : inR x1) (rx2 : inR x2) (rx3 : inR x3) (rx4 : inR x4) (rx5 : inR x5)
    (h : (((rI σ 80 1) ≤ x5 → P (.inl none) σ) ∧ (¬ ((rI σ 80 1) ≤ x5) → L_X10_puts_89 C sc P x1 x2 x3 x4 x5 0 σ))) :
    L_X10_puts_75 C sc P x1 x2 x3 x4 x5 σ := by
  unfold L_X10_puts_75
  refine w_iload dX10_puts_75 (List.Mem.tail _ (List.Mem.tail _ (List.Mem.tail _ (List.Mem.tail _ (List.Mem.tail _ (List.Mem.head _)))))) ?_
  refine w_aload_n dX10_puts_77 rfl (List.Mem.head _) ?_
  refine w_getR (ci := 10) (k := 11) (b := 80) dX10_puts_78 fl_10_23 (by decide) (gT hG rfl (lt_of rfl)) (gR hG (b := 80) rfl) ?_
  refine w_iconst (v := nZ 1) dX10_puts_81 (by decide) ?_
  refine i_iald (n := 8) dX10_puts_82 (gT hG rfl (lt_of rfl)) (gL hG rfl) (by decide) (by decide) ?_
  refine i_cmp_ge (tgt := 182) dX10_puts_83 rfl rx5 (rI_R _ _ _) (fun c9 => ?_) (fun c9 => ?_)
  · replace h := h.1 c9
    exact w_vret dX10_puts_182 rfl h
  · replace h := h.2 c9
    refine w_iconst (v := nZ 0) dX10_puts_86 (by decide) ?_
    refine w_istore (l' := [(6, .int (nZ 0)), (0, .ref 76), (1, .int (nZ x1)), (2, .int (nZ x2)), (3, .int (nZ x3)), (4, .int (nZ x4)), (5, .int (nZ x5))]) dX10_puts_87 (by decide) rfl ?_
    exact w_weak (l' := [(0, .ref 76), (1, .int (nZ x1)), (2, .int (nZ x2)), (3, .int (nZ x3)), (4, .int (nZ x4)), (5, .int (nZ x5)), (6, .int (nZ 0))]) (by intro q hq; simp only [List.mem_cons, List.not_mem_nil, or_false] at hq ⊢; rcases hq with rfl | rfl | rfl | rfl | rfl | rfl | rfl <;> simp) h
set_option maxRecDepth 10000 in
theorem v_X10_puts_89 {C : aM → List Value → aH → aO → aH → Prop} {sc : Nat × (Nat → Int32)} {P : aO → aH → Prop} {σ : aH} {u : Nat}  {x1 : Int} {x2 : Int} {x3 : Int} {x4 : Int} {x5 : Int} {x6 : Int} (hG : G σ u) (rx1 : inR x1) (rx2 : inR x2) (rx3 : inR x3) (rx4 : inR x4) (rx5 : inR x5) (rx6 : inR x6)
    (h : (((rI σ 80 0) ≤ x6 → (inR (x5 + 1) ∧ L_X10_puts_75 C sc P x1 x2 x3 x4 (x5 + 1) σ)) ∧ (¬ ((rI σ 80 0) ≤ x6) → (∃ (r6 : Int) (σ2 : aH), C mX10_stallOn [.ref 76, .int (nZ x6), .int (nZ x5)] σ (.inl (some (.int (nZ r6)))) σ2 ∧ G σ2 u ∧ inR r6 ∧ ((r6 = (-1) → ((0 ≤ x4 ∧ x4 < 9) ∧ (∀ σ8 : aH, wI σ2 (91 + x4.toNat) 0 x6 = σ8 → ((0 ≤ x4 ∧ x4 < 9) ∧ (∀ σ12 : aH, wI σ8 (91 + x4.toNat) 1 x5 = σ12 → (inR (x4 + 1) ∧ (inR (100 * x3) ∧ (inR ((100 * x3) + x6) ∧ (inR (10 * x5) ∧ (inR (((100 * x3) + x6) + (10 * x5)) ∧ (∃ σ20 : aH, C mX10_puts [.ref 76, .int (nZ x1), .int (nZ (x4 + 1)), .int (nZ (((100 * x3) + x6) + (10 * x5)))] σ12 (.inl none) σ20 ∧ G σ20 u ∧ ((0 ≤ x4 ∧ x4 < 9) ∧ (∀ σ25 : aH, wI σ20 (91 + x4.toNat) 0 (-9) = σ25 → (inR (x6 + 1) ∧ L_X10_puts_89 C sc P x1 x2 x3 x4 x5 (x6 + 1) σ25)))))))))))))) ∧ (¬ (r6 = (-1)) → (inR (x6 + 1) ∧ L_X10_puts_89 C sc P x1 x2 x3 x4 x5 (x6 + 1) σ2))))))) :
    L_X10_puts_89 C sc P x1 x2 x3 x4 x5 x6 σ := by
  unfold L_X10_puts_89
  refine w_iload dX10_puts_89 (List.Mem.tail _ (List.Mem.tail _ (List.Mem.tail _ (List.Mem.tail _ (List.Mem.tail _ (List.Mem.tail _ (List.Mem.head _))))))) ?_
  refine w_aload_n dX10_puts_91 rfl (List.Mem.head _) ?_
  refine w_getR (ci := 10) (k := 11) (b := 80) dX10_puts_92 fl_10_23 (by decide) (gT hG rfl (lt_of rfl)) (gR hG (b := 80) rfl) ?_
  refine w_iconst (v := nZ 0) dX10_puts_95 (by decide) ?_
  refine i_iald (n := 8) dX10_puts_96 (gT hG rfl (lt_of rfl)) (gL hG rfl) (by decide) (by decide) ?_
  refine i_cmp_ge (tgt := 176) dX10_puts_97 rfl rx6 (rI_R _ _ _) (fun c9 => ?_) (fun c9 => ?_)
  · replace h := h.1 c9
    obtain ⟨q1, h⟩ := h
    refine w_iinc (v := nZ (x5 + 1)) (l' := [(5, .int (nZ (x5 + 1))), (0, .ref 76), (1, .int (nZ x1)), (2, .int (nZ x2)), (3, .int (nZ x3)), (4, .int (nZ x4)), (6, .int (nZ x6))]) dX10_puts_176 (List.Mem.tail _ (List.Mem.tail _ (List.Mem.tail _ (List.Mem.tail _ (List.Mem.tail _ (List.Mem.head _)))))) (nZ_add _ _) (by decide) rfl ?_
    refine w_goto (tgt := 75) dX10_puts_179 rfl ?_
    exact w_weak (l' := [(0, .ref 76), (1, .int (nZ x1)), (2, .int (nZ x2)), (3, .int (nZ x3)), (4, .int (nZ x4)), (5, .int (nZ (x5 + 1)))]) (by intro q hq; simp only [List.mem_cons, List.not_mem_nil, or_false] at hq ⊢; rcases hq with rfl | rfl | rfl | rfl | rfl | rfl <;> simp) h
  · replace h := h.2 c9
    refine w_aload_n dX10_puts_100 rfl (List.Mem.head _) ?_
    refine w_iload dX10_puts_101 (List.Mem.tail _ (List.Mem.tail _ (List.Mem.tail _ (List.Mem.tail _ (List.Mem.tail _ (List.Mem.tail _ (List.Mem.head _))))))) ?_
    refine w_iload dX10_puts_103 (List.Mem.tail _ (List.Mem.tail _ (List.Mem.tail _ (List.Mem.tail _ (List.Mem.tail _ (List.Mem.head _)))))) ?_
    obtain ⟨r6, σ2, hc4, hG3, rr5, h⟩ := h
    refine w_callV dX10_puts_105 ml_10_245 ⟨ok_X10_stallOn, vi_X10_stallOn⟩ hs_X10_stallOn (As := [.int (nZ x6), .int (nZ x5)]) rfl rfl (gT hG rfl (lt_of rfl)) (Nat.le_of_ble_eq_true rfl) hc4 ?_
    show wp C 10 cX10_puts 7 none false [] sc P 108 [(0, .ref 76), (1, .int (nZ x1)), (2, .int (nZ x2)), (3, .int (nZ x3)), (4, .int (nZ x4)), (5, .int (nZ x5)), (6, .int (nZ x6))] [.int (nZ r6)] σ2
    refine w_iconst (v := nZ (-1)) dX10_puts_108 (by decide) ?_
    refine i_cmp_eq (tgt := 115) dX10_puts_109 rfl rr5 (by decide) (fun c9 => ?_) (fun c9 => ?_)
    · replace h := h.1 c9
      refine w_aload_n dX10_puts_115 rfl (List.Mem.head _) ?_
      refine w_getR (ci := 10) (k := 13) (b := 90) dX10_puts_116 fl_10_31 (by decide) (gT hG3 rfl (lt_of rfl)) (gR hG3 (b := 90) rfl) ?_
      refine w_iload dX10_puts_119 (List.Mem.tail _ (List.Mem.tail _ (List.Mem.tail _ (List.Mem.tail _ (List.Mem.head _))))) ?_
      obtain ⟨h9, h⟩ := h
      have hj7 := vin_lt2 (n := 9) h9 rfl
      refine i_aald (n := 9) (b := (91 + x4.toNat)) dX10_puts_121 (gT hG3 rfl (lt_of rfl)) (gL hG3 rfl) rx4 h9 (gR hG3 (rr_90 hj7)) ?_
      refine w_iconst (v := nZ 0) dX10_puts_122 (by decide) ?_
      refine w_iload dX10_puts_123 (List.Mem.tail _ (List.Mem.tail _ (List.Mem.tail _ (List.Mem.tail _ (List.Mem.tail _ (List.Mem.tail _ (List.Mem.head _))))))) ?_
      refine i_iast (n := 7) dX10_puts_125 (gT hG3 (ro_90 _ hj7).1 (by have := hj7; omega)) (gL hG3 (ro_90 _ hj7).2) (by decide) (by decide) (fun σ8 eσ9 => ?_)
      replace h := h σ8 eσ9
      have hG10 : G σ8 u := eσ9 ▸ G.wI hG3
      refine w_aload_n dX10_puts_126 rfl (List.Mem.head _) ?_
      refine w_getR (ci := 10) (k := 13) (b := 90) dX10_puts_127 fl_10_31 (by decide) (gT hG10 rfl (lt_of rfl)) (gR hG10 (b := 90) rfl) ?_
      refine w_iload dX10_puts_130 (List.Mem.tail _ (List.Mem.tail _ (List.Mem.tail _ (List.Mem.tail _ (List.Mem.head _))))) ?_
      obtain ⟨h9, h⟩ := h
      have hj11 := vin_lt2 (n := 9) h9 rfl
      refine i_aald (n := 9) (b := (91 + x4.toNat)) dX10_puts_132 (gT hG10 rfl (lt_of rfl)) (gL hG10 rfl) rx4 h9 (gR hG10 (rr_90 hj11)) ?_
      refine w_iconst (v := nZ 1) dX10_puts_133 (by decide) ?_
      refine w_iload dX10_puts_134 (List.Mem.tail _ (List.Mem.tail _ (List.Mem.tail _ (List.Mem.tail _ (List.Mem.tail _ (List.Mem.head _)))))) ?_
      refine i_iast (n := 7) dX10_puts_136 (gT hG10 (ro_90 _ hj11).1 (by have := hj11; omega)) (gL hG10 (ro_90 _ hj11).2) (by decide) (by decide) (fun σ12 eσ13 => ?_)
      replace h := h σ12 eσ13
      have hG14 : G σ12 u := eσ13 ▸ G.wI hG10
      refine w_aload_n dX10_puts_137 rfl (List.Mem.head _) ?_
      refine w_iload_n dX10_puts_138 rfl (List.Mem.tail _ (List.Mem.head _)) ?_
      refine w_iload dX10_puts_139 (List.Mem.tail _ (List.Mem.tail _ (List.Mem.tail _ (List.Mem.tail _ (List.Mem.head _))))) ?_
      refine w_iconst (v := nZ 1) dX10_puts_141 (by decide) ?_
      obtain ⟨q15, h⟩ := h
      refine i_add dX10_puts_142 ?_
      refine w_bipush (v := nZ 100) dX10_puts_143 (by decide) ?_
      refine w_iload_n dX10_puts_145 rfl (List.Mem.tail _ (List.Mem.tail _ (List.Mem.tail _ (List.Mem.head _)))) ?_
      obtain ⟨q16, h⟩ := h
      refine i_mul dX10_puts_146 ?_
      refine w_iload dX10_puts_147 (List.Mem.tail _ (List.Mem.tail _ (List.Mem.tail _ (List.Mem.tail _ (List.Mem.tail _ (List.Mem.tail _ (List.Mem.head _))))))) ?_
      obtain ⟨q17, h⟩ := h
      refine i_add dX10_puts_149 ?_
      refine w_bipush (v := nZ 10) dX10_puts_150 (by decide) ?_
      refine w_iload dX10_puts_152 (List.Mem.tail _ (List.Mem.tail _ (List.Mem.tail _ (List.Mem.tail _ (List.Mem.tail _ (List.Mem.head _)))))) ?_
      obtain ⟨q18, h⟩ := h
      refine i_mul dX10_puts_154 ?_
      obtain ⟨q19, h⟩ := h
      refine i_add dX10_puts_155 ?_
      obtain ⟨σ20, hc22, hG21, h⟩ := h
      refine w_callV dX10_puts_156 ml_10_296 ⟨ok_X10_puts, vi_X10_puts⟩ hs_X10_puts (As := [.int (nZ x1), .int (nZ (x4 + 1)), .int (nZ (((100 * x3) + x6) + (10 * x5)))]) rfl rfl (gT hG14 rfl (lt_of rfl)) (Nat.le_of_ble_eq_true rfl) hc22 ?_
      show wp C 10 cX10_puts 7 none false [] sc P 159 [(0, .ref 76), (1, .int (nZ x1)), (2, .int (nZ x2)), (3, .int (nZ x3)), (4, .int (nZ x4)), (5, .int (nZ x5)), (6, .int (nZ x6))] [] σ20
      refine w_aload_n dX10_puts_159 rfl (List.Mem.head _) ?_
      refine w_getR (ci := 10) (k := 13) (b := 90) dX10_puts_160 fl_10_31 (by decide) (gT hG21 rfl (lt_of rfl)) (gR hG21 (b := 90) rfl) ?_
      refine w_iload dX10_puts_163 (List.Mem.tail _ (List.Mem.tail _ (List.Mem.tail _ (List.Mem.tail _ (List.Mem.head _))))) ?_
      obtain ⟨h9, h⟩ := h
      have hj24 := vin_lt2 (n := 9) h9 rfl
      refine i_aald (n := 9) (b := (91 + x4.toNat)) dX10_puts_165 (gT hG21 rfl (lt_of rfl)) (gL hG21 rfl) rx4 h9 (gR hG21 (rr_90 hj24)) ?_
      refine w_iconst (v := nZ 0) dX10_puts_166 (by decide) ?_
      refine w_bipush (v := nZ (-9)) dX10_puts_167 (by decide) ?_
      refine i_iast (n := 7) dX10_puts_169 (gT hG21 (ro_90 _ hj24).1 (by have := hj24; omega)) (gL hG21 (ro_90 _ hj24).2) (by decide) (by decide) (fun σ25 eσ26 => ?_)
      replace h := h σ25 eσ26
      have hG27 : G σ25 u := eσ26 ▸ G.wI hG21
      obtain ⟨q28, h⟩ := h
      refine w_iinc (v := nZ (x6 + 1)) (l' := [(6, .int (nZ (x6 + 1))), (0, .ref 76), (1, .int (nZ x1)), (2, .int (nZ x2)), (3, .int (nZ x3)), (4, .int (nZ x4)), (5, .int (nZ x5))]) dX10_puts_170 (List.Mem.tail _ (List.Mem.tail _ (List.Mem.tail _ (List.Mem.tail _ (List.Mem.tail _ (List.Mem.tail _ (List.Mem.head _))))))) (nZ_add _ _) (by decide) rfl ?_
      refine w_goto (tgt := 89) dX10_puts_173 rfl ?_
      exact w_weak (l' := [(0, .ref 76), (1, .int (nZ x1)), (2, .int (nZ x2)), (3, .int (nZ x3)), (4, .int (nZ x4)), (5, .int (nZ x5)), (6, .int (nZ (x6 + 1)))]) (by intro q hq; simp only [List.mem_cons, List.not_mem_nil, or_false] at hq ⊢; rcases hq with rfl | rfl | rfl | rfl | rfl | rfl | rfl <;> simp) h
    · replace h := h.2 c9
      refine w_goto (tgt := 170) dX10_puts_112 rfl ?_
      obtain ⟨q29, h⟩ := h
      refine w_iinc (v := nZ (x6 + 1)) (l' := [(6, .int (nZ (x6 + 1))), (0, .ref 76), (1, .int (nZ x1)), (2, .int (nZ x2)), (3, .int (nZ x3)), (4, .int (nZ x4)), (5, .int (nZ x5))]) dX10_puts_170 (List.Mem.tail _ (List.Mem.tail _ (List.Mem.tail _ (List.Mem.tail _ (List.Mem.tail _ (List.Mem.tail _ (List.Mem.head _))))))) (nZ_add _ _) (by decide) rfl ?_
      refine w_goto (tgt := 89) dX10_puts_173 rfl ?_
      exact w_weak (l' := [(0, .ref 76), (1, .int (nZ x1)), (2, .int (nZ x2)), (3, .int (nZ x3)), (4, .int (nZ x4)), (5, .int (nZ x5)), (6, .int (nZ (x6 + 1)))]) (by intro q hq; simp only [List.mem_cons, List.not_mem_nil, or_false] at hq ⊢; rcases hq with rfl | rfl | rfl | rfl | rfl | rfl | rfl <;> simp) h
theorem dX10_set_0 : decode cX10_set 0 = .ok (.aload_n 0, 1) := by decide +kernel
theorem dX10_set_1 : decode cX10_set 1 = .ok (.iconst 0, 1) := by decide +kernel
theorem dX10_set_2 : decode cX10_set 2 = .ok (.putfield 106, 3) := by decide +kernel
theorem dX10_set_5 : decode cX10_set 5 = .ok (.aload_n 0, 1) := by decide +kernel
theorem dX10_set_6 : decode cX10_set 6 = .ok (.iload_n 1, 1) := by decide +kernel
theorem dX10_set_7 : decode cX10_set 7 = .ok (.iconst 1, 1) := by decide +kernel
theorem dX10_set_8 : decode cX10_set 8 = .ok (.iconst 1, 1) := by decide +kernel
theorem dX10_set_9 : decode cX10_set 9 = .ok (.aload_n 0, 1) := by decide +kernel
theorem dX10_set_10 : decode cX10_set 10 = .ok (.getfield 23, 3) := by decide +kernel
theorem dX10_set_13 : decode cX10_set 13 = .ok (.iconst 2, 1) := by decide +kernel
theorem dX10_set_14 : decode cX10_set 14 = .ok (.iaload, 1) := by decide +kernel
theorem dX10_set_15 : decode cX10_set 15 = .ok (.ishl, 1) := by decide +kernel
theorem dX10_set_16 : decode cX10_set 16 = .ok (.iconst 1, 1) := by decide +kernel
theorem dX10_set_17 : decode cX10_set 17 = .ok (.isub, 1) := by decide +kernel
theorem dX10_set_18 : decode cX10_set 18 = .ok (.invokestatic 140, 3) := by decide +kernel
theorem dX10_set_21 : decode cX10_set 21 = .ok (.ifCond .eq 20, 3) := by decide +kernel
theorem dX10_set_24 : decode cX10_set 24 = .ok (.iload_n 1, 1) := by decide +kernel
theorem dX10_set_25 : decode cX10_set 25 = .ok (.invokestatic 265, 3) := by decide +kernel
theorem dX10_set_28 : decode cX10_set 28 = .ok (.iconst 2, 1) := by decide +kernel
theorem dX10_set_29 : decode cX10_set 29 = .ok (.if_icmp .gt 12, 3) := by decide +kernel
theorem dX10_set_32 : decode cX10_set 32 = .ok (.iload_n 2, 1) := by decide +kernel
theorem dX10_set_33 : decode cX10_set 33 = .ok (.iconst 0, 1) := by decide +kernel
theorem dX10_set_34 : decode cX10_set 34 = .ok (.iconst 1, 1) := by decide +kernel
theorem dX10_set_35 : decode cX10_set 35 = .ok (.invokestatic 140, 3) := by decide +kernel
theorem dX10_set_38 : decode cX10_set 38 = .ok (.ifCond .ne 7, 3) := by decide +kernel
theorem dX10_set_41 : decode cX10_set 41 = .ok (.iconst 1, 1) := by decide +kernel
theorem dX10_set_42 : decode cX10_set 42 = .ok (.goto 4, 3) := by decide +kernel
theorem dX10_set_45 : decode cX10_set 45 = .ok (.iconst 0, 1) := by decide +kernel
theorem dX10_set_46 : decode cX10_set 46 = .ok (.iconst 1, 1) := by decide +kernel
theorem dX10_set_47 : decode cX10_set 47 = .ok (.iconst 1, 1) := by decide +kernel
theorem dX10_set_48 : decode cX10_set 48 = .ok (.invokevirtual 196, 3) := by decide +kernel
theorem dX10_set_51 : decode cX10_set 51 = .ok (.ifCond .eq 5, 3) := by decide +kernel
theorem dX10_set_54 : decode cX10_set 54 = .ok (.iconst 0, 1) := by decide +kernel
theorem dX10_set_55 : decode cX10_set 55 = .ok (.ireturn, 1) := by decide +kernel
theorem dX10_set_56 : decode cX10_set 56 = .ok (.aload_n 0, 1) := by decide +kernel
theorem dX10_set_57 : decode cX10_set 57 = .ok (.aload_n 0, 1) := by decide +kernel
theorem dX10_set_58 : decode cX10_set 58 = .ok (.getfield 82, 3) := by decide +kernel
theorem dX10_set_61 : decode cX10_set 61 = .ok (.aload_n 0, 1) := by decide +kernel
theorem dX10_set_62 : decode cX10_set 62 = .ok (.getfield 85, 3) := by decide +kernel
theorem dX10_set_65 : decode cX10_set 65 = .ok (.invokevirtual 299, 3) := by decide +kernel
theorem dX10_set_68 : decode cX10_set 68 = .ok (.iconst 0, 1) := by decide +kernel
theorem dX10_set_69 : decode cX10_set 69 = .ok (.istore_n 3, 1) := by decide +kernel
theorem dX10_set_70 : decode cX10_set 70 = .ok (.iload_n 3, 1) := by decide +kernel
theorem dX10_set_71 : decode cX10_set 71 = .ok (.aload_n 0, 1) := by decide +kernel
theorem dX10_set_72 : decode cX10_set 72 = .ok (.getfield 218, 3) := by decide +kernel
theorem dX10_set_75 : decode cX10_set 75 = .ok (.if_icmp .ge 28, 3) := by decide +kernel
theorem dX10_set_78 : decode cX10_set 78 = .ok (.iload_n 1, 1) := by decide +kernel
theorem dX10_set_79 : decode cX10_set 79 = .ok (.iload_n 3, 1) := by decide +kernel
theorem dX10_set_80 : decode cX10_set 80 = .ok (.ishr, 1) := by decide +kernel
theorem dX10_set_81 : decode cX10_set 81 = .ok (.iconst 1, 1) := by decide +kernel
theorem dX10_set_82 : decode cX10_set 82 = .ok (.iand, 1) := by decide +kernel
theorem dX10_set_83 : decode cX10_set 83 = .ok (.iconst 1, 1) := by decide +kernel
theorem dX10_set_84 : decode cX10_set 84 = .ok (.if_icmp .ne 13, 3) := by decide +kernel
theorem dX10_set_87 : decode cX10_set 87 = .ok (.aload_n 0, 1) := by decide +kernel
theorem dX10_set_88 : decode cX10_set 88 = .ok (.getfield 31, 3) := by decide +kernel
theorem dX10_set_91 : decode cX10_set 91 = .ok (.iload_n 3, 1) := by decide +kernel
theorem dX10_set_92 : decode cX10_set 92 = .ok (.aaload, 1) := by decide +kernel
theorem dX10_set_93 : decode cX10_set 93 = .ok (.iconst 0, 1) := by decide +kernel
theorem dX10_set_94 : decode cX10_set 94 = .ok (.bipush (-9), 2) := by decide +kernel
theorem dX10_set_96 : decode cX10_set 96 = .ok (.iastore, 1) := by decide +kernel
theorem dX10_set_97 : decode cX10_set 97 = .ok (.iinc 3 1, 3) := by decide +kernel
theorem dX10_set_100 : decode cX10_set 100 = .ok (.goto (-30), 3) := by decide +kernel
theorem dX10_set_103 : decode cX10_set 103 = .ok (.aload_n 0, 1) := by decide +kernel
theorem dX10_set_104 : decode cX10_set 104 = .ok (.iconst (-1), 1) := by decide +kernel
theorem dX10_set_105 : decode cX10_set 105 = .ok (.putfield 290, 3) := by decide +kernel
theorem dX10_set_108 : decode cX10_set 108 = .ok (.aload_n 0, 1) := by decide +kernel
theorem dX10_set_109 : decode cX10_set 109 = .ok (.iload_n 1, 1) := by decide +kernel
theorem dX10_set_110 : decode cX10_set 110 = .ok (.iconst 0, 1) := by decide +kernel
theorem dX10_set_111 : decode cX10_set 111 = .ok (.iconst 0, 1) := by decide +kernel
theorem dX10_set_112 : decode cX10_set 112 = .ok (.invokevirtual 296, 3) := by decide +kernel
theorem dX10_set_115 : decode cX10_set 115 = .ok (.aload_n 0, 1) := by decide +kernel
theorem dX10_set_116 : decode cX10_set 116 = .ok (.aload_n 0, 1) := by decide +kernel
theorem dX10_set_117 : decode cX10_set 117 = .ok (.getfield 82, 3) := by decide +kernel
theorem dX10_set_120 : decode cX10_set 120 = .ok (.aload_n 0, 1) := by decide +kernel
theorem dX10_set_121 : decode cX10_set 121 = .ok (.getfield 85, 3) := by decide +kernel
theorem dX10_set_124 : decode cX10_set 124 = .ok (.invokevirtual 303, 3) := by decide +kernel
theorem dX10_set_127 : decode cX10_set 127 = .ok (.iload_n 2, 1) := by decide +kernel
theorem dX10_set_128 : decode cX10_set 128 = .ok (.ifCond .ne 10, 3) := by decide +kernel
theorem dX10_set_131 : decode cX10_set 131 = .ok (.aload_n 0, 1) := by decide +kernel
theorem dX10_set_132 : decode cX10_set 132 = .ok (.getfield 290, 3) := by decide +kernel
theorem dX10_set_135 : decode cX10_set 135 = .ok (.goto 7, 3) := by decide +kernel
theorem dX10_set_138 : decode cX10_set 138 = .ok (.aload_n 0, 1) := by decide +kernel
theorem dX10_set_139 : decode cX10_set 139 = .ok (.getfield 293, 3) := by decide +kernel
theorem dX10_set_142 : decode cX10_set 142 = .ok (.ireturn, 1) := by decide +kernel
def L_X10_set_41 (C : aM → List Value → aH → aO → aH → Prop) (sc : Nat × (Nat → Int32)) (P : aO → aH → Prop) (x1 : Int) (x2 : Int) (σ : aH) : Prop :=
    wp C 10 cX10_set 4 (some .int) false [] sc P 41 [(0, .ref 76), (1, .int (nZ x1)), (2, .int (nZ x2))] [.ref 76] σ
def L_X10_set_70 (C : aM → List Value → aH → aO → aH → Prop) (sc : Nat × (Nat → Int32)) (P : aO → aH → Prop) (x1 : Int) (x2 : Int) (x3 : Int) (σ : aH) : Prop :=
    wp C 10 cX10_set 4 (some .int) false [] sc P 70 [(0, .ref 76), (1, .int (nZ x1)), (2, .int (nZ x2)), (3, .int (nZ x3))] [] σ
set_option maxRecDepth 10000 in
theorem t_X10_set {sc : Nat × (Nat → Int32)} {d : Nat} {Q : aO → aH → Prop} {σ : aH} {u : Nat}  {x1 : Int} {x2 : Int} (hG : G σ u) (rx1 : inR x1) (rx2 : inR x2)
    (h : (∀ σ1 : aH, wI σ 76 0 0 = σ1 → (inR ((zShl 1 (rI σ1 80 2)) - 1) ∧ (∃ (r9 : Int) (σ5 : aH), Ev sc d mX10_in [.int (nZ x1), .int (nZ 1), .int (nZ ((zShl 1 (rI σ1 80 2)) - 1))] σ1 (.inl (some (.int (nZ r9)))) σ5 ∧ G σ5 u ∧ inR r9 ∧ ((r9 = 0 → L_X10_set_41 (Ev sc d) sc Q x1 x2 σ5) ∧ (¬ (r9 = 0) → (∃ (r14 : Int) (σ10 : aH), Ev sc d mX10_ones [.int (nZ x1)] σ5 (.inl (some (.int (nZ r14)))) σ10 ∧ G σ10 u ∧ inR r14 ∧ ((2 < r14 → L_X10_set_41 (Ev sc d) sc Q x1 x2 σ10) ∧ (¬ (2 < r14) → (∃ (r19 : Int) (σ15 : aH), Ev sc d mX10_in [.int (nZ x2), .int (nZ 0), .int (nZ 1)] σ10 (.inl (some (.int (nZ r19)))) σ15 ∧ G σ15 u ∧ inR r19 ∧ ((¬ r19 = 0 → (∃ (r24 : Int) (σ20 : aH), Ev sc d mX10_bad [.ref 76, .int (nZ 0), .int (nZ 1), .int (nZ 1)] σ15 (.inl (some (.int (nZ r24)))) σ20 ∧ G σ20 u ∧ inR r24 ∧ ((r24 = 0 → (∃ σ25 : aH, Ev sc d mX10_saves [.ref 76, .ref 316, .ref 317] σ20 (.inl none) σ25 ∧ G σ25 u ∧ L_X10_set_70 (Ev sc d) sc Q x1 x2 0 σ25)) ∧ (¬ (r24 = 0) → Q (.inl (some (.int (nZ 0)))) σ20)))) ∧ (r19 = 0 → L_X10_set_41 (Ev sc d) sc Q x1 x2 σ15)))))))))))) :
    T sc (d + 1) mX10_set [.ref 76, .int (nZ x1), .int (nZ x2)] σ Q := by
  refine T.of (c := 10) (code := cX10_set) (mL := 4) (rt := (some .int)) (ini := false) (l := [(0, .ref 76), (1, .int (nZ x1)), (2, .int (nZ x2))]) rfl rfl rfl rfl (by decide) hs_X10_set rfl rfl ?_
  refine w_aload_n dX10_set_0 rfl (List.Mem.head _) ?_
  refine w_iconst (v := nZ 0) dX10_set_1 (by decide) ?_
  refine i_putI (ci := 10) 0 rfl dX10_set_2 fl_10_106 (by decide) (gT hG rfl (lt_of rfl)) (fun σ1 eσ2 => ?_)
  replace h := h σ1 eσ2
  have hG3 : G σ1 u := eσ2 ▸ G.wI hG
  refine w_aload_n dX10_set_5 rfl (List.Mem.head _) ?_
  refine w_iload_n dX10_set_6 rfl (List.Mem.tail _ (List.Mem.head _)) ?_
  refine w_iconst (v := nZ 1) dX10_set_7 (by decide) ?_
  refine w_iconst (v := nZ 1) dX10_set_8 (by decide) ?_
  refine w_aload_n dX10_set_9 rfl (List.Mem.head _) ?_
  refine w_getR (ci := 10) (k := 11) (b := 80) dX10_set_10 fl_10_23 (by decide) (gT hG3 rfl (lt_of rfl)) (gR hG3 (b := 80) rfl) ?_
  refine w_iconst (v := nZ 2) dX10_set_13 (by decide) ?_
  refine i_iald (n := 8) dX10_set_14 (gT hG3 rfl (lt_of rfl)) (gL hG3 rfl) (by decide) (by decide) ?_
  refine i_shl dX10_set_15 ?_
  refine w_iconst (v := nZ 1) dX10_set_16 (by decide) ?_
  obtain ⟨q4, h⟩ := h
  refine i_sub dX10_set_17 ?_
  obtain ⟨r9, σ5, hc7, hG6, rr8, h⟩ := h
  refine w_callS dX10_set_18 ml_10_140 ⟨ok_X10_in, st_X10_in⟩ hs_X10_in (As := [.int (nZ x1), .int (nZ 1), .int (nZ ((zShl 1 (rI σ1 80 2)) - 1))]) rfl rfl (Nat.le_of_ble_eq_true rfl) hc7 ?_
  show wp (Ev sc d) 10 cX10_set 4 (some .int) false [] sc Q 21 [(0, .ref 76), (1, .int (nZ x1)), (2, .int (nZ x2))] [.int (nZ r9), .ref 76] σ5
  refine i_if_eq (tgt := 41) dX10_set_21 rfl rr8 (fun c9 => ?_) (fun c9 => ?_)
  · replace h := h.1 c9
    exact h
  · replace h := h.2 c9
    refine w_iload_n dX10_set_24 rfl (List.Mem.tail _ (List.Mem.head _)) ?_
    obtain ⟨r14, σ10, hc12, hG11, rr13, h⟩ := h
    refine w_callS dX10_set_25 ml_10_265 ⟨ok_X10_ones, st_X10_ones⟩ hs_X10_ones (As := [.int (nZ x1)]) rfl rfl (Nat.le_of_ble_eq_true rfl) hc12 ?_
    show wp (Ev sc d) 10 cX10_set 4 (some .int) false [] sc Q 28 [(0, .ref 76), (1, .int (nZ x1)), (2, .int (nZ x2))] [.int (nZ r14), .ref 76] σ10
    refine w_iconst (v := nZ 2) dX10_set_28 (by decide) ?_
    refine i_cmp_gt (tgt := 41) dX10_set_29 rfl rr13 (by decide) (fun c9 => ?_) (fun c9 => ?_)
    · replace h := h.1 c9
      exact h
    · replace h := h.2 c9
      refine w_iload_n dX10_set_32 rfl (List.Mem.tail _ (List.Mem.tail _ (List.Mem.head _))) ?_
      refine w_iconst (v := nZ 0) dX10_set_33 (by decide) ?_
      refine w_iconst (v := nZ 1) dX10_set_34 (by decide) ?_
      obtain ⟨r19, σ15, hc17, hG16, rr18, h⟩ := h
      refine w_callS dX10_set_35 ml_10_140 ⟨ok_X10_in, st_X10_in⟩ hs_X10_in (As := [.int (nZ x2), .int (nZ 0), .int (nZ 1)]) rfl rfl (Nat.le_of_ble_eq_true rfl) hc17 ?_
      show wp (Ev sc d) 10 cX10_set 4 (some .int) false [] sc Q 38 [(0, .ref 76), (1, .int (nZ x1)), (2, .int (nZ x2))] [.int (nZ r19), .ref 76] σ15
      refine i_if_ne (tgt := 45) dX10_set_38 rfl rr18 (fun c9 => ?_) (fun c9 => ?_)
      · replace h := h.1 c9
        refine w_iconst (v := nZ 0) dX10_set_45 (by decide) ?_
        refine w_iconst (v := nZ 1) dX10_set_46 (by decide) ?_
        refine w_iconst (v := nZ 1) dX10_set_47 (by decide) ?_
        obtain ⟨r24, σ20, hc22, hG21, rr23, h⟩ := h
        refine w_callV dX10_set_48 ml_10_196 ⟨ok_X10_bad, vi_X10_bad⟩ hs_X10_bad (As := [.int (nZ 0), .int (nZ 1), .int (nZ 1)]) rfl rfl (gT hG16 rfl (lt_of rfl)) (Nat.le_of_ble_eq_true rfl) hc22 ?_
        show wp (Ev sc d) 10 cX10_set 4 (some .int) false [] sc Q 51 [(0, .ref 76), (1, .int (nZ x1)), (2, .int (nZ x2))] [.int (nZ r24)] σ20
        refine i_if_eq (tgt := 56) dX10_set_51 rfl rr23 (fun c9 => ?_) (fun c9 => ?_)
        · replace h := h.1 c9
          refine w_aload_n dX10_set_56 rfl (List.Mem.head _) ?_
          refine w_aload_n dX10_set_57 rfl (List.Mem.head _) ?_
          refine w_getR (ci := 10) (k := 44) (b := 316) dX10_set_58 fl_10_82 (by decide) (gT hG21 rfl (lt_of rfl)) (gR hG21 (b := 316) rfl) ?_
          refine w_aload_n dX10_set_61 rfl (List.Mem.head _) ?_
          refine w_getR (ci := 10) (k := 45) (b := 317) dX10_set_62 fl_10_85 (by decide) (gT hG21 rfl (lt_of rfl)) (gR hG21 (b := 317) rfl) ?_
          obtain ⟨σ25, hc27, hG26, h⟩ := h
          refine w_callV dX10_set_65 ml_10_299 ⟨ok_X10_saves, vi_X10_saves⟩ hs_X10_saves (As := [.ref 316, .ref 317]) rfl rfl (gT hG21 rfl (lt_of rfl)) (Nat.le_of_ble_eq_true rfl) hc27 ?_
          show wp (Ev sc d) 10 cX10_set 4 (some .int) false [] sc Q 68 [(0, .ref 76), (1, .int (nZ x1)), (2, .int (nZ x2))] [] σ25
          refine w_iconst (v := nZ 0) dX10_set_68 (by decide) ?_
          refine w_istore_n (l' := [(3, .int (nZ 0)), (0, .ref 76), (1, .int (nZ x1)), (2, .int (nZ x2))]) dX10_set_69 rfl (by decide) rfl ?_
          exact w_weak (l' := [(0, .ref 76), (1, .int (nZ x1)), (2, .int (nZ x2)), (3, .int (nZ 0))]) (by intro q hq; simp only [List.mem_cons, List.not_mem_nil, or_false] at hq ⊢; rcases hq with rfl | rfl | rfl | rfl <;> simp) h
        · replace h := h.2 c9
          refine w_iconst (v := nZ 0) dX10_set_54 (by decide) ?_
          exact w_iret dX10_set_55 rfl h
      · replace h := h.2 c9
        exact h
set_option maxRecDepth 10000 in
theorem v_X10_set_41 {C : aM → List Value → aH → aO → aH → Prop} {sc : Nat × (Nat → Int32)} {P : aO → aH → Prop} {σ : aH} {u : Nat}  {x1 : Int} {x2 : Int} (hG : G σ u) (rx1 : inR x1) (rx2 : inR x2)
    (h : (∃ (r5 : Int) (σ1 : aH), C mX10_bad [.ref 76, .int (nZ 1), .int (nZ 1), .int (nZ 1)] σ (.inl (some (.int (nZ r5)))) σ1 ∧ G σ1 u ∧ inR r5 ∧ ((r5 = 0 → (∃ σ6 : aH, C mX10_saves [.ref 76, .ref 316, .ref 317] σ1 (.inl none) σ6 ∧ G σ6 u ∧ L_X10_set_70 C sc P x1 x2 0 σ6)) ∧ (¬ (r5 = 0) → P (.inl (some (.int (nZ 0)))) σ1)))) :
    L_X10_set_41 C sc P x1 x2 σ := by
  unfold L_X10_set_41
  refine w_iconst (v := nZ 1) dX10_set_41 (by decide) ?_
  refine w_goto (tgt := 46) dX10_set_42 rfl ?_
  refine w_iconst (v := nZ 1) dX10_set_46 (by decide) ?_
  refine w_iconst (v := nZ 1) dX10_set_47 (by decide) ?_
  obtain ⟨r5, σ1, hc3, hG2, rr4, h⟩ := h
  refine w_callV dX10_set_48 ml_10_196 ⟨ok_X10_bad, vi_X10_bad⟩ hs_X10_bad (As := [.int (nZ 1), .int (nZ 1), .int (nZ 1)]) rfl rfl (gT hG rfl (lt_of rfl)) (Nat.le_of_ble_eq_true rfl) hc3 ?_
  show wp C 10 cX10_set 4 (some .int) false [] sc P 51 [(0, .ref 76), (1, .int (nZ x1)), (2, .int (nZ x2))] [.int (nZ r5)] σ1
  refine i_if_eq (tgt := 56) dX10_set_51 rfl rr4 (fun c9 => ?_) (fun c9 => ?_)
  · replace h := h.1 c9
    refine w_aload_n dX10_set_56 rfl (List.Mem.head _) ?_
    refine w_aload_n dX10_set_57 rfl (List.Mem.head _) ?_
    refine w_getR (ci := 10) (k := 44) (b := 316) dX10_set_58 fl_10_82 (by decide) (gT hG2 rfl (lt_of rfl)) (gR hG2 (b := 316) rfl) ?_
    refine w_aload_n dX10_set_61 rfl (List.Mem.head _) ?_
    refine w_getR (ci := 10) (k := 45) (b := 317) dX10_set_62 fl_10_85 (by decide) (gT hG2 rfl (lt_of rfl)) (gR hG2 (b := 317) rfl) ?_
    obtain ⟨σ6, hc8, hG7, h⟩ := h
    refine w_callV dX10_set_65 ml_10_299 ⟨ok_X10_saves, vi_X10_saves⟩ hs_X10_saves (As := [.ref 316, .ref 317]) rfl rfl (gT hG2 rfl (lt_of rfl)) (Nat.le_of_ble_eq_true rfl) hc8 ?_
    show wp C 10 cX10_set 4 (some .int) false [] sc P 68 [(0, .ref 76), (1, .int (nZ x1)), (2, .int (nZ x2))] [] σ6
    refine w_iconst (v := nZ 0) dX10_set_68 (by decide) ?_
    refine w_istore_n (l' := [(3, .int (nZ 0)), (0, .ref 76), (1, .int (nZ x1)), (2, .int (nZ x2))]) dX10_set_69 rfl (by decide) rfl ?_
    exact w_weak (l' := [(0, .ref 76), (1, .int (nZ x1)), (2, .int (nZ x2)), (3, .int (nZ 0))]) (by intro q hq; simp only [List.mem_cons, List.not_mem_nil, or_false] at hq ⊢; rcases hq with rfl | rfl | rfl | rfl <;> simp) h
  · replace h := h.2 c9
    refine w_iconst (v := nZ 0) dX10_set_54 (by decide) ?_
    exact w_iret dX10_set_55 rfl h
set_option maxRecDepth 10000 in
theorem v_X10_set_70 {C : aM → List Value → aH → aO → aH → Prop} {sc : Nat × (Nat → Int32)} {P : aO → aH → Prop} {σ : aH} {u : Nat}  {x1 : Int} {x2 : Int} {x3 : Int} (hG : G σ u) (rx1 : inR x1) (rx2 : inR x2) (rx3 : inR x3)
    (h : (((rI σ 76 28) ≤ x3 → (∀ σ1 : aH, wI σ 76 42 (-1) = σ1 → (∃ σ4 : aH, C mX10_puts [.ref 76, .int (nZ x1), .int (nZ 0), .int (nZ 0)] σ1 (.inl none) σ4 ∧ G σ4 u ∧ (∃ σ8 : aH, C mX10_setsBack [.ref 76, .ref 316, .ref 317] σ4 (.inl none) σ8 ∧ G σ8 u ∧ ((¬ x2 = 0 → P (.inl (some (.int (nZ (rI σ8 76 43))))) σ8) ∧ (x2 = 0 → P (.inl (some (.int (nZ (rI σ8 76 42))))) σ8)))))) ∧ (¬ ((rI σ 76 28) ≤ x3) → ((¬ (zAnd (zShr x1 x3) 1) = 1 → (inR (x3 + 1) ∧ L_X10_set_70 C sc P x1 x2 (x3 + 1) σ)) ∧ ((zAnd (zShr x1 x3) 1) = 1 → ((0 ≤ x3 ∧ x3 < 9) ∧ (∀ σ14 : aH, wI σ (91 + x3.toNat) 0 (-9) = σ14 → (inR (x3 + 1) ∧ L_X10_set_70 C sc P x1 x2 (x3 + 1) σ14)))))))) :
    L_X10_set_70 C sc P x1 x2 x3 σ := by
  unfold L_X10_set_70
  refine w_iload_n dX10_set_70 rfl (List.Mem.tail _ (List.Mem.tail _ (List.Mem.tail _ (List.Mem.head _)))) ?_
  refine w_aload_n dX10_set_71 rfl (List.Mem.head _) ?_
  refine i_getI (ci := 10) 28 rfl dX10_set_72 fl_10_218 (by decide) (gT hG rfl (lt_of rfl)) ?_
  refine i_cmp_ge (tgt := 103) dX10_set_75 rfl rx3 (rI_R _ _ _) (fun c9 => ?_) (fun c9 => ?_)
  · replace h := h.1 c9
    refine w_aload_n dX10_set_103 rfl (List.Mem.head _) ?_
    refine w_iconst (v := nZ (-1)) dX10_set_104 (by decide) ?_
    refine i_putI (ci := 10) 42 rfl dX10_set_105 fl_10_290 (by decide) (gT hG rfl (lt_of rfl)) (fun σ1 eσ2 => ?_)
    replace h := h σ1 eσ2
    have hG3 : G σ1 u := eσ2 ▸ G.wI hG
    refine w_aload_n dX10_set_108 rfl (List.Mem.head _) ?_
    refine w_iload_n dX10_set_109 rfl (List.Mem.tail _ (List.Mem.head _)) ?_
    refine w_iconst (v := nZ 0) dX10_set_110 (by decide) ?_
    refine w_iconst (v := nZ 0) dX10_set_111 (by decide) ?_
    obtain ⟨σ4, hc6, hG5, h⟩ := h
    refine w_callV dX10_set_112 ml_10_296 ⟨ok_X10_puts, vi_X10_puts⟩ hs_X10_puts (As := [.int (nZ x1), .int (nZ 0), .int (nZ 0)]) rfl rfl (gT hG3 rfl (lt_of rfl)) (Nat.le_of_ble_eq_true rfl) hc6 ?_
    show wp C 10 cX10_set 4 (some .int) false [] sc P 115 [(0, .ref 76), (1, .int (nZ x1)), (2, .int (nZ x2)), (3, .int (nZ x3))] [] σ4
    refine w_aload_n dX10_set_115 rfl (List.Mem.head _) ?_
    refine w_aload_n dX10_set_116 rfl (List.Mem.head _) ?_
    refine w_getR (ci := 10) (k := 44) (b := 316) dX10_set_117 fl_10_82 (by decide) (gT hG5 rfl (lt_of rfl)) (gR hG5 (b := 316) rfl) ?_
    refine w_aload_n dX10_set_120 rfl (List.Mem.head _) ?_
    refine w_getR (ci := 10) (k := 45) (b := 317) dX10_set_121 fl_10_85 (by decide) (gT hG5 rfl (lt_of rfl)) (gR hG5 (b := 317) rfl) ?_
    obtain ⟨σ8, hc10, hG9, h⟩ := h
    refine w_callV dX10_set_124 ml_10_303 ⟨ok_X10_setsBack, vi_X10_setsBack⟩ hs_X10_setsBack (As := [.ref 316, .ref 317]) rfl rfl (gT hG5 rfl (lt_of rfl)) (Nat.le_of_ble_eq_true rfl) hc10 ?_
    show wp C 10 cX10_set 4 (some .int) false [] sc P 127 [(0, .ref 76), (1, .int (nZ x1)), (2, .int (nZ x2)), (3, .int (nZ x3))] [] σ8
    refine w_iload_n dX10_set_127 rfl (List.Mem.tail _ (List.Mem.tail _ (List.Mem.head _))) ?_
    refine i_if_ne (tgt := 138) dX10_set_128 rfl rx2 (fun c9 => ?_) (fun c9 => ?_)
    · replace h := h.1 c9
      refine w_aload_n dX10_set_138 rfl (List.Mem.head _) ?_
      refine i_getI (ci := 10) 43 rfl dX10_set_139 fl_10_293 (by decide) (gT hG9 rfl (lt_of rfl)) ?_
      exact w_iret dX10_set_142 rfl h
    · replace h := h.2 c9
      refine w_aload_n dX10_set_131 rfl (List.Mem.head _) ?_
      refine i_getI (ci := 10) 42 rfl dX10_set_132 fl_10_290 (by decide) (gT hG9 rfl (lt_of rfl)) ?_
      refine w_goto (tgt := 142) dX10_set_135 rfl ?_
      exact w_iret dX10_set_142 rfl h
  · replace h := h.2 c9
    refine w_iload_n dX10_set_78 rfl (List.Mem.tail _ (List.Mem.head _)) ?_
    refine w_iload_n dX10_set_79 rfl (List.Mem.tail _ (List.Mem.tail _ (List.Mem.tail _ (List.Mem.head _)))) ?_
    refine i_shr dX10_set_80 ?_
    refine w_iconst (v := nZ 1) dX10_set_81 (by decide) ?_
    refine i_and dX10_set_82 ?_
    refine w_iconst (v := nZ 1) dX10_set_83 (by decide) ?_
    refine i_cmp_ne (tgt := 97) dX10_set_84 rfl (zAnd_R _ _) (by decide) (fun c9 => ?_) (fun c9 => ?_)
    · replace h := h.1 c9
      obtain ⟨q12, h⟩ := h
      refine w_iinc (v := nZ (x3 + 1)) (l' := [(3, .int (nZ (x3 + 1))), (0, .ref 76), (1, .int (nZ x1)), (2, .int (nZ x2))]) dX10_set_97 (List.Mem.tail _ (List.Mem.tail _ (List.Mem.tail _ (List.Mem.head _)))) (nZ_add _ _) (by decide) rfl ?_
      refine w_goto (tgt := 70) dX10_set_100 rfl ?_
      exact w_weak (l' := [(0, .ref 76), (1, .int (nZ x1)), (2, .int (nZ x2)), (3, .int (nZ (x3 + 1)))]) (by intro q hq; simp only [List.mem_cons, List.not_mem_nil, or_false] at hq ⊢; rcases hq with rfl | rfl | rfl | rfl <;> simp) h
    · replace h := h.2 c9
      refine w_aload_n dX10_set_87 rfl (List.Mem.head _) ?_
      refine w_getR (ci := 10) (k := 13) (b := 90) dX10_set_88 fl_10_31 (by decide) (gT hG rfl (lt_of rfl)) (gR hG (b := 90) rfl) ?_
      refine w_iload_n dX10_set_91 rfl (List.Mem.tail _ (List.Mem.tail _ (List.Mem.tail _ (List.Mem.head _)))) ?_
      obtain ⟨h9, h⟩ := h
      have hj13 := vin_lt2 (n := 9) h9 rfl
      refine i_aald (n := 9) (b := (91 + x3.toNat)) dX10_set_92 (gT hG rfl (lt_of rfl)) (gL hG rfl) rx3 h9 (gR hG (rr_90 hj13)) ?_
      refine w_iconst (v := nZ 0) dX10_set_93 (by decide) ?_
      refine w_bipush (v := nZ (-9)) dX10_set_94 (by decide) ?_
      refine i_iast (n := 7) dX10_set_96 (gT hG (ro_90 _ hj13).1 (by have := hj13; omega)) (gL hG (ro_90 _ hj13).2) (by decide) (by decide) (fun σ14 eσ15 => ?_)
      replace h := h σ14 eσ15
      have hG16 : G σ14 u := eσ15 ▸ G.wI hG
      obtain ⟨q17, h⟩ := h
      refine w_iinc (v := nZ (x3 + 1)) (l' := [(3, .int (nZ (x3 + 1))), (0, .ref 76), (1, .int (nZ x1)), (2, .int (nZ x2))]) dX10_set_97 (List.Mem.tail _ (List.Mem.tail _ (List.Mem.tail _ (List.Mem.head _)))) (nZ_add _ _) (by decide) rfl ?_
      refine w_goto (tgt := 70) dX10_set_100 rfl ?_
      exact w_weak (l' := [(0, .ref 76), (1, .int (nZ x1)), (2, .int (nZ x2)), (3, .int (nZ (x3 + 1)))]) (by intro q hq; simp only [List.mem_cons, List.not_mem_nil, or_false] at hq ⊢; rcases hq with rfl | rfl | rfl | rfl <;> simp) h
theorem dX10_saves_0 : decode cX10_saves 0 = .ok (.iconst 0, 1) := by decide +kernel
theorem dX10_saves_1 : decode cX10_saves 1 = .ok (.istore_n 3, 1) := by decide +kernel
theorem dX10_saves_2 : decode cX10_saves 2 = .ok (.iload_n 3, 1) := by decide +kernel
theorem dX10_saves_3 : decode cX10_saves 3 = .ok (.bipush 9, 2) := by decide +kernel
theorem dX10_saves_5 : decode cX10_saves 5 = .ok (.if_icmp .ge 31, 3) := by decide +kernel
theorem dX10_saves_8 : decode cX10_saves 8 = .ok (.aload_n 1, 1) := by decide +kernel
theorem dX10_saves_9 : decode cX10_saves 9 = .ok (.iload_n 3, 1) := by decide +kernel
theorem dX10_saves_10 : decode cX10_saves 10 = .ok (.aload_n 0, 1) := by decide +kernel
theorem dX10_saves_11 : decode cX10_saves 11 = .ok (.getfield 31, 3) := by decide +kernel
theorem dX10_saves_14 : decode cX10_saves 14 = .ok (.iload_n 3, 1) := by decide +kernel
theorem dX10_saves_15 : decode cX10_saves 15 = .ok (.aaload, 1) := by decide +kernel
theorem dX10_saves_16 : decode cX10_saves 16 = .ok (.iconst 0, 1) := by decide +kernel
theorem dX10_saves_17 : decode cX10_saves 17 = .ok (.iaload, 1) := by decide +kernel
theorem dX10_saves_18 : decode cX10_saves 18 = .ok (.iastore, 1) := by decide +kernel
theorem dX10_saves_19 : decode cX10_saves 19 = .ok (.aload_n 2, 1) := by decide +kernel
theorem dX10_saves_20 : decode cX10_saves 20 = .ok (.iload_n 3, 1) := by decide +kernel
theorem dX10_saves_21 : decode cX10_saves 21 = .ok (.aload_n 0, 1) := by decide +kernel
theorem dX10_saves_22 : decode cX10_saves 22 = .ok (.getfield 31, 3) := by decide +kernel
theorem dX10_saves_25 : decode cX10_saves 25 = .ok (.iload_n 3, 1) := by decide +kernel
theorem dX10_saves_26 : decode cX10_saves 26 = .ok (.aaload, 1) := by decide +kernel
theorem dX10_saves_27 : decode cX10_saves 27 = .ok (.iconst 1, 1) := by decide +kernel
theorem dX10_saves_28 : decode cX10_saves 28 = .ok (.iaload, 1) := by decide +kernel
theorem dX10_saves_29 : decode cX10_saves 29 = .ok (.iastore, 1) := by decide +kernel
theorem dX10_saves_30 : decode cX10_saves 30 = .ok (.iinc 3 1, 3) := by decide +kernel
theorem dX10_saves_33 : decode cX10_saves 33 = .ok (.goto (-31), 3) := by decide +kernel
theorem dX10_saves_36 : decode cX10_saves 36 = .ok (.return_, 1) := by decide +kernel
def L_X10_savesA_2 (C : aM → List Value → aH → aO → aH → Prop) (sc : Nat × (Nat → Int32)) (P : aO → aH → Prop) (x3 : Int) (σ : aH) : Prop :=
    wp C 10 cX10_saves 4 none false [] sc P 2 [(0, .ref 76), (1, .ref 316), (2, .ref 317), (3, .int (nZ x3))] [] σ
set_option maxRecDepth 10000 in
theorem t_X10_savesA {sc : Nat × (Nat → Int32)} {d : Nat} {Q : aO → aH → Prop} {σ : aH} {u : Nat}   (hG : G σ u) 
    (h : L_X10_savesA_2 (Ev sc d) sc Q 0 σ) :
    T sc (d + 1) mX10_saves [.ref 76, .ref 316, .ref 317] σ Q := by
  refine T.of (c := 10) (code := cX10_saves) (mL := 4) (rt := none) (ini := false) (l := [(0, .ref 76), (1, .ref 316), (2, .ref 317)]) rfl rfl rfl rfl (by decide) hs_X10_saves rfl rfl ?_
  refine w_iconst (v := nZ 0) dX10_saves_0 (by decide) ?_
  refine w_istore_n (l' := [(3, .int (nZ 0)), (0, .ref 76), (1, .ref 316), (2, .ref 317)]) dX10_saves_1 rfl (by decide) rfl ?_
  exact w_weak (l' := [(0, .ref 76), (1, .ref 316), (2, .ref 317), (3, .int (nZ 0))]) (by intro q hq; simp only [List.mem_cons, List.not_mem_nil, or_false] at hq ⊢; rcases hq with rfl | rfl | rfl | rfl <;> simp) h
set_option maxRecDepth 10000 in
theorem v_X10_savesA_2 {C : aM → List Value → aH → aO → aH → Prop} {sc : Nat × (Nat → Int32)} {P : aO → aH → Prop} {σ : aH} {u : Nat}  {x3 : Int} (hG : G σ u) (rx3 : inR x3)
    (h : ((9 ≤ x3 → P (.inl none) σ) ∧ (¬ (9 ≤ x3) → ((0 ≤ x3 ∧ x3 < 9) ∧ ((0 ≤ x3 ∧ x3 < 9) ∧ (∀ σ2 : aH, wI σ 316 x3 (rI σ (91 + x3.toNat) 0) = σ2 → ((0 ≤ x3 ∧ x3 < 9) ∧ ((0 ≤ x3 ∧ x3 < 9) ∧ (∀ σ6 : aH, wI σ2 317 x3 (rI σ2 (91 + x3.toNat) 1) = σ6 → (inR (x3 + 1) ∧ L_X10_savesA_2 C sc P (x3 + 1) σ6)))))))))) :
    L_X10_savesA_2 C sc P x3 σ := by
  unfold L_X10_savesA_2
  refine w_iload_n dX10_saves_2 rfl (List.Mem.tail _ (List.Mem.tail _ (List.Mem.tail _ (List.Mem.head _)))) ?_
  refine w_bipush (v := nZ 9) dX10_saves_3 (by decide) ?_
  refine i_cmp_ge (tgt := 36) dX10_saves_5 rfl rx3 (by decide) (fun c9 => ?_) (fun c9 => ?_)
  · replace h := h.1 c9
    exact w_vret dX10_saves_36 rfl h
  · replace h := h.2 c9
    refine w_aload_n dX10_saves_8 rfl (List.Mem.tail _ (List.Mem.head _)) ?_
    refine w_iload_n dX10_saves_9 rfl (List.Mem.tail _ (List.Mem.tail _ (List.Mem.tail _ (List.Mem.head _)))) ?_
    refine w_aload_n dX10_saves_10 rfl (List.Mem.head _) ?_
    refine w_getR (ci := 10) (k := 13) (b := 90) dX10_saves_11 fl_10_31 (by decide) (gT hG rfl (lt_of rfl)) (gR hG (b := 90) rfl) ?_
    refine w_iload_n dX10_saves_14 rfl (List.Mem.tail _ (List.Mem.tail _ (List.Mem.tail _ (List.Mem.head _)))) ?_
    obtain ⟨h9, h⟩ := h
    have hj1 := vin_lt2 (n := 9) h9 rfl
    refine i_aald (n := 9) (b := (91 + x3.toNat)) dX10_saves_15 (gT hG rfl (lt_of rfl)) (gL hG rfl) rx3 h9 (gR hG (rr_90 hj1)) ?_
    refine w_iconst (v := nZ 0) dX10_saves_16 (by decide) ?_
    refine i_iald (n := 7) dX10_saves_17 (gT hG (ro_90 _ hj1).1 (by have := hj1; omega)) (gL hG (ro_90 _ hj1).2) (by decide) (by decide) ?_
    obtain ⟨h9, h⟩ := h
    refine i_iast (n := 9) dX10_saves_18 (gT hG rfl (lt_of rfl)) (gL hG rfl) rx3 h9 (fun σ2 eσ3 => ?_)
    replace h := h σ2 eσ3
    have hG4 : G σ2 u := eσ3 ▸ G.wI hG
    refine w_aload_n dX10_saves_19 rfl (List.Mem.tail _ (List.Mem.tail _ (List.Mem.head _))) ?_
    refine w_iload_n dX10_saves_20 rfl (List.Mem.tail _ (List.Mem.tail _ (List.Mem.tail _ (List.Mem.head _)))) ?_
    refine w_aload_n dX10_saves_21 rfl (List.Mem.head _) ?_
    refine w_getR (ci := 10) (k := 13) (b := 90) dX10_saves_22 fl_10_31 (by decide) (gT hG4 rfl (lt_of rfl)) (gR hG4 (b := 90) rfl) ?_
    refine w_iload_n dX10_saves_25 rfl (List.Mem.tail _ (List.Mem.tail _ (List.Mem.tail _ (List.Mem.head _)))) ?_
    obtain ⟨h9, h⟩ := h
    have hj5 := vin_lt2 (n := 9) h9 rfl
    refine i_aald (n := 9) (b := (91 + x3.toNat)) dX10_saves_26 (gT hG4 rfl (lt_of rfl)) (gL hG4 rfl) rx3 h9 (gR hG4 (rr_90 hj5)) ?_
    refine w_iconst (v := nZ 1) dX10_saves_27 (by decide) ?_
    refine i_iald (n := 7) dX10_saves_28 (gT hG4 (ro_90 _ hj5).1 (by have := hj5; omega)) (gL hG4 (ro_90 _ hj5).2) (by decide) (by decide) ?_
    obtain ⟨h9, h⟩ := h
    refine i_iast (n := 9) dX10_saves_29 (gT hG4 rfl (lt_of rfl)) (gL hG4 rfl) rx3 h9 (fun σ6 eσ7 => ?_)
    replace h := h σ6 eσ7
    have hG8 : G σ6 u := eσ7 ▸ G.wI hG4
    obtain ⟨q9, h⟩ := h
    refine w_iinc (v := nZ (x3 + 1)) (l' := [(3, .int (nZ (x3 + 1))), (0, .ref 76), (1, .ref 316), (2, .ref 317)]) dX10_saves_30 (List.Mem.tail _ (List.Mem.tail _ (List.Mem.tail _ (List.Mem.head _)))) (nZ_add _ _) (by decide) rfl ?_
    refine w_goto (tgt := 2) dX10_saves_33 rfl ?_
    exact w_weak (l' := [(0, .ref 76), (1, .ref 316), (2, .ref 317), (3, .int (nZ (x3 + 1)))]) (by intro q hq; simp only [List.mem_cons, List.not_mem_nil, or_false] at hq ⊢; rcases hq with rfl | rfl | rfl | rfl <;> simp) h
def L_X10_savesB_2 (C : aM → List Value → aH → aO → aH → Prop) (sc : Nat × (Nat → Int32)) (P : aO → aH → Prop) (x3 : Int) (σ : aH) : Prop :=
    wp C 10 cX10_saves 4 none false [] sc P 2 [(0, .ref 76), (1, .ref 318), (2, .ref 319), (3, .int (nZ x3))] [] σ
set_option maxRecDepth 10000 in
theorem t_X10_savesB {sc : Nat × (Nat → Int32)} {d : Nat} {Q : aO → aH → Prop} {σ : aH} {u : Nat}   (hG : G σ u) 
    (h : L_X10_savesB_2 (Ev sc d) sc Q 0 σ) :
    T sc (d + 1) mX10_saves [.ref 76, .ref 318, .ref 319] σ Q := by
  refine T.of (c := 10) (code := cX10_saves) (mL := 4) (rt := none) (ini := false) (l := [(0, .ref 76), (1, .ref 318), (2, .ref 319)]) rfl rfl rfl rfl (by decide) hs_X10_saves rfl rfl ?_
  refine w_iconst (v := nZ 0) dX10_saves_0 (by decide) ?_
  refine w_istore_n (l' := [(3, .int (nZ 0)), (0, .ref 76), (1, .ref 318), (2, .ref 319)]) dX10_saves_1 rfl (by decide) rfl ?_
  exact w_weak (l' := [(0, .ref 76), (1, .ref 318), (2, .ref 319), (3, .int (nZ 0))]) (by intro q hq; simp only [List.mem_cons, List.not_mem_nil, or_false] at hq ⊢; rcases hq with rfl | rfl | rfl | rfl <;> simp) h
set_option maxRecDepth 10000 in
theorem v_X10_savesB_2 {C : aM → List Value → aH → aO → aH → Prop} {sc : Nat × (Nat → Int32)} {P : aO → aH → Prop} {σ : aH} {u : Nat}  {x3 : Int} (hG : G σ u) (rx3 : inR x3)
    (h : ((9 ≤ x3 → P (.inl none) σ) ∧ (¬ (9 ≤ x3) → ((0 ≤ x3 ∧ x3 < 9) ∧ ((0 ≤ x3 ∧ x3 < 9) ∧ (∀ σ2 : aH, wI σ 318 x3 (rI σ (91 + x3.toNat) 0) = σ2 → ((0 ≤ x3 ∧ x3 < 9) ∧ ((0 ≤ x3 ∧ x3 < 9) ∧ (∀ σ6 : aH, wI σ2 319 x3 (rI σ2 (91 + x3.toNat) 1) = σ6 → (inR (x3 + 1) ∧ L_X10_savesB_2 C sc P (x3 + 1) σ6)))))))))) :
    L_X10_savesB_2 C sc P x3 σ := by
  unfold L_X10_savesB_2
  refine w_iload_n dX10_saves_2 rfl (List.Mem.tail _ (List.Mem.tail _ (List.Mem.tail _ (List.Mem.head _)))) ?_
  refine w_bipush (v := nZ 9) dX10_saves_3 (by decide) ?_
  refine i_cmp_ge (tgt := 36) dX10_saves_5 rfl rx3 (by decide) (fun c9 => ?_) (fun c9 => ?_)
  · replace h := h.1 c9
    exact w_vret dX10_saves_36 rfl h
  · replace h := h.2 c9
    refine w_aload_n dX10_saves_8 rfl (List.Mem.tail _ (List.Mem.head _)) ?_
    refine w_iload_n dX10_saves_9 rfl (List.Mem.tail _ (List.Mem.tail _ (List.Mem.tail _ (List.Mem.head _)))) ?_
    refine w_aload_n dX10_saves_10 rfl (List.Mem.head _) ?_
    refine w_getR (ci := 10) (k := 13) (b := 90) dX10_saves_11 fl_10_31 (by decide) (gT hG rfl (lt_of rfl)) (gR hG (b := 90) rfl) ?_
    refine w_iload_n dX10_saves_14 rfl (List.Mem.tail _ (List.Mem.tail _ (List.Mem.tail _ (List.Mem.head _)))) ?_
    obtain ⟨h9, h⟩ := h
    have hj1 := vin_lt2 (n := 9) h9 rfl
    refine i_aald (n := 9) (b := (91 + x3.toNat)) dX10_saves_15 (gT hG rfl (lt_of rfl)) (gL hG rfl) rx3 h9 (gR hG (rr_90 hj1)) ?_
    refine w_iconst (v := nZ 0) dX10_saves_16 (by decide) ?_
    refine i_iald (n := 7) dX10_saves_17 (gT hG (ro_90 _ hj1).1 (by have := hj1; omega)) (gL hG (ro_90 _ hj1).2) (by decide) (by decide) ?_
    obtain ⟨h9, h⟩ := h
    refine i_iast (n := 9) dX10_saves_18 (gT hG rfl (lt_of rfl)) (gL hG rfl) rx3 h9 (fun σ2 eσ3 => ?_)
    replace h := h σ2 eσ3
    have hG4 : G σ2 u := eσ3 ▸ G.wI hG
    refine w_aload_n dX10_saves_19 rfl (List.Mem.tail _ (List.Mem.tail _ (List.Mem.head _))) ?_
    refine w_iload_n dX10_saves_20 rfl (List.Mem.tail _ (List.Mem.tail _ (List.Mem.tail _ (List.Mem.head _)))) ?_
    refine w_aload_n dX10_saves_21 rfl (List.Mem.head _) ?_
    refine w_getR (ci := 10) (k := 13) (b := 90) dX10_saves_22 fl_10_31 (by decide) (gT hG4 rfl (lt_of rfl)) (gR hG4 (b := 90) rfl) ?_
    refine w_iload_n dX10_saves_25 rfl (List.Mem.tail _ (List.Mem.tail _ (List.Mem.tail _ (List.Mem.head _)))) ?_
    obtain ⟨h9, h⟩ := h
    have hj5 := vin_lt2 (n := 9) h9 rfl
    refine i_aald (n := 9) (b := (91 + x3.toNat)) dX10_saves_26 (gT hG4 rfl (lt_of rfl)) (gL hG4 rfl) rx3 h9 (gR hG4 (rr_90 hj5)) ?_
    refine w_iconst (v := nZ 1) dX10_saves_27 (by decide) ?_
    refine i_iald (n := 7) dX10_saves_28 (gT hG4 (ro_90 _ hj5).1 (by have := hj5; omega)) (gL hG4 (ro_90 _ hj5).2) (by decide) (by decide) ?_
    obtain ⟨h9, h⟩ := h
    refine i_iast (n := 9) dX10_saves_29 (gT hG4 rfl (lt_of rfl)) (gL hG4 rfl) rx3 h9 (fun σ6 eσ7 => ?_)
    replace h := h σ6 eσ7
    have hG8 : G σ6 u := eσ7 ▸ G.wI hG4
    obtain ⟨q9, h⟩ := h
    refine w_iinc (v := nZ (x3 + 1)) (l' := [(3, .int (nZ (x3 + 1))), (0, .ref 76), (1, .ref 318), (2, .ref 319)]) dX10_saves_30 (List.Mem.tail _ (List.Mem.tail _ (List.Mem.tail _ (List.Mem.head _)))) (nZ_add _ _) (by decide) rfl ?_
    refine w_goto (tgt := 2) dX10_saves_33 rfl ?_
    exact w_weak (l' := [(0, .ref 76), (1, .ref 318), (2, .ref 319), (3, .int (nZ (x3 + 1)))]) (by intro q hq; simp only [List.mem_cons, List.not_mem_nil, or_false] at hq ⊢; rcases hq with rfl | rfl | rfl | rfl <;> simp) h
theorem dX10_setsBack_0 : decode cX10_setsBack 0 = .ok (.iconst 0, 1) := by decide +kernel
theorem dX10_setsBack_1 : decode cX10_setsBack 1 = .ok (.istore_n 3, 1) := by decide +kernel
theorem dX10_setsBack_2 : decode cX10_setsBack 2 = .ok (.iload_n 3, 1) := by decide +kernel
theorem dX10_setsBack_3 : decode cX10_setsBack 3 = .ok (.bipush 9, 2) := by decide +kernel
theorem dX10_setsBack_5 : decode cX10_setsBack 5 = .ok (.if_icmp .ge 31, 3) := by decide +kernel
theorem dX10_setsBack_8 : decode cX10_setsBack 8 = .ok (.aload_n 0, 1) := by decide +kernel
theorem dX10_setsBack_9 : decode cX10_setsBack 9 = .ok (.getfield 31, 3) := by decide +kernel
theorem dX10_setsBack_12 : decode cX10_setsBack 12 = .ok (.iload_n 3, 1) := by decide +kernel
theorem dX10_setsBack_13 : decode cX10_setsBack 13 = .ok (.aaload, 1) := by decide +kernel
theorem dX10_setsBack_14 : decode cX10_setsBack 14 = .ok (.iconst 0, 1) := by decide +kernel
theorem dX10_setsBack_15 : decode cX10_setsBack 15 = .ok (.aload_n 1, 1) := by decide +kernel
theorem dX10_setsBack_16 : decode cX10_setsBack 16 = .ok (.iload_n 3, 1) := by decide +kernel
theorem dX10_setsBack_17 : decode cX10_setsBack 17 = .ok (.iaload, 1) := by decide +kernel
theorem dX10_setsBack_18 : decode cX10_setsBack 18 = .ok (.iastore, 1) := by decide +kernel
theorem dX10_setsBack_19 : decode cX10_setsBack 19 = .ok (.aload_n 0, 1) := by decide +kernel
theorem dX10_setsBack_20 : decode cX10_setsBack 20 = .ok (.getfield 31, 3) := by decide +kernel
theorem dX10_setsBack_23 : decode cX10_setsBack 23 = .ok (.iload_n 3, 1) := by decide +kernel
theorem dX10_setsBack_24 : decode cX10_setsBack 24 = .ok (.aaload, 1) := by decide +kernel
theorem dX10_setsBack_25 : decode cX10_setsBack 25 = .ok (.iconst 1, 1) := by decide +kernel
theorem dX10_setsBack_26 : decode cX10_setsBack 26 = .ok (.aload_n 2, 1) := by decide +kernel
theorem dX10_setsBack_27 : decode cX10_setsBack 27 = .ok (.iload_n 3, 1) := by decide +kernel
theorem dX10_setsBack_28 : decode cX10_setsBack 28 = .ok (.iaload, 1) := by decide +kernel
theorem dX10_setsBack_29 : decode cX10_setsBack 29 = .ok (.iastore, 1) := by decide +kernel
theorem dX10_setsBack_30 : decode cX10_setsBack 30 = .ok (.iinc 3 1, 3) := by decide +kernel
theorem dX10_setsBack_33 : decode cX10_setsBack 33 = .ok (.goto (-31), 3) := by decide +kernel
theorem dX10_setsBack_36 : decode cX10_setsBack 36 = .ok (.return_, 1) := by decide +kernel
def L_X10_setsBackA_2 (C : aM → List Value → aH → aO → aH → Prop) (sc : Nat × (Nat → Int32)) (P : aO → aH → Prop) (x3 : Int) (σ : aH) : Prop :=
    wp C 10 cX10_setsBack 4 none false [] sc P 2 [(0, .ref 76), (1, .ref 316), (2, .ref 317), (3, .int (nZ x3))] [] σ
set_option maxRecDepth 10000 in
theorem t_X10_setsBackA {sc : Nat × (Nat → Int32)} {d : Nat} {Q : aO → aH → Prop} {σ : aH} {u : Nat}   (hG : G σ u) 
    (h : L_X10_setsBackA_2 (Ev sc d) sc Q 0 σ) :
    T sc (d + 1) mX10_setsBack [.ref 76, .ref 316, .ref 317] σ Q := by
  refine T.of (c := 10) (code := cX10_setsBack) (mL := 4) (rt := none) (ini := false) (l := [(0, .ref 76), (1, .ref 316), (2, .ref 317)]) rfl rfl rfl rfl (by decide) hs_X10_setsBack rfl rfl ?_
  refine w_iconst (v := nZ 0) dX10_setsBack_0 (by decide) ?_
  refine w_istore_n (l' := [(3, .int (nZ 0)), (0, .ref 76), (1, .ref 316), (2, .ref 317)]) dX10_setsBack_1 rfl (by decide) rfl ?_
  exact w_weak (l' := [(0, .ref 76), (1, .ref 316), (2, .ref 317), (3, .int (nZ 0))]) (by intro q hq; simp only [List.mem_cons, List.not_mem_nil, or_false] at hq ⊢; rcases hq with rfl | rfl | rfl | rfl <;> simp) h
set_option maxRecDepth 10000 in
theorem v_X10_setsBackA_2 {C : aM → List Value → aH → aO → aH → Prop} {sc : Nat × (Nat → Int32)} {P : aO → aH → Prop} {σ : aH} {u : Nat}  {x3 : Int} (hG : G σ u) (rx3 : inR x3)
    (h : ((9 ≤ x3 → P (.inl none) σ) ∧ (¬ (9 ≤ x3) → ((0 ≤ x3 ∧ x3 < 9) ∧ ((0 ≤ x3 ∧ x3 < 9) ∧ (∀ σ2 : aH, wI σ (91 + x3.toNat) 0 (rI σ 316 x3) = σ2 → ((0 ≤ x3 ∧ x3 < 9) ∧ ((0 ≤ x3 ∧ x3 < 9) ∧ (∀ σ6 : aH, wI σ2 (91 + x3.toNat) 1 (rI σ2 317 x3) = σ6 → (inR (x3 + 1) ∧ L_X10_setsBackA_2 C sc P (x3 + 1) σ6)))))))))) :
    L_X10_setsBackA_2 C sc P x3 σ := by
  unfold L_X10_setsBackA_2
  refine w_iload_n dX10_setsBack_2 rfl (List.Mem.tail _ (List.Mem.tail _ (List.Mem.tail _ (List.Mem.head _)))) ?_
  refine w_bipush (v := nZ 9) dX10_setsBack_3 (by decide) ?_
  refine i_cmp_ge (tgt := 36) dX10_setsBack_5 rfl rx3 (by decide) (fun c9 => ?_) (fun c9 => ?_)
  · replace h := h.1 c9
    exact w_vret dX10_setsBack_36 rfl h
  · replace h := h.2 c9
    refine w_aload_n dX10_setsBack_8 rfl (List.Mem.head _) ?_
    refine w_getR (ci := 10) (k := 13) (b := 90) dX10_setsBack_9 fl_10_31 (by decide) (gT hG rfl (lt_of rfl)) (gR hG (b := 90) rfl) ?_
    refine w_iload_n dX10_setsBack_12 rfl (List.Mem.tail _ (List.Mem.tail _ (List.Mem.tail _ (List.Mem.head _)))) ?_
    obtain ⟨h9, h⟩ := h
    have hj1 := vin_lt2 (n := 9) h9 rfl
    refine i_aald (n := 9) (b := (91 + x3.toNat)) dX10_setsBack_13 (gT hG rfl (lt_of rfl)) (gL hG rfl) rx3 h9 (gR hG (rr_90 hj1)) ?_
    refine w_iconst (v := nZ 0) dX10_setsBack_14 (by decide) ?_
    refine w_aload_n dX10_setsBack_15 rfl (List.Mem.tail _ (List.Mem.head _)) ?_
    refine w_iload_n dX10_setsBack_16 rfl (List.Mem.tail _ (List.Mem.tail _ (List.Mem.tail _ (List.Mem.head _)))) ?_
    obtain ⟨h9, h⟩ := h
    refine i_iald (n := 9) dX10_setsBack_17 (gT hG rfl (lt_of rfl)) (gL hG rfl) rx3 h9 ?_
    refine i_iast (n := 7) dX10_setsBack_18 (gT hG (ro_90 _ hj1).1 (by have := hj1; omega)) (gL hG (ro_90 _ hj1).2) (by decide) (by decide) (fun σ2 eσ3 => ?_)
    replace h := h σ2 eσ3
    have hG4 : G σ2 u := eσ3 ▸ G.wI hG
    refine w_aload_n dX10_setsBack_19 rfl (List.Mem.head _) ?_
    refine w_getR (ci := 10) (k := 13) (b := 90) dX10_setsBack_20 fl_10_31 (by decide) (gT hG4 rfl (lt_of rfl)) (gR hG4 (b := 90) rfl) ?_
    refine w_iload_n dX10_setsBack_23 rfl (List.Mem.tail _ (List.Mem.tail _ (List.Mem.tail _ (List.Mem.head _)))) ?_
    obtain ⟨h9, h⟩ := h
    have hj5 := vin_lt2 (n := 9) h9 rfl
    refine i_aald (n := 9) (b := (91 + x3.toNat)) dX10_setsBack_24 (gT hG4 rfl (lt_of rfl)) (gL hG4 rfl) rx3 h9 (gR hG4 (rr_90 hj5)) ?_
    refine w_iconst (v := nZ 1) dX10_setsBack_25 (by decide) ?_
    refine w_aload_n dX10_setsBack_26 rfl (List.Mem.tail _ (List.Mem.tail _ (List.Mem.head _))) ?_
    refine w_iload_n dX10_setsBack_27 rfl (List.Mem.tail _ (List.Mem.tail _ (List.Mem.tail _ (List.Mem.head _)))) ?_
    obtain ⟨h9, h⟩ := h
    refine i_iald (n := 9) dX10_setsBack_28 (gT hG4 rfl (lt_of rfl)) (gL hG4 rfl) rx3 h9 ?_
    refine i_iast (n := 7) dX10_setsBack_29 (gT hG4 (ro_90 _ hj5).1 (by have := hj5; omega)) (gL hG4 (ro_90 _ hj5).2) (by decide) (by decide) (fun σ6 eσ7 => ?_)
    replace h := h σ6 eσ7
    have hG8 : G σ6 u := eσ7 ▸ G.wI hG4
    obtain ⟨q9, h⟩ := h
    refine w_iinc (v := nZ (x3 + 1)) (l' := [(3, .int (nZ (x3 + 1))), (0, .ref 76), (1, .ref 316), (2, .ref 317)]) dX10_setsBack_30 (List.Mem.tail _ (List.Mem.tail _ (List.Mem.tail _ (List.Mem.head _)))) (nZ_add _ _) (by decide) rfl ?_
    refine w_goto (tgt := 2) dX10_setsBack_33 rfl ?_
    exact w_weak (l' := [(0, .ref 76), (1, .ref 316), (2, .ref 317), (3, .int (nZ (x3 + 1)))]) (by intro q hq; simp only [List.mem_cons, List.not_mem_nil, or_false] at hq ⊢; rcases hq with rfl | rfl | rfl | rfl <;> simp) h
def L_X10_setsBackB_2 (C : aM → List Value → aH → aO → aH → Prop) (sc : Nat × (Nat → Int32)) (P : aO → aH → Prop) (x3 : Int) (σ : aH) : Prop :=
    wp C 10 cX10_setsBack 4 none false [] sc P 2 [(0, .ref 76), (1, .ref 318), (2, .ref 319), (3, .int (nZ x3))] [] σ
set_option maxRecDepth 10000 in
theorem t_X10_setsBackB {sc : Nat × (Nat → Int32)} {d : Nat} {Q : aO → aH → Prop} {σ : aH} {u : Nat}   (hG : G σ u) 
    (h : L_X10_setsBackB_2 (Ev sc d) sc Q 0 σ) :
    T sc (d + 1) mX10_setsBack [.ref 76, .ref 318, .ref 319] σ Q := by
  refine T.of (c := 10) (code := cX10_setsBack) (mL := 4) (rt := none) (ini := false) (l := [(0, .ref 76), (1, .ref 318), (2, .ref 319)]) rfl rfl rfl rfl (by decide) hs_X10_setsBack rfl rfl ?_
  refine w_iconst (v := nZ 0) dX10_setsBack_0 (by decide) ?_
  refine w_istore_n (l' := [(3, .int (nZ 0)), (0, .ref 76), (1, .ref 318), (2, .ref 319)]) dX10_setsBack_1 rfl (by decide) rfl ?_
  exact w_weak (l' := [(0, .ref 76), (1, .ref 318), (2, .ref 319), (3, .int (nZ 0))]) (by intro q hq; simp only [List.mem_cons, List.not_mem_nil, or_false] at hq ⊢; rcases hq with rfl | rfl | rfl | rfl <;> simp) h
set_option maxRecDepth 10000 in
theorem v_X10_setsBackB_2 {C : aM → List Value → aH → aO → aH → Prop} {sc : Nat × (Nat → Int32)} {P : aO → aH → Prop} {σ : aH} {u : Nat}  {x3 : Int} (hG : G σ u) (rx3 : inR x3)
    (h : ((9 ≤ x3 → P (.inl none) σ) ∧ (¬ (9 ≤ x3) → ((0 ≤ x3 ∧ x3 < 9) ∧ ((0 ≤ x3 ∧ x3 < 9) ∧ (∀ σ2 : aH, wI σ (91 + x3.toNat) 0 (rI σ 318 x3) = σ2 → ((0 ≤ x3 ∧ x3 < 9) ∧ ((0 ≤ x3 ∧ x3 < 9) ∧ (∀ σ6 : aH, wI σ2 (91 + x3.toNat) 1 (rI σ2 319 x3) = σ6 → (inR (x3 + 1) ∧ L_X10_setsBackB_2 C sc P (x3 + 1) σ6)))))))))) :
    L_X10_setsBackB_2 C sc P x3 σ := by
  unfold L_X10_setsBackB_2
  refine w_iload_n dX10_setsBack_2 rfl (List.Mem.tail _ (List.Mem.tail _ (List.Mem.tail _ (List.Mem.head _)))) ?_
  refine w_bipush (v := nZ 9) dX10_setsBack_3 (by decide) ?_
  refine i_cmp_ge (tgt := 36) dX10_setsBack_5 rfl rx3 (by decide) (fun c9 => ?_) (fun c9 => ?_)
  · replace h := h.1 c9
    exact w_vret dX10_setsBack_36 rfl h
  · replace h := h.2 c9
    refine w_aload_n dX10_setsBack_8 rfl (List.Mem.head _) ?_
    refine w_getR (ci := 10) (k := 13) (b := 90) dX10_setsBack_9 fl_10_31 (by decide) (gT hG rfl (lt_of rfl)) (gR hG (b := 90) rfl) ?_
    refine w_iload_n dX10_setsBack_12 rfl (List.Mem.tail _ (List.Mem.tail _ (List.Mem.tail _ (List.Mem.head _)))) ?_
    obtain ⟨h9, h⟩ := h
    have hj1 := vin_lt2 (n := 9) h9 rfl
    refine i_aald (n := 9) (b := (91 + x3.toNat)) dX10_setsBack_13 (gT hG rfl (lt_of rfl)) (gL hG rfl) rx3 h9 (gR hG (rr_90 hj1)) ?_
    refine w_iconst (v := nZ 0) dX10_setsBack_14 (by decide) ?_
    refine w_aload_n dX10_setsBack_15 rfl (List.Mem.tail _ (List.Mem.head _)) ?_
    refine w_iload_n dX10_setsBack_16 rfl (List.Mem.tail _ (List.Mem.tail _ (List.Mem.tail _ (List.Mem.head _)))) ?_
    obtain ⟨h9, h⟩ := h
    refine i_iald (n := 9) dX10_setsBack_17 (gT hG rfl (lt_of rfl)) (gL hG rfl) rx3 h9 ?_
    refine i_iast (n := 7) dX10_setsBack_18 (gT hG (ro_90 _ hj1).1 (by have := hj1; omega)) (gL hG (ro_90 _ hj1).2) (by decide) (by decide) (fun σ2 eσ3 => ?_)
    replace h := h σ2 eσ3
    have hG4 : G σ2 u := eσ3 ▸ G.wI hG
    refine w_aload_n dX10_setsBack_19 rfl (List.Mem.head _) ?_
    refine w_getR (ci := 10) (k := 13) (b := 90) dX10_setsBack_20 fl_10_31 (by decide) (gT hG4 rfl (lt_of rfl)) (gR hG4 (b := 90) rfl) ?_
    refine w_iload_n dX10_setsBack_23 rfl (List.Mem.tail _ (List.Mem.tail _ (List.Mem.tail _ (List.Mem.head _)))) ?_
    obtain ⟨h9, h⟩ := h
    have hj5 := vin_lt2 (n := 9) h9 rfl
    refine i_aald (n := 9) (b := (91 + x3.toNat)) dX10_setsBack_24 (gT hG4 rfl (lt_of rfl)) (gL hG4 rfl) rx3 h9 (gR hG4 (rr_90 hj5)) ?_
    refine w_iconst (v := nZ 1) dX10_setsBack_25 (by decide) ?_
    refine w_aload_n dX10_setsBack_26 rfl (List.Mem.tail _ (List.Mem.tail _ (List.Mem.head _))) ?_
    refine w_iload_n dX10_setsBack_27 rfl (List.Mem.tail _ (List.Mem.tail _ (List.Mem.tail _ (List.Mem.head _)))) ?_
    obtain ⟨h9, h⟩ := h
    refine i_iald (n := 9) dX10_setsBack_28 (gT hG4 rfl (lt_of rfl)) (gL hG4 rfl) rx3 h9 ?_
    refine i_iast (n := 7) dX10_setsBack_29 (gT hG4 (ro_90 _ hj5).1 (by have := hj5; omega)) (gL hG4 (ro_90 _ hj5).2) (by decide) (by decide) (fun σ6 eσ7 => ?_)
    replace h := h σ6 eσ7
    have hG8 : G σ6 u := eσ7 ▸ G.wI hG4
    obtain ⟨q9, h⟩ := h
    refine w_iinc (v := nZ (x3 + 1)) (l' := [(3, .int (nZ (x3 + 1))), (0, .ref 76), (1, .ref 318), (2, .ref 319)]) dX10_setsBack_30 (List.Mem.tail _ (List.Mem.tail _ (List.Mem.tail _ (List.Mem.head _)))) (nZ_add _ _) (by decide) rfl ?_
    refine w_goto (tgt := 2) dX10_setsBack_33 rfl ?_
    exact w_weak (l' := [(0, .ref 76), (1, .ref 318), (2, .ref 319), (3, .int (nZ (x3 + 1)))]) (by intro q hq; simp only [List.mem_cons, List.not_mem_nil, or_false] at hq ⊢; rcases hq with rfl | rfl | rfl | rfl <;> simp) h
theorem dX10_changes_0 : decode cX10_changes 0 = .ok (.iconst 0, 1) := by decide +kernel
theorem dX10_changes_1 : decode cX10_changes 1 = .ok (.istore_n 3, 1) := by decide +kernel
theorem dX10_changes_2 : decode cX10_changes 2 = .ok (.iload_n 3, 1) := by decide +kernel
theorem dX10_changes_3 : decode cX10_changes 3 = .ok (.iconst 2, 1) := by decide +kernel
theorem dX10_changes_4 : decode cX10_changes 4 = .ok (.if_icmp .ge 45, 3) := by decide +kernel
theorem dX10_changes_7 : decode cX10_changes 7 = .ok (.aload_n 0, 1) := by decide +kernel
theorem dX10_changes_8 : decode cX10_changes 8 = .ok (.getfield 31, 3) := by decide +kernel
theorem dX10_changes_11 : decode cX10_changes 11 = .ok (.iload_n 1, 1) := by decide +kernel
theorem dX10_changes_12 : decode cX10_changes 12 = .ok (.aaload, 1) := by decide +kernel
theorem dX10_changes_13 : decode cX10_changes 13 = .ok (.iload_n 3, 1) := by decide +kernel
theorem dX10_changes_14 : decode cX10_changes 14 = .ok (.iaload, 1) := by decide +kernel
theorem dX10_changes_15 : decode cX10_changes 15 = .ok (.istore 4, 2) := by decide +kernel
theorem dX10_changes_17 : decode cX10_changes 17 = .ok (.aload_n 0, 1) := by decide +kernel
theorem dX10_changes_18 : decode cX10_changes 18 = .ok (.getfield 31, 3) := by decide +kernel
theorem dX10_changes_21 : decode cX10_changes 21 = .ok (.iload_n 1, 1) := by decide +kernel
theorem dX10_changes_22 : decode cX10_changes 22 = .ok (.aaload, 1) := by decide +kernel
theorem dX10_changes_23 : decode cX10_changes 23 = .ok (.iload_n 3, 1) := by decide +kernel
theorem dX10_changes_24 : decode cX10_changes 24 = .ok (.aload_n 0, 1) := by decide +kernel
theorem dX10_changes_25 : decode cX10_changes 25 = .ok (.getfield 31, 3) := by decide +kernel
theorem dX10_changes_28 : decode cX10_changes 28 = .ok (.iload_n 2, 1) := by decide +kernel
theorem dX10_changes_29 : decode cX10_changes 29 = .ok (.aaload, 1) := by decide +kernel
theorem dX10_changes_30 : decode cX10_changes 30 = .ok (.iload_n 3, 1) := by decide +kernel
theorem dX10_changes_31 : decode cX10_changes 31 = .ok (.iaload, 1) := by decide +kernel
theorem dX10_changes_32 : decode cX10_changes 32 = .ok (.iastore, 1) := by decide +kernel
theorem dX10_changes_33 : decode cX10_changes 33 = .ok (.aload_n 0, 1) := by decide +kernel
theorem dX10_changes_34 : decode cX10_changes 34 = .ok (.getfield 31, 3) := by decide +kernel
theorem dX10_changes_37 : decode cX10_changes 37 = .ok (.iload_n 2, 1) := by decide +kernel
theorem dX10_changes_38 : decode cX10_changes 38 = .ok (.aaload, 1) := by decide +kernel
theorem dX10_changes_39 : decode cX10_changes 39 = .ok (.iload_n 3, 1) := by decide +kernel
theorem dX10_changes_40 : decode cX10_changes 40 = .ok (.iload 4, 2) := by decide +kernel
theorem dX10_changes_42 : decode cX10_changes 42 = .ok (.iastore, 1) := by decide +kernel
theorem dX10_changes_43 : decode cX10_changes 43 = .ok (.iinc 3 1, 3) := by decide +kernel
theorem dX10_changes_46 : decode cX10_changes 46 = .ok (.goto (-44), 3) := by decide +kernel
theorem dX10_changes_49 : decode cX10_changes 49 = .ok (.return_, 1) := by decide +kernel
def L_X10_changes_2 (C : aM → List Value → aH → aO → aH → Prop) (sc : Nat × (Nat → Int32)) (P : aO → aH → Prop) (x1 : Int) (x2 : Int) (x3 : Int) (σ : aH) : Prop :=
    wp C 10 cX10_changes 5 none false [] sc P 2 [(0, .ref 76), (1, .int (nZ x1)), (2, .int (nZ x2)), (3, .int (nZ x3))] [] σ
set_option maxRecDepth 10000 in
theorem t_X10_changes {sc : Nat × (Nat → Int32)} {d : Nat} {Q : aO → aH → Prop} {σ : aH} {u : Nat}  {x1 : Int} {x2 : Int} (hG : G σ u) (rx1 : inR x1) (rx2 : inR x2)
    (h : L_X10_changes_2 (Ev sc d) sc Q x1 x2 0 σ) :
    T sc (d + 1) mX10_changes [.ref 76, .int (nZ x1), .int (nZ x2)] σ Q := by
  refine T.of (c := 10) (code := cX10_changes) (mL := 5) (rt := none) (ini := false) (l := [(0, .ref 76), (1, .int (nZ x1)), (2, .int (nZ x2))]) rfl rfl rfl rfl (by decide) hs_X10_changes rfl rfl ?_
  refine w_iconst (v := nZ 0) dX10_changes_0 (by decide) ?_
  refine w_istore_n (l' := [(3, .int (nZ 0)), (0, .ref 76), (1, .int (nZ x1)), (2, .int (nZ x2))]) dX10_changes_1 rfl (by decide) rfl ?_
  exact w_weak (l' := [(0, .ref 76), (1, .int (nZ x1)), (2, .int (nZ x2)), (3, .int (nZ 0))]) (by intro q hq; simp only [List.mem_cons, List.not_mem_nil, or_false] at hq ⊢; rcases hq with rfl | rfl | rfl | rfl <;> simp) h
set_option maxRecDepth 10000 in
theorem v_X10_changes_2 {C : aM → List Value → aH → aO → aH → Prop} {sc : Nat × (Nat → Int32)} {P : aO → aH → Prop} {σ : aH} {u : Nat}  {x1 : Int} {x2 : Int} {x3 : Int} (hG : G σ u) (rx1 : inR x1) (rx2 : inR x2) (rx3 : inR x3)
    (h : ((2 ≤ x3 → P (.inl none) σ) ∧ (¬ (2 ≤ x3) → ((0 ≤ x1 ∧ x1 < 9) ∧ ((0 ≤ x3 ∧ x3 < 7) ∧ (∀ z2 : Int, z2 = (rI σ (91 + x1.toNat) x3) → ((0 ≤ x1 ∧ x1 < 9) ∧ ((0 ≤ x2 ∧ x2 < 9) ∧ ((0 ≤ x3 ∧ x3 < 7) ∧ ((0 ≤ x3 ∧ x3 < 7) ∧ (∀ σ7 : aH, wI σ (91 + x1.toNat) x3 (rI σ (91 + x2.toNat) x3) = σ7 → ((0 ≤ x2 ∧ x2 < 9) ∧ ((0 ≤ x3 ∧ x3 < 7) ∧ (∀ σ11 : aH, wI σ7 (91 + x2.toNat) x3 z2 = σ11 → (inR (x3 + 1) ∧ L_X10_changes_2 C sc P x1 x2 (x3 + 1) σ11))))))))))))))) :
    L_X10_changes_2 C sc P x1 x2 x3 σ := by
  unfold L_X10_changes_2
  refine w_iload_n dX10_changes_2 rfl (List.Mem.tail _ (List.Mem.tail _ (List.Mem.tail _ (List.Mem.head _)))) ?_
  refine w_iconst (v := nZ 2) dX10_changes_3 (by decide) ?_
  refine i_cmp_ge (tgt := 49) dX10_changes_4 rfl rx3 (by decide) (fun c9 => ?_) (fun c9 => ?_)
  · replace h := h.1 c9
    exact w_vret dX10_changes_49 rfl h
  · replace h := h.2 c9
    refine w_aload_n dX10_changes_7 rfl (List.Mem.head _) ?_
    refine w_getR (ci := 10) (k := 13) (b := 90) dX10_changes_8 fl_10_31 (by decide) (gT hG rfl (lt_of rfl)) (gR hG (b := 90) rfl) ?_
    refine w_iload_n dX10_changes_11 rfl (List.Mem.tail _ (List.Mem.head _)) ?_
    obtain ⟨h9, h⟩ := h
    have hj1 := vin_lt2 (n := 9) h9 rfl
    refine i_aald (n := 9) (b := (91 + x1.toNat)) dX10_changes_12 (gT hG rfl (lt_of rfl)) (gL hG rfl) rx1 h9 (gR hG (rr_90 hj1)) ?_
    refine w_iload_n dX10_changes_13 rfl (List.Mem.tail _ (List.Mem.tail _ (List.Mem.tail _ (List.Mem.head _)))) ?_
    obtain ⟨h9, h⟩ := h
    refine i_iald (n := 7) dX10_changes_14 (gT hG (ro_90 _ hj1).1 (by have := hj1; omega)) (gL hG (ro_90 _ hj1).2) rx3 h9 ?_
    refine top_i (fun z2 ez3 => ?_)
    have rz4 : inR z2 := ez3 ▸ (rI_R _ _ _)
    replace h := h z2 ez3
    refine w_istore (l' := [(4, .int (nZ z2)), (0, .ref 76), (1, .int (nZ x1)), (2, .int (nZ x2)), (3, .int (nZ x3))]) dX10_changes_15 (by decide) rfl ?_
    refine w_aload_n dX10_changes_17 rfl (List.Mem.tail _ (List.Mem.head _)) ?_
    refine w_getR (ci := 10) (k := 13) (b := 90) dX10_changes_18 fl_10_31 (by decide) (gT hG rfl (lt_of rfl)) (gR hG (b := 90) rfl) ?_
    refine w_iload_n dX10_changes_21 rfl (List.Mem.tail _ (List.Mem.tail _ (List.Mem.head _))) ?_
    obtain ⟨h9, h⟩ := h
    have hj5 := vin_lt2 (n := 9) h9 rfl
    refine i_aald (n := 9) (b := (91 + x1.toNat)) dX10_changes_22 (gT hG rfl (lt_of rfl)) (gL hG rfl) rx1 h9 (gR hG (rr_90 hj5)) ?_
    refine w_iload_n dX10_changes_23 rfl (List.Mem.tail _ (List.Mem.tail _ (List.Mem.tail _ (List.Mem.tail _ (List.Mem.head _))))) ?_
    refine w_aload_n dX10_changes_24 rfl (List.Mem.tail _ (List.Mem.head _)) ?_
    refine w_getR (ci := 10) (k := 13) (b := 90) dX10_changes_25 fl_10_31 (by decide) (gT hG rfl (lt_of rfl)) (gR hG (b := 90) rfl) ?_
    refine w_iload_n dX10_changes_28 rfl (List.Mem.tail _ (List.Mem.tail _ (List.Mem.tail _ (List.Mem.head _)))) ?_
    obtain ⟨h9, h⟩ := h
    have hj6 := vin_lt2 (n := 9) h9 rfl
    refine i_aald (n := 9) (b := (91 + x2.toNat)) dX10_changes_29 (gT hG rfl (lt_of rfl)) (gL hG rfl) rx2 h9 (gR hG (rr_90 hj6)) ?_
    refine w_iload_n dX10_changes_30 rfl (List.Mem.tail _ (List.Mem.tail _ (List.Mem.tail _ (List.Mem.tail _ (List.Mem.head _))))) ?_
    obtain ⟨h9, h⟩ := h
    refine i_iald (n := 7) dX10_changes_31 (gT hG (ro_90 _ hj6).1 (by have := hj6; omega)) (gL hG (ro_90 _ hj6).2) rx3 h9 ?_
    obtain ⟨h9, h⟩ := h
    refine i_iast (n := 7) dX10_changes_32 (gT hG (ro_90 _ hj5).1 (by have := hj5; omega)) (gL hG (ro_90 _ hj5).2) rx3 h9 (fun σ7 eσ8 => ?_)
    replace h := h σ7 eσ8
    have hG9 : G σ7 u := eσ8 ▸ G.wI hG
    refine w_aload_n dX10_changes_33 rfl (List.Mem.tail _ (List.Mem.head _)) ?_
    refine w_getR (ci := 10) (k := 13) (b := 90) dX10_changes_34 fl_10_31 (by decide) (gT hG9 rfl (lt_of rfl)) (gR hG9 (b := 90) rfl) ?_
    refine w_iload_n dX10_changes_37 rfl (List.Mem.tail _ (List.Mem.tail _ (List.Mem.tail _ (List.Mem.head _)))) ?_
    obtain ⟨h9, h⟩ := h
    have hj10 := vin_lt2 (n := 9) h9 rfl
    refine i_aald (n := 9) (b := (91 + x2.toNat)) dX10_changes_38 (gT hG9 rfl (lt_of rfl)) (gL hG9 rfl) rx2 h9 (gR hG9 (rr_90 hj10)) ?_
    refine w_iload_n dX10_changes_39 rfl (List.Mem.tail _ (List.Mem.tail _ (List.Mem.tail _ (List.Mem.tail _ (List.Mem.head _))))) ?_
    refine w_iload dX10_changes_40 (List.Mem.head _) ?_
    obtain ⟨h9, h⟩ := h
    refine i_iast (n := 7) dX10_changes_42 (gT hG9 (ro_90 _ hj10).1 (by have := hj10; omega)) (gL hG9 (ro_90 _ hj10).2) rx3 h9 (fun σ11 eσ12 => ?_)
    replace h := h σ11 eσ12
    have hG13 : G σ11 u := eσ12 ▸ G.wI hG9
    obtain ⟨q14, h⟩ := h
    refine w_iinc (v := nZ (x3 + 1)) (l' := [(3, .int (nZ (x3 + 1))), (4, .int (nZ z2)), (0, .ref 76), (1, .int (nZ x1)), (2, .int (nZ x2))]) dX10_changes_43 (List.Mem.tail _ (List.Mem.tail _ (List.Mem.tail _ (List.Mem.tail _ (List.Mem.head _))))) (nZ_add _ _) (by decide) rfl ?_
    refine w_goto (tgt := 2) dX10_changes_46 rfl ?_
    exact w_weak (l' := [(0, .ref 76), (1, .int (nZ x1)), (2, .int (nZ x2)), (3, .int (nZ (x3 + 1)))]) (by intro q hq; simp only [List.mem_cons, List.not_mem_nil, or_false] at hq ⊢; rcases hq with rfl | rfl | rfl | rfl <;> simp) h
theorem dX10_exchangeNow_0 : decode cX10_exchangeNow 0 = .ok (.iconst (-1), 1) := by decide +kernel
theorem dX10_exchangeNow_1 : decode cX10_exchangeNow 1 = .ok (.istore_n 1, 1) := by decide +kernel
theorem dX10_exchangeNow_2 : decode cX10_exchangeNow 2 = .ok (.aload_n 0, 1) := by decide +kernel
theorem dX10_exchangeNow_3 : decode cX10_exchangeNow 3 = .ok (.invokevirtual 281, 3) := by decide +kernel
theorem dX10_exchangeNow_6 : decode cX10_exchangeNow 6 = .ok (.istore_n 2, 1) := by decide +kernel
theorem dX10_exchangeNow_7 : decode cX10_exchangeNow 7 = .ok (.iconst 0, 1) := by decide +kernel
theorem dX10_exchangeNow_8 : decode cX10_exchangeNow 8 = .ok (.istore_n 3, 1) := by decide +kernel
theorem dX10_exchangeNow_9 : decode cX10_exchangeNow 9 = .ok (.iload_n 3, 1) := by decide +kernel
theorem dX10_exchangeNow_10 : decode cX10_exchangeNow 10 = .ok (.aload_n 0, 1) := by decide +kernel
theorem dX10_exchangeNow_11 : decode cX10_exchangeNow 11 = .ok (.getfield 218, 3) := by decide +kernel
theorem dX10_exchangeNow_14 : decode cX10_exchangeNow 14 = .ok (.if_icmp .ge 69, 3) := by decide +kernel
theorem dX10_exchangeNow_17 : decode cX10_exchangeNow 17 = .ok (.iload_n 3, 1) := by decide +kernel
theorem dX10_exchangeNow_18 : decode cX10_exchangeNow 18 = .ok (.iconst 1, 1) := by decide +kernel
theorem dX10_exchangeNow_19 : decode cX10_exchangeNow 19 = .ok (.iadd, 1) := by decide +kernel
theorem dX10_exchangeNow_20 : decode cX10_exchangeNow 20 = .ok (.istore 4, 2) := by decide +kernel
theorem dX10_exchangeNow_22 : decode cX10_exchangeNow 22 = .ok (.iload 4, 2) := by decide +kernel
theorem dX10_exchangeNow_24 : decode cX10_exchangeNow 24 = .ok (.aload_n 0, 1) := by decide +kernel
theorem dX10_exchangeNow_25 : decode cX10_exchangeNow 25 = .ok (.getfield 218, 3) := by decide +kernel
theorem dX10_exchangeNow_28 : decode cX10_exchangeNow 28 = .ok (.if_icmp .ge 49, 3) := by decide +kernel
theorem dX10_exchangeNow_31 : decode cX10_exchangeNow 31 = .ok (.aload_n 0, 1) := by decide +kernel
theorem dX10_exchangeNow_32 : decode cX10_exchangeNow 32 = .ok (.iload_n 3, 1) := by decide +kernel
theorem dX10_exchangeNow_33 : decode cX10_exchangeNow 33 = .ok (.iload 4, 2) := by decide +kernel
theorem dX10_exchangeNow_35 : decode cX10_exchangeNow 35 = .ok (.invokevirtual 306, 3) := by decide +kernel
theorem dX10_exchangeNow_38 : decode cX10_exchangeNow 38 = .ok (.aload_n 0, 1) := by decide +kernel
theorem dX10_exchangeNow_39 : decode cX10_exchangeNow 39 = .ok (.invokevirtual 281, 3) := by decide +kernel
theorem dX10_exchangeNow_42 : decode cX10_exchangeNow 42 = .ok (.istore 5, 2) := by decide +kernel
theorem dX10_exchangeNow_44 : decode cX10_exchangeNow 44 = .ok (.aload_n 0, 1) := by decide +kernel
theorem dX10_exchangeNow_45 : decode cX10_exchangeNow 45 = .ok (.iload_n 3, 1) := by decide +kernel
theorem dX10_exchangeNow_46 : decode cX10_exchangeNow 46 = .ok (.iload 4, 2) := by decide +kernel
theorem dX10_exchangeNow_48 : decode cX10_exchangeNow 48 = .ok (.invokevirtual 306, 3) := by decide +kernel
theorem dX10_exchangeNow_51 : decode cX10_exchangeNow 51 = .ok (.iload 5, 2) := by decide +kernel
theorem dX10_exchangeNow_53 : decode cX10_exchangeNow 53 = .ok (.iload_n 2, 1) := by decide +kernel
theorem dX10_exchangeNow_54 : decode cX10_exchangeNow 54 = .ok (.if_icmp .lt 6, 3) := by decide +kernel
theorem dX10_exchangeNow_57 : decode cX10_exchangeNow 57 = .ok (.goto 14, 3) := by decide +kernel
theorem dX10_exchangeNow_60 : decode cX10_exchangeNow 60 = .ok (.bipush 10, 2) := by decide +kernel
theorem dX10_exchangeNow_62 : decode cX10_exchangeNow 62 = .ok (.iload_n 3, 1) := by decide +kernel
theorem dX10_exchangeNow_63 : decode cX10_exchangeNow 63 = .ok (.imul, 1) := by decide +kernel
theorem dX10_exchangeNow_64 : decode cX10_exchangeNow 64 = .ok (.iload 4, 2) := by decide +kernel
theorem dX10_exchangeNow_66 : decode cX10_exchangeNow 66 = .ok (.iadd, 1) := by decide +kernel
theorem dX10_exchangeNow_67 : decode cX10_exchangeNow 67 = .ok (.istore_n 1, 1) := by decide +kernel
theorem dX10_exchangeNow_68 : decode cX10_exchangeNow 68 = .ok (.iload 5, 2) := by decide +kernel
theorem dX10_exchangeNow_70 : decode cX10_exchangeNow 70 = .ok (.istore_n 2, 1) := by decide +kernel
theorem dX10_exchangeNow_71 : decode cX10_exchangeNow 71 = .ok (.iinc 4 1, 3) := by decide +kernel
theorem dX10_exchangeNow_74 : decode cX10_exchangeNow 74 = .ok (.goto (-52), 3) := by decide +kernel
theorem dX10_exchangeNow_77 : decode cX10_exchangeNow 77 = .ok (.iinc 3 1, 3) := by decide +kernel
theorem dX10_exchangeNow_80 : decode cX10_exchangeNow 80 = .ok (.goto (-71), 3) := by decide +kernel
theorem dX10_exchangeNow_83 : decode cX10_exchangeNow 83 = .ok (.iload_n 1, 1) := by decide +kernel
theorem dX10_exchangeNow_84 : decode cX10_exchangeNow 84 = .ok (.ireturn, 1) := by decide +kernel
def L_X10_exchangeNow_9 (C : aM → List Value → aH → aO → aH → Prop) (sc : Nat × (Nat → Int32)) (P : aO → aH → Prop) (x1 : Int) (x2 : Int) (x3 : Int) (σ : aH) : Prop :=
    wp C 10 cX10_exchangeNow 6 (some .int) false [] sc P 9 [(0, .ref 76), (1, .int (nZ x1)), (2, .int (nZ x2)), (3, .int (nZ x3))] [] σ
def L_X10_exchangeNow_22 (C : aM → List Value → aH → aO → aH → Prop) (sc : Nat × (Nat → Int32)) (P : aO → aH → Prop) (x1 : Int) (x2 : Int) (x3 : Int) (x4 : Int) (σ : aH) : Prop :=
    wp C 10 cX10_exchangeNow 6 (some .int) false [] sc P 22 [(0, .ref 76), (1, .int (nZ x1)), (2, .int (nZ x2)), (3, .int (nZ x3)), (4, .int (nZ x4))] [] σ
set_option maxRecDepth 10000 in
theorem t_X10_exchangeNow {sc : Nat × (Nat → Int32)} {d : Nat} {Q : aO → aH → Prop} {σ : aH} {u : Nat}   (hG : G σ u) 
    (h : (∃ (r5 : Int) (σ1 : aH), Ev sc d mX10_dueNow [.ref 76] σ (.inl (some (.int (nZ r5)))) σ1 ∧ G σ1 u ∧ inR r5 ∧ L_X10_exchangeNow_9 (Ev sc d) sc Q (-1) r5 0 σ1)) :
    T sc (d + 1) mX10_exchangeNow [.ref 76] σ Q := by
  refine T.of (c := 10) (code := cX10_exchangeNow) (mL := 6) (rt := (some .int)) (ini := false) (l := [(0, .ref 76)]) rfl rfl rfl rfl (by decide) hs_X10_exchangeNow rfl rfl ?_
  refine w_iconst (v := nZ (-1)) dX10_exchangeNow_0 (by decide) ?_
  refine w_istore_n (l' := [(1, .int (nZ (-1))), (0, .ref 76)]) dX10_exchangeNow_1 rfl (by decide) rfl ?_
  refine w_aload_n dX10_exchangeNow_2 rfl (List.Mem.tail _ (List.Mem.head _)) ?_
  obtain ⟨r5, σ1, hc3, hG2, rr4, h⟩ := h
  refine w_callV dX10_exchangeNow_3 ml_10_281 ⟨ok_X10_dueNow, vi_X10_dueNow⟩ hs_X10_dueNow (As := []) rfl rfl (gT hG rfl (lt_of rfl)) (Nat.le_of_ble_eq_true rfl) hc3 ?_
  show wp (Ev sc d) 10 cX10_exchangeNow 6 (some .int) false [] sc Q 6 [(1, .int (nZ (-1))), (0, .ref 76)] [.int (nZ r5)] σ1
  refine w_istore_n (l' := [(2, .int (nZ r5)), (1, .int (nZ (-1))), (0, .ref 76)]) dX10_exchangeNow_6 rfl (by decide) rfl ?_
  refine w_iconst (v := nZ 0) dX10_exchangeNow_7 (by decide) ?_
  refine w_istore_n (l' := [(3, .int (nZ 0)), (2, .int (nZ r5)), (1, .int (nZ (-1))), (0, .ref 76)]) dX10_exchangeNow_8 rfl (by decide) rfl ?_
  exact w_weak (l' := [(0, .ref 76), (1, .int (nZ (-1))), (2, .int (nZ r5)), (3, .int (nZ 0))]) (by intro q hq; simp only [List.mem_cons, List.not_mem_nil, or_false] at hq ⊢; rcases hq with rfl | rfl | rfl | rfl <;> simp) h
set_option maxRecDepth 10000 in
theorem v_X10_exchangeNow_9 {C : aM → List Value → aH → aO → aH → Prop} {sc : Nat × (Nat → Int32)} {P : aO → aH → Prop} {σ : aH} {u : Nat}  {x1 : Int} {x2 : Int} {x3 : Int} (hG : G σ u) (rx1 : inR x1) (rx2 : inR x2) (rx3 : inR x3)
    (h : (((rI σ 76 28) ≤ x3 → P (.inl (some (.int (nZ x1)))) σ) ∧ (¬ ((rI σ 76 28) ≤ x3) → (inR (x3 + 1) ∧ (∀ z2 : Int, z2 = (x3 + 1) → L_X10_exchangeNow_22 C sc P x1 x2 x3 z2 σ))))) :
    L_X10_exchangeNow_9 C sc P x1 x2 x3 σ := by
  unfold L_X10_exchangeNow_9
  refine w_iload_n dX10_exchangeNow_9 rfl (List.Mem.tail _ (List.Mem.tail _ (List.Mem.tail _ (List.Mem.head _)))) ?_
  refine w_aload_n dX10_exchangeNow_10 rfl (List.Mem.head _) ?_
  refine i_getI (ci := 10) 28 rfl dX10_exchangeNow_11 fl_10_218 (by decide) (gT hG rfl (lt_of rfl)) ?_
  refine i_cmp_ge (tgt := 83) dX10_exchangeNow_14 rfl rx3 (rI_R _ _ _) (fun c9 => ?_) (fun c9 => ?_)
  · replace h := h.1 c9
    refine w_iload_n dX10_exchangeNow_83 rfl (List.Mem.tail _ (List.Mem.head _)) ?_
    exact w_iret dX10_exchangeNow_84 rfl h
  · replace h := h.2 c9
    refine w_iload_n dX10_exchangeNow_17 rfl (List.Mem.tail _ (List.Mem.tail _ (List.Mem.tail _ (List.Mem.head _)))) ?_
    refine w_iconst (v := nZ 1) dX10_exchangeNow_18 (by decide) ?_
    obtain ⟨q1, h⟩ := h
    refine i_add dX10_exchangeNow_19 ?_
    refine top_i (fun z2 ez3 => ?_)
    have rz4 : inR z2 := ez3 ▸ q1
    replace h := h z2 ez3
    refine w_istore (l' := [(4, .int (nZ z2)), (0, .ref 76), (1, .int (nZ x1)), (2, .int (nZ x2)), (3, .int (nZ x3))]) dX10_exchangeNow_20 (by decide) rfl ?_
    exact w_weak (l' := [(0, .ref 76), (1, .int (nZ x1)), (2, .int (nZ x2)), (3, .int (nZ x3)), (4, .int (nZ z2))]) (by intro q hq; simp only [List.mem_cons, List.not_mem_nil, or_false] at hq ⊢; rcases hq with rfl | rfl | rfl | rfl | rfl <;> simp) h
set_option maxRecDepth 10000 in
theorem v_X10_exchangeNow_22 {C : aM → List Value → aH → aO → aH → Prop} {sc : Nat × (Nat → Int32)} {P : aO → aH → Prop} {σ : aH} {u : Nat}  {x1 : Int} {x2 : Int} {x3 : Int} {x4 : Int} (hG : G σ u) (rx1 : inR x1) (rx2 : inR x2) (rx3 : inR x3) (rx4 : inR x4)
    (h : (((rI σ 76 28) ≤ x4 → (inR (x3 + 1) ∧ L_X10_exchangeNow_9 C sc P x1 x2 (x3 + 1) σ)) ∧ (¬ ((rI σ 76 28) ≤ x4) → (∃ σ2 : aH, C mX10_changes [.ref 76, .int (nZ x3), .int (nZ x4)] σ (.inl none) σ2 ∧ G σ2 u ∧ (∃ (r10 : Int) (σ6 : aH), C mX10_dueNow [.ref 76] σ2 (.inl (some (.int (nZ r10)))) σ6 ∧ G σ6 u ∧ inR r10 ∧ (∃ σ11 : aH, C mX10_changes [.ref 76, .int (nZ x3), .int (nZ x4)] σ6 (.inl none) σ11 ∧ G σ11 u ∧ ((r10 < x2 → (inR (10 * x3) ∧ (inR ((10 * x3) + x4) ∧ (∀ z17 : Int, z17 = ((10 * x3) + x4) → (inR (x4 + 1) ∧ L_X10_exchangeNow_22 C sc P z17 r10 x3 (x4 + 1) σ11))))) ∧ (¬ (r10 < x2) → (inR (x4 + 1) ∧ L_X10_exchangeNow_22 C sc P x1 x2 x3 (x4 + 1) σ11))))))))) :
    L_X10_exchangeNow_22 C sc P x1 x2 x3 x4 σ := by
  unfold L_X10_exchangeNow_22
  refine w_iload dX10_exchangeNow_22 (List.Mem.tail _ (List.Mem.tail _ (List.Mem.tail _ (List.Mem.tail _ (List.Mem.head _))))) ?_
  refine w_aload_n dX10_exchangeNow_24 rfl (List.Mem.head _) ?_
  refine i_getI (ci := 10) 28 rfl dX10_exchangeNow_25 fl_10_218 (by decide) (gT hG rfl (lt_of rfl)) ?_
  refine i_cmp_ge (tgt := 77) dX10_exchangeNow_28 rfl rx4 (rI_R _ _ _) (fun c9 => ?_) (fun c9 => ?_)
  · replace h := h.1 c9
    obtain ⟨q1, h⟩ := h
    refine w_iinc (v := nZ (x3 + 1)) (l' := [(3, .int (nZ (x3 + 1))), (0, .ref 76), (1, .int (nZ x1)), (2, .int (nZ x2)), (4, .int (nZ x4))]) dX10_exchangeNow_77 (List.Mem.tail _ (List.Mem.tail _ (List.Mem.tail _ (List.Mem.head _)))) (nZ_add _ _) (by decide) rfl ?_
    refine w_goto (tgt := 9) dX10_exchangeNow_80 rfl ?_
    exact w_weak (l' := [(0, .ref 76), (1, .int (nZ x1)), (2, .int (nZ x2)), (3, .int (nZ (x3 + 1)))]) (by intro q hq; simp only [List.mem_cons, List.not_mem_nil, or_false] at hq ⊢; rcases hq with rfl | rfl | rfl | rfl <;> simp) h
  · replace h := h.2 c9
    refine w_aload_n dX10_exchangeNow_31 rfl (List.Mem.head _) ?_
    refine w_iload_n dX10_exchangeNow_32 rfl (List.Mem.tail _ (List.Mem.tail _ (List.Mem.tail _ (List.Mem.head _)))) ?_
    refine w_iload dX10_exchangeNow_33 (List.Mem.tail _ (List.Mem.tail _ (List.Mem.tail _ (List.Mem.tail _ (List.Mem.head _))))) ?_
    obtain ⟨σ2, hc4, hG3, h⟩ := h
    refine w_callV dX10_exchangeNow_35 ml_10_306 ⟨ok_X10_changes, vi_X10_changes⟩ hs_X10_changes (As := [.int (nZ x3), .int (nZ x4)]) rfl rfl (gT hG rfl (lt_of rfl)) (Nat.le_of_ble_eq_true rfl) hc4 ?_
    show wp C 10 cX10_exchangeNow 6 (some .int) false [] sc P 38 [(0, .ref 76), (1, .int (nZ x1)), (2, .int (nZ x2)), (3, .int (nZ x3)), (4, .int (nZ x4))] [] σ2
    refine w_aload_n dX10_exchangeNow_38 rfl (List.Mem.head _) ?_
    obtain ⟨r10, σ6, hc8, hG7, rr9, h⟩ := h
    refine w_callV dX10_exchangeNow_39 ml_10_281 ⟨ok_X10_dueNow, vi_X10_dueNow⟩ hs_X10_dueNow (As := []) rfl rfl (gT hG3 rfl (lt_of rfl)) (Nat.le_of_ble_eq_true rfl) hc8 ?_
    show wp C 10 cX10_exchangeNow 6 (some .int) false [] sc P 42 [(0, .ref 76), (1, .int (nZ x1)), (2, .int (nZ x2)), (3, .int (nZ x3)), (4, .int (nZ x4))] [.int (nZ r10)] σ6
    refine w_istore (l' := [(5, .int (nZ r10)), (0, .ref 76), (1, .int (nZ x1)), (2, .int (nZ x2)), (3, .int (nZ x3)), (4, .int (nZ x4))]) dX10_exchangeNow_42 (by decide) rfl ?_
    refine w_aload_n dX10_exchangeNow_44 rfl (List.Mem.tail _ (List.Mem.head _)) ?_
    refine w_iload_n dX10_exchangeNow_45 rfl (List.Mem.tail _ (List.Mem.tail _ (List.Mem.tail _ (List.Mem.tail _ (List.Mem.head _))))) ?_
    refine w_iload dX10_exchangeNow_46 (List.Mem.tail _ (List.Mem.tail _ (List.Mem.tail _ (List.Mem.tail _ (List.Mem.tail _ (List.Mem.head _)))))) ?_
    obtain ⟨σ11, hc13, hG12, h⟩ := h
    refine w_callV dX10_exchangeNow_48 ml_10_306 ⟨ok_X10_changes, vi_X10_changes⟩ hs_X10_changes (As := [.int (nZ x3), .int (nZ x4)]) rfl rfl (gT hG7 rfl (lt_of rfl)) (Nat.le_of_ble_eq_true rfl) hc13 ?_
    show wp C 10 cX10_exchangeNow 6 (some .int) false [] sc P 51 [(5, .int (nZ r10)), (0, .ref 76), (1, .int (nZ x1)), (2, .int (nZ x2)), (3, .int (nZ x3)), (4, .int (nZ x4))] [] σ11
    refine w_iload dX10_exchangeNow_51 (List.Mem.head _) ?_
    refine w_iload_n dX10_exchangeNow_53 rfl (List.Mem.tail _ (List.Mem.tail _ (List.Mem.tail _ (List.Mem.head _)))) ?_
    refine i_cmp_lt (tgt := 60) dX10_exchangeNow_54 rfl rr9 rx2 (fun c9 => ?_) (fun c9 => ?_)
    · replace h := h.1 c9
      refine w_bipush (v := nZ 10) dX10_exchangeNow_60 (by decide) ?_
      refine w_iload_n dX10_exchangeNow_62 rfl (List.Mem.tail _ (List.Mem.tail _ (List.Mem.tail _ (List.Mem.tail _ (List.Mem.head _))))) ?_
      obtain ⟨q15, h⟩ := h
      refine i_mul dX10_exchangeNow_63 ?_
      refine w_iload dX10_exchangeNow_64 (List.Mem.tail _ (List.Mem.tail _ (List.Mem.tail _ (List.Mem.tail _ (List.Mem.tail _ (List.Mem.head _)))))) ?_
      obtain ⟨q16, h⟩ := h
      refine i_add dX10_exchangeNow_66 ?_
      refine top_i (fun z17 ez18 => ?_)
      have rz19 : inR z17 := ez18 ▸ q16
      replace h := h z17 ez18
      refine w_istore_n (l' := [(1, .int (nZ z17)), (5, .int (nZ r10)), (0, .ref 76), (2, .int (nZ x2)), (3, .int (nZ x3)), (4, .int (nZ x4))]) dX10_exchangeNow_67 rfl (by decide) rfl ?_
      refine w_iload dX10_exchangeNow_68 (List.Mem.tail _ (List.Mem.head _)) ?_
      refine w_istore_n (l' := [(2, .int (nZ r10)), (1, .int (nZ z17)), (5, .int (nZ r10)), (0, .ref 76), (3, .int (nZ x3)), (4, .int (nZ x4))]) dX10_exchangeNow_70 rfl (by decide) rfl ?_
      obtain ⟨q20, h⟩ := h
      refine w_iinc (v := nZ (x4 + 1)) (l' := [(4, .int (nZ (x4 + 1))), (2, .int (nZ r10)), (1, .int (nZ z17)), (5, .int (nZ r10)), (0, .ref 76), (3, .int (nZ x3))]) dX10_exchangeNow_71 (List.Mem.tail _ (List.Mem.tail _ (List.Mem.tail _ (List.Mem.tail _ (List.Mem.tail _ (List.Mem.head _)))))) (nZ_add _ _) (by decide) rfl ?_
      refine w_goto (tgt := 22) dX10_exchangeNow_74 rfl ?_
      exact w_weak (l' := [(0, .ref 76), (1, .int (nZ z17)), (2, .int (nZ r10)), (3, .int (nZ x3)), (4, .int (nZ (x4 + 1)))]) (by intro q hq; simp only [List.mem_cons, List.not_mem_nil, or_false] at hq ⊢; rcases hq with rfl | rfl | rfl | rfl | rfl <;> simp) h
    · replace h := h.2 c9
      refine w_goto (tgt := 71) dX10_exchangeNow_57 rfl ?_
      obtain ⟨q21, h⟩ := h
      refine w_iinc (v := nZ (x4 + 1)) (l' := [(4, .int (nZ (x4 + 1))), (5, .int (nZ r10)), (0, .ref 76), (1, .int (nZ x1)), (2, .int (nZ x2)), (3, .int (nZ x3))]) dX10_exchangeNow_71 (List.Mem.tail _ (List.Mem.tail _ (List.Mem.tail _ (List.Mem.tail _ (List.Mem.tail _ (List.Mem.head _)))))) (nZ_add _ _) (by decide) rfl ?_
      refine w_goto (tgt := 22) dX10_exchangeNow_74 rfl ?_
      exact w_weak (l' := [(0, .ref 76), (1, .int (nZ x1)), (2, .int (nZ x2)), (3, .int (nZ x3)), (4, .int (nZ (x4 + 1)))]) (by intro q hq; simp only [List.mem_cons, List.not_mem_nil, or_false] at hq ⊢; rcases hq with rfl | rfl | rfl | rfl | rfl <;> simp) h
theorem dX10_exchange_0 : decode cX10_exchange 0 = .ok (.aload_n 0, 1) := by decide +kernel
theorem dX10_exchange_1 : decode cX10_exchange 1 = .ok (.iconst 0, 1) := by decide +kernel
theorem dX10_exchange_2 : decode cX10_exchange 2 = .ok (.putfield 106, 3) := by decide +kernel
theorem dX10_exchange_5 : decode cX10_exchange 5 = .ok (.aload_n 0, 1) := by decide +kernel
theorem dX10_exchange_6 : decode cX10_exchange 6 = .ok (.invokevirtual 309, 3) := by decide +kernel
theorem dX10_exchange_9 : decode cX10_exchange 9 = .ok (.ireturn, 1) := by decide +kernel
set_option maxRecDepth 10000 in
theorem t_X10_exchange {sc : Nat × (Nat → Int32)} {d : Nat} {Q : aO → aH → Prop} {σ : aH} {u : Nat}   (hG : G σ u) 
    (h : (∀ σ1 : aH, wI σ 76 0 0 = σ1 → (∃ (r8 : Int) (σ4 : aH), Ev sc d mX10_exchangeNow [.ref 76] σ1 (.inl (some (.int (nZ r8)))) σ4 ∧ G σ4 u ∧ inR r8 ∧ Q (.inl (some (.int (nZ r8)))) σ4))) :
    T sc (d + 1) mX10_exchange [.ref 76] σ Q := by
  refine T.of (c := 10) (code := cX10_exchange) (mL := 1) (rt := (some .int)) (ini := false) (l := [(0, .ref 76)]) rfl rfl rfl rfl (by decide) hs_X10_exchange rfl rfl ?_
  refine w_aload_n dX10_exchange_0 rfl (List.Mem.head _) ?_
  refine w_iconst (v := nZ 0) dX10_exchange_1 (by decide) ?_
  refine i_putI (ci := 10) 0 rfl dX10_exchange_2 fl_10_106 (by decide) (gT hG rfl (lt_of rfl)) (fun σ1 eσ2 => ?_)
  replace h := h σ1 eσ2
  have hG3 : G σ1 u := eσ2 ▸ G.wI hG
  refine w_aload_n dX10_exchange_5 rfl (List.Mem.head _) ?_
  obtain ⟨r8, σ4, hc6, hG5, rr7, h⟩ := h
  refine w_callV dX10_exchange_6 ml_10_309 ⟨ok_X10_exchangeNow, vi_X10_exchangeNow⟩ hs_X10_exchangeNow (As := []) rfl rfl (gT hG3 rfl (lt_of rfl)) (Nat.le_of_ble_eq_true rfl) hc6 ?_
  show wp (Ev sc d) 10 cX10_exchange 1 (some .int) false [] sc Q 9 [(0, .ref 76)] [.int (nZ r8)] σ4
  exact w_iret dX10_exchange_9 rfl h
theorem dX10_improved_0 : decode cX10_improved 0 = .ok (.aload_n 0, 1) := by decide +kernel
theorem dX10_improved_1 : decode cX10_improved 1 = .ok (.iconst 0, 1) := by decide +kernel
theorem dX10_improved_2 : decode cX10_improved 2 = .ok (.putfield 106, 3) := by decide +kernel
theorem dX10_improved_5 : decode cX10_improved 5 = .ok (.aload_n 0, 1) := by decide +kernel
theorem dX10_improved_6 : decode cX10_improved 6 = .ok (.iload_n 1, 1) := by decide +kernel
theorem dX10_improved_7 : decode cX10_improved 7 = .ok (.iconst 0, 1) := by decide +kernel
theorem dX10_improved_8 : decode cX10_improved 8 = .ok (.iconst 1, 1) := by decide +kernel
theorem dX10_improved_9 : decode cX10_improved 9 = .ok (.invokestatic 140, 3) := by decide +kernel
theorem dX10_improved_12 : decode cX10_improved 12 = .ok (.ifCond .ne 7, 3) := by decide +kernel
theorem dX10_improved_15 : decode cX10_improved 15 = .ok (.iconst 1, 1) := by decide +kernel
theorem dX10_improved_16 : decode cX10_improved 16 = .ok (.goto 4, 3) := by decide +kernel
theorem dX10_improved_19 : decode cX10_improved 19 = .ok (.iconst 0, 1) := by decide +kernel
theorem dX10_improved_20 : decode cX10_improved 20 = .ok (.iconst 1, 1) := by decide +kernel
theorem dX10_improved_21 : decode cX10_improved 21 = .ok (.iconst 1, 1) := by decide +kernel
theorem dX10_improved_22 : decode cX10_improved 22 = .ok (.invokevirtual 196, 3) := by decide +kernel
theorem dX10_improved_25 : decode cX10_improved 25 = .ok (.ifCond .eq 5, 3) := by decide +kernel
theorem dX10_improved_28 : decode cX10_improved 28 = .ok (.iconst 0, 1) := by decide +kernel
theorem dX10_improved_29 : decode cX10_improved 29 = .ok (.ireturn, 1) := by decide +kernel
theorem dX10_improved_30 : decode cX10_improved 30 = .ok (.iconst 0, 1) := by decide +kernel
theorem dX10_improved_31 : decode cX10_improved 31 = .ok (.istore_n 2, 1) := by decide +kernel
theorem dX10_improved_32 : decode cX10_improved 32 = .ok (.aload_n 0, 1) := by decide +kernel
theorem dX10_improved_33 : decode cX10_improved 33 = .ok (.aload_n 0, 1) := by decide +kernel
theorem dX10_improved_34 : decode cX10_improved 34 = .ok (.getfield 88, 3) := by decide +kernel
theorem dX10_improved_37 : decode cX10_improved 37 = .ok (.aload_n 0, 1) := by decide +kernel
theorem dX10_improved_38 : decode cX10_improved 38 = .ok (.getfield 91, 3) := by decide +kernel
theorem dX10_improved_41 : decode cX10_improved 41 = .ok (.invokevirtual 299, 3) := by decide +kernel
theorem dX10_improved_44 : decode cX10_improved 44 = .ok (.aload_n 0, 1) := by decide +kernel
theorem dX10_improved_45 : decode cX10_improved 45 = .ok (.invokevirtual 309, 3) := by decide +kernel
theorem dX10_improved_48 : decode cX10_improved 48 = .ok (.istore_n 3, 1) := by decide +kernel
theorem dX10_improved_49 : decode cX10_improved 49 = .ok (.iload_n 3, 1) := by decide +kernel
theorem dX10_improved_50 : decode cX10_improved 50 = .ok (.iconst (-1), 1) := by decide +kernel
theorem dX10_improved_51 : decode cX10_improved 51 = .ok (.if_icmp .eq 26, 3) := by decide +kernel
theorem dX10_improved_54 : decode cX10_improved 54 = .ok (.aload_n 0, 1) := by decide +kernel
theorem dX10_improved_55 : decode cX10_improved 55 = .ok (.iload_n 3, 1) := by decide +kernel
theorem dX10_improved_56 : decode cX10_improved 56 = .ok (.bipush 10, 2) := by decide +kernel
theorem dX10_improved_58 : decode cX10_improved 58 = .ok (.idiv, 1) := by decide +kernel
theorem dX10_improved_59 : decode cX10_improved 59 = .ok (.iload_n 3, 1) := by decide +kernel
theorem dX10_improved_60 : decode cX10_improved 60 = .ok (.bipush 10, 2) := by decide +kernel
theorem dX10_improved_62 : decode cX10_improved 62 = .ok (.irem, 1) := by decide +kernel
theorem dX10_improved_63 : decode cX10_improved 63 = .ok (.invokevirtual 306, 3) := by decide +kernel
theorem dX10_improved_66 : decode cX10_improved 66 = .ok (.iinc 2 1, 3) := by decide +kernel
theorem dX10_improved_69 : decode cX10_improved 69 = .ok (.aload_n 0, 1) := by decide +kernel
theorem dX10_improved_70 : decode cX10_improved 70 = .ok (.invokevirtual 309, 3) := by decide +kernel
theorem dX10_improved_73 : decode cX10_improved 73 = .ok (.istore_n 3, 1) := by decide +kernel
theorem dX10_improved_74 : decode cX10_improved 74 = .ok (.goto (-25), 3) := by decide +kernel
theorem dX10_improved_77 : decode cX10_improved 77 = .ok (.aload_n 0, 1) := by decide +kernel
theorem dX10_improved_78 : decode cX10_improved 78 = .ok (.invokevirtual 281, 3) := by decide +kernel
theorem dX10_improved_81 : decode cX10_improved 81 = .ok (.istore_n 3, 1) := by decide +kernel
theorem dX10_improved_82 : decode cX10_improved 82 = .ok (.aload_n 0, 1) := by decide +kernel
theorem dX10_improved_83 : decode cX10_improved 83 = .ok (.aload_n 0, 1) := by decide +kernel
theorem dX10_improved_84 : decode cX10_improved 84 = .ok (.getfield 88, 3) := by decide +kernel
theorem dX10_improved_87 : decode cX10_improved 87 = .ok (.aload_n 0, 1) := by decide +kernel
theorem dX10_improved_88 : decode cX10_improved 88 = .ok (.getfield 91, 3) := by decide +kernel
theorem dX10_improved_91 : decode cX10_improved 91 = .ok (.invokevirtual 303, 3) := by decide +kernel
theorem dX10_improved_94 : decode cX10_improved 94 = .ok (.iload_n 1, 1) := by decide +kernel
theorem dX10_improved_95 : decode cX10_improved 95 = .ok (.ifCond .ne 7, 3) := by decide +kernel
theorem dX10_improved_98 : decode cX10_improved 98 = .ok (.iload_n 2, 1) := by decide +kernel
theorem dX10_improved_99 : decode cX10_improved 99 = .ok (.goto 4, 3) := by decide +kernel
theorem dX10_improved_102 : decode cX10_improved 102 = .ok (.iload_n 3, 1) := by decide +kernel
theorem dX10_improved_103 : decode cX10_improved 103 = .ok (.ireturn, 1) := by decide +kernel
def L_X10_improved_20 (C : aM → List Value → aH → aO → aH → Prop) (sc : Nat × (Nat → Int32)) (P : aO → aH → Prop) (x1 : Int) (s0 : Int) (σ : aH) : Prop :=
    wp C 10 cX10_improved 4 (some .int) false [] sc P 20 [(0, .ref 76), (1, .int (nZ x1))] [.int (nZ s0), .ref 76] σ
def L_X10_improved_49 (C : aM → List Value → aH → aO → aH → Prop) (sc : Nat × (Nat → Int32)) (P : aO → aH → Prop) (x1 : Int) (x2 : Int) (x3 : Int) (σ : aH) : Prop :=
    wp C 10 cX10_improved 4 (some .int) false [] sc P 49 [(0, .ref 76), (1, .int (nZ x1)), (2, .int (nZ x2)), (3, .int (nZ x3))] [] σ
set_option maxRecDepth 10000 in
theorem t_X10_improved {sc : Nat × (Nat → Int32)} {d : Nat} {Q : aO → aH → Prop} {σ : aH} {u : Nat}  {x1 : Int} (hG : G σ u) (rx1 : inR x1)
    (h : (∀ σ1 : aH, wI σ 76 0 0 = σ1 → (∃ (r8 : Int) (σ4 : aH), Ev sc d mX10_in [.int (nZ x1), .int (nZ 0), .int (nZ 1)] σ1 (.inl (some (.int (nZ r8)))) σ4 ∧ G σ4 u ∧ inR r8 ∧ ((¬ r8 = 0 → L_X10_improved_20 (Ev sc d) sc Q x1 0 σ4) ∧ (r8 = 0 → L_X10_improved_20 (Ev sc d) sc Q x1 1 σ4))))) :
    T sc (d + 1) mX10_improved [.ref 76, .int (nZ x1)] σ Q := by
  refine T.of (c := 10) (code := cX10_improved) (mL := 4) (rt := (some .int)) (ini := false) (l := [(0, .ref 76), (1, .int (nZ x1))]) rfl rfl rfl rfl (by decide) hs_X10_improved rfl rfl ?_
  refine w_aload_n dX10_improved_0 rfl (List.Mem.head _) ?_
  refine w_iconst (v := nZ 0) dX10_improved_1 (by decide) ?_
  refine i_putI (ci := 10) 0 rfl dX10_improved_2 fl_10_106 (by decide) (gT hG rfl (lt_of rfl)) (fun σ1 eσ2 => ?_)
  replace h := h σ1 eσ2
  have hG3 : G σ1 u := eσ2 ▸ G.wI hG
  refine w_aload_n dX10_improved_5 rfl (List.Mem.head _) ?_
  refine w_iload_n dX10_improved_6 rfl (List.Mem.tail _ (List.Mem.head _)) ?_
  refine w_iconst (v := nZ 0) dX10_improved_7 (by decide) ?_
  refine w_iconst (v := nZ 1) dX10_improved_8 (by decide) ?_
  obtain ⟨r8, σ4, hc6, hG5, rr7, h⟩ := h
  refine w_callS dX10_improved_9 ml_10_140 ⟨ok_X10_in, st_X10_in⟩ hs_X10_in (As := [.int (nZ x1), .int (nZ 0), .int (nZ 1)]) rfl rfl (Nat.le_of_ble_eq_true rfl) hc6 ?_
  show wp (Ev sc d) 10 cX10_improved 4 (some .int) false [] sc Q 12 [(0, .ref 76), (1, .int (nZ x1))] [.int (nZ r8), .ref 76] σ4
  refine i_if_ne (tgt := 19) dX10_improved_12 rfl rr7 (fun c9 => ?_) (fun c9 => ?_)
  · replace h := h.1 c9
    refine w_iconst (v := nZ 0) dX10_improved_19 (by decide) ?_
    exact h
  · replace h := h.2 c9
    refine w_iconst (v := nZ 1) dX10_improved_15 (by decide) ?_
    refine w_goto (tgt := 20) dX10_improved_16 rfl ?_
    exact h
set_option maxRecDepth 10000 in
theorem v_X10_improved_20 {C : aM → List Value → aH → aO → aH → Prop} {sc : Nat × (Nat → Int32)} {P : aO → aH → Prop} {σ : aH} {u : Nat}  {x1 : Int} {s0 : Int} (hG : G σ u) (rx1 : inR x1) (rs0 : inR s0)
    (h : (∃ (r5 : Int) (σ1 : aH), C mX10_bad [.ref 76, .int (nZ s0), .int (nZ 1), .int (nZ 1)] σ (.inl (some (.int (nZ r5)))) σ1 ∧ G σ1 u ∧ inR r5 ∧ ((r5 = 0 → (∃ σ6 : aH, C mX10_saves [.ref 76, .ref 318, .ref 319] σ1 (.inl none) σ6 ∧ G σ6 u ∧ (∃ (r14 : Int) (σ10 : aH), C mX10_exchangeNow [.ref 76] σ6 (.inl (some (.int (nZ r14)))) σ10 ∧ G σ10 u ∧ inR r14 ∧ L_X10_improved_49 C sc P x1 0 r14 σ10))) ∧ (¬ (r5 = 0) → P (.inl (some (.int (nZ 0)))) σ1)))) :
    L_X10_improved_20 C sc P x1 s0 σ := by
  unfold L_X10_improved_20
  refine w_iconst (v := nZ 1) dX10_improved_20 (by decide) ?_
  refine w_iconst (v := nZ 1) dX10_improved_21 (by decide) ?_
  obtain ⟨r5, σ1, hc3, hG2, rr4, h⟩ := h
  refine w_callV dX10_improved_22 ml_10_196 ⟨ok_X10_bad, vi_X10_bad⟩ hs_X10_bad (As := [.int (nZ s0), .int (nZ 1), .int (nZ 1)]) rfl rfl (gT hG rfl (lt_of rfl)) (Nat.le_of_ble_eq_true rfl) hc3 ?_
  show wp C 10 cX10_improved 4 (some .int) false [] sc P 25 [(0, .ref 76), (1, .int (nZ x1))] [.int (nZ r5)] σ1
  refine i_if_eq (tgt := 30) dX10_improved_25 rfl rr4 (fun c9 => ?_) (fun c9 => ?_)
  · replace h := h.1 c9
    refine w_iconst (v := nZ 0) dX10_improved_30 (by decide) ?_
    refine w_istore_n (l' := [(2, .int (nZ 0)), (0, .ref 76), (1, .int (nZ x1))]) dX10_improved_31 rfl (by decide) rfl ?_
    refine w_aload_n dX10_improved_32 rfl (List.Mem.tail _ (List.Mem.head _)) ?_
    refine w_aload_n dX10_improved_33 rfl (List.Mem.tail _ (List.Mem.head _)) ?_
    refine w_getR (ci := 10) (k := 46) (b := 318) dX10_improved_34 fl_10_88 (by decide) (gT hG2 rfl (lt_of rfl)) (gR hG2 (b := 318) rfl) ?_
    refine w_aload_n dX10_improved_37 rfl (List.Mem.tail _ (List.Mem.head _)) ?_
    refine w_getR (ci := 10) (k := 47) (b := 319) dX10_improved_38 fl_10_91 (by decide) (gT hG2 rfl (lt_of rfl)) (gR hG2 (b := 319) rfl) ?_
    obtain ⟨σ6, hc8, hG7, h⟩ := h
    refine w_callV dX10_improved_41 ml_10_299 ⟨ok_X10_saves, vi_X10_saves⟩ hs_X10_saves (As := [.ref 318, .ref 319]) rfl rfl (gT hG2 rfl (lt_of rfl)) (Nat.le_of_ble_eq_true rfl) hc8 ?_
    show wp C 10 cX10_improved 4 (some .int) false [] sc P 44 [(2, .int (nZ 0)), (0, .ref 76), (1, .int (nZ x1))] [] σ6
    refine w_aload_n dX10_improved_44 rfl (List.Mem.tail _ (List.Mem.head _)) ?_
    obtain ⟨r14, σ10, hc12, hG11, rr13, h⟩ := h
    refine w_callV dX10_improved_45 ml_10_309 ⟨ok_X10_exchangeNow, vi_X10_exchangeNow⟩ hs_X10_exchangeNow (As := []) rfl rfl (gT hG7 rfl (lt_of rfl)) (Nat.le_of_ble_eq_true rfl) hc12 ?_
    show wp C 10 cX10_improved 4 (some .int) false [] sc P 48 [(2, .int (nZ 0)), (0, .ref 76), (1, .int (nZ x1))] [.int (nZ r14)] σ10
    refine w_istore_n (l' := [(3, .int (nZ r14)), (2, .int (nZ 0)), (0, .ref 76), (1, .int (nZ x1))]) dX10_improved_48 rfl (by decide) rfl ?_
    exact w_weak (l' := [(0, .ref 76), (1, .int (nZ x1)), (2, .int (nZ 0)), (3, .int (nZ r14))]) (by intro q hq; simp only [List.mem_cons, List.not_mem_nil, or_false] at hq ⊢; rcases hq with rfl | rfl | rfl | rfl <;> simp) h
  · replace h := h.2 c9
    refine w_iconst (v := nZ 0) dX10_improved_28 (by decide) ?_
    exact w_iret dX10_improved_29 rfl h
set_option maxRecDepth 10000 in
theorem v_X10_improved_49 {C : aM → List Value → aH → aO → aH → Prop} {sc : Nat × (Nat → Int32)} {P : aO → aH → Prop} {σ : aH} {u : Nat}  {x1 : Int} {x2 : Int} {x3 : Int} (hG : G σ u) (rx1 : inR x1) (rx2 : inR x2) (rx3 : inR x3)
    (h : ((x3 = (-1) → (∃ (r5 : Int) (σ1 : aH), C mX10_dueNow [.ref 76] σ (.inl (some (.int (nZ r5)))) σ1 ∧ G σ1 u ∧ inR r5 ∧ (∃ σ6 : aH, C mX10_setsBack [.ref 76, .ref 318, .ref 319] σ1 (.inl none) σ6 ∧ G σ6 u ∧ ((¬ x1 = 0 → P (.inl (some (.int (nZ r5)))) σ6) ∧ (x1 = 0 → P (.inl (some (.int (nZ x2)))) σ6))))) ∧ (¬ (x3 = (-1)) → ((0 ≤ x3 ∧ (0 : Int) < 10) ∧ inR (x3 / 10) ∧ ((0 ≤ x3 ∧ (0 : Int) < 10) ∧ inR (x3 % 10) ∧ (∃ σ12 : aH, C mX10_changes [.ref 76, .int (nZ (x3 / 10)), .int (nZ (x3 % 10))] σ (.inl none) σ12 ∧ G σ12 u ∧ (inR (x2 + 1) ∧ (∃ (r21 : Int) (σ17 : aH), C mX10_exchangeNow [.ref 76] σ12 (.inl (some (.int (nZ r21)))) σ17 ∧ G σ17 u ∧ inR r21 ∧ L_X10_improved_49 C sc P x1 (x2 + 1) r21 σ17)))))))) :
    L_X10_improved_49 C sc P x1 x2 x3 σ := by
  unfold L_X10_improved_49
  refine w_iload_n dX10_improved_49 rfl (List.Mem.tail _ (List.Mem.tail _ (List.Mem.tail _ (List.Mem.head _)))) ?_
  refine w_iconst (v := nZ (-1)) dX10_improved_50 (by decide) ?_
  refine i_cmp_eq (tgt := 77) dX10_improved_51 rfl rx3 (by decide) (fun c9 => ?_) (fun c9 => ?_)
  · replace h := h.1 c9
    refine w_aload_n dX10_improved_77 rfl (List.Mem.head _) ?_
    obtain ⟨r5, σ1, hc3, hG2, rr4, h⟩ := h
    refine w_callV dX10_improved_78 ml_10_281 ⟨ok_X10_dueNow, vi_X10_dueNow⟩ hs_X10_dueNow (As := []) rfl rfl (gT hG rfl (lt_of rfl)) (Nat.le_of_ble_eq_true rfl) hc3 ?_
    show wp C 10 cX10_improved 4 (some .int) false [] sc P 81 [(0, .ref 76), (1, .int (nZ x1)), (2, .int (nZ x2)), (3, .int (nZ x3))] [.int (nZ r5)] σ1
    refine w_istore_n (l' := [(3, .int (nZ r5)), (0, .ref 76), (1, .int (nZ x1)), (2, .int (nZ x2))]) dX10_improved_81 rfl (by decide) rfl ?_
    refine w_aload_n dX10_improved_82 rfl (List.Mem.tail _ (List.Mem.head _)) ?_
    refine w_aload_n dX10_improved_83 rfl (List.Mem.tail _ (List.Mem.head _)) ?_
    refine w_getR (ci := 10) (k := 46) (b := 318) dX10_improved_84 fl_10_88 (by decide) (gT hG2 rfl (lt_of rfl)) (gR hG2 (b := 318) rfl) ?_
    refine w_aload_n dX10_improved_87 rfl (List.Mem.tail _ (List.Mem.head _)) ?_
    refine w_getR (ci := 10) (k := 47) (b := 319) dX10_improved_88 fl_10_91 (by decide) (gT hG2 rfl (lt_of rfl)) (gR hG2 (b := 319) rfl) ?_
    obtain ⟨σ6, hc8, hG7, h⟩ := h
    refine w_callV dX10_improved_91 ml_10_303 ⟨ok_X10_setsBack, vi_X10_setsBack⟩ hs_X10_setsBack (As := [.ref 318, .ref 319]) rfl rfl (gT hG2 rfl (lt_of rfl)) (Nat.le_of_ble_eq_true rfl) hc8 ?_
    show wp C 10 cX10_improved 4 (some .int) false [] sc P 94 [(3, .int (nZ r5)), (0, .ref 76), (1, .int (nZ x1)), (2, .int (nZ x2))] [] σ6
    refine w_iload_n dX10_improved_94 rfl (List.Mem.tail _ (List.Mem.tail _ (List.Mem.head _))) ?_
    refine i_if_ne (tgt := 102) dX10_improved_95 rfl rx1 (fun c9 => ?_) (fun c9 => ?_)
    · replace h := h.1 c9
      refine w_iload_n dX10_improved_102 rfl (List.Mem.head _) ?_
      exact w_iret dX10_improved_103 rfl h
    · replace h := h.2 c9
      refine w_iload_n dX10_improved_98 rfl (List.Mem.tail _ (List.Mem.tail _ (List.Mem.tail _ (List.Mem.head _)))) ?_
      refine w_goto (tgt := 103) dX10_improved_99 rfl ?_
      exact w_iret dX10_improved_103 rfl h
  · replace h := h.2 c9
    refine w_aload_n dX10_improved_54 rfl (List.Mem.head _) ?_
    refine w_iload_n dX10_improved_55 rfl (List.Mem.tail _ (List.Mem.tail _ (List.Mem.tail _ (List.Mem.head _)))) ?_
    refine w_bipush (v := nZ 10) dX10_improved_56 (by decide) ?_
    obtain ⟨h9, q10, h⟩ := h
    refine i_div dX10_improved_58 rx3 (by decide) h9 ?_
    refine w_iload_n dX10_improved_59 rfl (List.Mem.tail _ (List.Mem.tail _ (List.Mem.tail _ (List.Mem.head _)))) ?_
    refine w_bipush (v := nZ 10) dX10_improved_60 (by decide) ?_
    obtain ⟨h9, q11, h⟩ := h
    refine i_rem dX10_improved_62 rx3 (by decide) h9 ?_
    obtain ⟨σ12, hc14, hG13, h⟩ := h
    refine w_callV dX10_improved_63 ml_10_306 ⟨ok_X10_changes, vi_X10_changes⟩ hs_X10_changes (As := [.int (nZ (x3 / 10)), .int (nZ (x3 % 10))]) rfl rfl (gT hG rfl (lt_of rfl)) (Nat.le_of_ble_eq_true rfl) hc14 ?_
    show wp C 10 cX10_improved 4 (some .int) false [] sc P 66 [(0, .ref 76), (1, .int (nZ x1)), (2, .int (nZ x2)), (3, .int (nZ x3))] [] σ12
    obtain ⟨q16, h⟩ := h
    refine w_iinc (v := nZ (x2 + 1)) (l' := [(2, .int (nZ (x2 + 1))), (0, .ref 76), (1, .int (nZ x1)), (3, .int (nZ x3))]) dX10_improved_66 (List.Mem.tail _ (List.Mem.tail _ (List.Mem.head _))) (nZ_add _ _) (by decide) rfl ?_
    refine w_aload_n dX10_improved_69 rfl (List.Mem.tail _ (List.Mem.head _)) ?_
    obtain ⟨r21, σ17, hc19, hG18, rr20, h⟩ := h
    refine w_callV dX10_improved_70 ml_10_309 ⟨ok_X10_exchangeNow, vi_X10_exchangeNow⟩ hs_X10_exchangeNow (As := []) rfl rfl (gT hG13 rfl (lt_of rfl)) (Nat.le_of_ble_eq_true rfl) hc19 ?_
    show wp C 10 cX10_improved 4 (some .int) false [] sc P 73 [(2, .int (nZ (x2 + 1))), (0, .ref 76), (1, .int (nZ x1)), (3, .int (nZ x3))] [.int (nZ r21)] σ17
    refine w_istore_n (l' := [(3, .int (nZ r21)), (2, .int (nZ (x2 + 1))), (0, .ref 76), (1, .int (nZ x1))]) dX10_improved_73 rfl (by decide) rfl ?_
    refine w_goto (tgt := 49) dX10_improved_74 rfl ?_
    exact w_weak (l' := [(0, .ref 76), (1, .int (nZ x1)), (2, .int (nZ (x2 + 1))), (3, .int (nZ r21))]) (by intro q hq; simp only [List.mem_cons, List.not_mem_nil, or_false] at hq ⊢; rcases hq with rfl | rfl | rfl | rfl <;> simp) h
theorem dX10_adds_0 : decode cX10_adds 0 = .ok (.iconst 0, 1) := by decide +kernel
theorem dX10_adds_1 : decode cX10_adds 1 = .ok (.istore 4, 2) := by decide +kernel
theorem dX10_adds_3 : decode cX10_adds 3 = .ok (.iload 4, 2) := by decide +kernel
theorem dX10_adds_5 : decode cX10_adds 5 = .ok (.bipush 7, 2) := by decide +kernel
theorem dX10_adds_7 : decode cX10_adds 7 = .ok (.if_icmp .ge 22, 3) := by decide +kernel
theorem dX10_adds_10 : decode cX10_adds 10 = .ok (.aload_n 0, 1) := by decide +kernel
theorem dX10_adds_11 : decode cX10_adds 11 = .ok (.getfield 31, 3) := by decide +kernel
theorem dX10_adds_14 : decode cX10_adds 14 = .ok (.aload_n 0, 1) := by decide +kernel
theorem dX10_adds_15 : decode cX10_adds 15 = .ok (.getfield 218, 3) := by decide +kernel
theorem dX10_adds_18 : decode cX10_adds 18 = .ok (.aaload, 1) := by decide +kernel
theorem dX10_adds_19 : decode cX10_adds 19 = .ok (.iload 4, 2) := by decide +kernel
theorem dX10_adds_21 : decode cX10_adds 21 = .ok (.iconst 0, 1) := by decide +kernel
theorem dX10_adds_22 : decode cX10_adds 22 = .ok (.iastore, 1) := by decide +kernel
theorem dX10_adds_23 : decode cX10_adds 23 = .ok (.iinc 4 1, 3) := by decide +kernel
theorem dX10_adds_26 : decode cX10_adds 26 = .ok (.goto (-23), 3) := by decide +kernel
theorem dX10_adds_29 : decode cX10_adds 29 = .ok (.aload_n 0, 1) := by decide +kernel
theorem dX10_adds_30 : decode cX10_adds 30 = .ok (.getfield 31, 3) := by decide +kernel
theorem dX10_adds_33 : decode cX10_adds 33 = .ok (.aload_n 0, 1) := by decide +kernel
theorem dX10_adds_34 : decode cX10_adds 34 = .ok (.getfield 218, 3) := by decide +kernel
theorem dX10_adds_37 : decode cX10_adds 37 = .ok (.aaload, 1) := by decide +kernel
theorem dX10_adds_38 : decode cX10_adds 38 = .ok (.iconst 0, 1) := by decide +kernel
theorem dX10_adds_39 : decode cX10_adds 39 = .ok (.iload_n 1, 1) := by decide +kernel
theorem dX10_adds_40 : decode cX10_adds 40 = .ok (.iastore, 1) := by decide +kernel
theorem dX10_adds_41 : decode cX10_adds 41 = .ok (.aload_n 0, 1) := by decide +kernel
theorem dX10_adds_42 : decode cX10_adds 42 = .ok (.getfield 31, 3) := by decide +kernel
theorem dX10_adds_45 : decode cX10_adds 45 = .ok (.aload_n 0, 1) := by decide +kernel
theorem dX10_adds_46 : decode cX10_adds 46 = .ok (.getfield 218, 3) := by decide +kernel
theorem dX10_adds_49 : decode cX10_adds 49 = .ok (.aaload, 1) := by decide +kernel
theorem dX10_adds_50 : decode cX10_adds 50 = .ok (.iconst 1, 1) := by decide +kernel
theorem dX10_adds_51 : decode cX10_adds 51 = .ok (.iload_n 2, 1) := by decide +kernel
theorem dX10_adds_52 : decode cX10_adds 52 = .ok (.iastore, 1) := by decide +kernel
theorem dX10_adds_53 : decode cX10_adds 53 = .ok (.aload_n 0, 1) := by decide +kernel
theorem dX10_adds_54 : decode cX10_adds 54 = .ok (.getfield 31, 3) := by decide +kernel
theorem dX10_adds_57 : decode cX10_adds 57 = .ok (.aload_n 0, 1) := by decide +kernel
theorem dX10_adds_58 : decode cX10_adds 58 = .ok (.getfield 218, 3) := by decide +kernel
theorem dX10_adds_61 : decode cX10_adds 61 = .ok (.aaload, 1) := by decide +kernel
theorem dX10_adds_62 : decode cX10_adds 62 = .ok (.iconst 2, 1) := by decide +kernel
theorem dX10_adds_63 : decode cX10_adds 63 = .ok (.iload_n 3, 1) := by decide +kernel
theorem dX10_adds_64 : decode cX10_adds 64 = .ok (.iastore, 1) := by decide +kernel
theorem dX10_adds_65 : decode cX10_adds 65 = .ok (.aload_n 0, 1) := by decide +kernel
theorem dX10_adds_66 : decode cX10_adds 66 = .ok (.dup, 1) := by decide +kernel
theorem dX10_adds_67 : decode cX10_adds 67 = .ok (.getfield 218, 3) := by decide +kernel
theorem dX10_adds_70 : decode cX10_adds 70 = .ok (.iconst 1, 1) := by decide +kernel
theorem dX10_adds_71 : decode cX10_adds 71 = .ok (.iadd, 1) := by decide +kernel
theorem dX10_adds_72 : decode cX10_adds 72 = .ok (.putfield 218, 3) := by decide +kernel
theorem dX10_adds_75 : decode cX10_adds 75 = .ok (.return_, 1) := by decide +kernel
def L_X10_adds_3 (C : aM → List Value → aH → aO → aH → Prop) (sc : Nat × (Nat → Int32)) (P : aO → aH → Prop) (x1 : Int) (x2 : Int) (x3 : Int) (x4 : Int) (σ : aH) : Prop :=
    wp C 10 cX10_adds 5 none false [] sc P 3 [(0, .ref 76), (1, .int (nZ x1)), (2, .int (nZ x2)), (3, .int (nZ x3)), (4, .int (nZ x4))] [] σ
set_option maxRecDepth 10000 in
theorem t_X10_adds {sc : Nat × (Nat → Int32)} {d : Nat} {Q : aO → aH → Prop} {σ : aH} {u : Nat}  {x1 : Int} {x2 : Int} {x3 : Int} (hG : G σ u) (rx1 : inR x1) (rx2 : inR x2) (rx3 : inR x3)
    (h : L_X10_adds_3 (Ev sc d) sc Q x1 x2 x3 0 σ) :
    T sc (d + 1) mX10_adds [.ref 76, .int (nZ x1), .int (nZ x2), .int (nZ x3)] σ Q := by
  refine T.of (c := 10) (code := cX10_adds) (mL := 5) (rt := none) (ini := false) (l := [(0, .ref 76), (1, .int (nZ x1)), (2, .int (nZ x2)), (3, .int (nZ x3))]) rfl rfl rfl rfl (by decide) hs_X10_adds rfl rfl ?_
  refine w_iconst (v := nZ 0) dX10_adds_0 (by decide) ?_
  refine w_istore (l' := [(4, .int (nZ 0)), (0, .ref 76), (1, .int (nZ x1)), (2, .int (nZ x2)), (3, .int (nZ x3))]) dX10_adds_1 (by decide) rfl ?_
  exact w_weak (l' := [(0, .ref 76), (1, .int (nZ x1)), (2, .int (nZ x2)), (3, .int (nZ x3)), (4, .int (nZ 0))]) (by intro q hq; simp only [List.mem_cons, List.not_mem_nil, or_false] at hq ⊢; rcases hq with rfl | rfl | rfl | rfl | rfl <;> simp) h
set_option maxRecDepth 10000 in
theorem v_X10_adds_3 {C : aM → List Value → aH → aO → aH → Prop} {sc : Nat × (Nat → Int32)} {P : aO → aH → Prop} {σ : aH} {u : Nat}  {x1 : Int} {x2 : Int} {x3 : Int} {x4 : Int} (hG : G σ u) (rx1 : inR x1) (rx2 : inR x2) (rx3 : inR x3) (rx4 : inR x4)
    (h : ((7 ≤ x4 → ((0 ≤ (rI σ 76 28) ∧ (rI σ 76 28) < 9) ∧ (∀ σ2 : aH, wI σ (91 + ((rI σ 76 28).toNat)) 0 x1 = σ2 → ((0 ≤ (rI σ2 76 28) ∧ (rI σ2 76 28) < 9) ∧ (∀ σ6 : aH, wI σ2 (91 + ((rI σ2 76 28).toNat)) 1 x2 = σ6 → ((0 ≤ (rI σ6 76 28) ∧ (rI σ6 76 28) < 9) ∧ (∀ σ10 : aH, wI σ6 (91 + ((rI σ6 76 28).toNat)) 2 x3 = σ10 → (inR ((rI σ10 76 28) + 1) ∧ (∀ σ14 : aH, wI σ10 76 28 ((rI σ10 76 28) + 1) = σ14 → P (.inl none) σ14))))))))) ∧ (¬ (7 ≤ x4) → ((0 ≤ (rI σ 76 28) ∧ (rI σ 76 28) < 9) ∧ ((0 ≤ x4 ∧ x4 < 7) ∧ (∀ σ18 : aH, wI σ (91 + ((rI σ 76 28).toNat)) x4 0 = σ18 → (inR (x4 + 1) ∧ L_X10_adds_3 C sc P x1 x2 x3 (x4 + 1) σ18))))))) :
    L_X10_adds_3 C sc P x1 x2 x3 x4 σ := by
  unfold L_X10_adds_3
  refine w_iload dX10_adds_3 (List.Mem.tail _ (List.Mem.tail _ (List.Mem.tail _ (List.Mem.tail _ (List.Mem.head _))))) ?_
  refine w_bipush (v := nZ 7) dX10_adds_5 (by decide) ?_
  refine i_cmp_ge (tgt := 29) dX10_adds_7 rfl rx4 (by decide) (fun c9 => ?_) (fun c9 => ?_)
  · replace h := h.1 c9
    refine w_aload_n dX10_adds_29 rfl (List.Mem.head _) ?_
    refine w_getR (ci := 10) (k := 13) (b := 90) dX10_adds_30 fl_10_31 (by decide) (gT hG rfl (lt_of rfl)) (gR hG (b := 90) rfl) ?_
    refine w_aload_n dX10_adds_33 rfl (List.Mem.head _) ?_
    refine i_getI (ci := 10) 28 rfl dX10_adds_34 fl_10_218 (by decide) (gT hG rfl (lt_of rfl)) ?_
    obtain ⟨h9, h⟩ := h
    have hj1 := vin_lt2 (n := 9) h9 rfl
    refine i_aald (n := 9) (b := (91 + ((rI σ 76 28).toNat))) dX10_adds_37 (gT hG rfl (lt_of rfl)) (gL hG rfl) (rI_R _ _ _) h9 (gR hG (rr_90 hj1)) ?_
    refine w_iconst (v := nZ 0) dX10_adds_38 (by decide) ?_
    refine w_iload_n dX10_adds_39 rfl (List.Mem.tail _ (List.Mem.head _)) ?_
    refine i_iast (n := 7) dX10_adds_40 (gT hG (ro_90 _ hj1).1 (by have := hj1; omega)) (gL hG (ro_90 _ hj1).2) (by decide) (by decide) (fun σ2 eσ3 => ?_)
    replace h := h σ2 eσ3
    have hG4 : G σ2 u := eσ3 ▸ G.wI hG
    refine w_aload_n dX10_adds_41 rfl (List.Mem.head _) ?_
    refine w_getR (ci := 10) (k := 13) (b := 90) dX10_adds_42 fl_10_31 (by decide) (gT hG4 rfl (lt_of rfl)) (gR hG4 (b := 90) rfl) ?_
    refine w_aload_n dX10_adds_45 rfl (List.Mem.head _) ?_
    refine i_getI (ci := 10) 28 rfl dX10_adds_46 fl_10_218 (by decide) (gT hG4 rfl (lt_of rfl)) ?_
    obtain ⟨h9, h⟩ := h
    have hj5 := vin_lt2 (n := 9) h9 rfl
    refine i_aald (n := 9) (b := (91 + ((rI σ2 76 28).toNat))) dX10_adds_49 (gT hG4 rfl (lt_of rfl)) (gL hG4 rfl) (rI_R _ _ _) h9 (gR hG4 (rr_90 hj5)) ?_
    refine w_iconst (v := nZ 1) dX10_adds_50 (by decide) ?_
    refine w_iload_n dX10_adds_51 rfl (List.Mem.tail _ (List.Mem.tail _ (List.Mem.head _))) ?_
    refine i_iast (n := 7) dX10_adds_52 (gT hG4 (ro_90 _ hj5).1 (by have := hj5; omega)) (gL hG4 (ro_90 _ hj5).2) (by decide) (by decide) (fun σ6 eσ7 => ?_)
    replace h := h σ6 eσ7
    have hG8 : G σ6 u := eσ7 ▸ G.wI hG4
    refine w_aload_n dX10_adds_53 rfl (List.Mem.head _) ?_
    refine w_getR (ci := 10) (k := 13) (b := 90) dX10_adds_54 fl_10_31 (by decide) (gT hG8 rfl (lt_of rfl)) (gR hG8 (b := 90) rfl) ?_
    refine w_aload_n dX10_adds_57 rfl (List.Mem.head _) ?_
    refine i_getI (ci := 10) 28 rfl dX10_adds_58 fl_10_218 (by decide) (gT hG8 rfl (lt_of rfl)) ?_
    obtain ⟨h9, h⟩ := h
    have hj9 := vin_lt2 (n := 9) h9 rfl
    refine i_aald (n := 9) (b := (91 + ((rI σ6 76 28).toNat))) dX10_adds_61 (gT hG8 rfl (lt_of rfl)) (gL hG8 rfl) (rI_R _ _ _) h9 (gR hG8 (rr_90 hj9)) ?_
    refine w_iconst (v := nZ 2) dX10_adds_62 (by decide) ?_
    refine w_iload_n dX10_adds_63 rfl (List.Mem.tail _ (List.Mem.tail _ (List.Mem.tail _ (List.Mem.head _)))) ?_
    refine i_iast (n := 7) dX10_adds_64 (gT hG8 (ro_90 _ hj9).1 (by have := hj9; omega)) (gL hG8 (ro_90 _ hj9).2) (by decide) (by decide) (fun σ10 eσ11 => ?_)
    replace h := h σ10 eσ11
    have hG12 : G σ10 u := eσ11 ▸ G.wI hG8
    refine w_aload_n dX10_adds_65 rfl (List.Mem.head _) ?_
    refine w_dup dX10_adds_66 rfl ?_
    refine i_getI (ci := 10) 28 rfl dX10_adds_67 fl_10_218 (by decide) (gT hG12 rfl (lt_of rfl)) ?_
    refine w_iconst (v := nZ 1) dX10_adds_70 (by decide) ?_
    obtain ⟨q13, h⟩ := h
    refine i_add dX10_adds_71 ?_
    refine i_putI (ci := 10) 28 rfl dX10_adds_72 fl_10_218 (by decide) (gT hG12 rfl (lt_of rfl)) (fun σ14 eσ15 => ?_)
    replace h := h σ14 eσ15
    have hG16 : G σ14 u := eσ15 ▸ G.wI hG12
    exact w_vret dX10_adds_75 rfl h
  · replace h := h.2 c9
    refine w_aload_n dX10_adds_10 rfl (List.Mem.head _) ?_
    refine w_getR (ci := 10) (k := 13) (b := 90) dX10_adds_11 fl_10_31 (by decide) (gT hG rfl (lt_of rfl)) (gR hG (b := 90) rfl) ?_
    refine w_aload_n dX10_adds_14 rfl (List.Mem.head _) ?_
    refine i_getI (ci := 10) 28 rfl dX10_adds_15 fl_10_218 (by decide) (gT hG rfl (lt_of rfl)) ?_
    obtain ⟨h9, h⟩ := h
    have hj17 := vin_lt2 (n := 9) h9 rfl
    refine i_aald (n := 9) (b := (91 + ((rI σ 76 28).toNat))) dX10_adds_18 (gT hG rfl (lt_of rfl)) (gL hG rfl) (rI_R _ _ _) h9 (gR hG (rr_90 hj17)) ?_
    refine w_iload dX10_adds_19 (List.Mem.tail _ (List.Mem.tail _ (List.Mem.tail _ (List.Mem.tail _ (List.Mem.head _))))) ?_
    refine w_iconst (v := nZ 0) dX10_adds_21 (by decide) ?_
    obtain ⟨h9, h⟩ := h
    refine i_iast (n := 7) dX10_adds_22 (gT hG (ro_90 _ hj17).1 (by have := hj17; omega)) (gL hG (ro_90 _ hj17).2) rx4 h9 (fun σ18 eσ19 => ?_)
    replace h := h σ18 eσ19
    have hG20 : G σ18 u := eσ19 ▸ G.wI hG
    obtain ⟨q21, h⟩ := h
    refine w_iinc (v := nZ (x4 + 1)) (l' := [(4, .int (nZ (x4 + 1))), (0, .ref 76), (1, .int (nZ x1)), (2, .int (nZ x2)), (3, .int (nZ x3))]) dX10_adds_23 (List.Mem.tail _ (List.Mem.tail _ (List.Mem.tail _ (List.Mem.tail _ (List.Mem.head _))))) (nZ_add _ _) (by decide) rfl ?_
    refine w_goto (tgt := 3) dX10_adds_26 rfl ?_
    exact w_weak (l' := [(0, .ref 76), (1, .int (nZ x1)), (2, .int (nZ x2)), (3, .int (nZ x3)), (4, .int (nZ (x4 + 1)))]) (by intro q hq; simp only [List.mem_cons, List.not_mem_nil, or_false] at hq ⊢; rcases hq with rfl | rfl | rfl | rfl | rfl <;> simp) h
theorem dX10_pole_0 : decode cX10_pole 0 = .ok (.aload_n 0, 1) := by decide +kernel
theorem dX10_pole_1 : decode cX10_pole 1 = .ok (.iconst 0, 1) := by decide +kernel
theorem dX10_pole_2 : decode cX10_pole 2 = .ok (.putfield 106, 3) := by decide +kernel
theorem dX10_pole_5 : decode cX10_pole 5 = .ok (.aload_n 0, 1) := by decide +kernel
theorem dX10_pole_6 : decode cX10_pole 6 = .ok (.iload_n 1, 1) := by decide +kernel
theorem dX10_pole_7 : decode cX10_pole 7 = .ok (.iconst 0, 1) := by decide +kernel
theorem dX10_pole_8 : decode cX10_pole 8 = .ok (.bipush 60, 2) := by decide +kernel
theorem dX10_pole_10 : decode cX10_pole 10 = .ok (.invokestatic 140, 3) := by decide +kernel
theorem dX10_pole_13 : decode cX10_pole 13 = .ok (.ifCond .eq 12, 3) := by decide +kernel
theorem dX10_pole_16 : decode cX10_pole 16 = .ok (.iload_n 2, 1) := by decide +kernel
theorem dX10_pole_17 : decode cX10_pole 17 = .ok (.iconst 0, 1) := by decide +kernel
theorem dX10_pole_18 : decode cX10_pole 18 = .ok (.iconst 1, 1) := by decide +kernel
theorem dX10_pole_19 : decode cX10_pole 19 = .ok (.invokestatic 140, 3) := by decide +kernel
theorem dX10_pole_22 : decode cX10_pole 22 = .ok (.ifCond .ne 7, 3) := by decide +kernel
theorem dX10_pole_25 : decode cX10_pole 25 = .ok (.iconst 1, 1) := by decide +kernel
theorem dX10_pole_26 : decode cX10_pole 26 = .ok (.goto 4, 3) := by decide +kernel
theorem dX10_pole_29 : decode cX10_pole 29 = .ok (.iconst 0, 1) := by decide +kernel
theorem dX10_pole_30 : decode cX10_pole 30 = .ok (.iconst 1, 1) := by decide +kernel
theorem dX10_pole_31 : decode cX10_pole 31 = .ok (.iconst 1, 1) := by decide +kernel
theorem dX10_pole_32 : decode cX10_pole 32 = .ok (.invokevirtual 196, 3) := by decide +kernel
theorem dX10_pole_35 : decode cX10_pole 35 = .ok (.ifCond .eq 5, 3) := by decide +kernel
theorem dX10_pole_38 : decode cX10_pole 38 = .ok (.iconst 0, 1) := by decide +kernel
theorem dX10_pole_39 : decode cX10_pole 39 = .ok (.ireturn, 1) := by decide +kernel
theorem dX10_pole_40 : decode cX10_pole 40 = .ok (.iconst (-1), 1) := by decide +kernel
theorem dX10_pole_41 : decode cX10_pole 41 = .ok (.istore_n 3, 1) := by decide +kernel
theorem dX10_pole_42 : decode cX10_pole 42 = .ok (.iconst 0, 1) := by decide +kernel
theorem dX10_pole_43 : decode cX10_pole 43 = .ok (.istore 4, 2) := by decide +kernel
theorem dX10_pole_45 : decode cX10_pole 45 = .ok (.iconst 0, 1) := by decide +kernel
theorem dX10_pole_46 : decode cX10_pole 46 = .ok (.istore 5, 2) := by decide +kernel
theorem dX10_pole_48 : decode cX10_pole 48 = .ok (.iload 5, 2) := by decide +kernel
theorem dX10_pole_50 : decode cX10_pole 50 = .ok (.aload_n 0, 1) := by decide +kernel
theorem dX10_pole_51 : decode cX10_pole 51 = .ok (.getfield 23, 3) := by decide +kernel
theorem dX10_pole_54 : decode cX10_pole 54 = .ok (.iconst 1, 1) := by decide +kernel
theorem dX10_pole_55 : decode cX10_pole 55 = .ok (.iaload, 1) := by decide +kernel
theorem dX10_pole_56 : decode cX10_pole 56 = .ok (.if_icmp .ge 106, 3) := by decide +kernel
theorem dX10_pole_59 : decode cX10_pole 59 = .ok (.aload_n 0, 1) := by decide +kernel
theorem dX10_pole_60 : decode cX10_pole 60 = .ok (.getfield 218, 3) := by decide +kernel
theorem dX10_pole_63 : decode cX10_pole 63 = .ok (.bipush 8, 2) := by decide +kernel
theorem dX10_pole_65 : decode cX10_pole 65 = .ok (.if_icmp .ge 97, 3) := by decide +kernel
theorem dX10_pole_68 : decode cX10_pole 68 = .ok (.iconst 0, 1) := by decide +kernel
theorem dX10_pole_69 : decode cX10_pole 69 = .ok (.istore 6, 2) := by decide +kernel
theorem dX10_pole_71 : decode cX10_pole 71 = .ok (.iload 6, 2) := by decide +kernel
theorem dX10_pole_73 : decode cX10_pole 73 = .ok (.aload_n 0, 1) := by decide +kernel
theorem dX10_pole_74 : decode cX10_pole 74 = .ok (.getfield 23, 3) := by decide +kernel
theorem dX10_pole_77 : decode cX10_pole 77 = .ok (.iconst 0, 1) := by decide +kernel
theorem dX10_pole_78 : decode cX10_pole 78 = .ok (.iaload, 1) := by decide +kernel
theorem dX10_pole_79 : decode cX10_pole 79 = .ok (.if_icmp .ge 77, 3) := by decide +kernel
theorem dX10_pole_82 : decode cX10_pole 82 = .ok (.aload_n 0, 1) := by decide +kernel
theorem dX10_pole_83 : decode cX10_pole 83 = .ok (.iload 6, 2) := by decide +kernel
theorem dX10_pole_85 : decode cX10_pole 85 = .ok (.iload 5, 2) := by decide +kernel
theorem dX10_pole_87 : decode cX10_pole 87 = .ok (.invokevirtual 245, 3) := by decide +kernel
theorem dX10_pole_90 : decode cX10_pole 90 = .ok (.iconst (-1), 1) := by decide +kernel
theorem dX10_pole_91 : decode cX10_pole 91 = .ok (.if_icmp .eq 6, 3) := by decide +kernel
theorem dX10_pole_94 : decode cX10_pole 94 = .ok (.goto 56, 3) := by decide +kernel
theorem dX10_pole_97 : decode cX10_pole 97 = .ok (.aload_n 0, 1) := by decide +kernel
theorem dX10_pole_98 : decode cX10_pole 98 = .ok (.iload 6, 2) := by decide +kernel
theorem dX10_pole_100 : decode cX10_pole 100 = .ok (.iload 5, 2) := by decide +kernel
theorem dX10_pole_102 : decode cX10_pole 102 = .ok (.iload_n 1, 1) := by decide +kernel
theorem dX10_pole_103 : decode cX10_pole 103 = .ok (.invokevirtual 312, 3) := by decide +kernel
theorem dX10_pole_106 : decode cX10_pole 106 = .ok (.aload_n 0, 1) := by decide +kernel
theorem dX10_pole_107 : decode cX10_pole 107 = .ok (.invokevirtual 281, 3) := by decide +kernel
theorem dX10_pole_110 : decode cX10_pole 110 = .ok (.istore 7, 2) := by decide +kernel
theorem dX10_pole_112 : decode cX10_pole 112 = .ok (.aload_n 0, 1) := by decide +kernel
theorem dX10_pole_113 : decode cX10_pole 113 = .ok (.dup, 1) := by decide +kernel
theorem dX10_pole_114 : decode cX10_pole 114 = .ok (.getfield 218, 3) := by decide +kernel
theorem dX10_pole_117 : decode cX10_pole 117 = .ok (.iconst 1, 1) := by decide +kernel
theorem dX10_pole_118 : decode cX10_pole 118 = .ok (.isub, 1) := by decide +kernel
theorem dX10_pole_119 : decode cX10_pole 119 = .ok (.putfield 218, 3) := by decide +kernel
theorem dX10_pole_122 : decode cX10_pole 122 = .ok (.iload_n 3, 1) := by decide +kernel
theorem dX10_pole_123 : decode cX10_pole 123 = .ok (.iconst (-1), 1) := by decide +kernel
theorem dX10_pole_124 : decode cX10_pole 124 = .ok (.if_icmp .eq 13, 3) := by decide +kernel
theorem dX10_pole_127 : decode cX10_pole 127 = .ok (.iload 7, 2) := by decide +kernel
theorem dX10_pole_129 : decode cX10_pole 129 = .ok (.iload 4, 2) := by decide +kernel
theorem dX10_pole_131 : decode cX10_pole 131 = .ok (.if_icmp .lt 6, 3) := by decide +kernel
theorem dX10_pole_134 : decode cX10_pole 134 = .ok (.goto 16, 3) := by decide +kernel
theorem dX10_pole_137 : decode cX10_pole 137 = .ok (.iload 6, 2) := by decide +kernel
theorem dX10_pole_139 : decode cX10_pole 139 = .ok (.bipush 10, 2) := by decide +kernel
theorem dX10_pole_141 : decode cX10_pole 141 = .ok (.iload 5, 2) := by decide +kernel
theorem dX10_pole_143 : decode cX10_pole 143 = .ok (.imul, 1) := by decide +kernel
theorem dX10_pole_144 : decode cX10_pole 144 = .ok (.iadd, 1) := by decide +kernel
theorem dX10_pole_145 : decode cX10_pole 145 = .ok (.istore_n 3, 1) := by decide +kernel
theorem dX10_pole_146 : decode cX10_pole 146 = .ok (.iload 7, 2) := by decide +kernel
theorem dX10_pole_148 : decode cX10_pole 148 = .ok (.istore 4, 2) := by decide +kernel
theorem dX10_pole_150 : decode cX10_pole 150 = .ok (.iinc 6 1, 3) := by decide +kernel
theorem dX10_pole_153 : decode cX10_pole 153 = .ok (.goto (-82), 3) := by decide +kernel
theorem dX10_pole_156 : decode cX10_pole 156 = .ok (.iinc 5 1, 3) := by decide +kernel
theorem dX10_pole_159 : decode cX10_pole 159 = .ok (.goto (-111), 3) := by decide +kernel
theorem dX10_pole_162 : decode cX10_pole 162 = .ok (.iload_n 2, 1) := by decide +kernel
theorem dX10_pole_163 : decode cX10_pole 163 = .ok (.ifCond .eq 8, 3) := by decide +kernel
theorem dX10_pole_166 : decode cX10_pole 166 = .ok (.iload_n 3, 1) := by decide +kernel
theorem dX10_pole_167 : decode cX10_pole 167 = .ok (.iconst (-1), 1) := by decide +kernel
theorem dX10_pole_168 : decode cX10_pole 168 = .ok (.if_icmp .ne 7, 3) := by decide +kernel
theorem dX10_pole_171 : decode cX10_pole 171 = .ok (.iload_n 3, 1) := by decide +kernel
theorem dX10_pole_172 : decode cX10_pole 172 = .ok (.goto 5, 3) := by decide +kernel
theorem dX10_pole_175 : decode cX10_pole 175 = .ok (.iload 4, 2) := by decide +kernel
theorem dX10_pole_177 : decode cX10_pole 177 = .ok (.ireturn, 1) := by decide +kernel
def L_X10_pole_48 (C : aM → List Value → aH → aO → aH → Prop) (sc : Nat × (Nat → Int32)) (P : aO → aH → Prop) (x1 : Int) (x2 : Int) (x3 : Int) (x4 : Int) (x5 : Int) (σ : aH) : Prop :=
    wp C 10 cX10_pole 8 (some .int) false [] sc P 48 [(0, .ref 76), (1, .int (nZ x1)), (2, .int (nZ x2)), (3, .int (nZ x3)), (4, .int (nZ x4)), (5, .int (nZ x5))] [] σ
def L_X10_pole_71 (C : aM → List Value → aH → aO → aH → Prop) (sc : Nat × (Nat → Int32)) (P : aO → aH → Prop) (x1 : Int) (x2 : Int) (x3 : Int) (x4 : Int) (x5 : Int) (x6 : Int) (σ : aH) : Prop :=
    wp C 10 cX10_pole 8 (some .int) false [] sc P 71 [(0, .ref 76), (1, .int (nZ x1)), (2, .int (nZ x2)), (3, .int (nZ x3)), (4, .int (nZ x4)), (5, .int (nZ x5)), (6, .int (nZ x6))] [] σ
set_option maxRecDepth 10000 in
theorem t_X10_pole {sc : Nat × (Nat → Int32)} {d : Nat} {Q : aO → aH → Prop} {σ : aH} {u : Nat}  {x1 : Int} {x2 : Int} (hG : G σ u) (rx1 : inR x1) (rx2 : inR x2)
    (h : (∀ σ1 : aH, wI σ 76 0 0 = σ1 → (∃ (r8 : Int) (σ4 : aH), Ev sc d mX10_in [.int (nZ x1), .int (nZ 0), .int (nZ 60)] σ1 (.inl (some (.int (nZ r8)))) σ4 ∧ G σ4 u ∧ inR r8 ∧ ((r8 = 0 → (∃ (r13 : Int) (σ9 : aH), Ev sc d mX10_bad [.ref 76, .int (nZ 1), .int (nZ 1), .int (nZ 1)] σ4 (.inl (some (.int (nZ r13)))) σ9 ∧ G σ9 u ∧ inR r13 ∧ ((r13 = 0 → L_X10_pole_48 (Ev sc d) sc Q x1 x2 (-1) 0 0 σ9) ∧ (¬ (r13 = 0) → Q (.inl (some (.int (nZ 0)))) σ9)))) ∧ (¬ (r8 = 0) → (∃ (r18 : Int) (σ14 : aH), Ev sc d mX10_in [.int (nZ x2), .int (nZ 0), .int (nZ 1)] σ4 (.inl (some (.int (nZ r18)))) σ14 ∧ G σ14 u ∧ inR r18 ∧ ((¬ r18 = 0 → (∃ (r23 : Int) (σ19 : aH), Ev sc d mX10_bad [.ref 76, .int (nZ 0), .int (nZ 1), .int (nZ 1)] σ14 (.inl (some (.int (nZ r23)))) σ19 ∧ G σ19 u ∧ inR r23 ∧ ((r23 = 0 → L_X10_pole_48 (Ev sc d) sc Q x1 x2 (-1) 0 0 σ19) ∧ (¬ (r23 = 0) → Q (.inl (some (.int (nZ 0)))) σ19)))) ∧ (r18 = 0 → (∃ (r28 : Int) (σ24 : aH), Ev sc d mX10_bad [.ref 76, .int (nZ 1), .int (nZ 1), .int (nZ 1)] σ14 (.inl (some (.int (nZ r28)))) σ24 ∧ G σ24 u ∧ inR r28 ∧ ((r28 = 0 → L_X10_pole_48 (Ev sc d) sc Q x1 x2 (-1) 0 0 σ24) ∧ (¬ (r28 = 0) → Q (.inl (some (.int (nZ 0)))) σ24))))))))))) :
    T sc (d + 1) mX10_pole [.ref 76, .int (nZ x1), .int (nZ x2)] σ Q := by
  refine T.of (c := 10) (code := cX10_pole) (mL := 8) (rt := (some .int)) (ini := false) (l := [(0, .ref 76), (1, .int (nZ x1)), (2, .int (nZ x2))]) rfl rfl rfl rfl (by decide) hs_X10_pole rfl rfl ?_
  refine w_aload_n dX10_pole_0 rfl (List.Mem.head _) ?_
  refine w_iconst (v := nZ 0) dX10_pole_1 (by decide) ?_
  refine i_putI (ci := 10) 0 rfl dX10_pole_2 fl_10_106 (by decide) (gT hG rfl (lt_of rfl)) (fun σ1 eσ2 => ?_)
  replace h := h σ1 eσ2
  have hG3 : G σ1 u := eσ2 ▸ G.wI hG
  refine w_aload_n dX10_pole_5 rfl (List.Mem.head _) ?_
  refine w_iload_n dX10_pole_6 rfl (List.Mem.tail _ (List.Mem.head _)) ?_
  refine w_iconst (v := nZ 0) dX10_pole_7 (by decide) ?_
  refine w_bipush (v := nZ 60) dX10_pole_8 (by decide) ?_
  obtain ⟨r8, σ4, hc6, hG5, rr7, h⟩ := h
  refine w_callS dX10_pole_10 ml_10_140 ⟨ok_X10_in, st_X10_in⟩ hs_X10_in (As := [.int (nZ x1), .int (nZ 0), .int (nZ 60)]) rfl rfl (Nat.le_of_ble_eq_true rfl) hc6 ?_
  show wp (Ev sc d) 10 cX10_pole 8 (some .int) false [] sc Q 13 [(0, .ref 76), (1, .int (nZ x1)), (2, .int (nZ x2))] [.int (nZ r8), .ref 76] σ4
  refine i_if_eq (tgt := 25) dX10_pole_13 rfl rr7 (fun c9 => ?_) (fun c9 => ?_)
  · replace h := h.1 c9
    refine w_iconst (v := nZ 1) dX10_pole_25 (by decide) ?_
    refine w_goto (tgt := 30) dX10_pole_26 rfl ?_
    refine w_iconst (v := nZ 1) dX10_pole_30 (by decide) ?_
    refine w_iconst (v := nZ 1) dX10_pole_31 (by decide) ?_
    obtain ⟨r13, σ9, hc11, hG10, rr12, h⟩ := h
    refine w_callV dX10_pole_32 ml_10_196 ⟨ok_X10_bad, vi_X10_bad⟩ hs_X10_bad (As := [.int (nZ 1), .int (nZ 1), .int (nZ 1)]) rfl rfl (gT hG5 rfl (lt_of rfl)) (Nat.le_of_ble_eq_true rfl) hc11 ?_
    show wp (Ev sc d) 10 cX10_pole 8 (some .int) false [] sc Q 35 [(0, .ref 76), (1, .int (nZ x1)), (2, .int (nZ x2))] [.int (nZ r13)] σ9
    refine i_if_eq (tgt := 40) dX10_pole_35 rfl rr12 (fun c9 => ?_) (fun c9 => ?_)
    · replace h := h.1 c9
      refine w_iconst (v := nZ (-1)) dX10_pole_40 (by decide) ?_
      refine w_istore_n (l' := [(3, .int (nZ (-1))), (0, .ref 76), (1, .int (nZ x1)), (2, .int (nZ x2))]) dX10_pole_41 rfl (by decide) rfl ?_
      refine w_iconst (v := nZ 0) dX10_pole_42 (by decide) ?_
      refine w_istore (l' := [(4, .int (nZ 0)), (3, .int (nZ (-1))), (0, .ref 76), (1, .int (nZ x1)), (2, .int (nZ x2))]) dX10_pole_43 (by decide) rfl ?_
      refine w_iconst (v := nZ 0) dX10_pole_45 (by decide) ?_
      refine w_istore (l' := [(5, .int (nZ 0)), (4, .int (nZ 0)), (3, .int (nZ (-1))), (0, .ref 76), (1, .int (nZ x1)), (2, .int (nZ x2))]) dX10_pole_46 (by decide) rfl ?_
      exact w_weak (l' := [(0, .ref 76), (1, .int (nZ x1)), (2, .int (nZ x2)), (3, .int (nZ (-1))), (4, .int (nZ 0)), (5, .int (nZ 0))]) (by intro q hq; simp only [List.mem_cons, List.not_mem_nil, or_false] at hq ⊢; rcases hq with rfl | rfl | rfl | rfl | rfl | rfl <;> simp) h
    · replace h := h.2 c9
      refine w_iconst (v := nZ 0) dX10_pole_38 (by decide) ?_
      exact w_iret dX10_pole_39 rfl h
  · replace h := h.2 c9
    refine w_iload_n dX10_pole_16 rfl (List.Mem.tail _ (List.Mem.tail _ (List.Mem.head _))) ?_
    refine w_iconst (v := nZ 0) dX10_pole_17 (by decide) ?_
    refine w_iconst (v := nZ 1) dX10_pole_18 (by decide) ?_
    obtain ⟨r18, σ14, hc16, hG15, rr17, h⟩ := h
    refine w_callS dX10_pole_19 ml_10_140 ⟨ok_X10_in, st_X10_in⟩ hs_X10_in (As := [.int (nZ x2), .int (nZ 0), .int (nZ 1)]) rfl rfl (Nat.le_of_ble_eq_true rfl) hc16 ?_
    show wp (Ev sc d) 10 cX10_pole 8 (some .int) false [] sc Q 22 [(0, .ref 76), (1, .int (nZ x1)), (2, .int (nZ x2))] [.int (nZ r18), .ref 76] σ14
    refine i_if_ne (tgt := 29) dX10_pole_22 rfl rr17 (fun c9 => ?_) (fun c9 => ?_)
    · replace h := h.1 c9
      refine w_iconst (v := nZ 0) dX10_pole_29 (by decide) ?_
      refine w_iconst (v := nZ 1) dX10_pole_30 (by decide) ?_
      refine w_iconst (v := nZ 1) dX10_pole_31 (by decide) ?_
      obtain ⟨r23, σ19, hc21, hG20, rr22, h⟩ := h
      refine w_callV dX10_pole_32 ml_10_196 ⟨ok_X10_bad, vi_X10_bad⟩ hs_X10_bad (As := [.int (nZ 0), .int (nZ 1), .int (nZ 1)]) rfl rfl (gT hG15 rfl (lt_of rfl)) (Nat.le_of_ble_eq_true rfl) hc21 ?_
      show wp (Ev sc d) 10 cX10_pole 8 (some .int) false [] sc Q 35 [(0, .ref 76), (1, .int (nZ x1)), (2, .int (nZ x2))] [.int (nZ r23)] σ19
      refine i_if_eq (tgt := 40) dX10_pole_35 rfl rr22 (fun c9 => ?_) (fun c9 => ?_)
      · replace h := h.1 c9
        refine w_iconst (v := nZ (-1)) dX10_pole_40 (by decide) ?_
        refine w_istore_n (l' := [(3, .int (nZ (-1))), (0, .ref 76), (1, .int (nZ x1)), (2, .int (nZ x2))]) dX10_pole_41 rfl (by decide) rfl ?_
        refine w_iconst (v := nZ 0) dX10_pole_42 (by decide) ?_
        refine w_istore (l' := [(4, .int (nZ 0)), (3, .int (nZ (-1))), (0, .ref 76), (1, .int (nZ x1)), (2, .int (nZ x2))]) dX10_pole_43 (by decide) rfl ?_
        refine w_iconst (v := nZ 0) dX10_pole_45 (by decide) ?_
        refine w_istore (l' := [(5, .int (nZ 0)), (4, .int (nZ 0)), (3, .int (nZ (-1))), (0, .ref 76), (1, .int (nZ x1)), (2, .int (nZ x2))]) dX10_pole_46 (by decide) rfl ?_
        exact w_weak (l' := [(0, .ref 76), (1, .int (nZ x1)), (2, .int (nZ x2)), (3, .int (nZ (-1))), (4, .int (nZ 0)), (5, .int (nZ 0))]) (by intro q hq; simp only [List.mem_cons, List.not_mem_nil, or_false] at hq ⊢; rcases hq with rfl | rfl | rfl | rfl | rfl | rfl <;> simp) h
      · replace h := h.2 c9
        refine w_iconst (v := nZ 0) dX10_pole_38 (by decide) ?_
        exact w_iret dX10_pole_39 rfl h
    · replace h := h.2 c9
      refine w_iconst (v := nZ 1) dX10_pole_25 (by decide) ?_
      refine w_goto (tgt := 30) dX10_pole_26 rfl ?_
      refine w_iconst (v := nZ 1) dX10_pole_30 (by decide) ?_
      refine w_iconst (v := nZ 1) dX10_pole_31 (by decide) ?_
      obtain ⟨r28, σ24, hc26, hG25, rr27, h⟩ := h
      refine w_callV dX10_pole_32 ml_10_196 ⟨ok_X10_bad, vi_X10_bad⟩ hs_X10_bad (As := [.int (nZ 1), .int (nZ 1), .int (nZ 1)]) rfl rfl (gT hG15 rfl (lt_of rfl)) (Nat.le_of_ble_eq_true rfl) hc26 ?_
      show wp (Ev sc d) 10 cX10_pole 8 (some .int) false [] sc Q 35 [(0, .ref 76), (1, .int (nZ x1)), (2, .int (nZ x2))] [.int (nZ r28)] σ24
      refine i_if_eq (tgt := 40) dX10_pole_35 rfl rr27 (fun c9 => ?_) (fun c9 => ?_)
      · replace h := h.1 c9
        refine w_iconst (v := nZ (-1)) dX10_pole_40 (by decide) ?_
        refine w_istore_n (l' := [(3, .int (nZ (-1))), (0, .ref 76), (1, .int (nZ x1)), (2, .int (nZ x2))]) dX10_pole_41 rfl (by decide) rfl ?_
        refine w_iconst (v := nZ 0) dX10_pole_42 (by decide) ?_
        refine w_istore (l' := [(4, .int (nZ 0)), (3, .int (nZ (-1))), (0, .ref 76), (1, .int (nZ x1)), (2, .int (nZ x2))]) dX10_pole_43 (by decide) rfl ?_
        refine w_iconst (v := nZ 0) dX10_pole_45 (by decide) ?_
        refine w_istore (l' := [(5, .int (nZ 0)), (4, .int (nZ 0)), (3, .int (nZ (-1))), (0, .ref 76), (1, .int (nZ x1)), (2, .int (nZ x2))]) dX10_pole_46 (by decide) rfl ?_
        exact w_weak (l' := [(0, .ref 76), (1, .int (nZ x1)), (2, .int (nZ x2)), (3, .int (nZ (-1))), (4, .int (nZ 0)), (5, .int (nZ 0))]) (by intro q hq; simp only [List.mem_cons, List.not_mem_nil, or_false] at hq ⊢; rcases hq with rfl | rfl | rfl | rfl | rfl | rfl <;> simp) h
      · replace h := h.2 c9
        refine w_iconst (v := nZ 0) dX10_pole_38 (by decide) ?_
        exact w_iret dX10_pole_39 rfl h
set_option maxRecDepth 10000 in
theorem v_X10_pole_48 {C : aM → List Value → aH → aO → aH → Prop} {sc : Nat × (Nat → Int32)} {P : aO → aH → Prop} {σ : aH} {u : Nat}  {x1 : Int} {x2 : Int} {x3 : Int} {x4 : Int} {x5 : Int} (hG : G σ u) (rx1 : inR x1) (rx2 : inR x2) (rx3 : inR x3) (rx4 : inR x4) (rx5 : inR x5)
    (h : (((rI σ 80 1) ≤ x5 → ((x2 = 0 → P (.inl (some (.int (nZ x3)))) σ) ∧ (¬ (x2 = 0) → ((¬ x3 = (-1) → P (.inl (some (.int (nZ x4)))) σ) ∧ (x3 = (-1) → P (.inl (some (.int (nZ x3)))) σ))))) ∧ (¬ ((rI σ 80 1) ≤ x5) → ((8 ≤ (rI σ 76 28) → ((x2 = 0 → P (.inl (some (.int (nZ x3)))) σ) ∧ (¬ (x2 = 0) → ((¬ x3 = (-1) → P (.inl (some (.int (nZ x4)))) σ) ∧ (x3 = (-1) → P (.inl (some (.int (nZ x3)))) σ))))) ∧ (¬ (8 ≤ (rI σ 76 28)) → L_X10_pole_71 C sc P x1 x2 x3 x4 x5 0 σ))))) :
    L_X10_pole_48 C sc P x1 x2 x3 x4 x5 σ := by
  unfold L_X10_pole_48
  refine w_iload dX10_pole_48 (List.Mem.tail _ (List.Mem.tail _ (List.Mem.tail _ (List.Mem.tail _ (List.Mem.tail _ (List.Mem.head _)))))) ?_
  refine w_aload_n dX10_pole_50 rfl (List.Mem.head _) ?_
  refine w_getR (ci := 10) (k := 11) (b := 80) dX10_pole_51 fl_10_23 (by decide) (gT hG rfl (lt_of rfl)) (gR hG (b := 80) rfl) ?_
  refine w_iconst (v := nZ 1) dX10_pole_54 (by decide) ?_
  refine i_iald (n := 8) dX10_pole_55 (gT hG rfl (lt_of rfl)) (gL hG rfl) (by decide) (by decide) ?_
  refine i_cmp_ge (tgt := 162) dX10_pole_56 rfl rx5 (rI_R _ _ _) (fun c9 => ?_) (fun c9 => ?_)
  · replace h := h.1 c9
    refine w_iload_n dX10_pole_162 rfl (List.Mem.tail _ (List.Mem.tail _ (List.Mem.head _))) ?_
    refine i_if_eq (tgt := 171) dX10_pole_163 rfl rx2 (fun c9 => ?_) (fun c9 => ?_)
    · replace h := h.1 c9
      refine w_iload_n dX10_pole_171 rfl (List.Mem.tail _ (List.Mem.tail _ (List.Mem.tail _ (List.Mem.head _)))) ?_
      refine w_goto (tgt := 177) dX10_pole_172 rfl ?_
      exact w_iret dX10_pole_177 rfl h
    · replace h := h.2 c9
      refine w_iload_n dX10_pole_166 rfl (List.Mem.tail _ (List.Mem.tail _ (List.Mem.tail _ (List.Mem.head _)))) ?_
      refine w_iconst (v := nZ (-1)) dX10_pole_167 (by decide) ?_
      refine i_cmp_ne (tgt := 175) dX10_pole_168 rfl rx3 (by decide) (fun c9 => ?_) (fun c9 => ?_)
      · replace h := h.1 c9
        refine w_iload dX10_pole_175 (List.Mem.tail _ (List.Mem.tail _ (List.Mem.tail _ (List.Mem.tail _ (List.Mem.head _))))) ?_
        exact w_iret dX10_pole_177 rfl h
      · replace h := h.2 c9
        refine w_iload_n dX10_pole_171 rfl (List.Mem.tail _ (List.Mem.tail _ (List.Mem.tail _ (List.Mem.head _)))) ?_
        refine w_goto (tgt := 177) dX10_pole_172 rfl ?_
        exact w_iret dX10_pole_177 rfl h
  · replace h := h.2 c9
    refine w_aload_n dX10_pole_59 rfl (List.Mem.head _) ?_
    refine i_getI (ci := 10) 28 rfl dX10_pole_60 fl_10_218 (by decide) (gT hG rfl (lt_of rfl)) ?_
    refine w_bipush (v := nZ 8) dX10_pole_63 (by decide) ?_
    refine i_cmp_ge (tgt := 162) dX10_pole_65 rfl (rI_R _ _ _) (by decide) (fun c9 => ?_) (fun c9 => ?_)
    · replace h := h.1 c9
      refine w_iload_n dX10_pole_162 rfl (List.Mem.tail _ (List.Mem.tail _ (List.Mem.head _))) ?_
      refine i_if_eq (tgt := 171) dX10_pole_163 rfl rx2 (fun c9 => ?_) (fun c9 => ?_)
      · replace h := h.1 c9
        refine w_iload_n dX10_pole_171 rfl (List.Mem.tail _ (List.Mem.tail _ (List.Mem.tail _ (List.Mem.head _)))) ?_
        refine w_goto (tgt := 177) dX10_pole_172 rfl ?_
        exact w_iret dX10_pole_177 rfl h
      · replace h := h.2 c9
        refine w_iload_n dX10_pole_166 rfl (List.Mem.tail _ (List.Mem.tail _ (List.Mem.tail _ (List.Mem.head _)))) ?_
        refine w_iconst (v := nZ (-1)) dX10_pole_167 (by decide) ?_
        refine i_cmp_ne (tgt := 175) dX10_pole_168 rfl rx3 (by decide) (fun c9 => ?_) (fun c9 => ?_)
        · replace h := h.1 c9
          refine w_iload dX10_pole_175 (List.Mem.tail _ (List.Mem.tail _ (List.Mem.tail _ (List.Mem.tail _ (List.Mem.head _))))) ?_
          exact w_iret dX10_pole_177 rfl h
        · replace h := h.2 c9
          refine w_iload_n dX10_pole_171 rfl (List.Mem.tail _ (List.Mem.tail _ (List.Mem.tail _ (List.Mem.head _)))) ?_
          refine w_goto (tgt := 177) dX10_pole_172 rfl ?_
          exact w_iret dX10_pole_177 rfl h
    · replace h := h.2 c9
      refine w_iconst (v := nZ 0) dX10_pole_68 (by decide) ?_
      refine w_istore (l' := [(6, .int (nZ 0)), (0, .ref 76), (1, .int (nZ x1)), (2, .int (nZ x2)), (3, .int (nZ x3)), (4, .int (nZ x4)), (5, .int (nZ x5))]) dX10_pole_69 (by decide) rfl ?_
      exact w_weak (l' := [(0, .ref 76), (1, .int (nZ x1)), (2, .int (nZ x2)), (3, .int (nZ x3)), (4, .int (nZ x4)), (5, .int (nZ x5)), (6, .int (nZ 0))]) (by intro q hq; simp only [List.mem_cons, List.not_mem_nil, or_false] at hq ⊢; rcases hq with rfl | rfl | rfl | rfl | rfl | rfl | rfl <;> simp) h
set_option maxRecDepth 10000 in
theorem v_X10_pole_71 {C : aM → List Value → aH → aO → aH → Prop} {sc : Nat × (Nat → Int32)} {P : aO → aH → Prop} {σ : aH} {u : Nat}  {x1 : Int} {x2 : Int} {x3 : Int} {x4 : Int} {x5 : Int} {x6 : Int} (hG : G σ u) (rx1 : inR x1) (rx2 : inR x2) (rx3 : inR x3) (rx4 : inR x4) (rx5 : inR x5) (rx6 : inR x6)
    (h : (((rI σ 80 0) ≤ x6 → (inR (x5 + 1) ∧ L_X10_pole_48 C sc P x1 x2 x3 x4 (x5 + 1) σ)) ∧ (¬ ((rI σ 80 0) ≤ x6) → (∃ (r6 : Int) (σ2 : aH), C mX10_stallOn [.ref 76, .int (nZ x6), .int (nZ x5)] σ (.inl (some (.int (nZ r6)))) σ2 ∧ G σ2 u ∧ inR r6 ∧ ((r6 = (-1) → (∃ σ7 : aH, C mX10_adds [.ref 76, .int (nZ x6), .int (nZ x5), .int (nZ x1)] σ2 (.inl none) σ7 ∧ G σ7 u ∧ (∃ (r15 : Int) (σ11 : aH), C mX10_dueNow [.ref 76] σ7 (.inl (some (.int (nZ r15)))) σ11 ∧ G σ11 u ∧ inR r15 ∧ (inR ((rI σ11 76 28) - 1) ∧ (∀ σ17 : aH, wI σ11 76 28 ((rI σ11 76 28) - 1) = σ17 → ((x3 = (-1) → (inR (10 * x5) ∧ (inR (x6 + (10 * x5)) ∧ (∀ z22 : Int, z22 = (x6 + (10 * x5)) → (inR (x6 + 1) ∧ L_X10_pole_71 C sc P x1 x2 z22 r15 x5 (x6 + 1) σ17))))) ∧ (¬ (x3 = (-1)) → ((r15 < x4 → (inR (10 * x5) ∧ (inR (x6 + (10 * x5)) ∧ (∀ z28 : Int, z28 = (x6 + (10 * x5)) → (inR (x6 + 1) ∧ L_X10_pole_71 C sc P x1 x2 z28 r15 x5 (x6 + 1) σ17))))) ∧ (¬ (r15 < x4) → (inR (x6 + 1) ∧ L_X10_pole_71 C sc P x1 x2 x3 x4 x5 (x6 + 1) σ17)))))))))) ∧ (¬ (r6 = (-1)) → (inR (x6 + 1) ∧ L_X10_pole_71 C sc P x1 x2 x3 x4 x5 (x6 + 1) σ2))))))) :
    L_X10_pole_71 C sc P x1 x2 x3 x4 x5 x6 σ := by
  unfold L_X10_pole_71
  refine w_iload dX10_pole_71 (List.Mem.tail _ (List.Mem.tail _ (List.Mem.tail _ (List.Mem.tail _ (List.Mem.tail _ (List.Mem.tail _ (List.Mem.head _))))))) ?_
  refine w_aload_n dX10_pole_73 rfl (List.Mem.head _) ?_
  refine w_getR (ci := 10) (k := 11) (b := 80) dX10_pole_74 fl_10_23 (by decide) (gT hG rfl (lt_of rfl)) (gR hG (b := 80) rfl) ?_
  refine w_iconst (v := nZ 0) dX10_pole_77 (by decide) ?_
  refine i_iald (n := 8) dX10_pole_78 (gT hG rfl (lt_of rfl)) (gL hG rfl) (by decide) (by decide) ?_
  refine i_cmp_ge (tgt := 156) dX10_pole_79 rfl rx6 (rI_R _ _ _) (fun c9 => ?_) (fun c9 => ?_)
  · replace h := h.1 c9
    obtain ⟨q1, h⟩ := h
    refine w_iinc (v := nZ (x5 + 1)) (l' := [(5, .int (nZ (x5 + 1))), (0, .ref 76), (1, .int (nZ x1)), (2, .int (nZ x2)), (3, .int (nZ x3)), (4, .int (nZ x4)), (6, .int (nZ x6))]) dX10_pole_156 (List.Mem.tail _ (List.Mem.tail _ (List.Mem.tail _ (List.Mem.tail _ (List.Mem.tail _ (List.Mem.head _)))))) (nZ_add _ _) (by decide) rfl ?_
    refine w_goto (tgt := 48) dX10_pole_159 rfl ?_
    exact w_weak (l' := [(0, .ref 76), (1, .int (nZ x1)), (2, .int (nZ x2)), (3, .int (nZ x3)), (4, .int (nZ x4)), (5, .int (nZ (x5 + 1)))]) (by intro q hq; simp only [List.mem_cons, List.not_mem_nil, or_false] at hq ⊢; rcases hq with rfl | rfl | rfl | rfl | rfl | rfl <;> simp) h
  · replace h := h.2 c9
    refine w_aload_n dX10_pole_82 rfl (List.Mem.head _) ?_
    refine w_iload dX10_pole_83 (List.Mem.tail _ (List.Mem.tail _ (List.Mem.tail _ (List.Mem.tail _ (List.Mem.tail _ (List.Mem.tail _ (List.Mem.head _))))))) ?_
    refine w_iload dX10_pole_85 (List.Mem.tail _ (List.Mem.tail _ (List.Mem.tail _ (List.Mem.tail _ (List.Mem.tail _ (List.Mem.head _)))))) ?_
    obtain ⟨r6, σ2, hc4, hG3, rr5, h⟩ := h
    refine w_callV dX10_pole_87 ml_10_245 ⟨ok_X10_stallOn, vi_X10_stallOn⟩ hs_X10_stallOn (As := [.int (nZ x6), .int (nZ x5)]) rfl rfl (gT hG rfl (lt_of rfl)) (Nat.le_of_ble_eq_true rfl) hc4 ?_
    show wp C 10 cX10_pole 8 (some .int) false [] sc P 90 [(0, .ref 76), (1, .int (nZ x1)), (2, .int (nZ x2)), (3, .int (nZ x3)), (4, .int (nZ x4)), (5, .int (nZ x5)), (6, .int (nZ x6))] [.int (nZ r6)] σ2
    refine w_iconst (v := nZ (-1)) dX10_pole_90 (by decide) ?_
    refine i_cmp_eq (tgt := 97) dX10_pole_91 rfl rr5 (by decide) (fun c9 => ?_) (fun c9 => ?_)
    · replace h := h.1 c9
      refine w_aload_n dX10_pole_97 rfl (List.Mem.head _) ?_
      refine w_iload dX10_pole_98 (List.Mem.tail _ (List.Mem.tail _ (List.Mem.tail _ (List.Mem.tail _ (List.Mem.tail _ (List.Mem.tail _ (List.Mem.head _))))))) ?_
      refine w_iload dX10_pole_100 (List.Mem.tail _ (List.Mem.tail _ (List.Mem.tail _ (List.Mem.tail _ (List.Mem.tail _ (List.Mem.head _)))))) ?_
      refine w_iload_n dX10_pole_102 rfl (List.Mem.tail _ (List.Mem.head _)) ?_
      obtain ⟨σ7, hc9, hG8, h⟩ := h
      refine w_callV dX10_pole_103 ml_10_312 ⟨ok_X10_adds, vi_X10_adds⟩ hs_X10_adds (As := [.int (nZ x6), .int (nZ x5), .int (nZ x1)]) rfl rfl (gT hG3 rfl (lt_of rfl)) (Nat.le_of_ble_eq_true rfl) hc9 ?_
      show wp C 10 cX10_pole 8 (some .int) false [] sc P 106 [(0, .ref 76), (1, .int (nZ x1)), (2, .int (nZ x2)), (3, .int (nZ x3)), (4, .int (nZ x4)), (5, .int (nZ x5)), (6, .int (nZ x6))] [] σ7
      refine w_aload_n dX10_pole_106 rfl (List.Mem.head _) ?_
      obtain ⟨r15, σ11, hc13, hG12, rr14, h⟩ := h
      refine w_callV dX10_pole_107 ml_10_281 ⟨ok_X10_dueNow, vi_X10_dueNow⟩ hs_X10_dueNow (As := []) rfl rfl (gT hG8 rfl (lt_of rfl)) (Nat.le_of_ble_eq_true rfl) hc13 ?_
      show wp C 10 cX10_pole 8 (some .int) false [] sc P 110 [(0, .ref 76), (1, .int (nZ x1)), (2, .int (nZ x2)), (3, .int (nZ x3)), (4, .int (nZ x4)), (5, .int (nZ x5)), (6, .int (nZ x6))] [.int (nZ r15)] σ11
      refine w_istore (l' := [(7, .int (nZ r15)), (0, .ref 76), (1, .int (nZ x1)), (2, .int (nZ x2)), (3, .int (nZ x3)), (4, .int (nZ x4)), (5, .int (nZ x5)), (6, .int (nZ x6))]) dX10_pole_110 (by decide) rfl ?_
      refine w_aload_n dX10_pole_112 rfl (List.Mem.tail _ (List.Mem.head _)) ?_
      refine w_dup dX10_pole_113 rfl ?_
      refine i_getI (ci := 10) 28 rfl dX10_pole_114 fl_10_218 (by decide) (gT hG12 rfl (lt_of rfl)) ?_
      refine w_iconst (v := nZ 1) dX10_pole_117 (by decide) ?_
      obtain ⟨q16, h⟩ := h
      refine i_sub dX10_pole_118 ?_
      refine i_putI (ci := 10) 28 rfl dX10_pole_119 fl_10_218 (by decide) (gT hG12 rfl (lt_of rfl)) (fun σ17 eσ18 => ?_)
      replace h := h σ17 eσ18
      have hG19 : G σ17 u := eσ18 ▸ G.wI hG12
      refine w_iload_n dX10_pole_122 rfl (List.Mem.tail _ (List.Mem.tail _ (List.Mem.tail _ (List.Mem.tail _ (List.Mem.head _))))) ?_
      refine w_iconst (v := nZ (-1)) dX10_pole_123 (by decide) ?_
      refine i_cmp_eq (tgt := 137) dX10_pole_124 rfl rx3 (by decide) (fun c9 => ?_) (fun c9 => ?_)
      · replace h := h.1 c9
        refine w_iload dX10_pole_137 (List.Mem.tail _ (List.Mem.tail _ (List.Mem.tail _ (List.Mem.tail _ (List.Mem.tail _ (List.Mem.tail _ (List.Mem.tail _ (List.Mem.head _)))))))) ?_
        refine w_bipush (v := nZ 10) dX10_pole_139 (by decide) ?_
        refine w_iload dX10_pole_141 (List.Mem.tail _ (List.Mem.tail _ (List.Mem.tail _ (List.Mem.tail _ (List.Mem.tail _ (List.Mem.tail _ (List.Mem.head _))))))) ?_
        obtain ⟨q20, h⟩ := h
        refine i_mul dX10_pole_143 ?_
        obtain ⟨q21, h⟩ := h
        refine i_add dX10_pole_144 ?_
        refine top_i (fun z22 ez23 => ?_)
        have rz24 : inR z22 := ez23 ▸ q21
        replace h := h z22 ez23
        refine w_istore_n (l' := [(3, .int (nZ z22)), (7, .int (nZ r15)), (0, .ref 76), (1, .int (nZ x1)), (2, .int (nZ x2)), (4, .int (nZ x4)), (5, .int (nZ x5)), (6, .int (nZ x6))]) dX10_pole_145 rfl (by decide) rfl ?_
        refine w_iload dX10_pole_146 (List.Mem.tail _ (List.Mem.head _)) ?_
        refine w_istore (l' := [(4, .int (nZ r15)), (3, .int (nZ z22)), (7, .int (nZ r15)), (0, .ref 76), (1, .int (nZ x1)), (2, .int (nZ x2)), (5, .int (nZ x5)), (6, .int (nZ x6))]) dX10_pole_148 (by decide) rfl ?_
        obtain ⟨q25, h⟩ := h
        refine w_iinc (v := nZ (x6 + 1)) (l' := [(6, .int (nZ (x6 + 1))), (4, .int (nZ r15)), (3, .int (nZ z22)), (7, .int (nZ r15)), (0, .ref 76), (1, .int (nZ x1)), (2, .int (nZ x2)), (5, .int (nZ x5))]) dX10_pole_150 (List.Mem.tail _ (List.Mem.tail _ (List.Mem.tail _ (List.Mem.tail _ (List.Mem.tail _ (List.Mem.tail _ (List.Mem.tail _ (List.Mem.head _)))))))) (nZ_add _ _) (by decide) rfl ?_
        refine w_goto (tgt := 71) dX10_pole_153 rfl ?_
        exact w_weak (l' := [(0, .ref 76), (1, .int (nZ x1)), (2, .int (nZ x2)), (3, .int (nZ z22)), (4, .int (nZ r15)), (5, .int (nZ x5)), (6, .int (nZ (x6 + 1)))]) (by intro q hq; simp only [List.mem_cons, List.not_mem_nil, or_false] at hq ⊢; rcases hq with rfl | rfl | rfl | rfl | rfl | rfl | rfl <;> simp) h
      · replace h := h.2 c9
        refine w_iload dX10_pole_127 (List.Mem.head _) ?_
        refine w_iload dX10_pole_129 (List.Mem.tail _ (List.Mem.tail _ (List.Mem.tail _ (List.Mem.tail _ (List.Mem.tail _ (List.Mem.head _)))))) ?_
        refine i_cmp_lt (tgt := 137) dX10_pole_131 rfl rr14 rx4 (fun c9 => ?_) (fun c9 => ?_)
        · replace h := h.1 c9
          refine w_iload dX10_pole_137 (List.Mem.tail _ (List.Mem.tail _ (List.Mem.tail _ (List.Mem.tail _ (List.Mem.tail _ (List.Mem.tail _ (List.Mem.tail _ (List.Mem.head _)))))))) ?_
          refine w_bipush (v := nZ 10) dX10_pole_139 (by decide) ?_
          refine w_iload dX10_pole_141 (List.Mem.tail _ (List.Mem.tail _ (List.Mem.tail _ (List.Mem.tail _ (List.Mem.tail _ (List.Mem.tail _ (List.Mem.head _))))))) ?_
          obtain ⟨q26, h⟩ := h
          refine i_mul dX10_pole_143 ?_
          obtain ⟨q27, h⟩ := h
          refine i_add dX10_pole_144 ?_
          refine top_i (fun z28 ez29 => ?_)
          have rz30 : inR z28 := ez29 ▸ q27
          replace h := h z28 ez29
          refine w_istore_n (l' := [(3, .int (nZ z28)), (7, .int (nZ r15)), (0, .ref 76), (1, .int (nZ x1)), (2, .int (nZ x2)), (4, .int (nZ x4)), (5, .int (nZ x5)), (6, .int (nZ x6))]) dX10_pole_145 rfl (by decide) rfl ?_
          refine w_iload dX10_pole_146 (List.Mem.tail _ (List.Mem.head _)) ?_
          refine w_istore (l' := [(4, .int (nZ r15)), (3, .int (nZ z28)), (7, .int (nZ r15)), (0, .ref 76), (1, .int (nZ x1)), (2, .int (nZ x2)), (5, .int (nZ x5)), (6, .int (nZ x6))]) dX10_pole_148 (by decide) rfl ?_
          obtain ⟨q31, h⟩ := h
          refine w_iinc (v := nZ (x6 + 1)) (l' := [(6, .int (nZ (x6 + 1))), (4, .int (nZ r15)), (3, .int (nZ z28)), (7, .int (nZ r15)), (0, .ref 76), (1, .int (nZ x1)), (2, .int (nZ x2)), (5, .int (nZ x5))]) dX10_pole_150 (List.Mem.tail _ (List.Mem.tail _ (List.Mem.tail _ (List.Mem.tail _ (List.Mem.tail _ (List.Mem.tail _ (List.Mem.tail _ (List.Mem.head _)))))))) (nZ_add _ _) (by decide) rfl ?_
          refine w_goto (tgt := 71) dX10_pole_153 rfl ?_
          exact w_weak (l' := [(0, .ref 76), (1, .int (nZ x1)), (2, .int (nZ x2)), (3, .int (nZ z28)), (4, .int (nZ r15)), (5, .int (nZ x5)), (6, .int (nZ (x6 + 1)))]) (by intro q hq; simp only [List.mem_cons, List.not_mem_nil, or_false] at hq ⊢; rcases hq with rfl | rfl | rfl | rfl | rfl | rfl | rfl <;> simp) h
        · replace h := h.2 c9
          refine w_goto (tgt := 150) dX10_pole_134 rfl ?_
          obtain ⟨q32, h⟩ := h
          refine w_iinc (v := nZ (x6 + 1)) (l' := [(6, .int (nZ (x6 + 1))), (7, .int (nZ r15)), (0, .ref 76), (1, .int (nZ x1)), (2, .int (nZ x2)), (3, .int (nZ x3)), (4, .int (nZ x4)), (5, .int (nZ x5))]) dX10_pole_150 (List.Mem.tail _ (List.Mem.tail _ (List.Mem.tail _ (List.Mem.tail _ (List.Mem.tail _ (List.Mem.tail _ (List.Mem.tail _ (List.Mem.head _)))))))) (nZ_add _ _) (by decide) rfl ?_
          refine w_goto (tgt := 71) dX10_pole_153 rfl ?_
          exact w_weak (l' := [(0, .ref 76), (1, .int (nZ x1)), (2, .int (nZ x2)), (3, .int (nZ x3)), (4, .int (nZ x4)), (5, .int (nZ x5)), (6, .int (nZ (x6 + 1)))]) (by intro q hq; simp only [List.mem_cons, List.not_mem_nil, or_false] at hq ⊢; rcases hq with rfl | rfl | rfl | rfl | rfl | rfl | rfl <;> simp) h
    · replace h := h.2 c9
      refine w_goto (tgt := 150) dX10_pole_94 rfl ?_
      obtain ⟨q33, h⟩ := h
      refine w_iinc (v := nZ (x6 + 1)) (l' := [(6, .int (nZ (x6 + 1))), (0, .ref 76), (1, .int (nZ x1)), (2, .int (nZ x2)), (3, .int (nZ x3)), (4, .int (nZ x4)), (5, .int (nZ x5))]) dX10_pole_150 (List.Mem.tail _ (List.Mem.tail _ (List.Mem.tail _ (List.Mem.tail _ (List.Mem.tail _ (List.Mem.tail _ (List.Mem.head _))))))) (nZ_add _ _) (by decide) rfl ?_
      refine w_goto (tgt := 71) dX10_pole_153 rfl ?_
      exact w_weak (l' := [(0, .ref 76), (1, .int (nZ x1)), (2, .int (nZ x2)), (3, .int (nZ x3)), (4, .int (nZ x4)), (5, .int (nZ x5)), (6, .int (nZ (x6 + 1)))]) (by intro q hq; simp only [List.mem_cons, List.not_mem_nil, or_false] at hq ⊢; rcases hq with rfl | rfl | rfl | rfl | rfl | rfl | rfl <;> simp) h
theorem dX10_gainOf_0 : decode cX10_gainOf 0 = .ok (.aload_n 0, 1) := by decide +kernel
theorem dX10_gainOf_1 : decode cX10_gainOf 1 = .ok (.invokevirtual 281, 3) := by decide +kernel
theorem dX10_gainOf_4 : decode cX10_gainOf 4 = .ok (.pop, 1) := by decide +kernel
theorem dX10_gainOf_5 : decode cX10_gainOf 5 = .ok (.aload_n 0, 1) := by decide +kernel
theorem dX10_gainOf_6 : decode cX10_gainOf 6 = .ok (.iload_n 1, 1) := by decide +kernel
theorem dX10_gainOf_7 : decode cX10_gainOf 7 = .ok (.invokevirtual 287, 3) := by decide +kernel
theorem dX10_gainOf_10 : decode cX10_gainOf 10 = .ok (.ireturn, 1) := by decide +kernel
set_option maxRecDepth 10000 in
theorem t_X10_gainOf {sc : Nat × (Nat → Int32)} {d : Nat} {Q : aO → aH → Prop} {σ : aH} {u : Nat}  {x1 : Int} (hG : G σ u) (rx1 : inR x1)
    (h : (∃ (r5 : Int) (σ1 : aH), Ev sc d mX10_dueNow [.ref 76] σ (.inl (some (.int (nZ r5)))) σ1 ∧ G σ1 u ∧ inR r5 ∧ (∃ (r10 : Int) (σ6 : aH), Ev sc d mX10_netOf [.ref 76, .int (nZ x1)] σ1 (.inl (some (.int (nZ r10)))) σ6 ∧ G σ6 u ∧ inR r10 ∧ Q (.inl (some (.int (nZ r10)))) σ6))) :
    T sc (d + 1) mX10_gainOf [.ref 76, .int (nZ x1)] σ Q := by
  refine T.of (c := 10) (code := cX10_gainOf) (mL := 2) (rt := (some .int)) (ini := false) (l := [(0, .ref 76), (1, .int (nZ x1))]) rfl rfl rfl rfl (by decide) hs_X10_gainOf rfl rfl ?_
  refine w_aload_n dX10_gainOf_0 rfl (List.Mem.head _) ?_
  obtain ⟨r5, σ1, hc3, hG2, rr4, h⟩ := h
  refine w_callV dX10_gainOf_1 ml_10_281 ⟨ok_X10_dueNow, vi_X10_dueNow⟩ hs_X10_dueNow (As := []) rfl rfl (gT hG rfl (lt_of rfl)) (Nat.le_of_ble_eq_true rfl) hc3 ?_
  show wp (Ev sc d) 10 cX10_gainOf 2 (some .int) false [] sc Q 4 [(0, .ref 76), (1, .int (nZ x1))] [.int (nZ r5)] σ1
  refine w_pop dX10_gainOf_4 rfl ?_
  refine w_aload_n dX10_gainOf_5 rfl (List.Mem.head _) ?_
  refine w_iload_n dX10_gainOf_6 rfl (List.Mem.tail _ (List.Mem.head _)) ?_
  obtain ⟨r10, σ6, hc8, hG7, rr9, h⟩ := h
  refine w_callV dX10_gainOf_7 ml_10_287 ⟨ok_X10_netOf, vi_X10_netOf⟩ hs_X10_netOf (As := [.int (nZ x1)]) rfl rfl (gT hG2 rfl (lt_of rfl)) (Nat.le_of_ble_eq_true rfl) hc8 ?_
  show wp (Ev sc d) 10 cX10_gainOf 2 (some .int) false [] sc Q 10 [(0, .ref 76), (1, .int (nZ x1))] [.int (nZ r10)] σ6
  exact w_iret dX10_gainOf_10 rfl h
theorem dX10_wishOf_0 : decode cX10_wishOf 0 = .ok (.aload_n 0, 1) := by decide +kernel
theorem dX10_wishOf_1 : decode cX10_wishOf 1 = .ok (.getfield 31, 3) := by decide +kernel
theorem dX10_wishOf_4 : decode cX10_wishOf 4 = .ok (.iload_n 1, 1) := by decide +kernel
theorem dX10_wishOf_5 : decode cX10_wishOf 5 = .ok (.aaload, 1) := by decide +kernel
theorem dX10_wishOf_6 : decode cX10_wishOf 6 = .ok (.iconst 2, 1) := by decide +kernel
theorem dX10_wishOf_7 : decode cX10_wishOf 7 = .ok (.iaload, 1) := by decide +kernel
theorem dX10_wishOf_8 : decode cX10_wishOf 8 = .ok (.istore_n 2, 1) := by decide +kernel
theorem dX10_wishOf_9 : decode cX10_wishOf 9 = .ok (.iconst 0, 1) := by decide +kernel
theorem dX10_wishOf_10 : decode cX10_wishOf 10 = .ok (.istore_n 3, 1) := by decide +kernel
theorem dX10_wishOf_11 : decode cX10_wishOf 11 = .ok (.iconst 0, 1) := by decide +kernel
theorem dX10_wishOf_12 : decode cX10_wishOf 12 = .ok (.istore 4, 2) := by decide +kernel
theorem dX10_wishOf_14 : decode cX10_wishOf 14 = .ok (.aload_n 0, 1) := by decide +kernel
theorem dX10_wishOf_15 : decode cX10_wishOf 15 = .ok (.getfield 31, 3) := by decide +kernel
theorem dX10_wishOf_18 : decode cX10_wishOf 18 = .ok (.iload_n 1, 1) := by decide +kernel
theorem dX10_wishOf_19 : decode cX10_wishOf 19 = .ok (.aaload, 1) := by decide +kernel
theorem dX10_wishOf_20 : decode cX10_wishOf 20 = .ok (.iconst 5, 1) := by decide +kernel
theorem dX10_wishOf_21 : decode cX10_wishOf 21 = .ok (.iaload, 1) := by decide +kernel
theorem dX10_wishOf_22 : decode cX10_wishOf 22 = .ok (.ifCond .ne 7, 3) := by decide +kernel
theorem dX10_wishOf_25 : decode cX10_wishOf 25 = .ok (.iload_n 2, 1) := by decide +kernel
theorem dX10_wishOf_26 : decode cX10_wishOf 26 = .ok (.goto 11, 3) := by decide +kernel
theorem dX10_wishOf_29 : decode cX10_wishOf 29 = .ok (.aload_n 0, 1) := by decide +kernel
theorem dX10_wishOf_30 : decode cX10_wishOf 30 = .ok (.getfield 31, 3) := by decide +kernel
theorem dX10_wishOf_33 : decode cX10_wishOf 33 = .ok (.iload_n 1, 1) := by decide +kernel
theorem dX10_wishOf_34 : decode cX10_wishOf 34 = .ok (.aaload, 1) := by decide +kernel
theorem dX10_wishOf_35 : decode cX10_wishOf 35 = .ok (.iconst 5, 1) := by decide +kernel
theorem dX10_wishOf_36 : decode cX10_wishOf 36 = .ok (.iaload, 1) := by decide +kernel
theorem dX10_wishOf_37 : decode cX10_wishOf 37 = .ok (.istore 5, 2) := by decide +kernel
theorem dX10_wishOf_39 : decode cX10_wishOf 39 = .ok (.iconst 0, 1) := by decide +kernel
theorem dX10_wishOf_40 : decode cX10_wishOf 40 = .ok (.istore 6, 2) := by decide +kernel
theorem dX10_wishOf_42 : decode cX10_wishOf 42 = .ok (.iload 6, 2) := by decide +kernel
theorem dX10_wishOf_44 : decode cX10_wishOf 44 = .ok (.iload 5, 2) := by decide +kernel
theorem dX10_wishOf_46 : decode cX10_wishOf 46 = .ok (.if_icmp .gt 51, 3) := by decide +kernel
theorem dX10_wishOf_49 : decode cX10_wishOf 49 = .ok (.aload_n 0, 1) := by decide +kernel
theorem dX10_wishOf_50 : decode cX10_wishOf 50 = .ok (.getfield 31, 3) := by decide +kernel
theorem dX10_wishOf_53 : decode cX10_wishOf 53 = .ok (.iload_n 1, 1) := by decide +kernel
theorem dX10_wishOf_54 : decode cX10_wishOf 54 = .ok (.aaload, 1) := by decide +kernel
theorem dX10_wishOf_55 : decode cX10_wishOf 55 = .ok (.iconst 2, 1) := by decide +kernel
theorem dX10_wishOf_56 : decode cX10_wishOf 56 = .ok (.iload 6, 2) := by decide +kernel
theorem dX10_wishOf_58 : decode cX10_wishOf 58 = .ok (.iastore, 1) := by decide +kernel
theorem dX10_wishOf_59 : decode cX10_wishOf 59 = .ok (.aload_n 0, 1) := by decide +kernel
theorem dX10_wishOf_60 : decode cX10_wishOf 60 = .ok (.iload_n 1, 1) := by decide +kernel
theorem dX10_wishOf_61 : decode cX10_wishOf 61 = .ok (.invokevirtual 315, 3) := by decide +kernel
theorem dX10_wishOf_64 : decode cX10_wishOf 64 = .ok (.iload 6, 2) := by decide +kernel
theorem dX10_wishOf_66 : decode cX10_wishOf 66 = .ok (.iadd, 1) := by decide +kernel
theorem dX10_wishOf_67 : decode cX10_wishOf 67 = .ok (.istore 7, 2) := by decide +kernel
theorem dX10_wishOf_69 : decode cX10_wishOf 69 = .ok (.iload 6, 2) := by decide +kernel
theorem dX10_wishOf_71 : decode cX10_wishOf 71 = .ok (.ifCond .le 13, 3) := by decide +kernel
theorem dX10_wishOf_74 : decode cX10_wishOf 74 = .ok (.iload 7, 2) := by decide +kernel
theorem dX10_wishOf_76 : decode cX10_wishOf 76 = .ok (.iload 4, 2) := by decide +kernel
theorem dX10_wishOf_78 : decode cX10_wishOf 78 = .ok (.if_icmp .gt 6, 3) := by decide +kernel
theorem dX10_wishOf_81 : decode cX10_wishOf 81 = .ok (.goto 10, 3) := by decide +kernel
theorem dX10_wishOf_84 : decode cX10_wishOf 84 = .ok (.iload 6, 2) := by decide +kernel
theorem dX10_wishOf_86 : decode cX10_wishOf 86 = .ok (.istore_n 3, 1) := by decide +kernel
theorem dX10_wishOf_87 : decode cX10_wishOf 87 = .ok (.iload 7, 2) := by decide +kernel
theorem dX10_wishOf_89 : decode cX10_wishOf 89 = .ok (.istore 4, 2) := by decide +kernel
theorem dX10_wishOf_91 : decode cX10_wishOf 91 = .ok (.iinc 6 1, 3) := by decide +kernel
theorem dX10_wishOf_94 : decode cX10_wishOf 94 = .ok (.goto (-52), 3) := by decide +kernel
theorem dX10_wishOf_97 : decode cX10_wishOf 97 = .ok (.aload_n 0, 1) := by decide +kernel
theorem dX10_wishOf_98 : decode cX10_wishOf 98 = .ok (.getfield 31, 3) := by decide +kernel
theorem dX10_wishOf_101 : decode cX10_wishOf 101 = .ok (.iload_n 1, 1) := by decide +kernel
theorem dX10_wishOf_102 : decode cX10_wishOf 102 = .ok (.aaload, 1) := by decide +kernel
theorem dX10_wishOf_103 : decode cX10_wishOf 103 = .ok (.iconst 2, 1) := by decide +kernel
theorem dX10_wishOf_104 : decode cX10_wishOf 104 = .ok (.iload_n 2, 1) := by decide +kernel
theorem dX10_wishOf_105 : decode cX10_wishOf 105 = .ok (.iastore, 1) := by decide +kernel
theorem dX10_wishOf_106 : decode cX10_wishOf 106 = .ok (.iload_n 3, 1) := by decide +kernel
theorem dX10_wishOf_107 : decode cX10_wishOf 107 = .ok (.ireturn, 1) := by decide +kernel
def L_X10_wishOf_42 (C : aM → List Value → aH → aO → aH → Prop) (sc : Nat × (Nat → Int32)) (P : aO → aH → Prop) (x1 : Int) (x2 : Int) (x3 : Int) (x4 : Int) (x5 : Int) (x6 : Int) (σ : aH) : Prop :=
    wp C 10 cX10_wishOf 8 (some .int) false [] sc P 42 [(0, .ref 76), (1, .int (nZ x1)), (2, .int (nZ x2)), (3, .int (nZ x3)), (4, .int (nZ x4)), (5, .int (nZ x5)), (6, .int (nZ x6))] [] σ
set_option maxRecDepth 10000 in
theorem t_X10_wishOf {sc : Nat × (Nat → Int32)} {d : Nat} {Q : aO → aH → Prop} {σ : aH} {u : Nat}  {x1 : Int} (hG : G σ u) (rx1 : inR x1)
    (h : ((0 ≤ x1 ∧ x1 < 9) ∧ (∀ z2 : Int, z2 = (rI σ (91 + x1.toNat) 2) → ((0 ≤ x1 ∧ x1 < 9) ∧ ((¬ (rI σ (91 + x1.toNat) 5) = 0 → ((0 ≤ x1 ∧ x1 < 9) ∧ (∀ z7 : Int, z7 = (rI σ (91 + x1.toNat) 5) → L_X10_wishOf_42 (Ev sc d) sc Q x1 z2 0 0 z7 0 σ))) ∧ ((rI σ (91 + x1.toNat) 5) = 0 → L_X10_wishOf_42 (Ev sc d) sc Q x1 z2 0 0 z2 0 σ)))))) :
    T sc (d + 1) mX10_wishOf [.ref 76, .int (nZ x1)] σ Q := by
  refine T.of (c := 10) (code := cX10_wishOf) (mL := 8) (rt := (some .int)) (ini := false) (l := [(0, .ref 76), (1, .int (nZ x1))]) rfl rfl rfl rfl (by decide) hs_X10_wishOf rfl rfl ?_
  refine w_aload_n dX10_wishOf_0 rfl (List.Mem.head _) ?_
  refine w_getR (ci := 10) (k := 13) (b := 90) dX10_wishOf_1 fl_10_31 (by decide) (gT hG rfl (lt_of rfl)) (gR hG (b := 90) rfl) ?_
  refine w_iload_n dX10_wishOf_4 rfl (List.Mem.tail _ (List.Mem.head _)) ?_
  obtain ⟨h9, h⟩ := h
  have hj1 := vin_lt2 (n := 9) h9 rfl
  refine i_aald (n := 9) (b := (91 + x1.toNat)) dX10_wishOf_5 (gT hG rfl (lt_of rfl)) (gL hG rfl) rx1 h9 (gR hG (rr_90 hj1)) ?_
  refine w_iconst (v := nZ 2) dX10_wishOf_6 (by decide) ?_
  refine i_iald (n := 7) dX10_wishOf_7 (gT hG (ro_90 _ hj1).1 (by have := hj1; omega)) (gL hG (ro_90 _ hj1).2) (by decide) (by decide) ?_
  refine top_i (fun z2 ez3 => ?_)
  have rz4 : inR z2 := ez3 ▸ (rI_R _ _ _)
  replace h := h z2 ez3
  refine w_istore_n (l' := [(2, .int (nZ z2)), (0, .ref 76), (1, .int (nZ x1))]) dX10_wishOf_8 rfl (by decide) rfl ?_
  refine w_iconst (v := nZ 0) dX10_wishOf_9 (by decide) ?_
  refine w_istore_n (l' := [(3, .int (nZ 0)), (2, .int (nZ z2)), (0, .ref 76), (1, .int (nZ x1))]) dX10_wishOf_10 rfl (by decide) rfl ?_
  refine w_iconst (v := nZ 0) dX10_wishOf_11 (by decide) ?_
  refine w_istore (l' := [(4, .int (nZ 0)), (3, .int (nZ 0)), (2, .int (nZ z2)), (0, .ref 76), (1, .int (nZ x1))]) dX10_wishOf_12 (by decide) rfl ?_
  refine w_aload_n dX10_wishOf_14 rfl (List.Mem.tail _ (List.Mem.tail _ (List.Mem.tail _ (List.Mem.head _)))) ?_
  refine w_getR (ci := 10) (k := 13) (b := 90) dX10_wishOf_15 fl_10_31 (by decide) (gT hG rfl (lt_of rfl)) (gR hG (b := 90) rfl) ?_
  refine w_iload_n dX10_wishOf_18 rfl (List.Mem.tail _ (List.Mem.tail _ (List.Mem.tail _ (List.Mem.tail _ (List.Mem.head _))))) ?_
  obtain ⟨h9, h⟩ := h
  have hj5 := vin_lt2 (n := 9) h9 rfl
  refine i_aald (n := 9) (b := (91 + x1.toNat)) dX10_wishOf_19 (gT hG rfl (lt_of rfl)) (gL hG rfl) rx1 h9 (gR hG (rr_90 hj5)) ?_
  refine w_iconst (v := nZ 5) dX10_wishOf_20 (by decide) ?_
  refine i_iald (n := 7) dX10_wishOf_21 (gT hG (ro_90 _ hj5).1 (by have := hj5; omega)) (gL hG (ro_90 _ hj5).2) (by decide) (by decide) ?_
  refine i_if_ne (tgt := 29) dX10_wishOf_22 rfl (rI_R _ _ _) (fun c9 => ?_) (fun c9 => ?_)
  · replace h := h.1 c9
    refine w_aload_n dX10_wishOf_29 rfl (List.Mem.tail _ (List.Mem.tail _ (List.Mem.tail _ (List.Mem.head _)))) ?_
    refine w_getR (ci := 10) (k := 13) (b := 90) dX10_wishOf_30 fl_10_31 (by decide) (gT hG rfl (lt_of rfl)) (gR hG (b := 90) rfl) ?_
    refine w_iload_n dX10_wishOf_33 rfl (List.Mem.tail _ (List.Mem.tail _ (List.Mem.tail _ (List.Mem.tail _ (List.Mem.head _))))) ?_
    obtain ⟨h9, h⟩ := h
    have hj6 := vin_lt2 (n := 9) h9 rfl
    refine i_aald (n := 9) (b := (91 + x1.toNat)) dX10_wishOf_34 (gT hG rfl (lt_of rfl)) (gL hG rfl) rx1 h9 (gR hG (rr_90 hj6)) ?_
    refine w_iconst (v := nZ 5) dX10_wishOf_35 (by decide) ?_
    refine i_iald (n := 7) dX10_wishOf_36 (gT hG (ro_90 _ hj6).1 (by have := hj6; omega)) (gL hG (ro_90 _ hj6).2) (by decide) (by decide) ?_
    refine top_i (fun z7 ez8 => ?_)
    have rz9 : inR z7 := ez8 ▸ (rI_R _ _ _)
    replace h := h z7 ez8
    refine w_istore (l' := [(5, .int (nZ z7)), (4, .int (nZ 0)), (3, .int (nZ 0)), (2, .int (nZ z2)), (0, .ref 76), (1, .int (nZ x1))]) dX10_wishOf_37 (by decide) rfl ?_
    refine w_iconst (v := nZ 0) dX10_wishOf_39 (by decide) ?_
    refine w_istore (l' := [(6, .int (nZ 0)), (5, .int (nZ z7)), (4, .int (nZ 0)), (3, .int (nZ 0)), (2, .int (nZ z2)), (0, .ref 76), (1, .int (nZ x1))]) dX10_wishOf_40 (by decide) rfl ?_
    exact w_weak (l' := [(0, .ref 76), (1, .int (nZ x1)), (2, .int (nZ z2)), (3, .int (nZ 0)), (4, .int (nZ 0)), (5, .int (nZ z7)), (6, .int (nZ 0))]) (by intro q hq; simp only [List.mem_cons, List.not_mem_nil, or_false] at hq ⊢; rcases hq with rfl | rfl | rfl | rfl | rfl | rfl | rfl <;> simp) h
  · replace h := h.2 c9
    refine w_iload_n dX10_wishOf_25 rfl (List.Mem.tail _ (List.Mem.tail _ (List.Mem.head _))) ?_
    refine w_goto (tgt := 37) dX10_wishOf_26 rfl ?_
    refine w_istore (l' := [(5, .int (nZ z2)), (4, .int (nZ 0)), (3, .int (nZ 0)), (2, .int (nZ z2)), (0, .ref 76), (1, .int (nZ x1))]) dX10_wishOf_37 (by decide) rfl ?_
    refine w_iconst (v := nZ 0) dX10_wishOf_39 (by decide) ?_
    refine w_istore (l' := [(6, .int (nZ 0)), (5, .int (nZ z2)), (4, .int (nZ 0)), (3, .int (nZ 0)), (2, .int (nZ z2)), (0, .ref 76), (1, .int (nZ x1))]) dX10_wishOf_40 (by decide) rfl ?_
    exact w_weak (l' := [(0, .ref 76), (1, .int (nZ x1)), (2, .int (nZ z2)), (3, .int (nZ 0)), (4, .int (nZ 0)), (5, .int (nZ z2)), (6, .int (nZ 0))]) (by intro q hq; simp only [List.mem_cons, List.not_mem_nil, or_false] at hq ⊢; rcases hq with rfl | rfl | rfl | rfl | rfl | rfl | rfl <;> simp) h
set_option maxRecDepth 10000 in
theorem v_X10_wishOf_42 {C : aM → List Value → aH → aO → aH → Prop} {sc : Nat × (Nat → Int32)} {P : aO → aH → Prop} {σ : aH} {u : Nat}  {x1 : Int} {x2 : Int} {x3 : Int} {x4 : Int} {x5 : Int} {x6 : Int} (hG : G σ u) (rx1 : inR x1) (rx2 : inR x2) (rx3 : inR x3) (rx4 : inR x4) (rx5 : inR x5) (rx6 : inR x6)
    (h : ((x5 < x6 → ((0 ≤ x1 ∧ x1 < 9) ∧ (∀ σ2 : aH, wI σ (91 + x1.toNat) 2 x2 = σ2 → P (.inl (some (.int (nZ x3)))) σ2))) ∧ (¬ (x5 < x6) → ((0 ≤ x1 ∧ x1 < 9) ∧ (∀ σ6 : aH, wI σ (91 + x1.toNat) 2 x6 = σ6 → (∃ (r13 : Int) (σ9 : aH), C mX10_gainOf [.ref 76, .int (nZ x1)] σ6 (.inl (some (.int (nZ r13)))) σ9 ∧ G σ9 u ∧ inR r13 ∧ (inR (r13 + x6) ∧ (∀ z15 : Int, z15 = (r13 + x6) → ((x6 ≤ 0 → (inR (x6 + 1) ∧ L_X10_wishOf_42 C sc P x1 x2 x6 z15 x5 (x6 + 1) σ9)) ∧ (¬ (x6 ≤ 0) → ((x4 < z15 → (inR (x6 + 1) ∧ L_X10_wishOf_42 C sc P x1 x2 x6 z15 x5 (x6 + 1) σ9)) ∧ (¬ (x4 < z15) → (inR (x6 + 1) ∧ L_X10_wishOf_42 C sc P x1 x2 x3 x4 x5 (x6 + 1) σ9))))))))))))) :
    L_X10_wishOf_42 C sc P x1 x2 x3 x4 x5 x6 σ := by
  unfold L_X10_wishOf_42
  refine w_iload dX10_wishOf_42 (List.Mem.tail _ (List.Mem.tail _ (List.Mem.tail _ (List.Mem.tail _ (List.Mem.tail _ (List.Mem.tail _ (List.Mem.head _))))))) ?_
  refine w_iload dX10_wishOf_44 (List.Mem.tail _ (List.Mem.tail _ (List.Mem.tail _ (List.Mem.tail _ (List.Mem.tail _ (List.Mem.head _)))))) ?_
  refine i_cmp_gt (tgt := 97) dX10_wishOf_46 rfl rx6 rx5 (fun c9 => ?_) (fun c9 => ?_)
  · replace h := h.1 c9
    refine w_aload_n dX10_wishOf_97 rfl (List.Mem.head _) ?_
    refine w_getR (ci := 10) (k := 13) (b := 90) dX10_wishOf_98 fl_10_31 (by decide) (gT hG rfl (lt_of rfl)) (gR hG (b := 90) rfl) ?_
    refine w_iload_n dX10_wishOf_101 rfl (List.Mem.tail _ (List.Mem.head _)) ?_
    obtain ⟨h9, h⟩ := h
    have hj1 := vin_lt2 (n := 9) h9 rfl
    refine i_aald (n := 9) (b := (91 + x1.toNat)) dX10_wishOf_102 (gT hG rfl (lt_of rfl)) (gL hG rfl) rx1 h9 (gR hG (rr_90 hj1)) ?_
    refine w_iconst (v := nZ 2) dX10_wishOf_103 (by decide) ?_
    refine w_iload_n dX10_wishOf_104 rfl (List.Mem.tail _ (List.Mem.tail _ (List.Mem.head _))) ?_
    refine i_iast (n := 7) dX10_wishOf_105 (gT hG (ro_90 _ hj1).1 (by have := hj1; omega)) (gL hG (ro_90 _ hj1).2) (by decide) (by decide) (fun σ2 eσ3 => ?_)
    replace h := h σ2 eσ3
    have hG4 : G σ2 u := eσ3 ▸ G.wI hG
    refine w_iload_n dX10_wishOf_106 rfl (List.Mem.tail _ (List.Mem.tail _ (List.Mem.tail _ (List.Mem.head _)))) ?_
    exact w_iret dX10_wishOf_107 rfl h
  · replace h := h.2 c9
    refine w_aload_n dX10_wishOf_49 rfl (List.Mem.head _) ?_
    refine w_getR (ci := 10) (k := 13) (b := 90) dX10_wishOf_50 fl_10_31 (by decide) (gT hG rfl (lt_of rfl)) (gR hG (b := 90) rfl) ?_
    refine w_iload_n dX10_wishOf_53 rfl (List.Mem.tail _ (List.Mem.head _)) ?_
    obtain ⟨h9, h⟩ := h
    have hj5 := vin_lt2 (n := 9) h9 rfl
    refine i_aald (n := 9) (b := (91 + x1.toNat)) dX10_wishOf_54 (gT hG rfl (lt_of rfl)) (gL hG rfl) rx1 h9 (gR hG (rr_90 hj5)) ?_
    refine w_iconst (v := nZ 2) dX10_wishOf_55 (by decide) ?_
    refine w_iload dX10_wishOf_56 (List.Mem.tail _ (List.Mem.tail _ (List.Mem.tail _ (List.Mem.tail _ (List.Mem.tail _ (List.Mem.tail _ (List.Mem.head _))))))) ?_
    refine i_iast (n := 7) dX10_wishOf_58 (gT hG (ro_90 _ hj5).1 (by have := hj5; omega)) (gL hG (ro_90 _ hj5).2) (by decide) (by decide) (fun σ6 eσ7 => ?_)
    replace h := h σ6 eσ7
    have hG8 : G σ6 u := eσ7 ▸ G.wI hG
    refine w_aload_n dX10_wishOf_59 rfl (List.Mem.head _) ?_
    refine w_iload_n dX10_wishOf_60 rfl (List.Mem.tail _ (List.Mem.head _)) ?_
    obtain ⟨r13, σ9, hc11, hG10, rr12, h⟩ := h
    refine w_callV dX10_wishOf_61 ml_10_315 ⟨ok_X10_gainOf, vi_X10_gainOf⟩ hs_X10_gainOf (As := [.int (nZ x1)]) rfl rfl (gT hG8 rfl (lt_of rfl)) (Nat.le_of_ble_eq_true rfl) hc11 ?_
    show wp C 10 cX10_wishOf 8 (some .int) false [] sc P 64 [(0, .ref 76), (1, .int (nZ x1)), (2, .int (nZ x2)), (3, .int (nZ x3)), (4, .int (nZ x4)), (5, .int (nZ x5)), (6, .int (nZ x6))] [.int (nZ r13)] σ9
    refine w_iload dX10_wishOf_64 (List.Mem.tail _ (List.Mem.tail _ (List.Mem.tail _ (List.Mem.tail _ (List.Mem.tail _ (List.Mem.tail _ (List.Mem.head _))))))) ?_
    obtain ⟨q14, h⟩ := h
    refine i_add dX10_wishOf_66 ?_
    refine top_i (fun z15 ez16 => ?_)
    have rz17 : inR z15 := ez16 ▸ q14
    replace h := h z15 ez16
    refine w_istore (l' := [(7, .int (nZ z15)), (0, .ref 76), (1, .int (nZ x1)), (2, .int (nZ x2)), (3, .int (nZ x3)), (4, .int (nZ x4)), (5, .int (nZ x5)), (6, .int (nZ x6))]) dX10_wishOf_67 (by decide) rfl ?_
    refine w_iload dX10_wishOf_69 (List.Mem.tail _ (List.Mem.tail _ (List.Mem.tail _ (List.Mem.tail _ (List.Mem.tail _ (List.Mem.tail _ (List.Mem.tail _ (List.Mem.head _)))))))) ?_
    refine i_if_le (tgt := 84) dX10_wishOf_71 rfl rx6 (fun c9 => ?_) (fun c9 => ?_)
    · replace h := h.1 c9
      refine w_iload dX10_wishOf_84 (List.Mem.tail _ (List.Mem.tail _ (List.Mem.tail _ (List.Mem.tail _ (List.Mem.tail _ (List.Mem.tail _ (List.Mem.tail _ (List.Mem.head _)))))))) ?_
      refine w_istore_n (l' := [(3, .int (nZ x6)), (7, .int (nZ z15)), (0, .ref 76), (1, .int (nZ x1)), (2, .int (nZ x2)), (4, .int (nZ x4)), (5, .int (nZ x5)), (6, .int (nZ x6))]) dX10_wishOf_86 rfl (by decide) rfl ?_
      refine w_iload dX10_wishOf_87 (List.Mem.tail _ (List.Mem.head _)) ?_
      refine w_istore (l' := [(4, .int (nZ z15)), (3, .int (nZ x6)), (7, .int (nZ z15)), (0, .ref 76), (1, .int (nZ x1)), (2, .int (nZ x2)), (5, .int (nZ x5)), (6, .int (nZ x6))]) dX10_wishOf_89 (by decide) rfl ?_
      obtain ⟨q18, h⟩ := h
      refine w_iinc (v := nZ (x6 + 1)) (l' := [(6, .int (nZ (x6 + 1))), (4, .int (nZ z15)), (3, .int (nZ x6)), (7, .int (nZ z15)), (0, .ref 76), (1, .int (nZ x1)), (2, .int (nZ x2)), (5, .int (nZ x5))]) dX10_wishOf_91 (List.Mem.tail _ (List.Mem.tail _ (List.Mem.tail _ (List.Mem.tail _ (List.Mem.tail _ (List.Mem.tail _ (List.Mem.tail _ (List.Mem.head _)))))))) (nZ_add _ _) (by decide) rfl ?_
      refine w_goto (tgt := 42) dX10_wishOf_94 rfl ?_
      exact w_weak (l' := [(0, .ref 76), (1, .int (nZ x1)), (2, .int (nZ x2)), (3, .int (nZ x6)), (4, .int (nZ z15)), (5, .int (nZ x5)), (6, .int (nZ (x6 + 1)))]) (by intro q hq; simp only [List.mem_cons, List.not_mem_nil, or_false] at hq ⊢; rcases hq with rfl | rfl | rfl | rfl | rfl | rfl | rfl <;> simp) h
    · replace h := h.2 c9
      refine w_iload dX10_wishOf_74 (List.Mem.head _) ?_
      refine w_iload dX10_wishOf_76 (List.Mem.tail _ (List.Mem.tail _ (List.Mem.tail _ (List.Mem.tail _ (List.Mem.tail _ (List.Mem.head _)))))) ?_
      refine i_cmp_gt (tgt := 84) dX10_wishOf_78 rfl rz17 rx4 (fun c9 => ?_) (fun c9 => ?_)
      · replace h := h.1 c9
        refine w_iload dX10_wishOf_84 (List.Mem.tail _ (List.Mem.tail _ (List.Mem.tail _ (List.Mem.tail _ (List.Mem.tail _ (List.Mem.tail _ (List.Mem.tail _ (List.Mem.head _)))))))) ?_
        refine w_istore_n (l' := [(3, .int (nZ x6)), (7, .int (nZ z15)), (0, .ref 76), (1, .int (nZ x1)), (2, .int (nZ x2)), (4, .int (nZ x4)), (5, .int (nZ x5)), (6, .int (nZ x6))]) dX10_wishOf_86 rfl (by decide) rfl ?_
        refine w_iload dX10_wishOf_87 (List.Mem.tail _ (List.Mem.head _)) ?_
        refine w_istore (l' := [(4, .int (nZ z15)), (3, .int (nZ x6)), (7, .int (nZ z15)), (0, .ref 76), (1, .int (nZ x1)), (2, .int (nZ x2)), (5, .int (nZ x5)), (6, .int (nZ x6))]) dX10_wishOf_89 (by decide) rfl ?_
        obtain ⟨q19, h⟩ := h
        refine w_iinc (v := nZ (x6 + 1)) (l' := [(6, .int (nZ (x6 + 1))), (4, .int (nZ z15)), (3, .int (nZ x6)), (7, .int (nZ z15)), (0, .ref 76), (1, .int (nZ x1)), (2, .int (nZ x2)), (5, .int (nZ x5))]) dX10_wishOf_91 (List.Mem.tail _ (List.Mem.tail _ (List.Mem.tail _ (List.Mem.tail _ (List.Mem.tail _ (List.Mem.tail _ (List.Mem.tail _ (List.Mem.head _)))))))) (nZ_add _ _) (by decide) rfl ?_
        refine w_goto (tgt := 42) dX10_wishOf_94 rfl ?_
        exact w_weak (l' := [(0, .ref 76), (1, .int (nZ x1)), (2, .int (nZ x2)), (3, .int (nZ x6)), (4, .int (nZ z15)), (5, .int (nZ x5)), (6, .int (nZ (x6 + 1)))]) (by intro q hq; simp only [List.mem_cons, List.not_mem_nil, or_false] at hq ⊢; rcases hq with rfl | rfl | rfl | rfl | rfl | rfl | rfl <;> simp) h
      · replace h := h.2 c9
        refine w_goto (tgt := 91) dX10_wishOf_81 rfl ?_
        obtain ⟨q20, h⟩ := h
        refine w_iinc (v := nZ (x6 + 1)) (l' := [(6, .int (nZ (x6 + 1))), (7, .int (nZ z15)), (0, .ref 76), (1, .int (nZ x1)), (2, .int (nZ x2)), (3, .int (nZ x3)), (4, .int (nZ x4)), (5, .int (nZ x5))]) dX10_wishOf_91 (List.Mem.tail _ (List.Mem.tail _ (List.Mem.tail _ (List.Mem.tail _ (List.Mem.tail _ (List.Mem.tail _ (List.Mem.tail _ (List.Mem.head _)))))))) (nZ_add _ _) (by decide) rfl ?_
        refine w_goto (tgt := 42) dX10_wishOf_94 rfl ?_
        exact w_weak (l' := [(0, .ref 76), (1, .int (nZ x1)), (2, .int (nZ x2)), (3, .int (nZ x3)), (4, .int (nZ x4)), (5, .int (nZ x5)), (6, .int (nZ (x6 + 1)))]) (by intro q hq; simp only [List.mem_cons, List.not_mem_nil, or_false] at hq ⊢; rcases hq with rfl | rfl | rfl | rfl | rfl | rfl | rfl <;> simp) h
theorem dX10_wish_0 : decode cX10_wish 0 = .ok (.aload_n 0, 1) := by decide +kernel
theorem dX10_wish_1 : decode cX10_wish 1 = .ok (.iconst 0, 1) := by decide +kernel
theorem dX10_wish_2 : decode cX10_wish 2 = .ok (.putfield 106, 3) := by decide +kernel
theorem dX10_wish_5 : decode cX10_wish 5 = .ok (.aload_n 0, 1) := by decide +kernel
theorem dX10_wish_6 : decode cX10_wish 6 = .ok (.aload_n 0, 1) := by decide +kernel
theorem dX10_wish_7 : decode cX10_wish 7 = .ok (.iload_n 1, 1) := by decide +kernel
theorem dX10_wish_8 : decode cX10_wish 8 = .ok (.invokevirtual 236, 3) := by decide +kernel
theorem dX10_wish_11 : decode cX10_wish 11 = .ok (.ifCond .ne 7, 3) := by decide +kernel
theorem dX10_wish_14 : decode cX10_wish 14 = .ok (.iconst 1, 1) := by decide +kernel
theorem dX10_wish_15 : decode cX10_wish 15 = .ok (.goto 4, 3) := by decide +kernel
theorem dX10_wish_18 : decode cX10_wish 18 = .ok (.iconst 0, 1) := by decide +kernel
theorem dX10_wish_19 : decode cX10_wish 19 = .ok (.iconst 1, 1) := by decide +kernel
theorem dX10_wish_20 : decode cX10_wish 20 = .ok (.iconst 0, 1) := by decide +kernel
theorem dX10_wish_21 : decode cX10_wish 21 = .ok (.invokevirtual 196, 3) := by decide +kernel
theorem dX10_wish_24 : decode cX10_wish 24 = .ok (.ifCond .eq 5, 3) := by decide +kernel
theorem dX10_wish_27 : decode cX10_wish 27 = .ok (.iconst 0, 1) := by decide +kernel
theorem dX10_wish_28 : decode cX10_wish 28 = .ok (.ireturn, 1) := by decide +kernel
theorem dX10_wish_29 : decode cX10_wish 29 = .ok (.aload_n 0, 1) := by decide +kernel
theorem dX10_wish_30 : decode cX10_wish 30 = .ok (.iload_n 1, 1) := by decide +kernel
theorem dX10_wish_31 : decode cX10_wish 31 = .ok (.invokevirtual 318, 3) := by decide +kernel
theorem dX10_wish_34 : decode cX10_wish 34 = .ok (.ireturn, 1) := by decide +kernel
set_option maxRecDepth 10000 in
theorem t_X10_wish {sc : Nat × (Nat → Int32)} {d : Nat} {Q : aO → aH → Prop} {σ : aH} {u : Nat}  {x1 : Int} (hG : G σ u) (rx1 : inR x1)
    (h : (∀ σ1 : aH, wI σ 76 0 0 = σ1 → (∃ (r8 : Int) (σ4 : aH), Ev sc d mX10_isStall [.ref 76, .int (nZ x1)] σ1 (.inl (some (.int (nZ r8)))) σ4 ∧ G σ4 u ∧ inR r8 ∧ ((¬ r8 = 0 → (∃ (r13 : Int) (σ9 : aH), Ev sc d mX10_bad [.ref 76, .int (nZ 0), .int (nZ 1), .int (nZ 0)] σ4 (.inl (some (.int (nZ r13)))) σ9 ∧ G σ9 u ∧ inR r13 ∧ ((r13 = 0 → (∃ (r18 : Int) (σ14 : aH), Ev sc d mX10_wishOf [.ref 76, .int (nZ x1)] σ9 (.inl (some (.int (nZ r18)))) σ14 ∧ G σ14 u ∧ inR r18 ∧ Q (.inl (some (.int (nZ r18)))) σ14)) ∧ (¬ (r13 = 0) → Q (.inl (some (.int (nZ 0)))) σ9)))) ∧ (r8 = 0 → (∃ (r23 : Int) (σ19 : aH), Ev sc d mX10_bad [.ref 76, .int (nZ 1), .int (nZ 1), .int (nZ 0)] σ4 (.inl (some (.int (nZ r23)))) σ19 ∧ G σ19 u ∧ inR r23 ∧ ((r23 = 0 → (∃ (r28 : Int) (σ24 : aH), Ev sc d mX10_wishOf [.ref 76, .int (nZ x1)] σ19 (.inl (some (.int (nZ r28)))) σ24 ∧ G σ24 u ∧ inR r28 ∧ Q (.inl (some (.int (nZ r28)))) σ24)) ∧ (¬ (r23 = 0) → Q (.inl (some (.int (nZ 0)))) σ19)))))))) :
    T sc (d + 1) mX10_wish [.ref 76, .int (nZ x1)] σ Q := by
  refine T.of (c := 10) (code := cX10_wish) (mL := 2) (rt := (some .int)) (ini := false) (l := [(0, .ref 76), (1, .int (nZ x1))]) rfl rfl rfl rfl (by decide) hs_X10_wish rfl rfl ?_
  refine w_aload_n dX10_wish_0 rfl (List.Mem.head _) ?_
  refine w_iconst (v := nZ 0) dX10_wish_1 (by decide) ?_
  refine i_putI (ci := 10) 0 rfl dX10_wish_2 fl_10_106 (by decide) (gT hG rfl (lt_of rfl)) (fun σ1 eσ2 => ?_)
  replace h := h σ1 eσ2
  have hG3 : G σ1 u := eσ2 ▸ G.wI hG
  refine w_aload_n dX10_wish_5 rfl (List.Mem.head _) ?_
  refine w_aload_n dX10_wish_6 rfl (List.Mem.head _) ?_
  refine w_iload_n dX10_wish_7 rfl (List.Mem.tail _ (List.Mem.head _)) ?_
  obtain ⟨r8, σ4, hc6, hG5, rr7, h⟩ := h
  refine w_callV dX10_wish_8 ml_10_236 ⟨ok_X10_isStall, vi_X10_isStall⟩ hs_X10_isStall (As := [.int (nZ x1)]) rfl rfl (gT hG3 rfl (lt_of rfl)) (Nat.le_of_ble_eq_true rfl) hc6 ?_
  show wp (Ev sc d) 10 cX10_wish 2 (some .int) false [] sc Q 11 [(0, .ref 76), (1, .int (nZ x1))] [.int (nZ r8), .ref 76] σ4
  refine i_if_ne (tgt := 18) dX10_wish_11 rfl rr7 (fun c9 => ?_) (fun c9 => ?_)
  · replace h := h.1 c9
    refine w_iconst (v := nZ 0) dX10_wish_18 (by decide) ?_
    refine w_iconst (v := nZ 1) dX10_wish_19 (by decide) ?_
    refine w_iconst (v := nZ 0) dX10_wish_20 (by decide) ?_
    obtain ⟨r13, σ9, hc11, hG10, rr12, h⟩ := h
    refine w_callV dX10_wish_21 ml_10_196 ⟨ok_X10_bad, vi_X10_bad⟩ hs_X10_bad (As := [.int (nZ 0), .int (nZ 1), .int (nZ 0)]) rfl rfl (gT hG5 rfl (lt_of rfl)) (Nat.le_of_ble_eq_true rfl) hc11 ?_
    show wp (Ev sc d) 10 cX10_wish 2 (some .int) false [] sc Q 24 [(0, .ref 76), (1, .int (nZ x1))] [.int (nZ r13)] σ9
    refine i_if_eq (tgt := 29) dX10_wish_24 rfl rr12 (fun c9 => ?_) (fun c9 => ?_)
    · replace h := h.1 c9
      refine w_aload_n dX10_wish_29 rfl (List.Mem.head _) ?_
      refine w_iload_n dX10_wish_30 rfl (List.Mem.tail _ (List.Mem.head _)) ?_
      obtain ⟨r18, σ14, hc16, hG15, rr17, h⟩ := h
      refine w_callV dX10_wish_31 ml_10_318 ⟨ok_X10_wishOf, vi_X10_wishOf⟩ hs_X10_wishOf (As := [.int (nZ x1)]) rfl rfl (gT hG10 rfl (lt_of rfl)) (Nat.le_of_ble_eq_true rfl) hc16 ?_
      show wp (Ev sc d) 10 cX10_wish 2 (some .int) false [] sc Q 34 [(0, .ref 76), (1, .int (nZ x1))] [.int (nZ r18)] σ14
      exact w_iret dX10_wish_34 rfl h
    · replace h := h.2 c9
      refine w_iconst (v := nZ 0) dX10_wish_27 (by decide) ?_
      exact w_iret dX10_wish_28 rfl h
  · replace h := h.2 c9
    refine w_iconst (v := nZ 1) dX10_wish_14 (by decide) ?_
    refine w_goto (tgt := 19) dX10_wish_15 rfl ?_
    refine w_iconst (v := nZ 1) dX10_wish_19 (by decide) ?_
    refine w_iconst (v := nZ 0) dX10_wish_20 (by decide) ?_
    obtain ⟨r23, σ19, hc21, hG20, rr22, h⟩ := h
    refine w_callV dX10_wish_21 ml_10_196 ⟨ok_X10_bad, vi_X10_bad⟩ hs_X10_bad (As := [.int (nZ 1), .int (nZ 1), .int (nZ 0)]) rfl rfl (gT hG5 rfl (lt_of rfl)) (Nat.le_of_ble_eq_true rfl) hc21 ?_
    show wp (Ev sc d) 10 cX10_wish 2 (some .int) false [] sc Q 24 [(0, .ref 76), (1, .int (nZ x1))] [.int (nZ r23)] σ19
    refine i_if_eq (tgt := 29) dX10_wish_24 rfl rr22 (fun c9 => ?_) (fun c9 => ?_)
    · replace h := h.1 c9
      refine w_aload_n dX10_wish_29 rfl (List.Mem.head _) ?_
      refine w_iload_n dX10_wish_30 rfl (List.Mem.tail _ (List.Mem.head _)) ?_
      obtain ⟨r28, σ24, hc26, hG25, rr27, h⟩ := h
      refine w_callV dX10_wish_31 ml_10_318 ⟨ok_X10_wishOf, vi_X10_wishOf⟩ hs_X10_wishOf (As := [.int (nZ x1)]) rfl rfl (gT hG20 rfl (lt_of rfl)) (Nat.le_of_ble_eq_true rfl) hc26 ?_
      show wp (Ev sc d) 10 cX10_wish 2 (some .int) false [] sc Q 34 [(0, .ref 76), (1, .int (nZ x1))] [.int (nZ r28)] σ24
      exact w_iret dX10_wish_34 rfl h
    · replace h := h.2 c9
      refine w_iconst (v := nZ 0) dX10_wish_27 (by decide) ?_
      exact w_iret dX10_wish_28 rfl h
theorem dX10_notes_0 : decode cX10_notes 0 = .ok (.iconst 0, 1) := by decide +kernel
theorem dX10_notes_1 : decode cX10_notes 1 = .ok (.istore_n 2, 1) := by decide +kernel
theorem dX10_notes_2 : decode cX10_notes 2 = .ok (.iload_n 2, 1) := by decide +kernel
theorem dX10_notes_3 : decode cX10_notes 3 = .ok (.bipush 8, 2) := by decide +kernel
theorem dX10_notes_5 : decode cX10_notes 5 = .ok (.if_icmp .ge 25, 3) := by decide +kernel
theorem dX10_notes_8 : decode cX10_notes 8 = .ok (.aload_n 0, 1) := by decide +kernel
theorem dX10_notes_9 : decode cX10_notes 9 = .ok (.getfield 94, 3) := by decide +kernel
theorem dX10_notes_12 : decode cX10_notes 12 = .ok (.iload_n 1, 1) := by decide +kernel
theorem dX10_notes_13 : decode cX10_notes 13 = .ok (.aaload, 1) := by decide +kernel
theorem dX10_notes_14 : decode cX10_notes 14 = .ok (.iload_n 2, 1) := by decide +kernel
theorem dX10_notes_15 : decode cX10_notes 15 = .ok (.aload_n 0, 1) := by decide +kernel
theorem dX10_notes_16 : decode cX10_notes 16 = .ok (.getfield 31, 3) := by decide +kernel
theorem dX10_notes_19 : decode cX10_notes 19 = .ok (.iload_n 2, 1) := by decide +kernel
theorem dX10_notes_20 : decode cX10_notes 20 = .ok (.aaload, 1) := by decide +kernel
theorem dX10_notes_21 : decode cX10_notes 21 = .ok (.iconst 2, 1) := by decide +kernel
theorem dX10_notes_22 : decode cX10_notes 22 = .ok (.iaload, 1) := by decide +kernel
theorem dX10_notes_23 : decode cX10_notes 23 = .ok (.iastore, 1) := by decide +kernel
theorem dX10_notes_24 : decode cX10_notes 24 = .ok (.iinc 2 1, 3) := by decide +kernel
theorem dX10_notes_27 : decode cX10_notes 27 = .ok (.goto (-25), 3) := by decide +kernel
theorem dX10_notes_30 : decode cX10_notes 30 = .ok (.return_, 1) := by decide +kernel
def L_X10_notes_2 (C : aM → List Value → aH → aO → aH → Prop) (sc : Nat × (Nat → Int32)) (P : aO → aH → Prop) (x1 : Int) (x2 : Int) (σ : aH) : Prop :=
    wp C 10 cX10_notes 3 none false [] sc P 2 [(0, .ref 76), (1, .int (nZ x1)), (2, .int (nZ x2))] [] σ
set_option maxRecDepth 10000 in
theorem t_X10_notes {sc : Nat × (Nat → Int32)} {d : Nat} {Q : aO → aH → Prop} {σ : aH} {u : Nat}  {x1 : Int} (hG : G σ u) (rx1 : inR x1)
    (h : L_X10_notes_2 (Ev sc d) sc Q x1 0 σ) :
    T sc (d + 1) mX10_notes [.ref 76, .int (nZ x1)] σ Q := by
  refine T.of (c := 10) (code := cX10_notes) (mL := 3) (rt := none) (ini := false) (l := [(0, .ref 76), (1, .int (nZ x1))]) rfl rfl rfl rfl (by decide) hs_X10_notes rfl rfl ?_
  refine w_iconst (v := nZ 0) dX10_notes_0 (by decide) ?_
  refine w_istore_n (l' := [(2, .int (nZ 0)), (0, .ref 76), (1, .int (nZ x1))]) dX10_notes_1 rfl (by decide) rfl ?_
  exact w_weak (l' := [(0, .ref 76), (1, .int (nZ x1)), (2, .int (nZ 0))]) (by intro q hq; simp only [List.mem_cons, List.not_mem_nil, or_false] at hq ⊢; rcases hq with rfl | rfl | rfl <;> simp) h
set_option maxRecDepth 10000 in
theorem v_X10_notes_2 {C : aM → List Value → aH → aO → aH → Prop} {sc : Nat × (Nat → Int32)} {P : aO → aH → Prop} {σ : aH} {u : Nat}  {x1 : Int} {x2 : Int} (hG : G σ u) (rx1 : inR x1) (rx2 : inR x2)
    (h : ((8 ≤ x2 → P (.inl none) σ) ∧ (¬ (8 ≤ x2) → ((0 ≤ x1 ∧ x1 < 21) ∧ ((0 ≤ x2 ∧ x2 < 9) ∧ ((0 ≤ x2 ∧ x2 < 8) ∧ (∀ σ3 : aH, wI σ (321 + x1.toNat) x2 (rI σ (91 + x2.toNat) 2) = σ3 → (inR (x2 + 1) ∧ L_X10_notes_2 C sc P x1 (x2 + 1) σ3)))))))) :
    L_X10_notes_2 C sc P x1 x2 σ := by
  unfold L_X10_notes_2
  refine w_iload_n dX10_notes_2 rfl (List.Mem.tail _ (List.Mem.tail _ (List.Mem.head _))) ?_
  refine w_bipush (v := nZ 8) dX10_notes_3 (by decide) ?_
  refine i_cmp_ge (tgt := 30) dX10_notes_5 rfl rx2 (by decide) (fun c9 => ?_) (fun c9 => ?_)
  · replace h := h.1 c9
    exact w_vret dX10_notes_30 rfl h
  · replace h := h.2 c9
    refine w_aload_n dX10_notes_8 rfl (List.Mem.head _) ?_
    refine w_getR (ci := 10) (k := 48) (b := 320) dX10_notes_9 fl_10_94 (by decide) (gT hG rfl (lt_of rfl)) (gR hG (b := 320) rfl) ?_
    refine w_iload_n dX10_notes_12 rfl (List.Mem.tail _ (List.Mem.head _)) ?_
    obtain ⟨h9, h⟩ := h
    have hj1 := vin_lt2 (n := 21) h9 rfl
    refine i_aald (n := 21) (b := (321 + x1.toNat)) dX10_notes_13 (gT hG rfl (lt_of rfl)) (gL hG rfl) rx1 h9 (gR hG (rr_320 hj1)) ?_
    refine w_iload_n dX10_notes_14 rfl (List.Mem.tail _ (List.Mem.tail _ (List.Mem.head _))) ?_
    refine w_aload_n dX10_notes_15 rfl (List.Mem.head _) ?_
    refine w_getR (ci := 10) (k := 13) (b := 90) dX10_notes_16 fl_10_31 (by decide) (gT hG rfl (lt_of rfl)) (gR hG (b := 90) rfl) ?_
    refine w_iload_n dX10_notes_19 rfl (List.Mem.tail _ (List.Mem.tail _ (List.Mem.head _))) ?_
    obtain ⟨h9, h⟩ := h
    have hj2 := vin_lt2 (n := 9) h9 rfl
    refine i_aald (n := 9) (b := (91 + x2.toNat)) dX10_notes_20 (gT hG rfl (lt_of rfl)) (gL hG rfl) rx2 h9 (gR hG (rr_90 hj2)) ?_
    refine w_iconst (v := nZ 2) dX10_notes_21 (by decide) ?_
    refine i_iald (n := 7) dX10_notes_22 (gT hG (ro_90 _ hj2).1 (by have := hj2; omega)) (gL hG (ro_90 _ hj2).2) (by decide) (by decide) ?_
    obtain ⟨h9, h⟩ := h
    refine i_iast (n := 8) dX10_notes_23 (gT hG (ro_320 _ hj1).1 (by have := hj1; omega)) (gL hG (ro_320 _ hj1).2) rx2 h9 (fun σ3 eσ4 => ?_)
    replace h := h σ3 eσ4
    have hG5 : G σ3 u := eσ4 ▸ G.wI hG
    obtain ⟨q6, h⟩ := h
    refine w_iinc (v := nZ (x2 + 1)) (l' := [(2, .int (nZ (x2 + 1))), (0, .ref 76), (1, .int (nZ x1))]) dX10_notes_24 (List.Mem.tail _ (List.Mem.tail _ (List.Mem.head _))) (nZ_add _ _) (by decide) rfl ?_
    refine w_goto (tgt := 2) dX10_notes_27 rfl ?_
    exact w_weak (l' := [(0, .ref 76), (1, .int (nZ x1)), (2, .int (nZ (x2 + 1)))]) (by intro q hq; simp only [List.mem_cons, List.not_mem_nil, or_false] at hq ⊢; rcases hq with rfl | rfl | rfl <;> simp) h
theorem dX10_isAs_0 : decode cX10_isAs 0 = .ok (.iconst 0, 1) := by decide +kernel
theorem dX10_isAs_1 : decode cX10_isAs 1 = .ok (.istore_n 2, 1) := by decide +kernel
theorem dX10_isAs_2 : decode cX10_isAs 2 = .ok (.iload_n 2, 1) := by decide +kernel
theorem dX10_isAs_3 : decode cX10_isAs 3 = .ok (.aload_n 0, 1) := by decide +kernel
theorem dX10_isAs_4 : decode cX10_isAs 4 = .ok (.getfield 23, 3) := by decide +kernel
theorem dX10_isAs_7 : decode cX10_isAs 7 = .ok (.iconst 2, 1) := by decide +kernel
theorem dX10_isAs_8 : decode cX10_isAs 8 = .ok (.iaload, 1) := by decide +kernel
theorem dX10_isAs_9 : decode cX10_isAs 9 = .ok (.if_icmp .ge 30, 3) := by decide +kernel
theorem dX10_isAs_12 : decode cX10_isAs 12 = .ok (.aload_n 0, 1) := by decide +kernel
theorem dX10_isAs_13 : decode cX10_isAs 13 = .ok (.getfield 94, 3) := by decide +kernel
theorem dX10_isAs_16 : decode cX10_isAs 16 = .ok (.iload_n 1, 1) := by decide +kernel
theorem dX10_isAs_17 : decode cX10_isAs 17 = .ok (.aaload, 1) := by decide +kernel
theorem dX10_isAs_18 : decode cX10_isAs 18 = .ok (.iload_n 2, 1) := by decide +kernel
theorem dX10_isAs_19 : decode cX10_isAs 19 = .ok (.iaload, 1) := by decide +kernel
theorem dX10_isAs_20 : decode cX10_isAs 20 = .ok (.aload_n 0, 1) := by decide +kernel
theorem dX10_isAs_21 : decode cX10_isAs 21 = .ok (.getfield 31, 3) := by decide +kernel
theorem dX10_isAs_24 : decode cX10_isAs 24 = .ok (.iload_n 2, 1) := by decide +kernel
theorem dX10_isAs_25 : decode cX10_isAs 25 = .ok (.aaload, 1) := by decide +kernel
theorem dX10_isAs_26 : decode cX10_isAs 26 = .ok (.iconst 2, 1) := by decide +kernel
theorem dX10_isAs_27 : decode cX10_isAs 27 = .ok (.iaload, 1) := by decide +kernel
theorem dX10_isAs_28 : decode cX10_isAs 28 = .ok (.if_icmp .eq 5, 3) := by decide +kernel
theorem dX10_isAs_31 : decode cX10_isAs 31 = .ok (.iconst 0, 1) := by decide +kernel
theorem dX10_isAs_32 : decode cX10_isAs 32 = .ok (.ireturn, 1) := by decide +kernel
theorem dX10_isAs_33 : decode cX10_isAs 33 = .ok (.iinc 2 1, 3) := by decide +kernel
theorem dX10_isAs_36 : decode cX10_isAs 36 = .ok (.goto (-34), 3) := by decide +kernel
theorem dX10_isAs_39 : decode cX10_isAs 39 = .ok (.iconst 1, 1) := by decide +kernel
theorem dX10_isAs_40 : decode cX10_isAs 40 = .ok (.ireturn, 1) := by decide +kernel
def L_X10_isAs_2 (C : aM → List Value → aH → aO → aH → Prop) (sc : Nat × (Nat → Int32)) (P : aO → aH → Prop) (x1 : Int) (x2 : Int) (σ : aH) : Prop :=
    wp C 10 cX10_isAs 3 (some .boolean) false [] sc P 2 [(0, .ref 76), (1, .int (nZ x1)), (2, .int (nZ x2))] [] σ
set_option maxRecDepth 10000 in
theorem t_X10_isAs {sc : Nat × (Nat → Int32)} {d : Nat} {Q : aO → aH → Prop} {σ : aH} {u : Nat}  {x1 : Int} (hG : G σ u) (rx1 : inR x1)
    (h : L_X10_isAs_2 (Ev sc d) sc Q x1 0 σ) :
    T sc (d + 1) mX10_isAs [.ref 76, .int (nZ x1)] σ Q := by
  refine T.of (c := 10) (code := cX10_isAs) (mL := 3) (rt := (some .boolean)) (ini := false) (l := [(0, .ref 76), (1, .int (nZ x1))]) rfl rfl rfl rfl (by decide) hs_X10_isAs rfl rfl ?_
  refine w_iconst (v := nZ 0) dX10_isAs_0 (by decide) ?_
  refine w_istore_n (l' := [(2, .int (nZ 0)), (0, .ref 76), (1, .int (nZ x1))]) dX10_isAs_1 rfl (by decide) rfl ?_
  exact w_weak (l' := [(0, .ref 76), (1, .int (nZ x1)), (2, .int (nZ 0))]) (by intro q hq; simp only [List.mem_cons, List.not_mem_nil, or_false] at hq ⊢; rcases hq with rfl | rfl | rfl <;> simp) h
set_option maxRecDepth 10000 in
theorem v_X10_isAs_2 {C : aM → List Value → aH → aO → aH → Prop} {sc : Nat × (Nat → Int32)} {P : aO → aH → Prop} {σ : aH} {u : Nat}  {x1 : Int} {x2 : Int} (hG : G σ u) (rx1 : inR x1) (rx2 : inR x2)
    (h : (((rI σ 80 2) ≤ x2 → P (.inl (some (.int (nZ 1)))) σ) ∧ (¬ ((rI σ 80 2) ≤ x2) → ((0 ≤ x1 ∧ x1 < 21) ∧ ((0 ≤ x2 ∧ x2 < 8) ∧ ((0 ≤ x2 ∧ x2 < 9) ∧ (((rI σ (321 + x1.toNat) x2) = (rI σ (91 + x2.toNat) 2) → (inR (x2 + 1) ∧ L_X10_isAs_2 C sc P x1 (x2 + 1) σ)) ∧ (¬ ((rI σ (321 + x1.toNat) x2) = (rI σ (91 + x2.toNat) 2)) → P (.inl (some (.int (nZ 0)))) σ)))))))) :
    L_X10_isAs_2 C sc P x1 x2 σ := by
  unfold L_X10_isAs_2
  refine w_iload_n dX10_isAs_2 rfl (List.Mem.tail _ (List.Mem.tail _ (List.Mem.head _))) ?_
  refine w_aload_n dX10_isAs_3 rfl (List.Mem.head _) ?_
  refine w_getR (ci := 10) (k := 11) (b := 80) dX10_isAs_4 fl_10_23 (by decide) (gT hG rfl (lt_of rfl)) (gR hG (b := 80) rfl) ?_
  refine w_iconst (v := nZ 2) dX10_isAs_7 (by decide) ?_
  refine i_iald (n := 8) dX10_isAs_8 (gT hG rfl (lt_of rfl)) (gL hG rfl) (by decide) (by decide) ?_
  refine i_cmp_ge (tgt := 39) dX10_isAs_9 rfl rx2 (rI_R _ _ _) (fun c9 => ?_) (fun c9 => ?_)
  · replace h := h.1 c9
    refine w_iconst (v := nZ 1) dX10_isAs_39 (by decide) ?_
    exact i_zret dX10_isAs_40 rfl (by decide) h
  · replace h := h.2 c9
    refine w_aload_n dX10_isAs_12 rfl (List.Mem.head _) ?_
    refine w_getR (ci := 10) (k := 48) (b := 320) dX10_isAs_13 fl_10_94 (by decide) (gT hG rfl (lt_of rfl)) (gR hG (b := 320) rfl) ?_
    refine w_iload_n dX10_isAs_16 rfl (List.Mem.tail _ (List.Mem.head _)) ?_
    obtain ⟨h9, h⟩ := h
    have hj1 := vin_lt2 (n := 21) h9 rfl
    refine i_aald (n := 21) (b := (321 + x1.toNat)) dX10_isAs_17 (gT hG rfl (lt_of rfl)) (gL hG rfl) rx1 h9 (gR hG (rr_320 hj1)) ?_
    refine w_iload_n dX10_isAs_18 rfl (List.Mem.tail _ (List.Mem.tail _ (List.Mem.head _))) ?_
    obtain ⟨h9, h⟩ := h
    refine i_iald (n := 8) dX10_isAs_19 (gT hG (ro_320 _ hj1).1 (by have := hj1; omega)) (gL hG (ro_320 _ hj1).2) rx2 h9 ?_
    refine w_aload_n dX10_isAs_20 rfl (List.Mem.head _) ?_
    refine w_getR (ci := 10) (k := 13) (b := 90) dX10_isAs_21 fl_10_31 (by decide) (gT hG rfl (lt_of rfl)) (gR hG (b := 90) rfl) ?_
    refine w_iload_n dX10_isAs_24 rfl (List.Mem.tail _ (List.Mem.tail _ (List.Mem.head _))) ?_
    obtain ⟨h9, h⟩ := h
    have hj2 := vin_lt2 (n := 9) h9 rfl
    refine i_aald (n := 9) (b := (91 + x2.toNat)) dX10_isAs_25 (gT hG rfl (lt_of rfl)) (gL hG rfl) rx2 h9 (gR hG (rr_90 hj2)) ?_
    refine w_iconst (v := nZ 2) dX10_isAs_26 (by decide) ?_
    refine i_iald (n := 7) dX10_isAs_27 (gT hG (ro_90 _ hj2).1 (by have := hj2; omega)) (gL hG (ro_90 _ hj2).2) (by decide) (by decide) ?_
    refine i_cmp_eq (tgt := 33) dX10_isAs_28 rfl (rI_R _ _ _) (rI_R _ _ _) (fun c9 => ?_) (fun c9 => ?_)
    · replace h := h.1 c9
      obtain ⟨q3, h⟩ := h
      refine w_iinc (v := nZ (x2 + 1)) (l' := [(2, .int (nZ (x2 + 1))), (0, .ref 76), (1, .int (nZ x1))]) dX10_isAs_33 (List.Mem.tail _ (List.Mem.tail _ (List.Mem.head _))) (nZ_add _ _) (by decide) rfl ?_
      refine w_goto (tgt := 2) dX10_isAs_36 rfl ?_
      exact w_weak (l' := [(0, .ref 76), (1, .int (nZ x1)), (2, .int (nZ (x2 + 1)))]) (by intro q hq; simp only [List.mem_cons, List.not_mem_nil, or_false] at hq ⊢; rcases hq with rfl | rfl | rfl <;> simp) h
    · replace h := h.2 c9
      refine w_iconst (v := nZ 0) dX10_isAs_31 (by decide) ?_
      exact i_zret dX10_isAs_32 rfl (by decide) h
theorem dX10_play_0 : decode cX10_play 0 = .ok (.aload_n 0, 1) := by decide +kernel
theorem dX10_play_1 : decode cX10_play 1 = .ok (.iconst 0, 1) := by decide +kernel
theorem dX10_play_2 : decode cX10_play 2 = .ok (.putfield 106, 3) := by decide +kernel
theorem dX10_play_5 : decode cX10_play 5 = .ok (.aload_n 0, 1) := by decide +kernel
theorem dX10_play_6 : decode cX10_play 6 = .ok (.iconst 0, 1) := by decide +kernel
theorem dX10_play_7 : decode cX10_play 7 = .ok (.invokevirtual 321, 3) := by decide +kernel
theorem dX10_play_10 : decode cX10_play 10 = .ok (.aload_n 0, 1) := by decide +kernel
theorem dX10_play_11 : decode cX10_play 11 = .ok (.iconst 1, 1) := by decide +kernel
theorem dX10_play_12 : decode cX10_play 12 = .ok (.putfield 209, 3) := by decide +kernel
theorem dX10_play_15 : decode cX10_play 15 = .ok (.aload_n 0, 1) := by decide +kernel
theorem dX10_play_16 : decode cX10_play 16 = .ok (.getfield 209, 3) := by decide +kernel
theorem dX10_play_19 : decode cX10_play 19 = .ok (.bipush 20, 2) := by decide +kernel
theorem dX10_play_21 : decode cX10_play 21 = .ok (.if_icmp .gt 98, 3) := by decide +kernel
theorem dX10_play_24 : decode cX10_play 24 = .ok (.iconst 0, 1) := by decide +kernel
theorem dX10_play_25 : decode cX10_play 25 = .ok (.istore_n 1, 1) := by decide +kernel
theorem dX10_play_26 : decode cX10_play 26 = .ok (.iload_n 1, 1) := by decide +kernel
theorem dX10_play_27 : decode cX10_play 27 = .ok (.aload_n 0, 1) := by decide +kernel
theorem dX10_play_28 : decode cX10_play 28 = .ok (.getfield 23, 3) := by decide +kernel
theorem dX10_play_31 : decode cX10_play 31 = .ok (.iconst 2, 1) := by decide +kernel
theorem dX10_play_32 : decode cX10_play 32 = .ok (.iaload, 1) := by decide +kernel
theorem dX10_play_33 : decode cX10_play 33 = .ok (.if_icmp .ge 22, 3) := by decide +kernel
theorem dX10_play_36 : decode cX10_play 36 = .ok (.aload_n 0, 1) := by decide +kernel
theorem dX10_play_37 : decode cX10_play 37 = .ok (.getfield 31, 3) := by decide +kernel
theorem dX10_play_40 : decode cX10_play 40 = .ok (.iload_n 1, 1) := by decide +kernel
theorem dX10_play_41 : decode cX10_play 41 = .ok (.aaload, 1) := by decide +kernel
theorem dX10_play_42 : decode cX10_play 42 = .ok (.iconst 2, 1) := by decide +kernel
theorem dX10_play_43 : decode cX10_play 43 = .ok (.aload_n 0, 1) := by decide +kernel
theorem dX10_play_44 : decode cX10_play 44 = .ok (.iload_n 1, 1) := by decide +kernel
theorem dX10_play_45 : decode cX10_play 45 = .ok (.invokevirtual 318, 3) := by decide +kernel
theorem dX10_play_48 : decode cX10_play 48 = .ok (.iastore, 1) := by decide +kernel
theorem dX10_play_49 : decode cX10_play 49 = .ok (.iinc 1 1, 3) := by decide +kernel
theorem dX10_play_52 : decode cX10_play 52 = .ok (.goto (-26), 3) := by decide +kernel
theorem dX10_play_55 : decode cX10_play 55 = .ok (.aload_n 0, 1) := by decide +kernel
theorem dX10_play_56 : decode cX10_play 56 = .ok (.aload_n 0, 1) := by decide +kernel
theorem dX10_play_57 : decode cX10_play 57 = .ok (.getfield 209, 3) := by decide +kernel
theorem dX10_play_60 : decode cX10_play 60 = .ok (.iconst 1, 1) := by decide +kernel
theorem dX10_play_61 : decode cX10_play 61 = .ok (.isub, 1) := by decide +kernel
theorem dX10_play_62 : decode cX10_play 62 = .ok (.invokevirtual 324, 3) := by decide +kernel
theorem dX10_play_65 : decode cX10_play 65 = .ok (.ifCond .eq 5, 3) := by decide +kernel
theorem dX10_play_68 : decode cX10_play 68 = .ok (.iconst 1, 1) := by decide +kernel
theorem dX10_play_69 : decode cX10_play 69 = .ok (.ireturn, 1) := by decide +kernel
theorem dX10_play_70 : decode cX10_play 70 = .ok (.iconst 0, 1) := by decide +kernel
theorem dX10_play_71 : decode cX10_play 71 = .ok (.istore_n 1, 1) := by decide +kernel
theorem dX10_play_72 : decode cX10_play 72 = .ok (.iload_n 1, 1) := by decide +kernel
theorem dX10_play_73 : decode cX10_play 73 = .ok (.aload_n 0, 1) := by decide +kernel
theorem dX10_play_74 : decode cX10_play 74 = .ok (.getfield 209, 3) := by decide +kernel
theorem dX10_play_77 : decode cX10_play 77 = .ok (.iconst 1, 1) := by decide +kernel
theorem dX10_play_78 : decode cX10_play 78 = .ok (.isub, 1) := by decide +kernel
theorem dX10_play_79 : decode cX10_play 79 = .ok (.if_icmp .ge 19, 3) := by decide +kernel
theorem dX10_play_82 : decode cX10_play 82 = .ok (.aload_n 0, 1) := by decide +kernel
theorem dX10_play_83 : decode cX10_play 83 = .ok (.iload_n 1, 1) := by decide +kernel
theorem dX10_play_84 : decode cX10_play 84 = .ok (.invokevirtual 324, 3) := by decide +kernel
theorem dX10_play_87 : decode cX10_play 87 = .ok (.ifCond .eq 5, 3) := by decide +kernel
theorem dX10_play_90 : decode cX10_play 90 = .ok (.iconst 0, 1) := by decide +kernel
theorem dX10_play_91 : decode cX10_play 91 = .ok (.ireturn, 1) := by decide +kernel
theorem dX10_play_92 : decode cX10_play 92 = .ok (.iinc 1 1, 3) := by decide +kernel
theorem dX10_play_95 : decode cX10_play 95 = .ok (.goto (-23), 3) := by decide +kernel
theorem dX10_play_98 : decode cX10_play 98 = .ok (.aload_n 0, 1) := by decide +kernel
theorem dX10_play_99 : decode cX10_play 99 = .ok (.aload_n 0, 1) := by decide +kernel
theorem dX10_play_100 : decode cX10_play 100 = .ok (.getfield 209, 3) := by decide +kernel
theorem dX10_play_103 : decode cX10_play 103 = .ok (.invokevirtual 321, 3) := by decide +kernel
theorem dX10_play_106 : decode cX10_play 106 = .ok (.aload_n 0, 1) := by decide +kernel
theorem dX10_play_107 : decode cX10_play 107 = .ok (.dup, 1) := by decide +kernel
theorem dX10_play_108 : decode cX10_play 108 = .ok (.getfield 209, 3) := by decide +kernel
theorem dX10_play_111 : decode cX10_play 111 = .ok (.iconst 1, 1) := by decide +kernel
theorem dX10_play_112 : decode cX10_play 112 = .ok (.iadd, 1) := by decide +kernel
theorem dX10_play_113 : decode cX10_play 113 = .ok (.putfield 209, 3) := by decide +kernel
theorem dX10_play_116 : decode cX10_play 116 = .ok (.goto (-101), 3) := by decide +kernel
theorem dX10_play_119 : decode cX10_play 119 = .ok (.aload_n 0, 1) := by decide +kernel
theorem dX10_play_120 : decode cX10_play 120 = .ok (.bipush 20, 2) := by decide +kernel
theorem dX10_play_122 : decode cX10_play 122 = .ok (.putfield 209, 3) := by decide +kernel
theorem dX10_play_125 : decode cX10_play 125 = .ok (.iconst 0, 1) := by decide +kernel
theorem dX10_play_126 : decode cX10_play 126 = .ok (.ireturn, 1) := by decide +kernel
def L_X10_play_15 (C : aM → List Value → aH → aO → aH → Prop) (sc : Nat × (Nat → Int32)) (P : aO → aH → Prop)  (σ : aH) : Prop :=
    wp C 10 cX10_play 2 (some .int) false [] sc P 15 [(0, .ref 76)] [] σ
def L_X10_play_26 (C : aM → List Value → aH → aO → aH → Prop) (sc : Nat × (Nat → Int32)) (P : aO → aH → Prop) (x1 : Int) (σ : aH) : Prop :=
    wp C 10 cX10_play 2 (some .int) false [] sc P 26 [(0, .ref 76), (1, .int (nZ x1))] [] σ
def L_X10_play_72 (C : aM → List Value → aH → aO → aH → Prop) (sc : Nat × (Nat → Int32)) (P : aO → aH → Prop) (x1 : Int) (σ : aH) : Prop :=
    wp C 10 cX10_play 2 (some .int) false [] sc P 72 [(0, .ref 76), (1, .int (nZ x1))] [] σ
set_option maxRecDepth 10000 in
theorem t_X10_play {sc : Nat × (Nat → Int32)} {d : Nat} {Q : aO → aH → Prop} {σ : aH} {u : Nat}   (hG : G σ u) 
    (h : (∀ σ1 : aH, wI σ 76 0 0 = σ1 → (∃ σ4 : aH, Ev sc d mX10_notes [.ref 76, .int (nZ 0)] σ1 (.inl none) σ4 ∧ G σ4 u ∧ (∀ σ8 : aH, wI σ4 76 20 1 = σ8 → L_X10_play_15 (Ev sc d) sc Q  σ8)))) :
    T sc (d + 1) mX10_play [.ref 76] σ Q := by
  refine T.of (c := 10) (code := cX10_play) (mL := 2) (rt := (some .int)) (ini := false) (l := [(0, .ref 76)]) rfl rfl rfl rfl (by decide) hs_X10_play rfl rfl ?_
  refine w_aload_n dX10_play_0 rfl (List.Mem.head _) ?_
  refine w_iconst (v := nZ 0) dX10_play_1 (by decide) ?_
  refine i_putI (ci := 10) 0 rfl dX10_play_2 fl_10_106 (by decide) (gT hG rfl (lt_of rfl)) (fun σ1 eσ2 => ?_)
  replace h := h σ1 eσ2
  have hG3 : G σ1 u := eσ2 ▸ G.wI hG
  refine w_aload_n dX10_play_5 rfl (List.Mem.head _) ?_
  refine w_iconst (v := nZ 0) dX10_play_6 (by decide) ?_
  obtain ⟨σ4, hc6, hG5, h⟩ := h
  refine w_callV dX10_play_7 ml_10_321 ⟨ok_X10_notes, vi_X10_notes⟩ hs_X10_notes (As := [.int (nZ 0)]) rfl rfl (gT hG3 rfl (lt_of rfl)) (Nat.le_of_ble_eq_true rfl) hc6 ?_
  show wp (Ev sc d) 10 cX10_play 2 (some .int) false [] sc Q 10 [(0, .ref 76)] [] σ4
  refine w_aload_n dX10_play_10 rfl (List.Mem.head _) ?_
  refine w_iconst (v := nZ 1) dX10_play_11 (by decide) ?_
  refine i_putI (ci := 10) 20 rfl dX10_play_12 fl_10_209 (by decide) (gT hG5 rfl (lt_of rfl)) (fun σ8 eσ9 => ?_)
  replace h := h σ8 eσ9
  have hG10 : G σ8 u := eσ9 ▸ G.wI hG5
  exact h
set_option maxRecDepth 10000 in
theorem v_X10_play_15 {C : aM → List Value → aH → aO → aH → Prop} {sc : Nat × (Nat → Int32)} {P : aO → aH → Prop} {σ : aH} {u : Nat}   (hG : G σ u) 
    (h : ((20 < (rI σ 76 20) → (∀ σ1 : aH, wI σ 76 20 20 = σ1 → P (.inl (some (.int (nZ 0)))) σ1)) ∧ (¬ (20 < (rI σ 76 20)) → L_X10_play_26 C sc P 0 σ))) :
    L_X10_play_15 C sc P  σ := by
  unfold L_X10_play_15
  refine w_aload_n dX10_play_15 rfl (List.Mem.head _) ?_
  refine i_getI (ci := 10) 20 rfl dX10_play_16 fl_10_209 (by decide) (gT hG rfl (lt_of rfl)) ?_
  refine w_bipush (v := nZ 20) dX10_play_19 (by decide) ?_
  refine i_cmp_gt (tgt := 119) dX10_play_21 rfl (rI_R _ _ _) (by decide) (fun c9 => ?_) (fun c9 => ?_)
  · replace h := h.1 c9
    refine w_aload_n dX10_play_119 rfl (List.Mem.head _) ?_
    refine w_bipush (v := nZ 20) dX10_play_120 (by decide) ?_
    refine i_putI (ci := 10) 20 rfl dX10_play_122 fl_10_209 (by decide) (gT hG rfl (lt_of rfl)) (fun σ1 eσ2 => ?_)
    replace h := h σ1 eσ2
    have hG3 : G σ1 u := eσ2 ▸ G.wI hG
    refine w_iconst (v := nZ 0) dX10_play_125 (by decide) ?_
    exact w_iret dX10_play_126 rfl h
  · replace h := h.2 c9
    refine w_iconst (v := nZ 0) dX10_play_24 (by decide) ?_
    refine w_istore_n (l' := [(1, .int (nZ 0)), (0, .ref 76)]) dX10_play_25 rfl (by decide) rfl ?_
    exact w_weak (l' := [(0, .ref 76), (1, .int (nZ 0))]) (by intro q hq; simp only [List.mem_cons, List.not_mem_nil, or_false] at hq ⊢; rcases hq with rfl | rfl <;> simp) h
set_option maxRecDepth 10000 in
theorem v_X10_play_26 {C : aM → List Value → aH → aO → aH → Prop} {sc : Nat × (Nat → Int32)} {P : aO → aH → Prop} {σ : aH} {u : Nat}  {x1 : Int} (hG : G σ u) (rx1 : inR x1)
    (h : (((rI σ 80 2) ≤ x1 → (inR ((rI σ 76 20) - 1) ∧ (∃ (r6 : Int) (σ2 : aH), C mX10_isAs [.ref 76, .int (nZ ((rI σ 76 20) - 1))] σ (.inl (some (.int (nZ r6)))) σ2 ∧ G σ2 u ∧ inR r6 ∧ ((r6 = 0 → L_X10_play_72 C sc P 0 σ2) ∧ (¬ (r6 = 0) → P (.inl (some (.int (nZ 1)))) σ2))))) ∧ (¬ ((rI σ 80 2) ≤ x1) → ((0 ≤ x1 ∧ x1 < 9) ∧ (∃ (r12 : Int) (σ8 : aH), C mX10_wishOf [.ref 76, .int (nZ x1)] σ (.inl (some (.int (nZ r12)))) σ8 ∧ G σ8 u ∧ inR r12 ∧ (∀ σ13 : aH, wI σ8 (91 + x1.toNat) 2 r12 = σ13 → (inR (x1 + 1) ∧ L_X10_play_26 C sc P (x1 + 1) σ13))))))) :
    L_X10_play_26 C sc P x1 σ := by
  unfold L_X10_play_26
  refine w_iload_n dX10_play_26 rfl (List.Mem.tail _ (List.Mem.head _)) ?_
  refine w_aload_n dX10_play_27 rfl (List.Mem.head _) ?_
  refine w_getR (ci := 10) (k := 11) (b := 80) dX10_play_28 fl_10_23 (by decide) (gT hG rfl (lt_of rfl)) (gR hG (b := 80) rfl) ?_
  refine w_iconst (v := nZ 2) dX10_play_31 (by decide) ?_
  refine i_iald (n := 8) dX10_play_32 (gT hG rfl (lt_of rfl)) (gL hG rfl) (by decide) (by decide) ?_
  refine i_cmp_ge (tgt := 55) dX10_play_33 rfl rx1 (rI_R _ _ _) (fun c9 => ?_) (fun c9 => ?_)
  · replace h := h.1 c9
    refine w_aload_n dX10_play_55 rfl (List.Mem.head _) ?_
    refine w_aload_n dX10_play_56 rfl (List.Mem.head _) ?_
    refine i_getI (ci := 10) 20 rfl dX10_play_57 fl_10_209 (by decide) (gT hG rfl (lt_of rfl)) ?_
    refine w_iconst (v := nZ 1) dX10_play_60 (by decide) ?_
    obtain ⟨q1, h⟩ := h
    refine i_sub dX10_play_61 ?_
    obtain ⟨r6, σ2, hc4, hG3, rr5, h⟩ := h
    refine w_callV dX10_play_62 ml_10_324 ⟨ok_X10_isAs, vi_X10_isAs⟩ hs_X10_isAs (As := [.int (nZ ((rI σ 76 20) - 1))]) rfl rfl (gT hG rfl (lt_of rfl)) (Nat.le_of_ble_eq_true rfl) hc4 ?_
    show wp C 10 cX10_play 2 (some .int) false [] sc P 65 [(0, .ref 76), (1, .int (nZ x1))] [.int (nZ r6)] σ2
    refine i_if_eq (tgt := 70) dX10_play_65 rfl rr5 (fun c9 => ?_) (fun c9 => ?_)
    · replace h := h.1 c9
      refine w_iconst (v := nZ 0) dX10_play_70 (by decide) ?_
      refine w_istore_n (l' := [(1, .int (nZ 0)), (0, .ref 76)]) dX10_play_71 rfl (by decide) rfl ?_
      exact w_weak (l' := [(0, .ref 76), (1, .int (nZ 0))]) (by intro q hq; simp only [List.mem_cons, List.not_mem_nil, or_false] at hq ⊢; rcases hq with rfl | rfl <;> simp) h
    · replace h := h.2 c9
      refine w_iconst (v := nZ 1) dX10_play_68 (by decide) ?_
      exact w_iret dX10_play_69 rfl h
  · replace h := h.2 c9
    refine w_aload_n dX10_play_36 rfl (List.Mem.head _) ?_
    refine w_getR (ci := 10) (k := 13) (b := 90) dX10_play_37 fl_10_31 (by decide) (gT hG rfl (lt_of rfl)) (gR hG (b := 90) rfl) ?_
    refine w_iload_n dX10_play_40 rfl (List.Mem.tail _ (List.Mem.head _)) ?_
    obtain ⟨h9, h⟩ := h
    have hj7 := vin_lt2 (n := 9) h9 rfl
    refine i_aald (n := 9) (b := (91 + x1.toNat)) dX10_play_41 (gT hG rfl (lt_of rfl)) (gL hG rfl) rx1 h9 (gR hG (rr_90 hj7)) ?_
    refine w_iconst (v := nZ 2) dX10_play_42 (by decide) ?_
    refine w_aload_n dX10_play_43 rfl (List.Mem.head _) ?_
    refine w_iload_n dX10_play_44 rfl (List.Mem.tail _ (List.Mem.head _)) ?_
    obtain ⟨r12, σ8, hc10, hG9, rr11, h⟩ := h
    refine w_callV dX10_play_45 ml_10_318 ⟨ok_X10_wishOf, vi_X10_wishOf⟩ hs_X10_wishOf (As := [.int (nZ x1)]) rfl rfl (gT hG rfl (lt_of rfl)) (Nat.le_of_ble_eq_true rfl) hc10 ?_
    show wp C 10 cX10_play 2 (some .int) false [] sc P 48 [(0, .ref 76), (1, .int (nZ x1))] [.int (nZ r12), .int (nZ 2), .ref (91 + x1.toNat)] σ8
    refine i_iast (n := 7) dX10_play_48 (gT hG9 (ro_90 _ hj7).1 (by have := hj7; omega)) (gL hG9 (ro_90 _ hj7).2) (by decide) (by decide) (fun σ13 eσ14 => ?_)
    replace h := h σ13 eσ14
    have hG15 : G σ13 u := eσ14 ▸ G.wI hG9
    obtain ⟨q16, h⟩ := h
    refine w_iinc (v := nZ (x1 + 1)) (l' := [(1, .int (nZ (x1 + 1))), (0, .ref 76)]) dX10_play_49 (List.Mem.tail _ (List.Mem.head _)) (nZ_add _ _) (by decide) rfl ?_
    refine w_goto (tgt := 26) dX10_play_52 rfl ?_
    exact w_weak (l' := [(0, .ref 76), (1, .int (nZ (x1 + 1)))]) (by intro q hq; simp only [List.mem_cons, List.not_mem_nil, or_false] at hq ⊢; rcases hq with rfl | rfl <;> simp) h
set_option maxRecDepth 10000 in
theorem v_X10_play_72 {C : aM → List Value → aH → aO → aH → Prop} {sc : Nat × (Nat → Int32)} {P : aO → aH → Prop} {σ : aH} {u : Nat}  {x1 : Int} (hG : G σ u) (rx1 : inR x1)
    (h : (inR ((rI σ 76 20) - 1) ∧ ((((rI σ 76 20) - 1) ≤ x1 → (∃ σ2 : aH, C mX10_notes [.ref 76, .int (nZ (rI σ 76 20))] σ (.inl none) σ2 ∧ G σ2 u ∧ (inR ((rI σ2 76 20) + 1) ∧ (∀ σ7 : aH, wI σ2 76 20 ((rI σ2 76 20) + 1) = σ7 → L_X10_play_15 C sc P  σ7)))) ∧ (¬ (((rI σ 76 20) - 1) ≤ x1) → (∃ (r14 : Int) (σ10 : aH), C mX10_isAs [.ref 76, .int (nZ x1)] σ (.inl (some (.int (nZ r14)))) σ10 ∧ G σ10 u ∧ inR r14 ∧ ((r14 = 0 → (inR (x1 + 1) ∧ L_X10_play_72 C sc P (x1 + 1) σ10)) ∧ (¬ (r14 = 0) → P (.inl (some (.int (nZ 0)))) σ10))))))) :
    L_X10_play_72 C sc P x1 σ := by
  unfold L_X10_play_72
  refine w_iload_n dX10_play_72 rfl (List.Mem.tail _ (List.Mem.head _)) ?_
  refine w_aload_n dX10_play_73 rfl (List.Mem.head _) ?_
  refine i_getI (ci := 10) 20 rfl dX10_play_74 fl_10_209 (by decide) (gT hG rfl (lt_of rfl)) ?_
  refine w_iconst (v := nZ 1) dX10_play_77 (by decide) ?_
  obtain ⟨q1, h⟩ := h
  refine i_sub dX10_play_78 ?_
  refine i_cmp_ge (tgt := 98) dX10_play_79 rfl rx1 q1 (fun c9 => ?_) (fun c9 => ?_)
  · replace h := h.1 c9
    refine w_aload_n dX10_play_98 rfl (List.Mem.head _) ?_
    refine w_aload_n dX10_play_99 rfl (List.Mem.head _) ?_
    refine i_getI (ci := 10) 20 rfl dX10_play_100 fl_10_209 (by decide) (gT hG rfl (lt_of rfl)) ?_
    obtain ⟨σ2, hc4, hG3, h⟩ := h
    refine w_callV dX10_play_103 ml_10_321 ⟨ok_X10_notes, vi_X10_notes⟩ hs_X10_notes (As := [.int (nZ (rI σ 76 20))]) rfl rfl (gT hG rfl (lt_of rfl)) (Nat.le_of_ble_eq_true rfl) hc4 ?_
    show wp C 10 cX10_play 2 (some .int) false [] sc P 106 [(0, .ref 76), (1, .int (nZ x1))] [] σ2
    refine w_aload_n dX10_play_106 rfl (List.Mem.head _) ?_
    refine w_dup dX10_play_107 rfl ?_
    refine i_getI (ci := 10) 20 rfl dX10_play_108 fl_10_209 (by decide) (gT hG3 rfl (lt_of rfl)) ?_
    refine w_iconst (v := nZ 1) dX10_play_111 (by decide) ?_
    obtain ⟨q6, h⟩ := h
    refine i_add dX10_play_112 ?_
    refine i_putI (ci := 10) 20 rfl dX10_play_113 fl_10_209 (by decide) (gT hG3 rfl (lt_of rfl)) (fun σ7 eσ8 => ?_)
    replace h := h σ7 eσ8
    have hG9 : G σ7 u := eσ8 ▸ G.wI hG3
    refine w_goto (tgt := 15) dX10_play_116 rfl ?_
    exact w_weak (l' := [(0, .ref 76)]) (by intro q hq; simp only [List.mem_cons, List.not_mem_nil, or_false] at hq ⊢; rcases hq with rfl <;> simp) h
  · replace h := h.2 c9
    refine w_aload_n dX10_play_82 rfl (List.Mem.head _) ?_
    refine w_iload_n dX10_play_83 rfl (List.Mem.tail _ (List.Mem.head _)) ?_
    obtain ⟨r14, σ10, hc12, hG11, rr13, h⟩ := h
    refine w_callV dX10_play_84 ml_10_324 ⟨ok_X10_isAs, vi_X10_isAs⟩ hs_X10_isAs (As := [.int (nZ x1)]) rfl rfl (gT hG rfl (lt_of rfl)) (Nat.le_of_ble_eq_true rfl) hc12 ?_
    show wp C 10 cX10_play 2 (some .int) false [] sc P 87 [(0, .ref 76), (1, .int (nZ x1))] [.int (nZ r14)] σ10
    refine i_if_eq (tgt := 92) dX10_play_87 rfl rr13 (fun c9 => ?_) (fun c9 => ?_)
    · replace h := h.1 c9
      obtain ⟨q15, h⟩ := h
      refine w_iinc (v := nZ (x1 + 1)) (l' := [(1, .int (nZ (x1 + 1))), (0, .ref 76)]) dX10_play_92 (List.Mem.tail _ (List.Mem.head _)) (nZ_add _ _) (by decide) rfl ?_
      refine w_goto (tgt := 72) dX10_play_95 rfl ?_
      exact w_weak (l' := [(0, .ref 76), (1, .int (nZ (x1 + 1)))]) (by intro q hq; simp only [List.mem_cons, List.not_mem_nil, or_false] at hq ⊢; rcases hq with rfl | rfl <;> simp) h
    · replace h := h.2 c9
      refine w_iconst (v := nZ 0) dX10_play_90 (by decide) ?_
      exact w_iret dX10_play_91 rfl h
