theorem y_strC {C : aM → List Value → aH → aO → aH → Prop} {c : Nat} {code : ByteArray} {mL : Nat} {rt : Option FieldType} {ini : Bool} {hs : List (Nat × Nat × Nat × Nat)} {sc : Nat × (Nat → Int32)} {P : aO → aH → Prop} {pc : Nat} {l : aL} {st : List Value} {σ : aH} {i j k : Nat} {x : Int32} (hx : x = nI k) (d : decode code pc = .ok (.invokevirtual i, 3)) (hl : Cond.methodLink (cn c) i yJ0_charAt_5068e ∈ lw_tbl) (hw : catsum st ≤ 8) (hj : j < 10) (hk : k < wdLen.getD j 0) (k0 : wp C c code mL rt ini hs sc P (pc + 3) l (.int ((wdByt.getD j []).getD k 0) :: st) σ) : wp C c code mL rt ini hs sc P pc l (.int x :: .ref (1000001 + j) :: st) σ := by
  subst hx
  exact w_strC d hl hw hj hk k0
theorem ls_5_108 : Cond.methodLink (cn 5) 108 yJ0_length_8abf5 ∈ lw_tbl := List.mem_of_getElem? (i := 851) (by decide +kernel)
theorem ls_5_113 : Cond.methodLink (cn 5) 113 yJ0_charAt_5068e ∈ lw_tbl := List.mem_of_getElem? (i := 861) (by decide +kernel)
theorem dX5_readWord_0 : decode cX5_readWord 0 = .ok (.aload_n 0, 1) := by decide +kernel
theorem dX5_readWord_1 : decode cX5_readWord 1 = .ok (.getfield 22, 3) := by decide +kernel
theorem dX5_readWord_4 : decode cX5_readWord 4 = .ok (.istore_n 1, 1) := by decide +kernel
theorem dX5_readWord_5 : decode cX5_readWord 5 = .ok (.aload_n 0, 1) := by decide +kernel
theorem dX5_readWord_6 : decode cX5_readWord 6 = .ok (.getfield 22, 3) := by decide +kernel
theorem dX5_readWord_9 : decode cX5_readWord 9 = .ok (.aload_n 0, 1) := by decide +kernel
theorem dX5_readWord_10 : decode cX5_readWord 10 = .ok (.getfield 19, 3) := by decide +kernel
theorem dX5_readWord_13 : decode cX5_readWord 13 = .ok (.if_icmp .ge 34, 3) := by decide +kernel
theorem dX5_readWord_16 : decode cX5_readWord 16 = .ok (.aload_n 0, 1) := by decide +kernel
theorem dX5_readWord_17 : decode cX5_readWord 17 = .ok (.invokevirtual 58, 3) := by decide +kernel
theorem dX5_readWord_20 : decode cX5_readWord 20 = .ok (.bipush 97, 2) := by decide +kernel
theorem dX5_readWord_22 : decode cX5_readWord 22 = .ok (.if_icmp .lt 25, 3) := by decide +kernel
theorem dX5_readWord_25 : decode cX5_readWord 25 = .ok (.aload_n 0, 1) := by decide +kernel
theorem dX5_readWord_26 : decode cX5_readWord 26 = .ok (.invokevirtual 58, 3) := by decide +kernel
theorem dX5_readWord_29 : decode cX5_readWord 29 = .ok (.bipush 122, 2) := by decide +kernel
theorem dX5_readWord_31 : decode cX5_readWord 31 = .ok (.if_icmp .gt 16, 3) := by decide +kernel
theorem dX5_readWord_34 : decode cX5_readWord 34 = .ok (.aload_n 0, 1) := by decide +kernel
theorem dX5_readWord_35 : decode cX5_readWord 35 = .ok (.dup, 1) := by decide +kernel
theorem dX5_readWord_36 : decode cX5_readWord 36 = .ok (.getfield 22, 3) := by decide +kernel
theorem dX5_readWord_39 : decode cX5_readWord 39 = .ok (.iconst 1, 1) := by decide +kernel
theorem dX5_readWord_40 : decode cX5_readWord 40 = .ok (.iadd, 1) := by decide +kernel
theorem dX5_readWord_41 : decode cX5_readWord 41 = .ok (.putfield 22, 3) := by decide +kernel
theorem dX5_readWord_44 : decode cX5_readWord 44 = .ok (.goto (-39), 3) := by decide +kernel
theorem dX5_readWord_47 : decode cX5_readWord 47 = .ok (.iconst 0, 1) := by decide +kernel
theorem dX5_readWord_48 : decode cX5_readWord 48 = .ok (.istore_n 2, 1) := by decide +kernel
theorem dX5_readWord_49 : decode cX5_readWord 49 = .ok (.iload_n 2, 1) := by decide +kernel
theorem dX5_readWord_50 : decode cX5_readWord 50 = .ok (.bipush 10, 2) := by decide +kernel
theorem dX5_readWord_52 : decode cX5_readWord 52 = .ok (.if_icmp .ge 23, 3) := by decide +kernel
theorem dX5_readWord_55 : decode cX5_readWord 55 = .ok (.aload_n 0, 1) := by decide +kernel
theorem dX5_readWord_56 : decode cX5_readWord 56 = .ok (.iload_n 2, 1) := by decide +kernel
theorem dX5_readWord_57 : decode cX5_readWord 57 = .ok (.invokestatic 80, 3) := by decide +kernel
theorem dX5_readWord_60 : decode cX5_readWord 60 = .ok (.iload_n 1, 1) := by decide +kernel
theorem dX5_readWord_61 : decode cX5_readWord 61 = .ok (.invokevirtual 84, 3) := by decide +kernel
theorem dX5_readWord_64 : decode cX5_readWord 64 = .ok (.ifCond .eq 5, 3) := by decide +kernel
theorem dX5_readWord_67 : decode cX5_readWord 67 = .ok (.iload_n 2, 1) := by decide +kernel
theorem dX5_readWord_68 : decode cX5_readWord 68 = .ok (.ireturn, 1) := by decide +kernel
theorem dX5_readWord_69 : decode cX5_readWord 69 = .ok (.iinc 2 1, 3) := by decide +kernel
theorem dX5_readWord_72 : decode cX5_readWord 72 = .ok (.goto (-23), 3) := by decide +kernel
theorem dX5_readWord_75 : decode cX5_readWord 75 = .ok (.iconst (-1), 1) := by decide +kernel
theorem dX5_readWord_76 : decode cX5_readWord 76 = .ok (.ireturn, 1) := by decide +kernel
set_option maxRecDepth 10000 in
theorem v_X5_readWord_0 {C : aM → List Value → aH → aO → aH → Prop} {sc : Nat × (Nat → Int32)} {P : aO → aH → Prop} {σ : aH} {u : Nat}   (hG : G σ u) 
    (h : (∀ z1 : Int32, z1 = (gI σ 1 3) → wp C 5 cX5_readWord 3 (some .int) false [] sc P 5 [(0, .ref 1), (1, .int z1)] [] σ)) :
    wp C 5 cX5_readWord 3 (some .int) false [] sc P 0 [(0, .ref 1)] [] σ := by
  refine w_aload_n dX5_readWord_0 rfl (List.Mem.head _) ?_
  refine w_getI (ci := 5) (k := 3) dX5_readWord_1 fl_5_22 (by decide) (gT hG rfl (lt_of rfl)) ?_
  refine top_i (fun z1 ez2 => ?_)
  replace h := h z1 ez2
  refine w_istore_n (l' := [(1, .int z1), (0, .ref 1)]) dX5_readWord_4 rfl (by decide) rfl ?_
  exact w_weak (l' := [(0, .ref 1), (1, .int z1)]) (by intro q hq; simp only [List.mem_cons, List.not_mem_nil, or_false] at hq ⊢; rcases hq with rfl | rfl <;> simp) h
set_option maxRecDepth 10000 in
theorem v_X5_readWord_5 {C : aM → List Value → aH → aO → aH → Prop} {sc : Nat × (Nat → Int32)} {P : aO → aH → Prop} {σ : aH} {u : Nat}  {x1 : Int32} (hG : G σ u) 
    (h : (((gI σ 1 2) ≤ (gI σ 1 3) → wp C 5 cX5_readWord 3 (some .int) false [] sc P 49 [(0, .ref 1), (1, .int x1), (2, .int 0)] [] σ) ∧ (¬ ((gI σ 1 2) ≤ (gI σ 1 3)) → (∃ (r4 : Int32) (σ1 : aH), C mX5_here [.ref 1] σ (.inl (some (.int r4))) σ1 ∧ G σ1 u ∧ ((r4 < 97 → wp C 5 cX5_readWord 3 (some .int) false [] sc P 49 [(0, .ref 1), (1, .int x1), (2, .int 0)] [] σ1) ∧ (¬ (r4 < 97) → (∃ (r8 : Int32) (σ5 : aH), C mX5_here [.ref 1] σ1 (.inl (some (.int r8))) σ5 ∧ G σ5 u ∧ ((122 < r8 → wp C 5 cX5_readWord 3 (some .int) false [] sc P 49 [(0, .ref 1), (1, .int x1), (2, .int 0)] [] σ5) ∧ (¬ (122 < r8) → (∀ σ9 : aH, sI σ5 1 3 ((gI σ5 1 3) + 1) = σ9 → wp C 5 cX5_readWord 3 (some .int) false [] sc P 5 [(0, .ref 1), (1, .int x1)] [] σ9)))))))))) :
    wp C 5 cX5_readWord 3 (some .int) false [] sc P 5 [(0, .ref 1), (1, .int x1)] [] σ := by
  refine w_aload_n dX5_readWord_5 rfl (List.Mem.head _) ?_
  refine w_getI (ci := 5) (k := 3) dX5_readWord_6 fl_5_22 (by decide) (gT hG rfl (lt_of rfl)) ?_
  refine w_aload_n dX5_readWord_9 rfl (List.Mem.head _) ?_
  refine w_getI (ci := 5) (k := 2) dX5_readWord_10 fl_5_19 (by decide) (gT hG rfl (lt_of rfl)) ?_
  refine w_icmp_ge (tgt := 47) dX5_readWord_13 rfl (fun c9 => ?_) (fun c9 => ?_)
  · replace h := h.1 c9
    refine w_iconst (v := 0) dX5_readWord_47 (by decide) ?_
    refine w_istore_n (l' := [(2, .int 0), (0, .ref 1), (1, .int x1)]) dX5_readWord_48 rfl (by decide) rfl ?_
    exact w_weak (l' := [(0, .ref 1), (1, .int x1), (2, .int 0)]) (by intro q hq; simp only [List.mem_cons, List.not_mem_nil, or_false] at hq ⊢; rcases hq with rfl | rfl | rfl <;> simp) h
  · replace h := h.2 c9
    refine w_aload_n dX5_readWord_16 rfl (List.Mem.head _) ?_
    obtain ⟨r4, σ1, hc3, hG2, h⟩ := h
    refine w_callV dX5_readWord_17 ml_5_58 ⟨ok_X5_here, vi_X5_here⟩ hs_X5_here (As := []) rfl rfl (gT hG rfl (lt_of rfl)) (Nat.le_of_ble_eq_true rfl) hc3 ?_
    show wp C 5 cX5_readWord 3 (some .int) false [] sc P 20 [(0, .ref 1), (1, .int x1)] [.int r4] σ1
    refine w_bipush (v := 97) dX5_readWord_20 (by decide) ?_
    refine w_icmp_lt (tgt := 47) dX5_readWord_22 rfl (fun c9 => ?_) (fun c9 => ?_)
    · replace h := h.1 c9
      refine w_iconst (v := 0) dX5_readWord_47 (by decide) ?_
      refine w_istore_n (l' := [(2, .int 0), (0, .ref 1), (1, .int x1)]) dX5_readWord_48 rfl (by decide) rfl ?_
      exact w_weak (l' := [(0, .ref 1), (1, .int x1), (2, .int 0)]) (by intro q hq; simp only [List.mem_cons, List.not_mem_nil, or_false] at hq ⊢; rcases hq with rfl | rfl | rfl <;> simp) h
    · replace h := h.2 c9
      refine w_aload_n dX5_readWord_25 rfl (List.Mem.head _) ?_
      obtain ⟨r8, σ5, hc7, hG6, h⟩ := h
      refine w_callV dX5_readWord_26 ml_5_58 ⟨ok_X5_here, vi_X5_here⟩ hs_X5_here (As := []) rfl rfl (gT hG2 rfl (lt_of rfl)) (Nat.le_of_ble_eq_true rfl) hc7 ?_
      show wp C 5 cX5_readWord 3 (some .int) false [] sc P 29 [(0, .ref 1), (1, .int x1)] [.int r8] σ5
      refine w_bipush (v := 122) dX5_readWord_29 (by decide) ?_
      refine w_icmp_gt (tgt := 47) dX5_readWord_31 rfl (fun c9 => ?_) (fun c9 => ?_)
      · replace h := h.1 c9
        refine w_iconst (v := 0) dX5_readWord_47 (by decide) ?_
        refine w_istore_n (l' := [(2, .int 0), (0, .ref 1), (1, .int x1)]) dX5_readWord_48 rfl (by decide) rfl ?_
        exact w_weak (l' := [(0, .ref 1), (1, .int x1), (2, .int 0)]) (by intro q hq; simp only [List.mem_cons, List.not_mem_nil, or_false] at hq ⊢; rcases hq with rfl | rfl | rfl <;> simp) h
      · replace h := h.2 c9
        refine w_aload_n dX5_readWord_34 rfl (List.Mem.head _) ?_
        refine w_dup dX5_readWord_35 rfl ?_
        refine w_getI (ci := 5) (k := 3) dX5_readWord_36 fl_5_22 (by decide) (gT hG6 rfl (lt_of rfl)) ?_
        refine w_iconst (v := 1) dX5_readWord_39 (by decide) ?_
        refine w_iadd dX5_readWord_40 ?_
        refine y_putI (ci := 5) (k := 3) dX5_readWord_41 fl_5_22 (by decide) (gT hG6 rfl (lt_of rfl)) (fun σ9 eσ10 => ?_)
        replace h := h σ9 eσ10
        have hG11 : G σ9 u := eσ10 ▸ G.sI hG6
        refine w_goto (tgt := 5) dX5_readWord_44 rfl ?_
        exact h
set_option maxRecDepth 10000 in
theorem v_X5_readWord_49 {C : aM → List Value → aH → aO → aH → Prop} {sc : Nat × (Nat → Int32)} {P : aO → aH → Prop} {σ : aH} {u : Nat}  {x1 : Int32} {x2 : Int32} (hG : G σ u) 
    (h : ((10 ≤ x2 → P (.inl (some (.int (-1)))) σ) ∧ (¬ (10 ≤ x2) → (∃ (j4 : Nat) (σ1 : aH), j4 < 10 ∧ C mX5_nameOf [.int x2] σ (.inl (some (.ref (1000001 + j4)))) σ1 ∧ G σ1 u ∧ (∃ (r8 : Int32) (σ5 : aH), C mX5_isWord [.ref 1, .ref (1000001 + j4), .int x1] σ1 (.inl (some (.int r8))) σ5 ∧ G σ5 u ∧ ((r8 = 0 → wp C 5 cX5_readWord 3 (some .int) false [] sc P 49 [(0, .ref 1), (1, .int x1), (2, .int (x2 + 1))] [] σ5) ∧ (¬ (r8 = 0) → P (.inl (some (.int x2))) σ5))))))) :
    wp C 5 cX5_readWord 3 (some .int) false [] sc P 49 [(0, .ref 1), (1, .int x1), (2, .int x2)] [] σ := by
  refine w_iload_n dX5_readWord_49 rfl (List.Mem.tail _ (List.Mem.tail _ (List.Mem.head _))) ?_
  refine w_bipush (v := 10) dX5_readWord_50 (by decide) ?_
  refine w_icmp_ge (tgt := 75) dX5_readWord_52 rfl (fun c9 => ?_) (fun c9 => ?_)
  · replace h := h.1 c9
    refine w_iconst (v := (-1)) dX5_readWord_75 (by decide) ?_
    exact w_iret dX5_readWord_76 rfl h
  · replace h := h.2 c9
    refine w_aload_n dX5_readWord_55 rfl (List.Mem.head _) ?_
    refine w_iload_n dX5_readWord_56 rfl (List.Mem.tail _ (List.Mem.tail _ (List.Mem.head _))) ?_
    obtain ⟨j4, σ1, hjj4, hc3, hG2, h⟩ := h
    refine w_callS dX5_readWord_57 ml_5_80 ⟨ok_X5_nameOf, st_X5_nameOf⟩ hs_X5_nameOf (As := [.int x2]) rfl rfl (Nat.le_of_ble_eq_true rfl) hc3 ?_
    show wp C 5 cX5_readWord 3 (some .int) false [] sc P 60 [(0, .ref 1), (1, .int x1), (2, .int x2)] [.ref (1000001 + j4), .ref 1] σ1
    refine w_iload_n dX5_readWord_60 rfl (List.Mem.tail _ (List.Mem.head _)) ?_
    obtain ⟨r8, σ5, hc7, hG6, h⟩ := h
    refine w_callV dX5_readWord_61 ml_5_84 ⟨ok_X5_isWord, vi_X5_isWord⟩ hs_X5_isWord (As := [.ref (1000001 + j4), .int x1]) rfl rfl (gT hG2 rfl (lt_of rfl)) (Nat.le_of_ble_eq_true rfl) hc7 ?_
    show wp C 5 cX5_readWord 3 (some .int) false [] sc P 64 [(0, .ref 1), (1, .int x1), (2, .int x2)] [.int r8] σ5
    refine w_if_eq (tgt := 69) dX5_readWord_64 rfl (fun c9 => ?_) (fun c9 => ?_)
    · replace h := h.1 c9
      refine w_iinc (v := x2 + 1) (l' := [(2, .int (x2 + 1)), (0, .ref 1), (1, .int x1)]) dX5_readWord_69 (List.Mem.tail _ (List.Mem.tail _ (List.Mem.head _))) rfl (by decide) rfl ?_
      refine w_goto (tgt := 49) dX5_readWord_72 rfl ?_
      exact w_weak (l' := [(0, .ref 1), (1, .int x1), (2, .int (x2 + 1))]) (by intro q hq; simp only [List.mem_cons, List.not_mem_nil, or_false] at hq ⊢; rcases hq with rfl | rfl | rfl <;> simp) h
    · replace h := h.2 c9
      refine w_iload_n dX5_readWord_67 rfl (List.Mem.tail _ (List.Mem.tail _ (List.Mem.head _))) ?_
      exact w_iret dX5_readWord_68 rfl h
theorem dX5_isWord_0 : decode cX5_isWord 0 = .ok (.aload_n 0, 1) := by decide +kernel
theorem dX5_isWord_1 : decode cX5_isWord 1 = .ok (.getfield 22, 3) := by decide +kernel
theorem dX5_isWord_4 : decode cX5_isWord 4 = .ok (.iload_n 2, 1) := by decide +kernel
theorem dX5_isWord_5 : decode cX5_isWord 5 = .ok (.isub, 1) := by decide +kernel
theorem dX5_isWord_6 : decode cX5_isWord 6 = .ok (.aload_n 1, 1) := by decide +kernel
theorem dX5_isWord_7 : decode cX5_isWord 7 = .ok (.invokevirtual 108, 3) := by decide +kernel
theorem dX5_isWord_10 : decode cX5_isWord 10 = .ok (.if_icmp .eq 5, 3) := by decide +kernel
theorem dX5_isWord_13 : decode cX5_isWord 13 = .ok (.iconst 0, 1) := by decide +kernel
theorem dX5_isWord_14 : decode cX5_isWord 14 = .ok (.ireturn, 1) := by decide +kernel
theorem dX5_isWord_15 : decode cX5_isWord 15 = .ok (.iconst 0, 1) := by decide +kernel
theorem dX5_isWord_16 : decode cX5_isWord 16 = .ok (.istore_n 3, 1) := by decide +kernel
theorem dX5_isWord_17 : decode cX5_isWord 17 = .ok (.iload_n 3, 1) := by decide +kernel
theorem dX5_isWord_18 : decode cX5_isWord 18 = .ok (.aload_n 1, 1) := by decide +kernel
theorem dX5_isWord_19 : decode cX5_isWord 19 = .ok (.invokevirtual 108, 3) := by decide +kernel
theorem dX5_isWord_22 : decode cX5_isWord 22 = .ok (.if_icmp .ge 27, 3) := by decide +kernel
theorem dX5_isWord_25 : decode cX5_isWord 25 = .ok (.aload_n 0, 1) := by decide +kernel
theorem dX5_isWord_26 : decode cX5_isWord 26 = .ok (.getfield 9, 3) := by decide +kernel
theorem dX5_isWord_29 : decode cX5_isWord 29 = .ok (.iload_n 2, 1) := by decide +kernel
theorem dX5_isWord_30 : decode cX5_isWord 30 = .ok (.iload_n 3, 1) := by decide +kernel
theorem dX5_isWord_31 : decode cX5_isWord 31 = .ok (.iadd, 1) := by decide +kernel
theorem dX5_isWord_32 : decode cX5_isWord 32 = .ok (.baload, 1) := by decide +kernel
theorem dX5_isWord_33 : decode cX5_isWord 33 = .ok (.aload_n 1, 1) := by decide +kernel
theorem dX5_isWord_34 : decode cX5_isWord 34 = .ok (.iload_n 3, 1) := by decide +kernel
theorem dX5_isWord_35 : decode cX5_isWord 35 = .ok (.invokevirtual 113, 3) := by decide +kernel
theorem dX5_isWord_38 : decode cX5_isWord 38 = .ok (.if_icmp .eq 5, 3) := by decide +kernel
theorem dX5_isWord_41 : decode cX5_isWord 41 = .ok (.iconst 0, 1) := by decide +kernel
theorem dX5_isWord_42 : decode cX5_isWord 42 = .ok (.ireturn, 1) := by decide +kernel
theorem dX5_isWord_43 : decode cX5_isWord 43 = .ok (.iinc 3 1, 3) := by decide +kernel
theorem dX5_isWord_46 : decode cX5_isWord 46 = .ok (.goto (-29), 3) := by decide +kernel
theorem dX5_isWord_49 : decode cX5_isWord 49 = .ok (.iconst 1, 1) := by decide +kernel
theorem dX5_isWord_50 : decode cX5_isWord 50 = .ok (.ireturn, 1) := by decide +kernel
set_option maxRecDepth 10000 in
theorem v_X5_isWord_0 {C : aM → List Value → aH → aO → aH → Prop} {sc : Nat × (Nat → Int32)} {P : aO → aH → Prop} {σ : aH} {u : Nat} {j : Nat} {x2 : Int32} (hG : G σ u) (hj : j < 10)
    (h : ((((gI σ 1 3) - x2) = (nI (wdLen.getD j 0)) → wp C 5 cX5_isWord 4 (some .boolean) false [] sc P 17 [(0, .ref 1), (1, .ref (1000001 + j)), (2, .int x2), (3, .int 0)] [] σ) ∧ (¬ (((gI σ 1 3) - x2) = (nI (wdLen.getD j 0))) → P (.inl (some (.int 0))) σ))) :
    wp C 5 cX5_isWord 4 (some .boolean) false [] sc P 0 [(0, .ref 1), (1, .ref (1000001 + j)), (2, .int x2)] [] σ := by
  refine w_aload_n dX5_isWord_0 rfl (List.Mem.head _) ?_
  refine w_getI (ci := 5) (k := 3) dX5_isWord_1 fl_5_22 (by decide) (gT hG rfl (lt_of rfl)) ?_
  refine w_iload_n dX5_isWord_4 rfl (List.Mem.tail _ (List.Mem.tail _ (List.Mem.head _))) ?_
  refine w_isub dX5_isWord_5 ?_
  refine w_aload_n dX5_isWord_6 rfl (List.Mem.tail _ (List.Mem.head _)) ?_
  refine w_strL (j := j) dX5_isWord_7 ls_5_108 (Nat.le_of_ble_eq_true rfl) hj ?_
  refine w_icmp_eq (tgt := 15) dX5_isWord_10 rfl (fun c9 => ?_) (fun c9 => ?_)
  · replace h := h.1 c9
    refine w_iconst (v := 0) dX5_isWord_15 (by decide) ?_
    refine w_istore_n (l' := [(3, .int 0), (0, .ref 1), (1, .ref (1000001 + j)), (2, .int x2)]) dX5_isWord_16 rfl (by decide) rfl ?_
    exact w_weak (l' := [(0, .ref 1), (1, .ref (1000001 + j)), (2, .int x2), (3, .int 0)]) (by intro q hq; simp only [List.mem_cons, List.not_mem_nil, or_false] at hq ⊢; rcases hq with rfl | rfl | rfl | rfl <;> simp) h
  · replace h := h.2 c9
    refine w_iconst (v := 0) dX5_isWord_13 (by decide) ?_
    exact w_zret dX5_isWord_14 rfl (by decide) h
set_option maxRecDepth 10000 in
theorem v_X5_isWord_17 {C : aM → List Value → aH → aO → aH → Prop} {sc : Nat × (Nat → Int32)} {P : aO → aH → Prop} {σ : aH} {u : Nat} {j : Nat} {x2 : Int32} {x3 : Int32} (hG : G σ u) (hj : j < 10)
    (h : (((nI (wdLen.getD j 0)) ≤ x3 → P (.inl (some (.int 1))) σ) ∧ (¬ ((nI (wdLen.getD j 0)) ≤ x3) → (vp_in (x2 + x3) 600 ∧ (∃ k1 : Nat, x3 = nI k1 ∧ k1 < wdLen.getD j 0 ∧ (((gI σ 2 ((x2 + x3).toNatClampNeg)) = ((wdByt.getD j []).getD k1 0) → wp C 5 cX5_isWord 4 (some .boolean) false [] sc P 17 [(0, .ref 1), (1, .ref (1000001 + j)), (2, .int x2), (3, .int (x3 + 1))] [] σ) ∧ (¬ ((gI σ 2 ((x2 + x3).toNatClampNeg)) = ((wdByt.getD j []).getD k1 0)) → P (.inl (some (.int 0))) σ))))))) :
    wp C 5 cX5_isWord 4 (some .boolean) false [] sc P 17 [(0, .ref 1), (1, .ref (1000001 + j)), (2, .int x2), (3, .int x3)] [] σ := by
  refine w_iload_n dX5_isWord_17 rfl (List.Mem.tail _ (List.Mem.tail _ (List.Mem.tail _ (List.Mem.head _)))) ?_
  refine w_aload_n dX5_isWord_18 rfl (List.Mem.tail _ (List.Mem.head _)) ?_
  refine w_strL (j := j) dX5_isWord_19 ls_5_108 (Nat.le_of_ble_eq_true rfl) hj ?_
  refine w_icmp_ge (tgt := 49) dX5_isWord_22 rfl (fun c9 => ?_) (fun c9 => ?_)
  · replace h := h.1 c9
    refine w_iconst (v := 1) dX5_isWord_49 (by decide) ?_
    exact w_zret dX5_isWord_50 rfl (by decide) h
  · replace h := h.2 c9
    refine w_aload_n dX5_isWord_25 rfl (List.Mem.head _) ?_
    refine w_getR (ci := 5) (k := 0) (b := 2) dX5_isWord_26 fl_5_9 (by decide) (gT hG rfl (lt_of rfl)) (gR hG (b := 2) rfl) ?_
    refine w_iload_n dX5_isWord_29 rfl (List.Mem.tail _ (List.Mem.tail _ (List.Mem.head _))) ?_
    refine w_iload_n dX5_isWord_30 rfl (List.Mem.tail _ (List.Mem.tail _ (List.Mem.tail _ (List.Mem.head _)))) ?_
    refine w_iadd dX5_isWord_31 ?_
    obtain ⟨h9, h⟩ := h
    refine x_bald (n := 600) ((x2 + x3).toNatClampNeg) dX5_isWord_32 (gT hG rfl (lt_of rfl)) (gL hG rfl) h9 rfl ?_
    refine w_aload_n dX5_isWord_33 rfl (List.Mem.tail _ (List.Mem.head _)) ?_
    refine w_iload_n dX5_isWord_34 rfl (List.Mem.tail _ (List.Mem.tail _ (List.Mem.tail _ (List.Mem.head _)))) ?_
    obtain ⟨k1, e9, h9, h⟩ := h
    refine y_strC (j := j) (k := k1) e9 dX5_isWord_35 ls_5_113 (Nat.le_of_ble_eq_true rfl) hj h9 ?_
    refine w_icmp_eq (tgt := 43) dX5_isWord_38 rfl (fun c9 => ?_) (fun c9 => ?_)
    · replace h := h.1 c9
      refine w_iinc (v := x3 + 1) (l' := [(3, .int (x3 + 1)), (0, .ref 1), (1, .ref (1000001 + j)), (2, .int x2)]) dX5_isWord_43 (List.Mem.tail _ (List.Mem.tail _ (List.Mem.tail _ (List.Mem.head _)))) rfl (by decide) rfl ?_
      refine w_goto (tgt := 17) dX5_isWord_46 rfl ?_
      exact w_weak (l' := [(0, .ref 1), (1, .ref (1000001 + j)), (2, .int x2), (3, .int (x3 + 1))]) (by intro q hq; simp only [List.mem_cons, List.not_mem_nil, or_false] at hq ⊢; rcases hq with rfl | rfl | rfl | rfl <;> simp) h
    · replace h := h.2 c9
      refine w_iconst (v := 0) dX5_isWord_41 (by decide) ?_
      exact w_zret dX5_isWord_42 rfl (by decide) h
theorem dX10_saves_0 : decode cX10_saves 0 = .ok (.iconst 0, 1) := by decide +kernel
theorem dX10_saves_1 : decode cX10_saves 1 = .ok (.istore_n 3, 1) := by decide +kernel
theorem dX10_saves_2 : decode cX10_saves 2 = .ok (.iload_n 3, 1) := by decide +kernel
theorem dX10_saves_3 : decode cX10_saves 3 = .ok (.bipush 9, 2) := by decide +kernel
theorem dX10_saves_5 : decode cX10_saves 5 = .ok (.if_icmp .ge 31, 3) := by decide +kernel
theorem dX10_saves_8 : decode cX10_saves 8 = .ok (.aload_n 1, 1) := by decide +kernel
theorem dX10_saves_9 : decode cX10_saves 9 = .ok (.iload_n 3, 1) := by decide +kernel
theorem dX10_saves_10 : decode cX10_saves 10 = .ok (.aload_n 0, 1) := by decide +kernel
theorem dX10_saves_11 : decode cX10_saves 11 = .ok (.getfield 31, 3) := by decide +kernel
theorem dX10_saves_14 : decode cX10_saves 14 = .ok (.iload_n 3, 1) := by decide +kernel
theorem dX10_saves_15 : decode cX10_saves 15 = .ok (.aaload, 1) := by decide +kernel
theorem dX10_saves_16 : decode cX10_saves 16 = .ok (.iconst 0, 1) := by decide +kernel
theorem dX10_saves_17 : decode cX10_saves 17 = .ok (.iaload, 1) := by decide +kernel
theorem dX10_saves_18 : decode cX10_saves 18 = .ok (.iastore, 1) := by decide +kernel
theorem dX10_saves_19 : decode cX10_saves 19 = .ok (.aload_n 2, 1) := by decide +kernel
theorem dX10_saves_20 : decode cX10_saves 20 = .ok (.iload_n 3, 1) := by decide +kernel
theorem dX10_saves_21 : decode cX10_saves 21 = .ok (.aload_n 0, 1) := by decide +kernel
theorem dX10_saves_22 : decode cX10_saves 22 = .ok (.getfield 31, 3) := by decide +kernel
theorem dX10_saves_25 : decode cX10_saves 25 = .ok (.iload_n 3, 1) := by decide +kernel
theorem dX10_saves_26 : decode cX10_saves 26 = .ok (.aaload, 1) := by decide +kernel
theorem dX10_saves_27 : decode cX10_saves 27 = .ok (.iconst 1, 1) := by decide +kernel
theorem dX10_saves_28 : decode cX10_saves 28 = .ok (.iaload, 1) := by decide +kernel
theorem dX10_saves_29 : decode cX10_saves 29 = .ok (.iastore, 1) := by decide +kernel
theorem dX10_saves_30 : decode cX10_saves 30 = .ok (.iinc 3 1, 3) := by decide +kernel
theorem dX10_saves_33 : decode cX10_saves 33 = .ok (.goto (-31), 3) := by decide +kernel
theorem dX10_saves_36 : decode cX10_saves 36 = .ok (.return_, 1) := by decide +kernel
set_option maxRecDepth 10000 in
theorem v_X10_savesA_0 {C : aM → List Value → aH → aO → aH → Prop} {sc : Nat × (Nat → Int32)} {P : aO → aH → Prop} {σ : aH} {u : Nat}   (hG : G σ u) 
    (h : wp C 10 cX10_saves 4 none false [] sc P 2 [(0, .ref 76), (1, .ref 316), (2, .ref 317), (3, .int 0)] [] σ) :
    wp C 10 cX10_saves 4 none false [] sc P 0 [(0, .ref 76), (1, .ref 316), (2, .ref 317)] [] σ := by
  refine w_iconst (v := 0) dX10_saves_0 (by decide) ?_
  refine w_istore_n (l' := [(3, .int 0), (0, .ref 76), (1, .ref 316), (2, .ref 317)]) dX10_saves_1 rfl (by decide) rfl ?_
  exact w_weak (l' := [(0, .ref 76), (1, .ref 316), (2, .ref 317), (3, .int 0)]) (by intro q hq; simp only [List.mem_cons, List.not_mem_nil, or_false] at hq ⊢; rcases hq with rfl | rfl | rfl | rfl <;> simp) h
set_option maxRecDepth 10000 in
theorem v_X10_savesA_2 {C : aM → List Value → aH → aO → aH → Prop} {sc : Nat × (Nat → Int32)} {P : aO → aH → Prop} {σ : aH} {u : Nat}  {x3 : Int32} (hG : G σ u) 
    (h : ((9 ≤ x3 → P (.inl none) σ) ∧ (¬ (9 ≤ x3) → (vp_in x3 9 ∧ (vp_in x3 9 ∧ (∀ σ2 : aH, sI σ 316 x3.toNatClampNeg (gI σ (91 + x3.toNatClampNeg) 0) = σ2 → (vp_in x3 9 ∧ (vp_in x3 9 ∧ (∀ σ6 : aH, sI σ2 317 x3.toNatClampNeg (gI σ2 (91 + x3.toNatClampNeg) 1) = σ6 → wp C 10 cX10_saves 4 none false [] sc P 2 [(0, .ref 76), (1, .ref 316), (2, .ref 317), (3, .int (x3 + 1))] [] σ6))))))))) :
    wp C 10 cX10_saves 4 none false [] sc P 2 [(0, .ref 76), (1, .ref 316), (2, .ref 317), (3, .int x3)] [] σ := by
  refine w_iload_n dX10_saves_2 rfl (List.Mem.tail _ (List.Mem.tail _ (List.Mem.tail _ (List.Mem.head _)))) ?_
  refine w_bipush (v := 9) dX10_saves_3 (by decide) ?_
  refine w_icmp_ge (tgt := 36) dX10_saves_5 rfl (fun c9 => ?_) (fun c9 => ?_)
  · replace h := h.1 c9
    exact w_vret dX10_saves_36 rfl h
  · replace h := h.2 c9
    refine w_aload_n dX10_saves_8 rfl (List.Mem.tail _ (List.Mem.head _)) ?_
    refine w_iload_n dX10_saves_9 rfl (List.Mem.tail _ (List.Mem.tail _ (List.Mem.tail _ (List.Mem.head _)))) ?_
    refine w_aload_n dX10_saves_10 rfl (List.Mem.head _) ?_
    refine w_getR (ci := 10) (k := 13) (b := 90) dX10_saves_11 fl_10_31 (by decide) (gT hG rfl (lt_of rfl)) (gR hG (b := 90) rfl) ?_
    refine w_iload_n dX10_saves_14 rfl (List.Mem.tail _ (List.Mem.tail _ (List.Mem.tail _ (List.Mem.head _)))) ?_
    obtain ⟨h9, h⟩ := h
    have hj1 := vin_lt h9
    refine x_aald (n := 9) (b := (91 + x3.toNatClampNeg)) dX10_saves_15 (gT hG rfl (lt_of rfl)) (gL hG rfl) h9 (gR hG (rr_90 hj1)) ?_
    refine w_iconst (v := 0) dX10_saves_16 (by decide) ?_
    refine x_iald (n := 7) 0 dX10_saves_17 (gT hG (ro_90 _ hj1).1 (by have := hj1; omega)) (gL hG (ro_90 _ hj1).2) (vin_of rfl) rfl ?_
    obtain ⟨h9, h⟩ := h
    refine y_iast (n := 9) x3.toNatClampNeg dX10_saves_18 (gT hG rfl (lt_of rfl)) (gL hG rfl) h9 rfl (fun σ2 eσ3 => ?_)
    replace h := h σ2 eσ3
    have hG4 : G σ2 u := eσ3 ▸ G.sI hG
    refine w_aload_n dX10_saves_19 rfl (List.Mem.tail _ (List.Mem.tail _ (List.Mem.head _))) ?_
    refine w_iload_n dX10_saves_20 rfl (List.Mem.tail _ (List.Mem.tail _ (List.Mem.tail _ (List.Mem.head _)))) ?_
    refine w_aload_n dX10_saves_21 rfl (List.Mem.head _) ?_
    refine w_getR (ci := 10) (k := 13) (b := 90) dX10_saves_22 fl_10_31 (by decide) (gT hG4 rfl (lt_of rfl)) (gR hG4 (b := 90) rfl) ?_
    refine w_iload_n dX10_saves_25 rfl (List.Mem.tail _ (List.Mem.tail _ (List.Mem.tail _ (List.Mem.head _)))) ?_
    obtain ⟨h9, h⟩ := h
    have hj5 := vin_lt h9
    refine x_aald (n := 9) (b := (91 + x3.toNatClampNeg)) dX10_saves_26 (gT hG4 rfl (lt_of rfl)) (gL hG4 rfl) h9 (gR hG4 (rr_90 hj5)) ?_
    refine w_iconst (v := 1) dX10_saves_27 (by decide) ?_
    refine x_iald (n := 7) 1 dX10_saves_28 (gT hG4 (ro_90 _ hj5).1 (by have := hj5; omega)) (gL hG4 (ro_90 _ hj5).2) (vin_of rfl) rfl ?_
    obtain ⟨h9, h⟩ := h
    refine y_iast (n := 9) x3.toNatClampNeg dX10_saves_29 (gT hG4 rfl (lt_of rfl)) (gL hG4 rfl) h9 rfl (fun σ6 eσ7 => ?_)
    replace h := h σ6 eσ7
    have hG8 : G σ6 u := eσ7 ▸ G.sI hG4
    refine w_iinc (v := x3 + 1) (l' := [(3, .int (x3 + 1)), (0, .ref 76), (1, .ref 316), (2, .ref 317)]) dX10_saves_30 (List.Mem.tail _ (List.Mem.tail _ (List.Mem.tail _ (List.Mem.head _)))) rfl (by decide) rfl ?_
    refine w_goto (tgt := 2) dX10_saves_33 rfl ?_
    exact w_weak (l' := [(0, .ref 76), (1, .ref 316), (2, .ref 317), (3, .int (x3 + 1))]) (by intro q hq; simp only [List.mem_cons, List.not_mem_nil, or_false] at hq ⊢; rcases hq with rfl | rfl | rfl | rfl <;> simp) h
set_option maxRecDepth 10000 in
theorem v_X10_savesB_0 {C : aM → List Value → aH → aO → aH → Prop} {sc : Nat × (Nat → Int32)} {P : aO → aH → Prop} {σ : aH} {u : Nat}   (hG : G σ u) 
    (h : wp C 10 cX10_saves 4 none false [] sc P 2 [(0, .ref 76), (1, .ref 318), (2, .ref 319), (3, .int 0)] [] σ) :
    wp C 10 cX10_saves 4 none false [] sc P 0 [(0, .ref 76), (1, .ref 318), (2, .ref 319)] [] σ := by
  refine w_iconst (v := 0) dX10_saves_0 (by decide) ?_
  refine w_istore_n (l' := [(3, .int 0), (0, .ref 76), (1, .ref 318), (2, .ref 319)]) dX10_saves_1 rfl (by decide) rfl ?_
  exact w_weak (l' := [(0, .ref 76), (1, .ref 318), (2, .ref 319), (3, .int 0)]) (by intro q hq; simp only [List.mem_cons, List.not_mem_nil, or_false] at hq ⊢; rcases hq with rfl | rfl | rfl | rfl <;> simp) h
set_option maxRecDepth 10000 in
theorem v_X10_savesB_2 {C : aM → List Value → aH → aO → aH → Prop} {sc : Nat × (Nat → Int32)} {P : aO → aH → Prop} {σ : aH} {u : Nat}  {x3 : Int32} (hG : G σ u) 
    (h : ((9 ≤ x3 → P (.inl none) σ) ∧ (¬ (9 ≤ x3) → (vp_in x3 9 ∧ (vp_in x3 9 ∧ (∀ σ2 : aH, sI σ 318 x3.toNatClampNeg (gI σ (91 + x3.toNatClampNeg) 0) = σ2 → (vp_in x3 9 ∧ (vp_in x3 9 ∧ (∀ σ6 : aH, sI σ2 319 x3.toNatClampNeg (gI σ2 (91 + x3.toNatClampNeg) 1) = σ6 → wp C 10 cX10_saves 4 none false [] sc P 2 [(0, .ref 76), (1, .ref 318), (2, .ref 319), (3, .int (x3 + 1))] [] σ6))))))))) :
    wp C 10 cX10_saves 4 none false [] sc P 2 [(0, .ref 76), (1, .ref 318), (2, .ref 319), (3, .int x3)] [] σ := by
  refine w_iload_n dX10_saves_2 rfl (List.Mem.tail _ (List.Mem.tail _ (List.Mem.tail _ (List.Mem.head _)))) ?_
  refine w_bipush (v := 9) dX10_saves_3 (by decide) ?_
  refine w_icmp_ge (tgt := 36) dX10_saves_5 rfl (fun c9 => ?_) (fun c9 => ?_)
  · replace h := h.1 c9
    exact w_vret dX10_saves_36 rfl h
  · replace h := h.2 c9
    refine w_aload_n dX10_saves_8 rfl (List.Mem.tail _ (List.Mem.head _)) ?_
    refine w_iload_n dX10_saves_9 rfl (List.Mem.tail _ (List.Mem.tail _ (List.Mem.tail _ (List.Mem.head _)))) ?_
    refine w_aload_n dX10_saves_10 rfl (List.Mem.head _) ?_
    refine w_getR (ci := 10) (k := 13) (b := 90) dX10_saves_11 fl_10_31 (by decide) (gT hG rfl (lt_of rfl)) (gR hG (b := 90) rfl) ?_
    refine w_iload_n dX10_saves_14 rfl (List.Mem.tail _ (List.Mem.tail _ (List.Mem.tail _ (List.Mem.head _)))) ?_
    obtain ⟨h9, h⟩ := h
    have hj1 := vin_lt h9
    refine x_aald (n := 9) (b := (91 + x3.toNatClampNeg)) dX10_saves_15 (gT hG rfl (lt_of rfl)) (gL hG rfl) h9 (gR hG (rr_90 hj1)) ?_
    refine w_iconst (v := 0) dX10_saves_16 (by decide) ?_
    refine x_iald (n := 7) 0 dX10_saves_17 (gT hG (ro_90 _ hj1).1 (by have := hj1; omega)) (gL hG (ro_90 _ hj1).2) (vin_of rfl) rfl ?_
    obtain ⟨h9, h⟩ := h
    refine y_iast (n := 9) x3.toNatClampNeg dX10_saves_18 (gT hG rfl (lt_of rfl)) (gL hG rfl) h9 rfl (fun σ2 eσ3 => ?_)
    replace h := h σ2 eσ3
    have hG4 : G σ2 u := eσ3 ▸ G.sI hG
    refine w_aload_n dX10_saves_19 rfl (List.Mem.tail _ (List.Mem.tail _ (List.Mem.head _))) ?_
    refine w_iload_n dX10_saves_20 rfl (List.Mem.tail _ (List.Mem.tail _ (List.Mem.tail _ (List.Mem.head _)))) ?_
    refine w_aload_n dX10_saves_21 rfl (List.Mem.head _) ?_
    refine w_getR (ci := 10) (k := 13) (b := 90) dX10_saves_22 fl_10_31 (by decide) (gT hG4 rfl (lt_of rfl)) (gR hG4 (b := 90) rfl) ?_
    refine w_iload_n dX10_saves_25 rfl (List.Mem.tail _ (List.Mem.tail _ (List.Mem.tail _ (List.Mem.head _)))) ?_
    obtain ⟨h9, h⟩ := h
    have hj5 := vin_lt h9
    refine x_aald (n := 9) (b := (91 + x3.toNatClampNeg)) dX10_saves_26 (gT hG4 rfl (lt_of rfl)) (gL hG4 rfl) h9 (gR hG4 (rr_90 hj5)) ?_
    refine w_iconst (v := 1) dX10_saves_27 (by decide) ?_
    refine x_iald (n := 7) 1 dX10_saves_28 (gT hG4 (ro_90 _ hj5).1 (by have := hj5; omega)) (gL hG4 (ro_90 _ hj5).2) (vin_of rfl) rfl ?_
    obtain ⟨h9, h⟩ := h
    refine y_iast (n := 9) x3.toNatClampNeg dX10_saves_29 (gT hG4 rfl (lt_of rfl)) (gL hG4 rfl) h9 rfl (fun σ6 eσ7 => ?_)
    replace h := h σ6 eσ7
    have hG8 : G σ6 u := eσ7 ▸ G.sI hG4
    refine w_iinc (v := x3 + 1) (l' := [(3, .int (x3 + 1)), (0, .ref 76), (1, .ref 318), (2, .ref 319)]) dX10_saves_30 (List.Mem.tail _ (List.Mem.tail _ (List.Mem.tail _ (List.Mem.head _)))) rfl (by decide) rfl ?_
    refine w_goto (tgt := 2) dX10_saves_33 rfl ?_
    exact w_weak (l' := [(0, .ref 76), (1, .ref 318), (2, .ref 319), (3, .int (x3 + 1))]) (by intro q hq; simp only [List.mem_cons, List.not_mem_nil, or_false] at hq ⊢; rcases hq with rfl | rfl | rfl | rfl <;> simp) h
theorem dX10_setsBack_0 : decode cX10_setsBack 0 = .ok (.iconst 0, 1) := by decide +kernel
theorem dX10_setsBack_1 : decode cX10_setsBack 1 = .ok (.istore_n 3, 1) := by decide +kernel
theorem dX10_setsBack_2 : decode cX10_setsBack 2 = .ok (.iload_n 3, 1) := by decide +kernel
theorem dX10_setsBack_3 : decode cX10_setsBack 3 = .ok (.bipush 9, 2) := by decide +kernel
theorem dX10_setsBack_5 : decode cX10_setsBack 5 = .ok (.if_icmp .ge 31, 3) := by decide +kernel
theorem dX10_setsBack_8 : decode cX10_setsBack 8 = .ok (.aload_n 0, 1) := by decide +kernel
theorem dX10_setsBack_9 : decode cX10_setsBack 9 = .ok (.getfield 31, 3) := by decide +kernel
theorem dX10_setsBack_12 : decode cX10_setsBack 12 = .ok (.iload_n 3, 1) := by decide +kernel
theorem dX10_setsBack_13 : decode cX10_setsBack 13 = .ok (.aaload, 1) := by decide +kernel
theorem dX10_setsBack_14 : decode cX10_setsBack 14 = .ok (.iconst 0, 1) := by decide +kernel
theorem dX10_setsBack_15 : decode cX10_setsBack 15 = .ok (.aload_n 1, 1) := by decide +kernel
theorem dX10_setsBack_16 : decode cX10_setsBack 16 = .ok (.iload_n 3, 1) := by decide +kernel
theorem dX10_setsBack_17 : decode cX10_setsBack 17 = .ok (.iaload, 1) := by decide +kernel
theorem dX10_setsBack_18 : decode cX10_setsBack 18 = .ok (.iastore, 1) := by decide +kernel
theorem dX10_setsBack_19 : decode cX10_setsBack 19 = .ok (.aload_n 0, 1) := by decide +kernel
theorem dX10_setsBack_20 : decode cX10_setsBack 20 = .ok (.getfield 31, 3) := by decide +kernel
theorem dX10_setsBack_23 : decode cX10_setsBack 23 = .ok (.iload_n 3, 1) := by decide +kernel
theorem dX10_setsBack_24 : decode cX10_setsBack 24 = .ok (.aaload, 1) := by decide +kernel
theorem dX10_setsBack_25 : decode cX10_setsBack 25 = .ok (.iconst 1, 1) := by decide +kernel
theorem dX10_setsBack_26 : decode cX10_setsBack 26 = .ok (.aload_n 2, 1) := by decide +kernel
theorem dX10_setsBack_27 : decode cX10_setsBack 27 = .ok (.iload_n 3, 1) := by decide +kernel
theorem dX10_setsBack_28 : decode cX10_setsBack 28 = .ok (.iaload, 1) := by decide +kernel
theorem dX10_setsBack_29 : decode cX10_setsBack 29 = .ok (.iastore, 1) := by decide +kernel
theorem dX10_setsBack_30 : decode cX10_setsBack 30 = .ok (.iinc 3 1, 3) := by decide +kernel
theorem dX10_setsBack_33 : decode cX10_setsBack 33 = .ok (.goto (-31), 3) := by decide +kernel
theorem dX10_setsBack_36 : decode cX10_setsBack 36 = .ok (.return_, 1) := by decide +kernel
set_option maxRecDepth 10000 in
theorem v_X10_setsBackA_0 {C : aM → List Value → aH → aO → aH → Prop} {sc : Nat × (Nat → Int32)} {P : aO → aH → Prop} {σ : aH} {u : Nat}   (hG : G σ u) 
    (h : wp C 10 cX10_setsBack 4 none false [] sc P 2 [(0, .ref 76), (1, .ref 316), (2, .ref 317), (3, .int 0)] [] σ) :
    wp C 10 cX10_setsBack 4 none false [] sc P 0 [(0, .ref 76), (1, .ref 316), (2, .ref 317)] [] σ := by
  refine w_iconst (v := 0) dX10_setsBack_0 (by decide) ?_
  refine w_istore_n (l' := [(3, .int 0), (0, .ref 76), (1, .ref 316), (2, .ref 317)]) dX10_setsBack_1 rfl (by decide) rfl ?_
  exact w_weak (l' := [(0, .ref 76), (1, .ref 316), (2, .ref 317), (3, .int 0)]) (by intro q hq; simp only [List.mem_cons, List.not_mem_nil, or_false] at hq ⊢; rcases hq with rfl | rfl | rfl | rfl <;> simp) h
set_option maxRecDepth 10000 in
theorem v_X10_setsBackA_2 {C : aM → List Value → aH → aO → aH → Prop} {sc : Nat × (Nat → Int32)} {P : aO → aH → Prop} {σ : aH} {u : Nat}  {x3 : Int32} (hG : G σ u) 
    (h : ((9 ≤ x3 → P (.inl none) σ) ∧ (¬ (9 ≤ x3) → (vp_in x3 9 ∧ (vp_in x3 9 ∧ (∀ σ2 : aH, sI σ (91 + x3.toNatClampNeg) 0 (gI σ 316 x3.toNatClampNeg) = σ2 → (vp_in x3 9 ∧ (vp_in x3 9 ∧ (∀ σ6 : aH, sI σ2 (91 + x3.toNatClampNeg) 1 (gI σ2 317 x3.toNatClampNeg) = σ6 → wp C 10 cX10_setsBack 4 none false [] sc P 2 [(0, .ref 76), (1, .ref 316), (2, .ref 317), (3, .int (x3 + 1))] [] σ6))))))))) :
    wp C 10 cX10_setsBack 4 none false [] sc P 2 [(0, .ref 76), (1, .ref 316), (2, .ref 317), (3, .int x3)] [] σ := by
  refine w_iload_n dX10_setsBack_2 rfl (List.Mem.tail _ (List.Mem.tail _ (List.Mem.tail _ (List.Mem.head _)))) ?_
  refine w_bipush (v := 9) dX10_setsBack_3 (by decide) ?_
  refine w_icmp_ge (tgt := 36) dX10_setsBack_5 rfl (fun c9 => ?_) (fun c9 => ?_)
  · replace h := h.1 c9
    exact w_vret dX10_setsBack_36 rfl h
  · replace h := h.2 c9
    refine w_aload_n dX10_setsBack_8 rfl (List.Mem.head _) ?_
    refine w_getR (ci := 10) (k := 13) (b := 90) dX10_setsBack_9 fl_10_31 (by decide) (gT hG rfl (lt_of rfl)) (gR hG (b := 90) rfl) ?_
    refine w_iload_n dX10_setsBack_12 rfl (List.Mem.tail _ (List.Mem.tail _ (List.Mem.tail _ (List.Mem.head _)))) ?_
    obtain ⟨h9, h⟩ := h
    have hj1 := vin_lt h9
    refine x_aald (n := 9) (b := (91 + x3.toNatClampNeg)) dX10_setsBack_13 (gT hG rfl (lt_of rfl)) (gL hG rfl) h9 (gR hG (rr_90 hj1)) ?_
    refine w_iconst (v := 0) dX10_setsBack_14 (by decide) ?_
    refine w_aload_n dX10_setsBack_15 rfl (List.Mem.tail _ (List.Mem.head _)) ?_
    refine w_iload_n dX10_setsBack_16 rfl (List.Mem.tail _ (List.Mem.tail _ (List.Mem.tail _ (List.Mem.head _)))) ?_
    obtain ⟨h9, h⟩ := h
    refine x_iald (n := 9) x3.toNatClampNeg dX10_setsBack_17 (gT hG rfl (lt_of rfl)) (gL hG rfl) h9 rfl ?_
    refine y_iast (n := 7) 0 dX10_setsBack_18 (gT hG (ro_90 _ hj1).1 (by have := hj1; omega)) (gL hG (ro_90 _ hj1).2) (vin_of rfl) rfl (fun σ2 eσ3 => ?_)
    replace h := h σ2 eσ3
    have hG4 : G σ2 u := eσ3 ▸ G.sI hG
    refine w_aload_n dX10_setsBack_19 rfl (List.Mem.head _) ?_
    refine w_getR (ci := 10) (k := 13) (b := 90) dX10_setsBack_20 fl_10_31 (by decide) (gT hG4 rfl (lt_of rfl)) (gR hG4 (b := 90) rfl) ?_
    refine w_iload_n dX10_setsBack_23 rfl (List.Mem.tail _ (List.Mem.tail _ (List.Mem.tail _ (List.Mem.head _)))) ?_
    obtain ⟨h9, h⟩ := h
    have hj5 := vin_lt h9
    refine x_aald (n := 9) (b := (91 + x3.toNatClampNeg)) dX10_setsBack_24 (gT hG4 rfl (lt_of rfl)) (gL hG4 rfl) h9 (gR hG4 (rr_90 hj5)) ?_
    refine w_iconst (v := 1) dX10_setsBack_25 (by decide) ?_
    refine w_aload_n dX10_setsBack_26 rfl (List.Mem.tail _ (List.Mem.tail _ (List.Mem.head _))) ?_
    refine w_iload_n dX10_setsBack_27 rfl (List.Mem.tail _ (List.Mem.tail _ (List.Mem.tail _ (List.Mem.head _)))) ?_
    obtain ⟨h9, h⟩ := h
    refine x_iald (n := 9) x3.toNatClampNeg dX10_setsBack_28 (gT hG4 rfl (lt_of rfl)) (gL hG4 rfl) h9 rfl ?_
    refine y_iast (n := 7) 1 dX10_setsBack_29 (gT hG4 (ro_90 _ hj5).1 (by have := hj5; omega)) (gL hG4 (ro_90 _ hj5).2) (vin_of rfl) rfl (fun σ6 eσ7 => ?_)
    replace h := h σ6 eσ7
    have hG8 : G σ6 u := eσ7 ▸ G.sI hG4
    refine w_iinc (v := x3 + 1) (l' := [(3, .int (x3 + 1)), (0, .ref 76), (1, .ref 316), (2, .ref 317)]) dX10_setsBack_30 (List.Mem.tail _ (List.Mem.tail _ (List.Mem.tail _ (List.Mem.head _)))) rfl (by decide) rfl ?_
    refine w_goto (tgt := 2) dX10_setsBack_33 rfl ?_
    exact w_weak (l' := [(0, .ref 76), (1, .ref 316), (2, .ref 317), (3, .int (x3 + 1))]) (by intro q hq; simp only [List.mem_cons, List.not_mem_nil, or_false] at hq ⊢; rcases hq with rfl | rfl | rfl | rfl <;> simp) h
set_option maxRecDepth 10000 in
theorem v_X10_setsBackB_0 {C : aM → List Value → aH → aO → aH → Prop} {sc : Nat × (Nat → Int32)} {P : aO → aH → Prop} {σ : aH} {u : Nat}   (hG : G σ u) 
    (h : wp C 10 cX10_setsBack 4 none false [] sc P 2 [(0, .ref 76), (1, .ref 318), (2, .ref 319), (3, .int 0)] [] σ) :
    wp C 10 cX10_setsBack 4 none false [] sc P 0 [(0, .ref 76), (1, .ref 318), (2, .ref 319)] [] σ := by
  refine w_iconst (v := 0) dX10_setsBack_0 (by decide) ?_
  refine w_istore_n (l' := [(3, .int 0), (0, .ref 76), (1, .ref 318), (2, .ref 319)]) dX10_setsBack_1 rfl (by decide) rfl ?_
  exact w_weak (l' := [(0, .ref 76), (1, .ref 318), (2, .ref 319), (3, .int 0)]) (by intro q hq; simp only [List.mem_cons, List.not_mem_nil, or_false] at hq ⊢; rcases hq with rfl | rfl | rfl | rfl <;> simp) h
set_option maxRecDepth 10000 in
theorem v_X10_setsBackB_2 {C : aM → List Value → aH → aO → aH → Prop} {sc : Nat × (Nat → Int32)} {P : aO → aH → Prop} {σ : aH} {u : Nat}  {x3 : Int32} (hG : G σ u) 
    (h : ((9 ≤ x3 → P (.inl none) σ) ∧ (¬ (9 ≤ x3) → (vp_in x3 9 ∧ (vp_in x3 9 ∧ (∀ σ2 : aH, sI σ (91 + x3.toNatClampNeg) 0 (gI σ 318 x3.toNatClampNeg) = σ2 → (vp_in x3 9 ∧ (vp_in x3 9 ∧ (∀ σ6 : aH, sI σ2 (91 + x3.toNatClampNeg) 1 (gI σ2 319 x3.toNatClampNeg) = σ6 → wp C 10 cX10_setsBack 4 none false [] sc P 2 [(0, .ref 76), (1, .ref 318), (2, .ref 319), (3, .int (x3 + 1))] [] σ6))))))))) :
    wp C 10 cX10_setsBack 4 none false [] sc P 2 [(0, .ref 76), (1, .ref 318), (2, .ref 319), (3, .int x3)] [] σ := by
  refine w_iload_n dX10_setsBack_2 rfl (List.Mem.tail _ (List.Mem.tail _ (List.Mem.tail _ (List.Mem.head _)))) ?_
  refine w_bipush (v := 9) dX10_setsBack_3 (by decide) ?_
  refine w_icmp_ge (tgt := 36) dX10_setsBack_5 rfl (fun c9 => ?_) (fun c9 => ?_)
  · replace h := h.1 c9
    exact w_vret dX10_setsBack_36 rfl h
  · replace h := h.2 c9
    refine w_aload_n dX10_setsBack_8 rfl (List.Mem.head _) ?_
    refine w_getR (ci := 10) (k := 13) (b := 90) dX10_setsBack_9 fl_10_31 (by decide) (gT hG rfl (lt_of rfl)) (gR hG (b := 90) rfl) ?_
    refine w_iload_n dX10_setsBack_12 rfl (List.Mem.tail _ (List.Mem.tail _ (List.Mem.tail _ (List.Mem.head _)))) ?_
    obtain ⟨h9, h⟩ := h
    have hj1 := vin_lt h9
    refine x_aald (n := 9) (b := (91 + x3.toNatClampNeg)) dX10_setsBack_13 (gT hG rfl (lt_of rfl)) (gL hG rfl) h9 (gR hG (rr_90 hj1)) ?_
    refine w_iconst (v := 0) dX10_setsBack_14 (by decide) ?_
    refine w_aload_n dX10_setsBack_15 rfl (List.Mem.tail _ (List.Mem.head _)) ?_
    refine w_iload_n dX10_setsBack_16 rfl (List.Mem.tail _ (List.Mem.tail _ (List.Mem.tail _ (List.Mem.head _)))) ?_
    obtain ⟨h9, h⟩ := h
    refine x_iald (n := 9) x3.toNatClampNeg dX10_setsBack_17 (gT hG rfl (lt_of rfl)) (gL hG rfl) h9 rfl ?_
    refine y_iast (n := 7) 0 dX10_setsBack_18 (gT hG (ro_90 _ hj1).1 (by have := hj1; omega)) (gL hG (ro_90 _ hj1).2) (vin_of rfl) rfl (fun σ2 eσ3 => ?_)
    replace h := h σ2 eσ3
    have hG4 : G σ2 u := eσ3 ▸ G.sI hG
    refine w_aload_n dX10_setsBack_19 rfl (List.Mem.head _) ?_
    refine w_getR (ci := 10) (k := 13) (b := 90) dX10_setsBack_20 fl_10_31 (by decide) (gT hG4 rfl (lt_of rfl)) (gR hG4 (b := 90) rfl) ?_
    refine w_iload_n dX10_setsBack_23 rfl (List.Mem.tail _ (List.Mem.tail _ (List.Mem.tail _ (List.Mem.head _)))) ?_
    obtain ⟨h9, h⟩ := h
    have hj5 := vin_lt h9
    refine x_aald (n := 9) (b := (91 + x3.toNatClampNeg)) dX10_setsBack_24 (gT hG4 rfl (lt_of rfl)) (gL hG4 rfl) h9 (gR hG4 (rr_90 hj5)) ?_
    refine w_iconst (v := 1) dX10_setsBack_25 (by decide) ?_
    refine w_aload_n dX10_setsBack_26 rfl (List.Mem.tail _ (List.Mem.tail _ (List.Mem.head _))) ?_
    refine w_iload_n dX10_setsBack_27 rfl (List.Mem.tail _ (List.Mem.tail _ (List.Mem.tail _ (List.Mem.head _)))) ?_
    obtain ⟨h9, h⟩ := h
    refine x_iald (n := 9) x3.toNatClampNeg dX10_setsBack_28 (gT hG4 rfl (lt_of rfl)) (gL hG4 rfl) h9 rfl ?_
    refine y_iast (n := 7) 1 dX10_setsBack_29 (gT hG4 (ro_90 _ hj5).1 (by have := hj5; omega)) (gL hG4 (ro_90 _ hj5).2) (vin_of rfl) rfl (fun σ6 eσ7 => ?_)
    replace h := h σ6 eσ7
    have hG8 : G σ6 u := eσ7 ▸ G.sI hG4
    refine w_iinc (v := x3 + 1) (l' := [(3, .int (x3 + 1)), (0, .ref 76), (1, .ref 318), (2, .ref 319)]) dX10_setsBack_30 (List.Mem.tail _ (List.Mem.tail _ (List.Mem.tail _ (List.Mem.head _)))) rfl (by decide) rfl ?_
    refine w_goto (tgt := 2) dX10_setsBack_33 rfl ?_
    exact w_weak (l' := [(0, .ref 76), (1, .ref 318), (2, .ref 319), (3, .int (x3 + 1))]) (by intro q hq; simp only [List.mem_cons, List.not_mem_nil, or_false] at hq ⊢; rcases hq with rfl | rfl | rfl | rfl <;> simp) h
