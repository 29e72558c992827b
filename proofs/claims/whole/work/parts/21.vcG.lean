theorem dX9_feed_0 : decode cX9_feed 0 = .ok (.aload_n 0, 1) := by decide +kernel
theorem dX9_feed_1 : decode cX9_feed 1 = .ok (.getfield 12, 3) := by decide +kernel
theorem dX9_feed_4 : decode cX9_feed 4 = .ok (.getfield 62, 3) := by decide +kernel
theorem dX9_feed_7 : decode cX9_feed 7 = .ok (.bipush 20, 2) := by decide +kernel
theorem dX9_feed_9 : decode cX9_feed 9 = .ok (.iadd, 1) := by decide +kernel
theorem dX9_feed_10 : decode cX9_feed 10 = .ok (.sipush 600, 3) := by decide +kernel
theorem dX9_feed_13 : decode cX9_feed 13 = .ok (.if_icmp .le 5, 3) := by decide +kernel
theorem dX9_feed_16 : decode cX9_feed 16 = .ok (.iconst (-1), 1) := by decide +kernel
theorem dX9_feed_17 : decode cX9_feed 17 = .ok (.ireturn, 1) := by decide +kernel
theorem dX9_feed_18 : decode cX9_feed 18 = .ok (.aload_n 0, 1) := by decide +kernel
theorem dX9_feed_19 : decode cX9_feed 19 = .ok (.getfield 12, 3) := by decide +kernel
theorem dX9_feed_22 : decode cX9_feed 22 = .ok (.iload_n 1, 1) := by decide +kernel
theorem dX9_feed_23 : decode cX9_feed 23 = .ok (.invokevirtual 65, 3) := by decide +kernel
theorem dX9_feed_26 : decode cX9_feed 26 = .ok (.aload_n 0, 1) := by decide +kernel
theorem dX9_feed_27 : decode cX9_feed 27 = .ok (.getfield 12, 3) := by decide +kernel
theorem dX9_feed_30 : decode cX9_feed 30 = .ok (.iload_n 2, 1) := by decide +kernel
theorem dX9_feed_31 : decode cX9_feed 31 = .ok (.invokevirtual 65, 3) := by decide +kernel
theorem dX9_feed_34 : decode cX9_feed 34 = .ok (.aload_n 0, 1) := by decide +kernel
theorem dX9_feed_35 : decode cX9_feed 35 = .ok (.getfield 12, 3) := by decide +kernel
theorem dX9_feed_38 : decode cX9_feed 38 = .ok (.iload_n 3, 1) := by decide +kernel
theorem dX9_feed_39 : decode cX9_feed 39 = .ok (.invokevirtual 65, 3) := by decide +kernel
theorem dX9_feed_42 : decode cX9_feed 42 = .ok (.aload_n 0, 1) := by decide +kernel
theorem dX9_feed_43 : decode cX9_feed 43 = .ok (.getfield 12, 3) := by decide +kernel
theorem dX9_feed_46 : decode cX9_feed 46 = .ok (.iload 4, 2) := by decide +kernel
theorem dX9_feed_48 : decode cX9_feed 48 = .ok (.invokevirtual 65, 3) := by decide +kernel
theorem dX9_feed_51 : decode cX9_feed 51 = .ok (.aload_n 0, 1) := by decide +kernel
theorem dX9_feed_52 : decode cX9_feed 52 = .ok (.getfield 12, 3) := by decide +kernel
theorem dX9_feed_55 : decode cX9_feed 55 = .ok (.iload 5, 2) := by decide +kernel
theorem dX9_feed_57 : decode cX9_feed 57 = .ok (.invokevirtual 65, 3) := by decide +kernel
theorem dX9_feed_60 : decode cX9_feed 60 = .ok (.aload_n 0, 1) := by decide +kernel
theorem dX9_feed_61 : decode cX9_feed 61 = .ok (.getfield 12, 3) := by decide +kernel
theorem dX9_feed_64 : decode cX9_feed 64 = .ok (.getfield 62, 3) := by decide +kernel
theorem dX9_feed_67 : decode cX9_feed 67 = .ok (.ireturn, 1) := by decide +kernel
set_option maxRecDepth 10000 in
theorem v_X9_feed_0 {C : aM → List Value → aH → aO → aH → Prop} {sc : Nat × (Nat → Int32)} {P : aO → aH → Prop} {σ : aH} {u : Nat}  {x1 : Int32} {x2 : Int32} {x3 : Int32} {x4 : Int32} {x5 : Int32} (hG : G σ u) 
    (h : ((((gI σ 1 1) + 20) ≤ 600 → (∃ σ1 : aH, C mX5_append [.ref 1, .int x1] σ (.inl none) σ1 ∧ G σ1 u ∧ (∃ σ4 : aH, C mX5_append [.ref 1, .int x2] σ1 (.inl none) σ4 ∧ G σ4 u ∧ (∃ σ7 : aH, C mX5_append [.ref 1, .int x3] σ4 (.inl none) σ7 ∧ G σ7 u ∧ (∃ σ10 : aH, C mX5_append [.ref 1, .int x4] σ7 (.inl none) σ10 ∧ G σ10 u ∧ (∃ σ13 : aH, C mX5_append [.ref 1, .int x5] σ10 (.inl none) σ13 ∧ G σ13 u ∧ P (.inl (some (.int (gI σ13 1 1)))) σ13)))))) ∧ (¬ (((gI σ 1 1) + 20) ≤ 600) → P (.inl (some (.int (-1)))) σ))) :
    wp C 9 cX9_feed 6 (some .int) false [] sc P 0 [(0, .ref 0), (1, .int x1), (2, .int x2), (3, .int x3), (4, .int x4), (5, .int x5)] [] σ := by
  refine w_aload_n dX9_feed_0 rfl (List.Mem.head _) ?_
  refine w_getR (ci := 9) (k := 0) (b := 1) dX9_feed_1 fl_9_12 (by decide) (gT hG rfl (lt_of rfl)) (gR hG (b := 1) rfl) ?_
  refine w_getI (ci := 5) (k := 1) dX9_feed_4 fl_9_62 (by decide) (gT hG rfl (lt_of rfl)) ?_
  refine w_bipush (v := 20) dX9_feed_7 (by decide) ?_
  refine w_iadd dX9_feed_9 ?_
  refine w_sipush (v := 600) dX9_feed_10 (by decide) ?_
  refine w_icmp_le (tgt := 18) dX9_feed_13 rfl (fun c9 => ?_) (fun c9 => ?_)
  · replace h := h.1 c9
    refine w_aload_n dX9_feed_18 rfl (List.Mem.head _) ?_
    refine w_getR (ci := 9) (k := 0) (b := 1) dX9_feed_19 fl_9_12 (by decide) (gT hG rfl (lt_of rfl)) (gR hG (b := 1) rfl) ?_
    refine w_iload_n dX9_feed_22 rfl (List.Mem.tail _ (List.Mem.head _)) ?_
    obtain ⟨σ1, hc3, hG2, h⟩ := h
    refine w_callV dX9_feed_23 ml_9_65 ⟨ok_X5_append, vi_X5_append⟩ hs_X5_append (As := [.int x1]) rfl rfl (gT hG rfl (lt_of rfl)) (Nat.le_of_ble_eq_true rfl) hc3 ?_
    show wp C 9 cX9_feed 6 (some .int) false [] sc P 26 [(0, .ref 0), (1, .int x1), (2, .int x2), (3, .int x3), (4, .int x4), (5, .int x5)] [] σ1
    refine w_aload_n dX9_feed_26 rfl (List.Mem.head _) ?_
    refine w_getR (ci := 9) (k := 0) (b := 1) dX9_feed_27 fl_9_12 (by decide) (gT hG2 rfl (lt_of rfl)) (gR hG2 (b := 1) rfl) ?_
    refine w_iload_n dX9_feed_30 rfl (List.Mem.tail _ (List.Mem.tail _ (List.Mem.head _))) ?_
    obtain ⟨σ4, hc6, hG5, h⟩ := h
    refine w_callV dX9_feed_31 ml_9_65 ⟨ok_X5_append, vi_X5_append⟩ hs_X5_append (As := [.int x2]) rfl rfl (gT hG2 rfl (lt_of rfl)) (Nat.le_of_ble_eq_true rfl) hc6 ?_
    show wp C 9 cX9_feed 6 (some .int) false [] sc P 34 [(0, .ref 0), (1, .int x1), (2, .int x2), (3, .int x3), (4, .int x4), (5, .int x5)] [] σ4
    refine w_aload_n dX9_feed_34 rfl (List.Mem.head _) ?_
    refine w_getR (ci := 9) (k := 0) (b := 1) dX9_feed_35 fl_9_12 (by decide) (gT hG5 rfl (lt_of rfl)) (gR hG5 (b := 1) rfl) ?_
    refine w_iload_n dX9_feed_38 rfl (List.Mem.tail _ (List.Mem.tail _ (List.Mem.tail _ (List.Mem.head _)))) ?_
    obtain ⟨σ7, hc9, hG8, h⟩ := h
    refine w_callV dX9_feed_39 ml_9_65 ⟨ok_X5_append, vi_X5_append⟩ hs_X5_append (As := [.int x3]) rfl rfl (gT hG5 rfl (lt_of rfl)) (Nat.le_of_ble_eq_true rfl) hc9 ?_
    show wp C 9 cX9_feed 6 (some .int) false [] sc P 42 [(0, .ref 0), (1, .int x1), (2, .int x2), (3, .int x3), (4, .int x4), (5, .int x5)] [] σ7
    refine w_aload_n dX9_feed_42 rfl (List.Mem.head _) ?_
    refine w_getR (ci := 9) (k := 0) (b := 1) dX9_feed_43 fl_9_12 (by decide) (gT hG8 rfl (lt_of rfl)) (gR hG8 (b := 1) rfl) ?_
    refine w_iload dX9_feed_46 (List.Mem.tail _ (List.Mem.tail _ (List.Mem.tail _ (List.Mem.tail _ (List.Mem.head _))))) ?_
    obtain ⟨σ10, hc12, hG11, h⟩ := h
    refine w_callV dX9_feed_48 ml_9_65 ⟨ok_X5_append, vi_X5_append⟩ hs_X5_append (As := [.int x4]) rfl rfl (gT hG8 rfl (lt_of rfl)) (Nat.le_of_ble_eq_true rfl) hc12 ?_
    show wp C 9 cX9_feed 6 (some .int) false [] sc P 51 [(0, .ref 0), (1, .int x1), (2, .int x2), (3, .int x3), (4, .int x4), (5, .int x5)] [] σ10
    refine w_aload_n dX9_feed_51 rfl (List.Mem.head _) ?_
    refine w_getR (ci := 9) (k := 0) (b := 1) dX9_feed_52 fl_9_12 (by decide) (gT hG11 rfl (lt_of rfl)) (gR hG11 (b := 1) rfl) ?_
    refine w_iload dX9_feed_55 (List.Mem.tail _ (List.Mem.tail _ (List.Mem.tail _ (List.Mem.tail _ (List.Mem.tail _ (List.Mem.head _)))))) ?_
    obtain ⟨σ13, hc15, hG14, h⟩ := h
    refine w_callV dX9_feed_57 ml_9_65 ⟨ok_X5_append, vi_X5_append⟩ hs_X5_append (As := [.int x5]) rfl rfl (gT hG11 rfl (lt_of rfl)) (Nat.le_of_ble_eq_true rfl) hc15 ?_
    show wp C 9 cX9_feed 6 (some .int) false [] sc P 60 [(0, .ref 0), (1, .int x1), (2, .int x2), (3, .int x3), (4, .int x4), (5, .int x5)] [] σ13
    refine w_aload_n dX9_feed_60 rfl (List.Mem.head _) ?_
    refine w_getR (ci := 9) (k := 0) (b := 1) dX9_feed_61 fl_9_12 (by decide) (gT hG14 rfl (lt_of rfl)) (gR hG14 (b := 1) rfl) ?_
    refine w_getI (ci := 5) (k := 1) dX9_feed_64 fl_9_62 (by decide) (gT hG14 rfl (lt_of rfl)) ?_
    exact w_iret dX9_feed_67 rfl h
  · replace h := h.2 c9
    refine w_iconst (v := (-1)) dX9_feed_16 (by decide) ?_
    exact w_iret dX9_feed_17 rfl h
theorem dX9_fault_0 : decode cX9_fault 0 = .ok (.aload_n 0, 1) := by decide +kernel
theorem dX9_fault_1 : decode cX9_fault 1 = .ok (.getfield 12, 3) := by decide +kernel
theorem dX9_fault_4 : decode cX9_fault 4 = .ok (.getfield 94, 3) := by decide +kernel
theorem dX9_fault_7 : decode cX9_fault 7 = .ok (.ireturn, 1) := by decide +kernel
set_option maxRecDepth 10000 in
theorem v_X9_fault_0 {C : aM → List Value → aH → aO → aH → Prop} {sc : Nat × (Nat → Int32)} {P : aO → aH → Prop} {σ : aH} {u : Nat}   (hG : G σ u) 
    (h : P (.inl (some (.int (gI σ 1 5)))) σ) :
    wp C 9 cX9_fault 1 (some .int) false [] sc P 0 [(0, .ref 0)] [] σ := by
  refine w_aload_n dX9_fault_0 rfl (List.Mem.head _) ?_
  refine w_getR (ci := 9) (k := 0) (b := 1) dX9_fault_1 fl_9_12 (by decide) (gT hG rfl (lt_of rfl)) (gR hG (b := 1) rfl) ?_
  refine w_getI (ci := 5) (k := 5) dX9_fault_4 fl_9_94 (by decide) (gT hG rfl (lt_of rfl)) ?_
  exact w_iret dX9_fault_7 rfl h
theorem dX9_told_0 : decode cX9_told 0 = .ok (.aload_n 0, 1) := by decide +kernel
theorem dX9_told_1 : decode cX9_told 1 = .ok (.iload_n 1, 1) := by decide +kernel
theorem dX9_told_2 : decode cX9_told 2 = .ok (.ifCond .lt 13, 3) := by decide +kernel
theorem dX9_told_5 : decode cX9_told 5 = .ok (.iload_n 1, 1) := by decide +kernel
theorem dX9_told_6 : decode cX9_told 6 = .ok (.bipush 7, 2) := by decide +kernel
theorem dX9_told_8 : decode cX9_told 8 = .ok (.if_icmp .gt 7, 3) := by decide +kernel
theorem dX9_told_11 : decode cX9_told 11 = .ok (.iconst 1, 1) := by decide +kernel
theorem dX9_told_12 : decode cX9_told 12 = .ok (.goto 4, 3) := by decide +kernel
theorem dX9_told_15 : decode cX9_told 15 = .ok (.iconst 0, 1) := by decide +kernel
theorem dX9_told_16 : decode cX9_told 16 = .ok (.invokevirtual 69, 3) := by decide +kernel
theorem dX9_told_19 : decode cX9_told 19 = .ok (.iload_n 1, 1) := by decide +kernel
theorem dX9_told_20 : decode cX9_told 20 = .ok (.tableswitch 103 0 6 #[44, 52, 60, 71, 79, 87, 95], 44) := by decide +kernel
theorem dX9_told_64 : decode cX9_told 64 = .ok (.aload_n 0, 1) := by decide +kernel
theorem dX9_told_65 : decode cX9_told 65 = .ok (.getfield 48, 3) := by decide +kernel
theorem dX9_told_68 : decode cX9_told 68 = .ok (.getfield 97, 3) := by decide +kernel
theorem dX9_told_71 : decode cX9_told 71 = .ok (.ireturn, 1) := by decide +kernel
theorem dX9_told_72 : decode cX9_told 72 = .ok (.aload_n 0, 1) := by decide +kernel
theorem dX9_told_73 : decode cX9_told 73 = .ok (.getfield 48, 3) := by decide +kernel
theorem dX9_told_76 : decode cX9_told 76 = .ok (.getfield 100, 3) := by decide +kernel
theorem dX9_told_79 : decode cX9_told 79 = .ok (.ireturn, 1) := by decide +kernel
theorem dX9_told_80 : decode cX9_told 80 = .ok (.aload_n 0, 1) := by decide +kernel
theorem dX9_told_81 : decode cX9_told 81 = .ok (.getfield 48, 3) := by decide +kernel
theorem dX9_told_84 : decode cX9_told 84 = .ok (.getfield 87, 3) := by decide +kernel
theorem dX9_told_87 : decode cX9_told 87 = .ok (.getfield 91, 3) := by decide +kernel
theorem dX9_told_90 : decode cX9_told 90 = .ok (.ireturn, 1) := by decide +kernel
theorem dX9_told_91 : decode cX9_told 91 = .ok (.aload_n 0, 1) := by decide +kernel
theorem dX9_told_92 : decode cX9_told 92 = .ok (.getfield 48, 3) := by decide +kernel
theorem dX9_told_95 : decode cX9_told 95 = .ok (.getfield 103, 3) := by decide +kernel
theorem dX9_told_98 : decode cX9_told 98 = .ok (.ireturn, 1) := by decide +kernel
theorem dX9_told_99 : decode cX9_told 99 = .ok (.aload_n 0, 1) := by decide +kernel
theorem dX9_told_100 : decode cX9_told 100 = .ok (.getfield 48, 3) := by decide +kernel
theorem dX9_told_103 : decode cX9_told 103 = .ok (.getfield 106, 3) := by decide +kernel
theorem dX9_told_106 : decode cX9_told 106 = .ok (.ireturn, 1) := by decide +kernel
theorem dX9_told_107 : decode cX9_told 107 = .ok (.aload_n 0, 1) := by decide +kernel
theorem dX9_told_108 : decode cX9_told 108 = .ok (.getfield 48, 3) := by decide +kernel
theorem dX9_told_111 : decode cX9_told 111 = .ok (.getfield 109, 3) := by decide +kernel
theorem dX9_told_114 : decode cX9_told 114 = .ok (.ireturn, 1) := by decide +kernel
theorem dX9_told_115 : decode cX9_told 115 = .ok (.aload_n 0, 1) := by decide +kernel
theorem dX9_told_116 : decode cX9_told 116 = .ok (.getfield 48, 3) := by decide +kernel
theorem dX9_told_119 : decode cX9_told 119 = .ok (.getfield 112, 3) := by decide +kernel
theorem dX9_told_122 : decode cX9_told 122 = .ok (.ireturn, 1) := by decide +kernel
theorem dX9_told_123 : decode cX9_told 123 = .ok (.aload_n 0, 1) := by decide +kernel
theorem dX9_told_124 : decode cX9_told 124 = .ok (.getfield 48, 3) := by decide +kernel
theorem dX9_told_127 : decode cX9_told 127 = .ok (.getfield 115, 3) := by decide +kernel
theorem dX9_told_130 : decode cX9_told 130 = .ok (.ireturn, 1) := by decide +kernel
set_option maxRecDepth 10000 in
theorem v_X9_told_0 {C : aM → List Value → aH → aO → aH → Prop} {sc : Nat × (Nat → Int32)} {P : aO → aH → Prop} {σ : aH} {u : Nat}  {x1 : Int32} (hG : G σ u) 
    (h : ((x1 < 0 → wp C 9 cX9_told 2 (some .int) false [] sc P 16 [(0, .ref 0), (1, .int x1)] [.int 0, .ref 0] σ) ∧ (¬ (x1 < 0) → ((7 < x1 → wp C 9 cX9_told 2 (some .int) false [] sc P 16 [(0, .ref 0), (1, .int x1)] [.int 0, .ref 0] σ) ∧ (¬ (7 < x1) → wp C 9 cX9_told 2 (some .int) false [] sc P 16 [(0, .ref 0), (1, .int x1)] [.int 1, .ref 0] σ))))) :
    wp C 9 cX9_told 2 (some .int) false [] sc P 0 [(0, .ref 0), (1, .int x1)] [] σ := by
  refine w_aload_n dX9_told_0 rfl (List.Mem.head _) ?_
  refine w_iload_n dX9_told_1 rfl (List.Mem.tail _ (List.Mem.head _)) ?_
  refine w_if_lt (tgt := 15) dX9_told_2 rfl (fun c9 => ?_) (fun c9 => ?_)
  · replace h := h.1 c9
    refine w_iconst (v := 0) dX9_told_15 (by decide) ?_
    exact h
  · replace h := h.2 c9
    refine w_iload_n dX9_told_5 rfl (List.Mem.tail _ (List.Mem.head _)) ?_
    refine w_bipush (v := 7) dX9_told_6 (by decide) ?_
    refine w_icmp_gt (tgt := 15) dX9_told_8 rfl (fun c9 => ?_) (fun c9 => ?_)
    · replace h := h.1 c9
      refine w_iconst (v := 0) dX9_told_15 (by decide) ?_
      exact h
    · replace h := h.2 c9
      refine w_iconst (v := 1) dX9_told_11 (by decide) ?_
      refine w_goto (tgt := 16) dX9_told_12 rfl ?_
      exact h
set_option maxRecDepth 10000 in
theorem v_X9_told_16 {C : aM → List Value → aH → aO → aH → Prop} {sc : Nat × (Nat → Int32)} {P : aO → aH → Prop} {σ : aH} {u : Nat}  {s0 : Int32} {x1 : Int32} (hG : G σ u) 
    (h : ((∃ (e9 : Nat) (σ1 : aH), C mX9_require [.ref 0, .int s0] σ (.inr e9) σ1 ∧ P (.inr e9) σ1) ∨ (∃ σ1 : aH, C mX9_require [.ref 0, .int s0] σ (.inl none) σ1 ∧ G σ1 u ∧ (((x1.toInt < 0 ∨ 6 < x1.toInt) → P (.inl (some (.int (gI σ1 u 7)))) σ1) ∧ (x1.toInt = 0 → P (.inl (some (.int (gI σ1 u 3)))) σ1) ∧ (x1.toInt = 1 → P (.inl (some (.int (gI σ1 u 4)))) σ1) ∧ (x1.toInt = 2 → P (.inl (some (.int (gI σ1 (u + 1) 8)))) σ1) ∧ (x1.toInt = 3 → P (.inl (some (.int (gI σ1 u 8)))) σ1) ∧ (x1.toInt = 4 → P (.inl (some (.int (gI σ1 u 9)))) σ1) ∧ (x1.toInt = 5 → P (.inl (some (.int (gI σ1 u 5)))) σ1) ∧ (x1.toInt = 6 → P (.inl (some (.int (gI σ1 u 6)))) σ1))))) :
    wp C 9 cX9_told 2 (some .int) false [] sc P 16 [(0, .ref 0), (1, .int x1)] [.int s0, .ref 0] σ := by
  rcases h with h | h
  · obtain ⟨e9, σ1, hc3, h⟩ := h
    exact w_throwV dX9_told_16 mp_9_69 ⟨ok_X9_require, vi_X9_require⟩ hs_X9_require (As := [.int s0]) rfl rfl (gT hG rfl (lt_of rfl)) (Nat.le_of_ble_eq_true rfl) hc3 rfl h
  · obtain ⟨σ1, hc3, hG2, h⟩ := h
    refine w_callV dX9_told_16 ml_9_69 ⟨ok_X9_require, vi_X9_require⟩ hs_X9_require (As := [.int s0]) rfl rfl (gT hG rfl (lt_of rfl)) (Nat.le_of_ble_eq_true rfl) hc3 ?_
    show wp C 9 cX9_told 2 (some .int) false [] sc P 19 [(0, .ref 0), (1, .int x1)] [] σ1
    refine w_iload_n dX9_told_19 rfl (List.Mem.tail _ (List.Mem.head _)) ?_
    rcases sw_cases x1 0 6 with hx | hx
    · refine w_tabOut (tgt := 123) dX9_told_20 hx rfl ?_
      replace h := h.1 hx
      refine w_aload_n dX9_told_123 rfl (List.Mem.head _) ?_
      refine w_getM (ci := 9) (k := 5) (b := u) dX9_told_124 fl_9_48 (by decide) (gT hG2 rfl (lt_of rfl)) hG2.2.2.1 ?_
      refine w_getI (ci := 2) (k := 7) dX9_told_127 fl_9_115 (by decide) (gT hG2 (IsMk_t0 hG.2.2.2.2) (IsMk_lt hG.2.2.2.2 (k := 0) (by decide))) ?_
      exact w_iret dX9_told_130 rfl h
    · replace h := h.2
      by_cases hz0 : x1.toInt = 0
      · refine w_tabIn (off := 44) (tgt := 64) dX9_told_20 (by omega) (by omega) (by rw [hz0]; rfl) rfl ?_
        replace h := h.1 hz0
        refine w_aload_n dX9_told_64 rfl (List.Mem.head _) ?_
        refine w_getM (ci := 9) (k := 5) (b := u) dX9_told_65 fl_9_48 (by decide) (gT hG2 rfl (lt_of rfl)) hG2.2.2.1 ?_
        refine w_getI (ci := 2) (k := 3) dX9_told_68 fl_9_97 (by decide) (gT hG2 (IsMk_t0 hG.2.2.2.2) (IsMk_lt hG.2.2.2.2 (k := 0) (by decide))) ?_
        exact w_iret dX9_told_71 rfl h
      by_cases hz1 : x1.toInt = 1
      · refine w_tabIn (off := 52) (tgt := 72) dX9_told_20 (by omega) (by omega) (by rw [hz1]; rfl) rfl ?_
        replace h := h.2.1 hz1
        refine w_aload_n dX9_told_72 rfl (List.Mem.head _) ?_
        refine w_getM (ci := 9) (k := 5) (b := u) dX9_told_73 fl_9_48 (by decide) (gT hG2 rfl (lt_of rfl)) hG2.2.2.1 ?_
        refine w_getI (ci := 2) (k := 4) dX9_told_76 fl_9_100 (by decide) (gT hG2 (IsMk_t0 hG.2.2.2.2) (IsMk_lt hG.2.2.2.2 (k := 0) (by decide))) ?_
        exact w_iret dX9_told_79 rfl h
      by_cases hz2 : x1.toInt = 2
      · refine w_tabIn (off := 60) (tgt := 80) dX9_told_20 (by omega) (by omega) (by rw [hz2]; rfl) rfl ?_
        replace h := h.2.2.1 hz2
        refine w_aload_n dX9_told_80 rfl (List.Mem.head _) ?_
        refine w_getM (ci := 9) (k := 5) (b := u) dX9_told_81 fl_9_48 (by decide) (gT hG2 rfl (lt_of rfl)) hG2.2.2.1 ?_
        refine w_getR (ci := 2) (k := 0) (b := (u + 1)) dX9_told_84 fl_9_87 (by decide) (gT hG2 (IsMk_t0 hG.2.2.2.2) (IsMk_lt hG.2.2.2.2 (k := 0) (by decide))) (gR hG2 (IsMk_r0_0 hG.2.2.2.2)) ?_
        refine w_getI (ci := 7) (k := 8) dX9_told_87 fl_9_91 (by decide) (gT hG2 (IsMk_t1 hG.2.2.2.2) (IsMk_lt hG.2.2.2.2 (k := 1) (by decide))) ?_
        exact w_iret dX9_told_90 rfl h
      by_cases hz3 : x1.toInt = 3
      · refine w_tabIn (off := 71) (tgt := 91) dX9_told_20 (by omega) (by omega) (by rw [hz3]; rfl) rfl ?_
        replace h := h.2.2.2.1 hz3
        refine w_aload_n dX9_told_91 rfl (List.Mem.head _) ?_
        refine w_getM (ci := 9) (k := 5) (b := u) dX9_told_92 fl_9_48 (by decide) (gT hG2 rfl (lt_of rfl)) hG2.2.2.1 ?_
        refine w_getI (ci := 2) (k := 8) dX9_told_95 fl_9_103 (by decide) (gT hG2 (IsMk_t0 hG.2.2.2.2) (IsMk_lt hG.2.2.2.2 (k := 0) (by decide))) ?_
        exact w_iret dX9_told_98 rfl h
      by_cases hz4 : x1.toInt = 4
      · refine w_tabIn (off := 79) (tgt := 99) dX9_told_20 (by omega) (by omega) (by rw [hz4]; rfl) rfl ?_
        replace h := h.2.2.2.2.1 hz4
        refine w_aload_n dX9_told_99 rfl (List.Mem.head _) ?_
        refine w_getM (ci := 9) (k := 5) (b := u) dX9_told_100 fl_9_48 (by decide) (gT hG2 rfl (lt_of rfl)) hG2.2.2.1 ?_
        refine w_getI (ci := 2) (k := 9) dX9_told_103 fl_9_106 (by decide) (gT hG2 (IsMk_t0 hG.2.2.2.2) (IsMk_lt hG.2.2.2.2 (k := 0) (by decide))) ?_
        exact w_iret dX9_told_106 rfl h
      by_cases hz5 : x1.toInt = 5
      · refine w_tabIn (off := 87) (tgt := 107) dX9_told_20 (by omega) (by omega) (by rw [hz5]; rfl) rfl ?_
        replace h := h.2.2.2.2.2.1 hz5
        refine w_aload_n dX9_told_107 rfl (List.Mem.head _) ?_
        refine w_getM (ci := 9) (k := 5) (b := u) dX9_told_108 fl_9_48 (by decide) (gT hG2 rfl (lt_of rfl)) hG2.2.2.1 ?_
        refine w_getI (ci := 2) (k := 5) dX9_told_111 fl_9_109 (by decide) (gT hG2 (IsMk_t0 hG.2.2.2.2) (IsMk_lt hG.2.2.2.2 (k := 0) (by decide))) ?_
        exact w_iret dX9_told_114 rfl h
      have hz6 : x1.toInt = 6 := by omega
      refine w_tabIn (off := 95) (tgt := 115) dX9_told_20 (by omega) (by omega) (by rw [hz6]; rfl) rfl ?_
      replace h := h.2.2.2.2.2.2 hz6
      refine w_aload_n dX9_told_115 rfl (List.Mem.head _) ?_
      refine w_getM (ci := 9) (k := 5) (b := u) dX9_told_116 fl_9_48 (by decide) (gT hG2 rfl (lt_of rfl)) hG2.2.2.1 ?_
      refine w_getI (ci := 2) (k := 6) dX9_told_119 fl_9_112 (by decide) (gT hG2 (IsMk_t0 hG.2.2.2.2) (IsMk_lt hG.2.2.2.2 (k := 0) (by decide))) ?_
      exact w_iret dX9_told_122 rfl h
theorem dX9_stall_0 : decode cX9_stall 0 = .ok (.aload_n 0, 1) := by decide +kernel
theorem dX9_stall_1 : decode cX9_stall 1 = .ok (.iload_n 1, 1) := by decide +kernel
theorem dX9_stall_2 : decode cX9_stall 2 = .ok (.invokevirtual 118, 3) := by decide +kernel
theorem dX9_stall_5 : decode cX9_stall 5 = .ok (.aload_n 0, 1) := by decide +kernel
theorem dX9_stall_6 : decode cX9_stall 6 = .ok (.iload_n 2, 1) := by decide +kernel
theorem dX9_stall_7 : decode cX9_stall 7 = .ok (.ifCond .lt 13, 3) := by decide +kernel
theorem dX9_stall_10 : decode cX9_stall 10 = .ok (.iload_n 2, 1) := by decide +kernel
theorem dX9_stall_11 : decode cX9_stall 11 = .ok (.bipush 6, 2) := by decide +kernel
theorem dX9_stall_13 : decode cX9_stall 13 = .ok (.if_icmp .gt 7, 3) := by decide +kernel
theorem dX9_stall_16 : decode cX9_stall 16 = .ok (.iconst 1, 1) := by decide +kernel
theorem dX9_stall_17 : decode cX9_stall 17 = .ok (.goto 4, 3) := by decide +kernel
theorem dX9_stall_20 : decode cX9_stall 20 = .ok (.iconst 0, 1) := by decide +kernel
theorem dX9_stall_21 : decode cX9_stall 21 = .ok (.invokevirtual 69, 3) := by decide +kernel
theorem dX9_stall_24 : decode cX9_stall 24 = .ok (.aload_n 0, 1) := by decide +kernel
theorem dX9_stall_25 : decode cX9_stall 25 = .ok (.getfield 48, 3) := by decide +kernel
theorem dX9_stall_28 : decode cX9_stall 28 = .ok (.getfield 87, 3) := by decide +kernel
theorem dX9_stall_31 : decode cX9_stall 31 = .ok (.astore_n 3, 1) := by decide +kernel
theorem dX9_stall_32 : decode cX9_stall 32 = .ok (.iload_n 2, 1) := by decide +kernel
theorem dX9_stall_33 : decode cX9_stall 33 = .ok (.tableswitch 81 0 5 #[39, 46, 53, 60, 67, 74], 39) := by decide +kernel
theorem dX9_stall_72 : decode cX9_stall 72 = .ok (.aload_n 3, 1) := by decide +kernel
theorem dX9_stall_73 : decode cX9_stall 73 = .ok (.getfield 121, 3) := by decide +kernel
theorem dX9_stall_76 : decode cX9_stall 76 = .ok (.iload_n 1, 1) := by decide +kernel
theorem dX9_stall_77 : decode cX9_stall 77 = .ok (.iaload, 1) := by decide +kernel
theorem dX9_stall_78 : decode cX9_stall 78 = .ok (.ireturn, 1) := by decide +kernel
theorem dX9_stall_79 : decode cX9_stall 79 = .ok (.aload_n 3, 1) := by decide +kernel
theorem dX9_stall_80 : decode cX9_stall 80 = .ok (.getfield 125, 3) := by decide +kernel
theorem dX9_stall_83 : decode cX9_stall 83 = .ok (.iload_n 1, 1) := by decide +kernel
theorem dX9_stall_84 : decode cX9_stall 84 = .ok (.iaload, 1) := by decide +kernel
theorem dX9_stall_85 : decode cX9_stall 85 = .ok (.ireturn, 1) := by decide +kernel
theorem dX9_stall_86 : decode cX9_stall 86 = .ok (.aload_n 3, 1) := by decide +kernel
theorem dX9_stall_87 : decode cX9_stall 87 = .ok (.getfield 128, 3) := by decide +kernel
theorem dX9_stall_90 : decode cX9_stall 90 = .ok (.iload_n 1, 1) := by decide +kernel
theorem dX9_stall_91 : decode cX9_stall 91 = .ok (.iaload, 1) := by decide +kernel
theorem dX9_stall_92 : decode cX9_stall 92 = .ok (.ireturn, 1) := by decide +kernel
theorem dX9_stall_93 : decode cX9_stall 93 = .ok (.aload_n 3, 1) := by decide +kernel
theorem dX9_stall_94 : decode cX9_stall 94 = .ok (.getfield 131, 3) := by decide +kernel
theorem dX9_stall_97 : decode cX9_stall 97 = .ok (.iload_n 1, 1) := by decide +kernel
theorem dX9_stall_98 : decode cX9_stall 98 = .ok (.iaload, 1) := by decide +kernel
theorem dX9_stall_99 : decode cX9_stall 99 = .ok (.ireturn, 1) := by decide +kernel
theorem dX9_stall_100 : decode cX9_stall 100 = .ok (.aload_n 3, 1) := by decide +kernel
theorem dX9_stall_101 : decode cX9_stall 101 = .ok (.getfield 134, 3) := by decide +kernel
theorem dX9_stall_104 : decode cX9_stall 104 = .ok (.iload_n 1, 1) := by decide +kernel
theorem dX9_stall_105 : decode cX9_stall 105 = .ok (.iaload, 1) := by decide +kernel
theorem dX9_stall_106 : decode cX9_stall 106 = .ok (.ireturn, 1) := by decide +kernel
theorem dX9_stall_107 : decode cX9_stall 107 = .ok (.aload_n 3, 1) := by decide +kernel
theorem dX9_stall_108 : decode cX9_stall 108 = .ok (.getfield 137, 3) := by decide +kernel
theorem dX9_stall_111 : decode cX9_stall 111 = .ok (.iload_n 1, 1) := by decide +kernel
theorem dX9_stall_112 : decode cX9_stall 112 = .ok (.iaload, 1) := by decide +kernel
theorem dX9_stall_113 : decode cX9_stall 113 = .ok (.ireturn, 1) := by decide +kernel
theorem dX9_stall_114 : decode cX9_stall 114 = .ok (.aload_n 3, 1) := by decide +kernel
theorem dX9_stall_115 : decode cX9_stall 115 = .ok (.getfield 140, 3) := by decide +kernel
theorem dX9_stall_118 : decode cX9_stall 118 = .ok (.iload_n 1, 1) := by decide +kernel
theorem dX9_stall_119 : decode cX9_stall 119 = .ok (.iaload, 1) := by decide +kernel
theorem dX9_stall_120 : decode cX9_stall 120 = .ok (.ireturn, 1) := by decide +kernel
set_option maxRecDepth 10000 in
theorem v_X9_stall_0 {C : aM → List Value → aH → aO → aH → Prop} {sc : Nat × (Nat → Int32)} {P : aO → aH → Prop} {σ : aH} {u : Nat}  {x1 : Int32} {x2 : Int32} (hG : G σ u) 
    (h : ((∃ (e9 : Nat) (σ1 : aH), C mX9_requireStall [.ref 0, .int x1] σ (.inr e9) σ1 ∧ P (.inr e9) σ1) ∨ (∃ σ1 : aH, C mX9_requireStall [.ref 0, .int x1] σ (.inl none) σ1 ∧ G σ1 u ∧ ((x2 < 0 → wp C 9 cX9_stall 4 (some .int) false [] sc P 21 [(0, .ref 0), (1, .int x1), (2, .int x2)] [.int 0, .ref 0] σ1) ∧ (¬ (x2 < 0) → ((6 < x2 → wp C 9 cX9_stall 4 (some .int) false [] sc P 21 [(0, .ref 0), (1, .int x1), (2, .int x2)] [.int 0, .ref 0] σ1) ∧ (¬ (6 < x2) → wp C 9 cX9_stall 4 (some .int) false [] sc P 21 [(0, .ref 0), (1, .int x1), (2, .int x2)] [.int 1, .ref 0] σ1))))))) :
    wp C 9 cX9_stall 4 (some .int) false [] sc P 0 [(0, .ref 0), (1, .int x1), (2, .int x2)] [] σ := by
  refine w_aload_n dX9_stall_0 rfl (List.Mem.head _) ?_
  refine w_iload_n dX9_stall_1 rfl (List.Mem.tail _ (List.Mem.head _)) ?_
  rcases h with h | h
  · obtain ⟨e9, σ1, hc3, h⟩ := h
    exact w_throwV dX9_stall_2 mp_9_118 ⟨ok_X9_requireStall, vi_X9_requireStall⟩ hs_X9_requireStall (As := [.int x1]) rfl rfl (gT hG rfl (lt_of rfl)) (Nat.le_of_ble_eq_true rfl) hc3 rfl h
  · obtain ⟨σ1, hc3, hG2, h⟩ := h
    refine w_callV dX9_stall_2 ml_9_118 ⟨ok_X9_requireStall, vi_X9_requireStall⟩ hs_X9_requireStall (As := [.int x1]) rfl rfl (gT hG rfl (lt_of rfl)) (Nat.le_of_ble_eq_true rfl) hc3 ?_
    show wp C 9 cX9_stall 4 (some .int) false [] sc P 5 [(0, .ref 0), (1, .int x1), (2, .int x2)] [] σ1
    refine w_aload_n dX9_stall_5 rfl (List.Mem.head _) ?_
    refine w_iload_n dX9_stall_6 rfl (List.Mem.tail _ (List.Mem.tail _ (List.Mem.head _))) ?_
    refine w_if_lt (tgt := 20) dX9_stall_7 rfl (fun c9 => ?_) (fun c9 => ?_)
    · replace h := h.1 c9
      refine w_iconst (v := 0) dX9_stall_20 (by decide) ?_
      exact h
    · replace h := h.2 c9
      refine w_iload_n dX9_stall_10 rfl (List.Mem.tail _ (List.Mem.tail _ (List.Mem.head _))) ?_
      refine w_bipush (v := 6) dX9_stall_11 (by decide) ?_
      refine w_icmp_gt (tgt := 20) dX9_stall_13 rfl (fun c9 => ?_) (fun c9 => ?_)
      · replace h := h.1 c9
        refine w_iconst (v := 0) dX9_stall_20 (by decide) ?_
        exact h
      · replace h := h.2 c9
        refine w_iconst (v := 1) dX9_stall_16 (by decide) ?_
        refine w_goto (tgt := 21) dX9_stall_17 rfl ?_
        exact h
set_option maxRecDepth 10000 in
theorem v_X9_stall_21 {C : aM → List Value → aH → aO → aH → Prop} {sc : Nat × (Nat → Int32)} {P : aO → aH → Prop} {σ : aH} {u : Nat}  {s0 : Int32} {x1 : Int32} {x2 : Int32} (hG : G σ u) 
    (h : ((∃ (e9 : Nat) (σ1 : aH), C mX9_require [.ref 0, .int s0] σ (.inr e9) σ1 ∧ P (.inr e9) σ1) ∨ (∃ σ1 : aH, C mX9_require [.ref 0, .int s0] σ (.inl none) σ1 ∧ G σ1 u ∧ (((x2.toInt < 0 ∨ 5 < x2.toInt) → (vp_in x1 9 ∧ P (.inl (some (.int (gI σ1 (u + 8) x1.toNatClampNeg)))) σ1)) ∧ (x2.toInt = 0 → (vp_in x1 9 ∧ P (.inl (some (.int (gI σ1 (u + 2) x1.toNatClampNeg)))) σ1)) ∧ (x2.toInt = 1 → (vp_in x1 9 ∧ P (.inl (some (.int (gI σ1 (u + 3) x1.toNatClampNeg)))) σ1)) ∧ (x2.toInt = 2 → (vp_in x1 9 ∧ P (.inl (some (.int (gI σ1 (u + 4) x1.toNatClampNeg)))) σ1)) ∧ (x2.toInt = 3 → (vp_in x1 9 ∧ P (.inl (some (.int (gI σ1 (u + 5) x1.toNatClampNeg)))) σ1)) ∧ (x2.toInt = 4 → (vp_in x1 9 ∧ P (.inl (some (.int (gI σ1 (u + 6) x1.toNatClampNeg)))) σ1)) ∧ (x2.toInt = 5 → (vp_in x1 9 ∧ P (.inl (some (.int (gI σ1 (u + 7) x1.toNatClampNeg)))) σ1)))))) :
    wp C 9 cX9_stall 4 (some .int) false [] sc P 21 [(0, .ref 0), (1, .int x1), (2, .int x2)] [.int s0, .ref 0] σ := by
  rcases h with h | h
  · obtain ⟨e9, σ1, hc3, h⟩ := h
    exact w_throwV dX9_stall_21 mp_9_69 ⟨ok_X9_require, vi_X9_require⟩ hs_X9_require (As := [.int s0]) rfl rfl (gT hG rfl (lt_of rfl)) (Nat.le_of_ble_eq_true rfl) hc3 rfl h
  · obtain ⟨σ1, hc3, hG2, h⟩ := h
    refine w_callV dX9_stall_21 ml_9_69 ⟨ok_X9_require, vi_X9_require⟩ hs_X9_require (As := [.int s0]) rfl rfl (gT hG rfl (lt_of rfl)) (Nat.le_of_ble_eq_true rfl) hc3 ?_
    show wp C 9 cX9_stall 4 (some .int) false [] sc P 24 [(0, .ref 0), (1, .int x1), (2, .int x2)] [] σ1
    refine w_aload_n dX9_stall_24 rfl (List.Mem.head _) ?_
    refine w_getM (ci := 9) (k := 5) (b := u) dX9_stall_25 fl_9_48 (by decide) (gT hG2 rfl (lt_of rfl)) hG2.2.2.1 ?_
    refine w_getR (ci := 2) (k := 0) (b := (u + 1)) dX9_stall_28 fl_9_87 (by decide) (gT hG2 (IsMk_t0 hG.2.2.2.2) (IsMk_lt hG.2.2.2.2 (k := 0) (by decide))) (gR hG2 (IsMk_r0_0 hG.2.2.2.2)) ?_
    refine w_astore_n (l' := [(3, .ref (u + 1)), (0, .ref 0), (1, .int x1), (2, .int x2)]) dX9_stall_31 rfl (by decide) rfl ?_
    refine w_iload_n dX9_stall_32 rfl (List.Mem.tail _ (List.Mem.tail _ (List.Mem.tail _ (List.Mem.head _)))) ?_
    rcases sw_cases x2 0 5 with hx | hx
    · refine w_tabOut (tgt := 114) dX9_stall_33 hx rfl ?_
      replace h := h.1 hx
      refine w_aload_n dX9_stall_114 rfl (List.Mem.head _) ?_
      refine w_getR (ci := 7) (k := 6) (b := (u + 8)) dX9_stall_115 fl_9_140 (by decide) (gT hG2 (IsMk_t1 hG.2.2.2.2) (IsMk_lt hG.2.2.2.2 (k := 1) (by decide))) (gR hG2 (IsMk_r1_6 hG.2.2.2.2)) ?_
      refine w_iload_n dX9_stall_118 rfl (List.Mem.tail _ (List.Mem.tail _ (List.Mem.head _))) ?_
      obtain ⟨h9, h⟩ := h
      refine x_iald (n := 9) x1.toNatClampNeg dX9_stall_119 (gT hG2 (IsMk_t8 hG.2.2.2.2) (IsMk_lt hG.2.2.2.2 (k := 8) (by decide))) (gL hG2 (IsMk_n8 hG.2.2.2.2)) h9 rfl ?_
      exact w_iret dX9_stall_120 rfl h
    · replace h := h.2
      by_cases hz0 : x2.toInt = 0
      · refine w_tabIn (off := 39) (tgt := 72) dX9_stall_33 (by omega) (by omega) (by rw [hz0]; rfl) rfl ?_
        replace h := h.1 hz0
        refine w_aload_n dX9_stall_72 rfl (List.Mem.head _) ?_
        refine w_getR (ci := 7) (k := 0) (b := (u + 2)) dX9_stall_73 fl_9_121 (by decide) (gT hG2 (IsMk_t1 hG.2.2.2.2) (IsMk_lt hG.2.2.2.2 (k := 1) (by decide))) (gR hG2 (IsMk_r1_0 hG.2.2.2.2)) ?_
        refine w_iload_n dX9_stall_76 rfl (List.Mem.tail _ (List.Mem.tail _ (List.Mem.head _))) ?_
        obtain ⟨h9, h⟩ := h
        refine x_iald (n := 9) x1.toNatClampNeg dX9_stall_77 (gT hG2 (IsMk_t2 hG.2.2.2.2) (IsMk_lt hG.2.2.2.2 (k := 2) (by decide))) (gL hG2 (IsMk_n2 hG.2.2.2.2)) h9 rfl ?_
        exact w_iret dX9_stall_78 rfl h
      by_cases hz1 : x2.toInt = 1
      · refine w_tabIn (off := 46) (tgt := 79) dX9_stall_33 (by omega) (by omega) (by rw [hz1]; rfl) rfl ?_
        replace h := h.2.1 hz1
        refine w_aload_n dX9_stall_79 rfl (List.Mem.head _) ?_
        refine w_getR (ci := 7) (k := 1) (b := (u + 3)) dX9_stall_80 fl_9_125 (by decide) (gT hG2 (IsMk_t1 hG.2.2.2.2) (IsMk_lt hG.2.2.2.2 (k := 1) (by decide))) (gR hG2 (IsMk_r1_1 hG.2.2.2.2)) ?_
        refine w_iload_n dX9_stall_83 rfl (List.Mem.tail _ (List.Mem.tail _ (List.Mem.head _))) ?_
        obtain ⟨h9, h⟩ := h
        refine x_iald (n := 9) x1.toNatClampNeg dX9_stall_84 (gT hG2 (IsMk_t3 hG.2.2.2.2) (IsMk_lt hG.2.2.2.2 (k := 3) (by decide))) (gL hG2 (IsMk_n3 hG.2.2.2.2)) h9 rfl ?_
        exact w_iret dX9_stall_85 rfl h
      by_cases hz2 : x2.toInt = 2
      · refine w_tabIn (off := 53) (tgt := 86) dX9_stall_33 (by omega) (by omega) (by rw [hz2]; rfl) rfl ?_
        replace h := h.2.2.1 hz2
        refine w_aload_n dX9_stall_86 rfl (List.Mem.head _) ?_
        refine w_getR (ci := 7) (k := 2) (b := (u + 4)) dX9_stall_87 fl_9_128 (by decide) (gT hG2 (IsMk_t1 hG.2.2.2.2) (IsMk_lt hG.2.2.2.2 (k := 1) (by decide))) (gR hG2 (IsMk_r1_2 hG.2.2.2.2)) ?_
        refine w_iload_n dX9_stall_90 rfl (List.Mem.tail _ (List.Mem.tail _ (List.Mem.head _))) ?_
        obtain ⟨h9, h⟩ := h
        refine x_iald (n := 9) x1.toNatClampNeg dX9_stall_91 (gT hG2 (IsMk_t4 hG.2.2.2.2) (IsMk_lt hG.2.2.2.2 (k := 4) (by decide))) (gL hG2 (IsMk_n4 hG.2.2.2.2)) h9 rfl ?_
        exact w_iret dX9_stall_92 rfl h
      by_cases hz3 : x2.toInt = 3
      · refine w_tabIn (off := 60) (tgt := 93) dX9_stall_33 (by omega) (by omega) (by rw [hz3]; rfl) rfl ?_
        replace h := h.2.2.2.1 hz3
        refine w_aload_n dX9_stall_93 rfl (List.Mem.head _) ?_
        refine w_getR (ci := 7) (k := 3) (b := (u + 5)) dX9_stall_94 fl_9_131 (by decide) (gT hG2 (IsMk_t1 hG.2.2.2.2) (IsMk_lt hG.2.2.2.2 (k := 1) (by decide))) (gR hG2 (IsMk_r1_3 hG.2.2.2.2)) ?_
        refine w_iload_n dX9_stall_97 rfl (List.Mem.tail _ (List.Mem.tail _ (List.Mem.head _))) ?_
        obtain ⟨h9, h⟩ := h
        refine x_iald (n := 9) x1.toNatClampNeg dX9_stall_98 (gT hG2 (IsMk_t5 hG.2.2.2.2) (IsMk_lt hG.2.2.2.2 (k := 5) (by decide))) (gL hG2 (IsMk_n5 hG.2.2.2.2)) h9 rfl ?_
        exact w_iret dX9_stall_99 rfl h
      by_cases hz4 : x2.toInt = 4
      · refine w_tabIn (off := 67) (tgt := 100) dX9_stall_33 (by omega) (by omega) (by rw [hz4]; rfl) rfl ?_
        replace h := h.2.2.2.2.1 hz4
        refine w_aload_n dX9_stall_100 rfl (List.Mem.head _) ?_
        refine w_getR (ci := 7) (k := 4) (b := (u + 6)) dX9_stall_101 fl_9_134 (by decide) (gT hG2 (IsMk_t1 hG.2.2.2.2) (IsMk_lt hG.2.2.2.2 (k := 1) (by decide))) (gR hG2 (IsMk_r1_4 hG.2.2.2.2)) ?_
        refine w_iload_n dX9_stall_104 rfl (List.Mem.tail _ (List.Mem.tail _ (List.Mem.head _))) ?_
        obtain ⟨h9, h⟩ := h
        refine x_iald (n := 9) x1.toNatClampNeg dX9_stall_105 (gT hG2 (IsMk_t6 hG.2.2.2.2) (IsMk_lt hG.2.2.2.2 (k := 6) (by decide))) (gL hG2 (IsMk_n6 hG.2.2.2.2)) h9 rfl ?_
        exact w_iret dX9_stall_106 rfl h
      have hz5 : x2.toInt = 5 := by omega
      refine w_tabIn (off := 74) (tgt := 107) dX9_stall_33 (by omega) (by omega) (by rw [hz5]; rfl) rfl ?_
      replace h := h.2.2.2.2.2 hz5
      refine w_aload_n dX9_stall_107 rfl (List.Mem.head _) ?_
      refine w_getR (ci := 7) (k := 5) (b := (u + 7)) dX9_stall_108 fl_9_137 (by decide) (gT hG2 (IsMk_t1 hG.2.2.2.2) (IsMk_lt hG.2.2.2.2 (k := 1) (by decide))) (gR hG2 (IsMk_r1_5 hG.2.2.2.2)) ?_
      refine w_iload_n dX9_stall_111 rfl (List.Mem.tail _ (List.Mem.tail _ (List.Mem.head _))) ?_
      obtain ⟨h9, h⟩ := h
      refine x_iald (n := 9) x1.toNatClampNeg dX9_stall_112 (gT hG2 (IsMk_t7 hG.2.2.2.2) (IsMk_lt hG.2.2.2.2 (k := 7) (by decide))) (gL hG2 (IsMk_n7 hG.2.2.2.2)) h9 rfl ?_
      exact w_iret dX9_stall_113 rfl h
theorem dX9_length_0 : decode cX9_length 0 = .ok (.aload_n 0, 1) := by decide +kernel
theorem dX9_length_1 : decode cX9_length 1 = .ok (.iload_n 1, 1) := by decide +kernel
theorem dX9_length_2 : decode cX9_length 2 = .ok (.invokevirtual 118, 3) := by decide +kernel
theorem dX9_length_5 : decode cX9_length 5 = .ok (.aload_n 0, 1) := by decide +kernel
theorem dX9_length_6 : decode cX9_length 6 = .ok (.iload_n 2, 1) := by decide +kernel
theorem dX9_length_7 : decode cX9_length 7 = .ok (.invokestatic 143, 3) := by decide +kernel
theorem dX9_length_10 : decode cX9_length 10 = .ok (.invokevirtual 69, 3) := by decide +kernel
theorem dX9_length_13 : decode cX9_length 13 = .ok (.aload_n 0, 1) := by decide +kernel
theorem dX9_length_14 : decode cX9_length 14 = .ok (.getfield 41, 3) := by decide +kernel
theorem dX9_length_17 : decode cX9_length 17 = .ok (.iload_n 1, 1) := by decide +kernel
theorem dX9_length_18 : decode cX9_length 18 = .ok (.iload_n 2, 1) := by decide +kernel
theorem dX9_length_19 : decode cX9_length 19 = .ok (.invokevirtual 147, 3) := by decide +kernel
theorem dX9_length_22 : decode cX9_length 22 = .ok (.ireturn, 1) := by decide +kernel
set_option maxRecDepth 10000 in
theorem v_X9_length_0 {C : aM → List Value → aH → aO → aH → Prop} {sc : Nat × (Nat → Int32)} {P : aO → aH → Prop} {σ : aH} {u : Nat}  {x1 : Int32} {x2 : Int32} (hG : G σ u) 
    (h : ((∃ (e9 : Nat) (σ1 : aH), C mX9_requireStall [.ref 0, .int x1] σ (.inr e9) σ1 ∧ P (.inr e9) σ1) ∨ (∃ σ1 : aH, C mX9_requireStall [.ref 0, .int x1] σ (.inl none) σ1 ∧ G σ1 u ∧ (∃ (r7 : Int32) (σ4 : aH), C mX9_isMinute [.int x2] σ1 (.inl (some (.int r7))) σ4 ∧ G σ4 u ∧ ((∃ (e9 : Nat) (σ8 : aH), C mX9_require [.ref 0, .int r7] σ4 (.inr e9) σ8 ∧ P (.inr e9) σ8) ∨ (∃ σ8 : aH, C mX9_require [.ref 0, .int r7] σ4 (.inl none) σ8 ∧ G σ8 u ∧ (∃ (r14 : Int32) (σ11 : aH), C mX6_reach [.ref 27, .int x1, .int x2] σ8 (.inl (some (.int r14))) σ11 ∧ G σ11 u ∧ P (.inl (some (.int r14))) σ11))))))) :
    wp C 9 cX9_length 3 (some .int) false [] sc P 0 [(0, .ref 0), (1, .int x1), (2, .int x2)] [] σ := by
  refine w_aload_n dX9_length_0 rfl (List.Mem.head _) ?_
  refine w_iload_n dX9_length_1 rfl (List.Mem.tail _ (List.Mem.head _)) ?_
  rcases h with h | h
  · obtain ⟨e9, σ1, hc3, h⟩ := h
    exact w_throwV dX9_length_2 mp_9_118 ⟨ok_X9_requireStall, vi_X9_requireStall⟩ hs_X9_requireStall (As := [.int x1]) rfl rfl (gT hG rfl (lt_of rfl)) (Nat.le_of_ble_eq_true rfl) hc3 rfl h
  · obtain ⟨σ1, hc3, hG2, h⟩ := h
    refine w_callV dX9_length_2 ml_9_118 ⟨ok_X9_requireStall, vi_X9_requireStall⟩ hs_X9_requireStall (As := [.int x1]) rfl rfl (gT hG rfl (lt_of rfl)) (Nat.le_of_ble_eq_true rfl) hc3 ?_
    show wp C 9 cX9_length 3 (some .int) false [] sc P 5 [(0, .ref 0), (1, .int x1), (2, .int x2)] [] σ1
    refine w_aload_n dX9_length_5 rfl (List.Mem.head _) ?_
    refine w_iload_n dX9_length_6 rfl (List.Mem.tail _ (List.Mem.tail _ (List.Mem.head _))) ?_
    obtain ⟨r7, σ4, hc6, hG5, h⟩ := h
    refine w_callS dX9_length_7 ml_9_143 ⟨ok_X9_isMinute, st_X9_isMinute⟩ hs_X9_isMinute (As := [.int x2]) rfl rfl (Nat.le_of_ble_eq_true rfl) hc6 ?_
    show wp C 9 cX9_length 3 (some .int) false [] sc P 10 [(0, .ref 0), (1, .int x1), (2, .int x2)] [.int r7, .ref 0] σ4
    rcases h with h | h
    · obtain ⟨e9, σ8, hc10, h⟩ := h
      exact w_throwV dX9_length_10 mp_9_69 ⟨ok_X9_require, vi_X9_require⟩ hs_X9_require (As := [.int r7]) rfl rfl (gT hG5 rfl (lt_of rfl)) (Nat.le_of_ble_eq_true rfl) hc10 rfl h
    · obtain ⟨σ8, hc10, hG9, h⟩ := h
      refine w_callV dX9_length_10 ml_9_69 ⟨ok_X9_require, vi_X9_require⟩ hs_X9_require (As := [.int r7]) rfl rfl (gT hG5 rfl (lt_of rfl)) (Nat.le_of_ble_eq_true rfl) hc10 ?_
      show wp C 9 cX9_length 3 (some .int) false [] sc P 13 [(0, .ref 0), (1, .int x1), (2, .int x2)] [] σ8
      refine w_aload_n dX9_length_13 rfl (List.Mem.head _) ?_
      refine w_getR (ci := 9) (k := 4) (b := 27) dX9_length_14 fl_9_41 (by decide) (gT hG9 rfl (lt_of rfl)) (gR hG9 (b := 27) rfl) ?_
      refine w_iload_n dX9_length_17 rfl (List.Mem.tail _ (List.Mem.head _)) ?_
      refine w_iload_n dX9_length_18 rfl (List.Mem.tail _ (List.Mem.tail _ (List.Mem.head _))) ?_
      obtain ⟨r14, σ11, hc13, hG12, h⟩ := h
      refine w_callV dX9_length_19 ml_9_147 ⟨ok_X6_reach, vi_X6_reach⟩ hs_X6_reach (As := [.int x1, .int x2]) rfl rfl (gT hG9 rfl (lt_of rfl)) (Nat.le_of_ble_eq_true rfl) hc13 ?_
      show wp C 9 cX9_length 3 (some .int) false [] sc P 22 [(0, .ref 0), (1, .int x1), (2, .int x2)] [.int r14] σ11
      exact w_iret dX9_length_22 rfl h
theorem dX9_shades_0 : decode cX9_shades 0 = .ok (.aload_n 0, 1) := by decide +kernel
theorem dX9_shades_1 : decode cX9_shades 1 = .ok (.iload_n 1, 1) := by decide +kernel
theorem dX9_shades_2 : decode cX9_shades 2 = .ok (.iload_n 2, 1) := by decide +kernel
theorem dX9_shades_3 : decode cX9_shades 3 = .ok (.invokevirtual 151, 3) := by decide +kernel
theorem dX9_shades_6 : decode cX9_shades 6 = .ok (.aload_n 0, 1) := by decide +kernel
theorem dX9_shades_7 : decode cX9_shades 7 = .ok (.iload_n 3, 1) := by decide +kernel
theorem dX9_shades_8 : decode cX9_shades 8 = .ok (.invokestatic 143, 3) := by decide +kernel
theorem dX9_shades_11 : decode cX9_shades 11 = .ok (.invokevirtual 69, 3) := by decide +kernel
theorem dX9_shades_14 : decode cX9_shades 14 = .ok (.aload_n 0, 1) := by decide +kernel
theorem dX9_shades_15 : decode cX9_shades 15 = .ok (.getfield 41, 3) := by decide +kernel
theorem dX9_shades_18 : decode cX9_shades 18 = .ok (.iload_n 1, 1) := by decide +kernel
theorem dX9_shades_19 : decode cX9_shades 19 = .ok (.iload_n 2, 1) := by decide +kernel
theorem dX9_shades_20 : decode cX9_shades 20 = .ok (.aload_n 0, 1) := by decide +kernel
theorem dX9_shades_21 : decode cX9_shades 21 = .ok (.getfield 48, 3) := by decide +kernel
theorem dX9_shades_24 : decode cX9_shades 24 = .ok (.iload_n 3, 1) := by decide +kernel
theorem dX9_shades_25 : decode cX9_shades 25 = .ok (.invokevirtual 155, 3) := by decide +kernel
theorem dX9_shades_28 : decode cX9_shades 28 = .ok (.invokevirtual 159, 3) := by decide +kernel
theorem dX9_shades_31 : decode cX9_shades 31 = .ok (.ireturn, 1) := by decide +kernel
set_option maxRecDepth 10000 in
theorem v_X9_shades_0 {C : aM → List Value → aH → aO → aH → Prop} {sc : Nat × (Nat → Int32)} {P : aO → aH → Prop} {σ : aH} {u : Nat}  {x1 : Int32} {x2 : Int32} {x3 : Int32} (hG : G σ u) 
    (h : ((∃ (e9 : Nat) (σ1 : aH), C mX9_requireTwo [.ref 0, .int x1, .int x2] σ (.inr e9) σ1 ∧ P (.inr e9) σ1) ∨ (∃ σ1 : aH, C mX9_requireTwo [.ref 0, .int x1, .int x2] σ (.inl none) σ1 ∧ G σ1 u ∧ (∃ (r7 : Int32) (σ4 : aH), C mX9_isMinute [.int x3] σ1 (.inl (some (.int r7))) σ4 ∧ G σ4 u ∧ ((∃ (e9 : Nat) (σ8 : aH), C mX9_require [.ref 0, .int r7] σ4 (.inr e9) σ8 ∧ P (.inr e9) σ8) ∨ (∃ σ8 : aH, C mX9_require [.ref 0, .int r7] σ4 (.inl none) σ8 ∧ G σ8 u ∧ (∃ (r14 : Int32) (σ11 : aH), C mX2_sunAt [.ref u, .int x3] σ8 (.inl (some (.int r14))) σ11 ∧ G σ11 u ∧ (∃ (r18 : Int32) (σ15 : aH), C mX6_falls [.ref 27, .int x1, .int x2, .int r14] σ11 (.inl (some (.int r18))) σ15 ∧ G σ15 u ∧ ((r18 = 0 ∨ r18 = 1) ∧ P (.inl (some (.int r18))) σ15))))))))) :
    wp C 9 cX9_shades 4 (some .boolean) false [] sc P 0 [(0, .ref 0), (1, .int x1), (2, .int x2), (3, .int x3)] [] σ := by
  refine w_aload_n dX9_shades_0 rfl (List.Mem.head _) ?_
  refine w_iload_n dX9_shades_1 rfl (List.Mem.tail _ (List.Mem.head _)) ?_
  refine w_iload_n dX9_shades_2 rfl (List.Mem.tail _ (List.Mem.tail _ (List.Mem.head _))) ?_
  rcases h with h | h
  · obtain ⟨e9, σ1, hc3, h⟩ := h
    exact w_throwV dX9_shades_3 mp_9_151 ⟨ok_X9_requireTwo, vi_X9_requireTwo⟩ hs_X9_requireTwo (As := [.int x1, .int x2]) rfl rfl (gT hG rfl (lt_of rfl)) (Nat.le_of_ble_eq_true rfl) hc3 rfl h
  · obtain ⟨σ1, hc3, hG2, h⟩ := h
    refine w_callV dX9_shades_3 ml_9_151 ⟨ok_X9_requireTwo, vi_X9_requireTwo⟩ hs_X9_requireTwo (As := [.int x1, .int x2]) rfl rfl (gT hG rfl (lt_of rfl)) (Nat.le_of_ble_eq_true rfl) hc3 ?_
    show wp C 9 cX9_shades 4 (some .boolean) false [] sc P 6 [(0, .ref 0), (1, .int x1), (2, .int x2), (3, .int x3)] [] σ1
    refine w_aload_n dX9_shades_6 rfl (List.Mem.head _) ?_
    refine w_iload_n dX9_shades_7 rfl (List.Mem.tail _ (List.Mem.tail _ (List.Mem.tail _ (List.Mem.head _)))) ?_
    obtain ⟨r7, σ4, hc6, hG5, h⟩ := h
    refine w_callS dX9_shades_8 ml_9_143 ⟨ok_X9_isMinute, st_X9_isMinute⟩ hs_X9_isMinute (As := [.int x3]) rfl rfl (Nat.le_of_ble_eq_true rfl) hc6 ?_
    show wp C 9 cX9_shades 4 (some .boolean) false [] sc P 11 [(0, .ref 0), (1, .int x1), (2, .int x2), (3, .int x3)] [.int r7, .ref 0] σ4
    rcases h with h | h
    · obtain ⟨e9, σ8, hc10, h⟩ := h
      exact w_throwV dX9_shades_11 mp_9_69 ⟨ok_X9_require, vi_X9_require⟩ hs_X9_require (As := [.int r7]) rfl rfl (gT hG5 rfl (lt_of rfl)) (Nat.le_of_ble_eq_true rfl) hc10 rfl h
    · obtain ⟨σ8, hc10, hG9, h⟩ := h
      refine w_callV dX9_shades_11 ml_9_69 ⟨ok_X9_require, vi_X9_require⟩ hs_X9_require (As := [.int r7]) rfl rfl (gT hG5 rfl (lt_of rfl)) (Nat.le_of_ble_eq_true rfl) hc10 ?_
      show wp C 9 cX9_shades 4 (some .boolean) false [] sc P 14 [(0, .ref 0), (1, .int x1), (2, .int x2), (3, .int x3)] [] σ8
      refine w_aload_n dX9_shades_14 rfl (List.Mem.head _) ?_
      refine w_getR (ci := 9) (k := 4) (b := 27) dX9_shades_15 fl_9_41 (by decide) (gT hG9 rfl (lt_of rfl)) (gR hG9 (b := 27) rfl) ?_
      refine w_iload_n dX9_shades_18 rfl (List.Mem.tail _ (List.Mem.head _)) ?_
      refine w_iload_n dX9_shades_19 rfl (List.Mem.tail _ (List.Mem.tail _ (List.Mem.head _))) ?_
      refine w_aload_n dX9_shades_20 rfl (List.Mem.head _) ?_
      refine w_getM (ci := 9) (k := 5) (b := u) dX9_shades_21 fl_9_48 (by decide) (gT hG9 rfl (lt_of rfl)) hG9.2.2.1 ?_
      refine w_iload_n dX9_shades_24 rfl (List.Mem.tail _ (List.Mem.tail _ (List.Mem.tail _ (List.Mem.head _)))) ?_
      obtain ⟨r14, σ11, hc13, hG12, h⟩ := h
      refine w_callV dX9_shades_25 ml_9_155 ⟨ok_X2_sunAt, vi_X2_sunAt⟩ hs_X2_sunAt (As := [.int x3]) rfl rfl (gT hG9 (IsMk_t0 hG.2.2.2.2) (IsMk_lt hG.2.2.2.2 (k := 0) (by decide))) (Nat.le_of_ble_eq_true rfl) hc13 ?_
      show wp C 9 cX9_shades 4 (some .boolean) false [] sc P 28 [(0, .ref 0), (1, .int x1), (2, .int x2), (3, .int x3)] [.int r14, .int x2, .int x1, .ref 27] σ11
      obtain ⟨r18, σ15, hc17, hG16, h⟩ := h
      refine w_callV dX9_shades_28 ml_9_159 ⟨ok_X6_falls, vi_X6_falls⟩ hs_X6_falls (As := [.int x1, .int x2, .int r14]) rfl rfl (gT hG12 rfl (lt_of rfl)) (Nat.le_of_ble_eq_true rfl) hc17 ?_
      show wp C 9 cX9_shades 4 (some .boolean) false [] sc P 31 [(0, .ref 0), (1, .int x1), (2, .int x2), (3, .int x3)] [.int r18] σ15
      exact w_zret dX9_shades_31 rfl h.1 h.2
theorem dX9_under_0 : decode cX9_under 0 = .ok (.aload_n 0, 1) := by decide +kernel
theorem dX9_under_1 : decode cX9_under 1 = .ok (.iload_n 1, 1) := by decide +kernel
theorem dX9_under_2 : decode cX9_under 2 = .ok (.invokevirtual 118, 3) := by decide +kernel
theorem dX9_under_5 : decode cX9_under 5 = .ok (.aload_n 0, 1) := by decide +kernel
theorem dX9_under_6 : decode cX9_under 6 = .ok (.iload_n 2, 1) := by decide +kernel
theorem dX9_under_7 : decode cX9_under 7 = .ok (.invokestatic 143, 3) := by decide +kernel
theorem dX9_under_10 : decode cX9_under 10 = .ok (.invokevirtual 69, 3) := by decide +kernel
theorem dX9_under_13 : decode cX9_under 13 = .ok (.aload_n 0, 1) := by decide +kernel
theorem dX9_under_14 : decode cX9_under 14 = .ok (.getfield 41, 3) := by decide +kernel
theorem dX9_under_17 : decode cX9_under 17 = .ok (.iload_n 1, 1) := by decide +kernel
theorem dX9_under_18 : decode cX9_under 18 = .ok (.aload_n 0, 1) := by decide +kernel
theorem dX9_under_19 : decode cX9_under 19 = .ok (.getfield 48, 3) := by decide +kernel
theorem dX9_under_22 : decode cX9_under 22 = .ok (.iload_n 2, 1) := by decide +kernel
theorem dX9_under_23 : decode cX9_under 23 = .ok (.invokevirtual 155, 3) := by decide +kernel
theorem dX9_under_26 : decode cX9_under 26 = .ok (.invokevirtual 163, 3) := by decide +kernel
theorem dX9_under_29 : decode cX9_under 29 = .ok (.ireturn, 1) := by decide +kernel
set_option maxRecDepth 10000 in
theorem v_X9_under_0 {C : aM → List Value → aH → aO → aH → Prop} {sc : Nat × (Nat → Int32)} {P : aO → aH → Prop} {σ : aH} {u : Nat}  {x1 : Int32} {x2 : Int32} (hG : G σ u) 
    (h : ((∃ (e9 : Nat) (σ1 : aH), C mX9_requireStall [.ref 0, .int x1] σ (.inr e9) σ1 ∧ P (.inr e9) σ1) ∨ (∃ σ1 : aH, C mX9_requireStall [.ref 0, .int x1] σ (.inl none) σ1 ∧ G σ1 u ∧ (∃ (r7 : Int32) (σ4 : aH), C mX9_isMinute [.int x2] σ1 (.inl (some (.int r7))) σ4 ∧ G σ4 u ∧ ((∃ (e9 : Nat) (σ8 : aH), C mX9_require [.ref 0, .int r7] σ4 (.inr e9) σ8 ∧ P (.inr e9) σ8) ∨ (∃ σ8 : aH, C mX9_require [.ref 0, .int r7] σ4 (.inl none) σ8 ∧ G σ8 u ∧ (∃ (r14 : Int32) (σ11 : aH), C mX2_sunAt [.ref u, .int x2] σ8 (.inl (some (.int r14))) σ11 ∧ G σ11 u ∧ (∃ (r18 : Int32) (σ15 : aH), C mX6_throwers [.ref 27, .int x1, .int r14] σ11 (.inl (some (.int r18))) σ15 ∧ G σ15 u ∧ P (.inl (some (.int r18))) σ15)))))))) :
    wp C 9 cX9_under 3 (some .int) false [] sc P 0 [(0, .ref 0), (1, .int x1), (2, .int x2)] [] σ := by
  refine w_aload_n dX9_under_0 rfl (List.Mem.head _) ?_
  refine w_iload_n dX9_under_1 rfl (List.Mem.tail _ (List.Mem.head _)) ?_
  rcases h with h | h
  · obtain ⟨e9, σ1, hc3, h⟩ := h
    exact w_throwV dX9_under_2 mp_9_118 ⟨ok_X9_requireStall, vi_X9_requireStall⟩ hs_X9_requireStall (As := [.int x1]) rfl rfl (gT hG rfl (lt_of rfl)) (Nat.le_of_ble_eq_true rfl) hc3 rfl h
  · obtain ⟨σ1, hc3, hG2, h⟩ := h
    refine w_callV dX9_under_2 ml_9_118 ⟨ok_X9_requireStall, vi_X9_requireStall⟩ hs_X9_requireStall (As := [.int x1]) rfl rfl (gT hG rfl (lt_of rfl)) (Nat.le_of_ble_eq_true rfl) hc3 ?_
    show wp C 9 cX9_under 3 (some .int) false [] sc P 5 [(0, .ref 0), (1, .int x1), (2, .int x2)] [] σ1
    refine w_aload_n dX9_under_5 rfl (List.Mem.head _) ?_
    refine w_iload_n dX9_under_6 rfl (List.Mem.tail _ (List.Mem.tail _ (List.Mem.head _))) ?_
    obtain ⟨r7, σ4, hc6, hG5, h⟩ := h
    refine w_callS dX9_under_7 ml_9_143 ⟨ok_X9_isMinute, st_X9_isMinute⟩ hs_X9_isMinute (As := [.int x2]) rfl rfl (Nat.le_of_ble_eq_true rfl) hc6 ?_
    show wp C 9 cX9_under 3 (some .int) false [] sc P 10 [(0, .ref 0), (1, .int x1), (2, .int x2)] [.int r7, .ref 0] σ4
    rcases h with h | h
    · obtain ⟨e9, σ8, hc10, h⟩ := h
      exact w_throwV dX9_under_10 mp_9_69 ⟨ok_X9_require, vi_X9_require⟩ hs_X9_require (As := [.int r7]) rfl rfl (gT hG5 rfl (lt_of rfl)) (Nat.le_of_ble_eq_true rfl) hc10 rfl h
    · obtain ⟨σ8, hc10, hG9, h⟩ := h
      refine w_callV dX9_under_10 ml_9_69 ⟨ok_X9_require, vi_X9_require⟩ hs_X9_require (As := [.int r7]) rfl rfl (gT hG5 rfl (lt_of rfl)) (Nat.le_of_ble_eq_true rfl) hc10 ?_
      show wp C 9 cX9_under 3 (some .int) false [] sc P 13 [(0, .ref 0), (1, .int x1), (2, .int x2)] [] σ8
      refine w_aload_n dX9_under_13 rfl (List.Mem.head _) ?_
      refine w_getR (ci := 9) (k := 4) (b := 27) dX9_under_14 fl_9_41 (by decide) (gT hG9 rfl (lt_of rfl)) (gR hG9 (b := 27) rfl) ?_
      refine w_iload_n dX9_under_17 rfl (List.Mem.tail _ (List.Mem.head _)) ?_
      refine w_aload_n dX9_under_18 rfl (List.Mem.head _) ?_
      refine w_getM (ci := 9) (k := 5) (b := u) dX9_under_19 fl_9_48 (by decide) (gT hG9 rfl (lt_of rfl)) hG9.2.2.1 ?_
      refine w_iload_n dX9_under_22 rfl (List.Mem.tail _ (List.Mem.tail _ (List.Mem.head _))) ?_
      obtain ⟨r14, σ11, hc13, hG12, h⟩ := h
      refine w_callV dX9_under_23 ml_9_155 ⟨ok_X2_sunAt, vi_X2_sunAt⟩ hs_X2_sunAt (As := [.int x2]) rfl rfl (gT hG9 (IsMk_t0 hG.2.2.2.2) (IsMk_lt hG.2.2.2.2 (k := 0) (by decide))) (Nat.le_of_ble_eq_true rfl) hc13 ?_
      show wp C 9 cX9_under 3 (some .int) false [] sc P 26 [(0, .ref 0), (1, .int x1), (2, .int x2)] [.int r14, .int x1, .ref 27] σ11
      obtain ⟨r18, σ15, hc17, hG16, h⟩ := h
      refine w_callV dX9_under_26 ml_9_163 ⟨ok_X6_throwers, vi_X6_throwers⟩ hs_X6_throwers (As := [.int x1, .int r14]) rfl rfl (gT hG12 rfl (lt_of rfl)) (Nat.le_of_ble_eq_true rfl) hc17 ?_
      show wp C 9 cX9_under 3 (some .int) false [] sc P 29 [(0, .ref 0), (1, .int x1), (2, .int x2)] [.int r18] σ15
      exact w_iret dX9_under_29 rfl h
theorem dX9_minutes_0 : decode cX9_minutes 0 = .ok (.aload_n 0, 1) := by decide +kernel
theorem dX9_minutes_1 : decode cX9_minutes 1 = .ok (.iload_n 1, 1) := by decide +kernel
theorem dX9_minutes_2 : decode cX9_minutes 2 = .ok (.iload_n 2, 1) := by decide +kernel
theorem dX9_minutes_3 : decode cX9_minutes 3 = .ok (.invokevirtual 151, 3) := by decide +kernel
theorem dX9_minutes_6 : decode cX9_minutes 6 = .ok (.aload_n 0, 1) := by decide +kernel
theorem dX9_minutes_7 : decode cX9_minutes 7 = .ok (.getfield 41, 3) := by decide +kernel
theorem dX9_minutes_10 : decode cX9_minutes 10 = .ok (.getfield 166, 3) := by decide +kernel
theorem dX9_minutes_13 : decode cX9_minutes 13 = .ok (.aload_n 0, 1) := by decide +kernel
theorem dX9_minutes_14 : decode cX9_minutes 14 = .ok (.getfield 41, 3) := by decide +kernel
theorem dX9_minutes_17 : decode cX9_minutes 17 = .ok (.iload_n 1, 1) := by decide +kernel
theorem dX9_minutes_18 : decode cX9_minutes 18 = .ok (.iload_n 2, 1) := by decide +kernel
theorem dX9_minutes_19 : decode cX9_minutes 19 = .ok (.invokevirtual 170, 3) := by decide +kernel
theorem dX9_minutes_22 : decode cX9_minutes 22 = .ok (.invokevirtual 173, 3) := by decide +kernel
theorem dX9_minutes_25 : decode cX9_minutes 25 = .ok (.ireturn, 1) := by decide +kernel
set_option maxRecDepth 10000 in
theorem v_X9_minutes_0 {C : aM → List Value → aH → aO → aH → Prop} {sc : Nat × (Nat → Int32)} {P : aO → aH → Prop} {σ : aH} {u : Nat}  {x1 : Int32} {x2 : Int32} (hG : G σ u) 
    (h : ((∃ (e9 : Nat) (σ1 : aH), C mX9_requireTwo [.ref 0, .int x1, .int x2] σ (.inr e9) σ1 ∧ P (.inr e9) σ1) ∨ (∃ σ1 : aH, C mX9_requireTwo [.ref 0, .int x1, .int x2] σ (.inl none) σ1 ∧ G σ1 u ∧ (∃ (r7 : Int32) (σ4 : aH), C mX6_need [.ref 27, .int x1, .int x2] σ1 (.inl (some (.int r7))) σ4 ∧ G σ4 u ∧ (∃ (r11 : Int32) (σ8 : aH), C mX8_at [.ref 31, .int r7] σ4 (.inl (some (.int r11))) σ8 ∧ G σ8 u ∧ P (.inl (some (.int r11))) σ8))))) :
    wp C 9 cX9_minutes 3 (some .int) false [] sc P 0 [(0, .ref 0), (1, .int x1), (2, .int x2)] [] σ := by
  refine w_aload_n dX9_minutes_0 rfl (List.Mem.head _) ?_
  refine w_iload_n dX9_minutes_1 rfl (List.Mem.tail _ (List.Mem.head _)) ?_
  refine w_iload_n dX9_minutes_2 rfl (List.Mem.tail _ (List.Mem.tail _ (List.Mem.head _))) ?_
  rcases h with h | h
  · obtain ⟨e9, σ1, hc3, h⟩ := h
    exact w_throwV dX9_minutes_3 mp_9_151 ⟨ok_X9_requireTwo, vi_X9_requireTwo⟩ hs_X9_requireTwo (As := [.int x1, .int x2]) rfl rfl (gT hG rfl (lt_of rfl)) (Nat.le_of_ble_eq_true rfl) hc3 rfl h
  · obtain ⟨σ1, hc3, hG2, h⟩ := h
    refine w_callV dX9_minutes_3 ml_9_151 ⟨ok_X9_requireTwo, vi_X9_requireTwo⟩ hs_X9_requireTwo (As := [.int x1, .int x2]) rfl rfl (gT hG rfl (lt_of rfl)) (Nat.le_of_ble_eq_true rfl) hc3 ?_
    show wp C 9 cX9_minutes 3 (some .int) false [] sc P 6 [(0, .ref 0), (1, .int x1), (2, .int x2)] [] σ1
    refine w_aload_n dX9_minutes_6 rfl (List.Mem.head _) ?_
    refine w_getR (ci := 9) (k := 4) (b := 27) dX9_minutes_7 fl_9_41 (by decide) (gT hG2 rfl (lt_of rfl)) (gR hG2 (b := 27) rfl) ?_
    refine w_getR (ci := 6) (k := 1) (b := 31) dX9_minutes_10 fl_9_166 (by decide) (gT hG2 rfl (lt_of rfl)) (gR hG2 (b := 31) rfl) ?_
    refine w_aload_n dX9_minutes_13 rfl (List.Mem.head _) ?_
    refine w_getR (ci := 9) (k := 4) (b := 27) dX9_minutes_14 fl_9_41 (by decide) (gT hG2 rfl (lt_of rfl)) (gR hG2 (b := 27) rfl) ?_
    refine w_iload_n dX9_minutes_17 rfl (List.Mem.tail _ (List.Mem.head _)) ?_
    refine w_iload_n dX9_minutes_18 rfl (List.Mem.tail _ (List.Mem.tail _ (List.Mem.head _))) ?_
    obtain ⟨r7, σ4, hc6, hG5, h⟩ := h
    refine w_callV dX9_minutes_19 ml_9_170 ⟨ok_X6_need, vi_X6_need⟩ hs_X6_need (As := [.int x1, .int x2]) rfl rfl (gT hG2 rfl (lt_of rfl)) (Nat.le_of_ble_eq_true rfl) hc6 ?_
    show wp C 9 cX9_minutes 3 (some .int) false [] sc P 22 [(0, .ref 0), (1, .int x1), (2, .int x2)] [.int r7, .ref 31] σ4
    obtain ⟨r11, σ8, hc10, hG9, h⟩ := h
    refine w_callV dX9_minutes_22 ml_9_173 ⟨ok_X8_at, vi_X8_at⟩ hs_X8_at (As := [.int r7]) rfl rfl (gT hG5 rfl (lt_of rfl)) (Nat.le_of_ble_eq_true rfl) hc10 ?_
    show wp C 9 cX9_minutes 3 (some .int) false [] sc P 25 [(0, .ref 0), (1, .int x1), (2, .int x2)] [.int r11] σ8
    exact w_iret dX9_minutes_25 rfl h
theorem dX9_chill_0 : decode cX9_chill 0 = .ok (.aload_n 0, 1) := by decide +kernel
theorem dX9_chill_1 : decode cX9_chill 1 = .ok (.iload_n 1, 1) := by decide +kernel
theorem dX9_chill_2 : decode cX9_chill 2 = .ok (.invokevirtual 118, 3) := by decide +kernel
theorem dX9_chill_5 : decode cX9_chill 5 = .ok (.aload_n 0, 1) := by decide +kernel
theorem dX9_chill_6 : decode cX9_chill 6 = .ok (.getfield 41, 3) := by decide +kernel
theorem dX9_chill_9 : decode cX9_chill 9 = .ok (.iload_n 1, 1) := by decide +kernel
theorem dX9_chill_10 : decode cX9_chill 10 = .ok (.invokevirtual 178, 3) := by decide +kernel
theorem dX9_chill_13 : decode cX9_chill 13 = .ok (.ireturn, 1) := by decide +kernel
set_option maxRecDepth 10000 in
theorem v_X9_chill_0 {C : aM → List Value → aH → aO → aH → Prop} {sc : Nat × (Nat → Int32)} {P : aO → aH → Prop} {σ : aH} {u : Nat}  {x1 : Int32} (hG : G σ u) 
    (h : ((∃ (e9 : Nat) (σ1 : aH), C mX9_requireStall [.ref 0, .int x1] σ (.inr e9) σ1 ∧ P (.inr e9) σ1) ∨ (∃ σ1 : aH, C mX9_requireStall [.ref 0, .int x1] σ (.inl none) σ1 ∧ G σ1 u ∧ (∃ (r7 : Int32) (σ4 : aH), C mX6_chillOf [.ref 27, .int x1] σ1 (.inl (some (.int r7))) σ4 ∧ G σ4 u ∧ P (.inl (some (.int r7))) σ4)))) :
    wp C 9 cX9_chill 2 (some .int) false [] sc P 0 [(0, .ref 0), (1, .int x1)] [] σ := by
  refine w_aload_n dX9_chill_0 rfl (List.Mem.head _) ?_
  refine w_iload_n dX9_chill_1 rfl (List.Mem.tail _ (List.Mem.head _)) ?_
  rcases h with h | h
  · obtain ⟨e9, σ1, hc3, h⟩ := h
    exact w_throwV dX9_chill_2 mp_9_118 ⟨ok_X9_requireStall, vi_X9_requireStall⟩ hs_X9_requireStall (As := [.int x1]) rfl rfl (gT hG rfl (lt_of rfl)) (Nat.le_of_ble_eq_true rfl) hc3 rfl h
  · obtain ⟨σ1, hc3, hG2, h⟩ := h
    refine w_callV dX9_chill_2 ml_9_118 ⟨ok_X9_requireStall, vi_X9_requireStall⟩ hs_X9_requireStall (As := [.int x1]) rfl rfl (gT hG rfl (lt_of rfl)) (Nat.le_of_ble_eq_true rfl) hc3 ?_
    show wp C 9 cX9_chill 2 (some .int) false [] sc P 5 [(0, .ref 0), (1, .int x1)] [] σ1
    refine w_aload_n dX9_chill_5 rfl (List.Mem.head _) ?_
    refine w_getR (ci := 9) (k := 4) (b := 27) dX9_chill_6 fl_9_41 (by decide) (gT hG2 rfl (lt_of rfl)) (gR hG2 (b := 27) rfl) ?_
    refine w_iload_n dX9_chill_9 rfl (List.Mem.tail _ (List.Mem.head _)) ?_
    obtain ⟨r7, σ4, hc6, hG5, h⟩ := h
    refine w_callV dX9_chill_10 ml_9_178 ⟨ok_X6_chillOf, vi_X6_chillOf⟩ hs_X6_chillOf (As := [.int x1]) rfl rfl (gT hG2 rfl (lt_of rfl)) (Nat.le_of_ble_eq_true rfl) hc6 ?_
    show wp C 9 cX9_chill 2 (some .int) false [] sc P 13 [(0, .ref 0), (1, .int x1)] [.int r7] σ4
    exact w_iret dX9_chill_13 rfl h
theorem dX9_owes_0 : decode cX9_owes 0 = .ok (.aload_n 0, 1) := by decide +kernel
theorem dX9_owes_1 : decode cX9_owes 1 = .ok (.iload_n 1, 1) := by decide +kernel
theorem dX9_owes_2 : decode cX9_owes 2 = .ok (.iload_n 2, 1) := by decide +kernel
theorem dX9_owes_3 : decode cX9_owes 3 = .ok (.invokevirtual 151, 3) := by decide +kernel
theorem dX9_owes_6 : decode cX9_owes 6 = .ok (.aload_n 0, 1) := by decide +kernel
theorem dX9_owes_7 : decode cX9_owes 7 = .ok (.iload_n 3, 1) := by decide +kernel
theorem dX9_owes_8 : decode cX9_owes 8 = .ok (.invokestatic 181, 3) := by decide +kernel
theorem dX9_owes_11 : decode cX9_owes 11 = .ok (.invokevirtual 69, 3) := by decide +kernel
theorem dX9_owes_14 : decode cX9_owes 14 = .ok (.aload_n 0, 1) := by decide +kernel
theorem dX9_owes_15 : decode cX9_owes 15 = .ok (.getfield 41, 3) := by decide +kernel
theorem dX9_owes_18 : decode cX9_owes 18 = .ok (.aload_n 0, 1) := by decide +kernel
theorem dX9_owes_19 : decode cX9_owes 19 = .ok (.getfield 41, 3) := by decide +kernel
theorem dX9_owes_22 : decode cX9_owes 22 = .ok (.iconst 0, 1) := by decide +kernel
theorem dX9_owes_23 : decode cX9_owes 23 = .ok (.iload_n 3, 1) := by decide +kernel
theorem dX9_owes_24 : decode cX9_owes 24 = .ok (.invokevirtual 184, 3) := by decide +kernel
theorem dX9_owes_27 : decode cX9_owes 27 = .ok (.iload_n 1, 1) := by decide +kernel
theorem dX9_owes_28 : decode cX9_owes 28 = .ok (.iload_n 2, 1) := by decide +kernel
theorem dX9_owes_29 : decode cX9_owes 29 = .ok (.invokevirtual 188, 3) := by decide +kernel
theorem dX9_owes_32 : decode cX9_owes 32 = .ok (.ireturn, 1) := by decide +kernel
set_option maxRecDepth 10000 in
theorem v_X9_owes_0 {C : aM → List Value → aH → aO → aH → Prop} {sc : Nat × (Nat → Int32)} {P : aO → aH → Prop} {σ : aH} {u : Nat}  {x1 : Int32} {x2 : Int32} {x3 : Int32} (hG : G σ u) 
    (h : ((∃ (e9 : Nat) (σ1 : aH), C mX9_requireTwo [.ref 0, .int x1, .int x2] σ (.inr e9) σ1 ∧ P (.inr e9) σ1) ∨ (∃ σ1 : aH, C mX9_requireTwo [.ref 0, .int x1, .int x2] σ (.inl none) σ1 ∧ G σ1 u ∧ (∃ (r7 : Int32) (σ4 : aH), C mX9_isEnd [.int x3] σ1 (.inl (some (.int r7))) σ4 ∧ G σ4 u ∧ ((∃ (e9 : Nat) (σ8 : aH), C mX9_require [.ref 0, .int r7] σ4 (.inr e9) σ8 ∧ P (.inr e9) σ8) ∨ (∃ σ8 : aH, C mX9_require [.ref 0, .int r7] σ4 (.inl none) σ8 ∧ G σ8 u ∧ (∃ σ11 : aH, C mX6_costsOf [.ref 27, .int 0, .int x3] σ8 (.inl (some (.ref 34))) σ11 ∧ G σ11 u ∧ (∃ (r17 : Int32) (σ14 : aH), C mX6_owed [.ref 27, .ref 34, .int x1, .int x2] σ11 (.inl (some (.int r17))) σ14 ∧ G σ14 u ∧ P (.inl (some (.int r17))) σ14)))))))) :
    wp C 9 cX9_owes 4 (some .int) false [] sc P 0 [(0, .ref 0), (1, .int x1), (2, .int x2), (3, .int x3)] [] σ := by
  refine w_aload_n dX9_owes_0 rfl (List.Mem.head _) ?_
  refine w_iload_n dX9_owes_1 rfl (List.Mem.tail _ (List.Mem.head _)) ?_
  refine w_iload_n dX9_owes_2 rfl (List.Mem.tail _ (List.Mem.tail _ (List.Mem.head _))) ?_
  rcases h with h | h
  · obtain ⟨e9, σ1, hc3, h⟩ := h
    exact w_throwV dX9_owes_3 mp_9_151 ⟨ok_X9_requireTwo, vi_X9_requireTwo⟩ hs_X9_requireTwo (As := [.int x1, .int x2]) rfl rfl (gT hG rfl (lt_of rfl)) (Nat.le_of_ble_eq_true rfl) hc3 rfl h
  · obtain ⟨σ1, hc3, hG2, h⟩ := h
    refine w_callV dX9_owes_3 ml_9_151 ⟨ok_X9_requireTwo, vi_X9_requireTwo⟩ hs_X9_requireTwo (As := [.int x1, .int x2]) rfl rfl (gT hG rfl (lt_of rfl)) (Nat.le_of_ble_eq_true rfl) hc3 ?_
    show wp C 9 cX9_owes 4 (some .int) false [] sc P 6 [(0, .ref 0), (1, .int x1), (2, .int x2), (3, .int x3)] [] σ1
    refine w_aload_n dX9_owes_6 rfl (List.Mem.head _) ?_
    refine w_iload_n dX9_owes_7 rfl (List.Mem.tail _ (List.Mem.tail _ (List.Mem.tail _ (List.Mem.head _)))) ?_
    obtain ⟨r7, σ4, hc6, hG5, h⟩ := h
    refine w_callS dX9_owes_8 ml_9_181 ⟨ok_X9_isEnd, st_X9_isEnd⟩ hs_X9_isEnd (As := [.int x3]) rfl rfl (Nat.le_of_ble_eq_true rfl) hc6 ?_
    show wp C 9 cX9_owes 4 (some .int) false [] sc P 11 [(0, .ref 0), (1, .int x1), (2, .int x2), (3, .int x3)] [.int r7, .ref 0] σ4
    rcases h with h | h
    · obtain ⟨e9, σ8, hc10, h⟩ := h
      exact w_throwV dX9_owes_11 mp_9_69 ⟨ok_X9_require, vi_X9_require⟩ hs_X9_require (As := [.int r7]) rfl rfl (gT hG5 rfl (lt_of rfl)) (Nat.le_of_ble_eq_true rfl) hc10 rfl h
    · obtain ⟨σ8, hc10, hG9, h⟩ := h
      refine w_callV dX9_owes_11 ml_9_69 ⟨ok_X9_require, vi_X9_require⟩ hs_X9_require (As := [.int r7]) rfl rfl (gT hG5 rfl (lt_of rfl)) (Nat.le_of_ble_eq_true rfl) hc10 ?_
      show wp C 9 cX9_owes 4 (some .int) false [] sc P 14 [(0, .ref 0), (1, .int x1), (2, .int x2), (3, .int x3)] [] σ8
      refine w_aload_n dX9_owes_14 rfl (List.Mem.head _) ?_
      refine w_getR (ci := 9) (k := 4) (b := 27) dX9_owes_15 fl_9_41 (by decide) (gT hG9 rfl (lt_of rfl)) (gR hG9 (b := 27) rfl) ?_
      refine w_aload_n dX9_owes_18 rfl (List.Mem.head _) ?_
      refine w_getR (ci := 9) (k := 4) (b := 27) dX9_owes_19 fl_9_41 (by decide) (gT hG9 rfl (lt_of rfl)) (gR hG9 (b := 27) rfl) ?_
      refine w_iconst (v := 0) dX9_owes_22 (by decide) ?_
      refine w_iload_n dX9_owes_23 rfl (List.Mem.tail _ (List.Mem.tail _ (List.Mem.tail _ (List.Mem.head _)))) ?_
      obtain ⟨σ11, hc13, hG12, h⟩ := h
      refine w_callV dX9_owes_24 ml_9_184 ⟨ok_X6_costsOf, vi_X6_costsOf⟩ hs_X6_costsOf (As := [.int 0, .int x3]) rfl rfl (gT hG9 rfl (lt_of rfl)) (Nat.le_of_ble_eq_true rfl) hc13 ?_
      show wp C 9 cX9_owes 4 (some .int) false [] sc P 27 [(0, .ref 0), (1, .int x1), (2, .int x2), (3, .int x3)] [.ref 34, .ref 27] σ11
      refine w_iload_n dX9_owes_27 rfl (List.Mem.tail _ (List.Mem.head _)) ?_
      refine w_iload_n dX9_owes_28 rfl (List.Mem.tail _ (List.Mem.tail _ (List.Mem.head _))) ?_
      obtain ⟨r17, σ14, hc16, hG15, h⟩ := h
      refine w_callV dX9_owes_29 ml_9_188 ⟨ok_X6_owed, vi_X6_owed⟩ hs_X6_owed (As := [.ref 34, .int x1, .int x2]) rfl rfl (gT hG12 rfl (lt_of rfl)) (Nat.le_of_ble_eq_true rfl) hc16 ?_
      show wp C 9 cX9_owes 4 (some .int) false [] sc P 32 [(0, .ref 0), (1, .int x1), (2, .int x2), (3, .int x3)] [.int r17] σ14
      exact w_iret dX9_owes_32 rfl h
theorem dX9_net_0 : decode cX9_net 0 = .ok (.aload_n 0, 1) := by decide +kernel
theorem dX9_net_1 : decode cX9_net 1 = .ok (.iload_n 1, 1) := by decide +kernel
theorem dX9_net_2 : decode cX9_net 2 = .ok (.invokevirtual 118, 3) := by decide +kernel
theorem dX9_net_5 : decode cX9_net 5 = .ok (.aload_n 0, 1) := by decide +kernel
theorem dX9_net_6 : decode cX9_net 6 = .ok (.iload_n 2, 1) := by decide +kernel
theorem dX9_net_7 : decode cX9_net 7 = .ok (.invokestatic 181, 3) := by decide +kernel
theorem dX9_net_10 : decode cX9_net 10 = .ok (.invokevirtual 69, 3) := by decide +kernel
theorem dX9_net_13 : decode cX9_net 13 = .ok (.aload_n 0, 1) := by decide +kernel
theorem dX9_net_14 : decode cX9_net 14 = .ok (.getfield 41, 3) := by decide +kernel
theorem dX9_net_17 : decode cX9_net 17 = .ok (.aload_n 0, 1) := by decide +kernel
theorem dX9_net_18 : decode cX9_net 18 = .ok (.getfield 41, 3) := by decide +kernel
theorem dX9_net_21 : decode cX9_net 21 = .ok (.iconst 0, 1) := by decide +kernel
theorem dX9_net_22 : decode cX9_net 22 = .ok (.iload_n 2, 1) := by decide +kernel
theorem dX9_net_23 : decode cX9_net 23 = .ok (.invokevirtual 184, 3) := by decide +kernel
theorem dX9_net_26 : decode cX9_net 26 = .ok (.iload_n 1, 1) := by decide +kernel
theorem dX9_net_27 : decode cX9_net 27 = .ok (.invokevirtual 192, 3) := by decide +kernel
theorem dX9_net_30 : decode cX9_net 30 = .ok (.ireturn, 1) := by decide +kernel
set_option maxRecDepth 10000 in
theorem v_X9_net_0 {C : aM → List Value → aH → aO → aH → Prop} {sc : Nat × (Nat → Int32)} {P : aO → aH → Prop} {σ : aH} {u : Nat}  {x1 : Int32} {x2 : Int32} (hG : G σ u) 
    (h : ((∃ (e9 : Nat) (σ1 : aH), C mX9_requireStall [.ref 0, .int x1] σ (.inr e9) σ1 ∧ P (.inr e9) σ1) ∨ (∃ σ1 : aH, C mX9_requireStall [.ref 0, .int x1] σ (.inl none) σ1 ∧ G σ1 u ∧ (∃ (r7 : Int32) (σ4 : aH), C mX9_isEnd [.int x2] σ1 (.inl (some (.int r7))) σ4 ∧ G σ4 u ∧ ((∃ (e9 : Nat) (σ8 : aH), C mX9_require [.ref 0, .int r7] σ4 (.inr e9) σ8 ∧ P (.inr e9) σ8) ∨ (∃ σ8 : aH, C mX9_require [.ref 0, .int r7] σ4 (.inl none) σ8 ∧ G σ8 u ∧ (∃ σ11 : aH, C mX6_costsOf [.ref 27, .int 0, .int x2] σ8 (.inl (some (.ref 34))) σ11 ∧ G σ11 u ∧ (∃ (r17 : Int32) (σ14 : aH), C mX6_gain [.ref 27, .ref 34, .int x1] σ11 (.inl (some (.int r17))) σ14 ∧ G σ14 u ∧ P (.inl (some (.int r17))) σ14)))))))) :
    wp C 9 cX9_net 3 (some .int) false [] sc P 0 [(0, .ref 0), (1, .int x1), (2, .int x2)] [] σ := by
  refine w_aload_n dX9_net_0 rfl (List.Mem.head _) ?_
  refine w_iload_n dX9_net_1 rfl (List.Mem.tail _ (List.Mem.head _)) ?_
  rcases h with h | h
  · obtain ⟨e9, σ1, hc3, h⟩ := h
    exact w_throwV dX9_net_2 mp_9_118 ⟨ok_X9_requireStall, vi_X9_requireStall⟩ hs_X9_requireStall (As := [.int x1]) rfl rfl (gT hG rfl (lt_of rfl)) (Nat.le_of_ble_eq_true rfl) hc3 rfl h
  · obtain ⟨σ1, hc3, hG2, h⟩ := h
    refine w_callV dX9_net_2 ml_9_118 ⟨ok_X9_requireStall, vi_X9_requireStall⟩ hs_X9_requireStall (As := [.int x1]) rfl rfl (gT hG rfl (lt_of rfl)) (Nat.le_of_ble_eq_true rfl) hc3 ?_
    show wp C 9 cX9_net 3 (some .int) false [] sc P 5 [(0, .ref 0), (1, .int x1), (2, .int x2)] [] σ1
    refine w_aload_n dX9_net_5 rfl (List.Mem.head _) ?_
    refine w_iload_n dX9_net_6 rfl (List.Mem.tail _ (List.Mem.tail _ (List.Mem.head _))) ?_
    obtain ⟨r7, σ4, hc6, hG5, h⟩ := h
    refine w_callS dX9_net_7 ml_9_181 ⟨ok_X9_isEnd, st_X9_isEnd⟩ hs_X9_isEnd (As := [.int x2]) rfl rfl (Nat.le_of_ble_eq_true rfl) hc6 ?_
    show wp C 9 cX9_net 3 (some .int) false [] sc P 10 [(0, .ref 0), (1, .int x1), (2, .int x2)] [.int r7, .ref 0] σ4
    rcases h with h | h
    · obtain ⟨e9, σ8, hc10, h⟩ := h
      exact w_throwV dX9_net_10 mp_9_69 ⟨ok_X9_require, vi_X9_require⟩ hs_X9_require (As := [.int r7]) rfl rfl (gT hG5 rfl (lt_of rfl)) (Nat.le_of_ble_eq_true rfl) hc10 rfl h
    · obtain ⟨σ8, hc10, hG9, h⟩ := h
      refine w_callV dX9_net_10 ml_9_69 ⟨ok_X9_require, vi_X9_require⟩ hs_X9_require (As := [.int r7]) rfl rfl (gT hG5 rfl (lt_of rfl)) (Nat.le_of_ble_eq_true rfl) hc10 ?_
      show wp C 9 cX9_net 3 (some .int) false [] sc P 13 [(0, .ref 0), (1, .int x1), (2, .int x2)] [] σ8
      refine w_aload_n dX9_net_13 rfl (List.Mem.head _) ?_
      refine w_getR (ci := 9) (k := 4) (b := 27) dX9_net_14 fl_9_41 (by decide) (gT hG9 rfl (lt_of rfl)) (gR hG9 (b := 27) rfl) ?_
      refine w_aload_n dX9_net_17 rfl (List.Mem.head _) ?_
      refine w_getR (ci := 9) (k := 4) (b := 27) dX9_net_18 fl_9_41 (by decide) (gT hG9 rfl (lt_of rfl)) (gR hG9 (b := 27) rfl) ?_
      refine w_iconst (v := 0) dX9_net_21 (by decide) ?_
      refine w_iload_n dX9_net_22 rfl (List.Mem.tail _ (List.Mem.tail _ (List.Mem.head _))) ?_
      obtain ⟨σ11, hc13, hG12, h⟩ := h
      refine w_callV dX9_net_23 ml_9_184 ⟨ok_X6_costsOf, vi_X6_costsOf⟩ hs_X6_costsOf (As := [.int 0, .int x2]) rfl rfl (gT hG9 rfl (lt_of rfl)) (Nat.le_of_ble_eq_true rfl) hc13 ?_
      show wp C 9 cX9_net 3 (some .int) false [] sc P 26 [(0, .ref 0), (1, .int x1), (2, .int x2)] [.ref 34, .ref 27] σ11
      refine w_iload_n dX9_net_26 rfl (List.Mem.tail _ (List.Mem.head _)) ?_
      obtain ⟨r17, σ14, hc16, hG15, h⟩ := h
      refine w_callV dX9_net_27 ml_9_192 ⟨ok_X6_gain, vi_X6_gain⟩ hs_X6_gain (As := [.ref 34, .int x1]) rfl rfl (gT hG12 rfl (lt_of rfl)) (Nat.le_of_ble_eq_true rfl) hc16 ?_
      show wp C 9 cX9_net 3 (some .int) false [] sc P 30 [(0, .ref 0), (1, .int x1), (2, .int x2)] [.int r17] σ14
      exact w_iret dX9_net_30 rfl h
theorem dX9_payments_0 : decode cX9_payments 0 = .ok (.aload_n 0, 1) := by decide +kernel
theorem dX9_payments_1 : decode cX9_payments 1 = .ok (.iload_n 1, 1) := by decide +kernel
theorem dX9_payments_2 : decode cX9_payments 2 = .ok (.invokestatic 181, 3) := by decide +kernel
theorem dX9_payments_5 : decode cX9_payments 5 = .ok (.invokevirtual 69, 3) := by decide +kernel
theorem dX9_payments_8 : decode cX9_payments 8 = .ok (.aload_n 0, 1) := by decide +kernel
theorem dX9_payments_9 : decode cX9_payments 9 = .ok (.getfield 26, 3) := by decide +kernel
theorem dX9_payments_12 : decode cX9_payments 12 = .ok (.aload_n 0, 1) := by decide +kernel
theorem dX9_payments_13 : decode cX9_payments 13 = .ok (.getfield 41, 3) := by decide +kernel
theorem dX9_payments_16 : decode cX9_payments 16 = .ok (.iload_n 1, 1) := by decide +kernel
theorem dX9_payments_17 : decode cX9_payments 17 = .ok (.invokevirtual 196, 3) := by decide +kernel
theorem dX9_payments_20 : decode cX9_payments 20 = .ok (.ireturn, 1) := by decide +kernel
set_option maxRecDepth 10000 in
theorem v_X9_payments_0 {C : aM → List Value → aH → aO → aH → Prop} {sc : Nat × (Nat → Int32)} {P : aO → aH → Prop} {σ : aH} {u : Nat}  {x1 : Int32} (hG : G σ u) 
    (h : (∃ (r4 : Int32) (σ1 : aH), C mX9_isEnd [.int x1] σ (.inl (some (.int r4))) σ1 ∧ G σ1 u ∧ ((∃ (e9 : Nat) (σ5 : aH), C mX9_require [.ref 0, .int r4] σ1 (.inr e9) σ5 ∧ P (.inr e9) σ5) ∨ (∃ σ5 : aH, C mX9_require [.ref 0, .int r4] σ1 (.inl none) σ5 ∧ G σ5 u ∧ (∃ (r11 : Int32) (σ8 : aH), C mX3_fewest [.ref 22, .ref 27, .int x1] σ5 (.inl (some (.int r11))) σ8 ∧ G σ8 u ∧ P (.inl (some (.int r11))) σ8))))) :
    wp C 9 cX9_payments 2 (some .int) false [] sc P 0 [(0, .ref 0), (1, .int x1)] [] σ := by
  refine w_aload_n dX9_payments_0 rfl (List.Mem.head _) ?_
  refine w_iload_n dX9_payments_1 rfl (List.Mem.tail _ (List.Mem.head _)) ?_
  obtain ⟨r4, σ1, hc3, hG2, h⟩ := h
  refine w_callS dX9_payments_2 ml_9_181 ⟨ok_X9_isEnd, st_X9_isEnd⟩ hs_X9_isEnd (As := [.int x1]) rfl rfl (Nat.le_of_ble_eq_true rfl) hc3 ?_
  show wp C 9 cX9_payments 2 (some .int) false [] sc P 5 [(0, .ref 0), (1, .int x1)] [.int r4, .ref 0] σ1
  rcases h with h | h
  · obtain ⟨e9, σ5, hc7, h⟩ := h
    exact w_throwV dX9_payments_5 mp_9_69 ⟨ok_X9_require, vi_X9_require⟩ hs_X9_require (As := [.int r4]) rfl rfl (gT hG2 rfl (lt_of rfl)) (Nat.le_of_ble_eq_true rfl) hc7 rfl h
  · obtain ⟨σ5, hc7, hG6, h⟩ := h
    refine w_callV dX9_payments_5 ml_9_69 ⟨ok_X9_require, vi_X9_require⟩ hs_X9_require (As := [.int r4]) rfl rfl (gT hG2 rfl (lt_of rfl)) (Nat.le_of_ble_eq_true rfl) hc7 ?_
    show wp C 9 cX9_payments 2 (some .int) false [] sc P 8 [(0, .ref 0), (1, .int x1)] [] σ5
    refine w_aload_n dX9_payments_8 rfl (List.Mem.head _) ?_
    refine w_getR (ci := 9) (k := 2) (b := 22) dX9_payments_9 fl_9_26 (by decide) (gT hG6 rfl (lt_of rfl)) (gR hG6 (b := 22) rfl) ?_
    refine w_aload_n dX9_payments_12 rfl (List.Mem.head _) ?_
    refine w_getR (ci := 9) (k := 4) (b := 27) dX9_payments_13 fl_9_41 (by decide) (gT hG6 rfl (lt_of rfl)) (gR hG6 (b := 27) rfl) ?_
    refine w_iload_n dX9_payments_16 rfl (List.Mem.tail _ (List.Mem.head _)) ?_
    obtain ⟨r11, σ8, hc10, hG9, h⟩ := h
    refine w_callV dX9_payments_17 ml_9_196 ⟨ok_X3_fewest, vi_X3_fewest⟩ hs_X3_fewest (As := [.ref 27, .int x1]) rfl rfl (gT hG6 rfl (lt_of rfl)) (Nat.le_of_ble_eq_true rfl) hc10 ?_
    show wp C 9 cX9_payments 2 (some .int) false [] sc P 20 [(0, .ref 0), (1, .int x1)] [.int r11] σ8
    exact w_iret dX9_payments_20 rfl h
theorem dX9_due_0 : decode cX9_due 0 = .ok (.aload_n 0, 1) := by decide +kernel
theorem dX9_due_1 : decode cX9_due 1 = .ok (.getfield 41, 3) := by decide +kernel
theorem dX9_due_4 : decode cX9_due 4 = .ok (.aload_n 0, 1) := by decide +kernel
theorem dX9_due_5 : decode cX9_due 5 = .ok (.getfield 41, 3) := by decide +kernel
theorem dX9_due_8 : decode cX9_due 8 = .ok (.getfield 200, 3) := by decide +kernel
theorem dX9_due_11 : decode cX9_due 11 = .ok (.ldc 203, 2) := by decide +kernel
theorem dX9_due_13 : decode cX9_due 13 = .ok (.invokevirtual 204, 3) := by decide +kernel
theorem dX9_due_16 : decode cX9_due 16 = .ok (.ireturn, 1) := by decide +kernel
set_option maxRecDepth 10000 in
theorem v_X9_due_0 {C : aM → List Value → aH → aO → aH → Prop} {sc : Nat × (Nat → Int32)} {P : aO → aH → Prop} {σ : aH} {u : Nat}   (hG : G σ u) 
    (h : (∃ (r4 : Int32) (σ1 : aH), C mX6_total [.ref 27, .ref 28, .int 1000000000] σ (.inl (some (.int r4))) σ1 ∧ G σ1 u ∧ P (.inl (some (.int r4))) σ1)) :
    wp C 9 cX9_due 1 (some .int) false [] sc P 0 [(0, .ref 0)] [] σ := by
  refine w_aload_n dX9_due_0 rfl (List.Mem.head _) ?_
  refine w_getR (ci := 9) (k := 4) (b := 27) dX9_due_1 fl_9_41 (by decide) (gT hG rfl (lt_of rfl)) (gR hG (b := 27) rfl) ?_
  refine w_aload_n dX9_due_4 rfl (List.Mem.head _) ?_
  refine w_getR (ci := 9) (k := 4) (b := 27) dX9_due_5 fl_9_41 (by decide) (gT hG rfl (lt_of rfl)) (gR hG (b := 27) rfl) ?_
  refine w_getR (ci := 6) (k := 0) (b := 28) dX9_due_8 fl_9_200 (by decide) (gT hG rfl (lt_of rfl)) (gR hG (b := 28) rfl) ?_
  refine w_ldc dX9_due_11 kc_9_203 ?_
  obtain ⟨r4, σ1, hc3, hG2, h⟩ := h
  refine w_callV dX9_due_13 ml_9_204 ⟨ok_X6_total, vi_X6_total⟩ hs_X6_total (As := [.ref 28, .int 1000000000]) rfl rfl (gT hG rfl (lt_of rfl)) (Nat.le_of_ble_eq_true rfl) hc3 ?_
  show wp C 9 cX9_due 1 (some .int) false [] sc P 16 [(0, .ref 0)] [.int r4] σ1
  exact w_iret dX9_due_16 rfl h
theorem dX9_first_0 : decode cX9_first 0 = .ok (.aload_n 0, 1) := by decide +kernel
theorem dX9_first_1 : decode cX9_first 1 = .ok (.iload_n 1, 1) := by decide +kernel
theorem dX9_first_2 : decode cX9_first 2 = .ok (.invokestatic 143, 3) := by decide +kernel
theorem dX9_first_5 : decode cX9_first 5 = .ok (.invokevirtual 69, 3) := by decide +kernel
theorem dX9_first_8 : decode cX9_first 8 = .ok (.aload_n 0, 1) := by decide +kernel
theorem dX9_first_9 : decode cX9_first 9 = .ok (.getfield 41, 3) := by decide +kernel
theorem dX9_first_12 : decode cX9_first 12 = .ok (.iload_n 1, 1) := by decide +kernel
theorem dX9_first_13 : decode cX9_first 13 = .ok (.invokevirtual 207, 3) := by decide +kernel
theorem dX9_first_16 : decode cX9_first 16 = .ok (.ireturn, 1) := by decide +kernel
set_option maxRecDepth 10000 in
theorem v_X9_first_0 {C : aM → List Value → aH → aO → aH → Prop} {sc : Nat × (Nat → Int32)} {P : aO → aH → Prop} {σ : aH} {u : Nat}  {x1 : Int32} (hG : G σ u) 
    (h : (∃ (r4 : Int32) (σ1 : aH), C mX9_isMinute [.int x1] σ (.inl (some (.int r4))) σ1 ∧ G σ1 u ∧ ((∃ (e9 : Nat) (σ5 : aH), C mX9_require [.ref 0, .int r4] σ1 (.inr e9) σ5 ∧ P (.inr e9) σ5) ∨ (∃ σ5 : aH, C mX9_require [.ref 0, .int r4] σ1 (.inl none) σ5 ∧ G σ5 u ∧ (∃ (r11 : Int32) (σ8 : aH), C mX6_firstShade [.ref 27, .int x1] σ5 (.inl (some (.int r11))) σ8 ∧ G σ8 u ∧ P (.inl (some (.int r11))) σ8))))) :
    wp C 9 cX9_first 2 (some .int) false [] sc P 0 [(0, .ref 0), (1, .int x1)] [] σ := by
  refine w_aload_n dX9_first_0 rfl (List.Mem.head _) ?_
  refine w_iload_n dX9_first_1 rfl (List.Mem.tail _ (List.Mem.head _)) ?_
  obtain ⟨r4, σ1, hc3, hG2, h⟩ := h
  refine w_callS dX9_first_2 ml_9_143 ⟨ok_X9_isMinute, st_X9_isMinute⟩ hs_X9_isMinute (As := [.int x1]) rfl rfl (Nat.le_of_ble_eq_true rfl) hc3 ?_
  show wp C 9 cX9_first 2 (some .int) false [] sc P 5 [(0, .ref 0), (1, .int x1)] [.int r4, .ref 0] σ1
  rcases h with h | h
  · obtain ⟨e9, σ5, hc7, h⟩ := h
    exact w_throwV dX9_first_5 mp_9_69 ⟨ok_X9_require, vi_X9_require⟩ hs_X9_require (As := [.int r4]) rfl rfl (gT hG2 rfl (lt_of rfl)) (Nat.le_of_ble_eq_true rfl) hc7 rfl h
  · obtain ⟨σ5, hc7, hG6, h⟩ := h
    refine w_callV dX9_first_5 ml_9_69 ⟨ok_X9_require, vi_X9_require⟩ hs_X9_require (As := [.int r4]) rfl rfl (gT hG2 rfl (lt_of rfl)) (Nat.le_of_ble_eq_true rfl) hc7 ?_
    show wp C 9 cX9_first 2 (some .int) false [] sc P 8 [(0, .ref 0), (1, .int x1)] [] σ5
    refine w_aload_n dX9_first_8 rfl (List.Mem.head _) ?_
    refine w_getR (ci := 9) (k := 4) (b := 27) dX9_first_9 fl_9_41 (by decide) (gT hG6 rfl (lt_of rfl)) (gR hG6 (b := 27) rfl) ?_
    refine w_iload_n dX9_first_12 rfl (List.Mem.tail _ (List.Mem.head _)) ?_
    obtain ⟨r11, σ8, hc10, hG9, h⟩ := h
    refine w_callV dX9_first_13 ml_9_207 ⟨ok_X6_firstShade, vi_X6_firstShade⟩ hs_X6_firstShade (As := [.int x1]) rfl rfl (gT hG6 rfl (lt_of rfl)) (Nat.le_of_ble_eq_true rfl) hc10 ?_
    show wp C 9 cX9_first 2 (some .int) false [] sc P 16 [(0, .ref 0), (1, .int x1)] [.int r11] σ8
    exact w_iret dX9_first_16 rfl h
theorem dX9_winter_0 : decode cX9_winter 0 = .ok (.aload_n 0, 1) := by decide +kernel
theorem dX9_winter_1 : decode cX9_winter 1 = .ok (.iload_n 1, 1) := by decide +kernel
theorem dX9_winter_2 : decode cX9_winter 2 = .ok (.invokestatic 210, 3) := by decide +kernel
theorem dX9_winter_5 : decode cX9_winter 5 = .ok (.invokevirtual 69, 3) := by decide +kernel
theorem dX9_winter_8 : decode cX9_winter 8 = .ok (.aload_n 0, 1) := by decide +kernel
theorem dX9_winter_9 : decode cX9_winter 9 = .ok (.getfield 48, 3) := by decide +kernel
theorem dX9_winter_12 : decode cX9_winter 12 = .ok (.getfield 106, 3) := by decide +kernel
theorem dX9_winter_15 : decode cX9_winter 15 = .ok (.istore_n 2, 1) := by decide +kernel
theorem dX9_winter_16 : decode cX9_winter 16 = .ok (.aload_n 0, 1) := by decide +kernel
theorem dX9_winter_17 : decode cX9_winter 17 = .ok (.getfield 48, 3) := by decide +kernel
theorem dX9_winter_20 : decode cX9_winter 20 = .ok (.iload_n 1, 1) := by decide +kernel
theorem dX9_winter_21 : decode cX9_winter 21 = .ok (.putfield 106, 3) := by decide +kernel
theorem dX9_winter_24 : decode cX9_winter 24 = .ok (.iload_n 2, 1) := by decide +kernel
theorem dX9_winter_25 : decode cX9_winter 25 = .ok (.ireturn, 1) := by decide +kernel
set_option maxRecDepth 10000 in
theorem v_X9_winter_0 {C : aM → List Value → aH → aO → aH → Prop} {sc : Nat × (Nat → Int32)} {P : aO → aH → Prop} {σ : aH} {u : Nat}  {x1 : Int32} (hG : G σ u) 
    (h : (∃ (r4 : Int32) (σ1 : aH), C mX9_isBit [.int x1] σ (.inl (some (.int r4))) σ1 ∧ G σ1 u ∧ ((∃ (e9 : Nat) (σ5 : aH), C mX9_require [.ref 0, .int r4] σ1 (.inr e9) σ5 ∧ P (.inr e9) σ5) ∨ (∃ σ5 : aH, C mX9_require [.ref 0, .int r4] σ1 (.inl none) σ5 ∧ G σ5 u ∧ (∀ z8 : Int32, z8 = (gI σ5 u 9) → (∀ σ10 : aH, sI σ5 u 9 x1 = σ10 → P (.inl (some (.int z8))) σ10)))))) :
    wp C 9 cX9_winter 3 (some .int) false [] sc P 0 [(0, .ref 0), (1, .int x1)] [] σ := by
  refine w_aload_n dX9_winter_0 rfl (List.Mem.head _) ?_
  refine w_iload_n dX9_winter_1 rfl (List.Mem.tail _ (List.Mem.head _)) ?_
  obtain ⟨r4, σ1, hc3, hG2, h⟩ := h
  refine w_callS dX9_winter_2 ml_9_210 ⟨ok_X9_isBit, st_X9_isBit⟩ hs_X9_isBit (As := [.int x1]) rfl rfl (Nat.le_of_ble_eq_true rfl) hc3 ?_
  show wp C 9 cX9_winter 3 (some .int) false [] sc P 5 [(0, .ref 0), (1, .int x1)] [.int r4, .ref 0] σ1
  rcases h with h | h
  · obtain ⟨e9, σ5, hc7, h⟩ := h
    exact w_throwV dX9_winter_5 mp_9_69 ⟨ok_X9_require, vi_X9_require⟩ hs_X9_require (As := [.int r4]) rfl rfl (gT hG2 rfl (lt_of rfl)) (Nat.le_of_ble_eq_true rfl) hc7 rfl h
  · obtain ⟨σ5, hc7, hG6, h⟩ := h
    refine w_callV dX9_winter_5 ml_9_69 ⟨ok_X9_require, vi_X9_require⟩ hs_X9_require (As := [.int r4]) rfl rfl (gT hG2 rfl (lt_of rfl)) (Nat.le_of_ble_eq_true rfl) hc7 ?_
    show wp C 9 cX9_winter 3 (some .int) false [] sc P 8 [(0, .ref 0), (1, .int x1)] [] σ5
    refine w_aload_n dX9_winter_8 rfl (List.Mem.head _) ?_
    refine w_getM (ci := 9) (k := 5) (b := u) dX9_winter_9 fl_9_48 (by decide) (gT hG6 rfl (lt_of rfl)) hG6.2.2.1 ?_
    refine w_getI (ci := 2) (k := 9) dX9_winter_12 fl_9_106 (by decide) (gT hG6 (IsMk_t0 hG.2.2.2.2) (IsMk_lt hG.2.2.2.2 (k := 0) (by decide))) ?_
    refine top_i (fun z8 ez9 => ?_)
    replace h := h z8 ez9
    refine w_istore_n (l' := [(2, .int z8), (0, .ref 0), (1, .int x1)]) dX9_winter_15 rfl (by decide) rfl ?_
    refine w_aload_n dX9_winter_16 rfl (List.Mem.tail _ (List.Mem.head _)) ?_
    refine w_getM (ci := 9) (k := 5) (b := u) dX9_winter_17 fl_9_48 (by decide) (gT hG6 rfl (lt_of rfl)) hG6.2.2.1 ?_
    refine w_iload_n dX9_winter_20 rfl (List.Mem.tail _ (List.Mem.tail _ (List.Mem.head _))) ?_
    refine y_putI (ci := 2) (k := 9) dX9_winter_21 fl_9_106 (by decide) (gT hG6 (IsMk_t0 hG.2.2.2.2) (IsMk_lt hG.2.2.2.2 (k := 0) (by decide))) (fun σ10 eσ11 => ?_)
    replace h := h σ10 eσ11
    have hG12 : G σ10 u := eσ11 ▸ G.sI hG6
    refine w_iload_n dX9_winter_24 rfl (List.Mem.head _) ?_
    exact w_iret dX9_winter_25 rfl h
theorem dX9_move_0 : decode cX9_move 0 = .ok (.aload_n 0, 1) := by decide +kernel
theorem dX9_move_1 : decode cX9_move 1 = .ok (.iload_n 1, 1) := by decide +kernel
theorem dX9_move_2 : decode cX9_move 2 = .ok (.invokevirtual 118, 3) := by decide +kernel
theorem dX9_move_5 : decode cX9_move 5 = .ok (.aload_n 0, 1) := by decide +kernel
theorem dX9_move_6 : decode cX9_move 6 = .ok (.iload_n 2, 1) := by decide +kernel
theorem dX9_move_7 : decode cX9_move 7 = .ok (.ifCond .lt 33, 3) := by decide +kernel
theorem dX9_move_10 : decode cX9_move 10 = .ok (.iload_n 2, 1) := by decide +kernel
theorem dX9_move_11 : decode cX9_move 11 = .ok (.aload_n 0, 1) := by decide +kernel
theorem dX9_move_12 : decode cX9_move 12 = .ok (.getfield 48, 3) := by decide +kernel
theorem dX9_move_15 : decode cX9_move 15 = .ok (.getfield 97, 3) := by decide +kernel
theorem dX9_move_18 : decode cX9_move 18 = .ok (.if_icmp .ge 22, 3) := by decide +kernel
theorem dX9_move_21 : decode cX9_move 21 = .ok (.iload_n 3, 1) := by decide +kernel
theorem dX9_move_22 : decode cX9_move 22 = .ok (.ifCond .lt 18, 3) := by decide +kernel
theorem dX9_move_25 : decode cX9_move 25 = .ok (.iload_n 3, 1) := by decide +kernel
theorem dX9_move_26 : decode cX9_move 26 = .ok (.aload_n 0, 1) := by decide +kernel
theorem dX9_move_27 : decode cX9_move 27 = .ok (.getfield 48, 3) := by decide +kernel
theorem dX9_move_30 : decode cX9_move 30 = .ok (.getfield 100, 3) := by decide +kernel
theorem dX9_move_33 : decode cX9_move 33 = .ok (.if_icmp .ge 7, 3) := by decide +kernel
theorem dX9_move_36 : decode cX9_move 36 = .ok (.iconst 1, 1) := by decide +kernel
theorem dX9_move_37 : decode cX9_move 37 = .ok (.goto 4, 3) := by decide +kernel
theorem dX9_move_40 : decode cX9_move 40 = .ok (.iconst 0, 1) := by decide +kernel
theorem dX9_move_41 : decode cX9_move 41 = .ok (.invokevirtual 69, 3) := by decide +kernel
theorem dX9_move_44 : decode cX9_move 44 = .ok (.aload_n 0, 1) := by decide +kernel
theorem dX9_move_45 : decode cX9_move 45 = .ok (.getfield 48, 3) := by decide +kernel
theorem dX9_move_48 : decode cX9_move 48 = .ok (.getfield 87, 3) := by decide +kernel
theorem dX9_move_51 : decode cX9_move 51 = .ok (.iload_n 2, 1) := by decide +kernel
theorem dX9_move_52 : decode cX9_move 52 = .ok (.iload_n 3, 1) := by decide +kernel
theorem dX9_move_53 : decode cX9_move 53 = .ok (.invokevirtual 213, 3) := by decide +kernel
theorem dX9_move_56 : decode cX9_move 56 = .ok (.iconst (-1), 1) := by decide +kernel
theorem dX9_move_57 : decode cX9_move 57 = .ok (.if_icmp .eq 5, 3) := by decide +kernel
theorem dX9_move_60 : decode cX9_move 60 = .ok (.iconst 0, 1) := by decide +kernel
theorem dX9_move_61 : decode cX9_move 61 = .ok (.ireturn, 1) := by decide +kernel
theorem dX9_move_62 : decode cX9_move 62 = .ok (.aload_n 0, 1) := by decide +kernel
theorem dX9_move_63 : decode cX9_move 63 = .ok (.getfield 48, 3) := by decide +kernel
theorem dX9_move_66 : decode cX9_move 66 = .ok (.getfield 87, 3) := by decide +kernel
theorem dX9_move_69 : decode cX9_move 69 = .ok (.iload_n 1, 1) := by decide +kernel
theorem dX9_move_70 : decode cX9_move 70 = .ok (.iload_n 2, 1) := by decide +kernel
theorem dX9_move_71 : decode cX9_move 71 = .ok (.iload_n 3, 1) := by decide +kernel
theorem dX9_move_72 : decode cX9_move 72 = .ok (.invokevirtual 216, 3) := by decide +kernel
theorem dX9_move_75 : decode cX9_move 75 = .ok (.iconst 1, 1) := by decide +kernel
theorem dX9_move_76 : decode cX9_move 76 = .ok (.ireturn, 1) := by decide +kernel
set_option maxRecDepth 10000 in
theorem v_X9_move_0 {C : aM → List Value → aH → aO → aH → Prop} {sc : Nat × (Nat → Int32)} {P : aO → aH → Prop} {σ : aH} {u : Nat}  {x1 : Int32} {x2 : Int32} {x3 : Int32} (hG : G σ u) 
    (h : ((∃ (e9 : Nat) (σ1 : aH), C mX9_requireStall [.ref 0, .int x1] σ (.inr e9) σ1 ∧ P (.inr e9) σ1) ∨ (∃ σ1 : aH, C mX9_requireStall [.ref 0, .int x1] σ (.inl none) σ1 ∧ G σ1 u ∧ ((x2 < 0 → wp C 9 cX9_move 4 (some .int) false [] sc P 41 [(0, .ref 0), (1, .int x1), (2, .int x2), (3, .int x3)] [.int 0, .ref 0] σ1) ∧ (¬ (x2 < 0) → (((gI σ1 u 3) ≤ x2 → wp C 9 cX9_move 4 (some .int) false [] sc P 41 [(0, .ref 0), (1, .int x1), (2, .int x2), (3, .int x3)] [.int 0, .ref 0] σ1) ∧ (¬ ((gI σ1 u 3) ≤ x2) → ((x3 < 0 → wp C 9 cX9_move 4 (some .int) false [] sc P 41 [(0, .ref 0), (1, .int x1), (2, .int x2), (3, .int x3)] [.int 0, .ref 0] σ1) ∧ (¬ (x3 < 0) → (((gI σ1 u 4) ≤ x3 → wp C 9 cX9_move 4 (some .int) false [] sc P 41 [(0, .ref 0), (1, .int x1), (2, .int x2), (3, .int x3)] [.int 0, .ref 0] σ1) ∧ (¬ ((gI σ1 u 4) ≤ x3) → wp C 9 cX9_move 4 (some .int) false [] sc P 41 [(0, .ref 0), (1, .int x1), (2, .int x2), (3, .int x3)] [.int 1, .ref 0] σ1))))))))))) :
    wp C 9 cX9_move 4 (some .int) false [] sc P 0 [(0, .ref 0), (1, .int x1), (2, .int x2), (3, .int x3)] [] σ := by
  refine w_aload_n dX9_move_0 rfl (List.Mem.head _) ?_
  refine w_iload_n dX9_move_1 rfl (List.Mem.tail _ (List.Mem.head _)) ?_
  rcases h with h | h
  · obtain ⟨e9, σ1, hc3, h⟩ := h
    exact w_throwV dX9_move_2 mp_9_118 ⟨ok_X9_requireStall, vi_X9_requireStall⟩ hs_X9_requireStall (As := [.int x1]) rfl rfl (gT hG rfl (lt_of rfl)) (Nat.le_of_ble_eq_true rfl) hc3 rfl h
  · obtain ⟨σ1, hc3, hG2, h⟩ := h
    refine w_callV dX9_move_2 ml_9_118 ⟨ok_X9_requireStall, vi_X9_requireStall⟩ hs_X9_requireStall (As := [.int x1]) rfl rfl (gT hG rfl (lt_of rfl)) (Nat.le_of_ble_eq_true rfl) hc3 ?_
    show wp C 9 cX9_move 4 (some .int) false [] sc P 5 [(0, .ref 0), (1, .int x1), (2, .int x2), (3, .int x3)] [] σ1
    refine w_aload_n dX9_move_5 rfl (List.Mem.head _) ?_
    refine w_iload_n dX9_move_6 rfl (List.Mem.tail _ (List.Mem.tail _ (List.Mem.head _))) ?_
    refine w_if_lt (tgt := 40) dX9_move_7 rfl (fun c9 => ?_) (fun c9 => ?_)
    · replace h := h.1 c9
      refine w_iconst (v := 0) dX9_move_40 (by decide) ?_
      exact h
    · replace h := h.2 c9
      refine w_iload_n dX9_move_10 rfl (List.Mem.tail _ (List.Mem.tail _ (List.Mem.head _))) ?_
      refine w_aload_n dX9_move_11 rfl (List.Mem.head _) ?_
      refine w_getM (ci := 9) (k := 5) (b := u) dX9_move_12 fl_9_48 (by decide) (gT hG2 rfl (lt_of rfl)) hG2.2.2.1 ?_
      refine w_getI (ci := 2) (k := 3) dX9_move_15 fl_9_97 (by decide) (gT hG2 (IsMk_t0 hG.2.2.2.2) (IsMk_lt hG.2.2.2.2 (k := 0) (by decide))) ?_
      refine w_icmp_ge (tgt := 40) dX9_move_18 rfl (fun c9 => ?_) (fun c9 => ?_)
      · replace h := h.1 c9
        refine w_iconst (v := 0) dX9_move_40 (by decide) ?_
        exact h
      · replace h := h.2 c9
        refine w_iload_n dX9_move_21 rfl (List.Mem.tail _ (List.Mem.tail _ (List.Mem.tail _ (List.Mem.head _)))) ?_
        refine w_if_lt (tgt := 40) dX9_move_22 rfl (fun c9 => ?_) (fun c9 => ?_)
        · replace h := h.1 c9
          refine w_iconst (v := 0) dX9_move_40 (by decide) ?_
          exact h
        · replace h := h.2 c9
          refine w_iload_n dX9_move_25 rfl (List.Mem.tail _ (List.Mem.tail _ (List.Mem.tail _ (List.Mem.head _)))) ?_
          refine w_aload_n dX9_move_26 rfl (List.Mem.head _) ?_
          refine w_getM (ci := 9) (k := 5) (b := u) dX9_move_27 fl_9_48 (by decide) (gT hG2 rfl (lt_of rfl)) hG2.2.2.1 ?_
          refine w_getI (ci := 2) (k := 4) dX9_move_30 fl_9_100 (by decide) (gT hG2 (IsMk_t0 hG.2.2.2.2) (IsMk_lt hG.2.2.2.2 (k := 0) (by decide))) ?_
          refine w_icmp_ge (tgt := 40) dX9_move_33 rfl (fun c9 => ?_) (fun c9 => ?_)
          · replace h := h.1 c9
            refine w_iconst (v := 0) dX9_move_40 (by decide) ?_
            exact h
          · replace h := h.2 c9
            refine w_iconst (v := 1) dX9_move_36 (by decide) ?_
            refine w_goto (tgt := 41) dX9_move_37 rfl ?_
            exact h
set_option maxRecDepth 10000 in
theorem v_X9_move_41 {C : aM → List Value → aH → aO → aH → Prop} {sc : Nat × (Nat → Int32)} {P : aO → aH → Prop} {σ : aH} {u : Nat}  {s0 : Int32} {x1 : Int32} {x2 : Int32} {x3 : Int32} (hG : G σ u) 
    (h : ((∃ (e9 : Nat) (σ1 : aH), C mX9_require [.ref 0, .int s0] σ (.inr e9) σ1 ∧ P (.inr e9) σ1) ∨ (∃ σ1 : aH, C mX9_require [.ref 0, .int s0] σ (.inl none) σ1 ∧ G σ1 u ∧ (∃ (r7 : Int32) (σ4 : aH), C mX7_whoIsAt [.ref (u + 1), .int x2, .int x3] σ1 (.inl (some (.int r7))) σ4 ∧ G σ4 u ∧ ((r7 = (-1) → (∃ σ8 : aH, C mX7_put [.ref (u + 1), .int x1, .int x2, .int x3] σ4 (.inl none) σ8 ∧ G σ8 u ∧ P (.inl (some (.int 1))) σ8)) ∧ (¬ (r7 = (-1)) → P (.inl (some (.int 0))) σ4)))))) :
    wp C 9 cX9_move 4 (some .int) false [] sc P 41 [(0, .ref 0), (1, .int x1), (2, .int x2), (3, .int x3)] [.int s0, .ref 0] σ := by
  rcases h with h | h
  · obtain ⟨e9, σ1, hc3, h⟩ := h
    exact w_throwV dX9_move_41 mp_9_69 ⟨ok_X9_require, vi_X9_require⟩ hs_X9_require (As := [.int s0]) rfl rfl (gT hG rfl (lt_of rfl)) (Nat.le_of_ble_eq_true rfl) hc3 rfl h
  · obtain ⟨σ1, hc3, hG2, h⟩ := h
    refine w_callV dX9_move_41 ml_9_69 ⟨ok_X9_require, vi_X9_require⟩ hs_X9_require (As := [.int s0]) rfl rfl (gT hG rfl (lt_of rfl)) (Nat.le_of_ble_eq_true rfl) hc3 ?_
    show wp C 9 cX9_move 4 (some .int) false [] sc P 44 [(0, .ref 0), (1, .int x1), (2, .int x2), (3, .int x3)] [] σ1
    refine w_aload_n dX9_move_44 rfl (List.Mem.head _) ?_
    refine w_getM (ci := 9) (k := 5) (b := u) dX9_move_45 fl_9_48 (by decide) (gT hG2 rfl (lt_of rfl)) hG2.2.2.1 ?_
    refine w_getR (ci := 2) (k := 0) (b := (u + 1)) dX9_move_48 fl_9_87 (by decide) (gT hG2 (IsMk_t0 hG.2.2.2.2) (IsMk_lt hG.2.2.2.2 (k := 0) (by decide))) (gR hG2 (IsMk_r0_0 hG.2.2.2.2)) ?_
    refine w_iload_n dX9_move_51 rfl (List.Mem.tail _ (List.Mem.tail _ (List.Mem.head _))) ?_
    refine w_iload_n dX9_move_52 rfl (List.Mem.tail _ (List.Mem.tail _ (List.Mem.tail _ (List.Mem.head _)))) ?_
    obtain ⟨r7, σ4, hc6, hG5, h⟩ := h
    refine w_callV dX9_move_53 ml_9_213 ⟨ok_X7_whoIsAt, vi_X7_whoIsAt⟩ hs_X7_whoIsAt (As := [.int x2, .int x3]) rfl rfl (gT hG2 (IsMk_t1 hG.2.2.2.2) (IsMk_lt hG.2.2.2.2 (k := 1) (by decide))) (Nat.le_of_ble_eq_true rfl) hc6 ?_
    show wp C 9 cX9_move 4 (some .int) false [] sc P 56 [(0, .ref 0), (1, .int x1), (2, .int x2), (3, .int x3)] [.int r7] σ4
    refine w_iconst (v := (-1)) dX9_move_56 (by decide) ?_
    refine w_icmp_eq (tgt := 62) dX9_move_57 rfl (fun c9 => ?_) (fun c9 => ?_)
    · replace h := h.1 c9
      refine w_aload_n dX9_move_62 rfl (List.Mem.head _) ?_
      refine w_getM (ci := 9) (k := 5) (b := u) dX9_move_63 fl_9_48 (by decide) (gT hG5 rfl (lt_of rfl)) hG5.2.2.1 ?_
      refine w_getR (ci := 2) (k := 0) (b := (u + 1)) dX9_move_66 fl_9_87 (by decide) (gT hG5 (IsMk_t0 hG.2.2.2.2) (IsMk_lt hG.2.2.2.2 (k := 0) (by decide))) (gR hG5 (IsMk_r0_0 hG.2.2.2.2)) ?_
      refine w_iload_n dX9_move_69 rfl (List.Mem.tail _ (List.Mem.head _)) ?_
      refine w_iload_n dX9_move_70 rfl (List.Mem.tail _ (List.Mem.tail _ (List.Mem.head _))) ?_
      refine w_iload_n dX9_move_71 rfl (List.Mem.tail _ (List.Mem.tail _ (List.Mem.tail _ (List.Mem.head _)))) ?_
      obtain ⟨σ8, hc10, hG9, h⟩ := h
      refine w_callV dX9_move_72 ml_9_216 ⟨ok_X7_put, vi_X7_put⟩ hs_X7_put (As := [.int x1, .int x2, .int x3]) rfl rfl (gT hG5 (IsMk_t1 hG.2.2.2.2) (IsMk_lt hG.2.2.2.2 (k := 1) (by decide))) (Nat.le_of_ble_eq_true rfl) hc10 ?_
      show wp C 9 cX9_move 4 (some .int) false [] sc P 75 [(0, .ref 0), (1, .int x1), (2, .int x2), (3, .int x3)] [] σ8
      refine w_iconst (v := 1) dX9_move_75 (by decide) ?_
      exact w_iret dX9_move_76 rfl h
    · replace h := h.2 c9
      refine w_iconst (v := 0) dX9_move_60 (by decide) ?_
      exact w_iret dX9_move_61 rfl h
theorem dX9_tall_0 : decode cX9_tall 0 = .ok (.aload_n 0, 1) := by decide +kernel
theorem dX9_tall_1 : decode cX9_tall 1 = .ok (.iload_n 1, 1) := by decide +kernel
theorem dX9_tall_2 : decode cX9_tall 2 = .ok (.invokevirtual 118, 3) := by decide +kernel
theorem dX9_tall_5 : decode cX9_tall 5 = .ok (.aload_n 0, 1) := by decide +kernel
theorem dX9_tall_6 : decode cX9_tall 6 = .ok (.iload_n 2, 1) := by decide +kernel
theorem dX9_tall_7 : decode cX9_tall 7 = .ok (.invokestatic 220, 3) := by decide +kernel
theorem dX9_tall_10 : decode cX9_tall 10 = .ok (.invokevirtual 69, 3) := by decide +kernel
theorem dX9_tall_13 : decode cX9_tall 13 = .ok (.aload_n 0, 1) := by decide +kernel
theorem dX9_tall_14 : decode cX9_tall 14 = .ok (.getfield 48, 3) := by decide +kernel
theorem dX9_tall_17 : decode cX9_tall 17 = .ok (.getfield 87, 3) := by decide +kernel
theorem dX9_tall_20 : decode cX9_tall 20 = .ok (.getfield 128, 3) := by decide +kernel
theorem dX9_tall_23 : decode cX9_tall 23 = .ok (.iload_n 1, 1) := by decide +kernel
theorem dX9_tall_24 : decode cX9_tall 24 = .ok (.iaload, 1) := by decide +kernel
theorem dX9_tall_25 : decode cX9_tall 25 = .ok (.istore_n 3, 1) := by decide +kernel
theorem dX9_tall_26 : decode cX9_tall 26 = .ok (.aload_n 0, 1) := by decide +kernel
theorem dX9_tall_27 : decode cX9_tall 27 = .ok (.getfield 48, 3) := by decide +kernel
theorem dX9_tall_30 : decode cX9_tall 30 = .ok (.getfield 87, 3) := by decide +kernel
theorem dX9_tall_33 : decode cX9_tall 33 = .ok (.getfield 128, 3) := by decide +kernel
theorem dX9_tall_36 : decode cX9_tall 36 = .ok (.iload_n 1, 1) := by decide +kernel
theorem dX9_tall_37 : decode cX9_tall 37 = .ok (.iload_n 2, 1) := by decide +kernel
theorem dX9_tall_38 : decode cX9_tall 38 = .ok (.iastore, 1) := by decide +kernel
theorem dX9_tall_39 : decode cX9_tall 39 = .ok (.iload_n 3, 1) := by decide +kernel
theorem dX9_tall_40 : decode cX9_tall 40 = .ok (.ireturn, 1) := by decide +kernel
set_option maxRecDepth 10000 in
theorem v_X9_tall_0 {C : aM → List Value → aH → aO → aH → Prop} {sc : Nat × (Nat → Int32)} {P : aO → aH → Prop} {σ : aH} {u : Nat}  {x1 : Int32} {x2 : Int32} (hG : G σ u) 
    (h : ((∃ (e9 : Nat) (σ1 : aH), C mX9_requireStall [.ref 0, .int x1] σ (.inr e9) σ1 ∧ P (.inr e9) σ1) ∨ (∃ σ1 : aH, C mX9_requireStall [.ref 0, .int x1] σ (.inl none) σ1 ∧ G σ1 u ∧ (∃ (r7 : Int32) (σ4 : aH), C mX9_isHeight [.int x2] σ1 (.inl (some (.int r7))) σ4 ∧ G σ4 u ∧ ((∃ (e9 : Nat) (σ8 : aH), C mX9_require [.ref 0, .int r7] σ4 (.inr e9) σ8 ∧ P (.inr e9) σ8) ∨ (∃ σ8 : aH, C mX9_require [.ref 0, .int r7] σ4 (.inl none) σ8 ∧ G σ8 u ∧ (vp_in x1 9 ∧ (∀ z11 : Int32, z11 = (gI σ8 (u + 4) x1.toNatClampNeg) → (vp_in x1 9 ∧ (∀ σ13 : aH, sI σ8 (u + 4) x1.toNatClampNeg x2 = σ13 → P (.inl (some (.int z11))) σ13)))))))))) :
    wp C 9 cX9_tall 4 (some .int) false [] sc P 0 [(0, .ref 0), (1, .int x1), (2, .int x2)] [] σ := by
  refine w_aload_n dX9_tall_0 rfl (List.Mem.head _) ?_
  refine w_iload_n dX9_tall_1 rfl (List.Mem.tail _ (List.Mem.head _)) ?_
  rcases h with h | h
  · obtain ⟨e9, σ1, hc3, h⟩ := h
    exact w_throwV dX9_tall_2 mp_9_118 ⟨ok_X9_requireStall, vi_X9_requireStall⟩ hs_X9_requireStall (As := [.int x1]) rfl rfl (gT hG rfl (lt_of rfl)) (Nat.le_of_ble_eq_true rfl) hc3 rfl h
  · obtain ⟨σ1, hc3, hG2, h⟩ := h
    refine w_callV dX9_tall_2 ml_9_118 ⟨ok_X9_requireStall, vi_X9_requireStall⟩ hs_X9_requireStall (As := [.int x1]) rfl rfl (gT hG rfl (lt_of rfl)) (Nat.le_of_ble_eq_true rfl) hc3 ?_
    show wp C 9 cX9_tall 4 (some .int) false [] sc P 5 [(0, .ref 0), (1, .int x1), (2, .int x2)] [] σ1
    refine w_aload_n dX9_tall_5 rfl (List.Mem.head _) ?_
    refine w_iload_n dX9_tall_6 rfl (List.Mem.tail _ (List.Mem.tail _ (List.Mem.head _))) ?_
    obtain ⟨r7, σ4, hc6, hG5, h⟩ := h
    refine w_callS dX9_tall_7 ml_9_220 ⟨ok_X9_isHeight, st_X9_isHeight⟩ hs_X9_isHeight (As := [.int x2]) rfl rfl (Nat.le_of_ble_eq_true rfl) hc6 ?_
    show wp C 9 cX9_tall 4 (some .int) false [] sc P 10 [(0, .ref 0), (1, .int x1), (2, .int x2)] [.int r7, .ref 0] σ4
    rcases h with h | h
    · obtain ⟨e9, σ8, hc10, h⟩ := h
      exact w_throwV dX9_tall_10 mp_9_69 ⟨ok_X9_require, vi_X9_require⟩ hs_X9_require (As := [.int r7]) rfl rfl (gT hG5 rfl (lt_of rfl)) (Nat.le_of_ble_eq_true rfl) hc10 rfl h
    · obtain ⟨σ8, hc10, hG9, h⟩ := h
      refine w_callV dX9_tall_10 ml_9_69 ⟨ok_X9_require, vi_X9_require⟩ hs_X9_require (As := [.int r7]) rfl rfl (gT hG5 rfl (lt_of rfl)) (Nat.le_of_ble_eq_true rfl) hc10 ?_
      show wp C 9 cX9_tall 4 (some .int) false [] sc P 13 [(0, .ref 0), (1, .int x1), (2, .int x2)] [] σ8
      refine w_aload_n dX9_tall_13 rfl (List.Mem.head _) ?_
      refine w_getM (ci := 9) (k := 5) (b := u) dX9_tall_14 fl_9_48 (by decide) (gT hG9 rfl (lt_of rfl)) hG9.2.2.1 ?_
      refine w_getR (ci := 2) (k := 0) (b := (u + 1)) dX9_tall_17 fl_9_87 (by decide) (gT hG9 (IsMk_t0 hG.2.2.2.2) (IsMk_lt hG.2.2.2.2 (k := 0) (by decide))) (gR hG9 (IsMk_r0_0 hG.2.2.2.2)) ?_
      refine w_getR (ci := 7) (k := 2) (b := (u + 4)) dX9_tall_20 fl_9_128 (by decide) (gT hG9 (IsMk_t1 hG.2.2.2.2) (IsMk_lt hG.2.2.2.2 (k := 1) (by decide))) (gR hG9 (IsMk_r1_2 hG.2.2.2.2)) ?_
      refine w_iload_n dX9_tall_23 rfl (List.Mem.tail _ (List.Mem.head _)) ?_
      obtain ⟨h9, h⟩ := h
      refine x_iald (n := 9) x1.toNatClampNeg dX9_tall_24 (gT hG9 (IsMk_t4 hG.2.2.2.2) (IsMk_lt hG.2.2.2.2 (k := 4) (by decide))) (gL hG9 (IsMk_n4 hG.2.2.2.2)) h9 rfl ?_
      refine top_i (fun z11 ez12 => ?_)
      replace h := h z11 ez12
      refine w_istore_n (l' := [(3, .int z11), (0, .ref 0), (1, .int x1), (2, .int x2)]) dX9_tall_25 rfl (by decide) rfl ?_
      refine w_aload_n dX9_tall_26 rfl (List.Mem.tail _ (List.Mem.head _)) ?_
      refine w_getM (ci := 9) (k := 5) (b := u) dX9_tall_27 fl_9_48 (by decide) (gT hG9 rfl (lt_of rfl)) hG9.2.2.1 ?_
      refine w_getR (ci := 2) (k := 0) (b := (u + 1)) dX9_tall_30 fl_9_87 (by decide) (gT hG9 (IsMk_t0 hG.2.2.2.2) (IsMk_lt hG.2.2.2.2 (k := 0) (by decide))) (gR hG9 (IsMk_r0_0 hG.2.2.2.2)) ?_
      refine w_getR (ci := 7) (k := 2) (b := (u + 4)) dX9_tall_33 fl_9_128 (by decide) (gT hG9 (IsMk_t1 hG.2.2.2.2) (IsMk_lt hG.2.2.2.2 (k := 1) (by decide))) (gR hG9 (IsMk_r1_2 hG.2.2.2.2)) ?_
      refine w_iload_n dX9_tall_36 rfl (List.Mem.tail _ (List.Mem.tail _ (List.Mem.head _))) ?_
      refine w_iload_n dX9_tall_37 rfl (List.Mem.tail _ (List.Mem.tail _ (List.Mem.tail _ (List.Mem.head _)))) ?_
      obtain ⟨h9, h⟩ := h
      refine y_iast (n := 9) x1.toNatClampNeg dX9_tall_38 (gT hG9 (IsMk_t4 hG.2.2.2.2) (IsMk_lt hG.2.2.2.2 (k := 4) (by decide))) (gL hG9 (IsMk_n4 hG.2.2.2.2)) h9 rfl (fun σ13 eσ14 => ?_)
      replace h := h σ13 eσ14
      have hG15 : G σ13 u := eσ14 ▸ G.sI hG9
      refine w_iload_n dX9_tall_39 rfl (List.Mem.head _) ?_
      exact w_iret dX9_tall_40 rfl h
theorem dX9_set_0 : decode cX9_set 0 = .ok (.iload_n 1, 1) := by decide +kernel
theorem dX9_set_1 : decode cX9_set 1 = .ok (.invokestatic 223, 3) := by decide +kernel
theorem dX9_set_4 : decode cX9_set 4 = .ok (.istore_n 3, 1) := by decide +kernel
theorem dX9_set_5 : decode cX9_set 5 = .ok (.aload_n 0, 1) := by decide +kernel
theorem dX9_set_6 : decode cX9_set 6 = .ok (.iload_n 3, 1) := by decide +kernel
theorem dX9_set_7 : decode cX9_set 7 = .ok (.iconst 1, 1) := by decide +kernel
theorem dX9_set_8 : decode cX9_set 8 = .ok (.if_icmp .lt 39, 3) := by decide +kernel
theorem dX9_set_11 : decode cX9_set 11 = .ok (.iload_n 3, 1) := by decide +kernel
theorem dX9_set_12 : decode cX9_set 12 = .ok (.iconst 2, 1) := by decide +kernel
theorem dX9_set_13 : decode cX9_set 13 = .ok (.if_icmp .gt 34, 3) := by decide +kernel
theorem dX9_set_16 : decode cX9_set 16 = .ok (.iload_n 1, 1) := by decide +kernel
theorem dX9_set_17 : decode cX9_set 17 = .ok (.ifCond .le 30, 3) := by decide +kernel
theorem dX9_set_20 : decode cX9_set 20 = .ok (.iload_n 1, 1) := by decide +kernel
theorem dX9_set_21 : decode cX9_set 21 = .ok (.iconst 1, 1) := by decide +kernel
theorem dX9_set_22 : decode cX9_set 22 = .ok (.aload_n 0, 1) := by decide +kernel
theorem dX9_set_23 : decode cX9_set 23 = .ok (.getfield 48, 3) := by decide +kernel
theorem dX9_set_26 : decode cX9_set 26 = .ok (.getfield 87, 3) := by decide +kernel
theorem dX9_set_29 : decode cX9_set 29 = .ok (.getfield 91, 3) := by decide +kernel
theorem dX9_set_32 : decode cX9_set 32 = .ok (.ishl, 1) := by decide +kernel
theorem dX9_set_33 : decode cX9_set 33 = .ok (.if_icmp .ge 14, 3) := by decide +kernel
theorem dX9_set_36 : decode cX9_set 36 = .ok (.iload_n 2, 1) := by decide +kernel
theorem dX9_set_37 : decode cX9_set 37 = .ok (.invokestatic 210, 3) := by decide +kernel
theorem dX9_set_40 : decode cX9_set 40 = .ok (.ifCond .eq 7, 3) := by decide +kernel
theorem dX9_set_43 : decode cX9_set 43 = .ok (.iconst 1, 1) := by decide +kernel
theorem dX9_set_44 : decode cX9_set 44 = .ok (.goto 4, 3) := by decide +kernel
theorem dX9_set_47 : decode cX9_set 47 = .ok (.iconst 0, 1) := by decide +kernel
theorem dX9_set_48 : decode cX9_set 48 = .ok (.invokevirtual 69, 3) := by decide +kernel
theorem dX9_set_51 : decode cX9_set 51 = .ok (.iload_n 1, 1) := by decide +kernel
theorem dX9_set_52 : decode cX9_set 52 = .ok (.iconst 0, 1) := by decide +kernel
theorem dX9_set_53 : decode cX9_set 53 = .ok (.invokestatic 228, 3) := by decide +kernel
theorem dX9_set_56 : decode cX9_set 56 = .ok (.istore 4, 2) := by decide +kernel
theorem dX9_set_58 : decode cX9_set 58 = .ok (.aload_n 0, 1) := by decide +kernel
theorem dX9_set_59 : decode cX9_set 59 = .ok (.getfield 33, 3) := by decide +kernel
theorem dX9_set_62 : decode cX9_set 62 = .ok (.iload 4, 2) := by decide +kernel
theorem dX9_set_64 : decode cX9_set 64 = .ok (.iload_n 1, 1) := by decide +kernel
theorem dX9_set_65 : decode cX9_set 65 = .ok (.iload 4, 2) := by decide +kernel
theorem dX9_set_67 : decode cX9_set 67 = .ok (.iconst 1, 1) := by decide +kernel
theorem dX9_set_68 : decode cX9_set 68 = .ok (.iadd, 1) := by decide +kernel
theorem dX9_set_69 : decode cX9_set 69 = .ok (.invokestatic 228, 3) := by decide +kernel
theorem dX9_set_72 : decode cX9_set 72 = .ok (.invokevirtual 231, 3) := by decide +kernel
theorem dX9_set_75 : decode cX9_set 75 = .ok (.iload_n 2, 1) := by decide +kernel
theorem dX9_set_76 : decode cX9_set 76 = .ok (.ifCond .ne 13, 3) := by decide +kernel
theorem dX9_set_79 : decode cX9_set 79 = .ok (.aload_n 0, 1) := by decide +kernel
theorem dX9_set_80 : decode cX9_set 80 = .ok (.getfield 33, 3) := by decide +kernel
theorem dX9_set_83 : decode cX9_set 83 = .ok (.getfield 234, 3) := by decide +kernel
theorem dX9_set_86 : decode cX9_set 86 = .ok (.goto 10, 3) := by decide +kernel
theorem dX9_set_89 : decode cX9_set 89 = .ok (.aload_n 0, 1) := by decide +kernel
theorem dX9_set_90 : decode cX9_set 90 = .ok (.getfield 33, 3) := by decide +kernel
theorem dX9_set_93 : decode cX9_set 93 = .ok (.getfield 237, 3) := by decide +kernel
theorem dX9_set_96 : decode cX9_set 96 = .ok (.ireturn, 1) := by decide +kernel
set_option maxRecDepth 10000 in
theorem v_X9_set_0 {C : aM → List Value → aH → aO → aH → Prop} {sc : Nat × (Nat → Int32)} {P : aO → aH → Prop} {σ : aH} {u : Nat}  {x1 : Int32} {x2 : Int32} (hG : G σ u) 
    (h : (∃ (r4 : Int32) (σ1 : aH), C mJ6_bitCount_0f7a4 [.int x1] σ (.inl (some (.int r4))) σ1 ∧ G σ1 u ∧ ((r4 < 1 → wp C 9 cX9_set 5 (some .int) false [] sc P 48 [(0, .ref 0), (1, .int x1), (2, .int x2), (3, .int r4)] [.int 0, .ref 0] σ1) ∧ (¬ (r4 < 1) → ((2 < r4 → wp C 9 cX9_set 5 (some .int) false [] sc P 48 [(0, .ref 0), (1, .int x1), (2, .int x2), (3, .int r4)] [.int 0, .ref 0] σ1) ∧ (¬ (2 < r4) → ((x1 ≤ 0 → wp C 9 cX9_set 5 (some .int) false [] sc P 48 [(0, .ref 0), (1, .int x1), (2, .int x2), (3, .int r4)] [.int 0, .ref 0] σ1) ∧ (¬ (x1 ≤ 0) → (((1 <<< ((gI σ1 (u + 1) 8) &&& 31)) ≤ x1 → wp C 9 cX9_set 5 (some .int) false [] sc P 48 [(0, .ref 0), (1, .int x1), (2, .int x2), (3, .int r4)] [.int 0, .ref 0] σ1) ∧ (¬ ((1 <<< ((gI σ1 (u + 1) 8) &&& 31)) ≤ x1) → (∃ (r8 : Int32) (σ5 : aH), C mX9_isBit [.int x2] σ1 (.inl (some (.int r8))) σ5 ∧ G σ5 u ∧ ((r8 = 0 → wp C 9 cX9_set 5 (some .int) false [] sc P 48 [(0, .ref 0), (1, .int x1), (2, .int x2), (3, .int r4)] [.int 0, .ref 0] σ5) ∧ (¬ (r8 = 0) → wp C 9 cX9_set 5 (some .int) false [] sc P 48 [(0, .ref 0), (1, .int x1), (2, .int x2), (3, .int r4)] [.int 1, .ref 0] σ5))))))))))))) :
    wp C 9 cX9_set 5 (some .int) false [] sc P 0 [(0, .ref 0), (1, .int x1), (2, .int x2)] [] σ := by
  refine w_iload_n dX9_set_0 rfl (List.Mem.tail _ (List.Mem.head _)) ?_
  obtain ⟨r4, σ1, hc3, hG2, h⟩ := h
  refine w_callS dX9_set_1 ml_9_223 ⟨ok_J6_bitCount_0f7a4, st_J6_bitCount_0f7a4⟩ hs_J6_bitCount_0f7a4 (As := [.int x1]) rfl rfl (Nat.le_of_ble_eq_true rfl) hc3 ?_
  show wp C 9 cX9_set 5 (some .int) false [] sc P 4 [(0, .ref 0), (1, .int x1), (2, .int x2)] [.int r4] σ1
  refine w_istore_n (l' := [(3, .int r4), (0, .ref 0), (1, .int x1), (2, .int x2)]) dX9_set_4 rfl (by decide) rfl ?_
  refine w_aload_n dX9_set_5 rfl (List.Mem.tail _ (List.Mem.head _)) ?_
  refine w_iload_n dX9_set_6 rfl (List.Mem.head _) ?_
  refine w_iconst (v := 1) dX9_set_7 (by decide) ?_
  refine w_icmp_lt (tgt := 47) dX9_set_8 rfl (fun c9 => ?_) (fun c9 => ?_)
  · replace h := h.1 c9
    refine w_iconst (v := 0) dX9_set_47 (by decide) ?_
    exact w_weak (l' := [(0, .ref 0), (1, .int x1), (2, .int x2), (3, .int r4)]) (by intro q hq; simp only [List.mem_cons, List.not_mem_nil, or_false] at hq ⊢; rcases hq with rfl | rfl | rfl | rfl <;> simp) h
  · replace h := h.2 c9
    refine w_iload_n dX9_set_11 rfl (List.Mem.head _) ?_
    refine w_iconst (v := 2) dX9_set_12 (by decide) ?_
    refine w_icmp_gt (tgt := 47) dX9_set_13 rfl (fun c9 => ?_) (fun c9 => ?_)
    · replace h := h.1 c9
      refine w_iconst (v := 0) dX9_set_47 (by decide) ?_
      exact w_weak (l' := [(0, .ref 0), (1, .int x1), (2, .int x2), (3, .int r4)]) (by intro q hq; simp only [List.mem_cons, List.not_mem_nil, or_false] at hq ⊢; rcases hq with rfl | rfl | rfl | rfl <;> simp) h
    · replace h := h.2 c9
      refine w_iload_n dX9_set_16 rfl (List.Mem.tail _ (List.Mem.tail _ (List.Mem.head _))) ?_
      refine w_if_le (tgt := 47) dX9_set_17 rfl (fun c9 => ?_) (fun c9 => ?_)
      · replace h := h.1 c9
        refine w_iconst (v := 0) dX9_set_47 (by decide) ?_
        exact w_weak (l' := [(0, .ref 0), (1, .int x1), (2, .int x2), (3, .int r4)]) (by intro q hq; simp only [List.mem_cons, List.not_mem_nil, or_false] at hq ⊢; rcases hq with rfl | rfl | rfl | rfl <;> simp) h
      · replace h := h.2 c9
        refine w_iload_n dX9_set_20 rfl (List.Mem.tail _ (List.Mem.tail _ (List.Mem.head _))) ?_
        refine w_iconst (v := 1) dX9_set_21 (by decide) ?_
        refine w_aload_n dX9_set_22 rfl (List.Mem.tail _ (List.Mem.head _)) ?_
        refine w_getM (ci := 9) (k := 5) (b := u) dX9_set_23 fl_9_48 (by decide) (gT hG2 rfl (lt_of rfl)) hG2.2.2.1 ?_
        refine w_getR (ci := 2) (k := 0) (b := (u + 1)) dX9_set_26 fl_9_87 (by decide) (gT hG2 (IsMk_t0 hG.2.2.2.2) (IsMk_lt hG.2.2.2.2 (k := 0) (by decide))) (gR hG2 (IsMk_r0_0 hG.2.2.2.2)) ?_
        refine w_getI (ci := 7) (k := 8) dX9_set_29 fl_9_91 (by decide) (gT hG2 (IsMk_t1 hG.2.2.2.2) (IsMk_lt hG.2.2.2.2 (k := 1) (by decide))) ?_
        refine w_ishl dX9_set_32 ?_
        refine w_icmp_ge (tgt := 47) dX9_set_33 rfl (fun c9 => ?_) (fun c9 => ?_)
        · replace h := h.1 c9
          refine w_iconst (v := 0) dX9_set_47 (by decide) ?_
          exact w_weak (l' := [(0, .ref 0), (1, .int x1), (2, .int x2), (3, .int r4)]) (by intro q hq; simp only [List.mem_cons, List.not_mem_nil, or_false] at hq ⊢; rcases hq with rfl | rfl | rfl | rfl <;> simp) h
        · replace h := h.2 c9
          refine w_iload_n dX9_set_36 rfl (List.Mem.tail _ (List.Mem.tail _ (List.Mem.tail _ (List.Mem.head _)))) ?_
          obtain ⟨r8, σ5, hc7, hG6, h⟩ := h
          refine w_callS dX9_set_37 ml_9_210 ⟨ok_X9_isBit, st_X9_isBit⟩ hs_X9_isBit (As := [.int x2]) rfl rfl (Nat.le_of_ble_eq_true rfl) hc7 ?_
          show wp C 9 cX9_set 5 (some .int) false [] sc P 40 [(3, .int r4), (0, .ref 0), (1, .int x1), (2, .int x2)] [.int r8, .ref 0] σ5
          refine w_if_eq (tgt := 47) dX9_set_40 rfl (fun c9 => ?_) (fun c9 => ?_)
          · replace h := h.1 c9
            refine w_iconst (v := 0) dX9_set_47 (by decide) ?_
            exact w_weak (l' := [(0, .ref 0), (1, .int x1), (2, .int x2), (3, .int r4)]) (by intro q hq; simp only [List.mem_cons, List.not_mem_nil, or_false] at hq ⊢; rcases hq with rfl | rfl | rfl | rfl <;> simp) h
          · replace h := h.2 c9
            refine w_iconst (v := 1) dX9_set_43 (by decide) ?_
            refine w_goto (tgt := 48) dX9_set_44 rfl ?_
            exact w_weak (l' := [(0, .ref 0), (1, .int x1), (2, .int x2), (3, .int r4)]) (by intro q hq; simp only [List.mem_cons, List.not_mem_nil, or_false] at hq ⊢; rcases hq with rfl | rfl | rfl | rfl <;> simp) h
set_option maxRecDepth 10000 in
theorem v_X9_set_48 {C : aM → List Value → aH → aO → aH → Prop} {sc : Nat × (Nat → Int32)} {P : aO → aH → Prop} {σ : aH} {u : Nat}  {s0 : Int32} {x1 : Int32} {x2 : Int32} {x3 : Int32} (hG : G σ u) 
    (h : ((∃ (e9 : Nat) (σ1 : aH), C mX9_require [.ref 0, .int s0] σ (.inr e9) σ1 ∧ P (.inr e9) σ1) ∨ (∃ σ1 : aH, C mX9_require [.ref 0, .int s0] σ (.inl none) σ1 ∧ G σ1 u ∧ (∃ (r7 : Int32) (σ4 : aH), C mX9_lowestBit [.int x1, .int 0] σ1 (.inl (some (.int r7))) σ4 ∧ G σ4 u ∧ (∃ (r11 : Int32) (σ8 : aH), C mX9_lowestBit [.int x1, .int (r7 + 1)] σ4 (.inl (some (.int r11))) σ8 ∧ G σ8 u ∧ (∃ σ12 : aH, C mX4_placeAnew [.ref 26, .int r7, .int r11] σ8 (.inl none) σ12 ∧ G σ12 u ∧ ((¬ x2 = 0 → P (.inl (some (.int (gI σ12 26 7)))) σ12) ∧ (x2 = 0 → P (.inl (some (.int (gI σ12 26 6)))) σ12)))))))) :
    wp C 9 cX9_set 5 (some .int) false [] sc P 48 [(0, .ref 0), (1, .int x1), (2, .int x2), (3, .int x3)] [.int s0, .ref 0] σ := by
  rcases h with h | h
  · obtain ⟨e9, σ1, hc3, h⟩ := h
    exact w_throwV dX9_set_48 mp_9_69 ⟨ok_X9_require, vi_X9_require⟩ hs_X9_require (As := [.int s0]) rfl rfl (gT hG rfl (lt_of rfl)) (Nat.le_of_ble_eq_true rfl) hc3 rfl h
  · obtain ⟨σ1, hc3, hG2, h⟩ := h
    refine w_callV dX9_set_48 ml_9_69 ⟨ok_X9_require, vi_X9_require⟩ hs_X9_require (As := [.int s0]) rfl rfl (gT hG rfl (lt_of rfl)) (Nat.le_of_ble_eq_true rfl) hc3 ?_
    show wp C 9 cX9_set 5 (some .int) false [] sc P 51 [(0, .ref 0), (1, .int x1), (2, .int x2), (3, .int x3)] [] σ1
    refine w_iload_n dX9_set_51 rfl (List.Mem.tail _ (List.Mem.head _)) ?_
    refine w_iconst (v := 0) dX9_set_52 (by decide) ?_
    obtain ⟨r7, σ4, hc6, hG5, h⟩ := h
    refine w_callS dX9_set_53 ml_9_228 ⟨ok_X9_lowestBit, st_X9_lowestBit⟩ hs_X9_lowestBit (As := [.int x1, .int 0]) rfl rfl (Nat.le_of_ble_eq_true rfl) hc6 ?_
    show wp C 9 cX9_set 5 (some .int) false [] sc P 56 [(0, .ref 0), (1, .int x1), (2, .int x2), (3, .int x3)] [.int r7] σ4
    refine w_istore (l' := [(4, .int r7), (0, .ref 0), (1, .int x1), (2, .int x2), (3, .int x3)]) dX9_set_56 (by decide) rfl ?_
    refine w_aload_n dX9_set_58 rfl (List.Mem.tail _ (List.Mem.head _)) ?_
    refine w_getR (ci := 9) (k := 3) (b := 26) dX9_set_59 fl_9_33 (by decide) (gT hG5 rfl (lt_of rfl)) (gR hG5 (b := 26) rfl) ?_
    refine w_iload dX9_set_62 (List.Mem.head _) ?_
    refine w_iload_n dX9_set_64 rfl (List.Mem.tail _ (List.Mem.tail _ (List.Mem.head _))) ?_
    refine w_iload dX9_set_65 (List.Mem.head _) ?_
    refine w_iconst (v := 1) dX9_set_67 (by decide) ?_
    refine w_iadd dX9_set_68 ?_
    obtain ⟨r11, σ8, hc10, hG9, h⟩ := h
    refine w_callS dX9_set_69 ml_9_228 ⟨ok_X9_lowestBit, st_X9_lowestBit⟩ hs_X9_lowestBit (As := [.int x1, .int (r7 + 1)]) rfl rfl (Nat.le_of_ble_eq_true rfl) hc10 ?_
    show wp C 9 cX9_set 5 (some .int) false [] sc P 72 [(4, .int r7), (0, .ref 0), (1, .int x1), (2, .int x2), (3, .int x3)] [.int r11, .int r7, .ref 26] σ8
    obtain ⟨σ12, hc14, hG13, h⟩ := h
    refine w_callV dX9_set_72 ml_9_231 ⟨ok_X4_placeAnew, vi_X4_placeAnew⟩ hs_X4_placeAnew (As := [.int r7, .int r11]) rfl rfl (gT hG9 rfl (lt_of rfl)) (Nat.le_of_ble_eq_true rfl) hc14 ?_
    show wp C 9 cX9_set 5 (some .int) false [] sc P 75 [(4, .int r7), (0, .ref 0), (1, .int x1), (2, .int x2), (3, .int x3)] [] σ12
    refine w_iload_n dX9_set_75 rfl (List.Mem.tail _ (List.Mem.tail _ (List.Mem.tail _ (List.Mem.head _)))) ?_
    refine w_if_ne (tgt := 89) dX9_set_76 rfl (fun c9 => ?_) (fun c9 => ?_)
    · replace h := h.1 c9
      refine w_aload_n dX9_set_89 rfl (List.Mem.tail _ (List.Mem.head _)) ?_
      refine w_getR (ci := 9) (k := 3) (b := 26) dX9_set_90 fl_9_33 (by decide) (gT hG13 rfl (lt_of rfl)) (gR hG13 (b := 26) rfl) ?_
      refine w_getI (ci := 4) (k := 7) dX9_set_93 fl_9_237 (by decide) (gT hG13 rfl (lt_of rfl)) ?_
      exact w_iret dX9_set_96 rfl h
    · replace h := h.2 c9
      refine w_aload_n dX9_set_79 rfl (List.Mem.tail _ (List.Mem.head _)) ?_
      refine w_getR (ci := 9) (k := 3) (b := 26) dX9_set_80 fl_9_33 (by decide) (gT hG13 rfl (lt_of rfl)) (gR hG13 (b := 26) rfl) ?_
      refine w_getI (ci := 4) (k := 6) dX9_set_83 fl_9_234 (by decide) (gT hG13 rfl (lt_of rfl)) ?_
      refine w_goto (tgt := 96) dX9_set_86 rfl ?_
      exact w_iret dX9_set_96 rfl h
theorem dX9_exchange_0 : decode cX9_exchange 0 = .ok (.aload_n 0, 1) := by decide +kernel
theorem dX9_exchange_1 : decode cX9_exchange 1 = .ok (.getfield 33, 3) := by decide +kernel
theorem dX9_exchange_4 : decode cX9_exchange 4 = .ok (.invokevirtual 240, 3) := by decide +kernel
theorem dX9_exchange_7 : decode cX9_exchange 7 = .ok (.ireturn, 1) := by decide +kernel
set_option maxRecDepth 10000 in
theorem v_X9_exchange_0 {C : aM → List Value → aH → aO → aH → Prop} {sc : Nat × (Nat → Int32)} {P : aO → aH → Prop} {σ : aH} {u : Nat}   (hG : G σ u) 
    (h : (∃ (r4 : Int32) (σ1 : aH), C mX4_bestExchange [.ref 26] σ (.inl (some (.int r4))) σ1 ∧ G σ1 u ∧ P (.inl (some (.int r4))) σ1)) :
    wp C 9 cX9_exchange 1 (some .int) false [] sc P 0 [(0, .ref 0)] [] σ := by
  refine w_aload_n dX9_exchange_0 rfl (List.Mem.head _) ?_
  refine w_getR (ci := 9) (k := 3) (b := 26) dX9_exchange_1 fl_9_33 (by decide) (gT hG rfl (lt_of rfl)) (gR hG (b := 26) rfl) ?_
  obtain ⟨r4, σ1, hc3, hG2, h⟩ := h
  refine w_callV dX9_exchange_4 ml_9_240 ⟨ok_X4_bestExchange, vi_X4_bestExchange⟩ hs_X4_bestExchange (As := []) rfl rfl (gT hG rfl (lt_of rfl)) (Nat.le_of_ble_eq_true rfl) hc3 ?_
  show wp C 9 cX9_exchange 1 (some .int) false [] sc P 7 [(0, .ref 0)] [.int r4] σ1
  exact w_iret dX9_exchange_7 rfl h
theorem dX9_pole_0 : decode cX9_pole 0 = .ok (.aload_n 0, 1) := by decide +kernel
theorem dX9_pole_1 : decode cX9_pole 1 = .ok (.iload_n 1, 1) := by decide +kernel
theorem dX9_pole_2 : decode cX9_pole 2 = .ok (.invokestatic 220, 3) := by decide +kernel
theorem dX9_pole_5 : decode cX9_pole 5 = .ok (.ifCond .eq 14, 3) := by decide +kernel
theorem dX9_pole_8 : decode cX9_pole 8 = .ok (.iload_n 2, 1) := by decide +kernel
theorem dX9_pole_9 : decode cX9_pole 9 = .ok (.invokestatic 210, 3) := by decide +kernel
theorem dX9_pole_12 : decode cX9_pole 12 = .ok (.ifCond .eq 7, 3) := by decide +kernel
theorem dX9_pole_15 : decode cX9_pole 15 = .ok (.iconst 1, 1) := by decide +kernel
theorem dX9_pole_16 : decode cX9_pole 16 = .ok (.goto 4, 3) := by decide +kernel
theorem dX9_pole_19 : decode cX9_pole 19 = .ok (.iconst 0, 1) := by decide +kernel
theorem dX9_pole_20 : decode cX9_pole 20 = .ok (.invokevirtual 69, 3) := by decide +kernel
theorem dX9_pole_23 : decode cX9_pole 23 = .ok (.aload_n 0, 1) := by decide +kernel
theorem dX9_pole_24 : decode cX9_pole 24 = .ok (.getfield 33, 3) := by decide +kernel
theorem dX9_pole_27 : decode cX9_pole 27 = .ok (.iload_n 1, 1) := by decide +kernel
theorem dX9_pole_28 : decode cX9_pole 28 = .ok (.invokevirtual 244, 3) := by decide +kernel
theorem dX9_pole_31 : decode cX9_pole 31 = .ok (.aload_n 0, 1) := by decide +kernel
theorem dX9_pole_32 : decode cX9_pole 32 = .ok (.getfield 33, 3) := by decide +kernel
theorem dX9_pole_35 : decode cX9_pole 35 = .ok (.getfield 237, 3) := by decide +kernel
theorem dX9_pole_38 : decode cX9_pole 38 = .ok (.iconst (-1), 1) := by decide +kernel
theorem dX9_pole_39 : decode cX9_pole 39 = .ok (.if_icmp .ne 5, 3) := by decide +kernel
theorem dX9_pole_42 : decode cX9_pole 42 = .ok (.iconst (-1), 1) := by decide +kernel
theorem dX9_pole_43 : decode cX9_pole 43 = .ok (.ireturn, 1) := by decide +kernel
theorem dX9_pole_44 : decode cX9_pole 44 = .ok (.iload_n 2, 1) := by decide +kernel
theorem dX9_pole_45 : decode cX9_pole 45 = .ok (.ifCond .ne 13, 3) := by decide +kernel
theorem dX9_pole_48 : decode cX9_pole 48 = .ok (.aload_n 0, 1) := by decide +kernel
theorem dX9_pole_49 : decode cX9_pole 49 = .ok (.getfield 33, 3) := by decide +kernel
theorem dX9_pole_52 : decode cX9_pole 52 = .ok (.getfield 237, 3) := by decide +kernel
theorem dX9_pole_55 : decode cX9_pole 55 = .ok (.goto 10, 3) := by decide +kernel
theorem dX9_pole_58 : decode cX9_pole 58 = .ok (.aload_n 0, 1) := by decide +kernel
theorem dX9_pole_59 : decode cX9_pole 59 = .ok (.getfield 33, 3) := by decide +kernel
theorem dX9_pole_62 : decode cX9_pole 62 = .ok (.getfield 234, 3) := by decide +kernel
theorem dX9_pole_65 : decode cX9_pole 65 = .ok (.ireturn, 1) := by decide +kernel
set_option maxRecDepth 10000 in
theorem v_X9_pole_0 {C : aM → List Value → aH → aO → aH → Prop} {sc : Nat × (Nat → Int32)} {P : aO → aH → Prop} {σ : aH} {u : Nat}  {x1 : Int32} {x2 : Int32} (hG : G σ u) 
    (h : (∃ (r4 : Int32) (σ1 : aH), C mX9_isHeight [.int x1] σ (.inl (some (.int r4))) σ1 ∧ G σ1 u ∧ ((r4 = 0 → wp C 9 cX9_pole 3 (some .int) false [] sc P 20 [(0, .ref 0), (1, .int x1), (2, .int x2)] [.int 0, .ref 0] σ1) ∧ (¬ (r4 = 0) → (∃ (r8 : Int32) (σ5 : aH), C mX9_isBit [.int x2] σ1 (.inl (some (.int r8))) σ5 ∧ G σ5 u ∧ ((r8 = 0 → wp C 9 cX9_pole 3 (some .int) false [] sc P 20 [(0, .ref 0), (1, .int x1), (2, .int x2)] [.int 0, .ref 0] σ5) ∧ (¬ (r8 = 0) → wp C 9 cX9_pole 3 (some .int) false [] sc P 20 [(0, .ref 0), (1, .int x1), (2, .int x2)] [.int 1, .ref 0] σ5))))))) :
    wp C 9 cX9_pole 3 (some .int) false [] sc P 0 [(0, .ref 0), (1, .int x1), (2, .int x2)] [] σ := by
  refine w_aload_n dX9_pole_0 rfl (List.Mem.head _) ?_
  refine w_iload_n dX9_pole_1 rfl (List.Mem.tail _ (List.Mem.head _)) ?_
  obtain ⟨r4, σ1, hc3, hG2, h⟩ := h
  refine w_callS dX9_pole_2 ml_9_220 ⟨ok_X9_isHeight, st_X9_isHeight⟩ hs_X9_isHeight (As := [.int x1]) rfl rfl (Nat.le_of_ble_eq_true rfl) hc3 ?_
  show wp C 9 cX9_pole 3 (some .int) false [] sc P 5 [(0, .ref 0), (1, .int x1), (2, .int x2)] [.int r4, .ref 0] σ1
  refine w_if_eq (tgt := 19) dX9_pole_5 rfl (fun c9 => ?_) (fun c9 => ?_)
  · replace h := h.1 c9
    refine w_iconst (v := 0) dX9_pole_19 (by decide) ?_
    exact h
  · replace h := h.2 c9
    refine w_iload_n dX9_pole_8 rfl (List.Mem.tail _ (List.Mem.tail _ (List.Mem.head _))) ?_
    obtain ⟨r8, σ5, hc7, hG6, h⟩ := h
    refine w_callS dX9_pole_9 ml_9_210 ⟨ok_X9_isBit, st_X9_isBit⟩ hs_X9_isBit (As := [.int x2]) rfl rfl (Nat.le_of_ble_eq_true rfl) hc7 ?_
    show wp C 9 cX9_pole 3 (some .int) false [] sc P 12 [(0, .ref 0), (1, .int x1), (2, .int x2)] [.int r8, .ref 0] σ5
    refine w_if_eq (tgt := 19) dX9_pole_12 rfl (fun c9 => ?_) (fun c9 => ?_)
    · replace h := h.1 c9
      refine w_iconst (v := 0) dX9_pole_19 (by decide) ?_
      exact h
    · replace h := h.2 c9
      refine w_iconst (v := 1) dX9_pole_15 (by decide) ?_
      refine w_goto (tgt := 20) dX9_pole_16 rfl ?_
      exact h
set_option maxRecDepth 10000 in
theorem v_X9_pole_20 {C : aM → List Value → aH → aO → aH → Prop} {sc : Nat × (Nat → Int32)} {P : aO → aH → Prop} {σ : aH} {u : Nat}  {s0 : Int32} {x1 : Int32} {x2 : Int32} (hG : G σ u) 
    (h : ((∃ (e9 : Nat) (σ1 : aH), C mX9_require [.ref 0, .int s0] σ (.inr e9) σ1 ∧ P (.inr e9) σ1) ∨ (∃ σ1 : aH, C mX9_require [.ref 0, .int s0] σ (.inl none) σ1 ∧ G σ1 u ∧ (∃ σ4 : aH, C mX4_placePole [.ref 26, .int x1] σ1 (.inl none) σ4 ∧ G σ4 u ∧ ((¬ (gI σ4 26 7) = (-1) → ((¬ x2 = 0 → P (.inl (some (.int (gI σ4 26 6)))) σ4) ∧ (x2 = 0 → P (.inl (some (.int (gI σ4 26 7)))) σ4))) ∧ ((gI σ4 26 7) = (-1) → P (.inl (some (.int (-1)))) σ4)))))) :
    wp C 9 cX9_pole 3 (some .int) false [] sc P 20 [(0, .ref 0), (1, .int x1), (2, .int x2)] [.int s0, .ref 0] σ := by
  rcases h with h | h
  · obtain ⟨e9, σ1, hc3, h⟩ := h
    exact w_throwV dX9_pole_20 mp_9_69 ⟨ok_X9_require, vi_X9_require⟩ hs_X9_require (As := [.int s0]) rfl rfl (gT hG rfl (lt_of rfl)) (Nat.le_of_ble_eq_true rfl) hc3 rfl h
  · obtain ⟨σ1, hc3, hG2, h⟩ := h
    refine w_callV dX9_pole_20 ml_9_69 ⟨ok_X9_require, vi_X9_require⟩ hs_X9_require (As := [.int s0]) rfl rfl (gT hG rfl (lt_of rfl)) (Nat.le_of_ble_eq_true rfl) hc3 ?_
    show wp C 9 cX9_pole 3 (some .int) false [] sc P 23 [(0, .ref 0), (1, .int x1), (2, .int x2)] [] σ1
    refine w_aload_n dX9_pole_23 rfl (List.Mem.head _) ?_
    refine w_getR (ci := 9) (k := 3) (b := 26) dX9_pole_24 fl_9_33 (by decide) (gT hG2 rfl (lt_of rfl)) (gR hG2 (b := 26) rfl) ?_
    refine w_iload_n dX9_pole_27 rfl (List.Mem.tail _ (List.Mem.head _)) ?_
    obtain ⟨σ4, hc6, hG5, h⟩ := h
    refine w_callV dX9_pole_28 ml_9_244 ⟨ok_X4_placePole, vi_X4_placePole⟩ hs_X4_placePole (As := [.int x1]) rfl rfl (gT hG2 rfl (lt_of rfl)) (Nat.le_of_ble_eq_true rfl) hc6 ?_
    show wp C 9 cX9_pole 3 (some .int) false [] sc P 31 [(0, .ref 0), (1, .int x1), (2, .int x2)] [] σ4
    refine w_aload_n dX9_pole_31 rfl (List.Mem.head _) ?_
    refine w_getR (ci := 9) (k := 3) (b := 26) dX9_pole_32 fl_9_33 (by decide) (gT hG5 rfl (lt_of rfl)) (gR hG5 (b := 26) rfl) ?_
    refine w_getI (ci := 4) (k := 7) dX9_pole_35 fl_9_237 (by decide) (gT hG5 rfl (lt_of rfl)) ?_
    refine w_iconst (v := (-1)) dX9_pole_38 (by decide) ?_
    refine w_icmp_ne (tgt := 44) dX9_pole_39 rfl (fun c9 => ?_) (fun c9 => ?_)
    · replace h := h.1 c9
      refine w_iload_n dX9_pole_44 rfl (List.Mem.tail _ (List.Mem.tail _ (List.Mem.head _))) ?_
      refine w_if_ne (tgt := 58) dX9_pole_45 rfl (fun c9 => ?_) (fun c9 => ?_)
      · replace h := h.1 c9
        refine w_aload_n dX9_pole_58 rfl (List.Mem.head _) ?_
        refine w_getR (ci := 9) (k := 3) (b := 26) dX9_pole_59 fl_9_33 (by decide) (gT hG5 rfl (lt_of rfl)) (gR hG5 (b := 26) rfl) ?_
        refine w_getI (ci := 4) (k := 6) dX9_pole_62 fl_9_234 (by decide) (gT hG5 rfl (lt_of rfl)) ?_
        exact w_iret dX9_pole_65 rfl h
      · replace h := h.2 c9
        refine w_aload_n dX9_pole_48 rfl (List.Mem.head _) ?_
        refine w_getR (ci := 9) (k := 3) (b := 26) dX9_pole_49 fl_9_33 (by decide) (gT hG5 rfl (lt_of rfl)) (gR hG5 (b := 26) rfl) ?_
        refine w_getI (ci := 4) (k := 7) dX9_pole_52 fl_9_237 (by decide) (gT hG5 rfl (lt_of rfl)) ?_
        refine w_goto (tgt := 65) dX9_pole_55 rfl ?_
        exact w_iret dX9_pole_65 rfl h
    · replace h := h.2 c9
      refine w_iconst (v := (-1)) dX9_pole_42 (by decide) ?_
      exact w_iret dX9_pole_43 rfl h
theorem dX9_wish_0 : decode cX9_wish 0 = .ok (.aload_n 0, 1) := by decide +kernel
theorem dX9_wish_1 : decode cX9_wish 1 = .ok (.iload_n 1, 1) := by decide +kernel
theorem dX9_wish_2 : decode cX9_wish 2 = .ok (.invokevirtual 118, 3) := by decide +kernel
theorem dX9_wish_5 : decode cX9_wish 5 = .ok (.aload_n 0, 1) := by decide +kernel
theorem dX9_wish_6 : decode cX9_wish 6 = .ok (.getfield 33, 3) := by decide +kernel
theorem dX9_wish_9 : decode cX9_wish 9 = .ok (.iload_n 1, 1) := by decide +kernel
theorem dX9_wish_10 : decode cX9_wish 10 = .ok (.invokevirtual 247, 3) := by decide +kernel
theorem dX9_wish_13 : decode cX9_wish 13 = .ok (.ireturn, 1) := by decide +kernel
set_option maxRecDepth 10000 in
theorem v_X9_wish_0 {C : aM → List Value → aH → aO → aH → Prop} {sc : Nat × (Nat → Int32)} {P : aO → aH → Prop} {σ : aH} {u : Nat}  {x1 : Int32} (hG : G σ u) 
    (h : ((∃ (e9 : Nat) (σ1 : aH), C mX9_requireStall [.ref 0, .int x1] σ (.inr e9) σ1 ∧ P (.inr e9) σ1) ∨ (∃ σ1 : aH, C mX9_requireStall [.ref 0, .int x1] σ (.inl none) σ1 ∧ G σ1 u ∧ (∃ (r7 : Int32) (σ4 : aH), C mX4_wishOf [.ref 26, .int x1] σ1 (.inl (some (.int r7))) σ4 ∧ G σ4 u ∧ P (.inl (some (.int r7))) σ4)))) :
    wp C 9 cX9_wish 2 (some .int) false [] sc P 0 [(0, .ref 0), (1, .int x1)] [] σ := by
  refine w_aload_n dX9_wish_0 rfl (List.Mem.head _) ?_
  refine w_iload_n dX9_wish_1 rfl (List.Mem.tail _ (List.Mem.head _)) ?_
  rcases h with h | h
  · obtain ⟨e9, σ1, hc3, h⟩ := h
    exact w_throwV dX9_wish_2 mp_9_118 ⟨ok_X9_requireStall, vi_X9_requireStall⟩ hs_X9_requireStall (As := [.int x1]) rfl rfl (gT hG rfl (lt_of rfl)) (Nat.le_of_ble_eq_true rfl) hc3 rfl h
  · obtain ⟨σ1, hc3, hG2, h⟩ := h
    refine w_callV dX9_wish_2 ml_9_118 ⟨ok_X9_requireStall, vi_X9_requireStall⟩ hs_X9_requireStall (As := [.int x1]) rfl rfl (gT hG rfl (lt_of rfl)) (Nat.le_of_ble_eq_true rfl) hc3 ?_
    show wp C 9 cX9_wish 2 (some .int) false [] sc P 5 [(0, .ref 0), (1, .int x1)] [] σ1
    refine w_aload_n dX9_wish_5 rfl (List.Mem.head _) ?_
    refine w_getR (ci := 9) (k := 3) (b := 26) dX9_wish_6 fl_9_33 (by decide) (gT hG2 rfl (lt_of rfl)) (gR hG2 (b := 26) rfl) ?_
    refine w_iload_n dX9_wish_9 rfl (List.Mem.tail _ (List.Mem.head _)) ?_
    obtain ⟨r7, σ4, hc6, hG5, h⟩ := h
    refine w_callV dX9_wish_10 ml_9_247 ⟨ok_X4_wishOf, vi_X4_wishOf⟩ hs_X4_wishOf (As := [.int x1]) rfl rfl (gT hG2 rfl (lt_of rfl)) (Nat.le_of_ble_eq_true rfl) hc6 ?_
    show wp C 9 cX9_wish 2 (some .int) false [] sc P 13 [(0, .ref 0), (1, .int x1)] [.int r7] σ4
    exact w_iret dX9_wish_13 rfl h
theorem dX9_play_0 : decode cX9_play 0 = .ok (.aload_n 0, 1) := by decide +kernel
theorem dX9_play_1 : decode cX9_play 1 = .ok (.getfield 33, 3) := by decide +kernel
theorem dX9_play_4 : decode cX9_play 4 = .ok (.invokevirtual 250, 3) := by decide +kernel
theorem dX9_play_7 : decode cX9_play 7 = .ok (.ifCond .eq 7, 3) := by decide +kernel
theorem dX9_play_10 : decode cX9_play 10 = .ok (.iconst 1, 1) := by decide +kernel
theorem dX9_play_11 : decode cX9_play 11 = .ok (.goto 4, 3) := by decide +kernel
theorem dX9_play_14 : decode cX9_play 14 = .ok (.iconst 0, 1) := by decide +kernel
theorem dX9_play_15 : decode cX9_play 15 = .ok (.ireturn, 1) := by decide +kernel
set_option maxRecDepth 10000 in
theorem v_X9_play_0 {C : aM → List Value → aH → aO → aH → Prop} {sc : Nat × (Nat → Int32)} {P : aO → aH → Prop} {σ : aH} {u : Nat}   (hG : G σ u) 
    (h : (∃ (r4 : Int32) (σ1 : aH), C mX4_playOut [.ref 26] σ (.inl (some (.int r4))) σ1 ∧ G σ1 u ∧ ((r4 = 0 → P (.inl (some (.int 0))) σ1) ∧ (¬ (r4 = 0) → P (.inl (some (.int 1))) σ1)))) :
    wp C 9 cX9_play 1 (some .int) false [] sc P 0 [(0, .ref 0)] [] σ := by
  refine w_aload_n dX9_play_0 rfl (List.Mem.head _) ?_
  refine w_getR (ci := 9) (k := 3) (b := 26) dX9_play_1 fl_9_33 (by decide) (gT hG rfl (lt_of rfl)) (gR hG (b := 26) rfl) ?_
  obtain ⟨r4, σ1, hc3, hG2, h⟩ := h
  refine w_callV dX9_play_4 ml_9_250 ⟨ok_X4_playOut, vi_X4_playOut⟩ hs_X4_playOut (As := []) rfl rfl (gT hG rfl (lt_of rfl)) (Nat.le_of_ble_eq_true rfl) hc3 ?_
  show wp C 9 cX9_play 1 (some .int) false [] sc P 7 [(0, .ref 0)] [.int r4] σ1
  refine w_if_eq (tgt := 14) dX9_play_7 rfl (fun c9 => ?_) (fun c9 => ?_)
  · replace h := h.1 c9
    refine w_iconst (v := 0) dX9_play_14 (by decide) ?_
    exact w_iret dX9_play_15 rfl h
  · replace h := h.2 c9
    refine w_iconst (v := 1) dX9_play_10 (by decide) ?_
    refine w_goto (tgt := 15) dX9_play_11 rfl ?_
    exact w_iret dX9_play_15 rfl h
theorem dX9_rounds_0 : decode cX9_rounds 0 = .ok (.aload_n 0, 1) := by decide +kernel
theorem dX9_rounds_1 : decode cX9_rounds 1 = .ok (.getfield 33, 3) := by decide +kernel
theorem dX9_rounds_4 : decode cX9_rounds 4 = .ok (.getfield 84, 3) := by decide +kernel
theorem dX9_rounds_7 : decode cX9_rounds 7 = .ok (.ireturn, 1) := by decide +kernel
set_option maxRecDepth 10000 in
theorem v_X9_rounds_0 {C : aM → List Value → aH → aO → aH → Prop} {sc : Nat × (Nat → Int32)} {P : aO → aH → Prop} {σ : aH} {u : Nat}   (hG : G σ u) 
    (h : P (.inl (some (.int (gI σ 26 12)))) σ) :
    wp C 9 cX9_rounds 1 (some .int) false [] sc P 0 [(0, .ref 0)] [] σ := by
  refine w_aload_n dX9_rounds_0 rfl (List.Mem.head _) ?_
  refine w_getR (ci := 9) (k := 3) (b := 26) dX9_rounds_1 fl_9_33 (by decide) (gT hG rfl (lt_of rfl)) (gR hG (b := 26) rfl) ?_
  refine w_getI (ci := 4) (k := 12) dX9_rounds_4 fl_9_84 (by decide) (gT hG rfl (lt_of rfl)) ?_
  exact w_iret dX9_rounds_7 rfl h
theorem dX9_cold_0 : decode cX9_cold 0 = .ok (.aload_n 0, 1) := by decide +kernel
theorem dX9_cold_1 : decode cX9_cold 1 = .ok (.iload_n 1, 1) := by decide +kernel
theorem dX9_cold_2 : decode cX9_cold 2 = .ok (.invokevirtual 118, 3) := by decide +kernel
theorem dX9_cold_5 : decode cX9_cold 5 = .ok (.aload_n 0, 1) := by decide +kernel
theorem dX9_cold_6 : decode cX9_cold 6 = .ok (.iload_n 2, 1) := by decide +kernel
theorem dX9_cold_7 : decode cX9_cold 7 = .ok (.iconst (-1), 1) := by decide +kernel
theorem dX9_cold_8 : decode cX9_cold 8 = .ok (.if_icmp .eq 10, 3) := by decide +kernel
theorem dX9_cold_11 : decode cX9_cold 11 = .ok (.iload_n 2, 1) := by decide +kernel
theorem dX9_cold_12 : decode cX9_cold 12 = .ok (.invokestatic 181, 3) := by decide +kernel
theorem dX9_cold_15 : decode cX9_cold 15 = .ok (.ifCond .eq 7, 3) := by decide +kernel
theorem dX9_cold_18 : decode cX9_cold 18 = .ok (.iconst 1, 1) := by decide +kernel
theorem dX9_cold_19 : decode cX9_cold 19 = .ok (.goto 4, 3) := by decide +kernel
theorem dX9_cold_22 : decode cX9_cold 22 = .ok (.iconst 0, 1) := by decide +kernel
theorem dX9_cold_23 : decode cX9_cold 23 = .ok (.invokevirtual 69, 3) := by decide +kernel
theorem dX9_cold_26 : decode cX9_cold 26 = .ok (.aload_n 0, 1) := by decide +kernel
theorem dX9_cold_27 : decode cX9_cold 27 = .ok (.getfield 48, 3) := by decide +kernel
theorem dX9_cold_30 : decode cX9_cold 30 = .ok (.getfield 87, 3) := by decide +kernel
theorem dX9_cold_33 : decode cX9_cold 33 = .ok (.getfield 254, 3) := by decide +kernel
theorem dX9_cold_36 : decode cX9_cold 36 = .ok (.iload_n 1, 1) := by decide +kernel
theorem dX9_cold_37 : decode cX9_cold 37 = .ok (.iaload, 1) := by decide +kernel
theorem dX9_cold_38 : decode cX9_cold 38 = .ok (.istore_n 3, 1) := by decide +kernel
theorem dX9_cold_39 : decode cX9_cold 39 = .ok (.aload_n 0, 1) := by decide +kernel
theorem dX9_cold_40 : decode cX9_cold 40 = .ok (.getfield 48, 3) := by decide +kernel
theorem dX9_cold_43 : decode cX9_cold 43 = .ok (.getfield 87, 3) := by decide +kernel
theorem dX9_cold_46 : decode cX9_cold 46 = .ok (.getfield 254, 3) := by decide +kernel
theorem dX9_cold_49 : decode cX9_cold 49 = .ok (.iload_n 1, 1) := by decide +kernel
theorem dX9_cold_50 : decode cX9_cold 50 = .ok (.iload_n 2, 1) := by decide +kernel
theorem dX9_cold_51 : decode cX9_cold 51 = .ok (.iastore, 1) := by decide +kernel
theorem dX9_cold_52 : decode cX9_cold 52 = .ok (.iload_n 3, 1) := by decide +kernel
theorem dX9_cold_53 : decode cX9_cold 53 = .ok (.ireturn, 1) := by decide +kernel
set_option maxRecDepth 10000 in
theorem v_X9_cold_0 {C : aM → List Value → aH → aO → aH → Prop} {sc : Nat × (Nat → Int32)} {P : aO → aH → Prop} {σ : aH} {u : Nat}  {x1 : Int32} {x2 : Int32} (hG : G σ u) 
    (h : ((∃ (e9 : Nat) (σ1 : aH), C mX9_requireStall [.ref 0, .int x1] σ (.inr e9) σ1 ∧ P (.inr e9) σ1) ∨ (∃ σ1 : aH, C mX9_requireStall [.ref 0, .int x1] σ (.inl none) σ1 ∧ G σ1 u ∧ ((x2 = (-1) → wp C 9 cX9_cold 4 (some .int) false [] sc P 23 [(0, .ref 0), (1, .int x1), (2, .int x2)] [.int 1, .ref 0] σ1) ∧ (¬ (x2 = (-1)) → (∃ (r7 : Int32) (σ4 : aH), C mX9_isEnd [.int x2] σ1 (.inl (some (.int r7))) σ4 ∧ G σ4 u ∧ ((r7 = 0 → wp C 9 cX9_cold 4 (some .int) false [] sc P 23 [(0, .ref 0), (1, .int x1), (2, .int x2)] [.int 0, .ref 0] σ4) ∧ (¬ (r7 = 0) → wp C 9 cX9_cold 4 (some .int) false [] sc P 23 [(0, .ref 0), (1, .int x1), (2, .int x2)] [.int 1, .ref 0] σ4)))))))) :
    wp C 9 cX9_cold 4 (some .int) false [] sc P 0 [(0, .ref 0), (1, .int x1), (2, .int x2)] [] σ := by
  refine w_aload_n dX9_cold_0 rfl (List.Mem.head _) ?_
  refine w_iload_n dX9_cold_1 rfl (List.Mem.tail _ (List.Mem.head _)) ?_
  rcases h with h | h
  · obtain ⟨e9, σ1, hc3, h⟩ := h
    exact w_throwV dX9_cold_2 mp_9_118 ⟨ok_X9_requireStall, vi_X9_requireStall⟩ hs_X9_requireStall (As := [.int x1]) rfl rfl (gT hG rfl (lt_of rfl)) (Nat.le_of_ble_eq_true rfl) hc3 rfl h
  · obtain ⟨σ1, hc3, hG2, h⟩ := h
    refine w_callV dX9_cold_2 ml_9_118 ⟨ok_X9_requireStall, vi_X9_requireStall⟩ hs_X9_requireStall (As := [.int x1]) rfl rfl (gT hG rfl (lt_of rfl)) (Nat.le_of_ble_eq_true rfl) hc3 ?_
    show wp C 9 cX9_cold 4 (some .int) false [] sc P 5 [(0, .ref 0), (1, .int x1), (2, .int x2)] [] σ1
    refine w_aload_n dX9_cold_5 rfl (List.Mem.head _) ?_
    refine w_iload_n dX9_cold_6 rfl (List.Mem.tail _ (List.Mem.tail _ (List.Mem.head _))) ?_
    refine w_iconst (v := (-1)) dX9_cold_7 (by decide) ?_
    refine w_icmp_eq (tgt := 18) dX9_cold_8 rfl (fun c9 => ?_) (fun c9 => ?_)
    · replace h := h.1 c9
      refine w_iconst (v := 1) dX9_cold_18 (by decide) ?_
      refine w_goto (tgt := 23) dX9_cold_19 rfl ?_
      exact h
    · replace h := h.2 c9
      refine w_iload_n dX9_cold_11 rfl (List.Mem.tail _ (List.Mem.tail _ (List.Mem.head _))) ?_
      obtain ⟨r7, σ4, hc6, hG5, h⟩ := h
      refine w_callS dX9_cold_12 ml_9_181 ⟨ok_X9_isEnd, st_X9_isEnd⟩ hs_X9_isEnd (As := [.int x2]) rfl rfl (Nat.le_of_ble_eq_true rfl) hc6 ?_
      show wp C 9 cX9_cold 4 (some .int) false [] sc P 15 [(0, .ref 0), (1, .int x1), (2, .int x2)] [.int r7, .ref 0] σ4
      refine w_if_eq (tgt := 22) dX9_cold_15 rfl (fun c9 => ?_) (fun c9 => ?_)
      · replace h := h.1 c9
        refine w_iconst (v := 0) dX9_cold_22 (by decide) ?_
        exact h
      · replace h := h.2 c9
        refine w_iconst (v := 1) dX9_cold_18 (by decide) ?_
        refine w_goto (tgt := 23) dX9_cold_19 rfl ?_
        exact h
set_option maxRecDepth 10000 in
theorem v_X9_cold_23 {C : aM → List Value → aH → aO → aH → Prop} {sc : Nat × (Nat → Int32)} {P : aO → aH → Prop} {σ : aH} {u : Nat}  {s0 : Int32} {x1 : Int32} {x2 : Int32} (hG : G σ u) 
    (h : ((∃ (e9 : Nat) (σ1 : aH), C mX9_require [.ref 0, .int s0] σ (.inr e9) σ1 ∧ P (.inr e9) σ1) ∨ (∃ σ1 : aH, C mX9_require [.ref 0, .int s0] σ (.inl none) σ1 ∧ G σ1 u ∧ (vp_in x1 9 ∧ (∀ z4 : Int32, z4 = (gI σ1 (u + 9) x1.toNatClampNeg) → (vp_in x1 9 ∧ (∀ σ6 : aH, sI σ1 (u + 9) x1.toNatClampNeg x2 = σ6 → P (.inl (some (.int z4))) σ6))))))) :
    wp C 9 cX9_cold 4 (some .int) false [] sc P 23 [(0, .ref 0), (1, .int x1), (2, .int x2)] [.int s0, .ref 0] σ := by
  rcases h with h | h
  · obtain ⟨e9, σ1, hc3, h⟩ := h
    exact w_throwV dX9_cold_23 mp_9_69 ⟨ok_X9_require, vi_X9_require⟩ hs_X9_require (As := [.int s0]) rfl rfl (gT hG rfl (lt_of rfl)) (Nat.le_of_ble_eq_true rfl) hc3 rfl h
  · obtain ⟨σ1, hc3, hG2, h⟩ := h
    refine w_callV dX9_cold_23 ml_9_69 ⟨ok_X9_require, vi_X9_require⟩ hs_X9_require (As := [.int s0]) rfl rfl (gT hG rfl (lt_of rfl)) (Nat.le_of_ble_eq_true rfl) hc3 ?_
    show wp C 9 cX9_cold 4 (some .int) false [] sc P 26 [(0, .ref 0), (1, .int x1), (2, .int x2)] [] σ1
    refine w_aload_n dX9_cold_26 rfl (List.Mem.head _) ?_
    refine w_getM (ci := 9) (k := 5) (b := u) dX9_cold_27 fl_9_48 (by decide) (gT hG2 rfl (lt_of rfl)) hG2.2.2.1 ?_
    refine w_getR (ci := 2) (k := 0) (b := (u + 1)) dX9_cold_30 fl_9_87 (by decide) (gT hG2 (IsMk_t0 hG.2.2.2.2) (IsMk_lt hG.2.2.2.2 (k := 0) (by decide))) (gR hG2 (IsMk_r0_0 hG.2.2.2.2)) ?_
    refine w_getR (ci := 7) (k := 7) (b := (u + 9)) dX9_cold_33 fl_9_254 (by decide) (gT hG2 (IsMk_t1 hG.2.2.2.2) (IsMk_lt hG.2.2.2.2 (k := 1) (by decide))) (gR hG2 (IsMk_r1_7 hG.2.2.2.2)) ?_
    refine w_iload_n dX9_cold_36 rfl (List.Mem.tail _ (List.Mem.head _)) ?_
    obtain ⟨h9, h⟩ := h
    refine x_iald (n := 9) x1.toNatClampNeg dX9_cold_37 (gT hG2 (IsMk_t9 hG.2.2.2.2) (IsMk_lt hG.2.2.2.2 (k := 9) (by decide))) (gL hG2 (IsMk_n9 hG.2.2.2.2)) h9 rfl ?_
    refine top_i (fun z4 ez5 => ?_)
    replace h := h z4 ez5
    refine w_istore_n (l' := [(3, .int z4), (0, .ref 0), (1, .int x1), (2, .int x2)]) dX9_cold_38 rfl (by decide) rfl ?_
    refine w_aload_n dX9_cold_39 rfl (List.Mem.tail _ (List.Mem.head _)) ?_
    refine w_getM (ci := 9) (k := 5) (b := u) dX9_cold_40 fl_9_48 (by decide) (gT hG2 rfl (lt_of rfl)) hG2.2.2.1 ?_
    refine w_getR (ci := 2) (k := 0) (b := (u + 1)) dX9_cold_43 fl_9_87 (by decide) (gT hG2 (IsMk_t0 hG.2.2.2.2) (IsMk_lt hG.2.2.2.2 (k := 0) (by decide))) (gR hG2 (IsMk_r0_0 hG.2.2.2.2)) ?_
    refine w_getR (ci := 7) (k := 7) (b := (u + 9)) dX9_cold_46 fl_9_254 (by decide) (gT hG2 (IsMk_t1 hG.2.2.2.2) (IsMk_lt hG.2.2.2.2 (k := 1) (by decide))) (gR hG2 (IsMk_r1_7 hG.2.2.2.2)) ?_
    refine w_iload_n dX9_cold_49 rfl (List.Mem.tail _ (List.Mem.tail _ (List.Mem.head _))) ?_
    refine w_iload_n dX9_cold_50 rfl (List.Mem.tail _ (List.Mem.tail _ (List.Mem.tail _ (List.Mem.head _)))) ?_
    obtain ⟨h9, h⟩ := h
    refine y_iast (n := 9) x1.toNatClampNeg dX9_cold_51 (gT hG2 (IsMk_t9 hG.2.2.2.2) (IsMk_lt hG.2.2.2.2 (k := 9) (by decide))) (gL hG2 (IsMk_n9 hG.2.2.2.2)) h9 rfl (fun σ6 eσ7 => ?_)
    replace h := h σ6 eσ7
    have hG8 : G σ6 u := eσ7 ▸ G.sI hG2
    refine w_iload_n dX9_cold_52 rfl (List.Mem.head _) ?_
    exact w_iret dX9_cold_53 rfl h
theorem dX9_what_0 : decode cX9_what 0 = .ok (.aload_n 0, 1) := by decide +kernel
theorem dX9_what_1 : decode cX9_what 1 = .ok (.iload_n 1, 1) := by decide +kernel
theorem dX9_what_2 : decode cX9_what 2 = .ok (.invokestatic 210, 3) := by decide +kernel
theorem dX9_what_5 : decode cX9_what 5 = .ok (.invokevirtual 69, 3) := by decide +kernel
theorem dX9_what_8 : decode cX9_what 8 = .ok (.aload_n 0, 1) := by decide +kernel
theorem dX9_what_9 : decode cX9_what 9 = .ok (.getfield 33, 3) := by decide +kernel
theorem dX9_what_12 : decode cX9_what 12 = .ok (.invokevirtual 257, 3) := by decide +kernel
theorem dX9_what_15 : decode cX9_what 15 = .ok (.iload_n 1, 1) := by decide +kernel
theorem dX9_what_16 : decode cX9_what 16 = .ok (.ifCond .ne 13, 3) := by decide +kernel
theorem dX9_what_19 : decode cX9_what 19 = .ok (.aload_n 0, 1) := by decide +kernel
theorem dX9_what_20 : decode cX9_what 20 = .ok (.getfield 33, 3) := by decide +kernel
theorem dX9_what_23 : decode cX9_what 23 = .ok (.getfield 260, 3) := by decide +kernel
theorem dX9_what_26 : decode cX9_what 26 = .ok (.goto 10, 3) := by decide +kernel
theorem dX9_what_29 : decode cX9_what 29 = .ok (.aload_n 0, 1) := by decide +kernel
theorem dX9_what_30 : decode cX9_what 30 = .ok (.getfield 33, 3) := by decide +kernel
theorem dX9_what_33 : decode cX9_what 33 = .ok (.getfield 263, 3) := by decide +kernel
theorem dX9_what_36 : decode cX9_what 36 = .ok (.ireturn, 1) := by decide +kernel
set_option maxRecDepth 10000 in
theorem v_X9_what_0 {C : aM → List Value → aH → aO → aH → Prop} {sc : Nat × (Nat → Int32)} {P : aO → aH → Prop} {σ : aH} {u : Nat}  {x1 : Int32} (hG : G σ u) 
    (h : (∃ (r4 : Int32) (σ1 : aH), C mX9_isBit [.int x1] σ (.inl (some (.int r4))) σ1 ∧ G σ1 u ∧ ((∃ (e9 : Nat) (σ5 : aH), C mX9_require [.ref 0, .int r4] σ1 (.inr e9) σ5 ∧ P (.inr e9) σ5) ∨ (∃ σ5 : aH, C mX9_require [.ref 0, .int r4] σ1 (.inl none) σ5 ∧ G σ5 u ∧ (∃ σ8 : aH, C mX4_explain [.ref 26] σ5 (.inl none) σ8 ∧ G σ8 u ∧ ((¬ x1 = 0 → P (.inl (some (.int (gI σ8 26 11)))) σ8) ∧ (x1 = 0 → P (.inl (some (.int (gI σ8 26 10)))) σ8))))))) :
    wp C 9 cX9_what 2 (some .int) false [] sc P 0 [(0, .ref 0), (1, .int x1)] [] σ := by
  refine w_aload_n dX9_what_0 rfl (List.Mem.head _) ?_
  refine w_iload_n dX9_what_1 rfl (List.Mem.tail _ (List.Mem.head _)) ?_
  obtain ⟨r4, σ1, hc3, hG2, h⟩ := h
  refine w_callS dX9_what_2 ml_9_210 ⟨ok_X9_isBit, st_X9_isBit⟩ hs_X9_isBit (As := [.int x1]) rfl rfl (Nat.le_of_ble_eq_true rfl) hc3 ?_
  show wp C 9 cX9_what 2 (some .int) false [] sc P 5 [(0, .ref 0), (1, .int x1)] [.int r4, .ref 0] σ1
  rcases h with h | h
  · obtain ⟨e9, σ5, hc7, h⟩ := h
    exact w_throwV dX9_what_5 mp_9_69 ⟨ok_X9_require, vi_X9_require⟩ hs_X9_require (As := [.int r4]) rfl rfl (gT hG2 rfl (lt_of rfl)) (Nat.le_of_ble_eq_true rfl) hc7 rfl h
  · obtain ⟨σ5, hc7, hG6, h⟩ := h
    refine w_callV dX9_what_5 ml_9_69 ⟨ok_X9_require, vi_X9_require⟩ hs_X9_require (As := [.int r4]) rfl rfl (gT hG2 rfl (lt_of rfl)) (Nat.le_of_ble_eq_true rfl) hc7 ?_
    show wp C 9 cX9_what 2 (some .int) false [] sc P 8 [(0, .ref 0), (1, .int x1)] [] σ5
    refine w_aload_n dX9_what_8 rfl (List.Mem.head _) ?_
    refine w_getR (ci := 9) (k := 3) (b := 26) dX9_what_9 fl_9_33 (by decide) (gT hG6 rfl (lt_of rfl)) (gR hG6 (b := 26) rfl) ?_
    obtain ⟨σ8, hc10, hG9, h⟩ := h
    refine w_callV dX9_what_12 ml_9_257 ⟨ok_X4_explain, vi_X4_explain⟩ hs_X4_explain (As := []) rfl rfl (gT hG6 rfl (lt_of rfl)) (Nat.le_of_ble_eq_true rfl) hc10 ?_
    show wp C 9 cX9_what 2 (some .int) false [] sc P 15 [(0, .ref 0), (1, .int x1)] [] σ8
    refine w_iload_n dX9_what_15 rfl (List.Mem.tail _ (List.Mem.head _)) ?_
    refine w_if_ne (tgt := 29) dX9_what_16 rfl (fun c9 => ?_) (fun c9 => ?_)
    · replace h := h.1 c9
      refine w_aload_n dX9_what_29 rfl (List.Mem.head _) ?_
      refine w_getR (ci := 9) (k := 3) (b := 26) dX9_what_30 fl_9_33 (by decide) (gT hG9 rfl (lt_of rfl)) (gR hG9 (b := 26) rfl) ?_
      refine w_getI (ci := 4) (k := 11) dX9_what_33 fl_9_263 (by decide) (gT hG9 rfl (lt_of rfl)) ?_
      exact w_iret dX9_what_36 rfl h
    · replace h := h.2 c9
      refine w_aload_n dX9_what_19 rfl (List.Mem.head _) ?_
      refine w_getR (ci := 9) (k := 3) (b := 26) dX9_what_20 fl_9_33 (by decide) (gT hG9 rfl (lt_of rfl)) (gR hG9 (b := 26) rfl) ?_
      refine w_getI (ci := 4) (k := 10) dX9_what_23 fl_9_260 (by decide) (gT hG9 rfl (lt_of rfl)) ?_
      refine w_goto (tgt := 36) dX9_what_26 rfl ?_
      exact w_iret dX9_what_36 rfl h
theorem dX9_days_0 : decode cX9_days 0 = .ok (.aload_n 0, 1) := by decide +kernel
theorem dX9_days_1 : decode cX9_days 1 = .ok (.iload_n 1, 1) := by decide +kernel
theorem dX9_days_2 : decode cX9_days 2 = .ok (.iconst 1, 1) := by decide +kernel
theorem dX9_days_3 : decode cX9_days 3 = .ok (.if_icmp .lt 13, 3) := by decide +kernel
theorem dX9_days_6 : decode cX9_days 6 = .ok (.iload_n 1, 1) := by decide +kernel
theorem dX9_days_7 : decode cX9_days 7 = .ok (.bipush 99, 2) := by decide +kernel
theorem dX9_days_9 : decode cX9_days 9 = .ok (.if_icmp .gt 7, 3) := by decide +kernel
theorem dX9_days_12 : decode cX9_days 12 = .ok (.iconst 1, 1) := by decide +kernel
theorem dX9_days_13 : decode cX9_days 13 = .ok (.goto 4, 3) := by decide +kernel
theorem dX9_days_16 : decode cX9_days 16 = .ok (.iconst 0, 1) := by decide +kernel
theorem dX9_days_17 : decode cX9_days 17 = .ok (.invokevirtual 69, 3) := by decide +kernel
theorem dX9_days_20 : decode cX9_days 20 = .ok (.iconst 0, 1) := by decide +kernel
theorem dX9_days_21 : decode cX9_days 21 = .ok (.istore_n 2, 1) := by decide +kernel
theorem dX9_days_22 : decode cX9_days 22 = .ok (.iload_n 2, 1) := by decide +kernel
theorem dX9_days_23 : decode cX9_days 23 = .ok (.iload_n 1, 1) := by decide +kernel
theorem dX9_days_24 : decode cX9_days 24 = .ok (.if_icmp .ge 45, 3) := by decide +kernel
theorem dX9_days_27 : decode cX9_days 27 = .ok (.aload_n 0, 1) := by decide +kernel
theorem dX9_days_28 : decode cX9_days 28 = .ok (.getfield 48, 3) := by decide +kernel
theorem dX9_days_31 : decode cX9_days 31 = .ok (.getfield 103, 3) := by decide +kernel
theorem dX9_days_34 : decode cX9_days 34 = .ok (.sipush 999, 3) := by decide +kernel
theorem dX9_days_37 : decode cX9_days 37 = .ok (.if_icmp .ge 32, 3) := by decide +kernel
theorem dX9_days_40 : decode cX9_days 40 = .ok (.aload_n 0, 1) := by decide +kernel
theorem dX9_days_41 : decode cX9_days 41 = .ok (.getfield 48, 3) := by decide +kernel
theorem dX9_days_44 : decode cX9_days 44 = .ok (.dup, 1) := by decide +kernel
theorem dX9_days_45 : decode cX9_days 45 = .ok (.getfield 103, 3) := by decide +kernel
theorem dX9_days_48 : decode cX9_days 48 = .ok (.iconst 1, 1) := by decide +kernel
theorem dX9_days_49 : decode cX9_days 49 = .ok (.iadd, 1) := by decide +kernel
theorem dX9_days_50 : decode cX9_days 50 = .ok (.putfield 103, 3) := by decide +kernel
theorem dX9_days_53 : decode cX9_days 53 = .ok (.aload_n 0, 1) := by decide +kernel
theorem dX9_days_54 : decode cX9_days 54 = .ok (.getfield 48, 3) := by decide +kernel
theorem dX9_days_57 : decode cX9_days 57 = .ok (.getfield 87, 3) := by decide +kernel
theorem dX9_days_60 : decode cX9_days 60 = .ok (.invokevirtual 266, 3) := by decide +kernel
theorem dX9_days_63 : decode cX9_days 63 = .ok (.iinc 2 1, 3) := by decide +kernel
theorem dX9_days_66 : decode cX9_days 66 = .ok (.goto (-44), 3) := by decide +kernel
theorem dX9_days_69 : decode cX9_days 69 = .ok (.aload_n 0, 1) := by decide +kernel
theorem dX9_days_70 : decode cX9_days 70 = .ok (.getfield 48, 3) := by decide +kernel
theorem dX9_days_73 : decode cX9_days 73 = .ok (.getfield 103, 3) := by decide +kernel
theorem dX9_days_76 : decode cX9_days 76 = .ok (.ireturn, 1) := by decide +kernel
set_option maxRecDepth 10000 in
theorem v_X9_days_0 {C : aM → List Value → aH → aO → aH → Prop} {sc : Nat × (Nat → Int32)} {P : aO → aH → Prop} {σ : aH} {u : Nat}  {x1 : Int32} (hG : G σ u) 
    (h : ((x1 < 1 → ((∃ (e9 : Nat) (σ1 : aH), C mX9_require [.ref 0, .int 0] σ (.inr e9) σ1 ∧ P (.inr e9) σ1) ∨ (∃ σ1 : aH, C mX9_require [.ref 0, .int 0] σ (.inl none) σ1 ∧ G σ1 u ∧ wp C 9 cX9_days 3 (some .int) false [] sc P 22 [(0, .ref 0), (1, .int x1), (2, .int 0)] [] σ1))) ∧ (¬ (x1 < 1) → ((99 < x1 → ((∃ (e9 : Nat) (σ4 : aH), C mX9_require [.ref 0, .int 0] σ (.inr e9) σ4 ∧ P (.inr e9) σ4) ∨ (∃ σ4 : aH, C mX9_require [.ref 0, .int 0] σ (.inl none) σ4 ∧ G σ4 u ∧ wp C 9 cX9_days 3 (some .int) false [] sc P 22 [(0, .ref 0), (1, .int x1), (2, .int 0)] [] σ4))) ∧ (¬ (99 < x1) → ((∃ (e9 : Nat) (σ7 : aH), C mX9_require [.ref 0, .int 1] σ (.inr e9) σ7 ∧ P (.inr e9) σ7) ∨ (∃ σ7 : aH, C mX9_require [.ref 0, .int 1] σ (.inl none) σ7 ∧ G σ7 u ∧ wp C 9 cX9_days 3 (some .int) false [] sc P 22 [(0, .ref 0), (1, .int x1), (2, .int 0)] [] σ7))))))) :
    wp C 9 cX9_days 3 (some .int) false [] sc P 0 [(0, .ref 0), (1, .int x1)] [] σ := by
  refine w_aload_n dX9_days_0 rfl (List.Mem.head _) ?_
  refine w_iload_n dX9_days_1 rfl (List.Mem.tail _ (List.Mem.head _)) ?_
  refine w_iconst (v := 1) dX9_days_2 (by decide) ?_
  refine w_icmp_lt (tgt := 16) dX9_days_3 rfl (fun c9 => ?_) (fun c9 => ?_)
  · replace h := h.1 c9
    refine w_iconst (v := 0) dX9_days_16 (by decide) ?_
    rcases h with h | h
    · obtain ⟨e9, σ1, hc3, h⟩ := h
      exact w_throwV dX9_days_17 mp_9_69 ⟨ok_X9_require, vi_X9_require⟩ hs_X9_require (As := [.int 0]) rfl rfl (gT hG rfl (lt_of rfl)) (Nat.le_of_ble_eq_true rfl) hc3 rfl h
    · obtain ⟨σ1, hc3, hG2, h⟩ := h
      refine w_callV dX9_days_17 ml_9_69 ⟨ok_X9_require, vi_X9_require⟩ hs_X9_require (As := [.int 0]) rfl rfl (gT hG rfl (lt_of rfl)) (Nat.le_of_ble_eq_true rfl) hc3 ?_
      show wp C 9 cX9_days 3 (some .int) false [] sc P 20 [(0, .ref 0), (1, .int x1)] [] σ1
      refine w_iconst (v := 0) dX9_days_20 (by decide) ?_
      refine w_istore_n (l' := [(2, .int 0), (0, .ref 0), (1, .int x1)]) dX9_days_21 rfl (by decide) rfl ?_
      exact w_weak (l' := [(0, .ref 0), (1, .int x1), (2, .int 0)]) (by intro q hq; simp only [List.mem_cons, List.not_mem_nil, or_false] at hq ⊢; rcases hq with rfl | rfl | rfl <;> simp) h
  · replace h := h.2 c9
    refine w_iload_n dX9_days_6 rfl (List.Mem.tail _ (List.Mem.head _)) ?_
    refine w_bipush (v := 99) dX9_days_7 (by decide) ?_
    refine w_icmp_gt (tgt := 16) dX9_days_9 rfl (fun c9 => ?_) (fun c9 => ?_)
    · replace h := h.1 c9
      refine w_iconst (v := 0) dX9_days_16 (by decide) ?_
      rcases h with h | h
      · obtain ⟨e9, σ4, hc6, h⟩ := h
        exact w_throwV dX9_days_17 mp_9_69 ⟨ok_X9_require, vi_X9_require⟩ hs_X9_require (As := [.int 0]) rfl rfl (gT hG rfl (lt_of rfl)) (Nat.le_of_ble_eq_true rfl) hc6 rfl h
      · obtain ⟨σ4, hc6, hG5, h⟩ := h
        refine w_callV dX9_days_17 ml_9_69 ⟨ok_X9_require, vi_X9_require⟩ hs_X9_require (As := [.int 0]) rfl rfl (gT hG rfl (lt_of rfl)) (Nat.le_of_ble_eq_true rfl) hc6 ?_
        show wp C 9 cX9_days 3 (some .int) false [] sc P 20 [(0, .ref 0), (1, .int x1)] [] σ4
        refine w_iconst (v := 0) dX9_days_20 (by decide) ?_
        refine w_istore_n (l' := [(2, .int 0), (0, .ref 0), (1, .int x1)]) dX9_days_21 rfl (by decide) rfl ?_
        exact w_weak (l' := [(0, .ref 0), (1, .int x1), (2, .int 0)]) (by intro q hq; simp only [List.mem_cons, List.not_mem_nil, or_false] at hq ⊢; rcases hq with rfl | rfl | rfl <;> simp) h
    · replace h := h.2 c9
      refine w_iconst (v := 1) dX9_days_12 (by decide) ?_
      refine w_goto (tgt := 17) dX9_days_13 rfl ?_
      rcases h with h | h
      · obtain ⟨e9, σ7, hc9, h⟩ := h
        exact w_throwV dX9_days_17 mp_9_69 ⟨ok_X9_require, vi_X9_require⟩ hs_X9_require (As := [.int 1]) rfl rfl (gT hG rfl (lt_of rfl)) (Nat.le_of_ble_eq_true rfl) hc9 rfl h
      · obtain ⟨σ7, hc9, hG8, h⟩ := h
        refine w_callV dX9_days_17 ml_9_69 ⟨ok_X9_require, vi_X9_require⟩ hs_X9_require (As := [.int 1]) rfl rfl (gT hG rfl (lt_of rfl)) (Nat.le_of_ble_eq_true rfl) hc9 ?_
        show wp C 9 cX9_days 3 (some .int) false [] sc P 20 [(0, .ref 0), (1, .int x1)] [] σ7
        refine w_iconst (v := 0) dX9_days_20 (by decide) ?_
        refine w_istore_n (l' := [(2, .int 0), (0, .ref 0), (1, .int x1)]) dX9_days_21 rfl (by decide) rfl ?_
        exact w_weak (l' := [(0, .ref 0), (1, .int x1), (2, .int 0)]) (by intro q hq; simp only [List.mem_cons, List.not_mem_nil, or_false] at hq ⊢; rcases hq with rfl | rfl | rfl <;> simp) h
set_option maxRecDepth 10000 in
theorem v_X9_days_22 {C : aM → List Value → aH → aO → aH → Prop} {sc : Nat × (Nat → Int32)} {P : aO → aH → Prop} {σ : aH} {u : Nat}  {x1 : Int32} {x2 : Int32} (hG : G σ u) 
    (h : ((x1 ≤ x2 → P (.inl (some (.int (gI σ u 8)))) σ) ∧ (¬ (x1 ≤ x2) → ((999 ≤ (gI σ u 8) → P (.inl (some (.int (gI σ u 8)))) σ) ∧ (¬ (999 ≤ (gI σ u 8)) → (∀ σ1 : aH, sI σ u 8 ((gI σ u 8) + 1) = σ1 → (∃ σ4 : aH, C mX7_grow [.ref (u + 1)] σ1 (.inl none) σ4 ∧ G σ4 u ∧ wp C 9 cX9_days 3 (some .int) false [] sc P 22 [(0, .ref 0), (1, .int x1), (2, .int (x2 + 1))] [] σ4))))))) :
    wp C 9 cX9_days 3 (some .int) false [] sc P 22 [(0, .ref 0), (1, .int x1), (2, .int x2)] [] σ := by
  refine w_iload_n dX9_days_22 rfl (List.Mem.tail _ (List.Mem.tail _ (List.Mem.head _))) ?_
  refine w_iload_n dX9_days_23 rfl (List.Mem.tail _ (List.Mem.head _)) ?_
  refine w_icmp_ge (tgt := 69) dX9_days_24 rfl (fun c9 => ?_) (fun c9 => ?_)
  · replace h := h.1 c9
    refine w_aload_n dX9_days_69 rfl (List.Mem.head _) ?_
    refine w_getM (ci := 9) (k := 5) (b := u) dX9_days_70 fl_9_48 (by decide) (gT hG rfl (lt_of rfl)) hG.2.2.1 ?_
    refine w_getI (ci := 2) (k := 8) dX9_days_73 fl_9_103 (by decide) (gT hG (IsMk_t0 hG.2.2.2.2) (IsMk_lt hG.2.2.2.2 (k := 0) (by decide))) ?_
    exact w_iret dX9_days_76 rfl h
  · replace h := h.2 c9
    refine w_aload_n dX9_days_27 rfl (List.Mem.head _) ?_
    refine w_getM (ci := 9) (k := 5) (b := u) dX9_days_28 fl_9_48 (by decide) (gT hG rfl (lt_of rfl)) hG.2.2.1 ?_
    refine w_getI (ci := 2) (k := 8) dX9_days_31 fl_9_103 (by decide) (gT hG (IsMk_t0 hG.2.2.2.2) (IsMk_lt hG.2.2.2.2 (k := 0) (by decide))) ?_
    refine w_sipush (v := 999) dX9_days_34 (by decide) ?_
    refine w_icmp_ge (tgt := 69) dX9_days_37 rfl (fun c9 => ?_) (fun c9 => ?_)
    · replace h := h.1 c9
      refine w_aload_n dX9_days_69 rfl (List.Mem.head _) ?_
      refine w_getM (ci := 9) (k := 5) (b := u) dX9_days_70 fl_9_48 (by decide) (gT hG rfl (lt_of rfl)) hG.2.2.1 ?_
      refine w_getI (ci := 2) (k := 8) dX9_days_73 fl_9_103 (by decide) (gT hG (IsMk_t0 hG.2.2.2.2) (IsMk_lt hG.2.2.2.2 (k := 0) (by decide))) ?_
      exact w_iret dX9_days_76 rfl h
    · replace h := h.2 c9
      refine w_aload_n dX9_days_40 rfl (List.Mem.head _) ?_
      refine w_getM (ci := 9) (k := 5) (b := u) dX9_days_41 fl_9_48 (by decide) (gT hG rfl (lt_of rfl)) hG.2.2.1 ?_
      refine w_dup dX9_days_44 rfl ?_
      refine w_getI (ci := 2) (k := 8) dX9_days_45 fl_9_103 (by decide) (gT hG (IsMk_t0 hG.2.2.2.2) (IsMk_lt hG.2.2.2.2 (k := 0) (by decide))) ?_
      refine w_iconst (v := 1) dX9_days_48 (by decide) ?_
      refine w_iadd dX9_days_49 ?_
      refine y_putI (ci := 2) (k := 8) dX9_days_50 fl_9_103 (by decide) (gT hG (IsMk_t0 hG.2.2.2.2) (IsMk_lt hG.2.2.2.2 (k := 0) (by decide))) (fun σ1 eσ2 => ?_)
      replace h := h σ1 eσ2
      have hG3 : G σ1 u := eσ2 ▸ G.sI hG
      refine w_aload_n dX9_days_53 rfl (List.Mem.head _) ?_
      refine w_getM (ci := 9) (k := 5) (b := u) dX9_days_54 fl_9_48 (by decide) (gT hG3 rfl (lt_of rfl)) hG3.2.2.1 ?_
      refine w_getR (ci := 2) (k := 0) (b := (u + 1)) dX9_days_57 fl_9_87 (by decide) (gT hG3 (IsMk_t0 hG.2.2.2.2) (IsMk_lt hG.2.2.2.2 (k := 0) (by decide))) (gR hG3 (IsMk_r0_0 hG.2.2.2.2)) ?_
      obtain ⟨σ4, hc6, hG5, h⟩ := h
      refine w_callV dX9_days_60 ml_9_266 ⟨ok_X7_grow, vi_X7_grow⟩ hs_X7_grow (As := []) rfl rfl (gT hG3 (IsMk_t1 hG.2.2.2.2) (IsMk_lt hG.2.2.2.2 (k := 1) (by decide))) (Nat.le_of_ble_eq_true rfl) hc6 ?_
      show wp C 9 cX9_days 3 (some .int) false [] sc P 63 [(0, .ref 0), (1, .int x1), (2, .int x2)] [] σ4
      refine w_iinc (v := x2 + 1) (l' := [(2, .int (x2 + 1)), (0, .ref 0), (1, .int x1)]) dX9_days_63 (List.Mem.tail _ (List.Mem.tail _ (List.Mem.head _))) rfl (by decide) rfl ?_
      refine w_goto (tgt := 22) dX9_days_66 rfl ?_
      exact w_weak (l' := [(0, .ref 0), (1, .int x1), (2, .int (x2 + 1))]) (by intro q hq; simp only [List.mem_cons, List.not_mem_nil, or_false] at hq ⊢; rcases hq with rfl | rfl | rfl <;> simp) h
theorem dX9_when_0 : decode cX9_when 0 = .ok (.aload_n 0, 1) := by decide +kernel
theorem dX9_when_1 : decode cX9_when 1 = .ok (.iload_n 1, 1) := by decide +kernel
theorem dX9_when_2 : decode cX9_when 2 = .ok (.invokestatic 269, 3) := by decide +kernel
theorem dX9_when_5 : decode cX9_when 5 = .ok (.invokevirtual 69, 3) := by decide +kernel
theorem dX9_when_8 : decode cX9_when 8 = .ok (.aload_n 0, 1) := by decide +kernel
theorem dX9_when_9 : decode cX9_when 9 = .ok (.getfield 33, 3) := by decide +kernel
theorem dX9_when_12 : decode cX9_when 12 = .ok (.iload_n 1, 1) := by decide +kernel
theorem dX9_when_13 : decode cX9_when 13 = .ok (.invokevirtual 272, 3) := by decide +kernel
theorem dX9_when_16 : decode cX9_when 16 = .ok (.ireturn, 1) := by decide +kernel
set_option maxRecDepth 10000 in
theorem v_X9_when_0 {C : aM → List Value → aH → aO → aH → Prop} {sc : Nat × (Nat → Int32)} {P : aO → aH → Prop} {σ : aH} {u : Nat}  {x1 : Int32} (hG : G σ u) 
    (h : (∃ (r4 : Int32) (σ1 : aH), C mX9_isDue [.int x1] σ (.inl (some (.int r4))) σ1 ∧ G σ1 u ∧ ((∃ (e9 : Nat) (σ5 : aH), C mX9_require [.ref 0, .int r4] σ1 (.inr e9) σ5 ∧ P (.inr e9) σ5) ∨ (∃ σ5 : aH, C mX9_require [.ref 0, .int r4] σ1 (.inl none) σ5 ∧ G σ5 u ∧ (∃ (r11 : Int32) (σ8 : aH), C mX4_daysTillAbove [.ref 26, .int x1] σ5 (.inl (some (.int r11))) σ8 ∧ G σ8 u ∧ P (.inl (some (.int r11))) σ8))))) :
    wp C 9 cX9_when 2 (some .int) false [] sc P 0 [(0, .ref 0), (1, .int x1)] [] σ := by
  refine w_aload_n dX9_when_0 rfl (List.Mem.head _) ?_
  refine w_iload_n dX9_when_1 rfl (List.Mem.tail _ (List.Mem.head _)) ?_
  obtain ⟨r4, σ1, hc3, hG2, h⟩ := h
  refine w_callS dX9_when_2 ml_9_269 ⟨ok_X9_isDue, st_X9_isDue⟩ hs_X9_isDue (As := [.int x1]) rfl rfl (Nat.le_of_ble_eq_true rfl) hc3 ?_
  show wp C 9 cX9_when 2 (some .int) false [] sc P 5 [(0, .ref 0), (1, .int x1)] [.int r4, .ref 0] σ1
  rcases h with h | h
  · obtain ⟨e9, σ5, hc7, h⟩ := h
    exact w_throwV dX9_when_5 mp_9_69 ⟨ok_X9_require, vi_X9_require⟩ hs_X9_require (As := [.int r4]) rfl rfl (gT hG2 rfl (lt_of rfl)) (Nat.le_of_ble_eq_true rfl) hc7 rfl h
  · obtain ⟨σ5, hc7, hG6, h⟩ := h
    refine w_callV dX9_when_5 ml_9_69 ⟨ok_X9_require, vi_X9_require⟩ hs_X9_require (As := [.int r4]) rfl rfl (gT hG2 rfl (lt_of rfl)) (Nat.le_of_ble_eq_true rfl) hc7 ?_
    show wp C 9 cX9_when 2 (some .int) false [] sc P 8 [(0, .ref 0), (1, .int x1)] [] σ5
    refine w_aload_n dX9_when_8 rfl (List.Mem.head _) ?_
    refine w_getR (ci := 9) (k := 3) (b := 26) dX9_when_9 fl_9_33 (by decide) (gT hG6 rfl (lt_of rfl)) (gR hG6 (b := 26) rfl) ?_
    refine w_iload_n dX9_when_12 rfl (List.Mem.tail _ (List.Mem.head _)) ?_
    obtain ⟨r11, σ8, hc10, hG9, h⟩ := h
    refine w_callV dX9_when_13 ml_9_272 ⟨ok_X4_daysTillAbove, vi_X4_daysTillAbove⟩ hs_X4_daysTillAbove (As := [.int x1]) rfl rfl (gT hG6 rfl (lt_of rfl)) (Nat.le_of_ble_eq_true rfl) hc10 ?_
    show wp C 9 cX9_when 2 (some .int) false [] sc P 16 [(0, .ref 0), (1, .int x1)] [.int r11] σ8
    exact w_iret dX9_when_16 rfl h
theorem dX9_clouds_0 : decode cX9_clouds 0 = .ok (.aload_n 0, 1) := by decide +kernel
theorem dX9_clouds_1 : decode cX9_clouds 1 = .ok (.iload_n 2, 1) := by decide +kernel
theorem dX9_clouds_2 : decode cX9_clouds 2 = .ok (.invokestatic 210, 3) := by decide +kernel
theorem dX9_clouds_5 : decode cX9_clouds 5 = .ok (.invokevirtual 69, 3) := by decide +kernel
theorem dX9_clouds_8 : decode cX9_clouds 8 = .ok (.aload_n 0, 1) := by decide +kernel
theorem dX9_clouds_9 : decode cX9_clouds 9 = .ok (.getfield 48, 3) := by decide +kernel
theorem dX9_clouds_12 : decode cX9_clouds 12 = .ok (.iload_n 1, 1) := by decide +kernel
theorem dX9_clouds_13 : decode cX9_clouds 13 = .ok (.invokevirtual 275, 3) := by decide +kernel
theorem dX9_clouds_16 : decode cX9_clouds 16 = .ok (.istore_n 3, 1) := by decide +kernel
theorem dX9_clouds_17 : decode cX9_clouds 17 = .ok (.iload_n 2, 1) := by decide +kernel
theorem dX9_clouds_18 : decode cX9_clouds 18 = .ok (.iconst 1, 1) := by decide +kernel
theorem dX9_clouds_19 : decode cX9_clouds 19 = .ok (.if_icmp .ne 5, 3) := by decide +kernel
theorem dX9_clouds_22 : decode cX9_clouds 22 = .ok (.iload_n 3, 1) := by decide +kernel
theorem dX9_clouds_23 : decode cX9_clouds 23 = .ok (.ireturn, 1) := by decide +kernel
theorem dX9_clouds_24 : decode cX9_clouds 24 = .ok (.aload_n 0, 1) := by decide +kernel
theorem dX9_clouds_25 : decode cX9_clouds 25 = .ok (.getfield 41, 3) := by decide +kernel
theorem dX9_clouds_28 : decode cX9_clouds 28 = .ok (.invokevirtual 278, 3) := by decide +kernel
theorem dX9_clouds_31 : decode cX9_clouds 31 = .ok (.aload_n 0, 1) := by decide +kernel
theorem dX9_clouds_32 : decode cX9_clouds 32 = .ok (.getfield 41, 3) := by decide +kernel
theorem dX9_clouds_35 : decode cX9_clouds 35 = .ok (.iload_n 3, 1) := by decide +kernel
theorem dX9_clouds_36 : decode cX9_clouds 36 = .ok (.invokevirtual 281, 3) := by decide +kernel
theorem dX9_clouds_39 : decode cX9_clouds 39 = .ok (.ireturn, 1) := by decide +kernel
set_option maxRecDepth 10000 in
theorem v_X9_clouds_0 {C : aM → List Value → aH → aO → aH → Prop} {sc : Nat × (Nat → Int32)} {P : aO → aH → Prop} {σ : aH} {u : Nat}  {x1 : Int32} {x2 : Int32} (hG : G σ u) 
    (h : (∃ (r4 : Int32) (σ1 : aH), C mX9_isBit [.int x2] σ (.inl (some (.int r4))) σ1 ∧ G σ1 u ∧ ((∃ (e9 : Nat) (σ5 : aH), C mX9_require [.ref 0, .int r4] σ1 (.inr e9) σ5 ∧ P (.inr e9) σ5) ∨ (∃ σ5 : aH, C mX9_require [.ref 0, .int r4] σ1 (.inl none) σ5 ∧ G σ5 u ∧ (∃ (r11 : Int32) (σ8 : aH), C mX2_cloudsDrawn [.ref u, .int x1] σ5 (.inl (some (.int r11))) σ8 ∧ G σ8 u ∧ ((¬ x2 = 1 → (∃ σ12 : aH, C mX6_reckonHours [.ref 27] σ8 (.inl none) σ12 ∧ G σ12 u ∧ (∃ (r18 : Int32) (σ15 : aH), C mX6_dueWithout [.ref 27, .int r11] σ12 (.inl (some (.int r18))) σ15 ∧ G σ15 u ∧ P (.inl (some (.int r18))) σ15))) ∧ (x2 = 1 → P (.inl (some (.int r11))) σ8))))))) :
    wp C 9 cX9_clouds 4 (some .int) false [] sc P 0 [(0, .ref 0), (1, .int x1), (2, .int x2)] [] σ := by
  refine w_aload_n dX9_clouds_0 rfl (List.Mem.head _) ?_
  refine w_iload_n dX9_clouds_1 rfl (List.Mem.tail _ (List.Mem.tail _ (List.Mem.head _))) ?_
  obtain ⟨r4, σ1, hc3, hG2, h⟩ := h
  refine w_callS dX9_clouds_2 ml_9_210 ⟨ok_X9_isBit, st_X9_isBit⟩ hs_X9_isBit (As := [.int x2]) rfl rfl (Nat.le_of_ble_eq_true rfl) hc3 ?_
  show wp C 9 cX9_clouds 4 (some .int) false [] sc P 5 [(0, .ref 0), (1, .int x1), (2, .int x2)] [.int r4, .ref 0] σ1
  rcases h with h | h
  · obtain ⟨e9, σ5, hc7, h⟩ := h
    exact w_throwV dX9_clouds_5 mp_9_69 ⟨ok_X9_require, vi_X9_require⟩ hs_X9_require (As := [.int r4]) rfl rfl (gT hG2 rfl (lt_of rfl)) (Nat.le_of_ble_eq_true rfl) hc7 rfl h
  · obtain ⟨σ5, hc7, hG6, h⟩ := h
    refine w_callV dX9_clouds_5 ml_9_69 ⟨ok_X9_require, vi_X9_require⟩ hs_X9_require (As := [.int r4]) rfl rfl (gT hG2 rfl (lt_of rfl)) (Nat.le_of_ble_eq_true rfl) hc7 ?_
    show wp C 9 cX9_clouds 4 (some .int) false [] sc P 8 [(0, .ref 0), (1, .int x1), (2, .int x2)] [] σ5
    refine w_aload_n dX9_clouds_8 rfl (List.Mem.head _) ?_
    refine w_getM (ci := 9) (k := 5) (b := u) dX9_clouds_9 fl_9_48 (by decide) (gT hG6 rfl (lt_of rfl)) hG6.2.2.1 ?_
    refine w_iload_n dX9_clouds_12 rfl (List.Mem.tail _ (List.Mem.head _)) ?_
    obtain ⟨r11, σ8, hc10, hG9, h⟩ := h
    refine w_callV dX9_clouds_13 ml_9_275 ⟨ok_X2_cloudsDrawn, vi_X2_cloudsDrawn⟩ hs_X2_cloudsDrawn (As := [.int x1]) rfl rfl (gT hG6 (IsMk_t0 hG.2.2.2.2) (IsMk_lt hG.2.2.2.2 (k := 0) (by decide))) (Nat.le_of_ble_eq_true rfl) hc10 ?_
    show wp C 9 cX9_clouds 4 (some .int) false [] sc P 16 [(0, .ref 0), (1, .int x1), (2, .int x2)] [.int r11] σ8
    refine w_istore_n (l' := [(3, .int r11), (0, .ref 0), (1, .int x1), (2, .int x2)]) dX9_clouds_16 rfl (by decide) rfl ?_
    refine w_iload_n dX9_clouds_17 rfl (List.Mem.tail _ (List.Mem.tail _ (List.Mem.tail _ (List.Mem.head _)))) ?_
    refine w_iconst (v := 1) dX9_clouds_18 (by decide) ?_
    refine w_icmp_ne (tgt := 24) dX9_clouds_19 rfl (fun c9 => ?_) (fun c9 => ?_)
    · replace h := h.1 c9
      refine w_aload_n dX9_clouds_24 rfl (List.Mem.tail _ (List.Mem.head _)) ?_
      refine w_getR (ci := 9) (k := 4) (b := 27) dX9_clouds_25 fl_9_41 (by decide) (gT hG9 rfl (lt_of rfl)) (gR hG9 (b := 27) rfl) ?_
      obtain ⟨σ12, hc14, hG13, h⟩ := h
      refine w_callV dX9_clouds_28 ml_9_278 ⟨ok_X6_reckonHours, vi_X6_reckonHours⟩ hs_X6_reckonHours (As := []) rfl rfl (gT hG9 rfl (lt_of rfl)) (Nat.le_of_ble_eq_true rfl) hc14 ?_
      show wp C 9 cX9_clouds 4 (some .int) false [] sc P 31 [(3, .int r11), (0, .ref 0), (1, .int x1), (2, .int x2)] [] σ12
      refine w_aload_n dX9_clouds_31 rfl (List.Mem.tail _ (List.Mem.head _)) ?_
      refine w_getR (ci := 9) (k := 4) (b := 27) dX9_clouds_32 fl_9_41 (by decide) (gT hG13 rfl (lt_of rfl)) (gR hG13 (b := 27) rfl) ?_
      refine w_iload_n dX9_clouds_35 rfl (List.Mem.head _) ?_
      obtain ⟨r18, σ15, hc17, hG16, h⟩ := h
      refine w_callV dX9_clouds_36 ml_9_281 ⟨ok_X6_dueWithout, vi_X6_dueWithout⟩ hs_X6_dueWithout (As := [.int r11]) rfl rfl (gT hG13 rfl (lt_of rfl)) (Nat.le_of_ble_eq_true rfl) hc17 ?_
      show wp C 9 cX9_clouds 4 (some .int) false [] sc P 39 [(3, .int r11), (0, .ref 0), (1, .int x1), (2, .int x2)] [.int r18] σ15
      exact w_iret dX9_clouds_39 rfl h
    · replace h := h.2 c9
      refine w_iload_n dX9_clouds_22 rfl (List.Mem.head _) ?_
      exact w_iret dX9_clouds_23 rfl h
theorem dX9_span_0 : decode cX9_span 0 = .ok (.aload_n 0, 1) := by decide +kernel
theorem dX9_span_1 : decode cX9_span 1 = .ok (.iload_n 2, 1) := by decide +kernel
theorem dX9_span_2 : decode cX9_span 2 = .ok (.iconst 1, 1) := by decide +kernel
theorem dX9_span_3 : decode cX9_span 3 = .ok (.if_icmp .lt 20, 3) := by decide +kernel
theorem dX9_span_6 : decode cX9_span 6 = .ok (.iload_n 2, 1) := by decide +kernel
theorem dX9_span_7 : decode cX9_span 7 = .ok (.bipush 60, 2) := by decide +kernel
theorem dX9_span_9 : decode cX9_span 9 = .ok (.if_icmp .gt 14, 3) := by decide +kernel
theorem dX9_span_12 : decode cX9_span 12 = .ok (.iload_n 3, 1) := by decide +kernel
theorem dX9_span_13 : decode cX9_span 13 = .ok (.invokestatic 210, 3) := by decide +kernel
theorem dX9_span_16 : decode cX9_span 16 = .ok (.ifCond .eq 7, 3) := by decide +kernel
theorem dX9_span_19 : decode cX9_span 19 = .ok (.iconst 1, 1) := by decide +kernel
theorem dX9_span_20 : decode cX9_span 20 = .ok (.goto 4, 3) := by decide +kernel
theorem dX9_span_23 : decode cX9_span 23 = .ok (.iconst 0, 1) := by decide +kernel
theorem dX9_span_24 : decode cX9_span 24 = .ok (.invokevirtual 69, 3) := by decide +kernel
theorem dX9_span_27 : decode cX9_span 27 = .ok (.aload_n 0, 1) := by decide +kernel
theorem dX9_span_28 : decode cX9_span 28 = .ok (.getfield 41, 3) := by decide +kernel
theorem dX9_span_31 : decode cX9_span 31 = .ok (.invokevirtual 278, 3) := by decide +kernel
theorem dX9_span_34 : decode cX9_span 34 = .ok (.aload_n 0, 1) := by decide +kernel
theorem dX9_span_35 : decode cX9_span 35 = .ok (.getfield 41, 3) := by decide +kernel
theorem dX9_span_38 : decode cX9_span 38 = .ok (.aload_n 0, 1) := by decide +kernel
theorem dX9_span_39 : decode cX9_span 39 = .ok (.getfield 48, 3) := by decide +kernel
theorem dX9_span_42 : decode cX9_span 42 = .ok (.iload_n 1, 1) := by decide +kernel
theorem dX9_span_43 : decode cX9_span 43 = .ok (.invokevirtual 275, 3) := by decide +kernel
theorem dX9_span_46 : decode cX9_span 46 = .ok (.invokevirtual 281, 3) := by decide +kernel
theorem dX9_span_49 : decode cX9_span 49 = .ok (.istore 4, 2) := by decide +kernel
theorem dX9_span_51 : decode cX9_span 51 = .ok (.iconst 1, 1) := by decide +kernel
theorem dX9_span_52 : decode cX9_span 52 = .ok (.istore 5, 2) := by decide +kernel
theorem dX9_span_54 : decode cX9_span 54 = .ok (.iload 5, 2) := by decide +kernel
theorem dX9_span_56 : decode cX9_span 56 = .ok (.iload_n 2, 1) := by decide +kernel
theorem dX9_span_57 : decode cX9_span 57 = .ok (.if_icmp .ge 52, 3) := by decide +kernel
theorem dX9_span_60 : decode cX9_span 60 = .ok (.aload_n 0, 1) := by decide +kernel
theorem dX9_span_61 : decode cX9_span 61 = .ok (.getfield 41, 3) := by decide +kernel
theorem dX9_span_64 : decode cX9_span 64 = .ok (.aload_n 0, 1) := by decide +kernel
theorem dX9_span_65 : decode cX9_span 65 = .ok (.getfield 48, 3) := by decide +kernel
theorem dX9_span_68 : decode cX9_span 68 = .ok (.iload_n 1, 1) := by decide +kernel
theorem dX9_span_69 : decode cX9_span 69 = .ok (.iload 5, 2) := by decide +kernel
theorem dX9_span_71 : decode cX9_span 71 = .ok (.iadd, 1) := by decide +kernel
theorem dX9_span_72 : decode cX9_span 72 = .ok (.invokevirtual 275, 3) := by decide +kernel
theorem dX9_span_75 : decode cX9_span 75 = .ok (.invokevirtual 281, 3) := by decide +kernel
theorem dX9_span_78 : decode cX9_span 78 = .ok (.istore 6, 2) := by decide +kernel
theorem dX9_span_80 : decode cX9_span 80 = .ok (.iload_n 3, 1) := by decide +kernel
theorem dX9_span_81 : decode cX9_span 81 = .ok (.ifCond .ne 13, 3) := by decide +kernel
theorem dX9_span_84 : decode cX9_span 84 = .ok (.iload 4, 2) := by decide +kernel
theorem dX9_span_86 : decode cX9_span 86 = .ok (.iload 6, 2) := by decide +kernel
theorem dX9_span_88 : decode cX9_span 88 = .ok (.invokestatic 284, 3) := by decide +kernel
theorem dX9_span_91 : decode cX9_span 91 = .ok (.goto 10, 3) := by decide +kernel
theorem dX9_span_94 : decode cX9_span 94 = .ok (.iload 4, 2) := by decide +kernel
theorem dX9_span_96 : decode cX9_span 96 = .ok (.iload 6, 2) := by decide +kernel
theorem dX9_span_98 : decode cX9_span 98 = .ok (.invokestatic 289, 3) := by decide +kernel
theorem dX9_span_101 : decode cX9_span 101 = .ok (.istore 4, 2) := by decide +kernel
theorem dX9_span_103 : decode cX9_span 103 = .ok (.iinc 5 1, 3) := by decide +kernel
theorem dX9_span_106 : decode cX9_span 106 = .ok (.goto (-52), 3) := by decide +kernel
theorem dX9_span_109 : decode cX9_span 109 = .ok (.iload 4, 2) := by decide +kernel
theorem dX9_span_111 : decode cX9_span 111 = .ok (.ireturn, 1) := by decide +kernel
set_option maxRecDepth 10000 in
theorem v_X9_span_0 {C : aM → List Value → aH → aO → aH → Prop} {sc : Nat × (Nat → Int32)} {P : aO → aH → Prop} {σ : aH} {u : Nat}  {x1 : Int32} {x2 : Int32} {x3 : Int32} (hG : G σ u) 
    (h : ((x2 < 1 → wp C 9 cX9_span 7 (some .int) false [] sc P 23 [(0, .ref 0), (1, .int x1), (2, .int x2), (3, .int x3)] [.ref 0] σ) ∧ (¬ (x2 < 1) → ((60 < x2 → wp C 9 cX9_span 7 (some .int) false [] sc P 23 [(0, .ref 0), (1, .int x1), (2, .int x2), (3, .int x3)] [.ref 0] σ) ∧ (¬ (60 < x2) → (∃ (r4 : Int32) (σ1 : aH), C mX9_isBit [.int x3] σ (.inl (some (.int r4))) σ1 ∧ G σ1 u ∧ ((r4 = 0 → wp C 9 cX9_span 7 (some .int) false [] sc P 23 [(0, .ref 0), (1, .int x1), (2, .int x2), (3, .int x3)] [.ref 0] σ1) ∧ (¬ (r4 = 0) → ((∃ (e9 : Nat) (σ5 : aH), C mX9_require [.ref 0, .int 1] σ1 (.inr e9) σ5 ∧ P (.inr e9) σ5) ∨ (∃ σ5 : aH, C mX9_require [.ref 0, .int 1] σ1 (.inl none) σ5 ∧ G σ5 u ∧ (∃ σ8 : aH, C mX6_reckonHours [.ref 27] σ5 (.inl none) σ8 ∧ G σ8 u ∧ (∃ (r14 : Int32) (σ11 : aH), C mX2_cloudsDrawn [.ref u, .int x1] σ8 (.inl (some (.int r14))) σ11 ∧ G σ11 u ∧ (∃ (r18 : Int32) (σ15 : aH), C mX6_dueWithout [.ref 27, .int r14] σ11 (.inl (some (.int r18))) σ15 ∧ G σ15 u ∧ wp C 9 cX9_span 7 (some .int) false [] sc P 54 [(0, .ref 0), (1, .int x1), (2, .int x2), (3, .int x3), (4, .int r18), (5, .int 1)] [] σ15))))))))))))) :
    wp C 9 cX9_span 7 (some .int) false [] sc P 0 [(0, .ref 0), (1, .int x1), (2, .int x2), (3, .int x3)] [] σ := by
  refine w_aload_n dX9_span_0 rfl (List.Mem.head _) ?_
  refine w_iload_n dX9_span_1 rfl (List.Mem.tail _ (List.Mem.tail _ (List.Mem.head _))) ?_
  refine w_iconst (v := 1) dX9_span_2 (by decide) ?_
  refine w_icmp_lt (tgt := 23) dX9_span_3 rfl (fun c9 => ?_) (fun c9 => ?_)
  · replace h := h.1 c9
    exact h
  · replace h := h.2 c9
    refine w_iload_n dX9_span_6 rfl (List.Mem.tail _ (List.Mem.tail _ (List.Mem.head _))) ?_
    refine w_bipush (v := 60) dX9_span_7 (by decide) ?_
    refine w_icmp_gt (tgt := 23) dX9_span_9 rfl (fun c9 => ?_) (fun c9 => ?_)
    · replace h := h.1 c9
      exact h
    · replace h := h.2 c9
      refine w_iload_n dX9_span_12 rfl (List.Mem.tail _ (List.Mem.tail _ (List.Mem.tail _ (List.Mem.head _)))) ?_
      obtain ⟨r4, σ1, hc3, hG2, h⟩ := h
      refine w_callS dX9_span_13 ml_9_210 ⟨ok_X9_isBit, st_X9_isBit⟩ hs_X9_isBit (As := [.int x3]) rfl rfl (Nat.le_of_ble_eq_true rfl) hc3 ?_
      show wp C 9 cX9_span 7 (some .int) false [] sc P 16 [(0, .ref 0), (1, .int x1), (2, .int x2), (3, .int x3)] [.int r4, .ref 0] σ1
      refine w_if_eq (tgt := 23) dX9_span_16 rfl (fun c9 => ?_) (fun c9 => ?_)
      · replace h := h.1 c9
        exact h
      · replace h := h.2 c9
        refine w_iconst (v := 1) dX9_span_19 (by decide) ?_
        refine w_goto (tgt := 24) dX9_span_20 rfl ?_
        rcases h with h | h
        · obtain ⟨e9, σ5, hc7, h⟩ := h
          exact w_throwV dX9_span_24 mp_9_69 ⟨ok_X9_require, vi_X9_require⟩ hs_X9_require (As := [.int 1]) rfl rfl (gT hG2 rfl (lt_of rfl)) (Nat.le_of_ble_eq_true rfl) hc7 rfl h
        · obtain ⟨σ5, hc7, hG6, h⟩ := h
          refine w_callV dX9_span_24 ml_9_69 ⟨ok_X9_require, vi_X9_require⟩ hs_X9_require (As := [.int 1]) rfl rfl (gT hG2 rfl (lt_of rfl)) (Nat.le_of_ble_eq_true rfl) hc7 ?_
          show wp C 9 cX9_span 7 (some .int) false [] sc P 27 [(0, .ref 0), (1, .int x1), (2, .int x2), (3, .int x3)] [] σ5
          refine w_aload_n dX9_span_27 rfl (List.Mem.head _) ?_
          refine w_getR (ci := 9) (k := 4) (b := 27) dX9_span_28 fl_9_41 (by decide) (gT hG6 rfl (lt_of rfl)) (gR hG6 (b := 27) rfl) ?_
          obtain ⟨σ8, hc10, hG9, h⟩ := h
          refine w_callV dX9_span_31 ml_9_278 ⟨ok_X6_reckonHours, vi_X6_reckonHours⟩ hs_X6_reckonHours (As := []) rfl rfl (gT hG6 rfl (lt_of rfl)) (Nat.le_of_ble_eq_true rfl) hc10 ?_
          show wp C 9 cX9_span 7 (some .int) false [] sc P 34 [(0, .ref 0), (1, .int x1), (2, .int x2), (3, .int x3)] [] σ8
          refine w_aload_n dX9_span_34 rfl (List.Mem.head _) ?_
          refine w_getR (ci := 9) (k := 4) (b := 27) dX9_span_35 fl_9_41 (by decide) (gT hG9 rfl (lt_of rfl)) (gR hG9 (b := 27) rfl) ?_
          refine w_aload_n dX9_span_38 rfl (List.Mem.head _) ?_
          refine w_getM (ci := 9) (k := 5) (b := u) dX9_span_39 fl_9_48 (by decide) (gT hG9 rfl (lt_of rfl)) hG9.2.2.1 ?_
          refine w_iload_n dX9_span_42 rfl (List.Mem.tail _ (List.Mem.head _)) ?_
          obtain ⟨r14, σ11, hc13, hG12, h⟩ := h
          refine w_callV dX9_span_43 ml_9_275 ⟨ok_X2_cloudsDrawn, vi_X2_cloudsDrawn⟩ hs_X2_cloudsDrawn (As := [.int x1]) rfl rfl (gT hG9 (IsMk_t0 hG.2.2.2.2) (IsMk_lt hG.2.2.2.2 (k := 0) (by decide))) (Nat.le_of_ble_eq_true rfl) hc13 ?_
          show wp C 9 cX9_span 7 (some .int) false [] sc P 46 [(0, .ref 0), (1, .int x1), (2, .int x2), (3, .int x3)] [.int r14, .ref 27] σ11
          obtain ⟨r18, σ15, hc17, hG16, h⟩ := h
          refine w_callV dX9_span_46 ml_9_281 ⟨ok_X6_dueWithout, vi_X6_dueWithout⟩ hs_X6_dueWithout (As := [.int r14]) rfl rfl (gT hG12 rfl (lt_of rfl)) (Nat.le_of_ble_eq_true rfl) hc17 ?_
          show wp C 9 cX9_span 7 (some .int) false [] sc P 49 [(0, .ref 0), (1, .int x1), (2, .int x2), (3, .int x3)] [.int r18] σ15
          refine w_istore (l' := [(4, .int r18), (0, .ref 0), (1, .int x1), (2, .int x2), (3, .int x3)]) dX9_span_49 (by decide) rfl ?_
          refine w_iconst (v := 1) dX9_span_51 (by decide) ?_
          refine w_istore (l' := [(5, .int 1), (4, .int r18), (0, .ref 0), (1, .int x1), (2, .int x2), (3, .int x3)]) dX9_span_52 (by decide) rfl ?_
          exact w_weak (l' := [(0, .ref 0), (1, .int x1), (2, .int x2), (3, .int x3), (4, .int r18), (5, .int 1)]) (by intro q hq; simp only [List.mem_cons, List.not_mem_nil, or_false] at hq ⊢; rcases hq with rfl | rfl | rfl | rfl | rfl | rfl <;> simp) h
set_option maxRecDepth 10000 in
theorem v_X9_span_23 {C : aM → List Value → aH → aO → aH → Prop} {sc : Nat × (Nat → Int32)} {P : aO → aH → Prop} {σ : aH} {u : Nat}  {x1 : Int32} {x2 : Int32} {x3 : Int32} (hG : G σ u) 
    (h : ((∃ (e9 : Nat) (σ1 : aH), C mX9_require [.ref 0, .int 0] σ (.inr e9) σ1 ∧ P (.inr e9) σ1) ∨ (∃ σ1 : aH, C mX9_require [.ref 0, .int 0] σ (.inl none) σ1 ∧ G σ1 u ∧ (∃ σ4 : aH, C mX6_reckonHours [.ref 27] σ1 (.inl none) σ4 ∧ G σ4 u ∧ (∃ (r10 : Int32) (σ7 : aH), C mX2_cloudsDrawn [.ref u, .int x1] σ4 (.inl (some (.int r10))) σ7 ∧ G σ7 u ∧ (∃ (r14 : Int32) (σ11 : aH), C mX6_dueWithout [.ref 27, .int r10] σ7 (.inl (some (.int r14))) σ11 ∧ G σ11 u ∧ wp C 9 cX9_span 7 (some .int) false [] sc P 54 [(0, .ref 0), (1, .int x1), (2, .int x2), (3, .int x3), (4, .int r14), (5, .int 1)] [] σ11)))))) :
    wp C 9 cX9_span 7 (some .int) false [] sc P 23 [(0, .ref 0), (1, .int x1), (2, .int x2), (3, .int x3)] [.ref 0] σ := by
  refine w_iconst (v := 0) dX9_span_23 (by decide) ?_
  rcases h with h | h
  · obtain ⟨e9, σ1, hc3, h⟩ := h
    exact w_throwV dX9_span_24 mp_9_69 ⟨ok_X9_require, vi_X9_require⟩ hs_X9_require (As := [.int 0]) rfl rfl (gT hG rfl (lt_of rfl)) (Nat.le_of_ble_eq_true rfl) hc3 rfl h
  · obtain ⟨σ1, hc3, hG2, h⟩ := h
    refine w_callV dX9_span_24 ml_9_69 ⟨ok_X9_require, vi_X9_require⟩ hs_X9_require (As := [.int 0]) rfl rfl (gT hG rfl (lt_of rfl)) (Nat.le_of_ble_eq_true rfl) hc3 ?_
    show wp C 9 cX9_span 7 (some .int) false [] sc P 27 [(0, .ref 0), (1, .int x1), (2, .int x2), (3, .int x3)] [] σ1
    refine w_aload_n dX9_span_27 rfl (List.Mem.head _) ?_
    refine w_getR (ci := 9) (k := 4) (b := 27) dX9_span_28 fl_9_41 (by decide) (gT hG2 rfl (lt_of rfl)) (gR hG2 (b := 27) rfl) ?_
    obtain ⟨σ4, hc6, hG5, h⟩ := h
    refine w_callV dX9_span_31 ml_9_278 ⟨ok_X6_reckonHours, vi_X6_reckonHours⟩ hs_X6_reckonHours (As := []) rfl rfl (gT hG2 rfl (lt_of rfl)) (Nat.le_of_ble_eq_true rfl) hc6 ?_
    show wp C 9 cX9_span 7 (some .int) false [] sc P 34 [(0, .ref 0), (1, .int x1), (2, .int x2), (3, .int x3)] [] σ4
    refine w_aload_n dX9_span_34 rfl (List.Mem.head _) ?_
    refine w_getR (ci := 9) (k := 4) (b := 27) dX9_span_35 fl_9_41 (by decide) (gT hG5 rfl (lt_of rfl)) (gR hG5 (b := 27) rfl) ?_
    refine w_aload_n dX9_span_38 rfl (List.Mem.head _) ?_
    refine w_getM (ci := 9) (k := 5) (b := u) dX9_span_39 fl_9_48 (by decide) (gT hG5 rfl (lt_of rfl)) hG5.2.2.1 ?_
    refine w_iload_n dX9_span_42 rfl (List.Mem.tail _ (List.Mem.head _)) ?_
    obtain ⟨r10, σ7, hc9, hG8, h⟩ := h
    refine w_callV dX9_span_43 ml_9_275 ⟨ok_X2_cloudsDrawn, vi_X2_cloudsDrawn⟩ hs_X2_cloudsDrawn (As := [.int x1]) rfl rfl (gT hG5 (IsMk_t0 hG.2.2.2.2) (IsMk_lt hG.2.2.2.2 (k := 0) (by decide))) (Nat.le_of_ble_eq_true rfl) hc9 ?_
    show wp C 9 cX9_span 7 (some .int) false [] sc P 46 [(0, .ref 0), (1, .int x1), (2, .int x2), (3, .int x3)] [.int r10, .ref 27] σ7
    obtain ⟨r14, σ11, hc13, hG12, h⟩ := h
    refine w_callV dX9_span_46 ml_9_281 ⟨ok_X6_dueWithout, vi_X6_dueWithout⟩ hs_X6_dueWithout (As := [.int r10]) rfl rfl (gT hG8 rfl (lt_of rfl)) (Nat.le_of_ble_eq_true rfl) hc13 ?_
    show wp C 9 cX9_span 7 (some .int) false [] sc P 49 [(0, .ref 0), (1, .int x1), (2, .int x2), (3, .int x3)] [.int r14] σ11
    refine w_istore (l' := [(4, .int r14), (0, .ref 0), (1, .int x1), (2, .int x2), (3, .int x3)]) dX9_span_49 (by decide) rfl ?_
    refine w_iconst (v := 1) dX9_span_51 (by decide) ?_
    refine w_istore (l' := [(5, .int 1), (4, .int r14), (0, .ref 0), (1, .int x1), (2, .int x2), (3, .int x3)]) dX9_span_52 (by decide) rfl ?_
    exact w_weak (l' := [(0, .ref 0), (1, .int x1), (2, .int x2), (3, .int x3), (4, .int r14), (5, .int 1)]) (by intro q hq; simp only [List.mem_cons, List.not_mem_nil, or_false] at hq ⊢; rcases hq with rfl | rfl | rfl | rfl | rfl | rfl <;> simp) h
set_option maxRecDepth 10000 in
theorem v_X9_span_54 {C : aM → List Value → aH → aO → aH → Prop} {sc : Nat × (Nat → Int32)} {P : aO → aH → Prop} {σ : aH} {u : Nat}  {x1 : Int32} {x2 : Int32} {x3 : Int32} {x4 : Int32} {x5 : Int32} (hG : G σ u) 
    (h : ((x2 ≤ x5 → P (.inl (some (.int x4))) σ) ∧ (¬ (x2 ≤ x5) → (∃ (r4 : Int32) (σ1 : aH), C mX2_cloudsDrawn [.ref u, .int (x1 + x5)] σ (.inl (some (.int r4))) σ1 ∧ G σ1 u ∧ (∃ (r8 : Int32) (σ5 : aH), C mX6_dueWithout [.ref 27, .int r4] σ1 (.inl (some (.int r8))) σ5 ∧ G σ5 u ∧ ((¬ x3 = 0 → (∀ z9 : Int32, z9 = (if x4 < r8 then r8 else x4) → wp C 9 cX9_span 7 (some .int) false [] sc P 54 [(0, .ref 0), (1, .int x1), (2, .int x2), (3, .int x3), (4, .int z9), (5, .int (x5 + 1))] [] σ5)) ∧ (x3 = 0 → (∀ z11 : Int32, z11 = (if r8 < x4 then r8 else x4) → wp C 9 cX9_span 7 (some .int) false [] sc P 54 [(0, .ref 0), (1, .int x1), (2, .int x2), (3, .int x3), (4, .int z11), (5, .int (x5 + 1))] [] σ5)))))))) :
    wp C 9 cX9_span 7 (some .int) false [] sc P 54 [(0, .ref 0), (1, .int x1), (2, .int x2), (3, .int x3), (4, .int x4), (5, .int x5)] [] σ := by
  refine w_iload dX9_span_54 (List.Mem.tail _ (List.Mem.tail _ (List.Mem.tail _ (List.Mem.tail _ (List.Mem.tail _ (List.Mem.head _)))))) ?_
  refine w_iload_n dX9_span_56 rfl (List.Mem.tail _ (List.Mem.tail _ (List.Mem.head _))) ?_
  refine w_icmp_ge (tgt := 109) dX9_span_57 rfl (fun c9 => ?_) (fun c9 => ?_)
  · replace h := h.1 c9
    refine w_iload dX9_span_109 (List.Mem.tail _ (List.Mem.tail _ (List.Mem.tail _ (List.Mem.tail _ (List.Mem.head _))))) ?_
    exact w_iret dX9_span_111 rfl h
  · replace h := h.2 c9
    refine w_aload_n dX9_span_60 rfl (List.Mem.head _) ?_
    refine w_getR (ci := 9) (k := 4) (b := 27) dX9_span_61 fl_9_41 (by decide) (gT hG rfl (lt_of rfl)) (gR hG (b := 27) rfl) ?_
    refine w_aload_n dX9_span_64 rfl (List.Mem.head _) ?_
    refine w_getM (ci := 9) (k := 5) (b := u) dX9_span_65 fl_9_48 (by decide) (gT hG rfl (lt_of rfl)) hG.2.2.1 ?_
    refine w_iload_n dX9_span_68 rfl (List.Mem.tail _ (List.Mem.head _)) ?_
    refine w_iload dX9_span_69 (List.Mem.tail _ (List.Mem.tail _ (List.Mem.tail _ (List.Mem.tail _ (List.Mem.tail _ (List.Mem.head _)))))) ?_
    refine w_iadd dX9_span_71 ?_
    obtain ⟨r4, σ1, hc3, hG2, h⟩ := h
    refine w_callV dX9_span_72 ml_9_275 ⟨ok_X2_cloudsDrawn, vi_X2_cloudsDrawn⟩ hs_X2_cloudsDrawn (As := [.int (x1 + x5)]) rfl rfl (gT hG (IsMk_t0 hG.2.2.2.2) (IsMk_lt hG.2.2.2.2 (k := 0) (by decide))) (Nat.le_of_ble_eq_true rfl) hc3 ?_
    show wp C 9 cX9_span 7 (some .int) false [] sc P 75 [(0, .ref 0), (1, .int x1), (2, .int x2), (3, .int x3), (4, .int x4), (5, .int x5)] [.int r4, .ref 27] σ1
    obtain ⟨r8, σ5, hc7, hG6, h⟩ := h
    refine w_callV dX9_span_75 ml_9_281 ⟨ok_X6_dueWithout, vi_X6_dueWithout⟩ hs_X6_dueWithout (As := [.int r4]) rfl rfl (gT hG2 rfl (lt_of rfl)) (Nat.le_of_ble_eq_true rfl) hc7 ?_
    show wp C 9 cX9_span 7 (some .int) false [] sc P 78 [(0, .ref 0), (1, .int x1), (2, .int x2), (3, .int x3), (4, .int x4), (5, .int x5)] [.int r8] σ5
    refine w_istore (l' := [(6, .int r8), (0, .ref 0), (1, .int x1), (2, .int x2), (3, .int x3), (4, .int x4), (5, .int x5)]) dX9_span_78 (by decide) rfl ?_
    refine w_iload_n dX9_span_80 rfl (List.Mem.tail _ (List.Mem.tail _ (List.Mem.tail _ (List.Mem.tail _ (List.Mem.head _))))) ?_
    refine w_if_ne (tgt := 94) dX9_span_81 rfl (fun c9 => ?_) (fun c9 => ?_)
    · replace h := h.1 c9
      refine w_iload dX9_span_94 (List.Mem.tail _ (List.Mem.tail _ (List.Mem.tail _ (List.Mem.tail _ (List.Mem.tail _ (List.Mem.head _)))))) ?_
      refine w_iload dX9_span_96 (List.Mem.head _) ?_
      refine w_mmax dX9_span_98 lk_9_289 (Nat.le_of_ble_eq_true rfl) ?_
      refine top_i (fun z9 ez10 => ?_)
      replace h := h z9 ez10
      refine w_istore (l' := [(4, .int z9), (6, .int r8), (0, .ref 0), (1, .int x1), (2, .int x2), (3, .int x3), (5, .int x5)]) dX9_span_101 (by decide) rfl ?_
      refine w_iinc (v := x5 + 1) (l' := [(5, .int (x5 + 1)), (4, .int z9), (6, .int r8), (0, .ref 0), (1, .int x1), (2, .int x2), (3, .int x3)]) dX9_span_103 (List.Mem.tail _ (List.Mem.tail _ (List.Mem.tail _ (List.Mem.tail _ (List.Mem.tail _ (List.Mem.tail _ (List.Mem.head _))))))) rfl (by decide) rfl ?_
      refine w_goto (tgt := 54) dX9_span_106 rfl ?_
      exact w_weak (l' := [(0, .ref 0), (1, .int x1), (2, .int x2), (3, .int x3), (4, .int z9), (5, .int (x5 + 1))]) (by intro q hq; simp only [List.mem_cons, List.not_mem_nil, or_false] at hq ⊢; rcases hq with rfl | rfl | rfl | rfl | rfl | rfl <;> simp) h
    · replace h := h.2 c9
      refine w_iload dX9_span_84 (List.Mem.tail _ (List.Mem.tail _ (List.Mem.tail _ (List.Mem.tail _ (List.Mem.tail _ (List.Mem.head _)))))) ?_
      refine w_iload dX9_span_86 (List.Mem.head _) ?_
      refine w_mmin dX9_span_88 lk_9_284 (Nat.le_of_ble_eq_true rfl) ?_
      refine top_i (fun z11 ez12 => ?_)
      replace h := h z11 ez12
      refine w_goto (tgt := 101) dX9_span_91 rfl ?_
      refine w_istore (l' := [(4, .int z11), (6, .int r8), (0, .ref 0), (1, .int x1), (2, .int x2), (3, .int x3), (5, .int x5)]) dX9_span_101 (by decide) rfl ?_
      refine w_iinc (v := x5 + 1) (l' := [(5, .int (x5 + 1)), (4, .int z11), (6, .int r8), (0, .ref 0), (1, .int x1), (2, .int x2), (3, .int x3)]) dX9_span_103 (List.Mem.tail _ (List.Mem.tail _ (List.Mem.tail _ (List.Mem.tail _ (List.Mem.tail _ (List.Mem.tail _ (List.Mem.head _))))))) rfl (by decide) rfl ?_
      refine w_goto (tgt := 54) dX9_span_106 rfl ?_
      exact w_weak (l' := [(0, .ref 0), (1, .int x1), (2, .int x2), (3, .int x3), (4, .int z11), (5, .int (x5 + 1))]) (by intro q hq; simp only [List.mem_cons, List.not_mem_nil, or_false] at hq ⊢; rcases hq with rfl | rfl | rfl | rfl | rfl | rfl <;> simp) h
theorem dX9_led_0 : decode cX9_led 0 = .ok (.aload_n 0, 1) := by decide +kernel
theorem dX9_led_1 : decode cX9_led 1 = .ok (.iload_n 1, 1) := by decide +kernel
theorem dX9_led_2 : decode cX9_led 2 = .ok (.iload_n 2, 1) := by decide +kernel
theorem dX9_led_3 : decode cX9_led 3 = .ok (.invokevirtual 151, 3) := by decide +kernel
theorem dX9_led_6 : decode cX9_led 6 = .ok (.aload_n 0, 1) := by decide +kernel
theorem dX9_led_7 : decode cX9_led 7 = .ok (.getfield 41, 3) := by decide +kernel
theorem dX9_led_10 : decode cX9_led 10 = .ok (.iload_n 1, 1) := by decide +kernel
theorem dX9_led_11 : decode cX9_led 11 = .ok (.iload_n 2, 1) := by decide +kernel
theorem dX9_led_12 : decode cX9_led 12 = .ok (.invokevirtual 292, 3) := by decide +kernel
theorem dX9_led_15 : decode cX9_led 15 = .ok (.ireturn, 1) := by decide +kernel
set_option maxRecDepth 10000 in
theorem v_X9_led_0 {C : aM → List Value → aH → aO → aH → Prop} {sc : Nat × (Nat → Int32)} {P : aO → aH → Prop} {σ : aH} {u : Nat}  {x1 : Int32} {x2 : Int32} (hG : G σ u) 
    (h : ((∃ (e9 : Nat) (σ1 : aH), C mX9_requireTwo [.ref 0, .int x1, .int x2] σ (.inr e9) σ1 ∧ P (.inr e9) σ1) ∨ (∃ σ1 : aH, C mX9_requireTwo [.ref 0, .int x1, .int x2] σ (.inl none) σ1 ∧ G σ1 u ∧ (∃ (r7 : Int32) (σ4 : aH), C mX6_ledTo [.ref 27, .int x1, .int x2] σ1 (.inl (some (.int r7))) σ4 ∧ G σ4 u ∧ P (.inl (some (.int r7))) σ4)))) :
    wp C 9 cX9_led 3 (some .int) false [] sc P 0 [(0, .ref 0), (1, .int x1), (2, .int x2)] [] σ := by
  refine w_aload_n dX9_led_0 rfl (List.Mem.head _) ?_
  refine w_iload_n dX9_led_1 rfl (List.Mem.tail _ (List.Mem.head _)) ?_
  refine w_iload_n dX9_led_2 rfl (List.Mem.tail _ (List.Mem.tail _ (List.Mem.head _))) ?_
  rcases h with h | h
  · obtain ⟨e9, σ1, hc3, h⟩ := h
    exact w_throwV dX9_led_3 mp_9_151 ⟨ok_X9_requireTwo, vi_X9_requireTwo⟩ hs_X9_requireTwo (As := [.int x1, .int x2]) rfl rfl (gT hG rfl (lt_of rfl)) (Nat.le_of_ble_eq_true rfl) hc3 rfl h
  · obtain ⟨σ1, hc3, hG2, h⟩ := h
    refine w_callV dX9_led_3 ml_9_151 ⟨ok_X9_requireTwo, vi_X9_requireTwo⟩ hs_X9_requireTwo (As := [.int x1, .int x2]) rfl rfl (gT hG rfl (lt_of rfl)) (Nat.le_of_ble_eq_true rfl) hc3 ?_
    show wp C 9 cX9_led 3 (some .int) false [] sc P 6 [(0, .ref 0), (1, .int x1), (2, .int x2)] [] σ1
    refine w_aload_n dX9_led_6 rfl (List.Mem.head _) ?_
    refine w_getR (ci := 9) (k := 4) (b := 27) dX9_led_7 fl_9_41 (by decide) (gT hG2 rfl (lt_of rfl)) (gR hG2 (b := 27) rfl) ?_
    refine w_iload_n dX9_led_10 rfl (List.Mem.tail _ (List.Mem.head _)) ?_
    refine w_iload_n dX9_led_11 rfl (List.Mem.tail _ (List.Mem.tail _ (List.Mem.head _))) ?_
    obtain ⟨r7, σ4, hc6, hG5, h⟩ := h
    refine w_callV dX9_led_12 ml_9_292 ⟨ok_X6_ledTo, vi_X6_ledTo⟩ hs_X6_ledTo (As := [.int x1, .int x2]) rfl rfl (gT hG2 rfl (lt_of rfl)) (Nat.le_of_ble_eq_true rfl) hc6 ?_
    show wp C 9 cX9_led 3 (some .int) false [] sc P 15 [(0, .ref 0), (1, .int x1), (2, .int x2)] [.int r7] σ4
    exact w_iret dX9_led_15 rfl h
theorem dX9_whose_0 : decode cX9_whose 0 = .ok (.aload_n 0, 1) := by decide +kernel
theorem dX9_whose_1 : decode cX9_whose 1 = .ok (.iload_n 1, 1) := by decide +kernel
theorem dX9_whose_2 : decode cX9_whose 2 = .ok (.invokevirtual 118, 3) := by decide +kernel
theorem dX9_whose_5 : decode cX9_whose 5 = .ok (.iconst 0, 1) := by decide +kernel
theorem dX9_whose_6 : decode cX9_whose 6 = .ok (.istore_n 2, 1) := by decide +kernel
theorem dX9_whose_7 : decode cX9_whose 7 = .ok (.iconst (-1), 1) := by decide +kernel
theorem dX9_whose_8 : decode cX9_whose 8 = .ok (.istore_n 3, 1) := by decide +kernel
theorem dX9_whose_9 : decode cX9_whose 9 = .ok (.iconst 0, 1) := by decide +kernel
theorem dX9_whose_10 : decode cX9_whose 10 = .ok (.istore 4, 2) := by decide +kernel
theorem dX9_whose_12 : decode cX9_whose 12 = .ok (.iload 4, 2) := by decide +kernel
theorem dX9_whose_14 : decode cX9_whose 14 = .ok (.aload_n 0, 1) := by decide +kernel
theorem dX9_whose_15 : decode cX9_whose 15 = .ok (.getfield 48, 3) := by decide +kernel
theorem dX9_whose_18 : decode cX9_whose 18 = .ok (.getfield 87, 3) := by decide +kernel
theorem dX9_whose_21 : decode cX9_whose 21 = .ok (.getfield 91, 3) := by decide +kernel
theorem dX9_whose_24 : decode cX9_whose 24 = .ok (.if_icmp .ge 43, 3) := by decide +kernel
theorem dX9_whose_27 : decode cX9_whose 27 = .ok (.iload 4, 2) := by decide +kernel
theorem dX9_whose_29 : decode cX9_whose 29 = .ok (.iload_n 1, 1) := by decide +kernel
theorem dX9_whose_30 : decode cX9_whose 30 = .ok (.if_icmp .ne 7, 3) := by decide +kernel
theorem dX9_whose_33 : decode cX9_whose 33 = .ok (.iconst 0, 1) := by decide +kernel
theorem dX9_whose_34 : decode cX9_whose 34 = .ok (.goto 13, 3) := by decide +kernel
theorem dX9_whose_37 : decode cX9_whose 37 = .ok (.aload_n 0, 1) := by decide +kernel
theorem dX9_whose_38 : decode cX9_whose 38 = .ok (.getfield 41, 3) := by decide +kernel
theorem dX9_whose_41 : decode cX9_whose 41 = .ok (.iload_n 1, 1) := by decide +kernel
theorem dX9_whose_42 : decode cX9_whose 42 = .ok (.iload 4, 2) := by decide +kernel
theorem dX9_whose_44 : decode cX9_whose 44 = .ok (.invokevirtual 292, 3) := by decide +kernel
theorem dX9_whose_47 : decode cX9_whose 47 = .ok (.istore 5, 2) := by decide +kernel
theorem dX9_whose_49 : decode cX9_whose 49 = .ok (.iload 5, 2) := by decide +kernel
theorem dX9_whose_51 : decode cX9_whose 51 = .ok (.iload_n 2, 1) := by decide +kernel
theorem dX9_whose_52 : decode cX9_whose 52 = .ok (.if_icmp .le 9, 3) := by decide +kernel
theorem dX9_whose_55 : decode cX9_whose 55 = .ok (.iload 5, 2) := by decide +kernel
theorem dX9_whose_57 : decode cX9_whose 57 = .ok (.istore_n 2, 1) := by decide +kernel
theorem dX9_whose_58 : decode cX9_whose 58 = .ok (.iload 4, 2) := by decide +kernel
theorem dX9_whose_60 : decode cX9_whose 60 = .ok (.istore_n 3, 1) := by decide +kernel
theorem dX9_whose_61 : decode cX9_whose 61 = .ok (.iinc 4 1, 3) := by decide +kernel
theorem dX9_whose_64 : decode cX9_whose 64 = .ok (.goto (-52), 3) := by decide +kernel
theorem dX9_whose_67 : decode cX9_whose 67 = .ok (.iload_n 3, 1) := by decide +kernel
theorem dX9_whose_68 : decode cX9_whose 68 = .ok (.ireturn, 1) := by decide +kernel
set_option maxRecDepth 10000 in
theorem v_X9_whose_0 {C : aM → List Value → aH → aO → aH → Prop} {sc : Nat × (Nat → Int32)} {P : aO → aH → Prop} {σ : aH} {u : Nat}  {x1 : Int32} (hG : G σ u) 
    (h : ((∃ (e9 : Nat) (σ1 : aH), C mX9_requireStall [.ref 0, .int x1] σ (.inr e9) σ1 ∧ P (.inr e9) σ1) ∨ (∃ σ1 : aH, C mX9_requireStall [.ref 0, .int x1] σ (.inl none) σ1 ∧ G σ1 u ∧ wp C 9 cX9_whose 6 (some .int) false [] sc P 12 [(0, .ref 0), (1, .int x1), (2, .int 0), (3, .int (-1)), (4, .int 0)] [] σ1))) :
    wp C 9 cX9_whose 6 (some .int) false [] sc P 0 [(0, .ref 0), (1, .int x1)] [] σ := by
  refine w_aload_n dX9_whose_0 rfl (List.Mem.head _) ?_
  refine w_iload_n dX9_whose_1 rfl (List.Mem.tail _ (List.Mem.head _)) ?_
  rcases h with h | h
  · obtain ⟨e9, σ1, hc3, h⟩ := h
    exact w_throwV dX9_whose_2 mp_9_118 ⟨ok_X9_requireStall, vi_X9_requireStall⟩ hs_X9_requireStall (As := [.int x1]) rfl rfl (gT hG rfl (lt_of rfl)) (Nat.le_of_ble_eq_true rfl) hc3 rfl h
  · obtain ⟨σ1, hc3, hG2, h⟩ := h
    refine w_callV dX9_whose_2 ml_9_118 ⟨ok_X9_requireStall, vi_X9_requireStall⟩ hs_X9_requireStall (As := [.int x1]) rfl rfl (gT hG rfl (lt_of rfl)) (Nat.le_of_ble_eq_true rfl) hc3 ?_
    show wp C 9 cX9_whose 6 (some .int) false [] sc P 5 [(0, .ref 0), (1, .int x1)] [] σ1
    refine w_iconst (v := 0) dX9_whose_5 (by decide) ?_
    refine w_istore_n (l' := [(2, .int 0), (0, .ref 0), (1, .int x1)]) dX9_whose_6 rfl (by decide) rfl ?_
    refine w_iconst (v := (-1)) dX9_whose_7 (by decide) ?_
    refine w_istore_n (l' := [(3, .int (-1)), (2, .int 0), (0, .ref 0), (1, .int x1)]) dX9_whose_8 rfl (by decide) rfl ?_
    refine w_iconst (v := 0) dX9_whose_9 (by decide) ?_
    refine w_istore (l' := [(4, .int 0), (3, .int (-1)), (2, .int 0), (0, .ref 0), (1, .int x1)]) dX9_whose_10 (by decide) rfl ?_
    exact w_weak (l' := [(0, .ref 0), (1, .int x1), (2, .int 0), (3, .int (-1)), (4, .int 0)]) (by intro q hq; simp only [List.mem_cons, List.not_mem_nil, or_false] at hq ⊢; rcases hq with rfl | rfl | rfl | rfl | rfl <;> simp) h
set_option maxRecDepth 10000 in
theorem v_X9_whose_12 {C : aM → List Value → aH → aO → aH → Prop} {sc : Nat × (Nat → Int32)} {P : aO → aH → Prop} {σ : aH} {u : Nat}  {x1 : Int32} {x2 : Int32} {x3 : Int32} {x4 : Int32} (hG : G σ u) 
    (h : (((gI σ (u + 1) 8) ≤ x4 → P (.inl (some (.int x3))) σ) ∧ (¬ ((gI σ (u + 1) 8) ≤ x4) → ((¬ x4 = x1 → (∃ (r4 : Int32) (σ1 : aH), C mX6_ledTo [.ref 27, .int x1, .int x4] σ (.inl (some (.int r4))) σ1 ∧ G σ1 u ∧ ((r4 ≤ x2 → wp C 9 cX9_whose 6 (some .int) false [] sc P 12 [(0, .ref 0), (1, .int x1), (2, .int x2), (3, .int x3), (4, .int (x4 + 1))] [] σ1) ∧ (¬ (r4 ≤ x2) → wp C 9 cX9_whose 6 (some .int) false [] sc P 12 [(0, .ref 0), (1, .int x1), (2, .int r4), (3, .int x4), (4, .int (x4 + 1))] [] σ1)))) ∧ (x4 = x1 → ((0 ≤ x2 → wp C 9 cX9_whose 6 (some .int) false [] sc P 12 [(0, .ref 0), (1, .int x1), (2, .int x2), (3, .int x3), (4, .int (x4 + 1))] [] σ) ∧ (¬ (0 ≤ x2) → wp C 9 cX9_whose 6 (some .int) false [] sc P 12 [(0, .ref 0), (1, .int x1), (2, .int 0), (3, .int x4), (4, .int (x4 + 1))] [] σ))))))) :
    wp C 9 cX9_whose 6 (some .int) false [] sc P 12 [(0, .ref 0), (1, .int x1), (2, .int x2), (3, .int x3), (4, .int x4)] [] σ := by
  refine w_iload dX9_whose_12 (List.Mem.tail _ (List.Mem.tail _ (List.Mem.tail _ (List.Mem.tail _ (List.Mem.head _))))) ?_
  refine w_aload_n dX9_whose_14 rfl (List.Mem.head _) ?_
  refine w_getM (ci := 9) (k := 5) (b := u) dX9_whose_15 fl_9_48 (by decide) (gT hG rfl (lt_of rfl)) hG.2.2.1 ?_
  refine w_getR (ci := 2) (k := 0) (b := (u + 1)) dX9_whose_18 fl_9_87 (by decide) (gT hG (IsMk_t0 hG.2.2.2.2) (IsMk_lt hG.2.2.2.2 (k := 0) (by decide))) (gR hG (IsMk_r0_0 hG.2.2.2.2)) ?_
  refine w_getI (ci := 7) (k := 8) dX9_whose_21 fl_9_91 (by decide) (gT hG (IsMk_t1 hG.2.2.2.2) (IsMk_lt hG.2.2.2.2 (k := 1) (by decide))) ?_
  refine w_icmp_ge (tgt := 67) dX9_whose_24 rfl (fun c9 => ?_) (fun c9 => ?_)
  · replace h := h.1 c9
    refine w_iload_n dX9_whose_67 rfl (List.Mem.tail _ (List.Mem.tail _ (List.Mem.tail _ (List.Mem.head _)))) ?_
    exact w_iret dX9_whose_68 rfl h
  · replace h := h.2 c9
    refine w_iload dX9_whose_27 (List.Mem.tail _ (List.Mem.tail _ (List.Mem.tail _ (List.Mem.tail _ (List.Mem.head _))))) ?_
    refine w_iload_n dX9_whose_29 rfl (List.Mem.tail _ (List.Mem.head _)) ?_
    refine w_icmp_ne (tgt := 37) dX9_whose_30 rfl (fun c9 => ?_) (fun c9 => ?_)
    · replace h := h.1 c9
      refine w_aload_n dX9_whose_37 rfl (List.Mem.head _) ?_
      refine w_getR (ci := 9) (k := 4) (b := 27) dX9_whose_38 fl_9_41 (by decide) (gT hG rfl (lt_of rfl)) (gR hG (b := 27) rfl) ?_
      refine w_iload_n dX9_whose_41 rfl (List.Mem.tail _ (List.Mem.head _)) ?_
      refine w_iload dX9_whose_42 (List.Mem.tail _ (List.Mem.tail _ (List.Mem.tail _ (List.Mem.tail _ (List.Mem.head _))))) ?_
      obtain ⟨r4, σ1, hc3, hG2, h⟩ := h
      refine w_callV dX9_whose_44 ml_9_292 ⟨ok_X6_ledTo, vi_X6_ledTo⟩ hs_X6_ledTo (As := [.int x1, .int x4]) rfl rfl (gT hG rfl (lt_of rfl)) (Nat.le_of_ble_eq_true rfl) hc3 ?_
      show wp C 9 cX9_whose 6 (some .int) false [] sc P 47 [(0, .ref 0), (1, .int x1), (2, .int x2), (3, .int x3), (4, .int x4)] [.int r4] σ1
      refine w_istore (l' := [(5, .int r4), (0, .ref 0), (1, .int x1), (2, .int x2), (3, .int x3), (4, .int x4)]) dX9_whose_47 (by decide) rfl ?_
      refine w_iload dX9_whose_49 (List.Mem.head _) ?_
      refine w_iload_n dX9_whose_51 rfl (List.Mem.tail _ (List.Mem.tail _ (List.Mem.tail _ (List.Mem.head _)))) ?_
      refine w_icmp_le (tgt := 61) dX9_whose_52 rfl (fun c9 => ?_) (fun c9 => ?_)
      · replace h := h.1 c9
        refine w_iinc (v := x4 + 1) (l' := [(4, .int (x4 + 1)), (5, .int r4), (0, .ref 0), (1, .int x1), (2, .int x2), (3, .int x3)]) dX9_whose_61 (List.Mem.tail _ (List.Mem.tail _ (List.Mem.tail _ (List.Mem.tail _ (List.Mem.tail _ (List.Mem.head _)))))) rfl (by decide) rfl ?_
        refine w_goto (tgt := 12) dX9_whose_64 rfl ?_
        exact w_weak (l' := [(0, .ref 0), (1, .int x1), (2, .int x2), (3, .int x3), (4, .int (x4 + 1))]) (by intro q hq; simp only [List.mem_cons, List.not_mem_nil, or_false] at hq ⊢; rcases hq with rfl | rfl | rfl | rfl | rfl <;> simp) h
      · replace h := h.2 c9
        refine w_iload dX9_whose_55 (List.Mem.head _) ?_
        refine w_istore_n (l' := [(2, .int r4), (5, .int r4), (0, .ref 0), (1, .int x1), (3, .int x3), (4, .int x4)]) dX9_whose_57 rfl (by decide) rfl ?_
        refine w_iload dX9_whose_58 (List.Mem.tail _ (List.Mem.tail _ (List.Mem.tail _ (List.Mem.tail _ (List.Mem.tail _ (List.Mem.head _)))))) ?_
        refine w_istore_n (l' := [(3, .int x4), (2, .int r4), (5, .int r4), (0, .ref 0), (1, .int x1), (4, .int x4)]) dX9_whose_60 rfl (by decide) rfl ?_
        refine w_iinc (v := x4 + 1) (l' := [(4, .int (x4 + 1)), (3, .int x4), (2, .int r4), (5, .int r4), (0, .ref 0), (1, .int x1)]) dX9_whose_61 (List.Mem.tail _ (List.Mem.tail _ (List.Mem.tail _ (List.Mem.tail _ (List.Mem.tail _ (List.Mem.head _)))))) rfl (by decide) rfl ?_
        refine w_goto (tgt := 12) dX9_whose_64 rfl ?_
        exact w_weak (l' := [(0, .ref 0), (1, .int x1), (2, .int r4), (3, .int x4), (4, .int (x4 + 1))]) (by intro q hq; simp only [List.mem_cons, List.not_mem_nil, or_false] at hq ⊢; rcases hq with rfl | rfl | rfl | rfl | rfl <;> simp) h
    · replace h := h.2 c9
      refine w_iconst (v := 0) dX9_whose_33 (by decide) ?_
      refine w_goto (tgt := 47) dX9_whose_34 rfl ?_
      refine w_istore (l' := [(5, .int 0), (0, .ref 0), (1, .int x1), (2, .int x2), (3, .int x3), (4, .int x4)]) dX9_whose_47 (by decide) rfl ?_
      refine w_iload dX9_whose_49 (List.Mem.head _) ?_
      refine w_iload_n dX9_whose_51 rfl (List.Mem.tail _ (List.Mem.tail _ (List.Mem.tail _ (List.Mem.head _)))) ?_
      refine w_icmp_le (tgt := 61) dX9_whose_52 rfl (fun c9 => ?_) (fun c9 => ?_)
      · replace h := h.1 c9
        refine w_iinc (v := x4 + 1) (l' := [(4, .int (x4 + 1)), (5, .int 0), (0, .ref 0), (1, .int x1), (2, .int x2), (3, .int x3)]) dX9_whose_61 (List.Mem.tail _ (List.Mem.tail _ (List.Mem.tail _ (List.Mem.tail _ (List.Mem.tail _ (List.Mem.head _)))))) rfl (by decide) rfl ?_
        refine w_goto (tgt := 12) dX9_whose_64 rfl ?_
        exact w_weak (l' := [(0, .ref 0), (1, .int x1), (2, .int x2), (3, .int x3), (4, .int (x4 + 1))]) (by intro q hq; simp only [List.mem_cons, List.not_mem_nil, or_false] at hq ⊢; rcases hq with rfl | rfl | rfl | rfl | rfl <;> simp) h
      · replace h := h.2 c9
        refine w_iload dX9_whose_55 (List.Mem.head _) ?_
        refine w_istore_n (l' := [(2, .int 0), (5, .int 0), (0, .ref 0), (1, .int x1), (3, .int x3), (4, .int x4)]) dX9_whose_57 rfl (by decide) rfl ?_
        refine w_iload dX9_whose_58 (List.Mem.tail _ (List.Mem.tail _ (List.Mem.tail _ (List.Mem.tail _ (List.Mem.tail _ (List.Mem.head _)))))) ?_
        refine w_istore_n (l' := [(3, .int x4), (2, .int 0), (5, .int 0), (0, .ref 0), (1, .int x1), (4, .int x4)]) dX9_whose_60 rfl (by decide) rfl ?_
        refine w_iinc (v := x4 + 1) (l' := [(4, .int (x4 + 1)), (3, .int x4), (2, .int 0), (5, .int 0), (0, .ref 0), (1, .int x1)]) dX9_whose_61 (List.Mem.tail _ (List.Mem.tail _ (List.Mem.tail _ (List.Mem.tail _ (List.Mem.tail _ (List.Mem.head _)))))) rfl (by decide) rfl ?_
        refine w_goto (tgt := 12) dX9_whose_64 rfl ?_
        exact w_weak (l' := [(0, .ref 0), (1, .int x1), (2, .int 0), (3, .int x4), (4, .int (x4 + 1))]) (by intro q hq; simp only [List.mem_cons, List.not_mem_nil, or_false] at hq ⊢; rcases hq with rfl | rfl | rfl | rfl | rfl <;> simp) h
theorem dX9_harmless_0 : decode cX9_harmless 0 = .ok (.aload_n 0, 1) := by decide +kernel
theorem dX9_harmless_1 : decode cX9_harmless 1 = .ok (.iload_n 1, 1) := by decide +kernel
theorem dX9_harmless_2 : decode cX9_harmless 2 = .ok (.invokevirtual 118, 3) := by decide +kernel
theorem dX9_harmless_5 : decode cX9_harmless 5 = .ok (.aload_n 0, 1) := by decide +kernel
theorem dX9_harmless_6 : decode cX9_harmless 6 = .ok (.getfield 33, 3) := by decide +kernel
theorem dX9_harmless_9 : decode cX9_harmless 9 = .ok (.iload_n 1, 1) := by decide +kernel
theorem dX9_harmless_10 : decode cX9_harmless 10 = .ok (.invokevirtual 295, 3) := by decide +kernel
theorem dX9_harmless_13 : decode cX9_harmless 13 = .ok (.ireturn, 1) := by decide +kernel
set_option maxRecDepth 10000 in
theorem v_X9_harmless_0 {C : aM → List Value → aH → aO → aH → Prop} {sc : Nat × (Nat → Int32)} {P : aO → aH → Prop} {σ : aH} {u : Nat}  {x1 : Int32} (hG : G σ u) 
    (h : ((∃ (e9 : Nat) (σ1 : aH), C mX9_requireStall [.ref 0, .int x1] σ (.inr e9) σ1 ∧ P (.inr e9) σ1) ∨ (∃ σ1 : aH, C mX9_requireStall [.ref 0, .int x1] σ (.inl none) σ1 ∧ G σ1 u ∧ (∃ (r7 : Int32) (σ4 : aH), C mX4_greatestHarmless [.ref 26, .int x1] σ1 (.inl (some (.int r7))) σ4 ∧ G σ4 u ∧ P (.inl (some (.int r7))) σ4)))) :
    wp C 9 cX9_harmless 2 (some .int) false [] sc P 0 [(0, .ref 0), (1, .int x1)] [] σ := by
  refine w_aload_n dX9_harmless_0 rfl (List.Mem.head _) ?_
  refine w_iload_n dX9_harmless_1 rfl (List.Mem.tail _ (List.Mem.head _)) ?_
  rcases h with h | h
  · obtain ⟨e9, σ1, hc3, h⟩ := h
    exact w_throwV dX9_harmless_2 mp_9_118 ⟨ok_X9_requireStall, vi_X9_requireStall⟩ hs_X9_requireStall (As := [.int x1]) rfl rfl (gT hG rfl (lt_of rfl)) (Nat.le_of_ble_eq_true rfl) hc3 rfl h
  · obtain ⟨σ1, hc3, hG2, h⟩ := h
    refine w_callV dX9_harmless_2 ml_9_118 ⟨ok_X9_requireStall, vi_X9_requireStall⟩ hs_X9_requireStall (As := [.int x1]) rfl rfl (gT hG rfl (lt_of rfl)) (Nat.le_of_ble_eq_true rfl) hc3 ?_
    show wp C 9 cX9_harmless 2 (some .int) false [] sc P 5 [(0, .ref 0), (1, .int x1)] [] σ1
    refine w_aload_n dX9_harmless_5 rfl (List.Mem.head _) ?_
    refine w_getR (ci := 9) (k := 3) (b := 26) dX9_harmless_6 fl_9_33 (by decide) (gT hG2 rfl (lt_of rfl)) (gR hG2 (b := 26) rfl) ?_
    refine w_iload_n dX9_harmless_9 rfl (List.Mem.tail _ (List.Mem.head _)) ?_
    obtain ⟨r7, σ4, hc6, hG5, h⟩ := h
    refine w_callV dX9_harmless_10 ml_9_295 ⟨ok_X4_greatestHarmless, vi_X4_greatestHarmless⟩ hs_X4_greatestHarmless (As := [.int x1]) rfl rfl (gT hG2 rfl (lt_of rfl)) (Nat.le_of_ble_eq_true rfl) hc6 ?_
    show wp C 9 cX9_harmless 2 (some .int) false [] sc P 13 [(0, .ref 0), (1, .int x1)] [.int r7] σ4
    exact w_iret dX9_harmless_13 rfl h
theorem dX9_folded_0 : decode cX9_folded 0 = .ok (.aload_n 0, 1) := by decide +kernel
theorem dX9_folded_1 : decode cX9_folded 1 = .ok (.iload_n 1, 1) := by decide +kernel
theorem dX9_folded_2 : decode cX9_folded 2 = .ok (.invokestatic 269, 3) := by decide +kernel
theorem dX9_folded_5 : decode cX9_folded 5 = .ok (.invokevirtual 69, 3) := by decide +kernel
theorem dX9_folded_8 : decode cX9_folded 8 = .ok (.aload_n 0, 1) := by decide +kernel
theorem dX9_folded_9 : decode cX9_folded 9 = .ok (.getfield 41, 3) := by decide +kernel
theorem dX9_folded_12 : decode cX9_folded 12 = .ok (.iload_n 1, 1) := by decide +kernel
theorem dX9_folded_13 : decode cX9_folded 13 = .ok (.invokevirtual 298, 3) := by decide +kernel
theorem dX9_folded_16 : decode cX9_folded 16 = .ok (.ireturn, 1) := by decide +kernel
set_option maxRecDepth 10000 in
theorem v_X9_folded_0 {C : aM → List Value → aH → aO → aH → Prop} {sc : Nat × (Nat → Int32)} {P : aO → aH → Prop} {σ : aH} {u : Nat}  {x1 : Int32} (hG : G σ u) 
    (h : (∃ (r4 : Int32) (σ1 : aH), C mX9_isDue [.int x1] σ (.inl (some (.int r4))) σ1 ∧ G σ1 u ∧ ((∃ (e9 : Nat) (σ5 : aH), C mX9_require [.ref 0, .int r4] σ1 (.inr e9) σ5 ∧ P (.inr e9) σ5) ∨ (∃ σ5 : aH, C mX9_require [.ref 0, .int r4] σ1 (.inl none) σ5 ∧ G σ5 u ∧ (∃ (r11 : Int32) (σ8 : aH), C mX6_latestFold [.ref 27, .int x1] σ5 (.inl (some (.int r11))) σ8 ∧ G σ8 u ∧ P (.inl (some (.int r11))) σ8))))) :
    wp C 9 cX9_folded 2 (some .int) false [] sc P 0 [(0, .ref 0), (1, .int x1)] [] σ := by
  refine w_aload_n dX9_folded_0 rfl (List.Mem.head _) ?_
  refine w_iload_n dX9_folded_1 rfl (List.Mem.tail _ (List.Mem.head _)) ?_
  obtain ⟨r4, σ1, hc3, hG2, h⟩ := h
  refine w_callS dX9_folded_2 ml_9_269 ⟨ok_X9_isDue, st_X9_isDue⟩ hs_X9_isDue (As := [.int x1]) rfl rfl (Nat.le_of_ble_eq_true rfl) hc3 ?_
  show wp C 9 cX9_folded 2 (some .int) false [] sc P 5 [(0, .ref 0), (1, .int x1)] [.int r4, .ref 0] σ1
  rcases h with h | h
  · obtain ⟨e9, σ5, hc7, h⟩ := h
    exact w_throwV dX9_folded_5 mp_9_69 ⟨ok_X9_require, vi_X9_require⟩ hs_X9_require (As := [.int r4]) rfl rfl (gT hG2 rfl (lt_of rfl)) (Nat.le_of_ble_eq_true rfl) hc7 rfl h
  · obtain ⟨σ5, hc7, hG6, h⟩ := h
    refine w_callV dX9_folded_5 ml_9_69 ⟨ok_X9_require, vi_X9_require⟩ hs_X9_require (As := [.int r4]) rfl rfl (gT hG2 rfl (lt_of rfl)) (Nat.le_of_ble_eq_true rfl) hc7 ?_
    show wp C 9 cX9_folded 2 (some .int) false [] sc P 8 [(0, .ref 0), (1, .int x1)] [] σ5
    refine w_aload_n dX9_folded_8 rfl (List.Mem.head _) ?_
    refine w_getR (ci := 9) (k := 4) (b := 27) dX9_folded_9 fl_9_41 (by decide) (gT hG6 rfl (lt_of rfl)) (gR hG6 (b := 27) rfl) ?_
    refine w_iload_n dX9_folded_12 rfl (List.Mem.tail _ (List.Mem.head _)) ?_
    obtain ⟨r11, σ8, hc10, hG9, h⟩ := h
    refine w_callV dX9_folded_13 ml_9_298 ⟨ok_X6_latestFold, vi_X6_latestFold⟩ hs_X6_latestFold (As := [.int x1]) rfl rfl (gT hG6 rfl (lt_of rfl)) (Nat.le_of_ble_eq_true rfl) hc10 ?_
    show wp C 9 cX9_folded 2 (some .int) false [] sc P 16 [(0, .ref 0), (1, .int x1)] [.int r11] σ8
    exact w_iret dX9_folded_16 rfl h
theorem dX9_awned_0 : decode cX9_awned 0 = .ok (.aload_n 0, 1) := by decide +kernel
theorem dX9_awned_1 : decode cX9_awned 1 = .ok (.iload_n 1, 1) := by decide +kernel
theorem dX9_awned_2 : decode cX9_awned 2 = .ok (.invokevirtual 118, 3) := by decide +kernel
theorem dX9_awned_5 : decode cX9_awned 5 = .ok (.aload_n 0, 1) := by decide +kernel
theorem dX9_awned_6 : decode cX9_awned 6 = .ok (.iload_n 2, 1) := by decide +kernel
theorem dX9_awned_7 : decode cX9_awned 7 = .ok (.invokestatic 210, 3) := by decide +kernel
theorem dX9_awned_10 : decode cX9_awned 10 = .ok (.invokevirtual 69, 3) := by decide +kernel
theorem dX9_awned_13 : decode cX9_awned 13 = .ok (.aload_n 0, 1) := by decide +kernel
theorem dX9_awned_14 : decode cX9_awned 14 = .ok (.getfield 33, 3) := by decide +kernel
theorem dX9_awned_17 : decode cX9_awned 17 = .ok (.iload_n 1, 1) := by decide +kernel
theorem dX9_awned_18 : decode cX9_awned 18 = .ok (.invokevirtual 301, 3) := by decide +kernel
theorem dX9_awned_21 : decode cX9_awned 21 = .ok (.iload_n 2, 1) := by decide +kernel
theorem dX9_awned_22 : decode cX9_awned 22 = .ok (.ifCond .ne 13, 3) := by decide +kernel
theorem dX9_awned_25 : decode cX9_awned 25 = .ok (.aload_n 0, 1) := by decide +kernel
theorem dX9_awned_26 : decode cX9_awned 26 = .ok (.getfield 33, 3) := by decide +kernel
theorem dX9_awned_29 : decode cX9_awned 29 = .ok (.getfield 304, 3) := by decide +kernel
theorem dX9_awned_32 : decode cX9_awned 32 = .ok (.goto 10, 3) := by decide +kernel
theorem dX9_awned_35 : decode cX9_awned 35 = .ok (.aload_n 0, 1) := by decide +kernel
theorem dX9_awned_36 : decode cX9_awned 36 = .ok (.getfield 33, 3) := by decide +kernel
theorem dX9_awned_39 : decode cX9_awned 39 = .ok (.getfield 307, 3) := by decide +kernel
theorem dX9_awned_42 : decode cX9_awned 42 = .ok (.ireturn, 1) := by decide +kernel
set_option maxRecDepth 10000 in
theorem v_X9_awned_0 {C : aM → List Value → aH → aO → aH → Prop} {sc : Nat × (Nat → Int32)} {P : aO → aH → Prop} {σ : aH} {u : Nat}  {x1 : Int32} {x2 : Int32} (hG : G σ u) 
    (h : ((∃ (e9 : Nat) (σ1 : aH), C mX9_requireStall [.ref 0, .int x1] σ (.inr e9) σ1 ∧ P (.inr e9) σ1) ∨ (∃ σ1 : aH, C mX9_requireStall [.ref 0, .int x1] σ (.inl none) σ1 ∧ G σ1 u ∧ (∃ (r7 : Int32) (σ4 : aH), C mX9_isBit [.int x2] σ1 (.inl (some (.int r7))) σ4 ∧ G σ4 u ∧ ((∃ (e9 : Nat) (σ8 : aH), C mX9_require [.ref 0, .int r7] σ4 (.inr e9) σ8 ∧ P (.inr e9) σ8) ∨ (∃ σ8 : aH, C mX9_require [.ref 0, .int r7] σ4 (.inl none) σ8 ∧ G σ8 u ∧ (∃ σ11 : aH, C mX4_tryAwnings [.ref 26, .int x1] σ8 (.inl none) σ11 ∧ G σ11 u ∧ ((¬ x2 = 0 → P (.inl (some (.int (gI σ11 26 9)))) σ11) ∧ (x2 = 0 → P (.inl (some (.int (gI σ11 26 8)))) σ11))))))))) :
    wp C 9 cX9_awned 3 (some .int) false [] sc P 0 [(0, .ref 0), (1, .int x1), (2, .int x2)] [] σ := by
  refine w_aload_n dX9_awned_0 rfl (List.Mem.head _) ?_
  refine w_iload_n dX9_awned_1 rfl (List.Mem.tail _ (List.Mem.head _)) ?_
  rcases h with h | h
  · obtain ⟨e9, σ1, hc3, h⟩ := h
    exact w_throwV dX9_awned_2 mp_9_118 ⟨ok_X9_requireStall, vi_X9_requireStall⟩ hs_X9_requireStall (As := [.int x1]) rfl rfl (gT hG rfl (lt_of rfl)) (Nat.le_of_ble_eq_true rfl) hc3 rfl h
  · obtain ⟨σ1, hc3, hG2, h⟩ := h
    refine w_callV dX9_awned_2 ml_9_118 ⟨ok_X9_requireStall, vi_X9_requireStall⟩ hs_X9_requireStall (As := [.int x1]) rfl rfl (gT hG rfl (lt_of rfl)) (Nat.le_of_ble_eq_true rfl) hc3 ?_
    show wp C 9 cX9_awned 3 (some .int) false [] sc P 5 [(0, .ref 0), (1, .int x1), (2, .int x2)] [] σ1
    refine w_aload_n dX9_awned_5 rfl (List.Mem.head _) ?_
    refine w_iload_n dX9_awned_6 rfl (List.Mem.tail _ (List.Mem.tail _ (List.Mem.head _))) ?_
    obtain ⟨r7, σ4, hc6, hG5, h⟩ := h
    refine w_callS dX9_awned_7 ml_9_210 ⟨ok_X9_isBit, st_X9_isBit⟩ hs_X9_isBit (As := [.int x2]) rfl rfl (Nat.le_of_ble_eq_true rfl) hc6 ?_
    show wp C 9 cX9_awned 3 (some .int) false [] sc P 10 [(0, .ref 0), (1, .int x1), (2, .int x2)] [.int r7, .ref 0] σ4
    rcases h with h | h
    · obtain ⟨e9, σ8, hc10, h⟩ := h
      exact w_throwV dX9_awned_10 mp_9_69 ⟨ok_X9_require, vi_X9_require⟩ hs_X9_require (As := [.int r7]) rfl rfl (gT hG5 rfl (lt_of rfl)) (Nat.le_of_ble_eq_true rfl) hc10 rfl h
    · obtain ⟨σ8, hc10, hG9, h⟩ := h
      refine w_callV dX9_awned_10 ml_9_69 ⟨ok_X9_require, vi_X9_require⟩ hs_X9_require (As := [.int r7]) rfl rfl (gT hG5 rfl (lt_of rfl)) (Nat.le_of_ble_eq_true rfl) hc10 ?_
      show wp C 9 cX9_awned 3 (some .int) false [] sc P 13 [(0, .ref 0), (1, .int x1), (2, .int x2)] [] σ8
      refine w_aload_n dX9_awned_13 rfl (List.Mem.head _) ?_
      refine w_getR (ci := 9) (k := 3) (b := 26) dX9_awned_14 fl_9_33 (by decide) (gT hG9 rfl (lt_of rfl)) (gR hG9 (b := 26) rfl) ?_
      refine w_iload_n dX9_awned_17 rfl (List.Mem.tail _ (List.Mem.head _)) ?_
      obtain ⟨σ11, hc13, hG12, h⟩ := h
      refine w_callV dX9_awned_18 ml_9_301 ⟨ok_X4_tryAwnings, vi_X4_tryAwnings⟩ hs_X4_tryAwnings (As := [.int x1]) rfl rfl (gT hG9 rfl (lt_of rfl)) (Nat.le_of_ble_eq_true rfl) hc13 ?_
      show wp C 9 cX9_awned 3 (some .int) false [] sc P 21 [(0, .ref 0), (1, .int x1), (2, .int x2)] [] σ11
      refine w_iload_n dX9_awned_21 rfl (List.Mem.tail _ (List.Mem.tail _ (List.Mem.head _))) ?_
      refine w_if_ne (tgt := 35) dX9_awned_22 rfl (fun c9 => ?_) (fun c9 => ?_)
      · replace h := h.1 c9
        refine w_aload_n dX9_awned_35 rfl (List.Mem.head _) ?_
        refine w_getR (ci := 9) (k := 3) (b := 26) dX9_awned_36 fl_9_33 (by decide) (gT hG12 rfl (lt_of rfl)) (gR hG12 (b := 26) rfl) ?_
        refine w_getI (ci := 4) (k := 9) dX9_awned_39 fl_9_307 (by decide) (gT hG12 rfl (lt_of rfl)) ?_
        exact w_iret dX9_awned_42 rfl h
      · replace h := h.2 c9
        refine w_aload_n dX9_awned_25 rfl (List.Mem.head _) ?_
        refine w_getR (ci := 9) (k := 3) (b := 26) dX9_awned_26 fl_9_33 (by decide) (gT hG12 rfl (lt_of rfl)) (gR hG12 (b := 26) rfl) ?_
        refine w_getI (ci := 4) (k := 8) dX9_awned_29 fl_9_304 (by decide) (gT hG12 rfl (lt_of rfl)) ?_
        refine w_goto (tgt := 42) dX9_awned_32 rfl ?_
        exact w_iret dX9_awned_42 rfl h
theorem dX9_lights_0 : decode cX9_lights 0 = .ok (.aload_n 0, 1) := by decide +kernel
theorem dX9_lights_1 : decode cX9_lights 1 = .ok (.getfield 41, 3) := by decide +kernel
theorem dX9_lights_4 : decode cX9_lights 4 = .ok (.invokevirtual 310, 3) := by decide +kernel
theorem dX9_lights_7 : decode cX9_lights 7 = .ok (.ireturn, 1) := by decide +kernel
set_option maxRecDepth 10000 in
theorem v_X9_lights_0 {C : aM → List Value → aH → aO → aH → Prop} {sc : Nat × (Nat → Int32)} {P : aO → aH → Prop} {σ : aH} {u : Nat}   (hG : G σ u) 
    (h : (∃ (r4 : Int32) (σ1 : aH), C mX6_dueByLanterns [.ref 27] σ (.inl (some (.int r4))) σ1 ∧ G σ1 u ∧ P (.inl (some (.int r4))) σ1)) :
    wp C 9 cX9_lights 1 (some .int) false [] sc P 0 [(0, .ref 0)] [] σ := by
  refine w_aload_n dX9_lights_0 rfl (List.Mem.head _) ?_
  refine w_getR (ci := 9) (k := 4) (b := 27) dX9_lights_1 fl_9_41 (by decide) (gT hG rfl (lt_of rfl)) (gR hG (b := 27) rfl) ?_
  obtain ⟨r4, σ1, hc3, hG2, h⟩ := h
  refine w_callV dX9_lights_4 ml_9_310 ⟨ok_X6_dueByLanterns, vi_X6_dueByLanterns⟩ hs_X6_dueByLanterns (As := []) rfl rfl (gT hG rfl (lt_of rfl)) (Nat.le_of_ble_eq_true rfl) hc3 ?_
  show wp C 9 cX9_lights 1 (some .int) false [] sc P 7 [(0, .ref 0)] [.int r4] σ1
  exact w_iret dX9_lights_7 rfl h
theorem dX9_hour_0 : decode cX9_hour 0 = .ok (.aload_n 0, 1) := by decide +kernel
theorem dX9_hour_1 : decode cX9_hour 1 = .ok (.iload_n 1, 1) := by decide +kernel
theorem dX9_hour_2 : decode cX9_hour 2 = .ok (.invokestatic 210, 3) := by decide +kernel
theorem dX9_hour_5 : decode cX9_hour 5 = .ok (.invokevirtual 69, 3) := by decide +kernel
theorem dX9_hour_8 : decode cX9_hour 8 = .ok (.aload_n 0, 1) := by decide +kernel
theorem dX9_hour_9 : decode cX9_hour 9 = .ok (.getfield 41, 3) := by decide +kernel
theorem dX9_hour_12 : decode cX9_hour 12 = .ok (.invokevirtual 278, 3) := by decide +kernel
theorem dX9_hour_15 : decode cX9_hour 15 = .ok (.iconst 0, 1) := by decide +kernel
theorem dX9_hour_16 : decode cX9_hour 16 = .ok (.istore_n 2, 1) := by decide +kernel
theorem dX9_hour_17 : decode cX9_hour 17 = .ok (.iconst 1, 1) := by decide +kernel
theorem dX9_hour_18 : decode cX9_hour 18 = .ok (.istore_n 3, 1) := by decide +kernel
theorem dX9_hour_19 : decode cX9_hour 19 = .ok (.iload_n 3, 1) := by decide +kernel
theorem dX9_hour_20 : decode cX9_hour 20 = .ok (.bipush 24, 2) := by decide +kernel
theorem dX9_hour_22 : decode cX9_hour 22 = .ok (.if_icmp .ge 32, 3) := by decide +kernel
theorem dX9_hour_25 : decode cX9_hour 25 = .ok (.aload_n 0, 1) := by decide +kernel
theorem dX9_hour_26 : decode cX9_hour 26 = .ok (.getfield 41, 3) := by decide +kernel
theorem dX9_hour_29 : decode cX9_hour 29 = .ok (.getfield 313, 3) := by decide +kernel
theorem dX9_hour_32 : decode cX9_hour 32 = .ok (.iload_n 3, 1) := by decide +kernel
theorem dX9_hour_33 : decode cX9_hour 33 = .ok (.iaload, 1) := by decide +kernel
theorem dX9_hour_34 : decode cX9_hour 34 = .ok (.aload_n 0, 1) := by decide +kernel
theorem dX9_hour_35 : decode cX9_hour 35 = .ok (.getfield 41, 3) := by decide +kernel
theorem dX9_hour_38 : decode cX9_hour 38 = .ok (.getfield 313, 3) := by decide +kernel
theorem dX9_hour_41 : decode cX9_hour 41 = .ok (.iload_n 2, 1) := by decide +kernel
theorem dX9_hour_42 : decode cX9_hour 42 = .ok (.iaload, 1) := by decide +kernel
theorem dX9_hour_43 : decode cX9_hour 43 = .ok (.if_icmp .le 5, 3) := by decide +kernel
theorem dX9_hour_46 : decode cX9_hour 46 = .ok (.iload_n 3, 1) := by decide +kernel
theorem dX9_hour_47 : decode cX9_hour 47 = .ok (.istore_n 2, 1) := by decide +kernel
theorem dX9_hour_48 : decode cX9_hour 48 = .ok (.iinc 3 1, 3) := by decide +kernel
theorem dX9_hour_51 : decode cX9_hour 51 = .ok (.goto (-32), 3) := by decide +kernel
theorem dX9_hour_54 : decode cX9_hour 54 = .ok (.iload_n 1, 1) := by decide +kernel
theorem dX9_hour_55 : decode cX9_hour 55 = .ok (.ifCond .ne 7, 3) := by decide +kernel
theorem dX9_hour_58 : decode cX9_hour 58 = .ok (.iload_n 2, 1) := by decide +kernel
theorem dX9_hour_59 : decode cX9_hour 59 = .ok (.goto 12, 3) := by decide +kernel
theorem dX9_hour_62 : decode cX9_hour 62 = .ok (.aload_n 0, 1) := by decide +kernel
theorem dX9_hour_63 : decode cX9_hour 63 = .ok (.getfield 41, 3) := by decide +kernel
theorem dX9_hour_66 : decode cX9_hour 66 = .ok (.getfield 313, 3) := by decide +kernel
theorem dX9_hour_69 : decode cX9_hour 69 = .ok (.iload_n 2, 1) := by decide +kernel
theorem dX9_hour_70 : decode cX9_hour 70 = .ok (.iaload, 1) := by decide +kernel
theorem dX9_hour_71 : decode cX9_hour 71 = .ok (.ireturn, 1) := by decide +kernel
set_option maxRecDepth 10000 in
theorem v_X9_hour_0 {C : aM → List Value → aH → aO → aH → Prop} {sc : Nat × (Nat → Int32)} {P : aO → aH → Prop} {σ : aH} {u : Nat}  {x1 : Int32} (hG : G σ u) 
    (h : (∃ (r4 : Int32) (σ1 : aH), C mX9_isBit [.int x1] σ (.inl (some (.int r4))) σ1 ∧ G σ1 u ∧ ((∃ (e9 : Nat) (σ5 : aH), C mX9_require [.ref 0, .int r4] σ1 (.inr e9) σ5 ∧ P (.inr e9) σ5) ∨ (∃ σ5 : aH, C mX9_require [.ref 0, .int r4] σ1 (.inl none) σ5 ∧ G σ5 u ∧ (∃ σ8 : aH, C mX6_reckonHours [.ref 27] σ5 (.inl none) σ8 ∧ G σ8 u ∧ wp C 9 cX9_hour 4 (some .int) false [] sc P 19 [(0, .ref 0), (1, .int x1), (2, .int 0), (3, .int 1)] [] σ8))))) :
    wp C 9 cX9_hour 4 (some .int) false [] sc P 0 [(0, .ref 0), (1, .int x1)] [] σ := by
  refine w_aload_n dX9_hour_0 rfl (List.Mem.head _) ?_
  refine w_iload_n dX9_hour_1 rfl (List.Mem.tail _ (List.Mem.head _)) ?_
  obtain ⟨r4, σ1, hc3, hG2, h⟩ := h
  refine w_callS dX9_hour_2 ml_9_210 ⟨ok_X9_isBit, st_X9_isBit⟩ hs_X9_isBit (As := [.int x1]) rfl rfl (Nat.le_of_ble_eq_true rfl) hc3 ?_
  show wp C 9 cX9_hour 4 (some .int) false [] sc P 5 [(0, .ref 0), (1, .int x1)] [.int r4, .ref 0] σ1
  rcases h with h | h
  · obtain ⟨e9, σ5, hc7, h⟩ := h
    exact w_throwV dX9_hour_5 mp_9_69 ⟨ok_X9_require, vi_X9_require⟩ hs_X9_require (As := [.int r4]) rfl rfl (gT hG2 rfl (lt_of rfl)) (Nat.le_of_ble_eq_true rfl) hc7 rfl h
  · obtain ⟨σ5, hc7, hG6, h⟩ := h
    refine w_callV dX9_hour_5 ml_9_69 ⟨ok_X9_require, vi_X9_require⟩ hs_X9_require (As := [.int r4]) rfl rfl (gT hG2 rfl (lt_of rfl)) (Nat.le_of_ble_eq_true rfl) hc7 ?_
    show wp C 9 cX9_hour 4 (some .int) false [] sc P 8 [(0, .ref 0), (1, .int x1)] [] σ5
    refine w_aload_n dX9_hour_8 rfl (List.Mem.head _) ?_
    refine w_getR (ci := 9) (k := 4) (b := 27) dX9_hour_9 fl_9_41 (by decide) (gT hG6 rfl (lt_of rfl)) (gR hG6 (b := 27) rfl) ?_
    obtain ⟨σ8, hc10, hG9, h⟩ := h
    refine w_callV dX9_hour_12 ml_9_278 ⟨ok_X6_reckonHours, vi_X6_reckonHours⟩ hs_X6_reckonHours (As := []) rfl rfl (gT hG6 rfl (lt_of rfl)) (Nat.le_of_ble_eq_true rfl) hc10 ?_
    show wp C 9 cX9_hour 4 (some .int) false [] sc P 15 [(0, .ref 0), (1, .int x1)] [] σ8
    refine w_iconst (v := 0) dX9_hour_15 (by decide) ?_
    refine w_istore_n (l' := [(2, .int 0), (0, .ref 0), (1, .int x1)]) dX9_hour_16 rfl (by decide) rfl ?_
    refine w_iconst (v := 1) dX9_hour_17 (by decide) ?_
    refine w_istore_n (l' := [(3, .int 1), (2, .int 0), (0, .ref 0), (1, .int x1)]) dX9_hour_18 rfl (by decide) rfl ?_
    exact w_weak (l' := [(0, .ref 0), (1, .int x1), (2, .int 0), (3, .int 1)]) (by intro q hq; simp only [List.mem_cons, List.not_mem_nil, or_false] at hq ⊢; rcases hq with rfl | rfl | rfl | rfl <;> simp) h
set_option maxRecDepth 10000 in
theorem v_X9_hour_19 {C : aM → List Value → aH → aO → aH → Prop} {sc : Nat × (Nat → Int32)} {P : aO → aH → Prop} {σ : aH} {u : Nat}  {x1 : Int32} {x2 : Int32} {x3 : Int32} (hG : G σ u) 
    (h : ((24 ≤ x3 → ((¬ x1 = 0 → (vp_in x2 24 ∧ P (.inl (some (.int (gI σ 38 x2.toNatClampNeg)))) σ)) ∧ (x1 = 0 → P (.inl (some (.int x2))) σ))) ∧ (¬ (24 ≤ x3) → (vp_in x3 24 ∧ (vp_in x2 24 ∧ (((gI σ 38 x3.toNatClampNeg) ≤ (gI σ 38 x2.toNatClampNeg) → wp C 9 cX9_hour 4 (some .int) false [] sc P 19 [(0, .ref 0), (1, .int x1), (2, .int x2), (3, .int (x3 + 1))] [] σ) ∧ (¬ ((gI σ 38 x3.toNatClampNeg) ≤ (gI σ 38 x2.toNatClampNeg)) → wp C 9 cX9_hour 4 (some .int) false [] sc P 19 [(0, .ref 0), (1, .int x1), (2, .int x3), (3, .int (x3 + 1))] [] σ))))))) :
    wp C 9 cX9_hour 4 (some .int) false [] sc P 19 [(0, .ref 0), (1, .int x1), (2, .int x2), (3, .int x3)] [] σ := by
  refine w_iload_n dX9_hour_19 rfl (List.Mem.tail _ (List.Mem.tail _ (List.Mem.tail _ (List.Mem.head _)))) ?_
  refine w_bipush (v := 24) dX9_hour_20 (by decide) ?_
  refine w_icmp_ge (tgt := 54) dX9_hour_22 rfl (fun c9 => ?_) (fun c9 => ?_)
  · replace h := h.1 c9
    refine w_iload_n dX9_hour_54 rfl (List.Mem.tail _ (List.Mem.head _)) ?_
    refine w_if_ne (tgt := 62) dX9_hour_55 rfl (fun c9 => ?_) (fun c9 => ?_)
    · replace h := h.1 c9
      refine w_aload_n dX9_hour_62 rfl (List.Mem.head _) ?_
      refine w_getR (ci := 9) (k := 4) (b := 27) dX9_hour_63 fl_9_41 (by decide) (gT hG rfl (lt_of rfl)) (gR hG (b := 27) rfl) ?_
      refine w_getR (ci := 6) (k := 4) (b := 38) dX9_hour_66 fl_9_313 (by decide) (gT hG rfl (lt_of rfl)) (gR hG (b := 38) rfl) ?_
      refine w_iload_n dX9_hour_69 rfl (List.Mem.tail _ (List.Mem.tail _ (List.Mem.head _))) ?_
      obtain ⟨h9, h⟩ := h
      refine x_iald (n := 24) x2.toNatClampNeg dX9_hour_70 (gT hG rfl (lt_of rfl)) (gL hG rfl) h9 rfl ?_
      exact w_iret dX9_hour_71 rfl h
    · replace h := h.2 c9
      refine w_iload_n dX9_hour_58 rfl (List.Mem.tail _ (List.Mem.tail _ (List.Mem.head _))) ?_
      refine w_goto (tgt := 71) dX9_hour_59 rfl ?_
      exact w_iret dX9_hour_71 rfl h
  · replace h := h.2 c9
    refine w_aload_n dX9_hour_25 rfl (List.Mem.head _) ?_
    refine w_getR (ci := 9) (k := 4) (b := 27) dX9_hour_26 fl_9_41 (by decide) (gT hG rfl (lt_of rfl)) (gR hG (b := 27) rfl) ?_
    refine w_getR (ci := 6) (k := 4) (b := 38) dX9_hour_29 fl_9_313 (by decide) (gT hG rfl (lt_of rfl)) (gR hG (b := 38) rfl) ?_
    refine w_iload_n dX9_hour_32 rfl (List.Mem.tail _ (List.Mem.tail _ (List.Mem.tail _ (List.Mem.head _)))) ?_
    obtain ⟨h9, h⟩ := h
    refine x_iald (n := 24) x3.toNatClampNeg dX9_hour_33 (gT hG rfl (lt_of rfl)) (gL hG rfl) h9 rfl ?_
    refine w_aload_n dX9_hour_34 rfl (List.Mem.head _) ?_
    refine w_getR (ci := 9) (k := 4) (b := 27) dX9_hour_35 fl_9_41 (by decide) (gT hG rfl (lt_of rfl)) (gR hG (b := 27) rfl) ?_
    refine w_getR (ci := 6) (k := 4) (b := 38) dX9_hour_38 fl_9_313 (by decide) (gT hG rfl (lt_of rfl)) (gR hG (b := 38) rfl) ?_
    refine w_iload_n dX9_hour_41 rfl (List.Mem.tail _ (List.Mem.tail _ (List.Mem.head _))) ?_
    obtain ⟨h9, h⟩ := h
    refine x_iald (n := 24) x2.toNatClampNeg dX9_hour_42 (gT hG rfl (lt_of rfl)) (gL hG rfl) h9 rfl ?_
    refine w_icmp_le (tgt := 48) dX9_hour_43 rfl (fun c9 => ?_) (fun c9 => ?_)
    · replace h := h.1 c9
      refine w_iinc (v := x3 + 1) (l' := [(3, .int (x3 + 1)), (0, .ref 0), (1, .int x1), (2, .int x2)]) dX9_hour_48 (List.Mem.tail _ (List.Mem.tail _ (List.Mem.tail _ (List.Mem.head _)))) rfl (by decide) rfl ?_
      refine w_goto (tgt := 19) dX9_hour_51 rfl ?_
      exact w_weak (l' := [(0, .ref 0), (1, .int x1), (2, .int x2), (3, .int (x3 + 1))]) (by intro q hq; simp only [List.mem_cons, List.not_mem_nil, or_false] at hq ⊢; rcases hq with rfl | rfl | rfl | rfl <;> simp) h
    · replace h := h.2 c9
      refine w_iload_n dX9_hour_46 rfl (List.Mem.tail _ (List.Mem.tail _ (List.Mem.tail _ (List.Mem.head _)))) ?_
      refine w_istore_n (l' := [(2, .int x3), (0, .ref 0), (1, .int x1), (3, .int x3)]) dX9_hour_47 rfl (by decide) rfl ?_
      refine w_iinc (v := x3 + 1) (l' := [(3, .int (x3 + 1)), (2, .int x3), (0, .ref 0), (1, .int x1)]) dX9_hour_48 (List.Mem.tail _ (List.Mem.tail _ (List.Mem.tail _ (List.Mem.head _)))) rfl (by decide) rfl ?_
      refine w_goto (tgt := 19) dX9_hour_51 rfl ?_
      exact w_weak (l' := [(0, .ref 0), (1, .int x1), (2, .int x3), (3, .int (x3 + 1))]) (by intro q hq; simp only [List.mem_cons, List.not_mem_nil, or_false] at hq ⊢; rcases hq with rfl | rfl | rfl | rfl <;> simp) h
theorem dX9_improved_0 : decode cX9_improved 0 = .ok (.aload_n 0, 1) := by decide +kernel
theorem dX9_improved_1 : decode cX9_improved 1 = .ok (.iload_n 1, 1) := by decide +kernel
theorem dX9_improved_2 : decode cX9_improved 2 = .ok (.invokestatic 210, 3) := by decide +kernel
theorem dX9_improved_5 : decode cX9_improved 5 = .ok (.invokevirtual 69, 3) := by decide +kernel
theorem dX9_improved_8 : decode cX9_improved 8 = .ok (.aload_n 0, 1) := by decide +kernel
theorem dX9_improved_9 : decode cX9_improved 9 = .ok (.getfield 33, 3) := by decide +kernel
theorem dX9_improved_12 : decode cX9_improved 12 = .ok (.invokevirtual 316, 3) := by decide +kernel
theorem dX9_improved_15 : decode cX9_improved 15 = .ok (.istore_n 2, 1) := by decide +kernel
theorem dX9_improved_16 : decode cX9_improved 16 = .ok (.iload_n 1, 1) := by decide +kernel
theorem dX9_improved_17 : decode cX9_improved 17 = .ok (.ifCond .ne 7, 3) := by decide +kernel
theorem dX9_improved_20 : decode cX9_improved 20 = .ok (.iload_n 2, 1) := by decide +kernel
theorem dX9_improved_21 : decode cX9_improved 21 = .ok (.goto 10, 3) := by decide +kernel
theorem dX9_improved_24 : decode cX9_improved 24 = .ok (.aload_n 0, 1) := by decide +kernel
theorem dX9_improved_25 : decode cX9_improved 25 = .ok (.getfield 33, 3) := by decide +kernel
theorem dX9_improved_28 : decode cX9_improved 28 = .ok (.getfield 234, 3) := by decide +kernel
theorem dX9_improved_31 : decode cX9_improved 31 = .ok (.ireturn, 1) := by decide +kernel
set_option maxRecDepth 10000 in
theorem v_X9_improved_0 {C : aM → List Value → aH → aO → aH → Prop} {sc : Nat × (Nat → Int32)} {P : aO → aH → Prop} {σ : aH} {u : Nat}  {x1 : Int32} (hG : G σ u) 
    (h : (∃ (r4 : Int32) (σ1 : aH), C mX9_isBit [.int x1] σ (.inl (some (.int r4))) σ1 ∧ G σ1 u ∧ ((∃ (e9 : Nat) (σ5 : aH), C mX9_require [.ref 0, .int r4] σ1 (.inr e9) σ5 ∧ P (.inr e9) σ5) ∨ (∃ σ5 : aH, C mX9_require [.ref 0, .int r4] σ1 (.inl none) σ5 ∧ G σ5 u ∧ (∃ (r11 : Int32) (σ8 : aH), C mX4_exchangeOn [.ref 26] σ5 (.inl (some (.int r11))) σ8 ∧ G σ8 u ∧ ((¬ x1 = 0 → P (.inl (some (.int (gI σ8 26 6)))) σ8) ∧ (x1 = 0 → P (.inl (some (.int r11))) σ8))))))) :
    wp C 9 cX9_improved 3 (some .int) false [] sc P 0 [(0, .ref 0), (1, .int x1)] [] σ := by
  refine w_aload_n dX9_improved_0 rfl (List.Mem.head _) ?_
  refine w_iload_n dX9_improved_1 rfl (List.Mem.tail _ (List.Mem.head _)) ?_
  obtain ⟨r4, σ1, hc3, hG2, h⟩ := h
  refine w_callS dX9_improved_2 ml_9_210 ⟨ok_X9_isBit, st_X9_isBit⟩ hs_X9_isBit (As := [.int x1]) rfl rfl (Nat.le_of_ble_eq_true rfl) hc3 ?_
  show wp C 9 cX9_improved 3 (some .int) false [] sc P 5 [(0, .ref 0), (1, .int x1)] [.int r4, .ref 0] σ1
  rcases h with h | h
  · obtain ⟨e9, σ5, hc7, h⟩ := h
    exact w_throwV dX9_improved_5 mp_9_69 ⟨ok_X9_require, vi_X9_require⟩ hs_X9_require (As := [.int r4]) rfl rfl (gT hG2 rfl (lt_of rfl)) (Nat.le_of_ble_eq_true rfl) hc7 rfl h
  · obtain ⟨σ5, hc7, hG6, h⟩ := h
    refine w_callV dX9_improved_5 ml_9_69 ⟨ok_X9_require, vi_X9_require⟩ hs_X9_require (As := [.int r4]) rfl rfl (gT hG2 rfl (lt_of rfl)) (Nat.le_of_ble_eq_true rfl) hc7 ?_
    show wp C 9 cX9_improved 3 (some .int) false [] sc P 8 [(0, .ref 0), (1, .int x1)] [] σ5
    refine w_aload_n dX9_improved_8 rfl (List.Mem.head _) ?_
    refine w_getR (ci := 9) (k := 3) (b := 26) dX9_improved_9 fl_9_33 (by decide) (gT hG6 rfl (lt_of rfl)) (gR hG6 (b := 26) rfl) ?_
    obtain ⟨r11, σ8, hc10, hG9, h⟩ := h
    refine w_callV dX9_improved_12 ml_9_316 ⟨ok_X4_exchangeOn, vi_X4_exchangeOn⟩ hs_X4_exchangeOn (As := []) rfl rfl (gT hG6 rfl (lt_of rfl)) (Nat.le_of_ble_eq_true rfl) hc10 ?_
    show wp C 9 cX9_improved 3 (some .int) false [] sc P 15 [(0, .ref 0), (1, .int x1)] [.int r11] σ8
    refine w_istore_n (l' := [(2, .int r11), (0, .ref 0), (1, .int x1)]) dX9_improved_15 rfl (by decide) rfl ?_
    refine w_iload_n dX9_improved_16 rfl (List.Mem.tail _ (List.Mem.tail _ (List.Mem.head _))) ?_
    refine w_if_ne (tgt := 24) dX9_improved_17 rfl (fun c9 => ?_) (fun c9 => ?_)
    · replace h := h.1 c9
      refine w_aload_n dX9_improved_24 rfl (List.Mem.tail _ (List.Mem.head _)) ?_
      refine w_getR (ci := 9) (k := 3) (b := 26) dX9_improved_25 fl_9_33 (by decide) (gT hG9 rfl (lt_of rfl)) (gR hG9 (b := 26) rfl) ?_
      refine w_getI (ci := 4) (k := 6) dX9_improved_28 fl_9_234 (by decide) (gT hG9 rfl (lt_of rfl)) ?_
      exact w_iret dX9_improved_31 rfl h
    · replace h := h.2 c9
      refine w_iload_n dX9_improved_20 rfl (List.Mem.head _) ?_
      refine w_goto (tgt := 31) dX9_improved_21 rfl ?_
      exact w_iret dX9_improved_31 rfl h
theorem dX9_out_0 : decode cX9_out 0 = .ok (.aload_n 0, 1) := by decide +kernel
theorem dX9_out_1 : decode cX9_out 1 = .ok (.iload_n 1, 1) := by decide +kernel
theorem dX9_out_2 : decode cX9_out 2 = .ok (.invokevirtual 118, 3) := by decide +kernel
theorem dX9_out_5 : decode cX9_out 5 = .ok (.aload_n 0, 1) := by decide +kernel
theorem dX9_out_6 : decode cX9_out 6 = .ok (.getfield 48, 3) := by decide +kernel
theorem dX9_out_9 : decode cX9_out 9 = .ok (.getfield 87, 3) := by decide +kernel
theorem dX9_out_12 : decode cX9_out 12 = .ok (.iload_n 1, 1) := by decide +kernel
theorem dX9_out_13 : decode cX9_out 13 = .ok (.putfield 319, 3) := by decide +kernel
theorem dX9_out_16 : decode cX9_out 16 = .ok (.aload_n 0, 1) := by decide +kernel
theorem dX9_out_17 : decode cX9_out 17 = .ok (.getfield 41, 3) := by decide +kernel
theorem dX9_out_20 : decode cX9_out 20 = .ok (.aload_n 0, 1) := by decide +kernel
theorem dX9_out_21 : decode cX9_out 21 = .ok (.getfield 41, 3) := by decide +kernel
theorem dX9_out_24 : decode cX9_out 24 = .ok (.getfield 200, 3) := by decide +kernel
theorem dX9_out_27 : decode cX9_out 27 = .ok (.ldc 203, 2) := by decide +kernel
theorem dX9_out_29 : decode cX9_out 29 = .ok (.invokevirtual 204, 3) := by decide +kernel
theorem dX9_out_32 : decode cX9_out 32 = .ok (.istore_n 2, 1) := by decide +kernel
theorem dX9_out_33 : decode cX9_out 33 = .ok (.aload_n 0, 1) := by decide +kernel
theorem dX9_out_34 : decode cX9_out 34 = .ok (.getfield 48, 3) := by decide +kernel
theorem dX9_out_37 : decode cX9_out 37 = .ok (.getfield 87, 3) := by decide +kernel
theorem dX9_out_40 : decode cX9_out 40 = .ok (.iconst (-1), 1) := by decide +kernel
theorem dX9_out_41 : decode cX9_out 41 = .ok (.putfield 319, 3) := by decide +kernel
theorem dX9_out_44 : decode cX9_out 44 = .ok (.iload_n 2, 1) := by decide +kernel
theorem dX9_out_45 : decode cX9_out 45 = .ok (.ireturn, 1) := by decide +kernel
set_option maxRecDepth 10000 in
theorem v_X9_out_0 {C : aM → List Value → aH → aO → aH → Prop} {sc : Nat × (Nat → Int32)} {P : aO → aH → Prop} {σ : aH} {u : Nat}  {x1 : Int32} (hG : G σ u) 
    (h : ((∃ (e9 : Nat) (σ1 : aH), C mX9_requireStall [.ref 0, .int x1] σ (.inr e9) σ1 ∧ P (.inr e9) σ1) ∨ (∃ σ1 : aH, C mX9_requireStall [.ref 0, .int x1] σ (.inl none) σ1 ∧ G σ1 u ∧ (∀ σ4 : aH, sI σ1 (u + 1) 9 x1 = σ4 → (∃ (r10 : Int32) (σ7 : aH), C mX6_total [.ref 27, .ref 28, .int 1000000000] σ4 (.inl (some (.int r10))) σ7 ∧ G σ7 u ∧ (∀ σ11 : aH, sI σ7 (u + 1) 9 (-1) = σ11 → P (.inl (some (.int r10))) σ11)))))) :
    wp C 9 cX9_out 3 (some .int) false [] sc P 0 [(0, .ref 0), (1, .int x1)] [] σ := by
  refine w_aload_n dX9_out_0 rfl (List.Mem.head _) ?_
  refine w_iload_n dX9_out_1 rfl (List.Mem.tail _ (List.Mem.head _)) ?_
  rcases h with h | h
  · obtain ⟨e9, σ1, hc3, h⟩ := h
    exact w_throwV dX9_out_2 mp_9_118 ⟨ok_X9_requireStall, vi_X9_requireStall⟩ hs_X9_requireStall (As := [.int x1]) rfl rfl (gT hG rfl (lt_of rfl)) (Nat.le_of_ble_eq_true rfl) hc3 rfl h
  · obtain ⟨σ1, hc3, hG2, h⟩ := h
    refine w_callV dX9_out_2 ml_9_118 ⟨ok_X9_requireStall, vi_X9_requireStall⟩ hs_X9_requireStall (As := [.int x1]) rfl rfl (gT hG rfl (lt_of rfl)) (Nat.le_of_ble_eq_true rfl) hc3 ?_
    show wp C 9 cX9_out 3 (some .int) false [] sc P 5 [(0, .ref 0), (1, .int x1)] [] σ1
    refine w_aload_n dX9_out_5 rfl (List.Mem.head _) ?_
    refine w_getM (ci := 9) (k := 5) (b := u) dX9_out_6 fl_9_48 (by decide) (gT hG2 rfl (lt_of rfl)) hG2.2.2.1 ?_
    refine w_getR (ci := 2) (k := 0) (b := (u + 1)) dX9_out_9 fl_9_87 (by decide) (gT hG2 (IsMk_t0 hG.2.2.2.2) (IsMk_lt hG.2.2.2.2 (k := 0) (by decide))) (gR hG2 (IsMk_r0_0 hG.2.2.2.2)) ?_
    refine w_iload_n dX9_out_12 rfl (List.Mem.tail _ (List.Mem.head _)) ?_
    refine y_putI (ci := 7) (k := 9) dX9_out_13 fl_9_319 (by decide) (gT hG2 (IsMk_t1 hG.2.2.2.2) (IsMk_lt hG.2.2.2.2 (k := 1) (by decide))) (fun σ4 eσ5 => ?_)
    replace h := h σ4 eσ5
    have hG6 : G σ4 u := eσ5 ▸ G.sI hG2
    refine w_aload_n dX9_out_16 rfl (List.Mem.head _) ?_
    refine w_getR (ci := 9) (k := 4) (b := 27) dX9_out_17 fl_9_41 (by decide) (gT hG6 rfl (lt_of rfl)) (gR hG6 (b := 27) rfl) ?_
    refine w_aload_n dX9_out_20 rfl (List.Mem.head _) ?_
    refine w_getR (ci := 9) (k := 4) (b := 27) dX9_out_21 fl_9_41 (by decide) (gT hG6 rfl (lt_of rfl)) (gR hG6 (b := 27) rfl) ?_
    refine w_getR (ci := 6) (k := 0) (b := 28) dX9_out_24 fl_9_200 (by decide) (gT hG6 rfl (lt_of rfl)) (gR hG6 (b := 28) rfl) ?_
    refine w_ldc dX9_out_27 kc_9_203 ?_
    obtain ⟨r10, σ7, hc9, hG8, h⟩ := h
    refine w_callV dX9_out_29 ml_9_204 ⟨ok_X6_total, vi_X6_total⟩ hs_X6_total (As := [.ref 28, .int 1000000000]) rfl rfl (gT hG6 rfl (lt_of rfl)) (Nat.le_of_ble_eq_true rfl) hc9 ?_
    show wp C 9 cX9_out 3 (some .int) false [] sc P 32 [(0, .ref 0), (1, .int x1)] [.int r10] σ7
    refine w_istore_n (l' := [(2, .int r10), (0, .ref 0), (1, .int x1)]) dX9_out_32 rfl (by decide) rfl ?_
    refine w_aload_n dX9_out_33 rfl (List.Mem.tail _ (List.Mem.head _)) ?_
    refine w_getM (ci := 9) (k := 5) (b := u) dX9_out_34 fl_9_48 (by decide) (gT hG8 rfl (lt_of rfl)) hG8.2.2.1 ?_
    refine w_getR (ci := 2) (k := 0) (b := (u + 1)) dX9_out_37 fl_9_87 (by decide) (gT hG8 (IsMk_t0 hG.2.2.2.2) (IsMk_lt hG.2.2.2.2 (k := 0) (by decide))) (gR hG8 (IsMk_r0_0 hG.2.2.2.2)) ?_
    refine w_iconst (v := (-1)) dX9_out_40 (by decide) ?_
    refine y_putI (ci := 7) (k := 9) dX9_out_41 fl_9_319 (by decide) (gT hG8 (IsMk_t1 hG.2.2.2.2) (IsMk_lt hG.2.2.2.2 (k := 1) (by decide))) (fun σ11 eσ12 => ?_)
    replace h := h σ11 eσ12
    have hG13 : G σ11 u := eσ12 ▸ G.sI hG8
    refine w_iload_n dX9_out_44 rfl (List.Mem.head _) ?_
    exact w_iret dX9_out_45 rfl h
theorem dX9_suns_0 : decode cX9_suns 0 = .ok (.aload_n 0, 1) := by decide +kernel
theorem dX9_suns_1 : decode cX9_suns 1 = .ok (.getfield 41, 3) := by decide +kernel
theorem dX9_suns_4 : decode cX9_suns 4 = .ok (.invokevirtual 322, 3) := by decide +kernel
theorem dX9_suns_7 : decode cX9_suns 7 = .ok (.ireturn, 1) := by decide +kernel
set_option maxRecDepth 10000 in
theorem v_X9_suns_0 {C : aM → List Value → aH → aO → aH → Prop} {sc : Nat × (Nat → Int32)} {P : aO → aH → Prop} {σ : aH} {u : Nat}   (hG : G σ u) 
    (h : (∃ (r4 : Int32) (σ1 : aH), C mX6_dearestSun [.ref 27] σ (.inl (some (.int r4))) σ1 ∧ G σ1 u ∧ P (.inl (some (.int r4))) σ1)) :
    wp C 9 cX9_suns 1 (some .int) false [] sc P 0 [(0, .ref 0)] [] σ := by
  refine w_aload_n dX9_suns_0 rfl (List.Mem.head _) ?_
  refine w_getR (ci := 9) (k := 4) (b := 27) dX9_suns_1 fl_9_41 (by decide) (gT hG rfl (lt_of rfl)) (gR hG (b := 27) rfl) ?_
  obtain ⟨r4, σ1, hc3, hG2, h⟩ := h
  refine w_callV dX9_suns_4 ml_9_322 ⟨ok_X6_dearestSun, vi_X6_dearestSun⟩ hs_X6_dearestSun (As := []) rfl rfl (gT hG rfl (lt_of rfl)) (Nat.le_of_ble_eq_true rfl) hc3 ?_
  show wp C 9 cX9_suns 1 (some .int) false [] sc P 7 [(0, .ref 0)] [.int r4] σ1
  exact w_iret dX9_suns_7 rfl h
theorem dX9_image_0 : decode cX9_image 0 = .ok (.aload_n 0, 1) := by decide +kernel
theorem dX9_image_1 : decode cX9_image 1 = .ok (.getfield 19, 3) := by decide +kernel
theorem dX9_image_4 : decode cX9_image 4 = .ok (.aload_n 0, 1) := by decide +kernel
theorem dX9_image_5 : decode cX9_image 5 = .ok (.getfield 48, 3) := by decide +kernel
theorem dX9_image_8 : decode cX9_image 8 = .ok (.invokevirtual 325, 3) := by decide +kernel
theorem dX9_image_11 : decode cX9_image 11 = .ok (.ireturn, 1) := by decide +kernel
set_option maxRecDepth 10000 in
theorem v_X9_image_0 {C : aM → List Value → aH → aO → aH → Prop} {sc : Nat × (Nat → Int32)} {P : aO → aH → Prop} {σ : aH} {u : Nat}   (hG : G σ u) 
    (h : (∃ (r4 : Int32) (σ1 : aH), C mX1_take [.ref 3, .ref u] σ (.inl (some (.int r4))) σ1 ∧ G σ1 u ∧ P (.inl (some (.int r4))) σ1)) :
    wp C 9 cX9_image 1 (some .int) false [] sc P 0 [(0, .ref 0)] [] σ := by
  refine w_aload_n dX9_image_0 rfl (List.Mem.head _) ?_
  refine w_getR (ci := 9) (k := 1) (b := 3) dX9_image_1 fl_9_19 (by decide) (gT hG rfl (lt_of rfl)) (gR hG (b := 3) rfl) ?_
  refine w_aload_n dX9_image_4 rfl (List.Mem.head _) ?_
  refine w_getM (ci := 9) (k := 5) (b := u) dX9_image_5 fl_9_48 (by decide) (gT hG rfl (lt_of rfl)) hG.2.2.1 ?_
  obtain ⟨r4, σ1, hc3, hG2, h⟩ := h
  refine w_callV dX9_image_8 ml_9_325 ⟨ok_X1_take, vi_X1_take⟩ hs_X1_take (As := [.ref u]) rfl rfl (gT hG rfl (lt_of rfl)) (Nat.le_of_ble_eq_true rfl) hc3 ?_
  show wp C 9 cX9_image 1 (some .int) false [] sc P 11 [(0, .ref 0)] [.int r4] σ1
  exact w_iret dX9_image_11 rfl h
theorem dX9_restore_0 : decode cX9_restore 0 = .ok (.aload_n 0, 1) := by decide +kernel
theorem dX9_restore_1 : decode cX9_restore 1 = .ok (.getfield 19, 3) := by decide +kernel
theorem dX9_restore_4 : decode cX9_restore 4 = .ok (.aload_n 0, 1) := by decide +kernel
theorem dX9_restore_5 : decode cX9_restore 5 = .ok (.getfield 48, 3) := by decide +kernel
theorem dX9_restore_8 : decode cX9_restore 8 = .ok (.invokevirtual 329, 3) := by decide +kernel
theorem dX9_restore_11 : decode cX9_restore 11 = .ok (.ireturn, 1) := by decide +kernel
set_option maxRecDepth 10000 in
theorem v_X9_restore_0 {C : aM → List Value → aH → aO → aH → Prop} {sc : Nat × (Nat → Int32)} {P : aO → aH → Prop} {σ : aH} {u : Nat}   (hG : G σ u) 
    (h : (∃ (r4 : Int32) (σ1 : aH), C mX1_giveBack [.ref 3, .ref u] σ (.inl (some (.int r4))) σ1 ∧ G σ1 u ∧ P (.inl (some (.int r4))) σ1)) :
    wp C 9 cX9_restore 1 (some .int) false [] sc P 0 [(0, .ref 0)] [] σ := by
  refine w_aload_n dX9_restore_0 rfl (List.Mem.head _) ?_
  refine w_getR (ci := 9) (k := 1) (b := 3) dX9_restore_1 fl_9_19 (by decide) (gT hG rfl (lt_of rfl)) (gR hG (b := 3) rfl) ?_
  refine w_aload_n dX9_restore_4 rfl (List.Mem.head _) ?_
  refine w_getM (ci := 9) (k := 5) (b := u) dX9_restore_5 fl_9_48 (by decide) (gT hG rfl (lt_of rfl)) hG.2.2.1 ?_
  obtain ⟨r4, σ1, hc3, hG2, h⟩ := h
  refine w_callV dX9_restore_8 ml_9_329 ⟨ok_X1_giveBack, vi_X1_giveBack⟩ hs_X1_giveBack (As := [.ref u]) rfl rfl (gT hG rfl (lt_of rfl)) (Nat.le_of_ble_eq_true rfl) hc3 ?_
  show wp C 9 cX9_restore 1 (some .int) false [] sc P 11 [(0, .ref 0)] [.int r4] σ1
  exact w_iret dX9_restore_11 rfl h
theorem dX9_status_0 : decode cX9_status 0 = .ok (.iload_n 1, 1) := by decide +kernel
theorem dX9_status_1 : decode cX9_status 1 = .ok (.ifCond .ne 8, 3) := by decide +kernel
theorem dX9_status_4 : decode cX9_status 4 = .ok (.aload_n 0, 1) := by decide +kernel
theorem dX9_status_5 : decode cX9_status 5 = .ok (.getfield 55, 3) := by decide +kernel
theorem dX9_status_8 : decode cX9_status 8 = .ok (.ireturn, 1) := by decide +kernel
theorem dX9_status_9 : decode cX9_status 9 = .ok (.iload_n 1, 1) := by decide +kernel
theorem dX9_status_10 : decode cX9_status 10 = .ok (.iconst 1, 1) := by decide +kernel
theorem dX9_status_11 : decode cX9_status 11 = .ok (.if_icmp .ne 10, 3) := by decide +kernel
theorem dX9_status_14 : decode cX9_status 14 = .ok (.aload_n 0, 1) := by decide +kernel
theorem dX9_status_15 : decode cX9_status 15 = .ok (.getfield 59, 3) := by decide +kernel
theorem dX9_status_18 : decode cX9_status 18 = .ok (.goto 4, 3) := by decide +kernel
theorem dX9_status_21 : decode cX9_status 21 = .ok (.iconst (-1), 1) := by decide +kernel
theorem dX9_status_22 : decode cX9_status 22 = .ok (.ireturn, 1) := by decide +kernel
set_option maxRecDepth 10000 in
theorem v_X9_status_0 {C : aM → List Value → aH → aO → aH → Prop} {sc : Nat × (Nat → Int32)} {P : aO → aH → Prop} {σ : aH} {u : Nat}  {x1 : Int32} (hG : G σ u) 
    (h : ((¬ x1 = 0 → ((¬ x1 = 1 → P (.inl (some (.int (-1)))) σ) ∧ (x1 = 1 → P (.inl (some (.int (gI σ 0 8)))) σ))) ∧ (x1 = 0 → P (.inl (some (.int (gI σ 0 7)))) σ))) :
    wp C 9 cX9_status 2 (some .int) false [] sc P 0 [(0, .ref 0), (1, .int x1)] [] σ := by
  refine w_iload_n dX9_status_0 rfl (List.Mem.tail _ (List.Mem.head _)) ?_
  refine w_if_ne (tgt := 9) dX9_status_1 rfl (fun c9 => ?_) (fun c9 => ?_)
  · replace h := h.1 c9
    refine w_iload_n dX9_status_9 rfl (List.Mem.tail _ (List.Mem.head _)) ?_
    refine w_iconst (v := 1) dX9_status_10 (by decide) ?_
    refine w_icmp_ne (tgt := 21) dX9_status_11 rfl (fun c9 => ?_) (fun c9 => ?_)
    · replace h := h.1 c9
      refine w_iconst (v := (-1)) dX9_status_21 (by decide) ?_
      exact w_iret dX9_status_22 rfl h
    · replace h := h.2 c9
      refine w_aload_n dX9_status_14 rfl (List.Mem.head _) ?_
      refine w_getI (ci := 9) (k := 8) dX9_status_15 fl_9_59 (by decide) (gT hG rfl (lt_of rfl)) ?_
      refine w_goto (tgt := 22) dX9_status_18 rfl ?_
      exact w_iret dX9_status_22 rfl h
  · replace h := h.2 c9
    refine w_aload_n dX9_status_4 rfl (List.Mem.head _) ?_
    refine w_getI (ci := 9) (k := 7) dX9_status_5 fl_9_55 (by decide) (gT hG rfl (lt_of rfl)) ?_
    exact w_iret dX9_status_8 rfl h
theorem dX9_count_0 : decode cX9_count 0 = .ok (.iload_n 1, 1) := by decide +kernel
theorem dX9_count_1 : decode cX9_count 1 = .ok (.ifCond .ne 11, 3) := by decide +kernel
theorem dX9_count_4 : decode cX9_count 4 = .ok (.aload_n 0, 1) := by decide +kernel
theorem dX9_count_5 : decode cX9_count 5 = .ok (.getfield 19, 3) := by decide +kernel
theorem dX9_count_8 : decode cX9_count 8 = .ok (.getfield 81, 3) := by decide +kernel
theorem dX9_count_11 : decode cX9_count 11 = .ok (.ireturn, 1) := by decide +kernel
theorem dX9_count_12 : decode cX9_count 12 = .ok (.iload_n 1, 1) := by decide +kernel
theorem dX9_count_13 : decode cX9_count 13 = .ok (.iconst 1, 1) := by decide +kernel
theorem dX9_count_14 : decode cX9_count 14 = .ok (.if_icmp .ne 13, 3) := by decide +kernel
theorem dX9_count_17 : decode cX9_count 17 = .ok (.aload_n 0, 1) := by decide +kernel
theorem dX9_count_18 : decode cX9_count 18 = .ok (.getfield 12, 3) := by decide +kernel
theorem dX9_count_21 : decode cX9_count 21 = .ok (.getfield 62, 3) := by decide +kernel
theorem dX9_count_24 : decode cX9_count 24 = .ok (.goto 4, 3) := by decide +kernel
theorem dX9_count_27 : decode cX9_count 27 = .ok (.iconst (-1), 1) := by decide +kernel
theorem dX9_count_28 : decode cX9_count 28 = .ok (.ireturn, 1) := by decide +kernel
set_option maxRecDepth 10000 in
theorem v_X9_count_0 {C : aM → List Value → aH → aO → aH → Prop} {sc : Nat × (Nat → Int32)} {P : aO → aH → Prop} {σ : aH} {u : Nat}  {x1 : Int32} (hG : G σ u) 
    (h : ((¬ x1 = 0 → ((¬ x1 = 1 → P (.inl (some (.int (-1)))) σ) ∧ (x1 = 1 → P (.inl (some (.int (gI σ 1 1)))) σ))) ∧ (x1 = 0 → P (.inl (some (.int (gI σ 3 6)))) σ))) :
    wp C 9 cX9_count 2 (some .int) false [] sc P 0 [(0, .ref 0), (1, .int x1)] [] σ := by
  refine w_iload_n dX9_count_0 rfl (List.Mem.tail _ (List.Mem.head _)) ?_
  refine w_if_ne (tgt := 12) dX9_count_1 rfl (fun c9 => ?_) (fun c9 => ?_)
  · replace h := h.1 c9
    refine w_iload_n dX9_count_12 rfl (List.Mem.tail _ (List.Mem.head _)) ?_
    refine w_iconst (v := 1) dX9_count_13 (by decide) ?_
    refine w_icmp_ne (tgt := 27) dX9_count_14 rfl (fun c9 => ?_) (fun c9 => ?_)
    · replace h := h.1 c9
      refine w_iconst (v := (-1)) dX9_count_27 (by decide) ?_
      exact w_iret dX9_count_28 rfl h
    · replace h := h.2 c9
      refine w_aload_n dX9_count_17 rfl (List.Mem.head _) ?_
      refine w_getR (ci := 9) (k := 0) (b := 1) dX9_count_18 fl_9_12 (by decide) (gT hG rfl (lt_of rfl)) (gR hG (b := 1) rfl) ?_
      refine w_getI (ci := 5) (k := 1) dX9_count_21 fl_9_62 (by decide) (gT hG rfl (lt_of rfl)) ?_
      refine w_goto (tgt := 28) dX9_count_24 rfl ?_
      exact w_iret dX9_count_28 rfl h
  · replace h := h.2 c9
    refine w_aload_n dX9_count_4 rfl (List.Mem.head _) ?_
    refine w_getR (ci := 9) (k := 1) (b := 3) dX9_count_5 fl_9_19 (by decide) (gT hG rfl (lt_of rfl)) (gR hG (b := 3) rfl) ?_
    refine w_getI (ci := 1) (k := 6) dX9_count_8 fl_9_81 (by decide) (gT hG rfl (lt_of rfl)) ?_
    exact w_iret dX9_count_11 rfl h
theorem dX9_requireStall_0 : decode cX9_requireStall 0 = .ok (.iload_n 1, 1) := by decide +kernel
theorem dX9_requireStall_1 : decode cX9_requireStall 1 = .ok (.ifCond .lt 17, 3) := by decide +kernel
theorem dX9_requireStall_4 : decode cX9_requireStall 4 = .ok (.iload_n 1, 1) := by decide +kernel
theorem dX9_requireStall_5 : decode cX9_requireStall 5 = .ok (.aload_n 0, 1) := by decide +kernel
theorem dX9_requireStall_6 : decode cX9_requireStall 6 = .ok (.getfield 48, 3) := by decide +kernel
theorem dX9_requireStall_9 : decode cX9_requireStall 9 = .ok (.getfield 87, 3) := by decide +kernel
theorem dX9_requireStall_12 : decode cX9_requireStall 12 = .ok (.getfield 91, 3) := by decide +kernel
theorem dX9_requireStall_15 : decode cX9_requireStall 15 = .ok (.if_icmp .lt 24, 3) := by decide +kernel
theorem dX9_requireStall_18 : decode cX9_requireStall 18 = .ok (.aload_n 0, 1) := by decide +kernel
theorem dX9_requireStall_19 : decode cX9_requireStall 19 = .ok (.dup, 1) := by decide +kernel
theorem dX9_requireStall_20 : decode cX9_requireStall 20 = .ok (.getfield 55, 3) := by decide +kernel
theorem dX9_requireStall_23 : decode cX9_requireStall 23 = .ok (.iconst 1, 1) := by decide +kernel
theorem dX9_requireStall_24 : decode cX9_requireStall 24 = .ok (.iadd, 1) := by decide +kernel
theorem dX9_requireStall_25 : decode cX9_requireStall 25 = .ok (.putfield 55, 3) := by decide +kernel
theorem dX9_requireStall_28 : decode cX9_requireStall 28 = .ok (.new 332, 3) := by decide +kernel
theorem dX9_requireStall_31 : decode cX9_requireStall 31 = .ok (.dup, 1) := by decide +kernel
theorem dX9_requireStall_32 : decode cX9_requireStall 32 = .ok (.ldc_w 334, 3) := by decide +kernel
theorem dX9_requireStall_35 : decode cX9_requireStall 35 = .ok (.invokespecial 336, 3) := by decide +kernel
theorem dX9_requireStall_38 : decode cX9_requireStall 38 = .ok (.athrow, 1) := by decide +kernel
theorem dX9_requireStall_39 : decode cX9_requireStall 39 = .ok (.return_, 1) := by decide +kernel
set_option maxRecDepth 10000 in
theorem v_X9_requireStall_0 {C : aM → List Value → aH → aO → aH → Prop} {sc : Nat × (Nat → Int32)} {P : aO → aH → Prop} {σ : aH} {u : Nat}  {x1 : Int32} (hG : G σ u) 
    (h : ((x1 < 0 → (∀ σ1 : aH, sI σ 0 7 ((gI σ 0 7) + 1) = σ1 → (gN σ1 + 1 ≤ 1000000 ∧ P (.inr 0) (sSkip σ1 1 6)))) ∧ (¬ (x1 < 0) → ((x1 < (gI σ (u + 1) 8) → P (.inl none) σ) ∧ (¬ (x1 < (gI σ (u + 1) 8)) → (∀ σ4 : aH, sI σ 0 7 ((gI σ 0 7) + 1) = σ4 → (gN σ4 + 1 ≤ 1000000 ∧ P (.inr 0) (sSkip σ4 1 6)))))))) :
    wp C 9 cX9_requireStall 2 none false [] sc P 0 [(0, .ref 0), (1, .int x1)] [] σ := by
  refine w_iload_n dX9_requireStall_0 rfl (List.Mem.tail _ (List.Mem.head _)) ?_
  refine w_if_lt (tgt := 18) dX9_requireStall_1 rfl (fun c9 => ?_) (fun c9 => ?_)
  · replace h := h.1 c9
    refine w_aload_n dX9_requireStall_18 rfl (List.Mem.head _) ?_
    refine w_dup dX9_requireStall_19 rfl ?_
    refine w_getI (ci := 9) (k := 7) dX9_requireStall_20 fl_9_55 (by decide) (gT hG rfl (lt_of rfl)) ?_
    refine w_iconst (v := 1) dX9_requireStall_23 (by decide) ?_
    refine w_iadd dX9_requireStall_24 ?_
    refine y_putI (ci := 9) (k := 7) dX9_requireStall_25 fl_9_55 (by decide) (gT hG rfl (lt_of rfl)) (fun σ1 eσ2 => ?_)
    replace h := h σ1 eσ2
    have hG3 : G σ1 u := eσ2 ▸ G.sI hG
    exact w_throwN dX9_requireStall_28 dX9_requireStall_31 dX9_requireStall_32 dX9_requireStall_35 dX9_requireStall_38 ⟨rfl, Or.inl ⟨rfl, rfl, rfl, rfl⟩⟩ (Nat.le_of_ble_eq_true rfl) h.1 rfl h.2
  · replace h := h.2 c9
    refine w_iload_n dX9_requireStall_4 rfl (List.Mem.tail _ (List.Mem.head _)) ?_
    refine w_aload_n dX9_requireStall_5 rfl (List.Mem.head _) ?_
    refine w_getM (ci := 9) (k := 5) (b := u) dX9_requireStall_6 fl_9_48 (by decide) (gT hG rfl (lt_of rfl)) hG.2.2.1 ?_
    refine w_getR (ci := 2) (k := 0) (b := (u + 1)) dX9_requireStall_9 fl_9_87 (by decide) (gT hG (IsMk_t0 hG.2.2.2.2) (IsMk_lt hG.2.2.2.2 (k := 0) (by decide))) (gR hG (IsMk_r0_0 hG.2.2.2.2)) ?_
    refine w_getI (ci := 7) (k := 8) dX9_requireStall_12 fl_9_91 (by decide) (gT hG (IsMk_t1 hG.2.2.2.2) (IsMk_lt hG.2.2.2.2 (k := 1) (by decide))) ?_
    refine w_icmp_lt (tgt := 39) dX9_requireStall_15 rfl (fun c9 => ?_) (fun c9 => ?_)
    · replace h := h.1 c9
      exact w_vret dX9_requireStall_39 rfl h
    · replace h := h.2 c9
      refine w_aload_n dX9_requireStall_18 rfl (List.Mem.head _) ?_
      refine w_dup dX9_requireStall_19 rfl ?_
      refine w_getI (ci := 9) (k := 7) dX9_requireStall_20 fl_9_55 (by decide) (gT hG rfl (lt_of rfl)) ?_
      refine w_iconst (v := 1) dX9_requireStall_23 (by decide) ?_
      refine w_iadd dX9_requireStall_24 ?_
      refine y_putI (ci := 9) (k := 7) dX9_requireStall_25 fl_9_55 (by decide) (gT hG rfl (lt_of rfl)) (fun σ4 eσ5 => ?_)
      replace h := h σ4 eσ5
      have hG6 : G σ4 u := eσ5 ▸ G.sI hG
      exact w_throwN dX9_requireStall_28 dX9_requireStall_31 dX9_requireStall_32 dX9_requireStall_35 dX9_requireStall_38 ⟨rfl, Or.inl ⟨rfl, rfl, rfl, rfl⟩⟩ (Nat.le_of_ble_eq_true rfl) h.1 rfl h.2
theorem dX9_requireTwo_0 : decode cX9_requireTwo 0 = .ok (.aload_n 0, 1) := by decide +kernel
theorem dX9_requireTwo_1 : decode cX9_requireTwo 1 = .ok (.iload_n 1, 1) := by decide +kernel
theorem dX9_requireTwo_2 : decode cX9_requireTwo 2 = .ok (.invokevirtual 118, 3) := by decide +kernel
theorem dX9_requireTwo_5 : decode cX9_requireTwo 5 = .ok (.aload_n 0, 1) := by decide +kernel
theorem dX9_requireTwo_6 : decode cX9_requireTwo 6 = .ok (.iload_n 2, 1) := by decide +kernel
theorem dX9_requireTwo_7 : decode cX9_requireTwo 7 = .ok (.invokevirtual 118, 3) := by decide +kernel
theorem dX9_requireTwo_10 : decode cX9_requireTwo 10 = .ok (.aload_n 0, 1) := by decide +kernel
theorem dX9_requireTwo_11 : decode cX9_requireTwo 11 = .ok (.iload_n 1, 1) := by decide +kernel
theorem dX9_requireTwo_12 : decode cX9_requireTwo 12 = .ok (.iload_n 2, 1) := by decide +kernel
theorem dX9_requireTwo_13 : decode cX9_requireTwo 13 = .ok (.if_icmp .eq 7, 3) := by decide +kernel
theorem dX9_requireTwo_16 : decode cX9_requireTwo 16 = .ok (.iconst 1, 1) := by decide +kernel
theorem dX9_requireTwo_17 : decode cX9_requireTwo 17 = .ok (.goto 4, 3) := by decide +kernel
theorem dX9_requireTwo_20 : decode cX9_requireTwo 20 = .ok (.iconst 0, 1) := by decide +kernel
theorem dX9_requireTwo_21 : decode cX9_requireTwo 21 = .ok (.invokevirtual 69, 3) := by decide +kernel
theorem dX9_requireTwo_24 : decode cX9_requireTwo 24 = .ok (.return_, 1) := by decide +kernel
set_option maxRecDepth 10000 in
theorem v_X9_requireTwo_0 {C : aM → List Value → aH → aO → aH → Prop} {sc : Nat × (Nat → Int32)} {P : aO → aH → Prop} {σ : aH} {u : Nat}  {x1 : Int32} {x2 : Int32} (hG : G σ u) 
    (h : ((∃ (e9 : Nat) (σ1 : aH), C mX9_requireStall [.ref 0, .int x1] σ (.inr e9) σ1 ∧ P (.inr e9) σ1) ∨ (∃ σ1 : aH, C mX9_requireStall [.ref 0, .int x1] σ (.inl none) σ1 ∧ G σ1 u ∧ ((∃ (e9 : Nat) (σ4 : aH), C mX9_requireStall [.ref 0, .int x2] σ1 (.inr e9) σ4 ∧ P (.inr e9) σ4) ∨ (∃ σ4 : aH, C mX9_requireStall [.ref 0, .int x2] σ1 (.inl none) σ4 ∧ G σ4 u ∧ ((x1 = x2 → ((∃ (e9 : Nat) (σ7 : aH), C mX9_require [.ref 0, .int 0] σ4 (.inr e9) σ7 ∧ P (.inr e9) σ7) ∨ (∃ σ7 : aH, C mX9_require [.ref 0, .int 0] σ4 (.inl none) σ7 ∧ G σ7 u ∧ P (.inl none) σ7))) ∧ (¬ (x1 = x2) → ((∃ (e9 : Nat) (σ10 : aH), C mX9_require [.ref 0, .int 1] σ4 (.inr e9) σ10 ∧ P (.inr e9) σ10) ∨ (∃ σ10 : aH, C mX9_require [.ref 0, .int 1] σ4 (.inl none) σ10 ∧ G σ10 u ∧ P (.inl none) σ10))))))))) :
    wp C 9 cX9_requireTwo 3 none false [] sc P 0 [(0, .ref 0), (1, .int x1), (2, .int x2)] [] σ := by
  refine w_aload_n dX9_requireTwo_0 rfl (List.Mem.head _) ?_
  refine w_iload_n dX9_requireTwo_1 rfl (List.Mem.tail _ (List.Mem.head _)) ?_
  rcases h with h | h
  · obtain ⟨e9, σ1, hc3, h⟩ := h
    exact w_throwV dX9_requireTwo_2 mp_9_118 ⟨ok_X9_requireStall, vi_X9_requireStall⟩ hs_X9_requireStall (As := [.int x1]) rfl rfl (gT hG rfl (lt_of rfl)) (Nat.le_of_ble_eq_true rfl) hc3 rfl h
  · obtain ⟨σ1, hc3, hG2, h⟩ := h
    refine w_callV dX9_requireTwo_2 ml_9_118 ⟨ok_X9_requireStall, vi_X9_requireStall⟩ hs_X9_requireStall (As := [.int x1]) rfl rfl (gT hG rfl (lt_of rfl)) (Nat.le_of_ble_eq_true rfl) hc3 ?_
    show wp C 9 cX9_requireTwo 3 none false [] sc P 5 [(0, .ref 0), (1, .int x1), (2, .int x2)] [] σ1
    refine w_aload_n dX9_requireTwo_5 rfl (List.Mem.head _) ?_
    refine w_iload_n dX9_requireTwo_6 rfl (List.Mem.tail _ (List.Mem.tail _ (List.Mem.head _))) ?_
    rcases h with h | h
    · obtain ⟨e9, σ4, hc6, h⟩ := h
      exact w_throwV dX9_requireTwo_7 mp_9_118 ⟨ok_X9_requireStall, vi_X9_requireStall⟩ hs_X9_requireStall (As := [.int x2]) rfl rfl (gT hG2 rfl (lt_of rfl)) (Nat.le_of_ble_eq_true rfl) hc6 rfl h
    · obtain ⟨σ4, hc6, hG5, h⟩ := h
      refine w_callV dX9_requireTwo_7 ml_9_118 ⟨ok_X9_requireStall, vi_X9_requireStall⟩ hs_X9_requireStall (As := [.int x2]) rfl rfl (gT hG2 rfl (lt_of rfl)) (Nat.le_of_ble_eq_true rfl) hc6 ?_
      show wp C 9 cX9_requireTwo 3 none false [] sc P 10 [(0, .ref 0), (1, .int x1), (2, .int x2)] [] σ4
      refine w_aload_n dX9_requireTwo_10 rfl (List.Mem.head _) ?_
      refine w_iload_n dX9_requireTwo_11 rfl (List.Mem.tail _ (List.Mem.head _)) ?_
      refine w_iload_n dX9_requireTwo_12 rfl (List.Mem.tail _ (List.Mem.tail _ (List.Mem.head _))) ?_
      refine w_icmp_eq (tgt := 20) dX9_requireTwo_13 rfl (fun c9 => ?_) (fun c9 => ?_)
      · replace h := h.1 c9
        refine w_iconst (v := 0) dX9_requireTwo_20 (by decide) ?_
        rcases h with h | h
        · obtain ⟨e9, σ7, hc9, h⟩ := h
          exact w_throwV dX9_requireTwo_21 mp_9_69 ⟨ok_X9_require, vi_X9_require⟩ hs_X9_require (As := [.int 0]) rfl rfl (gT hG5 rfl (lt_of rfl)) (Nat.le_of_ble_eq_true rfl) hc9 rfl h
        · obtain ⟨σ7, hc9, hG8, h⟩ := h
          refine w_callV dX9_requireTwo_21 ml_9_69 ⟨ok_X9_require, vi_X9_require⟩ hs_X9_require (As := [.int 0]) rfl rfl (gT hG5 rfl (lt_of rfl)) (Nat.le_of_ble_eq_true rfl) hc9 ?_
          show wp C 9 cX9_requireTwo 3 none false [] sc P 24 [(0, .ref 0), (1, .int x1), (2, .int x2)] [] σ7
          exact w_vret dX9_requireTwo_24 rfl h
      · replace h := h.2 c9
        refine w_iconst (v := 1) dX9_requireTwo_16 (by decide) ?_
        refine w_goto (tgt := 21) dX9_requireTwo_17 rfl ?_
        rcases h with h | h
        · obtain ⟨e9, σ10, hc12, h⟩ := h
          exact w_throwV dX9_requireTwo_21 mp_9_69 ⟨ok_X9_require, vi_X9_require⟩ hs_X9_require (As := [.int 1]) rfl rfl (gT hG5 rfl (lt_of rfl)) (Nat.le_of_ble_eq_true rfl) hc12 rfl h
        · obtain ⟨σ10, hc12, hG11, h⟩ := h
          refine w_callV dX9_requireTwo_21 ml_9_69 ⟨ok_X9_require, vi_X9_require⟩ hs_X9_require (As := [.int 1]) rfl rfl (gT hG5 rfl (lt_of rfl)) (Nat.le_of_ble_eq_true rfl) hc12 ?_
          show wp C 9 cX9_requireTwo 3 none false [] sc P 24 [(0, .ref 0), (1, .int x1), (2, .int x2)] [] σ10
          exact w_vret dX9_requireTwo_24 rfl h
theorem dX9_require_0 : decode cX9_require 0 = .ok (.iload_n 1, 1) := by decide +kernel
theorem dX9_require_1 : decode cX9_require 1 = .ok (.ifCond .ne 24, 3) := by decide +kernel
theorem dX9_require_4 : decode cX9_require 4 = .ok (.aload_n 0, 1) := by decide +kernel
theorem dX9_require_5 : decode cX9_require 5 = .ok (.dup, 1) := by decide +kernel
theorem dX9_require_6 : decode cX9_require 6 = .ok (.getfield 59, 3) := by decide +kernel
theorem dX9_require_9 : decode cX9_require 9 = .ok (.iconst 1, 1) := by decide +kernel
theorem dX9_require_10 : decode cX9_require 10 = .ok (.iadd, 1) := by decide +kernel
theorem dX9_require_11 : decode cX9_require 11 = .ok (.putfield 59, 3) := by decide +kernel
theorem dX9_require_14 : decode cX9_require 14 = .ok (.new 339, 3) := by decide +kernel
theorem dX9_require_17 : decode cX9_require 17 = .ok (.dup, 1) := by decide +kernel
theorem dX9_require_18 : decode cX9_require 18 = .ok (.ldc_w 341, 3) := by decide +kernel
theorem dX9_require_21 : decode cX9_require 21 = .ok (.invokespecial 343, 3) := by decide +kernel
theorem dX9_require_24 : decode cX9_require 24 = .ok (.athrow, 1) := by decide +kernel
theorem dX9_require_25 : decode cX9_require 25 = .ok (.return_, 1) := by decide +kernel
set_option maxRecDepth 10000 in
theorem v_X9_require_0 {C : aM → List Value → aH → aO → aH → Prop} {sc : Nat × (Nat → Int32)} {P : aO → aH → Prop} {σ : aH} {u : Nat}  {x1 : Int32} (hG : G σ u) 
    (h : ((¬ x1 = 0 → P (.inl none) σ) ∧ (x1 = 0 → (∀ σ1 : aH, sI σ 0 8 ((gI σ 0 8) + 1) = σ1 → (gN σ1 + 1 ≤ 1000000 ∧ P (.inr 1) (sSkip σ1 1 6)))))) :
    wp C 9 cX9_require 2 none false [] sc P 0 [(0, .ref 0), (1, .int x1)] [] σ := by
  refine w_iload_n dX9_require_0 rfl (List.Mem.tail _ (List.Mem.head _)) ?_
  refine w_if_ne (tgt := 25) dX9_require_1 rfl (fun c9 => ?_) (fun c9 => ?_)
  · replace h := h.1 c9
    exact w_vret dX9_require_25 rfl h
  · replace h := h.2 c9
    refine w_aload_n dX9_require_4 rfl (List.Mem.head _) ?_
    refine w_dup dX9_require_5 rfl ?_
    refine w_getI (ci := 9) (k := 8) dX9_require_6 fl_9_59 (by decide) (gT hG rfl (lt_of rfl)) ?_
    refine w_iconst (v := 1) dX9_require_9 (by decide) ?_
    refine w_iadd dX9_require_10 ?_
    refine y_putI (ci := 9) (k := 8) dX9_require_11 fl_9_59 (by decide) (gT hG rfl (lt_of rfl)) (fun σ1 eσ2 => ?_)
    replace h := h σ1 eσ2
    have hG3 : G σ1 u := eσ2 ▸ G.sI hG
    exact w_throwN dX9_require_14 dX9_require_17 dX9_require_18 dX9_require_21 dX9_require_24 ⟨rfl, Or.inr ⟨rfl, rfl, rfl, rfl⟩⟩ (Nat.le_of_ble_eq_true rfl) h.1 rfl h.2
theorem dX9_isMinute_0 : decode cX9_isMinute 0 = .ok (.iload_n 0, 1) := by decide +kernel
theorem dX9_isMinute_1 : decode cX9_isMinute 1 = .ok (.ifCond .lt 14, 3) := by decide +kernel
theorem dX9_isMinute_4 : decode cX9_isMinute 4 = .ok (.iload_n 0, 1) := by decide +kernel
theorem dX9_isMinute_5 : decode cX9_isMinute 5 = .ok (.sipush 1440, 3) := by decide +kernel
theorem dX9_isMinute_8 : decode cX9_isMinute 8 = .ok (.if_icmp .ge 7, 3) := by decide +kernel
theorem dX9_isMinute_11 : decode cX9_isMinute 11 = .ok (.iconst 1, 1) := by decide +kernel
theorem dX9_isMinute_12 : decode cX9_isMinute 12 = .ok (.goto 4, 3) := by decide +kernel
theorem dX9_isMinute_15 : decode cX9_isMinute 15 = .ok (.iconst 0, 1) := by decide +kernel
theorem dX9_isMinute_16 : decode cX9_isMinute 16 = .ok (.ireturn, 1) := by decide +kernel
set_option maxRecDepth 10000 in
theorem v_X9_isMinute_0 {C : aM → List Value → aH → aO → aH → Prop} {sc : Nat × (Nat → Int32)} {P : aO → aH → Prop} {σ : aH} {u : Nat}  {x0 : Int32} (hG : G σ u) 
    (h : ((x0 < 0 → P (.inl (some (.int 0))) σ) ∧ (¬ (x0 < 0) → ((1440 ≤ x0 → P (.inl (some (.int 0))) σ) ∧ (¬ (1440 ≤ x0) → P (.inl (some (.int 1))) σ))))) :
    wp C 9 cX9_isMinute 1 (some .boolean) false [] sc P 0 [(0, .int x0)] [] σ := by
  refine w_iload_n dX9_isMinute_0 rfl (List.Mem.head _) ?_
  refine w_if_lt (tgt := 15) dX9_isMinute_1 rfl (fun c9 => ?_) (fun c9 => ?_)
  · replace h := h.1 c9
    refine w_iconst (v := 0) dX9_isMinute_15 (by decide) ?_
    exact w_zret dX9_isMinute_16 rfl (by decide) h
  · replace h := h.2 c9
    refine w_iload_n dX9_isMinute_4 rfl (List.Mem.head _) ?_
    refine w_sipush (v := 1440) dX9_isMinute_5 (by decide) ?_
    refine w_icmp_ge (tgt := 15) dX9_isMinute_8 rfl (fun c9 => ?_) (fun c9 => ?_)
    · replace h := h.1 c9
      refine w_iconst (v := 0) dX9_isMinute_15 (by decide) ?_
      exact w_zret dX9_isMinute_16 rfl (by decide) h
    · replace h := h.2 c9
      refine w_iconst (v := 1) dX9_isMinute_11 (by decide) ?_
      refine w_goto (tgt := 16) dX9_isMinute_12 rfl ?_
      exact w_zret dX9_isMinute_16 rfl (by decide) h
theorem dX9_isEnd_0 : decode cX9_isEnd 0 = .ok (.iload_n 0, 1) := by decide +kernel
theorem dX9_isEnd_1 : decode cX9_isEnd 1 = .ok (.ifCond .lt 14, 3) := by decide +kernel
theorem dX9_isEnd_4 : decode cX9_isEnd 4 = .ok (.iload_n 0, 1) := by decide +kernel
theorem dX9_isEnd_5 : decode cX9_isEnd 5 = .ok (.sipush 1440, 3) := by decide +kernel
theorem dX9_isEnd_8 : decode cX9_isEnd 8 = .ok (.if_icmp .gt 7, 3) := by decide +kernel
theorem dX9_isEnd_11 : decode cX9_isEnd 11 = .ok (.iconst 1, 1) := by decide +kernel
theorem dX9_isEnd_12 : decode cX9_isEnd 12 = .ok (.goto 4, 3) := by decide +kernel
theorem dX9_isEnd_15 : decode cX9_isEnd 15 = .ok (.iconst 0, 1) := by decide +kernel
theorem dX9_isEnd_16 : decode cX9_isEnd 16 = .ok (.ireturn, 1) := by decide +kernel
set_option maxRecDepth 10000 in
theorem v_X9_isEnd_0 {C : aM → List Value → aH → aO → aH → Prop} {sc : Nat × (Nat → Int32)} {P : aO → aH → Prop} {σ : aH} {u : Nat}  {x0 : Int32} (hG : G σ u) 
    (h : ((x0 < 0 → P (.inl (some (.int 0))) σ) ∧ (¬ (x0 < 0) → ((1440 < x0 → P (.inl (some (.int 0))) σ) ∧ (¬ (1440 < x0) → P (.inl (some (.int 1))) σ))))) :
    wp C 9 cX9_isEnd 1 (some .boolean) false [] sc P 0 [(0, .int x0)] [] σ := by
  refine w_iload_n dX9_isEnd_0 rfl (List.Mem.head _) ?_
  refine w_if_lt (tgt := 15) dX9_isEnd_1 rfl (fun c9 => ?_) (fun c9 => ?_)
  · replace h := h.1 c9
    refine w_iconst (v := 0) dX9_isEnd_15 (by decide) ?_
    exact w_zret dX9_isEnd_16 rfl (by decide) h
  · replace h := h.2 c9
    refine w_iload_n dX9_isEnd_4 rfl (List.Mem.head _) ?_
    refine w_sipush (v := 1440) dX9_isEnd_5 (by decide) ?_
    refine w_icmp_gt (tgt := 15) dX9_isEnd_8 rfl (fun c9 => ?_) (fun c9 => ?_)
    · replace h := h.1 c9
      refine w_iconst (v := 0) dX9_isEnd_15 (by decide) ?_
      exact w_zret dX9_isEnd_16 rfl (by decide) h
    · replace h := h.2 c9
      refine w_iconst (v := 1) dX9_isEnd_11 (by decide) ?_
      refine w_goto (tgt := 16) dX9_isEnd_12 rfl ?_
      exact w_zret dX9_isEnd_16 rfl (by decide) h
theorem dX9_isBit_0 : decode cX9_isBit 0 = .ok (.iload_n 0, 1) := by decide +kernel
theorem dX9_isBit_1 : decode cX9_isBit 1 = .ok (.ifCond .eq 8, 3) := by decide +kernel
theorem dX9_isBit_4 : decode cX9_isBit 4 = .ok (.iload_n 0, 1) := by decide +kernel
theorem dX9_isBit_5 : decode cX9_isBit 5 = .ok (.iconst 1, 1) := by decide +kernel
theorem dX9_isBit_6 : decode cX9_isBit 6 = .ok (.if_icmp .ne 7, 3) := by decide +kernel
theorem dX9_isBit_9 : decode cX9_isBit 9 = .ok (.iconst 1, 1) := by decide +kernel
theorem dX9_isBit_10 : decode cX9_isBit 10 = .ok (.goto 4, 3) := by decide +kernel
theorem dX9_isBit_13 : decode cX9_isBit 13 = .ok (.iconst 0, 1) := by decide +kernel
theorem dX9_isBit_14 : decode cX9_isBit 14 = .ok (.ireturn, 1) := by decide +kernel
set_option maxRecDepth 10000 in
theorem v_X9_isBit_0 {C : aM → List Value → aH → aO → aH → Prop} {sc : Nat × (Nat → Int32)} {P : aO → aH → Prop} {σ : aH} {u : Nat}  {x0 : Int32} (hG : G σ u) 
    (h : ((x0 = 0 → P (.inl (some (.int 1))) σ) ∧ (¬ (x0 = 0) → ((¬ x0 = 1 → P (.inl (some (.int 0))) σ) ∧ (x0 = 1 → P (.inl (some (.int 1))) σ))))) :
    wp C 9 cX9_isBit 1 (some .boolean) false [] sc P 0 [(0, .int x0)] [] σ := by
  refine w_iload_n dX9_isBit_0 rfl (List.Mem.head _) ?_
  refine w_if_eq (tgt := 9) dX9_isBit_1 rfl (fun c9 => ?_) (fun c9 => ?_)
  · replace h := h.1 c9
    refine w_iconst (v := 1) dX9_isBit_9 (by decide) ?_
    refine w_goto (tgt := 14) dX9_isBit_10 rfl ?_
    exact w_zret dX9_isBit_14 rfl (by decide) h
  · replace h := h.2 c9
    refine w_iload_n dX9_isBit_4 rfl (List.Mem.head _) ?_
    refine w_iconst (v := 1) dX9_isBit_5 (by decide) ?_
    refine w_icmp_ne (tgt := 13) dX9_isBit_6 rfl (fun c9 => ?_) (fun c9 => ?_)
    · replace h := h.1 c9
      refine w_iconst (v := 0) dX9_isBit_13 (by decide) ?_
      exact w_zret dX9_isBit_14 rfl (by decide) h
    · replace h := h.2 c9
      refine w_iconst (v := 1) dX9_isBit_9 (by decide) ?_
      refine w_goto (tgt := 14) dX9_isBit_10 rfl ?_
      exact w_zret dX9_isBit_14 rfl (by decide) h
theorem dX9_isHeight_0 : decode cX9_isHeight 0 = .ok (.iload_n 0, 1) := by decide +kernel
theorem dX9_isHeight_1 : decode cX9_isHeight 1 = .ok (.ifCond .lt 13, 3) := by decide +kernel
theorem dX9_isHeight_4 : decode cX9_isHeight 4 = .ok (.iload_n 0, 1) := by decide +kernel
theorem dX9_isHeight_5 : decode cX9_isHeight 5 = .ok (.bipush 60, 2) := by decide +kernel
theorem dX9_isHeight_7 : decode cX9_isHeight 7 = .ok (.if_icmp .gt 7, 3) := by decide +kernel
theorem dX9_isHeight_10 : decode cX9_isHeight 10 = .ok (.iconst 1, 1) := by decide +kernel
theorem dX9_isHeight_11 : decode cX9_isHeight 11 = .ok (.goto 4, 3) := by decide +kernel
theorem dX9_isHeight_14 : decode cX9_isHeight 14 = .ok (.iconst 0, 1) := by decide +kernel
theorem dX9_isHeight_15 : decode cX9_isHeight 15 = .ok (.ireturn, 1) := by decide +kernel
set_option maxRecDepth 10000 in
theorem v_X9_isHeight_0 {C : aM → List Value → aH → aO → aH → Prop} {sc : Nat × (Nat → Int32)} {P : aO → aH → Prop} {σ : aH} {u : Nat}  {x0 : Int32} (hG : G σ u) 
    (h : ((x0 < 0 → P (.inl (some (.int 0))) σ) ∧ (¬ (x0 < 0) → ((60 < x0 → P (.inl (some (.int 0))) σ) ∧ (¬ (60 < x0) → P (.inl (some (.int 1))) σ))))) :
    wp C 9 cX9_isHeight 1 (some .boolean) false [] sc P 0 [(0, .int x0)] [] σ := by
  refine w_iload_n dX9_isHeight_0 rfl (List.Mem.head _) ?_
  refine w_if_lt (tgt := 14) dX9_isHeight_1 rfl (fun c9 => ?_) (fun c9 => ?_)
  · replace h := h.1 c9
    refine w_iconst (v := 0) dX9_isHeight_14 (by decide) ?_
    exact w_zret dX9_isHeight_15 rfl (by decide) h
  · replace h := h.2 c9
    refine w_iload_n dX9_isHeight_4 rfl (List.Mem.head _) ?_
    refine w_bipush (v := 60) dX9_isHeight_5 (by decide) ?_
    refine w_icmp_gt (tgt := 14) dX9_isHeight_7 rfl (fun c9 => ?_) (fun c9 => ?_)
    · replace h := h.1 c9
      refine w_iconst (v := 0) dX9_isHeight_14 (by decide) ?_
      exact w_zret dX9_isHeight_15 rfl (by decide) h
    · replace h := h.2 c9
      refine w_iconst (v := 1) dX9_isHeight_10 (by decide) ?_
      refine w_goto (tgt := 15) dX9_isHeight_11 rfl ?_
      exact w_zret dX9_isHeight_15 rfl (by decide) h
theorem dX9_isDue_0 : decode cX9_isDue 0 = .ok (.iload_n 0, 1) := by decide +kernel
theorem dX9_isDue_1 : decode cX9_isDue 1 = .ok (.ifCond .lt 14, 3) := by decide +kernel
theorem dX9_isDue_4 : decode cX9_isDue 4 = .ok (.iload_n 0, 1) := by decide +kernel
theorem dX9_isDue_5 : decode cX9_isDue 5 = .ok (.ldc_w 344, 3) := by decide +kernel
theorem dX9_isDue_8 : decode cX9_isDue 8 = .ok (.if_icmp .gt 7, 3) := by decide +kernel
theorem dX9_isDue_11 : decode cX9_isDue 11 = .ok (.iconst 1, 1) := by decide +kernel
theorem dX9_isDue_12 : decode cX9_isDue 12 = .ok (.goto 4, 3) := by decide +kernel
theorem dX9_isDue_15 : decode cX9_isDue 15 = .ok (.iconst 0, 1) := by decide +kernel
theorem dX9_isDue_16 : decode cX9_isDue 16 = .ok (.ireturn, 1) := by decide +kernel
set_option maxRecDepth 10000 in
theorem v_X9_isDue_0 {C : aM → List Value → aH → aO → aH → Prop} {sc : Nat × (Nat → Int32)} {P : aO → aH → Prop} {σ : aH} {u : Nat}  {x0 : Int32} (hG : G σ u) 
    (h : ((x0 < 0 → P (.inl (some (.int 0))) σ) ∧ (¬ (x0 < 0) → ((99999 < x0 → P (.inl (some (.int 0))) σ) ∧ (¬ (99999 < x0) → P (.inl (some (.int 1))) σ))))) :
    wp C 9 cX9_isDue 1 (some .boolean) false [] sc P 0 [(0, .int x0)] [] σ := by
  refine w_iload_n dX9_isDue_0 rfl (List.Mem.head _) ?_
  refine w_if_lt (tgt := 15) dX9_isDue_1 rfl (fun c9 => ?_) (fun c9 => ?_)
  · replace h := h.1 c9
    refine w_iconst (v := 0) dX9_isDue_15 (by decide) ?_
    exact w_zret dX9_isDue_16 rfl (by decide) h
  · replace h := h.2 c9
    refine w_iload_n dX9_isDue_4 rfl (List.Mem.head _) ?_
    refine w_ldcw dX9_isDue_5 kc_9_344 ?_
    refine w_icmp_gt (tgt := 15) dX9_isDue_8 rfl (fun c9 => ?_) (fun c9 => ?_)
    · replace h := h.1 c9
      refine w_iconst (v := 0) dX9_isDue_15 (by decide) ?_
      exact w_zret dX9_isDue_16 rfl (by decide) h
    · replace h := h.2 c9
      refine w_iconst (v := 1) dX9_isDue_11 (by decide) ?_
      refine w_goto (tgt := 16) dX9_isDue_12 rfl ?_
      exact w_zret dX9_isDue_16 rfl (by decide) h
theorem dX9_lowestBit_0 : decode cX9_lowestBit 0 = .ok (.iload_n 1, 1) := by decide +kernel
theorem dX9_lowestBit_1 : decode cX9_lowestBit 1 = .ok (.istore_n 2, 1) := by decide +kernel
theorem dX9_lowestBit_2 : decode cX9_lowestBit 2 = .ok (.iload_n 2, 1) := by decide +kernel
theorem dX9_lowestBit_3 : decode cX9_lowestBit 3 = .ok (.bipush 8, 2) := by decide +kernel
theorem dX9_lowestBit_5 : decode cX9_lowestBit 5 = .ok (.if_icmp .ge 20, 3) := by decide +kernel
theorem dX9_lowestBit_8 : decode cX9_lowestBit 8 = .ok (.iload_n 0, 1) := by decide +kernel
theorem dX9_lowestBit_9 : decode cX9_lowestBit 9 = .ok (.iload_n 2, 1) := by decide +kernel
theorem dX9_lowestBit_10 : decode cX9_lowestBit 10 = .ok (.iushr, 1) := by decide +kernel
theorem dX9_lowestBit_11 : decode cX9_lowestBit 11 = .ok (.iconst 1, 1) := by decide +kernel
theorem dX9_lowestBit_12 : decode cX9_lowestBit 12 = .ok (.iand, 1) := by decide +kernel
theorem dX9_lowestBit_13 : decode cX9_lowestBit 13 = .ok (.iconst 1, 1) := by decide +kernel
theorem dX9_lowestBit_14 : decode cX9_lowestBit 14 = .ok (.if_icmp .ne 5, 3) := by decide +kernel
theorem dX9_lowestBit_17 : decode cX9_lowestBit 17 = .ok (.iload_n 2, 1) := by decide +kernel
theorem dX9_lowestBit_18 : decode cX9_lowestBit 18 = .ok (.ireturn, 1) := by decide +kernel
theorem dX9_lowestBit_19 : decode cX9_lowestBit 19 = .ok (.iinc 2 1, 3) := by decide +kernel
theorem dX9_lowestBit_22 : decode cX9_lowestBit 22 = .ok (.goto (-20), 3) := by decide +kernel
theorem dX9_lowestBit_25 : decode cX9_lowestBit 25 = .ok (.iconst (-1), 1) := by decide +kernel
theorem dX9_lowestBit_26 : decode cX9_lowestBit 26 = .ok (.ireturn, 1) := by decide +kernel
set_option maxRecDepth 10000 in
theorem v_X9_lowestBit_0 {C : aM → List Value → aH → aO → aH → Prop} {sc : Nat × (Nat → Int32)} {P : aO → aH → Prop} {σ : aH} {u : Nat}  {x0 : Int32} {x1 : Int32} (hG : G σ u) 
    (h : wp C 9 cX9_lowestBit 3 (some .int) false [] sc P 2 [(0, .int x0), (1, .int x1), (2, .int x1)] [] σ) :
    wp C 9 cX9_lowestBit 3 (some .int) false [] sc P 0 [(0, .int x0), (1, .int x1)] [] σ := by
  refine w_iload_n dX9_lowestBit_0 rfl (List.Mem.tail _ (List.Mem.head _)) ?_
  refine w_istore_n (l' := [(2, .int x1), (0, .int x0), (1, .int x1)]) dX9_lowestBit_1 rfl (by decide) rfl ?_
  exact w_weak (l' := [(0, .int x0), (1, .int x1), (2, .int x1)]) (by intro q hq; simp only [List.mem_cons, List.not_mem_nil, or_false] at hq ⊢; rcases hq with rfl | rfl | rfl <;> simp) h
set_option maxRecDepth 10000 in
theorem v_X9_lowestBit_2 {C : aM → List Value → aH → aO → aH → Prop} {sc : Nat × (Nat → Int32)} {P : aO → aH → Prop} {σ : aH} {u : Nat}  {x0 : Int32} {x1 : Int32} {x2 : Int32} (hG : G σ u) 
    (h : ((8 ≤ x2 → P (.inl (some (.int (-1)))) σ) ∧ (¬ (8 ≤ x2) → ((¬ ((((x0 : Int32).toUInt32 >>> ((x2 : Int32).toUInt32 &&& Int32.toUInt32 31)).toInt32) &&& 1) = 1 → wp C 9 cX9_lowestBit 3 (some .int) false [] sc P 2 [(0, .int x0), (1, .int x1), (2, .int (x2 + 1))] [] σ) ∧ (((((x0 : Int32).toUInt32 >>> ((x2 : Int32).toUInt32 &&& Int32.toUInt32 31)).toInt32) &&& 1) = 1 → P (.inl (some (.int x2))) σ))))) :
    wp C 9 cX9_lowestBit 3 (some .int) false [] sc P 2 [(0, .int x0), (1, .int x1), (2, .int x2)] [] σ := by
  refine w_iload_n dX9_lowestBit_2 rfl (List.Mem.tail _ (List.Mem.tail _ (List.Mem.head _))) ?_
  refine w_bipush (v := 8) dX9_lowestBit_3 (by decide) ?_
  refine w_icmp_ge (tgt := 25) dX9_lowestBit_5 rfl (fun c9 => ?_) (fun c9 => ?_)
  · replace h := h.1 c9
    refine w_iconst (v := (-1)) dX9_lowestBit_25 (by decide) ?_
    exact w_iret dX9_lowestBit_26 rfl h
  · replace h := h.2 c9
    refine w_iload_n dX9_lowestBit_8 rfl (List.Mem.head _) ?_
    refine w_iload_n dX9_lowestBit_9 rfl (List.Mem.tail _ (List.Mem.tail _ (List.Mem.head _))) ?_
    refine w_iushr dX9_lowestBit_10 ?_
    refine w_iconst (v := 1) dX9_lowestBit_11 (by decide) ?_
    refine w_iand dX9_lowestBit_12 ?_
    refine w_iconst (v := 1) dX9_lowestBit_13 (by decide) ?_
    refine w_icmp_ne (tgt := 19) dX9_lowestBit_14 rfl (fun c9 => ?_) (fun c9 => ?_)
    · replace h := h.1 c9
      refine w_iinc (v := x2 + 1) (l' := [(2, .int (x2 + 1)), (0, .int x0), (1, .int x1)]) dX9_lowestBit_19 (List.Mem.tail _ (List.Mem.tail _ (List.Mem.head _))) rfl (by decide) rfl ?_
      refine w_goto (tgt := 2) dX9_lowestBit_22 rfl ?_
      exact w_weak (l' := [(0, .int x0), (1, .int x1), (2, .int (x2 + 1))]) (by intro q hq; simp only [List.mem_cons, List.not_mem_nil, or_false] at hq ⊢; rcases hq with rfl | rfl | rfl <;> simp) h
    · replace h := h.2 c9
      refine w_iload_n dX9_lowestBit_17 rfl (List.Mem.tail _ (List.Mem.tail _ (List.Mem.head _))) ?_
      exact w_iret dX9_lowestBit_18 rfl h
