theorem dL_law_993 : decode cL_law 993 = .ok (.aload_n 1, 1) := by decide +kernel
theorem dL_law_994 : decode cL_law 994 = .ok (.aload_n 0, 1) := by decide +kernel
theorem dL_law_995 : decode cL_law 995 = .ok (.iload 4, 2) := by decide +kernel
theorem dL_law_997 : decode cL_law 997 = .ok (.iconst 1, 1) := by decide +kernel
theorem dL_law_998 : decode cL_law 998 = .ok (.iadd, 1) := by decide +kernel
theorem dL_law_999 : decode cL_law 999 = .ok (.iaload, 1) := by decide +kernel
theorem dL_law_1000 : decode cL_law 1000 = .ok (.aload_n 3, 1) := by decide +kernel
theorem dL_law_1001 : decode cL_law 1001 = .ok (.invokestatic 165, 3) := by decide +kernel
theorem dL_law_1004 : decode cL_law 1004 = .ok (.istore 5, 2) := by decide +kernel
theorem dL_law_1006 : decode cL_law 1006 = .ok (.aload_n 2, 1) := by decide +kernel
theorem dL_law_1007 : decode cL_law 1007 = .ok (.aload_n 0, 1) := by decide +kernel
theorem dL_law_1008 : decode cL_law 1008 = .ok (.iload 4, 2) := by decide +kernel
theorem dL_law_1010 : decode cL_law 1010 = .ok (.iconst 1, 1) := by decide +kernel
theorem dL_law_1011 : decode cL_law 1011 = .ok (.iadd, 1) := by decide +kernel
theorem dL_law_1012 : decode cL_law 1012 = .ok (.iaload, 1) := by decide +kernel
theorem dL_law_1013 : decode cL_law 1013 = .ok (.invokevirtual 167, 3) := by decide +kernel
theorem dL_law_1016 : decode cL_law 1016 = .ok (.istore 6, 2) := by decide +kernel
theorem dL_law_1018 : decode cL_law 1018 = .ok (.aload_n 2, 1) := by decide +kernel
theorem dL_law_1019 : decode cL_law 1019 = .ok (.invokevirtual 128, 3) := by decide +kernel
theorem dL_law_1022 : decode cL_law 1022 = .ok (.iload 5, 2) := by decide +kernel
theorem dL_law_1024 : decode cL_law 1024 = .ok (.if_icmp .eq 5, 3) := by decide +kernel
theorem dL_law_1029 : decode cL_law 1029 = .ok (.iload 5, 2) := by decide +kernel
theorem dL_law_1046 : decode cL_law 1046 = .ok (.goto 1465, 3) := by decide +kernel
theorem dL_law_1031 : decode cL_law 1031 = .ok (.ifCond .ne 15, 3) := by decide +kernel
theorem dL_law_1034 : decode cL_law 1034 = .ok (.aload_n 3, 1) := by decide +kernel
theorem dL_law_1035 : decode cL_law 1035 = .ok (.iconst 0, 1) := by decide +kernel
theorem dL_law_1036 : decode cL_law 1036 = .ok (.laload, 1) := by decide +kernel
theorem dL_law_1037 : decode cL_law 1037 = .ok (.iload 6, 2) := by decide +kernel
theorem dL_law_1039 : decode cL_law 1039 = .ok (.i2l, 1) := by decide +kernel
theorem dL_law_1040 : decode cL_law 1040 = .ok (.lcmp, 1) := by decide +kernel
theorem dL_law_1041 : decode cL_law 1041 = .ok (.ifCond .eq 5, 3) := by decide +kernel
set_option maxRecDepth 10000 in
theorem lc_12 {sc : Nat × (Nat → Int32)} {d : Nat} {Q : aO → aH → Prop} {σ : aH} {u : Nat} {i N : Int} (hG : G σ u) (hi : 0 ≤ i ∧ i + 6 ≤ (sc.1 : Int)) (hl : (sc.1 : Int) ≤ 3072) (h : JW sc (d + 1) mL_payments mX10_payments [.int (nZ (xs sc (i + 1)))] σ N (fun _ => True))
    (next : ∀ σ2 : aH, JE σ σ2 N → wp (Ev sc (d + 1)) 11 cL_law 7 (some .boolean) false [] sc Q 2511 [(0, .ref 1000000), (1, .ref 0), (2, .ref 76), (3, .ref 344), (4, .int (nZ i))] [] σ2) :
    wp (Ev sc (d + 1)) 11 cL_law 7 (some .boolean) false [] sc Q 993 [(0, .ref 1000000), (1, .ref 0), (2, .ref 76), (3, .ref 344), (4, .int (nZ i))] [] σ := by
  refine w_aload_n dL_law_993 rfl (List.Mem.tail _ (List.Mem.head _)) ?_
  refine w_aload_n dL_law_994 rfl (List.Mem.head _) ?_
  refine w_iload dL_law_995 (List.Mem.tail _ (List.Mem.tail _ (List.Mem.tail _ (List.Mem.tail _ (List.Mem.head _))))) ?_
  refine w_iconst (v := nZ 1) dL_law_997 (by decide) ?_
  refine i_add dL_law_998 ?_
  refine i_isld dL_law_999 (by omega) (by omega) ?_
  refine w_aload_n dL_law_1000 rfl (List.Mem.tail _ (List.Mem.tail _ (List.Mem.tail _ (List.Mem.head _)))) ?_
  obtain ⟨k, r, σ1, σ2, u1, u2, e1, rk, g1, e2, rr, g2, t0, tj, je⟩ := h
  refine w_callW dL_law_1001 mp_11_165 ⟨ok_L_payments, st_L_payments⟩ hs_L_payments (As := [.ref 0, .int (nZ (xs sc (i + 1))), .ref 344]) rfl rfl (Nat.le_of_ble_eq_true rfl) e1 ?_
  show wp (Ev sc (d + 1)) 11 cL_law 7 (some .boolean) false [] sc Q 1004 [(0, .ref 1000000), (1, .ref 0), (2, .ref 76), (3, .ref 344), (4, .int (nZ i))] [.int (nZ k)] σ1
  refine w_istore (l' := [(5, .int (nZ k)), (0, .ref 1000000), (1, .ref 0), (2, .ref 76), (3, .ref 344), (4, .int (nZ i))]) dL_law_1004 (by decide) rfl ?_
  refine w_aload_n dL_law_1006 rfl (List.Mem.tail _ (List.Mem.tail _ (List.Mem.tail _ (List.Mem.head _)))) ?_
  refine w_aload_n dL_law_1007 rfl (List.Mem.tail _ (List.Mem.head _)) ?_
  refine w_iload dL_law_1008 (List.Mem.tail _ (List.Mem.tail _ (List.Mem.tail _ (List.Mem.tail _ (List.Mem.tail _ (List.Mem.head _)))))) ?_
  refine w_iconst (v := nZ 1) dL_law_1010 (by decide) ?_
  refine i_add dL_law_1011 ?_
  refine i_isld dL_law_1012 (by omega) (by omega) ?_
  refine w_callV dL_law_1013 ml_11_167 ⟨ok_X10_payments, vi_X10_payments⟩ hs_X10_payments (As := [.int (nZ (xs sc (i + 1)))]) rfl rfl (gT g1 rfl (lt_of rfl)) (Nat.le_of_ble_eq_true rfl) e2 ?_
  show wp (Ev sc (d + 1)) 11 cL_law 7 (some .boolean) false [] sc Q 1016 [(5, .int (nZ k)), (0, .ref 1000000), (1, .ref 0), (2, .ref 76), (3, .ref 344), (4, .int (nZ i))] [.int (nZ r)] σ2
  refine w_istore (l' := [(6, .int (nZ r)), (5, .int (nZ k)), (0, .ref 1000000), (1, .ref 0), (2, .ref 76), (3, .ref 344), (4, .int (nZ i))]) dL_law_1016 (by decide) rfl ?_
  refine w_aload_n dL_law_1018 rfl (List.Mem.tail _ (List.Mem.tail _ (List.Mem.tail _ (List.Mem.tail _ (List.Mem.head _))))) ?_
  refine w_callV dL_law_1019 ml_11_128 ⟨ok_X10_thrown, vi_X10_thrown⟩ hs_X10_thrown (As := []) rfl rfl (gT g2 rfl (lt_of rfl)) (Nat.le_of_ble_eq_true rfl) (s_thrown g2) ?_
  show wp (Ev sc (d + 1)) 11 cL_law 7 (some .boolean) false [] sc Q 1022 [(6, .int (nZ r)), (5, .int (nZ k)), (0, .ref 1000000), (1, .ref 0), (2, .ref 76), (3, .ref 344), (4, .int (nZ i))] [.int (nZ (rI σ2 76 0))] σ2
  refine w_iload dL_law_1022 (List.Mem.tail _ (List.Mem.head _)) ?_
  refine i_cmp_eq (tgt := 1029) dL_law_1024 rfl (rI_R _ _ _) rk (fun _ => ?_) (fun c9 => absurd t0 c9)
  refine w_iload dL_law_1029 (List.Mem.tail _ (List.Mem.head _)) ?_
  have fin : wp (Ev sc (d + 1)) 11 cL_law 7 (some .boolean) false [] sc Q 1046 [(6, .int (nZ r)), (5, .int (nZ k)), (0, .ref 1000000), (1, .ref 0), (2, .ref 76), (3, .ref 344), (4, .int (nZ i))] [] σ2 := by
    refine w_goto (tgt := 2511) dL_law_1046 rfl ?_
    exact w_weak (l' := [(0, .ref 1000000), (1, .ref 0), (2, .ref 76), (3, .ref 344), (4, .int (nZ i))]) (by intro q hq; simp only [List.mem_cons, List.not_mem_nil, or_false] at hq ⊢; rcases hq with rfl | rfl | rfl | rfl | rfl <;> simp) (next σ2 je)
  refine i_if_ne (tgt := 1046) dL_law_1031 rfl rk (fun _ => fin) (fun c9 => ?_)
  obtain ⟨tj, hb⟩ := tj c9
  refine w_aload_n dL_law_1034 rfl (List.Mem.tail _ (List.Mem.tail _ (List.Mem.tail _ (List.Mem.tail _ (List.Mem.tail _ (List.Mem.head _)))))) ?_
  refine w_iconst (v := nZ 0) dL_law_1035 (by decide) ?_
  refine i_lald (n := 1) dL_law_1036 (gT g2 rfl (lt_of rfl)) (gL g2 rfl) (by decide) (by decide) ?_
  rw [tj]
  refine w_iload dL_law_1037 (List.Mem.head _) ?_
  refine i_2l dL_law_1039 rr ?_
  refine j_cmp dL_law_1040 (by omega) (by omega) ?_
  rw [show (if r < r then (1 : Int) else if r = r then 0 else (-1)) = 0 by rw [if_neg (by omega), if_pos rfl]]
  exact i_if_eq (tgt := 1046) dL_law_1041 rfl (by decide) (fun _ => fin) (fun c8 => absurd rfl c8)
theorem dL_law_1049 : decode cL_law 1049 = .ok (.aload_n 1, 1) := by decide +kernel
theorem dL_law_1050 : decode cL_law 1050 = .ok (.invokevirtual 168, 3) := by decide +kernel
theorem dL_law_1053 : decode cL_law 1053 = .ok (.aload_n 2, 1) := by decide +kernel
theorem dL_law_1054 : decode cL_law 1054 = .ok (.invokevirtual 171, 3) := by decide +kernel
theorem dL_law_1057 : decode cL_law 1057 = .ok (.if_icmp .eq 1454, 3) := by decide +kernel
set_option maxRecDepth 10000 in
theorem lc_13 {sc : Nat × (Nat → Int32)} {d : Nat} {Q : aO → aH → Prop} {σ : aH} {u : Nat} {i N : Int} (hG : G σ u) (hi : 0 ≤ i ∧ i + 6 ≤ (sc.1 : Int)) (hl : (sc.1 : Int) ≤ 3072) (h : JD sc d mX9_due mX10_due [] σ N)
    (next : ∀ σ2 : aH, JE σ σ2 N → wp (Ev sc (d + 1)) 11 cL_law 7 (some .boolean) false [] sc Q 2511 [(0, .ref 1000000), (1, .ref 0), (2, .ref 76), (3, .ref 344), (4, .int (nZ i))] [] σ2) :
    wp (Ev sc (d + 1)) 11 cL_law 7 (some .boolean) false [] sc Q 1049 [(0, .ref 1000000), (1, .ref 0), (2, .ref 76), (3, .ref 344), (4, .int (nZ i))] [] σ := by
  refine w_aload_n dL_law_1049 rfl (List.Mem.tail _ (List.Mem.head _)) ?_
  obtain ⟨r, σ1, σ2, e1, rr, ⟨u1, g1⟩, e2, je⟩ := h
  refine w_callV dL_law_1050 ml_11_168 ⟨ok_X9_due, vi_X9_due⟩ hs_X9_due (As := []) rfl rfl (gT hG rfl (lt_of rfl)) (Nat.le_of_ble_eq_true rfl) (Ev.mono _ _ _ _ _ _ e1) ?_
  show wp (Ev sc (d + 1)) 11 cL_law 7 (some .boolean) false [] sc Q 1053 [(0, .ref 1000000), (1, .ref 0), (2, .ref 76), (3, .ref 344), (4, .int (nZ i))] [.int (nZ r)] σ1
  refine w_aload_n dL_law_1053 rfl (List.Mem.tail _ (List.Mem.tail _ (List.Mem.head _))) ?_
  refine w_callV dL_law_1054 ml_11_171 ⟨ok_X10_due, vi_X10_due⟩ hs_X10_due (As := []) rfl rfl (gT g1 rfl (lt_of rfl)) (Nat.le_of_ble_eq_true rfl) (Ev.mono _ _ _ _ _ _ e2) ?_
  show wp (Ev sc (d + 1)) 11 cL_law 7 (some .boolean) false [] sc Q 1057 [(0, .ref 1000000), (1, .ref 0), (2, .ref 76), (3, .ref 344), (4, .int (nZ i))] [.int (nZ r), .int (nZ r)] σ2
  exact i_cmp_eq (tgt := 2511) dL_law_1057 rfl rr rr (fun _ => next σ2 je) (fun c9 => absurd rfl c9)
theorem dL_law_1062 : decode cL_law 1062 = .ok (.aload_n 1, 1) := by decide +kernel
theorem dL_law_1063 : decode cL_law 1063 = .ok (.aload_n 0, 1) := by decide +kernel
theorem dL_law_1064 : decode cL_law 1064 = .ok (.iload 4, 2) := by decide +kernel
theorem dL_law_1066 : decode cL_law 1066 = .ok (.iconst 1, 1) := by decide +kernel
theorem dL_law_1067 : decode cL_law 1067 = .ok (.iadd, 1) := by decide +kernel
theorem dL_law_1068 : decode cL_law 1068 = .ok (.iaload, 1) := by decide +kernel
theorem dL_law_1069 : decode cL_law 1069 = .ok (.aload_n 3, 1) := by decide +kernel
theorem dL_law_1070 : decode cL_law 1070 = .ok (.invokestatic 172, 3) := by decide +kernel
theorem dL_law_1073 : decode cL_law 1073 = .ok (.istore 5, 2) := by decide +kernel
theorem dL_law_1075 : decode cL_law 1075 = .ok (.aload_n 2, 1) := by decide +kernel
theorem dL_law_1076 : decode cL_law 1076 = .ok (.aload_n 0, 1) := by decide +kernel
theorem dL_law_1077 : decode cL_law 1077 = .ok (.iload 4, 2) := by decide +kernel
theorem dL_law_1079 : decode cL_law 1079 = .ok (.iconst 1, 1) := by decide +kernel
theorem dL_law_1080 : decode cL_law 1080 = .ok (.iadd, 1) := by decide +kernel
theorem dL_law_1081 : decode cL_law 1081 = .ok (.iaload, 1) := by decide +kernel
theorem dL_law_1082 : decode cL_law 1082 = .ok (.invokevirtual 174, 3) := by decide +kernel
theorem dL_law_1085 : decode cL_law 1085 = .ok (.istore 6, 2) := by decide +kernel
theorem dL_law_1087 : decode cL_law 1087 = .ok (.aload_n 2, 1) := by decide +kernel
theorem dL_law_1088 : decode cL_law 1088 = .ok (.invokevirtual 128, 3) := by decide +kernel
theorem dL_law_1091 : decode cL_law 1091 = .ok (.iload 5, 2) := by decide +kernel
theorem dL_law_1093 : decode cL_law 1093 = .ok (.if_icmp .eq 5, 3) := by decide +kernel
theorem dL_law_1098 : decode cL_law 1098 = .ok (.iload 5, 2) := by decide +kernel
theorem dL_law_1115 : decode cL_law 1115 = .ok (.goto 1396, 3) := by decide +kernel
theorem dL_law_1100 : decode cL_law 1100 = .ok (.ifCond .ne 15, 3) := by decide +kernel
theorem dL_law_1103 : decode cL_law 1103 = .ok (.aload_n 3, 1) := by decide +kernel
theorem dL_law_1104 : decode cL_law 1104 = .ok (.iconst 0, 1) := by decide +kernel
theorem dL_law_1105 : decode cL_law 1105 = .ok (.laload, 1) := by decide +kernel
theorem dL_law_1106 : decode cL_law 1106 = .ok (.iload 6, 2) := by decide +kernel
theorem dL_law_1108 : decode cL_law 1108 = .ok (.i2l, 1) := by decide +kernel
theorem dL_law_1109 : decode cL_law 1109 = .ok (.lcmp, 1) := by decide +kernel
theorem dL_law_1110 : decode cL_law 1110 = .ok (.ifCond .eq 5, 3) := by decide +kernel
set_option maxRecDepth 10000 in
theorem lc_14 {sc : Nat × (Nat → Int32)} {d : Nat} {Q : aO → aH → Prop} {σ : aH} {u : Nat} {i N : Int} (hG : G σ u) (hi : 0 ≤ i ∧ i + 6 ≤ (sc.1 : Int)) (hl : (sc.1 : Int) ≤ 3072) (h : JW sc (d + 1) mL_first mX10_first [.int (nZ (xs sc (i + 1)))] σ N (fun _ => True))
    (next : ∀ σ2 : aH, JE σ σ2 N → wp (Ev sc (d + 1)) 11 cL_law 7 (some .boolean) false [] sc Q 2511 [(0, .ref 1000000), (1, .ref 0), (2, .ref 76), (3, .ref 344), (4, .int (nZ i))] [] σ2) :
    wp (Ev sc (d + 1)) 11 cL_law 7 (some .boolean) false [] sc Q 1062 [(0, .ref 1000000), (1, .ref 0), (2, .ref 76), (3, .ref 344), (4, .int (nZ i))] [] σ := by
  refine w_aload_n dL_law_1062 rfl (List.Mem.tail _ (List.Mem.head _)) ?_
  refine w_aload_n dL_law_1063 rfl (List.Mem.head _) ?_
  refine w_iload dL_law_1064 (List.Mem.tail _ (List.Mem.tail _ (List.Mem.tail _ (List.Mem.tail _ (List.Mem.head _))))) ?_
  refine w_iconst (v := nZ 1) dL_law_1066 (by decide) ?_
  refine i_add dL_law_1067 ?_
  refine i_isld dL_law_1068 (by omega) (by omega) ?_
  refine w_aload_n dL_law_1069 rfl (List.Mem.tail _ (List.Mem.tail _ (List.Mem.tail _ (List.Mem.head _)))) ?_
  obtain ⟨k, r, σ1, σ2, u1, u2, e1, rk, g1, e2, rr, g2, t0, tj, je⟩ := h
  refine w_callW dL_law_1070 mp_11_172 ⟨ok_L_first, st_L_first⟩ hs_L_first (As := [.ref 0, .int (nZ (xs sc (i + 1))), .ref 344]) rfl rfl (Nat.le_of_ble_eq_true rfl) e1 ?_
  show wp (Ev sc (d + 1)) 11 cL_law 7 (some .boolean) false [] sc Q 1073 [(0, .ref 1000000), (1, .ref 0), (2, .ref 76), (3, .ref 344), (4, .int (nZ i))] [.int (nZ k)] σ1
  refine w_istore (l' := [(5, .int (nZ k)), (0, .ref 1000000), (1, .ref 0), (2, .ref 76), (3, .ref 344), (4, .int (nZ i))]) dL_law_1073 (by decide) rfl ?_
  refine w_aload_n dL_law_1075 rfl (List.Mem.tail _ (List.Mem.tail _ (List.Mem.tail _ (List.Mem.head _)))) ?_
  refine w_aload_n dL_law_1076 rfl (List.Mem.tail _ (List.Mem.head _)) ?_
  refine w_iload dL_law_1077 (List.Mem.tail _ (List.Mem.tail _ (List.Mem.tail _ (List.Mem.tail _ (List.Mem.tail _ (List.Mem.head _)))))) ?_
  refine w_iconst (v := nZ 1) dL_law_1079 (by decide) ?_
  refine i_add dL_law_1080 ?_
  refine i_isld dL_law_1081 (by omega) (by omega) ?_
  refine w_callV dL_law_1082 ml_11_174 ⟨ok_X10_first, vi_X10_first⟩ hs_X10_first (As := [.int (nZ (xs sc (i + 1)))]) rfl rfl (gT g1 rfl (lt_of rfl)) (Nat.le_of_ble_eq_true rfl) e2 ?_
  show wp (Ev sc (d + 1)) 11 cL_law 7 (some .boolean) false [] sc Q 1085 [(5, .int (nZ k)), (0, .ref 1000000), (1, .ref 0), (2, .ref 76), (3, .ref 344), (4, .int (nZ i))] [.int (nZ r)] σ2
  refine w_istore (l' := [(6, .int (nZ r)), (5, .int (nZ k)), (0, .ref 1000000), (1, .ref 0), (2, .ref 76), (3, .ref 344), (4, .int (nZ i))]) dL_law_1085 (by decide) rfl ?_
  refine w_aload_n dL_law_1087 rfl (List.Mem.tail _ (List.Mem.tail _ (List.Mem.tail _ (List.Mem.tail _ (List.Mem.head _))))) ?_
  refine w_callV dL_law_1088 ml_11_128 ⟨ok_X10_thrown, vi_X10_thrown⟩ hs_X10_thrown (As := []) rfl rfl (gT g2 rfl (lt_of rfl)) (Nat.le_of_ble_eq_true rfl) (s_thrown g2) ?_
  show wp (Ev sc (d + 1)) 11 cL_law 7 (some .boolean) false [] sc Q 1091 [(6, .int (nZ r)), (5, .int (nZ k)), (0, .ref 1000000), (1, .ref 0), (2, .ref 76), (3, .ref 344), (4, .int (nZ i))] [.int (nZ (rI σ2 76 0))] σ2
  refine w_iload dL_law_1091 (List.Mem.tail _ (List.Mem.head _)) ?_
  refine i_cmp_eq (tgt := 1098) dL_law_1093 rfl (rI_R _ _ _) rk (fun _ => ?_) (fun c9 => absurd t0 c9)
  refine w_iload dL_law_1098 (List.Mem.tail _ (List.Mem.head _)) ?_
  have fin : wp (Ev sc (d + 1)) 11 cL_law 7 (some .boolean) false [] sc Q 1115 [(6, .int (nZ r)), (5, .int (nZ k)), (0, .ref 1000000), (1, .ref 0), (2, .ref 76), (3, .ref 344), (4, .int (nZ i))] [] σ2 := by
    refine w_goto (tgt := 2511) dL_law_1115 rfl ?_
    exact w_weak (l' := [(0, .ref 1000000), (1, .ref 0), (2, .ref 76), (3, .ref 344), (4, .int (nZ i))]) (by intro q hq; simp only [List.mem_cons, List.not_mem_nil, or_false] at hq ⊢; rcases hq with rfl | rfl | rfl | rfl | rfl <;> simp) (next σ2 je)
  refine i_if_ne (tgt := 1115) dL_law_1100 rfl rk (fun _ => fin) (fun c9 => ?_)
  obtain ⟨tj, hb⟩ := tj c9
  refine w_aload_n dL_law_1103 rfl (List.Mem.tail _ (List.Mem.tail _ (List.Mem.tail _ (List.Mem.tail _ (List.Mem.tail _ (List.Mem.head _)))))) ?_
  refine w_iconst (v := nZ 0) dL_law_1104 (by decide) ?_
  refine i_lald (n := 1) dL_law_1105 (gT g2 rfl (lt_of rfl)) (gL g2 rfl) (by decide) (by decide) ?_
  rw [tj]
  refine w_iload dL_law_1106 (List.Mem.head _) ?_
  refine i_2l dL_law_1108 rr ?_
  refine j_cmp dL_law_1109 (by omega) (by omega) ?_
  rw [show (if r < r then (1 : Int) else if r = r then 0 else (-1)) = 0 by rw [if_neg (by omega), if_pos rfl]]
  exact i_if_eq (tgt := 1115) dL_law_1110 rfl (by decide) (fun _ => fin) (fun c8 => absurd rfl c8)
theorem dL_law_1118 : decode cL_law 1118 = .ok (.aload_n 1, 1) := by decide +kernel
theorem dL_law_1119 : decode cL_law 1119 = .ok (.aload_n 0, 1) := by decide +kernel
theorem dL_law_1120 : decode cL_law 1120 = .ok (.iload 4, 2) := by decide +kernel
theorem dL_law_1122 : decode cL_law 1122 = .ok (.iconst 1, 1) := by decide +kernel
theorem dL_law_1123 : decode cL_law 1123 = .ok (.iadd, 1) := by decide +kernel
theorem dL_law_1124 : decode cL_law 1124 = .ok (.iaload, 1) := by decide +kernel
theorem dL_law_1125 : decode cL_law 1125 = .ok (.aload_n 3, 1) := by decide +kernel
theorem dL_law_1126 : decode cL_law 1126 = .ok (.invokestatic 175, 3) := by decide +kernel
theorem dL_law_1129 : decode cL_law 1129 = .ok (.istore 5, 2) := by decide +kernel
theorem dL_law_1131 : decode cL_law 1131 = .ok (.aload_n 2, 1) := by decide +kernel
theorem dL_law_1132 : decode cL_law 1132 = .ok (.aload_n 0, 1) := by decide +kernel
theorem dL_law_1133 : decode cL_law 1133 = .ok (.iload 4, 2) := by decide +kernel
theorem dL_law_1135 : decode cL_law 1135 = .ok (.iconst 1, 1) := by decide +kernel
theorem dL_law_1136 : decode cL_law 1136 = .ok (.iadd, 1) := by decide +kernel
theorem dL_law_1137 : decode cL_law 1137 = .ok (.iaload, 1) := by decide +kernel
theorem dL_law_1138 : decode cL_law 1138 = .ok (.invokevirtual 177, 3) := by decide +kernel
theorem dL_law_1141 : decode cL_law 1141 = .ok (.istore 6, 2) := by decide +kernel
theorem dL_law_1143 : decode cL_law 1143 = .ok (.aload_n 2, 1) := by decide +kernel
theorem dL_law_1144 : decode cL_law 1144 = .ok (.invokevirtual 128, 3) := by decide +kernel
theorem dL_law_1147 : decode cL_law 1147 = .ok (.iload 5, 2) := by decide +kernel
theorem dL_law_1149 : decode cL_law 1149 = .ok (.if_icmp .eq 5, 3) := by decide +kernel
theorem dL_law_1154 : decode cL_law 1154 = .ok (.iload 5, 2) := by decide +kernel
theorem dL_law_1171 : decode cL_law 1171 = .ok (.goto 1340, 3) := by decide +kernel
theorem dL_law_1156 : decode cL_law 1156 = .ok (.ifCond .ne 15, 3) := by decide +kernel
theorem dL_law_1159 : decode cL_law 1159 = .ok (.aload_n 3, 1) := by decide +kernel
theorem dL_law_1160 : decode cL_law 1160 = .ok (.iconst 0, 1) := by decide +kernel
theorem dL_law_1161 : decode cL_law 1161 = .ok (.laload, 1) := by decide +kernel
theorem dL_law_1162 : decode cL_law 1162 = .ok (.iload 6, 2) := by decide +kernel
theorem dL_law_1164 : decode cL_law 1164 = .ok (.i2l, 1) := by decide +kernel
theorem dL_law_1165 : decode cL_law 1165 = .ok (.lcmp, 1) := by decide +kernel
theorem dL_law_1166 : decode cL_law 1166 = .ok (.ifCond .eq 5, 3) := by decide +kernel
set_option maxRecDepth 10000 in
theorem lc_15 {sc : Nat × (Nat → Int32)} {d : Nat} {Q : aO → aH → Prop} {σ : aH} {u : Nat} {i N : Int} (hG : G σ u) (hi : 0 ≤ i ∧ i + 6 ≤ (sc.1 : Int)) (hl : (sc.1 : Int) ≤ 3072) (h : JW sc (d + 1) mL_winter mX10_winter [.int (nZ (xs sc (i + 1)))] σ N (fun _ => True))
    (next : ∀ σ2 : aH, JE σ σ2 N → wp (Ev sc (d + 1)) 11 cL_law 7 (some .boolean) false [] sc Q 2511 [(0, .ref 1000000), (1, .ref 0), (2, .ref 76), (3, .ref 344), (4, .int (nZ i))] [] σ2) :
    wp (Ev sc (d + 1)) 11 cL_law 7 (some .boolean) false [] sc Q 1118 [(0, .ref 1000000), (1, .ref 0), (2, .ref 76), (3, .ref 344), (4, .int (nZ i))] [] σ := by
  refine w_aload_n dL_law_1118 rfl (List.Mem.tail _ (List.Mem.head _)) ?_
  refine w_aload_n dL_law_1119 rfl (List.Mem.head _) ?_
  refine w_iload dL_law_1120 (List.Mem.tail _ (List.Mem.tail _ (List.Mem.tail _ (List.Mem.tail _ (List.Mem.head _))))) ?_
  refine w_iconst (v := nZ 1) dL_law_1122 (by decide) ?_
  refine i_add dL_law_1123 ?_
  refine i_isld dL_law_1124 (by omega) (by omega) ?_
  refine w_aload_n dL_law_1125 rfl (List.Mem.tail _ (List.Mem.tail _ (List.Mem.tail _ (List.Mem.head _)))) ?_
  obtain ⟨k, r, σ1, σ2, u1, u2, e1, rk, g1, e2, rr, g2, t0, tj, je⟩ := h
  refine w_callW dL_law_1126 mp_11_175 ⟨ok_L_winter, st_L_winter⟩ hs_L_winter (As := [.ref 0, .int (nZ (xs sc (i + 1))), .ref 344]) rfl rfl (Nat.le_of_ble_eq_true rfl) e1 ?_
  show wp (Ev sc (d + 1)) 11 cL_law 7 (some .boolean) false [] sc Q 1129 [(0, .ref 1000000), (1, .ref 0), (2, .ref 76), (3, .ref 344), (4, .int (nZ i))] [.int (nZ k)] σ1
  refine w_istore (l' := [(5, .int (nZ k)), (0, .ref 1000000), (1, .ref 0), (2, .ref 76), (3, .ref 344), (4, .int (nZ i))]) dL_law_1129 (by decide) rfl ?_
  refine w_aload_n dL_law_1131 rfl (List.Mem.tail _ (List.Mem.tail _ (List.Mem.tail _ (List.Mem.head _)))) ?_
  refine w_aload_n dL_law_1132 rfl (List.Mem.tail _ (List.Mem.head _)) ?_
  refine w_iload dL_law_1133 (List.Mem.tail _ (List.Mem.tail _ (List.Mem.tail _ (List.Mem.tail _ (List.Mem.tail _ (List.Mem.head _)))))) ?_
  refine w_iconst (v := nZ 1) dL_law_1135 (by decide) ?_
  refine i_add dL_law_1136 ?_
  refine i_isld dL_law_1137 (by omega) (by omega) ?_
  refine w_callV dL_law_1138 ml_11_177 ⟨ok_X10_winter, vi_X10_winter⟩ hs_X10_winter (As := [.int (nZ (xs sc (i + 1)))]) rfl rfl (gT g1 rfl (lt_of rfl)) (Nat.le_of_ble_eq_true rfl) e2 ?_
  show wp (Ev sc (d + 1)) 11 cL_law 7 (some .boolean) false [] sc Q 1141 [(5, .int (nZ k)), (0, .ref 1000000), (1, .ref 0), (2, .ref 76), (3, .ref 344), (4, .int (nZ i))] [.int (nZ r)] σ2
  refine w_istore (l' := [(6, .int (nZ r)), (5, .int (nZ k)), (0, .ref 1000000), (1, .ref 0), (2, .ref 76), (3, .ref 344), (4, .int (nZ i))]) dL_law_1141 (by decide) rfl ?_
  refine w_aload_n dL_law_1143 rfl (List.Mem.tail _ (List.Mem.tail _ (List.Mem.tail _ (List.Mem.tail _ (List.Mem.head _))))) ?_
  refine w_callV dL_law_1144 ml_11_128 ⟨ok_X10_thrown, vi_X10_thrown⟩ hs_X10_thrown (As := []) rfl rfl (gT g2 rfl (lt_of rfl)) (Nat.le_of_ble_eq_true rfl) (s_thrown g2) ?_
  show wp (Ev sc (d + 1)) 11 cL_law 7 (some .boolean) false [] sc Q 1147 [(6, .int (nZ r)), (5, .int (nZ k)), (0, .ref 1000000), (1, .ref 0), (2, .ref 76), (3, .ref 344), (4, .int (nZ i))] [.int (nZ (rI σ2 76 0))] σ2
  refine w_iload dL_law_1147 (List.Mem.tail _ (List.Mem.head _)) ?_
  refine i_cmp_eq (tgt := 1154) dL_law_1149 rfl (rI_R _ _ _) rk (fun _ => ?_) (fun c9 => absurd t0 c9)
  refine w_iload dL_law_1154 (List.Mem.tail _ (List.Mem.head _)) ?_
  have fin : wp (Ev sc (d + 1)) 11 cL_law 7 (some .boolean) false [] sc Q 1171 [(6, .int (nZ r)), (5, .int (nZ k)), (0, .ref 1000000), (1, .ref 0), (2, .ref 76), (3, .ref 344), (4, .int (nZ i))] [] σ2 := by
    refine w_goto (tgt := 2511) dL_law_1171 rfl ?_
    exact w_weak (l' := [(0, .ref 1000000), (1, .ref 0), (2, .ref 76), (3, .ref 344), (4, .int (nZ i))]) (by intro q hq; simp only [List.mem_cons, List.not_mem_nil, or_false] at hq ⊢; rcases hq with rfl | rfl | rfl | rfl | rfl <;> simp) (next σ2 je)
  refine i_if_ne (tgt := 1171) dL_law_1156 rfl rk (fun _ => fin) (fun c9 => ?_)
  obtain ⟨tj, hb⟩ := tj c9
  refine w_aload_n dL_law_1159 rfl (List.Mem.tail _ (List.Mem.tail _ (List.Mem.tail _ (List.Mem.tail _ (List.Mem.tail _ (List.Mem.head _)))))) ?_
  refine w_iconst (v := nZ 0) dL_law_1160 (by decide) ?_
  refine i_lald (n := 1) dL_law_1161 (gT g2 rfl (lt_of rfl)) (gL g2 rfl) (by decide) (by decide) ?_
  rw [tj]
  refine w_iload dL_law_1162 (List.Mem.head _) ?_
  refine i_2l dL_law_1164 rr ?_
  refine j_cmp dL_law_1165 (by omega) (by omega) ?_
  rw [show (if r < r then (1 : Int) else if r = r then 0 else (-1)) = 0 by rw [if_neg (by omega), if_pos rfl]]
  exact i_if_eq (tgt := 1171) dL_law_1166 rfl (by decide) (fun _ => fin) (fun c8 => absurd rfl c8)
theorem dL_law_1174 : decode cL_law 1174 = .ok (.aload_n 1, 1) := by decide +kernel
theorem dL_law_1175 : decode cL_law 1175 = .ok (.aload_n 0, 1) := by decide +kernel
theorem dL_law_1176 : decode cL_law 1176 = .ok (.iload 4, 2) := by decide +kernel
theorem dL_law_1178 : decode cL_law 1178 = .ok (.iconst 1, 1) := by decide +kernel
theorem dL_law_1179 : decode cL_law 1179 = .ok (.iadd, 1) := by decide +kernel
theorem dL_law_1180 : decode cL_law 1180 = .ok (.iaload, 1) := by decide +kernel
theorem dL_law_1181 : decode cL_law 1181 = .ok (.aload_n 0, 1) := by decide +kernel
theorem dL_law_1182 : decode cL_law 1182 = .ok (.iload 4, 2) := by decide +kernel
theorem dL_law_1184 : decode cL_law 1184 = .ok (.iconst 2, 1) := by decide +kernel
theorem dL_law_1185 : decode cL_law 1185 = .ok (.iadd, 1) := by decide +kernel
theorem dL_law_1186 : decode cL_law 1186 = .ok (.iaload, 1) := by decide +kernel
theorem dL_law_1187 : decode cL_law 1187 = .ok (.aload_n 0, 1) := by decide +kernel
theorem dL_law_1188 : decode cL_law 1188 = .ok (.iload 4, 2) := by decide +kernel
theorem dL_law_1190 : decode cL_law 1190 = .ok (.iconst 3, 1) := by decide +kernel
theorem dL_law_1191 : decode cL_law 1191 = .ok (.iadd, 1) := by decide +kernel
theorem dL_law_1192 : decode cL_law 1192 = .ok (.iaload, 1) := by decide +kernel
theorem dL_law_1193 : decode cL_law 1193 = .ok (.aload_n 3, 1) := by decide +kernel
theorem dL_law_1194 : decode cL_law 1194 = .ok (.invokestatic 178, 3) := by decide +kernel
theorem dL_law_1197 : decode cL_law 1197 = .ok (.istore 5, 2) := by decide +kernel
theorem dL_law_1199 : decode cL_law 1199 = .ok (.aload_n 2, 1) := by decide +kernel
theorem dL_law_1200 : decode cL_law 1200 = .ok (.aload_n 0, 1) := by decide +kernel
theorem dL_law_1201 : decode cL_law 1201 = .ok (.iload 4, 2) := by decide +kernel
theorem dL_law_1203 : decode cL_law 1203 = .ok (.iconst 1, 1) := by decide +kernel
theorem dL_law_1204 : decode cL_law 1204 = .ok (.iadd, 1) := by decide +kernel
theorem dL_law_1205 : decode cL_law 1205 = .ok (.iaload, 1) := by decide +kernel
theorem dL_law_1206 : decode cL_law 1206 = .ok (.aload_n 0, 1) := by decide +kernel
theorem dL_law_1207 : decode cL_law 1207 = .ok (.iload 4, 2) := by decide +kernel
theorem dL_law_1209 : decode cL_law 1209 = .ok (.iconst 2, 1) := by decide +kernel
theorem dL_law_1210 : decode cL_law 1210 = .ok (.iadd, 1) := by decide +kernel
theorem dL_law_1211 : decode cL_law 1211 = .ok (.iaload, 1) := by decide +kernel
theorem dL_law_1212 : decode cL_law 1212 = .ok (.aload_n 0, 1) := by decide +kernel
theorem dL_law_1213 : decode cL_law 1213 = .ok (.iload 4, 2) := by decide +kernel
theorem dL_law_1215 : decode cL_law 1215 = .ok (.iconst 3, 1) := by decide +kernel
theorem dL_law_1216 : decode cL_law 1216 = .ok (.iadd, 1) := by decide +kernel
theorem dL_law_1217 : decode cL_law 1217 = .ok (.iaload, 1) := by decide +kernel
theorem dL_law_1218 : decode cL_law 1218 = .ok (.invokevirtual 180, 3) := by decide +kernel
theorem dL_law_1221 : decode cL_law 1221 = .ok (.istore 6, 2) := by decide +kernel
theorem dL_law_1223 : decode cL_law 1223 = .ok (.aload_n 2, 1) := by decide +kernel
theorem dL_law_1224 : decode cL_law 1224 = .ok (.invokevirtual 128, 3) := by decide +kernel
theorem dL_law_1227 : decode cL_law 1227 = .ok (.iload 5, 2) := by decide +kernel
theorem dL_law_1229 : decode cL_law 1229 = .ok (.if_icmp .eq 5, 3) := by decide +kernel
theorem dL_law_1234 : decode cL_law 1234 = .ok (.iload 5, 2) := by decide +kernel
theorem dL_law_1251 : decode cL_law 1251 = .ok (.goto 1260, 3) := by decide +kernel
theorem dL_law_1236 : decode cL_law 1236 = .ok (.ifCond .ne 15, 3) := by decide +kernel
theorem dL_law_1239 : decode cL_law 1239 = .ok (.aload_n 3, 1) := by decide +kernel
theorem dL_law_1240 : decode cL_law 1240 = .ok (.iconst 0, 1) := by decide +kernel
theorem dL_law_1241 : decode cL_law 1241 = .ok (.laload, 1) := by decide +kernel
theorem dL_law_1242 : decode cL_law 1242 = .ok (.iload 6, 2) := by decide +kernel
theorem dL_law_1244 : decode cL_law 1244 = .ok (.i2l, 1) := by decide +kernel
theorem dL_law_1245 : decode cL_law 1245 = .ok (.lcmp, 1) := by decide +kernel
theorem dL_law_1246 : decode cL_law 1246 = .ok (.ifCond .eq 5, 3) := by decide +kernel
set_option maxRecDepth 10000 in
theorem lc_16 {sc : Nat × (Nat → Int32)} {d : Nat} {Q : aO → aH → Prop} {σ : aH} {u : Nat} {i N : Int} (hG : G σ u) (hi : 0 ≤ i ∧ i + 6 ≤ (sc.1 : Int)) (hl : (sc.1 : Int) ≤ 3072) (h : JW sc (d + 1) mL_move mX10_move [.int (nZ (xs sc (i + 1))), .int (nZ (xs sc (i + 2))), .int (nZ (xs sc (i + 3)))] σ N (fun _ => True))
    (next : ∀ σ2 : aH, JE σ σ2 N → wp (Ev sc (d + 1)) 11 cL_law 7 (some .boolean) false [] sc Q 2511 [(0, .ref 1000000), (1, .ref 0), (2, .ref 76), (3, .ref 344), (4, .int (nZ i))] [] σ2) :
    wp (Ev sc (d + 1)) 11 cL_law 7 (some .boolean) false [] sc Q 1174 [(0, .ref 1000000), (1, .ref 0), (2, .ref 76), (3, .ref 344), (4, .int (nZ i))] [] σ := by
  refine w_aload_n dL_law_1174 rfl (List.Mem.tail _ (List.Mem.head _)) ?_
  refine w_aload_n dL_law_1175 rfl (List.Mem.head _) ?_
  refine w_iload dL_law_1176 (List.Mem.tail _ (List.Mem.tail _ (List.Mem.tail _ (List.Mem.tail _ (List.Mem.head _))))) ?_
  refine w_iconst (v := nZ 1) dL_law_1178 (by decide) ?_
  refine i_add dL_law_1179 ?_
  refine i_isld dL_law_1180 (by omega) (by omega) ?_
  refine w_aload_n dL_law_1181 rfl (List.Mem.head _) ?_
  refine w_iload dL_law_1182 (List.Mem.tail _ (List.Mem.tail _ (List.Mem.tail _ (List.Mem.tail _ (List.Mem.head _))))) ?_
  refine w_iconst (v := nZ 2) dL_law_1184 (by decide) ?_
  refine i_add dL_law_1185 ?_
  refine i_isld dL_law_1186 (by omega) (by omega) ?_
  refine w_aload_n dL_law_1187 rfl (List.Mem.head _) ?_
  refine w_iload dL_law_1188 (List.Mem.tail _ (List.Mem.tail _ (List.Mem.tail _ (List.Mem.tail _ (List.Mem.head _))))) ?_
  refine w_iconst (v := nZ 3) dL_law_1190 (by decide) ?_
  refine i_add dL_law_1191 ?_
  refine i_isld dL_law_1192 (by omega) (by omega) ?_
  refine w_aload_n dL_law_1193 rfl (List.Mem.tail _ (List.Mem.tail _ (List.Mem.tail _ (List.Mem.head _)))) ?_
  obtain ⟨k, r, σ1, σ2, u1, u2, e1, rk, g1, e2, rr, g2, t0, tj, je⟩ := h
  refine w_callW dL_law_1194 mp_11_178 ⟨ok_L_move, st_L_move⟩ hs_L_move (As := [.ref 0, .int (nZ (xs sc (i + 1))), .int (nZ (xs sc (i + 2))), .int (nZ (xs sc (i + 3))), .ref 344]) rfl rfl (Nat.le_of_ble_eq_true rfl) e1 ?_
  show wp (Ev sc (d + 1)) 11 cL_law 7 (some .boolean) false [] sc Q 1197 [(0, .ref 1000000), (1, .ref 0), (2, .ref 76), (3, .ref 344), (4, .int (nZ i))] [.int (nZ k)] σ1
  refine w_istore (l' := [(5, .int (nZ k)), (0, .ref 1000000), (1, .ref 0), (2, .ref 76), (3, .ref 344), (4, .int (nZ i))]) dL_law_1197 (by decide) rfl ?_
  refine w_aload_n dL_law_1199 rfl (List.Mem.tail _ (List.Mem.tail _ (List.Mem.tail _ (List.Mem.head _)))) ?_
  refine w_aload_n dL_law_1200 rfl (List.Mem.tail _ (List.Mem.head _)) ?_
  refine w_iload dL_law_1201 (List.Mem.tail _ (List.Mem.tail _ (List.Mem.tail _ (List.Mem.tail _ (List.Mem.tail _ (List.Mem.head _)))))) ?_
  refine w_iconst (v := nZ 1) dL_law_1203 (by decide) ?_
  refine i_add dL_law_1204 ?_
  refine i_isld dL_law_1205 (by omega) (by omega) ?_
  refine w_aload_n dL_law_1206 rfl (List.Mem.tail _ (List.Mem.head _)) ?_
  refine w_iload dL_law_1207 (List.Mem.tail _ (List.Mem.tail _ (List.Mem.tail _ (List.Mem.tail _ (List.Mem.tail _ (List.Mem.head _)))))) ?_
  refine w_iconst (v := nZ 2) dL_law_1209 (by decide) ?_
  refine i_add dL_law_1210 ?_
  refine i_isld dL_law_1211 (by omega) (by omega) ?_
  refine w_aload_n dL_law_1212 rfl (List.Mem.tail _ (List.Mem.head _)) ?_
  refine w_iload dL_law_1213 (List.Mem.tail _ (List.Mem.tail _ (List.Mem.tail _ (List.Mem.tail _ (List.Mem.tail _ (List.Mem.head _)))))) ?_
  refine w_iconst (v := nZ 3) dL_law_1215 (by decide) ?_
  refine i_add dL_law_1216 ?_
  refine i_isld dL_law_1217 (by omega) (by omega) ?_
  refine w_callV dL_law_1218 ml_11_180 ⟨ok_X10_move, vi_X10_move⟩ hs_X10_move (As := [.int (nZ (xs sc (i + 1))), .int (nZ (xs sc (i + 2))), .int (nZ (xs sc (i + 3)))]) rfl rfl (gT g1 rfl (lt_of rfl)) (Nat.le_of_ble_eq_true rfl) e2 ?_
  show wp (Ev sc (d + 1)) 11 cL_law 7 (some .boolean) false [] sc Q 1221 [(5, .int (nZ k)), (0, .ref 1000000), (1, .ref 0), (2, .ref 76), (3, .ref 344), (4, .int (nZ i))] [.int (nZ r)] σ2
  refine w_istore (l' := [(6, .int (nZ r)), (5, .int (nZ k)), (0, .ref 1000000), (1, .ref 0), (2, .ref 76), (3, .ref 344), (4, .int (nZ i))]) dL_law_1221 (by decide) rfl ?_
  refine w_aload_n dL_law_1223 rfl (List.Mem.tail _ (List.Mem.tail _ (List.Mem.tail _ (List.Mem.tail _ (List.Mem.head _))))) ?_
  refine w_callV dL_law_1224 ml_11_128 ⟨ok_X10_thrown, vi_X10_thrown⟩ hs_X10_thrown (As := []) rfl rfl (gT g2 rfl (lt_of rfl)) (Nat.le_of_ble_eq_true rfl) (s_thrown g2) ?_
  show wp (Ev sc (d + 1)) 11 cL_law 7 (some .boolean) false [] sc Q 1227 [(6, .int (nZ r)), (5, .int (nZ k)), (0, .ref 1000000), (1, .ref 0), (2, .ref 76), (3, .ref 344), (4, .int (nZ i))] [.int (nZ (rI σ2 76 0))] σ2
  refine w_iload dL_law_1227 (List.Mem.tail _ (List.Mem.head _)) ?_
  refine i_cmp_eq (tgt := 1234) dL_law_1229 rfl (rI_R _ _ _) rk (fun _ => ?_) (fun c9 => absurd t0 c9)
  refine w_iload dL_law_1234 (List.Mem.tail _ (List.Mem.head _)) ?_
  have fin : wp (Ev sc (d + 1)) 11 cL_law 7 (some .boolean) false [] sc Q 1251 [(6, .int (nZ r)), (5, .int (nZ k)), (0, .ref 1000000), (1, .ref 0), (2, .ref 76), (3, .ref 344), (4, .int (nZ i))] [] σ2 := by
    refine w_goto (tgt := 2511) dL_law_1251 rfl ?_
    exact w_weak (l' := [(0, .ref 1000000), (1, .ref 0), (2, .ref 76), (3, .ref 344), (4, .int (nZ i))]) (by intro q hq; simp only [List.mem_cons, List.not_mem_nil, or_false] at hq ⊢; rcases hq with rfl | rfl | rfl | rfl | rfl <;> simp) (next σ2 je)
  refine i_if_ne (tgt := 1251) dL_law_1236 rfl rk (fun _ => fin) (fun c9 => ?_)
  obtain ⟨tj, hb⟩ := tj c9
  refine w_aload_n dL_law_1239 rfl (List.Mem.tail _ (List.Mem.tail _ (List.Mem.tail _ (List.Mem.tail _ (List.Mem.tail _ (List.Mem.head _)))))) ?_
  refine w_iconst (v := nZ 0) dL_law_1240 (by decide) ?_
  refine i_lald (n := 1) dL_law_1241 (gT g2 rfl (lt_of rfl)) (gL g2 rfl) (by decide) (by decide) ?_
  rw [tj]
  refine w_iload dL_law_1242 (List.Mem.head _) ?_
  refine i_2l dL_law_1244 rr ?_
  refine j_cmp dL_law_1245 (by omega) (by omega) ?_
  rw [show (if r < r then (1 : Int) else if r = r then 0 else (-1)) = 0 by rw [if_neg (by omega), if_pos rfl]]
  exact i_if_eq (tgt := 1251) dL_law_1246 rfl (by decide) (fun _ => fin) (fun c8 => absurd rfl c8)
theorem dL_law_1254 : decode cL_law 1254 = .ok (.aload_n 1, 1) := by decide +kernel
theorem dL_law_1255 : decode cL_law 1255 = .ok (.aload_n 0, 1) := by decide +kernel
theorem dL_law_1256 : decode cL_law 1256 = .ok (.iload 4, 2) := by decide +kernel
theorem dL_law_1258 : decode cL_law 1258 = .ok (.iconst 1, 1) := by decide +kernel
theorem dL_law_1259 : decode cL_law 1259 = .ok (.iadd, 1) := by decide +kernel
theorem dL_law_1260 : decode cL_law 1260 = .ok (.iaload, 1) := by decide +kernel
theorem dL_law_1261 : decode cL_law 1261 = .ok (.aload_n 0, 1) := by decide +kernel
theorem dL_law_1262 : decode cL_law 1262 = .ok (.iload 4, 2) := by decide +kernel
theorem dL_law_1264 : decode cL_law 1264 = .ok (.iconst 2, 1) := by decide +kernel
theorem dL_law_1265 : decode cL_law 1265 = .ok (.iadd, 1) := by decide +kernel
theorem dL_law_1266 : decode cL_law 1266 = .ok (.iaload, 1) := by decide +kernel
theorem dL_law_1267 : decode cL_law 1267 = .ok (.aload_n 3, 1) := by decide +kernel
theorem dL_law_1268 : decode cL_law 1268 = .ok (.invokestatic 181, 3) := by decide +kernel
theorem dL_law_1271 : decode cL_law 1271 = .ok (.istore 5, 2) := by decide +kernel
theorem dL_law_1273 : decode cL_law 1273 = .ok (.aload_n 2, 1) := by decide +kernel
theorem dL_law_1274 : decode cL_law 1274 = .ok (.aload_n 0, 1) := by decide +kernel
theorem dL_law_1275 : decode cL_law 1275 = .ok (.iload 4, 2) := by decide +kernel
theorem dL_law_1277 : decode cL_law 1277 = .ok (.iconst 1, 1) := by decide +kernel
theorem dL_law_1278 : decode cL_law 1278 = .ok (.iadd, 1) := by decide +kernel
theorem dL_law_1279 : decode cL_law 1279 = .ok (.iaload, 1) := by decide +kernel
theorem dL_law_1280 : decode cL_law 1280 = .ok (.aload_n 0, 1) := by decide +kernel
theorem dL_law_1281 : decode cL_law 1281 = .ok (.iload 4, 2) := by decide +kernel
theorem dL_law_1283 : decode cL_law 1283 = .ok (.iconst 2, 1) := by decide +kernel
theorem dL_law_1284 : decode cL_law 1284 = .ok (.iadd, 1) := by decide +kernel
theorem dL_law_1285 : decode cL_law 1285 = .ok (.iaload, 1) := by decide +kernel
theorem dL_law_1286 : decode cL_law 1286 = .ok (.invokevirtual 183, 3) := by decide +kernel
theorem dL_law_1289 : decode cL_law 1289 = .ok (.istore 6, 2) := by decide +kernel
theorem dL_law_1291 : decode cL_law 1291 = .ok (.aload_n 2, 1) := by decide +kernel
theorem dL_law_1292 : decode cL_law 1292 = .ok (.invokevirtual 128, 3) := by decide +kernel
theorem dL_law_1295 : decode cL_law 1295 = .ok (.iload 5, 2) := by decide +kernel
theorem dL_law_1297 : decode cL_law 1297 = .ok (.if_icmp .eq 5, 3) := by decide +kernel
theorem dL_law_1302 : decode cL_law 1302 = .ok (.iload 5, 2) := by decide +kernel
theorem dL_law_1319 : decode cL_law 1319 = .ok (.goto 1192, 3) := by decide +kernel
theorem dL_law_1304 : decode cL_law 1304 = .ok (.ifCond .ne 15, 3) := by decide +kernel
theorem dL_law_1307 : decode cL_law 1307 = .ok (.aload_n 3, 1) := by decide +kernel
theorem dL_law_1308 : decode cL_law 1308 = .ok (.iconst 0, 1) := by decide +kernel
theorem dL_law_1309 : decode cL_law 1309 = .ok (.laload, 1) := by decide +kernel
theorem dL_law_1310 : decode cL_law 1310 = .ok (.iload 6, 2) := by decide +kernel
theorem dL_law_1312 : decode cL_law 1312 = .ok (.i2l, 1) := by decide +kernel
theorem dL_law_1313 : decode cL_law 1313 = .ok (.lcmp, 1) := by decide +kernel
theorem dL_law_1314 : decode cL_law 1314 = .ok (.ifCond .eq 5, 3) := by decide +kernel
set_option maxRecDepth 10000 in
theorem lc_17 {sc : Nat × (Nat → Int32)} {d : Nat} {Q : aO → aH → Prop} {σ : aH} {u : Nat} {i N : Int} (hG : G σ u) (hi : 0 ≤ i ∧ i + 6 ≤ (sc.1 : Int)) (hl : (sc.1 : Int) ≤ 3072) (h : JW sc (d + 1) mL_tall mX10_tall [.int (nZ (xs sc (i + 1))), .int (nZ (xs sc (i + 2)))] σ N (fun _ => True))
    (next : ∀ σ2 : aH, JE σ σ2 N → wp (Ev sc (d + 1)) 11 cL_law 7 (some .boolean) false [] sc Q 2511 [(0, .ref 1000000), (1, .ref 0), (2, .ref 76), (3, .ref 344), (4, .int (nZ i))] [] σ2) :
    wp (Ev sc (d + 1)) 11 cL_law 7 (some .boolean) false [] sc Q 1254 [(0, .ref 1000000), (1, .ref 0), (2, .ref 76), (3, .ref 344), (4, .int (nZ i))] [] σ := by
  refine w_aload_n dL_law_1254 rfl (List.Mem.tail _ (List.Mem.head _)) ?_
  refine w_aload_n dL_law_1255 rfl (List.Mem.head _) ?_
  refine w_iload dL_law_1256 (List.Mem.tail _ (List.Mem.tail _ (List.Mem.tail _ (List.Mem.tail _ (List.Mem.head _))))) ?_
  refine w_iconst (v := nZ 1) dL_law_1258 (by decide) ?_
  refine i_add dL_law_1259 ?_
  refine i_isld dL_law_1260 (by omega) (by omega) ?_
  refine w_aload_n dL_law_1261 rfl (List.Mem.head _) ?_
  refine w_iload dL_law_1262 (List.Mem.tail _ (List.Mem.tail _ (List.Mem.tail _ (List.Mem.tail _ (List.Mem.head _))))) ?_
  refine w_iconst (v := nZ 2) dL_law_1264 (by decide) ?_
  refine i_add dL_law_1265 ?_
  refine i_isld dL_law_1266 (by omega) (by omega) ?_
  refine w_aload_n dL_law_1267 rfl (List.Mem.tail _ (List.Mem.tail _ (List.Mem.tail _ (List.Mem.head _)))) ?_
  obtain ⟨k, r, σ1, σ2, u1, u2, e1, rk, g1, e2, rr, g2, t0, tj, je⟩ := h
  refine w_callW dL_law_1268 mp_11_181 ⟨ok_L_tall, st_L_tall⟩ hs_L_tall (As := [.ref 0, .int (nZ (xs sc (i + 1))), .int (nZ (xs sc (i + 2))), .ref 344]) rfl rfl (Nat.le_of_ble_eq_true rfl) e1 ?_
  show wp (Ev sc (d + 1)) 11 cL_law 7 (some .boolean) false [] sc Q 1271 [(0, .ref 1000000), (1, .ref 0), (2, .ref 76), (3, .ref 344), (4, .int (nZ i))] [.int (nZ k)] σ1
  refine w_istore (l' := [(5, .int (nZ k)), (0, .ref 1000000), (1, .ref 0), (2, .ref 76), (3, .ref 344), (4, .int (nZ i))]) dL_law_1271 (by decide) rfl ?_
  refine w_aload_n dL_law_1273 rfl (List.Mem.tail _ (List.Mem.tail _ (List.Mem.tail _ (List.Mem.head _)))) ?_
  refine w_aload_n dL_law_1274 rfl (List.Mem.tail _ (List.Mem.head _)) ?_
  refine w_iload dL_law_1275 (List.Mem.tail _ (List.Mem.tail _ (List.Mem.tail _ (List.Mem.tail _ (List.Mem.tail _ (List.Mem.head _)))))) ?_
  refine w_iconst (v := nZ 1) dL_law_1277 (by decide) ?_
  refine i_add dL_law_1278 ?_
  refine i_isld dL_law_1279 (by omega) (by omega) ?_
  refine w_aload_n dL_law_1280 rfl (List.Mem.tail _ (List.Mem.head _)) ?_
  refine w_iload dL_law_1281 (List.Mem.tail _ (List.Mem.tail _ (List.Mem.tail _ (List.Mem.tail _ (List.Mem.tail _ (List.Mem.head _)))))) ?_
  refine w_iconst (v := nZ 2) dL_law_1283 (by decide) ?_
  refine i_add dL_law_1284 ?_
  refine i_isld dL_law_1285 (by omega) (by omega) ?_
  refine w_callV dL_law_1286 ml_11_183 ⟨ok_X10_tall, vi_X10_tall⟩ hs_X10_tall (As := [.int (nZ (xs sc (i + 1))), .int (nZ (xs sc (i + 2)))]) rfl rfl (gT g1 rfl (lt_of rfl)) (Nat.le_of_ble_eq_true rfl) e2 ?_
  show wp (Ev sc (d + 1)) 11 cL_law 7 (some .boolean) false [] sc Q 1289 [(5, .int (nZ k)), (0, .ref 1000000), (1, .ref 0), (2, .ref 76), (3, .ref 344), (4, .int (nZ i))] [.int (nZ r)] σ2
  refine w_istore (l' := [(6, .int (nZ r)), (5, .int (nZ k)), (0, .ref 1000000), (1, .ref 0), (2, .ref 76), (3, .ref 344), (4, .int (nZ i))]) dL_law_1289 (by decide) rfl ?_
  refine w_aload_n dL_law_1291 rfl (List.Mem.tail _ (List.Mem.tail _ (List.Mem.tail _ (List.Mem.tail _ (List.Mem.head _))))) ?_
  refine w_callV dL_law_1292 ml_11_128 ⟨ok_X10_thrown, vi_X10_thrown⟩ hs_X10_thrown (As := []) rfl rfl (gT g2 rfl (lt_of rfl)) (Nat.le_of_ble_eq_true rfl) (s_thrown g2) ?_
  show wp (Ev sc (d + 1)) 11 cL_law 7 (some .boolean) false [] sc Q 1295 [(6, .int (nZ r)), (5, .int (nZ k)), (0, .ref 1000000), (1, .ref 0), (2, .ref 76), (3, .ref 344), (4, .int (nZ i))] [.int (nZ (rI σ2 76 0))] σ2
  refine w_iload dL_law_1295 (List.Mem.tail _ (List.Mem.head _)) ?_
  refine i_cmp_eq (tgt := 1302) dL_law_1297 rfl (rI_R _ _ _) rk (fun _ => ?_) (fun c9 => absurd t0 c9)
  refine w_iload dL_law_1302 (List.Mem.tail _ (List.Mem.head _)) ?_
  have fin : wp (Ev sc (d + 1)) 11 cL_law 7 (some .boolean) false [] sc Q 1319 [(6, .int (nZ r)), (5, .int (nZ k)), (0, .ref 1000000), (1, .ref 0), (2, .ref 76), (3, .ref 344), (4, .int (nZ i))] [] σ2 := by
    refine w_goto (tgt := 2511) dL_law_1319 rfl ?_
    exact w_weak (l' := [(0, .ref 1000000), (1, .ref 0), (2, .ref 76), (3, .ref 344), (4, .int (nZ i))]) (by intro q hq; simp only [List.mem_cons, List.not_mem_nil, or_false] at hq ⊢; rcases hq with rfl | rfl | rfl | rfl | rfl <;> simp) (next σ2 je)
  refine i_if_ne (tgt := 1319) dL_law_1304 rfl rk (fun _ => fin) (fun c9 => ?_)
  obtain ⟨tj, hb⟩ := tj c9
  refine w_aload_n dL_law_1307 rfl (List.Mem.tail _ (List.Mem.tail _ (List.Mem.tail _ (List.Mem.tail _ (List.Mem.tail _ (List.Mem.head _)))))) ?_
  refine w_iconst (v := nZ 0) dL_law_1308 (by decide) ?_
  refine i_lald (n := 1) dL_law_1309 (gT g2 rfl (lt_of rfl)) (gL g2 rfl) (by decide) (by decide) ?_
  rw [tj]
  refine w_iload dL_law_1310 (List.Mem.head _) ?_
  refine i_2l dL_law_1312 rr ?_
  refine j_cmp dL_law_1313 (by omega) (by omega) ?_
  rw [show (if r < r then (1 : Int) else if r = r then 0 else (-1)) = 0 by rw [if_neg (by omega), if_pos rfl]]
  exact i_if_eq (tgt := 1319) dL_law_1314 rfl (by decide) (fun _ => fin) (fun c8 => absurd rfl c8)
