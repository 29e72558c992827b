theorem dL_law_1937 : decode cL_law 1937 = .ok (.aload_n 1, 1) := by decide +kernel
theorem dL_law_1938 : decode cL_law 1938 = .ok (.aload_n 0, 1) := by decide +kernel
theorem dL_law_1939 : decode cL_law 1939 = .ok (.iload 4, 2) := by decide +kernel
theorem dL_law_1941 : decode cL_law 1941 = .ok (.iconst 1, 1) := by decide +kernel
theorem dL_law_1942 : decode cL_law 1942 = .ok (.iadd, 1) := by decide +kernel
theorem dL_law_1943 : decode cL_law 1943 = .ok (.iaload, 1) := by decide +kernel
theorem dL_law_1944 : decode cL_law 1944 = .ok (.aload_n 0, 1) := by decide +kernel
theorem dL_law_1945 : decode cL_law 1945 = .ok (.iload 4, 2) := by decide +kernel
theorem dL_law_1947 : decode cL_law 1947 = .ok (.iconst 2, 1) := by decide +kernel
theorem dL_law_1948 : decode cL_law 1948 = .ok (.iadd, 1) := by decide +kernel
theorem dL_law_1949 : decode cL_law 1949 = .ok (.iaload, 1) := by decide +kernel
theorem dL_law_1950 : decode cL_law 1950 = .ok (.aload_n 3, 1) := by decide +kernel
theorem dL_law_1951 : decode cL_law 1951 = .ok (.invokestatic 223, 3) := by decide +kernel
theorem dL_law_1954 : decode cL_law 1954 = .ok (.istore 5, 2) := by decide +kernel
theorem dL_law_1956 : decode cL_law 1956 = .ok (.aload_n 2, 1) := by decide +kernel
theorem dL_law_1957 : decode cL_law 1957 = .ok (.aload_n 0, 1) := by decide +kernel
theorem dL_law_1958 : decode cL_law 1958 = .ok (.iload 4, 2) := by decide +kernel
theorem dL_law_1960 : decode cL_law 1960 = .ok (.iconst 1, 1) := by decide +kernel
theorem dL_law_1961 : decode cL_law 1961 = .ok (.iadd, 1) := by decide +kernel
theorem dL_law_1962 : decode cL_law 1962 = .ok (.iaload, 1) := by decide +kernel
theorem dL_law_1963 : decode cL_law 1963 = .ok (.aload_n 0, 1) := by decide +kernel
theorem dL_law_1964 : decode cL_law 1964 = .ok (.iload 4, 2) := by decide +kernel
theorem dL_law_1966 : decode cL_law 1966 = .ok (.iconst 2, 1) := by decide +kernel
theorem dL_law_1967 : decode cL_law 1967 = .ok (.iadd, 1) := by decide +kernel
theorem dL_law_1968 : decode cL_law 1968 = .ok (.iaload, 1) := by decide +kernel
theorem dL_law_1969 : decode cL_law 1969 = .ok (.invokevirtual 225, 3) := by decide +kernel
theorem dL_law_1972 : decode cL_law 1972 = .ok (.istore 6, 2) := by decide +kernel
theorem dL_law_1974 : decode cL_law 1974 = .ok (.aload_n 2, 1) := by decide +kernel
theorem dL_law_1975 : decode cL_law 1975 = .ok (.invokevirtual 128, 3) := by decide +kernel
theorem dL_law_1978 : decode cL_law 1978 = .ok (.iload 5, 2) := by decide +kernel
theorem dL_law_1980 : decode cL_law 1980 = .ok (.if_icmp .eq 5, 3) := by decide +kernel
theorem dL_law_1985 : decode cL_law 1985 = .ok (.iload 5, 2) := by decide +kernel
theorem dL_law_2002 : decode cL_law 2002 = .ok (.goto 509, 3) := by decide +kernel
theorem dL_law_1987 : decode cL_law 1987 = .ok (.ifCond .ne 15, 3) := by decide +kernel
theorem dL_law_1990 : decode cL_law 1990 = .ok (.aload_n 3, 1) := by decide +kernel
theorem dL_law_1991 : decode cL_law 1991 = .ok (.iconst 0, 1) := by decide +kernel
theorem dL_law_1992 : decode cL_law 1992 = .ok (.laload, 1) := by decide +kernel
theorem dL_law_1993 : decode cL_law 1993 = .ok (.iload 6, 2) := by decide +kernel
theorem dL_law_1995 : decode cL_law 1995 = .ok (.i2l, 1) := by decide +kernel
theorem dL_law_1996 : decode cL_law 1996 = .ok (.lcmp, 1) := by decide +kernel
theorem dL_law_1997 : decode cL_law 1997 = .ok (.ifCond .eq 5, 3) := by decide +kernel
set_option maxRecDepth 10000 in
theorem lc_30 {sc : Nat × (Nat → Int32)} {d : Nat} {Q : aO → aH → Prop} {σ : aH} {u : Nat} {i N : Int} (hG : G σ u) (hi : 0 ≤ i ∧ i + 6 ≤ (sc.1 : Int)) (hl : (sc.1 : Int) ≤ 3072) (h : JW sc (d + 1) mL_led mX10_led [.int (nZ (xs sc (i + 1))), .int (nZ (xs sc (i + 2)))] σ N (fun _ => True))
    (next : ∀ σ2 : aH, JE σ σ2 N → wp (Ev sc (d + 1)) 11 cL_law 7 (some .boolean) false [] sc Q 2511 [(0, .ref 1000000), (1, .ref 0), (2, .ref 76), (3, .ref 344), (4, .int (nZ i))] [] σ2) :
    wp (Ev sc (d + 1)) 11 cL_law 7 (some .boolean) false [] sc Q 1937 [(0, .ref 1000000), (1, .ref 0), (2, .ref 76), (3, .ref 344), (4, .int (nZ i))] [] σ := by
  refine w_aload_n dL_law_1937 rfl (List.Mem.tail _ (List.Mem.head _)) ?_
  refine w_aload_n dL_law_1938 rfl (List.Mem.head _) ?_
  refine w_iload dL_law_1939 (List.Mem.tail _ (List.Mem.tail _ (List.Mem.tail _ (List.Mem.tail _ (List.Mem.head _))))) ?_
  refine w_iconst (v := nZ 1) dL_law_1941 (by decide) ?_
  refine i_add dL_law_1942 ?_
  refine i_isld dL_law_1943 (by omega) (by omega) ?_
  refine w_aload_n dL_law_1944 rfl (List.Mem.head _) ?_
  refine w_iload dL_law_1945 (List.Mem.tail _ (List.Mem.tail _ (List.Mem.tail _ (List.Mem.tail _ (List.Mem.head _))))) ?_
  refine w_iconst (v := nZ 2) dL_law_1947 (by decide) ?_
  refine i_add dL_law_1948 ?_
  refine i_isld dL_law_1949 (by omega) (by omega) ?_
  refine w_aload_n dL_law_1950 rfl (List.Mem.tail _ (List.Mem.tail _ (List.Mem.tail _ (List.Mem.head _)))) ?_
  obtain ⟨k, r, σ1, σ2, u1, u2, e1, rk, g1, e2, rr, g2, t0, tj, je⟩ := h
  refine w_callW dL_law_1951 mp_11_223 ⟨ok_L_led, st_L_led⟩ hs_L_led (As := [.ref 0, .int (nZ (xs sc (i + 1))), .int (nZ (xs sc (i + 2))), .ref 344]) rfl rfl (Nat.le_of_ble_eq_true rfl) e1 ?_
  show wp (Ev sc (d + 1)) 11 cL_law 7 (some .boolean) false [] sc Q 1954 [(0, .ref 1000000), (1, .ref 0), (2, .ref 76), (3, .ref 344), (4, .int (nZ i))] [.int (nZ k)] σ1
  refine w_istore (l' := [(5, .int (nZ k)), (0, .ref 1000000), (1, .ref 0), (2, .ref 76), (3, .ref 344), (4, .int (nZ i))]) dL_law_1954 (by decide) rfl ?_
  refine w_aload_n dL_law_1956 rfl (List.Mem.tail _ (List.Mem.tail _ (List.Mem.tail _ (List.Mem.head _)))) ?_
  refine w_aload_n dL_law_1957 rfl (List.Mem.tail _ (List.Mem.head _)) ?_
  refine w_iload dL_law_1958 (List.Mem.tail _ (List.Mem.tail _ (List.Mem.tail _ (List.Mem.tail _ (List.Mem.tail _ (List.Mem.head _)))))) ?_
  refine w_iconst (v := nZ 1) dL_law_1960 (by decide) ?_
  refine i_add dL_law_1961 ?_
  refine i_isld dL_law_1962 (by omega) (by omega) ?_
  refine w_aload_n dL_law_1963 rfl (List.Mem.tail _ (List.Mem.head _)) ?_
  refine w_iload dL_law_1964 (List.Mem.tail _ (List.Mem.tail _ (List.Mem.tail _ (List.Mem.tail _ (List.Mem.tail _ (List.Mem.head _)))))) ?_
  refine w_iconst (v := nZ 2) dL_law_1966 (by decide) ?_
  refine i_add dL_law_1967 ?_
  refine i_isld dL_law_1968 (by omega) (by omega) ?_
  refine w_callV dL_law_1969 ml_11_225 ⟨ok_X10_led, vi_X10_led⟩ hs_X10_led (As := [.int (nZ (xs sc (i + 1))), .int (nZ (xs sc (i + 2)))]) rfl rfl (gT g1 rfl (lt_of rfl)) (Nat.le_of_ble_eq_true rfl) e2 ?_
  show wp (Ev sc (d + 1)) 11 cL_law 7 (some .boolean) false [] sc Q 1972 [(5, .int (nZ k)), (0, .ref 1000000), (1, .ref 0), (2, .ref 76), (3, .ref 344), (4, .int (nZ i))] [.int (nZ r)] σ2
  refine w_istore (l' := [(6, .int (nZ r)), (5, .int (nZ k)), (0, .ref 1000000), (1, .ref 0), (2, .ref 76), (3, .ref 344), (4, .int (nZ i))]) dL_law_1972 (by decide) rfl ?_
  refine w_aload_n dL_law_1974 rfl (List.Mem.tail _ (List.Mem.tail _ (List.Mem.tail _ (List.Mem.tail _ (List.Mem.head _))))) ?_
  refine w_callV dL_law_1975 ml_11_128 ⟨ok_X10_thrown, vi_X10_thrown⟩ hs_X10_thrown (As := []) rfl rfl (gT g2 rfl (lt_of rfl)) (Nat.le_of_ble_eq_true rfl) (s_thrown g2) ?_
  show wp (Ev sc (d + 1)) 11 cL_law 7 (some .boolean) false [] sc Q 1978 [(6, .int (nZ r)), (5, .int (nZ k)), (0, .ref 1000000), (1, .ref 0), (2, .ref 76), (3, .ref 344), (4, .int (nZ i))] [.int (nZ (rI σ2 76 0))] σ2
  refine w_iload dL_law_1978 (List.Mem.tail _ (List.Mem.head _)) ?_
  refine i_cmp_eq (tgt := 1985) dL_law_1980 rfl (rI_R _ _ _) rk (fun _ => ?_) (fun c9 => absurd t0 c9)
  refine w_iload dL_law_1985 (List.Mem.tail _ (List.Mem.head _)) ?_
  have fin : wp (Ev sc (d + 1)) 11 cL_law 7 (some .boolean) false [] sc Q 2002 [(6, .int (nZ r)), (5, .int (nZ k)), (0, .ref 1000000), (1, .ref 0), (2, .ref 76), (3, .ref 344), (4, .int (nZ i))] [] σ2 := by
    refine w_goto (tgt := 2511) dL_law_2002 rfl ?_
    exact w_weak (l' := [(0, .ref 1000000), (1, .ref 0), (2, .ref 76), (3, .ref 344), (4, .int (nZ i))]) (by intro q hq; simp only [List.mem_cons, List.not_mem_nil, or_false] at hq ⊢; rcases hq with rfl | rfl | rfl | rfl | rfl <;> simp) (next σ2 je)
  refine i_if_ne (tgt := 2002) dL_law_1987 rfl rk (fun _ => fin) (fun c9 => ?_)
  obtain ⟨tj, hb⟩ := tj c9
  refine w_aload_n dL_law_1990 rfl (List.Mem.tail _ (List.Mem.tail _ (List.Mem.tail _ (List.Mem.tail _ (List.Mem.tail _ (List.Mem.head _)))))) ?_
  refine w_iconst (v := nZ 0) dL_law_1991 (by decide) ?_
  refine i_lald (n := 1) dL_law_1992 (gT g2 rfl (lt_of rfl)) (gL g2 rfl) (by decide) (by decide) ?_
  rw [tj]
  refine w_iload dL_law_1993 (List.Mem.head _) ?_
  refine i_2l dL_law_1995 rr ?_
  refine j_cmp dL_law_1996 (by omega) (by omega) ?_
  rw [show (if r < r then (1 : Int) else if r = r then 0 else (-1)) = 0 by rw [if_neg (by omega), if_pos rfl]]
  exact i_if_eq (tgt := 2002) dL_law_1997 rfl (by decide) (fun _ => fin) (fun c8 => absurd rfl c8)
theorem dL_law_2005 : decode cL_law 2005 = .ok (.aload_n 1, 1) := by decide +kernel
theorem dL_law_2006 : decode cL_law 2006 = .ok (.aload_n 0, 1) := by decide +kernel
theorem dL_law_2007 : decode cL_law 2007 = .ok (.iload 4, 2) := by decide +kernel
theorem dL_law_2009 : decode cL_law 2009 = .ok (.iconst 1, 1) := by decide +kernel
theorem dL_law_2010 : decode cL_law 2010 = .ok (.iadd, 1) := by decide +kernel
theorem dL_law_2011 : decode cL_law 2011 = .ok (.iaload, 1) := by decide +kernel
theorem dL_law_2012 : decode cL_law 2012 = .ok (.aload_n 3, 1) := by decide +kernel
theorem dL_law_2013 : decode cL_law 2013 = .ok (.invokestatic 226, 3) := by decide +kernel
theorem dL_law_2016 : decode cL_law 2016 = .ok (.istore 5, 2) := by decide +kernel
theorem dL_law_2018 : decode cL_law 2018 = .ok (.aload_n 2, 1) := by decide +kernel
theorem dL_law_2019 : decode cL_law 2019 = .ok (.aload_n 0, 1) := by decide +kernel
theorem dL_law_2020 : decode cL_law 2020 = .ok (.iload 4, 2) := by decide +kernel
theorem dL_law_2022 : decode cL_law 2022 = .ok (.iconst 1, 1) := by decide +kernel
theorem dL_law_2023 : decode cL_law 2023 = .ok (.iadd, 1) := by decide +kernel
theorem dL_law_2024 : decode cL_law 2024 = .ok (.iaload, 1) := by decide +kernel
theorem dL_law_2025 : decode cL_law 2025 = .ok (.invokevirtual 228, 3) := by decide +kernel
theorem dL_law_2028 : decode cL_law 2028 = .ok (.istore 6, 2) := by decide +kernel
theorem dL_law_2030 : decode cL_law 2030 = .ok (.aload_n 2, 1) := by decide +kernel
theorem dL_law_2031 : decode cL_law 2031 = .ok (.invokevirtual 128, 3) := by decide +kernel
theorem dL_law_2034 : decode cL_law 2034 = .ok (.iload 5, 2) := by decide +kernel
theorem dL_law_2036 : decode cL_law 2036 = .ok (.if_icmp .eq 5, 3) := by decide +kernel
theorem dL_law_2041 : decode cL_law 2041 = .ok (.iload 5, 2) := by decide +kernel
theorem dL_law_2058 : decode cL_law 2058 = .ok (.goto 453, 3) := by decide +kernel
theorem dL_law_2043 : decode cL_law 2043 = .ok (.ifCond .ne 15, 3) := by decide +kernel
theorem dL_law_2046 : decode cL_law 2046 = .ok (.aload_n 3, 1) := by decide +kernel
theorem dL_law_2047 : decode cL_law 2047 = .ok (.iconst 0, 1) := by decide +kernel
theorem dL_law_2048 : decode cL_law 2048 = .ok (.laload, 1) := by decide +kernel
theorem dL_law_2049 : decode cL_law 2049 = .ok (.iload 6, 2) := by decide +kernel
theorem dL_law_2051 : decode cL_law 2051 = .ok (.i2l, 1) := by decide +kernel
theorem dL_law_2052 : decode cL_law 2052 = .ok (.lcmp, 1) := by decide +kernel
theorem dL_law_2053 : decode cL_law 2053 = .ok (.ifCond .eq 5, 3) := by decide +kernel
set_option maxRecDepth 10000 in
theorem lc_31 {sc : Nat × (Nat → Int32)} {d : Nat} {Q : aO → aH → Prop} {σ : aH} {u : Nat} {i N : Int} (hG : G σ u) (hi : 0 ≤ i ∧ i + 6 ≤ (sc.1 : Int)) (hl : (sc.1 : Int) ≤ 3072) (h : JW sc (d + 1) mL_whose mX10_whose [.int (nZ (xs sc (i + 1)))] σ N (fun _ => True))
    (next : ∀ σ2 : aH, JE σ σ2 N → wp (Ev sc (d + 1)) 11 cL_law 7 (some .boolean) false [] sc Q 2511 [(0, .ref 1000000), (1, .ref 0), (2, .ref 76), (3, .ref 344), (4, .int (nZ i))] [] σ2) :
    wp (Ev sc (d + 1)) 11 cL_law 7 (some .boolean) false [] sc Q 2005 [(0, .ref 1000000), (1, .ref 0), (2, .ref 76), (3, .ref 344), (4, .int (nZ i))] [] σ := by
  refine w_aload_n dL_law_2005 rfl (List.Mem.tail _ (List.Mem.head _)) ?_
  refine w_aload_n dL_law_2006 rfl (List.Mem.head _) ?_
  refine w_iload dL_law_2007 (List.Mem.tail _ (List.Mem.tail _ (List.Mem.tail _ (List.Mem.tail _ (List.Mem.head _))))) ?_
  refine w_iconst (v := nZ 1) dL_law_2009 (by decide) ?_
  refine i_add dL_law_2010 ?_
  refine i_isld dL_law_2011 (by omega) (by omega) ?_
  refine w_aload_n dL_law_2012 rfl (List.Mem.tail _ (List.Mem.tail _ (List.Mem.tail _ (List.Mem.head _)))) ?_
  obtain ⟨k, r, σ1, σ2, u1, u2, e1, rk, g1, e2, rr, g2, t0, tj, je⟩ := h
  refine w_callW dL_law_2013 mp_11_226 ⟨ok_L_whose, st_L_whose⟩ hs_L_whose (As := [.ref 0, .int (nZ (xs sc (i + 1))), .ref 344]) rfl rfl (Nat.le_of_ble_eq_true rfl) e1 ?_
  show wp (Ev sc (d + 1)) 11 cL_law 7 (some .boolean) false [] sc Q 2016 [(0, .ref 1000000), (1, .ref 0), (2, .ref 76), (3, .ref 344), (4, .int (nZ i))] [.int (nZ k)] σ1
  refine w_istore (l' := [(5, .int (nZ k)), (0, .ref 1000000), (1, .ref 0), (2, .ref 76), (3, .ref 344), (4, .int (nZ i))]) dL_law_2016 (by decide) rfl ?_
  refine w_aload_n dL_law_2018 rfl (List.Mem.tail _ (List.Mem.tail _ (List.Mem.tail _ (List.Mem.head _)))) ?_
  refine w_aload_n dL_law_2019 rfl (List.Mem.tail _ (List.Mem.head _)) ?_
  refine w_iload dL_law_2020 (List.Mem.tail _ (List.Mem.tail _ (List.Mem.tail _ (List.Mem.tail _ (List.Mem.tail _ (List.Mem.head _)))))) ?_
  refine w_iconst (v := nZ 1) dL_law_2022 (by decide) ?_
  refine i_add dL_law_2023 ?_
  refine i_isld dL_law_2024 (by omega) (by omega) ?_
  refine w_callV dL_law_2025 ml_11_228 ⟨ok_X10_whose, vi_X10_whose⟩ hs_X10_whose (As := [.int (nZ (xs sc (i + 1)))]) rfl rfl (gT g1 rfl (lt_of rfl)) (Nat.le_of_ble_eq_true rfl) e2 ?_
  show wp (Ev sc (d + 1)) 11 cL_law 7 (some .boolean) false [] sc Q 2028 [(5, .int (nZ k)), (0, .ref 1000000), (1, .ref 0), (2, .ref 76), (3, .ref 344), (4, .int (nZ i))] [.int (nZ r)] σ2
  refine w_istore (l' := [(6, .int (nZ r)), (5, .int (nZ k)), (0, .ref 1000000), (1, .ref 0), (2, .ref 76), (3, .ref 344), (4, .int (nZ i))]) dL_law_2028 (by decide) rfl ?_
  refine w_aload_n dL_law_2030 rfl (List.Mem.tail _ (List.Mem.tail _ (List.Mem.tail _ (List.Mem.tail _ (List.Mem.head _))))) ?_
  refine w_callV dL_law_2031 ml_11_128 ⟨ok_X10_thrown, vi_X10_thrown⟩ hs_X10_thrown (As := []) rfl rfl (gT g2 rfl (lt_of rfl)) (Nat.le_of_ble_eq_true rfl) (s_thrown g2) ?_
  show wp (Ev sc (d + 1)) 11 cL_law 7 (some .boolean) false [] sc Q 2034 [(6, .int (nZ r)), (5, .int (nZ k)), (0, .ref 1000000), (1, .ref 0), (2, .ref 76), (3, .ref 344), (4, .int (nZ i))] [.int (nZ (rI σ2 76 0))] σ2
  refine w_iload dL_law_2034 (List.Mem.tail _ (List.Mem.head _)) ?_
  refine i_cmp_eq (tgt := 2041) dL_law_2036 rfl (rI_R _ _ _) rk (fun _ => ?_) (fun c9 => absurd t0 c9)
  refine w_iload dL_law_2041 (List.Mem.tail _ (List.Mem.head _)) ?_
  have fin : wp (Ev sc (d + 1)) 11 cL_law 7 (some .boolean) false [] sc Q 2058 [(6, .int (nZ r)), (5, .int (nZ k)), (0, .ref 1000000), (1, .ref 0), (2, .ref 76), (3, .ref 344), (4, .int (nZ i))] [] σ2 := by
    refine w_goto (tgt := 2511) dL_law_2058 rfl ?_
    exact w_weak (l' := [(0, .ref 1000000), (1, .ref 0), (2, .ref 76), (3, .ref 344), (4, .int (nZ i))]) (by intro q hq; simp only [List.mem_cons, List.not_mem_nil, or_false] at hq ⊢; rcases hq with rfl | rfl | rfl | rfl | rfl <;> simp) (next σ2 je)
  refine i_if_ne (tgt := 2058) dL_law_2043 rfl rk (fun _ => fin) (fun c9 => ?_)
  obtain ⟨tj, hb⟩ := tj c9
  refine w_aload_n dL_law_2046 rfl (List.Mem.tail _ (List.Mem.tail _ (List.Mem.tail _ (List.Mem.tail _ (List.Mem.tail _ (List.Mem.head _)))))) ?_
  refine w_iconst (v := nZ 0) dL_law_2047 (by decide) ?_
  refine i_lald (n := 1) dL_law_2048 (gT g2 rfl (lt_of rfl)) (gL g2 rfl) (by decide) (by decide) ?_
  rw [tj]
  refine w_iload dL_law_2049 (List.Mem.head _) ?_
  refine i_2l dL_law_2051 rr ?_
  refine j_cmp dL_law_2052 (by omega) (by omega) ?_
  rw [show (if r < r then (1 : Int) else if r = r then 0 else (-1)) = 0 by rw [if_neg (by omega), if_pos rfl]]
  exact i_if_eq (tgt := 2058) dL_law_2053 rfl (by decide) (fun _ => fin) (fun c8 => absurd rfl c8)
theorem dL_law_2061 : decode cL_law 2061 = .ok (.aload_n 1, 1) := by decide +kernel
theorem dL_law_2062 : decode cL_law 2062 = .ok (.aload_n 0, 1) := by decide +kernel
theorem dL_law_2063 : decode cL_law 2063 = .ok (.iload 4, 2) := by decide +kernel
theorem dL_law_2065 : decode cL_law 2065 = .ok (.iconst 1, 1) := by decide +kernel
theorem dL_law_2066 : decode cL_law 2066 = .ok (.iadd, 1) := by decide +kernel
theorem dL_law_2067 : decode cL_law 2067 = .ok (.iaload, 1) := by decide +kernel
theorem dL_law_2068 : decode cL_law 2068 = .ok (.aload_n 3, 1) := by decide +kernel
theorem dL_law_2069 : decode cL_law 2069 = .ok (.invokestatic 229, 3) := by decide +kernel
theorem dL_law_2072 : decode cL_law 2072 = .ok (.istore 5, 2) := by decide +kernel
theorem dL_law_2074 : decode cL_law 2074 = .ok (.aload_n 2, 1) := by decide +kernel
theorem dL_law_2075 : decode cL_law 2075 = .ok (.aload_n 0, 1) := by decide +kernel
theorem dL_law_2076 : decode cL_law 2076 = .ok (.iload 4, 2) := by decide +kernel
theorem dL_law_2078 : decode cL_law 2078 = .ok (.iconst 1, 1) := by decide +kernel
theorem dL_law_2079 : decode cL_law 2079 = .ok (.iadd, 1) := by decide +kernel
theorem dL_law_2080 : decode cL_law 2080 = .ok (.iaload, 1) := by decide +kernel
theorem dL_law_2081 : decode cL_law 2081 = .ok (.invokevirtual 231, 3) := by decide +kernel
theorem dL_law_2084 : decode cL_law 2084 = .ok (.istore 6, 2) := by decide +kernel
theorem dL_law_2086 : decode cL_law 2086 = .ok (.aload_n 2, 1) := by decide +kernel
theorem dL_law_2087 : decode cL_law 2087 = .ok (.invokevirtual 128, 3) := by decide +kernel
theorem dL_law_2090 : decode cL_law 2090 = .ok (.iload 5, 2) := by decide +kernel
theorem dL_law_2092 : decode cL_law 2092 = .ok (.if_icmp .eq 5, 3) := by decide +kernel
theorem dL_law_2097 : decode cL_law 2097 = .ok (.iload 5, 2) := by decide +kernel
theorem dL_law_2114 : decode cL_law 2114 = .ok (.goto 397, 3) := by decide +kernel
theorem dL_law_2099 : decode cL_law 2099 = .ok (.ifCond .ne 15, 3) := by decide +kernel
theorem dL_law_2102 : decode cL_law 2102 = .ok (.aload_n 3, 1) := by decide +kernel
theorem dL_law_2103 : decode cL_law 2103 = .ok (.iconst 0, 1) := by decide +kernel
theorem dL_law_2104 : decode cL_law 2104 = .ok (.laload, 1) := by decide +kernel
theorem dL_law_2105 : decode cL_law 2105 = .ok (.iload 6, 2) := by decide +kernel
theorem dL_law_2107 : decode cL_law 2107 = .ok (.i2l, 1) := by decide +kernel
theorem dL_law_2108 : decode cL_law 2108 = .ok (.lcmp, 1) := by decide +kernel
theorem dL_law_2109 : decode cL_law 2109 = .ok (.ifCond .eq 5, 3) := by decide +kernel
set_option maxRecDepth 10000 in
theorem lc_32 {sc : Nat × (Nat → Int32)} {d : Nat} {Q : aO → aH → Prop} {σ : aH} {u : Nat} {i N : Int} (hG : G σ u) (hi : 0 ≤ i ∧ i + 6 ≤ (sc.1 : Int)) (hl : (sc.1 : Int) ≤ 3072) (h : JW sc (d + 1) mL_harmless mX10_harmless [.int (nZ (xs sc (i + 1)))] σ N (fun _ => True))
    (next : ∀ σ2 : aH, JE σ σ2 N → wp (Ev sc (d + 1)) 11 cL_law 7 (some .boolean) false [] sc Q 2511 [(0, .ref 1000000), (1, .ref 0), (2, .ref 76), (3, .ref 344), (4, .int (nZ i))] [] σ2) :
    wp (Ev sc (d + 1)) 11 cL_law 7 (some .boolean) false [] sc Q 2061 [(0, .ref 1000000), (1, .ref 0), (2, .ref 76), (3, .ref 344), (4, .int (nZ i))] [] σ := by
  refine w_aload_n dL_law_2061 rfl (List.Mem.tail _ (List.Mem.head _)) ?_
  refine w_aload_n dL_law_2062 rfl (List.Mem.head _) ?_
  refine w_iload dL_law_2063 (List.Mem.tail _ (List.Mem.tail _ (List.Mem.tail _ (List.Mem.tail _ (List.Mem.head _))))) ?_
  refine w_iconst (v := nZ 1) dL_law_2065 (by decide) ?_
  refine i_add dL_law_2066 ?_
  refine i_isld dL_law_2067 (by omega) (by omega) ?_
  refine w_aload_n dL_law_2068 rfl (List.Mem.tail _ (List.Mem.tail _ (List.Mem.tail _ (List.Mem.head _)))) ?_
  obtain ⟨k, r, σ1, σ2, u1, u2, e1, rk, g1, e2, rr, g2, t0, tj, je⟩ := h
  refine w_callW dL_law_2069 mp_11_229 ⟨ok_L_harmless, st_L_harmless⟩ hs_L_harmless (As := [.ref 0, .int (nZ (xs sc (i + 1))), .ref 344]) rfl rfl (Nat.le_of_ble_eq_true rfl) e1 ?_
  show wp (Ev sc (d + 1)) 11 cL_law 7 (some .boolean) false [] sc Q 2072 [(0, .ref 1000000), (1, .ref 0), (2, .ref 76), (3, .ref 344), (4, .int (nZ i))] [.int (nZ k)] σ1
  refine w_istore (l' := [(5, .int (nZ k)), (0, .ref 1000000), (1, .ref 0), (2, .ref 76), (3, .ref 344), (4, .int (nZ i))]) dL_law_2072 (by decide) rfl ?_
  refine w_aload_n dL_law_2074 rfl (List.Mem.tail _ (List.Mem.tail _ (List.Mem.tail _ (List.Mem.head _)))) ?_
  refine w_aload_n dL_law_2075 rfl (List.Mem.tail _ (List.Mem.head _)) ?_
  refine w_iload dL_law_2076 (List.Mem.tail _ (List.Mem.tail _ (List.Mem.tail _ (List.Mem.tail _ (List.Mem.tail _ (List.Mem.head _)))))) ?_
  refine w_iconst (v := nZ 1) dL_law_2078 (by decide) ?_
  refine i_add dL_law_2079 ?_
  refine i_isld dL_law_2080 (by omega) (by omega) ?_
  refine w_callV dL_law_2081 ml_11_231 ⟨ok_X10_harmless, vi_X10_harmless⟩ hs_X10_harmless (As := [.int (nZ (xs sc (i + 1)))]) rfl rfl (gT g1 rfl (lt_of rfl)) (Nat.le_of_ble_eq_true rfl) e2 ?_
  show wp (Ev sc (d + 1)) 11 cL_law 7 (some .boolean) false [] sc Q 2084 [(5, .int (nZ k)), (0, .ref 1000000), (1, .ref 0), (2, .ref 76), (3, .ref 344), (4, .int (nZ i))] [.int (nZ r)] σ2
  refine w_istore (l' := [(6, .int (nZ r)), (5, .int (nZ k)), (0, .ref 1000000), (1, .ref 0), (2, .ref 76), (3, .ref 344), (4, .int (nZ i))]) dL_law_2084 (by decide) rfl ?_
  refine w_aload_n dL_law_2086 rfl (List.Mem.tail _ (List.Mem.tail _ (List.Mem.tail _ (List.Mem.tail _ (List.Mem.head _))))) ?_
  refine w_callV dL_law_2087 ml_11_128 ⟨ok_X10_thrown, vi_X10_thrown⟩ hs_X10_thrown (As := []) rfl rfl (gT g2 rfl (lt_of rfl)) (Nat.le_of_ble_eq_true rfl) (s_thrown g2) ?_
  show wp (Ev sc (d + 1)) 11 cL_law 7 (some .boolean) false [] sc Q 2090 [(6, .int (nZ r)), (5, .int (nZ k)), (0, .ref 1000000), (1, .ref 0), (2, .ref 76), (3, .ref 344), (4, .int (nZ i))] [.int (nZ (rI σ2 76 0))] σ2
  refine w_iload dL_law_2090 (List.Mem.tail _ (List.Mem.head _)) ?_
  refine i_cmp_eq (tgt := 2097) dL_law_2092 rfl (rI_R _ _ _) rk (fun _ => ?_) (fun c9 => absurd t0 c9)
  refine w_iload dL_law_2097 (List.Mem.tail _ (List.Mem.head _)) ?_
  have fin : wp (Ev sc (d + 1)) 11 cL_law 7 (some .boolean) false [] sc Q 2114 [(6, .int (nZ r)), (5, .int (nZ k)), (0, .ref 1000000), (1, .ref 0), (2, .ref 76), (3, .ref 344), (4, .int (nZ i))] [] σ2 := by
    refine w_goto (tgt := 2511) dL_law_2114 rfl ?_
    exact w_weak (l' := [(0, .ref 1000000), (1, .ref 0), (2, .ref 76), (3, .ref 344), (4, .int (nZ i))]) (by intro q hq; simp only [List.mem_cons, List.not_mem_nil, or_false] at hq ⊢; rcases hq with rfl | rfl | rfl | rfl | rfl <;> simp) (next σ2 je)
  refine i_if_ne (tgt := 2114) dL_law_2099 rfl rk (fun _ => fin) (fun c9 => ?_)
  obtain ⟨tj, hb⟩ := tj c9
  refine w_aload_n dL_law_2102 rfl (List.Mem.tail _ (List.Mem.tail _ (List.Mem.tail _ (List.Mem.tail _ (List.Mem.tail _ (List.Mem.head _)))))) ?_
  refine w_iconst (v := nZ 0) dL_law_2103 (by decide) ?_
  refine i_lald (n := 1) dL_law_2104 (gT g2 rfl (lt_of rfl)) (gL g2 rfl) (by decide) (by decide) ?_
  rw [tj]
  refine w_iload dL_law_2105 (List.Mem.head _) ?_
  refine i_2l dL_law_2107 rr ?_
  refine j_cmp dL_law_2108 (by omega) (by omega) ?_
  rw [show (if r < r then (1 : Int) else if r = r then 0 else (-1)) = 0 by rw [if_neg (by omega), if_pos rfl]]
  exact i_if_eq (tgt := 2114) dL_law_2109 rfl (by decide) (fun _ => fin) (fun c8 => absurd rfl c8)
theorem dL_law_2117 : decode cL_law 2117 = .ok (.aload_n 1, 1) := by decide +kernel
theorem dL_law_2118 : decode cL_law 2118 = .ok (.aload_n 0, 1) := by decide +kernel
theorem dL_law_2119 : decode cL_law 2119 = .ok (.iload 4, 2) := by decide +kernel
theorem dL_law_2121 : decode cL_law 2121 = .ok (.iconst 1, 1) := by decide +kernel
theorem dL_law_2122 : decode cL_law 2122 = .ok (.iadd, 1) := by decide +kernel
theorem dL_law_2123 : decode cL_law 2123 = .ok (.iaload, 1) := by decide +kernel
theorem dL_law_2124 : decode cL_law 2124 = .ok (.aload_n 3, 1) := by decide +kernel
theorem dL_law_2125 : decode cL_law 2125 = .ok (.invokestatic 232, 3) := by decide +kernel
theorem dL_law_2128 : decode cL_law 2128 = .ok (.istore 5, 2) := by decide +kernel
theorem dL_law_2130 : decode cL_law 2130 = .ok (.aload_n 2, 1) := by decide +kernel
theorem dL_law_2131 : decode cL_law 2131 = .ok (.aload_n 0, 1) := by decide +kernel
theorem dL_law_2132 : decode cL_law 2132 = .ok (.iload 4, 2) := by decide +kernel
theorem dL_law_2134 : decode cL_law 2134 = .ok (.iconst 1, 1) := by decide +kernel
theorem dL_law_2135 : decode cL_law 2135 = .ok (.iadd, 1) := by decide +kernel
theorem dL_law_2136 : decode cL_law 2136 = .ok (.iaload, 1) := by decide +kernel
theorem dL_law_2137 : decode cL_law 2137 = .ok (.invokevirtual 234, 3) := by decide +kernel
theorem dL_law_2140 : decode cL_law 2140 = .ok (.istore 6, 2) := by decide +kernel
theorem dL_law_2142 : decode cL_law 2142 = .ok (.aload_n 2, 1) := by decide +kernel
theorem dL_law_2143 : decode cL_law 2143 = .ok (.invokevirtual 128, 3) := by decide +kernel
theorem dL_law_2146 : decode cL_law 2146 = .ok (.iload 5, 2) := by decide +kernel
theorem dL_law_2148 : decode cL_law 2148 = .ok (.if_icmp .eq 5, 3) := by decide +kernel
theorem dL_law_2153 : decode cL_law 2153 = .ok (.iload 5, 2) := by decide +kernel
theorem dL_law_2170 : decode cL_law 2170 = .ok (.goto 341, 3) := by decide +kernel
theorem dL_law_2155 : decode cL_law 2155 = .ok (.ifCond .ne 15, 3) := by decide +kernel
theorem dL_law_2158 : decode cL_law 2158 = .ok (.aload_n 3, 1) := by decide +kernel
theorem dL_law_2159 : decode cL_law 2159 = .ok (.iconst 0, 1) := by decide +kernel
theorem dL_law_2160 : decode cL_law 2160 = .ok (.laload, 1) := by decide +kernel
theorem dL_law_2161 : decode cL_law 2161 = .ok (.iload 6, 2) := by decide +kernel
theorem dL_law_2163 : decode cL_law 2163 = .ok (.i2l, 1) := by decide +kernel
theorem dL_law_2164 : decode cL_law 2164 = .ok (.lcmp, 1) := by decide +kernel
theorem dL_law_2165 : decode cL_law 2165 = .ok (.ifCond .eq 5, 3) := by decide +kernel
set_option maxRecDepth 10000 in
theorem lc_33 {sc : Nat × (Nat → Int32)} {d : Nat} {Q : aO → aH → Prop} {σ : aH} {u : Nat} {i N : Int} (hG : G σ u) (hi : 0 ≤ i ∧ i + 6 ≤ (sc.1 : Int)) (hl : (sc.1 : Int) ≤ 3072) (h : JW sc (d + 1) mL_folded mX10_folded [.int (nZ (xs sc (i + 1)))] σ N (fun _ => True))
    (next : ∀ σ2 : aH, JE σ σ2 N → wp (Ev sc (d + 1)) 11 cL_law 7 (some .boolean) false [] sc Q 2511 [(0, .ref 1000000), (1, .ref 0), (2, .ref 76), (3, .ref 344), (4, .int (nZ i))] [] σ2) :
    wp (Ev sc (d + 1)) 11 cL_law 7 (some .boolean) false [] sc Q 2117 [(0, .ref 1000000), (1, .ref 0), (2, .ref 76), (3, .ref 344), (4, .int (nZ i))] [] σ := by
  refine w_aload_n dL_law_2117 rfl (List.Mem.tail _ (List.Mem.head _)) ?_
  refine w_aload_n dL_law_2118 rfl (List.Mem.head _) ?_
  refine w_iload dL_law_2119 (List.Mem.tail _ (List.Mem.tail _ (List.Mem.tail _ (List.Mem.tail _ (List.Mem.head _))))) ?_
  refine w_iconst (v := nZ 1) dL_law_2121 (by decide) ?_
  refine i_add dL_law_2122 ?_
  refine i_isld dL_law_2123 (by omega) (by omega) ?_
  refine w_aload_n dL_law_2124 rfl (List.Mem.tail _ (List.Mem.tail _ (List.Mem.tail _ (List.Mem.head _)))) ?_
  obtain ⟨k, r, σ1, σ2, u1, u2, e1, rk, g1, e2, rr, g2, t0, tj, je⟩ := h
  refine w_callW dL_law_2125 mp_11_232 ⟨ok_L_folded, st_L_folded⟩ hs_L_folded (As := [.ref 0, .int (nZ (xs sc (i + 1))), .ref 344]) rfl rfl (Nat.le_of_ble_eq_true rfl) e1 ?_
  show wp (Ev sc (d + 1)) 11 cL_law 7 (some .boolean) false [] sc Q 2128 [(0, .ref 1000000), (1, .ref 0), (2, .ref 76), (3, .ref 344), (4, .int (nZ i))] [.int (nZ k)] σ1
  refine w_istore (l' := [(5, .int (nZ k)), (0, .ref 1000000), (1, .ref 0), (2, .ref 76), (3, .ref 344), (4, .int (nZ i))]) dL_law_2128 (by decide) rfl ?_
  refine w_aload_n dL_law_2130 rfl (List.Mem.tail _ (List.Mem.tail _ (List.Mem.tail _ (List.Mem.head _)))) ?_
  refine w_aload_n dL_law_2131 rfl (List.Mem.tail _ (List.Mem.head _)) ?_
  refine w_iload dL_law_2132 (List.Mem.tail _ (List.Mem.tail _ (List.Mem.tail _ (List.Mem.tail _ (List.Mem.tail _ (List.Mem.head _)))))) ?_
  refine w_iconst (v := nZ 1) dL_law_2134 (by decide) ?_
  refine i_add dL_law_2135 ?_
  refine i_isld dL_law_2136 (by omega) (by omega) ?_
  refine w_callV dL_law_2137 ml_11_234 ⟨ok_X10_folded, vi_X10_folded⟩ hs_X10_folded (As := [.int (nZ (xs sc (i + 1)))]) rfl rfl (gT g1 rfl (lt_of rfl)) (Nat.le_of_ble_eq_true rfl) e2 ?_
  show wp (Ev sc (d + 1)) 11 cL_law 7 (some .boolean) false [] sc Q 2140 [(5, .int (nZ k)), (0, .ref 1000000), (1, .ref 0), (2, .ref 76), (3, .ref 344), (4, .int (nZ i))] [.int (nZ r)] σ2
  refine w_istore (l' := [(6, .int (nZ r)), (5, .int (nZ k)), (0, .ref 1000000), (1, .ref 0), (2, .ref 76), (3, .ref 344), (4, .int (nZ i))]) dL_law_2140 (by decide) rfl ?_
  refine w_aload_n dL_law_2142 rfl (List.Mem.tail _ (List.Mem.tail _ (List.Mem.tail _ (List.Mem.tail _ (List.Mem.head _))))) ?_
  refine w_callV dL_law_2143 ml_11_128 ⟨ok_X10_thrown, vi_X10_thrown⟩ hs_X10_thrown (As := []) rfl rfl (gT g2 rfl (lt_of rfl)) (Nat.le_of_ble_eq_true rfl) (s_thrown g2) ?_
  show wp (Ev sc (d + 1)) 11 cL_law 7 (some .boolean) false [] sc Q 2146 [(6, .int (nZ r)), (5, .int (nZ k)), (0, .ref 1000000), (1, .ref 0), (2, .ref 76), (3, .ref 344), (4, .int (nZ i))] [.int (nZ (rI σ2 76 0))] σ2
  refine w_iload dL_law_2146 (List.Mem.tail _ (List.Mem.head _)) ?_
  refine i_cmp_eq (tgt := 2153) dL_law_2148 rfl (rI_R _ _ _) rk (fun _ => ?_) (fun c9 => absurd t0 c9)
  refine w_iload dL_law_2153 (List.Mem.tail _ (List.Mem.head _)) ?_
  have fin : wp (Ev sc (d + 1)) 11 cL_law 7 (some .boolean) false [] sc Q 2170 [(6, .int (nZ r)), (5, .int (nZ k)), (0, .ref 1000000), (1, .ref 0), (2, .ref 76), (3, .ref 344), (4, .int (nZ i))] [] σ2 := by
    refine w_goto (tgt := 2511) dL_law_2170 rfl ?_
    exact w_weak (l' := [(0, .ref 1000000), (1, .ref 0), (2, .ref 76), (3, .ref 344), (4, .int (nZ i))]) (by intro q hq; simp only [List.mem_cons, List.not_mem_nil, or_false] at hq ⊢; rcases hq with rfl | rfl | rfl | rfl | rfl <;> simp) (next σ2 je)
  refine i_if_ne (tgt := 2170) dL_law_2155 rfl rk (fun _ => fin) (fun c9 => ?_)
  obtain ⟨tj, hb⟩ := tj c9
  refine w_aload_n dL_law_2158 rfl (List.Mem.tail _ (List.Mem.tail _ (List.Mem.tail _ (List.Mem.tail _ (List.Mem.tail _ (List.Mem.head _)))))) ?_
  refine w_iconst (v := nZ 0) dL_law_2159 (by decide) ?_
  refine i_lald (n := 1) dL_law_2160 (gT g2 rfl (lt_of rfl)) (gL g2 rfl) (by decide) (by decide) ?_
  rw [tj]
  refine w_iload dL_law_2161 (List.Mem.head _) ?_
  refine i_2l dL_law_2163 rr ?_
  refine j_cmp dL_law_2164 (by omega) (by omega) ?_
  rw [show (if r < r then (1 : Int) else if r = r then 0 else (-1)) = 0 by rw [if_neg (by omega), if_pos rfl]]
  exact i_if_eq (tgt := 2170) dL_law_2165 rfl (by decide) (fun _ => fin) (fun c8 => absurd rfl c8)
theorem dL_law_2173 : decode cL_law 2173 = .ok (.aload_n 1, 1) := by decide +kernel
theorem dL_law_2174 : decode cL_law 2174 = .ok (.aload_n 0, 1) := by decide +kernel
theorem dL_law_2175 : decode cL_law 2175 = .ok (.iload 4, 2) := by decide +kernel
theorem dL_law_2177 : decode cL_law 2177 = .ok (.iconst 1, 1) := by decide +kernel
theorem dL_law_2178 : decode cL_law 2178 = .ok (.iadd, 1) := by decide +kernel
theorem dL_law_2179 : decode cL_law 2179 = .ok (.iaload, 1) := by decide +kernel
theorem dL_law_2180 : decode cL_law 2180 = .ok (.aload_n 0, 1) := by decide +kernel
theorem dL_law_2181 : decode cL_law 2181 = .ok (.iload 4, 2) := by decide +kernel
theorem dL_law_2183 : decode cL_law 2183 = .ok (.iconst 2, 1) := by decide +kernel
theorem dL_law_2184 : decode cL_law 2184 = .ok (.iadd, 1) := by decide +kernel
theorem dL_law_2185 : decode cL_law 2185 = .ok (.iaload, 1) := by decide +kernel
theorem dL_law_2186 : decode cL_law 2186 = .ok (.aload_n 3, 1) := by decide +kernel
theorem dL_law_2187 : decode cL_law 2187 = .ok (.invokestatic 235, 3) := by decide +kernel
theorem dL_law_2190 : decode cL_law 2190 = .ok (.istore 5, 2) := by decide +kernel
theorem dL_law_2192 : decode cL_law 2192 = .ok (.aload_n 2, 1) := by decide +kernel
theorem dL_law_2193 : decode cL_law 2193 = .ok (.aload_n 0, 1) := by decide +kernel
theorem dL_law_2194 : decode cL_law 2194 = .ok (.iload 4, 2) := by decide +kernel
theorem dL_law_2196 : decode cL_law 2196 = .ok (.iconst 1, 1) := by decide +kernel
theorem dL_law_2197 : decode cL_law 2197 = .ok (.iadd, 1) := by decide +kernel
theorem dL_law_2198 : decode cL_law 2198 = .ok (.iaload, 1) := by decide +kernel
theorem dL_law_2199 : decode cL_law 2199 = .ok (.aload_n 0, 1) := by decide +kernel
theorem dL_law_2200 : decode cL_law 2200 = .ok (.iload 4, 2) := by decide +kernel
theorem dL_law_2202 : decode cL_law 2202 = .ok (.iconst 2, 1) := by decide +kernel
theorem dL_law_2203 : decode cL_law 2203 = .ok (.iadd, 1) := by decide +kernel
theorem dL_law_2204 : decode cL_law 2204 = .ok (.iaload, 1) := by decide +kernel
theorem dL_law_2205 : decode cL_law 2205 = .ok (.invokevirtual 237, 3) := by decide +kernel
theorem dL_law_2208 : decode cL_law 2208 = .ok (.istore 6, 2) := by decide +kernel
theorem dL_law_2210 : decode cL_law 2210 = .ok (.aload_n 2, 1) := by decide +kernel
theorem dL_law_2211 : decode cL_law 2211 = .ok (.invokevirtual 128, 3) := by decide +kernel
theorem dL_law_2214 : decode cL_law 2214 = .ok (.iload 5, 2) := by decide +kernel
theorem dL_law_2216 : decode cL_law 2216 = .ok (.if_icmp .eq 5, 3) := by decide +kernel
theorem dL_law_2221 : decode cL_law 2221 = .ok (.iload 5, 2) := by decide +kernel
theorem dL_law_2238 : decode cL_law 2238 = .ok (.goto 273, 3) := by decide +kernel
theorem dL_law_2223 : decode cL_law 2223 = .ok (.ifCond .ne 15, 3) := by decide +kernel
theorem dL_law_2226 : decode cL_law 2226 = .ok (.aload_n 3, 1) := by decide +kernel
theorem dL_law_2227 : decode cL_law 2227 = .ok (.iconst 0, 1) := by decide +kernel
theorem dL_law_2228 : decode cL_law 2228 = .ok (.laload, 1) := by decide +kernel
theorem dL_law_2229 : decode cL_law 2229 = .ok (.iload 6, 2) := by decide +kernel
theorem dL_law_2231 : decode cL_law 2231 = .ok (.i2l, 1) := by decide +kernel
theorem dL_law_2232 : decode cL_law 2232 = .ok (.lcmp, 1) := by decide +kernel
theorem dL_law_2233 : decode cL_law 2233 = .ok (.ifCond .eq 5, 3) := by decide +kernel
set_option maxRecDepth 10000 in
theorem lc_34 {sc : Nat × (Nat → Int32)} {d : Nat} {Q : aO → aH → Prop} {σ : aH} {u : Nat} {i N : Int} (hG : G σ u) (hi : 0 ≤ i ∧ i + 6 ≤ (sc.1 : Int)) (hl : (sc.1 : Int) ≤ 3072) (h : JW sc (d + 1) mL_awned mX10_awned [.int (nZ (xs sc (i + 1))), .int (nZ (xs sc (i + 2)))] σ N (fun _ => True))
    (next : ∀ σ2 : aH, JE σ σ2 N → wp (Ev sc (d + 1)) 11 cL_law 7 (some .boolean) false [] sc Q 2511 [(0, .ref 1000000), (1, .ref 0), (2, .ref 76), (3, .ref 344), (4, .int (nZ i))] [] σ2) :
    wp (Ev sc (d + 1)) 11 cL_law 7 (some .boolean) false [] sc Q 2173 [(0, .ref 1000000), (1, .ref 0), (2, .ref 76), (3, .ref 344), (4, .int (nZ i))] [] σ := by
  refine w_aload_n dL_law_2173 rfl (List.Mem.tail _ (List.Mem.head _)) ?_
  refine w_aload_n dL_law_2174 rfl (List.Mem.head _) ?_
  refine w_iload dL_law_2175 (List.Mem.tail _ (List.Mem.tail _ (List.Mem.tail _ (List.Mem.tail _ (List.Mem.head _))))) ?_
  refine w_iconst (v := nZ 1) dL_law_2177 (by decide) ?_
  refine i_add dL_law_2178 ?_
  refine i_isld dL_law_2179 (by omega) (by omega) ?_
  refine w_aload_n dL_law_2180 rfl (List.Mem.head _) ?_
  refine w_iload dL_law_2181 (List.Mem.tail _ (List.Mem.tail _ (List.Mem.tail _ (List.Mem.tail _ (List.Mem.head _))))) ?_
  refine w_iconst (v := nZ 2) dL_law_2183 (by decide) ?_
  refine i_add dL_law_2184 ?_
  refine i_isld dL_law_2185 (by omega) (by omega) ?_
  refine w_aload_n dL_law_2186 rfl (List.Mem.tail _ (List.Mem.tail _ (List.Mem.tail _ (List.Mem.head _)))) ?_
  obtain ⟨k, r, σ1, σ2, u1, u2, e1, rk, g1, e2, rr, g2, t0, tj, je⟩ := h
  refine w_callW dL_law_2187 mp_11_235 ⟨ok_L_awned, st_L_awned⟩ hs_L_awned (As := [.ref 0, .int (nZ (xs sc (i + 1))), .int (nZ (xs sc (i + 2))), .ref 344]) rfl rfl (Nat.le_of_ble_eq_true rfl) e1 ?_
  show wp (Ev sc (d + 1)) 11 cL_law 7 (some .boolean) false [] sc Q 2190 [(0, .ref 1000000), (1, .ref 0), (2, .ref 76), (3, .ref 344), (4, .int (nZ i))] [.int (nZ k)] σ1
  refine w_istore (l' := [(5, .int (nZ k)), (0, .ref 1000000), (1, .ref 0), (2, .ref 76), (3, .ref 344), (4, .int (nZ i))]) dL_law_2190 (by decide) rfl ?_
  refine w_aload_n dL_law_2192 rfl (List.Mem.tail _ (List.Mem.tail _ (List.Mem.tail _ (List.Mem.head _)))) ?_
  refine w_aload_n dL_law_2193 rfl (List.Mem.tail _ (List.Mem.head _)) ?_
  refine w_iload dL_law_2194 (List.Mem.tail _ (List.Mem.tail _ (List.Mem.tail _ (List.Mem.tail _ (List.Mem.tail _ (List.Mem.head _)))))) ?_
  refine w_iconst (v := nZ 1) dL_law_2196 (by decide) ?_
  refine i_add dL_law_2197 ?_
  refine i_isld dL_law_2198 (by omega) (by omega) ?_
  refine w_aload_n dL_law_2199 rfl (List.Mem.tail _ (List.Mem.head _)) ?_
  refine w_iload dL_law_2200 (List.Mem.tail _ (List.Mem.tail _ (List.Mem.tail _ (List.Mem.tail _ (List.Mem.tail _ (List.Mem.head _)))))) ?_
  refine w_iconst (v := nZ 2) dL_law_2202 (by decide) ?_
  refine i_add dL_law_2203 ?_
  refine i_isld dL_law_2204 (by omega) (by omega) ?_
  refine w_callV dL_law_2205 ml_11_237 ⟨ok_X10_awned, vi_X10_awned⟩ hs_X10_awned (As := [.int (nZ (xs sc (i + 1))), .int (nZ (xs sc (i + 2)))]) rfl rfl (gT g1 rfl (lt_of rfl)) (Nat.le_of_ble_eq_true rfl) e2 ?_
  show wp (Ev sc (d + 1)) 11 cL_law 7 (some .boolean) false [] sc Q 2208 [(5, .int (nZ k)), (0, .ref 1000000), (1, .ref 0), (2, .ref 76), (3, .ref 344), (4, .int (nZ i))] [.int (nZ r)] σ2
  refine w_istore (l' := [(6, .int (nZ r)), (5, .int (nZ k)), (0, .ref 1000000), (1, .ref 0), (2, .ref 76), (3, .ref 344), (4, .int (nZ i))]) dL_law_2208 (by decide) rfl ?_
  refine w_aload_n dL_law_2210 rfl (List.Mem.tail _ (List.Mem.tail _ (List.Mem.tail _ (List.Mem.tail _ (List.Mem.head _))))) ?_
  refine w_callV dL_law_2211 ml_11_128 ⟨ok_X10_thrown, vi_X10_thrown⟩ hs_X10_thrown (As := []) rfl rfl (gT g2 rfl (lt_of rfl)) (Nat.le_of_ble_eq_true rfl) (s_thrown g2) ?_
  show wp (Ev sc (d + 1)) 11 cL_law 7 (some .boolean) false [] sc Q 2214 [(6, .int (nZ r)), (5, .int (nZ k)), (0, .ref 1000000), (1, .ref 0), (2, .ref 76), (3, .ref 344), (4, .int (nZ i))] [.int (nZ (rI σ2 76 0))] σ2
  refine w_iload dL_law_2214 (List.Mem.tail _ (List.Mem.head _)) ?_
  refine i_cmp_eq (tgt := 2221) dL_law_2216 rfl (rI_R _ _ _) rk (fun _ => ?_) (fun c9 => absurd t0 c9)
  refine w_iload dL_law_2221 (List.Mem.tail _ (List.Mem.head _)) ?_
  have fin : wp (Ev sc (d + 1)) 11 cL_law 7 (some .boolean) false [] sc Q 2238 [(6, .int (nZ r)), (5, .int (nZ k)), (0, .ref 1000000), (1, .ref 0), (2, .ref 76), (3, .ref 344), (4, .int (nZ i))] [] σ2 := by
    refine w_goto (tgt := 2511) dL_law_2238 rfl ?_
    exact w_weak (l' := [(0, .ref 1000000), (1, .ref 0), (2, .ref 76), (3, .ref 344), (4, .int (nZ i))]) (by intro q hq; simp only [List.mem_cons, List.not_mem_nil, or_false] at hq ⊢; rcases hq with rfl | rfl | rfl | rfl | rfl <;> simp) (next σ2 je)
  refine i_if_ne (tgt := 2238) dL_law_2223 rfl rk (fun _ => fin) (fun c9 => ?_)
  obtain ⟨tj, hb⟩ := tj c9
  refine w_aload_n dL_law_2226 rfl (List.Mem.tail _ (List.Mem.tail _ (List.Mem.tail _ (List.Mem.tail _ (List.Mem.tail _ (List.Mem.head _)))))) ?_
  refine w_iconst (v := nZ 0) dL_law_2227 (by decide) ?_
  refine i_lald (n := 1) dL_law_2228 (gT g2 rfl (lt_of rfl)) (gL g2 rfl) (by decide) (by decide) ?_
  rw [tj]
  refine w_iload dL_law_2229 (List.Mem.head _) ?_
  refine i_2l dL_law_2231 rr ?_
  refine j_cmp dL_law_2232 (by omega) (by omega) ?_
  rw [show (if r < r then (1 : Int) else if r = r then 0 else (-1)) = 0 by rw [if_neg (by omega), if_pos rfl]]
  exact i_if_eq (tgt := 2238) dL_law_2233 rfl (by decide) (fun _ => fin) (fun c8 => absurd rfl c8)
theorem dL_law_2241 : decode cL_law 2241 = .ok (.aload_n 1, 1) := by decide +kernel
theorem dL_law_2242 : decode cL_law 2242 = .ok (.invokevirtual 238, 3) := by decide +kernel
theorem dL_law_2245 : decode cL_law 2245 = .ok (.aload_n 2, 1) := by decide +kernel
theorem dL_law_2246 : decode cL_law 2246 = .ok (.invokevirtual 241, 3) := by decide +kernel
theorem dL_law_2249 : decode cL_law 2249 = .ok (.if_icmp .eq 262, 3) := by decide +kernel
set_option maxRecDepth 10000 in
theorem lc_35 {sc : Nat × (Nat → Int32)} {d : Nat} {Q : aO → aH → Prop} {σ : aH} {u : Nat} {i N : Int} (hG : G σ u) (hi : 0 ≤ i ∧ i + 6 ≤ (sc.1 : Int)) (hl : (sc.1 : Int) ≤ 3072) (h : JD sc d mX9_lights mX10_lights [] σ N)
    (next : ∀ σ2 : aH, JE σ σ2 N → wp (Ev sc (d + 1)) 11 cL_law 7 (some .boolean) false [] sc Q 2511 [(0, .ref 1000000), (1, .ref 0), (2, .ref 76), (3, .ref 344), (4, .int (nZ i))] [] σ2) :
    wp (Ev sc (d + 1)) 11 cL_law 7 (some .boolean) false [] sc Q 2241 [(0, .ref 1000000), (1, .ref 0), (2, .ref 76), (3, .ref 344), (4, .int (nZ i))] [] σ := by
  refine w_aload_n dL_law_2241 rfl (List.Mem.tail _ (List.Mem.head _)) ?_
  obtain ⟨r, σ1, σ2, e1, rr, ⟨u1, g1⟩, e2, je⟩ := h
  refine w_callV dL_law_2242 ml_11_238 ⟨ok_X9_lights, vi_X9_lights⟩ hs_X9_lights (As := []) rfl rfl (gT hG rfl (lt_of rfl)) (Nat.le_of_ble_eq_true rfl) (Ev.mono _ _ _ _ _ _ e1) ?_
  show wp (Ev sc (d + 1)) 11 cL_law 7 (some .boolean) false [] sc Q 2245 [(0, .ref 1000000), (1, .ref 0), (2, .ref 76), (3, .ref 344), (4, .int (nZ i))] [.int (nZ r)] σ1
  refine w_aload_n dL_law_2245 rfl (List.Mem.tail _ (List.Mem.tail _ (List.Mem.head _))) ?_
  refine w_callV dL_law_2246 ml_11_241 ⟨ok_X10_lights, vi_X10_lights⟩ hs_X10_lights (As := []) rfl rfl (gT g1 rfl (lt_of rfl)) (Nat.le_of_ble_eq_true rfl) (Ev.mono _ _ _ _ _ _ e2) ?_
  show wp (Ev sc (d + 1)) 11 cL_law 7 (some .boolean) false [] sc Q 2249 [(0, .ref 1000000), (1, .ref 0), (2, .ref 76), (3, .ref 344), (4, .int (nZ i))] [.int (nZ r), .int (nZ r)] σ2
  exact i_cmp_eq (tgt := 2511) dL_law_2249 rfl rr rr (fun _ => next σ2 je) (fun c9 => absurd rfl c9)
