theorem dL_law_2461 : decode cL_law 2461 = .ok (.aload_n 1, 1) := by decide +kernel
theorem dL_law_2462 : decode cL_law 2462 = .ok (.aload_n 0, 1) := by decide +kernel
theorem dL_law_2463 : decode cL_law 2463 = .ok (.iload 4, 2) := by decide +kernel
theorem dL_law_2465 : decode cL_law 2465 = .ok (.iconst 1, 1) := by decide +kernel
theorem dL_law_2466 : decode cL_law 2466 = .ok (.iadd, 1) := by decide +kernel
theorem dL_law_2467 : decode cL_law 2467 = .ok (.iaload, 1) := by decide +kernel
theorem dL_law_2468 : decode cL_law 2468 = .ok (.invokevirtual 263, 3) := by decide +kernel
theorem dL_law_2471 : decode cL_law 2471 = .ok (.aload_n 2, 1) := by decide +kernel
theorem dL_law_2472 : decode cL_law 2472 = .ok (.aload_n 0, 1) := by decide +kernel
theorem dL_law_2473 : decode cL_law 2473 = .ok (.iload 4, 2) := by decide +kernel
theorem dL_law_2475 : decode cL_law 2475 = .ok (.iconst 1, 1) := by decide +kernel
theorem dL_law_2476 : decode cL_law 2476 = .ok (.iadd, 1) := by decide +kernel
theorem dL_law_2477 : decode cL_law 2477 = .ok (.iaload, 1) := by decide +kernel
theorem dL_law_2478 : decode cL_law 2478 = .ok (.invokevirtual 266, 3) := by decide +kernel
theorem dL_law_2481 : decode cL_law 2481 = .ok (.if_icmp .eq 30, 3) := by decide +kernel
set_option maxRecDepth 10000 in
theorem lc_42 {sc : Nat × (Nat → Int32)} {d : Nat} {Q : aO → aH → Prop} {σ : aH} {u : Nat} {i N : Int} (hG : G σ u) (hi : 0 ≤ i ∧ i + 6 ≤ (sc.1 : Int)) (hl : (sc.1 : Int) ≤ 3072) (h : JD sc d mX9_status mX10_status [.int (nZ (xs sc (i + 1)))] σ N)
    (next : ∀ σ2 : aH, JE σ σ2 N → wp (Ev sc (d + 1)) 11 cL_law 7 (some .boolean) false [] sc Q 2511 [(0, .ref 1000000), (1, .ref 0), (2, .ref 76), (3, .ref 344), (4, .int (nZ i))] [] σ2) :
    wp (Ev sc (d + 1)) 11 cL_law 7 (some .boolean) false [] sc Q 2461 [(0, .ref 1000000), (1, .ref 0), (2, .ref 76), (3, .ref 344), (4, .int (nZ i))] [] σ := by
  refine w_aload_n dL_law_2461 rfl (List.Mem.tail _ (List.Mem.head _)) ?_
  refine w_aload_n dL_law_2462 rfl (List.Mem.head _) ?_
  refine w_iload dL_law_2463 (List.Mem.tail _ (List.Mem.tail _ (List.Mem.tail _ (List.Mem.tail _ (List.Mem.head _))))) ?_
  refine w_iconst (v := nZ 1) dL_law_2465 (by decide) ?_
  refine i_add dL_law_2466 ?_
  refine i_isld dL_law_2467 (by omega) (by omega) ?_
  obtain ⟨r, σ1, σ2, e1, rr, ⟨u1, g1⟩, e2, je⟩ := h
  refine w_callV dL_law_2468 ml_11_263 ⟨ok_X9_status, vi_X9_status⟩ hs_X9_status (As := [.int (nZ (xs sc (i + 1)))]) rfl rfl (gT hG rfl (lt_of rfl)) (Nat.le_of_ble_eq_true rfl) (Ev.mono _ _ _ _ _ _ e1) ?_
  show wp (Ev sc (d + 1)) 11 cL_law 7 (some .boolean) false [] sc Q 2471 [(0, .ref 1000000), (1, .ref 0), (2, .ref 76), (3, .ref 344), (4, .int (nZ i))] [.int (nZ r)] σ1
  refine w_aload_n dL_law_2471 rfl (List.Mem.tail _ (List.Mem.tail _ (List.Mem.head _))) ?_
  refine w_aload_n dL_law_2472 rfl (List.Mem.head _) ?_
  refine w_iload dL_law_2473 (List.Mem.tail _ (List.Mem.tail _ (List.Mem.tail _ (List.Mem.tail _ (List.Mem.head _))))) ?_
  refine w_iconst (v := nZ 1) dL_law_2475 (by decide) ?_
  refine i_add dL_law_2476 ?_
  refine i_isld dL_law_2477 (by omega) (by omega) ?_
  refine w_callV dL_law_2478 ml_11_266 ⟨ok_X10_status, vi_X10_status⟩ hs_X10_status (As := [.int (nZ (xs sc (i + 1)))]) rfl rfl (gT g1 rfl (lt_of rfl)) (Nat.le_of_ble_eq_true rfl) (Ev.mono _ _ _ _ _ _ e2) ?_
  show wp (Ev sc (d + 1)) 11 cL_law 7 (some .boolean) false [] sc Q 2481 [(0, .ref 1000000), (1, .ref 0), (2, .ref 76), (3, .ref 344), (4, .int (nZ i))] [.int (nZ r), .int (nZ r)] σ2
  exact i_cmp_eq (tgt := 2511) dL_law_2481 rfl rr rr (fun _ => next σ2 je) (fun c9 => absurd rfl c9)
theorem dL_law_2486 : decode cL_law 2486 = .ok (.aload_n 1, 1) := by decide +kernel
theorem dL_law_2487 : decode cL_law 2487 = .ok (.aload_n 0, 1) := by decide +kernel
theorem dL_law_2488 : decode cL_law 2488 = .ok (.iload 4, 2) := by decide +kernel
theorem dL_law_2490 : decode cL_law 2490 = .ok (.iconst 1, 1) := by decide +kernel
theorem dL_law_2491 : decode cL_law 2491 = .ok (.iadd, 1) := by decide +kernel
theorem dL_law_2492 : decode cL_law 2492 = .ok (.iaload, 1) := by decide +kernel
theorem dL_law_2493 : decode cL_law 2493 = .ok (.invokevirtual 267, 3) := by decide +kernel
theorem dL_law_2496 : decode cL_law 2496 = .ok (.aload_n 2, 1) := by decide +kernel
theorem dL_law_2497 : decode cL_law 2497 = .ok (.aload_n 0, 1) := by decide +kernel
theorem dL_law_2498 : decode cL_law 2498 = .ok (.iload 4, 2) := by decide +kernel
theorem dL_law_2500 : decode cL_law 2500 = .ok (.iconst 1, 1) := by decide +kernel
theorem dL_law_2501 : decode cL_law 2501 = .ok (.iadd, 1) := by decide +kernel
theorem dL_law_2502 : decode cL_law 2502 = .ok (.iaload, 1) := by decide +kernel
theorem dL_law_2503 : decode cL_law 2503 = .ok (.invokevirtual 270, 3) := by decide +kernel
theorem dL_law_2506 : decode cL_law 2506 = .ok (.if_icmp .eq 5, 3) := by decide +kernel
set_option maxRecDepth 10000 in
theorem lc_43 {sc : Nat × (Nat → Int32)} {d : Nat} {Q : aO → aH → Prop} {σ : aH} {u : Nat} {i N : Int} (hG : G σ u) (hi : 0 ≤ i ∧ i + 6 ≤ (sc.1 : Int)) (hl : (sc.1 : Int) ≤ 3072) (h : JD sc d mX9_count mX10_count [.int (nZ (xs sc (i + 1)))] σ N)
    (next : ∀ σ2 : aH, JE σ σ2 N → wp (Ev sc (d + 1)) 11 cL_law 7 (some .boolean) false [] sc Q 2511 [(0, .ref 1000000), (1, .ref 0), (2, .ref 76), (3, .ref 344), (4, .int (nZ i))] [] σ2) :
    wp (Ev sc (d + 1)) 11 cL_law 7 (some .boolean) false [] sc Q 2486 [(0, .ref 1000000), (1, .ref 0), (2, .ref 76), (3, .ref 344), (4, .int (nZ i))] [] σ := by
  refine w_aload_n dL_law_2486 rfl (List.Mem.tail _ (List.Mem.head _)) ?_
  refine w_aload_n dL_law_2487 rfl (List.Mem.head _) ?_
  refine w_iload dL_law_2488 (List.Mem.tail _ (List.Mem.tail _ (List.Mem.tail _ (List.Mem.tail _ (List.Mem.head _))))) ?_
  refine w_iconst (v := nZ 1) dL_law_2490 (by decide) ?_
  refine i_add dL_law_2491 ?_
  refine i_isld dL_law_2492 (by omega) (by omega) ?_
  obtain ⟨r, σ1, σ2, e1, rr, ⟨u1, g1⟩, e2, je⟩ := h
  refine w_callV dL_law_2493 ml_11_267 ⟨ok_X9_count, vi_X9_count⟩ hs_X9_count (As := [.int (nZ (xs sc (i + 1)))]) rfl rfl (gT hG rfl (lt_of rfl)) (Nat.le_of_ble_eq_true rfl) (Ev.mono _ _ _ _ _ _ e1) ?_
  show wp (Ev sc (d + 1)) 11 cL_law 7 (some .boolean) false [] sc Q 2496 [(0, .ref 1000000), (1, .ref 0), (2, .ref 76), (3, .ref 344), (4, .int (nZ i))] [.int (nZ r)] σ1
  refine w_aload_n dL_law_2496 rfl (List.Mem.tail _ (List.Mem.tail _ (List.Mem.head _))) ?_
  refine w_aload_n dL_law_2497 rfl (List.Mem.head _) ?_
  refine w_iload dL_law_2498 (List.Mem.tail _ (List.Mem.tail _ (List.Mem.tail _ (List.Mem.tail _ (List.Mem.head _))))) ?_
  refine w_iconst (v := nZ 1) dL_law_2500 (by decide) ?_
  refine i_add dL_law_2501 ?_
  refine i_isld dL_law_2502 (by omega) (by omega) ?_
  refine w_callV dL_law_2503 ml_11_270 ⟨ok_X10_count, vi_X10_count⟩ hs_X10_count (As := [.int (nZ (xs sc (i + 1)))]) rfl rfl (gT g1 rfl (lt_of rfl)) (Nat.le_of_ble_eq_true rfl) (Ev.mono _ _ _ _ _ _ e2) ?_
  show wp (Ev sc (d + 1)) 11 cL_law 7 (some .boolean) false [] sc Q 2506 [(0, .ref 1000000), (1, .ref 0), (2, .ref 76), (3, .ref 344), (4, .int (nZ i))] [.int (nZ r), .int (nZ r)] σ2
  exact i_cmp_eq (tgt := 2511) dL_law_2506 rfl rr rr (fun _ => next σ2 je) (fun c9 => absurd rfl c9)
