/-! THE LAW: its loop. -/
theorem dL_law_0 : decode cL_law 0 = .ok (.new 8, 3) := by decide +kernel
theorem dL_law_3 : decode cL_law 3 = .ok (.dup, 1) := by decide +kernel
theorem dL_law_4 : decode cL_law 4 = .ok (.invokespecial 113, 3) := by decide +kernel
theorem dL_law_7 : decode cL_law 7 = .ok (.astore_n 1, 1) := by decide +kernel
theorem dL_law_8 : decode cL_law 8 = .ok (.new 114, 3) := by decide +kernel
theorem dL_law_11 : decode cL_law 11 = .ok (.dup, 1) := by decide +kernel
theorem dL_law_12 : decode cL_law 12 = .ok (.invokespecial 116, 3) := by decide +kernel
theorem dL_law_15 : decode cL_law 15 = .ok (.astore_n 2, 1) := by decide +kernel
theorem dL_law_16 : decode cL_law 16 = .ok (.iconst 1, 1) := by decide +kernel
theorem dL_law_17 : decode cL_law 17 = .ok (.newarray .long, 2) := by decide +kernel
theorem dL_law_19 : decode cL_law 19 = .ok (.astore_n 3, 1) := by decide +kernel
theorem dL_law_20 : decode cL_law 20 = .ok (.iconst 0, 1) := by decide +kernel
theorem dL_law_21 : decode cL_law 21 = .ok (.istore 4, 2) := by decide +kernel
theorem dL_law_23 : decode cL_law 23 = .ok (.iload 4, 2) := by decide +kernel
theorem dL_law_25 : decode cL_law 25 = .ok (.aload_n 0, 1) := by decide +kernel
theorem dL_law_26 : decode cL_law 26 = .ok (.arraylength, 1) := by decide +kernel
theorem dL_law_27 : decode cL_law 27 = .ok (.bipush 6, 2) := by decide +kernel
theorem dL_law_29 : decode cL_law 29 = .ok (.isub, 1) := by decide +kernel
theorem dL_law_30 : decode cL_law 30 = .ok (.if_icmp .gt 2487, 3) := by decide +kernel
theorem dL_law_33 : decode cL_law 33 = .ok (.aload_n 0, 1) := by decide +kernel
theorem dL_law_34 : decode cL_law 34 = .ok (.iload 4, 2) := by decide +kernel
theorem dL_law_36 : decode cL_law 36 = .ok (.iaload, 1) := by decide +kernel
theorem dL_law_37 : decode cL_law 37 = .ok (.bipush 63, 2) := by decide +kernel
theorem dL_law_39 : decode cL_law 39 = .ok (.iand, 1) := by decide +kernel
theorem dL_law_40 : decode cL_law 40 = .ok (.tableswitch 2471 0 43 #[192, 265, 321, 334, 390, 458, 526, 613, 681, 749, 805, 885, 953, 1009, 1022, 1078, 1134, 1214, 1282, 1350, 1363, 1431, 1487, 1500, 1513, 1581, 1637, 1693, 1749, 1817, 1897, 1965, 2021, 2077, 2133, 2201, 2214, 2270, 2326, 2382, 2395, 2408, 2421, 2446], 192) := by decide +kernel
theorem dL_law_2511 : decode cL_law 2511 = .ok (.iinc 4 6, 3) := by decide +kernel
theorem dL_law_2514 : decode cL_law 2514 = .ok (.goto (-2491), 3) := by decide +kernel
theorem dL_law_2517 : decode cL_law 2517 = .ok (.iconst 1, 1) := by decide +kernel
theorem dL_law_2518 : decode cL_law 2518 = .ok (.ireturn, 1) := by decide +kernel
/-- what holds at the head of the loop, N calls done -/
def LI (σ : aH) (N W0 : Int) : Prop := (∃ (u v : Nat) (n W H : Int) (D : Nat → Int → Int) (Es Er : Nat → Option Int) (du fo : Int), J σ u v n W H D Es Er du fo N) ∧ (gN σ : Int) ≤ 345 + 2 * N ∧ (gW σ : Int) ≤ W0 + 20 * N
theorem LI.next {σ σ2 : aH} {N W0 : Int} (h : LI σ N W0) (je : JE σ σ2 N) : LI σ2 (N + 1) W0 := ⟨je.1, by have := h.2.1; have := je.2.1; omega, by have := h.2.2; have := je.2.2; omega⟩
set_option maxRecDepth 10000 in
set_option maxHeartbeats 4000000 in
theorem law_step {sc : Nat × (Nat → Int32)} {d : Nat} {Q : aO → aH → Prop} {σ : aH} {i N W0 : Int} (hl : (sc.1 : Int) ≤ 3072) (hi : 0 ≤ i ∧ i + 6 ≤ (sc.1 : Int)) (hN : 0 ≤ N ∧ N ≤ 1000) (hL : LI σ N W0) (next : ∀ σ2 : aH, JE σ σ2 N → wp (Ev sc (d + 13)) 11 cL_law 7 (some .boolean) false [] sc Q 2511 [(0, .ref 1000000), (1, .ref 0), (2, .ref 76), (3, .ref 344), (4, .int (nZ i))] [] σ2) : wp (Ev sc (d + 13)) 11 cL_law 7 (some .boolean) false [] sc Q 33 [(0, .ref 1000000), (1, .ref 0), (2, .ref 76), (3, .ref 344), (4, .int (nZ i))] [] σ := by
  obtain ⟨⟨u, v, n, W, H, D, Es, Er, du, fo, hJ⟩, hgN, hgW⟩ := hL
  have hg : gN σ ≤ 100000 := by omega
  have hG := hJ.1
  refine w_aload_n dL_law_33 rfl (List.Mem.head _) ?_
  refine w_iload dL_law_34 (List.Mem.tail _ (List.Mem.tail _ (List.Mem.tail _ (List.Mem.tail _ (List.Mem.head _))))) ?_
  refine i_isld dL_law_36 (by omega) (by omega) ?_
  refine w_bipush (v := nZ 63) dL_law_37 (by decide) ?_
  refine i_and dL_law_39 ?_
  obtain ⟨x, ex⟩ : ∃ x : Int, x = zAnd (xs sc i) 63 := ⟨_, rfl⟩
  have rx : inR x := by rw [ex]; exact zAnd_R _ _
  rw [← ex]
  rcases sw_cases x 0 43 with hz | hz
  · refine i_tabOut (tgt := 2511) dL_law_40 rx hz rfl ?_
    exact next σ ⟨⟨u, v, n, W, H, D, Es, Er, du, fo, hJ.more (by omega)⟩, by omega, by omega⟩
  by_cases hz0 : x = 0
  · exact i_tabIn (off := 192) (tgt := 232) 0 hz0 dL_law_40 rx (by decide) (by decide) rfl rfl (lc_0 hG hi hl (j_feed (sc := sc) (d := d) hJ hN (xs_R sc (i + 1)) (xs_R sc (i + 2)) (xs_R sc (i + 3)) (xs_R sc (i + 4)) (xs_R sc (i + 5))) next)
  by_cases hz1 : x = 1
  · exact i_tabIn (off := 265) (tgt := 305) 1 hz1 dL_law_40 rx (by decide) (by decide) rfl rfl (lc_1 hG hi hl (jw_market hG (j_market (sc := sc) (d := d) hJ hN hg (xs_R sc (i + 1)))) next)
  by_cases hz2 : x = 2
  · exact i_tabIn (off := 321) (tgt := 361) 2 hz2 dL_law_40 rx (by decide) (by decide) rfl rfl (lc_2 hG hi hl (j_fault (sc := sc) (d := d) hJ hN ) next)
  by_cases hz3 : x = 3
  · exact i_tabIn (off := 334) (tgt := 374) 3 hz3 dL_law_40 rx (by decide) (by decide) rfl rfl (lc_3 hG hi hl (jw_told hG (j_told (sc := sc) (d := d) hJ hN hg (xs_R sc (i + 1)))) next)
  by_cases hz4 : x = 4
  · exact i_tabIn (off := 390) (tgt := 430) 4 hz4 dL_law_40 rx (by decide) (by decide) rfl rfl (lc_4 hG hi hl (jw_stall hG (j_stall (sc := sc) (d := d) hJ hN hg (xs_R sc (i + 1)) (xs_R sc (i + 2)))) next)
  by_cases hz5 : x = 5
  · exact i_tabIn (off := 458) (tgt := 498) 5 hz5 dL_law_40 rx (by decide) (by decide) rfl rfl (lc_5 hG hi hl (jw_length hG (j_length (sc := sc) (d := d) hJ hN hg (xs_R sc (i + 1)) (xs_R sc (i + 2)))) next)
  by_cases hz6 : x = 6
  · exact i_tabIn (off := 526) (tgt := 566) 6 hz6 dL_law_40 rx (by decide) (by decide) rfl rfl (lc_6 hG hi hl (jw_shades hG (j_shades (sc := sc) (d := d) hJ hN hg (xs_R sc (i + 1)) (xs_R sc (i + 2)) (xs_R sc (i + 3)))) next)
  by_cases hz7 : x = 7
  · exact i_tabIn (off := 613) (tgt := 653) 7 hz7 dL_law_40 rx (by decide) (by decide) rfl rfl (lc_7 hG hi hl (jw_under hG (j_under (sc := sc) (d := d) hJ hN hg (xs_R sc (i + 1)) (xs_R sc (i + 2)))) next)
  by_cases hz8 : x = 8
  · exact i_tabIn (off := 681) (tgt := 721) 8 hz8 dL_law_40 rx (by decide) (by decide) rfl rfl (lc_8 hG hi hl (jw_minutes hG (j_minutes (sc := sc) (d := d) hJ hN hg (xs_R sc (i + 1)) (xs_R sc (i + 2)))) next)
  by_cases hz9 : x = 9
  · exact i_tabIn (off := 749) (tgt := 789) 9 hz9 dL_law_40 rx (by decide) (by decide) rfl rfl (lc_9 hG hi hl (jw_chill hG (j_chill (sc := sc) (d := d) hJ hN hg (xs_R sc (i + 1)))) next)
  by_cases hz10 : x = 10
  · exact i_tabIn (off := 805) (tgt := 845) 10 hz10 dL_law_40 rx (by decide) (by decide) rfl rfl (lc_10 hG hi hl (jw_owes hG (j_owes (sc := sc) (d := d) hJ hN hg (xs_R sc (i + 1)) (xs_R sc (i + 2)) (xs_R sc (i + 3)))) next)
  by_cases hz11 : x = 11
  · exact i_tabIn (off := 885) (tgt := 925) 11 hz11 dL_law_40 rx (by decide) (by decide) rfl rfl (lc_11 hG hi hl (jw_net hG (j_net (sc := sc) (d := d) hJ hN hg (xs_R sc (i + 1)) (xs_R sc (i + 2)))) next)
  by_cases hz12 : x = 12
  · exact i_tabIn (off := 953) (tgt := 993) 12 hz12 dL_law_40 rx (by decide) (by decide) rfl rfl (lc_12 hG hi hl (jw_payments hG (j_payments (sc := sc) (d := d) hJ hN hg (xs_R sc (i + 1)))) next)
  by_cases hz13 : x = 13
  · exact i_tabIn (off := 1009) (tgt := 1049) 13 hz13 dL_law_40 rx (by decide) (by decide) rfl rfl (lc_13 hG hi hl (j_due (sc := sc) (d := d) hJ hN ) next)
  by_cases hz14 : x = 14
  · exact i_tabIn (off := 1022) (tgt := 1062) 14 hz14 dL_law_40 rx (by decide) (by decide) rfl rfl (lc_14 hG hi hl (jw_first hG (j_first (sc := sc) (d := d) hJ hN hg (xs_R sc (i + 1)))) next)
  by_cases hz15 : x = 15
  · exact i_tabIn (off := 1078) (tgt := 1118) 15 hz15 dL_law_40 rx (by decide) (by decide) rfl rfl (lc_15 hG hi hl (jw_winter hG (j_winter (sc := sc) (d := d) hJ hN hg (xs_R sc (i + 1)))) next)
  by_cases hz16 : x = 16
  · exact i_tabIn (off := 1134) (tgt := 1174) 16 hz16 dL_law_40 rx (by decide) (by decide) rfl rfl (lc_16 hG hi hl (jw_move hG (j_move (sc := sc) (d := d) hJ hN hg (xs_R sc (i + 1)) (xs_R sc (i + 2)) (xs_R sc (i + 3)))) next)
  by_cases hz17 : x = 17
  · exact i_tabIn (off := 1214) (tgt := 1254) 17 hz17 dL_law_40 rx (by decide) (by decide) rfl rfl (lc_17 hG hi hl (jw_tall hG (j_tall (sc := sc) (d := d) hJ hN hg (xs_R sc (i + 1)) (xs_R sc (i + 2)))) next)
  by_cases hz18 : x = 18
  · exact i_tabIn (off := 1282) (tgt := 1322) 18 hz18 dL_law_40 rx (by decide) (by decide) rfl rfl (lc_18 hG hi hl (jw_set hG (j_set (sc := sc) (d := d) hJ hN hg (xs_R sc (i + 1)) (xs_R sc (i + 2)))) next)
  by_cases hz19 : x = 19
  · exact i_tabIn (off := 1350) (tgt := 1390) 19 hz19 dL_law_40 rx (by decide) (by decide) rfl rfl (lc_19 hG hi hl (j_exchange (sc := sc) (d := d) hJ hN ) next)
  by_cases hz20 : x = 20
  · exact i_tabIn (off := 1363) (tgt := 1403) 20 hz20 dL_law_40 rx (by decide) (by decide) rfl rfl (lc_20 hG hi hl (jw_pole hG (j_pole (sc := sc) (d := d) hJ hN hg (xs_R sc (i + 1)) (xs_R sc (i + 2)))) next)
  by_cases hz21 : x = 21
  · exact i_tabIn (off := 1431) (tgt := 1471) 21 hz21 dL_law_40 rx (by decide) (by decide) rfl rfl (lc_21 hG hi hl (jw_wish hG (j_wish (sc := sc) (d := d) hJ hN hg (xs_R sc (i + 1)))) next)
  by_cases hz22 : x = 22
  · exact i_tabIn (off := 1487) (tgt := 1527) 22 hz22 dL_law_40 rx (by decide) (by decide) rfl rfl (lc_22 hG hi hl (j_play (sc := sc) (d := d) hJ hN ) next)
  by_cases hz23 : x = 23
  · exact i_tabIn (off := 1500) (tgt := 1540) 23 hz23 dL_law_40 rx (by decide) (by decide) rfl rfl (lc_23 hG hi hl (j_rounds (sc := sc) (d := d) hJ hN ) next)
  by_cases hz24 : x = 24
  · exact i_tabIn (off := 1513) (tgt := 1553) 24 hz24 dL_law_40 rx (by decide) (by decide) rfl rfl (lc_24 hG hi hl (jw_cold hG (j_cold (sc := sc) (d := d) hJ hN hg (xs_R sc (i + 1)) (xs_R sc (i + 2)))) next)
  by_cases hz25 : x = 25
  · exact i_tabIn (off := 1581) (tgt := 1621) 25 hz25 dL_law_40 rx (by decide) (by decide) rfl rfl (lc_25 hG hi hl (jw_what hG (j_what (sc := sc) (d := d) hJ hN hg (xs_R sc (i + 1)))) next)
  by_cases hz26 : x = 26
  · exact i_tabIn (off := 1637) (tgt := 1677) 26 hz26 dL_law_40 rx (by decide) (by decide) rfl rfl (lc_26 hG hi hl (jw_days hG (j_days (sc := sc) (d := d) hJ hN hg (xs_R sc (i + 1)))) next)
  by_cases hz27 : x = 27
  · exact i_tabIn (off := 1693) (tgt := 1733) 27 hz27 dL_law_40 rx (by decide) (by decide) rfl rfl (lc_27 hG hi hl (jw_when hG (j_when (sc := sc) (d := d) hJ hN hg (xs_R sc (i + 1)))) next)
  by_cases hz28 : x = 28
  · exact i_tabIn (off := 1749) (tgt := 1789) 28 hz28 dL_law_40 rx (by decide) (by decide) rfl rfl (lc_28 hG hi hl (jw_clouds hG (j_clouds (sc := sc) (d := d) hJ hN hg (xs_R sc (i + 1)) (xs_R sc (i + 2)))) next)
  by_cases hz29 : x = 29
  · exact i_tabIn (off := 1817) (tgt := 1857) 29 hz29 dL_law_40 rx (by decide) (by decide) rfl rfl (lc_29 hG hi hl (jw_span hG (j_span (sc := sc) (d := d) hJ hN hg (xs_R sc (i + 1)) (xs_R sc (i + 2)) (xs_R sc (i + 3)))) next)
  by_cases hz30 : x = 30
  · exact i_tabIn (off := 1897) (tgt := 1937) 30 hz30 dL_law_40 rx (by decide) (by decide) rfl rfl (lc_30 hG hi hl (jw_led hG (j_led (sc := sc) (d := d) hJ hN hg (xs_R sc (i + 1)) (xs_R sc (i + 2)))) next)
  by_cases hz31 : x = 31
  · exact i_tabIn (off := 1965) (tgt := 2005) 31 hz31 dL_law_40 rx (by decide) (by decide) rfl rfl (lc_31 hG hi hl (jw_whose hG (j_whose (sc := sc) (d := d) hJ hN hg (xs_R sc (i + 1)))) next)
  by_cases hz32 : x = 32
  · exact i_tabIn (off := 2021) (tgt := 2061) 32 hz32 dL_law_40 rx (by decide) (by decide) rfl rfl (lc_32 hG hi hl (jw_harmless hG (j_harmless (sc := sc) (d := d) hJ hN hg (xs_R sc (i + 1)))) next)
  by_cases hz33 : x = 33
  · exact i_tabIn (off := 2077) (tgt := 2117) 33 hz33 dL_law_40 rx (by decide) (by decide) rfl rfl (lc_33 hG hi hl (jw_folded hG (j_folded (sc := sc) (d := d) hJ hN hg (xs_R sc (i + 1)))) next)
  by_cases hz34 : x = 34
  · exact i_tabIn (off := 2133) (tgt := 2173) 34 hz34 dL_law_40 rx (by decide) (by decide) rfl rfl (lc_34 hG hi hl (jw_awned hG (j_awned (sc := sc) (d := d) hJ hN hg (xs_R sc (i + 1)) (xs_R sc (i + 2)))) next)
  by_cases hz35 : x = 35
  · exact i_tabIn (off := 2201) (tgt := 2241) 35 hz35 dL_law_40 rx (by decide) (by decide) rfl rfl (lc_35 hG hi hl (j_lights (sc := sc) (d := d) hJ hN ) next)
  by_cases hz36 : x = 36
  · exact i_tabIn (off := 2214) (tgt := 2254) 36 hz36 dL_law_40 rx (by decide) (by decide) rfl rfl (lc_36 hG hi hl (jw_hour hG (j_hour (sc := sc) (d := d) hJ hN hg (xs_R sc (i + 1)))) next)
  by_cases hz37 : x = 37
  · exact i_tabIn (off := 2270) (tgt := 2310) 37 hz37 dL_law_40 rx (by decide) (by decide) rfl rfl (lc_37 hG hi hl (jw_improved hG (j_improved (sc := sc) (d := d) hJ hN hg (xs_R sc (i + 1)))) next)
  by_cases hz38 : x = 38
  · exact i_tabIn (off := 2326) (tgt := 2366) 38 hz38 dL_law_40 rx (by decide) (by decide) rfl rfl (lc_38 hG hi hl (jw_out hG (j_out (sc := sc) (d := d) hJ hN hg (xs_R sc (i + 1)))) next)
  by_cases hz39 : x = 39
  · exact i_tabIn (off := 2382) (tgt := 2422) 39 hz39 dL_law_40 rx (by decide) (by decide) rfl rfl (lc_39 hG hi hl (j_suns (sc := sc) (d := d) hJ hN ) next)
  by_cases hz40 : x = 40
  · exact i_tabIn (off := 2395) (tgt := 2435) 40 hz40 dL_law_40 rx (by decide) (by decide) rfl rfl (lc_40 hG hi hl (j_image (sc := sc) (d := d) hJ hN ) next)
  by_cases hz41 : x = 41
  · exact i_tabIn (off := 2408) (tgt := 2448) 41 hz41 dL_law_40 rx (by decide) (by decide) rfl rfl (lc_41 hG hi hl (j_restore (sc := sc) (d := d) hJ hN ) next)
  by_cases hz42 : x = 42
  · exact i_tabIn (off := 2421) (tgt := 2461) 42 hz42 dL_law_40 rx (by decide) (by decide) rfl rfl (lc_42 hG hi hl (j_status (sc := sc) (d := d) hJ hN (xs_R sc (i + 1))) next)
  have hz43 : x = 43 := by omega
  exact i_tabIn (off := 2446) (tgt := 2486) 43 hz43 dL_law_40 rx (by decide) (by decide) rfl rfl (lc_43 hG hi hl (j_count (sc := sc) (d := d) hJ hN (xs_R sc (i + 1))) next)
set_option maxRecDepth 10000 in
theorem law_loop {sc : Nat × (Nat → Int32)} {d : Nat} {Q : aO → aH → Prop} {W0 : Int} (hl : (sc.1 : Int) ≤ 3072) (fin : ∀ σ : aH, (gN σ : Int) ≤ 1369 → (gW σ : Int) ≤ W0 + 10240 → Q (.inl (some (.int (nZ 1)))) σ) : ∀ (g : Nat) (i N : Int) (σ : aH), (sc.1 : Int) - i < 6 * (g : Int) + 6 → i = 6 * N → 0 ≤ N → (N = 0 ∨ i ≤ (sc.1 : Int)) → LI σ N W0 → wp (Ev sc (d + 13)) 11 cL_law 7 (some .boolean) false [] sc Q 23 [(0, .ref 1000000), (1, .ref 0), (2, .ref 76), (3, .ref 344), (4, .int (nZ i))] [] σ := by
  intro g
  induction g with
  | zero =>
    intro i N σ hg ei h0 hb hL
    refine w_iload dL_law_23 (List.Mem.tail _ (List.Mem.tail _ (List.Mem.tail _ (List.Mem.tail _ (List.Mem.head _))))) ?_
    refine w_aload_n dL_law_25 rfl (List.Mem.head _) ?_
    refine w_slen dL_law_26 ?_
    rw [nI_Z]
    refine w_bipush (v := nZ 6) dL_law_27 (by decide) ?_
    refine i_sub dL_law_29 ?_
    refine i_cmp_gt (tgt := 2517) dL_law_30 rfl (by omega) (by omega) (fun c9 => ?_) (fun c9 => by omega)
    refine w_iconst (v := nZ 1) dL_law_2517 (by decide) ?_
    exact i_zret dL_law_2518 rfl (by decide) (fin σ (by have := hL.2.1; omega) (by have := hL.2.2; omega))
  | succ g ih =>
    intro i N σ hg ei h0 hb hL
    refine w_iload dL_law_23 (List.Mem.tail _ (List.Mem.tail _ (List.Mem.tail _ (List.Mem.tail _ (List.Mem.head _))))) ?_
    refine w_aload_n dL_law_25 rfl (List.Mem.head _) ?_
    refine w_slen dL_law_26 ?_
    rw [nI_Z]
    refine w_bipush (v := nZ 6) dL_law_27 (by decide) ?_
    refine i_sub dL_law_29 ?_
    refine i_cmp_gt (tgt := 2517) dL_law_30 rfl (by omega) (by omega) (fun c9 => ?_) (fun c9 => ?_)
    · refine w_iconst (v := nZ 1) dL_law_2517 (by decide) ?_
      exact i_zret dL_law_2518 rfl (by decide) (fin σ (by have := hL.2.1; omega) (by have := hL.2.2; omega))
    · refine law_step hl ⟨by omega, by omega⟩ ⟨h0, by omega⟩ hL (fun σ2 je => ?_)
      refine w_iinc (v := nZ (i + 6)) (l' := [(4, .int (nZ (i + 6))), (0, .ref 1000000), (1, .ref 0), (2, .ref 76), (3, .ref 344)]) dL_law_2511 (List.Mem.tail _ (List.Mem.tail _ (List.Mem.tail _ (List.Mem.tail _ (List.Mem.head _))))) (nZ_add _ _) (by decide) rfl ?_
      refine w_goto (tgt := 23) dL_law_2514 rfl ?_
      exact w_weak (l' := [(0, .ref 1000000), (1, .ref 0), (2, .ref 76), (3, .ref 344), (4, .int (nZ (i + 6)))]) (by intro q hq; simp only [List.mem_cons, List.not_mem_nil, or_false] at hq ⊢; rcases hq with rfl | rfl | rfl | rfl | rfl <;> simp) (ih (i + 6) (N + 1) σ2 (by omega) (by omega) (by omega) (Or.inr (by omega)) (hL.next je))
