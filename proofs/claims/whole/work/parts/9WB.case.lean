theorem dL_law_566 : decode cL_law 566 = .ok (.aload_n 1, 1) := by decide +kernel
theorem dL_law_567 : decode cL_law 567 = .ok (.aload_n 0, 1) := by decide +kernel
theorem dL_law_568 : decode cL_law 568 = .ok (.iload 4, 2) := by decide +kernel
theorem dL_law_570 : decode cL_law 570 = .ok (.iconst 1, 1) := by decide +kernel
theorem dL_law_571 : decode cL_law 571 = .ok (.iadd, 1) := by decide +kernel
theorem dL_law_572 : decode cL_law 572 = .ok (.iaload, 1) := by decide +kernel
theorem dL_law_573 : decode cL_law 573 = .ok (.aload_n 0, 1) := by decide +kernel
theorem dL_law_574 : decode cL_law 574 = .ok (.iload 4, 2) := by decide +kernel
theorem dL_law_576 : decode cL_law 576 = .ok (.iconst 2, 1) := by decide +kernel
theorem dL_law_577 : decode cL_law 577 = .ok (.iadd, 1) := by decide +kernel
theorem dL_law_578 : decode cL_law 578 = .ok (.iaload, 1) := by decide +kernel
theorem dL_law_579 : decode cL_law 579 = .ok (.aload_n 0, 1) := by decide +kernel
theorem dL_law_580 : decode cL_law 580 = .ok (.iload 4, 2) := by decide +kernel
theorem dL_law_582 : decode cL_law 582 = .ok (.iconst 3, 1) := by decide +kernel
theorem dL_law_583 : decode cL_law 583 = .ok (.iadd, 1) := by decide +kernel
theorem dL_law_584 : decode cL_law 584 = .ok (.iaload, 1) := by decide +kernel
theorem dL_law_585 : decode cL_law 585 = .ok (.aload_n 3, 1) := by decide +kernel
theorem dL_law_586 : decode cL_law 586 = .ok (.invokestatic 146, 3) := by decide +kernel
theorem dL_law_589 : decode cL_law 589 = .ok (.istore 5, 2) := by decide +kernel
theorem dL_law_591 : decode cL_law 591 = .ok (.aload_n 2, 1) := by decide +kernel
theorem dL_law_592 : decode cL_law 592 = .ok (.aload_n 0, 1) := by decide +kernel
theorem dL_law_593 : decode cL_law 593 = .ok (.iload 4, 2) := by decide +kernel
theorem dL_law_595 : decode cL_law 595 = .ok (.iconst 1, 1) := by decide +kernel
theorem dL_law_596 : decode cL_law 596 = .ok (.iadd, 1) := by decide +kernel
theorem dL_law_597 : decode cL_law 597 = .ok (.iaload, 1) := by decide +kernel
theorem dL_law_598 : decode cL_law 598 = .ok (.aload_n 0, 1) := by decide +kernel
theorem dL_law_599 : decode cL_law 599 = .ok (.iload 4, 2) := by decide +kernel
theorem dL_law_601 : decode cL_law 601 = .ok (.iconst 2, 1) := by decide +kernel
theorem dL_law_602 : decode cL_law 602 = .ok (.iadd, 1) := by decide +kernel
theorem dL_law_603 : decode cL_law 603 = .ok (.iaload, 1) := by decide +kernel
theorem dL_law_604 : decode cL_law 604 = .ok (.aload_n 0, 1) := by decide +kernel
theorem dL_law_605 : decode cL_law 605 = .ok (.iload 4, 2) := by decide +kernel
theorem dL_law_607 : decode cL_law 607 = .ok (.iconst 3, 1) := by decide +kernel
theorem dL_law_608 : decode cL_law 608 = .ok (.iadd, 1) := by decide +kernel
theorem dL_law_609 : decode cL_law 609 = .ok (.iaload, 1) := by decide +kernel
theorem dL_law_610 : decode cL_law 610 = .ok (.invokevirtual 149, 3) := by decide +kernel
theorem dL_law_613 : decode cL_law 613 = .ok (.istore 6, 2) := by decide +kernel
theorem dL_law_615 : decode cL_law 615 = .ok (.aload_n 2, 1) := by decide +kernel
theorem dL_law_616 : decode cL_law 616 = .ok (.invokevirtual 128, 3) := by decide +kernel
theorem dL_law_619 : decode cL_law 619 = .ok (.iload 5, 2) := by decide +kernel
theorem dL_law_621 : decode cL_law 621 = .ok (.if_icmp .eq 5, 3) := by decide +kernel
theorem dL_law_626 : decode cL_law 626 = .ok (.iload 5, 2) := by decide +kernel
theorem dL_law_650 : decode cL_law 650 = .ok (.goto 1861, 3) := by decide +kernel
theorem dL_law_628 : decode cL_law 628 = .ok (.ifCond .ne 22, 3) := by decide +kernel
theorem dL_law_631 : decode cL_law 631 = .ok (.aload_n 3, 1) := by decide +kernel
theorem dL_law_632 : decode cL_law 632 = .ok (.iconst 0, 1) := by decide +kernel
theorem dL_law_633 : decode cL_law 633 = .ok (.laload, 1) := by decide +kernel
theorem dL_law_634 : decode cL_law 634 = .ok (.iload 6, 2) := by decide +kernel
theorem dL_law_636 : decode cL_law 636 = .ok (.ifCond .eq 7, 3) := by decide +kernel
theorem dL_law_643 : decode cL_law 643 = .ok (.lconst 0, 1) := by decide +kernel
theorem dL_law_644 : decode cL_law 644 = .ok (.lcmp, 1) := by decide +kernel
theorem dL_law_645 : decode cL_law 645 = .ok (.ifCond .eq 5, 3) := by decide +kernel
theorem dL_law_639 : decode cL_law 639 = .ok (.lconst 1, 1) := by decide +kernel
theorem dL_law_640 : decode cL_law 640 = .ok (.goto 4, 3) := by decide +kernel
set_option maxRecDepth 10000 in
theorem lc_6 {sc : Nat × (Nat → Int32)} {d : Nat} {Q : aO → aH → Prop} {σ : aH} {u : Nat} {i N : Int} (hG : G σ u) (hi : 0 ≤ i ∧ i + 6 ≤ (sc.1 : Int)) (hl : (sc.1 : Int) ≤ 3072) (h : JW sc (d + 1) mL_shades mX10_shades [.int (nZ (xs sc (i + 1))), .int (nZ (xs sc (i + 2))), .int (nZ (xs sc (i + 3)))] σ N (fun r => r = 0 ∨ r = 1))
    (next : ∀ σ2 : aH, JE σ σ2 N → wp (Ev sc (d + 1)) 11 cL_law 7 (some .boolean) false [] sc Q 2511 [(0, .ref 1000000), (1, .ref 0), (2, .ref 76), (3, .ref 344), (4, .int (nZ i))] [] σ2) :
    wp (Ev sc (d + 1)) 11 cL_law 7 (some .boolean) false [] sc Q 566 [(0, .ref 1000000), (1, .ref 0), (2, .ref 76), (3, .ref 344), (4, .int (nZ i))] [] σ := by
  refine w_aload_n dL_law_566 rfl (List.Mem.tail _ (List.Mem.head _)) ?_
  refine w_aload_n dL_law_567 rfl (List.Mem.head _) ?_
  refine w_iload dL_law_568 (List.Mem.tail _ (List.Mem.tail _ (List.Mem.tail _ (List.Mem.tail _ (List.Mem.head _))))) ?_
  refine w_iconst (v := nZ 1) dL_law_570 (by decide) ?_
  refine i_add dL_law_571 ?_
  refine i_isld dL_law_572 (by omega) (by omega) ?_
  refine w_aload_n dL_law_573 rfl (List.Mem.head _) ?_
  refine w_iload dL_law_574 (List.Mem.tail _ (List.Mem.tail _ (List.Mem.tail _ (List.Mem.tail _ (List.Mem.head _))))) ?_
  refine w_iconst (v := nZ 2) dL_law_576 (by decide) ?_
  refine i_add dL_law_577 ?_
  refine i_isld dL_law_578 (by omega) (by omega) ?_
  refine w_aload_n dL_law_579 rfl (List.Mem.head _) ?_
  refine w_iload dL_law_580 (List.Mem.tail _ (List.Mem.tail _ (List.Mem.tail _ (List.Mem.tail _ (List.Mem.head _))))) ?_
  refine w_iconst (v := nZ 3) dL_law_582 (by decide) ?_
  refine i_add dL_law_583 ?_
  refine i_isld dL_law_584 (by omega) (by omega) ?_
  refine w_aload_n dL_law_585 rfl (List.Mem.tail _ (List.Mem.tail _ (List.Mem.tail _ (List.Mem.head _)))) ?_
  obtain ⟨k, r, σ1, σ2, u1, u2, e1, rk, g1, e2, rr, g2, t0, tj, je⟩ := h
  refine w_callW dL_law_586 mp_11_146 ⟨ok_L_shades, st_L_shades⟩ hs_L_shades (As := [.ref 0, .int (nZ (xs sc (i + 1))), .int (nZ (xs sc (i + 2))), .int (nZ (xs sc (i + 3))), .ref 344]) rfl rfl (Nat.le_of_ble_eq_true rfl) e1 ?_
  show wp (Ev sc (d + 1)) 11 cL_law 7 (some .boolean) false [] sc Q 589 [(0, .ref 1000000), (1, .ref 0), (2, .ref 76), (3, .ref 344), (4, .int (nZ i))] [.int (nZ k)] σ1
  refine w_istore (l' := [(5, .int (nZ k)), (0, .ref 1000000), (1, .ref 0), (2, .ref 76), (3, .ref 344), (4, .int (nZ i))]) dL_law_589 (by decide) rfl ?_
  refine w_aload_n dL_law_591 rfl (List.Mem.tail _ (List.Mem.tail _ (List.Mem.tail _ (List.Mem.head _)))) ?_
  refine w_aload_n dL_law_592 rfl (List.Mem.tail _ (List.Mem.head _)) ?_
  refine w_iload dL_law_593 (List.Mem.tail _ (List.Mem.tail _ (List.Mem.tail _ (List.Mem.tail _ (List.Mem.tail _ (List.Mem.head _)))))) ?_
  refine w_iconst (v := nZ 1) dL_law_595 (by decide) ?_
  refine i_add dL_law_596 ?_
  refine i_isld dL_law_597 (by omega) (by omega) ?_
  refine w_aload_n dL_law_598 rfl (List.Mem.tail _ (List.Mem.head _)) ?_
  refine w_iload dL_law_599 (List.Mem.tail _ (List.Mem.tail _ (List.Mem.tail _ (List.Mem.tail _ (List.Mem.tail _ (List.Mem.head _)))))) ?_
  refine w_iconst (v := nZ 2) dL_law_601 (by decide) ?_
  refine i_add dL_law_602 ?_
  refine i_isld dL_law_603 (by omega) (by omega) ?_
  refine w_aload_n dL_law_604 rfl (List.Mem.tail _ (List.Mem.head _)) ?_
  refine w_iload dL_law_605 (List.Mem.tail _ (List.Mem.tail _ (List.Mem.tail _ (List.Mem.tail _ (List.Mem.tail _ (List.Mem.head _)))))) ?_
  refine w_iconst (v := nZ 3) dL_law_607 (by decide) ?_
  refine i_add dL_law_608 ?_
  refine i_isld dL_law_609 (by omega) (by omega) ?_
  refine w_callV dL_law_610 ml_11_149 ⟨ok_X10_shades, vi_X10_shades⟩ hs_X10_shades (As := [.int (nZ (xs sc (i + 1))), .int (nZ (xs sc (i + 2))), .int (nZ (xs sc (i + 3)))]) rfl rfl (gT g1 rfl (lt_of rfl)) (Nat.le_of_ble_eq_true rfl) e2 ?_
  show wp (Ev sc (d + 1)) 11 cL_law 7 (some .boolean) false [] sc Q 613 [(5, .int (nZ k)), (0, .ref 1000000), (1, .ref 0), (2, .ref 76), (3, .ref 344), (4, .int (nZ i))] [.int (nZ r)] σ2
  refine w_istore (l' := [(6, .int (nZ r)), (5, .int (nZ k)), (0, .ref 1000000), (1, .ref 0), (2, .ref 76), (3, .ref 344), (4, .int (nZ i))]) dL_law_613 (by decide) rfl ?_
  refine w_aload_n dL_law_615 rfl (List.Mem.tail _ (List.Mem.tail _ (List.Mem.tail _ (List.Mem.tail _ (List.Mem.head _))))) ?_
  refine w_callV dL_law_616 ml_11_128 ⟨ok_X10_thrown, vi_X10_thrown⟩ hs_X10_thrown (As := []) rfl rfl (gT g2 rfl (lt_of rfl)) (Nat.le_of_ble_eq_true rfl) (s_thrown g2) ?_
  show wp (Ev sc (d + 1)) 11 cL_law 7 (some .boolean) false [] sc Q 619 [(6, .int (nZ r)), (5, .int (nZ k)), (0, .ref 1000000), (1, .ref 0), (2, .ref 76), (3, .ref 344), (4, .int (nZ i))] [.int (nZ (rI σ2 76 0))] σ2
  refine w_iload dL_law_619 (List.Mem.tail _ (List.Mem.head _)) ?_
  refine i_cmp_eq (tgt := 626) dL_law_621 rfl (rI_R _ _ _) rk (fun _ => ?_) (fun c9 => absurd t0 c9)
  refine w_iload dL_law_626 (List.Mem.tail _ (List.Mem.head _)) ?_
  have fin : wp (Ev sc (d + 1)) 11 cL_law 7 (some .boolean) false [] sc Q 650 [(6, .int (nZ r)), (5, .int (nZ k)), (0, .ref 1000000), (1, .ref 0), (2, .ref 76), (3, .ref 344), (4, .int (nZ i))] [] σ2 := by
    refine w_goto (tgt := 2511) dL_law_650 rfl ?_
    exact w_weak (l' := [(0, .ref 1000000), (1, .ref 0), (2, .ref 76), (3, .ref 344), (4, .int (nZ i))]) (by intro q hq; simp only [List.mem_cons, List.not_mem_nil, or_false] at hq ⊢; rcases hq with rfl | rfl | rfl | rfl | rfl <;> simp) (next σ2 je)
  refine i_if_ne (tgt := 650) dL_law_628 rfl rk (fun _ => fin) (fun c9 => ?_)
  obtain ⟨tj, hb⟩ := tj c9
  refine w_aload_n dL_law_631 rfl (List.Mem.tail _ (List.Mem.tail _ (List.Mem.tail _ (List.Mem.tail _ (List.Mem.tail _ (List.Mem.head _)))))) ?_
  refine w_iconst (v := nZ 0) dL_law_632 (by decide) ?_
  refine i_lald (n := 1) dL_law_633 (gT g2 rfl (lt_of rfl)) (gL g2 rfl) (by decide) (by decide) ?_
  rw [tj]
  refine w_iload dL_law_634 (List.Mem.head _) ?_
  refine i_if_eq (tgt := 643) dL_law_636 rfl rr (fun c8 => ?_) (fun c8 => ?_)
  · subst c8
    refine w_lconst (v := nJ 0) dL_law_643 (by decide) ?_
    refine j_cmp dL_law_644 (by omega) (by omega) ?_
    rw [show (if (0 : Int) < (0 : Int) then (1 : Int) else if (0 : Int) = (0 : Int) then 0 else (-1)) = 0 by rw [if_neg (by omega), if_pos rfl]]
    exact i_if_eq (tgt := 650) dL_law_645 rfl (by decide) (fun _ => fin) (fun c8 => absurd rfl c8)
  · have c7 : r = 1 := hb.resolve_left c8
    subst c7
    refine w_lconst (v := nJ 1) dL_law_639 (by decide) ?_
    refine w_goto (tgt := 644) dL_law_640 rfl ?_
    refine j_cmp dL_law_644 (by omega) (by omega) ?_
    rw [show (if (1 : Int) < (1 : Int) then (1 : Int) else if (1 : Int) = (1 : Int) then 0 else (-1)) = 0 by rw [if_neg (by omega), if_pos rfl]]
    exact i_if_eq (tgt := 650) dL_law_645 rfl (by decide) (fun _ => fin) (fun c8 => absurd rfl c8)
theorem dL_law_653 : decode cL_law 653 = .ok (.aload_n 1, 1) := by decide +kernel
theorem dL_law_654 : decode cL_law 654 = .ok (.aload_n 0, 1) := by decide +kernel
theorem dL_law_655 : decode cL_law 655 = .ok (.iload 4, 2) := by decide +kernel
theorem dL_law_657 : decode cL_law 657 = .ok (.iconst 1, 1) := by decide +kernel
theorem dL_law_658 : decode cL_law 658 = .ok (.iadd, 1) := by decide +kernel
theorem dL_law_659 : decode cL_law 659 = .ok (.iaload, 1) := by decide +kernel
theorem dL_law_660 : decode cL_law 660 = .ok (.aload_n 0, 1) := by decide +kernel
theorem dL_law_661 : decode cL_law 661 = .ok (.iload 4, 2) := by decide +kernel
theorem dL_law_663 : decode cL_law 663 = .ok (.iconst 2, 1) := by decide +kernel
theorem dL_law_664 : decode cL_law 664 = .ok (.iadd, 1) := by decide +kernel
theorem dL_law_665 : decode cL_law 665 = .ok (.iaload, 1) := by decide +kernel
theorem dL_law_666 : decode cL_law 666 = .ok (.aload_n 3, 1) := by decide +kernel
theorem dL_law_667 : decode cL_law 667 = .ok (.invokestatic 150, 3) := by decide +kernel
theorem dL_law_670 : decode cL_law 670 = .ok (.istore 5, 2) := by decide +kernel
theorem dL_law_672 : decode cL_law 672 = .ok (.aload_n 2, 1) := by decide +kernel
theorem dL_law_673 : decode cL_law 673 = .ok (.aload_n 0, 1) := by decide +kernel
theorem dL_law_674 : decode cL_law 674 = .ok (.iload 4, 2) := by decide +kernel
theorem dL_law_676 : decode cL_law 676 = .ok (.iconst 1, 1) := by decide +kernel
theorem dL_law_677 : decode cL_law 677 = .ok (.iadd, 1) := by decide +kernel
theorem dL_law_678 : decode cL_law 678 = .ok (.iaload, 1) := by decide +kernel
theorem dL_law_679 : decode cL_law 679 = .ok (.aload_n 0, 1) := by decide +kernel
theorem dL_law_680 : decode cL_law 680 = .ok (.iload 4, 2) := by decide +kernel
theorem dL_law_682 : decode cL_law 682 = .ok (.iconst 2, 1) := by decide +kernel
theorem dL_law_683 : decode cL_law 683 = .ok (.iadd, 1) := by decide +kernel
theorem dL_law_684 : decode cL_law 684 = .ok (.iaload, 1) := by decide +kernel
theorem dL_law_685 : decode cL_law 685 = .ok (.invokevirtual 152, 3) := by decide +kernel
theorem dL_law_688 : decode cL_law 688 = .ok (.istore 6, 2) := by decide +kernel
theorem dL_law_690 : decode cL_law 690 = .ok (.aload_n 2, 1) := by decide +kernel
theorem dL_law_691 : decode cL_law 691 = .ok (.invokevirtual 128, 3) := by decide +kernel
theorem dL_law_694 : decode cL_law 694 = .ok (.iload 5, 2) := by decide +kernel
theorem dL_law_696 : decode cL_law 696 = .ok (.if_icmp .eq 5, 3) := by decide +kernel
theorem dL_law_701 : decode cL_law 701 = .ok (.iload 5, 2) := by decide +kernel
theorem dL_law_718 : decode cL_law 718 = .ok (.goto 1793, 3) := by decide +kernel
theorem dL_law_703 : decode cL_law 703 = .ok (.ifCond .ne 15, 3) := by decide +kernel
theorem dL_law_706 : decode cL_law 706 = .ok (.aload_n 3, 1) := by decide +kernel
theorem dL_law_707 : decode cL_law 707 = .ok (.iconst 0, 1) := by decide +kernel
theorem dL_law_708 : decode cL_law 708 = .ok (.laload, 1) := by decide +kernel
theorem dL_law_709 : decode cL_law 709 = .ok (.iload 6, 2) := by decide +kernel
theorem dL_law_711 : decode cL_law 711 = .ok (.i2l, 1) := by decide +kernel
theorem dL_law_712 : decode cL_law 712 = .ok (.lcmp, 1) := by decide +kernel
theorem dL_law_713 : decode cL_law 713 = .ok (.ifCond .eq 5, 3) := by decide +kernel
set_option maxRecDepth 10000 in
theorem lc_7 {sc : Nat × (Nat → Int32)} {d : Nat} {Q : aO → aH → Prop} {σ : aH} {u : Nat} {i N : Int} (hG : G σ u) (hi : 0 ≤ i ∧ i + 6 ≤ (sc.1 : Int)) (hl : (sc.1 : Int) ≤ 3072) (h : JW sc (d + 1) mL_under mX10_under [.int (nZ (xs sc (i + 1))), .int (nZ (xs sc (i + 2)))] σ N (fun _ => True))
    (next : ∀ σ2 : aH, JE σ σ2 N → wp (Ev sc (d + 1)) 11 cL_law 7 (some .boolean) false [] sc Q 2511 [(0, .ref 1000000), (1, .ref 0), (2, .ref 76), (3, .ref 344), (4, .int (nZ i))] [] σ2) :
    wp (Ev sc (d + 1)) 11 cL_law 7 (some .boolean) false [] sc Q 653 [(0, .ref 1000000), (1, .ref 0), (2, .ref 76), (3, .ref 344), (4, .int (nZ i))] [] σ := by
  refine w_aload_n dL_law_653 rfl (List.Mem.tail _ (List.Mem.head _)) ?_
  refine w_aload_n dL_law_654 rfl (List.Mem.head _) ?_
  refine w_iload dL_law_655 (List.Mem.tail _ (List.Mem.tail _ (List.Mem.tail _ (List.Mem.tail _ (List.Mem.head _))))) ?_
  refine w_iconst (v := nZ 1) dL_law_657 (by decide) ?_
  refine i_add dL_law_658 ?_
  refine i_isld dL_law_659 (by omega) (by omega) ?_
  refine w_aload_n dL_law_660 rfl (List.Mem.head _) ?_
  refine w_iload dL_law_661 (List.Mem.tail _ (List.Mem.tail _ (List.Mem.tail _ (List.Mem.tail _ (List.Mem.head _))))) ?_
  refine w_iconst (v := nZ 2) dL_law_663 (by decide) ?_
  refine i_add dL_law_664 ?_
  refine i_isld dL_law_665 (by omega) (by omega) ?_
  refine w_aload_n dL_law_666 rfl (List.Mem.tail _ (List.Mem.tail _ (List.Mem.tail _ (List.Mem.head _)))) ?_
  obtain ⟨k, r, σ1, σ2, u1, u2, e1, rk, g1, e2, rr, g2, t0, tj, je⟩ := h
  refine w_callW dL_law_667 mp_11_150 ⟨ok_L_under, st_L_under⟩ hs_L_under (As := [.ref 0, .int (nZ (xs sc (i + 1))), .int (nZ (xs sc (i + 2))), .ref 344]) rfl rfl (Nat.le_of_ble_eq_true rfl) e1 ?_
  show wp (Ev sc (d + 1)) 11 cL_law 7 (some .boolean) false [] sc Q 670 [(0, .ref 1000000), (1, .ref 0), (2, .ref 76), (3, .ref 344), (4, .int (nZ i))] [.int (nZ k)] σ1
  refine w_istore (l' := [(5, .int (nZ k)), (0, .ref 1000000), (1, .ref 0), (2, .ref 76), (3, .ref 344), (4, .int (nZ i))]) dL_law_670 (by decide) rfl ?_
  refine w_aload_n dL_law_672 rfl (List.Mem.tail _ (List.Mem.tail _ (List.Mem.tail _ (List.Mem.head _)))) ?_
  refine w_aload_n dL_law_673 rfl (List.Mem.tail _ (List.Mem.head _)) ?_
  refine w_iload dL_law_674 (List.Mem.tail _ (List.Mem.tail _ (List.Mem.tail _ (List.Mem.tail _ (List.Mem.tail _ (List.Mem.head _)))))) ?_
  refine w_iconst (v := nZ 1) dL_law_676 (by decide) ?_
  refine i_add dL_law_677 ?_
  refine i_isld dL_law_678 (by omega) (by omega) ?_
  refine w_aload_n dL_law_679 rfl (List.Mem.tail _ (List.Mem.head _)) ?_
  refine w_iload dL_law_680 (List.Mem.tail _ (List.Mem.tail _ (List.Mem.tail _ (List.Mem.tail _ (List.Mem.tail _ (List.Mem.head _)))))) ?_
  refine w_iconst (v := nZ 2) dL_law_682 (by decide) ?_
  refine i_add dL_law_683 ?_
  refine i_isld dL_law_684 (by omega) (by omega) ?_
  refine w_callV dL_law_685 ml_11_152 ⟨ok_X10_under, vi_X10_under⟩ hs_X10_under (As := [.int (nZ (xs sc (i + 1))), .int (nZ (xs sc (i + 2)))]) rfl rfl (gT g1 rfl (lt_of rfl)) (Nat.le_of_ble_eq_true rfl) e2 ?_
  show wp (Ev sc (d + 1)) 11 cL_law 7 (some .boolean) false [] sc Q 688 [(5, .int (nZ k)), (0, .ref 1000000), (1, .ref 0), (2, .ref 76), (3, .ref 344), (4, .int (nZ i))] [.int (nZ r)] σ2
  refine w_istore (l' := [(6, .int (nZ r)), (5, .int (nZ k)), (0, .ref 1000000), (1, .ref 0), (2, .ref 76), (3, .ref 344), (4, .int (nZ i))]) dL_law_688 (by decide) rfl ?_
  refine w_aload_n dL_law_690 rfl (List.Mem.tail _ (List.Mem.tail _ (List.Mem.tail _ (List.Mem.tail _ (List.Mem.head _))))) ?_
  refine w_callV dL_law_691 ml_11_128 ⟨ok_X10_thrown, vi_X10_thrown⟩ hs_X10_thrown (As := []) rfl rfl (gT g2 rfl (lt_of rfl)) (Nat.le_of_ble_eq_true rfl) (s_thrown g2) ?_
  show wp (Ev sc (d + 1)) 11 cL_law 7 (some .boolean) false [] sc Q 694 [(6, .int (nZ r)), (5, .int (nZ k)), (0, .ref 1000000), (1, .ref 0), (2, .ref 76), (3, .ref 344), (4, .int (nZ i))] [.int (nZ (rI σ2 76 0))] σ2
  refine w_iload dL_law_694 (List.Mem.tail _ (List.Mem.head _)) ?_
  refine i_cmp_eq (tgt := 701) dL_law_696 rfl (rI_R _ _ _) rk (fun _ => ?_) (fun c9 => absurd t0 c9)
  refine w_iload dL_law_701 (List.Mem.tail _ (List.Mem.head _)) ?_
  have fin : wp (Ev sc (d + 1)) 11 cL_law 7 (some .boolean) false [] sc Q 718 [(6, .int (nZ r)), (5, .int (nZ k)), (0, .ref 1000000), (1, .ref 0), (2, .ref 76), (3, .ref 344), (4, .int (nZ i))] [] σ2 := by
    refine w_goto (tgt := 2511) dL_law_718 rfl ?_
    exact w_weak (l' := [(0, .ref 1000000), (1, .ref 0), (2, .ref 76), (3, .ref 344), (4, .int (nZ i))]) (by intro q hq; simp only [List.mem_cons, List.not_mem_nil, or_false] at hq ⊢; rcases hq with rfl | rfl | rfl | rfl | rfl <;> simp) (next σ2 je)
  refine i_if_ne (tgt := 718) dL_law_703 rfl rk (fun _ => fin) (fun c9 => ?_)
  obtain ⟨tj, hb⟩ := tj c9
  refine w_aload_n dL_law_706 rfl (List.Mem.tail _ (List.Mem.tail _ (List.Mem.tail _ (List.Mem.tail _ (List.Mem.tail _ (List.Mem.head _)))))) ?_
  refine w_iconst (v := nZ 0) dL_law_707 (by decide) ?_
  refine i_lald (n := 1) dL_law_708 (gT g2 rfl (lt_of rfl)) (gL g2 rfl) (by decide) (by decide) ?_
  rw [tj]
  refine w_iload dL_law_709 (List.Mem.head _) ?_
  refine i_2l dL_law_711 rr ?_
  refine j_cmp dL_law_712 (by omega) (by omega) ?_
  rw [show (if r < r then (1 : Int) else if r = r then 0 else (-1)) = 0 by rw [if_neg (by omega), if_pos rfl]]
  exact i_if_eq (tgt := 718) dL_law_713 rfl (by decide) (fun _ => fin) (fun c8 => absurd rfl c8)
theorem dL_law_721 : decode cL_law 721 = .ok (.aload_n 1, 1) := by decide +kernel
theorem dL_law_722 : decode cL_law 722 = .ok (.aload_n 0, 1) := by decide +kernel
theorem dL_law_723 : decode cL_law 723 = .ok (.iload 4, 2) := by decide +kernel
theorem dL_law_725 : decode cL_law 725 = .ok (.iconst 1, 1) := by decide +kernel
theorem dL_law_726 : decode cL_law 726 = .ok (.iadd, 1) := by decide +kernel
theorem dL_law_727 : decode cL_law 727 = .ok (.iaload, 1) := by decide +kernel
theorem dL_law_728 : decode cL_law 728 = .ok (.aload_n 0, 1) := by decide +kernel
theorem dL_law_729 : decode cL_law 729 = .ok (.iload 4, 2) := by decide +kernel
theorem dL_law_731 : decode cL_law 731 = .ok (.iconst 2, 1) := by decide +kernel
theorem dL_law_732 : decode cL_law 732 = .ok (.iadd, 1) := by decide +kernel
theorem dL_law_733 : decode cL_law 733 = .ok (.iaload, 1) := by decide +kernel
theorem dL_law_734 : decode cL_law 734 = .ok (.aload_n 3, 1) := by decide +kernel
theorem dL_law_735 : decode cL_law 735 = .ok (.invokestatic 153, 3) := by decide +kernel
theorem dL_law_738 : decode cL_law 738 = .ok (.istore 5, 2) := by decide +kernel
theorem dL_law_740 : decode cL_law 740 = .ok (.aload_n 2, 1) := by decide +kernel
theorem dL_law_741 : decode cL_law 741 = .ok (.aload_n 0, 1) := by decide +kernel
theorem dL_law_742 : decode cL_law 742 = .ok (.iload 4, 2) := by decide +kernel
theorem dL_law_744 : decode cL_law 744 = .ok (.iconst 1, 1) := by decide +kernel
theorem dL_law_745 : decode cL_law 745 = .ok (.iadd, 1) := by decide +kernel
theorem dL_law_746 : decode cL_law 746 = .ok (.iaload, 1) := by decide +kernel
theorem dL_law_747 : decode cL_law 747 = .ok (.aload_n 0, 1) := by decide +kernel
theorem dL_law_748 : decode cL_law 748 = .ok (.iload 4, 2) := by decide +kernel
theorem dL_law_750 : decode cL_law 750 = .ok (.iconst 2, 1) := by decide +kernel
theorem dL_law_751 : decode cL_law 751 = .ok (.iadd, 1) := by decide +kernel
theorem dL_law_752 : decode cL_law 752 = .ok (.iaload, 1) := by decide +kernel
theorem dL_law_753 : decode cL_law 753 = .ok (.invokevirtual 155, 3) := by decide +kernel
theorem dL_law_756 : decode cL_law 756 = .ok (.istore 6, 2) := by decide +kernel
theorem dL_law_758 : decode cL_law 758 = .ok (.aload_n 2, 1) := by decide +kernel
theorem dL_law_759 : decode cL_law 759 = .ok (.invokevirtual 128, 3) := by decide +kernel
theorem dL_law_762 : decode cL_law 762 = .ok (.iload 5, 2) := by decide +kernel
theorem dL_law_764 : decode cL_law 764 = .ok (.if_icmp .eq 5, 3) := by decide +kernel
theorem dL_law_769 : decode cL_law 769 = .ok (.iload 5, 2) := by decide +kernel
theorem dL_law_786 : decode cL_law 786 = .ok (.goto 1725, 3) := by decide +kernel
theorem dL_law_771 : decode cL_law 771 = .ok (.ifCond .ne 15, 3) := by decide +kernel
theorem dL_law_774 : decode cL_law 774 = .ok (.aload_n 3, 1) := by decide +kernel
theorem dL_law_775 : decode cL_law 775 = .ok (.iconst 0, 1) := by decide +kernel
theorem dL_law_776 : decode cL_law 776 = .ok (.laload, 1) := by decide +kernel
theorem dL_law_777 : decode cL_law 777 = .ok (.iload 6, 2) := by decide +kernel
theorem dL_law_779 : decode cL_law 779 = .ok (.i2l, 1) := by decide +kernel
theorem dL_law_780 : decode cL_law 780 = .ok (.lcmp, 1) := by decide +kernel
theorem dL_law_781 : decode cL_law 781 = .ok (.ifCond .eq 5, 3) := by decide +kernel
set_option maxRecDepth 10000 in
theorem lc_8 {sc : Nat × (Nat → Int32)} {d : Nat} {Q : aO → aH → Prop} {σ : aH} {u : Nat} {i N : Int} (hG : G σ u) (hi : 0 ≤ i ∧ i + 6 ≤ (sc.1 : Int)) (hl : (sc.1 : Int) ≤ 3072) (h : JW sc (d + 1) mL_minutes mX10_minutes [.int (nZ (xs sc (i + 1))), .int (nZ (xs sc (i + 2)))] σ N (fun _ => True))
    (next : ∀ σ2 : aH, JE σ σ2 N → wp (Ev sc (d + 1)) 11 cL_law 7 (some .boolean) false [] sc Q 2511 [(0, .ref 1000000), (1, .ref 0), (2, .ref 76), (3, .ref 344), (4, .int (nZ i))] [] σ2) :
    wp (Ev sc (d + 1)) 11 cL_law 7 (some .boolean) false [] sc Q 721 [(0, .ref 1000000), (1, .ref 0), (2, .ref 76), (3, .ref 344), (4, .int (nZ i))] [] σ := by
  refine w_aload_n dL_law_721 rfl (List.Mem.tail _ (List.Mem.head _)) ?_
  refine w_aload_n dL_law_722 rfl (List.Mem.head _) ?_
  refine w_iload dL_law_723 (List.Mem.tail _ (List.Mem.tail _ (List.Mem.tail _ (List.Mem.tail _ (List.Mem.head _))))) ?_
  refine w_iconst (v := nZ 1) dL_law_725 (by decide) ?_
  refine i_add dL_law_726 ?_
  refine i_isld dL_law_727 (by omega) (by omega) ?_
  refine w_aload_n dL_law_728 rfl (List.Mem.head _) ?_
  refine w_iload dL_law_729 (List.Mem.tail _ (List.Mem.tail _ (List.Mem.tail _ (List.Mem.tail _ (List.Mem.head _))))) ?_
  refine w_iconst (v := nZ 2) dL_law_731 (by decide) ?_
  refine i_add dL_law_732 ?_
  refine i_isld dL_law_733 (by omega) (by omega) ?_
  refine w_aload_n dL_law_734 rfl (List.Mem.tail _ (List.Mem.tail _ (List.Mem.tail _ (List.Mem.head _)))) ?_
  obtain ⟨k, r, σ1, σ2, u1, u2, e1, rk, g1, e2, rr, g2, t0, tj, je⟩ := h
  refine w_callW dL_law_735 mp_11_153 ⟨ok_L_minutes, st_L_minutes⟩ hs_L_minutes (As := [.ref 0, .int (nZ (xs sc (i + 1))), .int (nZ (xs sc (i + 2))), .ref 344]) rfl rfl (Nat.le_of_ble_eq_true rfl) e1 ?_
  show wp (Ev sc (d + 1)) 11 cL_law 7 (some .boolean) false [] sc Q 738 [(0, .ref 1000000), (1, .ref 0), (2, .ref 76), (3, .ref 344), (4, .int (nZ i))] [.int (nZ k)] σ1
  refine w_istore (l' := [(5, .int (nZ k)), (0, .ref 1000000), (1, .ref 0), (2, .ref 76), (3, .ref 344), (4, .int (nZ i))]) dL_law_738 (by decide) rfl ?_
  refine w_aload_n dL_law_740 rfl (List.Mem.tail _ (List.Mem.tail _ (List.Mem.tail _ (List.Mem.head _)))) ?_
  refine w_aload_n dL_law_741 rfl (List.Mem.tail _ (List.Mem.head _)) ?_
  refine w_iload dL_law_742 (List.Mem.tail _ (List.Mem.tail _ (List.Mem.tail _ (List.Mem.tail _ (List.Mem.tail _ (List.Mem.head _)))))) ?_
  refine w_iconst (v := nZ 1) dL_law_744 (by decide) ?_
  refine i_add dL_law_745 ?_
  refine i_isld dL_law_746 (by omega) (by omega) ?_
  refine w_aload_n dL_law_747 rfl (List.Mem.tail _ (List.Mem.head _)) ?_
  refine w_iload dL_law_748 (List.Mem.tail _ (List.Mem.tail _ (List.Mem.tail _ (List.Mem.tail _ (List.Mem.tail _ (List.Mem.head _)))))) ?_
  refine w_iconst (v := nZ 2) dL_law_750 (by decide) ?_
  refine i_add dL_law_751 ?_
  refine i_isld dL_law_752 (by omega) (by omega) ?_
  refine w_callV dL_law_753 ml_11_155 ⟨ok_X10_minutes, vi_X10_minutes⟩ hs_X10_minutes (As := [.int (nZ (xs sc (i + 1))), .int (nZ (xs sc (i + 2)))]) rfl rfl (gT g1 rfl (lt_of rfl)) (Nat.le_of_ble_eq_true rfl) e2 ?_
  show wp (Ev sc (d + 1)) 11 cL_law 7 (some .boolean) false [] sc Q 756 [(5, .int (nZ k)), (0, .ref 1000000), (1, .ref 0), (2, .ref 76), (3, .ref 344), (4, .int (nZ i))] [.int (nZ r)] σ2
  refine w_istore (l' := [(6, .int (nZ r)), (5, .int (nZ k)), (0, .ref 1000000), (1, .ref 0), (2, .ref 76), (3, .ref 344), (4, .int (nZ i))]) dL_law_756 (by decide) rfl ?_
  refine w_aload_n dL_law_758 rfl (List.Mem.tail _ (List.Mem.tail _ (List.Mem.tail _ (List.Mem.tail _ (List.Mem.head _))))) ?_
  refine w_callV dL_law_759 ml_11_128 ⟨ok_X10_thrown, vi_X10_thrown⟩ hs_X10_thrown (As := []) rfl rfl (gT g2 rfl (lt_of rfl)) (Nat.le_of_ble_eq_true rfl) (s_thrown g2) ?_
  show wp (Ev sc (d + 1)) 11 cL_law 7 (some .boolean) false [] sc Q 762 [(6, .int (nZ r)), (5, .int (nZ k)), (0, .ref 1000000), (1, .ref 0), (2, .ref 76), (3, .ref 344), (4, .int (nZ i))] [.int (nZ (rI σ2 76 0))] σ2
  refine w_iload dL_law_762 (List.Mem.tail _ (List.Mem.head _)) ?_
  refine i_cmp_eq (tgt := 769) dL_law_764 rfl (rI_R _ _ _) rk (fun _ => ?_) (fun c9 => absurd t0 c9)
  refine w_iload dL_law_769 (List.Mem.tail _ (List.Mem.head _)) ?_
  have fin : wp (Ev sc (d + 1)) 11 cL_law 7 (some .boolean) false [] sc Q 786 [(6, .int (nZ r)), (5, .int (nZ k)), (0, .ref 1000000), (1, .ref 0), (2, .ref 76), (3, .ref 344), (4, .int (nZ i))] [] σ2 := by
    refine w_goto (tgt := 2511) dL_law_786 rfl ?_
    exact w_weak (l' := [(0, .ref 1000000), (1, .ref 0), (2, .ref 76), (3, .ref 344), (4, .int (nZ i))]) (by intro q hq; simp only [List.mem_cons, List.not_mem_nil, or_false] at hq ⊢; rcases hq with rfl | rfl | rfl | rfl | rfl <;> simp) (next σ2 je)
  refine i_if_ne (tgt := 786) dL_law_771 rfl rk (fun _ => fin) (fun c9 => ?_)
  obtain ⟨tj, hb⟩ := tj c9
  refine w_aload_n dL_law_774 rfl (List.Mem.tail _ (List.Mem.tail _ (List.Mem.tail _ (List.Mem.tail _ (List.Mem.tail _ (List.Mem.head _)))))) ?_
  refine w_iconst (v := nZ 0) dL_law_775 (by decide) ?_
  refine i_lald (n := 1) dL_law_776 (gT g2 rfl (lt_of rfl)) (gL g2 rfl) (by decide) (by decide) ?_
  rw [tj]
  refine w_iload dL_law_777 (List.Mem.head _) ?_
  refine i_2l dL_law_779 rr ?_
  refine j_cmp dL_law_780 (by omega) (by omega) ?_
  rw [show (if r < r then (1 : Int) else if r = r then 0 else (-1)) = 0 by rw [if_neg (by omega), if_pos rfl]]
  exact i_if_eq (tgt := 786) dL_law_781 rfl (by decide) (fun _ => fin) (fun c8 => absurd rfl c8)
theorem dL_law_789 : decode cL_law 789 = .ok (.aload_n 1, 1) := by decide +kernel
theorem dL_law_790 : decode cL_law 790 = .ok (.aload_n 0, 1) := by decide +kernel
theorem dL_law_791 : decode cL_law 791 = .ok (.iload 4, 2) := by decide +kernel
theorem dL_law_793 : decode cL_law 793 = .ok (.iconst 1, 1) := by decide +kernel
theorem dL_law_794 : decode cL_law 794 = .ok (.iadd, 1) := by decide +kernel
theorem dL_law_795 : decode cL_law 795 = .ok (.iaload, 1) := by decide +kernel
theorem dL_law_796 : decode cL_law 796 = .ok (.aload_n 3, 1) := by decide +kernel
theorem dL_law_797 : decode cL_law 797 = .ok (.invokestatic 156, 3) := by decide +kernel
theorem dL_law_800 : decode cL_law 800 = .ok (.istore 5, 2) := by decide +kernel
theorem dL_law_802 : decode cL_law 802 = .ok (.aload_n 2, 1) := by decide +kernel
theorem dL_law_803 : decode cL_law 803 = .ok (.aload_n 0, 1) := by decide +kernel
theorem dL_law_804 : decode cL_law 804 = .ok (.iload 4, 2) := by decide +kernel
theorem dL_law_806 : decode cL_law 806 = .ok (.iconst 1, 1) := by decide +kernel
theorem dL_law_807 : decode cL_law 807 = .ok (.iadd, 1) := by decide +kernel
theorem dL_law_808 : decode cL_law 808 = .ok (.iaload, 1) := by decide +kernel
theorem dL_law_809 : decode cL_law 809 = .ok (.invokevirtual 158, 3) := by decide +kernel
theorem dL_law_812 : decode cL_law 812 = .ok (.istore 6, 2) := by decide +kernel
theorem dL_law_814 : decode cL_law 814 = .ok (.aload_n 2, 1) := by decide +kernel
theorem dL_law_815 : decode cL_law 815 = .ok (.invokevirtual 128, 3) := by decide +kernel
theorem dL_law_818 : decode cL_law 818 = .ok (.iload 5, 2) := by decide +kernel
theorem dL_law_820 : decode cL_law 820 = .ok (.if_icmp .eq 5, 3) := by decide +kernel
theorem dL_law_825 : decode cL_law 825 = .ok (.iload 5, 2) := by decide +kernel
theorem dL_law_842 : decode cL_law 842 = .ok (.goto 1669, 3) := by decide +kernel
theorem dL_law_827 : decode cL_law 827 = .ok (.ifCond .ne 15, 3) := by decide +kernel
theorem dL_law_830 : decode cL_law 830 = .ok (.aload_n 3, 1) := by decide +kernel
theorem dL_law_831 : decode cL_law 831 = .ok (.iconst 0, 1) := by decide +kernel
theorem dL_law_832 : decode cL_law 832 = .ok (.laload, 1) := by decide +kernel
theorem dL_law_833 : decode cL_law 833 = .ok (.iload 6, 2) := by decide +kernel
theorem dL_law_835 : decode cL_law 835 = .ok (.i2l, 1) := by decide +kernel
theorem dL_law_836 : decode cL_law 836 = .ok (.lcmp, 1) := by decide +kernel
theorem dL_law_837 : decode cL_law 837 = .ok (.ifCond .eq 5, 3) := by decide +kernel
set_option maxRecDepth 10000 in
theorem lc_9 {sc : Nat × (Nat → Int32)} {d : Nat} {Q : aO → aH → Prop} {σ : aH} {u : Nat} {i N : Int} (hG : G σ u) (hi : 0 ≤ i ∧ i + 6 ≤ (sc.1 : Int)) (hl : (sc.1 : Int) ≤ 3072) (h : JW sc (d + 1) mL_chill mX10_chill [.int (nZ (xs sc (i + 1)))] σ N (fun _ => True))
    (next : ∀ σ2 : aH, JE σ σ2 N → wp (Ev sc (d + 1)) 11 cL_law 7 (some .boolean) false [] sc Q 2511 [(0, .ref 1000000), (1, .ref 0), (2, .ref 76), (3, .ref 344), (4, .int (nZ i))] [] σ2) :
    wp (Ev sc (d + 1)) 11 cL_law 7 (some .boolean) false [] sc Q 789 [(0, .ref 1000000), (1, .ref 0), (2, .ref 76), (3, .ref 344), (4, .int (nZ i))] [] σ := by
  refine w_aload_n dL_law_789 rfl (List.Mem.tail _ (List.Mem.head _)) ?_
  refine w_aload_n dL_law_790 rfl (List.Mem.head _) ?_
  refine w_iload dL_law_791 (List.Mem.tail _ (List.Mem.tail _ (List.Mem.tail _ (List.Mem.tail _ (List.Mem.head _))))) ?_
  refine w_iconst (v := nZ 1) dL_law_793 (by decide) ?_
  refine i_add dL_law_794 ?_
  refine i_isld dL_law_795 (by omega) (by omega) ?_
  refine w_aload_n dL_law_796 rfl (List.Mem.tail _ (List.Mem.tail _ (List.Mem.tail _ (List.Mem.head _)))) ?_
  obtain ⟨k, r, σ1, σ2, u1, u2, e1, rk, g1, e2, rr, g2, t0, tj, je⟩ := h
  refine w_callW dL_law_797 mp_11_156 ⟨ok_L_chill, st_L_chill⟩ hs_L_chill (As := [.ref 0, .int (nZ (xs sc (i + 1))), .ref 344]) rfl rfl (Nat.le_of_ble_eq_true rfl) e1 ?_
  show wp (Ev sc (d + 1)) 11 cL_law 7 (some .boolean) false [] sc Q 800 [(0, .ref 1000000), (1, .ref 0), (2, .ref 76), (3, .ref 344), (4, .int (nZ i))] [.int (nZ k)] σ1
  refine w_istore (l' := [(5, .int (nZ k)), (0, .ref 1000000), (1, .ref 0), (2, .ref 76), (3, .ref 344), (4, .int (nZ i))]) dL_law_800 (by decide) rfl ?_
  refine w_aload_n dL_law_802 rfl (List.Mem.tail _ (List.Mem.tail _ (List.Mem.tail _ (List.Mem.head _)))) ?_
  refine w_aload_n dL_law_803 rfl (List.Mem.tail _ (List.Mem.head _)) ?_
  refine w_iload dL_law_804 (List.Mem.tail _ (List.Mem.tail _ (List.Mem.tail _ (List.Mem.tail _ (List.Mem.tail _ (List.Mem.head _)))))) ?_
  refine w_iconst (v := nZ 1) dL_law_806 (by decide) ?_
  refine i_add dL_law_807 ?_
  refine i_isld dL_law_808 (by omega) (by omega) ?_
  refine w_callV dL_law_809 ml_11_158 ⟨ok_X10_chill, vi_X10_chill⟩ hs_X10_chill (As := [.int (nZ (xs sc (i + 1)))]) rfl rfl (gT g1 rfl (lt_of rfl)) (Nat.le_of_ble_eq_true rfl) e2 ?_
  show wp (Ev sc (d + 1)) 11 cL_law 7 (some .boolean) false [] sc Q 812 [(5, .int (nZ k)), (0, .ref 1000000), (1, .ref 0), (2, .ref 76), (3, .ref 344), (4, .int (nZ i))] [.int (nZ r)] σ2
  refine w_istore (l' := [(6, .int (nZ r)), (5, .int (nZ k)), (0, .ref 1000000), (1, .ref 0), (2, .ref 76), (3, .ref 344), (4, .int (nZ i))]) dL_law_812 (by decide) rfl ?_
  refine w_aload_n dL_law_814 rfl (List.Mem.tail _ (List.Mem.tail _ (List.Mem.tail _ (List.Mem.tail _ (List.Mem.head _))))) ?_
  refine w_callV dL_law_815 ml_11_128 ⟨ok_X10_thrown, vi_X10_thrown⟩ hs_X10_thrown (As := []) rfl rfl (gT g2 rfl (lt_of rfl)) (Nat.le_of_ble_eq_true rfl) (s_thrown g2) ?_
  show wp (Ev sc (d + 1)) 11 cL_law 7 (some .boolean) false [] sc Q 818 [(6, .int (nZ r)), (5, .int (nZ k)), (0, .ref 1000000), (1, .ref 0), (2, .ref 76), (3, .ref 344), (4, .int (nZ i))] [.int (nZ (rI σ2 76 0))] σ2
  refine w_iload dL_law_818 (List.Mem.tail _ (List.Mem.head _)) ?_
  refine i_cmp_eq (tgt := 825) dL_law_820 rfl (rI_R _ _ _) rk (fun _ => ?_) (fun c9 => absurd t0 c9)
  refine w_iload dL_law_825 (List.Mem.tail _ (List.Mem.head _)) ?_
  have fin : wp (Ev sc (d + 1)) 11 cL_law 7 (some .boolean) false [] sc Q 842 [(6, .int (nZ r)), (5, .int (nZ k)), (0, .ref 1000000), (1, .ref 0), (2, .ref 76), (3, .ref 344), (4, .int (nZ i))] [] σ2 := by
    refine w_goto (tgt := 2511) dL_law_842 rfl ?_
    exact w_weak (l' := [(0, .ref 1000000), (1, .ref 0), (2, .ref 76), (3, .ref 344), (4, .int (nZ i))]) (by intro q hq; simp only [List.mem_cons, List.not_mem_nil, or_false] at hq ⊢; rcases hq with rfl | rfl | rfl | rfl | rfl <;> simp) (next σ2 je)
  refine i_if_ne (tgt := 842) dL_law_827 rfl rk (fun _ => fin) (fun c9 => ?_)
  obtain ⟨tj, hb⟩ := tj c9
  refine w_aload_n dL_law_830 rfl (List.Mem.tail _ (List.Mem.tail _ (List.Mem.tail _ (List.Mem.tail _ (List.Mem.tail _ (List.Mem.head _)))))) ?_
  refine w_iconst (v := nZ 0) dL_law_831 (by decide) ?_
  refine i_lald (n := 1) dL_law_832 (gT g2 rfl (lt_of rfl)) (gL g2 rfl) (by decide) (by decide) ?_
  rw [tj]
  refine w_iload dL_law_833 (List.Mem.head _) ?_
  refine i_2l dL_law_835 rr ?_
  refine j_cmp dL_law_836 (by omega) (by omega) ?_
  rw [show (if r < r then (1 : Int) else if r = r then 0 else (-1)) = 0 by rw [if_neg (by omega), if_pos rfl]]
  exact i_if_eq (tgt := 842) dL_law_837 rfl (by decide) (fun _ => fin) (fun c8 => absurd rfl c8)
theorem dL_law_845 : decode cL_law 845 = .ok (.aload_n 1, 1) := by decide +kernel
theorem dL_law_846 : decode cL_law 846 = .ok (.aload_n 0, 1) := by decide +kernel
theorem dL_law_847 : decode cL_law 847 = .ok (.iload 4, 2) := by decide +kernel
theorem dL_law_849 : decode cL_law 849 = .ok (.iconst 1, 1) := by decide +kernel
theorem dL_law_850 : decode cL_law 850 = .ok (.iadd, 1) := by decide +kernel
theorem dL_law_851 : decode cL_law 851 = .ok (.iaload, 1) := by decide +kernel
theorem dL_law_852 : decode cL_law 852 = .ok (.aload_n 0, 1) := by decide +kernel
theorem dL_law_853 : decode cL_law 853 = .ok (.iload 4, 2) := by decide +kernel
theorem dL_law_855 : decode cL_law 855 = .ok (.iconst 2, 1) := by decide +kernel
theorem dL_law_856 : decode cL_law 856 = .ok (.iadd, 1) := by decide +kernel
theorem dL_law_857 : decode cL_law 857 = .ok (.iaload, 1) := by decide +kernel
theorem dL_law_858 : decode cL_law 858 = .ok (.aload_n 0, 1) := by decide +kernel
theorem dL_law_859 : decode cL_law 859 = .ok (.iload 4, 2) := by decide +kernel
theorem dL_law_861 : decode cL_law 861 = .ok (.iconst 3, 1) := by decide +kernel
theorem dL_law_862 : decode cL_law 862 = .ok (.iadd, 1) := by decide +kernel
theorem dL_law_863 : decode cL_law 863 = .ok (.iaload, 1) := by decide +kernel
theorem dL_law_864 : decode cL_law 864 = .ok (.aload_n 3, 1) := by decide +kernel
theorem dL_law_865 : decode cL_law 865 = .ok (.invokestatic 159, 3) := by decide +kernel
theorem dL_law_868 : decode cL_law 868 = .ok (.istore 5, 2) := by decide +kernel
theorem dL_law_870 : decode cL_law 870 = .ok (.aload_n 2, 1) := by decide +kernel
theorem dL_law_871 : decode cL_law 871 = .ok (.aload_n 0, 1) := by decide +kernel
theorem dL_law_872 : decode cL_law 872 = .ok (.iload 4, 2) := by decide +kernel
theorem dL_law_874 : decode cL_law 874 = .ok (.iconst 1, 1) := by decide +kernel
theorem dL_law_875 : decode cL_law 875 = .ok (.iadd, 1) := by decide +kernel
theorem dL_law_876 : decode cL_law 876 = .ok (.iaload, 1) := by decide +kernel
theorem dL_law_877 : decode cL_law 877 = .ok (.aload_n 0, 1) := by decide +kernel
theorem dL_law_878 : decode cL_law 878 = .ok (.iload 4, 2) := by decide +kernel
theorem dL_law_880 : decode cL_law 880 = .ok (.iconst 2, 1) := by decide +kernel
theorem dL_law_881 : decode cL_law 881 = .ok (.iadd, 1) := by decide +kernel
theorem dL_law_882 : decode cL_law 882 = .ok (.iaload, 1) := by decide +kernel
theorem dL_law_883 : decode cL_law 883 = .ok (.aload_n 0, 1) := by decide +kernel
theorem dL_law_884 : decode cL_law 884 = .ok (.iload 4, 2) := by decide +kernel
theorem dL_law_886 : decode cL_law 886 = .ok (.iconst 3, 1) := by decide +kernel
theorem dL_law_887 : decode cL_law 887 = .ok (.iadd, 1) := by decide +kernel
theorem dL_law_888 : decode cL_law 888 = .ok (.iaload, 1) := by decide +kernel
theorem dL_law_889 : decode cL_law 889 = .ok (.invokevirtual 161, 3) := by decide +kernel
theorem dL_law_892 : decode cL_law 892 = .ok (.istore 6, 2) := by decide +kernel
theorem dL_law_894 : decode cL_law 894 = .ok (.aload_n 2, 1) := by decide +kernel
theorem dL_law_895 : decode cL_law 895 = .ok (.invokevirtual 128, 3) := by decide +kernel
theorem dL_law_898 : decode cL_law 898 = .ok (.iload 5, 2) := by decide +kernel
theorem dL_law_900 : decode cL_law 900 = .ok (.if_icmp .eq 5, 3) := by decide +kernel
theorem dL_law_905 : decode cL_law 905 = .ok (.iload 5, 2) := by decide +kernel
theorem dL_law_922 : decode cL_law 922 = .ok (.goto 1589, 3) := by decide +kernel
theorem dL_law_907 : decode cL_law 907 = .ok (.ifCond .ne 15, 3) := by decide +kernel
theorem dL_law_910 : decode cL_law 910 = .ok (.aload_n 3, 1) := by decide +kernel
theorem dL_law_911 : decode cL_law 911 = .ok (.iconst 0, 1) := by decide +kernel
theorem dL_law_912 : decode cL_law 912 = .ok (.laload, 1) := by decide +kernel
theorem dL_law_913 : decode cL_law 913 = .ok (.iload 6, 2) := by decide +kernel
theorem dL_law_915 : decode cL_law 915 = .ok (.i2l, 1) := by decide +kernel
theorem dL_law_916 : decode cL_law 916 = .ok (.lcmp, 1) := by decide +kernel
theorem dL_law_917 : decode cL_law 917 = .ok (.ifCond .eq 5, 3) := by decide +kernel
set_option maxRecDepth 10000 in
theorem lc_10 {sc : Nat × (Nat → Int32)} {d : Nat} {Q : aO → aH → Prop} {σ : aH} {u : Nat} {i N : Int} (hG : G σ u) (hi : 0 ≤ i ∧ i + 6 ≤ (sc.1 : Int)) (hl : (sc.1 : Int) ≤ 3072) (h : JW sc (d + 1) mL_owes mX10_owes [.int (nZ (xs sc (i + 1))), .int (nZ (xs sc (i + 2))), .int (nZ (xs sc (i + 3)))] σ N (fun _ => True))
    (next : ∀ σ2 : aH, JE σ σ2 N → wp (Ev sc (d + 1)) 11 cL_law 7 (some .boolean) false [] sc Q 2511 [(0, .ref 1000000), (1, .ref 0), (2, .ref 76), (3, .ref 344), (4, .int (nZ i))] [] σ2) :
    wp (Ev sc (d + 1)) 11 cL_law 7 (some .boolean) false [] sc Q 845 [(0, .ref 1000000), (1, .ref 0), (2, .ref 76), (3, .ref 344), (4, .int (nZ i))] [] σ := by
  refine w_aload_n dL_law_845 rfl (List.Mem.tail _ (List.Mem.head _)) ?_
  refine w_aload_n dL_law_846 rfl (List.Mem.head _) ?_
  refine w_iload dL_law_847 (List.Mem.tail _ (List.Mem.tail _ (List.Mem.tail _ (List.Mem.tail _ (List.Mem.head _))))) ?_
  refine w_iconst (v := nZ 1) dL_law_849 (by decide) ?_
  refine i_add dL_law_850 ?_
  refine i_isld dL_law_851 (by omega) (by omega) ?_
  refine w_aload_n dL_law_852 rfl (List.Mem.head _) ?_
  refine w_iload dL_law_853 (List.Mem.tail _ (List.Mem.tail _ (List.Mem.tail _ (List.Mem.tail _ (List.Mem.head _))))) ?_
  refine w_iconst (v := nZ 2) dL_law_855 (by decide) ?_
  refine i_add dL_law_856 ?_
  refine i_isld dL_law_857 (by omega) (by omega) ?_
  refine w_aload_n dL_law_858 rfl (List.Mem.head _) ?_
  refine w_iload dL_law_859 (List.Mem.tail _ (List.Mem.tail _ (List.Mem.tail _ (List.Mem.tail _ (List.Mem.head _))))) ?_
  refine w_iconst (v := nZ 3) dL_law_861 (by decide) ?_
  refine i_add dL_law_862 ?_
  refine i_isld dL_law_863 (by omega) (by omega) ?_
  refine w_aload_n dL_law_864 rfl (List.Mem.tail _ (List.Mem.tail _ (List.Mem.tail _ (List.Mem.head _)))) ?_
  obtain ⟨k, r, σ1, σ2, u1, u2, e1, rk, g1, e2, rr, g2, t0, tj, je⟩ := h
  refine w_callW dL_law_865 mp_11_159 ⟨ok_L_owes, st_L_owes⟩ hs_L_owes (As := [.ref 0, .int (nZ (xs sc (i + 1))), .int (nZ (xs sc (i + 2))), .int (nZ (xs sc (i + 3))), .ref 344]) rfl rfl (Nat.le_of_ble_eq_true rfl) e1 ?_
  show wp (Ev sc (d + 1)) 11 cL_law 7 (some .boolean) false [] sc Q 868 [(0, .ref 1000000), (1, .ref 0), (2, .ref 76), (3, .ref 344), (4, .int (nZ i))] [.int (nZ k)] σ1
  refine w_istore (l' := [(5, .int (nZ k)), (0, .ref 1000000), (1, .ref 0), (2, .ref 76), (3, .ref 344), (4, .int (nZ i))]) dL_law_868 (by decide) rfl ?_
  refine w_aload_n dL_law_870 rfl (List.Mem.tail _ (List.Mem.tail _ (List.Mem.tail _ (List.Mem.head _)))) ?_
  refine w_aload_n dL_law_871 rfl (List.Mem.tail _ (List.Mem.head _)) ?_
  refine w_iload dL_law_872 (List.Mem.tail _ (List.Mem.tail _ (List.Mem.tail _ (List.Mem.tail _ (List.Mem.tail _ (List.Mem.head _)))))) ?_
  refine w_iconst (v := nZ 1) dL_law_874 (by decide) ?_
  refine i_add dL_law_875 ?_
  refine i_isld dL_law_876 (by omega) (by omega) ?_
  refine w_aload_n dL_law_877 rfl (List.Mem.tail _ (List.Mem.head _)) ?_
  refine w_iload dL_law_878 (List.Mem.tail _ (List.Mem.tail _ (List.Mem.tail _ (List.Mem.tail _ (List.Mem.tail _ (List.Mem.head _)))))) ?_
  refine w_iconst (v := nZ 2) dL_law_880 (by decide) ?_
  refine i_add dL_law_881 ?_
  refine i_isld dL_law_882 (by omega) (by omega) ?_
  refine w_aload_n dL_law_883 rfl (List.Mem.tail _ (List.Mem.head _)) ?_
  refine w_iload dL_law_884 (List.Mem.tail _ (List.Mem.tail _ (List.Mem.tail _ (List.Mem.tail _ (List.Mem.tail _ (List.Mem.head _)))))) ?_
  refine w_iconst (v := nZ 3) dL_law_886 (by decide) ?_
  refine i_add dL_law_887 ?_
  refine i_isld dL_law_888 (by omega) (by omega) ?_
  refine w_callV dL_law_889 ml_11_161 ⟨ok_X10_owes, vi_X10_owes⟩ hs_X10_owes (As := [.int (nZ (xs sc (i + 1))), .int (nZ (xs sc (i + 2))), .int (nZ (xs sc (i + 3)))]) rfl rfl (gT g1 rfl (lt_of rfl)) (Nat.le_of_ble_eq_true rfl) e2 ?_
  show wp (Ev sc (d + 1)) 11 cL_law 7 (some .boolean) false [] sc Q 892 [(5, .int (nZ k)), (0, .ref 1000000), (1, .ref 0), (2, .ref 76), (3, .ref 344), (4, .int (nZ i))] [.int (nZ r)] σ2
  refine w_istore (l' := [(6, .int (nZ r)), (5, .int (nZ k)), (0, .ref 1000000), (1, .ref 0), (2, .ref 76), (3, .ref 344), (4, .int (nZ i))]) dL_law_892 (by decide) rfl ?_
  refine w_aload_n dL_law_894 rfl (List.Mem.tail _ (List.Mem.tail _ (List.Mem.tail _ (List.Mem.tail _ (List.Mem.head _))))) ?_
  refine w_callV dL_law_895 ml_11_128 ⟨ok_X10_thrown, vi_X10_thrown⟩ hs_X10_thrown (As := []) rfl rfl (gT g2 rfl (lt_of rfl)) (Nat.le_of_ble_eq_true rfl) (s_thrown g2) ?_
  show wp (Ev sc (d + 1)) 11 cL_law 7 (some .boolean) false [] sc Q 898 [(6, .int (nZ r)), (5, .int (nZ k)), (0, .ref 1000000), (1, .ref 0), (2, .ref 76), (3, .ref 344), (4, .int (nZ i))] [.int (nZ (rI σ2 76 0))] σ2
  refine w_iload dL_law_898 (List.Mem.tail _ (List.Mem.head _)) ?_
  refine i_cmp_eq (tgt := 905) dL_law_900 rfl (rI_R _ _ _) rk (fun _ => ?_) (fun c9 => absurd t0 c9)
  refine w_iload dL_law_905 (List.Mem.tail _ (List.Mem.head _)) ?_
  have fin : wp (Ev sc (d + 1)) 11 cL_law 7 (some .boolean) false [] sc Q 922 [(6, .int (nZ r)), (5, .int (nZ k)), (0, .ref 1000000), (1, .ref 0), (2, .ref 76), (3, .ref 344), (4, .int (nZ i))] [] σ2 := by
    refine w_goto (tgt := 2511) dL_law_922 rfl ?_
    exact w_weak (l' := [(0, .ref 1000000), (1, .ref 0), (2, .ref 76), (3, .ref 344), (4, .int (nZ i))]) (by intro q hq; simp only [List.mem_cons, List.not_mem_nil, or_false] at hq ⊢; rcases hq with rfl | rfl | rfl | rfl | rfl <;> simp) (next σ2 je)
  refine i_if_ne (tgt := 922) dL_law_907 rfl rk (fun _ => fin) (fun c9 => ?_)
  obtain ⟨tj, hb⟩ := tj c9
  refine w_aload_n dL_law_910 rfl (List.Mem.tail _ (List.Mem.tail _ (List.Mem.tail _ (List.Mem.tail _ (List.Mem.tail _ (List.Mem.head _)))))) ?_
  refine w_iconst (v := nZ 0) dL_law_911 (by decide) ?_
  refine i_lald (n := 1) dL_law_912 (gT g2 rfl (lt_of rfl)) (gL g2 rfl) (by decide) (by decide) ?_
  rw [tj]
  refine w_iload dL_law_913 (List.Mem.head _) ?_
  refine i_2l dL_law_915 rr ?_
  refine j_cmp dL_law_916 (by omega) (by omega) ?_
  rw [show (if r < r then (1 : Int) else if r = r then 0 else (-1)) = 0 by rw [if_neg (by omega), if_pos rfl]]
  exact i_if_eq (tgt := 922) dL_law_917 rfl (by decide) (fun _ => fin) (fun c8 => absurd rfl c8)
theorem dL_law_925 : decode cL_law 925 = .ok (.aload_n 1, 1) := by decide +kernel
theorem dL_law_926 : decode cL_law 926 = .ok (.aload_n 0, 1) := by decide +kernel
theorem dL_law_927 : decode cL_law 927 = .ok (.iload 4, 2) := by decide +kernel
theorem dL_law_929 : decode cL_law 929 = .ok (.iconst 1, 1) := by decide +kernel
theorem dL_law_930 : decode cL_law 930 = .ok (.iadd, 1) := by decide +kernel
theorem dL_law_931 : decode cL_law 931 = .ok (.iaload, 1) := by decide +kernel
theorem dL_law_932 : decode cL_law 932 = .ok (.aload_n 0, 1) := by decide +kernel
theorem dL_law_933 : decode cL_law 933 = .ok (.iload 4, 2) := by decide +kernel
theorem dL_law_935 : decode cL_law 935 = .ok (.iconst 2, 1) := by decide +kernel
theorem dL_law_936 : decode cL_law 936 = .ok (.iadd, 1) := by decide +kernel
theorem dL_law_937 : decode cL_law 937 = .ok (.iaload, 1) := by decide +kernel
theorem dL_law_938 : decode cL_law 938 = .ok (.aload_n 3, 1) := by decide +kernel
theorem dL_law_939 : decode cL_law 939 = .ok (.invokestatic 162, 3) := by decide +kernel
theorem dL_law_942 : decode cL_law 942 = .ok (.istore 5, 2) := by decide +kernel
theorem dL_law_944 : decode cL_law 944 = .ok (.aload_n 2, 1) := by decide +kernel
theorem dL_law_945 : decode cL_law 945 = .ok (.aload_n 0, 1) := by decide +kernel
theorem dL_law_946 : decode cL_law 946 = .ok (.iload 4, 2) := by decide +kernel
theorem dL_law_948 : decode cL_law 948 = .ok (.iconst 1, 1) := by decide +kernel
theorem dL_law_949 : decode cL_law 949 = .ok (.iadd, 1) := by decide +kernel
theorem dL_law_950 : decode cL_law 950 = .ok (.iaload, 1) := by decide +kernel
theorem dL_law_951 : decode cL_law 951 = .ok (.aload_n 0, 1) := by decide +kernel
theorem dL_law_952 : decode cL_law 952 = .ok (.iload 4, 2) := by decide +kernel
theorem dL_law_954 : decode cL_law 954 = .ok (.iconst 2, 1) := by decide +kernel
theorem dL_law_955 : decode cL_law 955 = .ok (.iadd, 1) := by decide +kernel
theorem dL_law_956 : decode cL_law 956 = .ok (.iaload, 1) := by decide +kernel
theorem dL_law_957 : decode cL_law 957 = .ok (.invokevirtual 164, 3) := by decide +kernel
theorem dL_law_960 : decode cL_law 960 = .ok (.istore 6, 2) := by decide +kernel
theorem dL_law_962 : decode cL_law 962 = .ok (.aload_n 2, 1) := by decide +kernel
theorem dL_law_963 : decode cL_law 963 = .ok (.invokevirtual 128, 3) := by decide +kernel
theorem dL_law_966 : decode cL_law 966 = .ok (.iload 5, 2) := by decide +kernel
theorem dL_law_968 : decode cL_law 968 = .ok (.if_icmp .eq 5, 3) := by decide +kernel
theorem dL_law_973 : decode cL_law 973 = .ok (.iload 5, 2) := by decide +kernel
theorem dL_law_990 : decode cL_law 990 = .ok (.goto 1521, 3) := by decide +kernel
theorem dL_law_975 : decode cL_law 975 = .ok (.ifCond .ne 15, 3) := by decide +kernel
theorem dL_law_978 : decode cL_law 978 = .ok (.aload_n 3, 1) := by decide +kernel
theorem dL_law_979 : decode cL_law 979 = .ok (.iconst 0, 1) := by decide +kernel
theorem dL_law_980 : decode cL_law 980 = .ok (.laload, 1) := by decide +kernel
theorem dL_law_981 : decode cL_law 981 = .ok (.iload 6, 2) := by decide +kernel
theorem dL_law_983 : decode cL_law 983 = .ok (.i2l, 1) := by decide +kernel
theorem dL_law_984 : decode cL_law 984 = .ok (.lcmp, 1) := by decide +kernel
theorem dL_law_985 : decode cL_law 985 = .ok (.ifCond .eq 5, 3) := by decide +kernel
set_option maxRecDepth 10000 in
theorem lc_11 {sc : Nat × (Nat → Int32)} {d : Nat} {Q : aO → aH → Prop} {σ : aH} {u : Nat} {i N : Int} (hG : G σ u) (hi : 0 ≤ i ∧ i + 6 ≤ (sc.1 : Int)) (hl : (sc.1 : Int) ≤ 3072) (h : JW sc (d + 1) mL_net mX10_net [.int (nZ (xs sc (i + 1))), .int (nZ (xs sc (i + 2)))] σ N (fun _ => True))
    (next : ∀ σ2 : aH, JE σ σ2 N → wp (Ev sc (d + 1)) 11 cL_law 7 (some .boolean) false [] sc Q 2511 [(0, .ref 1000000), (1, .ref 0), (2, .ref 76), (3, .ref 344), (4, .int (nZ i))] [] σ2) :
    wp (Ev sc (d + 1)) 11 cL_law 7 (some .boolean) false [] sc Q 925 [(0, .ref 1000000), (1, .ref 0), (2, .ref 76), (3, .ref 344), (4, .int (nZ i))] [] σ := by
  refine w_aload_n dL_law_925 rfl (List.Mem.tail _ (List.Mem.head _)) ?_
  refine w_aload_n dL_law_926 rfl (List.Mem.head _) ?_
  refine w_iload dL_law_927 (List.Mem.tail _ (List.Mem.tail _ (List.Mem.tail _ (List.Mem.tail _ (List.Mem.head _))))) ?_
  refine w_iconst (v := nZ 1) dL_law_929 (by decide) ?_
  refine i_add dL_law_930 ?_
  refine i_isld dL_law_931 (by omega) (by omega) ?_
  refine w_aload_n dL_law_932 rfl (List.Mem.head _) ?_
  refine w_iload dL_law_933 (List.Mem.tail _ (List.Mem.tail _ (List.Mem.tail _ (List.Mem.tail _ (List.Mem.head _))))) ?_
  refine w_iconst (v := nZ 2) dL_law_935 (by decide) ?_
  refine i_add dL_law_936 ?_
  refine i_isld dL_law_937 (by omega) (by omega) ?_
  refine w_aload_n dL_law_938 rfl (List.Mem.tail _ (List.Mem.tail _ (List.Mem.tail _ (List.Mem.head _)))) ?_
  obtain ⟨k, r, σ1, σ2, u1, u2, e1, rk, g1, e2, rr, g2, t0, tj, je⟩ := h
  refine w_callW dL_law_939 mp_11_162 ⟨ok_L_net, st_L_net⟩ hs_L_net (As := [.ref 0, .int (nZ (xs sc (i + 1))), .int (nZ (xs sc (i + 2))), .ref 344]) rfl rfl (Nat.le_of_ble_eq_true rfl) e1 ?_
  show wp (Ev sc (d + 1)) 11 cL_law 7 (some .boolean) false [] sc Q 942 [(0, .ref 1000000), (1, .ref 0), (2, .ref 76), (3, .ref 344), (4, .int (nZ i))] [.int (nZ k)] σ1
  refine w_istore (l' := [(5, .int (nZ k)), (0, .ref 1000000), (1, .ref 0), (2, .ref 76), (3, .ref 344), (4, .int (nZ i))]) dL_law_942 (by decide) rfl ?_
  refine w_aload_n dL_law_944 rfl (List.Mem.tail _ (List.Mem.tail _ (List.Mem.tail _ (List.Mem.head _)))) ?_
  refine w_aload_n dL_law_945 rfl (List.Mem.tail _ (List.Mem.head _)) ?_
  refine w_iload dL_law_946 (List.Mem.tail _ (List.Mem.tail _ (List.Mem.tail _ (List.Mem.tail _ (List.Mem.tail _ (List.Mem.head _)))))) ?_
  refine w_iconst (v := nZ 1) dL_law_948 (by decide) ?_
  refine i_add dL_law_949 ?_
  refine i_isld dL_law_950 (by omega) (by omega) ?_
  refine w_aload_n dL_law_951 rfl (List.Mem.tail _ (List.Mem.head _)) ?_
  refine w_iload dL_law_952 (List.Mem.tail _ (List.Mem.tail _ (List.Mem.tail _ (List.Mem.tail _ (List.Mem.tail _ (List.Mem.head _)))))) ?_
  refine w_iconst (v := nZ 2) dL_law_954 (by decide) ?_
  refine i_add dL_law_955 ?_
  refine i_isld dL_law_956 (by omega) (by omega) ?_
  refine w_callV dL_law_957 ml_11_164 ⟨ok_X10_net, vi_X10_net⟩ hs_X10_net (As := [.int (nZ (xs sc (i + 1))), .int (nZ (xs sc (i + 2)))]) rfl rfl (gT g1 rfl (lt_of rfl)) (Nat.le_of_ble_eq_true rfl) e2 ?_
  show wp (Ev sc (d + 1)) 11 cL_law 7 (some .boolean) false [] sc Q 960 [(5, .int (nZ k)), (0, .ref 1000000), (1, .ref 0), (2, .ref 76), (3, .ref 344), (4, .int (nZ i))] [.int (nZ r)] σ2
  refine w_istore (l' := [(6, .int (nZ r)), (5, .int (nZ k)), (0, .ref 1000000), (1, .ref 0), (2, .ref 76), (3, .ref 344), (4, .int (nZ i))]) dL_law_960 (by decide) rfl ?_
  refine w_aload_n dL_law_962 rfl (List.Mem.tail _ (List.Mem.tail _ (List.Mem.tail _ (List.Mem.tail _ (List.Mem.head _))))) ?_
  refine w_callV dL_law_963 ml_11_128 ⟨ok_X10_thrown, vi_X10_thrown⟩ hs_X10_thrown (As := []) rfl rfl (gT g2 rfl (lt_of rfl)) (Nat.le_of_ble_eq_true rfl) (s_thrown g2) ?_
  show wp (Ev sc (d + 1)) 11 cL_law 7 (some .boolean) false [] sc Q 966 [(6, .int (nZ r)), (5, .int (nZ k)), (0, .ref 1000000), (1, .ref 0), (2, .ref 76), (3, .ref 344), (4, .int (nZ i))] [.int (nZ (rI σ2 76 0))] σ2
  refine w_iload dL_law_966 (List.Mem.tail _ (List.Mem.head _)) ?_
  refine i_cmp_eq (tgt := 973) dL_law_968 rfl (rI_R _ _ _) rk (fun _ => ?_) (fun c9 => absurd t0 c9)
  refine w_iload dL_law_973 (List.Mem.tail _ (List.Mem.head _)) ?_
  have fin : wp (Ev sc (d + 1)) 11 cL_law 7 (some .boolean) false [] sc Q 990 [(6, .int (nZ r)), (5, .int (nZ k)), (0, .ref 1000000), (1, .ref 0), (2, .ref 76), (3, .ref 344), (4, .int (nZ i))] [] σ2 := by
    refine w_goto (tgt := 2511) dL_law_990 rfl ?_
    exact w_weak (l' := [(0, .ref 1000000), (1, .ref 0), (2, .ref 76), (3, .ref 344), (4, .int (nZ i))]) (by intro q hq; simp only [List.mem_cons, List.not_mem_nil, or_false] at hq ⊢; rcases hq with rfl | rfl | rfl | rfl | rfl <;> simp) (next σ2 je)
  refine i_if_ne (tgt := 990) dL_law_975 rfl rk (fun _ => fin) (fun c9 => ?_)
  obtain ⟨tj, hb⟩ := tj c9
  refine w_aload_n dL_law_978 rfl (List.Mem.tail _ (List.Mem.tail _ (List.Mem.tail _ (List.Mem.tail _ (List.Mem.tail _ (List.Mem.head _)))))) ?_
  refine w_iconst (v := nZ 0) dL_law_979 (by decide) ?_
  refine i_lald (n := 1) dL_law_980 (gT g2 rfl (lt_of rfl)) (gL g2 rfl) (by decide) (by decide) ?_
  rw [tj]
  refine w_iload dL_law_981 (List.Mem.head _) ?_
  refine i_2l dL_law_983 rr ?_
  refine j_cmp dL_law_984 (by omega) (by omega) ?_
  rw [show (if r < r then (1 : Int) else if r = r then 0 else (-1)) = 0 by rw [if_neg (by omega), if_pos rfl]]
  exact i_if_eq (tgt := 990) dL_law_985 rfl (by decide) (fun _ => fin) (fun c8 => absurd rfl c8)
