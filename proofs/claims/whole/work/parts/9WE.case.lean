theorem dL_law_1553 : decode cL_law 1553 = .ok (.aload_n 1, 1) := by decide +kernel
theorem dL_law_1554 : decode cL_law 1554 = .ok (.aload_n 0, 1) := by decide +kernel
theorem dL_law_1555 : decode cL_law 1555 = .ok (.iload 4, 2) := by decide +kernel
theorem dL_law_1557 : decode cL_law 1557 = .ok (.iconst 1, 1) := by decide +kernel
theorem dL_law_1558 : decode cL_law 1558 = .ok (.iadd, 1) := by decide +kernel
theorem dL_law_1559 : decode cL_law 1559 = .ok (.iaload, 1) := by decide +kernel
theorem dL_law_1560 : decode cL_law 1560 = .ok (.aload_n 0, 1) := by decide +kernel
theorem dL_law_1561 : decode cL_law 1561 = .ok (.iload 4, 2) := by decide +kernel
theorem dL_law_1563 : decode cL_law 1563 = .ok (.iconst 2, 1) := by decide +kernel
theorem dL_law_1564 : decode cL_law 1564 = .ok (.iadd, 1) := by decide +kernel
theorem dL_law_1565 : decode cL_law 1565 = .ok (.iaload, 1) := by decide +kernel
theorem dL_law_1566 : decode cL_law 1566 = .ok (.aload_n 3, 1) := by decide +kernel
theorem dL_law_1567 : decode cL_law 1567 = .ok (.invokestatic 205, 3) := by decide +kernel
theorem dL_law_1570 : decode cL_law 1570 = .ok (.istore 5, 2) := by decide +kernel
theorem dL_law_1572 : decode cL_law 1572 = .ok (.aload_n 2, 1) := by decide +kernel
theorem dL_law_1573 : decode cL_law 1573 = .ok (.aload_n 0, 1) := by decide +kernel
theorem dL_law_1574 : decode cL_law 1574 = .ok (.iload 4, 2) := by decide +kernel
theorem dL_law_1576 : decode cL_law 1576 = .ok (.iconst 1, 1) := by decide +kernel
theorem dL_law_1577 : decode cL_law 1577 = .ok (.iadd, 1) := by decide +kernel
theorem dL_law_1578 : decode cL_law 1578 = .ok (.iaload, 1) := by decide +kernel
theorem dL_law_1579 : decode cL_law 1579 = .ok (.aload_n 0, 1) := by decide +kernel
theorem dL_law_1580 : decode cL_law 1580 = .ok (.iload 4, 2) := by decide +kernel
theorem dL_law_1582 : decode cL_law 1582 = .ok (.iconst 2, 1) := by decide +kernel
theorem dL_law_1583 : decode cL_law 1583 = .ok (.iadd, 1) := by decide +kernel
theorem dL_law_1584 : decode cL_law 1584 = .ok (.iaload, 1) := by decide +kernel
theorem dL_law_1585 : decode cL_law 1585 = .ok (.invokevirtual 207, 3) := by decide +kernel
theorem dL_law_1588 : decode cL_law 1588 = .ok (.istore 6, 2) := by decide +kernel
theorem dL_law_1590 : decode cL_law 1590 = .ok (.aload_n 2, 1) := by decide +kernel
theorem dL_law_1591 : decode cL_law 1591 = .ok (.invokevirtual 128, 3) := by decide +kernel
theorem dL_law_1594 : decode cL_law 1594 = .ok (.iload 5, 2) := by decide +kernel
theorem dL_law_1596 : decode cL_law 1596 = .ok (.if_icmp .eq 5, 3) := by decide +kernel
theorem dL_law_1601 : decode cL_law 1601 = .ok (.iload 5, 2) := by decide +kernel
theorem dL_law_1618 : decode cL_law 1618 = .ok (.goto 893, 3) := by decide +kernel
theorem dL_law_1603 : decode cL_law 1603 = .ok (.ifCond .ne 15, 3) := by decide +kernel
theorem dL_law_1606 : decode cL_law 1606 = .ok (.aload_n 3, 1) := by decide +kernel
theorem dL_law_1607 : decode cL_law 1607 = .ok (.iconst 0, 1) := by decide +kernel
theorem dL_law_1608 : decode cL_law 1608 = .ok (.laload, 1) := by decide +kernel
theorem dL_law_1609 : decode cL_law 1609 = .ok (.iload 6, 2) := by decide +kernel
theorem dL_law_1611 : decode cL_law 1611 = .ok (.i2l, 1) := by decide +kernel
theorem dL_law_1612 : decode cL_law 1612 = .ok (.lcmp, 1) := by decide +kernel
theorem dL_law_1613 : decode cL_law 1613 = .ok (.ifCond .eq 5, 3) := by decide +kernel
set_option maxRecDepth 10000 in
theorem lc_24 {sc : Nat × (Nat → Int32)} {d : Nat} {Q : aO → aH → Prop} {σ : aH} {u : Nat} {i N : Int} (hG : G σ u) (hi : 0 ≤ i ∧ i + 6 ≤ (sc.1 : Int)) (hl : (sc.1 : Int) ≤ 3072) (h : JW sc (d + 1) mL_cold mX10_cold [.int (nZ (xs sc (i + 1))), .int (nZ (xs sc (i + 2)))] σ N (fun _ => True))
    (next : ∀ σ2 : aH, JE σ σ2 N → wp (Ev sc (d + 1)) 11 cL_law 7 (some .boolean) false [] sc Q 2511 [(0, .ref 1000000), (1, .ref 0), (2, .ref 76), (3, .ref 344), (4, .int (nZ i))] [] σ2) :
    wp (Ev sc (d + 1)) 11 cL_law 7 (some .boolean) false [] sc Q 1553 [(0, .ref 1000000), (1, .ref 0), (2, .ref 76), (3, .ref 344), (4, .int (nZ i))] [] σ := by
  refine w_aload_n dL_law_1553 rfl (List.Mem.tail _ (List.Mem.head _)) ?_
  refine w_aload_n dL_law_1554 rfl (List.Mem.head _) ?_
  refine w_iload dL_law_1555 (List.Mem.tail _ (List.Mem.tail _ (List.Mem.tail _ (List.Mem.tail _ (List.Mem.head _))))) ?_
  refine w_iconst (v := nZ 1) dL_law_1557 (by decide) ?_
  refine i_add dL_law_1558 ?_
  refine i_isld dL_law_1559 (by omega) (by omega) ?_
  refine w_aload_n dL_law_1560 rfl (List.Mem.head _) ?_
  refine w_iload dL_law_1561 (List.Mem.tail _ (List.Mem.tail _ (List.Mem.tail _ (List.Mem.tail _ (List.Mem.head _))))) ?_
  refine w_iconst (v := nZ 2) dL_law_1563 (by decide) ?_
  refine i_add dL_law_1564 ?_
  refine i_isld dL_law_1565 (by omega) (by omega) ?_
  refine w_aload_n dL_law_1566 rfl (List.Mem.tail _ (List.Mem.tail _ (List.Mem.tail _ (List.Mem.head _)))) ?_
  obtain ⟨k, r, σ1, σ2, u1, u2, e1, rk, g1, e2, rr, g2, t0, tj, je⟩ := h
  refine w_callW dL_law_1567 mp_11_205 ⟨ok_L_cold, st_L_cold⟩ hs_L_cold (As := [.ref 0, .int (nZ (xs sc (i + 1))), .int (nZ (xs sc (i + 2))), .ref 344]) rfl rfl (Nat.le_of_ble_eq_true rfl) e1 ?_
  show wp (Ev sc (d + 1)) 11 cL_law 7 (some .boolean) false [] sc Q 1570 [(0, .ref 1000000), (1, .ref 0), (2, .ref 76), (3, .ref 344), (4, .int (nZ i))] [.int (nZ k)] σ1
  refine w_istore (l' := [(5, .int (nZ k)), (0, .ref 1000000), (1, .ref 0), (2, .ref 76), (3, .ref 344), (4, .int (nZ i))]) dL_law_1570 (by decide) rfl ?_
  refine w_aload_n dL_law_1572 rfl (List.Mem.tail _ (List.Mem.tail _ (List.Mem.tail _ (List.Mem.head _)))) ?_
  refine w_aload_n dL_law_1573 rfl (List.Mem.tail _ (List.Mem.head _)) ?_
  refine w_iload dL_law_1574 (List.Mem.tail _ (List.Mem.tail _ (List.Mem.tail _ (List.Mem.tail _ (List.Mem.tail _ (List.Mem.head _)))))) ?_
  refine w_iconst (v := nZ 1) dL_law_1576 (by decide) ?_
  refine i_add dL_law_1577 ?_
  refine i_isld dL_law_1578 (by omega) (by omega) ?_
  refine w_aload_n dL_law_1579 rfl (List.Mem.tail _ (List.Mem.head _)) ?_
  refine w_iload dL_law_1580 (List.Mem.tail _ (List.Mem.tail _ (List.Mem.tail _ (List.Mem.tail _ (List.Mem.tail _ (List.Mem.head _)))))) ?_
  refine w_iconst (v := nZ 2) dL_law_1582 (by decide) ?_
  refine i_add dL_law_1583 ?_
  refine i_isld dL_law_1584 (by omega) (by omega) ?_
  refine w_callV dL_law_1585 ml_11_207 ⟨ok_X10_cold, vi_X10_cold⟩ hs_X10_cold (As := [.int (nZ (xs sc (i + 1))), .int (nZ (xs sc (i + 2)))]) rfl rfl (gT g1 rfl (lt_of rfl)) (Nat.le_of_ble_eq_true rfl) e2 ?_
  show wp (Ev sc (d + 1)) 11 cL_law 7 (some .boolean) false [] sc Q 1588 [(5, .int (nZ k)), (0, .ref 1000000), (1, .ref 0), (2, .ref 76), (3, .ref 344), (4, .int (nZ i))] [.int (nZ r)] σ2
  refine w_istore (l' := [(6, .int (nZ r)), (5, .int (nZ k)), (0, .ref 1000000), (1, .ref 0), (2, .ref 76), (3, .ref 344), (4, .int (nZ i))]) dL_law_1588 (by decide) rfl ?_
  refine w_aload_n dL_law_1590 rfl (List.Mem.tail _ (List.Mem.tail _ (List.Mem.tail _ (List.Mem.tail _ (List.Mem.head _))))) ?_
  refine w_callV dL_law_1591 ml_11_128 ⟨ok_X10_thrown, vi_X10_thrown⟩ hs_X10_thrown (As := []) rfl rfl (gT g2 rfl (lt_of rfl)) (Nat.le_of_ble_eq_true rfl) (s_thrown g2) ?_
  show wp (Ev sc (d + 1)) 11 cL_law 7 (some .boolean) false [] sc Q 1594 [(6, .int (nZ r)), (5, .int (nZ k)), (0, .ref 1000000), (1, .ref 0), (2, .ref 76), (3, .ref 344), (4, .int (nZ i))] [.int (nZ (rI σ2 76 0))] σ2
  refine w_iload dL_law_1594 (List.Mem.tail _ (List.Mem.head _)) ?_
  refine i_cmp_eq (tgt := 1601) dL_law_1596 rfl (rI_R _ _ _) rk (fun _ => ?_) (fun c9 => absurd t0 c9)
  refine w_iload dL_law_1601 (List.Mem.tail _ (List.Mem.head _)) ?_
  have fin : wp (Ev sc (d + 1)) 11 cL_law 7 (some .boolean) false [] sc Q 1618 [(6, .int (nZ r)), (5, .int (nZ k)), (0, .ref 1000000), (1, .ref 0), (2, .ref 76), (3, .ref 344), (4, .int (nZ i))] [] σ2 := by
    refine w_goto (tgt := 2511) dL_law_1618 rfl ?_
    exact w_weak (l' := [(0, .ref 1000000), (1, .ref 0), (2, .ref 76), (3, .ref 344), (4, .int (nZ i))]) (by intro q hq; simp only [List.mem_cons, List.not_mem_nil, or_false] at hq ⊢; rcases hq with rfl | rfl | rfl | rfl | rfl <;> simp) (next σ2 je)
  refine i_if_ne (tgt := 1618) dL_law_1603 rfl rk (fun _ => fin) (fun c9 => ?_)
  obtain ⟨tj, hb⟩ := tj c9
  refine w_aload_n dL_law_1606 rfl (List.Mem.tail _ (List.Mem.tail _ (List.Mem.tail _ (List.Mem.tail _ (List.Mem.tail _ (List.Mem.head _)))))) ?_
  refine w_iconst (v := nZ 0) dL_law_1607 (by decide) ?_
  refine i_lald (n := 1) dL_law_1608 (gT g2 rfl (lt_of rfl)) (gL g2 rfl) (by decide) (by decide) ?_
  rw [tj]
  refine w_iload dL_law_1609 (List.Mem.head _) ?_
  refine i_2l dL_law_1611 rr ?_
  refine j_cmp dL_law_1612 (by omega) (by omega) ?_
  rw [show (if r < r then (1 : Int) else if r = r then 0 else (-1)) = 0 by rw [if_neg (by omega), if_pos rfl]]
  exact i_if_eq (tgt := 1618) dL_law_1613 rfl (by decide) (fun _ => fin) (fun c8 => absurd rfl c8)
theorem dL_law_1621 : decode cL_law 1621 = .ok (.aload_n 1, 1) := by decide +kernel
theorem dL_law_1622 : decode cL_law 1622 = .ok (.aload_n 0, 1) := by decide +kernel
theorem dL_law_1623 : decode cL_law 1623 = .ok (.iload 4, 2) := by decide +kernel
theorem dL_law_1625 : decode cL_law 1625 = .ok (.iconst 1, 1) := by decide +kernel
theorem dL_law_1626 : decode cL_law 1626 = .ok (.iadd, 1) := by decide +kernel
theorem dL_law_1627 : decode cL_law 1627 = .ok (.iaload, 1) := by decide +kernel
theorem dL_law_1628 : decode cL_law 1628 = .ok (.aload_n 3, 1) := by decide +kernel
theorem dL_law_1629 : decode cL_law 1629 = .ok (.invokestatic 208, 3) := by decide +kernel
theorem dL_law_1632 : decode cL_law 1632 = .ok (.istore 5, 2) := by decide +kernel
theorem dL_law_1634 : decode cL_law 1634 = .ok (.aload_n 2, 1) := by decide +kernel
theorem dL_law_1635 : decode cL_law 1635 = .ok (.aload_n 0, 1) := by decide +kernel
theorem dL_law_1636 : decode cL_law 1636 = .ok (.iload 4, 2) := by decide +kernel
theorem dL_law_1638 : decode cL_law 1638 = .ok (.iconst 1, 1) := by decide +kernel
theorem dL_law_1639 : decode cL_law 1639 = .ok (.iadd, 1) := by decide +kernel
theorem dL_law_1640 : decode cL_law 1640 = .ok (.iaload, 1) := by decide +kernel
theorem dL_law_1641 : decode cL_law 1641 = .ok (.invokevirtual 210, 3) := by decide +kernel
theorem dL_law_1644 : decode cL_law 1644 = .ok (.istore 6, 2) := by decide +kernel
theorem dL_law_1646 : decode cL_law 1646 = .ok (.aload_n 2, 1) := by decide +kernel
theorem dL_law_1647 : decode cL_law 1647 = .ok (.invokevirtual 128, 3) := by decide +kernel
theorem dL_law_1650 : decode cL_law 1650 = .ok (.iload 5, 2) := by decide +kernel
theorem dL_law_1652 : decode cL_law 1652 = .ok (.if_icmp .eq 5, 3) := by decide +kernel
theorem dL_law_1657 : decode cL_law 1657 = .ok (.iload 5, 2) := by decide +kernel
theorem dL_law_1674 : decode cL_law 1674 = .ok (.goto 837, 3) := by decide +kernel
theorem dL_law_1659 : decode cL_law 1659 = .ok (.ifCond .ne 15, 3) := by decide +kernel
theorem dL_law_1662 : decode cL_law 1662 = .ok (.aload_n 3, 1) := by decide +kernel
theorem dL_law_1663 : decode cL_law 1663 = .ok (.iconst 0, 1) := by decide +kernel
theorem dL_law_1664 : decode cL_law 1664 = .ok (.laload, 1) := by decide +kernel
theorem dL_law_1665 : decode cL_law 1665 = .ok (.iload 6, 2) := by decide +kernel
theorem dL_law_1667 : decode cL_law 1667 = .ok (.i2l, 1) := by decide +kernel
theorem dL_law_1668 : decode cL_law 1668 = .ok (.lcmp, 1) := by decide +kernel
theorem dL_law_1669 : decode cL_law 1669 = .ok (.ifCond .eq 5, 3) := by decide +kernel
set_option maxRecDepth 10000 in
theorem lc_25 {sc : Nat × (Nat → Int32)} {d : Nat} {Q : aO → aH → Prop} {σ : aH} {u : Nat} {i N : Int} (hG : G σ u) (hi : 0 ≤ i ∧ i + 6 ≤ (sc.1 : Int)) (hl : (sc.1 : Int) ≤ 3072) (h : JW sc (d + 1) mL_what mX10_what [.int (nZ (xs sc (i + 1)))] σ N (fun _ => True))
    (next : ∀ σ2 : aH, JE σ σ2 N → wp (Ev sc (d + 1)) 11 cL_law 7 (some .boolean) false [] sc Q 2511 [(0, .ref 1000000), (1, .ref 0), (2, .ref 76), (3, .ref 344), (4, .int (nZ i))] [] σ2) :
    wp (Ev sc (d + 1)) 11 cL_law 7 (some .boolean) false [] sc Q 1621 [(0, .ref 1000000), (1, .ref 0), (2, .ref 76), (3, .ref 344), (4, .int (nZ i))] [] σ := by
  refine w_aload_n dL_law_1621 rfl (List.Mem.tail _ (List.Mem.head _)) ?_
  refine w_aload_n dL_law_1622 rfl (List.Mem.head _) ?_
  refine w_iload dL_law_1623 (List.Mem.tail _ (List.Mem.tail _ (List.Mem.tail _ (List.Mem.tail _ (List.Mem.head _))))) ?_
  refine w_iconst (v := nZ 1) dL_law_1625 (by decide) ?_
  refine i_add dL_law_1626 ?_
  refine i_isld dL_law_1627 (by omega) (by omega) ?_
  refine w_aload_n dL_law_1628 rfl (List.Mem.tail _ (List.Mem.tail _ (List.Mem.tail _ (List.Mem.head _)))) ?_
  obtain ⟨k, r, σ1, σ2, u1, u2, e1, rk, g1, e2, rr, g2, t0, tj, je⟩ := h
  refine w_callW dL_law_1629 mp_11_208 ⟨ok_L_what, st_L_what⟩ hs_L_what (As := [.ref 0, .int (nZ (xs sc (i + 1))), .ref 344]) rfl rfl (Nat.le_of_ble_eq_true rfl) e1 ?_
  show wp (Ev sc (d + 1)) 11 cL_law 7 (some .boolean) false [] sc Q 1632 [(0, .ref 1000000), (1, .ref 0), (2, .ref 76), (3, .ref 344), (4, .int (nZ i))] [.int (nZ k)] σ1
  refine w_istore (l' := [(5, .int (nZ k)), (0, .ref 1000000), (1, .ref 0), (2, .ref 76), (3, .ref 344), (4, .int (nZ i))]) dL_law_1632 (by decide) rfl ?_
  refine w_aload_n dL_law_1634 rfl (List.Mem.tail _ (List.Mem.tail _ (List.Mem.tail _ (List.Mem.head _)))) ?_
  refine w_aload_n dL_law_1635 rfl (List.Mem.tail _ (List.Mem.head _)) ?_
  refine w_iload dL_law_1636 (List.Mem.tail _ (List.Mem.tail _ (List.Mem.tail _ (List.Mem.tail _ (List.Mem.tail _ (List.Mem.head _)))))) ?_
  refine w_iconst (v := nZ 1) dL_law_1638 (by decide) ?_
  refine i_add dL_law_1639 ?_
  refine i_isld dL_law_1640 (by omega) (by omega) ?_
  refine w_callV dL_law_1641 ml_11_210 ⟨ok_X10_what, vi_X10_what⟩ hs_X10_what (As := [.int (nZ (xs sc (i + 1)))]) rfl rfl (gT g1 rfl (lt_of rfl)) (Nat.le_of_ble_eq_true rfl) e2 ?_
  show wp (Ev sc (d + 1)) 11 cL_law 7 (some .boolean) false [] sc Q 1644 [(5, .int (nZ k)), (0, .ref 1000000), (1, .ref 0), (2, .ref 76), (3, .ref 344), (4, .int (nZ i))] [.int (nZ r)] σ2
  refine w_istore (l' := [(6, .int (nZ r)), (5, .int (nZ k)), (0, .ref 1000000), (1, .ref 0), (2, .ref 76), (3, .ref 344), (4, .int (nZ i))]) dL_law_1644 (by decide) rfl ?_
  refine w_aload_n dL_law_1646 rfl (List.Mem.tail _ (List.Mem.tail _ (List.Mem.tail _ (List.Mem.tail _ (List.Mem.head _))))) ?_
  refine w_callV dL_law_1647 ml_11_128 ⟨ok_X10_thrown, vi_X10_thrown⟩ hs_X10_thrown (As := []) rfl rfl (gT g2 rfl (lt_of rfl)) (Nat.le_of_ble_eq_true rfl) (s_thrown g2) ?_
  show wp (Ev sc (d + 1)) 11 cL_law 7 (some .boolean) false [] sc Q 1650 [(6, .int (nZ r)), (5, .int (nZ k)), (0, .ref 1000000), (1, .ref 0), (2, .ref 76), (3, .ref 344), (4, .int (nZ i))] [.int (nZ (rI σ2 76 0))] σ2
  refine w_iload dL_law_1650 (List.Mem.tail _ (List.Mem.head _)) ?_
  refine i_cmp_eq (tgt := 1657) dL_law_1652 rfl (rI_R _ _ _) rk (fun _ => ?_) (fun c9 => absurd t0 c9)
  refine w_iload dL_law_1657 (List.Mem.tail _ (List.Mem.head _)) ?_
  have fin : wp (Ev sc (d + 1)) 11 cL_law 7 (some .boolean) false [] sc Q 1674 [(6, .int (nZ r)), (5, .int (nZ k)), (0, .ref 1000000), (1, .ref 0), (2, .ref 76), (3, .ref 344), (4, .int (nZ i))] [] σ2 := by
    refine w_goto (tgt := 2511) dL_law_1674 rfl ?_
    exact w_weak (l' := [(0, .ref 1000000), (1, .ref 0), (2, .ref 76), (3, .ref 344), (4, .int (nZ i))]) (by intro q hq; simp only [List.mem_cons, List.not_mem_nil, or_false] at hq ⊢; rcases hq with rfl | rfl | rfl | rfl | rfl <;> simp) (next σ2 je)
  refine i_if_ne (tgt := 1674) dL_law_1659 rfl rk (fun _ => fin) (fun c9 => ?_)
  obtain ⟨tj, hb⟩ := tj c9
  refine w_aload_n dL_law_1662 rfl (List.Mem.tail _ (List.Mem.tail _ (List.Mem.tail _ (List.Mem.tail _ (List.Mem.tail _ (List.Mem.head _)))))) ?_
  refine w_iconst (v := nZ 0) dL_law_1663 (by decide) ?_
  refine i_lald (n := 1) dL_law_1664 (gT g2 rfl (lt_of rfl)) (gL g2 rfl) (by decide) (by decide) ?_
  rw [tj]
  refine w_iload dL_law_1665 (List.Mem.head _) ?_
  refine i_2l dL_law_1667 rr ?_
  refine j_cmp dL_law_1668 (by omega) (by omega) ?_
  rw [show (if r < r then (1 : Int) else if r = r then 0 else (-1)) = 0 by rw [if_neg (by omega), if_pos rfl]]
  exact i_if_eq (tgt := 1674) dL_law_1669 rfl (by decide) (fun _ => fin) (fun c8 => absurd rfl c8)
theorem dL_law_1677 : decode cL_law 1677 = .ok (.aload_n 1, 1) := by decide +kernel
theorem dL_law_1678 : decode cL_law 1678 = .ok (.aload_n 0, 1) := by decide +kernel
theorem dL_law_1679 : decode cL_law 1679 = .ok (.iload 4, 2) := by decide +kernel
theorem dL_law_1681 : decode cL_law 1681 = .ok (.iconst 1, 1) := by decide +kernel
theorem dL_law_1682 : decode cL_law 1682 = .ok (.iadd, 1) := by decide +kernel
theorem dL_law_1683 : decode cL_law 1683 = .ok (.iaload, 1) := by decide +kernel
theorem dL_law_1684 : decode cL_law 1684 = .ok (.aload_n 3, 1) := by decide +kernel
theorem dL_law_1685 : decode cL_law 1685 = .ok (.invokestatic 211, 3) := by decide +kernel
theorem dL_law_1688 : decode cL_law 1688 = .ok (.istore 5, 2) := by decide +kernel
theorem dL_law_1690 : decode cL_law 1690 = .ok (.aload_n 2, 1) := by decide +kernel
theorem dL_law_1691 : decode cL_law 1691 = .ok (.aload_n 0, 1) := by decide +kernel
theorem dL_law_1692 : decode cL_law 1692 = .ok (.iload 4, 2) := by decide +kernel
theorem dL_law_1694 : decode cL_law 1694 = .ok (.iconst 1, 1) := by decide +kernel
theorem dL_law_1695 : decode cL_law 1695 = .ok (.iadd, 1) := by decide +kernel
theorem dL_law_1696 : decode cL_law 1696 = .ok (.iaload, 1) := by decide +kernel
theorem dL_law_1697 : decode cL_law 1697 = .ok (.invokevirtual 213, 3) := by decide +kernel
theorem dL_law_1700 : decode cL_law 1700 = .ok (.istore 6, 2) := by decide +kernel
theorem dL_law_1702 : decode cL_law 1702 = .ok (.aload_n 2, 1) := by decide +kernel
theorem dL_law_1703 : decode cL_law 1703 = .ok (.invokevirtual 128, 3) := by decide +kernel
theorem dL_law_1706 : decode cL_law 1706 = .ok (.iload 5, 2) := by decide +kernel
theorem dL_law_1708 : decode cL_law 1708 = .ok (.if_icmp .eq 5, 3) := by decide +kernel
theorem dL_law_1713 : decode cL_law 1713 = .ok (.iload 5, 2) := by decide +kernel
theorem dL_law_1730 : decode cL_law 1730 = .ok (.goto 781, 3) := by decide +kernel
theorem dL_law_1715 : decode cL_law 1715 = .ok (.ifCond .ne 15, 3) := by decide +kernel
theorem dL_law_1718 : decode cL_law 1718 = .ok (.aload_n 3, 1) := by decide +kernel
theorem dL_law_1719 : decode cL_law 1719 = .ok (.iconst 0, 1) := by decide +kernel
theorem dL_law_1720 : decode cL_law 1720 = .ok (.laload, 1) := by decide +kernel
theorem dL_law_1721 : decode cL_law 1721 = .ok (.iload 6, 2) := by decide +kernel
theorem dL_law_1723 : decode cL_law 1723 = .ok (.i2l, 1) := by decide +kernel
theorem dL_law_1724 : decode cL_law 1724 = .ok (.lcmp, 1) := by decide +kernel
theorem dL_law_1725 : decode cL_law 1725 = .ok (.ifCond .eq 5, 3) := by decide +kernel
set_option maxRecDepth 10000 in
theorem lc_26 {sc : Nat × (Nat → Int32)} {d : Nat} {Q : aO → aH → Prop} {σ : aH} {u : Nat} {i N : Int} (hG : G σ u) (hi : 0 ≤ i ∧ i + 6 ≤ (sc.1 : Int)) (hl : (sc.1 : Int) ≤ 3072) (h : JW sc (d + 1) mL_days mX10_days [.int (nZ (xs sc (i + 1)))] σ N (fun _ => True))
    (next : ∀ σ2 : aH, JE σ σ2 N → wp (Ev sc (d + 1)) 11 cL_law 7 (some .boolean) false [] sc Q 2511 [(0, .ref 1000000), (1, .ref 0), (2, .ref 76), (3, .ref 344), (4, .int (nZ i))] [] σ2) :
    wp (Ev sc (d + 1)) 11 cL_law 7 (some .boolean) false [] sc Q 1677 [(0, .ref 1000000), (1, .ref 0), (2, .ref 76), (3, .ref 344), (4, .int (nZ i))] [] σ := by
  refine w_aload_n dL_law_1677 rfl (List.Mem.tail _ (List.Mem.head _)) ?_
  refine w_aload_n dL_law_1678 rfl (List.Mem.head _) ?_
  refine w_iload dL_law_1679 (List.Mem.tail _ (List.Mem.tail _ (List.Mem.tail _ (List.Mem.tail _ (List.Mem.head _))))) ?_
  refine w_iconst (v := nZ 1) dL_law_1681 (by decide) ?_
  refine i_add dL_law_1682 ?_
  refine i_isld dL_law_1683 (by omega) (by omega) ?_
  refine w_aload_n dL_law_1684 rfl (List.Mem.tail _ (List.Mem.tail _ (List.Mem.tail _ (List.Mem.head _)))) ?_
  obtain ⟨k, r, σ1, σ2, u1, u2, e1, rk, g1, e2, rr, g2, t0, tj, je⟩ := h
  refine w_callW dL_law_1685 mp_11_211 ⟨ok_L_days, st_L_days⟩ hs_L_days (As := [.ref 0, .int (nZ (xs sc (i + 1))), .ref 344]) rfl rfl (Nat.le_of_ble_eq_true rfl) e1 ?_
  show wp (Ev sc (d + 1)) 11 cL_law 7 (some .boolean) false [] sc Q 1688 [(0, .ref 1000000), (1, .ref 0), (2, .ref 76), (3, .ref 344), (4, .int (nZ i))] [.int (nZ k)] σ1
  refine w_istore (l' := [(5, .int (nZ k)), (0, .ref 1000000), (1, .ref 0), (2, .ref 76), (3, .ref 344), (4, .int (nZ i))]) dL_law_1688 (by decide) rfl ?_
  refine w_aload_n dL_law_1690 rfl (List.Mem.tail _ (List.Mem.tail _ (List.Mem.tail _ (List.Mem.head _)))) ?_
  refine w_aload_n dL_law_1691 rfl (List.Mem.tail _ (List.Mem.head _)) ?_
  refine w_iload dL_law_1692 (List.Mem.tail _ (List.Mem.tail _ (List.Mem.tail _ (List.Mem.tail _ (List.Mem.tail _ (List.Mem.head _)))))) ?_
  refine w_iconst (v := nZ 1) dL_law_1694 (by decide) ?_
  refine i_add dL_law_1695 ?_
  refine i_isld dL_law_1696 (by omega) (by omega) ?_
  refine w_callV dL_law_1697 ml_11_213 ⟨ok_X10_days, vi_X10_days⟩ hs_X10_days (As := [.int (nZ (xs sc (i + 1)))]) rfl rfl (gT g1 rfl (lt_of rfl)) (Nat.le_of_ble_eq_true rfl) e2 ?_
  show wp (Ev sc (d + 1)) 11 cL_law 7 (some .boolean) false [] sc Q 1700 [(5, .int (nZ k)), (0, .ref 1000000), (1, .ref 0), (2, .ref 76), (3, .ref 344), (4, .int (nZ i))] [.int (nZ r)] σ2
  refine w_istore (l' := [(6, .int (nZ r)), (5, .int (nZ k)), (0, .ref 1000000), (1, .ref 0), (2, .ref 76), (3, .ref 344), (4, .int (nZ i))]) dL_law_1700 (by decide) rfl ?_
  refine w_aload_n dL_law_1702 rfl (List.Mem.tail _ (List.Mem.tail _ (List.Mem.tail _ (List.Mem.tail _ (List.Mem.head _))))) ?_
  refine w_callV dL_law_1703 ml_11_128 ⟨ok_X10_thrown, vi_X10_thrown⟩ hs_X10_thrown (As := []) rfl rfl (gT g2 rfl (lt_of rfl)) (Nat.le_of_ble_eq_true rfl) (s_thrown g2) ?_
  show wp (Ev sc (d + 1)) 11 cL_law 7 (some .boolean) false [] sc Q 1706 [(6, .int (nZ r)), (5, .int (nZ k)), (0, .ref 1000000), (1, .ref 0), (2, .ref 76), (3, .ref 344), (4, .int (nZ i))] [.int (nZ (rI σ2 76 0))] σ2
  refine w_iload dL_law_1706 (List.Mem.tail _ (List.Mem.head _)) ?_
  refine i_cmp_eq (tgt := 1713) dL_law_1708 rfl (rI_R _ _ _) rk (fun _ => ?_) (fun c9 => absurd t0 c9)
  refine w_iload dL_law_1713 (List.Mem.tail _ (List.Mem.head _)) ?_
  have fin : wp (Ev sc (d + 1)) 11 cL_law 7 (some .boolean) false [] sc Q 1730 [(6, .int (nZ r)), (5, .int (nZ k)), (0, .ref 1000000), (1, .ref 0), (2, .ref 76), (3, .ref 344), (4, .int (nZ i))] [] σ2 := by
    refine w_goto (tgt := 2511) dL_law_1730 rfl ?_
    exact w_weak (l' := [(0, .ref 1000000), (1, .ref 0), (2, .ref 76), (3, .ref 344), (4, .int (nZ i))]) (by intro q hq; simp only [List.mem_cons, List.not_mem_nil, or_false] at hq ⊢; rcases hq with rfl | rfl | rfl | rfl | rfl <;> simp) (next σ2 je)
  refine i_if_ne (tgt := 1730) dL_law_1715 rfl rk (fun _ => fin) (fun c9 => ?_)
  obtain ⟨tj, hb⟩ := tj c9
  refine w_aload_n dL_law_1718 rfl (List.Mem.tail _ (List.Mem.tail _ (List.Mem.tail _ (List.Mem.tail _ (List.Mem.tail _ (List.Mem.head _)))))) ?_
  refine w_iconst (v := nZ 0) dL_law_1719 (by decide) ?_
  refine i_lald (n := 1) dL_law_1720 (gT g2 rfl (lt_of rfl)) (gL g2 rfl) (by decide) (by decide) ?_
  rw [tj]
  refine w_iload dL_law_1721 (List.Mem.head _) ?_
  refine i_2l dL_law_1723 rr ?_
  refine j_cmp dL_law_1724 (by omega) (by omega) ?_
  rw [show (if r < r then (1 : Int) else if r = r then 0 else (-1)) = 0 by rw [if_neg (by omega), if_pos rfl]]
  exact i_if_eq (tgt := 1730) dL_law_1725 rfl (by decide) (fun _ => fin) (fun c8 => absurd rfl c8)
theorem dL_law_1733 : decode cL_law 1733 = .ok (.aload_n 1, 1) := by decide +kernel
theorem dL_law_1734 : decode cL_law 1734 = .ok (.aload_n 0, 1) := by decide +kernel
theorem dL_law_1735 : decode cL_law 1735 = .ok (.iload 4, 2) := by decide +kernel
theorem dL_law_1737 : decode cL_law 1737 = .ok (.iconst 1, 1) := by decide +kernel
theorem dL_law_1738 : decode cL_law 1738 = .ok (.iadd, 1) := by decide +kernel
theorem dL_law_1739 : decode cL_law 1739 = .ok (.iaload, 1) := by decide +kernel
theorem dL_law_1740 : decode cL_law 1740 = .ok (.aload_n 3, 1) := by decide +kernel
theorem dL_law_1741 : decode cL_law 1741 = .ok (.invokestatic 214, 3) := by decide +kernel
theorem dL_law_1744 : decode cL_law 1744 = .ok (.istore 5, 2) := by decide +kernel
theorem dL_law_1746 : decode cL_law 1746 = .ok (.aload_n 2, 1) := by decide +kernel
theorem dL_law_1747 : decode cL_law 1747 = .ok (.aload_n 0, 1) := by decide +kernel
theorem dL_law_1748 : decode cL_law 1748 = .ok (.iload 4, 2) := by decide +kernel
theorem dL_law_1750 : decode cL_law 1750 = .ok (.iconst 1, 1) := by decide +kernel
theorem dL_law_1751 : decode cL_law 1751 = .ok (.iadd, 1) := by decide +kernel
theorem dL_law_1752 : decode cL_law 1752 = .ok (.iaload, 1) := by decide +kernel
theorem dL_law_1753 : decode cL_law 1753 = .ok (.invokevirtual 216, 3) := by decide +kernel
theorem dL_law_1756 : decode cL_law 1756 = .ok (.istore 6, 2) := by decide +kernel
theorem dL_law_1758 : decode cL_law 1758 = .ok (.aload_n 2, 1) := by decide +kernel
theorem dL_law_1759 : decode cL_law 1759 = .ok (.invokevirtual 128, 3) := by decide +kernel
theorem dL_law_1762 : decode cL_law 1762 = .ok (.iload 5, 2) := by decide +kernel
theorem dL_law_1764 : decode cL_law 1764 = .ok (.if_icmp .eq 5, 3) := by decide +kernel
theorem dL_law_1769 : decode cL_law 1769 = .ok (.iload 5, 2) := by decide +kernel
theorem dL_law_1786 : decode cL_law 1786 = .ok (.goto 725, 3) := by decide +kernel
theorem dL_law_1771 : decode cL_law 1771 = .ok (.ifCond .ne 15, 3) := by decide +kernel
theorem dL_law_1774 : decode cL_law 1774 = .ok (.aload_n 3, 1) := by decide +kernel
theorem dL_law_1775 : decode cL_law 1775 = .ok (.iconst 0, 1) := by decide +kernel
theorem dL_law_1776 : decode cL_law 1776 = .ok (.laload, 1) := by decide +kernel
theorem dL_law_1777 : decode cL_law 1777 = .ok (.iload 6, 2) := by decide +kernel
theorem dL_law_1779 : decode cL_law 1779 = .ok (.i2l, 1) := by decide +kernel
theorem dL_law_1780 : decode cL_law 1780 = .ok (.lcmp, 1) := by decide +kernel
theorem dL_law_1781 : decode cL_law 1781 = .ok (.ifCond .eq 5, 3) := by decide +kernel
set_option maxRecDepth 10000 in
theorem lc_27 {sc : Nat × (Nat → Int32)} {d : Nat} {Q : aO → aH → Prop} {σ : aH} {u : Nat} {i N : Int} (hG : G σ u) (hi : 0 ≤ i ∧ i + 6 ≤ (sc.1 : Int)) (hl : (sc.1 : Int) ≤ 3072) (h : JW sc (d + 1) mL_when mX10_when [.int (nZ (xs sc (i + 1)))] σ N (fun _ => True))
    (next : ∀ σ2 : aH, JE σ σ2 N → wp (Ev sc (d + 1)) 11 cL_law 7 (some .boolean) false [] sc Q 2511 [(0, .ref 1000000), (1, .ref 0), (2, .ref 76), (3, .ref 344), (4, .int (nZ i))] [] σ2) :
    wp (Ev sc (d + 1)) 11 cL_law 7 (some .boolean) false [] sc Q 1733 [(0, .ref 1000000), (1, .ref 0), (2, .ref 76), (3, .ref 344), (4, .int (nZ i))] [] σ := by
  refine w_aload_n dL_law_1733 rfl (List.Mem.tail _ (List.Mem.head _)) ?_
  refine w_aload_n dL_law_1734 rfl (List.Mem.head _) ?_
  refine w_iload dL_law_1735 (List.Mem.tail _ (List.Mem.tail _ (List.Mem.tail _ (List.Mem.tail _ (List.Mem.head _))))) ?_
  refine w_iconst (v := nZ 1) dL_law_1737 (by decide) ?_
  refine i_add dL_law_1738 ?_
  refine i_isld dL_law_1739 (by omega) (by omega) ?_
  refine w_aload_n dL_law_1740 rfl (List.Mem.tail _ (List.Mem.tail _ (List.Mem.tail _ (List.Mem.head _)))) ?_
  obtain ⟨k, r, σ1, σ2, u1, u2, e1, rk, g1, e2, rr, g2, t0, tj, je⟩ := h
  refine w_callW dL_law_1741 mp_11_214 ⟨ok_L_when, st_L_when⟩ hs_L_when (As := [.ref 0, .int (nZ (xs sc (i + 1))), .ref 344]) rfl rfl (Nat.le_of_ble_eq_true rfl) e1 ?_
  show wp (Ev sc (d + 1)) 11 cL_law 7 (some .boolean) false [] sc Q 1744 [(0, .ref 1000000), (1, .ref 0), (2, .ref 76), (3, .ref 344), (4, .int (nZ i))] [.int (nZ k)] σ1
  refine w_istore (l' := [(5, .int (nZ k)), (0, .ref 1000000), (1, .ref 0), (2, .ref 76), (3, .ref 344), (4, .int (nZ i))]) dL_law_1744 (by decide) rfl ?_
  refine w_aload_n dL_law_1746 rfl (List.Mem.tail _ (List.Mem.tail _ (List.Mem.tail _ (List.Mem.head _)))) ?_
  refine w_aload_n dL_law_1747 rfl (List.Mem.tail _ (List.Mem.head _)) ?_
  refine w_iload dL_law_1748 (List.Mem.tail _ (List.Mem.tail _ (List.Mem.tail _ (List.Mem.tail _ (List.Mem.tail _ (List.Mem.head _)))))) ?_
  refine w_iconst (v := nZ 1) dL_law_1750 (by decide) ?_
  refine i_add dL_law_1751 ?_
  refine i_isld dL_law_1752 (by omega) (by omega) ?_
  refine w_callV dL_law_1753 ml_11_216 ⟨ok_X10_when, vi_X10_when⟩ hs_X10_when (As := [.int (nZ (xs sc (i + 1)))]) rfl rfl (gT g1 rfl (lt_of rfl)) (Nat.le_of_ble_eq_true rfl) e2 ?_
  show wp (Ev sc (d + 1)) 11 cL_law 7 (some .boolean) false [] sc Q 1756 [(5, .int (nZ k)), (0, .ref 1000000), (1, .ref 0), (2, .ref 76), (3, .ref 344), (4, .int (nZ i))] [.int (nZ r)] σ2
  refine w_istore (l' := [(6, .int (nZ r)), (5, .int (nZ k)), (0, .ref 1000000), (1, .ref 0), (2, .ref 76), (3, .ref 344), (4, .int (nZ i))]) dL_law_1756 (by decide) rfl ?_
  refine w_aload_n dL_law_1758 rfl (List.Mem.tail _ (List.Mem.tail _ (List.Mem.tail _ (List.Mem.tail _ (List.Mem.head _))))) ?_
  refine w_callV dL_law_1759 ml_11_128 ⟨ok_X10_thrown, vi_X10_thrown⟩ hs_X10_thrown (As := []) rfl rfl (gT g2 rfl (lt_of rfl)) (Nat.le_of_ble_eq_true rfl) (s_thrown g2) ?_
  show wp (Ev sc (d + 1)) 11 cL_law 7 (some .boolean) false [] sc Q 1762 [(6, .int (nZ r)), (5, .int (nZ k)), (0, .ref 1000000), (1, .ref 0), (2, .ref 76), (3, .ref 344), (4, .int (nZ i))] [.int (nZ (rI σ2 76 0))] σ2
  refine w_iload dL_law_1762 (List.Mem.tail _ (List.Mem.head _)) ?_
  refine i_cmp_eq (tgt := 1769) dL_law_1764 rfl (rI_R _ _ _) rk (fun _ => ?_) (fun c9 => absurd t0 c9)
  refine w_iload dL_law_1769 (List.Mem.tail _ (List.Mem.head _)) ?_
  have fin : wp (Ev sc (d + 1)) 11 cL_law 7 (some .boolean) false [] sc Q 1786 [(6, .int (nZ r)), (5, .int (nZ k)), (0, .ref 1000000), (1, .ref 0), (2, .ref 76), (3, .ref 344), (4, .int (nZ i))] [] σ2 := by
    refine w_goto (tgt := 2511) dL_law_1786 rfl ?_
    exact w_weak (l' := [(0, .ref 1000000), (1, .ref 0), (2, .ref 76), (3, .ref 344), (4, .int (nZ i))]) (by intro q hq; simp only [List.mem_cons, List.not_mem_nil, or_false] at hq ⊢; rcases hq with rfl | rfl | rfl | rfl | rfl <;> simp) (next σ2 je)
  refine i_if_ne (tgt := 1786) dL_law_1771 rfl rk (fun _ => fin) (fun c9 => ?_)
  obtain ⟨tj, hb⟩ := tj c9
  refine w_aload_n dL_law_1774 rfl (List.Mem.tail _ (List.Mem.tail _ (List.Mem.tail _ (List.Mem.tail _ (List.Mem.tail _ (List.Mem.head _)))))) ?_
  refine w_iconst (v := nZ 0) dL_law_1775 (by decide) ?_
  refine i_lald (n := 1) dL_law_1776 (gT g2 rfl (lt_of rfl)) (gL g2 rfl) (by decide) (by decide) ?_
  rw [tj]
  refine w_iload dL_law_1777 (List.Mem.head _) ?_
  refine i_2l dL_law_1779 rr ?_
  refine j_cmp dL_law_1780 (by omega) (by omega) ?_
  rw [show (if r < r then (1 : Int) else if r = r then 0 else (-1)) = 0 by rw [if_neg (by omega), if_pos rfl]]
  exact i_if_eq (tgt := 1786) dL_law_1781 rfl (by decide) (fun _ => fin) (fun c8 => absurd rfl c8)
theorem dL_law_1789 : decode cL_law 1789 = .ok (.aload_n 1, 1) := by decide +kernel
theorem dL_law_1790 : decode cL_law 1790 = .ok (.aload_n 0, 1) := by decide +kernel
theorem dL_law_1791 : decode cL_law 1791 = .ok (.iload 4, 2) := by decide +kernel
theorem dL_law_1793 : decode cL_law 1793 = .ok (.iconst 1, 1) := by decide +kernel
theorem dL_law_1794 : decode cL_law 1794 = .ok (.iadd, 1) := by decide +kernel
theorem dL_law_1795 : decode cL_law 1795 = .ok (.iaload, 1) := by decide +kernel
theorem dL_law_1796 : decode cL_law 1796 = .ok (.aload_n 0, 1) := by decide +kernel
theorem dL_law_1797 : decode cL_law 1797 = .ok (.iload 4, 2) := by decide +kernel
theorem dL_law_1799 : decode cL_law 1799 = .ok (.iconst 2, 1) := by decide +kernel
theorem dL_law_1800 : decode cL_law 1800 = .ok (.iadd, 1) := by decide +kernel
theorem dL_law_1801 : decode cL_law 1801 = .ok (.iaload, 1) := by decide +kernel
theorem dL_law_1802 : decode cL_law 1802 = .ok (.aload_n 3, 1) := by decide +kernel
theorem dL_law_1803 : decode cL_law 1803 = .ok (.invokestatic 217, 3) := by decide +kernel
theorem dL_law_1806 : decode cL_law 1806 = .ok (.istore 5, 2) := by decide +kernel
theorem dL_law_1808 : decode cL_law 1808 = .ok (.aload_n 2, 1) := by decide +kernel
theorem dL_law_1809 : decode cL_law 1809 = .ok (.aload_n 0, 1) := by decide +kernel
theorem dL_law_1810 : decode cL_law 1810 = .ok (.iload 4, 2) := by decide +kernel
theorem dL_law_1812 : decode cL_law 1812 = .ok (.iconst 1, 1) := by decide +kernel
theorem dL_law_1813 : decode cL_law 1813 = .ok (.iadd, 1) := by decide +kernel
theorem dL_law_1814 : decode cL_law 1814 = .ok (.iaload, 1) := by decide +kernel
theorem dL_law_1815 : decode cL_law 1815 = .ok (.aload_n 0, 1) := by decide +kernel
theorem dL_law_1816 : decode cL_law 1816 = .ok (.iload 4, 2) := by decide +kernel
theorem dL_law_1818 : decode cL_law 1818 = .ok (.iconst 2, 1) := by decide +kernel
theorem dL_law_1819 : decode cL_law 1819 = .ok (.iadd, 1) := by decide +kernel
theorem dL_law_1820 : decode cL_law 1820 = .ok (.iaload, 1) := by decide +kernel
theorem dL_law_1821 : decode cL_law 1821 = .ok (.invokevirtual 219, 3) := by decide +kernel
theorem dL_law_1824 : decode cL_law 1824 = .ok (.istore 6, 2) := by decide +kernel
theorem dL_law_1826 : decode cL_law 1826 = .ok (.aload_n 2, 1) := by decide +kernel
theorem dL_law_1827 : decode cL_law 1827 = .ok (.invokevirtual 128, 3) := by decide +kernel
theorem dL_law_1830 : decode cL_law 1830 = .ok (.iload 5, 2) := by decide +kernel
theorem dL_law_1832 : decode cL_law 1832 = .ok (.if_icmp .eq 5, 3) := by decide +kernel
theorem dL_law_1837 : decode cL_law 1837 = .ok (.iload 5, 2) := by decide +kernel
theorem dL_law_1854 : decode cL_law 1854 = .ok (.goto 657, 3) := by decide +kernel
theorem dL_law_1839 : decode cL_law 1839 = .ok (.ifCond .ne 15, 3) := by decide +kernel
theorem dL_law_1842 : decode cL_law 1842 = .ok (.aload_n 3, 1) := by decide +kernel
theorem dL_law_1843 : decode cL_law 1843 = .ok (.iconst 0, 1) := by decide +kernel
theorem dL_law_1844 : decode cL_law 1844 = .ok (.laload, 1) := by decide +kernel
theorem dL_law_1845 : decode cL_law 1845 = .ok (.iload 6, 2) := by decide +kernel
theorem dL_law_1847 : decode cL_law 1847 = .ok (.i2l, 1) := by decide +kernel
theorem dL_law_1848 : decode cL_law 1848 = .ok (.lcmp, 1) := by decide +kernel
theorem dL_law_1849 : decode cL_law 1849 = .ok (.ifCond .eq 5, 3) := by decide +kernel
set_option maxRecDepth 10000 in
theorem lc_28 {sc : Nat × (Nat → Int32)} {d : Nat} {Q : aO → aH → Prop} {σ : aH} {u : Nat} {i N : Int} (hG : G σ u) (hi : 0 ≤ i ∧ i + 6 ≤ (sc.1 : Int)) (hl : (sc.1 : Int) ≤ 3072) (h : JW sc (d + 1) mL_clouds mX10_clouds [.int (nZ (xs sc (i + 1))), .int (nZ (xs sc (i + 2)))] σ N (fun _ => True))
    (next : ∀ σ2 : aH, JE σ σ2 N → wp (Ev sc (d + 1)) 11 cL_law 7 (some .boolean) false [] sc Q 2511 [(0, .ref 1000000), (1, .ref 0), (2, .ref 76), (3, .ref 344), (4, .int (nZ i))] [] σ2) :
    wp (Ev sc (d + 1)) 11 cL_law 7 (some .boolean) false [] sc Q 1789 [(0, .ref 1000000), (1, .ref 0), (2, .ref 76), (3, .ref 344), (4, .int (nZ i))] [] σ := by
  refine w_aload_n dL_law_1789 rfl (List.Mem.tail _ (List.Mem.head _)) ?_
  refine w_aload_n dL_law_1790 rfl (List.Mem.head _) ?_
  refine w_iload dL_law_1791 (List.Mem.tail _ (List.Mem.tail _ (List.Mem.tail _ (List.Mem.tail _ (List.Mem.head _))))) ?_
  refine w_iconst (v := nZ 1) dL_law_1793 (by decide) ?_
  refine i_add dL_law_1794 ?_
  refine i_isld dL_law_1795 (by omega) (by omega) ?_
  refine w_aload_n dL_law_1796 rfl (List.Mem.head _) ?_
  refine w_iload dL_law_1797 (List.Mem.tail _ (List.Mem.tail _ (List.Mem.tail _ (List.Mem.tail _ (List.Mem.head _))))) ?_
  refine w_iconst (v := nZ 2) dL_law_1799 (by decide) ?_
  refine i_add dL_law_1800 ?_
  refine i_isld dL_law_1801 (by omega) (by omega) ?_
  refine w_aload_n dL_law_1802 rfl (List.Mem.tail _ (List.Mem.tail _ (List.Mem.tail _ (List.Mem.head _)))) ?_
  obtain ⟨k, r, σ1, σ2, u1, u2, e1, rk, g1, e2, rr, g2, t0, tj, je⟩ := h
  refine w_callW dL_law_1803 mp_11_217 ⟨ok_L_clouds, st_L_clouds⟩ hs_L_clouds (As := [.ref 0, .int (nZ (xs sc (i + 1))), .int (nZ (xs sc (i + 2))), .ref 344]) rfl rfl (Nat.le_of_ble_eq_true rfl) e1 ?_
  show wp (Ev sc (d + 1)) 11 cL_law 7 (some .boolean) false [] sc Q 1806 [(0, .ref 1000000), (1, .ref 0), (2, .ref 76), (3, .ref 344), (4, .int (nZ i))] [.int (nZ k)] σ1
  refine w_istore (l' := [(5, .int (nZ k)), (0, .ref 1000000), (1, .ref 0), (2, .ref 76), (3, .ref 344), (4, .int (nZ i))]) dL_law_1806 (by decide) rfl ?_
  refine w_aload_n dL_law_1808 rfl (List.Mem.tail _ (List.Mem.tail _ (List.Mem.tail _ (List.Mem.head _)))) ?_
  refine w_aload_n dL_law_1809 rfl (List.Mem.tail _ (List.Mem.head _)) ?_
  refine w_iload dL_law_1810 (List.Mem.tail _ (List.Mem.tail _ (List.Mem.tail _ (List.Mem.tail _ (List.Mem.tail _ (List.Mem.head _)))))) ?_
  refine w_iconst (v := nZ 1) dL_law_1812 (by decide) ?_
  refine i_add dL_law_1813 ?_
  refine i_isld dL_law_1814 (by omega) (by omega) ?_
  refine w_aload_n dL_law_1815 rfl (List.Mem.tail _ (List.Mem.head _)) ?_
  refine w_iload dL_law_1816 (List.Mem.tail _ (List.Mem.tail _ (List.Mem.tail _ (List.Mem.tail _ (List.Mem.tail _ (List.Mem.head _)))))) ?_
  refine w_iconst (v := nZ 2) dL_law_1818 (by decide) ?_
  refine i_add dL_law_1819 ?_
  refine i_isld dL_law_1820 (by omega) (by omega) ?_
  refine w_callV dL_law_1821 ml_11_219 ⟨ok_X10_clouds, vi_X10_clouds⟩ hs_X10_clouds (As := [.int (nZ (xs sc (i + 1))), .int (nZ (xs sc (i + 2)))]) rfl rfl (gT g1 rfl (lt_of rfl)) (Nat.le_of_ble_eq_true rfl) e2 ?_
  show wp (Ev sc (d + 1)) 11 cL_law 7 (some .boolean) false [] sc Q 1824 [(5, .int (nZ k)), (0, .ref 1000000), (1, .ref 0), (2, .ref 76), (3, .ref 344), (4, .int (nZ i))] [.int (nZ r)] σ2
  refine w_istore (l' := [(6, .int (nZ r)), (5, .int (nZ k)), (0, .ref 1000000), (1, .ref 0), (2, .ref 76), (3, .ref 344), (4, .int (nZ i))]) dL_law_1824 (by decide) rfl ?_
  refine w_aload_n dL_law_1826 rfl (List.Mem.tail _ (List.Mem.tail _ (List.Mem.tail _ (List.Mem.tail _ (List.Mem.head _))))) ?_
  refine w_callV dL_law_1827 ml_11_128 ⟨ok_X10_thrown, vi_X10_thrown⟩ hs_X10_thrown (As := []) rfl rfl (gT g2 rfl (lt_of rfl)) (Nat.le_of_ble_eq_true rfl) (s_thrown g2) ?_
  show wp (Ev sc (d + 1)) 11 cL_law 7 (some .boolean) false [] sc Q 1830 [(6, .int (nZ r)), (5, .int (nZ k)), (0, .ref 1000000), (1, .ref 0), (2, .ref 76), (3, .ref 344), (4, .int (nZ i))] [.int (nZ (rI σ2 76 0))] σ2
  refine w_iload dL_law_1830 (List.Mem.tail _ (List.Mem.head _)) ?_
  refine i_cmp_eq (tgt := 1837) dL_law_1832 rfl (rI_R _ _ _) rk (fun _ => ?_) (fun c9 => absurd t0 c9)
  refine w_iload dL_law_1837 (List.Mem.tail _ (List.Mem.head _)) ?_
  have fin : wp (Ev sc (d + 1)) 11 cL_law 7 (some .boolean) false [] sc Q 1854 [(6, .int (nZ r)), (5, .int (nZ k)), (0, .ref 1000000), (1, .ref 0), (2, .ref 76), (3, .ref 344), (4, .int (nZ i))] [] σ2 := by
    refine w_goto (tgt := 2511) dL_law_1854 rfl ?_
    exact w_weak (l' := [(0, .ref 1000000), (1, .ref 0), (2, .ref 76), (3, .ref 344), (4, .int (nZ i))]) (by intro q hq; simp only [List.mem_cons, List.not_mem_nil, or_false] at hq ⊢; rcases hq with rfl | rfl | rfl | rfl | rfl <;> simp) (next σ2 je)
  refine i_if_ne (tgt := 1854) dL_law_1839 rfl rk (fun _ => fin) (fun c9 => ?_)
  obtain ⟨tj, hb⟩ := tj c9
  refine w_aload_n dL_law_1842 rfl (List.Mem.tail _ (List.Mem.tail _ (List.Mem.tail _ (List.Mem.tail _ (List.Mem.tail _ (List.Mem.head _)))))) ?_
  refine w_iconst (v := nZ 0) dL_law_1843 (by decide) ?_
  refine i_lald (n := 1) dL_law_1844 (gT g2 rfl (lt_of rfl)) (gL g2 rfl) (by decide) (by decide) ?_
  rw [tj]
  refine w_iload dL_law_1845 (List.Mem.head _) ?_
  refine i_2l dL_law_1847 rr ?_
  refine j_cmp dL_law_1848 (by omega) (by omega) ?_
  rw [show (if r < r then (1 : Int) else if r = r then 0 else (-1)) = 0 by rw [if_neg (by omega), if_pos rfl]]
  exact i_if_eq (tgt := 1854) dL_law_1849 rfl (by decide) (fun _ => fin) (fun c8 => absurd rfl c8)
theorem dL_law_1857 : decode cL_law 1857 = .ok (.aload_n 1, 1) := by decide +kernel
theorem dL_law_1858 : decode cL_law 1858 = .ok (.aload_n 0, 1) := by decide +kernel
theorem dL_law_1859 : decode cL_law 1859 = .ok (.iload 4, 2) := by decide +kernel
theorem dL_law_1861 : decode cL_law 1861 = .ok (.iconst 1, 1) := by decide +kernel
theorem dL_law_1862 : decode cL_law 1862 = .ok (.iadd, 1) := by decide +kernel
theorem dL_law_1863 : decode cL_law 1863 = .ok (.iaload, 1) := by decide +kernel
theorem dL_law_1864 : decode cL_law 1864 = .ok (.aload_n 0, 1) := by decide +kernel
theorem dL_law_1865 : decode cL_law 1865 = .ok (.iload 4, 2) := by decide +kernel
theorem dL_law_1867 : decode cL_law 1867 = .ok (.iconst 2, 1) := by decide +kernel
theorem dL_law_1868 : decode cL_law 1868 = .ok (.iadd, 1) := by decide +kernel
theorem dL_law_1869 : decode cL_law 1869 = .ok (.iaload, 1) := by decide +kernel
theorem dL_law_1870 : decode cL_law 1870 = .ok (.aload_n 0, 1) := by decide +kernel
theorem dL_law_1871 : decode cL_law 1871 = .ok (.iload 4, 2) := by decide +kernel
theorem dL_law_1873 : decode cL_law 1873 = .ok (.iconst 3, 1) := by decide +kernel
theorem dL_law_1874 : decode cL_law 1874 = .ok (.iadd, 1) := by decide +kernel
theorem dL_law_1875 : decode cL_law 1875 = .ok (.iaload, 1) := by decide +kernel
theorem dL_law_1876 : decode cL_law 1876 = .ok (.aload_n 3, 1) := by decide +kernel
theorem dL_law_1877 : decode cL_law 1877 = .ok (.invokestatic 220, 3) := by decide +kernel
theorem dL_law_1880 : decode cL_law 1880 = .ok (.istore 5, 2) := by decide +kernel
theorem dL_law_1882 : decode cL_law 1882 = .ok (.aload_n 2, 1) := by decide +kernel
theorem dL_law_1883 : decode cL_law 1883 = .ok (.aload_n 0, 1) := by decide +kernel
theorem dL_law_1884 : decode cL_law 1884 = .ok (.iload 4, 2) := by decide +kernel
theorem dL_law_1886 : decode cL_law 1886 = .ok (.iconst 1, 1) := by decide +kernel
theorem dL_law_1887 : decode cL_law 1887 = .ok (.iadd, 1) := by decide +kernel
theorem dL_law_1888 : decode cL_law 1888 = .ok (.iaload, 1) := by decide +kernel
theorem dL_law_1889 : decode cL_law 1889 = .ok (.aload_n 0, 1) := by decide +kernel
theorem dL_law_1890 : decode cL_law 1890 = .ok (.iload 4, 2) := by decide +kernel
theorem dL_law_1892 : decode cL_law 1892 = .ok (.iconst 2, 1) := by decide +kernel
theorem dL_law_1893 : decode cL_law 1893 = .ok (.iadd, 1) := by decide +kernel
theorem dL_law_1894 : decode cL_law 1894 = .ok (.iaload, 1) := by decide +kernel
theorem dL_law_1895 : decode cL_law 1895 = .ok (.aload_n 0, 1) := by decide +kernel
theorem dL_law_1896 : decode cL_law 1896 = .ok (.iload 4, 2) := by decide +kernel
theorem dL_law_1898 : decode cL_law 1898 = .ok (.iconst 3, 1) := by decide +kernel
theorem dL_law_1899 : decode cL_law 1899 = .ok (.iadd, 1) := by decide +kernel
theorem dL_law_1900 : decode cL_law 1900 = .ok (.iaload, 1) := by decide +kernel
theorem dL_law_1901 : decode cL_law 1901 = .ok (.invokevirtual 222, 3) := by decide +kernel
theorem dL_law_1904 : decode cL_law 1904 = .ok (.istore 6, 2) := by decide +kernel
theorem dL_law_1906 : decode cL_law 1906 = .ok (.aload_n 2, 1) := by decide +kernel
theorem dL_law_1907 : decode cL_law 1907 = .ok (.invokevirtual 128, 3) := by decide +kernel
theorem dL_law_1910 : decode cL_law 1910 = .ok (.iload 5, 2) := by decide +kernel
theorem dL_law_1912 : decode cL_law 1912 = .ok (.if_icmp .eq 5, 3) := by decide +kernel
theorem dL_law_1917 : decode cL_law 1917 = .ok (.iload 5, 2) := by decide +kernel
theorem dL_law_1934 : decode cL_law 1934 = .ok (.goto 577, 3) := by decide +kernel
theorem dL_law_1919 : decode cL_law 1919 = .ok (.ifCond .ne 15, 3) := by decide +kernel
theorem dL_law_1922 : decode cL_law 1922 = .ok (.aload_n 3, 1) := by decide +kernel
theorem dL_law_1923 : decode cL_law 1923 = .ok (.iconst 0, 1) := by decide +kernel
theorem dL_law_1924 : decode cL_law 1924 = .ok (.laload, 1) := by decide +kernel
theorem dL_law_1925 : decode cL_law 1925 = .ok (.iload 6, 2) := by decide +kernel
theorem dL_law_1927 : decode cL_law 1927 = .ok (.i2l, 1) := by decide +kernel
theorem dL_law_1928 : decode cL_law 1928 = .ok (.lcmp, 1) := by decide +kernel
theorem dL_law_1929 : decode cL_law 1929 = .ok (.ifCond .eq 5, 3) := by decide +kernel
set_option maxRecDepth 10000 in
theorem lc_29 {sc : Nat × (Nat → Int32)} {d : Nat} {Q : aO → aH → Prop} {σ : aH} {u : Nat} {i N : Int} (hG : G σ u) (hi : 0 ≤ i ∧ i + 6 ≤ (sc.1 : Int)) (hl : (sc.1 : Int) ≤ 3072) (h : JW sc (d + 1) mL_span mX10_span [.int (nZ (xs sc (i + 1))), .int (nZ (xs sc (i + 2))), .int (nZ (xs sc (i + 3)))] σ N (fun _ => True))
    (next : ∀ σ2 : aH, JE σ σ2 N → wp (Ev sc (d + 1)) 11 cL_law 7 (some .boolean) false [] sc Q 2511 [(0, .ref 1000000), (1, .ref 0), (2, .ref 76), (3, .ref 344), (4, .int (nZ i))] [] σ2) :
    wp (Ev sc (d + 1)) 11 cL_law 7 (some .boolean) false [] sc Q 1857 [(0, .ref 1000000), (1, .ref 0), (2, .ref 76), (3, .ref 344), (4, .int (nZ i))] [] σ := by
  refine w_aload_n dL_law_1857 rfl (List.Mem.tail _ (List.Mem.head _)) ?_
  refine w_aload_n dL_law_1858 rfl (List.Mem.head _) ?_
  refine w_iload dL_law_1859 (List.Mem.tail _ (List.Mem.tail _ (List.Mem.tail _ (List.Mem.tail _ (List.Mem.head _))))) ?_
  refine w_iconst (v := nZ 1) dL_law_1861 (by decide) ?_
  refine i_add dL_law_1862 ?_
  refine i_isld dL_law_1863 (by omega) (by omega) ?_
  refine w_aload_n dL_law_1864 rfl (List.Mem.head _) ?_
  refine w_iload dL_law_1865 (List.Mem.tail _ (List.Mem.tail _ (List.Mem.tail _ (List.Mem.tail _ (List.Mem.head _))))) ?_
  refine w_iconst (v := nZ 2) dL_law_1867 (by decide) ?_
  refine i_add dL_law_1868 ?_
  refine i_isld dL_law_1869 (by omega) (by omega) ?_
  refine w_aload_n dL_law_1870 rfl (List.Mem.head _) ?_
  refine w_iload dL_law_1871 (List.Mem.tail _ (List.Mem.tail _ (List.Mem.tail _ (List.Mem.tail _ (List.Mem.head _))))) ?_
  refine w_iconst (v := nZ 3) dL_law_1873 (by decide) ?_
  refine i_add dL_law_1874 ?_
  refine i_isld dL_law_1875 (by omega) (by omega) ?_
  refine w_aload_n dL_law_1876 rfl (List.Mem.tail _ (List.Mem.tail _ (List.Mem.tail _ (List.Mem.head _)))) ?_
  obtain ⟨k, r, σ1, σ2, u1, u2, e1, rk, g1, e2, rr, g2, t0, tj, je⟩ := h
  refine w_callW dL_law_1877 mp_11_220 ⟨ok_L_span, st_L_span⟩ hs_L_span (As := [.ref 0, .int (nZ (xs sc (i + 1))), .int (nZ (xs sc (i + 2))), .int (nZ (xs sc (i + 3))), .ref 344]) rfl rfl (Nat.le_of_ble_eq_true rfl) e1 ?_
  show wp (Ev sc (d + 1)) 11 cL_law 7 (some .boolean) false [] sc Q 1880 [(0, .ref 1000000), (1, .ref 0), (2, .ref 76), (3, .ref 344), (4, .int (nZ i))] [.int (nZ k)] σ1
  refine w_istore (l' := [(5, .int (nZ k)), (0, .ref 1000000), (1, .ref 0), (2, .ref 76), (3, .ref 344), (4, .int (nZ i))]) dL_law_1880 (by decide) rfl ?_
  refine w_aload_n dL_law_1882 rfl (List.Mem.tail _ (List.Mem.tail _ (List.Mem.tail _ (List.Mem.head _)))) ?_
  refine w_aload_n dL_law_1883 rfl (List.Mem.tail _ (List.Mem.head _)) ?_
  refine w_iload dL_law_1884 (List.Mem.tail _ (List.Mem.tail _ (List.Mem.tail _ (List.Mem.tail _ (List.Mem.tail _ (List.Mem.head _)))))) ?_
  refine w_iconst (v := nZ 1) dL_law_1886 (by decide) ?_
  refine i_add dL_law_1887 ?_
  refine i_isld dL_law_1888 (by omega) (by omega) ?_
  refine w_aload_n dL_law_1889 rfl (List.Mem.tail _ (List.Mem.head _)) ?_
  refine w_iload dL_law_1890 (List.Mem.tail _ (List.Mem.tail _ (List.Mem.tail _ (List.Mem.tail _ (List.Mem.tail _ (List.Mem.head _)))))) ?_
  refine w_iconst (v := nZ 2) dL_law_1892 (by decide) ?_
  refine i_add dL_law_1893 ?_
  refine i_isld dL_law_1894 (by omega) (by omega) ?_
  refine w_aload_n dL_law_1895 rfl (List.Mem.tail _ (List.Mem.head _)) ?_
  refine w_iload dL_law_1896 (List.Mem.tail _ (List.Mem.tail _ (List.Mem.tail _ (List.Mem.tail _ (List.Mem.tail _ (List.Mem.head _)))))) ?_
  refine w_iconst (v := nZ 3) dL_law_1898 (by decide) ?_
  refine i_add dL_law_1899 ?_
  refine i_isld dL_law_1900 (by omega) (by omega) ?_
  refine w_callV dL_law_1901 ml_11_222 ⟨ok_X10_span, vi_X10_span⟩ hs_X10_span (As := [.int (nZ (xs sc (i + 1))), .int (nZ (xs sc (i + 2))), .int (nZ (xs sc (i + 3)))]) rfl rfl (gT g1 rfl (lt_of rfl)) (Nat.le_of_ble_eq_true rfl) e2 ?_
  show wp (Ev sc (d + 1)) 11 cL_law 7 (some .boolean) false [] sc Q 1904 [(5, .int (nZ k)), (0, .ref 1000000), (1, .ref 0), (2, .ref 76), (3, .ref 344), (4, .int (nZ i))] [.int (nZ r)] σ2
  refine w_istore (l' := [(6, .int (nZ r)), (5, .int (nZ k)), (0, .ref 1000000), (1, .ref 0), (2, .ref 76), (3, .ref 344), (4, .int (nZ i))]) dL_law_1904 (by decide) rfl ?_
  refine w_aload_n dL_law_1906 rfl (List.Mem.tail _ (List.Mem.tail _ (List.Mem.tail _ (List.Mem.tail _ (List.Mem.head _))))) ?_
  refine w_callV dL_law_1907 ml_11_128 ⟨ok_X10_thrown, vi_X10_thrown⟩ hs_X10_thrown (As := []) rfl rfl (gT g2 rfl (lt_of rfl)) (Nat.le_of_ble_eq_true rfl) (s_thrown g2) ?_
  show wp (Ev sc (d + 1)) 11 cL_law 7 (some .boolean) false [] sc Q 1910 [(6, .int (nZ r)), (5, .int (nZ k)), (0, .ref 1000000), (1, .ref 0), (2, .ref 76), (3, .ref 344), (4, .int (nZ i))] [.int (nZ (rI σ2 76 0))] σ2
  refine w_iload dL_law_1910 (List.Mem.tail _ (List.Mem.head _)) ?_
  refine i_cmp_eq (tgt := 1917) dL_law_1912 rfl (rI_R _ _ _) rk (fun _ => ?_) (fun c9 => absurd t0 c9)
  refine w_iload dL_law_1917 (List.Mem.tail _ (List.Mem.head _)) ?_
  have fin : wp (Ev sc (d + 1)) 11 cL_law 7 (some .boolean) false [] sc Q 1934 [(6, .int (nZ r)), (5, .int (nZ k)), (0, .ref 1000000), (1, .ref 0), (2, .ref 76), (3, .ref 344), (4, .int (nZ i))] [] σ2 := by
    refine w_goto (tgt := 2511) dL_law_1934 rfl ?_
    exact w_weak (l' := [(0, .ref 1000000), (1, .ref 0), (2, .ref 76), (3, .ref 344), (4, .int (nZ i))]) (by intro q hq; simp only [List.mem_cons, List.not_mem_nil, or_false] at hq ⊢; rcases hq with rfl | rfl | rfl | rfl | rfl <;> simp) (next σ2 je)
  refine i_if_ne (tgt := 1934) dL_law_1919 rfl rk (fun _ => fin) (fun c9 => ?_)
  obtain ⟨tj, hb⟩ := tj c9
  refine w_aload_n dL_law_1922 rfl (List.Mem.tail _ (List.Mem.tail _ (List.Mem.tail _ (List.Mem.tail _ (List.Mem.tail _ (List.Mem.head _)))))) ?_
  refine w_iconst (v := nZ 0) dL_law_1923 (by decide) ?_
  refine i_lald (n := 1) dL_law_1924 (gT g2 rfl (lt_of rfl)) (gL g2 rfl) (by decide) (by decide) ?_
  rw [tj]
  refine w_iload dL_law_1925 (List.Mem.head _) ?_
  refine i_2l dL_law_1927 rr ?_
  refine j_cmp dL_law_1928 (by omega) (by omega) ?_
  rw [show (if r < r then (1 : Int) else if r = r then 0 else (-1)) = 0 by rw [if_neg (by omega), if_pos rfl]]
  exact i_if_eq (tgt := 1934) dL_law_1929 rfl (by decide) (fun _ => fin) (fun c8 => absurd rfl c8)
