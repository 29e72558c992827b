theorem dX10_thrown_0 : decode cX10_thrown 0 = .ok (.aload_n 0, 1) := by decide +kernel
theorem dX10_thrown_1 : decode cX10_thrown 1 = .ok (.getfield 106, 3) := by decide +kernel
theorem dX10_thrown_4 : decode cX10_thrown 4 = .ok (.ireturn, 1) := by decide +kernel
set_option maxRecDepth 10000 in
theorem t_X10_thrown {sc : Nat × (Nat → Int32)} {d : Nat} {Q : aO → aH → Prop} {σ : aH} {u : Nat}   (hG : G σ u) 
    (h : Q (.inl (some (.int (nZ (rI σ 76 0))))) σ) :
    T sc (d + 1) mX10_thrown [.ref 76] σ Q := by
  refine T.of (c := 10) (code := cX10_thrown) (mL := 1) (rt := (some .int)) (ini := false) (l := [(0, .ref 76)]) rfl rfl rfl rfl (by decide) hs_X10_thrown rfl rfl ?_
  refine w_aload_n dX10_thrown_0 rfl (List.Mem.head _) ?_
  refine i_getI (ci := 10) 0 rfl dX10_thrown_1 fl_10_106 (by decide) (gT hG rfl (lt_of rfl)) ?_
  exact w_iret dX10_thrown_4 rfl h
theorem dX10_bad_0 : decode cX10_bad 0 = .ok (.iload_n 1, 1) := by decide +kernel
theorem dX10_bad_1 : decode cX10_bad 1 = .ok (.ifCond .eq 25, 3) := by decide +kernel
theorem dX10_bad_4 : decode cX10_bad 4 = .ok (.aload_n 0, 1) := by decide +kernel
theorem dX10_bad_5 : decode cX10_bad 5 = .ok (.getfield 106, 3) := by decide +kernel
theorem dX10_bad_8 : decode cX10_bad 8 = .ok (.ifCond .ne 18, 3) := by decide +kernel
theorem dX10_bad_11 : decode cX10_bad 11 = .ok (.aload_n 0, 1) := by decide +kernel
theorem dX10_bad_12 : decode cX10_bad 12 = .ok (.iload_n 2, 1) := by decide +kernel
theorem dX10_bad_13 : decode cX10_bad 13 = .ok (.putfield 106, 3) := by decide +kernel
theorem dX10_bad_16 : decode cX10_bad 16 = .ok (.aload_n 0, 1) := by decide +kernel
theorem dX10_bad_17 : decode cX10_bad 17 = .ok (.getfield 17, 3) := by decide +kernel
theorem dX10_bad_20 : decode cX10_bad 20 = .ok (.iload_n 3, 1) := by decide +kernel
theorem dX10_bad_21 : decode cX10_bad 21 = .ok (.dup2, 1) := by decide +kernel
theorem dX10_bad_22 : decode cX10_bad 22 = .ok (.iaload, 1) := by decide +kernel
theorem dX10_bad_23 : decode cX10_bad 23 = .ok (.iconst 1, 1) := by decide +kernel
theorem dX10_bad_24 : decode cX10_bad 24 = .ok (.iadd, 1) := by decide +kernel
theorem dX10_bad_25 : decode cX10_bad 25 = .ok (.iastore, 1) := by decide +kernel
theorem dX10_bad_26 : decode cX10_bad 26 = .ok (.aload_n 0, 1) := by decide +kernel
theorem dX10_bad_27 : decode cX10_bad 27 = .ok (.getfield 106, 3) := by decide +kernel
theorem dX10_bad_30 : decode cX10_bad 30 = .ok (.ifCond .eq 7, 3) := by decide +kernel
theorem dX10_bad_33 : decode cX10_bad 33 = .ok (.iconst 1, 1) := by decide +kernel
theorem dX10_bad_34 : decode cX10_bad 34 = .ok (.goto 4, 3) := by decide +kernel
theorem dX10_bad_37 : decode cX10_bad 37 = .ok (.iconst 0, 1) := by decide +kernel
theorem dX10_bad_38 : decode cX10_bad 38 = .ok (.ireturn, 1) := by decide +kernel
set_option maxRecDepth 10000 in
theorem t_X10_bad {sc : Nat × (Nat → Int32)} {d : Nat} {Q : aO → aH → Prop} {σ : aH} {u : Nat}  {x1 : Int} {x2 : Int} {x3 : Int} (hG : G σ u) (rx1 : inR x1) (rx2 : inR x2) (rx3 : inR x3)
    (h : ((x1 = 0 → (((rI σ 76 0) = 0 → Q (.inl (some (.int (nZ 0)))) σ) ∧ (¬ ((rI σ 76 0) = 0) → Q (.inl (some (.int (nZ 1)))) σ))) ∧ (¬ (x1 = 0) → ((¬ (rI σ 76 0) = 0 → (((rI σ 76 0) = 0 → Q (.inl (some (.int (nZ 0)))) σ) ∧ (¬ ((rI σ 76 0) = 0) → Q (.inl (some (.int (nZ 1)))) σ))) ∧ ((rI σ 76 0) = 0 → (∀ σ1 : aH, wI σ 76 0 x2 = σ1 → ((0 ≤ x3 ∧ x3 < 2) ∧ (inR ((rI σ1 78 x3) + 1) ∧ ((0 ≤ x3 ∧ x3 < 2) ∧ (∀ σ5 : aH, wI σ1 78 x3 ((rI σ1 78 x3) + 1) = σ5 → (((rI σ5 76 0) = 0 → Q (.inl (some (.int (nZ 0)))) σ5) ∧ (¬ ((rI σ5 76 0) = 0) → Q (.inl (some (.int (nZ 1)))) σ5)))))))))))) :
    T sc (d + 1) mX10_bad [.ref 76, .int (nZ x1), .int (nZ x2), .int (nZ x3)] σ Q := by
  refine T.of (c := 10) (code := cX10_bad) (mL := 4) (rt := (some .boolean)) (ini := false) (l := [(0, .ref 76), (1, .int (nZ x1)), (2, .int (nZ x2)), (3, .int (nZ x3))]) rfl rfl rfl rfl (by decide) hs_X10_bad rfl rfl ?_
  refine w_iload_n dX10_bad_0 rfl (List.Mem.tail _ (List.Mem.head _)) ?_
  refine i_if_eq (tgt := 26) dX10_bad_1 rfl rx1 (fun c9 => ?_) (fun c9 => ?_)
  · replace h := h.1 c9
    refine w_aload_n dX10_bad_26 rfl (List.Mem.head _) ?_
    refine i_getI (ci := 10) 0 rfl dX10_bad_27 fl_10_106 (by decide) (gT hG rfl (lt_of rfl)) ?_
    refine i_if_eq (tgt := 37) dX10_bad_30 rfl (rI_R _ _ _) (fun c9 => ?_) (fun c9 => ?_)
    · replace h := h.1 c9
      refine w_iconst (v := nZ 0) dX10_bad_37 (by decide) ?_
      exact i_zret dX10_bad_38 rfl (by decide) h
    · replace h := h.2 c9
      refine w_iconst (v := nZ 1) dX10_bad_33 (by decide) ?_
      refine w_goto (tgt := 38) dX10_bad_34 rfl ?_
      exact i_zret dX10_bad_38 rfl (by decide) h
  · replace h := h.2 c9
    refine w_aload_n dX10_bad_4 rfl (List.Mem.head _) ?_
    refine i_getI (ci := 10) 0 rfl dX10_bad_5 fl_10_106 (by decide) (gT hG rfl (lt_of rfl)) ?_
    refine i_if_ne (tgt := 26) dX10_bad_8 rfl (rI_R _ _ _) (fun c9 => ?_) (fun c9 => ?_)
    · replace h := h.1 c9
      refine w_aload_n dX10_bad_26 rfl (List.Mem.head _) ?_
      refine i_getI (ci := 10) 0 rfl dX10_bad_27 fl_10_106 (by decide) (gT hG rfl (lt_of rfl)) ?_
      refine i_if_eq (tgt := 37) dX10_bad_30 rfl (rI_R _ _ _) (fun c9 => ?_) (fun c9 => ?_)
      · replace h := h.1 c9
        refine w_iconst (v := nZ 0) dX10_bad_37 (by decide) ?_
        exact i_zret dX10_bad_38 rfl (by decide) h
      · replace h := h.2 c9
        refine w_iconst (v := nZ 1) dX10_bad_33 (by decide) ?_
        refine w_goto (tgt := 38) dX10_bad_34 rfl ?_
        exact i_zret dX10_bad_38 rfl (by decide) h
    · replace h := h.2 c9
      refine w_aload_n dX10_bad_11 rfl (List.Mem.head _) ?_
      refine w_iload_n dX10_bad_12 rfl (List.Mem.tail _ (List.Mem.tail _ (List.Mem.head _))) ?_
      refine i_putI (ci := 10) 0 rfl dX10_bad_13 fl_10_106 (by decide) (gT hG rfl (lt_of rfl)) (fun σ1 eσ2 => ?_)
      replace h := h σ1 eσ2
      have hG3 : G σ1 u := eσ2 ▸ G.wI hG
      refine w_aload_n dX10_bad_16 rfl (List.Mem.head _) ?_
      refine w_getR (ci := 10) (k := 9) (b := 78) dX10_bad_17 fl_10_17 (by decide) (gT hG3 rfl (lt_of rfl)) (gR hG3 (b := 78) rfl) ?_
      refine w_iload_n dX10_bad_20 rfl (List.Mem.tail _ (List.Mem.tail _ (List.Mem.tail _ (List.Mem.head _)))) ?_
      refine w_dup2 dX10_bad_21 rfl rfl ?_
      obtain ⟨h9, h⟩ := h
      refine i_iald (n := 2) dX10_bad_22 (gT hG3 rfl (lt_of rfl)) (gL hG3 rfl) rx3 h9 ?_
      refine w_iconst (v := nZ 1) dX10_bad_23 (by decide) ?_
      obtain ⟨q4, h⟩ := h
      refine i_add dX10_bad_24 ?_
      obtain ⟨h9, h⟩ := h
      refine i_iast (n := 2) dX10_bad_25 (gT hG3 rfl (lt_of rfl)) (gL hG3 rfl) rx3 h9 (fun σ5 eσ6 => ?_)
      replace h := h σ5 eσ6
      have hG7 : G σ5 u := eσ6 ▸ G.wI hG3
      refine w_aload_n dX10_bad_26 rfl (List.Mem.head _) ?_
      refine i_getI (ci := 10) 0 rfl dX10_bad_27 fl_10_106 (by decide) (gT hG7 rfl (lt_of rfl)) ?_
      refine i_if_eq (tgt := 37) dX10_bad_30 rfl (rI_R _ _ _) (fun c9 => ?_) (fun c9 => ?_)
      · replace h := h.1 c9
        refine w_iconst (v := nZ 0) dX10_bad_37 (by decide) ?_
        exact i_zret dX10_bad_38 rfl (by decide) h
      · replace h := h.2 c9
        refine w_iconst (v := nZ 1) dX10_bad_33 (by decide) ?_
        refine w_goto (tgt := 38) dX10_bad_34 rfl ?_
        exact i_zret dX10_bad_38 rfl (by decide) h
theorem dX10_in_0 : decode cX10_in 0 = .ok (.iload_n 0, 1) := by decide +kernel
theorem dX10_in_1 : decode cX10_in 1 = .ok (.iload_n 1, 1) := by decide +kernel
theorem dX10_in_2 : decode cX10_in 2 = .ok (.if_icmp .lt 12, 3) := by decide +kernel
theorem dX10_in_5 : decode cX10_in 5 = .ok (.iload_n 0, 1) := by decide +kernel
theorem dX10_in_6 : decode cX10_in 6 = .ok (.iload_n 2, 1) := by decide +kernel
theorem dX10_in_7 : decode cX10_in 7 = .ok (.if_icmp .gt 7, 3) := by decide +kernel
theorem dX10_in_10 : decode cX10_in 10 = .ok (.iconst 1, 1) := by decide +kernel
theorem dX10_in_11 : decode cX10_in 11 = .ok (.goto 4, 3) := by decide +kernel
theorem dX10_in_14 : decode cX10_in 14 = .ok (.iconst 0, 1) := by decide +kernel
theorem dX10_in_15 : decode cX10_in 15 = .ok (.ireturn, 1) := by decide +kernel
set_option maxRecDepth 10000 in
theorem t_X10_in {sc : Nat × (Nat → Int32)} {d : Nat} {Q : aO → aH → Prop} {σ : aH} {u : Nat}  {x0 : Int} {x1 : Int} {x2 : Int} (hG : G σ u) (rx0 : inR x0) (rx1 : inR x1) (rx2 : inR x2)
    (h : ((x0 < x1 → Q (.inl (some (.int (nZ 0)))) σ) ∧ (¬ (x0 < x1) → ((x2 < x0 → Q (.inl (some (.int (nZ 0)))) σ) ∧ (¬ (x2 < x0) → Q (.inl (some (.int (nZ 1)))) σ))))) :
    T sc (d + 1) mX10_in [.int (nZ x0), .int (nZ x1), .int (nZ x2)] σ Q := by
  refine T.of (c := 10) (code := cX10_in) (mL := 3) (rt := (some .boolean)) (ini := false) (l := [(0, .int (nZ x0)), (1, .int (nZ x1)), (2, .int (nZ x2))]) rfl rfl rfl rfl (by decide) hs_X10_in rfl rfl ?_
  refine w_iload_n dX10_in_0 rfl (List.Mem.head _) ?_
  refine w_iload_n dX10_in_1 rfl (List.Mem.tail _ (List.Mem.head _)) ?_
  refine i_cmp_lt (tgt := 14) dX10_in_2 rfl rx0 rx1 (fun c9 => ?_) (fun c9 => ?_)
  · replace h := h.1 c9
    refine w_iconst (v := nZ 0) dX10_in_14 (by decide) ?_
    exact i_zret dX10_in_15 rfl (by decide) h
  · replace h := h.2 c9
    refine w_iload_n dX10_in_5 rfl (List.Mem.head _) ?_
    refine w_iload_n dX10_in_6 rfl (List.Mem.tail _ (List.Mem.tail _ (List.Mem.head _))) ?_
    refine i_cmp_gt (tgt := 14) dX10_in_7 rfl rx0 rx2 (fun c9 => ?_) (fun c9 => ?_)
    · replace h := h.1 c9
      refine w_iconst (v := nZ 0) dX10_in_14 (by decide) ?_
      exact i_zret dX10_in_15 rfl (by decide) h
    · replace h := h.2 c9
      refine w_iconst (v := nZ 1) dX10_in_10 (by decide) ?_
      refine w_goto (tgt := 15) dX10_in_11 rfl ?_
      exact i_zret dX10_in_15 rfl (by decide) h
theorem dX10_feed_0 : decode cX10_feed 0 = .ok (.aload_n 0, 1) := by decide +kernel
theorem dX10_feed_1 : decode cX10_feed 1 = .ok (.iconst 0, 1) := by decide +kernel
theorem dX10_feed_2 : decode cX10_feed 2 = .ok (.putfield 106, 3) := by decide +kernel
theorem dX10_feed_5 : decode cX10_feed 5 = .ok (.aload_n 0, 1) := by decide +kernel
theorem dX10_feed_6 : decode cX10_feed 6 = .ok (.getfield 109, 3) := by decide +kernel
theorem dX10_feed_9 : decode cX10_feed 9 = .ok (.bipush 20, 2) := by decide +kernel
theorem dX10_feed_11 : decode cX10_feed 11 = .ok (.iadd, 1) := by decide +kernel
theorem dX10_feed_12 : decode cX10_feed 12 = .ok (.sipush 600, 3) := by decide +kernel
theorem dX10_feed_15 : decode cX10_feed 15 = .ok (.if_icmp .le 5, 3) := by decide +kernel
theorem dX10_feed_18 : decode cX10_feed 18 = .ok (.iconst (-1), 1) := by decide +kernel
theorem dX10_feed_19 : decode cX10_feed 19 = .ok (.ireturn, 1) := by decide +kernel
theorem dX10_feed_20 : decode cX10_feed 20 = .ok (.iconst 0, 1) := by decide +kernel
theorem dX10_feed_21 : decode cX10_feed 21 = .ok (.istore 6, 2) := by decide +kernel
theorem dX10_feed_23 : decode cX10_feed 23 = .ok (.iload 6, 2) := by decide +kernel
theorem dX10_feed_25 : decode cX10_feed 25 = .ok (.bipush 20, 2) := by decide +kernel
theorem dX10_feed_27 : decode cX10_feed 27 = .ok (.if_icmp .ge 93, 3) := by decide +kernel
theorem dX10_feed_30 : decode cX10_feed 30 = .ok (.iload 6, 2) := by decide +kernel
theorem dX10_feed_32 : decode cX10_feed 32 = .ok (.iconst 4, 1) := by decide +kernel
theorem dX10_feed_33 : decode cX10_feed 33 = .ok (.if_icmp .ge 7, 3) := by decide +kernel
theorem dX10_feed_36 : decode cX10_feed 36 = .ok (.iload_n 1, 1) := by decide +kernel
theorem dX10_feed_37 : decode cX10_feed 37 = .ok (.goto 39, 3) := by decide +kernel
theorem dX10_feed_40 : decode cX10_feed 40 = .ok (.iload 6, 2) := by decide +kernel
theorem dX10_feed_42 : decode cX10_feed 42 = .ok (.bipush 8, 2) := by decide +kernel
theorem dX10_feed_44 : decode cX10_feed 44 = .ok (.if_icmp .ge 7, 3) := by decide +kernel
theorem dX10_feed_47 : decode cX10_feed 47 = .ok (.iload_n 2, 1) := by decide +kernel
theorem dX10_feed_48 : decode cX10_feed 48 = .ok (.goto 28, 3) := by decide +kernel
theorem dX10_feed_51 : decode cX10_feed 51 = .ok (.iload 6, 2) := by decide +kernel
theorem dX10_feed_53 : decode cX10_feed 53 = .ok (.bipush 12, 2) := by decide +kernel
theorem dX10_feed_55 : decode cX10_feed 55 = .ok (.if_icmp .ge 7, 3) := by decide +kernel
theorem dX10_feed_58 : decode cX10_feed 58 = .ok (.iload_n 3, 1) := by decide +kernel
theorem dX10_feed_59 : decode cX10_feed 59 = .ok (.goto 17, 3) := by decide +kernel
theorem dX10_feed_62 : decode cX10_feed 62 = .ok (.iload 6, 2) := by decide +kernel
theorem dX10_feed_64 : decode cX10_feed 64 = .ok (.bipush 16, 2) := by decide +kernel
theorem dX10_feed_66 : decode cX10_feed 66 = .ok (.if_icmp .ge 8, 3) := by decide +kernel
theorem dX10_feed_69 : decode cX10_feed 69 = .ok (.iload 4, 2) := by decide +kernel
theorem dX10_feed_71 : decode cX10_feed 71 = .ok (.goto 5, 3) := by decide +kernel
theorem dX10_feed_74 : decode cX10_feed 74 = .ok (.iload 5, 2) := by decide +kernel
theorem dX10_feed_76 : decode cX10_feed 76 = .ok (.istore 7, 2) := by decide +kernel
theorem dX10_feed_78 : decode cX10_feed 78 = .ok (.aload_n 0, 1) := by decide +kernel
theorem dX10_feed_79 : decode cX10_feed 79 = .ok (.getfield 13, 3) := by decide +kernel
theorem dX10_feed_82 : decode cX10_feed 82 = .ok (.aload_n 0, 1) := by decide +kernel
theorem dX10_feed_83 : decode cX10_feed 83 = .ok (.getfield 109, 3) := by decide +kernel
theorem dX10_feed_86 : decode cX10_feed 86 = .ok (.iload 7, 2) := by decide +kernel
theorem dX10_feed_88 : decode cX10_feed 88 = .ok (.bipush 24, 2) := by decide +kernel
theorem dX10_feed_90 : decode cX10_feed 90 = .ok (.bipush 8, 2) := by decide +kernel
theorem dX10_feed_92 : decode cX10_feed 92 = .ok (.iload 6, 2) := by decide +kernel
theorem dX10_feed_94 : decode cX10_feed 94 = .ok (.iconst 4, 1) := by decide +kernel
theorem dX10_feed_95 : decode cX10_feed 95 = .ok (.irem, 1) := by decide +kernel
theorem dX10_feed_96 : decode cX10_feed 96 = .ok (.imul, 1) := by decide +kernel
theorem dX10_feed_97 : decode cX10_feed 97 = .ok (.isub, 1) := by decide +kernel
theorem dX10_feed_98 : decode cX10_feed 98 = .ok (.ishr, 1) := by decide +kernel
theorem dX10_feed_99 : decode cX10_feed 99 = .ok (.sipush 255, 3) := by decide +kernel
theorem dX10_feed_102 : decode cX10_feed 102 = .ok (.iand, 1) := by decide +kernel
theorem dX10_feed_103 : decode cX10_feed 103 = .ok (.iastore, 1) := by decide +kernel
theorem dX10_feed_104 : decode cX10_feed 104 = .ok (.aload_n 0, 1) := by decide +kernel
theorem dX10_feed_105 : decode cX10_feed 105 = .ok (.dup, 1) := by decide +kernel
theorem dX10_feed_106 : decode cX10_feed 106 = .ok (.getfield 109, 3) := by decide +kernel
theorem dX10_feed_109 : decode cX10_feed 109 = .ok (.iconst 1, 1) := by decide +kernel
theorem dX10_feed_110 : decode cX10_feed 110 = .ok (.iadd, 1) := by decide +kernel
theorem dX10_feed_111 : decode cX10_feed 111 = .ok (.putfield 109, 3) := by decide +kernel
theorem dX10_feed_114 : decode cX10_feed 114 = .ok (.iinc 6 1, 3) := by decide +kernel
theorem dX10_feed_117 : decode cX10_feed 117 = .ok (.goto (-94), 3) := by decide +kernel
theorem dX10_feed_120 : decode cX10_feed 120 = .ok (.aload_n 0, 1) := by decide +kernel
theorem dX10_feed_121 : decode cX10_feed 121 = .ok (.getfield 109, 3) := by decide +kernel
theorem dX10_feed_124 : decode cX10_feed 124 = .ok (.ireturn, 1) := by decide +kernel
def L_X10_feed_23 (C : aM → List Value → aH → aO → aH → Prop) (sc : Nat × (Nat → Int32)) (P : aO → aH → Prop) (x1 : Int) (x2 : Int) (x3 : Int) (x4 : Int) (x5 : Int) (x6 : Int) (σ : aH) : Prop :=
    wp C 10 cX10_feed 8 (some .int) false [] sc P 23 [(0, .ref 76), (1, .int (nZ x1)), (2, .int (nZ x2)), (3, .int (nZ x3)), (4, .int (nZ x4)), (5, .int (nZ x5)), (6, .int (nZ x6))] [] σ
def L_X10_feed_76 (C : aM → List Value → aH → aO → aH → Prop) (sc : Nat × (Nat → Int32)) (P : aO → aH → Prop) (x1 : Int) (x2 : Int) (x3 : Int) (x4 : Int) (x5 : Int) (x6 : Int) (s0 : Int) (σ : aH) : Prop :=
    wp C 10 cX10_feed 8 (some .int) false [] sc P 76 [(0, .ref 76), (1, .int (nZ x1)), (2, .int (nZ x2)), (3, .int (nZ x3)), (4, .int (nZ x4)), (5, .int (nZ x5)), (6, .int (nZ x6))] [.int (nZ s0)] σ
set_option maxRecDepth 10000 in
theorem t_X10_feed {sc : Nat × (Nat → Int32)} {d : Nat} {Q : aO → aH → Prop} {σ : aH} {u : Nat}  {x1 : Int} {x2 : Int} {x3 : Int} {x4 : Int} {x5 : Int} (hG : G σ u) (rx1 : inR x1) (rx2 : inR x2) (rx3 : inR x3) (rx4 : inR x4) (rx5 : inR x5)
    (h : (∀ σ1 : aH, wI σ 76 0 0 = σ1 → (inR ((rI σ1 76 1) + 20) ∧ ((((rI σ1 76 1) + 20) ≤ 600 → L_X10_feed_23 (Ev sc d) sc Q x1 x2 x3 x4 x5 0 σ1) ∧ (¬ (((rI σ1 76 1) + 20) ≤ 600) → Q (.inl (some (.int (nZ (-1))))) σ1))))) :
    T sc (d + 1) mX10_feed [.ref 76, .int (nZ x1), .int (nZ x2), .int (nZ x3), .int (nZ x4), .int (nZ x5)] σ Q := by
  refine T.of (c := 10) (code := cX10_feed) (mL := 8) (rt := (some .int)) (ini := false) (l := [(0, .ref 76), (1, .int (nZ x1)), (2, .int (nZ x2)), (3, .int (nZ x3)), (4, .int (nZ x4)), (5, .int (nZ x5))]) rfl rfl rfl rfl (by decide) hs_X10_feed rfl rfl ?_
  refine w_aload_n dX10_feed_0 rfl (List.Mem.head _) ?_
  refine w_iconst (v := nZ 0) dX10_feed_1 (by decide) ?_
  refine i_putI (ci := 10) 0 rfl dX10_feed_2 fl_10_106 (by decide) (gT hG rfl (lt_of rfl)) (fun σ1 eσ2 => ?_)
  replace h := h σ1 eσ2
  have hG3 : G σ1 u := eσ2 ▸ G.wI hG
  refine w_aload_n dX10_feed_5 rfl (List.Mem.head _) ?_
  refine i_getI (ci := 10) 1 rfl dX10_feed_6 fl_10_109 (by decide) (gT hG3 rfl (lt_of rfl)) ?_
  refine w_bipush (v := nZ 20) dX10_feed_9 (by decide) ?_
  obtain ⟨q4, h⟩ := h
  refine i_add dX10_feed_11 ?_
  refine w_sipush (v := nZ 600) dX10_feed_12 (by decide) ?_
  refine i_cmp_le (tgt := 20) dX10_feed_15 rfl q4 (by decide) (fun c9 => ?_) (fun c9 => ?_)
  · replace h := h.1 c9
    refine w_iconst (v := nZ 0) dX10_feed_20 (by decide) ?_
    refine w_istore (l' := [(6, .int (nZ 0)), (0, .ref 76), (1, .int (nZ x1)), (2, .int (nZ x2)), (3, .int (nZ x3)), (4, .int (nZ x4)), (5, .int (nZ x5))]) dX10_feed_21 (by decide) rfl ?_
    exact w_weak (l' := [(0, .ref 76), (1, .int (nZ x1)), (2, .int (nZ x2)), (3, .int (nZ x3)), (4, .int (nZ x4)), (5, .int (nZ x5)), (6, .int (nZ 0))]) (by intro q hq; simp only [List.mem_cons, List.not_mem_nil, or_false] at hq ⊢; rcases hq with rfl | rfl | rfl | rfl | rfl | rfl | rfl <;> simp) h
  · replace h := h.2 c9
    refine w_iconst (v := nZ (-1)) dX10_feed_18 (by decide) ?_
    exact w_iret dX10_feed_19 rfl h
set_option maxRecDepth 10000 in
theorem v_X10_feed_23 {C : aM → List Value → aH → aO → aH → Prop} {sc : Nat × (Nat → Int32)} {P : aO → aH → Prop} {σ : aH} {u : Nat}  {x1 : Int} {x2 : Int} {x3 : Int} {x4 : Int} {x5 : Int} {x6 : Int} (hG : G σ u) (rx1 : inR x1) (rx2 : inR x2) (rx3 : inR x3) (rx4 : inR x4) (rx5 : inR x5) (rx6 : inR x6)
    (h : ((20 ≤ x6 → P (.inl (some (.int (nZ (rI σ 76 1))))) σ) ∧ (¬ (20 ≤ x6) → ((4 ≤ x6 → ((8 ≤ x6 → ((12 ≤ x6 → ((16 ≤ x6 → L_X10_feed_76 C sc P x1 x2 x3 x4 x5 x6 x5 σ) ∧ (¬ (16 ≤ x6) → L_X10_feed_76 C sc P x1 x2 x3 x4 x5 x6 x4 σ))) ∧ (¬ (12 ≤ x6) → L_X10_feed_76 C sc P x1 x2 x3 x4 x5 x6 x3 σ))) ∧ (¬ (8 ≤ x6) → L_X10_feed_76 C sc P x1 x2 x3 x4 x5 x6 x2 σ))) ∧ (¬ (4 ≤ x6) → L_X10_feed_76 C sc P x1 x2 x3 x4 x5 x6 x1 σ))))) :
    L_X10_feed_23 C sc P x1 x2 x3 x4 x5 x6 σ := by
  unfold L_X10_feed_23
  refine w_iload dX10_feed_23 (List.Mem.tail _ (List.Mem.tail _ (List.Mem.tail _ (List.Mem.tail _ (List.Mem.tail _ (List.Mem.tail _ (List.Mem.head _))))))) ?_
  refine w_bipush (v := nZ 20) dX10_feed_25 (by decide) ?_
  refine i_cmp_ge (tgt := 120) dX10_feed_27 rfl rx6 (by decide) (fun c9 => ?_) (fun c9 => ?_)
  · replace h := h.1 c9
    refine w_aload_n dX10_feed_120 rfl (List.Mem.head _) ?_
    refine i_getI (ci := 10) 1 rfl dX10_feed_121 fl_10_109 (by decide) (gT hG rfl (lt_of rfl)) ?_
    exact w_iret dX10_feed_124 rfl h
  · replace h := h.2 c9
    refine w_iload dX10_feed_30 (List.Mem.tail _ (List.Mem.tail _ (List.Mem.tail _ (List.Mem.tail _ (List.Mem.tail _ (List.Mem.tail _ (List.Mem.head _))))))) ?_
    refine w_iconst (v := nZ 4) dX10_feed_32 (by decide) ?_
    refine i_cmp_ge (tgt := 40) dX10_feed_33 rfl rx6 (by decide) (fun c9 => ?_) (fun c9 => ?_)
    · replace h := h.1 c9
      refine w_iload dX10_feed_40 (List.Mem.tail _ (List.Mem.tail _ (List.Mem.tail _ (List.Mem.tail _ (List.Mem.tail _ (List.Mem.tail _ (List.Mem.head _))))))) ?_
      refine w_bipush (v := nZ 8) dX10_feed_42 (by decide) ?_
      refine i_cmp_ge (tgt := 51) dX10_feed_44 rfl rx6 (by decide) (fun c9 => ?_) (fun c9 => ?_)
      · replace h := h.1 c9
        refine w_iload dX10_feed_51 (List.Mem.tail _ (List.Mem.tail _ (List.Mem.tail _ (List.Mem.tail _ (List.Mem.tail _ (List.Mem.tail _ (List.Mem.head _))))))) ?_
        refine w_bipush (v := nZ 12) dX10_feed_53 (by decide) ?_
        refine i_cmp_ge (tgt := 62) dX10_feed_55 rfl rx6 (by decide) (fun c9 => ?_) (fun c9 => ?_)
        · replace h := h.1 c9
          refine w_iload dX10_feed_62 (List.Mem.tail _ (List.Mem.tail _ (List.Mem.tail _ (List.Mem.tail _ (List.Mem.tail _ (List.Mem.tail _ (List.Mem.head _))))))) ?_
          refine w_bipush (v := nZ 16) dX10_feed_64 (by decide) ?_
          refine i_cmp_ge (tgt := 74) dX10_feed_66 rfl rx6 (by decide) (fun c9 => ?_) (fun c9 => ?_)
          · replace h := h.1 c9
            refine w_iload dX10_feed_74 (List.Mem.tail _ (List.Mem.tail _ (List.Mem.tail _ (List.Mem.tail _ (List.Mem.tail _ (List.Mem.head _)))))) ?_
            exact h
          · replace h := h.2 c9
            refine w_iload dX10_feed_69 (List.Mem.tail _ (List.Mem.tail _ (List.Mem.tail _ (List.Mem.tail _ (List.Mem.head _))))) ?_
            refine w_goto (tgt := 76) dX10_feed_71 rfl ?_
            exact h
        · replace h := h.2 c9
          refine w_iload_n dX10_feed_58 rfl (List.Mem.tail _ (List.Mem.tail _ (List.Mem.tail _ (List.Mem.head _)))) ?_
          refine w_goto (tgt := 76) dX10_feed_59 rfl ?_
          exact h
      · replace h := h.2 c9
        refine w_iload_n dX10_feed_47 rfl (List.Mem.tail _ (List.Mem.tail _ (List.Mem.head _))) ?_
        refine w_goto (tgt := 76) dX10_feed_48 rfl ?_
        exact h
    · replace h := h.2 c9
      refine w_iload_n dX10_feed_36 rfl (List.Mem.tail _ (List.Mem.head _)) ?_
      refine w_goto (tgt := 76) dX10_feed_37 rfl ?_
      exact h
set_option maxRecDepth 10000 in
theorem v_X10_feed_76 {C : aM → List Value → aH → aO → aH → Prop} {sc : Nat × (Nat → Int32)} {P : aO → aH → Prop} {σ : aH} {u : Nat}  {x1 : Int} {x2 : Int} {x3 : Int} {x4 : Int} {x5 : Int} {x6 : Int} {s0 : Int} (hG : G σ u) (rx1 : inR x1) (rx2 : inR x2) (rx3 : inR x3) (rx4 : inR x4) (rx5 : inR x5) (rx6 : inR x6) (rs0 : inR s0)
    (h : ((0 ≤ x6 ∧ (0 : Int) < 4) ∧ inR (x6 % 4) ∧ (inR (8 * (x6 % 4)) ∧ (inR (24 - (8 * (x6 % 4))) ∧ ((0 ≤ (rI σ 76 1) ∧ (rI σ 76 1) < 600) ∧ (∀ σ4 : aH, wI σ 77 (rI σ 76 1) (zAnd (zShr s0 (24 - (8 * (x6 % 4)))) 255) = σ4 → (inR ((rI σ4 76 1) + 1) ∧ (∀ σ8 : aH, wI σ4 76 1 ((rI σ4 76 1) + 1) = σ8 → (inR (x6 + 1) ∧ L_X10_feed_23 C sc P x1 x2 x3 x4 x5 (x6 + 1) σ8))))))))) :
    L_X10_feed_76 C sc P x1 x2 x3 x4 x5 x6 s0 σ := by
  unfold L_X10_feed_76
  refine w_istore (l' := [(7, .int (nZ s0)), (0, .ref 76), (1, .int (nZ x1)), (2, .int (nZ x2)), (3, .int (nZ x3)), (4, .int (nZ x4)), (5, .int (nZ x5)), (6, .int (nZ x6))]) dX10_feed_76 (by decide) rfl ?_
  refine w_aload_n dX10_feed_78 rfl (List.Mem.tail _ (List.Mem.head _)) ?_
  refine w_getR (ci := 10) (k := 8) (b := 77) dX10_feed_79 fl_10_13 (by decide) (gT hG rfl (lt_of rfl)) (gR hG (b := 77) rfl) ?_
  refine w_aload_n dX10_feed_82 rfl (List.Mem.tail _ (List.Mem.head _)) ?_
  refine i_getI (ci := 10) 1 rfl dX10_feed_83 fl_10_109 (by decide) (gT hG rfl (lt_of rfl)) ?_
  refine w_iload dX10_feed_86 (List.Mem.head _) ?_
  refine w_bipush (v := nZ 24) dX10_feed_88 (by decide) ?_
  refine w_bipush (v := nZ 8) dX10_feed_90 (by decide) ?_
  refine w_iload dX10_feed_92 (List.Mem.tail _ (List.Mem.tail _ (List.Mem.tail _ (List.Mem.tail _ (List.Mem.tail _ (List.Mem.tail _ (List.Mem.tail _ (List.Mem.head _)))))))) ?_
  refine w_iconst (v := nZ 4) dX10_feed_94 (by decide) ?_
  obtain ⟨h9, q1, h⟩ := h
  refine i_rem dX10_feed_95 rx6 (by decide) h9 ?_
  obtain ⟨q2, h⟩ := h
  refine i_mul dX10_feed_96 ?_
  obtain ⟨q3, h⟩ := h
  refine i_sub dX10_feed_97 ?_
  refine i_shr dX10_feed_98 ?_
  refine w_sipush (v := nZ 255) dX10_feed_99 (by decide) ?_
  refine i_and dX10_feed_102 ?_
  obtain ⟨h9, h⟩ := h
  refine i_iast (n := 600) dX10_feed_103 (gT hG rfl (lt_of rfl)) (gL hG rfl) (rI_R _ _ _) h9 (fun σ4 eσ5 => ?_)
  replace h := h σ4 eσ5
  have hG6 : G σ4 u := eσ5 ▸ G.wI hG
  refine w_aload_n dX10_feed_104 rfl (List.Mem.tail _ (List.Mem.head _)) ?_
  refine w_dup dX10_feed_105 rfl ?_
  refine i_getI (ci := 10) 1 rfl dX10_feed_106 fl_10_109 (by decide) (gT hG6 rfl (lt_of rfl)) ?_
  refine w_iconst (v := nZ 1) dX10_feed_109 (by decide) ?_
  obtain ⟨q7, h⟩ := h
  refine i_add dX10_feed_110 ?_
  refine i_putI (ci := 10) 1 rfl dX10_feed_111 fl_10_109 (by decide) (gT hG6 rfl (lt_of rfl)) (fun σ8 eσ9 => ?_)
  replace h := h σ8 eσ9
  have hG10 : G σ8 u := eσ9 ▸ G.wI hG6
  obtain ⟨q11, h⟩ := h
  refine w_iinc (v := nZ (x6 + 1)) (l' := [(6, .int (nZ (x6 + 1))), (7, .int (nZ s0)), (0, .ref 76), (1, .int (nZ x1)), (2, .int (nZ x2)), (3, .int (nZ x3)), (4, .int (nZ x4)), (5, .int (nZ x5))]) dX10_feed_114 (List.Mem.tail _ (List.Mem.tail _ (List.Mem.tail _ (List.Mem.tail _ (List.Mem.tail _ (List.Mem.tail _ (List.Mem.tail _ (List.Mem.head _)))))))) (nZ_add _ _) (by decide) rfl ?_
  refine w_goto (tgt := 23) dX10_feed_117 rfl ?_
  exact w_weak (l' := [(0, .ref 76), (1, .int (nZ x1)), (2, .int (nZ x2)), (3, .int (nZ x3)), (4, .int (nZ x4)), (5, .int (nZ x5)), (6, .int (nZ (x6 + 1)))]) (by intro q hq; simp only [List.mem_cons, List.not_mem_nil, or_false] at hq ⊢; rcases hq with rfl | rfl | rfl | rfl | rfl | rfl | rfl <;> simp) h
theorem dX10_byteAt_0 : decode cX10_byteAt 0 = .ok (.iload_n 1, 1) := by decide +kernel
theorem dX10_byteAt_1 : decode cX10_byteAt 1 = .ok (.aload_n 0, 1) := by decide +kernel
theorem dX10_byteAt_2 : decode cX10_byteAt 2 = .ok (.getfield 112, 3) := by decide +kernel
theorem dX10_byteAt_5 : decode cX10_byteAt 5 = .ok (.if_icmp .lt 7, 3) := by decide +kernel
theorem dX10_byteAt_8 : decode cX10_byteAt 8 = .ok (.iconst (-1), 1) := by decide +kernel
theorem dX10_byteAt_9 : decode cX10_byteAt 9 = .ok (.goto 9, 3) := by decide +kernel
theorem dX10_byteAt_12 : decode cX10_byteAt 12 = .ok (.aload_n 0, 1) := by decide +kernel
theorem dX10_byteAt_13 : decode cX10_byteAt 13 = .ok (.getfield 13, 3) := by decide +kernel
theorem dX10_byteAt_16 : decode cX10_byteAt 16 = .ok (.iload_n 1, 1) := by decide +kernel
theorem dX10_byteAt_17 : decode cX10_byteAt 17 = .ok (.iaload, 1) := by decide +kernel
theorem dX10_byteAt_18 : decode cX10_byteAt 18 = .ok (.ireturn, 1) := by decide +kernel
set_option maxRecDepth 10000 in
theorem t_X10_byteAt {sc : Nat × (Nat → Int32)} {d : Nat} {Q : aO → aH → Prop} {σ : aH} {u : Nat}  {x1 : Int} (hG : G σ u) (rx1 : inR x1)
    (h : ((x1 < (rI σ 76 2) → ((0 ≤ x1 ∧ x1 < 600) ∧ Q (.inl (some (.int (nZ (rI σ 77 x1))))) σ)) ∧ (¬ (x1 < (rI σ 76 2)) → Q (.inl (some (.int (nZ (-1))))) σ))) :
    T sc (d + 1) mX10_byteAt [.ref 76, .int (nZ x1)] σ Q := by
  refine T.of (c := 10) (code := cX10_byteAt) (mL := 2) (rt := (some .int)) (ini := false) (l := [(0, .ref 76), (1, .int (nZ x1))]) rfl rfl rfl rfl (by decide) hs_X10_byteAt rfl rfl ?_
  refine w_iload_n dX10_byteAt_0 rfl (List.Mem.tail _ (List.Mem.head _)) ?_
  refine w_aload_n dX10_byteAt_1 rfl (List.Mem.head _) ?_
  refine i_getI (ci := 10) 2 rfl dX10_byteAt_2 fl_10_112 (by decide) (gT hG rfl (lt_of rfl)) ?_
  refine i_cmp_lt (tgt := 12) dX10_byteAt_5 rfl rx1 (rI_R _ _ _) (fun c9 => ?_) (fun c9 => ?_)
  · replace h := h.1 c9
    refine w_aload_n dX10_byteAt_12 rfl (List.Mem.head _) ?_
    refine w_getR (ci := 10) (k := 8) (b := 77) dX10_byteAt_13 fl_10_13 (by decide) (gT hG rfl (lt_of rfl)) (gR hG (b := 77) rfl) ?_
    refine w_iload_n dX10_byteAt_16 rfl (List.Mem.tail _ (List.Mem.head _)) ?_
    obtain ⟨h9, h⟩ := h
    refine i_iald (n := 600) dX10_byteAt_17 (gT hG rfl (lt_of rfl)) (gL hG rfl) rx1 h9 ?_
    exact w_iret dX10_byteAt_18 rfl h
  · replace h := h.2 c9
    refine w_iconst (v := nZ (-1)) dX10_byteAt_8 (by decide) ?_
    refine w_goto (tgt := 18) dX10_byteAt_9 rfl ?_
    exact w_iret dX10_byteAt_18 rfl h
theorem dX10_blanks_0 : decode cX10_blanks 0 = .ok (.aload_n 0, 1) := by decide +kernel
theorem dX10_blanks_1 : decode cX10_blanks 1 = .ok (.aload_n 0, 1) := by decide +kernel
theorem dX10_blanks_2 : decode cX10_blanks 2 = .ok (.getfield 115, 3) := by decide +kernel
theorem dX10_blanks_5 : decode cX10_blanks 5 = .ok (.invokevirtual 118, 3) := by decide +kernel
theorem dX10_blanks_8 : decode cX10_blanks 8 = .ok (.bipush 32, 2) := by decide +kernel
theorem dX10_blanks_10 : decode cX10_blanks 10 = .ok (.if_icmp .ne 16, 3) := by decide +kernel
theorem dX10_blanks_13 : decode cX10_blanks 13 = .ok (.aload_n 0, 1) := by decide +kernel
theorem dX10_blanks_14 : decode cX10_blanks 14 = .ok (.dup, 1) := by decide +kernel
theorem dX10_blanks_15 : decode cX10_blanks 15 = .ok (.getfield 115, 3) := by decide +kernel
theorem dX10_blanks_18 : decode cX10_blanks 18 = .ok (.iconst 1, 1) := by decide +kernel
theorem dX10_blanks_19 : decode cX10_blanks 19 = .ok (.iadd, 1) := by decide +kernel
theorem dX10_blanks_20 : decode cX10_blanks 20 = .ok (.putfield 115, 3) := by decide +kernel
theorem dX10_blanks_23 : decode cX10_blanks 23 = .ok (.goto (-23), 3) := by decide +kernel
theorem dX10_blanks_26 : decode cX10_blanks 26 = .ok (.return_, 1) := by decide +kernel
def L_X10_blanks_0 (C : aM → List Value → aH → aO → aH → Prop) (sc : Nat × (Nat → Int32)) (P : aO → aH → Prop)  (σ : aH) : Prop :=
    wp C 10 cX10_blanks 1 none false [] sc P 0 [(0, .ref 76)] [] σ
set_option maxRecDepth 10000 in
theorem v_X10_blanks_0 {C : aM → List Value → aH → aO → aH → Prop} {sc : Nat × (Nat → Int32)} {P : aO → aH → Prop} {σ : aH} {u : Nat}   (hG : G σ u) 
    (h : (∃ (r5 : Int) (σ1 : aH), C mX10_byteAt [.ref 76, .int (nZ (rI σ 76 4))] σ (.inl (some (.int (nZ r5)))) σ1 ∧ G σ1 u ∧ inR r5 ∧ ((¬ r5 = 32 → P (.inl none) σ1) ∧ (r5 = 32 → (inR ((rI σ1 76 4) + 1) ∧ (∀ σ7 : aH, wI σ1 76 4 ((rI σ1 76 4) + 1) = σ7 → L_X10_blanks_0 C sc P  σ7)))))) :
    L_X10_blanks_0 C sc P  σ := by
  unfold L_X10_blanks_0
  refine w_aload_n dX10_blanks_0 rfl (List.Mem.head _) ?_
  refine w_aload_n dX10_blanks_1 rfl (List.Mem.head _) ?_
  refine i_getI (ci := 10) 4 rfl dX10_blanks_2 fl_10_115 (by decide) (gT hG rfl (lt_of rfl)) ?_
  obtain ⟨r5, σ1, hc3, hG2, rr4, h⟩ := h
  refine w_callV dX10_blanks_5 ml_10_118 ⟨ok_X10_byteAt, vi_X10_byteAt⟩ hs_X10_byteAt (As := [.int (nZ (rI σ 76 4))]) rfl rfl (gT hG rfl (lt_of rfl)) (Nat.le_of_ble_eq_true rfl) hc3 ?_
  show wp C 10 cX10_blanks 1 none false [] sc P 8 [(0, .ref 76)] [.int (nZ r5)] σ1
  refine w_bipush (v := nZ 32) dX10_blanks_8 (by decide) ?_
  refine i_cmp_ne (tgt := 26) dX10_blanks_10 rfl rr4 (by decide) (fun c9 => ?_) (fun c9 => ?_)
  · replace h := h.1 c9
    exact w_vret dX10_blanks_26 rfl h
  · replace h := h.2 c9
    refine w_aload_n dX10_blanks_13 rfl (List.Mem.head _) ?_
    refine w_dup dX10_blanks_14 rfl ?_
    refine i_getI (ci := 10) 4 rfl dX10_blanks_15 fl_10_115 (by decide) (gT hG2 rfl (lt_of rfl)) ?_
    refine w_iconst (v := nZ 1) dX10_blanks_18 (by decide) ?_
    obtain ⟨q6, h⟩ := h
    refine i_add dX10_blanks_19 ?_
    refine i_putI (ci := 10) 4 rfl dX10_blanks_20 fl_10_115 (by decide) (gT hG2 rfl (lt_of rfl)) (fun σ7 eσ8 => ?_)
    replace h := h σ7 eσ8
    have hG9 : G σ7 u := eσ8 ▸ G.wI hG2
    refine w_goto (tgt := 0) dX10_blanks_23 rfl ?_
    exact h
theorem t_X10_blanks {sc : Nat × (Nat → Int32)} {d : Nat} {Q : aO → aH → Prop} {σ : aH}  
    (h : L_X10_blanks_0 (Ev sc d) sc Q  σ) :
    T sc (d + 1) mX10_blanks [.ref 76] σ Q := T.of (c := 10) (code := cX10_blanks) (mL := 1) (rt := none) (ini := false) (l := [(0, .ref 76)]) rfl rfl rfl rfl (by decide) hs_X10_blanks rfl rfl h
theorem dX10_wrong_0 : decode cX10_wrong 0 = .ok (.aload_n 0, 1) := by decide +kernel
theorem dX10_wrong_1 : decode cX10_wrong 1 = .ok (.getfield 122, 3) := by decide +kernel
theorem dX10_wrong_4 : decode cX10_wrong 4 = .ok (.ifCond .ne 13, 3) := by decide +kernel
theorem dX10_wrong_7 : decode cX10_wrong 7 = .ok (.aload_n 0, 1) := by decide +kernel
theorem dX10_wrong_8 : decode cX10_wrong 8 = .ok (.iload_n 1, 1) := by decide +kernel
theorem dX10_wrong_9 : decode cX10_wrong 9 = .ok (.putfield 122, 3) := by decide +kernel
theorem dX10_wrong_12 : decode cX10_wrong 12 = .ok (.aload_n 0, 1) := by decide +kernel
theorem dX10_wrong_13 : decode cX10_wrong 13 = .ok (.iload_n 2, 1) := by decide +kernel
theorem dX10_wrong_14 : decode cX10_wrong 14 = .ok (.putfield 125, 3) := by decide +kernel
theorem dX10_wrong_17 : decode cX10_wrong 17 = .ok (.return_, 1) := by decide +kernel
set_option maxRecDepth 10000 in
theorem t_X10_wrong {sc : Nat × (Nat → Int32)} {d : Nat} {Q : aO → aH → Prop} {σ : aH} {u : Nat}  {x1 : Int} {x2 : Int} (hG : G σ u) (rx1 : inR x1) (rx2 : inR x2)
    (h : ((¬ (rI σ 76 5) = 0 → Q (.inl none) σ) ∧ ((rI σ 76 5) = 0 → (∀ σ1 : aH, wI σ 76 5 x1 = σ1 → (∀ σ4 : aH, wI σ1 76 6 x2 = σ4 → Q (.inl none) σ4))))) :
    T sc (d + 1) mX10_wrong [.ref 76, .int (nZ x1), .int (nZ x2)] σ Q := by
  refine T.of (c := 10) (code := cX10_wrong) (mL := 3) (rt := none) (ini := false) (l := [(0, .ref 76), (1, .int (nZ x1)), (2, .int (nZ x2))]) rfl rfl rfl rfl (by decide) hs_X10_wrong rfl rfl ?_
  refine w_aload_n dX10_wrong_0 rfl (List.Mem.head _) ?_
  refine i_getI (ci := 10) 5 rfl dX10_wrong_1 fl_10_122 (by decide) (gT hG rfl (lt_of rfl)) ?_
  refine i_if_ne (tgt := 17) dX10_wrong_4 rfl (rI_R _ _ _) (fun c9 => ?_) (fun c9 => ?_)
  · replace h := h.1 c9
    exact w_vret dX10_wrong_17 rfl h
  · replace h := h.2 c9
    refine w_aload_n dX10_wrong_7 rfl (List.Mem.head _) ?_
    refine w_iload_n dX10_wrong_8 rfl (List.Mem.tail _ (List.Mem.head _)) ?_
    refine i_putI (ci := 10) 5 rfl dX10_wrong_9 fl_10_122 (by decide) (gT hG rfl (lt_of rfl)) (fun σ1 eσ2 => ?_)
    replace h := h σ1 eσ2
    have hG3 : G σ1 u := eσ2 ▸ G.wI hG
    refine w_aload_n dX10_wrong_12 rfl (List.Mem.head _) ?_
    refine w_iload_n dX10_wrong_13 rfl (List.Mem.tail _ (List.Mem.tail _ (List.Mem.head _))) ?_
    refine i_putI (ci := 10) 6 rfl dX10_wrong_14 fl_10_125 (by decide) (gT hG3 rfl (lt_of rfl)) (fun σ4 eσ5 => ?_)
    replace h := h σ4 eσ5
    have hG6 : G σ4 u := eσ5 ▸ G.wI hG3
    exact w_vret dX10_wrong_17 rfl h
theorem dX10_isDigit_0 : decode cX10_isDigit 0 = .ok (.iload_n 0, 1) := by decide +kernel
theorem dX10_isDigit_1 : decode cX10_isDigit 1 = .ok (.bipush 48, 2) := by decide +kernel
theorem dX10_isDigit_3 : decode cX10_isDigit 3 = .ok (.if_icmp .lt 13, 3) := by decide +kernel
theorem dX10_isDigit_6 : decode cX10_isDigit 6 = .ok (.iload_n 0, 1) := by decide +kernel
theorem dX10_isDigit_7 : decode cX10_isDigit 7 = .ok (.bipush 57, 2) := by decide +kernel
theorem dX10_isDigit_9 : decode cX10_isDigit 9 = .ok (.if_icmp .gt 7, 3) := by decide +kernel
theorem dX10_isDigit_12 : decode cX10_isDigit 12 = .ok (.iconst 1, 1) := by decide +kernel
theorem dX10_isDigit_13 : decode cX10_isDigit 13 = .ok (.goto 4, 3) := by decide +kernel
theorem dX10_isDigit_16 : decode cX10_isDigit 16 = .ok (.iconst 0, 1) := by decide +kernel
theorem dX10_isDigit_17 : decode cX10_isDigit 17 = .ok (.ireturn, 1) := by decide +kernel
set_option maxRecDepth 10000 in
theorem t_X10_isDigit {sc : Nat × (Nat → Int32)} {d : Nat} {Q : aO → aH → Prop} {σ : aH} {u : Nat}  {x0 : Int} (hG : G σ u) (rx0 : inR x0)
    (h : ((x0 < 48 → Q (.inl (some (.int (nZ 0)))) σ) ∧ (¬ (x0 < 48) → ((57 < x0 → Q (.inl (some (.int (nZ 0)))) σ) ∧ (¬ (57 < x0) → Q (.inl (some (.int (nZ 1)))) σ))))) :
    T sc (d + 1) mX10_isDigit [.int (nZ x0)] σ Q := by
  refine T.of (c := 10) (code := cX10_isDigit) (mL := 1) (rt := (some .boolean)) (ini := false) (l := [(0, .int (nZ x0))]) rfl rfl rfl rfl (by decide) hs_X10_isDigit rfl rfl ?_
  refine w_iload_n dX10_isDigit_0 rfl (List.Mem.head _) ?_
  refine w_bipush (v := nZ 48) dX10_isDigit_1 (by decide) ?_
  refine i_cmp_lt (tgt := 16) dX10_isDigit_3 rfl rx0 (by decide) (fun c9 => ?_) (fun c9 => ?_)
  · replace h := h.1 c9
    refine w_iconst (v := nZ 0) dX10_isDigit_16 (by decide) ?_
    exact i_zret dX10_isDigit_17 rfl (by decide) h
  · replace h := h.2 c9
    refine w_iload_n dX10_isDigit_6 rfl (List.Mem.head _) ?_
    refine w_bipush (v := nZ 57) dX10_isDigit_7 (by decide) ?_
    refine i_cmp_gt (tgt := 16) dX10_isDigit_9 rfl rx0 (by decide) (fun c9 => ?_) (fun c9 => ?_)
    · replace h := h.1 c9
      refine w_iconst (v := nZ 0) dX10_isDigit_16 (by decide) ?_
      exact i_zret dX10_isDigit_17 rfl (by decide) h
    · replace h := h.2 c9
      refine w_iconst (v := nZ 1) dX10_isDigit_12 (by decide) ?_
      refine w_goto (tgt := 17) dX10_isDigit_13 rfl ?_
      exact i_zret dX10_isDigit_17 rfl (by decide) h
theorem dX10_number_0 : decode cX10_number 0 = .ok (.aload_n 0, 1) := by decide +kernel
theorem dX10_number_1 : decode cX10_number 1 = .ok (.getfield 122, 3) := by decide +kernel
theorem dX10_number_4 : decode cX10_number 4 = .ok (.ifCond .eq 5, 3) := by decide +kernel
theorem dX10_number_7 : decode cX10_number 7 = .ok (.iconst 0, 1) := by decide +kernel
theorem dX10_number_8 : decode cX10_number 8 = .ok (.ireturn, 1) := by decide +kernel
theorem dX10_number_9 : decode cX10_number 9 = .ok (.aload_n 0, 1) := by decide +kernel
theorem dX10_number_10 : decode cX10_number 10 = .ok (.invokevirtual 128, 3) := by decide +kernel
theorem dX10_number_13 : decode cX10_number 13 = .ok (.aload_n 0, 1) := by decide +kernel
theorem dX10_number_14 : decode cX10_number 14 = .ok (.getfield 115, 3) := by decide +kernel
theorem dX10_number_17 : decode cX10_number 17 = .ok (.istore_n 3, 1) := by decide +kernel
theorem dX10_number_18 : decode cX10_number 18 = .ok (.iconst 0, 1) := by decide +kernel
theorem dX10_number_19 : decode cX10_number 19 = .ok (.istore 4, 2) := by decide +kernel
theorem dX10_number_21 : decode cX10_number 21 = .ok (.aload_n 0, 1) := by decide +kernel
theorem dX10_number_22 : decode cX10_number 22 = .ok (.aload_n 0, 1) := by decide +kernel
theorem dX10_number_23 : decode cX10_number 23 = .ok (.getfield 115, 3) := by decide +kernel
theorem dX10_number_26 : decode cX10_number 26 = .ok (.invokevirtual 118, 3) := by decide +kernel
theorem dX10_number_29 : decode cX10_number 29 = .ok (.invokestatic 131, 3) := by decide +kernel
theorem dX10_number_32 : decode cX10_number 32 = .ok (.ifCond .ne 12, 3) := by decide +kernel
theorem dX10_number_35 : decode cX10_number 35 = .ok (.aload_n 0, 1) := by decide +kernel
theorem dX10_number_36 : decode cX10_number 36 = .ok (.iconst 1, 1) := by decide +kernel
theorem dX10_number_37 : decode cX10_number 37 = .ok (.aload_n 0, 1) := by decide +kernel
theorem dX10_number_38 : decode cX10_number 38 = .ok (.getfield 115, 3) := by decide +kernel
theorem dX10_number_41 : decode cX10_number 41 = .ok (.invokevirtual 135, 3) := by decide +kernel
theorem dX10_number_44 : decode cX10_number 44 = .ok (.aload_n 0, 1) := by decide +kernel
theorem dX10_number_45 : decode cX10_number 45 = .ok (.aload_n 0, 1) := by decide +kernel
theorem dX10_number_46 : decode cX10_number 46 = .ok (.getfield 115, 3) := by decide +kernel
theorem dX10_number_49 : decode cX10_number 49 = .ok (.invokevirtual 118, 3) := by decide +kernel
theorem dX10_number_52 : decode cX10_number 52 = .ok (.invokestatic 131, 3) := by decide +kernel
theorem dX10_number_55 : decode cX10_number 55 = .ok (.ifCond .eq 51, 3) := by decide +kernel
theorem dX10_number_58 : decode cX10_number 58 = .ok (.bipush 10, 2) := by decide +kernel
theorem dX10_number_60 : decode cX10_number 60 = .ok (.iload 4, 2) := by decide +kernel
theorem dX10_number_62 : decode cX10_number 62 = .ok (.imul, 1) := by decide +kernel
theorem dX10_number_63 : decode cX10_number 63 = .ok (.aload_n 0, 1) := by decide +kernel
theorem dX10_number_64 : decode cX10_number 64 = .ok (.aload_n 0, 1) := by decide +kernel
theorem dX10_number_65 : decode cX10_number 65 = .ok (.getfield 115, 3) := by decide +kernel
theorem dX10_number_68 : decode cX10_number 68 = .ok (.invokevirtual 118, 3) := by decide +kernel
theorem dX10_number_71 : decode cX10_number 71 = .ok (.iadd, 1) := by decide +kernel
theorem dX10_number_72 : decode cX10_number 72 = .ok (.bipush 48, 2) := by decide +kernel
theorem dX10_number_74 : decode cX10_number 74 = .ok (.isub, 1) := by decide +kernel
theorem dX10_number_75 : decode cX10_number 75 = .ok (.istore 4, 2) := by decide +kernel
theorem dX10_number_77 : decode cX10_number 77 = .ok (.iload 4, 2) := by decide +kernel
theorem dX10_number_79 : decode cX10_number 79 = .ok (.ldc 139, 2) := by decide +kernel
theorem dX10_number_81 : decode cX10_number 81 = .ok (.if_icmp .le 8, 3) := by decide +kernel
theorem dX10_number_84 : decode cX10_number 84 = .ok (.ldc 139, 2) := by decide +kernel
theorem dX10_number_86 : decode cX10_number 86 = .ok (.goto 5, 3) := by decide +kernel
theorem dX10_number_89 : decode cX10_number 89 = .ok (.iload 4, 2) := by decide +kernel
theorem dX10_number_91 : decode cX10_number 91 = .ok (.istore 4, 2) := by decide +kernel
theorem dX10_number_93 : decode cX10_number 93 = .ok (.aload_n 0, 1) := by decide +kernel
theorem dX10_number_94 : decode cX10_number 94 = .ok (.dup, 1) := by decide +kernel
theorem dX10_number_95 : decode cX10_number 95 = .ok (.getfield 115, 3) := by decide +kernel
theorem dX10_number_98 : decode cX10_number 98 = .ok (.iconst 1, 1) := by decide +kernel
theorem dX10_number_99 : decode cX10_number 99 = .ok (.iadd, 1) := by decide +kernel
theorem dX10_number_100 : decode cX10_number 100 = .ok (.putfield 115, 3) := by decide +kernel
theorem dX10_number_103 : decode cX10_number 103 = .ok (.goto (-59), 3) := by decide +kernel
theorem dX10_number_106 : decode cX10_number 106 = .ok (.iload 4, 2) := by decide +kernel
theorem dX10_number_108 : decode cX10_number 108 = .ok (.iload_n 1, 1) := by decide +kernel
theorem dX10_number_109 : decode cX10_number 109 = .ok (.iload_n 2, 1) := by decide +kernel
theorem dX10_number_110 : decode cX10_number 110 = .ok (.invokestatic 140, 3) := by decide +kernel
theorem dX10_number_113 : decode cX10_number 113 = .ok (.ifCond .ne 9, 3) := by decide +kernel
theorem dX10_number_116 : decode cX10_number 116 = .ok (.aload_n 0, 1) := by decide +kernel
theorem dX10_number_117 : decode cX10_number 117 = .ok (.iconst 2, 1) := by decide +kernel
theorem dX10_number_118 : decode cX10_number 118 = .ok (.iload_n 3, 1) := by decide +kernel
theorem dX10_number_119 : decode cX10_number 119 = .ok (.invokevirtual 135, 3) := by decide +kernel
theorem dX10_number_122 : decode cX10_number 122 = .ok (.aload_n 0, 1) := by decide +kernel
theorem dX10_number_123 : decode cX10_number 123 = .ok (.getfield 122, 3) := by decide +kernel
theorem dX10_number_126 : decode cX10_number 126 = .ok (.ifCond .ne 8, 3) := by decide +kernel
theorem dX10_number_129 : decode cX10_number 129 = .ok (.iload 4, 2) := by decide +kernel
theorem dX10_number_131 : decode cX10_number 131 = .ok (.goto 4, 3) := by decide +kernel
theorem dX10_number_134 : decode cX10_number 134 = .ok (.iconst 0, 1) := by decide +kernel
theorem dX10_number_135 : decode cX10_number 135 = .ok (.ireturn, 1) := by decide +kernel
def L_X10_number_44 (C : aM → List Value → aH → aO → aH → Prop) (sc : Nat × (Nat → Int32)) (P : aO → aH → Prop) (x1 : Int) (x2 : Int) (x3 : Int) (x4 : Int) (σ : aH) : Prop :=
    wp C 10 cX10_number 5 (some .int) false [] sc P 44 [(0, .ref 76), (1, .int (nZ x1)), (2, .int (nZ x2)), (3, .int (nZ x3)), (4, .int (nZ x4))] [] σ
set_option maxRecDepth 10000 in
theorem t_X10_number {sc : Nat × (Nat → Int32)} {d : Nat} {Q : aO → aH → Prop} {σ : aH} {u : Nat}  {x1 : Int} {x2 : Int} (hG : G σ u) (rx1 : inR x1) (rx2 : inR x2)
    (h : (((rI σ 76 5) = 0 → (∃ σ1 : aH, Ev sc d mX10_blanks [.ref 76] σ (.inl none) σ1 ∧ G σ1 u ∧ (∀ z5 : Int, z5 = (rI σ1 76 4) → (∃ (r12 : Int) (σ8 : aH), Ev sc d mX10_byteAt [.ref 76, .int (nZ (rI σ1 76 4))] σ1 (.inl (some (.int (nZ r12)))) σ8 ∧ G σ8 u ∧ inR r12 ∧ (∃ (r17 : Int) (σ13 : aH), Ev sc d mX10_isDigit [.int (nZ r12)] σ8 (.inl (some (.int (nZ r17)))) σ13 ∧ G σ13 u ∧ inR r17 ∧ ((¬ r17 = 0 → L_X10_number_44 (Ev sc d) sc Q x1 x2 z5 0 σ13) ∧ (r17 = 0 → (∃ σ18 : aH, Ev sc d mX10_wrong [.ref 76, .int (nZ 1), .int (nZ (rI σ13 76 4))] σ13 (.inl none) σ18 ∧ G σ18 u ∧ L_X10_number_44 (Ev sc d) sc Q x1 x2 z5 0 σ18)))))))) ∧ (¬ ((rI σ 76 5) = 0) → Q (.inl (some (.int (nZ 0)))) σ))) :
    T sc (d + 1) mX10_number [.ref 76, .int (nZ x1), .int (nZ x2)] σ Q := by
  refine T.of (c := 10) (code := cX10_number) (mL := 5) (rt := (some .int)) (ini := false) (l := [(0, .ref 76), (1, .int (nZ x1)), (2, .int (nZ x2))]) rfl rfl rfl rfl (by decide) hs_X10_number rfl rfl ?_
  refine w_aload_n dX10_number_0 rfl (List.Mem.head _) ?_
  refine i_getI (ci := 10) 5 rfl dX10_number_1 fl_10_122 (by decide) (gT hG rfl (lt_of rfl)) ?_
  refine i_if_eq (tgt := 9) dX10_number_4 rfl (rI_R _ _ _) (fun c9 => ?_) (fun c9 => ?_)
  · replace h := h.1 c9
    refine w_aload_n dX10_number_9 rfl (List.Mem.head _) ?_
    obtain ⟨σ1, hc3, hG2, h⟩ := h
    refine w_callV dX10_number_10 ml_10_128 ⟨ok_X10_blanks, vi_X10_blanks⟩ hs_X10_blanks (As := []) rfl rfl (gT hG rfl (lt_of rfl)) (Nat.le_of_ble_eq_true rfl) hc3 ?_
    show wp (Ev sc d) 10 cX10_number 5 (some .int) false [] sc Q 13 [(0, .ref 76), (1, .int (nZ x1)), (2, .int (nZ x2))] [] σ1
    refine w_aload_n dX10_number_13 rfl (List.Mem.head _) ?_
    refine i_getI (ci := 10) 4 rfl dX10_number_14 fl_10_115 (by decide) (gT hG2 rfl (lt_of rfl)) ?_
    refine top_i (fun z5 ez6 => ?_)
    have rz7 : inR z5 := ez6 ▸ (rI_R _ _ _)
    replace h := h z5 ez6
    refine w_istore_n (l' := [(3, .int (nZ z5)), (0, .ref 76), (1, .int (nZ x1)), (2, .int (nZ x2))]) dX10_number_17 rfl (by decide) rfl ?_
    refine w_iconst (v := nZ 0) dX10_number_18 (by decide) ?_
    refine w_istore (l' := [(4, .int (nZ 0)), (3, .int (nZ z5)), (0, .ref 76), (1, .int (nZ x1)), (2, .int (nZ x2))]) dX10_number_19 (by decide) rfl ?_
    refine w_aload_n dX10_number_21 rfl (List.Mem.tail _ (List.Mem.tail _ (List.Mem.head _))) ?_
    refine w_aload_n dX10_number_22 rfl (List.Mem.tail _ (List.Mem.tail _ (List.Mem.head _))) ?_
    refine i_getI (ci := 10) 4 rfl dX10_number_23 fl_10_115 (by decide) (gT hG2 rfl (lt_of rfl)) ?_
    obtain ⟨r12, σ8, hc10, hG9, rr11, h⟩ := h
    refine w_callV dX10_number_26 ml_10_118 ⟨ok_X10_byteAt, vi_X10_byteAt⟩ hs_X10_byteAt (As := [.int (nZ (rI σ1 76 4))]) rfl rfl (gT hG2 rfl (lt_of rfl)) (Nat.le_of_ble_eq_true rfl) hc10 ?_
    show wp (Ev sc d) 10 cX10_number 5 (some .int) false [] sc Q 29 [(4, .int (nZ 0)), (3, .int (nZ z5)), (0, .ref 76), (1, .int (nZ x1)), (2, .int (nZ x2))] [.int (nZ r12)] σ8
    obtain ⟨r17, σ13, hc15, hG14, rr16, h⟩ := h
    refine w_callS dX10_number_29 ml_10_131 ⟨ok_X10_isDigit, st_X10_isDigit⟩ hs_X10_isDigit (As := [.int (nZ r12)]) rfl rfl (Nat.le_of_ble_eq_true rfl) hc15 ?_
    show wp (Ev sc d) 10 cX10_number 5 (some .int) false [] sc Q 32 [(4, .int (nZ 0)), (3, .int (nZ z5)), (0, .ref 76), (1, .int (nZ x1)), (2, .int (nZ x2))] [.int (nZ r17)] σ13
    refine i_if_ne (tgt := 44) dX10_number_32 rfl rr16 (fun c9 => ?_) (fun c9 => ?_)
    · replace h := h.1 c9
      exact w_weak (l' := [(0, .ref 76), (1, .int (nZ x1)), (2, .int (nZ x2)), (3, .int (nZ z5)), (4, .int (nZ 0))]) (by intro q hq; simp only [List.mem_cons, List.not_mem_nil, or_false] at hq ⊢; rcases hq with rfl | rfl | rfl | rfl | rfl <;> simp) h
    · replace h := h.2 c9
      refine w_aload_n dX10_number_35 rfl (List.Mem.tail _ (List.Mem.tail _ (List.Mem.head _))) ?_
      refine w_iconst (v := nZ 1) dX10_number_36 (by decide) ?_
      refine w_aload_n dX10_number_37 rfl (List.Mem.tail _ (List.Mem.tail _ (List.Mem.head _))) ?_
      refine i_getI (ci := 10) 4 rfl dX10_number_38 fl_10_115 (by decide) (gT hG14 rfl (lt_of rfl)) ?_
      obtain ⟨σ18, hc20, hG19, h⟩ := h
      refine w_callV dX10_number_41 ml_10_135 ⟨ok_X10_wrong, vi_X10_wrong⟩ hs_X10_wrong (As := [.int (nZ 1), .int (nZ (rI σ13 76 4))]) rfl rfl (gT hG14 rfl (lt_of rfl)) (Nat.le_of_ble_eq_true rfl) hc20 ?_
      show wp (Ev sc d) 10 cX10_number 5 (some .int) false [] sc Q 44 [(4, .int (nZ 0)), (3, .int (nZ z5)), (0, .ref 76), (1, .int (nZ x1)), (2, .int (nZ x2))] [] σ18
      exact w_weak (l' := [(0, .ref 76), (1, .int (nZ x1)), (2, .int (nZ x2)), (3, .int (nZ z5)), (4, .int (nZ 0))]) (by intro q hq; simp only [List.mem_cons, List.not_mem_nil, or_false] at hq ⊢; rcases hq with rfl | rfl | rfl | rfl | rfl <;> simp) h
  · replace h := h.2 c9
    refine w_iconst (v := nZ 0) dX10_number_7 (by decide) ?_
    exact w_iret dX10_number_8 rfl h
set_option maxRecDepth 10000 in
theorem v_X10_number_44 {C : aM → List Value → aH → aO → aH → Prop} {sc : Nat × (Nat → Int32)} {P : aO → aH → Prop} {σ : aH} {u : Nat}  {x1 : Int} {x2 : Int} {x3 : Int} {x4 : Int} (hG : G σ u) (rx1 : inR x1) (rx2 : inR x2) (rx3 : inR x3) (rx4 : inR x4)
    (h : (∃ (r5 : Int) (σ1 : aH), C mX10_byteAt [.ref 76, .int (nZ (rI σ 76 4))] σ (.inl (some (.int (nZ r5)))) σ1 ∧ G σ1 u ∧ inR r5 ∧ (∃ (r10 : Int) (σ6 : aH), C mX10_isDigit [.int (nZ r5)] σ1 (.inl (some (.int (nZ r10)))) σ6 ∧ G σ6 u ∧ inR r10 ∧ ((r10 = 0 → (∃ (r15 : Int) (σ11 : aH), C mX10_in [.int (nZ x4), .int (nZ x1), .int (nZ x2)] σ6 (.inl (some (.int (nZ r15)))) σ11 ∧ G σ11 u ∧ inR r15 ∧ ((¬ r15 = 0 → ((¬ (rI σ11 76 5) = 0 → P (.inl (some (.int (nZ 0)))) σ11) ∧ ((rI σ11 76 5) = 0 → P (.inl (some (.int (nZ x4)))) σ11))) ∧ (r15 = 0 → (∃ σ16 : aH, C mX10_wrong [.ref 76, .int (nZ 2), .int (nZ x3)] σ11 (.inl none) σ16 ∧ G σ16 u ∧ ((¬ (rI σ16 76 5) = 0 → P (.inl (some (.int (nZ 0)))) σ16) ∧ ((rI σ16 76 5) = 0 → P (.inl (some (.int (nZ x4)))) σ16))))))) ∧ (¬ (r10 = 0) → (inR (10 * x4) ∧ (∃ (r25 : Int) (σ21 : aH), C mX10_byteAt [.ref 76, .int (nZ (rI σ6 76 4))] σ6 (.inl (some (.int (nZ r25)))) σ21 ∧ G σ21 u ∧ inR r25 ∧ (inR ((10 * x4) + r25) ∧ (inR (((10 * x4) + r25) - 48) ∧ (∀ z28 : Int, z28 = (((10 * x4) + r25) - 48) → ((z28 ≤ 100000 → (inR ((rI σ21 76 4) + 1) ∧ (∀ σ32 : aH, wI σ21 76 4 ((rI σ21 76 4) + 1) = σ32 → L_X10_number_44 C sc P x1 x2 x3 z28 σ32))) ∧ (¬ (z28 ≤ 100000) → (inR ((rI σ21 76 4) + 1) ∧ (∀ σ36 : aH, wI σ21 76 4 ((rI σ21 76 4) + 1) = σ36 → L_X10_number_44 C sc P x1 x2 x3 100000 σ36)))))))))))))) :
    L_X10_number_44 C sc P x1 x2 x3 x4 σ := by
  unfold L_X10_number_44
  refine w_aload_n dX10_number_44 rfl (List.Mem.head _) ?_
  refine w_aload_n dX10_number_45 rfl (List.Mem.head _) ?_
  refine i_getI (ci := 10) 4 rfl dX10_number_46 fl_10_115 (by decide) (gT hG rfl (lt_of rfl)) ?_
  obtain ⟨r5, σ1, hc3, hG2, rr4, h⟩ := h
  refine w_callV dX10_number_49 ml_10_118 ⟨ok_X10_byteAt, vi_X10_byteAt⟩ hs_X10_byteAt (As := [.int (nZ (rI σ 76 4))]) rfl rfl (gT hG rfl (lt_of rfl)) (Nat.le_of_ble_eq_true rfl) hc3 ?_
  show wp C 10 cX10_number 5 (some .int) false [] sc P 52 [(0, .ref 76), (1, .int (nZ x1)), (2, .int (nZ x2)), (3, .int (nZ x3)), (4, .int (nZ x4))] [.int (nZ r5)] σ1
  obtain ⟨r10, σ6, hc8, hG7, rr9, h⟩ := h
  refine w_callS dX10_number_52 ml_10_131 ⟨ok_X10_isDigit, st_X10_isDigit⟩ hs_X10_isDigit (As := [.int (nZ r5)]) rfl rfl (Nat.le_of_ble_eq_true rfl) hc8 ?_
  show wp C 10 cX10_number 5 (some .int) false [] sc P 55 [(0, .ref 76), (1, .int (nZ x1)), (2, .int (nZ x2)), (3, .int (nZ x3)), (4, .int (nZ x4))] [.int (nZ r10)] σ6
  refine i_if_eq (tgt := 106) dX10_number_55 rfl rr9 (fun c9 => ?_) (fun c9 => ?_)
  · replace h := h.1 c9
    refine w_iload dX10_number_106 (List.Mem.tail _ (List.Mem.tail _ (List.Mem.tail _ (List.Mem.tail _ (List.Mem.head _))))) ?_
    refine w_iload_n dX10_number_108 rfl (List.Mem.tail _ (List.Mem.head _)) ?_
    refine w_iload_n dX10_number_109 rfl (List.Mem.tail _ (List.Mem.tail _ (List.Mem.head _))) ?_
    obtain ⟨r15, σ11, hc13, hG12, rr14, h⟩ := h
    refine w_callS dX10_number_110 ml_10_140 ⟨ok_X10_in, st_X10_in⟩ hs_X10_in (As := [.int (nZ x4), .int (nZ x1), .int (nZ x2)]) rfl rfl (Nat.le_of_ble_eq_true rfl) hc13 ?_
    show wp C 10 cX10_number 5 (some .int) false [] sc P 113 [(0, .ref 76), (1, .int (nZ x1)), (2, .int (nZ x2)), (3, .int (nZ x3)), (4, .int (nZ x4))] [.int (nZ r15)] σ11
    refine i_if_ne (tgt := 122) dX10_number_113 rfl rr14 (fun c9 => ?_) (fun c9 => ?_)
    · replace h := h.1 c9
      refine w_aload_n dX10_number_122 rfl (List.Mem.head _) ?_
      refine i_getI (ci := 10) 5 rfl dX10_number_123 fl_10_122 (by decide) (gT hG12 rfl (lt_of rfl)) ?_
      refine i_if_ne (tgt := 134) dX10_number_126 rfl (rI_R _ _ _) (fun c9 => ?_) (fun c9 => ?_)
      · replace h := h.1 c9
        refine w_iconst (v := nZ 0) dX10_number_134 (by decide) ?_
        exact w_iret dX10_number_135 rfl h
      · replace h := h.2 c9
        refine w_iload dX10_number_129 (List.Mem.tail _ (List.Mem.tail _ (List.Mem.tail _ (List.Mem.tail _ (List.Mem.head _))))) ?_
        refine w_goto (tgt := 135) dX10_number_131 rfl ?_
        exact w_iret dX10_number_135 rfl h
    · replace h := h.2 c9
      refine w_aload_n dX10_number_116 rfl (List.Mem.head _) ?_
      refine w_iconst (v := nZ 2) dX10_number_117 (by decide) ?_
      refine w_iload_n dX10_number_118 rfl (List.Mem.tail _ (List.Mem.tail _ (List.Mem.tail _ (List.Mem.head _)))) ?_
      obtain ⟨σ16, hc18, hG17, h⟩ := h
      refine w_callV dX10_number_119 ml_10_135 ⟨ok_X10_wrong, vi_X10_wrong⟩ hs_X10_wrong (As := [.int (nZ 2), .int (nZ x3)]) rfl rfl (gT hG12 rfl (lt_of rfl)) (Nat.le_of_ble_eq_true rfl) hc18 ?_
      show wp C 10 cX10_number 5 (some .int) false [] sc P 122 [(0, .ref 76), (1, .int (nZ x1)), (2, .int (nZ x2)), (3, .int (nZ x3)), (4, .int (nZ x4))] [] σ16
      refine w_aload_n dX10_number_122 rfl (List.Mem.head _) ?_
      refine i_getI (ci := 10) 5 rfl dX10_number_123 fl_10_122 (by decide) (gT hG17 rfl (lt_of rfl)) ?_
      refine i_if_ne (tgt := 134) dX10_number_126 rfl (rI_R _ _ _) (fun c9 => ?_) (fun c9 => ?_)
      · replace h := h.1 c9
        refine w_iconst (v := nZ 0) dX10_number_134 (by decide) ?_
        exact w_iret dX10_number_135 rfl h
      · replace h := h.2 c9
        refine w_iload dX10_number_129 (List.Mem.tail _ (List.Mem.tail _ (List.Mem.tail _ (List.Mem.tail _ (List.Mem.head _))))) ?_
        refine w_goto (tgt := 135) dX10_number_131 rfl ?_
        exact w_iret dX10_number_135 rfl h
  · replace h := h.2 c9
    refine w_bipush (v := nZ 10) dX10_number_58 (by decide) ?_
    refine w_iload dX10_number_60 (List.Mem.tail _ (List.Mem.tail _ (List.Mem.tail _ (List.Mem.tail _ (List.Mem.head _))))) ?_
    obtain ⟨q20, h⟩ := h
    refine i_mul dX10_number_62 ?_
    refine w_aload_n dX10_number_63 rfl (List.Mem.head _) ?_
    refine w_aload_n dX10_number_64 rfl (List.Mem.head _) ?_
    refine i_getI (ci := 10) 4 rfl dX10_number_65 fl_10_115 (by decide) (gT hG7 rfl (lt_of rfl)) ?_
    obtain ⟨r25, σ21, hc23, hG22, rr24, h⟩ := h
    refine w_callV dX10_number_68 ml_10_118 ⟨ok_X10_byteAt, vi_X10_byteAt⟩ hs_X10_byteAt (As := [.int (nZ (rI σ6 76 4))]) rfl rfl (gT hG7 rfl (lt_of rfl)) (Nat.le_of_ble_eq_true rfl) hc23 ?_
    show wp C 10 cX10_number 5 (some .int) false [] sc P 71 [(0, .ref 76), (1, .int (nZ x1)), (2, .int (nZ x2)), (3, .int (nZ x3)), (4, .int (nZ x4))] [.int (nZ r25), .int (nZ (10 * x4))] σ21
    obtain ⟨q26, h⟩ := h
    refine i_add dX10_number_71 ?_
    refine w_bipush (v := nZ 48) dX10_number_72 (by decide) ?_
    obtain ⟨q27, h⟩ := h
    refine i_sub dX10_number_74 ?_
    refine top_i (fun z28 ez29 => ?_)
    have rz30 : inR z28 := ez29 ▸ q27
    replace h := h z28 ez29
    refine w_istore (l' := [(4, .int (nZ z28)), (0, .ref 76), (1, .int (nZ x1)), (2, .int (nZ x2)), (3, .int (nZ x3))]) dX10_number_75 (by decide) rfl ?_
    refine w_iload dX10_number_77 (List.Mem.head _) ?_
    refine i_ldc (x := 100000) dX10_number_79 kc_10_139 (by decide) ?_
    refine i_cmp_le (tgt := 89) dX10_number_81 rfl rz30 (by decide) (fun c9 => ?_) (fun c9 => ?_)
    · replace h := h.1 c9
      refine w_iload dX10_number_89 (List.Mem.head _) ?_
      refine w_istore (l' := [(4, .int (nZ z28)), (0, .ref 76), (1, .int (nZ x1)), (2, .int (nZ x2)), (3, .int (nZ x3))]) dX10_number_91 (by decide) rfl ?_
      refine w_aload_n dX10_number_93 rfl (List.Mem.tail _ (List.Mem.head _)) ?_
      refine w_dup dX10_number_94 rfl ?_
      refine i_getI (ci := 10) 4 rfl dX10_number_95 fl_10_115 (by decide) (gT hG22 rfl (lt_of rfl)) ?_
      refine w_iconst (v := nZ 1) dX10_number_98 (by decide) ?_
      obtain ⟨q31, h⟩ := h
      refine i_add dX10_number_99 ?_
      refine i_putI (ci := 10) 4 rfl dX10_number_100 fl_10_115 (by decide) (gT hG22 rfl (lt_of rfl)) (fun σ32 eσ33 => ?_)
      replace h := h σ32 eσ33
      have hG34 : G σ32 u := eσ33 ▸ G.wI hG22
      refine w_goto (tgt := 44) dX10_number_103 rfl ?_
      exact w_weak (l' := [(0, .ref 76), (1, .int (nZ x1)), (2, .int (nZ x2)), (3, .int (nZ x3)), (4, .int (nZ z28))]) (by intro q hq; simp only [List.mem_cons, List.not_mem_nil, or_false] at hq ⊢; rcases hq with rfl | rfl | rfl | rfl | rfl <;> simp) h
    · replace h := h.2 c9
      refine i_ldc (x := 100000) dX10_number_84 kc_10_139 (by decide) ?_
      refine w_goto (tgt := 91) dX10_number_86 rfl ?_
      refine w_istore (l' := [(4, .int (nZ 100000)), (0, .ref 76), (1, .int (nZ x1)), (2, .int (nZ x2)), (3, .int (nZ x3))]) dX10_number_91 (by decide) rfl ?_
      refine w_aload_n dX10_number_93 rfl (List.Mem.tail _ (List.Mem.head _)) ?_
      refine w_dup dX10_number_94 rfl ?_
      refine i_getI (ci := 10) 4 rfl dX10_number_95 fl_10_115 (by decide) (gT hG22 rfl (lt_of rfl)) ?_
      refine w_iconst (v := nZ 1) dX10_number_98 (by decide) ?_
      obtain ⟨q35, h⟩ := h
      refine i_add dX10_number_99 ?_
      refine i_putI (ci := 10) 4 rfl dX10_number_100 fl_10_115 (by decide) (gT hG22 rfl (lt_of rfl)) (fun σ36 eσ37 => ?_)
      replace h := h σ36 eσ37
      have hG38 : G σ36 u := eσ37 ▸ G.wI hG22
      refine w_goto (tgt := 44) dX10_number_103 rfl ?_
      exact w_weak (l' := [(0, .ref 76), (1, .int (nZ x1)), (2, .int (nZ x2)), (3, .int (nZ x3)), (4, .int (nZ 100000))]) (by intro q hq; simp only [List.mem_cons, List.not_mem_nil, or_false] at hq ⊢; rcases hq with rfl | rfl | rfl | rfl | rfl <;> simp) h
theorem dX10_wordHere_0 : decode cX10_wordHere 0 = .ok (.aload_n 0, 1) := by decide +kernel
theorem dX10_wordHere_1 : decode cX10_wordHere 1 = .ok (.invokevirtual 128, 3) := by decide +kernel
theorem dX10_wordHere_4 : decode cX10_wordHere 4 = .ok (.lconst 0, 1) := by decide +kernel
theorem dX10_wordHere_5 : decode cX10_wordHere 5 = .ok (.lstore_n 1, 1) := by decide +kernel
theorem dX10_wordHere_6 : decode cX10_wordHere 6 = .ok (.iconst 0, 1) := by decide +kernel
theorem dX10_wordHere_7 : decode cX10_wordHere 7 = .ok (.istore_n 3, 1) := by decide +kernel
theorem dX10_wordHere_8 : decode cX10_wordHere 8 = .ok (.aload_n 0, 1) := by decide +kernel
theorem dX10_wordHere_9 : decode cX10_wordHere 9 = .ok (.aload_n 0, 1) := by decide +kernel
theorem dX10_wordHere_10 : decode cX10_wordHere 10 = .ok (.getfield 115, 3) := by decide +kernel
theorem dX10_wordHere_13 : decode cX10_wordHere 13 = .ok (.iload_n 3, 1) := by decide +kernel
theorem dX10_wordHere_14 : decode cX10_wordHere 14 = .ok (.iadd, 1) := by decide +kernel
theorem dX10_wordHere_15 : decode cX10_wordHere 15 = .ok (.invokevirtual 118, 3) := by decide +kernel
theorem dX10_wordHere_18 : decode cX10_wordHere 18 = .ok (.bipush 97, 2) := by decide +kernel
theorem dX10_wordHere_20 : decode cX10_wordHere 20 = .ok (.if_icmp .lt 58, 3) := by decide +kernel
theorem dX10_wordHere_23 : decode cX10_wordHere 23 = .ok (.aload_n 0, 1) := by decide +kernel
theorem dX10_wordHere_24 : decode cX10_wordHere 24 = .ok (.aload_n 0, 1) := by decide +kernel
theorem dX10_wordHere_25 : decode cX10_wordHere 25 = .ok (.getfield 115, 3) := by decide +kernel
theorem dX10_wordHere_28 : decode cX10_wordHere 28 = .ok (.iload_n 3, 1) := by decide +kernel
theorem dX10_wordHere_29 : decode cX10_wordHere 29 = .ok (.iadd, 1) := by decide +kernel
theorem dX10_wordHere_30 : decode cX10_wordHere 30 = .ok (.invokevirtual 118, 3) := by decide +kernel
theorem dX10_wordHere_33 : decode cX10_wordHere 33 = .ok (.bipush 122, 2) := by decide +kernel
theorem dX10_wordHere_35 : decode cX10_wordHere 35 = .ok (.if_icmp .gt 43, 3) := by decide +kernel
theorem dX10_wordHere_38 : decode cX10_wordHere 38 = .ok (.iload_n 3, 1) := by decide +kernel
theorem dX10_wordHere_39 : decode cX10_wordHere 39 = .ok (.bipush 8, 2) := by decide +kernel
theorem dX10_wordHere_41 : decode cX10_wordHere 41 = .ok (.if_icmp .ge 29, 3) := by decide +kernel
theorem dX10_wordHere_44 : decode cX10_wordHere 44 = .ok (.ldc2_w 144, 3) := by decide +kernel
theorem dX10_wordHere_47 : decode cX10_wordHere 47 = .ok (.lload_n 1, 1) := by decide +kernel
theorem dX10_wordHere_48 : decode cX10_wordHere 48 = .ok (.lmul, 1) := by decide +kernel
theorem dX10_wordHere_49 : decode cX10_wordHere 49 = .ok (.aload_n 0, 1) := by decide +kernel
theorem dX10_wordHere_50 : decode cX10_wordHere 50 = .ok (.aload_n 0, 1) := by decide +kernel
theorem dX10_wordHere_51 : decode cX10_wordHere 51 = .ok (.getfield 115, 3) := by decide +kernel
theorem dX10_wordHere_54 : decode cX10_wordHere 54 = .ok (.iload_n 3, 1) := by decide +kernel
theorem dX10_wordHere_55 : decode cX10_wordHere 55 = .ok (.iadd, 1) := by decide +kernel
theorem dX10_wordHere_56 : decode cX10_wordHere 56 = .ok (.invokevirtual 118, 3) := by decide +kernel
theorem dX10_wordHere_59 : decode cX10_wordHere 59 = .ok (.i2l, 1) := by decide +kernel
theorem dX10_wordHere_60 : decode cX10_wordHere 60 = .ok (.ladd, 1) := by decide +kernel
theorem dX10_wordHere_61 : decode cX10_wordHere 61 = .ok (.ldc2_w 146, 3) := by decide +kernel
theorem dX10_wordHere_64 : decode cX10_wordHere 64 = .ok (.lsub, 1) := by decide +kernel
theorem dX10_wordHere_65 : decode cX10_wordHere 65 = .ok (.lconst 1, 1) := by decide +kernel
theorem dX10_wordHere_66 : decode cX10_wordHere 66 = .ok (.ladd, 1) := by decide +kernel
theorem dX10_wordHere_67 : decode cX10_wordHere 67 = .ok (.goto 4, 3) := by decide +kernel
theorem dX10_wordHere_70 : decode cX10_wordHere 70 = .ok (.lload_n 1, 1) := by decide +kernel
theorem dX10_wordHere_71 : decode cX10_wordHere 71 = .ok (.lstore_n 1, 1) := by decide +kernel
theorem dX10_wordHere_72 : decode cX10_wordHere 72 = .ok (.iinc 3 1, 3) := by decide +kernel
theorem dX10_wordHere_75 : decode cX10_wordHere 75 = .ok (.goto (-67), 3) := by decide +kernel
theorem dX10_wordHere_78 : decode cX10_wordHere 78 = .ok (.iload_n 3, 1) := by decide +kernel
theorem dX10_wordHere_79 : decode cX10_wordHere 79 = .ok (.bipush 8, 2) := by decide +kernel
theorem dX10_wordHere_81 : decode cX10_wordHere 81 = .ok (.if_icmp .le 9, 3) := by decide +kernel
theorem dX10_wordHere_84 : decode cX10_wordHere 84 = .ok (.ldc2_w 148, 3) := by decide +kernel
theorem dX10_wordHere_87 : decode cX10_wordHere 87 = .ok (.goto 4, 3) := by decide +kernel
theorem dX10_wordHere_90 : decode cX10_wordHere 90 = .ok (.lload_n 1, 1) := by decide +kernel
theorem dX10_wordHere_91 : decode cX10_wordHere 91 = .ok (.lreturn, 1) := by decide +kernel
def L_X10_wordHere_8 (C : aM → List Value → aH → aO → aH → Prop) (sc : Nat × (Nat → Int32)) (P : aO → aH → Prop) (y1 : Int) (x3 : Int) (σ : aH) : Prop :=
    wp C 10 cX10_wordHere 4 (some .long) false [] sc P 8 [(0, .ref 76), (1, .long (nJ y1)), (3, .int (nZ x3))] [] σ
set_option maxRecDepth 10000 in
theorem t_X10_wordHere {sc : Nat × (Nat → Int32)} {d : Nat} {Q : aO → aH → Prop} {σ : aH} {u : Nat}   (hG : G σ u) 
    (h : (∃ σ1 : aH, Ev sc d mX10_blanks [.ref 76] σ (.inl none) σ1 ∧ G σ1 u ∧ L_X10_wordHere_8 (Ev sc d) sc Q 0 0 σ1)) :
    T sc (d + 1) mX10_wordHere [.ref 76] σ Q := by
  refine T.of (c := 10) (code := cX10_wordHere) (mL := 4) (rt := (some .long)) (ini := false) (l := [(0, .ref 76)]) rfl rfl rfl rfl (by decide) hs_X10_wordHere rfl rfl ?_
  refine w_aload_n dX10_wordHere_0 rfl (List.Mem.head _) ?_
  obtain ⟨σ1, hc3, hG2, h⟩ := h
  refine w_callV dX10_wordHere_1 ml_10_128 ⟨ok_X10_blanks, vi_X10_blanks⟩ hs_X10_blanks (As := []) rfl rfl (gT hG rfl (lt_of rfl)) (Nat.le_of_ble_eq_true rfl) hc3 ?_
  show wp (Ev sc d) 10 cX10_wordHere 4 (some .long) false [] sc Q 4 [(0, .ref 76)] [] σ1
  refine w_lconst (v := nJ 0) dX10_wordHere_4 (by decide) ?_
  refine w_lstore_n (l' := [(1, .long (nJ 0)), (0, .ref 76)]) dX10_wordHere_5 rfl (by decide) rfl ?_
  refine w_iconst (v := nZ 0) dX10_wordHere_6 (by decide) ?_
  refine w_istore_n (l' := [(3, .int (nZ 0)), (1, .long (nJ 0)), (0, .ref 76)]) dX10_wordHere_7 rfl (by decide) rfl ?_
  exact w_weak (l' := [(0, .ref 76), (1, .long (nJ 0)), (3, .int (nZ 0))]) (by intro q hq; simp only [List.mem_cons, List.not_mem_nil, or_false] at hq ⊢; rcases hq with rfl | rfl | rfl <;> simp) h
set_option maxRecDepth 10000 in
theorem v_X10_wordHere_8 {C : aM → List Value → aH → aO → aH → Prop} {sc : Nat × (Nat → Int32)} {P : aO → aH → Prop} {σ : aH} {u : Nat}  {y1 : Int} {x3 : Int} (hG : G σ u) (ry1 : inJ y1) (rx3 : inR x3)
    (h : (inR ((rI σ 76 4) + x3) ∧ (∃ (r6 : Int) (σ2 : aH), C mX10_byteAt [.ref 76, .int (nZ ((rI σ 76 4) + x3))] σ (.inl (some (.int (nZ r6)))) σ2 ∧ G σ2 u ∧ inR r6 ∧ ((r6 < 97 → ((x3 ≤ 8 → P (.inl (some (.long (nJ y1)))) σ2) ∧ (¬ (x3 ≤ 8) → P (.inl (some (.long (nJ (-1))))) σ2))) ∧ (¬ (r6 < 97) → (inR ((rI σ2 76 4) + x3) ∧ (∃ (r12 : Int) (σ8 : aH), C mX10_byteAt [.ref 76, .int (nZ ((rI σ2 76 4) + x3))] σ2 (.inl (some (.int (nZ r12)))) σ8 ∧ G σ8 u ∧ inR r12 ∧ ((122 < r12 → ((x3 ≤ 8 → P (.inl (some (.long (nJ y1)))) σ8) ∧ (¬ (x3 ≤ 8) → P (.inl (some (.long (nJ (-1))))) σ8))) ∧ (¬ (122 < r12) → ((8 ≤ x3 → (inR (x3 + 1) ∧ L_X10_wordHere_8 C sc P y1 (x3 + 1) σ8)) ∧ (¬ (8 ≤ x3) → (inJ (27 * y1) ∧ (inR ((rI σ8 76 4) + x3) ∧ (∃ (r20 : Int) (σ16 : aH), C mX10_byteAt [.ref 76, .int (nZ ((rI σ8 76 4) + x3))] σ8 (.inl (some (.int (nZ r20)))) σ16 ∧ G σ16 u ∧ inR r20 ∧ (inJ ((27 * y1) + r20) ∧ (inJ (((27 * y1) + r20) - 97) ∧ (inJ ((((27 * y1) + r20) - 97) + 1) ∧ (∀ z24 : Int, z24 = ((((27 * y1) + r20) - 97) + 1) → (inR (x3 + 1) ∧ L_X10_wordHere_8 C sc P z24 (x3 + 1) σ16))))))))))))))))))) :
    L_X10_wordHere_8 C sc P y1 x3 σ := by
  unfold L_X10_wordHere_8
  refine w_aload_n dX10_wordHere_8 rfl (List.Mem.head _) ?_
  refine w_aload_n dX10_wordHere_9 rfl (List.Mem.head _) ?_
  refine i_getI (ci := 10) 4 rfl dX10_wordHere_10 fl_10_115 (by decide) (gT hG rfl (lt_of rfl)) ?_
  refine w_iload_n dX10_wordHere_13 rfl (List.Mem.tail _ (List.Mem.tail _ (List.Mem.head _))) ?_
  obtain ⟨q1, h⟩ := h
  refine i_add dX10_wordHere_14 ?_
  obtain ⟨r6, σ2, hc4, hG3, rr5, h⟩ := h
  refine w_callV dX10_wordHere_15 ml_10_118 ⟨ok_X10_byteAt, vi_X10_byteAt⟩ hs_X10_byteAt (As := [.int (nZ ((rI σ 76 4) + x3))]) rfl rfl (gT hG rfl (lt_of rfl)) (Nat.le_of_ble_eq_true rfl) hc4 ?_
  show wp C 10 cX10_wordHere 4 (some .long) false [] sc P 18 [(0, .ref 76), (1, .long (nJ y1)), (3, .int (nZ x3))] [.int (nZ r6)] σ2
  refine w_bipush (v := nZ 97) dX10_wordHere_18 (by decide) ?_
  refine i_cmp_lt (tgt := 78) dX10_wordHere_20 rfl rr5 (by decide) (fun c9 => ?_) (fun c9 => ?_)
  · replace h := h.1 c9
    refine w_iload_n dX10_wordHere_78 rfl (List.Mem.tail _ (List.Mem.tail _ (List.Mem.head _))) ?_
    refine w_bipush (v := nZ 8) dX10_wordHere_79 (by decide) ?_
    refine i_cmp_le (tgt := 90) dX10_wordHere_81 rfl rx3 (by decide) (fun c9 => ?_) (fun c9 => ?_)
    · replace h := h.1 c9
      refine w_lload_n dX10_wordHere_90 rfl (List.Mem.tail _ (List.Mem.head _)) ?_
      exact w_lret dX10_wordHere_91 rfl h
    · replace h := h.2 c9
      refine i_ldc2 (x := (-1)) dX10_wordHere_84 kl_10_148 (by decide) ?_
      refine w_goto (tgt := 91) dX10_wordHere_87 rfl ?_
      exact w_lret dX10_wordHere_91 rfl h
  · replace h := h.2 c9
    refine w_aload_n dX10_wordHere_23 rfl (List.Mem.head _) ?_
    refine w_aload_n dX10_wordHere_24 rfl (List.Mem.head _) ?_
    refine i_getI (ci := 10) 4 rfl dX10_wordHere_25 fl_10_115 (by decide) (gT hG3 rfl (lt_of rfl)) ?_
    refine w_iload_n dX10_wordHere_28 rfl (List.Mem.tail _ (List.Mem.tail _ (List.Mem.head _))) ?_
    obtain ⟨q7, h⟩ := h
    refine i_add dX10_wordHere_29 ?_
    obtain ⟨r12, σ8, hc10, hG9, rr11, h⟩ := h
    refine w_callV dX10_wordHere_30 ml_10_118 ⟨ok_X10_byteAt, vi_X10_byteAt⟩ hs_X10_byteAt (As := [.int (nZ ((rI σ2 76 4) + x3))]) rfl rfl (gT hG3 rfl (lt_of rfl)) (Nat.le_of_ble_eq_true rfl) hc10 ?_
    show wp C 10 cX10_wordHere 4 (some .long) false [] sc P 33 [(0, .ref 76), (1, .long (nJ y1)), (3, .int (nZ x3))] [.int (nZ r12)] σ8
    refine w_bipush (v := nZ 122) dX10_wordHere_33 (by decide) ?_
    refine i_cmp_gt (tgt := 78) dX10_wordHere_35 rfl rr11 (by decide) (fun c9 => ?_) (fun c9 => ?_)
    · replace h := h.1 c9
      refine w_iload_n dX10_wordHere_78 rfl (List.Mem.tail _ (List.Mem.tail _ (List.Mem.head _))) ?_
      refine w_bipush (v := nZ 8) dX10_wordHere_79 (by decide) ?_
      refine i_cmp_le (tgt := 90) dX10_wordHere_81 rfl rx3 (by decide) (fun c9 => ?_) (fun c9 => ?_)
      · replace h := h.1 c9
        refine w_lload_n dX10_wordHere_90 rfl (List.Mem.tail _ (List.Mem.head _)) ?_
        exact w_lret dX10_wordHere_91 rfl h
      · replace h := h.2 c9
        refine i_ldc2 (x := (-1)) dX10_wordHere_84 kl_10_148 (by decide) ?_
        refine w_goto (tgt := 91) dX10_wordHere_87 rfl ?_
        exact w_lret dX10_wordHere_91 rfl h
    · replace h := h.2 c9
      refine w_iload_n dX10_wordHere_38 rfl (List.Mem.tail _ (List.Mem.tail _ (List.Mem.head _))) ?_
      refine w_bipush (v := nZ 8) dX10_wordHere_39 (by decide) ?_
      refine i_cmp_ge (tgt := 70) dX10_wordHere_41 rfl rx3 (by decide) (fun c9 => ?_) (fun c9 => ?_)
      · replace h := h.1 c9
        refine w_lload_n dX10_wordHere_70 rfl (List.Mem.tail _ (List.Mem.head _)) ?_
        refine w_lstore_n (l' := [(1, .long (nJ y1)), (0, .ref 76), (3, .int (nZ x3))]) dX10_wordHere_71 rfl (by decide) rfl ?_
        obtain ⟨q13, h⟩ := h
        refine w_iinc (v := nZ (x3 + 1)) (l' := [(3, .int (nZ (x3 + 1))), (1, .long (nJ y1)), (0, .ref 76)]) dX10_wordHere_72 (List.Mem.tail _ (List.Mem.tail _ (List.Mem.head _))) (nZ_add _ _) (by decide) rfl ?_
        refine w_goto (tgt := 8) dX10_wordHere_75 rfl ?_
        exact w_weak (l' := [(0, .ref 76), (1, .long (nJ y1)), (3, .int (nZ (x3 + 1)))]) (by intro q hq; simp only [List.mem_cons, List.not_mem_nil, or_false] at hq ⊢; rcases hq with rfl | rfl | rfl <;> simp) h
      · replace h := h.2 c9
        refine i_ldc2 (x := 27) dX10_wordHere_44 kl_10_144 (by decide) ?_
        refine w_lload_n dX10_wordHere_47 rfl (List.Mem.tail _ (List.Mem.head _)) ?_
        obtain ⟨q14, h⟩ := h
        refine j_mul dX10_wordHere_48 ?_
        refine w_aload_n dX10_wordHere_49 rfl (List.Mem.head _) ?_
        refine w_aload_n dX10_wordHere_50 rfl (List.Mem.head _) ?_
        refine i_getI (ci := 10) 4 rfl dX10_wordHere_51 fl_10_115 (by decide) (gT hG9 rfl (lt_of rfl)) ?_
        refine w_iload_n dX10_wordHere_54 rfl (List.Mem.tail _ (List.Mem.tail _ (List.Mem.head _))) ?_
        obtain ⟨q15, h⟩ := h
        refine i_add dX10_wordHere_55 ?_
        obtain ⟨r20, σ16, hc18, hG17, rr19, h⟩ := h
        refine w_callV dX10_wordHere_56 ml_10_118 ⟨ok_X10_byteAt, vi_X10_byteAt⟩ hs_X10_byteAt (As := [.int (nZ ((rI σ8 76 4) + x3))]) rfl rfl (gT hG9 rfl (lt_of rfl)) (Nat.le_of_ble_eq_true rfl) hc18 ?_
        show wp C 10 cX10_wordHere 4 (some .long) false [] sc P 59 [(0, .ref 76), (1, .long (nJ y1)), (3, .int (nZ x3))] [.int (nZ r20), .long (nJ (27 * y1))] σ16
        refine i_2l dX10_wordHere_59 rr19 ?_
        obtain ⟨q21, h⟩ := h
        refine j_add dX10_wordHere_60 ?_
        refine i_ldc2 (x := 97) dX10_wordHere_61 kl_10_146 (by decide) ?_
        obtain ⟨q22, h⟩ := h
        refine j_sub dX10_wordHere_64 ?_
        refine w_lconst (v := nJ 1) dX10_wordHere_65 (by decide) ?_
        obtain ⟨q23, h⟩ := h
        refine j_add dX10_wordHere_66 ?_
        refine w_goto (tgt := 71) dX10_wordHere_67 rfl ?_
        refine top_j (fun z24 ez25 => ?_)
        have rz26 : inJ z24 := ez25 ▸ q23
        replace h := h z24 ez25
        refine w_lstore_n (l' := [(1, .long (nJ z24)), (0, .ref 76), (3, .int (nZ x3))]) dX10_wordHere_71 rfl (by decide) rfl ?_
        obtain ⟨q27, h⟩ := h
        refine w_iinc (v := nZ (x3 + 1)) (l' := [(3, .int (nZ (x3 + 1))), (1, .long (nJ z24)), (0, .ref 76)]) dX10_wordHere_72 (List.Mem.tail _ (List.Mem.tail _ (List.Mem.head _))) (nZ_add _ _) (by decide) rfl ?_
        refine w_goto (tgt := 8) dX10_wordHere_75 rfl ?_
        exact w_weak (l' := [(0, .ref 76), (1, .long (nJ z24)), (3, .int (nZ (x3 + 1)))]) (by intro q hq; simp only [List.mem_cons, List.not_mem_nil, or_false] at hq ⊢; rcases hq with rfl | rfl | rfl <;> simp) h
theorem dX10_seven_0 : decode cX10_seven 0 = .ok (.ldc2_w 144, 3) := by decide +kernel
theorem dX10_seven_3 : decode cX10_seven 3 = .ok (.ldc2_w 144, 3) := by decide +kernel
theorem dX10_seven_6 : decode cX10_seven 6 = .ok (.iload_n 0, 1) := by decide +kernel
theorem dX10_seven_7 : decode cX10_seven 7 = .ok (.i2l, 1) := by decide +kernel
theorem dX10_seven_8 : decode cX10_seven 8 = .ok (.lmul, 1) := by decide +kernel
theorem dX10_seven_9 : decode cX10_seven 9 = .ok (.iload_n 1, 1) := by decide +kernel
theorem dX10_seven_10 : decode cX10_seven 10 = .ok (.i2l, 1) := by decide +kernel
theorem dX10_seven_11 : decode cX10_seven 11 = .ok (.ladd, 1) := by decide +kernel
theorem dX10_seven_12 : decode cX10_seven 12 = .ok (.lmul, 1) := by decide +kernel
theorem dX10_seven_13 : decode cX10_seven 13 = .ok (.iload_n 2, 1) := by decide +kernel
theorem dX10_seven_14 : decode cX10_seven 14 = .ok (.i2l, 1) := by decide +kernel
theorem dX10_seven_15 : decode cX10_seven 15 = .ok (.ladd, 1) := by decide +kernel
theorem dX10_seven_16 : decode cX10_seven 16 = .ok (.lstore 7, 2) := by decide +kernel
theorem dX10_seven_18 : decode cX10_seven 18 = .ok (.iload_n 3, 1) := by decide +kernel
theorem dX10_seven_19 : decode cX10_seven 19 = .ok (.ifCond .ne 8, 3) := by decide +kernel
theorem dX10_seven_22 : decode cX10_seven 22 = .ok (.lload 7, 2) := by decide +kernel
theorem dX10_seven_24 : decode cX10_seven 24 = .ok (.goto 12, 3) := by decide +kernel
theorem dX10_seven_27 : decode cX10_seven 27 = .ok (.ldc2_w 144, 3) := by decide +kernel
theorem dX10_seven_30 : decode cX10_seven 30 = .ok (.lload 7, 2) := by decide +kernel
theorem dX10_seven_32 : decode cX10_seven 32 = .ok (.lmul, 1) := by decide +kernel
theorem dX10_seven_33 : decode cX10_seven 33 = .ok (.iload_n 3, 1) := by decide +kernel
theorem dX10_seven_34 : decode cX10_seven 34 = .ok (.i2l, 1) := by decide +kernel
theorem dX10_seven_35 : decode cX10_seven 35 = .ok (.ladd, 1) := by decide +kernel
theorem dX10_seven_36 : decode cX10_seven 36 = .ok (.lstore 7, 2) := by decide +kernel
theorem dX10_seven_38 : decode cX10_seven 38 = .ok (.iload 4, 2) := by decide +kernel
theorem dX10_seven_40 : decode cX10_seven 40 = .ok (.ifCond .ne 8, 3) := by decide +kernel
theorem dX10_seven_43 : decode cX10_seven 43 = .ok (.lload 7, 2) := by decide +kernel
theorem dX10_seven_45 : decode cX10_seven 45 = .ok (.goto 13, 3) := by decide +kernel
theorem dX10_seven_48 : decode cX10_seven 48 = .ok (.ldc2_w 144, 3) := by decide +kernel
theorem dX10_seven_51 : decode cX10_seven 51 = .ok (.lload 7, 2) := by decide +kernel
theorem dX10_seven_53 : decode cX10_seven 53 = .ok (.lmul, 1) := by decide +kernel
theorem dX10_seven_54 : decode cX10_seven 54 = .ok (.iload 4, 2) := by decide +kernel
theorem dX10_seven_56 : decode cX10_seven 56 = .ok (.i2l, 1) := by decide +kernel
theorem dX10_seven_57 : decode cX10_seven 57 = .ok (.ladd, 1) := by decide +kernel
theorem dX10_seven_58 : decode cX10_seven 58 = .ok (.lstore 7, 2) := by decide +kernel
theorem dX10_seven_60 : decode cX10_seven 60 = .ok (.iload 5, 2) := by decide +kernel
theorem dX10_seven_62 : decode cX10_seven 62 = .ok (.ifCond .ne 8, 3) := by decide +kernel
theorem dX10_seven_65 : decode cX10_seven 65 = .ok (.lload 7, 2) := by decide +kernel
theorem dX10_seven_67 : decode cX10_seven 67 = .ok (.goto 13, 3) := by decide +kernel
theorem dX10_seven_70 : decode cX10_seven 70 = .ok (.ldc2_w 144, 3) := by decide +kernel
theorem dX10_seven_73 : decode cX10_seven 73 = .ok (.lload 7, 2) := by decide +kernel
theorem dX10_seven_75 : decode cX10_seven 75 = .ok (.lmul, 1) := by decide +kernel
theorem dX10_seven_76 : decode cX10_seven 76 = .ok (.iload 5, 2) := by decide +kernel
theorem dX10_seven_78 : decode cX10_seven 78 = .ok (.i2l, 1) := by decide +kernel
theorem dX10_seven_79 : decode cX10_seven 79 = .ok (.ladd, 1) := by decide +kernel
theorem dX10_seven_80 : decode cX10_seven 80 = .ok (.lstore 7, 2) := by decide +kernel
theorem dX10_seven_82 : decode cX10_seven 82 = .ok (.iload 6, 2) := by decide +kernel
theorem dX10_seven_84 : decode cX10_seven 84 = .ok (.ifCond .ne 8, 3) := by decide +kernel
theorem dX10_seven_87 : decode cX10_seven 87 = .ok (.lload 7, 2) := by decide +kernel
theorem dX10_seven_89 : decode cX10_seven 89 = .ok (.goto 13, 3) := by decide +kernel
theorem dX10_seven_92 : decode cX10_seven 92 = .ok (.ldc2_w 144, 3) := by decide +kernel
theorem dX10_seven_95 : decode cX10_seven 95 = .ok (.lload 7, 2) := by decide +kernel
theorem dX10_seven_97 : decode cX10_seven 97 = .ok (.lmul, 1) := by decide +kernel
theorem dX10_seven_98 : decode cX10_seven 98 = .ok (.iload 6, 2) := by decide +kernel
theorem dX10_seven_100 : decode cX10_seven 100 = .ok (.i2l, 1) := by decide +kernel
theorem dX10_seven_101 : decode cX10_seven 101 = .ok (.ladd, 1) := by decide +kernel
theorem dX10_seven_102 : decode cX10_seven 102 = .ok (.lreturn, 1) := by decide +kernel
def L_X10_seven_58 (C : aM → List Value → aH → aO → aH → Prop) (sc : Nat × (Nat → Int32)) (P : aO → aH → Prop) (x0 : Int) (x1 : Int) (x2 : Int) (x3 : Int) (x4 : Int) (x5 : Int) (x6 : Int) (y7 : Int) (s0 : Int) (σ : aH) : Prop :=
    wp C 10 cX10_seven 9 (some .long) false [] sc P 58 [(0, .int (nZ x0)), (1, .int (nZ x1)), (2, .int (nZ x2)), (3, .int (nZ x3)), (4, .int (nZ x4)), (5, .int (nZ x5)), (6, .int (nZ x6)), (7, .long (nJ y7))] [.long (nJ s0)] σ
set_option maxRecDepth 10000 in
theorem t_X10_seven {sc : Nat × (Nat → Int32)} {d : Nat} {Q : aO → aH → Prop} {σ : aH} {u : Nat}  {x0 : Int} {x1 : Int} {x2 : Int} {x3 : Int} {x4 : Int} {x5 : Int} {x6 : Int} (hG : G σ u) (rx0 : inR x0) (rx1 : inR x1) (rx2 : inR x2) (rx3 : inR x3) (rx4 : inR x4) (rx5 : inR x5) (rx6 : inR x6)
    (h : (inJ (27 * x0) ∧ (inJ ((27 * x0) + x1) ∧ (inJ (27 * ((27 * x0) + x1)) ∧ (inJ ((27 * ((27 * x0) + x1)) + x2) ∧ (∀ z5 : Int, z5 = ((27 * ((27 * x0) + x1)) + x2) → ((¬ x3 = 0 → (inJ (27 * z5) ∧ (inJ ((27 * z5) + x3) ∧ (∀ z10 : Int, z10 = ((27 * z5) + x3) → ((¬ x4 = 0 → (inJ (27 * z10) ∧ (inJ ((27 * z10) + x4) ∧ L_X10_seven_58 (Ev sc d) sc Q x0 x1 x2 x3 x4 x5 x6 z10 ((27 * z10) + x4) σ))) ∧ (x4 = 0 → L_X10_seven_58 (Ev sc d) sc Q x0 x1 x2 x3 x4 x5 x6 z10 z10 σ)))))) ∧ (x3 = 0 → ((¬ x4 = 0 → (inJ (27 * z5) ∧ (inJ ((27 * z5) + x4) ∧ L_X10_seven_58 (Ev sc d) sc Q x0 x1 x2 x3 x4 x5 x6 z5 ((27 * z5) + x4) σ))) ∧ (x4 = 0 → L_X10_seven_58 (Ev sc d) sc Q x0 x1 x2 x3 x4 x5 x6 z5 z5 σ)))))))))) :
    T sc (d + 1) mX10_seven [.int (nZ x0), .int (nZ x1), .int (nZ x2), .int (nZ x3), .int (nZ x4), .int (nZ x5), .int (nZ x6)] σ Q := by
  refine T.of (c := 10) (code := cX10_seven) (mL := 9) (rt := (some .long)) (ini := false) (l := [(0, .int (nZ x0)), (1, .int (nZ x1)), (2, .int (nZ x2)), (3, .int (nZ x3)), (4, .int (nZ x4)), (5, .int (nZ x5)), (6, .int (nZ x6))]) rfl rfl rfl rfl (by decide) hs_X10_seven rfl rfl ?_
  refine i_ldc2 (x := 27) dX10_seven_0 kl_10_144 (by decide) ?_
  refine i_ldc2 (x := 27) dX10_seven_3 kl_10_144 (by decide) ?_
  refine w_iload_n dX10_seven_6 rfl (List.Mem.head _) ?_
  refine i_2l dX10_seven_7 rx0 ?_
  obtain ⟨q1, h⟩ := h
  refine j_mul dX10_seven_8 ?_
  refine w_iload_n dX10_seven_9 rfl (List.Mem.tail _ (List.Mem.head _)) ?_
  refine i_2l dX10_seven_10 rx1 ?_
  obtain ⟨q2, h⟩ := h
  refine j_add dX10_seven_11 ?_
  obtain ⟨q3, h⟩ := h
  refine j_mul dX10_seven_12 ?_
  refine w_iload_n dX10_seven_13 rfl (List.Mem.tail _ (List.Mem.tail _ (List.Mem.head _))) ?_
  refine i_2l dX10_seven_14 rx2 ?_
  obtain ⟨q4, h⟩ := h
  refine j_add dX10_seven_15 ?_
  refine top_j (fun z5 ez6 => ?_)
  have rz7 : inJ z5 := ez6 ▸ q4
  replace h := h z5 ez6
  refine w_lstore (l' := [(7, .long (nJ z5)), (0, .int (nZ x0)), (1, .int (nZ x1)), (2, .int (nZ x2)), (3, .int (nZ x3)), (4, .int (nZ x4)), (5, .int (nZ x5)), (6, .int (nZ x6))]) dX10_seven_16 (by decide) rfl ?_
  refine w_iload_n dX10_seven_18 rfl (List.Mem.tail _ (List.Mem.tail _ (List.Mem.tail _ (List.Mem.tail _ (List.Mem.head _))))) ?_
  refine i_if_ne (tgt := 27) dX10_seven_19 rfl rx3 (fun c9 => ?_) (fun c9 => ?_)
  · replace h := h.1 c9
    refine i_ldc2 (x := 27) dX10_seven_27 kl_10_144 (by decide) ?_
    refine w_lload dX10_seven_30 (List.Mem.head _) ?_
    obtain ⟨q8, h⟩ := h
    refine j_mul dX10_seven_32 ?_
    refine w_iload_n dX10_seven_33 rfl (List.Mem.tail _ (List.Mem.tail _ (List.Mem.tail _ (List.Mem.tail _ (List.Mem.head _))))) ?_
    refine i_2l dX10_seven_34 rx3 ?_
    obtain ⟨q9, h⟩ := h
    refine j_add dX10_seven_35 ?_
    refine top_j (fun z10 ez11 => ?_)
    have rz12 : inJ z10 := ez11 ▸ q9
    replace h := h z10 ez11
    refine w_lstore (l' := [(7, .long (nJ z10)), (0, .int (nZ x0)), (1, .int (nZ x1)), (2, .int (nZ x2)), (3, .int (nZ x3)), (4, .int (nZ x4)), (5, .int (nZ x5)), (6, .int (nZ x6))]) dX10_seven_36 (by decide) rfl ?_
    refine w_iload dX10_seven_38 (List.Mem.tail _ (List.Mem.tail _ (List.Mem.tail _ (List.Mem.tail _ (List.Mem.tail _ (List.Mem.head _)))))) ?_
    refine i_if_ne (tgt := 48) dX10_seven_40 rfl rx4 (fun c9 => ?_) (fun c9 => ?_)
    · replace h := h.1 c9
      refine i_ldc2 (x := 27) dX10_seven_48 kl_10_144 (by decide) ?_
      refine w_lload dX10_seven_51 (List.Mem.head _) ?_
      obtain ⟨q13, h⟩ := h
      refine j_mul dX10_seven_53 ?_
      refine w_iload dX10_seven_54 (List.Mem.tail _ (List.Mem.tail _ (List.Mem.tail _ (List.Mem.tail _ (List.Mem.tail _ (List.Mem.head _)))))) ?_
      refine i_2l dX10_seven_56 rx4 ?_
      obtain ⟨q14, h⟩ := h
      refine j_add dX10_seven_57 ?_
      exact w_weak (l' := [(0, .int (nZ x0)), (1, .int (nZ x1)), (2, .int (nZ x2)), (3, .int (nZ x3)), (4, .int (nZ x4)), (5, .int (nZ x5)), (6, .int (nZ x6)), (7, .long (nJ z10))]) (by intro q hq; simp only [List.mem_cons, List.not_mem_nil, or_false] at hq ⊢; rcases hq with rfl | rfl | rfl | rfl | rfl | rfl | rfl | rfl <;> simp) h
    · replace h := h.2 c9
      refine w_lload dX10_seven_43 (List.Mem.head _) ?_
      refine w_goto (tgt := 58) dX10_seven_45 rfl ?_
      exact w_weak (l' := [(0, .int (nZ x0)), (1, .int (nZ x1)), (2, .int (nZ x2)), (3, .int (nZ x3)), (4, .int (nZ x4)), (5, .int (nZ x5)), (6, .int (nZ x6)), (7, .long (nJ z10))]) (by intro q hq; simp only [List.mem_cons, List.not_mem_nil, or_false] at hq ⊢; rcases hq with rfl | rfl | rfl | rfl | rfl | rfl | rfl | rfl <;> simp) h
  · replace h := h.2 c9
    refine w_lload dX10_seven_22 (List.Mem.head _) ?_
    refine w_goto (tgt := 36) dX10_seven_24 rfl ?_
    refine w_lstore (l' := [(7, .long (nJ z5)), (0, .int (nZ x0)), (1, .int (nZ x1)), (2, .int (nZ x2)), (3, .int (nZ x3)), (4, .int (nZ x4)), (5, .int (nZ x5)), (6, .int (nZ x6))]) dX10_seven_36 (by decide) rfl ?_
    refine w_iload dX10_seven_38 (List.Mem.tail _ (List.Mem.tail _ (List.Mem.tail _ (List.Mem.tail _ (List.Mem.tail _ (List.Mem.head _)))))) ?_
    refine i_if_ne (tgt := 48) dX10_seven_40 rfl rx4 (fun c9 => ?_) (fun c9 => ?_)
    · replace h := h.1 c9
      refine i_ldc2 (x := 27) dX10_seven_48 kl_10_144 (by decide) ?_
      refine w_lload dX10_seven_51 (List.Mem.head _) ?_
      obtain ⟨q15, h⟩ := h
      refine j_mul dX10_seven_53 ?_
      refine w_iload dX10_seven_54 (List.Mem.tail _ (List.Mem.tail _ (List.Mem.tail _ (List.Mem.tail _ (List.Mem.tail _ (List.Mem.head _)))))) ?_
      refine i_2l dX10_seven_56 rx4 ?_
      obtain ⟨q16, h⟩ := h
      refine j_add dX10_seven_57 ?_
      exact w_weak (l' := [(0, .int (nZ x0)), (1, .int (nZ x1)), (2, .int (nZ x2)), (3, .int (nZ x3)), (4, .int (nZ x4)), (5, .int (nZ x5)), (6, .int (nZ x6)), (7, .long (nJ z5))]) (by intro q hq; simp only [List.mem_cons, List.not_mem_nil, or_false] at hq ⊢; rcases hq with rfl | rfl | rfl | rfl | rfl | rfl | rfl | rfl <;> simp) h
    · replace h := h.2 c9
      refine w_lload dX10_seven_43 (List.Mem.head _) ?_
      refine w_goto (tgt := 58) dX10_seven_45 rfl ?_
      exact w_weak (l' := [(0, .int (nZ x0)), (1, .int (nZ x1)), (2, .int (nZ x2)), (3, .int (nZ x3)), (4, .int (nZ x4)), (5, .int (nZ x5)), (6, .int (nZ x6)), (7, .long (nJ z5))]) (by intro q hq; simp only [List.mem_cons, List.not_mem_nil, or_false] at hq ⊢; rcases hq with rfl | rfl | rfl | rfl | rfl | rfl | rfl | rfl <;> simp) h
set_option maxRecDepth 10000 in
theorem v_X10_seven_58 {C : aM → List Value → aH → aO → aH → Prop} {sc : Nat × (Nat → Int32)} {P : aO → aH → Prop} {σ : aH} {u : Nat}  {x0 : Int} {x1 : Int} {x2 : Int} {x3 : Int} {x4 : Int} {x5 : Int} {x6 : Int} {y7 : Int} {s0 : Int} (hG : G σ u) (rx0 : inR x0) (rx1 : inR x1) (rx2 : inR x2) (rx3 : inR x3) (rx4 : inR x4) (rx5 : inR x5) (rx6 : inR x6) (ry7 : inJ y7) (rs0 : inJ s0)
    (h : ((¬ x5 = 0 → (inJ (27 * s0) ∧ (inJ ((27 * s0) + x5) ∧ (∀ z3 : Int, z3 = ((27 * s0) + x5) → ((¬ x6 = 0 → (inJ (27 * z3) ∧ (inJ ((27 * z3) + x6) ∧ P (.inl (some (.long (nJ ((27 * z3) + x6))))) σ))) ∧ (x6 = 0 → P (.inl (some (.long (nJ z3)))) σ)))))) ∧ (x5 = 0 → ((¬ x6 = 0 → (inJ (27 * s0) ∧ (inJ ((27 * s0) + x6) ∧ P (.inl (some (.long (nJ ((27 * s0) + x6))))) σ))) ∧ (x6 = 0 → P (.inl (some (.long (nJ s0)))) σ))))) :
    L_X10_seven_58 C sc P x0 x1 x2 x3 x4 x5 x6 y7 s0 σ := by
  unfold L_X10_seven_58
  refine w_lstore (l' := [(7, .long (nJ s0)), (0, .int (nZ x0)), (1, .int (nZ x1)), (2, .int (nZ x2)), (3, .int (nZ x3)), (4, .int (nZ x4)), (5, .int (nZ x5)), (6, .int (nZ x6))]) dX10_seven_58 (by decide) rfl ?_
  refine w_iload dX10_seven_60 (List.Mem.tail _ (List.Mem.tail _ (List.Mem.tail _ (List.Mem.tail _ (List.Mem.tail _ (List.Mem.tail _ (List.Mem.head _))))))) ?_
  refine i_if_ne (tgt := 70) dX10_seven_62 rfl rx5 (fun c9 => ?_) (fun c9 => ?_)
  · replace h := h.1 c9
    refine i_ldc2 (x := 27) dX10_seven_70 kl_10_144 (by decide) ?_
    refine w_lload dX10_seven_73 (List.Mem.head _) ?_
    obtain ⟨q1, h⟩ := h
    refine j_mul dX10_seven_75 ?_
    refine w_iload dX10_seven_76 (List.Mem.tail _ (List.Mem.tail _ (List.Mem.tail _ (List.Mem.tail _ (List.Mem.tail _ (List.Mem.tail _ (List.Mem.head _))))))) ?_
    refine i_2l dX10_seven_78 rx5 ?_
    obtain ⟨q2, h⟩ := h
    refine j_add dX10_seven_79 ?_
    refine top_j (fun z3 ez4 => ?_)
    have rz5 : inJ z3 := ez4 ▸ q2
    replace h := h z3 ez4
    refine w_lstore (l' := [(7, .long (nJ z3)), (0, .int (nZ x0)), (1, .int (nZ x1)), (2, .int (nZ x2)), (3, .int (nZ x3)), (4, .int (nZ x4)), (5, .int (nZ x5)), (6, .int (nZ x6))]) dX10_seven_80 (by decide) rfl ?_
    refine w_iload dX10_seven_82 (List.Mem.tail _ (List.Mem.tail _ (List.Mem.tail _ (List.Mem.tail _ (List.Mem.tail _ (List.Mem.tail _ (List.Mem.tail _ (List.Mem.head _)))))))) ?_
    refine i_if_ne (tgt := 92) dX10_seven_84 rfl rx6 (fun c9 => ?_) (fun c9 => ?_)
    · replace h := h.1 c9
      refine i_ldc2 (x := 27) dX10_seven_92 kl_10_144 (by decide) ?_
      refine w_lload dX10_seven_95 (List.Mem.head _) ?_
      obtain ⟨q6, h⟩ := h
      refine j_mul dX10_seven_97 ?_
      refine w_iload dX10_seven_98 (List.Mem.tail _ (List.Mem.tail _ (List.Mem.tail _ (List.Mem.tail _ (List.Mem.tail _ (List.Mem.tail _ (List.Mem.tail _ (List.Mem.head _)))))))) ?_
      refine i_2l dX10_seven_100 rx6 ?_
      obtain ⟨q7, h⟩ := h
      refine j_add dX10_seven_101 ?_
      exact w_lret dX10_seven_102 rfl h
    · replace h := h.2 c9
      refine w_lload dX10_seven_87 (List.Mem.head _) ?_
      refine w_goto (tgt := 102) dX10_seven_89 rfl ?_
      exact w_lret dX10_seven_102 rfl h
  · replace h := h.2 c9
    refine w_lload dX10_seven_65 (List.Mem.head _) ?_
    refine w_goto (tgt := 80) dX10_seven_67 rfl ?_
    refine w_lstore (l' := [(7, .long (nJ s0)), (0, .int (nZ x0)), (1, .int (nZ x1)), (2, .int (nZ x2)), (3, .int (nZ x3)), (4, .int (nZ x4)), (5, .int (nZ x5)), (6, .int (nZ x6))]) dX10_seven_80 (by decide) rfl ?_
    refine w_iload dX10_seven_82 (List.Mem.tail _ (List.Mem.tail _ (List.Mem.tail _ (List.Mem.tail _ (List.Mem.tail _ (List.Mem.tail _ (List.Mem.tail _ (List.Mem.head _)))))))) ?_
    refine i_if_ne (tgt := 92) dX10_seven_84 rfl rx6 (fun c9 => ?_) (fun c9 => ?_)
    · replace h := h.1 c9
      refine i_ldc2 (x := 27) dX10_seven_92 kl_10_144 (by decide) ?_
      refine w_lload dX10_seven_95 (List.Mem.head _) ?_
      obtain ⟨q8, h⟩ := h
      refine j_mul dX10_seven_97 ?_
      refine w_iload dX10_seven_98 (List.Mem.tail _ (List.Mem.tail _ (List.Mem.tail _ (List.Mem.tail _ (List.Mem.tail _ (List.Mem.tail _ (List.Mem.tail _ (List.Mem.head _)))))))) ?_
      refine i_2l dX10_seven_100 rx6 ?_
      obtain ⟨q9, h⟩ := h
      refine j_add dX10_seven_101 ?_
      exact w_lret dX10_seven_102 rfl h
    · replace h := h.2 c9
      refine w_lload dX10_seven_87 (List.Mem.head _) ?_
      refine w_goto (tgt := 102) dX10_seven_89 rfl ?_
      exact w_lret dX10_seven_102 rfl h
theorem dX10_isWord_0 : decode cX10_isWord 0 = .ok (.aload_n 0, 1) := by decide +kernel
theorem dX10_isWord_1 : decode cX10_isWord 1 = .ok (.getfield 122, 3) := by decide +kernel
theorem dX10_isWord_4 : decode cX10_isWord 4 = .ok (.ifCond .ne 29, 3) := by decide +kernel
theorem dX10_isWord_7 : decode cX10_isWord 7 = .ok (.aload_n 0, 1) := by decide +kernel
theorem dX10_isWord_8 : decode cX10_isWord 8 = .ok (.invokevirtual 150, 3) := by decide +kernel
theorem dX10_isWord_11 : decode cX10_isWord 11 = .ok (.iload_n 1, 1) := by decide +kernel
theorem dX10_isWord_12 : decode cX10_isWord 12 = .ok (.iload_n 2, 1) := by decide +kernel
theorem dX10_isWord_13 : decode cX10_isWord 13 = .ok (.iload_n 3, 1) := by decide +kernel
theorem dX10_isWord_14 : decode cX10_isWord 14 = .ok (.iload 4, 2) := by decide +kernel
theorem dX10_isWord_16 : decode cX10_isWord 16 = .ok (.iload 5, 2) := by decide +kernel
theorem dX10_isWord_18 : decode cX10_isWord 18 = .ok (.iload 6, 2) := by decide +kernel
theorem dX10_isWord_20 : decode cX10_isWord 20 = .ok (.iload 7, 2) := by decide +kernel
theorem dX10_isWord_22 : decode cX10_isWord 22 = .ok (.invokestatic 154, 3) := by decide +kernel
theorem dX10_isWord_25 : decode cX10_isWord 25 = .ok (.lcmp, 1) := by decide +kernel
theorem dX10_isWord_26 : decode cX10_isWord 26 = .ok (.ifCond .ne 7, 3) := by decide +kernel
theorem dX10_isWord_29 : decode cX10_isWord 29 = .ok (.iconst 1, 1) := by decide +kernel
theorem dX10_isWord_30 : decode cX10_isWord 30 = .ok (.goto 4, 3) := by decide +kernel
theorem dX10_isWord_33 : decode cX10_isWord 33 = .ok (.iconst 0, 1) := by decide +kernel
theorem dX10_isWord_34 : decode cX10_isWord 34 = .ok (.ireturn, 1) := by decide +kernel
set_option maxRecDepth 10000 in
theorem t_X10_isWord {sc : Nat × (Nat → Int32)} {d : Nat} {Q : aO → aH → Prop} {σ : aH} {u : Nat}  {x1 : Int} {x2 : Int} {x3 : Int} {x4 : Int} {x5 : Int} {x6 : Int} {x7 : Int} (hG : G σ u) (rx1 : inR x1) (rx2 : inR x2) (rx3 : inR x3) (rx4 : inR x4) (rx5 : inR x5) (rx6 : inR x6) (rx7 : inR x7)
    (h : ((¬ (rI σ 76 5) = 0 → Q (.inl (some (.int (nZ 0)))) σ) ∧ ((rI σ 76 5) = 0 → (∃ (r5 : Int) (σ1 : aH), Ev sc d mX10_wordHere [.ref 76] σ (.inl (some (.long (nJ r5)))) σ1 ∧ G σ1 u ∧ inJ r5 ∧ (∃ (r10 : Int) (σ6 : aH), Ev sc d mX10_seven [.int (nZ x1), .int (nZ x2), .int (nZ x3), .int (nZ x4), .int (nZ x5), .int (nZ x6), .int (nZ x7)] σ1 (.inl (some (.long (nJ r10)))) σ6 ∧ G σ6 u ∧ inJ r10 ∧ ((¬ (if r10 < r5 then 1 else if r5 = r10 then 0 else (-1)) = 0 → Q (.inl (some (.int (nZ 0)))) σ6) ∧ ((if r10 < r5 then 1 else if r5 = r10 then 0 else (-1)) = 0 → Q (.inl (some (.int (nZ 1)))) σ6))))))) :
    T sc (d + 1) mX10_isWord [.ref 76, .int (nZ x1), .int (nZ x2), .int (nZ x3), .int (nZ x4), .int (nZ x5), .int (nZ x6), .int (nZ x7)] σ Q := by
  refine T.of (c := 10) (code := cX10_isWord) (mL := 8) (rt := (some .boolean)) (ini := false) (l := [(0, .ref 76), (1, .int (nZ x1)), (2, .int (nZ x2)), (3, .int (nZ x3)), (4, .int (nZ x4)), (5, .int (nZ x5)), (6, .int (nZ x6)), (7, .int (nZ x7))]) rfl rfl rfl rfl (by decide) hs_X10_isWord rfl rfl ?_
  refine w_aload_n dX10_isWord_0 rfl (List.Mem.head _) ?_
  refine i_getI (ci := 10) 5 rfl dX10_isWord_1 fl_10_122 (by decide) (gT hG rfl (lt_of rfl)) ?_
  refine i_if_ne (tgt := 33) dX10_isWord_4 rfl (rI_R _ _ _) (fun c9 => ?_) (fun c9 => ?_)
  · replace h := h.1 c9
    refine w_iconst (v := nZ 0) dX10_isWord_33 (by decide) ?_
    exact i_zret dX10_isWord_34 rfl (by decide) h
  · replace h := h.2 c9
    refine w_aload_n dX10_isWord_7 rfl (List.Mem.head _) ?_
    obtain ⟨r5, σ1, hc3, hG2, rr4, h⟩ := h
    refine w_callV dX10_isWord_8 ml_10_150 ⟨ok_X10_wordHere, vi_X10_wordHere⟩ hs_X10_wordHere (As := []) rfl rfl (gT hG rfl (lt_of rfl)) (Nat.le_of_ble_eq_true rfl) hc3 ?_
    show wp (Ev sc d) 10 cX10_isWord 8 (some .boolean) false [] sc Q 11 [(0, .ref 76), (1, .int (nZ x1)), (2, .int (nZ x2)), (3, .int (nZ x3)), (4, .int (nZ x4)), (5, .int (nZ x5)), (6, .int (nZ x6)), (7, .int (nZ x7))] [.long (nJ r5)] σ1
    refine w_iload_n dX10_isWord_11 rfl (List.Mem.tail _ (List.Mem.head _)) ?_
    refine w_iload_n dX10_isWord_12 rfl (List.Mem.tail _ (List.Mem.tail _ (List.Mem.head _))) ?_
    refine w_iload_n dX10_isWord_13 rfl (List.Mem.tail _ (List.Mem.tail _ (List.Mem.tail _ (List.Mem.head _)))) ?_
    refine w_iload dX10_isWord_14 (List.Mem.tail _ (List.Mem.tail _ (List.Mem.tail _ (List.Mem.tail _ (List.Mem.head _))))) ?_
    refine w_iload dX10_isWord_16 (List.Mem.tail _ (List.Mem.tail _ (List.Mem.tail _ (List.Mem.tail _ (List.Mem.tail _ (List.Mem.head _)))))) ?_
    refine w_iload dX10_isWord_18 (List.Mem.tail _ (List.Mem.tail _ (List.Mem.tail _ (List.Mem.tail _ (List.Mem.tail _ (List.Mem.tail _ (List.Mem.head _))))))) ?_
    refine w_iload dX10_isWord_20 (List.Mem.tail _ (List.Mem.tail _ (List.Mem.tail _ (List.Mem.tail _ (List.Mem.tail _ (List.Mem.tail _ (List.Mem.tail _ (List.Mem.head _)))))))) ?_
    obtain ⟨r10, σ6, hc8, hG7, rr9, h⟩ := h
    refine w_callS dX10_isWord_22 ml_10_154 ⟨ok_X10_seven, st_X10_seven⟩ hs_X10_seven (As := [.int (nZ x1), .int (nZ x2), .int (nZ x3), .int (nZ x4), .int (nZ x5), .int (nZ x6), .int (nZ x7)]) rfl rfl (Nat.le_of_ble_eq_true rfl) hc8 ?_
    show wp (Ev sc d) 10 cX10_isWord 8 (some .boolean) false [] sc Q 25 [(0, .ref 76), (1, .int (nZ x1)), (2, .int (nZ x2)), (3, .int (nZ x3)), (4, .int (nZ x4)), (5, .int (nZ x5)), (6, .int (nZ x6)), (7, .int (nZ x7))] [.long (nJ r10), .long (nJ r5)] σ6
    refine j_cmp dX10_isWord_25 rr4 rr9 ?_
    refine i_if_ne (tgt := 33) dX10_isWord_26 rfl (by omega) (fun c9 => ?_) (fun c9 => ?_)
    · replace h := h.1 c9
      refine w_iconst (v := nZ 0) dX10_isWord_33 (by decide) ?_
      exact i_zret dX10_isWord_34 rfl (by decide) h
    · replace h := h.2 c9
      refine w_iconst (v := nZ 1) dX10_isWord_29 (by decide) ?_
      refine w_goto (tgt := 34) dX10_isWord_30 rfl ?_
      exact i_zret dX10_isWord_34 rfl (by decide) h
theorem dX10_kindHere_0 : decode cX10_kindHere 0 = .ok (.aload_n 0, 1) := by decide +kernel
theorem dX10_kindHere_1 : decode cX10_kindHere 1 = .ok (.bipush 6, 2) := by decide +kernel
theorem dX10_kindHere_3 : decode cX10_kindHere 3 = .ok (.bipush 9, 2) := by decide +kernel
theorem dX10_kindHere_5 : decode cX10_kindHere 5 = .ok (.iconst 5, 1) := by decide +kernel
theorem dX10_kindHere_6 : decode cX10_kindHere 6 = .ok (.bipush 12, 2) := by decide +kernel
theorem dX10_kindHere_8 : decode cX10_kindHere 8 = .ok (.iconst 4, 1) := by decide +kernel
theorem dX10_kindHere_9 : decode cX10_kindHere 9 = .ok (.iconst 0, 1) := by decide +kernel
theorem dX10_kindHere_10 : decode cX10_kindHere 10 = .ok (.iconst 0, 1) := by decide +kernel
theorem dX10_kindHere_11 : decode cX10_kindHere 11 = .ok (.invokevirtual 158, 3) := by decide +kernel
theorem dX10_kindHere_14 : decode cX10_kindHere 14 = .ok (.ifCond .eq 5, 3) := by decide +kernel
theorem dX10_kindHere_17 : decode cX10_kindHere 17 = .ok (.iconst 0, 1) := by decide +kernel
theorem dX10_kindHere_18 : decode cX10_kindHere 18 = .ok (.ireturn, 1) := by decide +kernel
theorem dX10_kindHere_19 : decode cX10_kindHere 19 = .ok (.aload_n 0, 1) := by decide +kernel
theorem dX10_kindHere_20 : decode cX10_kindHere 20 = .ok (.bipush 19, 2) := by decide +kernel
theorem dX10_kindHere_22 : decode cX10_kindHere 22 = .ok (.bipush 20, 2) := by decide +kernel
theorem dX10_kindHere_24 : decode cX10_kindHere 24 = .ok (.iconst 1, 1) := by decide +kernel
theorem dX10_kindHere_25 : decode cX10_kindHere 25 = .ok (.bipush 12, 2) := by decide +kernel
theorem dX10_kindHere_27 : decode cX10_kindHere 27 = .ok (.bipush 12, 2) := by decide +kernel
theorem dX10_kindHere_29 : decode cX10_kindHere 29 = .ok (.iconst 0, 1) := by decide +kernel
theorem dX10_kindHere_30 : decode cX10_kindHere 30 = .ok (.iconst 0, 1) := by decide +kernel
theorem dX10_kindHere_31 : decode cX10_kindHere 31 = .ok (.invokevirtual 158, 3) := by decide +kernel
theorem dX10_kindHere_34 : decode cX10_kindHere 34 = .ok (.ifCond .eq 5, 3) := by decide +kernel
theorem dX10_kindHere_37 : decode cX10_kindHere 37 = .ok (.iconst 2, 1) := by decide +kernel
theorem dX10_kindHere_38 : decode cX10_kindHere 38 = .ok (.ireturn, 1) := by decide +kernel
theorem dX10_kindHere_39 : decode cX10_kindHere 39 = .ok (.aload_n 0, 1) := by decide +kernel
theorem dX10_kindHere_40 : decode cX10_kindHere 40 = .ok (.bipush 6, 2) := by decide +kernel
theorem dX10_kindHere_42 : decode cX10_kindHere 42 = .ok (.bipush 15, 2) := by decide +kernel
theorem dX10_kindHere_44 : decode cX10_kindHere 44 = .ok (.bipush 12, 2) := by decide +kernel
theorem dX10_kindHere_46 : decode cX10_kindHere 46 = .ok (.iconst 4, 1) := by decide +kernel
theorem dX10_kindHere_47 : decode cX10_kindHere 47 = .ok (.iconst 0, 1) := by decide +kernel
theorem dX10_kindHere_48 : decode cX10_kindHere 48 = .ok (.iconst 0, 1) := by decide +kernel
theorem dX10_kindHere_49 : decode cX10_kindHere 49 = .ok (.iconst 0, 1) := by decide +kernel
theorem dX10_kindHere_50 : decode cX10_kindHere 50 = .ok (.invokevirtual 158, 3) := by decide +kernel
theorem dX10_kindHere_53 : decode cX10_kindHere 53 = .ok (.ifCond .eq 5, 3) := by decide +kernel
theorem dX10_kindHere_56 : decode cX10_kindHere 56 = .ok (.iconst 3, 1) := by decide +kernel
theorem dX10_kindHere_57 : decode cX10_kindHere 57 = .ok (.ireturn, 1) := by decide +kernel
theorem dX10_kindHere_58 : decode cX10_kindHere 58 = .ok (.aload_n 0, 1) := by decide +kernel
theorem dX10_kindHere_59 : decode cX10_kindHere 59 = .ok (.iconst 4, 1) := by decide +kernel
theorem dX10_kindHere_60 : decode cX10_kindHere 60 = .ok (.bipush 21, 2) := by decide +kernel
theorem dX10_kindHere_62 : decode cX10_kindHere 62 = .ok (.bipush 19, 2) := by decide +kernel
theorem dX10_kindHere_64 : decode cX10_kindHere 64 = .ok (.bipush 11, 2) := by decide +kernel
theorem dX10_kindHere_66 : decode cX10_kindHere 66 = .ok (.iconst 0, 1) := by decide +kernel
theorem dX10_kindHere_67 : decode cX10_kindHere 67 = .ok (.iconst 0, 1) := by decide +kernel
theorem dX10_kindHere_68 : decode cX10_kindHere 68 = .ok (.iconst 0, 1) := by decide +kernel
theorem dX10_kindHere_69 : decode cX10_kindHere 69 = .ok (.invokevirtual 158, 3) := by decide +kernel
theorem dX10_kindHere_72 : decode cX10_kindHere 72 = .ok (.ifCond .eq 5, 3) := by decide +kernel
theorem dX10_kindHere_75 : decode cX10_kindHere 75 = .ok (.iconst 4, 1) := by decide +kernel
theorem dX10_kindHere_76 : decode cX10_kindHere 76 = .ok (.ireturn, 1) := by decide +kernel
theorem dX10_kindHere_77 : decode cX10_kindHere 77 = .ok (.aload_n 0, 1) := by decide +kernel
theorem dX10_kindHere_78 : decode cX10_kindHere 78 = .ok (.iconst 3, 1) := by decide +kernel
theorem dX10_kindHere_79 : decode cX10_kindHere 79 = .ok (.bipush 12, 2) := by decide +kernel
theorem dX10_kindHere_81 : decode cX10_kindHere 81 = .ok (.bipush 15, 2) := by decide +kernel
theorem dX10_kindHere_83 : decode cX10_kindHere 83 = .ok (.bipush 21, 2) := by decide +kernel
theorem dX10_kindHere_85 : decode cX10_kindHere 85 = .ok (.iconst 4, 1) := by decide +kernel
theorem dX10_kindHere_86 : decode cX10_kindHere 86 = .ok (.iconst 0, 1) := by decide +kernel
theorem dX10_kindHere_87 : decode cX10_kindHere 87 = .ok (.iconst 0, 1) := by decide +kernel
theorem dX10_kindHere_88 : decode cX10_kindHere 88 = .ok (.invokevirtual 158, 3) := by decide +kernel
theorem dX10_kindHere_91 : decode cX10_kindHere 91 = .ok (.ifCond .eq 5, 3) := by decide +kernel
theorem dX10_kindHere_94 : decode cX10_kindHere 94 = .ok (.iconst 5, 1) := by decide +kernel
theorem dX10_kindHere_95 : decode cX10_kindHere 95 = .ok (.ireturn, 1) := by decide +kernel
theorem dX10_kindHere_96 : decode cX10_kindHere 96 = .ok (.aload_n 0, 1) := by decide +kernel
theorem dX10_kindHere_97 : decode cX10_kindHere 97 = .ok (.bipush 19, 2) := by decide +kernel
theorem dX10_kindHere_99 : decode cX10_kindHere 99 = .ok (.bipush 21, 2) := by decide +kernel
theorem dX10_kindHere_101 : decode cX10_kindHere 101 = .ok (.bipush 14, 2) := by decide +kernel
theorem dX10_kindHere_103 : decode cX10_kindHere 103 = .ok (.iconst 0, 1) := by decide +kernel
theorem dX10_kindHere_104 : decode cX10_kindHere 104 = .ok (.iconst 0, 1) := by decide +kernel
theorem dX10_kindHere_105 : decode cX10_kindHere 105 = .ok (.iconst 0, 1) := by decide +kernel
theorem dX10_kindHere_106 : decode cX10_kindHere 106 = .ok (.iconst 0, 1) := by decide +kernel
theorem dX10_kindHere_107 : decode cX10_kindHere 107 = .ok (.invokevirtual 158, 3) := by decide +kernel
theorem dX10_kindHere_110 : decode cX10_kindHere 110 = .ok (.ifCond .eq 6, 3) := by decide +kernel
theorem dX10_kindHere_113 : decode cX10_kindHere 113 = .ok (.bipush 6, 2) := by decide +kernel
theorem dX10_kindHere_115 : decode cX10_kindHere 115 = .ok (.ireturn, 1) := by decide +kernel
theorem dX10_kindHere_116 : decode cX10_kindHere 116 = .ok (.aload_n 0, 1) := by decide +kernel
theorem dX10_kindHere_117 : decode cX10_kindHere 117 = .ok (.bipush 18, 2) := by decide +kernel
theorem dX10_kindHere_119 : decode cX10_kindHere 119 = .ok (.iconst 1, 1) := by decide +kernel
theorem dX10_kindHere_120 : decode cX10_kindHere 120 = .ok (.bipush 20, 2) := by decide +kernel
theorem dX10_kindHere_122 : decode cX10_kindHere 122 = .ok (.iconst 5, 1) := by decide +kernel
theorem dX10_kindHere_123 : decode cX10_kindHere 123 = .ok (.iconst 0, 1) := by decide +kernel
theorem dX10_kindHere_124 : decode cX10_kindHere 124 = .ok (.iconst 0, 1) := by decide +kernel
theorem dX10_kindHere_125 : decode cX10_kindHere 125 = .ok (.iconst 0, 1) := by decide +kernel
theorem dX10_kindHere_126 : decode cX10_kindHere 126 = .ok (.invokevirtual 158, 3) := by decide +kernel
theorem dX10_kindHere_129 : decode cX10_kindHere 129 = .ok (.ifCond .eq 6, 3) := by decide +kernel
theorem dX10_kindHere_132 : decode cX10_kindHere 132 = .ok (.bipush 7, 2) := by decide +kernel
theorem dX10_kindHere_134 : decode cX10_kindHere 134 = .ok (.ireturn, 1) := by decide +kernel
theorem dX10_kindHere_135 : decode cX10_kindHere 135 = .ok (.aload_n 0, 1) := by decide +kernel
theorem dX10_kindHere_136 : decode cX10_kindHere 136 = .ok (.iconst 1, 1) := by decide +kernel
theorem dX10_kindHere_137 : decode cX10_kindHere 137 = .ok (.bipush 23, 2) := by decide +kernel
theorem dX10_kindHere_139 : decode cX10_kindHere 139 = .ok (.bipush 14, 2) := by decide +kernel
theorem dX10_kindHere_141 : decode cX10_kindHere 141 = .ok (.bipush 9, 2) := by decide +kernel
theorem dX10_kindHere_143 : decode cX10_kindHere 143 = .ok (.bipush 14, 2) := by decide +kernel
theorem dX10_kindHere_145 : decode cX10_kindHere 145 = .ok (.bipush 7, 2) := by decide +kernel
theorem dX10_kindHere_147 : decode cX10_kindHere 147 = .ok (.iconst 0, 1) := by decide +kernel
theorem dX10_kindHere_148 : decode cX10_kindHere 148 = .ok (.invokevirtual 158, 3) := by decide +kernel
theorem dX10_kindHere_151 : decode cX10_kindHere 151 = .ok (.ifCond .eq 6, 3) := by decide +kernel
theorem dX10_kindHere_154 : decode cX10_kindHere 154 = .ok (.bipush 8, 2) := by decide +kernel
theorem dX10_kindHere_156 : decode cX10_kindHere 156 = .ok (.ireturn, 1) := by decide +kernel
theorem dX10_kindHere_157 : decode cX10_kindHere 157 = .ok (.aload_n 0, 1) := by decide +kernel
theorem dX10_kindHere_158 : decode cX10_kindHere 158 = .ok (.bipush 7, 2) := by decide +kernel
theorem dX10_kindHere_160 : decode cX10_kindHere 160 = .ok (.bipush 18, 2) := by decide +kernel
theorem dX10_kindHere_162 : decode cX10_kindHere 162 = .ok (.bipush 15, 2) := by decide +kernel
theorem dX10_kindHere_164 : decode cX10_kindHere 164 = .ok (.bipush 23, 2) := by decide +kernel
theorem dX10_kindHere_166 : decode cX10_kindHere 166 = .ok (.iconst 0, 1) := by decide +kernel
theorem dX10_kindHere_167 : decode cX10_kindHere 167 = .ok (.iconst 0, 1) := by decide +kernel
theorem dX10_kindHere_168 : decode cX10_kindHere 168 = .ok (.iconst 0, 1) := by decide +kernel
theorem dX10_kindHere_169 : decode cX10_kindHere 169 = .ok (.invokevirtual 158, 3) := by decide +kernel
theorem dX10_kindHere_172 : decode cX10_kindHere 172 = .ok (.ifCond .eq 6, 3) := by decide +kernel
theorem dX10_kindHere_175 : decode cX10_kindHere 175 = .ok (.bipush 9, 2) := by decide +kernel
theorem dX10_kindHere_177 : decode cX10_kindHere 177 = .ok (.ireturn, 1) := by decide +kernel
theorem dX10_kindHere_178 : decode cX10_kindHere 178 = .ok (.aload_n 0, 1) := by decide +kernel
theorem dX10_kindHere_179 : decode cX10_kindHere 179 = .ok (.bipush 12, 2) := by decide +kernel
theorem dX10_kindHere_181 : decode cX10_kindHere 181 = .ok (.iconst 1, 1) := by decide +kernel
theorem dX10_kindHere_182 : decode cX10_kindHere 182 = .ok (.bipush 14, 2) := by decide +kernel
theorem dX10_kindHere_184 : decode cX10_kindHere 184 = .ok (.bipush 20, 2) := by decide +kernel
theorem dX10_kindHere_186 : decode cX10_kindHere 186 = .ok (.iconst 5, 1) := by decide +kernel
theorem dX10_kindHere_187 : decode cX10_kindHere 187 = .ok (.bipush 18, 2) := by decide +kernel
theorem dX10_kindHere_189 : decode cX10_kindHere 189 = .ok (.bipush 14, 2) := by decide +kernel
theorem dX10_kindHere_191 : decode cX10_kindHere 191 = .ok (.invokevirtual 158, 3) := by decide +kernel
theorem dX10_kindHere_194 : decode cX10_kindHere 194 = .ok (.ifCond .eq 8, 3) := by decide +kernel
theorem dX10_kindHere_197 : decode cX10_kindHere 197 = .ok (.bipush 10, 2) := by decide +kernel
theorem dX10_kindHere_199 : decode cX10_kindHere 199 = .ok (.goto 4, 3) := by decide +kernel
theorem dX10_kindHere_202 : decode cX10_kindHere 202 = .ok (.iconst (-1), 1) := by decide +kernel
theorem dX10_kindHere_203 : decode cX10_kindHere 203 = .ok (.ireturn, 1) := by decide +kernel
set_option maxRecDepth 10000 in
theorem t_X10_kindHere {sc : Nat × (Nat → Int32)} {d : Nat} {Q : aO → aH → Prop} {σ : aH} {u : Nat}   (hG : G σ u) 
    (h : (∃ (r5 : Int) (σ1 : aH), Ev sc d mX10_isWord [.ref 76, .int (nZ 6), .int (nZ 9), .int (nZ 5), .int (nZ 12), .int (nZ 4), .int (nZ 0), .int (nZ 0)] σ (.inl (some (.int (nZ r5)))) σ1 ∧ G σ1 u ∧ inR r5 ∧ ((r5 = 0 → (∃ (r10 : Int) (σ6 : aH), Ev sc d mX10_isWord [.ref 76, .int (nZ 19), .int (nZ 20), .int (nZ 1), .int (nZ 12), .int (nZ 12), .int (nZ 0), .int (nZ 0)] σ1 (.inl (some (.int (nZ r10)))) σ6 ∧ G σ6 u ∧ inR r10 ∧ ((r10 = 0 → (∃ (r15 : Int) (σ11 : aH), Ev sc d mX10_isWord [.ref 76, .int (nZ 6), .int (nZ 15), .int (nZ 12), .int (nZ 4), .int (nZ 0), .int (nZ 0), .int (nZ 0)] σ6 (.inl (some (.int (nZ r15)))) σ11 ∧ G σ11 u ∧ inR r15 ∧ ((r15 = 0 → (∃ (r20 : Int) (σ16 : aH), Ev sc d mX10_isWord [.ref 76, .int (nZ 4), .int (nZ 21), .int (nZ 19), .int (nZ 11), .int (nZ 0), .int (nZ 0), .int (nZ 0)] σ11 (.inl (some (.int (nZ r20)))) σ16 ∧ G σ16 u ∧ inR r20 ∧ ((r20 = 0 → (∃ (r25 : Int) (σ21 : aH), Ev sc d mX10_isWord [.ref 76, .int (nZ 3), .int (nZ 12), .int (nZ 15), .int (nZ 21), .int (nZ 4), .int (nZ 0), .int (nZ 0)] σ16 (.inl (some (.int (nZ r25)))) σ21 ∧ G σ21 u ∧ inR r25 ∧ ((r25 = 0 → (∃ (r30 : Int) (σ26 : aH), Ev sc d mX10_isWord [.ref 76, .int (nZ 19), .int (nZ 21), .int (nZ 14), .int (nZ 0), .int (nZ 0), .int (nZ 0), .int (nZ 0)] σ21 (.inl (some (.int (nZ r30)))) σ26 ∧ G σ26 u ∧ inR r30 ∧ ((r30 = 0 → (∃ (r35 : Int) (σ31 : aH), Ev sc d mX10_isWord [.ref 76, .int (nZ 18), .int (nZ 1), .int (nZ 20), .int (nZ 5), .int (nZ 0), .int (nZ 0), .int (nZ 0)] σ26 (.inl (some (.int (nZ r35)))) σ31 ∧ G σ31 u ∧ inR r35 ∧ ((r35 = 0 → (∃ (r40 : Int) (σ36 : aH), Ev sc d mX10_isWord [.ref 76, .int (nZ 1), .int (nZ 23), .int (nZ 14), .int (nZ 9), .int (nZ 14), .int (nZ 7), .int (nZ 0)] σ31 (.inl (some (.int (nZ r40)))) σ36 ∧ G σ36 u ∧ inR r40 ∧ ((r40 = 0 → (∃ (r45 : Int) (σ41 : aH), Ev sc d mX10_isWord [.ref 76, .int (nZ 7), .int (nZ 18), .int (nZ 15), .int (nZ 23), .int (nZ 0), .int (nZ 0), .int (nZ 0)] σ36 (.inl (some (.int (nZ r45)))) σ41 ∧ G σ41 u ∧ inR r45 ∧ ((r45 = 0 → (∃ (r50 : Int) (σ46 : aH), Ev sc d mX10_isWord [.ref 76, .int (nZ 12), .int (nZ 1), .int (nZ 14), .int (nZ 20), .int (nZ 5), .int (nZ 18), .int (nZ 14)] σ41 (.inl (some (.int (nZ r50)))) σ46 ∧ G σ46 u ∧ inR r50 ∧ ((r50 = 0 → Q (.inl (some (.int (nZ (-1))))) σ46) ∧ (¬ (r50 = 0) → Q (.inl (some (.int (nZ 10)))) σ46)))) ∧ (¬ (r45 = 0) → Q (.inl (some (.int (nZ 9)))) σ41)))) ∧ (¬ (r40 = 0) → Q (.inl (some (.int (nZ 8)))) σ36)))) ∧ (¬ (r35 = 0) → Q (.inl (some (.int (nZ 7)))) σ31)))) ∧ (¬ (r30 = 0) → Q (.inl (some (.int (nZ 6)))) σ26)))) ∧ (¬ (r25 = 0) → Q (.inl (some (.int (nZ 5)))) σ21)))) ∧ (¬ (r20 = 0) → Q (.inl (some (.int (nZ 4)))) σ16)))) ∧ (¬ (r15 = 0) → Q (.inl (some (.int (nZ 3)))) σ11)))) ∧ (¬ (r10 = 0) → Q (.inl (some (.int (nZ 2)))) σ6)))) ∧ (¬ (r5 = 0) → Q (.inl (some (.int (nZ 0)))) σ1)))) :
    T sc (d + 1) mX10_kindHere [.ref 76] σ Q := by
  refine T.of (c := 10) (code := cX10_kindHere) (mL := 1) (rt := (some .int)) (ini := false) (l := [(0, .ref 76)]) rfl rfl rfl rfl (by decide) hs_X10_kindHere rfl rfl ?_
  refine w_aload_n dX10_kindHere_0 rfl (List.Mem.head _) ?_
  refine w_bipush (v := nZ 6) dX10_kindHere_1 (by decide) ?_
  refine w_bipush (v := nZ 9) dX10_kindHere_3 (by decide) ?_
  refine w_iconst (v := nZ 5) dX10_kindHere_5 (by decide) ?_
  refine w_bipush (v := nZ 12) dX10_kindHere_6 (by decide) ?_
  refine w_iconst (v := nZ 4) dX10_kindHere_8 (by decide) ?_
  refine w_iconst (v := nZ 0) dX10_kindHere_9 (by decide) ?_
  refine w_iconst (v := nZ 0) dX10_kindHere_10 (by decide) ?_
  obtain ⟨r5, σ1, hc3, hG2, rr4, h⟩ := h
  refine w_callV dX10_kindHere_11 ml_10_158 ⟨ok_X10_isWord, vi_X10_isWord⟩ hs_X10_isWord (As := [.int (nZ 6), .int (nZ 9), .int (nZ 5), .int (nZ 12), .int (nZ 4), .int (nZ 0), .int (nZ 0)]) rfl rfl (gT hG rfl (lt_of rfl)) (Nat.le_of_ble_eq_true rfl) hc3 ?_
  show wp (Ev sc d) 10 cX10_kindHere 1 (some .int) false [] sc Q 14 [(0, .ref 76)] [.int (nZ r5)] σ1
  refine i_if_eq (tgt := 19) dX10_kindHere_14 rfl rr4 (fun c9 => ?_) (fun c9 => ?_)
  · replace h := h.1 c9
    refine w_aload_n dX10_kindHere_19 rfl (List.Mem.head _) ?_
    refine w_bipush (v := nZ 19) dX10_kindHere_20 (by decide) ?_
    refine w_bipush (v := nZ 20) dX10_kindHere_22 (by decide) ?_
    refine w_iconst (v := nZ 1) dX10_kindHere_24 (by decide) ?_
    refine w_bipush (v := nZ 12) dX10_kindHere_25 (by decide) ?_
    refine w_bipush (v := nZ 12) dX10_kindHere_27 (by decide) ?_
    refine w_iconst (v := nZ 0) dX10_kindHere_29 (by decide) ?_
    refine w_iconst (v := nZ 0) dX10_kindHere_30 (by decide) ?_
    obtain ⟨r10, σ6, hc8, hG7, rr9, h⟩ := h
    refine w_callV dX10_kindHere_31 ml_10_158 ⟨ok_X10_isWord, vi_X10_isWord⟩ hs_X10_isWord (As := [.int (nZ 19), .int (nZ 20), .int (nZ 1), .int (nZ 12), .int (nZ 12), .int (nZ 0), .int (nZ 0)]) rfl rfl (gT hG2 rfl (lt_of rfl)) (Nat.le_of_ble_eq_true rfl) hc8 ?_
    show wp (Ev sc d) 10 cX10_kindHere 1 (some .int) false [] sc Q 34 [(0, .ref 76)] [.int (nZ r10)] σ6
    refine i_if_eq (tgt := 39) dX10_kindHere_34 rfl rr9 (fun c9 => ?_) (fun c9 => ?_)
    · replace h := h.1 c9
      refine w_aload_n dX10_kindHere_39 rfl (List.Mem.head _) ?_
      refine w_bipush (v := nZ 6) dX10_kindHere_40 (by decide) ?_
      refine w_bipush (v := nZ 15) dX10_kindHere_42 (by decide) ?_
      refine w_bipush (v := nZ 12) dX10_kindHere_44 (by decide) ?_
      refine w_iconst (v := nZ 4) dX10_kindHere_46 (by decide) ?_
      refine w_iconst (v := nZ 0) dX10_kindHere_47 (by decide) ?_
      refine w_iconst (v := nZ 0) dX10_kindHere_48 (by decide) ?_
      refine w_iconst (v := nZ 0) dX10_kindHere_49 (by decide) ?_
      obtain ⟨r15, σ11, hc13, hG12, rr14, h⟩ := h
      refine w_callV dX10_kindHere_50 ml_10_158 ⟨ok_X10_isWord, vi_X10_isWord⟩ hs_X10_isWord (As := [.int (nZ 6), .int (nZ 15), .int (nZ 12), .int (nZ 4), .int (nZ 0), .int (nZ 0), .int (nZ 0)]) rfl rfl (gT hG7 rfl (lt_of rfl)) (Nat.le_of_ble_eq_true rfl) hc13 ?_
      show wp (Ev sc d) 10 cX10_kindHere 1 (some .int) false [] sc Q 53 [(0, .ref 76)] [.int (nZ r15)] σ11
      refine i_if_eq (tgt := 58) dX10_kindHere_53 rfl rr14 (fun c9 => ?_) (fun c9 => ?_)
      · replace h := h.1 c9
        refine w_aload_n dX10_kindHere_58 rfl (List.Mem.head _) ?_
        refine w_iconst (v := nZ 4) dX10_kindHere_59 (by decide) ?_
        refine w_bipush (v := nZ 21) dX10_kindHere_60 (by decide) ?_
        refine w_bipush (v := nZ 19) dX10_kindHere_62 (by decide) ?_
        refine w_bipush (v := nZ 11) dX10_kindHere_64 (by decide) ?_
        refine w_iconst (v := nZ 0) dX10_kindHere_66 (by decide) ?_
        refine w_iconst (v := nZ 0) dX10_kindHere_67 (by decide) ?_
        refine w_iconst (v := nZ 0) dX10_kindHere_68 (by decide) ?_
        obtain ⟨r20, σ16, hc18, hG17, rr19, h⟩ := h
        refine w_callV dX10_kindHere_69 ml_10_158 ⟨ok_X10_isWord, vi_X10_isWord⟩ hs_X10_isWord (As := [.int (nZ 4), .int (nZ 21), .int (nZ 19), .int (nZ 11), .int (nZ 0), .int (nZ 0), .int (nZ 0)]) rfl rfl (gT hG12 rfl (lt_of rfl)) (Nat.le_of_ble_eq_true rfl) hc18 ?_
        show wp (Ev sc d) 10 cX10_kindHere 1 (some .int) false [] sc Q 72 [(0, .ref 76)] [.int (nZ r20)] σ16
        refine i_if_eq (tgt := 77) dX10_kindHere_72 rfl rr19 (fun c9 => ?_) (fun c9 => ?_)
        · replace h := h.1 c9
          refine w_aload_n dX10_kindHere_77 rfl (List.Mem.head _) ?_
          refine w_iconst (v := nZ 3) dX10_kindHere_78 (by decide) ?_
          refine w_bipush (v := nZ 12) dX10_kindHere_79 (by decide) ?_
          refine w_bipush (v := nZ 15) dX10_kindHere_81 (by decide) ?_
          refine w_bipush (v := nZ 21) dX10_kindHere_83 (by decide) ?_
          refine w_iconst (v := nZ 4) dX10_kindHere_85 (by decide) ?_
          refine w_iconst (v := nZ 0) dX10_kindHere_86 (by decide) ?_
          refine w_iconst (v := nZ 0) dX10_kindHere_87 (by decide) ?_
          obtain ⟨r25, σ21, hc23, hG22, rr24, h⟩ := h
          refine w_callV dX10_kindHere_88 ml_10_158 ⟨ok_X10_isWord, vi_X10_isWord⟩ hs_X10_isWord (As := [.int (nZ 3), .int (nZ 12), .int (nZ 15), .int (nZ 21), .int (nZ 4), .int (nZ 0), .int (nZ 0)]) rfl rfl (gT hG17 rfl (lt_of rfl)) (Nat.le_of_ble_eq_true rfl) hc23 ?_
          show wp (Ev sc d) 10 cX10_kindHere 1 (some .int) false [] sc Q 91 [(0, .ref 76)] [.int (nZ r25)] σ21
          refine i_if_eq (tgt := 96) dX10_kindHere_91 rfl rr24 (fun c9 => ?_) (fun c9 => ?_)
          · replace h := h.1 c9
            refine w_aload_n dX10_kindHere_96 rfl (List.Mem.head _) ?_
            refine w_bipush (v := nZ 19) dX10_kindHere_97 (by decide) ?_
            refine w_bipush (v := nZ 21) dX10_kindHere_99 (by decide) ?_
            refine w_bipush (v := nZ 14) dX10_kindHere_101 (by decide) ?_
            refine w_iconst (v := nZ 0) dX10_kindHere_103 (by decide) ?_
            refine w_iconst (v := nZ 0) dX10_kindHere_104 (by decide) ?_
            refine w_iconst (v := nZ 0) dX10_kindHere_105 (by decide) ?_
            refine w_iconst (v := nZ 0) dX10_kindHere_106 (by decide) ?_
            obtain ⟨r30, σ26, hc28, hG27, rr29, h⟩ := h
            refine w_callV dX10_kindHere_107 ml_10_158 ⟨ok_X10_isWord, vi_X10_isWord⟩ hs_X10_isWord (As := [.int (nZ 19), .int (nZ 21), .int (nZ 14), .int (nZ 0), .int (nZ 0), .int (nZ 0), .int (nZ 0)]) rfl rfl (gT hG22 rfl (lt_of rfl)) (Nat.le_of_ble_eq_true rfl) hc28 ?_
            show wp (Ev sc d) 10 cX10_kindHere 1 (some .int) false [] sc Q 110 [(0, .ref 76)] [.int (nZ r30)] σ26
            refine i_if_eq (tgt := 116) dX10_kindHere_110 rfl rr29 (fun c9 => ?_) (fun c9 => ?_)
            · replace h := h.1 c9
              refine w_aload_n dX10_kindHere_116 rfl (List.Mem.head _) ?_
              refine w_bipush (v := nZ 18) dX10_kindHere_117 (by decide) ?_
              refine w_iconst (v := nZ 1) dX10_kindHere_119 (by decide) ?_
              refine w_bipush (v := nZ 20) dX10_kindHere_120 (by decide) ?_
              refine w_iconst (v := nZ 5) dX10_kindHere_122 (by decide) ?_
              refine w_iconst (v := nZ 0) dX10_kindHere_123 (by decide) ?_
              refine w_iconst (v := nZ 0) dX10_kindHere_124 (by decide) ?_
              refine w_iconst (v := nZ 0) dX10_kindHere_125 (by decide) ?_
              obtain ⟨r35, σ31, hc33, hG32, rr34, h⟩ := h
              refine w_callV dX10_kindHere_126 ml_10_158 ⟨ok_X10_isWord, vi_X10_isWord⟩ hs_X10_isWord (As := [.int (nZ 18), .int (nZ 1), .int (nZ 20), .int (nZ 5), .int (nZ 0), .int (nZ 0), .int (nZ 0)]) rfl rfl (gT hG27 rfl (lt_of rfl)) (Nat.le_of_ble_eq_true rfl) hc33 ?_
              show wp (Ev sc d) 10 cX10_kindHere 1 (some .int) false [] sc Q 129 [(0, .ref 76)] [.int (nZ r35)] σ31
              refine i_if_eq (tgt := 135) dX10_kindHere_129 rfl rr34 (fun c9 => ?_) (fun c9 => ?_)
              · replace h := h.1 c9
                refine w_aload_n dX10_kindHere_135 rfl (List.Mem.head _) ?_
                refine w_iconst (v := nZ 1) dX10_kindHere_136 (by decide) ?_
                refine w_bipush (v := nZ 23) dX10_kindHere_137 (by decide) ?_
                refine w_bipush (v := nZ 14) dX10_kindHere_139 (by decide) ?_
                refine w_bipush (v := nZ 9) dX10_kindHere_141 (by decide) ?_
                refine w_bipush (v := nZ 14) dX10_kindHere_143 (by decide) ?_
                refine w_bipush (v := nZ 7) dX10_kindHere_145 (by decide) ?_
                refine w_iconst (v := nZ 0) dX10_kindHere_147 (by decide) ?_
                obtain ⟨r40, σ36, hc38, hG37, rr39, h⟩ := h
                refine w_callV dX10_kindHere_148 ml_10_158 ⟨ok_X10_isWord, vi_X10_isWord⟩ hs_X10_isWord (As := [.int (nZ 1), .int (nZ 23), .int (nZ 14), .int (nZ 9), .int (nZ 14), .int (nZ 7), .int (nZ 0)]) rfl rfl (gT hG32 rfl (lt_of rfl)) (Nat.le_of_ble_eq_true rfl) hc38 ?_
                show wp (Ev sc d) 10 cX10_kindHere 1 (some .int) false [] sc Q 151 [(0, .ref 76)] [.int (nZ r40)] σ36
                refine i_if_eq (tgt := 157) dX10_kindHere_151 rfl rr39 (fun c9 => ?_) (fun c9 => ?_)
                · replace h := h.1 c9
                  refine w_aload_n dX10_kindHere_157 rfl (List.Mem.head _) ?_
                  refine w_bipush (v := nZ 7) dX10_kindHere_158 (by decide) ?_
                  refine w_bipush (v := nZ 18) dX10_kindHere_160 (by decide) ?_
                  refine w_bipush (v := nZ 15) dX10_kindHere_162 (by decide) ?_
                  refine w_bipush (v := nZ 23) dX10_kindHere_164 (by decide) ?_
                  refine w_iconst (v := nZ 0) dX10_kindHere_166 (by decide) ?_
                  refine w_iconst (v := nZ 0) dX10_kindHere_167 (by decide) ?_
                  refine w_iconst (v := nZ 0) dX10_kindHere_168 (by decide) ?_
                  obtain ⟨r45, σ41, hc43, hG42, rr44, h⟩ := h
                  refine w_callV dX10_kindHere_169 ml_10_158 ⟨ok_X10_isWord, vi_X10_isWord⟩ hs_X10_isWord (As := [.int (nZ 7), .int (nZ 18), .int (nZ 15), .int (nZ 23), .int (nZ 0), .int (nZ 0), .int (nZ 0)]) rfl rfl (gT hG37 rfl (lt_of rfl)) (Nat.le_of_ble_eq_true rfl) hc43 ?_
                  show wp (Ev sc d) 10 cX10_kindHere 1 (some .int) false [] sc Q 172 [(0, .ref 76)] [.int (nZ r45)] σ41
                  refine i_if_eq (tgt := 178) dX10_kindHere_172 rfl rr44 (fun c9 => ?_) (fun c9 => ?_)
                  · replace h := h.1 c9
                    refine w_aload_n dX10_kindHere_178 rfl (List.Mem.head _) ?_
                    refine w_bipush (v := nZ 12) dX10_kindHere_179 (by decide) ?_
                    refine w_iconst (v := nZ 1) dX10_kindHere_181 (by decide) ?_
                    refine w_bipush (v := nZ 14) dX10_kindHere_182 (by decide) ?_
                    refine w_bipush (v := nZ 20) dX10_kindHere_184 (by decide) ?_
                    refine w_iconst (v := nZ 5) dX10_kindHere_186 (by decide) ?_
                    refine w_bipush (v := nZ 18) dX10_kindHere_187 (by decide) ?_
                    refine w_bipush (v := nZ 14) dX10_kindHere_189 (by decide) ?_
                    obtain ⟨r50, σ46, hc48, hG47, rr49, h⟩ := h
                    refine w_callV dX10_kindHere_191 ml_10_158 ⟨ok_X10_isWord, vi_X10_isWord⟩ hs_X10_isWord (As := [.int (nZ 12), .int (nZ 1), .int (nZ 14), .int (nZ 20), .int (nZ 5), .int (nZ 18), .int (nZ 14)]) rfl rfl (gT hG42 rfl (lt_of rfl)) (Nat.le_of_ble_eq_true rfl) hc48 ?_
                    show wp (Ev sc d) 10 cX10_kindHere 1 (some .int) false [] sc Q 194 [(0, .ref 76)] [.int (nZ r50)] σ46
                    refine i_if_eq (tgt := 202) dX10_kindHere_194 rfl rr49 (fun c9 => ?_) (fun c9 => ?_)
                    · replace h := h.1 c9
                      refine w_iconst (v := nZ (-1)) dX10_kindHere_202 (by decide) ?_
                      exact w_iret dX10_kindHere_203 rfl h
                    · replace h := h.2 c9
                      refine w_bipush (v := nZ 10) dX10_kindHere_197 (by decide) ?_
                      refine w_goto (tgt := 203) dX10_kindHere_199 rfl ?_
                      exact w_iret dX10_kindHere_203 rfl h
                  · replace h := h.2 c9
                    refine w_bipush (v := nZ 9) dX10_kindHere_175 (by decide) ?_
                    exact w_iret dX10_kindHere_177 rfl h
                · replace h := h.2 c9
                  refine w_bipush (v := nZ 8) dX10_kindHere_154 (by decide) ?_
                  exact w_iret dX10_kindHere_156 rfl h
              · replace h := h.2 c9
                refine w_bipush (v := nZ 7) dX10_kindHere_132 (by decide) ?_
                exact w_iret dX10_kindHere_134 rfl h
            · replace h := h.2 c9
              refine w_bipush (v := nZ 6) dX10_kindHere_113 (by decide) ?_
              exact w_iret dX10_kindHere_115 rfl h
          · replace h := h.2 c9
            refine w_iconst (v := nZ 5) dX10_kindHere_94 (by decide) ?_
            exact w_iret dX10_kindHere_95 rfl h
        · replace h := h.2 c9
          refine w_iconst (v := nZ 4) dX10_kindHere_75 (by decide) ?_
          exact w_iret dX10_kindHere_76 rfl h
      · replace h := h.2 c9
        refine w_iconst (v := nZ 3) dX10_kindHere_56 (by decide) ?_
        exact w_iret dX10_kindHere_57 rfl h
    · replace h := h.2 c9
      refine w_iconst (v := nZ 2) dX10_kindHere_37 (by decide) ?_
      exact w_iret dX10_kindHere_38 rfl h
  · replace h := h.2 c9
    refine w_iconst (v := nZ 0) dX10_kindHere_17 (by decide) ?_
    exact w_iret dX10_kindHere_18 rfl h
theorem dX10_isFull_0 : decode cX10_isFull 0 = .ok (.iload_n 1, 1) := by decide +kernel
theorem dX10_isFull_1 : decode cX10_isFull 1 = .ok (.iconst 2, 1) := by decide +kernel
theorem dX10_isFull_2 : decode cX10_isFull 2 = .ok (.if_icmp .ne 22, 3) := by decide +kernel
theorem dX10_isFull_5 : decode cX10_isFull 5 = .ok (.aload_n 0, 1) := by decide +kernel
theorem dX10_isFull_6 : decode cX10_isFull 6 = .ok (.getfield 20, 3) := by decide +kernel
theorem dX10_isFull_9 : decode cX10_isFull 9 = .ok (.iconst 2, 1) := by decide +kernel
theorem dX10_isFull_10 : decode cX10_isFull 10 = .ok (.iaload, 1) := by decide +kernel
theorem dX10_isFull_11 : decode cX10_isFull 11 = .ok (.bipush 8, 2) := by decide +kernel
theorem dX10_isFull_13 : decode cX10_isFull 13 = .ok (.if_icmp .ne 7, 3) := by decide +kernel
theorem dX10_isFull_16 : decode cX10_isFull 16 = .ok (.iconst 1, 1) := by decide +kernel
theorem dX10_isFull_17 : decode cX10_isFull 17 = .ok (.goto 50, 3) := by decide +kernel
theorem dX10_isFull_20 : decode cX10_isFull 20 = .ok (.iconst 0, 1) := by decide +kernel
theorem dX10_isFull_21 : decode cX10_isFull 21 = .ok (.goto 46, 3) := by decide +kernel
theorem dX10_isFull_24 : decode cX10_isFull 24 = .ok (.iload_n 1, 1) := by decide +kernel
theorem dX10_isFull_25 : decode cX10_isFull 25 = .ok (.bipush 6, 2) := by decide +kernel
theorem dX10_isFull_27 : decode cX10_isFull 27 = .ok (.if_icmp .ne 20, 3) := by decide +kernel
theorem dX10_isFull_30 : decode cX10_isFull 30 = .ok (.aload_n 0, 1) := by decide +kernel
theorem dX10_isFull_31 : decode cX10_isFull 31 = .ok (.getfield 162, 3) := by decide +kernel
theorem dX10_isFull_34 : decode cX10_isFull 34 = .ok (.bipush 20, 2) := by decide +kernel
theorem dX10_isFull_36 : decode cX10_isFull 36 = .ok (.if_icmp .ne 7, 3) := by decide +kernel
theorem dX10_isFull_39 : decode cX10_isFull 39 = .ok (.iconst 1, 1) := by decide +kernel
theorem dX10_isFull_40 : decode cX10_isFull 40 = .ok (.goto 27, 3) := by decide +kernel
theorem dX10_isFull_43 : decode cX10_isFull 43 = .ok (.iconst 0, 1) := by decide +kernel
theorem dX10_isFull_44 : decode cX10_isFull 44 = .ok (.goto 23, 3) := by decide +kernel
theorem dX10_isFull_47 : decode cX10_isFull 47 = .ok (.iload_n 1, 1) := by decide +kernel
theorem dX10_isFull_48 : decode cX10_isFull 48 = .ok (.bipush 7, 2) := by decide +kernel
theorem dX10_isFull_50 : decode cX10_isFull 50 = .ok (.if_icmp .ne 16, 3) := by decide +kernel
theorem dX10_isFull_53 : decode cX10_isFull 53 = .ok (.aload_n 0, 1) := by decide +kernel
theorem dX10_isFull_54 : decode cX10_isFull 54 = .ok (.getfield 165, 3) := by decide +kernel
theorem dX10_isFull_57 : decode cX10_isFull 57 = .ok (.bipush 20, 2) := by decide +kernel
theorem dX10_isFull_59 : decode cX10_isFull 59 = .ok (.if_icmp .ne 7, 3) := by decide +kernel
theorem dX10_isFull_62 : decode cX10_isFull 62 = .ok (.iconst 1, 1) := by decide +kernel
theorem dX10_isFull_63 : decode cX10_isFull 63 = .ok (.goto 4, 3) := by decide +kernel
theorem dX10_isFull_66 : decode cX10_isFull 66 = .ok (.iconst 0, 1) := by decide +kernel
theorem dX10_isFull_67 : decode cX10_isFull 67 = .ok (.ireturn, 1) := by decide +kernel
set_option maxRecDepth 10000 in
theorem t_X10_isFull {sc : Nat × (Nat → Int32)} {d : Nat} {Q : aO → aH → Prop} {σ : aH} {u : Nat}  {x1 : Int} (hG : G σ u) (rx1 : inR x1)
    (h : ((¬ x1 = 2 → ((¬ x1 = 6 → ((¬ x1 = 7 → Q (.inl (some (.int (nZ 0)))) σ) ∧ (x1 = 7 → ((¬ (rI σ 76 39) = 20 → Q (.inl (some (.int (nZ 0)))) σ) ∧ ((rI σ 76 39) = 20 → Q (.inl (some (.int (nZ 1)))) σ))))) ∧ (x1 = 6 → ((¬ (rI σ 76 38) = 20 → Q (.inl (some (.int (nZ 0)))) σ) ∧ ((rI σ 76 38) = 20 → Q (.inl (some (.int (nZ 1)))) σ))))) ∧ (x1 = 2 → ((¬ (rI σ 79 2) = 8 → Q (.inl (some (.int (nZ 0)))) σ) ∧ ((rI σ 79 2) = 8 → Q (.inl (some (.int (nZ 1)))) σ))))) :
    T sc (d + 1) mX10_isFull [.ref 76, .int (nZ x1)] σ Q := by
  refine T.of (c := 10) (code := cX10_isFull) (mL := 2) (rt := (some .boolean)) (ini := false) (l := [(0, .ref 76), (1, .int (nZ x1))]) rfl rfl rfl rfl (by decide) hs_X10_isFull rfl rfl ?_
  refine w_iload_n dX10_isFull_0 rfl (List.Mem.tail _ (List.Mem.head _)) ?_
  refine w_iconst (v := nZ 2) dX10_isFull_1 (by decide) ?_
  refine i_cmp_ne (tgt := 24) dX10_isFull_2 rfl rx1 (by decide) (fun c9 => ?_) (fun c9 => ?_)
  · replace h := h.1 c9
    refine w_iload_n dX10_isFull_24 rfl (List.Mem.tail _ (List.Mem.head _)) ?_
    refine w_bipush (v := nZ 6) dX10_isFull_25 (by decide) ?_
    refine i_cmp_ne (tgt := 47) dX10_isFull_27 rfl rx1 (by decide) (fun c9 => ?_) (fun c9 => ?_)
    · replace h := h.1 c9
      refine w_iload_n dX10_isFull_47 rfl (List.Mem.tail _ (List.Mem.head _)) ?_
      refine w_bipush (v := nZ 7) dX10_isFull_48 (by decide) ?_
      refine i_cmp_ne (tgt := 66) dX10_isFull_50 rfl rx1 (by decide) (fun c9 => ?_) (fun c9 => ?_)
      · replace h := h.1 c9
        refine w_iconst (v := nZ 0) dX10_isFull_66 (by decide) ?_
        exact i_zret dX10_isFull_67 rfl (by decide) h
      · replace h := h.2 c9
        refine w_aload_n dX10_isFull_53 rfl (List.Mem.head _) ?_
        refine i_getI (ci := 10) 39 rfl dX10_isFull_54 fl_10_165 (by decide) (gT hG rfl (lt_of rfl)) ?_
        refine w_bipush (v := nZ 20) dX10_isFull_57 (by decide) ?_
        refine i_cmp_ne (tgt := 66) dX10_isFull_59 rfl (rI_R _ _ _) (by decide) (fun c9 => ?_) (fun c9 => ?_)
        · replace h := h.1 c9
          refine w_iconst (v := nZ 0) dX10_isFull_66 (by decide) ?_
          exact i_zret dX10_isFull_67 rfl (by decide) h
        · replace h := h.2 c9
          refine w_iconst (v := nZ 1) dX10_isFull_62 (by decide) ?_
          refine w_goto (tgt := 67) dX10_isFull_63 rfl ?_
          exact i_zret dX10_isFull_67 rfl (by decide) h
    · replace h := h.2 c9
      refine w_aload_n dX10_isFull_30 rfl (List.Mem.head _) ?_
      refine i_getI (ci := 10) 38 rfl dX10_isFull_31 fl_10_162 (by decide) (gT hG rfl (lt_of rfl)) ?_
      refine w_bipush (v := nZ 20) dX10_isFull_34 (by decide) ?_
      refine i_cmp_ne (tgt := 43) dX10_isFull_36 rfl (rI_R _ _ _) (by decide) (fun c9 => ?_) (fun c9 => ?_)
      · replace h := h.1 c9
        refine w_iconst (v := nZ 0) dX10_isFull_43 (by decide) ?_
        refine w_goto (tgt := 67) dX10_isFull_44 rfl ?_
        exact i_zret dX10_isFull_67 rfl (by decide) h
      · replace h := h.2 c9
        refine w_iconst (v := nZ 1) dX10_isFull_39 (by decide) ?_
        refine w_goto (tgt := 67) dX10_isFull_40 rfl ?_
        exact i_zret dX10_isFull_67 rfl (by decide) h
  · replace h := h.2 c9
    refine w_aload_n dX10_isFull_5 rfl (List.Mem.head _) ?_
    refine w_getR (ci := 10) (k := 10) (b := 79) dX10_isFull_6 fl_10_20 (by decide) (gT hG rfl (lt_of rfl)) (gR hG (b := 79) rfl) ?_
    refine w_iconst (v := nZ 2) dX10_isFull_9 (by decide) ?_
    refine i_iald (n := 8) dX10_isFull_10 (gT hG rfl (lt_of rfl)) (gL hG rfl) (by decide) (by decide) ?_
    refine w_bipush (v := nZ 8) dX10_isFull_11 (by decide) ?_
    refine i_cmp_ne (tgt := 20) dX10_isFull_13 rfl (rI_R _ _ _) (by decide) (fun c9 => ?_) (fun c9 => ?_)
    · replace h := h.1 c9
      refine w_iconst (v := nZ 0) dX10_isFull_20 (by decide) ?_
      refine w_goto (tgt := 67) dX10_isFull_21 rfl ?_
      exact i_zret dX10_isFull_67 rfl (by decide) h
    · replace h := h.2 c9
      refine w_iconst (v := nZ 1) dX10_isFull_16 (by decide) ?_
      refine w_goto (tgt := 67) dX10_isFull_17 rfl ?_
      exact i_zret dX10_isFull_67 rfl (by decide) h
theorem dX10_clause_0 : decode cX10_clause 0 = .ok (.aload_n 0, 1) := by decide +kernel
theorem dX10_clause_1 : decode cX10_clause 1 = .ok (.invokevirtual 168, 3) := by decide +kernel
theorem dX10_clause_4 : decode cX10_clause 4 = .ok (.istore_n 1, 1) := by decide +kernel
theorem dX10_clause_5 : decode cX10_clause 5 = .ok (.iload_n 1, 1) := by decide +kernel
theorem dX10_clause_6 : decode cX10_clause 6 = .ok (.iconst (-1), 1) := by decide +kernel
theorem dX10_clause_7 : decode cX10_clause 7 = .ok (.if_icmp .ne 15, 3) := by decide +kernel
theorem dX10_clause_10 : decode cX10_clause 10 = .ok (.aload_n 0, 1) := by decide +kernel
theorem dX10_clause_11 : decode cX10_clause 11 = .ok (.iconst 1, 1) := by decide +kernel
theorem dX10_clause_12 : decode cX10_clause 12 = .ok (.aload_n 0, 1) := by decide +kernel
theorem dX10_clause_13 : decode cX10_clause 13 = .ok (.getfield 115, 3) := by decide +kernel
theorem dX10_clause_16 : decode cX10_clause 16 = .ok (.invokevirtual 135, 3) := by decide +kernel
theorem dX10_clause_19 : decode cX10_clause 19 = .ok (.goto 52, 3) := by decide +kernel
theorem dX10_clause_22 : decode cX10_clause 22 = .ok (.aload_n 0, 1) := by decide +kernel
theorem dX10_clause_23 : decode cX10_clause 23 = .ok (.getfield 172, 3) := by decide +kernel
theorem dX10_clause_26 : decode cX10_clause 26 = .ok (.bipush 60, 2) := by decide +kernel
theorem dX10_clause_28 : decode cX10_clause 28 = .ok (.if_icmp .eq 11, 3) := by decide +kernel
theorem dX10_clause_31 : decode cX10_clause 31 = .ok (.aload_n 0, 1) := by decide +kernel
theorem dX10_clause_32 : decode cX10_clause 32 = .ok (.iload_n 1, 1) := by decide +kernel
theorem dX10_clause_33 : decode cX10_clause 33 = .ok (.invokevirtual 175, 3) := by decide +kernel
theorem dX10_clause_36 : decode cX10_clause 36 = .ok (.ifCond .eq 15, 3) := by decide +kernel
theorem dX10_clause_39 : decode cX10_clause 39 = .ok (.aload_n 0, 1) := by decide +kernel
theorem dX10_clause_40 : decode cX10_clause 40 = .ok (.iconst 3, 1) := by decide +kernel
theorem dX10_clause_41 : decode cX10_clause 41 = .ok (.aload_n 0, 1) := by decide +kernel
theorem dX10_clause_42 : decode cX10_clause 42 = .ok (.getfield 115, 3) := by decide +kernel
theorem dX10_clause_45 : decode cX10_clause 45 = .ok (.invokevirtual 135, 3) := by decide +kernel
theorem dX10_clause_48 : decode cX10_clause 48 = .ok (.goto 23, 3) := by decide +kernel
theorem dX10_clause_51 : decode cX10_clause 51 = .ok (.iload_n 1, 1) := by decide +kernel
theorem dX10_clause_52 : decode cX10_clause 52 = .ok (.ifCond .ne 19, 3) := by decide +kernel
theorem dX10_clause_55 : decode cX10_clause 55 = .ok (.aload_n 0, 1) := by decide +kernel
theorem dX10_clause_56 : decode cX10_clause 56 = .ok (.getfield 172, 3) := by decide +kernel
theorem dX10_clause_59 : decode cX10_clause 59 = .ok (.ifCond .le 12, 3) := by decide +kernel
theorem dX10_clause_62 : decode cX10_clause 62 = .ok (.aload_n 0, 1) := by decide +kernel
theorem dX10_clause_63 : decode cX10_clause 63 = .ok (.iconst 4, 1) := by decide +kernel
theorem dX10_clause_64 : decode cX10_clause 64 = .ok (.aload_n 0, 1) := by decide +kernel
theorem dX10_clause_65 : decode cX10_clause 65 = .ok (.getfield 115, 3) := by decide +kernel
theorem dX10_clause_68 : decode cX10_clause 68 = .ok (.invokevirtual 135, 3) := by decide +kernel
theorem dX10_clause_71 : decode cX10_clause 71 = .ok (.aload_n 0, 1) := by decide +kernel
theorem dX10_clause_72 : decode cX10_clause 72 = .ok (.getfield 122, 3) := by decide +kernel
theorem dX10_clause_75 : decode cX10_clause 75 = .ok (.ifCond .eq 4, 3) := by decide +kernel
theorem dX10_clause_78 : decode cX10_clause 78 = .ok (.return_, 1) := by decide +kernel
theorem dX10_clause_79 : decode cX10_clause 79 = .ok (.aload_n 0, 1) := by decide +kernel
theorem dX10_clause_80 : decode cX10_clause 80 = .ok (.aload_n 0, 1) := by decide +kernel
theorem dX10_clause_81 : decode cX10_clause 81 = .ok (.getfield 115, 3) := by decide +kernel
theorem dX10_clause_84 : decode cX10_clause 84 = .ok (.invokevirtual 118, 3) := by decide +kernel
theorem dX10_clause_87 : decode cX10_clause 87 = .ok (.bipush 97, 2) := by decide +kernel
theorem dX10_clause_89 : decode cX10_clause 89 = .ok (.if_icmp .lt 29, 3) := by decide +kernel
theorem dX10_clause_92 : decode cX10_clause 92 = .ok (.aload_n 0, 1) := by decide +kernel
theorem dX10_clause_93 : decode cX10_clause 93 = .ok (.aload_n 0, 1) := by decide +kernel
theorem dX10_clause_94 : decode cX10_clause 94 = .ok (.getfield 115, 3) := by decide +kernel
theorem dX10_clause_97 : decode cX10_clause 97 = .ok (.invokevirtual 118, 3) := by decide +kernel
theorem dX10_clause_100 : decode cX10_clause 100 = .ok (.bipush 122, 2) := by decide +kernel
theorem dX10_clause_102 : decode cX10_clause 102 = .ok (.if_icmp .gt 16, 3) := by decide +kernel
theorem dX10_clause_105 : decode cX10_clause 105 = .ok (.aload_n 0, 1) := by decide +kernel
theorem dX10_clause_106 : decode cX10_clause 106 = .ok (.dup, 1) := by decide +kernel
theorem dX10_clause_107 : decode cX10_clause 107 = .ok (.getfield 115, 3) := by decide +kernel
theorem dX10_clause_110 : decode cX10_clause 110 = .ok (.iconst 1, 1) := by decide +kernel
theorem dX10_clause_111 : decode cX10_clause 111 = .ok (.iadd, 1) := by decide +kernel
theorem dX10_clause_112 : decode cX10_clause 112 = .ok (.putfield 115, 3) := by decide +kernel
theorem dX10_clause_115 : decode cX10_clause 115 = .ok (.goto (-36), 3) := by decide +kernel
theorem dX10_clause_118 : decode cX10_clause 118 = .ok (.aload_n 0, 1) := by decide +kernel
theorem dX10_clause_119 : decode cX10_clause 119 = .ok (.dup, 1) := by decide +kernel
theorem dX10_clause_120 : decode cX10_clause 120 = .ok (.getfield 172, 3) := by decide +kernel
theorem dX10_clause_123 : decode cX10_clause 123 = .ok (.iconst 1, 1) := by decide +kernel
theorem dX10_clause_124 : decode cX10_clause 124 = .ok (.iadd, 1) := by decide +kernel
theorem dX10_clause_125 : decode cX10_clause 125 = .ok (.putfield 172, 3) := by decide +kernel
theorem dX10_clause_128 : decode cX10_clause 128 = .ok (.iload_n 1, 1) := by decide +kernel
theorem dX10_clause_129 : decode cX10_clause 129 = .ok (.tableswitch 141 0 7 #[47, 141, 76, 94, 94, 111, 127, 134], 47) := by decide +kernel
theorem dX10_clause_176 : decode cX10_clause 176 = .ok (.aload_n 0, 1) := by decide +kernel
theorem dX10_clause_177 : decode cX10_clause 177 = .ok (.getfield 20, 3) := by decide +kernel
theorem dX10_clause_180 : decode cX10_clause 180 = .ok (.iconst 0, 1) := by decide +kernel
theorem dX10_clause_181 : decode cX10_clause 181 = .ok (.aload_n 0, 1) := by decide +kernel
theorem dX10_clause_182 : decode cX10_clause 182 = .ok (.iconst 2, 1) := by decide +kernel
theorem dX10_clause_183 : decode cX10_clause 183 = .ok (.bipush 9, 2) := by decide +kernel
theorem dX10_clause_185 : decode cX10_clause 185 = .ok (.invokevirtual 178, 3) := by decide +kernel
theorem dX10_clause_188 : decode cX10_clause 188 = .ok (.iastore, 1) := by decide +kernel
theorem dX10_clause_189 : decode cX10_clause 189 = .ok (.aload_n 0, 1) := by decide +kernel
theorem dX10_clause_190 : decode cX10_clause 190 = .ok (.getfield 20, 3) := by decide +kernel
theorem dX10_clause_193 : decode cX10_clause 193 = .ok (.iconst 1, 1) := by decide +kernel
theorem dX10_clause_194 : decode cX10_clause 194 = .ok (.aload_n 0, 1) := by decide +kernel
theorem dX10_clause_195 : decode cX10_clause 195 = .ok (.iconst 2, 1) := by decide +kernel
theorem dX10_clause_196 : decode cX10_clause 196 = .ok (.bipush 9, 2) := by decide +kernel
theorem dX10_clause_198 : decode cX10_clause 198 = .ok (.invokevirtual 178, 3) := by decide +kernel
theorem dX10_clause_201 : decode cX10_clause 201 = .ok (.iastore, 1) := by decide +kernel
theorem dX10_clause_202 : decode cX10_clause 202 = .ok (.goto 73, 3) := by decide +kernel
theorem dX10_clause_205 : decode cX10_clause 205 = .ok (.aload_n 0, 1) := by decide +kernel
theorem dX10_clause_206 : decode cX10_clause 206 = .ok (.aload_n 0, 1) := by decide +kernel
theorem dX10_clause_207 : decode cX10_clause 207 = .ok (.getfield 28, 3) := by decide +kernel
theorem dX10_clause_210 : decode cX10_clause 210 = .ok (.aload_n 0, 1) := by decide +kernel
theorem dX10_clause_211 : decode cX10_clause 211 = .ok (.getfield 20, 3) := by decide +kernel
theorem dX10_clause_214 : decode cX10_clause 214 = .ok (.iconst 2, 1) := by decide +kernel
theorem dX10_clause_215 : decode cX10_clause 215 = .ok (.iaload, 1) := by decide +kernel
theorem dX10_clause_216 : decode cX10_clause 216 = .ok (.aaload, 1) := by decide +kernel
theorem dX10_clause_217 : decode cX10_clause 217 = .ok (.invokevirtual 182, 3) := by decide +kernel
theorem dX10_clause_220 : decode cX10_clause 220 = .ok (.goto 55, 3) := by decide +kernel
theorem dX10_clause_223 : decode cX10_clause 223 = .ok (.aload_n 0, 1) := by decide +kernel
theorem dX10_clause_224 : decode cX10_clause 224 = .ok (.getfield 20, 3) := by decide +kernel
theorem dX10_clause_227 : decode cX10_clause 227 = .ok (.iload_n 1, 1) := by decide +kernel
theorem dX10_clause_228 : decode cX10_clause 228 = .ok (.aload_n 0, 1) := by decide +kernel
theorem dX10_clause_229 : decode cX10_clause 229 = .ok (.iconst 0, 1) := by decide +kernel
theorem dX10_clause_230 : decode cX10_clause 230 = .ok (.sipush 1440, 3) := by decide +kernel
theorem dX10_clause_233 : decode cX10_clause 233 = .ok (.invokevirtual 178, 3) := by decide +kernel
theorem dX10_clause_236 : decode cX10_clause 236 = .ok (.iastore, 1) := by decide +kernel
theorem dX10_clause_237 : decode cX10_clause 237 = .ok (.goto 38, 3) := by decide +kernel
theorem dX10_clause_240 : decode cX10_clause 240 = .ok (.aload_n 0, 1) := by decide +kernel
theorem dX10_clause_241 : decode cX10_clause 241 = .ok (.getfield 20, 3) := by decide +kernel
theorem dX10_clause_244 : decode cX10_clause 244 = .ok (.iconst 5, 1) := by decide +kernel
theorem dX10_clause_245 : decode cX10_clause 245 = .ok (.aload_n 0, 1) := by decide +kernel
theorem dX10_clause_246 : decode cX10_clause 246 = .ok (.iconst 0, 1) := by decide +kernel
theorem dX10_clause_247 : decode cX10_clause 247 = .ok (.bipush 8, 2) := by decide +kernel
theorem dX10_clause_249 : decode cX10_clause 249 = .ok (.invokevirtual 178, 3) := by decide +kernel
theorem dX10_clause_252 : decode cX10_clause 252 = .ok (.iastore, 1) := by decide +kernel
theorem dX10_clause_253 : decode cX10_clause 253 = .ok (.goto 22, 3) := by decide +kernel
theorem dX10_clause_256 : decode cX10_clause 256 = .ok (.aload_n 0, 1) := by decide +kernel
theorem dX10_clause_257 : decode cX10_clause 257 = .ok (.invokevirtual 186, 3) := by decide +kernel
theorem dX10_clause_260 : decode cX10_clause 260 = .ok (.goto 15, 3) := by decide +kernel
theorem dX10_clause_263 : decode cX10_clause 263 = .ok (.aload_n 0, 1) := by decide +kernel
theorem dX10_clause_264 : decode cX10_clause 264 = .ok (.invokevirtual 189, 3) := by decide +kernel
theorem dX10_clause_267 : decode cX10_clause 267 = .ok (.goto 8, 3) := by decide +kernel
theorem dX10_clause_270 : decode cX10_clause 270 = .ok (.aload_n 0, 1) := by decide +kernel
theorem dX10_clause_271 : decode cX10_clause 271 = .ok (.iload_n 1, 1) := by decide +kernel
theorem dX10_clause_272 : decode cX10_clause 272 = .ok (.invokevirtual 192, 3) := by decide +kernel
theorem dX10_clause_275 : decode cX10_clause 275 = .ok (.aload_n 0, 1) := by decide +kernel
theorem dX10_clause_276 : decode cX10_clause 276 = .ok (.getfield 122, 3) := by decide +kernel
theorem dX10_clause_279 : decode cX10_clause 279 = .ok (.ifCond .eq 4, 3) := by decide +kernel
theorem dX10_clause_282 : decode cX10_clause 282 = .ok (.return_, 1) := by decide +kernel
theorem dX10_clause_283 : decode cX10_clause 283 = .ok (.aload_n 0, 1) := by decide +kernel
theorem dX10_clause_284 : decode cX10_clause 284 = .ok (.invokevirtual 128, 3) := by decide +kernel
theorem dX10_clause_287 : decode cX10_clause 287 = .ok (.aload_n 0, 1) := by decide +kernel
theorem dX10_clause_288 : decode cX10_clause 288 = .ok (.aload_n 0, 1) := by decide +kernel
theorem dX10_clause_289 : decode cX10_clause 289 = .ok (.getfield 115, 3) := by decide +kernel
theorem dX10_clause_292 : decode cX10_clause 292 = .ok (.invokevirtual 118, 3) := by decide +kernel
theorem dX10_clause_295 : decode cX10_clause 295 = .ok (.bipush 59, 2) := by decide +kernel
theorem dX10_clause_297 : decode cX10_clause 297 = .ok (.if_icmp .ne 16, 3) := by decide +kernel
theorem dX10_clause_300 : decode cX10_clause 300 = .ok (.aload_n 0, 1) := by decide +kernel
theorem dX10_clause_301 : decode cX10_clause 301 = .ok (.dup, 1) := by decide +kernel
theorem dX10_clause_302 : decode cX10_clause 302 = .ok (.getfield 115, 3) := by decide +kernel
theorem dX10_clause_305 : decode cX10_clause 305 = .ok (.iconst 1, 1) := by decide +kernel
theorem dX10_clause_306 : decode cX10_clause 306 = .ok (.iadd, 1) := by decide +kernel
theorem dX10_clause_307 : decode cX10_clause 307 = .ok (.putfield 115, 3) := by decide +kernel
theorem dX10_clause_310 : decode cX10_clause 310 = .ok (.goto 12, 3) := by decide +kernel
theorem dX10_clause_313 : decode cX10_clause 313 = .ok (.aload_n 0, 1) := by decide +kernel
theorem dX10_clause_314 : decode cX10_clause 314 = .ok (.iconst 1, 1) := by decide +kernel
theorem dX10_clause_315 : decode cX10_clause 315 = .ok (.aload_n 0, 1) := by decide +kernel
theorem dX10_clause_316 : decode cX10_clause 316 = .ok (.getfield 115, 3) := by decide +kernel
theorem dX10_clause_319 : decode cX10_clause 319 = .ok (.invokevirtual 135, 3) := by decide +kernel
theorem dX10_clause_322 : decode cX10_clause 322 = .ok (.return_, 1) := by decide +kernel
def L_X10_clause_79 (C : aM → List Value → aH → aO → aH → Prop) (sc : Nat × (Nat → Int32)) (P : aO → aH → Prop) (x1 : Int) (σ : aH) : Prop :=
    wp C 10 cX10_clause 2 none false [] sc P 79 [(0, .ref 76), (1, .int (nZ x1))] [] σ
def L_X10_clause_118 (C : aM → List Value → aH → aO → aH → Prop) (sc : Nat × (Nat → Int32)) (P : aO → aH → Prop) (x1 : Int) (σ : aH) : Prop :=
    wp C 10 cX10_clause 2 none false [] sc P 118 [(0, .ref 76), (1, .int (nZ x1))] [] σ
def L_X10_clause_275 (C : aM → List Value → aH → aO → aH → Prop) (sc : Nat × (Nat → Int32)) (P : aO → aH → Prop) (x1 : Int) (σ : aH) : Prop :=
    wp C 10 cX10_clause 2 none false [] sc P 275 [(0, .ref 76), (1, .int (nZ x1))] [] σ
set_option maxRecDepth 10000 in
theorem t_X10_clause {sc : Nat × (Nat → Int32)} {d : Nat} {Q : aO → aH → Prop} {σ : aH} {u : Nat}   (hG : G σ u) 
    (h : (∃ (r5 : Int) (σ1 : aH), Ev sc d mX10_kindHere [.ref 76] σ (.inl (some (.int (nZ r5)))) σ1 ∧ G σ1 u ∧ inR r5 ∧ ((¬ r5 = (-1) → (((rI σ1 76 7) = 60 → (∃ σ6 : aH, Ev sc d mX10_wrong [.ref 76, .int (nZ 3), .int (nZ (rI σ1 76 4))] σ1 (.inl none) σ6 ∧ G σ6 u ∧ (((rI σ6 76 5) = 0 → L_X10_clause_79 (Ev sc d) sc Q r5 σ6) ∧ (¬ ((rI σ6 76 5) = 0) → Q (.inl none) σ6)))) ∧ (¬ ((rI σ1 76 7) = 60) → (∃ (r14 : Int) (σ10 : aH), Ev sc d mX10_isFull [.ref 76, .int (nZ r5)] σ1 (.inl (some (.int (nZ r14)))) σ10 ∧ G σ10 u ∧ inR r14 ∧ ((r14 = 0 → ((¬ r5 = 0 → (((rI σ10 76 5) = 0 → L_X10_clause_79 (Ev sc d) sc Q r5 σ10) ∧ (¬ ((rI σ10 76 5) = 0) → Q (.inl none) σ10))) ∧ (r5 = 0 → (((rI σ10 76 7) ≤ 0 → (((rI σ10 76 5) = 0 → L_X10_clause_79 (Ev sc d) sc Q r5 σ10) ∧ (¬ ((rI σ10 76 5) = 0) → Q (.inl none) σ10))) ∧ (¬ ((rI σ10 76 7) ≤ 0) → (∃ σ15 : aH, Ev sc d mX10_wrong [.ref 76, .int (nZ 4), .int (nZ (rI σ10 76 4))] σ10 (.inl none) σ15 ∧ G σ15 u ∧ (((rI σ15 76 5) = 0 → L_X10_clause_79 (Ev sc d) sc Q r5 σ15) ∧ (¬ ((rI σ15 76 5) = 0) → Q (.inl none) σ15)))))))) ∧ (¬ (r14 = 0) → (∃ σ19 : aH, Ev sc d mX10_wrong [.ref 76, .int (nZ 3), .int (nZ (rI σ10 76 4))] σ10 (.inl none) σ19 ∧ G σ19 u ∧ (((rI σ19 76 5) = 0 → L_X10_clause_79 (Ev sc d) sc Q r5 σ19) ∧ (¬ ((rI σ19 76 5) = 0) → Q (.inl none) σ19))))))))) ∧ (r5 = (-1) → (∃ σ23 : aH, Ev sc d mX10_wrong [.ref 76, .int (nZ 1), .int (nZ (rI σ1 76 4))] σ1 (.inl none) σ23 ∧ G σ23 u ∧ (((rI σ23 76 5) = 0 → L_X10_clause_79 (Ev sc d) sc Q r5 σ23) ∧ (¬ ((rI σ23 76 5) = 0) → Q (.inl none) σ23))))))) :
    T sc (d + 1) mX10_clause [.ref 76] σ Q := by
  refine T.of (c := 10) (code := cX10_clause) (mL := 2) (rt := none) (ini := false) (l := [(0, .ref 76)]) rfl rfl rfl rfl (by decide) hs_X10_clause rfl rfl ?_
  refine w_aload_n dX10_clause_0 rfl (List.Mem.head _) ?_
  obtain ⟨r5, σ1, hc3, hG2, rr4, h⟩ := h
  refine w_callV dX10_clause_1 ml_10_168 ⟨ok_X10_kindHere, vi_X10_kindHere⟩ hs_X10_kindHere (As := []) rfl rfl (gT hG rfl (lt_of rfl)) (Nat.le_of_ble_eq_true rfl) hc3 ?_
  show wp (Ev sc d) 10 cX10_clause 2 none false [] sc Q 4 [(0, .ref 76)] [.int (nZ r5)] σ1
  refine w_istore_n (l' := [(1, .int (nZ r5)), (0, .ref 76)]) dX10_clause_4 rfl (by decide) rfl ?_
  refine w_iload_n dX10_clause_5 rfl (List.Mem.head _) ?_
  refine w_iconst (v := nZ (-1)) dX10_clause_6 (by decide) ?_
  refine i_cmp_ne (tgt := 22) dX10_clause_7 rfl rr4 (by decide) (fun c9 => ?_) (fun c9 => ?_)
  · replace h := h.1 c9
    refine w_aload_n dX10_clause_22 rfl (List.Mem.tail _ (List.Mem.head _)) ?_
    refine i_getI (ci := 10) 7 rfl dX10_clause_23 fl_10_172 (by decide) (gT hG2 rfl (lt_of rfl)) ?_
    refine w_bipush (v := nZ 60) dX10_clause_26 (by decide) ?_
    refine i_cmp_eq (tgt := 39) dX10_clause_28 rfl (rI_R _ _ _) (by decide) (fun c9 => ?_) (fun c9 => ?_)
    · replace h := h.1 c9
      refine w_aload_n dX10_clause_39 rfl (List.Mem.tail _ (List.Mem.head _)) ?_
      refine w_iconst (v := nZ 3) dX10_clause_40 (by decide) ?_
      refine w_aload_n dX10_clause_41 rfl (List.Mem.tail _ (List.Mem.head _)) ?_
      refine i_getI (ci := 10) 4 rfl dX10_clause_42 fl_10_115 (by decide) (gT hG2 rfl (lt_of rfl)) ?_
      obtain ⟨σ6, hc8, hG7, h⟩ := h
      refine w_callV dX10_clause_45 ml_10_135 ⟨ok_X10_wrong, vi_X10_wrong⟩ hs_X10_wrong (As := [.int (nZ 3), .int (nZ (rI σ1 76 4))]) rfl rfl (gT hG2 rfl (lt_of rfl)) (Nat.le_of_ble_eq_true rfl) hc8 ?_
      show wp (Ev sc d) 10 cX10_clause 2 none false [] sc Q 48 [(1, .int (nZ r5)), (0, .ref 76)] [] σ6
      refine w_goto (tgt := 71) dX10_clause_48 rfl ?_
      refine w_aload_n dX10_clause_71 rfl (List.Mem.tail _ (List.Mem.head _)) ?_
      refine i_getI (ci := 10) 5 rfl dX10_clause_72 fl_10_122 (by decide) (gT hG7 rfl (lt_of rfl)) ?_
      refine i_if_eq (tgt := 79) dX10_clause_75 rfl (rI_R _ _ _) (fun c9 => ?_) (fun c9 => ?_)
      · replace h := h.1 c9
        exact w_weak (l' := [(0, .ref 76), (1, .int (nZ r5))]) (by intro q hq; simp only [List.mem_cons, List.not_mem_nil, or_false] at hq ⊢; rcases hq with rfl | rfl <;> simp) h
      · replace h := h.2 c9
        exact w_vret dX10_clause_78 rfl h
    · replace h := h.2 c9
      refine w_aload_n dX10_clause_31 rfl (List.Mem.tail _ (List.Mem.head _)) ?_
      refine w_iload_n dX10_clause_32 rfl (List.Mem.head _) ?_
      obtain ⟨r14, σ10, hc12, hG11, rr13, h⟩ := h
      refine w_callV dX10_clause_33 ml_10_175 ⟨ok_X10_isFull, vi_X10_isFull⟩ hs_X10_isFull (As := [.int (nZ r5)]) rfl rfl (gT hG2 rfl (lt_of rfl)) (Nat.le_of_ble_eq_true rfl) hc12 ?_
      show wp (Ev sc d) 10 cX10_clause 2 none false [] sc Q 36 [(1, .int (nZ r5)), (0, .ref 76)] [.int (nZ r14)] σ10
      refine i_if_eq (tgt := 51) dX10_clause_36 rfl rr13 (fun c9 => ?_) (fun c9 => ?_)
      · replace h := h.1 c9
        refine w_iload_n dX10_clause_51 rfl (List.Mem.head _) ?_
        refine i_if_ne (tgt := 71) dX10_clause_52 rfl rr4 (fun c9 => ?_) (fun c9 => ?_)
        · replace h := h.1 c9
          refine w_aload_n dX10_clause_71 rfl (List.Mem.tail _ (List.Mem.head _)) ?_
          refine i_getI (ci := 10) 5 rfl dX10_clause_72 fl_10_122 (by decide) (gT hG11 rfl (lt_of rfl)) ?_
          refine i_if_eq (tgt := 79) dX10_clause_75 rfl (rI_R _ _ _) (fun c9 => ?_) (fun c9 => ?_)
          · replace h := h.1 c9
            exact w_weak (l' := [(0, .ref 76), (1, .int (nZ r5))]) (by intro q hq; simp only [List.mem_cons, List.not_mem_nil, or_false] at hq ⊢; rcases hq with rfl | rfl <;> simp) h
          · replace h := h.2 c9
            exact w_vret dX10_clause_78 rfl h
        · replace h := h.2 c9
          refine w_aload_n dX10_clause_55 rfl (List.Mem.tail _ (List.Mem.head _)) ?_
          refine i_getI (ci := 10) 7 rfl dX10_clause_56 fl_10_172 (by decide) (gT hG11 rfl (lt_of rfl)) ?_
          refine i_if_le (tgt := 71) dX10_clause_59 rfl (rI_R _ _ _) (fun c9 => ?_) (fun c9 => ?_)
          · replace h := h.1 c9
            refine w_aload_n dX10_clause_71 rfl (List.Mem.tail _ (List.Mem.head _)) ?_
            refine i_getI (ci := 10) 5 rfl dX10_clause_72 fl_10_122 (by decide) (gT hG11 rfl (lt_of rfl)) ?_
            refine i_if_eq (tgt := 79) dX10_clause_75 rfl (rI_R _ _ _) (fun c9 => ?_) (fun c9 => ?_)
            · replace h := h.1 c9
              exact w_weak (l' := [(0, .ref 76), (1, .int (nZ r5))]) (by intro q hq; simp only [List.mem_cons, List.not_mem_nil, or_false] at hq ⊢; rcases hq with rfl | rfl <;> simp) h
            · replace h := h.2 c9
              exact w_vret dX10_clause_78 rfl h
          · replace h := h.2 c9
            refine w_aload_n dX10_clause_62 rfl (List.Mem.tail _ (List.Mem.head _)) ?_
            refine w_iconst (v := nZ 4) dX10_clause_63 (by decide) ?_
            refine w_aload_n dX10_clause_64 rfl (List.Mem.tail _ (List.Mem.head _)) ?_
            refine i_getI (ci := 10) 4 rfl dX10_clause_65 fl_10_115 (by decide) (gT hG11 rfl (lt_of rfl)) ?_
            obtain ⟨σ15, hc17, hG16, h⟩ := h
            refine w_callV dX10_clause_68 ml_10_135 ⟨ok_X10_wrong, vi_X10_wrong⟩ hs_X10_wrong (As := [.int (nZ 4), .int (nZ (rI σ10 76 4))]) rfl rfl (gT hG11 rfl (lt_of rfl)) (Nat.le_of_ble_eq_true rfl) hc17 ?_
            show wp (Ev sc d) 10 cX10_clause 2 none false [] sc Q 71 [(1, .int (nZ r5)), (0, .ref 76)] [] σ15
            refine w_aload_n dX10_clause_71 rfl (List.Mem.tail _ (List.Mem.head _)) ?_
            refine i_getI (ci := 10) 5 rfl dX10_clause_72 fl_10_122 (by decide) (gT hG16 rfl (lt_of rfl)) ?_
            refine i_if_eq (tgt := 79) dX10_clause_75 rfl (rI_R _ _ _) (fun c9 => ?_) (fun c9 => ?_)
            · replace h := h.1 c9
              exact w_weak (l' := [(0, .ref 76), (1, .int (nZ r5))]) (by intro q hq; simp only [List.mem_cons, List.not_mem_nil, or_false] at hq ⊢; rcases hq with rfl | rfl <;> simp) h
            · replace h := h.2 c9
              exact w_vret dX10_clause_78 rfl h
      · replace h := h.2 c9
        refine w_aload_n dX10_clause_39 rfl (List.Mem.tail _ (List.Mem.head _)) ?_
        refine w_iconst (v := nZ 3) dX10_clause_40 (by decide) ?_
        refine w_aload_n dX10_clause_41 rfl (List.Mem.tail _ (List.Mem.head _)) ?_
        refine i_getI (ci := 10) 4 rfl dX10_clause_42 fl_10_115 (by decide) (gT hG11 rfl (lt_of rfl)) ?_
        obtain ⟨σ19, hc21, hG20, h⟩ := h
        refine w_callV dX10_clause_45 ml_10_135 ⟨ok_X10_wrong, vi_X10_wrong⟩ hs_X10_wrong (As := [.int (nZ 3), .int (nZ (rI σ10 76 4))]) rfl rfl (gT hG11 rfl (lt_of rfl)) (Nat.le_of_ble_eq_true rfl) hc21 ?_
        show wp (Ev sc d) 10 cX10_clause 2 none false [] sc Q 48 [(1, .int (nZ r5)), (0, .ref 76)] [] σ19
        refine w_goto (tgt := 71) dX10_clause_48 rfl ?_
        refine w_aload_n dX10_clause_71 rfl (List.Mem.tail _ (List.Mem.head _)) ?_
        refine i_getI (ci := 10) 5 rfl dX10_clause_72 fl_10_122 (by decide) (gT hG20 rfl (lt_of rfl)) ?_
        refine i_if_eq (tgt := 79) dX10_clause_75 rfl (rI_R _ _ _) (fun c9 => ?_) (fun c9 => ?_)
        · replace h := h.1 c9
          exact w_weak (l' := [(0, .ref 76), (1, .int (nZ r5))]) (by intro q hq; simp only [List.mem_cons, List.not_mem_nil, or_false] at hq ⊢; rcases hq with rfl | rfl <;> simp) h
        · replace h := h.2 c9
          exact w_vret dX10_clause_78 rfl h
  · replace h := h.2 c9
    refine w_aload_n dX10_clause_10 rfl (List.Mem.tail _ (List.Mem.head _)) ?_
    refine w_iconst (v := nZ 1) dX10_clause_11 (by decide) ?_
    refine w_aload_n dX10_clause_12 rfl (List.Mem.tail _ (List.Mem.head _)) ?_
    refine i_getI (ci := 10) 4 rfl dX10_clause_13 fl_10_115 (by decide) (gT hG2 rfl (lt_of rfl)) ?_
    obtain ⟨σ23, hc25, hG24, h⟩ := h
    refine w_callV dX10_clause_16 ml_10_135 ⟨ok_X10_wrong, vi_X10_wrong⟩ hs_X10_wrong (As := [.int (nZ 1), .int (nZ (rI σ1 76 4))]) rfl rfl (gT hG2 rfl (lt_of rfl)) (Nat.le_of_ble_eq_true rfl) hc25 ?_
    show wp (Ev sc d) 10 cX10_clause 2 none false [] sc Q 19 [(1, .int (nZ r5)), (0, .ref 76)] [] σ23
    refine w_goto (tgt := 71) dX10_clause_19 rfl ?_
    refine w_aload_n dX10_clause_71 rfl (List.Mem.tail _ (List.Mem.head _)) ?_
    refine i_getI (ci := 10) 5 rfl dX10_clause_72 fl_10_122 (by decide) (gT hG24 rfl (lt_of rfl)) ?_
    refine i_if_eq (tgt := 79) dX10_clause_75 rfl (rI_R _ _ _) (fun c9 => ?_) (fun c9 => ?_)
    · replace h := h.1 c9
      exact w_weak (l' := [(0, .ref 76), (1, .int (nZ r5))]) (by intro q hq; simp only [List.mem_cons, List.not_mem_nil, or_false] at hq ⊢; rcases hq with rfl | rfl <;> simp) h
    · replace h := h.2 c9
      exact w_vret dX10_clause_78 rfl h
set_option maxRecDepth 10000 in
theorem v_X10_clause_79 {C : aM → List Value → aH → aO → aH → Prop} {sc : Nat × (Nat → Int32)} {P : aO → aH → Prop} {σ : aH} {u : Nat}  {x1 : Int} (hG : G σ u) (rx1 : inR x1)
    (h : (∃ (r5 : Int) (σ1 : aH), C mX10_byteAt [.ref 76, .int (nZ (rI σ 76 4))] σ (.inl (some (.int (nZ r5)))) σ1 ∧ G σ1 u ∧ inR r5 ∧ ((r5 < 97 → L_X10_clause_118 C sc P x1 σ1) ∧ (¬ (r5 < 97) → (∃ (r10 : Int) (σ6 : aH), C mX10_byteAt [.ref 76, .int (nZ (rI σ1 76 4))] σ1 (.inl (some (.int (nZ r10)))) σ6 ∧ G σ6 u ∧ inR r10 ∧ ((122 < r10 → L_X10_clause_118 C sc P x1 σ6) ∧ (¬ (122 < r10) → (inR ((rI σ6 76 4) + 1) ∧ (∀ σ12 : aH, wI σ6 76 4 ((rI σ6 76 4) + 1) = σ12 → L_X10_clause_79 C sc P x1 σ12))))))))) :
    L_X10_clause_79 C sc P x1 σ := by
  unfold L_X10_clause_79
  refine w_aload_n dX10_clause_79 rfl (List.Mem.head _) ?_
  refine w_aload_n dX10_clause_80 rfl (List.Mem.head _) ?_
  refine i_getI (ci := 10) 4 rfl dX10_clause_81 fl_10_115 (by decide) (gT hG rfl (lt_of rfl)) ?_
  obtain ⟨r5, σ1, hc3, hG2, rr4, h⟩ := h
  refine w_callV dX10_clause_84 ml_10_118 ⟨ok_X10_byteAt, vi_X10_byteAt⟩ hs_X10_byteAt (As := [.int (nZ (rI σ 76 4))]) rfl rfl (gT hG rfl (lt_of rfl)) (Nat.le_of_ble_eq_true rfl) hc3 ?_
  show wp C 10 cX10_clause 2 none false [] sc P 87 [(0, .ref 76), (1, .int (nZ x1))] [.int (nZ r5)] σ1
  refine w_bipush (v := nZ 97) dX10_clause_87 (by decide) ?_
  refine i_cmp_lt (tgt := 118) dX10_clause_89 rfl rr4 (by decide) (fun c9 => ?_) (fun c9 => ?_)
  · replace h := h.1 c9
    exact h
  · replace h := h.2 c9
    refine w_aload_n dX10_clause_92 rfl (List.Mem.head _) ?_
    refine w_aload_n dX10_clause_93 rfl (List.Mem.head _) ?_
    refine i_getI (ci := 10) 4 rfl dX10_clause_94 fl_10_115 (by decide) (gT hG2 rfl (lt_of rfl)) ?_
    obtain ⟨r10, σ6, hc8, hG7, rr9, h⟩ := h
    refine w_callV dX10_clause_97 ml_10_118 ⟨ok_X10_byteAt, vi_X10_byteAt⟩ hs_X10_byteAt (As := [.int (nZ (rI σ1 76 4))]) rfl rfl (gT hG2 rfl (lt_of rfl)) (Nat.le_of_ble_eq_true rfl) hc8 ?_
    show wp C 10 cX10_clause 2 none false [] sc P 100 [(0, .ref 76), (1, .int (nZ x1))] [.int (nZ r10)] σ6
    refine w_bipush (v := nZ 122) dX10_clause_100 (by decide) ?_
    refine i_cmp_gt (tgt := 118) dX10_clause_102 rfl rr9 (by decide) (fun c9 => ?_) (fun c9 => ?_)
    · replace h := h.1 c9
      exact h
    · replace h := h.2 c9
      refine w_aload_n dX10_clause_105 rfl (List.Mem.head _) ?_
      refine w_dup dX10_clause_106 rfl ?_
      refine i_getI (ci := 10) 4 rfl dX10_clause_107 fl_10_115 (by decide) (gT hG7 rfl (lt_of rfl)) ?_
      refine w_iconst (v := nZ 1) dX10_clause_110 (by decide) ?_
      obtain ⟨q11, h⟩ := h
      refine i_add dX10_clause_111 ?_
      refine i_putI (ci := 10) 4 rfl dX10_clause_112 fl_10_115 (by decide) (gT hG7 rfl (lt_of rfl)) (fun σ12 eσ13 => ?_)
      replace h := h σ12 eσ13
      have hG14 : G σ12 u := eσ13 ▸ G.wI hG7
      refine w_goto (tgt := 79) dX10_clause_115 rfl ?_
      exact h
set_option maxRecDepth 10000 in
theorem v_X10_clause_118 {C : aM → List Value → aH → aO → aH → Prop} {sc : Nat × (Nat → Int32)} {P : aO → aH → Prop} {σ : aH} {u : Nat}  {x1 : Int} (hG : G σ u) (rx1 : inR x1)
    (h : (inR ((rI σ 76 7) + 1) ∧ (∀ σ2 : aH, wI σ 76 7 ((rI σ 76 7) + 1) = σ2 → (((x1 < 0 ∨ 7 < x1) → (∃ σ5 : aH, C mX10_ofStall [.ref 76, .int (nZ x1)] σ2 (.inl none) σ5 ∧ G σ5 u ∧ L_X10_clause_275 C sc P x1 σ5)) ∧ (x1 = 0 → (∃ (r13 : Int) (σ9 : aH), C mX10_number [.ref 76, .int (nZ 2), .int (nZ 9)] σ2 (.inl (some (.int (nZ r13)))) σ9 ∧ G σ9 u ∧ inR r13 ∧ (∀ σ14 : aH, wI σ9 79 0 r13 = σ14 → (∃ (r21 : Int) (σ17 : aH), C mX10_number [.ref 76, .int (nZ 2), .int (nZ 9)] σ14 (.inl (some (.int (nZ r21)))) σ17 ∧ G σ17 u ∧ inR r21 ∧ (∀ σ22 : aH, wI σ17 79 1 r21 = σ22 → L_X10_clause_275 C sc P x1 σ22))))) ∧ (x1 = 1 → (∃ σ25 : aH, C mX10_ofStall [.ref 76, .int (nZ x1)] σ2 (.inl none) σ25 ∧ G σ25 u ∧ L_X10_clause_275 C sc P x1 σ25)) ∧ (x1 = 2 → ((0 ≤ (rI σ2 79 2) ∧ (rI σ2 79 2) < 8) ∧ (∃ σ30 : aH, C mX10_stallHere [.ref 76, .ref (82 + ((rI σ2 79 2).toNat))] σ2 (.inl none) σ30 ∧ G σ30 u ∧ L_X10_clause_275 C sc P x1 σ30))) ∧ (x1 = 3 → (∃ (r38 : Int) (σ34 : aH), C mX10_number [.ref 76, .int (nZ 0), .int (nZ 1440)] σ2 (.inl (some (.int (nZ r38)))) σ34 ∧ G σ34 u ∧ inR r38 ∧ ((0 ≤ x1 ∧ x1 < 8) ∧ (∀ σ39 : aH, wI σ34 79 x1 r38 = σ39 → L_X10_clause_275 C sc P x1 σ39)))) ∧ (x1 = 4 → (∃ (r46 : Int) (σ42 : aH), C mX10_number [.ref 76, .int (nZ 0), .int (nZ 1440)] σ2 (.inl (some (.int (nZ r46)))) σ42 ∧ G σ42 u ∧ inR r46 ∧ ((0 ≤ x1 ∧ x1 < 8) ∧ (∀ σ47 : aH, wI σ42 79 x1 r46 = σ47 → L_X10_clause_275 C sc P x1 σ47)))) ∧ (x1 = 5 → (∃ (r54 : Int) (σ50 : aH), C mX10_number [.ref 76, .int (nZ 0), .int (nZ 8)] σ2 (.inl (some (.int (nZ r54)))) σ50 ∧ G σ50 u ∧ inR r54 ∧ (∀ σ55 : aH, wI σ50 79 5 r54 = σ55 → L_X10_clause_275 C sc P x1 σ55))) ∧ (x1 = 6 → (∃ σ58 : aH, C mX10_sunHere [.ref 76] σ2 (.inl none) σ58 ∧ G σ58 u ∧ L_X10_clause_275 C sc P x1 σ58)) ∧ (x1 = 7 → (∃ σ62 : aH, C mX10_rateHere [.ref 76] σ2 (.inl none) σ62 ∧ G σ62 u ∧ L_X10_clause_275 C sc P x1 σ62)))))) :
    L_X10_clause_118 C sc P x1 σ := by
  unfold L_X10_clause_118
  refine w_aload_n dX10_clause_118 rfl (List.Mem.head _) ?_
  refine w_dup dX10_clause_119 rfl ?_
  refine i_getI (ci := 10) 7 rfl dX10_clause_120 fl_10_172 (by decide) (gT hG rfl (lt_of rfl)) ?_
  refine w_iconst (v := nZ 1) dX10_clause_123 (by decide) ?_
  obtain ⟨q1, h⟩ := h
  refine i_add dX10_clause_124 ?_
  refine i_putI (ci := 10) 7 rfl dX10_clause_125 fl_10_172 (by decide) (gT hG rfl (lt_of rfl)) (fun σ2 eσ3 => ?_)
  replace h := h σ2 eσ3
  have hG4 : G σ2 u := eσ3 ▸ G.wI hG
  refine w_iload_n dX10_clause_128 rfl (List.Mem.tail _ (List.Mem.head _)) ?_
  rcases sw_cases x1 0 7 with hz | hz
  · replace h := h.1 hz
    refine i_tabOut (tgt := 270) dX10_clause_129 rx1 hz rfl ?_
    refine w_aload_n dX10_clause_270 rfl (List.Mem.head _) ?_
    refine w_iload_n dX10_clause_271 rfl (List.Mem.tail _ (List.Mem.head _)) ?_
    obtain ⟨σ5, hc7, hG6, h⟩ := h
    refine w_callV dX10_clause_272 ml_10_192 ⟨ok_X10_ofStall, vi_X10_ofStall⟩ hs_X10_ofStall (As := [.int (nZ x1)]) rfl rfl (gT hG4 rfl (lt_of rfl)) (Nat.le_of_ble_eq_true rfl) hc7 ?_
    show wp C 10 cX10_clause 2 none false [] sc P 275 [(0, .ref 76), (1, .int (nZ x1))] [] σ5
    exact h
  · replace h := h.2
    by_cases hz0 : x1 = 0
    · refine i_tabIn (off := 47) (tgt := 176) 0 hz0 dX10_clause_129 rx1 (by decide) (by decide) rfl rfl ?_
      replace h := h.1 hz0
      refine w_aload_n dX10_clause_176 rfl (List.Mem.head _) ?_
      refine w_getR (ci := 10) (k := 10) (b := 79) dX10_clause_177 fl_10_20 (by decide) (gT hG4 rfl (lt_of rfl)) (gR hG4 (b := 79) rfl) ?_
      refine w_iconst (v := nZ 0) dX10_clause_180 (by decide) ?_
      refine w_aload_n dX10_clause_181 rfl (List.Mem.head _) ?_
      refine w_iconst (v := nZ 2) dX10_clause_182 (by decide) ?_
      refine w_bipush (v := nZ 9) dX10_clause_183 (by decide) ?_
      obtain ⟨r13, σ9, hc11, hG10, rr12, h⟩ := h
      refine w_callV dX10_clause_185 ml_10_178 ⟨ok_X10_number, vi_X10_number⟩ hs_X10_number (As := [.int (nZ 2), .int (nZ 9)]) rfl rfl (gT hG4 rfl (lt_of rfl)) (Nat.le_of_ble_eq_true rfl) hc11 ?_
      show wp C 10 cX10_clause 2 none false [] sc P 188 [(0, .ref 76), (1, .int (nZ x1))] [.int (nZ r13), .int (nZ 0), .ref 79] σ9
      refine i_iast (n := 8) dX10_clause_188 (gT hG10 rfl (lt_of rfl)) (gL hG10 rfl) (by decide) (by decide) (fun σ14 eσ15 => ?_)
      replace h := h σ14 eσ15
      have hG16 : G σ14 u := eσ15 ▸ G.wI hG10
      refine w_aload_n dX10_clause_189 rfl (List.Mem.head _) ?_
      refine w_getR (ci := 10) (k := 10) (b := 79) dX10_clause_190 fl_10_20 (by decide) (gT hG16 rfl (lt_of rfl)) (gR hG16 (b := 79) rfl) ?_
      refine w_iconst (v := nZ 1) dX10_clause_193 (by decide) ?_
      refine w_aload_n dX10_clause_194 rfl (List.Mem.head _) ?_
      refine w_iconst (v := nZ 2) dX10_clause_195 (by decide) ?_
      refine w_bipush (v := nZ 9) dX10_clause_196 (by decide) ?_
      obtain ⟨r21, σ17, hc19, hG18, rr20, h⟩ := h
      refine w_callV dX10_clause_198 ml_10_178 ⟨ok_X10_number, vi_X10_number⟩ hs_X10_number (As := [.int (nZ 2), .int (nZ 9)]) rfl rfl (gT hG16 rfl (lt_of rfl)) (Nat.le_of_ble_eq_true rfl) hc19 ?_
      show wp C 10 cX10_clause 2 none false [] sc P 201 [(0, .ref 76), (1, .int (nZ x1))] [.int (nZ r21), .int (nZ 1), .ref 79] σ17
      refine i_iast (n := 8) dX10_clause_201 (gT hG18 rfl (lt_of rfl)) (gL hG18 rfl) (by decide) (by decide) (fun σ22 eσ23 => ?_)
      replace h := h σ22 eσ23
      have hG24 : G σ22 u := eσ23 ▸ G.wI hG18
      refine w_goto (tgt := 275) dX10_clause_202 rfl ?_
      exact h
    by_cases hz1 : x1 = 1
    · refine i_tabIn (off := 141) (tgt := 270) 1 hz1 dX10_clause_129 rx1 (by decide) (by decide) rfl rfl ?_
      replace h := h.2.1 hz1
      refine w_aload_n dX10_clause_270 rfl (List.Mem.head _) ?_
      refine w_iload_n dX10_clause_271 rfl (List.Mem.tail _ (List.Mem.head _)) ?_
      obtain ⟨σ25, hc27, hG26, h⟩ := h
      refine w_callV dX10_clause_272 ml_10_192 ⟨ok_X10_ofStall, vi_X10_ofStall⟩ hs_X10_ofStall (As := [.int (nZ x1)]) rfl rfl (gT hG4 rfl (lt_of rfl)) (Nat.le_of_ble_eq_true rfl) hc27 ?_
      show wp C 10 cX10_clause 2 none false [] sc P 275 [(0, .ref 76), (1, .int (nZ x1))] [] σ25
      exact h
    by_cases hz2 : x1 = 2
    · refine i_tabIn (off := 76) (tgt := 205) 2 hz2 dX10_clause_129 rx1 (by decide) (by decide) rfl rfl ?_
      replace h := h.2.2.1 hz2
      refine w_aload_n dX10_clause_205 rfl (List.Mem.head _) ?_
      refine w_aload_n dX10_clause_206 rfl (List.Mem.head _) ?_
      refine w_getR (ci := 10) (k := 12) (b := 81) dX10_clause_207 fl_10_28 (by decide) (gT hG4 rfl (lt_of rfl)) (gR hG4 (b := 81) rfl) ?_
      refine w_aload_n dX10_clause_210 rfl (List.Mem.head _) ?_
      refine w_getR (ci := 10) (k := 10) (b := 79) dX10_clause_211 fl_10_20 (by decide) (gT hG4 rfl (lt_of rfl)) (gR hG4 (b := 79) rfl) ?_
      refine w_iconst (v := nZ 2) dX10_clause_214 (by decide) ?_
      refine i_iald (n := 8) dX10_clause_215 (gT hG4 rfl (lt_of rfl)) (gL hG4 rfl) (by decide) (by decide) ?_
      obtain ⟨h9, h⟩ := h
      have hj29 := vin_lt2 (n := 8) h9 rfl
      refine i_aald (n := 8) (b := (82 + ((rI σ2 79 2).toNat))) dX10_clause_216 (gT hG4 rfl (lt_of rfl)) (gL hG4 rfl) (rI_R _ _ _) h9 (gR hG4 (rr_81 hj29)) ?_
      obtain ⟨σ30, hc32, hG31, h⟩ := h
      refine w_callV dX10_clause_217 ml_10_182 ⟨ok_X10_stallHere, vi_X10_stallHere⟩ hs_X10_stallHere (As := [.ref (82 + ((rI σ2 79 2).toNat))]) rfl rfl (gT hG4 rfl (lt_of rfl)) (Nat.le_of_ble_eq_true rfl) hc32 ?_
      show wp C 10 cX10_clause 2 none false [] sc P 220 [(0, .ref 76), (1, .int (nZ x1))] [] σ30
      refine w_goto (tgt := 275) dX10_clause_220 rfl ?_
      exact h
    by_cases hz3 : x1 = 3
    · refine i_tabIn (off := 94) (tgt := 223) 3 hz3 dX10_clause_129 rx1 (by decide) (by decide) rfl rfl ?_
      replace h := h.2.2.2.1 hz3
      refine w_aload_n dX10_clause_223 rfl (List.Mem.head _) ?_
      refine w_getR (ci := 10) (k := 10) (b := 79) dX10_clause_224 fl_10_20 (by decide) (gT hG4 rfl (lt_of rfl)) (gR hG4 (b := 79) rfl) ?_
      refine w_iload_n dX10_clause_227 rfl (List.Mem.tail _ (List.Mem.head _)) ?_
      refine w_aload_n dX10_clause_228 rfl (List.Mem.head _) ?_
      refine w_iconst (v := nZ 0) dX10_clause_229 (by decide) ?_
      refine w_sipush (v := nZ 1440) dX10_clause_230 (by decide) ?_
      obtain ⟨r38, σ34, hc36, hG35, rr37, h⟩ := h
      refine w_callV dX10_clause_233 ml_10_178 ⟨ok_X10_number, vi_X10_number⟩ hs_X10_number (As := [.int (nZ 0), .int (nZ 1440)]) rfl rfl (gT hG4 rfl (lt_of rfl)) (Nat.le_of_ble_eq_true rfl) hc36 ?_
      show wp C 10 cX10_clause 2 none false [] sc P 236 [(0, .ref 76), (1, .int (nZ x1))] [.int (nZ r38), .int (nZ x1), .ref 79] σ34
      obtain ⟨h9, h⟩ := h
      refine i_iast (n := 8) dX10_clause_236 (gT hG35 rfl (lt_of rfl)) (gL hG35 rfl) rx1 h9 (fun σ39 eσ40 => ?_)
      replace h := h σ39 eσ40
      have hG41 : G σ39 u := eσ40 ▸ G.wI hG35
      refine w_goto (tgt := 275) dX10_clause_237 rfl ?_
      exact h
    by_cases hz4 : x1 = 4
    · refine i_tabIn (off := 94) (tgt := 223) 4 hz4 dX10_clause_129 rx1 (by decide) (by decide) rfl rfl ?_
      replace h := h.2.2.2.2.1 hz4
      refine w_aload_n dX10_clause_223 rfl (List.Mem.head _) ?_
      refine w_getR (ci := 10) (k := 10) (b := 79) dX10_clause_224 fl_10_20 (by decide) (gT hG4 rfl (lt_of rfl)) (gR hG4 (b := 79) rfl) ?_
      refine w_iload_n dX10_clause_227 rfl (List.Mem.tail _ (List.Mem.head _)) ?_
      refine w_aload_n dX10_clause_228 rfl (List.Mem.head _) ?_
      refine w_iconst (v := nZ 0) dX10_clause_229 (by decide) ?_
      refine w_sipush (v := nZ 1440) dX10_clause_230 (by decide) ?_
      obtain ⟨r46, σ42, hc44, hG43, rr45, h⟩ := h
      refine w_callV dX10_clause_233 ml_10_178 ⟨ok_X10_number, vi_X10_number⟩ hs_X10_number (As := [.int (nZ 0), .int (nZ 1440)]) rfl rfl (gT hG4 rfl (lt_of rfl)) (Nat.le_of_ble_eq_true rfl) hc44 ?_
      show wp C 10 cX10_clause 2 none false [] sc P 236 [(0, .ref 76), (1, .int (nZ x1))] [.int (nZ r46), .int (nZ x1), .ref 79] σ42
      obtain ⟨h9, h⟩ := h
      refine i_iast (n := 8) dX10_clause_236 (gT hG43 rfl (lt_of rfl)) (gL hG43 rfl) rx1 h9 (fun σ47 eσ48 => ?_)
      replace h := h σ47 eσ48
      have hG49 : G σ47 u := eσ48 ▸ G.wI hG43
      refine w_goto (tgt := 275) dX10_clause_237 rfl ?_
      exact h
    by_cases hz5 : x1 = 5
    · refine i_tabIn (off := 111) (tgt := 240) 5 hz5 dX10_clause_129 rx1 (by decide) (by decide) rfl rfl ?_
      replace h := h.2.2.2.2.2.1 hz5
      refine w_aload_n dX10_clause_240 rfl (List.Mem.head _) ?_
      refine w_getR (ci := 10) (k := 10) (b := 79) dX10_clause_241 fl_10_20 (by decide) (gT hG4 rfl (lt_of rfl)) (gR hG4 (b := 79) rfl) ?_
      refine w_iconst (v := nZ 5) dX10_clause_244 (by decide) ?_
      refine w_aload_n dX10_clause_245 rfl (List.Mem.head _) ?_
      refine w_iconst (v := nZ 0) dX10_clause_246 (by decide) ?_
      refine w_bipush (v := nZ 8) dX10_clause_247 (by decide) ?_
      obtain ⟨r54, σ50, hc52, hG51, rr53, h⟩ := h
      refine w_callV dX10_clause_249 ml_10_178 ⟨ok_X10_number, vi_X10_number⟩ hs_X10_number (As := [.int (nZ 0), .int (nZ 8)]) rfl rfl (gT hG4 rfl (lt_of rfl)) (Nat.le_of_ble_eq_true rfl) hc52 ?_
      show wp C 10 cX10_clause 2 none false [] sc P 252 [(0, .ref 76), (1, .int (nZ x1))] [.int (nZ r54), .int (nZ 5), .ref 79] σ50
      refine i_iast (n := 8) dX10_clause_252 (gT hG51 rfl (lt_of rfl)) (gL hG51 rfl) (by decide) (by decide) (fun σ55 eσ56 => ?_)
      replace h := h σ55 eσ56
      have hG57 : G σ55 u := eσ56 ▸ G.wI hG51
      refine w_goto (tgt := 275) dX10_clause_253 rfl ?_
      exact h
    by_cases hz6 : x1 = 6
    · refine i_tabIn (off := 127) (tgt := 256) 6 hz6 dX10_clause_129 rx1 (by decide) (by decide) rfl rfl ?_
      replace h := h.2.2.2.2.2.2.1 hz6
      refine w_aload_n dX10_clause_256 rfl (List.Mem.head _) ?_
      obtain ⟨σ58, hc60, hG59, h⟩ := h
      refine w_callV dX10_clause_257 ml_10_186 ⟨ok_X10_sunHere, vi_X10_sunHere⟩ hs_X10_sunHere (As := []) rfl rfl (gT hG4 rfl (lt_of rfl)) (Nat.le_of_ble_eq_true rfl) hc60 ?_
      show wp C 10 cX10_clause 2 none false [] sc P 260 [(0, .ref 76), (1, .int (nZ x1))] [] σ58
      refine w_goto (tgt := 275) dX10_clause_260 rfl ?_
      exact h
    have hz7 : x1 = 7 := by omega
    refine i_tabIn (off := 134) (tgt := 263) 7 hz7 dX10_clause_129 rx1 (by decide) (by decide) rfl rfl ?_
    replace h := h.2.2.2.2.2.2.2 hz7
    refine w_aload_n dX10_clause_263 rfl (List.Mem.head _) ?_
    obtain ⟨σ62, hc64, hG63, h⟩ := h
    refine w_callV dX10_clause_264 ml_10_189 ⟨ok_X10_rateHere, vi_X10_rateHere⟩ hs_X10_rateHere (As := []) rfl rfl (gT hG4 rfl (lt_of rfl)) (Nat.le_of_ble_eq_true rfl) hc64 ?_
    show wp C 10 cX10_clause 2 none false [] sc P 267 [(0, .ref 76), (1, .int (nZ x1))] [] σ62
    refine w_goto (tgt := 275) dX10_clause_267 rfl ?_
    exact h
set_option maxRecDepth 10000 in
theorem v_X10_clause_275 {C : aM → List Value → aH → aO → aH → Prop} {sc : Nat × (Nat → Int32)} {P : aO → aH → Prop} {σ : aH} {u : Nat}  {x1 : Int} (hG : G σ u) (rx1 : inR x1)
    (h : (((rI σ 76 5) = 0 → (∃ σ1 : aH, C mX10_blanks [.ref 76] σ (.inl none) σ1 ∧ G σ1 u ∧ (∃ (r9 : Int) (σ5 : aH), C mX10_byteAt [.ref 76, .int (nZ (rI σ1 76 4))] σ1 (.inl (some (.int (nZ r9)))) σ5 ∧ G σ5 u ∧ inR r9 ∧ ((¬ r9 = 59 → (∃ σ10 : aH, C mX10_wrong [.ref 76, .int (nZ 1), .int (nZ (rI σ5 76 4))] σ5 (.inl none) σ10 ∧ G σ10 u ∧ P (.inl none) σ10)) ∧ (r9 = 59 → (inR ((rI σ5 76 4) + 1) ∧ (∀ σ15 : aH, wI σ5 76 4 ((rI σ5 76 4) + 1) = σ15 → P (.inl none) σ15))))))) ∧ (¬ ((rI σ 76 5) = 0) → P (.inl none) σ))) :
    L_X10_clause_275 C sc P x1 σ := by
  unfold L_X10_clause_275
  refine w_aload_n dX10_clause_275 rfl (List.Mem.head _) ?_
  refine i_getI (ci := 10) 5 rfl dX10_clause_276 fl_10_122 (by decide) (gT hG rfl (lt_of rfl)) ?_
  refine i_if_eq (tgt := 283) dX10_clause_279 rfl (rI_R _ _ _) (fun c9 => ?_) (fun c9 => ?_)
  · replace h := h.1 c9
    refine w_aload_n dX10_clause_283 rfl (List.Mem.head _) ?_
    obtain ⟨σ1, hc3, hG2, h⟩ := h
    refine w_callV dX10_clause_284 ml_10_128 ⟨ok_X10_blanks, vi_X10_blanks⟩ hs_X10_blanks (As := []) rfl rfl (gT hG rfl (lt_of rfl)) (Nat.le_of_ble_eq_true rfl) hc3 ?_
    show wp C 10 cX10_clause 2 none false [] sc P 287 [(0, .ref 76), (1, .int (nZ x1))] [] σ1
    refine w_aload_n dX10_clause_287 rfl (List.Mem.head _) ?_
    refine w_aload_n dX10_clause_288 rfl (List.Mem.head _) ?_
    refine i_getI (ci := 10) 4 rfl dX10_clause_289 fl_10_115 (by decide) (gT hG2 rfl (lt_of rfl)) ?_
    obtain ⟨r9, σ5, hc7, hG6, rr8, h⟩ := h
    refine w_callV dX10_clause_292 ml_10_118 ⟨ok_X10_byteAt, vi_X10_byteAt⟩ hs_X10_byteAt (As := [.int (nZ (rI σ1 76 4))]) rfl rfl (gT hG2 rfl (lt_of rfl)) (Nat.le_of_ble_eq_true rfl) hc7 ?_
    show wp C 10 cX10_clause 2 none false [] sc P 295 [(0, .ref 76), (1, .int (nZ x1))] [.int (nZ r9)] σ5
    refine w_bipush (v := nZ 59) dX10_clause_295 (by decide) ?_
    refine i_cmp_ne (tgt := 313) dX10_clause_297 rfl rr8 (by decide) (fun c9 => ?_) (fun c9 => ?_)
    · replace h := h.1 c9
      refine w_aload_n dX10_clause_313 rfl (List.Mem.head _) ?_
      refine w_iconst (v := nZ 1) dX10_clause_314 (by decide) ?_
      refine w_aload_n dX10_clause_315 rfl (List.Mem.head _) ?_
      refine i_getI (ci := 10) 4 rfl dX10_clause_316 fl_10_115 (by decide) (gT hG6 rfl (lt_of rfl)) ?_
      obtain ⟨σ10, hc12, hG11, h⟩ := h
      refine w_callV dX10_clause_319 ml_10_135 ⟨ok_X10_wrong, vi_X10_wrong⟩ hs_X10_wrong (As := [.int (nZ 1), .int (nZ (rI σ5 76 4))]) rfl rfl (gT hG6 rfl (lt_of rfl)) (Nat.le_of_ble_eq_true rfl) hc12 ?_
      show wp C 10 cX10_clause 2 none false [] sc P 322 [(0, .ref 76), (1, .int (nZ x1))] [] σ10
      exact w_vret dX10_clause_322 rfl h
    · replace h := h.2 c9
      refine w_aload_n dX10_clause_300 rfl (List.Mem.head _) ?_
      refine w_dup dX10_clause_301 rfl ?_
      refine i_getI (ci := 10) 4 rfl dX10_clause_302 fl_10_115 (by decide) (gT hG6 rfl (lt_of rfl)) ?_
      refine w_iconst (v := nZ 1) dX10_clause_305 (by decide) ?_
      obtain ⟨q14, h⟩ := h
      refine i_add dX10_clause_306 ?_
      refine i_putI (ci := 10) 4 rfl dX10_clause_307 fl_10_115 (by decide) (gT hG6 rfl (lt_of rfl)) (fun σ15 eσ16 => ?_)
      replace h := h σ15 eσ16
      have hG17 : G σ15 u := eσ16 ▸ G.wI hG6
      refine w_goto (tgt := 322) dX10_clause_310 rfl ?_
      exact w_vret dX10_clause_322 rfl h
  · replace h := h.2 c9
    exact w_vret dX10_clause_282 rfl h
theorem dX10_ofStall_0 : decode cX10_ofStall 0 = .ok (.aload_n 0, 1) := by decide +kernel
theorem dX10_ofStall_1 : decode cX10_ofStall 1 = .ok (.iconst 0, 1) := by decide +kernel
theorem dX10_ofStall_2 : decode cX10_ofStall 2 = .ok (.aload_n 0, 1) := by decide +kernel
theorem dX10_ofStall_3 : decode cX10_ofStall 3 = .ok (.getfield 20, 3) := by decide +kernel
theorem dX10_ofStall_6 : decode cX10_ofStall 6 = .ok (.iconst 2, 1) := by decide +kernel
theorem dX10_ofStall_7 : decode cX10_ofStall 7 = .ok (.iaload, 1) := by decide +kernel
theorem dX10_ofStall_8 : decode cX10_ofStall 8 = .ok (.iconst 1, 1) := by decide +kernel
theorem dX10_ofStall_9 : decode cX10_ofStall 9 = .ok (.isub, 1) := by decide +kernel
theorem dX10_ofStall_10 : decode cX10_ofStall 10 = .ok (.invokevirtual 178, 3) := by decide +kernel
theorem dX10_ofStall_13 : decode cX10_ofStall 13 = .ok (.istore_n 2, 1) := by decide +kernel
theorem dX10_ofStall_14 : decode cX10_ofStall 14 = .ok (.aload_n 0, 1) := by decide +kernel
theorem dX10_ofStall_15 : decode cX10_ofStall 15 = .ok (.getfield 122, 3) := by decide +kernel
theorem dX10_ofStall_18 : decode cX10_ofStall 18 = .ok (.ifCond .eq 4, 3) := by decide +kernel
theorem dX10_ofStall_21 : decode cX10_ofStall 21 = .ok (.return_, 1) := by decide +kernel
theorem dX10_ofStall_22 : decode cX10_ofStall 22 = .ok (.iload_n 1, 1) := by decide +kernel
theorem dX10_ofStall_23 : decode cX10_ofStall 23 = .ok (.bipush 8, 2) := by decide +kernel
theorem dX10_ofStall_25 : decode cX10_ofStall 25 = .ok (.if_icmp .ne 33, 3) := by decide +kernel
theorem dX10_ofStall_28 : decode cX10_ofStall 28 = .ok (.aload_n 0, 1) := by decide +kernel
theorem dX10_ofStall_29 : decode cX10_ofStall 29 = .ok (.iconst 0, 1) := by decide +kernel
theorem dX10_ofStall_30 : decode cX10_ofStall 30 = .ok (.iconst 3, 1) := by decide +kernel
theorem dX10_ofStall_31 : decode cX10_ofStall 31 = .ok (.invokevirtual 178, 3) := by decide +kernel
theorem dX10_ofStall_34 : decode cX10_ofStall 34 = .ok (.istore_n 3, 1) := by decide +kernel
theorem dX10_ofStall_35 : decode cX10_ofStall 35 = .ok (.aload_n 0, 1) := by decide +kernel
theorem dX10_ofStall_36 : decode cX10_ofStall 36 = .ok (.getfield 28, 3) := by decide +kernel
theorem dX10_ofStall_39 : decode cX10_ofStall 39 = .ok (.iload_n 2, 1) := by decide +kernel
theorem dX10_ofStall_40 : decode cX10_ofStall 40 = .ok (.aaload, 1) := by decide +kernel
theorem dX10_ofStall_41 : decode cX10_ofStall 41 = .ok (.iconst 3, 1) := by decide +kernel
theorem dX10_ofStall_42 : decode cX10_ofStall 42 = .ok (.aload_n 0, 1) := by decide +kernel
theorem dX10_ofStall_43 : decode cX10_ofStall 43 = .ok (.getfield 122, 3) := by decide +kernel
theorem dX10_ofStall_46 : decode cX10_ofStall 46 = .ok (.ifCond .ne 7, 3) := by decide +kernel
theorem dX10_ofStall_49 : decode cX10_ofStall 49 = .ok (.iload_n 3, 1) := by decide +kernel
theorem dX10_ofStall_50 : decode cX10_ofStall 50 = .ok (.goto 4, 3) := by decide +kernel
theorem dX10_ofStall_53 : decode cX10_ofStall 53 = .ok (.iconst 0, 1) := by decide +kernel
theorem dX10_ofStall_54 : decode cX10_ofStall 54 = .ok (.iastore, 1) := by decide +kernel
theorem dX10_ofStall_55 : decode cX10_ofStall 55 = .ok (.goto 65, 3) := by decide +kernel
theorem dX10_ofStall_58 : decode cX10_ofStall 58 = .ok (.iload_n 1, 1) := by decide +kernel
theorem dX10_ofStall_59 : decode cX10_ofStall 59 = .ok (.bipush 9, 2) := by decide +kernel
theorem dX10_ofStall_61 : decode cX10_ofStall 61 = .ok (.if_icmp .ne 49, 3) := by decide +kernel
theorem dX10_ofStall_64 : decode cX10_ofStall 64 = .ok (.aload_n 0, 1) := by decide +kernel
theorem dX10_ofStall_65 : decode cX10_ofStall 65 = .ok (.iconst 0, 1) := by decide +kernel
theorem dX10_ofStall_66 : decode cX10_ofStall 66 = .ok (.iconst 5, 1) := by decide +kernel
theorem dX10_ofStall_67 : decode cX10_ofStall 67 = .ok (.invokevirtual 178, 3) := by decide +kernel
theorem dX10_ofStall_70 : decode cX10_ofStall 70 = .ok (.istore_n 3, 1) := by decide +kernel
theorem dX10_ofStall_71 : decode cX10_ofStall 71 = .ok (.aload_n 0, 1) := by decide +kernel
theorem dX10_ofStall_72 : decode cX10_ofStall 72 = .ok (.iconst 0, 1) := by decide +kernel
theorem dX10_ofStall_73 : decode cX10_ofStall 73 = .ok (.bipush 60, 2) := by decide +kernel
theorem dX10_ofStall_75 : decode cX10_ofStall 75 = .ok (.invokevirtual 178, 3) := by decide +kernel
theorem dX10_ofStall_78 : decode cX10_ofStall 78 = .ok (.istore 4, 2) := by decide +kernel
theorem dX10_ofStall_80 : decode cX10_ofStall 80 = .ok (.aload_n 0, 1) := by decide +kernel
theorem dX10_ofStall_81 : decode cX10_ofStall 81 = .ok (.getfield 122, 3) := by decide +kernel
theorem dX10_ofStall_84 : decode cX10_ofStall 84 = .ok (.ifCond .eq 4, 3) := by decide +kernel
theorem dX10_ofStall_87 : decode cX10_ofStall 87 = .ok (.return_, 1) := by decide +kernel
theorem dX10_ofStall_88 : decode cX10_ofStall 88 = .ok (.aload_n 0, 1) := by decide +kernel
theorem dX10_ofStall_89 : decode cX10_ofStall 89 = .ok (.getfield 28, 3) := by decide +kernel
theorem dX10_ofStall_92 : decode cX10_ofStall 92 = .ok (.iload_n 2, 1) := by decide +kernel
theorem dX10_ofStall_93 : decode cX10_ofStall 93 = .ok (.aaload, 1) := by decide +kernel
theorem dX10_ofStall_94 : decode cX10_ofStall 94 = .ok (.iconst 4, 1) := by decide +kernel
theorem dX10_ofStall_95 : decode cX10_ofStall 95 = .ok (.iload_n 3, 1) := by decide +kernel
theorem dX10_ofStall_96 : decode cX10_ofStall 96 = .ok (.iastore, 1) := by decide +kernel
theorem dX10_ofStall_97 : decode cX10_ofStall 97 = .ok (.aload_n 0, 1) := by decide +kernel
theorem dX10_ofStall_98 : decode cX10_ofStall 98 = .ok (.getfield 28, 3) := by decide +kernel
theorem dX10_ofStall_101 : decode cX10_ofStall 101 = .ok (.iload_n 2, 1) := by decide +kernel
theorem dX10_ofStall_102 : decode cX10_ofStall 102 = .ok (.aaload, 1) := by decide +kernel
theorem dX10_ofStall_103 : decode cX10_ofStall 103 = .ok (.iconst 5, 1) := by decide +kernel
theorem dX10_ofStall_104 : decode cX10_ofStall 104 = .ok (.iload 4, 2) := by decide +kernel
theorem dX10_ofStall_106 : decode cX10_ofStall 106 = .ok (.iastore, 1) := by decide +kernel
theorem dX10_ofStall_107 : decode cX10_ofStall 107 = .ok (.goto 13, 3) := by decide +kernel
theorem dX10_ofStall_110 : decode cX10_ofStall 110 = .ok (.aload_n 0, 1) := by decide +kernel
theorem dX10_ofStall_111 : decode cX10_ofStall 111 = .ok (.getfield 28, 3) := by decide +kernel
theorem dX10_ofStall_114 : decode cX10_ofStall 114 = .ok (.iload_n 2, 1) := by decide +kernel
theorem dX10_ofStall_115 : decode cX10_ofStall 115 = .ok (.aaload, 1) := by decide +kernel
theorem dX10_ofStall_116 : decode cX10_ofStall 116 = .ok (.bipush 6, 2) := by decide +kernel
theorem dX10_ofStall_118 : decode cX10_ofStall 118 = .ok (.iconst 1, 1) := by decide +kernel
theorem dX10_ofStall_119 : decode cX10_ofStall 119 = .ok (.iastore, 1) := by decide +kernel
theorem dX10_ofStall_120 : decode cX10_ofStall 120 = .ok (.return_, 1) := by decide +kernel
set_option maxRecDepth 10000 in
theorem t_X10_ofStall {sc : Nat × (Nat → Int32)} {d : Nat} {Q : aO → aH → Prop} {σ : aH} {u : Nat}  {x1 : Int} (hG : G σ u) (rx1 : inR x1)
    (h : (inR ((rI σ 79 2) - 1) ∧ (∃ (r6 : Int) (σ2 : aH), Ev sc d mX10_number [.ref 76, .int (nZ 0), .int (nZ ((rI σ 79 2) - 1))] σ (.inl (some (.int (nZ r6)))) σ2 ∧ G σ2 u ∧ inR r6 ∧ (((rI σ2 76 5) = 0 → ((¬ x1 = 8 → ((¬ x1 = 9 → ((0 ≤ r6 ∧ r6 < 8) ∧ (∀ σ8 : aH, wI σ2 (82 + r6.toNat) 6 1 = σ8 → Q (.inl none) σ8))) ∧ (x1 = 9 → (∃ (r15 : Int) (σ11 : aH), Ev sc d mX10_number [.ref 76, .int (nZ 0), .int (nZ 5)] σ2 (.inl (some (.int (nZ r15)))) σ11 ∧ G σ11 u ∧ inR r15 ∧ (∃ (r20 : Int) (σ16 : aH), Ev sc d mX10_number [.ref 76, .int (nZ 0), .int (nZ 60)] σ11 (.inl (some (.int (nZ r20)))) σ16 ∧ G σ16 u ∧ inR r20 ∧ (((rI σ16 76 5) = 0 → ((0 ≤ r6 ∧ r6 < 8) ∧ (∀ σ22 : aH, wI σ16 (82 + r6.toNat) 4 r15 = σ22 → ((0 ≤ r6 ∧ r6 < 8) ∧ (∀ σ26 : aH, wI σ22 (82 + r6.toNat) 5 r20 = σ26 → Q (.inl none) σ26))))) ∧ (¬ ((rI σ16 76 5) = 0) → Q (.inl none) σ16))))))) ∧ (x1 = 8 → (∃ (r33 : Int) (σ29 : aH), Ev sc d mX10_number [.ref 76, .int (nZ 0), .int (nZ 3)] σ2 (.inl (some (.int (nZ r33)))) σ29 ∧ G σ29 u ∧ inR r33 ∧ ((0 ≤ r6 ∧ r6 < 8) ∧ ((¬ (rI σ29 76 5) = 0 → (∀ σ35 : aH, wI σ29 (82 + r6.toNat) 3 0 = σ35 → Q (.inl none) σ35)) ∧ ((rI σ29 76 5) = 0 → (∀ σ38 : aH, wI σ29 (82 + r6.toNat) 3 r33 = σ38 → Q (.inl none) σ38)))))))) ∧ (¬ ((rI σ2 76 5) = 0) → Q (.inl none) σ2))))) :
    T sc (d + 1) mX10_ofStall [.ref 76, .int (nZ x1)] σ Q := by
  refine T.of (c := 10) (code := cX10_ofStall) (mL := 5) (rt := none) (ini := false) (l := [(0, .ref 76), (1, .int (nZ x1))]) rfl rfl rfl rfl (by decide) hs_X10_ofStall rfl rfl ?_
  refine w_aload_n dX10_ofStall_0 rfl (List.Mem.head _) ?_
  refine w_iconst (v := nZ 0) dX10_ofStall_1 (by decide) ?_
  refine w_aload_n dX10_ofStall_2 rfl (List.Mem.head _) ?_
  refine w_getR (ci := 10) (k := 10) (b := 79) dX10_ofStall_3 fl_10_20 (by decide) (gT hG rfl (lt_of rfl)) (gR hG (b := 79) rfl) ?_
  refine w_iconst (v := nZ 2) dX10_ofStall_6 (by decide) ?_
  refine i_iald (n := 8) dX10_ofStall_7 (gT hG rfl (lt_of rfl)) (gL hG rfl) (by decide) (by decide) ?_
  refine w_iconst (v := nZ 1) dX10_ofStall_8 (by decide) ?_
  obtain ⟨q1, h⟩ := h
  refine i_sub dX10_ofStall_9 ?_
  obtain ⟨r6, σ2, hc4, hG3, rr5, h⟩ := h
  refine w_callV dX10_ofStall_10 ml_10_178 ⟨ok_X10_number, vi_X10_number⟩ hs_X10_number (As := [.int (nZ 0), .int (nZ ((rI σ 79 2) - 1))]) rfl rfl (gT hG rfl (lt_of rfl)) (Nat.le_of_ble_eq_true rfl) hc4 ?_
  show wp (Ev sc d) 10 cX10_ofStall 5 none false [] sc Q 13 [(0, .ref 76), (1, .int (nZ x1))] [.int (nZ r6)] σ2
  refine w_istore_n (l' := [(2, .int (nZ r6)), (0, .ref 76), (1, .int (nZ x1))]) dX10_ofStall_13 rfl (by decide) rfl ?_
  refine w_aload_n dX10_ofStall_14 rfl (List.Mem.tail _ (List.Mem.head _)) ?_
  refine i_getI (ci := 10) 5 rfl dX10_ofStall_15 fl_10_122 (by decide) (gT hG3 rfl (lt_of rfl)) ?_
  refine i_if_eq (tgt := 22) dX10_ofStall_18 rfl (rI_R _ _ _) (fun c9 => ?_) (fun c9 => ?_)
  · replace h := h.1 c9
    refine w_iload_n dX10_ofStall_22 rfl (List.Mem.tail _ (List.Mem.tail _ (List.Mem.head _))) ?_
    refine w_bipush (v := nZ 8) dX10_ofStall_23 (by decide) ?_
    refine i_cmp_ne (tgt := 58) dX10_ofStall_25 rfl rx1 (by decide) (fun c9 => ?_) (fun c9 => ?_)
    · replace h := h.1 c9
      refine w_iload_n dX10_ofStall_58 rfl (List.Mem.tail _ (List.Mem.tail _ (List.Mem.head _))) ?_
      refine w_bipush (v := nZ 9) dX10_ofStall_59 (by decide) ?_
      refine i_cmp_ne (tgt := 110) dX10_ofStall_61 rfl rx1 (by decide) (fun c9 => ?_) (fun c9 => ?_)
      · replace h := h.1 c9
        refine w_aload_n dX10_ofStall_110 rfl (List.Mem.tail _ (List.Mem.head _)) ?_
        refine w_getR (ci := 10) (k := 12) (b := 81) dX10_ofStall_111 fl_10_28 (by decide) (gT hG3 rfl (lt_of rfl)) (gR hG3 (b := 81) rfl) ?_
        refine w_iload_n dX10_ofStall_114 rfl (List.Mem.head _) ?_
        obtain ⟨h9, h⟩ := h
        have hj7 := vin_lt2 (n := 8) h9 rfl
        refine i_aald (n := 8) (b := (82 + r6.toNat)) dX10_ofStall_115 (gT hG3 rfl (lt_of rfl)) (gL hG3 rfl) rr5 h9 (gR hG3 (rr_81 hj7)) ?_
        refine w_bipush (v := nZ 6) dX10_ofStall_116 (by decide) ?_
        refine w_iconst (v := nZ 1) dX10_ofStall_118 (by decide) ?_
        refine i_iast (n := 7) dX10_ofStall_119 (gT hG3 (ro_81 _ hj7).1 (by have := hj7; omega)) (gL hG3 (ro_81 _ hj7).2) (by decide) (by decide) (fun σ8 eσ9 => ?_)
        replace h := h σ8 eσ9
        have hG10 : G σ8 u := eσ9 ▸ G.wI hG3
        exact w_vret dX10_ofStall_120 rfl h
      · replace h := h.2 c9
        refine w_aload_n dX10_ofStall_64 rfl (List.Mem.tail _ (List.Mem.head _)) ?_
        refine w_iconst (v := nZ 0) dX10_ofStall_65 (by decide) ?_
        refine w_iconst (v := nZ 5) dX10_ofStall_66 (by decide) ?_
        obtain ⟨r15, σ11, hc13, hG12, rr14, h⟩ := h
        refine w_callV dX10_ofStall_67 ml_10_178 ⟨ok_X10_number, vi_X10_number⟩ hs_X10_number (As := [.int (nZ 0), .int (nZ 5)]) rfl rfl (gT hG3 rfl (lt_of rfl)) (Nat.le_of_ble_eq_true rfl) hc13 ?_
        show wp (Ev sc d) 10 cX10_ofStall 5 none false [] sc Q 70 [(2, .int (nZ r6)), (0, .ref 76), (1, .int (nZ x1))] [.int (nZ r15)] σ11
        refine w_istore_n (l' := [(3, .int (nZ r15)), (2, .int (nZ r6)), (0, .ref 76), (1, .int (nZ x1))]) dX10_ofStall_70 rfl (by decide) rfl ?_
        refine w_aload_n dX10_ofStall_71 rfl (List.Mem.tail _ (List.Mem.tail _ (List.Mem.head _))) ?_
        refine w_iconst (v := nZ 0) dX10_ofStall_72 (by decide) ?_
        refine w_bipush (v := nZ 60) dX10_ofStall_73 (by decide) ?_
        obtain ⟨r20, σ16, hc18, hG17, rr19, h⟩ := h
        refine w_callV dX10_ofStall_75 ml_10_178 ⟨ok_X10_number, vi_X10_number⟩ hs_X10_number (As := [.int (nZ 0), .int (nZ 60)]) rfl rfl (gT hG12 rfl (lt_of rfl)) (Nat.le_of_ble_eq_true rfl) hc18 ?_
        show wp (Ev sc d) 10 cX10_ofStall 5 none false [] sc Q 78 [(3, .int (nZ r15)), (2, .int (nZ r6)), (0, .ref 76), (1, .int (nZ x1))] [.int (nZ r20)] σ16
        refine w_istore (l' := [(4, .int (nZ r20)), (3, .int (nZ r15)), (2, .int (nZ r6)), (0, .ref 76), (1, .int (nZ x1))]) dX10_ofStall_78 (by decide) rfl ?_
        refine w_aload_n dX10_ofStall_80 rfl (List.Mem.tail _ (List.Mem.tail _ (List.Mem.tail _ (List.Mem.head _)))) ?_
        refine i_getI (ci := 10) 5 rfl dX10_ofStall_81 fl_10_122 (by decide) (gT hG17 rfl (lt_of rfl)) ?_
        refine i_if_eq (tgt := 88) dX10_ofStall_84 rfl (rI_R _ _ _) (fun c9 => ?_) (fun c9 => ?_)
        · replace h := h.1 c9
          refine w_aload_n dX10_ofStall_88 rfl (List.Mem.tail _ (List.Mem.tail _ (List.Mem.tail _ (List.Mem.head _)))) ?_
          refine w_getR (ci := 10) (k := 12) (b := 81) dX10_ofStall_89 fl_10_28 (by decide) (gT hG17 rfl (lt_of rfl)) (gR hG17 (b := 81) rfl) ?_
          refine w_iload_n dX10_ofStall_92 rfl (List.Mem.tail _ (List.Mem.tail _ (List.Mem.head _))) ?_
          obtain ⟨h9, h⟩ := h
          have hj21 := vin_lt2 (n := 8) h9 rfl
          refine i_aald (n := 8) (b := (82 + r6.toNat)) dX10_ofStall_93 (gT hG17 rfl (lt_of rfl)) (gL hG17 rfl) rr5 h9 (gR hG17 (rr_81 hj21)) ?_
          refine w_iconst (v := nZ 4) dX10_ofStall_94 (by decide) ?_
          refine w_iload_n dX10_ofStall_95 rfl (List.Mem.tail _ (List.Mem.head _)) ?_
          refine i_iast (n := 7) dX10_ofStall_96 (gT hG17 (ro_81 _ hj21).1 (by have := hj21; omega)) (gL hG17 (ro_81 _ hj21).2) (by decide) (by decide) (fun σ22 eσ23 => ?_)
          replace h := h σ22 eσ23
          have hG24 : G σ22 u := eσ23 ▸ G.wI hG17
          refine w_aload_n dX10_ofStall_97 rfl (List.Mem.tail _ (List.Mem.tail _ (List.Mem.tail _ (List.Mem.head _)))) ?_
          refine w_getR (ci := 10) (k := 12) (b := 81) dX10_ofStall_98 fl_10_28 (by decide) (gT hG24 rfl (lt_of rfl)) (gR hG24 (b := 81) rfl) ?_
          refine w_iload_n dX10_ofStall_101 rfl (List.Mem.tail _ (List.Mem.tail _ (List.Mem.head _))) ?_
          obtain ⟨h9, h⟩ := h
          have hj25 := vin_lt2 (n := 8) h9 rfl
          refine i_aald (n := 8) (b := (82 + r6.toNat)) dX10_ofStall_102 (gT hG24 rfl (lt_of rfl)) (gL hG24 rfl) rr5 h9 (gR hG24 (rr_81 hj25)) ?_
          refine w_iconst (v := nZ 5) dX10_ofStall_103 (by decide) ?_
          refine w_iload dX10_ofStall_104 (List.Mem.head _) ?_
          refine i_iast (n := 7) dX10_ofStall_106 (gT hG24 (ro_81 _ hj25).1 (by have := hj25; omega)) (gL hG24 (ro_81 _ hj25).2) (by decide) (by decide) (fun σ26 eσ27 => ?_)
          replace h := h σ26 eσ27
          have hG28 : G σ26 u := eσ27 ▸ G.wI hG24
          refine w_goto (tgt := 120) dX10_ofStall_107 rfl ?_
          exact w_vret dX10_ofStall_120 rfl h
        · replace h := h.2 c9
          exact w_vret dX10_ofStall_87 rfl h
    · replace h := h.2 c9
      refine w_aload_n dX10_ofStall_28 rfl (List.Mem.tail _ (List.Mem.head _)) ?_
      refine w_iconst (v := nZ 0) dX10_ofStall_29 (by decide) ?_
      refine w_iconst (v := nZ 3) dX10_ofStall_30 (by decide) ?_
      obtain ⟨r33, σ29, hc31, hG30, rr32, h⟩ := h
      refine w_callV dX10_ofStall_31 ml_10_178 ⟨ok_X10_number, vi_X10_number⟩ hs_X10_number (As := [.int (nZ 0), .int (nZ 3)]) rfl rfl (gT hG3 rfl (lt_of rfl)) (Nat.le_of_ble_eq_true rfl) hc31 ?_
      show wp (Ev sc d) 10 cX10_ofStall 5 none false [] sc Q 34 [(2, .int (nZ r6)), (0, .ref 76), (1, .int (nZ x1))] [.int (nZ r33)] σ29
      refine w_istore_n (l' := [(3, .int (nZ r33)), (2, .int (nZ r6)), (0, .ref 76), (1, .int (nZ x1))]) dX10_ofStall_34 rfl (by decide) rfl ?_
      refine w_aload_n dX10_ofStall_35 rfl (List.Mem.tail _ (List.Mem.tail _ (List.Mem.head _))) ?_
      refine w_getR (ci := 10) (k := 12) (b := 81) dX10_ofStall_36 fl_10_28 (by decide) (gT hG30 rfl (lt_of rfl)) (gR hG30 (b := 81) rfl) ?_
      refine w_iload_n dX10_ofStall_39 rfl (List.Mem.tail _ (List.Mem.head _)) ?_
      obtain ⟨h9, h⟩ := h
      have hj34 := vin_lt2 (n := 8) h9 rfl
      refine i_aald (n := 8) (b := (82 + r6.toNat)) dX10_ofStall_40 (gT hG30 rfl (lt_of rfl)) (gL hG30 rfl) rr5 h9 (gR hG30 (rr_81 hj34)) ?_
      refine w_iconst (v := nZ 3) dX10_ofStall_41 (by decide) ?_
      refine w_aload_n dX10_ofStall_42 rfl (List.Mem.tail _ (List.Mem.tail _ (List.Mem.head _))) ?_
      refine i_getI (ci := 10) 5 rfl dX10_ofStall_43 fl_10_122 (by decide) (gT hG30 rfl (lt_of rfl)) ?_
      refine i_if_ne (tgt := 53) dX10_ofStall_46 rfl (rI_R _ _ _) (fun c9 => ?_) (fun c9 => ?_)
      · replace h := h.1 c9
        refine w_iconst (v := nZ 0) dX10_ofStall_53 (by decide) ?_
        refine i_iast (n := 7) dX10_ofStall_54 (gT hG30 (ro_81 _ hj34).1 (by have := hj34; omega)) (gL hG30 (ro_81 _ hj34).2) (by decide) (by decide) (fun σ35 eσ36 => ?_)
        replace h := h σ35 eσ36
        have hG37 : G σ35 u := eσ36 ▸ G.wI hG30
        refine w_goto (tgt := 120) dX10_ofStall_55 rfl ?_
        exact w_vret dX10_ofStall_120 rfl h
      · replace h := h.2 c9
        refine w_iload_n dX10_ofStall_49 rfl (List.Mem.head _) ?_
        refine w_goto (tgt := 54) dX10_ofStall_50 rfl ?_
        refine i_iast (n := 7) dX10_ofStall_54 (gT hG30 (ro_81 _ hj34).1 (by have := hj34; omega)) (gL hG30 (ro_81 _ hj34).2) (by decide) (by decide) (fun σ38 eσ39 => ?_)
        replace h := h σ38 eσ39
        have hG40 : G σ38 u := eσ39 ▸ G.wI hG30
        refine w_goto (tgt := 120) dX10_ofStall_55 rfl ?_
        exact w_vret dX10_ofStall_120 rfl h
  · replace h := h.2 c9
    exact w_vret dX10_ofStall_21 rfl h
theorem dX10_stallHere_0 : decode cX10_stallHere 0 = .ok (.iconst 0, 1) := by decide +kernel
theorem dX10_stallHere_1 : decode cX10_stallHere 1 = .ok (.istore_n 2, 1) := by decide +kernel
theorem dX10_stallHere_2 : decode cX10_stallHere 2 = .ok (.iload_n 2, 1) := by decide +kernel
theorem dX10_stallHere_3 : decode cX10_stallHere 3 = .ok (.bipush 7, 2) := by decide +kernel
theorem dX10_stallHere_5 : decode cX10_stallHere 5 = .ok (.if_icmp .ge 13, 3) := by decide +kernel
theorem dX10_stallHere_8 : decode cX10_stallHere 8 = .ok (.aload_n 1, 1) := by decide +kernel
theorem dX10_stallHere_9 : decode cX10_stallHere 9 = .ok (.iload_n 2, 1) := by decide +kernel
theorem dX10_stallHere_10 : decode cX10_stallHere 10 = .ok (.iconst 0, 1) := by decide +kernel
theorem dX10_stallHere_11 : decode cX10_stallHere 11 = .ok (.iastore, 1) := by decide +kernel
theorem dX10_stallHere_12 : decode cX10_stallHere 12 = .ok (.iinc 2 1, 3) := by decide +kernel
theorem dX10_stallHere_15 : decode cX10_stallHere 15 = .ok (.goto (-13), 3) := by decide +kernel
theorem dX10_stallHere_18 : decode cX10_stallHere 18 = .ok (.aload_n 1, 1) := by decide +kernel
theorem dX10_stallHere_19 : decode cX10_stallHere 19 = .ok (.iconst 0, 1) := by decide +kernel
theorem dX10_stallHere_20 : decode cX10_stallHere 20 = .ok (.aload_n 0, 1) := by decide +kernel
theorem dX10_stallHere_21 : decode cX10_stallHere 21 = .ok (.iconst 0, 1) := by decide +kernel
theorem dX10_stallHere_22 : decode cX10_stallHere 22 = .ok (.aload_n 0, 1) := by decide +kernel
theorem dX10_stallHere_23 : decode cX10_stallHere 23 = .ok (.getfield 20, 3) := by decide +kernel
theorem dX10_stallHere_26 : decode cX10_stallHere 26 = .ok (.iconst 0, 1) := by decide +kernel
theorem dX10_stallHere_27 : decode cX10_stallHere 27 = .ok (.iaload, 1) := by decide +kernel
theorem dX10_stallHere_28 : decode cX10_stallHere 28 = .ok (.iconst 1, 1) := by decide +kernel
theorem dX10_stallHere_29 : decode cX10_stallHere 29 = .ok (.isub, 1) := by decide +kernel
theorem dX10_stallHere_30 : decode cX10_stallHere 30 = .ok (.invokevirtual 178, 3) := by decide +kernel
theorem dX10_stallHere_33 : decode cX10_stallHere 33 = .ok (.iastore, 1) := by decide +kernel
theorem dX10_stallHere_34 : decode cX10_stallHere 34 = .ok (.aload_n 0, 1) := by decide +kernel
theorem dX10_stallHere_35 : decode cX10_stallHere 35 = .ok (.invokevirtual 128, 3) := by decide +kernel
theorem dX10_stallHere_38 : decode cX10_stallHere 38 = .ok (.aload_n 0, 1) := by decide +kernel
theorem dX10_stallHere_39 : decode cX10_stallHere 39 = .ok (.getfield 115, 3) := by decide +kernel
theorem dX10_stallHere_42 : decode cX10_stallHere 42 = .ok (.istore_n 2, 1) := by decide +kernel
theorem dX10_stallHere_43 : decode cX10_stallHere 43 = .ok (.aload_n 1, 1) := by decide +kernel
theorem dX10_stallHere_44 : decode cX10_stallHere 44 = .ok (.iconst 1, 1) := by decide +kernel
theorem dX10_stallHere_45 : decode cX10_stallHere 45 = .ok (.aload_n 0, 1) := by decide +kernel
theorem dX10_stallHere_46 : decode cX10_stallHere 46 = .ok (.iconst 0, 1) := by decide +kernel
theorem dX10_stallHere_47 : decode cX10_stallHere 47 = .ok (.aload_n 0, 1) := by decide +kernel
theorem dX10_stallHere_48 : decode cX10_stallHere 48 = .ok (.getfield 20, 3) := by decide +kernel
theorem dX10_stallHere_51 : decode cX10_stallHere 51 = .ok (.iconst 1, 1) := by decide +kernel
theorem dX10_stallHere_52 : decode cX10_stallHere 52 = .ok (.iaload, 1) := by decide +kernel
theorem dX10_stallHere_53 : decode cX10_stallHere 53 = .ok (.iconst 1, 1) := by decide +kernel
theorem dX10_stallHere_54 : decode cX10_stallHere 54 = .ok (.isub, 1) := by decide +kernel
theorem dX10_stallHere_55 : decode cX10_stallHere 55 = .ok (.invokevirtual 178, 3) := by decide +kernel
theorem dX10_stallHere_58 : decode cX10_stallHere 58 = .ok (.iastore, 1) := by decide +kernel
theorem dX10_stallHere_59 : decode cX10_stallHere 59 = .ok (.iconst 0, 1) := by decide +kernel
theorem dX10_stallHere_60 : decode cX10_stallHere 60 = .ok (.istore_n 3, 1) := by decide +kernel
theorem dX10_stallHere_61 : decode cX10_stallHere 61 = .ok (.iload_n 3, 1) := by decide +kernel
theorem dX10_stallHere_62 : decode cX10_stallHere 62 = .ok (.aload_n 0, 1) := by decide +kernel
theorem dX10_stallHere_63 : decode cX10_stallHere 63 = .ok (.getfield 20, 3) := by decide +kernel
theorem dX10_stallHere_66 : decode cX10_stallHere 66 = .ok (.iconst 2, 1) := by decide +kernel
theorem dX10_stallHere_67 : decode cX10_stallHere 67 = .ok (.iaload, 1) := by decide +kernel
theorem dX10_stallHere_68 : decode cX10_stallHere 68 = .ok (.if_icmp .ge 43, 3) := by decide +kernel
theorem dX10_stallHere_71 : decode cX10_stallHere 71 = .ok (.aload_n 0, 1) := by decide +kernel
theorem dX10_stallHere_72 : decode cX10_stallHere 72 = .ok (.getfield 28, 3) := by decide +kernel
theorem dX10_stallHere_75 : decode cX10_stallHere 75 = .ok (.iload_n 3, 1) := by decide +kernel
theorem dX10_stallHere_76 : decode cX10_stallHere 76 = .ok (.aaload, 1) := by decide +kernel
theorem dX10_stallHere_77 : decode cX10_stallHere 77 = .ok (.iconst 0, 1) := by decide +kernel
theorem dX10_stallHere_78 : decode cX10_stallHere 78 = .ok (.iaload, 1) := by decide +kernel
theorem dX10_stallHere_79 : decode cX10_stallHere 79 = .ok (.aload_n 1, 1) := by decide +kernel
theorem dX10_stallHere_80 : decode cX10_stallHere 80 = .ok (.iconst 0, 1) := by decide +kernel
theorem dX10_stallHere_81 : decode cX10_stallHere 81 = .ok (.iaload, 1) := by decide +kernel
theorem dX10_stallHere_82 : decode cX10_stallHere 82 = .ok (.if_icmp .ne 23, 3) := by decide +kernel
theorem dX10_stallHere_85 : decode cX10_stallHere 85 = .ok (.aload_n 0, 1) := by decide +kernel
theorem dX10_stallHere_86 : decode cX10_stallHere 86 = .ok (.getfield 28, 3) := by decide +kernel
theorem dX10_stallHere_89 : decode cX10_stallHere 89 = .ok (.iload_n 3, 1) := by decide +kernel
theorem dX10_stallHere_90 : decode cX10_stallHere 90 = .ok (.aaload, 1) := by decide +kernel
theorem dX10_stallHere_91 : decode cX10_stallHere 91 = .ok (.iconst 1, 1) := by decide +kernel
theorem dX10_stallHere_92 : decode cX10_stallHere 92 = .ok (.iaload, 1) := by decide +kernel
theorem dX10_stallHere_93 : decode cX10_stallHere 93 = .ok (.aload_n 1, 1) := by decide +kernel
theorem dX10_stallHere_94 : decode cX10_stallHere 94 = .ok (.iconst 1, 1) := by decide +kernel
theorem dX10_stallHere_95 : decode cX10_stallHere 95 = .ok (.iaload, 1) := by decide +kernel
theorem dX10_stallHere_96 : decode cX10_stallHere 96 = .ok (.if_icmp .ne 9, 3) := by decide +kernel
theorem dX10_stallHere_99 : decode cX10_stallHere 99 = .ok (.aload_n 0, 1) := by decide +kernel
theorem dX10_stallHere_100 : decode cX10_stallHere 100 = .ok (.iconst 2, 1) := by decide +kernel
theorem dX10_stallHere_101 : decode cX10_stallHere 101 = .ok (.iload_n 2, 1) := by decide +kernel
theorem dX10_stallHere_102 : decode cX10_stallHere 102 = .ok (.invokevirtual 135, 3) := by decide +kernel
theorem dX10_stallHere_105 : decode cX10_stallHere 105 = .ok (.iinc 3 1, 3) := by decide +kernel
theorem dX10_stallHere_108 : decode cX10_stallHere 108 = .ok (.goto (-47), 3) := by decide +kernel
theorem dX10_stallHere_111 : decode cX10_stallHere 111 = .ok (.aload_n 1, 1) := by decide +kernel
theorem dX10_stallHere_112 : decode cX10_stallHere 112 = .ok (.iconst 2, 1) := by decide +kernel
theorem dX10_stallHere_113 : decode cX10_stallHere 113 = .ok (.aload_n 0, 1) := by decide +kernel
theorem dX10_stallHere_114 : decode cX10_stallHere 114 = .ok (.iconst 0, 1) := by decide +kernel
theorem dX10_stallHere_115 : decode cX10_stallHere 115 = .ok (.bipush 40, 2) := by decide +kernel
theorem dX10_stallHere_117 : decode cX10_stallHere 117 = .ok (.invokevirtual 178, 3) := by decide +kernel
theorem dX10_stallHere_120 : decode cX10_stallHere 120 = .ok (.iastore, 1) := by decide +kernel
theorem dX10_stallHere_121 : decode cX10_stallHere 121 = .ok (.aload_n 0, 1) := by decide +kernel
theorem dX10_stallHere_122 : decode cX10_stallHere 122 = .ok (.getfield 122, 3) := by decide +kernel
theorem dX10_stallHere_125 : decode cX10_stallHere 125 = .ok (.ifCond .ne 13, 3) := by decide +kernel
theorem dX10_stallHere_128 : decode cX10_stallHere 128 = .ok (.aload_n 0, 1) := by decide +kernel
theorem dX10_stallHere_129 : decode cX10_stallHere 129 = .ok (.getfield 20, 3) := by decide +kernel
theorem dX10_stallHere_132 : decode cX10_stallHere 132 = .ok (.iconst 2, 1) := by decide +kernel
theorem dX10_stallHere_133 : decode cX10_stallHere 133 = .ok (.dup2, 1) := by decide +kernel
theorem dX10_stallHere_134 : decode cX10_stallHere 134 = .ok (.iaload, 1) := by decide +kernel
theorem dX10_stallHere_135 : decode cX10_stallHere 135 = .ok (.iconst 1, 1) := by decide +kernel
theorem dX10_stallHere_136 : decode cX10_stallHere 136 = .ok (.iadd, 1) := by decide +kernel
theorem dX10_stallHere_137 : decode cX10_stallHere 137 = .ok (.iastore, 1) := by decide +kernel
theorem dX10_stallHere_138 : decode cX10_stallHere 138 = .ok (.return_, 1) := by decide +kernel
def L_X10_stallHere_2 (C : aM → List Value → aH → aO → aH → Prop) (sc : Nat × (Nat → Int32)) (P : aO → aH → Prop) (j : Nat) (x2 : Int) (σ : aH) : Prop :=
    wp C 10 cX10_stallHere 4 none false [] sc P 2 [(0, .ref 76), (1, .ref (82 + j)), (2, .int (nZ x2))] [] σ
def L_X10_stallHere_61 (C : aM → List Value → aH → aO → aH → Prop) (sc : Nat × (Nat → Int32)) (P : aO → aH → Prop) (j : Nat) (x2 : Int) (x3 : Int) (σ : aH) : Prop :=
    wp C 10 cX10_stallHere 4 none false [] sc P 61 [(0, .ref 76), (1, .ref (82 + j)), (2, .int (nZ x2)), (3, .int (nZ x3))] [] σ
set_option maxRecDepth 10000 in
theorem t_X10_stallHere {sc : Nat × (Nat → Int32)} {d : Nat} {Q : aO → aH → Prop} {σ : aH} {u : Nat} {j : Nat}  (hG : G σ u) (hj : j < 8)
    (h : L_X10_stallHere_2 (Ev sc d) sc Q j 0 σ) :
    T sc (d + 1) mX10_stallHere [.ref 76, .ref (82 + j)] σ Q := by
  refine T.of (c := 10) (code := cX10_stallHere) (mL := 4) (rt := none) (ini := false) (l := [(0, .ref 76), (1, .ref (82 + j))]) rfl rfl rfl rfl (by decide) hs_X10_stallHere rfl rfl ?_
  refine w_iconst (v := nZ 0) dX10_stallHere_0 (by decide) ?_
  refine w_istore_n (l' := [(2, .int (nZ 0)), (0, .ref 76), (1, .ref (82 + j))]) dX10_stallHere_1 rfl (by decide) rfl ?_
  exact w_weak (l' := [(0, .ref 76), (1, .ref (82 + j)), (2, .int (nZ 0))]) (by intro q hq; simp only [List.mem_cons, List.not_mem_nil, or_false] at hq ⊢; rcases hq with rfl | rfl | rfl <;> simp) h
set_option maxRecDepth 10000 in
theorem v_X10_stallHere_2 {C : aM → List Value → aH → aO → aH → Prop} {sc : Nat × (Nat → Int32)} {P : aO → aH → Prop} {σ : aH} {u : Nat} {j : Nat} {x2 : Int} (hG : G σ u) (hj : j < 8) (rx2 : inR x2)
    (h : ((7 ≤ x2 → (inR ((rI σ 79 0) - 1) ∧ (∃ (r6 : Int) (σ2 : aH), C mX10_number [.ref 76, .int (nZ 0), .int (nZ ((rI σ 79 0) - 1))] σ (.inl (some (.int (nZ r6)))) σ2 ∧ G σ2 u ∧ inR r6 ∧ (∀ σ7 : aH, wI σ2 (82 + j) 0 r6 = σ7 → (∃ σ10 : aH, C mX10_blanks [.ref 76] σ7 (.inl none) σ10 ∧ G σ10 u ∧ (∀ z14 : Int, z14 = (rI σ10 76 4) → (inR ((rI σ10 79 1) - 1) ∧ (∃ (r22 : Int) (σ18 : aH), C mX10_number [.ref 76, .int (nZ 0), .int (nZ ((rI σ10 79 1) - 1))] σ10 (.inl (some (.int (nZ r22)))) σ18 ∧ G σ18 u ∧ inR r22 ∧ (∀ σ23 : aH, wI σ18 (82 + j) 1 r22 = σ23 → L_X10_stallHere_61 C sc P j z14 0 σ23))))))))) ∧ (¬ (7 ≤ x2) → ((0 ≤ x2 ∧ x2 < 7) ∧ (∀ σ26 : aH, wI σ (82 + j) x2 0 = σ26 → (inR (x2 + 1) ∧ L_X10_stallHere_2 C sc P j (x2 + 1) σ26)))))) :
    L_X10_stallHere_2 C sc P j x2 σ := by
  unfold L_X10_stallHere_2
  refine w_iload_n dX10_stallHere_2 rfl (List.Mem.tail _ (List.Mem.tail _ (List.Mem.head _))) ?_
  refine w_bipush (v := nZ 7) dX10_stallHere_3 (by decide) ?_
  refine i_cmp_ge (tgt := 18) dX10_stallHere_5 rfl rx2 (by decide) (fun c9 => ?_) (fun c9 => ?_)
  · replace h := h.1 c9
    refine w_aload_n dX10_stallHere_18 rfl (List.Mem.tail _ (List.Mem.head _)) ?_
    refine w_iconst (v := nZ 0) dX10_stallHere_19 (by decide) ?_
    refine w_aload_n dX10_stallHere_20 rfl (List.Mem.head _) ?_
    refine w_iconst (v := nZ 0) dX10_stallHere_21 (by decide) ?_
    refine w_aload_n dX10_stallHere_22 rfl (List.Mem.head _) ?_
    refine w_getR (ci := 10) (k := 10) (b := 79) dX10_stallHere_23 fl_10_20 (by decide) (gT hG rfl (lt_of rfl)) (gR hG (b := 79) rfl) ?_
    refine w_iconst (v := nZ 0) dX10_stallHere_26 (by decide) ?_
    refine i_iald (n := 8) dX10_stallHere_27 (gT hG rfl (lt_of rfl)) (gL hG rfl) (by decide) (by decide) ?_
    refine w_iconst (v := nZ 1) dX10_stallHere_28 (by decide) ?_
    obtain ⟨q1, h⟩ := h
    refine i_sub dX10_stallHere_29 ?_
    obtain ⟨r6, σ2, hc4, hG3, rr5, h⟩ := h
    refine w_callV dX10_stallHere_30 ml_10_178 ⟨ok_X10_number, vi_X10_number⟩ hs_X10_number (As := [.int (nZ 0), .int (nZ ((rI σ 79 0) - 1))]) rfl rfl (gT hG rfl (lt_of rfl)) (Nat.le_of_ble_eq_true rfl) hc4 ?_
    show wp C 10 cX10_stallHere 4 none false [] sc P 33 [(0, .ref 76), (1, .ref (82 + j)), (2, .int (nZ x2))] [.int (nZ r6), .int (nZ 0), .ref (82 + j)] σ2
    refine i_iast (n := 7) dX10_stallHere_33 (gT hG3 (ro_81 _ hj).1 (by have := hj; omega)) (gL hG3 (ro_81 _ hj).2) (by decide) (by decide) (fun σ7 eσ8 => ?_)
    replace h := h σ7 eσ8
    have hG9 : G σ7 u := eσ8 ▸ G.wI hG3
    refine w_aload_n dX10_stallHere_34 rfl (List.Mem.head _) ?_
    obtain ⟨σ10, hc12, hG11, h⟩ := h
    refine w_callV dX10_stallHere_35 ml_10_128 ⟨ok_X10_blanks, vi_X10_blanks⟩ hs_X10_blanks (As := []) rfl rfl (gT hG9 rfl (lt_of rfl)) (Nat.le_of_ble_eq_true rfl) hc12 ?_
    show wp C 10 cX10_stallHere 4 none false [] sc P 38 [(0, .ref 76), (1, .ref (82 + j)), (2, .int (nZ x2))] [] σ10
    refine w_aload_n dX10_stallHere_38 rfl (List.Mem.head _) ?_
    refine i_getI (ci := 10) 4 rfl dX10_stallHere_39 fl_10_115 (by decide) (gT hG11 rfl (lt_of rfl)) ?_
    refine top_i (fun z14 ez15 => ?_)
    have rz16 : inR z14 := ez15 ▸ (rI_R _ _ _)
    replace h := h z14 ez15
    refine w_istore_n (l' := [(2, .int (nZ z14)), (0, .ref 76), (1, .ref (82 + j))]) dX10_stallHere_42 rfl (by decide) rfl ?_
    refine w_aload_n dX10_stallHere_43 rfl (List.Mem.tail _ (List.Mem.tail _ (List.Mem.head _))) ?_
    refine w_iconst (v := nZ 1) dX10_stallHere_44 (by decide) ?_
    refine w_aload_n dX10_stallHere_45 rfl (List.Mem.tail _ (List.Mem.head _)) ?_
    refine w_iconst (v := nZ 0) dX10_stallHere_46 (by decide) ?_
    refine w_aload_n dX10_stallHere_47 rfl (List.Mem.tail _ (List.Mem.head _)) ?_
    refine w_getR (ci := 10) (k := 10) (b := 79) dX10_stallHere_48 fl_10_20 (by decide) (gT hG11 rfl (lt_of rfl)) (gR hG11 (b := 79) rfl) ?_
    refine w_iconst (v := nZ 1) dX10_stallHere_51 (by decide) ?_
    refine i_iald (n := 8) dX10_stallHere_52 (gT hG11 rfl (lt_of rfl)) (gL hG11 rfl) (by decide) (by decide) ?_
    refine w_iconst (v := nZ 1) dX10_stallHere_53 (by decide) ?_
    obtain ⟨q17, h⟩ := h
    refine i_sub dX10_stallHere_54 ?_
    obtain ⟨r22, σ18, hc20, hG19, rr21, h⟩ := h
    refine w_callV dX10_stallHere_55 ml_10_178 ⟨ok_X10_number, vi_X10_number⟩ hs_X10_number (As := [.int (nZ 0), .int (nZ ((rI σ10 79 1) - 1))]) rfl rfl (gT hG11 rfl (lt_of rfl)) (Nat.le_of_ble_eq_true rfl) hc20 ?_
    show wp C 10 cX10_stallHere 4 none false [] sc P 58 [(2, .int (nZ z14)), (0, .ref 76), (1, .ref (82 + j))] [.int (nZ r22), .int (nZ 1), .ref (82 + j)] σ18
    refine i_iast (n := 7) dX10_stallHere_58 (gT hG19 (ro_81 _ hj).1 (by have := hj; omega)) (gL hG19 (ro_81 _ hj).2) (by decide) (by decide) (fun σ23 eσ24 => ?_)
    replace h := h σ23 eσ24
    have hG25 : G σ23 u := eσ24 ▸ G.wI hG19
    refine w_iconst (v := nZ 0) dX10_stallHere_59 (by decide) ?_
    refine w_istore_n (l' := [(3, .int (nZ 0)), (2, .int (nZ z14)), (0, .ref 76), (1, .ref (82 + j))]) dX10_stallHere_60 rfl (by decide) rfl ?_
    exact w_weak (l' := [(0, .ref 76), (1, .ref (82 + j)), (2, .int (nZ z14)), (3, .int (nZ 0))]) (by intro q hq; simp only [List.mem_cons, List.not_mem_nil, or_false] at hq ⊢; rcases hq with rfl | rfl | rfl | rfl <;> simp) h
  · replace h := h.2 c9
    refine w_aload_n dX10_stallHere_8 rfl (List.Mem.tail _ (List.Mem.head _)) ?_
    refine w_iload_n dX10_stallHere_9 rfl (List.Mem.tail _ (List.Mem.tail _ (List.Mem.head _))) ?_
    refine w_iconst (v := nZ 0) dX10_stallHere_10 (by decide) ?_
    obtain ⟨h9, h⟩ := h
    refine i_iast (n := 7) dX10_stallHere_11 (gT hG (ro_81 _ hj).1 (by have := hj; omega)) (gL hG (ro_81 _ hj).2) rx2 h9 (fun σ26 eσ27 => ?_)
    replace h := h σ26 eσ27
    have hG28 : G σ26 u := eσ27 ▸ G.wI hG
    obtain ⟨q29, h⟩ := h
    refine w_iinc (v := nZ (x2 + 1)) (l' := [(2, .int (nZ (x2 + 1))), (0, .ref 76), (1, .ref (82 + j))]) dX10_stallHere_12 (List.Mem.tail _ (List.Mem.tail _ (List.Mem.head _))) (nZ_add _ _) (by decide) rfl ?_
    refine w_goto (tgt := 2) dX10_stallHere_15 rfl ?_
    exact w_weak (l' := [(0, .ref 76), (1, .ref (82 + j)), (2, .int (nZ (x2 + 1)))]) (by intro q hq; simp only [List.mem_cons, List.not_mem_nil, or_false] at hq ⊢; rcases hq with rfl | rfl | rfl <;> simp) h
set_option maxRecDepth 10000 in
theorem v_X10_stallHere_61 {C : aM → List Value → aH → aO → aH → Prop} {sc : Nat × (Nat → Int32)} {P : aO → aH → Prop} {σ : aH} {u : Nat} {j : Nat} {x2 : Int} {x3 : Int} (hG : G σ u) (hj : j < 8) (rx2 : inR x2) (rx3 : inR x3)
    (h : (((rI σ 79 2) ≤ x3 → (∃ (r5 : Int) (σ1 : aH), C mX10_number [.ref 76, .int (nZ 0), .int (nZ 40)] σ (.inl (some (.int (nZ r5)))) σ1 ∧ G σ1 u ∧ inR r5 ∧ (∀ σ6 : aH, wI σ1 (82 + j) 2 r5 = σ6 → ((¬ (rI σ6 76 5) = 0 → P (.inl none) σ6) ∧ ((rI σ6 76 5) = 0 → (inR ((rI σ6 79 2) + 1) ∧ (∀ σ10 : aH, wI σ6 79 2 ((rI σ6 79 2) + 1) = σ10 → P (.inl none) σ10))))))) ∧ (¬ ((rI σ 79 2) ≤ x3) → ((0 ≤ x3 ∧ x3 < 8) ∧ ((¬ (rI σ (82 + x3.toNat) 0) = (rI σ (82 + j) 0) → (inR (x3 + 1) ∧ L_X10_stallHere_61 C sc P j x2 (x3 + 1) σ)) ∧ ((rI σ (82 + x3.toNat) 0) = (rI σ (82 + j) 0) → ((0 ≤ x3 ∧ x3 < 8) ∧ ((¬ (rI σ (82 + x3.toNat) 1) = (rI σ (82 + j) 1) → (inR (x3 + 1) ∧ L_X10_stallHere_61 C sc P j x2 (x3 + 1) σ)) ∧ ((rI σ (82 + x3.toNat) 1) = (rI σ (82 + j) 1) → (∃ σ17 : aH, C mX10_wrong [.ref 76, .int (nZ 2), .int (nZ x2)] σ (.inl none) σ17 ∧ G σ17 u ∧ (inR (x3 + 1) ∧ L_X10_stallHere_61 C sc P j x2 (x3 + 1) σ17))))))))))) :
    L_X10_stallHere_61 C sc P j x2 x3 σ := by
  unfold L_X10_stallHere_61
  refine w_iload_n dX10_stallHere_61 rfl (List.Mem.tail _ (List.Mem.tail _ (List.Mem.tail _ (List.Mem.head _)))) ?_
  refine w_aload_n dX10_stallHere_62 rfl (List.Mem.head _) ?_
  refine w_getR (ci := 10) (k := 10) (b := 79) dX10_stallHere_63 fl_10_20 (by decide) (gT hG rfl (lt_of rfl)) (gR hG (b := 79) rfl) ?_
  refine w_iconst (v := nZ 2) dX10_stallHere_66 (by decide) ?_
  refine i_iald (n := 8) dX10_stallHere_67 (gT hG rfl (lt_of rfl)) (gL hG rfl) (by decide) (by decide) ?_
  refine i_cmp_ge (tgt := 111) dX10_stallHere_68 rfl rx3 (rI_R _ _ _) (fun c9 => ?_) (fun c9 => ?_)
  · replace h := h.1 c9
    refine w_aload_n dX10_stallHere_111 rfl (List.Mem.tail _ (List.Mem.head _)) ?_
    refine w_iconst (v := nZ 2) dX10_stallHere_112 (by decide) ?_
    refine w_aload_n dX10_stallHere_113 rfl (List.Mem.head _) ?_
    refine w_iconst (v := nZ 0) dX10_stallHere_114 (by decide) ?_
    refine w_bipush (v := nZ 40) dX10_stallHere_115 (by decide) ?_
    obtain ⟨r5, σ1, hc3, hG2, rr4, h⟩ := h
    refine w_callV dX10_stallHere_117 ml_10_178 ⟨ok_X10_number, vi_X10_number⟩ hs_X10_number (As := [.int (nZ 0), .int (nZ 40)]) rfl rfl (gT hG rfl (lt_of rfl)) (Nat.le_of_ble_eq_true rfl) hc3 ?_
    show wp C 10 cX10_stallHere 4 none false [] sc P 120 [(0, .ref 76), (1, .ref (82 + j)), (2, .int (nZ x2)), (3, .int (nZ x3))] [.int (nZ r5), .int (nZ 2), .ref (82 + j)] σ1
    refine i_iast (n := 7) dX10_stallHere_120 (gT hG2 (ro_81 _ hj).1 (by have := hj; omega)) (gL hG2 (ro_81 _ hj).2) (by decide) (by decide) (fun σ6 eσ7 => ?_)
    replace h := h σ6 eσ7
    have hG8 : G σ6 u := eσ7 ▸ G.wI hG2
    refine w_aload_n dX10_stallHere_121 rfl (List.Mem.head _) ?_
    refine i_getI (ci := 10) 5 rfl dX10_stallHere_122 fl_10_122 (by decide) (gT hG8 rfl (lt_of rfl)) ?_
    refine i_if_ne (tgt := 138) dX10_stallHere_125 rfl (rI_R _ _ _) (fun c9 => ?_) (fun c9 => ?_)
    · replace h := h.1 c9
      exact w_vret dX10_stallHere_138 rfl h
    · replace h := h.2 c9
      refine w_aload_n dX10_stallHere_128 rfl (List.Mem.head _) ?_
      refine w_getR (ci := 10) (k := 10) (b := 79) dX10_stallHere_129 fl_10_20 (by decide) (gT hG8 rfl (lt_of rfl)) (gR hG8 (b := 79) rfl) ?_
      refine w_iconst (v := nZ 2) dX10_stallHere_132 (by decide) ?_
      refine w_dup2 dX10_stallHere_133 rfl rfl ?_
      refine i_iald (n := 8) dX10_stallHere_134 (gT hG8 rfl (lt_of rfl)) (gL hG8 rfl) (by decide) (by decide) ?_
      refine w_iconst (v := nZ 1) dX10_stallHere_135 (by decide) ?_
      obtain ⟨q9, h⟩ := h
      refine i_add dX10_stallHere_136 ?_
      refine i_iast (n := 8) dX10_stallHere_137 (gT hG8 rfl (lt_of rfl)) (gL hG8 rfl) (by decide) (by decide) (fun σ10 eσ11 => ?_)
      replace h := h σ10 eσ11
      have hG12 : G σ10 u := eσ11 ▸ G.wI hG8
      exact w_vret dX10_stallHere_138 rfl h
  · replace h := h.2 c9
    refine w_aload_n dX10_stallHere_71 rfl (List.Mem.head _) ?_
    refine w_getR (ci := 10) (k := 12) (b := 81) dX10_stallHere_72 fl_10_28 (by decide) (gT hG rfl (lt_of rfl)) (gR hG (b := 81) rfl) ?_
    refine w_iload_n dX10_stallHere_75 rfl (List.Mem.tail _ (List.Mem.tail _ (List.Mem.tail _ (List.Mem.head _)))) ?_
    obtain ⟨h9, h⟩ := h
    have hj13 := vin_lt2 (n := 8) h9 rfl
    refine i_aald (n := 8) (b := (82 + x3.toNat)) dX10_stallHere_76 (gT hG rfl (lt_of rfl)) (gL hG rfl) rx3 h9 (gR hG (rr_81 hj13)) ?_
    refine w_iconst (v := nZ 0) dX10_stallHere_77 (by decide) ?_
    refine i_iald (n := 7) dX10_stallHere_78 (gT hG (ro_81 _ hj13).1 (by have := hj13; omega)) (gL hG (ro_81 _ hj13).2) (by decide) (by decide) ?_
    refine w_aload_n dX10_stallHere_79 rfl (List.Mem.tail _ (List.Mem.head _)) ?_
    refine w_iconst (v := nZ 0) dX10_stallHere_80 (by decide) ?_
    refine i_iald (n := 7) dX10_stallHere_81 (gT hG (ro_81 _ hj).1 (by have := hj; omega)) (gL hG (ro_81 _ hj).2) (by decide) (by decide) ?_
    refine i_cmp_ne (tgt := 105) dX10_stallHere_82 rfl (rI_R _ _ _) (rI_R _ _ _) (fun c9 => ?_) (fun c9 => ?_)
    · replace h := h.1 c9
      obtain ⟨q14, h⟩ := h
      refine w_iinc (v := nZ (x3 + 1)) (l' := [(3, .int (nZ (x3 + 1))), (0, .ref 76), (1, .ref (82 + j)), (2, .int (nZ x2))]) dX10_stallHere_105 (List.Mem.tail _ (List.Mem.tail _ (List.Mem.tail _ (List.Mem.head _)))) (nZ_add _ _) (by decide) rfl ?_
      refine w_goto (tgt := 61) dX10_stallHere_108 rfl ?_
      exact w_weak (l' := [(0, .ref 76), (1, .ref (82 + j)), (2, .int (nZ x2)), (3, .int (nZ (x3 + 1)))]) (by intro q hq; simp only [List.mem_cons, List.not_mem_nil, or_false] at hq ⊢; rcases hq with rfl | rfl | rfl | rfl <;> simp) h
    · replace h := h.2 c9
      refine w_aload_n dX10_stallHere_85 rfl (List.Mem.head _) ?_
      refine w_getR (ci := 10) (k := 12) (b := 81) dX10_stallHere_86 fl_10_28 (by decide) (gT hG rfl (lt_of rfl)) (gR hG (b := 81) rfl) ?_
      refine w_iload_n dX10_stallHere_89 rfl (List.Mem.tail _ (List.Mem.tail _ (List.Mem.tail _ (List.Mem.head _)))) ?_
      obtain ⟨h9, h⟩ := h
      have hj15 := vin_lt2 (n := 8) h9 rfl
      refine i_aald (n := 8) (b := (82 + x3.toNat)) dX10_stallHere_90 (gT hG rfl (lt_of rfl)) (gL hG rfl) rx3 h9 (gR hG (rr_81 hj15)) ?_
      refine w_iconst (v := nZ 1) dX10_stallHere_91 (by decide) ?_
      refine i_iald (n := 7) dX10_stallHere_92 (gT hG (ro_81 _ hj15).1 (by have := hj15; omega)) (gL hG (ro_81 _ hj15).2) (by decide) (by decide) ?_
      refine w_aload_n dX10_stallHere_93 rfl (List.Mem.tail _ (List.Mem.head _)) ?_
      refine w_iconst (v := nZ 1) dX10_stallHere_94 (by decide) ?_
      refine i_iald (n := 7) dX10_stallHere_95 (gT hG (ro_81 _ hj).1 (by have := hj; omega)) (gL hG (ro_81 _ hj).2) (by decide) (by decide) ?_
      refine i_cmp_ne (tgt := 105) dX10_stallHere_96 rfl (rI_R _ _ _) (rI_R _ _ _) (fun c9 => ?_) (fun c9 => ?_)
      · replace h := h.1 c9
        obtain ⟨q16, h⟩ := h
        refine w_iinc (v := nZ (x3 + 1)) (l' := [(3, .int (nZ (x3 + 1))), (0, .ref 76), (1, .ref (82 + j)), (2, .int (nZ x2))]) dX10_stallHere_105 (List.Mem.tail _ (List.Mem.tail _ (List.Mem.tail _ (List.Mem.head _)))) (nZ_add _ _) (by decide) rfl ?_
        refine w_goto (tgt := 61) dX10_stallHere_108 rfl ?_
        exact w_weak (l' := [(0, .ref 76), (1, .ref (82 + j)), (2, .int (nZ x2)), (3, .int (nZ (x3 + 1)))]) (by intro q hq; simp only [List.mem_cons, List.not_mem_nil, or_false] at hq ⊢; rcases hq with rfl | rfl | rfl | rfl <;> simp) h
      · replace h := h.2 c9
        refine w_aload_n dX10_stallHere_99 rfl (List.Mem.head _) ?_
        refine w_iconst (v := nZ 2) dX10_stallHere_100 (by decide) ?_
        refine w_iload_n dX10_stallHere_101 rfl (List.Mem.tail _ (List.Mem.tail _ (List.Mem.head _))) ?_
        obtain ⟨σ17, hc19, hG18, h⟩ := h
        refine w_callV dX10_stallHere_102 ml_10_135 ⟨ok_X10_wrong, vi_X10_wrong⟩ hs_X10_wrong (As := [.int (nZ 2), .int (nZ x2)]) rfl rfl (gT hG rfl (lt_of rfl)) (Nat.le_of_ble_eq_true rfl) hc19 ?_
        show wp C 10 cX10_stallHere 4 none false [] sc P 105 [(0, .ref 76), (1, .ref (82 + j)), (2, .int (nZ x2)), (3, .int (nZ x3))] [] σ17
        obtain ⟨q21, h⟩ := h
        refine w_iinc (v := nZ (x3 + 1)) (l' := [(3, .int (nZ (x3 + 1))), (0, .ref 76), (1, .ref (82 + j)), (2, .int (nZ x2))]) dX10_stallHere_105 (List.Mem.tail _ (List.Mem.tail _ (List.Mem.tail _ (List.Mem.head _)))) (nZ_add _ _) (by decide) rfl ?_
        refine w_goto (tgt := 61) dX10_stallHere_108 rfl ?_
        exact w_weak (l' := [(0, .ref 76), (1, .ref (82 + j)), (2, .int (nZ x2)), (3, .int (nZ (x3 + 1)))]) (by intro q hq; simp only [List.mem_cons, List.not_mem_nil, or_false] at hq ⊢; rcases hq with rfl | rfl | rfl | rfl <;> simp) h
theorem dX10_sunHere_0 : decode cX10_sunHere 0 = .ok (.aload_n 0, 1) := by decide +kernel
theorem dX10_sunHere_1 : decode cX10_sunHere 1 = .ok (.iconst 0, 1) := by decide +kernel
theorem dX10_sunHere_2 : decode cX10_sunHere 2 = .ok (.sipush 1439, 3) := by decide +kernel
theorem dX10_sunHere_5 : decode cX10_sunHere 5 = .ok (.invokevirtual 178, 3) := by decide +kernel
theorem dX10_sunHere_8 : decode cX10_sunHere 8 = .ok (.istore_n 1, 1) := by decide +kernel
theorem dX10_sunHere_9 : decode cX10_sunHere 9 = .ok (.aload_n 0, 1) := by decide +kernel
theorem dX10_sunHere_10 : decode cX10_sunHere 10 = .ok (.iconst 0, 1) := by decide +kernel
theorem dX10_sunHere_11 : decode cX10_sunHere 11 = .ok (.iconst 2, 1) := by decide +kernel
theorem dX10_sunHere_12 : decode cX10_sunHere 12 = .ok (.invokevirtual 178, 3) := by decide +kernel
theorem dX10_sunHere_15 : decode cX10_sunHere 15 = .ok (.istore_n 2, 1) := by decide +kernel
theorem dX10_sunHere_16 : decode cX10_sunHere 16 = .ok (.aload_n 0, 1) := by decide +kernel
theorem dX10_sunHere_17 : decode cX10_sunHere 17 = .ok (.iconst 0, 1) := by decide +kernel
theorem dX10_sunHere_18 : decode cX10_sunHere 18 = .ok (.iconst 2, 1) := by decide +kernel
theorem dX10_sunHere_19 : decode cX10_sunHere 19 = .ok (.invokevirtual 178, 3) := by decide +kernel
theorem dX10_sunHere_22 : decode cX10_sunHere 22 = .ok (.istore_n 3, 1) := by decide +kernel
theorem dX10_sunHere_23 : decode cX10_sunHere 23 = .ok (.aload_n 0, 1) := by decide +kernel
theorem dX10_sunHere_24 : decode cX10_sunHere 24 = .ok (.iconst 0, 1) := by decide +kernel
theorem dX10_sunHere_25 : decode cX10_sunHere 25 = .ok (.bipush 9, 2) := by decide +kernel
theorem dX10_sunHere_27 : decode cX10_sunHere 27 = .ok (.invokevirtual 178, 3) := by decide +kernel
theorem dX10_sunHere_30 : decode cX10_sunHere 30 = .ok (.istore 4, 2) := by decide +kernel
theorem dX10_sunHere_32 : decode cX10_sunHere 32 = .ok (.iconst 0, 1) := by decide +kernel
theorem dX10_sunHere_33 : decode cX10_sunHere 33 = .ok (.istore 5, 2) := by decide +kernel
theorem dX10_sunHere_35 : decode cX10_sunHere 35 = .ok (.aload_n 0, 1) := by decide +kernel
theorem dX10_sunHere_36 : decode cX10_sunHere 36 = .ok (.getfield 122, 3) := by decide +kernel
theorem dX10_sunHere_39 : decode cX10_sunHere 39 = .ok (.ifCond .eq 4, 3) := by decide +kernel
theorem dX10_sunHere_42 : decode cX10_sunHere 42 = .ok (.return_, 1) := by decide +kernel
theorem dX10_sunHere_43 : decode cX10_sunHere 43 = .ok (.aload_n 0, 1) := by decide +kernel
theorem dX10_sunHere_44 : decode cX10_sunHere 44 = .ok (.dup, 1) := by decide +kernel
theorem dX10_sunHere_45 : decode cX10_sunHere 45 = .ok (.getfield 162, 3) := by decide +kernel
theorem dX10_sunHere_48 : decode cX10_sunHere 48 = .ok (.iconst 1, 1) := by decide +kernel
theorem dX10_sunHere_49 : decode cX10_sunHere 49 = .ok (.iadd, 1) := by decide +kernel
theorem dX10_sunHere_50 : decode cX10_sunHere 50 = .ok (.putfield 162, 3) := by decide +kernel
theorem dX10_sunHere_53 : decode cX10_sunHere 53 = .ok (.iload 5, 2) := by decide +kernel
theorem dX10_sunHere_55 : decode cX10_sunHere 55 = .ok (.aload_n 0, 1) := by decide +kernel
theorem dX10_sunHere_56 : decode cX10_sunHere 56 = .ok (.getfield 20, 3) := by decide +kernel
theorem dX10_sunHere_59 : decode cX10_sunHere 59 = .ok (.bipush 6, 2) := by decide +kernel
theorem dX10_sunHere_61 : decode cX10_sunHere 61 = .ok (.iaload, 1) := by decide +kernel
theorem dX10_sunHere_62 : decode cX10_sunHere 62 = .ok (.if_icmp .ge 22, 3) := by decide +kernel
theorem dX10_sunHere_65 : decode cX10_sunHere 65 = .ok (.aload_n 0, 1) := by decide +kernel
theorem dX10_sunHere_66 : decode cX10_sunHere 66 = .ok (.getfield 34, 3) := by decide +kernel
theorem dX10_sunHere_69 : decode cX10_sunHere 69 = .ok (.iload 5, 2) := by decide +kernel
theorem dX10_sunHere_71 : decode cX10_sunHere 71 = .ok (.aaload, 1) := by decide +kernel
theorem dX10_sunHere_72 : decode cX10_sunHere 72 = .ok (.iconst 0, 1) := by decide +kernel
theorem dX10_sunHere_73 : decode cX10_sunHere 73 = .ok (.iaload, 1) := by decide +kernel
theorem dX10_sunHere_74 : decode cX10_sunHere 74 = .ok (.iload_n 1, 1) := by decide +kernel
theorem dX10_sunHere_75 : decode cX10_sunHere 75 = .ok (.if_icmp .eq 9, 3) := by decide +kernel
theorem dX10_sunHere_78 : decode cX10_sunHere 78 = .ok (.iinc 5 1, 3) := by decide +kernel
theorem dX10_sunHere_81 : decode cX10_sunHere 81 = .ok (.goto (-28), 3) := by decide +kernel
theorem dX10_sunHere_84 : decode cX10_sunHere 84 = .ok (.aload_n 0, 1) := by decide +kernel
theorem dX10_sunHere_85 : decode cX10_sunHere 85 = .ok (.getfield 34, 3) := by decide +kernel
theorem dX10_sunHere_88 : decode cX10_sunHere 88 = .ok (.iload 5, 2) := by decide +kernel
theorem dX10_sunHere_90 : decode cX10_sunHere 90 = .ok (.aaload, 1) := by decide +kernel
theorem dX10_sunHere_91 : decode cX10_sunHere 91 = .ok (.iconst 0, 1) := by decide +kernel
theorem dX10_sunHere_92 : decode cX10_sunHere 92 = .ok (.iload_n 1, 1) := by decide +kernel
theorem dX10_sunHere_93 : decode cX10_sunHere 93 = .ok (.iastore, 1) := by decide +kernel
theorem dX10_sunHere_94 : decode cX10_sunHere 94 = .ok (.aload_n 0, 1) := by decide +kernel
theorem dX10_sunHere_95 : decode cX10_sunHere 95 = .ok (.getfield 34, 3) := by decide +kernel
theorem dX10_sunHere_98 : decode cX10_sunHere 98 = .ok (.iload 5, 2) := by decide +kernel
theorem dX10_sunHere_100 : decode cX10_sunHere 100 = .ok (.aaload, 1) := by decide +kernel
theorem dX10_sunHere_101 : decode cX10_sunHere 101 = .ok (.iconst 1, 1) := by decide +kernel
theorem dX10_sunHere_102 : decode cX10_sunHere 102 = .ok (.iload_n 2, 1) := by decide +kernel
theorem dX10_sunHere_103 : decode cX10_sunHere 103 = .ok (.iconst 1, 1) := by decide +kernel
theorem dX10_sunHere_104 : decode cX10_sunHere 104 = .ok (.isub, 1) := by decide +kernel
theorem dX10_sunHere_105 : decode cX10_sunHere 105 = .ok (.iastore, 1) := by decide +kernel
theorem dX10_sunHere_106 : decode cX10_sunHere 106 = .ok (.aload_n 0, 1) := by decide +kernel
theorem dX10_sunHere_107 : decode cX10_sunHere 107 = .ok (.getfield 34, 3) := by decide +kernel
theorem dX10_sunHere_110 : decode cX10_sunHere 110 = .ok (.iload 5, 2) := by decide +kernel
theorem dX10_sunHere_112 : decode cX10_sunHere 112 = .ok (.aaload, 1) := by decide +kernel
theorem dX10_sunHere_113 : decode cX10_sunHere 113 = .ok (.iconst 2, 1) := by decide +kernel
theorem dX10_sunHere_114 : decode cX10_sunHere 114 = .ok (.iload_n 3, 1) := by decide +kernel
theorem dX10_sunHere_115 : decode cX10_sunHere 115 = .ok (.iconst 1, 1) := by decide +kernel
theorem dX10_sunHere_116 : decode cX10_sunHere 116 = .ok (.isub, 1) := by decide +kernel
theorem dX10_sunHere_117 : decode cX10_sunHere 117 = .ok (.iastore, 1) := by decide +kernel
theorem dX10_sunHere_118 : decode cX10_sunHere 118 = .ok (.aload_n 0, 1) := by decide +kernel
theorem dX10_sunHere_119 : decode cX10_sunHere 119 = .ok (.getfield 34, 3) := by decide +kernel
theorem dX10_sunHere_122 : decode cX10_sunHere 122 = .ok (.iload 5, 2) := by decide +kernel
theorem dX10_sunHere_124 : decode cX10_sunHere 124 = .ok (.aaload, 1) := by decide +kernel
theorem dX10_sunHere_125 : decode cX10_sunHere 125 = .ok (.iconst 3, 1) := by decide +kernel
theorem dX10_sunHere_126 : decode cX10_sunHere 126 = .ok (.iload 4, 2) := by decide +kernel
theorem dX10_sunHere_128 : decode cX10_sunHere 128 = .ok (.iastore, 1) := by decide +kernel
theorem dX10_sunHere_129 : decode cX10_sunHere 129 = .ok (.aload_n 0, 1) := by decide +kernel
theorem dX10_sunHere_130 : decode cX10_sunHere 130 = .ok (.getfield 20, 3) := by decide +kernel
theorem dX10_sunHere_133 : decode cX10_sunHere 133 = .ok (.bipush 6, 2) := by decide +kernel
theorem dX10_sunHere_135 : decode cX10_sunHere 135 = .ok (.dup2, 1) := by decide +kernel
theorem dX10_sunHere_136 : decode cX10_sunHere 136 = .ok (.iaload, 1) := by decide +kernel
theorem dX10_sunHere_137 : decode cX10_sunHere 137 = .ok (.iload 5, 2) := by decide +kernel
theorem dX10_sunHere_139 : decode cX10_sunHere 139 = .ok (.aload_n 0, 1) := by decide +kernel
theorem dX10_sunHere_140 : decode cX10_sunHere 140 = .ok (.getfield 20, 3) := by decide +kernel
theorem dX10_sunHere_143 : decode cX10_sunHere 143 = .ok (.bipush 6, 2) := by decide +kernel
theorem dX10_sunHere_145 : decode cX10_sunHere 145 = .ok (.iaload, 1) := by decide +kernel
theorem dX10_sunHere_146 : decode cX10_sunHere 146 = .ok (.if_icmp .ne 7, 3) := by decide +kernel
theorem dX10_sunHere_149 : decode cX10_sunHere 149 = .ok (.iconst 1, 1) := by decide +kernel
theorem dX10_sunHere_150 : decode cX10_sunHere 150 = .ok (.goto 4, 3) := by decide +kernel
theorem dX10_sunHere_153 : decode cX10_sunHere 153 = .ok (.iconst 0, 1) := by decide +kernel
theorem dX10_sunHere_154 : decode cX10_sunHere 154 = .ok (.iadd, 1) := by decide +kernel
theorem dX10_sunHere_155 : decode cX10_sunHere 155 = .ok (.iastore, 1) := by decide +kernel
theorem dX10_sunHere_156 : decode cX10_sunHere 156 = .ok (.return_, 1) := by decide +kernel
def L_X10_sunHere_53 (C : aM → List Value → aH → aO → aH → Prop) (sc : Nat × (Nat → Int32)) (P : aO → aH → Prop) (x1 : Int) (x2 : Int) (x3 : Int) (x4 : Int) (x5 : Int) (σ : aH) : Prop :=
    wp C 10 cX10_sunHere 6 none false [] sc P 53 [(0, .ref 76), (1, .int (nZ x1)), (2, .int (nZ x2)), (3, .int (nZ x3)), (4, .int (nZ x4)), (5, .int (nZ x5))] [] σ
def L_X10_sunHere_84 (C : aM → List Value → aH → aO → aH → Prop) (sc : Nat × (Nat → Int32)) (P : aO → aH → Prop) (x1 : Int) (x2 : Int) (x3 : Int) (x4 : Int) (x5 : Int) (σ : aH) : Prop :=
    wp C 10 cX10_sunHere 6 none false [] sc P 84 [(0, .ref 76), (1, .int (nZ x1)), (2, .int (nZ x2)), (3, .int (nZ x3)), (4, .int (nZ x4)), (5, .int (nZ x5))] [] σ
set_option maxRecDepth 10000 in
theorem t_X10_sunHere {sc : Nat × (Nat → Int32)} {d : Nat} {Q : aO → aH → Prop} {σ : aH} {u : Nat}   (hG : G σ u) 
    (h : (∃ (r5 : Int) (σ1 : aH), Ev sc d mX10_number [.ref 76, .int (nZ 0), .int (nZ 1439)] σ (.inl (some (.int (nZ r5)))) σ1 ∧ G σ1 u ∧ inR r5 ∧ (∃ (r10 : Int) (σ6 : aH), Ev sc d mX10_number [.ref 76, .int (nZ 0), .int (nZ 2)] σ1 (.inl (some (.int (nZ r10)))) σ6 ∧ G σ6 u ∧ inR r10 ∧ (∃ (r15 : Int) (σ11 : aH), Ev sc d mX10_number [.ref 76, .int (nZ 0), .int (nZ 2)] σ6 (.inl (some (.int (nZ r15)))) σ11 ∧ G σ11 u ∧ inR r15 ∧ (∃ (r20 : Int) (σ16 : aH), Ev sc d mX10_number [.ref 76, .int (nZ 0), .int (nZ 9)] σ11 (.inl (some (.int (nZ r20)))) σ16 ∧ G σ16 u ∧ inR r20 ∧ (((rI σ16 76 5) = 0 → (inR ((rI σ16 76 38) + 1) ∧ (∀ σ22 : aH, wI σ16 76 38 ((rI σ16 76 38) + 1) = σ22 → L_X10_sunHere_53 (Ev sc d) sc Q r5 r10 r15 r20 0 σ22))) ∧ (¬ ((rI σ16 76 5) = 0) → Q (.inl none) σ16))))))) :
    T sc (d + 1) mX10_sunHere [.ref 76] σ Q := by
  refine T.of (c := 10) (code := cX10_sunHere) (mL := 6) (rt := none) (ini := false) (l := [(0, .ref 76)]) rfl rfl rfl rfl (by decide) hs_X10_sunHere rfl rfl ?_
  refine w_aload_n dX10_sunHere_0 rfl (List.Mem.head _) ?_
  refine w_iconst (v := nZ 0) dX10_sunHere_1 (by decide) ?_
  refine w_sipush (v := nZ 1439) dX10_sunHere_2 (by decide) ?_
  obtain ⟨r5, σ1, hc3, hG2, rr4, h⟩ := h
  refine w_callV dX10_sunHere_5 ml_10_178 ⟨ok_X10_number, vi_X10_number⟩ hs_X10_number (As := [.int (nZ 0), .int (nZ 1439)]) rfl rfl (gT hG rfl (lt_of rfl)) (Nat.le_of_ble_eq_true rfl) hc3 ?_
  show wp (Ev sc d) 10 cX10_sunHere 6 none false [] sc Q 8 [(0, .ref 76)] [.int (nZ r5)] σ1
  refine w_istore_n (l' := [(1, .int (nZ r5)), (0, .ref 76)]) dX10_sunHere_8 rfl (by decide) rfl ?_
  refine w_aload_n dX10_sunHere_9 rfl (List.Mem.tail _ (List.Mem.head _)) ?_
  refine w_iconst (v := nZ 0) dX10_sunHere_10 (by decide) ?_
  refine w_iconst (v := nZ 2) dX10_sunHere_11 (by decide) ?_
  obtain ⟨r10, σ6, hc8, hG7, rr9, h⟩ := h
  refine w_callV dX10_sunHere_12 ml_10_178 ⟨ok_X10_number, vi_X10_number⟩ hs_X10_number (As := [.int (nZ 0), .int (nZ 2)]) rfl rfl (gT hG2 rfl (lt_of rfl)) (Nat.le_of_ble_eq_true rfl) hc8 ?_
  show wp (Ev sc d) 10 cX10_sunHere 6 none false [] sc Q 15 [(1, .int (nZ r5)), (0, .ref 76)] [.int (nZ r10)] σ6
  refine w_istore_n (l' := [(2, .int (nZ r10)), (1, .int (nZ r5)), (0, .ref 76)]) dX10_sunHere_15 rfl (by decide) rfl ?_
  refine w_aload_n dX10_sunHere_16 rfl (List.Mem.tail _ (List.Mem.tail _ (List.Mem.head _))) ?_
  refine w_iconst (v := nZ 0) dX10_sunHere_17 (by decide) ?_
  refine w_iconst (v := nZ 2) dX10_sunHere_18 (by decide) ?_
  obtain ⟨r15, σ11, hc13, hG12, rr14, h⟩ := h
  refine w_callV dX10_sunHere_19 ml_10_178 ⟨ok_X10_number, vi_X10_number⟩ hs_X10_number (As := [.int (nZ 0), .int (nZ 2)]) rfl rfl (gT hG7 rfl (lt_of rfl)) (Nat.le_of_ble_eq_true rfl) hc13 ?_
  show wp (Ev sc d) 10 cX10_sunHere 6 none false [] sc Q 22 [(2, .int (nZ r10)), (1, .int (nZ r5)), (0, .ref 76)] [.int (nZ r15)] σ11
  refine w_istore_n (l' := [(3, .int (nZ r15)), (2, .int (nZ r10)), (1, .int (nZ r5)), (0, .ref 76)]) dX10_sunHere_22 rfl (by decide) rfl ?_
  refine w_aload_n dX10_sunHere_23 rfl (List.Mem.tail _ (List.Mem.tail _ (List.Mem.tail _ (List.Mem.head _)))) ?_
  refine w_iconst (v := nZ 0) dX10_sunHere_24 (by decide) ?_
  refine w_bipush (v := nZ 9) dX10_sunHere_25 (by decide) ?_
  obtain ⟨r20, σ16, hc18, hG17, rr19, h⟩ := h
  refine w_callV dX10_sunHere_27 ml_10_178 ⟨ok_X10_number, vi_X10_number⟩ hs_X10_number (As := [.int (nZ 0), .int (nZ 9)]) rfl rfl (gT hG12 rfl (lt_of rfl)) (Nat.le_of_ble_eq_true rfl) hc18 ?_
  show wp (Ev sc d) 10 cX10_sunHere 6 none false [] sc Q 30 [(3, .int (nZ r15)), (2, .int (nZ r10)), (1, .int (nZ r5)), (0, .ref 76)] [.int (nZ r20)] σ16
  refine w_istore (l' := [(4, .int (nZ r20)), (3, .int (nZ r15)), (2, .int (nZ r10)), (1, .int (nZ r5)), (0, .ref 76)]) dX10_sunHere_30 (by decide) rfl ?_
  refine w_iconst (v := nZ 0) dX10_sunHere_32 (by decide) ?_
  refine w_istore (l' := [(5, .int (nZ 0)), (4, .int (nZ r20)), (3, .int (nZ r15)), (2, .int (nZ r10)), (1, .int (nZ r5)), (0, .ref 76)]) dX10_sunHere_33 (by decide) rfl ?_
  refine w_aload_n dX10_sunHere_35 rfl (List.Mem.tail _ (List.Mem.tail _ (List.Mem.tail _ (List.Mem.tail _ (List.Mem.tail _ (List.Mem.head _)))))) ?_
  refine i_getI (ci := 10) 5 rfl dX10_sunHere_36 fl_10_122 (by decide) (gT hG17 rfl (lt_of rfl)) ?_
  refine i_if_eq (tgt := 43) dX10_sunHere_39 rfl (rI_R _ _ _) (fun c9 => ?_) (fun c9 => ?_)
  · replace h := h.1 c9
    refine w_aload_n dX10_sunHere_43 rfl (List.Mem.tail _ (List.Mem.tail _ (List.Mem.tail _ (List.Mem.tail _ (List.Mem.tail _ (List.Mem.head _)))))) ?_
    refine w_dup dX10_sunHere_44 rfl ?_
    refine i_getI (ci := 10) 38 rfl dX10_sunHere_45 fl_10_162 (by decide) (gT hG17 rfl (lt_of rfl)) ?_
    refine w_iconst (v := nZ 1) dX10_sunHere_48 (by decide) ?_
    obtain ⟨q21, h⟩ := h
    refine i_add dX10_sunHere_49 ?_
    refine i_putI (ci := 10) 38 rfl dX10_sunHere_50 fl_10_162 (by decide) (gT hG17 rfl (lt_of rfl)) (fun σ22 eσ23 => ?_)
    replace h := h σ22 eσ23
    have hG24 : G σ22 u := eσ23 ▸ G.wI hG17
    exact w_weak (l' := [(0, .ref 76), (1, .int (nZ r5)), (2, .int (nZ r10)), (3, .int (nZ r15)), (4, .int (nZ r20)), (5, .int (nZ 0))]) (by intro q hq; simp only [List.mem_cons, List.not_mem_nil, or_false] at hq ⊢; rcases hq with rfl | rfl | rfl | rfl | rfl | rfl <;> simp) h
  · replace h := h.2 c9
    exact w_vret dX10_sunHere_42 rfl h
set_option maxRecDepth 10000 in
theorem v_X10_sunHere_53 {C : aM → List Value → aH → aO → aH → Prop} {sc : Nat × (Nat → Int32)} {P : aO → aH → Prop} {σ : aH} {u : Nat}  {x1 : Int} {x2 : Int} {x3 : Int} {x4 : Int} {x5 : Int} (hG : G σ u) (rx1 : inR x1) (rx2 : inR x2) (rx3 : inR x3) (rx4 : inR x4) (rx5 : inR x5)
    (h : (((rI σ 79 6) ≤ x5 → L_X10_sunHere_84 C sc P x1 x2 x3 x4 x5 σ) ∧ (¬ ((rI σ 79 6) ≤ x5) → ((0 ≤ x5 ∧ x5 < 20) ∧ (((rI σ (101 + x5.toNat) 0) = x1 → L_X10_sunHere_84 C sc P x1 x2 x3 x4 x5 σ) ∧ (¬ ((rI σ (101 + x5.toNat) 0) = x1) → (inR (x5 + 1) ∧ L_X10_sunHere_53 C sc P x1 x2 x3 x4 (x5 + 1) σ))))))) :
    L_X10_sunHere_53 C sc P x1 x2 x3 x4 x5 σ := by
  unfold L_X10_sunHere_53
  refine w_iload dX10_sunHere_53 (List.Mem.tail _ (List.Mem.tail _ (List.Mem.tail _ (List.Mem.tail _ (List.Mem.tail _ (List.Mem.head _)))))) ?_
  refine w_aload_n dX10_sunHere_55 rfl (List.Mem.head _) ?_
  refine w_getR (ci := 10) (k := 10) (b := 79) dX10_sunHere_56 fl_10_20 (by decide) (gT hG rfl (lt_of rfl)) (gR hG (b := 79) rfl) ?_
  refine w_bipush (v := nZ 6) dX10_sunHere_59 (by decide) ?_
  refine i_iald (n := 8) dX10_sunHere_61 (gT hG rfl (lt_of rfl)) (gL hG rfl) (by decide) (by decide) ?_
  refine i_cmp_ge (tgt := 84) dX10_sunHere_62 rfl rx5 (rI_R _ _ _) (fun c9 => ?_) (fun c9 => ?_)
  · replace h := h.1 c9
    exact h
  · replace h := h.2 c9
    refine w_aload_n dX10_sunHere_65 rfl (List.Mem.head _) ?_
    refine w_getR (ci := 10) (k := 14) (b := 100) dX10_sunHere_66 fl_10_34 (by decide) (gT hG rfl (lt_of rfl)) (gR hG (b := 100) rfl) ?_
    refine w_iload dX10_sunHere_69 (List.Mem.tail _ (List.Mem.tail _ (List.Mem.tail _ (List.Mem.tail _ (List.Mem.tail _ (List.Mem.head _)))))) ?_
    obtain ⟨h9, h⟩ := h
    have hj1 := vin_lt2 (n := 20) h9 rfl
    refine i_aald (n := 20) (b := (101 + x5.toNat)) dX10_sunHere_71 (gT hG rfl (lt_of rfl)) (gL hG rfl) rx5 h9 (gR hG (rr_100 hj1)) ?_
    refine w_iconst (v := nZ 0) dX10_sunHere_72 (by decide) ?_
    refine i_iald (n := 4) dX10_sunHere_73 (gT hG (ro_100 _ hj1).1 (by have := hj1; omega)) (gL hG (ro_100 _ hj1).2) (by decide) (by decide) ?_
    refine w_iload_n dX10_sunHere_74 rfl (List.Mem.tail _ (List.Mem.head _)) ?_
    refine i_cmp_eq (tgt := 84) dX10_sunHere_75 rfl (rI_R _ _ _) rx1 (fun c9 => ?_) (fun c9 => ?_)
    · replace h := h.1 c9
      exact h
    · replace h := h.2 c9
      obtain ⟨q2, h⟩ := h
      refine w_iinc (v := nZ (x5 + 1)) (l' := [(5, .int (nZ (x5 + 1))), (0, .ref 76), (1, .int (nZ x1)), (2, .int (nZ x2)), (3, .int (nZ x3)), (4, .int (nZ x4))]) dX10_sunHere_78 (List.Mem.tail _ (List.Mem.tail _ (List.Mem.tail _ (List.Mem.tail _ (List.Mem.tail _ (List.Mem.head _)))))) (nZ_add _ _) (by decide) rfl ?_
      refine w_goto (tgt := 53) dX10_sunHere_81 rfl ?_
      exact w_weak (l' := [(0, .ref 76), (1, .int (nZ x1)), (2, .int (nZ x2)), (3, .int (nZ x3)), (4, .int (nZ x4)), (5, .int (nZ (x5 + 1)))]) (by intro q hq; simp only [List.mem_cons, List.not_mem_nil, or_false] at hq ⊢; rcases hq with rfl | rfl | rfl | rfl | rfl | rfl <;> simp) h
set_option maxRecDepth 10000 in
theorem v_X10_sunHere_84 {C : aM → List Value → aH → aO → aH → Prop} {sc : Nat × (Nat → Int32)} {P : aO → aH → Prop} {σ : aH} {u : Nat}  {x1 : Int} {x2 : Int} {x3 : Int} {x4 : Int} {x5 : Int} (hG : G σ u) (rx1 : inR x1) (rx2 : inR x2) (rx3 : inR x3) (rx4 : inR x4) (rx5 : inR x5)
    (h : ((0 ≤ x5 ∧ x5 < 20) ∧ (∀ σ2 : aH, wI σ (101 + x5.toNat) 0 x1 = σ2 → ((0 ≤ x5 ∧ x5 < 20) ∧ (inR (x2 - 1) ∧ (∀ σ7 : aH, wI σ2 (101 + x5.toNat) 1 (x2 - 1) = σ7 → ((0 ≤ x5 ∧ x5 < 20) ∧ (inR (x3 - 1) ∧ (∀ σ12 : aH, wI σ7 (101 + x5.toNat) 2 (x3 - 1) = σ12 → ((0 ≤ x5 ∧ x5 < 20) ∧ (∀ σ16 : aH, wI σ12 (101 + x5.toNat) 3 x4 = σ16 → ((¬ x5 = (rI σ16 79 6) → (inR ((rI σ16 79 6) + 0) ∧ (∀ σ20 : aH, wI σ16 79 6 ((rI σ16 79 6) + 0) = σ20 → P (.inl none) σ20))) ∧ (x5 = (rI σ16 79 6) → (inR ((rI σ16 79 6) + 1) ∧ (∀ σ24 : aH, wI σ16 79 6 ((rI σ16 79 6) + 1) = σ24 → P (.inl none) σ24))))))))))))))) :
    L_X10_sunHere_84 C sc P x1 x2 x3 x4 x5 σ := by
  unfold L_X10_sunHere_84
  refine w_aload_n dX10_sunHere_84 rfl (List.Mem.head _) ?_
  refine w_getR (ci := 10) (k := 14) (b := 100) dX10_sunHere_85 fl_10_34 (by decide) (gT hG rfl (lt_of rfl)) (gR hG (b := 100) rfl) ?_
  refine w_iload dX10_sunHere_88 (List.Mem.tail _ (List.Mem.tail _ (List.Mem.tail _ (List.Mem.tail _ (List.Mem.tail _ (List.Mem.head _)))))) ?_
  obtain ⟨h9, h⟩ := h
  have hj1 := vin_lt2 (n := 20) h9 rfl
  refine i_aald (n := 20) (b := (101 + x5.toNat)) dX10_sunHere_90 (gT hG rfl (lt_of rfl)) (gL hG rfl) rx5 h9 (gR hG (rr_100 hj1)) ?_
  refine w_iconst (v := nZ 0) dX10_sunHere_91 (by decide) ?_
  refine w_iload_n dX10_sunHere_92 rfl (List.Mem.tail _ (List.Mem.head _)) ?_
  refine i_iast (n := 4) dX10_sunHere_93 (gT hG (ro_100 _ hj1).1 (by have := hj1; omega)) (gL hG (ro_100 _ hj1).2) (by decide) (by decide) (fun σ2 eσ3 => ?_)
  replace h := h σ2 eσ3
  have hG4 : G σ2 u := eσ3 ▸ G.wI hG
  refine w_aload_n dX10_sunHere_94 rfl (List.Mem.head _) ?_
  refine w_getR (ci := 10) (k := 14) (b := 100) dX10_sunHere_95 fl_10_34 (by decide) (gT hG4 rfl (lt_of rfl)) (gR hG4 (b := 100) rfl) ?_
  refine w_iload dX10_sunHere_98 (List.Mem.tail _ (List.Mem.tail _ (List.Mem.tail _ (List.Mem.tail _ (List.Mem.tail _ (List.Mem.head _)))))) ?_
  obtain ⟨h9, h⟩ := h
  have hj5 := vin_lt2 (n := 20) h9 rfl
  refine i_aald (n := 20) (b := (101 + x5.toNat)) dX10_sunHere_100 (gT hG4 rfl (lt_of rfl)) (gL hG4 rfl) rx5 h9 (gR hG4 (rr_100 hj5)) ?_
  refine w_iconst (v := nZ 1) dX10_sunHere_101 (by decide) ?_
  refine w_iload_n dX10_sunHere_102 rfl (List.Mem.tail _ (List.Mem.tail _ (List.Mem.head _))) ?_
  refine w_iconst (v := nZ 1) dX10_sunHere_103 (by decide) ?_
  obtain ⟨q6, h⟩ := h
  refine i_sub dX10_sunHere_104 ?_
  refine i_iast (n := 4) dX10_sunHere_105 (gT hG4 (ro_100 _ hj5).1 (by have := hj5; omega)) (gL hG4 (ro_100 _ hj5).2) (by decide) (by decide) (fun σ7 eσ8 => ?_)
  replace h := h σ7 eσ8
  have hG9 : G σ7 u := eσ8 ▸ G.wI hG4
  refine w_aload_n dX10_sunHere_106 rfl (List.Mem.head _) ?_
  refine w_getR (ci := 10) (k := 14) (b := 100) dX10_sunHere_107 fl_10_34 (by decide) (gT hG9 rfl (lt_of rfl)) (gR hG9 (b := 100) rfl) ?_
  refine w_iload dX10_sunHere_110 (List.Mem.tail _ (List.Mem.tail _ (List.Mem.tail _ (List.Mem.tail _ (List.Mem.tail _ (List.Mem.head _)))))) ?_
  obtain ⟨h9, h⟩ := h
  have hj10 := vin_lt2 (n := 20) h9 rfl
  refine i_aald (n := 20) (b := (101 + x5.toNat)) dX10_sunHere_112 (gT hG9 rfl (lt_of rfl)) (gL hG9 rfl) rx5 h9 (gR hG9 (rr_100 hj10)) ?_
  refine w_iconst (v := nZ 2) dX10_sunHere_113 (by decide) ?_
  refine w_iload_n dX10_sunHere_114 rfl (List.Mem.tail _ (List.Mem.tail _ (List.Mem.tail _ (List.Mem.head _)))) ?_
  refine w_iconst (v := nZ 1) dX10_sunHere_115 (by decide) ?_
  obtain ⟨q11, h⟩ := h
  refine i_sub dX10_sunHere_116 ?_
  refine i_iast (n := 4) dX10_sunHere_117 (gT hG9 (ro_100 _ hj10).1 (by have := hj10; omega)) (gL hG9 (ro_100 _ hj10).2) (by decide) (by decide) (fun σ12 eσ13 => ?_)
  replace h := h σ12 eσ13
  have hG14 : G σ12 u := eσ13 ▸ G.wI hG9
  refine w_aload_n dX10_sunHere_118 rfl (List.Mem.head _) ?_
  refine w_getR (ci := 10) (k := 14) (b := 100) dX10_sunHere_119 fl_10_34 (by decide) (gT hG14 rfl (lt_of rfl)) (gR hG14 (b := 100) rfl) ?_
  refine w_iload dX10_sunHere_122 (List.Mem.tail _ (List.Mem.tail _ (List.Mem.tail _ (List.Mem.tail _ (List.Mem.tail _ (List.Mem.head _)))))) ?_
  obtain ⟨h9, h⟩ := h
  have hj15 := vin_lt2 (n := 20) h9 rfl
  refine i_aald (n := 20) (b := (101 + x5.toNat)) dX10_sunHere_124 (gT hG14 rfl (lt_of rfl)) (gL hG14 rfl) rx5 h9 (gR hG14 (rr_100 hj15)) ?_
  refine w_iconst (v := nZ 3) dX10_sunHere_125 (by decide) ?_
  refine w_iload dX10_sunHere_126 (List.Mem.tail _ (List.Mem.tail _ (List.Mem.tail _ (List.Mem.tail _ (List.Mem.head _))))) ?_
  refine i_iast (n := 4) dX10_sunHere_128 (gT hG14 (ro_100 _ hj15).1 (by have := hj15; omega)) (gL hG14 (ro_100 _ hj15).2) (by decide) (by decide) (fun σ16 eσ17 => ?_)
  replace h := h σ16 eσ17
  have hG18 : G σ16 u := eσ17 ▸ G.wI hG14
  refine w_aload_n dX10_sunHere_129 rfl (List.Mem.head _) ?_
  refine w_getR (ci := 10) (k := 10) (b := 79) dX10_sunHere_130 fl_10_20 (by decide) (gT hG18 rfl (lt_of rfl)) (gR hG18 (b := 79) rfl) ?_
  refine w_bipush (v := nZ 6) dX10_sunHere_133 (by decide) ?_
  refine w_dup2 dX10_sunHere_135 rfl rfl ?_
  refine i_iald (n := 8) dX10_sunHere_136 (gT hG18 rfl (lt_of rfl)) (gL hG18 rfl) (by decide) (by decide) ?_
  refine w_iload dX10_sunHere_137 (List.Mem.tail _ (List.Mem.tail _ (List.Mem.tail _ (List.Mem.tail _ (List.Mem.tail _ (List.Mem.head _)))))) ?_
  refine w_aload_n dX10_sunHere_139 rfl (List.Mem.head _) ?_
  refine w_getR (ci := 10) (k := 10) (b := 79) dX10_sunHere_140 fl_10_20 (by decide) (gT hG18 rfl (lt_of rfl)) (gR hG18 (b := 79) rfl) ?_
  refine w_bipush (v := nZ 6) dX10_sunHere_143 (by decide) ?_
  refine i_iald (n := 8) dX10_sunHere_145 (gT hG18 rfl (lt_of rfl)) (gL hG18 rfl) (by decide) (by decide) ?_
  refine i_cmp_ne (tgt := 153) dX10_sunHere_146 rfl rx5 (rI_R _ _ _) (fun c9 => ?_) (fun c9 => ?_)
  · replace h := h.1 c9
    refine w_iconst (v := nZ 0) dX10_sunHere_153 (by decide) ?_
    obtain ⟨q19, h⟩ := h
    refine i_add dX10_sunHere_154 ?_
    refine i_iast (n := 8) dX10_sunHere_155 (gT hG18 rfl (lt_of rfl)) (gL hG18 rfl) (by decide) (by decide) (fun σ20 eσ21 => ?_)
    replace h := h σ20 eσ21
    have hG22 : G σ20 u := eσ21 ▸ G.wI hG18
    exact w_vret dX10_sunHere_156 rfl h
  · replace h := h.2 c9
    refine w_iconst (v := nZ 1) dX10_sunHere_149 (by decide) ?_
    refine w_goto (tgt := 154) dX10_sunHere_150 rfl ?_
    obtain ⟨q23, h⟩ := h
    refine i_add dX10_sunHere_154 ?_
    refine i_iast (n := 8) dX10_sunHere_155 (gT hG18 rfl (lt_of rfl)) (gL hG18 rfl) (by decide) (by decide) (fun σ24 eσ25 => ?_)
    replace h := h σ24 eσ25
    have hG26 : G σ24 u := eσ25 ▸ G.wI hG18
    exact w_vret dX10_sunHere_156 rfl h
theorem dX10_rateHere_0 : decode cX10_rateHere 0 = .ok (.aload_n 0, 1) := by decide +kernel
theorem dX10_rateHere_1 : decode cX10_rateHere 1 = .ok (.iconst 0, 1) := by decide +kernel
theorem dX10_rateHere_2 : decode cX10_rateHere 2 = .ok (.sipush 1439, 3) := by decide +kernel
theorem dX10_rateHere_5 : decode cX10_rateHere 5 = .ok (.invokevirtual 178, 3) := by decide +kernel
theorem dX10_rateHere_8 : decode cX10_rateHere 8 = .ok (.istore_n 1, 1) := by decide +kernel
theorem dX10_rateHere_9 : decode cX10_rateHere 9 = .ok (.aload_n 0, 1) := by decide +kernel
theorem dX10_rateHere_10 : decode cX10_rateHere 10 = .ok (.iconst 0, 1) := by decide +kernel
theorem dX10_rateHere_11 : decode cX10_rateHere 11 = .ok (.bipush 9, 2) := by decide +kernel
theorem dX10_rateHere_13 : decode cX10_rateHere 13 = .ok (.invokevirtual 178, 3) := by decide +kernel
theorem dX10_rateHere_16 : decode cX10_rateHere 16 = .ok (.istore_n 2, 1) := by decide +kernel
theorem dX10_rateHere_17 : decode cX10_rateHere 17 = .ok (.iconst 0, 1) := by decide +kernel
theorem dX10_rateHere_18 : decode cX10_rateHere 18 = .ok (.istore_n 3, 1) := by decide +kernel
theorem dX10_rateHere_19 : decode cX10_rateHere 19 = .ok (.aload_n 0, 1) := by decide +kernel
theorem dX10_rateHere_20 : decode cX10_rateHere 20 = .ok (.getfield 122, 3) := by decide +kernel
theorem dX10_rateHere_23 : decode cX10_rateHere 23 = .ok (.ifCond .eq 4, 3) := by decide +kernel
theorem dX10_rateHere_26 : decode cX10_rateHere 26 = .ok (.return_, 1) := by decide +kernel
theorem dX10_rateHere_27 : decode cX10_rateHere 27 = .ok (.aload_n 0, 1) := by decide +kernel
theorem dX10_rateHere_28 : decode cX10_rateHere 28 = .ok (.dup, 1) := by decide +kernel
theorem dX10_rateHere_29 : decode cX10_rateHere 29 = .ok (.getfield 165, 3) := by decide +kernel
theorem dX10_rateHere_32 : decode cX10_rateHere 32 = .ok (.iconst 1, 1) := by decide +kernel
theorem dX10_rateHere_33 : decode cX10_rateHere 33 = .ok (.iadd, 1) := by decide +kernel
theorem dX10_rateHere_34 : decode cX10_rateHere 34 = .ok (.putfield 165, 3) := by decide +kernel
theorem dX10_rateHere_37 : decode cX10_rateHere 37 = .ok (.iload_n 3, 1) := by decide +kernel
theorem dX10_rateHere_38 : decode cX10_rateHere 38 = .ok (.aload_n 0, 1) := by decide +kernel
theorem dX10_rateHere_39 : decode cX10_rateHere 39 = .ok (.getfield 20, 3) := by decide +kernel
theorem dX10_rateHere_42 : decode cX10_rateHere 42 = .ok (.bipush 7, 2) := by decide +kernel
theorem dX10_rateHere_44 : decode cX10_rateHere 44 = .ok (.iaload, 1) := by decide +kernel
theorem dX10_rateHere_45 : decode cX10_rateHere 45 = .ok (.if_icmp .ge 21, 3) := by decide +kernel
theorem dX10_rateHere_48 : decode cX10_rateHere 48 = .ok (.aload_n 0, 1) := by decide +kernel
theorem dX10_rateHere_49 : decode cX10_rateHere 49 = .ok (.getfield 40, 3) := by decide +kernel
theorem dX10_rateHere_52 : decode cX10_rateHere 52 = .ok (.iload_n 3, 1) := by decide +kernel
theorem dX10_rateHere_53 : decode cX10_rateHere 53 = .ok (.aaload, 1) := by decide +kernel
theorem dX10_rateHere_54 : decode cX10_rateHere 54 = .ok (.iconst 0, 1) := by decide +kernel
theorem dX10_rateHere_55 : decode cX10_rateHere 55 = .ok (.iaload, 1) := by decide +kernel
theorem dX10_rateHere_56 : decode cX10_rateHere 56 = .ok (.iload_n 1, 1) := by decide +kernel
theorem dX10_rateHere_57 : decode cX10_rateHere 57 = .ok (.if_icmp .eq 9, 3) := by decide +kernel
theorem dX10_rateHere_60 : decode cX10_rateHere 60 = .ok (.iinc 3 1, 3) := by decide +kernel
theorem dX10_rateHere_63 : decode cX10_rateHere 63 = .ok (.goto (-26), 3) := by decide +kernel
theorem dX10_rateHere_66 : decode cX10_rateHere 66 = .ok (.aload_n 0, 1) := by decide +kernel
theorem dX10_rateHere_67 : decode cX10_rateHere 67 = .ok (.getfield 40, 3) := by decide +kernel
theorem dX10_rateHere_70 : decode cX10_rateHere 70 = .ok (.iload_n 3, 1) := by decide +kernel
theorem dX10_rateHere_71 : decode cX10_rateHere 71 = .ok (.aaload, 1) := by decide +kernel
theorem dX10_rateHere_72 : decode cX10_rateHere 72 = .ok (.iconst 0, 1) := by decide +kernel
theorem dX10_rateHere_73 : decode cX10_rateHere 73 = .ok (.iload_n 1, 1) := by decide +kernel
theorem dX10_rateHere_74 : decode cX10_rateHere 74 = .ok (.iastore, 1) := by decide +kernel
theorem dX10_rateHere_75 : decode cX10_rateHere 75 = .ok (.aload_n 0, 1) := by decide +kernel
theorem dX10_rateHere_76 : decode cX10_rateHere 76 = .ok (.getfield 40, 3) := by decide +kernel
theorem dX10_rateHere_79 : decode cX10_rateHere 79 = .ok (.iload_n 3, 1) := by decide +kernel
theorem dX10_rateHere_80 : decode cX10_rateHere 80 = .ok (.aaload, 1) := by decide +kernel
theorem dX10_rateHere_81 : decode cX10_rateHere 81 = .ok (.iconst 1, 1) := by decide +kernel
theorem dX10_rateHere_82 : decode cX10_rateHere 82 = .ok (.iload_n 2, 1) := by decide +kernel
theorem dX10_rateHere_83 : decode cX10_rateHere 83 = .ok (.iastore, 1) := by decide +kernel
theorem dX10_rateHere_84 : decode cX10_rateHere 84 = .ok (.aload_n 0, 1) := by decide +kernel
theorem dX10_rateHere_85 : decode cX10_rateHere 85 = .ok (.getfield 20, 3) := by decide +kernel
theorem dX10_rateHere_88 : decode cX10_rateHere 88 = .ok (.bipush 7, 2) := by decide +kernel
theorem dX10_rateHere_90 : decode cX10_rateHere 90 = .ok (.dup2, 1) := by decide +kernel
theorem dX10_rateHere_91 : decode cX10_rateHere 91 = .ok (.iaload, 1) := by decide +kernel
theorem dX10_rateHere_92 : decode cX10_rateHere 92 = .ok (.iload_n 3, 1) := by decide +kernel
theorem dX10_rateHere_93 : decode cX10_rateHere 93 = .ok (.aload_n 0, 1) := by decide +kernel
theorem dX10_rateHere_94 : decode cX10_rateHere 94 = .ok (.getfield 20, 3) := by decide +kernel
theorem dX10_rateHere_97 : decode cX10_rateHere 97 = .ok (.bipush 7, 2) := by decide +kernel
theorem dX10_rateHere_99 : decode cX10_rateHere 99 = .ok (.iaload, 1) := by decide +kernel
theorem dX10_rateHere_100 : decode cX10_rateHere 100 = .ok (.if_icmp .ne 7, 3) := by decide +kernel
theorem dX10_rateHere_103 : decode cX10_rateHere 103 = .ok (.iconst 1, 1) := by decide +kernel
theorem dX10_rateHere_104 : decode cX10_rateHere 104 = .ok (.goto 4, 3) := by decide +kernel
theorem dX10_rateHere_107 : decode cX10_rateHere 107 = .ok (.iconst 0, 1) := by decide +kernel
theorem dX10_rateHere_108 : decode cX10_rateHere 108 = .ok (.iadd, 1) := by decide +kernel
theorem dX10_rateHere_109 : decode cX10_rateHere 109 = .ok (.iastore, 1) := by decide +kernel
theorem dX10_rateHere_110 : decode cX10_rateHere 110 = .ok (.return_, 1) := by decide +kernel
def L_X10_rateHere_37 (C : aM → List Value → aH → aO → aH → Prop) (sc : Nat × (Nat → Int32)) (P : aO → aH → Prop) (x1 : Int) (x2 : Int) (x3 : Int) (σ : aH) : Prop :=
    wp C 10 cX10_rateHere 4 none false [] sc P 37 [(0, .ref 76), (1, .int (nZ x1)), (2, .int (nZ x2)), (3, .int (nZ x3))] [] σ
def L_X10_rateHere_66 (C : aM → List Value → aH → aO → aH → Prop) (sc : Nat × (Nat → Int32)) (P : aO → aH → Prop) (x1 : Int) (x2 : Int) (x3 : Int) (σ : aH) : Prop :=
    wp C 10 cX10_rateHere 4 none false [] sc P 66 [(0, .ref 76), (1, .int (nZ x1)), (2, .int (nZ x2)), (3, .int (nZ x3))] [] σ
set_option maxRecDepth 10000 in
theorem t_X10_rateHere {sc : Nat × (Nat → Int32)} {d : Nat} {Q : aO → aH → Prop} {σ : aH} {u : Nat}   (hG : G σ u) 
    (h : (∃ (r5 : Int) (σ1 : aH), Ev sc d mX10_number [.ref 76, .int (nZ 0), .int (nZ 1439)] σ (.inl (some (.int (nZ r5)))) σ1 ∧ G σ1 u ∧ inR r5 ∧ (∃ (r10 : Int) (σ6 : aH), Ev sc d mX10_number [.ref 76, .int (nZ 0), .int (nZ 9)] σ1 (.inl (some (.int (nZ r10)))) σ6 ∧ G σ6 u ∧ inR r10 ∧ (((rI σ6 76 5) = 0 → (inR ((rI σ6 76 39) + 1) ∧ (∀ σ12 : aH, wI σ6 76 39 ((rI σ6 76 39) + 1) = σ12 → L_X10_rateHere_37 (Ev sc d) sc Q r5 r10 0 σ12))) ∧ (¬ ((rI σ6 76 5) = 0) → Q (.inl none) σ6))))) :
    T sc (d + 1) mX10_rateHere [.ref 76] σ Q := by
  refine T.of (c := 10) (code := cX10_rateHere) (mL := 4) (rt := none) (ini := false) (l := [(0, .ref 76)]) rfl rfl rfl rfl (by decide) hs_X10_rateHere rfl rfl ?_
  refine w_aload_n dX10_rateHere_0 rfl (List.Mem.head _) ?_
  refine w_iconst (v := nZ 0) dX10_rateHere_1 (by decide) ?_
  refine w_sipush (v := nZ 1439) dX10_rateHere_2 (by decide) ?_
  obtain ⟨r5, σ1, hc3, hG2, rr4, h⟩ := h
  refine w_callV dX10_rateHere_5 ml_10_178 ⟨ok_X10_number, vi_X10_number⟩ hs_X10_number (As := [.int (nZ 0), .int (nZ 1439)]) rfl rfl (gT hG rfl (lt_of rfl)) (Nat.le_of_ble_eq_true rfl) hc3 ?_
  show wp (Ev sc d) 10 cX10_rateHere 4 none false [] sc Q 8 [(0, .ref 76)] [.int (nZ r5)] σ1
  refine w_istore_n (l' := [(1, .int (nZ r5)), (0, .ref 76)]) dX10_rateHere_8 rfl (by decide) rfl ?_
  refine w_aload_n dX10_rateHere_9 rfl (List.Mem.tail _ (List.Mem.head _)) ?_
  refine w_iconst (v := nZ 0) dX10_rateHere_10 (by decide) ?_
  refine w_bipush (v := nZ 9) dX10_rateHere_11 (by decide) ?_
  obtain ⟨r10, σ6, hc8, hG7, rr9, h⟩ := h
  refine w_callV dX10_rateHere_13 ml_10_178 ⟨ok_X10_number, vi_X10_number⟩ hs_X10_number (As := [.int (nZ 0), .int (nZ 9)]) rfl rfl (gT hG2 rfl (lt_of rfl)) (Nat.le_of_ble_eq_true rfl) hc8 ?_
  show wp (Ev sc d) 10 cX10_rateHere 4 none false [] sc Q 16 [(1, .int (nZ r5)), (0, .ref 76)] [.int (nZ r10)] σ6
  refine w_istore_n (l' := [(2, .int (nZ r10)), (1, .int (nZ r5)), (0, .ref 76)]) dX10_rateHere_16 rfl (by decide) rfl ?_
  refine w_iconst (v := nZ 0) dX10_rateHere_17 (by decide) ?_
  refine w_istore_n (l' := [(3, .int (nZ 0)), (2, .int (nZ r10)), (1, .int (nZ r5)), (0, .ref 76)]) dX10_rateHere_18 rfl (by decide) rfl ?_
  refine w_aload_n dX10_rateHere_19 rfl (List.Mem.tail _ (List.Mem.tail _ (List.Mem.tail _ (List.Mem.head _)))) ?_
  refine i_getI (ci := 10) 5 rfl dX10_rateHere_20 fl_10_122 (by decide) (gT hG7 rfl (lt_of rfl)) ?_
  refine i_if_eq (tgt := 27) dX10_rateHere_23 rfl (rI_R _ _ _) (fun c9 => ?_) (fun c9 => ?_)
  · replace h := h.1 c9
    refine w_aload_n dX10_rateHere_27 rfl (List.Mem.tail _ (List.Mem.tail _ (List.Mem.tail _ (List.Mem.head _)))) ?_
    refine w_dup dX10_rateHere_28 rfl ?_
    refine i_getI (ci := 10) 39 rfl dX10_rateHere_29 fl_10_165 (by decide) (gT hG7 rfl (lt_of rfl)) ?_
    refine w_iconst (v := nZ 1) dX10_rateHere_32 (by decide) ?_
    obtain ⟨q11, h⟩ := h
    refine i_add dX10_rateHere_33 ?_
    refine i_putI (ci := 10) 39 rfl dX10_rateHere_34 fl_10_165 (by decide) (gT hG7 rfl (lt_of rfl)) (fun σ12 eσ13 => ?_)
    replace h := h σ12 eσ13
    have hG14 : G σ12 u := eσ13 ▸ G.wI hG7
    exact w_weak (l' := [(0, .ref 76), (1, .int (nZ r5)), (2, .int (nZ r10)), (3, .int (nZ 0))]) (by intro q hq; simp only [List.mem_cons, List.not_mem_nil, or_false] at hq ⊢; rcases hq with rfl | rfl | rfl | rfl <;> simp) h
  · replace h := h.2 c9
    exact w_vret dX10_rateHere_26 rfl h
set_option maxRecDepth 10000 in
theorem v_X10_rateHere_37 {C : aM → List Value → aH → aO → aH → Prop} {sc : Nat × (Nat → Int32)} {P : aO → aH → Prop} {σ : aH} {u : Nat}  {x1 : Int} {x2 : Int} {x3 : Int} (hG : G σ u) (rx1 : inR x1) (rx2 : inR x2) (rx3 : inR x3)
    (h : (((rI σ 79 7) ≤ x3 → L_X10_rateHere_66 C sc P x1 x2 x3 σ) ∧ (¬ ((rI σ 79 7) ≤ x3) → ((0 ≤ x3 ∧ x3 < 20) ∧ (((rI σ (143 + x3.toNat) 0) = x1 → L_X10_rateHere_66 C sc P x1 x2 x3 σ) ∧ (¬ ((rI σ (143 + x3.toNat) 0) = x1) → (inR (x3 + 1) ∧ L_X10_rateHere_37 C sc P x1 x2 (x3 + 1) σ))))))) :
    L_X10_rateHere_37 C sc P x1 x2 x3 σ := by
  unfold L_X10_rateHere_37
  refine w_iload_n dX10_rateHere_37 rfl (List.Mem.tail _ (List.Mem.tail _ (List.Mem.tail _ (List.Mem.head _)))) ?_
  refine w_aload_n dX10_rateHere_38 rfl (List.Mem.head _) ?_
  refine w_getR (ci := 10) (k := 10) (b := 79) dX10_rateHere_39 fl_10_20 (by decide) (gT hG rfl (lt_of rfl)) (gR hG (b := 79) rfl) ?_
  refine w_bipush (v := nZ 7) dX10_rateHere_42 (by decide) ?_
  refine i_iald (n := 8) dX10_rateHere_44 (gT hG rfl (lt_of rfl)) (gL hG rfl) (by decide) (by decide) ?_
  refine i_cmp_ge (tgt := 66) dX10_rateHere_45 rfl rx3 (rI_R _ _ _) (fun c9 => ?_) (fun c9 => ?_)
  · replace h := h.1 c9
    exact h
  · replace h := h.2 c9
    refine w_aload_n dX10_rateHere_48 rfl (List.Mem.head _) ?_
    refine w_getR (ci := 10) (k := 16) (b := 142) dX10_rateHere_49 fl_10_40 (by decide) (gT hG rfl (lt_of rfl)) (gR hG (b := 142) rfl) ?_
    refine w_iload_n dX10_rateHere_52 rfl (List.Mem.tail _ (List.Mem.tail _ (List.Mem.tail _ (List.Mem.head _)))) ?_
    obtain ⟨h9, h⟩ := h
    have hj1 := vin_lt2 (n := 20) h9 rfl
    refine i_aald (n := 20) (b := (143 + x3.toNat)) dX10_rateHere_53 (gT hG rfl (lt_of rfl)) (gL hG rfl) rx3 h9 (gR hG (rr_142 hj1)) ?_
    refine w_iconst (v := nZ 0) dX10_rateHere_54 (by decide) ?_
    refine i_iald (n := 2) dX10_rateHere_55 (gT hG (ro_142 _ hj1).1 (by have := hj1; omega)) (gL hG (ro_142 _ hj1).2) (by decide) (by decide) ?_
    refine w_iload_n dX10_rateHere_56 rfl (List.Mem.tail _ (List.Mem.head _)) ?_
    refine i_cmp_eq (tgt := 66) dX10_rateHere_57 rfl (rI_R _ _ _) rx1 (fun c9 => ?_) (fun c9 => ?_)
    · replace h := h.1 c9
      exact h
    · replace h := h.2 c9
      obtain ⟨q2, h⟩ := h
      refine w_iinc (v := nZ (x3 + 1)) (l' := [(3, .int (nZ (x3 + 1))), (0, .ref 76), (1, .int (nZ x1)), (2, .int (nZ x2))]) dX10_rateHere_60 (List.Mem.tail _ (List.Mem.tail _ (List.Mem.tail _ (List.Mem.head _)))) (nZ_add _ _) (by decide) rfl ?_
      refine w_goto (tgt := 37) dX10_rateHere_63 rfl ?_
      exact w_weak (l' := [(0, .ref 76), (1, .int (nZ x1)), (2, .int (nZ x2)), (3, .int (nZ (x3 + 1)))]) (by intro q hq; simp only [List.mem_cons, List.not_mem_nil, or_false] at hq ⊢; rcases hq with rfl | rfl | rfl | rfl <;> simp) h
set_option maxRecDepth 10000 in
theorem v_X10_rateHere_66 {C : aM → List Value → aH → aO → aH → Prop} {sc : Nat × (Nat → Int32)} {P : aO → aH → Prop} {σ : aH} {u : Nat}  {x1 : Int} {x2 : Int} {x3 : Int} (hG : G σ u) (rx1 : inR x1) (rx2 : inR x2) (rx3 : inR x3)
    (h : ((0 ≤ x3 ∧ x3 < 20) ∧ (∀ σ2 : aH, wI σ (143 + x3.toNat) 0 x1 = σ2 → ((0 ≤ x3 ∧ x3 < 20) ∧ (∀ σ6 : aH, wI σ2 (143 + x3.toNat) 1 x2 = σ6 → ((¬ x3 = (rI σ6 79 7) → (inR ((rI σ6 79 7) + 0) ∧ (∀ σ10 : aH, wI σ6 79 7 ((rI σ6 79 7) + 0) = σ10 → P (.inl none) σ10))) ∧ (x3 = (rI σ6 79 7) → (inR ((rI σ6 79 7) + 1) ∧ (∀ σ14 : aH, wI σ6 79 7 ((rI σ6 79 7) + 1) = σ14 → P (.inl none) σ14))))))))) :
    L_X10_rateHere_66 C sc P x1 x2 x3 σ := by
  unfold L_X10_rateHere_66
  refine w_aload_n dX10_rateHere_66 rfl (List.Mem.head _) ?_
  refine w_getR (ci := 10) (k := 16) (b := 142) dX10_rateHere_67 fl_10_40 (by decide) (gT hG rfl (lt_of rfl)) (gR hG (b := 142) rfl) ?_
  refine w_iload_n dX10_rateHere_70 rfl (List.Mem.tail _ (List.Mem.tail _ (List.Mem.tail _ (List.Mem.head _)))) ?_
  obtain ⟨h9, h⟩ := h
  have hj1 := vin_lt2 (n := 20) h9 rfl
  refine i_aald (n := 20) (b := (143 + x3.toNat)) dX10_rateHere_71 (gT hG rfl (lt_of rfl)) (gL hG rfl) rx3 h9 (gR hG (rr_142 hj1)) ?_
  refine w_iconst (v := nZ 0) dX10_rateHere_72 (by decide) ?_
  refine w_iload_n dX10_rateHere_73 rfl (List.Mem.tail _ (List.Mem.head _)) ?_
  refine i_iast (n := 2) dX10_rateHere_74 (gT hG (ro_142 _ hj1).1 (by have := hj1; omega)) (gL hG (ro_142 _ hj1).2) (by decide) (by decide) (fun σ2 eσ3 => ?_)
  replace h := h σ2 eσ3
  have hG4 : G σ2 u := eσ3 ▸ G.wI hG
  refine w_aload_n dX10_rateHere_75 rfl (List.Mem.head _) ?_
  refine w_getR (ci := 10) (k := 16) (b := 142) dX10_rateHere_76 fl_10_40 (by decide) (gT hG4 rfl (lt_of rfl)) (gR hG4 (b := 142) rfl) ?_
  refine w_iload_n dX10_rateHere_79 rfl (List.Mem.tail _ (List.Mem.tail _ (List.Mem.tail _ (List.Mem.head _)))) ?_
  obtain ⟨h9, h⟩ := h
  have hj5 := vin_lt2 (n := 20) h9 rfl
  refine i_aald (n := 20) (b := (143 + x3.toNat)) dX10_rateHere_80 (gT hG4 rfl (lt_of rfl)) (gL hG4 rfl) rx3 h9 (gR hG4 (rr_142 hj5)) ?_
  refine w_iconst (v := nZ 1) dX10_rateHere_81 (by decide) ?_
  refine w_iload_n dX10_rateHere_82 rfl (List.Mem.tail _ (List.Mem.tail _ (List.Mem.head _))) ?_
  refine i_iast (n := 2) dX10_rateHere_83 (gT hG4 (ro_142 _ hj5).1 (by have := hj5; omega)) (gL hG4 (ro_142 _ hj5).2) (by decide) (by decide) (fun σ6 eσ7 => ?_)
  replace h := h σ6 eσ7
  have hG8 : G σ6 u := eσ7 ▸ G.wI hG4
  refine w_aload_n dX10_rateHere_84 rfl (List.Mem.head _) ?_
  refine w_getR (ci := 10) (k := 10) (b := 79) dX10_rateHere_85 fl_10_20 (by decide) (gT hG8 rfl (lt_of rfl)) (gR hG8 (b := 79) rfl) ?_
  refine w_bipush (v := nZ 7) dX10_rateHere_88 (by decide) ?_
  refine w_dup2 dX10_rateHere_90 rfl rfl ?_
  refine i_iald (n := 8) dX10_rateHere_91 (gT hG8 rfl (lt_of rfl)) (gL hG8 rfl) (by decide) (by decide) ?_
  refine w_iload_n dX10_rateHere_92 rfl (List.Mem.tail _ (List.Mem.tail _ (List.Mem.tail _ (List.Mem.head _)))) ?_
  refine w_aload_n dX10_rateHere_93 rfl (List.Mem.head _) ?_
  refine w_getR (ci := 10) (k := 10) (b := 79) dX10_rateHere_94 fl_10_20 (by decide) (gT hG8 rfl (lt_of rfl)) (gR hG8 (b := 79) rfl) ?_
  refine w_bipush (v := nZ 7) dX10_rateHere_97 (by decide) ?_
  refine i_iald (n := 8) dX10_rateHere_99 (gT hG8 rfl (lt_of rfl)) (gL hG8 rfl) (by decide) (by decide) ?_
  refine i_cmp_ne (tgt := 107) dX10_rateHere_100 rfl rx3 (rI_R _ _ _) (fun c9 => ?_) (fun c9 => ?_)
  · replace h := h.1 c9
    refine w_iconst (v := nZ 0) dX10_rateHere_107 (by decide) ?_
    obtain ⟨q9, h⟩ := h
    refine i_add dX10_rateHere_108 ?_
    refine i_iast (n := 8) dX10_rateHere_109 (gT hG8 rfl (lt_of rfl)) (gL hG8 rfl) (by decide) (by decide) (fun σ10 eσ11 => ?_)
    replace h := h σ10 eσ11
    have hG12 : G σ10 u := eσ11 ▸ G.wI hG8
    exact w_vret dX10_rateHere_110 rfl h
  · replace h := h.2 c9
    refine w_iconst (v := nZ 1) dX10_rateHere_103 (by decide) ?_
    refine w_goto (tgt := 108) dX10_rateHere_104 rfl ?_
    obtain ⟨q13, h⟩ := h
    refine i_add dX10_rateHere_108 ?_
    refine i_iast (n := 8) dX10_rateHere_109 (gT hG8 rfl (lt_of rfl)) (gL hG8 rfl) (by decide) (by decide) (fun σ14 eσ15 => ?_)
    replace h := h σ14 eσ15
    have hG16 : G σ14 u := eσ15 ▸ G.wI hG8
    exact w_vret dX10_rateHere_110 rfl h
theorem dX10_market_0 : decode cX10_market 0 = .ok (.aload_n 0, 1) := by decide +kernel
theorem dX10_market_1 : decode cX10_market 1 = .ok (.iconst 0, 1) := by decide +kernel
theorem dX10_market_2 : decode cX10_market 2 = .ok (.putfield 106, 3) := by decide +kernel
theorem dX10_market_5 : decode cX10_market 5 = .ok (.aload_n 0, 1) := by decide +kernel
theorem dX10_market_6 : decode cX10_market 6 = .ok (.iload_n 1, 1) := by decide +kernel
theorem dX10_market_7 : decode cX10_market 7 = .ok (.iconst 0, 1) := by decide +kernel
theorem dX10_market_8 : decode cX10_market 8 = .ok (.aload_n 0, 1) := by decide +kernel
theorem dX10_market_9 : decode cX10_market 9 = .ok (.getfield 109, 3) := by decide +kernel
theorem dX10_market_12 : decode cX10_market 12 = .ok (.invokestatic 140, 3) := by decide +kernel
theorem dX10_market_15 : decode cX10_market 15 = .ok (.ifCond .ne 7, 3) := by decide +kernel
theorem dX10_market_18 : decode cX10_market 18 = .ok (.iconst 1, 1) := by decide +kernel
theorem dX10_market_19 : decode cX10_market 19 = .ok (.goto 4, 3) := by decide +kernel
theorem dX10_market_22 : decode cX10_market 22 = .ok (.iconst 0, 1) := by decide +kernel
theorem dX10_market_23 : decode cX10_market 23 = .ok (.iconst 1, 1) := by decide +kernel
theorem dX10_market_24 : decode cX10_market 24 = .ok (.iconst 1, 1) := by decide +kernel
theorem dX10_market_25 : decode cX10_market 25 = .ok (.invokevirtual 196, 3) := by decide +kernel
theorem dX10_market_28 : decode cX10_market 28 = .ok (.ifCond .eq 5, 3) := by decide +kernel
theorem dX10_market_31 : decode cX10_market 31 = .ok (.iconst 0, 1) := by decide +kernel
theorem dX10_market_32 : decode cX10_market 32 = .ok (.ireturn, 1) := by decide +kernel
theorem dX10_market_33 : decode cX10_market 33 = .ok (.aload_n 0, 1) := by decide +kernel
theorem dX10_market_34 : decode cX10_market 34 = .ok (.iconst 0, 1) := by decide +kernel
theorem dX10_market_35 : decode cX10_market 35 = .ok (.putfield 109, 3) := by decide +kernel
theorem dX10_market_38 : decode cX10_market 38 = .ok (.aload_n 0, 1) := by decide +kernel
theorem dX10_market_39 : decode cX10_market 39 = .ok (.iload_n 1, 1) := by decide +kernel
theorem dX10_market_40 : decode cX10_market 40 = .ok (.putfield 112, 3) := by decide +kernel
theorem dX10_market_43 : decode cX10_market 43 = .ok (.aload_n 0, 1) := by decide +kernel
theorem dX10_market_44 : decode cX10_market 44 = .ok (.iconst 0, 1) := by decide +kernel
theorem dX10_market_45 : decode cX10_market 45 = .ok (.putfield 115, 3) := by decide +kernel
theorem dX10_market_48 : decode cX10_market 48 = .ok (.aload_n 0, 1) := by decide +kernel
theorem dX10_market_49 : decode cX10_market 49 = .ok (.iconst 0, 1) := by decide +kernel
theorem dX10_market_50 : decode cX10_market 50 = .ok (.putfield 122, 3) := by decide +kernel
theorem dX10_market_53 : decode cX10_market 53 = .ok (.aload_n 0, 1) := by decide +kernel
theorem dX10_market_54 : decode cX10_market 54 = .ok (.iconst (-1), 1) := by decide +kernel
theorem dX10_market_55 : decode cX10_market 55 = .ok (.putfield 125, 3) := by decide +kernel
theorem dX10_market_58 : decode cX10_market 58 = .ok (.aload_n 0, 1) := by decide +kernel
theorem dX10_market_59 : decode cX10_market 59 = .ok (.iconst 0, 1) := by decide +kernel
theorem dX10_market_60 : decode cX10_market 60 = .ok (.putfield 172, 3) := by decide +kernel
theorem dX10_market_63 : decode cX10_market 63 = .ok (.aload_n 0, 1) := by decide +kernel
theorem dX10_market_64 : decode cX10_market 64 = .ok (.iconst 0, 1) := by decide +kernel
theorem dX10_market_65 : decode cX10_market 65 = .ok (.putfield 162, 3) := by decide +kernel
theorem dX10_market_68 : decode cX10_market 68 = .ok (.aload_n 0, 1) := by decide +kernel
theorem dX10_market_69 : decode cX10_market 69 = .ok (.iconst 0, 1) := by decide +kernel
theorem dX10_market_70 : decode cX10_market 70 = .ok (.putfield 165, 3) := by decide +kernel
theorem dX10_market_73 : decode cX10_market 73 = .ok (.aload_n 0, 1) := by decide +kernel
theorem dX10_market_74 : decode cX10_market 74 = .ok (.invokevirtual 100, 3) := by decide +kernel
theorem dX10_market_77 : decode cX10_market 77 = .ok (.aload_n 0, 1) := by decide +kernel
theorem dX10_market_78 : decode cX10_market 78 = .ok (.invokevirtual 128, 3) := by decide +kernel
theorem dX10_market_81 : decode cX10_market 81 = .ok (.aload_n 0, 1) := by decide +kernel
theorem dX10_market_82 : decode cX10_market 82 = .ok (.getfield 122, 3) := by decide +kernel
theorem dX10_market_85 : decode cX10_market 85 = .ok (.ifCond .ne 25, 3) := by decide +kernel
theorem dX10_market_88 : decode cX10_market 88 = .ok (.aload_n 0, 1) := by decide +kernel
theorem dX10_market_89 : decode cX10_market 89 = .ok (.getfield 115, 3) := by decide +kernel
theorem dX10_market_92 : decode cX10_market 92 = .ok (.aload_n 0, 1) := by decide +kernel
theorem dX10_market_93 : decode cX10_market 93 = .ok (.getfield 112, 3) := by decide +kernel
theorem dX10_market_96 : decode cX10_market 96 = .ok (.if_icmp .ge 14, 3) := by decide +kernel
theorem dX10_market_99 : decode cX10_market 99 = .ok (.aload_n 0, 1) := by decide +kernel
theorem dX10_market_100 : decode cX10_market 100 = .ok (.invokevirtual 200, 3) := by decide +kernel
theorem dX10_market_103 : decode cX10_market 103 = .ok (.aload_n 0, 1) := by decide +kernel
theorem dX10_market_104 : decode cX10_market 104 = .ok (.invokevirtual 128, 3) := by decide +kernel
theorem dX10_market_107 : decode cX10_market 107 = .ok (.goto (-26), 3) := by decide +kernel
theorem dX10_market_110 : decode cX10_market 110 = .ok (.aload_n 0, 1) := by decide +kernel
theorem dX10_market_111 : decode cX10_market 111 = .ok (.aload_n 0, 1) := by decide +kernel
theorem dX10_market_112 : decode cX10_market 112 = .ok (.getfield 125, 3) := by decide +kernel
theorem dX10_market_115 : decode cX10_market 115 = .ok (.putfield 9, 3) := by decide +kernel
theorem dX10_market_118 : decode cX10_market 118 = .ok (.aload_n 0, 1) := by decide +kernel
theorem dX10_market_119 : decode cX10_market 119 = .ok (.getfield 122, 3) := by decide +kernel
theorem dX10_market_122 : decode cX10_market 122 = .ok (.ifCond .eq 11, 3) := by decide +kernel
theorem dX10_market_125 : decode cX10_market 125 = .ok (.aload_n 0, 1) := by decide +kernel
theorem dX10_market_126 : decode cX10_market 126 = .ok (.getfield 122, 3) := by decide +kernel
theorem dX10_market_129 : decode cX10_market 129 = .ok (.bipush 10, 2) := by decide +kernel
theorem dX10_market_131 : decode cX10_market 131 = .ok (.isub, 1) := by decide +kernel
theorem dX10_market_132 : decode cX10_market 132 = .ok (.ireturn, 1) := by decide +kernel
theorem dX10_market_133 : decode cX10_market 133 = .ok (.aload_n 0, 1) := by decide +kernel
theorem dX10_market_134 : decode cX10_market 134 = .ok (.invokevirtual 103, 3) := by decide +kernel
theorem dX10_market_137 : decode cX10_market 137 = .ok (.aload_n 0, 1) := by decide +kernel
theorem dX10_market_138 : decode cX10_market 138 = .ok (.getfield 23, 3) := by decide +kernel
theorem dX10_market_141 : decode cX10_market 141 = .ok (.iconst 2, 1) := by decide +kernel
theorem dX10_market_142 : decode cX10_market 142 = .ok (.iaload, 1) := by decide +kernel
theorem dX10_market_143 : decode cX10_market 143 = .ok (.ireturn, 1) := by decide +kernel
def L_X10_market_23 (C : aM → List Value → aH → aO → aH → Prop) (sc : Nat × (Nat → Int32)) (P : aO → aH → Prop) (x1 : Int) (s0 : Int) (σ : aH) : Prop :=
    wp C 10 cX10_market 2 (some .int) false [] sc P 23 [(0, .ref 76), (1, .int (nZ x1))] [.int (nZ s0), .ref 76] σ
def L_X10_market_81 (C : aM → List Value → aH → aO → aH → Prop) (sc : Nat × (Nat → Int32)) (P : aO → aH → Prop) (x1 : Int) (σ : aH) : Prop :=
    wp C 10 cX10_market 2 (some .int) false [] sc P 81 [(0, .ref 76), (1, .int (nZ x1))] [] σ
def L_X10_market_110 (C : aM → List Value → aH → aO → aH → Prop) (sc : Nat × (Nat → Int32)) (P : aO → aH → Prop) (x1 : Int) (σ : aH) : Prop :=
    wp C 10 cX10_market 2 (some .int) false [] sc P 110 [(0, .ref 76), (1, .int (nZ x1))] [] σ
set_option maxRecDepth 10000 in
theorem t_X10_market {sc : Nat × (Nat → Int32)} {d : Nat} {Q : aO → aH → Prop} {σ : aH} {u : Nat}  {x1 : Int} (hG : G σ u) (rx1 : inR x1)
    (h : (∀ σ1 : aH, wI σ 76 0 0 = σ1 → (∃ (r8 : Int) (σ4 : aH), Ev sc d mX10_in [.int (nZ x1), .int (nZ 0), .int (nZ (rI σ1 76 1))] σ1 (.inl (some (.int (nZ r8)))) σ4 ∧ G σ4 u ∧ inR r8 ∧ ((¬ r8 = 0 → L_X10_market_23 (Ev sc d) sc Q x1 0 σ4) ∧ (r8 = 0 → L_X10_market_23 (Ev sc d) sc Q x1 1 σ4))))) :
    T sc (d + 1) mX10_market [.ref 76, .int (nZ x1)] σ Q := by
  refine T.of (c := 10) (code := cX10_market) (mL := 2) (rt := (some .int)) (ini := false) (l := [(0, .ref 76), (1, .int (nZ x1))]) rfl rfl rfl rfl (by decide) hs_X10_market rfl rfl ?_
  refine w_aload_n dX10_market_0 rfl (List.Mem.head _) ?_
  refine w_iconst (v := nZ 0) dX10_market_1 (by decide) ?_
  refine i_putI (ci := 10) 0 rfl dX10_market_2 fl_10_106 (by decide) (gT hG rfl (lt_of rfl)) (fun σ1 eσ2 => ?_)
  replace h := h σ1 eσ2
  have hG3 : G σ1 u := eσ2 ▸ G.wI hG
  refine w_aload_n dX10_market_5 rfl (List.Mem.head _) ?_
  refine w_iload_n dX10_market_6 rfl (List.Mem.tail _ (List.Mem.head _)) ?_
  refine w_iconst (v := nZ 0) dX10_market_7 (by decide) ?_
  refine w_aload_n dX10_market_8 rfl (List.Mem.head _) ?_
  refine i_getI (ci := 10) 1 rfl dX10_market_9 fl_10_109 (by decide) (gT hG3 rfl (lt_of rfl)) ?_
  obtain ⟨r8, σ4, hc6, hG5, rr7, h⟩ := h
  refine w_callS dX10_market_12 ml_10_140 ⟨ok_X10_in, st_X10_in⟩ hs_X10_in (As := [.int (nZ x1), .int (nZ 0), .int (nZ (rI σ1 76 1))]) rfl rfl (Nat.le_of_ble_eq_true rfl) hc6 ?_
  show wp (Ev sc d) 10 cX10_market 2 (some .int) false [] sc Q 15 [(0, .ref 76), (1, .int (nZ x1))] [.int (nZ r8), .ref 76] σ4
  refine i_if_ne (tgt := 22) dX10_market_15 rfl rr7 (fun c9 => ?_) (fun c9 => ?_)
  · replace h := h.1 c9
    refine w_iconst (v := nZ 0) dX10_market_22 (by decide) ?_
    exact h
  · replace h := h.2 c9
    refine w_iconst (v := nZ 1) dX10_market_18 (by decide) ?_
    refine w_goto (tgt := 23) dX10_market_19 rfl ?_
    exact h
set_option maxRecDepth 10000 in
theorem v_X10_market_23 {C : aM → List Value → aH → aO → aH → Prop} {sc : Nat × (Nat → Int32)} {P : aO → aH → Prop} {σ : aH} {u : Nat}  {x1 : Int} {s0 : Int} (hG : G σ u) (rx1 : inR x1) (rs0 : inR s0)
    (h : (∃ (r5 : Int) (σ1 : aH), C mX10_bad [.ref 76, .int (nZ s0), .int (nZ 1), .int (nZ 1)] σ (.inl (some (.int (nZ r5)))) σ1 ∧ G σ1 u ∧ inR r5 ∧ ((r5 = 0 → (∀ σ6 : aH, wI σ1 76 1 0 = σ6 → (∀ σ9 : aH, wI σ6 76 2 x1 = σ9 → (∀ σ12 : aH, wI σ9 76 4 0 = σ12 → (∀ σ15 : aH, wI σ12 76 5 0 = σ15 → (∀ σ18 : aH, wI σ15 76 6 (-1) = σ18 → (∀ σ21 : aH, wI σ18 76 7 0 = σ21 → (∀ σ24 : aH, wI σ21 76 38 0 = σ24 → (∀ σ27 : aH, wI σ24 76 39 0 = σ27 → (∃ σ30 : aH, C mX10_tellsNothing [.ref 76] σ27 (.inl none) σ30 ∧ G σ30 u ∧ (∃ σ34 : aH, C mX10_blanks [.ref 76] σ30 (.inl none) σ34 ∧ G σ34 u ∧ L_X10_market_81 C sc P x1 σ34))))))))))) ∧ (¬ (r5 = 0) → P (.inl (some (.int (nZ 0)))) σ1)))) :
    L_X10_market_23 C sc P x1 s0 σ := by
  unfold L_X10_market_23
  refine w_iconst (v := nZ 1) dX10_market_23 (by decide) ?_
  refine w_iconst (v := nZ 1) dX10_market_24 (by decide) ?_
  obtain ⟨r5, σ1, hc3, hG2, rr4, h⟩ := h
  refine w_callV dX10_market_25 ml_10_196 ⟨ok_X10_bad, vi_X10_bad⟩ hs_X10_bad (As := [.int (nZ s0), .int (nZ 1), .int (nZ 1)]) rfl rfl (gT hG rfl (lt_of rfl)) (Nat.le_of_ble_eq_true rfl) hc3 ?_
  show wp C 10 cX10_market 2 (some .int) false [] sc P 28 [(0, .ref 76), (1, .int (nZ x1))] [.int (nZ r5)] σ1
  refine i_if_eq (tgt := 33) dX10_market_28 rfl rr4 (fun c9 => ?_) (fun c9 => ?_)
  · replace h := h.1 c9
    refine w_aload_n dX10_market_33 rfl (List.Mem.head _) ?_
    refine w_iconst (v := nZ 0) dX10_market_34 (by decide) ?_
    refine i_putI (ci := 10) 1 rfl dX10_market_35 fl_10_109 (by decide) (gT hG2 rfl (lt_of rfl)) (fun σ6 eσ7 => ?_)
    replace h := h σ6 eσ7
    have hG8 : G σ6 u := eσ7 ▸ G.wI hG2
    refine w_aload_n dX10_market_38 rfl (List.Mem.head _) ?_
    refine w_iload_n dX10_market_39 rfl (List.Mem.tail _ (List.Mem.head _)) ?_
    refine i_putI (ci := 10) 2 rfl dX10_market_40 fl_10_112 (by decide) (gT hG8 rfl (lt_of rfl)) (fun σ9 eσ10 => ?_)
    replace h := h σ9 eσ10
    have hG11 : G σ9 u := eσ10 ▸ G.wI hG8
    refine w_aload_n dX10_market_43 rfl (List.Mem.head _) ?_
    refine w_iconst (v := nZ 0) dX10_market_44 (by decide) ?_
    refine i_putI (ci := 10) 4 rfl dX10_market_45 fl_10_115 (by decide) (gT hG11 rfl (lt_of rfl)) (fun σ12 eσ13 => ?_)
    replace h := h σ12 eσ13
    have hG14 : G σ12 u := eσ13 ▸ G.wI hG11
    refine w_aload_n dX10_market_48 rfl (List.Mem.head _) ?_
    refine w_iconst (v := nZ 0) dX10_market_49 (by decide) ?_
    refine i_putI (ci := 10) 5 rfl dX10_market_50 fl_10_122 (by decide) (gT hG14 rfl (lt_of rfl)) (fun σ15 eσ16 => ?_)
    replace h := h σ15 eσ16
    have hG17 : G σ15 u := eσ16 ▸ G.wI hG14
    refine w_aload_n dX10_market_53 rfl (List.Mem.head _) ?_
    refine w_iconst (v := nZ (-1)) dX10_market_54 (by decide) ?_
    refine i_putI (ci := 10) 6 rfl dX10_market_55 fl_10_125 (by decide) (gT hG17 rfl (lt_of rfl)) (fun σ18 eσ19 => ?_)
    replace h := h σ18 eσ19
    have hG20 : G σ18 u := eσ19 ▸ G.wI hG17
    refine w_aload_n dX10_market_58 rfl (List.Mem.head _) ?_
    refine w_iconst (v := nZ 0) dX10_market_59 (by decide) ?_
    refine i_putI (ci := 10) 7 rfl dX10_market_60 fl_10_172 (by decide) (gT hG20 rfl (lt_of rfl)) (fun σ21 eσ22 => ?_)
    replace h := h σ21 eσ22
    have hG23 : G σ21 u := eσ22 ▸ G.wI hG20
    refine w_aload_n dX10_market_63 rfl (List.Mem.head _) ?_
    refine w_iconst (v := nZ 0) dX10_market_64 (by decide) ?_
    refine i_putI (ci := 10) 38 rfl dX10_market_65 fl_10_162 (by decide) (gT hG23 rfl (lt_of rfl)) (fun σ24 eσ25 => ?_)
    replace h := h σ24 eσ25
    have hG26 : G σ24 u := eσ25 ▸ G.wI hG23
    refine w_aload_n dX10_market_68 rfl (List.Mem.head _) ?_
    refine w_iconst (v := nZ 0) dX10_market_69 (by decide) ?_
    refine i_putI (ci := 10) 39 rfl dX10_market_70 fl_10_165 (by decide) (gT hG26 rfl (lt_of rfl)) (fun σ27 eσ28 => ?_)
    replace h := h σ27 eσ28
    have hG29 : G σ27 u := eσ28 ▸ G.wI hG26
    refine w_aload_n dX10_market_73 rfl (List.Mem.head _) ?_
    obtain ⟨σ30, hc32, hG31, h⟩ := h
    refine w_callV dX10_market_74 ml_10_100 ⟨ok_X10_tellsNothing, vi_X10_tellsNothing⟩ hs_X10_tellsNothing (As := []) rfl rfl (gT hG29 rfl (lt_of rfl)) (Nat.le_of_ble_eq_true rfl) hc32 ?_
    show wp C 10 cX10_market 2 (some .int) false [] sc P 77 [(0, .ref 76), (1, .int (nZ x1))] [] σ30
    refine w_aload_n dX10_market_77 rfl (List.Mem.head _) ?_
    obtain ⟨σ34, hc36, hG35, h⟩ := h
    refine w_callV dX10_market_78 ml_10_128 ⟨ok_X10_blanks, vi_X10_blanks⟩ hs_X10_blanks (As := []) rfl rfl (gT hG31 rfl (lt_of rfl)) (Nat.le_of_ble_eq_true rfl) hc36 ?_
    show wp C 10 cX10_market 2 (some .int) false [] sc P 81 [(0, .ref 76), (1, .int (nZ x1))] [] σ34
    exact h
  · replace h := h.2 c9
    refine w_iconst (v := nZ 0) dX10_market_31 (by decide) ?_
    exact w_iret dX10_market_32 rfl h
set_option maxRecDepth 10000 in
theorem v_X10_market_81 {C : aM → List Value → aH → aO → aH → Prop} {sc : Nat × (Nat → Int32)} {P : aO → aH → Prop} {σ : aH} {u : Nat}  {x1 : Int} (hG : G σ u) (rx1 : inR x1)
    (h : ((¬ (rI σ 76 5) = 0 → L_X10_market_110 C sc P x1 σ) ∧ ((rI σ 76 5) = 0 → (((rI σ 76 2) ≤ (rI σ 76 4) → L_X10_market_110 C sc P x1 σ) ∧ (¬ ((rI σ 76 2) ≤ (rI σ 76 4)) → (∃ σ1 : aH, C mX10_clause [.ref 76] σ (.inl none) σ1 ∧ G σ1 u ∧ (∃ σ5 : aH, C mX10_blanks [.ref 76] σ1 (.inl none) σ5 ∧ G σ5 u ∧ L_X10_market_81 C sc P x1 σ5))))))) :
    L_X10_market_81 C sc P x1 σ := by
  unfold L_X10_market_81
  refine w_aload_n dX10_market_81 rfl (List.Mem.head _) ?_
  refine i_getI (ci := 10) 5 rfl dX10_market_82 fl_10_122 (by decide) (gT hG rfl (lt_of rfl)) ?_
  refine i_if_ne (tgt := 110) dX10_market_85 rfl (rI_R _ _ _) (fun c9 => ?_) (fun c9 => ?_)
  · replace h := h.1 c9
    exact h
  · replace h := h.2 c9
    refine w_aload_n dX10_market_88 rfl (List.Mem.head _) ?_
    refine i_getI (ci := 10) 4 rfl dX10_market_89 fl_10_115 (by decide) (gT hG rfl (lt_of rfl)) ?_
    refine w_aload_n dX10_market_92 rfl (List.Mem.head _) ?_
    refine i_getI (ci := 10) 2 rfl dX10_market_93 fl_10_112 (by decide) (gT hG rfl (lt_of rfl)) ?_
    refine i_cmp_ge (tgt := 110) dX10_market_96 rfl (rI_R _ _ _) (rI_R _ _ _) (fun c9 => ?_) (fun c9 => ?_)
    · replace h := h.1 c9
      exact h
    · replace h := h.2 c9
      refine w_aload_n dX10_market_99 rfl (List.Mem.head _) ?_
      obtain ⟨σ1, hc3, hG2, h⟩ := h
      refine w_callV dX10_market_100 ml_10_200 ⟨ok_X10_clause, vi_X10_clause⟩ hs_X10_clause (As := []) rfl rfl (gT hG rfl (lt_of rfl)) (Nat.le_of_ble_eq_true rfl) hc3 ?_
      show wp C 10 cX10_market 2 (some .int) false [] sc P 103 [(0, .ref 76), (1, .int (nZ x1))] [] σ1
      refine w_aload_n dX10_market_103 rfl (List.Mem.head _) ?_
      obtain ⟨σ5, hc7, hG6, h⟩ := h
      refine w_callV dX10_market_104 ml_10_128 ⟨ok_X10_blanks, vi_X10_blanks⟩ hs_X10_blanks (As := []) rfl rfl (gT hG2 rfl (lt_of rfl)) (Nat.le_of_ble_eq_true rfl) hc7 ?_
      show wp C 10 cX10_market 2 (some .int) false [] sc P 107 [(0, .ref 76), (1, .int (nZ x1))] [] σ5
      refine w_goto (tgt := 81) dX10_market_107 rfl ?_
      exact h
set_option maxRecDepth 10000 in
theorem v_X10_market_110 {C : aM → List Value → aH → aO → aH → Prop} {sc : Nat × (Nat → Int32)} {P : aO → aH → Prop} {σ : aH} {u : Nat}  {x1 : Int} (hG : G σ u) (rx1 : inR x1)
    (h : (∀ σ1 : aH, wI σ 76 3 (rI σ 76 6) = σ1 → (((rI σ1 76 5) = 0 → (∃ σ4 : aH, C mX10_stands [.ref 76] σ1 (.inl none) σ4 ∧ G σ4 u ∧ P (.inl (some (.int (nZ (rI σ4 80 2))))) σ4)) ∧ (¬ ((rI σ1 76 5) = 0) → (inR ((rI σ1 76 5) - 10) ∧ P (.inl (some (.int (nZ ((rI σ1 76 5) - 10))))) σ1))))) :
    L_X10_market_110 C sc P x1 σ := by
  unfold L_X10_market_110
  refine w_aload_n dX10_market_110 rfl (List.Mem.head _) ?_
  refine w_aload_n dX10_market_111 rfl (List.Mem.head _) ?_
  refine i_getI (ci := 10) 6 rfl dX10_market_112 fl_10_125 (by decide) (gT hG rfl (lt_of rfl)) ?_
  refine i_putI (ci := 10) 3 rfl dX10_market_115 fl_10_9 (by decide) (gT hG rfl (lt_of rfl)) (fun σ1 eσ2 => ?_)
  replace h := h σ1 eσ2
  have hG3 : G σ1 u := eσ2 ▸ G.wI hG
  refine w_aload_n dX10_market_118 rfl (List.Mem.head _) ?_
  refine i_getI (ci := 10) 5 rfl dX10_market_119 fl_10_122 (by decide) (gT hG3 rfl (lt_of rfl)) ?_
  refine i_if_eq (tgt := 133) dX10_market_122 rfl (rI_R _ _ _) (fun c9 => ?_) (fun c9 => ?_)
  · replace h := h.1 c9
    refine w_aload_n dX10_market_133 rfl (List.Mem.head _) ?_
    obtain ⟨σ4, hc6, hG5, h⟩ := h
    refine w_callV dX10_market_134 ml_10_103 ⟨ok_X10_stands, vi_X10_stands⟩ hs_X10_stands (As := []) rfl rfl (gT hG3 rfl (lt_of rfl)) (Nat.le_of_ble_eq_true rfl) hc6 ?_
    show wp C 10 cX10_market 2 (some .int) false [] sc P 137 [(0, .ref 76), (1, .int (nZ x1))] [] σ4
    refine w_aload_n dX10_market_137 rfl (List.Mem.head _) ?_
    refine w_getR (ci := 10) (k := 11) (b := 80) dX10_market_138 fl_10_23 (by decide) (gT hG5 rfl (lt_of rfl)) (gR hG5 (b := 80) rfl) ?_
    refine w_iconst (v := nZ 2) dX10_market_141 (by decide) ?_
    refine i_iald (n := 8) dX10_market_142 (gT hG5 rfl (lt_of rfl)) (gL hG5 rfl) (by decide) (by decide) ?_
    exact w_iret dX10_market_143 rfl h
  · replace h := h.2 c9
    refine w_aload_n dX10_market_125 rfl (List.Mem.head _) ?_
    refine i_getI (ci := 10) 5 rfl dX10_market_126 fl_10_122 (by decide) (gT hG3 rfl (lt_of rfl)) ?_
    refine w_bipush (v := nZ 10) dX10_market_129 (by decide) ?_
    obtain ⟨q8, h⟩ := h
    refine i_sub dX10_market_131 ?_
    exact w_iret dX10_market_132 rfl h
theorem dX10_stands_0 : decode cX10_stands 0 = .ok (.iconst 0, 1) := by decide +kernel
theorem dX10_stands_1 : decode cX10_stands 1 = .ok (.istore_n 1, 1) := by decide +kernel
theorem dX10_stands_2 : decode cX10_stands 2 = .ok (.iload_n 1, 1) := by decide +kernel
theorem dX10_stands_3 : decode cX10_stands 3 = .ok (.bipush 8, 2) := by decide +kernel
theorem dX10_stands_5 : decode cX10_stands 5 = .ok (.if_icmp .ge 21, 3) := by decide +kernel
theorem dX10_stands_8 : decode cX10_stands 8 = .ok (.aload_n 0, 1) := by decide +kernel
theorem dX10_stands_9 : decode cX10_stands 9 = .ok (.getfield 23, 3) := by decide +kernel
theorem dX10_stands_12 : decode cX10_stands 12 = .ok (.iload_n 1, 1) := by decide +kernel
theorem dX10_stands_13 : decode cX10_stands 13 = .ok (.aload_n 0, 1) := by decide +kernel
theorem dX10_stands_14 : decode cX10_stands 14 = .ok (.getfield 20, 3) := by decide +kernel
theorem dX10_stands_17 : decode cX10_stands 17 = .ok (.iload_n 1, 1) := by decide +kernel
theorem dX10_stands_18 : decode cX10_stands 18 = .ok (.iaload, 1) := by decide +kernel
theorem dX10_stands_19 : decode cX10_stands 19 = .ok (.iastore, 1) := by decide +kernel
theorem dX10_stands_20 : decode cX10_stands 20 = .ok (.iinc 1 1, 3) := by decide +kernel
theorem dX10_stands_23 : decode cX10_stands 23 = .ok (.goto (-21), 3) := by decide +kernel
theorem dX10_stands_26 : decode cX10_stands 26 = .ok (.iconst 0, 1) := by decide +kernel
theorem dX10_stands_27 : decode cX10_stands 27 = .ok (.istore_n 1, 1) := by decide +kernel
theorem dX10_stands_28 : decode cX10_stands 28 = .ok (.iload_n 1, 1) := by decide +kernel
theorem dX10_stands_29 : decode cX10_stands 29 = .ok (.aload_n 0, 1) := by decide +kernel
theorem dX10_stands_30 : decode cX10_stands 30 = .ok (.getfield 23, 3) := by decide +kernel
theorem dX10_stands_33 : decode cX10_stands 33 = .ok (.iconst 2, 1) := by decide +kernel
theorem dX10_stands_34 : decode cX10_stands 34 = .ok (.iaload, 1) := by decide +kernel
theorem dX10_stands_35 : decode cX10_stands 35 = .ok (.if_icmp .ge 39, 3) := by decide +kernel
theorem dX10_stands_38 : decode cX10_stands 38 = .ok (.iconst 0, 1) := by decide +kernel
theorem dX10_stands_39 : decode cX10_stands 39 = .ok (.istore_n 2, 1) := by decide +kernel
theorem dX10_stands_40 : decode cX10_stands 40 = .ok (.iload_n 2, 1) := by decide +kernel
theorem dX10_stands_41 : decode cX10_stands 41 = .ok (.bipush 7, 2) := by decide +kernel
theorem dX10_stands_43 : decode cX10_stands 43 = .ok (.if_icmp .ge 25, 3) := by decide +kernel
theorem dX10_stands_46 : decode cX10_stands 46 = .ok (.aload_n 0, 1) := by decide +kernel
theorem dX10_stands_47 : decode cX10_stands 47 = .ok (.getfield 31, 3) := by decide +kernel
theorem dX10_stands_50 : decode cX10_stands 50 = .ok (.iload_n 1, 1) := by decide +kernel
theorem dX10_stands_51 : decode cX10_stands 51 = .ok (.aaload, 1) := by decide +kernel
theorem dX10_stands_52 : decode cX10_stands 52 = .ok (.iload_n 2, 1) := by decide +kernel
theorem dX10_stands_53 : decode cX10_stands 53 = .ok (.aload_n 0, 1) := by decide +kernel
theorem dX10_stands_54 : decode cX10_stands 54 = .ok (.getfield 28, 3) := by decide +kernel
theorem dX10_stands_57 : decode cX10_stands 57 = .ok (.iload_n 1, 1) := by decide +kernel
theorem dX10_stands_58 : decode cX10_stands 58 = .ok (.aaload, 1) := by decide +kernel
theorem dX10_stands_59 : decode cX10_stands 59 = .ok (.iload_n 2, 1) := by decide +kernel
theorem dX10_stands_60 : decode cX10_stands 60 = .ok (.iaload, 1) := by decide +kernel
theorem dX10_stands_61 : decode cX10_stands 61 = .ok (.iastore, 1) := by decide +kernel
theorem dX10_stands_62 : decode cX10_stands 62 = .ok (.iinc 2 1, 3) := by decide +kernel
theorem dX10_stands_65 : decode cX10_stands 65 = .ok (.goto (-25), 3) := by decide +kernel
theorem dX10_stands_68 : decode cX10_stands 68 = .ok (.iinc 1 1, 3) := by decide +kernel
theorem dX10_stands_71 : decode cX10_stands 71 = .ok (.goto (-43), 3) := by decide +kernel
theorem dX10_stands_74 : decode cX10_stands 74 = .ok (.iconst 0, 1) := by decide +kernel
theorem dX10_stands_75 : decode cX10_stands 75 = .ok (.istore_n 1, 1) := by decide +kernel
theorem dX10_stands_76 : decode cX10_stands 76 = .ok (.iload_n 1, 1) := by decide +kernel
theorem dX10_stands_77 : decode cX10_stands 77 = .ok (.aload_n 0, 1) := by decide +kernel
theorem dX10_stands_78 : decode cX10_stands 78 = .ok (.getfield 23, 3) := by decide +kernel
theorem dX10_stands_81 : decode cX10_stands 81 = .ok (.bipush 6, 2) := by decide +kernel
theorem dX10_stands_83 : decode cX10_stands 83 = .ok (.iaload, 1) := by decide +kernel
theorem dX10_stands_84 : decode cX10_stands 84 = .ok (.if_icmp .ge 38, 3) := by decide +kernel
theorem dX10_stands_87 : decode cX10_stands 87 = .ok (.iconst 0, 1) := by decide +kernel
theorem dX10_stands_88 : decode cX10_stands 88 = .ok (.istore_n 2, 1) := by decide +kernel
theorem dX10_stands_89 : decode cX10_stands 89 = .ok (.iload_n 2, 1) := by decide +kernel
theorem dX10_stands_90 : decode cX10_stands 90 = .ok (.iconst 4, 1) := by decide +kernel
theorem dX10_stands_91 : decode cX10_stands 91 = .ok (.if_icmp .ge 25, 3) := by decide +kernel
theorem dX10_stands_94 : decode cX10_stands 94 = .ok (.aload_n 0, 1) := by decide +kernel
theorem dX10_stands_95 : decode cX10_stands 95 = .ok (.getfield 37, 3) := by decide +kernel
theorem dX10_stands_98 : decode cX10_stands 98 = .ok (.iload_n 1, 1) := by decide +kernel
theorem dX10_stands_99 : decode cX10_stands 99 = .ok (.aaload, 1) := by decide +kernel
theorem dX10_stands_100 : decode cX10_stands 100 = .ok (.iload_n 2, 1) := by decide +kernel
theorem dX10_stands_101 : decode cX10_stands 101 = .ok (.aload_n 0, 1) := by decide +kernel
theorem dX10_stands_102 : decode cX10_stands 102 = .ok (.getfield 34, 3) := by decide +kernel
theorem dX10_stands_105 : decode cX10_stands 105 = .ok (.iload_n 1, 1) := by decide +kernel
theorem dX10_stands_106 : decode cX10_stands 106 = .ok (.aaload, 1) := by decide +kernel
theorem dX10_stands_107 : decode cX10_stands 107 = .ok (.iload_n 2, 1) := by decide +kernel
theorem dX10_stands_108 : decode cX10_stands 108 = .ok (.iaload, 1) := by decide +kernel
theorem dX10_stands_109 : decode cX10_stands 109 = .ok (.iastore, 1) := by decide +kernel
theorem dX10_stands_110 : decode cX10_stands 110 = .ok (.iinc 2 1, 3) := by decide +kernel
theorem dX10_stands_113 : decode cX10_stands 113 = .ok (.goto (-24), 3) := by decide +kernel
theorem dX10_stands_116 : decode cX10_stands 116 = .ok (.iinc 1 1, 3) := by decide +kernel
theorem dX10_stands_119 : decode cX10_stands 119 = .ok (.goto (-43), 3) := by decide +kernel
theorem dX10_stands_122 : decode cX10_stands 122 = .ok (.iconst 0, 1) := by decide +kernel
theorem dX10_stands_123 : decode cX10_stands 123 = .ok (.istore_n 1, 1) := by decide +kernel
theorem dX10_stands_124 : decode cX10_stands 124 = .ok (.iload_n 1, 1) := by decide +kernel
theorem dX10_stands_125 : decode cX10_stands 125 = .ok (.aload_n 0, 1) := by decide +kernel
theorem dX10_stands_126 : decode cX10_stands 126 = .ok (.getfield 23, 3) := by decide +kernel
theorem dX10_stands_129 : decode cX10_stands 129 = .ok (.bipush 7, 2) := by decide +kernel
theorem dX10_stands_131 : decode cX10_stands 131 = .ok (.iaload, 1) := by decide +kernel
theorem dX10_stands_132 : decode cX10_stands 132 = .ok (.if_icmp .ge 38, 3) := by decide +kernel
theorem dX10_stands_135 : decode cX10_stands 135 = .ok (.iconst 0, 1) := by decide +kernel
theorem dX10_stands_136 : decode cX10_stands 136 = .ok (.istore_n 2, 1) := by decide +kernel
theorem dX10_stands_137 : decode cX10_stands 137 = .ok (.iload_n 2, 1) := by decide +kernel
theorem dX10_stands_138 : decode cX10_stands 138 = .ok (.iconst 2, 1) := by decide +kernel
theorem dX10_stands_139 : decode cX10_stands 139 = .ok (.if_icmp .ge 25, 3) := by decide +kernel
theorem dX10_stands_142 : decode cX10_stands 142 = .ok (.aload_n 0, 1) := by decide +kernel
theorem dX10_stands_143 : decode cX10_stands 143 = .ok (.getfield 43, 3) := by decide +kernel
theorem dX10_stands_146 : decode cX10_stands 146 = .ok (.iload_n 1, 1) := by decide +kernel
theorem dX10_stands_147 : decode cX10_stands 147 = .ok (.aaload, 1) := by decide +kernel
theorem dX10_stands_148 : decode cX10_stands 148 = .ok (.iload_n 2, 1) := by decide +kernel
theorem dX10_stands_149 : decode cX10_stands 149 = .ok (.aload_n 0, 1) := by decide +kernel
theorem dX10_stands_150 : decode cX10_stands 150 = .ok (.getfield 40, 3) := by decide +kernel
theorem dX10_stands_153 : decode cX10_stands 153 = .ok (.iload_n 1, 1) := by decide +kernel
theorem dX10_stands_154 : decode cX10_stands 154 = .ok (.aaload, 1) := by decide +kernel
theorem dX10_stands_155 : decode cX10_stands 155 = .ok (.iload_n 2, 1) := by decide +kernel
theorem dX10_stands_156 : decode cX10_stands 156 = .ok (.iaload, 1) := by decide +kernel
theorem dX10_stands_157 : decode cX10_stands 157 = .ok (.iastore, 1) := by decide +kernel
theorem dX10_stands_158 : decode cX10_stands 158 = .ok (.iinc 2 1, 3) := by decide +kernel
theorem dX10_stands_161 : decode cX10_stands 161 = .ok (.goto (-24), 3) := by decide +kernel
theorem dX10_stands_164 : decode cX10_stands 164 = .ok (.iinc 1 1, 3) := by decide +kernel
theorem dX10_stands_167 : decode cX10_stands 167 = .ok (.goto (-43), 3) := by decide +kernel
theorem dX10_stands_170 : decode cX10_stands 170 = .ok (.iconst 0, 1) := by decide +kernel
theorem dX10_stands_171 : decode cX10_stands 171 = .ok (.istore_n 1, 1) := by decide +kernel
theorem dX10_stands_172 : decode cX10_stands 172 = .ok (.iload_n 1, 1) := by decide +kernel
theorem dX10_stands_173 : decode cX10_stands 173 = .ok (.bipush 8, 2) := by decide +kernel
theorem dX10_stands_175 : decode cX10_stands 175 = .ok (.if_icmp .ge 16, 3) := by decide +kernel
theorem dX10_stands_178 : decode cX10_stands 178 = .ok (.aload_n 0, 1) := by decide +kernel
theorem dX10_stands_179 : decode cX10_stands 179 = .ok (.getfield 46, 3) := by decide +kernel
theorem dX10_stands_182 : decode cX10_stands 182 = .ok (.iload_n 1, 1) := by decide +kernel
theorem dX10_stands_183 : decode cX10_stands 183 = .ok (.iconst (-1), 1) := by decide +kernel
theorem dX10_stands_184 : decode cX10_stands 184 = .ok (.iastore, 1) := by decide +kernel
theorem dX10_stands_185 : decode cX10_stands 185 = .ok (.iinc 1 1, 3) := by decide +kernel
theorem dX10_stands_188 : decode cX10_stands 188 = .ok (.goto (-16), 3) := by decide +kernel
theorem dX10_stands_191 : decode cX10_stands 191 = .ok (.aload_n 0, 1) := by decide +kernel
theorem dX10_stands_192 : decode cX10_stands 192 = .ok (.iconst 0, 1) := by decide +kernel
theorem dX10_stands_193 : decode cX10_stands 193 = .ok (.putfield 203, 3) := by decide +kernel
theorem dX10_stands_196 : decode cX10_stands 196 = .ok (.aload_n 0, 1) := by decide +kernel
theorem dX10_stands_197 : decode cX10_stands 197 = .ok (.iconst 0, 1) := by decide +kernel
theorem dX10_stands_198 : decode cX10_stands 198 = .ok (.putfield 206, 3) := by decide +kernel
theorem dX10_stands_201 : decode cX10_stands 201 = .ok (.aload_n 0, 1) := by decide +kernel
theorem dX10_stands_202 : decode cX10_stands 202 = .ok (.iconst 0, 1) := by decide +kernel
theorem dX10_stands_203 : decode cX10_stands 203 = .ok (.putfield 209, 3) := by decide +kernel
theorem dX10_stands_206 : decode cX10_stands 206 = .ok (.aload_n 0, 1) := by decide +kernel
theorem dX10_stands_207 : decode cX10_stands 207 = .ok (.iconst 0, 1) := by decide +kernel
theorem dX10_stands_208 : decode cX10_stands 208 = .ok (.putfield 212, 3) := by decide +kernel
theorem dX10_stands_211 : decode cX10_stands 211 = .ok (.aload_n 0, 1) := by decide +kernel
theorem dX10_stands_212 : decode cX10_stands 212 = .ok (.iconst 0, 1) := by decide +kernel
theorem dX10_stands_213 : decode cX10_stands 213 = .ok (.putfield 215, 3) := by decide +kernel
theorem dX10_stands_216 : decode cX10_stands 216 = .ok (.aload_n 0, 1) := by decide +kernel
theorem dX10_stands_217 : decode cX10_stands 217 = .ok (.aload_n 0, 1) := by decide +kernel
theorem dX10_stands_218 : decode cX10_stands 218 = .ok (.getfield 23, 3) := by decide +kernel
theorem dX10_stands_221 : decode cX10_stands 221 = .ok (.iconst 2, 1) := by decide +kernel
theorem dX10_stands_222 : decode cX10_stands 222 = .ok (.iaload, 1) := by decide +kernel
theorem dX10_stands_223 : decode cX10_stands 223 = .ok (.putfield 218, 3) := by decide +kernel
theorem dX10_stands_226 : decode cX10_stands 226 = .ok (.aload_n 0, 1) := by decide +kernel
theorem dX10_stands_227 : decode cX10_stands 227 = .ok (.invokevirtual 221, 3) := by decide +kernel
theorem dX10_stands_230 : decode cX10_stands 230 = .ok (.return_, 1) := by decide +kernel
def L_X10_stands_2 (C : aM → List Value → aH → aO → aH → Prop) (sc : Nat × (Nat → Int32)) (P : aO → aH → Prop) (x1 : Int) (σ : aH) : Prop :=
    wp C 10 cX10_stands 3 none false [] sc P 2 [(0, .ref 76), (1, .int (nZ x1))] [] σ
def L_X10_stands_28 (C : aM → List Value → aH → aO → aH → Prop) (sc : Nat × (Nat → Int32)) (P : aO → aH → Prop) (x1 : Int) (σ : aH) : Prop :=
    wp C 10 cX10_stands 3 none false [] sc P 28 [(0, .ref 76), (1, .int (nZ x1))] [] σ
def L_X10_stands_76 (C : aM → List Value → aH → aO → aH → Prop) (sc : Nat × (Nat → Int32)) (P : aO → aH → Prop) (x1 : Int) (σ : aH) : Prop :=
    wp C 10 cX10_stands 3 none false [] sc P 76 [(0, .ref 76), (1, .int (nZ x1))] [] σ
def L_X10_stands_40 (C : aM → List Value → aH → aO → aH → Prop) (sc : Nat × (Nat → Int32)) (P : aO → aH → Prop) (x1 : Int) (x2 : Int) (σ : aH) : Prop :=
    wp C 10 cX10_stands 3 none false [] sc P 40 [(0, .ref 76), (1, .int (nZ x1)), (2, .int (nZ x2))] [] σ
def L_X10_stands_124 (C : aM → List Value → aH → aO → aH → Prop) (sc : Nat × (Nat → Int32)) (P : aO → aH → Prop) (x1 : Int) (σ : aH) : Prop :=
    wp C 10 cX10_stands 3 none false [] sc P 124 [(0, .ref 76), (1, .int (nZ x1))] [] σ
def L_X10_stands_89 (C : aM → List Value → aH → aO → aH → Prop) (sc : Nat × (Nat → Int32)) (P : aO → aH → Prop) (x1 : Int) (x2 : Int) (σ : aH) : Prop :=
    wp C 10 cX10_stands 3 none false [] sc P 89 [(0, .ref 76), (1, .int (nZ x1)), (2, .int (nZ x2))] [] σ
def L_X10_stands_172 (C : aM → List Value → aH → aO → aH → Prop) (sc : Nat × (Nat → Int32)) (P : aO → aH → Prop) (x1 : Int) (σ : aH) : Prop :=
    wp C 10 cX10_stands 3 none false [] sc P 172 [(0, .ref 76), (1, .int (nZ x1))] [] σ
def L_X10_stands_137 (C : aM → List Value → aH → aO → aH → Prop) (sc : Nat × (Nat → Int32)) (P : aO → aH → Prop) (x1 : Int) (x2 : Int) (σ : aH) : Prop :=
    wp C 10 cX10_stands 3 none false [] sc P 137 [(0, .ref 76), (1, .int (nZ x1)), (2, .int (nZ x2))] [] σ
set_option maxRecDepth 10000 in
theorem t_X10_stands {sc : Nat × (Nat → Int32)} {d : Nat} {Q : aO → aH → Prop} {σ : aH} {u : Nat}   (hG : G σ u) 
    (h : L_X10_stands_2 (Ev sc d) sc Q 0 σ) :
    T sc (d + 1) mX10_stands [.ref 76] σ Q := by
  refine T.of (c := 10) (code := cX10_stands) (mL := 3) (rt := none) (ini := false) (l := [(0, .ref 76)]) rfl rfl rfl rfl (by decide) hs_X10_stands rfl rfl ?_
  refine w_iconst (v := nZ 0) dX10_stands_0 (by decide) ?_
  refine w_istore_n (l' := [(1, .int (nZ 0)), (0, .ref 76)]) dX10_stands_1 rfl (by decide) rfl ?_
  exact w_weak (l' := [(0, .ref 76), (1, .int (nZ 0))]) (by intro q hq; simp only [List.mem_cons, List.not_mem_nil, or_false] at hq ⊢; rcases hq with rfl | rfl <;> simp) h
set_option maxRecDepth 10000 in
theorem v_X10_stands_2 {C : aM → List Value → aH → aO → aH → Prop} {sc : Nat × (Nat → Int32)} {P : aO → aH → Prop} {σ : aH} {u : Nat}  {x1 : Int} (hG : G σ u) (rx1 : inR x1)
    (h : ((8 ≤ x1 → L_X10_stands_28 C sc P 0 σ) ∧ (¬ (8 ≤ x1) → ((0 ≤ x1 ∧ x1 < 8) ∧ ((0 ≤ x1 ∧ x1 < 8) ∧ (∀ σ1 : aH, wI σ 80 x1 (rI σ 79 x1) = σ1 → (inR (x1 + 1) ∧ L_X10_stands_2 C sc P (x1 + 1) σ1))))))) :
    L_X10_stands_2 C sc P x1 σ := by
  unfold L_X10_stands_2
  refine w_iload_n dX10_stands_2 rfl (List.Mem.tail _ (List.Mem.head _)) ?_
  refine w_bipush (v := nZ 8) dX10_stands_3 (by decide) ?_
  refine i_cmp_ge (tgt := 26) dX10_stands_5 rfl rx1 (by decide) (fun c9 => ?_) (fun c9 => ?_)
  · replace h := h.1 c9
    refine w_iconst (v := nZ 0) dX10_stands_26 (by decide) ?_
    refine w_istore_n (l' := [(1, .int (nZ 0)), (0, .ref 76)]) dX10_stands_27 rfl (by decide) rfl ?_
    exact w_weak (l' := [(0, .ref 76), (1, .int (nZ 0))]) (by intro q hq; simp only [List.mem_cons, List.not_mem_nil, or_false] at hq ⊢; rcases hq with rfl | rfl <;> simp) h
  · replace h := h.2 c9
    refine w_aload_n dX10_stands_8 rfl (List.Mem.head _) ?_
    refine w_getR (ci := 10) (k := 11) (b := 80) dX10_stands_9 fl_10_23 (by decide) (gT hG rfl (lt_of rfl)) (gR hG (b := 80) rfl) ?_
    refine w_iload_n dX10_stands_12 rfl (List.Mem.tail _ (List.Mem.head _)) ?_
    refine w_aload_n dX10_stands_13 rfl (List.Mem.head _) ?_
    refine w_getR (ci := 10) (k := 10) (b := 79) dX10_stands_14 fl_10_20 (by decide) (gT hG rfl (lt_of rfl)) (gR hG (b := 79) rfl) ?_
    refine w_iload_n dX10_stands_17 rfl (List.Mem.tail _ (List.Mem.head _)) ?_
    obtain ⟨h9, h⟩ := h
    refine i_iald (n := 8) dX10_stands_18 (gT hG rfl (lt_of rfl)) (gL hG rfl) rx1 h9 ?_
    obtain ⟨h9, h⟩ := h
    refine i_iast (n := 8) dX10_stands_19 (gT hG rfl (lt_of rfl)) (gL hG rfl) rx1 h9 (fun σ1 eσ2 => ?_)
    replace h := h σ1 eσ2
    have hG3 : G σ1 u := eσ2 ▸ G.wI hG
    obtain ⟨q4, h⟩ := h
    refine w_iinc (v := nZ (x1 + 1)) (l' := [(1, .int (nZ (x1 + 1))), (0, .ref 76)]) dX10_stands_20 (List.Mem.tail _ (List.Mem.head _)) (nZ_add _ _) (by decide) rfl ?_
    refine w_goto (tgt := 2) dX10_stands_23 rfl ?_
    exact w_weak (l' := [(0, .ref 76), (1, .int (nZ (x1 + 1)))]) (by intro q hq; simp only [List.mem_cons, List.not_mem_nil, or_false] at hq ⊢; rcases hq with rfl | rfl <;> simp) h
set_option maxRecDepth 10000 in
theorem v_X10_stands_28 {C : aM → List Value → aH → aO → aH → Prop} {sc : Nat × (Nat → Int32)} {P : aO → aH → Prop} {σ : aH} {u : Nat}  {x1 : Int} (hG : G σ u) (rx1 : inR x1)
    (h : (((rI σ 80 2) ≤ x1 → L_X10_stands_76 C sc P 0 σ) ∧ (¬ ((rI σ 80 2) ≤ x1) → L_X10_stands_40 C sc P x1 0 σ))) :
    L_X10_stands_28 C sc P x1 σ := by
  unfold L_X10_stands_28
  refine w_iload_n dX10_stands_28 rfl (List.Mem.tail _ (List.Mem.head _)) ?_
  refine w_aload_n dX10_stands_29 rfl (List.Mem.head _) ?_
  refine w_getR (ci := 10) (k := 11) (b := 80) dX10_stands_30 fl_10_23 (by decide) (gT hG rfl (lt_of rfl)) (gR hG (b := 80) rfl) ?_
  refine w_iconst (v := nZ 2) dX10_stands_33 (by decide) ?_
  refine i_iald (n := 8) dX10_stands_34 (gT hG rfl (lt_of rfl)) (gL hG rfl) (by decide) (by decide) ?_
  refine i_cmp_ge (tgt := 74) dX10_stands_35 rfl rx1 (rI_R _ _ _) (fun c9 => ?_) (fun c9 => ?_)
  · replace h := h.1 c9
    refine w_iconst (v := nZ 0) dX10_stands_74 (by decide) ?_
    refine w_istore_n (l' := [(1, .int (nZ 0)), (0, .ref 76)]) dX10_stands_75 rfl (by decide) rfl ?_
    exact w_weak (l' := [(0, .ref 76), (1, .int (nZ 0))]) (by intro q hq; simp only [List.mem_cons, List.not_mem_nil, or_false] at hq ⊢; rcases hq with rfl | rfl <;> simp) h
  · replace h := h.2 c9
    refine w_iconst (v := nZ 0) dX10_stands_38 (by decide) ?_
    refine w_istore_n (l' := [(2, .int (nZ 0)), (0, .ref 76), (1, .int (nZ x1))]) dX10_stands_39 rfl (by decide) rfl ?_
    exact w_weak (l' := [(0, .ref 76), (1, .int (nZ x1)), (2, .int (nZ 0))]) (by intro q hq; simp only [List.mem_cons, List.not_mem_nil, or_false] at hq ⊢; rcases hq with rfl | rfl | rfl <;> simp) h
set_option maxRecDepth 10000 in
theorem v_X10_stands_76 {C : aM → List Value → aH → aO → aH → Prop} {sc : Nat × (Nat → Int32)} {P : aO → aH → Prop} {σ : aH} {u : Nat}  {x1 : Int} (hG : G σ u) (rx1 : inR x1)
    (h : (((rI σ 80 6) ≤ x1 → L_X10_stands_124 C sc P 0 σ) ∧ (¬ ((rI σ 80 6) ≤ x1) → L_X10_stands_89 C sc P x1 0 σ))) :
    L_X10_stands_76 C sc P x1 σ := by
  unfold L_X10_stands_76
  refine w_iload_n dX10_stands_76 rfl (List.Mem.tail _ (List.Mem.head _)) ?_
  refine w_aload_n dX10_stands_77 rfl (List.Mem.head _) ?_
  refine w_getR (ci := 10) (k := 11) (b := 80) dX10_stands_78 fl_10_23 (by decide) (gT hG rfl (lt_of rfl)) (gR hG (b := 80) rfl) ?_
  refine w_bipush (v := nZ 6) dX10_stands_81 (by decide) ?_
  refine i_iald (n := 8) dX10_stands_83 (gT hG rfl (lt_of rfl)) (gL hG rfl) (by decide) (by decide) ?_
  refine i_cmp_ge (tgt := 122) dX10_stands_84 rfl rx1 (rI_R _ _ _) (fun c9 => ?_) (fun c9 => ?_)
  · replace h := h.1 c9
    refine w_iconst (v := nZ 0) dX10_stands_122 (by decide) ?_
    refine w_istore_n (l' := [(1, .int (nZ 0)), (0, .ref 76)]) dX10_stands_123 rfl (by decide) rfl ?_
    exact w_weak (l' := [(0, .ref 76), (1, .int (nZ 0))]) (by intro q hq; simp only [List.mem_cons, List.not_mem_nil, or_false] at hq ⊢; rcases hq with rfl | rfl <;> simp) h
  · replace h := h.2 c9
    refine w_iconst (v := nZ 0) dX10_stands_87 (by decide) ?_
    refine w_istore_n (l' := [(2, .int (nZ 0)), (0, .ref 76), (1, .int (nZ x1))]) dX10_stands_88 rfl (by decide) rfl ?_
    exact w_weak (l' := [(0, .ref 76), (1, .int (nZ x1)), (2, .int (nZ 0))]) (by intro q hq; simp only [List.mem_cons, List.not_mem_nil, or_false] at hq ⊢; rcases hq with rfl | rfl | rfl <;> simp) h
set_option maxRecDepth 10000 in
theorem v_X10_stands_40 {C : aM → List Value → aH → aO → aH → Prop} {sc : Nat × (Nat → Int32)} {P : aO → aH → Prop} {σ : aH} {u : Nat}  {x1 : Int} {x2 : Int} (hG : G σ u) (rx1 : inR x1) (rx2 : inR x2)
    (h : ((7 ≤ x2 → (inR (x1 + 1) ∧ L_X10_stands_28 C sc P (x1 + 1) σ)) ∧ (¬ (7 ≤ x2) → ((0 ≤ x1 ∧ x1 < 9) ∧ ((0 ≤ x1 ∧ x1 < 8) ∧ ((0 ≤ x2 ∧ x2 < 7) ∧ ((0 ≤ x2 ∧ x2 < 7) ∧ (∀ σ4 : aH, wI σ (91 + x1.toNat) x2 (rI σ (82 + x1.toNat) x2) = σ4 → (inR (x2 + 1) ∧ L_X10_stands_40 C sc P x1 (x2 + 1) σ4))))))))) :
    L_X10_stands_40 C sc P x1 x2 σ := by
  unfold L_X10_stands_40
  refine w_iload_n dX10_stands_40 rfl (List.Mem.tail _ (List.Mem.tail _ (List.Mem.head _))) ?_
  refine w_bipush (v := nZ 7) dX10_stands_41 (by decide) ?_
  refine i_cmp_ge (tgt := 68) dX10_stands_43 rfl rx2 (by decide) (fun c9 => ?_) (fun c9 => ?_)
  · replace h := h.1 c9
    obtain ⟨q1, h⟩ := h
    refine w_iinc (v := nZ (x1 + 1)) (l' := [(1, .int (nZ (x1 + 1))), (0, .ref 76), (2, .int (nZ x2))]) dX10_stands_68 (List.Mem.tail _ (List.Mem.head _)) (nZ_add _ _) (by decide) rfl ?_
    refine w_goto (tgt := 28) dX10_stands_71 rfl ?_
    exact w_weak (l' := [(0, .ref 76), (1, .int (nZ (x1 + 1)))]) (by intro q hq; simp only [List.mem_cons, List.not_mem_nil, or_false] at hq ⊢; rcases hq with rfl | rfl <;> simp) h
  · replace h := h.2 c9
    refine w_aload_n dX10_stands_46 rfl (List.Mem.head _) ?_
    refine w_getR (ci := 10) (k := 13) (b := 90) dX10_stands_47 fl_10_31 (by decide) (gT hG rfl (lt_of rfl)) (gR hG (b := 90) rfl) ?_
    refine w_iload_n dX10_stands_50 rfl (List.Mem.tail _ (List.Mem.head _)) ?_
    obtain ⟨h9, h⟩ := h
    have hj2 := vin_lt2 (n := 9) h9 rfl
    refine i_aald (n := 9) (b := (91 + x1.toNat)) dX10_stands_51 (gT hG rfl (lt_of rfl)) (gL hG rfl) rx1 h9 (gR hG (rr_90 hj2)) ?_
    refine w_iload_n dX10_stands_52 rfl (List.Mem.tail _ (List.Mem.tail _ (List.Mem.head _))) ?_
    refine w_aload_n dX10_stands_53 rfl (List.Mem.head _) ?_
    refine w_getR (ci := 10) (k := 12) (b := 81) dX10_stands_54 fl_10_28 (by decide) (gT hG rfl (lt_of rfl)) (gR hG (b := 81) rfl) ?_
    refine w_iload_n dX10_stands_57 rfl (List.Mem.tail _ (List.Mem.head _)) ?_
    obtain ⟨h9, h⟩ := h
    have hj3 := vin_lt2 (n := 8) h9 rfl
    refine i_aald (n := 8) (b := (82 + x1.toNat)) dX10_stands_58 (gT hG rfl (lt_of rfl)) (gL hG rfl) rx1 h9 (gR hG (rr_81 hj3)) ?_
    refine w_iload_n dX10_stands_59 rfl (List.Mem.tail _ (List.Mem.tail _ (List.Mem.head _))) ?_
    obtain ⟨h9, h⟩ := h
    refine i_iald (n := 7) dX10_stands_60 (gT hG (ro_81 _ hj3).1 (by have := hj3; omega)) (gL hG (ro_81 _ hj3).2) rx2 h9 ?_
    obtain ⟨h9, h⟩ := h
    refine i_iast (n := 7) dX10_stands_61 (gT hG (ro_90 _ hj2).1 (by have := hj2; omega)) (gL hG (ro_90 _ hj2).2) rx2 h9 (fun σ4 eσ5 => ?_)
    replace h := h σ4 eσ5
    have hG6 : G σ4 u := eσ5 ▸ G.wI hG
    obtain ⟨q7, h⟩ := h
    refine w_iinc (v := nZ (x2 + 1)) (l' := [(2, .int (nZ (x2 + 1))), (0, .ref 76), (1, .int (nZ x1))]) dX10_stands_62 (List.Mem.tail _ (List.Mem.tail _ (List.Mem.head _))) (nZ_add _ _) (by decide) rfl ?_
    refine w_goto (tgt := 40) dX10_stands_65 rfl ?_
    exact w_weak (l' := [(0, .ref 76), (1, .int (nZ x1)), (2, .int (nZ (x2 + 1)))]) (by intro q hq; simp only [List.mem_cons, List.not_mem_nil, or_false] at hq ⊢; rcases hq with rfl | rfl | rfl <;> simp) h
set_option maxRecDepth 10000 in
theorem v_X10_stands_124 {C : aM → List Value → aH → aO → aH → Prop} {sc : Nat × (Nat → Int32)} {P : aO → aH → Prop} {σ : aH} {u : Nat}  {x1 : Int} (hG : G σ u) (rx1 : inR x1)
    (h : (((rI σ 80 7) ≤ x1 → L_X10_stands_172 C sc P 0 σ) ∧ (¬ ((rI σ 80 7) ≤ x1) → L_X10_stands_137 C sc P x1 0 σ))) :
    L_X10_stands_124 C sc P x1 σ := by
  unfold L_X10_stands_124
  refine w_iload_n dX10_stands_124 rfl (List.Mem.tail _ (List.Mem.head _)) ?_
  refine w_aload_n dX10_stands_125 rfl (List.Mem.head _) ?_
  refine w_getR (ci := 10) (k := 11) (b := 80) dX10_stands_126 fl_10_23 (by decide) (gT hG rfl (lt_of rfl)) (gR hG (b := 80) rfl) ?_
  refine w_bipush (v := nZ 7) dX10_stands_129 (by decide) ?_
  refine i_iald (n := 8) dX10_stands_131 (gT hG rfl (lt_of rfl)) (gL hG rfl) (by decide) (by decide) ?_
  refine i_cmp_ge (tgt := 170) dX10_stands_132 rfl rx1 (rI_R _ _ _) (fun c9 => ?_) (fun c9 => ?_)
  · replace h := h.1 c9
    refine w_iconst (v := nZ 0) dX10_stands_170 (by decide) ?_
    refine w_istore_n (l' := [(1, .int (nZ 0)), (0, .ref 76)]) dX10_stands_171 rfl (by decide) rfl ?_
    exact w_weak (l' := [(0, .ref 76), (1, .int (nZ 0))]) (by intro q hq; simp only [List.mem_cons, List.not_mem_nil, or_false] at hq ⊢; rcases hq with rfl | rfl <;> simp) h
  · replace h := h.2 c9
    refine w_iconst (v := nZ 0) dX10_stands_135 (by decide) ?_
    refine w_istore_n (l' := [(2, .int (nZ 0)), (0, .ref 76), (1, .int (nZ x1))]) dX10_stands_136 rfl (by decide) rfl ?_
    exact w_weak (l' := [(0, .ref 76), (1, .int (nZ x1)), (2, .int (nZ 0))]) (by intro q hq; simp only [List.mem_cons, List.not_mem_nil, or_false] at hq ⊢; rcases hq with rfl | rfl | rfl <;> simp) h
set_option maxRecDepth 10000 in
theorem v_X10_stands_89 {C : aM → List Value → aH → aO → aH → Prop} {sc : Nat × (Nat → Int32)} {P : aO → aH → Prop} {σ : aH} {u : Nat}  {x1 : Int} {x2 : Int} (hG : G σ u) (rx1 : inR x1) (rx2 : inR x2)
    (h : ((4 ≤ x2 → (inR (x1 + 1) ∧ L_X10_stands_76 C sc P (x1 + 1) σ)) ∧ (¬ (4 ≤ x2) → ((0 ≤ x1 ∧ x1 < 20) ∧ ((0 ≤ x1 ∧ x1 < 20) ∧ ((0 ≤ x2 ∧ x2 < 4) ∧ ((0 ≤ x2 ∧ x2 < 4) ∧ (∀ σ4 : aH, wI σ (122 + x1.toNat) x2 (rI σ (101 + x1.toNat) x2) = σ4 → (inR (x2 + 1) ∧ L_X10_stands_89 C sc P x1 (x2 + 1) σ4))))))))) :
    L_X10_stands_89 C sc P x1 x2 σ := by
  unfold L_X10_stands_89
  refine w_iload_n dX10_stands_89 rfl (List.Mem.tail _ (List.Mem.tail _ (List.Mem.head _))) ?_
  refine w_iconst (v := nZ 4) dX10_stands_90 (by decide) ?_
  refine i_cmp_ge (tgt := 116) dX10_stands_91 rfl rx2 (by decide) (fun c9 => ?_) (fun c9 => ?_)
  · replace h := h.1 c9
    obtain ⟨q1, h⟩ := h
    refine w_iinc (v := nZ (x1 + 1)) (l' := [(1, .int (nZ (x1 + 1))), (0, .ref 76), (2, .int (nZ x2))]) dX10_stands_116 (List.Mem.tail _ (List.Mem.head _)) (nZ_add _ _) (by decide) rfl ?_
    refine w_goto (tgt := 76) dX10_stands_119 rfl ?_
    exact w_weak (l' := [(0, .ref 76), (1, .int (nZ (x1 + 1)))]) (by intro q hq; simp only [List.mem_cons, List.not_mem_nil, or_false] at hq ⊢; rcases hq with rfl | rfl <;> simp) h
  · replace h := h.2 c9
    refine w_aload_n dX10_stands_94 rfl (List.Mem.head _) ?_
    refine w_getR (ci := 10) (k := 15) (b := 121) dX10_stands_95 fl_10_37 (by decide) (gT hG rfl (lt_of rfl)) (gR hG (b := 121) rfl) ?_
    refine w_iload_n dX10_stands_98 rfl (List.Mem.tail _ (List.Mem.head _)) ?_
    obtain ⟨h9, h⟩ := h
    have hj2 := vin_lt2 (n := 20) h9 rfl
    refine i_aald (n := 20) (b := (122 + x1.toNat)) dX10_stands_99 (gT hG rfl (lt_of rfl)) (gL hG rfl) rx1 h9 (gR hG (rr_121 hj2)) ?_
    refine w_iload_n dX10_stands_100 rfl (List.Mem.tail _ (List.Mem.tail _ (List.Mem.head _))) ?_
    refine w_aload_n dX10_stands_101 rfl (List.Mem.head _) ?_
    refine w_getR (ci := 10) (k := 14) (b := 100) dX10_stands_102 fl_10_34 (by decide) (gT hG rfl (lt_of rfl)) (gR hG (b := 100) rfl) ?_
    refine w_iload_n dX10_stands_105 rfl (List.Mem.tail _ (List.Mem.head _)) ?_
    obtain ⟨h9, h⟩ := h
    have hj3 := vin_lt2 (n := 20) h9 rfl
    refine i_aald (n := 20) (b := (101 + x1.toNat)) dX10_stands_106 (gT hG rfl (lt_of rfl)) (gL hG rfl) rx1 h9 (gR hG (rr_100 hj3)) ?_
    refine w_iload_n dX10_stands_107 rfl (List.Mem.tail _ (List.Mem.tail _ (List.Mem.head _))) ?_
    obtain ⟨h9, h⟩ := h
    refine i_iald (n := 4) dX10_stands_108 (gT hG (ro_100 _ hj3).1 (by have := hj3; omega)) (gL hG (ro_100 _ hj3).2) rx2 h9 ?_
    obtain ⟨h9, h⟩ := h
    refine i_iast (n := 4) dX10_stands_109 (gT hG (ro_121 _ hj2).1 (by have := hj2; omega)) (gL hG (ro_121 _ hj2).2) rx2 h9 (fun σ4 eσ5 => ?_)
    replace h := h σ4 eσ5
    have hG6 : G σ4 u := eσ5 ▸ G.wI hG
    obtain ⟨q7, h⟩ := h
    refine w_iinc (v := nZ (x2 + 1)) (l' := [(2, .int (nZ (x2 + 1))), (0, .ref 76), (1, .int (nZ x1))]) dX10_stands_110 (List.Mem.tail _ (List.Mem.tail _ (List.Mem.head _))) (nZ_add _ _) (by decide) rfl ?_
    refine w_goto (tgt := 89) dX10_stands_113 rfl ?_
    exact w_weak (l' := [(0, .ref 76), (1, .int (nZ x1)), (2, .int (nZ (x2 + 1)))]) (by intro q hq; simp only [List.mem_cons, List.not_mem_nil, or_false] at hq ⊢; rcases hq with rfl | rfl | rfl <;> simp) h
set_option maxRecDepth 10000 in
theorem v_X10_stands_172 {C : aM → List Value → aH → aO → aH → Prop} {sc : Nat × (Nat → Int32)} {P : aO → aH → Prop} {σ : aH} {u : Nat}  {x1 : Int} (hG : G σ u) (rx1 : inR x1)
    (h : ((8 ≤ x1 → (∀ σ1 : aH, wI σ 76 18 0 = σ1 → (∀ σ4 : aH, wI σ1 76 19 0 = σ4 → (∀ σ7 : aH, wI σ4 76 20 0 = σ7 → (∀ σ10 : aH, wI σ7 76 21 0 = σ10 → (∀ σ13 : aH, wI σ10 76 27 0 = σ13 → (∀ σ16 : aH, wI σ13 76 28 (rI σ13 80 2) = σ16 → (∃ σ19 : aH, C mX10_laysPieces [.ref 76] σ16 (.inl none) σ19 ∧ G σ19 u ∧ P (.inl none) σ19)))))))) ∧ (¬ (8 ≤ x1) → ((0 ≤ x1 ∧ x1 < 8) ∧ (∀ σ23 : aH, wI σ 184 x1 (-1) = σ23 → (inR (x1 + 1) ∧ L_X10_stands_172 C sc P (x1 + 1) σ23)))))) :
    L_X10_stands_172 C sc P x1 σ := by
  unfold L_X10_stands_172
  refine w_iload_n dX10_stands_172 rfl (List.Mem.tail _ (List.Mem.head _)) ?_
  refine w_bipush (v := nZ 8) dX10_stands_173 (by decide) ?_
  refine i_cmp_ge (tgt := 191) dX10_stands_175 rfl rx1 (by decide) (fun c9 => ?_) (fun c9 => ?_)
  · replace h := h.1 c9
    refine w_aload_n dX10_stands_191 rfl (List.Mem.head _) ?_
    refine w_iconst (v := nZ 0) dX10_stands_192 (by decide) ?_
    refine i_putI (ci := 10) 18 rfl dX10_stands_193 fl_10_203 (by decide) (gT hG rfl (lt_of rfl)) (fun σ1 eσ2 => ?_)
    replace h := h σ1 eσ2
    have hG3 : G σ1 u := eσ2 ▸ G.wI hG
    refine w_aload_n dX10_stands_196 rfl (List.Mem.head _) ?_
    refine w_iconst (v := nZ 0) dX10_stands_197 (by decide) ?_
    refine i_putI (ci := 10) 19 rfl dX10_stands_198 fl_10_206 (by decide) (gT hG3 rfl (lt_of rfl)) (fun σ4 eσ5 => ?_)
    replace h := h σ4 eσ5
    have hG6 : G σ4 u := eσ5 ▸ G.wI hG3
    refine w_aload_n dX10_stands_201 rfl (List.Mem.head _) ?_
    refine w_iconst (v := nZ 0) dX10_stands_202 (by decide) ?_
    refine i_putI (ci := 10) 20 rfl dX10_stands_203 fl_10_209 (by decide) (gT hG6 rfl (lt_of rfl)) (fun σ7 eσ8 => ?_)
    replace h := h σ7 eσ8
    have hG9 : G σ7 u := eσ8 ▸ G.wI hG6
    refine w_aload_n dX10_stands_206 rfl (List.Mem.head _) ?_
    refine w_iconst (v := nZ 0) dX10_stands_207 (by decide) ?_
    refine i_putI (ci := 10) 21 rfl dX10_stands_208 fl_10_212 (by decide) (gT hG9 rfl (lt_of rfl)) (fun σ10 eσ11 => ?_)
    replace h := h σ10 eσ11
    have hG12 : G σ10 u := eσ11 ▸ G.wI hG9
    refine w_aload_n dX10_stands_211 rfl (List.Mem.head _) ?_
    refine w_iconst (v := nZ 0) dX10_stands_212 (by decide) ?_
    refine i_putI (ci := 10) 27 rfl dX10_stands_213 fl_10_215 (by decide) (gT hG12 rfl (lt_of rfl)) (fun σ13 eσ14 => ?_)
    replace h := h σ13 eσ14
    have hG15 : G σ13 u := eσ14 ▸ G.wI hG12
    refine w_aload_n dX10_stands_216 rfl (List.Mem.head _) ?_
    refine w_aload_n dX10_stands_217 rfl (List.Mem.head _) ?_
    refine w_getR (ci := 10) (k := 11) (b := 80) dX10_stands_218 fl_10_23 (by decide) (gT hG15 rfl (lt_of rfl)) (gR hG15 (b := 80) rfl) ?_
    refine w_iconst (v := nZ 2) dX10_stands_221 (by decide) ?_
    refine i_iald (n := 8) dX10_stands_222 (gT hG15 rfl (lt_of rfl)) (gL hG15 rfl) (by decide) (by decide) ?_
    refine i_putI (ci := 10) 28 rfl dX10_stands_223 fl_10_218 (by decide) (gT hG15 rfl (lt_of rfl)) (fun σ16 eσ17 => ?_)
    replace h := h σ16 eσ17
    have hG18 : G σ16 u := eσ17 ▸ G.wI hG15
    refine w_aload_n dX10_stands_226 rfl (List.Mem.head _) ?_
    obtain ⟨σ19, hc21, hG20, h⟩ := h
    refine w_callV dX10_stands_227 ml_10_221 ⟨ok_X10_laysPieces, vi_X10_laysPieces⟩ hs_X10_laysPieces (As := []) rfl rfl (gT hG18 rfl (lt_of rfl)) (Nat.le_of_ble_eq_true rfl) hc21 ?_
    show wp C 10 cX10_stands 3 none false [] sc P 230 [(0, .ref 76), (1, .int (nZ x1))] [] σ19
    exact w_vret dX10_stands_230 rfl h
  · replace h := h.2 c9
    refine w_aload_n dX10_stands_178 rfl (List.Mem.head _) ?_
    refine w_getR (ci := 10) (k := 23) (b := 184) dX10_stands_179 fl_10_46 (by decide) (gT hG rfl (lt_of rfl)) (gR hG (b := 184) rfl) ?_
    refine w_iload_n dX10_stands_182 rfl (List.Mem.tail _ (List.Mem.head _)) ?_
    refine w_iconst (v := nZ (-1)) dX10_stands_183 (by decide) ?_
    obtain ⟨h9, h⟩ := h
    refine i_iast (n := 8) dX10_stands_184 (gT hG rfl (lt_of rfl)) (gL hG rfl) rx1 h9 (fun σ23 eσ24 => ?_)
    replace h := h σ23 eσ24
    have hG25 : G σ23 u := eσ24 ▸ G.wI hG
    obtain ⟨q26, h⟩ := h
    refine w_iinc (v := nZ (x1 + 1)) (l' := [(1, .int (nZ (x1 + 1))), (0, .ref 76)]) dX10_stands_185 (List.Mem.tail _ (List.Mem.head _)) (nZ_add _ _) (by decide) rfl ?_
    refine w_goto (tgt := 172) dX10_stands_188 rfl ?_
    exact w_weak (l' := [(0, .ref 76), (1, .int (nZ (x1 + 1)))]) (by intro q hq; simp only [List.mem_cons, List.not_mem_nil, or_false] at hq ⊢; rcases hq with rfl | rfl <;> simp) h
set_option maxRecDepth 10000 in
theorem v_X10_stands_137 {C : aM → List Value → aH → aO → aH → Prop} {sc : Nat × (Nat → Int32)} {P : aO → aH → Prop} {σ : aH} {u : Nat}  {x1 : Int} {x2 : Int} (hG : G σ u) (rx1 : inR x1) (rx2 : inR x2)
    (h : ((2 ≤ x2 → (inR (x1 + 1) ∧ L_X10_stands_124 C sc P (x1 + 1) σ)) ∧ (¬ (2 ≤ x2) → ((0 ≤ x1 ∧ x1 < 20) ∧ ((0 ≤ x1 ∧ x1 < 20) ∧ ((0 ≤ x2 ∧ x2 < 2) ∧ ((0 ≤ x2 ∧ x2 < 2) ∧ (∀ σ4 : aH, wI σ (164 + x1.toNat) x2 (rI σ (143 + x1.toNat) x2) = σ4 → (inR (x2 + 1) ∧ L_X10_stands_137 C sc P x1 (x2 + 1) σ4))))))))) :
    L_X10_stands_137 C sc P x1 x2 σ := by
  unfold L_X10_stands_137
  refine w_iload_n dX10_stands_137 rfl (List.Mem.tail _ (List.Mem.tail _ (List.Mem.head _))) ?_
  refine w_iconst (v := nZ 2) dX10_stands_138 (by decide) ?_
  refine i_cmp_ge (tgt := 164) dX10_stands_139 rfl rx2 (by decide) (fun c9 => ?_) (fun c9 => ?_)
  · replace h := h.1 c9
    obtain ⟨q1, h⟩ := h
    refine w_iinc (v := nZ (x1 + 1)) (l' := [(1, .int (nZ (x1 + 1))), (0, .ref 76), (2, .int (nZ x2))]) dX10_stands_164 (List.Mem.tail _ (List.Mem.head _)) (nZ_add _ _) (by decide) rfl ?_
    refine w_goto (tgt := 124) dX10_stands_167 rfl ?_
    exact w_weak (l' := [(0, .ref 76), (1, .int (nZ (x1 + 1)))]) (by intro q hq; simp only [List.mem_cons, List.not_mem_nil, or_false] at hq ⊢; rcases hq with rfl | rfl <;> simp) h
  · replace h := h.2 c9
    refine w_aload_n dX10_stands_142 rfl (List.Mem.head _) ?_
    refine w_getR (ci := 10) (k := 17) (b := 163) dX10_stands_143 fl_10_43 (by decide) (gT hG rfl (lt_of rfl)) (gR hG (b := 163) rfl) ?_
    refine w_iload_n dX10_stands_146 rfl (List.Mem.tail _ (List.Mem.head _)) ?_
    obtain ⟨h9, h⟩ := h
    have hj2 := vin_lt2 (n := 20) h9 rfl
    refine i_aald (n := 20) (b := (164 + x1.toNat)) dX10_stands_147 (gT hG rfl (lt_of rfl)) (gL hG rfl) rx1 h9 (gR hG (rr_163 hj2)) ?_
    refine w_iload_n dX10_stands_148 rfl (List.Mem.tail _ (List.Mem.tail _ (List.Mem.head _))) ?_
    refine w_aload_n dX10_stands_149 rfl (List.Mem.head _) ?_
    refine w_getR (ci := 10) (k := 16) (b := 142) dX10_stands_150 fl_10_40 (by decide) (gT hG rfl (lt_of rfl)) (gR hG (b := 142) rfl) ?_
    refine w_iload_n dX10_stands_153 rfl (List.Mem.tail _ (List.Mem.head _)) ?_
    obtain ⟨h9, h⟩ := h
    have hj3 := vin_lt2 (n := 20) h9 rfl
    refine i_aald (n := 20) (b := (143 + x1.toNat)) dX10_stands_154 (gT hG rfl (lt_of rfl)) (gL hG rfl) rx1 h9 (gR hG (rr_142 hj3)) ?_
    refine w_iload_n dX10_stands_155 rfl (List.Mem.tail _ (List.Mem.tail _ (List.Mem.head _))) ?_
    obtain ⟨h9, h⟩ := h
    refine i_iald (n := 2) dX10_stands_156 (gT hG (ro_142 _ hj3).1 (by have := hj3; omega)) (gL hG (ro_142 _ hj3).2) rx2 h9 ?_
    obtain ⟨h9, h⟩ := h
    refine i_iast (n := 2) dX10_stands_157 (gT hG (ro_163 _ hj2).1 (by have := hj2; omega)) (gL hG (ro_163 _ hj2).2) rx2 h9 (fun σ4 eσ5 => ?_)
    replace h := h σ4 eσ5
    have hG6 : G σ4 u := eσ5 ▸ G.wI hG
    obtain ⟨q7, h⟩ := h
    refine w_iinc (v := nZ (x2 + 1)) (l' := [(2, .int (nZ (x2 + 1))), (0, .ref 76), (1, .int (nZ x1))]) dX10_stands_158 (List.Mem.tail _ (List.Mem.tail _ (List.Mem.head _))) (nZ_add _ _) (by decide) rfl ?_
    refine w_goto (tgt := 137) dX10_stands_161 rfl ?_
    exact w_weak (l' := [(0, .ref 76), (1, .int (nZ x1)), (2, .int (nZ (x2 + 1)))]) (by intro q hq; simp only [List.mem_cons, List.not_mem_nil, or_false] at hq ⊢; rcases hq with rfl | rfl | rfl <;> simp) h
theorem dX10_sunAt_0 : decode cX10_sunAt 0 = .ok (.iconst (-1), 1) := by decide +kernel
theorem dX10_sunAt_1 : decode cX10_sunAt 1 = .ok (.istore_n 2, 1) := by decide +kernel
theorem dX10_sunAt_2 : decode cX10_sunAt 2 = .ok (.iconst 0, 1) := by decide +kernel
theorem dX10_sunAt_3 : decode cX10_sunAt 3 = .ok (.istore_n 3, 1) := by decide +kernel
theorem dX10_sunAt_4 : decode cX10_sunAt 4 = .ok (.iload_n 3, 1) := by decide +kernel
theorem dX10_sunAt_5 : decode cX10_sunAt 5 = .ok (.aload_n 0, 1) := by decide +kernel
theorem dX10_sunAt_6 : decode cX10_sunAt 6 = .ok (.getfield 23, 3) := by decide +kernel
theorem dX10_sunAt_9 : decode cX10_sunAt 9 = .ok (.bipush 6, 2) := by decide +kernel
theorem dX10_sunAt_11 : decode cX10_sunAt 11 = .ok (.iaload, 1) := by decide +kernel
theorem dX10_sunAt_12 : decode cX10_sunAt 12 = .ok (.if_icmp .ge 47, 3) := by decide +kernel
theorem dX10_sunAt_15 : decode cX10_sunAt 15 = .ok (.aload_n 0, 1) := by decide +kernel
theorem dX10_sunAt_16 : decode cX10_sunAt 16 = .ok (.getfield 37, 3) := by decide +kernel
theorem dX10_sunAt_19 : decode cX10_sunAt 19 = .ok (.iload_n 3, 1) := by decide +kernel
theorem dX10_sunAt_20 : decode cX10_sunAt 20 = .ok (.aaload, 1) := by decide +kernel
theorem dX10_sunAt_21 : decode cX10_sunAt 21 = .ok (.iconst 0, 1) := by decide +kernel
theorem dX10_sunAt_22 : decode cX10_sunAt 22 = .ok (.iaload, 1) := by decide +kernel
theorem dX10_sunAt_23 : decode cX10_sunAt 23 = .ok (.iload_n 1, 1) := by decide +kernel
theorem dX10_sunAt_24 : decode cX10_sunAt 24 = .ok (.if_icmp .gt 29, 3) := by decide +kernel
theorem dX10_sunAt_27 : decode cX10_sunAt 27 = .ok (.iload_n 2, 1) := by decide +kernel
theorem dX10_sunAt_28 : decode cX10_sunAt 28 = .ok (.iconst (-1), 1) := by decide +kernel
theorem dX10_sunAt_29 : decode cX10_sunAt 29 = .ok (.if_icmp .eq 22, 3) := by decide +kernel
theorem dX10_sunAt_32 : decode cX10_sunAt 32 = .ok (.aload_n 0, 1) := by decide +kernel
theorem dX10_sunAt_33 : decode cX10_sunAt 33 = .ok (.getfield 37, 3) := by decide +kernel
theorem dX10_sunAt_36 : decode cX10_sunAt 36 = .ok (.iload_n 3, 1) := by decide +kernel
theorem dX10_sunAt_37 : decode cX10_sunAt 37 = .ok (.aaload, 1) := by decide +kernel
theorem dX10_sunAt_38 : decode cX10_sunAt 38 = .ok (.iconst 0, 1) := by decide +kernel
theorem dX10_sunAt_39 : decode cX10_sunAt 39 = .ok (.iaload, 1) := by decide +kernel
theorem dX10_sunAt_40 : decode cX10_sunAt 40 = .ok (.aload_n 0, 1) := by decide +kernel
theorem dX10_sunAt_41 : decode cX10_sunAt 41 = .ok (.getfield 37, 3) := by decide +kernel
theorem dX10_sunAt_44 : decode cX10_sunAt 44 = .ok (.iload_n 2, 1) := by decide +kernel
theorem dX10_sunAt_45 : decode cX10_sunAt 45 = .ok (.aaload, 1) := by decide +kernel
theorem dX10_sunAt_46 : decode cX10_sunAt 46 = .ok (.iconst 0, 1) := by decide +kernel
theorem dX10_sunAt_47 : decode cX10_sunAt 47 = .ok (.iaload, 1) := by decide +kernel
theorem dX10_sunAt_48 : decode cX10_sunAt 48 = .ok (.if_icmp .le 5, 3) := by decide +kernel
theorem dX10_sunAt_51 : decode cX10_sunAt 51 = .ok (.iload_n 3, 1) := by decide +kernel
theorem dX10_sunAt_52 : decode cX10_sunAt 52 = .ok (.istore_n 2, 1) := by decide +kernel
theorem dX10_sunAt_53 : decode cX10_sunAt 53 = .ok (.iinc 3 1, 3) := by decide +kernel
theorem dX10_sunAt_56 : decode cX10_sunAt 56 = .ok (.goto (-52), 3) := by decide +kernel
theorem dX10_sunAt_59 : decode cX10_sunAt 59 = .ok (.iload_n 2, 1) := by decide +kernel
theorem dX10_sunAt_60 : decode cX10_sunAt 60 = .ok (.ireturn, 1) := by decide +kernel
def L_X10_sunAt_4 (C : aM → List Value → aH → aO → aH → Prop) (sc : Nat × (Nat → Int32)) (P : aO → aH → Prop) (x1 : Int) (x2 : Int) (x3 : Int) (σ : aH) : Prop :=
    wp C 10 cX10_sunAt 4 (some .int) false [] sc P 4 [(0, .ref 76), (1, .int (nZ x1)), (2, .int (nZ x2)), (3, .int (nZ x3))] [] σ
set_option maxRecDepth 10000 in
theorem t_X10_sunAt {sc : Nat × (Nat → Int32)} {d : Nat} {Q : aO → aH → Prop} {σ : aH} {u : Nat}  {x1 : Int} (hG : G σ u) (rx1 : inR x1)
    (h : L_X10_sunAt_4 (Ev sc d) sc Q x1 (-1) 0 σ) :
    T sc (d + 1) mX10_sunAt [.ref 76, .int (nZ x1)] σ Q := by
  refine T.of (c := 10) (code := cX10_sunAt) (mL := 4) (rt := (some .int)) (ini := false) (l := [(0, .ref 76), (1, .int (nZ x1))]) rfl rfl rfl rfl (by decide) hs_X10_sunAt rfl rfl ?_
  refine w_iconst (v := nZ (-1)) dX10_sunAt_0 (by decide) ?_
  refine w_istore_n (l' := [(2, .int (nZ (-1))), (0, .ref 76), (1, .int (nZ x1))]) dX10_sunAt_1 rfl (by decide) rfl ?_
  refine w_iconst (v := nZ 0) dX10_sunAt_2 (by decide) ?_
  refine w_istore_n (l' := [(3, .int (nZ 0)), (2, .int (nZ (-1))), (0, .ref 76), (1, .int (nZ x1))]) dX10_sunAt_3 rfl (by decide) rfl ?_
  exact w_weak (l' := [(0, .ref 76), (1, .int (nZ x1)), (2, .int (nZ (-1))), (3, .int (nZ 0))]) (by intro q hq; simp only [List.mem_cons, List.not_mem_nil, or_false] at hq ⊢; rcases hq with rfl | rfl | rfl | rfl <;> simp) h
set_option maxRecDepth 10000 in
theorem v_X10_sunAt_4 {C : aM → List Value → aH → aO → aH → Prop} {sc : Nat × (Nat → Int32)} {P : aO → aH → Prop} {σ : aH} {u : Nat}  {x1 : Int} {x2 : Int} {x3 : Int} (hG : G σ u) (rx1 : inR x1) (rx2 : inR x2) (rx3 : inR x3)
    (h : (((rI σ 80 6) ≤ x3 → P (.inl (some (.int (nZ x2)))) σ) ∧ (¬ ((rI σ 80 6) ≤ x3) → ((0 ≤ x3 ∧ x3 < 20) ∧ ((x1 < (rI σ (122 + x3.toNat) 0) → (inR (x3 + 1) ∧ L_X10_sunAt_4 C sc P x1 x2 (x3 + 1) σ)) ∧ (¬ (x1 < (rI σ (122 + x3.toNat) 0)) → ((x2 = (-1) → (inR (x3 + 1) ∧ L_X10_sunAt_4 C sc P x1 x3 (x3 + 1) σ)) ∧ (¬ (x2 = (-1)) → ((0 ≤ x3 ∧ x3 < 20) ∧ ((0 ≤ x2 ∧ x2 < 20) ∧ (((rI σ (122 + x3.toNat) 0) ≤ (rI σ (122 + x2.toNat) 0) → (inR (x3 + 1) ∧ L_X10_sunAt_4 C sc P x1 x2 (x3 + 1) σ)) ∧ (¬ ((rI σ (122 + x3.toNat) 0) ≤ (rI σ (122 + x2.toNat) 0)) → (inR (x3 + 1) ∧ L_X10_sunAt_4 C sc P x1 x3 (x3 + 1) σ))))))))))))) :
    L_X10_sunAt_4 C sc P x1 x2 x3 σ := by
  unfold L_X10_sunAt_4
  refine w_iload_n dX10_sunAt_4 rfl (List.Mem.tail _ (List.Mem.tail _ (List.Mem.tail _ (List.Mem.head _)))) ?_
  refine w_aload_n dX10_sunAt_5 rfl (List.Mem.head _) ?_
  refine w_getR (ci := 10) (k := 11) (b := 80) dX10_sunAt_6 fl_10_23 (by decide) (gT hG rfl (lt_of rfl)) (gR hG (b := 80) rfl) ?_
  refine w_bipush (v := nZ 6) dX10_sunAt_9 (by decide) ?_
  refine i_iald (n := 8) dX10_sunAt_11 (gT hG rfl (lt_of rfl)) (gL hG rfl) (by decide) (by decide) ?_
  refine i_cmp_ge (tgt := 59) dX10_sunAt_12 rfl rx3 (rI_R _ _ _) (fun c9 => ?_) (fun c9 => ?_)
  · replace h := h.1 c9
    refine w_iload_n dX10_sunAt_59 rfl (List.Mem.tail _ (List.Mem.tail _ (List.Mem.head _))) ?_
    exact w_iret dX10_sunAt_60 rfl h
  · replace h := h.2 c9
    refine w_aload_n dX10_sunAt_15 rfl (List.Mem.head _) ?_
    refine w_getR (ci := 10) (k := 15) (b := 121) dX10_sunAt_16 fl_10_37 (by decide) (gT hG rfl (lt_of rfl)) (gR hG (b := 121) rfl) ?_
    refine w_iload_n dX10_sunAt_19 rfl (List.Mem.tail _ (List.Mem.tail _ (List.Mem.tail _ (List.Mem.head _)))) ?_
    obtain ⟨h9, h⟩ := h
    have hj1 := vin_lt2 (n := 20) h9 rfl
    refine i_aald (n := 20) (b := (122 + x3.toNat)) dX10_sunAt_20 (gT hG rfl (lt_of rfl)) (gL hG rfl) rx3 h9 (gR hG (rr_121 hj1)) ?_
    refine w_iconst (v := nZ 0) dX10_sunAt_21 (by decide) ?_
    refine i_iald (n := 4) dX10_sunAt_22 (gT hG (ro_121 _ hj1).1 (by have := hj1; omega)) (gL hG (ro_121 _ hj1).2) (by decide) (by decide) ?_
    refine w_iload_n dX10_sunAt_23 rfl (List.Mem.tail _ (List.Mem.head _)) ?_
    refine i_cmp_gt (tgt := 53) dX10_sunAt_24 rfl (rI_R _ _ _) rx1 (fun c9 => ?_) (fun c9 => ?_)
    · replace h := h.1 c9
      obtain ⟨q2, h⟩ := h
      refine w_iinc (v := nZ (x3 + 1)) (l' := [(3, .int (nZ (x3 + 1))), (0, .ref 76), (1, .int (nZ x1)), (2, .int (nZ x2))]) dX10_sunAt_53 (List.Mem.tail _ (List.Mem.tail _ (List.Mem.tail _ (List.Mem.head _)))) (nZ_add _ _) (by decide) rfl ?_
      refine w_goto (tgt := 4) dX10_sunAt_56 rfl ?_
      exact w_weak (l' := [(0, .ref 76), (1, .int (nZ x1)), (2, .int (nZ x2)), (3, .int (nZ (x3 + 1)))]) (by intro q hq; simp only [List.mem_cons, List.not_mem_nil, or_false] at hq ⊢; rcases hq with rfl | rfl | rfl | rfl <;> simp) h
    · replace h := h.2 c9
      refine w_iload_n dX10_sunAt_27 rfl (List.Mem.tail _ (List.Mem.tail _ (List.Mem.head _))) ?_
      refine w_iconst (v := nZ (-1)) dX10_sunAt_28 (by decide) ?_
      refine i_cmp_eq (tgt := 51) dX10_sunAt_29 rfl rx2 (by decide) (fun c9 => ?_) (fun c9 => ?_)
      · replace h := h.1 c9
        refine w_iload_n dX10_sunAt_51 rfl (List.Mem.tail _ (List.Mem.tail _ (List.Mem.tail _ (List.Mem.head _)))) ?_
        refine w_istore_n (l' := [(2, .int (nZ x3)), (0, .ref 76), (1, .int (nZ x1)), (3, .int (nZ x3))]) dX10_sunAt_52 rfl (by decide) rfl ?_
        obtain ⟨q3, h⟩ := h
        refine w_iinc (v := nZ (x3 + 1)) (l' := [(3, .int (nZ (x3 + 1))), (2, .int (nZ x3)), (0, .ref 76), (1, .int (nZ x1))]) dX10_sunAt_53 (List.Mem.tail _ (List.Mem.tail _ (List.Mem.tail _ (List.Mem.head _)))) (nZ_add _ _) (by decide) rfl ?_
        refine w_goto (tgt := 4) dX10_sunAt_56 rfl ?_
        exact w_weak (l' := [(0, .ref 76), (1, .int (nZ x1)), (2, .int (nZ x3)), (3, .int (nZ (x3 + 1)))]) (by intro q hq; simp only [List.mem_cons, List.not_mem_nil, or_false] at hq ⊢; rcases hq with rfl | rfl | rfl | rfl <;> simp) h
      · replace h := h.2 c9
        refine w_aload_n dX10_sunAt_32 rfl (List.Mem.head _) ?_
        refine w_getR (ci := 10) (k := 15) (b := 121) dX10_sunAt_33 fl_10_37 (by decide) (gT hG rfl (lt_of rfl)) (gR hG (b := 121) rfl) ?_
        refine w_iload_n dX10_sunAt_36 rfl (List.Mem.tail _ (List.Mem.tail _ (List.Mem.tail _ (List.Mem.head _)))) ?_
        obtain ⟨h9, h⟩ := h
        have hj4 := vin_lt2 (n := 20) h9 rfl
        refine i_aald (n := 20) (b := (122 + x3.toNat)) dX10_sunAt_37 (gT hG rfl (lt_of rfl)) (gL hG rfl) rx3 h9 (gR hG (rr_121 hj4)) ?_
        refine w_iconst (v := nZ 0) dX10_sunAt_38 (by decide) ?_
        refine i_iald (n := 4) dX10_sunAt_39 (gT hG (ro_121 _ hj4).1 (by have := hj4; omega)) (gL hG (ro_121 _ hj4).2) (by decide) (by decide) ?_
        refine w_aload_n dX10_sunAt_40 rfl (List.Mem.head _) ?_
        refine w_getR (ci := 10) (k := 15) (b := 121) dX10_sunAt_41 fl_10_37 (by decide) (gT hG rfl (lt_of rfl)) (gR hG (b := 121) rfl) ?_
        refine w_iload_n dX10_sunAt_44 rfl (List.Mem.tail _ (List.Mem.tail _ (List.Mem.head _))) ?_
        obtain ⟨h9, h⟩ := h
        have hj5 := vin_lt2 (n := 20) h9 rfl
        refine i_aald (n := 20) (b := (122 + x2.toNat)) dX10_sunAt_45 (gT hG rfl (lt_of rfl)) (gL hG rfl) rx2 h9 (gR hG (rr_121 hj5)) ?_
        refine w_iconst (v := nZ 0) dX10_sunAt_46 (by decide) ?_
        refine i_iald (n := 4) dX10_sunAt_47 (gT hG (ro_121 _ hj5).1 (by have := hj5; omega)) (gL hG (ro_121 _ hj5).2) (by decide) (by decide) ?_
        refine i_cmp_le (tgt := 53) dX10_sunAt_48 rfl (rI_R _ _ _) (rI_R _ _ _) (fun c9 => ?_) (fun c9 => ?_)
        · replace h := h.1 c9
          obtain ⟨q6, h⟩ := h
          refine w_iinc (v := nZ (x3 + 1)) (l' := [(3, .int (nZ (x3 + 1))), (0, .ref 76), (1, .int (nZ x1)), (2, .int (nZ x2))]) dX10_sunAt_53 (List.Mem.tail _ (List.Mem.tail _ (List.Mem.tail _ (List.Mem.head _)))) (nZ_add _ _) (by decide) rfl ?_
          refine w_goto (tgt := 4) dX10_sunAt_56 rfl ?_
          exact w_weak (l' := [(0, .ref 76), (1, .int (nZ x1)), (2, .int (nZ x2)), (3, .int (nZ (x3 + 1)))]) (by intro q hq; simp only [List.mem_cons, List.not_mem_nil, or_false] at hq ⊢; rcases hq with rfl | rfl | rfl | rfl <;> simp) h
        · replace h := h.2 c9
          refine w_iload_n dX10_sunAt_51 rfl (List.Mem.tail _ (List.Mem.tail _ (List.Mem.tail _ (List.Mem.head _)))) ?_
          refine w_istore_n (l' := [(2, .int (nZ x3)), (0, .ref 76), (1, .int (nZ x1)), (3, .int (nZ x3))]) dX10_sunAt_52 rfl (by decide) rfl ?_
          obtain ⟨q7, h⟩ := h
          refine w_iinc (v := nZ (x3 + 1)) (l' := [(3, .int (nZ (x3 + 1))), (2, .int (nZ x3)), (0, .ref 76), (1, .int (nZ x1))]) dX10_sunAt_53 (List.Mem.tail _ (List.Mem.tail _ (List.Mem.tail _ (List.Mem.head _)))) (nZ_add _ _) (by decide) rfl ?_
          refine w_goto (tgt := 4) dX10_sunAt_56 rfl ?_
          exact w_weak (l' := [(0, .ref 76), (1, .int (nZ x1)), (2, .int (nZ x3)), (3, .int (nZ (x3 + 1)))]) (by intro q hq; simp only [List.mem_cons, List.not_mem_nil, or_false] at hq ⊢; rcases hq with rfl | rfl | rfl | rfl <;> simp) h
theorem dX10_rateAt_0 : decode cX10_rateAt 0 = .ok (.iconst (-1), 1) := by decide +kernel
theorem dX10_rateAt_1 : decode cX10_rateAt 1 = .ok (.istore_n 2, 1) := by decide +kernel
theorem dX10_rateAt_2 : decode cX10_rateAt 2 = .ok (.iconst 0, 1) := by decide +kernel
theorem dX10_rateAt_3 : decode cX10_rateAt 3 = .ok (.istore_n 3, 1) := by decide +kernel
theorem dX10_rateAt_4 : decode cX10_rateAt 4 = .ok (.iload_n 3, 1) := by decide +kernel
theorem dX10_rateAt_5 : decode cX10_rateAt 5 = .ok (.aload_n 0, 1) := by decide +kernel
theorem dX10_rateAt_6 : decode cX10_rateAt 6 = .ok (.getfield 23, 3) := by decide +kernel
theorem dX10_rateAt_9 : decode cX10_rateAt 9 = .ok (.bipush 7, 2) := by decide +kernel
theorem dX10_rateAt_11 : decode cX10_rateAt 11 = .ok (.iaload, 1) := by decide +kernel
theorem dX10_rateAt_12 : decode cX10_rateAt 12 = .ok (.if_icmp .ge 47, 3) := by decide +kernel
theorem dX10_rateAt_15 : decode cX10_rateAt 15 = .ok (.aload_n 0, 1) := by decide +kernel
theorem dX10_rateAt_16 : decode cX10_rateAt 16 = .ok (.getfield 43, 3) := by decide +kernel
theorem dX10_rateAt_19 : decode cX10_rateAt 19 = .ok (.iload_n 3, 1) := by decide +kernel
theorem dX10_rateAt_20 : decode cX10_rateAt 20 = .ok (.aaload, 1) := by decide +kernel
theorem dX10_rateAt_21 : decode cX10_rateAt 21 = .ok (.iconst 0, 1) := by decide +kernel
theorem dX10_rateAt_22 : decode cX10_rateAt 22 = .ok (.iaload, 1) := by decide +kernel
theorem dX10_rateAt_23 : decode cX10_rateAt 23 = .ok (.iload_n 1, 1) := by decide +kernel
theorem dX10_rateAt_24 : decode cX10_rateAt 24 = .ok (.if_icmp .gt 29, 3) := by decide +kernel
theorem dX10_rateAt_27 : decode cX10_rateAt 27 = .ok (.iload_n 2, 1) := by decide +kernel
theorem dX10_rateAt_28 : decode cX10_rateAt 28 = .ok (.iconst (-1), 1) := by decide +kernel
theorem dX10_rateAt_29 : decode cX10_rateAt 29 = .ok (.if_icmp .eq 22, 3) := by decide +kernel
theorem dX10_rateAt_32 : decode cX10_rateAt 32 = .ok (.aload_n 0, 1) := by decide +kernel
theorem dX10_rateAt_33 : decode cX10_rateAt 33 = .ok (.getfield 43, 3) := by decide +kernel
theorem dX10_rateAt_36 : decode cX10_rateAt 36 = .ok (.iload_n 3, 1) := by decide +kernel
theorem dX10_rateAt_37 : decode cX10_rateAt 37 = .ok (.aaload, 1) := by decide +kernel
theorem dX10_rateAt_38 : decode cX10_rateAt 38 = .ok (.iconst 0, 1) := by decide +kernel
theorem dX10_rateAt_39 : decode cX10_rateAt 39 = .ok (.iaload, 1) := by decide +kernel
theorem dX10_rateAt_40 : decode cX10_rateAt 40 = .ok (.aload_n 0, 1) := by decide +kernel
theorem dX10_rateAt_41 : decode cX10_rateAt 41 = .ok (.getfield 43, 3) := by decide +kernel
theorem dX10_rateAt_44 : decode cX10_rateAt 44 = .ok (.iload_n 2, 1) := by decide +kernel
theorem dX10_rateAt_45 : decode cX10_rateAt 45 = .ok (.aaload, 1) := by decide +kernel
theorem dX10_rateAt_46 : decode cX10_rateAt 46 = .ok (.iconst 0, 1) := by decide +kernel
theorem dX10_rateAt_47 : decode cX10_rateAt 47 = .ok (.iaload, 1) := by decide +kernel
theorem dX10_rateAt_48 : decode cX10_rateAt 48 = .ok (.if_icmp .le 5, 3) := by decide +kernel
theorem dX10_rateAt_51 : decode cX10_rateAt 51 = .ok (.iload_n 3, 1) := by decide +kernel
theorem dX10_rateAt_52 : decode cX10_rateAt 52 = .ok (.istore_n 2, 1) := by decide +kernel
theorem dX10_rateAt_53 : decode cX10_rateAt 53 = .ok (.iinc 3 1, 3) := by decide +kernel
theorem dX10_rateAt_56 : decode cX10_rateAt 56 = .ok (.goto (-52), 3) := by decide +kernel
theorem dX10_rateAt_59 : decode cX10_rateAt 59 = .ok (.iload_n 2, 1) := by decide +kernel
theorem dX10_rateAt_60 : decode cX10_rateAt 60 = .ok (.iconst (-1), 1) := by decide +kernel
theorem dX10_rateAt_61 : decode cX10_rateAt 61 = .ok (.if_icmp .ne 7, 3) := by decide +kernel
theorem dX10_rateAt_64 : decode cX10_rateAt 64 = .ok (.iconst 1, 1) := by decide +kernel
theorem dX10_rateAt_65 : decode cX10_rateAt 65 = .ok (.goto 11, 3) := by decide +kernel
theorem dX10_rateAt_68 : decode cX10_rateAt 68 = .ok (.aload_n 0, 1) := by decide +kernel
theorem dX10_rateAt_69 : decode cX10_rateAt 69 = .ok (.getfield 43, 3) := by decide +kernel
theorem dX10_rateAt_72 : decode cX10_rateAt 72 = .ok (.iload_n 2, 1) := by decide +kernel
theorem dX10_rateAt_73 : decode cX10_rateAt 73 = .ok (.aaload, 1) := by decide +kernel
theorem dX10_rateAt_74 : decode cX10_rateAt 74 = .ok (.iconst 1, 1) := by decide +kernel
theorem dX10_rateAt_75 : decode cX10_rateAt 75 = .ok (.iaload, 1) := by decide +kernel
theorem dX10_rateAt_76 : decode cX10_rateAt 76 = .ok (.ireturn, 1) := by decide +kernel
def L_X10_rateAt_4 (C : aM → List Value → aH → aO → aH → Prop) (sc : Nat × (Nat → Int32)) (P : aO → aH → Prop) (x1 : Int) (x2 : Int) (x3 : Int) (σ : aH) : Prop :=
    wp C 10 cX10_rateAt 4 (some .int) false [] sc P 4 [(0, .ref 76), (1, .int (nZ x1)), (2, .int (nZ x2)), (3, .int (nZ x3))] [] σ
set_option maxRecDepth 10000 in
theorem t_X10_rateAt {sc : Nat × (Nat → Int32)} {d : Nat} {Q : aO → aH → Prop} {σ : aH} {u : Nat}  {x1 : Int} (hG : G σ u) (rx1 : inR x1)
    (h : L_X10_rateAt_4 (Ev sc d) sc Q x1 (-1) 0 σ) :
    T sc (d + 1) mX10_rateAt [.ref 76, .int (nZ x1)] σ Q := by
  refine T.of (c := 10) (code := cX10_rateAt) (mL := 4) (rt := (some .int)) (ini := false) (l := [(0, .ref 76), (1, .int (nZ x1))]) rfl rfl rfl rfl (by decide) hs_X10_rateAt rfl rfl ?_
  refine w_iconst (v := nZ (-1)) dX10_rateAt_0 (by decide) ?_
  refine w_istore_n (l' := [(2, .int (nZ (-1))), (0, .ref 76), (1, .int (nZ x1))]) dX10_rateAt_1 rfl (by decide) rfl ?_
  refine w_iconst (v := nZ 0) dX10_rateAt_2 (by decide) ?_
  refine w_istore_n (l' := [(3, .int (nZ 0)), (2, .int (nZ (-1))), (0, .ref 76), (1, .int (nZ x1))]) dX10_rateAt_3 rfl (by decide) rfl ?_
  exact w_weak (l' := [(0, .ref 76), (1, .int (nZ x1)), (2, .int (nZ (-1))), (3, .int (nZ 0))]) (by intro q hq; simp only [List.mem_cons, List.not_mem_nil, or_false] at hq ⊢; rcases hq with rfl | rfl | rfl | rfl <;> simp) h
set_option maxRecDepth 10000 in
theorem v_X10_rateAt_4 {C : aM → List Value → aH → aO → aH → Prop} {sc : Nat × (Nat → Int32)} {P : aO → aH → Prop} {σ : aH} {u : Nat}  {x1 : Int} {x2 : Int} {x3 : Int} (hG : G σ u) (rx1 : inR x1) (rx2 : inR x2) (rx3 : inR x3)
    (h : (((rI σ 80 7) ≤ x3 → ((¬ x2 = (-1) → ((0 ≤ x2 ∧ x2 < 20) ∧ P (.inl (some (.int (nZ (rI σ (164 + x2.toNat) 1))))) σ)) ∧ (x2 = (-1) → P (.inl (some (.int (nZ 1)))) σ))) ∧ (¬ ((rI σ 80 7) ≤ x3) → ((0 ≤ x3 ∧ x3 < 20) ∧ ((x1 < (rI σ (164 + x3.toNat) 0) → (inR (x3 + 1) ∧ L_X10_rateAt_4 C sc P x1 x2 (x3 + 1) σ)) ∧ (¬ (x1 < (rI σ (164 + x3.toNat) 0)) → ((x2 = (-1) → (inR (x3 + 1) ∧ L_X10_rateAt_4 C sc P x1 x3 (x3 + 1) σ)) ∧ (¬ (x2 = (-1)) → ((0 ≤ x3 ∧ x3 < 20) ∧ ((0 ≤ x2 ∧ x2 < 20) ∧ (((rI σ (164 + x3.toNat) 0) ≤ (rI σ (164 + x2.toNat) 0) → (inR (x3 + 1) ∧ L_X10_rateAt_4 C sc P x1 x2 (x3 + 1) σ)) ∧ (¬ ((rI σ (164 + x3.toNat) 0) ≤ (rI σ (164 + x2.toNat) 0)) → (inR (x3 + 1) ∧ L_X10_rateAt_4 C sc P x1 x3 (x3 + 1) σ))))))))))))) :
    L_X10_rateAt_4 C sc P x1 x2 x3 σ := by
  unfold L_X10_rateAt_4
  refine w_iload_n dX10_rateAt_4 rfl (List.Mem.tail _ (List.Mem.tail _ (List.Mem.tail _ (List.Mem.head _)))) ?_
  refine w_aload_n dX10_rateAt_5 rfl (List.Mem.head _) ?_
  refine w_getR (ci := 10) (k := 11) (b := 80) dX10_rateAt_6 fl_10_23 (by decide) (gT hG rfl (lt_of rfl)) (gR hG (b := 80) rfl) ?_
  refine w_bipush (v := nZ 7) dX10_rateAt_9 (by decide) ?_
  refine i_iald (n := 8) dX10_rateAt_11 (gT hG rfl (lt_of rfl)) (gL hG rfl) (by decide) (by decide) ?_
  refine i_cmp_ge (tgt := 59) dX10_rateAt_12 rfl rx3 (rI_R _ _ _) (fun c9 => ?_) (fun c9 => ?_)
  · replace h := h.1 c9
    refine w_iload_n dX10_rateAt_59 rfl (List.Mem.tail _ (List.Mem.tail _ (List.Mem.head _))) ?_
    refine w_iconst (v := nZ (-1)) dX10_rateAt_60 (by decide) ?_
    refine i_cmp_ne (tgt := 68) dX10_rateAt_61 rfl rx2 (by decide) (fun c9 => ?_) (fun c9 => ?_)
    · replace h := h.1 c9
      refine w_aload_n dX10_rateAt_68 rfl (List.Mem.head _) ?_
      refine w_getR (ci := 10) (k := 17) (b := 163) dX10_rateAt_69 fl_10_43 (by decide) (gT hG rfl (lt_of rfl)) (gR hG (b := 163) rfl) ?_
      refine w_iload_n dX10_rateAt_72 rfl (List.Mem.tail _ (List.Mem.tail _ (List.Mem.head _))) ?_
      obtain ⟨h9, h⟩ := h
      have hj1 := vin_lt2 (n := 20) h9 rfl
      refine i_aald (n := 20) (b := (164 + x2.toNat)) dX10_rateAt_73 (gT hG rfl (lt_of rfl)) (gL hG rfl) rx2 h9 (gR hG (rr_163 hj1)) ?_
      refine w_iconst (v := nZ 1) dX10_rateAt_74 (by decide) ?_
      refine i_iald (n := 2) dX10_rateAt_75 (gT hG (ro_163 _ hj1).1 (by have := hj1; omega)) (gL hG (ro_163 _ hj1).2) (by decide) (by decide) ?_
      exact w_iret dX10_rateAt_76 rfl h
    · replace h := h.2 c9
      refine w_iconst (v := nZ 1) dX10_rateAt_64 (by decide) ?_
      refine w_goto (tgt := 76) dX10_rateAt_65 rfl ?_
      exact w_iret dX10_rateAt_76 rfl h
  · replace h := h.2 c9
    refine w_aload_n dX10_rateAt_15 rfl (List.Mem.head _) ?_
    refine w_getR (ci := 10) (k := 17) (b := 163) dX10_rateAt_16 fl_10_43 (by decide) (gT hG rfl (lt_of rfl)) (gR hG (b := 163) rfl) ?_
    refine w_iload_n dX10_rateAt_19 rfl (List.Mem.tail _ (List.Mem.tail _ (List.Mem.tail _ (List.Mem.head _)))) ?_
    obtain ⟨h9, h⟩ := h
    have hj2 := vin_lt2 (n := 20) h9 rfl
    refine i_aald (n := 20) (b := (164 + x3.toNat)) dX10_rateAt_20 (gT hG rfl (lt_of rfl)) (gL hG rfl) rx3 h9 (gR hG (rr_163 hj2)) ?_
    refine w_iconst (v := nZ 0) dX10_rateAt_21 (by decide) ?_
    refine i_iald (n := 2) dX10_rateAt_22 (gT hG (ro_163 _ hj2).1 (by have := hj2; omega)) (gL hG (ro_163 _ hj2).2) (by decide) (by decide) ?_
    refine w_iload_n dX10_rateAt_23 rfl (List.Mem.tail _ (List.Mem.head _)) ?_
    refine i_cmp_gt (tgt := 53) dX10_rateAt_24 rfl (rI_R _ _ _) rx1 (fun c9 => ?_) (fun c9 => ?_)
    · replace h := h.1 c9
      obtain ⟨q3, h⟩ := h
      refine w_iinc (v := nZ (x3 + 1)) (l' := [(3, .int (nZ (x3 + 1))), (0, .ref 76), (1, .int (nZ x1)), (2, .int (nZ x2))]) dX10_rateAt_53 (List.Mem.tail _ (List.Mem.tail _ (List.Mem.tail _ (List.Mem.head _)))) (nZ_add _ _) (by decide) rfl ?_
      refine w_goto (tgt := 4) dX10_rateAt_56 rfl ?_
      exact w_weak (l' := [(0, .ref 76), (1, .int (nZ x1)), (2, .int (nZ x2)), (3, .int (nZ (x3 + 1)))]) (by intro q hq; simp only [List.mem_cons, List.not_mem_nil, or_false] at hq ⊢; rcases hq with rfl | rfl | rfl | rfl <;> simp) h
    · replace h := h.2 c9
      refine w_iload_n dX10_rateAt_27 rfl (List.Mem.tail _ (List.Mem.tail _ (List.Mem.head _))) ?_
      refine w_iconst (v := nZ (-1)) dX10_rateAt_28 (by decide) ?_
      refine i_cmp_eq (tgt := 51) dX10_rateAt_29 rfl rx2 (by decide) (fun c9 => ?_) (fun c9 => ?_)
      · replace h := h.1 c9
        refine w_iload_n dX10_rateAt_51 rfl (List.Mem.tail _ (List.Mem.tail _ (List.Mem.tail _ (List.Mem.head _)))) ?_
        refine w_istore_n (l' := [(2, .int (nZ x3)), (0, .ref 76), (1, .int (nZ x1)), (3, .int (nZ x3))]) dX10_rateAt_52 rfl (by decide) rfl ?_
        obtain ⟨q4, h⟩ := h
        refine w_iinc (v := nZ (x3 + 1)) (l' := [(3, .int (nZ (x3 + 1))), (2, .int (nZ x3)), (0, .ref 76), (1, .int (nZ x1))]) dX10_rateAt_53 (List.Mem.tail _ (List.Mem.tail _ (List.Mem.tail _ (List.Mem.head _)))) (nZ_add _ _) (by decide) rfl ?_
        refine w_goto (tgt := 4) dX10_rateAt_56 rfl ?_
        exact w_weak (l' := [(0, .ref 76), (1, .int (nZ x1)), (2, .int (nZ x3)), (3, .int (nZ (x3 + 1)))]) (by intro q hq; simp only [List.mem_cons, List.not_mem_nil, or_false] at hq ⊢; rcases hq with rfl | rfl | rfl | rfl <;> simp) h
      · replace h := h.2 c9
        refine w_aload_n dX10_rateAt_32 rfl (List.Mem.head _) ?_
        refine w_getR (ci := 10) (k := 17) (b := 163) dX10_rateAt_33 fl_10_43 (by decide) (gT hG rfl (lt_of rfl)) (gR hG (b := 163) rfl) ?_
        refine w_iload_n dX10_rateAt_36 rfl (List.Mem.tail _ (List.Mem.tail _ (List.Mem.tail _ (List.Mem.head _)))) ?_
        obtain ⟨h9, h⟩ := h
        have hj5 := vin_lt2 (n := 20) h9 rfl
        refine i_aald (n := 20) (b := (164 + x3.toNat)) dX10_rateAt_37 (gT hG rfl (lt_of rfl)) (gL hG rfl) rx3 h9 (gR hG (rr_163 hj5)) ?_
        refine w_iconst (v := nZ 0) dX10_rateAt_38 (by decide) ?_
        refine i_iald (n := 2) dX10_rateAt_39 (gT hG (ro_163 _ hj5).1 (by have := hj5; omega)) (gL hG (ro_163 _ hj5).2) (by decide) (by decide) ?_
        refine w_aload_n dX10_rateAt_40 rfl (List.Mem.head _) ?_
        refine w_getR (ci := 10) (k := 17) (b := 163) dX10_rateAt_41 fl_10_43 (by decide) (gT hG rfl (lt_of rfl)) (gR hG (b := 163) rfl) ?_
        refine w_iload_n dX10_rateAt_44 rfl (List.Mem.tail _ (List.Mem.tail _ (List.Mem.head _))) ?_
        obtain ⟨h9, h⟩ := h
        have hj6 := vin_lt2 (n := 20) h9 rfl
        refine i_aald (n := 20) (b := (164 + x2.toNat)) dX10_rateAt_45 (gT hG rfl (lt_of rfl)) (gL hG rfl) rx2 h9 (gR hG (rr_163 hj6)) ?_
        refine w_iconst (v := nZ 0) dX10_rateAt_46 (by decide) ?_
        refine i_iald (n := 2) dX10_rateAt_47 (gT hG (ro_163 _ hj6).1 (by have := hj6; omega)) (gL hG (ro_163 _ hj6).2) (by decide) (by decide) ?_
        refine i_cmp_le (tgt := 53) dX10_rateAt_48 rfl (rI_R _ _ _) (rI_R _ _ _) (fun c9 => ?_) (fun c9 => ?_)
        · replace h := h.1 c9
          obtain ⟨q7, h⟩ := h
          refine w_iinc (v := nZ (x3 + 1)) (l' := [(3, .int (nZ (x3 + 1))), (0, .ref 76), (1, .int (nZ x1)), (2, .int (nZ x2))]) dX10_rateAt_53 (List.Mem.tail _ (List.Mem.tail _ (List.Mem.tail _ (List.Mem.head _)))) (nZ_add _ _) (by decide) rfl ?_
          refine w_goto (tgt := 4) dX10_rateAt_56 rfl ?_
          exact w_weak (l' := [(0, .ref 76), (1, .int (nZ x1)), (2, .int (nZ x2)), (3, .int (nZ (x3 + 1)))]) (by intro q hq; simp only [List.mem_cons, List.not_mem_nil, or_false] at hq ⊢; rcases hq with rfl | rfl | rfl | rfl <;> simp) h
        · replace h := h.2 c9
          refine w_iload_n dX10_rateAt_51 rfl (List.Mem.tail _ (List.Mem.tail _ (List.Mem.tail _ (List.Mem.head _)))) ?_
          refine w_istore_n (l' := [(2, .int (nZ x3)), (0, .ref 76), (1, .int (nZ x1)), (3, .int (nZ x3))]) dX10_rateAt_52 rfl (by decide) rfl ?_
          obtain ⟨q8, h⟩ := h
          refine w_iinc (v := nZ (x3 + 1)) (l' := [(3, .int (nZ (x3 + 1))), (2, .int (nZ x3)), (0, .ref 76), (1, .int (nZ x1))]) dX10_rateAt_53 (List.Mem.tail _ (List.Mem.tail _ (List.Mem.tail _ (List.Mem.head _)))) (nZ_add _ _) (by decide) rfl ?_
          refine w_goto (tgt := 4) dX10_rateAt_56 rfl ?_
          exact w_weak (l' := [(0, .ref 76), (1, .int (nZ x1)), (2, .int (nZ x3)), (3, .int (nZ (x3 + 1)))]) (by intro q hq; simp only [List.mem_cons, List.not_mem_nil, or_false] at hq ⊢; rcases hq with rfl | rfl | rfl | rfl <;> simp) h
theorem dX10_change_0 : decode cX10_change 0 = .ok (.iload_n 1, 1) := by decide +kernel
theorem dX10_change_1 : decode cX10_change 1 = .ok (.bipush 60, 2) := by decide +kernel
theorem dX10_change_3 : decode cX10_change 3 = .ok (.idiv, 1) := by decide +kernel
theorem dX10_change_4 : decode cX10_change 4 = .ok (.bipush 60, 2) := by decide +kernel
theorem dX10_change_6 : decode cX10_change 6 = .ok (.imul, 1) := by decide +kernel
theorem dX10_change_7 : decode cX10_change 7 = .ok (.bipush 60, 2) := by decide +kernel
theorem dX10_change_9 : decode cX10_change 9 = .ok (.iadd, 1) := by decide +kernel
theorem dX10_change_10 : decode cX10_change 10 = .ok (.istore_n 2, 1) := by decide +kernel
theorem dX10_change_11 : decode cX10_change 11 = .ok (.iconst 0, 1) := by decide +kernel
theorem dX10_change_12 : decode cX10_change 12 = .ok (.istore_n 3, 1) := by decide +kernel
theorem dX10_change_13 : decode cX10_change 13 = .ok (.iload_n 3, 1) := by decide +kernel
theorem dX10_change_14 : decode cX10_change 14 = .ok (.aload_n 0, 1) := by decide +kernel
theorem dX10_change_15 : decode cX10_change 15 = .ok (.getfield 23, 3) := by decide +kernel
theorem dX10_change_18 : decode cX10_change 18 = .ok (.bipush 6, 2) := by decide +kernel
theorem dX10_change_20 : decode cX10_change 20 = .ok (.iaload, 1) := by decide +kernel
theorem dX10_change_21 : decode cX10_change 21 = .ok (.if_icmp .ge 46, 3) := by decide +kernel
theorem dX10_change_24 : decode cX10_change 24 = .ok (.aload_n 0, 1) := by decide +kernel
theorem dX10_change_25 : decode cX10_change 25 = .ok (.getfield 37, 3) := by decide +kernel
theorem dX10_change_28 : decode cX10_change 28 = .ok (.iload_n 3, 1) := by decide +kernel
theorem dX10_change_29 : decode cX10_change 29 = .ok (.aaload, 1) := by decide +kernel
theorem dX10_change_30 : decode cX10_change 30 = .ok (.iconst 0, 1) := by decide +kernel
theorem dX10_change_31 : decode cX10_change 31 = .ok (.iaload, 1) := by decide +kernel
theorem dX10_change_32 : decode cX10_change 32 = .ok (.iload_n 1, 1) := by decide +kernel
theorem dX10_change_33 : decode cX10_change 33 = .ok (.if_icmp .le 26, 3) := by decide +kernel
theorem dX10_change_36 : decode cX10_change 36 = .ok (.aload_n 0, 1) := by decide +kernel
theorem dX10_change_37 : decode cX10_change 37 = .ok (.getfield 37, 3) := by decide +kernel
theorem dX10_change_40 : decode cX10_change 40 = .ok (.iload_n 3, 1) := by decide +kernel
theorem dX10_change_41 : decode cX10_change 41 = .ok (.aaload, 1) := by decide +kernel
theorem dX10_change_42 : decode cX10_change 42 = .ok (.iconst 0, 1) := by decide +kernel
theorem dX10_change_43 : decode cX10_change 43 = .ok (.iaload, 1) := by decide +kernel
theorem dX10_change_44 : decode cX10_change 44 = .ok (.iload_n 2, 1) := by decide +kernel
theorem dX10_change_45 : decode cX10_change 45 = .ok (.if_icmp .ge 14, 3) := by decide +kernel
theorem dX10_change_48 : decode cX10_change 48 = .ok (.aload_n 0, 1) := by decide +kernel
theorem dX10_change_49 : decode cX10_change 49 = .ok (.getfield 37, 3) := by decide +kernel
theorem dX10_change_52 : decode cX10_change 52 = .ok (.iload_n 3, 1) := by decide +kernel
theorem dX10_change_53 : decode cX10_change 53 = .ok (.aaload, 1) := by decide +kernel
theorem dX10_change_54 : decode cX10_change 54 = .ok (.iconst 0, 1) := by decide +kernel
theorem dX10_change_55 : decode cX10_change 55 = .ok (.iaload, 1) := by decide +kernel
theorem dX10_change_56 : decode cX10_change 56 = .ok (.goto 4, 3) := by decide +kernel
theorem dX10_change_59 : decode cX10_change 59 = .ok (.iload_n 2, 1) := by decide +kernel
theorem dX10_change_60 : decode cX10_change 60 = .ok (.istore_n 2, 1) := by decide +kernel
theorem dX10_change_61 : decode cX10_change 61 = .ok (.iinc 3 1, 3) := by decide +kernel
theorem dX10_change_64 : decode cX10_change 64 = .ok (.goto (-51), 3) := by decide +kernel
theorem dX10_change_67 : decode cX10_change 67 = .ok (.iconst 0, 1) := by decide +kernel
theorem dX10_change_68 : decode cX10_change 68 = .ok (.istore_n 3, 1) := by decide +kernel
theorem dX10_change_69 : decode cX10_change 69 = .ok (.iload_n 3, 1) := by decide +kernel
theorem dX10_change_70 : decode cX10_change 70 = .ok (.aload_n 0, 1) := by decide +kernel
theorem dX10_change_71 : decode cX10_change 71 = .ok (.getfield 23, 3) := by decide +kernel
theorem dX10_change_74 : decode cX10_change 74 = .ok (.bipush 7, 2) := by decide +kernel
theorem dX10_change_76 : decode cX10_change 76 = .ok (.iaload, 1) := by decide +kernel
theorem dX10_change_77 : decode cX10_change 77 = .ok (.if_icmp .ge 46, 3) := by decide +kernel
theorem dX10_change_80 : decode cX10_change 80 = .ok (.aload_n 0, 1) := by decide +kernel
theorem dX10_change_81 : decode cX10_change 81 = .ok (.getfield 43, 3) := by decide +kernel
theorem dX10_change_84 : decode cX10_change 84 = .ok (.iload_n 3, 1) := by decide +kernel
theorem dX10_change_85 : decode cX10_change 85 = .ok (.aaload, 1) := by decide +kernel
theorem dX10_change_86 : decode cX10_change 86 = .ok (.iconst 0, 1) := by decide +kernel
theorem dX10_change_87 : decode cX10_change 87 = .ok (.iaload, 1) := by decide +kernel
theorem dX10_change_88 : decode cX10_change 88 = .ok (.iload_n 1, 1) := by decide +kernel
theorem dX10_change_89 : decode cX10_change 89 = .ok (.if_icmp .le 26, 3) := by decide +kernel
theorem dX10_change_92 : decode cX10_change 92 = .ok (.aload_n 0, 1) := by decide +kernel
theorem dX10_change_93 : decode cX10_change 93 = .ok (.getfield 43, 3) := by decide +kernel
theorem dX10_change_96 : decode cX10_change 96 = .ok (.iload_n 3, 1) := by decide +kernel
theorem dX10_change_97 : decode cX10_change 97 = .ok (.aaload, 1) := by decide +kernel
theorem dX10_change_98 : decode cX10_change 98 = .ok (.iconst 0, 1) := by decide +kernel
theorem dX10_change_99 : decode cX10_change 99 = .ok (.iaload, 1) := by decide +kernel
theorem dX10_change_100 : decode cX10_change 100 = .ok (.iload_n 2, 1) := by decide +kernel
theorem dX10_change_101 : decode cX10_change 101 = .ok (.if_icmp .ge 14, 3) := by decide +kernel
theorem dX10_change_104 : decode cX10_change 104 = .ok (.aload_n 0, 1) := by decide +kernel
theorem dX10_change_105 : decode cX10_change 105 = .ok (.getfield 43, 3) := by decide +kernel
theorem dX10_change_108 : decode cX10_change 108 = .ok (.iload_n 3, 1) := by decide +kernel
theorem dX10_change_109 : decode cX10_change 109 = .ok (.aaload, 1) := by decide +kernel
theorem dX10_change_110 : decode cX10_change 110 = .ok (.iconst 0, 1) := by decide +kernel
theorem dX10_change_111 : decode cX10_change 111 = .ok (.iaload, 1) := by decide +kernel
theorem dX10_change_112 : decode cX10_change 112 = .ok (.goto 4, 3) := by decide +kernel
theorem dX10_change_115 : decode cX10_change 115 = .ok (.iload_n 2, 1) := by decide +kernel
theorem dX10_change_116 : decode cX10_change 116 = .ok (.istore_n 2, 1) := by decide +kernel
theorem dX10_change_117 : decode cX10_change 117 = .ok (.iinc 3 1, 3) := by decide +kernel
theorem dX10_change_120 : decode cX10_change 120 = .ok (.goto (-51), 3) := by decide +kernel
theorem dX10_change_123 : decode cX10_change 123 = .ok (.aload_n 0, 1) := by decide +kernel
theorem dX10_change_124 : decode cX10_change 124 = .ok (.getfield 23, 3) := by decide +kernel
theorem dX10_change_127 : decode cX10_change 127 = .ok (.iconst 4, 1) := by decide +kernel
theorem dX10_change_128 : decode cX10_change 128 = .ok (.iaload, 1) := by decide +kernel
theorem dX10_change_129 : decode cX10_change 129 = .ok (.iload_n 1, 1) := by decide +kernel
theorem dX10_change_130 : decode cX10_change 130 = .ok (.if_icmp .le 22, 3) := by decide +kernel
theorem dX10_change_133 : decode cX10_change 133 = .ok (.aload_n 0, 1) := by decide +kernel
theorem dX10_change_134 : decode cX10_change 134 = .ok (.getfield 23, 3) := by decide +kernel
theorem dX10_change_137 : decode cX10_change 137 = .ok (.iconst 4, 1) := by decide +kernel
theorem dX10_change_138 : decode cX10_change 138 = .ok (.iaload, 1) := by decide +kernel
theorem dX10_change_139 : decode cX10_change 139 = .ok (.iload_n 2, 1) := by decide +kernel
theorem dX10_change_140 : decode cX10_change 140 = .ok (.if_icmp .ge 12, 3) := by decide +kernel
theorem dX10_change_143 : decode cX10_change 143 = .ok (.aload_n 0, 1) := by decide +kernel
theorem dX10_change_144 : decode cX10_change 144 = .ok (.getfield 23, 3) := by decide +kernel
theorem dX10_change_147 : decode cX10_change 147 = .ok (.iconst 4, 1) := by decide +kernel
theorem dX10_change_148 : decode cX10_change 148 = .ok (.iaload, 1) := by decide +kernel
theorem dX10_change_149 : decode cX10_change 149 = .ok (.goto 4, 3) := by decide +kernel
theorem dX10_change_152 : decode cX10_change 152 = .ok (.iload_n 2, 1) := by decide +kernel
theorem dX10_change_153 : decode cX10_change 153 = .ok (.ireturn, 1) := by decide +kernel
def L_X10_change_13 (C : aM → List Value → aH → aO → aH → Prop) (sc : Nat × (Nat → Int32)) (P : aO → aH → Prop) (x1 : Int) (x2 : Int) (x3 : Int) (σ : aH) : Prop :=
    wp C 10 cX10_change 4 (some .int) false [] sc P 13 [(0, .ref 76), (1, .int (nZ x1)), (2, .int (nZ x2)), (3, .int (nZ x3))] [] σ
def L_X10_change_69 (C : aM → List Value → aH → aO → aH → Prop) (sc : Nat × (Nat → Int32)) (P : aO → aH → Prop) (x1 : Int) (x2 : Int) (x3 : Int) (σ : aH) : Prop :=
    wp C 10 cX10_change 4 (some .int) false [] sc P 69 [(0, .ref 76), (1, .int (nZ x1)), (2, .int (nZ x2)), (3, .int (nZ x3))] [] σ
set_option maxRecDepth 10000 in
theorem t_X10_change {sc : Nat × (Nat → Int32)} {d : Nat} {Q : aO → aH → Prop} {σ : aH} {u : Nat}  {x1 : Int} (hG : G σ u) (rx1 : inR x1)
    (h : ((0 ≤ x1 ∧ (0 : Int) < 60) ∧ inR (x1 / 60) ∧ (inR ((x1 / 60) * 60) ∧ (inR (((x1 / 60) * 60) + 60) ∧ (∀ z4 : Int, z4 = (((x1 / 60) * 60) + 60) → L_X10_change_13 (Ev sc d) sc Q x1 z4 0 σ))))) :
    T sc (d + 1) mX10_change [.ref 76, .int (nZ x1)] σ Q := by
  refine T.of (c := 10) (code := cX10_change) (mL := 4) (rt := (some .int)) (ini := false) (l := [(0, .ref 76), (1, .int (nZ x1))]) rfl rfl rfl rfl (by decide) hs_X10_change rfl rfl ?_
  refine w_iload_n dX10_change_0 rfl (List.Mem.tail _ (List.Mem.head _)) ?_
  refine w_bipush (v := nZ 60) dX10_change_1 (by decide) ?_
  obtain ⟨h9, q1, h⟩ := h
  refine i_div dX10_change_3 rx1 (by decide) h9 ?_
  refine w_bipush (v := nZ 60) dX10_change_4 (by decide) ?_
  obtain ⟨q2, h⟩ := h
  refine i_mul dX10_change_6 ?_
  refine w_bipush (v := nZ 60) dX10_change_7 (by decide) ?_
  obtain ⟨q3, h⟩ := h
  refine i_add dX10_change_9 ?_
  refine top_i (fun z4 ez5 => ?_)
  have rz6 : inR z4 := ez5 ▸ q3
  replace h := h z4 ez5
  refine w_istore_n (l' := [(2, .int (nZ z4)), (0, .ref 76), (1, .int (nZ x1))]) dX10_change_10 rfl (by decide) rfl ?_
  refine w_iconst (v := nZ 0) dX10_change_11 (by decide) ?_
  refine w_istore_n (l' := [(3, .int (nZ 0)), (2, .int (nZ z4)), (0, .ref 76), (1, .int (nZ x1))]) dX10_change_12 rfl (by decide) rfl ?_
  exact w_weak (l' := [(0, .ref 76), (1, .int (nZ x1)), (2, .int (nZ z4)), (3, .int (nZ 0))]) (by intro q hq; simp only [List.mem_cons, List.not_mem_nil, or_false] at hq ⊢; rcases hq with rfl | rfl | rfl | rfl <;> simp) h
set_option maxRecDepth 10000 in
theorem v_X10_change_13 {C : aM → List Value → aH → aO → aH → Prop} {sc : Nat × (Nat → Int32)} {P : aO → aH → Prop} {σ : aH} {u : Nat}  {x1 : Int} {x2 : Int} {x3 : Int} (hG : G σ u) (rx1 : inR x1) (rx2 : inR x2) (rx3 : inR x3)
    (h : (((rI σ 80 6) ≤ x3 → L_X10_change_69 C sc P x1 x2 0 σ) ∧ (¬ ((rI σ 80 6) ≤ x3) → ((0 ≤ x3 ∧ x3 < 20) ∧ (((rI σ (122 + x3.toNat) 0) ≤ x1 → (inR (x3 + 1) ∧ L_X10_change_13 C sc P x1 x2 (x3 + 1) σ)) ∧ (¬ ((rI σ (122 + x3.toNat) 0) ≤ x1) → ((0 ≤ x3 ∧ x3 < 20) ∧ ((x2 ≤ (rI σ (122 + x3.toNat) 0) → (inR (x3 + 1) ∧ L_X10_change_13 C sc P x1 x2 (x3 + 1) σ)) ∧ (¬ (x2 ≤ (rI σ (122 + x3.toNat) 0)) → ((0 ≤ x3 ∧ x3 < 20) ∧ (∀ z6 : Int, z6 = (rI σ (122 + x3.toNat) 0) → (inR (x3 + 1) ∧ L_X10_change_13 C sc P x1 z6 (x3 + 1) σ)))))))))))) :
    L_X10_change_13 C sc P x1 x2 x3 σ := by
  unfold L_X10_change_13
  refine w_iload_n dX10_change_13 rfl (List.Mem.tail _ (List.Mem.tail _ (List.Mem.tail _ (List.Mem.head _)))) ?_
  refine w_aload_n dX10_change_14 rfl (List.Mem.head _) ?_
  refine w_getR (ci := 10) (k := 11) (b := 80) dX10_change_15 fl_10_23 (by decide) (gT hG rfl (lt_of rfl)) (gR hG (b := 80) rfl) ?_
  refine w_bipush (v := nZ 6) dX10_change_18 (by decide) ?_
  refine i_iald (n := 8) dX10_change_20 (gT hG rfl (lt_of rfl)) (gL hG rfl) (by decide) (by decide) ?_
  refine i_cmp_ge (tgt := 67) dX10_change_21 rfl rx3 (rI_R _ _ _) (fun c9 => ?_) (fun c9 => ?_)
  · replace h := h.1 c9
    refine w_iconst (v := nZ 0) dX10_change_67 (by decide) ?_
    refine w_istore_n (l' := [(3, .int (nZ 0)), (0, .ref 76), (1, .int (nZ x1)), (2, .int (nZ x2))]) dX10_change_68 rfl (by decide) rfl ?_
    exact w_weak (l' := [(0, .ref 76), (1, .int (nZ x1)), (2, .int (nZ x2)), (3, .int (nZ 0))]) (by intro q hq; simp only [List.mem_cons, List.not_mem_nil, or_false] at hq ⊢; rcases hq with rfl | rfl | rfl | rfl <;> simp) h
  · replace h := h.2 c9
    refine w_aload_n dX10_change_24 rfl (List.Mem.head _) ?_
    refine w_getR (ci := 10) (k := 15) (b := 121) dX10_change_25 fl_10_37 (by decide) (gT hG rfl (lt_of rfl)) (gR hG (b := 121) rfl) ?_
    refine w_iload_n dX10_change_28 rfl (List.Mem.tail _ (List.Mem.tail _ (List.Mem.tail _ (List.Mem.head _)))) ?_
    obtain ⟨h9, h⟩ := h
    have hj1 := vin_lt2 (n := 20) h9 rfl
    refine i_aald (n := 20) (b := (122 + x3.toNat)) dX10_change_29 (gT hG rfl (lt_of rfl)) (gL hG rfl) rx3 h9 (gR hG (rr_121 hj1)) ?_
    refine w_iconst (v := nZ 0) dX10_change_30 (by decide) ?_
    refine i_iald (n := 4) dX10_change_31 (gT hG (ro_121 _ hj1).1 (by have := hj1; omega)) (gL hG (ro_121 _ hj1).2) (by decide) (by decide) ?_
    refine w_iload_n dX10_change_32 rfl (List.Mem.tail _ (List.Mem.head _)) ?_
    refine i_cmp_le (tgt := 59) dX10_change_33 rfl (rI_R _ _ _) rx1 (fun c9 => ?_) (fun c9 => ?_)
    · replace h := h.1 c9
      refine w_iload_n dX10_change_59 rfl (List.Mem.tail _ (List.Mem.tail _ (List.Mem.head _))) ?_
      refine w_istore_n (l' := [(2, .int (nZ x2)), (0, .ref 76), (1, .int (nZ x1)), (3, .int (nZ x3))]) dX10_change_60 rfl (by decide) rfl ?_
      obtain ⟨q2, h⟩ := h
      refine w_iinc (v := nZ (x3 + 1)) (l' := [(3, .int (nZ (x3 + 1))), (2, .int (nZ x2)), (0, .ref 76), (1, .int (nZ x1))]) dX10_change_61 (List.Mem.tail _ (List.Mem.tail _ (List.Mem.tail _ (List.Mem.head _)))) (nZ_add _ _) (by decide) rfl ?_
      refine w_goto (tgt := 13) dX10_change_64 rfl ?_
      exact w_weak (l' := [(0, .ref 76), (1, .int (nZ x1)), (2, .int (nZ x2)), (3, .int (nZ (x3 + 1)))]) (by intro q hq; simp only [List.mem_cons, List.not_mem_nil, or_false] at hq ⊢; rcases hq with rfl | rfl | rfl | rfl <;> simp) h
    · replace h := h.2 c9
      refine w_aload_n dX10_change_36 rfl (List.Mem.head _) ?_
      refine w_getR (ci := 10) (k := 15) (b := 121) dX10_change_37 fl_10_37 (by decide) (gT hG rfl (lt_of rfl)) (gR hG (b := 121) rfl) ?_
      refine w_iload_n dX10_change_40 rfl (List.Mem.tail _ (List.Mem.tail _ (List.Mem.tail _ (List.Mem.head _)))) ?_
      obtain ⟨h9, h⟩ := h
      have hj3 := vin_lt2 (n := 20) h9 rfl
      refine i_aald (n := 20) (b := (122 + x3.toNat)) dX10_change_41 (gT hG rfl (lt_of rfl)) (gL hG rfl) rx3 h9 (gR hG (rr_121 hj3)) ?_
      refine w_iconst (v := nZ 0) dX10_change_42 (by decide) ?_
      refine i_iald (n := 4) dX10_change_43 (gT hG (ro_121 _ hj3).1 (by have := hj3; omega)) (gL hG (ro_121 _ hj3).2) (by decide) (by decide) ?_
      refine w_iload_n dX10_change_44 rfl (List.Mem.tail _ (List.Mem.tail _ (List.Mem.head _))) ?_
      refine i_cmp_ge (tgt := 59) dX10_change_45 rfl (rI_R _ _ _) rx2 (fun c9 => ?_) (fun c9 => ?_)
      · replace h := h.1 c9
        refine w_iload_n dX10_change_59 rfl (List.Mem.tail _ (List.Mem.tail _ (List.Mem.head _))) ?_
        refine w_istore_n (l' := [(2, .int (nZ x2)), (0, .ref 76), (1, .int (nZ x1)), (3, .int (nZ x3))]) dX10_change_60 rfl (by decide) rfl ?_
        obtain ⟨q4, h⟩ := h
        refine w_iinc (v := nZ (x3 + 1)) (l' := [(3, .int (nZ (x3 + 1))), (2, .int (nZ x2)), (0, .ref 76), (1, .int (nZ x1))]) dX10_change_61 (List.Mem.tail _ (List.Mem.tail _ (List.Mem.tail _ (List.Mem.head _)))) (nZ_add _ _) (by decide) rfl ?_
        refine w_goto (tgt := 13) dX10_change_64 rfl ?_
        exact w_weak (l' := [(0, .ref 76), (1, .int (nZ x1)), (2, .int (nZ x2)), (3, .int (nZ (x3 + 1)))]) (by intro q hq; simp only [List.mem_cons, List.not_mem_nil, or_false] at hq ⊢; rcases hq with rfl | rfl | rfl | rfl <;> simp) h
      · replace h := h.2 c9
        refine w_aload_n dX10_change_48 rfl (List.Mem.head _) ?_
        refine w_getR (ci := 10) (k := 15) (b := 121) dX10_change_49 fl_10_37 (by decide) (gT hG rfl (lt_of rfl)) (gR hG (b := 121) rfl) ?_
        refine w_iload_n dX10_change_52 rfl (List.Mem.tail _ (List.Mem.tail _ (List.Mem.tail _ (List.Mem.head _)))) ?_
        obtain ⟨h9, h⟩ := h
        have hj5 := vin_lt2 (n := 20) h9 rfl
        refine i_aald (n := 20) (b := (122 + x3.toNat)) dX10_change_53 (gT hG rfl (lt_of rfl)) (gL hG rfl) rx3 h9 (gR hG (rr_121 hj5)) ?_
        refine w_iconst (v := nZ 0) dX10_change_54 (by decide) ?_
        refine i_iald (n := 4) dX10_change_55 (gT hG (ro_121 _ hj5).1 (by have := hj5; omega)) (gL hG (ro_121 _ hj5).2) (by decide) (by decide) ?_
        refine w_goto (tgt := 60) dX10_change_56 rfl ?_
        refine top_i (fun z6 ez7 => ?_)
        have rz8 : inR z6 := ez7 ▸ (rI_R _ _ _)
        replace h := h z6 ez7
        refine w_istore_n (l' := [(2, .int (nZ z6)), (0, .ref 76), (1, .int (nZ x1)), (3, .int (nZ x3))]) dX10_change_60 rfl (by decide) rfl ?_
        obtain ⟨q9, h⟩ := h
        refine w_iinc (v := nZ (x3 + 1)) (l' := [(3, .int (nZ (x3 + 1))), (2, .int (nZ z6)), (0, .ref 76), (1, .int (nZ x1))]) dX10_change_61 (List.Mem.tail _ (List.Mem.tail _ (List.Mem.tail _ (List.Mem.head _)))) (nZ_add _ _) (by decide) rfl ?_
        refine w_goto (tgt := 13) dX10_change_64 rfl ?_
        exact w_weak (l' := [(0, .ref 76), (1, .int (nZ x1)), (2, .int (nZ z6)), (3, .int (nZ (x3 + 1)))]) (by intro q hq; simp only [List.mem_cons, List.not_mem_nil, or_false] at hq ⊢; rcases hq with rfl | rfl | rfl | rfl <;> simp) h
set_option maxRecDepth 10000 in
theorem v_X10_change_69 {C : aM → List Value → aH → aO → aH → Prop} {sc : Nat × (Nat → Int32)} {P : aO → aH → Prop} {σ : aH} {u : Nat}  {x1 : Int} {x2 : Int} {x3 : Int} (hG : G σ u) (rx1 : inR x1) (rx2 : inR x2) (rx3 : inR x3)
    (h : (((rI σ 80 7) ≤ x3 → (((rI σ 80 4) ≤ x1 → P (.inl (some (.int (nZ x2)))) σ) ∧ (¬ ((rI σ 80 4) ≤ x1) → ((x2 ≤ (rI σ 80 4) → P (.inl (some (.int (nZ x2)))) σ) ∧ (¬ (x2 ≤ (rI σ 80 4)) → P (.inl (some (.int (nZ (rI σ 80 4))))) σ))))) ∧ (¬ ((rI σ 80 7) ≤ x3) → ((0 ≤ x3 ∧ x3 < 20) ∧ (((rI σ (164 + x3.toNat) 0) ≤ x1 → (inR (x3 + 1) ∧ L_X10_change_69 C sc P x1 x2 (x3 + 1) σ)) ∧ (¬ ((rI σ (164 + x3.toNat) 0) ≤ x1) → ((0 ≤ x3 ∧ x3 < 20) ∧ ((x2 ≤ (rI σ (164 + x3.toNat) 0) → (inR (x3 + 1) ∧ L_X10_change_69 C sc P x1 x2 (x3 + 1) σ)) ∧ (¬ (x2 ≤ (rI σ (164 + x3.toNat) 0)) → ((0 ≤ x3 ∧ x3 < 20) ∧ (∀ z6 : Int, z6 = (rI σ (164 + x3.toNat) 0) → (inR (x3 + 1) ∧ L_X10_change_69 C sc P x1 z6 (x3 + 1) σ)))))))))))) :
    L_X10_change_69 C sc P x1 x2 x3 σ := by
  unfold L_X10_change_69
  refine w_iload_n dX10_change_69 rfl (List.Mem.tail _ (List.Mem.tail _ (List.Mem.tail _ (List.Mem.head _)))) ?_
  refine w_aload_n dX10_change_70 rfl (List.Mem.head _) ?_
  refine w_getR (ci := 10) (k := 11) (b := 80) dX10_change_71 fl_10_23 (by decide) (gT hG rfl (lt_of rfl)) (gR hG (b := 80) rfl) ?_
  refine w_bipush (v := nZ 7) dX10_change_74 (by decide) ?_
  refine i_iald (n := 8) dX10_change_76 (gT hG rfl (lt_of rfl)) (gL hG rfl) (by decide) (by decide) ?_
  refine i_cmp_ge (tgt := 123) dX10_change_77 rfl rx3 (rI_R _ _ _) (fun c9 => ?_) (fun c9 => ?_)
  · replace h := h.1 c9
    refine w_aload_n dX10_change_123 rfl (List.Mem.head _) ?_
    refine w_getR (ci := 10) (k := 11) (b := 80) dX10_change_124 fl_10_23 (by decide) (gT hG rfl (lt_of rfl)) (gR hG (b := 80) rfl) ?_
    refine w_iconst (v := nZ 4) dX10_change_127 (by decide) ?_
    refine i_iald (n := 8) dX10_change_128 (gT hG rfl (lt_of rfl)) (gL hG rfl) (by decide) (by decide) ?_
    refine w_iload_n dX10_change_129 rfl (List.Mem.tail _ (List.Mem.head _)) ?_
    refine i_cmp_le (tgt := 152) dX10_change_130 rfl (rI_R _ _ _) rx1 (fun c9 => ?_) (fun c9 => ?_)
    · replace h := h.1 c9
      refine w_iload_n dX10_change_152 rfl (List.Mem.tail _ (List.Mem.tail _ (List.Mem.head _))) ?_
      exact w_iret dX10_change_153 rfl h
    · replace h := h.2 c9
      refine w_aload_n dX10_change_133 rfl (List.Mem.head _) ?_
      refine w_getR (ci := 10) (k := 11) (b := 80) dX10_change_134 fl_10_23 (by decide) (gT hG rfl (lt_of rfl)) (gR hG (b := 80) rfl) ?_
      refine w_iconst (v := nZ 4) dX10_change_137 (by decide) ?_
      refine i_iald (n := 8) dX10_change_138 (gT hG rfl (lt_of rfl)) (gL hG rfl) (by decide) (by decide) ?_
      refine w_iload_n dX10_change_139 rfl (List.Mem.tail _ (List.Mem.tail _ (List.Mem.head _))) ?_
      refine i_cmp_ge (tgt := 152) dX10_change_140 rfl (rI_R _ _ _) rx2 (fun c9 => ?_) (fun c9 => ?_)
      · replace h := h.1 c9
        refine w_iload_n dX10_change_152 rfl (List.Mem.tail _ (List.Mem.tail _ (List.Mem.head _))) ?_
        exact w_iret dX10_change_153 rfl h
      · replace h := h.2 c9
        refine w_aload_n dX10_change_143 rfl (List.Mem.head _) ?_
        refine w_getR (ci := 10) (k := 11) (b := 80) dX10_change_144 fl_10_23 (by decide) (gT hG rfl (lt_of rfl)) (gR hG (b := 80) rfl) ?_
        refine w_iconst (v := nZ 4) dX10_change_147 (by decide) ?_
        refine i_iald (n := 8) dX10_change_148 (gT hG rfl (lt_of rfl)) (gL hG rfl) (by decide) (by decide) ?_
        refine w_goto (tgt := 153) dX10_change_149 rfl ?_
        exact w_iret dX10_change_153 rfl h
  · replace h := h.2 c9
    refine w_aload_n dX10_change_80 rfl (List.Mem.head _) ?_
    refine w_getR (ci := 10) (k := 17) (b := 163) dX10_change_81 fl_10_43 (by decide) (gT hG rfl (lt_of rfl)) (gR hG (b := 163) rfl) ?_
    refine w_iload_n dX10_change_84 rfl (List.Mem.tail _ (List.Mem.tail _ (List.Mem.tail _ (List.Mem.head _)))) ?_
    obtain ⟨h9, h⟩ := h
    have hj1 := vin_lt2 (n := 20) h9 rfl
    refine i_aald (n := 20) (b := (164 + x3.toNat)) dX10_change_85 (gT hG rfl (lt_of rfl)) (gL hG rfl) rx3 h9 (gR hG (rr_163 hj1)) ?_
    refine w_iconst (v := nZ 0) dX10_change_86 (by decide) ?_
    refine i_iald (n := 2) dX10_change_87 (gT hG (ro_163 _ hj1).1 (by have := hj1; omega)) (gL hG (ro_163 _ hj1).2) (by decide) (by decide) ?_
    refine w_iload_n dX10_change_88 rfl (List.Mem.tail _ (List.Mem.head _)) ?_
    refine i_cmp_le (tgt := 115) dX10_change_89 rfl (rI_R _ _ _) rx1 (fun c9 => ?_) (fun c9 => ?_)
    · replace h := h.1 c9
      refine w_iload_n dX10_change_115 rfl (List.Mem.tail _ (List.Mem.tail _ (List.Mem.head _))) ?_
      refine w_istore_n (l' := [(2, .int (nZ x2)), (0, .ref 76), (1, .int (nZ x1)), (3, .int (nZ x3))]) dX10_change_116 rfl (by decide) rfl ?_
      obtain ⟨q2, h⟩ := h
      refine w_iinc (v := nZ (x3 + 1)) (l' := [(3, .int (nZ (x3 + 1))), (2, .int (nZ x2)), (0, .ref 76), (1, .int (nZ x1))]) dX10_change_117 (List.Mem.tail _ (List.Mem.tail _ (List.Mem.tail _ (List.Mem.head _)))) (nZ_add _ _) (by decide) rfl ?_
      refine w_goto (tgt := 69) dX10_change_120 rfl ?_
      exact w_weak (l' := [(0, .ref 76), (1, .int (nZ x1)), (2, .int (nZ x2)), (3, .int (nZ (x3 + 1)))]) (by intro q hq; simp only [List.mem_cons, List.not_mem_nil, or_false] at hq ⊢; rcases hq with rfl | rfl | rfl | rfl <;> simp) h
    · replace h := h.2 c9
      refine w_aload_n dX10_change_92 rfl (List.Mem.head _) ?_
      refine w_getR (ci := 10) (k := 17) (b := 163) dX10_change_93 fl_10_43 (by decide) (gT hG rfl (lt_of rfl)) (gR hG (b := 163) rfl) ?_
      refine w_iload_n dX10_change_96 rfl (List.Mem.tail _ (List.Mem.tail _ (List.Mem.tail _ (List.Mem.head _)))) ?_
      obtain ⟨h9, h⟩ := h
      have hj3 := vin_lt2 (n := 20) h9 rfl
      refine i_aald (n := 20) (b := (164 + x3.toNat)) dX10_change_97 (gT hG rfl (lt_of rfl)) (gL hG rfl) rx3 h9 (gR hG (rr_163 hj3)) ?_
      refine w_iconst (v := nZ 0) dX10_change_98 (by decide) ?_
      refine i_iald (n := 2) dX10_change_99 (gT hG (ro_163 _ hj3).1 (by have := hj3; omega)) (gL hG (ro_163 _ hj3).2) (by decide) (by decide) ?_
      refine w_iload_n dX10_change_100 rfl (List.Mem.tail _ (List.Mem.tail _ (List.Mem.head _))) ?_
      refine i_cmp_ge (tgt := 115) dX10_change_101 rfl (rI_R _ _ _) rx2 (fun c9 => ?_) (fun c9 => ?_)
      · replace h := h.1 c9
        refine w_iload_n dX10_change_115 rfl (List.Mem.tail _ (List.Mem.tail _ (List.Mem.head _))) ?_
        refine w_istore_n (l' := [(2, .int (nZ x2)), (0, .ref 76), (1, .int (nZ x1)), (3, .int (nZ x3))]) dX10_change_116 rfl (by decide) rfl ?_
        obtain ⟨q4, h⟩ := h
        refine w_iinc (v := nZ (x3 + 1)) (l' := [(3, .int (nZ (x3 + 1))), (2, .int (nZ x2)), (0, .ref 76), (1, .int (nZ x1))]) dX10_change_117 (List.Mem.tail _ (List.Mem.tail _ (List.Mem.tail _ (List.Mem.head _)))) (nZ_add _ _) (by decide) rfl ?_
        refine w_goto (tgt := 69) dX10_change_120 rfl ?_
        exact w_weak (l' := [(0, .ref 76), (1, .int (nZ x1)), (2, .int (nZ x2)), (3, .int (nZ (x3 + 1)))]) (by intro q hq; simp only [List.mem_cons, List.not_mem_nil, or_false] at hq ⊢; rcases hq with rfl | rfl | rfl | rfl <;> simp) h
      · replace h := h.2 c9
        refine w_aload_n dX10_change_104 rfl (List.Mem.head _) ?_
        refine w_getR (ci := 10) (k := 17) (b := 163) dX10_change_105 fl_10_43 (by decide) (gT hG rfl (lt_of rfl)) (gR hG (b := 163) rfl) ?_
        refine w_iload_n dX10_change_108 rfl (List.Mem.tail _ (List.Mem.tail _ (List.Mem.tail _ (List.Mem.head _)))) ?_
        obtain ⟨h9, h⟩ := h
        have hj5 := vin_lt2 (n := 20) h9 rfl
        refine i_aald (n := 20) (b := (164 + x3.toNat)) dX10_change_109 (gT hG rfl (lt_of rfl)) (gL hG rfl) rx3 h9 (gR hG (rr_163 hj5)) ?_
        refine w_iconst (v := nZ 0) dX10_change_110 (by decide) ?_
        refine i_iald (n := 2) dX10_change_111 (gT hG (ro_163 _ hj5).1 (by have := hj5; omega)) (gL hG (ro_163 _ hj5).2) (by decide) (by decide) ?_
        refine w_goto (tgt := 116) dX10_change_112 rfl ?_
        refine top_i (fun z6 ez7 => ?_)
        have rz8 : inR z6 := ez7 ▸ (rI_R _ _ _)
        replace h := h z6 ez7
        refine w_istore_n (l' := [(2, .int (nZ z6)), (0, .ref 76), (1, .int (nZ x1)), (3, .int (nZ x3))]) dX10_change_116 rfl (by decide) rfl ?_
        obtain ⟨q9, h⟩ := h
        refine w_iinc (v := nZ (x3 + 1)) (l' := [(3, .int (nZ (x3 + 1))), (2, .int (nZ z6)), (0, .ref 76), (1, .int (nZ x1))]) dX10_change_117 (List.Mem.tail _ (List.Mem.tail _ (List.Mem.tail _ (List.Mem.head _)))) (nZ_add _ _) (by decide) rfl ?_
        refine w_goto (tgt := 69) dX10_change_120 rfl ?_
        exact w_weak (l' := [(0, .ref 76), (1, .int (nZ x1)), (2, .int (nZ z6)), (3, .int (nZ (x3 + 1)))]) (by intro q hq; simp only [List.mem_cons, List.not_mem_nil, or_false] at hq ⊢; rcases hq with rfl | rfl | rfl | rfl <;> simp) h
