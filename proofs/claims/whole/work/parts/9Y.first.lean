/-! THE REFERENCE'S CONSTRUCTOR: what stands first; the layout without its last two cells. -/
def Gk (σ : aH) (u : Nat) : Prop := (∀ a : Nat, a < 343 → σ.1 a = S0 a) ∧ 343 ≤ gN σ ∧ u = u
section
variable {σ : aH} {u : Nat}
theorem kT (hG : Gk σ u) {a t : Nat} (h : (S0 a).1 = t) (hl : a < 343) : tg σ a = t ∧ a < gN σ := ⟨by unfold tg; rw [hG.1 a hl]; exact h, Nat.lt_of_lt_of_le hl hG.2.1⟩
theorem kL (hG : Gk σ u) {a n : Nat} (h : (S0 a).2.1 = n) (hl : a < 343) : ln σ a = n := by unfold ln; rw [hG.1 a hl]; exact h
theorem kR (hG : Gk σ u) {a k b : Nat} (h : (S0 a).2.2 k = some b) (hl : a < 343) : rf σ a k = some b := by unfold rf; rw [hG.1 a hl]; exact h
theorem Gk.wI (hG : Gk σ u) {a : Nat} {k v : Int} : Gk (wI σ a k v) u := hG
theorem Gk.wJ (hG : Gk σ u) {a : Nat} {k v : Int} : Gk (wJ σ a k v) u := hG
theorem lt_k {a : Nat} (h : Nat.blt a 343 = true) : a < 343 := Nat.le_of_ble_eq_true h
end
theorem Fr.gk {A : Nat → Int → Prop} {σ σ1 : aH} {u : Nat} (h : Fr A σ σ1) (hG : Gk σ u) : Gk σ1 u := by
  obtain ⟨⟨k1, k2, k3⟩, -⟩ := h
  refine ⟨fun a ha => by rw [k1]; exact hG.1 a ha, ?_, rfl⟩
  have := hG.2.1
  unfold gN at this ⊢; rw [k3]; exact this
def Fk (A : Nat → Int → Prop) (k w : Nat) (σ σ1 : aH) : Prop := σ1.1 = σ.1 ∧ (∀ a : Nat, a < 343 → σ1.2.1 a = σ.2.1 a) ∧ (∀ a : Nat, a < 343 → σ1.2.2.2.1 a = σ.2.2.2.1 a) ∧ gN σ1 = gN σ + k ∧ gW σ1 = gW σ + w ∧ ∀ (a : Nat) (i : Int), a < 343 → 0 ≤ i → ¬ A a i → rI σ1 a i = rI σ a i
set_option maxRecDepth 10000 in
theorem tk_X10_sunAt {sc : Nat × (Nat → Int32)} {d : Nat} {Q : aO → aH → Prop} {σ : aH} {u : Nat}  {x1 : Int} (hG : Gk σ u) (rx1 : inR x1)
    (h : L_X10_sunAt_4 (Ev sc d) sc Q x1 (-1) 0 σ) :
    T sc (d + 1) mX10_sunAt [.ref 76, .int (nZ x1)] σ Q := by
  refine T.of (c := 10) (code := cX10_sunAt) (mL := 4) (rt := (some .int)) (ini := false) (l := [(0, .ref 76), (1, .int (nZ x1))]) rfl rfl rfl rfl (by decide) hs_X10_sunAt rfl rfl ?_
  refine w_iconst (v := nZ (-1)) dX10_sunAt_0 (by decide) ?_
  refine w_istore_n (l' := [(2, .int (nZ (-1))), (0, .ref 76), (1, .int (nZ x1))]) dX10_sunAt_1 rfl (by decide) rfl ?_
  refine w_iconst (v := nZ 0) dX10_sunAt_2 (by decide) ?_
  refine w_istore_n (l' := [(3, .int (nZ 0)), (2, .int (nZ (-1))), (0, .ref 76), (1, .int (nZ x1))]) dX10_sunAt_3 rfl (by decide) rfl ?_
  exact w_weak (l' := [(0, .ref 76), (1, .int (nZ x1)), (2, .int (nZ (-1))), (3, .int (nZ 0))]) (by intro q hq; simp only [List.mem_cons, List.not_mem_nil, or_false] at hq ⊢; rcases hq with rfl | rfl | rfl | rfl <;> simp) h
set_option maxRecDepth 10000 in
theorem vk_X10_sunAt_4 {C : aM → List Value → aH → aO → aH → Prop} {sc : Nat × (Nat → Int32)} {P : aO → aH → Prop} {σ : aH} {u : Nat}  {x1 : Int} {x2 : Int} {x3 : Int} (hG : Gk σ u) (rx1 : inR x1) (rx2 : inR x2) (rx3 : inR x3)
    (h : (((rI σ 80 6) ≤ x3 → P (.inl (some (.int (nZ x2)))) σ) ∧ (¬ ((rI σ 80 6) ≤ x3) → ((0 ≤ x3 ∧ x3 < 20) ∧ ((x1 < (rI σ (122 + x3.toNat) 0) → (inR (x3 + 1) ∧ L_X10_sunAt_4 C sc P x1 x2 (x3 + 1) σ)) ∧ (¬ (x1 < (rI σ (122 + x3.toNat) 0)) → ((x2 = (-1) → (inR (x3 + 1) ∧ L_X10_sunAt_4 C sc P x1 x3 (x3 + 1) σ)) ∧ (¬ (x2 = (-1)) → ((0 ≤ x3 ∧ x3 < 20) ∧ ((0 ≤ x2 ∧ x2 < 20) ∧ (((rI σ (122 + x3.toNat) 0) ≤ (rI σ (122 + x2.toNat) 0) → (inR (x3 + 1) ∧ L_X10_sunAt_4 C sc P x1 x2 (x3 + 1) σ)) ∧ (¬ ((rI σ (122 + x3.toNat) 0) ≤ (rI σ (122 + x2.toNat) 0)) → (inR (x3 + 1) ∧ L_X10_sunAt_4 C sc P x1 x3 (x3 + 1) σ))))))))))))) :
    L_X10_sunAt_4 C sc P x1 x2 x3 σ := by
  unfold L_X10_sunAt_4
  refine w_iload_n dX10_sunAt_4 rfl (List.Mem.tail _ (List.Mem.tail _ (List.Mem.tail _ (List.Mem.head _)))) ?_
  refine w_aload_n dX10_sunAt_5 rfl (List.Mem.head _) ?_
  refine w_getR (ci := 10) (k := 11) (b := 80) dX10_sunAt_6 fl_10_23 (by decide) (kT hG rfl (lt_k rfl)) (kR hG (b := 80) rfl (lt_k rfl)) ?_
  refine w_bipush (v := nZ 6) dX10_sunAt_9 (by decide) ?_
  refine i_iald (n := 8) dX10_sunAt_11 (kT hG rfl (lt_k rfl)) (kL hG rfl (lt_k rfl)) (by decide) (by decide) ?_
  refine i_cmp_ge (tgt := 59) dX10_sunAt_12 rfl rx3 (rI_R _ _ _) (fun c9 => ?_) (fun c9 => ?_)
  · replace h := h.1 c9
    refine w_iload_n dX10_sunAt_59 rfl (List.Mem.tail _ (List.Mem.tail _ (List.Mem.head _))) ?_
    exact w_iret dX10_sunAt_60 rfl h
  · replace h := h.2 c9
    refine w_aload_n dX10_sunAt_15 rfl (List.Mem.head _) ?_
    refine w_getR (ci := 10) (k := 15) (b := 121) dX10_sunAt_16 fl_10_37 (by decide) (kT hG rfl (lt_k rfl)) (kR hG (b := 121) rfl (lt_k rfl)) ?_
    refine w_iload_n dX10_sunAt_19 rfl (List.Mem.tail _ (List.Mem.tail _ (List.Mem.tail _ (List.Mem.head _)))) ?_
    obtain ⟨h9, h⟩ := h
    have hj1 := vin_lt2 (n := 20) h9 rfl
    refine i_aald (n := 20) (b := (122 + x3.toNat)) dX10_sunAt_20 (kT hG rfl (lt_k rfl)) (kL hG rfl (lt_k rfl)) rx3 h9 (kR hG (rr_121 hj1) (lt_k rfl)) ?_
    refine w_iconst (v := nZ 0) dX10_sunAt_21 (by decide) ?_
    refine i_iald (n := 4) dX10_sunAt_22 (kT hG (ro_121 _ hj1).1 (by have := hj1; omega)) (kL hG (ro_121 _ hj1).2 (by have := hj1; omega)) (by decide) (by decide) ?_
    refine w_iload_n dX10_sunAt_23 rfl (List.Mem.tail _ (List.Mem.head _)) ?_
    refine i_cmp_gt (tgt := 53) dX10_sunAt_24 rfl (rI_R _ _ _) rx1 (fun c9 => ?_) (fun c9 => ?_)
    · replace h := h.1 c9
      obtain ⟨q2, h⟩ := h
      refine w_iinc (v := nZ (x3 + 1)) (l' := [(3, .int (nZ (x3 + 1))), (0, .ref 76), (1, .int (nZ x1)), (2, .int (nZ x2))]) dX10_sunAt_53 (List.Mem.tail _ (List.Mem.tail _ (List.Mem.tail _ (List.Mem.head _)))) (nZ_add _ _) (by decide) rfl ?_
      refine w_goto (tgt := 4) dX10_sunAt_56 rfl ?_
      exact w_weak (l' := [(0, .ref 76), (1, .int (nZ x1)), (2, .int (nZ x2)), (3, .int (nZ (x3 + 1)))]) (by intro q hq; simp only [List.mem_cons, List.not_mem_nil, or_false] at hq ⊢; rcases hq with rfl | rfl | rfl | rfl <;> simp) h
    · replace h := h.2 c9
      refine w_iload_n dX10_sunAt_27 rfl (List.Mem.tail _ (List.Mem.tail _ (List.Mem.head _))) ?_
      refine w_iconst (v := nZ (-1)) dX10_sunAt_28 (by decide) ?_
      refine i_cmp_eq (tgt := 51) dX10_sunAt_29 rfl rx2 (by decide) (fun c9 => ?_) (fun c9 => ?_)
      · replace h := h.1 c9
        refine w_iload_n dX10_sunAt_51 rfl (List.Mem.tail _ (List.Mem.tail _ (List.Mem.tail _ (List.Mem.head _)))) ?_
        refine w_istore_n (l' := [(2, .int (nZ x3)), (0, .ref 76), (1, .int (nZ x1)), (3, .int (nZ x3))]) dX10_sunAt_52 rfl (by decide) rfl ?_
        obtain ⟨q3, h⟩ := h
        refine w_iinc (v := nZ (x3 + 1)) (l' := [(3, .int (nZ (x3 + 1))), (2, .int (nZ x3)), (0, .ref 76), (1, .int (nZ x1))]) dX10_sunAt_53 (List.Mem.tail _ (List.Mem.tail _ (List.Mem.tail _ (List.Mem.head _)))) (nZ_add _ _) (by decide) rfl ?_
        refine w_goto (tgt := 4) dX10_sunAt_56 rfl ?_
        exact w_weak (l' := [(0, .ref 76), (1, .int (nZ x1)), (2, .int (nZ x3)), (3, .int (nZ (x3 + 1)))]) (by intro q hq; simp only [List.mem_cons, List.not_mem_nil, or_false] at hq ⊢; rcases hq with rfl | rfl | rfl | rfl <;> simp) h
      · replace h := h.2 c9
        refine w_aload_n dX10_sunAt_32 rfl (List.Mem.head _) ?_
        refine w_getR (ci := 10) (k := 15) (b := 121) dX10_sunAt_33 fl_10_37 (by decide) (kT hG rfl (lt_k rfl)) (kR hG (b := 121) rfl (lt_k rfl)) ?_
        refine w_iload_n dX10_sunAt_36 rfl (List.Mem.tail _ (List.Mem.tail _ (List.Mem.tail _ (List.Mem.head _)))) ?_
        obtain ⟨h9, h⟩ := h
        have hj4 := vin_lt2 (n := 20) h9 rfl
        refine i_aald (n := 20) (b := (122 + x3.toNat)) dX10_sunAt_37 (kT hG rfl (lt_k rfl)) (kL hG rfl (lt_k rfl)) rx3 h9 (kR hG (rr_121 hj4) (lt_k rfl)) ?_
        refine w_iconst (v := nZ 0) dX10_sunAt_38 (by decide) ?_
        refine i_iald (n := 4) dX10_sunAt_39 (kT hG (ro_121 _ hj4).1 (by have := hj4; omega)) (kL hG (ro_121 _ hj4).2 (by have := hj4; omega)) (by decide) (by decide) ?_
        refine w_aload_n dX10_sunAt_40 rfl (List.Mem.head _) ?_
        refine w_getR (ci := 10) (k := 15) (b := 121) dX10_sunAt_41 fl_10_37 (by decide) (kT hG rfl (lt_k rfl)) (kR hG (b := 121) rfl (lt_k rfl)) ?_
        refine w_iload_n dX10_sunAt_44 rfl (List.Mem.tail _ (List.Mem.tail _ (List.Mem.head _))) ?_
        obtain ⟨h9, h⟩ := h
        have hj5 := vin_lt2 (n := 20) h9 rfl
        refine i_aald (n := 20) (b := (122 + x2.toNat)) dX10_sunAt_45 (kT hG rfl (lt_k rfl)) (kL hG rfl (lt_k rfl)) rx2 h9 (kR hG (rr_121 hj5) (lt_k rfl)) ?_
        refine w_iconst (v := nZ 0) dX10_sunAt_46 (by decide) ?_
        refine i_iald (n := 4) dX10_sunAt_47 (kT hG (ro_121 _ hj5).1 (by have := hj5; omega)) (kL hG (ro_121 _ hj5).2 (by have := hj5; omega)) (by decide) (by decide) ?_
        refine i_cmp_le (tgt := 53) dX10_sunAt_48 rfl (rI_R _ _ _) (rI_R _ _ _) (fun c9 => ?_) (fun c9 => ?_)
        · replace h := h.1 c9
          obtain ⟨q6, h⟩ := h
          refine w_iinc (v := nZ (x3 + 1)) (l' := [(3, .int (nZ (x3 + 1))), (0, .ref 76), (1, .int (nZ x1)), (2, .int (nZ x2))]) dX10_sunAt_53 (List.Mem.tail _ (List.Mem.tail _ (List.Mem.tail _ (List.Mem.head _)))) (nZ_add _ _) (by decide) rfl ?_
          refine w_goto (tgt := 4) dX10_sunAt_56 rfl ?_
          exact w_weak (l' := [(0, .ref 76), (1, .int (nZ x1)), (2, .int (nZ x2)), (3, .int (nZ (x3 + 1)))]) (by intro q hq; simp only [List.mem_cons, List.not_mem_nil, or_false] at hq ⊢; rcases hq with rfl | rfl | rfl | rfl <;> simp) h
        · replace h := h.2 c9
          refine w_iload_n dX10_sunAt_51 rfl (List.Mem.tail _ (List.Mem.tail _ (List.Mem.tail _ (List.Mem.head _)))) ?_
          refine w_istore_n (l' := [(2, .int (nZ x3)), (0, .ref 76), (1, .int (nZ x1)), (3, .int (nZ x3))]) dX10_sunAt_52 rfl (by decide) rfl ?_
          obtain ⟨q7, h⟩ := h
          refine w_iinc (v := nZ (x3 + 1)) (l' := [(3, .int (nZ (x3 + 1))), (2, .int (nZ x3)), (0, .ref 76), (1, .int (nZ x1))]) dX10_sunAt_53 (List.Mem.tail _ (List.Mem.tail _ (List.Mem.tail _ (List.Mem.head _)))) (nZ_add _ _) (by decide) rfl ?_
          refine w_goto (tgt := 4) dX10_sunAt_56 rfl ?_
          exact w_weak (l' := [(0, .ref 76), (1, .int (nZ x1)), (2, .int (nZ x3)), (3, .int (nZ (x3 + 1)))]) (by intro q hq; simp only [List.mem_cons, List.not_mem_nil, or_false] at hq ⊢; rcases hq with rfl | rfl | rfl | rfl <;> simp) h
set_option maxRecDepth 10000 in
theorem tk_X10_rateAt {sc : Nat × (Nat → Int32)} {d : Nat} {Q : aO → aH → Prop} {σ : aH} {u : Nat}  {x1 : Int} (hG : Gk σ u) (rx1 : inR x1)
    (h : L_X10_rateAt_4 (Ev sc d) sc Q x1 (-1) 0 σ) :
    T sc (d + 1) mX10_rateAt [.ref 76, .int (nZ x1)] σ Q := by
  refine T.of (c := 10) (code := cX10_rateAt) (mL := 4) (rt := (some .int)) (ini := false) (l := [(0, .ref 76), (1, .int (nZ x1))]) rfl rfl rfl rfl (by decide) hs_X10_rateAt rfl rfl ?_
  refine w_iconst (v := nZ (-1)) dX10_rateAt_0 (by decide) ?_
  refine w_istore_n (l' := [(2, .int (nZ (-1))), (0, .ref 76), (1, .int (nZ x1))]) dX10_rateAt_1 rfl (by decide) rfl ?_
  refine w_iconst (v := nZ 0) dX10_rateAt_2 (by decide) ?_
  refine w_istore_n (l' := [(3, .int (nZ 0)), (2, .int (nZ (-1))), (0, .ref 76), (1, .int (nZ x1))]) dX10_rateAt_3 rfl (by decide) rfl ?_
  exact w_weak (l' := [(0, .ref 76), (1, .int (nZ x1)), (2, .int (nZ (-1))), (3, .int (nZ 0))]) (by intro q hq; simp only [List.mem_cons, List.not_mem_nil, or_false] at hq ⊢; rcases hq with rfl | rfl | rfl | rfl <;> simp) h
set_option maxRecDepth 10000 in
theorem vk_X10_rateAt_4 {C : aM → List Value → aH → aO → aH → Prop} {sc : Nat × (Nat → Int32)} {P : aO → aH → Prop} {σ : aH} {u : Nat}  {x1 : Int} {x2 : Int} {x3 : Int} (hG : Gk σ u) (rx1 : inR x1) (rx2 : inR x2) (rx3 : inR x3)
    (h : (((rI σ 80 7) ≤ x3 → ((¬ x2 = (-1) → ((0 ≤ x2 ∧ x2 < 20) ∧ P (.inl (some (.int (nZ (rI σ (164 + x2.toNat) 1))))) σ)) ∧ (x2 = (-1) → P (.inl (some (.int (nZ 1)))) σ))) ∧ (¬ ((rI σ 80 7) ≤ x3) → ((0 ≤ x3 ∧ x3 < 20) ∧ ((x1 < (rI σ (164 + x3.toNat) 0) → (inR (x3 + 1) ∧ L_X10_rateAt_4 C sc P x1 x2 (x3 + 1) σ)) ∧ (¬ (x1 < (rI σ (164 + x3.toNat) 0)) → ((x2 = (-1) → (inR (x3 + 1) ∧ L_X10_rateAt_4 C sc P x1 x3 (x3 + 1) σ)) ∧ (¬ (x2 = (-1)) → ((0 ≤ x3 ∧ x3 < 20) ∧ ((0 ≤ x2 ∧ x2 < 20) ∧ (((rI σ (164 + x3.toNat) 0) ≤ (rI σ (164 + x2.toNat) 0) → (inR (x3 + 1) ∧ L_X10_rateAt_4 C sc P x1 x2 (x3 + 1) σ)) ∧ (¬ ((rI σ (164 + x3.toNat) 0) ≤ (rI σ (164 + x2.toNat) 0)) → (inR (x3 + 1) ∧ L_X10_rateAt_4 C sc P x1 x3 (x3 + 1) σ))))))))))))) :
    L_X10_rateAt_4 C sc P x1 x2 x3 σ := by
  unfold L_X10_rateAt_4
  refine w_iload_n dX10_rateAt_4 rfl (List.Mem.tail _ (List.Mem.tail _ (List.Mem.tail _ (List.Mem.head _)))) ?_
  refine w_aload_n dX10_rateAt_5 rfl (List.Mem.head _) ?_
  refine w_getR (ci := 10) (k := 11) (b := 80) dX10_rateAt_6 fl_10_23 (by decide) (kT hG rfl (lt_k rfl)) (kR hG (b := 80) rfl (lt_k rfl)) ?_
  refine w_bipush (v := nZ 7) dX10_rateAt_9 (by decide) ?_
  refine i_iald (n := 8) dX10_rateAt_11 (kT hG rfl (lt_k rfl)) (kL hG rfl (lt_k rfl)) (by decide) (by decide) ?_
  refine i_cmp_ge (tgt := 59) dX10_rateAt_12 rfl rx3 (rI_R _ _ _) (fun c9 => ?_) (fun c9 => ?_)
  · replace h := h.1 c9
    refine w_iload_n dX10_rateAt_59 rfl (List.Mem.tail _ (List.Mem.tail _ (List.Mem.head _))) ?_
    refine w_iconst (v := nZ (-1)) dX10_rateAt_60 (by decide) ?_
    refine i_cmp_ne (tgt := 68) dX10_rateAt_61 rfl rx2 (by decide) (fun c9 => ?_) (fun c9 => ?_)
    · replace h := h.1 c9
      refine w_aload_n dX10_rateAt_68 rfl (List.Mem.head _) ?_
      refine w_getR (ci := 10) (k := 17) (b := 163) dX10_rateAt_69 fl_10_43 (by decide) (kT hG rfl (lt_k rfl)) (kR hG (b := 163) rfl (lt_k rfl)) ?_
      refine w_iload_n dX10_rateAt_72 rfl (List.Mem.tail _ (List.Mem.tail _ (List.Mem.head _))) ?_
      obtain ⟨h9, h⟩ := h
      have hj1 := vin_lt2 (n := 20) h9 rfl
      refine i_aald (n := 20) (b := (164 + x2.toNat)) dX10_rateAt_73 (kT hG rfl (lt_k rfl)) (kL hG rfl (lt_k rfl)) rx2 h9 (kR hG (rr_163 hj1) (lt_k rfl)) ?_
      refine w_iconst (v := nZ 1) dX10_rateAt_74 (by decide) ?_
      refine i_iald (n := 2) dX10_rateAt_75 (kT hG (ro_163 _ hj1).1 (by have := hj1; omega)) (kL hG (ro_163 _ hj1).2 (by have := hj1; omega)) (by decide) (by decide) ?_
      exact w_iret dX10_rateAt_76 rfl h
    · replace h := h.2 c9
      refine w_iconst (v := nZ 1) dX10_rateAt_64 (by decide) ?_
      refine w_goto (tgt := 76) dX10_rateAt_65 rfl ?_
      exact w_iret dX10_rateAt_76 rfl h
  · replace h := h.2 c9
    refine w_aload_n dX10_rateAt_15 rfl (List.Mem.head _) ?_
    refine w_getR (ci := 10) (k := 17) (b := 163) dX10_rateAt_16 fl_10_43 (by decide) (kT hG rfl (lt_k rfl)) (kR hG (b := 163) rfl (lt_k rfl)) ?_
    refine w_iload_n dX10_rateAt_19 rfl (List.Mem.tail _ (List.Mem.tail _ (List.Mem.tail _ (List.Mem.head _)))) ?_
    obtain ⟨h9, h⟩ := h
    have hj2 := vin_lt2 (n := 20) h9 rfl
    refine i_aald (n := 20) (b := (164 + x3.toNat)) dX10_rateAt_20 (kT hG rfl (lt_k rfl)) (kL hG rfl (lt_k rfl)) rx3 h9 (kR hG (rr_163 hj2) (lt_k rfl)) ?_
    refine w_iconst (v := nZ 0) dX10_rateAt_21 (by decide) ?_
    refine i_iald (n := 2) dX10_rateAt_22 (kT hG (ro_163 _ hj2).1 (by have := hj2; omega)) (kL hG (ro_163 _ hj2).2 (by have := hj2; omega)) (by decide) (by decide) ?_
    refine w_iload_n dX10_rateAt_23 rfl (List.Mem.tail _ (List.Mem.head _)) ?_
    refine i_cmp_gt (tgt := 53) dX10_rateAt_24 rfl (rI_R _ _ _) rx1 (fun c9 => ?_) (fun c9 => ?_)
    · replace h := h.1 c9
      obtain ⟨q3, h⟩ := h
      refine w_iinc (v := nZ (x3 + 1)) (l' := [(3, .int (nZ (x3 + 1))), (0, .ref 76), (1, .int (nZ x1)), (2, .int (nZ x2))]) dX10_rateAt_53 (List.Mem.tail _ (List.Mem.tail _ (List.Mem.tail _ (List.Mem.head _)))) (nZ_add _ _) (by decide) rfl ?_
      refine w_goto (tgt := 4) dX10_rateAt_56 rfl ?_
      exact w_weak (l' := [(0, .ref 76), (1, .int (nZ x1)), (2, .int (nZ x2)), (3, .int (nZ (x3 + 1)))]) (by intro q hq; simp only [List.mem_cons, List.not_mem_nil, or_false] at hq ⊢; rcases hq with rfl | rfl | rfl | rfl <;> simp) h
    · replace h := h.2 c9
      refine w_iload_n dX10_rateAt_27 rfl (List.Mem.tail _ (List.Mem.tail _ (List.Mem.head _))) ?_
      refine w_iconst (v := nZ (-1)) dX10_rateAt_28 (by decide) ?_
      refine i_cmp_eq (tgt := 51) dX10_rateAt_29 rfl rx2 (by decide) (fun c9 => ?_) (fun c9 => ?_)
      · replace h := h.1 c9
        refine w_iload_n dX10_rateAt_51 rfl (List.Mem.tail _ (List.Mem.tail _ (List.Mem.tail _ (List.Mem.head _)))) ?_
        refine w_istore_n (l' := [(2, .int (nZ x3)), (0, .ref 76), (1, .int (nZ x1)), (3, .int (nZ x3))]) dX10_rateAt_52 rfl (by decide) rfl ?_
        obtain ⟨q4, h⟩ := h
        refine w_iinc (v := nZ (x3 + 1)) (l' := [(3, .int (nZ (x3 + 1))), (2, .int (nZ x3)), (0, .ref 76), (1, .int (nZ x1))]) dX10_rateAt_53 (List.Mem.tail _ (List.Mem.tail _ (List.Mem.tail _ (List.Mem.head _)))) (nZ_add _ _) (by decide) rfl ?_
        refine w_goto (tgt := 4) dX10_rateAt_56 rfl ?_
        exact w_weak (l' := [(0, .ref 76), (1, .int (nZ x1)), (2, .int (nZ x3)), (3, .int (nZ (x3 + 1)))]) (by intro q hq; simp only [List.mem_cons, List.not_mem_nil, or_false] at hq ⊢; rcases hq with rfl | rfl | rfl | rfl <;> simp) h
      · replace h := h.2 c9
        refine w_aload_n dX10_rateAt_32 rfl (List.Mem.head _) ?_
        refine w_getR (ci := 10) (k := 17) (b := 163) dX10_rateAt_33 fl_10_43 (by decide) (kT hG rfl (lt_k rfl)) (kR hG (b := 163) rfl (lt_k rfl)) ?_
        refine w_iload_n dX10_rateAt_36 rfl (List.Mem.tail _ (List.Mem.tail _ (List.Mem.tail _ (List.Mem.head _)))) ?_
        obtain ⟨h9, h⟩ := h
        have hj5 := vin_lt2 (n := 20) h9 rfl
        refine i_aald (n := 20) (b := (164 + x3.toNat)) dX10_rateAt_37 (kT hG rfl (lt_k rfl)) (kL hG rfl (lt_k rfl)) rx3 h9 (kR hG (rr_163 hj5) (lt_k rfl)) ?_
        refine w_iconst (v := nZ 0) dX10_rateAt_38 (by decide) ?_
        refine i_iald (n := 2) dX10_rateAt_39 (kT hG (ro_163 _ hj5).1 (by have := hj5; omega)) (kL hG (ro_163 _ hj5).2 (by have := hj5; omega)) (by decide) (by decide) ?_
        refine w_aload_n dX10_rateAt_40 rfl (List.Mem.head _) ?_
        refine w_getR (ci := 10) (k := 17) (b := 163) dX10_rateAt_41 fl_10_43 (by decide) (kT hG rfl (lt_k rfl)) (kR hG (b := 163) rfl (lt_k rfl)) ?_
        refine w_iload_n dX10_rateAt_44 rfl (List.Mem.tail _ (List.Mem.tail _ (List.Mem.head _))) ?_
        obtain ⟨h9, h⟩ := h
        have hj6 := vin_lt2 (n := 20) h9 rfl
        refine i_aald (n := 20) (b := (164 + x2.toNat)) dX10_rateAt_45 (kT hG rfl (lt_k rfl)) (kL hG rfl (lt_k rfl)) rx2 h9 (kR hG (rr_163 hj6) (lt_k rfl)) ?_
        refine w_iconst (v := nZ 0) dX10_rateAt_46 (by decide) ?_
        refine i_iald (n := 2) dX10_rateAt_47 (kT hG (ro_163 _ hj6).1 (by have := hj6; omega)) (kL hG (ro_163 _ hj6).2 (by have := hj6; omega)) (by decide) (by decide) ?_
        refine i_cmp_le (tgt := 53) dX10_rateAt_48 rfl (rI_R _ _ _) (rI_R _ _ _) (fun c9 => ?_) (fun c9 => ?_)
        · replace h := h.1 c9
          obtain ⟨q7, h⟩ := h
          refine w_iinc (v := nZ (x3 + 1)) (l' := [(3, .int (nZ (x3 + 1))), (0, .ref 76), (1, .int (nZ x1)), (2, .int (nZ x2))]) dX10_rateAt_53 (List.Mem.tail _ (List.Mem.tail _ (List.Mem.tail _ (List.Mem.head _)))) (nZ_add _ _) (by decide) rfl ?_
          refine w_goto (tgt := 4) dX10_rateAt_56 rfl ?_
          exact w_weak (l' := [(0, .ref 76), (1, .int (nZ x1)), (2, .int (nZ x2)), (3, .int (nZ (x3 + 1)))]) (by intro q hq; simp only [List.mem_cons, List.not_mem_nil, or_false] at hq ⊢; rcases hq with rfl | rfl | rfl | rfl <;> simp) h
        · replace h := h.2 c9
          refine w_iload_n dX10_rateAt_51 rfl (List.Mem.tail _ (List.Mem.tail _ (List.Mem.tail _ (List.Mem.head _)))) ?_
          refine w_istore_n (l' := [(2, .int (nZ x3)), (0, .ref 76), (1, .int (nZ x1)), (3, .int (nZ x3))]) dX10_rateAt_52 rfl (by decide) rfl ?_
          obtain ⟨q8, h⟩ := h
          refine w_iinc (v := nZ (x3 + 1)) (l' := [(3, .int (nZ (x3 + 1))), (2, .int (nZ x3)), (0, .ref 76), (1, .int (nZ x1))]) dX10_rateAt_53 (List.Mem.tail _ (List.Mem.tail _ (List.Mem.tail _ (List.Mem.head _)))) (nZ_add _ _) (by decide) rfl ?_
          refine w_goto (tgt := 4) dX10_rateAt_56 rfl ?_
          exact w_weak (l' := [(0, .ref 76), (1, .int (nZ x1)), (2, .int (nZ x3)), (3, .int (nZ (x3 + 1)))]) (by intro q hq; simp only [List.mem_cons, List.not_mem_nil, or_false] at hq ⊢; rcases hq with rfl | rfl | rfl | rfl <;> simp) h
set_option maxRecDepth 10000 in
theorem tk_X10_change {sc : Nat × (Nat → Int32)} {d : Nat} {Q : aO → aH → Prop} {σ : aH} {u : Nat}  {x1 : Int} (hG : Gk σ u) (rx1 : inR x1)
    (h : ((0 ≤ x1 ∧ (0 : Int) < 60) ∧ inR (x1 / 60) ∧ (inR ((x1 / 60) * 60) ∧ (inR (((x1 / 60) * 60) + 60) ∧ (∀ z4 : Int, z4 = (((x1 / 60) * 60) + 60) → L_X10_change_13 (Ev sc d) sc Q x1 z4 0 σ))))) :
    T sc (d + 1) mX10_change [.ref 76, .int (nZ x1)] σ Q := by
  refine T.of (c := 10) (code := cX10_change) (mL := 4) (rt := (some .int)) (ini := false) (l := [(0, .ref 76), (1, .int (nZ x1))]) rfl rfl rfl rfl (by decide) hs_X10_change rfl rfl ?_
  refine w_iload_n dX10_change_0 rfl (List.Mem.tail _ (List.Mem.head _)) ?_
  refine w_bipush (v := nZ 60) dX10_change_1 (by decide) ?_
  obtain ⟨h9, q1, h⟩ := h
  refine i_div dX10_change_3 rx1 (by decide) h9 ?_
  refine w_bipush (v := nZ 60) dX10_change_4 (by decide) ?_
  obtain ⟨q2, h⟩ := h
  refine i_mul dX10_change_6 ?_
  refine w_bipush (v := nZ 60) dX10_change_7 (by decide) ?_
  obtain ⟨q3, h⟩ := h
  refine i_add dX10_change_9 ?_
  refine top_i (fun z4 ez5 => ?_)
  have rz6 : inR z4 := ez5 ▸ q3
  replace h := h z4 ez5
  refine w_istore_n (l' := [(2, .int (nZ z4)), (0, .ref 76), (1, .int (nZ x1))]) dX10_change_10 rfl (by decide) rfl ?_
  refine w_iconst (v := nZ 0) dX10_change_11 (by decide) ?_
  refine w_istore_n (l' := [(3, .int (nZ 0)), (2, .int (nZ z4)), (0, .ref 76), (1, .int (nZ x1))]) dX10_change_12 rfl (by decide) rfl ?_
  exact w_weak (l' := [(0, .ref 76), (1, .int (nZ x1)), (2, .int (nZ z4)), (3, .int (nZ 0))]) (by intro q hq; simp only [List.mem_cons, List.not_mem_nil, or_false] at hq ⊢; rcases hq with rfl | rfl | rfl | rfl <;> simp) h
set_option maxRecDepth 10000 in
theorem vk_X10_change_13 {C : aM → List Value → aH → aO → aH → Prop} {sc : Nat × (Nat → Int32)} {P : aO → aH → Prop} {σ : aH} {u : Nat}  {x1 : Int} {x2 : Int} {x3 : Int} (hG : Gk σ u) (rx1 : inR x1) (rx2 : inR x2) (rx3 : inR x3)
    (h : (((rI σ 80 6) ≤ x3 → L_X10_change_69 C sc P x1 x2 0 σ) ∧ (¬ ((rI σ 80 6) ≤ x3) → ((0 ≤ x3 ∧ x3 < 20) ∧ (((rI σ (122 + x3.toNat) 0) ≤ x1 → (inR (x3 + 1) ∧ L_X10_change_13 C sc P x1 x2 (x3 + 1) σ)) ∧ (¬ ((rI σ (122 + x3.toNat) 0) ≤ x1) → ((0 ≤ x3 ∧ x3 < 20) ∧ ((x2 ≤ (rI σ (122 + x3.toNat) 0) → (inR (x3 + 1) ∧ L_X10_change_13 C sc P x1 x2 (x3 + 1) σ)) ∧ (¬ (x2 ≤ (rI σ (122 + x3.toNat) 0)) → ((0 ≤ x3 ∧ x3 < 20) ∧ (∀ z6 : Int, z6 = (rI σ (122 + x3.toNat) 0) → (inR (x3 + 1) ∧ L_X10_change_13 C sc P x1 z6 (x3 + 1) σ)))))))))))) :
    L_X10_change_13 C sc P x1 x2 x3 σ := by
  unfold L_X10_change_13
  refine w_iload_n dX10_change_13 rfl (List.Mem.tail _ (List.Mem.tail _ (List.Mem.tail _ (List.Mem.head _)))) ?_
  refine w_aload_n dX10_change_14 rfl (List.Mem.head _) ?_
  refine w_getR (ci := 10) (k := 11) (b := 80) dX10_change_15 fl_10_23 (by decide) (kT hG rfl (lt_k rfl)) (kR hG (b := 80) rfl (lt_k rfl)) ?_
  refine w_bipush (v := nZ 6) dX10_change_18 (by decide) ?_
  refine i_iald (n := 8) dX10_change_20 (kT hG rfl (lt_k rfl)) (kL hG rfl (lt_k rfl)) (by decide) (by decide) ?_
  refine i_cmp_ge (tgt := 67) dX10_change_21 rfl rx3 (rI_R _ _ _) (fun c9 => ?_) (fun c9 => ?_)
  · replace h := h.1 c9
    refine w_iconst (v := nZ 0) dX10_change_67 (by decide) ?_
    refine w_istore_n (l' := [(3, .int (nZ 0)), (0, .ref 76), (1, .int (nZ x1)), (2, .int (nZ x2))]) dX10_change_68 rfl (by decide) rfl ?_
    exact w_weak (l' := [(0, .ref 76), (1, .int (nZ x1)), (2, .int (nZ x2)), (3, .int (nZ 0))]) (by intro q hq; simp only [List.mem_cons, List.not_mem_nil, or_false] at hq ⊢; rcases hq with rfl | rfl | rfl | rfl <;> simp) h
  · replace h := h.2 c9
    refine w_aload_n dX10_change_24 rfl (List.Mem.head _) ?_
    refine w_getR (ci := 10) (k := 15) (b := 121) dX10_change_25 fl_10_37 (by decide) (kT hG rfl (lt_k rfl)) (kR hG (b := 121) rfl (lt_k rfl)) ?_
    refine w_iload_n dX10_change_28 rfl (List.Mem.tail _ (List.Mem.tail _ (List.Mem.tail _ (List.Mem.head _)))) ?_
    obtain ⟨h9, h⟩ := h
    have hj1 := vin_lt2 (n := 20) h9 rfl
    refine i_aald (n := 20) (b := (122 + x3.toNat)) dX10_change_29 (kT hG rfl (lt_k rfl)) (kL hG rfl (lt_k rfl)) rx3 h9 (kR hG (rr_121 hj1) (lt_k rfl)) ?_
    refine w_iconst (v := nZ 0) dX10_change_30 (by decide) ?_
    refine i_iald (n := 4) dX10_change_31 (kT hG (ro_121 _ hj1).1 (by have := hj1; omega)) (kL hG (ro_121 _ hj1).2 (by have := hj1; omega)) (by decide) (by decide) ?_
    refine w_iload_n dX10_change_32 rfl (List.Mem.tail _ (List.Mem.head _)) ?_
    refine i_cmp_le (tgt := 59) dX10_change_33 rfl (rI_R _ _ _) rx1 (fun c9 => ?_) (fun c9 => ?_)
    · replace h := h.1 c9
      refine w_iload_n dX10_change_59 rfl (List.Mem.tail _ (List.Mem.tail _ (List.Mem.head _))) ?_
      refine w_istore_n (l' := [(2, .int (nZ x2)), (0, .ref 76), (1, .int (nZ x1)), (3, .int (nZ x3))]) dX10_change_60 rfl (by decide) rfl ?_
      obtain ⟨q2, h⟩ := h
      refine w_iinc (v := nZ (x3 + 1)) (l' := [(3, .int (nZ (x3 + 1))), (2, .int (nZ x2)), (0, .ref 76), (1, .int (nZ x1))]) dX10_change_61 (List.Mem.tail _ (List.Mem.tail _ (List.Mem.tail _ (List.Mem.head _)))) (nZ_add _ _) (by decide) rfl ?_
      refine w_goto (tgt := 13) dX10_change_64 rfl ?_
      exact w_weak (l' := [(0, .ref 76), (1, .int (nZ x1)), (2, .int (nZ x2)), (3, .int (nZ (x3 + 1)))]) (by intro q hq; simp only [List.mem_cons, List.not_mem_nil, or_false] at hq ⊢; rcases hq with rfl | rfl | rfl | rfl <;> simp) h
    · replace h := h.2 c9
      refine w_aload_n dX10_change_36 rfl (List.Mem.head _) ?_
      refine w_getR (ci := 10) (k := 15) (b := 121) dX10_change_37 fl_10_37 (by decide) (kT hG rfl (lt_k rfl)) (kR hG (b := 121) rfl (lt_k rfl)) ?_
      refine w_iload_n dX10_change_40 rfl (List.Mem.tail _ (List.Mem.tail _ (List.Mem.tail _ (List.Mem.head _)))) ?_
      obtain ⟨h9, h⟩ := h
      have hj3 := vin_lt2 (n := 20) h9 rfl
      refine i_aald (n := 20) (b := (122 + x3.toNat)) dX10_change_41 (kT hG rfl (lt_k rfl)) (kL hG rfl (lt_k rfl)) rx3 h9 (kR hG (rr_121 hj3) (lt_k rfl)) ?_
      refine w_iconst (v := nZ 0) dX10_change_42 (by decide) ?_
      refine i_iald (n := 4) dX10_change_43 (kT hG (ro_121 _ hj3).1 (by have := hj3; omega)) (kL hG (ro_121 _ hj3).2 (by have := hj3; omega)) (by decide) (by decide) ?_
      refine w_iload_n dX10_change_44 rfl (List.Mem.tail _ (List.Mem.tail _ (List.Mem.head _))) ?_
      refine i_cmp_ge (tgt := 59) dX10_change_45 rfl (rI_R _ _ _) rx2 (fun c9 => ?_) (fun c9 => ?_)
      · replace h := h.1 c9
        refine w_iload_n dX10_change_59 rfl (List.Mem.tail _ (List.Mem.tail _ (List.Mem.head _))) ?_
        refine w_istore_n (l' := [(2, .int (nZ x2)), (0, .ref 76), (1, .int (nZ x1)), (3, .int (nZ x3))]) dX10_change_60 rfl (by decide) rfl ?_
        obtain ⟨q4, h⟩ := h
        refine w_iinc (v := nZ (x3 + 1)) (l' := [(3, .int (nZ (x3 + 1))), (2, .int (nZ x2)), (0, .ref 76), (1, .int (nZ x1))]) dX10_change_61 (List.Mem.tail _ (List.Mem.tail _ (List.Mem.tail _ (List.Mem.head _)))) (nZ_add _ _) (by decide) rfl ?_
        refine w_goto (tgt := 13) dX10_change_64 rfl ?_
        exact w_weak (l' := [(0, .ref 76), (1, .int (nZ x1)), (2, .int (nZ x2)), (3, .int (nZ (x3 + 1)))]) (by intro q hq; simp only [List.mem_cons, List.not_mem_nil, or_false] at hq ⊢; rcases hq with rfl | rfl | rfl | rfl <;> simp) h
      · replace h := h.2 c9
        refine w_aload_n dX10_change_48 rfl (List.Mem.head _) ?_
        refine w_getR (ci := 10) (k := 15) (b := 121) dX10_change_49 fl_10_37 (by decide) (kT hG rfl (lt_k rfl)) (kR hG (b := 121) rfl (lt_k rfl)) ?_
        refine w_iload_n dX10_change_52 rfl (List.Mem.tail _ (List.Mem.tail _ (List.Mem.tail _ (List.Mem.head _)))) ?_
        obtain ⟨h9, h⟩ := h
        have hj5 := vin_lt2 (n := 20) h9 rfl
        refine i_aald (n := 20) (b := (122 + x3.toNat)) dX10_change_53 (kT hG rfl (lt_k rfl)) (kL hG rfl (lt_k rfl)) rx3 h9 (kR hG (rr_121 hj5) (lt_k rfl)) ?_
        refine w_iconst (v := nZ 0) dX10_change_54 (by decide) ?_
        refine i_iald (n := 4) dX10_change_55 (kT hG (ro_121 _ hj5).1 (by have := hj5; omega)) (kL hG (ro_121 _ hj5).2 (by have := hj5; omega)) (by decide) (by decide) ?_
        refine w_goto (tgt := 60) dX10_change_56 rfl ?_
        refine top_i (fun z6 ez7 => ?_)
        have rz8 : inR z6 := ez7 ▸ (rI_R _ _ _)
        replace h := h z6 ez7
        refine w_istore_n (l' := [(2, .int (nZ z6)), (0, .ref 76), (1, .int (nZ x1)), (3, .int (nZ x3))]) dX10_change_60 rfl (by decide) rfl ?_
        obtain ⟨q9, h⟩ := h
        refine w_iinc (v := nZ (x3 + 1)) (l' := [(3, .int (nZ (x3 + 1))), (2, .int (nZ z6)), (0, .ref 76), (1, .int (nZ x1))]) dX10_change_61 (List.Mem.tail _ (List.Mem.tail _ (List.Mem.tail _ (List.Mem.head _)))) (nZ_add _ _) (by decide) rfl ?_
        refine w_goto (tgt := 13) dX10_change_64 rfl ?_
        exact w_weak (l' := [(0, .ref 76), (1, .int (nZ x1)), (2, .int (nZ z6)), (3, .int (nZ (x3 + 1)))]) (by intro q hq; simp only [List.mem_cons, List.not_mem_nil, or_false] at hq ⊢; rcases hq with rfl | rfl | rfl | rfl <;> simp) h
set_option maxRecDepth 10000 in
theorem vk_X10_change_69 {C : aM → List Value → aH → aO → aH → Prop} {sc : Nat × (Nat → Int32)} {P : aO → aH → Prop} {σ : aH} {u : Nat}  {x1 : Int} {x2 : Int} {x3 : Int} (hG : Gk σ u) (rx1 : inR x1) (rx2 : inR x2) (rx3 : inR x3)
    (h : (((rI σ 80 7) ≤ x3 → (((rI σ 80 4) ≤ x1 → P (.inl (some (.int (nZ x2)))) σ) ∧ (¬ ((rI σ 80 4) ≤ x1) → ((x2 ≤ (rI σ 80 4) → P (.inl (some (.int (nZ x2)))) σ) ∧ (¬ (x2 ≤ (rI σ 80 4)) → P (.inl (some (.int (nZ (rI σ 80 4))))) σ))))) ∧ (¬ ((rI σ 80 7) ≤ x3) → ((0 ≤ x3 ∧ x3 < 20) ∧ (((rI σ (164 + x3.toNat) 0) ≤ x1 → (inR (x3 + 1) ∧ L_X10_change_69 C sc P x1 x2 (x3 + 1) σ)) ∧ (¬ ((rI σ (164 + x3.toNat) 0) ≤ x1) → ((0 ≤ x3 ∧ x3 < 20) ∧ ((x2 ≤ (rI σ (164 + x3.toNat) 0) → (inR (x3 + 1) ∧ L_X10_change_69 C sc P x1 x2 (x3 + 1) σ)) ∧ (¬ (x2 ≤ (rI σ (164 + x3.toNat) 0)) → ((0 ≤ x3 ∧ x3 < 20) ∧ (∀ z6 : Int, z6 = (rI σ (164 + x3.toNat) 0) → (inR (x3 + 1) ∧ L_X10_change_69 C sc P x1 z6 (x3 + 1) σ)))))))))))) :
    L_X10_change_69 C sc P x1 x2 x3 σ := by
  unfold L_X10_change_69
  refine w_iload_n dX10_change_69 rfl (List.Mem.tail _ (List.Mem.tail _ (List.Mem.tail _ (List.Mem.head _)))) ?_
  refine w_aload_n dX10_change_70 rfl (List.Mem.head _) ?_
  refine w_getR (ci := 10) (k := 11) (b := 80) dX10_change_71 fl_10_23 (by decide) (kT hG rfl (lt_k rfl)) (kR hG (b := 80) rfl (lt_k rfl)) ?_
  refine w_bipush (v := nZ 7) dX10_change_74 (by decide) ?_
  refine i_iald (n := 8) dX10_change_76 (kT hG rfl (lt_k rfl)) (kL hG rfl (lt_k rfl)) (by decide) (by decide) ?_
  refine i_cmp_ge (tgt := 123) dX10_change_77 rfl rx3 (rI_R _ _ _) (fun c9 => ?_) (fun c9 => ?_)
  · replace h := h.1 c9
    refine w_aload_n dX10_change_123 rfl (List.Mem.head _) ?_
    refine w_getR (ci := 10) (k := 11) (b := 80) dX10_change_124 fl_10_23 (by decide) (kT hG rfl (lt_k rfl)) (kR hG (b := 80) rfl (lt_k rfl)) ?_
    refine w_iconst (v := nZ 4) dX10_change_127 (by decide) ?_
    refine i_iald (n := 8) dX10_change_128 (kT hG rfl (lt_k rfl)) (kL hG rfl (lt_k rfl)) (by decide) (by decide) ?_
    refine w_iload_n dX10_change_129 rfl (List.Mem.tail _ (List.Mem.head _)) ?_
    refine i_cmp_le (tgt := 152) dX10_change_130 rfl (rI_R _ _ _) rx1 (fun c9 => ?_) (fun c9 => ?_)
    · replace h := h.1 c9
      refine w_iload_n dX10_change_152 rfl (List.Mem.tail _ (List.Mem.tail _ (List.Mem.head _))) ?_
      exact w_iret dX10_change_153 rfl h
    · replace h := h.2 c9
      refine w_aload_n dX10_change_133 rfl (List.Mem.head _) ?_
      refine w_getR (ci := 10) (k := 11) (b := 80) dX10_change_134 fl_10_23 (by decide) (kT hG rfl (lt_k rfl)) (kR hG (b := 80) rfl (lt_k rfl)) ?_
      refine w_iconst (v := nZ 4) dX10_change_137 (by decide) ?_
      refine i_iald (n := 8) dX10_change_138 (kT hG rfl (lt_k rfl)) (kL hG rfl (lt_k rfl)) (by decide) (by decide) ?_
      refine w_iload_n dX10_change_139 rfl (List.Mem.tail _ (List.Mem.tail _ (List.Mem.head _))) ?_
      refine i_cmp_ge (tgt := 152) dX10_change_140 rfl (rI_R _ _ _) rx2 (fun c9 => ?_) (fun c9 => ?_)
      · replace h := h.1 c9
        refine w_iload_n dX10_change_152 rfl (List.Mem.tail _ (List.Mem.tail _ (List.Mem.head _))) ?_
        exact w_iret dX10_change_153 rfl h
      · replace h := h.2 c9
        refine w_aload_n dX10_change_143 rfl (List.Mem.head _) ?_
        refine w_getR (ci := 10) (k := 11) (b := 80) dX10_change_144 fl_10_23 (by decide) (kT hG rfl (lt_k rfl)) (kR hG (b := 80) rfl (lt_k rfl)) ?_
        refine w_iconst (v := nZ 4) dX10_change_147 (by decide) ?_
        refine i_iald (n := 8) dX10_change_148 (kT hG rfl (lt_k rfl)) (kL hG rfl (lt_k rfl)) (by decide) (by decide) ?_
        refine w_goto (tgt := 153) dX10_change_149 rfl ?_
        exact w_iret dX10_change_153 rfl h
  · replace h := h.2 c9
    refine w_aload_n dX10_change_80 rfl (List.Mem.head _) ?_
    refine w_getR (ci := 10) (k := 17) (b := 163) dX10_change_81 fl_10_43 (by decide) (kT hG rfl (lt_k rfl)) (kR hG (b := 163) rfl (lt_k rfl)) ?_
    refine w_iload_n dX10_change_84 rfl (List.Mem.tail _ (List.Mem.tail _ (List.Mem.tail _ (List.Mem.head _)))) ?_
    obtain ⟨h9, h⟩ := h
    have hj1 := vin_lt2 (n := 20) h9 rfl
    refine i_aald (n := 20) (b := (164 + x3.toNat)) dX10_change_85 (kT hG rfl (lt_k rfl)) (kL hG rfl (lt_k rfl)) rx3 h9 (kR hG (rr_163 hj1) (lt_k rfl)) ?_
    refine w_iconst (v := nZ 0) dX10_change_86 (by decide) ?_
    refine i_iald (n := 2) dX10_change_87 (kT hG (ro_163 _ hj1).1 (by have := hj1; omega)) (kL hG (ro_163 _ hj1).2 (by have := hj1; omega)) (by decide) (by decide) ?_
    refine w_iload_n dX10_change_88 rfl (List.Mem.tail _ (List.Mem.head _)) ?_
    refine i_cmp_le (tgt := 115) dX10_change_89 rfl (rI_R _ _ _) rx1 (fun c9 => ?_) (fun c9 => ?_)
    · replace h := h.1 c9
      refine w_iload_n dX10_change_115 rfl (List.Mem.tail _ (List.Mem.tail _ (List.Mem.head _))) ?_
      refine w_istore_n (l' := [(2, .int (nZ x2)), (0, .ref 76), (1, .int (nZ x1)), (3, .int (nZ x3))]) dX10_change_116 rfl (by decide) rfl ?_
      obtain ⟨q2, h⟩ := h
      refine w_iinc (v := nZ (x3 + 1)) (l' := [(3, .int (nZ (x3 + 1))), (2, .int (nZ x2)), (0, .ref 76), (1, .int (nZ x1))]) dX10_change_117 (List.Mem.tail _ (List.Mem.tail _ (List.Mem.tail _ (List.Mem.head _)))) (nZ_add _ _) (by decide) rfl ?_
      refine w_goto (tgt := 69) dX10_change_120 rfl ?_
      exact w_weak (l' := [(0, .ref 76), (1, .int (nZ x1)), (2, .int (nZ x2)), (3, .int (nZ (x3 + 1)))]) (by intro q hq; simp only [List.mem_cons, List.not_mem_nil, or_false] at hq ⊢; rcases hq with rfl | rfl | rfl | rfl <;> simp) h
    · replace h := h.2 c9
      refine w_aload_n dX10_change_92 rfl (List.Mem.head _) ?_
      refine w_getR (ci := 10) (k := 17) (b := 163) dX10_change_93 fl_10_43 (by decide) (kT hG rfl (lt_k rfl)) (kR hG (b := 163) rfl (lt_k rfl)) ?_
      refine w_iload_n dX10_change_96 rfl (List.Mem.tail _ (List.Mem.tail _ (List.Mem.tail _ (List.Mem.head _)))) ?_
      obtain ⟨h9, h⟩ := h
      have hj3 := vin_lt2 (n := 20) h9 rfl
      refine i_aald (n := 20) (b := (164 + x3.toNat)) dX10_change_97 (kT hG rfl (lt_k rfl)) (kL hG rfl (lt_k rfl)) rx3 h9 (kR hG (rr_163 hj3) (lt_k rfl)) ?_
      refine w_iconst (v := nZ 0) dX10_change_98 (by decide) ?_
      refine i_iald (n := 2) dX10_change_99 (kT hG (ro_163 _ hj3).1 (by have := hj3; omega)) (kL hG (ro_163 _ hj3).2 (by have := hj3; omega)) (by decide) (by decide) ?_
      refine w_iload_n dX10_change_100 rfl (List.Mem.tail _ (List.Mem.tail _ (List.Mem.head _))) ?_
      refine i_cmp_ge (tgt := 115) dX10_change_101 rfl (rI_R _ _ _) rx2 (fun c9 => ?_) (fun c9 => ?_)
      · replace h := h.1 c9
        refine w_iload_n dX10_change_115 rfl (List.Mem.tail _ (List.Mem.tail _ (List.Mem.head _))) ?_
        refine w_istore_n (l' := [(2, .int (nZ x2)), (0, .ref 76), (1, .int (nZ x1)), (3, .int (nZ x3))]) dX10_change_116 rfl (by decide) rfl ?_
        obtain ⟨q4, h⟩ := h
        refine w_iinc (v := nZ (x3 + 1)) (l' := [(3, .int (nZ (x3 + 1))), (2, .int (nZ x2)), (0, .ref 76), (1, .int (nZ x1))]) dX10_change_117 (List.Mem.tail _ (List.Mem.tail _ (List.Mem.tail _ (List.Mem.head _)))) (nZ_add _ _) (by decide) rfl ?_
        refine w_goto (tgt := 69) dX10_change_120 rfl ?_
        exact w_weak (l' := [(0, .ref 76), (1, .int (nZ x1)), (2, .int (nZ x2)), (3, .int (nZ (x3 + 1)))]) (by intro q hq; simp only [List.mem_cons, List.not_mem_nil, or_false] at hq ⊢; rcases hq with rfl | rfl | rfl | rfl <;> simp) h
      · replace h := h.2 c9
        refine w_aload_n dX10_change_104 rfl (List.Mem.head _) ?_
        refine w_getR (ci := 10) (k := 17) (b := 163) dX10_change_105 fl_10_43 (by decide) (kT hG rfl (lt_k rfl)) (kR hG (b := 163) rfl (lt_k rfl)) ?_
        refine w_iload_n dX10_change_108 rfl (List.Mem.tail _ (List.Mem.tail _ (List.Mem.tail _ (List.Mem.head _)))) ?_
        obtain ⟨h9, h⟩ := h
        have hj5 := vin_lt2 (n := 20) h9 rfl
        refine i_aald (n := 20) (b := (164 + x3.toNat)) dX10_change_109 (kT hG rfl (lt_k rfl)) (kL hG rfl (lt_k rfl)) rx3 h9 (kR hG (rr_163 hj5) (lt_k rfl)) ?_
        refine w_iconst (v := nZ 0) dX10_change_110 (by decide) ?_
        refine i_iald (n := 2) dX10_change_111 (kT hG (ro_163 _ hj5).1 (by have := hj5; omega)) (kL hG (ro_163 _ hj5).2 (by have := hj5; omega)) (by decide) (by decide) ?_
        refine w_goto (tgt := 116) dX10_change_112 rfl ?_
        refine top_i (fun z6 ez7 => ?_)
        have rz8 : inR z6 := ez7 ▸ (rI_R _ _ _)
        replace h := h z6 ez7
        refine w_istore_n (l' := [(2, .int (nZ z6)), (0, .ref 76), (1, .int (nZ x1)), (3, .int (nZ x3))]) dX10_change_116 rfl (by decide) rfl ?_
        obtain ⟨q9, h⟩ := h
        refine w_iinc (v := nZ (x3 + 1)) (l' := [(3, .int (nZ (x3 + 1))), (2, .int (nZ z6)), (0, .ref 76), (1, .int (nZ x1))]) dX10_change_117 (List.Mem.tail _ (List.Mem.tail _ (List.Mem.tail _ (List.Mem.head _)))) (nZ_add _ _) (by decide) rfl ?_
        refine w_goto (tgt := 69) dX10_change_120 rfl ?_
        exact w_weak (l' := [(0, .ref 76), (1, .int (nZ x1)), (2, .int (nZ z6)), (3, .int (nZ (x3 + 1)))]) (by intro q hq; simp only [List.mem_cons, List.not_mem_nil, or_false] at hq ⊢; rcases hq with rfl | rfl | rfl | rfl <;> simp) h
set_option maxRecDepth 10000 in
theorem tk_X10_laysPieces {sc : Nat × (Nat → Int32)} {d : Nat} {Q : aO → aH → Prop} {σ : aH} {u : Nat}   (hG : Gk σ u) 
    (h : (∀ σ1 : aH, wI σ 76 25 0 = σ1 → L_X10_laysPieces_7 (Ev sc d) sc Q 0 σ1)) :
    T sc (d + 1) mX10_laysPieces [.ref 76] σ Q := by
  refine T.of (c := 10) (code := cX10_laysPieces) (mL := 2) (rt := none) (ini := false) (l := [(0, .ref 76)]) rfl rfl rfl rfl (by decide) hs_X10_laysPieces rfl rfl ?_
  refine w_aload_n dX10_laysPieces_0 rfl (List.Mem.head _) ?_
  refine w_iconst (v := nZ 0) dX10_laysPieces_1 (by decide) ?_
  refine i_putI (ci := 10) 25 rfl dX10_laysPieces_2 fl_10_224 (by decide) (kT hG rfl (lt_k rfl)) (fun σ1 eσ2 => ?_)
  replace h := h σ1 eσ2
  have hG3 : Gk σ1 u := eσ2 ▸ Gk.wI hG
  refine w_iconst (v := nZ 0) dX10_laysPieces_5 (by decide) ?_
  refine w_istore_n (l' := [(1, .int (nZ 0)), (0, .ref 76)]) dX10_laysPieces_6 rfl (by decide) rfl ?_
  exact w_weak (l' := [(0, .ref 76), (1, .int (nZ 0))]) (by intro q hq; simp only [List.mem_cons, List.not_mem_nil, or_false] at hq ⊢; rcases hq with rfl | rfl <;> simp) h
set_option maxRecDepth 10000 in
theorem vk_X10_laysPieces_7 {C : aM → List Value → aH → aO → aH → Prop} {sc : Nat × (Nat → Int32)} {P : aO → aH → Prop} {σ : aH} {u : Nat}  {x1 : Int} (hG : Gk σ u) (rx1 : inR x1)
    (h : ((1440 ≤ x1 → P (.inl none) σ) ∧ (¬ (1440 ≤ x1) → ((0 ≤ (rI σ 76 25) ∧ (rI σ 76 25) < 70) ∧ (∀ σ2 : aH, wI σ (190 + ((rI σ 76 25).toNat)) 0 x1 = σ2 → ((0 ≤ (rI σ2 76 25) ∧ (rI σ2 76 25) < 70) ∧ (∃ (r10 : Int) (σ6 : aH), C mX10_change [.ref 76, .int (nZ x1)] σ2 (.inl (some (.int (nZ r10)))) σ6 ∧ Gk σ6 u ∧ inR r10 ∧ (∀ σ11 : aH, wI σ6 (190 + ((rI σ2 76 25).toNat)) 1 r10 = σ11 → ((0 ≤ (rI σ11 76 25) ∧ (rI σ11 76 25) < 70) ∧ (∃ (r19 : Int) (σ15 : aH), C mX10_sunAt [.ref 76, .int (nZ x1)] σ11 (.inl (some (.int (nZ r19)))) σ15 ∧ Gk σ15 u ∧ inR r19 ∧ (∀ σ20 : aH, wI σ15 (190 + ((rI σ11 76 25).toNat)) 2 r19 = σ20 → ((0 ≤ (rI σ20 76 25) ∧ (rI σ20 76 25) < 70) ∧ (∃ (r28 : Int) (σ24 : aH), C mX10_rateAt [.ref 76, .int (nZ x1)] σ20 (.inl (some (.int (nZ r28)))) σ24 ∧ Gk σ24 u ∧ inR r28 ∧ (∀ σ29 : aH, wI σ24 (190 + ((rI σ20 76 25).toNat)) 3 r28 = σ29 → (inR ((rI σ29 76 25) + 1) ∧ (∀ σ33 : aH, wI σ29 76 25 ((rI σ29 76 25) + 1) = σ33 → (∃ (r40 : Int) (σ36 : aH), C mX10_change [.ref 76, .int (nZ x1)] σ33 (.inl (some (.int (nZ r40)))) σ36 ∧ Gk σ36 u ∧ inR r40 ∧ L_X10_laysPieces_7 C sc P r40 σ36))))))))))))))))) :
    L_X10_laysPieces_7 C sc P x1 σ := by
  unfold L_X10_laysPieces_7
  refine w_iload_n dX10_laysPieces_7 rfl (List.Mem.tail _ (List.Mem.head _)) ?_
  refine w_sipush (v := nZ 1440) dX10_laysPieces_8 (by decide) ?_
  refine i_cmp_ge (tgt := 93) dX10_laysPieces_11 rfl rx1 (by decide) (fun c9 => ?_) (fun c9 => ?_)
  · replace h := h.1 c9
    exact w_vret dX10_laysPieces_93 rfl h
  · replace h := h.2 c9
    refine w_aload_n dX10_laysPieces_14 rfl (List.Mem.head _) ?_
    refine w_getR (ci := 10) (k := 26) (b := 189) dX10_laysPieces_15 fl_10_52 (by decide) (kT hG rfl (lt_k rfl)) (kR hG (b := 189) rfl (lt_k rfl)) ?_
    refine w_aload_n dX10_laysPieces_18 rfl (List.Mem.head _) ?_
    refine i_getI (ci := 10) 25 rfl dX10_laysPieces_19 fl_10_224 (by decide) (kT hG rfl (lt_k rfl)) ?_
    obtain ⟨h9, h⟩ := h
    have hj1 := vin_lt2 (n := 70) h9 rfl
    refine i_aald (n := 70) (b := (190 + ((rI σ 76 25).toNat))) dX10_laysPieces_22 (kT hG rfl (lt_k rfl)) (kL hG rfl (lt_k rfl)) (rI_R _ _ _) h9 (kR hG (rr_189 hj1) (lt_k rfl)) ?_
    refine w_iconst (v := nZ 0) dX10_laysPieces_23 (by decide) ?_
    refine w_iload_n dX10_laysPieces_24 rfl (List.Mem.tail _ (List.Mem.head _)) ?_
    refine i_iast (n := 4) dX10_laysPieces_25 (kT hG (ro_189 _ hj1).1 (by have := hj1; omega)) (kL hG (ro_189 _ hj1).2 (by have := hj1; omega)) (by decide) (by decide) (fun σ2 eσ3 => ?_)
    replace h := h σ2 eσ3
    have hG4 : Gk σ2 u := eσ3 ▸ Gk.wI hG
    refine w_aload_n dX10_laysPieces_26 rfl (List.Mem.head _) ?_
    refine w_getR (ci := 10) (k := 26) (b := 189) dX10_laysPieces_27 fl_10_52 (by decide) (kT hG4 rfl (lt_k rfl)) (kR hG4 (b := 189) rfl (lt_k rfl)) ?_
    refine w_aload_n dX10_laysPieces_30 rfl (List.Mem.head _) ?_
    refine i_getI (ci := 10) 25 rfl dX10_laysPieces_31 fl_10_224 (by decide) (kT hG4 rfl (lt_k rfl)) ?_
    obtain ⟨h9, h⟩ := h
    have hj5 := vin_lt2 (n := 70) h9 rfl
    refine i_aald (n := 70) (b := (190 + ((rI σ2 76 25).toNat))) dX10_laysPieces_34 (kT hG4 rfl (lt_k rfl)) (kL hG4 rfl (lt_k rfl)) (rI_R _ _ _) h9 (kR hG4 (rr_189 hj5) (lt_k rfl)) ?_
    refine w_iconst (v := nZ 1) dX10_laysPieces_35 (by decide) ?_
    refine w_aload_n dX10_laysPieces_36 rfl (List.Mem.head _) ?_
    refine w_iload_n dX10_laysPieces_37 rfl (List.Mem.tail _ (List.Mem.head _)) ?_
    obtain ⟨r10, σ6, hc8, hG7, rr9, h⟩ := h
    refine w_callV dX10_laysPieces_38 ml_10_227 ⟨ok_X10_change, vi_X10_change⟩ hs_X10_change (As := [.int (nZ x1)]) rfl rfl (kT hG4 rfl (lt_k rfl)) (Nat.le_of_ble_eq_true rfl) hc8 ?_
    show wp C 10 cX10_laysPieces 2 none false [] sc P 41 [(0, .ref 76), (1, .int (nZ x1))] [.int (nZ r10), .int (nZ 1), .ref (190 + ((rI σ2 76 25).toNat))] σ6
    refine i_iast (n := 4) dX10_laysPieces_41 (kT hG7 (ro_189 _ hj5).1 (by have := hj5; omega)) (kL hG7 (ro_189 _ hj5).2 (by have := hj5; omega)) (by decide) (by decide) (fun σ11 eσ12 => ?_)
    replace h := h σ11 eσ12
    have hG13 : Gk σ11 u := eσ12 ▸ Gk.wI hG7
    refine w_aload_n dX10_laysPieces_42 rfl (List.Mem.head _) ?_
    refine w_getR (ci := 10) (k := 26) (b := 189) dX10_laysPieces_43 fl_10_52 (by decide) (kT hG13 rfl (lt_k rfl)) (kR hG13 (b := 189) rfl (lt_k rfl)) ?_
    refine w_aload_n dX10_laysPieces_46 rfl (List.Mem.head _) ?_
    refine i_getI (ci := 10) 25 rfl dX10_laysPieces_47 fl_10_224 (by decide) (kT hG13 rfl (lt_k rfl)) ?_
    obtain ⟨h9, h⟩ := h
    have hj14 := vin_lt2 (n := 70) h9 rfl
    refine i_aald (n := 70) (b := (190 + ((rI σ11 76 25).toNat))) dX10_laysPieces_50 (kT hG13 rfl (lt_k rfl)) (kL hG13 rfl (lt_k rfl)) (rI_R _ _ _) h9 (kR hG13 (rr_189 hj14) (lt_k rfl)) ?_
    refine w_iconst (v := nZ 2) dX10_laysPieces_51 (by decide) ?_
    refine w_aload_n dX10_laysPieces_52 rfl (List.Mem.head _) ?_
    refine w_iload_n dX10_laysPieces_53 rfl (List.Mem.tail _ (List.Mem.head _)) ?_
    obtain ⟨r19, σ15, hc17, hG16, rr18, h⟩ := h
    refine w_callV dX10_laysPieces_54 ml_10_230 ⟨ok_X10_sunAt, vi_X10_sunAt⟩ hs_X10_sunAt (As := [.int (nZ x1)]) rfl rfl (kT hG13 rfl (lt_k rfl)) (Nat.le_of_ble_eq_true rfl) hc17 ?_
    show wp C 10 cX10_laysPieces 2 none false [] sc P 57 [(0, .ref 76), (1, .int (nZ x1))] [.int (nZ r19), .int (nZ 2), .ref (190 + ((rI σ11 76 25).toNat))] σ15
    refine i_iast (n := 4) dX10_laysPieces_57 (kT hG16 (ro_189 _ hj14).1 (by have := hj14; omega)) (kL hG16 (ro_189 _ hj14).2 (by have := hj14; omega)) (by decide) (by decide) (fun σ20 eσ21 => ?_)
    replace h := h σ20 eσ21
    have hG22 : Gk σ20 u := eσ21 ▸ Gk.wI hG16
    refine w_aload_n dX10_laysPieces_58 rfl (List.Mem.head _) ?_
    refine w_getR (ci := 10) (k := 26) (b := 189) dX10_laysPieces_59 fl_10_52 (by decide) (kT hG22 rfl (lt_k rfl)) (kR hG22 (b := 189) rfl (lt_k rfl)) ?_
    refine w_aload_n dX10_laysPieces_62 rfl (List.Mem.head _) ?_
    refine i_getI (ci := 10) 25 rfl dX10_laysPieces_63 fl_10_224 (by decide) (kT hG22 rfl (lt_k rfl)) ?_
    obtain ⟨h9, h⟩ := h
    have hj23 := vin_lt2 (n := 70) h9 rfl
    refine i_aald (n := 70) (b := (190 + ((rI σ20 76 25).toNat))) dX10_laysPieces_66 (kT hG22 rfl (lt_k rfl)) (kL hG22 rfl (lt_k rfl)) (rI_R _ _ _) h9 (kR hG22 (rr_189 hj23) (lt_k rfl)) ?_
    refine w_iconst (v := nZ 3) dX10_laysPieces_67 (by decide) ?_
    refine w_aload_n dX10_laysPieces_68 rfl (List.Mem.head _) ?_
    refine w_iload_n dX10_laysPieces_69 rfl (List.Mem.tail _ (List.Mem.head _)) ?_
    obtain ⟨r28, σ24, hc26, hG25, rr27, h⟩ := h
    refine w_callV dX10_laysPieces_70 ml_10_233 ⟨ok_X10_rateAt, vi_X10_rateAt⟩ hs_X10_rateAt (As := [.int (nZ x1)]) rfl rfl (kT hG22 rfl (lt_k rfl)) (Nat.le_of_ble_eq_true rfl) hc26 ?_
    show wp C 10 cX10_laysPieces 2 none false [] sc P 73 [(0, .ref 76), (1, .int (nZ x1))] [.int (nZ r28), .int (nZ 3), .ref (190 + ((rI σ20 76 25).toNat))] σ24
    refine i_iast (n := 4) dX10_laysPieces_73 (kT hG25 (ro_189 _ hj23).1 (by have := hj23; omega)) (kL hG25 (ro_189 _ hj23).2 (by have := hj23; omega)) (by decide) (by decide) (fun σ29 eσ30 => ?_)
    replace h := h σ29 eσ30
    have hG31 : Gk σ29 u := eσ30 ▸ Gk.wI hG25
    refine w_aload_n dX10_laysPieces_74 rfl (List.Mem.head _) ?_
    refine w_dup dX10_laysPieces_75 rfl ?_
    refine i_getI (ci := 10) 25 rfl dX10_laysPieces_76 fl_10_224 (by decide) (kT hG31 rfl (lt_k rfl)) ?_
    refine w_iconst (v := nZ 1) dX10_laysPieces_79 (by decide) ?_
    obtain ⟨q32, h⟩ := h
    refine i_add dX10_laysPieces_80 ?_
    refine i_putI (ci := 10) 25 rfl dX10_laysPieces_81 fl_10_224 (by decide) (kT hG31 rfl (lt_k rfl)) (fun σ33 eσ34 => ?_)
    replace h := h σ33 eσ34
    have hG35 : Gk σ33 u := eσ34 ▸ Gk.wI hG31
    refine w_aload_n dX10_laysPieces_84 rfl (List.Mem.head _) ?_
    refine w_iload_n dX10_laysPieces_85 rfl (List.Mem.tail _ (List.Mem.head _)) ?_
    obtain ⟨r40, σ36, hc38, hG37, rr39, h⟩ := h
    refine w_callV dX10_laysPieces_86 ml_10_227 ⟨ok_X10_change, vi_X10_change⟩ hs_X10_change (As := [.int (nZ x1)]) rfl rfl (kT hG35 rfl (lt_k rfl)) (Nat.le_of_ble_eq_true rfl) hc38 ?_
    show wp C 10 cX10_laysPieces 2 none false [] sc P 89 [(0, .ref 76), (1, .int (nZ x1))] [.int (nZ r40)] σ36
    refine w_istore_n (l' := [(1, .int (nZ r40)), (0, .ref 76)]) dX10_laysPieces_89 rfl (by decide) rfl ?_
    refine w_goto (tgt := 7) dX10_laysPieces_90 rfl ?_
    exact w_weak (l' := [(0, .ref 76), (1, .int (nZ r40))]) (by intro q hq; simp only [List.mem_cons, List.not_mem_nil, or_false] at hq ⊢; rcases hq with rfl | rfl <;> simp) h
set_option maxRecDepth 10000 in
theorem tk_X10_stands {sc : Nat × (Nat → Int32)} {d : Nat} {Q : aO → aH → Prop} {σ : aH} {u : Nat}   (hG : Gk σ u) 
    (h : L_X10_stands_2 (Ev sc d) sc Q 0 σ) :
    T sc (d + 1) mX10_stands [.ref 76] σ Q := by
  refine T.of (c := 10) (code := cX10_stands) (mL := 3) (rt := none) (ini := false) (l := [(0, .ref 76)]) rfl rfl rfl rfl (by decide) hs_X10_stands rfl rfl ?_
  refine w_iconst (v := nZ 0) dX10_stands_0 (by decide) ?_
  refine w_istore_n (l' := [(1, .int (nZ 0)), (0, .ref 76)]) dX10_stands_1 rfl (by decide) rfl ?_
  exact w_weak (l' := [(0, .ref 76), (1, .int (nZ 0))]) (by intro q hq; simp only [List.mem_cons, List.not_mem_nil, or_false] at hq ⊢; rcases hq with rfl | rfl <;> simp) h
set_option maxRecDepth 10000 in
theorem vk_X10_stands_2 {C : aM → List Value → aH → aO → aH → Prop} {sc : Nat × (Nat → Int32)} {P : aO → aH → Prop} {σ : aH} {u : Nat}  {x1 : Int} (hG : Gk σ u) (rx1 : inR x1)
    (h : ((8 ≤ x1 → L_X10_stands_28 C sc P 0 σ) ∧ (¬ (8 ≤ x1) → ((0 ≤ x1 ∧ x1 < 8) ∧ ((0 ≤ x1 ∧ x1 < 8) ∧ (∀ σ1 : aH, wI σ 80 x1 (rI σ 79 x1) = σ1 → (inR (x1 + 1) ∧ L_X10_stands_2 C sc P (x1 + 1) σ1))))))) :
    L_X10_stands_2 C sc P x1 σ := by
  unfold L_X10_stands_2
  refine w_iload_n dX10_stands_2 rfl (List.Mem.tail _ (List.Mem.head _)) ?_
  refine w_bipush (v := nZ 8) dX10_stands_3 (by decide) ?_
  refine i_cmp_ge (tgt := 26) dX10_stands_5 rfl rx1 (by decide) (fun c9 => ?_) (fun c9 => ?_)
  · replace h := h.1 c9
    refine w_iconst (v := nZ 0) dX10_stands_26 (by decide) ?_
    refine w_istore_n (l' := [(1, .int (nZ 0)), (0, .ref 76)]) dX10_stands_27 rfl (by decide) rfl ?_
    exact w_weak (l' := [(0, .ref 76), (1, .int (nZ 0))]) (by intro q hq; simp only [List.mem_cons, List.not_mem_nil, or_false] at hq ⊢; rcases hq with rfl | rfl <;> simp) h
  · replace h := h.2 c9
    refine w_aload_n dX10_stands_8 rfl (List.Mem.head _) ?_
    refine w_getR (ci := 10) (k := 11) (b := 80) dX10_stands_9 fl_10_23 (by decide) (kT hG rfl (lt_k rfl)) (kR hG (b := 80) rfl (lt_k rfl)) ?_
    refine w_iload_n dX10_stands_12 rfl (List.Mem.tail _ (List.Mem.head _)) ?_
    refine w_aload_n dX10_stands_13 rfl (List.Mem.head _) ?_
    refine w_getR (ci := 10) (k := 10) (b := 79) dX10_stands_14 fl_10_20 (by decide) (kT hG rfl (lt_k rfl)) (kR hG (b := 79) rfl (lt_k rfl)) ?_
    refine w_iload_n dX10_stands_17 rfl (List.Mem.tail _ (List.Mem.head _)) ?_
    obtain ⟨h9, h⟩ := h
    refine i_iald (n := 8) dX10_stands_18 (kT hG rfl (lt_k rfl)) (kL hG rfl (lt_k rfl)) rx1 h9 ?_
    obtain ⟨h9, h⟩ := h
    refine i_iast (n := 8) dX10_stands_19 (kT hG rfl (lt_k rfl)) (kL hG rfl (lt_k rfl)) rx1 h9 (fun σ1 eσ2 => ?_)
    replace h := h σ1 eσ2
    have hG3 : Gk σ1 u := eσ2 ▸ Gk.wI hG
    obtain ⟨q4, h⟩ := h
    refine w_iinc (v := nZ (x1 + 1)) (l' := [(1, .int (nZ (x1 + 1))), (0, .ref 76)]) dX10_stands_20 (List.Mem.tail _ (List.Mem.head _)) (nZ_add _ _) (by decide) rfl ?_
    refine w_goto (tgt := 2) dX10_stands_23 rfl ?_
    exact w_weak (l' := [(0, .ref 76), (1, .int (nZ (x1 + 1)))]) (by intro q hq; simp only [List.mem_cons, List.not_mem_nil, or_false] at hq ⊢; rcases hq with rfl | rfl <;> simp) h
set_option maxRecDepth 10000 in
theorem vk_X10_stands_28 {C : aM → List Value → aH → aO → aH → Prop} {sc : Nat × (Nat → Int32)} {P : aO → aH → Prop} {σ : aH} {u : Nat}  {x1 : Int} (hG : Gk σ u) (rx1 : inR x1)
    (h : (((rI σ 80 2) ≤ x1 → L_X10_stands_76 C sc P 0 σ) ∧ (¬ ((rI σ 80 2) ≤ x1) → L_X10_stands_40 C sc P x1 0 σ))) :
    L_X10_stands_28 C sc P x1 σ := by
  unfold L_X10_stands_28
  refine w_iload_n dX10_stands_28 rfl (List.Mem.tail _ (List.Mem.head _)) ?_
  refine w_aload_n dX10_stands_29 rfl (List.Mem.head _) ?_
  refine w_getR (ci := 10) (k := 11) (b := 80) dX10_stands_30 fl_10_23 (by decide) (kT hG rfl (lt_k rfl)) (kR hG (b := 80) rfl (lt_k rfl)) ?_
  refine w_iconst (v := nZ 2) dX10_stands_33 (by decide) ?_
  refine i_iald (n := 8) dX10_stands_34 (kT hG rfl (lt_k rfl)) (kL hG rfl (lt_k rfl)) (by decide) (by decide) ?_
  refine i_cmp_ge (tgt := 74) dX10_stands_35 rfl rx1 (rI_R _ _ _) (fun c9 => ?_) (fun c9 => ?_)
  · replace h := h.1 c9
    refine w_iconst (v := nZ 0) dX10_stands_74 (by decide) ?_
    refine w_istore_n (l' := [(1, .int (nZ 0)), (0, .ref 76)]) dX10_stands_75 rfl (by decide) rfl ?_
    exact w_weak (l' := [(0, .ref 76), (1, .int (nZ 0))]) (by intro q hq; simp only [List.mem_cons, List.not_mem_nil, or_false] at hq ⊢; rcases hq with rfl | rfl <;> simp) h
  · replace h := h.2 c9
    refine w_iconst (v := nZ 0) dX10_stands_38 (by decide) ?_
    refine w_istore_n (l' := [(2, .int (nZ 0)), (0, .ref 76), (1, .int (nZ x1))]) dX10_stands_39 rfl (by decide) rfl ?_
    exact w_weak (l' := [(0, .ref 76), (1, .int (nZ x1)), (2, .int (nZ 0))]) (by intro q hq; simp only [List.mem_cons, List.not_mem_nil, or_false] at hq ⊢; rcases hq with rfl | rfl | rfl <;> simp) h
set_option maxRecDepth 10000 in
theorem vk_X10_stands_76 {C : aM → List Value → aH → aO → aH → Prop} {sc : Nat × (Nat → Int32)} {P : aO → aH → Prop} {σ : aH} {u : Nat}  {x1 : Int} (hG : Gk σ u) (rx1 : inR x1)
    (h : (((rI σ 80 6) ≤ x1 → L_X10_stands_124 C sc P 0 σ) ∧ (¬ ((rI σ 80 6) ≤ x1) → L_X10_stands_89 C sc P x1 0 σ))) :
    L_X10_stands_76 C sc P x1 σ := by
  unfold L_X10_stands_76
  refine w_iload_n dX10_stands_76 rfl (List.Mem.tail _ (List.Mem.head _)) ?_
  refine w_aload_n dX10_stands_77 rfl (List.Mem.head _) ?_
  refine w_getR (ci := 10) (k := 11) (b := 80) dX10_stands_78 fl_10_23 (by decide) (kT hG rfl (lt_k rfl)) (kR hG (b := 80) rfl (lt_k rfl)) ?_
  refine w_bipush (v := nZ 6) dX10_stands_81 (by decide) ?_
  refine i_iald (n := 8) dX10_stands_83 (kT hG rfl (lt_k rfl)) (kL hG rfl (lt_k rfl)) (by decide) (by decide) ?_
  refine i_cmp_ge (tgt := 122) dX10_stands_84 rfl rx1 (rI_R _ _ _) (fun c9 => ?_) (fun c9 => ?_)
  · replace h := h.1 c9
    refine w_iconst (v := nZ 0) dX10_stands_122 (by decide) ?_
    refine w_istore_n (l' := [(1, .int (nZ 0)), (0, .ref 76)]) dX10_stands_123 rfl (by decide) rfl ?_
    exact w_weak (l' := [(0, .ref 76), (1, .int (nZ 0))]) (by intro q hq; simp only [List.mem_cons, List.not_mem_nil, or_false] at hq ⊢; rcases hq with rfl | rfl <;> simp) h
  · replace h := h.2 c9
    refine w_iconst (v := nZ 0) dX10_stands_87 (by decide) ?_
    refine w_istore_n (l' := [(2, .int (nZ 0)), (0, .ref 76), (1, .int (nZ x1))]) dX10_stands_88 rfl (by decide) rfl ?_
    exact w_weak (l' := [(0, .ref 76), (1, .int (nZ x1)), (2, .int (nZ 0))]) (by intro q hq; simp only [List.mem_cons, List.not_mem_nil, or_false] at hq ⊢; rcases hq with rfl | rfl | rfl <;> simp) h
set_option maxRecDepth 10000 in
theorem vk_X10_stands_40 {C : aM → List Value → aH → aO → aH → Prop} {sc : Nat × (Nat → Int32)} {P : aO → aH → Prop} {σ : aH} {u : Nat}  {x1 : Int} {x2 : Int} (hG : Gk σ u) (rx1 : inR x1) (rx2 : inR x2)
    (h : ((7 ≤ x2 → (inR (x1 + 1) ∧ L_X10_stands_28 C sc P (x1 + 1) σ)) ∧ (¬ (7 ≤ x2) → ((0 ≤ x1 ∧ x1 < 9) ∧ ((0 ≤ x1 ∧ x1 < 8) ∧ ((0 ≤ x2 ∧ x2 < 7) ∧ ((0 ≤ x2 ∧ x2 < 7) ∧ (∀ σ4 : aH, wI σ (91 + x1.toNat) x2 (rI σ (82 + x1.toNat) x2) = σ4 → (inR (x2 + 1) ∧ L_X10_stands_40 C sc P x1 (x2 + 1) σ4))))))))) :
    L_X10_stands_40 C sc P x1 x2 σ := by
  unfold L_X10_stands_40
  refine w_iload_n dX10_stands_40 rfl (List.Mem.tail _ (List.Mem.tail _ (List.Mem.head _))) ?_
  refine w_bipush (v := nZ 7) dX10_stands_41 (by decide) ?_
  refine i_cmp_ge (tgt := 68) dX10_stands_43 rfl rx2 (by decide) (fun c9 => ?_) (fun c9 => ?_)
  · replace h := h.1 c9
    obtain ⟨q1, h⟩ := h
    refine w_iinc (v := nZ (x1 + 1)) (l' := [(1, .int (nZ (x1 + 1))), (0, .ref 76), (2, .int (nZ x2))]) dX10_stands_68 (List.Mem.tail _ (List.Mem.head _)) (nZ_add _ _) (by decide) rfl ?_
    refine w_goto (tgt := 28) dX10_stands_71 rfl ?_
    exact w_weak (l' := [(0, .ref 76), (1, .int (nZ (x1 + 1)))]) (by intro q hq; simp only [List.mem_cons, List.not_mem_nil, or_false] at hq ⊢; rcases hq with rfl | rfl <;> simp) h
  · replace h := h.2 c9
    refine w_aload_n dX10_stands_46 rfl (List.Mem.head _) ?_
    refine w_getR (ci := 10) (k := 13) (b := 90) dX10_stands_47 fl_10_31 (by decide) (kT hG rfl (lt_k rfl)) (kR hG (b := 90) rfl (lt_k rfl)) ?_
    refine w_iload_n dX10_stands_50 rfl (List.Mem.tail _ (List.Mem.head _)) ?_
    obtain ⟨h9, h⟩ := h
    have hj2 := vin_lt2 (n := 9) h9 rfl
    refine i_aald (n := 9) (b := (91 + x1.toNat)) dX10_stands_51 (kT hG rfl (lt_k rfl)) (kL hG rfl (lt_k rfl)) rx1 h9 (kR hG (rr_90 hj2) (lt_k rfl)) ?_
    refine w_iload_n dX10_stands_52 rfl (List.Mem.tail _ (List.Mem.tail _ (List.Mem.head _))) ?_
    refine w_aload_n dX10_stands_53 rfl (List.Mem.head _) ?_
    refine w_getR (ci := 10) (k := 12) (b := 81) dX10_stands_54 fl_10_28 (by decide) (kT hG rfl (lt_k rfl)) (kR hG (b := 81) rfl (lt_k rfl)) ?_
    refine w_iload_n dX10_stands_57 rfl (List.Mem.tail _ (List.Mem.head _)) ?_
    obtain ⟨h9, h⟩ := h
    have hj3 := vin_lt2 (n := 8) h9 rfl
    refine i_aald (n := 8) (b := (82 + x1.toNat)) dX10_stands_58 (kT hG rfl (lt_k rfl)) (kL hG rfl (lt_k rfl)) rx1 h9 (kR hG (rr_81 hj3) (lt_k rfl)) ?_
    refine w_iload_n dX10_stands_59 rfl (List.Mem.tail _ (List.Mem.tail _ (List.Mem.head _))) ?_
    obtain ⟨h9, h⟩ := h
    refine i_iald (n := 7) dX10_stands_60 (kT hG (ro_81 _ hj3).1 (by have := hj3; omega)) (kL hG (ro_81 _ hj3).2 (by have := hj3; omega)) rx2 h9 ?_
    obtain ⟨h9, h⟩ := h
    refine i_iast (n := 7) dX10_stands_61 (kT hG (ro_90 _ hj2).1 (by have := hj2; omega)) (kL hG (ro_90 _ hj2).2 (by have := hj2; omega)) rx2 h9 (fun σ4 eσ5 => ?_)
    replace h := h σ4 eσ5
    have hG6 : Gk σ4 u := eσ5 ▸ Gk.wI hG
    obtain ⟨q7, h⟩ := h
    refine w_iinc (v := nZ (x2 + 1)) (l' := [(2, .int (nZ (x2 + 1))), (0, .ref 76), (1, .int (nZ x1))]) dX10_stands_62 (List.Mem.tail _ (List.Mem.tail _ (List.Mem.head _))) (nZ_add _ _) (by decide) rfl ?_
    refine w_goto (tgt := 40) dX10_stands_65 rfl ?_
    exact w_weak (l' := [(0, .ref 76), (1, .int (nZ x1)), (2, .int (nZ (x2 + 1)))]) (by intro q hq; simp only [List.mem_cons, List.not_mem_nil, or_false] at hq ⊢; rcases hq with rfl | rfl | rfl <;> simp) h
set_option maxRecDepth 10000 in
theorem vk_X10_stands_124 {C : aM → List Value → aH → aO → aH → Prop} {sc : Nat × (Nat → Int32)} {P : aO → aH → Prop} {σ : aH} {u : Nat}  {x1 : Int} (hG : Gk σ u) (rx1 : inR x1)
    (h : (((rI σ 80 7) ≤ x1 → L_X10_stands_172 C sc P 0 σ) ∧ (¬ ((rI σ 80 7) ≤ x1) → L_X10_stands_137 C sc P x1 0 σ))) :
    L_X10_stands_124 C sc P x1 σ := by
  unfold L_X10_stands_124
  refine w_iload_n dX10_stands_124 rfl (List.Mem.tail _ (List.Mem.head _)) ?_
  refine w_aload_n dX10_stands_125 rfl (List.Mem.head _) ?_
  refine w_getR (ci := 10) (k := 11) (b := 80) dX10_stands_126 fl_10_23 (by decide) (kT hG rfl (lt_k rfl)) (kR hG (b := 80) rfl (lt_k rfl)) ?_
  refine w_bipush (v := nZ 7) dX10_stands_129 (by decide) ?_
  refine i_iald (n := 8) dX10_stands_131 (kT hG rfl (lt_k rfl)) (kL hG rfl (lt_k rfl)) (by decide) (by decide) ?_
  refine i_cmp_ge (tgt := 170) dX10_stands_132 rfl rx1 (rI_R _ _ _) (fun c9 => ?_) (fun c9 => ?_)
  · replace h := h.1 c9
    refine w_iconst (v := nZ 0) dX10_stands_170 (by decide) ?_
    refine w_istore_n (l' := [(1, .int (nZ 0)), (0, .ref 76)]) dX10_stands_171 rfl (by decide) rfl ?_
    exact w_weak (l' := [(0, .ref 76), (1, .int (nZ 0))]) (by intro q hq; simp only [List.mem_cons, List.not_mem_nil, or_false] at hq ⊢; rcases hq with rfl | rfl <;> simp) h
  · replace h := h.2 c9
    refine w_iconst (v := nZ 0) dX10_stands_135 (by decide) ?_
    refine w_istore_n (l' := [(2, .int (nZ 0)), (0, .ref 76), (1, .int (nZ x1))]) dX10_stands_136 rfl (by decide) rfl ?_
    exact w_weak (l' := [(0, .ref 76), (1, .int (nZ x1)), (2, .int (nZ 0))]) (by intro q hq; simp only [List.mem_cons, List.not_mem_nil, or_false] at hq ⊢; rcases hq with rfl | rfl | rfl <;> simp) h
set_option maxRecDepth 10000 in
theorem vk_X10_stands_89 {C : aM → List Value → aH → aO → aH → Prop} {sc : Nat × (Nat → Int32)} {P : aO → aH → Prop} {σ : aH} {u : Nat}  {x1 : Int} {x2 : Int} (hG : Gk σ u) (rx1 : inR x1) (rx2 : inR x2)
    (h : ((4 ≤ x2 → (inR (x1 + 1) ∧ L_X10_stands_76 C sc P (x1 + 1) σ)) ∧ (¬ (4 ≤ x2) → ((0 ≤ x1 ∧ x1 < 20) ∧ ((0 ≤ x1 ∧ x1 < 20) ∧ ((0 ≤ x2 ∧ x2 < 4) ∧ ((0 ≤ x2 ∧ x2 < 4) ∧ (∀ σ4 : aH, wI σ (122 + x1.toNat) x2 (rI σ (101 + x1.toNat) x2) = σ4 → (inR (x2 + 1) ∧ L_X10_stands_89 C sc P x1 (x2 + 1) σ4))))))))) :
    L_X10_stands_89 C sc P x1 x2 σ := by
  unfold L_X10_stands_89
  refine w_iload_n dX10_stands_89 rfl (List.Mem.tail _ (List.Mem.tail _ (List.Mem.head _))) ?_
  refine w_iconst (v := nZ 4) dX10_stands_90 (by decide) ?_
  refine i_cmp_ge (tgt := 116) dX10_stands_91 rfl rx2 (by decide) (fun c9 => ?_) (fun c9 => ?_)
  · replace h := h.1 c9
    obtain ⟨q1, h⟩ := h
    refine w_iinc (v := nZ (x1 + 1)) (l' := [(1, .int (nZ (x1 + 1))), (0, .ref 76), (2, .int (nZ x2))]) dX10_stands_116 (List.Mem.tail _ (List.Mem.head _)) (nZ_add _ _) (by decide) rfl ?_
    refine w_goto (tgt := 76) dX10_stands_119 rfl ?_
    exact w_weak (l' := [(0, .ref 76), (1, .int (nZ (x1 + 1)))]) (by intro q hq; simp only [List.mem_cons, List.not_mem_nil, or_false] at hq ⊢; rcases hq with rfl | rfl <;> simp) h
  · replace h := h.2 c9
    refine w_aload_n dX10_stands_94 rfl (List.Mem.head _) ?_
    refine w_getR (ci := 10) (k := 15) (b := 121) dX10_stands_95 fl_10_37 (by decide) (kT hG rfl (lt_k rfl)) (kR hG (b := 121) rfl (lt_k rfl)) ?_
    refine w_iload_n dX10_stands_98 rfl (List.Mem.tail _ (List.Mem.head _)) ?_
    obtain ⟨h9, h⟩ := h
    have hj2 := vin_lt2 (n := 20) h9 rfl
    refine i_aald (n := 20) (b := (122 + x1.toNat)) dX10_stands_99 (kT hG rfl (lt_k rfl)) (kL hG rfl (lt_k rfl)) rx1 h9 (kR hG (rr_121 hj2) (lt_k rfl)) ?_
    refine w_iload_n dX10_stands_100 rfl (List.Mem.tail _ (List.Mem.tail _ (List.Mem.head _))) ?_
    refine w_aload_n dX10_stands_101 rfl (List.Mem.head _) ?_
    refine w_getR (ci := 10) (k := 14) (b := 100) dX10_stands_102 fl_10_34 (by decide) (kT hG rfl (lt_k rfl)) (kR hG (b := 100) rfl (lt_k rfl)) ?_
    refine w_iload_n dX10_stands_105 rfl (List.Mem.tail _ (List.Mem.head _)) ?_
    obtain ⟨h9, h⟩ := h
    have hj3 := vin_lt2 (n := 20) h9 rfl
    refine i_aald (n := 20) (b := (101 + x1.toNat)) dX10_stands_106 (kT hG rfl (lt_k rfl)) (kL hG rfl (lt_k rfl)) rx1 h9 (kR hG (rr_100 hj3) (lt_k rfl)) ?_
    refine w_iload_n dX10_stands_107 rfl (List.Mem.tail _ (List.Mem.tail _ (List.Mem.head _))) ?_
    obtain ⟨h9, h⟩ := h
    refine i_iald (n := 4) dX10_stands_108 (kT hG (ro_100 _ hj3).1 (by have := hj3; omega)) (kL hG (ro_100 _ hj3).2 (by have := hj3; omega)) rx2 h9 ?_
    obtain ⟨h9, h⟩ := h
    refine i_iast (n := 4) dX10_stands_109 (kT hG (ro_121 _ hj2).1 (by have := hj2; omega)) (kL hG (ro_121 _ hj2).2 (by have := hj2; omega)) rx2 h9 (fun σ4 eσ5 => ?_)
    replace h := h σ4 eσ5
    have hG6 : Gk σ4 u := eσ5 ▸ Gk.wI hG
    obtain ⟨q7, h⟩ := h
    refine w_iinc (v := nZ (x2 + 1)) (l' := [(2, .int (nZ (x2 + 1))), (0, .ref 76), (1, .int (nZ x1))]) dX10_stands_110 (List.Mem.tail _ (List.Mem.tail _ (List.Mem.head _))) (nZ_add _ _) (by decide) rfl ?_
    refine w_goto (tgt := 89) dX10_stands_113 rfl ?_
    exact w_weak (l' := [(0, .ref 76), (1, .int (nZ x1)), (2, .int (nZ (x2 + 1)))]) (by intro q hq; simp only [List.mem_cons, List.not_mem_nil, or_false] at hq ⊢; rcases hq with rfl | rfl | rfl <;> simp) h
set_option maxRecDepth 10000 in
theorem vk_X10_stands_172 {C : aM → List Value → aH → aO → aH → Prop} {sc : Nat × (Nat → Int32)} {P : aO → aH → Prop} {σ : aH} {u : Nat}  {x1 : Int} (hG : Gk σ u) (rx1 : inR x1)
    (h : ((8 ≤ x1 → (∀ σ1 : aH, wI σ 76 18 0 = σ1 → (∀ σ4 : aH, wI σ1 76 19 0 = σ4 → (∀ σ7 : aH, wI σ4 76 20 0 = σ7 → (∀ σ10 : aH, wI σ7 76 21 0 = σ10 → (∀ σ13 : aH, wI σ10 76 27 0 = σ13 → (∀ σ16 : aH, wI σ13 76 28 (rI σ13 80 2) = σ16 → (∃ σ19 : aH, C mX10_laysPieces [.ref 76] σ16 (.inl none) σ19 ∧ Gk σ19 u ∧ P (.inl none) σ19)))))))) ∧ (¬ (8 ≤ x1) → ((0 ≤ x1 ∧ x1 < 8) ∧ (∀ σ23 : aH, wI σ 184 x1 (-1) = σ23 → (inR (x1 + 1) ∧ L_X10_stands_172 C sc P (x1 + 1) σ23)))))) :
    L_X10_stands_172 C sc P x1 σ := by
  unfold L_X10_stands_172
  refine w_iload_n dX10_stands_172 rfl (List.Mem.tail _ (List.Mem.head _)) ?_
  refine w_bipush (v := nZ 8) dX10_stands_173 (by decide) ?_
  refine i_cmp_ge (tgt := 191) dX10_stands_175 rfl rx1 (by decide) (fun c9 => ?_) (fun c9 => ?_)
  · replace h := h.1 c9
    refine w_aload_n dX10_stands_191 rfl (List.Mem.head _) ?_
    refine w_iconst (v := nZ 0) dX10_stands_192 (by decide) ?_
    refine i_putI (ci := 10) 18 rfl dX10_stands_193 fl_10_203 (by decide) (kT hG rfl (lt_k rfl)) (fun σ1 eσ2 => ?_)
    replace h := h σ1 eσ2
    have hG3 : Gk σ1 u := eσ2 ▸ Gk.wI hG
    refine w_aload_n dX10_stands_196 rfl (List.Mem.head _) ?_
    refine w_iconst (v := nZ 0) dX10_stands_197 (by decide) ?_
    refine i_putI (ci := 10) 19 rfl dX10_stands_198 fl_10_206 (by decide) (kT hG3 rfl (lt_k rfl)) (fun σ4 eσ5 => ?_)
    replace h := h σ4 eσ5
    have hG6 : Gk σ4 u := eσ5 ▸ Gk.wI hG3
    refine w_aload_n dX10_stands_201 rfl (List.Mem.head _) ?_
    refine w_iconst (v := nZ 0) dX10_stands_202 (by decide) ?_
    refine i_putI (ci := 10) 20 rfl dX10_stands_203 fl_10_209 (by decide) (kT hG6 rfl (lt_k rfl)) (fun σ7 eσ8 => ?_)
    replace h := h σ7 eσ8
    have hG9 : Gk σ7 u := eσ8 ▸ Gk.wI hG6
    refine w_aload_n dX10_stands_206 rfl (List.Mem.head _) ?_
    refine w_iconst (v := nZ 0) dX10_stands_207 (by decide) ?_
    refine i_putI (ci := 10) 21 rfl dX10_stands_208 fl_10_212 (by decide) (kT hG9 rfl (lt_k rfl)) (fun σ10 eσ11 => ?_)
    replace h := h σ10 eσ11
    have hG12 : Gk σ10 u := eσ11 ▸ Gk.wI hG9
    refine w_aload_n dX10_stands_211 rfl (List.Mem.head _) ?_
    refine w_iconst (v := nZ 0) dX10_stands_212 (by decide) ?_
    refine i_putI (ci := 10) 27 rfl dX10_stands_213 fl_10_215 (by decide) (kT hG12 rfl (lt_k rfl)) (fun σ13 eσ14 => ?_)
    replace h := h σ13 eσ14
    have hG15 : Gk σ13 u := eσ14 ▸ Gk.wI hG12
    refine w_aload_n dX10_stands_216 rfl (List.Mem.head _) ?_
    refine w_aload_n dX10_stands_217 rfl (List.Mem.head _) ?_
    refine w_getR (ci := 10) (k := 11) (b := 80) dX10_stands_218 fl_10_23 (by decide) (kT hG15 rfl (lt_k rfl)) (kR hG15 (b := 80) rfl (lt_k rfl)) ?_
    refine w_iconst (v := nZ 2) dX10_stands_221 (by decide) ?_
    refine i_iald (n := 8) dX10_stands_222 (kT hG15 rfl (lt_k rfl)) (kL hG15 rfl (lt_k rfl)) (by decide) (by decide) ?_
    refine i_putI (ci := 10) 28 rfl dX10_stands_223 fl_10_218 (by decide) (kT hG15 rfl (lt_k rfl)) (fun σ16 eσ17 => ?_)
    replace h := h σ16 eσ17
    have hG18 : Gk σ16 u := eσ17 ▸ Gk.wI hG15
    refine w_aload_n dX10_stands_226 rfl (List.Mem.head _) ?_
    obtain ⟨σ19, hc21, hG20, h⟩ := h
    refine w_callV dX10_stands_227 ml_10_221 ⟨ok_X10_laysPieces, vi_X10_laysPieces⟩ hs_X10_laysPieces (As := []) rfl rfl (kT hG18 rfl (lt_k rfl)) (Nat.le_of_ble_eq_true rfl) hc21 ?_
    show wp C 10 cX10_stands 3 none false [] sc P 230 [(0, .ref 76), (1, .int (nZ x1))] [] σ19
    exact w_vret dX10_stands_230 rfl h
  · replace h := h.2 c9
    refine w_aload_n dX10_stands_178 rfl (List.Mem.head _) ?_
    refine w_getR (ci := 10) (k := 23) (b := 184) dX10_stands_179 fl_10_46 (by decide) (kT hG rfl (lt_k rfl)) (kR hG (b := 184) rfl (lt_k rfl)) ?_
    refine w_iload_n dX10_stands_182 rfl (List.Mem.tail _ (List.Mem.head _)) ?_
    refine w_iconst (v := nZ (-1)) dX10_stands_183 (by decide) ?_
    obtain ⟨h9, h⟩ := h
    refine i_iast (n := 8) dX10_stands_184 (kT hG rfl (lt_k rfl)) (kL hG rfl (lt_k rfl)) rx1 h9 (fun σ23 eσ24 => ?_)
    replace h := h σ23 eσ24
    have hG25 : Gk σ23 u := eσ24 ▸ Gk.wI hG
    obtain ⟨q26, h⟩ := h
    refine w_iinc (v := nZ (x1 + 1)) (l' := [(1, .int (nZ (x1 + 1))), (0, .ref 76)]) dX10_stands_185 (List.Mem.tail _ (List.Mem.head _)) (nZ_add _ _) (by decide) rfl ?_
    refine w_goto (tgt := 172) dX10_stands_188 rfl ?_
    exact w_weak (l' := [(0, .ref 76), (1, .int (nZ (x1 + 1)))]) (by intro q hq; simp only [List.mem_cons, List.not_mem_nil, or_false] at hq ⊢; rcases hq with rfl | rfl <;> simp) h
set_option maxRecDepth 10000 in
theorem vk_X10_stands_137 {C : aM → List Value → aH → aO → aH → Prop} {sc : Nat × (Nat → Int32)} {P : aO → aH → Prop} {σ : aH} {u : Nat}  {x1 : Int} {x2 : Int} (hG : Gk σ u) (rx1 : inR x1) (rx2 : inR x2)
    (h : ((2 ≤ x2 → (inR (x1 + 1) ∧ L_X10_stands_124 C sc P (x1 + 1) σ)) ∧ (¬ (2 ≤ x2) → ((0 ≤ x1 ∧ x1 < 20) ∧ ((0 ≤ x1 ∧ x1 < 20) ∧ ((0 ≤ x2 ∧ x2 < 2) ∧ ((0 ≤ x2 ∧ x2 < 2) ∧ (∀ σ4 : aH, wI σ (164 + x1.toNat) x2 (rI σ (143 + x1.toNat) x2) = σ4 → (inR (x2 + 1) ∧ L_X10_stands_137 C sc P x1 (x2 + 1) σ4))))))))) :
    L_X10_stands_137 C sc P x1 x2 σ := by
  unfold L_X10_stands_137
  refine w_iload_n dX10_stands_137 rfl (List.Mem.tail _ (List.Mem.tail _ (List.Mem.head _))) ?_
  refine w_iconst (v := nZ 2) dX10_stands_138 (by decide) ?_
  refine i_cmp_ge (tgt := 164) dX10_stands_139 rfl rx2 (by decide) (fun c9 => ?_) (fun c9 => ?_)
  · replace h := h.1 c9
    obtain ⟨q1, h⟩ := h
    refine w_iinc (v := nZ (x1 + 1)) (l' := [(1, .int (nZ (x1 + 1))), (0, .ref 76), (2, .int (nZ x2))]) dX10_stands_164 (List.Mem.tail _ (List.Mem.head _)) (nZ_add _ _) (by decide) rfl ?_
    refine w_goto (tgt := 124) dX10_stands_167 rfl ?_
    exact w_weak (l' := [(0, .ref 76), (1, .int (nZ (x1 + 1)))]) (by intro q hq; simp only [List.mem_cons, List.not_mem_nil, or_false] at hq ⊢; rcases hq with rfl | rfl <;> simp) h
  · replace h := h.2 c9
    refine w_aload_n dX10_stands_142 rfl (List.Mem.head _) ?_
    refine w_getR (ci := 10) (k := 17) (b := 163) dX10_stands_143 fl_10_43 (by decide) (kT hG rfl (lt_k rfl)) (kR hG (b := 163) rfl (lt_k rfl)) ?_
    refine w_iload_n dX10_stands_146 rfl (List.Mem.tail _ (List.Mem.head _)) ?_
    obtain ⟨h9, h⟩ := h
    have hj2 := vin_lt2 (n := 20) h9 rfl
    refine i_aald (n := 20) (b := (164 + x1.toNat)) dX10_stands_147 (kT hG rfl (lt_k rfl)) (kL hG rfl (lt_k rfl)) rx1 h9 (kR hG (rr_163 hj2) (lt_k rfl)) ?_
    refine w_iload_n dX10_stands_148 rfl (List.Mem.tail _ (List.Mem.tail _ (List.Mem.head _))) ?_
    refine w_aload_n dX10_stands_149 rfl (List.Mem.head _) ?_
    refine w_getR (ci := 10) (k := 16) (b := 142) dX10_stands_150 fl_10_40 (by decide) (kT hG rfl (lt_k rfl)) (kR hG (b := 142) rfl (lt_k rfl)) ?_
    refine w_iload_n dX10_stands_153 rfl (List.Mem.tail _ (List.Mem.head _)) ?_
    obtain ⟨h9, h⟩ := h
    have hj3 := vin_lt2 (n := 20) h9 rfl
    refine i_aald (n := 20) (b := (143 + x1.toNat)) dX10_stands_154 (kT hG rfl (lt_k rfl)) (kL hG rfl (lt_k rfl)) rx1 h9 (kR hG (rr_142 hj3) (lt_k rfl)) ?_
    refine w_iload_n dX10_stands_155 rfl (List.Mem.tail _ (List.Mem.tail _ (List.Mem.head _))) ?_
    obtain ⟨h9, h⟩ := h
    refine i_iald (n := 2) dX10_stands_156 (kT hG (ro_142 _ hj3).1 (by have := hj3; omega)) (kL hG (ro_142 _ hj3).2 (by have := hj3; omega)) rx2 h9 ?_
    obtain ⟨h9, h⟩ := h
    refine i_iast (n := 2) dX10_stands_157 (kT hG (ro_163 _ hj2).1 (by have := hj2; omega)) (kL hG (ro_163 _ hj2).2 (by have := hj2; omega)) rx2 h9 (fun σ4 eσ5 => ?_)
    replace h := h σ4 eσ5
    have hG6 : Gk σ4 u := eσ5 ▸ Gk.wI hG
    obtain ⟨q7, h⟩ := h
    refine w_iinc (v := nZ (x2 + 1)) (l' := [(2, .int (nZ (x2 + 1))), (0, .ref 76), (1, .int (nZ x1))]) dX10_stands_158 (List.Mem.tail _ (List.Mem.tail _ (List.Mem.head _))) (nZ_add _ _) (by decide) rfl ?_
    refine w_goto (tgt := 137) dX10_stands_161 rfl ?_
    exact w_weak (l' := [(0, .ref 76), (1, .int (nZ x1)), (2, .int (nZ (x2 + 1)))]) (by intro q hq; simp only [List.mem_cons, List.not_mem_nil, or_false] at hq ⊢; rcases hq with rfl | rfl | rfl <;> simp) h
section
variable {sc : Nat × (Nat → Int32)} {d : Nat} {σ : aH} {u : Nat}
theorem mk_sunAt {fr : Int → Int} {K t : Int} (hG : Gk σ u) (hK : rI σ 80 6 = K) (hb : 0 ≤ K ∧ K ≤ 20) (hfr : ∀ i : Int, 0 ≤ i → i < K → rI σ (122 + i.toNat) 0 = fr i) (rt : inR t) : TI sc (d + 1) mX10_sunAt [.ref 76, .int (nZ t)] σ (fun r σ1 => σ1 = σ ∧ LstS fr K t r ∧ (-1 ≤ r ∧ r < 20)) := by
  apply T.int
  apply tk_X10_sunAt hG rt
  obtain ⟨P, hP⟩ : ∃ P : aO → aH → Prop, P = QI (fun r σ1 => σ1 = σ ∧ LstS fr K t r ∧ (-1 ≤ r ∧ r < 20)) := ⟨_, rfl⟩
  rw [← hP]
  have loop : ∀ (f : Nat) (i r : Int), (K - i).toNat = f → 0 ≤ i → i ≤ K → LstS fr i t r → (-1 ≤ r ∧ r < 20) → L_X10_sunAt_4 (Ev sc d) sc P t r i σ := by
    intro f
    induction f with
    | zero =>
      intro i r hf i0 i1 hl hr
      apply vk_X10_sunAt_4 hG rt (by omega) (by omega)
      refine ⟨fun _ => ?_, fun q => by omega⟩
      rw [hP]
      have e : i = K := by omega
      rw [e] at hl
      exact ⟨r, rfl, by omega, rfl, hl, hr⟩
    | succ f ih =>
      intro i r hf i0 i1 hl hr
      apply vk_X10_sunAt_4 hG rt (by omega) (by omega)
      rw [hfr i i0 (by omega)]
      refine ⟨fun q => by omega, fun _ => ⟨by omega, fun q => ⟨by omega, ih (i + 1) r (by omega) (by omega) (by omega) ?_ hr⟩, fun q => ⟨fun q1 => ⟨by omega, ih (i + 1) i (by omega) (by omega) (by omega) ?_ (by omega)⟩, fun q1 => ⟨by omega, ?_⟩⟩⟩⟩
      · rcases hl with ⟨a, b⟩ | ⟨a, b, c⟩
        · refine Or.inl ⟨a, fun j j0 j1 => ?_⟩
          by_cases z : j = i
          · rw [z]; exact q
          · exact b j j0 (by omega)
        · refine Or.inr ⟨by omega, b, fun j j0 j1 j2 => ?_⟩
          by_cases z : j = i
          · rw [z] at j2; omega
          · exact c j j0 (by omega) j2
      · refine Or.inr ⟨by omega, by omega, fun j j0 j1 j2 => ?_⟩
        rcases hl with ⟨a, b⟩ | ⟨a, b, c⟩
        · by_cases z : j = i
          · rw [z]; exact Int.le_refl _
          · have := b j j0 (by omega); omega
        · omega
      · rcases hl with ⟨a, b⟩ | ⟨a, b, c⟩
        · omega
        · rw [hfr r a.1 (by omega)]
          refine ⟨by omega, fun q2 => ⟨by omega, ih (i + 1) r (by omega) (by omega) (by omega) (Or.inr ⟨by omega, b, fun j j0 j1 j2 => ?_⟩) hr⟩, fun q2 => ⟨by omega, ih (i + 1) i (by omega) (by omega) (by omega) (Or.inr ⟨by omega, by omega, fun j j0 j1 j2 => ?_⟩) (by omega)⟩⟩
          · by_cases z : j = i
            · rw [z]; exact q2
            · exact c j j0 (by omega) j2
          · by_cases z : j = i
            · rw [z]; exact Int.le_refl _
            · have := c j j0 (by omega) j2; omega
  exact loop _ 0 (-1) rfl (by omega) (by omega) (Or.inl ⟨rfl, fun i a b => by omega⟩) (by omega)
theorem mk_rateAt {fr : Int → Int} {K t : Int} (hG : Gk σ u) (hK : rI σ 80 7 = K) (hb : 0 ≤ K ∧ K ≤ 20) (hfr : ∀ i : Int, 0 ≤ i → i < K → rI σ (164 + i.toNat) 0 = fr i) (rt : inR t) : TI sc (d + 1) mX10_rateAt [.ref 76, .int (nZ t)] σ (fun r σ1 => σ1 = σ ∧ ∃ q : Int, LstS fr K t q ∧ (q = -1 → r = 1) ∧ (q ≠ -1 → r = rI σ (164 + q.toNat) 1)) := by
  apply T.int
  apply tk_X10_rateAt hG rt
  obtain ⟨P, hP⟩ : ∃ P : aO → aH → Prop, P = QI (fun r σ1 => σ1 = σ ∧ ∃ q : Int, LstS fr K t q ∧ (q = -1 → r = 1) ∧ (q ≠ -1 → r = rI σ (164 + q.toNat) 1)) := ⟨_, rfl⟩
  rw [← hP]
  have loop : ∀ (f : Nat) (i r : Int), (K - i).toNat = f → 0 ≤ i → i ≤ K → LstS fr i t r → (-1 ≤ r ∧ r < 20) → L_X10_rateAt_4 (Ev sc d) sc P t r i σ := by
    intro f
    induction f with
    | zero =>
      intro i r hf i0 i1 hl hr
      apply vk_X10_rateAt_4 hG rt (by omega) (by omega)
      have e : i = K := by omega
      rw [e] at hl
      refine ⟨fun _ => ⟨fun q => ⟨by omega, ?_⟩, fun q => ?_⟩, fun q => by omega⟩
      · rw [hP]
        exact ⟨_, rfl, rI_R _ _ _, rfl, r, hl, fun z => absurd z q, fun _ => rfl⟩
      · rw [hP]
        exact ⟨1, rfl, by decide, rfl, r, hl, fun _ => rfl, fun z => absurd q z⟩
    | succ f ih =>
      intro i r hf i0 i1 hl hr
      apply vk_X10_rateAt_4 hG rt (by omega) (by omega)
      rw [hfr i i0 (by omega)]
      refine ⟨fun q => by omega, fun _ => ⟨by omega, fun q => ⟨by omega, ih (i + 1) r (by omega) (by omega) (by omega) ?_ hr⟩, fun q => ⟨fun q1 => ⟨by omega, ih (i + 1) i (by omega) (by omega) (by omega) ?_ (by omega)⟩, fun q1 => ⟨by omega, ?_⟩⟩⟩⟩
      · rcases hl with ⟨a, b⟩ | ⟨a, b, c⟩
        · refine Or.inl ⟨a, fun j j0 j1 => ?_⟩
          by_cases z : j = i
          · rw [z]; exact q
          · exact b j j0 (by omega)
        · refine Or.inr ⟨by omega, b, fun j j0 j1 j2 => ?_⟩
          by_cases z : j = i
          · rw [z] at j2; omega
          · exact c j j0 (by omega) j2
      · refine Or.inr ⟨by omega, by omega, fun j j0 j1 j2 => ?_⟩
        rcases hl with ⟨a, b⟩ | ⟨a, b, c⟩
        · by_cases z : j = i
          · rw [z]; exact Int.le_refl _
          · have := b j j0 (by omega); omega
        · omega
      · rcases hl with ⟨a, b⟩ | ⟨a, b, c⟩
        · omega
        · rw [hfr r a.1 (by omega)]
          refine ⟨by omega, fun q2 => ⟨by omega, ih (i + 1) r (by omega) (by omega) (by omega) (Or.inr ⟨by omega, b, fun j j0 j1 j2 => ?_⟩) hr⟩, fun q2 => ⟨by omega, ih (i + 1) i (by omega) (by omega) (by omega) (Or.inr ⟨by omega, by omega, fun j j0 j1 j2 => ?_⟩) (by omega)⟩⟩
          · by_cases z : j = i
            · rw [z]; exact q2
            · exact c j j0 (by omega) j2
          · by_cases z : j = i
            · rw [z]; exact Int.le_refl _
            · have := c j j0 (by omega) j2; omega
  exact loop _ 0 (-1) rfl (by omega) (by omega) (Or.inl ⟨rfl, fun i a b => by omega⟩) (by omega)
theorem mk_change {fr fq : Int → Int} {K Kq du t : Int} (hG : Gk σ u) (hK : rI σ 80 6 = K) (hb : 0 ≤ K ∧ K ≤ 20) (hfr : ∀ i : Int, 0 ≤ i → i < K → rI σ (122 + i.toNat) 0 = fr i) (hKq : rI σ 80 7 = Kq) (hbq : 0 ≤ Kq ∧ Kq ≤ 20) (hfq : ∀ i : Int, 0 ≤ i → i < Kq → rI σ (164 + i.toNat) 0 = fq i) (hdu : rI σ 80 4 = du) (rt : 0 ≤ t ∧ t < 1440) : TI sc (d + 1) mX10_change [.ref 76, .int (nZ t)] σ (fun r σ1 => σ1 = σ ∧ ChgS fr fq K Kq du t r) := by
  apply T.int
  apply tk_X10_change hG (by omega)
  refine ⟨⟨by omega, by omega⟩, by omega, by omega, by omega, fun z4 e4 => ?_⟩
  obtain ⟨P, hP⟩ : ∃ P : aO → aH → Prop, P = QI (fun r σ1 => σ1 = σ ∧ ChgS fr fq K Kq du t r) := ⟨_, rfl⟩
  rw [← hP]
  have l2 : ∀ (f : Nat) (i x : Int), (Kq - i).toNat = f → 0 ≤ i → i ≤ Kq → (t < x ∧ x ≤ t / 60 * 60 + 60) → (∀ j : Int, 0 ≤ j → j < K → t < fr j → x ≤ fr j) → (∀ j : Int, 0 ≤ j → j < i → t < fq j → x ≤ fq j) → (x = t / 60 * 60 + 60 ∨ InS fr K x ∨ InS fq Kq x) → L_X10_change_69 (Ev sc d) sc P t x i σ := by
    intro f
    induction f with
    | zero =>
      intro i x hf i0 i1 hx h1 h2 h3
      have e : i = Kq := by omega
      rw [e] at h2
      apply vk_X10_change_69 hG (by omega) (by omega) (by omega)
      rw [hdu]
      refine ⟨fun _ => ⟨fun q => ?_, fun q => ⟨fun q1 => ?_, fun q1 => ?_⟩⟩, fun q => by omega⟩
      · rw [hP]
        exact ⟨x, rfl, by omega, rfl, hx, h1, h2, fun z => by omega, h3.elim Or.inl (fun z => Or.inr (z.elim Or.inl (fun z => Or.inr (Or.inl z))))⟩
      · rw [hP]
        exact ⟨x, rfl, by omega, rfl, hx, h1, h2, fun z => by omega, h3.elim Or.inl (fun z => Or.inr (z.elim Or.inl (fun z => Or.inr (Or.inl z))))⟩
      · rw [hP]
        exact ⟨du, rfl, by omega, rfl, by omega, fun j j0 j1 j2 => by have := h1 j j0 j1 j2; omega, fun j j0 j1 j2 => by have := h2 j j0 j1 j2; omega, fun _ => Int.le_refl _, Or.inr (Or.inr (Or.inr rfl))⟩
    | succ f ih =>
      intro i x hf i0 i1 hx h1 h2 h3
      apply vk_X10_change_69 hG (by omega) (by omega) (by omega)
      rw [hfq i i0 (by omega)]
      refine ⟨fun q => by omega, fun _ => ⟨by omega, fun q => ⟨by omega, ih (i + 1) x (by omega) (by omega) (by omega) hx h1 (fun j j0 j1 j2 => ?_) h3⟩, fun q => ⟨by omega, fun q1 => ⟨by omega, ih (i + 1) x (by omega) (by omega) (by omega) hx h1 (fun j j0 j1 j2 => ?_) h3⟩, fun q1 => ⟨by omega, fun z6 e6 => ⟨by omega, ?_⟩⟩⟩⟩⟩
      · by_cases z : j = i
        · rw [z] at j2; omega
        · exact h2 j j0 (by omega) j2
      · by_cases z : j = i
        · rw [z]; exact q1
        · exact h2 j j0 (by omega) j2
      · rw [e6]
        refine ih (i + 1) (fq i) (by omega) (by omega) (by omega) (by omega) (fun j j0 j1 j2 => by have := h1 j j0 j1 j2; omega) (fun j j0 j1 j2 => ?_) (Or.inr (Or.inr ⟨i, i0, by omega, rfl⟩))
        by_cases z : j = i
        · rw [z]; exact Int.le_refl _
        · have := h2 j j0 (by omega) j2; omega
  have l1 : ∀ (f : Nat) (i x : Int), (K - i).toNat = f → 0 ≤ i → i ≤ K → (t < x ∧ x ≤ t / 60 * 60 + 60) → (∀ j : Int, 0 ≤ j → j < i → t < fr j → x ≤ fr j) → (x = t / 60 * 60 + 60 ∨ InS fr K x) → L_X10_change_13 (Ev sc d) sc P t x i σ := by
    intro f
    induction f with
    | zero =>
      intro i x hf i0 i1 hx h1 h3
      have e : i = K := by omega
      rw [e] at h1
      apply vk_X10_change_13 hG (by omega) (by omega) (by omega)
      exact ⟨fun _ => l2 _ 0 x rfl (by omega) (by omega) hx h1 (fun j a b => by omega) (h3.elim Or.inl (fun z => Or.inr (Or.inl z))), fun q => by omega⟩
    | succ f ih =>
      intro i x hf i0 i1 hx h1 h3
      apply vk_X10_change_13 hG (by omega) (by omega) (by omega)
      rw [hfr i i0 (by omega)]
      refine ⟨fun q => by omega, fun _ => ⟨by omega, fun q => ⟨by omega, ih (i + 1) x (by omega) (by omega) (by omega) hx (fun j j0 j1 j2 => ?_) h3⟩, fun q => ⟨by omega, fun q1 => ⟨by omega, ih (i + 1) x (by omega) (by omega) (by omega) hx (fun j j0 j1 j2 => ?_) h3⟩, fun q1 => ⟨by omega, fun z6 e6 => ⟨by omega, ?_⟩⟩⟩⟩⟩
      · by_cases z : j = i
        · rw [z] at j2; omega
        · exact h1 j j0 (by omega) j2
      · by_cases z : j = i
        · rw [z]; exact q1
        · exact h1 j j0 (by omega) j2
      · rw [e6]
        refine ih (i + 1) (fr i) (by omega) (by omega) (by omega) (by omega) (fun j j0 j1 j2 => ?_) (Or.inr ⟨i, i0, by omega, rfl⟩)
        by_cases z : j = i
        · rw [z]; exact Int.le_refl _
        · have := h1 j j0 (by omega) j2; omega
  exact l1 _ 0 z4 rfl (by omega) (by omega) (by omega) (fun j a b => by omega) (Or.inl e4)
theorem mk_laysPieces {fr fq va : Int → Int} {K Kq du : Int} {Er : Nat → Option Int} (hG : Gk σ u) (hK : rI σ 80 6 = K) (hb : 0 ≤ K ∧ K ≤ 20) (hfr : ∀ i : Int, 0 ≤ i → i < K → rI σ (122 + i.toNat) 0 = fr i) (hKq : rI σ 80 7 = Kq) (hfq : ∀ i : Int, 0 ≤ i → i < Kq → rI σ (164 + i.toNat) 0 = fq i ∧ rI σ (164 + i.toNat) 1 = va i) (hU : RepU fq va Kq Er) (hdu : rI σ 80 4 = du) : TV sc (d + 2) mX10_laysPieces [.ref 76] σ (fun σ1 => Fr AL σ σ1 ∧ (1 ≤ rI σ1 76 25 ∧ rI σ1 76 25 ≤ 65) ∧ PcP (rI σ1) (rI σ1 76 25) 1440 fr K du Er) := by
  have hbq := hU.1
  apply T.void
  apply tk_X10_laysPieces hG
  intro σ1 e1
  obtain ⟨P, hP⟩ : ∃ P : aO → aH → Prop, P = QV (fun σ1 => Fr AL σ σ1 ∧ (1 ≤ rI σ1 76 25 ∧ rI σ1 76 25 ≤ 65) ∧ PcP (rI σ1) (rI σ1 76 25) 1440 fr K du Er) := ⟨_, rfl⟩
  rw [← hP]
  have nA : ∀ (a : Nat) (i : Int), a < 190 → a ≠ 76 → ¬ AL a i := fun a i p q => by show ¬ ((a = 76 ∧ i = 25) ∨ (190 ≤ a ∧ a ≤ 259)); omega
  have keep : ∀ τ : aH, Fr AL σ τ → rI τ 80 6 = K ∧ (∀ i : Int, 0 ≤ i → i < K → rI τ (122 + i.toNat) 0 = fr i) ∧ rI τ 80 7 = Kq ∧ (∀ i : Int, 0 ≤ i → i < Kq → rI τ (164 + i.toNat) 0 = fq i ∧ rI τ (164 + i.toNat) 1 = va i) ∧ rI τ 80 4 = du := by
    intro τ hF
    refine ⟨(hF.rw (by omega) (nA _ _ (by omega) (by omega))).trans hK, fun i i0 i1 => (hF.rw (by omega) (nA _ _ (by omega) (by omega))).trans (hfr i i0 i1), (hF.rw (by omega) (nA _ _ (by omega) (by omega))).trans hKq, fun i i0 i1 => ?_, (hF.rw (by omega) (nA _ _ (by omega) (by omega))).trans hdu⟩
    rw [hF.rw (by omega) (nA _ _ (by omega) (by omega)), hF.rw (by omega) (nA _ _ (by omega) (by omega))]
    exact hfq i i0 i1
  have loop : ∀ (f : Nat) (t : Int) (τ : aH), (1440 - t).toNat = f → 0 ≤ t → t ≤ 1440 → Fr AL σ τ → 0 ≤ rI τ 76 25 → (t < 1440 → rI τ 76 25 + lft fr fq K Kq du t ≤ 64) → (t = 1440 → 1 ≤ rI τ 76 25 ∧ rI τ 76 25 ≤ 65) → (rI τ 76 25 = 0 → t = 0) → PcP (rI τ) (rI τ 76 25) t fr K du Er → L_X10_laysPieces_7 (Ev sc (d + 1)) sc P t τ := by
    intro f
    induction f using Nat.strongRecOn with
    | ind f ih =>
      intro t τ hf t0 t1 hF hp0 hp1 hp2 hp3 hPc
      have hG1 := hF.gk hG
      apply vk_X10_laysPieces_7 hG1 (by omega)
      by_cases c : 1440 ≤ t
      · refine ⟨fun _ => ?_, fun q => absurd c q⟩
        have e : t = 1440 := by omega
        rw [e] at hPc
        rw [hP]
        exact ⟨rfl, hF, hp2 e, hPc⟩
      · refine ⟨fun q => absurd q c, fun _ => ?_⟩
        have hl := lft_bd (fr := fr) (fq := fq) (du := du) hb hbq ⟨t0, show t < 1440 by omega⟩
        have hp := hp1 (by omega)
        obtain ⟨p, ep⟩ : ∃ p : Int, p = rI τ 76 25 := ⟨_, rfl⟩
        rw [← ep] at hp0 hp hp3 hPc hp2 ⊢
        have row : ∀ i : Int, AL (190 + p.toNat) i := fun i => Or.inr ⟨by omega, by omega⟩
        refine ⟨by omega, fun σ2 e2 => ?_⟩
        have hF2 : Fr AL σ σ2 := by rw [← e2]; exact hF.trans (Fr.w (by omega) (row _))
        have p2 : rI σ2 76 25 = p := by rw [← e2, rI_wa (by omega)]; exact ep.symm
        rw [p2]
        obtain ⟨a1, a2, a3, a4, a5⟩ := keep σ2 hF2
        obtain ⟨r10, σ6, he6, hr6, e6, h6⟩ := mk_change (sc := sc) (d := d) (t := t) (hF2.gk hG) a1 hb a2 a3 hbq (fun i i0 i1 => (a4 i i0 i1).1) a5 ⟨t0, by omega⟩
        subst e6
        refine ⟨by omega, r10, σ6, he6, hF2.gk hG, hr6, fun σ11 e11 => ?_⟩
        have hF11 : Fr AL σ σ11 := by rw [← e11]; exact hF2.trans (Fr.w (by omega) (row _))
        have p11 : rI σ11 76 25 = p := by rw [← e11, rI_wa (by omega)]; exact p2
        rw [p11]
        obtain ⟨b1, b2, b3, b4, b5⟩ := keep σ11 hF11
        obtain ⟨r19, σ15, he15, hr15, e15, h15, hb15⟩ := mk_sunAt (sc := sc) (d := d) (t := t) (hF11.gk hG) b1 hb b2 (by omega)
        subst e15
        refine ⟨by omega, r19, σ15, he15, hF11.gk hG, hr15, fun σ20 e20 => ?_⟩
        have hF20 : Fr AL σ σ20 := by rw [← e20]; exact hF11.trans (Fr.w (by omega) (row _))
        have p20 : rI σ20 76 25 = p := by rw [← e20, rI_wa (by omega)]; exact p11
        rw [p20]
        obtain ⟨c1, c2, c3, c4, c5⟩ := keep σ20 hF20
        obtain ⟨r28, σ24, he24, hr24, e24, qq, hq1, hq2, hq3⟩ := mk_rateAt (sc := sc) (d := d) (t := t) (hF20.gk hG) c3 hbq (fun i i0 i1 => (c4 i i0 i1).1) (by omega)
        subst e24
        have hrate : ∀ s : Int, t ≤ s → s < r10 → aT Er 1 s = r28 := by
          intro s s0 s1
          have hls := hq1.stay h6.2.2.1 s0 s1
          rcases hls.at hU (by omega) 1 with ⟨z1, z2, -⟩ | ⟨z1, z2, -⟩
          · rw [z2, hq2 z1]
          · rw [z2, hq3 (by omega)]; exact (c4 qq z1.1 z1.2).2.symm
        refine ⟨by omega, r28, σ24, he24, hF20.gk hG, hr24, fun σ29 e29 => ?_⟩
        have hF29 : Fr AL σ σ29 := by rw [← e29]; exact hF20.trans (Fr.w (by omega) (row _))
        have p29 : rI σ29 76 25 = p := by rw [← e29, rI_wa (by omega)]; exact p20
        rw [p29]
        refine ⟨by omega, fun σ33 e33 => ?_⟩
        have hF33 : Fr AL σ σ33 := by rw [← e33]; exact hF29.trans (Fr.w (by omega) (Or.inl ⟨rfl, rfl⟩))
        have p33 : rI σ33 76 25 = p + 1 := by rw [← e33]; exact rI_ww (by omega)
        obtain ⟨d1, d2, d3, d4, d5⟩ := keep σ33 hF33
        obtain ⟨r40, σ36, he36, hr36, e36, h36⟩ := mk_change (sc := sc) (d := d) (t := t) (hF33.gk hG) d1 hb d2 d3 hbq (fun i i0 i1 => (d4 i i0 i1).1) d5 ⟨t0, by omega⟩
        subst e36
        have er : r40 = r10 := h36.uniq h6
        refine ⟨r40, σ36, he36, hF33.gk hG, hr36, ?_⟩
        rw [er]
        have h61 := h6.1
        -- the new row and the old ones
        have f0 : rI σ36 (190 + p.toNat) 0 = t := by rw [← e33, rI_wa (by omega), ← e29, rI_wi (by decide), ← e20, rI_wi (by decide), ← e11, rI_wi (by decide), ← e2]; exact rI_ww (by omega)
        have f1 : rI σ36 (190 + p.toNat) 1 = r10 := by rw [← e33, rI_wa (by omega), ← e29, rI_wi (by decide), ← e20, rI_wi (by decide), ← e11]; exact rI_ww hr6
        have f2 : rI σ36 (190 + p.toNat) 2 = r19 := by rw [← e33, rI_wa (by omega), ← e29, rI_wi (by decide), ← e20]; exact rI_ww hr15
        have f3 : rI σ36 (190 + p.toNat) 3 = r28 := by rw [← e33, rI_wa (by omega), ← e29]; exact rI_ww hr24
        have fo : ∀ (q : Int) (i : Int), 0 ≤ q → q < p → rI σ36 (190 + q.toNat) i = rI τ (190 + q.toNat) i := fun q i q0 q1 => by
          rw [← e33, rI_wa (by omega), ← e29, rI_wa (by omega), ← e20, rI_wa (by omega), ← e11, rI_wa (by omega), ← e2, rI_wa (by omega)]
        refine ih (1440 - r10).toNat (by omega) r10 σ36 rfl (by omega) (by omega) hF33 (by omega) (fun z => ?_) (fun z => by omega) (fun z => by omega) ?_
        · have := lft_drop (fr := fr) (fq := fq) (K := K) (Kq := Kq) (du := du) t0 h6 z
          omega
        · rw [p33]
          intro q q0 q1
          by_cases z : q = p
          · rw [z, f0, f1, f2, f3]
            refine ⟨⟨⟨by omega, by omega⟩, by omega, by omega⟩, fun z1 => hp3 z1, fun z1 => by omega, fun _ => rfl, fun s s0 s1 => ⟨h15.stay h6.2.1 s0 s1, hrate s s0 s1, ?_⟩⟩
            have := h6.2.2.2.1
            omega
          · have old := hPc q q0 (by omega)
            rw [fo q 0 q0 (by omega), fo q 1 q0 (by omega), fo q 2 q0 (by omega), fo q 3 q0 (by omega)]
            refine ⟨old.1, old.2.1, fun z1 => ?_, fun z1 => by omega, old.2.2.2.2⟩
            by_cases z2 : q + 1 = p
            · rw [z2, f0]; exact (old.2.2.2.1 z2).symm
            · rw [fo (q + 1) 0 (by omega) (by omega)]; exact old.2.2.1 (by omega)
  have hl := lft_bd (fr := fr) (fq := fq) (du := du) (t := 0) hb hbq (by omega)
  have p1 : rI σ1 76 25 = 0 := by rw [← e1]; exact rI_ww (by decide)
  refine loop _ 0 σ1 rfl (by omega) (by omega) (by rw [← e1]; exact Fr.w (by omega) (Or.inl ⟨rfl, rfl⟩)) (by omega) (fun _ => by omega) (fun z => by omega) (fun _ => rfl) ?_
  rw [p1]
  exact fun q a b => by omega
end
/-! THE REFERENCE: what has been read stands. -/
section
variable {C : aM → List Value → aH → aO → aH → Prop} {sc : Nat × (Nat → Int32)} {P : aO → aH → Prop} {d : Nat} {σ : aH} {u : Nat} {n : Int}
theorem mk_stT (hG : Gk σ u) (next : ∀ τ : aH, Fr (fun a _ => a = 80) σ τ → (∀ i : Int, 0 ≤ i → i < 8 → rI τ 80 i = rI σ 79 i) → L_X10_stands_28 C sc P 0 τ) : L_X10_stands_2 C sc P 0 σ := by
  have loop : ∀ (f : Nat) (k : Int) (τ : aH), (8 - k).toNat = f → 0 ≤ k → k ≤ 8 → Fr (fun a _ => a = 80) σ τ → (∀ i : Int, 0 ≤ i → i < k → rI τ 80 i = rI σ 79 i) → L_X10_stands_2 C sc P k τ := by
    intro f
    induction f with
    | zero =>
      intro k τ hf k0 k8 hF hk
      apply vk_X10_stands_2 (hF.gk hG) (by omega)
      exact ⟨fun _ => next τ hF (fun i a b => hk i a (by omega)), fun q => by omega⟩
    | succ f ih =>
      intro k τ hf k0 k8 hF hk
      apply vk_X10_stands_2 (hF.gk hG) (by omega)
      refine ⟨fun q => by omega, fun _ => ⟨by omega, by omega, fun σ1 e1 => ⟨by omega, ih (k + 1) σ1 (by omega) (by omega) (by omega) ?_ (fun i i0 i1 => ?_)⟩⟩⟩
      · rw [← e1]; exact hF.trans (Fr.w k0 rfl)
      · rw [← e1]
        by_cases c : i = k
        · rw [c, rI_ww (rI_R _ _ _)]; exact hF.rw k0 (by show ¬ 79 = 80; decide)
        · rw [rI_wi (by omega)]; exact hk i i0 (by omega)
  exact loop _ 0 σ rfl (by decide) (by decide) (Fr.refl _ _) (fun i a b => by omega)
theorem mk_stA (hG : Gk σ u) (hn : rI σ 80 2 = n) (h9 : 0 ≤ n ∧ n ≤ 8) (next : ∀ τ : aH, Fr (fun a _ => 91 ≤ a ∧ a ≤ 98) σ τ → (∀ q f : Int, 0 ≤ q → q < n → 0 ≤ f → f < 7 → rI τ (91 + q.toNat) f = rI σ (82 + q.toNat) f) → L_X10_stands_76 C sc P 0 τ) : L_X10_stands_28 C sc P 0 σ := by
  have outer : ∀ (g : Nat) (s : Int) (τ : aH), (n - s).toNat = g → 0 ≤ s → s ≤ n → Fr (fun a _ => 91 ≤ a ∧ a ≤ 98) σ τ → (∀ q f : Int, 0 ≤ q → q < s → 0 ≤ f → f < 7 → rI τ (91 + q.toNat) f = rI σ (82 + q.toNat) f) → L_X10_stands_28 C sc P s τ := by
    intro g
    induction g with
    | zero =>
      intro s τ hg s0 s1 hF hq
      have e80 : rI τ 80 2 = n := (hF.rw (by decide) (by show ¬ (91 ≤ 80 ∧ 80 ≤ 98); omega)).trans hn
      apply vk_X10_stands_28 (hF.gk hG) (by omega)
      rw [e80]
      exact ⟨fun _ => next τ hF (fun q f a b => hq q f a (by omega)), fun z => by omega⟩
    | succ g ih =>
      intro s τ hg s0 s1 hF hq
      have e80 : rI τ 80 2 = n := (hF.rw (by decide) (by show ¬ (91 ≤ 80 ∧ 80 ≤ 98); omega)).trans hn
      apply vk_X10_stands_28 (hF.gk hG) (by omega)
      rw [e80]
      refine ⟨fun z => by omega, fun _ => ?_⟩
      have inner : ∀ (g2 : Nat) (i : Int) (ρ : aH), (7 - i).toNat = g2 → 0 ≤ i → i ≤ 7 → Fr (fun a _ => 91 ≤ a ∧ a ≤ 98) σ ρ → (∀ q f : Int, 0 ≤ q → 0 ≤ f → f < 7 → (q < s ∨ (q = s ∧ f < i)) → rI ρ (91 + q.toNat) f = rI σ (82 + q.toNat) f) → L_X10_stands_40 C sc P s i ρ := by
        intro g2
        induction g2 with
        | zero =>
          intro i ρ hg2 i0 i1 hR hr
          apply vk_X10_stands_40 (hR.gk hG) (by omega) (by omega)
          exact ⟨fun _ => ⟨by omega, ih (s + 1) ρ (by omega) (by omega) (by omega) hR (fun q f a b c e => hr q f a c e (by omega))⟩, fun z => by omega⟩
        | succ g2 ih2 =>
          intro i ρ hg2 i0 i1 hR hr
          apply vk_X10_stands_40 (hR.gk hG) (by omega) (by omega)
          refine ⟨fun z => by omega, fun _ => ⟨by omega, by omega, by omega, by omega, fun σ4 e4 => ⟨by omega, ih2 (i + 1) σ4 (by omega) (by omega) (by omega) ?_ (fun q f q0 f0 f1 hc => ?_)⟩⟩⟩
          · rw [← e4]; exact hR.trans (Fr.w i0 (by show 91 ≤ 91 + s.toNat ∧ 91 + s.toNat ≤ 98; omega))
          · rw [← e4]
            by_cases c : q = s ∧ f = i
            · rw [c.1, c.2, rI_ww (rI_R _ _ _)]
              exact hR.rw i0 (by show ¬ (91 ≤ 82 + s.toNat ∧ 82 + s.toNat ≤ 98); omega)
            · rw [rI_w (rI_R _ _ _), if_neg (by omega)]
              exact hr q f q0 f0 f1 (by omega)
      exact inner _ 0 τ rfl (by decide) (by decide) hF (fun q f a b c e => hq q f a (by omega) b c)
  exact outer _ 0 σ rfl (by decide) h9.1 (Fr.refl _ _) (fun q f a b => by omega)
theorem mk_stB (hG : Gk σ u) (hn : rI σ 80 6 = n) (h9 : 0 ≤ n ∧ n ≤ 20) (next : ∀ τ : aH, Fr (fun a _ => 122 ≤ a ∧ a ≤ 141) σ τ → (∀ q f : Int, 0 ≤ q → q < n → 0 ≤ f → f < 4 → rI τ (122 + q.toNat) f = rI σ (101 + q.toNat) f) → L_X10_stands_124 C sc P 0 τ) : L_X10_stands_76 C sc P 0 σ := by
  have outer : ∀ (g : Nat) (s : Int) (τ : aH), (n - s).toNat = g → 0 ≤ s → s ≤ n → Fr (fun a _ => 122 ≤ a ∧ a ≤ 141) σ τ → (∀ q f : Int, 0 ≤ q → q < s → 0 ≤ f → f < 4 → rI τ (122 + q.toNat) f = rI σ (101 + q.toNat) f) → L_X10_stands_76 C sc P s τ := by
    intro g
    induction g with
    | zero =>
      intro s τ hg s0 s1 hF hq
      have e80 : rI τ 80 6 = n := (hF.rw (by decide) (by show ¬ (122 ≤ 80 ∧ 80 ≤ 141); omega)).trans hn
      apply vk_X10_stands_76 (hF.gk hG) (by omega)
      rw [e80]
      exact ⟨fun _ => next τ hF (fun q f a b => hq q f a (by omega)), fun z => by omega⟩
    | succ g ih =>
      intro s τ hg s0 s1 hF hq
      have e80 : rI τ 80 6 = n := (hF.rw (by decide) (by show ¬ (122 ≤ 80 ∧ 80 ≤ 141); omega)).trans hn
      apply vk_X10_stands_76 (hF.gk hG) (by omega)
      rw [e80]
      refine ⟨fun z => by omega, fun _ => ?_⟩
      have inner : ∀ (g2 : Nat) (i : Int) (ρ : aH), (4 - i).toNat = g2 → 0 ≤ i → i ≤ 4 → Fr (fun a _ => 122 ≤ a ∧ a ≤ 141) σ ρ → (∀ q f : Int, 0 ≤ q → 0 ≤ f → f < 4 → (q < s ∨ (q = s ∧ f < i)) → rI ρ (122 + q.toNat) f = rI σ (101 + q.toNat) f) → L_X10_stands_89 C sc P s i ρ := by
        intro g2
        induction g2 with
        | zero =>
          intro i ρ hg2 i0 i1 hR hr
          apply vk_X10_stands_89 (hR.gk hG) (by omega) (by omega)
          exact ⟨fun _ => ⟨by omega, ih (s + 1) ρ (by omega) (by omega) (by omega) hR (fun q f a b c e => hr q f a c e (by omega))⟩, fun z => by omega⟩
        | succ g2 ih2 =>
          intro i ρ hg2 i0 i1 hR hr
          apply vk_X10_stands_89 (hR.gk hG) (by omega) (by omega)
          refine ⟨fun z => by omega, fun _ => ⟨by omega, by omega, by omega, by omega, fun σ4 e4 => ⟨by omega, ih2 (i + 1) σ4 (by omega) (by omega) (by omega) ?_ (fun q f q0 f0 f1 hc => ?_)⟩⟩⟩
          · rw [← e4]; exact hR.trans (Fr.w i0 (by show 122 ≤ 122 + s.toNat ∧ 122 + s.toNat ≤ 141; omega))
          · rw [← e4]
            by_cases c : q = s ∧ f = i
            · rw [c.1, c.2, rI_ww (rI_R _ _ _)]
              exact hR.rw i0 (by show ¬ (122 ≤ 101 + s.toNat ∧ 101 + s.toNat ≤ 141); omega)
            · rw [rI_w (rI_R _ _ _), if_neg (by omega)]
              exact hr q f q0 f0 f1 (by omega)
      exact inner _ 0 τ rfl (by decide) (by decide) hF (fun q f a b c e => hq q f a (by omega) b c)
  exact outer _ 0 σ rfl (by decide) h9.1 (Fr.refl _ _) (fun q f a b => by omega)
theorem mk_stC (hG : Gk σ u) (hn : rI σ 80 7 = n) (h9 : 0 ≤ n ∧ n ≤ 20) (next : ∀ τ : aH, Fr (fun a _ => 164 ≤ a ∧ a ≤ 183) σ τ → (∀ q f : Int, 0 ≤ q → q < n → 0 ≤ f → f < 2 → rI τ (164 + q.toNat) f = rI σ (143 + q.toNat) f) → L_X10_stands_172 C sc P 0 τ) : L_X10_stands_124 C sc P 0 σ := by
  have outer : ∀ (g : Nat) (s : Int) (τ : aH), (n - s).toNat = g → 0 ≤ s → s ≤ n → Fr (fun a _ => 164 ≤ a ∧ a ≤ 183) σ τ → (∀ q f : Int, 0 ≤ q → q < s → 0 ≤ f → f < 2 → rI τ (164 + q.toNat) f = rI σ (143 + q.toNat) f) → L_X10_stands_124 C sc P s τ := by
    intro g
    induction g with
    | zero =>
      intro s τ hg s0 s1 hF hq
      have e80 : rI τ 80 7 = n := (hF.rw (by decide) (by show ¬ (164 ≤ 80 ∧ 80 ≤ 183); omega)).trans hn
      apply vk_X10_stands_124 (hF.gk hG) (by omega)
      rw [e80]
      exact ⟨fun _ => next τ hF (fun q f a b => hq q f a (by omega)), fun z => by omega⟩
    | succ g ih =>
      intro s τ hg s0 s1 hF hq
      have e80 : rI τ 80 7 = n := (hF.rw (by decide) (by show ¬ (164 ≤ 80 ∧ 80 ≤ 183); omega)).trans hn
      apply vk_X10_stands_124 (hF.gk hG) (by omega)
      rw [e80]
      refine ⟨fun z => by omega, fun _ => ?_⟩
      have inner : ∀ (g2 : Nat) (i : Int) (ρ : aH), (2 - i).toNat = g2 → 0 ≤ i → i ≤ 2 → Fr (fun a _ => 164 ≤ a ∧ a ≤ 183) σ ρ → (∀ q f : Int, 0 ≤ q → 0 ≤ f → f < 2 → (q < s ∨ (q = s ∧ f < i)) → rI ρ (164 + q.toNat) f = rI σ (143 + q.toNat) f) → L_X10_stands_137 C sc P s i ρ := by
        intro g2
        induction g2 with
        | zero =>
          intro i ρ hg2 i0 i1 hR hr
          apply vk_X10_stands_137 (hR.gk hG) (by omega) (by omega)
          exact ⟨fun _ => ⟨by omega, ih (s + 1) ρ (by omega) (by omega) (by omega) hR (fun q f a b c e => hr q f a c e (by omega))⟩, fun z => by omega⟩
        | succ g2 ih2 =>
          intro i ρ hg2 i0 i1 hR hr
          apply vk_X10_stands_137 (hR.gk hG) (by omega) (by omega)
          refine ⟨fun z => by omega, fun _ => ⟨by omega, by omega, by omega, by omega, fun σ4 e4 => ⟨by omega, ih2 (i + 1) σ4 (by omega) (by omega) (by omega) ?_ (fun q f q0 f0 f1 hc => ?_)⟩⟩⟩
          · rw [← e4]; exact hR.trans (Fr.w i0 (by show 164 ≤ 164 + s.toNat ∧ 164 + s.toNat ≤ 183; omega))
          · rw [← e4]
            by_cases c : q = s ∧ f = i
            · rw [c.1, c.2, rI_ww (rI_R _ _ _)]
              exact hR.rw i0 (by show ¬ (164 ≤ 143 + s.toNat ∧ 143 + s.toNat ≤ 183); omega)
            · rw [rI_w (rI_R _ _ _), if_neg (by omega)]
              exact hr q f q0 f0 f1 (by omega)
      exact inner _ 0 τ rfl (by decide) (by decide) hF (fun q f a b c e => hq q f a (by omega) b c)
  exact outer _ 0 σ rfl (by decide) h9.1 (Fr.refl _ _) (fun q f a b => by omega)
theorem mk_stD (hG : Gk σ u) (next : ∀ τ : aH, Fr (fun a _ => a = 184) σ τ → (∀ i : Int, 0 ≤ i → i < 8 → rI τ 184 i = -1) → L_X10_stands_172 C sc P 8 τ) : L_X10_stands_172 C sc P 0 σ := by
  have loop : ∀ (f : Nat) (k : Int) (τ : aH), (8 - k).toNat = f → 0 ≤ k → k ≤ 8 → Fr (fun a _ => a = 184) σ τ → (∀ i : Int, 0 ≤ i → i < k → rI τ 184 i = -1) → L_X10_stands_172 C sc P k τ := by
    intro f
    induction f with
    | zero =>
      intro k τ hf k0 k8 hF hk
      rw [show k = 8 by omega]
      exact next τ hF (fun i a b => hk i a (by omega))
    | succ f ih =>
      intro k τ hf k0 k8 hF hk
      apply vk_X10_stands_172 (hF.gk hG) (by omega)
      refine ⟨fun q => by omega, fun _ => ⟨by omega, fun σ1 e1 => ⟨by omega, ih (k + 1) σ1 (by omega) (by omega) (by omega) ?_ (fun i i0 i1 => ?_)⟩⟩⟩
      · rw [← e1]; exact hF.trans (Fr.w k0 rfl)
      · rw [← e1]
        by_cases c : i = k
        · rw [c, rI_ww (by decide)]
        · rw [rI_wi (by omega)]; exact hk i i0 (by omega)
  exact loop _ 0 σ rfl (by decide) (by decide) (Fr.refl _ _) (fun i a b => by omega)
theorem mk_stands {Es Er : Nat → Option Int} (hG : Gk σ u) (hn : rI σ 79 2 = n) (h8 : 0 ≤ n ∧ n ≤ 8) (hS : SunR (rI σ) 101 79 Es) (hR : RatR (rI σ) 143 79 Er) : TV sc (d + 3) mX10_stands [.ref 76] σ (fun σ1 => Fr ASd σ σ1 ∧ SdS (rI σ) (rI σ1) n Es Er) := by
  apply T.void
  apply tk_X10_stands hG
  obtain ⟨P, hP⟩ : ∃ P : aO → aH → Prop, P = QV (fun σ1 => Fr ASd σ σ1 ∧ SdS (rI σ) (rI σ1) n Es Er) := ⟨_, rfl⟩
  rw [← hP]
  have b6 := hS.1.1
  have b7 := hR.1.1
  refine mk_stT hG (fun τ1 F1 q1 => ?_)
  have G1 := F1.gk hG
  refine mk_stA G1 ((q1 2 (by decide) (by decide)).trans hn) h8 (fun τ2 F2 q2 => ?_)
  have G2 := F2.gk G1
  have r2 : ∀ i : Int, 0 ≤ i → i < 8 → rI τ2 80 i = rI σ 79 i := fun i a b => (F2.rw a (by show ¬ (91 ≤ 80 ∧ 80 ≤ 98); omega)).trans (q1 i a b)
  refine mk_stB G2 (r2 6 (by decide) (by decide)) b6 (fun τ3 F3 q3 => ?_)
  have G3 := F3.gk G2
  have r3 : ∀ i : Int, 0 ≤ i → i < 8 → rI τ3 80 i = rI σ 79 i := fun i a b => (F3.rw a (by show ¬ (122 ≤ 80 ∧ 80 ≤ 141); omega)).trans (r2 i a b)
  refine mk_stC G3 (r3 7 (by decide) (by decide)) b7 (fun τ4 F4 q4 => ?_)
  have G4 := F4.gk G3
  refine mk_stD G4 (fun τ5 F5 q5 => ?_)
  have G5 := F5.gk G4
  -- all before the end
  have W1 : Fr ASd σ τ1 := F1.weak (fun a i z => Or.inl z)
  have W2 : Fr ASd σ τ2 := W1.trans (F2.weak (fun a i z => Or.inr (Or.inl z)))
  have W3 : Fr ASd σ τ3 := W2.trans (F3.weak (fun a i z => Or.inr (Or.inr (Or.inl z))))
  have W4 : Fr ASd σ τ4 := W3.trans (F4.weak (fun a i z => Or.inr (Or.inr (Or.inr (Or.inl ⟨z.1, by have := z.2; omega⟩)))))
  have W5 : Fr ASd σ τ5 := W4.trans (F5.weak (fun a i z => Or.inr (Or.inr (Or.inr (Or.inl (by have z2 : a = 184 := z; omega))))))
  have k80 : ∀ i : Int, 0 ≤ i → i < 8 → rI τ5 80 i = rI σ 79 i := fun i a b => (F5.rw a (by show ¬ 80 = 184; decide)).trans ((F4.rw a (by show ¬ (164 ≤ 80 ∧ 80 ≤ 183); omega)).trans (r3 i a b))
  have kA : ∀ s f : Int, 0 ≤ s → s < n → 0 ≤ f → f < 7 → rI τ5 (91 + s.toNat) f = rI σ (82 + s.toNat) f := fun s f s0 s1 f0 f1 => by
    rw [F5.rw f0 (by show ¬ 91 + s.toNat = 184; omega), F4.rw f0 (by show ¬ (164 ≤ 91 + s.toNat ∧ 91 + s.toNat ≤ 183); omega), F3.rw f0 (by show ¬ (122 ≤ 91 + s.toNat ∧ 91 + s.toNat ≤ 141); omega), q2 s f s0 s1 f0 f1]
    exact F1.rw f0 (by show ¬ 82 + s.toNat = 80; omega)
  have kB : ∀ s f : Int, 0 ≤ s → s < rI σ 79 6 → 0 ≤ f → f < 4 → rI τ5 (122 + s.toNat) f = rI σ (101 + s.toNat) f := fun s f s0 s1 f0 f1 => by
    rw [F5.rw f0 (by show ¬ 122 + s.toNat = 184; omega), F4.rw f0 (by show ¬ (164 ≤ 122 + s.toNat ∧ 122 + s.toNat ≤ 183); omega), q3 s f s0 s1 f0 f1, F2.rw f0 (by show ¬ (91 ≤ 101 + s.toNat ∧ 101 + s.toNat ≤ 98); omega)]
    exact F1.rw f0 (by show ¬ 101 + s.toNat = 80; omega)
  have kC : ∀ s f : Int, 0 ≤ s → s < rI σ 79 7 → 0 ≤ f → f < 2 → rI τ5 (164 + s.toNat) f = rI σ (143 + s.toNat) f := fun s f s0 s1 f0 f1 => by
    rw [F5.rw f0 (by show ¬ 164 + s.toNat = 184; omega), q4 s f s0 s1 f0 f1, F3.rw f0 (by show ¬ (122 ≤ 143 + s.toNat ∧ 143 + s.toNat ≤ 141); omega), F2.rw f0 (by show ¬ (91 ≤ 143 + s.toNat ∧ 143 + s.toNat ≤ 98); omega)]
    exact F1.rw f0 (by show ¬ 143 + s.toNat = 80; omega)
  apply vk_X10_stands_172 G5 (by decide)
  refine ⟨fun _ => ?_, fun q => absurd (show (8 : Int) ≤ 8 by decide) q⟩
  intro σ1 e1 σ4 e4 σ7 e7 σ10 e10 σ13 e13 σ16 e16
  have m76 : ∀ i : Int, (i = 18 ∨ i = 19 ∨ i = 20 ∨ i = 21 ∨ i = 25 ∨ i = 27 ∨ i = 28) → ASd 76 i := fun i z => Or.inr (Or.inr (Or.inr (Or.inr (Or.inr ⟨rfl, z⟩))))
  have F16 : Fr (fun a i => a = 76 ∧ (i = 18 ∨ i = 19 ∨ i = 20 ∨ i = 21 ∨ i = 27 ∨ i = 28)) τ5 σ16 := by
    rw [← e16, ← e13, ← e10, ← e7, ← e4, ← e1]
    exact (((((Fr.w (by decide) ⟨rfl, by omega⟩).trans (Fr.w (by decide) ⟨rfl, by omega⟩)).trans (Fr.w (by decide) ⟨rfl, by omega⟩)).trans (Fr.w (by decide) ⟨rfl, by omega⟩)).trans (Fr.w (by decide) ⟨rfl, by omega⟩)).trans (Fr.w (by decide) ⟨rfl, by omega⟩)
  have a80 : rI σ13 80 2 = n := by
    rw [← e13, rI_wa (by decide), ← e10, rI_wa (by decide), ← e7, rI_wa (by decide), ← e4, rI_wa (by decide), ← e1, rI_wa (by decide), k80 2 (by decide) (by decide)]; exact hn
  rw [a80] at e16
  have v16 : rI σ16 76 18 = 0 ∧ rI σ16 76 19 = 0 ∧ rI σ16 76 20 = 0 ∧ rI σ16 76 21 = 0 ∧ rI σ16 76 27 = 0 ∧ rI σ16 76 28 = n := by
    rw [← e16, ← e13, ← e10, ← e7, ← e4, ← e1]
    refine ⟨?_, ?_, ?_, ?_, ?_, ?_⟩
    all_goals repeat (first | rw [rI_ww (by first | decide | omega)] | rw [rI_wi (by decide)])
  have G16 := F16.gk G5
  have o16 : ∀ (a : Nat) (i : Int), 0 ≤ i → a ≠ 76 → rI σ16 a i = rI τ5 a i := fun a i p z => F16.rw p (fun w => z w.1)
  obtain ⟨σ19, he19, F19, p1, p2⟩ := mk_laysPieces (sc := sc) (d := d) (fr := fun k => rI σ (101 + k.toNat) 0) (fq := fun k => rI σ (143 + k.toNat) 0) (va := fun k => rI σ (143 + k.toNat) 1) (K := rI σ 79 6) (Kq := rI σ 79 7) (du := rI σ 79 4) (Er := Er) G16 ((o16 80 6 (by decide) (by decide)).trans (k80 6 (by decide) (by decide))) b6 (fun i i0 i1 => (o16 _ _ (by decide) (by omega)).trans (kB i 0 i0 i1 (by decide) (by decide))) ((o16 80 7 (by decide) (by decide)).trans (k80 7 (by decide) (by decide))) (fun i i0 i1 => ⟨(o16 _ _ (by decide) (by omega)).trans (kC i 0 i0 i1 (by decide) (by decide)), (o16 _ _ (by decide) (by omega)).trans (kC i 1 i0 i1 (by decide) (by decide))⟩) hR.1 ((o16 80 4 (by decide) (by decide)).trans (k80 4 (by decide) (by decide)))
  refine ⟨σ19, he19, F19.gk G16, ?_⟩
  rw [hP]
  have o19 : ∀ (a : Nat) (i : Int), 0 ≤ i → a ≠ 76 → (a < 190 ∨ 259 < a) → rI σ19 a i = rI τ5 a i := fun a i p z z2 => (F19.rw p (by show ¬ ((a = 76 ∧ i = 25) ∨ (190 ≤ a ∧ a ≤ 259)); omega)).trans (o16 a i p z)
  have t19 : ∀ i : Int, 0 ≤ i → i ≠ 25 → rI σ19 76 i = rI σ16 76 i := fun i p z => F19.rw p (by show ¬ ((76 = 76 ∧ i = 25) ∨ (190 ≤ 76 ∧ 76 ≤ 259)); omega)
  have m80 : ∀ i : Int, 0 ≤ i → i < 8 → rI σ19 80 i = rI σ 79 i := fun i a b => (o19 80 i a (by decide) (by decide)).trans (k80 i a b)
  have mB : ∀ s f : Int, 0 ≤ s → s < rI σ 79 6 → 0 ≤ f → f < 4 → rI σ19 (122 + s.toNat) f = rI σ (101 + s.toNat) f := fun s f s0 s1 f0 f1 => (o19 _ _ f0 (by omega) (by omega)).trans (kB s f s0 s1 f0 f1)
  have mC : ∀ s f : Int, 0 ≤ s → s < rI σ 79 7 → 0 ≤ f → f < 2 → rI σ19 (164 + s.toNat) f = rI σ (143 + s.toNat) f := fun s f s0 s1 f0 f1 => (o19 _ _ f0 (by omega) (by omega)).trans (kC s f s0 s1 f0 f1)
  refine ⟨rfl, ?_, m80, fun s f s0 s1 f0 f1 => (o19 _ _ f0 (by omega) (by omega)).trans (kA s f s0 s1 f0 f1), fun i i0 i1 => (o19 184 i i0 (by decide) (by decide)).trans (q5 i i0 i1), ?_, ?_, ?_, p1, ?_⟩
  · refine (W5.trans (F16.weak (fun a i z => ?_))).trans (F19.weak (fun a i z => ?_))
    · have z1 := z.1
      subst z1
      exact m76 i (by have := z.2; omega)
    · rcases z with z | z
      · have z1 := z.1
        subst z1
        exact m76 i (by have := z.2; omega)
      · exact Or.inr (Or.inr (Or.inr (Or.inr (Or.inl z))))
  · obtain ⟨x1, x2, x3, x4, x5, x6⟩ := v16
    exact ⟨(t19 _ (by decide) (by decide)).trans x1, (t19 _ (by decide) (by decide)).trans x2, (t19 _ (by decide) (by decide)).trans x3, (t19 _ (by decide) (by decide)).trans x4, (t19 _ (by decide) (by decide)).trans x5, (t19 _ (by decide) (by decide)).trans x6⟩
  · unfold SunR
    rw [m80 6 (by decide) (by decide)]
    refine ⟨hS.1.cg (fun i i0 i1 => ?_), fun k k0 k1 => ?_⟩
    · unfold sunV
      rw [mB i 0 i0 i1 (by decide) (by decide), mB i 1 i0 i1 (by decide) (by decide), mB i 2 i0 i1 (by decide) (by decide), mB i 3 i0 i1 (by decide) (by decide)]
      exact ⟨rfl, rfl⟩
    · rw [mB k 1 k0 k1 (by decide) (by decide), mB k 2 k0 k1 (by decide) (by decide), mB k 3 k0 k1 (by decide) (by decide)]
      exact hS.2 k k0 k1
  · unfold RatR
    rw [m80 7 (by decide) (by decide)]
    refine ⟨hR.1.cg (fun i i0 i1 => ?_), fun k k0 k1 => ?_⟩
    · rw [mC i 0 i0 i1 (by decide) (by decide), mC i 1 i0 i1 (by decide) (by decide)]
      exact ⟨rfl, rfl⟩
    · rw [mC k 1 k0 k1 (by decide) (by decide)]
      exact hR.2 k k0 k1
  · rw [m80 6 (by decide) (by decide), m80 4 (by decide) (by decide)]
    intro q q0 q1
    obtain ⟨y1, y2, y3, y4, y5⟩ := p2 q q0 q1
    refine ⟨y1, y2, y3, y4, fun t t0 t1 => ?_⟩
    obtain ⟨z1, z2⟩ := y5 t t0 t1
    refine ⟨?_, z2⟩
    rcases z1 with ⟨r1, r2⟩ | ⟨r1, r2, r3⟩
    · exact Or.inl ⟨r1, fun i i0 i1 => by dsimp only; rw [mB i 0 i0 i1 (by decide) (by decide)]; exact r2 i i0 i1⟩
    · refine Or.inr ⟨r1, ?_, fun i i0 i1 => ?_⟩
      · dsimp only
        rw [mB _ 0 r1.1 r1.2 (by decide) (by decide)]; exact r2
      · dsimp only
        rw [mB i 0 i0 i1 (by decide) (by decide), mB _ 0 r1.1 r1.2 (by decide) (by decide)]
        exact r3 i i0 i1
end

section
variable {sc : Nat × (Nat → Int32)} {d : Nat} {σ : aH} {u : Nat}
set_option maxRecDepth 10000 in
theorem mk_tellsNothing (hG : Gk σ u) (hz : σ.1 (gN σ) = (0, 0, fun _ => none)) (hb : gN σ + 1 ≤ 1000000) : TV sc (d + 1) mX10_tellsNothing [.ref 76] σ (fun σ1 => Fk (fun a _ => a = 79) 1 8 σ σ1 ∧ rI σ1 79 0 = 6 ∧ rI σ1 79 1 = 4 ∧ rI σ1 79 2 = 0 ∧ rI σ1 79 3 = 1440 ∧ rI σ1 79 4 = 1440 ∧ rI σ1 79 5 = 0 ∧ rI σ1 79 6 = 0 ∧ rI σ1 79 7 = 0) := by
  obtain ⟨N, hN⟩ : ∃ N : Nat, N = gN σ := ⟨_, rfl⟩
  have N5 : 343 ≤ N := by rw [hN]; exact hG.2.1
  apply T.void
  obtain ⟨P, hP⟩ : ∃ P : aO → aH → Prop, P = QV (fun σ1 => Fk (fun a _ => a = 79) 1 8 σ σ1 ∧ rI σ1 79 0 = 6 ∧ rI σ1 79 1 = 4 ∧ rI σ1 79 2 = 0 ∧ rI σ1 79 3 = 1440 ∧ rI σ1 79 4 = 1440 ∧ rI σ1 79 5 = 0 ∧ rI σ1 79 6 = 0 ∧ rI σ1 79 7 = 0) := ⟨_, rfl⟩
  rw [← hP]
  refine T.of (c := 10) (code := cX10_tellsNothing) (mL := 3) (rt := none) (ini := false) (l := [(0, .ref 76)]) rfl rfl rfl rfl (by decide) hs_X10_tellsNothing rfl rfl ?_
  refine w_bipush (v := nZ 8) dX10_tellsNothing_0 (by decide) ?_
  refine w_newaI dX10_tellsNothing_2 rfl (by decide) hb ?_
  rw [show (nZ 8).toNatClampNeg = 8 from by decide, ← hN]
  obtain ⟨σa, ha⟩ : ∃ σa : aH, σa = sNew σ 101 8 8 := ⟨_, rfl⟩
  rw [← ha]
  have tN : ∀ τ : aH, τ.1 = σa.1 → gN τ = gN σa → (tg τ N = 101 ∧ N < gN τ) ∧ ln τ N = 8 := fun τ h1 h2 => by
    have e : τ.1 N = (101, 8, fun _ => none) := by rw [h1, ha, hN]; exact va_up_self _ _ _
    refine ⟨⟨by unfold tg; rw [e], by rw [h2, ha]; show N < gN σ + 1; omega⟩, by unfold ln; rw [e]⟩
  have lo : ∀ τ : aH, τ.1 = σa.1 → ∀ a : Nat, a < 343 → τ.1 a = S0 a := fun τ h1 a h => by rw [h1, ha, sNew_1 (by omega)]; exact hG.1 a h
  refine w_dup dX10_tellsNothing_4 rfl ?_
  refine w_iconst (v := nZ 0) dX10_tellsNothing_5 (by decide) ?_
  refine w_bipush (v := nZ 6) dX10_tellsNothing_6 (by decide) ?_
  refine i_iast (n := 8) dX10_tellsNothing_8 (tN σa rfl rfl).1 (tN σa rfl rfl).2 (by decide) (by decide) (fun σ0 e0 => ?_)
  have s0 : σ0.1 = σa.1 ∧ gN σ0 = gN σa := by rw [← e0]; exact ⟨rfl, rfl⟩
  refine w_dup dX10_tellsNothing_9 rfl ?_
  refine w_iconst (v := nZ 1) dX10_tellsNothing_10 (by decide) ?_
  refine w_iconst (v := nZ 4) dX10_tellsNothing_11 (by decide) ?_
  refine i_iast (n := 8) dX10_tellsNothing_12 (tN σ0 s0.1 s0.2).1 (tN σ0 s0.1 s0.2).2 (by decide) (by decide) (fun σ1 e1 => ?_)
  have s1 : σ1.1 = σa.1 ∧ gN σ1 = gN σa := by rw [← e1]; exact ⟨s0.1, s0.2⟩
  refine w_dup dX10_tellsNothing_13 rfl ?_
  refine w_iconst (v := nZ 2) dX10_tellsNothing_14 (by decide) ?_
  refine w_iconst (v := nZ 0) dX10_tellsNothing_15 (by decide) ?_
  refine i_iast (n := 8) dX10_tellsNothing_16 (tN σ1 s1.1 s1.2).1 (tN σ1 s1.1 s1.2).2 (by decide) (by decide) (fun σ2 e2 => ?_)
  have s2 : σ2.1 = σa.1 ∧ gN σ2 = gN σa := by rw [← e2]; exact ⟨s1.1, s1.2⟩
  refine w_dup dX10_tellsNothing_17 rfl ?_
  refine w_iconst (v := nZ 3) dX10_tellsNothing_18 (by decide) ?_
  refine w_sipush (v := nZ 1440) dX10_tellsNothing_19 (by decide) ?_
  refine i_iast (n := 8) dX10_tellsNothing_22 (tN σ2 s2.1 s2.2).1 (tN σ2 s2.1 s2.2).2 (by decide) (by decide) (fun σ3 e3 => ?_)
  have s3 : σ3.1 = σa.1 ∧ gN σ3 = gN σa := by rw [← e3]; exact ⟨s2.1, s2.2⟩
  refine w_dup dX10_tellsNothing_23 rfl ?_
  refine w_iconst (v := nZ 4) dX10_tellsNothing_24 (by decide) ?_
  refine w_sipush (v := nZ 1440) dX10_tellsNothing_25 (by decide) ?_
  refine i_iast (n := 8) dX10_tellsNothing_28 (tN σ3 s3.1 s3.2).1 (tN σ3 s3.1 s3.2).2 (by decide) (by decide) (fun σ4 e4 => ?_)
  have s4 : σ4.1 = σa.1 ∧ gN σ4 = gN σa := by rw [← e4]; exact ⟨s3.1, s3.2⟩
  refine w_dup dX10_tellsNothing_29 rfl ?_
  refine w_iconst (v := nZ 5) dX10_tellsNothing_30 (by decide) ?_
  refine w_iconst (v := nZ 0) dX10_tellsNothing_31 (by decide) ?_
  refine i_iast (n := 8) dX10_tellsNothing_32 (tN σ4 s4.1 s4.2).1 (tN σ4 s4.1 s4.2).2 (by decide) (by decide) (fun σ5 e5 => ?_)
  have s5 : σ5.1 = σa.1 ∧ gN σ5 = gN σa := by rw [← e5]; exact ⟨s4.1, s4.2⟩
  refine w_dup dX10_tellsNothing_33 rfl ?_
  refine w_bipush (v := nZ 6) dX10_tellsNothing_34 (by decide) ?_
  refine w_iconst (v := nZ 0) dX10_tellsNothing_36 (by decide) ?_
  refine i_iast (n := 8) dX10_tellsNothing_37 (tN σ5 s5.1 s5.2).1 (tN σ5 s5.1 s5.2).2 (by decide) (by decide) (fun σ6 e6 => ?_)
  have s6 : σ6.1 = σa.1 ∧ gN σ6 = gN σa := by rw [← e6]; exact ⟨s5.1, s5.2⟩
  refine w_dup dX10_tellsNothing_38 rfl ?_
  refine w_bipush (v := nZ 7) dX10_tellsNothing_39 (by decide) ?_
  refine w_iconst (v := nZ 0) dX10_tellsNothing_41 (by decide) ?_
  refine i_iast (n := 8) dX10_tellsNothing_42 (tN σ6 s6.1 s6.2).1 (tN σ6 s6.1 s6.2).2 (by decide) (by decide) (fun σ7 e7 => ?_)
  have s7 : σ7.1 = σa.1 ∧ gN σ7 = gN σa := by rw [← e7]; exact ⟨s6.1, s6.2⟩
  refine w_astore_n (l' := [(1, .ref N), (0, .ref 76)]) dX10_tellsNothing_43 rfl (by decide) rfl ?_
  refine w_iconst (v := nZ 0) dX10_tellsNothing_44 (by decide) ?_
  refine w_istore_n (l' := [(2, .int (nZ 0)), (1, .ref N), (0, .ref 76)]) dX10_tellsNothing_45 rfl (by decide) rfl ?_
  have row : rI σ7 N 0 = 6 ∧ rI σ7 N 1 = 4 ∧ rI σ7 N 2 = 0 ∧ rI σ7 N 3 = 1440 ∧ rI σ7 N 4 = 1440 ∧ rI σ7 N 5 = 0 ∧ rI σ7 N 6 = 0 ∧ rI σ7 N 7 = 0 := by
    rw [← e7, ← e6, ← e5, ← e4, ← e3, ← e2, ← e1, ← e0]
    refine ⟨?_, ?_, ?_, ?_, ?_, ?_, ?_, ?_⟩
    all_goals repeat (first | rw [rI_ww (by decide)] | rw [rI_wi (by decide)])
  have low : ∀ (a : Nat) (i : Int), a < 343 → rI σ7 a i = rI σ a i := fun a i h => by
    rw [← e7, rI_wa (by omega), ← e6, rI_wa (by omega), ← e5, rI_wa (by omega), ← e4, rI_wa (by omega), ← e3, rI_wa (by omega), ← e2, rI_wa (by omega), ← e1, rI_wa (by omega), ← e0, rI_wa (by omega), ha]
    show (va_up σ.2.2.1 (gN σ) (fun _ => 0) a i.toNat).toInt = _
    rw [va_up_ne _ _ (show a ≠ gN σ by omega)]; rfl
  have rest : σ7.2.1 = σa.2.1 ∧ σ7.2.2.2 = σa.2.2.2 := by
    rw [← e7, ← e6, ← e5, ← e4, ← e3, ← e2, ← e1, ← e0]; exact ⟨rfl, rfl⟩
  have loop : ∀ (f : Nat) (k : Int) (τ : aH), (8 - k).toNat = f → 0 ≤ k → k ≤ 8 → Fr (fun a _ => a = 79) σ7 τ → (∀ i : Int, 0 ≤ i → i < k → rI τ 79 i = rI σ7 N i) → wp (Ev sc d) 10 cX10_tellsNothing 3 none false [] sc P 46 [(2, .int (nZ k)), (1, .ref N), (0, .ref 76)] [] τ := by
    intro f
    induction f with
    | zero =>
      intro k τ hf k0 k8 hF hk
      refine w_iload_n dX10_tellsNothing_46 rfl (List.Mem.head _) ?_
      refine w_bipush (v := nZ 8) dX10_tellsNothing_47 (by decide) ?_
      refine i_cmp_ge (tgt := 67) dX10_tellsNothing_49 rfl (by omega) (by decide) (fun c9 => ?_) (fun c9 => by omega)
      refine w_drop (a := N) ?_
      refine w_vret dX10_tellsNothing_67 rfl ?_
      rw [hP]
      have t1 : τ.1 = σa.1 := hF.1.1.trans s7.1
      refine ⟨rfl, ⟨?_, fun a h => ?_, fun a h => ?_, ?_, ?_, fun a i h i0 hn => (hF.rw i0 hn).trans (low a i h)⟩, ?_⟩
      · funext a
        show va_up τ.1 N (0, 0, fun _ => none) a = σ.1 a
        by_cases c : a = N
        · rw [c, va_up_self, hN, hz]
        · rw [va_up_ne _ _ c, t1, ha, sNew_1 (by omega)]
      · show τ.2.1 a = σ.2.1 a
        rw [hF.1.2.1, rest.1, ha]
        exact va_up_ne _ _ (by show a ≠ gN σ; omega)
      · show τ.2.2.2.1 a = σ.2.2.2.1 a
        rw [hF.1.2.2, rest.2, ha]
        exact va_up_ne _ _ (by show a ≠ gN σ; omega)
      · show τ.2.2.2.2.1 = gN σ + 1
        rw [hF.1.2.2, rest.2, ha]; rfl
      · show τ.2.2.2.2.2 = gW σ + 8
        rw [hF.1.2.2, rest.2, ha]; rfl
      · have r : ∀ i : Int, 0 ≤ i → i < 8 → rI (sDrop τ N) 79 i = rI σ7 N i := fun i a b => hk i a (by omega)
        obtain ⟨r0, r1, r2, r3, r4, r5, r6, r7⟩ := row
        exact ⟨(r 0 (by decide) (by decide)).trans r0, (r 1 (by decide) (by decide)).trans r1, (r 2 (by decide) (by decide)).trans r2, (r 3 (by decide) (by decide)).trans r3, (r 4 (by decide) (by decide)).trans r4, (r 5 (by decide) (by decide)).trans r5, (r 6 (by decide) (by decide)).trans r6, (r 7 (by decide) (by decide)).trans r7⟩
    | succ f ih =>
      intro k τ hf k0 k8 hF hk
      have t1 : τ.1 = σa.1 := hF.1.1.trans s7.1
      have t2 : gN τ = gN σa := by unfold gN; rw [hF.1.2.2, rest.2]
      have l0 := lo τ t1
      have g76 : tg τ 76 = 11 ∧ 76 < gN τ := ⟨by unfold tg; rw [l0 76 (by decide)]; rfl, by rw [t2, ha]; show 76 < gN σ + 1; omega⟩
      have g79 : tg τ 79 = 101 ∧ 79 < gN τ := ⟨by unfold tg; rw [l0 79 (by decide)]; rfl, by rw [t2, ha]; show 79 < gN σ + 1; omega⟩
      have n79 : ln τ 79 = 8 := by unfold ln; rw [l0 79 (by decide)]; rfl
      have r79 : rf τ 76 10 = some 79 := by unfold rf; rw [l0 76 (by decide)]; rfl
      have tn := tN τ t1 t2
      have kr : inR k := by omega
      refine w_iload_n dX10_tellsNothing_46 rfl (List.Mem.head _) ?_
      refine w_bipush (v := nZ 8) dX10_tellsNothing_47 (by decide) ?_
      refine i_cmp_ge (tgt := 67) dX10_tellsNothing_49 rfl kr (by decide) (fun c9 => by omega) (fun c9 => ?_)
      refine w_aload_n dX10_tellsNothing_52 rfl (List.Mem.tail _ (List.Mem.tail _ (List.Mem.head _))) ?_
      refine w_getR (ci := 10) (k := 10) (b := 79) dX10_tellsNothing_53 fl_10_20 (by decide) g76 r79 ?_
      refine w_iload_n dX10_tellsNothing_56 rfl (List.Mem.head _) ?_
      refine w_aload_n dX10_tellsNothing_57 rfl (List.Mem.tail _ (List.Mem.head _)) ?_
      refine w_iload_n dX10_tellsNothing_58 rfl (List.Mem.head _) ?_
      refine i_iald (n := 8) dX10_tellsNothing_59 tn.1 tn.2 kr (by omega) ?_
      refine i_iast (n := 8) dX10_tellsNothing_60 g79 n79 kr (by omega) (fun σ1 e1 => ?_)
      refine w_iinc (v := nZ (k + 1)) (l' := [(2, .int (nZ (k + 1))), (1, .ref N), (0, .ref 76)]) dX10_tellsNothing_61 (List.Mem.head _) (nZ_add _ _) (by decide) rfl ?_
      refine w_goto (tgt := 46) dX10_tellsNothing_64 rfl ?_
      have eN : rI τ N k = rI σ7 N k := hF.rw k0 (by show ¬ N = 79; omega)
      refine ih (k + 1) σ1 (by omega) (by omega) (by omega) ?_ (fun i i0 i1 => ?_)
      · rw [← e1]; exact hF.trans (Fr.w k0 rfl)
      · rw [← e1, eN]
        by_cases c : i = k
        · rw [c, rI_ww (rI_R _ _ _)]
        · rw [rI_wi (by omega)]; exact hk i i0 (by omega)
  exact loop _ 0 σ7 rfl (by decide) (by decide) (Fr.refl _ _) (fun i a b => by omega)
end

