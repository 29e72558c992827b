/-! THE TEXT: what stalls, suns and rates are told. -/
/-- a stall that was told -/
def SLw (D : Nat → Int → Int) (W H i : Int) : Prop := (0 ≤ D 0 i ∧ D 0 i < W) ∧ (0 ≤ D 1 i ∧ D 1 i < H) ∧ (0 ≤ D 2 i ∧ D 2 i ≤ 40) ∧ (0 ≤ D 3 i ∧ D 3 i ≤ 3) ∧ (0 ≤ D 4 i ∧ D 4 i ≤ 5) ∧ (0 ≤ D 5 i ∧ D 5 i ≤ 60) ∧ (0 ≤ D 6 i ∧ D 6 i ≤ 1) ∧ D 7 i = -1
def DI (K : Nat → Int) (D : Nat → Int → Int) : Prop := (∀ i : Int, 0 ≤ i → i < K 2 → SLw D (K 0) (K 1) i) ∧ Dst D (K 2)
def EI (E : Nat → Nat → Option Int) : Prop := (∀ t x, E 0 t = some x → 0 ≤ x ∧ x ≤ 89) ∧ (∀ t x, E 1 t = some x → 0 ≤ x ∧ x ≤ 9)
def TI3 (K : Nat → Int) : Prop := (0 ≤ K 3 ∧ K 3 ≤ 1440) ∧ (0 ≤ K 4 ∧ K 4 ≤ 1440) ∧ (0 ≤ K 5 ∧ K 5 ≤ 8)
def PDd (P : PS) : Prop := PB P.1 ∧ (P.1 6 = 0 → P.1 2 = 0) ∧ DI P.1 P.2.1 ∧ EI P.2.2 ∧ TI3 P.1
section
variable {c : Int → Int} {K : Nat → Int} {D : Nat → Int → Int} {E : Nat → Nat → Option Int}
theorem DI.of {K1 : Nat → Int} (h : DI K D) (h0 : K1 0 = K 0) (h1 : K1 1 = K 1) (h2 : K1 2 = K 2) : DI K1 D := by
  unfold DI; rw [h0, h1, h2]; exact h
theorem TI3.of {K1 : Nat → Int} (h : TI3 K) (h3 : K1 3 = K 3) (h4 : K1 4 = K 4) (h5 : K1 5 = K 5) : TI3 K1 := by
  unfold TI3; rw [h3, h4, h5]; exact h
theorem DI.num {lo hi : Int} (h : DI K D) : DI (numK c lo hi K) D := h.of (numK_ne (by decide) (by decide) (by decide)) (numK_ne (by decide) (by decide) (by decide)) (numK_ne (by decide) (by decide) (by decide))
theorem TI3.num {lo hi : Int} (h : TI3 K) : TI3 (numK c lo hi K) := h.of (numK_ne (by decide) (by decide) (by decide)) (numK_ne (by decide) (by decide) (by decide)) (numK_ne (by decide) (by decide) (by decide))
/-- one of the rows of a stall is told anew -/
theorem DI.row {f : Nat} {s v : Int} (h : DI K D) (hs : 0 ≤ s) (hf : (f = 3 ∧ 0 ≤ v ∧ v ≤ 3) ∨ (f = 4 ∧ 0 ≤ v ∧ v ≤ 5) ∨ (f = 5 ∧ 0 ≤ v ∧ v ≤ 60) ∨ (f = 6 ∧ 0 ≤ v ∧ v ≤ 1)) : DI K (Dset D f s v) := by
  have e : ∀ (g : Nat) (i : Int), g ≠ f → Dset D f s v g i = D g i := fun g i q => if_neg (fun z => q z.1)
  refine ⟨fun i i0 i1 => ?_, fun x y i j a b => h.2 x y i j ?_ ?_⟩
  · obtain ⟨a0, a1, a2, a3, a4, a5, a6, a7⟩ := h.1 i i0 i1
    have r : ∀ g : Nat, Dset D f s v g i = D g i ∨ (g = f ∧ Dset D f s v g i = v) := fun g => by
      by_cases c : g = f ∧ i.toNat = s.toNat
      · exact Or.inr ⟨c.1, if_pos c⟩
      · exact Or.inl (if_neg c)
    unfold SLw
    rw [e 0 i (by omega), e 1 i (by omega), e 2 i (by omega), e 7 i (by omega)]
    have r3 := r 3; have r4 := r 4; have r5 := r 5; have r6 := r 6
    exact ⟨a0, a1, a2, by omega, by omega, by omega, by omega, a7⟩
  · exact ⟨a.1, a.2.1, (e 0 i (by omega)).symm.trans a.2.2.1, (e 1 i (by omega)).symm.trans a.2.2.2⟩
  · exact ⟨b.1, b.2.1, (e 0 j (by omega)).symm.trans b.2.2.1, (e 1 j (by omega)).symm.trans b.2.2.2⟩
/-- one stall more -/
theorem DI.add {K1 : Nat → Int} {x y h : Int} (hd : DI K D) (n0 : 0 ≤ K 2) (h0 : K1 0 = K 0) (h1 : K1 1 = K 1) (h2 : K1 2 = K 2 + 1) (hx : 0 ≤ x ∧ x < K 0) (hy : 0 ≤ y ∧ y < K 1) (hh : 0 ≤ h ∧ h ≤ 40) (hno : ¬ ∃ k : Int, At D (K 2) x y k) : DI K1 (Dadd D (K 2) x y h) := by
  have nw : ∀ i : Int, 0 ≤ i → ¬ i < K 2 → i < K1 2 → i.toNat = (K 2).toNat := fun i a b z => by omega
  refine ⟨fun i i0 i1 => ?_, fun x1 y1 i j a b => ?_⟩
  · unfold SLw
    by_cases z : i < K 2
    · rw [Dadd_ne (by omega), Dadd_ne (by omega), Dadd_ne (by omega), Dadd_ne (by omega), Dadd_ne (by omega), Dadd_ne (by omega), Dadd_ne (by omega), Dadd_ne (by omega), h0, h1]
      exact hd.1 i i0 z
    · obtain ⟨a0, a1, a2, a3, a4, a5, a6, a7⟩ := Dadd_n (D := D) (x := x) (y := y) (h := h) (nw i i0 z i1)
      rw [a0, a1, a2, a3, a4, a5, a6, a7, h0, h1]
      exact ⟨hx, hy, hh, by omega, by omega, by omega, by omega, rfl⟩
  · obtain ⟨ai, aj, ax, ay⟩ := a
    obtain ⟨bi, bj, bx, by1⟩ := b
    by_cases z : i < K 2 <;> by_cases z2 : j < K 2
    · rw [Dadd_ne (by omega)] at ax ay bx by1
      exact hd.2 x1 y1 i j ⟨ai, z, ax, ay⟩ ⟨bi, z2, bx, by1⟩
    · obtain ⟨b0, b1, -⟩ := Dadd_n (D := D) (x := x) (y := y) (h := h) (nw j bi z2 bj)
      rw [Dadd_ne (by omega)] at ax ay
      rw [b0] at bx; rw [b1] at by1
      exact absurd ⟨i, ai, z, ax.trans bx.symm, ay.trans by1.symm⟩ hno
    · obtain ⟨b0, b1, -⟩ := Dadd_n (D := D) (x := x) (y := y) (h := h) (nw i ai z aj)
      rw [Dadd_ne (by omega)] at bx by1
      rw [b0] at ax; rw [b1] at ay
      exact absurd ⟨j, bi, z2, bx.trans ax.symm, by1.trans ay.symm⟩ hno
    · have := nw i ai z aj; have := nw j bi z2 bj; omega
theorem EI.tell {w : Nat} {m x : Int} (h : EI E) (hx : (w = 0 ∧ 0 ≤ x ∧ x ≤ 89) ∨ (w = 1 ∧ 0 ≤ x ∧ x ≤ 9)) : EI (tellE E w m x) := by
  refine ⟨fun t v hv => ?_, fun t v hv => ?_⟩
  · unfold tellE at hv
    split at hv
    · rename_i z; injection hv with hv; omega
    · exact h.1 t v hv
  · unfold tellE at hv
    split at hv
    · rename_i z; injection hv with hv; omega
    · exact h.2 t v hv
end
