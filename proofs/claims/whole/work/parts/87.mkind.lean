/-! THE REFERENCE: which word stands here. -/
def kd (w : Int) : Int := if w = 0 then 0 else if w = 1 then 2 else if w = 6 then 3 else if w = 8 then 4 else if w = 9 then 5 else if w = 4 then 6 else if w = 5 then 7 else if w = 2 then 8 else if w = 3 then 9 else if w = 7 then 10 else -1
section
variable {sc : Nat × (Nat → Int32)} {d : Nat} {σ : aH} {u : Nat} {c : Int → Int} {e : Int} {K : Nat → Int}
theorem m_kindHere {k : Int} (hG : G σ u) (hT : MT σ c e) (h5 : rI σ 76 5 = 0) (hk : rI σ 76 4 = k) (hb : 0 ≤ k ∧ k ≤ e) (hs : scF c isB k = k) : TI sc (d + 5) mX10_kindHere [.ref 76] σ (fun r σ1 => Fr (fun a i => a = 76 ∧ i = 4) σ σ1 ∧ rI σ1 76 4 = k ∧ r = kd (wkF c k (scF c isLt k))) := by
  obtain ⟨v0, v1, v6, v8, v9, v4, v5, v2, v3, v7⟩ := cw_sv
  obtain ⟨q, hq⟩ : ∃ q : Int, q = scF c isLt k := ⟨_, rfl⟩
  have one : ∀ (τ : aH), Fr (fun a i => a = 76 ∧ i = 4) σ τ → rI τ 76 4 = k → ∀ (j : Nat) (x0 x1 x2 x3 x4 x5 x6 : Int), j < 10 → cw j = sv x0 x1 x2 x3 x4 x5 x6 → (0 ≤ x0 ∧ x0 ≤ 26) → (0 ≤ x1 ∧ x1 ≤ 26) → (0 ≤ x2 ∧ x2 ≤ 26) → (0 ≤ x3 ∧ x3 ≤ 26) → (0 ≤ x4 ∧ x4 ≤ 26) → (0 ≤ x5 ∧ x5 ≤ 26) → (0 ≤ x6 ∧ x6 ≤ 26) → TI sc (d + 4) mX10_isWord [.ref 76, .int (nZ x0), .int (nZ x1), .int (nZ x2), .int (nZ x3), .int (nZ x4), .int (nZ x5), .int (nZ x6)] τ (fun r σ1 => Fr (fun a i => a = 76 ∧ i = 4) σ σ1 ∧ rI σ1 76 4 = k ∧ ((r = 1 ∧ isW c k q j) ∨ (r = 0 ∧ ¬ isW c k q j))) := by
    intro τ hF ht j x0 x1 x2 x3 x4 x5 x6 hj hv g0 g1 g2 g3 g4 g5 g6
    obtain ⟨r, σ1, he, hr, hF1, h1, hx⟩ := m_isWord (sc := sc) (d := d) (hF.g hG) (hT.fr hF (by show ¬ (76 = 76 ∧ (2 : Int) = 4); omega) (fun i => by show ¬ (77 = 76 ∧ i = 4); omega)) ((hF.rw (by omega) (by show ¬ (76 = 76 ∧ (5 : Int) = 4); omega)).trans h5) ht hb hs hj hv g0 g1 g2 g3 g4 g5 g6
    rw [← hq] at hx
    exact ⟨r, σ1, he, hr, hF.trans hF1, h1, hx⟩
  rw [← hq]
  have yes : ∀ (j : Nat) (r : Int), j < 10 → ((r = 1 ∧ isW c k q j) ∨ (r = 0 ∧ ¬ isW c k q j)) → ¬ r = 0 → wkF c k q = j := by
    intro j r hj hx hr
    rcases hx with ⟨_, b⟩ | ⟨a, _⟩
    · exact (WkS.eq (Or.inr ⟨by omega, by omega, b⟩)).symm
    · exact absurd a hr
  have no : ∀ (j : Nat) (r : Int), ((r = 1 ∧ isW c k q j) ∨ (r = 0 ∧ ¬ isW c k q j)) → r = 0 → ¬ isW c k q j := by
    intro j r hx hr
    rcases hx with ⟨a, _⟩ | ⟨_, b⟩
    · omega
    · exact b
  have fin : ∀ (τ : aH) (v : Int), Fr (fun a i => a = 76 ∧ i = 4) σ τ → rI τ 76 4 = k → v = kd (wkF c k q) → inR v → QI (fun r σ1 => Fr (fun a i => a = 76 ∧ i = 4) σ σ1 ∧ rI σ1 76 4 = k ∧ r = kd (wkF c k q)) (.inl (some (.int (nZ v)))) τ := fun τ v a b e r => ⟨v, rfl, r, a, b, e⟩
  apply T.int
  apply t_X10_kindHere hG
  obtain ⟨r0, s0, e0, i0, F0, p0, x0⟩ := one σ (Fr.refl _ _) hk 0 6 9 5 12 4 0 0 (by decide) v0 (by decide) (by decide) (by decide) (by decide) (by decide) (by decide) (by decide)
  refine ⟨r0, s0, e0, F0.g hG, i0, fun q0 => ?_, fun q0 => fin _ _ F0 p0 (by rw [yes 0 r0 (by decide) x0 q0]; rfl) (by decide)⟩
  obtain ⟨r1, s1, e1, i1, F1, p1, x1⟩ := one s0 F0 p0 1 19 20 1 12 12 0 0 (by decide) v1 (by decide) (by decide) (by decide) (by decide) (by decide) (by decide) (by decide)
  refine ⟨r1, s1, e1, F1.g hG, i1, fun q1 => ?_, fun q1 => fin _ _ F1 p1 (by rw [yes 1 r1 (by decide) x1 q1]; rfl) (by decide)⟩
  obtain ⟨r6, s6, e6, i6, F6, p6, x6⟩ := one s1 F1 p1 6 6 15 12 4 0 0 0 (by decide) v6 (by decide) (by decide) (by decide) (by decide) (by decide) (by decide) (by decide)
  refine ⟨r6, s6, e6, F6.g hG, i6, fun q6 => ?_, fun q6 => fin _ _ F6 p6 (by rw [yes 6 r6 (by decide) x6 q6]; rfl) (by decide)⟩
  obtain ⟨r8, s8, e8, i8, F8, p8, x8⟩ := one s6 F6 p6 8 4 21 19 11 0 0 0 (by decide) v8 (by decide) (by decide) (by decide) (by decide) (by decide) (by decide) (by decide)
  refine ⟨r8, s8, e8, F8.g hG, i8, fun q8 => ?_, fun q8 => fin _ _ F8 p8 (by rw [yes 8 r8 (by decide) x8 q8]; rfl) (by decide)⟩
  obtain ⟨r9, s9, e9, i9, F9, p9, x9⟩ := one s8 F8 p8 9 3 12 15 21 4 0 0 (by decide) v9 (by decide) (by decide) (by decide) (by decide) (by decide) (by decide) (by decide)
  refine ⟨r9, s9, e9, F9.g hG, i9, fun q9 => ?_, fun q9 => fin _ _ F9 p9 (by rw [yes 9 r9 (by decide) x9 q9]; rfl) (by decide)⟩
  obtain ⟨r4, s4, e4, i4, F4, p4, x4⟩ := one s9 F9 p9 4 19 21 14 0 0 0 0 (by decide) v4 (by decide) (by decide) (by decide) (by decide) (by decide) (by decide) (by decide)
  refine ⟨r4, s4, e4, F4.g hG, i4, fun q4 => ?_, fun q4 => fin _ _ F4 p4 (by rw [yes 4 r4 (by decide) x4 q4]; rfl) (by decide)⟩
  obtain ⟨r5, s5, e5, i5, F5, p5, x5⟩ := one s4 F4 p4 5 18 1 20 5 0 0 0 (by decide) v5 (by decide) (by decide) (by decide) (by decide) (by decide) (by decide) (by decide)
  refine ⟨r5, s5, e5, F5.g hG, i5, fun q5 => ?_, fun q5 => fin _ _ F5 p5 (by rw [yes 5 r5 (by decide) x5 q5]; rfl) (by decide)⟩
  obtain ⟨r2, s2, e2, i2, F2, p2, x2⟩ := one s5 F5 p5 2 1 23 14 9 14 7 0 (by decide) v2 (by decide) (by decide) (by decide) (by decide) (by decide) (by decide) (by decide)
  refine ⟨r2, s2, e2, F2.g hG, i2, fun q2 => ?_, fun q2 => fin _ _ F2 p2 (by rw [yes 2 r2 (by decide) x2 q2]; rfl) (by decide)⟩
  obtain ⟨r3, s3, e3, i3, F3, p3, x3⟩ := one s2 F2 p2 3 7 18 15 23 0 0 0 (by decide) v3 (by decide) (by decide) (by decide) (by decide) (by decide) (by decide) (by decide)
  refine ⟨r3, s3, e3, F3.g hG, i3, fun q3 => ?_, fun q3 => fin _ _ F3 p3 (by rw [yes 3 r3 (by decide) x3 q3]; rfl) (by decide)⟩
  obtain ⟨r7, s7, e7, i7, F7, p7, x7⟩ := one s3 F3 p3 7 12 1 14 20 5 18 14 (by decide) v7 (by decide) (by decide) (by decide) (by decide) (by decide) (by decide) (by decide)
  refine ⟨r7, s7, e7, F7.g hG, i7, fun q7 => ?_, fun q7 => fin _ _ F7 p7 (by rw [yes 7 r7 (by decide) x7 q7]; rfl) (by decide)⟩
  refine fin _ _ F7 p7 ?_ (by decide)
  have : wkF c k q = -1 := by
    refine (WkS.eq (Or.inl ⟨rfl, fun j hj => ?_⟩)).symm
    have : j = 0 ∨ j = 1 ∨ j = 2 ∨ j = 3 ∨ j = 4 ∨ j = 5 ∨ j = 6 ∨ j = 7 ∨ j = 8 ∨ j = 9 := by omega
    rcases this with z | z | z | z | z | z | z | z | z | z <;> subst z
    · exact no 0 r0 x0 q0
    · exact no 1 r1 x1 q1
    · exact no 2 r2 x2 q2
    · exact no 3 r3 x3 q3
    · exact no 4 r4 x4 q4
    · exact no 5 r5 x5 q5
    · exact no 6 r6 x6 q6
    · exact no 7 r7 x7 q7
    · exact no 8 r8 x8 q8
    · exact no 9 r9 x9 q9
  rw [this]; rfl
end
