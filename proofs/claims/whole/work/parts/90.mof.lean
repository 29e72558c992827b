/-! THE REFERENCE: awning, grow, lantern of the text. -/
section
variable {sc : Nat × (Nat → Int32)} {d : Nat} {σ : aH} {u : Nat} {c : Int → Int} {e : Int} {K : Nat → Int} {D : Nat → Int → Int} {E : Nat → Nat → Option Int}
theorem Mc.w {τ : aH} {s v : Int} {f : Nat} (h : Mc (rI σ) K D E) (hs : 0 ≤ s ∧ s < 8) (hf : f ≤ 6) (h2 : K 2 ≤ 8) (rv : inR v) (ew : wI σ (82 + s.toNat) (f : Int) v = τ) : Mc (rI τ) K (Dset D f s v) E := by
  have oth : ∀ (a : Nat) (i : Int), a ≠ 82 + s.toNat → rI τ a i = rI σ a i := fun a i z => by rw [← ew]; exact rI_wa z
  refine ⟨fun i hi => (oth 79 i (by omega)).trans (h.1 i hi), fun s' q0 q1 f' hf' => ?_, h.2.2.1.congr (oth 79 6 (by omega)) (fun k f k0 k1 f0 f1 => oth _ f (by omega)), h.2.2.2.congr (oth 79 7 (by omega)) (fun k f k0 k1 f0 f1 => oth _ f (by omega))⟩
  by_cases y : s' = s
  · subst y
    by_cases z : f' = f
    · subst z
      rw [Dset_eq rfl, ← ew]; exact rI_ww rv
    · rw [Dset_ne (by omega), ← ew, rI_wi (by omega)]; exact h.2.1 s' q0 q1 f' hf'
  · rw [Dset_ne (by omega), oth (82 + s'.toNat) f' (by omega)]; exact h.2.1 s' q0 q1 f' hf'
theorem MK.bad {K1 : Nat → Int} (h : MK σ c e K) (h0 : K 9 ≠ 0) (h9 : K1 9 = K 9) (h10 : K1 10 = K 10) : MK σ c e K1 := ⟨h.1, by rw [h9]; exact h.2.1, by rw [h10]; exact h.2.2.1, h.2.2.2.1, fun z => absurd (h9.symm.trans z) h0⟩
abbrev AOf : Nat → Int → Prop := fun a i => (a = 76 ∧ (i = 4 ∨ i = 5 ∨ i = 6)) ∨ (82 ≤ a ∧ a ≤ 89)
theorem MK.w {τ : aH} {s v : Int} {f : Int} (h : MK σ c e K) (hs : 0 ≤ s ∧ s < 8) (hf : 0 ≤ f) (ew : wI σ (82 + s.toNat) f v = τ) : MK τ c e K := by
  have hF : Fr (fun a _ => a = 82 + s.toNat) σ τ := by rw [← ew]; exact Fr.w hf rfl
  exact h.fr hF (fun i _ => by show ¬ (76 = 82 + s.toNat); omega) (fun i => by show ¬ (77 = 82 + s.toNat); omega)
theorem ofF_bad {w : Int} (h : ofK1 c K 9 ≠ 0) : (ofF c w (K, D, E)).1 9 = ofK1 c K 9 ∧ (ofF c w (K, D, E)).1 10 = ofK1 c K 10 := by
  unfold ofF
  dsimp only
  split
  · split
    · exact numK_stay h
    · split
      · obtain ⟨a, b⟩ := numK_stay (c := c) (lo := 0) (hi := 5) h
        obtain ⟨a1, b1⟩ := numK_stay (c := c) (lo := 0) (hi := 60) (K := numK c 0 5 (ofK1 c K)) (by rw [a]; exact h)
        exact ⟨a1.trans a, b1.trans b⟩
      · exact ⟨rfl, rfl⟩
  · exact ⟨rfl, rfl⟩
theorem m_ofStall {x w : Int} (hG : G σ u) (hK : MK σ c e K) (h0 : K 9 = 0) (hC : Mc (rI σ) K D E) (h2 : 0 ≤ K 2 ∧ K 2 ≤ 8) (hx : (x = 8 ∧ w = 2) ∨ (x = 9 ∧ w = 3) ∨ (x = 10 ∧ w = 7)) : TV sc (d + 4) mX10_ofStall [.ref 76, .int (nZ x)] σ (fun σ1 => Fr AOf σ σ1 ∧ MK σ1 c e (ofF c w (K, D, E)).1 ∧ ((ofF c w (K, D, E)).1 9 = 0 → Mc (rI σ1) (ofF c w (K, D, E)).1 (ofF c w (K, D, E)).2.1 (ofF c w (K, D, E)).2.2)) := by
  obtain ⟨K1, hK1⟩ : ∃ K1 : Nat → Int, K1 = ofK1 c K := ⟨_, rfl⟩
  have rh : inR (K 2 - 1) := by omega
  obtain ⟨r6, σ2, he2, hr2, hF2, hM2, v2⟩ := m_number (sc := sc) (d := d) (lo := 0) (hi := K 2 - 1) hG hK (by decide) rh
  have hM2' : MK σ2 c e K1 := by rw [hK1]; exact hM2
  have hFa : ∀ τ τ1 : aH, Fr A456 τ τ1 → Fr AOf τ τ1 := fun τ τ1 h => h.weak (fun a i z => Or.inl z)
  have hG2 := hF2.g hG
  have e79 : rI σ 79 2 = K 2 := hC.1 2 (by decide)
  have s5 : rI σ2 76 5 = K1 9 := hM2'.2.1
  apply T.void
  apply t_X10_ofStall hG (by omega)
  rw [e79]
  refine ⟨rh, r6, σ2, he2, hG2, hr2, fun q => ?_, fun q => ?_⟩
  case refine_2 =>
    have nz : K1 9 ≠ 0 := fun z => q (s5.trans z)
    obtain ⟨a, b⟩ := ofF_bad (c := c) (w := w) (D := D) (E := E) (K := K) (by rw [← hK1]; exact nz)
    exact ⟨rfl, hFa _ _ hF2, hM2'.bad nz (by rw [a, hK1]) (by rw [b, hK1]), fun z => absurd ((by rw [hK1]; exact a.symm.trans z : K1 9 = 0)) nz⟩
  have z1 : K1 9 = 0 := s5.symm.trans q
  have hs : 0 ≤ r6 ∧ r6 ≤ K 2 - 1 := by rw [v2]; exact numV_bd.2 (by have := z1; rw [hK1] at this; exact this)
  have eS : ofS c K = r6 := v2.symm
  have kl : ∀ i : Nat, i ≤ 5 → K1 i = K i := fun i hi => by rw [hK1]; exact numK_ne (by omega) (by omega) (by omega)
  have hC2 : Mc (rI σ2) K1 D E := ((hC.fr hF2 (fun a i p q => A456_a (by omega) i) h2.2)).to kl
  have h22 : K1 2 ≤ 8 := by rw [kl 2 (by decide)]; exact h2.2
  have row : ∀ i : Int, AOf (82 + r6.toNat) i := fun i => Or.inr (by omega)
  have eF : ofF c w (K, D, E) = if w = 2 then (numK c 0 3 K1, Dset D 3 r6 (numV c 0 3 K1), E) else if w = 3 then (numK c 0 60 (numK c 0 5 K1), Dset (Dset D 4 r6 (numV c 0 5 K1)) 5 r6 (numV c 0 60 (numK c 0 5 K1)), E) else (K1, Dset D 6 r6 1, E) := by
    unfold ofF
    dsimp only
    rw [eS, if_pos (by omega), ← hK1]
  rw [eF]
  refine ⟨fun q8 => ⟨fun q9 => ⟨by omega, fun σ8 e8 => ?_⟩, fun q9 => ?_⟩, fun q8 => ?_⟩
  · rw [if_neg (by omega), if_neg (by omega)]
    dsimp only
    refine ⟨rfl, ?_, hM2'.w (by omega) (by omega) e8, fun _ => hC2.w (f := 6) (by omega) (by decide) h22 (by decide) e8⟩
    rw [← e8]; exact (hFa _ _ hF2).trans (Fr.w (by omega) (row _))
  · rw [if_neg (by omega), if_pos (by omega)]
    dsimp only
    obtain ⟨r15, σ3, he3, hr3, hF3, hM3, v3⟩ := m_number (sc := sc) (d := d) (lo := 0) (hi := 5) hG2 hM2' (by decide) (by decide)
    obtain ⟨r20, σ4, he4, hr4, hF4, hM4, v4⟩ := m_number (sc := sc) (d := d) (lo := 0) (hi := 60) (hF3.g hG2) hM3 (by decide) (by decide)
    rw [← v3, ← v4]
    have hF24 : Fr A456 σ2 σ4 := hF3.trans hF4
    have t5 : rI σ4 76 5 = numK c 0 60 (numK c 0 5 K1) 9 := hM4.2.1
    refine ⟨r15, σ3, he3, hF3.g hG2, hr3, r20, σ4, he4, hF24.g hG2, hr4, fun q1 => ⟨by omega, fun σ22 e22 => ⟨by omega, fun σ26 e26 => ?_⟩⟩, fun q1 => ⟨rfl, (hFa _ _ hF2).trans (hFa _ _ hF24), hM4, fun z => absurd (t5.trans z) q1⟩⟩
    have hC4 : Mc (rI σ4) (numK c 0 60 (numK c 0 5 K1)) D E := (hC2.fr hF24 (fun a i p q => A456_a (by omega) i) h22).to (fun i hi => by rw [numK_ne (by omega) (by omega) (by omega), numK_ne (by omega) (by omega) (by omega)])
    have h24 : numK c 0 60 (numK c 0 5 K1) 2 ≤ 8 := by rw [numK_ne (by omega) (by omega) (by omega), numK_ne (by omega) (by omega) (by omega)]; exact h22
    refine ⟨rfl, ?_, (hM4.w (by omega) (by omega) e22).w (by omega) (by omega) e26, fun _ => (hC4.w (f := 4) (by omega) (by decide) h24 hr3 e22).w (f := 5) (by omega) (by decide) h24 hr4 e26⟩
    rw [← e26, ← e22]; exact (((hFa _ _ hF2).trans (hFa _ _ hF24)).trans (Fr.w (by omega) (row _))).trans (Fr.w (by omega) (row _))
  · rw [if_pos (by omega)]
    dsimp only
    obtain ⟨r33, σ3, he3, hr3, hF3, hM3, v3⟩ := m_number (sc := sc) (d := d) (lo := 0) (hi := 3) hG2 hM2' (by decide) (by decide)
    rw [← v3]
    have t5 : rI σ3 76 5 = numK c 0 3 K1 9 := hM3.2.1
    have hC3 : Mc (rI σ3) (numK c 0 3 K1) D E := (hC2.fr hF3 (fun a i p q => A456_a (by omega) i) h22).to (fun i hi => numK_ne (by omega) (by omega) (by omega))
    have h23 : numK c 0 3 K1 2 ≤ 8 := by rw [numK_ne (by omega) (by omega) (by omega)]; exact h22
    refine ⟨r33, σ3, he3, hF3.g hG2, hr3, by omega, fun q1 σ35 e35 => ⟨rfl, ?_, hM3.w (by omega) (by omega) e35, fun z => absurd (t5.trans z) q1⟩, fun q1 σ38 e38 => ⟨rfl, ?_, hM3.w (by omega) (by omega) e38, fun _ => hC3.w (f := 3) (by omega) (by decide) h23 hr3 e38⟩⟩
    · rw [← e35]; exact ((hFa _ _ hF2).trans (hFa _ _ hF3)).trans (Fr.w (by omega) (row _))
    · rw [← e38]; exact ((hFa _ _ hF2).trans (hFa _ _ hF3)).trans (Fr.w (by omega) (row _))
end
