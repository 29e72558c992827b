/-! THE REFERENCE: images. -/
/-- what an image keeps at place p -/
def KV (m : Nat → Int → Int) (p : Int) : Int := if p = 0 then m 76 18 else if p = 1 then m 76 19 else if (p - 2) % 4 = 3 then m 184 ((p - 2) / 4) else m (91 + ((p - 2) / 4).toNat) ((p - 2) % 4)
theorem Fr.ws {A : Nat → Int → Prop} {σ : aH} {a : Nat} {i v : Int} (h : v = rI σ a i) : Fr A σ (wI σ a i v) := by
  refine ⟨⟨rfl, rfl, rfl⟩, fun b k k0 _ => ?_⟩
  by_cases c : b = a
  · by_cases c2 : k.toNat = i.toNat
    · rw [c, rI_tn (wI σ a i v), c2, ← rI_tn (wI σ a i v), rI_ww (by rw [h]; exact rI_R _ _ _), h, rI_tn σ a k, c2, ← rI_tn σ a i]
    · rw [c]; exact rI_wi c2
  · exact rI_wa c
section
variable {sc : Nat × (Nat → Int32)} {d : Nat} {σ : aH} {u : Nat} {j : Nat}
theorem m_mv0 {v p : Int} (hG : G σ u) (hj : j < 3) (rv : inR v) (hp : rI σ 76 22 = p) (hb : 0 ≤ p ∧ p < 34) : TI sc (d + 1) mX10_moves [.ref 76, .ref (186 + j), .int (nZ v), .int (nZ 0)] σ (fun r σ1 => Fr (fun a i => (a = 186 + j ∧ i = p) ∨ (a = 76 ∧ i = 22)) σ σ1 ∧ rI σ1 (186 + j) p = v ∧ rI σ1 76 22 = p + 1 ∧ r = v) := by
  apply T.int
  apply t_X10_moves hG hj rv (by decide)
  rw [hp]
  refine ⟨fun z => absurd rfl z, fun _ => ⟨by omega, fun σ6 e6 => ?_⟩⟩
  have s6 : rI σ6 76 22 = p := by rw [← e6, rI_wa (by omega)]; exact hp
  rw [s6]
  refine ⟨by omega, fun σ10 e10 => ?_⟩
  have s10 : rI σ10 76 22 = p + 1 := by rw [← e10]; exact rI_ww (by omega)
  have v10 : rI σ10 (186 + j) p = v := by rw [← e10, rI_wa (by omega), ← e6]; exact rI_ww rv
  rw [s10, show p + 1 - 1 = p by omega, v10]
  refine ⟨by omega, by omega, v, rfl, rv, ?_, v10, s10, rfl⟩
  rw [← e10, ← e6]; exact (Fr.w hb.1 (Or.inl ⟨rfl, rfl⟩)).trans (Fr.w (by omega) (Or.inr ⟨rfl, rfl⟩))
theorem m_mv1 {v p : Int} (hG : G σ u) (hj : j < 3) (rv : inR v) (hp : rI σ 76 22 = p) (hb : 0 ≤ p ∧ p < 34) : TI sc (d + 1) mX10_moves [.ref 76, .ref (186 + j), .int (nZ v), .int (nZ 1)] σ (fun r σ1 => Fr (fun a i => a = 76 ∧ i = 22) σ σ1 ∧ rI σ1 76 22 = p + 1 ∧ r = rI σ (186 + j) p) := by
  apply T.int
  apply t_X10_moves hG hj rv (by decide)
  rw [hp]
  refine ⟨fun _ => ⟨by omega, fun σ6 e6 => ?_⟩, fun z => absurd z (by decide)⟩
  have s6 : rI σ6 76 22 = p + 1 := by rw [← e6]; exact rI_ww (by omega)
  rw [s6, show p + 1 - 1 = p by omega]
  have v6 : rI σ6 (186 + j) p = rI σ (186 + j) p := by rw [← e6, rI_wa (by omega)]
  rw [v6]
  refine ⟨by omega, by omega, _, rfl, rI_R _ _ _, ?_, s6, rfl⟩
  rw [← e6]; exact Fr.w (by omega) ⟨rfl, rfl⟩
theorem m_save (hG : G σ u) (hj : j < 3) : TV sc (d + 2) mX10_movesAll [.ref 76, .ref (186 + j), .int (nZ 0)] σ (fun σ1 => Fr (fun a i => a = 186 + j ∨ (a = 76 ∧ i = 22)) σ σ1 ∧ ∀ p : Int, 0 ≤ p → p < 34 → rI σ1 (186 + j) p = KV (rI σ) p) := by
  apply T.void
  apply t_X10_movesAll hG hj (by decide)
  obtain ⟨A, hA⟩ : ∃ A : Nat → Int → Prop, A = fun a i => a = 186 + j ∨ (a = 76 ∧ i = 22) := ⟨_, rfl⟩
  rw [← hA]
  have nA : ∀ (a : Nat) (i : Int), a < 186 → (a ≠ 76 ∨ i ≠ 22) → ¬ A a i := fun a i p q => by rw [hA]; show ¬ (a = 186 + j ∨ (a = 76 ∧ i = 22)); omega
  obtain ⟨P, hP⟩ : ∃ P : aO → aH → Prop, P = QV (fun σ1 => Fr A σ σ1 ∧ ∀ p : Int, 0 ≤ p → p < 34 → rI σ1 (186 + j) p = KV (rI σ) p) := ⟨_, rfl⟩
  rw [← hP]
  -- one step
  have step : ∀ (τ : aH) (p : Int) (b : Nat) (k v : Int), Fr A σ τ → rI τ 76 22 = p → (0 ≤ p ∧ p < 34) → (∀ q : Int, 0 ≤ q → q < p → rI τ (186 + j) q = KV (rI σ) q) → b < 186 → (b ≠ 76 ∨ k ≠ 22) → v = rI τ b k → 0 ≤ k → KV (rI σ) p = rI σ b k → ∃ (r : Int) (σ1 : aH), Ev sc (d + 1) mX10_moves [.ref 76, .ref (186 + j), .int (nZ v), .int (nZ 0)] τ (.inl (some (.int (nZ r)))) σ1 ∧ G σ1 u ∧ inR r ∧ ∀ σ2 : aH, wI σ1 b k r = σ2 → Fr A σ σ2 ∧ rI σ2 76 22 = p + 1 ∧ ∀ q : Int, 0 ≤ q → q < p + 1 → rI σ2 (186 + j) q = KV (rI σ) q := by
    intro τ p b k v hF hs hb ho hb1 hb2 hv k0 hK
    obtain ⟨r, σ1, he, hr, hF1, h1, h2, h3⟩ := m_mv0 (sc := sc) (d := d) (v := v) (hF.g hG) hj (by rw [hv]; exact rI_R _ _ _) hs hb
    have ev : rI σ1 b k = v := by rw [hF1.rw k0 (by show ¬ ((b = 186 + j ∧ k = p) ∨ (b = 76 ∧ k = 22)); omega), hv]
    have hF1' : Fr A σ σ1 := hF.trans (hF1.weak (fun a i z => by rw [hA]; rcases z with z | z; exact Or.inl z.1; exact Or.inr z))
    refine ⟨r, σ1, he, hF1'.g hG, hr, fun σ2 e2 => ⟨?_, ?_, fun q q0 q1 => ?_⟩⟩
    · rw [← e2]; exact hF1'.trans (Fr.ws (by rw [h3, ev]))
    · rw [← e2]
      by_cases c : b = 76
      · rw [c]; rw [rI_wi (by omega)]; exact h2
      · rw [rI_wa (by omega)]; exact h2
    · rw [← e2, rI_wa (by omega)]
      by_cases c : q = p
      · rw [c, h1, hK, hv]; exact hF.rw k0 (nA b k hb1 hb2)
      · rw [hF1.rw q0 (by show ¬ ((186 + j = 186 + j ∧ q = p) ∨ (186 + j = 76 ∧ q = 22)); omega)]; exact ho q q0 (by omega)
  have kv3 : ∀ (m : Nat → Int → Int) (s : Int), 0 ≤ s → KV m (2 + 4 * s + 3) = m 184 s := fun m s s0 => by
    unfold KV
    rw [if_neg (by omega), if_neg (by omega), if_pos (by omega), show (2 + 4 * s + 3 - 2) / 4 = s by omega]
  have kvf : ∀ (m : Nat → Int → Int) (s f : Int), 0 ≤ s → 0 ≤ f → f < 3 → KV m (2 + 4 * s + f) = m (91 + s.toNat) f := fun m s f s0 f0 f1 => by
    unfold KV
    rw [if_neg (by omega), if_neg (by omega), if_neg (by omega), show (2 + 4 * s + f - 2) / 4 = s by omega, show (2 + 4 * s + f - 2) % 4 = f by omega]
  have loop : ∀ (g : Nat) (s : Int) (τ : aH), (8 - s).toNat = g → 0 ≤ s → s ≤ 8 → Fr A σ τ → rI τ 76 22 = 2 + 4 * s → (∀ q : Int, 0 ≤ q → q < 2 + 4 * s → rI τ (186 + j) q = KV (rI σ) q) → L_X10_movesAll_35 (Ev sc (d + 1)) sc P j 0 s τ := by
    intro g
    induction g with
    | zero =>
      intro s τ hg s0 s1 hF hs ho
      apply v_X10_movesAll_35 (hF.g hG) hj (by decide) (by omega)
      refine ⟨fun _ => ?_, fun z => by omega⟩
      rw [hP]; exact ⟨rfl, hF, fun p p0 p1 => ho p p0 (by omega)⟩
    | succ g ih =>
      intro s τ hg s0 s1 hF hs ho
      apply v_X10_movesAll_35 (hF.g hG) hj (by decide) (by omega)
      refine ⟨fun z => by omega, fun _ => ?_⟩
      have inner : ∀ (g2 : Nat) (f : Int) (τ2 : aH), (3 - f).toNat = g2 → 0 ≤ f → f ≤ 3 → Fr A σ τ2 → rI τ2 76 22 = 2 + 4 * s + f → (∀ q : Int, 0 ≤ q → q < 2 + 4 * s + f → rI τ2 (186 + j) q = KV (rI σ) q) → L_X10_movesAll_44 (Ev sc (d + 1)) sc P j 0 s f τ2 := by
        intro g2
        induction g2 with
        | zero =>
          intro f τ2 hg2 f0 f1 hF2 hs2 ho2
          have ef : f = 3 := by omega
          obtain ⟨r, σ1, he, hG1, hr, hn⟩ := step τ2 (2 + 4 * s + f) 184 s _ hF2 hs2 (by omega) ho2 (by decide) (by omega) rfl s0 (by rw [ef]; exact kv3 _ s s0)
          apply v_X10_movesAll_44 (hF2.g hG) hj (by decide) (by omega) (by omega)
          refine ⟨fun _ => ⟨by omega, r, σ1, he, hG1, hr, by omega, fun σ6 e6 => ⟨by omega, ?_⟩⟩, fun z => by omega⟩
          obtain ⟨a, b, c⟩ := hn σ6 e6
          exact ih (s + 1) σ6 (by omega) (by omega) (by omega) a (by rw [b]; omega) (fun q q0 q1 => c q q0 (by omega))
        | succ g2 ih2 =>
          intro f τ2 hg2 f0 f1 hF2 hs2 ho2
          obtain ⟨r, σ1, he, hG1, hr, hn⟩ := step τ2 (2 + 4 * s + f) (91 + s.toNat) f _ hF2 hs2 (by omega) ho2 (by omega) (by omega) rfl f0 (kvf _ s f s0 f0 (by omega))
          apply v_X10_movesAll_44 (hF2.g hG) hj (by decide) (by omega) (by omega)
          refine ⟨fun z => by omega, fun _ => ⟨by omega, by omega, by omega, r, σ1, he, hG1, hr, by omega, fun σ6 e6 => ⟨by omega, ?_⟩⟩⟩
          obtain ⟨a, b, c⟩ := hn σ6 e6
          exact ih2 (f + 1) σ6 (by omega) (by omega) (by omega) a (by rw [b]; omega) (fun q q0 q1 => c q q0 (by omega))
      exact inner _ 0 τ rfl (by omega) (by omega) hF (by omega) (fun q q0 q1 => ho q q0 (by omega))
  intro σ1 e1
  have hF1 : Fr A σ σ1 := by rw [← e1]; exact Fr.w (by omega) (by rw [hA]; exact Or.inr ⟨rfl, rfl⟩)
  obtain ⟨r, σ4, he4, hG4, hr4, hn4⟩ := step σ1 0 76 18 _ hF1 (by rw [← e1]; exact rI_ww (by decide)) (by omega) (fun q a b => by omega) (by decide) (by omega) rfl (by omega) rfl
  refine ⟨r, σ4, he4, hG4, hr4, fun σ9 e9 => ?_⟩
  obtain ⟨a9, b9, c9⟩ := hn4 σ9 e9
  obtain ⟨r2, σ12, he12, hG12, hr12, hn12⟩ := step σ9 1 76 19 _ a9 b9 (by omega) (fun q a b => c9 q a (by omega)) (by decide) (by omega) rfl (by omega) rfl
  refine ⟨r2, σ12, he12, hG12, hr12, fun σ17 e17 => ?_⟩
  obtain ⟨a17, b17, c17⟩ := hn12 σ17 e17
  exact loop _ 0 σ17 rfl (by omega) (by omega) a17 (by rw [b17]; omega) (fun q q0 q1 => c17 q q0 (by omega))
abbrev ARm : Nat → Int → Prop := fun a i => (a = 76 ∧ (i = 18 ∨ i = 19 ∨ i = 22)) ∨ ((91 ≤ a ∧ a ≤ 98) ∧ 0 ≤ i ∧ i ≤ 2) ∨ a = 184
theorem m_load (hG : G σ u) (hj : j < 3) : TV sc (d + 2) mX10_movesAll [.ref 76, .ref (186 + j), .int (nZ 1)] σ (fun σ1 => Fr ARm σ σ1 ∧ ∀ p : Int, 0 ≤ p → p < 34 → KV (rI σ1) p = rI σ (186 + j) p) := by
  apply T.void
  apply t_X10_movesAll hG hj (by decide)
  obtain ⟨P, hP⟩ : ∃ P : aO → aH → Prop, P = QV (fun σ1 => Fr ARm σ σ1 ∧ ∀ p : Int, 0 ≤ p → p < 34 → KV (rI σ1) p = rI σ (186 + j) p) := ⟨_, rfl⟩
  rw [← hP]
  have nA : ∀ i : Int, ¬ ARm (186 + j) i := fun i => by show ¬ ((186 + j = 76 ∧ _) ∨ ((91 ≤ 186 + j ∧ 186 + j ≤ 98) ∧ _) ∨ 186 + j = 184); omega
  have step : ∀ (τ : aH) (p : Int) (b : Nat) (k v : Int), Fr ARm σ τ → rI τ 76 22 = p → (0 ≤ p ∧ p < 34) → (∀ q : Int, 0 ≤ q → q < p → KV (rI τ) q = rI σ (186 + j) q) → inR v → ARm b k → (b ≠ 76 ∨ k ≠ 22) → 0 ≤ k → (∀ m : Nat → Int → Int, KV m p = m b k) → (∀ q : Int, 0 ≤ q → q < p → ∀ (τ1 : aH) (x : Int), KV (rI (wI τ1 b k x)) q = KV (rI τ1) q) → ∃ (r : Int) (σ1 : aH), Ev sc (d + 1) mX10_moves [.ref 76, .ref (186 + j), .int (nZ v), .int (nZ 1)] τ (.inl (some (.int (nZ r)))) σ1 ∧ G σ1 u ∧ inR r ∧ ∀ σ2 : aH, wI σ1 b k r = σ2 → Fr ARm σ σ2 ∧ rI σ2 76 22 = p + 1 ∧ ∀ q : Int, 0 ≤ q → q < p + 1 → KV (rI σ2) q = rI σ (186 + j) q := by
    intro τ p b k v hF hs hb ho rv hA hb2 k0 hK hKo
    obtain ⟨r, σ1, he, hr, hF1, h2, h3⟩ := m_mv1 (sc := sc) (d := d) (v := v) (hF.g hG) hj rv hs hb
    have hF1' : Fr ARm σ σ1 := hF.trans (hF1.weak (fun a i z => Or.inl ⟨z.1, Or.inr (Or.inr z.2)⟩))
    have e22 : ∀ q : Int, 0 ≤ q → q < p → KV (rI σ1) q = KV (rI τ) q := fun q q0 q1 => by
      have f : ∀ (a : Nat) (i : Int), 0 ≤ i → (a ≠ 76 ∨ i ≠ 22) → rI σ1 a i = rI τ a i := fun a i i0 z => hF1.rw i0 (by show ¬ (a = 76 ∧ i = 22); omega)
      unfold KV
      rw [f 76 18 (by omega) (by omega), f 76 19 (by omega) (by omega)]
      by_cases c0 : q = 0
      · rw [if_pos c0, if_pos c0]
      · rw [if_neg c0, if_neg c0]
        by_cases c1 : q = 1
        · rw [if_pos c1, if_pos c1]
        · rw [if_neg c1, if_neg c1, f 184 _ (by omega) (by omega), f _ ((q - 2) % 4) (by omega) (by omega)]
    refine ⟨r, σ1, he, hF1'.g hG, hr, fun σ2 e2 => ⟨?_, ?_, fun q q0 q1 => ?_⟩⟩
    · rw [← e2]; exact hF1'.trans (Fr.w k0 hA)
    · rw [← e2]
      by_cases c : b = 76
      · rw [c]; rw [rI_wi (by omega)]; exact h2
      · rw [rI_wa (by omega)]; exact h2
    · rw [← e2]
      by_cases c : q = p
      · rw [c, hK, rI_ww hr, h3]; exact hF.rw hb.1 (nA p)
      · rw [hKo q q0 (by omega), e22 q q0 (by omega)]; exact ho q q0 (by omega)
  have kv3 : ∀ (m : Nat → Int → Int) (s : Int), 0 ≤ s → KV m (2 + 4 * s + 3) = m 184 s := fun m s s0 => by
    unfold KV
    rw [if_neg (by omega), if_neg (by omega), if_pos (by omega), show (2 + 4 * s + 3 - 2) / 4 = s by omega]
  have kvf : ∀ (m : Nat → Int → Int) (s f : Int), 0 ≤ s → 0 ≤ f → f < 3 → KV m (2 + 4 * s + f) = m (91 + s.toNat) f := fun m s f s0 f0 f1 => by
    unfold KV
    rw [if_neg (by omega), if_neg (by omega), if_neg (by omega), show (2 + 4 * s + f - 2) / 4 = s by omega, show (2 + 4 * s + f - 2) % 4 = f by omega]
  have far : ∀ (b : Nat) (k q : Int) (τ1 : aH) (x : Int), 0 ≤ k → 0 ≤ q → ¬ (q = 0 ∧ b = 76 ∧ k = 18) → ¬ (q = 1 ∧ b = 76 ∧ k = 19) → ¬ (2 ≤ q ∧ (q - 2) % 4 = 3 ∧ b = 184 ∧ k = (q - 2) / 4) → ¬ (2 ≤ q ∧ (q - 2) % 4 ≠ 3 ∧ b = 91 + ((q - 2) / 4).toNat ∧ k = (q - 2) % 4) → KV (rI (wI τ1 b k x)) q = KV (rI τ1) q := by
    intro b k q τ1 x k0 q0 h1 h2 h3 h4
    have f : ∀ (a : Nat) (i : Int), 0 ≤ i → ¬ (b = a ∧ k = i) → rI (wI τ1 b k x) a i = rI τ1 a i := fun a i i0 z => by
      by_cases c : a = b
      · rw [c]; exact rI_wi (by omega)
      · exact rI_wa c
    unfold KV
    by_cases c0 : q = 0
    · rw [if_pos c0, if_pos c0]; exact f _ _ (by omega) (by omega)
    · rw [if_neg c0, if_neg c0]
      by_cases c1 : q = 1
      · rw [if_pos c1, if_pos c1]; exact f _ _ (by omega) (by omega)
      · rw [if_neg c1, if_neg c1]
        by_cases c2 : (q - 2) % 4 = 3
        · rw [if_pos c2, if_pos c2]; exact f _ _ (by omega) (by omega)
        · rw [if_neg c2, if_neg c2]; exact f _ _ (by omega) (by omega)
  have loop : ∀ (g : Nat) (s : Int) (τ : aH), (8 - s).toNat = g → 0 ≤ s → s ≤ 8 → Fr ARm σ τ → rI τ 76 22 = 2 + 4 * s → (∀ q : Int, 0 ≤ q → q < 2 + 4 * s → KV (rI τ) q = rI σ (186 + j) q) → L_X10_movesAll_35 (Ev sc (d + 1)) sc P j 1 s τ := by
    intro g
    induction g with
    | zero =>
      intro s τ hg s0 s1 hF hs ho
      apply v_X10_movesAll_35 (hF.g hG) hj (by decide) (by omega)
      refine ⟨fun _ => ?_, fun z => by omega⟩
      rw [hP]; exact ⟨rfl, hF, fun p p0 p1 => ho p p0 (by omega)⟩
    | succ g ih =>
      intro s τ hg s0 s1 hF hs ho
      apply v_X10_movesAll_35 (hF.g hG) hj (by decide) (by omega)
      refine ⟨fun z => by omega, fun _ => ?_⟩
      have inner : ∀ (g2 : Nat) (f : Int) (τ2 : aH), (3 - f).toNat = g2 → 0 ≤ f → f ≤ 3 → Fr ARm σ τ2 → rI τ2 76 22 = 2 + 4 * s + f → (∀ q : Int, 0 ≤ q → q < 2 + 4 * s + f → KV (rI τ2) q = rI σ (186 + j) q) → L_X10_movesAll_44 (Ev sc (d + 1)) sc P j 1 s f τ2 := by
        intro g2
        induction g2 with
        | zero =>
          intro f τ2 hg2 f0 f1 hF2 hs2 ho2
          have ef : f = 3 := by omega
          obtain ⟨r, σ1, he, hG1, hr, hn⟩ := step τ2 (2 + 4 * s + f) 184 s (rI τ2 184 s) hF2 hs2 (by omega) ho2 (rI_R _ _ _) (Or.inr (Or.inr rfl)) (by omega) s0 (fun m => by rw [ef]; exact kv3 m s s0) (fun q q0 q1 τ1 x => far 184 s q τ1 x s0 q0 (by omega) (by omega) (by omega) (by omega))
          apply v_X10_movesAll_44 (hF2.g hG) hj (by decide) (by omega) (by omega)
          refine ⟨fun _ => ⟨by omega, r, σ1, he, hG1, hr, by omega, fun σ6 e6 => ⟨by omega, ?_⟩⟩, fun z => by omega⟩
          obtain ⟨a, b, c⟩ := hn σ6 e6
          exact ih (s + 1) σ6 (by omega) (by omega) (by omega) a (by rw [b]; omega) (fun q q0 q1 => c q q0 (by omega))
        | succ g2 ih2 =>
          intro f τ2 hg2 f0 f1 hF2 hs2 ho2
          obtain ⟨r, σ1, he, hG1, hr, hn⟩ := step τ2 (2 + 4 * s + f) (91 + s.toNat) f (rI τ2 (91 + s.toNat) f) hF2 hs2 (by omega) ho2 (rI_R _ _ _) (Or.inr (Or.inl ⟨by omega, by omega⟩)) (by omega) f0 (fun m => kvf m s f s0 f0 (by omega)) (fun q q0 q1 τ1 x => far _ f q τ1 x f0 q0 (by omega) (by omega) (by omega) (by omega))
          apply v_X10_movesAll_44 (hF2.g hG) hj (by decide) (by omega) (by omega)
          refine ⟨fun z => by omega, fun _ => ⟨by omega, by omega, by omega, r, σ1, he, hG1, hr, by omega, fun σ6 e6 => ⟨by omega, ?_⟩⟩⟩
          obtain ⟨a, b, c⟩ := hn σ6 e6
          exact ih2 (f + 1) σ6 (by omega) (by omega) (by omega) a (by rw [b]; omega) (fun q q0 q1 => c q q0 (by omega))
      exact inner _ 0 τ rfl (by omega) (by omega) hF (by omega) (fun q q0 q1 => ho q q0 (by omega))
  intro σ1 e1
  have hF1 : Fr ARm σ σ1 := by rw [← e1]; exact Fr.w (by omega) (Or.inl ⟨rfl, Or.inr (Or.inr rfl)⟩)
  obtain ⟨r, σ4, he4, hG4, hr4, hn4⟩ := step σ1 0 76 18 (rI σ1 76 18) hF1 (by rw [← e1]; exact rI_ww (by decide)) (by omega) (fun q a b => by omega) (rI_R _ _ _) (Or.inl ⟨rfl, Or.inl rfl⟩) (by omega) (by omega) (fun m => rfl) (fun q a b => by omega)
  refine ⟨r, σ4, he4, hG4, hr4, fun σ9 e9 => ?_⟩
  obtain ⟨a9, b9, c9⟩ := hn4 σ9 e9
  obtain ⟨r2, σ12, he12, hG12, hr12, hn12⟩ := step σ9 1 76 19 (rI σ9 76 19) a9 b9 (by omega) (fun q a b => c9 q a (by omega)) (rI_R _ _ _) (Or.inl ⟨rfl, Or.inr (Or.inl rfl)⟩) (by omega) (by omega) (fun m => rfl) (fun q a b τ1 x => far 76 19 q τ1 x (by omega) a (by omega) (by omega) (by omega) (by omega))
  refine ⟨r2, σ12, he12, hG12, hr12, fun σ17 e17 => ?_⟩
  obtain ⟨a17, b17, c17⟩ := hn12 σ17 e17
  exact loop _ 0 σ17 rfl (by omega) (by omega) a17 (by rw [b17]; omega) (fun q q0 q1 => c17 q q0 (by omega))
theorem m_image {m : Int} (hG : G σ u) (hm : rI σ 76 21 = m) (hb : 0 ≤ m ∧ m ≤ 3) : TI sc (d + 3) mX10_image [.ref 76] σ (fun r σ1 => (m = 3 → r = -1 ∧ Fr A0 σ σ1) ∧ (m < 3 → r = m + 1 ∧ Fr (fun a i => a = 186 + m.toNat ∨ (a = 76 ∧ (i = 0 ∨ i = 21 ∨ i = 22))) σ σ1 ∧ rI σ1 76 21 = m + 1 ∧ ∀ p : Int, 0 ≤ p → p < 34 → rI σ1 (186 + m.toNat) p = KV (rI σ) p) ∧ rI σ1 76 0 = 0) := by
  apply T.int
  apply t_X10_image hG
  intro σ1 e1
  obtain ⟨hG1, t1, hF1, hD1, o1⟩ := m_pre0 hG e1
  rw [(o1 76 21 (by omega)).trans hm]
  refine ⟨fun q => ⟨by omega, ?_⟩, fun q => ⟨-1, rfl, by decide, fun _ => ⟨rfl, hF1⟩, fun z => by omega, t1⟩⟩
  obtain ⟨σ5, he5, hF5, h5⟩ := m_save (sc := sc) (d := d) (j := m.toNat) hG1 (by omega)
  have nA : ∀ i : Int, i ≠ 22 → ¬ (fun (a : Nat) (i : Int) => a = 186 + m.toNat ∨ (a = 76 ∧ i = 22)) 76 i := fun i z => by show ¬ (76 = 186 + m.toNat ∨ (76 = 76 ∧ i = 22)); omega
  have s5 : rI σ5 76 21 = m := (hF5.rw (by omega) (nA 21 (by omega))).trans ((o1 76 21 (by omega)).trans hm)
  refine ⟨σ5, he5, hF5.g hG1, ?_⟩
  rw [s5]
  refine ⟨by omega, fun σ10 e10 => ?_⟩
  have s10 : rI σ10 76 21 = m + 1 := by rw [← e10]; exact rI_ww (by omega)
  rw [s10]
  refine ⟨m + 1, rfl, by omega, fun z => by omega, fun _ => ⟨rfl, ?_, s10, fun p p0 p1 => ?_⟩, ?_⟩
  · rw [← e10]
    exact ((hF1.weak (fun a i z => Or.inr ⟨z.1, Or.inl z.2⟩)).trans (hF5.weak (fun a i z => by rcases z with z | z; exact Or.inl z; exact Or.inr ⟨z.1, Or.inr (Or.inr z.2)⟩))).trans (Fr.w (by omega) (Or.inr ⟨rfl, Or.inr (Or.inl rfl)⟩))
  · rw [← e10, rI_wa (by omega), h5 p p0 p1]
    unfold KV
    rw [o1 76 18 (by omega), o1 76 19 (by omega), o1 184 _ (by omega), o1 (91 + ((p - 2) / 4).toNat) _ (by omega)]
  · rw [← e10, rI_wi (by omega), hF5.rw (by omega) (nA 0 (by omega))]; exact t1
theorem m_restore {m : Int} (hG : G σ u) (hm : rI σ 76 21 = m) (hb : 0 ≤ m ∧ m ≤ 3) : TI sc (d + 3) mX10_restore [.ref 76] σ (fun r σ1 => (m = 0 → r = -1 ∧ Fr A0 σ σ1) ∧ (0 < m → r = m - 1 ∧ Fr (fun a i => ARm a i ∨ (a = 76 ∧ (i = 0 ∨ i = 21))) σ σ1 ∧ rI σ1 76 21 = m - 1 ∧ ∀ p : Int, 0 ≤ p → p < 34 → KV (rI σ1) p = rI σ (186 + (m - 1).toNat) p) ∧ rI σ1 76 0 = 0) := by
  apply T.int
  apply t_X10_restore hG
  intro σ1 e1
  obtain ⟨hG1, t1, hF1, hD1, o1⟩ := m_pre0 hG e1
  rw [(o1 76 21 (by omega)).trans hm]
  refine ⟨fun q => ⟨by omega, fun σ5 e5 => ?_⟩, fun q => ⟨-1, rfl, by decide, fun _ => ⟨rfl, hF1⟩, fun z => by omega, t1⟩⟩
  have s5 : rI σ5 76 21 = m - 1 := by rw [← e5]; exact rI_ww (by omega)
  have hF5 : Fr (fun a i => a = 76 ∧ i = 21) σ1 σ5 := by rw [← e5]; exact Fr.w (by omega) ⟨rfl, rfl⟩
  obtain ⟨σ9, he9, hF9, h9⟩ := m_load (sc := sc) (d := d) (j := (m - 1).toNat) (hF5.g hG1) (by omega)
  have nA : ∀ i : Int, (i = 0 ∨ i = 21) → ¬ ARm 76 i := fun i z => by show ¬ ((76 = 76 ∧ (i = 18 ∨ i = 19 ∨ i = 22)) ∨ ((91 ≤ 76 ∧ 76 ≤ 98) ∧ _) ∨ 76 = 184); omega
  have s9 : rI σ9 76 21 = m - 1 := (hF9.rw (by omega) (nA 21 (by omega))).trans s5
  rw [s5]
  refine ⟨by omega, σ9, he9, hF9.g (hF5.g hG1), ?_⟩
  rw [s9]
  refine ⟨m - 1, rfl, by omega, fun z => by omega, fun _ => ⟨rfl, ?_, s9, fun p p0 p1 => ?_⟩, ?_⟩
  · exact ((hF1.weak (fun a i z => Or.inr ⟨z.1, Or.inl z.2⟩)).trans (hF5.weak (fun a i z => Or.inr ⟨z.1, Or.inr z.2⟩))).trans (hF9.weak (fun a i z => Or.inl z))
  · rw [h9 p p0 p1, ← e5, rI_wa (by omega)]; exact o1 _ _ (by omega)
  · rw [hF9.rw (by omega) (nA 0 (by omega)), ← e5, rI_wi (by omega)]; exact t1
end
