/-! THE REFERENCE: suns and rates of the text. -/
theorem RepU_tell {fr va fr' va' : Int → Int} {K K' p m x : Int} {E : Nat → Option Int} (h : RepU fr va K E) (hm : 0 ≤ m ∧ m < 1440) (ho : ∀ i : Int, 0 ≤ i → i < K → i ≠ p → fr' i = fr i ∧ va' i = va i) (hf : fr' p = m) (hv : va' p = x) (hp : 0 ≤ p) (hk : (p < K ∧ fr p = m ∧ K' = K) ∨ (p = K ∧ K' = K + 1 ∧ ∀ i : Int, 0 ≤ i → i < K → fr i ≠ m)) (h20 : K' ≤ 20) : RepU fr' va' K' (fun t => if t = m.toNat then some x else E t) := by
  obtain ⟨h1, h2, h3, h4⟩ := h
  have pk : p < K' := by rcases hk with ⟨a, _, b⟩ | ⟨a, b, _⟩ <;> omega
  have inK : ∀ i : Int, 0 ≤ i → i < K' → i ≠ p → i < K := fun i a b c => by rcases hk with ⟨_, _, z⟩ | ⟨_, z, _⟩ <;> omega
  have ne : ∀ i : Int, 0 ≤ i → i < K → i ≠ p → fr i ≠ m := fun i a b c e => by
    rcases hk with ⟨z1, z2, _⟩ | ⟨_, _, z⟩
    · exact c (h3 i p a b hp z1 (e.trans z2.symm))
    · exact z i a b e
  refine ⟨by omega, fun i i0 i1 => ?_, fun i j i0 i1 j0 j1 e => ?_, fun t v e => ?_⟩
  · by_cases c : i = p
    · rw [c, hf, hv]; exact ⟨hm.1, hm.2, if_pos rfl⟩
    · have b := inK i i0 i1 c
      obtain ⟨e1, e2⟩ := ho i i0 b c
      have b2 := h2 i i0 b
      have n := ne i i0 b c
      rw [e1, e2]
      exact ⟨b2.1, b2.2.1, by dsimp only; rw [if_neg (by omega)]; exact b2.2.2⟩
  · by_cases c : i = p
    · by_cases c2 : j = p
      · omega
      · have b := inK j j0 j1 c2
        rw [c, hf, (ho j j0 b c2).1] at e
        exact absurd e.symm (ne j j0 b c2)
    · have b := inK i i0 i1 c
      by_cases c2 : j = p
      · rw [c2, hf, (ho i i0 b c).1] at e
        exact absurd e (ne i i0 b c)
      · have b2 := inK j j0 j1 c2
        rw [(ho i i0 b c).1, (ho j j0 b2 c2).1] at e
        exact h3 i j i0 b j0 b2 e
  · by_cases c : t = m.toNat
    · exact ⟨p, hp, pk, by rw [hf]; omega⟩
    · have e' : E t = some v := by dsimp only at e; rw [if_neg c] at e; exact e
      obtain ⟨i, i0, i1, ie⟩ := h4 t v e'
      have np : i ≠ p := fun z => by
        rcases hk with ⟨_, z2, _⟩ | ⟨z2, _⟩
        · rw [z, z2] at ie; omega
        · omega
      exact ⟨i, i0, by rcases hk with ⟨_, _, z⟩ | ⟨_, z, _⟩ <;> omega, by rw [(ho i i0 i1 np).1]; exact ie⟩
def sunV (m : Nat → Int → Int) (a : Nat) : Int := 10 * ((m a 1 + 1) + 3 * (m a 2 + 1)) + m a 3
def SunR (m : Nat → Int → Int) (b q : Nat) (E : Nat → Option Int) : Prop := RepU (fun k => m (b + k.toNat) 0) (fun k => sunV m (b + k.toNat)) (m q 6) E ∧ ∀ k : Int, 0 ≤ k → k < m q 6 → (-1 ≤ m (b + k.toNat) 1 ∧ m (b + k.toNat) 1 ≤ 1) ∧ (-1 ≤ m (b + k.toNat) 2 ∧ m (b + k.toNat) 2 ≤ 1) ∧ (0 ≤ m (b + k.toNat) 3 ∧ m (b + k.toNat) 3 ≤ 9)
def RatR (m : Nat → Int → Int) (b q : Nat) (E : Nat → Option Int) : Prop := RepU (fun k => m (b + k.toNat) 0) (fun k => m (b + k.toNat) 1) (m q 7) E ∧ ∀ k : Int, 0 ≤ k → k < m q 7 → 0 ≤ m (b + k.toNat) 1 ∧ m (b + k.toNat) 1 ≤ 9
/-- what has been read, while there is no fault -/
def Mc (m : Nat → Int → Int) (K : Nat → Int) (D : Nat → Int → Int) (E : Nat → Nat → Option Int) : Prop := (∀ i : Nat, i ≤ 5 → m 79 i = K i) ∧ (∀ s : Int, 0 ≤ s → s < K 2 → ∀ f : Nat, f ≤ 6 → m (82 + s.toNat) f = D f s) ∧ SunR m 101 79 (E 0) ∧ RatR m 143 79 (E 1)
theorem RepU.cg {fr va fr' va' : Int → Int} {K : Int} {E : Nat → Option Int} (h : RepU fr va K E) (e : ∀ i : Int, 0 ≤ i → i < K → fr' i = fr i ∧ va' i = va i) : RepU fr' va' K E := by
  obtain ⟨a1, a2, a3, a4⟩ := h
  refine ⟨a1, fun i i0 i1 => ?_, fun i j i0 i1 j0 j1 q => ?_, fun t v q => ?_⟩
  · rw [(e i i0 i1).1, (e i i0 i1).2]; exact a2 i i0 i1
  · rw [(e i i0 i1).1, (e j j0 j1).1] at q; exact a3 i j i0 i1 j0 j1 q
  · obtain ⟨i, i0, i1, ie⟩ := a4 t v q
    exact ⟨i, i0, i1, by rw [(e i i0 i1).1]; exact ie⟩
theorem SunR.congr {m m1 : Nat → Int → Int} {b q : Nat} {E : Nat → Option Int} (h : SunR m b q E) (h1 : m1 q 6 = m q 6) (h2 : ∀ (k f : Int), 0 ≤ k → k < 20 → 0 ≤ f → f ≤ 3 → m1 (b + k.toNat) f = m (b + k.toNat) f) : SunR m1 b q E := by
  have a1 := h.1.1
  have rr : ∀ (k f : Int), 0 ≤ k → k < m q 6 → 0 ≤ f → f ≤ 3 → m1 (b + k.toNat) f = m (b + k.toNat) f := fun k f p r f0 f1 => h2 k f p (by omega) f0 f1
  unfold SunR
  rw [h1]
  refine ⟨h.1.cg (fun i i0 i1 => ⟨rr i 0 i0 i1 (by omega) (by omega), ?_⟩), fun k k0 k1 => ?_⟩
  · show sunV m1 (b + i.toNat) = sunV m (b + i.toNat)
    unfold sunV
    rw [rr i 1 i0 i1 (by omega) (by omega), rr i 2 i0 i1 (by omega) (by omega), rr i 3 i0 i1 (by omega) (by omega)]
  · rw [rr k 1 k0 k1 (by omega) (by omega), rr k 2 k0 k1 (by omega) (by omega), rr k 3 k0 k1 (by omega) (by omega)]; exact h.2 k k0 k1
theorem RatR.congr {m m1 : Nat → Int → Int} {b q : Nat} {E : Nat → Option Int} (h : RatR m b q E) (h1 : m1 q 7 = m q 7) (h2 : ∀ (k f : Int), 0 ≤ k → k < 20 → 0 ≤ f → f ≤ 1 → m1 (b + k.toNat) f = m (b + k.toNat) f) : RatR m1 b q E := by
  have a1 := h.1.1
  have rr : ∀ (k f : Int), 0 ≤ k → k < m q 7 → 0 ≤ f → f ≤ 1 → m1 (b + k.toNat) f = m (b + k.toNat) f := fun k f p r f0 f1 => h2 k f p (by omega) f0 f1
  unfold RatR
  rw [h1]
  refine ⟨h.1.cg (fun i i0 i1 => ⟨rr i 0 i0 i1 (by omega) (by omega), rr i 1 i0 i1 (by omega) (by omega)⟩), fun k k0 k1 => ?_⟩
  rw [rr k 1 k0 k1 (by omega) (by omega)]; exact h.2 k k0 k1
theorem Mc.fr {A : Nat → Int → Prop} {σ τ : aH} {K : Nat → Int} {D : Nat → Int → Int} {E : Nat → Nat → Option Int} (h : Mc (rI σ) K D E) (hF : Fr A σ τ) (hA : ∀ (a : Nat) (i : Int), 79 ≤ a → a ≤ 162 → ¬ A a i) (h2 : K 2 ≤ 8) : Mc (rI τ) K D E :=
  ⟨fun i hi => (hF.rw (by omega) (hA _ _ (by omega) (by omega))).trans (h.1 i hi), fun s s0 s1 f hf => (hF.rw (by omega) (hA _ _ (by omega) (by omega))).trans (h.2.1 s s0 s1 f hf), h.2.2.1.congr (hF.rw (by omega) (hA _ _ (by omega) (by omega))) (fun k f k0 k1 f0 _ => hF.rw f0 (hA _ _ (by omega) (by omega))), h.2.2.2.congr (hF.rw (by omega) (hA _ _ (by omega) (by omega))) (fun k f k0 k1 f0 _ => hF.rw f0 (hA _ _ (by omega) (by omega)))⟩
theorem Mc.to {m : Nat → Int → Int} {K K1 : Nat → Int} {D : Nat → Int → Int} {E : Nat → Nat → Option Int} (h : Mc m K D E) (hK : ∀ i : Nat, i ≤ 5 → K1 i = K i) : Mc m K1 D E :=
  ⟨fun i hi => (h.1 i hi).trans (hK i hi).symm, fun s s0 s1 f hf => h.2.1 s s0 (by rw [hK 2 (by omega)] at s1; exact s1) f hf, h.2.2⟩
section
variable {sc : Nat × (Nat → Int32)} {d : Nat} {σ : aH} {u : Nat} {c : Int → Int} {e : Int} {K : Nat → Int} {D : Nat → Int → Int} {E : Nat → Nat → Option Int}
theorem MK.to {K1 : Nat → Int} (h : MK σ c e K) (h9 : K1 9 = K 9) (h10 : K1 10 = K 10) (h11 : K1 11 = K 11) : MK σ c e K1 := ⟨h.1, by rw [h9]; exact h.2.1, by rw [h10]; exact h.2.2.1, h.2.2.2.1, by rw [h9, h11]; exact h.2.2.2.2⟩
theorem MK.fr {A : Nat → Int → Prop} {τ : aH} (h : MK σ c e K) (hF : Fr A σ τ) (h1 : ∀ i : Int, (i = 2 ∨ i = 4 ∨ i = 5 ∨ i = 6) → ¬ A 76 i) (h2 : ∀ i : Int, ¬ A 77 i) : MK τ c e K := ⟨h.1.fr hF (h1 2 (by omega)) h2, (hF.rw (by omega) (h1 5 (by omega))).trans h.2.1, (hF.rw (by omega) (h1 6 (by omega))).trans h.2.2.1, by rw [hF.rw (by omega) (h1 4 (by omega))]; exact h.2.2.2.1, fun z => (hF.rw (by omega) (h1 4 (by omega))).trans (h.2.2.2.2 z)⟩
theorem numK_0 {lo hi : Int} (h : numK c lo hi K 9 = 0) : K 9 = 0 := by
  by_cases z : K 9 = 0
  · exact z
  · exact absurd ((numK_stay (c := c) (lo := lo) (hi := hi) z).1.symm.trans h) z
abbrev ASu : Nat → Int → Prop := fun a i => (a = 76 ∧ (i = 4 ∨ i = 5 ∨ i = 6 ∨ i = 38)) ∨ (a = 79 ∧ i = 6) ∨ (101 ≤ a ∧ a ≤ 120)
theorem m_sunHere (hG : G σ u) (hK : MK σ c e K) (hC : K 9 = 0 → Mc (rI σ) K D E) (h2 : 0 ≤ K 2 ∧ K 2 ≤ 8) (hn : K 9 = 0 → rI σ 79 6 ≤ rI σ 76 38 ∧ rI σ 76 38 < 20 ∧ 0 ≤ rI σ 76 38) : TV sc (d + 4) mX10_sunHere [.ref 76] σ (fun σ1 => Fr ASu σ σ1 ∧ MK σ1 c e (suF c (K, D, E)).1 ∧ ((suF c (K, D, E)).1 9 = 0 → Mc (rI σ1) (suF c (K, D, E)).1 (suF c (K, D, E)).2.1 (suF c (K, D, E)).2.2 ∧ rI σ1 76 38 = rI σ 76 38 + 1 ∧ rI σ1 79 6 ≤ rI σ1 76 38)) := by
  have k1 : ∀ i : Nat, i ≠ 7 → suK1 c K i = K i := fun i hi => kset_ne hi
  have hK1 : MK σ c e (suK1 c K) := hK.to (k1 9 (by decide)) (k1 10 (by decide)) (k1 11 (by decide))
  have kl : ∀ i : Nat, i ≤ 5 → suK5 c K i = K i := fun i hi => by
    show numK c 0 9 (numK c 0 2 (numK c 0 2 (numK c 0 1439 (suK1 c K)))) i = K i
    rw [numK_ne (by omega) (by omega) (by omega), numK_ne (by omega) (by omega) (by omega), numK_ne (by omega) (by omega) (by omega), numK_ne (by omega) (by omega) (by omega)]; exact k1 i (by omega)
  obtain ⟨r5, σ1, he1, hr1, hF1, hM1, v1⟩ := m_number (sc := sc) (d := d) (lo := 0) (hi := 1439) hG hK1 (by decide) (by decide)
  obtain ⟨r10, σ2, he2, hr2, hF2, hM2, v2⟩ := m_number (sc := sc) (d := d) (lo := 0) (hi := 2) (hF1.g hG) hM1 (by decide) (by decide)
  obtain ⟨r15, σ3, he3, hr3, hF3, hM3, v3⟩ := m_number (sc := sc) (d := d) (lo := 0) (hi := 2) (hF2.g (hF1.g hG)) hM2 (by decide) (by decide)
  obtain ⟨r20, σ4, he4, hr4, hF4, hM4, v4⟩ := m_number (sc := sc) (d := d) (lo := 0) (hi := 9) (hF3.g (hF2.g (hF1.g hG))) hM3 (by decide) (by decide)
  have hF04 : Fr A456 σ σ4 := ((hF1.trans hF2).trans hF3).trans hF4
  have hFs : Fr ASu σ σ4 := hF04.weak (fun a i z => Or.inl ⟨z.1, by have := z.2; omega⟩)
  have hG4 : G σ4 u := hF04.g hG
  have s5 : rI σ4 76 5 = suK5 c K 9 := hM4.2.1
  apply T.void
  apply t_X10_sunHere hG
  refine ⟨r5, σ1, he1, hF1.g hG, hr1, r10, σ2, he2, hF2.g (hF1.g hG), hr2, r15, σ3, he3, hF3.g (hF2.g (hF1.g hG)), hr3, r20, σ4, he4, hG4, hr4, fun q => ?_, fun q => ⟨rfl, hFs, hM4, fun z => absurd (s5.trans z) q⟩⟩
  have z5 : suK5 c K 9 = 0 := s5.symm.trans q
  have z4 : suK4 c K 9 = 0 := numK_0 (c := c) (lo := 0) (hi := 9) z5
  have z3 : suK3 c K 9 = 0 := numK_0 (c := c) (lo := 0) (hi := 2) z4
  have z2 : suK2 c K 9 = 0 := numK_0 (c := c) (lo := 0) (hi := 2) z3
  have z1 : K 9 = 0 := (k1 9 (by decide)).symm.trans (numK_0 (c := c) (lo := 0) (hi := 1439) z2)
  have b1 : 0 ≤ r5 ∧ r5 ≤ 1439 := by rw [v1]; exact numV_bd.2 z2
  have b2 : 0 ≤ r10 ∧ r10 ≤ 2 := by rw [v2]; exact numV_bd.2 z3
  have b3 : 0 ≤ r15 ∧ r15 ≤ 2 := by rw [v3]; exact numV_bd.2 z4
  have b4 : 0 ≤ r20 ∧ r20 ≤ 9 := by rw [v4]; exact numV_bd.2 z5
  obtain ⟨n1, n2, n3⟩ := hn z1
  have hC4 : Mc (rI σ4) K D E := (hC z1).fr hF04 (fun a i p q => A456_a (by omega) i) h2.2
  have e38 : rI σ4 76 38 = rI σ 76 38 := hF04.rw (by omega) (by show ¬ (76 = 76 ∧ ((38 : Int) = 4 ∨ (38 : Int) = 5 ∨ (38 : Int) = 6)); omega)
  have e796 : rI σ4 79 6 = rI σ 79 6 := hF04.rw (by omega) (A456_a (by decide) _)
  obtain ⟨N, hN⟩ : ∃ N : Int, N = rI σ4 79 6 := ⟨_, rfl⟩
  have hU := hC4.2.2.1.1
  have hNb := hU.1
  rw [← hN] at hNb e796
  rw [e38]
  refine ⟨by omega, fun σ22 e22 => ?_⟩
  have hF22 : Fr (fun a i => a = 76 ∧ i = 38) σ4 σ22 := by rw [← e22]; exact Fr.w (by omega) ⟨rfl, rfl⟩
  have s22 : rI σ22 76 38 = rI σ 76 38 + 1 := by rw [← e22]; exact rI_ww (by omega)
  have n22 : rI σ22 79 6 = N := by rw [← e22, rI_wa (by decide), hN]
  have r22 : ∀ (a : Nat) (i : Int), a ≠ 76 → rI σ22 a i = rI σ4 a i := fun a i h => by rw [← e22]; exact rI_wa h
  obtain ⟨P, hP⟩ : ∃ P : aO → aH → Prop, P = QV (fun σ1 => Fr ASu σ σ1 ∧ MK σ1 c e (suF c (K, D, E)).1 ∧ ((suF c (K, D, E)).1 9 = 0 → Mc (rI σ1) (suF c (K, D, E)).1 (suF c (K, D, E)).2.1 (suF c (K, D, E)).2.2 ∧ rI σ1 76 38 = rI σ 76 38 + 1 ∧ rI σ1 79 6 ≤ rI σ1 76 38)) := ⟨_, rfl⟩
  rw [← hP]
  have put : ∀ p : Int, 0 ≤ p → p < 20 → ((p < N ∧ rI σ4 (101 + p.toNat) 0 = r5) ∨ (p = N ∧ ∀ i : Int, 0 ≤ i → i < N → rI σ4 (101 + i.toNat) 0 ≠ r5)) → L_X10_sunHere_84 (Ev sc (d + 3)) sc P r5 r10 r15 r20 p σ22 := by
    intro p p0 p1 hp
    apply v_X10_sunHere_84 (hF22.g hG4) (by omega) (by omega) (by omega) (by omega) (by omega)
    refine ⟨by omega, fun σa ea => ⟨by omega, by omega, fun σb eb => ⟨by omega, by omega, fun σd ed => ⟨by omega, fun σf ef => ?_⟩⟩⟩⟩
    have hFf : Fr (fun a _ => a = 101 + p.toNat) σ22 σf := by
      rw [← ef, ← ed, ← eb, ← ea]
      exact (((Fr.w (by omega) rfl).trans (Fr.w (by omega) rfl)).trans (Fr.w (by omega) rfl)).trans (Fr.w (by omega) rfl)
    have g0 : rI σf (101 + p.toNat) 0 = r5 := by rw [← ef, rI_wi (by decide), ← ed, rI_wi (by decide), ← eb, rI_wi (by decide), ← ea]; exact rI_ww (by omega)
    have g1 : rI σf (101 + p.toNat) 1 = r10 - 1 := by rw [← ef, rI_wi (by decide), ← ed, rI_wi (by decide), ← eb]; exact rI_ww (by omega)
    have g2 : rI σf (101 + p.toNat) 2 = r15 - 1 := by rw [← ef, rI_wi (by decide), ← ed]; exact rI_ww (by omega)
    have g3 : rI σf (101 + p.toNat) 3 = r20 := by rw [← ef]; exact rI_ww (by omega)
    have nf : rI σf 79 6 = N := (hFf.rw (by omega) (by show ¬ (79 = 101 + p.toNat); omega)).trans n22
    have done : ∀ (N' : Int) (σg : aH), ((p < N ∧ N' = N) ∨ (p = N ∧ N' = N + 1)) → wI σf 79 6 N' = σg → P (.inl none) σg := by
      intro N' σg hN' eg
      have hFg : Fr (fun a i => a = 101 + p.toNat ∨ (a = 79 ∧ i = 6)) σ22 σg := by rw [← eg]; exact (hFf.weak (fun a i z => Or.inl z)).trans (Fr.w (by omega) (Or.inr ⟨rfl, rfl⟩))
      have oth : ∀ (a : Nat) (i : Int), 0 ≤ i → a ≠ 101 + p.toNat → (a ≠ 79 ∨ i ≠ 6) → a ≠ 76 → rI σg a i = rI σ4 a i := fun a i i0 x1 x2 x3 => (hFg.rw i0 (by show ¬ (a = 101 + p.toNat ∨ (a = 79 ∧ i = 6)); omega)).trans (r22 a i x3)
      have row : ∀ i : Int, rI σg (101 + p.toNat) i = rI σf (101 + p.toNat) i := fun i => by rw [← eg]; exact rI_wa (by omega)
      have ng : rI σg 79 6 = N' := by rw [← eg]; exact rI_ww (by omega)
      have s38 : rI σg 76 38 = rI σ 76 38 + 1 := (hFg.rw (by omega) (by show ¬ (76 = 101 + p.toNat ∨ (76 = 79 ∧ _)); omega)).trans s22
      have hMK : MK σg c e (suK5 c K) := by
        have h4' : MK σ22 c e (suK5 c K) := MK.fr (K := suK5 c K) hM4 hF22 (fun i z => by show ¬ (76 = 76 ∧ i = 38); omega) (fun i => by show ¬ (77 = 76 ∧ i = 38); omega)
        exact h4'.fr hFg (fun i z => by show ¬ (76 = 101 + p.toNat ∨ (76 = 79 ∧ i = 6)); omega) (fun i => by show ¬ (77 = 101 + p.toNat ∨ (77 = 79 ∧ i = 6)); omega)
      rw [hP]
      refine ⟨rfl, ?_, hMK, fun _ => ⟨⟨fun i hi => ?_, fun s q0 q1 f hf => ?_, ⟨?_, fun k k0 k1' => ?_⟩, ?_⟩, s38, by rw [ng, s38]; omega⟩⟩
      · exact (hFs.trans (hF22.weak (fun a i z => Or.inl ⟨z.1, Or.inr (Or.inr (Or.inr z.2))⟩))).trans (hFg.weak (fun a i z => by rcases z with z | z; exact Or.inr (Or.inr (by omega)); exact Or.inr (Or.inl z)))
      · rw [oth 79 i (by omega) (by omega) (by omega) (by decide)]
        exact (hC4.1 i hi).trans (kl i hi).symm
      · have e2 : suK5 c K 2 = K 2 := kl 2 (by decide)
        have q1' : s < K 2 := by rw [← e2]; exact q1
        rw [oth (82 + s.toNat) f (by omega) (by omega) (by omega) (by omega)]
        exact hC4.2.1 s q0 q1' f hf
      · rw [ng]
        have tl : (suF c (K, D, E)).2.2 0 = fun t => if t = r5.toNat then some (10 * (r10 + 3 * r15) + r20) else E 0 t := by
          funext t
          show tellE E 0 (suM c K) (10 * (suI c K + 3 * suJ c K) + suN c K) 0 t = _
          have w1 : suM c K = r5 := v1.symm
          have w2 : suI c K = r10 := v2.symm
          have w3 : suJ c K = r15 := v3.symm
          have w4 : suN c K = r20 := v4.symm
          rw [w1, w2, w3, w4]
          unfold tellE
          by_cases z : t = r5.toNat
          · rw [if_pos ⟨rfl, z⟩, if_pos z]
          · rw [if_neg (fun y => z y.2), if_neg z]
        rw [tl]
        refine RepU_tell (p := p) hU (by omega) (fun i i0 i1 ni => ?_) ?_ ?_ p0 ?_ (by omega)
        · have hi : i < N := by rw [hN]; exact i1
          have rr : ∀ f : Int, 0 ≤ f → rI σg (101 + i.toNat) f = rI σ4 (101 + i.toNat) f := fun f f0 => oth _ f f0 (by omega) (by omega) (by omega)
          refine ⟨rr 0 (by omega), ?_⟩
          unfold sunV
          rw [rr 1 (by omega), rr 2 (by omega), rr 3 (by omega)]
        · show rI σg (101 + p.toNat) 0 = r5
          rw [row]; exact g0
        · show sunV (rI σg) (101 + p.toNat) = _
          unfold sunV
          rw [row, row, row, g1, g2, g3]; omega
        · rw [← hN]
          rcases hp with ⟨x1, x2⟩ | ⟨x1, x2⟩
          · exact Or.inl ⟨x1, x2, by omega⟩
          · exact Or.inr ⟨x1, by omega, x2⟩
      · rw [ng] at k1'
        by_cases z : k = p
        · rw [z, row, row, row, g1, g2, g3]; omega
        · have hk : k < N := by omega
          have rr : ∀ f : Int, 0 ≤ f → rI σg (101 + k.toNat) f = rI σ4 (101 + k.toNat) f := fun f f0 => oth _ f f0 (by omega) (by omega) (by omega)
          rw [rr 1 (by omega), rr 2 (by omega), rr 3 (by omega)]
          exact hC4.2.2.1.2 k k0 (by rw [← hN]; exact hk)
      · have : RatR (rI σg) 143 79 (E 1) := hC4.2.2.2.congr (oth 79 7 (by omega) (by omega) (by omega) (by decide)) (fun k f k0 k1 f0 f1 => oth _ f f0 (by omega) (by omega) (by omega))
        have tl : (suF c (K, D, E)).2.2 1 = E 1 := by
          funext t
          show tellE E 0 (suM c K) (10 * (suI c K + 3 * suJ c K) + suN c K) 1 t = _
          unfold tellE
          rw [if_neg (fun y => absurd y.1 (by decide))]
        rw [tl]; exact this
    rw [nf]
    exact ⟨fun z => ⟨by omega, fun σg eg => done _ σg (Or.inl ⟨by omega, by omega⟩) eg⟩, fun z => ⟨by omega, fun σg eg => done _ σg (Or.inr ⟨z, rfl⟩) eg⟩⟩
  have loop : ∀ (g : Nat) (p : Int), (N - p).toNat = g → 0 ≤ p → p ≤ N → (∀ i : Int, 0 ≤ i → i < p → rI σ4 (101 + i.toNat) 0 ≠ r5) → L_X10_sunHere_53 (Ev sc (d + 3)) sc P r5 r10 r15 r20 p σ22 := by
    intro g
    induction g with
    | zero =>
      intro p hg p0 p1 ho
      apply v_X10_sunHere_53 (hF22.g hG4) (by omega) (by omega) (by omega) (by omega) (by omega)
      rw [n22]
      exact ⟨fun _ => put p p0 (by omega) (Or.inr ⟨by omega, fun i a b => ho i a (by omega)⟩), fun z => by omega⟩
    | succ g ih =>
      intro p hg p0 p1 ho
      apply v_X10_sunHere_53 (hF22.g hG4) (by omega) (by omega) (by omega) (by omega) (by omega)
      rw [n22, r22 (101 + p.toNat) 0 (by omega)]
      refine ⟨fun z => by omega, fun _ => ⟨by omega, fun z => put p p0 (by omega) (Or.inl ⟨by omega, z⟩), fun z => ⟨by omega, ih (p + 1) (by omega) (by omega) (by omega) (fun i a b => ?_)⟩⟩⟩
      by_cases y : i = p
      · rw [y]; exact z
      · exact ho i a (by omega)
  exact loop _ 0 rfl (by omega) hNb.1 (fun i a b => by omega)
end
