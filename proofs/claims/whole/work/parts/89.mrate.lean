/-! THE REFERENCE: rates, full, of a stall. -/
section
variable {sc : Nat × (Nat → Int32)} {d : Nat} {σ : aH} {u : Nat} {c : Int → Int} {e : Int} {K : Nat → Int} {D : Nat → Int → Int} {E : Nat → Nat → Option Int}
abbrev ARa : Nat → Int → Prop := fun a i => (a = 76 ∧ (i = 4 ∨ i = 5 ∨ i = 6 ∨ i = 39)) ∨ (a = 79 ∧ i = 7) ∨ (143 ≤ a ∧ a ≤ 162)
theorem m_rateHere (hG : G σ u) (hK : MK σ c e K) (hC : K 9 = 0 → Mc (rI σ) K D E) (h2 : 0 ≤ K 2 ∧ K 2 ≤ 8) (hn : K 9 = 0 → rI σ 79 7 ≤ rI σ 76 39 ∧ rI σ 76 39 < 20 ∧ 0 ≤ rI σ 76 39) : TV sc (d + 4) mX10_rateHere [.ref 76] σ (fun σ1 => Fr ARa σ σ1 ∧ MK σ1 c e (raF c (K, D, E)).1 ∧ ((raF c (K, D, E)).1 9 = 0 → Mc (rI σ1) (raF c (K, D, E)).1 (raF c (K, D, E)).2.1 (raF c (K, D, E)).2.2 ∧ rI σ1 76 39 = rI σ 76 39 + 1 ∧ rI σ1 79 7 ≤ rI σ1 76 39)) := by
  have k1 : ∀ i : Nat, i ≠ 8 → raK1 c K i = K i := fun i hi => kset_ne hi
  have hK1 : MK σ c e (raK1 c K) := hK.to (k1 9 (by decide)) (k1 10 (by decide)) (k1 11 (by decide))
  obtain ⟨K2, hK2⟩ : ∃ K2 : Nat → Int, K2 = numK c 0 1439 (raK1 c K) := ⟨_, rfl⟩
  obtain ⟨K3, hK3⟩ : ∃ K3 : Nat → Int, K3 = numK c 0 9 K2 := ⟨_, rfl⟩
  have kl : ∀ i : Nat, i ≤ 5 → K3 i = K i := fun i hi => by
    rw [hK3, hK2, numK_ne (by omega) (by omega) (by omega), numK_ne (by omega) (by omega) (by omega)]; exact k1 i (by omega)
  have eF : raF c (K, D, E) = (K3, D, tellE E 1 (numV c 0 1439 (raK1 c K)) (numV c 0 9 K2)) := by rw [hK3, hK2]; rfl
  rw [eF]
  dsimp only
  obtain ⟨r5, σ1, he1, hr1, hF1, hM1, v1⟩ := m_number (sc := sc) (d := d) (lo := 0) (hi := 1439) hG hK1 (by decide) (by decide)
  rw [← hK2] at hM1
  obtain ⟨r20, σ4, he4, hr4, hF4, hM4, v4⟩ := m_number (sc := sc) (d := d) (lo := 0) (hi := 9) (hF1.g hG) hM1 (by decide) (by decide)
  rw [← hK3] at hM4
  rw [← v1, ← v4]
  have hF04 : Fr A456 σ σ4 := hF1.trans hF4
  have hFs : Fr ARa σ σ4 := hF04.weak (fun a i z => Or.inl ⟨z.1, by have := z.2; omega⟩)
  have hG4 : G σ4 u := hF04.g hG
  have s5 : rI σ4 76 5 = K3 9 := hM4.2.1
  apply T.void
  apply t_X10_rateHere hG
  refine ⟨r5, σ1, he1, hF1.g hG, hr1, r20, σ4, he4, hG4, hr4, fun q => ?_, fun q => ⟨rfl, hFs, hM4, fun z => absurd (s5.trans z) q⟩⟩
  have z5 : K3 9 = 0 := s5.symm.trans q
  have z4 : K2 9 = 0 := numK_0 (c := c) (lo := 0) (hi := 9) (by rw [← hK3]; exact z5)
  have z1 : K 9 = 0 := (k1 9 (by decide)).symm.trans (numK_0 (c := c) (lo := 0) (hi := 1439) (by rw [← hK2]; exact z4))
  have b1 : 0 ≤ r5 ∧ r5 ≤ 1439 := by rw [v1]; exact numV_bd.2 (by rw [← hK2]; exact z4)
  have b4 : 0 ≤ r20 ∧ r20 ≤ 9 := by rw [v4]; exact numV_bd.2 (by rw [← hK3]; exact z5)
  obtain ⟨n1, n2, n3⟩ := hn z1
  have hC4 : Mc (rI σ4) K D E := (hC z1).fr hF04 (fun a i p q => A456_a (by omega) i) h2.2
  have e38 : rI σ4 76 39 = rI σ 76 39 := hF04.rw (by omega) (by show ¬ (76 = 76 ∧ ((39 : Int) = 4 ∨ (39 : Int) = 5 ∨ (39 : Int) = 6)); omega)
  have e796 : rI σ4 79 7 = rI σ 79 7 := hF04.rw (by omega) (A456_a (by decide) _)
  obtain ⟨N, hN⟩ : ∃ N : Int, N = rI σ4 79 7 := ⟨_, rfl⟩
  have hU := hC4.2.2.2.1
  have hNb := hU.1
  rw [← hN] at hNb e796
  rw [e38]
  refine ⟨by omega, fun σ22 e22 => ?_⟩
  have hF22 : Fr (fun a i => a = 76 ∧ i = 39) σ4 σ22 := by rw [← e22]; exact Fr.w (by omega) ⟨rfl, rfl⟩
  have s22 : rI σ22 76 39 = rI σ 76 39 + 1 := by rw [← e22]; exact rI_ww (by omega)
  have n22 : rI σ22 79 7 = N := by rw [← e22, rI_wa (by decide), hN]
  have r22 : ∀ (a : Nat) (i : Int), a ≠ 76 → rI σ22 a i = rI σ4 a i := fun a i h => by rw [← e22]; exact rI_wa h
  obtain ⟨P, hP⟩ : ∃ P : aO → aH → Prop, P = QV (fun σ1 => Fr ARa σ σ1 ∧ MK σ1 c e K3 ∧ (K3 9 = 0 → Mc (rI σ1) K3 D (tellE E 1 r5 r20) ∧ rI σ1 76 39 = rI σ 76 39 + 1 ∧ rI σ1 79 7 ≤ rI σ1 76 39)) := ⟨_, rfl⟩
  rw [← hP]
  have put : ∀ p : Int, 0 ≤ p → p < 20 → ((p < N ∧ rI σ4 (143 + p.toNat) 0 = r5) ∨ (p = N ∧ ∀ i : Int, 0 ≤ i → i < N → rI σ4 (143 + i.toNat) 0 ≠ r5)) → L_X10_rateHere_66 (Ev sc (d + 3)) sc P r5 r20 p σ22 := by
    intro p p0 p1 hp
    apply v_X10_rateHere_66 (hF22.g hG4) (by omega) (by omega) (by omega)
    refine ⟨by omega, fun σa ea => ⟨by omega, fun σf ef => ?_⟩⟩
    have hFf : Fr (fun a _ => a = 143 + p.toNat) σ22 σf := by
      rw [← ef, ← ea]
      exact (Fr.w (by omega) rfl).trans (Fr.w (by omega) rfl)
    have g0 : rI σf (143 + p.toNat) 0 = r5 := by rw [← ef, rI_wi (by decide), ← ea]; exact rI_ww (by omega)
    have g1 : rI σf (143 + p.toNat) 1 = r20 := by rw [← ef]; exact rI_ww (by omega)
    have nf : rI σf 79 7 = N := (hFf.rw (by omega) (by show ¬ (79 = 143 + p.toNat); omega)).trans n22
    have done : ∀ (N' : Int) (σg : aH), ((p < N ∧ N' = N) ∨ (p = N ∧ N' = N + 1)) → wI σf 79 7 N' = σg → P (.inl none) σg := by
      intro N' σg hN' eg
      have hFg : Fr (fun a i => a = 143 + p.toNat ∨ (a = 79 ∧ i = 7)) σ22 σg := by rw [← eg]; exact (hFf.weak (fun a i z => Or.inl z)).trans (Fr.w (by omega) (Or.inr ⟨rfl, rfl⟩))
      have oth : ∀ (a : Nat) (i : Int), 0 ≤ i → a ≠ 143 + p.toNat → (a ≠ 79 ∨ i ≠ 7) → a ≠ 76 → rI σg a i = rI σ4 a i := fun a i i0 x1 x2 x3 => (hFg.rw i0 (by show ¬ (a = 143 + p.toNat ∨ (a = 79 ∧ i = 7)); omega)).trans (r22 a i x3)
      have row : ∀ i : Int, rI σg (143 + p.toNat) i = rI σf (143 + p.toNat) i := fun i => by rw [← eg]; exact rI_wa (by omega)
      have ng : rI σg 79 7 = N' := by rw [← eg]; exact rI_ww (by omega)
      have s38 : rI σg 76 39 = rI σ 76 39 + 1 := (hFg.rw (by omega) (by show ¬ (76 = 143 + p.toNat ∨ (76 = 79 ∧ _)); omega)).trans s22
      have hMK : MK σg c e K3 := by
        have h4' : MK σ22 c e K3 := MK.fr hM4 hF22 (fun i z => by show ¬ (76 = 76 ∧ i = 39); omega) (fun i => by show ¬ (77 = 76 ∧ i = 39); omega)
        exact h4'.fr hFg (fun i z => by show ¬ (76 = 143 + p.toNat ∨ (76 = 79 ∧ i = 7)); omega) (fun i => by show ¬ (77 = 143 + p.toNat ∨ (77 = 79 ∧ i = 7)); omega)
      rw [hP]
      refine ⟨rfl, ?_, hMK, fun _ => ⟨⟨fun i hi => ?_, fun s q0 q1 f hf => ?_, ?_, ⟨?_, fun k k0 k1' => ?_⟩⟩, s38, by rw [ng, s38]; omega⟩⟩
      · exact (hFs.trans (hF22.weak (fun a i z => Or.inl ⟨z.1, Or.inr (Or.inr (Or.inr z.2))⟩))).trans (hFg.weak (fun a i z => by rcases z with z | z; exact Or.inr (Or.inr (by omega)); exact Or.inr (Or.inl z)))
      · rw [oth 79 i (by omega) (by omega) (by omega) (by decide)]
        exact (hC4.1 i hi).trans (kl i hi).symm
      · have q1' : s < K 2 := by rw [← kl 2 (by decide)]; exact q1
        rw [oth (82 + s.toNat) f (by omega) (by omega) (by omega) (by omega)]
        exact hC4.2.1 s q0 q1' f hf
      · have : SunR (rI σg) 101 79 (E 0) := hC4.2.2.1.congr (oth 79 6 (by omega) (by omega) (by omega) (by decide)) (fun k f k0 k1 f0 f1 => oth _ f f0 (by omega) (by omega) (by omega))
        have tl : tellE E 1 r5 r20 0 = E 0 := by
          funext t
          unfold tellE
          rw [if_neg (fun y => absurd y.1 (by decide))]
        rw [tl]; exact this
      · rw [ng]
        have tl : tellE E 1 r5 r20 1 = fun t => if t = r5.toNat then some r20 else E 1 t := by
          funext t
          unfold tellE
          by_cases z : t = r5.toNat
          · rw [if_pos ⟨rfl, z⟩, if_pos z]
          · rw [if_neg (fun y => z y.2), if_neg z]
        rw [tl]
        refine RepU_tell (p := p) hU (by omega) (fun i i0 i1 ni => ?_) ?_ ?_ p0 ?_ (by omega)
        · have hi : i < N := by rw [hN]; exact i1
          have rr : ∀ f : Int, 0 ≤ f → rI σg (143 + i.toNat) f = rI σ4 (143 + i.toNat) f := fun f f0 => oth _ f f0 (by omega) (by omega) (by omega)
          exact ⟨rr 0 (by omega), rr 1 (by omega)⟩
        · show rI σg (143 + p.toNat) 0 = r5
          rw [row]; exact g0
        · show rI σg (143 + p.toNat) 1 = r20
          rw [row]; exact g1
        · rw [← hN]
          rcases hp with ⟨x1, x2⟩ | ⟨x1, x2⟩
          · exact Or.inl ⟨x1, x2, by omega⟩
          · exact Or.inr ⟨x1, by omega, x2⟩
      · rw [ng] at k1'
        by_cases z : k = p
        · rw [z, row, g1]; omega
        · have hk : k < N := by omega
          have rr : ∀ f : Int, 0 ≤ f → rI σg (143 + k.toNat) f = rI σ4 (143 + k.toNat) f := fun f f0 => oth _ f f0 (by omega) (by omega) (by omega)
          rw [rr 1 (by omega)]
          exact hC4.2.2.2.2 k k0 (by rw [← hN]; exact hk)
    rw [nf]
    exact ⟨fun z => ⟨by omega, fun σg eg => done _ σg (Or.inl ⟨by omega, by omega⟩) eg⟩, fun z => ⟨by omega, fun σg eg => done _ σg (Or.inr ⟨z, rfl⟩) eg⟩⟩
  have loop : ∀ (g : Nat) (p : Int), (N - p).toNat = g → 0 ≤ p → p ≤ N → (∀ i : Int, 0 ≤ i → i < p → rI σ4 (143 + i.toNat) 0 ≠ r5) → L_X10_rateHere_37 (Ev sc (d + 3)) sc P r5 r20 p σ22 := by
    intro g
    induction g with
    | zero =>
      intro p hg p0 p1 ho
      apply v_X10_rateHere_37 (hF22.g hG4) (by omega) (by omega) (by omega)
      rw [n22]
      exact ⟨fun _ => put p p0 (by omega) (Or.inr ⟨by omega, fun i a b => ho i a (by omega)⟩), fun z => by omega⟩
    | succ g ih =>
      intro p hg p0 p1 ho
      apply v_X10_rateHere_37 (hF22.g hG4) (by omega) (by omega) (by omega)
      rw [n22, r22 (143 + p.toNat) 0 (by omega)]
      refine ⟨fun z => by omega, fun _ => ⟨by omega, fun z => put p p0 (by omega) (Or.inl ⟨by omega, z⟩), fun z => ⟨by omega, ih (p + 1) (by omega) (by omega) (by omega) (fun i a b => ?_)⟩⟩⟩
      by_cases y : i = p
      · rw [y]; exact z
      · exact ho i a (by omega)
  exact loop _ 0 rfl (by omega) hNb.1 (fun i a b => by omega)
theorem m_isFull {x : Int} (hG : G σ u) (rx : inR x) : TI sc (d + 1) mX10_isFull [.ref 76, .int (nZ x)] σ (fun r σ1 => σ1 = σ ∧ ((r = 1 ∧ ((x = 2 ∧ rI σ 79 2 = 8) ∨ (x = 6 ∧ rI σ 76 38 = 20) ∨ (x = 7 ∧ rI σ 76 39 = 20))) ∨ (r = 0 ∧ ¬ ((x = 2 ∧ rI σ 79 2 = 8) ∨ (x = 6 ∧ rI σ 76 38 = 20) ∨ (x = 7 ∧ rI σ 76 39 = 20))))) := by
  apply T.int
  apply t_X10_isFull hG rx
  refine ⟨fun q => ⟨fun q1 => ⟨fun q2 => ⟨0, rfl, by decide, rfl, Or.inr ⟨rfl, by omega⟩⟩, fun q2 => ⟨fun q3 => ⟨0, rfl, by decide, rfl, Or.inr ⟨rfl, by omega⟩⟩, fun q3 => ⟨1, rfl, by decide, rfl, Or.inl ⟨rfl, by omega⟩⟩⟩⟩, fun q1 => ⟨fun q3 => ⟨0, rfl, by decide, rfl, Or.inr ⟨rfl, by omega⟩⟩, fun q3 => ⟨1, rfl, by decide, rfl, Or.inl ⟨rfl, by omega⟩⟩⟩⟩, fun q => ⟨fun q3 => ⟨0, rfl, by decide, rfl, Or.inr ⟨rfl, by omega⟩⟩, fun q3 => ⟨1, rfl, by decide, rfl, Or.inl ⟨rfl, by omega⟩⟩⟩⟩
end
