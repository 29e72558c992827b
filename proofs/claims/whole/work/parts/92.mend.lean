/-! THE REFERENCE: the letters and the end of a clause. -/
section
variable {sc : Nat × (Nat → Int32)} {d : Nat} {σ : aH} {u : Nat} {c : Int → Int} {e : Int} {K : Nat → Int}
theorem m_letters {P : aO → aH → Prop} {x k : Int} (rx : inR x) (hG : G σ u) (hT : MT σ c e) (hk : rI σ 76 4 = k) (hb : 0 ≤ k ∧ k ≤ e) (next : ∀ σ1 : aH, Fr (fun a i => a = 76 ∧ i = 4) σ σ1 → rI σ1 76 4 = scF c isLt k → L_X10_clause_118 (Ev sc (d + 1)) sc P x σ1) : L_X10_clause_79 (Ev sc (d + 1)) sc P x σ := by
  have he := hT.1.1
  have loop : ∀ (g : Nat) (j : Int) (τ : aH), (e - j).toNat = g → 0 ≤ j → j ≤ e → Fr (fun a i => a = 76 ∧ i = 4) σ τ → rI τ 76 4 = j → scF c isLt j = scF c isLt k → L_X10_clause_79 (Ev sc (d + 1)) sc P x τ := by
    intro g
    induction g with
    | zero =>
      intro j τ hg j0 j1 hF hj hs
      obtain ⟨r, σ1, he1, hr, e1, h1⟩ := m_byteAt (sc := sc) (d := d) (hF.g hG) (hT.fr hF (by show ¬ (76 = 76 ∧ (2 : Int) = 4); omega) (fun i => by show ¬ (77 = 76 ∧ i = 4); omega)) j0 (by omega)
      subst e1
      have st := scF_step he.2 hT.1.l j0
      have cj : c j = -1 := hT.1.2.1 j (by omega)
      rw [hT.1.l j (by omega)] at st
      have st' : scF c isLt j = j := st
      apply v_X10_clause_79 (hF.g hG) rx
      rw [hj]
      exact ⟨r, σ1, he1, hF.g hG, hr, fun _ => next σ1 hF (by rw [hj, ← hs, st']), fun q => by omega⟩
    | succ g ih =>
      intro j τ hg j0 j1 hF hj hs
      obtain ⟨r, σ1, he1, hr, e1, h1⟩ := m_byteAt (sc := sc) (d := d) (hF.g hG) (hT.fr hF (by show ¬ (76 = 76 ∧ (2 : Int) = 4); omega) (fun i => by show ¬ (77 = 76 ∧ i = 4); omega)) j0 (by omega)
      subst e1
      have st := scF_step he.2 hT.1.l j0
      have stop : ¬ (97 ≤ r ∧ r ≤ 122) → rI σ1 76 4 = scF c isLt k := fun z => by
        rw [if_neg (by unfold isLt; rw [decide_eq_true_eq, ← h1]; exact z)] at st
        rw [hj, ← hs, st]
      apply v_X10_clause_79 (hF.g hG) rx
      rw [hj]
      refine ⟨r, σ1, he1, hF.g hG, hr, fun q => next σ1 hF (stop (by omega)), fun q => ?_⟩
      rw [hj]
      refine ⟨r, σ1, he1, hF.g hG, hr, fun q1 => next σ1 hF (stop (by omega)), fun q1 => ?_⟩
      rw [hj]
      refine ⟨by omega, fun σ12 e12 => ih (j + 1) σ12 (by omega) (by omega) (by omega) ?_ ?_ ?_⟩
      · rw [← e12]; exact hF.trans (Fr.w (by omega) ⟨rfl, rfl⟩)
      · rw [← e12]; exact rI_ww (by omega)
      · rw [← hs, st, if_pos (by unfold isLt; rw [decide_eq_true_eq, ← h1]; omega)]
  exact loop _ k σ rfl hb.1 hb.2 (Fr.refl _ _) hk rfl
theorem m_cEnd {P : aO → aH → Prop} {x : Int} (rx : inR x) (hG : G σ u) (hK : MK σ c e K) (next : ∀ σ1 : aH, Fr A456 σ σ1 → MK σ1 c e (enK c K) → P (.inl none) σ1) : L_X10_clause_275 (Ev sc (d + 2)) sc P x σ := by
  have k9 : skK c K 9 = K 9 := kset_ne (by decide)
  have k10 : skK c K 10 = K 10 := kset_ne (by decide)
  apply v_X10_clause_275 hG rx
  rw [hK.2.1]
  refine ⟨fun q => ?_, fun q => next σ (Fr.refl _ _) (hK.bad q ?_ ?_)⟩
  · obtain ⟨σ1, he1, hF1, hM1⟩ := m_skip (sc := sc) (d := d) hG hK
    have hF1' : Fr A456 σ σ1 := hF1.weak (fun a i z => ⟨z.1, Or.inl z.2⟩)
    have h4 : rI σ1 76 4 = skK c K 11 := hM1.2.2.2.2 (k9.trans q)
    have b4 := hM1.2.2.2.1
    rw [h4] at b4
    have he := hM1.1.1.1
    obtain ⟨r, σ2, he2, hr, e2, h2⟩ := m_byteAt (sc := sc) (d := d + 1) (k := skK c K 11) (hF1.g hG) hM1.1 b4.1 (by omega)
    subst e2
    obtain ⟨σ3, he3, hF3, x5, x6⟩ := m_wrong (sc := sc) (d := d + 1) (a := 1) (b := skK c K 11) (hF1.g hG) (by decide) (by omega)
    refine ⟨σ2, he1, hF1.g hG, ?_⟩
    rw [h4]
    refine ⟨r, σ2, he2, hF1.g hG, hr, fun z => ?_, fun z => ?_⟩
    · rw [h4]
      refine ⟨σ3, he3, hF3.g (hF1.g hG), next σ3 (hF1'.trans (hF3.weak (fun a i z => ⟨z.1, Or.inr z.2⟩))) ?_⟩
      have : enK c K = flt (skK c K) 1 (skK c K 11) := by unfold enK; rw [if_neg (by rw [← h2]; exact z)]
      rw [this]
      exact hM1.wrong hF3 x5 x6 (by decide) (fun _ => rfl)
    · rw [h4]
      refine ⟨by omega, fun σ15 e15 => ?_⟩
      have hF15 : Fr (fun a i => a = 76 ∧ i = 4) σ2 σ15 := by rw [← e15]; exact Fr.w (by omega) ⟨rfl, rfl⟩
      have lt : skK c K 11 < e := by
        by_cases y : skK c K 11 < e
        · exact y
        · have := hM1.1.1.2.1 (skK c K 11) (by omega); omega
      have e4 : rI σ15 76 4 = skK c K 11 + 1 := by rw [← e15]; exact rI_ww (by omega)
      have : enK c K = kset (skK c K) 11 (skK c K 11 + 1) := by unfold enK; rw [if_pos (by rw [← h2]; exact z)]
      refine next σ15 (hF1'.trans (hF15.weak (fun a i z => ⟨z.1, Or.inl z.2⟩))) ?_
      rw [this]
      refine ⟨hM1.1.fr hF15 (by show ¬ (76 = 76 ∧ (2 : Int) = 4); omega) (fun i => by show ¬ (77 = 76 ∧ i = 4); omega), ?_, ?_, by rw [e4]; omega, fun _ => by rw [kset_eq, e4]⟩
      · rw [kset_ne (by decide), hF15.rw (by omega) (by show ¬ (76 = 76 ∧ (5 : Int) = 4); omega)]; exact hM1.2.1
      · rw [kset_ne (by decide), hF15.rw (by omega) (by show ¬ (76 = 76 ∧ (6 : Int) = 4); omega)]; exact hM1.2.2.1
  · unfold enK
    split
    · rw [kset_ne (by decide)]; exact k9
    · rw [flt_1 (by rw [k9]; exact q)]; exact k9
  · unfold enK
    split
    · rw [kset_ne (by decide)]; exact k10
    · rw [flt_1 (by rw [k9]; exact q)]; exact k10
end
