/-! THE REFERENCE: a clause. -/
section
variable {sc : Nat × (Nat → Int32)} {d : Nat} {σ : aH} {u : Nat} {c : Int → Int} {e : Int} {K : Nat → Int} {D : Nat → Int → Int} {E : Nat → Nat → Option Int}
theorem Mc.f76 {A : Nat → Int → Prop} {τ : aH} (h : Mc (rI σ) K D E) (hF : Fr A σ τ) (hA : ∀ (a : Nat) (i : Int), a ≠ 76 → ¬ A a i) : Mc (rI τ) K D E :=
  ⟨fun i hi => (hF.rw (by omega) (hA _ _ (by omega))).trans (h.1 i hi), fun s s0 s1 f hf => (hF.rw (by omega) (hA _ _ (by omega))).trans (h.2.1 s s0 s1 f hf), h.2.2.1.congr (hF.rw (by omega) (hA _ _ (by omega))) (fun k f k0 k1 f0 _ => hF.rw f0 (hA _ _ (by omega))), h.2.2.2.congr (hF.rw (by omega) (hA _ _ (by omega))) (fun k f k0 k1 f0 _ => hF.rw f0 (hA _ _ (by omega)))⟩
theorem enK_ne {i : Nat} (h9 : i ≠ 9) (h10 : i ≠ 10) (h11 : i ≠ 11) : enK c K i = K i := by
  unfold enK
  split
  · rw [kset_ne h11]; exact skK_ne h11
  · rw [flt_ne h9 h10]; exact skK_ne h11
theorem enK_0 (h : enK c K 9 = 0) : K 9 = 0 := by
  by_cases z : K 9 = 0
  · exact z
  · have k9 : skK c K 9 = K 9 := kset_ne (by decide)
    unfold enK at h
    split at h
    · rw [kset_ne (by decide), k9] at h; exact h
    · rw [flt_1 (by rw [k9]; exact z), k9] at h; exact h
theorem m_clause (hG : G σ u) (hK : MK σ c e K) (h0 : K 9 = 0) (hN : McN σ (K, D, E) (K 6)) (h6 : 0 ≤ K 6 ∧ K 6 ≤ 60) (h2 : 0 ≤ K 2 ∧ K 2 ≤ 8) (hb0 : 0 ≤ K 0 ∧ K 0 ≤ 9) (hb1 : 0 ≤ K 1 ∧ K 1 ≤ 9) (h7 : 0 ≤ K 7 ∧ K 7 ≤ 20) (h8 : 0 ≤ K 8 ∧ K 8 ≤ 20) (hs : scF c isB (K 11) = K 11) : TV sc (d + 6) mX10_clause [.ref 76] σ (fun σ1 => Fr ACm σ σ1 ∧ MK σ1 c e (clF c (K, D, E)).1 ∧ ((clF c (K, D, E)).1 9 = 0 → McN σ1 (clF c (K, D, E)) ((clF c (K, D, E)).1 6))) := by
  obtain ⟨hC, n7, n38, n39, s6, s7⟩ := hN
  dsimp only at hC n38 n39 s6 s7
  have h4 := hK.2.2.2.2 h0
  have b4 := hK.2.2.2.1
  rw [h4] at b4
  have he := hK.1.1.1
  obtain ⟨w, hw⟩ : ∃ w : Int, w = clW c K := ⟨_, rfl⟩
  have hwk : (w = -1) ∨ (0 ≤ w ∧ w < 10) := by
    rw [hw]
    rcases WkS.exi c (K 11) (scF c isLt (K 11)) with ⟨a, _⟩ | ⟨a, b, _⟩
    · exact Or.inl a
    · exact Or.inr ⟨a, b⟩
  obtain ⟨r5, σ1, he1, hr1, hF1, a1, v1⟩ := m_kindHere (sc := sc) (d := d) hG hK.1 (hK.2.1.trans h0) h4 b4 hs
  have v1' : r5 = kd w := by rw [hw]; exact v1
  have o1 : ∀ (a : Nat) (i : Int), 0 ≤ i → (a ≠ 76 ∨ i ≠ 4) → rI σ1 a i = rI σ a i := fun a i p z => hF1.rw p (by show ¬ (a = 76 ∧ i = 4); omega)
  have hG1 := hF1.g hG
  have hM1 : MK σ1 c e K := ⟨hK.1.fr hF1 (by show ¬ (76 = 76 ∧ (2 : Int) = 4); omega) (fun i => by show ¬ (77 = 76 ∧ i = 4); omega), (o1 76 5 (by omega) (by omega)).trans hK.2.1, (o1 76 6 (by omega) (by omega)).trans hK.2.2.1, by rw [a1]; exact b4, fun _ => a1⟩
  have hF1c : Fr ACm σ σ1 := hF1.weak (fun a i z => Or.inl ⟨z.1, Or.inl z.2⟩)
  have f5 : rI σ1 76 5 = 0 := hM1.2.1.trans h0
  have l9 : lwK c K 9 = 0 := (show lwK c K 9 = K 9 from kset_ne (by decide)).trans h0
  obtain ⟨P, hP⟩ : ∃ P : aO → aH → Prop, P = QV (fun σ1 => Fr ACm σ σ1 ∧ MK σ1 c e (clF c (K, D, E)).1 ∧ ((clF c (K, D, E)).1 9 = 0 → McN σ1 (clF c (K, D, E)) ((clF c (K, D, E)).1 6))) := ⟨_, rfl⟩
  -- a fault of the clause's word
  have bad : ∀ a : Int, a ≠ 0 → inR a → clF c (K, D, E) = (flt (lwK c K) a (K 11), D, E) → ∃ σ6 : aH, Ev sc (d + 5) mX10_wrong [.ref 76, .int (nZ a), .int (nZ (K 11))] σ1 (.inl none) σ6 ∧ G σ6 u ∧ (((rI σ6 76 5) = 0 → L_X10_clause_79 (Ev sc (d + 5)) sc P r5 σ6) ∧ (¬ ((rI σ6 76 5) = 0) → P (.inl none) σ6)) := by
    intro a na ra eC
    obtain ⟨σ6, he6, hF6, x5, x6⟩ := m_wrong (sc := sc) (d := d + 4) (a := a) (b := K 11) hG1 ra (by omega)
    have hM6 := hM1.wrong hF6 x5 x6 na (b1 := K 11) (fun _ => rfl)
    rw [if_pos f5] at x5
    have k9 : flt (lwK c K) a (K 11) 9 = a := by rw [flt_0 l9, kset_ne (by decide), kset_eq]
    have k10 : flt (lwK c K) a (K 11) 10 = K 11 := by rw [flt_0 l9, kset_eq]
    have g9 : flt K a (K 11) 9 = a := by rw [flt_0 h0, kset_ne (by decide), kset_eq]
    have g10 : flt K a (K 11) 10 = K 11 := by rw [flt_0 h0, kset_eq]
    refine ⟨σ6, he6, hF6.g hG1, fun z => absurd (x5.symm.trans z) na, fun _ => ?_⟩
    rw [hP, eC]
    exact ⟨rfl, hF1c.trans (hF6.weak (fun a i z => Or.inl ⟨z.1, by have := z.2; omega⟩)), hM6.bad (by rw [g9]; exact na) (k9.trans g9.symm) (k10.trans g10.symm), fun z => absurd (k9.symm.trans z) na⟩
  -- the clause itself
  have good : (0 ≤ w ∧ w < 10) → K 6 < 60 → ¬ fullK w K → ¬ (w = 0 ∧ 0 < K 6) → L_X10_clause_79 (Ev sc (d + 5)) sc P r5 σ1 := by
    intro w0 lt nf nz
    have eC : clF c (K, D, E) = ceF c (nbF c w (lwK c K, D, E)) := by
      unfold clF
      dsimp only
      rw [← hw, pif_neg (by omega), pif_neg (fun z => by rcases z with z | z; omega; exact nf z), pif_neg nz]
    rw [v1']
    have kdb : inR (kd w) := by rw [← v1']; exact hr1
    refine m_letters (sc := sc) (d := d + 4) kdb hG1 hM1.1 a1 b4 (fun σ2 hF2 a2 => ?_)
    have o2 : ∀ (a : Nat) (i : Int), 0 ≤ i → (a ≠ 76 ∨ i ≠ 4) → rI σ2 a i = rI σ a i := fun a i p z => (hF2.rw p (by show ¬ (a = 76 ∧ i = 4); omega)).trans (o1 a i p z)
    have hG2 := hF2.g hG1
    have lb := scF_bd hK.1.1.l (K 11)
    have lk : ∀ i : Nat, i ≠ 11 → lwK c K i = K i := fun i hi => kset_ne hi
    have hM2 : MK σ2 c e (lwK c K) := ⟨hM1.1.fr hF2 (by show ¬ (76 = 76 ∧ (2 : Int) = 4); omega) (fun i => by show ¬ (77 = 76 ∧ i = 4); omega), by rw [lk 9 (by decide), o2 76 5 (by omega) (by omega)]; exact hK.2.1, by rw [lk 10 (by decide), o2 76 6 (by omega) (by omega)]; exact hK.2.2.1, by rw [a2]; omega, fun _ => by rw [a2]; exact kset_eq.symm⟩
    have hF02 : Fr ACm σ σ2 := hF1c.trans (hF2.weak (fun a i z => Or.inl ⟨z.1, Or.inl z.2⟩))
    have hC2 : Mc (rI σ2) (lwK c K) D E := (((hC.fr hF1 (fun a i p q => by show ¬ (a = 76 ∧ i = 4); omega) h2.2)).fr hF2 (fun a i p q => by show ¬ (a = 76 ∧ i = 4); omega) h2.2).to (fun i hi => lk i (by omega))
    have hN2 : McN σ2 (lwK c K, D, E) (lwK c K 6) := by
      refine ⟨hC2, ?_, ?_, ?_, ?_, ?_⟩
      · rw [lk 6 (by decide), o2 _ _ (by omega) (by omega)]; exact n7
      · show rI σ2 76 38 = lwK c K 7
        rw [lk 7 (by decide), o2 _ _ (by omega) (by omega)]; exact n38
      · show rI σ2 76 39 = lwK c K 8
        rw [lk 8 (by decide), o2 _ _ (by omega) (by omega)]; exact n39
      · show rI σ2 79 6 ≤ lwK c K 7
        rw [lk 7 (by decide), o2 _ _ (by omega) (by omega)]; exact s6
      · show rI σ2 79 7 ≤ lwK c K 8
        rw [lk 8 (by decide), o2 _ _ (by omega) (by omega)]; exact s7
    have nf2 : ¬ fullK w (lwK c K) := by
      unfold fullK
      rw [lk 2 (by decide), lk 7 (by decide), lk 8 (by decide)]; exact nf
    refine m_nb (sc := sc) (d := d + 1) w0 hG2 hM2 l9 hN2 (by rw [lk 6 (by decide)]; omega) (by rw [lk 2 (by decide)]; exact h2) (by rw [lk 0 (by decide)]; exact hb0) (by rw [lk 1 (by decide)]; exact hb1) (by rw [lk 7 (by decide)]; exact h7) (by rw [lk 8 (by decide)]; exact h8) nf2 (fun σ3 hF3 hM3 hN3 => ?_)
    obtain ⟨Q, hQ⟩ : ∃ Q : PS, Q = nbF c w (lwK c K, D, E) := ⟨_, rfl⟩
    rw [← hQ] at hM3 hN3 eC
    have hG3 := hF3.g hG2
    have q6 : Q.1 6 = K 6 := by rw [hQ, nbF_6]; exact lk 6 (by decide)
    refine m_cEnd (sc := sc) (d := d + 3) kdb hG3 hM3 (fun σ4 hF4 hM4 => ?_)
    rw [hP, eC]
    have c9 : (ceF c Q).1 9 = enK c Q.1 9 := (show kset (enK c Q.1) 6 (enK c Q.1 6 + 1) 9 = _ from kset_ne (by decide))
    refine ⟨rfl, (hF02.trans hF3).trans (hF4.weak (fun a i z => Or.inl ⟨z.1, by have := z.2; omega⟩)), hM4.to c9 (show kset (enK c Q.1) 6 (enK c Q.1 6 + 1) 10 = _ from kset_ne (by decide)) (show kset (enK c Q.1) 6 (enK c Q.1 6 + 1) 11 = _ from kset_ne (by decide)), fun z => ?_⟩
    have q9 : Q.1 9 = 0 := enK_0 (c9.symm.trans z)
    obtain ⟨y1, y2, y3, y4, y5, y6⟩ := hN3 q9
    have cn : ∀ i : Nat, i ≠ 6 → i ≠ 9 → i ≠ 10 → i ≠ 11 → (ceF c Q).1 i = Q.1 i := fun i p1 p2 p3 p4 => (show kset (enK c Q.1) 6 (enK c Q.1 6 + 1) i = _ by rw [kset_ne p1]; exact enK_ne p2 p3 p4)
    have c6 : (ceF c Q).1 6 = K 6 + 1 := (show kset (enK c Q.1) 6 (enK c Q.1 6 + 1) 6 = _ by rw [kset_eq, enK_ne (by decide) (by decide) (by decide), q6])
    have o4 : ∀ (a : Nat) (i : Int), 0 ≤ i → (a ≠ 76 ∨ (i ≠ 4 ∧ i ≠ 5 ∧ i ≠ 6)) → rI σ4 a i = rI σ3 a i := fun a i p z => hF4.rw p (by show ¬ (a = 76 ∧ (i = 4 ∨ i = 5 ∨ i = 6)); omega)
    refine ⟨(y1.f76 hF4 (fun a i p => A456_a p i)).to (fun i hi => cn i (by omega) (by omega) (by omega) (by omega)), ?_, ?_, ?_, ?_, ?_⟩
    · rw [c6, o4 _ _ (by omega) (by omega), y2, lk 6 (by decide)]
    · rw [cn 7 (by decide) (by decide) (by decide) (by decide), o4 _ _ (by omega) (by omega)]; exact y3
    · rw [cn 8 (by decide) (by decide) (by decide) (by decide), o4 _ _ (by omega) (by omega)]; exact y4
    · rw [cn 7 (by decide) (by decide) (by decide) (by decide), o4 _ _ (by omega) (by omega)]; exact y5
    · rw [cn 8 (by decide) (by decide) (by decide) (by decide), o4 _ _ (by omega) (by omega)]; exact y6
  apply T.void
  apply t_X10_clause hG
  rw [← hP]
  have m7 : rI σ1 76 7 = K 6 := (o1 _ _ (by omega) (by omega)).trans n7
  refine ⟨r5, σ1, he1, hG1, hr1, fun q => ?_, fun q => ?_⟩
  · have w0 : 0 ≤ w ∧ w < 10 := by
      rcases hwk with z | z
      · exact absurd (by rw [v1', z]; rfl) q
      · exact z
    obtain ⟨i0, i2, i3, i4, i5, i6, i7, ib, ir⟩ := kd_inv ⟨w.toNat, by omega⟩
    rw [show (((⟨w.toNat, by omega⟩ : Fin 10).val : Nat) : Int) = w from by show ((w.toNat : Nat) : Int) = w; omega] at i0 i2 i6 i7
    have vw : (⟨w.toNat, by omega⟩ : Fin 10).val = w.toNat := rfl
    rw [vw] at i0 i2 i6 i7
    rw [a1, m7]
    have full3 : (60 ≤ K 6 ∨ fullK w K) → clF c (K, D, E) = (flt (lwK c K) 3 (K 11), D, E) := fun z => by
      unfold clF
      dsimp only
      rw [← hw, pif_neg (by omega), pif_pos z]
    refine ⟨fun q1 => bad 3 (by decide) (by decide) (full3 (Or.inl (by omega))), fun q1 => ?_⟩
    obtain ⟨r14, σ10, he10, hr10, e10, h10⟩ := m_isFull (sc := sc) (d := d + 4) (x := r5) hG1 hr1
    subst e10
    have e79 : rI σ10 79 2 = K 2 := (o1 79 2 (by omega) (by omega)).trans (hC.1 2 (by decide))
    rw [e79, (o1 76 38 (by omega) (by omega)).trans n38, (o1 76 39 (by omega) (by omega)).trans n39, v1'] at h10
    have fk : ((kd w = 2 ∧ K 2 = 8) ∨ (kd w = 6 ∧ K 7 = 20) ∨ (kd w = 7 ∧ K 8 = 20)) ↔ fullK w K := by
      unfold fullK
      constructor
      · intro z
        rcases z with ⟨a, b⟩ | ⟨a, b⟩ | ⟨a, b⟩
        · have := i2 a; exact Or.inl ⟨by omega, by omega⟩
        · have := i6 a; exact Or.inr (Or.inl ⟨by omega, by omega⟩)
        · have := i7 a; exact Or.inr (Or.inr ⟨by omega, by omega⟩)
      · intro z
        rcases z with ⟨a, b⟩ | ⟨a, b⟩ | ⟨a, b⟩
        · exact Or.inl ⟨by rw [a]; rfl, by omega⟩
        · exact Or.inr (Or.inl ⟨by rw [a]; rfl, by omega⟩)
        · exact Or.inr (Or.inr ⟨by rw [a]; rfl, by omega⟩)
    rw [fk] at h10
    refine ⟨r14, σ10, he10, hG1, hr10, fun q2 => ?_, fun q2 => ?_⟩
    · have nf : ¬ fullK w K := by
        rcases h10 with ⟨a, _⟩ | ⟨_, b⟩
        · omega
        · exact b
      refine ⟨fun q3 => ⟨fun _ => good w0 (by omega) nf (fun z => q3 (by rw [v1', z.1]; rfl)), fun z => absurd f5 z⟩, fun q3 => ?_⟩
      have ew : w = 0 := by have := i0 (v1'.symm.trans q3); omega
      rw [m7]
      refine ⟨fun q4 => ⟨fun _ => good w0 (by omega) nf (fun z => by omega), fun z => absurd f5 z⟩, fun q4 => ?_⟩
      rw [a1]
      refine bad 4 (by decide) (by decide) ?_
      unfold clF
      dsimp only
      rw [← hw, pif_neg (by omega), pif_neg (fun z => by rcases z with z | z; omega; exact nf z), pif_pos ⟨ew, by omega⟩]
    · have yf : fullK w K := by
        rcases h10 with ⟨_, b⟩ | ⟨a, _⟩
        · exact b
        · exact absurd a q2
      rw [a1]
      exact bad 3 (by decide) (by decide) (full3 (Or.inr yf))
  · rw [a1]
    have ew : w = -1 := by
      rcases hwk with z | z
      · exact z
      · obtain ⟨i0, i2, i3, i4, i5, i6, i7, ib, ir⟩ := kd_inv ⟨w.toNat, by omega⟩
        rw [show (((⟨w.toNat, by omega⟩ : Fin 10).val : Nat) : Int) = w from by show ((w.toNat : Nat) : Int) = w; omega] at ib
        omega
    refine bad 1 (by decide) (by decide) ?_
    unfold clF
    dsimp only
    rw [← hw, pif_pos ew]
end
