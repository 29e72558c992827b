/-! THE REFERENCE: under, shades, length, first. -/
theorem bs_bt {p : Int → Prop} {n k : Int} (h0 : 0 ≤ k) (h1 : k < n) (hn : n ≤ 9) : zAnd (zShr (bs p n.toNat) k) 1 = cif (p k) 1 0 := by
  rw [z_bt (bs_30 p (by omega)) h0 (by omega), bs_bit p h0 (by omega)]
section
variable {sc : Nat × (Nat → Int32)} {d : Nat} {σ : aH} {u : Nat} {n W H : Int} {D : Nat → Int → Int} {Es Er : Nat → Option Int} {K : Int} {fr va : Int → Int} {du fo g : Int}
theorem m_onAt {x t : Int} (hG : G σ u) (hM : Mf σ n (-1) W H D Es Er K fr va du fo) (hx : 0 ≤ x ∧ x < n) (ht : 0 ≤ t ∧ t < 1440) : TI sc (d + 4) mX10_onAt [.ref 76, .int (nZ x), .int (nZ t)] σ (fun r σ1 => Fr (fun a _ => 261 ≤ a ∧ a ≤ 280) σ σ1 ∧ r = bs (fun i => Falls D n (-1) (1 + rI σ 76 19) i x (sT Es fo t)) n.toNat) := by
  obtain ⟨⟨m1, m2, m3, m4, m5, m6, m7, m8, m9, m10, m11, m12, m13, m14, m15⟩, f1, f2⟩ := hM
  have h9 := m1.2.1
  obtain ⟨r5, σ1, he1, hr1, e1, hl, hb⟩ := m_sunAt (sc := sc) (d := d + 2) (fr := fr) (K := K) (t := t) hG m9 m11.1 (fun i i0 i1 => (m10 i i0 i1).1) (by omega)
  subst e1
  have hz : ∀ s : Int, s = -1 → bs (fun i => Falls D n (-1) (1 + rI σ1 76 19) i x s) n.toNat = 0 := fun s e => by
    rw [bs_zero]; intro k k0 k1; rw [e]; exact fa_no k x
  apply T.int
  apply t_X10_onAt hG (by omega) (by omega)
  refine ⟨r5, σ1, he1, hG, hr1, ?_⟩
  rw [f1]
  refine ⟨fun q => ⟨0, rfl, by decide, Fr.refl _ _, ?_⟩, fun q => ⟨fun q1 => ?_, fun q1 => ⟨0, rfl, by decide, Fr.refl _ _, ?_⟩⟩⟩
  · rw [hz]; unfold sT; rw [if_neg (by omega)]
  · rcases hl.at m11 ht.1 (-1) with ⟨a, _⟩ | ⟨a, b, _⟩
    · exact absurd a q1
    obtain ⟨s1, s2, s3, s4, s5⟩ := m10 r5 a.1 a.2
    obtain ⟨σ6, he6, hF6, h6⟩ := m_throwsBy (sc := sc) (d := d) (k := r5) (D := D) hG m1 m2 m3 m4 m5 m6.1 m6.2 m7 m8 (by omega) rfl rfl rfl (by omega) (by omega) s4
    refine ⟨σ6, he6, hF6.g hG, by omega, by omega, _, rfl, rI_R _ _ _, hF6.weak (fun a i z => by have z' : a = 261 + r5.toNat := z; omega), ?_⟩
    rw [h6 x hx.1 hx.2, ← s5]
    have e : sT Es fo t = va r5 := by unfold sT; rw [if_pos (by omega)]; exact b
    rw [e]
    exact bs_congr (fun k k0 k1 => FaM_iff k0 hx.1)
  · rw [hz]
    unfold sT
    rw [if_pos (by omega)]
    rcases hl.at m11 ht.1 (-1) with ⟨_, b, _⟩ | ⟨a, _⟩
    · exact b
    · omega
abbrev AOz : Nat → Int → Prop := fun a i => (261 ≤ a ∧ a ≤ 280) ∨ (a = 76 ∧ i = 0)
theorem m_under {x t : Int} (hG : G σ u) (hM : Mf σ n (-1) W H D Es Er K fr va du fo) (h2 : rI σ 80 2 = n) (rx : inR x) (rt : inR t) (hc : Rc σ) : TI sc (d + 5) mX10_under [.ref 76, .int (nZ x), .int (nZ t)] σ (OB2 σ (0 ≤ x ∧ x < n) 1 0 (0 ≤ t ∧ t < 1440) 2 1 (fun r σ1 => Fr AOz σ σ1 ∧ rI σ1 76 0 = 0 ∧ r = bs (fun i => Falls D n (-1) (1 + rI σ 76 19) i x (sT Es fo t)) n.toNat)) := by
  have h9 := hM.1.1.2.1
  apply T.int
  apply t_X10_under hG rx rt
  intro σ1 e1
  obtain ⟨hG1, t1, hF1, hM1, o1⟩ := m_pre hG hM e1
  obtain ⟨r4, σ4, he4, hr4, e4, hx⟩ := m_isStall (sc := sc) (d := d + 2) (x := x) hG1 ((o1 80 2 (by omega)).trans h2) h9 rx
  subst e4
  obtain ⟨σ3, he3, hm3⟩ := m_bad1 (sc := sc) (d := d + 3) (w := 1) (q := 0) hG1 t1 (by omega) (by omega) ((hc.pre e1) 0 (by omega))
  obtain ⟨σ5, he5, hm5⟩ := m_bad1 (sc := sc) (d := d + 3) (w := 2) (q := 1) hG1 t1 (by omega) (by omega) ((hc.pre e1) 1 (by omega))
  obtain ⟨r6, σ6, he6, hr6, e6, hx6⟩ := m_isMinute (sc := sc) (d := d + 2) (x := t) hG1 rt
  subst e6
  refine ⟨r4, σ6, he4, hG1, hr4, fun q => ?_, fun q => ?_⟩
  · apply v_X10_under_19 hG1 rx rt (by decide)
    refine ⟨0, σ6, m_bad0 hG1 t1 (by decide) (by decide), hG1, by decide, fun z => absurd rfl z, fun _ => ⟨r6, σ6, he6, hG1, hr6, fun q1 => ⟨0, σ6, m_bad0 hG1 t1 (by decide) (by decide), hG1, by decide, fun _ => ?_, fun z => absurd rfl z⟩, fun q1 => ⟨1, σ5, he5, hm5.g hG1, by decide, fun z => absurd z (by decide), fun _ => ⟨0, rfl, by decide, Or.inl ⟨by omega, Or.inr ⟨by omega, rfl, hm5.pre e1⟩⟩⟩⟩⟩⟩
    obtain ⟨r, σ2, he, hr, hF2, h⟩ := m_onAt (sc := sc) (d := d) (x := x) (t := t) hG1 hM1 (by omega) (by omega)
    rw [o1 76 19 (by omega)] at h
    exact ⟨r, σ2, he, hF2.g hG1, hr, r, rfl, hr, Or.inl ⟨by omega, Or.inl ⟨by omega, (hF1.weak (fun a i z => Or.inr z)).trans (hF2.weak (fun a i z => Or.inl z)), (hF2.rw (by omega) (by show ¬ (261 ≤ 76 ∧ 76 ≤ 280); omega)).trans t1, h⟩⟩⟩
  · apply v_X10_under_19 hG1 rx rt (by decide)
    exact ⟨1, σ3, he3, hm3.g hG1, by decide, fun _ => ⟨0, rfl, by decide, Or.inr ⟨by omega, rfl, hm3.pre e1⟩⟩, fun z => absurd z (by decide)⟩
theorem m_shades {x y t : Int} (hG : G σ u) (hM : Mf σ n (-1) W H D Es Er K fr va du fo) (h2 : rI σ 80 2 = n) (rx : inR x) (ry : inR y) (rt : inR t) (hc : Rc σ) : TI sc (d + 5) mX10_shades [.ref 76, .int (nZ x), .int (nZ y), .int (nZ t)] σ (OB2 σ ((0 ≤ x ∧ x < n) ∧ (0 ≤ y ∧ y < n)) 1 0 (x ≠ y ∧ (0 ≤ t ∧ t < 1440)) 2 1 (fun r σ1 => Fr AOz σ σ1 ∧ rI σ1 76 0 = 0 ∧ ((r = 1 ∧ Falls D n (-1) (1 + rI σ 76 19) x y (sT Es fo t)) ∨ (r = 0 ∧ ¬ Falls D n (-1) (1 + rI σ 76 19) x y (sT Es fo t))))) := by
  have h9 := hM.1.1.2.1
  apply T.int
  apply t_X10_shades hG rx ry rt
  intro σ1 e1
  obtain ⟨hG1, t1, hF1, hM1, o1⟩ := m_pre hG hM e1
  obtain ⟨r4, σ4, he4, hr4, h4⟩ := m_badTwo (sc := sc) (d := d + 1) (x := x) (y := y) hG1 t1 ((o1 80 2 (by omega)).trans h2) h9 rx ry (hc.pre e1)
  obtain ⟨σ3, he3, hm3⟩ := m_bad1 (sc := sc) (d := d + 3) (w := 2) (q := 1) hG1 t1 (by omega) (by omega) ((hc.pre e1) 1 (by omega))
  rcases h4 with ⟨q4, ok4, e4⟩ | ⟨q4, ok4, m4⟩
  · subst e4
    obtain ⟨r9, σ9, he9, hr9, e9, h9'⟩ := m_isMinute (sc := sc) (d := d + 2) (x := t) hG1 rt
    subst e9
    obtain ⟨P, hP⟩ : ∃ P : aO → aH → Prop, P = QI (OB2 σ ((0 ≤ x ∧ x < n) ∧ (0 ≤ y ∧ y < n)) 1 0 (x ≠ y ∧ (0 ≤ t ∧ t < 1440)) 2 1 (fun r σ1 => Fr AOz σ σ1 ∧ rI σ1 76 0 = 0 ∧ ((r = 1 ∧ Falls D n (-1) (1 + rI σ 76 19) x y (sT Es fo t)) ∨ (r = 0 ∧ ¬ Falls D n (-1) (1 + rI σ 76 19) x y (sT Es fo t))))) := ⟨_, rfl⟩
    rw [← hP]
    have bad : ¬ (x ≠ y ∧ (0 ≤ t ∧ t < 1440)) → L_X10_shades_32 (Ev sc (d + 4)) sc P x y t 1 σ9 := by
      intro nok
      apply v_X10_shades_32 hG1 rx ry rt (by decide)
      rw [hP]
      exact ⟨1, σ3, he3, hm3.g hG1, by decide, fun z => absurd z (by decide), fun _ => ⟨0, rfl, by decide, Or.inl ⟨ok4, Or.inr ⟨nok, rfl, hm3.pre e1⟩⟩⟩⟩
    refine ⟨r4, σ9, he4, hG1, hr4, fun q => absurd q4 q, fun _ => ⟨fun q => bad (fun z => z.1 q), fun q => ⟨r9, σ9, he9, hG1, hr9, fun q1 => ?_, fun q1 => bad (fun z => by omega)⟩⟩⟩
    obtain ⟨r, σ2, he, hr, hF2, h⟩ := m_onAt (sc := sc) (d := d) (x := y) (t := t) hG1 hM1 (by omega) (by omega)
    rw [o1 76 19 (by omega)] at h
    have hFa : Fr AOz σ σ2 := (hF1.weak (fun a i z => Or.inr z)).trans (hF2.weak (fun a i z => Or.inl z))
    have t2 : rI σ2 76 0 = 0 := (hF2.rw (by omega) (by show ¬ (261 ≤ 76 ∧ 76 ≤ 280); omega)).trans t1
    apply v_X10_shades_32 hG1 rx ry rt (by decide)
    rw [hP]
    refine ⟨0, σ9, m_bad0 hG1 t1 (by decide) (by decide), hG1, by decide, fun _ => ⟨r, σ2, he, hF2.g hG1, hr, fun q2 => ?_, fun q2 => ?_⟩, fun z => absurd rfl z⟩
    · rw [h, bs_bt ok4.1.1 ok4.1.2 h9.2] at q2
      exact ⟨0, rfl, by decide, Or.inl ⟨ok4, Or.inl ⟨⟨q, by omega⟩, hFa, t2, Or.inr ⟨rfl, fun z => q2 (cif_pos z)⟩⟩⟩⟩
    · rw [h, bs_bt ok4.1.1 ok4.1.2 h9.2] at q2
      refine ⟨1, rfl, by decide, Or.inl ⟨ok4, Or.inl ⟨⟨q, by omega⟩, hFa, t2, Or.inl ⟨rfl, ?_⟩⟩⟩⟩
      by_cases c : Falls D n (-1) (1 + rI σ 76 19) x y (sT Es fo t)
      · exact c
      · rw [cif_neg c] at q2; omega
  · exact ⟨r4, σ4, he4, m4.g hG1, hr4, fun _ => ⟨0, rfl, by decide, Or.inr ⟨ok4, rfl, m4.pre e1⟩⟩, fun q => by omega⟩
theorem m_length {x t : Int} (hG : G σ u) (hM : Mf σ n (-1) W H D Es Er K fr va du fo) (h2 : rI σ 80 2 = n) (rx : inR x) (rt : inR t) (hc : Rc σ) : TI sc (d + 5) mX10_length [.ref 76, .int (nZ x), .int (nZ t)] σ (OB2 σ (0 ≤ x ∧ x < n) 1 0 (0 ≤ t ∧ t < 1440) 2 1 (fun r σ1 => Fr A0 σ σ1 ∧ rI σ1 76 0 = 0 ∧ r = if sT Es fo t = -1 ∨ sT Es fo t / 10 = 4 then 0 else D 2 x * (sT Es fo t % 10) * (1 + rI σ 76 19) / 10)) := by
  have h9 := hM.1.1.2.1
  apply T.int
  apply t_X10_length hG rx rt
  intro σ1 e1
  obtain ⟨hG1, t1, hF1, hM1, o1⟩ := m_pre hG hM e1
  obtain ⟨⟨m1, m2, m3, m4, m5, m6, m7, m8, m9, m10, m11, m12, m13, m14, m15⟩, f1, f2⟩ := hM1
  obtain ⟨r4, σ4, he4, hr4, e4, hx⟩ := m_isStall (sc := sc) (d := d + 2) (x := x) hG1 ((o1 80 2 (by omega)).trans h2) h9 rx
  subst e4
  obtain ⟨σ3, he3, hm3⟩ := m_bad1 (sc := sc) (d := d + 3) (w := 1) (q := 0) hG1 t1 (by omega) (by omega) ((hc.pre e1) 0 (by omega))
  obtain ⟨σ5, he5, hm5⟩ := m_bad1 (sc := sc) (d := d + 3) (w := 2) (q := 1) hG1 t1 (by omega) (by omega) ((hc.pre e1) 1 (by omega))
  obtain ⟨r6, σ6, he6, hr6, e6, hx6⟩ := m_isMinute (sc := sc) (d := d + 2) (x := t) hG1 rt
  subst e6
  refine ⟨r4, σ6, he4, hG1, hr4, fun q => ⟨0, σ6, m_bad0 hG1 t1 (by decide) (by decide), hG1, by decide, fun z => absurd rfl z, fun _ => ⟨r6, σ6, he6, hG1, hr6, fun q1 => ?_, fun q1 => ?_⟩⟩, fun q => ⟨1, σ3, he3, hm3.g hG1, by decide, fun _ => ⟨0, rfl, by decide, Or.inr ⟨by omega, rfl, hm3.pre e1⟩⟩, fun z => absurd z (by decide)⟩⟩
  · obtain ⟨r5, σ2, he2, hr2, e2, hl, hb⟩ := m_sunAt (sc := sc) (d := d + 3) (fr := fr) (K := K) (t := t) hG1 m9 m11.1 (fun i i0 i1 => (m10 i i0 i1).1) (by omega)
    subst e2
    have ok : 0 ≤ x ∧ x < n := by omega
    have ok2 : 0 ≤ t ∧ t < 1440 := by omega
    have w1 : rI σ2 76 19 = rI σ 76 19 := o1 76 19 (by omega)
    have fin : ∀ r : Int, inR r → (r = if sT Es fo t = -1 ∨ sT Es fo t / 10 = 4 then 0 else D 2 x * (sT Es fo t % 10) * (1 + rI σ 76 19) / 10) → QI (OB2 σ (0 ≤ x ∧ x < n) 1 0 (0 ≤ t ∧ t < 1440) 2 1 (fun r σ1 => Fr A0 σ σ1 ∧ rI σ1 76 0 = 0 ∧ r = if sT Es fo t = -1 ∨ sT Es fo t / 10 = 4 then 0 else D 2 x * (sT Es fo t % 10) * (1 + rI σ 76 19) / 10)) (.inl (some (.int (nZ r)))) σ2 := fun r hr e => ⟨r, rfl, hr, Or.inl ⟨ok, Or.inl ⟨ok2, hF1, t1, e⟩⟩⟩
    apply v_X10_length_40 hG1 rx rt (by decide)
    refine ⟨0, σ2, m_bad0 hG1 t1 (by decide) (by decide), hG1, by decide, fun _ => ⟨r5, σ2, he2, hG1, hr2, ?_⟩, fun z => absurd rfl z⟩
    rw [f1]
    refine ⟨fun q2 => fin 0 (by decide) ?_, fun q2 => ⟨fun q3 => fin 0 (by decide) ?_, fun q3 => ⟨by omega, ?_⟩⟩⟩
    · rw [if_pos (Or.inl (by unfold sT; rw [if_neg (by omega)]))]
    · rcases hl.at m11 ok2.1 (-1) with ⟨_, b, _⟩ | ⟨a, _⟩
      · rw [if_pos (Or.inl (by unfold sT; rw [if_pos (by omega)]; exact b))]
      · omega
    · rcases hl.at m11 ok2.1 (-1) with ⟨a, _⟩ | ⟨a, b, _⟩
      · exact absurd a q3
      obtain ⟨s1, s2, s3, s4, s5⟩ := m10 r5 a.1 a.2
      have e : sT Es fo t = va r5 := by unfold sT; rw [if_pos (by omega)]; exact b
      have b2 := m3.2 x ok.1 ok.2
      obtain ⟨r7, σ7, he7, hr7, e7, h7⟩ := m_lengthBy (sc := sc) (d := d + 3) (s := x) (k := r5) hG1 m8 (by omega) (by rw [← m2]; exact b2.2.2.1) (by omega) s4
      subst e7
      rw [← m2, w1] at h7
      have fin2 : ¬ (rI σ7 (122 + r5.toNat) 1 = 0 ∧ rI σ7 (122 + r5.toNat) 2 = 0) → r7 = if sT Es fo t = -1 ∨ sT Es fo t / 10 = 4 then 0 else D 2 x * (sT Es fo t % 10) * (1 + rI σ 76 19) / 10 := by
        intro z
        rw [e, if_neg (by omega), h7, show va r5 % 10 = rI σ7 (122 + r5.toNat) 3 by omega]
      refine ⟨fun q4 => ⟨r7, σ7, he7, hG1, hr7, fin r7 hr7 (fin2 (fun z => q4 z.1))⟩, fun q4 => ⟨by omega, fun q5 => ⟨r7, σ7, he7, hG1, hr7, fin r7 hr7 (fin2 (fun z => q5 z.2))⟩, fun q5 => fin 0 (by decide) ?_⟩⟩
      rw [if_pos (Or.inr (by rw [e]; omega))]
  · apply v_X10_length_40 hG1 rx rt (by decide)
    exact ⟨1, σ5, he5, hm5.g hG1, by decide, fun z => absurd z (by decide), fun _ => ⟨0, rfl, by decide, Or.inl ⟨by omega, Or.inr ⟨by omega, rfl, hm5.pre e1⟩⟩⟩⟩
theorem m_first {t : Int} (hG : G σ u) (hM : Mf σ n (-1) W H D Es Er K fr va du fo) (rt : inR t) (hc : Rc σ) : TI sc (d + 6) mX10_first [.ref 76, .int (nZ t)] σ (OB σ (0 ≤ t ∧ t < 1440) 1 1 (fun r σ1 => Fr AGz σ σ1 ∧ rI σ1 76 0 = 0 ∧ FirstS (fun q => Under (Falls D n (-1) (1 + rI σ 76 19)) n (sT Es fo q)) t r)) := by
  have h9 := hM.1.1.2.1
  apply T.int
  apply t_X10_first hG rt
  intro σ1 e1
  obtain ⟨hG1, t1, hF1, hM1, o1⟩ := m_pre hG hM e1
  obtain ⟨r, σ2, he, hr, hF, ht, hg, hOn, h⟩ := m_goD (sc := sc) (d := d) hG hM e1
  obtain ⟨⟨m1, m2, m3, m4, m5, m6, m7, m8, m9, m10, m11, m12, m13, m14, m15⟩, f1, f2⟩ := hM
  obtain ⟨r6, σ6, he6, hr6, e6, hx6⟩ := m_isMinute (sc := sc) (d := d + 3) (x := t) hG1 rt
  subst e6
  obtain ⟨σ3, he3, hm3⟩ := m_bad1 (sc := sc) (d := d + 4) (w := 1) (q := 1) hG1 t1 (by omega) (by omega) ((hc.pre e1) 1 (by omega))
  obtain ⟨fa, hfa⟩ : ∃ fa : Int → Int → Int → Prop, fa = Falls D n (-1) (1 + rI σ 76 19) := ⟨_, rfl⟩
  rw [← hfa]
  obtain ⟨U, hU⟩ : ∃ U : Int → Prop, U = fun q => Under fa n (sT Es fo q) := ⟨_, rfl⟩
  rw [← hU]
  obtain ⟨P, hP⟩ : ∃ P : aO → aH → Prop, P = QI (OB σ (0 ≤ t ∧ t < 1440) 1 1 (fun r σ1 => Fr AGz σ σ1 ∧ rI σ1 76 0 = 0 ∧ FirstS U t r)) := ⟨_, rfl⟩
  rw [← hP]
  have Uno : ∀ q : Int, sT Es fo q = -1 → ¬ U q := fun q e z => by
    rw [hU] at z
    obtain ⟨k, j, _, _, z⟩ := z
    rw [e, hfa] at z
    exact fa_no k j z
  have np2 : rI σ2 76 25 = rI σ 76 25 := hF.rw (by omega) (AGz_no _ _ (by omega))
  have n28 : rI σ2 76 28 = n := (hF.rw (by omega) (AGz_no _ _ (by omega))).trans m1.1
  have f12 : rI σ2 80 3 = fo := (hF.rw (by omega) (AGz_no _ _ (by omega))).trans f1
  have pr : ∀ (p i : Int), 0 ≤ p → p < 70 → 0 ≤ i → rI σ2 (190 + p.toNat) i = rI σ (190 + p.toNat) i := fun p i p0 p1 i0 => hF.rw i0 (AGz_no _ _ (by omega))
  have loop : (0 ≤ t ∧ t < 1440) → ∀ (f : Nat) (p : Int), (rI σ 76 25 - p).toNat = f → 0 ≤ p → p ≤ rI σ 76 25 → (∀ q : Int, t ≤ q → q < 1440 → (p < rI σ 76 25 → q < rI σ (190 + p.toNat) 0) → ¬ U q) → L_X10_first_35 (Ev sc (d + 5)) sc P t p σ2 := by
    intro ok f
    induction f with
    | zero =>
      intro p hf p0 p1 hq
      apply v_X10_first_35 (hF.g hG) rt (by omega)
      rw [np2]
      refine ⟨fun _ => ?_, fun q => by omega⟩
      rw [hP]
      exact ⟨-1, rfl, by decide, Or.inl ⟨ok, hF, ht, Or.inl ⟨rfl, fun q a b => hq q a b (fun z => by omega)⟩⟩⟩
    | succ f ih =>
      intro p hf p0 p1 hq
      have hpc := m14 p p0 (by omega)
      have e0 := pr p 0 p0 (by omega) (by omega)
      have e1' := pr p 1 p0 (by omega) (by omega)
      have e2' := pr p 2 p0 (by omega) (by omega)
      obtain ⟨fm, hfm⟩ : ∃ fm : Int, fm = rI σ (190 + p.toNat) 0 := ⟨_, rfl⟩
      obtain ⟨to, hto⟩ : ∃ to : Int, to = rI σ (190 + p.toNat) 1 := ⟨_, rfl⟩
      obtain ⟨kk, hkk⟩ : ∃ kk : Int, kk = rI σ (190 + p.toNat) 2 := ⟨_, rfl⟩
      rw [← hfm] at hpc hq e0
      rw [← hto] at hpc e1'
      rw [← hkk] at hpc e2'
      obtain ⟨c1, -, c3, c4, c5⟩ := hpc
      have hq' : ∀ q : Int, t ≤ q → q < fm → ¬ U q := fun q a b => hq q a (by omega) (fun _ => b)
      have hl : ∀ q : Int, fm ≤ q → q < to → (kk = -1 ∧ aT Es (-1) q = -1) ∨ ((0 ≤ kk ∧ kk < K) ∧ aT Es (-1) q = va kk) := fun q a b => by
        rcases (c5 q a b).1.at m11 (by omega) (-1) with ⟨x1, x2, _⟩ | ⟨x1, x2, _⟩
        · exact Or.inl ⟨x1, x2⟩
        · exact Or.inr ⟨x1, x2⟩
      have hkb : kk = -1 ∨ (0 ≤ kk ∧ kk < K) := by
        rcases hl fm (by omega) (by omega) with a | a
        · exact Or.inl a.1
        · exact Or.inr a.1
      have hK20 := m11.1
      -- on to the next piece
      have next : (∀ q : Int, t ≤ q → fm ≤ q → q < to → ¬ U q) → L_X10_first_35 (Ev sc (d + 5)) sc P t (p + 1) σ2 := by
        intro hx
        refine ih (p + 1) (by omega) (by omega) (by omega) (fun q a b c => ?_)
        have hto2 : q < to := by
          by_cases z : p + 1 < rI σ 76 25
          · rw [← c3 z]; exact c z
          · rw [c4 (by omega)]; exact b
        by_cases z : q < fm
        · exact hq' q a z
        · exact hx q a (by omega) hto2
      have inner : ∀ st : Int, inR st → st = max fm t → t < to → st < fo → (0 ≤ kk ∧ kk < K) → ∀ (f2 : Nat) (j : Int), (n - j).toNat = f2 → 0 ≤ j → j ≤ n → (∀ i : Int, 0 ≤ i → i < j → ∀ k : Int, 0 ≤ k → k < n → ¬ fa k i (va kk)) → L_X10_first_108 (Ev sc (d + 5)) sc P t p st j σ2 := by
        intro st rst hst h1 h2 hk f2
        induction f2 with
        | zero =>
          intro j hf2 j0 j1 hn
          apply v_X10_first_108 (hF.g hG) rt (by omega) rst (by omega)
          refine ⟨fun _ => ⟨by omega, next (fun q a b c z => ?_)⟩, fun q => by omega⟩
          by_cases y : q < fo
          · have e : sT Es fo q = va kk := by
              unfold sT; rw [if_pos y]
              rcases hl q b c with x1 | x1
              · omega
              · exact x1.2
            rw [hU] at z
            obtain ⟨k, i, k1, i1, z⟩ := z
            rw [e] at z
            exact hn i i1.1 (by omega) k k1.1 k1.2 z
          · exact Uno q (by unfold sT; rw [if_neg y]) z
        | succ f2 ih2 =>
          intro j hf2 j0 j1 hn
          have ej : rI σ2 (261 + kk.toNat) j = bs (fun i => fa i j (va kk)) n.toNat := by
            rw [hOn kk j hk.1 hk.2 j0 (by omega), hfa]
            exact bs_congr (fun k k0 k1 => FaM_iff k0 j0)
          apply v_X10_first_108 (hF.g hG) rt (by omega) rst (by omega)
          rw [e2', ej]
          refine ⟨fun q => by omega, fun _ => ⟨by omega, by omega, by omega, fun q => ⟨by omega, ih2 (j + 1) (by omega) (by omega) (by omega) (fun i i0 i1 k k0 k1 => ?_)⟩, fun q => ?_⟩⟩
          · by_cases y : i = j
            · rw [y]; exact bs_zero.mp q k k0 (by omega)
            · exact hn i i0 (by omega) k k0 k1
          · have hex : ∃ k : Int, (0 ≤ k ∧ k < n) ∧ fa k j (va kk) := by
              apply Classical.byContradiction
              intro nex
              apply q
              rw [bs_zero]
              intro k k0 k1 z
              exact nex ⟨k, ⟨k0, by omega⟩, z⟩
            obtain ⟨k, kb, kz⟩ := hex
            rw [hP]
            refine ⟨st, rfl, rst, Or.inl ⟨ok, hF, ht, Or.inr ⟨by omega, ?_, fun q a b => ?_⟩⟩⟩
            · have e : sT Es fo st = va kk := by
                unfold sT; rw [if_pos h2]
                rcases hl st (by omega) (by omega) with x1 | x1
                · omega
                · exact x1.2
              rw [hU]
              show Under fa n (sT Es fo st)
              rw [e]
              exact ⟨k, j, kb, ⟨j0, by omega⟩, kz⟩
            · exact hq' q a (by omega)
      have piece : ∀ st : Int, inR st → st = max fm t → L_X10_first_67 (Ev sc (d + 5)) sc P t p st σ2 := by
        intro st rst hst
        apply v_X10_first_67 (hF.g hG) rt (by omega) rst
        rw [e1', e2', f12]
        refine ⟨by omega, fun q => ⟨by omega, next (fun q a b c => by omega)⟩, fun q => ⟨fun q1 => ⟨by omega, next (fun q a b c => Uno q (by unfold sT; rw [if_neg (by omega)]))⟩, fun q1 => ⟨by omega, fun q2 => ?_, fun q2 => ⟨by omega, next (fun q a b c => ?_)⟩⟩⟩⟩
        · exact inner st rst hst (by omega) (by omega) (by omega) _ 0 rfl (by omega) h9.1 (fun i a b => by omega)
        · refine Uno q ?_
          unfold sT
          split
          · rcases hl q b c with x1 | x1
            · exact x1.2
            · omega
          · rfl
      apply v_X10_first_35 (hF.g hG) rt (by omega)
      rw [np2, e0]
      exact ⟨fun q => by omega, fun _ => ⟨by omega, fun q => piece t rt (by omega), fun q => ⟨by omega, piece fm (by omega) (by omega)⟩⟩⟩
  refine ⟨r6, σ6, he6, hG1, hr6, fun q => ⟨0, σ6, m_bad0 hG1 t1 (by decide) (by decide), hG1, by decide, fun _ => ⟨r, σ2, he, hF.g hG, hr, loop (by omega) _ 0 rfl (by omega) (by omega) (fun q a b c => ?_)⟩, fun z => absurd rfl z⟩, fun q => ⟨1, σ3, he3, hm3.g hG1, by decide, fun z => absurd z (by decide), fun _ => ?_⟩⟩
  · have z1 := (m14 0 (by omega) (by omega)).2.1 rfl
    have z2 := c (by omega)
    omega
  · rw [hP]; exact ⟨0, rfl, by decide, Or.inr ⟨by omega, rfl, hm3.pre e1⟩⟩
end
