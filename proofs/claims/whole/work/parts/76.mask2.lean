/-! THE REFERENCE: chill, minutes, owes, net, led, out, tall, cold, told, stall. -/
theorem PrU {fa : Int → Int → Int → Prop} {la R : Int → Int} {Es : Nat → Option Int} {un fo du i j : Int} (hfa : ∀ i j : Int, ¬ fa i j (-1)) : Prc fa la (sT Es (min un fo)) R (fun t => cif (du ≤ t) (R t) 0) i j = Prc fa la (sT Es fo) (Fn R 0 un) (Fn R (max 0 du) un) i j := by
  have a : ∀ t : Int, t < un → sT Es (min un fo) t = sT Es fo t := fun t q => by
    unfold sT
    by_cases c : t < fo
    · rw [if_pos c, if_pos (by omega)]
    · rw [if_neg c, if_neg (by omega)]
  have b : ∀ t : Int, ¬ t < un → sT Es (min un fo) t = -1 := fun t q => by unfold sT; rw [if_neg (by omega)]
  refine Prc_eq2 hfa (fun t t0 t1 => ?_) (fun t t0 t1 => ?_) i j
  · by_cases c : t < un
    · exact Or.inl ⟨a t c, (cif_pos ⟨t0, c⟩).symm⟩
    · exact Or.inr ⟨Or.inl (b t c), Or.inr (cif_neg (fun q => c q.2))⟩
  · by_cases c : t < un
    · exact Or.inl ⟨a t c, cif_congr ⟨fun q => ⟨by omega, c⟩, fun q => by omega⟩⟩
    · exact Or.inr ⟨Or.inl (b t c), Or.inr (cif_neg (fun q => c q.2))⟩
theorem fa_no {D : Nat → Int → Int} {n g w : Int} (i j : Int) : ¬ Falls D n g w i j (-1) := fun q => falls_neg (by omega) q
section
variable {sc : Nat × (Nat → Int32)} {d : Nat} {σ : aH} {u : Nat} {n W H : Int} {D : Nat → Int → Int} {Es Er : Nat → Option Int} {K : Int} {fr va : Int → Int} {du fo g : Int}
theorem m_goX {un : Int} (hG : G σ u) (hM : Mf σ n (-1) W H D Es Er K fr va du fo) (hu : 0 ≤ un ∧ un ≤ 1440) : TV sc (d + 4) mX10_goes [.ref 76, .int (nZ un), .int (nZ fo), .int (nZ 0)] σ (fun σ2 => Fr AGo σ σ2 ∧ GoS σ2 (Falls D n (-1) (1 + rI σ 76 19)) (D 6) (sT Es (min un fo)) (aT Er 1) du n fr K Es) := by
  obtain ⟨σ1, he1, hF1, hO1, hg1⟩ := m_goes (sc := sc) (d := d) (un := un) (fo := fo) (cl := 0) hG hM.1 hu hM.2.2 (by omega)
  rw [Sg_0] at hg1
  exact ⟨σ1, he1, hF1, hg1.fa (fun i j s i0 i1 j0 j1 => FaM_iff i0 j0)⟩
theorem AGo_t (i : Int) (h : i = 0 ∨ i = 28) : ¬ AGo 76 i := by show ¬ ((261 ≤ 76 ∧ 76 ≤ 313) ∨ (76 = 76 ∧ (i = 36 ∨ i = 37))); omega
theorem m_chill {x : Int} (hG : G σ u) (hM : Mf σ n (-1) W H D Es Er K fr va du fo) (h2 : rI σ 80 2 = n) (rx : inR x) (hc : Rc σ) : TI sc (d + 6) mX10_chill [.ref 76, .int (nZ x)] σ (OB σ (0 ≤ x ∧ x < n) 1 0 (fun r σ1 => Fr AGz σ σ1 ∧ rI σ1 76 0 = 0 ∧ r = ChD D n (-1) (1 + rI σ 76 19) (sT Es fo) x)) := by
  have h9 := hM.1.1.2.1
  apply T.int
  apply t_X10_chill hG rx
  intro σ1 e1
  obtain ⟨hG1, t1, hF1, hM1, o1⟩ := m_pre hG hM e1
  obtain ⟨r, σ2, he, hr, hF, ht, hg, -, h⟩ := m_goD (sc := sc) (d := d) hG hM e1
  obtain ⟨r4, σ4, he4, hr4, e4, hx⟩ := m_isStall (sc := sc) (d := d + 3) (x := x) hG1 ((o1 80 2 (by omega)).trans h2) h9 rx
  subst e4
  obtain ⟨σ3, he3, hm3⟩ := m_bad1 (sc := sc) (d := d + 4) (w := 1) (q := 0) hG1 t1 (by omega) (by omega) ((hc.pre e1) 0 (by omega))
  refine ⟨r4, σ4, he4, hG1, hr4, fun q => ⟨0, σ4, m_bad0 hG1 t1 (by decide) (by decide), hG1, by decide, fun _ => ⟨r, σ2, he, hF.g hG, hr, by omega, _, rfl, rI_R _ _ _, Or.inl ⟨by omega, hF, ht, ?_⟩⟩, fun z => absurd rfl z⟩, fun q => ⟨1, σ3, he3, hm3.g hG1, by decide, fun z => absurd z (by decide), fun _ => ⟨0, rfl, by decide, Or.inr ⟨by omega, rfl, hm3.pre e1⟩⟩⟩⟩
  exact hg.2.1 x (by omega) (by omega)
theorem m_minutes {x y : Int} (hG : G σ u) (hM : Mf σ n (-1) W H D Es Er K fr va du fo) (h2 : rI σ 80 2 = n) (rx : inR x) (ry : inR y) (hc : Rc σ) : TI sc (d + 6) mX10_minutes [.ref 76, .int (nZ x), .int (nZ y)] σ (OB2 σ ((0 ≤ x ∧ x < n) ∧ (0 ≤ y ∧ y < n)) 1 0 (x ≠ y) 2 1 (fun r σ1 => Fr AGz σ σ1 ∧ rI σ1 76 0 = 0 ∧ r = Fsm (Falls D n (-1) (1 + rI σ 76 19)) (sT Es fo) one x y)) := by
  have h9 := hM.1.1.2.1
  apply T.int
  apply t_X10_minutes hG rx ry
  intro σ1 e1
  obtain ⟨hG1, t1, hF1, hM1, o1⟩ := m_pre hG hM e1
  obtain ⟨r, σ2, he, hr, hF, ht, hg, -, h⟩ := m_goD (sc := sc) (d := d) hG hM e1
  obtain ⟨r4, σ4, he4, hr4, h4⟩ := m_badTwo (sc := sc) (d := d + 2) (x := x) (y := y) hG1 t1 ((o1 80 2 (by omega)).trans h2) h9 rx ry (hc.pre e1)
  obtain ⟨σ3, he3, hm3⟩ := m_bad1 (sc := sc) (d := d + 4) (w := 2) (q := 1) hG1 t1 (by omega) (by omega) ((hc.pre e1) 1 (by omega))
  rcases h4 with ⟨q4, ok4, e4⟩ | ⟨q4, ok4, m4⟩
  · subst e4
    refine ⟨r4, σ4, he4, hG1, hr4, fun q => absurd q4 q, fun _ => ⟨fun q => ?_, fun q => ?_⟩⟩
    · apply v_X10_minutes_25 hG1 rx ry (by decide)
      refine ⟨0, σ4, m_bad0 hG1 t1 (by decide) (by decide), hG1, by decide, fun _ => ⟨r, σ2, he, hF.g hG, hr, by omega, by omega, _, rfl, rI_R _ _ _, Or.inl ⟨ok4, Or.inl ⟨q, hF, ht, ?_⟩⟩⟩, fun z => absurd rfl z⟩
      exact (hg.1 x y ok4.1.1 ok4.1.2 ok4.2.1 ok4.2.2).2.1
    · apply v_X10_minutes_25 hG1 rx ry (by decide)
      exact ⟨1, σ3, he3, hm3.g hG1, by decide, fun z => absurd z (by decide), fun _ => ⟨0, rfl, by decide, Or.inl ⟨ok4, Or.inr ⟨fun z => z q, rfl, hm3.pre e1⟩⟩⟩⟩
  · exact ⟨r4, σ4, he4, m4.g hG1, hr4, fun _ => ⟨0, rfl, by decide, Or.inr ⟨ok4, rfl, m4.pre e1⟩⟩, fun q => by omega⟩
theorem m_led {x y : Int} (hG : G σ u) (hM : Mf σ n (-1) W H D Es Er K fr va du fo) (h2 : rI σ 80 2 = n) (rx : inR x) (ry : inR y) (hc : Rc σ) : TI sc (d + 6) mX10_led [.ref 76, .int (nZ x), .int (nZ y)] σ (OB2 σ ((0 ≤ x ∧ x < n) ∧ (0 ≤ y ∧ y < n)) 1 0 (x ≠ y) 2 1 (fun r σ1 => Fr AGz σ σ1 ∧ rI σ1 76 0 = 0 ∧ r = LedT (Falls D n (-1) (1 + rI σ 76 19)) n (sT Es fo) x y)) := by
  have h9 := hM.1.1.2.1
  apply T.int
  apply t_X10_led hG rx ry
  intro σ1 e1
  obtain ⟨hG1, t1, hF1, hM1, o1⟩ := m_pre hG hM e1
  obtain ⟨r, σ2, he, hr, hF, ht, hg, -, h⟩ := m_goD (sc := sc) (d := d) hG hM e1
  obtain ⟨r4, σ4, he4, hr4, h4⟩ := m_badTwo (sc := sc) (d := d + 2) (x := x) (y := y) hG1 t1 ((o1 80 2 (by omega)).trans h2) h9 rx ry (hc.pre e1)
  obtain ⟨σ3, he3, hm3⟩ := m_bad1 (sc := sc) (d := d + 4) (w := 2) (q := 1) hG1 t1 (by omega) (by omega) ((hc.pre e1) 1 (by omega))
  rcases h4 with ⟨q4, ok4, e4⟩ | ⟨q4, ok4, m4⟩
  · subst e4
    refine ⟨r4, σ4, he4, hG1, hr4, fun q => absurd q4 q, fun _ => ⟨fun q => ?_, fun q => ?_⟩⟩
    · apply v_X10_led_25 hG1 rx ry (by decide)
      refine ⟨0, σ4, m_bad0 hG1 t1 (by decide) (by decide), hG1, by decide, fun _ => ⟨r, σ2, he, hF.g hG, hr, by omega, by omega, _, rfl, rI_R _ _ _, Or.inl ⟨ok4, Or.inl ⟨q, hF, ht, ?_⟩⟩⟩, fun z => absurd rfl z⟩
      exact (hg.1 y x ok4.2.1 ok4.2.2 ok4.1.1 ok4.1.2).2.2
    · apply v_X10_led_25 hG1 rx ry (by decide)
      exact ⟨1, σ3, he3, hm3.g hG1, by decide, fun z => absurd z (by decide), fun _ => ⟨0, rfl, by decide, Or.inl ⟨ok4, Or.inr ⟨fun z => z q, rfl, hm3.pre e1⟩⟩⟩⟩
  · exact ⟨r4, σ4, he4, m4.g hG1, hr4, fun _ => ⟨0, rfl, by decide, Or.inr ⟨ok4, rfl, m4.pre e1⟩⟩, fun q => by omega⟩
theorem m_owes {x y t : Int} (hG : G σ u) (hM : Mf σ n (-1) W H D Es Er K fr va du fo) (h2 : rI σ 80 2 = n) (rx : inR x) (ry : inR y) (rt : inR t) (hc : Rc σ) : TI sc (d + 5) mX10_owes [.ref 76, .int (nZ x), .int (nZ y), .int (nZ t)] σ (OB2 σ ((0 ≤ x ∧ x < n) ∧ (0 ≤ y ∧ y < n)) 1 0 (x ≠ y ∧ (0 ≤ t ∧ t ≤ 1440)) 2 1 (fun r σ1 => Fr AGz σ σ1 ∧ rI σ1 76 0 = 0 ∧ r = Prc (Falls D n (-1) (1 + rI σ 76 19)) (D 6) (sT Es fo) (Fn (aT Er 1) 0 t) (Fn (aT Er 1) (max 0 du) t) x y)) := by
  have h9 := hM.1.1.2.1
  apply T.int
  apply t_X10_owes hG rx ry rt
  intro σ1 e1
  obtain ⟨hG1, t1, hF1, hM1, o1⟩ := m_pre hG hM e1
  obtain ⟨r4, σ4, he4, hr4, h4⟩ := m_badTwo (sc := sc) (d := d + 1) (x := x) (y := y) hG1 t1 ((o1 80 2 (by omega)).trans h2) h9 rx ry (hc.pre e1)
  obtain ⟨σ3, he3, hm3⟩ := m_bad1 (sc := sc) (d := d + 3) (w := 2) (q := 1) hG1 t1 (by omega) (by omega) ((hc.pre e1) 1 (by omega))
  rcases h4 with ⟨q4, ok4, e4⟩ | ⟨q4, ok4, m4⟩
  · subst e4
    obtain ⟨r9, σ9, he9, hr9, e9, h9'⟩ := m_isTill (sc := sc) (d := d + 2) (x := t) hG1 rt
    subst e9
    obtain ⟨P, hP⟩ : ∃ P : aO → aH → Prop, P = QI (OB2 σ ((0 ≤ x ∧ x < n) ∧ (0 ≤ y ∧ y < n)) 1 0 (x ≠ y ∧ (0 ≤ t ∧ t ≤ 1440)) 2 1 (fun r σ1 => Fr AGz σ σ1 ∧ rI σ1 76 0 = 0 ∧ r = Prc (Falls D n (-1) (1 + rI σ 76 19)) (D 6) (sT Es fo) (Fn (aT Er 1) 0 t) (Fn (aT Er 1) (max 0 du) t) x y)) := ⟨_, rfl⟩
    rw [← hP]
    have bad : ¬ (x ≠ y ∧ (0 ≤ t ∧ t ≤ 1440)) → L_X10_owes_32 (Ev sc (d + 4)) sc P x y t 1 σ9 := by
      intro nok
      apply v_X10_owes_32 hG1 rx ry rt (by decide)
      rw [hP]
      exact ⟨1, σ3, he3, hm3.g hG1, by decide, fun z => absurd z (by decide), fun _ => ⟨0, rfl, by decide, Or.inl ⟨ok4, Or.inr ⟨nok, rfl, hm3.pre e1⟩⟩⟩⟩
    refine ⟨r4, σ9, he4, hG1, hr4, fun q => absurd q4 q, fun _ => ⟨fun q => bad (fun z => z.1 q), fun q => ⟨r9, σ9, he9, hG1, hr9, fun q1 => ?_, fun q1 => bad (fun z => by omega)⟩⟩⟩
    obtain ⟨σ6, he6, hF6, hg6⟩ := m_goX (sc := sc) (d := d) (un := t) hG1 hM1 (by omega)
    rw [o1 76 19 (by omega)] at hg6
    apply v_X10_owes_32 hG1 rx ry rt (by decide)
    rw [hP]
    refine ⟨0, σ9, m_bad0 hG1 t1 (by decide) (by decide), hG1, by decide, fun _ => ⟨σ6, by rw [hM1.2.1]; exact he6, hF6.g hG1, by omega, by omega, _, rfl, rI_R _ _ _, Or.inl ⟨ok4, Or.inl ⟨⟨q, by omega⟩, (hF1.weak (fun a i z => Or.inr z)).trans (hF6.weak (fun a i z => Or.inl z)), (hF6.rw (by omega) (AGo_t 0 (by omega))).trans t1, ?_⟩⟩⟩, fun z => absurd rfl z⟩
    exact (hg6.1 x y ok4.1.1 ok4.1.2 ok4.2.1 ok4.2.2).1.trans (PrU fa_no)
  · exact ⟨r4, σ4, he4, m4.g hG1, hr4, fun _ => ⟨0, rfl, by decide, Or.inr ⟨ok4, rfl, m4.pre e1⟩⟩, fun q => by omega⟩
theorem m_net {x t : Int} (hG : G σ u) (hM : Mf σ n (-1) W H D Es Er K fr va du fo) (h2 : rI σ 80 2 = n) (rx : inR x) (rt : inR t) (hc : Rc σ) : TI sc (d + 5) mX10_net [.ref 76, .int (nZ x), .int (nZ t)] σ (OB2 σ (0 ≤ x ∧ x < n) 1 0 (0 ≤ t ∧ t ≤ 1440) 2 1 (fun r σ1 => Fr AGz σ σ1 ∧ rI σ1 76 0 = 0 ∧ r = GainD D n (-1) (1 + rI σ 76 19) (sT Es fo) (Fn (aT Er 1) 0 t) (Fn (aT Er 1) (max 0 du) t) x)) := by
  have h9 := hM.1.1.2.1
  have hE := hM.1.2.2.2.2.2.2.2.2.2.2.2.2.2.2
  apply T.int
  apply t_X10_net hG rx rt
  intro σ1 e1
  obtain ⟨hG1, t1, hF1, hM1, o1⟩ := m_pre hG hM e1
  obtain ⟨r4, σ4, he4, hr4, e4, hx⟩ := m_isStall (sc := sc) (d := d + 2) (x := x) hG1 ((o1 80 2 (by omega)).trans h2) h9 rx
  subst e4
  obtain ⟨σ3, he3, hm3⟩ := m_bad1 (sc := sc) (d := d + 3) (w := 1) (q := 0) hG1 t1 (by omega) (by omega) ((hc.pre e1) 0 (by omega))
  obtain ⟨σ5, he5, hm5⟩ := m_bad1 (sc := sc) (d := d + 3) (w := 2) (q := 1) hG1 t1 (by omega) (by omega) ((hc.pre e1) 1 (by omega))
  obtain ⟨r9, σ9, he9, hr9, e9, h9'⟩ := m_isTill (sc := sc) (d := d + 2) (x := t) hG1 rt
  subst e9
  refine ⟨r4, σ9, he4, hG1, hr4, fun q => ⟨0, σ9, m_bad0 hG1 t1 (by decide) (by decide), hG1, by decide, fun z => absurd rfl z, fun _ => ⟨r9, σ9, he9, hG1, hr9, fun q1 => ?_, fun q1 => ?_⟩⟩, fun q => ⟨1, σ3, he3, hm3.g hG1, by decide, fun _ => ⟨0, rfl, by decide, Or.inr ⟨by omega, rfl, hm3.pre e1⟩⟩, fun z => absurd z (by decide)⟩⟩
  · obtain ⟨σ6, he6, hF6, hg6⟩ := m_goX (sc := sc) (d := d) (un := t) hG1 hM1 (by omega)
    rw [o1 76 19 (by omega)] at hg6
    obtain ⟨r7, σ7, he7, hr7, e7, h7⟩ := m_netOf (sc := sc) (d := d + 3) (s := x) (ow := fun i j => Prc (Falls D n (-1) (1 + rI σ 76 19)) (D 6) (sT Es fo) (Fn (aT Er 1) 0 t) (Fn (aT Er 1) (max 0 du) t) i j) (hF6.g hG1) ((hF6.rw (by omega) (AGo_t 28 (by omega))).trans hM1.1.1.1) h9 (by omega) (fun i j i0 i1 j0 j1 => ⟨(hg6.1 i j i0 i1 j0 j1).1.trans (PrU fa_no), by
      have := Prc_bd (fa := Falls D n (-1) (1 + rI σ 76 19)) (la := D 6) (S := sT Es fo) (i := i) (j := j) (Fn9 (rate9 hE) 0 t) (Fn9 (rate9 hE) (max 0 du) t)
      exact ⟨this.1, Int.le_trans this.2 (by decide)⟩⟩)
    subst e7
    apply v_X10_net_40 hG1 rx rt (by decide)
    exact ⟨0, σ9, m_bad0 hG1 t1 (by decide) (by decide), hG1, by decide, fun _ => ⟨σ7, by rw [hM1.2.1]; exact he6, hF6.g hG1, r7, σ7, he7, hF6.g hG1, hr7, r7, rfl, hr7, Or.inl ⟨by omega, Or.inl ⟨by omega, (hF1.weak (fun a i z => Or.inr z)).trans (hF6.weak (fun a i z => Or.inl z)), (hF6.rw (by omega) (AGo_t 0 (by omega))).trans t1, h7⟩⟩⟩, fun z => absurd rfl z⟩
  · apply v_X10_net_40 hG1 rx rt (by decide)
    exact ⟨1, σ5, he5, hm5.g hG1, by decide, fun z => absurd z (by decide), fun _ => ⟨0, rfl, by decide, Or.inl ⟨by omega, Or.inr ⟨by omega, rfl, hm5.pre e1⟩⟩⟩⟩
theorem m_out {x : Int} (hG : G σ u) (hM : Mf σ n (-1) W H D Es Er K fr va du fo) (h2 : rI σ 80 2 = n) (rx : inR x) (hc : Rc σ) : TI sc (d + 6) mX10_out [.ref 76, .int (nZ x)] σ (OB σ (0 ≤ x ∧ x < n) 1 0 (fun r σ1 => Fr (fun a i => AGz a i ∨ (a = 76 ∧ i = 27)) σ σ1 ∧ rI σ1 76 0 = 0 ∧ rI σ1 76 27 = 0 ∧ r = DueD D n x (1 + rI σ 76 19) (sT Es fo) (CF Er) (CF1 Er du))) := by
  have h9 := hM.1.1.2.1
  apply T.int
  apply t_X10_out hG rx
  intro σ1 e1
  obtain ⟨hG1, t1, hF1, hM1, o1⟩ := m_pre hG hM e1
  obtain ⟨r4, σ4, he4, hr4, e4, hx⟩ := m_isStall (sc := sc) (d := d + 3) (x := x) hG1 ((o1 80 2 (by omega)).trans h2) h9 rx
  subst e4
  obtain ⟨σ3, he3, hm3⟩ := m_bad1 (sc := sc) (d := d + 4) (w := 1) (q := 0) hG1 t1 (by omega) (by omega) ((hc.pre e1) 0 (by omega))
  refine ⟨r4, σ4, he4, hG1, hr4, fun q => ?_, fun q => ?_⟩
  · apply v_X10_out_19 hG1 rx (by decide)
    refine ⟨0, σ4, m_bad0 hG1 t1 (by decide) (by decide), hG1, by decide, fun _ σ6 e6 => ?_, fun z => absurd rfl z⟩
    have zx : ∀ y : Int, 0 ≤ y → y < 9 → zShl 1 y = gm y ∧ inR (gm y) := by
      intro y y0 y1
      have : ∀ k : Fin 9, zShl 1 (k.val : Int) = gm (k.val : Int) ∧ inR (gm (k.val : Int)) := by decide +kernel
      have := this ⟨y.toNat, by omega⟩
      rw [show ((⟨y.toNat, by omega⟩ : Fin 9).val : Int) = y from by show (y.toNat : Int) = y; omega] at this
      exact this
    obtain ⟨zx1, zx2⟩ := zx x (by omega) (by omega)
    rw [zx1] at e6
    have hF6 : Fr (fun a i => a = 76 ∧ i = 27) σ4 σ6 := by rw [← e6]; exact Fr.w (by omega) ⟨rfl, rfl⟩
    have hM6 : Mf σ6 n x W H D Es Er K fr va du fo := hM1.re hF6 (fun a i z => by show ¬ (a = 76 ∧ i = 27); omega) (fun i z => by show ¬ (76 = 76 ∧ i = 27); omega) ⟨(hF6.rw (by omega) (by show ¬ (76 = 76 ∧ (28 : Int) = 27); omega)).trans hM1.1.1.1, h9, by rw [← e6]; exact rI_ww zx2, by omega⟩ (by rw [Dm_fr hF6 (fun a i p q => by show ¬ (a = 76 ∧ i = 27); omega), ← hM1.1.2.1]) hM1.1.2.2.1 hM1.1.2.2.2.1 hM1.1.2.2.2.2.1
    obtain ⟨r9, σ9, he9, hr9, hF9, -, h9'⟩ := m_dueNow (sc := sc) (d := d) (hF6.g hG1) hM6
    rw [hF6.rw (by omega) (by show ¬ (76 = 76 ∧ (19 : Int) = 27); omega), o1 76 19 (by omega)] at h9'
    have hFa : Fr (fun a i => AGz a i ∨ (a = 76 ∧ i = 27)) σ σ9 := ((hF1.weak (fun a i z => Or.inl (Or.inr z))).trans (hF6.weak (fun a i z => Or.inr z))).trans (hF9.weak (fun a i z => Or.inl (Or.inl z)))
    refine ⟨r9, σ9, he9, hFa.g hG, hr9, fun σ14 e14 => ⟨r9, rfl, hr9, Or.inl ⟨by omega, ?_, ?_, ?_, h9'⟩⟩⟩
    · rw [← e14]; exact hFa.trans (Fr.w (by omega) (Or.inr ⟨rfl, rfl⟩))
    · rw [← e14, rI_wi (by decide), hF9.rw (by omega) (AGo_t 0 (by omega)), hF6.rw (by omega) (by show ¬ (76 = 76 ∧ (0 : Int) = 27); omega)]; exact t1
    · rw [← e14]; exact rI_ww (by decide)
  · apply v_X10_out_19 hG1 rx (by decide)
    exact ⟨1, σ3, he3, hm3.g hG1, by decide, fun z => absurd z (by decide), fun _ => ⟨0, rfl, by decide, Or.inr ⟨by omega, rfl, hm3.pre e1⟩⟩⟩
end
