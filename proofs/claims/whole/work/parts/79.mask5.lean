/-! THE REFERENCE: wish, harmless, awned. -/
section
variable {sc : Nat × (Nat → Int32)} {d : Nat} {σ : aH} {u : Nat} {n W H : Int} {D : Nat → Int → Int} {Es Er : Nat → Option Int} {K : Int} {fr va : Int → Int} {du fo g : Int}
theorem AMp_t : ¬ AMp 76 0 := by show ¬ ((91 ≤ 76 ∧ 76 ≤ 99) ∨ (261 ≤ 76 ∧ 76 ≤ 313) ∨ (76 = 76 ∧ ((0 : Int) = 36 ∨ (0 : Int) = 37))); omega
theorem m_wish {x : Int} (hG : G σ u) (hM : Mf σ n (-1) W H D Es Er K fr va du fo) (h2 : rI σ 80 2 = n) (hg : Hg D n) (rx : inR x) (hc : Rc σ) : TI sc (d + 8) mX10_wish [.ref 76, .int (nZ x)] σ (OB σ (0 ≤ x ∧ x < n) 1 0 (fun r σ1 => Fr AMz σ σ1 ∧ rI σ1 76 0 = 0 ∧ Dm (rI σ1) = D ∧ WishS D n (-1) (1 + rI σ 76 19) (sT Es fo) (CF Er) (CF1 Er du) x r)) := by
  have h9 := hM.1.1.2.1
  apply T.int
  apply t_X10_wish hG rx
  intro σ1 e1
  obtain ⟨hG1, t1, hF1, hM1, o1⟩ := m_pre hG hM e1
  obtain ⟨r4, σ4, he4, hr4, e4, hx⟩ := m_isStall (sc := sc) (d := d + 5) (x := x) hG1 ((o1 80 2 (by omega)).trans h2) h9 rx
  subst e4
  obtain ⟨σ3, he3, hm3⟩ := m_bad1 (sc := sc) (d := d + 6) (w := 1) (q := 0) hG1 t1 (by omega) (by omega) ((hc.pre e1) 0 (by omega))
  refine ⟨r4, σ4, he4, hG1, hr4, fun q => ⟨0, σ4, m_bad0 hG1 t1 (by decide) (by decide), hG1, by decide, fun _ => ?_, fun z => absurd rfl z⟩, fun q => ⟨1, σ3, he3, hm3.g hG1, by decide, fun z => absurd z (by decide), fun _ => ⟨0, rfl, by decide, Or.inr ⟨by omega, rfl, hm3.pre e1⟩⟩⟩⟩
  obtain ⟨r, σ2, he, hr, hF2, hD2, -, h⟩ := m_wishOf (sc := sc) (d := d) (s := x) hG1 hM1 (by omega) (hg x (by omega) (by omega)).2
  rw [o1 76 19 (by omega)] at h
  exact ⟨r, σ2, he, hF2.g hG1, hr, r, rfl, hr, Or.inl ⟨by omega, (hF1.weak (fun a i z => Or.inr z)).trans (hF2.weak (fun a i z => Or.inl z)), (hF2.rw (by omega) AMp_t).trans t1, hD2, h⟩⟩
theorem m_awned {x y : Int} (hG : G σ u) (hM : Mf σ n (-1) W H D Es Er K fr va du fo) (h2 : rI σ 80 2 = n) (rx : inR x) (ry : inR y) (hc : Rc σ) : TI sc (d + 7) mX10_awned [.ref 76, .int (nZ x), .int (nZ y)] σ (OB2 σ (0 ≤ x ∧ x < n) 1 0 (0 ≤ y ∧ y ≤ 1) 2 1 (fun r σ1 => Fr AMz σ σ1 ∧ rI σ1 76 0 = 0 ∧ Dm (rI σ1) = D ∧ ∃ gn b : Int, AwnS D n (-1) (1 + rI σ 76 19) (sT Es fo) (CF Er) (CF1 Er du) x gn b ∧ r = if y = 0 then b else gn)) := by
  have hDm : D = Dm (rI σ) := hM.1.2.1
  have h9 := hM.1.1.2.1
  have hSt := hM.1.2.2.1
  have hDst := hM.1.2.2.2.1
  have hfld : Fld D n W H := hM.1.2.2.2.2.1
  have hE := hM.1.2.2.2.2.2.2.2.2.2.2.2.2.2.2
  have hDn : ∀ (f : Nat) (i : Int), D f i = D f (i.toNat : Int) := fun f i => by rw [hDm]; exact Dm_tn _ _ _
  apply T.int
  apply t_X10_awned hG rx ry
  intro σ1 e1
  obtain ⟨hG1, t1, hF1, hM1, o1⟩ := m_pre hG hM e1
  obtain ⟨w, hwe⟩ : ∃ w : Int, w = 1 + rI σ 76 19 := ⟨_, rfl⟩
  have w1 : 1 + rI σ1 76 19 = w := by rw [o1 76 19 (by omega), hwe]
  rw [← hwe]
  obtain ⟨r4, σ4, he4, hr4, e4, hx⟩ := m_isStall (sc := sc) (d := d + 4) (x := x) hG1 ((o1 80 2 (by omega)).trans h2) h9 rx
  subst e4
  obtain ⟨σ3, he3, hm3⟩ := m_bad1 (sc := sc) (d := d + 5) (w := 1) (q := 0) hG1 t1 (by omega) (by omega) ((hc.pre e1) 0 (by omega))
  obtain ⟨σ5, he5, hm5⟩ := m_bad1 (sc := sc) (d := d + 5) (w := 2) (q := 1) hG1 t1 (by omega) (by omega) ((hc.pre e1) 1 (by omega))
  obtain ⟨r6, σ6, he6, hr6, e6, hx6⟩ := m_in (sc := sc) (d := d + 5) (x := y) (lo := 0) (hi := 1) hG1 ry (by decide) (by decide)
  subst e6
  obtain ⟨V, hV⟩ : ∃ V : Int → Int, V = fun h => -(GainD (Dset D 3 x h) n (-1) w (sT Es fo) (CF Er) (CF1 Er du) x) := ⟨_, rfl⟩
  have hVb : ∀ h : Int, -233340 ≤ V h ∧ V h ≤ 233340 := by
    intro h
    have := GainD_bd (D := Dset D 3 x h) (gone := -1) (w := w) (S := sT Es fo) h9.2 (CF9 hE) (CF19 (du := du) hE) x
    rw [hV]
    show -233340 ≤ -_ ∧ -_ ≤ 233340
    omega
  obtain ⟨P, hP⟩ : ∃ P : aO → aH → Prop, P = QI (OB2 σ (0 ≤ x ∧ x < n) 1 0 (0 ≤ y ∧ y ≤ 1) 2 1 (fun r σ1 => Fr AMz σ σ1 ∧ rI σ1 76 0 = 0 ∧ Dm (rI σ1) = D ∧ ∃ gn b : Int, AwnS D n (-1) w (sT Es fo) (CF Er) (CF1 Er du) x gn b ∧ r = if y = 0 then b else gn)) := ⟨_, rfl⟩
  rw [← hP]
  have loop : (0 ≤ x ∧ x < n) → (0 ≤ y ∧ y ≤ 1) → ∀ (f : Nat) (b gn i : Int) (τ : aH), (4 - i).toNat = f → 0 ≤ i → i ≤ 4 → inR b → inR gn → Fr AMp σ6 τ → DfEx 3 x D (Dm (rI τ)) → (0 < i → BestS (fun h => (0 ≤ h ∧ h ≤ 3) ∧ h < i) V 1000000000 (-gn) b) → L_X10_awned_70 (Ev sc (d + 6)) sc P x y (D 3 x) b gn i τ := by
    intro ok ok2 f
    have bx := hSt.2 x ok.1 ok.2
    have row : ∀ i : Int, AMp (91 + x.toNat) i := fun i => Or.inl (by omega)
    induction f with
    | zero =>
      intro b gn i τ hf i0 i1 rb rg hF hDt hb
      have hb' := hb (by omega)
      apply v_X10_awned_70 (hF.g hG1) rx ry (by omega) rb rg (by omega)
      have fin : ∀ σ2 : aH, wI τ (91 + x.toNat) 3 (D 3 x) = σ2 → Fr AMz σ σ2 ∧ rI σ2 76 0 = 0 ∧ Dm (rI σ2) = D ∧ ∃ gn b' : Int, AwnS D n (-1) w (sT Es fo) (CF Er) (CF1 Er du) x gn b' ∧ (if y = 0 then b else gn) = if y = 0 then b' else gn := by
        intro σ2 e2
        refine ⟨?_, ?_, ?_, gn, b, ?_, rfl⟩
        · rw [← e2]; exact (hF1.weak (fun a i z => Or.inr z)).trans ((hF.trans (Fr.w (by omega) (row _))).weak (fun a i z => Or.inl z))
        · rw [← e2, rI_wa (by omega), hF.rw (by omega) AMp_t]; exact t1
        · rw [← e2]
          have := Dm_w (σ := τ) (f := 3) (s := x) (v := D 3 x) (by omega) (by omega)
          exact this.trans ((hDt _).trans (Dset_own hDn))
        · unfold AwnS
          rw [← hV]; exact hb'.done (fun c hc => by omega)
      refine ⟨fun _ => ⟨by omega, fun σ2 e2 => ⟨fun q => ?_, fun q => ?_⟩⟩, fun q => by omega⟩
      · rw [hP]
        refine ⟨gn, rfl, rg, Or.inl ⟨ok, Or.inl ⟨ok2, ?_⟩⟩⟩
        obtain ⟨a1, a2, a3, -⟩ := fin σ2 e2
        exact ⟨a1, a2, a3, gn, b, by unfold AwnS; rw [← hV]; exact hb'.done (fun c hc => by omega), by rw [if_neg q]⟩
      · rw [hP]
        refine ⟨b, rfl, rb, Or.inl ⟨ok, Or.inl ⟨ok2, ?_⟩⟩⟩
        obtain ⟨a1, a2, a3, -⟩ := fin σ2 e2
        exact ⟨a1, a2, a3, gn, b, by unfold AwnS; rw [← hV]; exact hb'.done (fun c hc => by omega), by rw [if_pos q]⟩
    | succ f ih =>
      intro b gn i τ hf i0 i1 rb rg hF hDt hb
      apply v_X10_awned_70 (hF.g hG1) rx ry (by omega) rb rg (by omega)
      refine ⟨fun q => by omega, fun _ => ⟨by omega, fun σ7 e7 => ?_⟩⟩
      have hF7 : Fr AMp σ6 σ7 := by rw [← e7]; exact hF.trans (Fr.w (by omega) (row _))
      have hD7 : Dm (rI σ7) = Dset D 3 x i := by
        rw [← e7]
        have := Dm_w (σ := τ) (f := 3) (s := x) (v := i) (by omega) (by omega)
        exact this.trans (hDt _)
      have hM7 : Mf σ7 n (-1) W H (Dset D 3 x i) Es Er K fr va du fo := hM1.amp hF7 hD7 (hSt.set3 (by omega)) (hDst.of (fun j _ _ => ⟨Dset_ne (by omega), Dset_ne (by omega)⟩)) (hfld.of (fun j _ _ => ⟨Dset_ne (by omega), Dset_ne (by omega)⟩))
      obtain ⟨r13, σ9, he9, hr9, hF9, h9'⟩ := m_gainOf (sc := sc) (d := d) (s := x) (hF7.g hG1) hM7 ok
      rw [hF7.rw (by omega) (AMp2 _ (by omega)), w1] at h9'
      have hF9' : Fr AMp σ6 σ9 := hF7.trans (hF9.weak AGo_AMp)
      have hVi : V i = -r13 := by rw [hV, h9']
      have hVbi := hVb i
      have hDx : DfEx 3 x D (Dm (rI σ9)) := by rw [Dm_go hF9, hD7]; exact DfEx.of
      refine ⟨r13, σ9, he9, hF9'.g hG1, hr9, fun q => ⟨by omega, ?_⟩, fun q => ⟨fun q1 => ⟨by omega, ?_⟩, fun q1 => ⟨by omega, ?_⟩⟩⟩
      · refine ih i r13 (i + 1) σ9 (by omega) (by omega) (by omega) (by omega) hr9 hF9' hDx (fun _ => ?_)
        rw [← hVi]
        exact (BestS.start (Cand := fun h => 0 ≤ h ∧ h ≤ 3) (V := V) (bd := 1000000000) (k := i) (fun c hc => by omega)).take ⟨i0, by omega⟩ (by omega)
      · refine ih i r13 (i + 1) σ9 (by omega) (by omega) (by omega) (by omega) hr9 hF9' hDx (fun _ => ?_)
        rw [← hVi]
        exact (hb (by omega)).take ⟨i0, by omega⟩ (by omega)
      · refine ih b gn (i + 1) σ9 (by omega) (by omega) (by omega) rb rg hF9' hDx (fun _ => (hb (by omega)).ext (by omega) (fun c p1 p2 p3 => ?_))
        have e : c = i := by omega
        rw [e]; omega
  refine ⟨r4, σ6, he4, hG1, hr4, fun q => ?_, fun q => ?_⟩
  · apply v_X10_awned_19 hG1 rx ry (by decide)
    refine ⟨0, σ6, m_bad0 hG1 t1 (by decide) (by decide), hG1, by decide, fun z => absurd rfl z, fun _ => ⟨r6, σ6, he6, hG1, hr6, fun q1 => ?_, fun q1 => ?_⟩⟩
    · apply v_X10_awned_42 hG1 rx ry (by decide)
      refine ⟨0, σ6, m_bad0 hG1 t1 (by decide) (by decide), hG1, by decide, fun _ => ⟨by omega, fun z7 e7 => ?_⟩, fun z => absurd rfl z⟩
      have e3 : z7 = D 3 x := by rw [e7, hM1.1.2.1]; exact (Dm_at (by omega)).symm
      rw [e3]
      exact loop (by omega) (by omega) _ 0 0 0 σ6 rfl (by omega) (by omega) (by decide) (by decide) (Fr.refl _ _) (by rw [← hM1.1.2.1]; exact DfEx.refl _ _ _) (fun z => by omega)
    · apply v_X10_awned_42 hG1 rx ry (by decide)
      rw [hP]
      exact ⟨1, σ5, he5, hm5.g hG1, by decide, fun z => absurd z (by decide), fun _ => ⟨0, rfl, by decide, Or.inl ⟨by omega, Or.inr ⟨by omega, rfl, hm5.pre e1⟩⟩⟩⟩
  · apply v_X10_awned_19 hG1 rx ry (by decide)
    rw [hP]
    exact ⟨1, σ3, he3, hm3.g hG1, by decide, fun _ => ⟨0, rfl, by decide, Or.inr ⟨by omega, rfl, hm3.pre e1⟩⟩, fun z => absurd z (by decide)⟩
theorem m_harmless {x : Int} (hG : G σ u) (hM : Mf σ n (-1) W H D Es Er K fr va du fo) (h2 : rI σ 80 2 = n) (rx : inR x) (hc : Rc σ) : TI sc (d + 6) mX10_harmless [.ref 76, .int (nZ x)] σ (OB σ (0 ≤ x ∧ x < n) 1 0 (fun r σ1 => Fr AMz σ σ1 ∧ rI σ1 76 0 = 0 ∧ Dm (rI σ1) = D ∧ HlessS D n (-1) (1 + rI σ 76 19) (sT Es fo) x r)) := by
  have hDm : D = Dm (rI σ) := hM.1.2.1
  have h9 := hM.1.1.2.1
  have hSt := hM.1.2.2.1
  have hDst := hM.1.2.2.2.1
  have hfld : Fld D n W H := hM.1.2.2.2.2.1
  have hDn : ∀ (f : Nat) (i : Int), D f i = D f (i.toNat : Int) := fun f i => by rw [hDm]; exact Dm_tn _ _ _
  apply T.int
  apply t_X10_harmless hG rx
  intro σ1 e1
  obtain ⟨hG1, t1, hF1, hM1, o1⟩ := m_pre hG hM e1
  obtain ⟨w, hwe⟩ : ∃ w : Int, w = 1 + rI σ 76 19 := ⟨_, rfl⟩
  have w1 : 1 + rI σ1 76 19 = w := by rw [o1 76 19 (by omega), hwe]
  have n1 : rI σ1 80 2 = n := (o1 80 2 (by omega)).trans h2
  rw [← hwe]
  obtain ⟨r4, σ4, he4, hr4, e4, hx⟩ := m_isStall (sc := sc) (d := d + 3) (x := x) hG1 n1 h9 rx
  subst e4
  obtain ⟨σ3, he3, hm3⟩ := m_bad1 (sc := sc) (d := d + 4) (w := 1) (q := 0) hG1 t1 (by omega) (by omega) ((hc.pre e1) 0 (by omega))
  obtain ⟨Hs, hHs⟩ : ∃ Hs : Int → Prop, Hs = fun h => HarmS (Dset D 2 x h) n (-1) w (sT Es fo) x := ⟨_, rfl⟩
  obtain ⟨P, hP⟩ : ∃ P : aO → aH → Prop, P = QI (OB σ (0 ≤ x ∧ x < n) 1 0 (fun r σ1 => Fr AMz σ σ1 ∧ rI σ1 76 0 = 0 ∧ Dm (rI σ1) = D ∧ HlessS D n (-1) w (sT Es fo) x r)) := ⟨_, rfl⟩
  rw [← hP]
  have loop : (0 ≤ x ∧ x < n) → ∀ (f : Nat) (b i : Int) (τ : aH), (61 - i).toNat = f → 0 ≤ i → i ≤ 61 → Fr AMp σ4 τ → DfEx 2 x D (Dm (rI τ)) → ((b = -1 ∧ ∀ h : Int, 0 ≤ h → h < i → ¬ Hs h) ∨ ((0 ≤ b ∧ b < i) ∧ Hs b ∧ ∀ h : Int, b < h → h < i → ¬ Hs h)) → L_X10_harmless_43 (Ev sc (d + 5)) sc P x (D 2 x) b i τ := by
    intro ok f
    have bx := hSt.2 x ok.1 ok.2
    have row : ∀ i : Int, AMp (91 + x.toNat) i := fun i => Or.inl (by omega)
    induction f with
    | zero =>
      intro b i τ hf i0 i1 hF hDt hb
      apply v_X10_harmless_43 (hF.g hG1) rx (by omega) (by omega) (by omega)
      refine ⟨fun _ => ⟨by omega, fun σ2 e2 => ?_⟩, fun q => by omega⟩
      rw [hP]
      refine ⟨b, rfl, by omega, Or.inl ⟨ok, ?_, ?_, ?_, ?_⟩⟩
      · rw [← e2]; exact (hF1.weak (fun a i z => Or.inr z)).trans ((hF.trans (Fr.w (by omega) (row _))).weak (fun a i z => Or.inl z))
      · rw [← e2, rI_wa (by omega), hF.rw (by omega) AMp_t]; exact t1
      · rw [← e2]
        have := Dm_w (σ := τ) (f := 2) (s := x) (v := D 2 x) (by omega) (by omega)
        exact this.trans ((hDt _).trans (Dset_own hDn))
      · rcases hb with ⟨a, c⟩ | ⟨a, c, e⟩
        · refine Or.inl ⟨a, fun h h0 h1 => ?_⟩
          have := c h h0 (by omega); rw [hHs] at this; exact this
        · rw [hHs] at c e
          exact Or.inr ⟨by omega, c, fun h h0 h1 => e h h0 (by omega)⟩
    | succ f ih =>
      intro b i τ hf i0 i1 hF hDt hb
      apply v_X10_harmless_43 (hF.g hG1) rx (by omega) (by omega) (by omega)
      refine ⟨fun q => by omega, fun _ => ⟨by omega, fun σ7 e7 => ?_⟩⟩
      have hF7 : Fr AMp σ4 σ7 := by rw [← e7]; exact hF.trans (Fr.w (by omega) (row _))
      have hD7 : Dm (rI σ7) = Dset D 2 x i := by
        rw [← e7]
        have := Dm_w (σ := τ) (f := 2) (s := x) (v := i) (by omega) (by omega)
        exact this.trans (hDt _)
      have hM7 : Mf σ7 n (-1) W H (Dset D 2 x i) Es Er K fr va du fo := hM1.amp hF7 hD7 (hSt.set2 (by omega)) (hDst.of (fun j _ _ => ⟨Dset_ne (by omega), Dset_ne (by omega)⟩)) (hfld.of (fun j _ _ => ⟨Dset_ne (by omega), Dset_ne (by omega)⟩))
      obtain ⟨r9, σ9, he9, hr9, hF9, hD9, -⟩ := m_dueNow (sc := sc) (d := d) (hF7.g hG1) hM7
      rw [hF7.rw (by omega) (AMp2 _ (by omega)), w1] at hD9
      have hg9 := hD9.2.fa (fb := Falls (Dset D 2 x i) n (-1) w) (fun i j s i0 i1 j0 j1 => FaM_iff i0 j0)
      have hF9' : Fr AMp σ4 σ9 := hF7.trans (hF9.weak AGo_AMp)
      have n9 : rI σ9 80 2 = n := (hF9'.rw (by omega) (by show ¬ ((91 ≤ 80 ∧ 80 ≤ 99) ∨ (261 ≤ 80 ∧ 80 ≤ 313) ∨ (80 = 76 ∧ _)); omega)).trans n1
      have hDx : DfEx 2 x D (Dm (rI σ9)) := by rw [Dm_go hF9, hD7]; exact DfEx.of
      have hHi : Hs i ↔ ∀ k : Int, 0 ≤ k → k < n → Fsm (Falls (Dset D 2 x i) n (-1) w) (sT Es fo) one x k = 0 := by rw [hHs]; exact Iff.rfl
      refine ⟨r9, σ9, he9, hF9'.g hG1, hr9, ?_⟩
      have inner : ∀ (f2 : Nat) (fl k : Int), (n - k).toNat = f2 → 0 ≤ k → k ≤ n → ((fl = 0 ∧ ∀ j : Int, 0 ≤ j → j < k → Fsm (Falls (Dset D 2 x i) n (-1) w) (sT Es fo) one x j = 0) ∨ (fl = 1 ∧ ¬ Hs i)) → L_X10_harmless_71 (Ev sc (d + 5)) sc P x (D 2 x) b i fl k σ9 := by
        intro f2
        induction f2 with
        | zero =>
          intro fl k hf2 k0 k1 hfl
          apply v_X10_harmless_71 (hF9'.g hG1) rx (by omega) (by omega) (by omega) (by omega) (by omega)
          refine ⟨fun _ => ⟨fun q => ⟨by omega, ih i (i + 1) σ9 (by omega) (by omega) (by omega) hF9' hDx (Or.inr ⟨by omega, ?_, fun h h0 h1 => by omega⟩)⟩, fun q => ⟨by omega, ih b (i + 1) σ9 (by omega) (by omega) (by omega) hF9' hDx ?_⟩⟩, fun q => by omega⟩
          · rcases hfl with ⟨_, a⟩ | ⟨a, _⟩
            · exact hHi.mpr (fun k a1 a2 => a k a1 (by omega))
            · omega
          · have nH : ¬ Hs i := by
              rcases hfl with ⟨a, _⟩ | ⟨_, a⟩
              · exact absurd a q
              · exact a
            rcases hb with ⟨a, c⟩ | ⟨a, c, e⟩
            · refine Or.inl ⟨a, fun h h0 h1 => ?_⟩
              by_cases z : h = i
              · rw [z]; exact nH
              · exact c h h0 (by omega)
            · refine Or.inr ⟨by omega, c, fun h h0 h1 => ?_⟩
              by_cases z : h = i
              · rw [z]; exact nH
              · exact e h h0 (by omega)
        | succ f2 ih2 =>
          intro fl k hf2 k0 k1 hfl
          have ev := (hg9.1 x k ok.1 ok.2 k0 (by omega)).2.1
          have eb := Fsm_bd (fa := Falls (Dset D 2 x i) n (-1) w) (S := sT Es fo) (i := x) (j := k) F9_one
          apply v_X10_harmless_71 (hF9'.g hG1) rx (by omega) (by omega) (by omega) (by omega) (by omega)
          rw [ev]
          refine ⟨fun q => by omega, fun _ => ⟨fun q => ⟨by omega, ih2 1 (k + 1) (by omega) (by omega) (by omega) (Or.inr ⟨rfl, ?_⟩)⟩, fun q => ⟨by omega, by omega, fun q1 => ⟨by omega, ih2 0 (k + 1) (by omega) (by omega) (by omega) (Or.inl ⟨rfl, fun j j0 j1 => ?_⟩)⟩, fun q1 => ⟨by omega, ih2 1 (k + 1) (by omega) (by omega) (by omega) (Or.inr ⟨rfl, fun z => ?_⟩)⟩⟩⟩⟩
          · rcases hfl with ⟨a, _⟩ | ⟨_, a⟩
            · exact absurd a q
            · exact a
          · by_cases z : j = k
            · rw [z]; omega
            · rcases hfl with ⟨_, a⟩ | ⟨a, _⟩
              · exact a j j0 (by omega)
              · omega
          · have := hHi.mp z k k0 (by omega); omega
      exact inner _ 0 0 rfl (by omega) h9.1 (Or.inl ⟨rfl, fun j a b => by omega⟩)
  refine ⟨r4, σ4, he4, hG1, hr4, fun q => ?_, fun q => ?_⟩
  · apply v_X10_harmless_19 hG1 rx (by decide)
    refine ⟨0, σ4, m_bad0 hG1 t1 (by decide) (by decide), hG1, by decide, fun _ => ⟨by omega, fun z7 e7 => ?_⟩, fun z => absurd rfl z⟩
    have e3 : z7 = D 2 x := by rw [e7, hM1.1.2.1]; exact (Dm_at (by omega)).symm
    rw [e3]
    exact loop (by omega) _ (-1) 0 σ4 rfl (by omega) (by omega) (Fr.refl _ _) (by rw [← hM1.1.2.1]; exact DfEx.refl _ _ _) (Or.inl ⟨rfl, fun h a b => by omega⟩)
  · apply v_X10_harmless_19 hG1 rx (by decide)
    rw [hP]
    exact ⟨1, σ3, he3, hm3.g hG1, by decide, fun z => absurd z (by decide), fun _ => ⟨0, rfl, by decide, Or.inr ⟨by omega, rfl, hm3.pre e1⟩⟩⟩
end
