/-! THE REFERENCE: growing, days, when, play. -/
abbrev A0 : Nat → Int → Prop := fun a i => a = 76 ∧ i = 0
section
variable {sc : Nat × (Nat → Int32)} {d : Nat} {σ : aH} {u : Nat} {n W H : Int} {D : Nat → Int → Int} {Es Er : Nat → Option Int} {K : Int} {fr va : Int → Int} {du fo g : Int}
theorem m_pre {σ1 : aH} (hG : G σ u) (hM : Mf σ n g W H D Es Er K fr va du fo) (e1 : wI σ 76 0 0 = σ1) : G σ1 u ∧ rI σ1 76 0 = 0 ∧ Fr A0 σ σ1 ∧ Mf σ1 n g W H D Es Er K fr va du fo ∧ (∀ (a : Nat) (i : Int), a ≠ 76 ∨ 0 < i → rI σ1 a i = rI σ a i) := by
  have hF : Fr A0 σ σ1 := by rw [← e1]; exact Fr.w (by omega) ⟨rfl, rfl⟩
  have nA : ∀ (a : Nat) (i : Int), a ≠ 76 ∨ 0 < i → ¬ A0 a i := fun a i z => by show ¬ (a = 76 ∧ i = 0); omega
  refine ⟨hF.g hG, by rw [← e1]; exact rI_ww (by decide), hF, hM.frm hF (fun a i z => nA a i (by omega)) (fun i z => nA 76 i (by omega)), fun a i z => ?_⟩
  rw [← e1]
  by_cases c : a = 76
  · exact rI_wi (by omega)
  · exact rI_wa c
theorem m_grows (hG : G σ u) (h2 : rI σ 80 2 = n) (h9 : 0 ≤ n ∧ n ≤ 9) (hD : D = Dm (rI σ)) (hS : StB D n) (hg : Hg D n) : TV sc (d + 1) mX10_grows [.ref 76] σ (fun σ1 => Fr (fun a _ => 91 ≤ a ∧ a ≤ 99) σ σ1 ∧ Dm (rI σ1) = Dgrow D n) := by
  have hDn : ∀ (f : Nat) (i : Int), D f i = D f (i.toNat : Int) := fun f i => by rw [hD]; exact Dm_tn _ _ _
  apply T.void
  apply t_X10_grows hG
  obtain ⟨P, hP⟩ : ∃ P : aO → aH → Prop, P = QV (fun σ1 => Fr (fun a _ => 91 ≤ a ∧ a ≤ 99) σ σ1 ∧ Dm (rI σ1) = Dgrow D n) := ⟨_, rfl⟩
  rw [← hP]
  have loop : ∀ (f : Nat) (k : Int) (τ : aH), (n - k).toNat = f → 0 ≤ k → k ≤ n → Fr (fun a _ => 91 ≤ a ∧ a ≤ 99) σ τ → Dm (rI τ) = Dgrow D k → L_X10_grows_2 (Ev sc d) sc P k τ := by
    intro f
    induction f with
    | zero =>
      intro k τ hf k0 k1 hF hDt
      have k2 : rI τ 80 2 = n := (hF.rw (by omega) (by show ¬ (91 ≤ 80 ∧ 80 ≤ 99); omega)).trans h2
      apply v_X10_grows_2 (hF.g hG) (by omega)
      refine ⟨fun _ => ?_, fun q => by omega⟩
      rw [hP]; exact ⟨rfl, hF, by rw [hDt, show k = n by omega]⟩
    | succ f ih =>
      intro k τ hf k0 k1 hF hDt
      have k2 : rI τ 80 2 = n := (hF.rw (by omega) (by show ¬ (91 ≤ 80 ∧ 80 ≤ 99); omega)).trans h2
      have ev : ∀ f : Nat, rI τ (91 + k.toNat) f = D f k := fun f => by
        rw [← Dm_at (m := rI τ) (f := f) (i := k) (by omega), hDt]; exact Dgrow_far (by omega)
      have b := hS.2 k k0 (by omega)
      have b2 := hg k k0 (by omega)
      have st := Dgrow_step (D := D) k0 hDn
      have e2 : rI τ (91 + k.toNat) 2 = D 2 k := ev 2
      have e4 : rI τ (91 + k.toNat) 4 = D 4 k := ev 4
      have e5 : rI τ (91 + k.toNat) 5 = D 5 k := ev 5
      apply v_X10_grows_2 (hF.g hG) (by omega)
      rw [e2, e4, e5]
      refine ⟨fun q => by omega, fun _ => ⟨by omega, by omega, fun q => ⟨by omega, ih (k + 1) τ (by omega) (by omega) (by omega) hF ?_⟩, fun q => ⟨by omega, by omega, by omega, by omega, by omega, fun q1 => ⟨by omega, fun σ10 e10 => ⟨by omega, ih (k + 1) σ10 (by omega) (by omega) (by omega) ?_ ?_⟩⟩, fun q1 => ⟨by omega, by omega, by omega, fun σ17 e17 => ⟨by omega, ih (k + 1) σ17 (by omega) (by omega) (by omega) ?_ ?_⟩⟩⟩⟩⟩
      · rw [hDt, st, if_neg (by omega)]
      · rw [← e10]; exact hF.trans (Fr.w (by omega) ⟨by omega, by omega⟩)
      · rw [st, if_pos (by omega), ← hDt, ← e10, show min (D 5 k) (D 2 k + D 4 k) = D 5 k by omega]
        exact Dm_w (f := 2) (by omega) (by omega)
      · rw [← e17]; exact hF.trans (Fr.w (by omega) ⟨by omega, by omega⟩)
      · rw [st, if_pos (by omega), ← hDt, ← e17, show min (D 5 k) (D 2 k + D 4 k) = D 2 k + D 4 k by omega]
        exact Dm_w (f := 2) (by omega) (by omega)
  refine loop _ 0 σ rfl (by omega) h9.1 (Fr.refl _ _) ?_
  rw [← hD]
  funext f i
  exact (Dgrow_far (by omega)).symm
theorem DgN_ok (hS : StB D n) (hg : Hg D n) : ∀ k : Nat, StB (DgN D n k) n ∧ Hg (DgN D n k) n ∧ (∀ (f : Nat) (i : Int), f ≠ 2 → DgN D n k f i = D f i) ∧ (∀ (f : Nat) (i : Int), n.toNat ≤ i.toNat → DgN D n k f i = D f i)
  | 0 => ⟨hS, hg, fun _ _ _ => rfl, fun _ _ _ => rfl⟩
  | k + 1 => by
    have ih := DgN_ok hS hg k
    exact ⟨Dgrow_stb ih.1 ih.2.1, Dgrow_hg ih.2.1, fun f i hf => (Dgrow_ne hf).trans (ih.2.2.1 f i hf), fun f i hi => (Dgrow_far hi).trans (ih.2.2.2 f i hi)⟩
theorem m_days {nd : Int} (hG : G σ u) (hM : Mf σ n g W H D Es Er K fr va du fo) (h2 : rI σ 80 2 = n) (hg : Hg D n) (hd : 0 ≤ rI σ 76 18 ∧ rI σ 76 18 ≤ 999) (hn : 1 ≤ nd ∧ nd ≤ 99) : TI sc (d + 2) mX10_days [.ref 76, .int (nZ nd)] σ (fun r σ1 => Fr (fun a i => (91 ≤ a ∧ a ≤ 99) ∨ (a = 76 ∧ (i = 0 ∨ i = 18))) σ σ1 ∧ rI σ1 76 0 = 0 ∧ rI σ1 76 18 = r ∧ r = min (rI σ 76 18 + nd) 999 ∧ Dm (rI σ1) = DgN D n (r - rI σ 76 18).toNat) := by
  have h9 := hM.1.1.2.1
  have hSt := hM.1.2.2.1
  have ok := DgN_ok hSt hg
  apply T.int
  apply t_X10_days hG (by omega)
  intro σ1 e1
  obtain ⟨hG1, t1, hF1, hM1, o1⟩ := m_pre hG hM e1
  obtain ⟨A, hA⟩ : ∃ A : Nat → Int → Prop, A = fun a i => (91 ≤ a ∧ a ≤ 99) ∨ (a = 76 ∧ (i = 0 ∨ i = 18)) := ⟨_, rfl⟩
  obtain ⟨d0, hd0⟩ : ∃ d0 : Int, d0 = rI σ 76 18 := ⟨_, rfl⟩
  rw [← hA, ← hd0]
  rw [← hd0] at hd
  obtain ⟨P, hP⟩ : ∃ P : aO → aH → Prop, P = QI (fun r σ1 => Fr A σ σ1 ∧ rI σ1 76 0 = 0 ∧ rI σ1 76 18 = r ∧ r = min (d0 + nd) 999 ∧ Dm (rI σ1) = DgN D n (r - d0).toNat) := ⟨_, rfl⟩
  rw [← hP]
  have loop : ∀ (f : Nat) (k : Int) (τ : aH), (nd - k).toNat = f → 0 ≤ k → k ≤ nd → d0 + k ≤ 999 → Fr A σ τ → rI τ 76 0 = 0 → rI τ 76 18 = d0 + k → Dm (rI τ) = DgN D n k.toNat → L_X10_days_33 (Ev sc (d + 1)) sc P nd k τ := by
    intro f
    induction f with
    | zero =>
      intro k τ hf k0 k1 kd hF ht hdy hDt
      apply v_X10_days_33 (hF.g hG) (by omega) (by omega)
      refine ⟨fun _ => ?_, fun q => by omega⟩
      rw [hP, hdy]; exact ⟨_, rfl, by omega, hF, ht, hdy, by omega, by rw [hDt, show d0 + k - d0 = k by omega]⟩
    | succ f ih =>
      intro k τ hf k0 k1 kd hF ht hdy hDt
      apply v_X10_days_33 (hF.g hG) (by omega) (by omega)
      rw [hdy]
      refine ⟨fun q => by omega, fun _ => ⟨fun q => ?_, fun q => ?_⟩⟩
      · rw [hP]; exact ⟨_, rfl, by omega, hF, ht, hdy, by omega, by rw [hDt, show d0 + k - d0 = k by omega]⟩
      · have k2 : rI τ 80 2 = n := (hF.rw (by omega) (by rw [hA]; show ¬ ((91 ≤ 80 ∧ 80 ≤ 99) ∨ (80 = 76 ∧ _)); omega)).trans h2
        obtain ⟨σ2, he2, hF2, hD2⟩ := m_grows (sc := sc) (d := d) (n := n) (D := DgN D n k.toNat) (hF.g hG) k2 h9 hDt.symm (ok _).1 (ok _).2.1
        have nB : ∀ i : Int, ¬ (fun (a : Nat) (_ : Int) => 91 ≤ a ∧ a ≤ 99) 76 i := fun i => by show ¬ (91 ≤ 76 ∧ 76 ≤ 99); omega
        have d2 : rI σ2 76 18 = d0 + k := (hF2.rw (by omega) (nB 18)).trans hdy
        have hF2' : Fr A σ σ2 := hF.trans (hF2.weak (fun a i z => by rw [hA]; exact Or.inl z))
        refine ⟨σ2, he2, hF2'.g hG, ?_⟩
        rw [d2]
        refine ⟨by omega, fun σ6 e6 => ⟨by omega, ih (k + 1) σ6 (by omega) (by omega) (by omega) (by omega) ?_ ?_ ?_ ?_⟩⟩
        · rw [← e6]; exact hF2'.trans (Fr.w (by omega) (by rw [hA]; exact Or.inr ⟨rfl, Or.inr rfl⟩))
        · rw [← e6, rI_wi (by decide), hF2.rw (by omega) (nB 0)]; exact ht
        · rw [← e6, rI_ww (by omega)]; omega
        · rw [← e6, Dm_o (by omega), hD2, show (k + 1).toNat = k.toNat + 1 by omega]; rfl
  obtain ⟨r8, σ4, he4, hr4, e4, h4⟩ := m_in (sc := sc) (d := d) (x := nd) (lo := 1) (hi := 99) hG1 (by omega) (by decide) (by decide)
  subst e4
  refine ⟨r8, σ4, he4, hG1, hr4, fun _ => ⟨0, σ4, m_bad0 hG1 t1 (by decide) (by decide), hG1, by decide, fun _ => ?_, fun z => absurd rfl z⟩, fun z => by omega⟩
  exact loop _ 0 σ4 rfl (by omega) (by omega) (by omega) (hF1.weak (fun a i z => by rw [hA]; exact Or.inr ⟨z.1, Or.inl z.2⟩)) t1 (by rw [o1 76 18 (by omega), ← hd0]; omega) (by rw [← hM1.1.2.1]; rfl)
theorem m_notes {k : Int} (hG : G σ u) (hk : 0 ≤ k ∧ k < 21) : TV sc (d + 1) mX10_notes [.ref 76, .int (nZ k)] σ (fun σ1 => Fr (fun a _ => a = 321 + k.toNat) σ σ1 ∧ ∀ s : Int, 0 ≤ s → s < 8 → rI σ1 (321 + k.toNat) s = Dm (rI σ) 2 s) := by
  apply T.void
  apply t_X10_notes hG (by omega)
  obtain ⟨P, hP⟩ : ∃ P : aO → aH → Prop, P = QV (fun σ1 => Fr (fun a _ => a = 321 + k.toNat) σ σ1 ∧ ∀ s : Int, 0 ≤ s → s < 8 → rI σ1 (321 + k.toNat) s = Dm (rI σ) 2 s) := ⟨_, rfl⟩
  rw [← hP]
  have loop : ∀ (f : Nat) (s : Int) (τ : aH), (8 - s).toNat = f → 0 ≤ s → s ≤ 8 → Fr (fun a _ => a = 321 + k.toNat) σ τ → (∀ i : Int, 0 ≤ i → i < s → rI τ (321 + k.toNat) i = Dm (rI σ) 2 i) → L_X10_notes_2 (Ev sc d) sc P k s τ := by
    intro f
    induction f with
    | zero =>
      intro s τ hf s0 s1 hF hi
      apply v_X10_notes_2 (hF.g hG) (by omega) (by omega)
      refine ⟨fun _ => ?_, fun q => by omega⟩
      rw [hP]; exact ⟨rfl, hF, fun i a b => hi i a (by omega)⟩
    | succ f ih =>
      intro s τ hf s0 s1 hF hi
      have e0 : rI τ (91 + s.toNat) 2 = Dm (rI σ) 2 s := (hF.rw (by omega) (by show ¬ (91 + s.toNat = 321 + k.toNat); omega)).trans (Dm_at (by omega)).symm
      apply v_X10_notes_2 (hF.g hG) (by omega) (by omega)
      refine ⟨fun q => by omega, fun _ => ⟨hk, by omega, by omega, fun σ3 e3 => ⟨by omega, ih (s + 1) σ3 (by omega) (by omega) (by omega) (by rw [← e3]; exact hF.trans (Fr.w s0 rfl)) (fun i a b => ?_)⟩⟩⟩
      rw [← e3]
      by_cases c : i = s
      · rw [c, rI_ww (rI_R _ _ _)]; exact e0
      · rw [rI_wi (by omega)]; exact hi i a (by omega)
  exact loop _ 0 σ rfl (by omega) (by omega) (Fr.refl _ _) (fun i a b => by omega)
theorem m_isAs {k : Int} (hG : G σ u) (hk : 0 ≤ k ∧ k < 21) (h2 : rI σ 80 2 = n) (h9 : 0 ≤ n ∧ n ≤ 8) : TI sc (d + 1) mX10_isAs [.ref 76, .int (nZ k)] σ (fun r σ1 => σ1 = σ ∧ ((r = 1 ∧ ∀ s : Int, 0 ≤ s → s < n → rI σ (321 + k.toNat) s = Dm (rI σ) 2 s) ∨ (r = 0 ∧ ¬ ∀ s : Int, 0 ≤ s → s < n → rI σ (321 + k.toNat) s = Dm (rI σ) 2 s))) := by
  apply T.int
  apply t_X10_isAs hG (by omega)
  obtain ⟨P, hP⟩ : ∃ P : aO → aH → Prop, P = QI (fun r σ1 => σ1 = σ ∧ ((r = 1 ∧ ∀ s : Int, 0 ≤ s → s < n → rI σ (321 + k.toNat) s = Dm (rI σ) 2 s) ∨ (r = 0 ∧ ¬ ∀ s : Int, 0 ≤ s → s < n → rI σ (321 + k.toNat) s = Dm (rI σ) 2 s))) := ⟨_, rfl⟩
  rw [← hP]
  have loop : ∀ (f : Nat) (s : Int), (n - s).toNat = f → 0 ≤ s → s ≤ n → (∀ i : Int, 0 ≤ i → i < s → rI σ (321 + k.toNat) i = Dm (rI σ) 2 i) → L_X10_isAs_2 (Ev sc d) sc P k s σ := by
    intro f
    induction f with
    | zero =>
      intro s hf s0 s1 hi
      apply v_X10_isAs_2 hG (by omega) (by omega)
      refine ⟨fun _ => ?_, fun q => by omega⟩
      rw [hP]; exact ⟨1, rfl, by decide, rfl, Or.inl ⟨rfl, fun i a b => hi i a (by omega)⟩⟩
    | succ f ih =>
      intro s hf s0 s1 hi
      have e0 : rI σ (91 + s.toNat) 2 = Dm (rI σ) 2 s := (Dm_at (by omega)).symm
      apply v_X10_isAs_2 hG (by omega) (by omega)
      rw [e0]
      refine ⟨fun q => by omega, fun _ => ⟨hk, by omega, by omega, fun q => ⟨by omega, ih (s + 1) (by omega) (by omega) (by omega) (fun i a b => ?_)⟩, fun q => ?_⟩⟩
      · by_cases c : i = s
        · rw [c]; exact q
        · exact hi i a (by omega)
      · rw [hP]; exact ⟨0, rfl, by decide, rfl, Or.inr ⟨rfl, fun z => q (z s s0 (by omega))⟩⟩
  exact loop _ 0 rfl (by omega) h9.1 (fun i a b => by omega)
/-- what when and play change -/
abbrev AWn : Nat → Int → Prop := fun a i => AMp a i ∨ (321 ≤ a ∧ a ≤ 341) ∨ (a = 76 ∧ (i = 0 ∨ i = 20))
theorem AWn1 (a : Nat) (i : Int) (h : a = 80 ∨ (122 ≤ a ∧ a ≤ 141) ∨ (190 ≤ a ∧ a ≤ 259)) : ¬ AWn a i := by
  show ¬ (((91 ≤ a ∧ a ≤ 99) ∨ (261 ≤ a ∧ a ≤ 313) ∨ (a = 76 ∧ (i = 36 ∨ i = 37))) ∨ (321 ≤ a ∧ a ≤ 341) ∨ (a = 76 ∧ (i = 0 ∨ i = 20))); omega
theorem AWn2 (i : Int) (h : i = 19 ∨ i = 25 ∨ i = 27 ∨ i = 28) : ¬ AWn 76 i := by
  show ¬ (((91 ≤ 76 ∧ 76 ≤ 99) ∨ (261 ≤ 76 ∧ 76 ≤ 313) ∨ (76 = 76 ∧ (i = 36 ∨ i = 37))) ∨ (321 ≤ 76 ∧ 76 ≤ 341) ∨ (76 = 76 ∧ (i = 0 ∨ i = 20))); omega
theorem Mf.wn {τ : aH} {D1 : Nat → Int → Int} (h : Mf σ n (-1) W H D Es Er K fr va du fo) (hF : Fr AWn σ τ) (hD : Dm (rI τ) = D1) (hS : StB D1 n) (e : ∀ i : Int, 0 ≤ i → i < n → D1 0 i = D 0 i ∧ D1 1 i = D 1 i) : Mf τ n (-1) W H D1 Es Er K fr va du fo := h.re hF AWn1 (fun i z => AWn2 i (by omega)) (h.1.1.fr hF (AWn2 _ (by omega)) (AWn2 _ (by omega))) hD hS (h.1.2.2.2.1.of e) (Fld.of h.1.2.2.2.2.1 e)
abbrev AWh : Nat → Int → Prop := fun a i => AMp a i ∨ (321 ≤ a ∧ a ≤ 341) ∨ (a = 76 ∧ i = 0)
theorem AWh_AWn (a : Nat) (i : Int) (h : AWh a i) : AWn a i := by
  rcases h with h | h | h
  · exact Or.inl h
  · exact Or.inr (Or.inl h)
  · exact Or.inr (Or.inr ⟨h.1, Or.inl h.2⟩)
theorem AWh1 (a : Nat) (i : Int) (h : a = 80 ∨ (122 ≤ a ∧ a ≤ 141) ∨ (190 ≤ a ∧ a ≤ 259)) : ¬ AWh a i := fun z => AWn1 a i h (AWh_AWn a i z)
theorem AWh2 (i : Int) (h : i = 19 ∨ i = 25 ∨ i = 27 ∨ i = 28) : ¬ AWh 76 i := fun z => AWn2 i h (AWh_AWn 76 i z)
theorem m_when {much : Int} (hG : G σ u) (hM : Mf σ n (-1) W H D Es Er K fr va du fo) (h8 : n ≤ 8) (h2 : rI σ 80 2 = n) (hg : Hg D n) (hy : 0 ≤ much ∧ much ≤ 99999) : TI sc (d + 6) mX10_when [.ref 76, .int (nZ much)] σ (fun r σ1 => Fr AWh σ σ1 ∧ rI σ1 76 0 = 0 ∧ Dm (rI σ1) = D ∧ FirstK (fun k => much < DueD (DgN D n k.toNat) n (-1) (1 + rI σ 76 19) (sT Es fo) (CF Er) (CF1 Er du)) 99 r) := by
  have h9 := hM.1.1.2.1
  have hSt := hM.1.2.2.1
  have ok := DgN_ok hSt hg
  apply T.int
  apply t_X10_when hG (by omega)
  intro σ1 e1
  obtain ⟨hG1, t1, hF1, hM1, o1⟩ := m_pre hG hM e1
  have hDn : ∀ (f : Nat) (i : Int), D f i = D f (i.toNat : Int) := fun f i => by rw [hM.1.2.1]; exact Dm_tn _ _ _
  have w1 : rI σ1 76 19 = rI σ 76 19 := o1 76 19 (by omega)
  have h21 : rI σ1 80 2 = n := (o1 80 2 (by omega)).trans h2
  obtain ⟨w, hwe⟩ : ∃ w : Int, w = 1 + rI σ 76 19 := ⟨_, rfl⟩
  rw [← hwe]
  obtain ⟨U, hU⟩ : ∃ U : Int → Prop, U = fun k => much < DueD (DgN D n k.toNat) n (-1) w (sT Es fo) (CF Er) (CF1 Er du) := ⟨_, rfl⟩
  rw [← hU]
  obtain ⟨P, hP⟩ : ∃ P : aO → aH → Prop, P = QI (fun r σ1 => Fr AWh σ σ1 ∧ rI σ1 76 0 = 0 ∧ Dm (rI σ1) = D ∧ FirstK U 99 r) := ⟨_, rfl⟩
  rw [← hP]
  obtain ⟨σ14, he14, hF14, hn14⟩ := m_notes (sc := sc) (d := d + 4) (k := 0) hG1 (by omega)
  rw [← hM1.1.2.1] at hn14
  have hF014 : Fr AWh σ σ14 := (hF1.weak (fun a i z => Or.inr (Or.inr ⟨z.1, z.2⟩))).trans (hF14.weak (fun a i z => by have z' : a = 321 + (0 : Int).toNat := z; exact Or.inr (Or.inl ⟨by omega, by omega⟩)))
  have hD14 : Dm (rI σ14) = D := by rw [Dm_fr hF14 (fun a i p q => by show ¬ (a = 321 + (0 : Int).toNat); omega), ← hM1.1.2.1]
  have t14 : rI σ14 76 0 = 0 := (hF14.rw (by omega) (by show ¬ (76 = 321 + (0 : Int).toNat); omega)).trans t1
  have keep : ∀ τ : aH, Fr AWh σ τ → G τ u ∧ rI τ 80 2 = n ∧ 1 + rI τ 76 19 = w := fun τ hF => ⟨hF.g hG, (hF.rw (by omega) (AWh1 _ _ (by omega))).trans h2, by rw [hF.rw (by omega) (AWh2 _ (by omega)), hwe]⟩
  -- back
  have back : ∀ (f : Nat) (found s : Int) (k : Nat) (τ : aH), (n - s).toNat = f → 0 ≤ s → s ≤ n → inR found → FirstK U 99 found → Fr AWh σ τ → rI τ 76 0 = 0 → (∀ s : Int, 0 ≤ s → s < 8 → rI τ 321 s = D 2 s) → (∀ (f : Nat) (i : Int), Dm (rI τ) f i = if f = 2 ∧ s.toNat ≤ i.toNat ∧ i.toNat < n.toNat then DgN D n k f i else D f i) → L_X10_when_74 (Ev sc (d + 5)) sc P much found s τ := by
    intro f
    induction f with
    | zero =>
      intro found s k τ hf s0 s1 hr hx hF ht hn hDt
      obtain ⟨k1, k2, k3⟩ := keep τ hF
      apply v_X10_when_74 k1 (by omega) hr (by omega)
      refine ⟨fun _ => ?_, fun q => by omega⟩
      rw [hP]
      refine ⟨found, rfl, hr, hF, ht, funext (fun f => funext (fun i => ?_)), hx⟩
      rw [hDt, if_neg (by omega)]
    | succ f ih =>
      intro found s k τ hf s0 s1 hr hx hF ht hn hDt
      obtain ⟨k1, k2, k3⟩ := keep τ hF
      apply v_X10_when_74 k1 (by omega) hr (by omega)
      rw [hn s s0 (by omega)]
      refine ⟨fun q => by omega, fun _ => ⟨by omega, by omega, fun σ2 e2 => ⟨by omega, ih found (s + 1) k σ2 (by omega) (by omega) (by omega) hr hx ?_ ?_ (fun i a b => ?_) (fun f' i => ?_)⟩⟩⟩
      · rw [← e2]; exact hF.trans (Fr.w (by omega) (Or.inl (Or.inl ⟨by omega, by omega⟩)))
      · rw [← e2, rI_wa (by omega)]; exact ht
      · rw [← e2, rI_wa (by omega)]; exact hn i a b
      · have rD : inR (D 2 s) := by rw [← hn s s0 (by omega)]; exact rI_R _ _ _
        have g2 : Dm (rI σ2) = Dset (Dm (rI τ)) 2 s (D 2 s) := by rw [← e2]; exact Dm_w (f := 2) (by omega) rD
        rw [g2]
        by_cases c : f' = 2 ∧ i.toNat = s.toNat
        · rw [c.1, Dset_eq c.2, if_neg (by omega), hDn 2 i, hDn 2 s, c.2]
        · rw [Dset_ne c, hDt]
          by_cases c2 : f' = 2 ∧ s.toNat ≤ i.toNat ∧ i.toNat < n.toNat
          · rw [if_pos c2, if_pos ⟨c2.1, by omega, c2.2.2⟩]
          · rw [if_neg c2, if_neg (by omega)]
  have toBack : ∀ (k : Nat) (found : Int) (τ : aH), inR found → FirstK U 99 found → Fr AWh σ τ → rI τ 76 0 = 0 → (∀ s : Int, 0 ≤ s → s < 8 → rI τ 321 s = D 2 s) → Dm (rI τ) = DgN D n k → L_X10_when_74 (Ev sc (d + 5)) sc P much found 0 τ := by
    intro k found τ hr hx hF ht hn hDt
    refine back _ found 0 k τ rfl (by omega) (by omega) hr hx hF ht hn (fun f i => ?_)
    rw [hDt]
    by_cases c : f = 2 ∧ (0 : Int).toNat ≤ i.toNat ∧ i.toNat < n.toNat
    · rw [if_pos c]
    · rw [if_neg c]
      by_cases c2 : f = 2
      · exact (ok k).2.2.2 f i (by omega)
      · exact (ok k).2.2.1 f i c2
  have loop : ∀ (f : Nat) (found k : Int) (τ : aH), (100 - k).toNat = f → 0 ≤ k → k ≤ 100 → inR found → Fr AWh σ τ → rI τ 76 0 = 0 → (∀ s : Int, 0 ≤ s → s < 8 → rI τ 321 s = D 2 s) → Dm (rI τ) = DgN D n k.toNat → (found = -1 → ∀ q : Int, 0 ≤ q → q < k → ¬ U q) → (found ≠ -1 → FirstK U 99 found) → L_X10_when_41 (Ev sc (d + 5)) sc P much found k τ := by
    intro f
    induction f with
    | zero =>
      intro found k τ hf k0 k1 hr hF ht hn hDt h1 h2'
      apply v_X10_when_41 (hF.g hG) (by omega) hr (by omega)
      refine ⟨fun _ => toBack _ found τ hr ?_ hF ht hn hDt, fun q => by omega⟩
      by_cases c : found = -1
      · exact Or.inl ⟨c, fun q a b => h1 c q a (by omega)⟩
      · exact h2' c
    | succ f ih =>
      intro found k τ hf k0 k1 hr hF ht hn hDt h1 h2'
      obtain ⟨l1, l2, l3⟩ := keep τ hF
      have hMt : Mf τ n (-1) W H (DgN D n k.toNat) Es Er K fr va du fo := hM.wn (hF.weak AWh_AWn) hDt (ok _).1 (fun i _ _ => ⟨(ok _).2.2.1 0 i (by omega), (ok _).2.2.1 1 i (by omega)⟩)
      obtain ⟨r5, σ2, he2, hr2, hF2, -, h2d⟩ := m_dueNow (sc := sc) (d := d) l1 hMt
      rw [l3] at h2d
      have hUk : U k ↔ much < r5 := by rw [hU, h2d]
      have hF2' : Fr AWh σ σ2 := hF.trans (hF2.weak (fun a i z => Or.inl (AGo_AMp a i z)))
      have hD2 : Dm (rI σ2) = DgN D n k.toNat := (Dm_go hF2).trans hDt
      obtain ⟨m1, m2, m3⟩ := keep σ2 hF2'
      obtain ⟨σ6, he6, hF6, hD6⟩ := m_grows (sc := sc) (d := d + 4) (D := DgN D n k.toNat) m1 m2 h9 hD2.symm (ok _).1 (ok _).2.1
      have hF6' : Fr AWh σ σ6 := hF2'.trans (hF6.weak (fun a i z => Or.inl (Or.inl z)))
      have nG : ∀ (a : Nat) (i : Int), (a = 321 ∨ (a = 76 ∧ i = 0)) → ¬ AGo a i := fun a i z => by show ¬ ((261 ≤ a ∧ a ≤ 313) ∨ (a = 76 ∧ (i = 36 ∨ i = 37))); omega
      have nB : ∀ (a : Nat) (i : Int), (a = 321 ∨ a = 76) → ¬ (fun (a : Nat) (_ : Int) => 91 ≤ a ∧ a ≤ 99) a i := fun a i z => by show ¬ (91 ≤ a ∧ a ≤ 99); omega
      have t6 : rI σ6 76 0 = 0 := (hF6.rw (by omega) (nB _ 0 (by omega))).trans ((hF2.rw (by omega) (nG _ _ (by omega))).trans ht)
      have n6 : ∀ s : Int, 0 ≤ s → s < 8 → rI σ6 321 s = D 2 s := fun s a b => (hF6.rw a (nB _ s (by omega))).trans ((hF2.rw a (nG _ _ (by omega))).trans (hn s a b))
      have d6 : Dm (rI σ6) = DgN D n (k + 1).toNat := by rw [hD6, show (k + 1).toNat = k.toNat + 1 by omega]; rfl
      apply v_X10_when_41 l1 (by omega) hr (by omega)
      refine ⟨fun q => by omega, fun _ => ⟨fun q => toBack _ found τ hr (h2' q) hF ht hn hDt, fun q => ⟨r5, σ2, he2, m1, hr2, fun q1 => ⟨σ6, he6, hF6'.g hG, by omega, ih found (k + 1) σ6 (by omega) (by omega) (by omega) hr hF6' t6 n6 d6 (fun _ p p0 p1 => ?_) (fun z => absurd q z)⟩, fun q1 => ⟨σ6, he6, hF6'.g hG, by omega, ih k (k + 1) σ6 (by omega) (by omega) (by omega) (by omega) hF6' t6 n6 d6 (fun z => by omega) (fun _ => Or.inr ⟨by omega, hUk.mpr (by omega), fun p p0 p1 => h1 q p p0 p1⟩)⟩⟩⟩⟩
      by_cases c : p = k
      · rw [c, hUk]; omega
      · exact h1 q p p0 (by omega)
  obtain ⟨r8, σ4, he4, hr4, e4, h4⟩ := m_in (sc := sc) (d := d + 4) (x := much) (lo := 0) (hi := 99999) hG1 (by omega) (by decide) (by decide)
  subst e4
  refine ⟨r8, σ4, he4, hG1, hr4, fun _ => ⟨0, σ4, m_bad0 hG1 t1 (by decide) (by decide), hG1, by decide, fun _ => ⟨σ14, he14, hF014.g hG, ?_⟩, fun z => absurd rfl z⟩, fun z => by omega⟩
  exact loop _ (-1) 0 σ14 rfl (by omega) (by omega) (by decide) hF014 t14 hn14 hD14 (fun _ q a b => by omega) (fun z => absurd rfl z)
end
