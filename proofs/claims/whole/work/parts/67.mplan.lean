/-! THE REFERENCE: heights tried, goods that grow, cells exchanged. -/
theorem Dst.of {D D1 : Nat → Int → Int} {n : Int} (h : Dst D n) (e : ∀ i : Int, 0 ≤ i → i < n → D1 0 i = D 0 i ∧ D1 1 i = D 1 i) : Dst D1 n := by
  intro x y i j hi hj
  have ei := e i hi.1 hi.2.1
  have ej := e j hj.1 hj.2.1
  exact h x y i j ⟨hi.1, hi.2.1, by rw [← ei.1]; exact hi.2.2.1, by rw [← ei.2]; exact hi.2.2.2⟩ ⟨hj.1, hj.2.1, by rw [← ej.1]; exact hj.2.2.1, by rw [← ej.2]; exact hj.2.2.2⟩
/-- all stalls in the field -/
def Fld (D : Nat → Int → Int) (n W H : Int) : Prop := ∀ i : Int, 0 ≤ i → i < n → D 0 i < W ∧ D 1 i < H
theorem Fld.of {D D1 : Nat → Int → Int} {n W H : Int} (h : Fld D n W H) (e : ∀ i : Int, 0 ≤ i → i < n → D1 0 i = D 0 i ∧ D1 1 i = D 1 i) : Fld D1 n W H := fun i i0 i1 => by
  rw [(e i i0 i1).1, (e i i0 i1).2]; exact h i i0 i1
theorem Dset_comm {D : Nat → Int → Int} {f g : Nat} {s t x y : Int} (h : f ≠ g) : Dset (Dset D f s x) g t y = Dset (Dset D g t y) f s x := by
  funext a i
  unfold Dset
  by_cases c1 : a = g ∧ i.toNat = t.toNat
  · by_cases c2 : a = f ∧ i.toNat = s.toNat
    · omega
    · rw [if_pos c1, if_neg c2, if_pos c1]
  · rw [if_neg c1]
    by_cases c2 : a = f ∧ i.toNat = s.toNat
    · rw [if_pos c2, if_pos c2]
    · rw [if_neg c2, if_neg c2, if_neg c1]
section
variable {sc : Nat × (Nat → Int32)} {d : Nat} {σ : aH} {u : Nat} {n g W H : Int} {D : Nat → Int → Int} {Es Er : Nat → Option Int} {K : Int} {fr va : Int → Int} {du fo : Int}
theorem Mf.re {A : Nat → Int → Prop} {τ : aH} {n1 g1 : Int} {D1 : Nat → Int → Int} (h : Mf σ n g W H D Es Er K fr va du fo) (hF : Fr A σ τ) (h1 : ∀ (a : Nat) (i : Int), (a = 80 ∨ (122 ≤ a ∧ a ≤ 141) ∨ (190 ≤ a ∧ a ≤ 259)) → ¬ A a i) (h2 : ∀ i : Int, (i = 19 ∨ i = 25) → ¬ A 76 i) (hN : MN τ n1 g1) (hD : Dm (rI τ) = D1) (hS : StB D1 n1) (hDst : Dst D1 n1) (hfld : Fld D1 n1 W H) : Mf τ n1 g1 W H D1 Es Er K fr va du fo := by
  obtain ⟨⟨a1, a2, a3, a4, a5, a6, a7, a8, a9, a10, a11, a12, a13, a14, a15⟩, b1, b2⟩ := h
  have hK := a11.1
  have r80 : ∀ i : Int, 0 ≤ i → rI τ 80 i = rI σ 80 i := fun i i0 => hF.rw i0 (h1 _ _ (by omega))
  have r25 : rI τ 76 25 = rI σ 76 25 := hF.rw (by omega) (h2 _ (by omega))
  refine ⟨⟨hN, hD.symm, hS, hDst, hfld, ⟨(r80 0 (by omega)).trans a6.1, (r80 1 (by omega)).trans a6.2⟩, a7, by rw [hF.rw (by omega) (h2 _ (by omega))]; exact a8, (r80 6 (by omega)).trans a9, fun k k0 k1 => ?_, a11, ⟨(r80 4 (by omega)).trans a12.1, a12.2⟩, by rw [r25]; exact a13, ?_, a15⟩, (r80 3 (by omega)).trans b1, b2⟩
  · rw [hF.rw (i := 0) (by omega) (h1 _ _ (by omega)), hF.rw (i := 1) (by omega) (h1 _ _ (by omega)), hF.rw (i := 2) (by omega) (h1 _ _ (by omega)), hF.rw (i := 3) (by omega) (h1 _ _ (by omega))]
    exact a10 k k0 k1
  · rw [r25]
    intro q q0 q1
    have := a14 q q0 q1
    have e : ∀ i : Int, 0 ≤ i → rI τ (190 + q.toNat) i = rI σ (190 + q.toNat) i := fun i i0 => hF.rw i0 (h1 _ _ (by omega))
    rw [e 0 (by omega), e 1 (by omega), e 2 (by omega), e 3 (by omega)]
    refine ⟨this.1, this.2.1, fun z => ?_, this.2.2.2.1, this.2.2.2.2⟩
    rw [hF.rw (i := 0) (by omega) (h1 _ _ (by omega))]; exact this.2.2.1 z
/-- rows of stalls, and what a day's going changes -/
abbrev AMp : Nat → Int → Prop := fun a i => (91 ≤ a ∧ a ≤ 99) ∨ (261 ≤ a ∧ a ≤ 313) ∨ (a = 76 ∧ (i = 36 ∨ i = 37))
theorem AMp1 (a : Nat) (i : Int) (h : a = 80 ∨ (122 ≤ a ∧ a ≤ 141) ∨ (190 ≤ a ∧ a ≤ 259)) : ¬ AMp a i := by
  show ¬ ((91 ≤ a ∧ a ≤ 99) ∨ (261 ≤ a ∧ a ≤ 313) ∨ (a = 76 ∧ (i = 36 ∨ i = 37))); omega
theorem AMp2 (i : Int) (h : i ≠ 36 ∧ i ≠ 37) : ¬ AMp 76 i := by
  show ¬ ((91 ≤ 76 ∧ 76 ≤ 99) ∨ (261 ≤ 76 ∧ 76 ≤ 313) ∨ (76 = 76 ∧ (i = 36 ∨ i = 37))); omega
theorem AGo_AMp (a : Nat) (i : Int) (h : AGo a i) : AMp a i := by
  have h' : (261 ≤ a ∧ a ≤ 313) ∨ (a = 76 ∧ (i = 36 ∨ i = 37)) := h
  show (91 ≤ a ∧ a ≤ 99) ∨ (261 ≤ a ∧ a ≤ 313) ∨ (a = 76 ∧ (i = 36 ∨ i = 37)); omega
theorem MN.amp {τ : aH} (h : MN σ n g) (hF : Fr AMp σ τ) : MN τ n g := h.fr hF (AMp2 _ (by omega)) (AMp2 _ (by omega))
theorem Mf.amp {τ : aH} {D1 : Nat → Int → Int} (h : Mf σ n g W H D Es Er K fr va du fo) (hF : Fr AMp σ τ) (hD : Dm (rI τ) = D1) (hS : StB D1 n) (hDst : Dst D1 n) (hfld : Fld D1 n W H) : Mf τ n g W H D1 Es Er K fr va du fo := h.re hF AMp1 (fun i z => AMp2 i (by omega)) (h.1.1.amp hF) hD hS hDst hfld
theorem Dm_go {τ : aH} (hF : Fr AGo σ τ) : Dm (rI τ) = Dm (rI σ) := Dm_fr hF (fun a i p q => by show ¬ ((261 ≤ a ∧ a ≤ 313) ∨ (a = 76 ∧ (i = 36 ∨ i = 37))); omega)
theorem m_wishOf {s : Int} (hG : G σ u) (hM : Mf σ n (-1) W H D Es Er K fr va du fo) (hs : 0 ≤ s ∧ s < n) (ht : 0 ≤ D 5 s ∧ D 5 s ≤ 60) : TI sc (d + 7) mX10_wishOf [.ref 76, .int (nZ s)] σ (fun r σ1 => Fr AMp σ σ1 ∧ Dm (rI σ1) = D ∧ (0 ≤ r ∧ r ≤ 60) ∧ WishS D n (-1) (1 + rI σ 76 19) (sT Es fo) (CF Er) (CF1 Er du) s r) := by
  have hDm : D = Dm (rI σ) := hM.1.2.1
  have h9 := hM.1.1.2.1
  have hSt := hM.1.2.2.1
  have hDst := hM.1.2.2.2.1
  have hfld : Fld D n W H := hM.1.2.2.2.2.1
  have hE := hM.1.2.2.2.2.2.2.2.2.2.2.2.2.2.2
  have bs := hSt.2 s hs.1 hs.2
  have hDn : ∀ (f : Nat) (i : Int), D f i = D f (i.toNat : Int) := fun f i => by rw [hDm]; exact Dm_tn _ _ _
  have e2 : rI σ (91 + s.toNat) 2 = D 2 s := by rw [hDm]; exact (Dm_at (by omega)).symm
  have e5 : rI σ (91 + s.toNat) 5 = D 5 s := by rw [hDm]; exact (Dm_at (by omega)).symm
  apply T.int
  apply t_X10_wishOf hG (by omega)
  rw [e2, e5]
  obtain ⟨V, hV⟩ : ∃ V : Int → Int, V = fun h => -(GainD (Dset D 2 s h) n (-1) (1 + rI σ 76 19) (sT Es fo) (CF Er) (CF1 Er du) s + h) := ⟨_, rfl⟩
  obtain ⟨to, hto⟩ : ∃ to : Int, to = wTo D s := ⟨_, rfl⟩
  have hto6 : 0 ≤ to ∧ to ≤ 60 := by rw [hto]; unfold wTo; split <;> omega
  obtain ⟨P, hP⟩ : ∃ P : aO → aH → Prop, P = QI (fun r σ1 => Fr AMp σ σ1 ∧ Dm (rI σ1) = D ∧ (0 ≤ r ∧ r ≤ 60) ∧ WishS D n (-1) (1 + rI σ 76 19) (sT Es fo) (CF Er) (CF1 Er du) s r) := ⟨_, rfl⟩
  rw [← hP]
  have hVb : ∀ h : Int, 0 ≤ h → h ≤ 60 → -233340 ≤ V h ∧ V h ≤ 233340 := by
    intro h h0 h1
    have := GainD_bd (D := Dset D 2 s h) (gone := -1) (w := 1 + rI σ 76 19) (S := sT Es fo) h9.2 (CF9 hE) (CF19 (du := du) hE) s
    rw [hV]
    show -233340 ≤ -(_ + h) ∧ -(_ + h) ≤ 233340
    omega
  have row : ∀ i : Int, AMp (91 + s.toNat) i := fun i => Or.inl (by omega)
  have loop : ∀ (f : Nat) (best most i : Int) (τ : aH), (to + 1 - i).toNat = f → 0 ≤ i → i ≤ to + 1 → Fr AMp σ τ → DfEx 2 s D (Dm (rI τ)) → (inR best ∧ inR most) → (0 < i → (0 ≤ best ∧ best ≤ 60) ∧ BestS (fun h => (0 ≤ h ∧ h ≤ to) ∧ h < i) V 1000000000 (-most) best) → L_X10_wishOf_42 (Ev sc (d + 6)) sc P s (D 2 s) best most to i τ := by
    intro f
    induction f with
    | zero =>
      intro best most i τ hf i0 i1 hF hDt hr hb
      have hb' := hb (by omega)
      apply v_X10_wishOf_42 (hF.g hG) (by omega) (by omega) hr.1 hr.2 (by omega) (by omega)
      refine ⟨fun _ => ⟨by omega, fun σ2 e2' => ?_⟩, fun q => by omega⟩
      rw [hP]
      refine ⟨best, rfl, hr.1, ?_, ?_, hb'.1, -most, ?_⟩
      · rw [← e2']; exact hF.trans (Fr.w (by omega) (row _))
      · rw [← e2']
        have := Dm_w (σ := τ) (f := 2) (s := s) (v := D 2 s) (by omega) (by omega)
        exact this.trans ((hDt _).trans (Dset_own hDn))
      · rw [← hV, ← hto]; exact hb'.2.done (fun c hc => by omega)
    | succ f ih =>
      intro best most i τ hf i0 i1 hF hDt hr hb
      apply v_X10_wishOf_42 (hF.g hG) (by omega) (by omega) hr.1 hr.2 (by omega) (by omega)
      refine ⟨fun q => by omega, fun _ => ⟨by omega, fun σ6 e6 => ?_⟩⟩
      have hF6 : Fr AMp σ σ6 := by rw [← e6]; exact hF.trans (Fr.w (by omega) (row _))
      have hD6 : Dm (rI σ6) = Dset D 2 s i := by
        rw [← e6]
        have := Dm_w (σ := τ) (f := 2) (s := s) (v := i) (by omega) (by omega)
        exact this.trans (hDt _)
      have hM6 : Mf σ6 n (-1) W H (Dset D 2 s i) Es Er K fr va du fo := hM.amp hF6 hD6 (hSt.set2 (by omega)) (hDst.of (fun j _ _ => ⟨Dset_ne (by omega), Dset_ne (by omega)⟩)) (hfld.of (fun j _ _ => ⟨Dset_ne (by omega), Dset_ne (by omega)⟩))
      obtain ⟨r13, σ9, he9, hr9, hF9, h9'⟩ := m_gainOf (sc := sc) (d := d) (s := s) (hF6.g hG) hM6 hs
      have w6 : rI σ6 76 19 = rI σ 76 19 := hF6.rw (by omega) (AMp2 _ (by omega))
      rw [w6] at h9'
      have hF9' : Fr AMp σ σ9 := hF6.trans (hF9.weak AGo_AMp)
      have hVi : V i = -(r13 + i) := by rw [hV, h9']
      have hVbi := hVb i i0 (by omega)
      have hDx : DfEx 2 s D (Dm (rI σ9)) := by rw [Dm_go hF9, hD6]; exact DfEx.of
      refine ⟨r13, σ9, he9, hF9'.g hG, hr9, by omega, fun z15 e15 => ⟨fun q => ⟨by omega, ?_⟩, fun q => ⟨fun q1 => ⟨by omega, ?_⟩, fun q1 => ⟨by omega, ?_⟩⟩⟩⟩
      · refine ih i z15 (i + 1) σ9 (by omega) (by omega) (by omega) hF9' hDx ⟨by omega, by omega⟩ (fun _ => ⟨by omega, ?_⟩)
        have e : -z15 = V i := by omega
        rw [e]
        exact (BestS.start (Cand := fun h => 0 ≤ h ∧ h ≤ to) (V := V) (bd := 1000000000) (k := i) (fun c hc => by omega)).take ⟨i0, by omega⟩ (by omega)
      · have hb' := hb (by omega)
        refine ih i z15 (i + 1) σ9 (by omega) (by omega) (by omega) hF9' hDx ⟨by omega, by omega⟩ (fun _ => ⟨by omega, ?_⟩)
        have e : -z15 = V i := by omega
        rw [e]
        exact hb'.2.take ⟨i0, by omega⟩ (by omega)
      · have hb' := hb (by omega)
        refine ih best most (i + 1) σ9 (by omega) (by omega) (by omega) hF9' hDx hr (fun _ => ⟨hb'.1, hb'.2.ext (by omega) (fun c p1 p2 p3 => ?_)⟩)
        have e : c = i := by omega
        rw [e]; omega
  have st : DfEx 2 s D (Dm (rI σ)) := by rw [hDm]; exact DfEx.refl _ _ _
  refine ⟨by omega, fun z2 ez2 => ⟨by omega, fun q => ⟨by omega, fun z7 ez7 => ?_⟩, fun q => ?_⟩⟩
  · have e : z7 = to := by rw [hto]; unfold wTo; rw [if_neg q]; exact ez7
    rw [ez2, e]
    exact loop _ 0 0 0 σ rfl (by omega) (by omega) (Fr.refl _ _) st (by decide) (fun q => by omega)
  · have e : D 2 s = to := by rw [hto]; unfold wTo; rw [if_pos q]
    rw [ez2]
    have := loop _ 0 0 0 σ rfl (by omega) (by omega) (Fr.refl _ _) st (by decide) (fun q => by omega)
    rw [← e] at this
    exact this
theorem m_changes {s t : Int} (hG : G σ u) (hD : D = Dm (rI σ)) (hs : 0 ≤ s ∧ s < 9) (ht : 0 ≤ t ∧ t < 9) : TV sc (d + 1) mX10_changes [.ref 76, .int (nZ s), .int (nZ t)] σ (fun σ1 => Fr (fun a _ => 91 ≤ a ∧ a ≤ 99) σ σ1 ∧ Dm (rI σ1) = Dswap D s t) := by
  have at_ : ∀ (τ : aH) (f : Nat) (i : Int), 0 ≤ i → i < 9 → rI τ (91 + i.toNat) f = Dm (rI τ) f i := fun τ f i _ h => (Dm_at h).symm
  have rR : ∀ (τ : aH) (f : Nat) (i : Int), i < 9 → inR (Dm (rI τ) f i) := fun τ f i h => by rw [Dm_at h]; exact rI_R _ _ _
  apply T.void
  apply t_X10_changes hG (by omega) (by omega)
  apply v_X10_changes_2 hG (by omega) (by omega) (by omega)
  refine ⟨fun q => by omega, fun _ => ⟨hs, by omega, fun z2 e2 => ⟨hs, ht, by omega, by omega, fun σ7 e7 => ⟨ht, by omega, fun σ11 e11 => ⟨by omega, ?_⟩⟩⟩⟩⟩
  have g7 : Dm (rI σ7) = Dset D 0 s (D 0 t) := by
    rw [← e7]
    have := Dm_w (σ := σ) (f := 0) (s := s) (v := rI σ (91 + t.toNat) 0) hs.2 (rI_R _ _ _)
    refine this.trans ?_
    rw [hD]
    have e : rI σ (91 + t.toNat) 0 = Dm (rI σ) 0 t := at_ σ 0 t ht.1 ht.2
    rw [e]
  have e2' : z2 = D 0 s := by rw [e2, hD]; exact at_ σ 0 s hs.1 hs.2
  have r2 : inR z2 := by rw [e2', hD]; exact rR σ 0 s hs.2
  have g11 : Dm (rI σ11) = Dset (Dset D 0 s (D 0 t)) 0 t (D 0 s) := by
    rw [← e11, ← e2', ← g7]
    exact Dm_w (σ := σ7) (f := 0) (s := t) (v := z2) ht.2 r2
  have G7 : G σ7 u := by rw [← e7]; exact hG.wI
  have G11 : G σ11 u := by rw [← e11]; exact G7.wI
  apply v_X10_changes_2 G11 (by omega) (by omega) (by omega)
  refine ⟨fun q => by omega, fun _ => ⟨hs, by omega, fun z3 e3 => ⟨hs, ht, by omega, by omega, fun σ8 e8 => ⟨ht, by omega, fun σ12 e12 => ⟨by omega, ?_⟩⟩⟩⟩⟩
  have x1t : rI σ11 (91 + t.toNat) (0 + 1) = D 1 t := by
    have e : rI σ11 (91 + t.toNat) (0 + 1) = Dm (rI σ11) 1 t := at_ σ11 1 t ht.1 ht.2
    rw [e, g11, Dset_ne (by omega), Dset_ne (by omega)]
  have x1s : rI σ11 (91 + s.toNat) (0 + 1) = D 1 s := by
    have e : rI σ11 (91 + s.toNat) (0 + 1) = Dm (rI σ11) 1 s := at_ σ11 1 s hs.1 hs.2
    rw [e, g11, Dset_ne (by omega), Dset_ne (by omega)]
  have g8 : Dm (rI σ8) = Dset (Dset (Dset D 0 s (D 0 t)) 0 t (D 0 s)) 1 s (D 1 t) := by
    rw [← e8, ← g11, ← x1t]
    exact Dm_w (σ := σ11) (f := 1) (s := s) (v := rI σ11 (91 + t.toNat) (0 + 1)) hs.2 (rI_R _ _ _)
  have r3 : inR z3 := by rw [e3]; exact rI_R _ _ _
  have g12 : Dm (rI σ12) = Dset (Dset (Dset (Dset D 0 s (D 0 t)) 0 t (D 0 s)) 1 s (D 1 t)) 1 t (D 1 s) := by
    rw [← e12, ← g8, ← x1s, ← e3]
    exact Dm_w (σ := σ8) (f := 1) (s := t) (v := z3) ht.2 r3
  have G8 : G σ8 u := by rw [← e8]; exact G11.wI
  have G12 : G σ12 u := by rw [← e12]; exact G8.wI
  apply v_X10_changes_2 G12 (by omega) (by omega) (by omega)
  refine ⟨fun _ => ⟨rfl, ?_, ?_⟩, fun q => by omega⟩
  · rw [← e12, ← e8, ← e11, ← e7]
    exact (((Fr.w (by omega) ⟨by omega, by omega⟩).trans (Fr.w (by omega) ⟨by omega, by omega⟩)).trans (Fr.w (by omega) ⟨by omega, by omega⟩)).trans (Fr.w (by omega) ⟨by omega, by omega⟩)
  · rw [g12]
    unfold Dswap Dput
    rw [Dset_comm (D := Dset D 0 s (D 0 t)) (f := 0) (g := 1) (by decide)]
theorem ExS_of {w : Int} {S F F1 : Int → Int} {val code : Int} (h : BestS (ExC n) (ExV D n g w S F F1) (DueD D n g w S F F1) val code) : ExS D n g w S F F1 val code := h
theorem m_exchangeNow (hG : G σ u) (hM : Mf σ n (-1) W H D Es Er K fr va du fo) : TI sc (d + 6) mX10_exchangeNow [.ref 76] σ (fun r σ1 => Fr AMp σ σ1 ∧ Dm (rI σ1) = D ∧ ∃ val : Int, ExS D n (-1) (1 + rI σ 76 19) (sT Es fo) (CF Er) (CF1 Er du) val r) := by
  have hDm : D = Dm (rI σ) := hM.1.2.1
  have h9 := hM.1.1.2.1
  have hSt := hM.1.2.2.1
  have hDst := hM.1.2.2.2.1
  have hfld : Fld D n W H := hM.1.2.2.2.2.1
  have hDn : ∀ (f : Nat) (i : Int), D f i = D f (i.toNat : Int) := fun f i => by rw [hDm]; exact Dm_tn _ _ _
  apply T.int
  apply t_X10_exchangeNow hG
  obtain ⟨V, hV⟩ : ∃ V : Int → Int, V = ExV D n (-1) (1 + rI σ 76 19) (sT Es fo) (CF Er) (CF1 Er du) := ⟨_, rfl⟩
  obtain ⟨b0, hb0⟩ : ∃ b0 : Int, b0 = DueD D n (-1) (1 + rI σ 76 19) (sT Es fo) (CF Er) (CF1 Er du) := ⟨_, rfl⟩
  obtain ⟨P, hP⟩ : ∃ P : aO → aH → Prop, P = QI (fun r σ1 => Fr AMp σ σ1 ∧ Dm (rI σ1) = D ∧ ∃ val : Int, ExS D n (-1) (1 + rI σ 76 19) (sT Es fo) (CF Er) (CF1 Er du) val r) := ⟨_, rfl⟩
  obtain ⟨r5, σ1, he1, hr1, hF1, -, h1⟩ := m_dueNow (sc := sc) (d := d) hG hM
  rw [← hb0] at h1
  rw [← hP]
  have hF1' : Fr AMp σ σ1 := hF1.weak AGo_AMp
  have swb : ∀ s t : Int, 0 ≤ s → s < n → 0 ≤ t → t < n → s ≠ t → StB (Dswap D s t) n ∧ Dst (Dswap D s t) n ∧ Fld (Dswap D s t) n W H := by
    intro s t s0 s1 t0 t1 hst
    have es : ∀ f : Nat, f ≤ 1 → ∀ i : Int, 0 ≤ i → i < n → (i = s → Dswap D s t f i = D f t) ∧ (i = t → Dswap D s t f i = D f s) ∧ (i ≠ s → i ≠ t → Dswap D s t f i = D f i) := by
      intro f hf i i0 i1
      have hff : f = 0 ∨ f = 1 := by omega
      refine ⟨fun e => ?_, fun e => ?_, fun e1 e2 => Dswap_ne (by omega)⟩
      · have := Dswap_s (D := D) (s := s) (t := t) (i := i) (by rw [e]) (by omega)
        rcases hff with rfl | rfl
        · exact this.1
        · exact this.2
      · have := Dswap_t (D := D) (s := s) (t := t) (i := i) (by rw [e])
        rcases hff with rfl | rfl
        · exact this.1
        · exact this.2
    refine ⟨hSt.swap ⟨s0, s1⟩ ⟨t0, t1⟩, ?_, ?_⟩
    · have pos : ∀ i : Int, 0 ≤ i → i < n → ∃ k : Int, (0 ≤ k ∧ k < n) ∧ Dswap D s t 0 i = D 0 k ∧ Dswap D s t 1 i = D 1 k ∧ ((i = s ∧ k = t) ∨ (i = t ∧ k = s) ∨ (i ≠ s ∧ i ≠ t ∧ k = i)) := by
        intro i i0 i1
        by_cases c1 : i = s
        · exact ⟨t, ⟨t0, t1⟩, (es 0 (by omega) i i0 i1).1 c1, (es 1 (by omega) i i0 i1).1 c1, Or.inl ⟨c1, rfl⟩⟩
        · by_cases c2 : i = t
          · exact ⟨s, ⟨s0, s1⟩, (es 0 (by omega) i i0 i1).2.1 c2, (es 1 (by omega) i i0 i1).2.1 c2, Or.inr (Or.inl ⟨c2, rfl⟩)⟩
          · exact ⟨i, ⟨i0, i1⟩, (es 0 (by omega) i i0 i1).2.2 c1 c2, (es 1 (by omega) i i0 i1).2.2 c1 c2, Or.inr (Or.inr ⟨c1, c2, rfl⟩)⟩
      intro x y i j hi hj
      obtain ⟨p, p0, p1, p2, p3⟩ := pos i hi.1 hi.2.1
      obtain ⟨q, q0, q1, q2, q3⟩ := pos j hj.1 hj.2.1
      have e := hDst x y p q ⟨p0.1, p0.2, by rw [← p1]; exact hi.2.2.1, by rw [← p2]; exact hi.2.2.2⟩ ⟨q0.1, q0.2, by rw [← q1]; exact hj.2.2.1, by rw [← q2]; exact hj.2.2.2⟩
      clear pos p1 p2 q1 q2 hi hj
      omega
    · intro i i0 i1
      by_cases c1 : i = s
      · rw [(es 0 (by omega) i i0 i1).1 c1, (es 1 (by omega) i i0 i1).1 c1]; exact hfld t t0 t1
      · by_cases c2 : i = t
        · rw [(es 0 (by omega) i i0 i1).2.1 c2, (es 1 (by omega) i i0 i1).2.1 c2]; exact hfld s s0 s1
        · rw [(es 0 (by omega) i i0 i1).2.2 c1 c2, (es 1 (by omega) i i0 i1).2.2 c1 c2]; exact hfld i i0 i1
  have inner : ∀ (s : Int), 0 ≤ s → s < n → (∀ (c v : Int) (τ : aH), Fr AMp σ τ → Dm (rI τ) = D → (inR c ∧ inR v) → BestS (fun q => ExC n q ∧ q < 10 * (s + 1)) V b0 v c → L_X10_exchangeNow_9 (Ev sc (d + 5)) sc P c v (s + 1) τ) → ∀ (f : Nat) (t c v : Int) (τ : aH), (n - t).toNat = f → s + 1 ≤ t → t ≤ n → Fr AMp σ τ → Dm (rI τ) = D → (inR c ∧ inR v) → BestS (fun q => ExC n q ∧ q < 10 * s + t) V b0 v c → L_X10_exchangeNow_22 (Ev sc (d + 5)) sc P c v s t τ := by
    intro s s0 s1 next f
    induction f with
    | zero =>
      intro t c v τ hf t0 t1 hF hDt hr hb
      have kn := (hM.1.1.amp hF).1
      apply v_X10_exchangeNow_22 (hF.g hG) hr.1 hr.2 (by omega) (by omega)
      refine ⟨fun _ => ⟨by omega, next c v τ hF hDt hr (hb.ext (by omega) (fun q p1 p2 p3 => ?_))⟩, fun q => by omega⟩
      obtain ⟨e1, e2, e3⟩ := p1
      omega
    | succ f ih =>
      intro t c v τ hf t0 t1 hF hDt hr hb
      have kn := (hM.1.1.amp hF).1
      obtain ⟨b1, b2, b3⟩ := swb s t s0 s1 (by omega) (by omega) (by omega)
      apply v_X10_exchangeNow_22 (hF.g hG) hr.1 hr.2 (by omega) (by omega)
      refine ⟨fun q => by omega, fun _ => ?_⟩
      obtain ⟨σ2, he2, hF2, hD2⟩ := m_changes (sc := sc) (d := d + 4) (s := s) (t := t) (hF.g hG) hDt.symm ⟨s0, by omega⟩ ⟨by omega, by omega⟩
      have hF2' : Fr AMp σ σ2 := hF.trans (hF2.weak (fun a i z => Or.inl z))
      have hM2 : Mf σ2 n (-1) W H (Dswap D s t) Es Er K fr va du fo := hM.amp hF2' hD2 b1 b2 b3
      obtain ⟨r10, σ6, he6, hr6, hF6, -, h6⟩ := m_dueNow (sc := sc) (d := d) (hF2'.g hG) hM2
      have w2 : rI σ2 76 19 = rI σ 76 19 := hF2'.rw (by omega) (AMp2 _ (by omega))
      rw [w2] at h6
      have hF6' : Fr AMp σ σ6 := hF2'.trans (hF6.weak AGo_AMp)
      have hD6 : Dm (rI σ6) = Dswap D s t := (Dm_go hF6).trans hD2
      obtain ⟨σ11, he11, hF11, hD11⟩ := m_changes (sc := sc) (d := d + 4) (s := s) (t := t) (hF6'.g hG) hD6.symm ⟨s0, by omega⟩ ⟨by omega, by omega⟩
      rw [Dswap_swap hDn (by omega)] at hD11
      have hF11' : Fr AMp σ σ11 := hF6'.trans (hF11.weak (fun a i z => Or.inl z))
      have hVc : V (10 * s + t) = r10 := by
        rw [hV, h6]; unfold ExV
        rw [show (10 * s + t) / 10 = s by omega, show (10 * s + t) % 10 = t by omega]
      have hC : ExC n (10 * s + t) := ⟨by omega, by omega, by omega⟩
      refine ⟨σ2, he2, hF2'.g hG, r10, σ6, he6, hF6'.g hG, hr6, σ11, he11, hF11'.g hG, fun q => ⟨by omega, by omega, fun z17 e17 => ⟨by omega, ?_⟩⟩, fun q => ⟨by omega, ?_⟩⟩
      · have tk := hb.take hC (by rw [hVc]; exact q)
        rw [hVc] at tk
        rw [e17]
        exact ih (t + 1) _ r10 σ11 (by omega) (by omega) (by omega) hF11' hD11 ⟨by omega, hr6⟩ (by rw [show 10 * s + (t + 1) = 10 * s + t + 1 by omega]; exact tk)
      · refine ih (t + 1) c v σ11 (by omega) (by omega) (by omega) hF11' hD11 hr (hb.ext (by omega) (fun q' p1 p2 p3 => ?_))
        have e : q' = 10 * s + t := by omega
        rw [e, hVc]; omega
  have outer : ∀ (f : Nat) (s c v : Int) (τ : aH), (n - s).toNat = f → 0 ≤ s → s ≤ n → Fr AMp σ τ → Dm (rI τ) = D → (inR c ∧ inR v) → BestS (fun q => ExC n q ∧ q < 10 * s) V b0 v c → L_X10_exchangeNow_9 (Ev sc (d + 5)) sc P c v s τ := by
    intro f
    induction f with
    | zero =>
      intro s c v τ hf s0 s1 hF hDt hr hb
      have kn := (hM.1.1.amp hF).1
      apply v_X10_exchangeNow_9 (hF.g hG) hr.1 hr.2 (by omega)
      refine ⟨fun _ => ?_, fun q => by omega⟩
      rw [hP]
      refine ⟨c, rfl, hr.1, hF, hDt, v, ExS_of ?_⟩
      rw [← hV, ← hb0]
      exact hb.done (fun q hq => by obtain ⟨e1, e2, e3⟩ := hq; omega)
    | succ f ih =>
      intro s c v τ hf s0 s1 hF hDt hr hb
      have kn := (hM.1.1.amp hF).1
      apply v_X10_exchangeNow_9 (hF.g hG) hr.1 hr.2 (by omega)
      refine ⟨fun q => by omega, fun _ => ⟨by omega, fun z2 e2 => ?_⟩⟩
      rw [e2]
      refine inner s s0 (by omega) (fun c v τ a b c' d' => ih (s + 1) c v τ (by omega) (by omega) (by omega) a b c' d') _ (s + 1) c v τ rfl (by omega) (by omega) hF hDt hr (hb.ext (by omega) (fun q p1 p2 p3 => ?_))
      obtain ⟨e1, e2', e3⟩ := p1
      omega
  refine ⟨r5, σ1, he1, hF1'.g hG, hr1, ?_⟩
  rw [h1]
  refine outer _ 0 (-1) b0 σ1 rfl (by omega) (by omega) hF1' ((Dm_go hF1).trans hDm.symm) ⟨by decide, by rw [← h1]; exact hr1⟩ (BestS.start (fun q hq => by have := hq.1; omega))
end
