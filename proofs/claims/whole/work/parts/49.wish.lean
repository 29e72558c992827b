/-! WISH, AWNED, HARMLESS, growing. -/
def wTo (D : Nat → Int → Int) (s : Int) : Int := if D 5 s = 0 then D 2 s else D 5 s
def WishS (D : Nat → Int → Int) (n gone w : Int) (S F F1 : Int → Int) (s r : Int) : Prop := ∃ val : Int, BestS (fun h => 0 ≤ h ∧ h ≤ wTo D s) (fun h => -(GainD (Dset D 2 s h) n gone w S F F1 s + h)) 1000000000 val r
def AwnS (D : Nat → Int → Int) (n gone w : Int) (S F F1 : Int → Int) (s g r : Int) : Prop := BestS (fun h => 0 ≤ h ∧ h ≤ 3) (fun h => -(GainD (Dset D 3 s h) n gone w S F F1 s)) 1000000000 (-g) r
def HarmS (D : Nat → Int → Int) (n gone w : Int) (S : Int → Int) (s : Int) : Prop := ∀ k : Int, 0 ≤ k → k < n → Fsm (Falls D n gone w) S one s k = 0
def HlessS (D : Nat → Int → Int) (n gone w : Int) (S : Int → Int) (s r : Int) : Prop := (r = -1 ∧ ∀ h : Int, 0 ≤ h → h ≤ 60 → ¬ HarmS (Dset D 2 s h) n gone w S s) ∨ ((0 ≤ r ∧ r ≤ 60) ∧ HarmS (Dset D 2 s r) n gone w S s ∧ ∀ h : Int, r < h → h ≤ 60 → ¬ HarmS (Dset D 2 s h) n gone w S s)
theorem HlessS.uniq {D : Nat → Int → Int} {n gone w s r q : Int} {S : Int → Int} (h : HlessS D n gone w S s r) (k : HlessS D n gone w S s q) : r = q := by
  rcases h with ⟨h1, h2⟩ | ⟨h1, h2, h3⟩ <;> rcases k with ⟨k1, k2⟩ | ⟨k1, k2, k3⟩
  · omega
  · exact absurd k2 (h2 q k1.1 k1.2)
  · exact absurd h2 (k2 r h1.1 h1.2)
  · by_cases e : r = q
    · exact e
    · by_cases c : r < q
      · exact absurd k2 (h3 q c k1.2)
      · exact absurd h2 (k3 r (by omega) h1.2)
/-- one number of one stall is otherwise -/
def DfEx (f0 : Nat) (s : Int) (D D1 : Nat → Int → Int) : Prop := ∀ v : Int, Dset D1 f0 s v = Dset D f0 s v
theorem DfEx.refl (f0 : Nat) (s : Int) (D : Nat → Int → Int) : DfEx f0 s D D := fun _ => rfl
theorem DfEx.of {f0 : Nat} {s v : Int} {D : Nat → Int → Int} : DfEx f0 s D (Dset D f0 s v) := fun _ => Dset_set
theorem Dset_own {D : Nat → Int → Int} {f0 : Nat} {s : Int} (hD : ∀ (f : Nat) (i : Int), D f i = D f (i.toNat : Int)) : Dset D f0 s (D f0 s) = D := by
  funext f i
  unfold Dset
  by_cases c : f = f0 ∧ i.toNat = s.toNat
  · rw [if_pos c, hD f0 s, hD f i, c.1, c.2]
  · rw [if_neg c]
section
variable {sc : Nat × (Nat → Int32)} {d : Nat} {σ : aH} {u v : Nat} {n : Int} {S F F1 : Int → Int}
theorem Cx.at1 {τ : aH} {f0 : Nat} {s : Int} (h : Cx σ u n S F F1) (hf : f0 ≤ 7) (hF : Fr (fun a i => a = u + 2 + f0 ∧ i = s) σ τ) (hB : StB (Dc (rI τ) u) n) : Cx τ u n S F F1 := by
  have hm := h.mk
  exact h.fr hF (by show ¬ (u + 1 = u + 2 + f0 ∧ _); omega) (by show ¬ (u = u + 2 + f0 ∧ _); omega) (fun i => by show ¬ (29 = u + 2 + f0 ∧ _); omega) (fun i => by show ¬ (30 = u + 2 + f0 ∧ _); omega) hB
theorem s_gainD {s : Int} (hC : Cx σ u n S F F1) (hs : 0 ≤ s ∧ s < n) : TI sc (d + 3) mX6_gain [.ref 27, .ref 28, .int (nZ s)] σ (fun r σ1 => σ1 = σ ∧ r = GainD (Dc (rI σ) u) n (rI σ (u + 1) 9) (1 + rI σ u 9) S F F1 s) := s_gain hC.1 hC.2.1 (show IsWt 28 from Or.inl rfl) hC.2.2.1 hC.2.2.2.1 hC.2.2.2.2.1 hC.2.2.2.2.2 hs
theorem s_wishOf {s : Int} (hC : Cx σ u n S F F1) (hs : 0 ≤ s ∧ s < n) (ht : 0 ≤ rI σ (u + 7) s ∧ rI σ (u + 7) s ≤ 60) : TI sc (d + 4) mX4_wishOf [.ref 26, .int (nZ s)] σ (fun r σ1 => Fr (fun a i => a = u + 4 ∧ i = s) σ σ1 ∧ Dc (rI σ1) u = Dc (rI σ) u ∧ (0 ≤ r ∧ r ≤ 60) ∧ WishS (Dc (rI σ) u) n (rI σ (u + 1) 9) (1 + rI σ u 9) S F F1 s r) := by
  have hm := hC.mk
  have hn9 := hC.n9
  have hSt := hC.2.1.2.2.1
  obtain ⟨b1, b2, b3, b4, b5⟩ := hSt.at hs.1 hs.2
  apply T.int
  apply t_X4_wishOf hC.1 (by omega)
  obtain ⟨D, hD⟩ : ∃ D : Nat → Int → Int, D = Dc (rI σ) u := ⟨_, rfl⟩
  have hDn : ∀ (f : Nat) (i : Int), D f i = D f (i.toNat : Int) := fun f i => by rw [hD]; exact Dc_tn _ _ _ _
  have hD2 : rI σ (u + 4) s = D 2 s := by rw [hD]; rfl
  have hD5 : rI σ (u + 7) s = D 5 s := by rw [hD]; rfl
  rw [← hD] at hSt
  rw [← hD]
  obtain ⟨V, hV⟩ : ∃ V : Int → Int, V = fun h => -(GainD (Dset D 2 s h) n (rI σ (u + 1) 9) (1 + rI σ u 9) S F F1 s + h) := ⟨_, rfl⟩
  obtain ⟨to, hto⟩ : ∃ to : Int, to = wTo D s := ⟨_, rfl⟩
  have hto6 : 0 ≤ to ∧ to ≤ 60 := by rw [hto]; unfold wTo; split <;> omega
  obtain ⟨P, hP⟩ : ∃ P : aO → aH → Prop, P = QI (fun r σ1 => Fr (fun a i => a = u + 4 ∧ i = s) σ σ1 ∧ Dc (rI σ1) u = D ∧ (0 ≤ r ∧ r ≤ 60) ∧ WishS D n (rI σ (u + 1) 9) (1 + rI σ u 9) S F F1 s r) := ⟨_, rfl⟩
  rw [← hP]
  have hVb : ∀ h : Int, 0 ≤ h → h ≤ 60 → -233340 ≤ V h ∧ V h ≤ 233340 := by
    intro h h0 h1
    have := GainD_bd (D := Dset D 2 s h) (gone := rI σ (u + 1) 9) (w := 1 + rI σ u 9) (S := S) hn9.2 hC.2.2.2.2.1 hC.2.2.2.2.2 s
    rw [hV]
    show -233340 ≤ -(_ + h) ∧ -(_ + h) ≤ 233340
    omega
  have loop : ∀ (g : Nat) (best most i : Int) (τ : aH), (to + 1 - i).toNat = g → 0 ≤ i → i ≤ to + 1 → Fr (fun a i => a = u + 4 ∧ i = s) σ τ → DfEx 2 s D (Dc (rI τ) u) → (inR best ∧ inR most) → (0 < i → (0 ≤ best ∧ best ≤ 60) ∧ BestS (fun h => (0 ≤ h ∧ h ≤ to) ∧ h < i) V 1000000000 (-most) best) → L_X4_wishOf_42 (Ev sc (d + 3)) sc P u s (rI σ (u + 4) s) to best most i τ := by
    intro g
    induction g with
    | zero =>
      intro best most i τ hg i0 i1 hF hDt hr hb
      have hb' := hb (by omega)
      apply v_X4_wishOf_42 (hF.g hC.1) (by omega) (by omega) (by omega) hr.1 hr.2 (by omega)
      refine ⟨fun _ => ⟨by omega, fun σ1 e1 => ?_⟩, fun q => by omega⟩
      rw [hP]
      refine ⟨best, rfl, hr.1, ?_, ?_, hb'.1, -most, ?_⟩
      · rw [← e1]; exact hF.trans (Fr.w hs.1 ⟨rfl, rfl⟩)
      · rw [← e1, Dc_wa 2 rfl (by decide) (rI_R _ _ _), hDt, hD2]; exact Dset_own hDn
      · rw [← hV, ← hto]; exact hb'.2.done (fun c hc => by omega)
    | succ g ih =>
      intro best most i τ hg i0 i1 hF hDt hr hb
      apply v_X4_wishOf_42 (hF.g hC.1) (by omega) (by omega) (by omega) hr.1 hr.2 (by omega)
      refine ⟨fun q => by omega, fun _ => ⟨by omega, fun σ4 e4 => ?_⟩⟩
      have hF4 : Fr (fun a i => a = u + 4 ∧ i = s) σ σ4 := by rw [← e4]; exact hF.trans (Fr.w hs.1 ⟨rfl, rfl⟩)
      have hD4 : Dc (rI σ4) u = Dset D 2 s i := by rw [← e4, Dc_wa 2 rfl (by decide) (by omega), hDt]
      have hC4 : Cx σ4 u n S F F1 := hC.at1 (f0 := 2) (by decide) hF4 (by rw [hD4]; exact hSt.set2 (by omega))
      obtain ⟨r11, σ7, he7, hr7, rfl, h7⟩ := s_gainD (sc := sc) (d := d) hC4 hs
      have g9 : rI σ7 (u + 1) 9 = rI σ (u + 1) 9 := hF4.rw (by omega) (by show ¬ (u + 1 = u + 4 ∧ _); omega)
      have w9 : rI σ7 u 9 = rI σ u 9 := hF4.rw (by omega) (by show ¬ (u = u + 4 ∧ _); omega)
      rw [hD4, g9, w9] at h7
      have hVi : V i = -(r11 + i) := by rw [hV, h7]
      have hVbi := hVb i i0 (by omega)
      have hDx : DfEx 2 s D (Dc (rI σ7) u) := by rw [hD4]; exact DfEx.of
      refine ⟨r11, σ7, he7, hF4.g hC.1, hr7, by omega, fun z13 e13 => ⟨fun q => ⟨by omega, ?_⟩, fun q => ⟨fun q1 => ⟨by omega, ?_⟩, fun q1 => ⟨by omega, ?_⟩⟩⟩⟩
      · refine ih i z13 (i + 1) σ7 (by omega) (by omega) (by omega) hF4 hDx ⟨by omega, by omega⟩ (fun _ => ⟨by omega, ?_⟩)
        have e : -z13 = V i := by omega
        rw [e]
        exact (BestS.start (Cand := fun h => 0 ≤ h ∧ h ≤ to) (V := V) (bd := 1000000000) (k := i) (fun c hc => by omega)).take ⟨i0, by omega⟩ (by omega)
      · have hb' := hb (by omega)
        refine ih best most (i + 1) σ7 (by omega) (by omega) (by omega) hF4 hDx hr (fun _ => ⟨hb'.1, hb'.2.ext (by omega) (fun c p1 p2 p3 => ?_)⟩)
        have e : c = i := by omega
        rw [e]; omega
      · have hb' := hb (by omega)
        refine ih i z13 (i + 1) σ7 (by omega) (by omega) (by omega) hF4 hDx ⟨by omega, by omega⟩ (fun _ => ⟨by omega, ?_⟩)
        have e : -z13 = V i := by omega
        rw [e]
        exact hb'.2.take ⟨i0, by omega⟩ (by omega)
  refine ⟨σ, s_stalls hC.1, hC.1, by omega, fun z5 e5 => ⟨by omega, fun q => ⟨by omega, fun z8 e8 => ?_⟩, fun q => ?_⟩⟩
  · have e : z8 = to := by rw [hto]; unfold wTo; rw [if_neg (by omega)]; omega
    rw [e5, e]
    exact loop _ 0 0 0 σ rfl (by omega) (by omega) (Fr.refl _ _) (by rw [hD]; exact DfEx.refl _ _ _) (by decide) (fun q => by omega)
  · have e : rI σ (u + 4) s = to := by rw [hto]; unfold wTo; rw [if_pos (by omega)]; omega
    rw [e5]
    have := loop _ 0 0 0 σ rfl (by omega) (by omega) (Fr.refl _ _) (by rw [hD]; exact DfEx.refl _ _ _) (by decide) (fun q => by omega)
    rw [← e] at this
    exact this
abbrev AW8 (u : Nat) (s : Int) : Nat → Int → Prop := fun a i => (a = u + 5 ∧ i = s) ∨ (a = 26 ∧ (i = 8 ∨ i = 9))
theorem s_tryAwnings {s : Int} (hC : Cx σ u n S F F1) (hs : 0 ≤ s ∧ s < n) : TV sc (d + 4) mX4_tryAwnings [.ref 26, .int (nZ s)] σ (fun σ1 => Fr (AW8 u s) σ σ1 ∧ Dc (rI σ1) u = Dc (rI σ) u ∧ AwnS (Dc (rI σ) u) n (rI σ (u + 1) 9) (1 + rI σ u 9) S F F1 s (rI σ1 26 9) (rI σ1 26 8)) := by
  have hm := hC.mk
  have hn9 := hC.n9
  have hSt := hC.2.1.2.2.1
  obtain ⟨b1, b2, b3, b4, b5⟩ := hSt.at hs.1 hs.2
  apply T.void
  apply t_X4_tryAwnings hC.1 (by omega)
  obtain ⟨D, hD⟩ : ∃ D : Nat → Int → Int, D = Dc (rI σ) u := ⟨_, rfl⟩
  have hDn : ∀ (f : Nat) (i : Int), D f i = D f (i.toNat : Int) := fun f i => by rw [hD]; exact Dc_tn _ _ _ _
  have hD3 : rI σ (u + 5) s = D 3 s := by rw [hD]; rfl
  rw [← hD] at hSt
  rw [← hD]
  obtain ⟨V, hV⟩ : ∃ V : Int → Int, V = fun h => -(GainD (Dset D 3 s h) n (rI σ (u + 1) 9) (1 + rI σ u 9) S F F1 s) := ⟨_, rfl⟩
  obtain ⟨P, hP⟩ : ∃ P : aO → aH → Prop, P = QV (fun σ1 => Fr (AW8 u s) σ σ1 ∧ Dc (rI σ1) u = D ∧ AwnS D n (rI σ (u + 1) 9) (1 + rI σ u 9) S F F1 s (rI σ1 26 9) (rI σ1 26 8)) := ⟨_, rfl⟩
  rw [← hP]
  have hVb : ∀ h : Int, -233340 ≤ V h ∧ V h ≤ 233340 := by
    intro h
    have := GainD_bd (D := Dset D 3 s h) (gone := rI σ (u + 1) 9) (w := 1 + rI σ u 9) (S := S) hn9.2 hC.2.2.2.2.1 hC.2.2.2.2.2 s
    rw [hV]
    show -233340 ≤ -_ ∧ -_ ≤ 233340
    omega
  have loop : ∀ (g : Nat) (i : Int) (τ : aH), (4 - i).toNat = g → 0 ≤ i → i ≤ 4 → Fr (AW8 u s) σ τ → DfEx 3 s D (Dc (rI τ) u) → (0 < i → BestS (fun h => (0 ≤ h ∧ h ≤ 3) ∧ h < i) V 1000000000 (-rI τ 26 9) (rI τ 26 8)) → L_X4_tryAwnings_15 (Ev sc (d + 3)) sc P u s (rI σ (u + 5) s) i τ := by
    intro g
    induction g with
    | zero =>
      intro i τ hg i0 i1 hF hDt hb
      have hb' := hb (by omega)
      apply v_X4_tryAwnings_15 (hF.g hC.1) (by omega) (by omega) (by omega)
      refine ⟨fun _ => ⟨by omega, fun σ1 e1 => ?_⟩, fun q => by omega⟩
      rw [hP]
      refine ⟨rfl, ?_, ?_, ?_⟩
      · rw [← e1]; exact hF.trans (Fr.w hs.1 (Or.inl ⟨rfl, rfl⟩))
      · rw [← e1, Dc_wa 3 rfl (by decide) (rI_R _ _ _), hDt, hD3]; exact Dset_own hDn
      · unfold AwnS
        rw [← e1, rI_wa (by omega), rI_wa (by omega), ← hV]; exact hb'.done (fun c hc => by omega)
    | succ g ih =>
      intro i τ hg i0 i1 hF hDt hb
      apply v_X4_tryAwnings_15 (hF.g hC.1) (by omega) (by omega) (by omega)
      refine ⟨fun q => by omega, fun _ => ⟨by omega, fun σ4 e4 => ?_⟩⟩
      have hF4 : Fr (AW8 u s) σ σ4 := by rw [← e4]; exact hF.trans (Fr.w hs.1 (Or.inl ⟨rfl, rfl⟩))
      have hD4 : Dc (rI σ4) u = Dset D 3 s i := by rw [← e4, Dc_wa 3 rfl (by decide) (by omega), hDt]
      have hC4 : Cx σ4 u n S F F1 := hC.fr hF4 (by show ¬ ((u + 1 = u + 5 ∧ _) ∨ (u + 1 = 26 ∧ _)); omega) (by show ¬ ((u = u + 5 ∧ _) ∨ (u = 26 ∧ _)); omega) (fun i => by show ¬ ((29 = u + 5 ∧ _) ∨ (29 = 26 ∧ _)); omega) (fun i => by show ¬ ((30 = u + 5 ∧ _) ∨ (30 = 26 ∧ _)); omega) (by rw [hD4]; exact hSt.set3 (by omega))
      obtain ⟨r11, σ7, he7, hr7, rfl, h7⟩ := s_gainD (sc := sc) (d := d) hC4 hs
      have g9 : rI σ7 (u + 1) 9 = rI σ (u + 1) 9 := hF4.rw (by omega) (by show ¬ ((u + 1 = u + 5 ∧ _) ∨ (u + 1 = 26 ∧ _)); omega)
      have w9 : rI σ7 u 9 = rI σ u 9 := hF4.rw (by omega) (by show ¬ ((u = u + 5 ∧ _) ∨ (u = 26 ∧ _)); omega)
      rw [hD4, g9, w9] at h7
      have hVi : V i = -r11 := by rw [hV, h7]
      have hVbi := hVb i
      have hDx : DfEx 3 s D (Dc (rI σ7) u) := by rw [hD4]; exact DfEx.of
      have k8 : rI σ7 26 8 = rI τ 26 8 := by rw [← e4, rI_wa (by omega)]
      have k9 : rI σ7 26 9 = rI τ 26 9 := by rw [← e4, rI_wa (by omega)]
      have two : Fr (AW8 u s) σ (wI (wI σ7 26 9 r11) 26 8 i) := hF4.trans ((Fr.w (by omega) (Or.inr ⟨rfl, Or.inr rfl⟩)).trans (Fr.w (by omega) (Or.inr ⟨rfl, Or.inl rfl⟩)))
      have twoD : DfEx 3 s D (Dc (rI (wI (wI σ7 26 9 r11) 26 8 i)) u) := by rw [Dc_o (by omega), Dc_o (by omega)]; exact hDx
      refine ⟨r11, σ7, he7, hF4.g hC.1, hr7, fun q σ12 e12 σ15 e15 => ⟨by omega, ?_⟩, fun q => ⟨fun q1 => ⟨by omega, ?_⟩, fun q1 σ12 e12 σ15 e15 => ⟨by omega, ?_⟩⟩⟩
      · subst e12 e15
        refine ih (i + 1) _ (by omega) (by omega) (by omega) two twoD (fun _ => ?_)
        rw [rI_ww (by omega), rI_wi (by decide), rI_ww hr7, ← hVi]
        exact (BestS.start (Cand := fun h => 0 ≤ h ∧ h ≤ 3) (V := V) (bd := 1000000000) (k := i) (fun c hc => by omega)).take ⟨i0, by omega⟩ (by omega)
      · have hb' := hb (by omega)
        refine ih (i + 1) σ7 (by omega) (by omega) (by omega) hF4 hDx (fun _ => ?_)
        rw [k8, k9]
        refine hb'.ext (by omega) (fun c p1 p2 p3 => ?_)
        have e : c = i := by omega
        rw [e]; omega
      · have hb' := hb (by omega)
        subst e12 e15
        refine ih (i + 1) _ (by omega) (by omega) (by omega) two twoD (fun _ => ?_)
        rw [rI_ww (by omega), rI_wi (by decide), rI_ww hr7, ← hVi]
        exact hb'.take ⟨i0, by omega⟩ (by omega)
  refine ⟨σ, s_stalls hC.1, hC.1, by omega, fun z5 e5 => ?_⟩
  rw [e5]
  exact loop _ 0 σ rfl (by omega) (by omega) (Fr.refl _ _) (by rw [hD]; exact DfEx.refl _ _ _) (fun q => by omega)
end
