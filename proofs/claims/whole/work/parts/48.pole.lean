/-! A POLE more; heights and awnings tried. -/
def Dadd (D : Nat → Int → Int) (n x y h : Int) : Nat → Int → Int := Dset (Dset (Dset (Dset (Dset (Dset (Dset (Dset D 0 n x) 1 n y) 2 n h) 3 n 0) 4 n 0) 5 n 0) 6 n 0) 7 n (-1)
theorem Dadd_ne {D : Nat → Int → Int} {n x y h : Int} {f : Nat} {i : Int} (q : ¬ (f ≤ 7 ∧ i.toNat = n.toNat)) : Dadd D n x y h f i = D f i := by
  unfold Dadd
  rw [Dset_ne (by omega), Dset_ne (by omega), Dset_ne (by omega), Dset_ne (by omega), Dset_ne (by omega), Dset_ne (by omega), Dset_ne (by omega), Dset_ne (by omega)]
theorem Dadd_n {D : Nat → Int → Int} {n x y h i : Int} (q : i.toNat = n.toNat) : Dadd D n x y h 0 i = x ∧ Dadd D n x y h 1 i = y ∧ Dadd D n x y h 2 i = h ∧ Dadd D n x y h 3 i = 0 ∧ Dadd D n x y h 4 i = 0 ∧ Dadd D n x y h 5 i = 0 ∧ Dadd D n x y h 6 i = 0 ∧ Dadd D n x y h 7 i = -1 := by
  unfold Dadd Dset
  refine ⟨?_, ?_, ?_, ?_, ?_, ?_, ?_, ?_⟩ <;> simp [q]
/-- all but the row of n is the same -/
def DnEx (n : Int) (D D1 : Nat → Int → Int) : Prop := ∀ (f : Nat) (i : Int), ¬ (f ≤ 7 ∧ i.toNat = n.toNat) → D1 f i = D f i
theorem DnEx.refl (n : Int) (D : Nat → Int → Int) : DnEx n D D := fun _ _ _ => rfl
theorem DnEx.trans {n : Int} {D D1 D2 : Nat → Int → Int} (h : DnEx n D D1) (k : DnEx n D1 D2) : DnEx n D D2 := fun f i c => (k f i c).trans (h f i c)
theorem DnEx.deq {n : Int} {D D1 : Nat → Int → Int} (h : DnEx n D D1) (hn : 0 ≤ n) : Deq n D D1 := fun f i _ i0 i1 => h f i (by omega)
theorem DnEx.add {n : Int} {D D1 : Nat → Int → Int} (h : DnEx n D D1) (x y z : Int) : Dadd D1 n x y z = Dadd D n x y z := by
  funext f i
  by_cases c : f ≤ 7 ∧ i.toNat = n.toNat
  · obtain ⟨a0, a1, a2, a3, a4, a5, a6, a7⟩ := Dadd_n (D := D1) (n := n) (x := x) (y := y) (h := z) c.2
    obtain ⟨b0, b1, b2, b3, b4, b5, b6, b7⟩ := Dadd_n (D := D) (n := n) (x := x) (y := y) (h := z) c.2
    have hf := c.1
    match f, hf with
    | 0, _ => rw [a0, b0]
    | 1, _ => rw [a1, b1]
    | 2, _ => rw [a2, b2]
    | 3, _ => rw [a3, b3]
    | 4, _ => rw [a4, b4]
    | 5, _ => rw [a5, b5]
    | 6, _ => rw [a6, b6]
    | 7, _ => rw [a7, b7]
  · rw [Dadd_ne c, Dadd_ne c]; exact h f i c
theorem DnEx.of {n x y z : Int} {D : Nat → Int → Int} : DnEx n D (Dadd D n x y z) := fun _ _ c => Dadd_ne c
theorem StB.add {D : Nat → Int → Int} {n x y h : Int} (hS : StB D n) (h0 : 0 ≤ n) (h9 : n < 9) (hx : 0 ≤ x ∧ x ≤ 8) (hy : 0 ≤ y ∧ y ≤ 8) (hh : 0 ≤ h ∧ h ≤ 60) : StB (Dadd D n x y h) (n + 1) := by
  refine ⟨by omega, fun i i0 i1 => ?_⟩
  by_cases e : i = n
  · subst e
    obtain ⟨a0, a1, a2, a3, a4, a5, a6, a7⟩ := Dadd_n (D := D) (n := i) (x := x) (y := y) (h := h) rfl
    rw [a0, a1, a2, a3, a6]
    exact ⟨hx, hy, hh, by omega, by omega⟩
  · rw [Dadd_ne (by omega), Dadd_ne (by omega), Dadd_ne (by omega), Dadd_ne (by omega), Dadd_ne (by omega)]
    exact hS.2 i i0 (by omega)
theorem Deq.add {n : Int} {D D1 : Nat → Int → Int} (h : Deq n D D1) (hn : 0 ≤ n) (x y z : Int) : Deq (n + 1) (Dadd D n x y z) (Dadd D1 n x y z) := by
  intro f i f6 i0 i1
  by_cases e : i = n
  · subst e
    obtain ⟨a0, a1, a2, a3, a4, a5, a6, a7⟩ := Dadd_n (D := D) (n := i) (x := x) (y := y) (h := z) rfl
    obtain ⟨b0, b1, b2, b3, b4, b5, b6, b7⟩ := Dadd_n (D := D1) (n := i) (x := x) (y := y) (h := z) rfl
    match f, f6 with
    | 0, _ => rw [a0, b0]
    | 1, _ => rw [a1, b1]
    | 2, _ => rw [a2, b2]
    | 3, _ => rw [a3, b3]
    | 4, _ => rw [a4, b4]
    | 5, _ => rw [a5, b5]
    | 6, _ => rw [a6, b6]
  · rw [Dadd_ne (by omega), Dadd_ne (by omega)]; exact h f i f6 i0 (by omega)
/-- the row of n, and how many there are -/
abbrev AA (v : Nat) (n : Int) : Nat → Int → Prop := fun a i => ((v + 2 ≤ a ∧ a ≤ v + 9) ∧ i = n) ∨ (a = v + 1 ∧ i = 8)
def PoleC (D : Nat → Int → Int) (n W H c : Int) : Prop := 0 ≤ c ∧ c % 10 < W ∧ c / 10 < H ∧ ∀ k : Int, ¬ At D n (c % 10) (c / 10) k
noncomputable def PoleV (D : Nat → Int → Int) (n gone w : Int) (S F F1 : Int → Int) (h c : Int) : Int := DueD (Dadd D n (c % 10) (c / 10) h) (n + 1) gone w S F F1
section
variable {sc : Nat × (Nat → Int32)} {d : Nat} {σ : aH} {u v : Nat} {n : Int} {S F F1 : Int → Int}
theorem s_add {x y h : Int} (hG : G σ u) (hv : IsMk v) (hn : rI σ (v + 1) 8 = n) (h0 : 0 ≤ n ∧ n < 9) (rx : inR x) (ry : inR y) (rh : inR h) : TV sc (d + 1) mX7_add [.ref (v + 1), .int (nZ x), .int (nZ y), .int (nZ h)] σ (fun σ1 => Fr (AA v n) σ σ1 ∧ rI σ1 (v + 1) 8 = n + 1 ∧ Dc (rI σ1) v = Dadd (Dc (rI σ) v) n x y h) := by
  apply T.void
  apply t_X7_add hG hv rx ry rh
  refine ⟨fun _ => ?_, fun q => by omega⟩
  rw [hn]
  refine ⟨h0, fun σ1 e1 => ?_⟩
  have n1 : rI σ1 (v + 1) 8 = n := by rw [← e1, rI_wa (by omega)]; exact hn
  rw [n1]
  refine ⟨h0, fun σ2 e2 => ?_⟩
  have n2 : rI σ2 (v + 1) 8 = n := by rw [← e2, rI_wa (by omega)]; exact n1
  rw [n2]
  refine ⟨h0, fun σ3 e3 => ?_⟩
  have n3 : rI σ3 (v + 1) 8 = n := by rw [← e3, rI_wa (by omega)]; exact n2
  rw [n3]
  refine ⟨h0, fun σ4 e4 => ?_⟩
  have n4 : rI σ4 (v + 1) 8 = n := by rw [← e4, rI_wa (by omega)]; exact n3
  rw [n4]
  refine ⟨h0, fun σ5 e5 => ?_⟩
  have n5 : rI σ5 (v + 1) 8 = n := by rw [← e5, rI_wa (by omega)]; exact n4
  rw [n5]
  refine ⟨h0, fun σ6 e6 => ?_⟩
  have n6 : rI σ6 (v + 1) 8 = n := by rw [← e6, rI_wa (by omega)]; exact n5
  rw [n6]
  refine ⟨h0, fun σ7 e7 => ?_⟩
  have n7 : rI σ7 (v + 1) 8 = n := by rw [← e7, rI_wa (by omega)]; exact n6
  rw [n7]
  refine ⟨h0, fun σ8 e8 => ?_⟩
  have n8 : rI σ8 (v + 1) 8 = n := by rw [← e8, rI_wa (by omega)]; exact n7
  rw [n8]
  refine ⟨by omega, fun σ9 e9 => ⟨rfl, ?_, ?_, ?_⟩⟩
  · subst e1 e2 e3 e4 e5 e6 e7 e8 e9
    have q : ∀ (τ : aH) (a : Nat) (z : Int), (v + 2 ≤ a ∧ a ≤ v + 9) → Fr (AA v n) τ (wI τ a n z) := fun τ a z ha => Fr.w h0.1 (Or.inl ⟨ha, rfl⟩)
    exact (q _ _ _ (by omega)).trans ((q _ _ _ (by omega)).trans ((q _ _ _ (by omega)).trans ((q _ _ _ (by omega)).trans ((q _ _ _ (by omega)).trans ((q _ _ _ (by omega)).trans ((q _ _ _ (by omega)).trans ((q _ _ _ (by omega)).trans (Fr.w (by omega) (Or.inr ⟨rfl, rfl⟩)))))))))
  · rw [← e9, rI_ww (by omega)]
  · have w1 : Dc (rI σ1) v = Dset (Dc (rI σ) v) 0 n x := by rw [← e1]; exact Dc_wa 0 rfl (by decide) rx
    have w2 : Dc (rI σ2) v = Dset (Dc (rI σ1) v) 1 n y := by rw [← e2]; exact Dc_wa 1 rfl (by decide) ry
    have w3 : Dc (rI σ3) v = Dset (Dc (rI σ2) v) 2 n h := by rw [← e3]; exact Dc_wa 2 rfl (by decide) rh
    have w4 : Dc (rI σ4) v = Dset (Dc (rI σ3) v) 3 n 0 := by rw [← e4]; exact Dc_wa 3 rfl (by decide) (by decide)
    have w5 : Dc (rI σ5) v = Dset (Dc (rI σ4) v) 4 n 0 := by rw [← e5]; exact Dc_wa 4 rfl (by decide) (by decide)
    have w6 : Dc (rI σ6) v = Dset (Dc (rI σ5) v) 5 n 0 := by rw [← e6]; exact Dc_wa 5 rfl (by decide) (by decide)
    have w7 : Dc (rI σ7) v = Dset (Dc (rI σ6) v) 6 n 0 := by rw [← e7]; exact Dc_wa 6 rfl (by decide) (by decide)
    have w8 : Dc (rI σ8) v = Dset (Dc (rI σ7) v) 7 n (-1) := by rw [← e8]; exact Dc_wa 7 rfl (by decide) (by decide)
    have w9 : Dc (rI σ9) v = Dc (rI σ8) v := by rw [← e9]; exact Dc_o (by omega)
    rw [w9, w8, w7, w6, w5, w4, w3, w2, w1]; rfl
/-- the pole's row, how many, bestDue, bestCells -/
abbrev AN (u : Nat) (n : Int) : Nat → Int → Prop := fun a i => AA u n a i ∨ (a = 26 ∧ (i = 6 ∨ i = 7))
theorem s_placePole {h W H : Int} (hC : Cx σ u n S F F1) (hW : rI σ u 3 = W) (hW9 : 0 ≤ W ∧ W ≤ 9) (hH : rI σ u 4 = H) (hH9 : 0 ≤ H ∧ H ≤ 9) (hh : 0 ≤ h ∧ h ≤ 60) : TV sc (d + 5) mX4_placePole [.ref 26, .int (nZ h)] σ (fun σ1 => Fr (AN u n) σ σ1 ∧ DnEx n (Dc (rI σ) u) (Dc (rI σ1) u) ∧ rI σ1 (u + 1) 8 = n ∧ (8 ≤ n → rI σ1 26 7 = -1) ∧ (n < 8 → BestS (PoleC (Dc (rI σ) u) n W H) (PoleV (Dc (rI σ) u) n (rI σ (u + 1) 9) (1 + rI σ u 9) S F F1 h) 1000000000 (rI σ1 26 6) (rI σ1 26 7))) := by
  have hm := hC.mk
  have hn9 := hC.n9
  have hSt := hC.2.1.2.2.1
  apply T.void
  apply t_X4_placePole hC.1 (by omega)
  obtain ⟨σ1, he1, hF1, hb6, hb7⟩ := s_startSearch (sc := sc) (d := d + 3) hC.1
  refine ⟨σ1, he1, hF1.g hC.1, σ1, s_stalls (hF1.g hC.1), hF1.g hC.1, ?_⟩
  have hF1' : Fr (AN u n) σ σ1 := hF1.weak (fun a i z => Or.inr z)
  have hD1 : Dc (rI σ1) u = Dc (rI σ) u := Dc_congr (fun a p q => hF1.row (fun i => by show ¬ (a = 26 ∧ _); omega))
  have hn1 : rI σ1 (u + 1) 8 = n := (hF1.rw (by omega) (by show ¬ (u + 1 = 26 ∧ _); omega)).trans hC.2.1.1
  obtain ⟨P, hP⟩ : ∃ P : aO → aH → Prop, P = QV (fun σ1 => Fr (AN u n) σ σ1 ∧ DnEx n (Dc (rI σ) u) (Dc (rI σ1) u) ∧ rI σ1 (u + 1) 8 = n ∧ (8 ≤ n → rI σ1 26 7 = -1) ∧ (n < 8 → BestS (PoleC (Dc (rI σ) u) n W H) (PoleV (Dc (rI σ) u) n (rI σ (u + 1) 9) (1 + rI σ u 9) S F F1 h) 1000000000 (rI σ1 26 6) (rI σ1 26 7))) := ⟨_, rfl⟩
  rw [← hP]
  refine ⟨fun q8 => ?_, fun q8 => ?_⟩
  rotate_left
  · rw [hP]
    exact ⟨rfl, hF1', by rw [hD1]; exact DnEx.refl _ _, hn1, fun _ => hb7, fun q => by omega⟩
  obtain ⟨V, hV⟩ : ∃ V : Int → Int, V = PoleV (Dc (rI σ) u) n (rI σ (u + 1) 9) (1 + rI σ u 9) S F F1 h := ⟨_, rfl⟩
  obtain ⟨D, hD⟩ : ∃ D : Nat → Int → Int, D = Dc (rI σ) u := ⟨_, rfl⟩
  rw [← hD] at hP hSt hV hD1
  rw [← hV] at hP
  have hst : ∀ τ : aH, Fr (AN u n) σ τ → rI τ u 3 = W ∧ rI τ u 4 = H ∧ rI τ u 9 = rI σ u 9 ∧ rI τ (u + 1) 9 = rI σ (u + 1) 9 := by
    intro τ hF
    have q : ∀ (a : Nat) (i : Int), a = u ∨ (a = u + 1 ∧ i = 9) → ¬ AN u n a i := fun a i z => by show ¬ ((((u + 2 ≤ a ∧ a ≤ u + 9) ∧ i = n) ∨ (a = u + 1 ∧ i = 8)) ∨ (a = 26 ∧ _)); omega
    exact ⟨(hF.rw (by omega) (q _ _ (by omega))).trans hW, (hF.rw (by omega) (q _ _ (by omega))).trans hH, hF.rw (by omega) (q _ _ (by omega)), hF.rw (by omega) (q _ _ (by omega))⟩
  have loop : ∀ (g : Nat) (row : Int) (τ : aH), (H - row).toNat = g → 0 ≤ row → row ≤ H → Fr (AN u n) σ τ → DnEx n D (Dc (rI τ) u) → rI τ (u + 1) 8 = n → BestS (fun c => PoleC D n W H c ∧ c < 10 * row) V 1000000000 (rI τ 26 6) (rI τ 26 7) → L_X4_placePole_30 (Ev sc (d + 4)) sc P u h row τ := by
    intro g
    induction g with
    | zero =>
      intro row τ hg r0 r1 hF hDt hnt hb
      have hs := hst τ hF
      apply v_X4_placePole_30 (hF.g hC.1) (by omega) (by omega)
      refine ⟨fun _ => ?_, fun q => by omega⟩
      rw [hP]
      refine ⟨rfl, hF, hDt, hnt, fun q => by omega, fun _ => hb.done (fun c hc => ?_)⟩
      obtain ⟨a, b, e, -⟩ := hc
      omega
    | succ g ih =>
      intro row τ hg r0 r1 hF hDt hnt hb
      have inner : ∀ (f : Nat) (col : Int) (τ1 : aH), (W - col).toNat = f → 0 ≤ col → col ≤ W → Fr (AN u n) σ τ1 → DnEx n D (Dc (rI τ1) u) → rI τ1 (u + 1) 8 = n → BestS (fun c => PoleC D n W H c ∧ c < col + 10 * row) V 1000000000 (rI τ1 26 6) (rI τ1 26 7) → L_X4_placePole_42 (Ev sc (d + 4)) sc P u h row col τ1 := by
        intro f
        induction f with
        | zero =>
          intro col τ1 hf c0 c1 hF2 hDt2 hnt2 hb2
          have hs := hst τ1 hF2
          apply v_X4_placePole_42 (hF2.g hC.1) (by omega) (by omega) (by omega)
          refine ⟨fun _ => ⟨by omega, ih (row + 1) τ1 (by omega) (by omega) (by omega) hF2 hDt2 hnt2 (hb2.ext (by omega) (fun c q1 q2 q3 => ?_))⟩, fun q => by omega⟩
          obtain ⟨a, b, e, -⟩ := q1
          omega
        | succ f ihf =>
          intro col τ1 hf c0 c1 hF2 hDt2 hnt2 hb2
          have hs := hst τ1 hF2
          have hG := hF2.g hC.1
          apply v_X4_placePole_42 hG (by omega) (by omega) (by omega)
          refine ⟨fun q => by omega, fun _ => ?_⟩
          obtain ⟨r6, σ2, he2, hr2, rfl, h2⟩ := s_whoIsAt (sc := sc) (d := d + 3) (v := u) (x := col) (y := row) hG hC.1.2.2.2.2 hnt2 hn9.2 hn9.1 (by omega) (by omega)
          have hAt : ∀ k : Int, At (Dc (rI σ2) u) n col row k ↔ At D n col row k := fun k => (hDt2.deq hn9.1).at
          have e1 : (col + 10 * row) % 10 = col := by omega
          have e2 : (col + 10 * row) / 10 = row := by omega
          refine ⟨r6, σ2, he2, hG, hr2, fun q1 => ⟨by omega, ?_⟩, fun q1 => ?_⟩
          · refine ihf (col + 1) σ2 (by omega) (by omega) (by omega) hF2 hDt2 hnt2 (hb2.ext (by omega) (fun c p1 p2 p3 => ?_))
            exfalso
            have e : c = col + 10 * row := by omega
            obtain ⟨-, -, -, p4⟩ := p1
            rw [e, e1, e2] at p4
            rcases h2 with h2 | h2
            · exact q1 h2.1
            · exact p4 r6 ((hAt r6).mp h2.1)
          · have hfree : ∀ k : Int, ¬ At D n col row k := by
              rcases h2 with h2 | h2
              · exact fun k z => h2.2 k ((hAt k).mpr z)
              · have := h2.1.1; omega
            obtain ⟨σ8, he8, hF8, hn8, hD8⟩ := s_add (sc := sc) (d := d + 3) (v := u) (x := col) (y := row) (h := h) hG hC.1.2.2.2.2 hnt2 (by omega) (by omega) (by omega) (by omega)
            rw [hDt2.add] at hD8
            have hF8' : Fr (AN u n) σ σ8 := hF2.trans (hF8.weak (fun a i z => Or.inl z))
            have hs8 := hst σ8 hF8'
            have hC8 : Cx σ8 u (n + 1) S F F1 := by
              refine ⟨hF8'.g hC.1, ⟨hn8, by omega, by rw [hD8]; exact hSt.add hn9.1 (by omega) (by omega) (by omega) hh, by rw [hs8.2.2.1]; exact hC.2.1.2.2.2⟩, hC.2.2.1.fr hF8' (fun a i z => ?_), hC.2.2.2⟩
              show ¬ ((((u + 2 ≤ a ∧ a ≤ u + 9) ∧ i = n) ∨ (a = u + 1 ∧ i = 8)) ∨ (a = 26 ∧ _)); omega
            refine ⟨σ8, he8, hF8'.g hC.1, by omega, by omega, ?_⟩
            obtain ⟨σ9, he9, hF9, h9⟩ := s_weighWay (sc := sc) (d := d) (x := col + 10 * row) hC8 (by omega)
            have hD9 : Dc (rI σ9) u = Dc (rI σ8) u := Dc_congr (fun a p q => hF9.row (fun i => by show ¬ (a = 26 ∧ _); omega))
            have hn9' : rI σ9 (u + 1) 8 = n + 1 := (hF9.rw (by omega) (by show ¬ (u + 1 = 26 ∧ _); omega)).trans hn8
            have hF9' : Fr (AN u n) σ σ9 := hF8'.trans (hF9.weak (fun a i z => Or.inr z))
            rw [hD8, hs8.2.2.1, hs8.2.2.2] at h9
            have eV : DueD (Dadd D n col row h) (n + 1) (rI σ (u + 1) 9) (1 + rI σ u 9) S F F1 = V (col + 10 * row) := by
              rw [hV]; unfold PoleV; rw [e1, e2]
            rw [eV] at h9
            have e6 : rI σ8 26 6 = rI σ2 26 6 := hF8.rw (by omega) (by show ¬ (((u + 2 ≤ 26 ∧ 26 ≤ u + 9) ∧ _) ∨ (26 = u + 1 ∧ _)); omega)
            have e7 : rI σ8 26 7 = rI σ2 26 7 := hF8.rw (by omega) (by show ¬ (((u + 2 ≤ 26 ∧ 26 ≤ u + 9) ∧ _) ∨ (26 = u + 1 ∧ _)); omega)
            refine ⟨σ9, he9, hF9'.g hC.1, by omega, fun σ19 e19 => ⟨by omega, ?_⟩⟩
            rw [hn9', show n + 1 - 1 = n by omega] at e19
            subst e19
            refine ihf (col + 1) _ (by omega) (by omega) (by omega) (hF9'.trans (Fr.w (by omega) (Or.inl (Or.inr ⟨rfl, rfl⟩)))) (by rw [Dc_o (by omega), hD9, hD8]; exact DnEx.of) (rI_ww (by omega)) ?_
            rw [rI_wa (by omega), rI_wa (by omega), show col + 1 + 10 * row = (col + 10 * row) + 1 by omega]
            rw [e6] at h9
            rcases h9 with ⟨p1, p2, p3⟩ | ⟨p1, p2⟩
            · rw [p2, p3]
              exact hb2.take ⟨by omega, by omega, by omega, by rw [e1, e2]; exact hfree⟩ p1
            · subst p2
              rw [e6, e7]
              refine hb2.ext (by omega) (fun c z1 z2 z3 => ?_)
              have e : c = col + 10 * row := by omega
              rw [e]; exact p1
      have hs := hst τ hF
      apply v_X4_placePole_30 (hF.g hC.1) (by omega) (by omega)
      exact ⟨fun q => by omega, fun q => inner _ 0 τ rfl (by omega) (by omega) hF hDt hnt (by rw [show 0 + 10 * row = 10 * row by omega]; exact hb)⟩
  refine loop _ 0 σ1 rfl (by omega) (by omega) hF1' (by rw [hD1]; exact DnEx.refl _ _) hn1 ?_
  rw [hb6, hb7]
  exact BestS.start (fun c hc => by have := hc.1; omega)
end
