/-! SET, EXCHANGE: what they find. -/
def SetC1 (D : Nat → Int → Int) (n W H one c : Int) : Prop := 0 ≤ c ∧ c % 10 < W ∧ c / 10 < H ∧ ∀ k : Int, k ≠ one → ¬ At D n (c % 10) (c / 10) k
noncomputable def SetV1 (D : Nat → Int → Int) (n gone w : Int) (S F F1 : Int → Int) (one c : Int) : Int := DueD (Dput D one (c % 10) (c / 10)) n gone w S F F1
def SetC2 (D : Nat → Int → Int) (n W H one other c : Int) : Prop := 0 ≤ c ∧ (c / 100 % 10 < W ∧ c / 1000 < H) ∧ (c % 10 < W ∧ c / 10 % 10 < H) ∧ Fr2 D n one other (c / 100 % 10) (c / 1000) ∧ Fr2 D n one other (c % 10) (c / 10 % 10) ∧ c / 100 ≠ c % 100
noncomputable def SetV2 (D : Nat → Int → Int) (n gone w : Int) (S F F1 : Int → Int) (one other c : Int) : Int := DueD (Dput (Dput D one (c / 100 % 10) (c / 1000)) other (c % 10) (c / 10 % 10)) n gone w S F F1
def ExC (n c : Int) : Prop := 0 ≤ c ∧ c / 10 < c % 10 ∧ c % 10 < n
noncomputable def ExV (D : Nat → Int → Int) (n gone w : Int) (S F F1 : Int → Int) (c : Int) : Int := DueD (Dswap D (c / 10) (c % 10)) n gone w S F F1
def ExS (D : Nat → Int → Int) (n gone w : Int) (S F F1 : Int → Int) (val code : Int) : Prop := BestS (ExC n) (ExV D n gone w S F F1) (DueD D n gone w S F F1) val code
theorem StB.swap {D : Nat → Int → Int} {n s t : Int} (hS : StB D n) (hs : 0 ≤ s ∧ s < n) (ht : 0 ≤ t ∧ t < n) : StB (Dswap D s t) n := by
  obtain ⟨a1, a2, -⟩ := hS.2 s hs.1 hs.2
  obtain ⟨b1, b2, -⟩ := hS.2 t ht.1 ht.2
  exact (hS.put b1 b2).put a1 a2
theorem Dswap_ne {D : Nat → Int → Int} {s t : Int} {f : Nat} {i : Int} (h : ¬ (f ≤ 1 ∧ (i.toNat = s.toNat ∨ i.toNat = t.toNat))) : Dswap D s t f i = D f i := (Dput_ne (by omega)).trans (Dput_ne (by omega))
theorem Dswap_t {D : Nat → Int → Int} {s t i : Int} (h : i.toNat = t.toNat) : Dswap D s t 0 i = D 0 s ∧ Dswap D s t 1 i = D 1 s := Dput_s h
theorem Dswap_s {D : Nat → Int → Int} {s t i : Int} (h : i.toNat = s.toNat) (hn : s.toNat ≠ t.toNat) : Dswap D s t 0 i = D 0 t ∧ Dswap D s t 1 i = D 1 t := ⟨(Dput_ne (by omega)).trans (Dput_s h).1, (Dput_ne (by omega)).trans (Dput_s h).2⟩
theorem Dswap_swap {D : Nat → Int → Int} {s t : Int} (hD : ∀ (f : Nat) (i : Int), D f i = D f (i.toNat : Int)) (hn : s.toNat ≠ t.toNat) : Dswap (Dswap D s t) s t = D := by
  funext f i
  by_cases c : f ≤ 1 ∧ (i.toNat = s.toNat ∨ i.toNat = t.toNat)
  · obtain ⟨c1, c2⟩ := c
    have hf : f = 0 ∨ f = 1 := by omega
    rcases c2 with c2 | c2
    · rcases hf with rfl | rfl
      · rw [(Dswap_s c2 hn).1, (Dswap_t rfl).1, hD 0 s, hD 0 i, c2]
      · rw [(Dswap_s c2 hn).2, (Dswap_t rfl).2, hD 1 s, hD 1 i, c2]
    · rcases hf with rfl | rfl
      · rw [(Dswap_t c2).1, (Dswap_s rfl hn).1, hD 0 t, hD 0 i, c2]
      · rw [(Dswap_t c2).2, (Dswap_s rfl hn).2, hD 1 t, hD 1 i, c2]
  · rw [Dswap_ne c, Dswap_ne c]
section
variable {sc : Nat × (Nat → Int32)} {d : Nat} {σ : aH} {u : Nat} {n : Int} {S F F1 : Int → Int}
theorem s_placeAnew1 {one W H : Int} (hC : Cx σ u n S F F1) (hW : rI σ u 3 = W) (hW9 : 0 ≤ W ∧ W ≤ 9) (hH : rI σ u 4 = H) (hH9 : 0 ≤ H ∧ H ≤ 9) (h1 : 0 ≤ one ∧ one < n) (hDst : Dst (Dc (rI σ) u) n) :
    TV sc (d + 6) mX4_placeAnew [.ref 26, .int (nZ one), .int (nZ (-1))] σ (fun σ1 => Fr (AQ u) σ σ1 ∧ Dc (rI σ1) u = Dc (rI σ) u ∧ BestS (SetC1 (Dc (rI σ) u) n W H one) (SetV1 (Dc (rI σ) u) n (rI σ (u + 1) 9) (1 + rI σ u 9) S F F1 one) 1000000000 (rI σ1 26 6) (rI σ1 26 7)) := by
  have hn9 := hC.n9
  refine s_placeAnewG (b := fun k => k) hC hW hW9 hH hH9 h1 (by omega) hDst (fun p q h => h) rfl (fun c hc => ?_) (fun c => (DueD_bd hn9.2 hC.2.2.2.2.1 hC.2.2.2.2.2).1) (fun x y τ hx hy hf hCt hst hD hb => ?_)
  · obtain ⟨a, b, e, g⟩ := hc
    exact ⟨c % 10, c / 10, by omega, by omega, fun k k1 k2 => g k k1, by show c % 10 + 10 * (c / 10) ≤ c; omega, by show c < c % 10 + 10 * (c / 10) + 1; omega⟩
  · have e1 : (x + 10 * y) % 10 = x := by omega
    have e2 : (x + 10 * y) / 10 = y := by omega
    refine s_placeOther1 hCt (by omega) ⟨by omega, by omega, by omega, fun k k1 => ?_⟩ ?_ hb
    · rw [e1, e2]
      intro hk
      have := hk.1
      exact hf k k1 (by omega) hk
    · unfold SetV1
      rw [e1, e2, hD, hst.2.2.1, hst.2.2.2]
theorem s_placeAnew2 {one other W H : Int} (hC : Cx σ u n S F F1) (hW : rI σ u 3 = W) (hW9 : 0 ≤ W ∧ W ≤ 9) (hH : rI σ u 4 = H) (hH9 : 0 ≤ H ∧ H ≤ 9) (h1 : 0 ≤ one ∧ one < n) (h2 : 0 ≤ other ∧ other < n) (hno : one ≠ other) (hDst : Dst (Dc (rI σ) u) n) :
    TV sc (d + 6) mX4_placeAnew [.ref 26, .int (nZ one), .int (nZ other)] σ (fun σ1 => Fr (AQ u) σ σ1 ∧ Dc (rI σ1) u = Dc (rI σ) u ∧ BestS (SetC2 (Dc (rI σ) u) n W H one other) (SetV2 (Dc (rI σ) u) n (rI σ (u + 1) 9) (1 + rI σ u 9) S F F1 one other) 1000000000 (rI σ1 26 6) (rI σ1 26 7)) := by
  have hn9 := hC.n9
  have hV0 : ∀ c : Int, 0 ≤ SetV2 (Dc (rI σ) u) n (rI σ (u + 1) 9) (1 + rI σ u 9) S F F1 one other c := fun c => (DueD_bd hn9.2 hC.2.2.2.2.1 hC.2.2.2.2.2).1
  refine s_placeAnewG (b := fun k => 100 * k) hC hW hW9 hH hH9 h1 (by omega) hDst (fun p q h => by show 100 * p ≤ 100 * q; omega) rfl (fun c hc => ?_) hV0 (fun x y τ hx hy hf hCt hst hD hb => ?_)
  · obtain ⟨a, b, e, g, -⟩ := hc
    exact ⟨c / 100 % 10, c / 1000, by omega, by omega, g, by show 100 * (c / 100 % 10 + 10 * (c / 1000)) ≤ c; omega, by show c < 100 * (c / 100 % 10 + 10 * (c / 1000) + 1); omega⟩
  · have key : ∀ x' y' : Int, 0 ≤ x' → x' < 10 → 0 ≤ y' → y' < 10 → (100 * (x + 10 * y) + x' + 10 * y') / 100 % 10 = x ∧ (100 * (x + 10 * y) + x' + 10 * y') / 1000 = y ∧ (100 * (x + 10 * y) + x' + 10 * y') % 10 = x' ∧ (100 * (x + 10 * y) + x' + 10 * y') / 10 % 10 = y' ∧ (100 * (x + 10 * y) + x' + 10 * y') / 100 = x + 10 * y ∧ (100 * (x + 10 * y) + x' + 10 * y') % 100 = x' + 10 * y' := by
      intro x' y' a b c e
      omega
    have hcand : ∀ x' y' : Int, 0 ≤ x' → x' < 10 → 0 ≤ y' → y' < 10 → (SetC2 (Dc (rI σ) u) n W H one other (100 * (x + 10 * y) + x' + 10 * y') ↔ (x' < W ∧ y' < H ∧ ∀ k : Int, k ≠ other → ¬ At (Dc (rI τ) u) n x' y' k)) := by
      intro x' y' a b c e
      obtain ⟨k1, k2, k3, k4, k5, k6⟩ := key x' y' a b c e
      unfold SetC2
      rw [k1, k2, k3, k4, k5, k6, hD]
      constructor
      · rintro ⟨p1, p2, p3, p4, p5, p6⟩
        refine ⟨p3.1, p3.2, fun k hk hat => ?_⟩
        obtain ⟨q1, q2, q3, q4⟩ := hat
        by_cases ek : k = one
        · subst ek
          rw [(Dput_s rfl).1] at q3
          rw [(Dput_s rfl).2] at q4
          omega
        · rw [Dput_ne (by omega)] at q3 q4
          exact p5 k ek hk ⟨q1, q2, q3, q4⟩
      · rintro ⟨p1, p2, p3⟩
        refine ⟨by omega, ⟨hx.2, hy.2⟩, ⟨p1, p2⟩, hf, fun k k1 k2 hat => ?_, fun q => ?_⟩
        · obtain ⟨q1, q2, q3, q4⟩ := hat
          exact p3 k k2 ⟨q1, q2, by rw [Dput_ne (by omega)]; exact q3, by rw [Dput_ne (by omega)]; exact q4⟩
        · refine p3 one hno ⟨h1.1, h1.2, ?_, ?_⟩
          · rw [(Dput_s rfl).1]; omega
          · rw [(Dput_s rfl).2]; omega
    have hval : ∀ x' y' : Int, 0 ≤ x' → x' < W → 0 ≤ y' → y' < H → SetV2 (Dc (rI σ) u) n (rI σ (u + 1) 9) (1 + rI σ u 9) S F F1 one other (100 * (x + 10 * y) + x' + 10 * y') = DueD (Dput (Dc (rI τ) u) other x' y') n (rI τ (u + 1) 9) (1 + rI τ u 9) S F F1 := by
      intro x' y' a b c e
      obtain ⟨k1, k2, k3, k4, k5, k6⟩ := key x' y' a (by omega) c (by omega)
      unfold SetV2
      rw [k1, k2, k3, k4, hD, hst.2.2.1, hst.2.2.2]
    obtain ⟨σ1, he, hF, hDx, hbb⟩ := s_placeOther (sc := sc) (d := d) (s := other) (cell := x + 10 * y) (W := W) (H := H) (bd := 1000000000) (Cand := SetC2 (Dc (rI σ) u) n W H one other) (V := SetV2 (Dc (rI σ) u) n (rI σ (u + 1) 9) (1 + rI σ u 9) S F F1 one other) hCt (hst.1.trans hW) hW9 (hst.2.1.trans hH) hH9 h2 (by omega) hcand hval hV0 hb
    refine ⟨σ1, he, hF, hDx, ?_⟩
    show BestS (fun c => _ ∧ c < 100 * (x + 10 * y + 1)) _ _ _ _
    rw [show 100 * (x + 10 * y + 1) = 100 * (x + 10 * y) + 100 by omega]
    exact hbb
theorem s_bestExchange (hC : Cx σ u n S F F1) : TI sc (d + 4) mX4_bestExchange [.ref 26] σ (fun r σ1 => Fr (AP u) σ σ1 ∧ Dc (rI σ1) u = Dc (rI σ) u ∧ ExS (Dc (rI σ) u) n (rI σ (u + 1) 9) (1 + rI σ u 9) S F F1 (rI σ1 26 6) r) := by
  have hm := hC.mk
  have hn9 := hC.n9
  have hSt := hC.2.1.2.2.1
  apply T.int
  apply t_X4_bestExchange hC.1
  refine ⟨σ, s_stalls hC.1, hC.1, ?_⟩
  obtain ⟨r9, σ5, he5, hr5, rfl, h5⟩ := s_due (sc := sc) (d := d) hC.1 hC.2.1 (show IsWt 28 from Or.inl rfl) hC.2.2.1 hC.2.2.2.1 hC.2.2.2.2.1 hC.2.2.2.2.2
  refine ⟨r9, σ5, he5, hC.1, hr5, fun σ10 e10 => ?_⟩
  obtain ⟨D, hD⟩ : ∃ D : Nat → Int → Int, D = Dc (rI σ5) u := ⟨_, rfl⟩
  have hDn : ∀ (f : Nat) (i : Int), D f i = D f (i.toNat : Int) := fun f i => by rw [hD]; exact Dc_tn _ _ _ _
  have h5' : r9 = DueD D n (rI σ5 (u + 1) 9) (1 + rI σ5 u 9) S F F1 := by rw [hD]; exact h5
  rw [← hD] at hSt
  rw [← hD]
  obtain ⟨P, hP⟩ : ∃ P : aO → aH → Prop, P = QI (fun r σ1 => Fr (AP u) σ5 σ1 ∧ Dc (rI σ1) u = D ∧ ExS D n (rI σ5 (u + 1) 9) (1 + rI σ5 u 9) S F F1 (rI σ1 26 6) r) := ⟨_, rfl⟩
  rw [← hP]
  obtain ⟨V, hV⟩ : ∃ V : Int → Int, V = ExV D n (rI σ5 (u + 1) 9) (1 + rI σ5 u 9) S F F1 := ⟨_, rfl⟩
  have loop : ∀ (g : Nat) (i pair : Int) (τ : aH), (n - i).toNat = g → 0 ≤ i → i ≤ n → inR pair → Fr (AP u) σ5 τ → Dc (rI τ) u = D → BestS (fun c => ExC n c ∧ c < 10 * i) V r9 (rI τ 26 6) pair → L_X4_bestExchange_29 (Ev sc (d + 3)) sc P u pair i τ := by
    intro g
    induction g with
    | zero =>
      intro i pair τ hg i0 i1 hr hF hDt hb
      have hn1 : rI τ (u + 1) 8 = n := (hF.rw (by omega) (by show ¬ ((u + 1 = u + 2 ∨ u + 1 = u + 3) ∨ (u + 1 = 26 ∧ _)); omega)).trans hC.2.1.1
      apply v_X4_bestExchange_29 (hF.g hC.1) hr (by omega)
      refine ⟨fun _ => ?_, fun q => by omega⟩
      rw [hP]
      refine ⟨pair, rfl, hr, hF, hDt, ?_⟩
      unfold ExS
      rw [← hV, ← h5']
      refine hb.done (fun c hc => ?_)
      obtain ⟨a, b, e⟩ := hc
      omega
    | succ g ih =>
      intro i pair τ hg i0 i1 hr hF hDt hb
      have hn1 : rI τ (u + 1) 8 = n := (hF.rw (by omega) (by show ¬ ((u + 1 = u + 2 ∨ u + 1 = u + 3) ∨ (u + 1 = 26 ∧ _)); omega)).trans hC.2.1.1
      have inner : ∀ (f : Nat) (j pair : Int) (τ1 : aH), (n - j).toNat = f → i < j → j ≤ n → inR pair → Fr (AP u) σ5 τ1 → Dc (rI τ1) u = D → BestS (fun c => ExC n c ∧ c < 10 * i + j) V r9 (rI τ1 26 6) pair → L_X4_bestExchange_42 (Ev sc (d + 3)) sc P u pair i j τ1 := by
        intro f
        induction f with
        | zero =>
          intro j pair τ1 hf j0 j1 hr1 hF1 hDt1 hb1
          have hn2 : rI τ1 (u + 1) 8 = n := (hF1.rw (by omega) (by show ¬ ((u + 1 = u + 2 ∨ u + 1 = u + 3) ∨ (u + 1 = 26 ∧ _)); omega)).trans hC.2.1.1
          apply v_X4_bestExchange_42 (hF1.g hC.1) hr1 (by omega) (by omega)
          refine ⟨fun _ => ⟨by omega, ih (i + 1) pair τ1 (by omega) (by omega) (by omega) hr1 hF1 hDt1 (hb1.ext (by omega) (fun c q1 q2 q3 => ?_))⟩, fun q => by omega⟩
          obtain ⟨a, b, e⟩ := q1
          omega
        | succ f ihf =>
          intro j pair τ1 hf j0 j1 hr1 hF1 hDt1 hb1
          have hn2 : rI τ1 (u + 1) 8 = n := (hF1.rw (by omega) (by show ¬ ((u + 1 = u + 2 ∨ u + 1 = u + 3) ∨ (u + 1 = 26 ∧ _)); omega)).trans hC.2.1.1
          apply v_X4_bestExchange_42 (hF1.g hC.1) hr1 (by omega) (by omega)
          refine ⟨fun q => by omega, fun _ => ?_⟩
          obtain ⟨σ2, he2, hF2, hD2⟩ := s_swapCells (sc := sc) (d := d + 1) (s := i) (t := j) (hF1.g hC.1) hC.1.2.2.2.2 (by omega) (by omega)
          have hF2' : Fr (AP u) σ5 σ2 := hF1.trans (hF2.weak (fun a i z => Or.inl z))
          rw [hDt1] at hD2
          have hC2 : Cx σ2 u n S F F1 := hC.ap hF2' (by rw [hD2]; exact hSt.swap (by omega) (by omega))
          have hst2 := hF2'.stay hm
          refine ⟨σ2, he2, hF2'.g hC.1, ?_⟩
          obtain ⟨r10, σ6, he6, hr6, rfl, z0, z1, z2⟩ := s_total (sc := sc) (d := d) hC2.1 hC2.2.1 (show IsWt 28 from Or.inl rfl) hC2.2.2.1 hC2.2.2.2.1 hC2.2.2.2.2.1 hC2.2.2.2.2.2 (rI_R σ2 26 6)
          have eV : Tot (FaC (rI σ6) u n) (rI σ6 (u + 8)) S F F1 n (rI σ6 (u + 1) 9) = V (10 * i + j) := by
            have e1 : (10 * i + j) / 10 = i := by omega
            have e2 : (10 * i + j) % 10 = j := by omega
            rw [hV]; unfold ExV; rw [e1, e2, ← hD2, ← hst2.2.2.2, ← hst2.2.2.1]; rfl
          rw [eV] at z1 z2
          refine ⟨r10, σ6, he6, hF2'.g hC.1, hr6, ?_⟩
          obtain ⟨σ11, he11, hF11, hD11⟩ := s_swapCells (sc := sc) (d := d + 1) (s := i) (t := j) (hF2'.g hC.1) hC.1.2.2.2.2 (by omega) (by omega)
          have hF11' : Fr (AP u) σ5 σ11 := hF2'.trans (hF11.weak (fun a i z => Or.inl z))
          rw [hD2, Dswap_swap hDn (by omega)] at hD11
          have e6 : rI σ6 26 6 = rI τ1 26 6 := hF2.rw (by omega) (by show ¬ (26 = u + 2 ∨ 26 = u + 3); omega)
          have e11 : rI σ11 26 6 = rI τ1 26 6 := (hF11.rw (by omega) (by show ¬ (26 = u + 2 ∨ 26 = u + 3); omega)).trans e6
          rw [e6] at z2
          refine ⟨σ11, he11, hF11'.g hC.1, fun q1 => ⟨by omega, ?_⟩, fun q1 σ16 e16 => ⟨by omega, by omega, fun z21 e21 => ⟨by omega, ?_⟩⟩⟩
          · refine ihf (j + 1) pair σ11 (by omega) (by omega) (by omega) hr1 hF11' hD11 ?_
            rw [e11]
            refine hb1.ext (by omega) (fun c p1 p2 p3 => ?_)
            have e : c = 10 * i + j := by omega
            rw [e]; omega
          · subst e16
            refine ihf (j + 1) z21 _ (by omega) (by omega) (by omega) (by omega) (hF11'.trans (Fr.w (by omega) (Or.inr ⟨rfl, Or.inl rfl⟩))) ((Dc_o (by omega)).trans hD11) ?_
            rw [rI_ww hr6, e21, show 10 * i + (j + 1) = (10 * i + j) + 1 by omega, z2 (by omega)]
            exact hb1.take ⟨by omega, by omega, by omega⟩ (by have := z2 (by omega); omega)
      apply v_X4_bestExchange_29 (hF.g hC.1) hr (by omega)
      refine ⟨fun q => by omega, fun q => ⟨by omega, fun z2 e2 => inner _ z2 pair τ rfl (by omega) (by omega) hr hF hDt (hb.ext (by omega) (fun c q1 q2 q3 => ?_))⟩⟩
      obtain ⟨a, b, e⟩ := q1
      omega
  subst e10
  refine loop _ 0 (-1) _ rfl (by omega) (by omega) (by decide) (Fr.w (by omega) (Or.inr ⟨rfl, Or.inl rfl⟩)) ((Dc_o (by omega)).trans hD.symm) ?_
  rw [rI_ww hr5]
  exact BestS.start (fun c hc => by have := hc.1; omega)
end
