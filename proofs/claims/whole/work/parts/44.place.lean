/-! PLANS: stalls put anew. -/
abbrev AP (u : Nat) : Nat → Int → Prop := fun a i => (a = u + 2 ∨ a = u + 3) ∨ (a = 26 ∧ (i = 6 ∨ i = 7))
/-- what stays while cells are tried -/
def Stay (σ τ : aH) (u : Nat) : Prop := rI τ u 3 = rI σ u 3 ∧ rI τ u 4 = rI σ u 4 ∧ rI τ u 9 = rI σ u 9 ∧ rI τ (u + 1) 9 = rI σ (u + 1) 9
theorem Fr.stay {σ τ : aH} {u : Nat} (hm : u = 39 ∨ u = 60) (h : Fr (AP u) σ τ) : Stay σ τ u := by
  have hA : ∀ (a : Nat) (i : Int), a = u ∨ a = u + 1 → ¬ AP u a i := fun a i q => by show ¬ ((a = u + 2 ∨ a = u + 3) ∨ (a = 26 ∧ (i = 6 ∨ i = 7))); omega
  exact ⟨h.rw (by omega) (hA _ _ (by omega)), h.rw (by omega) (hA _ _ (by omega)), h.rw (by omega) (hA _ _ (by omega)), h.rw (by omega) (hA _ _ (by omega))⟩
section
variable {sc : Nat × (Nat → Int32)} {d : Nat} {σ : aH} {u : Nat} {n : Int} {S F F1 : Int → Int}
theorem Cx.ap {τ : aH} (h : Cx σ u n S F F1) (hF : Fr (AP u) σ τ) (hB : StB (Dc (rI τ) u) n) : Cx τ u n S F F1 := by
  have hm := h.mk
  exact h.fr hF (by show ¬ ((u + 1 = u + 2 ∨ u + 1 = u + 3) ∨ (u + 1 = 26 ∧ _)); omega) (by show ¬ ((u = u + 2 ∨ u = u + 3) ∨ (u = 26 ∧ _)); omega) (fun i => by show ¬ ((29 = u + 2 ∨ 29 = u + 3) ∨ (29 = 26 ∧ _)); omega) (fun i => by show ¬ ((30 = u + 2 ∨ 30 = u + 3) ∨ (30 = 26 ∧ _)); omega) hB
theorem s_placeOther {s cell W H bd : Int} {Cand : Int → Prop} {V : Int → Int} (hC : Cx σ u n S F F1) (hW : rI σ u 3 = W) (hW9 : 0 ≤ W ∧ W ≤ 9) (hH : rI σ u 4 = H) (hH9 : 0 ≤ H ∧ H ≤ 9) (hs : 0 ≤ s ∧ s < n) (hc : 0 ≤ cell ∧ cell < 100)
    (hCa : ∀ x y : Int, 0 ≤ x → x < 10 → 0 ≤ y → y < 10 → (Cand (100 * cell + x + 10 * y) ↔ (x < W ∧ y < H ∧ ∀ k : Int, k ≠ s → ¬ At (Dc (rI σ) u) n x y k)))
    (hV : ∀ x y : Int, 0 ≤ x → x < W → 0 ≤ y → y < H → V (100 * cell + x + 10 * y) = DueD (Dput (Dc (rI σ) u) s x y) n (rI σ (u + 1) 9) (1 + rI σ u 9) S F F1) (hV0 : ∀ c : Int, 0 ≤ V c)
    (hB : BestS (fun c => Cand c ∧ c < 100 * cell) V bd (rI σ 26 6) (rI σ 26 7)) :
    TV sc (d + 5) mX4_placeOther [.ref 26, .int (nZ s), .int (nZ cell)] σ (fun σ1 => Fr (AP u) σ σ1 ∧ DpEx s (Dc (rI σ) u) (Dc (rI σ1) u) ∧ BestS (fun c => Cand c ∧ c < 100 * cell + 100) V bd (rI σ1 26 6) (rI σ1 26 7)) := by
  have hm := hC.mk
  have h9 := hC.n9
  have hSt := hC.2.1.2.2.1
  apply T.void
  apply t_X4_placeOther hC.1 (by omega) (by omega)
  obtain ⟨P, hP⟩ : ∃ P : aO → aH → Prop, P = QV (fun σ1 => Fr (AP u) σ σ1 ∧ DpEx s (Dc (rI σ) u) (Dc (rI σ1) u) ∧ BestS (fun c => Cand c ∧ c < 100 * cell + 100) V bd (rI σ1 26 6) (rI σ1 26 7)) := ⟨_, rfl⟩
  rw [← hP]
  have loop : ∀ (g : Nat) (row : Int) (τ : aH), (H - row).toNat = g → 0 ≤ row → row ≤ H → Fr (AP u) σ τ → DpEx s (Dc (rI σ) u) (Dc (rI τ) u) → BestS (fun c => Cand c ∧ c < 100 * cell + 10 * row) V bd (rI τ 26 6) (rI τ 26 7) → L_X4_placeOther_22 (Ev sc (d + 4)) sc P u s cell row τ := by
    intro g
    induction g with
    | zero =>
      intro row τ hg r0 r1 hF hD hb
      have hst := hF.stay hm
      unfold Stay at hst
      apply v_X4_placeOther_22 (hF.g hC.1) (by omega) (by omega) (by omega)
      refine ⟨fun _ => ?_, fun q => by omega⟩
      rw [hP]
      refine ⟨rfl, hF, hD, hb.ext (by omega) (fun c q1 q2 q3 => ?_)⟩
      exfalso
      have e : c = 100 * cell + (c - 100 * cell) % 10 + 10 * ((c - 100 * cell) / 10) := by omega
      rw [e] at q1
      have := (hCa _ _ (by omega) (by omega) (by omega) (by omega)).mp q1
      omega
    | succ g ih =>
      intro row τ hg r0 r1 hF hD hb
      have nxt : ∀ (col : Int) (τ1 : aH), 0 ≤ col → col ≤ W → Fr (AP u) σ τ1 → DpEx s (Dc (rI σ) u) (Dc (rI τ1) u) → BestS (fun c => Cand c ∧ c < 100 * cell + col + 10 * row) V bd (rI τ1 26 6) (rI τ1 26 7) → (W ≤ col ∨ rI τ1 26 6 ≤ 0) → L_X4_placeOther_22 (Ev sc (d + 4)) sc P u s cell (row + 1) τ1 := by
        intro col τ1 c0 c1 hF1 hD1 hb1 hor
        refine ih (row + 1) τ1 (by omega) (by omega) (by omega) hF1 hD1 (hb1.ext (by omega) (fun c q1 q2 q3 => ?_))
        have e : c = 100 * cell + (c - 100 * cell - 10 * row) + 10 * row := by omega
        rw [e] at q1
        have hx := (hCa _ _ (by omega) (by omega) r0 (by omega)).mp q1
        have := hV0 c
        omega
      have inner : ∀ (f : Nat) (col : Int) (τ1 : aH), (W - col).toNat = f → 0 ≤ col → col ≤ W → Fr (AP u) σ τ1 → DpEx s (Dc (rI σ) u) (Dc (rI τ1) u) → BestS (fun c => Cand c ∧ c < 100 * cell + col + 10 * row) V bd (rI τ1 26 6) (rI τ1 26 7) → L_X4_placeOther_34 (Ev sc (d + 4)) sc P u s cell row col τ1 := by
        intro f
        induction f with
        | zero =>
          intro col τ1 hf c0 c1 hF1 hD1 hb1
          have hst := hF1.stay hm
          unfold Stay at hst
          apply v_X4_placeOther_34 (hF1.g hC.1) (by omega) (by omega) (by omega) (by omega)
          exact ⟨fun _ => ⟨by omega, nxt col τ1 c0 c1 hF1 hD1 hb1 (Or.inl (by omega))⟩, fun q => by omega⟩
        | succ f ihf =>
          intro col τ1 hf c0 c1 hF1 hD1 hb1
          have hst := hF1.stay hm
          unfold Stay at hst
          apply v_X4_placeOther_34 (hF1.g hC.1) (by omega) (by omega) (by omega) (by omega)
          refine ⟨fun q => by omega, fun q => ⟨fun q1 => ⟨by omega, nxt col τ1 c0 c1 hF1 hD1 hb1 (Or.inr q1)⟩, fun q1 => ?_⟩⟩
          have hn1 : rI τ1 (u + 1) 8 = n := (hF1.rw (by omega) (by show ¬ ((u + 1 = u + 2 ∨ u + 1 = u + 3) ∨ (u + 1 = 26 ∧ _)); omega)).trans hC.2.1.1
          obtain ⟨r7, σ3, he3, hr3, rfl, h3⟩ := s_isFreeBut (sc := sc) (d := d + 2) (s := s) (x := col) (y := row) (hF1.g hC.1) hn1 h9.2 h9.1 (by omega) (by omega) (by omega)
          have hAt : ∀ k : Int, k ≠ s → (At (Dc (rI σ3) u) n col row k ↔ At (Dc (rI σ) u) n col row k) := by
            intro k hk
            unfold At
            constructor
            · rintro ⟨a, b, c, e⟩; rw [hD1 0 k (by omega)] at c; rw [hD1 1 k (by omega)] at e; exact ⟨a, b, c, e⟩
            · rintro ⟨a, b, c, e⟩; rw [← hD1 0 k (by omega)] at c; rw [← hD1 1 k (by omega)] at e; exact ⟨a, b, c, e⟩
          refine ⟨r7, σ3, he3, hF1.g hC.1, hr3, fun q2 => ⟨by omega, ?_⟩, fun q2 => ?_⟩
          · refine ihf (col + 1) σ3 (by omega) (by omega) (by omega) hF1 hD1 (hb1.ext (by omega) (fun c p1 p2 p3 => ?_))
            exfalso
            have e : c = 100 * cell + col + 10 * row := by omega
            rw [e] at p1
            have hx := ((hCa col row c0 (by omega) r0 (by omega)).mp p1).2.2
            rcases h3 with h3 | h3
            · omega
            · exact h3.2 (fun k hk z => hx k hk ((hAt k hk).mp z))
          · have hfree : ∀ k : Int, k ≠ s → ¬ At (Dc (rI σ) u) n col row k := by
              rcases h3 with h3 | h3
              · exact fun k hk z => h3.2 k hk ((hAt k hk).mpr z)
              · omega
            have hcand : Cand (100 * cell + col + 10 * row) := (hCa col row c0 (by omega) r0 (by omega)).mpr ⟨by omega, by omega, hfree⟩
            refine ⟨σ3, s_stalls (hF1.g hC.1), hF1.g hC.1, ?_⟩
            obtain ⟨σ4, he4, hF4, hD4⟩ := s_put (sc := sc) (d := d + 3) (s := s) (x := col) (y := row) (hF1.g hC.1) hC.1.2.2.2.2 (by omega) (by omega) (by omega)
            have hF4' : Fr (AP u) σ σ4 := hF1.trans (hF4.weak (fun a i z => Or.inl z))
            have hst4 := hF4'.stay hm
            unfold Stay at hst4
            have hD4' : Dc (rI σ4) u = Dput (Dc (rI σ) u) s col row := hD4.trans (hD1.put col row)
            have hC4 : Cx σ4 u n S F F1 := hC.ap hF4' (by rw [hD4']; exact hSt.put (by omega) (by omega))
            refine ⟨σ4, he4, hF4'.g hC.1, by omega, by omega, by omega, by omega, ?_⟩
            obtain ⟨σ5, he5, hF5, h5⟩ := s_weighWay (sc := sc) (d := d) (x := 100 * cell + col + 10 * row) hC4 (by omega)
            have hF5' : Fr (AP u) σ σ5 := hF4'.trans (hF5.weak (fun a i z => Or.inr z))
            have hD5 : Dc (rI σ5) u = Dc (rI σ4) u := Dc_congr (fun a p q => hF5.row (fun i => by show ¬ (a = 26 ∧ _); omega))
            refine ⟨σ5, he5, hF5'.g hC.1, by omega, ?_⟩
            have hv : V (100 * cell + col + 10 * row) = DueD (Dc (rI σ4) u) n (rI σ4 (u + 1) 9) (1 + rI σ4 u 9) S F F1 := by
              rw [hV col row c0 (by omega) r0 (by omega), hD4', hst4.2.2.2, hst4.2.2.1]
            have e6 : rI σ4 26 6 = rI σ3 26 6 := hF4.rw (by omega) (by show ¬ (26 = u + 2 ∨ 26 = u + 3); omega)
            have e7 : rI σ4 26 7 = rI σ3 26 7 := hF4.rw (by omega) (by show ¬ (26 = u + 2 ∨ 26 = u + 3); omega)
            refine ihf (col + 1) σ5 (by omega) (by omega) (by omega) hF5' (by rw [hD5, hD4']; exact DpEx.of) ?_
            rw [← hv, e6] at h5
            rw [show 100 * cell + (col + 1) + 10 * row = (100 * cell + col + 10 * row) + 1 by omega]
            rcases h5 with ⟨p1, p2, p3⟩ | ⟨p1, p2⟩
            · rw [p2, p3]; exact hb1.take hcand p1
            · subst p2
              rw [e6, e7]
              refine hb1.ext (by omega) (fun c z1 z2 z3 => ?_)
              have e : c = 100 * cell + col + 10 * row := by omega
              rw [e]; exact p1
      have hst := hF.stay hm
      unfold Stay at hst
      apply v_X4_placeOther_22 (hF.g hC.1) (by omega) (by omega) (by omega)
      exact ⟨fun q => by omega, fun q => inner _ 0 τ rfl (by omega) (by omega) hF hD (by rw [show 100 * cell + 0 + 10 * row = 100 * cell + 10 * row by omega]; exact hb)⟩
  refine ⟨fun _ => loop _ 0 σ rfl (by omega) (by omega) (Fr.refl _ _) (DpEx.refl _ _) (by rw [show 100 * cell + 10 * 0 = 100 * cell by omega]; exact hB), fun q => by omega⟩
theorem s_placeOther1 {cell bd : Int} {Cand : Int → Prop} {V : Int → Int} (hC : Cx σ u n S F F1) (hc : 0 ≤ cell ∧ cell < 100) (hCa : Cand cell) (hV : V cell = DueD (Dc (rI σ) u) n (rI σ (u + 1) 9) (1 + rI σ u 9) S F F1) (hB : BestS (fun c => Cand c ∧ c < cell) V bd (rI σ 26 6) (rI σ 26 7)) :
    TV sc (d + 5) mX4_placeOther [.ref 26, .int (nZ (-1)), .int (nZ cell)] σ (fun σ1 => Fr (AP u) σ σ1 ∧ DpEx (-1) (Dc (rI σ) u) (Dc (rI σ1) u) ∧ BestS (fun c => Cand c ∧ c < cell + 1) V bd (rI σ1 26 6) (rI σ1 26 7)) := by
  have hm := hC.mk
  apply T.void
  apply t_X4_placeOther hC.1 (by decide) (by omega)
  refine ⟨fun q => absurd rfl q, fun _ => ?_⟩
  obtain ⟨σ5, he5, hF5, h5⟩ := s_weighWay (sc := sc) (d := d) (x := cell) hC (by omega)
  have hD5 : Dc (rI σ5) u = Dc (rI σ) u := Dc_congr (fun a p q => hF5.row (fun i => by show ¬ (a = 26 ∧ _); omega))
  refine ⟨σ5, he5, hF5.g hC.1, rfl, hF5.weak (fun a i z => Or.inr z), by rw [hD5]; exact DpEx.refl _ _, ?_⟩
  rw [← hV] at h5
  rcases h5 with ⟨p1, p2, p3⟩ | ⟨p1, p2⟩
  · rw [p2, p3]; exact hB.take hCa p1
  · subst p2
    refine hB.ext (by omega) (fun c z1 z2 z3 => ?_)
    have e : c = cell := by omega
    rw [e]; exact p1
end
