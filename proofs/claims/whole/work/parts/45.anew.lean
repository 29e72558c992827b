/-! PLANS: one or two stalls put anew. -/
/-- no two stalls in one cell -/
def Dst (D : Nat → Int → Int) (n : Int) : Prop := ∀ x y i j : Int, At D n x y i → At D n x y j → i = j
def Fr2 (D : Nat → Int → Int) (n one other x y : Int) : Prop := ∀ k : Int, k ≠ one → k ≠ other → ¬ At D n x y k
abbrev AQ (u : Nat) : Nat → Int → Prop := fun a i => AP u a i ∨ a = 55 ∨ a = 56
section
variable {sc : Nat × (Nat → Int32)} {d : Nat} {σ : aH} {u : Nat} {n : Int} {S F F1 : Int → Int}
theorem s_back {τ : aH} (hG : G σ u) (hF : Fr (AP u) σ τ) (hK : ∀ i : Int, 0 ≤ i → i < 9 → rI σ 55 i = rI σ (u + 2) i ∧ rI σ 56 i = rI σ (u + 3) i) (h9 : ∀ i : Int, 9 ≤ i → rI τ (u + 2) i = rI σ (u + 2) i ∧ rI τ (u + 3) i = rI σ (u + 3) i) : TV sc (d + 2) mX4_putCellsBack [.ref 26] τ (fun σ1 => Fr (AP u) σ σ1 ∧ Dc (rI σ1) u = Dc (rI σ) u ∧ rI σ1 26 6 = rI τ 26 6 ∧ rI σ1 26 7 = rI τ 26 7) := by
  have hm := hG.2.2.2.2
  unfold IsMk at hm
  obtain ⟨σ1, he, hF1, h1⟩ := s_putCellsBack (sc := sc) (d := d) (hF.g hG)
  have hF2 : Fr (AP u) σ σ1 := hF.trans (hF1.weak (fun a i z => Or.inl z))
  have k55 : ∀ i : Int, 0 ≤ i → rI τ 55 i = rI σ 55 i ∧ rI τ 56 i = rI σ 56 i := fun i i0 => ⟨hF.rw i0 (by show ¬ ((55 = u + 2 ∨ 55 = u + 3) ∨ (55 = 26 ∧ _)); omega), hF.rw i0 (by show ¬ ((56 = u + 2 ∨ 56 = u + 3) ∨ (56 = 26 ∧ _)); omega)⟩
  have r2 : rI σ1 (u + 2) = rI σ (u + 2) := by
    funext i
    rw [rI_tn σ1, rI_tn σ, (h1 _ (by omega)).1]
    by_cases c : (i.toNat : Int) < 9
    · rw [if_pos c, (k55 _ (by omega)).1]; exact (hK _ (by omega) c).1
    · rw [if_neg c]; exact (h9 _ (by omega)).1
  have r3 : rI σ1 (u + 3) = rI σ (u + 3) := by
    funext i
    rw [rI_tn σ1, rI_tn σ, (h1 _ (by omega)).2]
    by_cases c : (i.toNat : Int) < 9
    · rw [if_pos c, (k55 _ (by omega)).2]; exact (hK _ (by omega) c).2
    · rw [if_neg c]; exact (h9 _ (by omega)).2
  refine ⟨σ1, he, hF2, Dc_congr (fun a p q => ?_), hF1.rw (by omega) (by show ¬ (26 = u + 2 ∨ 26 = u + 3); omega), hF1.rw (by omega) (by show ¬ (26 = u + 2 ∨ 26 = u + 3); omega)⟩
  by_cases e2 : a = u + 2
  · rw [e2]; exact r2
  · by_cases e3 : a = u + 3
    · rw [e3]; exact r3
    · exact hF2.row (fun i => by show ¬ ((a = u + 2 ∨ a = u + 3) ∨ (a = 26 ∧ _)); omega)
theorem s_placeAnewG {one other W H : Int} {Cand : Int → Prop} {V b : Int → Int} (hC : Cx σ u n S F F1) (hW : rI σ u 3 = W) (hW9 : 0 ≤ W ∧ W ≤ 9) (hH : rI σ u 4 = H) (hH9 : 0 ≤ H ∧ H ≤ 9) (h1 : 0 ≤ one ∧ one < n) (h2 : -1 ≤ other ∧ other < n) (hDst : Dst (Dc (rI σ) u) n)
    (hb : ∀ p q : Int, p ≤ q → b p ≤ b q) (hb0 : b 0 = 0)
    (hCa : ∀ c : Int, Cand c → ∃ x y : Int, (0 ≤ x ∧ x < W) ∧ (0 ≤ y ∧ y < H) ∧ Fr2 (Dc (rI σ) u) n one other x y ∧ b (x + 10 * y) ≤ c ∧ c < b (x + 10 * y + 1))
    (hV0 : ∀ c : Int, 0 ≤ V c)
    (hStep : ∀ (x y : Int) (τ : aH), (0 ≤ x ∧ x < W) → (0 ≤ y ∧ y < H) → Fr2 (Dc (rI σ) u) n one other x y → Cx τ u n S F F1 → Stay σ τ u → Dc (rI τ) u = Dput (Dc (rI σ) u) one x y → BestS (fun c => Cand c ∧ c < b (x + 10 * y)) V 1000000000 (rI τ 26 6) (rI τ 26 7) → TV sc (d + 5) mX4_placeOther [.ref 26, .int (nZ other), .int (nZ (x + 10 * y))] τ (fun σ1 => Fr (AP u) τ σ1 ∧ DpEx other (Dc (rI τ) u) (Dc (rI σ1) u) ∧ BestS (fun c => Cand c ∧ c < b (x + 10 * y + 1)) V 1000000000 (rI σ1 26 6) (rI σ1 26 7))) :
    TV sc (d + 6) mX4_placeAnew [.ref 26, .int (nZ one), .int (nZ other)] σ (fun σ1 => Fr (AQ u) σ σ1 ∧ Dc (rI σ1) u = Dc (rI σ) u ∧ BestS Cand V 1000000000 (rI σ1 26 6) (rI σ1 26 7)) := by
  have hm := hC.mk
  have hn9 := hC.n9
  have hSt := hC.2.1.2.2.1
  apply T.void
  apply t_X4_placeAnew hC.1 (by omega) (by omega)
  obtain ⟨σ1, he1, hF1, hK1⟩ := s_keepCells (sc := sc) (d := d + 3) hC.1
  refine ⟨σ1, he1, hF1.g hC.1, ?_⟩
  obtain ⟨σ5, he5, hF5, hb6, hb7⟩ := s_startSearch (sc := sc) (d := d + 4) (hF1.g hC.1)
  have hG5 : G σ5 u := hF5.g (hF1.g hC.1)
  refine ⟨σ5, he5, hG5, ?_⟩
  have hF05 : Fr (AQ u) σ σ5 := (hF1.weak (fun a i z => Or.inr z)).trans (hF5.weak (fun a i z => Or.inl (Or.inr z)))
  have hAQ : ∀ (a : Nat) (i : Int), (u ≤ a ∧ a ≤ u + 1) ∨ (u + 4 ≤ a ∧ a ≤ u + 15) ∨ a = 29 ∨ a = 30 → ¬ AQ u a i := fun a i q => by show ¬ (((a = u + 2 ∨ a = u + 3) ∨ (a = 26 ∧ _)) ∨ a = 55 ∨ a = 56); omega
  have hD5 : Dc (rI σ5) u = Dc (rI σ) u := (Dc_congr (fun a p q => hF5.row (fun i => by show ¬ (a = 26 ∧ _); omega))).trans (Dc_congr (fun a p q => hF1.row (fun i => by show ¬ (a = 55 ∨ a = 56); omega)))
  have hK5 : ∀ i : Int, 0 ≤ i → i < 9 → rI σ5 55 i = rI σ5 (u + 2) i ∧ rI σ5 56 i = rI σ5 (u + 3) i := by
    intro i i0 i9
    have q : ∀ a : Nat, a ≠ 26 → rI σ5 a i = rI σ1 a i := fun a ha => hF5.rw i0 (by show ¬ (a = 26 ∧ _); omega)
    have q1 : ∀ a : Nat, a = u + 2 ∨ a = u + 3 → rI σ1 a i = rI σ a i := fun a ha => hF1.rw i0 (by show ¬ (a = 55 ∨ a = 56); omega)
    rw [q 55 (by omega), q 56 (by omega), q (u + 2) (by omega), q (u + 3) (by omega), q1 _ (Or.inl rfl), q1 _ (Or.inr rfl)]
    exact hK1 i i0 i9
  have hst5 : Stay σ σ5 u := ⟨hF05.rw (by omega) (hAQ _ _ (by omega)), hF05.rw (by omega) (hAQ _ _ (by omega)), hF05.rw (by omega) (hAQ _ _ (by omega)), hF05.rw (by omega) (hAQ _ _ (by omega))⟩
  have hC5 : Cx σ5 u n S F F1 := hC.fr hF05 (hAQ _ _ (by omega)) (hAQ _ _ (by omega)) (fun i => hAQ _ _ (by omega)) (fun i => hAQ _ _ (by omega)) (by rw [hD5]; exact hSt)
  obtain ⟨P, hP⟩ : ∃ P : aO → aH → Prop, P = QV (fun σ1 => Fr (AQ u) σ σ1 ∧ Dc (rI σ1) u = Dc (rI σ) u ∧ BestS Cand V 1000000000 (rI σ1 26 6) (rI σ1 26 7)) := ⟨_, rfl⟩
  rw [← hP]
  have cell : ∀ c k : Int, Cand c → b k ≤ c → c < b (k + 1) → ∃ x y : Int, (0 ≤ x ∧ x < W) ∧ (0 ≤ y ∧ y < H) ∧ Fr2 (Dc (rI σ) u) n one other x y ∧ x + 10 * y = k := by
    intro c k hc p1 p2
    obtain ⟨x, y, hx, hy, hf, q1, q2⟩ := hCa c hc
    refine ⟨x, y, hx, hy, hf, ?_⟩
    by_cases e1 : x + 10 * y < k
    · have := hb (x + 10 * y + 1) k (by omega); omega
    · by_cases e2 : k < x + 10 * y
      · have := hb (k + 1) (x + 10 * y) (by omega); omega
      · omega
  have skip : ∀ (k l : Int) (val code : Int), k ≤ l → BestS (fun c => Cand c ∧ c < b k) V 1000000000 val code → (∀ x y : Int, (0 ≤ x ∧ x < W) → (0 ≤ y ∧ y < H) → Fr2 (Dc (rI σ) u) n one other x y → k ≤ x + 10 * y → x + 10 * y < l → val ≤ 0) → BestS (fun c => Cand c ∧ c < b l) V 1000000000 val code := by
    intro k l val code hkl hbst hno
    refine hbst.ext (hb k l hkl) (fun c q1 q2 q3 => ?_)
    obtain ⟨x, y, hx, hy, hf, p1, p2⟩ := hCa c q1
    have a1 : k ≤ x + 10 * y := by
      by_cases e : k ≤ x + 10 * y
      · exact e
      · have := hb (x + 10 * y + 1) k (by omega); omega
    have a2 : x + 10 * y < l := by
      by_cases e : x + 10 * y < l
      · exact e
      · have := hb l (x + 10 * y) (by omega); omega
    have := hno x y hx hy hf a1 a2
    have := hV0 c
    omega
  have loop : ∀ (g : Nat) (row : Int) (τ : aH), (H - row).toNat = g → 0 ≤ row → row ≤ H → Fr (AP u) σ5 τ → Dc (rI τ) u = Dc (rI σ) u → BestS (fun c => Cand c ∧ c < b (10 * row)) V 1000000000 (rI τ 26 6) (rI τ 26 7) → L_X4_placeAnew_19 (Ev sc (d + 5)) sc P u one other row τ := by
    intro g
    induction g with
    | zero =>
      intro row τ hg r0 r1 hF hD hbs
      have hst := hF.stay hm
      unfold Stay at hst hst5
      apply v_X4_placeAnew_19 (hF.g hG5) (by omega) (by omega) (by omega)
      refine ⟨fun _ => ?_, fun q => by omega⟩
      rw [hP]
      refine ⟨rfl, hF05.trans (hF.weak (fun a i z => Or.inl z)), hD, hbs.done (fun c hc => ?_)⟩
      obtain ⟨x, y, hx, hy, hf, p1, p2⟩ := hCa c hc
      have := hb (x + 10 * y + 1) (10 * row) (by omega)
      omega
    | succ g ih =>
      intro row τ hg r0 r1 hF hD hbs
      have nxt : ∀ (col : Int) (τ1 : aH), 0 ≤ col → col ≤ W → Fr (AP u) σ5 τ1 → Dc (rI τ1) u = Dc (rI σ) u → BestS (fun c => Cand c ∧ c < b (col + 10 * row)) V 1000000000 (rI τ1 26 6) (rI τ1 26 7) → (W ≤ col ∨ rI τ1 26 6 ≤ 0) → L_X4_placeAnew_19 (Ev sc (d + 5)) sc P u one other (row + 1) τ1 := by
        intro col τ1 c0 c1 hF1 hD1 hb1 hor
        refine ih (row + 1) τ1 (by omega) (by omega) (by omega) hF1 hD1 (skip (col + 10 * row) (10 * (row + 1)) _ _ (by omega) hb1 (fun x y hx hy hf p1 p2 => by omega))
      have inner : ∀ (f : Nat) (col : Int) (τ1 : aH), (W - col).toNat = f → 0 ≤ col → col ≤ W → Fr (AP u) σ5 τ1 → Dc (rI τ1) u = Dc (rI σ) u → BestS (fun c => Cand c ∧ c < b (col + 10 * row)) V 1000000000 (rI τ1 26 6) (rI τ1 26 7) → L_X4_placeAnew_31 (Ev sc (d + 5)) sc P u one other row col τ1 := by
        intro f
        induction f with
        | zero =>
          intro col τ1 hf c0 c1 hF1 hD1 hb1
          have hst := hF1.stay hm
          unfold Stay at hst hst5
          apply v_X4_placeAnew_31 (hF1.g hG5) (by omega) (by omega) (by omega) (by omega)
          exact ⟨fun _ => ⟨by omega, nxt col τ1 c0 c1 hF1 hD1 hb1 (Or.inl (by omega))⟩, fun q => by omega⟩
        | succ f ihf =>
          intro col τ1 hf c0 c1 hF1 hD1 hb1
          have hst := hF1.stay hm
          have hst' := hst
          unfold Stay at hst'
          have hst5' := hst5
          unfold Stay at hst5'
          have hGτ := hF1.g hG5
          apply v_X4_placeAnew_31 hGτ (by omega) (by omega) (by omega) (by omega)
          refine ⟨fun q => by omega, fun q => ⟨fun q1 => ⟨by omega, nxt col τ1 c0 c1 hF1 hD1 hb1 (Or.inr q1)⟩, fun q1 => ?_⟩⟩
          refine ⟨τ1, s_stalls hGτ, hGτ, ?_⟩
          have hn1 : rI τ1 (u + 1) 8 = n := (hF1.rw (by omega) (by show ¬ ((u + 1 = u + 2 ∨ u + 1 = u + 3) ∨ (u + 1 = 26 ∧ _)); omega)).trans hC5.2.1.1
          obtain ⟨r11, σ7, he7, hr7, rfl, h7⟩ := s_whoIsAt (sc := sc) (d := d + 4) (v := u) (x := col) (y := row) hGτ hC.1.2.2.2.2 hn1 hn9.2 hn9.1 (by omega) (by omega)
          rw [hD1] at h7
          refine ⟨r11, σ7, he7, hGτ, hr7, ?_⟩
          obtain ⟨r16, σ8, he8, hr8, rfl, h8⟩ := s_isFreeFor (sc := sc) (d := d + 4) (who := r11) (one := one) (other := other) hGτ hr7 (by omega) (by omega)
          have hfr : (r11 = -1 ∨ r11 = one ∨ r11 = other) ↔ Fr2 (Dc (rI σ) u) n one other col row := by
            constructor
            · intro z k k1 k2 hk
              rcases h7 with h7 | h7
              · exact h7.2 k hk
              · have e := hDst _ _ _ _ h7.1 hk
                have := h7.1.1
                omega
            · intro z
              rcases h7 with h7 | h7
              · exact Or.inl h7.1
              · by_cases e1 : r11 = one
                · exact Or.inr (Or.inl e1)
                · by_cases e2 : r11 = other
                  · exact Or.inr (Or.inr e2)
                  · exact absurd h7.1 (z r11 e1 e2)
          refine ⟨r16, σ8, he8, hGτ, hr8, fun q2 => ?_, fun q2 => ?_⟩
          · obtain ⟨σ9, he9, hF9, hD9, e6, e7⟩ := s_back (sc := sc) (d := d + 3) hG5 hF1 hK5 (fun i i9 => ⟨by have := congrFun (congrFun (hD1.trans hD5.symm) 0) i; exact this, by have := congrFun (congrFun (hD1.trans hD5.symm) 1) i; exact this⟩)
            refine ⟨σ9, he9, hF9.g hG5, by omega, ?_⟩
            refine ihf (col + 1) σ9 (by omega) (by omega) (by omega) hF9 (hD9.trans hD5) ?_
            rw [e6, e7]
            refine skip (col + 10 * row) (col + 1 + 10 * row) _ _ (by omega) hb1 (fun x y hx hy hf p1 p2 => ?_)
            exfalso
            have ex : x = col ∧ y = row := by omega
            rw [ex.1, ex.2] at hf
            have := hfr.mpr hf
            omega
          · have hfree : Fr2 (Dc (rI σ) u) n one other col row := hfr.mp (by omega)
            refine ⟨σ8, s_stalls hGτ, hGτ, ?_⟩
            obtain ⟨σ4, he4, hF4, hD4⟩ := s_put (sc := sc) (d := d + 4) (s := one) (x := col) (y := row) hGτ hC.1.2.2.2.2 (by omega) (by omega) (by omega)
            have hF4' : Fr (AP u) σ5 σ4 := hF1.trans (hF4.weak (fun a i z => Or.inl z))
            have hst4 := hF4'.stay hm
            rw [hD1] at hD4
            have hC4 : Cx σ4 u n S F F1 := hC5.ap hF4' (by rw [hD4]; exact hSt.put (by omega) (by omega))
            have hst04 : Stay σ σ4 u := ⟨hst4.1.trans hst5.1, hst4.2.1.trans hst5.2.1, hst4.2.2.1.trans hst5.2.2.1, hst4.2.2.2.trans hst5.2.2.2⟩
            refine ⟨σ4, he4, hF4'.g hG5, by omega, by omega, ?_⟩
            have e6 : rI σ4 26 6 = rI σ8 26 6 := hF4.rw (by omega) (by show ¬ (26 = u + 2 ∨ 26 = u + 3); omega)
            have e7 : rI σ4 26 7 = rI σ8 26 7 := hF4.rw (by omega) (by show ¬ (26 = u + 2 ∨ 26 = u + 3); omega)
            obtain ⟨σ6, he6, hF6, hD6, hb6'⟩ := hStep col row σ4 (by omega) (by omega) hfree hC4 hst04 hD4 (by rw [e6, e7]; exact hb1)
            have hF6' : Fr (AP u) σ5 σ6 := hF4'.trans hF6
            refine ⟨σ6, he6, hF6'.g hG5, ?_⟩
            have far : ∀ (f : Nat) (i : Int), 9 ≤ i → Dc (rI σ6) u f i = Dc (rI σ5) u f i := by
              intro f i i9
              rw [hD6 f i (by omega), hD4, Dput_ne (by omega), hD5]
            obtain ⟨σ9, he9, hF9, hD9, f6, f7⟩ := s_back (sc := sc) (d := d + 3) hG5 hF6' hK5 (fun i i9 => ⟨far 0 i i9, far 1 i i9⟩)
            refine ⟨σ9, he9, hF9.g hG5, by omega, ?_⟩
            refine ihf (col + 1) σ9 (by omega) (by omega) (by omega) hF9 (hD9.trans hD5) ?_
            rw [f6, f7, show col + 1 + 10 * row = col + 10 * row + 1 by omega]
            exact hb6'
      have hst := hF.stay hm
      have hst5' := hst5
      unfold Stay at hst hst5'
      apply v_X4_placeAnew_19 (hF.g hG5) (by omega) (by omega) (by omega)
      exact ⟨fun q => by omega, fun q => inner _ 0 τ rfl (by omega) (by omega) hF hD (by rw [show 0 + 10 * row = 10 * row by omega]; exact hbs)⟩
  refine loop _ 0 σ5 rfl (by omega) (by omega) (Fr.refl _ _) hD5 ?_
  rw [hb6, hb7]
  refine BestS.start (fun c hc => ?_)
  obtain ⟨x, y, hx, hy, hf, p1, p2⟩ := hCa c hc
  have := hb (10 * 0) (x + 10 * y) (by omega)
  omega
end
