/-! minutes weighed; first shade; hours; folding; lanterns -/
theorem Wp_F0 {S : Int → Int} {e s : Int} : Wp S (fun _ => 0) e s = 0 := by
  unfold Wp
  exact sm_eq0 (fun t _ _ => by by_cases c : t < e ∧ S t = s; exact cif_pos c; exact cif_neg c)
theorem W1_F0 {S : Int → Int} {s : Int} : W1 S (fun _ => 0) s = 0 := by
  unfold W1
  exact sm_eq0 (fun t _ _ => by by_cases c : S t / 10 = s / 10 ∧ s ≤ S t; exact cif_pos c; exact cif_neg c)
theorem sm_one : ∀ k : Nat, sm one k = k
  | 0 => sm_0 _
  | k + 1 => by rw [sm_succ, sm_one k]; rfl
theorem Fn_one {t : Int} (h0 : 0 ≤ t) (h1 : t < 1440) : Fn one 0 1440 t = one t := cif_pos ⟨h0, h1⟩
theorem min_num {p fo q z : Int} (hp : 0 ≤ p) (hq : q ≤ 1440) (e : z = min fo q) (hf : fo ≤ 1440) : (z ≤ p → sm (Fn one (max 0 p) (min (min 1440 fo) q)) 1440 = 0) ∧ (¬ z ≤ p → sm (Fn one (max 0 p) (min (min 1440 fo) q)) 1440 = z - p) := by
  rw [show max 0 p = p by omega, show min (min 1440 fo) q = z by omega]
  refine ⟨fun g => sm_Fn0 g, fun g => ?_⟩
  rw [sm_Fn hp (by omega) (by omega), sm_one, sm_one]; omega
section
variable {sc : Nat × (Nat → Int32)} {d : Nat} {σ : aH} {u v w : Nat} {n : Int} {Es Er : Nat → Option Int}
theorem s_weighMinutes (hG : G σ u) (hv : IsMk v) (hw : IsWt w) (hM : MkT (rI σ) v Es Er) : TV sc (d + 2) mX2_weighMinutes [.ref v, .ref w] σ (fun σ1 => Fr (AW w) σ σ1 ∧ WtS (rI σ1) w (sT Es (rI σ v 5)) one (fun _ => 0)) := by
  obtain ⟨hs, hr, hes, her, hfo, hdu⟩ := hM
  have hB : ∀ t, 0 ≤ Fn one 0 1440 t ∧ Fn one 0 1440 t ≤ 9 := Fn_bd (by omega) F9_one
  have k0 := hs.1
  have k1 := hs.2.1
  apply T.void
  apply t_X2_weighMinutes hG hv hw
  obtain ⟨σ1, he, hF, hz⟩ := s_clear (sc := sc) (d := d) hG hw
  refine ⟨σ1, he, hF.g hG, ?_⟩
  have loop : ∀ (f : Nat) (i : Int) (τ : aH), (rI σ (v + 10) 2 - i).toNat = f → 0 ≤ i → i ≤ rI σ (v + 10) 2 → Fr (AW w) σ τ → (∀ s : Int, 0 ≤ s → s < 90 → rI τ (w + 1) s = Wp (sT Es (rI σ v 5)) (Fn one 0 1440) (beg (rI σ) (v + 10) i) s ∧ rI τ (w + 2) s = 0) → L_X2_weighMinutes_6 (Ev sc (d + 1)) sc (QV (fun σ1 => Fr (AW w) σ σ1 ∧ WtS (rI σ1) w (sT Es (rI σ v 5)) one (fun _ => 0))) v w i τ := by
    intro f
    induction f with
    | zero =>
      intro i τ hf i0 i1 hF hz
      have c0 : rI τ (v + 10) 2 = rI σ (v + 10) 2 := hF.rw (by omega) (AW_mk hv hw _ _ (by omega))
      apply v_X2_weighMinutes_6 (hF.g hG) hv hw (by omega)
      refine ⟨fun g => ?_, fun g => by omega⟩
      have eb : beg (rI σ) (v + 10) i = 1440 := by unfold beg; rw [if_neg (by omega)]
      rw [eb] at hz
      have e1 : ∀ s, W1 (sT Es (rI σ v 5)) (Fn one 0 1440) s = W1 (sT Es (rI σ v 5)) one s := by
        intro s
        unfold W1
        refine sm_congr (fun t t0 t1 => ?_)
        rw [Fn_one t0 t1]
      obtain ⟨σ2, he2, hF2, hz2⟩ := s_heap (sc := sc) (d := d) (A1 := W1 (sT Es (rI σ v 5)) (Fn one 0 1440)) (B1 := fun _ => 0) (B := fun _ => 0) (hF.g hG) hw (fun s s0 s1 => by rw [← Wp_full]; exact hz s s0 s1)
        (fun s => by have e1 := W1_bd (S := sT Es (rI σ v 5)) (s := s) (by omega) hB; exact ⟨by omega, by decide⟩) (fun s h => ⟨W1_9 h, rfl⟩) (fun s h => ⟨W1_s h, rfl⟩)
      refine ⟨σ2, he2, (hF.trans hF2).g hG, rfl, hF.trans hF2, fun s s0 s1 => ?_⟩
      rw [W1_F0, ← e1]
      exact hz2 s s0 s1
    | succ f ih =>
      intro i τ hf i0 i1 hF hz
      have rd : ∀ (x : Nat) (y : Int), v ≤ x → x ≤ v + 15 → 0 ≤ y → rI τ x y = rI σ x y := fun x y h1 h2 h3 => hF.rw h3 (AW_mk hv hw x y ⟨h1, h2⟩)
      have b1 := hs.2.2.1 i i0 (by omega)
      have b2 : 0 ≤ rI σ (v + 11) i ∧ rI σ (v + 11) i < 1440 := ⟨b1.1, b1.2.1⟩
      have b3 : 0 ≤ rI σ (v + 12) i ∧ rI σ (v + 12) i ≤ 89 := hes _ _ b1.2.2
      have c0 := rd (v + 10) 2 (by omega) (by omega) (by omega)
      have c1 := rd (v + 11) i (by omega) (by omega) i0
      have c2 := rd v 5 (by omega) (by omega) (by omega)
      have c4 := rd (v + 12) i (by omega) (by omega) i0
      have c5 := rd (v + 11) (i + 1) (by omega) (by omega) (by omega)
      have eb : beg (rI σ) (v + 10) i = rI σ (v + 11) i := by unfold beg; rw [if_pos (by omega)]
      apply v_X2_weighMinutes_6 (hF.g hG) hv hw (by omega)
      refine ⟨fun g => by omega, fun g => ?_⟩
      obtain ⟨r15, τ1, he1, hr1, rfl, q1, q2⟩ := s_endOf (sc := sc) (d := d) (i := i) (hF.g hG) (IsMk.ch hv).1 (by omega) (by omega)
      have er : r15 = beg (rI σ) (v + 10) (i + 1) := by
        unfold beg
        by_cases c : i + 1 < rI σ (v + 10) 2
        · rw [if_pos c, q1 (by omega)]; exact c5
        · rw [if_neg c, q2 (by omega)]
      have q5 : rI σ (v + 10 + 1) (i + 1) = rI σ (v + 11) (i + 1) := rfl
      have q6 : rI σ (v + 10 + 1) i = rI σ (v + 11) i := rfl
      have q7 : rI τ1 (v + 10 + 1) (i + 1) = rI τ1 (v + 11) (i + 1) := rfl
      have hord : rI σ (v + 11) i ≤ r15 ∧ r15 ≤ 1440 := by
        by_cases c : i + 1 < rI σ (v + 10) 2
        · have q3 := hs.2.2.2.1 i (i + 1) i0 (by omega) c
          have q4 := hs.2.2.1 (i + 1) (by omega) c
          omega
        · omega
      have st := fun (s : Int) (h : 0 ≤ s) => Wp_step (S := sT Es (rI σ v 5)) (R := one) (a := 0) (b := 1440) (p := rI σ (v + 11) i) (q := r15) (fold := rI σ v 5) (v := rI σ (v + 12) i) h hord.1 (fun t t1 t2 => sT_step hs i0 (by omega) t1 (fun hc => by omega))
      rw [eb] at hz
      have hi1 : inR (i + 1) := by omega
      have hi9 : 0 ≤ i ∧ i < 20 := by omega
      have hi2 : (rI σ (v + 10) 2 - (i + 1)).toNat = f ∧ 0 ≤ i + 1 ∧ i + 1 ≤ rI σ (v + 10) 2 := by omega
      have hq1440 := hord.2
      clear q1 q2 c5 c0 eb hord hf i1 g k0 k1
      refine ⟨r15, τ1, he1, hF.g hG, hr1, fun z10 e10 => ⟨hi9, ?_⟩⟩
      rw [c1, c4]
      rw [c2] at e10
      have nm := min_num b2.1 hq1440 e10 hfo.2
      refine ⟨fun g1 => ⟨hi1, ?_⟩, fun g1 => ⟨hi9, hi9, by omega, ?_⟩⟩
      · refine ih (i + 1) τ1 hi2.1 hi2.2.1 hi2.2.2 hF (fun s s0 s1 => ?_)
        rw [← er, st s s0, nm.1 g1, ite_self, Int.add_zero]
        exact hz s s0 s1
      · have p1 := Wp_bd (S := sT Es (rI σ v 5)) (e := rI σ (v + 11) i) (s := rI σ (v + 12) i) (by omega) hB
        have p3 := hz (rI σ (v + 12) i) b3.1 (by omega)
        obtain ⟨τ5, he5, hF5, hz5⟩ := s_wadd (sc := sc) (d := d) (x := rI σ (v + 12) i) (y := z10 - rI σ (v + 11) i) (z := 0) (hF.g hG) hw (by omega) (by omega) (by omega) (by omega) (by omega)
        refine ⟨τ5, he5, (hF.trans hF5).g hG, hi1, ?_⟩
        refine ih (i + 1) τ5 hi2.1 hi2.2.1 hi2.2.2 (hF.trans hF5) (fun s s0 s1 => ?_)
        have u1 := hz s s0 s1
        have u2 := hz5 s s0 s1
        rw [← er, st s s0, nm.2 g1, u2.1, u2.2, u1.1, u1.2, ite_self]
        exact ⟨rfl, rfl⟩
  refine loop _ 0 σ1 rfl (by omega) k0 hF (fun s s0 s1 => ?_)
  have nz : ∀ t : Int, 0 ≤ t → t < beg (rI σ) (v + 10) 0 → ¬ sT Es (rI σ v 5) t = s := by
    intro t t0 t1
    unfold sT
    by_cases c : t < rI σ v 5
    · rw [if_pos c, hs.first (-1) t0 (fun q => by unfold beg at t1; rw [if_pos q] at t1; exact t1)]; omega
    · rw [if_neg c]; omega
  rw [Wp_zero nz]
  exact hz s s0 s1
theorem sT_bd {fold : Int} (hE : ∀ t x, Es t = some x → 0 ≤ x ∧ x ≤ 89) : SB (sT Es fold) := by
  intro t
  unfold sT
  by_cases c : t < fold
  · rw [if_pos c]; exact att_bd (by decide) (fun t x q => by have := hE t x q; omega) t.toNat
  · rw [if_neg c]; decide
/-- the first minute from t on at which U -/
def FirstS (U : Int → Prop) (t r : Int) : Prop := (r = -1 ∧ ∀ q : Int, t ≤ q → q < 1440 → ¬ U q) ∨ ((t ≤ r ∧ r < 1440) ∧ U r ∧ ∀ q : Int, t ≤ q → q < r → ¬ U q)
theorem s_firstShade {t : Int} (hG : G σ u) (hSh : Sh σ u n) (hM : MkT (rI σ) u Es Er) (ht : 0 ≤ t ∧ t < 1440) : TI sc (d + 6) mX6_firstShade [.ref 27, .int (nZ t)] σ (fun r σ1 => σ1 = σ ∧ FirstS (fun q => Under (FaC (rI σ) u n) n (sT Es (rI σ u 5) q)) t r) := by
  obtain ⟨hs, hr, hes, her, hfo, hdu⟩ := hM
  have k0 := hs.1
  have k1 := hs.2.1
  have hv := hG.2.2.2.2
  apply T.int
  apply t_X6_firstShade hG (by omega)
  have loop : ∀ (f : Nat) (i : Int), (rI σ (u + 10) 2 - i).toNat = f → 0 ≤ i → i ≤ rI σ (u + 10) 2 → (∀ q : Int, t ≤ q → q < beg (rI σ) (u + 10) i → ¬ Under (FaC (rI σ) u n) n (sT Es (rI σ u 5) q)) → L_X6_firstShade_10 (Ev sc (d + 5)) sc (QI (fun r σ1 => σ1 = σ ∧ FirstS (fun q => Under (FaC (rI σ) u n) n (sT Es (rI σ u 5) q)) t r)) u t i σ := by
    intro f
    induction f with
    | zero =>
      intro i hf i0 i1 h
      apply v_X6_firstShade_10 hG (by omega) (by omega)
      refine ⟨fun g => ⟨-1, rfl, by decide, rfl, Or.inl ⟨rfl, fun q q0 q1 => h q q0 ?_⟩⟩, fun g => by omega⟩
      unfold beg; rw [if_neg (by omega)]; exact q1
    | succ f ih =>
      intro i hf i0 i1 h
      have b1 := hs.2.2.1 i i0 (by omega)
      have b2 : 0 ≤ rI σ (u + 11) i ∧ rI σ (u + 11) i < 1440 := ⟨b1.1, b1.2.1⟩
      have b3 : 0 ≤ rI σ (u + 12) i ∧ rI σ (u + 12) i ≤ 89 := hes _ _ b1.2.2
      have eb : beg (rI σ) (u + 10) i = rI σ (u + 11) i := by unfold beg; rw [if_pos (by omega)]
      rw [eb] at h
      apply v_X6_firstShade_10 hG (by omega) (by omega)
      refine ⟨fun g => by omega, fun g => ⟨by omega, fun z1 e1 => ?_⟩⟩
      obtain ⟨r8, σ1, he, hr8, rfl, q1, q2⟩ := s_endOf (sc := sc) (d := d + 4) (i := i) hG hv.ch.1 (by omega) (by omega)
      have q5 : rI σ1 (u + 10 + 1) (i + 1) = rI σ1 (u + 11) (i + 1) := rfl
      have q6 : rI σ1 (u + 10 + 1) i = rI σ1 (u + 11) i := rfl
      have er : r8 = beg (rI σ1) (u + 10) (i + 1) := by
        unfold beg
        by_cases c : i + 1 < rI σ1 (u + 10) 2
        · rw [if_pos c, q1 (by omega)]
        · rw [if_neg c, q2 (by omega)]
      have hle : r8 ≤ 1440 := by
        by_cases c : i + 1 < rI σ1 (u + 10) 2
        · have := hs.2.2.1 (i + 1) (by omega) c; omega
        · omega
      have st : ∀ q : Int, rI σ1 (u + 11) i ≤ q → q < r8 → sT Es (rI σ1 u 5) q = if q < rI σ1 u 5 then rI σ1 (u + 12) i else -1 := fun q t1 t2 => sT_step hs i0 (by omega) t1 (fun hc => by omega)
      have nx : (∀ q : Int, t ≤ q → rI σ1 (u + 11) i ≤ q → q < r8 → q < rI σ1 u 5 → ¬ Under (FaC (rI σ1) u n) n (rI σ1 (u + 12) i)) → L_X6_firstShade_10 (Ev sc (d + 5)) sc (QI (fun r σ2 => σ2 = σ1 ∧ FirstS (fun q => Under (FaC (rI σ1) u n) n (sT Es (rI σ1 u 5) q)) t r)) u t (i + 1) σ1 := by
        intro hno
        refine ih (i + 1) (by omega) (by omega) (by omega) (fun q q0 q1 => ?_)
        rw [← er] at q1
        by_cases c : q < rI σ1 (u + 11) i
        · exact h q q0 c
        · rw [st q (by omega) q1]
          by_cases c2 : q < rI σ1 u 5
          · rw [if_pos c2]; exact hno q q0 (by omega) q1 c2
          · rw [if_neg c2]
            rintro ⟨k, j, -, -, hk⟩
            exact falls_neg (by decide) hk
      refine ⟨r8, σ1, he, hG, hr8, fun z9 e9 => ⟨fun g1 => ⟨by omega, nx (fun q q0 q1 q2 q3 => by omega)⟩, fun g1 => ⟨by omega, ?_⟩⟩⟩
      obtain ⟨r17, σ2, he2, hr2, rfl, h17⟩ := s_anybody (sc := sc) (d := d) (s := rI σ1 (u + 12) i) hG hSh (by omega)
      refine ⟨r17, σ2, he2, hG, hr2, fun g2 => ⟨by omega, nx (fun q _ _ _ _ => ?_)⟩, fun g2 => ⟨z1, rfl, by omega, rfl, Or.inr ⟨by omega, ?_, fun q q0 q1 => h q q0 (by omega)⟩⟩⟩
      · rcases h17 with h17 | h17
        · omega
        · exact h17.2
      · rcases h17 with h17 | h17
        · show Under (FaC (rI σ2) u n) n (sT Es (rI σ2 u 5) z1)
          rw [st z1 (by omega) (by omega), if_pos (by omega)]; exact h17.2
        · omega
  refine loop _ 0 rfl (by omega) k0 (fun q q0 q1 => ?_)
  have e : sT Es (rI σ u 5) q = -1 := by
    unfold sT
    by_cases c : q < rI σ u 5
    · rw [if_pos c, hs.first (-1) (by omega) (fun h => by unfold beg at q1; rw [if_pos h] at q1; exact q1)]
    · rw [if_neg c]
  rw [e]
  rintro ⟨k, j, -, -, hk⟩
  exact falls_neg (by decide) hk
theorem s_costsOf {a b : Int} (hG : G σ u) (hM : MkT (rI σ) u Es Er) (ha : 0 ≤ a ∧ a ≤ 1440) (hb : 0 ≤ b ∧ b ≤ 1440) : ∃ σ1 : aH, Ev sc (d + 3) mX6_costsOf [.ref 27, .int (nZ a), .int (nZ b)] σ (.inl (some (.ref 34))) σ1 ∧ Fr (AW 34) σ σ1 ∧ WtS (rI σ1) 34 (sT Es (rI σ u 5)) (Fn (aT Er 1) a b) (Fn (aT Er 1) (max a (rI σ u 6)) b) := by
  have h : T sc (d + 3) mX6_costsOf [.ref 27, .int (nZ a), .int (nZ b)] σ (fun o σ1 => o = .inl (some (.ref 34)) ∧ Fr (AW 34) σ σ1 ∧ WtS (rI σ1) 34 (sT Es (rI σ u 5)) (Fn (aT Er 1) a b) (Fn (aT Er 1) (max a (rI σ u 6)) b)) := by
    apply t_X6_costsOf hG (by omega) (by omega)
    obtain ⟨σ1, he, hF, hW⟩ := s_weighCosts (sc := sc) (d := d) hG hG.2.2.2.2 (show IsWt 34 from Or.inr (Or.inr rfl)) hM ha hb
    exact ⟨σ1, he, hF.g hG, rfl, hF, hW⟩
  obtain ⟨o, σ1, he, rfl, hq⟩ := h
  exact ⟨σ1, he, hq⟩
end
