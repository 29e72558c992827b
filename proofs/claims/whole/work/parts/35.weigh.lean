/-! what a market's suns and rates weigh -/
def MkT (m : Nat → Int → Int) (v : Nat) (Es Er : Nat → Option Int) : Prop := RepC m (v + 10) Es ∧ RepC m (v + 13) Er ∧ (∀ t x, Es t = some x → 0 ≤ x ∧ x ≤ 89) ∧ (∀ t x, Er t = some x → 0 ≤ x ∧ x ≤ 9) ∧ (0 ≤ m v 5 ∧ m v 5 ≤ 1440) ∧ (0 ≤ m v 6 ∧ m v 6 ≤ 1440)
theorem MkT.fr {A : Nat → Int → Prop} {σ σ1 : aH} {v : Nat} {Es Er : Nat → Option Int} (h : MkT (rI σ) v Es Er) (hF : Fr A σ σ1) (hA : ∀ (a : Nat) (i : Int), (a = v ∧ (i = 5 ∨ i = 6)) ∨ (v + 10 ≤ a ∧ a ≤ v + 15) → ¬ A a i) : MkT (rI σ1) v Es Er := by
  obtain ⟨h1, h2, h3, h4, h5, h6⟩ := h
  refine ⟨h1.congr (hF.rw (by omega) (hA _ _ (by omega))) (fun i i0 => hF.rw i0 (hA _ _ (by omega))) (fun i i0 => hF.rw i0 (hA _ _ (by omega))), h2.congr (hF.rw (by omega) (hA _ _ (by omega))) (fun i i0 => hF.rw i0 (hA _ _ (by omega))) (fun i i0 => hF.rw i0 (hA _ _ (by omega))), h3, h4, ?_, ?_⟩
  · rw [hF.rw (by omega) (hA _ _ (by omega))]; exact h5
  · rw [hF.rw (by omega) (hA _ _ (by omega))]; exact h6
def WtS (m : Nat → Int → Int) (w : Nat) (S F F1 : Int → Int) : Prop := ∀ s : Int, 0 ≤ s → s < 90 → m (w + 1) s = W1 S F s ∧ m (w + 2) s = W1 S F1 s
theorem WtS.fr {A : Nat → Int → Prop} {σ σ1 : aH} {w : Nat} {S F F1 : Int → Int} (h : WtS (rI σ) w S F F1) (hF : Fr A σ σ1) (hA : ∀ (a : Nat) (i : Int), a = w + 1 ∨ a = w + 2 → ¬ A a i) : WtS (rI σ1) w S F F1 := by
  intro s s0 s1
  rw [hF.rw s0 (hA _ _ (by omega)), hF.rw s0 (hA _ _ (by omega))]
  exact h s s0 s1
theorem IsMk.ch {v : Nat} (h : IsMk v) : IsCh (v + 10) ∧ IsCh (v + 13) := by
  rcases h with rfl | rfl
  · exact ⟨Or.inl rfl, Or.inr (Or.inl rfl)⟩
  · exact ⟨Or.inr (Or.inr (Or.inl rfl)), Or.inr (Or.inr (Or.inr rfl))⟩
/-- the minute from which sun i counts; the day's end behind the last -/
def beg (m : Nat → Int → Int) (a : Nat) (i : Int) : Int := if i < m a 2 then m (a + 1) i else 1440
theorem weigh_num {R : Int → Int} {a b du p fo q z5 z8 z16 z25 z28 : Int} (ha : 0 ≤ a) (hp : 0 ≤ p) (hdu : 0 ≤ du) (hq : q ≤ 1440) (e5 : z5 = max a p) (e8 : z8 = min b fo) (e16 : z16 = min z8 q) (e25 : z25 = max z5 du) (e28 : z28 = min z25 z16) (g : ¬ z16 ≤ z5) : sm (Fn R (max a p) (min (min b fo) q)) 1440 = sm R z16.toNat - sm R z5.toNat ∧ sm (Fn R (max (max a du) p) (min (min b fo) q)) 1440 = sm R z16.toNat - sm R z28.toNat ∧ (0 ≤ z5 ∧ z5 ≤ 1440) ∧ (0 ≤ z16 ∧ z16 ≤ 1440) ∧ (0 ≤ z28 ∧ z28 ≤ 1440) := by
  subst e8 e16
  rw [← e5]
  have b5 : 0 ≤ z5 := by omega
  have b16 : min (min b fo) q ≤ 1440 := by omega
  generalize min (min b fo) q = z16 at *
  have m : max (max a du) p = z25 := by omega
  rw [m]
  clear e5 m
  refine ⟨sm_Fn b5 (by omega) b16, ?_, by omega, by omega, by omega⟩
  by_cases c : z25 ≤ z16
  · rw [sm_Fn (by omega) c b16, show z28 = z25 by omega]
  · rw [sm_Fn0 (by omega), show z28 = z16 by omega]; omega
theorem weigh_none {R : Int → Int} {a b du p fo q z5 z8 z16 : Int} (e5 : z5 = max a p) (e8 : z8 = min b fo) (e16 : z16 = min z8 q) (g : z16 ≤ z5) : sm (Fn R (max a p) (min (min b fo) q)) 1440 = 0 ∧ sm (Fn R (max (max a du) p) (min (min b fo) q)) 1440 = 0 := by
  subst e8 e16
  generalize min (min b fo) q = z16 at *
  exact ⟨sm_Fn0 (by omega), sm_Fn0 (by omega)⟩
section
variable {sc : Nat × (Nat → Int32)} {d : Nat} {σ : aH} {u v w : Nat} {Es Er : Nat → Option Int}
theorem AW_mk (hv : IsMk v) (hw : IsWt w) (a : Nat) (i : Int) (h : (v ≤ a ∧ a ≤ v + 15)) : ¬ AW w a i := by
  unfold IsMk at hv; unfold IsWt at hw
  show ¬ (a = w + 1 ∨ a = w + 2)
  omega
theorem s_weighCosts {a b : Int} (hG : G σ u) (hv : IsMk v) (hw : IsWt w) (hM : MkT (rI σ) v Es Er) (ha : 0 ≤ a ∧ a ≤ 1440) (hb : 0 ≤ b ∧ b ≤ 1440) : TV sc (d + 2) mX2_weighCosts [.ref v, .ref w, .int (nZ a), .int (nZ b)] σ (fun σ1 => Fr (AW w) σ σ1 ∧ WtS (rI σ1) w (sT Es (rI σ v 5)) (Fn (aT Er 1) a b) (Fn (aT Er 1) (max a (rI σ v 6)) b)) := by
  obtain ⟨hs, hr, hes, her, hfo, hdu⟩ := hM
  have hR : ∀ t, 0 ≤ aT Er 1 t ∧ aT Er 1 t ≤ 9 := fun t => att_bd (by decide) her t.toNat
  have hB1 : ∀ t, 0 ≤ Fn (aT Er 1) a b t ∧ Fn (aT Er 1) a b t ≤ 9 := Fn_bd (by omega) hR
  have hB2 : ∀ t, 0 ≤ Fn (aT Er 1) (max a (rI σ v 6)) b t ∧ Fn (aT Er 1) (max a (rI σ v 6)) b t ≤ 9 := Fn_bd (by omega) hR
  have k0 := hs.1
  have k1 := hs.2.1
  apply T.void
  apply t_X2_weighCosts hG hv hw (by omega) (by omega)
  obtain ⟨σ1, he, hF, hz⟩ := s_clear (sc := sc) (d := d) hG hw
  refine ⟨σ1, he, hF.g hG, ?_⟩
  have loop : ∀ (f : Nat) (i : Int) (τ : aH), (rI σ (v + 10) 2 - i).toNat = f → 0 ≤ i → i ≤ rI σ (v + 10) 2 → Fr (AW w) σ τ → (∀ s : Int, 0 ≤ s → s < 90 → rI τ (w + 1) s = Wp (sT Es (rI σ v 5)) (Fn (aT Er 1) a b) (beg (rI σ) (v + 10) i) s ∧ rI τ (w + 2) s = Wp (sT Es (rI σ v 5)) (Fn (aT Er 1) (max a (rI σ v 6)) b) (beg (rI σ) (v + 10) i) s) → L_X2_weighCosts_7 (Ev sc (d + 1)) sc (QV (fun σ1 => Fr (AW w) σ σ1 ∧ WtS (rI σ1) w (sT Es (rI σ v 5)) (Fn (aT Er 1) a b) (Fn (aT Er 1) (max a (rI σ v 6)) b))) v w a b i τ := by
    intro f
    induction f with
    | zero =>
      intro i τ hf i0 i1 hF hz
      have rd : ∀ (x : Nat) (y : Int), v ≤ x → x ≤ v + 15 → 0 ≤ y → rI τ x y = rI σ x y := fun x y h1 h2 h3 => hF.rw h3 (AW_mk hv hw x y ⟨h1, h2⟩)
      apply v_X2_weighCosts_7 (hF.g hG) hv hw (by omega) (by omega) (by omega)
      rw [rd (v + 10) 2 (by omega) (by omega) (by omega)]
      refine ⟨fun g => ?_, fun g => by omega⟩
      have eb : beg (rI σ) (v + 10) i = 1440 := by unfold beg; rw [if_neg (by omega)]
      rw [eb] at hz
      obtain ⟨σ2, he2, hF2, hz2⟩ := s_heap (sc := sc) (d := d) (A1 := W1 (sT Es (rI σ v 5)) (Fn (aT Er 1) a b)) (B1 := W1 (sT Es (rI σ v 5)) (Fn (aT Er 1) (max a (rI σ v 6)) b)) (hF.g hG) hw (fun s s0 s1 => by rw [← Wp_full, ← Wp_full]; exact hz s s0 s1)
        (fun s => by have e1 := W1_bd (S := sT Es (rI σ v 5)) (s := s) (by omega) hB1; have e2 := W1_bd (S := sT Es (rI σ v 5)) (s := s) (by omega) hB2; omega) (fun s h => ⟨W1_9 h, W1_9 h⟩) (fun s h => ⟨W1_s h, W1_s h⟩)
      exact ⟨σ2, he2, (hF.trans hF2).g hG, rfl, hF.trans hF2, hz2⟩
    | succ f ih =>
      intro i τ hf i0 i1 hF hz
      have rd : ∀ (x : Nat) (y : Int), v ≤ x → x ≤ v + 15 → 0 ≤ y → rI τ x y = rI σ x y := fun x y h1 h2 h3 => hF.rw h3 (AW_mk hv hw x y ⟨h1, h2⟩)
      have hsτ : RepC (rI τ) (v + 10) Es := hs.congr (rd _ _ (by omega) (by omega) (by omega)) (fun i h => rd _ _ (by omega) (by omega) h) (fun i h => rd _ _ (by omega) (by omega) h)
      have hrτ : RepC (rI τ) (v + 13) Er := hr.congr (rd _ _ (by omega) (by omega) (by omega)) (fun i h => rd _ _ (by omega) (by omega) h) (fun i h => rd _ _ (by omega) (by omega) h)
      have b1 := hs.2.2.1 i i0 (by omega)
      have b2 : 0 ≤ rI σ (v + 11) i ∧ rI σ (v + 11) i < 1440 := ⟨b1.1, b1.2.1⟩
      have b3 : 0 ≤ rI σ (v + 12) i ∧ rI σ (v + 12) i ≤ 89 := hes _ _ b1.2.2
      have c0 := rd (v + 10) 2 (by omega) (by omega) (by omega)
      have c1 := rd (v + 11) i (by omega) (by omega) i0
      have c2 := rd v 5 (by omega) (by omega) (by omega)
      have c3 := rd v 6 (by omega) (by omega) (by omega)
      have c4 := rd (v + 12) i (by omega) (by omega) i0
      have c5 := rd (v + 11) (i + 1) (by omega) (by omega) (by omega)
      have eb : beg (rI σ) (v + 10) i = rI σ (v + 11) i := by unfold beg; rw [if_pos (by omega)]
      apply v_X2_weighCosts_7 (hF.g hG) hv hw (by omega) (by omega) (by omega)
      refine ⟨fun g => by omega, fun g => ⟨by omega, fun z5 e5 z8 e8 => ?_⟩⟩
      obtain ⟨r15, τ1, he1, hr1, rfl, q1, q2⟩ := s_endOf (sc := sc) (d := d) (i := i) (hF.g hG) (IsMk.ch hv).1 (by omega) (by omega)
      have er : r15 = beg (rI σ) (v + 10) (i + 1) := by
        unfold beg
        by_cases c : i + 1 < rI σ (v + 10) 2
        · rw [if_pos c, q1 (by omega)]; exact c5
        · rw [if_neg c, q2 (by omega)]
      have hord : rI σ (v + 11) i ≤ r15 ∧ r15 ≤ 1440 := by
        by_cases c : i + 1 < rI σ (v + 10) 2
        · have q3 := hs.2.2.2.1 i (i + 1) i0 (by omega) c
          have q4 := hs.2.2.1 (i + 1) (by omega) c
          have q5 : rI σ (v + 10 + 1) (i + 1) = rI σ (v + 11) (i + 1) := rfl
          have q6 : rI σ (v + 10 + 1) i = rI σ (v + 11) i := rfl
          have q7 : rI τ1 (v + 10 + 1) (i + 1) = rI τ1 (v + 11) (i + 1) := rfl
          omega
        · omega
      have hq1440 := hord.2
      have hi9 : 0 ≤ i ∧ i < 20 := by omega
      have st := fun (a1 s : Int) (h : 0 ≤ s) => Wp_step (S := sT Es (rI σ v 5)) (R := aT Er 1) (a := a1) (b := b) (p := rI σ (v + 11) i) (q := r15) (fold := rI σ v 5) (v := rI σ (v + 12) i) h hord.1 (fun t t1 t2 => sT_step hs i0 (by omega) t1 (fun hc => by
        have q5 : rI σ (v + 10 + 1) (i + 1) = rI σ (v + 11) (i + 1) := rfl
        have q7 : rI τ1 (v + 10 + 1) (i + 1) = rI τ1 (v + 11) (i + 1) := rfl
        omega))
      rw [eb] at hz
      have hi1 : inR (i + 1) := by omega
      have hi2 : (rI σ (v + 10) 2 - (i + 1)).toNat = f ∧ 0 ≤ i + 1 ∧ i + 1 ≤ rI σ (v + 10) 2 := by omega
      clear q1 q2 c5 c0 eb hord hf i1 g k0 k1
      rw [c1] at e5
      rw [c2] at e8
      refine ⟨r15, τ1, he1, hF.g hG, hr1, fun z16 e16 => ⟨fun g1 => ⟨hi1, ?_⟩, fun g1 => ?_⟩⟩
      · refine ih (i + 1) τ1 hi2.1 hi2.2.1 hi2.2.2 hF (fun s s0 s1 => ?_)
        obtain ⟨n1, n2⟩ := weigh_none (R := aT Er 1) (du := rI σ v 6) e5 e8 e16 g1
        rw [← er, st a s s0, st (max a (rI σ v 6)) s s0, n1, n2, ite_self, Int.add_zero, Int.add_zero]
        exact hz s s0 s1
      · obtain ⟨n1, n2, n3, n4, n5⟩ := weigh_num (R := aT Er 1) (z28 := min (max z5 (rI σ v 6)) z16) ha.1 b2.1 hdu.1 hq1440 e5 e8 e16 rfl rfl g1
        clear e5 e8 e16
        obtain ⟨r24, τ2, he2, hr2, rfl, w1⟩ := s_costBefore (sc := sc) (d := d) (t := z16) (hF.g hG) hv hrτ her n4
        refine ⟨r24, τ2, he2, hF.g hG, hr2, fun z25 e25 z28 e28 => ⟨hi9, ?_⟩⟩
        obtain ⟨r35, τ3, he3, hr3, rfl, w2⟩ := s_costBefore (sc := sc) (d := d) (t := z5) (hF.g hG) hv hrτ her n3
        rw [c3] at e25
        rw [← e25, ← e28] at n2 n5
        clear e25 e28
        have d1 := rate_bd her z16.toNat
        have d2 := rate_bd her z5.toNat
        have d3 := rate_bd her z28.toNat
        refine ⟨r35, τ3, he3, hF.g hG, hr3, by omega, ?_⟩
        obtain ⟨r41, τ4, he4, hr4, rfl, w3⟩ := s_costBefore (sc := sc) (d := d) (t := z28) (hF.g hG) hv hrτ her n5
        refine ⟨r41, τ4, he4, hF.g hG, hr4, by omega, ?_⟩
        have p1 := Wp_bd (S := sT Es (rI σ v 5)) (e := rI σ (v + 11) i) (s := rI σ (v + 12) i) (by omega) hB1
        have p2 := Wp_bd (S := sT Es (rI σ v 5)) (e := rI σ (v + 11) i) (s := rI σ (v + 12) i) (by omega) hB2
        have p3 := hz (rI σ (v + 12) i) b3.1 (by omega)
        rw [c4]
        obtain ⟨τ5, he5, hF5, hz5⟩ := s_wadd (sc := sc) (d := d) (x := rI σ (v + 12) i) (y := r24 - r35) (z := r24 - r41) (hF.g hG) hw (by omega) (by omega) (by omega) (by omega) (by omega)
        refine ⟨τ5, he5, (hF.trans hF5).g hG, hi1, ?_⟩
        refine ih (i + 1) τ5 hi2.1 hi2.2.1 hi2.2.2 (hF.trans hF5) (fun s s0 s1 => ?_)
        have u1 := hz s s0 s1
        have u2 := hz5 s s0 s1
        rw [← er, st a s s0, st (max a (rI σ v 6)) s s0, n1, n2, ← w1, ← w2, ← w3, u2.1, u2.2, u1.1, u1.2]
        exact ⟨rfl, rfl⟩
  refine loop _ 0 σ1 rfl (by omega) k0 hF (fun s s0 s1 => ?_)
  have nz : ∀ t : Int, 0 ≤ t → t < beg (rI σ) (v + 10) 0 → ¬ sT Es (rI σ v 5) t = s := by
    intro t t0 t1
    unfold sT
    by_cases c : t < rI σ v 5
    · rw [if_pos c, hs.first (-1) t0 (fun q => by unfold beg at t1; rw [if_pos q] at t1; exact t1)]; omega
    · rw [if_neg c]; omega
  rw [Wp_zero nz, Wp_zero nz]
  exact hz s s0 s1
end
