/-! hours, folding, lanterns -/
noncomputable def TotAB (fa : Int → Int → Int → Prop) (la S R : Int → Int) (du n gone a b : Int) : Int := Tot fa la S (Fn R a b) (Fn R (max a du) b) n gone
theorem Tot_bd {fa : Int → Int → Int → Prop} {la S F F1 : Int → Int} {n gone : Int} (hn : n ≤ 9) (hF : F9 F) (hF1 : F9 F1) : 0 ≤ Tot fa la S F F1 n gone ∧ Tot fa la S F F1 n gone ≤ 2099520 := by
  unfold Tot
  have rb : ∀ i : Int, 0 ≤ sm (fun j => cif (i ≠ gone ∧ j ≠ gone) (Prc fa la S F F1 i j) 0) n.toNat ∧ sm (fun j => cif (i ≠ gone ∧ j ≠ gone) (Prc fa la S F F1 i j) 0) n.toNat ≤ 233280 := by
    intro i
    have := sm_bd (n := n.toNat) (lo := 0) (hi := 25920) (f := fun j => cif (i ≠ gone ∧ j ≠ gone) (Prc fa la S F F1 i j) 0) (fun t _ _ => cif_bd (Prc_bd hF hF1) (by omega))
    omega
  have := sm_bd (n := n.toNat) (lo := 0) (hi := 233280) (f := fun i => sm (fun j => cif (i ≠ gone ∧ j ≠ gone) (Prc fa la S F F1 i j) 0) n.toNat) (fun t _ _ => rb t)
  omega
section
variable {sc : Nat × (Nat → Int32)} {d : Nat} {σ : aH} {u v w : Nat} {n : Int} {Es Er : Nat → Option Int}
theorem rate9 (hE : ∀ t v, Er t = some v → 0 ≤ v ∧ v ≤ 9) : F9 (aT Er 1) := fun t => att_bd (by decide) hE t.toNat
theorem Fn9 {R : Int → Int} (hR : F9 R) (a b : Int) : F9 (Fn R a b) := Fn_bd (by omega) hR
theorem TotAB_bd {fa : Int → Int → Int → Prop} {la S R : Int → Int} {du n gone a b : Int} (hn : n ≤ 9) (hR : F9 R) : 0 ≤ TotAB fa la S R du n gone a b ∧ TotAB fa la S R du n gone a b ≤ 2099520 := Tot_bd hn (Fn9 hR _ _) (Fn9 hR _ _)
/-- all that is due, by weights that stand -/
theorem s_due {S F F1 : Int → Int} (hG : G σ u) (hSh : Sh σ u n) (hw : IsWt w) (hW : WtS (rI σ) w S F F1) (hS : SB S) (hF : F9 F) (hF1 : F9 F1) : TI sc (d + 3) mX6_total [.ref 27, .ref w, .int (nZ 1000000000)] σ (fun r σ1 => σ1 = σ ∧ r = Tot (FaC (rI σ) u n) (rI σ (u + 8)) S F F1 n (rI σ (u + 1) 9)) := by
  obtain ⟨r, σ1, he, hr, h1, h2, h3, h4⟩ := s_total (sc := sc) (d := d) hG hSh hw hW hS hF hF1 (show inR 1000000000 by decide)
  have b := Tot_bd (fa := FaC (rI σ) u n) (la := rI σ (u + 8)) (S := S) (gone := rI σ (u + 1) 9) hSh.2.2.1.1 hF hF1
  exact ⟨r, σ1, he, hr, h1, h4 (by omega)⟩
/-- the part's weights, and all that is due by them -/
theorem s_totAB {a b : Int} (hG : G σ u) (hSh : Sh σ u n) (hM : MkT (rI σ) u Es Er) (ha : 0 ≤ a ∧ a ≤ 1440) (hb : 0 ≤ b ∧ b ≤ 1440) : ∃ (σ1 : aH) (r : Int), Ev sc (d + 3) mX6_costsOf [.ref 27, .int (nZ a), .int (nZ b)] σ (.inl (some (.ref 34))) σ1 ∧ Fr (AW 34) σ σ1 ∧ Ev sc (d + 3) mX6_total [.ref 27, .ref 34, .int (nZ 1000000000)] σ1 (.inl (some (.int (nZ r)))) σ1 ∧ inR r ∧ r = TotAB (FaC (rI σ) u n) (rI σ (u + 8)) (sT Es (rI σ u 5)) (aT Er 1) (rI σ u 6) n (rI σ (u + 1) 9) a b := by
  have hm := hG.2.2.2.2
  unfold IsMk at hm
  have hA : ∀ (a : Nat) (i : Int), u ≤ a → a ≤ u + 15 → ¬ AW 34 a i := fun a i h1 h2 => by show ¬ (a = 34 + 1 ∨ a = 34 + 2); omega
  obtain ⟨σ1, he, hF, hW⟩ := s_costsOf (sc := sc) (d := d) hG hM ha hb
  obtain ⟨r, σ2, he2, hr2, rfl, h2⟩ := s_due (sc := sc) (d := d) (hF.g hG) (hF.sh hA hSh) (show IsWt 34 from Or.inr (Or.inr rfl)) hW (sT_bd hM.2.2.1) (Fn9 (rate9 hM.2.2.2.1) _ _) (Fn9 (rate9 hM.2.2.2.1) _ _)
  refine ⟨σ2, r, he, hF, he2, hr2, ?_⟩
  rw [h2, hF.fa hA, hF.row (fun i => hA (u + 8) i (by omega) (by omega)), hF.rw (a := u + 1) (i := 9) (by omega) (hA _ _ (by omega) (by omega))]
  rfl
abbrev A34 : Nat → Int → Prop := fun a _ => a = 35 ∨ a = 36
abbrev AH : Nat → Int → Prop := fun a _ => a = 35 ∨ a = 36 ∨ a = 38
theorem s_reckonHours (hG : G σ u) (hSh : Sh σ u n) (hM : MkT (rI σ) u Es Er) : TV sc (d + 4) mX6_reckonHours [.ref 27] σ (fun σ1 => Fr AH σ σ1 ∧ ∀ h : Int, 0 ≤ h → h < 24 → rI σ1 38 h = TotAB (FaC (rI σ) u n) (rI σ (u + 8)) (sT Es (rI σ u 5)) (aT Er 1) (rI σ u 6) n (rI σ (u + 1) 9) (60 * h) (60 * h + 60)) := by
  have hm := hG.2.2.2.2
  unfold IsMk at hm
  have hA : ∀ (a : Nat) (i : Int), u ≤ a → a ≤ u + 15 → ¬ AH a i := fun a i h1 h2 => by show ¬ (a = 35 ∨ a = 36 ∨ a = 38); omega
  apply T.void
  apply t_X6_reckonHours hG
  have loop : ∀ (f : Nat) (i : Int) (τ : aH), (24 - i).toNat = f → 0 ≤ i → i ≤ 24 → Fr AH σ τ → (∀ h : Int, 0 ≤ h → h < i → rI τ 38 h = TotAB (FaC (rI σ) u n) (rI σ (u + 8)) (sT Es (rI σ u 5)) (aT Er 1) (rI σ u 6) n (rI σ (u + 1) 9) (60 * h) (60 * h + 60)) → L_X6_reckonHours_2 (Ev sc (d + 3)) sc (QV (fun σ1 => Fr AH σ σ1 ∧ ∀ h : Int, 0 ≤ h → h < 24 → rI σ1 38 h = TotAB (FaC (rI σ) u n) (rI σ (u + 8)) (sT Es (rI σ u 5)) (aT Er 1) (rI σ u 6) n (rI σ (u + 1) 9) (60 * h) (60 * h + 60))) i τ := by
    intro f
    induction f with
    | zero =>
      intro i τ hf i0 i1 hF h
      apply v_X6_reckonHours_2 (hF.g hG) (by omega)
      exact ⟨fun g => ⟨rfl, hF, fun q q0 q1 => h q q0 (by omega)⟩, fun g => by omega⟩
    | succ f ih =>
      intro i τ hf i0 i1 hF h
      apply v_X6_reckonHours_2 (hF.g hG) (by omega)
      refine ⟨fun g => by omega, fun g => ⟨by omega, by omega, by omega, ?_⟩⟩
      obtain ⟨σ1, r, he, hF1, he2, hr, h2⟩ := s_totAB (sc := sc) (d := d) (a := 60 * i) (b := 60 * i + 60) (hF.g hG) (hF.sh hA hSh) (hM.fr hF (fun a i h => hA a i (by omega) (by omega))) (by omega) (by omega)
      refine ⟨σ1, he, hF1.g (hF.g hG), r, σ1, he2, hF1.g (hF.g hG), hr, by omega, fun σ2 e2 => ⟨by omega, ?_⟩⟩
      subst e2
      have hF2 : Fr AH σ σ1 := hF.trans (hF1.weak (fun a i q => by rcases q with q | q; exact Or.inl q; exact Or.inr (Or.inl q)))
      refine ih (i + 1) _ (by omega) (by omega) (by omega) (hF2.trans (Fr.w i0 (Or.inr (Or.inr rfl)))) (fun q q0 q1 => ?_)
      by_cases e : q = i
      · subst e
        rw [rI_ww hr, h2, hF.fa hA, hF.row (fun i => hA (u + 8) i (by omega) (by omega)), hF.rw (a := u + 1) (i := 9) (by omega) (hA _ _ (by omega) (by omega)), hF.rw (a := u) (i := 5) (by omega) (hA _ _ (by omega) (by omega)), hF.rw (a := u) (i := 6) (by omega) (hA _ _ (by omega) (by omega))]
      · rw [rI_wi (by omega), hF1.rw q0 (by show ¬ (38 = 34 + 1 ∨ 38 = 34 + 2); omega)]
        exact h q q0 (by omega)
  exact loop _ 0 σ rfl (by omega) (by omega) (Fr.refl _ _) (fun q q0 q1 => by omega)
theorem s_dueWithout {b : Int} {H : Int → Int} (hG : G σ u) (hb : 0 ≤ b ∧ b ≤ 2147483647) (hH : ∀ h : Int, 0 ≤ h → h < 24 → rI σ 38 h = H h ∧ 0 ≤ H h ∧ H h ≤ 2099520) : TI sc (d + 1) mX6_dueWithout [.ref 27, .int (nZ b)] σ (fun r σ1 => σ1 = σ ∧ r = sm (fun h => cif (bt b h = 0) (H h) 0) 24) := by
  apply T.int
  apply t_X6_dueWithout hG (by omega)
  have hB : ∀ k : Nat, k ≤ 24 → 0 ≤ sm (fun h => cif (bt b h = 0) (H h) 0) k ∧ sm (fun h => cif (bt b h = 0) (H h) 0) k ≤ 2099520 * k := fun k hk => by
    have := sm_bd (n := k) (lo := 0) (hi := 2099520) (f := fun h => cif (bt b h = 0) (H h) 0) (fun t t0 t1 => cif_bd (hH t t0 (by omega)).2 (by omega))
    omega
  have loop : ∀ (f : Nat) (i sum : Int), (24 - i).toNat = f → 0 ≤ i → i ≤ 24 → sum = sm (fun h => cif (bt b h = 0) (H h) 0) i.toNat → L_X6_dueWithout_4 (Ev sc d) sc (QI (fun r σ1 => σ1 = σ ∧ r = sm (fun h => cif (bt b h = 0) (H h) 0) 24)) b sum i σ := by
    intro f
    induction f with
    | zero =>
      intro i sum hf i0 i1 hs
      have := hB i.toNat (by omega)
      apply v_X6_dueWithout_4 hG (by omega) (by omega) (by omega)
      exact ⟨fun g => ⟨_, rfl, by omega, rfl, by rw [hs, show i.toNat = 24 by omega]⟩, fun g => by omega⟩
    | succ f ih =>
      intro i sum hf i0 i1 hs
      have h0 := hB i.toNat (by omega)
      have h1 := hB (i + 1).toNat (by omega)
      have hi := hH i i0 (by omega)
      have st := sm_toNat (fun h => cif (bt b h = 0) (H h) 0) i0
      apply v_X6_dueWithout_4 hG (by omega) (by omega) (by omega)
      rw [z_btU hb i0 (by omega)]
      refine ⟨fun g => by omega, fun g => ⟨fun g1 => ⟨by omega, ?_⟩, fun g1 => ⟨by omega, by omega, fun z e => ⟨by omega, ?_⟩⟩⟩⟩
      · refine ih (i + 1) sum (by omega) (by omega) (by omega) ?_
        rw [st, cif_neg g1]; omega
      · refine ih (i + 1) z (by omega) (by omega) (by omega) ?_
        rw [st, cif_pos g1]; omega
  exact loop _ 0 0 rfl (by omega) (by omega) (sm_0 _).symm
/-- the latest folding by which no more than much is due -/
def FoldS (f : Int → Int) (fold much r : Int) : Prop := (0 ≤ r ∧ r ≤ fold) ∧ (r = 0 ∨ f r ≤ much) ∧ (r = fold ∨ much < f (r + 1))
theorem FoldS.uniq {f : Int → Int} {fold much r q : Int} (hm : ∀ a b : Int, 0 ≤ a → a ≤ b → b ≤ fold → f a ≤ f b) (h : FoldS f fold much r) (k : FoldS f fold much q) : r = q := by
  obtain ⟨h1, h2, h3⟩ := h
  obtain ⟨k1, k2, k3⟩ := k
  by_cases c : r < q
  · have := hm (r + 1) q (by omega) (by omega) (by omega); omega
  · by_cases c2 : q < r
    · have := hm (q + 1) r (by omega) (by omega) (by omega); omega
    · omega
theorem s_latestFold {much : Int} (hG : G σ u) (hSh : Sh σ u n) (hM : MkT (rI σ) u Es Er) (hy : inR much) : TI sc (d + 4) mX6_latestFold [.ref 27, .int (nZ much)] σ (fun r σ1 => Fr A34 σ σ1 ∧ FoldS (fun b => TotAB (FaC (rI σ) u n) (rI σ (u + 8)) (sT Es (rI σ u 5)) (aT Er 1) (rI σ u 6) n (rI σ (u + 1) 9) 0 b) (rI σ u 5) much r) := by
  have hm := hG.2.2.2.2
  unfold IsMk at hm
  have hfo := hM.2.2.2.2.1
  have hA : ∀ (a : Nat) (i : Int), u ≤ a → a ≤ u + 15 → ¬ A34 a i := fun a i h1 h2 => by show ¬ (a = 35 ∨ a = 36); omega
  obtain ⟨f, hf⟩ : ∃ f : Int → Int, f = fun b => TotAB (FaC (rI σ) u n) (rI σ (u + 8)) (sT Es (rI σ u 5)) (aT Er 1) (rI σ u 6) n (rI σ (u + 1) 9) 0 b := ⟨_, rfl⟩
  rw [← hf]
  apply T.int
  apply t_X6_latestFold hG hy
  have loop : ∀ (k : Nat) (good bad i : Int) (τ : aH), (1440 - i).toNat = k → 0 ≤ i → i ≤ 1440 → Fr A34 σ τ → 0 ≤ good → good < bad → bad ≤ rI σ u 5 + 1 → bad - good ≤ 1441 - i → (good = 0 ∨ f good ≤ much) → (bad = rI σ u 5 + 1 ∨ much < f bad) → L_X6_latestFold_15 (Ev sc (d + 3)) sc (QI (fun r σ1 => Fr A34 σ σ1 ∧ FoldS f (rI σ u 5) much r)) much good bad i τ := by
    intro k
    induction k with
    | zero =>
      intro good bad i τ hk i0 i1 hF g0 g1 g2 g3 g4 g5
      apply v_X6_latestFold_15 (hF.g hG) hy (by omega) (by omega) (by omega)
      refine ⟨fun g => ⟨_, rfl, by omega, hF, ⟨by omega, by omega⟩, g4, ?_⟩, fun g => by omega⟩
      rw [show good + 1 = bad by omega]; omega
    | succ k ih =>
      intro good bad i τ hk i0 i1 hF g0 g1 g2 g3 g4 g5
      apply v_X6_latestFold_15 (hF.g hG) hy (by omega) (by omega) (by omega)
      refine ⟨fun g => by omega, fun g => ⟨by omega, fun c => ⟨_, rfl, by omega, hF, ⟨by omega, by omega⟩, g4, ?_⟩, fun c => ⟨by omega, by omega, by omega, fun z ez => ?_⟩⟩⟩
      · rw [show good + 1 = bad by omega]; omega
      · obtain ⟨σ1, r, he, hF1, he2, hr, h2⟩ := s_totAB (sc := sc) (d := d) (a := 0) (b := z) (hF.g hG) (hF.sh hA hSh) (hM.fr hF (fun a i h => hA a i (by omega) (by omega))) (by omega) (by omega)
        have h3 : r = f z := by
          rw [h2, hf, hF.fa hA, hF.row (fun i => hA (u + 8) i (by omega) (by omega)), hF.rw (a := u + 1) (i := 9) (by omega) (hA _ _ (by omega) (by omega)), hF.rw (a := u) (i := 5) (by omega) (hA _ _ (by omega) (by omega)), hF.rw (a := u) (i := 6) (by omega) (hA _ _ (by omega) (by omega))]
        have hF2 : Fr A34 σ σ1 := hF.trans hF1
        refine ⟨σ1, he, hF2.g hG, r, σ1, he2, hF2.g hG, hr, fun c1 => ⟨by omega, ?_⟩, fun c1 => ⟨by omega, ?_⟩⟩
        · exact ih good z (i + 1) σ1 (by omega) (by omega) (by omega) hF2 (by omega) (by omega) (by omega) (by omega) g4 (Or.inr (by omega))
        · exact ih z bad (i + 1) σ1 (by omega) (by omega) (by omega) hF2 (by omega) (by omega) (by omega) (by omega) (Or.inr (by omega)) g5
  refine ⟨by omega, fun z ez => ?_⟩
  exact loop _ 0 z 0 σ rfl (by omega) (by omega) (Fr.refl _ _) (by omega) (by omega) (by omega) (by omega) (Or.inl rfl) (Or.inl ez)
noncomputable def LanT (fa : Int → Int → Int → Prop) (la S F1 : Int → Int) (n : Int) : Int := sm (fun i => sm (fun j => cif (la i = 1) (Fsm fa S F1 i j) 0) n.toNat) n.toNat
theorem s_dueByLanterns {S F F1 : Int → Int} (hG : G σ u) (hSh : Sh σ u n) (hW : WtS (rI σ) 28 S F F1) (hS : SB S) (hF1 : F9 F1) : TI sc (d + 3) mX6_dueByLanterns [.ref 27] σ (fun r σ1 => σ1 = σ ∧ r = LanT (FaC (rI σ) u n) (rI σ (u + 8)) S F1 n) := by
  have a1 := hSh.2.2.1.1
  have a2 := hSh.1
  have a3 := hSh.2.1
  obtain ⟨ce, hce⟩ : ∃ ce : Int → Int → Int, ce = fun i j => cif (rI σ (u + 8) i = 1) (Fsm (FaC (rI σ) u n) S F1 i j) 0 := ⟨_, rfl⟩
  have hT : LanT (FaC (rI σ) u n) (rI σ (u + 8)) S F1 n = sm (fun i => sm (fun j => ce i j) n.toNat) n.toNat := by rw [hce]; rfl
  rw [hT]
  have cb : ∀ i j, 0 ≤ ce i j ∧ ce i j ≤ 12960 := by
    intro i j
    rw [hce]
    exact cif_bd (Fsm_bd hF1) (by omega)
  have rb : ∀ (i : Int) (k : Nat), 0 ≤ sm (fun j => ce i j) k ∧ sm (fun j => ce i j) k ≤ 12960 * k := fun i k => by
    have := sm_bd (n := k) (f := fun j => ce i j) (fun t _ _ => cb i t); omega
  have tb : ∀ k : Nat, 0 ≤ sm (fun i => sm (fun j => ce i j) n.toNat) k ∧ sm (fun i => sm (fun j => ce i j) n.toNat) k ≤ 116640 * k := fun k => by
    have := sm_bd (n := k) (lo := 0) (hi := 116640) (f := fun i => sm (fun j => ce i j) n.toNat) (fun t _ _ => by have := rb t n.toNat; omega); omega
  apply T.int
  apply t_X6_dueByLanterns hG
  have loop : ∀ (f : Nat) (i sum : Int), (n - i).toNat = f → 0 ≤ i → i ≤ n → sum = sm (fun i => sm (fun j => ce i j) n.toNat) i.toNat → L_X6_dueByLanterns_12 (Ev sc (d + 2)) sc (QI (fun r σ1 => σ1 = σ ∧ r = sm (fun i => sm (fun j => ce i j) n.toNat) n.toNat)) u sum i σ := by
    intro f
    induction f with
    | zero =>
      intro i sum hf i0 i1 hs
      have := tb i.toNat
      apply v_X6_dueByLanterns_12 hG (by omega) (by omega)
      exact ⟨fun g => ⟨_, rfl, by omega, rfl, by rw [hs, show i.toNat = n.toNat by omega]⟩, fun g => by omega⟩
    | succ f ih =>
      intro i sum hf i0 i1 hs
      have ht := tb i.toNat
      apply v_X6_dueByLanterns_12 hG (by omega) (by omega)
      refine ⟨fun g => by omega, fun g => ?_⟩
      have inner : ∀ (f2 : Nat) (j sum : Int), (n - j).toNat = f2 → 0 ≤ j → j ≤ n → sum = sm (fun i => sm (fun j => ce i j) n.toNat) i.toNat + sm (fun j => ce i j) j.toNat → L_X6_dueByLanterns_23 (Ev sc (d + 2)) sc (QI (fun r σ1 => σ1 = σ ∧ r = sm (fun i => sm (fun j => ce i j) n.toNat) n.toNat)) u sum i j σ := by
        intro f2
        induction f2 with
        | zero =>
          intro j sum hf2 j0 j1 hs
          have hr := rb i j.toNat
          apply v_X6_dueByLanterns_23 hG (by omega) (by omega) (by omega)
          refine ⟨fun g => ⟨by omega, ih (i + 1) sum (by omega) (by omega) (by omega) ?_⟩, fun g => by omega⟩
          rw [sm_toNat _ i0, hs, show j.toNat = n.toNat by omega]
        | succ f2 ih2 =>
          intro j sum hf2 j0 j1 hs
          have hr := rb i j.toNat
          have hc := cb i j
          apply v_X6_dueByLanterns_23 hG (by omega) (by omega) (by omega)
          refine ⟨fun g => by omega, fun g => ⟨by omega, fun g1 => ⟨by omega, ih (i + 1) sum (by omega) (by omega) (by omega) ?_⟩, fun g1 => ⟨fun g2 => ⟨by omega, ih2 (j + 1) sum (by omega) (by omega) (by omega) ?_⟩, fun g2 => ?_⟩⟩⟩
          · have z : ∀ k : Nat, sm (fun j => ce i j) k = 0 := fun k => sm_eq0 (fun t _ _ => by rw [hce]; exact cif_neg g1)
            rw [sm_toNat _ i0, hs, z, z]
          · have e : ce i j = 0 := by
              rw [hce, ← g2]
              exact (cif_pos g1).trans (Fsm_no (fun t _ _ => falls_irr))
            rw [sm_toNat _ j0, e]; omega
          · have e : ce i j = Fsm (FaC (rI σ) u n) S F1 i j := by rw [hce]; exact cif_pos g1
            obtain ⟨r6, σ1, he1, hr1, rfl, hN1⟩ := s_needF (sc := sc) (d := d) hG hSh (show 0 ≤ i ∧ i < n by omega) (show 0 ≤ j ∧ j < n by omega)
            refine ⟨r6, σ1, he1, hG, hr1, ?_⟩
            obtain ⟨r11, σ2, he2, hr2, rfl, h2e⟩ := s_lanternsAt (sc := sc) (d := d + 1) (F := F) hG (show IsWt 28 from Or.inl rfl) hW hS hN1
            have h2e : r11 = ce i j := by rw [e]; exact h2e
            refine ⟨r11, σ2, he2, hG, hr2, by omega, fun z17 e17 => ⟨by omega, ?_⟩⟩
            refine ih2 (j + 1) z17 (by omega) (by omega) (by omega) ?_
            rw [sm_toNat _ j0]; omega
      exact inner _ 0 sum rfl (by omega) a3 (by rw [show (0 : Int).toNat = 0 from rfl, sm_0]; omega)
  exact loop _ 0 0 rfl (by omega) a3 (sm_0 _).symm
end
