/-! THE REFERENCE: whose, harmless, awned, hour, suns, folded. -/
abbrev AMz : Nat → Int → Prop := fun a i => AMp a i ∨ (a = 76 ∧ i = 0)
/-- the first of the greatest -/
def HrS (T : Int → Int) (k b : Int) : Prop := (0 ≤ b ∧ b < k) ∧ ∀ h : Int, 0 ≤ h → h < k → T h ≤ T b ∧ (h < b → T h < T b)
theorem HrS.uniq {T : Int → Int} {k b c : Int} (h : HrS T k b) (q : HrS T k c) : b = c := by
  have h1 := h.2 c q.1.1 q.1.2
  have q1 := q.2 b h.1.1 h.1.2
  by_cases e : b < c
  · have := q1.2 e; omega
  · by_cases e2 : c < b
    · have := h1.2 e2; omega
    · omega
theorem Tot_F4 {fa : Int → Int → Int → Prop} {la S F F1 F2 F3 : Int → Int} {n g : Int} (h : ∀ t : Int, 0 ≤ t → t < 1440 → F t = F2 t ∧ F1 t = F3 t) : Tot fa la S F F1 n g = Tot fa la S F2 F3 n g := by
  have a : ∀ i j : Int, Fsm fa S F i j = Fsm fa S F2 i j := fun i j => sm_congr (fun t t0 t1 => by rw [(h t t0 (by omega)).1])
  have b : ∀ i j : Int, Fsm fa S F1 i j = Fsm fa S F3 i j := fun i j => sm_congr (fun t t0 t1 => by rw [(h t t0 (by omega)).2])
  refine sm_congr (fun i i0 i1 => sm_congr (fun j j0 j1 => ?_))
  have : Prc fa la S F F1 i j = Prc fa la S F2 F3 i j := by unfold Prc; rw [a, b]
  rw [this]
section
variable {sc : Nat × (Nat → Int32)} {d : Nat} {σ : aH} {u : Nat} {n W H : Int} {D : Nat → Int → Int} {Es Er : Nat → Option Int} {K : Int} {fr va : Int → Int} {du fo g : Int}
theorem LedT_bd {fa : Int → Int → Int → Prop} {S : Int → Int} {j i : Int} : 0 ≤ LedT fa n S j i ∧ LedT fa n S j i ≤ 1440 := Gs_bd1
theorem m_whose {x : Int} (hG : G σ u) (hM : Mf σ n (-1) W H D Es Er K fr va du fo) (h2 : rI σ 80 2 = n) (rx : inR x) (hc : Rc σ) : TI sc (d + 6) mX10_whose [.ref 76, .int (nZ x)] σ (OB σ (0 ≤ x ∧ x < n) 1 0 (fun r σ1 => Fr AGz σ σ1 ∧ rI σ1 76 0 = 0 ∧ ∃ val : Int, BestS (fun k => 0 ≤ k ∧ k < n) (fun k => -(LedT (Falls D n (-1) (1 + rI σ 76 19)) n (sT Es fo) x k)) 0 val r)) := by
  have h9 := hM.1.1.2.1
  apply T.int
  apply t_X10_whose hG rx
  intro σ1 e1
  obtain ⟨hG1, t1, hF1, hM1, o1⟩ := m_pre hG hM e1
  obtain ⟨r, σ2, he, hr, hF, ht, hg, -, h⟩ := m_goD (sc := sc) (d := d) hG hM e1
  obtain ⟨r4, σ4, he4, hr4, e4, hx⟩ := m_isStall (sc := sc) (d := d + 3) (x := x) hG1 ((o1 80 2 (by omega)).trans h2) h9 rx
  subst e4
  obtain ⟨σ3, he3, hm3⟩ := m_bad1 (sc := sc) (d := d + 4) (w := 1) (q := 0) hG1 t1 (by omega) (by omega) ((hc.pre e1) 0 (by omega))
  obtain ⟨V, hV⟩ : ∃ V : Int → Int, V = fun k => LedT (Falls D n (-1) (1 + rI σ 76 19)) n (sT Es fo) x k := ⟨_, rfl⟩
  have hVb : ∀ k : Int, 0 ≤ V k ∧ V k ≤ 1440 := fun k => by rw [hV]; exact LedT_bd
  have eW : (fun k : Int => -(LedT (Falls D n (-1) (1 + rI σ 76 19)) n (sT Es fo) x k)) = fun k => -(V k) := by rw [hV]
  rw [eW]
  obtain ⟨P, hP⟩ : ∃ P : aO → aH → Prop, P = QI (OB σ (0 ≤ x ∧ x < n) 1 0 (fun r σ1 => Fr AGz σ σ1 ∧ rI σ1 76 0 = 0 ∧ ∃ val : Int, BestS (fun k => 0 ≤ k ∧ k < n) (fun k => -(V k)) 0 val r)) := ⟨_, rfl⟩
  rw [← hP]
  have n2 : rI σ2 80 2 = n := (hF.rw (by omega) (AGz_no _ _ (by omega))).trans h2
  have loop : (0 ≤ x ∧ x < n) → ∀ (f : Nat) (x2 x3 k : Int), (n - k).toNat = f → 0 ≤ k → k ≤ n → inR x2 → inR x3 → BestS (fun c => (0 ≤ c ∧ c < n) ∧ c < k) (fun k => -(V k)) 0 (-x3) x2 → L_X10_whose_41 (Ev sc (d + 5)) sc P x x2 x3 k σ2 := by
    intro ok f
    induction f with
    | zero =>
      intro x2 x3 k hf k0 k1 i2 i3 hb
      apply v_X10_whose_41 (hF.g hG) rx i2 i3 (by omega)
      refine ⟨fun _ => ?_, fun q => by omega⟩
      rw [hP]
      exact ⟨x2, rfl, i2, Or.inl ⟨ok, hF, ht, _, hb.done (fun c hc => by omega)⟩⟩
    | succ f ih =>
      intro x2 x3 k hf k0 k1 i2 i3 hb
      have ev : rI σ2 (302 + x.toNat) k = V k := by rw [hV]; exact (hg.1 k x k0 (by omega) ok.1 ok.2).2.2
      have vb := hVb k
      apply v_X10_whose_41 (hF.g hG) rx i2 i3 (by omega)
      rw [ev]
      refine ⟨fun q => by omega, fun _ => ⟨by omega, by omega, fun q => ⟨by omega, by omega, fun z3 ez => ⟨by omega, ?_⟩⟩, fun q => ⟨by omega, ?_⟩⟩⟩
      · subst ez
        exact ih k _ (k + 1) (by omega) (by omega) (by omega) (by omega) (by omega) (hb.take ⟨k0, by omega⟩ (by show -(V k) < -x3; omega))
      · refine ih x2 x3 (k + 1) (by omega) (by omega) (by omega) i2 i3 (hb.ext (by omega) (fun c _ a b => ?_))
        have : c = k := by omega
        subst this
        show -x3 ≤ -(V c); omega
  refine ⟨r4, σ4, he4, hG1, hr4, fun q => ?_, fun q => ?_⟩
  · apply v_X10_whose_19 hG1 rx (by decide)
    refine ⟨0, σ4, m_bad0 hG1 t1 (by decide) (by decide), hG1, by decide, fun _ => ⟨r, σ2, he, hF.g hG, hr, ?_⟩, fun z => absurd rfl z⟩
    refine loop (by omega) _ (-1) 0 0 rfl (by omega) h9.1 (by decide) (by decide) ?_
    exact BestS.start (fun c q => q.1)
  · apply v_X10_whose_19 hG1 rx (by decide)
    rw [hP]
    exact ⟨1, σ3, he3, hm3.g hG1, by decide, fun z => absurd z (by decide), fun _ => ⟨0, rfl, by decide, Or.inr ⟨by omega, rfl, hm3.pre e1⟩⟩⟩
theorem m_hour {x : Int} (hG : G σ u) (hM : Mf σ n (-1) W H D Es Er K fr va du fo) (rx : inR x) (hc : Rc σ) : TI sc (d + 6) mX10_hour [.ref 76, .int (nZ x)] σ (OB σ (0 ≤ x ∧ x ≤ 1) 1 1 (fun r σ1 => Fr AGz σ σ1 ∧ rI σ1 76 0 = 0 ∧ ∃ b : Int, HrS (fun h => TotAB (Falls D n (-1) (1 + rI σ 76 19)) (D 6) (sT Es fo) (aT Er 1) du n (-1) (60 * h) (60 * h + 60)) 24 b ∧ r = if x = 0 then b else TotAB (Falls D n (-1) (1 + rI σ 76 19)) (D 6) (sT Es fo) (aT Er 1) du n (-1) (60 * b) (60 * b + 60))) := by
  apply T.int
  apply t_X10_hour hG rx
  intro σ1 e1
  obtain ⟨hG1, t1, hF1, hM1, o1⟩ := m_pre hG hM e1
  obtain ⟨r, σ2, he, hr, hF, ht, hg, -, h⟩ := m_goD (sc := sc) (d := d) hG hM e1
  obtain ⟨r6, σ6, he6, hr6, e6, hx6⟩ := m_in (sc := sc) (d := d + 4) (x := x) (lo := 0) (hi := 1) hG1 rx (by decide) (by decide)
  subst e6
  obtain ⟨σ3, he3, hm3⟩ := m_bad1 (sc := sc) (d := d + 4) (w := 1) (q := 1) hG1 t1 (by omega) (by omega) ((hc.pre e1) 1 (by omega))
  obtain ⟨T, hT⟩ : ∃ T : Int → Int, T = fun h => TotAB (Falls D n (-1) (1 + rI σ 76 19)) (D 6) (sT Es fo) (aT Er 1) du n (-1) (60 * h) (60 * h + 60) := ⟨_, rfl⟩
  have eT : ∀ b : Int, TotAB (Falls D n (-1) (1 + rI σ 76 19)) (D 6) (sT Es fo) (aT Er 1) du n (-1) (60 * b) (60 * b + 60) = T b := fun b => by rw [hT]
  rw [← hT]
  obtain ⟨P, hP⟩ : ∃ P : aO → aH → Prop, P = QI (OB σ (0 ≤ x ∧ x ≤ 1) 1 1 (fun r σ1 => Fr AGz σ σ1 ∧ rI σ1 76 0 = 0 ∧ ∃ b : Int, HrS T 24 b ∧ r = if x = 0 then b else TotAB (Falls D n (-1) (1 + rI σ 76 19)) (D 6) (sT Es fo) (aT Er 1) du n (-1) (60 * b) (60 * b + 60))) := ⟨_, rfl⟩
  rw [← hP]
  have ev : ∀ k : Int, 0 ≤ k → k < 24 → rI σ2 312 k = T k := fun k k0 k1 => by
    rw [hg.2.2.2.2.1 k k0 k1, hT]
    refine Tot_F4 (fun t t0 t1 => ⟨?_, ?_⟩)
    · exact cif_congr ⟨fun q => by omega, fun q => by omega⟩
    · exact cif_congr ⟨fun q => by omega, fun q => by omega⟩
  have loop : (0 ≤ x ∧ x ≤ 1) → ∀ (f : Nat) (b k : Int), (24 - k).toNat = f → 1 ≤ k → k ≤ 24 → HrS T k b → L_X10_hour_39 (Ev sc (d + 5)) sc P x b k σ2 := by
    intro ok f
    induction f with
    | zero =>
      intro b k hf k0 k1 hb
      have e : k = 24 := by omega
      have bb := hb.1
      apply v_X10_hour_39 (hF.g hG) rx (by omega) (by omega)
      refine ⟨fun _ => ⟨fun q => ⟨by omega, ?_⟩, fun q => ?_⟩, fun q => by omega⟩
      · rw [hP]
        refine ⟨_, rfl, rI_R _ _ _, Or.inl ⟨ok, hF, ht, b, by rw [← e]; exact hb, ?_⟩⟩
        rw [if_neg q, eT]; exact ev b (by omega) (by omega)
      · rw [hP]
        exact ⟨b, rfl, by omega, Or.inl ⟨ok, hF, ht, b, by rw [← e]; exact hb, by rw [if_pos q]⟩⟩
    | succ f ih =>
      intro b k hf k0 k1 hb
      have bb := hb.1
      apply v_X10_hour_39 (hF.g hG) rx (by omega) (by omega)
      rw [ev k (by omega) (by omega), ev b (by omega) (by omega)]
      refine ⟨fun q => by omega, fun _ => ⟨by omega, by omega, fun q => ⟨by omega, ih b (k + 1) (by omega) (by omega) (by omega) ⟨by omega, fun h h0 h1 => ?_⟩⟩, fun q => ⟨by omega, ih k (k + 1) (by omega) (by omega) (by omega) ⟨by omega, fun h h0 h1 => ?_⟩⟩⟩⟩
      · by_cases c : h = k
        · rw [c]; exact ⟨q, fun z => by omega⟩
        · exact hb.2 h h0 (by omega)
      · by_cases c : h = k
        · rw [c]; exact ⟨Int.le_refl _, fun z => by omega⟩
        · have := hb.2 h h0 (by omega); exact ⟨by omega, fun z => by omega⟩
  have st : HrS T 1 0 := ⟨by omega, fun h h0 h1 => by
    have : h = 0 := by omega
    subst this
    exact ⟨Int.le_refl _, fun z => by omega⟩⟩
  refine ⟨r6, σ6, he6, hG1, hr6, fun q => ⟨0, σ6, m_bad0 hG1 t1 (by decide) (by decide), hG1, by decide, fun _ => ⟨r, σ2, he, hF.g hG, hr, loop (by omega) _ 0 1 rfl (by omega) (by omega) st⟩, fun z => absurd rfl z⟩, fun q => ⟨1, σ3, he3, hm3.g hG1, by decide, fun z => absurd z (by decide), fun _ => ?_⟩⟩
  rw [hP]; exact ⟨0, rfl, by decide, Or.inr ⟨by omega, rfl, hm3.pre e1⟩⟩
theorem m_suns (hG : G σ u) (hM : Mf σ n (-1) W H D Es Er K fr va du fo) : TI sc (d + 6) mX10_suns [.ref 76] σ (fun r σ1 => Fr AGz σ σ1 ∧ rI σ1 76 0 = 0 ∧ SunS (Falls D n (-1) (1 + rI σ 76 19)) (D 6) (sT Es fo) (aT Er 1) du n (-1) Es r) := by
  have h9 := hM.1.1.2.1
  have hE := hM.1.2.2.2.2.2.2.2.2.2.2.2.2.2.2
  have hU := hM.1.2.2.2.2.2.2.2.2.2.2.1
  have hK := hM.1.2.2.2.2.2.2.2.2.1
  have hfr := hM.1.2.2.2.2.2.2.2.2.2.1
  obtain ⟨hKb, hU1, hU2, hU3⟩ := hU
  apply T.int
  apply t_X10_suns hG
  intro σ1 e1
  obtain ⟨r, σ2, he, hr, hF, ht, hg, -, h⟩ := m_goD (sc := sc) (d := d) hG hM e1
  obtain ⟨V, hV⟩ : ∃ V : Int → Int, V = fun m => SunV (Falls D n (-1) (1 + rI σ 76 19)) (D 6) (sT Es fo) (aT Er 1) du n (-1) Es m := ⟨_, rfl⟩
  have hVb : ∀ m : Int, 0 ≤ V m := fun m => by
    rw [hV]
    exact (Tot_bd h9.2 (F9_cif (rate9 hE) (fun t => lat Es t = m)) (F9_cif (rate9 hE) (fun t => lat Es t = m ∧ du ≤ t))).1
  have hS : ∀ r : Int, SunS (Falls D n (-1) (1 + rI σ 76 19)) (D 6) (sT Es fo) (aT Er 1) du n (-1) Es r = ∃ val : Int, BestS (SunC Es) (fun m => -(V m)) 0 val r := fun r => by rw [hV]; rfl
  obtain ⟨P, hP⟩ : ∃ P : aO → aH → Prop, P = QI (fun r σ1 => Fr AGz σ σ1 ∧ rI σ1 76 0 = 0 ∧ SunS (Falls D n (-1) (1 + rI σ 76 19)) (D 6) (sT Es fo) (aT Er 1) du n (-1) Es r) := ⟨_, rfl⟩
  rw [← hP]
  have ev : ∀ k : Int, 0 ≤ k → k < K → rI σ2 313 k = V (fr k) := fun k k0 k1 => by rw [hV]; exact hg.2.2.2.2.2 k k0 k1
  have ef : ∀ k : Int, 0 ≤ k → k < K → rI σ2 (122 + k.toNat) 0 = fr k := fun k k0 k1 => (hF.rw (by omega) (AGz_no _ _ (by omega))).trans (hfr k k0 k1).1
  have k6 : rI σ2 80 6 = K := (hF.rw (by omega) (AGz_no _ _ (by omega))).trans hK
  have cand : ∀ c : Int, SunC Es c → ∃ i : Int, (0 ≤ i ∧ i < K) ∧ fr i = c := by
    intro c hcc
    obtain ⟨c0, c1, c2⟩ := hcc
    cases hq : Es c.toNat with
    | none => exact absurd hq c2
    | some v =>
      obtain ⟨i, i0, i1, i2⟩ := hU3 _ _ hq
      exact ⟨i, ⟨i0, i1⟩, by omega⟩
  have can2 : ∀ i : Int, 0 ≤ i → i < K → SunC Es (fr i) := fun i i0 i1 => by
    obtain ⟨a, b, c⟩ := hU1 i i0 i1
    exact ⟨a, b, by rw [c]; intro z; cases z⟩
  have loop : ∀ (f : Nat) (b k : Int), (K - k).toNat = f → 0 ≤ k → k ≤ K → ((b = -1 ∧ ∀ i : Int, 0 ≤ i → i < k → V (fr i) = 0) ∨ ((0 ≤ b ∧ b < k) ∧ 0 < V (fr b) ∧ ∀ i : Int, 0 ≤ i → i < k → V (fr i) ≤ V (fr b) ∧ (V (fr i) = V (fr b) → fr b ≤ fr i))) → L_X10_suns_14 (Ev sc (d + 5)) sc P b k σ2 := by
    intro f
    induction f with
    | zero =>
      intro b k hf k0 k1 hb
      apply v_X10_suns_14 (hF.g hG) (by omega) (by omega)
      refine ⟨fun _ => ⟨fun q => ⟨by omega, ?_⟩, fun q => ?_⟩, fun q => by omega⟩
      · rw [hP]
        rcases hb with ⟨a, _⟩ | ⟨a, c, e⟩
        · exact absurd a q
        refine ⟨_, rfl, rI_R _ _ _, hF, ht, ?_⟩
        rw [hS, ef b (by omega) (by omega)]
        refine ⟨_, Or.inr ⟨can2 b (by omega) (by omega), rfl, by show -(V (fr b)) < 0; omega, fun c hcc => ?_⟩⟩
        obtain ⟨i, ii, ei⟩ := cand c hcc
        have := e i ii.1 (by omega)
        rw [ei] at this
        exact ⟨by show -(V (fr b)) ≤ -(V c); omega, fun z => by show -(V (fr b)) < -(V c); omega⟩
      · rw [hP]
        rcases hb with ⟨_, a⟩ | ⟨a, _⟩
        · refine ⟨-1, rfl, by decide, hF, ht, ?_⟩
          rw [hS]
          refine ⟨0, Or.inl ⟨rfl, rfl, fun c hcc => ?_⟩⟩
          obtain ⟨i, ii, ei⟩ := cand c hcc
          have := a i ii.1 (by omega)
          rw [ei] at this
          show (0 : Int) ≤ -(V c); omega
        · omega
    | succ f ih =>
      intro b k hf k0 k1 hb
      have vb := hVb (fr k)
      apply v_X10_suns_14 (hF.g hG) (by omega) (by omega)
      rw [k6, ev k k0 (by omega), ef k k0 (by omega)]
      refine ⟨fun q => by omega, fun _ => ⟨by omega, fun q => ⟨fun q1 => ⟨by omega, ih k (k + 1) (by omega) (by omega) (by omega) (Or.inr ⟨by omega, by omega, fun i i0 i1 => ?_⟩)⟩, fun q1 => ?_⟩, fun q => ⟨by omega, ih b (k + 1) (by omega) (by omega) (by omega) ?_⟩⟩⟩
      · by_cases c : i = k
        · rw [c]; exact ⟨Int.le_refl _, fun _ => Int.le_refl _⟩
        · rcases hb with ⟨_, a⟩ | ⟨a, _⟩
          · have := a i i0 (by omega); omega
          · omega
      · rcases hb with ⟨a, _⟩ | ⟨a, c0, e⟩
        · exact absurd a q1
        rw [ev b (by omega) (by omega), ef b (by omega) (by omega)]
        have tk : (V (fr b) < V (fr k) ∨ (V (fr k) = V (fr b) ∧ fr k < fr b)) → ∀ i : Int, 0 ≤ i → i < k + 1 → V (fr i) ≤ V (fr k) ∧ (V (fr i) = V (fr k) → fr k ≤ fr i) := by
          intro hq i i0 i1
          by_cases c : i = k
          · rw [c]; exact ⟨Int.le_refl _, fun _ => Int.le_refl _⟩
          · have := e i i0 (by omega); omega
        have st : ¬ (V (fr b) < V (fr k) ∨ (V (fr k) = V (fr b) ∧ fr k < fr b)) → ∀ i : Int, 0 ≤ i → i < k + 1 → V (fr i) ≤ V (fr b) ∧ (V (fr i) = V (fr b) → fr b ≤ fr i) := by
          intro hq i i0 i1
          by_cases c : i = k
          · rw [c]; omega
          · exact e i i0 (by omega)
        refine ⟨by omega, by omega, fun q2 => ⟨by omega, ih k (k + 1) (by omega) (by omega) (by omega) (Or.inr ⟨by omega, by omega, tk (Or.inl q2)⟩)⟩, fun q2 => ⟨by omega, by omega, fun q3 => ⟨by omega, ih b (k + 1) (by omega) (by omega) (by omega) (Or.inr ⟨by omega, c0, st (by omega)⟩)⟩, fun q3 => ⟨by omega, by omega, fun q4 => ⟨by omega, ih b (k + 1) (by omega) (by omega) (by omega) (Or.inr ⟨by omega, c0, st (by omega)⟩)⟩, fun q4 => ⟨by omega, ih k (k + 1) (by omega) (by omega) (by omega) (Or.inr ⟨by omega, by omega, tk (Or.inr ⟨q3, by omega⟩)⟩)⟩⟩⟩⟩
      · rcases hb with ⟨a, a2⟩ | ⟨a, c0, e⟩
        · refine Or.inl ⟨a, fun i i0 i1 => ?_⟩
          by_cases c : i = k
          · rw [c]; exact q
          · exact a2 i i0 (by omega)
        · refine Or.inr ⟨by omega, c0, fun i i0 i1 => ?_⟩
          by_cases c : i = k
          · rw [c]; omega
          · exact e i i0 (by omega)
  exact ⟨r, σ2, he, hF.g hG, hr, loop _ (-1) 0 rfl (by omega) hKb.1 (Or.inl ⟨rfl, fun i a b => by omega⟩)⟩
theorem m_folded {x : Int} (hG : G σ u) (hM : Mf σ n (-1) W H D Es Er K fr va du fo) (rx : inR x) (hc : Rc σ) : TI sc (d + 5) mX10_folded [.ref 76, .int (nZ x)] σ (OB σ (0 ≤ x ∧ x ≤ 99999) 1 1 (fun r σ1 => Fr AGz σ σ1 ∧ rI σ1 76 0 = 0 ∧ FoldS (fun b => TotAB (Falls D n (-1) (1 + rI σ 76 19)) (D 6) (sT Es fo) (aT Er 1) du n (-1) 0 b) fo x r)) := by
  have hfo := hM.2.2
  apply T.int
  apply t_X10_folded hG rx
  intro σ1 e1
  obtain ⟨hG1, t1, hF1, hM1, o1⟩ := m_pre hG hM e1
  obtain ⟨r6, σ6, he6, hr6, e6, hx6⟩ := m_in (sc := sc) (d := d + 3) (x := x) (lo := 0) (hi := 99999) hG1 rx (by decide) (by decide)
  subst e6
  obtain ⟨σ3, he3, hm3⟩ := m_bad1 (sc := sc) (d := d + 3) (w := 1) (q := 1) hG1 t1 (by omega) (by omega) ((hc.pre e1) 1 (by omega))
  have w1 : rI σ6 76 19 = rI σ 76 19 := o1 76 19 (by omega)
  obtain ⟨T, hT⟩ : ∃ T : Int → Int, T = fun b => TotAB (Falls D n (-1) (1 + rI σ 76 19)) (D 6) (sT Es fo) (aT Er 1) du n (-1) 0 b := ⟨_, rfl⟩
  rw [← hT]
  obtain ⟨P, hP⟩ : ∃ P : aO → aH → Prop, P = QI (OB σ (0 ≤ x ∧ x ≤ 99999) 1 1 (fun r σ1 => Fr AGz σ σ1 ∧ rI σ1 76 0 = 0 ∧ FoldS T fo x r)) := ⟨_, rfl⟩
  rw [← hP]
  have loop : (0 ≤ x ∧ x ≤ 99999) → ∀ (f : Nat) (a b : Int) (τ : aH), (b - a).toNat ≤ f → 0 ≤ a → a ≤ b → b ≤ fo → Fr AGo σ6 τ → (a = 0 ∨ T a ≤ x) → (b = fo ∨ x < T (b + 1)) → L_X10_folded_41 (Ev sc (d + 4)) sc P x a b τ := by
    intro ok f
    induction f with
    | zero =>
      intro a b τ hf a0 ab bf hFt h1 h2'
      apply v_X10_folded_41 (hFt.g hG1) rx (by omega) (by omega)
      refine ⟨fun _ => ?_, fun q => by omega⟩
      have e : a = b := by omega
      rw [hP]
      exact ⟨a, rfl, by omega, Or.inl ⟨ok, (hF1.weak (fun a i z => Or.inr z)).trans (hFt.weak (fun a i z => Or.inl z)), (hFt.rw (by omega) (AGo_t 0 (by omega))).trans t1, by omega, h1, by rw [e]; exact h2'⟩⟩
    | succ f ih =>
      intro a b τ hf a0 ab bf hFt h1 h2'
      apply v_X10_folded_41 (hFt.g hG1) rx (by omega) (by omega)
      refine ⟨fun q => ?_, fun q => ⟨by omega, by omega, by omega, by omega, fun z ez => ?_⟩⟩
      · have e : a = b := by omega
        rw [hP]
        exact ⟨a, rfl, by omega, Or.inl ⟨ok, (hF1.weak (fun a i z => Or.inr z)).trans (hFt.weak (fun a i z => Or.inl z)), (hFt.rw (by omega) (AGo_t 0 (by omega))).trans t1, by omega, h1, by rw [e]; exact h2'⟩⟩
      · have hMt : Mf τ n (-1) W H D Es Er K fr va du fo := hM1.frm hFt (fun a i z => by show ¬ ((261 ≤ a ∧ a ≤ 313) ∨ (a = 76 ∧ (i = 36 ∨ i = 37))); omega) (fun i z => by show ¬ ((261 ≤ 76 ∧ 76 ≤ 313) ∨ (76 = 76 ∧ (i = 36 ∨ i = 37))); omega)
        obtain ⟨σ7, he7, hF7, -, hg7⟩ := m_goes (sc := sc) (d := d) (un := 1440) (fo := z) (cl := 0) (hFt.g hG1) hMt.1 (by omega) (by omega) (by omega)
        rw [Sg_0, show min 1440 z = min z fo by omega, hFt.rw (by omega) (by show ¬ ((261 ≤ 76 ∧ 76 ≤ 313) ∨ (76 = 76 ∧ ((19 : Int) = 36 ∨ (19 : Int) = 37))); omega), w1] at hg7
        have hg8 := hg7.fa (fb := Falls D n (-1) (1 + rI σ 76 19)) (fun i j s i0 i1 j0 j1 => FaM_iff i0 j0)
        have e7 : rI σ7 76 36 = T z := by
          rw [hg8.2.2.1, hT]
          refine sm_congr (fun i i0 i1 => sm_congr (fun j j0 j1 => ?_))
          rw [PrU fa_no]
        have hF17 : Fr AGo σ6 σ7 := hFt.trans hF7
        refine ⟨σ7, he7, hF17.g hG1, ?_⟩
        rw [e7]
        refine ⟨fun q1 => ⟨by omega, fun z12 e12 => ih a z12 σ7 (by omega) a0 (by omega) (by omega) hF17 h1 (Or.inr ?_)⟩, fun q1 => ih z b σ7 (by omega) (by omega) (by omega) bf hF17 (Or.inr (by omega)) h2'⟩
        rw [show z12 + 1 = z by omega]; exact q1
  have hfo1 := hM1.2.1
  refine ⟨r6, σ6, he6, hG1, hr6, fun q => ⟨0, σ6, m_bad0 hG1 t1 (by decide) (by decide), hG1, by decide, fun _ z ez => loop (by omega) _ 0 z σ6 (Nat.le_refl _) (by omega) (by omega) (by omega) (Fr.refl _ _) (Or.inl rfl) (Or.inl (by omega)), fun z => absurd rfl z⟩, fun q => ⟨1, σ3, he3, hm3.g hG1, by decide, fun z => absurd z (by decide), fun _ => ?_⟩⟩
  rw [hP]; exact ⟨0, rfl, by decide, Or.inr ⟨by omega, rfl, hm3.pre e1⟩⟩
end
