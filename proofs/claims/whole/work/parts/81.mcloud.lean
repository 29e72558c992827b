/-! THE REFERENCE: clouds and spans. -/
theorem zOr_0 {x : Int} (h : 0 ≤ x ∧ x ≤ 2147483647) : zOr x 0 = x := by
  have e : (x % 4294967296).toNat ||| ((0 : Int) % 4294967296).toNat = x.toNat := by
    rw [show ((0 : Int) % 4294967296).toNat = 0 from rfl, Nat.or_zero]; omega
  rw [zOr_t (by rw [e]; omega), e]; omega
theorem cif_sm {c : Prop} {f : Int → Int} {k : Nat} : cif c (sm f k) 0 = sm (fun t => cif c (f t) 0) k := by
  by_cases h : c
  · rw [cif_pos h]; exact sm_congr (fun t _ _ => (cif_pos h).symm)
  · rw [cif_neg h]; exact (sm_eq0 (fun t _ _ => cif_neg h)).symm
theorem cif_cif {a b : Prop} {x : Int} : cif a (cif b x 0) 0 = cif b (cif a x 0) 0 := by
  by_cases h : a
  · rw [cif_pos h]; exact cif_congr' h
  · rw [cif_neg h]
    by_cases k : b
    · rw [cif_pos k, cif_neg h]
    · rw [cif_neg k]
where cif_congr' {a b : Prop} {x : Int} (h : a) : cif b x 0 = cif b (cif a x 0) 0 := by rw [cif_pos h]
theorem Fsm_hr {fa : Int → Int → Int → Prop} {Es : Nat → Option Int} {fo cl i j : Int} {V : Int → Int} {Vh : Int → Int → Int} (hfa : ¬ fa i j (-1)) (hV : ∀ h t : Int, 0 ≤ t → t < 1440 → Vh h t = if h = t / 60 then V t else 0) : Fsm fa (Sg Es fo cl) V i j = sm (fun h => cif (bt cl h = 0) (Fsm fa (sT Es fo) (Vh h) i j) 0) 24 := by
  unfold Fsm
  have a : sm (fun h => cif (bt cl h = 0) (sm (fun t => cif (fa i j (sT Es fo t)) (Vh h t) 0) 1440) 0) 24 = sm (fun t => sm (fun h => cif (bt cl h = 0) (cif (fa i j (sT Es fo t)) (Vh h t) 0) 0) 24) 1440 := by
    rw [← sm_comm (fun h t => cif (bt cl h = 0) (cif (fa i j (sT Es fo t)) (Vh h t) 0) 0) 1440 24]
    exact sm_congr (fun h _ _ => cif_sm)
  rw [a]
  refine sm_congr (fun t t0 t1 => ?_)
  have b : sm (fun h => cif (bt cl h = 0) (cif (fa i j (sT Es fo t)) (Vh h t) 0) 0) 24 = sm (fun h => if h = t / 60 then cif (bt cl (t / 60) = 0) (cif (fa i j (sT Es fo t)) (V t) 0) 0 else 0) 24 := by
    refine sm_congr (fun h h0 h1 => ?_)
    rw [hV h t t0 (by omega)]
    by_cases c : h = t / 60
    · rw [if_pos c, if_pos c, c]
    · rw [if_neg c, if_neg c]
      by_cases k : fa i j (sT Es fo t)
      · rw [cif_pos k]; by_cases k2 : bt cl h = 0
        · rw [cif_pos k2]
        · rw [cif_neg k2]
      · rw [cif_neg k]; by_cases k2 : bt cl h = 0
        · rw [cif_pos k2]
        · rw [cif_neg k2]
  rw [b, sm_ind (by omega) (by omega)]
  by_cases c : bt cl (t / 60) = 0
  · rw [cif_pos c]
    have e : Sg Es fo cl t = sT Es fo t := by
      unfold Sg sT
      by_cases k : t < fo
      · rw [if_pos ⟨k, c⟩, if_pos k]
      · rw [if_neg (fun z => k z.1), if_neg k]
    rw [e]
  · rw [cif_neg c]
    have e : Sg Es fo cl t = -1 := by unfold Sg; rw [if_neg (fun z => c z.2)]
    rw [e, cif_neg hfa]
theorem Prc_hr {fa : Int → Int → Int → Prop} {la : Int → Int} {Es : Nat → Option Int} {fo cl i j : Int} {V V1 : Int → Int} {Vh Vg : Int → Int → Int} (hfa : ¬ fa i j (-1)) (hV : ∀ h t : Int, 0 ≤ t → t < 1440 → Vh h t = if h = t / 60 then V t else 0) (hV1 : ∀ h t : Int, 0 ≤ t → t < 1440 → Vg h t = if h = t / 60 then V1 t else 0) : Prc fa la (Sg Es fo cl) V V1 i j = sm (fun h => cif (bt cl h = 0) (Prc fa la (sT Es fo) (Vh h) (Vg h) i j) 0) 24 := by
  have a : sm (fun h => cif (bt cl h = 0) (Prc fa la (sT Es fo) (Vh h) (Vg h) i j) 0) 24 = sm (fun h => cif (bt cl h = 0) (Fsm fa (sT Es fo) (Vh h) i j) 0 + (if la i = 1 then cif (bt cl h = 0) (Fsm fa (sT Es fo) (Vg h) i j) 0 else 0)) 24 := by
    refine sm_congr (fun h _ _ => ?_)
    unfold Prc
    by_cases c : bt cl h = 0
    · rw [cif_pos c, cif_pos c, cif_pos c]
    · rw [cif_neg c, cif_neg c, cif_neg c]; split <;> rfl
  rw [a, sm_add, ← Fsm_hr hfa hV]
  unfold Prc
  congr 1
  by_cases c : la i = 1
  · rw [if_pos c, Fsm_hr hfa hV1]
    exact sm_congr (fun h _ _ => by rw [if_pos c])
  · rw [if_neg c]
    exact (sm_eq0 (fun h _ _ => if_neg c)).symm
theorem Tot_hr {fa : Int → Int → Int → Prop} {la R : Int → Int} {Es : Nat → Option Int} {fo cl du n g : Int} (hfa : ∀ i j : Int, ¬ fa i j (-1)) : Tot fa la (Sg Es fo cl) R (fun t => cif (du ≤ t) (R t) 0) n g = sm (fun h => cif (bt cl h = 0) (TotAB fa la (sT Es fo) R du n g (60 * h) (60 * h + 60)) 0) 24 := by
  have v1 : ∀ h t : Int, 0 ≤ t → t < 1440 → Fn R (60 * h) (60 * h + 60) t = if h = t / 60 then R t else 0 := fun h t t0 t1 => by
    by_cases c : h = t / 60
    · rw [if_pos c]; exact cif_pos (by omega)
    · rw [if_neg c]; exact cif_neg (by omega)
  have v2 : ∀ h t : Int, 0 ≤ t → t < 1440 → Fn R (max (60 * h) du) (60 * h + 60) t = if h = t / 60 then cif (du ≤ t) (R t) 0 else 0 := fun h t t0 t1 => by
    by_cases c : h = t / 60
    · rw [if_pos c]; exact cif_congr ⟨fun q => by omega, fun q => by omega⟩
    · rw [if_neg c]; exact cif_neg (by omega)
  unfold TotAB Tot
  have a : ∀ h : Int, cif (bt cl h = 0) (sm (fun i => sm (fun j => cif (i ≠ g ∧ j ≠ g) (Prc fa la (sT Es fo) (Fn R (60 * h) (60 * h + 60)) (Fn R (max (60 * h) du) (60 * h + 60)) i j) 0) n.toNat) n.toNat) 0 = sm (fun i => sm (fun j => cif (i ≠ g ∧ j ≠ g) (cif (bt cl h = 0) (Prc fa la (sT Es fo) (Fn R (60 * h) (60 * h + 60)) (Fn R (max (60 * h) du) (60 * h + 60)) i j) 0) 0) n.toNat) n.toNat := fun h => by
    rw [cif_sm]
    refine sm_congr (fun i _ _ => ?_)
    rw [cif_sm]
    exact sm_congr (fun j _ _ => cif_cif)
  rw [sm_congr (n := 24) (fun h _ _ => a h)]
  rw [sm_comm (fun h i => sm (fun j => cif (i ≠ g ∧ j ≠ g) (cif (bt cl h = 0) (Prc fa la (sT Es fo) (Fn R (60 * h) (60 * h + 60)) (Fn R (max (60 * h) du) (60 * h + 60)) i j) 0) 0) n.toNat) n.toNat 24]
  refine sm_congr (fun i _ _ => ?_)
  rw [sm_comm (fun h j => cif (i ≠ g ∧ j ≠ g) (cif (bt cl h = 0) (Prc fa la (sT Es fo) (Fn R (60 * h) (60 * h + 60)) (Fn R (max (60 * h) du) (60 * h + 60)) i j) 0) 0) n.toNat 24]
  refine sm_congr (fun j _ _ => ?_)
  rw [← cif_sm, ← Prc_hr (hfa i j) v1 v2]
theorem wr_id {x : Int} (h : inR x) : wr x = x := nZ_t h
/-- all due with the clouds of a seed -/
noncomputable def DuC (D : Nat → Int → Int) (n g w : Int) (Es Er : Nat → Option Int) (du fo c seed : Int) : Int := sm (fun h => cif (bt (CldB seed c) h = 0) (TotAB (Falls D n g w) (D 6) (sT Es fo) (aT Er 1) du n g (60 * h) (60 * h + 60)) 0) 24
/-- the least or the greatest of many -/
def SpV (f : Nat → Int) (what : Int) : Nat → Int
  | 0 => f 0
  | k + 1 => if what = 0 then min (SpV f what k) (f (k + 1)) else max (SpV f what k) (f (k + 1))
section
variable {sc : Nat × (Nat → Int32)} {d : Nat} {σ : aH} {u : Nat} {n W H : Int} {D : Nat → Int → Int} {Es Er : Nat → Option Int} {K : Int} {fr va : Int → Int} {du fo g : Int}
theorem m_cloudsBy {seed : Int} (hG : G σ u) (rs : inR seed) : TI sc (d + 1) mX10_cloudsBy [.ref 76, .int (nZ seed)] σ (fun r σ1 => σ1 = σ ∧ r = CldB seed (rI σ 80 5)) := by
  apply T.int
  apply t_X10_cloudsBy hG rs
  obtain ⟨P, hP⟩ : ∃ P : aO → aH → Prop, P = QI (fun r σ1 => σ1 = σ ∧ r = CldB seed (rI σ 80 5)) := ⟨_, rfl⟩
  rw [← hP]
  have rsd : ∀ k : Nat, inR (sd seed k) := by
    intro k
    cases k with
    | zero => exact rs
    | succ k => exact wr_R _
  have loop : ∀ (g k : Nat), 24 - k = g → k ≤ 24 → L_X10_cloudsBy_7 (Ev sc d) sc P seed (sd seed k) (bs (fun h => drw seed h.toNat < rI σ 80 5) k) (k : Int) σ := by
    intro g
    induction g with
    | zero =>
      intro k hg hk
      have e : k = 24 := by omega
      apply v_X10_cloudsBy_7 hG rs (rsd k) (bs_30 _ (by omega)) (by omega)
      refine ⟨fun _ => ?_, fun q => by omega⟩
      rw [hP, e]
      exact ⟨_, rfl, bs_30 _ (by omega), rfl, rfl⟩
    | succ g ih =>
      intro k hg hk
      apply v_X10_cloudsBy_7 hG rs (rsd k) (bs_30 _ (by omega)) (by omega)
      refine ⟨fun q => by omega, fun _ z1 e1 => ?_⟩
      have e1' : z1 = sd seed (k + 1) := e1
      rw [e1', drw_s]
      have es : bs (fun h => drw seed h.toNat < rI σ 80 5) (k + 1) = bs (fun h => drw seed h.toNat < rI σ 80 5) k + cif (drw seed k < rI σ 80 5) (2 ^ k) 0 := sm_succ _ _
      have bb := bs_lt (fun h => drw seed h.toNat < rI σ 80 5) k
      have b30 := bs_30 (fun h => drw seed h.toNat < rI σ 80 5) (n := k) (by omega)
      have := ih (k + 1) (by omega) (by omega)
      refine ⟨fun c z4 e4 => ⟨by omega, ?_⟩, fun c z5 e5 => ⟨by omega, ?_⟩⟩
      · rw [es, cif_neg (by omega), Int.add_zero] at this
        rw [e4, zOr_0 ⟨bb.1, b30.2⟩]
        exact this
      · rw [es, cif_pos (by omega)] at this
        have eb := bs_step (fun h => drw seed h.toNat < rI σ 80 5) (k := (k : Int)) (by omega) (by omega)
        rw [e5, show ((k : Int)).toNat = k from rfl] at *
        rw [eb]; exact this
  have e0 : bs (fun h => drw seed h.toNat < rI σ 80 5) 0 = 0 := sm_0 _
  have := loop _ 0 rfl (by omega)
  rw [e0] at this
  exact this
theorem m_dueBy {seed : Int} (hG : G σ u) (hM : Mf σ n (-1) W H D Es Er K fr va du fo) (rs : inR seed) : TI sc (d + 5) mX10_dueBy [.ref 76, .int (nZ seed)] σ (fun r σ1 => Fr AGo σ σ1 ∧ r = DuC D n (-1) (1 + rI σ 76 19) Es Er du fo (rI σ 80 5) seed) := by
  have hf := hM.2.2
  apply T.int
  apply t_X10_dueBy hG rs
  obtain ⟨r, σ1, he, hr, e, h⟩ := m_cloudsBy (sc := sc) (d := d + 3) hG rs
  subst e
  have cb := CldB_bd seed (rI σ1 80 5)
  obtain ⟨σ2, he2, hF2, -, hg2⟩ := m_goes (sc := sc) (d := d) (un := 1440) (fo := fo) (cl := r) hG hM.1 (by omega) hf (by omega)
  rw [hM.2.1]
  refine ⟨r, σ1, he, hG, hr, σ2, he2, hF2.g hG, _, rfl, rI_R _ _ _, hF2, ?_⟩
  have hg3 := hg2.fa (fb := Falls D n (-1) (1 + rI σ1 76 19)) (fun i j s i0 i1 j0 j1 => FaM_iff i0 j0)
  rw [hg3.2.2.1, show min 1440 fo = fo by omega, Tot_hr fa_no, h]
  rfl
theorem m_clouds {seed x : Int} (hG : G σ u) (hM : Mf σ n (-1) W H D Es Er K fr va du fo) (rs : inR seed) (rx : inR x) (hc : Rc σ) : TI sc (d + 6) mX10_clouds [.ref 76, .int (nZ seed), .int (nZ x)] σ (OB σ (0 ≤ x ∧ x ≤ 1) 1 1 (fun r σ1 => Fr AGz σ σ1 ∧ rI σ1 76 0 = 0 ∧ r = if x = 1 then CldB seed (rI σ 80 5) else DuC D n (-1) (1 + rI σ 76 19) Es Er du fo (rI σ 80 5) seed)) := by
  apply T.int
  apply t_X10_clouds hG rs rx
  intro σ1 e1
  obtain ⟨hG1, t1, hF1, hM1, o1⟩ := m_pre hG hM e1
  obtain ⟨r6, σ6, he6, hr6, e6, hx6⟩ := m_in (sc := sc) (d := d + 4) (x := x) (lo := 0) (hi := 1) hG1 rx (by decide) (by decide)
  subst e6
  obtain ⟨σ3, he3, hm3⟩ := m_bad1 (sc := sc) (d := d + 4) (w := 1) (q := 1) hG1 t1 (by omega) (by omega) ((hc.pre e1) 1 (by omega))
  refine ⟨r6, σ6, he6, hG1, hr6, fun q => ?_, fun q => ?_⟩
  · apply v_X10_clouds_20 hG1 rs rx (by decide)
    refine ⟨0, σ6, m_bad0 hG1 t1 (by decide) (by decide), hG1, by decide, fun _ => ⟨fun q1 => ?_, fun q1 => ?_⟩, fun z => absurd rfl z⟩
    · obtain ⟨r, σ2, he, hr, hF2, h⟩ := m_dueBy (sc := sc) (d := d) hG1 hM1 rs
      rw [o1 76 19 (by omega), o1 80 5 (by omega)] at h
      exact ⟨r, σ2, he, hF2.g hG1, hr, r, rfl, hr, Or.inl ⟨by omega, (hF1.weak (fun a i z => Or.inr z)).trans (hF2.weak (fun a i z => Or.inl z)), (hF2.rw (by omega) (AGo_t 0 (by omega))).trans t1, by rw [if_neg q1]; exact h⟩⟩
    · obtain ⟨r, σ2, he, hr, e, h⟩ := m_cloudsBy (sc := sc) (d := d + 4) hG1 rs
      subst e
      rw [o1 80 5 (by omega)] at h
      exact ⟨r, σ2, he, hG1, hr, r, rfl, hr, Or.inl ⟨by omega, hF1.weak (fun a i z => Or.inr z), t1, by rw [if_pos q1]; exact h⟩⟩
  · apply v_X10_clouds_20 hG1 rs rx (by decide)
    exact ⟨1, σ3, he3, hm3.g hG1, by decide, fun z => absurd z (by decide), fun _ => ⟨0, rfl, by decide, Or.inr ⟨by omega, rfl, hm3.pre e1⟩⟩⟩
theorem m_span {seed mn x : Int} (hG : G σ u) (hM : Mf σ n (-1) W H D Es Er K fr va du fo) (rs : inR seed) (rm : inR mn) (rx : inR x) (hc : Rc σ) : TI sc (d + 6) mX10_span [.ref 76, .int (nZ seed), .int (nZ mn), .int (nZ x)] σ (OB σ ((1 ≤ mn ∧ mn ≤ 60) ∧ (0 ≤ x ∧ x ≤ 1)) 1 1 (fun r σ1 => Fr AGz σ σ1 ∧ rI σ1 76 0 = 0 ∧ r = SpV (fun k : Nat => DuC D n (-1) (1 + rI σ 76 19) Es Er du fo (rI σ 80 5) (wr (seed + (k : Int)))) x (mn - 1).toNat)) := by
  apply T.int
  apply t_X10_span hG rs rm rx
  intro σ1 e1
  obtain ⟨hG1, t1, hF1, hM1, o1⟩ := m_pre hG hM e1
  obtain ⟨r6, σ6, he6, hr6, e6, hx6⟩ := m_in (sc := sc) (d := d + 4) (x := mn) (lo := 1) (hi := 60) hG1 rm (by decide) (by decide)
  subst e6
  obtain ⟨r7, σ7, he7, hr7, e7, hx7⟩ := m_in (sc := sc) (d := d + 4) (x := x) (lo := 0) (hi := 1) hG1 rx (by decide) (by decide)
  subst e7
  obtain ⟨σ3, he3, hm3⟩ := m_bad1 (sc := sc) (d := d + 4) (w := 1) (q := 1) hG1 t1 (by omega) (by omega) ((hc.pre e1) 1 (by omega))
  obtain ⟨F, hF⟩ : ∃ F : Nat → Int, F = fun k : Nat => DuC D n (-1) (1 + rI σ 76 19) Es Er du fo (rI σ 80 5) (wr (seed + (k : Int))) := ⟨_, rfl⟩
  rw [← hF]
  obtain ⟨P, hP⟩ : ∃ P : aO → aH → Prop, P = QI (OB σ ((1 ≤ mn ∧ mn ≤ 60) ∧ (0 ≤ x ∧ x ≤ 1)) 1 1 (fun r σ1 => Fr AGz σ σ1 ∧ rI σ1 76 0 = 0 ∧ r = SpV F x (mn - 1).toNat)) := ⟨_, rfl⟩
  rw [← hP]
  have nG : ∀ (a : Nat) (i : Int), (80 ≤ a ∧ a ≤ 259) → ¬ AGo a i := fun a i z => by show ¬ ((261 ≤ a ∧ a ≤ 313) ∨ (a = 76 ∧ (i = 36 ∨ i = 37))); omega
  have nG2 : ∀ i : Int, (i = 19 ∨ i = 25 ∨ i = 27 ∨ i = 28) → ¬ AGo 76 i := fun i z => by show ¬ ((261 ≤ 76 ∧ 76 ≤ 313) ∨ (76 = 76 ∧ (i = 36 ∨ i = 37))); omega
  have one : ∀ (τ : aH) (s : Int), Fr AGo σ7 τ → inR s → TI sc (d + 5) mX10_dueBy [.ref 76, .int (nZ s)] τ (fun r σ1 => Fr AGo σ7 σ1 ∧ r = DuC D n (-1) (1 + rI σ 76 19) Es Er du fo (rI σ 80 5) s) := by
    intro τ s hFt hs
    obtain ⟨r, σ2, he, hr, hF2, h⟩ := m_dueBy (sc := sc) (d := d) (hFt.g hG1) (hM1.frm hFt nG nG2) hs
    rw [hFt.rw (by omega) (nG2 19 (by omega)), hFt.rw (by omega) (nG 80 5 (by omega)), o1 76 19 (by omega), o1 80 5 (by omega)] at h
    exact ⟨r, σ2, he, hr, hFt.trans hF2, h⟩
  have loop : ((1 ≤ mn ∧ mn ≤ 60) ∧ (0 ≤ x ∧ x ≤ 1)) → ∀ (f k : Nat) (b : Int) (τ : aH), (mn - 1 - k).toNat = f → (k : Int) + 1 ≤ mn → inR b → Fr AGo σ7 τ → b = SpV F x k → L_X10_span_50 (Ev sc (d + 5)) sc P seed mn x b ((k : Int) + 1) τ := by
    intro ok f
    induction f with
    | zero =>
      intro k b τ hf hk rb hFt hb
      apply v_X10_span_50 (hFt.g hG1) rs rm rx rb (by omega)
      refine ⟨fun _ => ?_, fun q => by omega⟩
      rw [hP]
      exact ⟨b, rfl, rb, Or.inl ⟨ok, (hF1.weak (fun a i z => Or.inr z)).trans (hFt.weak (fun a i z => Or.inl z)), (hFt.rw (by omega) (AGo_t 0 (by omega))).trans t1, by rw [hb, show (mn - 1).toNat = k by omega]⟩⟩
    | succ f ih =>
      intro k b τ hf hk rb hFt hb
      obtain ⟨r, σ2, he, hr, hF2, h⟩ := one τ (wr (seed + ((k : Int) + 1))) hFt (wr_R _)
      have hFk : r = F (k + 1) := by rw [hF]; exact h
      have st : SpV F x (k + 1) = if x = 0 then min b r else max b r := by rw [hb, hFk]; rfl
      apply v_X10_span_50 (hFt.g hG1) rs rm rx rb (by omega)
      refine ⟨fun q => by omega, fun _ => ⟨r, σ2, he, hF2.g hG1, hr, fun q => ?_, fun q => ?_⟩⟩
      · rw [if_neg q] at st
        refine ⟨fun q1 => ⟨by omega, ?_⟩, fun q1 => ⟨by omega, ?_⟩⟩
        · have := ih (k + 1) b σ2 (by omega) (by omega) rb hF2 (by rw [st]; omega)
          exact this
        · have := ih (k + 1) r σ2 (by omega) (by omega) hr hF2 (by rw [st]; omega)
          exact this
      · rw [if_pos q] at st
        refine ⟨fun q1 => ⟨by omega, ?_⟩, fun q1 => ⟨by omega, ?_⟩⟩
        · have := ih (k + 1) b σ2 (by omega) (by omega) rb hF2 (by rw [st]; omega)
          exact this
        · have := ih (k + 1) r σ2 (by omega) (by omega) hr hF2 (by rw [st]; omega)
          exact this
  have bad : ¬ ((1 ≤ mn ∧ mn ≤ 60) ∧ (0 ≤ x ∧ x ≤ 1)) → P (.inl (some (.int (nZ 0)))) σ3 := by
    intro nok
    rw [hP]; exact ⟨0, rfl, by decide, Or.inr ⟨nok, rfl, hm3.pre e1⟩⟩
  refine ⟨r6, σ7, he6, hG1, hr6, fun q => ⟨1, σ3, he3, hm3.g hG1, by decide, fun z => absurd z (by decide), fun _ => bad (by omega)⟩, fun q => ⟨r7, σ7, he7, hG1, hr7, fun q1 => ⟨0, σ7, m_bad0 hG1 t1 (by decide) (by decide), hG1, by decide, fun _ => ?_, fun z => absurd rfl z⟩, fun q1 => ⟨1, σ3, he3, hm3.g hG1, by decide, fun z => absurd z (by decide), fun _ => bad (by omega)⟩⟩⟩
  obtain ⟨r, σ2, he, hr, hF2, h⟩ := one σ7 seed (Fr.refl _ _) rs
  refine ⟨r, σ2, he, hF2.g hG1, hr, ?_⟩
  refine loop (by omega) _ 0 r σ2 rfl (by omega) hr hF2 ?_
  rw [h, hF]
  show _ = DuC D n (-1) (1 + rI σ 76 19) Es Er du fo (rI σ 80 5) (wr (seed + ((0 : Nat) : Int)))
  rw [show seed + ((0 : Nat) : Int) = seed by omega, wr_id rs]
end
