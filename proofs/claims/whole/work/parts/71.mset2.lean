/-! THE REFERENCE: one or two stalls set otherwise, walked. -/
def DstX (s : Int) (D : Nat → Int → Int) (n : Int) : Prop := ∀ x y i j : Int, i ≠ s → j ≠ s → At D n x y i → At D n x y j → i = j
theorem At_put_ne {D : Nat → Int → Int} {n s x y x' y' k : Int} (hs : 0 ≤ s) (hk : k ≠ s) : At (Dput D s x y) n x' y' k ↔ At D n x' y' k := by
  unfold At
  constructor
  · rintro ⟨a, b, c, e⟩
    rw [Dput_ne (by omega)] at c e
    exact ⟨a, b, c, e⟩
  · rintro ⟨a, b, c, e⟩
    rw [Dput_ne (by omega), Dput_ne (by omega)]
    exact ⟨a, b, c, e⟩
theorem At_put_s {D : Nat → Int → Int} {n s x y x' y' : Int} (h : At (Dput D s x y) n x' y' s) : x' = x ∧ y' = y := by
  have := Dput_s (D := D) (s := s) (x := x) (y := y) (i := s) rfl
  exact ⟨by rw [← h.2.2.1, this.1], by rw [← h.2.2.2, this.2]⟩
theorem Dst_put {D : Nat → Int → Int} {n s x y : Int} (hs : 0 ≤ s) (h : DstX s D n) (hf : ∀ k : Int, k ≠ s → ¬ At D n x y k) : Dst (Dput D s x y) n := by
  intro x' y' i j hi hj
  by_cases ci : i = s <;> by_cases cj : j = s
  · omega
  · exfalso
    rw [ci] at hi
    obtain ⟨e1, e2⟩ := At_put_s hi
    rw [e1, e2] at hj
    exact hf j cj ((At_put_ne hs cj).mp hj)
  · exfalso
    rw [cj] at hj
    obtain ⟨e1, e2⟩ := At_put_s hj
    rw [e1, e2] at hi
    exact hf i ci ((At_put_ne hs ci).mp hi)
  · exact h x' y' i j ci cj ((At_put_ne hs ci).mp hi) ((At_put_ne hs cj).mp hj)
theorem Fld_put {D : Nat → Int → Int} {n s x y W H : Int} (h : ∀ i : Int, 0 ≤ i → i < n → i ≠ s → D 0 i < W ∧ D 1 i < H) (hs : 0 ≤ s) (hx : x < W) (hy : y < H) : Fld (Dput D s x y) n W H := by
  intro i i0 i1
  by_cases c : i = s
  · have := Dput_s (D := D) (s := s) (x := x) (y := y) (i := i) (by rw [c])
    rw [this.1, this.2]; exact ⟨hx, hy⟩
  · rw [Dput_ne (by omega), Dput_ne (by omega)]; exact h i i0 i1 c
section
variable {sc : Nat × (Nat → Int32)} {d : Nat} {σ : aH} {u : Nat} {n W H : Int} {D : Nat → Int → Int} {Es Er : Nat → Option Int} {K : Int} {fr va : Int → Int} {du fo : Int}
/-- all but the cells of a and b is the same -/
def D2Ex (a b : Int) (D D1 : Nat → Int → Int) : Prop := ∀ (f : Nat) (i : Int), ¬ (f ≤ 1 ∧ (i.toNat = a.toNat ∨ i.toNat = b.toNat)) → D1 f i = D f i
theorem m_lvl2 {τ0 : aH} {st a b val code : Int} (hG : G σ u) (hM : Mf σ n (-1) W H D Es Er K fr va du fo) (hF0 : Fr ASt σ τ0) (hst : 0 ≤ st ∧ st ≤ 511) (ha : 0 ≤ a ∧ a < b) (hb : b < n) (hno : ∀ i : Int, 0 ≤ i → i < n → (bt st i ≠ 0 ↔ i = a ∨ i = b)) (hD : D2Ex a b D (Dm (rI τ0))) (ha9 : Dm (rI τ0) 0 a = -9) (hb9 : Dm (rI τ0) 0 b = -9) (hV : VB τ0 val code) (hB : BestS (fun c => SetC2 D n W H a b c ∧ c < 0) (SetV2 D n (-1) (1 + rI σ 76 19) (sT Es fo) (CF Er) (CF1 Er du) a b) 1000000000 val code) :
    TV sc (d + 8) mX10_puts [.ref 76, .int (nZ st), .int (nZ 0), .int (nZ 0)] τ0 (fun τ1 => Fr ASt σ τ1 ∧ D2Ex a b D (Dm (rI τ1)) ∧ ∃ v c : Int, VB τ1 v c ∧ BestS (SetC2 D n W H a b) (SetV2 D n (-1) (1 + rI σ 76 19) (sT Es fo) (CF Er) (CF1 Er du) a b) 1000000000 v c) := by
  have h9 := hM.1.1.2.1
  have hWH := hM.1.2.2.2.2.2.2.1
  have hSt := hM.1.2.2.1
  have hDst := hM.1.2.2.2.1
  have hfld : Fld D n W H := hM.1.2.2.2.2.1
  have keep : ∀ τ : aH, Fr ASt σ τ → G τ u ∧ MN τ n (-1) ∧ rI τ 80 0 = W ∧ rI τ 80 1 = H ∧ rI τ 76 19 = rI σ 76 19 := fun τ hF => ⟨hF.g hG, hM.1.1.st hF, (hF.rw (by omega) (ASt1 _ _ (by omega))).trans hM.1.2.2.2.2.2.1.1, (hF.rw (by omega) (ASt1 _ _ (by omega))).trans hM.1.2.2.2.2.2.1.2, hF.rw (by omega) (ASt2 _ (by omega))⟩
  obtain ⟨k1, k2, -, -, -⟩ := keep τ0 hF0
  obtain ⟨V, hVe⟩ : ∃ V : Int → Int, V = SetV2 D n (-1) (1 + rI σ 76 19) (sT Es fo) (CF Er) (CF1 Er du) a b := ⟨_, rfl⟩
  rw [← hVe] at hB ⊢
  apply T.void
  apply t_X10_puts k1 (by omega) (by decide) (by decide)
  obtain ⟨P, hP⟩ : ∃ P : aO → aH → Prop, P = QV (fun τ1 => Fr ASt σ τ1 ∧ D2Ex a b D (Dm (rI τ1)) ∧ ∃ v c : Int, VB τ1 v c ∧ BestS (SetC2 D n W H a b) V 1000000000 v c) := ⟨_, rfl⟩
  rw [← hP]
  refine m_scan k1 k2.1 h9 hst (by decide) (by decide) (s := a) (by omega) (fun i i0 i1 => by
    by_cases z : bt st i = 0
    · exact z
    · have := (hno i i0 (by omega)).mp z; omega) (fun _ => (hno a ha.1 (by omega)).mpr (Or.inl rfl)) ?_ _ 0 rfl (by omega) (by omega) ha.1
  have row : ∀ i : Int, ASt (91 + a.toNat) i := fun i => Or.inl (by omega)
  have eo : ∀ (τ : aH) (f : Nat) (k : Int), D2Ex a b D (Dm (rI τ)) → 0 ≤ k → k ≠ a → k ≠ b → Dm (rI τ) f k = D f k := fun τ f k h k0 ka kb => h f k (by omega)
  have free : ∀ (τ : aH) (x y : Int), 0 ≤ x → D2Ex a b D (Dm (rI τ)) → Dm (rI τ) 0 a = -9 → Dm (rI τ) 0 b = -9 → ((∀ k : Int, k ≠ -1 → ¬ At (Dm (rI τ)) n x y k) ↔ Fr2 D n a b x y) := by
    intro τ x y x0 hDt ha' hb'
    constructor
    · intro h k ka kb hk
      refine h k (by have := hk.1; omega) ⟨hk.1, hk.2.1, ?_, ?_⟩
      · rw [eo τ 0 k hDt hk.1 ka kb]; exact hk.2.2.1
      · rw [eo τ 1 k hDt hk.1 ka kb]; exact hk.2.2.2
    · intro h k _ hk
      by_cases ka : k = a
      · rw [ka] at hk
        have := hk.2.2.1
        omega
      · by_cases kb : k = b
        · rw [kb] at hk
          have := hk.2.2.1
          omega
        · refine h k ka kb ⟨hk.1, hk.2.1, ?_, ?_⟩
          · rw [← eo τ 0 k hDt hk.1 ka kb]; exact hk.2.2.1
          · rw [← eo τ 1 k hDt hk.1 ka kb]; exact hk.2.2.2
  have noC : ∀ q : Int, SetC2 D n W H a b q → 0 ≤ q ∧ q / 100 % 10 < W ∧ q / 1000 < H ∧ Fr2 D n a b (q / 100 % 10) (q / 1000) := fun q hq => ⟨hq.1, hq.2.1.1, hq.2.1.2, hq.2.2.2.1⟩
  have rows : ∀ (m : Nat) (y v c : Int) (τ : aH), (H - y).toNat = m → 0 ≤ y → y ≤ H → Fr ASt σ τ → D2Ex a b D (Dm (rI τ)) → Dm (rI τ) 0 a = -9 → Dm (rI τ) 0 b = -9 → VB τ v c → BestS (fun q => SetC2 D n W H a b q ∧ q < 1000 * y) V 1000000000 v c → L_X10_puts_75 (Ev sc (d + 7)) sc P st 0 0 a y τ := by
    intro m
    induction m with
    | zero =>
      intro y v c τ hm y0 y1 hF hDt ha' hb' hv hbs
      obtain ⟨l1, l2, l3, l4, l5⟩ := keep τ hF
      apply v_X10_puts_75 l1 (by omega) (by omega) (by omega) (by omega) (by omega)
      refine ⟨fun _ => ?_, fun q => by omega⟩
      rw [hP]
      refine ⟨rfl, hF, hDt, v, c, hv, hbs.done (fun q hq => ?_)⟩
      have := noC q hq
      omega
    | succ m ih =>
      intro y v c τ hm y0 y1 hF hDt ha' hb' hv hbs
      have cols : ∀ (m2 : Nat) (x v c : Int) (τ : aH), (W - x).toNat = m2 → 0 ≤ x → x ≤ W → Fr ASt σ τ → D2Ex a b D (Dm (rI τ)) → Dm (rI τ) 0 a = -9 → Dm (rI τ) 0 b = -9 → VB τ v c → BestS (fun q => SetC2 D n W H a b q ∧ q < 100 * (x + 10 * y)) V 1000000000 v c → L_X10_puts_89 (Ev sc (d + 7)) sc P st 0 0 a y x τ := by
        intro m2
        induction m2 with
        | zero =>
          intro x v c τ hm2 x0 x1 hF hDt ha' hb' hv hbs
          obtain ⟨l1, l2, l3, l4, l5⟩ := keep τ hF
          apply v_X10_puts_89 l1 (by omega) (by omega) (by omega) (by omega) (by omega) (by omega)
          refine ⟨fun _ => ⟨by omega, ih (y + 1) v c τ (by omega) (by omega) (by omega) hF hDt ha' hb' hv (hbs.ext (by omega) (fun q p1 p2 p3 => ?_))⟩, fun q => by omega⟩
          exfalso
          have := noC q p1
          omega
        | succ m2 ihm =>
          intro x v c τ hm2 x0 x1 hF hDt ha' hb' hv hbs
          obtain ⟨l1, l2, l3, l4, l5⟩ := keep τ hF
          obtain ⟨r6, σ2, he2, hr2, e2, h2⟩ := m_stallOn (sc := sc) (d := d + 5) (x := x) (y := y) l1 l2 (by omega) (by omega)
          subst e2
          have hfr := free σ2 x y x0 hDt ha' hb'
          apply v_X10_puts_89 l1 (by omega) (by omega) (by omega) (by omega) (by omega) (by omega)
          refine ⟨fun q => by omega, fun _ => ⟨r6, σ2, he2, l1, hr2, fun q1 => ⟨by omega, fun σ8 e8 => ⟨by omega, fun σ12 e12 => ⟨by omega, by omega, by omega, by omega, by omega, ?_⟩⟩⟩, fun q1 => ⟨by omega, ?_⟩⟩⟩
          · have hfree : Fr2 D n a b x y := hfr.mp (by
              rcases h2 with h2 | h2
              · exact h2.2
              · exfalso; have := h2.1.1.1; omega)
            have hF12 : Fr ASt σ σ12 := by rw [← e12, ← e8]; exact (hF.trans (Fr.w (by omega) (row _))).trans (Fr.w (by omega) (row _))
            have g12 : Dm (rI σ12) = Dput (Dm (rI σ2)) a x y := by
              have g1 : Dm (rI σ8) = Dset (Dm (rI σ2)) 0 a x := by rw [← e8]; exact Dm_w (f := 0) (by omega) (by omega)
              have g2 : Dm (rI σ12) = Dset (Dm (rI σ8)) 1 a y := by rw [← e12]; exact Dm_w (f := 1) (by omega) (by omega)
              rw [g2, g1]; rfl
            obtain ⟨E, hE⟩ : ∃ E : Nat → Int → Int, E = Dput D a x y := ⟨_, rfl⟩
            have hD12 : DpEx b E (Dm (rI σ12)) := by
              intro f' i hfi
              rw [g12, hE]
              by_cases z : f' ≤ 1 ∧ i.toNat = a.toNat
              · have p1 := Dput_s (D := Dm (rI σ2)) (s := a) (x := x) (y := y) (i := i) z.2
                have p2 := Dput_s (D := D) (s := a) (x := x) (y := y) (i := i) z.2
                have : f' = 0 ∨ f' = 1 := by omega
                rcases this with rfl | rfl
                · rw [p1.1, p2.1]
                · rw [p1.2, p2.2]
              · rw [Dput_ne z, Dput_ne z]; exact hDt f' i (by omega)
            have hb12 : Dm (rI σ12) 0 b = -9 := by rw [g12, Dput_ne (by omega)]; exact hb'
            have hv12 : VB σ12 v c := by
              refine hv.fr (A := fun q _ => q = 91 + a.toNat) ?_ (by show ¬ (76 = 91 + a.toNat); omega) (by show ¬ (76 = 91 + a.toNat); omega)
              rw [← e12, ← e8]; exact (Fr.w (by omega) rfl).trans (Fr.w (by omega) rfl)
            have hX : DstX b E n := by
              rw [hE]
              intro x' y' i j ib jb hi hj
              by_cases ci : i = a <;> by_cases cj : j = a
              · omega
              · exfalso
                rw [ci] at hi
                obtain ⟨w1, w2⟩ := At_put_s hi
                rw [w1, w2] at hj
                exact hfree j cj jb ((At_put_ne ha.1 cj).mp hj)
              · exfalso
                rw [cj] at hj
                obtain ⟨w1, w2⟩ := At_put_s hj
                rw [w1, w2] at hi
                exact hfree i ci ib ((At_put_ne ha.1 ci).mp hi)
              · exact hDst x' y' i j ((At_put_ne ha.1 ci).mp hi) ((At_put_ne ha.1 cj).mp hj)
            have hEs : StB E n := by rw [hE]; exact hSt.put (by omega) (by omega)
            have hEf : Fld E n W H := by rw [hE]; exact Fld_put (fun i i0 i1 _ => hfld i i0 i1) ha.1 (by omega) (by omega)
            have dg0 : 100 * 0 + x + 10 * y = x + 10 * y := by omega
            rw [dg0]
            have key : ∀ x' y' : Int, 0 ≤ x' → x' < 10 → 0 ≤ y' → y' < 10 → (100 * (x + 10 * y) + x' + 10 * y') / 100 % 10 = x ∧ (100 * (x + 10 * y) + x' + 10 * y') / 1000 = y ∧ (100 * (x + 10 * y) + x' + 10 * y') % 10 = x' ∧ (100 * (x + 10 * y) + x' + 10 * y') / 10 % 10 = y' ∧ (100 * (x + 10 * y) + x' + 10 * y') / 100 = x + 10 * y ∧ (100 * (x + 10 * y) + x' + 10 * y') % 100 = x' + 10 * y' := by
              intro x' y' a b c e
              omega
            obtain ⟨τ1, he20, hF20, hD20, hb20, v2, c2, hv2, hbs2⟩ := m_lvl1 (sc := sc) (d := d) (τ0 := σ12) (st := st) (f := a + 1) (s := b) (dg := x + 10 * y) (E := E) (Cand := SetC2 D n W H a b) (V := V) hG hM hF12 hst (by omega) ⟨by omega, hb⟩ (by omega) (fun i i0 i1 => by
              rw [hno i (by omega) i1]; omega) hD12 hb12 (fun x' y' xa xb ya yb hfr' => ⟨hEs.put (by omega) (by omega), Dst_put (by omega) hX hfr', Fld_put (fun i i0 i1 _ => hEf i i0 i1) (by omega) xb yb⟩) (fun x' y' xa xb ya yb => by
                obtain ⟨w1, w2, w3, w4, w5, w6⟩ := key x' y' xa xb ya yb
                unfold SetC2
                rw [w1, w2, w3, w4, w5, w6, hE]
                constructor
                · rintro ⟨-, -, ⟨p1, p2⟩, -, p3, p4⟩
                  refine ⟨p1, p2, fun k kb hk => ?_⟩
                  by_cases ka : k = a
                  · rw [ka] at hk
                    obtain ⟨z1, z2⟩ := At_put_s hk
                    omega
                  · exact p3 k ka kb ((At_put_ne ha.1 ka).mp hk)
                · rintro ⟨p1, p2, p3⟩
                  refine ⟨by omega, ⟨by omega, by omega⟩, ⟨p1, p2⟩, hfree, fun k ka kb hk => p3 k kb ((At_put_ne ha.1 ka).mpr hk), fun z => ?_⟩
                  have z1 : x' = x ∧ y' = y := by omega
                  have pa := Dput_s (D := D) (s := a) (x := x) (y := y) (i := a) rfl
                  exact p3 a (by omega) ⟨ha.1, by omega, by rw [pa.1, z1.1], by rw [pa.2, z1.2]⟩) (fun x' y' xa xb ya yb => by
                obtain ⟨w1, w2, w3, w4, w5, w6⟩ := key x' y' xa xb ya yb
                rw [hVe, hE]; unfold SetV2
                rw [w1, w2, w3, w4]) hv12 hbs
            refine ⟨τ1, he20, hF20.g hG, by omega, fun σ25 e25 => ⟨by omega, ?_⟩⟩
            have hF25 : Fr ASt σ σ25 := by rw [← e25]; exact hF20.trans (Fr.w (by omega) (row _))
            have hD25' : Dm (rI σ25) = Dset (Dm (rI τ1)) 0 a (-9) := by rw [← e25]; exact Dm_w (f := 0) (by omega) (by decide)
            have hD25 : D2Ex a b D (Dm (rI σ25)) := by
              rw [hD25']
              intro f' i hfi
              rw [Dset_ne (by omega), hD20 f' i (by omega), hE, Dput_ne (by omega)]
            have ha25 : Dm (rI σ25) 0 a = -9 := by rw [hD25']; exact Dset_eq rfl
            have hb25 : Dm (rI σ25) 0 b = -9 := by rw [hD25', Dset_ne (by omega)]; exact hb20
            have hv25 : VB σ25 v2 c2 := hv2.fr (A := fun q _ => q = 91 + a.toNat) (by rw [← e25]; exact Fr.w (by omega) rfl) (by show ¬ (76 = 91 + a.toNat); omega) (by show ¬ (76 = 91 + a.toNat); omega)
            refine ihm (x + 1) v2 c2 σ25 (by omega) (by omega) (by omega) hF25 hD25 ha25 hb25 hv25 ?_
            rw [show 100 * (x + 1 + 10 * y) = 100 * (x + 10 * y) + 100 by omega]; exact hbs2
          · refine ihm (x + 1) v c σ2 (by omega) (by omega) (by omega) hF hDt ha' hb' hv (hbs.ext (by omega) (fun q p1 p2 p3 => ?_))
            exfalso
            have hq := noC q p1
            have w1 : q / 100 % 10 = x := by omega
            have w2 : q / 1000 = y := by omega
            rw [w1, w2] at hq
            rcases h2 with h2 | h2
            · exact q1 h2.1
            · exact (hfr.mpr hq.2.2.2) r6 h2.1.2 h2.1.1
      obtain ⟨l1, l2, l3, l4, l5⟩ := keep τ hF
      apply v_X10_puts_75 l1 (by omega) (by omega) (by omega) (by omega) (by omega)
      refine ⟨fun q => by omega, fun _ => cols _ 0 v c τ rfl (by omega) (by omega) hF hDt ha' hb' hv ?_⟩
      rw [show 100 * (0 + 10 * y) = 1000 * y by omega]; exact hbs
  apply v_X10_puts_27 k1 (by omega) (by decide) (by decide) (by omega)
  rw [k2.1]
  exact ⟨fun _ => rows _ 0 val code τ0 rfl (by omega) (by omega) hF0 hD ha9 hb9 hV hB, fun z => by omega⟩
theorem m_savesA (hG : G σ u) : TV sc (d + 1) mX10_saves [.ref 76, .ref 316, .ref 317] σ (fun σ1 => Fr (fun a _ => a = 316 ∨ a = 317) σ σ1 ∧ ∀ i : Int, 0 ≤ i → i < 9 → rI σ1 316 i = Dm (rI σ) 0 i ∧ rI σ1 317 i = Dm (rI σ) 1 i) := by
  apply T.void
  apply t_X10_savesA hG
  obtain ⟨P, hP⟩ : ∃ P : aO → aH → Prop, P = QV (fun σ1 => Fr (fun a _ => a = 316 ∨ a = 317) σ σ1 ∧ ∀ i : Int, 0 ≤ i → i < 9 → rI σ1 316 i = Dm (rI σ) 0 i ∧ rI σ1 317 i = Dm (rI σ) 1 i) := ⟨_, rfl⟩
  rw [← hP]
  have loop : ∀ (f : Nat) (k : Int) (τ : aH), (9 - k).toNat = f → 0 ≤ k → k ≤ 9 → Fr (fun a _ => a = 316 ∨ a = 317) σ τ → (∀ i : Int, 0 ≤ i → i < k → rI τ 316 i = Dm (rI σ) 0 i ∧ rI τ 317 i = Dm (rI σ) 1 i) → L_X10_savesA_2 (Ev sc d) sc P k τ := by
    intro f
    induction f with
    | zero =>
      intro k τ hf k0 k1 hF hi
      apply v_X10_savesA_2 (hF.g hG) (by omega)
      refine ⟨fun _ => ?_, fun q => by omega⟩
      rw [hP]; exact ⟨rfl, hF, fun i a b => hi i a (by omega)⟩
    | succ f ih =>
      intro k τ hf k0 k1 hF hi
      have e0 : rI τ (91 + k.toNat) 0 = Dm (rI σ) 0 k := (hF.rw (by omega) (by show ¬ (91 + k.toNat = 316 ∨ 91 + k.toNat = 317); omega)).trans (Dm_at (by omega)).symm
      apply v_X10_savesA_2 (hF.g hG) (by omega)
      refine ⟨fun q => by omega, fun _ => ⟨by omega, by omega, fun σ2 e2 => ⟨by omega, by omega, fun σ6 e6 => ⟨by omega, ih (k + 1) σ6 (by omega) (by omega) (by omega) ?_ (fun i a b => ?_)⟩⟩⟩⟩
      · rw [← e6, ← e2]; exact (hF.trans (Fr.w k0 (Or.inl rfl))).trans (Fr.w k0 (Or.inr rfl))
      · have e1 : rI σ2 (91 + k.toNat) 1 = Dm (rI σ) 1 k := by rw [← e2, rI_wa (by omega)]; exact (hF.rw (by omega) (by show ¬ (91 + k.toNat = 316 ∨ 91 + k.toNat = 317); omega)).trans (Dm_at (by omega)).symm
        by_cases c : i = k
        · rw [c]
          exact ⟨by rw [← e6, rI_wa (by omega), ← e2, rI_ww (rI_R _ _ _)]; exact e0, by rw [← e6, rI_ww (rI_R _ _ _)]; exact e1⟩
        · exact ⟨by rw [← e6, rI_wa (by omega), ← e2, rI_wi (by omega)]; exact (hi i a (by omega)).1, by rw [← e6, rI_wi (by omega), ← e2, rI_wa (by omega)]; exact (hi i a (by omega)).2⟩
  exact loop _ 0 σ rfl (by omega) (by omega) (Fr.refl _ _) (fun i a b => by omega)
theorem m_setsBackA (hG : G σ u) (hDn : ∀ (f : Nat) (i : Int), D f i = D f (i.toNat : Int)) (hs : ∀ i : Int, 0 ≤ i → i < 9 → rI σ 316 i = D 0 i ∧ rI σ 317 i = D 1 i) (hD : ∀ (f : Nat) (i : Int), ¬ (f ≤ 1 ∧ i.toNat < 9) → Dm (rI σ) f i = D f i) : TV sc (d + 1) mX10_setsBack [.ref 76, .ref 316, .ref 317] σ (fun σ1 => Fr (fun a _ => 91 ≤ a ∧ a ≤ 99) σ σ1 ∧ Dm (rI σ1) = D) := by
  apply T.void
  apply t_X10_setsBackA hG
  obtain ⟨P, hP⟩ : ∃ P : aO → aH → Prop, P = QV (fun σ1 => Fr (fun a _ => 91 ≤ a ∧ a ≤ 99) σ σ1 ∧ Dm (rI σ1) = D) := ⟨_, rfl⟩
  rw [← hP]
  have loop : ∀ (f : Nat) (k : Int) (τ : aH), (9 - k).toNat = f → 0 ≤ k → k ≤ 9 → Fr (fun a _ => 91 ≤ a ∧ a ≤ 99) σ τ → (∀ (f : Nat) (i : Int), ¬ (f ≤ 1 ∧ k.toNat ≤ i.toNat ∧ i.toNat < 9) → Dm (rI τ) f i = D f i) → L_X10_setsBackA_2 (Ev sc d) sc P k τ := by
    intro f
    induction f with
    | zero =>
      intro k τ hf k0 k1 hF hi
      apply v_X10_setsBackA_2 (hF.g hG) (by omega)
      refine ⟨fun _ => ?_, fun q => by omega⟩
      rw [hP]; exact ⟨rfl, hF, funext (fun f => funext (fun i => hi f i (by omega)))⟩
    | succ f ih =>
      intro k τ hf k0 k1 hF hi
      have e0 : rI τ 316 k = D 0 k := (hF.rw k0 (by show ¬ (91 ≤ 316 ∧ 316 ≤ 99); omega)).trans (hs k k0 (by omega)).1
      have e1 : rI τ 317 k = D 1 k := (hF.rw k0 (by show ¬ (91 ≤ 317 ∧ 317 ≤ 99); omega)).trans (hs k k0 (by omega)).2
      apply v_X10_setsBackA_2 (hF.g hG) (by omega)
      rw [e0]
      refine ⟨fun q => by omega, fun _ => ⟨by omega, by omega, fun σ2 e2 => ⟨by omega, by omega, ?_⟩⟩⟩
      have r0 : inR (D 0 k) := by rw [← e0]; exact rI_R _ _ _
      have r1 : inR (D 1 k) := by rw [← e1]; exact rI_R _ _ _
      have e1' : rI σ2 317 k = D 1 k := by rw [← e2, rI_wa (by omega)]; exact e1
      rw [e1']
      refine fun σ6 e6 => ⟨by omega, ih (k + 1) σ6 (by omega) (by omega) (by omega) ?_ (fun f' i hfi => ?_)⟩
      · rw [← e6, ← e2]; exact (hF.trans (Fr.w (by omega) ⟨by omega, by omega⟩)).trans (Fr.w (by omega) ⟨by omega, by omega⟩)
      · have g2 : Dm (rI σ2) = Dset (Dm (rI τ)) 0 k (D 0 k) := by rw [← e2]; exact Dm_w (f := 0) (by omega) r0
        have g6 : Dm (rI σ6) = Dset (Dm (rI σ2)) 1 k (D 1 k) := by rw [← e6]; exact Dm_w (f := 1) (by omega) r1
        rw [g6, g2]
        by_cases c : f' ≤ 1 ∧ i.toNat = k.toNat
        · have : f' = 0 ∨ f' = 1 := by omega
          have ei : ∀ q : Nat, D q i = D q k := fun q => by rw [hDn q i, hDn q k, c.2]
          rcases this with rfl | rfl
          · rw [Dset_ne (by omega), Dset_eq c.2, ei]
          · rw [Dset_eq c.2, ei]
        · rw [Dset_ne (by omega), Dset_ne (by omega)]; exact hi f' i (by omega)
  exact loop _ 0 σ rfl (by omega) (by omega) (Fr.refl _ _) (fun f i hfi => hD f i (by omega))
end
