/-! THE REFERENCE: stalls set otherwise. -/
def VB (σ : aH) (val code : Int) : Prop := (rI σ 76 42 = -1 ∧ val = 1000000000 ∧ code = -1) ∨ (rI σ 76 42 = val ∧ rI σ 76 43 = code ∧ 0 ≤ val ∧ val < 1000000000)
abbrev ASt : Nat → Int → Prop := fun a i => (91 ≤ a ∧ a ≤ 99) ∨ (261 ≤ a ∧ a ≤ 313) ∨ (a = 76 ∧ (i = 36 ∨ i = 37 ∨ i = 42 ∨ i = 43))
theorem ASt1 (a : Nat) (i : Int) (h : a = 80 ∨ (122 ≤ a ∧ a ≤ 141) ∨ (190 ≤ a ∧ a ≤ 259) ∨ 314 ≤ a) : ¬ ASt a i := by
  show ¬ ((91 ≤ a ∧ a ≤ 99) ∨ (261 ≤ a ∧ a ≤ 313) ∨ (a = 76 ∧ (i = 36 ∨ i = 37 ∨ i = 42 ∨ i = 43))); omega
theorem ASt2 (i : Int) (h : i ≤ 28) : ¬ ASt 76 i := by
  show ¬ ((91 ≤ 76 ∧ 76 ≤ 99) ∨ (261 ≤ 76 ∧ 76 ≤ 313) ∨ (76 = 76 ∧ (i = 36 ∨ i = 37 ∨ i = 42 ∨ i = 43))); omega
theorem AGo_ASt (a : Nat) (i : Int) (h : AGo a i) : ASt a i := by
  have h' : (261 ≤ a ∧ a ≤ 313) ∨ (a = 76 ∧ (i = 36 ∨ i = 37)) := h
  show (91 ≤ a ∧ a ≤ 99) ∨ (261 ≤ a ∧ a ≤ 313) ∨ (a = 76 ∧ (i = 36 ∨ i = 37 ∨ i = 42 ∨ i = 43)); omega
theorem VB.fr {A : Nat → Int → Prop} {σ σ1 : aH} {val code : Int} (h : VB σ val code) (hF : Fr A σ σ1) (h1 : ¬ A 76 42) (h2 : ¬ A 76 43) : VB σ1 val code := by
  unfold VB
  rw [hF.rw (by omega) h1, hF.rw (by omega) h2]; exact h
section
variable {sc : Nat × (Nat → Int32)} {d : Nat} {σ : aH} {u : Nat} {n W H : Int} {D : Nat → Int → Int} {Es Er : Nat → Option Int} {K : Int} {fr va : Int → Int} {du fo : Int}
theorem MN.st {τ : aH} {g : Int} (h : MN σ n g) (hF : Fr ASt σ τ) : MN τ n g := h.fr hF (ASt2 _ (by omega)) (ASt2 _ (by omega))
theorem Mf.st {τ : aH} {D1 : Nat → Int → Int} (h : Mf σ n (-1) W H D Es Er K fr va du fo) (hF : Fr ASt σ τ) (hD : Dm (rI τ) = D1) (hS : StB D1 n) (hDst : Dst D1 n) (hfld : Fld D1 n W H) : Mf τ n (-1) W H D1 Es Er K fr va du fo := h.re hF (fun a i z => ASt1 a i (by omega)) (fun i z => ASt2 i (by omega)) (h.1.1.st hF) hD hS hDst hfld
/-- the first bit from f on -/
theorem m_scan {st f s dg : Int} {P : aO → aH → Prop} (hG : G σ u) (hn : rI σ 76 28 = n) (h9 : 0 ≤ n ∧ n ≤ 9) (hst : 0 ≤ st ∧ st ≤ 511) (rf : inR f) (rd : inR dg) (hs : 0 ≤ s ∧ s ≤ n) (hno : ∀ i : Int, f ≤ i → i < s → bt st i = 0) (hyes : s < n → bt st s ≠ 0) (k : L_X10_puts_27 (Ev sc d) sc P st f dg s σ) : ∀ (m : Nat) (i : Int), (s - i).toNat = m → 0 ≤ i → f ≤ i → i ≤ s → L_X10_puts_3 (Ev sc d) sc P st f dg i σ := by
  intro m
  induction m with
  | zero =>
    intro i hm i0 i1 i2
    have e : i = s := by omega
    rw [e]
    apply v_X10_puts_3 hG (by omega) rf rd (by omega)
    rw [z_bt (by omega) (by omega) (by omega)]
    exact ⟨fun _ => k, fun q => ⟨fun _ => k, fun z => absurd z (hyes (by omega))⟩⟩
  | succ m ih =>
    intro i hm i0 i1 i2
    apply v_X10_puts_3 hG (by omega) rf rd (by omega)
    rw [z_bt (by omega) (by omega) (by omega)]
    exact ⟨fun q => by omega, fun q => ⟨fun z => absurd (hno i i1 (by omega)) z, fun _ => ⟨by omega, ih (i + 1) (by omega) (by omega) (by omega) (by omega)⟩⟩⟩
theorem m_leaf {st f dg val code : Int} (hG : G σ u) (hM : Mf σ n (-1) W H D Es Er K fr va du fo) (hst : 0 ≤ st ∧ st ≤ 511) (hf : 0 ≤ f ∧ f ≤ n) (rd : inR dg) (hno : ∀ i : Int, f ≤ i → i < n → bt st i = 0) (hV : VB σ val code) : TV sc (d + 6) mX10_puts [.ref 76, .int (nZ st), .int (nZ f), .int (nZ dg)] σ (fun σ1 => Fr (fun a i => AGo a i ∨ (a = 76 ∧ (i = 42 ∨ i = 43))) σ σ1 ∧ (DueD D n (-1) (1 + rI σ 76 19) (sT Es fo) (CF Er) (CF1 Er du) < val → VB σ1 (DueD D n (-1) (1 + rI σ 76 19) (sT Es fo) (CF Er) (CF1 Er du)) dg) ∧ (val ≤ DueD D n (-1) (1 + rI σ 76 19) (sT Es fo) (CF Er) (CF1 Er du) → VB σ1 val code)) := by
  have h9 := hM.1.1.2.1
  have hn := hM.1.1.1
  have hE := hM.1.2.2.2.2.2.2.2.2.2.2.2.2.2.2
  apply T.void
  apply t_X10_puts hG (by omega) (by omega) rd
  refine m_scan hG hn h9 hst (by omega) rd (s := n) (by omega) hno (fun z => by omega) ?_ _ f rfl hf.1 (by omega) hf.2
  apply v_X10_puts_27 hG (by omega) (by omega) rd (by omega)
  rw [hn]
  refine ⟨fun z => absurd rfl z, fun _ => ?_⟩
  obtain ⟨r5, σ1, he1, hr1, hF1, -, h1⟩ := m_dueNow (sc := sc) (d := d) hG hM
  have bd := DueD_bd (D := D) (gone := -1) (w := 1 + rI σ 76 19) (S := sT Es fo) h9.2 (CF9 hE) (CF19 (du := du) hE)
  rw [← h1] at bd ⊢
  have nG : ∀ i : Int, i ≠ 36 → i ≠ 37 → ¬ AGo 76 i := fun i p q => by show ¬ ((261 ≤ 76 ∧ 76 ≤ 313) ∨ (76 = 76 ∧ (i = 36 ∨ i = 37))); omega
  have hV1 : VB σ1 val code := hV.fr hF1 (nG _ (by omega) (by omega)) (nG _ (by omega) (by omega))
  have hFw : Fr (fun a i => AGo a i ∨ (a = 76 ∧ (i = 42 ∨ i = 43))) σ σ1 := hF1.weak (fun a i z => Or.inl z)
  have wr2 : ∀ σ6 σ9 : aH, wI σ1 76 42 r5 = σ6 → wI σ6 76 43 dg = σ9 → Fr (fun a i => AGo a i ∨ (a = 76 ∧ (i = 42 ∨ i = 43))) σ σ9 ∧ VB σ9 r5 dg := by
    intro σ6 σ9 e6 e9
    refine ⟨by rw [← e9, ← e6]; exact (hFw.trans (Fr.w (by omega) (Or.inr ⟨rfl, Or.inl rfl⟩))).trans (Fr.w (by omega) (Or.inr ⟨rfl, Or.inr rfl⟩)), Or.inr ⟨?_, ?_, by omega, by omega⟩⟩
    · rw [← e9, rI_wi (by decide), ← e6]; exact rI_ww hr1
    · rw [← e9]; exact rI_ww rd
  refine ⟨r5, σ1, he1, hF1.g hG, hr1, fun z σ6 e6 σ9 e9 => ?_, fun z => ⟨fun z1 σ6 e6 σ9 e9 => ?_, fun z1 => ?_⟩⟩
  · obtain ⟨a, b⟩ := wr2 σ6 σ9 e6 e9
    refine ⟨rfl, a, fun _ => b, fun y => ?_⟩
    rcases hV1 with v | v <;> omega
  · obtain ⟨a, b⟩ := wr2 σ6 σ9 e6 e9
    refine ⟨rfl, a, fun _ => b, fun y => ?_⟩
    rcases hV1 with v | v <;> omega
  · refine ⟨rfl, hFw, fun y => ?_, fun _ => hV1⟩
    rcases hV1 with v | v <;> omega
/-- one stall s, away now, put on every free cell -/
theorem m_lvl1 {τ0 : aH} {st f s dg val code : Int} {E : Nat → Int → Int} {Cand : Int → Prop} {V : Int → Int} (hG : G σ u) (hM : Mf σ n (-1) W H D Es Er K fr va du fo) (hF0 : Fr ASt σ τ0) (hst : 0 ≤ st ∧ st ≤ 511) (hf : 0 ≤ f ∧ f ≤ s) (hs : 0 ≤ s ∧ s < n) (hdg : 0 ≤ dg ∧ dg < 100) (hno : ∀ i : Int, f ≤ i → i < n → (bt st i ≠ 0 ↔ i = s)) (hD : DpEx s E (Dm (rI τ0))) (hx9 : Dm (rI τ0) 0 s = -9) (hE : ∀ x y : Int, 0 ≤ x → x < W → 0 ≤ y → y < H → (∀ k : Int, k ≠ s → ¬ At E n x y k) → StB (Dput E s x y) n ∧ Dst (Dput E s x y) n ∧ Fld (Dput E s x y) n W H)
    (hCa : ∀ x y : Int, 0 ≤ x → x < 10 → 0 ≤ y → y < 10 → (Cand (100 * dg + x + 10 * y) ↔ (x < W ∧ y < H ∧ ∀ k : Int, k ≠ s → ¬ At E n x y k))) (hVa : ∀ x y : Int, 0 ≤ x → x < 10 → 0 ≤ y → y < 10 → V (100 * dg + x + 10 * y) = DueD (Dput E s x y) n (-1) (1 + rI σ 76 19) (sT Es fo) (CF Er) (CF1 Er du)) (hV : VB τ0 val code) (hB : BestS (fun c => Cand c ∧ c < 100 * dg) V 1000000000 val code) :
    TV sc (d + 7) mX10_puts [.ref 76, .int (nZ st), .int (nZ f), .int (nZ dg)] τ0 (fun τ1 => Fr ASt σ τ1 ∧ DpEx s E (Dm (rI τ1)) ∧ Dm (rI τ1) 0 s = -9 ∧ ∃ v c : Int, VB τ1 v c ∧ BestS (fun q => Cand q ∧ q < 100 * dg + 100) V 1000000000 v c) := by
  have h9 := hM.1.1.2.1
  have hWH := hM.1.2.2.2.2.2.2.1
  have keep : ∀ τ : aH, Fr ASt σ τ → G τ u ∧ MN τ n (-1) ∧ rI τ 80 0 = W ∧ rI τ 80 1 = H ∧ rI τ 76 19 = rI σ 76 19 := fun τ hF => ⟨hF.g hG, hM.1.1.st hF, (hF.rw (by omega) (ASt1 _ _ (by omega))).trans hM.1.2.2.2.2.2.1.1, (hF.rw (by omega) (ASt1 _ _ (by omega))).trans hM.1.2.2.2.2.2.1.2, hF.rw (by omega) (ASt2 _ (by omega))⟩
  obtain ⟨k1, k2, -, -, -⟩ := keep τ0 hF0
  apply T.void
  apply t_X10_puts k1 (by omega) (by omega) (by omega)
  obtain ⟨P, hP⟩ : ∃ P : aO → aH → Prop, P = QV (fun τ1 => Fr ASt σ τ1 ∧ DpEx s E (Dm (rI τ1)) ∧ Dm (rI τ1) 0 s = -9 ∧ ∃ v c : Int, VB τ1 v c ∧ BestS (fun q => Cand q ∧ q < 100 * dg + 100) V 1000000000 v c) := ⟨_, rfl⟩
  rw [← hP]
  refine m_scan k1 k2.1 h9 hst (by omega) (by omega) (s := s) (by omega) (fun i i0 i1 => by
    by_cases z : bt st i = 0
    · exact z
    · have := (hno i i0 (by omega)).mp z; omega) (fun _ => (hno s hf.2 hs.2).mpr rfl) ?_ _ f rfl hf.1 (by omega) hf.2
  have row : ∀ i : Int, ASt (91 + s.toNat) i := fun i => Or.inl (by omega)
  have free : ∀ (τ : aH) (x y : Int), 0 ≤ x → DpEx s E (Dm (rI τ)) → Dm (rI τ) 0 s = -9 → ((∀ k : Int, k ≠ -1 → ¬ At (Dm (rI τ)) n x y k) ↔ ∀ k : Int, k ≠ s → ¬ At E n x y k) := by
    intro τ x y x0 hDt h9s
    have eo : ∀ (f : Nat) (k : Int), 0 ≤ k → k ≠ s → Dm (rI τ) f k = E f k := fun f k k0 ks => hDt f k (by omega)
    constructor
    · intro h k ks hk
      refine h k (by have := hk.1; omega) ⟨hk.1, hk.2.1, ?_, ?_⟩
      · rw [eo 0 k hk.1 ks]; exact hk.2.2.1
      · rw [eo 1 k hk.1 ks]; exact hk.2.2.2
    · intro h k _ hk
      by_cases ks : k = s
      · rw [ks] at hk
        have := hk.2.2.1
        omega
      · refine h k ks ⟨hk.1, hk.2.1, ?_, ?_⟩
        · rw [← eo 0 k hk.1 ks]; exact hk.2.2.1
        · rw [← eo 1 k hk.1 ks]; exact hk.2.2.2
  have rows : ∀ (m : Nat) (y v c : Int) (τ : aH), (H - y).toNat = m → 0 ≤ y → y ≤ H → Fr ASt σ τ → DpEx s E (Dm (rI τ)) → Dm (rI τ) 0 s = -9 → VB τ v c → BestS (fun q => Cand q ∧ q < 100 * dg + 10 * y) V 1000000000 v c → L_X10_puts_75 (Ev sc (d + 6)) sc P st f dg s y τ := by
    intro m
    induction m with
    | zero =>
      intro y v c τ hm y0 y1 hF hDt h9s hv hb
      obtain ⟨l1, l2, l3, l4, l5⟩ := keep τ hF
      apply v_X10_puts_75 l1 (by omega) (by omega) (by omega) (by omega) (by omega)
      refine ⟨fun _ => ?_, fun q => by omega⟩
      rw [hP]
      refine ⟨rfl, hF, hDt, h9s, v, c, hv, hb.ext (by omega) (fun q p1 p2 p3 => ?_)⟩
      exfalso
      have e : q = 100 * dg + (q - 100 * dg) % 10 + 10 * ((q - 100 * dg) / 10) := by omega
      rw [e] at p1
      have := (hCa _ _ (by omega) (by omega) (by omega) (by omega)).mp p1
      omega
    | succ m ih =>
      intro y v c τ hm y0 y1 hF hDt h9s hv hb
      have cols : ∀ (m2 : Nat) (x v c : Int) (τ : aH), (W - x).toNat = m2 → 0 ≤ x → x ≤ W → Fr ASt σ τ → DpEx s E (Dm (rI τ)) → Dm (rI τ) 0 s = -9 → VB τ v c → BestS (fun q => Cand q ∧ q < 100 * dg + x + 10 * y) V 1000000000 v c → L_X10_puts_89 (Ev sc (d + 6)) sc P st f dg s y x τ := by
        intro m2
        induction m2 with
        | zero =>
          intro x v c τ hm2 x0 x1 hF hDt h9s hv hb
          obtain ⟨l1, l2, l3, l4, l5⟩ := keep τ hF
          apply v_X10_puts_89 l1 (by omega) (by omega) (by omega) (by omega) (by omega) (by omega)
          refine ⟨fun _ => ⟨by omega, ih (y + 1) v c τ (by omega) (by omega) (by omega) hF hDt h9s hv (hb.ext (by omega) (fun q p1 p2 p3 => ?_))⟩, fun q => by omega⟩
          exfalso
          have e : q = 100 * dg + (q - 100 * dg) % 10 + 10 * ((q - 100 * dg) / 10) := by omega
          rw [e] at p1
          have := (hCa _ _ (by omega) (by omega) (by omega) (by omega)).mp p1
          omega
        | succ m2 ihm =>
          intro x v c τ hm2 x0 x1 hF hDt h9s hv hb
          obtain ⟨l1, l2, l3, l4, l5⟩ := keep τ hF
          obtain ⟨r6, σ2, he2, hr2, e2, h2⟩ := m_stallOn (sc := sc) (d := d + 4) (x := x) (y := y) l1 l2 (by omega) (by omega)
          subst e2
          have hfr := free σ2 x y x0 hDt h9s
          have ek : 100 * dg + (x + 1) + 10 * y = 100 * dg + x + 10 * y + 1 := by omega
          apply v_X10_puts_89 l1 (by omega) (by omega) (by omega) (by omega) (by omega) (by omega)
          refine ⟨fun q => by omega, fun _ => ⟨r6, σ2, he2, l1, hr2, fun q1 => ⟨by omega, fun σ8 e8 => ⟨by omega, fun σ12 e12 => ⟨by omega, by omega, by omega, by omega, by omega, ?_⟩⟩⟩, fun q1 => ⟨by omega, ?_⟩⟩⟩
          · have hfree : ∀ k : Int, k ≠ s → ¬ At E n x y k := hfr.mp (by
              rcases h2 with h2 | h2
              · exact h2.2
              · exfalso; have := h2.1.1.1; omega)
            obtain ⟨b1, b2, b3⟩ := hE x y x0 (by omega) y0 (by omega) hfree
            have hF12 : Fr ASt σ σ12 := by rw [← e12, ← e8]; exact (hF.trans (Fr.w (by omega) (row _))).trans (Fr.w (by omega) (row _))
            have hD12 : Dm (rI σ12) = Dput E s x y := by
              have g1 : Dm (rI σ8) = Dset (Dm (rI σ2)) 0 s x := by rw [← e8]; exact Dm_w (f := 0) (by omega) (by omega)
              have g2 : Dm (rI σ12) = Dset (Dm (rI σ8)) 1 s y := by rw [← e12]; exact Dm_w (f := 1) (by omega) (by omega)
              rw [g2, g1]; exact hDt.put x y
            obtain ⟨j1, j2, j3, j4, j5⟩ := keep σ12 hF12
            have hM12 := hM.st hF12 hD12 b1 b2 b3
            have hv12 : VB σ12 v c := by
              refine hv.fr (A := fun a _ => a = 91 + s.toNat) ?_ (by show ¬ (76 = 91 + s.toNat); omega) (by show ¬ (76 = 91 + s.toNat); omega)
              rw [← e12, ← e8]; exact (Fr.w (by omega) rfl).trans (Fr.w (by omega) rfl)
            obtain ⟨σ20, he20, hF20, hlt, hge⟩ := m_leaf (sc := sc) (d := d) (st := st) (f := s + 1) (dg := 100 * dg + x + 10 * y) j1 hM12 hst (by omega) (by omega) (fun i i0 i1 => by
              by_cases z : bt st i = 0
              · exact z
              · have := (hno i (by omega) i1).mp z; omega) hv12
            rw [j5, ← hVa x y x0 (by omega) y0 (by omega)] at hlt hge
            have hF20' : Fr ASt σ σ20 := hF12.trans (hF20.weak (fun a i z => by
              rcases z with z | z
              · exact AGo_ASt a i z
              · exact Or.inr (Or.inr ⟨z.1, by omega⟩)))
            have hD20 : Dm (rI σ20) = Dput E s x y := by
              rw [← hD12]; exact Dm_fr hF20 (fun a i p q => by show ¬ (((261 ≤ a ∧ a ≤ 313) ∨ (a = 76 ∧ (i = 36 ∨ i = 37))) ∨ (a = 76 ∧ (i = 42 ∨ i = 43))); omega)
            refine ⟨σ20, he20, hF20'.g hG, by omega, fun σ25 e25 => ⟨by omega, ?_⟩⟩
            have hF25 : Fr ASt σ σ25 := by rw [← e25]; exact hF20'.trans (Fr.w (by omega) (row _))
            have hD25' : Dm (rI σ25) = Dset (Dput E s x y) 0 s (-9) := by rw [← e25, ← hD20]; exact Dm_w (f := 0) (by omega) (by decide)
            have hD25 : DpEx s E (Dm (rI σ25)) := by
              rw [hD25']
              intro f' i hfi
              rw [Dset_ne (by omega), Dput_ne (by omega)]
            have h9' : Dm (rI σ25) 0 s = -9 := by rw [hD25']; exact Dset_eq rfl
            have v25 : ∀ a b : Int, VB σ20 a b → VB σ25 a b := fun a b h => h.fr (A := fun a _ => a = 91 + s.toNat) (by rw [← e25]; exact Fr.w (by omega) rfl) (by show ¬ (76 = 91 + s.toNat); omega) (by show ¬ (76 = 91 + s.toNat); omega)
            have hC := (hCa x y x0 (by omega) y0 (by omega)).mpr ⟨by omega, by omega, hfree⟩
            by_cases lt : V (100 * dg + x + 10 * y) < v
            · refine ihm (x + 1) _ _ σ25 (by omega) (by omega) (by omega) hF25 hD25 h9' (v25 _ _ (hlt lt)) ?_
              rw [ek]; exact hb.take hC lt
            · refine ihm (x + 1) v c σ25 (by omega) (by omega) (by omega) hF25 hD25 h9' (v25 _ _ (hge (by omega))) (hb.ext (by omega) (fun q p1 p2 p3 => ?_))
              have e : q = 100 * dg + x + 10 * y := by omega
              rw [e]; omega
          · refine ihm (x + 1) v c σ2 (by omega) (by omega) (by omega) hF hDt h9s hv (hb.ext (by omega) (fun q p1 p2 p3 => ?_))
            exfalso
            have e : q = 100 * dg + x + 10 * y := by omega
            rw [e] at p1
            have hx := ((hCa x y x0 (by omega) y0 (by omega)).mp p1).2.2
            rcases h2 with h2 | h2
            · exact q1 h2.1
            · exact (hfr.mpr hx) r6 h2.1.2 h2.1.1
      obtain ⟨l1, l2, l3, l4, l5⟩ := keep τ hF
      apply v_X10_puts_75 l1 (by omega) (by omega) (by omega) (by omega) (by omega)
      refine ⟨fun q => by omega, fun _ => cols _ 0 v c τ rfl (by omega) (by omega) hF hDt h9s hv ?_⟩
      rw [show 100 * dg + 0 + 10 * y = 100 * dg + 10 * y by omega]; exact hb
  apply v_X10_puts_27 k1 (by omega) (by omega) (by omega) (by omega)
  rw [k2.1]
  refine ⟨fun _ => rows _ 0 val code τ0 rfl (by omega) (by omega) hF0 hD hx9 hV ?_, fun z => by omega⟩
  rw [show 100 * dg + 10 * 0 = 100 * dg by omega]; exact hB
end
