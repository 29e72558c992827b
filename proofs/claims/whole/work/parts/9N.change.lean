/-! BOTH SIDES: calls that change the market. -/
/-- the ints of another memory over this one -/
abbrev ov (σ σ2 : aH) : aH := (σ.1, σ.2.1, σ2.2.2.1, σ.2.2.2)
section
variable {sc : Nat × (Nat → Int32)} {d : Nat} {σ σ1 σ2 τ : aH} {u v : Nat} {n g W H : Int} {D D2 : Nat → Int → Int} {Es Er : Nat → Option Int} {du fo N w cl K : Int} {fr va : Int → Int}
theorem Fr.over {A B : Nat → Int → Prop} {r : Int} (h1 : Fr A σ σ1) (h2 : Fr B (wJ σ1 344 0 r) σ2) : Fr (fun a i => A a i ∨ B a i) σ (ov σ σ2) :=
  ⟨⟨rfl, rfl, rfl⟩, fun a i p z => (h2.2 a i p (fun y => z (Or.inr y))).trans (h1.2 a i p (fun y => z (Or.inl y)))⟩
theorem Fr.over0 {A B : Nat → Int → Prop} (h1 : Fr A σ σ1) (h2 : Fr B σ1 σ2) : Fr (fun a i => A a i ∨ B a i) σ (ov σ σ2) :=
  ⟨⟨rfl, rfl, rfl⟩, fun a i p z => (h2.2 a i p (fun y => z (Or.inr y))).trans (h1.2 a i p (fun y => z (Or.inl y)))⟩
theorem Mf.re2 {A : Nat → Int → Prop} {τ : aH} {n1 g1 : Int} {D1 : Nat → Int → Int} (h : Mf σ n g W H D Es Er K fr va du fo) (hF : Fr A σ τ) (h1 : ∀ (a : Nat) (i : Int), (a = 80 ∨ (122 ≤ a ∧ a ≤ 141) ∨ (190 ≤ a ∧ a ≤ 259)) → ¬ A a i) (h2 : ¬ A 76 25) (hw : 0 ≤ rI τ 76 19 ∧ rI τ 76 19 ≤ 1) (hN : MN τ n1 g1) (hD : Dm (rI τ) = D1) (hS : StB D1 n1) (hDst : Dst D1 n1) (hfld : Fld D1 n1 W H) : Mf τ n1 g1 W H D1 Es Er K fr va du fo := by
  obtain ⟨⟨a1, a2, a3, a4, a5, a6, a7, a8, a9, a10, a11, a12, a13, a14, a15⟩, b1, b2⟩ := h
  have hK := a11.1
  have r80 : ∀ i : Int, 0 ≤ i → rI τ 80 i = rI σ 80 i := fun i i0 => hF.rw i0 (h1 _ _ (by omega))
  have r25 : rI τ 76 25 = rI σ 76 25 := hF.rw (by omega) h2
  refine ⟨⟨hN, hD.symm, hS, hDst, hfld, ⟨(r80 0 (by omega)).trans a6.1, (r80 1 (by omega)).trans a6.2⟩, a7, hw, (r80 6 (by omega)).trans a9, fun k k0 k1 => ?_, a11, ⟨(r80 4 (by omega)).trans a12.1, a12.2⟩, by rw [r25]; exact a13, ?_, a15⟩, (r80 3 (by omega)).trans b1, b2⟩
  · rw [hF.rw (i := 0) (by omega) (h1 _ _ (by omega)), hF.rw (i := 1) (by omega) (h1 _ _ (by omega)), hF.rw (i := 2) (by omega) (h1 _ _ (by omega)), hF.rw (i := 3) (by omega) (h1 _ _ (by omega))]
    exact a10 k k0 k1
  · rw [r25]
    intro q q0 q1
    have := a14 q q0 q1
    have e : ∀ i : Int, 0 ≤ i → rI τ (190 + q.toNat) i = rI σ (190 + q.toNat) i := fun i i0 => hF.rw i0 (h1 _ _ (by omega))
    rw [e 0 (by omega), e 1 (by omega), e 2 (by omega), e 3 (by omega)]
    refine ⟨this.1, this.2.1, fun z => ?_, this.2.2.2.1, this.2.2.2.2⟩
    rw [hF.rw (i := 0) (by omega) (h1 _ _ (by omega))]; exact this.2.2.1 z
/-- the market has changed alike on both sides -/
theorem J.upd {C : Nat → Int → Prop} (h : J σ u v n W H D Es Er du fo N) (hF : Fr C σ τ)
    (c1 : ∀ (a : Nat) (i : Int), ((a = u ∧ 3 ≤ i ∧ i ≤ 7) ∨ (u + 10 ≤ a ∧ a ≤ u + 15) ∨ a = 29 ∨ a = 30 ∨ a = 32 ∨ a = 33 ∨ (a = u + 1 ∧ (i = 8 ∨ i = 9)) ∨ (a = v + 1 ∧ i = 9)) → ¬ C a i)
    (c2 : ∀ (a : Nat) (i : Int), (a = 80 ∨ (122 ≤ a ∧ a ≤ 141) ∨ (190 ≤ a ∧ a ≤ 259) ∨ (a = 76 ∧ (i = 25 ∨ i = 27 ∨ i = 28))) → ¬ C a i)
    (hw : 0 ≤ rI τ u 9 ∧ rI τ u 9 ≤ 1) (hM : Deq n (Dc (rI τ) u) (Dm (rI τ))) (hS : StB (Dc (rI τ) u) n) (hg : Hg (Dc (rI τ) u) n) (hd : Dst (Dc (rI τ) u) n) (hf : Fld (Dc (rI τ) u) n W H)
    (hco : ∀ i : Int, 0 ≤ i → i < n → rI τ 184 i = Dc (rI τ) u 7 i) (hSC : SC (rI τ) u (N + 1)) (hIM : IM (rI τ) n W H) : J τ u v n W H (Dc (rI τ) u) Es Er du fo (N + 1) := by
  obtain ⟨hG, hv, hC, ⟨K, fr, va, D2, hm, hdq, h2, _⟩, _, _⟩ := h
  have r : ∀ i : Int, 3 ≤ i → i ≤ 7 → rI τ u i = rI σ u i := fun i a b => hF.rw (by omega) (c1 _ _ (Or.inl ⟨rfl, a, b⟩))
  have h8 : rI τ (u + 1) 8 = n := (hF.rw (by decide) (c1 _ _ (by omega))).trans hC.2.1.1
  have h9 : rI τ (u + 1) 9 = -1 := (hF.rw (by decide) (c1 _ _ (by omega))).trans hC.go
  obtain ⟨a1, a2, a3, a4, a5, a6, a7, a8, a9, a10, a11, a12, a13⟩ := hC
  refine ⟨hF.g hG, ⟨?_, hv.2.1, hv.2.2.1, (hF.rw (by decide) (c1 _ _ (by omega))).trans hv.2.2.2⟩, ⟨rfl, ⟨h8, a2.2.1, hS, hw⟩, a3, hg, hd, hf, ⟨(r 3 (by decide) (by decide)).trans a7.1, (r 4 (by decide) (by decide)).trans a7.2⟩, a8, a9.fr hF (fun a i z => c1 a i (by omega)), ⟨(r 5 (by decide) (by decide)).trans a10.1, (r 6 (by decide) (by decide)).trans a10.2⟩, a11.fr hF (fun a i z => c1 a i (by omega)), a12.fr hF (fun a i z => c1 a i (by omega)), h9⟩, ?_, hSC, hIM⟩
  · have e := hF.1.2.1
    show τ.2.1 0 6 = some v
    rw [e]; exact hv.1
  · have e01 : ∀ i : Int, 0 ≤ i → i < n → Dm (rI τ) 0 i = Dc (rI τ) u 0 i ∧ Dm (rI τ) 1 i = Dc (rI τ) u 1 i := fun i p q => ⟨hM 0 i (by decide) p q, hM 1 i (by decide) p q⟩
    refine ⟨K, fr, va, Dm (rI τ), hm.re2 hF (fun a i z => c2 a i (by omega)) (c2 _ _ (by omega)) (by rw [hSC.2.2.1]; exact hw) ⟨(hF.rw (by decide) (c2 _ _ (by omega))).trans hm.1.1.1, hm.1.1.2.1, (hF.rw (by decide) (c2 _ _ (by omega))).trans hm.1.1.2.2.1, by decide⟩ rfl (hM.stb hS) (hd.of e01) (Fld.of hf e01), hM, (hF.rw (by decide) (c2 _ _ (Or.inl rfl))).trans h2, hco⟩
/-- J of the ints laid over is J -/
theorem J.ov {D1 : Nat → Int → Int} {n1 W1 H1 du1 fo1 N1 : Int} {Es1 Er1 : Nat → Option Int} (h : J (ov σ σ2) u v n1 W1 H1 D1 Es1 Er1 du1 fo1 N1) (hG : G σ2 u) (hv : gM σ2 0 6 = some v) : J σ2 u v n1 W1 H1 D1 Es1 Er1 du1 fo1 N1 :=
  ⟨hG, ⟨hv, h.2.1.2⟩, h.2.2.1, h.2.2.2.1, h.2.2.2.2.1, h.2.2.2.2.2⟩
theorem JQ.gen1 {qc qr : aM} {args : List Value} {ok : Prop} {q : Nat} {CP : Int → aH → Prop} {RP : aH → Int → aH → Prop} (hJ : J σ u v n W H D Es Er du fo N) (hN : 0 ≤ N ∧ N ≤ 1000) (hg : gN σ ≤ 100000) (hq : q = 0 ∨ q = 1)
    (hc : RmC σ → T sc d qc (.ref 0 :: args) σ (CQ1 σ ok q CP))
    (low : ok → ∀ (r : Int) (σ1 : aH), CP r σ1 → ∃ A : Nat → Int → Prop, Fr A σ σ1 ∧ ∀ (a : Nat) (i : Int), 76 ≤ a → ¬ A a i)
    (hr : ∀ τ : aH, RJ τ u n W H D Es Er du fo (rI σ u 9) (rI σ u 7) → (∀ (a : Nat) (i : Int), 76 ≤ a → 0 ≤ i → rI τ a i = rI σ a i) → TI sc d qr (.ref 76 :: args) τ (OB τ ok 1 (q : Int) (RP τ)))
    (fin : ok → ∀ (r r2 : Int) (σ1 σ2 : aH), CP r σ1 → RP (wJ σ1 344 0 r) r2 σ2 → r2 = r ∧ rI σ2 76 0 = 0 ∧ (∃ B : Nat → Int → Prop, Fr B (wJ σ1 344 0 r) σ2) ∧ ∃ D1 : Nat → Int → Int, J (ov σ σ2) u v n W H D1 Es Er du fo (N + 1)) : JQ sc d qc qr args (kq q) σ N := by
  obtain ⟨o, σ1, he, hc1⟩ := hc (hJ.rm hN.2 hg)
  rcases hc1 with ⟨hok, r, eo, rr, cp⟩ | ⟨hno, eo, hk⟩
  · rw [eo] at he
    obtain ⟨A, hF, hA⟩ := low hok r σ1 cp
    obtain ⟨r2, σ2, he2, rr2, ob⟩ := hr (wJ σ1 344 0 r) (hJ.rj hN.2 hF hA).wJ (fun a i p q => hF.rw q (hA a i p))
    rcases ob with ⟨_, rp⟩ | ⟨z, _⟩
    · obtain ⟨er, h0, ⟨B, hB⟩, D1, J2⟩ := fin hok r r2 σ1 σ2 cp rp
      rw [er] at he2
      have w1 := hF.nw
      have w2 := hB.nw
      have G1 := hF.g hJ.1
      have G2 : G σ2 u := hB.g (show G (wJ σ1 344 0 r) u from G1)
      have v2 : gM σ2 0 6 = some v := by
        have e := hB.1.2.1
        have e1 := hF.1.2.1
        show σ2.2.1 0 6 = some v
        rw [e]; show σ1.2.1 0 6 = some v; rw [e1]; exact hJ.2.1.1
      refine Or.inl ⟨r, σ1, σ2, he, rr, ⟨u, G1⟩, he2, h0, ?_, ⟨⟨u, v, n, W, H, D1, Es, Er, du, fo, J2.ov G2 v2⟩, ?_, ?_⟩, trivial⟩
      · rw [w2.2.2]; exact rJ_w (by omega) 344 0 |>.trans (if_pos ⟨rfl, rfl⟩)
      · rw [w2.1]; show gN σ1 ≤ _; rw [w1.1]; omega
      · rw [w2.2.1]; show gW σ1 ≤ _; rw [w1.2.1]; omega
    · exact absurd hok z
  · rw [eo] at he
    obtain ⟨r2, σ2, he2, rr2, ob⟩ := hr σ1 (KO.rj hJ hN.2 hk hq) (fun a i p q => hk.hi p)
    rcases ob with ⟨z, _⟩ | ⟨_, e2, hm⟩
    · exact absurd z hno
    · obtain ⟨J2, g2, w2⟩ := hJ.refuse hN hk hq hm
      exact Or.inr ⟨q, r2, σ1, σ2, he, hq, kq_ne q, ⟨u, (KO.rj hJ hN.2 hk hq).1⟩, he2, rr2, hm.2.1.trans (kq_eq q).symm, ⟨u, v, n, W, H, D, Es, Er, du, fo, J2⟩, by omega, by omega⟩
theorem JQ.gen2 {qc qr : aM} {args : List Value} {o1 o2 : Prop} {CP : Int → aH → Prop} {RP : aH → Int → aH → Prop} (hJ : J σ u v n W H D Es Er du fo N) (hN : 0 ≤ N ∧ N ≤ 1000) (hg : gN σ ≤ 100000)
    (hc : RmC σ → T sc d qc (.ref 0 :: args) σ (CQ2 σ o1 o2 CP))
    (low : o1 → o2 → ∀ (r : Int) (σ1 : aH), CP r σ1 → ∃ A : Nat → Int → Prop, Fr A σ σ1 ∧ ∀ (a : Nat) (i : Int), 76 ≤ a → ¬ A a i)
    (hr : ∀ τ : aH, RJ τ u n W H D Es Er du fo (rI σ u 9) (rI σ u 7) → (∀ (a : Nat) (i : Int), 76 ≤ a → 0 ≤ i → rI τ a i = rI σ a i) → TI sc d qr (.ref 76 :: args) τ (OB2 τ o1 1 0 o2 2 1 (RP τ)))
    (fin : o1 → o2 → ∀ (r r2 : Int) (σ1 σ2 : aH), CP r σ1 → RP (wJ σ1 344 0 r) r2 σ2 → r2 = r ∧ rI σ2 76 0 = 0 ∧ (∃ B : Nat → Int → Prop, Fr B (wJ σ1 344 0 r) σ2) ∧ ∃ D1 : Nat → Int → Int, J (ov σ σ2) u v n W H D1 Es Er du fo (N + 1)) : JQ sc d qc qr args k12 σ N := by
  obtain ⟨o, σ1, he, hc1⟩ := hc (hJ.rm hN.2 hg)
  rcases hc1 with ⟨h1, h2, r, eo, rr, cp⟩ | ⟨hno, eo, hk⟩ | ⟨h1, hno, eo, hk⟩
  · rw [eo] at he
    obtain ⟨A, hF, hA⟩ := low h1 h2 r σ1 cp
    obtain ⟨r2, σ2, he2, rr2, ob⟩ := hr (wJ σ1 344 0 r) (hJ.rj hN.2 hF hA).wJ (fun a i p q => hF.rw q (hA a i p))
    rcases ob with ⟨_, ⟨_, rp⟩ | ⟨z, _⟩⟩ | ⟨z, _⟩
    · obtain ⟨er, h0, ⟨B, hB⟩, D1, J2⟩ := fin h1 h2 r r2 σ1 σ2 cp rp
      rw [er] at he2
      have w1 := hF.nw
      have w2 := hB.nw
      have G1 := hF.g hJ.1
      have G2 : G σ2 u := hB.g (show G (wJ σ1 344 0 r) u from G1)
      have v2 : gM σ2 0 6 = some v := by
        have e := hB.1.2.1
        have e1 := hF.1.2.1
        show σ2.2.1 0 6 = some v
        rw [e]; show σ1.2.1 0 6 = some v; rw [e1]; exact hJ.2.1.1
      refine Or.inl ⟨r, σ1, σ2, he, rr, ⟨u, G1⟩, he2, h0, ?_, ⟨⟨u, v, n, W, H, D1, Es, Er, du, fo, J2.ov G2 v2⟩, ?_, ?_⟩, trivial⟩
      · rw [w2.2.2]; exact rJ_w (by omega) 344 0 |>.trans (if_pos ⟨rfl, rfl⟩)
      · rw [w2.1]; show gN σ1 ≤ _; rw [w1.1]; omega
      · rw [w2.2.1]; show gW σ1 ≤ _; rw [w1.2.1]; omega
    · exact absurd h2 z
    · exact absurd h1 z
  · rw [eo] at he
    obtain ⟨r2, σ2, he2, rr2, ob⟩ := hr σ1 (KO.rj hJ hN.2 hk (Or.inl rfl)) (fun a i p q => hk.hi p)
    rcases ob with ⟨z, _⟩ | ⟨_, e2, hm⟩
    · exact absurd z hno
    · obtain ⟨J2, g2, w2⟩ := hJ.refuse hN hk (Or.inl rfl) hm
      exact Or.inr ⟨0, r2, σ1, σ2, he, Or.inl rfl, by decide, ⟨u, (KO.rj hJ hN.2 hk (Or.inl rfl)).1⟩, he2, rr2, hm.2.1, ⟨u, v, n, W, H, D, Es, Er, du, fo, J2⟩, by omega, by omega⟩
  · rw [eo] at he
    obtain ⟨r2, σ2, he2, rr2, ob⟩ := hr σ1 (KO.rj hJ hN.2 hk (Or.inr rfl)) (fun a i p q => hk.hi p)
    rcases ob with ⟨_, ⟨z, _⟩ | ⟨_, e2, hm⟩⟩ | ⟨z, _⟩
    · exact absurd z hno
    · obtain ⟨J2, g2, w2⟩ := hJ.refuse hN hk (Or.inr rfl) hm
      exact Or.inr ⟨1, r2, σ1, σ2, he, Or.inr rfl, by decide, ⟨u, (KO.rj hJ hN.2 hk (Or.inr rfl)).1⟩, he2, rr2, hm.2.1, ⟨u, v, n, W, H, D, Es, Er, du, fo, J2⟩, by omega, by omega⟩
    · exact absurd h1 z
theorem JD.gen {qc qr : aM} {args : List Value} {CP : Int → aH → Prop} {RP : aH → Int → aH → Prop} (hJ : J σ u v n W H D Es Er du fo N) (hN : 0 ≤ N ∧ N ≤ 1000)
    (hc : TI sc d qc (.ref 0 :: args) σ CP)
    (low : ∀ (r : Int) (σ1 : aH), CP r σ1 → ∃ A : Nat → Int → Prop, Fr A σ σ1 ∧ ∀ (a : Nat) (i : Int), 76 ≤ a → ¬ A a i)
    (hr : ∀ τ : aH, RJ τ u n W H D Es Er du fo (rI σ u 9) (rI σ u 7) → (∀ (a : Nat) (i : Int), 76 ≤ a → 0 ≤ i → rI τ a i = rI σ a i) → TI sc d qr (.ref 76 :: args) τ (RP τ))
    (fin : ∀ (r r2 : Int) (σ1 σ2 : aH), CP r σ1 → RP σ1 r2 σ2 → r2 = r ∧ (∃ B : Nat → Int → Prop, Fr B σ1 σ2) ∧ ∃ D1 : Nat → Int → Int, J (ov σ σ2) u v n W H D1 Es Er du fo (N + 1)) : JD sc d qc qr args σ N := by
  obtain ⟨r, σ1, he, rr, cp⟩ := hc
  obtain ⟨A, hF, hA⟩ := low r σ1 cp
  obtain ⟨r2, σ2, he2, rr2, rp⟩ := hr σ1 (hJ.rj hN.2 hF hA) (fun a i p q => hF.rw q (hA a i p))
  obtain ⟨er, ⟨B, hB⟩, D1, J2⟩ := fin r r2 σ1 σ2 cp rp
  rw [er] at he2
  have w1 := hF.nw
  have w2 := hB.nw
  have G1 := hF.g hJ.1
  have G2 : G σ2 u := hB.g G1
  have v2 : gM σ2 0 6 = some v := by
    have e := hB.1.2.1
    have e1 := hF.1.2.1
    show σ2.2.1 0 6 = some v
    rw [e, e1]; exact hJ.2.1.1
  exact ⟨r, σ1, σ2, he, rr, ⟨u, G1⟩, he2, ⟨u, v, n, W, H, D1, Es, Er, du, fo, J2.ov G2 v2⟩, by rw [w2.1, w1.1]; omega, by rw [w2.2.1, w1.2.1]; omega⟩
end
