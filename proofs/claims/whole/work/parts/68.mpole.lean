/-! THE REFERENCE: refusals; a pole more. -/
/-- a refusal of the reference -/
def MRef (σ σ1 : aH) (w q : Int) : Prop := Fr (fun a i => (a = 76 ∧ i = 0) ∨ (a = 78 ∧ i = q)) σ σ1 ∧ rI σ1 76 0 = w ∧ rI σ1 78 q = rI σ 78 q + 1
section
variable {sc : Nat × (Nat → Int32)} {d : Nat} {σ : aH} {u : Nat} {n g W H : Int} {D : Nat → Int → Int} {Es Er : Nat → Option Int} {K : Int} {fr va : Int → Int} {du fo : Int}
theorem m_bad0 {w q : Int} (hG : G σ u) (h : rI σ 76 0 = 0) (rw_ : inR w) (rq : inR q) : Ev sc (d + 1) mX10_bad [.ref 76, .int (nZ 0), .int (nZ w), .int (nZ q)] σ (.inl (some (.int (nZ 0)))) σ := by
  apply T.ev
  apply t_X10_bad hG (by decide) rw_ rq
  exact ⟨fun _ => ⟨fun _ => ⟨rfl, rfl⟩, fun z => absurd h z⟩, fun z => absurd rfl z⟩
theorem m_bad1 {w q : Int} (hG : G σ u) (h : rI σ 76 0 = 0) (hw : w = 1 ∨ w = 2) (hq : q = 0 ∨ q = 1) (hc : 0 ≤ rI σ 78 q ∧ rI σ 78 q ≤ 1000000) : ∃ σ1 : aH, Ev sc (d + 1) mX10_bad [.ref 76, .int (nZ 1), .int (nZ w), .int (nZ q)] σ (.inl (some (.int (nZ 1)))) σ1 ∧ MRef σ σ1 w q := by
  have : T sc (d + 1) mX10_bad [.ref 76, .int (nZ 1), .int (nZ w), .int (nZ q)] σ (fun o σ1 => o = .inl (some (.int (nZ 1))) ∧ MRef σ σ1 w q) := by
    apply t_X10_bad hG (by decide) (by omega) (by omega)
    refine ⟨fun z => absurd z (by decide), fun _ => ⟨fun z => absurd h z, fun _ σ1 e1 => ⟨by omega, ?_⟩⟩⟩
    have e78 : rI σ1 78 q = rI σ 78 q := by rw [← e1, rI_wa (by decide)]
    rw [e78]
    refine ⟨by omega, by omega, fun σ5 e5 => ?_⟩
    have e0 : rI σ5 76 0 = w := by rw [← e5, rI_wa (by decide), ← e1]; exact rI_ww (by omega)
    rw [e0]
    refine ⟨fun z => by omega, fun _ => ⟨rfl, ?_, e0, ?_⟩⟩
    · rw [← e5, ← e1]; exact (Fr.w (by omega) (Or.inl ⟨rfl, rfl⟩)).trans (Fr.w (by omega) (Or.inr ⟨rfl, rfl⟩))
    · rw [← e5]; exact rI_ww (by omega)
  obtain ⟨o, σ1, he, rfl, hr⟩ := this
  exact ⟨σ1, he, hr⟩
theorem m_adds {x y h : Int} (hG : G σ u) (hn : rI σ 76 28 = n) (h9 : 0 ≤ n ∧ n < 9) (rx : inR x) (ry : inR y) (rh : inR h) : TV sc (d + 1) mX10_adds [.ref 76, .int (nZ x), .int (nZ y), .int (nZ h)] σ (fun σ1 => Fr (fun a i => a = 91 + n.toNat ∨ (a = 76 ∧ i = 28)) σ σ1 ∧ rI σ1 76 28 = n + 1 ∧ Dm (rI σ1) 0 n = x ∧ Dm (rI σ1) 1 n = y ∧ Dm (rI σ1) 2 n = h ∧ Dm (rI σ1) 3 n = 0 ∧ Dm (rI σ1) 4 n = 0 ∧ Dm (rI σ1) 5 n = 0 ∧ Dm (rI σ1) 6 n = 0) := by
  apply T.void
  apply t_X10_adds hG rx ry rh
  obtain ⟨A, hA⟩ : ∃ A : Nat → Int → Prop, A = fun a i => a = 91 + n.toNat ∨ (a = 76 ∧ i = 28) := ⟨_, rfl⟩
  have yA : ∀ i : Int, A (91 + n.toNat) i := fun i => by rw [hA]; exact Or.inl rfl
  rw [← hA]
  obtain ⟨P, hP⟩ : ∃ P : aO → aH → Prop, P = QV (fun σ1 => Fr A σ σ1 ∧ rI σ1 76 28 = n + 1 ∧ Dm (rI σ1) 0 n = x ∧ Dm (rI σ1) 1 n = y ∧ Dm (rI σ1) 2 n = h ∧ Dm (rI σ1) 3 n = 0 ∧ Dm (rI σ1) 4 n = 0 ∧ Dm (rI σ1) 5 n = 0 ∧ Dm (rI σ1) 6 n = 0) := ⟨_, rfl⟩
  rw [← hP]
  have loop : ∀ (f : Nat) (i : Int) (τ : aH), (7 - i).toNat = f → 0 ≤ i → i ≤ 7 → Fr A σ τ → rI τ 76 28 = n → (∀ q : Int, 0 ≤ q → q < i → rI τ (91 + n.toNat) q = 0) → L_X10_adds_3 (Ev sc d) sc P x y h i τ := by
    intro f
    induction f with
    | zero =>
      intro i τ hf i0 i1 hF hnt hz
      apply v_X10_adds_3 (hF.g hG) rx ry rh (by omega)
      rw [hnt]
      refine ⟨fun _ => ⟨by omega, fun σ2 e2 => ?_⟩, fun q => by omega⟩
      have n2 : rI σ2 76 28 = n := by rw [← e2, rI_wa (by omega)]; exact hnt
      rw [n2]
      refine ⟨by omega, fun σ6 e6 => ?_⟩
      have n6 : rI σ6 76 28 = n := by rw [← e6, rI_wa (by omega)]; exact n2
      rw [n6]
      refine ⟨by omega, fun σ10 e10 => ?_⟩
      have n10 : rI σ10 76 28 = n := by rw [← e10, rI_wa (by omega)]; exact n6
      rw [n10]
      refine ⟨by omega, fun σ14 e14 => ?_⟩
      have lo : ∀ q : Int, 3 ≤ q → q < 7 → rI σ14 (91 + n.toNat) q = 0 := fun q q0 q1 => by
        rw [← e14, rI_wa (by omega), ← e10, rI_wi (by omega), ← e6, rI_wi (by omega), ← e2, rI_wi (by omega)]; exact hz q (by omega) (by omega)
      have dm : ∀ f : Nat, Dm (rI σ14) f n = rI σ14 (91 + n.toNat) f := fun f => Dm_at (by omega)
      rw [hP]
      refine ⟨rfl, ?_, ?_, ?_, ?_, ?_, ?_, ?_, ?_, ?_⟩
      · rw [← e14, ← e10, ← e6, ← e2]
        exact (((hF.trans (Fr.w (by omega) (yA _))).trans (Fr.w (by omega) (yA _))).trans (Fr.w (by omega) (yA _))).trans (Fr.w (by omega) (by rw [hA]; exact Or.inr ⟨rfl, rfl⟩))
      · rw [← e14]; exact rI_ww (by omega)
      · rw [dm]; show rI σ14 (91 + n.toNat) 0 = x
        rw [← e14, rI_wa (by omega), ← e10, rI_wi (by decide), ← e6, rI_wi (by decide), ← e2]; exact rI_ww rx
      · rw [dm]; show rI σ14 (91 + n.toNat) 1 = y
        rw [← e14, rI_wa (by omega), ← e10, rI_wi (by decide), ← e6]; exact rI_ww ry
      · rw [dm]; show rI σ14 (91 + n.toNat) 2 = h
        rw [← e14, rI_wa (by omega), ← e10]; exact rI_ww rh
      · rw [dm]; exact lo 3 (by omega) (by omega)
      · rw [dm]; exact lo 4 (by omega) (by omega)
      · rw [dm]; exact lo 5 (by omega) (by omega)
      · rw [dm]; exact lo 6 (by omega) (by omega)
    | succ f ih =>
      intro i τ hf i0 i1 hF hnt hz
      apply v_X10_adds_3 (hF.g hG) rx ry rh (by omega)
      rw [hnt]
      refine ⟨fun q => by omega, fun _ => ⟨by omega, by omega, fun σ18 e18 => ⟨by omega, ih (i + 1) σ18 (by omega) (by omega) (by omega) (by rw [← e18]; exact hF.trans (Fr.w i0 (yA _))) (by rw [← e18, rI_wa (by omega)]; exact hnt) (fun q q0 q1 => ?_)⟩⟩⟩
      rw [← e18]
      by_cases c : q = i
      · rw [c]; exact rI_ww (by decide)
      · rw [rI_wi (by omega)]; exact hz q q0 (by omega)
  exact loop _ 0 σ rfl (by omega) (by omega) (Fr.refl _ _) hn (fun q a b => by omega)
/-- what a pole's trying changes -/
abbrev AMq : Nat → Int → Prop := fun a i => (91 ≤ a ∧ a ≤ 99) ∨ (261 ≤ a ∧ a ≤ 313) ∨ (a = 76 ∧ (i = 28 ∨ i = 36 ∨ i = 37))
theorem AMq1 (a : Nat) (i : Int) (h : a = 80 ∨ (122 ≤ a ∧ a ≤ 141) ∨ (190 ≤ a ∧ a ≤ 259)) : ¬ AMq a i := by
  show ¬ ((91 ≤ a ∧ a ≤ 99) ∨ (261 ≤ a ∧ a ≤ 313) ∨ (a = 76 ∧ (i = 28 ∨ i = 36 ∨ i = 37))); omega
theorem AMq2 (i : Int) (h : i ≠ 28 ∧ i ≠ 36 ∧ i ≠ 37) : ¬ AMq 76 i := by
  show ¬ ((91 ≤ 76 ∧ 76 ≤ 99) ∨ (261 ≤ 76 ∧ 76 ≤ 313) ∨ (76 = 76 ∧ (i = 28 ∨ i = 36 ∨ i = 37))); omega
theorem AGo_AMq (a : Nat) (i : Int) (h : AGo a i) : AMq a i := by
  have h' : (261 ≤ a ∧ a ≤ 313) ∨ (a = 76 ∧ (i = 36 ∨ i = 37)) := h
  show (91 ≤ a ∧ a ≤ 99) ∨ (261 ≤ a ∧ a ≤ 313) ∨ (a = 76 ∧ (i = 28 ∨ i = 36 ∨ i = 37)); omega
/-- one stall more, on a free cell -/
theorem m_addD {τ : aH} {x y h : Int} (hG : G σ u) (hM : Mf σ n (-1) W H D Es Er K fr va du fo) (h8 : n < 9) (hF : Fr AMq σ τ) (hn : rI τ 76 28 = n) (hD : Deq n D (Dm (rI τ))) (hx : 0 ≤ x ∧ x < W) (hy : 0 ≤ y ∧ y < H) (hh : 0 ≤ h ∧ h ≤ 60) (hfree : ∀ k : Int, ¬ At D n x y k) : TV sc (d + 1) mX10_adds [.ref 76, .int (nZ x), .int (nZ y), .int (nZ h)] τ (fun τ1 => Fr AMq σ τ1 ∧ Fr (fun a i => (91 ≤ a ∧ a ≤ 99) ∨ (a = 76 ∧ i = 28)) τ τ1 ∧ rI τ1 76 28 = n + 1 ∧ Deq (n + 1) (Dadd D n x y h) (Dm (rI τ1)) ∧ Mf τ1 (n + 1) (-1) W H (Dm (rI τ1)) Es Er K fr va du fo) := by
  have h9 := hM.1.1.2.1
  have hSt := hM.1.2.2.1
  have hDst := hM.1.2.2.2.1
  have hfld : Fld D n W H := hM.1.2.2.2.2.1
  have hWH := hM.1.2.2.2.2.2.2.1
  obtain ⟨τ1, he, hF1, hn1, a0, a1, a2, a3, a4, a5, a6⟩ := m_adds (sc := sc) (d := d) (n := n) (x := x) (y := y) (h := h) (hF.g hG) hn (by omega) (by omega) (by omega) (by omega)
  have hF1' : Fr (fun a i => (91 ≤ a ∧ a ≤ 99) ∨ (a = 76 ∧ i = 28)) τ τ1 := hF1.weak (fun a i z => by
    rcases z with z | z
    · exact Or.inl (by omega)
    · exact Or.inr z)
  have hF2 : Fr AMq σ τ1 := hF.trans (hF1'.weak (fun a i z => by
    rcases z with z | z
    · exact Or.inl z
    · exact Or.inr (Or.inr ⟨z.1, Or.inl z.2⟩)))
  have old : ∀ (f : Nat) (i : Int), f ≤ 6 → 0 ≤ i → i < n → Dm (rI τ1) f i = D f i := fun f i hf i0 i1 => by
    rw [← hD f i hf i0 i1, Dm_at (by omega), Dm_at (by omega)]
    exact hF1.rw (by omega) (by show ¬ (91 + i.toNat = 91 + n.toNat ∨ (91 + i.toNat = 76 ∧ _)); omega)
  have hDe : Deq (n + 1) (Dadd D n x y h) (Dm (rI τ1)) := by
    have e := Dadd_n (D := D) (n := n) (x := x) (y := y) (h := h) (i := n) rfl
    obtain ⟨e0, e1, e2, e3, e4, e5, e6, -⟩ := e
    intro f i hf i0 i1
    by_cases c : i = n
    · rw [c]
      have : f = 0 ∨ f = 1 ∨ f = 2 ∨ f = 3 ∨ f = 4 ∨ f = 5 ∨ f = 6 := by omega
      rcases this with rfl | rfl | rfl | rfl | rfl | rfl | rfl
      · rw [a0, e0]
      · rw [a1, e1]
      · rw [a2, e2]
      · rw [a3, e3]
      · rw [a4, e4]
      · rw [a5, e5]
      · rw [a6, e6]
    · rw [old f i hf i0 (by omega), Dadd_ne (by omega)]
  refine ⟨τ1, he, hF2, hF1', hn1, hDe, ?_⟩
  have eN : ∀ i : Int, 0 ≤ i → i < n + 1 → (i = n → Dm (rI τ1) 0 i = x ∧ Dm (rI τ1) 1 i = y) ∧ (i ≠ n → Dm (rI τ1) 0 i = D 0 i ∧ Dm (rI τ1) 1 i = D 1 i) := fun i i0 i1 => ⟨fun e => by rw [e]; exact ⟨a0, a1⟩, fun e => ⟨old 0 i (by omega) i0 (by omega), old 1 i (by omega) i0 (by omega)⟩⟩
  have hN1 : MN τ1 (n + 1) (-1) := ⟨hn1, by omega, (hF2.rw (by omega) (AMq2 _ (by omega))).trans hM.1.1.2.2.1, by omega⟩
  refine hM.re hF2 AMq1 (fun i z => AMq2 i (by omega)) hN1 rfl (hDe.stb (hSt.add h9.1 (by omega) (by omega) (by omega) hh)) ?_ ?_
  · intro x' y' i j hi hj
    by_cases ci : i = n <;> by_cases cj : j = n
    · omega
    · exfalso
      have p := (eN i hi.1 hi.2.1).1 ci
      have q := (eN j hj.1 hj.2.1).2 cj
      refine hfree j ⟨hj.1, by have := hj.2.1; omega, ?_, ?_⟩
      · rw [← q.1, hj.2.2.1, ← hi.2.2.1, p.1]
      · rw [← q.2, hj.2.2.2, ← hi.2.2.2, p.2]
    · exfalso
      have p := (eN j hj.1 hj.2.1).1 cj
      have q := (eN i hi.1 hi.2.1).2 ci
      refine hfree i ⟨hi.1, by have := hi.2.1; omega, ?_, ?_⟩
      · rw [← q.1, hi.2.2.1, ← hj.2.2.1, p.1]
      · rw [← q.2, hi.2.2.2, ← hj.2.2.2, p.2]
    · have p := (eN j hj.1 hj.2.1).2 cj
      have q := (eN i hi.1 hi.2.1).2 ci
      exact hDst x' y' i j ⟨hi.1, by have := hi.2.1; omega, by rw [← q.1]; exact hi.2.2.1, by rw [← q.2]; exact hi.2.2.2⟩ ⟨hj.1, by have := hj.2.1; omega, by rw [← p.1]; exact hj.2.2.1, by rw [← p.2]; exact hj.2.2.2⟩
  · intro i i0 i1
    by_cases ci : i = n
    · have p := (eN i i0 i1).1 ci
      rw [p.1, p.2]; exact ⟨hx.2, hy.2⟩
    · have p := (eN i i0 i1).2 ci
      rw [p.1, p.2]; exact hfld i i0 (by omega)
/-- taking the pole away again -/
theorem m_subD {τ τ2 : aH} {x y h : Int} (hD : Deq (n + 1) (Dadd D n x y h) (Dm (rI τ))) (hn : 0 ≤ n ∧ n < 9) (e : wI τ 76 28 n = τ2) : Deq n D (Dm (rI τ2)) := by
  intro f i hf i0 i1
  rw [← e, Dm_o (by omega), hD f i hf i0 (by omega), Dadd_ne (by omega)]
theorem m_pole {h wh : Int} (hG : G σ u) (hM : Mf σ n (-1) W H D Es Er K fr va du fo) (h8 : n ≤ 8) (hh : 0 ≤ h ∧ h ≤ 60) (hw : wh = 0 ∨ wh = 1) : TI sc (d + 7) mX10_pole [.ref 76, .int (nZ h), .int (nZ wh)] σ (fun r σ1 => Fr (fun a i => AMq a i ∨ (a = 76 ∧ i = 0)) σ σ1 ∧ rI σ1 76 0 = 0 ∧ rI σ1 76 28 = n ∧ Deq n D (Dm (rI σ1)) ∧ (8 ≤ n → r = -1) ∧ (n < 8 → ∃ val code : Int, BestS (PoleC D n W H) (PoleV D n (-1) (1 + rI σ 76 19) (sT Es fo) (CF Er) (CF1 Er du) h) 1000000000 val code ∧ r = if wh = 0 ∨ code = -1 then code else val)) := by
  have h9 := hM.1.1.2.1
  have hDm : D = Dm (rI σ) := hM.1.2.1
  have hWH := hM.1.2.2.2.2.2.2.1
  have hE := hM.1.2.2.2.2.2.2.2.2.2.2.2.2.2.2
  apply T.int
  apply t_X10_pole hG (by omega) (by omega)
  intro σ1 e1
  obtain ⟨A, hA⟩ : ∃ A : Nat → Int → Prop, A = fun a i => AMq a i ∨ (a = 76 ∧ i = 0) := ⟨_, rfl⟩
  rw [← hA]
  have hF1 : Fr A σ σ1 := by rw [← e1, hA]; exact Fr.w (by omega) (Or.inr ⟨rfl, rfl⟩)
  have t1 : rI σ1 76 0 = 0 := by rw [← e1]; exact rI_ww (by decide)
  have hG1 := hF1.g hG
  have hD1 : Dm (rI σ1) = D := by rw [← e1, Dm_o (by omega)]; exact hDm.symm
  have nA0 : ∀ (a : Nat) (i : Int), (80 ≤ a ∧ a ≤ 259) ∨ (a = 76 ∧ i ≠ 0) → ¬ (fun (a : Nat) (i : Int) => a = 76 ∧ i = 0) a i := fun a i z => by show ¬ (a = 76 ∧ i = 0); omega
  have hF01 : Fr (fun a i => a = 76 ∧ i = 0) σ σ1 := by rw [← e1]; exact Fr.w (by omega) ⟨rfl, rfl⟩
  have hM1 : Mf σ1 n (-1) W H D Es Er K fr va du fo := hM.frm hF01 (fun a i z => nA0 a i (by omega)) (fun i z => nA0 76 i (by omega))
  have w1 : rI σ1 76 19 = rI σ 76 19 := hF01.rw (by omega) (nA0 _ _ (by omega))
  obtain ⟨V, hV⟩ : ∃ V : Int → Int, V = PoleV D n (-1) (1 + rI σ 76 19) (sT Es fo) (CF Er) (CF1 Er du) h := ⟨_, rfl⟩
  obtain ⟨P, hP⟩ : ∃ P : aO → aH → Prop, P = QI (fun r σ1 => Fr A σ σ1 ∧ rI σ1 76 0 = 0 ∧ rI σ1 76 28 = n ∧ Deq n D (Dm (rI σ1)) ∧ (8 ≤ n → r = -1) ∧ (n < 8 → ∃ val code : Int, BestS (PoleC D n W H) V 1000000000 val code ∧ r = if wh = 0 ∨ code = -1 then code else val)) := ⟨_, rfl⟩
  rw [← hV, ← hP]
  have hVb : ∀ c : Int, 0 ≤ V c ∧ V c ≤ 2099520 ∨ 8 < n := fun c => by
    by_cases z : 8 < n
    · exact Or.inr z
    · left; rw [hV]; exact DueD_bd (by omega) (CF9 hE) (CF19 hE)
  have keep : ∀ τ : aH, Fr AMq σ1 τ → Fr A σ τ ∧ G τ u ∧ rI τ 80 0 = W ∧ rI τ 80 1 = H ∧ rI τ 76 0 = 0 ∧ rI τ 76 19 = rI σ 76 19 ∧ rI τ 76 27 = gm (-1) := fun τ hF => ⟨hF1.trans (hF.weak (fun a i z => by rw [hA]; exact Or.inl z)), hF.g hG1, (hF.rw (by omega) (AMq1 _ _ (by omega))).trans hM1.1.2.2.2.2.2.1.1, (hF.rw (by omega) (AMq1 _ _ (by omega))).trans hM1.1.2.2.2.2.2.1.2, (hF.rw (by omega) (AMq2 _ (by omega))).trans t1, (hF.rw (by omega) (AMq2 _ (by omega))).trans w1, (hF.rw (by omega) (AMq2 _ (by omega))).trans hM1.1.1.2.2.1⟩
  have fin : ∀ (c v : Int) (τ : aH), Fr AMq σ1 τ → rI τ 76 28 = n → Deq n D (Dm (rI τ)) → (inR c ∧ inR v) → (8 ≤ n → c = -1) → (n < 8 → BestS (PoleC D n W H) V 1000000000 (if c = -1 then 1000000000 else v) c) → (wh = 0 → P (.inl (some (.int (nZ c)))) τ) ∧ (¬ (wh = 0) → (¬ c = -1 → P (.inl (some (.int (nZ v)))) τ) ∧ (c = -1 → P (.inl (some (.int (nZ c)))) τ)) := by
    intro c v τ hF hn hDt hr h8' hb
    obtain ⟨k1, k2, k3, k4, k5, k6, k7⟩ := keep τ hF
    rw [hP]
    refine ⟨fun z => ⟨c, rfl, hr.1, k1, k5, hn, hDt, h8', fun z8 => ⟨_, c, hb z8, ?_⟩⟩, fun z => ⟨fun z1 => ⟨v, rfl, hr.2, k1, k5, hn, hDt, fun z8 => absurd (h8' z8) z1, fun z8 => ⟨_, c, hb z8, ?_⟩⟩, fun z1 => ⟨c, rfl, hr.1, k1, k5, hn, hDt, h8', fun z8 => ⟨_, c, hb z8, ?_⟩⟩⟩⟩
    · rw [if_pos (Or.inl z)]
    · rw [if_neg (by rintro (y | y); exact z y; exact z1 y), if_neg z1]
    · rw [if_pos (Or.inr z1)]
  have rows : ∀ (f : Nat) (row c v : Int) (τ : aH), (H - row).toNat = f → 0 ≤ row → row ≤ H → Fr AMq σ1 τ → rI τ 76 28 = n → Deq n D (Dm (rI τ)) → (inR c ∧ inR v) → (8 ≤ n → c = -1) → (n < 8 → BestS (fun q => PoleC D n W H q ∧ q < 10 * row) V 1000000000 (if c = -1 then 1000000000 else v) c) → L_X10_pole_48 (Ev sc (d + 6)) sc P h wh c v row τ := by
    intro f
    induction f with
    | zero =>
      intro row c v τ hf r0 r1 hF hn hDt hr h8' hb
      obtain ⟨k1, k2, k3, k4, k5, k6, k7⟩ := keep τ hF
      apply v_X10_pole_48 k2 (by omega) (by omega) hr.1 hr.2 (by omega)
      refine ⟨fun _ => fin c v τ hF hn hDt hr h8' (fun z => (hb z).done (fun q hq => ?_)), fun q => by omega⟩
      obtain ⟨a, b, e, -⟩ := hq
      omega
    | succ f ih =>
      intro row c v τ hf r0 r1 hF hn hDt hr h8' hb
      obtain ⟨k1, k2, k3, k4, k5, k6, k7⟩ := keep τ hF
      have cols : n < 8 → ∀ (m : Nat) (col c v : Int) (τ : aH), (W - col).toNat = m → 0 ≤ col → col ≤ W → Fr AMq σ1 τ → rI τ 76 28 = n → Deq n D (Dm (rI τ)) → (inR c ∧ inR v) → BestS (fun q => PoleC D n W H q ∧ q < col + 10 * row) V 1000000000 (if c = -1 then 1000000000 else v) c → L_X10_pole_71 (Ev sc (d + 6)) sc P h wh c v row col τ := by
        intro hn8 m
        induction m with
        | zero =>
          intro col c v τ hm c0 c1 hF hn hDt hr hb
          obtain ⟨k1, k2, k3, k4, k5, k6, k7⟩ := keep τ hF
          apply v_X10_pole_71 k2 (by omega) (by omega) hr.1 hr.2 (by omega) (by omega)
          refine ⟨fun _ => ⟨by omega, ih (row + 1) c v τ (by omega) (by omega) (by omega) hF hn hDt hr (fun z => by omega) (fun _ => hb.ext (by omega) (fun q p1 p2 p3 => ?_))⟩, fun q => by omega⟩
          obtain ⟨a, b, e, -⟩ := p1
          omega
        | succ m ihm =>
          intro col c v τ hm c0 c1 hF hn hDt hr hb
          obtain ⟨k1, k2, k3, k4, k5, k6, k7⟩ := keep τ hF
          have hVk := hVb (col + 10 * row)
          obtain ⟨r6, σ2, he2, hr2, e2, h2⟩ := m_stallOn (sc := sc) (d := d + 4) (n := n) (g := -1) (x := col) (y := row) k2 ⟨hn, h9, k7, by omega⟩ (by omega) (by omega)
          subst e2
          have hAt : ∀ k : Int, At (Dm (rI σ2)) n col row k ↔ At D n col row k := fun k => hDt.at
          have ec : (col + 10 * row) % 10 = col := by omega
          have er : (col + 10 * row) / 10 = row := by omega
          apply v_X10_pole_71 k2 (by omega) (by omega) hr.1 hr.2 (by omega) (by omega)
          refine ⟨fun q => by omega, fun _ => ⟨r6, σ2, he2, k2, hr2, fun q1 => ?_, fun q1 => ⟨by omega, ?_⟩⟩⟩
          · have hfree : ∀ k : Int, ¬ At D n col row k := fun k hk => by
              rcases h2 with h2 | h2
              · exact h2.2 k (by have := hk.1; omega) ((hAt k).mpr hk)
              · have := h2.1.1.1; omega
            obtain ⟨τ1, he7, hF7, hF7', hn7, hD7, hM7⟩ := m_addD (sc := sc) (d := d + 5) (x := col) (y := row) (h := h) hG1 hM1 (by omega) hF hn hDt (by omega) (by omega) hh hfree
            obtain ⟨r15, σ11, he11, hr11, hF11, -, h11⟩ := m_dueNow (sc := sc) (d := d + 1) (hF7.g hG1) hM7
            have w7 : rI τ1 76 19 = rI σ 76 19 := (keep τ1 hF7).2.2.2.2.2.1
            rw [w7, hD7.due] at h11
            have hVc : V (col + 10 * row) = r15 := by rw [hV, h11]; unfold PoleV; rw [ec, er]
            have hF11' : Fr AMq σ1 σ11 := hF7.trans (hF11.weak AGo_AMq)
            have n11 : rI σ11 76 28 = n + 1 := (hF11.rw (by omega) (by show ¬ ((261 ≤ 76 ∧ 76 ≤ 313) ∨ (76 = 76 ∧ ((28 : Int) = 36 ∨ (28 : Int) = 37))); omega)).trans hn7
            have hD11 : Deq (n + 1) (Dadd D n col row h) (Dm (rI σ11)) := by rw [Dm_go hF11]; exact hD7
            refine ⟨τ1, he7, hF7.g hG1, r15, σ11, he11, hF11'.g hG1, hr11, ?_⟩
            rw [n11, show n + 1 - 1 = n by omega]
            refine ⟨by omega, fun σ17 e17 => ?_⟩
            have hF17 : Fr AMq σ1 σ17 := by rw [← e17]; exact hF11'.trans (Fr.w (by omega) (Or.inr (Or.inr ⟨rfl, Or.inl rfl⟩)))
            have n17 : rI σ17 76 28 = n := by rw [← e17]; exact rI_ww (by omega)
            have hD17 := m_subD (n := n) hD11 (by omega) e17
            have hC : PoleC D n W H (col + 10 * row) := ⟨by omega, by omega, by omega, by rw [ec, er]; exact hfree⟩
            have ek : col + 1 + 10 * row = col + 10 * row + 1 := by omega
            have take : r15 < (if c = -1 then 1000000000 else v) → L_X10_pole_71 (Ev sc (d + 6)) sc P h wh (col + 10 * row) r15 row (col + 1) σ17 := by
              intro hlt
              have tk := hb.take hC (by rw [hVc]; exact hlt)
              rw [hVc] at tk
              refine ihm (col + 1) _ r15 σ17 (by omega) (by omega) (by omega) hF17 n17 hD17 ⟨by omega, hr11⟩ ?_
              rw [ek, if_neg (by omega)]; exact tk
            refine ⟨fun z => ⟨by omega, by omega, fun z22 e22 => ⟨by omega, ?_⟩⟩, fun z => ⟨fun z1 => ⟨by omega, by omega, fun z28 e28 => ⟨by omega, ?_⟩⟩, fun z1 => ⟨by omega, ?_⟩⟩⟩
            · rw [e22]; exact take (by rw [if_pos z]; omega)
            · rw [e28]; exact take (by rw [if_neg z]; exact z1)
            · refine ihm (col + 1) c v σ17 (by omega) (by omega) (by omega) hF17 n17 hD17 hr (hb.ext (by omega) (fun q p1 p2 p3 => ?_))
              have e : q = col + 10 * row := by omega
              rw [e, hVc, if_neg z]; omega
          · refine ihm (col + 1) c v σ2 (by omega) (by omega) (by omega) hF hn hDt hr (hb.ext (by omega) (fun q p1 p2 p3 => ?_))
            exfalso
            have e : q = col + 10 * row := by omega
            obtain ⟨-, -, -, p4⟩ := p1
            rw [e, ec, er] at p4
            rcases h2 with h2 | h2
            · exact q1 h2.1
            · exact p4 r6 ((hAt r6).mp h2.1.1)
      apply v_X10_pole_48 k2 (by omega) (by omega) hr.1 hr.2 (by omega)
      rw [hn]
      refine ⟨fun q => by omega, fun _ => ⟨fun q => fin c v τ hF hn hDt hr h8' (fun z => by omega), fun q => ?_⟩⟩
      refine cols (by omega) _ 0 c v τ rfl (by omega) (by omega) hF hn hDt hr ?_
      rw [show 0 + 10 * row = 10 * row by omega]; exact hb (by omega)
  have go : L_X10_pole_48 (Ev sc (d + 6)) sc P h wh (-1) 0 0 σ1 := rows _ 0 (-1) 0 σ1 rfl (by omega) (by omega) (Fr.refl _ _) hM1.1.1.1 (by rw [hD1]; exact Deq.refl _ _) (by decide) (fun _ => rfl) (fun _ => by rw [if_pos rfl]; exact BestS.start (fun q hq => by have := hq.1; omega))
  obtain ⟨r8, σ4, he4, hr4, e4, h4⟩ := m_in (sc := sc) (d := d + 5) (x := h) (lo := 0) (hi := 60) hG1 (by omega) (by decide) (by decide)
  subst e4
  obtain ⟨r18, σ14, he14, hr14, e14, h14⟩ := m_in (sc := sc) (d := d + 5) (x := wh) (lo := 0) (hi := 1) hG1 (by omega) (by decide) (by decide)
  subst e14
  refine ⟨r8, σ14, he4, hG1, hr4, fun z => by omega, fun _ => ⟨r18, σ14, he14, hG1, hr14, fun _ => ⟨0, σ14, m_bad0 hG1 t1 (by decide) (by decide), hG1, by decide, fun _ => go, fun z => absurd rfl z⟩, fun z => by omega⟩⟩
end
