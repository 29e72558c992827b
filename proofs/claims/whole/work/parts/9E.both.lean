/-! BOTH SIDES: a question asked of both. -/
abbrev AJc (u : Nat) : Nat → Int → Prop := fun a i => (u + 2 ≤ a ∧ a ≤ u + 9) ∨ (a = u + 1 ∧ (i = 8 ∨ i = 9)) ∨ (a = 26 ∧ 6 ≤ i ∧ i ≤ 11) ∨ (23 ≤ a ∧ a ≤ 25) ∨ (35 ≤ a ∧ a ≤ 38) ∨ (55 ≤ a ∧ a ≤ 58)
abbrev AJr : Nat → Int → Prop := fun a i => (a = 76 ∧ (i = 0 ∨ i = 2 ∨ (4 ≤ i ∧ i ≤ 7) ∨ i = 22 ∨ i = 27 ∨ i = 28 ∨ (36 ≤ i ∧ i ≤ 43))) ∨ (91 ≤ a ∧ a ≤ 99) ∨ (261 ≤ a ∧ a ≤ 343)
theorem AJc_lo {u : Nat} (hu : IsMk u) (a : Nat) (i : Int) (h : 76 ≤ a) : ¬ AJc u a i := by
  have hm : u = 39 ∨ u = 60 := hu
  show ¬ ((u + 2 ≤ a ∧ a ≤ u + 9) ∨ (a = u + 1 ∧ (i = 8 ∨ i = 9)) ∨ (a = 26 ∧ 6 ≤ i ∧ i ≤ 11) ∨ (23 ≤ a ∧ a ≤ 25) ∨ (35 ≤ a ∧ a ≤ 38) ∨ (55 ≤ a ∧ a ≤ 58))
  omega
theorem AJr_hi (a : Nat) (i : Int) (h : a < 76) : ¬ AJr a i := by
  show ¬ ((a = 76 ∧ (i = 0 ∨ i = 2 ∨ (4 ≤ i ∧ i ≤ 7) ∨ i = 22 ∨ i = 27 ∨ i = 28 ∨ (36 ≤ i ∧ i ≤ 43))) ∨ (91 ≤ a ∧ a ≤ 99) ∨ (261 ≤ a ∧ a ≤ 343))
  omega
/-- what the class's question leaves -/
def CG (σ σ1 : aH) (u : Nat) (n : Int) (D : Nat → Int → Int) : Prop := Fr (AJc u) σ σ1 ∧ De8 n D (Dc (rI σ1) u) ∧ rI σ1 (u + 1) 8 = n ∧ rI σ1 (u + 1) 9 = -1
/-- what the reference's question leaves -/
def RG (τ σ2 : aH) (n : Int) : Prop := Fr AJr τ σ2 ∧ rI σ2 76 0 = 0 ∧ Deq n (Dm (rI τ)) (Dm (rI σ2)) ∧ rI σ2 76 27 = 0 ∧ rI σ2 76 28 = n
/-- what the reference's question takes -/
def RJ (τ : aH) (u : Nat) (n W H : Int) (D : Nat → Int → Int) (Es Er : Nat → Option Int) (du fo w cl : Int) : Prop := G τ u ∧ JR τ n W H D Es Er du fo ∧ Rc τ ∧ rI τ 76 19 = w ∧ rI τ 80 5 = cl ∧ Hg D n ∧ n ≤ 8
/-- the end of a call -/
def JE (σ σ2 : aH) (N : Int) : Prop := (∃ (u v : Nat) (n W H : Int) (D : Nat → Int → Int) (Es Er : Nat → Option Int) (du fo : Int), J σ2 u v n W H D Es Er du fo (N + 1)) ∧ gN σ2 ≤ gN σ + 2 ∧ gW σ2 ≤ gW σ + 20
def JQB (sc : Nat × (Nat → Int32)) (d : Nat) (qc qr : aM) (args : List Value) (kk : Nat → Int) (σ : aH) (N : Int) (B : Int → Prop) : Prop :=
  (∃ (r : Int) (σ1 σ2 : aH), Ev sc d qc (.ref 0 :: args) σ (.inl (some (.int (nZ r)))) σ1 ∧ inR r ∧ (∃ u : Nat, G σ1 u) ∧ Ev sc d qr (.ref 76 :: args) (wJ σ1 344 0 r) (.inl (some (.int (nZ r)))) σ2 ∧ rI σ2 76 0 = 0 ∧ rJ σ2 344 0 = r ∧ JE σ σ2 N ∧ B r)
  ∨ (∃ (e : Nat) (r : Int) (σ1 σ2 : aH), Ev sc d qc (.ref 0 :: args) σ (.inr e) σ1 ∧ (e = 0 ∨ e = 1) ∧ kk e ≠ 0 ∧ (∃ u : Nat, G σ1 u) ∧ Ev sc d qr (.ref 76 :: args) σ1 (.inl (some (.int (nZ r)))) σ2 ∧ inR r ∧ rI σ2 76 0 = kk e ∧ JE σ σ2 N)
def JD (sc : Nat × (Nat → Int32)) (d : Nat) (qc qr : aM) (args : List Value) (σ : aH) (N : Int) : Prop :=
  ∃ (r : Int) (σ1 σ2 : aH), Ev sc d qc (.ref 0 :: args) σ (.inl (some (.int (nZ r)))) σ1 ∧ inR r ∧ (∃ u : Nat, G σ1 u) ∧ Ev sc d qr (.ref 76 :: args) σ1 (.inl (some (.int (nZ r)))) σ2 ∧ JE σ σ2 N
def k12 (e : Nat) : Int := if e = 0 then 1 else 2
/-- what a wrapper answers that takes reason q alone; 0: it does not take it -/
def kq (q e : Nat) : Int := if e = q then 1 else 0
theorem kq_eq (q : Nat) : kq q q = 1 := if_pos rfl
theorem kq_ne (q : Nat) : kq q q ≠ 0 := by rw [kq_eq]; decide
section
variable {sc : Nat × (Nat → Int32)} {d : Nat} {σ σ1 σ2 τ : aH} {u v : Nat} {n W H : Int} {D : Nat → Int → Int} {Es Er : Nat → Option Int} {du fo N w : Int}
theorem J.mk (h : J σ u v n W H D Es Er du fo N) : IsMk u := h.1.2.2.2.2
theorem J.vk (h : J σ u v n W H D Es Er du fo N) : (v = 39 ∨ v = 60) ∧ v ≠ u := ⟨h.2.1.2.1, h.2.1.2.2.1⟩
theorem J.n28 (h : J σ u v n W H D Es Er du fo N) : rI σ 76 27 = 0 ∧ rI σ 76 28 = n := by
  obtain ⟨K, fr, va, D2, hm, _⟩ := h.2.2.2.1
  exact ⟨hm.1.1.2.2.1, hm.1.1.1⟩
theorem J.cls (h : J σ u v n W H D Es Er du fo N) (c : CG σ σ1 u n D) : J σ1 u v n W H (Dc (rI σ1) u) Es Er du fo N := by
  have hu := h.mk
  have o : ∀ (a : Nat) (i : Int), 0 ≤ i → 76 ≤ a → rI σ1 a i = rI σ a i := fun a i p q => c.1.rw p (AJc_lo hu a i q)
  refine h.keep (c.1.weak (fun a i z => Or.inl z)) c.2.2.1 c.2.2.2 c.2.1 ((o _ _ (by decide) (by decide)).trans h.n28.1) ((o _ _ (by decide) (by decide)).trans h.n28.2) ?_
  rw [Dm_fr c.1 (fun a i p q => AJc_lo hu a i (by omega))]
  exact Deq.refl _ _
theorem J.ref (h : J τ u v n W H D Es Er du fo N) (c : RG τ σ2 n) : J σ2 u v n W H (Dc (rI σ2) u) Es Er du fo N := by
  have hm : u = 39 ∨ u = 60 := h.mk
  have o : ∀ (a : Nat) (i : Int), 0 ≤ i → a < 76 → rI σ2 a i = rI τ a i := fun a i p q => c.1.rw p (AJr_hi a i q)
  refine h.keep (c.1.weak (fun a i z => Or.inr z)) ((o _ _ (by decide) (by omega)).trans h.2.2.1.2.1.1) ((o _ _ (by decide) (by omega)).trans h.2.2.1.2.2.2.2.2.2.2.2.2.2.2.2) ?_ c.2.2.2.1 c.2.2.2.2 c.2.2.1
  have e : Dc (rI σ2) u = Dc (rI τ) u := Dc_congr (fun a p q => c.1.row (fun i => AJr_hi a i (by omega)))
  rw [e, ← h.2.2.1.1]; exact De8.refl _ _
theorem J.more {N1 : Int} (h : J σ u v n W H D Es Er du fo N) (hN : N ≤ N1) : J σ u v n W H D Es Er du fo N1 := ⟨h.1, h.2.1, h.2.2.1, h.2.2.2.1, h.2.2.2.2.1.more hN, h.2.2.2.2.2⟩
theorem J.rm (h : J σ u v n W H D Es Er du fo N) (hN : N ≤ 1000) (hg : gN σ ≤ 100000) : RmC σ := by
  obtain ⟨h1, h2, h3, h4, h5, h6, h7, h8, h9, h10⟩ := h.2.2.2.2.1
  exact ⟨by omega, by omega, by omega⟩
theorem J.rc (h : J σ u v n W H D Es Er du fo N) (hN : N ≤ 1000) : Rc σ := by
  obtain ⟨h1, h2, h3, h4, h5, h6, h7, h8, h9, h10⟩ := h.2.2.2.2.1
  intro q hq
  rcases hq with e | e
  · rw [e]; omega
  · rw [e]; omega
/-- behind the class's question the reference can be asked -/
theorem J.rj (h : J σ u v n W H D Es Er du fo N) (hN : N ≤ 1000) {A : Nat → Int → Prop} (hF : Fr A σ τ) (hA : ∀ (a : Nat) (i : Int), 76 ≤ a → ¬ A a i) : RJ τ u n W H D Es Er du fo (rI σ u 9) (rI σ u 7) := by
  have o : ∀ (a : Nat) (i : Int), 0 ≤ i → 76 ≤ a → rI τ a i = rI σ a i := fun a i p q => hF.rw p (hA a i q)
  refine ⟨hF.g h.1, h.2.2.2.1.low hF hA, fun q z => ?_, (o _ _ (by decide) (by decide)).trans h.2.2.2.2.1.2.2.1, (o _ _ (by decide) (by decide)).trans h.2.2.2.2.1.1, h.2.2.1.2.2.2.1, h.2.2.1.2.2.1⟩
  rw [o 78 q (by omega) (by decide)]; exact h.rc hN q z
theorem RJ.wJ {a : Nat} {i x cl : Int} (h : RJ τ u n W H D Es Er du fo w cl) : RJ (wJ τ a i x) u n W H D Es Er du fo w cl := h
theorem RJ.skip {k l : Nat} {cl : Int} (h : RJ τ u n W H D Es Er du fo w cl) : RJ (sSkip τ k l) u n W H D Es Er du fo w cl := ⟨G.skip h.1, h.2⟩
theorem J.wJ {a : Nat} {i x : Int} (h : J σ u v n W H D Es Er du fo N) : J (wJ σ a i x) u v n W H D Es Er du fo N := h
/-- both refuse -/
theorem J.refuse {q : Nat} (h : J σ u v n W H D Es Er du fo N) (hN : 0 ≤ N ∧ N ≤ 1000) (hk : KO σ σ1 q) (hq : q = 0 ∨ q = 1) (hm : MRef σ1 σ2 w (q : Int)) : J σ2 u v n W H D Es Er du fo (N + 1) ∧ gN σ2 = gN σ + 1 ∧ gW σ2 = gW σ + 6 := by
  have hu := h.mk
  have hmk : u = 39 ∨ u = 60 := hu
  unfold KO at hk
  obtain ⟨hF, hw, hc⟩ := hm
  obtain ⟨⟨f1, f2, f3⟩, f4⟩ := hF
  have hS := h.2.2.2.2.1
  have n1 : rI σ1 = rI (wI σ 0 (7 + (q : Int)) (rI σ 0 (7 + (q : Int)) + 1)) := by rw [hk]; rfl
  have hb : inR (rI σ 0 (7 + (q : Int)) + 1) := by
    obtain ⟨_, _, _, _, _, _, _, _, h9, h10⟩ := hS
    rcases hq with e | e
    · rw [e]; show inR (rI σ 0 7 + 1); omega
    · rw [e]; show inR (rI σ 0 8 + 1); omega
  have o1 : ∀ (a : Nat) (i : Int), 0 ≤ i → ¬ (a = 0 ∧ i = 7 + (q : Int)) → rI σ1 a i = rI σ a i := fun a i p z => by
    rw [n1, rI_w hb, if_neg (by omega)]
  have o2 : ∀ (a : Nat) (i : Int), 0 ≤ i → ¬ ((a = 76 ∧ i = 0) ∨ (a = 78 ∧ i = (q : Int))) → rI σ2 a i = rI σ1 a i := fun a i p z => f4 a i p z
  -- the same ints over the old rest
  have hF2 : Fr (fun a i => (a = 0 ∧ i = 7 + (q : Int)) ∨ (a = 76 ∧ i = 0) ∨ (a = 78 ∧ i = (q : Int))) σ (σ.1, σ.2.1, σ2.2.2.1, σ.2.2.2) :=
    ⟨⟨rfl, rfl, rfl⟩, fun a i p z => (o2 a i p (fun y => z (Or.inr y))).trans (o1 a i p (fun y => z (Or.inl y)))⟩
  have no : ∀ (a : Nat) (i : Int), (a ≠ 0 ∧ (a ≠ 76 ∨ 0 < i) ∧ a ≠ 78) → ¬ ((a = 0 ∧ i = 7 + (q : Int)) ∨ (a = 76 ∧ i = 0) ∨ (a = 78 ∧ i = (q : Int))) := fun a i z => by omega
  have hC : JC (σ.1, σ.2.1, σ2.2.2.1, σ.2.2.2) u n W H D Es Er du fo := by
    have hD : Dc (rI (σ.1, σ.2.1, σ2.2.2.1, σ.2.2.2)) u = D := (Dc_congr (fun a p q => hF2.row (fun i => no a i (by omega)))).trans h.2.2.1.1.symm
    have := h.2.2.1.fr hF2 (fun a i z => no a i (by omega)) ((hF2.rw (by decide) (no _ _ (by omega))).trans h.2.2.1.2.1.1) ((hF2.rw (by decide) (no _ _ (by omega))).trans h.2.2.1.2.2.2.2.2.2.2.2.2.2.2.2) (by rw [hD]; exact De8.refl _ _)
    rw [hD] at this; exact this
  have hR : JR (σ.1, σ.2.1, σ2.2.2.1, σ.2.2.2) n W H D Es Er du fo := by
    obtain ⟨K, fr, va, D2, hm, hd, h2, hc⟩ := h.2.2.2.1
    exact ⟨K, fr, va, D2, hm.frm hF2 (fun a i z => no a i (by omega)) (fun i z => no 76 i (by omega)), hd, (hF2.rw (by decide) (no _ _ (by decide))).trans h2, fun i p q => (hF2.rw p (no _ _ (by omega))).trans (hc i p q)⟩
  have k0 : rI σ2 0 (7 + (q : Int)) = rI σ 0 (7 + (q : Int)) + 1 := by rw [o2 _ _ (by omega) (by omega), n1, rI_ww hb]
  have k78 : rI σ2 78 (q : Int) = rI σ 78 (q : Int) + 1 := by rw [hc, o1 _ _ (by omega) (by omega)]
  have oo : ∀ (a : Nat) (i : Int), 0 ≤ i → ¬ ((a = 0 ∧ i = 7 + (q : Int)) ∨ (a = 76 ∧ i = 0) ∨ (a = 78 ∧ i = (q : Int))) → rI σ2 a i = rI σ a i := fun a i p z => (o2 a i p (fun y => z (Or.inr y))).trans (o1 a i p (fun y => z (Or.inl y)))
  have hS2 : SC (rI σ2) u (N + 1) := by
    obtain ⟨h1, h2, h3, h4, h5, h6, h7, h8, h9, h10⟩ := hS
    unfold SC
    rw [oo 80 5 (by decide) (no _ _ (by decide)), oo u 7 (by decide) (no _ _ (by omega)), oo u 8 (by decide) (no _ _ (by omega)), oo u 9 (by decide) (no _ _ (by omega)), oo 76 18 (by decide) (no _ _ (by decide)), oo 76 19 (by decide) (no _ _ (by decide)), oo 76 20 (by decide) (no _ _ (by decide)), oo 76 21 (by decide) (no _ _ (by decide)), oo 76 1 (by decide) (no _ _ (by decide)), oo 76 3 (by decide) (no _ _ (by decide)), oo 26 12 (by decide) (no _ _ (by decide)), oo 3 6 (by decide) (no _ _ (by decide)), oo 1 1 (by decide) (no _ _ (by decide)), oo 1 5 (by decide) (no _ _ (by decide))]
    refine ⟨h1, h2, h3, h4, h5, h6, h7, fun k k0 k1 => ?_, ?_, ?_⟩
    · rw [oo 77 k k0 (no _ _ (by omega)), oo 2 k k0 (no _ _ (by omega))]; exact h8 k k0 k1
    · rcases hq with e | e
      · subst e
        have a1 : rI σ2 0 7 = rI σ 0 7 + 1 := k0
        have a2 : rI σ2 78 0 = rI σ 78 0 + 1 := k78
        omega
      · subst e
        rw [oo 78 0 (by decide) (by decide), oo 0 7 (by decide) (by decide)]; omega
    · rcases hq with e | e
      · subst e
        rw [oo 78 1 (by decide) (by decide), oo 0 8 (by decide) (by decide)]; omega
      · subst e
        have a1 : rI σ2 0 8 = rI σ 0 8 + 1 := k0
        have a2 : rI σ2 78 1 = rI σ 78 1 + 1 := k78
        omega
  have g1 : gN σ1 = gN σ + 1 ∧ gW σ1 = gW σ + 6 ∧ σ1.1 = σ.1 ∧ σ1.2.1 = σ.2.1 := by rw [hk]; exact ⟨rfl, rfl, rfl, rfl⟩
  have g2 : gN σ2 = gN σ1 ∧ gW σ2 = gW σ1 := by unfold gN gW; rw [f3]; exact ⟨rfl, rfl⟩
  have hvk := h.vk
  refine ⟨⟨?_, ⟨?_, h.2.1.2.1, h.2.1.2.2.1, (oo (v + 1) 9 (by decide) (no _ _ (by omega))).trans h.2.1.2.2.2⟩, hC, hR, hS2, h.2.2.2.2.2.congr hS.2.2.2.2.1.2.2 (fun a i p z => oo a i p (no _ _ (by omega)))⟩, by rw [g2.1, g1.1], by rw [g2.2, g1.2.1]⟩
  · obtain ⟨x1, x2, x3, x4, x5⟩ := h.1
    refine ⟨(f1.trans g1.2.2.1).trans x1, by rw [g2.1, g1.1]; omega, ?_, ?_, x5⟩
    · show σ2.2.1 0 5 = some u
      rw [f2, g1.2.2.2]; exact x3
    · show σ2.2.1 27 5 = some u
      rw [f2, g1.2.2.2]; exact x4
  · show σ2.2.1 0 6 = some v
    rw [f2, g1.2.2.2]; exact h.2.1.1
theorem Fr.nw {A : Nat → Int → Prop} (h : Fr A σ τ) : gN τ = gN σ ∧ gW τ = gW σ ∧ ∀ (a : Nat) (i : Int), rJ τ a i = rJ σ a i := by
  have e := h.1.2.2
  refine ⟨by unfold gN; rw [e], by unfold gW; rw [e], fun a i => ?_⟩
  unfold rJ gJ; rw [e]
theorem KO.rj {q : Nat} (h : J σ u v n W H D Es Er du fo N) (hN : N ≤ 1000) (hk : KO σ σ1 q) (hq : q = 0 ∨ q = 1) : RJ σ1 u n W H D Es Er du fo (rI σ u 9) (rI σ u 7) := by
  unfold KO at hk
  rw [hk]
  exact (h.rj hN (A := fun a _ => a = 0) (Fr.w (by omega) rfl) (fun a i p z => by have z2 : a = 0 := z; omega)).skip
theorem KO.hi {q a : Nat} {i : Int} (hk : KO σ σ1 q) (ha : 76 ≤ a) : rI σ1 a i = rI σ a i := by
  unfold KO at hk
  rw [hk]
  exact rI_wa (by omega)
theorem JQB.one {qc qr : aM} {args : List Value} {ok : Prop} {q : Nat} {Sp : Int → Prop} (hJ : J σ u v n W H D Es Er du fo N) (hN : 0 ≤ N ∧ N ≤ 1000) (hg : gN σ ≤ 100000) (hq : q = 0 ∨ q = 1)
    (hc : RmC σ → T sc d qc (.ref 0 :: args) σ (CQ1 σ ok q (fun r σ1 => Sp r ∧ CG σ σ1 u n D)))
    (hr : ∀ τ : aH, RJ τ u n W H D Es Er du fo (rI σ u 9) (rI σ u 7) → (∀ (a : Nat) (i : Int), 76 ≤ a → 0 ≤ i → rI τ a i = rI σ a i) → TI sc d qr (.ref 76 :: args) τ (OB τ ok 1 (q : Int) (fun r σ2 => (∀ r0 : Int, Sp r0 → r = r0) ∧ RG τ σ2 n))) : JQB sc d qc qr args (kq q) σ N Sp := by
  have hu := hJ.mk
  obtain ⟨o, σ1, he, hc1⟩ := hc (hJ.rm hN.2 hg)
  rcases hc1 with ⟨hok, r, eo, rr, sp, cg⟩ | ⟨hno, eo, hk⟩
  · rw [eo] at he
    have J1 := hJ.cls cg
    obtain ⟨r2, σ2, he2, rr2, ob⟩ := hr (wJ σ1 344 0 r) (hJ.rj hN.2 cg.1 (AJc_lo hu)).wJ (fun a i p q => cg.1.rw q (AJc_lo hu a i p))
    rcases ob with ⟨_, e2, rg⟩ | ⟨z, _⟩
    · have er : r2 = r := e2 r sp
      rw [er] at he2
      have J2 := (J1.wJ (a := 344) (i := 0) (x := r)).ref rg
      have w1 := cg.1.nw
      have w2 := rg.1.nw
      refine Or.inl ⟨r, σ1, σ2, he, rr, ⟨u, J1.1⟩, he2, rg.2.1, ?_, ⟨⟨u, v, n, W, H, _, Es, Er, du, fo, J2.more (by omega)⟩, ?_, ?_⟩, sp⟩
      · rw [w2.2.2]; exact rJ_w (by omega) 344 0 |>.trans (if_pos ⟨rfl, rfl⟩)
      · rw [w2.1]; show gN σ1 ≤ _; rw [w1.1]; omega
      · rw [w2.2.1]; show gW σ1 ≤ _; rw [w1.2.1]; omega
    · exact absurd hok z
  · rw [eo] at he
    obtain ⟨r2, σ2, he2, rr2, ob⟩ := hr σ1 (KO.rj hJ hN.2 hk hq) (fun a i p q => hk.hi p)
    rcases ob with ⟨z, _⟩ | ⟨_, e2, hm⟩
    · exact absurd z hno
    · obtain ⟨J2, g2, w2⟩ := hJ.refuse hN hk hq hm
      refine Or.inr ⟨q, r2, σ1, σ2, he, hq, kq_ne q, ⟨u, (KO.rj hJ hN.2 hk hq).1⟩, he2, rr2, hm.2.1.trans (kq_eq q).symm, ⟨u, v, n, W, H, D, Es, Er, du, fo, J2⟩, by omega, by omega⟩
theorem JQB.two {qc qr : aM} {args : List Value} {o1 o2 : Prop} {Sp : Int → Prop} (hJ : J σ u v n W H D Es Er du fo N) (hN : 0 ≤ N ∧ N ≤ 1000) (hg : gN σ ≤ 100000)
    (hc : RmC σ → T sc d qc (.ref 0 :: args) σ (CQ2 σ o1 o2 (fun r σ1 => Sp r ∧ CG σ σ1 u n D)))
    (hr : ∀ τ : aH, RJ τ u n W H D Es Er du fo (rI σ u 9) (rI σ u 7) → (∀ (a : Nat) (i : Int), 76 ≤ a → 0 ≤ i → rI τ a i = rI σ a i) → TI sc d qr (.ref 76 :: args) τ (OB2 τ o1 1 0 o2 2 1 (fun r σ2 => (∀ r0 : Int, Sp r0 → r = r0) ∧ RG τ σ2 n))) : JQB sc d qc qr args k12 σ N Sp := by
  have hu := hJ.mk
  obtain ⟨o, σ1, he, hc1⟩ := hc (hJ.rm hN.2 hg)
  rcases hc1 with ⟨h1, h2, r, eo, rr, sp, cg⟩ | ⟨hno, eo, hk⟩ | ⟨h1, hno, eo, hk⟩
  · rw [eo] at he
    have J1 := hJ.cls cg
    obtain ⟨r2, σ2, he2, rr2, ob⟩ := hr (wJ σ1 344 0 r) (hJ.rj hN.2 cg.1 (AJc_lo hu)).wJ (fun a i p q => cg.1.rw q (AJc_lo hu a i p))
    rcases ob with ⟨_, ⟨_, e2, rg⟩ | ⟨z, _⟩⟩ | ⟨z, _⟩
    · have er : r2 = r := e2 r sp
      rw [er] at he2
      have J2 := (J1.wJ (a := 344) (i := 0) (x := r)).ref rg
      have w1 := cg.1.nw
      have w2 := rg.1.nw
      refine Or.inl ⟨r, σ1, σ2, he, rr, ⟨u, J1.1⟩, he2, rg.2.1, ?_, ⟨⟨u, v, n, W, H, _, Es, Er, du, fo, J2.more (by omega)⟩, ?_, ?_⟩, sp⟩
      · rw [w2.2.2]; exact rJ_w (by omega) 344 0 |>.trans (if_pos ⟨rfl, rfl⟩)
      · rw [w2.1]; show gN σ1 ≤ _; rw [w1.1]; omega
      · rw [w2.2.1]; show gW σ1 ≤ _; rw [w1.2.1]; omega
    · exact absurd h2 z
    · exact absurd h1 z
  · rw [eo] at he
    obtain ⟨r2, σ2, he2, rr2, ob⟩ := hr σ1 (KO.rj hJ hN.2 hk (Or.inl rfl)) (fun a i p q => hk.hi p)
    rcases ob with ⟨z, _⟩ | ⟨_, e2, hm⟩
    · exact absurd z hno
    · obtain ⟨J2, g2, w2⟩ := hJ.refuse hN hk (Or.inl rfl) hm
      exact Or.inr ⟨0, r2, σ1, σ2, he, Or.inl rfl, by decide, ⟨u, (KO.rj hJ hN.2 hk (Or.inl rfl)).1⟩, he2, rr2, hm.2.1, ⟨u, v, n, W, H, D, Es, Er, du, fo, J2⟩, by omega, by omega⟩
  · rw [eo] at he
    obtain ⟨r2, σ2, he2, rr2, ob⟩ := hr σ1 (KO.rj hJ hN.2 hk (Or.inr rfl)) (fun a i p q => hk.hi p)
    rcases ob with ⟨_, ⟨z, _⟩ | ⟨_, e2, hm⟩⟩ | ⟨z, _⟩
    · exact absurd z hno
    · obtain ⟨J2, g2, w2⟩ := hJ.refuse hN hk (Or.inr rfl) hm
      exact Or.inr ⟨1, r2, σ1, σ2, he, Or.inr rfl, by decide, ⟨u, (KO.rj hJ hN.2 hk (Or.inr rfl)).1⟩, he2, rr2, hm.2.1, ⟨u, v, n, W, H, D, Es, Er, du, fo, J2⟩, by omega, by omega⟩
    · exact absurd h1 z
theorem JQB.weak {qc qr : aM} {args : List Value} {kk : Nat → Int} {B B1 : Int → Prop} (h : JQB sc d qc qr args kk σ N B) (f : ∀ r : Int, B r → B1 r) : JQB sc d qc qr args kk σ N B1 := by
  rcases h with ⟨r, σ1, σ2, a1, a2, a3, a4, a5, a6, a7, a8⟩ | h
  · exact Or.inl ⟨r, σ1, σ2, a1, a2, a3, a4, a5, a6, a7, f r a8⟩
  · exact Or.inr h
def JQ (sc : Nat × (Nat → Int32)) (d : Nat) (qc qr : aM) (args : List Value) (kk : Nat → Int) (σ : aH) (N : Int) : Prop := JQB sc d qc qr args kk σ N (fun _ => True)
theorem JQ.one {qc qr : aM} {args : List Value} {ok : Prop} {q : Nat} {Sp : Int → Prop} (hJ : J σ u v n W H D Es Er du fo N) (hN : 0 ≤ N ∧ N ≤ 1000) (hg : gN σ ≤ 100000) (hq : q = 0 ∨ q = 1)
    (hc : RmC σ → T sc d qc (.ref 0 :: args) σ (CQ1 σ ok q (fun r σ1 => Sp r ∧ CG σ σ1 u n D)))
    (hr : ∀ τ : aH, RJ τ u n W H D Es Er du fo (rI σ u 9) (rI σ u 7) → (∀ (a : Nat) (i : Int), 76 ≤ a → 0 ≤ i → rI τ a i = rI σ a i) → TI sc d qr (.ref 76 :: args) τ (OB τ ok 1 (q : Int) (fun r σ2 => (∀ r0 : Int, Sp r0 → r = r0) ∧ RG τ σ2 n))) : JQ sc d qc qr args (kq q) σ N := (JQB.one hJ hN hg hq hc hr).weak (fun _ _ => trivial)
theorem JQ.two {qc qr : aM} {args : List Value} {o1 o2 : Prop} {Sp : Int → Prop} (hJ : J σ u v n W H D Es Er du fo N) (hN : 0 ≤ N ∧ N ≤ 1000) (hg : gN σ ≤ 100000)
    (hc : RmC σ → T sc d qc (.ref 0 :: args) σ (CQ2 σ o1 o2 (fun r σ1 => Sp r ∧ CG σ σ1 u n D)))
    (hr : ∀ τ : aH, RJ τ u n W H D Es Er du fo (rI σ u 9) (rI σ u 7) → (∀ (a : Nat) (i : Int), 76 ≤ a → 0 ≤ i → rI τ a i = rI σ a i) → TI sc d qr (.ref 76 :: args) τ (OB2 τ o1 1 0 o2 2 1 (fun r σ2 => (∀ r0 : Int, Sp r0 → r = r0) ∧ RG τ σ2 n))) : JQ sc d qc qr args k12 σ N := (JQB.two hJ hN hg hc hr).weak (fun _ _ => trivial)
theorem JD.q {qc qr : aM} {args : List Value} {Sp : Int → Prop} (hJ : J σ u v n W H D Es Er du fo N) (hN : 0 ≤ N ∧ N ≤ 1000)
    (hc : TI sc d qc (.ref 0 :: args) σ (fun r σ1 => Sp r ∧ CG σ σ1 u n D))
    (hr : ∀ τ : aH, RJ τ u n W H D Es Er du fo (rI σ u 9) (rI σ u 7) → (∀ (a : Nat) (i : Int), 76 ≤ a → 0 ≤ i → rI τ a i = rI σ a i) → TI sc d qr (.ref 76 :: args) τ (fun r σ2 => (∀ r0 : Int, Sp r0 → r = r0) ∧ RG τ σ2 n)) : JD sc d qc qr args σ N := by
  obtain ⟨r, σ1, he, rr, sp, cg⟩ := hc
  have J1 := hJ.cls cg
  obtain ⟨r2, σ2, he2, rr2, e2, rg⟩ := hr σ1 (hJ.rj hN.2 cg.1 (AJc_lo hJ.mk)) (fun a i p q => cg.1.rw q (AJc_lo hJ.mk a i p))
  rw [e2 r sp] at he2
  have J2 := J1.ref rg
  have w1 := cg.1.nw
  have w2 := rg.1.nw
  exact ⟨r, σ1, σ2, he, rr, ⟨u, J1.1⟩, he2, ⟨u, v, n, W, H, _, Es, Er, du, fo, J2.more (by omega)⟩, by rw [w2.1, w1.1]; omega, by rw [w2.2.1, w1.2.1]; omega⟩
end
