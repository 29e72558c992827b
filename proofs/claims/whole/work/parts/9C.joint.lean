/-! BOTH SIDES: what holds between two calls. -/
def De8 (n : Int) (D D1 : Nat → Int → Int) : Prop := ∀ (f : Nat) (i : Int), f ≤ 7 → 0 ≤ i → i < n → D1 f i = D f i
theorem De8.deq {n : Int} {D D1 : Nat → Int → Int} (h : De8 n D D1) : Deq n D D1 := fun f i a b c => h f i (by omega) b c
theorem De8.refl (n : Int) (D : Nat → Int → Int) : De8 n D D := fun _ _ _ _ _ => rfl
/-- the class's market -/
def JC (σ : aH) (u : Nat) (n W H : Int) (D : Nat → Int → Int) (Es Er : Nat → Option Int) (du fo : Int) : Prop :=
  D = Dc (rI σ) u ∧ Sh σ u n ∧ n ≤ 8 ∧ Hg D n ∧ Dst D n ∧ Fld D n W H ∧ (rI σ u 3 = W ∧ rI σ u 4 = H) ∧ ((0 ≤ W ∧ W ≤ 9) ∧ 0 ≤ H ∧ H ≤ 9) ∧ MkT (rI σ) u Es Er ∧ (rI σ u 5 = fo ∧ rI σ u 6 = du) ∧ WtS (rI σ) 28 (sT Es fo) (CF Er) (CF1 Er du) ∧ WtS (rI σ) 31 (sT Es fo) one (fun _ => 0) ∧ rI σ (u + 1) 9 = -1
/-- the reference's -/
def JR (σ : aH) (n W H : Int) (D : Nat → Int → Int) (Es Er : Nat → Option Int) (du fo : Int) : Prop :=
  ∃ (K : Int) (fr va : Int → Int) (D2 : Nat → Int → Int), Mf σ n (-1) W H D2 Es Er K fr va du fo ∧ Deq n D D2 ∧ rI σ 80 2 = n ∧ ∀ i : Int, 0 ≤ i → i < n → rI σ 184 i = D 7 i
/-- the numbers that both keep; at most N refusals -/
def SC (m : Nat → Int → Int) (u : Nat) (N : Int) : Prop :=
  m 80 5 = m u 7 ∧ (m 76 18 = m u 8 ∧ 0 ≤ m u 8 ∧ m u 8 ≤ 999) ∧ m 76 19 = m u 9 ∧ m 76 20 = m 26 12 ∧ (m 76 21 = m 3 6 ∧ 0 ≤ m 3 6 ∧ m 3 6 ≤ 3) ∧ (m 76 1 = m 1 1 ∧ 0 ≤ m 1 1 ∧ m 1 1 ≤ 600) ∧ m 76 3 = m 1 5 ∧ (∀ k : Int, 0 ≤ k → k < m 1 1 → (0 ≤ m 77 k ∧ m 77 k ≤ 255) ∧ m 2 k = if m 77 k < 128 then m 77 k else m 77 k - 256) ∧ (m 78 0 = m 0 7 ∧ 0 ≤ m 0 7 ∧ m 0 7 ≤ N) ∧ (m 78 1 = m 0 8 ∧ 0 ≤ m 0 8 ∧ m 0 8 ≤ N)
/-- one image -/
def IM1 (m : Nat → Int → Int) (n W H k : Int) : Prop :=
  (m (186 + k.toNat) 0 = m 4 k ∧ 0 ≤ m 4 k ∧ m 4 k ≤ 999) ∧ (m (186 + k.toNat) 1 = m 5 k ∧ 0 ≤ m 5 k ∧ m 5 k ≤ 1) ∧ (∀ i : Int, 0 ≤ i → i < n → (m (186 + k.toNat) (2 + 4 * i) = m (7 + k.toNat) i ∧ m (186 + k.toNat) (3 + 4 * i) = m (11 + k.toNat) i ∧ m (186 + k.toNat) (4 + 4 * i) = m (15 + k.toNat) i ∧ m (186 + k.toNat) (5 + 4 * i) = m (19 + k.toNat) i) ∧ (0 ≤ m (7 + k.toNat) i ∧ m (7 + k.toNat) i < W) ∧ (0 ≤ m (11 + k.toNat) i ∧ m (11 + k.toNat) i < H) ∧ (0 ≤ m (15 + k.toNat) i ∧ m (15 + k.toNat) i ≤ 60)) ∧ (∀ i j : Int, 0 ≤ i → i < n → 0 ≤ j → j < n → m (7 + k.toNat) i = m (7 + k.toNat) j → m (11 + k.toNat) i = m (11 + k.toNat) j → i = j)
def IM (m : Nat → Int → Int) (n W H : Int) : Prop := ∀ k : Int, 0 ≤ k → k < m 3 6 → IM1 m n W H k
/-- all of it -/
def J (σ : aH) (u v : Nat) (n W H : Int) (D : Nat → Int → Int) (Es Er : Nat → Option Int) (du fo N : Int) : Prop :=
  G σ u ∧ (gM σ 0 6 = some v ∧ IsMk v ∧ v ≠ u ∧ rI σ (v + 1) 9 = -1) ∧ JC σ u n W H D Es Er du fo ∧ JR σ n W H D Es Er du fo ∧ SC (rI σ) u N ∧ IM (rI σ) n W H
section
variable {σ τ : aH} {u v : Nat} {n W H : Int} {D : Nat → Int → Int} {Es Er : Nat → Option Int} {du fo N : Int}
theorem JC.fr {A : Nat → Int → Prop} (h : JC σ u n W H D Es Er du fo) (hF : Fr A σ τ) (hA : ∀ (a : Nat) (i : Int), ((a = u ∧ 3 ≤ i) ∨ (u + 10 ≤ a ∧ a ≤ u + 15) ∨ a = 29 ∨ a = 30 ∨ a = 32 ∨ a = 33) → ¬ A a i) (h8 : rI τ (u + 1) 8 = n) (h9 : rI τ (u + 1) 9 = -1) (hD : De8 n D (Dc (rI τ) u)) : JC τ u n W H (Dc (rI τ) u) Es Er du fo := by
  obtain ⟨a1, a2, a3, a4, a5, a6, a7, a8, a9, a10, a11, a12, a13⟩ := h
  have r : ∀ i : Int, 3 ≤ i → rI τ u i = rI σ u i := fun i hi => hF.rw (by omega) (hA _ _ (Or.inl ⟨rfl, hi⟩))
  have e01 : ∀ i : Int, 0 ≤ i → i < n → Dc (rI τ) u 0 i = D 0 i ∧ Dc (rI τ) u 1 i = D 1 i := fun i p q => ⟨hD 0 i (by decide) p q, hD 1 i (by decide) p q⟩
  rw [a1] at hD e01
  rw [a1] at a4 a5 a6
  refine ⟨rfl, ⟨h8, a2.2.1, hD.deq.stb a2.2.2.1, by rw [r 9 (by decide)]; exact a2.2.2.2⟩, a3, fun i p q => ?_, a5.of e01, Fld.of a6 e01, ⟨(r 3 (by decide)).trans a7.1, (r 4 (by decide)).trans a7.2⟩, a8, a9.fr hF (fun a i z => hA a i (by omega)), ⟨(r 5 (by decide)).trans a10.1, (r 6 (by decide)).trans a10.2⟩, a11.fr hF (fun a i z => hA a i (by omega)), a12.fr hF (fun a i z => hA a i (by omega)), h9⟩
  rw [hD 4 i (by decide) p q, hD 5 i (by decide) p q]; exact a4 i p q
theorem JR.fr {A : Nat → Int → Prop} {D1 : Nat → Int → Int} (h : JR σ n W H D Es Er du fo) (hF : Fr A σ τ) (hA : ∀ (a : Nat) (i : Int), (a = 80 ∨ (122 ≤ a ∧ a ≤ 141) ∨ (190 ≤ a ∧ a ≤ 259)) → ¬ A a i) (hA2 : ∀ i : Int, (i = 19 ∨ i = 25) → ¬ A 76 i) (h27 : rI τ 76 27 = 0) (h28 : rI τ 76 28 = n) (hM : Deq n (Dm (rI σ)) (Dm (rI τ))) (hD : Deq n D D1) (hco : ∀ i : Int, 0 ≤ i → i < n → rI τ 184 i = D1 7 i) : JR τ n W H D1 Es Er du fo := by
  obtain ⟨K, fr, va, D2, hm, hd, h2, _⟩ := h
  have e2 : D2 = Dm (rI σ) := hm.1.2.1
  have e01 : ∀ i : Int, 0 ≤ i → i < n → Dm (rI τ) 0 i = D2 0 i ∧ Dm (rI τ) 1 i = D2 1 i := fun i p q => by rw [e2]; exact ⟨hM 0 i (by decide) p q, hM 1 i (by decide) p q⟩
  have hM' : Deq n D2 (Dm (rI τ)) := by rw [e2]; exact hM
  refine ⟨K, fr, va, Dm (rI τ), hm.re hF hA hA2 ⟨h28, hm.1.1.2.1, h27.trans (by rfl), by decide⟩ rfl (hM'.stb hm.1.2.2.1) (hm.1.2.2.2.1.of e01) (Fld.of hm.1.2.2.2.2.1 e01), (hD.symm.trans hd).trans hM', (hF.rw (by decide) (hA _ _ (Or.inl rfl))).trans h2, hco⟩
/-- cells of the class alone have changed -/
theorem JR.low {A : Nat → Int → Prop} (h : JR σ n W H D Es Er du fo) (hF : Fr A σ τ) (hA : ∀ (a : Nat) (i : Int), 76 ≤ a → ¬ A a i) : JR τ n W H D Es Er du fo := by
  obtain ⟨K, fr, va, D2, hm, hd, h2, hc⟩ := h
  exact ⟨K, fr, va, D2, hm.frm hF (fun a i z => hA a i (by omega)) (fun i z => hA 76 i (by omega)), hd, (hF.rw (by decide) (hA _ _ (by decide))).trans h2, fun i p q => (hF.rw p (hA _ _ (by decide))).trans (hc i p q)⟩
/-- and of the reference alone -/
theorem JC.high {A : Nat → Int → Prop} (hu : IsMk u) (h : JC σ u n W H D Es Er du fo) (hF : Fr A σ τ) (hA : ∀ (a : Nat) (i : Int), a < 76 → ¬ A a i) : JC τ u n W H D Es Er du fo := by
  have hm : u = 39 ∨ u = 60 := hu
  have hD : Dc (rI τ) u = D := (Dc_congr (fun a p q => hF.row (fun i => hA a i (by omega)))).trans h.1.symm
  have := h.fr hF (fun a i z => hA a i (by omega)) ((hF.rw (by decide) (hA _ _ (by omega))).trans h.2.1.1) ((hF.rw (by decide) (hA _ _ (by omega))).trans h.2.2.2.2.2.2.2.2.2.2.2.2) (by rw [hD]; exact De8.refl _ _)
  rw [hD] at this; exact this
abbrev CSc (u a : Nat) (i : Int) : Prop := (a = 80 ∧ i = 5) ∨ (a = u ∧ (i = 7 ∨ i = 8 ∨ i = 9)) ∨ (a = 76 ∧ (i = 1 ∨ i = 3 ∨ i = 18 ∨ i = 19 ∨ i = 20 ∨ i = 21)) ∨ (a = 26 ∧ i = 12) ∨ (a = 3 ∧ i = 6) ∨ (a = 1 ∧ (i = 1 ∨ i = 5)) ∨ a = 2 ∨ a = 77 ∨ a = 78 ∨ (a = 0 ∧ (i = 7 ∨ i = 8))
theorem SC.congr {m m1 : Nat → Int → Int} (h : SC m u N) (e : ∀ (a : Nat) (i : Int), 0 ≤ i → CSc u a i → m1 a i = m a i) : SC m1 u N := by
  unfold SC
  rw [e 80 5 (by decide) (by omega), e u 7 (by decide) (by omega), e u 8 (by decide) (by omega), e u 9 (by decide) (by omega), e 76 18 (by decide) (by omega), e 76 19 (by decide) (by omega), e 76 20 (by decide) (by omega), e 76 21 (by decide) (by omega), e 76 1 (by decide) (by omega), e 76 3 (by decide) (by omega), e 26 12 (by decide) (by omega), e 3 6 (by decide) (by omega), e 1 1 (by decide) (by omega), e 1 5 (by decide) (by omega), e 78 0 (by decide) (by omega), e 78 1 (by decide) (by omega), e 0 7 (by decide) (by omega), e 0 8 (by decide) (by omega)]
  obtain ⟨h1, h2, h3, h4, h5, h6, h7, h8, h9, h10⟩ := h
  refine ⟨h1, h2, h3, h4, h5, h6, h7, fun k k0 k1 => ?_, h9, h10⟩
  rw [e 77 k k0 (by omega), e 2 k k0 (by omega)]; exact h8 k k0 k1
theorem SC.more {m : Nat → Int → Int} {N1 : Int} (h : SC m u N) (hN : N ≤ N1) : SC m u N1 := by
  obtain ⟨h1, h2, h3, h4, h5, h6, h7, h8, h9, h10⟩ := h
  exact ⟨h1, h2, h3, h4, h5, h6, h7, h8, by omega, by omega⟩
theorem IM1.congr {m m1 : Nat → Int → Int} {k : Int} (h : IM1 m n W H k) (k0 : 0 ≤ k) (k3 : k < 3) (e : ∀ (a : Nat) (i : Int), 0 ≤ i → ((a = 4 ∨ a = 5) ∧ i = k) ∨ a = 7 + k.toNat ∨ a = 11 + k.toNat ∨ a = 15 + k.toNat ∨ a = 19 + k.toNat ∨ a = 186 + k.toNat → m1 a i = m a i) : IM1 m1 n W H k := by
  obtain ⟨h1, h2, h3, h4⟩ := h
  unfold IM1
  rw [e (186 + k.toNat) 0 (by decide) (by omega), e 4 k k0 (by omega), e (186 + k.toNat) 1 (by decide) (by omega), e 5 k k0 (by omega)]
  refine ⟨h1, h2, fun i i0 i1 => ?_, fun i j i0 i1 j0 j1 => ?_⟩
  · rw [e (186 + k.toNat) (2 + 4 * i) (by omega) (by omega), e (186 + k.toNat) (3 + 4 * i) (by omega) (by omega), e (186 + k.toNat) (4 + 4 * i) (by omega) (by omega), e (186 + k.toNat) (5 + 4 * i) (by omega) (by omega), e (7 + k.toNat) i i0 (by omega), e (11 + k.toNat) i i0 (by omega), e (15 + k.toNat) i i0 (by omega), e (19 + k.toNat) i i0 (by omega)]
    exact h3 i i0 i1
  · rw [e (7 + k.toNat) i i0 (by omega), e (7 + k.toNat) j j0 (by omega), e (11 + k.toNat) i i0 (by omega), e (11 + k.toNat) j j0 (by omega)]
    exact h4 i j i0 i1 j0 j1
theorem IM.congr {m m1 : Nat → Int → Int} (h : IM m n W H) (h3 : m 3 6 ≤ 3) (e : ∀ (a : Nat) (i : Int), 0 ≤ i → (a = 3 ∧ i = 6) ∨ (4 ≤ a ∧ a ≤ 21) ∨ (186 ≤ a ∧ a ≤ 188) → m1 a i = m a i) : IM m1 n W H := by
  intro k k0 k1
  rw [e 3 6 (by decide) (by omega)] at k1
  exact (h k k0 k1).congr k0 (by omega) (fun a i i0 z => e a i i0 (by omega))
/-- what questions may change -/
abbrev AJ (u : Nat) : Nat → Int → Prop := fun a i => ((u + 2 ≤ a ∧ a ≤ u + 9) ∨ (a = u + 1 ∧ (i = 8 ∨ i = 9)) ∨ (a = 26 ∧ 6 ≤ i ∧ i ≤ 11) ∨ (23 ≤ a ∧ a ≤ 25) ∨ (35 ≤ a ∧ a ≤ 38) ∨ (55 ≤ a ∧ a ≤ 58)) ∨ ((a = 76 ∧ (i = 0 ∨ i = 2 ∨ (4 ≤ i ∧ i ≤ 7) ∨ i = 22 ∨ i = 27 ∨ i = 28 ∨ (36 ≤ i ∧ i ≤ 43))) ∨ (91 ≤ a ∧ a ≤ 99) ∨ (261 ≤ a ∧ a ≤ 343))
theorem AJ_no (hu : IsMk u) (a : Nat) (i : Int) (h : (a < 23 ∨ (26 ≤ a ∧ a < 35) ∨ (38 < a ∧ a < 55) ∨ (58 < a ∧ a < 91) ∨ (99 < a ∧ a < 261)) ∧ ((a < u + 1 ∨ u + 9 < a) ∧ (a ≠ 26 ∨ i < 6 ∨ 11 < i) ∧ (a ≠ 76 ∨ i = 1 ∨ i = 3 ∨ (8 ≤ i ∧ i ≤ 21) ∨ (23 ≤ i ∧ i ≤ 26) ∨ (29 ≤ i ∧ i ≤ 35)))) : ¬ AJ u a i := by
  have hm : u = 39 ∨ u = 60 := hu
  show ¬ (((u + 2 ≤ a ∧ a ≤ u + 9) ∨ (a = u + 1 ∧ (i = 8 ∨ i = 9)) ∨ (a = 26 ∧ 6 ≤ i ∧ i ≤ 11) ∨ (23 ≤ a ∧ a ≤ 25) ∨ (35 ≤ a ∧ a ≤ 38) ∨ (55 ≤ a ∧ a ≤ 58)) ∨ ((a = 76 ∧ (i = 0 ∨ i = 2 ∨ (4 ≤ i ∧ i ≤ 7) ∨ i = 22 ∨ i = 27 ∨ i = 28 ∨ (36 ≤ i ∧ i ≤ 43))) ∨ (91 ≤ a ∧ a ≤ 99) ∨ (261 ≤ a ∧ a ≤ 343)))
  omega
theorem J.keep (h : J σ u v n W H D Es Er du fo N) (hF : Fr (AJ u) σ τ) (h8 : rI τ (u + 1) 8 = n) (h9 : rI τ (u + 1) 9 = -1) (hD : De8 n D (Dc (rI τ) u)) (h27 : rI τ 76 27 = 0) (h28 : rI τ 76 28 = n) (hM : Deq n (Dm (rI σ)) (Dm (rI τ))) : J τ u v n W H (Dc (rI τ) u) Es Er du fo N := by
  obtain ⟨hG, hv, hC, hR, hS, hI⟩ := h
  have hu : IsMk u := hG.2.2.2.2
  have hm : u = 39 ∨ u = 60 := hu
  have hco : ∀ i : Int, 0 ≤ i → i < n → rI τ 184 i = Dc (rI τ) u 7 i := fun i p q => by
    obtain ⟨K, fr, va, D2, _, _, _, hc⟩ := hR
    rw [hF.rw p (AJ_no hu _ _ (by omega)), hc i p q, hD 7 i (by decide) p q]
  have hmv : v = 39 ∨ v = 60 := hv.2.1
  have hne := hv.2.2.1
  refine ⟨hF.g hG, ⟨?_, hv.2.1, hv.2.2.1, (hF.rw (by decide) (AJ_no hu _ _ (by omega))).trans hv.2.2.2⟩, hC.fr hF (fun a i z => AJ_no hu a i (by omega)) h8 h9 hD, hR.fr hF (fun a i z => AJ_no hu a i (by omega)) (fun i z => AJ_no hu 76 i (by omega)) h27 h28 hM hD.deq hco, hS.congr (fun a i i0 z => hF.rw i0 (AJ_no hu a i (by omega))), hI.congr hS.2.2.2.2.1.2.2 (fun a i i0 z => hF.rw i0 (AJ_no hu a i (by omega)))⟩
  have e := hF.1.2.1
  show τ.2.1 0 6 = some v
  rw [e]; exact hv.1
end
