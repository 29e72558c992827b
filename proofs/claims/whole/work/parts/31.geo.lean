/-! GEOMETRY: who shades whom, of the class. -/
/-- stall rows: 0 x, 1 y, 2 height, 3 awning, 4 grows, 5 top, 6 lantern (, 7 cold) -/
def Dc (m : Nat → Int → Int) (v : Nat) : Nat → Int → Int
  | 0, i => m (v + 2) i | 1, i => m (v + 3) i | 2, i => m (v + 4) i | 3, i => m (v + 5) i | 4, i => m (v + 6) i | 5, i => m (v + 7) i | 6, i => m (v + 8) i | 7, i => m (v + 9) i | _, _ => 0
/-- k keeps the shadow of i off j, which lies t steps of (dx, dy) on -/
def Keeps (D : Nat → Int → Int) (i j dx dy t k : Int) : Prop := (D 0 j = D 0 k ∧ 0 < D 1 j - D 1 k ∧ D 1 j - D 1 k ≤ D 3 k) ∨ (D 2 i < D 2 k ∧ ∃ q : Int, 0 < q ∧ q < t ∧ D 0 j - D 0 k = dx * q ∧ D 1 j - D 1 k = dy * q)
def Kept (D : Nat → Int → Int) (n gone i j dx dy t : Int) : Prop := ∃ k : Int, 0 ≤ k ∧ k < n ∧ k ≠ i ∧ k ≠ j ∧ k ≠ gone ∧ Keeps D i j dx dy t k
/-- by a sun of slot s the shadow of i falls on j -/
def Falls (D : Nat → Int → Int) (n gone w i j s : Int) : Prop := 0 ≤ s ∧ ∃ t : Int, ¬ (s / 10 % 3 - 1 = 0 ∧ s / 30 - 1 = 0) ∧ 1 ≤ t ∧ D 0 j = D 0 i + (s / 10 % 3 - 1) * t ∧ D 1 j = D 1 i + (s / 30 - 1) * t ∧ 10 * t ≤ D 2 i * w * (s % 10) ∧ ¬ Kept D n gone i j (s / 10 % 3 - 1) (s / 30 - 1) t
/-- what need answers -/
def NeedS (D : Nat → Int → Int) (n gone w i j r : Int) : Prop := (r = -1 ∧ ∀ s : Int, 0 ≤ s → s < 90 → ¬ Falls D n gone w i j s) ∨ (0 ≤ r ∧ r < 90 ∧ ∀ s : Int, 0 ≤ s → s < 90 → (Falls D n gone w i j s ↔ s / 10 = r / 10 ∧ r ≤ s))
/-- the first n stalls are told within bounds -/
def StB (D : Nat → Int → Int) (n : Int) : Prop := n ≤ 9 ∧ ∀ i : Int, 0 ≤ i → i < n → (0 ≤ D 0 i ∧ D 0 i ≤ 8) ∧ (0 ≤ D 1 i ∧ D 1 i ≤ 8) ∧ (0 ≤ D 2 i ∧ D 2 i ≤ 60) ∧ (0 ≤ D 3 i ∧ D 3 i ≤ 3) ∧ (0 ≤ D 6 i ∧ D 6 i ≤ 1)
theorem mul_bd {a b A B : Int} (h1 : 0 ≤ a) (h2 : a ≤ A) (h3 : 0 ≤ b) (h4 : b ≤ B) : 0 ≤ a * b ∧ a * b ≤ A * B := ⟨Int.mul_nonneg h1 h3, Int.mul_le_mul h2 h4 h3 (by omega)⟩
theorem s_sign {sc : Nat × (Nat → Int32)} {d : Nat} {σ : aH} {u : Nat} {x : Int} (hG : G σ u) (rx : inR x) : TI sc (d + 1) mX6_sign [.int (nZ x)] σ (fun r σ1 => σ1 = σ ∧ (0 < x → r = 1) ∧ (x = 0 → r = 0) ∧ (x < 0 → r = -1)) := by
  apply T.int
  apply t_X6_sign hG rx
  repeat' (first | intro _ | apply And.intro)
  all_goals exact ⟨_, rfl, by omega, rfl, by omega, by omega, by omega⟩
theorem s_cellsFor {sc : Nat × (Nat → Int32)} {d : Nat} {σ : aH} {u : Nat} {h e : Int} (hG : G σ u) (hw : 0 ≤ rI σ u 9 ∧ rI σ u 9 ≤ 1) (h1 : 0 ≤ h ∧ h ≤ 60) (h2 : 0 ≤ e ∧ e ≤ 10) : TI sc (d + 1) mX6_cellsFor [.ref 27, .int (nZ h), .int (nZ e)] σ (fun r σ1 => σ1 = σ ∧ r = h * e * (1 + rI σ u 9) / 10) := by
  apply T.int
  have hm := mul_bd h1.1 h1.2 h2.1 h2.2
  apply t_X6_cellsFor hG (by omega) (by omega)
  repeat' (first | intro _ | apply And.intro)
  all_goals first | omega | skip
  · rename_i c
    refine ⟨_, rfl, by omega, rfl, ?_⟩
    have e0 : rI σ u 9 = 0 := by omega
    rw [e0]; rfl
  · rename_i c
    refine ⟨_, rfl, by omega, rfl, ?_⟩
    rw [c]; rfl
theorem s_isInLine {sc : Nat × (Nat → Int32)} {d : Nat} {σ : aH} {u : Nat} {i j : Int} (hG : G σ u) {n : Int} (hS : StB (Dc (rI σ) u) n) (hi : 0 ≤ i ∧ i < n) (hj : 0 ≤ j ∧ j < n) : TI sc (d + 1) mX6_isInLine [.ref 27, .int (nZ i), .int (nZ j)] σ (fun r σ1 => σ1 = σ ∧ ((r = 1 ∧ (rI σ (u + 2) j - rI σ (u + 2) i = 0 ∨ rI σ (u + 3) j - rI σ (u + 3) i = 0 ∨ rI σ (u + 2) j - rI σ (u + 2) i = rI σ (u + 3) j - rI σ (u + 3) i ∨ rI σ (u + 2) j - rI σ (u + 2) i = -(rI σ (u + 3) j - rI σ (u + 3) i))) ∨ (r = 0 ∧ ¬ rI σ (u + 2) j - rI σ (u + 2) i = 0 ∧ ¬ rI σ (u + 3) j - rI σ (u + 3) i = 0 ∧ ¬ rI σ (u + 2) j - rI σ (u + 2) i = rI σ (u + 3) j - rI σ (u + 3) i ∧ ¬ rI σ (u + 2) j - rI σ (u + 2) i = -(rI σ (u + 3) j - rI σ (u + 3) i)))) := by
  have a1 := hS.1
  have a2 : (0 ≤ rI σ (u + 2) i ∧ rI σ (u + 2) i ≤ 8) ∧ (0 ≤ rI σ (u + 3) i ∧ rI σ (u + 3) i ≤ 8) ∧ _ := hS.2 i hi.1 hi.2
  have a3 : (0 ≤ rI σ (u + 2) j ∧ rI σ (u + 2) j ≤ 8) ∧ (0 ≤ rI σ (u + 3) j ∧ rI σ (u + 3) j ≤ 8) ∧ _ := hS.2 j hj.1 hj.2
  obtain ⟨b1, b2, -⟩ := a2
  obtain ⟨b3, b4, -⟩ := a3
  apply T.int
  apply t_X6_isInLine hG (by omega) (by omega)
  repeat' (first | intro _ | apply And.intro)
  all_goals first | omega | exact ⟨_, rfl, by omega, rfl, by omega⟩
theorem StB.at {m : Nat → Int → Int} {u : Nat} {n i : Int} (hS : StB (Dc m u) n) (h0 : 0 ≤ i) (h1 : i < n) : (0 ≤ m (u + 2) i ∧ m (u + 2) i ≤ 8) ∧ (0 ≤ m (u + 3) i ∧ m (u + 3) i ≤ 8) ∧ (0 ≤ m (u + 4) i ∧ m (u + 4) i ≤ 60) ∧ (0 ≤ m (u + 5) i ∧ m (u + 5) i ≤ 3) ∧ (0 ≤ m (u + 8) i ∧ m (u + 8) i ≤ 1) := hS.2 i h0 h1
theorem Keeps_c {m : Nat → Int → Int} {u : Nat} {i j dx dy t k : Int} : Keeps (Dc m u) i j dx dy t k ↔ ((m (u + 2) j = m (u + 2) k ∧ 0 < m (u + 3) j - m (u + 3) k ∧ m (u + 3) j - m (u + 3) k ≤ m (u + 5) k) ∨ (m (u + 4) i < m (u + 4) k ∧ ∃ q : Int, 0 < q ∧ q < t ∧ m (u + 2) j - m (u + 2) k = dx * q ∧ m (u + 3) j - m (u + 3) k = dy * q)) := Iff.rfl
theorem kept_121 {C : aM → List Value → aH → aO → aH → Prop} {sc : Nat × (Nat → Int32)} {P : aO → aH → Prop} {σ : aH} {u : Nat} {n i j dx dy t k x8 x9 s0 : Int} (hG : G σ u) (hS : StB (Dc (rI σ) u) n) (hi : 0 ≤ i ∧ i < n) (hj : 0 ≤ j ∧ j < n) (hk : 0 ≤ k ∧ k < n) (ht : 0 ≤ t ∧ t ≤ 100)
    (hdx : dx = -1 ∨ dx = 0 ∨ dx = 1) (hdy : dy = -1 ∨ dy = 0 ∨ dy = 1) (hnz : ¬ (dx = 0 ∧ dy = 0)) (h8 : x8 = rI σ (u + 2) j - rI σ (u + 2) k) (h9 : x9 = rI σ (u + 3) j - rI σ (u + 3) k) (hs : (¬ dx = 0 → s0 = x8 * dx) ∧ (dx = 0 → s0 = x9 * dy))
    (hc : ¬ (rI σ (u + 2) j = rI σ (u + 2) k ∧ 0 < rI σ (u + 3) j - rI σ (u + 3) k ∧ rI σ (u + 3) j - rI σ (u + 3) k ≤ rI σ (u + 5) k))
    (next : ¬ Keeps (Dc (rI σ) u) i j dx dy t k → L_X6_isKeptOff_12 C sc P u i j dx dy t (k + 1) σ) (yes : Keeps (Dc (rI σ) u) i j dx dy t k → P (.inl (some (.int (nZ 1)))) σ) : L_X6_isKeptOff_121 C sc P u i j dx dy t k x8 x9 s0 σ := by
  have a1 := hS.1
  obtain ⟨b1, b2, b3, b4, b5⟩ := hS.at hi.1 hi.2
  obtain ⟨c1, c2, c3, c4, c5⟩ := hS.at hj.1 hj.2
  obtain ⟨e1, e2, e3, e4, e5⟩ := hS.at hk.1 hk.2
  have hr : inR s0 := by
    rcases hdx with rfl | rfl | rfl <;> rcases hdy with rfl | rfl | rfl <;> omega
  apply v_X6_isKeptOff_121 hG (by omega) (by omega) (by omega) (by omega) (by omega) (by omega) (by omega) (by omega) hr
  have hm : ∀ q : Int, 0 < q → q < t → inR (dx * q) ∧ inR (dy * q) := by
    intro q h1 h2
    rcases hdx with rfl | rfl | rfl <;> rcases hdy with rfl | rfl | rfl <;> omega
  have no : (¬ (rI σ (u + 4) i < rI σ (u + 4) k) ∨ s0 ≤ 0 ∨ t ≤ s0 ∨ ¬ x8 = dx * s0 ∨ ¬ x9 = dy * s0) → L_X6_isKeptOff_12 C sc P u i j dx dy t (k + 1) σ := by
    intro h
    apply next
    rw [Keeps_c]
    rintro (q | ⟨q1, q, q2, q3, q4, q5⟩)
    · exact hc q
    · rcases hdx with rfl | rfl | rfl <;> rcases hdy with rfl | rfl | rfl <;> omega
  refine ⟨by omega, by omega, fun g1 => ⟨by omega, no (by omega)⟩, fun g1 => ⟨fun g2 => ⟨by omega, no (by omega)⟩, fun g2 => ⟨fun g3 => ⟨by omega, no (by omega)⟩, fun g3 => ⟨(hm s0 (by omega) (by omega)).1, fun g4 => ⟨by omega, no (by omega)⟩, fun g4 => ⟨(hm s0 (by omega) (by omega)).2, fun g5 => ⟨by omega, no (by omega)⟩, fun g5 => yes (Keeps_c.mpr (Or.inr ⟨by omega, s0, by omega, by omega, by omega, by omega⟩))⟩⟩⟩⟩⟩
theorem s_isKeptOff {sc : Nat × (Nat → Int32)} {d : Nat} {σ : aH} {u : Nat} {n i j dx dy t : Int} (hG : G σ u) (hn : rI σ (u + 1) 8 = n) (hS : StB (Dc (rI σ) u) n) (hi : 0 ≤ i ∧ i < n) (hj : 0 ≤ j ∧ j < n) (ht : 0 ≤ t ∧ t ≤ 100)
    (hdx : dx = -1 ∨ dx = 0 ∨ dx = 1) (hdy : dy = -1 ∨ dy = 0 ∨ dy = 1) (hnz : ¬ (dx = 0 ∧ dy = 0)) : TI sc (d + 1) mX6_isKeptOff [.ref 27, .int (nZ i), .int (nZ j), .int (nZ dx), .int (nZ dy), .int (nZ t)] σ (fun r σ1 => σ1 = σ ∧ ((r = 1 ∧ Kept (Dc (rI σ) u) n (rI σ (u + 1) 9) i j dx dy t) ∨ (r = 0 ∧ ¬ Kept (Dc (rI σ) u) n (rI σ (u + 1) 9) i j dx dy t))) := by
  have a1 := hS.1
  apply T.int
  apply t_X6_isKeptOff hG (by omega) (by omega) (by omega) (by omega) (by omega)
  have loop : ∀ (f : Nat) (k : Int), (n - k).toNat = f → 0 ≤ k → k ≤ n → (∀ q : Int, 0 ≤ q → q < k → q ≠ i → q ≠ j → q ≠ rI σ (u + 1) 9 → ¬ Keeps (Dc (rI σ) u) i j dx dy t q) → L_X6_isKeptOff_12 (Ev sc d) sc (QI (fun r σ1 => σ1 = σ ∧ ((r = 1 ∧ Kept (Dc (rI σ) u) n (rI σ (u + 1) 9) i j dx dy t) ∨ (r = 0 ∧ ¬ Kept (Dc (rI σ) u) n (rI σ (u + 1) 9) i j dx dy t)))) u i j dx dy t k σ := by
    intro f
    induction f with
    | zero =>
      intro k hf h0 h1 hq
      apply v_X6_isKeptOff_12 hG (by omega) (by omega) (by omega) (by omega) (by omega) (by omega)
      refine ⟨fun g => ⟨0, rfl, by decide, rfl, Or.inr ⟨rfl, ?_⟩⟩, fun g => by omega⟩
      rintro ⟨q, q0, q1, q2, q3, q4, q5⟩
      exact hq q q0 (by omega) q2 q3 q4 q5
    | succ f ih =>
      intro k hf h0 h1 hq
      obtain ⟨b1, b2, b3, b4, b5⟩ := hS.at hi.1 hi.2
      obtain ⟨c1, c2, c3, c4, c5⟩ := hS.at hj.1 hj.2
      obtain ⟨e1, e2, e3, e4, e5⟩ := hS.at h0 (show k < n by omega)
      have nx : (k = i ∨ k = j ∨ k = rI σ (u + 1) 9 ∨ ¬ Keeps (Dc (rI σ) u) i j dx dy t k) → L_X6_isKeptOff_12 (Ev sc d) sc (QI (fun r σ1 => σ1 = σ ∧ ((r = 1 ∧ Kept (Dc (rI σ) u) n (rI σ (u + 1) 9) i j dx dy t) ∨ (r = 0 ∧ ¬ Kept (Dc (rI σ) u) n (rI σ (u + 1) 9) i j dx dy t)))) u i j dx dy t (k + 1) σ := by
        intro hx
        apply ih (k + 1) (by omega) (by omega) (by omega)
        intro q q0 q1 q2 q3 q4
        by_cases e : q = k
        · subst e
          rcases hx with hx | hx | hx | hx
          · exact absurd hx q2
          · exact absurd hx q3
          · exact absurd hx q4
          · exact hx
        · exact hq q q0 (by omega) q2 q3 q4
      apply v_X6_isKeptOff_12 hG (by omega) (by omega) (by omega) (by omega) (by omega) (by omega)
      have hm : ∀ z : Int, -8 ≤ z → z ≤ 8 → inR (z * dx) ∧ inR (z * dy) := by
        intro q h1 h2
        rcases hdx with rfl | rfl | rfl <;> rcases hdy with rfl | rfl | rfl <;> omega
      refine ⟨fun g => by omega, fun g => ⟨fun g1 => ⟨by omega, nx (Or.inl g1)⟩, fun g1 => ⟨fun g2 => ⟨by omega, nx (Or.inr (Or.inl g2))⟩, fun g2 => ⟨fun g3 => ⟨by omega, nx (Or.inr (Or.inr (Or.inl g3)))⟩, fun g3 => ?_⟩⟩⟩⟩
      have fin : ∀ z5 z9 s0 : Int, z5 = rI σ (u + 2) j - rI σ (u + 2) k → z9 = rI σ (u + 3) j - rI σ (u + 3) k → (¬ dx = 0 → s0 = z5 * dx) ∧ (dx = 0 → s0 = z9 * dy) → ¬ (rI σ (u + 2) j = rI σ (u + 2) k ∧ 0 < rI σ (u + 3) j - rI σ (u + 3) k ∧ rI σ (u + 3) j - rI σ (u + 3) k ≤ rI σ (u + 5) k) → L_X6_isKeptOff_121 (Ev sc d) sc (QI (fun r σ1 => σ1 = σ ∧ ((r = 1 ∧ Kept (Dc (rI σ) u) n (rI σ (u + 1) 9) i j dx dy t) ∨ (r = 0 ∧ ¬ Kept (Dc (rI σ) u) n (rI σ (u + 1) 9) i j dx dy t)))) u i j dx dy t k z5 z9 s0 σ := by
        intro z5 z9 s0 h5 h9 hs hc
        exact kept_121 hG hS hi hj ⟨h0, by omega⟩ ht hdx hdy hnz h5 h9 hs hc (fun q => nx (Or.inr (Or.inr (Or.inr q)))) (fun q => ⟨1, rfl, by decide, rfl, Or.inl ⟨rfl, k, h0, by omega, g1, g2, g3, q⟩⟩)
      refine ⟨by omega, by omega, by omega, fun z5 e5 => ⟨by omega, by omega, by omega, fun z9 e9 => ?_⟩⟩
      have m1 := hm z5 (by omega) (by omega)
      have m2 := hm z9 (by omega) (by omega)
      refine ⟨fun g4 => ⟨fun g5 => ⟨m1.1, fin _ _ _ e5 e9 ⟨fun _ => rfl, fun q => absurd q g5⟩ (by omega)⟩, fun g5 => ⟨m2.2, fin _ _ _ e5 e9 ⟨fun q => absurd g5 q, fun _ => rfl⟩ (by omega)⟩⟩, fun g4 => ⟨fun g6 => ⟨fun g5 => ⟨m1.1, fin _ _ _ e5 e9 ⟨fun _ => rfl, fun q => absurd q g5⟩ (by omega)⟩, fun g5 => ⟨m2.2, fin _ _ _ e5 e9 ⟨fun q => absurd g5 q, fun _ => rfl⟩ (by omega)⟩⟩, fun g6 => ⟨by omega, fun g7 => ⟨fun g5 => ⟨m1.1, fin _ _ _ e5 e9 ⟨fun _ => rfl, fun q => absurd q g5⟩ (by omega)⟩, fun g5 => ⟨m2.2, fin _ _ _ e5 e9 ⟨fun q => absurd g5 q, fun _ => rfl⟩ (by omega)⟩⟩, fun g7 => ?_⟩⟩⟩
      exact ⟨1, rfl, by decide, rfl, Or.inl ⟨rfl, k, h0, by omega, g1, g2, g3, Or.inl ⟨show rI σ (u + 2) j = rI σ (u + 2) k by omega, show 0 < rI σ (u + 3) j - rI σ (u + 3) k by omega, show rI σ (u + 3) j - rI σ (u + 3) k ≤ rI σ (u + 5) k by omega⟩⟩⟩
  exact loop _ 0 rfl (by omega) (by omega) (fun q h0 h1 => by omega)
