/-! QUESTIONS about shadows, of the class. -/
theorem rI_neg (σ : aH) (a : Nat) {i : Int} (h : i < 0) : rI σ a i = rI σ a 0 := by
  unfold rI; rw [show i.toNat = (0 : Int).toNat by omega]
theorem Fr.row {A : Nat → Int → Prop} {σ σ1 : aH} {a : Nat} (h : Fr A σ σ1) (hA : ∀ i : Int, ¬ A a i) : rI σ1 a = rI σ a := by
  funext i
  by_cases c : 0 ≤ i
  · exact h.2 a i c (hA i)
  · rw [rI_neg σ1 a (by omega), rI_neg σ a (by omega)]; exact h.2 a 0 (by omega) (hA 0)
theorem Dc_congr {m m1 : Nat → Int → Int} {u : Nat} (h : ∀ a : Nat, u + 2 ≤ a → a ≤ u + 9 → m1 a = m a) : Dc m1 u = Dc m u := by
  funext f i
  unfold Dc
  split
  all_goals first | (rw [h _ (by omega) (by omega)]) | rfl
/-- nothing of market u has changed -/
theorem FaC_congr {m m1 : Nat → Int → Int} {u : Nat} {n : Int} (h : ∀ a : Nat, u + 2 ≤ a → a ≤ u + 9 → m1 a = m a) (h1 : m1 (u + 1) 9 = m (u + 1) 9) (h2 : m1 u 9 = m u 9) : FaC m1 u n = FaC m u n := by
  unfold FaC; rw [Dc_congr h, h1, h2]
theorem Sh.congr {σ τ : aH} {u : Nat} {n : Int} (hS : Sh σ u n) (h : ∀ a : Nat, u + 2 ≤ a → a ≤ u + 9 → rI τ a = rI σ a) (h1 : rI τ (u + 1) 8 = rI σ (u + 1) 8) (h2 : rI τ u 9 = rI σ u 9) : Sh τ u n := by
  obtain ⟨a, b, c, e⟩ := hS
  exact ⟨h1.trans a, b, by rw [Dc_congr h]; exact c, by rw [h2]; exact e⟩
theorem Fr.fa {A : Nat → Int → Prop} {σ τ : aH} {u : Nat} {n : Int} (hF : Fr A σ τ) (hA : ∀ (a : Nat) (i : Int), u ≤ a → a ≤ u + 15 → ¬ A a i) : FaC (rI τ) u n = FaC (rI σ) u n := FaC_congr (fun a h1 h2 => hF.row (fun i => hA a i (by omega) (by omega))) (hF.rw (by omega) (hA _ _ (by omega) (by omega))) (hF.rw (by omega) (hA _ _ (by omega) (by omega)))
theorem Fr.sh {A : Nat → Int → Prop} {σ τ : aH} {u : Nat} {n : Int} (hF : Fr A σ τ) (hA : ∀ (a : Nat) (i : Int), u ≤ a → a ≤ u + 15 → ¬ A a i) (hS : Sh σ u n) : Sh τ u n := hS.congr (fun a h1 h2 => hF.row (fun i => hA a i (by omega) (by omega))) (hF.rw (by omega) (hA _ _ (by omega) (by omega))) (hF.rw (by omega) (hA _ _ (by omega) (by omega)))
section
variable {sc : Nat × (Nat → Int32)} {d : Nat} {σ : aH} {u w : Nat} {n : Int} {S F F1 : Int → Int}
theorem s_falls {i j s : Int} (hG : G σ u) (hSh : Sh σ u n) (hi : 0 ≤ i ∧ i < n) (hj : 0 ≤ j ∧ j < n) (hs : -1 ≤ s ∧ s ≤ 89) : TI sc (d + 3) mX6_falls [.ref 27, .int (nZ i), .int (nZ j), .int (nZ s)] σ (fun r σ1 => σ1 = σ ∧ ((r = 1 ∧ FaC (rI σ) u n i j s) ∨ (r = 0 ∧ ¬ FaC (rI σ) u n i j s))) := by
  have a1 := hSh.2.2.1.1
  apply T.int
  apply t_X6_falls hG (by omega) (by omega) (by omega)
  refine ⟨fun g => ?_, fun g => ⟨0, rfl, by decide, rfl, Or.inr ⟨rfl, falls_neg (by omega)⟩⟩⟩
  obtain ⟨r5, σ1, he, hr, rfl, hN⟩ := s_needF (sc := sc) (d := d) hG hSh hi hj
  refine ⟨r5, σ1, he, hG, hr, ?_⟩
  rcases hN with ⟨rfl, h⟩ | ⟨h0, h1, h⟩
  · exact ⟨fun _ => ⟨0, rfl, by decide, rfl, Or.inr ⟨rfl, h s (by omega) (by omega)⟩⟩, fun q => absurd rfl q⟩
  · have hq := h s (by omega) (by omega)
    refine ⟨fun g => by omega, fun g1 => ⟨fun g2 => ⟨0, rfl, by decide, rfl, Or.inr ⟨rfl, fun k => ?_⟩⟩, fun g2 => ⟨by omega, by omega, by omega, by omega, fun g3 => ⟨0, rfl, by decide, rfl, Or.inr ⟨rfl, fun k => ?_⟩⟩, fun g3 => ⟨1, rfl, by decide, rfl, Or.inl ⟨rfl, hq.mpr ⟨by omega, by omega⟩⟩⟩⟩⟩⟩
    · have := hq.mp k; omega
    · have := hq.mp k; omega
theorem s_throwers {j s : Int} (hG : G σ u) (hSh : Sh σ u n) (hj : 0 ≤ j ∧ j < n) (hs : -1 ≤ s ∧ s ≤ 89) : TI sc (d + 4) mX6_throwers [.ref 27, .int (nZ j), .int (nZ s)] σ (fun r σ1 => σ1 = σ ∧ r = bs (fun k => FaC (rI σ) u n k j s) n.toNat) := by
  have a1 := hSh.2.2.1.1
  have a2 := hSh.1
  have a3 := hSh.2.1
  apply T.int
  apply t_X6_throwers hG (by omega) (by omega)
  have loop : ∀ (f : Nat) (k b : Int), (n - k).toNat = f → 0 ≤ k → k ≤ n → b = bs (fun k => FaC (rI σ) u n k j s) k.toNat → L_X6_throwers_5 (Ev sc (d + 3)) sc (QI (fun r σ1 => σ1 = σ ∧ r = bs (fun k => FaC (rI σ) u n k j s) n.toNat)) j s b k σ := by
    intro f
    induction f with
    | zero =>
      intro k b hf k0 k1 hb
      have hR := bs_30 (fun k => FaC (rI σ) u n k j s) (n := k.toNat) (by omega)
      apply v_X6_throwers_5 hG (by omega) (by omega) (by rw [hb]; exact hR) (by omega)
      exact ⟨fun g => ⟨_, rfl, by rw [hb]; exact hR, rfl, by rw [hb, show k.toNat = n.toNat by omega]⟩, fun g => by omega⟩
    | succ f ih =>
      intro k b hf k0 k1 hb
      have hR := bs_30 (fun k => FaC (rI σ) u n k j s) (n := k.toNat) (by omega)
      have st : bs (fun k => FaC (rI σ) u n k j s) (k + 1).toNat = bs (fun k => FaC (rI σ) u n k j s) k.toNat + cif (FaC (rI σ) u n k j s) (2 ^ k.toNat) 0 := sm_toNat _ k0
      apply v_X6_throwers_5 hG (by omega) (by omega) (by rw [hb]; exact hR) (by omega)
      refine ⟨fun g => by omega, fun g => ⟨fun g1 => ⟨by omega, ?_⟩, fun g1 => ?_⟩⟩
      · refine ih (k + 1) b (by omega) (by omega) (by omega) ?_
        rw [st, g1, cif_neg (p := FaC (rI σ) u n j j s) falls_irr, hb, g1]; omega
      · obtain ⟨r6, σ1, he, hr, rfl, h6⟩ := s_falls (sc := sc) (d := d) hG hSh (show 0 ≤ k ∧ k < n by omega) hj hs
        refine ⟨r6, σ1, he, hG, hr, fun g2 => ⟨by omega, ?_⟩, fun g2 z e => ⟨by omega, ?_⟩⟩
        · refine ih (k + 1) b (by omega) (by omega) (by omega) ?_
          rw [st, cif_neg (by rcases h6 with h6 | h6; omega; exact h6.2), hb]; omega
        · refine ih (k + 1) z (by omega) (by omega) (by omega) ?_
          rw [st, cif_pos (by rcases h6 with h6 | h6; exact h6.2; omega), e, hb, bs_step _ k0 (by omega)]
  exact loop _ 0 0 rfl (by omega) a3 (sm_0 _).symm
/-- somebody shades somebody by slot s -/
def Under (fa : Int → Int → Int → Prop) (n s : Int) : Prop := ∃ k j : Int, (0 ≤ k ∧ k < n) ∧ (0 ≤ j ∧ j < n) ∧ fa k j s
theorem s_anybody {s : Int} (hG : G σ u) (hSh : Sh σ u n) (hs : -1 ≤ s ∧ s ≤ 89) : TI sc (d + 5) mX6_isAnybodyUnder [.ref 27, .int (nZ s)] σ (fun r σ1 => σ1 = σ ∧ ((r = 1 ∧ Under (FaC (rI σ) u n) n s) ∨ (r = 0 ∧ ¬ Under (FaC (rI σ) u n) n s))) := by
  have a1 := hSh.2.2.1.1
  have a2 := hSh.1
  have a3 := hSh.2.1
  apply T.int
  apply t_X6_isAnybodyUnder hG (by omega)
  have loop : ∀ (f : Nat) (j : Int), (n - j).toNat = f → 0 ≤ j → j ≤ n → (∀ k q : Int, (0 ≤ k ∧ k < n) → (0 ≤ q ∧ q < j) → ¬ FaC (rI σ) u n k q s) → L_X6_isAnybodyUnder_2 (Ev sc (d + 4)) sc (QI (fun r σ1 => σ1 = σ ∧ ((r = 1 ∧ Under (FaC (rI σ) u n) n s) ∨ (r = 0 ∧ ¬ Under (FaC (rI σ) u n) n s)))) s j σ := by
    intro f
    induction f with
    | zero =>
      intro j hf j0 j1 h
      apply v_X6_isAnybodyUnder_2 hG (by omega) (by omega)
      exact ⟨fun g => ⟨0, rfl, by decide, rfl, Or.inr ⟨rfl, fun ⟨k, q, hk, hq, hf⟩ => h k q hk (by omega) hf⟩⟩, fun g => by omega⟩
    | succ f ih =>
      intro j hf j0 j1 h
      apply v_X6_isAnybodyUnder_2 hG (by omega) (by omega)
      refine ⟨fun g => by omega, fun g => ?_⟩
      obtain ⟨r5, σ1, he, hr, rfl, h5⟩ := s_throwers (sc := sc) (d := d) hG hSh (show 0 ≤ j ∧ j < n by omega) hs
      refine ⟨r5, σ1, he, hG, hr, fun g1 => ⟨by omega, ?_⟩, fun g1 => ⟨1, rfl, by decide, rfl, Or.inl ⟨rfl, ?_⟩⟩⟩
      · refine ih (j + 1) (by omega) (by omega) (by omega) (fun k q hk hq => ?_)
        by_cases e : q = j
        · subst e
          exact bs_zero.mp (h5.symm.trans g1) k hk.1 (by omega)
        · exact h k q hk (by omega)
      · have : ¬ ∀ k : Int, 0 ≤ k → k < n.toNat → ¬ FaC (rI σ1) u n k j s := fun q => g1 (h5.trans (bs_zero.mpr q))
        apply Classical.byContradiction
        intro hno
        apply this
        intro k k0 k1 hk
        exact hno ⟨k, j, by omega, by omega, hk⟩
  exact loop _ 0 rfl (by omega) a3 (fun k q _ hq => by omega)
theorem s_reach {Es : Nat → Option Int} {i t : Int} (hG : G σ u) (hSh : Sh σ u n) (hR : RepC (rI σ) (u + 10) Es) (hE : ∀ t x, Es t = some x → 0 ≤ x ∧ x ≤ 89) (hi : 0 ≤ i ∧ i < n) (ht : 0 ≤ t ∧ t < 1440) : TI sc (d + 3) mX6_reach [.ref 27, .int (nZ i), .int (nZ t)] σ (fun r σ1 => σ1 = σ ∧ r = if sT Es (rI σ u 5) t = -1 ∨ sT Es (rI σ u 5) t / 10 = 4 then 0 else rI σ (u + 4) i * (sT Es (rI σ u 5) t % 10) * (1 + rI σ u 9) / 10) := by
  have a1 := hSh.2.2.1.1
  obtain ⟨b1, b2, b3, b4, b5⟩ := hSh.2.2.1.at hi.1 hi.2
  have hv : IsMk u := hG.2.2.2.2
  apply T.int
  apply t_X6_reach hG (by omega) (by omega)
  obtain ⟨r5, σ1, he, hr, rfl, h5⟩ := s_sunAt (sc := sc) (d := d) (t := t) hG hv hv.ch.1 hR (by omega)
  have hb : -1 ≤ r5 ∧ r5 ≤ 89 := by
    rw [h5]; unfold sT
    by_cases c : t < rI σ1 u 5
    · rw [if_pos c]; exact att_bd (by decide) (fun t x q => by have := hE t x q; omega) t.toNat
    · rw [if_neg c]; decide
  rw [← h5]
  refine ⟨r5, σ1, he, hG, hr, fun g => ⟨0, rfl, by decide, rfl, by rw [if_pos (Or.inl g)]⟩, fun g => ⟨by omega, by omega, fun g1 => ⟨by omega, by omega, by omega, ?_⟩, fun g1 => ⟨0, rfl, by decide, rfl, by rw [if_pos (Or.inr g1)]⟩⟩⟩
  obtain ⟨r12, σ2, he2, hr2, rfl, h12⟩ := s_cellsFor (sc := sc) (d := d + 1) (h := rI σ1 (u + 4) i) (e := r5 % 10) hG hSh.2.2.2 b3 (by omega)
  exact ⟨r12, σ2, he2, hG, hr2, r12, rfl, hr2, rfl, by rw [if_neg (by omega)]; exact h12⟩
/-- somebody but one shades j by slot s -/
def Any (fa : Int → Int → Int → Prop) (n j but s : Int) : Prop := ∃ k : Int, 0 ≤ k ∧ k < n ∧ k ≠ but ∧ fa k j s
theorem s_findLeast {j but : Int} (hG : G σ u) (hSh : Sh σ u n) (hj : 0 ≤ j ∧ j < n) (hb : -1 ≤ but ∧ but < n) : TV sc (d + 3) mX6_findLeast [.ref 27, .int (nZ j), .int (nZ but)] σ (fun σ1 => Fr (fun a _ => a = 37) σ σ1 ∧ ∀ q : Int, 0 ≤ q → q < 9 → (0 ≤ rI σ1 37 q ∧ rI σ1 37 q ≤ 10) ∧ ∀ s : Int, 0 ≤ s → s / 10 = q → (Any (FaC (rI σ) u n) n j but s ↔ rI σ1 37 q ≤ s % 10)) := by
  have a1 := hSh.2.2.1.1
  have a2 := hSh.1
  have a3 := hSh.2.1
  have hm := hG.2.2.2.2
  unfold IsMk at hm
  apply T.void
  apply t_X6_findLeast hG (by omega) (by omega)
  have loop2 : ∀ (f : Nat) (k : Int) (τ : aH), (n - k).toNat = f → 0 ≤ k → k ≤ n → Fr (fun a _ => a = 37) σ τ → (∀ q : Int, 0 ≤ q → q < 9 → (0 ≤ rI τ 37 q ∧ rI τ 37 q ≤ 10) ∧ ∀ s : Int, 0 ≤ s → s / 10 = q → (Any (FaC (rI σ) u n) k j but s ↔ rI τ 37 q ≤ s % 10)) → L_X6_findLeast_24 (Ev sc (d + 2)) sc (QV (fun σ1 => Fr (fun a _ => a = 37) σ σ1 ∧ ∀ q : Int, 0 ≤ q → q < 9 → (0 ≤ rI σ1 37 q ∧ rI σ1 37 q ≤ 10) ∧ ∀ s : Int, 0 ≤ s → s / 10 = q → (Any (FaC (rI σ) u n) n j but s ↔ rI σ1 37 q ≤ s % 10))) j but k τ := by
    intro f
    induction f with
    | zero =>
      intro k τ hf k0 k1 hF h
      have r8 : rI τ (u + 1) 8 = rI σ (u + 1) 8 := hF.rw (by omega) (by omega)
      apply v_X6_findLeast_24 (hF.g hG) (by omega) (by omega) (by omega)
      refine ⟨fun g => ⟨rfl, hF, ?_⟩, fun g => by omega⟩
      rw [show k = n by omega] at h
      exact h
    | succ f ih =>
      intro k τ hf k0 k1 hF h
      have r8 : rI τ (u + 1) 8 = rI σ (u + 1) 8 := hF.rw (by omega) (by omega)
      have hA : ∀ (a : Nat) (i : Int), u ≤ a → a ≤ u + 15 → ¬ (a = 37) := fun a i h1 h2 => by omega
      -- nobody new
      have no : (∀ s : Int, 0 ≤ s → s < 90 → k ≠ but → ¬ FaC (rI σ) u n k j s) → L_X6_findLeast_24 (Ev sc (d + 2)) sc (QV (fun σ1 => Fr (fun a _ => a = 37) σ σ1 ∧ ∀ q : Int, 0 ≤ q → q < 9 → (0 ≤ rI σ1 37 q ∧ rI σ1 37 q ≤ 10) ∧ ∀ s : Int, 0 ≤ s → s / 10 = q → (Any (FaC (rI σ) u n) n j but s ↔ rI σ1 37 q ≤ s % 10))) j but (k + 1) τ := by
        intro hno
        refine ih (k + 1) τ (by omega) (by omega) (by omega) hF (fun q q0 q1 => ⟨(h q q0 q1).1, fun s s0 s1 => ?_⟩)
        rw [← (h q q0 q1).2 s s0 s1]
        constructor
        · rintro ⟨i, i0, i1, i2, i3⟩
          by_cases e : i = k
          · subst e; exact absurd i3 (hno s s0 (by omega) i2)
          · exact ⟨i, i0, by omega, i2, i3⟩
        · rintro ⟨i, i0, i1, i2, i3⟩
          exact ⟨i, i0, by omega, i2, i3⟩
      have c58 : ∀ r : Int, inR r → k ≠ but → k ≠ j → NeedS (Dc (rI σ) u) n (rI σ (u + 1) 9) (1 + rI σ u 9) k j r → L_X6_findLeast_58 (Ev sc (d + 2)) sc (QV (fun σ1 => Fr (fun a _ => a = 37) σ σ1 ∧ ∀ q : Int, 0 ≤ q → q < 9 → (0 ≤ rI σ1 37 q ∧ rI σ1 37 q ≤ 10) ∧ ∀ s : Int, 0 ≤ s → s / 10 = q → (Any (FaC (rI σ) u n) n j but s ↔ rI σ1 37 q ≤ s % 10))) j but k r τ := by
        intro r hr hkb hkj hN
        apply v_X6_findLeast_58 (hF.g hG) (by omega) (by omega) (by omega) hr
        rcases hN with ⟨rfl, hN⟩ | ⟨n0, n1, hN⟩
        · exact ⟨fun _ => ⟨by omega, no (fun s s0 s1 _ => hN s s0 s1)⟩, fun g => by omega⟩
        · have hq := (h (r / 10) (by omega) (by omega)).1
          refine ⟨fun g => by omega, fun _ => ⟨fun g => by omega, fun _ => ⟨by omega, by omega, by omega, by omega, by omega, by omega, by omega, fun z ez => ⟨by omega, fun τ1 e1 => ⟨by omega, ?_⟩⟩⟩⟩⟩
          subst e1
          refine ih (k + 1) _ (by omega) (by omega) (by omega) (hF.trans (Fr.w (by omega) rfl)) (fun q q0 q1 => ?_)
          have hh := h q q0 q1
          by_cases eq : q = r / 10
          · subst eq
            rw [rI_ww (by omega)]
            refine ⟨by omega, fun s s0 s1 => ?_⟩
            have hn := hN s s0 (by omega)
            have hs := hh.2 s s0 s1
            constructor
            · rintro ⟨i, i0, i1, i2, i3⟩
              by_cases e : i = k
              · subst e
                have := hn.mp i3
                omega
              · have := hs.mp ⟨i, i0, by omega, i2, i3⟩
                omega
            · intro hz
              by_cases c : rI τ 37 (r / 10) ≤ s % 10
              · obtain ⟨i, i0, i1, i2, i3⟩ := hs.mpr c
                exact ⟨i, i0, by omega, i2, i3⟩
              · exact ⟨k, k0, by omega, hkb, hn.mpr ⟨by omega, by omega⟩⟩
          · rw [rI_wi (by omega)]
            refine ⟨hh.1, fun s s0 s1 => ?_⟩
            rw [← hh.2 s s0 s1]
            constructor
            · rintro ⟨i, i0, i1, i2, i3⟩
              by_cases e : i = k
              · subst e
                have := (hN s s0 (by omega)).mp i3
                omega
              · exact ⟨i, i0, by omega, i2, i3⟩
            · rintro ⟨i, i0, i1, i2, i3⟩
              exact ⟨i, i0, by omega, i2, i3⟩
      have cno : ∀ h9 : (k = j ∨ k = but), L_X6_findLeast_58 (Ev sc (d + 2)) sc (QV (fun σ1 => Fr (fun a _ => a = 37) σ σ1 ∧ ∀ q : Int, 0 ≤ q → q < 9 → (0 ≤ rI σ1 37 q ∧ rI σ1 37 q ≤ 10) ∧ ∀ s : Int, 0 ≤ s → s / 10 = q → (Any (FaC (rI σ) u n) n j but s ↔ rI σ1 37 q ≤ s % 10))) j but k (-1) τ := by
        intro h9
        apply v_X6_findLeast_58 (hF.g hG) (by omega) (by omega) (by omega) (by decide)
        refine ⟨fun _ => ⟨by omega, no (fun s s0 s1 hkb hf => ?_)⟩, fun g => by omega⟩
        rcases h9 with h9 | h9
        · subst h9; exact falls_irr hf
        · exact hkb h9
      apply v_X6_findLeast_24 (hF.g hG) (by omega) (by omega) (by omega)
      refine ⟨fun g => by omega, fun g => ⟨fun g1 => cno (Or.inl g1), fun g1 => ⟨fun g2 => ?_, fun g2 => cno (Or.inr g2)⟩⟩⟩
      obtain ⟨r5, σ1, he, hr, rfl, hN⟩ := s_needF (sc := sc) (d := d) (i := k) (j := j) (hF.g hG) (hF.sh hA hSh) (by omega) hj
      refine ⟨r5, σ1, he, hF.g hG, hr, c58 r5 hr g2 g1 ?_⟩
      have e1 : Dc (rI σ1) u = Dc (rI σ) u := Dc_congr (fun a h1 h2 => hF.row (fun i => hA a i (by omega) (by omega)))
      have e2 : rI σ1 (u + 1) 9 = rI σ (u + 1) 9 := hF.rw (by omega) (by omega)
      have e3 : rI σ1 u 9 = rI σ u 9 := hF.rw (by omega) (by omega)
      rw [e1, e2, e3] at hN
      exact hN
  have loop1 : ∀ (f : Nat) (q : Int) (τ : aH), (9 - q).toNat = f → 0 ≤ q → q ≤ 9 → Fr (fun a _ => a = 37) σ τ → (∀ p : Int, 0 ≤ p → p < q → rI τ 37 p = 10) → L_X6_findLeast_2 (Ev sc (d + 2)) sc (QV (fun σ1 => Fr (fun a _ => a = 37) σ σ1 ∧ ∀ q : Int, 0 ≤ q → q < 9 → (0 ≤ rI σ1 37 q ∧ rI σ1 37 q ≤ 10) ∧ ∀ s : Int, 0 ≤ s → s / 10 = q → (Any (FaC (rI σ) u n) n j but s ↔ rI σ1 37 q ≤ s % 10))) j but q τ := by
    intro f
    induction f with
    | zero =>
      intro q τ hf q0 q1 hF h
      apply v_X6_findLeast_2 (hF.g hG) (by omega) (by omega) (by omega)
      refine ⟨fun g => ?_, fun g => by omega⟩
      refine loop2 _ 0 τ rfl (by omega) a3 hF (fun p p0 p1 => ?_)
      rw [h p p0 (by omega)]
      refine ⟨by omega, fun s s0 s1 => ⟨?_, fun hz => by omega⟩⟩
      rintro ⟨i, i0, i1, -⟩
      omega
    | succ f ih =>
      intro q τ hf q0 q1 hF h
      apply v_X6_findLeast_2 (hF.g hG) (by omega) (by omega) (by omega)
      refine ⟨fun g => by omega, fun g => ⟨by omega, fun τ1 e1 => ⟨by omega, ?_⟩⟩⟩
      subst e1
      refine ih (q + 1) _ (by omega) (by omega) (by omega) (hF.trans (Fr.w (by omega) rfl)) (fun p p0 p1 => ?_)
      by_cases e : p = q
      · subst e; exact rI_ww (by decide)
      · rw [rI_wi (by omega)]; exact h p p0 (by omega)
  exact loop1 _ 0 σ rfl (by omega) (by omega) (Fr.refl _ _) (fun p p0 p1 => by omega)
end
