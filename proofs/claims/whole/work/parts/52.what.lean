/-! WHAT stood there. -/
noncomputable def ChD (D : Nat → Int → Int) (n gone w : Int) (S : Int → Int) (j : Int) : Int := sm (fun t => cif (Any (Falls D n gone w) n j (-1) (S t)) 1 0) 1440
def Expl (D : Nat → Int → Int) (co : Int → Int) (n gone w : Int) (S : Int → Int) (x y h : Int) : Prop := ∀ i : Int, 0 ≤ i → i < n → co i ≠ -1 → ChD (Dadd D n x y h) (n + 1) gone w S i - ChD D n gone w S i = co i
theorem ChD_bd {D : Nat → Int → Int} {n gone w : Int} {S : Int → Int} {j : Int} : 0 ≤ ChD D n gone w S j ∧ ChD D n gone w S j ≤ 1440 := by
  have := sm_bd (f := fun t => cif (Any (Falls D n gone w) n j (-1) (S t)) 1 0) (lo := 0) (hi := 1) (n := 1440) (fun t _ _ => cif_bd (by omega) (by omega))
  unfold ChD; omega
theorem Deq.any {D D1 : Nat → Int → Int} {n gone w j but s : Int} (h : Deq n D D1) (hj : 0 ≤ j ∧ j < n) : Any (Falls D1 n gone w) n j but s ↔ Any (Falls D n gone w) n j but s := by
  constructor
  · rintro ⟨k, a, b, c, e⟩; exact ⟨k, a, b, c, (h.falls ⟨a, b⟩ hj).mp e⟩
  · rintro ⟨k, a, b, c, e⟩; exact ⟨k, a, b, c, (h.falls ⟨a, b⟩ hj).mpr e⟩
theorem Deq.ch {D D1 : Nat → Int → Int} {n gone w j : Int} {S : Int → Int} (h : Deq n D D1) (hj : 0 ≤ j ∧ j < n) : ChD D1 n gone w S j = ChD D n gone w S j := sm_congr (fun t _ _ => cif_congr (h.any hj))
theorem Expl_congr {D D1 : Nat → Int → Int} {co co1 : Int → Int} {n gone w : Int} {S : Int → Int} {x y h : Int} (hn : 0 ≤ n) (hD : Deq n D D1) (hc : ∀ i : Int, 0 ≤ i → i < n → co1 i = co i) : Expl D1 co1 n gone w S x y h ↔ Expl D co n gone w S x y h := by
  have hA := hD.add hn x y h
  constructor
  · intro e i i0 i1 i2
    rw [← hc i i0 i1, ← hD.ch ⟨i0, i1⟩, ← hA.ch ⟨i0, by omega⟩]; exact e i i0 i1 (by rw [hc i i0 i1]; exact i2)
  · intro e i i0 i1 i2
    rw [hc i i0 i1, hD.ch ⟨i0, i1⟩, hA.ch ⟨i0, by omega⟩]; exact e i i0 i1 (by rw [← hc i i0 i1]; exact i2)
/-- what stands in no line with i neither shades it nor keeps shadows off it -/
theorem ch_noline {D : Nat → Int → Int} {n gone w x y h i : Int} {S : Int → Int} (hn : 0 ≤ n) (hi : 0 ≤ i ∧ i < n) (hS : SB S) (h1 : ¬ D 0 i - x = 0) (h2 : ¬ D 1 i - y = 0) (h3 : ¬ D 0 i - x = D 1 i - y) (h4 : ¬ D 0 i - x = -(D 1 i - y)) : ChD (Dadd D n x y h) (n + 1) gone w S i = ChD D n gone w S i := by
  have e : ∀ (f : Nat) (k : Int), 0 ≤ k → k < n → Dadd D n x y h f k = D f k := fun f k a b => Dadd_ne (by omega)
  have en := Dadd_n (D := D) (n := n) (x := x) (y := y) (h := h) (i := n) rfl
  have line : ∀ dx dy q : Int, (dx = -1 ∨ dx = 0 ∨ dx = 1) → (dy = -1 ∨ dy = 0 ∨ dy = 1) → D 0 i - x = dx * q → D 1 i - y = dy * q → False := by
    intro dx dy q a b c e
    rcases a with rfl | rfl | rfl <;> rcases b with rfl | rfl | rfl <;> omega
  refine sm_congr (fun t _ _ => cif_congr ?_)
  obtain ⟨s, hs⟩ : ∃ s : Int, s = S t := ⟨_, rfl⟩
  have hsb := hS t
  rw [← hs] at hsb ⊢
  have kk : ∀ k : Int, 0 ≤ k → k < n → ∀ dx dy q : Int, (dx = -1 ∨ dx = 0 ∨ dx = 1) → (dy = -1 ∨ dy = 0 ∨ dy = 1) → (Kept (Dadd D n x y h) (n + 1) gone k i dx dy q ↔ Kept D n gone k i dx dy q) := by
    intro k k0 k1 dx dy q hx hy
    constructor
    · rintro ⟨z, z0, z1, z2, z3, z4, z5⟩
      by_cases c : z = n
      · exfalso
        rw [c] at z5
        unfold Keeps at z5
        rw [e 0 i hi.1 hi.2, e 1 i hi.1 hi.2, en.1, en.2.1] at z5
        rcases z5 with z5 | ⟨-, p, p0, p1, p2, p3⟩
        · omega
        · exact line dx dy p hx hy p2 p3
      · refine ⟨z, z0, by omega, z2, z3, z4, ?_⟩
        unfold Keeps at z5 ⊢
        rw [e 0 i hi.1 hi.2, e 1 i hi.1 hi.2, e 0 z z0 (by omega), e 1 z z0 (by omega), e 3 z z0 (by omega), e 2 k k0 k1, e 2 z z0 (by omega)] at z5
        exact z5
    · rintro ⟨z, z0, z1, z2, z3, z4, z5⟩
      refine ⟨z, z0, by omega, z2, z3, z4, ?_⟩
      unfold Keeps at z5 ⊢
      rw [e 0 i hi.1 hi.2, e 1 i hi.1 hi.2, e 0 z z0 (by omega), e 1 z z0 (by omega), e 3 z z0 (by omega), e 2 k k0 k1, e 2 z z0 (by omega)]
      exact z5
  have fk : ∀ k : Int, 0 ≤ k → k < n → (Falls (Dadd D n x y h) (n + 1) gone w k i s ↔ Falls D n gone w k i s) := by
    intro k k0 k1
    unfold Falls
    rw [e 0 i hi.1 hi.2, e 1 i hi.1 hi.2, e 0 k k0 k1, e 1 k k0 k1, e 2 k k0 k1]
    constructor
    · rintro ⟨a, q, b⟩
      exact ⟨a, q, by rw [← kk k k0 k1 (s / 10 % 3 - 1) (s / 30 - 1) q (by omega) (by omega)]; exact b⟩
    · rintro ⟨a, q, b⟩
      exact ⟨a, q, by rw [kk k k0 k1 (s / 10 % 3 - 1) (s / 30 - 1) q (by omega) (by omega)]; exact b⟩
  constructor
  · rintro ⟨k, k0, k1, k2, k3⟩
    by_cases c : k = n
    · exfalso
      rw [c] at k3
      obtain ⟨a, q, -, -, b1, b2, -⟩ := k3
      rw [e 0 i hi.1 hi.2, en.1] at b1
      rw [e 1 i hi.1 hi.2, en.2.1] at b2
      exact line (s / 10 % 3 - 1) (s / 30 - 1) q (by omega) (by omega) (by omega) (by omega)
    · exact ⟨k, k0, by omega, k2, (fk k k0 (by omega)).mp k3⟩
  · rintro ⟨k, k0, k1, k2, k3⟩
    exact ⟨k, k0, by omega, k2, (fk k k0 k1).mpr k3⟩
/-- the first k of a row of ways: how many are good, and the first good one's name -/
def WhS (C : Int → Prop) (k cnt fst : Int) : Prop := cnt = sm (fun q => cif (C q) 1 0) k.toNat ∧ ((fst = -1 ∧ ∀ q : Int, 0 ≤ q → q < k → ¬ C q) ∨ (∃ q : Int, 0 ≤ q ∧ q < k ∧ C q ∧ (∀ p : Int, 0 ≤ p → p < q → ¬ C p) ∧ fst = 100 * (q % 60 + 1) + q / 60))
theorem WhS.start (C : Int → Prop) : WhS C 0 0 (-1) := ⟨by show 0 = sm _ 0; rw [sm_0], Or.inl ⟨rfl, fun q a b => by omega⟩⟩
theorem WhS.bd {C : Int → Prop} {k cnt fst : Int} (k0 : 0 ≤ k) (h : WhS C k cnt fst) : (0 ≤ cnt ∧ cnt ≤ k) ∧ (-1 ≤ fst ∧ fst ≤ 6000 + k) := by
  obtain ⟨h1, h2⟩ := h
  have := sm_bd (f := fun q => cif (C q) 1 0) (lo := 0) (hi := 1) (n := k.toNat) (fun t _ _ => cif_bd (by omega) (by omega))
  rw [← h1] at this
  refine ⟨by omega, ?_⟩
  rcases h2 with h2 | ⟨q, a, b, -, -, e⟩ <;> omega
theorem WhS.skip {C : Int → Prop} {k l cnt fst : Int} (k0 : 0 ≤ k) (hl : k ≤ l) (h : WhS C k cnt fst) (hn : ∀ q : Int, k ≤ q → q < l → ¬ C q) : WhS C l cnt fst := by
  obtain ⟨h1, h2⟩ := h
  refine ⟨?_, ?_⟩
  · rw [sm_const k0 hl (c := 0) (fun t a b => cif_neg (hn t a b)), ← h1]; omega
  · rcases h2 with ⟨a, b⟩ | ⟨q, a, b, c, e, f⟩
    · refine Or.inl ⟨a, fun q q0 q1 => ?_⟩
      by_cases c : q < k
      · exact b q q0 c
      · exact hn q (by omega) q1
    · exact Or.inr ⟨q, a, by omega, c, e, f⟩
theorem WhS.take {C : Int → Prop} {k cnt fst : Int} (k0 : 0 ≤ k) (h : WhS C k cnt fst) (hc : C k) : WhS C (k + 1) (cnt + 1) (if fst = -1 then 100 * (k % 60 + 1) + k / 60 else fst) := by
  obtain ⟨h1, h2⟩ := h
  refine ⟨?_, ?_⟩
  · rw [sm_toNat _ k0, ← h1, cif_pos hc]
  · rcases h2 with ⟨a, b⟩ | ⟨q, a, b, c, e, f⟩
    · rw [if_pos a]; exact Or.inr ⟨k, k0, by omega, hc, b, rfl⟩
    · rw [if_neg (by omega)]; exact Or.inr ⟨q, a, by omega, c, e, f⟩
theorem WhS.uniq {C : Int → Prop} {k c1 f1 c2 f2 : Int} (h : WhS C k c1 f1) (g : WhS C k c2 f2) : c1 = c2 ∧ f1 = f2 := by
  obtain ⟨h1, h2⟩ := h
  obtain ⟨g1, g2⟩ := g
  refine ⟨by rw [h1, g1], ?_⟩
  rcases h2 with ⟨a, b⟩ | ⟨q, a, b, c, e, f⟩ <;> rcases g2 with ⟨a1, b1⟩ | ⟨q1, a1, b1, c1, e1, f1⟩
  · omega
  · exact absurd c1 (b q1 a1 b1)
  · exact absurd c (b1 q a b)
  · have : q = q1 := by
      by_cases z : q < q1
      · exact absurd c (e1 q a z)
      · by_cases z2 : q1 < q
        · exact absurd c1 (e q1 a1 z2)
        · omega
    rw [f, f1, this]
theorem WhS.congr {C C1 : Int → Prop} {k cnt fst : Int} (e : ∀ q : Int, C q ↔ C1 q) (h : WhS C k cnt fst) : WhS C1 k cnt fst := by
  have : C = C1 := funext (fun q => propext (e q))
  rw [← this]; exact h
/-- way q: cell q / 60, height q % 60 + 1 -/
def WhC (D : Nat → Int → Int) (co : Int → Int) (n gone w W H : Int) (S : Int → Int) (q : Int) : Prop := PoleC D n W H (q / 60) ∧ Expl D co n gone w S (q / 60 % 10) (q / 60 / 10) (q % 60 + 1)
theorem WhC_congr {D D1 : Nat → Int → Int} {co co1 : Int → Int} {n gone w W H : Int} {S : Int → Int} (hn : 0 ≤ n) (hD : Deq n D D1) (hc : ∀ i : Int, 0 ≤ i → i < n → co1 i = co i) (q : Int) : WhC D1 co1 n gone w W H S q ↔ WhC D co n gone w W H S q := by
  unfold WhC PoleC
  rw [Expl_congr hn hD hc]
  have e : (∀ k : Int, ¬ At D1 n (q / 60 % 10) (q / 60 / 10) k) ↔ (∀ k : Int, ¬ At D n (q / 60 % 10) (q / 60 / 10) k) := ⟨fun h k a => h k (hD.at.mpr a), fun h k a => h k (hD.at.mp a)⟩
  rw [e]
section
variable {sc : Nat × (Nat → Int32)} {d : Nat} {σ : aH} {u : Nat} {n : Int} {S : Int → Int}
theorem s_chill {j : Int} (hC : Cm σ u n S) (hj : 0 ≤ j ∧ j < n) : TI sc (d + 4) mX6_chillOf [.ref 27, .int (nZ j)] σ (fun r σ1 => Fr (fun a _ => a = 37) σ σ1 ∧ r = ChD (Dc (rI σ) u) n (rI σ (u + 1) 9) (1 + rI σ u 9) S j) := s_chillOf hC.1 hC.2.1 hC.2.2.1 hC.2.2.2 hj
theorem s_isAsTold {gone w x y h : Int} {D : Nat → Int → Int} {co : Int → Int} (h0 : 0 ≤ n) (hC : Cm σ u (n + 1) S) (hD : Dc (rI σ) u = Dadd D n x y h) (hco : ∀ i : Int, 0 ≤ i → i < n → D 7 i = co i ∧ inR (co i)) (hch : ∀ i : Int, 0 ≤ i → i < n → rI σ 58 i = ChD D n gone w S i) (hg : rI σ (u + 1) 9 = gone) (hw : 1 + rI σ u 9 = w) : TI sc (d + 5) mX4_isAsTold [.ref 26, .int (nZ n)] σ (fun r σ1 => Fr (fun a _ => a = 37) σ σ1 ∧ ((r = 1 ∧ Expl D co n gone w S x y h) ∨ (r = 0 ∧ ¬ Expl D co n gone w S x y h))) := by
  have hm := hC.mk
  have hn9 := hC.n9
  have hSt := hC.2.1.2.2.1
  apply T.int
  apply t_X4_isAsTold hC.1 (by omega)
  refine ⟨σ, s_stalls hC.1, hC.1, ?_⟩
  obtain ⟨P, hP⟩ : ∃ P : aO → aH → Prop, P = QI (fun r σ1 => Fr (fun a _ => a = 37) σ σ1 ∧ ((r = 1 ∧ Expl D co n gone w S x y h) ∨ (r = 0 ∧ ¬ Expl D co n gone w S x y h))) := ⟨_, rfl⟩
  rw [← hP]
  have nr : ∀ (τ : aH) (a : Nat) (i : Int), Fr (fun a _ => a = 37) σ τ → a ≠ 37 → 0 ≤ i → rI τ a i = rI σ a i := fun τ a i hF ha i0 => hF.rw i0 ha
  have c7 : ∀ i : Int, 0 ≤ i → i < n → rI σ (u + 9) i = co i := by
    intro i i0 i1
    have := congrFun (congrFun hD 7) i
    rw [Dadd_ne (by omega), (hco i i0 i1).1] at this
    exact this
  have en := Dadd_n (D := D) (n := n) (x := x) (y := y) (h := h) (i := n) rfl
  have x0 : rI σ (u + 2) n = x := by have := congrFun (congrFun hD 0) n; rw [en.1] at this; exact this
  have y0 : rI σ (u + 3) n = y := by have := congrFun (congrFun hD 1) n; rw [en.2.1] at this; exact this
  have loop : ∀ (g : Nat) (k : Int) (τ : aH), (n - k).toNat = g → 0 ≤ k → k ≤ n → Fr (fun a _ => a = 37) σ τ → (∀ i : Int, 0 ≤ i → i < k → co i ≠ -1 → ChD (Dadd D n x y h) (n + 1) gone w S i - ChD D n gone w S i = co i) → L_X4_isAsTold_10 (Ev sc (d + 4)) sc P u n k τ := by
    intro g
    induction g with
    | zero =>
      intro k τ hgk k0 k1 hF hq
      apply v_X4_isAsTold_10 (hF.g hC.1) (by omega) (by omega)
      refine ⟨fun _ => ?_, fun q => by omega⟩
      rw [hP]; exact ⟨1, rfl, by decide, hF, Or.inl ⟨rfl, fun i i0 i1 => hq i i0 (by omega)⟩⟩
    | succ g ih =>
      intro k τ hgk k0 k1 hF hq
      have c9 : rI τ (u + 9) k = co k := (nr τ (u + 9) k hF (by omega) k0).trans (c7 k k0 (by omega))
      have hrc := (hco k k0 (by omega)).2
      have hDt : Dc (rI τ) u = Dc (rI σ) u := Dc_congr (fun a p q => hF.row (fun i => by show ¬ (a = 37); omega))
      have hCt : Cm τ u (n + 1) S := hC.fr hF (by show ¬ (u + 1 = 37); omega) (by show ¬ (u = 37); omega) (fun i => by show ¬ (32 = 37); omega) (fun i => by show ¬ (33 = 37); omega) (by rw [hDt]; exact hSt)
      have nx : ∀ τ1 : aH, Fr (fun a _ => a = 37) σ τ1 → (co k ≠ -1 → ChD (Dadd D n x y h) (n + 1) gone w S k - ChD D n gone w S k = co k) → L_X4_isAsTold_10 (Ev sc (d + 4)) sc P u n (k + 1) τ1 := by
        intro τ1 hF1 hk
        refine ih (k + 1) τ1 (by omega) (by omega) (by omega) hF1 (fun i i0 i1 i2 => ?_)
        by_cases c : i = k
        · rw [c] at i2 ⊢; exact hk i2
        · exact hq i i0 (by omega) i2
      have no : ∀ τ1 : aH, Fr (fun a _ => a = 37) σ τ1 → co k ≠ -1 → ChD (Dadd D n x y h) (n + 1) gone w S k - ChD D n gone w S k ≠ co k → P (.inl (some (.int (nZ 0)))) τ1 := by
        intro τ1 hF1 hk hk2
        rw [hP]; exact ⟨0, rfl, by decide, hF1, Or.inr ⟨rfl, fun e => hk2 (e k k0 (by omega) hk)⟩⟩
      have dk : ∀ f : Nat, Dadd D n x y h f k = D f k := fun f => Dadd_ne (by omega)
      have xk : rI τ (u + 2) k = D 0 k := by
        have := congrFun (congrFun (hDt.trans hD) 0) k
        rw [dk] at this; exact this
      have yk : rI τ (u + 3) k = D 1 k := by
        have := congrFun (congrFun (hDt.trans hD) 1) k
        rw [dk] at this; exact this
      apply v_X4_isAsTold_10 (hF.g hC.1) (by omega) (by omega)
      refine ⟨fun q => by omega, fun _ => ⟨by omega, fun c => ⟨by omega, nx τ hF (fun q => by omega)⟩, fun c => ?_⟩⟩
      obtain ⟨r6, σ2, he2, hr2, e2, h2⟩ := s_isInLine (sc := sc) (d := d + 3) (i := n) (j := k) (hF.g hC.1) hCt.2.1.2.2.1 ⟨h0, by omega⟩ ⟨k0, by omega⟩
      subst e2
      rw [xk, yk, nr σ2 (u + 2) n hF (by omega) h0, nr σ2 (u + 3) n hF (by omega) h0, x0, y0] at h2
      refine ⟨r6, σ2, he2, hF.g hC.1, hr2, fun c1 => ?_, fun c1 => ?_⟩
      · have h3 : ChD (Dadd D n x y h) (n + 1) gone w S k = ChD D n gone w S k := by
          rcases h2 with h2 | ⟨-, a, b, e, f⟩
          · omega
          · exact ch_noline h0 ⟨k0, by omega⟩ hC.2.2.2 a b e f
        exact ⟨by omega, fun c2 => ⟨by omega, nx σ2 hF (fun _ => by omega)⟩, fun c2 => no σ2 hF (by omega) (by omega)⟩
      · obtain ⟨r12, σ8, he8, hr8, hF8, h8⟩ := s_chill (sc := sc) (d := d) (j := k) hCt ⟨k0, by omega⟩
        have hF8' := hF.trans hF8
        rw [hDt, hD, nr σ2 (u + 1) 9 hF (by omega) (by omega), nr σ2 u 9 hF (by omega) (by omega), hg, hw] at h8
        have e58 : rI σ8 58 k = ChD D n gone w S k := (nr σ8 58 k hF8' (by omega) k0).trans (hch k k0 (by omega))
        have b1 := ChD_bd (D := Dadd D n x y h) (n := n + 1) (gone := gone) (w := w) (S := S) (j := k)
        have b2 := ChD_bd (D := D) (n := n) (gone := gone) (w := w) (S := S) (j := k)
        have c9' : rI σ8 (u + 9) k = co k := (nr σ8 (u + 9) k hF8' (by omega) k0).trans (c7 k k0 (by omega))
        refine ⟨r12, σ8, he8, hF8'.g hC.1, hr8, by omega, by omega, fun z ez => ⟨by omega, fun c2 => ⟨by omega, nx σ8 hF8' (fun _ => by omega)⟩, fun c2 => no σ8 hF8' (by omega) (by omega)⟩⟩
  exact loop _ 0 σ rfl (by omega) h0 (Fr.refl _ _) (fun i a b => by omega)
/-- what the search for what stood there changes -/
abbrev AE (u : Nat) (n : Int) : Nat → Int → Prop := fun a i => AA u n a i ∨ (a = 26 ∧ (i = 10 ∨ i = 11)) ∨ a = 37 ∨ a = 58
theorem s_explainBy {gone w W H x y : Int} {D : Nat → Int → Int} {co : Int → Int} {τ0 : aH} (h8 : 0 ≤ n ∧ n ≤ 8) (hC : Cm τ0 u n S) (hF0 : Fr (AE u n) τ0 σ) (hn : rI σ (u + 1) 8 = n) (hSt : StB D n) (hD : DnEx n D (Dc (rI σ) u)) (hco : ∀ i : Int, 0 ≤ i → i < n → D 7 i = co i ∧ inR (co i)) (hch : ∀ i : Int, 0 ≤ i → i < n → rI σ 58 i = ChD D n gone w S i) (hg : rI τ0 (u + 1) 9 = gone) (hw : 1 + rI τ0 u 9 = w) (hx : 0 ≤ x ∧ x < W) (hy : 0 ≤ y ∧ y < H) (hW : W ≤ 9) (hH : H ≤ 9) (hfree : PoleC D n W H (x + 10 * y)) (hS : WhS (WhC D co n gone w W H S) (60 * (x + 10 * y)) (rI σ 26 10) (rI σ 26 11)) : TV sc (d + 6) mX4_explainBy [.ref 26, .int (nZ x), .int (nZ y)] σ (fun σ1 => Fr (AE u n) τ0 σ1 ∧ rI σ1 (u + 1) 8 = n ∧ DnEx n D (Dc (rI σ1) u) ∧ (∀ i : Int, 0 ≤ i → i < n → rI σ1 58 i = ChD D n gone w S i) ∧ WhS (WhC D co n gone w W H S) (60 * (x + 10 * y) + 60) (rI σ1 26 10) (rI σ1 26 11)) := by
  have hm := hC.mk
  apply T.void
  apply t_X4_explainBy (hF0.g hC.1) (by omega) (by omega)
  refine ⟨σ, s_stalls (hF0.g hC.1), hF0.g hC.1, ?_⟩
  obtain ⟨P, hP⟩ : ∃ P : aO → aH → Prop, P = QV (fun σ1 => Fr (AE u n) τ0 σ1 ∧ rI σ1 (u + 1) 8 = n ∧ DnEx n D (Dc (rI σ1) u) ∧ (∀ i : Int, 0 ≤ i → i < n → rI σ1 58 i = ChD D n gone w S i) ∧ WhS (WhC D co n gone w W H S) (60 * (x + 10 * y) + 60) (rI σ1 26 10) (rI σ1 26 11)) := ⟨_, rfl⟩
  rw [← hP]
  have nA : ∀ (a : Nat) (i : Int), (a = u ∨ (a = u + 1 ∧ i = 9) ∨ a = 32 ∨ a = 33) → ¬ AE u n a i := fun a i q => by show ¬ ((((u + 2 ≤ a ∧ a ≤ u + 9) ∧ i = n) ∨ (a = u + 1 ∧ i = 8)) ∨ (a = 26 ∧ (i = 10 ∨ i = 11)) ∨ a = 37 ∨ a = 58); omega
  have loop : ∀ (g : Nat) (k : Int) (τ : aH), (61 - k).toNat = g → 1 ≤ k → k ≤ 61 → Fr (AE u n) τ0 τ → rI τ (u + 1) 8 = n → DnEx n D (Dc (rI τ) u) → (∀ i : Int, 0 ≤ i → i < n → rI τ 58 i = ChD D n gone w S i) → WhS (WhC D co n gone w W H S) (60 * (x + 10 * y) + (k - 1)) (rI τ 26 10) (rI τ 26 11) → L_X4_explainBy_8 (Ev sc (d + 5)) sc P u x y k τ := by
    intro g
    induction g with
    | zero =>
      intro k τ hgk k0 k1 hF hnt hDt hcht hWt
      apply v_X4_explainBy_8 (hF.g hC.1) (by omega) (by omega) (by omega)
      refine ⟨fun _ => ?_, fun q => by omega⟩
      rw [hP]
      have e : 60 * (x + 10 * y) + (k - 1) = 60 * (x + 10 * y) + 60 := by omega
      rw [e] at hWt
      exact ⟨rfl, hF, hnt, hDt, hcht, hWt⟩
    | succ g ih =>
      intro k τ hgk k0 k1 hF hnt hDt hcht hWt
      have hbd := hWt.bd (by omega)
      apply v_X4_explainBy_8 (hF.g hC.1) (by omega) (by omega) (by omega)
      refine ⟨fun q => by omega, fun _ => ?_⟩
      obtain ⟨σ1, he1, hF1, hn1, hD1⟩ := s_add (sc := sc) (d := d + 4) (v := u) (x := x) (y := y) (h := k) (hF.g hC.1) hC.1.2.2.2.2 hnt (by omega) (by omega) (by omega) (by omega)
      rw [hDt.add] at hD1
      have hF1' : Fr (AE u n) τ0 σ1 := hF.trans (hF1.weak (fun a i q => Or.inl q))
      have hB1 : StB (Dc (rI σ1) u) (n + 1) := by rw [hD1]; exact hSt.add h8.1 (by omega) (by omega) (by omega) (by omega)
      have g1 : rI σ1 (u + 1) 9 = gone := (hF1'.rw (by omega) (nA _ _ (by omega))).trans hg
      have w1' : rI σ1 u 9 = rI τ0 u 9 := hF1'.rw (by omega) (nA _ _ (by omega))
      have w1 : 1 + rI σ1 u 9 = w := by rw [w1']; exact hw
      have hC1 : Cm σ1 u (n + 1) S := by
        refine ⟨hF1'.g hC.1, ⟨hn1, by omega, hB1, ?_⟩, hC.2.2.1.fr hF1' (fun a i q => nA _ _ (by omega)), hC.2.2.2⟩
        rw [w1']; exact hC.2.1.2.2.2
      have hch1 : ∀ i : Int, 0 ≤ i → i < n → rI σ1 58 i = ChD D n gone w S i := fun i a b => (hF1.rw a (by show ¬ (((u + 2 ≤ 58 ∧ 58 ≤ u + 9) ∧ i = n) ∨ (58 = u + 1 ∧ i = 8)); omega)).trans (hcht i a b)
      have e10 : rI σ1 26 10 = rI τ 26 10 ∧ rI σ1 26 11 = rI τ 26 11 := ⟨hF1.rw (by omega) (by show ¬ (((u + 2 ≤ 26 ∧ 26 ≤ u + 9) ∧ _) ∨ (26 = u + 1 ∧ _)); omega), hF1.rw (by omega) (by show ¬ (((u + 2 ≤ 26 ∧ 26 ≤ u + 9) ∧ _) ∨ (26 = u + 1 ∧ _)); omega)⟩
      obtain ⟨r10, σ6, he6, hr6, hF6, hx6⟩ := s_isAsTold (sc := sc) (d := d) (co := co) h8.1 hC1 hD1 hco hch1 g1 w1
      have hF6' : Fr (AE u n) τ0 σ6 := hF1'.trans (hF6.weak (fun a i q => Or.inr (Or.inr (Or.inl q))))
      have n6 : rI σ6 (u + 1) 8 = n + 1 := (hF6.rw (by omega) (by show ¬ (u + 1 = 37); omega)).trans hn1
      have D6 : Dc (rI σ6) u = Dadd D n x y k := (Dc_congr (fun a p q => hF6.row (fun i => by show ¬ (a = 37); omega))).trans hD1
      have em : n + 1 - 1 = n := by omega
      refine ⟨σ1, he1, hF1'.g hC.1, ?_⟩
      rw [hn1, em]
      refine ⟨by omega, r10, σ6, he6, hF6'.g hC.1, hr6, ?_⟩
      rw [n6, em]
      refine ⟨by omega, fun σ12 e12 => ?_⟩
      have hF12 : Fr (AE u n) τ0 σ12 := by rw [← e12]; exact hF6'.trans (Fr.w (by omega) (Or.inl (Or.inr ⟨rfl, rfl⟩)))
      have n12 : rI σ12 (u + 1) 8 = n := by rw [← e12]; exact rI_ww (by omega)
      have D12 : DnEx n D (Dc (rI σ12) u) := by rw [← e12, Dc_o (by omega), D6]; exact DnEx.of
      have ch12 : ∀ i : Int, 0 ≤ i → i < n → rI σ12 58 i = ChD D n gone w S i := fun i a b => by
        rw [← e12, rI_wa (by omega), hF6.rw a (by show ¬ (58 = 37); omega)]; exact hch1 i a b
      have a10 : rI σ12 26 10 = rI τ 26 10 := by rw [← e12, rI_wa (by omega), hF6.rw (by omega) (by show ¬ (26 = 37); omega)]; exact e10.1
      have a11 : rI σ12 26 11 = rI τ 26 11 := by rw [← e12, rI_wa (by omega), hF6.rw (by omega) (by show ¬ (26 = 37); omega)]; exact e10.2
      obtain ⟨q, hq⟩ : ∃ q : Int, q = 60 * (x + 10 * y) + (k - 1) := ⟨_, rfl⟩
      have q1 : q / 60 = x + 10 * y := by omega
      have q2 : q % 60 + 1 = k := by omega
      have q3 : q / 60 % 10 = x := by omega
      have q4 : q / 60 / 10 = y := by omega
      have hWq : WhC D co n gone w W H S q ↔ Expl D co n gone w S x y k := by
        unfold WhC; rw [q1, q2]
        have q3' : (x + 10 * y) % 10 = x := by omega
        have q4' : (x + 10 * y) / 10 = y := by omega
        rw [q3', q4']
        exact ⟨fun a => a.2, fun a => ⟨hfree, a⟩⟩
      have ek : 60 * (x + 10 * y) + (k + 1 - 1) = q + 1 := by omega
      rw [← hq] at hWt hbd
      have nx : ∀ τ1 : aH, Fr (AE u n) τ0 τ1 → rI τ1 (u + 1) 8 = n → DnEx n D (Dc (rI τ1) u) → (∀ i : Int, 0 ≤ i → i < n → rI τ1 58 i = ChD D n gone w S i) → WhS (WhC D co n gone w W H S) (q + 1) (rI τ1 26 10) (rI τ1 26 11) → L_X4_explainBy_8 (Ev sc (d + 5)) sc P u x y (k + 1) τ1 := fun τ1 a b c e f => ih (k + 1) τ1 (by omega) (by omega) (by omega) a b c e (by rw [ek]; exact f)
      refine ⟨fun c => ?_, fun c => ⟨by omega, fun σ16 e16 => ?_⟩⟩
      · apply v_X4_explainBy_60 (hF12.g hC.1) (by omega) (by omega) (by omega) hr6
        refine ⟨fun _ => ⟨by omega, nx σ12 hF12 n12 D12 ch12 ?_⟩, fun c2 => absurd c c2⟩
        rw [a10, a11]
        refine hWt.skip (by omega) (by omega) (fun p p0 p1 => ?_)
        have : p = q := by omega
        rw [this, hWq]
        rcases hx6 with ⟨z1, z2⟩ | ⟨z1, z2⟩
        · omega
        · exact z2
      · have good : WhC D co n gone w W H S q := by
          rw [hWq]
          rcases hx6 with ⟨z1, z2⟩ | ⟨z1, z2⟩
          · exact z2
          · omega
        have tk := hWt.take (by omega) good
        rw [q2, q1] at tk
        have hF16 : Fr (AE u n) τ0 σ16 := by rw [← e16]; exact hF12.trans (Fr.w (by omega) (Or.inr (Or.inl ⟨rfl, Or.inl rfl⟩)))
        have n16 : rI σ16 (u + 1) 8 = n := by rw [← e16, rI_wa (by omega)]; exact n12
        have D16 : DnEx n D (Dc (rI σ16) u) := by rw [← e16, Dc_o (by omega)]; exact D12
        have ch16 : ∀ i : Int, 0 ≤ i → i < n → rI σ16 58 i = ChD D n gone w S i := fun i a b => by
          rw [← e16, rI_wa (by omega)]; exact ch12 i a b
        have b10 : rI σ16 26 10 = rI τ 26 10 + 1 := by rw [← e16, rI_ww (by omega), a10]
        have b11 : rI σ16 26 11 = rI τ 26 11 := by rw [← e16, rI_wi (by decide)]; exact a11
        apply v_X4_explainBy_60 (hF16.g hC.1) (by omega) (by omega) (by omega) hr6
        refine ⟨fun c2 => absurd c2 c, fun _ => ⟨fun c2 => ⟨by omega, nx σ16 hF16 n16 D16 ch16 ?_⟩, fun c2 => ⟨by omega, by omega, by omega, by omega, fun σ7 e7 => ⟨by omega, ?_⟩⟩⟩⟩
        · rw [if_neg (by omega)] at tk
          rw [b10, b11]; exact tk
        · rw [if_pos (by omega)] at tk
          refine nx σ7 (by rw [← e7]; exact hF16.trans (Fr.w (by omega) (Or.inr (Or.inl ⟨rfl, Or.inr rfl⟩)))) (by rw [← e7, rI_wa (by omega)]; exact n16) (by rw [← e7, Dc_o (by omega)]; exact D16) (fun i a b => by rw [← e7, rI_wa (by omega)]; exact ch16 i a b) ?_
          rw [← e7, rI_wi (by decide), rI_ww (by omega), b10]
          have e : 100 * k + x + 10 * y = 100 * k + (x + 10 * y) := by omega
          rw [e]; exact tk
  refine loop _ 1 σ rfl (by omega) (by omega) hF0 hn hD hch ?_
  have e : 60 * (x + 10 * y) + (1 - 1) = 60 * (x + 10 * y) := by omega
  rw [e]; exact hS
theorem s_explain {W H : Int} {co : Int → Int} (hC : Cm σ u n S) (h8 : n ≤ 8) (hW : rI σ u 3 = W) (hW9 : 0 ≤ W ∧ W ≤ 9) (hH : rI σ u 4 = H) (hH9 : 0 ≤ H ∧ H ≤ 9) (hco : ∀ i : Int, 0 ≤ i → i < n → rI σ (u + 9) i = co i) : TV sc (d + 7) mX4_explain [.ref 26] σ (fun σ1 => Fr (AE u n) σ σ1 ∧ rI σ1 (u + 1) 8 = n ∧ DnEx n (Dc (rI σ) u) (Dc (rI σ1) u) ∧ WhS (WhC (Dc (rI σ) u) co n (rI σ (u + 1) 9) (1 + rI σ u 9) W H S) 5400 (rI σ1 26 10) (rI σ1 26 11)) := by
  have hm := hC.mk
  have hn9 := hC.n9
  have hSt := hC.2.1.2.2.1
  apply T.void
  apply t_X4_explain hC.1
  obtain ⟨D, hD⟩ : ∃ D : Nat → Int → Int, D = Dc (rI σ) u := ⟨_, rfl⟩
  obtain ⟨gone, hg⟩ : ∃ gone : Int, rI σ (u + 1) 9 = gone := ⟨_, rfl⟩
  obtain ⟨w, hw⟩ : ∃ w : Int, 1 + rI σ u 9 = w := ⟨_, rfl⟩
  have hco' : ∀ i : Int, 0 ≤ i → i < n → D 7 i = co i ∧ inR (co i) := fun i a b => by
    have e : D 7 i = rI σ (u + 9) i := by rw [hD]; rfl
    rw [e, ← hco i a b]; exact ⟨rfl, rI_R _ _ _⟩
  rw [← hD] at hSt
  rw [← hD, hg, hw]
  obtain ⟨P, hP⟩ : ∃ P : aO → aH → Prop, P = QV (fun σ1 => Fr (AE u n) σ σ1 ∧ rI σ1 (u + 1) 8 = n ∧ DnEx n D (Dc (rI σ1) u) ∧ WhS (WhC D co n gone w W H S) 5400 (rI σ1 26 10) (rI σ1 26 11)) := ⟨_, rfl⟩
  rw [← hP]
  have nA : ∀ (a : Nat) (i : Int), (a = u ∨ (a = u + 1 ∧ i = 9) ∨ a = 32 ∨ a = 33) → ¬ AE u n a i := fun a i q => by show ¬ ((((u + 2 ≤ a ∧ a ≤ u + 9) ∧ i = n) ∨ (a = u + 1 ∧ i = 8)) ∨ (a = 26 ∧ (i = 10 ∨ i = 11)) ∨ a = 37 ∨ a = 58); omega
  refine ⟨σ, s_stalls hC.1, hC.1, fun σ5 e5 σ8 e8 => ?_⟩
  have hwh : ∀ τ : aH, Fr (AE u n) σ τ → rI τ u 3 = W ∧ rI τ u 4 = H := fun τ hF => ⟨(hF.rw (by omega) (nA _ _ (by omega))).trans hW, (hF.rw (by omega) (nA _ _ (by omega))).trans hH⟩
  have rows : ∀ (g : Nat) (row : Int) (τ : aH), (H - row).toNat = g → 0 ≤ row → row ≤ H → Fr (AE u n) σ τ → rI τ (u + 1) 8 = n → DnEx n D (Dc (rI τ) u) → (∀ i : Int, 0 ≤ i → i < n → rI τ 58 i = ChD D n gone w S i) → WhS (WhC D co n gone w W H S) (600 * row) (rI τ 26 10) (rI τ 26 11) → L_X4_explain_55 (Ev sc (d + 6)) sc P u row τ := by
    intro g
    induction g with
    | zero =>
      intro row τ hgk r0 r1 hF hnt hDt hcht hWt
      have hs := hwh τ hF
      apply v_X4_explain_55 (hF.g hC.1) (by omega)
      refine ⟨fun _ => ?_, fun q => by omega⟩
      rw [hP]
      refine ⟨rfl, hF, hnt, hDt, hWt.skip (by omega) (by omega) (fun q q0 q1 z => ?_)⟩
      obtain ⟨⟨z1, z2, z3, -⟩, -⟩ := z
      omega
    | succ g ih =>
      intro row τ hgk r0 r1 hF hnt hDt hcht hWt
      have cols : ∀ (f : Nat) (col : Int) (τ1 : aH), (W - col).toNat = f → 0 ≤ col → col ≤ W → Fr (AE u n) σ τ1 → rI τ1 (u + 1) 8 = n → DnEx n D (Dc (rI τ1) u) → (∀ i : Int, 0 ≤ i → i < n → rI τ1 58 i = ChD D n gone w S i) → WhS (WhC D co n gone w W H S) (60 * (col + 10 * row)) (rI τ1 26 10) (rI τ1 26 11) → L_X4_explain_66 (Ev sc (d + 6)) sc P u row col τ1 := by
        intro f
        induction f with
        | zero =>
          intro col τ1 hf c0 c1 hF1 hnt1 hDt1 hcht1 hWt1
          have hs := hwh τ1 hF1
          apply v_X4_explain_66 (hF1.g hC.1) (by omega) (by omega)
          refine ⟨fun _ => ⟨by omega, ih (row + 1) τ1 (by omega) (by omega) (by omega) hF1 hnt1 hDt1 hcht1 (hWt1.skip (by omega) (by omega) (fun q q0 q1 z => ?_))⟩, fun q => by omega⟩
          obtain ⟨⟨z1, z2, z3, -⟩, -⟩ := z
          omega
        | succ f ihf =>
          intro col τ1 hf c0 c1 hF1 hnt1 hDt1 hcht1 hWt1
          have hs := hwh τ1 hF1
          have hG := hF1.g hC.1
          apply v_X4_explain_66 hG (by omega) (by omega)
          refine ⟨fun q => by omega, fun _ => ?_⟩
          obtain ⟨r6, σ2, he2, hr2, e2, h2⟩ := s_whoIsAt (sc := sc) (d := d + 5) (v := u) (x := col) (y := row) hG hC.1.2.2.2.2 hnt1 hn9.2 hn9.1 (by omega) (by omega)
          subst e2
          have hAt : ∀ k : Int, At (Dc (rI σ2) u) n col row k ↔ At D n col row k := fun k => (hDt1.deq hn9.1).at
          have ec : (col + 10 * row) % 10 = col := by omega
          have er : (col + 10 * row) / 10 = row := by omega
          refine ⟨r6, σ2, he2, hG, hr2, fun q1 => ⟨by omega, ?_⟩, fun q1 => ?_⟩
          · refine ihf (col + 1) σ2 (by omega) (by omega) (by omega) hF1 hnt1 hDt1 hcht1 (hWt1.skip (by omega) (by omega) (fun q p1 p2 z => ?_))
            obtain ⟨⟨-, -, -, z4⟩, -⟩ := z
            have e : q / 60 = col + 10 * row := by omega
            rw [e, ec, er] at z4
            rcases h2 with h2 | h2
            · exact q1 h2.1
            · exact z4 r6 ((hAt r6).mp h2.1)
          · have hfree : PoleC D n W H (col + 10 * row) := by
              refine ⟨by omega, by omega, by omega, fun k hk => ?_⟩
              rw [ec, er] at hk
              rcases h2 with h2 | h2
              · exact h2.2 k ((hAt k).mpr hk)
              · have := h2.1.1; omega
            obtain ⟨σ8', he8, hF8, hn8, hD8, hch8, hW8⟩ := s_explainBy (sc := sc) (d := d) (x := col) (y := row) (W := W) (H := H) (co := co) ⟨hn9.1, h8⟩ hC hF1 hnt1 hSt hDt1 hco' hcht1 hg hw (by omega) (by omega) hW9.2 hH9.2 hfree hWt1
            refine ⟨σ8', he8, hF8.g hC.1, by omega, ihf (col + 1) σ8' (by omega) (by omega) (by omega) hF8 hn8 hD8 hch8 ?_⟩
            have e : 60 * (col + 1 + 10 * row) = 60 * (col + 10 * row) + 60 := by omega
            rw [e]; exact hW8
      have hs := hwh τ hF
      apply v_X4_explain_55 (hF.g hC.1) (by omega)
      refine ⟨fun q => by omega, fun _ => cols _ 0 τ rfl (by omega) (by omega) hF hnt hDt hcht ?_⟩
      have e : 60 * (0 + 10 * row) = 600 * row := by omega
      rw [e]; exact hWt
  have hF8 : Fr (AE u n) σ σ8 := by
    rw [← e8, ← e5]
    exact (Fr.w (by omega) (Or.inr (Or.inl ⟨rfl, Or.inl rfl⟩))).trans (Fr.w (by omega) (Or.inr (Or.inl ⟨rfl, Or.inr rfl⟩)))
  have a10 : rI σ8 26 10 = 0 := by rw [← e8, rI_wi (by decide), ← e5]; exact rI_ww (by decide)
  have a11 : rI σ8 26 11 = -1 := by rw [← e8]; exact rI_ww (by decide)
  have D8 : Dc (rI σ8) u = D := by rw [← e8, Dc_o (by omega), ← e5, Dc_o (by omega), hD]
  have chl : ∀ (g : Nat) (k : Int) (τ : aH), (n - k).toNat = g → 0 ≤ k → k ≤ n → Fr (AE u n) σ τ → rI τ (u + 1) 8 = n → Dc (rI τ) u = D → rI τ 26 10 = 0 → rI τ 26 11 = -1 → (∀ i : Int, 0 ≤ i → i < k → rI τ 58 i = ChD D n gone w S i) → L_X4_explain_25 (Ev sc (d + 6)) sc P u k τ := by
    intro g
    induction g with
    | zero =>
      intro k τ hgk k0 k1 hF hnt hDt ha hb hcht
      apply v_X4_explain_25 (hF.g hC.1) (by omega)
      refine ⟨fun _ => rows _ 0 τ rfl (by omega) (by omega) hF hnt (by rw [hDt]; exact DnEx.refl _ _) (fun i p q => hcht i p (by omega)) ?_, fun q => by omega⟩
      rw [ha, hb]; exact WhS.start _
    | succ g ih =>
      intro k τ hgk k0 k1 hF hnt hDt ha hb hcht
      have hCt : Cm τ u n S := by
        refine ⟨hF.g hC.1, ⟨hnt, hn9.1, by rw [hDt]; exact hSt, ?_⟩, hC.2.2.1.fr hF (fun a i q => nA _ _ (by omega)), hC.2.2.2⟩
        rw [hF.rw (by omega) (nA _ _ (by omega))]; exact hC.2.1.2.2.2
      obtain ⟨r5, σ1, he1, hr1, hF1, h1⟩ := s_chill (sc := sc) (d := d + 2) (j := k) hCt ⟨k0, by omega⟩
      have gt : rI τ (u + 1) 9 = gone := (hF.rw (by omega) (nA _ _ (by omega))).trans hg
      have wt : 1 + rI τ u 9 = w := by rw [hF.rw (by omega) (nA _ _ (by omega))]; exact hw
      rw [hDt, gt, wt] at h1
      apply v_X4_explain_25 (hF.g hC.1) (by omega)
      have hF1' : Fr (AE u n) σ σ1 := hF.trans (hF1.weak (fun a i q => Or.inr (Or.inr (Or.inl q))))
      refine ⟨fun q => by omega, fun _ => ⟨r5, σ1, he1, hF1'.g hC.1, hr1, by omega, fun σ6 e6 => ⟨by omega, ih (k + 1) σ6 (by omega) (by omega) (by omega) (by rw [← e6]; exact hF1'.trans (Fr.w k0 (Or.inr (Or.inr (Or.inr rfl))))) ?_ ?_ ?_ ?_ (fun i i0 i1 => ?_)⟩⟩⟩
      · rw [← e6, rI_wa (by omega), hF1.rw (by omega) (by show ¬ (u + 1 = 37); omega)]; exact hnt
      · rw [← e6, Dc_o (by omega), ← hDt]; exact Dc_congr (fun a p q => hF1.row (fun i => by show ¬ (a = 37); omega))
      · rw [← e6, rI_wa (by omega), hF1.rw (by omega) (by show ¬ (26 = 37); omega)]; exact ha
      · rw [← e6, rI_wa (by omega), hF1.rw (by omega) (by show ¬ (26 = 37); omega)]; exact hb
      · rw [← e6, rI_w hr1]
        by_cases c : i = k
        · rw [if_pos ⟨rfl, by rw [c]⟩, c]; exact h1
        · rw [if_neg (by omega), hF1.rw i0 (by show ¬ (58 = 37); omega)]; exact hcht i i0 (by omega)
  exact chl _ 0 σ8 rfl (by omega) hn9.1 hF8 (by rw [← e8, rI_wa (by omega), ← e5, rI_wa (by omega)]; exact hC.2.1.1) D8 a10 a11 (fun i a b => by omega)
end
