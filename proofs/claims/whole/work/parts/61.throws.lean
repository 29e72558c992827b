/-! THE REFERENCE: by a sun, who shades whom. -/
def FaM (D : Nat → Int → Int) (n g w : Int) (i j s : Int) : Prop := i ≠ g ∧ j ≠ g ∧ Falls D n g w i j s
/-- the shadow of s has fallen on j within fewer than t steps -/
def Hit (D : Nat → Int → Int) (n g s dx dy : Int) (j t : Int) : Prop := ∃ q : Int, 1 ≤ q ∧ q < t ∧ D 0 j = D 0 s + dx * q ∧ D 1 j = D 1 s + dy * q ∧ j ≠ g ∧ ¬ Kept D n g s j dx dy q
/-- x is the tallest that the shadow of s has met within fewer than t steps -/
def TalS (D : Nat → Int → Int) (n g s dx dy t x : Int) : Prop := x = 0 ∨ ∃ j q : Int, 0 ≤ j ∧ j < n ∧ j ≠ g ∧ 1 ≤ q ∧ q < t ∧ D 0 j = D 0 s + dx * q ∧ D 1 j = D 1 s + dy * q ∧ D 2 j = x
theorem Hit_step {D : Nat → Int → Int} {n g s dx dy j t : Int} (ht : 1 ≤ t) : Hit D n g s dx dy j (t + 1) ↔ Hit D n g s dx dy j t ∨ (D 0 j = D 0 s + dx * t ∧ D 1 j = D 1 s + dy * t ∧ j ≠ g ∧ ¬ Kept D n g s j dx dy t) := by
  constructor
  · rintro ⟨q, a, b, c, e, f, h⟩
    by_cases z : q = t
    · rw [z] at c e h; exact Or.inr ⟨c, e, f, h⟩
    · exact Or.inl ⟨q, a, by omega, c, e, f, h⟩
  · rintro (⟨q, a, b, c, e, f, h⟩ | ⟨c, e, f, h⟩)
    · exact ⟨q, a, by omega, c, e, f, h⟩
    · exact ⟨t, ht, by omega, c, e, f, h⟩
section
variable {sc : Nat × (Nat → Int32)} {d : Nat} {σ : aH} {u : Nat} {n g : Int}
/-- two steps along one way are two cells -/
theorem way_ne {x0 y0 dx dy p q : Int} (hx : dx = -1 ∨ dx = 0 ∨ dx = 1) (hy : dy = -1 ∨ dy = 0 ∨ dy = 1) (hnz : ¬ (dx = 0 ∧ dy = 0)) (e1 : x0 + dx * p = x0 + dx * q) (e2 : y0 + dy * p = y0 + dy * q) : p = q := by
  rcases hx with rfl | rfl | rfl <;> rcases hy with rfl | rfl | rfl <;> omega
theorem way_in {x0 dx t q W : Int} (hx : dx = -1 ∨ dx = 0 ∨ dx = 1) (h0 : 0 ≤ x0 ∧ x0 < W) (hq : 0 ≤ x0 + dx * q ∧ x0 + dx * q < W) (h1 : 1 ≤ t) (h2 : t ≤ q) : 0 ≤ x0 + dx * t ∧ x0 + dx * t < W := by
  rcases hx with rfl | rfl | rfl <;> omega
theorem m_throwsBy {k W H dx dy N : Int} {D : Nat → Int → Int} (hG : G σ u) (hN : MN σ n g) (hDm : D = Dm (rI σ)) (hS : StB D n) (hDst : Dst D n) (hfld : ∀ i : Int, 0 ≤ i → i < n → D 0 i < W ∧ D 1 i < H) (hW : rI σ 80 0 = W) (hH : rI σ 80 1 = H) (hWH : W ≤ 9 ∧ H ≤ 9 ∧ 0 ≤ W ∧ 0 ≤ H) (hw : 0 ≤ rI σ 76 19 ∧ rI σ 76 19 ≤ 1) (hk : 0 ≤ k ∧ k < 20) (h1 : rI σ (122 + k.toNat) 1 = dx) (h2 : rI σ (122 + k.toNat) 2 = dy) (h3 : rI σ (122 + k.toNat) 3 = N) (hx : dx = -1 ∨ dx = 0 ∨ dx = 1) (hy : dy = -1 ∨ dy = 0 ∨ dy = 1) (hNb : 0 ≤ N ∧ N ≤ 9) : TV sc (d + 3) mX10_throwsBy [.ref 76, .int (nZ k)] σ (fun σ1 => Fr (fun a _ => a = 261 + k.toNat) σ σ1 ∧ ∀ j : Int, 0 ≤ j → j < n → rI σ1 (261 + k.toNat) j = bs (fun i => FaM D n g (1 + rI σ 76 19) i j (10 * ((dx + 1) + 3 * (dy + 1)) + N)) n.toNat) := by
  have hn := hN.1
  have h9 := hN.2.1
  obtain ⟨w, hwe⟩ : ∃ w : Int, w = 1 + rI σ 76 19 := ⟨_, rfl⟩
  obtain ⟨slot, hslot⟩ : ∃ slot : Int, slot = 10 * ((dx + 1) + 3 * (dy + 1)) + N := ⟨_, rfl⟩
  rw [← hslot, ← hwe]
  obtain ⟨A, hA⟩ : ∃ A : Nat → Int → Prop, A = fun a _ => a = 261 + k.toNat := ⟨_, rfl⟩
  have nA : ∀ (a : Nat) (i : Int), a ≠ 261 + k.toNat → ¬ A a i := fun a i q => by rw [hA]; exact q
  have yA : ∀ i : Int, A (261 + k.toNat) i := fun i => by rw [hA]
  rw [← hA]
  apply T.void
  apply t_X10_throwsBy hG (by omega)
  obtain ⟨p, hp⟩ : ∃ p : Int → Int → Prop, p = fun j i => FaM D n g w i j slot := ⟨_, rfl⟩
  obtain ⟨P, hP⟩ : ∃ P : aO → aH → Prop, P = QV (fun σ1 => Fr A σ σ1 ∧ ∀ j : Int, 0 ≤ j → j < n → rI σ1 (261 + k.toNat) j = bs (p j) n.toNat) := ⟨_, rfl⟩
  have eP : (QV (fun σ1 => Fr A σ σ1 ∧ ∀ j : Int, 0 ≤ j → j < n → rI σ1 (261 + k.toNat) j = bs (fun i => FaM D n g w i j slot) n.toNat)) = P := by rw [hP, hp]
  rw [eP]
  have s1 : slot / 10 % 3 - 1 = dx := by omega
  have s2 : slot / 30 - 1 = dy := by omega
  have s3 : slot % 10 = N := by omega
  have s0 : 0 ≤ slot := by omega
  -- what stays
  have keep : ∀ τ : aH, Fr A σ τ → G τ u ∧ MN τ n g ∧ Dm (rI τ) = D ∧ rI τ 80 0 = W ∧ rI τ 80 1 = H ∧ rI τ 76 19 = rI σ 76 19 ∧ (∀ i : Int, 0 ≤ i → rI τ (122 + k.toNat) i = rI σ (122 + k.toNat) i) := by
    intro τ hF
    refine ⟨hF.g hG, hN.fr hF (nA _ _ (by omega)) (nA _ _ (by omega)), ?_, (hF.rw (by omega) (nA _ _ (by omega))).trans hW, (hF.rw (by omega) (nA _ _ (by omega))).trans hH, hF.rw (by omega) (nA _ _ (by omega)), fun i i0 => hF.rw i0 (nA _ _ (by omega))⟩
    rw [hDm]; exact Dm_fr hF (fun a i p q => nA a i (by omega))
  have st : ∀ i : Int, 0 ≤ i → i < n → (0 ≤ D 0 i ∧ D 0 i ≤ 8) ∧ (0 ≤ D 1 i ∧ D 1 i ≤ 8) ∧ (0 ≤ D 2 i ∧ D 2 i ≤ 60) ∧ (0 ≤ D 3 i ∧ D 3 i ≤ 3) ∧ (0 ≤ D 6 i ∧ D 6 i ≤ 1) := hS.2
  -- the walk of one shadow
  have shadow : ∀ s : Int, 0 ≤ s → s < n → s ≠ g → ¬ (dx = 0 ∧ dy = 0) → (∀ τ : aH, Fr A σ τ → (∀ j : Int, 0 ≤ j → j < n → rI τ (261 + k.toNat) j = bs (p j) (s + 1).toNat) → L_X10_throwsBy_55 (Ev sc (d + 2)) sc P k dx dy (s + 1) τ) → ∀ (L : Int), L = D 2 s * N * w / 10 → ∀ (f : Nat) (t x7 : Int) (τ : aH), (L + 1 - t).toNat = f → 1 ≤ t → t ≤ L + 1 → Fr A σ τ → (∀ j : Int, 0 ≤ j → j < n → rI τ (261 + k.toNat) j = bs (p j) s.toNat + cif (Hit D n g s dx dy j t) (2 ^ s.toNat) 0) → (0 ≤ x7 ∧ x7 ≤ 60) → (∀ j q : Int, 0 ≤ j → j < n → j ≠ g → 1 ≤ q → q < t → D 0 j = D 0 s + dx * q → D 1 j = D 1 s + dy * q → D 2 j ≤ x7) → TalS D n g s dx dy t x7 → L_X10_throwsBy_114 (Ev sc (d + 2)) sc P k dx dy s (D 0 s + dx * t) (D 1 s + dy * t) x7 (L + 1 - t) τ := by
    intro s hs0 hs1 hsg hnz next L hL
    have ss := st s hs0 hs1
    obtain ⟨ss0, ss1, ss2, ss3, ss4⟩ := ss
    have fs := hfld s hs0 hs1
    have mb1 := mul_bd ss2.1 ss2.2 hNb.1 hNb.2
    have mb2 := mul_bd mb1.1 mb1.2 (show 0 ≤ w by omega) (show w ≤ 2 by omega)
    have hLb : 0 ≤ L ∧ L ≤ 108 := by omega
    have hLq : ∀ q : Int, q ≤ L ↔ 10 * q ≤ D 2 s * w * (slot % 10) := by
      intro q
      rw [s3, Int.mul_right_comm]; omega
    -- what has been hit in the end
    have fin : ∀ (t : Int) (τ : aH), Fr A σ τ → (∀ j : Int, 0 ≤ j → j < n → rI τ (261 + k.toNat) j = bs (p j) s.toNat + cif (Hit D n g s dx dy j t) (2 ^ s.toNat) 0) → t ≤ L + 1 → (t = L + 1 ∨ ∀ j : Int, 0 ≤ j → j < n → ∀ q : Int, t ≤ q → ¬ (D 0 j = D 0 s + dx * q ∧ D 1 j = D 1 s + dy * q)) → L_X10_throwsBy_55 (Ev sc (d + 2)) sc P k dx dy (s + 1) τ := by
      intro t τ hF hrow htL hend
      refine next τ hF (fun j j0 j1 => ?_)
      rw [hrow j j0 j1]
      have e1 : bs (p j) (s + 1).toNat = bs (p j) s.toNat + cif (p j s) (2 ^ s.toNat) 0 := sm_toNat _ hs0
      rw [e1]
      congr 1
      refine cif_congr ?_
      rw [hp]
      show Hit D n g s dx dy j t ↔ FaM D n g w s j slot
      constructor
      · rintro ⟨q, a, b, c, e, f, h⟩
        refine ⟨hsg, f, s0, q, ?_⟩
        rw [s1, s2]
        exact ⟨hnz, a, c, e, (hLq q).mp (by omega), h⟩
      · rintro ⟨-, f, -, q, h⟩
        rw [s1, s2] at h
        obtain ⟨-, a, c, e, b, h⟩ := h
        have hqL := (hLq q).mpr b
        refine ⟨q, a, ?_, c, e, f, h⟩
        rcases hend with z | z
        · omega
        · by_cases z1 : q < t
          · exact z1
          · exact absurd ⟨c, e⟩ (z j j0 j1 q (by omega))
    intro f
    induction f with
    | zero =>
      intro t x7 τ hf t1 t2 hF hrow h7 hta htb
      have et : t = L + 1 := by omega
      obtain ⟨kG, kN, kD, kW, kH, kw, kk⟩ := keep τ hF
      apply v_X10_throwsBy_114 kG (by omega) (by omega) (by omega) (by omega) (by rcases hx with rfl | rfl | rfl <;> omega) (by rcases hy with rfl | rfl | rfl <;> omega) (by omega) (by omega)
      exact ⟨fun _ => ⟨by omega, fin t τ hF hrow t2 (Or.inl et)⟩, fun q => by omega⟩
    | succ f ih =>
      intro t x7 τ hf t1 t2 hF hrow h7 hta htb
      obtain ⟨kG, kN, kD, kW, kH, kw, kk⟩ := keep τ hF
      have rX : inR (D 0 s + dx * t) := by rcases hx with rfl | rfl | rfl <;> omega
      have rY : inR (D 1 s + dy * t) := by rcases hy with rfl | rfl | rfl <;> omega
      have rX1 : inR (D 0 s + dx * t + dx) := by rcases hx with rfl | rfl | rfl <;> omega
      have rY1 : inR (D 1 s + dy * t + dy) := by rcases hy with rfl | rfl | rfl <;> omega
      have eX : D 0 s + dx * t + dx = D 0 s + dx * (t + 1) := by rw [Int.mul_add]; omega
      have eY : D 1 s + dy * t + dy = D 1 s + dy * (t + 1) := by rw [Int.mul_add]; omega
      have out : ¬ ((0 ≤ D 0 s + dx * t ∧ D 0 s + dx * t ≤ W - 1) ∧ (0 ≤ D 1 s + dy * t ∧ D 1 s + dy * t ≤ H - 1)) → L_X10_throwsBy_55 (Ev sc (d + 2)) sc P k dx dy (s + 1) τ := by
        intro z
        refine fin t τ hF hrow t2 (Or.inr (fun j j0 j1 q hq hc => z ?_))
        have fj := hfld j j0 j1
        have sj := st j j0 j1
        have w1 := way_in (x0 := D 0 s) (W := W) hx (by omega) (by rw [← hc.1]; omega) t1 hq
        have w2 := way_in (x0 := D 1 s) (W := H) hy (by omega) (by rw [← hc.2]; omega) t1 hq
        omega
      apply v_X10_throwsBy_114 kG (by omega) (by omega) (by omega) (by omega) rX rY (by omega) (by omega)
      rw [kW]
      refine ⟨fun q => by omega, fun _ => ⟨by omega, ?_⟩⟩
      obtain ⟨r7, σ3, he3, hr3, e3, h3'⟩ := m_in (sc := sc) (d := d + 1) (x := D 0 s + dx * t) (lo := 0) (hi := W - 1) kG rX (by decide) (by omega)
      subst e3
      refine ⟨r7, σ3, he3, kG, hr3, fun z => ⟨by omega, out (fun q => ?_)⟩, fun z => ?_⟩
      · rcases h3' with h3' | h3'
        · omega
        · exact h3'.2 q.1
      rw [kH]
      refine ⟨by omega, ?_⟩
      obtain ⟨r14, σ10, he10, hr10, e10, h10⟩ := m_in (sc := sc) (d := d + 1) (x := D 1 s + dy * t) (lo := 0) (hi := H - 1) kG rY (by decide) (by omega)
      subst e10
      refine ⟨r14, σ10, he10, kG, hr10, fun z1 => ⟨by omega, out (fun q => ?_)⟩, fun z1 => ?_⟩
      · rcases h10 with h10 | h10
        · omega
        · exact h10.2 q.2
      obtain ⟨r20, σ16, he16, hr16, e16, h16⟩ := m_stallOn (sc := sc) (d := d) (x := D 0 s + dx * t) (y := D 1 s + dy * t) kG kN rX rY
      subst e16
      rw [kD] at h16
      refine ⟨r20, σ16, he16, kG, hr16, rX1, fun z22 e22 => ⟨rY1, fun z26 e26 => ?_⟩⟩
      rw [e22, e26, eX, eY]
      have eL : L + 1 - t + -1 = L + 1 - (t + 1) := by omega
      refine ⟨fun z2 => ?_, fun z2 => ⟨by omega, ?_⟩⟩
      rotate_left
      · -- nobody stands there
        have hno : ∀ j : Int, 0 ≤ j → j < n → j ≠ g → ¬ (D 0 j = D 0 s + dx * t ∧ D 1 j = D 1 s + dy * t) := by
          intro j j0 j1 jg hc
          rcases h16 with h16 | h16
          · exact h16.2 j jg ⟨j0, j1, hc.1, hc.2⟩
          · have := h16.1.1.1; omega
        rw [eL]
        refine ih (t + 1) x7 σ16 (by omega) (by omega) (by omega) hF (fun j j0 j1 => ?_) h7 (fun j q j0 j1 jg q0 q1 c1 c2 => ?_) ?_
        · rw [hrow j j0 j1]
          congr 1
          refine cif_congr ?_
          rw [Hit_step t1]
          exact ⟨fun a => Or.inl a, fun a => a.elim id (fun b => absurd ⟨b.1, b.2.1⟩ (hno j j0 j1 b.2.2.1))⟩
        · by_cases c : q = t
          · rw [c] at c1 c2; exact absurd ⟨c1, c2⟩ (hno j j0 j1 jg)
          · exact hta j q j0 j1 jg q0 (by omega) c1 c2
        · rcases htb with a | ⟨j, q, a1, a2, a3, a4, a5, a6⟩
          · exact Or.inl a
          · exact Or.inr ⟨j, q, a1, a2, a3, a4, by omega, a6⟩
      · -- j0 stands there
        obtain ⟨⟨hAt, hjg⟩, -⟩ : (At D n (D 0 s + dx * t) (D 1 s + dy * t) r20 ∧ r20 ≠ g) ∧ _ := by
          rcases h16 with h16 | h16
          · exact absurd h16.1 z2
          · exact h16
        obtain ⟨r0, r1, rc0, rc1⟩ := hAt
        have only : ∀ j : Int, 0 ≤ j → j < n → D 0 j = D 0 s + dx * t → D 1 j = D 1 s + dy * t → j = r20 := fun j j0 j1 c1 c2 => hDst _ _ j r20 ⟨j0, j1, c1, c2⟩ ⟨r0, r1, rc0, rc1⟩
        have hrs : r20 ≠ s := by
          intro z
          rw [z] at rc0 rc1
          have := way_ne (p := 0) (q := t) (x0 := D 0 s) (y0 := D 1 s) hx hy hnz (by rw [Int.mul_zero, Int.add_zero]; exact rc0) (by rw [Int.mul_zero, Int.add_zero]; exact rc1)
          omega
        have nhit : ¬ Hit D n g s dx dy r20 t := by
          rintro ⟨q, a, b, c, e, -, -⟩
          have := way_ne (p := q) (q := t) (x0 := D 0 s) (y0 := D 1 s) hx hy hnz (by rw [← c, rc0]) (by rw [← e, rc1])
          omega
        have sr := st r20 r0 r1
        -- behind it
        have at225 : ∀ τ1 : aH, Fr A σ τ1 → (∀ j : Int, 0 ≤ j → j < n → rI τ1 (261 + k.toNat) j = bs (p j) s.toNat + cif (Hit D n g s dx dy j (t + 1)) (2 ^ s.toNat) 0) → L_X10_throwsBy_225 (Ev sc (d + 2)) sc P k dx dy s (D 0 s + dx * (t + 1)) (D 1 s + dy * (t + 1)) x7 (L + 1 - t) r20 τ1 := by
          intro τ1 hF1 hrow1
          obtain ⟨lG, lN, lD, lW, lH, lw, lk⟩ := keep τ1 hF1
          have e2 : rI τ1 (91 + r20.toNat) 2 = D 2 r20 := by rw [← lD]; exact (Dm_at (by omega)).symm
          apply v_X10_throwsBy_225 lG (by omega) (by omega) (by omega) (by omega) (by rw [← eX]; exact rX1) (by rw [← eY]; exact rY1) (by omega) (by omega) (by omega)
          rw [e2, eL]
          refine ⟨by omega, fun y1 => ⟨by omega, ih (t + 1) x7 τ1 (by omega) (by omega) (by omega) hF1 hrow1 h7 (fun j q j0 j1 jg q0 q1 c1 c2 => ?_) ?_⟩, fun y1 => ⟨by omega, fun z4 e4 => ⟨by omega, ?_⟩⟩⟩
          · by_cases c : q = t
            · rw [c] at c1 c2; rw [only j j0 j1 c1 c2]; exact y1
            · exact hta j q j0 j1 jg q0 (by omega) c1 c2
          · rcases htb with a | ⟨j, q, a1, a2, a3, a4, a5, a6⟩
            · exact Or.inl a
            · exact Or.inr ⟨j, q, a1, a2, a3, a4, by omega, a6⟩
          · rw [e4]
            refine ih (t + 1) (D 2 r20) τ1 (by omega) (by omega) (by omega) hF1 hrow1 (by omega) (fun j q j0 j1 jg q0 q1 c1 c2 => ?_) (Or.inr ⟨r20, t, r0, r1, hjg, t1, by omega, rc0, rc1, rfl⟩)
            by_cases c : q = t
            · rw [c] at c1 c2; rw [only j j0 j1 c1 c2]; exact Int.le_refl _
            · have := hta j q j0 j1 jg q0 (by omega) c1 c2; omega
        have same : Kept D n g s r20 dx dy t → ∀ j : Int, 0 ≤ j → j < n → rI σ16 (261 + k.toNat) j = bs (p j) s.toNat + cif (Hit D n g s dx dy j (t + 1)) (2 ^ s.toNat) 0 := by
          intro hK j j0 j1
          rw [hrow j j0 j1]
          congr 1
          refine cif_congr ?_
          rw [Hit_step t1]
          refine ⟨fun a => Or.inl a, fun a => a.elim id (fun b => absurd ?_ b.2.2.2)⟩
          rw [only j j0 j1 b.1 b.2.1]; exact hK
        have e2s : rI σ16 (91 + s.toNat) 2 = D 2 s := by rw [← kD]; exact (Dm_at (by omega)).symm
        rw [e2s]
        refine ⟨by omega, fun y1 => at225 σ16 hF (same ?_), fun y1 => ?_⟩
        · -- somebody taller stands between
          rcases htb with a | ⟨j, q, a1, a2, a3, a4, a5, a6, a7, a8⟩
          · omega
          · refine ⟨j, a1, a2, ?_, ?_, a3, Or.inr ⟨by omega, t - q, by omega, by omega, ?_, ?_⟩⟩
            · intro z
              rw [z] at a6 a7
              have := way_ne (p := 0) (q := q) (x0 := D 0 s) (y0 := D 1 s) hx hy hnz (by rw [Int.mul_zero, Int.add_zero]; exact a6) (by rw [Int.mul_zero, Int.add_zero]; exact a7)
              omega
            · intro z
              rw [z] at a6 a7
              have := way_ne (p := t) (q := q) (x0 := D 0 s) (y0 := D 1 s) hx hy hnz (by rw [← rc0, a6]) (by rw [← rc1, a7])
              omega
            · rw [rc0, a6, Int.mul_sub]; omega
            · rw [rc1, a7, Int.mul_sub]; omega
        · obtain ⟨r34, σ30, he30, hr30, e30, h30⟩ := m_isCovered (sc := sc) (d := d) (j := r20) (b := s) kG kN (by rw [kD]; exact hS) ⟨r0, r1⟩ (by omega)
          subst e30
          rw [kD] at h30
          refine ⟨r34, σ30, he30, kG, hr30, fun y2 => at225 σ30 hF (same ?_), fun y2 => ⟨by omega, by omega, by omega, fun σ36 e36 => at225 σ36 ?_ (fun j j0 j1 => ?_)⟩⟩
          · rcases h30 with ⟨-, q, a1, a2, a3, a4, a5, a6, a7, a8⟩ | h30
            · exact ⟨q, a1, a2, a4, a5, a3, Or.inl ⟨a6.symm, by omega, a8⟩⟩
            · exact absurd h30.1 y2
          · rw [← e36]; exact hF.trans (Fr.w r0 (yA _))
          · have hfree : ¬ Kept D n g s r20 dx dy t := by
              rintro ⟨q, a1, a2, a3, a4, a5, a6 | ⟨a6, c, c1, c2, c3, c4⟩⟩
              · rcases h30 with h30 | h30
                · omega
                · exact h30.2 ⟨q, a1, a2, a5, a3, a4, a6.1.symm, by omega, a6.2.2⟩
              · have := hta q (t - c) a1 a2 a5 (by omega) (by omega) (by rw [Int.mul_sub]; omega) (by rw [Int.mul_sub]; omega)
                omega
            have hbit : zOr (rI σ30 (261 + k.toNat) r20) (zShl 1 s) = bs (p r20) s.toNat + 2 ^ s.toNat := by
              rw [hrow r20 r0 r1, cif_neg nhit, Int.add_zero]
              exact bs_step (p r20) hs0 (by omega)
            have hbR : inR (bs (p r20) s.toNat + 2 ^ s.toNat) := by rw [← hbit]; exact zOr_R _ _
            rw [← e36, hbit]
            by_cases c : j = r20
            · rw [c, rI_ww hbR, cif_pos ((Hit_step t1).mpr (Or.inr ⟨rc0, rc1, hjg, hfree⟩))]
            · rw [rI_wi (by omega), hrow j j0 j1]
              congr 1
              refine cif_congr ?_
              rw [Hit_step t1]
              exact ⟨fun a => Or.inl a, fun a => a.elim id (fun b => absurd (only j j0 j1 b.1 b.2.1) c)⟩
  -- one stall behind the other
  have stalls : ∀ (f : Nat) (s : Int) (τ : aH), (n - s).toNat = f → 0 ≤ s → s ≤ n → Fr A σ τ → ¬ (dx = 0 ∧ dy = 0) → (∀ j : Int, 0 ≤ j → j < n → rI τ (261 + k.toNat) j = bs (p j) s.toNat) → L_X10_throwsBy_55 (Ev sc (d + 2)) sc P k dx dy s τ := by
    intro f
    induction f with
    | zero =>
      intro s τ hf hs0 hs1 hF hnz hrow
      obtain ⟨kG, kN, kD, kW, kH, kw, kk⟩ := keep τ hF
      have kn := kN.1
      apply v_X10_throwsBy_55 kG (by omega) (by omega) (by omega) (by omega)
      refine ⟨fun _ => ?_, fun q => by omega⟩
      rw [hP]
      have e : s = n := by omega
      rw [e] at hrow
      exact ⟨rfl, hF, hrow⟩
    | succ f ih =>
      intro s τ hf hs0 hs1 hF hnz hrow
      obtain ⟨kG, kN, kD, kW, kH, kw, kk⟩ := keep τ hF
      have kn := kN.1
      have ss := st s hs0 (by omega)
      obtain ⟨r5, σ1, he1, hr1, e1, h1'⟩ := m_isThere (sc := sc) (d := d + 1) (s := s) kG kN (by omega)
      subst e1
      have e0 : rI σ1 (91 + s.toNat) 0 = D 0 s := by rw [← kD]; exact (Dm_at (by omega)).symm
      have e1 : rI σ1 (91 + s.toNat) 1 = D 1 s := by rw [← kD]; exact (Dm_at (by omega)).symm
      apply v_X10_throwsBy_55 kG (by omega) (by omega) (by omega) (by omega)
      refine ⟨fun q => by omega, fun _ => ⟨r5, σ1, he1, kG, hr1, ?_⟩⟩
      rw [e0, e1]
      refine ⟨fun z => ⟨by omega, by omega, fun z8 e8 => ⟨by omega, by omega, fun z13 e13 => ?_⟩⟩, fun z => ⟨by omega, ?_⟩⟩
      · obtain ⟨r20, σ16, he16, hr16, e16, h16⟩ := m_lengthBy (sc := sc) (d := d + 1) (s := s) (k := k) kG (by rw [kw]; exact hw) (by omega) (by rw [kD]; omega) hk (by rw [kk 3 (by omega), h3]; exact hNb)
        subst e16
        rw [kD, kk 3 (by omega), h3, kw, ← hwe] at h16
        refine ⟨r20, σ16, he16, kG, hr16, ?_⟩
        have mb1 := mul_bd ss.2.2.1.1 ss.2.2.1.2 hNb.1 hNb.2
        have mb2 := mul_bd mb1.1 mb1.2 (show 0 ≤ w by omega) (show w ≤ 2 by omega)
        have hwalk := shadow s hs0 (by omega) (by omega) hnz (fun τ1 hF1 hr1 => ih (s + 1) τ1 (by omega) (by omega) (by omega) hF1 hnz hr1) r20 h16 _ 1 0 σ16 rfl (by omega) (by omega) hF (fun j j0 j1 => by
          rw [hrow j j0 j1, cif_neg (fun ⟨q, a, b, _⟩ => by omega), Int.add_zero]) (by omega) (fun j q _ _ _ q0 q1 => by omega) (Or.inl rfl)
        rw [Int.mul_one, Int.mul_one, show r20 + 1 - 1 = r20 by omega] at hwalk
        rw [e8, e13]
        exact hwalk
      · refine ih (s + 1) σ1 (by omega) (by omega) (by omega) hF hnz (fun j j0 j1 => ?_)
        have e2 : bs (p j) (s + 1).toNat = bs (p j) s.toNat + cif (p j s) (2 ^ s.toNat) 0 := sm_toNat _ hs0
        rw [hrow j j0 j1, e2, cif_neg, Int.add_zero]
        rw [hp]
        intro q
        have q1 := q.1
        omega
  -- nothing at first
  have zero : ∀ (f : Nat) (s : Int) (τ : aH), (n - s).toNat = f → 0 ≤ s → s ≤ n → Fr A σ τ → (∀ j : Int, 0 ≤ j → j < s → rI τ (261 + k.toNat) j = 0) → L_X10_throwsBy_2 (Ev sc (d + 2)) sc P k s τ := by
    intro f
    induction f with
    | zero =>
      intro s τ hf hs0 hs1 hF hrow
      obtain ⟨kG, kN, kD, kW, kH, kw, kk⟩ := keep τ hF
      have kn := kN.1
      apply v_X10_throwsBy_2 kG (by omega) (by omega)
      rw [kk 1 (by omega), kk 2 (by omega), h1, h2]
      have b0 : ∀ j : Int, 0 ≤ j → j < n → rI τ (261 + k.toNat) j = bs (p j) (0 : Int).toNat := fun j j0 j1 => by
        rw [hrow j j0 (by omega)]; exact (sm_0 _).symm
      refine ⟨fun _ => ⟨by omega, fun z2 e2 => ⟨by omega, fun z6 e6 => ?_⟩⟩, fun q => by omega⟩
      rw [e2, e6]
      refine ⟨fun q => stalls _ 0 τ rfl (by omega) (by omega) hF (fun z => q z.1) b0, fun q => ⟨fun q1 => stalls _ 0 τ rfl (by omega) (by omega) hF (fun z => q1 z.2) b0, fun q1 => ?_⟩⟩
      rw [hP]
      refine ⟨rfl, hF, fun j j0 j1 => ?_⟩
      rw [hrow j j0 (by omega)]
      refine (bs_zero.mpr (fun i _ _ hi => ?_)).symm
      rw [hp] at hi
      obtain ⟨-, -, -, t, hno, -⟩ := hi
      exact hno (by omega)
    | succ f ih =>
      intro s τ hf hs0 hs1 hF hrow
      obtain ⟨kG, kN, kD, kW, kH, kw, kk⟩ := keep τ hF
      have kn := kN.1
      apply v_X10_throwsBy_2 kG (by omega) (by omega)
      refine ⟨fun q => by omega, fun _ => ⟨by omega, by omega, fun σ10 e10 => ⟨by omega, ih (s + 1) σ10 (by omega) (by omega) (by omega) (by rw [← e10]; exact hF.trans (Fr.w hs0 (yA _))) (fun j j0 j1 => ?_)⟩⟩⟩
      rw [← e10]
      by_cases c : j = s
      · rw [c]; exact rI_ww (by decide)
      · rw [rI_wi (by omega)]; exact hrow j j0 (by omega)
  exact zero _ 0 σ rfl (by omega) (by omega) (Fr.refl _ _) (fun j a b => by omega)
end
