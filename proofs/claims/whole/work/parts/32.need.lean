theorem ceil_iff {s H e : Int} (hH : 0 < H) : (10 * s + H - 1) / H ≤ e ↔ 10 * s ≤ H * e := by
  have h := Int.ediv_lt_iff_lt_mul (a := 10 * s + H - 1) (b := e + 1) hH
  rw [Int.add_mul, Int.mul_comm e H] at h
  omega
theorem falls_elim {D : Nat → Int → Int} {n gone w i j s : Int} (h : Falls D n gone w i j s) (h9 : s < 90) : ∃ t dx dy : Int, (dx = -1 ∨ dx = 0 ∨ dx = 1) ∧ (dy = -1 ∨ dy = 0 ∨ dy = 1) ∧ s / 10 = (dx + 1) + 3 * (dy + 1) ∧ ¬ (dx = 0 ∧ dy = 0) ∧ 1 ≤ t ∧ D 0 j = D 0 i + dx * t ∧ D 1 j = D 1 i + dy * t ∧ 10 * t ≤ D 2 i * w * (s % 10) ∧ ¬ Kept D n gone i j dx dy t := by
  obtain ⟨h0, t, h1, h2, h3, h4, h5, h6⟩ := h
  exact ⟨t, _, _, by omega, by omega, by omega, h1, h2, h3, h4, h5, h6⟩
theorem falls_intro {D : Nat → Int → Int} {n gone w i j s : Int} (t dx dy : Int) (h0 : 0 ≤ s) (hd : s / 10 = (dx + 1) + 3 * (dy + 1)) (hx : dx = -1 ∨ dx = 0 ∨ dx = 1) (hy : dy = -1 ∨ dy = 0 ∨ dy = 1) (h1 : ¬ (dx = 0 ∧ dy = 0)) (h2 : 1 ≤ t) (h3 : D 0 j = D 0 i + dx * t) (h4 : D 1 j = D 1 i + dy * t) (h5 : 10 * t ≤ D 2 i * w * (s % 10)) (h6 : ¬ Kept D n gone i j dx dy t) : Falls D n gone w i j s := by
  have e1 : s / 10 % 3 - 1 = dx := by omega
  have e2 : s / 30 - 1 = dy := by omega
  refine ⟨h0, t, ?_, h2, ?_, ?_, h5, ?_⟩
  · rw [e1, e2]; exact h1
  · rw [e1]; exact h3
  · rw [e2]; exact h4
  · rw [e1, e2]; exact h6
section
variable {D : Nat → Int → Int} {n gone w i j : Int}
theorem need_a (h1 : ¬ D 0 j - D 0 i = 0) (h2 : ¬ D 1 j - D 1 i = 0) (h3 : ¬ D 0 j - D 0 i = D 1 j - D 1 i) (h4 : ¬ D 0 j - D 0 i = -(D 1 j - D 1 i)) : NeedS D n gone w i j (-1) := by
  refine Or.inl ⟨rfl, fun s h0 h9 hf => ?_⟩
  obtain ⟨t, dx, dy, hx, hy, hd, hnz, ht, e1, e2, -, -⟩ := falls_elim hf h9
  rcases hx with rfl | rfl | rfl <;> rcases hy with rfl | rfl | rfl <;> omega
theorem need_b (h1 : D 0 j - D 0 i = 0) (h2 : D 1 j - D 1 i = 0) : NeedS D n gone w i j (-1) := by
  refine Or.inl ⟨rfl, fun s h0 h9 hf => ?_⟩
  obtain ⟨t, dx, dy, hx, hy, hd, hnz, ht, e1, e2, -, -⟩ := falls_elim hf h9
  rcases hx with rfl | rfl | rfl <;> rcases hy with rfl | rfl | rfl <;> omega
theorem need_c (h1 : D 2 i * w ≤ 0) : NeedS D n gone w i j (-1) := by
  refine Or.inl ⟨rfl, fun s h0 h9 hf => ?_⟩
  obtain ⟨t, dx, dy, hx, hy, hd, hnz, ht, e1, e2, e3, -⟩ := falls_elim hf h9
  have := Int.mul_le_mul_of_nonneg_right h1 (show 0 ≤ s % 10 by omega)
  omega
theorem need_st {A B t dx dy : Int} (hx : dx = -1 ∨ dx = 0 ∨ dx = 1) (hy : dy = -1 ∨ dy = 0 ∨ dy = 1) (hnz : ¬ (dx = 0 ∧ dy = 0)) (ht : 1 ≤ t) (e1 : A = dx * t) (e2 : B = dy * t) : t = max (max A (-A)) (max B (-B)) := by
  rcases hx with rfl | rfl | rfl <;> rcases hy with rfl | rfl | rfl <;> omega
theorem need_d {st : Int} (hs : st = max (max (D 0 j - D 0 i) (-(D 0 j - D 0 i))) (max (D 1 j - D 1 i) (-(D 1 j - D 1 i)))) (hH : 0 < D 2 i * w) (h : 9 < (10 * st + D 2 i * w - 1) / (D 2 i * w)) : NeedS D n gone w i j (-1) := by
  refine Or.inl ⟨rfl, fun s h0 h9 hf => ?_⟩
  obtain ⟨t, dx, dy, hx, hy, hd, hnz, ht, e1, e2, e3, -⟩ := falls_elim hf h9
  have et := need_st hx hy hnz ht (A := D 0 j - D 0 i) (B := D 1 j - D 1 i) (by omega) (by omega)
  have h5 := (ceil_iff (s := st) (e := s % 10) hH).mpr (by rw [hs, ← et]; exact e3)
  omega
theorem need_e {st right below e : Int} (hs : st = max (max (D 0 j - D 0 i) (-(D 0 j - D 0 i))) (max (D 1 j - D 1 i) (-(D 1 j - D 1 i)))) (hst : ¬ st = 0)
    (hl : D 0 j - D 0 i = 0 ∨ D 1 j - D 1 i = 0 ∨ D 0 j - D 0 i = D 1 j - D 1 i ∨ D 0 j - D 0 i = -(D 1 j - D 1 i)) (hH : 0 < D 2 i * w)
    (hr : (0 < D 0 j - D 0 i → right = 1) ∧ (D 0 j - D 0 i = 0 → right = 0) ∧ (D 0 j - D 0 i < 0 → right = -1)) (hb : (0 < D 1 j - D 1 i → below = 1) ∧ (D 1 j - D 1 i = 0 → below = 0) ∧ (D 1 j - D 1 i < 0 → below = -1))
    (he : e = (10 * st + D 2 i * w - 1) / (D 2 i * w)) (he9 : ¬ 9 < e) : (Kept D n gone i j right below st → NeedS D n gone w i j (-1)) ∧ (¬ Kept D n gone i j right below st → NeedS D n gone w i j (10 * ((right + 1) + 3 * (below + 1)) + e)) := by
  have hst1 : 1 ≤ st := by omega
  have hR : right = -1 ∨ right = 0 ∨ right = 1 := by omega
  have hB : below = -1 ∨ below = 0 ∨ below = 1 := by omega
  have hnz : ¬ (right = 0 ∧ below = 0) := by omega
  have hA1 : D 0 j = D 0 i + right * st := by
    rcases hR with rfl | rfl | rfl <;> omega
  have hB1 : D 1 j = D 1 i + below * st := by
    rcases hB with rfl | rfl | rfl <;> omega
  have key : ∀ t dx dy : Int, (dx = -1 ∨ dx = 0 ∨ dx = 1) → (dy = -1 ∨ dy = 0 ∨ dy = 1) → ¬ (dx = 0 ∧ dy = 0) → 1 ≤ t → D 0 j = D 0 i + dx * t → D 1 j = D 1 i + dy * t → t = st ∧ dx = right ∧ dy = below := by
    intro t dx dy hx hy hz ht e1 e2
    have et := need_st hx hy hz ht (A := D 0 j - D 0 i) (B := D 1 j - D 1 i) (by omega) (by omega)
    refine ⟨by omega, ?_, ?_⟩
    · rcases hx with rfl | rfl | rfl <;> omega
    · rcases hy with rfl | rfl | rfl <;> omega
  constructor
  · intro hk
    refine Or.inl ⟨rfl, fun s h0 h9 hf => ?_⟩
    obtain ⟨t, dx, dy, hx, hy, hd, hz, ht, e1, e2, -, h6⟩ := falls_elim hf h9
    obtain ⟨rfl, rfl, rfl⟩ := key t dx dy hx hy hz ht e1 e2
    exact h6 hk
  · intro hk
    have he1 : 1 ≤ e := by
      have h5 := ceil_iff (s := st) (H := D 2 i * w) (e := 0) hH
      rw [← he, Int.mul_zero] at h5
      omega
    refine Or.inr ⟨by omega, by omega, fun s h0 h9 => ⟨fun hf => ?_, fun hf => ?_⟩⟩
    · obtain ⟨t, dx, dy, hx, hy, hd, hz, ht, e1, e2, e3, -⟩ := falls_elim hf h9
      obtain ⟨rfl, rfl, rfl⟩ := key t dx dy hx hy hz ht e1 e2
      have h5 := (ceil_iff (s := t) (e := s % 10) hH).mpr e3
      rw [← he] at h5
      omega
    · have h5 : e ≤ s % 10 := by omega
      rw [he, ceil_iff hH] at h5
      exact falls_intro st right below h0 (by omega) hR hB hnz hst1 hA1 hB1 h5 hk
end
section
variable {sc : Nat × (Nat → Int32)} {d : Nat} {σ : aH} {u : Nat} {n i j : Int}
theorem s_need (hG : G σ u) (hn : rI σ (u + 1) 8 = n) (hS : StB (Dc (rI σ) u) n) (hw : 0 ≤ rI σ u 9 ∧ rI σ u 9 ≤ 1) (hi : 0 ≤ i ∧ i < n) (hj : 0 ≤ j ∧ j < n) : TI sc (d + 2) mX6_need [.ref 27, .int (nZ i), .int (nZ j)] σ (fun r σ1 => σ1 = σ ∧ NeedS (Dc (rI σ) u) n (rI σ (u + 1) 9) (1 + rI σ u 9) i j r) := by
  have a1 := hS.1
  obtain ⟨b1, b2, b3, b4, b5⟩ := hS.at hi.1 hi.2
  obtain ⟨c1, c2, c3, c4, c5⟩ := hS.at hj.1 hj.2
  apply T.int
  apply t_X6_need hG (by omega) (by omega)
  obtain ⟨r5, σ1, he, hr, rfl, h5⟩ := s_isInLine (sc := sc) (d := d) hG hS hi hj
  refine ⟨r5, σ1, he, hG, hr, fun g1 => ⟨by omega, by omega, by omega, fun z7 e7 => ⟨by omega, by omega, by omega, fun z11 e11 => ⟨by omega, fun z14 e14 => ⟨by omega, fun z17 e17 z20 e20 => ⟨by omega, ?_⟩⟩⟩⟩⟩, fun g1 => ⟨-1, rfl, by decide, rfl, ?_⟩⟩
  · obtain ⟨r27, σ2, he2, hr2, rfl, h27⟩ := s_cellsFor (sc := sc) (d := d) (h := rI σ1 (u + 4) i) (e := 10) hG hw b3 (by decide)
    have hH : r27 = rI σ2 (u + 4) i * (1 + rI σ2 u 9) := by
      rw [h27, Int.mul_assoc, Int.mul_comm 10, ← Int.mul_assoc, Int.mul_ediv_cancel _ (by decide)]
    have hb27 := mul_bd b3.1 b3.2 (show 0 ≤ 1 + rI σ2 u 9 by omega) (show 1 + rI σ2 u 9 ≤ 2 by omega)
    rw [← hH] at hb27
    subst e7 e11
    have hst : z20 = max (max (rI σ2 (u + 2) j - rI σ2 (u + 2) i) (-(rI σ2 (u + 2) j - rI σ2 (u + 2) i))) (max (rI σ2 (u + 3) j - rI σ2 (u + 3) i) (-(rI σ2 (u + 3) j - rI σ2 (u + 3) i))) := by rw [e20, e14, e17]
    refine ⟨r27, σ2, he2, hG, hr2, fun g2 => ⟨-1, rfl, by decide, rfl, ?_⟩, fun g2 => ⟨fun g3 => ?_, fun g3 => ⟨-1, rfl, by decide, rfl, ?_⟩⟩⟩
    · exact need_b (show rI σ2 (u + 2) j - rI σ2 (u + 2) i = 0 by omega) (show rI σ2 (u + 3) j - rI σ2 (u + 3) i = 0 by omega)
    · obtain ⟨r32, σ3, he3, hr3, rfl, h32⟩ := s_sign (sc := sc) (d := d) hG (show inR (rI σ2 (u + 2) j - rI σ2 (u + 2) i) by omega)
      refine ⟨r32, σ3, he3, hG, hr3, ?_⟩
      obtain ⟨r37, σ4, he4, hr4, rfl, h37⟩ := s_sign (sc := sc) (d := d) hG (show inR (rI σ3 (u + 3) j - rI σ3 (u + 3) i) by omega)
      have hee : inR ((10 * z20 + r27 - 1) / r27) := by
        have e1 := Int.ediv_nonneg (show 0 ≤ 10 * z20 + r27 - 1 by omega) (Int.le_of_lt g3)
        have e2 := Int.ediv_le_self r27 (show 0 ≤ 10 * z20 + r27 - 1 by omega)
        omega
      refine ⟨r37, σ4, he4, hG, hr4, by omega, by omega, by omega, by omega, hee, fun z42 e42 => ?_⟩
      have hE := fun q => need_e (D := Dc (rI σ4) u) (n := n) (gone := rI σ4 (u + 1) 9) (w := 1 + rI σ4 u 9) (i := i) (j := j) (e := z42) hst g2 (show rI σ4 (u + 2) j - rI σ4 (u + 2) i = 0 ∨ rI σ4 (u + 3) j - rI σ4 (u + 3) i = 0 ∨ rI σ4 (u + 2) j - rI σ4 (u + 2) i = rI σ4 (u + 3) j - rI σ4 (u + 3) i ∨ rI σ4 (u + 2) j - rI σ4 (u + 2) i = -(rI σ4 (u + 3) j - rI σ4 (u + 3) i) by omega) (show 0 < rI σ4 (u + 4) i * (1 + rI σ4 u 9) by rw [← hH]; exact g3) h32 h37 (show z42 = (10 * z20 + rI σ4 (u + 4) i * (1 + rI σ4 u 9) - 1) / (rI σ4 (u + 4) i * (1 + rI σ4 u 9)) by rw [← hH]; exact e42) q
      have hd : 9 < z42 → NeedS (Dc (rI σ4) u) n (rI σ4 (u + 1) 9) (1 + rI σ4 u 9) i j (-1) := fun g4 => need_d (D := Dc (rI σ4) u) (st := z20) hst (show 0 < rI σ4 (u + 4) i * (1 + rI σ4 u 9) by rw [← hH]; exact g3) (show 9 < (10 * z20 + rI σ4 (u + 4) i * (1 + rI σ4 u 9) - 1) / (rI σ4 (u + 4) i * (1 + rI σ4 u 9)) by rw [← hH, ← e42]; exact g4)
      refine ⟨fun g4 => ⟨-1, rfl, by decide, rfl, hd g4⟩, fun g4 => ?_⟩
      obtain ⟨r49, σ5, he5, hr5, rfl, h49⟩ := s_isKeptOff (sc := sc) (d := d) (dx := r32) (dy := r37) (t := z20) hG hn hS hi hj (by omega) (by omega) (by omega) (by omega)
      have hE := hE g4
      refine ⟨r49, σ5, he5, hG, hr5, fun g5 => ?_, fun g5 => ⟨-1, rfl, by decide, rfl, ?_⟩⟩
      · rcases h49 with h49 | h49
        · omega
        · refine ⟨by omega, by omega, by omega, by omega, by omega, by omega, ⟨_, rfl, by omega, rfl, hE.2 h49.2⟩⟩
      · rcases h49 with h49 | h49
        · exact hE.1 h49.2
        · omega
    · exact need_c (show rI σ2 (u + 4) i * (1 + rI σ2 u 9) ≤ 0 by rw [← hH]; omega)
  · rcases h5 with h5 | h5
    · omega
    · exact need_a h5.2.1 h5.2.2.1 h5.2.2.2.1 h5.2.2.2.2
end
