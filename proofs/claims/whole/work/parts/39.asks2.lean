/-! chill, led, harms; minutes weighed -/
section
variable {sc : Nat × (Nat → Int32)} {d : Nat} {σ : aH} {u w : Nat} {n : Int} {S F F1 : Int → Int}
theorem s_minutesFrom {q e : Int} (hG : G σ u) (hW : WtS (rI σ) 31 S F F1) (hq : 0 ≤ q ∧ q < 9) (he : 0 ≤ e ∧ e ≤ 10) : TI sc (d + 2) mX6_minutesFrom [.ref 27, .int (nZ q), .int (nZ e)] σ (fun r σ1 => σ1 = σ ∧ r = sm (fun t => cif (S t / 10 = q ∧ e ≤ S t % 10) (F t) 0) 1440) := by
  apply T.int
  apply t_X6_minutesFrom hG (by omega) (by omega)
  refine ⟨fun g => ⟨by omega, by omega, ?_⟩, fun g => ⟨0, rfl, by decide, rfl, ?_⟩⟩
  · have hx : TI sc (d + 1) mX8_at [.ref 31, .int (nZ (10 * q + e))] σ (fun r σ1 => σ1 = σ ∧ r = rI σ (31 + 1) (10 * q + e)) := by
      apply T.int
      apply t_X8_at hG (Or.inr (Or.inl rfl)) (by omega)
      exact ⟨fun g => by omega, fun g => ⟨fun g => by omega, fun g => ⟨by omega, _, rfl, rI_R _ _ _, rfl, rfl⟩⟩⟩
    obtain ⟨r7, σ1, he1, hr, rfl, h7⟩ := hx
    refine ⟨r7, σ1, he1, hG, hr, r7, rfl, hr, rfl, ?_⟩
    rw [h7, (hW (10 * q + e) (by omega) (by omega)).1]
    unfold W1
    exact sm_congr (fun t _ _ => cif_congr ⟨fun k => by omega, fun k => by omega⟩)
  · exact (sm_eq0 (fun t _ _ => cif_neg (fun k => by omega))).symm
/-- the minutes' weights: one for each -/
abbrev one : Int → Int := fun _ => 1
theorem F9_one : F9 one := fun _ => ⟨(by decide : (0 : Int) ≤ 1), (by decide : (1 : Int) ≤ 9)⟩
theorem s_chillOf {j : Int} (hG : G σ u) (hSh : Sh σ u n) (hW : WtS (rI σ) 31 S one F1) (hS : SB S) (hj : 0 ≤ j ∧ j < n) : TI sc (d + 4) mX6_chillOf [.ref 27, .int (nZ j)] σ (fun r σ1 => Fr (fun a _ => a = 37) σ σ1 ∧ r = sm (fun t => cif (Any (FaC (rI σ) u n) n j (-1) (S t)) 1 0) 1440) := by
  have a1 := hSh.2.2.1.1
  apply T.int
  apply t_X6_chillOf hG (by omega)
  obtain ⟨σ1, he, hF, hL⟩ := s_findLeast (sc := sc) (d := d) (j := j) (but := -1) hG hSh hj (by omega)
  refine ⟨σ1, he, hF.g hG, ?_⟩
  have hW1 : WtS (rI σ1) 31 S one F1 := hW.fr hF (fun a i h => by omega)
  have hb : ∀ q : Nat, 0 ≤ sm (fun p => sm (fun t => cif (S t / 10 = p ∧ Any (FaC (rI σ) u n) n j (-1) (S t)) 1 0) 1440) q ∧ sm (fun p => sm (fun t => cif (S t / 10 = p ∧ Any (FaC (rI σ) u n) n j (-1) (S t)) 1 0) 1440) q ≤ 1440 * q := fun q => by
    have := sm_bd (n := q) (lo := 0) (hi := 1440) (f := fun p => sm (fun t => cif (S t / 10 = p ∧ Any (FaC (rI σ) u n) n j (-1) (S t)) 1 0) 1440) (fun p _ _ => by
      have := sm_bd (n := 1440) (lo := 0) (hi := 1) (f := fun t => cif (S t / 10 = p ∧ Any (FaC (rI σ) u n) n j (-1) (S t)) 1 0) (fun t _ _ => cif_bd (by omega) (by omega))
      omega)
    omega
  have loop : ∀ (f : Nat) (q sum : Int), (9 - q).toNat = f → 0 ≤ q → q ≤ 9 → sum = sm (fun p => sm (fun t => cif (S t / 10 = p ∧ Any (FaC (rI σ) u n) n j (-1) (S t)) 1 0) 1440) q.toNat → L_X6_chillOf_10 (Ev sc (d + 3)) sc (QI (fun r σ1 => Fr (fun a _ => a = 37) σ σ1 ∧ r = sm (fun t => cif (Any (FaC (rI σ) u n) n j (-1) (S t)) 1 0) 1440)) j sum q σ1 := by
    intro f
    induction f with
    | zero =>
      intro q sum hf q0 q1 hs
      have hq := hb q.toNat
      apply v_X6_chillOf_10 (hF.g hG) (by omega) (by omega) (by omega)
      refine ⟨fun g => ⟨_, rfl, by omega, hF, ?_⟩, fun g => by omega⟩
      rw [hs, show q.toNat = 9 by omega, sm_comm]
      refine sm_congr (fun t _ _ => ?_)
      have b := hS t
      by_cases c : Any (FaC (rI σ) u n) n j (-1) (S t)
      · rw [cif_pos c]
        have c0 : 0 ≤ S t := by
          obtain ⟨k, -, -, -, hk⟩ := c
          exact hk.1
        have key : ∀ m : Nat, sm (fun p => cif (S t / 10 = p ∧ Any (FaC (rI σ) u n) n j (-1) (S t)) 1 0) m = if S t / 10 < m then 1 else 0 := by
          intro m
          induction m with
          | zero => rw [sm_0, if_neg (by omega)]
          | succ m im =>
            rw [sm_succ, im]
            by_cases e : S t / 10 = (m : Int)
            · rw [cif_pos ⟨e, c⟩, if_neg (by omega), if_pos (by omega)]; rfl
            · rw [cif_neg (fun k => e k.1)]
              by_cases e2 : S t / 10 < (m : Int)
              · rw [if_pos e2, if_pos (by omega)]; rfl
              · rw [if_neg e2, if_neg (by omega)]; rfl
        rw [key 9, if_pos (by omega)]
      · rw [cif_neg c]
        exact sm_eq0 (fun p _ _ => cif_neg (fun k => c k.2))
    | succ f ih =>
      intro q sum hf q0 q1 hs
      have hq := hb q.toNat
      have hl := hL q q0 (by omega)
      apply v_X6_chillOf_10 (hF.g hG) (by omega) (by omega) (by omega)
      refine ⟨fun g => by omega, fun g => ⟨by omega, ?_⟩⟩
      obtain ⟨r5, σ2, he2, hr2, rfl, h5⟩ := s_minutesFrom (sc := sc) (d := d + 1) (q := q) (e := rI σ1 37 q) (hF.g hG) hW1 (by omega) hl.1
      have e5 : r5 = sm (fun t => cif (S t / 10 = q ∧ Any (FaC (rI σ) u n) n j (-1) (S t)) 1 0) 1440 := by
        rw [h5]
        refine sm_congr (fun t _ _ => cif_congr ?_)
        by_cases c : S t / 10 = q
        · have := hl.2 (S t) (by omega) c
          exact ⟨fun k => ⟨c, this.mpr k.2⟩, fun k => ⟨c, this.mp k.2⟩⟩
        · exact ⟨fun k => absurd k.1 c, fun k => absurd k.1 c⟩
      have e6 := sm_toNat (fun p => sm (fun t => cif (S t / 10 = p ∧ Any (FaC (rI σ) u n) n j (-1) (S t)) 1 0) 1440) q0
      have hq2 := hb (q + 1).toNat
      refine ⟨r5, σ2, he2, hF.g hG, hr2, by omega, fun z ez => ⟨by omega, ?_⟩⟩
      exact ih (q + 1) z (by omega) (by omega) (by omega) (by omega)
  exact loop _ 0 0 rfl (by omega) (by omega) (sm_0 _).symm
theorem s_ledTo {j by_ : Int} (hG : G σ u) (hSh : Sh σ u n) (hW : WtS (rI σ) 31 S one F1) (hS : SB S) (hj : 0 ≤ j ∧ j < n) (hb : 0 ≤ by_ ∧ by_ < n) : TI sc (d + 4) mX6_ledTo [.ref 27, .int (nZ j), .int (nZ by_)] σ (fun r σ1 => Fr (fun a _ => a = 37) σ σ1 ∧ r = sm (fun t => cif (FaC (rI σ) u n by_ j (S t) ∧ ¬ Any (FaC (rI σ) u n) n j by_ (S t)) 1 0) 1440) := by
  have a1 := hSh.2.2.1.1
  apply T.int
  apply t_X6_ledTo hG (by omega) (by omega)
  obtain ⟨r5, σ1, he, hr, rfl, hN⟩ := s_needF (sc := sc) (d := d + 1) hG hSh hb hj
  have hA := W1_need (F := one) hN hS
  have hA2 := s_at (sc := sc) (d := d + 2) (S := S) (F := one) (F1 := F1) (w := 31) hG (Or.inr (Or.inl rfl)) hW hS hN
  refine ⟨r5, σ1, he, hG, hr, fun g => ⟨0, rfl, by decide, Fr.refl _ _, ?_⟩, fun g => ⟨fun g1 => ?_, fun g1 => by omega⟩⟩
  · refine (sm_eq0 (fun t _ _ => cif_neg (fun k => ?_))).symm
    rcases hN with ⟨-, hN⟩ | hN
    · have q := hS t
      exact hN (S t) k.1.1 (by omega) k.1
    · omega
  · rcases hN with hN | ⟨n0, n1, hN⟩
    · omega
    obtain ⟨σ6, he6, hF, hL⟩ := s_findLeast (sc := sc) (d := d) (j := j) (but := by_) hG hSh hj (by omega)
    have hW1 : WtS (rI σ6) 31 S one F1 := hW.fr hF (fun a i h => by omega)
    refine ⟨σ6, he6, hF.g hG, by omega, by omega, fun z11 e11 => ?_⟩
    have hN2 : NeedS (Dc (rI σ1) u) n (rI σ1 (u + 1) 9) (1 + rI σ1 u 9) by_ j r5 := Or.inr ⟨n0, n1, hN⟩
    obtain ⟨r18, σ14, he14, hr14, rfl, h18⟩ := s_at (sc := sc) (d := d + 2) (S := S) (F := one) (F1 := F1) (w := 31) (hF.g hG) (Or.inr (Or.inl rfl)) hW1 hS hN2
    have hl := hL z11 (by omega) (by omega)
    refine ⟨r18, σ14, he14, hF.g hG, hr14, by omega, ?_⟩
    obtain ⟨r23, σ19, he19, hr19, rfl, h23⟩ := s_minutesFrom (sc := sc) (d := d + 1) (q := z11) (e := rI σ14 37 z11) (hF.g hG) hW1 (by omega) hl.1
    have b1 := Fsm_bd (fa := Falls (Dc (rI σ1) u) n (rI σ1 (u + 1) 9) (1 + rI σ1 u 9)) (S := S) (F := one) (i := by_) (j := j) F9_one
    have b2 := sm_bd (n := 1440) (lo := 0) (hi := 9) (f := fun t => cif (S t / 10 = z11 ∧ rI σ19 37 z11 ≤ S t % 10) (one t) 0) (fun t _ _ => cif_bd (F9_one t) (by omega))
    refine ⟨r23, σ19, he19, hF.g hG, hr19, by omega, fun z25 e25 => ⟨_, rfl, by omega, hF, ?_⟩⟩
    -- the two sums
    by_cases c : rI σ19 37 z11 ≤ r5 % 10
    · have le : r18 ≤ r23 := by
        rw [h18, h23]
        unfold Fsm
        refine sm_mono (fun t _ _ => ?_)
        by_cases f0 : Falls (Dc (rI σ1) u) n (rI σ1 (u + 1) 9) (1 + rI σ1 u 9) by_ j (S t)
        · have q := hS t
          have f1 := (hN (S t) f0.1 (by omega)).mp f0
          rw [cif_pos f0, cif_pos (by omega)]; exact Int.le_refl 1
        · rw [cif_neg f0]; exact (cif_bd (a := 1) (b := 0) (lo := 0) (hi := 1) (by omega) (by omega)).1
      rw [e25, Int.max_eq_left (by omega)]
      refine (sm_eq0 (fun t _ _ => cif_neg (fun k => ?_))).symm
      have q := hS t
      have f1 := (hN (S t) k.1.1 (by omega)).mp k.1
      exact k.2 ((hl.2 (S t) (by omega) (by omega)).mpr (by omega))
    · have eq : r18 - r23 = sm (fun t => cif (FaC (rI σ1) u n by_ j (S t) ∧ ¬ Any (FaC (rI σ1) u n) n j by_ (S t)) 1 0) 1440 := by
        rw [h18, h23]
        unfold Fsm
        rw [← sm_sub]
        refine sm_congr (fun t _ _ => ?_)
        have q := hS t
        by_cases f0 : Falls (Dc (rI σ1) u) n (rI σ1 (u + 1) 9) (1 + rI σ1 u 9) by_ j (S t)
        · have f1 := (hN (S t) f0.1 (by omega)).mp f0
          have f2 := hl.2 (S t) f0.1 (by omega)
          rw [cif_pos f0]
          by_cases f3 : rI σ19 37 z11 ≤ S t % 10
          · rw [cif_pos (by omega), cif_neg (fun k => k.2 (f2.mpr f3))]; rfl
          · rw [cif_neg (by omega), cif_pos ⟨f0, fun k => f3 (f2.mp k)⟩]; rfl
        · rw [cif_neg f0, cif_neg (p := FaC (rI σ1) u n by_ j (S t) ∧ ¬ Any (FaC (rI σ1) u n) n j by_ (S t)) (fun k => f0 k.1), cif_neg (fun k => f0 ((hN (S t) (by omega) (by omega)).mpr (by omega)))]; rfl
      have b3 := sm_bd (n := 1440) (lo := 0) (hi := 1) (f := fun t => cif (FaC (rI σ1) u n by_ j (S t) ∧ ¬ Any (FaC (rI σ1) u n) n j by_ (S t)) 1 0) (fun t _ _ => cif_bd (by omega) (by omega))
      rw [e25, ← eq, Int.max_eq_right (by omega)]
theorem s_harms {i : Int} (hG : G σ u) (hSh : Sh σ u n) (hW : WtS (rI σ) 31 S one F1) (hS : SB S) (hi : 0 ≤ i ∧ i < n) : TI sc (d + 3) mX6_harms [.ref 27, .int (nZ i)] σ (fun r σ1 => σ1 = σ ∧ ((r = 1 ∧ ∃ k : Int, 0 ≤ k ∧ k < n ∧ 0 < Fsm (FaC (rI σ) u n) S one i k) ∨ (r = 0 ∧ ∀ k : Int, 0 ≤ k → k < n → Fsm (FaC (rI σ) u n) S one i k = 0))) := by
  have a1 := hSh.2.2.1.1
  have a2 := hSh.1
  have a3 := hSh.2.1
  apply T.int
  apply t_X6_harms hG (by omega)
  have loop : ∀ (f : Nat) (k : Int), (n - k).toNat = f → 0 ≤ k → k ≤ n → (∀ q : Int, 0 ≤ q → q < k → Fsm (FaC (rI σ) u n) S one i q = 0) → L_X6_harms_2 (Ev sc (d + 2)) sc (QI (fun r σ1 => σ1 = σ ∧ ((r = 1 ∧ ∃ k : Int, 0 ≤ k ∧ k < n ∧ 0 < Fsm (FaC (rI σ) u n) S one i k) ∨ (r = 0 ∧ ∀ k : Int, 0 ≤ k → k < n → Fsm (FaC (rI σ) u n) S one i k = 0)))) i k σ := by
    intro f
    induction f with
    | zero =>
      intro k hf k0 k1 h
      apply v_X6_harms_2 hG (by omega) (by omega)
      exact ⟨fun g => ⟨0, rfl, by decide, rfl, Or.inr ⟨rfl, fun q q0 q1 => h q q0 (by omega)⟩⟩, fun g => by omega⟩
    | succ f ih =>
      intro k hf k0 k1 h
      apply v_X6_harms_2 hG (by omega) (by omega)
      refine ⟨fun g => by omega, fun g => ⟨fun g1 => ⟨by omega, ih (k + 1) (by omega) (by omega) (by omega) (fun q q0 q1 => ?_)⟩, fun g1 => ?_⟩⟩
      · by_cases e : q = k
        · subst e; subst g1; exact Fsm_no (fun t _ _ => falls_irr)
        · exact h q q0 (by omega)
      · obtain ⟨r6, σ1, he, hr, rfl, hN⟩ := s_needF (sc := sc) (d := d) hG hSh hi (show 0 ≤ k ∧ k < n by omega)
        refine ⟨r6, σ1, he, hG, hr, ?_⟩
        obtain ⟨r11, σ2, he2, hr2, rfl, h11⟩ := s_at (sc := sc) (d := d + 1) (S := S) (F := one) (F1 := F1) (w := 31) hG (Or.inr (Or.inl rfl)) hW hS hN
        have h11 : r11 = Fsm (FaC (rI σ2) u n) S one i k := h11
        have b := Fsm_bd (fa := FaC (rI σ2) u n) (S := S) (F := one) (i := i) (j := k) F9_one
        refine ⟨r11, σ2, he2, hG, hr2, fun g2 => ⟨by omega, ih (k + 1) (by omega) (by omega) (by omega) (fun q q0 q1 => ?_)⟩, fun g2 => ⟨1, rfl, by decide, rfl, Or.inl ⟨rfl, k, k0, by omega, by omega⟩⟩⟩
        by_cases e : q = k
        · subst e; omega
        · exact h q q0 (by omega)
  exact loop _ 0 rfl (by omega) a3 (fun q q0 q1 => by omega)
end
