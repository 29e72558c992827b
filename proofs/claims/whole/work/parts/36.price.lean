/-! PRICES: sums over minutes of what falls. -/
noncomputable def Fsm (fa : Int → Int → Int → Prop) (S F : Int → Int) (i j : Int) : Int := sm (fun t => cif (fa i j (S t)) (F t) 0) 1440
noncomputable def Prc (fa : Int → Int → Int → Prop) (la S F F1 : Int → Int) (i j : Int) : Int := Fsm fa S F i j + (if la i = 1 then Fsm fa S F1 i j else 0)
noncomputable def Tot (fa : Int → Int → Int → Prop) (la S F F1 : Int → Int) (n gone : Int) : Int := sm (fun i => sm (fun j => cif (i ≠ gone ∧ j ≠ gone) (Prc fa la S F F1 i j) 0) n.toNat) n.toNat
def FaC (m : Nat → Int → Int) (u : Nat) (n : Int) : Int → Int → Int → Prop := Falls (Dc m u) n (m (u + 1) 9) (1 + m u 9)
/-- what the questions about shadows take of the class's market -/
def Sh (σ : aH) (u : Nat) (n : Int) : Prop := rI σ (u + 1) 8 = n ∧ 0 ≤ n ∧ StB (Dc (rI σ) u) n ∧ (0 ≤ rI σ u 9 ∧ rI σ u 9 ≤ 1)
def SB (S : Int → Int) : Prop := ∀ t : Int, -1 ≤ S t ∧ S t ≤ 89
def F9 (F : Int → Int) : Prop := ∀ t : Int, 0 ≤ F t ∧ F t ≤ 9
theorem falls_irr {D : Nat → Int → Int} {n gone w i s : Int} : ¬ Falls D n gone w i i s := by
  rintro ⟨h0, t, h1, h2, h3, h4, -⟩
  have e1 : (s / 10 % 3 - 1) * t = 0 := by omega
  have e2 : (s / 30 - 1) * t = 0 := by omega
  rcases Int.mul_eq_zero.mp e1 with q1 | q1 <;> rcases Int.mul_eq_zero.mp e2 with q2 | q2 <;> omega
theorem falls_neg {D : Nat → Int → Int} {n gone w i j s : Int} (h : s < 0) : ¬ Falls D n gone w i j s := by
  rintro ⟨h0, -⟩; omega
theorem Fsm_bd {fa : Int → Int → Int → Prop} {S F : Int → Int} {i j : Int} (hF : F9 F) : 0 ≤ Fsm fa S F i j ∧ Fsm fa S F i j ≤ 12960 := by
  have := sm_bd (n := 1440) (lo := 0) (hi := 9) (f := fun t => cif (fa i j (S t)) (F t) 0) (fun t _ _ => cif_bd (hF t) (by omega))
  unfold Fsm; omega
theorem Prc_bd {fa : Int → Int → Int → Prop} {la S F F1 : Int → Int} {i j : Int} (hF : F9 F) (hF1 : F9 F1) : 0 ≤ Prc fa la S F F1 i j ∧ Prc fa la S F F1 i j ≤ 25920 := by
  have a := Fsm_bd (fa := fa) (S := S) (i := i) (j := j) hF
  have b := Fsm_bd (fa := fa) (S := S) (i := i) (j := j) hF1
  unfold Prc
  by_cases c : la i = 1
  · rw [if_pos c]; omega
  · rw [if_neg c]; omega
theorem Fsm_no {fa : Int → Int → Int → Prop} {S F : Int → Int} {i j : Int} (h : ∀ t : Int, 0 ≤ t → t < 1440 → ¬ fa i j (S t)) : Fsm fa S F i j = 0 := sm_eq0 (fun t h0 h1 => cif_neg (h t h0 h1))
theorem Prc_irr {fa : Int → Int → Int → Prop} {la S F F1 : Int → Int} {i : Int} (h : ∀ s : Int, ¬ fa i i s) : Prc fa la S F F1 i i = 0 := by
  unfold Prc
  rw [Fsm_no (fun t _ _ => h (S t)), Fsm_no (fun t _ _ => h (S t)), ite_self]; rfl
theorem W1_need {D : Nat → Int → Int} {n gone w i j r : Int} {S F : Int → Int} (hN : NeedS D n gone w i j r) (hS : SB S) : ((0 ≤ r ∧ r < 90) ∧ W1 S F r = Fsm (Falls D n gone w) S F i j) ∨ (r = -1 ∧ Fsm (Falls D n gone w) S F i j = 0) := by
  rcases hN with ⟨rfl, h⟩ | ⟨h0, h1, h⟩
  · refine Or.inr ⟨rfl, Fsm_no (fun t _ _ => ?_)⟩
    have q := hS t
    by_cases c : S t < 0
    · exact falls_neg c
    · exact h (S t) (by omega) (by omega)
  · refine Or.inl ⟨⟨h0, h1⟩, ?_⟩
    unfold W1 Fsm
    refine sm_congr (fun t _ _ => cif_congr ?_)
    have q := hS t
    by_cases c : S t < 0
    · exact ⟨fun k => by omega, fun k => absurd k (falls_neg c)⟩
    · exact (h (S t) (by omega) (by omega)).symm
section
variable {sc : Nat × (Nat → Int32)} {d : Nat} {σ : aH} {u w : Nat} {n : Int} {S F F1 : Int → Int}
theorem s_at {D : Nat → Int → Int} {gone wf i j r : Int} (hG : G σ u) (hw : IsWt w) (hW : WtS (rI σ) w S F F1) (hS : SB S) (hN : NeedS D n gone wf i j r) : TI sc (d + 1) mX8_at [.ref w, .int (nZ r)] σ (fun x σ1 => σ1 = σ ∧ x = Fsm (Falls D n gone wf) S F i j) := by
  apply T.int
  have q := W1_need (F := F) hN hS
  apply t_X8_at hG hw (by omega)
  refine ⟨fun g => ⟨0, rfl, by decide, rfl, by omega⟩, fun g => ⟨fun g => by omega, fun g => ⟨by omega, _, rfl, rI_R _ _ _, rfl, ?_⟩⟩⟩
  rw [(hW r (by omega) (by omega)).1]; omega
theorem s_lanternsAt {D : Nat → Int → Int} {gone wf i j r : Int} (hG : G σ u) (hw : IsWt w) (hW : WtS (rI σ) w S F F1) (hS : SB S) (hN : NeedS D n gone wf i j r) : TI sc (d + 1) mX8_lanternsAt [.ref w, .int (nZ r)] σ (fun x σ1 => σ1 = σ ∧ x = Fsm (Falls D n gone wf) S F1 i j) := by
  apply T.int
  have q := W1_need (F := F1) hN hS
  apply t_X8_lanternsAt hG hw (by omega)
  refine ⟨fun g => ⟨0, rfl, by decide, rfl, by omega⟩, fun g => ⟨fun g => by omega, fun g => ⟨by omega, _, rfl, rI_R _ _ _, rfl, ?_⟩⟩⟩
  rw [(hW r (by omega) (by omega)).2]; omega
theorem s_priceAt {D : Nat → Int → Int} {gone wf i j r lan : Int} (hG : G σ u) (hw : IsWt w) (hW : WtS (rI σ) w S F F1) (hS : SB S) (hF : F9 F) (hF1 : F9 F1) (hN : NeedS D n gone wf i j r) (hl : inR lan) : TI sc (d + 1) mX8_priceAt [.ref w, .int (nZ r), .int (nZ lan)] σ (fun x σ1 => σ1 = σ ∧ x = Fsm (Falls D n gone wf) S F i j + (if lan = 1 then Fsm (Falls D n gone wf) S F1 i j else 0)) := by
  apply T.int
  have q := W1_need (F := F) hN hS
  have q1 := W1_need (F := F1) hN hS
  have b := Fsm_bd (fa := Falls D n gone wf) (S := S) (i := i) (j := j) hF
  have b1 := Fsm_bd (fa := Falls D n gone wf) (S := S) (i := i) (j := j) hF1
  apply t_X8_priceAt hG hw (by omega) hl
  refine ⟨fun g => ⟨0, rfl, by decide, rfl, ?_⟩, fun g => ⟨fun g1 => ⟨fun g2 => ⟨by omega, _, rfl, rI_R _ _ _, rfl, ?_⟩, fun g2 => ⟨by omega, by omega, ?_⟩⟩, fun g1 => by omega⟩⟩
  · have e : Fsm (Falls D n gone wf) S F i j = 0 := by omega
    have e1 : Fsm (Falls D n gone wf) S F1 i j = 0 := by omega
    rw [e, e1, ite_self]; rfl
  · rw [(hW r (by omega) (by omega)).1, if_neg g2]; omega
  · obtain ⟨k1, k2⟩ := hW r (by omega) (by omega)
    refine ⟨by omega, _, rfl, by omega, rfl, ?_⟩
    rw [k1, k2, if_pos g2]; omega
theorem s_needF {i j : Int} (hG : G σ u) (hSh : Sh σ u n) (hi : 0 ≤ i ∧ i < n) (hj : 0 ≤ j ∧ j < n) : TI sc (d + 2) mX6_need [.ref 27, .int (nZ i), .int (nZ j)] σ (fun r σ1 => σ1 = σ ∧ NeedS (Dc (rI σ) u) n (rI σ (u + 1) 9) (1 + rI σ u 9) i j r) := s_need hG hSh.1 hSh.2.2.1 hSh.2.2.2 hi hj
theorem s_owed {i j : Int} (hG : G σ u) (hSh : Sh σ u n) (hw : IsWt w) (hW : WtS (rI σ) w S F F1) (hS : SB S) (hF : F9 F) (hF1 : F9 F1) (hi : 0 ≤ i ∧ i < n) (hj : 0 ≤ j ∧ j < n) : TI sc (d + 3) mX6_owed [.ref 27, .ref w, .int (nZ i), .int (nZ j)] σ (fun r σ1 => σ1 = σ ∧ r = Prc (FaC (rI σ) u n) (rI σ (u + 8)) S F F1 i j) := by
  have a1 := hSh.2.2.1.1
  apply T.int
  apply t_X6_owed hG hw (by omega) (by omega)
  obtain ⟨r5, σ1, he, hr, rfl, hN⟩ := s_needF (sc := sc) (d := d) hG hSh hi hj
  refine ⟨r5, σ1, he, hG, hr, by omega, ?_⟩
  obtain ⟨r10, σ2, he2, hr2, rfl, h2⟩ := s_priceAt (sc := sc) (d := d + 1) (lan := rI σ1 (u + 8) i) hG hw hW hS hF hF1 hN (rI_R _ _ _)
  exact ⟨r10, σ2, he2, hG, hr2, r10, rfl, hr2, rfl, h2⟩
theorem s_gain {s : Int} (hG : G σ u) (hSh : Sh σ u n) (hw : IsWt w) (hW : WtS (rI σ) w S F F1) (hS : SB S) (hF : F9 F) (hF1 : F9 F1) (hs : 0 ≤ s ∧ s < n) : TI sc (d + 3) mX6_gain [.ref 27, .ref w, .int (nZ s)] σ (fun r σ1 => σ1 = σ ∧ r = sm (fun k => Prc (FaC (rI σ) u n) (rI σ (u + 8)) S F F1 k s - Prc (FaC (rI σ) u n) (rI σ (u + 8)) S F F1 s k) n.toNat) := by
  have a1 := hSh.2.2.1.1
  have a2 := hSh.1
  have a3 := hSh.2.1
  have hb : ∀ k : Nat, -25920 * k ≤ sm (fun k => Prc (FaC (rI σ) u n) (rI σ (u + 8)) S F F1 k s - Prc (FaC (rI σ) u n) (rI σ (u + 8)) S F F1 s k) k ∧ sm (fun k => Prc (FaC (rI σ) u n) (rI σ (u + 8)) S F F1 k s - Prc (FaC (rI σ) u n) (rI σ (u + 8)) S F F1 s k) k ≤ 25920 * k := fun k => sm_bd (fun t _ _ => by
    have q1 := Prc_bd (fa := FaC (rI σ) u n) (la := rI σ (u + 8)) (S := S) (i := t) (j := s) hF hF1
    have q2 := Prc_bd (fa := FaC (rI σ) u n) (la := rI σ (u + 8)) (S := S) (i := s) (j := t) hF hF1
    omega)
  apply T.int
  apply t_X6_gain hG hw (by omega)
  have loop : ∀ (f : Nat) (k sum : Int), (n - k).toNat = f → 0 ≤ k → k ≤ n → sum = sm (fun k => Prc (FaC (rI σ) u n) (rI σ (u + 8)) S F F1 k s - Prc (FaC (rI σ) u n) (rI σ (u + 8)) S F F1 s k) k.toNat → L_X6_gain_14 (Ev sc (d + 2)) sc (QI (fun r σ1 => σ1 = σ ∧ r = sm (fun k => Prc (FaC (rI σ) u n) (rI σ (u + 8)) S F F1 k s - Prc (FaC (rI σ) u n) (rI σ (u + 8)) S F F1 s k) n.toNat)) u w s sum k σ := by
    intro f
    induction f with
    | zero =>
      intro k sum hf k0 k1 hsum
      have := hb k.toNat
      apply v_X6_gain_14 hG hw (by omega) (by omega) (by omega)
      refine ⟨fun g => ⟨_, rfl, by omega, rfl, ?_⟩, fun g => by omega⟩
      rw [hsum, show k = n by omega]
    | succ f ih =>
      intro k sum hf k0 k1 hsum
      have hk := hb k.toNat
      apply v_X6_gain_14 hG hw (by omega) (by omega) (by omega)
      refine ⟨fun g => by omega, fun g => ⟨fun g1 => ⟨by omega, ?_⟩, fun g1 => ?_⟩⟩
      · refine ih (k + 1) sum (by omega) (by omega) (by omega) ?_
        rw [sm_toNat _ k0, hsum, g1]; omega
      · obtain ⟨r6, σ1, he1, hr1, rfl, hN1⟩ := s_needF (sc := sc) (d := d) hG hSh (show 0 ≤ k ∧ k < n by omega) hs
        refine ⟨r6, σ1, he1, hG, hr1, by omega, ?_⟩
        obtain ⟨r11, σ2, he2, hr2, rfl, h2⟩ := s_priceAt (sc := sc) (d := d + 1) (lan := rI σ1 (u + 8) k) hG hw hW hS hF hF1 hN1 (rI_R _ _ _)
        have p1 := Prc_bd (fa := FaC (rI σ2) u n) (la := rI σ2 (u + 8)) (S := S) (i := k) (j := s) hF hF1
        have p2 := Prc_bd (fa := FaC (rI σ2) u n) (la := rI σ2 (u + 8)) (S := S) (i := s) (j := k) hF hF1
        have h2 : r11 = Prc (FaC (rI σ2) u n) (rI σ2 (u + 8)) S F F1 k s := h2
        refine ⟨r11, σ2, he2, hG, hr2, by omega, fun z13 e13 => ?_⟩
        obtain ⟨r20, σ3, he3, hr3, rfl, hN3⟩ := s_needF (sc := sc) (d := d) hG hSh hs (show 0 ≤ k ∧ k < n by omega)
        refine ⟨r20, σ3, he3, hG, hr3, by omega, ?_⟩
        obtain ⟨r25, σ4, he4, hr4, rfl, h4⟩ := s_priceAt (sc := sc) (d := d + 1) (lan := rI σ3 (u + 8) s) hG hw hW hS hF hF1 hN3 (rI_R _ _ _)
        have h4 : r25 = Prc (FaC (rI σ4) u n) (rI σ4 (u + 8)) S F F1 s k := h4
        refine ⟨r25, σ4, he4, hG, hr4, by omega, fun z27 e27 => ⟨by omega, ?_⟩⟩
        refine ih (k + 1) z27 (by omega) (by omega) (by omega) ?_
        rw [sm_toNat _ k0]; omega
  exact loop _ 0 0 rfl (by omega) (by omega) (sm_0 _).symm
theorem s_total {en : Int} (hG : G σ u) (hSh : Sh σ u n) (hw : IsWt w) (hW : WtS (rI σ) w S F F1) (hS : SB S) (hF : F9 F) (hF1 : F9 F1) (he : inR en) : TI sc (d + 3) mX6_total [.ref 27, .ref w, .int (nZ en)] σ (fun r σ1 => σ1 = σ ∧ 0 ≤ r ∧ r ≤ Tot (FaC (rI σ) u n) (rI σ (u + 8)) S F F1 n (rI σ (u + 1) 9) ∧ (r < en → r = Tot (FaC (rI σ) u n) (rI σ (u + 8)) S F F1 n (rI σ (u + 1) 9))) := by
  have a1 := hSh.2.2.1.1
  have a2 := hSh.1
  have a3 := hSh.2.1
  obtain ⟨ce, hce⟩ : ∃ ce : Int → Int → Int, ce = fun i j => cif (i ≠ rI σ (u + 1) 9 ∧ j ≠ rI σ (u + 1) 9) (Prc (FaC (rI σ) u n) (rI σ (u + 8)) S F F1 i j) 0 := ⟨_, rfl⟩
  have hT : Tot (FaC (rI σ) u n) (rI σ (u + 8)) S F F1 n (rI σ (u + 1) 9) = sm (fun i => sm (fun j => ce i j) n.toNat) n.toNat := by rw [hce]; rfl
  rw [hT]
  have cb : ∀ i j, 0 ≤ ce i j ∧ ce i j ≤ 25920 := by
    intro i j
    rw [hce]
    exact cif_bd (Prc_bd hF hF1) (by omega)
  have rb : ∀ (i : Int) (k : Nat), 0 ≤ sm (fun j => ce i j) k ∧ sm (fun j => ce i j) k ≤ 25920 * k := fun i k => by
    have := sm_bd (n := k) (f := fun j => ce i j) (fun t _ _ => cb i t); omega
  have tb : ∀ k : Nat, 0 ≤ sm (fun i => sm (fun j => ce i j) n.toNat) k ∧ sm (fun i => sm (fun j => ce i j) n.toNat) k ≤ 233280 * k := fun k => by
    have := sm_bd (n := k) (lo := 0) (hi := 233280) (f := fun i => sm (fun j => ce i j) n.toNat) (fun t _ _ => by have := rb t n.toNat; omega); omega
  apply T.int
  apply t_X6_total hG hw he
  have loop : ∀ (f : Nat) (i sum : Int), (n - i).toNat = f → 0 ≤ i → i ≤ n → 0 ≤ sum → sum ≤ sm (fun i => sm (fun j => ce i j) n.toNat) i.toNat → (sum < en → sum = sm (fun i => sm (fun j => ce i j) n.toNat) i.toNat) → L_X6_total_14 (Ev sc (d + 2)) sc (QI (fun r σ1 => σ1 = σ ∧ 0 ≤ r ∧ r ≤ sm (fun i => sm (fun j => ce i j) n.toNat) n.toNat ∧ (r < en → r = sm (fun i => sm (fun j => ce i j) n.toNat) n.toNat))) u w en sum i σ := by
    intro f
    induction f with
    | zero =>
      intro i sum hf i0 i1 h0 h1 h2
      have := tb i.toNat
      apply v_X6_total_14 hG hw he (by omega) (by omega)
      refine ⟨fun g => ⟨_, rfl, by omega, rfl, ?_⟩, fun g => by omega⟩
      rw [show i.toNat = n.toNat by omega] at h1 h2
      exact ⟨h0, h1, h2⟩
    | succ f ih =>
      intro i sum hf i0 i1 h0 h1 h2
      have ht := tb i.toNat
      apply v_X6_total_14 hG hw he (by omega) (by omega)
      refine ⟨fun g => by omega, fun g => ?_⟩
      have inner : ∀ (f2 : Nat) (j sum : Int), (n - j).toNat = f2 → 0 ≤ j → j ≤ n → 0 ≤ sum → sum ≤ sm (fun i => sm (fun j => ce i j) n.toNat) i.toNat + sm (fun j => ce i j) j.toNat → (sum < en → sum = sm (fun i => sm (fun j => ce i j) n.toNat) i.toNat + sm (fun j => ce i j) j.toNat) → L_X6_total_26 (Ev sc (d + 2)) sc (QI (fun r σ1 => σ1 = σ ∧ 0 ≤ r ∧ r ≤ sm (fun i => sm (fun j => ce i j) n.toNat) n.toNat ∧ (r < en → r = sm (fun i => sm (fun j => ce i j) n.toNat) n.toNat))) u w en sum i j σ := by
        intro f2
        induction f2 with
        | zero =>
          intro j sum hf2 j0 j1 h0 h1 h2
          have hr := rb i j.toNat
          apply v_X6_total_26 hG hw he (by omega) (by omega) (by omega)
          refine ⟨fun g => ⟨by omega, ?_⟩, fun g => by omega⟩
          refine ih (i + 1) sum (by omega) (by omega) (by omega) h0 ?_ ?_
          · rw [sm_toNat _ i0, show n.toNat = j.toNat by omega] at *; exact h1
          · rw [sm_toNat _ i0, show n.toNat = j.toNat by omega] at *; exact h2
        | succ f2 ih2 =>
          intro j sum hf2 j0 j1 h0 h1 h2
          have hr := rb i j.toNat
          have hc := cb i j
          have hrn := rb i n.toNat
          have gr : sm (fun j => ce i j) j.toNat ≤ sm (fun j => ce i j) n.toNat := by
            have k : ∀ (a : Nat), sm (fun j => ce i j) j.toNat ≤ sm (fun j => ce i j) (j.toNat + a) := by
              intro a
              induction a with
              | zero => exact Int.le_refl _
              | succ a iha => have := cb i ((j.toNat + a : Nat) : Int); rw [← Nat.add_assoc, sm_succ]; omega
            have := k (n.toNat - j.toNat)
            rw [show j.toNat + (n.toNat - j.toNat) = n.toNat by omega] at this
            exact this
          apply v_X6_total_26 hG hw he (by omega) (by omega) (by omega)
          have out : (en ≤ sum ∨ i = rI σ (u + 1) 9) → L_X6_total_14 (Ev sc (d + 2)) sc (QI (fun r σ1 => σ1 = σ ∧ 0 ≤ r ∧ r ≤ sm (fun i => sm (fun j => ce i j) n.toNat) n.toNat ∧ (r < en → r = sm (fun i => sm (fun j => ce i j) n.toNat) n.toNat))) u w en sum (i + 1) σ := by
            intro hq
            refine ih (i + 1) sum (by omega) (by omega) (by omega) h0 ?_ ?_
            · rw [sm_toNat _ i0]; omega
            · rw [sm_toNat _ i0]
              intro hlt
              rcases hq with hq | hq
              · omega
              · have z : ∀ k : Nat, sm (fun j => ce i j) k = 0 := fun k => sm_eq0 (fun t _ _ => by rw [hce]; exact cif_neg (fun q => q.1 hq))
                rw [z] at h2 ⊢
                exact h2 hlt
          refine ⟨fun g => by omega, fun g => ⟨fun g1 => ⟨by omega, out (Or.inr g1)⟩, fun g1 => ⟨fun g2 => ⟨by omega, out (Or.inl g2)⟩, fun g2 => ⟨fun g3 => ⟨by omega, ?_⟩, fun g3 => ⟨fun g4 => ⟨by omega, ?_⟩, fun g4 => ?_⟩⟩⟩⟩⟩
          · have e : ce i j = 0 := by
              rw [hce, ← g3]
              by_cases c : i ≠ rI σ (u + 1) 9 ∧ i ≠ rI σ (u + 1) 9
              · show cif (i ≠ rI σ (u + 1) 9 ∧ i ≠ rI σ (u + 1) 9) _ 0 = 0
                rw [cif_pos c]
                exact Prc_irr (fun s => falls_irr)
              · exact cif_neg c
            refine ih2 (j + 1) sum (by omega) (by omega) (by omega) h0 ?_ ?_
            · rw [sm_toNat _ j0, e]; omega
            · rw [sm_toNat _ j0, e]; omega
          · have e : ce i j = 0 := by rw [hce]; exact cif_neg (fun q => q.2 g4)
            refine ih2 (j + 1) sum (by omega) (by omega) (by omega) h0 ?_ ?_
            · rw [sm_toNat _ j0, e]; omega
            · rw [sm_toNat _ j0, e]; omega
          · have e : ce i j = Prc (FaC (rI σ) u n) (rI σ (u + 8)) S F F1 i j := by rw [hce]; exact cif_pos ⟨g1, g4⟩
            obtain ⟨r6, σ1, he1, hr1, rfl, hN1⟩ := s_needF (sc := sc) (d := d) hG hSh (show 0 ≤ i ∧ i < n by omega) (show 0 ≤ j ∧ j < n by omega)
            refine ⟨r6, σ1, he1, hG, hr1, by omega, ?_⟩
            obtain ⟨r11, σ2, he2, hr2, rfl, h2e⟩ := s_priceAt (sc := sc) (d := d + 1) (lan := rI σ1 (u + 8) i) hG hw hW hS hF hF1 hN1 (rI_R _ _ _)
            have h2e : r11 = ce i j := by rw [e]; exact h2e
            refine ⟨r11, σ2, he2, hG, hr2, by omega, fun z17 e17 => ⟨by omega, ?_⟩⟩
            refine ih2 (j + 1) z17 (by omega) (by omega) (by omega) (by omega) ?_ ?_
            · rw [sm_toNat _ j0]; omega
            · rw [sm_toNat _ j0]; omega
      exact inner _ 0 sum rfl (by omega) a3 h0 (by rw [show (0 : Int).toNat = 0 from rfl, sm_0]; omega) (by rw [show (0 : Int).toNat = 0 from rfl, sm_0]; omega)
  exact loop _ 0 0 rfl (by omega) a3 (by omega) (by rw [show (0 : Int).toNat = 0 from rfl, sm_0]; omega) (by rw [show (0 : Int).toNat = 0 from rfl, sm_0]; omega)
end
