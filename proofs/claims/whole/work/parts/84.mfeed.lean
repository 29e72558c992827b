/-! THE REFERENCE: feeding; what is refused. -/
def arg5 (a b c d e k : Int) : Int := if k < 4 then a else if k < 8 then b else if k < 12 then c else if k < 16 then d else e
/-- byte k of five numbers -/
def FeB (a b c d e k : Int) : Int := arg5 a b c d e k / 2 ^ (24 - 8 * (k % 4)).toNat % 256
section
variable {sc : Nat × (Nat → Int32)} {d : Nat} {σ : aH} {u : Nat} {n W H : Int} {D : Nat → Int → Int} {Es Er : Nat → Option Int} {K : Int} {fr va : Int → Int} {du fo : Int}
theorem m_feed {a b c e f m : Int} (hG : G σ u) (ra : inR a) (rb : inR b) (rc : inR c) (re : inR e) (rf : inR f) (hm : rI σ 76 1 = m) (hb : 0 ≤ m ∧ m ≤ 600) : TI sc (d + 1) mX10_feed [.ref 76, .int (nZ a), .int (nZ b), .int (nZ c), .int (nZ e), .int (nZ f)] σ (fun r σ1 => (600 < m + 20 → r = -1 ∧ Fr A0 σ σ1) ∧ (m + 20 ≤ 600 → r = m + 20 ∧ Fr (fun x i => (x = 77 ∧ m ≤ i) ∨ (x = 76 ∧ (i = 0 ∨ i = 1))) σ σ1 ∧ rI σ1 76 1 = m + 20 ∧ ∀ k : Int, 0 ≤ k → k < 20 → rI σ1 77 (m + k) = FeB a b c e f k) ∧ rI σ1 76 0 = 0) := by
  apply T.int
  apply t_X10_feed hG ra rb rc re rf
  intro σ1 e1
  obtain ⟨hG1, t1, hF1, hD1, o1⟩ := m_pre0 hG e1
  rw [(o1 76 1 (by omega)).trans hm]
  obtain ⟨P, hP⟩ : ∃ P : aO → aH → Prop, P = QI (fun r σ1 => (600 < m + 20 → r = -1 ∧ Fr A0 σ σ1) ∧ (m + 20 ≤ 600 → r = m + 20 ∧ Fr (fun x i => (x = 77 ∧ m ≤ i) ∨ (x = 76 ∧ (i = 0 ∨ i = 1))) σ σ1 ∧ rI σ1 76 1 = m + 20 ∧ ∀ k : Int, 0 ≤ k → k < 20 → rI σ1 77 (m + k) = FeB a b c e f k) ∧ rI σ1 76 0 = 0) := ⟨_, rfl⟩
  rw [← hP]
  refine ⟨by omega, fun q => ?_, fun q => ?_⟩
  case refine_2 => rw [hP]; exact ⟨-1, rfl, by decide, fun _ => ⟨rfl, hF1⟩, fun z => by omega, t1⟩
  have loop : ∀ (g : Nat) (k : Int) (τ : aH), (20 - k).toNat = g → 0 ≤ k → k ≤ 20 → Fr (fun x i => (x = 77 ∧ m ≤ i) ∨ (x = 76 ∧ (i = 0 ∨ i = 1))) σ τ → rI τ 76 0 = 0 → rI τ 76 1 = m + k → (∀ q : Int, 0 ≤ q → q < k → rI τ 77 (m + q) = FeB a b c e f q) → L_X10_feed_23 (Ev sc d) sc P a b c e f k τ := by
    intro g
    induction g with
    | zero =>
      intro k τ hg k0 k1 hF ht hs ho
      have ek : k = 20 := by omega
      apply v_X10_feed_23 (hF.g hG) ra rb rc re rf (by omega)
      refine ⟨fun _ => ?_, fun z => by omega⟩
      rw [hP, hs]
      exact ⟨_, rfl, by omega, fun z => by omega, fun _ => ⟨by omega, hF, by omega, fun k a b => ho k a (by omega)⟩, ht⟩
    | succ g ih =>
      intro k τ hg k0 k1 hF ht hs ho
      have one : ∀ s0 : Int, inR s0 → s0 = arg5 a b c e f k → L_X10_feed_76 (Ev sc d) sc P a b c e f k s0 τ := by
        intro s0 rs es
        have ev : zAnd (zShr s0 (24 - 8 * (k % 4))) 255 = FeB a b c e f k := by
          rw [zAnd_255, zShr_eq rs (by omega) (by omega), es]; rfl
        have eb : 0 ≤ FeB a b c e f k ∧ FeB a b c e f k < 256 := by unfold FeB; omega
        apply v_X10_feed_76 (hF.g hG) ra rb rc re rf (by omega) rs
        rw [hs, ev]
        refine ⟨by omega, by omega, by omega, by omega, by omega, fun σ4 e4 => ?_⟩
        have s4 : rI σ4 76 1 = m + k := by rw [← e4, rI_wa (by decide)]; exact hs
        rw [s4]
        refine ⟨by omega, fun σ8 e8 => ⟨by omega, ih (k + 1) σ8 (by omega) (by omega) (by omega) ?_ ?_ ?_ (fun q q0 q1 => ?_)⟩⟩
        · rw [← e8, ← e4]; exact (hF.trans (Fr.w (by omega) (Or.inl ⟨rfl, by omega⟩))).trans (Fr.w (by omega) (Or.inr ⟨rfl, Or.inr rfl⟩))
        · rw [← e8, rI_wi (by decide), ← e4, rI_wa (by decide)]; exact ht
        · rw [← e8, rI_ww (by omega)]; omega
        · rw [← e8, rI_wa (by decide), ← e4]
          by_cases c : q = k
          · rw [c, rI_ww (by omega)]
          · rw [rI_wi (by omega)]; exact ho q q0 (by omega)
      apply v_X10_feed_23 (hF.g hG) ra rb rc re rf (by omega)
      refine ⟨fun z => by omega, fun _ => ⟨fun q1 => ⟨fun q2 => ⟨fun q3 => ⟨fun q4 => one f rf ?_, fun q4 => one e re ?_⟩, fun q3 => one c rc ?_⟩, fun q2 => one b rb ?_⟩, fun q1 => one a ra ?_⟩⟩
      · unfold arg5; rw [if_neg (by omega), if_neg (by omega), if_neg (by omega), if_neg (by omega)]
      · unfold arg5; rw [if_neg (by omega), if_neg (by omega), if_neg (by omega), if_pos (by omega)]
      · unfold arg5; rw [if_neg (by omega), if_neg (by omega), if_pos (by omega)]
      · unfold arg5; rw [if_neg (by omega), if_pos (by omega)]
      · unfold arg5; rw [if_pos (by omega)]
  exact loop _ 0 σ1 rfl (by omega) (by omega) (hF1.weak (fun a i z => Or.inr ⟨z.1, Or.inl z.2⟩)) t1 (by rw [o1 76 1 (by omega), hm]; omega) (fun q a b => by omega)
theorem m_daysB {x : Int} (hG : G σ u) (rx : inR x) (hc : Rc σ) (hx : ¬ (1 ≤ x ∧ x ≤ 99)) : TI sc (d + 2) mX10_days [.ref 76, .int (nZ x)] σ (fun r σ1 => r = 0 ∧ MRef σ σ1 1 1) := by
  apply T.int
  apply t_X10_days hG rx
  intro σ1 e1
  obtain ⟨hG1, t1, hF1, hD1, o1⟩ := m_pre0 hG e1
  obtain ⟨r6, σ6, he6, hr6, e6, hx6⟩ := m_in (sc := sc) (d := d) (x := x) (lo := 1) (hi := 99) hG1 rx (by decide) (by decide)
  subst e6
  obtain ⟨σ3, he3, hm3⟩ := m_bad1 (sc := sc) (d := d) (w := 1) (q := 1) hG1 t1 (by omega) (by omega) ((hc.pre e1) 1 (by omega))
  exact ⟨r6, σ6, he6, hG1, hr6, fun q => by omega, fun q => ⟨1, σ3, he3, hm3.g hG1, by decide, fun z => absurd z (by decide), fun _ => ⟨0, rfl, by decide, rfl, hm3.pre e1⟩⟩⟩
theorem m_whenB {x : Int} (hG : G σ u) (rx : inR x) (hc : Rc σ) (hx : ¬ (0 ≤ x ∧ x ≤ 99999)) : TI sc (d + 2) mX10_when [.ref 76, .int (nZ x)] σ (fun r σ1 => r = 0 ∧ MRef σ σ1 1 1) := by
  apply T.int
  apply t_X10_when hG rx
  intro σ1 e1
  obtain ⟨hG1, t1, hF1, hD1, o1⟩ := m_pre0 hG e1
  obtain ⟨r6, σ6, he6, hr6, e6, hx6⟩ := m_in (sc := sc) (d := d) (x := x) (lo := 0) (hi := 99999) hG1 rx (by decide) (by decide)
  subst e6
  obtain ⟨σ3, he3, hm3⟩ := m_bad1 (sc := sc) (d := d) (w := 1) (q := 1) hG1 t1 (by omega) (by omega) ((hc.pre e1) 1 (by omega))
  exact ⟨r6, σ6, he6, hG1, hr6, fun q => by omega, fun q => ⟨1, σ3, he3, hm3.g hG1, by decide, fun z => absurd z (by decide), fun _ => ⟨0, rfl, by decide, rfl, hm3.pre e1⟩⟩⟩
theorem m_whatB {x : Int} (hG : G σ u) (rx : inR x) (hc : Rc σ) (hx : ¬ (0 ≤ x ∧ x ≤ 1)) : TI sc (d + 2) mX10_what [.ref 76, .int (nZ x)] σ (fun r σ1 => r = 0 ∧ MRef σ σ1 1 1) := by
  apply T.int
  apply t_X10_what hG rx
  intro σ1 e1
  obtain ⟨hG1, t1, hF1, hD1, o1⟩ := m_pre0 hG e1
  obtain ⟨r6, σ6, he6, hr6, e6, hx6⟩ := m_in (sc := sc) (d := d) (x := x) (lo := 0) (hi := 1) hG1 rx (by decide) (by decide)
  subst e6
  obtain ⟨σ3, he3, hm3⟩ := m_bad1 (sc := sc) (d := d) (w := 1) (q := 1) hG1 t1 (by omega) (by omega) ((hc.pre e1) 1 (by omega))
  refine ⟨r6, σ6, he6, hG1, hr6, fun q => by omega, fun q => ?_⟩
  apply v_X10_what_20 hG1 rx (by decide)
  exact ⟨1, σ3, he3, hm3.g hG1, by decide, fun z => absurd z (by decide), fun _ => ⟨0, rfl, by decide, rfl, hm3.pre e1⟩⟩
theorem m_improvedB {x : Int} (hG : G σ u) (rx : inR x) (hc : Rc σ) (hx : ¬ (0 ≤ x ∧ x ≤ 1)) : TI sc (d + 2) mX10_improved [.ref 76, .int (nZ x)] σ (fun r σ1 => r = 0 ∧ MRef σ σ1 1 1) := by
  apply T.int
  apply t_X10_improved hG rx
  intro σ1 e1
  obtain ⟨hG1, t1, hF1, hD1, o1⟩ := m_pre0 hG e1
  obtain ⟨r6, σ6, he6, hr6, e6, hx6⟩ := m_in (sc := sc) (d := d) (x := x) (lo := 0) (hi := 1) hG1 rx (by decide) (by decide)
  subst e6
  obtain ⟨σ3, he3, hm3⟩ := m_bad1 (sc := sc) (d := d) (w := 1) (q := 1) hG1 t1 (by omega) (by omega) ((hc.pre e1) 1 (by omega))
  refine ⟨r6, σ6, he6, hG1, hr6, fun q => by omega, fun q => ?_⟩
  apply v_X10_improved_20 hG1 rx (by decide)
  exact ⟨1, σ3, he3, hm3.g hG1, by decide, fun z => absurd z (by decide), fun _ => ⟨0, rfl, by decide, rfl, hm3.pre e1⟩⟩
theorem m_poleB {x y : Int} (hG : G σ u) (rx : inR x) (ry : inR y) (hc : Rc σ) (hx : ¬ ((0 ≤ x ∧ x ≤ 60) ∧ (0 ≤ y ∧ y ≤ 1))) : TI sc (d + 2) mX10_pole [.ref 76, .int (nZ x), .int (nZ y)] σ (fun r σ1 => r = 0 ∧ MRef σ σ1 1 1) := by
  apply T.int
  apply t_X10_pole hG rx ry
  intro σ1 e1
  obtain ⟨hG1, t1, hF1, hD1, o1⟩ := m_pre0 hG e1
  obtain ⟨r6, σ6, he6, hr6, e6, hx6⟩ := m_in (sc := sc) (d := d) (x := x) (lo := 0) (hi := 60) hG1 rx (by decide) (by decide)
  subst e6
  obtain ⟨r7, σ7, he7, hr7, e7, hx7⟩ := m_in (sc := sc) (d := d) (x := y) (lo := 0) (hi := 1) hG1 ry (by decide) (by decide)
  subst e7
  obtain ⟨σ3, he3, hm3⟩ := m_bad1 (sc := sc) (d := d) (w := 1) (q := 1) hG1 t1 (by omega) (by omega) ((hc.pre e1) 1 (by omega))
  have bad : ∃ (r13 : Int) (σ9 : aH), Ev sc (d + 1) mX10_bad [.ref 76, .int (nZ 1), .int (nZ 1), .int (nZ 1)] σ7 (.inl (some (.int (nZ r13)))) σ9 ∧ G σ9 u ∧ inR r13 ∧ (r13 = 0 → L_X10_pole_48 (Ev sc (d + 1)) sc (QI (fun r σ1 => r = 0 ∧ MRef σ σ1 1 1)) x y (-1) 0 0 σ9) ∧ (¬ (r13 = 0) → QI (fun r σ1 => r = 0 ∧ MRef σ σ1 1 1) (.inl (some (.int (nZ 0)))) σ9) := ⟨1, σ3, he3, hm3.g hG1, by decide, fun z => absurd z (by decide), fun _ => ⟨0, rfl, by decide, rfl, hm3.pre e1⟩⟩
  exact ⟨r6, σ7, he6, hG1, hr6, fun q => bad, fun q => ⟨r7, σ7, he7, hG1, hr7, fun q1 => by omega, fun q1 => bad⟩⟩
theorem m_setB {x y : Int} (hG : G σ u) (h2 : rI σ 80 2 = n) (h9 : 0 ≤ n ∧ n ≤ 8) (rx : inR x) (ry : inR y) (hc : Rc σ) (hx : ¬ ((1 ≤ x ∧ x < 2 ^ n.toNat) ∧ sm (fun k => bt x k) 24 ≤ 2 ∧ (0 ≤ y ∧ y ≤ 1))) : TI sc (d + 2) mX10_set [.ref 76, .int (nZ x), .int (nZ y)] σ (fun r σ1 => r = 0 ∧ MRef σ σ1 1 1) := by
  have p256 : (1 : Int) ≤ 2 ^ n.toNat ∧ (2 : Int) ^ n.toNat ≤ 256 := by
    have : ∀ k : Nat, k ≤ 8 → (1 : Int) ≤ 2 ^ k ∧ (2 : Int) ^ k ≤ 256 := by decide
    exact this n.toNat (by omega)
  apply T.int
  apply t_X10_set hG rx ry
  intro σ1 e1
  obtain ⟨hG1, t1, hF1, hD1, o1⟩ := m_pre0 hG e1
  rw [(o1 80 2 (by omega)).trans h2, zShl_1 h9.1 (by omega)]
  obtain ⟨r6, σ6, he6, hr6, e6, hx6⟩ := m_in (sc := sc) (d := d) (x := x) (lo := 1) (hi := 2 ^ n.toNat - 1) hG1 rx (by decide) (by omega)
  subst e6
  obtain ⟨r7, σ7, he7, hr7, e7, hx7⟩ := m_in (sc := sc) (d := d) (x := y) (lo := 0) (hi := 1) hG1 ry (by decide) (by decide)
  subst e7
  obtain ⟨σ3, he3, hm3⟩ := m_bad1 (sc := sc) (d := d) (w := 1) (q := 1) hG1 t1 (by omega) (by omega) ((hc.pre e1) 1 (by omega))
  have bad : L_X10_set_41 (Ev sc (d + 1)) sc (QI (fun r σ1 => r = 0 ∧ MRef σ σ1 1 1)) x y σ7 := by
    apply v_X10_set_41 hG1 rx ry
    exact ⟨1, σ3, he3, hm3.g hG1, by decide, fun z => absurd z (by decide), fun _ => ⟨0, rfl, by decide, rfl, hm3.pre e1⟩⟩
  refine ⟨by omega, r6, σ7, he6, hG1, hr6, fun q => bad, fun q => ?_⟩
  obtain ⟨r8, σ8, he8, hr8, e8, h8⟩ := m_ones (sc := sc) (d := d) (b := x) hG1 (by omega)
  subst e8
  exact ⟨r8, σ8, he8, hG1, hr8, fun q1 => bad, fun q1 => ⟨r7, σ8, he7, hG1, hr7, fun q2 => by omega, fun q2 => bad⟩⟩
end
