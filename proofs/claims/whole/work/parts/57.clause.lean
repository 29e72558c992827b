/-! THE CLASS'S READER: clauses, and a whole text. -/
section
variable {sc : Nat × (Nat → Int32)} {d : Nat} {σ : aH} {u v : Nat} {c : Int → Int} {e : Int}
/-- a value more, or another one -/
def tl (E : Nat → Option Int) (m x : Int) : Nat → Option Int := fun t => if t = m.toNat then some x else E t
theorem s_tell {a : Nat} {E : Nat → Option Int} {m x : Int} (hG : G σ u) (ha : IsCh a) (hR : RepC (rI σ) a E) (hm : 0 ≤ m ∧ m < 1440) (rx : inR x) (h20 : rI σ a 2 < 20) : TV sc (d + 1) mX0_tell [.ref a, .int (nZ m), .int (nZ x)] σ (fun σ1 => Fr (fun b i => (b = a ∧ i = 2) ∨ b = a + 1 ∨ b = a + 2) σ σ1 ∧ RepC (rI σ1) a (tl E m x) ∧ rI σ1 a 2 ≤ rI σ a 2 + 1) := by
  obtain ⟨n0, n20, hval, hsrt, hall⟩ := hR
  obtain ⟨n, hn⟩ : ∃ n : Int, n = rI σ a 2 := ⟨_, rfl⟩
  rw [← hn] at n0 n20 hval hsrt hall h20
  apply T.void
  apply t_X0_tell hG ha (by omega) rx
  obtain ⟨A, hA⟩ : ∃ A : Nat → Int → Prop, A = fun b i => (b = a ∧ i = 2) ∨ b = a + 1 ∨ b = a + 2 := ⟨_, rfl⟩
  rw [← hA, ← hn]
  obtain ⟨P, hP⟩ : ∃ P : aO → aH → Prop, P = QV (fun σ1 => Fr A σ σ1 ∧ RepC (rI σ1) a (tl E m x) ∧ rI σ1 a 2 ≤ n + 1) := ⟨_, rfl⟩
  rw [← hP]
  have tle : ∀ t : Nat, t = m.toNat → tl E m x t = some x := fun t ht => if_pos ht
  have tln : ∀ t : Nat, t ≠ m.toNat → tl E m x t = E t := fun t ht => if_neg ht
  -- inserting
  have ins : ∀ (k : Int), 0 ≤ k → k ≤ n → (∀ q : Int, 0 ≤ q → q < k → rI σ (a + 1) q < m) → (k < n → m < rI σ (a + 1) k) → ∀ (g : Nat) (i : Int) (τ : aH), (i - k).toNat = g → k ≤ i → i ≤ n → Fr A σ τ → rI τ a 2 = n → (∀ q : Int, 0 ≤ q → q ≤ i → q < n → rI τ (a + 1) q = rI σ (a + 1) q ∧ rI τ (a + 2) q = rI σ (a + 2) q) → (∀ q : Int, i < q → q ≤ n → rI τ (a + 1) q = rI σ (a + 1) (q - 1) ∧ rI τ (a + 2) q = rI σ (a + 2) (q - 1)) → L_X0_tell_68 (Ev sc d) sc P a m x k i τ := by
    intro k k0 kn hbe haf g
    induction g with
    | zero =>
      intro i τ hg ik i1 hF hnt hlo hhi
      have eik : i = k := by omega
      apply v_X0_tell_68 (hF.g hG) ha (by omega) rx (by omega) (by omega)
      refine ⟨fun _ => ⟨by omega, fun σ1 e1 => ⟨by omega, fun σ4 e4 => ?_⟩⟩, fun z => by omega⟩
      have n4 : rI σ4 a 2 = n := by rw [← e4, rI_wa (by omega), ← e1, rI_wa (by omega)]; exact hnt
      rw [n4]
      refine ⟨by omega, fun σ8 e8 => ?_⟩
      have n8 : rI σ8 a 2 = n + 1 := by rw [← e8]; exact rI_ww (by omega)
      have f8 : ∀ q : Int, 0 ≤ q → (q < k → rI σ8 (a + 1) q = rI σ (a + 1) q ∧ rI σ8 (a + 2) q = rI σ (a + 2) q) ∧ (q = k → rI σ8 (a + 1) q = m ∧ rI σ8 (a + 2) q = x) ∧ (k < q → q ≤ n → rI σ8 (a + 1) q = rI σ (a + 1) (q - 1) ∧ rI σ8 (a + 2) q = rI σ (a + 2) (q - 1)) := by
        intro q q0
        have w1 : q ≠ k → rI σ8 (a + 1) q = rI τ (a + 1) q ∧ rI σ8 (a + 2) q = rI τ (a + 2) q := fun z => ⟨by rw [← e8, rI_wa (by omega), ← e4, rI_wa (by omega), ← e1, rI_wi (by omega)], by rw [← e8, rI_wa (by omega), ← e4, rI_wi (by omega), ← e1, rI_wa (by omega)]⟩
        refine ⟨fun z => ?_, fun z => ?_, fun z z1 => ?_⟩
        · rw [(w1 (by omega)).1, (w1 (by omega)).2]; exact hlo q q0 (by omega) (by omega)
        · rw [z]; exact ⟨by rw [← e8, rI_wa (by omega), ← e4, rI_wa (by omega), ← e1]; exact rI_ww (by omega), by rw [← e8, rI_wa (by omega), ← e4]; exact rI_ww rx⟩
        · rw [(w1 (by omega)).1, (w1 (by omega)).2]; exact hhi q (by omega) z1
      have gt : ∀ q : Int, k ≤ q → q < n → m < rI σ (a + 1) q := by
        intro q q0 q1
        by_cases z : q = k
        · rw [z]; exact haf (by omega)
        · have := hsrt k q k0 (by omega) q1; have := haf (by omega); omega
      rw [hP]
      refine ⟨rfl, ?_, ⟨by omega, by omega, fun q q0 q1 => ?_, fun p q p0 p1 p2 => ?_, fun t y hy => ?_⟩, by omega⟩
      · rw [← e8, ← e4, ← e1, hA]
        rw [hA] at hF
        exact ((hF.trans (Fr.w k0 (Or.inr (Or.inl rfl)))).trans (Fr.w k0 (Or.inr (Or.inr rfl)))).trans (Fr.w (by omega) (Or.inl ⟨rfl, rfl⟩))
      · rw [n8] at q1
        by_cases z : q < k
        · have := (f8 q q0).1 z
          rw [this.1, this.2]
          have h1 := hval q q0 (by omega)
          have h2 := hbe q q0 z
          rw [tln _ (by omega)]; exact h1
        · by_cases z1 : q = k
          · have := (f8 q q0).2.1 z1
            rw [this.1, this.2]
            exact ⟨hm.1, hm.2, tle _ rfl⟩
          · have := (f8 q q0).2.2 (by omega) (by omega)
            rw [this.1, this.2]
            have h1 := hval (q - 1) (by omega) (by omega)
            have h2 := gt (q - 1) (by omega) (by omega)
            rw [tln _ (by omega)]; exact h1
      · rw [n8] at p2
        have lo : ∀ p : Int, 0 ≤ p → p < k → rI σ8 (a + 1) p = rI σ (a + 1) p := fun p a1 a2 => ((f8 p a1).1 a2).1
        have mi : rI σ8 (a + 1) k = m := ((f8 k k0).2.1 rfl).1
        have hi : ∀ p : Int, k < p → p ≤ n → rI σ8 (a + 1) p = rI σ (a + 1) (p - 1) := fun p a1 a2 => ((f8 p (by omega)).2.2 a1 a2).1
        by_cases z : q < k
        · rw [lo p p0 (by omega), lo q (by omega) z]; exact hsrt p q p0 p1 (by omega)
        · by_cases z1 : q = k
          · rw [z1, mi, lo p p0 (by omega)]; exact hbe p p0 (by omega)
          · rw [hi q (by omega) (by omega)]
            by_cases z2 : p < k
            · rw [lo p p0 z2]
              have := hbe p p0 z2; have := gt (q - 1) (by omega) (by omega); omega
            · by_cases z3 : p = k
              · rw [z3, mi]; exact gt (q - 1) (by omega) (by omega)
              · rw [hi p (by omega) (by omega)]; exact hsrt (p - 1) (q - 1) (by omega) (by omega) (by omega)
      · rw [n8]
        by_cases z : t = m.toNat
        · exact ⟨k, k0, by omega, by rw [((f8 k k0).2.1 rfl).1]; omega⟩
        · rw [tln t z] at hy
          obtain ⟨q, q0, q1, q2⟩ := hall t y hy
          by_cases z1 : q < k
          · exact ⟨q, q0, by omega, by rw [((f8 q q0).1 z1).1]; exact q2⟩
          · refine ⟨q + 1, by omega, by omega, ?_⟩
            rw [((f8 (q + 1) (by omega)).2.2 (by omega) (by omega)).1, show q + 1 - 1 = q by omega]; exact q2
    | succ g ih =>
      intro i τ hg ik i1 hF hnt hlo hhi
      apply v_X0_tell_68 (hF.g hG) ha (by omega) rx (by omega) (by omega)
      refine ⟨fun z => by omega, fun _ => ⟨by omega, by omega, by omega, fun σ12 e12 => ⟨by omega, by omega, by omega, fun σ16 e16 => ⟨by omega, ?_⟩⟩⟩⟩
      have ei : i + -1 = i - 1 := by omega
      rw [ei]
      have hl := hlo (i - 1) (by omega) (by omega) (by omega)
      have w12 : ∀ q : Int, 0 ≤ q → q ≠ i → rI σ16 (a + 1) q = rI τ (a + 1) q ∧ rI σ16 (a + 2) q = rI τ (a + 2) q := fun q q0 z => ⟨by rw [← e16, rI_wa (by omega), ← e12, rI_wi (by omega)], by rw [← e16, rI_wi (by omega), ← e12, rI_wa (by omega)]⟩
      refine ih (i - 1) σ16 (by omega) (by omega) (by omega) ?_ ?_ (fun q q0 q1 q2 => ?_) (fun q q0 q1 => ?_)
      · rw [← e16, ← e12, hA]
        rw [hA] at hF
        exact (hF.trans (Fr.w (by omega) (Or.inr (Or.inl rfl)))).trans (Fr.w (by omega) (Or.inr (Or.inr rfl)))
      · rw [← e16, rI_wa (by omega), ← e12, rI_wa (by omega)]; exact hnt
      · rw [(w12 q q0 (by omega)).1, (w12 q q0 (by omega)).2]; exact hlo q q0 (by omega) q2
      · by_cases z : q = i
        · rw [z]
          refine ⟨?_, ?_⟩
          · rw [← e16, rI_wa (by omega), ← e12, rI_ww (rI_R _ _ _)]; exact hl.1
          · rw [← e16, rI_ww (rI_R _ _ _), ← e12, rI_wa (by omega)]; exact hl.2
        · rw [(w12 q (by omega) z).1, (w12 q (by omega) z).2]; exact hhi q (by omega) q1
  have insS : ∀ (k : Int), 0 ≤ k → k ≤ n → (∀ q : Int, 0 ≤ q → q < k → rI σ (a + 1) q < m) → (k < n → m < rI σ (a + 1) k) → ∀ z : Int, z = n → L_X0_tell_68 (Ev sc d) sc P a m x k z σ := fun k k0 kn hb hf z hz => by
    rw [hz]
    exact ins k k0 kn hb hf _ n σ rfl kn (Int.le_refl n) (Fr.refl _ _) hn.symm (fun q _ _ _ => ⟨rfl, rfl⟩) (fun q a b => by omega)
  -- the place
  have at26 : ∀ (k : Int), 0 ≤ k → k ≤ n → (∀ q : Int, 0 ≤ q → q < k → rI σ (a + 1) q < m) → (k < n → m ≤ rI σ (a + 1) k) → L_X0_tell_26 (Ev sc d) sc P a m x k σ := by
    intro k k0 kn hb hf
    apply v_X0_tell_26 hG ha (by omega) rx (by omega)
    rw [← hn]
    refine ⟨fun z => ⟨fun _ => insS k k0 kn hb (fun q => by omega), fun q => by omega⟩, fun z => ⟨by omega, fun z1 => ⟨fun _ => insS k k0 kn hb (fun q => by have := hf q; omega), fun q => by omega⟩, fun z1 => ⟨by omega, fun σ7 e7 => ?_⟩⟩⟩
    rw [hP]
    have n7 : rI σ7 a 2 = n := by rw [← e7, rI_wa (by omega)]; exact hn.symm
    have f7 : ∀ q : Int, rI σ7 (a + 1) q = rI σ (a + 1) q := fun q => by rw [← e7, rI_wa (by omega)]
    refine ⟨rfl, ?_, ⟨by omega, by omega, fun q q0 q1 => ?_, fun p q p0 p1 p2 => ?_, fun t y hy => ?_⟩, by omega⟩
    · rw [← e7, hA]; exact Fr.w k0 (Or.inr (Or.inr rfl))
    · rw [n7] at q1
      rw [f7]
      have hv := hval q q0 q1
      by_cases z2 : q = k
      · rw [z2, z1, ← e7, rI_ww rx]
        exact ⟨hm.1, hm.2, tle _ rfl⟩
      · rw [← e7, rI_wi (by omega)]
        have ne : rI σ (a + 1) q ≠ m := by
          rw [← z1]
          by_cases z3 : q < k
          · have := hsrt q k q0 z3 (by omega); omega
          · have := hsrt k q k0 (by omega) q1; omega
        rw [tln _ (by omega)]; exact hv
    · rw [n7] at p2
      rw [f7, f7]; exact hsrt p q p0 p1 p2
    · rw [n7]
      by_cases z2 : t = m.toNat
      · exact ⟨k, k0, by omega, by rw [f7, z1]; omega⟩
      · rw [tln t z2] at hy
        obtain ⟨q, q0, q1, q2⟩ := hall t y hy
        exact ⟨q, q0, q1, by rw [f7]; exact q2⟩
  have find : ∀ (g : Nat) (k : Int), (n - k).toNat = g → 0 ≤ k → k ≤ n → (∀ q : Int, 0 ≤ q → q < k → rI σ (a + 1) q < m) → L_X0_tell_2 (Ev sc d) sc P a m x k σ := by
    intro g
    induction g with
    | zero =>
      intro k hg k0 kn hb
      apply v_X0_tell_2 hG ha (by omega) rx (by omega)
      rw [← hn]
      exact ⟨fun _ => at26 k k0 kn hb (fun q => by omega), fun z => by omega⟩
    | succ g ih =>
      intro k hg k0 kn hb
      apply v_X0_tell_2 hG ha (by omega) rx (by omega)
      rw [← hn]
      refine ⟨fun z => by omega, fun _ => ⟨by omega, fun z => at26 k k0 kn hb (fun _ => z), fun z => ⟨by omega, ih (k + 1) (by omega) (by omega) (by omega) (fun q q0 q1 => ?_)⟩⟩⟩
      by_cases z1 : q = k
      · rw [z1]; omega
      · exact hb q q0 (by omega)
  exact find _ 0 rfl (by omega) n0 (fun q a b => by omega)
/-! steps of a reading -/
def St (σ : aH) (u v : Nat) (c : Int → Int) (e : Int) (K : Nat → Int) : Prop := G σ u ∧ IsMk v ∧ RdS σ c e ∧ (0 ≤ K 11 ∧ K 11 ≤ e) ∧ Kc σ v = K
theorem AR_no (q : AR 1 2) : False := by have := q.2.1; omega
theorem numK_at {lo hi : Int} {K : Nat → Int} (hT : TxS c e) (h : 0 ≤ K 11 ∧ K 11 ≤ e) : 0 ≤ numK c lo hi K 11 ∧ numK c lo hi K 11 ≤ e := by
  rw [numK_11]
  show 0 ≤ scF c isDg (scF c isB (K 11)) ∧ scF c isDg (scF c isB (K 11)) ≤ e
  have h1 := scF_bd hT.b (K 11)
  have h2 := scF_bd hT.d (scF c isB (K 11))
  have := h1.2 h.2
  have := h2.2 (by omega)
  omega
theorem skK_ne {K : Nat → Int} {j : Nat} (h : j ≠ 11) : skK c K j = K j := kset_ne h
theorem skK_at {K : Nat → Int} (hT : TxS c e) (h : 0 ≤ K 11 ∧ K 11 ≤ e) : 0 ≤ skK c K 11 ∧ skK c K 11 ≤ e := by
  have e1 : skK c K 11 = scF c isB (K 11) := kset_eq
  rw [e1]
  have h1 := scF_bd hT.b (K 11)
  have := h1.2 h.2
  omega
theorem enK_at {K : Nat → Int} (hT : TxS c e) (h : 0 ≤ K 11 ∧ K 11 ≤ e) : 0 ≤ enK c K 11 ∧ enK c K 11 ≤ e := by
  have h1 := skK_at hT h
  unfold enK
  split
  · rename_i z
    rw [kset_eq]
    by_cases z1 : e ≤ skK c K 11
    · rw [hT.2.1 _ z1] at z; exact absurd z (by decide)
    · omega
  · rw [flt_ne (by decide) (by decide)]; exact h1
theorem r_num {lo hi : Int} {K : Nat → Int} (h : St σ u v c e K) (rl : inR lo) (rh : inR hi) : TI sc (d + 3) mX5_readNumber [.ref 1, .int (nZ lo), .int (nZ hi)] σ (fun r σ1 => Fr AR σ σ1 ∧ St σ1 u v c e (numK c lo hi K) ∧ r = numV c lo hi K) := by
  obtain ⟨hG, hv, hR, h0, hK⟩ := h
  have e11 : K 11 = rI σ 1 3 := by rw [← hK]; rfl
  obtain ⟨r, σ1, he, hr, hF, h1, h2⟩ := s_readNumber (sc := sc) (d := d) (v := v) hG hv hR (by omega) rl rh
  rw [hK] at h1 h2
  exact ⟨r, σ1, he, hr, hF, ⟨hF.g hG, hv, hR.fr hF AR_no (fun i q => by have := q.1; omega), numK_at hR.1 h0, h1⟩, h2⟩
theorem r_skip {K : Nat → Int} (h : St σ u v c e K) : TV sc (d + 2) mX5_skipBlanks [.ref 1] σ (fun σ1 => Fr AR σ σ1 ∧ St σ1 u v c e (skK c K)) := by
  obtain ⟨hG, hv, hR, h0, hK⟩ := h
  have e11 : K 11 = rI σ 1 3 := by rw [← hK]; rfl
  obtain ⟨σ1, he, hF, h1⟩ := s_skip (sc := sc) (d := d) hG hR (by omega)
  have hF' := hF.weak A13_AR
  refine ⟨σ1, he, hF', hF'.g hG, hv, hR.fr hF' AR_no (fun i q => by have := q.1; omega), skK_at hR.1 h0, ?_⟩
  rw [Kc_at hv hF h1, hK]; unfold skK; rw [e11]
theorem r_blame {a b : Int} {K : Nat → Int} (h : St σ u v c e K) (ra : inR a) (rb : inR b) : TV sc (d + 1) mX5_blame [.ref 1, .int (nZ a), .int (nZ b)] σ (fun σ1 => Fr AR σ σ1 ∧ St σ1 u v c e (flt K a b)) := by
  obtain ⟨hG, hv, hR, h0, hK⟩ := h
  obtain ⟨σ1, he, hF, h1⟩ := s_blame (sc := sc) (d := d) (v := v) hG hv ra rb
  refine ⟨σ1, he, hF, hF.g hG, hv, hR.fr hF AR_no (fun i q => by have := q.1; omega), by rw [flt_ne (by decide) (by decide)]; exact h0, ?_⟩
  rw [h1, hK]
theorem r_end {K : Nat → Int} (h : St σ u v c e K) : TV sc (d + 3) mX5_readEnd [.ref 1] σ (fun σ1 => Fr AR σ σ1 ∧ St σ1 u v c e (enK c K)) := by
  obtain ⟨hG, hv, hR, h0, hK⟩ := h
  have e11 : K 11 = rI σ 1 3 := by rw [← hK]; rfl
  obtain ⟨σ1, he, hF, h1⟩ := s_readEnd (sc := sc) (d := d) (v := v) hG hv hR (by omega)
  refine ⟨σ1, he, hF, hF.g hG, hv, hR.fr hF AR_no (fun i q => by have := q.1; omega), enK_at hR.1 h0, ?_⟩
  rw [h1, hK]
/-- writing a number of the state -/
theorem r_w {j : Nat} {x : Int} {K : Nat → Int} (h : St σ u v c e K) (hj : j ≤ 10) (rx : inR x) : St (wI σ (ka v j) (ki j) x) u v c e (kset K j x) := by
  obtain ⟨hG, hv, hR, h0, hK⟩ := h
  have hmv : v = 39 ∨ v = 60 := hv
  refine ⟨hG.wI, hv, ⟨hR.1, ?_, fun k a b => ?_⟩, by rw [kset_ne (by omega)]; exact h0, by rw [Kc_w hv (by omega) rx, hK]⟩
  · rw [← hR.2.1]
    have hk : ∀ j : Nat, j ≤ 10 → (ki j).toNat ≠ 2 := by decide +kernel
    exact rI_wi (by have := hk j hj; omega)
  · rw [← hR.2.2 k a b]
    refine rI_wa ?_
    have h39 : ∀ j : Nat, j ≤ 10 → 2 ≠ ka 39 j := by decide +kernel
    have h60 : ∀ j : Nat, j ≤ 10 → 2 ≠ ka 60 j := by decide +kernel
    rcases hmv with rfl | rfl
    · exact h39 j hj
    · exact h60 j hj
/-- what stands in the market that is read -/
def Ct (σ : aH) (v : Nat) (D : Nat → Int → Int) (E : Nat → Nat → Option Int) (K : Nat → Int) : Prop := Dc (rI σ) v = D ∧ RepC (rI σ) (v + 10) (E 0) ∧ RepC (rI σ) (v + 13) (E 1) ∧ rI σ v 8 = 0 ∧ rI σ v 9 = 0 ∧ rI σ (v + 10) 2 ≤ K 7 ∧ rI σ (v + 13) 2 ≤ K 8
theorem Ct.fr {A : Nat → Int → Prop} {σ1 : aH} {D : Nat → Int → Int} {E : Nat → Nat → Option Int} {K : Nat → Int} (h : Ct σ v D E K) (hF : Fr A σ σ1) (h1 : ¬ A v 8) (h2 : ¬ A v 9) (h3 : ∀ (a : Nat) (i : Int), v + 2 ≤ a → a ≤ v + 15 → ¬ A a i) : Ct σ1 v D E K := by
  obtain ⟨a1, a2, a3, a4, a5, a6, a7⟩ := h
  have row : ∀ a : Nat, v + 2 ≤ a → a ≤ v + 15 → rI σ1 a = rI σ a := fun a p q => hF.row (fun i => h3 a i p q)
  refine ⟨(Dc_congr (fun a p q => row a p (by omega))).trans a1, a2.congr (by rw [row _ (by omega) (by omega)]) (fun i _ => by rw [row _ (by omega) (by omega)]) (fun i _ => by rw [row _ (by omega) (by omega)]), a3.congr (by rw [row _ (by omega) (by omega)]) (fun i _ => by rw [row _ (by omega) (by omega)]) (fun i _ => by rw [row _ (by omega) (by omega)]), (hF.rw (by omega) h1).trans a4, (hF.rw (by omega) h2).trans a5, by rw [row _ (by omega) (by omega)]; exact a6, by rw [row _ (by omega) (by omega)]; exact a7⟩
theorem Ct.ar {σ1 : aH} {D : Nat → Int → Int} {E : Nat → Nat → Option Int} {K : Nat → Int} (hv : IsMk v) (h : Ct σ v D E K) (hF : Fr AR σ σ1) : Ct σ1 v D E K := by
  have hmv : v = 39 ∨ v = 60 := hv
  exact h.fr hF (fun q => by have := q.1; omega) (fun q => by have := q.1; omega) (fun a i p q z => by have := z.1; omega)
/-- all that a reading changes -/
abbrev AD (v : Nat) : Nat → Int → Prop := fun a i => (a = 1 ∧ 3 ≤ i ∧ i ≤ 8) ∨ (a = v ∧ 3 ≤ i ∧ i ≤ 7) ∨ (a = v + 1 ∧ i = 8) ∨ (v + 2 ≤ a ∧ a ≤ v + 15)
theorem AR_AD (v : Nat) (a : Nat) (i : Int) (h : AR a i) : AD v a i := Or.inl h
/-- bounds of the state that hold behind every clause, a fault or none -/
def Kb (K : Nat → Int) : Prop := (0 ≤ K 0 ∧ K 0 ≤ 9) ∧ (0 ≤ K 1 ∧ K 1 ≤ 9) ∧ (0 ≤ K 2 ∧ K 2 ≤ 8) ∧ (0 ≤ K 6 ∧ K 6 ≤ 61) ∧ (0 ≤ K 7 ∧ K 7 ≤ 20) ∧ (0 ≤ K 8 ∧ K 8 ≤ 20)
def CRep (σ : aH) (u v : Nat) (c : Int → Int) (e : Int) (P : PS) : Prop := St σ u v c e P.1 ∧ Ct σ v P.2.1 P.2.2 P.1 ∧ Kb P.1
theorem numV_R {lo hi : Int} {K : Nat → Int} (rl : inR lo) (rh : inR hi) : inR (numV c lo hi K) := by
  have := (numV_bd (c := c) (lo := lo) (hi := hi) (K := K)).1
  omega
theorem numV_09 {hi : Int} {K : Nat → Int} (rh : 0 ≤ hi) : 0 ≤ numV c 0 hi K ∧ numV c 0 hi K ≤ hi := by
  have := (numV_bd (c := c) (lo := 0) (hi := hi) (K := K)).1
  omega
theorem Kb.congr {K K1 : Nat → Int} (h : Kb K) (h0 : K1 0 = K 0) (h1 : K1 1 = K 1) (h2 : K1 2 = K 2) (h6 : K1 6 = K 6) (h7 : K1 7 = K 7) (h8 : K1 8 = K 8) : Kb K1 := by
  unfold Kb at h ⊢
  rw [h0, h1, h2, h6, h7, h8]; exact h
theorem s_readStall {P : PS} (h : CRep σ u v c e P) (h8 : P.1 2 < 8) : TV sc (d + 4) mX5_readStall [.ref 1, .ref v] σ (fun σ1 => Fr (AD v) σ σ1 ∧ CRep σ1 u v c e (stF c P)) := by
  obtain ⟨hS, hC, hB⟩ := h
  obtain ⟨K, D, E⟩ := P
  have hv := hS.2.1
  have hmv : v = 39 ∨ v = 60 := hv
  obtain ⟨b0, b1, b2, b6, b7, b8⟩ := hB
  have b0' : 0 ≤ K 0 ∧ K 0 ≤ 9 := b0
  have b1' : 0 ≤ K 1 ∧ K 1 ≤ 9 := b1
  have b2' : 0 ≤ K 2 ∧ K 2 < 8 := ⟨b2.1, h8⟩
  have e0 : K 0 = rI σ v 3 := by have := hS.2.2.2.2; rw [← show Kc σ v = K from this]; rfl
  apply T.void
  apply t_X5_readStall hS.1 hv
  rw [← e0]
  obtain ⟨r6, σ2, he2, hr2, hF2, hS2, h2⟩ := r_num (sc := sc) (d := d) (lo := 0) (hi := K 0 - 1) hS (by decide) (by omega)
  obtain ⟨σ7, he7, hF7, hS7⟩ := r_skip (sc := sc) (d := d + 1) hS2
  have hS7' : St σ7 u v c e (stK2 c K) := hS7
  have k1 : stK2 c K 1 = K 1 := by
    unfold stK2
    rw [skK_ne (by decide)]
    exact numK_ne (by decide) (by decide) (by decide)
  have k1' : rI σ7 v 4 = stK2 c K 1 := by rw [← hS7'.2.2.2.2]; rfl
  have k11 : rI σ7 1 3 = stK2 c K 11 := by rw [← hS7'.2.2.2.2]; rfl
  refine ⟨by omega, r6, σ2, he2, hS2.1, hr2, σ7, he7, hS7.1, fun z11 e11 => ?_⟩
  rw [k1']
  obtain ⟨r19, σ15, he15, hr15, hF15, hS15, h15⟩ := r_num (sc := sc) (d := d) (lo := 0) (hi := stK2 c K 1 - 1) hS7' (by decide) (by omega)
  have hS15' : St σ15 u v c e (stK3 c K) := hS15
  have h2' : r6 = stX c K := h2
  have h15' : r19 = stY c K := h15
  have hF215 : Fr AR σ σ15 := (hF2.trans hF7).trans hF15
  have hC15 : Ct σ15 v D E K := hC.ar hv hF215
  have n15 : rI σ15 (v + 1) 8 = K 2 := by
    have : Kc σ v 2 = K 2 := congrFun hS.2.2.2.2 2
    rw [← this]; exact hF215.rw (by omega) (fun q => by have := q.1; omega)
  obtain ⟨r24, σ20, he20, hr20, e20, h20⟩ := s_whoIsAt (sc := sc) (d := d + 2) (v := v) (x := r6) (y := r19) hS15.1 hv n15 (by omega) (by omega) hr2 hr15
  subst e20
  rw [hC15.1] at h20
  refine ⟨by omega, r19, σ20, he15, hS15.1, hr15, r24, σ20, he20, hS15.1, hr20, ?_⟩
  -- the end, alike in both
  have fin : ∀ (τ : aH) (r : Int), Fr AR σ τ → St τ u v c e (stK5 c K D) → r = stH c K D → inR r → ∃ σ30 : aH, Ev sc (d + 3) mX7_add [.ref (v + 1), .int (nZ r6), .int (nZ r19), .int (nZ r)] τ (.inl none) σ30 ∧ G σ30 u ∧ QV (fun σ1 => Fr (AD v) σ σ1 ∧ CRep σ1 u v c e (stF c (K, D, E))) (.inl none) σ30 := by
    intro τ r hF hSt hr rr
    have hCt : Ct τ v D E K := hC.ar hv hF
    have nt : rI τ (v + 1) 8 = K 2 := by
      have : Kc σ v 2 = K 2 := congrFun hS.2.2.2.2 2
      rw [← this]; exact hF.rw (by omega) (fun q => by have := q.1; omega)
    obtain ⟨σ30, he30, hF30, hn30, hD30⟩ := s_add (sc := sc) (d := d + 2) (v := v) (x := r6) (y := r19) (h := r) hSt.1 hv nt (by omega) hr2 hr15 rr
    have nA : ∀ (a : Nat) (i : Int), (a ≤ v ∨ v + 10 ≤ a) → ¬ AA v (K 2) a i := fun a i q => by show ¬ (((v + 2 ≤ a ∧ a ≤ v + 9) ∧ i = K 2) ∨ (a = v + 1 ∧ i = 8)); omega
    have k5 : ∀ j : Nat, j ≠ 9 → j ≠ 10 → j ≠ 11 → stK5 c K D j = K j := by
      intro j j9 j10 j11
      have e4 : stK4 c K D j = stK3 c K j := by
        unfold stK4
        by_cases z : ∃ k : Int, At D (K 2) (stX c K) (stY c K) k
        · rw [kif_pos z, flt_ne j9 j10]
        · rw [kif_neg z]
      have e3 : stK3 c K j = K j := by
        unfold stK3; rw [numK_ne j9 j10 j11]
        unfold stK2
        rw [skK_ne j11]; exact numK_ne j9 j10 j11
      unfold stK5; rw [numK_ne j9 j10 j11, e4, e3]
    refine ⟨σ30, he30, hF30.g hSt.1, rfl, ?_, ⟨hF30.g hSt.1, hv, hSt.2.2.1.fr hF30 (nA _ _ (by omega)) (fun i => nA _ _ (by omega)), ?_, ?_⟩, ⟨?_, ?_, ?_, ?_, ?_, ?_, ?_⟩, ?_⟩
    · exact (hF.weak (AR_AD v)).trans (hF30.weak (fun a i q => by
        rcases q with q | q
        · exact Or.inr (Or.inr (Or.inr (by omega)))
        · exact Or.inr (Or.inr (Or.inl q))))
    · show 0 ≤ kset (stK5 c K D) 2 (K 2 + 1) 11 ∧ kset (stK5 c K D) 2 (K 2 + 1) 11 ≤ e
      rw [kset_ne (by decide)]; exact hSt.2.2.2.1
    · show Kc σ30 v = kset (stK5 c K D) 2 (K 2 + 1)
      rw [← hSt.2.2.2.2]
      funext j
      unfold kset
      by_cases q : j = 2
      · rw [if_pos q, q]; exact hn30
      · rw [if_neg q]
        unfold Kc
        by_cases c1 : j ≤ 11
        · rw [if_pos c1, if_pos c1]
          have hk : ∀ j : Nat, j ≤ 11 → 0 ≤ ki j := by decide +kernel
          have h39 : ∀ j : Nat, j ≤ 11 → (j ≠ 2 → ka 39 j ≤ 39) := by decide +kernel
          have h60 : ∀ j : Nat, j ≤ 11 → (j ≠ 2 → ka 60 j ≤ 60) := by decide +kernel
          refine hF30.rw (hk j c1) (nA _ _ (Or.inl ?_))
          rcases hmv with rfl | rfl
          · exact h39 j c1 q
          · exact h60 j c1 q
        · rw [if_neg c1, if_neg c1]
    · rw [hD30, hCt.1, h2', h15', hr]; rfl
    · exact hCt.2.1.congr (hF30.rw (by omega) (nA _ _ (by omega))) (fun i i0 => hF30.rw i0 (nA _ _ (by omega))) (fun i i0 => hF30.rw i0 (nA _ _ (by omega)))
    · exact hCt.2.2.1.congr (hF30.rw (by omega) (nA _ _ (by omega))) (fun i i0 => hF30.rw i0 (nA _ _ (by omega))) (fun i i0 => hF30.rw i0 (nA _ _ (by omega)))
    · exact (hF30.rw (by omega) (nA _ _ (by omega))).trans hCt.2.2.2.1
    · exact (hF30.rw (by omega) (nA _ _ (by omega))).trans hCt.2.2.2.2.1
    · show rI σ30 (v + 10) 2 ≤ kset (stK5 c K D) 2 (K 2 + 1) 7
      rw [kset_ne (by decide), k5 7 (by decide) (by decide) (by decide), hF30.rw (by omega) (nA _ _ (by omega))]; exact hCt.2.2.2.2.2.1
    · show rI σ30 (v + 13) 2 ≤ kset (stK5 c K D) 2 (K 2 + 1) 8
      rw [kset_ne (by decide), k5 8 (by decide) (by decide) (by decide), hF30.rw (by omega) (nA _ _ (by omega))]; exact hCt.2.2.2.2.2.2
    · show Kb (kset (stK5 c K D) 2 (K 2 + 1))
      unfold Kb
      rw [kset_eq, kset_ne (by decide), kset_ne (by decide), kset_ne (by decide), kset_ne (by decide), kset_ne (by decide), k5 0 (by decide) (by decide) (by decide), k5 1 (by decide) (by decide) (by decide), k5 6 (by decide) (by decide) (by decide), k5 7 (by decide) (by decide) (by decide), k5 8 (by decide) (by decide) (by decide)]
      exact ⟨b0, b1, by omega, b6, b7, b8⟩
  refine ⟨fun q => ?_, fun q => ?_⟩
  · have hno : ¬ ∃ k : Int, At D (K 2) (stX c K) (stY c K) k := by
      rw [← h2', ← h15']
      rintro ⟨k, hk⟩
      rcases h20 with h20 | h20
      · exact h20.2 k hk
      · have := h20.1.1; omega
    have e4 : stK4 c K D = stK3 c K := kif_neg hno
    obtain ⟨r29, σ25, he25, hr25, hF25, hS25, h25⟩ := r_num (sc := sc) (d := d) (lo := 0) (hi := 40) hS15' (by decide) (by decide)
    have eH : r29 = stH c K D := by unfold stH; rw [e4]; exact h25
    have eS : St σ25 u v c e (stK5 c K D) := by unfold stK5; rw [e4]; exact hS25
    obtain ⟨σ30, x1, x2, x3⟩ := fin σ25 r29 (hF215.trans hF25) eS eH hr25
    exact ⟨r29, σ25, he25, hS25.1, hr25, σ30, x1, x2, x3⟩
  · have hyes : ∃ k : Int, At D (K 2) (stX c K) (stY c K) k := by
      rw [← h2', ← h15']
      rcases h20 with h20 | h20
      · exact absurd h20.1 q
      · exact ⟨r24, h20.1⟩
    have e4 : stK4 c K D = flt (stK3 c K) 2 (stK2 c K 11) := kif_pos hyes
    obtain ⟨σ34, he34, hF34, hS34⟩ := r_blame (sc := sc) (d := d + 2) (a := 2) (b := z11) hS15' (by decide) (by rw [e11]; exact rI_R _ _ _)
    rw [e11, k11, ← e4] at hS34
    obtain ⟨r42, σ38, he38, hr38, hF38, hS38, h38⟩ := r_num (sc := sc) (d := d) (lo := 0) (hi := 40) hS34 (by decide) (by decide)
    obtain ⟨σ43, x1, x2, x3⟩ := fin σ38 r42 ((hF215.trans hF34).trans hF38) hS38 h38 hr38
    exact ⟨σ34, he34, hS34.1, r42, σ38, he38, hS38.1, hr38, σ43, x1, x2, x3⟩
end
