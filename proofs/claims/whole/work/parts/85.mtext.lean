/-! THE REFERENCE: the reader's numbers. -/
/-- the tape that is read: e bytes of row 77 -/
def MT (σ : aH) (c : Int → Int) (e : Int) : Prop := TxS c e ∧ rI σ 76 2 = e ∧ ∀ k : Int, 0 ≤ k → k < e → rI σ 77 k = c k
theorem MT.fr {A : Nat → Int → Prop} {σ τ : aH} {c : Int → Int} {e : Int} (h : MT σ c e) (hF : Fr A σ τ) (h1 : ¬ A 76 2) (h2 : ∀ i : Int, ¬ A 77 i) : MT τ c e := ⟨h.1, (hF.rw (by omega) h1).trans h.2.1, fun k a b => (hF.rw a (h2 k)).trans (h.2.2 k a b)⟩
/-- the fault and, while there is none, the place -/
def MK (σ : aH) (c : Int → Int) (e : Int) (K : Nat → Int) : Prop := MT σ c e ∧ rI σ 76 5 = K 9 ∧ rI σ 76 6 = K 10 ∧ (0 ≤ rI σ 76 4 ∧ rI σ 76 4 ≤ e) ∧ (K 9 = 0 → rI σ 76 4 = K 11)
abbrev A456 : Nat → Int → Prop := fun a i => a = 76 ∧ (i = 4 ∨ i = 5 ∨ i = 6)
theorem A456_2 : ¬ A456 76 2 := by show ¬ (76 = 76 ∧ ((2 : Int) = 4 ∨ (2 : Int) = 5 ∨ (2 : Int) = 6)); omega
theorem A456_a {a : Nat} (h : a ≠ 76) (i : Int) : ¬ A456 a i := fun z => h z.1
section
variable {sc : Nat × (Nat → Int32)} {d : Nat} {σ : aH} {u : Nat} {c : Int → Int} {e : Int} {K : Nat → Int}
theorem m_byteAt {k : Int} (hG : G σ u) (hT : MT σ c e) (hk : 0 ≤ k) (rk : inR k) : TI sc (d + 1) mX10_byteAt [.ref 76, .int (nZ k)] σ (fun r σ1 => σ1 = σ ∧ r = c k) := by
  apply T.int
  apply t_X10_byteAt hG rk
  have he := hT.1.1
  rw [hT.2.1]
  refine ⟨fun q => ⟨by omega, _, rfl, rI_R _ _ _, rfl, hT.2.2 k hk q⟩, fun q => ⟨-1, rfl, by decide, rfl, (hT.1.2.1 k (by omega)).symm⟩⟩
theorem TxS.r (h : TxS c e) (k : Int) (k0 : 0 ≤ k) : -1 ≤ c k ∧ c k ≤ 255 := by
  by_cases q : k < e
  · have := h.2.2 k k0 q; omega
  · rw [h.2.1 k (by omega)]; omega
theorem m_blanks {k : Int} (hG : G σ u) (hT : MT σ c e) (hk : rI σ 76 4 = k) (hb : 0 ≤ k ∧ k ≤ e) : TV sc (d + 2) mX10_blanks [.ref 76] σ (fun σ1 => Fr (fun a i => a = 76 ∧ i = 4) σ σ1 ∧ rI σ1 76 4 = scF c isB k) := by
  have he := hT.1.1
  apply T.void
  apply t_X10_blanks
  obtain ⟨P, hP⟩ : ∃ P : aO → aH → Prop, P = QV (fun σ1 => Fr (fun a i => a = 76 ∧ i = 4) σ σ1 ∧ rI σ1 76 4 = scF c isB k) := ⟨_, rfl⟩
  rw [← hP]
  have loop : ∀ (g : Nat) (j : Int) (τ : aH), (e - j).toNat = g → 0 ≤ j → j ≤ e → Fr (fun a i => a = 76 ∧ i = 4) σ τ → rI τ 76 4 = j → scF c isB j = scF c isB k → L_X10_blanks_0 (Ev sc (d + 1)) sc P τ := by
    intro g
    induction g with
    | zero =>
      intro j τ hg j0 j1 hF hj hs
      obtain ⟨r, σ1, he1, hr, e1, h1⟩ := m_byteAt (sc := sc) (d := d) (hF.g hG) (hT.fr hF (by show ¬ (76 = 76 ∧ (2 : Int) = 4); omega) (fun i => by show ¬ (77 = 76 ∧ i = 4); omega)) j0 (by omega)
      subst e1
      have st := scF_step he.2 hT.1.b j0
      have cj : c j = -1 := hT.1.2.1 j (by omega)
      apply v_X10_blanks_0 (hF.g hG)
      rw [hj]
      refine ⟨r, σ1, he1, hF.g hG, hr, fun _ => ?_, fun q => by omega⟩
      rw [hP]
      refine ⟨rfl, hF, ?_⟩
      rw [hj, ← hs, st, hT.1.b j (by omega)]; rfl
    | succ g ih =>
      intro j τ hg j0 j1 hF hj hs
      obtain ⟨r, σ1, he1, hr, e1, h1⟩ := m_byteAt (sc := sc) (d := d) (hF.g hG) (hT.fr hF (by show ¬ (76 = 76 ∧ (2 : Int) = 4); omega) (fun i => by show ¬ (77 = 76 ∧ i = 4); omega)) j0 (by omega)
      subst e1
      have st := scF_step he.2 hT.1.b j0
      apply v_X10_blanks_0 (hF.g hG)
      rw [hj]
      refine ⟨r, σ1, he1, hF.g hG, hr, fun q => ?_, fun q => ⟨by omega, fun σ7 e7 => ih (j + 1) σ7 (by omega) (by omega) (by omega) ?_ ?_ ?_⟩⟩
      · rw [hP]
        refine ⟨rfl, hF, ?_⟩
        rw [hj, ← hs, st, if_neg (by unfold isB; rw [decide_eq_true_eq, ← h1]; exact q)]
      · rw [← e7]; exact hF.trans (Fr.w (by omega) ⟨rfl, rfl⟩)
      · rw [← e7, hj]; exact rI_ww (by omega)
      · rw [← hs, st, if_pos (by unfold isB; rw [decide_eq_true_eq, ← h1]; exact q)]
  exact loop _ k σ rfl hb.1 hb.2 (Fr.refl _ _) hk rfl
theorem m_wrong {a b : Int} (hG : G σ u) (ra : inR a) (rb : inR b) : TV sc (d + 1) mX10_wrong [.ref 76, .int (nZ a), .int (nZ b)] σ (fun σ1 => Fr (fun a i => a = 76 ∧ (i = 5 ∨ i = 6)) σ σ1 ∧ rI σ1 76 5 = (if rI σ 76 5 = 0 then a else rI σ 76 5) ∧ rI σ1 76 6 = (if rI σ 76 5 = 0 then b else rI σ 76 6)) := by
  apply T.void
  apply t_X10_wrong hG ra rb
  refine ⟨fun q => ⟨rfl, Fr.refl _ _, by rw [if_neg q], by rw [if_neg q]⟩, fun q σ1 e1 σ4 e4 => ⟨rfl, ?_, ?_, ?_⟩⟩
  · rw [← e4, ← e1]; exact (Fr.w (by omega) ⟨rfl, Or.inl rfl⟩).trans (Fr.w (by omega) ⟨rfl, Or.inr rfl⟩)
  · rw [if_pos q, ← e4, rI_wi (by decide), ← e1]; exact rI_ww ra
  · rw [if_pos q, ← e4]; exact rI_ww rb
theorem m_isDigit {x : Int} (hG : G σ u) (rx : inR x) : TI sc (d + 1) mX10_isDigit [.int (nZ x)] σ (fun r σ1 => σ1 = σ ∧ ((r = 1 ∧ isDg x = true) ∨ (r = 0 ∧ isDg x = false))) := by
  apply T.int
  apply t_X10_isDigit hG rx
  refine ⟨fun q => ⟨0, rfl, by decide, rfl, Or.inr ⟨rfl, ?_⟩⟩, fun q => ⟨fun q1 => ⟨0, rfl, by decide, rfl, Or.inr ⟨rfl, ?_⟩⟩, fun q1 => ⟨1, rfl, by decide, rfl, Or.inl ⟨rfl, ?_⟩⟩⟩⟩
  · unfold isDg; rw [decide_eq_false_iff_not]; omega
  · unfold isDg; rw [decide_eq_false_iff_not]; omega
  · unfold isDg; rw [decide_eq_true_eq]; omega
theorem numK_stay {lo hi : Int} (h : K 9 ≠ 0) : numK c lo hi K 9 = K 9 ∧ numK c lo hi K 10 = K 10 := by
  have k9 : kset K 11 (numE c K).2.1 9 = K 9 := kset_ne (by decide)
  have k10 : kset K 11 (numE c K).2.1 10 = K 10 := kset_ne (by decide)
  unfold numK
  rw [flt_1 (by rw [k9]; exact h), flt_1 (by rw [k9]; exact h)]
  split
  · exact ⟨k9, k10⟩
  · split
    · exact ⟨k9, k10⟩
    · exact ⟨k9, k10⟩
theorem m_number {lo hi : Int} (hG : G σ u) (hK : MK σ c e K) (rl : inR lo) (rh : inR hi) : TI sc (d + 3) mX10_number [.ref 76, .int (nZ lo), .int (nZ hi)] σ (fun r σ1 => Fr A456 σ σ1 ∧ MK σ1 c e (numK c lo hi K) ∧ r = numV c lo hi K) := by
  obtain ⟨hT, h5, h6, h4b, h4⟩ := hK
  have he := hT.1.1
  apply T.int
  apply t_X10_number hG rl rh
  rw [h5]
  refine ⟨fun z9 => ?_, fun q => ?_⟩
  case refine_2 =>
    obtain ⟨a, b⟩ := numK_stay (c := c) (lo := lo) (hi := hi) q
    exact ⟨0, rfl, by decide, Fr.refl _ _, ⟨hT, by rw [a]; exact h5, by rw [b]; exact h6, h4b, fun z => absurd (a ▸ z) q⟩, by unfold numV; rw [if_neg (by rw [a]; exact q)]⟩
  have a4 := h4 z9
  have b4 : 0 ≤ K 11 := by rw [← a4]; exact h4b.1
  have c4 : K 11 ≤ e := by rw [← a4]; exact h4b.2
  obtain ⟨σ1, he1, hF1, h1⟩ := m_blanks (sc := sc) (d := d) hG hT a4 ⟨b4, c4⟩
  obtain ⟨k, hk⟩ : ∃ k : Int, k = scF c isB (K 11) := ⟨_, rfl⟩
  obtain ⟨q, hq⟩ : ∃ q : Int, q = scF c isDg k := ⟨_, rfl⟩
  have eN : numE c K = (k, q, nv c k (q - k).toNat) := by rw [hq, hk]; rfl
  rw [← hk] at h1
  have kb := scF_bd hT.1.b (K 11)
  rw [← hk] at kb
  have qb := scF_bd hT.1.d k
  rw [← hq] at qb
  have hT1 : MT σ1 c e := hT.fr hF1 (by show ¬ (76 = 76 ∧ (2 : Int) = 4); omega) (fun i => by show ¬ (77 = 76 ∧ i = 4); omega)
  have hFa : Fr A456 σ σ1 := hF1.weak (fun a i z => ⟨z.1, Or.inl z.2⟩)
  have f5 : rI σ1 76 5 = 0 := (hF1.rw (by omega) (by show ¬ (76 = 76 ∧ (5 : Int) = 4); omega)).trans (h5.trans z9)
  have f6 : rI σ1 76 6 = K 10 := (hF1.rw (by omega) (by show ¬ (76 = 76 ∧ (6 : Int) = 4); omega)).trans h6
  obtain ⟨r2, σ2, he2, hr2, e2, h2⟩ := m_byteAt (sc := sc) (d := d + 1) (hF1.g hG) hT1 (k := k) (by omega) (by omega)
  subst e2
  obtain ⟨r3, σ3, he3, hr3, e3, h3⟩ := m_isDigit (sc := sc) (d := d + 1) (x := r2) (hF1.g hG) hr2
  subst e3
  obtain ⟨P, hP⟩ : ∃ P : aO → aH → Prop, P = QI (fun r σ1 => Fr A456 σ σ1 ∧ MK σ1 c e (numK c lo hi K) ∧ r = numV c lo hi K) := ⟨_, rfl⟩
  rw [← hP]
  have st0 := scF_step (p := isDg) he.2 hT.1.d (k := k) (by omega)
  rw [← hq] at st0
  -- what the pure reader makes of it
  have pNone : q = k → numK c lo hi K = kset (kset (kset K 11 q) 9 1) 10 k := fun z => by
    unfold numK; rw [eN]; dsimp only
    rw [if_pos z, flt_0 (by rw [kset_ne (by decide)]; exact z9)]
  have pOut : q ≠ k → (nv c k (q - k).toNat < lo ∨ hi < nv c k (q - k).toNat) → numK c lo hi K = kset (kset (kset K 11 q) 9 2) 10 k := fun z w => by
    unfold numK; rw [eN]; dsimp only
    rw [if_neg z, if_pos w, flt_0 (by rw [kset_ne (by decide)]; exact z9)]
  have pOk : q ≠ k → ¬ (nv c k (q - k).toNat < lo ∨ hi < nv c k (q - k).toNat) → numK c lo hi K = kset K 11 q := fun z w => by
    unfold numK; rw [eN]; dsimp only
    rw [if_neg z, if_neg w]
  have bad : ∀ (τ : aH) (a : Int), a ≠ 0 → Fr A456 σ τ → rI τ 76 5 = a → rI τ 76 6 = k → (0 ≤ rI τ 76 4 ∧ rI τ 76 4 ≤ e) → numK c lo hi K = kset (kset (kset K 11 q) 9 a) 10 k → P (.inl (some (.int (nZ 0)))) τ := by
    intro τ a na hF x5 x6 x4 hN
    have n9 : numK c lo hi K 9 = a := by rw [hN, kset_ne (by decide), kset_eq]
    rw [hP]
    refine ⟨0, rfl, by decide, hF, ⟨hT.fr hF A456_2 (A456_a (by decide)), by rw [n9]; exact x5, by rw [hN, kset_eq]; exact x6, x4, fun z => absurd (n9 ▸ z) na⟩, ?_⟩
    unfold numV; rw [if_neg (by rw [n9]; exact na)]
  have loop : ∀ (g j : Nat) (τ : aH), (q - k - j).toNat = g → k + j ≤ q → Fr A456 σ τ → rI τ 76 4 = k + j → scF c isDg (k + j) = q → (∀ i : Nat, i < j → 48 ≤ c (k + i) ∧ c (k + i) ≤ 57) → ((rI τ 76 5 = 0 ∧ rI τ 76 6 = K 10 ∧ q ≠ k) ∨ (rI τ 76 5 = 1 ∧ rI τ 76 6 = k ∧ q = k)) → L_X10_number_44 (Ev sc (d + 2)) sc P lo hi k (nv c k j) τ := by
    intro g
    induction g with
    | zero =>
      intro j τ hg hj hF hat hs hd hf
      have nb := nv_bd (c := c) (k := k) (j := j) (fun i hi => (hd i hi).1)
      have hTt : MT τ c e := hT.fr hF A456_2 (A456_a (by decide))
      have ej : k + j = q := by omega
      obtain ⟨r5, σ5, he5, hr5, e5, h5'⟩ := m_byteAt (sc := sc) (d := d + 1) (hF.g hG) hTt (k := k + j) (by omega) (by omega)
      subst e5
      obtain ⟨r6, σ6, he6, hr6, e6, h6'⟩ := m_isDigit (sc := sc) (d := d + 1) (x := r5) (hF.g hG) hr5
      subst e6
      have nd : isDg (c (k + j)) = false := by
        have st := scF_step (p := isDg) he.2 hT.1.d (k := k + j) (by omega)
        by_cases z : isDg (c (k + j)) = true
        · rw [if_pos z, hs] at st
          have := scF_bd hT.1.d (k + j + 1)
          omega
        · exact Bool.eq_false_iff.mpr z
      have r60 : r6 = 0 := by
        rcases h6' with ⟨a, b⟩ | ⟨a, b⟩
        · rw [h5', nd] at b; exact absurd b (by decide)
        · exact a
      obtain ⟨r7, σ7, he7, hr7, e7, h7⟩ := m_in (sc := sc) (d := d + 1) (x := nv c k j) (lo := lo) (hi := hi) (hF.g hG) (by omega) rl rh
      subst e7
      have evn : nv c k (q - k).toNat = nv c k j := by rw [show (q - k).toNat = j by omega]
      obtain ⟨σ8, he8, hF8, x5, x6⟩ := m_wrong (sc := sc) (d := d + 1) (a := 2) (b := k) (hF.g hG) (by decide) (by omega)
      have hF8' : Fr A456 σ σ8 := hF.trans (hF8.weak (fun a i z => ⟨z.1, Or.inr z.2⟩))
      have qe := qb.2 (by omega)
      have hab : 0 ≤ rI σ7 76 4 ∧ rI σ7 76 4 ≤ e := by rw [hat]; omega
      have hab8 : 0 ≤ rI σ8 76 4 ∧ rI σ8 76 4 ≤ e := by rw [hF8.rw (by omega) (by show ¬ (76 = 76 ∧ ((4 : Int) = 5 ∨ (4 : Int) = 6)); omega)]; exact hab
      apply v_X10_number_44 (hF.g hG) rl rh (by omega) (by omega)
      rw [hat]
      refine ⟨r5, σ7, he5, hF.g hG, hr5, r6, σ7, he6, hF.g hG, hr6, fun _ => ⟨r7, σ7, he7, hF.g hG, hr7, fun q1 => ⟨fun q2 => ?_, fun q2 => ?_⟩, fun q1 => ⟨σ8, he8, hF8'.g hG, fun q2 => ?_, fun q2 => ?_⟩⟩, fun z => absurd r60 z⟩
      · rcases hf with ⟨a, _⟩ | ⟨a, b, z⟩
        · exact absurd a q2
        · exact bad σ7 1 (by decide) hF a b hab (pNone z)
      · rcases hf with ⟨a, b, z⟩ | ⟨a, _⟩
        · have hN := pOk z (by rw [evn]; omega)
          have n9 : numK c lo hi K 9 = 0 := by rw [hN, kset_ne (by decide)]; exact z9
          rw [hP]
          refine ⟨nv c k j, rfl, by omega, hF, ⟨hTt, by rw [n9]; exact a, by rw [hN, kset_ne (by decide)]; exact b, hab, fun _ => by rw [hN, kset_eq, hat, ej]⟩, ?_⟩
          unfold numV; rw [if_pos n9, eN]; exact evn.symm
        · omega
      · rcases hf with ⟨a, b, z⟩ | ⟨a, b, z⟩
        · rw [if_pos a] at x5 x6
          exact bad σ8 2 (by decide) hF8' x5 x6 hab8 (pOut z (by rw [evn]; omega))
        · rw [if_neg (by omega)] at x5 x6
          exact bad σ8 1 (by decide) hF8' (x5.trans a) (x6.trans b) hab8 (pNone z)
      · exfalso
        rcases hf with ⟨a, _⟩ | ⟨a, _⟩
        · rw [if_pos a] at x5; omega
        · rw [if_neg (by omega)] at x5; omega
    | succ g ih =>
      intro j τ hg hj hF hat hs hd hf
      have nb := nv_bd (c := c) (k := k) (j := j) (fun i hi => (hd i hi).1)
      have hTt : MT τ c e := hT.fr hF A456_2 (A456_a (by decide))
      obtain ⟨r5, σ5, he5, hr5, e5, h5'⟩ := m_byteAt (sc := sc) (d := d + 1) (hF.g hG) hTt (k := k + j) (by omega) (by have := qb.2 (by omega); omega)
      subst e5
      obtain ⟨r6, σ6, he6, hr6, e6, h6'⟩ := m_isDigit (sc := sc) (d := d + 1) (x := r5) (hF.g hG) hr5
      subst e6
      have st := scF_step (p := isDg) he.2 hT.1.d (k := k + j) (by omega)
      have yd : isDg (c (k + j)) = true := by
        by_cases z : isDg (c (k + j)) = true
        · exact z
        · rw [if_neg z, hs] at st; omega
      rw [if_pos yd, hs] at st
      have cd : 48 ≤ c (k + j) ∧ c (k + j) ≤ 57 := by unfold isDg at yd; rw [decide_eq_true_eq] at yd; exact yd
      have r61 : r6 = 1 := by
        rcases h6' with ⟨a, b⟩ | ⟨a, b⟩
        · exact a
        · rw [h5', yd] at b; exact absurd b (by decide)
      have nvs : nv c k (j + 1) = min 100000 (10 * nv c k j + c (k + j) - 48) := rfl
      have nx : ∀ (z : Int) (σ32 : aH), wI σ6 76 4 (k + j + 1) = σ32 → z = nv c k (j + 1) → L_X10_number_44 (Ev sc (d + 2)) sc P lo hi k z σ32 := by
        intro z σ32 e32 ez
        rw [ez]
        have qe := qb.2 (by omega)
        refine ih (j + 1) σ32 (by omega) (by omega) ?_ ?_ ?_ (fun i hi => ?_) ?_
        · rw [← e32]; exact hF.trans (Fr.w (by omega) ⟨rfl, Or.inl rfl⟩)
        · rw [← e32, rI_ww (by omega)]; omega
        · rw [show k + ((j + 1 : Nat) : Int) = k + j + 1 by omega]; exact st.symm
        · by_cases w : i = j
          · rw [w]; exact cd
          · exact hd i (by omega)
        · rw [← e32, rI_wi (by decide), rI_wi (by decide)]; exact hf
      apply v_X10_number_44 (hF.g hG) rl rh (by omega) (by omega)
      rw [hat]
      refine ⟨r5, σ6, he5, hF.g hG, hr5, r6, σ6, he6, hF.g hG, hr6, fun z => by omega, fun _ => ⟨by omega, ?_⟩⟩
      rw [hat]
      have qe := qb.2 (by omega)
      refine ⟨r5, σ6, he5, hF.g hG, hr5, by omega, by omega, fun z28 e28 => ?_⟩
      rw [hat]
      exact ⟨fun q1 => ⟨by omega, fun σ32 e32 => nx z28 σ32 e32 (by omega)⟩, fun q1 => ⟨by omega, fun σ36 e36 => nx 100000 σ36 e36 (by omega)⟩⟩
  refine ⟨σ3, he1, hF1.g hG, fun z5 e5 => ?_⟩
  rw [h1] at e5
  rw [h1, e5]
  refine ⟨r2, σ3, he2, hF1.g hG, hr2, r3, σ3, he3, hF1.g hG, hr3, fun q1 => ?_, fun q1 => ?_⟩
  · have yd : isDg (c k) = true := by
      rcases h3 with ⟨a, b⟩ | ⟨a, b⟩
      · rw [← h2]; exact b
      · exact absurd a q1
    rw [if_pos yd] at st0
    have sb := scF_bd hT.1.d (k + 1)
    have := loop _ 0 σ3 rfl (by omega) hFa (by rw [h1]; omega) (by rw [show k + ((0 : Nat) : Int) = k by omega, hq]) (fun i hi => by omega) (Or.inl ⟨f5, f6, by omega⟩)
    exact this
  · have nd : isDg (c k) = false := by
      rcases h3 with ⟨a, b⟩ | ⟨a, b⟩
      · omega
      · rw [← h2]; exact b
    rw [nd] at st0
    have qk : q = k := st0
    obtain ⟨σ8, he8, hF8, x5, x6⟩ := m_wrong (sc := sc) (d := d + 1) (a := 1) (b := k) (hF1.g hG) (by decide) (by omega)
    rw [if_pos f5] at x5 x6
    have hF8' : Fr A456 σ σ8 := hFa.trans (hF8.weak (fun a i z => ⟨z.1, Or.inr z.2⟩))
    rw [h1]
    refine ⟨σ8, he8, hF8'.g hG, ?_⟩
    have := loop _ 0 σ8 rfl (by omega) hF8' (by rw [hF8.rw (by omega) (by show ¬ (76 = 76 ∧ ((4 : Int) = 5 ∨ (4 : Int) = 6)); omega), h1]; omega) (by rw [show k + ((0 : Nat) : Int) = k by omega, hq]) (fun i hi => by omega) (Or.inr ⟨x5, x6, qk⟩)
    exact this
end
