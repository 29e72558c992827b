/-! THE REFERENCE: the fewest payments. -/
theorem b8_test : ∀ b : Nat, b < 256 → ∀ i : Nat, i < 8 → (bt b i = 1 ↔ Nat.testBit b i = true) := by decide +kernel
theorem b8_not : ∀ w : Nat, w < 256 → zXor w (-1) = -1 - (w : Int) := by decide +kernel
theorem b8_andn : ∀ b : Nat, b < 256 → ∀ i : Nat, i < 8 → bt b i = 1 → zAnd b (zXor (zShl 1 i) (-1)) = (b : Int) - 2 ^ i := by decide +kernel
theorem sub_iff {b w : Nat} (hb : b < 256) (hw : w < 256) : zAnd b (zXor w (-1)) = 0 ↔ ∀ i : Nat, i < 8 → bt b i = 1 → bt w i = 1 := by
  have e1 : ((b : Int) % 4294967296).toNat = b := by omega
  have e2 : ((-1 - (w : Int)) % 4294967296).toNat = 2 ^ 32 - (w + 1) := by
    have : (2 : Nat) ^ 32 = 4294967296 := by decide
    omega
  have lt : b &&& (2 ^ 32 - (w + 1)) < 2147483648 := Nat.lt_of_le_of_lt Nat.and_le_left (by omega)
  rw [b8_not w hw, zAnd_t (by rw [e1, e2]; exact lt), e1, e2]
  have tb : ∀ i : Nat, Nat.testBit (b &&& (2 ^ 32 - (w + 1))) i = (Nat.testBit b i && (decide (i < 32) && !(Nat.testBit w i))) := fun i => by
    rw [Nat.testBit_and, Nat.testBit_two_pow_sub_succ (by omega)]
  constructor
  · intro h i hi hbi
    have h0 : b &&& (2 ^ 32 - (w + 1)) = 0 := by omega
    have := tb i
    rw [h0, Nat.zero_testBit, (b8_test b hb i hi).mp hbi] at this
    rw [b8_test w hw i hi]
    cases hq : Nat.testBit w i with
    | true => rfl
    | false => rw [hq] at this; simp at this; omega
  · intro h
    have : b &&& (2 ^ 32 - (w + 1)) = 0 := by
      apply Nat.eq_of_testBit_eq
      intro i
      rw [tb, Nat.zero_testBit]
      by_cases hi : i < 8
      · cases hq : Nat.testBit b i with
        | false => rfl
        | true =>
          have := (b8_test w hw i hi).mp (h i hi ((b8_test b hb i hi).mpr hq))
          rw [this]; simp
      · have : Nat.testBit b i = false := Nat.testBit_lt_two_pow (Nat.lt_of_lt_of_le hb (Nat.pow_le_pow_right (n := 2) (by decide) (show 8 ≤ i by omega)))
        rw [this]; rfl
    rw [this]; rfl
theorem lst_gl {g : Int → Int} {b : Int} : ∀ {k : Nat}, (∀ i : Nat, i < k → (bt b i = 1 ↔ g i ≠ 0)) → lst g b k = gl g k
  | 0, _ => rfl
  | k + 1, h => by
    have h1 := h k (by omega)
    show (if bt b k = 1 then lst g b k ++ [g k] else lst g b k) = (if g k = 0 then gl g k else gl g k ++ [g k])
    rw [lst_gl (k := k) (fun i hi => h i (by omega))]
    by_cases c : g k = 0
    · rw [if_pos c, if_neg (fun z => h1.mp z c)]
    · rw [if_neg c, if_pos (h1.mpr c)]
theorem gl_cnt {g : Int → Int} : ∀ {k : Nat}, ((gl g k).length : Int) = sm (fun i => cif (g i ≠ 0) 1 0) k
  | 0 => (sm_0 _).symm
  | k + 1 => by
    rw [sm_succ, ← gl_cnt (k := k)]
    show (((if g k = 0 then gl g k else gl g k ++ [g k]).length : Nat) : Int) = _
    by_cases c : g k = 0
    · rw [if_pos c, cif_neg (fun z => z c)]; omega
    · rw [if_neg c, cif_pos c, List.length_append]; simp
section
variable {sc : Nat × (Nat → Int32)} {d : Nat} {σ : aH} {u : Nat} {n W H : Int} {D : Nat → Int → Int} {Es Er : Nat → Option Int} {K : Int} {fr va : Int → Int} {du fo : Int}
abbrev AYm : Nat → Int → Prop := fun a _ => a = 314 ∨ a = 315
theorem m_payments {t : Int} {g : Int → Int} (hG : G σ u) (hM : Mf σ n (-1) W H D Es Er K fr va du fo) (h2 : rI σ 80 2 = n) (h8 : n ≤ 8) (rt : inR t) (hc : Rc σ) (hg : g = GainD D n (-1) (1 + rI σ 76 19) (sT Es fo) (Fn (aT Er 1) 0 t) (Fn (aT Er 1) (max 0 du) t)) : TI sc (d + 5) mX10_payments [.ref 76, .int (nZ t)] σ (OB σ (0 ≤ t ∧ t ≤ 1440) 1 1 (fun r σ1 => Fr (fun a i => AGz a i ∨ AYm a i) σ σ1 ∧ rI σ1 76 0 = 0 ∧ r = PayV g n)) := by
  have h9 := hM.1.1.2.1
  have hE := hM.1.2.2.2.2.2.2.2.2.2.2.2.2.2.2
  have hgb : ∀ i : Int, -300000 ≤ g i ∧ g i ≤ 300000 := fun i => by
    have := GainD_bd (D := D) (n := n) (gone := -1) (w := 1 + rI σ 76 19) (S := sT Es fo) (F := Fn (aT Er 1) 0 t) (F1 := Fn (aT Er 1) (max 0 du) t) h9.2 (Fn9 (rate9 hE) _ _) (Fn9 (rate9 hE) _ _) i
    rw [← hg] at this
    omega
  apply T.int
  apply t_X10_payments hG rt
  intro σ1 e1
  obtain ⟨hG1, t1, hF1, hM1, o1⟩ := m_pre hG hM e1
  obtain ⟨r9, σ9, he9, hr9, e9, h9'⟩ := m_isTill (sc := sc) (d := d + 2) (x := t) hG1 rt
  subst e9
  obtain ⟨σ3, he3, hm3⟩ := m_bad1 (sc := sc) (d := d + 3) (w := 1) (q := 1) hG1 t1 (by omega) (by omega) ((hc.pre e1) 1 (by omega))
  refine ⟨r9, σ9, he9, hG1, hr9, fun q => ?_, fun q => ?_⟩
  case refine_2 =>
    apply v_X10_payments_18 hG1 rt (by decide)
    exact ⟨1, σ3, he3, hm3.g hG1, by decide, fun z => absurd z (by decide), fun _ => ⟨0, rfl, by decide, Or.inr ⟨by omega, rfl, hm3.pre e1⟩⟩⟩
  have ok : 0 ≤ t ∧ t ≤ 1440 := by omega
  obtain ⟨σ6, he6, hF6, hg6⟩ := m_goX (sc := sc) (d := d) (un := t) hG1 hM1 ok
  rw [o1 76 19 (by omega)] at hg6
  apply v_X10_payments_18 hG1 rt (by decide)
  obtain ⟨P, hP⟩ : ∃ P : aO → aH → Prop, P = QI (OB σ (0 ≤ t ∧ t ≤ 1440) 1 1 (fun r σ1 => Fr (fun a i => AGz a i ∨ AYm a i) σ σ1 ∧ rI σ1 76 0 = 0 ∧ r = PayV g n)) := ⟨_, rfl⟩
  rw [← hP]
  refine ⟨0, σ9, m_bad0 hG1 t1 (by decide) (by decide), hG1, by decide, fun _ => ⟨σ6, by rw [hM1.2.1]; exact he6, hF6.g hG1, ?_⟩, fun z => absurd rfl z⟩
  have n6 : rI σ6 80 2 = n := (hF6.rw (by omega) (by show ¬ ((261 ≤ 80 ∧ 80 ≤ 313) ∨ (80 = 76 ∧ _)); omega)).trans ((o1 80 2 (by omega)).trans h2)
  have m6 : rI σ6 76 28 = n := (hF6.rw (by omega) (AGo_t 28 (by omega))).trans hM1.1.1.1
  have keep : ∀ τ : aH, Fr AYm σ6 τ → G τ u ∧ rI τ 80 2 = n ∧ ∀ s : Int, 0 ≤ s → s < n → TI sc (d + 4) mX10_netOf [.ref 76, .int (nZ s)] τ (fun r σ1 => σ1 = τ ∧ r = g s) := by
    intro τ hF
    refine ⟨hF.g (hF6.g hG1), (hF.rw (by omega) (by show ¬ (80 = 314 ∨ 80 = 315); omega)).trans n6, fun s s0 s1 => ?_⟩
    obtain ⟨r7, σ7, he7, hr7, e7, h7⟩ := m_netOf (sc := sc) (d := d + 3) (s := s) (ow := fun i j => Prc (Falls D n (-1) (1 + rI σ 76 19)) (D 6) (sT Es fo) (Fn (aT Er 1) 0 t) (Fn (aT Er 1) (max 0 du) t) i j) (hF.g (hF6.g hG1)) ((hF.rw (by omega) (by show ¬ (76 = 314 ∨ 76 = 315); omega)).trans m6) h9 ⟨s0, s1⟩ (fun i j i0 i1 j0 j1 => ⟨(hF.rw j0 (by show ¬ (282 + i.toNat = 314 ∨ 282 + i.toNat = 315); omega)).trans ((hg6.1 i j i0 i1 j0 j1).1.trans (PrU fa_no)), by
      have := Prc_bd (fa := Falls D n (-1) (1 + rI σ 76 19)) (la := D 6) (S := sT Es fo) (i := i) (j := j) (Fn9 (rate9 hE) 0 t) (Fn9 (rate9 hE) (max 0 du) t)
      exact ⟨this.1, Int.le_trans this.2 (by decide)⟩⟩)
    exact ⟨r7, σ7, he7, hr7, e7, by rw [h7, hg]; rfl⟩
  -- sets
  obtain ⟨ow, how⟩ : ∃ ow : Int, ow = bs (fun i => g i ≠ 0) n.toNat := ⟨_, rfl⟩
  have p256 : (2 : Int) ^ n.toNat ≤ 256 := by
    have : ∀ k : Nat, k ≤ 8 → (2 : Int) ^ k ≤ 256 := by decide
    exact this n.toNat (by omega)
  have owb : 0 ≤ ow ∧ ow < 2 ^ n.toNat := by rw [how]; exact bs_lt _ _
  have obit : ∀ i : Nat, i < n.toNat → (bt ow i = 1 ↔ g i ≠ 0) := fun i hi => by
    rw [how, bs_bit (fun i => g i ≠ 0) (k := (i : Int)) (by omega) (by omega)]
    by_cases c : g i ≠ 0
    · rw [cif_pos c]; exact ⟨fun _ => c, fun _ => rfl⟩
    · rw [cif_neg c]; exact ⟨fun z => by omega, fun z => absurd z c⟩
  -- a set lies within the owing
  obtain ⟨Sub, hSub⟩ : ∃ Sub : Int → Prop, Sub = fun b => ∀ i : Nat, i < 8 → bt b i = 1 → bt ow i = 1 := ⟨_, rfl⟩
  obtain ⟨Inv, hInv⟩ : ∃ Inv : Int → aH → Prop, Inv = fun b τ => ∀ c : Int, 0 ≤ c → c < b → (0 ≤ rI τ 314 c ∧ rI τ 314 c ≤ c) ∧ (Sub c → rI τ 314 c = PF (lst g c n.toNat)) := ⟨_, rfl⟩
  have sz : zShl 1 n = 2 ^ n.toNat := zShl_1 h9.1 (by omega)
  have sets : ∀ (f : Nat) (b : Int) (τ : aH), ((2 : Int) ^ n.toNat - b).toNat = f → 0 ≤ b → b ≤ 2 ^ n.toNat → Fr AYm σ6 τ → Inv b τ → L_X10_payments_80 (Ev sc (d + 4)) sc P t ow b τ := by
    intro f
    induction f with
    | zero =>
      intro b τ hf b0 b1 hF hI
      obtain ⟨k1, k2, k3⟩ := keep τ hF
      apply v_X10_payments_80 k1 rt (by omega) (by omega)
      rw [k2, sz]
      obtain ⟨r, σ5, he5, hr5, e5, h5⟩ := m_ones (sc := sc) (d := d + 3) (b := ow) k1 (by omega)
      subst e5
      refine ⟨fun _ => ⟨r, σ5, he5, k1, hr5, by omega, ?_⟩, fun z => by omega⟩
      rw [hInv] at hI
      obtain ⟨i1, i2⟩ := hI ow owb.1 (by omega)
      have es : rI σ5 314 ow = PF (gl g n.toNat) := by
        rw [i2 (by rw [hSub]; exact fun i _ z => z), lst_gl obit]
      have er : r = ((gl g n.toNat).length : Int) := by
        rw [h5, how, ones_bs h9.1 h9.2, gl_cnt]
      have gll := gl_len g n.toNat
      refine ⟨by omega, ?_⟩
      rw [hP]
      refine ⟨_, rfl, by omega, Or.inl ⟨ok, ?_, ?_, ?_⟩⟩
      · exact (hF1.weak (fun a i z => Or.inl (Or.inr z))).trans ((hF6.weak (fun a i z => Or.inl (Or.inl z))).trans (hF.weak (fun a i z => Or.inr z)))
      · rw [hF.rw (by omega) (by show ¬ (76 = 314 ∨ 76 = 315); omega), hF6.rw (by omega) (AGo_t 0 (by omega))]; exact t1
      · rw [er, es]; rfl
    | succ f ih =>
      intro b τ hf b0 b1 hF hI
      obtain ⟨k1, k2, k3⟩ := keep τ hF
      have eb : ((b.toNat : Nat) : Int) = b := by omega
      have eo : ((ow.toNat : Nat) : Int) = ow := by omega
      obtain ⟨L, hL⟩ : ∃ L : List Int, L = lst g b n.toNat := ⟨_, rfl⟩
      have x1 : ∀ i : Nat, i < 8 → bt b i = 1 → zAnd b (zXor (zShl 1 i) (-1)) = b - 2 ^ i ∧ 0 ≤ b - 2 ^ i ∧ bt (b - 2 ^ i) i = 0 ∧ ∀ j : Nat, j < 8 → j ≠ i → bt (b - 2 ^ i) j = bt b j := fun i hi hb => by
        have a1 := b8_andn b.toNat (by omega) i hi (by rw [eb]; exact hb)
        have a2 := b8_xor b.toNat (by omega) i hi (by rw [eb]; exact hb)
        have a3 := fun (j : Nat) (hj : j < 8) => b8_sub b.toNat (by omega) i hi j hj
        rw [eb] at a1 a2 a3
        exact ⟨a1, a2.2.1, a2.2.2, fun j hj hne => a3 j hj ⟨hb, hne⟩⟩
      have sub : Sub b → ∀ i : Nat, i < 8 → bt b i = 1 → Sub (b - 2 ^ i) := fun hs i hi hb => by
        rw [hSub] at hs ⊢
        intro j hj hq
        obtain ⟨_, _, a3, a4⟩ := x1 i hi hb
        by_cases c : j = i
        · rw [c] at hq; omega
        · rw [a4 j hj c] at hq; exact hs j hj hq
      -- the end of a set
      have fin : ∀ (τ2 : aH) (v : Int), Fr AYm σ6 τ2 → (∀ c : Int, 0 ≤ c → c < b → rI τ2 314 c = rI τ 314 c) → rI τ2 314 b = v → (0 ≤ v ∧ v ≤ b) → (Sub b → v = PF L) → L_X10_payments_80 (Ev sc (d + 4)) sc P t ow (b + 1) τ2 := by
        intro τ2 v hF2 hold hv vb hs
        refine ih (b + 1) τ2 (by omega) (by omega) (by omega) hF2 ?_
        rw [hInv] at hI ⊢
        intro c c0 c1
        by_cases e : c = b
        · rw [e, hv]; exact ⟨vb, fun z => by rw [hs z, hL]⟩
        · rw [hold c c0 (by omega)]; exact hI c c0 (by omega)
      have inner : ∀ (f2 i : Nat) (τ2 : aH), n.toNat - i = f2 → (i : Int) ≤ n → Fr AYm σ6 τ2 → (∀ c : Int, 0 ≤ c → c < b → rI τ2 314 c = rI τ 314 c) → rI τ2 315 b = (lst g b i).sum → (0 ≤ rI τ2 314 b ∧ rI τ2 314 b ≤ (if b = 0 then 0 else b - 1)) → (Sub b → rI τ2 314 b = mxF (fun p => PF (L.eraseIdx p)) (lst g b i).length) → L_X10_payments_109 (Ev sc (d + 4)) sc P t ow b (i : Int) τ2 := by
        intro f2
        induction f2 with
        | zero =>
          intro i τ2 hf2 hi hF2 hold hs hm hx
          obtain ⟨l1, l2, l3⟩ := keep τ2 hF2
          have ei : i = n.toNat := by omega
          have sb := lst_sbd hgb (b := b) n.toNat
          have hw : ∀ (v : Int) (σ2 : aH), inR v → wI τ2 314 b v = σ2 → (0 ≤ v ∧ v ≤ b) → (Sub b → v = PF L) → L_X10_payments_80 (Ev sc (d + 4)) sc P t ow (b + 1) σ2 := by
            intro v σ2 rv e2 vb hv
            refine fin σ2 v ?_ (fun c c0 c1 => ?_) ?_ vb hv
            · rw [← e2]; exact hF2.trans (Fr.w b0 (Or.inl rfl))
            · rw [← e2, rI_wi (by omega)]; exact hold c c0 c1
            · rw [← e2]; exact rI_ww rv
          have hm2 : rI τ2 314 b ≤ b := by
            have := hm.2
            split at this <;> omega
          apply v_X10_payments_109 l1 rt (by omega) (by omega) (by omega)
          rw [l2]
          refine ⟨fun _ => ⟨by omega, fun q0 => ⟨by omega, by omega, fun σ2 e2 => ⟨by omega, hw _ σ2 (by omega) e2 (by omega) (fun z => ?_)⟩⟩, fun q0 => ⟨fun q1 => ⟨by omega, by omega, fun σ2 e2 => ⟨by omega, hw _ σ2 (by omega) e2 (by omega) (fun z => ?_)⟩⟩, fun q1 => ⟨by omega, fun q2 => ⟨by omega, by omega, fun σ2 e2 => ⟨by omega, hw _ σ2 (by omega) e2 (by omega) (fun z => ?_)⟩⟩, fun q2 => ⟨by omega, by omega, fun σ2 e2 => ⟨by omega, hw _ σ2 (by omega) e2 (by rw [if_neg q0] at hm; omega) (fun z => ?_)⟩⟩⟩⟩⟩, fun z => by omega⟩
          · -- the empty set
            have hL0 : L = [] := by
              rw [hL, q0]
              have : ∀ k : Nat, lst g 0 k = [] := by
                intro k
                induction k with
                | zero => rfl
                | succ k ihk =>
                  show (if bt 0 k = 1 then lst g 0 k ++ [g k] else lst g 0 k) = []
                  rw [if_neg (by unfold bt; rw [Int.zero_ediv]; decide), ihk]
              exact this _
            rw [hL0, PF_nil, q0]
            rw [if_pos q0] at hm
            rw [q0] at hm
            omega
          · exact absurd (by
              have := (sub_iff (b := b.toNat) (w := ow.toNat) (by omega) (by omega))
              rw [eb, eo] at this
              exact this.mpr (by rw [hSub] at z; exact z)) q1
          · obtain ⟨i0, hi0, hbi0⟩ := b8_pos b.toNat (by omega) (by omega) n.toNat (by omega) (by
              have e : ((2 ^ n.toNat : Nat) : Int) = 2 ^ n.toNat := by rw [Int.natCast_pow]; rfl
              omega)
            rw [eb] at hbi0
            have hp := lst_in g b hi0 hbi0
            rw [← hL] at hp
            rw [hx z, PF_eq (k := L.length - 1) (by omega), ei, ← hL]
            rw [hs, ei, ← hL] at q2
            rw [if_neg q2]
          · obtain ⟨i0, hi0, hbi0⟩ := b8_pos b.toNat (by omega) (by omega) n.toNat (by omega) (by
              have e : ((2 ^ n.toNat : Nat) : Int) = 2 ^ n.toNat := by rw [Int.natCast_pow]; rfl
              omega)
            rw [eb] at hbi0
            have hp := lst_in g b hi0 hbi0
            rw [← hL] at hp
            rw [hx z, PF_eq (k := L.length - 1) (by omega), ei, ← hL]
            rw [hs, ei, ← hL] at q2
            rw [if_pos q2]
        | succ f2 ih2 =>
          intro i τ2 hf2 hi hF2 hold hs hm hx
          obtain ⟨l1, l2, l3⟩ := keep τ2 hF2
          have sb := lst_sbd hgb (b := b) i
          have hgi := hgb i
          have hm2 : rI τ2 314 b ≤ 256 := by
            have := hm.2
            split at this <;> omega
          have hbt : zAnd (zShr b (i : Int)) 1 = bt b i := z_bt (by omega) (by omega) (by omega)
          apply v_X10_payments_109 l1 rt (by omega) (by omega) (by omega)
          rw [l2, hbt]
          refine ⟨fun z => by omega, fun _ => ⟨fun q => ?_, fun q => ⟨by omega, ?_⟩⟩⟩
          · have hb1 : bt b i = 1 := by have := bt_01 b i; omega
            have e : lst g b (i + 1) = lst g b i ++ [g i] := by
              show (if bt b i = 1 then _ else _) = _
              rw [if_pos hb1]
            have el : (lst g b (i + 1)).length = (lst g b i).length + 1 := by rw [e, List.length_append]; rfl
            have esu : (lst g b (i + 1)).sum = (lst g b i).sum + g i := by rw [e, List.sum_append]; simp
            obtain ⟨a1, a2, a3, a4⟩ := x1 i (by omega) hb1
            have pp : (0 : Int) < 2 ^ i := Int.pow_pos (by decide)
            obtain ⟨r, σ5, he5, hr5, e5, h5⟩ := l3 i (by omega) (by omega)
            subst e5
            rw [a1]
            refine ⟨by omega, r, σ5, he5, l1, hr5, ?_⟩
            rw [hs, h5, ← esu]
            have sb1 := lst_sbd hgb (b := b) (i + 1)
            refine ⟨by omega, by omega, fun σ27 e27 => ⟨by omega, by omega, ?_⟩⟩
            have hF27 : Fr AYm σ6 σ27 := by rw [← e27]; exact hF2.trans (Fr.w b0 (Or.inr rfl))
            have r27 : ∀ c : Int, rI σ27 314 c = rI σ5 314 c := fun c => by rw [← e27, rI_wa (by decide)]
            have s27 : rI σ27 315 b = (lst g b (i + 1)).sum := by rw [← e27]; exact rI_ww (by omega)
            obtain ⟨v, hv⟩ : ∃ v : Int, v = rI τ 314 (b - 2 ^ i) := ⟨_, rfl⟩
            rw [r27, r27, hold (b - 2 ^ i) a2 (by omega), ← hv]
            have hIc := hI
            rw [hInv] at hIc
            obtain ⟨c1, c2⟩ := hIc (b - 2 ^ i) a2 (by omega)
            rw [← hv] at c1 c2
            have her : lst g (b - 2 ^ i) n.toNat = L.eraseIdx (lst g b i).length := by rw [hL]; exact lst_erase hb1 a3 a4 (by omega) (by omega)
            have nx : ∀ (x : Int) (σ30 : aH), inR x → wI σ27 314 b x = σ30 → x = max (rI σ5 314 b) v → L_X10_payments_109 (Ev sc (d + 4)) sc P t ow b ((i : Int) + 1) σ30 := by
              intro x σ30 rx e30 hxx
              have := ih2 (i + 1) σ30 (by omega) (by omega) ?_ (fun c c0 c1 => ?_) ?_ ?_ (fun z => ?_)
              · exact this
              · rw [← e30]; exact hF27.trans (Fr.w b0 (Or.inl rfl))
              · rw [← e30, rI_wi (by omega), r27]; exact hold c c0 c1
              · rw [← e30, rI_wa (by decide)]; exact s27
              · rw [← e30, rI_ww rx, hxx]
                rw [if_neg (by omega)] at hm ⊢
                omega
              · rw [← e30, rI_ww rx, hxx, hx z, el]
                show _ = max (mxF _ (lst g b i).length) (PF (L.eraseIdx (lst g b i).length))
                rw [c2 (sub z i (by omega) hb1), her]
            refine ⟨fun q1 => ⟨by omega, by omega, fun σ30 e30 => ⟨by omega, nx _ σ30 (by omega) e30 (by omega)⟩⟩, fun q1 => ⟨by omega, by omega, fun σ34 e34 => ⟨by omega, nx _ σ34 (by omega) e34 (by omega)⟩⟩⟩
          · have hb1 : ¬ bt b i = 1 := by omega
            have e : lst g b (i + 1) = lst g b i := by
              show (if bt b i = 1 then _ else _) = _
              rw [if_neg hb1]
            have := ih2 (i + 1) τ2 (by omega) (by omega) hF2 hold (by rw [e]; exact hs) hm (by rw [e]; exact hx)
            exact this
      apply v_X10_payments_80 k1 rt (by omega) (by omega)
      rw [k2, sz]
      refine ⟨fun z => by omega, fun _ => ⟨by omega, fun σ7 e7 => ⟨by omega, fun σ10 e10 => ?_⟩⟩⟩
      refine inner _ 0 σ10 rfl (by omega) ?_ (fun c c0 c1 => ?_) ?_ ?_ (fun z => ?_)
      · rw [← e10, ← e7]; exact (hF.trans (Fr.w b0 (Or.inr rfl))).trans (Fr.w b0 (Or.inl rfl))
      · rw [← e10, rI_wi (by omega), ← e7, rI_wa (by decide)]
      · rw [← e10, rI_wa (by decide), ← e7]; exact rI_ww (by decide)
      · rw [← e10, rI_ww (by decide)]; split <;> omega
      · rw [← e10, rI_ww (by decide)]; rfl
  have owe : ∀ (f : Nat) (k : Int), (n - k).toNat = f → 0 ≤ k → k ≤ n → L_X10_payments_44 (Ev sc (d + 4)) sc P t (bs (fun i => g i ≠ 0) k.toNat) k σ6 := by
    intro f
    induction f with
    | zero =>
      intro k hf k0 k1
      obtain ⟨l1, l2, l3⟩ := keep σ6 (Fr.refl _ _)
      apply v_X10_payments_44 l1 rt (bs_30 _ (by omega)) (by omega)
      refine ⟨fun _ => ?_, fun z => by omega⟩
      rw [show k = n by omega, ← how]
      refine sets _ 0 σ6 rfl (by omega) (by omega) (Fr.refl _ _) ?_
      rw [hInv]; exact fun c c0 c1 => by omega
    | succ f ih =>
      intro k hf k0 k1
      obtain ⟨l1, l2, l3⟩ := keep σ6 (Fr.refl _ _)
      obtain ⟨r, σ5, he5, hr5, e5, h5⟩ := l3 k k0 (by omega)
      subst e5
      have b30 := bs_30 (fun i => g i ≠ 0) (n := k.toNat) (by omega)
      have bb := bs_lt (fun i => g i ≠ 0) k.toNat
      have es : bs (fun i => g i ≠ 0) (k + 1).toNat = bs (fun i => g i ≠ 0) k.toNat + cif (g k ≠ 0) (2 ^ k.toNat) 0 := sm_toNat _ k0
      have := ih (k + 1) (by omega) (by omega) (by omega)
      apply v_X10_payments_44 l1 rt b30 (by omega)
      refine ⟨fun z => by omega, fun _ => ⟨r, σ5, he5, l1, hr5, fun q z6 e6 => ⟨by omega, ?_⟩, fun q z6 e6 => ⟨by omega, ?_⟩⟩⟩
      · rw [e6, bs_step (fun i => g i ≠ 0) k0 (by omega)]
        rw [es, cif_pos (by rw [← h5]; exact q)] at this
        exact this
      · rw [e6, zOr_0 ⟨bb.1, b30.2⟩]
        rw [es, cif_neg (fun z => z (by rw [← h5]; exact q)), Int.add_zero] at this
        exact this
  have := owe _ 0 rfl (by omega) h9.1
  rw [show bs (fun i => g i ≠ 0) (0 : Int).toNat = 0 from sm_0 _] at this
  exact this
end
