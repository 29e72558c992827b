/-! THE REFERENCE: a stall of the text. -/
section
variable {sc : Nat × (Nat → Int32)} {d : Nat} {σ : aH} {u : Nat} {c : Int → Int} {e : Int} {K : Nat → Int} {D : Nat → Int → Int} {E : Nat → Nat → Option Int}
theorem m_skip (hG : G σ u) (hK : MK σ c e K) : TV sc (d + 2) mX10_blanks [.ref 76] σ (fun σ1 => Fr (fun a i => a = 76 ∧ i = 4) σ σ1 ∧ MK σ1 c e (skK c K)) := by
  obtain ⟨hT, h5, h6, h4b, h4⟩ := hK
  obtain ⟨σ1, he, hF, h1⟩ := m_blanks (sc := sc) (d := d) hG hT (k := rI σ 76 4) rfl h4b
  have b := scF_bd hT.1.b (rI σ 76 4)
  have k9 : skK c K 9 = K 9 := kset_ne (by decide)
  refine ⟨σ1, he, hF, hT.fr hF (by show ¬ (76 = 76 ∧ (2 : Int) = 4); omega) (fun i => by show ¬ (77 = 76 ∧ i = 4); omega), ?_, ?_, by rw [h1]; omega, fun z => ?_⟩
  · rw [k9, hF.rw (by omega) (by show ¬ (76 = 76 ∧ (5 : Int) = 4); omega)]; exact h5
  · rw [show skK c K 10 = K 10 from kset_ne (by decide), hF.rw (by omega) (by show ¬ (76 = 76 ∧ (6 : Int) = 4); omega)]; exact h6
  · rw [h1, h4 (k9 ▸ z)]; exact kset_eq.symm
theorem MK.wrong {σ1 : aH} {a b : Int} (h : MK σ c e K) (hF : Fr (fun a i => a = 76 ∧ (i = 5 ∨ i = 6)) σ σ1) (x5 : rI σ1 76 5 = (if rI σ 76 5 = 0 then a else rI σ 76 5)) (x6 : rI σ1 76 6 = (if rI σ 76 5 = 0 then b else rI σ 76 6)) (ha : a ≠ 0) {b1 : Int} (hb : K 9 = 0 → b = b1) : MK σ1 c e (flt K a b1) := by
  obtain ⟨hT, h5, h6, h4b, h4⟩ := h
  have hT1 : MT σ1 c e := hT.fr hF (by show ¬ (76 = 76 ∧ ((2 : Int) = 5 ∨ (2 : Int) = 6)); omega) (fun i => by show ¬ (77 = 76 ∧ _); omega)
  have e4 : rI σ1 76 4 = rI σ 76 4 := hF.rw (by omega) (by show ¬ (76 = 76 ∧ ((4 : Int) = 5 ∨ (4 : Int) = 6)); omega)
  by_cases z : K 9 = 0
  · rw [flt_0 z]
    rw [if_pos (h5.trans z)] at x5 x6
    have k9 : kset (kset K 9 a) 10 b1 9 = a := by rw [kset_ne (by decide), kset_eq]
    exact ⟨hT1, by rw [k9]; exact x5, by rw [kset_eq, x6]; exact hb z, by rw [e4]; exact h4b, fun y => absurd (k9.symm.trans y) ha⟩
  · rw [flt_1 z]
    rw [if_neg (by rw [h5]; exact z)] at x5 x6
    exact ⟨hT1, x5.trans h5, x6.trans h6, by rw [e4]; exact h4b, fun y => absurd y z⟩
abbrev ASh : Nat → Int → Prop := fun a i => (a = 76 ∧ (i = 4 ∨ i = 5 ∨ i = 6)) ∨ (82 ≤ a ∧ a ≤ 89) ∨ (a = 79 ∧ i = 2)
theorem flt_idem {a b : Int} (ha : a ≠ 0) : flt (flt K a b) a b = flt K a b := by
  by_cases z : K 9 = 0
  · rw [flt_0 z, flt_1 (by rw [kset_ne (by decide), kset_eq]; exact ha)]
  · rw [flt_1 z, flt_1 z]
theorem m_stallHere (hG : G σ u) (hK : MK σ c e K) (h0 : K 9 = 0) (hC : Mc (rI σ) K D E) (h2 : 0 ≤ K 2 ∧ K 2 < 8) (hb0 : 0 ≤ K 0 ∧ K 0 ≤ 9) (hb1 : 0 ≤ K 1 ∧ K 1 ≤ 9) : TV sc (d + 4) mX10_stallHere [.ref 76, .ref (82 + (K 2).toNat)] σ (fun σ1 => Fr ASh σ σ1 ∧ MK σ1 c e (stF c (K, D, E)).1 ∧ ((stF c (K, D, E)).1 9 = 0 → Mc (rI σ1) (stF c (K, D, E)).1 (stF c (K, D, E)).2.1 (stF c (K, D, E)).2.2)) := by
  obtain ⟨j, hj⟩ : ∃ j : Nat, j = (K 2).toNat := ⟨_, rfl⟩
  have j8 : j < 8 := by omega
  rw [← hj]
  apply T.void
  apply t_X10_stallHere hG j8
  obtain ⟨P, hP⟩ : ∃ P : aO → aH → Prop, P = QV (fun σ1 => Fr ASh σ σ1 ∧ MK σ1 c e (stF c (K, D, E)).1 ∧ ((stF c (K, D, E)).1 9 = 0 → Mc (rI σ1) (stF c (K, D, E)).1 (stF c (K, D, E)).2.1 (stF c (K, D, E)).2.2)) := ⟨_, rfl⟩
  rw [← hP]
  have rowA : ∀ i : Int, ASh (82 + j) i := fun i => Or.inr (Or.inl (by omega))
  have f456 : ∀ τ τ1 : aH, Fr A456 τ τ1 → Fr ASh τ τ1 := fun τ τ1 h => h.weak (fun a i z => Or.inl z)
  obtain ⟨X, hX⟩ : ∃ X : Int, X = stX c K := ⟨_, rfl⟩
  obtain ⟨Y, hY⟩ : ∃ Y : Int, Y = stY c K := ⟨_, rfl⟩
  -- the last number
  have last : ∀ (τ : aH), Fr ASh σ τ → rI τ 79 2 = K 2 → MK τ c e (stK4 c K D) → rI τ (82 + j) 0 = X → rI τ (82 + j) 1 = Y → (∀ f : Int, 3 ≤ f → f < 7 → rI τ (82 + j) f = 0) → (∀ (a : Nat) (i : Int), 79 ≤ a → a ≤ 162 → 0 ≤ i → a ≠ 82 + j → rI τ a i = rI σ a i) → ∃ (r5 : Int) (σ1 : aH), Ev sc (d + 3) mX10_number [.ref 76, .int (nZ 0), .int (nZ 40)] τ (.inl (some (.int (nZ r5)))) σ1 ∧ G σ1 u ∧ inR r5 ∧ (∀ σ6 : aH, wI σ1 (82 + j) 2 r5 = σ6 → ((¬ (rI σ6 76 5) = 0 → P (.inl none) σ6) ∧ ((rI σ6 76 5) = 0 → (inR ((rI σ6 79 2) + 1) ∧ (∀ σ10 : aH, wI σ6 79 2 ((rI σ6 79 2) + 1) = σ10 → P (.inl none) σ10))))) := by
    intro τ hF h79 hM4 hx hy hz ho
    obtain ⟨r5, σ1, he1, hr1, hF1, hM1, v1⟩ := m_number (sc := sc) (d := d) (lo := 0) (hi := 40) (hF.g hG) hM4 (by decide) (by decide)
    refine ⟨r5, σ1, he1, hF1.g (hF.g hG), hr1, fun σ6 e6 => ?_⟩
    have hF06 : Fr ASh σ σ6 := by rw [← e6]; exact (hF.trans (f456 _ _ hF1)).trans (Fr.w (by omega) (rowA _))
    have hF16 : Fr (fun a _ => a = 82 + j) σ1 σ6 := by rw [← e6]; exact Fr.w (by omega) rfl
    have hM6 : MK σ6 c e (stK5 c K D) := MK.fr hM1 hF16 (fun i _ => by show ¬ (76 = 82 + j); omega) (fun i => by show ¬ (77 = 82 + j); omega)
    have hM6' : MK σ6 c e (stF c (K, D, E)).1 := hM6.to (show kset (stK5 c K D) 2 (K 2 + 1) 9 = _ from kset_ne (by decide)) (show kset (stK5 c K D) 2 (K 2 + 1) 10 = _ from kset_ne (by decide)) (show kset (stK5 c K D) 2 (K 2 + 1) 11 = _ from kset_ne (by decide))
    have s5 : rI σ6 76 5 = (stF c (K, D, E)).1 9 := hM6'.2.1
    have n6 : rI σ6 79 2 = K 2 := by rw [← e6, rI_wa (by omega), hF1.rw (by omega) (A456_a (by decide) _)]; exact h79
    refine ⟨fun q => ?_, fun q => ⟨by omega, fun σ10 e10 => ?_⟩⟩
    · rw [hP]; exact ⟨rfl, hF06, hM6', fun z => absurd (s5.trans z) q⟩
    · rw [n6] at e10
      have hF610 : Fr (fun a i => a = 79 ∧ i = 2) σ6 σ10 := by rw [← e10]; exact Fr.w (by omega) ⟨rfl, rfl⟩
      have oth : ∀ (a : Nat) (i : Int), 79 ≤ a → a ≤ 162 → 0 ≤ i → a ≠ 82 + j → (a ≠ 79 ∨ i ≠ 2) → rI σ10 a i = rI σ a i := fun a i p1 p2 i0 p3 p4 => by
        rw [hF610.rw i0 (by show ¬ (a = 79 ∧ i = 2); omega), hF16.rw i0 (by show ¬ (a = 82 + j); omega), hF1.rw i0 (A456_a (by omega) i)]; exact ho a i p1 p2 i0 p3
      have rw' : ∀ f : Int, 0 ≤ f → f ≠ 2 → rI σ10 (82 + j) f = rI τ (82 + j) f := fun f f0 fn => by
        rw [hF610.rw f0 (by show ¬ (82 + j = 79 ∧ _); omega), ← e6, rI_wi (by omega), hF1.rw f0 (A456_a (by omega) f)]
      have r2 : rI σ10 (82 + j) 2 = stH c K D := by
        rw [hF610.rw (by omega) (by show ¬ (82 + j = 79 ∧ _); omega), ← e6, rI_ww hr1]; exact v1
      have kl : ∀ i : Nat, i ≤ 5 → stK5 c K D i = K i := fun i hi => by
        have a4 : stK4 c K D i = K i := by
          unfold stK4 kif
          split
          · rw [flt_ne (by omega) (by omega)]
            show numK c 0 (stK2 c K 1 - 1) (stK2 c K) i = K i
            rw [numK_ne (by omega) (by omega) (by omega)]
            show skK c (stK1 c K) i = K i
            rw [skK_ne (by omega)]
            exact numK_ne (by omega) (by omega) (by omega)
          · show numK c 0 (stK2 c K 1 - 1) (stK2 c K) i = K i
            rw [numK_ne (by omega) (by omega) (by omega)]
            show skK c (stK1 c K) i = K i
            rw [skK_ne (by omega)]
            exact numK_ne (by omega) (by omega) (by omega)
        show numK c 0 40 (stK4 c K D) i = K i
        rw [numK_ne (by omega) (by omega) (by omega)]; exact a4
      rw [hP]
      refine ⟨rfl, ?_, ?_, fun _ => ⟨fun i hi => ?_, fun s q0 q1 f hf => ?_, ?_, ?_⟩⟩
      · exact hF06.trans (hF610.weak (fun a i z => Or.inr (Or.inr z)))
      · exact hM6'.fr hF610 (fun i z => by show ¬ (76 = 79 ∧ i = 2); omega) (fun i => by show ¬ (77 = 79 ∧ i = 2); omega)
      · by_cases z : i = 2
        · rw [z, ← e10]
          show rI _ 79 2 = kset (stK5 c K D) 2 (K 2 + 1) 2
          rw [kset_eq]; exact rI_ww (by omega)
        · show rI σ10 79 i = kset (stK5 c K D) 2 (K 2 + 1) i
          rw [kset_ne z, kl i hi, oth 79 i (by omega) (by omega) (by omega) (by omega) (by omega)]; exact hC.1 i hi
      · have q1' : s < K 2 + 1 := by
          have : (stF c (K, D, E)).1 2 = K 2 + 1 := (show kset (stK5 c K D) 2 (K 2 + 1) 2 = K 2 + 1 from kset_eq)
          rw [this] at q1; exact q1
        show rI σ10 (82 + s.toNat) f = Dadd D (K 2) (stX c K) (stY c K) (stH c K D) f s
        by_cases z : s = K 2
        · have ej : s.toNat = j := by omega
          rw [ej, z]
          have ff : f = 0 ∨ f = 1 ∨ f = 2 ∨ f = 3 ∨ f = 4 ∨ f = 5 ∨ f = 6 := by omega
          obtain ⟨a0, a1, a2, a3, a4, a5, a6, -⟩ := Dadd_n (D := D) (n := K 2) (x := stX c K) (y := stY c K) (h := stH c K D) (i := K 2) rfl
          rcases ff with y | y | y | y | y | y | y <;> subst y
          · rw [show ((0 : Nat) : Int) = 0 from rfl, rw' 0 (by omega) (by omega), a0, hx, hX]
          · rw [show ((1 : Nat) : Int) = 1 from rfl, rw' 1 (by omega) (by omega), a1, hy, hY]
          · rw [show ((2 : Nat) : Int) = 2 from rfl, a2, r2]
          · rw [show ((3 : Nat) : Int) = 3 from rfl, rw' 3 (by omega) (by omega), a3, hz 3 (by omega) (by omega)]
          · rw [show ((4 : Nat) : Int) = 4 from rfl, rw' 4 (by omega) (by omega), a4, hz 4 (by omega) (by omega)]
          · rw [show ((5 : Nat) : Int) = 5 from rfl, rw' 5 (by omega) (by omega), a5, hz 5 (by omega) (by omega)]
          · rw [show ((6 : Nat) : Int) = 6 from rfl, rw' 6 (by omega) (by omega), a6, hz 6 (by omega) (by omega)]
        · have : Dadd D (K 2) (stX c K) (stY c K) (stH c K D) f s = D f s := Dadd_ne (by omega)
          rw [this, oth (82 + s.toNat) f (by omega) (by omega) (by omega) (by omega) (by omega)]
          exact hC.2.1 s q0 (by omega) f hf
      · exact hC.2.2.1.congr (oth 79 6 (by omega) (by omega) (by omega) (by omega) (by omega)) (fun k f k0 k1 f0 f1 => oth _ f (by omega) (by omega) f0 (by omega) (by omega))
      · exact hC.2.2.2.congr (oth 79 7 (by omega) (by omega) (by omega) (by omega) (by omega)) (fun k f k0 k1 f0 f1 => oth _ f (by omega) (by omega) f0 (by omega) (by omega))
  have c0 : rI σ 79 0 = K 0 := hC.1 0 (by decide)
  have c1 : rI σ 79 1 = K 1 := hC.1 1 (by decide)
  have e21 : stK2 c K 1 = K 1 := by
    show skK c (stK1 c K) 1 = K 1
    rw [skK_ne (by decide)]; exact numK_ne (by decide) (by decide) (by decide)
  have zero : ∀ (g : Nat) (f : Int) (τ : aH), (7 - f).toNat = g → 0 ≤ f → f ≤ 7 → Fr (fun a _ => a = 82 + j) σ τ → (∀ k : Int, 0 ≤ k → k < f → rI τ (82 + j) k = 0) → L_X10_stallHere_2 (Ev sc (d + 3)) sc P j f τ := by
    intro g
    induction g with
    | succ g ih =>
      intro f τ hg f0 f1 hF hz
      apply v_X10_stallHere_2 (hF.g hG) j8 (by omega)
      refine ⟨fun q => by omega, fun _ => ⟨by omega, fun σ26 e26 => ⟨by omega, ih (f + 1) σ26 (by omega) (by omega) (by omega) ?_ (fun k k0 k1 => ?_)⟩⟩⟩
      · rw [← e26]; exact hF.trans (Fr.w f0 rfl)
      · rw [← e26]
        by_cases z : k = f
        · rw [z]; exact rI_ww (by decide)
        · rw [rI_wi (by omega)]; exact hz k k0 (by omega)
    | zero =>
      intro f τ hg f0 f1 hF hz
      have rr : ∀ (a : Nat) (i : Int), a ≠ 82 + j → 0 ≤ i → rI τ a i = rI σ a i := fun a i p i0 => hF.rw i0 p
      have hMt : MK τ c e K := hK.fr hF (fun i _ => by show ¬ (76 = 82 + j); omega) (fun i => by show ¬ (77 = 82 + j); omega)
      obtain ⟨r6, σ2, he2, hr2, hF2, hM2, v2⟩ := m_number (sc := sc) (d := d) (lo := 0) (hi := K 0 - 1) (hF.g hG) hMt (by decide) (by omega)
      have hG2 : G σ2 u := hF2.g (hF.g hG)
      apply v_X10_stallHere_2 (hF.g hG) j8 (by omega)
      rw [rr 79 0 (by omega) (by omega), c0]
      refine ⟨fun _ => ⟨by omega, r6, σ2, he2, hG2, hr2, fun σ7 e7 => ?_⟩, fun q => by omega⟩
      have hF7 : Fr (fun a _ => a = 82 + j) σ2 σ7 := by rw [← e7]; exact Fr.w (by omega) rfl
      have hM7 : MK σ7 c e (stK1 c K) := MK.fr hM2 hF7 (fun i _ => by show ¬ (76 = 82 + j); omega) (fun i => by show ¬ (77 = 82 + j); omega)
      obtain ⟨σ10, he10, hF10, hM10⟩ := m_skip (sc := sc) (d := d + 1) (hF7.g hG2) hM7
      have hG10 : G σ10 u := hF10.g (hF7.g hG2)
      have rr10 : ∀ (a : Nat) (i : Int), a ≠ 82 + j → a ≠ 76 → 0 ≤ i → rI σ10 a i = rI σ a i := fun a i p p2 i0 => by
        rw [hF10.rw i0 (by show ¬ (a = 76 ∧ i = 4); omega), hF7.rw i0 p, hF2.rw i0 (A456_a p2 i)]; exact rr a i p i0
      have rw10 : ∀ f : Int, 0 ≤ f → f ≠ 0 → rI σ10 (82 + j) f = rI τ (82 + j) f := fun f f0 fn => by
        rw [hF10.rw f0 (by show ¬ (82 + j = 76 ∧ f = 4); omega), ← e7, rI_wi (by omega), hF2.rw f0 (A456_a (by omega) f)]
      have x10 : rI σ10 (82 + j) 0 = X := by
        rw [hF10.rw (by omega) (by show ¬ (82 + j = 76 ∧ (0 : Int) = 4); omega), ← e7, rI_ww hr2, v2, hX]; rfl
      refine ⟨σ10, he10, hG10, fun z14 e14 => ?_⟩
      rw [rr10 79 1 (by omega) (by omega) (by omega), c1]
      obtain ⟨r22, σ18, he18, hr18, hF18, hM18, v18⟩ := m_number (sc := sc) (d := d) (lo := 0) (hi := K 1 - 1) hG10 hM10 (by decide) (by omega)
      have hM18' : MK σ18 c e (stK3 c K) := by
        have : numK c 0 (K 1 - 1) (skK c (stK1 c K)) = stK3 c K := by
          show _ = numK c 0 (stK2 c K 1 - 1) (stK2 c K)
          rw [e21]; rfl
        rw [← this]; exact hM18
      have v18' : r22 = Y := by
        rw [hY, v18]
        show _ = numV c 0 (stK2 c K 1 - 1) (stK2 c K)
        rw [e21]; rfl
      have hzz : stK3 c K 9 = 0 → z14 = stK2 c K 11 := fun z => by
        rw [e14]
        exact hM10.2.2.2.2 (numK_0 (c := c) (lo := 0) (hi := stK2 c K 1 - 1) (K := stK2 c K) z)
      have rz : inR z14 := by rw [e14]; exact rI_R _ _ _
      refine ⟨by omega, r22, σ18, he18, hF18.g hG10, hr18, fun σ23 e23 => ?_⟩
      have hF23 : Fr (fun a _ => a = 82 + j) σ18 σ23 := by rw [← e23]; exact Fr.w (by omega) rfl
      have hM23 : MK σ23 c e (stK3 c K) := hM18'.fr hF23 (fun i _ => by show ¬ (76 = 82 + j); omega) (fun i => by show ¬ (77 = 82 + j); omega)
      have rr23 : ∀ (a : Nat) (i : Int), a ≠ 82 + j → a ≠ 76 → 0 ≤ i → rI σ23 a i = rI σ a i := fun a i p p2 i0 => by
        rw [hF23.rw i0 p, hF18.rw i0 (A456_a p2 i)]; exact rr10 a i p p2 i0
      have x23 : rI σ23 (82 + j) 0 = X := by rw [← e23, rI_wi (by decide), hF18.rw (by omega) (A456_a (by omega) 0)]; exact x10
      have y23 : rI σ23 (82 + j) 1 = Y := by rw [← e23, rI_ww hr18]; exact v18'
      have z23 : ∀ f : Int, 3 ≤ f → f < 7 → rI σ23 (82 + j) f = 0 := fun f p q => by
        rw [← e23, rI_wi (by omega), hF18.rw (by omega) (A456_a (by omega) f), rw10 f (by omega) (by omega)]; exact hz f (by omega) (by omega)
      have w82 : ∀ τ τ1 : aH, Fr (fun a _ => a = 82 + j) τ τ1 → Fr ASh τ τ1 := fun τ τ1 h => h.weak (fun a i z => by rw [show a = 82 + j from z]; exact rowA i)
      have hF023 : Fr ASh σ σ23 := ((((w82 _ _ hF).trans (f456 _ _ hF2)).trans (w82 _ _ hF7)).trans (hF10.weak (fun a i z => Or.inl ⟨z.1, Or.inl z.2⟩))).trans ((f456 _ _ hF18).trans (w82 _ _ hF23))
      have scan : ∀ (g2 : Nat) (k : Int) (τ2 : aH), (K 2 - k).toNat = g2 → 0 ≤ k → k ≤ K 2 → Fr (fun a i => a = 76 ∧ (i = 5 ∨ i = 6)) σ23 τ2 → MK τ2 c e (kif (∃ i : Int, i < k ∧ At D (K 2) X Y i) (flt (stK3 c K) 2 (stK2 c K 11)) (stK3 c K)) → L_X10_stallHere_61 (Ev sc (d + 3)) sc P j z14 k τ2 := by
        intro g2
        induction g2 with
        | zero =>
          intro k τ2 hg2 k0 k1 hF2' hM2'
          have r2' : ∀ (a : Nat) (i : Int), a ≠ 76 → 0 ≤ i → rI τ2 a i = rI σ23 a i := fun a i p i0 => hF2'.rw i0 (by show ¬ (a = 76 ∧ _); omega)
          have n2 : rI τ2 79 2 = K 2 := by rw [r2' 79 2 (by omega) (by omega), rr23 79 2 (by omega) (by omega) (by omega)]; exact hC.1 2 (by decide)
          have hG2' : G τ2 u := hF2'.g (hF023.g hG)
          apply v_X10_stallHere_61 hG2' j8 rz (by omega)
          refine ⟨fun _ => ?_, fun q => by omega⟩
          refine last τ2 (hF023.trans (hF2'.weak (fun a i z => Or.inl ⟨z.1, Or.inr z.2⟩))) n2 ?_ ((r2' _ 0 (by omega) (by omega)).trans x23) ((r2' _ 1 (by omega) (by omega)).trans y23) (fun f p q => (r2' _ f (by omega) (by omega)).trans (z23 f p q)) (fun a i p1 p2 i0 p3 => (r2' a i (by omega) i0).trans (rr23 a i p3 (by omega) i0))
          have eq : (∃ i : Int, i < k ∧ At D (K 2) X Y i) = (∃ i : Int, At D (K 2) (stX c K) (stY c K) i) := by
            rw [hX, hY]
            exact propext ⟨fun ⟨i, _, b⟩ => ⟨i, b⟩, fun ⟨i, b⟩ => ⟨i, by have := b.2.1; omega, b⟩⟩
          rw [eq] at hM2'
          exact hM2'
        | succ g2 ih2 =>
          intro k τ2 hg2 k0 k1 hF2' hM2'
          have r2' : ∀ (a : Nat) (i : Int), a ≠ 76 → 0 ≤ i → rI τ2 a i = rI σ23 a i := fun a i p i0 => hF2'.rw i0 (by show ¬ (a = 76 ∧ _); omega)
          have n2 : rI τ2 79 2 = K 2 := by rw [r2' 79 2 (by omega) (by omega), rr23 79 2 (by omega) (by omega) (by omega)]; exact hC.1 2 (by decide)
          have hG2' : G τ2 u := hF2'.g (hF023.g hG)
          have d0 : rI τ2 (82 + k.toNat) 0 = D 0 k := by rw [r2' _ 0 (by omega) (by omega), rr23 _ 0 (by omega) (by omega) (by omega)]; exact hC.2.1 k k0 (by omega) 0 (by decide)
          have d1 : rI τ2 (82 + k.toNat) 1 = D 1 k := by rw [r2' _ 1 (by omega) (by omega), rr23 _ 1 (by omega) (by omega) (by omega)]; exact hC.2.1 k k0 (by omega) 1 (by decide)
          have xj : rI τ2 (82 + j) 0 = X := (r2' _ 0 (by omega) (by omega)).trans x23
          have yj : rI τ2 (82 + j) 1 = Y := (r2' _ 1 (by omega) (by omega)).trans y23
          have no : ¬ (D 0 k = X ∧ D 1 k = Y) → L_X10_stallHere_61 (Ev sc (d + 3)) sc P j z14 (k + 1) τ2 := by
            intro hno
            refine ih2 (k + 1) τ2 (by omega) (by omega) (by omega) hF2' ?_
            have eq : (∃ i : Int, i < k + 1 ∧ At D (K 2) X Y i) = (∃ i : Int, i < k ∧ At D (K 2) X Y i) := by
              refine propext ⟨fun ⟨i, a, b⟩ => ⟨i, ?_, b⟩, fun ⟨i, a, b⟩ => ⟨i, by omega, b⟩⟩
              by_cases y : i = k
              · exact absurd (by rw [← y]; exact ⟨b.2.2.1, b.2.2.2⟩) hno
              · omega
            rw [eq]; exact hM2'
          apply v_X10_stallHere_61 hG2' j8 rz (by omega)
          rw [n2, d0, d1, xj, yj]
          refine ⟨fun q => by omega, fun _ => ⟨by omega, fun q => ⟨by omega, no (fun z => q z.1)⟩, fun q => ⟨by omega, fun q1 => ⟨by omega, no (fun z => q1 z.2)⟩, fun q1 => ?_⟩⟩⟩
          obtain ⟨σ17, he17, hF17, x5, x6⟩ := m_wrong (sc := sc) (d := d + 2) (a := 2) (b := z14) hG2' (by decide) rz
          refine ⟨σ17, he17, hF17.g hG2', by omega, ih2 (k + 1) σ17 (by omega) (by omega) (by omega) (hF2'.trans hF17) ?_⟩
          have pos : ∃ i : Int, i < k + 1 ∧ At D (K 2) X Y i := ⟨k, by omega, k0, by omega, q, q1⟩
          rw [kif_pos pos]
          by_cases y : ∃ i : Int, i < k ∧ At D (K 2) X Y i
          · rw [kif_pos y] at hM2'
            have := hM2'.wrong hF17 x5 x6 (by decide) (b1 := stK2 c K 11) (fun z => by
              exfalso
              by_cases w : stK3 c K 9 = 0
              · rw [flt_0 w, kset_ne (by decide), kset_eq] at z; exact absurd z (by decide)
              · rw [flt_1 w] at z; exact w z)
            rw [flt_idem (by decide)] at this
            exact this
          · rw [kif_neg y] at hM2'
            exact hM2'.wrong hF17 x5 x6 (by decide) hzz
      refine scan _ 0 σ23 rfl (by omega) h2.1 (Fr.refl _ _) ?_
      rw [kif_neg (fun ⟨i, a, b⟩ => by have := b.1; omega)]
      exact hM23
  exact zero _ 0 σ rfl (by omega) (by omega) (Fr.refl _ _) (fun k a b => by omega)
end
