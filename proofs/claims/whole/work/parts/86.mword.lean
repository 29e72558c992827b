/-! THE REFERENCE: words. -/
def cdF (f : Nat → Int) : Nat → Int
  | 0 => 0
  | n + 1 => 27 * cdF f n + f n
theorem cdF_pos {f : Nat → Int} : ∀ {n : Nat}, (∀ i : Nat, i < n → 1 ≤ f i ∧ f i ≤ 26) → 0 ≤ cdF f n ∧ (0 < n → 0 < cdF f n)
  | 0, _ => ⟨Int.le_refl 0, fun h => by omega⟩
  | n + 1, h => by
    have ih := cdF_pos (n := n) (fun i hi => h i (by omega))
    have := h n (by omega)
    show 0 ≤ 27 * cdF f n + f n ∧ (0 < n + 1 → 0 < 27 * cdF f n + f n)
    omega
theorem cdF_inj {f g : Nat → Int} : ∀ {n m : Nat}, (∀ i : Nat, i < n → 1 ≤ f i ∧ f i ≤ 26) → (∀ i : Nat, i < m → 1 ≤ g i ∧ g i ≤ 26) → cdF f n = cdF g m → n = m ∧ ∀ i : Nat, i < n → f i = g i
  | 0, 0, _, _, _ => ⟨rfl, fun i hi => by omega⟩
  | 0, m + 1, _, hg, h => by
    have := (cdF_pos hg).2 (by omega)
    have h' : (0 : Int) = cdF g (m + 1) := h
    omega
  | n + 1, 0, hf, _, h => by
    have := (cdF_pos hf).2 (by omega)
    have h' : cdF f (n + 1) = (0 : Int) := h
    omega
  | n + 1, m + 1, hf, hg, h => by
    have h' : 27 * cdF f n + f n = 27 * cdF g m + g m := h
    have a := hf n (by omega)
    have b := hg m (by omega)
    have ih := cdF_inj (n := n) (m := m) (fun i hi => hf i (by omega)) (fun i hi => hg i (by omega)) (by omega)
    refine ⟨by omega, fun i hi => ?_⟩
    by_cases e : i = n
    · have e2 : g n = g m := by rw [ih.1]
      rw [e, e2]; omega
    · exact ih.2 i (by omega)
theorem cdF_bd {f : Nat → Int} : ∀ {n : Nat}, (∀ i : Nat, i < n → 1 ≤ f i ∧ f i ≤ 26) → cdF f n < 27 ^ n
  | 0, _ => by show (0 : Int) < 1; decide
  | n + 1, h => by
    have ih := cdF_bd (n := n) (fun i hi => h i (by omega))
    have := h n (by omega)
    show 27 * cdF f n + f n < 27 ^ n * 27
    omega
def cw (j : Nat) : Int := cdF (fun i => ((wdByt.getD j []).getD i 0).toInt - 96) (wdLen.getD j 0)
theorem cw_dig : ∀ j : Nat, j < 10 → ∀ i : Nat, i < 8 → i < wdLen.getD j 0 → 1 ≤ ((wdByt.getD j []).getD i 0).toInt - 96 ∧ ((wdByt.getD j []).getD i 0).toInt - 96 ≤ 26 := by decide +kernel
theorem wd_8 : ∀ i : Nat, i < 10 → wdLen.getD i 0 ≤ 7 := by decide +kernel
theorem isW_code {c : Int → Int} {k : Int} {l j : Nat} (hl : ∀ i : Nat, i < l → 97 ≤ c (k + i) ∧ c (k + i) ≤ 122) (hj : j < 10) : cdF (fun i => c (k + i) - 96) l = cw j ↔ isW c k (k + l) j := by
  have w8 := wd_8 j hj
  constructor
  · intro h
    have := cdF_inj (fun i hi => by have := hl i hi; show 1 ≤ c (k + i) - 96 ∧ c (k + i) - 96 ≤ 26; omega) (fun i hi => cw_dig j hj i (by omega) hi) h
    refine ⟨by omega, fun i i0 i1 => ?_⟩
    have := this.2 i.toNat (by omega)
    rw [show ((i.toNat : Nat) : Int) = i by omega] at this
    omega
  · intro h
    have e : l = wdLen.getD j 0 := by have := h.1; omega
    unfold cw
    rw [← e]
    have cg : ∀ (n : Nat), n ≤ l → cdF (fun i => c (k + i) - 96) n = cdF (fun i => ((wdByt.getD j []).getD i 0).toInt - 96) n := by
      intro n
      induction n with
      | zero => intro _; rfl
      | succ n ih =>
        intro hn
        have := h.2 n (by omega) (by omega)
        show 27 * _ + (c (k + n) - 96) = 27 * _ + (((wdByt.getD j []).getD n 0).toInt - 96)
        rw [ih (by omega), this]; rfl
    exact cg l (Nat.le_refl _)
def sv (x0 x1 x2 x3 x4 x5 x6 : Int) : Int :=
  let a := 27 * (27 * x0 + x1) + x2
  let b := if x3 = 0 then a else 27 * a + x3
  let c := if x4 = 0 then b else 27 * b + x4
  let e := if x5 = 0 then c else 27 * c + x5
  if x6 = 0 then e else 27 * e + x6
theorem cw_sv : cw 0 = sv 6 9 5 12 4 0 0 ∧ cw 1 = sv 19 20 1 12 12 0 0 ∧ cw 6 = sv 6 15 12 4 0 0 0 ∧ cw 8 = sv 4 21 19 11 0 0 0 ∧ cw 9 = sv 3 12 15 21 4 0 0 ∧ cw 4 = sv 19 21 14 0 0 0 0 ∧ cw 5 = sv 18 1 20 5 0 0 0 ∧ cw 2 = sv 1 23 14 9 14 7 0 ∧ cw 3 = sv 7 18 15 23 0 0 0 ∧ cw 7 = sv 12 1 14 20 5 18 14 := by decide +kernel
section
variable {sc : Nat × (Nat → Int32)} {d : Nat} {σ : aH} {u : Nat} {c : Int → Int} {e : Int} {K : Nat → Int}
theorem m_seven {x0 x1 x2 x3 x4 x5 x6 : Int} (hG : G σ u) (h0 : 0 ≤ x0 ∧ x0 ≤ 26) (h1 : 0 ≤ x1 ∧ x1 ≤ 26) (h2 : 0 ≤ x2 ∧ x2 ≤ 26) (h3 : 0 ≤ x3 ∧ x3 ≤ 26) (h4 : 0 ≤ x4 ∧ x4 ≤ 26) (h5 : 0 ≤ x5 ∧ x5 ≤ 26) (h6 : 0 ≤ x6 ∧ x6 ≤ 26) : Ev sc (d + 1) mX10_seven [.int (nZ x0), .int (nZ x1), .int (nZ x2), .int (nZ x3), .int (nZ x4), .int (nZ x5), .int (nZ x6)] σ (.inl (some (.long (nJ (sv x0 x1 x2 x3 x4 x5 x6))))) σ := by
  apply T.ev
  apply t_X10_seven hG (by omega) (by omega) (by omega) (by omega) (by omega) (by omega) (by omega)
  obtain ⟨P, hP⟩ : ∃ P : aO → aH → Prop, P = fun o σ1 => o = .inl (some (.long (nJ (sv x0 x1 x2 x3 x4 x5 x6)))) ∧ σ1 = σ := ⟨_, rfl⟩
  rw [← hP]
  have last : ∀ y s : Int, inJ y → 0 ≤ s → s ≤ 400000000 → (s = (if x4 = 0 then (if x3 = 0 then 27 * (27 * x0 + x1) + x2 else 27 * (27 * (27 * x0 + x1) + x2) + x3) else 27 * (if x3 = 0 then 27 * (27 * x0 + x1) + x2 else 27 * (27 * (27 * x0 + x1) + x2) + x3) + x4)) → L_X10_seven_58 (Ev sc d) sc P x0 x1 x2 x3 x4 x5 x6 y s σ := by
    intro y s ry s0 s1 hs
    apply v_X10_seven_58 hG (by omega) (by omega) (by omega) (by omega) (by omega) (by omega) (by omega) ry (by omega)
    refine ⟨fun q => ⟨by omega, by omega, fun z3 e3 => ⟨fun q1 => ⟨by omega, by omega, ?_⟩, fun q1 => ?_⟩⟩, fun q => ⟨fun q1 => ⟨by omega, by omega, ?_⟩, fun q1 => ?_⟩⟩
    all_goals rw [hP]; refine ⟨?_, rfl⟩; unfold sv; dsimp only; rw [← hs]
    · rw [if_neg q, if_neg q1, e3]
    · rw [if_neg q, if_pos q1, e3]
    · rw [if_pos q, if_neg q1]
    · rw [if_pos q, if_pos q1]
  refine ⟨by omega, by omega, by omega, by omega, fun z5 e5 => ⟨fun q => ⟨by omega, by omega, fun z10 e10 => ⟨fun q1 => ⟨by omega, by omega, last _ _ (by omega) (by omega) (by omega) ?_⟩, fun q1 => last _ _ (by omega) (by omega) (by omega) ?_⟩⟩, fun q => ⟨fun q1 => ⟨by omega, by omega, last _ _ (by omega) (by omega) (by omega) ?_⟩, fun q1 => last _ _ (by omega) (by omega) (by omega) ?_⟩⟩⟩
  · rw [if_neg q1, if_neg q, e10, e5]
  · rw [if_pos q1, if_neg q, e10, e5]
  · rw [if_neg q1, if_pos q, e5]
  · rw [if_pos q1, if_pos q, e5]
/-- the code of the word from k on -/
def wcF (c : Int → Int) (k : Int) : Int := if scF c isLt k - k ≤ 8 then cdF (fun i => c (k + i) - 96) (scF c isLt k - k).toNat else -1
theorem m_wordHere {k : Int} (hG : G σ u) (hT : MT σ c e) (hk : rI σ 76 4 = k) (hb : 0 ≤ k ∧ k ≤ e) (hs : scF c isB k = k) : ∃ σ1 : aH, Ev sc (d + 3) mX10_wordHere [.ref 76] σ (.inl (some (.long (nJ (wcF c k))))) σ1 ∧ Fr (fun a i => a = 76 ∧ i = 4) σ σ1 ∧ rI σ1 76 4 = k := by
  have he := hT.1.1
  have : T sc (d + 3) mX10_wordHere [.ref 76] σ (fun o σ1 => o = .inl (some (.long (nJ (wcF c k)))) ∧ Fr (fun a i => a = 76 ∧ i = 4) σ σ1 ∧ rI σ1 76 4 = k) := by
    apply t_X10_wordHere hG
    obtain ⟨σ1, he1, hF1, h1⟩ := m_blanks (sc := sc) (d := d) hG hT hk hb
    rw [hs] at h1
    have hT1 : MT σ1 c e := hT.fr hF1 (by show ¬ (76 = 76 ∧ (2 : Int) = 4); omega) (fun i => by show ¬ (77 = 76 ∧ i = 4); omega)
    refine ⟨σ1, he1, hF1.g hG, ?_⟩
    obtain ⟨P, hP⟩ : ∃ P : aO → aH → Prop, P = fun o σ1 => o = .inl (some (.long (nJ (wcF c k)))) ∧ Fr (fun a i => a = 76 ∧ i = 4) σ σ1 ∧ rI σ1 76 4 = k := ⟨_, rfl⟩
    rw [← hP]
    obtain ⟨q, hq⟩ : ∃ q : Int, q = scF c isLt k := ⟨_, rfl⟩
    have qb := scF_bd hT.1.l k
    rw [← hq] at qb
    have qe := qb.2 hb.2
    have loop : ∀ (g j : Nat), (q - k - j).toNat = g → k + j ≤ q → scF c isLt (k + j) = q → (∀ i : Nat, i < j → 97 ≤ c (k + i) ∧ c (k + i) ≤ 122) → L_X10_wordHere_8 (Ev sc (d + 2)) sc P (cdF (fun i => c (k + i) - 96) (min j 8)) (j : Int) σ1 := by
      intro g
      induction g with
      | zero =>
        intro j hg hj hsj hl
        have ej : k + j = q := by omega
        have dg : ∀ i : Nat, i < min j 8 → 1 ≤ (fun i : Nat => c (k + i) - 96) i ∧ (fun i : Nat => c (k + i) - 96) i ≤ 26 := fun i hi => by have := hl i (by omega); show 1 ≤ c (k + i) - 96 ∧ c (k + i) - 96 ≤ 26; omega
        have cp := (cdF_pos dg).1
        have cb := cdF_bd dg
        have cb2 : (27 : Int) ^ (min j 8) ≤ 282429536481 := by
          have : ∀ m : Nat, m ≤ 8 → (27 : Int) ^ m ≤ 282429536481 := by decide
          exact this _ (by omega)
        obtain ⟨r6, σ6, he6, hr6, e6, h6⟩ := m_byteAt (sc := sc) (d := d + 1) (hF1.g hG) hT1 (k := k + j) (by omega) (by omega)
        subst e6
        have st := scF_step (p := isLt) he.2 hT.1.l (k := k + j) (by omega)
        have nl : ¬ (97 ≤ c (k + j) ∧ c (k + j) ≤ 122) := by
          intro z
          rw [if_pos (by unfold isLt; rw [decide_eq_true_eq]; exact z), hsj] at st
          have := scF_bd hT.1.l (k + j + 1)
          omega
        have fin : (j ≤ 8 → P (.inl (some (.long (nJ (cdF (fun i => c (k + i) - 96) (min j 8)))))) σ6) ∧ (¬ (j ≤ 8) → P (.inl (some (.long (nJ (-1))))) σ6) := by
          rw [hP]
          refine ⟨fun z => ⟨?_, hF1, h1⟩, fun z => ⟨?_, hF1, h1⟩⟩
          · unfold wcF; rw [← hq, if_pos (by omega), show (q - k).toNat = j by omega, show min j 8 = j by omega]
          · unfold wcF; rw [← hq, if_neg (by omega)]
        apply v_X10_wordHere_8 (hF1.g hG) (by omega) (by omega)
        rw [h1]
        refine ⟨by omega, r6, σ6, he6, hF1.g hG, hr6, fun _ => ⟨fun z => fin.1 (by omega), fun z => fin.2 (by omega)⟩, fun z => ?_⟩
        rw [h1]
        exact ⟨by omega, r6, σ6, he6, hF1.g hG, hr6, fun _ => ⟨fun z => fin.1 (by omega), fun z => fin.2 (by omega)⟩, fun z => by omega⟩
      | succ g ih =>
        intro j hg hj hsj hl
        have dg : ∀ i : Nat, i < min j 8 → 1 ≤ (fun i : Nat => c (k + i) - 96) i ∧ (fun i : Nat => c (k + i) - 96) i ≤ 26 := fun i hi => by have := hl i (by omega); show 1 ≤ c (k + i) - 96 ∧ c (k + i) - 96 ≤ 26; omega
        have cp := (cdF_pos dg).1
        have cb := cdF_bd dg
        have cb2 : (27 : Int) ^ (min j 8) ≤ 282429536481 := by
          have : ∀ m : Nat, m ≤ 8 → (27 : Int) ^ m ≤ 282429536481 := by decide
          exact this _ (by omega)
        obtain ⟨r6, σ6, he6, hr6, e6, h6⟩ := m_byteAt (sc := sc) (d := d + 1) (hF1.g hG) hT1 (k := k + j) (by omega) (by omega)
        subst e6
        have st := scF_step (p := isLt) he.2 hT.1.l (k := k + j) (by omega)
        have yl : 97 ≤ c (k + j) ∧ c (k + j) ≤ 122 := by
          by_cases z : 97 ≤ c (k + j) ∧ c (k + j) ≤ 122
          · exact z
          · rw [if_neg (by unfold isLt; rw [decide_eq_true_eq]; exact z), hsj] at st; omega
        rw [if_pos (by unfold isLt; rw [decide_eq_true_eq]; exact yl), hsj] at st
        have nx := ih (j + 1) (by omega) (by omega) (by rw [show k + ((j + 1 : Nat) : Int) = k + j + 1 by omega]; exact st.symm) (fun i hi => by
          by_cases w : i = j
          · rw [w]; exact yl
          · exact hl i (by omega))
        apply v_X10_wordHere_8 (hF1.g hG) (by omega) (by omega)
        rw [h1]
        refine ⟨by omega, r6, σ6, he6, hF1.g hG, hr6, fun z => by omega, fun _ => ?_⟩
        rw [h1]
        refine ⟨by omega, r6, σ6, he6, hF1.g hG, hr6, fun z => by omega, fun _ => ⟨fun z => ⟨by omega, ?_⟩, fun z => ⟨by omega, ?_⟩⟩⟩
        · rw [show min (j + 1) 8 = min j 8 by omega] at nx
          exact nx
        · rw [h1]
          refine ⟨by omega, r6, σ6, he6, hF1.g hG, hr6, by omega, by omega, by omega, fun z24 e24 => ⟨by omega, ?_⟩⟩
          rw [show min (j + 1) 8 = j + 1 by omega] at nx
          rw [show min j 8 = j by omega] at e24
          have ez : z24 = cdF (fun i => c (k + i) - 96) (j + 1) := by
            rw [e24, h6]
            show 27 * _ + c (k + j) - 97 + 1 = 27 * _ + (c (k + j) - 96)
            omega
          rw [ez]; exact nx
    have := loop _ 0 rfl (by omega) (by rw [show k + ((0 : Nat) : Int) = k by omega, hq]) (fun i hi => by omega)
    exact this
  obtain ⟨o, σ1, he1, e, h⟩ := this
  exact ⟨σ1, by rw [← e]; exact he1, h⟩
theorem wcF_inJ (hT : TxS c e) {k : Int} (hb : 0 ≤ k ∧ k ≤ e) : (∀ i : Nat, (i : Int) < scF c isLt k - k → 97 ≤ c (k + i) ∧ c (k + i) ≤ 122) ∧ inJ (wcF c k) := by
  have lt : ∀ (f : Nat) (k : Int), 0 ≤ k → ∀ i : Nat, (i : Int) < scn c isLt f k - k → 97 ≤ c (k + i) ∧ c (k + i) ≤ 122 := by
    intro f
    induction f with
    | zero => intro k _ i hi; have : scn c isLt 0 k = k := rfl; omega
    | succ f ih =>
      intro k k0 i hi
      have es : scn c isLt (f + 1) k = if isLt (c k) then scn c isLt f (k + 1) else k := rfl
      by_cases z : isLt (c k) = true
      · rw [es, if_pos z] at hi
        by_cases w : i = 0
        · rw [w]; unfold isLt at z; rw [decide_eq_true_eq] at z
          rw [show k + ((0 : Nat) : Int) = k by omega]; exact z
        · have := ih (k + 1) (by omega) (i - 1) (by omega)
          rw [show k + 1 + ((i - 1 : Nat) : Int) = k + i by omega] at this
          exact this
      · rw [es, if_neg z] at hi; omega
  have l := lt 601 k hb.1
  refine ⟨l, ?_⟩
  unfold wcF
  split
  · have dg : ∀ i : Nat, i < (scF c isLt k - k).toNat → 1 ≤ (fun i : Nat => c (k + i) - 96) i ∧ (fun i : Nat => c (k + i) - 96) i ≤ 26 := fun i hi => by
      have : (i : Int) < scn c isLt 601 k - k := by have : scF c isLt k = scn c isLt 601 k := rfl; omega
      have := l i this
      show 1 ≤ c (k + i) - 96 ∧ c (k + i) - 96 ≤ 26; omega
    have cp := (cdF_pos dg).1
    have cb := cdF_bd dg
    have cb2 : (27 : Int) ^ ((scF c isLt k - k).toNat) ≤ 282429536481 := by
      have : ∀ m : Nat, m ≤ 8 → (27 : Int) ^ m ≤ 282429536481 := by decide
      exact this _ (by omega)
    omega
  · decide
theorem m_isWord {k x0 x1 x2 x3 x4 x5 x6 : Int} {j : Nat} (hG : G σ u) (hT : MT σ c e) (h5 : rI σ 76 5 = 0) (hk : rI σ 76 4 = k) (hb : 0 ≤ k ∧ k ≤ e) (hs : scF c isB k = k) (hj : j < 10) (hc : cw j = sv x0 x1 x2 x3 x4 x5 x6) (g0 : 0 ≤ x0 ∧ x0 ≤ 26) (g1 : 0 ≤ x1 ∧ x1 ≤ 26) (g2 : 0 ≤ x2 ∧ x2 ≤ 26) (g3 : 0 ≤ x3 ∧ x3 ≤ 26) (g4 : 0 ≤ x4 ∧ x4 ≤ 26) (g5 : 0 ≤ x5 ∧ x5 ≤ 26) (g6 : 0 ≤ x6 ∧ x6 ≤ 26) : TI sc (d + 4) mX10_isWord [.ref 76, .int (nZ x0), .int (nZ x1), .int (nZ x2), .int (nZ x3), .int (nZ x4), .int (nZ x5), .int (nZ x6)] σ (fun r σ1 => Fr (fun a i => a = 76 ∧ i = 4) σ σ1 ∧ rI σ1 76 4 = k ∧ ((r = 1 ∧ isW c k (scF c isLt k) j) ∨ (r = 0 ∧ ¬ isW c k (scF c isLt k) j))) := by
  obtain ⟨σ1, he1, hF1, h1⟩ := m_wordHere (sc := sc) (d := d) hG hT hk hb hs
  obtain ⟨hl, hJ⟩ := wcF_inJ hT.1 hb
  have hsev := m_seven (sc := sc) (d := d + 2) (hF1.g hG) g0 g1 g2 g3 g4 g5 g6
  have w8 := wd_8 j hj
  have w3 := wd_3 j hj
  have qb := scF_bd hT.1.l k
  have cwb : 0 < cw j ∧ inJ (cw j) := by
    have dg : ∀ i : Nat, i < wdLen.getD j 0 → 1 ≤ (fun i : Nat => ((wdByt.getD j []).getD i 0).toInt - 96) i ∧ (fun i : Nat => ((wdByt.getD j []).getD i 0).toInt - 96) i ≤ 26 := fun i hi => cw_dig j hj i (by omega) hi
    have a := (cdF_pos dg).2 (by omega)
    have b := cdF_bd dg
    have cb2 : (27 : Int) ^ (wdLen.getD j 0) ≤ 282429536481 := by
      have : ∀ m : Nat, m ≤ 8 → (27 : Int) ^ m ≤ 282429536481 := by decide
      exact this _ (by omega)
    have e : cw j = cdF (fun i => ((wdByt.getD j []).getD i 0).toInt - 96) (wdLen.getD j 0) := rfl
    rw [e]; omega
  have key : wcF c k = cw j ↔ isW c k (scF c isLt k) j := by
    unfold wcF
    have ek : k + (((scF c isLt k - k).toNat : Nat) : Int) = scF c isLt k := by omega
    split
    · have := isW_code (c := c) (k := k) (l := (scF c isLt k - k).toNat) (j := j) (fun i hi => hl i (by omega)) hj
      rw [ek] at this
      exact this
    · constructor
      · intro z; omega
      · intro z; have := z.1; omega
  apply T.int
  apply t_X10_isWord hG (by omega) (by omega) (by omega) (by omega) (by omega) (by omega) (by omega)
  refine ⟨fun z => absurd h5 z, fun _ => ⟨wcF c k, σ1, he1, hF1.g hG, hJ, sv x0 x1 x2 x3 x4 x5 x6, σ1, hsev, hF1.g hG, by rw [← hc]; exact cwb.2, fun z => ?_, fun z => ?_⟩⟩
  · refine ⟨0, rfl, by decide, hF1, h1, Or.inr ⟨rfl, fun w => z ?_⟩⟩
    rw [key.mpr w, hc, if_neg (by omega), if_pos rfl]
  · refine ⟨1, rfl, by decide, hF1, h1, Or.inl ⟨rfl, key.mp ?_⟩⟩
    rw [hc]
    by_cases y : sv x0 x1 x2 x3 x4 x5 x6 < wcF c k
    · rw [if_pos y] at z; omega
    · rw [if_neg y] at z
      by_cases y2 : wcF c k = sv x0 x1 x2 x3 x4 x5 x6
      · exact y2
      · rw [if_neg y2] at z; omega
end
