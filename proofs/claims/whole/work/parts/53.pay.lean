/-! PAYMENTS: by sets, as bits, of nets. -/
def mxF (f : Nat → Int) : Nat → Int
  | 0 => 0
  | p + 1 => max (mxF f p) (f p)
theorem mxF_congr {f g : Nat → Int} : ∀ {k : Nat}, (∀ p : Nat, p < k → f p = g p) → mxF f k = mxF g k
  | 0, _ => rfl
  | k + 1, h => by
    show max (mxF f k) (f k) = max (mxF g k) (g k)
    rw [mxF_congr (k := k) (fun p hp => h p (by omega)), h k (by omega)]
theorem mxF_bd {f : Nat → Int} {M : Int} (hM : 0 ≤ M) : ∀ {k : Nat}, (∀ p : Nat, p < k → f p ≤ M) → 0 ≤ mxF f k ∧ mxF f k ≤ M
  | 0, _ => ⟨Int.le_refl 0, hM⟩
  | k + 1, h => by
    have h1 := mxF_bd (f := f) hM (k := k) (fun p hp => h p (by omega))
    have h2 := h k (by omega)
    show 0 ≤ max (mxF f k) (f k) ∧ max (mxF f k) (f k) ≤ M
    omega
/-- the most parts of sum 0, one behind the other -/
def PFn : Nat → List Int → Int
  | 0, _ => 0
  | k + 1, l => mxF (fun p => PFn k (l.eraseIdx p)) l.length + (if l.sum = 0 then 1 else 0)
def PF (l : List Int) : Int := PFn l.length l
theorem PF_nil : PF [] = 0 := rfl
theorem len_erase {l : List Int} {p k : Nat} (h : l.length = k + 1) (hp : p < l.length) : (l.eraseIdx p).length = k := by
  rw [List.length_eraseIdx, if_pos hp]; omega
theorem PF_eq {l : List Int} {k : Nat} (h : l.length = k + 1) : PF l = mxF (fun p => PF (l.eraseIdx p)) l.length + (if l.sum = 0 then 1 else 0) := by
  have e : PF l = PFn (k + 1) l := by unfold PF; rw [h]
  rw [e]
  show mxF (fun p => PFn k (l.eraseIdx p)) l.length + _ = _
  congr 1
  refine mxF_congr (fun p hp => ?_)
  show PFn k (l.eraseIdx p) = PFn (l.eraseIdx p).length (l.eraseIdx p)
  rw [len_erase h hp]
theorem PF_bd : ∀ (k : Nat) (l : List Int), l.length = k → 0 ≤ PF l ∧ PF l ≤ k
  | 0, l, h => by
    have e : PF l = PFn 0 l := by unfold PF; rw [h]
    rw [e]; exact ⟨Int.le_refl 0, Int.le_refl 0⟩
  | k + 1, l, h => by
    rw [PF_eq h]
    have := mxF_bd (f := fun p => PF (l.eraseIdx p)) (M := (k : Int)) (by omega) (k := l.length) (fun p hp => (PF_bd k _ (len_erase h hp)).2)
    split <;> omega
/-- the values of the bits of b below k -/
def lst (f : Int → Int) (b : Int) : Nat → List Int
  | 0 => []
  | k + 1 => if bt b k = 1 then lst f b k ++ [f k] else lst f b k
theorem lst_bits {f g : Int → Int} {b c : Int} : ∀ {k : Nat}, (∀ i : Nat, i < k → bt b i = bt c i) → (∀ i : Nat, i < k → f i = g i) → lst f b k = lst g c k
  | 0, _, _ => rfl
  | k + 1, h, h2 => by
    show (if bt b k = 1 then _ else _) = (if bt c k = 1 then _ else _)
    rw [h k (by omega), lst_bits (k := k) (f := f) (g := g) (b := b) (c := c) (fun i hi => h i (by omega)) (fun i hi => h2 i (by omega)), h2 k (by omega)]
theorem lst_len (f : Int → Int) (b : Int) : ∀ k : Nat, (lst f b k).length ≤ k
  | 0 => Nat.le_refl 0
  | k + 1 => by
    have := lst_len f b k
    show (if bt b k = 1 then lst f b k ++ [f k] else lst f b k).length ≤ k + 1
    split
    · rw [List.length_append]; simp; omega
    · omega
theorem lst_mono (f : Int → Int) (b : Int) {i : Nat} : ∀ {k : Nat}, i ≤ k → (lst f b i).length ≤ (lst f b k).length
  | 0, h => by have e : i = 0 := by omega
               rw [e]; exact Nat.le_refl _
  | k + 1, h => by
    by_cases c : i = k + 1
    · rw [c]; exact Nat.le_refl _
    · have := lst_mono f b (i := i) (k := k) (by omega)
      show _ ≤ (if bt b k = 1 then lst f b k ++ [f k] else lst f b k).length
      split
      · rw [List.length_append]; omega
      · exact this
theorem lst_in (f : Int → Int) (b : Int) {i k : Nat} (hi : i < k) (h : bt b i = 1) : (lst f b i).length < (lst f b k).length := by
  have h1 : (lst f b (i + 1)).length = (lst f b i).length + 1 := by
    show (if bt b i = 1 then lst f b i ++ [f i] else lst f b i).length = _
    rw [if_pos h, List.length_append]; rfl
  have := lst_mono f b (show i + 1 ≤ k by omega)
  omega
theorem lst_erase {f : Int → Int} {b c : Int} {i : Nat} (hi : bt b i = 1) (hc : bt c i = 0) (hb : ∀ j : Nat, j < 8 → j ≠ i → bt c j = bt b j) : ∀ {k : Nat}, i < k → k ≤ 8 → lst f c k = (lst f b k).eraseIdx (lst f b i).length
  | 0, h, _ => by omega
  | k + 1, h, h8 => by
    by_cases e : i = k
    · subst e
      have e1 : lst f c i = lst f b i := lst_bits (fun j hj => hb j (by omega) (by omega)) (fun _ _ => rfl)
      show (if bt c i = 1 then lst f c i ++ [f i] else lst f c i) = (if bt b i = 1 then lst f b i ++ [f i] else lst f b i).eraseIdx _
      rw [if_neg (by omega), if_pos hi, e1, List.eraseIdx_append_of_length_le (Nat.le_refl _)]
      simp
    · have ih := lst_erase hi hc hb (k := k) (f := f) (by omega) (by omega)
      have hl := lst_in f b (show i < k by omega) hi
      show (if bt c k = 1 then lst f c k ++ [f k] else lst f c k) = (if bt b k = 1 then lst f b k ++ [f k] else lst f b k).eraseIdx _
      rw [hb k (by omega) (by omega), ih]
      split
      · rw [List.eraseIdx_append_of_lt_length hl]
      · rfl
theorem lst_sum {f : Int → Int} {b c : Int} {i : Nat} (hi : bt b i = 1) (hc : bt c i = 0) (hb : ∀ j : Nat, j < 8 → j ≠ i → bt c j = bt b j) : ∀ {k : Nat}, i < k → k ≤ 8 → (lst f b k).sum = (lst f c k).sum + f i
  | 0, h, _ => by omega
  | k + 1, h, h8 => by
    by_cases e : i = k
    · subst e
      have e1 : lst f c i = lst f b i := lst_bits (fun j hj => hb j (by omega) (by omega)) (fun _ _ => rfl)
      show (if bt b i = 1 then lst f b i ++ [f i] else lst f b i).sum = (if bt c i = 1 then lst f c i ++ [f i] else lst f c i).sum + f i
      rw [if_pos hi, if_neg (show ¬ bt c i = 1 by omega), e1, List.sum_append]; simp
    · have ih := lst_sum hi hc hb (k := k) (f := f) (by omega) (by omega)
      show (if bt b k = 1 then lst f b k ++ [f k] else lst f b k).sum = (if bt c k = 1 then lst f c k ++ [f k] else lst f c k).sum + f i
      rw [hb k (by omega) (by omega)]
      split
      · rw [List.sum_append, List.sum_append, ih]; omega
      · exact ih
theorem lst_sbd {f : Int → Int} {b : Int} (hf : ∀ i : Int, -300000 ≤ f i ∧ f i ≤ 300000) : ∀ k : Nat, -300000 * (k : Int) ≤ (lst f b k).sum ∧ (lst f b k).sum ≤ 300000 * (k : Int)
  | 0 => by show -300000 * (0 : Int) ≤ 0 ∧ (0 : Int) ≤ 300000 * 0; decide
  | k + 1 => by
    have ih := lst_sbd hf (b := b) k
    have := hf k
    show _ ≤ (if bt b k = 1 then lst f b k ++ [f k] else lst f b k).sum ∧ (if bt b k = 1 then lst f b k ++ [f k] else lst f b k).sum ≤ _
    split
    · rw [List.sum_append]; simp; omega
    · omega
/-! bits of sets of eight -/
theorem b8_xor : ∀ b : Nat, b < 256 → ∀ i : Nat, i < 8 → bt b i = 1 → zXor b (zShl 1 i) = (b : Int) - 2 ^ i ∧ 0 ≤ (b : Int) - 2 ^ i ∧ bt ((b : Int) - 2 ^ i) i = 0 := by decide +kernel
theorem b8_sub : ∀ b : Nat, b < 256 → ∀ i : Nat, i < 8 → ∀ j : Nat, j < 8 → (bt b i = 1 ∧ j ≠ i → bt ((b : Int) - 2 ^ i) j = bt b j) := by decide +kernel
theorem b8_pos : ∀ b : Nat, b < 256 → 0 < b → ∀ k : Nat, k ≤ 8 → b < 2 ^ k → ∃ i : Nat, i < k ∧ bt b i = 1 := by
  intro b hb h0 k hk hlt
  have h : ∀ k : Nat, k ≤ 8 → ∀ b : Nat, b < 2 ^ k → 0 < b → ∃ i : Nat, i < k ∧ bt b i = 1 := by decide +kernel
  exact h k hk b hlt h0
theorem b8_full : ∀ k : Nat, k ≤ 8 → ∀ i : Nat, i < k → bt (2 ^ k - 1) i = 1 := by decide +kernel
/-- the nets that are not 0, in order -/
def gl (g : Int → Int) : Nat → List Int
  | 0 => []
  | k + 1 => if g k = 0 then gl g k else gl g k ++ [g k]
def mp (f : Int → Int) : Nat → List Int
  | 0 => []
  | k + 1 => mp f k ++ [f k]
theorem mp_congr {f g : Int → Int} : ∀ {k : Nat}, (∀ i : Nat, i < k → f i = g i) → mp f k = mp g k
  | 0, _ => rfl
  | k + 1, h => by
    show mp f k ++ [f k] = mp g k ++ [g k]
    rw [mp_congr (k := k) (fun i hi => h i (by omega)), h k (by omega)]
theorem mp_len (f : Int → Int) : ∀ k : Nat, (mp f k).length = k
  | 0 => rfl
  | k + 1 => by show (mp f k ++ [f k]).length = k + 1; rw [List.length_append, mp_len f k]; rfl
theorem lst_full {f : Int → Int} {b : Int} : ∀ {k : Nat}, (∀ i : Nat, i < k → bt b i = 1) → lst f b k = mp f k
  | 0, _ => rfl
  | k + 1, h => by
    show (if bt b k = 1 then lst f b k ++ [f k] else lst f b k) = mp f k ++ [f k]
    rw [if_pos (h k (by omega)), lst_full (k := k) (fun i hi => h i (by omega))]
theorem gl_len (g : Int → Int) : ∀ k : Nat, (gl g k).length ≤ k
  | 0 => Nat.le_refl 0
  | k + 1 => by
    have := gl_len g k
    show (if g k = 0 then gl g k else gl g k ++ [g k]).length ≤ k + 1
    split
    · omega
    · rw [List.length_append]; simp; omega
theorem gl_congr {f g : Int → Int} : ∀ {k : Nat}, (∀ i : Int, 0 ≤ i → i < k → f i = g i) → gl f k = gl g k
  | 0, _ => rfl
  | k + 1, h => by
    show (if f k = 0 then gl f k else gl f k ++ [f k]) = (if g k = 0 then gl g k else gl g k ++ [g k])
    rw [h k (by omega) (by omega), gl_congr (k := k) (fun i i0 i1 => h i i0 (by omega))]
/-- how many payments -/
def PayV (g : Int → Int) (n : Int) : Int := ((gl g n.toNat).length : Int) - PF (gl g n.toNat)
section
variable {sc : Nat × (Nat → Int32)} {d : Nat} {σ : aH} {u w : Nat} {n : Int} {S F F1 : Int → Int}
theorem s_splitSet {b m : Int} {f : Int → Int} (hG : G σ u) (hm : 0 ≤ m ∧ m ≤ 8) (hb : 1 ≤ b ∧ b < 2 ^ m.toNat) (h8 : b < 256) (hf : ∀ i : Int, -300000 ≤ f i ∧ f i ≤ 300000) (hN : ∀ i : Int, 0 ≤ i → i < m → rI σ 23 i = f i) (hI : ∀ c : Int, 0 ≤ c → c < b → rI σ 24 c = (lst f c m.toNat).sum ∧ rI σ 25 c = PF (lst f c m.toNat)) : TV sc (d + 1) mX3_splitSet [.ref 22, .int (nZ b), .int (nZ m)] σ (fun σ1 => Fr (fun a _ => a = 24 ∨ a = 25) σ σ1 ∧ ∀ c : Int, 0 ≤ c → c < b + 1 → rI σ1 24 c = (lst f c m.toNat).sum ∧ rI σ1 25 c = PF (lst f c m.toNat)) := by
  apply T.void
  apply t_X3_splitSet hG (by omega) (by omega)
  obtain ⟨P, hP⟩ : ∃ P : aO → aH → Prop, P = QV (fun σ1 => Fr (fun a _ => a = 24 ∨ a = 25) σ σ1 ∧ ∀ c : Int, 0 ≤ c → c < b + 1 → rI σ1 24 c = (lst f c m.toNat).sum ∧ rI σ1 25 c = PF (lst f c m.toNat)) := ⟨_, rfl⟩
  rw [← hP]
  obtain ⟨L, hL⟩ : ∃ L : List Int, L = lst f b m.toNat := ⟨_, rfl⟩
  have hLlen : L.length ≤ m.toNat := by rw [hL]; exact lst_len _ _ _
  obtain ⟨i0, hi0, hbi0⟩ : ∃ i : Nat, i < m.toNat ∧ bt b i = 1 := by
    have := b8_pos b.toNat (by omega) (by omega) m.toNat (by omega) (by
      have e : ((2 ^ m.toNat : Nat) : Int) = 2 ^ m.toNat := by rw [Int.natCast_pow]; rfl
      omega)
    rw [show ((b.toNat : Nat) : Int) = b by omega] at this
    exact this
  have hLpos : ∃ k : Nat, L.length = k + 1 := by
    have := lst_in f b hi0 hbi0
    rw [← hL] at this
    exact ⟨L.length - 1, by omega⟩
  obtain ⟨k, hk⟩ := hLpos
  have mb : ∀ p : Nat, p ≤ L.length → 0 ≤ mxF (fun p => PF (L.eraseIdx p)) p ∧ mxF (fun p => PF (L.eraseIdx p)) p ≤ 8 := by
    intro p hp
    have := mxF_bd (f := fun p => PF (L.eraseIdx p)) (M := (k : Int)) (by omega) (k := p) (fun q hq => (PF_bd k _ (len_erase hk (by omega))).2)
    omega
  have sb := lst_sbd hf (b := b) m.toNat
  rw [← hL] at sb
  have loop : ∀ (g i : Nat) (τ : aH), m.toNat - i = g → i ≤ m.toNat → Fr (fun a c => a = 24 ∧ c = b) σ τ → (rI τ 24 b = L.sum ∨ (lst f b i).length = 0) → L_X3_splitSet_5 (Ev sc d) sc P b m (mxF (fun p => PF (L.eraseIdx p)) (lst f b i).length) (i : Int) τ := by
    intro g
    induction g with
    | zero =>
      intro i τ hg hi hF hs
      have hl : (lst f b i).length = L.length := by rw [hL, show i = m.toNat by omega]
      have hmx := mb L.length (Nat.le_refl _)
      have hs' : rI τ 24 b = L.sum := by
        rcases hs with hs | hs
        · exact hs
        · omega
      rw [hl]
      apply v_X3_splitSet_5 (hF.g hG) (by omega) (by omega) (by omega) (by omega)
      refine ⟨fun _ => ⟨by omega, fun c => ⟨by omega, fun σ1 e1 => ?_⟩, fun c => ⟨by omega, by omega, fun σ1 e1 => ?_⟩⟩, fun q => by omega⟩
      all_goals
        rw [hP]
        refine ⟨rfl, ?_, fun c0 q0 q1 => ?_⟩
        · rw [← e1]; exact (hF.weak (fun a i z => Or.inl z.1)).trans (Fr.w (by omega) (Or.inr rfl))
        · by_cases ce : c0 = b
          · rw [ce, ← e1, rI_wa (by decide), rI_ww (by omega), hs', ← hL, PF_eq hk]
            refine ⟨rfl, ?_⟩
            first | rw [if_pos (by omega)] | (rw [if_neg (by omega)]; omega)
          · rw [← e1, rI_wa (by decide), rI_wi (by omega), hF.rw q0 (by show ¬ (24 = 24 ∧ c0 = b); omega), hF.rw q0 (by show ¬ (25 = 24 ∧ c0 = b); omega)]
            exact hI c0 q0 (by omega)
    | succ g ih =>
      intro i τ hg hi hF hs
      have hmx := mb (lst f b i).length (by rw [hL]; exact lst_mono f b hi)
      have hbt : zAnd (zUsr b (i : Int)) 1 = bt b i := z_btU ⟨by omega, by omega⟩ (by omega) (by omega)
      apply v_X3_splitSet_5 (hF.g hG) (by omega) (by omega) (by omega) (by omega)
      rw [hbt]
      refine ⟨fun q => by omega, fun _ => ⟨fun c => ⟨by omega, ?_⟩, fun c z9 e9 => ?_⟩⟩
      · have e : lst f b (i + 1) = lst f b i := by
          show (if bt b i = 1 then _ else _) = _
          rw [if_neg c]
        have := ih (i + 1) τ (by omega) (by omega) hF (by rw [e]; exact hs)
        rw [e] at this
        exact this
      · have eb : ((b.toNat : Nat) : Int) = b := by omega
        have x1 := b8_xor b.toNat (by omega) i (by omega) (by rw [eb]; exact c)
        have x2 := fun (j : Nat) (hj : j < 8) => b8_sub b.toNat (by omega) i (by omega) j hj
        rw [eb] at x1
        have x2 : ∀ j : Nat, j < 8 → j ≠ i → bt (b - 2 ^ i) j = bt b j := fun j hj hne => by
          have := x2 j hj
          rw [eb] at this
          exact this ⟨c, hne⟩
        have e9' : z9 = b - 2 ^ i := by rw [e9]; exact x1.1
        have hp : (0 : Int) < 2 ^ i := Int.pow_pos (by decide)
        have z0 : 0 ≤ z9 ∧ z9 < b := by rw [e9']; omega
        have hz := hI z9 z0.1 z0.2
        have h24 : rI τ 24 z9 = (lst f z9 m.toNat).sum := (hF.rw z0.1 (by show ¬ (24 = 24 ∧ z9 = b); omega)).trans hz.1
        have h25 : rI τ 25 z9 = PF (lst f z9 m.toNat) := (hF.rw z0.1 (by show ¬ (25 = 24 ∧ z9 = b); omega)).trans hz.2
        have h23 : rI τ 23 i = f i := (hF.rw (by omega) (by show ¬ (23 = 24 ∧ _); omega)).trans (hN i (by omega) (by omega))
        have hsum : (lst f b m.toNat).sum = (lst f z9 m.toNat).sum + f i := by rw [e9']; exact lst_sum c x1.2.2 (fun j hj hne => x2 j hj hne) (by omega) (by omega)
        have her : lst f z9 m.toNat = (lst f b m.toNat).eraseIdx (lst f b i).length := by rw [e9']; exact lst_erase c x1.2.2 (fun j hj hne => x2 j hj hne) (by omega) (by omega)
        rw [← hL] at hsum her
        refine ⟨by omega, by omega, by rw [h24, h23, ← hsum]; omega, by omega, fun σ13 e13 => ⟨by omega, fun z16 e16 => ⟨by omega, ?_⟩⟩⟩
        have hF13 : Fr (fun a c => a = 24 ∧ c = b) σ σ13 := by rw [← e13]; exact hF.trans (Fr.w (by omega) ⟨rfl, rfl⟩)
        have e : lst f b (i + 1) = lst f b i ++ [f i] := by
          show (if bt b i = 1 then _ else _) = _
          rw [if_pos c]
        have el : (lst f b (i + 1)).length = (lst f b i).length + 1 := by rw [e, List.length_append]; rfl
        have := ih (i + 1) σ13 (by omega) (by omega) hF13 (Or.inl (by rw [← e13, rI_ww (by rw [h24, h23, ← hsum]; omega), h24, h23, ← hsum]))
        rw [el] at this
        have e25 : rI σ13 25 z9 = PF (L.eraseIdx (lst f b i).length) := by rw [← e13, rI_wa (by decide), h25, her]
        rw [e25] at e16
        rw [e16]
        exact this
  exact loop _ 0 σ rfl (by omega) (Fr.refl _ _) (Or.inr rfl)
theorem s_gatherNets {g : Int → Int} (hG : G σ u) (hSh : Sh σ u n) (h8 : n ≤ 8) (hw : IsWt w) (hW : WtS (rI σ) w S F F1) (hS : SB S) (hF9 : F9 F) (hF1 : F9 F1) (hg : g = GainD (Dc (rI σ) u) n (rI σ (u + 1) 9) (1 + rI σ u 9) S F F1) : TI sc (d + 4) mX3_gatherNets [.ref 22, .ref 27, .ref w] σ (fun r σ1 => Fr (fun a _ => a = 23) σ σ1 ∧ r = ((gl g n.toNat).length : Int) ∧ mp (rI σ1 23) r.toNat = gl g n.toNat) := by
  have hm : u = 39 ∨ u = 60 := hG.2.2.2.2
  have h0 := hSh.2.1
  apply T.int
  apply t_X3_gatherNets hG hw
  obtain ⟨P, hP⟩ : ∃ P : aO → aH → Prop, P = QI (fun r σ1 => Fr (fun a _ => a = 23) σ σ1 ∧ r = ((gl g n.toNat).length : Int) ∧ mp (rI σ1 23) r.toNat = gl g n.toNat) := ⟨_, rfl⟩
  rw [← hP]
  have loop : ∀ (q i : Nat) (τ : aH), n.toNat - i = q → (i : Int) ≤ n → Fr (fun a _ => a = 23) σ τ → mp (rI τ 23) (gl g i).length = gl g i → L_X3_gatherNets_5 (Ev sc (d + 3)) sc P w ((gl g i).length : Int) (i : Int) τ := by
    intro q
    induction q with
    | zero =>
      intro i τ hq hi hF hmp
      have hl := gl_len g i
      have hn8 : rI τ (u + 1) 8 = n := (hF.rw (by omega) (by show ¬ (u + 1 = 23); omega)).trans hSh.1
      apply v_X3_gatherNets_5 (hF.g hG) hw (by omega) (by omega)
      refine ⟨fun _ => ?_, fun z => by omega⟩
      have e : i = n.toNat := by omega
      rw [hP, e]
      rw [e] at hmp hl
      exact ⟨_, rfl, by omega, hF, rfl, hmp⟩
    | succ q ih =>
      intro i τ hq hi hF hmp
      have hl := gl_len g i
      have hn8 : rI τ (u + 1) 8 = n := (hF.rw (by omega) (by show ¬ (u + 1 = 23); omega)).trans hSh.1
      have rows : ∀ a : Nat, a ≠ 23 → rI τ a = rI σ a := fun a ha => hF.row (fun i => ha)
      have hSht : Sh τ u n := hSh.congr (fun a p q => rows a (by omega)) (by rw [rows _ (by omega)]) (by rw [rows _ (by omega)])
      have hWt : WtS (rI τ) w S F F1 := hW.fr hF (fun a i z => by show ¬ (a = 23); rcases hw with rfl | rfl | rfl <;> omega)
      have hDt : Dc (rI τ) u = Dc (rI σ) u := Dc_congr (fun a p q => rows a (by omega))
      obtain ⟨r5, σ1, he1, hr1, e1, h1⟩ := s_gain (sc := sc) (d := d) (s := (i : Int)) (hF.g hG) hSht hw hWt hS hF9 hF1 ⟨by omega, by omega⟩
      subst e1
      have h1' : r5 = g i := by
        rw [hg, h1]; unfold FaC GainD
        rw [hDt, rows (u + 1) (by omega), rows u (by omega)]
        have e6 : rI σ1 (u + 8) = Dc (rI σ) u 6 := by rw [rows (u + 8) (by omega)]; rfl
        rw [e6]
      apply v_X3_gatherNets_5 (hF.g hG) hw (by omega) (by omega)
      refine ⟨fun z => by omega, fun _ => ⟨r5, σ1, he1, hF.g hG, hr1, fun c => ⟨by omega, ?_⟩, fun c => ⟨fun c2 => by omega, fun _ => ⟨by omega, fun σ8 e8 => ⟨by omega, by omega, ?_⟩⟩⟩⟩⟩
      · have e : gl g (i + 1) = gl g i := by
          show (if g i = 0 then _ else _) = _
          rw [if_pos (by omega)]
        have := ih (i + 1) σ1 (by omega) (by omega) hF (by rw [e]; exact hmp)
        rw [e] at this
        exact this
      · have e : gl g (i + 1) = gl g i ++ [g i] := by
          show (if g i = 0 then _ else _) = _
          rw [if_neg (by omega)]
        have el : (gl g (i + 1)).length = (gl g i).length + 1 := by rw [e, List.length_append]; rfl
        have hF8 : Fr (fun a _ => a = 23) σ σ8 := by rw [← e8]; exact hF.trans (Fr.w (by omega) rfl)
        have := ih (i + 1) σ8 (by omega) (by omega) hF8 (by
          rw [el, e]
          show mp (rI σ8 23) (gl g i).length ++ [rI σ8 23 ((gl g i).length : Int)] = _
          rw [mp_congr (f := rI σ8 23) (g := rI σ1 23) (fun j hj => by rw [← e8]; exact rI_wi (by omega)), hmp, ← e8, rI_ww hr1, h1'])
        rw [el] at this
        exact this
  exact loop _ 0 σ rfl (by omega) (Fr.refl _ _) rfl
abbrev AY : Nat → Int → Prop := fun a _ => a = 35 ∨ a = 36 ∨ a = 23 ∨ a = 24 ∨ a = 25
theorem s_fewest {b : Int} {Es Er : Nat → Option Int} {g : Int → Int} (hG : G σ u) (hSh : Sh σ u n) (h8 : n ≤ 8) (hM : MkT (rI σ) u Es Er) (hb : 0 ≤ b ∧ b ≤ 1440) (hg : g = GainD (Dc (rI σ) u) n (rI σ (u + 1) 9) (1 + rI σ u 9) (sT Es (rI σ u 5)) (Fn (aT Er 1) 0 b) (Fn (aT Er 1) (max 0 (rI σ u 6)) b)) : TI sc (d + 5) mX3_fewest [.ref 22, .ref 27, .int (nZ b)] σ (fun r σ1 => Fr AY σ σ1 ∧ r = PayV g n) := by
  have hm : u = 39 ∨ u = 60 := hG.2.2.2.2
  have h0 := hSh.2.1
  apply T.int
  apply t_X3_fewest hG (by omega)
  obtain ⟨σ1, he1, hF1, hW1⟩ := s_costsOf (sc := sc) (d := d + 1) (a := 0) (b := b) hG hM (by omega) hb
  have rows : ∀ a : Nat, a ≠ 35 → a ≠ 36 → rI σ1 a = rI σ a := fun a p q => hF1.row (fun i => by show ¬ (a = 34 + 1 ∨ a = 34 + 2); omega)
  have hSh1 : Sh σ1 u n := hSh.congr (fun a p q => rows a (by omega) (by omega)) (by rw [rows _ (by omega) (by omega)]) (by rw [rows _ (by omega) (by omega)])
  have hR9 := rate9 hM.2.2.2.1
  have hg1 : g = GainD (Dc (rI σ1) u) n (rI σ1 (u + 1) 9) (1 + rI σ1 u 9) (sT Es (rI σ u 5)) (Fn (aT Er 1) 0 b) (Fn (aT Er 1) (max 0 (rI σ u 6)) b) := by
    rw [hg, Dc_congr (m1 := rI σ1) (m := rI σ) (u := u) (fun a p q => rows a (by omega) (by omega)), rows (u + 1) (by omega) (by omega), rows u (by omega) (by omega)]
  obtain ⟨r9, σ5, he5, hr5, hF5, h5, hmp⟩ := s_gatherNets (sc := sc) (d := d) (w := 34) (hF1.g hG) hSh1 h8 (Or.inr (Or.inr rfl)) hW1 (sT_bd hM.2.2.1) (Fn9 hR9 _ _) (Fn9 hR9 _ _) hg1
  obtain ⟨L, hL⟩ : ∃ L : List Int, L = gl g n.toNat := ⟨_, rfl⟩
  rw [← hL] at h5 hmp
  have hLl : L.length ≤ n.toNat := by rw [hL]; exact gl_len _ _
  have hG5 : G σ5 u := hF5.g (hF1.g hG)
  refine ⟨σ1, he1, hF1.g hG, r9, σ5, he5, hG5, hr5, fun σ10 e10 σ13 e13 => ?_⟩
  have hFa : Fr AY σ σ1 := hF1.weak (fun a i z => by have z2 : a = 34 + 1 ∨ a = 34 + 2 := z
                                                     show a = 35 ∨ a = 36 ∨ a = 23 ∨ a = 24 ∨ a = 25; omega)
  have hFb : Fr AY σ1 σ5 := hF5.weak (fun a i z => by have z2 : a = 23 := z
                                                      show a = 35 ∨ a = 36 ∨ a = 23 ∨ a = 24 ∨ a = 25; omega)
  have hF13 : Fr AY σ σ13 := by
    rw [← e13, ← e10]
    exact ((hFa.trans hFb).trans (Fr.w (A := AY) (a := 24) (i := 0) (by omega) (by show 24 = 35 ∨ 24 = 36 ∨ 24 = 23 ∨ 24 = 24 ∨ 24 = 25; omega))).trans (Fr.w (A := AY) (a := 25) (i := 0) (by omega) (by show 25 = 35 ∨ 25 = 36 ∨ 25 = 23 ∨ 25 = 24 ∨ 25 = 25; omega))
  obtain ⟨f, hf⟩ : ∃ f : Int → Int, f = fun i => if 0 ≤ i ∧ i < r9 then rI σ5 23 i else 0 := ⟨_, rfl⟩
  have hmf : mp f r9.toNat = L := by
    rw [← hmp]
    exact mp_congr (fun i hi => by rw [hf]; exact if_pos ⟨by omega, by omega⟩)
  have hgb : ∀ i : Int, -300000 ≤ g i ∧ g i ≤ 300000 := fun i => by
    have := GainD_bd (D := Dc (rI σ) u) (n := n) (gone := rI σ (u + 1) 9) (w := 1 + rI σ u 9) (S := sT Es (rI σ u 5)) (F := Fn (aT Er 1) 0 b) (F1 := Fn (aT Er 1) (max 0 (rI σ u 6)) b) hSh.2.2.1.1 (Fn9 hR9 _ _) (Fn9 hR9 _ _) i
    rw [← hg] at this
    omega
  have glb : ∀ (k : Nat) (x : Int), x ∈ gl g k → -300000 ≤ x ∧ x ≤ 300000 := by
    intro k
    induction k with
    | zero => intro x hx; exact absurd hx (by show ¬ (x ∈ []); simp)
    | succ k ih =>
      intro x hx
      have hx' : x ∈ (if g k = 0 then gl g k else gl g k ++ [g k]) := hx
      split at hx'
      · exact ih x hx'
      · rw [List.mem_append] at hx'
        rcases hx' with hx' | hx'
        · exact ih x hx'
        · rw [List.mem_singleton] at hx'; rw [hx']; exact hgb _
  have mpm : ∀ (k i : Nat), i < k → f i ∈ mp f k := by
    intro k
    induction k with
    | zero => intro i hi; omega
    | succ k ih =>
      intro i hi
      show f i ∈ mp f k ++ [f k]
      rw [List.mem_append]
      by_cases c : i = k
      · right; rw [c]; simp
      · left; exact ih i (by omega)
  have hfb : ∀ i : Int, -300000 ≤ f i ∧ f i ≤ 300000 := by
    intro i
    by_cases c : 0 ≤ i ∧ i < r9
    · have := mpm r9.toNat i.toNat (by omega)
      rw [hmf, hL, show ((i.toNat : Nat) : Int) = i by omega] at this
      exact glb _ _ this
    · have e : f i = 0 := by rw [hf]; exact if_neg c
      rw [e]; decide
  obtain ⟨P, hP⟩ : ∃ P : aO → aH → Prop, P = QI (fun r σ1 => Fr AY σ σ1 ∧ r = PayV g n) := ⟨_, rfl⟩
  rw [← hP]
  have hsh : zShl 1 r9 = 2 ^ r9.toNat := zShl_1 (by omega) (by omega)
  have pb : ∀ k : Nat, k ≤ 8 → (1 : Int) ≤ 2 ^ k ∧ (2 : Int) ^ k ≤ 256 := by decide +kernel
  have hpb := pb r9.toNat (by omega)
  have loop : ∀ (q : Nat) (k : Int) (τ : aH), (2 ^ r9.toNat - k).toNat = q → 1 ≤ k → k ≤ 2 ^ r9.toNat → Fr AY σ τ → (∀ i : Int, 0 ≤ i → i < r9 → rI τ 23 i = f i) → (∀ c : Int, 0 ≤ c → c < k → rI τ 24 c = (lst f c r9.toNat).sum ∧ rI τ 25 c = PF (lst f c r9.toNat)) → L_X3_fewest_29 (Ev sc (d + 4)) sc P b r9 k τ := by
    intro q
    induction q with
    | zero =>
      intro k τ hq k1 k2 hF hN hI
      apply v_X3_fewest_29 (hF.g hG) (by omega) (by omega) (by omega)
      rw [hsh]
      have hl := hI (2 ^ r9.toNat - 1) (by omega) (by omega)
      rw [lst_full (fun i hi => b8_full r9.toNat (by omega) i hi), hmf] at hl
      have pfb := PF_bd _ L rfl
      refine ⟨fun _ => ⟨by omega, by omega, by rw [hl.2]; omega, ?_⟩, fun z => by omega⟩
      rw [hP, hl.2]
      exact ⟨_, rfl, by omega, hF, by unfold PayV; rw [← hL, h5]⟩
    | succ q ih =>
      intro k τ hq k1 k2 hF hN hI
      apply v_X3_fewest_29 (hF.g hG) (by omega) (by omega) (by omega)
      rw [hsh]
      refine ⟨fun z => by omega, fun _ => ?_⟩
      obtain ⟨σ3, he3, hF3, hI3⟩ := s_splitSet (sc := sc) (d := d + 3) (b := k) (m := r9) (f := f) (hF.g hG) (by omega) ⟨k1, by omega⟩ (by omega) hfb hN hI
      have hF3' : Fr AY σ σ3 := hF.trans (hF3.weak (fun a i z => by rcases z with z | z; exact Or.inr (Or.inr (Or.inr (Or.inl z))); exact Or.inr (Or.inr (Or.inr (Or.inr z)))))
      exact ⟨σ3, he3, hF3'.g hG, by omega, ih (k + 1) σ3 (by omega) (by omega) (by omega) hF3' (fun i a c => (hF3.rw a (by show ¬ (23 = 24 ∨ 23 = 25); omega)).trans (hN i a c)) hI3⟩
  refine loop _ 1 σ13 rfl (by omega) (by omega) hF13 (fun i a c => ?_) (fun c q0 q1 => ?_)
  · rw [← e13, rI_wa (by decide), ← e10, rI_wa (by decide), hf]
    exact (if_pos ⟨a, c⟩).symm
  · have e : c = 0 := by omega
    have bz : ∀ i : Nat, bt 0 i = 0 := fun i => by unfold bt; rw [Int.zero_ediv]; rfl
    have lz : ∀ k : Nat, lst f 0 k = [] := by
      intro k
      induction k with
      | zero => rfl
      | succ k ih => show (if bt 0 k = 1 then _ else _) = _; rw [bz, if_neg (by decide), ih]
    rw [e, lz]
    exact ⟨by rw [← e13, rI_wa (by decide), ← e10]; exact rI_ww (by decide), by rw [← e13]; exact rI_ww (by decide)⟩
end
