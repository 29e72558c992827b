/-! TIME: values that hold from a minute on; sums over minutes. -/
def att (E : Nat → Option Int) (a : Int) : Nat → Int
  | 0 => (E 0).getD a
  | t + 1 => (E (t + 1)).getD (att E a t)
theorem att_some {E : Nat → Option Int} {a v : Int} : ∀ {t : Nat}, E t = some v → att E a t = v
  | 0, h => by show (E 0).getD a = v; rw [h]; rfl
  | t + 1, h => by show (E (t + 1)).getD (att E a t) = v; rw [h]; rfl
theorem att_none {E : Nat → Option Int} {a : Int} : ∀ {t : Nat}, (∀ s : Nat, s ≤ t → E s = none) → att E a t = a
  | 0, h => by show (E 0).getD a = a; rw [h 0 (Nat.le_refl 0)]; rfl
  | t + 1, h => by show (E (t + 1)).getD (att E a t) = a; rw [h (t + 1) (Nat.le_refl _)]; exact att_none (fun s hs => h s (by omega))
theorem att_keep {E : Nat → Option Int} {a : Int} {p : Nat} : ∀ {t : Nat}, p ≤ t → (∀ s : Nat, p < s → s ≤ t → E s = none) → att E a t = att E a p
  | 0, h, _ => by rw [show p = 0 by omega]
  | t + 1, h, k => by
    by_cases e : p = t + 1
    · rw [e]
    · show (E (t + 1)).getD (att E a t) = att E a p
      rw [k (t + 1) (by omega) (by omega)]
      exact att_keep (by omega) (fun s h1 h2 => k s h1 (by omega))
theorem att_bd {E : Nat → Option Int} {a lo hi : Int} (ha : lo ≤ a ∧ a ≤ hi) (h : ∀ t v, E t = some v → lo ≤ v ∧ v ≤ hi) : ∀ t : Nat, lo ≤ att E a t ∧ att E a t ≤ hi
  | 0 => by
    show lo ≤ (E 0).getD a ∧ (E 0).getD a ≤ hi
    cases e : E 0 with
    | none => exact ha
    | some v => exact h 0 v e
  | t + 1 => by
    show lo ≤ (E (t + 1)).getD (att E a t) ∧ (E (t + 1)).getD (att E a t) ≤ hi
    cases e : E (t + 1) with
    | none => exact att_bd ha h t
    | some v => exact h (t + 1) v e
def aT (E : Nat → Option Int) (a t : Int) : Int := att E a t.toNat
/-- the class's rows at a tell E, in order -/
def RepC (m : Nat → Int → Int) (a : Nat) (E : Nat → Option Int) : Prop := 0 ≤ m a 2 ∧ m a 2 ≤ 20 ∧ (∀ i : Int, 0 ≤ i → i < m a 2 → 0 ≤ m (a + 1) i ∧ m (a + 1) i < 1440 ∧ E (m (a + 1) i).toNat = some (m (a + 2) i)) ∧ (∀ i j : Int, 0 ≤ i → i < j → j < m a 2 → m (a + 1) i < m (a + 1) j) ∧ (∀ (t : Nat) (v : Int), E t = some v → ∃ i : Int, 0 ≤ i ∧ i < m a 2 ∧ m (a + 1) i = t)
theorem RepC.congr {m m1 : Nat → Int → Int} {a : Nat} {E : Nat → Option Int} (h : RepC m a E) (h0 : m1 a 2 = m a 2) (h1 : ∀ i : Int, 0 ≤ i → m1 (a + 1) i = m (a + 1) i) (h2 : ∀ i : Int, 0 ≤ i → m1 (a + 2) i = m (a + 2) i) : RepC m1 a E := by
  obtain ⟨a1, a2, a3, a4, a5⟩ := h
  refine ⟨by omega, by omega, fun i i0 i1 => ?_, fun i j i0 i1 i2 => ?_, fun t v ht => ?_⟩
  · rw [h1 i i0, h2 i i0]; exact a3 i i0 (by omega)
  · rw [h1 i i0, h1 j (by omega)]; exact a4 i j i0 i1 (by omega)
  · obtain ⟨i, i0, i1, i2⟩ := a5 t v ht
    exact ⟨i, i0, by omega, by rw [h1 i i0]; exact i2⟩
theorem RepC.first {m : Nat → Int → Int} {a : Nat} {E : Nat → Option Int} (h : RepC m a E) (hd : Int) {t : Int} (h0 : 0 ≤ t) (ht : 0 < m a 2 → t < m (a + 1) 0) : aT E hd t = hd := by
  obtain ⟨a1, a2, a3, a4, a5⟩ := h
  refine att_none (fun s hs => ?_)
  cases e : E s with
  | none => rfl
  | some v =>
    obtain ⟨i, i0, i1, i2⟩ := a5 s v e
    have q := ht (by omega)
    by_cases ei : i = 0
    · subst ei; omega
    · have := a4 0 i (by omega) (by omega) i1; omega
theorem RepC.in {m : Nat → Int → Int} {a : Nat} {E : Nat → Option Int} (h : RepC m a E) (hd : Int) {i t : Int} (i0 : 0 ≤ i) (i1 : i < m a 2) (ht : m (a + 1) i ≤ t) (hn : i + 1 < m a 2 → t < m (a + 1) (i + 1)) : aT E hd t = m (a + 2) i := by
  obtain ⟨a1, a2, a3, a4, a5⟩ := h
  obtain ⟨b1, b2, b3⟩ := a3 i i0 i1
  have e1 : aT E hd t = att E hd (m (a + 1) i).toNat := by
    refine att_keep (by omega) (fun s h1 h2 => ?_)
    cases e : E s with
    | none => rfl
    | some v =>
      obtain ⟨k, k0, k1, k2⟩ := a5 s v e
      by_cases q1 : k ≤ i
      · by_cases q2 : k = i
        · subst q2; omega
        · have := a4 k i k0 (by omega) i1; omega
      · have q3 := hn (by omega)
        by_cases q2 : k = i + 1
        · subst q2; omega
        · have := a4 (i + 1) k (by omega) (by omega) k1; omega
  rw [e1]; exact att_some b3
section
variable {sc : Nat × (Nat → Int32)} {d : Nat} {σ : aH} {u : Nat}
theorem s_endOf {a : Nat} {i : Int} (hG : G σ u) (ha : IsCh a) (hk : rI σ a 2 ≤ 20) (hi : 0 ≤ i ∧ i < rI σ a 2) : TI sc (d + 1) mX0_endOf [.ref a, .int (nZ i)] σ (fun r σ1 => σ1 = σ ∧ (i + 1 < rI σ a 2 → r = rI σ (a + 1) (i + 1)) ∧ (rI σ a 2 ≤ i + 1 → r = 1440)) := by
  apply T.int
  apply t_X0_endOf hG ha (by omega)
  refine ⟨by omega, fun g => ⟨1440, rfl, by decide, rfl, by omega, by omega⟩, fun g => ⟨by omega, by omega, _, rfl, rI_R _ _ _, rfl, by omega, by omega⟩⟩
theorem s_valueAt {a : Nat} {E : Nat → Option Int} {t hd : Int} (hG : G σ u) (ha : IsCh a) (hR : RepC (rI σ) a E) (h0 : 0 ≤ t ∧ t ≤ 2000) (hh : inR hd) : TI sc (d + 1) mX0_valueAt [.ref a, .int (nZ t), .int (nZ hd)] σ (fun r σ1 => σ1 = σ ∧ r = aT E hd t) := by
  apply T.int
  apply t_X0_valueAt hG ha (by omega) hh
  have a1 := hR.1
  have a2 := hR.2.1
  have loop : ∀ (f : Nat) (i now : Int), (rI σ a 2 - i).toNat = f → 0 ≤ i → i ≤ rI σ a 2 → inR now → (i = 0 → now = hd) → (0 < i → rI σ (a + 1) (i - 1) ≤ t ∧ now = rI σ (a + 2) (i - 1)) → L_X0_valueAt_5 (Ev sc d) sc (QI (fun r σ1 => σ1 = σ ∧ r = aT E hd t)) a t hd now i σ := by
    intro f
    induction f with
    | zero =>
      intro i now hf i0 i1 hr h1 h2
      apply v_X0_valueAt_5 hG ha (by omega) hh hr (by omega)
      refine ⟨fun g => ⟨_, rfl, hr, rfl, ?_⟩, fun g => by omega⟩
      by_cases e : i = 0
      · rw [h1 e]; exact (hR.first hd h0.1 (by omega)).symm
      · have q := h2 (by omega)
        rw [q.2]; exact (hR.in hd (by omega) (by omega) q.1 (by omega)).symm
    | succ f ih =>
      intro i now hf i0 i1 hr h1 h2
      apply v_X0_valueAt_5 hG ha (by omega) hh hr (by omega)
      refine ⟨fun g => by omega, fun g => ⟨by omega, fun g1 => ⟨_, rfl, hr, rfl, ?_⟩, fun g1 => ⟨by omega, fun z ez => ⟨by omega, ?_⟩⟩⟩⟩
      · by_cases e : i = 0
        · subst e
          rw [h1 rfl]; exact (hR.first hd h0.1 (by omega)).symm
        · have q := h2 (by omega)
          rw [q.2]; exact (hR.in hd (by omega) (by omega) q.1 (fun _ => by rw [show i - 1 + 1 = i by omega]; exact g1)).symm
      · subst ez
        refine ih (i + 1) _ (by omega) (by omega) (by omega) (rI_R _ _ _) (by omega) (fun _ => ?_)
        rw [show i + 1 - 1 = i by omega]
        exact ⟨by omega, rfl⟩
  exact loop _ 0 hd rfl (by omega) a1 hh (fun _ => rfl) (by omega)
/-- the sun's slot at a minute; -1 where none throws shadows -/
def sT (E : Nat → Option Int) (fold t : Int) : Int := if t < fold then aT E (-1) t else -1
theorem s_sunAt {v : Nat} {E : Nat → Option Int} {t : Int} (hG : G σ u) (hv : IsMk v) (hc : IsCh (v + 10)) (hR : RepC (rI σ) (v + 10) E) (h0 : 0 ≤ t ∧ t ≤ 2000) : TI sc (d + 2) mX2_sunAt [.ref v, .int (nZ t)] σ (fun r σ1 => σ1 = σ ∧ r = sT E (rI σ v 5) t) := by
  apply T.int
  apply t_X2_sunAt hG hv (by omega)
  refine ⟨fun g => ?_, fun g => ⟨-1, rfl, by decide, rfl, by unfold sT; rw [if_neg g]⟩⟩
  obtain ⟨r, σ1, he, hr, rfl, h⟩ := s_valueAt (sc := sc) (d := d) (hd := -1) hG hc hR h0 (by decide)
  exact ⟨r, σ1, he, hG, hr, r, rfl, hr, rfl, by unfold sT; rw [if_pos g]; exact h⟩
end
theorem sm_const {f : Int → Int} {a b c : Int} (h0 : 0 ≤ a) (h1 : a ≤ b) (h : ∀ t : Int, a ≤ t → t < b → f t = c) : sm f b.toNat = sm f a.toNat + (b - a) * c := by
  obtain ⟨k, hk⟩ : ∃ k : Nat, b = a + k := ⟨(b - a).toNat, by omega⟩
  subst hk
  induction k with
  | zero => rw [show a + ((0 : Nat) : Int) = a by omega, Int.sub_self, Int.zero_mul]; omega
  | succ k ih =>
    have e := ih (by omega) (fun t h1 h2 => h t h1 (by omega))
    have e2 : (a + ((k + 1 : Nat) : Int)) = (a + (k : Int)) + 1 := by omega
    rw [e2, sm_toNat _ (by omega), e, h (a + k) (by omega) (by omega)]
    rw [show a + (k : Int) + 1 - a = (a + (k : Int) - a) + 1 by omega, Int.add_mul, Int.one_mul]
    omega
/-- within a to b -/
noncomputable def Fn (R : Int → Int) (a b : Int) : Int → Int := fun t => cif (a ≤ t ∧ t < b) (R t) 0
theorem sm_Fn {R : Int → Int} {a b : Int} (h0 : 0 ≤ a) (h1 : a ≤ b) (h2 : b ≤ 1440) : sm (Fn R a b) 1440 = sm R b.toNat - sm R a.toNat := by
  have key : ∀ k : Nat, sm (Fn R a b) k = sm R (min (k : Int) b).toNat - sm R (min (k : Int) a).toNat := by
    intro k
    induction k with
    | zero => rw [show min ((0 : Nat) : Int) b = 0 by omega, show min ((0 : Nat) : Int) a = 0 by omega]; show sm (Fn R a b) 0 = sm R 0 - sm R 0; rw [sm_0]; omega
    | succ k ih =>
      rw [sm_succ, ih]
      unfold Fn
      by_cases c1 : a ≤ (k : Int)
      · by_cases c2 : (k : Int) < b
        · rw [cif_pos ⟨c1, c2⟩, show min ((k : Nat) : Int) b = k by omega, show min ((k : Nat) : Int) a = a by omega, show min ((k + 1 : Nat) : Int) b = (k : Int) + 1 by omega, show min ((k + 1 : Nat) : Int) a = a by omega, sm_toNat _ (by omega)]
          omega
        · rw [cif_neg (fun q => c2 q.2), show min ((k : Nat) : Int) b = b by omega, show min ((k : Nat) : Int) a = a by omega, show min ((k + 1 : Nat) : Int) b = b by omega, show min ((k + 1 : Nat) : Int) a = a by omega]
          omega
      · rw [cif_neg (fun q => c1 q.1), show min ((k : Nat) : Int) b = k by omega, show min ((k : Nat) : Int) a = k by omega, show min ((k + 1 : Nat) : Int) b = (k : Int) + 1 by omega, show min ((k + 1 : Nat) : Int) a = (k : Int) + 1 by omega]
        omega
  rw [key 1440, show min ((1440 : Nat) : Int) b = b by omega, show min ((1440 : Nat) : Int) a = a by omega]
section
variable {sc : Nat × (Nat → Int32)} {d : Nat} {σ : aH} {u : Nat}
theorem rate_bd {E : Nat → Option Int} (hE : ∀ t v, E t = some v → 0 ≤ v ∧ v ≤ 9) (k : Nat) : 0 ≤ sm (aT E 1) k ∧ sm (aT E 1) k ≤ 9 * k := by
  have := sm_bd (f := aT E 1) (n := k) (lo := 0) (hi := 9) (fun t _ _ => att_bd (by decide) hE t.toNat)
  omega
theorem s_costBefore {v : Nat} {E : Nat → Option Int} {t : Int} (hG : G σ u) (hv : IsMk v) (hR : RepC (rI σ) (v + 13) E) (hE : ∀ t v, E t = some v → 0 ≤ v ∧ v ≤ 9) (h0 : 0 ≤ t ∧ t ≤ 1440) : TI sc (d + 1) mX2_costBefore [.ref v, .int (nZ t)] σ (fun r σ1 => σ1 = σ ∧ r = sm (aT E 1) t.toNat) := by
  apply T.int
  apply t_X2_costBefore hG hv (by omega)
  have a1 := hR.1
  have a2 := hR.2.1
  have loop : ∀ (f : Nat) (sum fr ra i : Int), (rI σ (v + 13) 2 - i).toNat = f → 0 ≤ i → i ≤ rI σ (v + 13) 2 → 0 ≤ fr → fr ≤ t → (0 ≤ ra ∧ ra ≤ 9) → sum = sm (aT E 1) fr.toNat → (i = 0 → fr = 0 ∧ ra = 1) → (0 < i → fr = min (rI σ (v + 14) (i - 1)) t ∧ ra = rI σ (v + 15) (i - 1)) → L_X2_costBefore_10 (Ev sc d) sc (QI (fun r σ1 => σ1 = σ ∧ r = sm (aT E 1) t.toNat)) v t sum fr ra i σ := by
    intro f
    induction f with
    | zero =>
      intro sum fr ra i hf i0 i1 f0 f1 hra hs h1 h2
      have hb := rate_bd hE fr.toNat
      have hm := mul_bd (show 0 ≤ t - fr by omega) (show t - fr ≤ 1440 by omega) hra.1 hra.2
      have hc : sm (aT E 1) t.toNat = sm (aT E 1) fr.toNat + (t - fr) * ra := by
        refine sm_const f0 f1 (fun s s1 s2 => ?_)
        by_cases e : i = 0
        · obtain ⟨q1, q2⟩ := h1 e
          rw [q2]; exact hR.first 1 (by omega) (by omega)
        · obtain ⟨q1, q2⟩ := h2 (by omega)
          rw [q2]; exact hR.in 1 (by omega) (by omega) (show rI σ (v + 14) (i - 1) ≤ s by omega) (by omega)
      apply v_X2_costBefore_10 hG hv (by omega) (by omega) (by omega) (by omega) (by omega)
      refine ⟨fun g => ⟨by omega, by omega, by omega, _, rfl, by omega, rfl, by omega⟩, fun g => by omega⟩
    | succ f ih =>
      intro sum fr ra i hf i0 i1 f0 f1 hra hs h1 h2
      have hb := rate_bd hE fr.toNat
      have b1 := hR.2.2.1 i i0 (by omega)
      have b2 : 0 ≤ rI σ (v + 14) i ∧ rI σ (v + 14) i < 1440 := ⟨b1.1, b1.2.1⟩
      have b3 : 0 ≤ rI σ (v + 15) i ∧ rI σ (v + 15) i ≤ 9 := hE _ _ b1.2.2
      have b4 : 0 < i → rI σ (v + 14) (i - 1) < rI σ (v + 14) i := fun q => hR.2.2.2.1 (i - 1) i (by omega) (by omega) (by omega)
      apply v_X2_costBefore_10 hG hv (by omega) (by omega) (by omega) (by omega) (by omega)
      refine ⟨fun g => by omega, fun g => ⟨by omega, fun z4 e4 => ?_⟩⟩
      have hz : fr ≤ z4 := by
        by_cases e : i = 0
        · have := h1 e; omega
        · have := h2 (by omega); have := b4 (by omega); omega
      have hm := mul_bd (show 0 ≤ z4 - fr by omega) (show z4 - fr ≤ 1440 by omega) hra.1 hra.2
      have hc : sm (aT E 1) z4.toNat = sm (aT E 1) fr.toNat + (z4 - fr) * ra := by
        refine sm_const f0 hz (fun s s1 s2 => ?_)
        by_cases e : i = 0
        · obtain ⟨q1, q2⟩ := h1 e
          subst e
          rw [q2]; exact hR.first 1 (by omega) (fun _ => show s < rI σ (v + 14) 0 by omega)
        · obtain ⟨q1, q2⟩ := h2 (by omega)
          rw [q2]; exact hR.in 1 (by omega) (by omega) (show rI σ (v + 14) (i - 1) ≤ s by omega) (fun _ => by rw [show i - 1 + 1 = i by omega]; show s < rI σ (v + 14) i; omega)
      refine ⟨by omega, by omega, by omega, fun z10 e10 => ⟨by omega, fun z13 e13 => ⟨by omega, ?_⟩⟩⟩
      refine ih _ _ _ (i + 1) (by omega) (by omega) (by omega) (by omega) (by omega) (by omega) (by omega) (by omega) (fun _ => ?_)
      rw [show i + 1 - 1 = i by omega]
      exact ⟨e4, e13⟩
  exact loop _ 0 0 1 0 rfl (by omega) a1 (by omega) (by omega) (by omega) (sm_0 _).symm (fun _ => ⟨rfl, rfl⟩) (by omega)
end
