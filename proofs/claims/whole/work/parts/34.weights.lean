/-! WEIGHTS: sums by slots. -/
abbrev AW (w : Nat) : Nat → Int → Prop := fun a _ => a = w + 1 ∨ a = w + 2
section
variable {sc : Nat × (Nat → Int32)} {d : Nat} {σ : aH} {u : Nat} {w : Nat}
theorem s_clear (hG : G σ u) (hw : IsWt w) : TV sc (d + 1) mX8_clear [.ref w] σ (fun σ1 => Fr (AW w) σ σ1 ∧ ∀ s : Int, 0 ≤ s → s < 90 → rI σ1 (w + 1) s = 0 ∧ rI σ1 (w + 2) s = 0) := by
  apply T.void
  apply t_X8_clear hG hw
  have loop : ∀ (f : Nat) (i : Int) (τ : aH), (90 - i).toNat = f → 0 ≤ i → i ≤ 90 → Fr (AW w) σ τ → (∀ s : Int, 0 ≤ s → s < i → rI τ (w + 1) s = 0 ∧ rI τ (w + 2) s = 0) → L_X8_clear_2 (Ev sc d) sc (QV (fun σ1 => Fr (AW w) σ σ1 ∧ ∀ s : Int, 0 ≤ s → s < 90 → rI σ1 (w + 1) s = 0 ∧ rI σ1 (w + 2) s = 0)) w i τ := by
    intro f
    induction f with
    | zero =>
      intro i τ hf i0 i1 hF hz
      apply v_X8_clear_2 (hF.g hG) hw (by omega)
      exact ⟨fun g => ⟨rfl, hF, fun s s0 s1 => hz s s0 (by omega)⟩, fun g => by omega⟩
    | succ f ih =>
      intro i τ hf i0 i1 hF hz
      apply v_X8_clear_2 (hF.g hG) hw (by omega)
      refine ⟨fun g => by omega, fun g => ⟨by omega, fun τ1 e1 => ⟨by omega, fun τ2 e2 => ⟨by omega, ?_⟩⟩⟩⟩
      subst e1 e2
      refine ih (i + 1) _ (by omega) (by omega) (by omega) ((hF.trans (Fr.w i0 (Or.inl rfl))).trans (Fr.w i0 (Or.inr rfl))) (fun s s0 s1 => ?_)
      by_cases e : s = i
      · subst e
        rw [rI_wa (by omega), rI_ww (by decide), rI_ww (by decide)]; exact ⟨rfl, rfl⟩
      · rw [rI_wi (by omega), rI_wi (by omega), rI_wi (by omega), rI_wi (by omega)]
        exact hz s s0 (by omega)
  exact loop _ 0 σ rfl (by omega) (by omega) (Fr.refl _ _) (fun s s0 s1 => by omega)
theorem s_wadd {x y z : Int} (hG : G σ u) (hw : IsWt w) (hx : 0 ≤ x ∧ x < 90) (ry : inR y) (rz : inR z) (h1 : inR (rI σ (w + 1) x + y)) (h2 : inR (rI σ (w + 2) x + z)) : TV sc (d + 1) mX8_add [.ref w, .int (nZ x), .int (nZ y), .int (nZ z)] σ (fun σ1 => Fr (AW w) σ σ1 ∧ ∀ s : Int, 0 ≤ s → s < 90 → rI σ1 (w + 1) s = rI σ (w + 1) s + (if s = x then y else 0) ∧ rI σ1 (w + 2) s = rI σ (w + 2) s + (if s = x then z else 0)) := by
  apply T.void
  apply t_X8_add hG hw (by omega) ry rz
  refine ⟨fun g => by omega, fun g => ⟨fun g => by omega, fun g => ⟨hx, h1, hx, fun τ1 e1 => ⟨hx, ?_, hx, fun τ2 e2 => ⟨rfl, ?_, fun s s0 s1 => ?_⟩⟩⟩⟩⟩
  · subst e1; rw [rI_wa (by omega)]; exact h2
  · subst e1 e2; exact (Fr.w hx.1 (Or.inl rfl)).trans (Fr.w hx.1 (Or.inr rfl))
  · subst e1 e2
    have e : rI (wI σ (w + 1) x (rI σ (w + 1) x + y)) (w + 2) x = rI σ (w + 2) x := rI_wa (by omega)
    rw [e]
    by_cases c : s = x
    · subst c
      rw [rI_wa (by omega), rI_ww h1, rI_ww h2, if_pos rfl, if_pos rfl]; exact ⟨rfl, rfl⟩
    · rw [rI_wi (by omega), rI_wi (by omega), rI_wi (by omega), rI_wi (by omega), if_neg c, if_neg c]; omega
theorem s_heap {A B A1 B1 : Int → Int} (hG : G σ u) (hw : IsWt w) (h0 : ∀ s : Int, 0 ≤ s → s < 90 → rI σ (w + 1) s = A s ∧ rI σ (w + 2) s = B s) (hb : ∀ s : Int, inR (A1 s) ∧ inR (B1 s)) (h9 : ∀ s : Int, s % 10 = 9 → A1 s = A s ∧ B1 s = B s) (hs : ∀ s : Int, ¬ s % 10 = 9 → A1 s = A s + A1 (s + 1) ∧ B1 s = B s + B1 (s + 1)) : TV sc (d + 1) mX8_heap [.ref w] σ (fun σ1 => Fr (AW w) σ σ1 ∧ ∀ s : Int, 0 ≤ s → s < 90 → rI σ1 (w + 1) s = A1 s ∧ rI σ1 (w + 2) s = B1 s) := by
  apply T.void
  apply t_X8_heap hG hw
  have loop : ∀ (f : Nat) (i : Int) (τ : aH), (i + 1).toNat = f → -1 ≤ i → i ≤ 88 → Fr (AW w) σ τ → (∀ s : Int, 0 ≤ s → s ≤ i → rI τ (w + 1) s = A s ∧ rI τ (w + 2) s = B s) → (∀ s : Int, i < s → 0 ≤ s → s < 90 → rI τ (w + 1) s = A1 s ∧ rI τ (w + 2) s = B1 s) → L_X8_heap_3 (Ev sc d) sc (QV (fun σ1 => Fr (AW w) σ σ1 ∧ ∀ s : Int, 0 ≤ s → s < 90 → rI σ1 (w + 1) s = A1 s ∧ rI σ1 (w + 2) s = B1 s)) w i τ := by
    intro f
    induction f with
    | zero =>
      intro i τ hf i0 i1 hF hz hy
      apply v_X8_heap_3 (hF.g hG) hw (by omega)
      exact ⟨fun g => ⟨rfl, hF, fun s s0 s1 => hy s (by omega) s0 s1⟩, fun g => by omega⟩
    | succ f ih =>
      intro i τ hf i0 i1 hF hz hy
      apply v_X8_heap_3 (hF.g hG) hw (by omega)
      have q0 := hz i (by omega) (by omega)
      have q1 := hy (i + 1) (by omega) (by omega) (by omega)
      refine ⟨fun g => by omega, fun g => ⟨by omega, by omega, fun g1 => ⟨by omega, ?_⟩, fun g1 => ?_⟩⟩
      · refine ih (i + -1) τ (by omega) (by omega) (by omega) hF (fun s s0 s1 => hz s s0 (by omega)) (fun s s0 s1 s2 => ?_)
        by_cases e : s = i
        · subst e
          have := h9 s g1; omega
        · exact hy s (by omega) s1 s2
      · have q2 := hs i g1
        have q3 := hb i
        refine ⟨by omega, by omega, by omega, by omega, by omega, fun τ1 e1 => ⟨by omega, by omega, by omega, ?_, by omega, fun τ2 e2 => ⟨by omega, ?_⟩⟩⟩
        · subst e1; rw [rI_wa (by omega), rI_wa (by omega)]; omega
        · subst e1 e2
          rw [show rI τ (w + 1) i + rI τ (w + 1) (i + 1) = A1 i by omega]
          have e3 : rI (wI τ (w + 1) i (A1 i)) (w + 2) i + rI (wI τ (w + 1) i (A1 i)) (w + 2) (i + 1) = B1 i := by
            rw [rI_wa (by omega), rI_wa (by omega)]; omega
          rw [e3]
          refine ih (i + -1) _ (by omega) (by omega) (by omega) ((hF.trans (Fr.w (by omega) (Or.inl rfl))).trans (Fr.w (by omega) (Or.inr rfl))) (fun s s0 s1 => ?_) (fun s s0 s1 s2 => ?_)
          · rw [rI_wi (by omega), rI_wi (by omega), rI_wi (by omega), rI_wi (by omega)]
            exact hz s s0 (by omega)
          · by_cases e : s = i
            · subst e
              rw [rI_wa (by omega), rI_ww q3.1, rI_ww q3.2]; exact ⟨rfl, rfl⟩
            · rw [rI_wi (by omega), rI_wi (by omega), rI_wi (by omega), rI_wi (by omega)]
              exact hy s (by omega) s1 s2
  refine loop _ 88 σ rfl (by omega) (by omega) (Fr.refl _ _) (fun s s0 s1 => h0 s s0 (by omega)) (fun s s0 s1 s2 => ?_)
  have e : s = 89 := by omega
  subst e
  have := h0 89 (by omega) (by omega)
  have := h9 89 (by omega)
  omega
end
noncomputable def W0 (S F : Int → Int) (s : Int) : Int := sm (fun t => cif (S t = s) (F t) 0) 1440
noncomputable def W1 (S F : Int → Int) (s : Int) : Int := sm (fun t => cif (S t / 10 = s / 10 ∧ s ≤ S t) (F t) 0) 1440
theorem W1_9 {S F : Int → Int} {s : Int} (h : s % 10 = 9) : W1 S F s = W0 S F s := by
  unfold W1 W0
  refine sm_congr (fun t _ _ => cif_congr ⟨fun q => by omega, fun q => by omega⟩)
theorem W1_s {S F : Int → Int} {s : Int} (h : ¬ s % 10 = 9) : W1 S F s = W0 S F s + W1 S F (s + 1) := by
  unfold W1 W0
  rw [← sm_add]
  refine sm_congr (fun t _ _ => ?_)
  by_cases c1 : S t = s
  · rw [cif_pos (by omega), cif_pos c1, cif_neg (by omega)]; omega
  · rw [cif_neg c1]
    by_cases c2 : S t / 10 = s / 10 ∧ s ≤ S t
    · rw [cif_pos c2, cif_pos (by omega)]; omega
    · rw [cif_neg c2, cif_neg (by omega)]; omega
theorem W1_bd {S F : Int → Int} {s M : Int} (hM : 0 ≤ M) (h : ∀ t, 0 ≤ F t ∧ F t ≤ M) : 0 ≤ W1 S F s ∧ W1 S F s ≤ M * 1440 := by
  have := sm_bd (n := 1440) (lo := 0) (hi := M) (f := fun t => cif (S t / 10 = s / 10 ∧ s ≤ S t) (F t) 0) (fun t _ _ => cif_bd (h t) (by omega))
  unfold W1; omega
theorem W0_bd {S F : Int → Int} {s M : Int} (hM : 0 ≤ M) (h : ∀ t, 0 ≤ F t ∧ F t ≤ M) : 0 ≤ W0 S F s ∧ W0 S F s ≤ M * 1440 := by
  have := sm_bd (n := 1440) (lo := 0) (hi := M) (f := fun t => cif (S t = s) (F t) 0) (fun t _ _ => cif_bd (h t) (by omega))
  unfold W0; omega
theorem Fn_bd {R : Int → Int} {a b M : Int} (hM : 0 ≤ M) (h : ∀ t, 0 ≤ R t ∧ R t ≤ M) (t : Int) : 0 ≤ Fn R a b t ∧ Fn R a b t ≤ M := cif_bd (h t) (by omega)
theorem sm_Fn0 {R : Int → Int} {a b : Int} (h : b ≤ a) : sm (Fn R a b) 1440 = 0 := by
  rw [← sm_zero 1440]
  exact sm_congr (fun t _ _ => cif_neg (by omega))
/-- what lies in a slot when the suns ahead of minute e are counted -/
noncomputable def Wp (S F : Int → Int) (e s : Int) : Int := sm (fun t => cif (t < e ∧ S t = s) (F t) 0) 1440
theorem Wp_full (S F : Int → Int) (s : Int) : Wp S F 1440 s = W0 S F s := by
  unfold Wp W0
  exact sm_congr (fun t _ h => cif_congr ⟨fun q => q.2, fun q => ⟨by omega, q⟩⟩)
theorem Wp_bd {S F : Int → Int} {e s M : Int} (hM : 0 ≤ M) (h : ∀ t, 0 ≤ F t ∧ F t ≤ M) : 0 ≤ Wp S F e s ∧ Wp S F e s ≤ M * 1440 := by
  have := sm_bd (n := 1440) (lo := 0) (hi := M) (f := fun t => cif (t < e ∧ S t = s) (F t) 0) (fun t _ _ => cif_bd (h t) (by omega))
  unfold Wp; omega
theorem Wp_zero {S F : Int → Int} {e s : Int} (h : ∀ t : Int, 0 ≤ t → t < e → ¬ S t = s) : Wp S F e s = 0 := by
  unfold Wp
  exact sm_eq0 (fun t h0 _ => cif_neg (fun q => h t h0 q.1 q.2))
theorem Wp_step {S R : Int → Int} {a b p q fold v s : Int} (hs : 0 ≤ s) (hpq : p ≤ q) (h : ∀ t : Int, p ≤ t → t < q → S t = if t < fold then v else -1) : Wp S (Fn R a b) q s = Wp S (Fn R a b) p s + (if s = v then sm (Fn R (max a p) (min (min b fold) q)) 1440 else 0) := by
  have e : (if s = v then sm (Fn R (max a p) (min (min b fold) q)) 1440 else 0) = sm (fun t => cif (s = v) (Fn R (max a p) (min (min b fold) q) t) 0) 1440 := by
    by_cases c : s = v
    · rw [if_pos c]; exact sm_congr (fun t _ _ => (cif_pos c).symm)
    · rw [if_neg c]; exact (sm_eq0 (fun t _ _ => cif_neg c)).symm
  rw [e]
  unfold Wp
  rw [← sm_add]
  refine sm_congr (fun t h0 _ => ?_)
  unfold Fn
  by_cases c1 : t < p
  · have e3 : cif (max a p ≤ t ∧ t < min (min b fold) q) (R t) 0 = 0 := cif_neg (by omega)
    rw [e3]
    by_cases c2 : S t = s
    · rw [cif_pos (p := t < q ∧ S t = s) ⟨by omega, c2⟩, cif_pos (p := t < p ∧ S t = s) ⟨c1, c2⟩]
      by_cases c3 : s = v
      · rw [cif_pos c3]; omega
      · rw [cif_neg c3]; omega
    · rw [cif_neg (p := t < q ∧ S t = s) (fun k => c2 k.2), cif_neg (p := t < p ∧ S t = s) (fun k => c2 k.2)]
      by_cases c3 : s = v
      · rw [cif_pos c3]; omega
      · rw [cif_neg c3]; omega
  · rw [cif_neg (p := t < p ∧ S t = s) (fun k => c1 k.1)]
    by_cases c2 : t < q
    · have hS := h t (by omega) c2
      by_cases c4 : t < fold
      · rw [if_pos c4] at hS
        by_cases c3 : s = v
        · rw [cif_pos ⟨c2, by omega⟩, cif_pos c3]
          by_cases c5 : a ≤ t ∧ t < b
          · rw [cif_pos c5, cif_pos (by omega)]; omega
          · rw [cif_neg c5, cif_neg (by omega)]; omega
        · rw [cif_neg (fun k => c3 (by omega)), cif_neg c3]; omega
      · rw [if_neg c4] at hS
        rw [cif_neg (fun k => by omega)]
        have e3 : cif (max a p ≤ t ∧ t < min (min b fold) q) (R t) 0 = 0 := cif_neg (by omega)
        rw [e3]
        by_cases c3 : s = v
        · rw [cif_pos c3]; omega
        · rw [cif_neg c3]; omega
    · rw [cif_neg (fun k => c2 k.1)]
      have e3 : cif (max a p ≤ t ∧ t < min (min b fold) q) (R t) 0 = 0 := cif_neg (by omega)
      rw [e3]
      by_cases c3 : s = v
      · rw [cif_pos c3]; omega
      · rw [cif_neg c3]; omega
/-- the suns of a market: their slots by minutes -/
theorem sT_step {m : Nat → Int → Int} {a : Nat} {E : Nat → Option Int} {fold i t : Int} (hR : RepC m a E) (i0 : 0 ≤ i) (i1 : i < m a 2) (h1 : m (a + 1) i ≤ t) (h2 : i + 1 < m a 2 → t < m (a + 1) (i + 1)) : sT E fold t = if t < fold then m (a + 2) i else -1 := by
  unfold sT
  by_cases c : t < fold
  · rw [if_pos c, if_pos c]; exact hR.in (-1) i0 i1 h1 h2
  · rw [if_neg c, if_neg c]
