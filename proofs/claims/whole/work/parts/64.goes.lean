/-! THE REFERENCE: a day goes by. -/
def Sx (S : Int → Int) (x t : Int) : Int := if t < x then S t else -1
noncomputable def Gs (Q : Int → Prop) (V S : Int → Int) : Int := sm (fun t => cif (Q (S t)) (V t) 0) 1440
theorem Gs_step {Q : Int → Prop} {V S : Int → Int} {x1 x2 m s0 v : Int} (h0 : 0 ≤ x1) (h1 : x1 ≤ m) (h2 : m ≤ x2) (h3 : x2 ≤ 1440) (ha : ∀ t : Int, x1 ≤ t → t < m → S t = s0 ∧ V t = v) (hb : ∀ t : Int, m ≤ t → t < x2 → S t = -1) (hQ : ¬ Q (-1)) : Gs Q V (Sx S x2) = Gs Q V (Sx S x1) + cif (Q s0) ((m - x1) * v) 0 := by
  have e : Gs Q V (Sx S x2) = sm (fun t => cif (Q (Sx S x1 t)) (V t) 0 + Fn (fun _ => cif (Q s0) v 0) x1 m t) 1440 := by
    refine sm_congr (fun t t0 t1 => ?_)
    unfold Sx Fn
    by_cases c1 : t < x1
    · rw [if_pos c1, if_pos (by omega), cif_neg (p := x1 ≤ t ∧ t < m) (by omega), Int.add_zero]
    · rw [if_neg c1, cif_neg (p := Q (-1)) hQ]
      by_cases c2 : t < m
      · have := ha t (by omega) c2
        rw [if_pos (by omega), cif_pos (p := x1 ≤ t ∧ t < m) (by omega), this.1, this.2]; exact (Int.zero_add _).symm
      · rw [cif_neg (p := x1 ≤ t ∧ t < m) (by omega)]
        by_cases c3 : t < x2
        · rw [if_pos c3, hb t (by omega) c3, cif_neg hQ]; omega
        · rw [if_neg c3, cif_neg hQ]; omega
  rw [e, sm_add, sm_Fn h0 h1 (by omega)]
  have c1 := sm_const (f := fun _ => cif (Q s0) v 0) (a := x1) (b := m) (c := cif (Q s0) v 0) h0 h1 (fun _ _ _ => rfl)
  rw [c1]
  have c2 : (m - x1) * cif (Q s0) v 0 = cif (Q s0) ((m - x1) * v) 0 := by
    by_cases z : Q s0
    · rw [cif_pos z, cif_pos z]
    · rw [cif_neg z, cif_neg z, Int.mul_zero]
  rw [c2]
  show Gs Q V (Sx S x1) + _ = _
  omega
theorem Fsm_Gs (fa : Int → Int → Int → Prop) (S F : Int → Int) (i j : Int) : Fsm fa S F i j = Gs (fa i j) F S := rfl
noncomputable def LedT (fa : Int → Int → Int → Prop) (n : Int) (S : Int → Int) (j i : Int) : Int := Gs (fun s => fa i j s ∧ ¬ Any fa n j i s) one S
noncomputable def ChT (fa : Int → Int → Int → Prop) (n : Int) (S : Int → Int) (j : Int) : Int := Gs (fun s => Any fa n j (-1) s) one S
section
variable {fa : Int → Int → Int → Prop} {la S F F1 : Int → Int} {n x1 x2 m s0 f f1 : Int}
theorem Prc_step (hfa : ∀ i j : Int, ¬ fa i j (-1)) (h0 : 0 ≤ x1) (h1 : x1 ≤ m) (h2 : m ≤ x2) (h3 : x2 ≤ 1440) (ha : ∀ t : Int, x1 ≤ t → t < m → S t = s0 ∧ F t = f ∧ F1 t = f1) (hb : ∀ t : Int, m ≤ t → t < x2 → S t = -1) (i j : Int) : Prc fa la (Sx S x2) F F1 i j = Prc fa la (Sx S x1) F F1 i j + cif (fa i j s0) ((m - x1) * f + (if la i = 1 then (m - x1) * f1 else 0)) 0 := by
  unfold Prc
  rw [Fsm_Gs, Fsm_Gs, Fsm_Gs, Fsm_Gs, Gs_step h0 h1 h2 h3 (fun t a b => ⟨(ha t a b).1, (ha t a b).2.1⟩) hb (hfa i j), Gs_step h0 h1 h2 h3 (fun t a b => ⟨(ha t a b).1, (ha t a b).2.2⟩) hb (hfa i j)]
  by_cases c : fa i j s0
  · rw [cif_pos c, cif_pos c, cif_pos c]
    split <;> omega
  · rw [cif_neg c, cif_neg c, cif_neg c]
    split <;> omega
theorem Tot_step (hn : 0 ≤ n) (hfa : ∀ i j : Int, ¬ fa i j (-1)) (h0 : 0 ≤ x1) (h1 : x1 ≤ m) (h2 : m ≤ x2) (h3 : x2 ≤ 1440) (ha : ∀ t : Int, x1 ≤ t → t < m → S t = s0 ∧ F t = f ∧ F1 t = f1) (hb : ∀ t : Int, m ≤ t → t < x2 → S t = -1) : Tot fa la (Sx S x2) F F1 n (-1) = Tot fa la (Sx S x1) F F1 n (-1) + SS (fun j i => fa i j s0) n (fun i => (m - x1) * f + (if la i = 1 then (m - x1) * f1 else 0)) n 0 := by
  have e0 : SS (fun j i => fa i j s0) n (fun i => (m - x1) * f + (if la i = 1 then (m - x1) * f1 else 0)) n 0 = sm (fun i => sm (fun j => cif (fa i j s0) ((m - x1) * f + (if la i = 1 then (m - x1) * f1 else 0)) 0) n.toNat) n.toNat := by
    unfold SS
    have z : sm (fun a => cif (fa a n s0) ((m - x1) * f + (if la a = 1 then (m - x1) * f1 else 0)) 0) (0 : Int).toNat = 0 := sm_0 _
    rw [z, Int.add_zero]
    exact sm_comm (fun c a => cif (fa a c s0) ((m - x1) * f + (if la a = 1 then (m - x1) * f1 else 0)) 0) n.toNat n.toNat
  rw [e0]
  unfold Tot
  rw [← sm_add]
  refine sm_congr (fun i i0 i1 => ?_)
  rw [← sm_add]
  refine sm_congr (fun j j0 j1 => ?_)
  rw [cif_pos ⟨by omega, by omega⟩, cif_pos ⟨by omega, by omega⟩]
  exact Prc_step hfa h0 h1 h2 h3 ha hb i j
theorem LanT_step (hn : 0 ≤ n) (hfa : ∀ i j : Int, ¬ fa i j (-1)) (h0 : 0 ≤ x1) (h1 : x1 ≤ m) (h2 : m ≤ x2) (h3 : x2 ≤ 1440) (ha : ∀ t : Int, x1 ≤ t → t < m → S t = s0 ∧ F1 t = f1) (hb : ∀ t : Int, m ≤ t → t < x2 → S t = -1) : LanT fa la (Sx S x2) F1 n = LanT fa la (Sx S x1) F1 n + SS (fun j i => fa i j s0) n (fun i => if la i = 1 then (m - x1) * f1 else 0) n 0 := by
  have e0 : SS (fun j i => fa i j s0) n (fun i => if la i = 1 then (m - x1) * f1 else 0) n 0 = sm (fun i => sm (fun j => cif (fa i j s0) (if la i = 1 then (m - x1) * f1 else 0) 0) n.toNat) n.toNat := by
    unfold SS
    have z : sm (fun a => cif (fa a n s0) (if la a = 1 then (m - x1) * f1 else 0) 0) (0 : Int).toNat = 0 := sm_0 _
    rw [z, Int.add_zero]
    exact sm_comm (fun c a => cif (fa a c s0) (if la a = 1 then (m - x1) * f1 else 0) 0) n.toNat n.toNat
  rw [e0]
  unfold LanT
  rw [← sm_add]
  refine sm_congr (fun i i0 i1 => ?_)
  rw [← sm_add]
  refine sm_congr (fun j j0 j1 => ?_)
  by_cases c : la i = 1
  · rw [cif_pos c, cif_pos c, if_pos c, Fsm_Gs, Fsm_Gs]
    exact Gs_step h0 h1 h2 h3 ha hb (hfa i j)
  · rw [cif_neg c, cif_neg c, if_neg c]
    by_cases c2 : fa i j s0
    · rw [cif_pos c2]; rfl
    · rw [cif_neg c2]; rfl
end
/-- all that the reference counts in a day by S -/
def GoS (σ : aH) (fa : Int → Int → Int → Prop) (la S R : Int → Int) (du n : Int) (fr : Int → Int) (K : Int) (Es : Nat → Option Int) : Prop := (∀ i j : Int, 0 ≤ i → i < n → 0 ≤ j → j < n → rI σ (282 + i.toNat) j = Prc fa la S R (fun t => cif (du ≤ t) (R t) 0) i j ∧ rI σ (292 + j.toNat) i = Fsm fa S one i j ∧ rI σ (302 + j.toNat) i = LedT fa n S j i) ∧ (∀ j : Int, 0 ≤ j → j < n → rI σ 311 j = ChT fa n S j) ∧ rI σ 76 36 = Tot fa la S R (fun t => cif (du ≤ t) (R t) 0) n (-1) ∧ rI σ 76 37 = LanT fa la S (fun t => cif (du ≤ t) (R t) 0) n ∧ (∀ h : Int, 0 ≤ h → h < 24 → rI σ 312 h = Tot fa la S (fun t => cif (t / 60 = h) (R t) 0) (fun t => cif (t / 60 = h ∧ du ≤ t) (R t) 0) n (-1)) ∧ (∀ k : Int, 0 ≤ k → k < K → rI σ 313 k = SunV fa la S R du n (-1) Es (fr k))
theorem GoS_S {σ : aH} {fa : Int → Int → Int → Prop} {la S S1 R : Int → Int} {du n : Int} {fr : Int → Int} {K : Int} {Es : Nat → Option Int} (h : ∀ t : Int, 0 ≤ t → t < 1440 → S t = S1 t) (hg : GoS σ fa la S R du n fr K Es) : GoS σ fa la S1 R du n fr K Es := by
  have g : ∀ (Q : Int → Prop) (V : Int → Int), Gs Q V S = Gs Q V S1 := fun Q V => sm_congr (fun t a b => by rw [h t a b])
  have f : ∀ (F : Int → Int) (i j : Int), Fsm fa S F i j = Fsm fa S1 F i j := fun F i j => g _ _
  have p : ∀ (F F1 : Int → Int) (i j : Int), Prc fa la S F F1 i j = Prc fa la S1 F F1 i j := fun F F1 i j => by unfold Prc; rw [f, f]
  have t : ∀ F F1 : Int → Int, Tot fa la S F F1 n (-1) = Tot fa la S1 F F1 n (-1) := fun F F1 => sm_congr (fun i _ _ => sm_congr (fun j _ _ => by rw [p]))
  obtain ⟨h1, h2, h3, h4, h5, h6⟩ := hg
  refine ⟨fun i j a b c d => ?_, fun j a b => (h2 j a b).trans (g _ _), h3.trans (t _ _), h4.trans (sm_congr (fun i _ _ => sm_congr (fun j _ _ => by rw [f]))), fun h a b => (h5 h a b).trans (t _ _), fun k a b => (h6 k a b).trans (t _ _)⟩
  have := h1 i j a b c d
  exact ⟨this.1.trans (p _ _ _ _), this.2.1.trans (f _ _ _), this.2.2.trans (g _ _)⟩
/-- the market as the reference holds it -/
def Mo (σ : aH) (n g W H : Int) (D : Nat → Int → Int) (Es Er : Nat → Option Int) (K : Int) (fr va : Int → Int) (du : Int) : Prop := MN σ n g ∧ D = Dm (rI σ) ∧ StB D n ∧ Dst D n ∧ (∀ i : Int, 0 ≤ i → i < n → D 0 i < W ∧ D 1 i < H) ∧ (rI σ 80 0 = W ∧ rI σ 80 1 = H) ∧ (W ≤ 9 ∧ H ≤ 9 ∧ 0 ≤ W ∧ 0 ≤ H) ∧ (0 ≤ rI σ 76 19 ∧ rI σ 76 19 ≤ 1) ∧ rI σ 80 6 = K ∧ (∀ k : Int, 0 ≤ k → k < K → rI σ (122 + k.toNat) 0 = fr k ∧ (-1 ≤ rI σ (122 + k.toNat) 1 ∧ rI σ (122 + k.toNat) 1 ≤ 1) ∧ (-1 ≤ rI σ (122 + k.toNat) 2 ∧ rI σ (122 + k.toNat) 2 ≤ 1) ∧ (0 ≤ rI σ (122 + k.toNat) 3 ∧ rI σ (122 + k.toNat) 3 ≤ 9) ∧ va k = 10 * ((rI σ (122 + k.toNat) 1 + 1) + 3 * (rI σ (122 + k.toNat) 2 + 1)) + rI σ (122 + k.toNat) 3) ∧ RepU fr va K Es ∧ (rI σ 80 4 = du ∧ 0 ≤ du) ∧ (1 ≤ rI σ 76 25 ∧ rI σ 76 25 ≤ 65) ∧ PcP (rI σ) (rI σ 76 25) 1440 fr K du Er ∧ (∀ t x, Er t = some x → 0 ≤ x ∧ x ≤ 9)
/-- what a day's going changes -/
abbrev AGo : Nat → Int → Prop := fun a i => (261 ≤ a ∧ a ≤ 313) ∨ (a = 76 ∧ (i = 36 ∨ i = 37))
theorem Mo.fr {A : Nat → Int → Prop} {σ σ1 : aH} {n g W H : Int} {D : Nat → Int → Int} {Es Er : Nat → Option Int} {K : Int} {fr va : Int → Int} {du : Int} (h : Mo σ n g W H D Es Er K fr va du) (hF : Fr A σ σ1) (h1 : ∀ (a : Nat) (i : Int), (80 ≤ a ∧ a ≤ 259) → ¬ A a i) (h2 : ∀ i : Int, (i = 19 ∨ i = 25 ∨ i = 27 ∨ i = 28) → ¬ A 76 i) : Mo σ1 n g W H D Es Er K fr va du := by
  obtain ⟨a1, a2, a3, a4, a5, a6, a7, a8, a9, a10, a11, a12, a13, a14, a15⟩ := h
  have hK := a11.1
  have r : ∀ (a : Nat) (i : Int), 0 ≤ i → 80 ≤ a → a ≤ 259 → rI σ1 a i = rI σ a i := fun a i i0 p q => hF.rw i0 (h1 a i ⟨p, q⟩)
  have r25 : rI σ1 76 25 = rI σ 76 25 := hF.rw (by omega) (h2 _ (by omega))
  refine ⟨a1.fr hF (h2 _ (by omega)) (h2 _ (by omega)), a2.trans (Dm_fr hF (fun a i p q => h1 a i (by omega))).symm, a3, a4, a5, ⟨(r 80 0 (by omega) (by omega) (by omega)).trans a6.1, (r 80 1 (by omega) (by omega) (by omega)).trans a6.2⟩, a7, by rw [hF.rw (by omega) (h2 _ (by omega))]; exact a8, (r 80 6 (by omega) (by omega) (by omega)).trans a9, fun k k0 k1 => ?_, a11, ⟨(r 80 4 (by omega) (by omega) (by omega)).trans a12.1, a12.2⟩, by rw [r25]; exact a13, ?_, a15⟩
  · rw [r _ 0 (by omega) (by omega) (by omega), r _ 1 (by omega) (by omega) (by omega), r _ 2 (by omega) (by omega) (by omega), r _ 3 (by omega) (by omega) (by omega)]
    exact a10 k k0 k1
  · rw [r25]
    intro q q0 q1
    have := a14 q q0 q1
    have e : ∀ i : Int, 0 ≤ i → rI σ1 (190 + q.toNat) i = rI σ (190 + q.toNat) i := fun i i0 => r _ i i0 (by omega) (by omega)
    rw [e 0 (by omega), e 1 (by omega), e 2 (by omega), e 3 (by omega)]
    refine ⟨this.1, this.2.1, fun z => ?_, this.2.2.2.1, this.2.2.2.2⟩
    rw [r _ 0 (by omega) (by omega) (by omega)]; exact this.2.2.1 z
/-- the sun's slot, where it is not folded or clouded -/
def Sg (Es : Nat → Option Int) (en cl t : Int) : Int := if t < en ∧ bt cl (t / 60) = 0 then aT Es (-1) t else -1
theorem LanT_bd {fa : Int → Int → Int → Prop} {la S F1 : Int → Int} {n : Int} (hn : n ≤ 9) (hF1 : F9 F1) : 0 ≤ LanT fa la S F1 n ∧ LanT fa la S F1 n ≤ 2099520 := by
  have inner : ∀ i : Int, 0 ≤ sm (fun j => cif (la i = 1) (Fsm fa S F1 i j) 0) n.toNat ∧ sm (fun j => cif (la i = 1) (Fsm fa S F1 i j) 0) n.toNat ≤ 116640 := by
    intro i
    have := sm_bd (f := fun j => cif (la i = 1) (Fsm fa S F1 i j) 0) (lo := 0) (hi := 12960) (n := n.toNat) (fun t _ _ => cif_bd (Fsm_bd hF1) (by omega))
    omega
  have := sm_bd (f := fun i => sm (fun j => cif (la i = 1) (Fsm fa S F1 i j) 0) n.toNat) (lo := 0) (hi := 116640) (n := n.toNat) (fun t _ _ => inner t)
  unfold LanT; omega
theorem Gs_bd1 {Q : Int → Prop} {S : Int → Int} : 0 ≤ Gs Q one S ∧ Gs Q one S ≤ 1440 := by
  have := sm_bd (f := fun t => cif (Q (S t)) (one t) 0) (lo := 0) (hi := 1) (n := 1440) (fun t _ _ => cif_bd (by show (0 : Int) ≤ 1 ∧ (1 : Int) ≤ 1; omega) (by omega))
  unfold Gs; omega
theorem F9_cif {R : Int → Int} (h : F9 R) (p : Int → Prop) : F9 (fun t => cif (p t) (R t) 0) := fun t => cif_bd (h t) (by omega)
