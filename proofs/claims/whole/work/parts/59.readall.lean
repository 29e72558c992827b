/-! THE CLASS'S READER: a whole text. -/
def K0 : Nat → Int := fun j => if j = 0 then 6 else if j = 1 then 4 else if j = 3 then 1440 else if j = 4 then 1440 else if j = 10 then -1 else 0
/-- what the text c of e bytes tells, over old rows D -/
noncomputable def RdP (c : Int → Int) (e : Int) (D : Nat → Int → Int) : PS := rdF c e 61 (skK c K0, D, fun _ _ => none)
section
variable {sc : Nat × (Nat → Int32)} {d : Nat} {σ : aH} {u v : Nat} {c : Int → Int} {e : Int}
abbrev ACl (v : Nat) : Nat → Int → Prop := fun a i => (a = v + 1 ∧ i = 8) ∨ ((a = v + 10 ∨ a = v + 13) ∧ i = 2) ∨ (a = v ∧ 3 ≤ i ∧ i ≤ 9)
theorem s_mclear (hG : G σ u) (hv : IsMk v) : TV sc (d + 1) mX2_clear [.ref v] σ (fun σ1 => Fr (ACl v) σ σ1 ∧ rI σ1 (v + 1) 8 = 0 ∧ rI σ1 (v + 10) 2 = 0 ∧ rI σ1 (v + 13) 2 = 0 ∧ rI σ1 v 3 = 6 ∧ rI σ1 v 4 = 4 ∧ rI σ1 v 5 = 1440 ∧ rI σ1 v 6 = 1440 ∧ rI σ1 v 7 = 0 ∧ rI σ1 v 8 = 0 ∧ rI σ1 v 9 = 0) := by
  apply T.void
  apply t_X2_clear hG hv
  intro σ1 e1 σ4 e4 σ7 e7 σ10 e10 σ13 e13 σ16 e16 σ19 e19 σ22 e22 σ25 e25 σ28 e28
  refine ⟨rfl, ?_, ?_⟩
  · have m : ∀ i : Int, 3 ≤ i → i ≤ 9 → ACl v v i := fun i a b => Or.inr (Or.inr ⟨rfl, a, b⟩)
    rw [← e28, ← e25, ← e22, ← e19, ← e16, ← e13, ← e10, ← e7, ← e4, ← e1]
    exact (((((((((Fr.w (by omega) (Or.inl ⟨rfl, rfl⟩)).trans (Fr.w (by omega) (Or.inr (Or.inl ⟨Or.inl rfl, rfl⟩)))).trans (Fr.w (by omega) (Or.inr (Or.inl ⟨Or.inr rfl, rfl⟩)))).trans (Fr.w (by omega) (m _ (by omega) (by omega)))).trans (Fr.w (by omega) (m _ (by omega) (by omega)))).trans (Fr.w (by omega) (m _ (by omega) (by omega)))).trans (Fr.w (by omega) (m _ (by omega) (by omega)))).trans (Fr.w (by omega) (m _ (by omega) (by omega)))).trans (Fr.w (by omega) (m _ (by omega) (by omega)))).trans (Fr.w (by omega) (m _ (by omega) (by omega)))
  · rw [← e28, ← e25, ← e22, ← e19, ← e16, ← e13, ← e10, ← e7, ← e4, ← e1]
    refine ⟨?_, ?_, ?_, ?_, ?_, ?_, ?_, ?_, ?_, ?_⟩
    all_goals repeat (first | rw [rI_ww (by decide)] | rw [rI_wi (by decide)] | rw [rI_wa (by omega)])
/-- all that reading a text changes -/
abbrev AT (v : Nat) : Nat → Int → Prop := fun a i => (a = 1 ∧ 1 ≤ i ∧ i ≤ 8) ∨ (a = v ∧ 3 ≤ i ∧ i ≤ 9) ∨ (a = v + 1 ∧ i = 8) ∨ (v + 2 ≤ a ∧ a ≤ v + 15)
theorem AD_AT (v a : Nat) (i : Int) (h : AD v a i) : AT v a i := by
  have h' : (a = 1 ∧ 3 ≤ i ∧ i ≤ 8) ∨ (a = v ∧ 3 ≤ i ∧ i ≤ 7) ∨ (a = v + 1 ∧ i = 8) ∨ (v + 2 ≤ a ∧ a ≤ v + 15) := h
  show (a = 1 ∧ 1 ≤ i ∧ i ≤ 8) ∨ (a = v ∧ 3 ≤ i ∧ i ≤ 9) ∨ (a = v + 1 ∧ i = 8) ∨ (v + 2 ≤ a ∧ a ≤ v + 15)
  omega
theorem ACl_AT (v a : Nat) (i : Int) (h : ACl v a i) : AT v a i := by
  have h' : (a = v + 1 ∧ i = 8) ∨ ((a = v + 10 ∨ a = v + 13) ∧ i = 2) ∨ (a = v ∧ 3 ≤ i ∧ i ≤ 9) := h
  show (a = 1 ∧ 1 ≤ i ∧ i ≤ 8) ∨ (a = v ∧ 3 ≤ i ∧ i ≤ 9) ∨ (a = v + 1 ∧ i = 8) ∨ (v + 2 ≤ a ∧ a ≤ v + 15)
  omega
theorem s_read (hG : G σ u) (hv : IsMk v) (hT : TxS c e) (hb : e ≤ rI σ 1 1) (ht : ∀ k : Int, 0 ≤ k → k < e → rI σ 2 k = if c k < 128 then c k else c k - 256) : TI sc (d + 7) mX5_read [.ref 1, .int (nZ e), .ref v] σ (fun r σ1 => Fr (AT v) σ σ1 ∧ CRep σ1 u v c e (RdP c e (Dc (rI σ) v)) ∧ rI σ1 1 1 = 0 ∧ r = (RdP c e (Dc (rI σ) v)).1 9) := by
  have hmv : v = 39 ∨ v = 60 := hv
  have h6 := hT.1
  apply T.int
  apply t_X5_read hG hv (by omega)
  intro z1 ez1 σ4 e4 σ7 e7 σ10 e10 σ13 e13 σ16 e16 σ19 e19 σ22 e22 σ25 e25
  have ez : z1 = e := by omega
  rw [ez] at e4
  have m1 : ∀ i : Int, 1 ≤ i → i ≤ 8 → AT v 1 i := fun i a b => Or.inl ⟨rfl, a, b⟩
  have hF25 : Fr (AT v) σ σ25 := by
    rw [← e25, ← e22, ← e19, ← e16, ← e13, ← e10, ← e7, ← e4]
    exact (((((((Fr.w (by omega) (m1 _ (by omega) (by omega))).trans (Fr.w (by omega) (m1 _ (by omega) (by omega)))).trans (Fr.w (by omega) (m1 _ (by omega) (by omega)))).trans (Fr.w (by omega) (m1 _ (by omega) (by omega)))).trans (Fr.w (by omega) (m1 _ (by omega) (by omega)))).trans (Fr.w (by omega) (m1 _ (by omega) (by omega)))).trans (Fr.w (by omega) (m1 _ (by omega) (by omega)))).trans (Fr.w (by omega) (m1 _ (by omega) (by omega)))
  have v25 : rI σ25 1 1 = 0 ∧ rI σ25 1 2 = e ∧ rI σ25 1 3 = 0 ∧ rI σ25 1 4 = 0 ∧ rI σ25 1 5 = -1 ∧ rI σ25 1 6 = 0 ∧ rI σ25 1 7 = 0 ∧ rI σ25 1 8 = 0 := by
    rw [← e25, ← e22, ← e19, ← e16, ← e13, ← e10, ← e7, ← e4]
    refine ⟨?_, ?_, ?_, ?_, ?_, ?_, ?_, ?_⟩
    all_goals repeat (first | rw [rI_ww (by first | decide | omega)] | rw [rI_wi (by decide)])
  obtain ⟨D, hD⟩ : ∃ D : Nat → Int → Int, D = Dc (rI σ) v := ⟨_, rfl⟩
  rw [← hD]
  have hG25 := hF25.g hG
  obtain ⟨σ28, he28, hF28, c8, c10, c13, c3, c4, c5, c6, c7, c8', c9⟩ := s_mclear (sc := sc) (d := d + 5) (v := v) hG25 hv
  have nC : ∀ (a : Nat) (i : Int), a ≤ 2 → ¬ ACl v a i := fun a i q => by show ¬ ((a = v + 1 ∧ i = 8) ∨ ((a = v + 10 ∨ a = v + 13) ∧ i = 2) ∨ (a = v ∧ 3 ≤ i ∧ i ≤ 9)); omega
  have w28 : ∀ i : Int, 0 ≤ i → rI σ28 1 i = rI σ25 1 i := fun i i0 => hF28.rw i0 (nC _ _ (by omega))
  have t28 : ∀ i : Int, 0 ≤ i → rI σ28 2 i = rI σ 2 i := fun i i0 => (hF28.rw i0 (nC _ _ (by omega))).trans (hF25.rw i0 (by show ¬ ((2 = 1 ∧ 1 ≤ i ∧ i ≤ 8) ∨ (2 = v ∧ 3 ≤ i ∧ i ≤ 9) ∨ (2 = v + 1 ∧ i = 8) ∨ (v + 2 ≤ 2 ∧ 2 ≤ v + 15)); omega))
  have hF28' : Fr (AT v) σ σ28 := hF25.trans (hF28.weak (ACl_AT v))
  have hKc : Kc σ28 v = K0 := by
    funext j
    by_cases z : j ≤ 11
    · have : j = 0 ∨ j = 1 ∨ j = 2 ∨ j = 3 ∨ j = 4 ∨ j = 5 ∨ j = 6 ∨ j = 7 ∨ j = 8 ∨ j = 9 ∨ j = 10 ∨ j = 11 := by omega
      rcases this with rfl | rfl | rfl | rfl | rfl | rfl | rfl | rfl | rfl | rfl | rfl | rfl
      · exact c3
      · exact c4
      · exact c8
      · exact c5
      · exact c6
      · exact c7
      · exact (w28 6 (by omega)).trans v25.2.2.2.2.2.1
      · exact (w28 7 (by omega)).trans v25.2.2.2.2.2.2.1
      · exact (w28 8 (by omega)).trans v25.2.2.2.2.2.2.2
      · exact (w28 4 (by omega)).trans v25.2.2.2.1
      · exact (w28 5 (by omega)).trans v25.2.2.2.2.1
      · exact (w28 3 (by omega)).trans v25.2.2.1
    · unfold Kc K0
      rw [if_neg z, if_neg (by omega), if_neg (by omega), if_neg (by omega), if_neg (by omega), if_neg (by omega)]
  have hS28 : St σ28 u v c e K0 := by
    refine ⟨hF28'.g hG, hv, ⟨hT, (w28 2 (by omega)).trans v25.2.1, fun k a b => (t28 k a).trans (ht k a b)⟩, ?_, hKc⟩
    show 0 ≤ (0 : Int) ∧ (0 : Int) ≤ e
    omega
  have hC28 : Ct σ28 v D (fun _ _ => none) K0 := by
    have rep : ∀ a : Nat, rI σ28 a 2 = 0 → RepC (rI σ28) a (fun _ => none) := fun a ha => ⟨by omega, by omega, fun i p q => by omega, fun i j p q r => by omega, fun t x hx => absurd hx (by simp)⟩
    refine ⟨?_, rep _ c10, rep _ c13, c8', c9, ?_, ?_⟩
    · rw [hD]
      refine Dc_congr (fun a p q => ?_)
      have r1 : rI σ28 a = rI σ25 a := hF28.row (fun i => by show ¬ ((a = v + 1 ∧ i = 8) ∨ ((a = v + 10 ∨ a = v + 13) ∧ i = 2) ∨ (a = v ∧ 3 ≤ i ∧ i ≤ 9)); omega)
      have r2 : ∀ i : Int, rI σ25 a i = rI σ a i := by
        intro i
        rw [← e25, rI_wa (by omega), ← e22, rI_wa (by omega), ← e19, rI_wa (by omega), ← e16, rI_wa (by omega), ← e13, rI_wa (by omega), ← e10, rI_wa (by omega), ← e7, rI_wa (by omega), ← e4, rI_wa (by omega)]
      rw [r1]; exact funext r2
    · rw [c10]; exact Int.le_refl _
    · rw [c13]; exact Int.le_refl _
  obtain ⟨σ32, he32, hF32, hS32⟩ := r_skip (sc := sc) (d := d + 4) hS28
  refine ⟨σ28, he28, hF28'.g hG, σ32, he32, hS32.1, ?_⟩
  have hC32 : CRep σ32 u v c e (skK c K0, D, fun _ _ => none) := by
    refine ⟨hS32, (hC28.ar hv hF32).k ?_ ?_, ?_⟩
    · show K0 7 ≤ skK c K0 7
      rw [skK_ne (by decide)]; exact Int.le_refl _
    · show K0 8 ≤ skK c K0 8
      rw [skK_ne (by decide)]; exact Int.le_refl _
    · show Kb (skK c K0)
      unfold Kb
      rw [skK_ne (by decide), skK_ne (by decide), skK_ne (by decide), skK_ne (by decide), skK_ne (by decide), skK_ne (by decide)]
      decide
  have b32 : rI σ32 1 1 = 0 := (hF32.rw (by omega) (fun q => by have := q.2.1; omega)).trans ((w28 1 (by omega)).trans v25.1)
  obtain ⟨R, hR⟩ : ∃ R : PS, R = RdP c e D := ⟨_, rfl⟩
  rw [← hR]
  obtain ⟨Q, hQ⟩ : ∃ Q : aO → aH → Prop, Q = QI (fun r σ1 => Fr (AT v) σ σ1 ∧ CRep σ1 u v c e R ∧ rI σ1 1 1 = 0 ∧ r = R.1 9) := ⟨_, rfl⟩
  rw [← hQ]
  have loop : ∀ (f : Nat) (i : Int) (τ : aH) (P : PS), (61 - i).toNat = f → 0 ≤ i → i ≤ 61 → Fr (AT v) σ τ → CRep τ u v c e P → rI τ 1 1 = 0 → rdF c e f P = R → L_X5_read_57 (Ev sc (d + 6)) sc Q v e i τ := by
    intro f
    induction f with
    | zero =>
      intro i τ P hf i0 i1 hF hC hb0 hR'
      have hR2 : P = R := hR'
      have k9 : rI τ 1 4 = P.1 9 := by rw [← hC.1.2.2.2.2]; rfl
      apply v_X5_read_57 (hF.g hG) hv (by omega) (by omega)
      refine ⟨fun _ => ?_, fun q => by omega⟩
      rw [hQ]
      exact ⟨_, rfl, rI_R _ _ _, hF, by rw [← hR2]; exact hC, hb0, by rw [← hR2]; exact k9⟩
    | succ f ih =>
      intro i τ P hf i0 i1 hF hC hb0 hR'
      have k9 : rI τ 1 4 = P.1 9 := by rw [← hC.1.2.2.2.2]; rfl
      have k11 : rI τ 1 3 = P.1 11 := by rw [← hC.1.2.2.2.2]; rfl
      have k2 : rI τ 1 2 = e := hC.1.2.2.1.2.1
      have hR2 : (if P.1 11 < e ∧ P.1 9 = 0 then rdF c e f (skK c (clF c P).1, (clF c P).2) else P) = R := hR'
      have stop : ¬ (P.1 11 < e ∧ P.1 9 = 0) → Q (.inl (some (.int (nZ (rI τ 1 4))))) τ := by
        intro z
        rw [if_neg z] at hR2
        rw [hQ]
        exact ⟨_, rfl, rI_R _ _ _, hF, by rw [← hR2]; exact hC, hb0, by rw [← hR2]; exact k9⟩
      apply v_X5_read_57 (hF.g hG) hv (by omega) (by omega)
      refine ⟨fun q => by omega, fun _ => ⟨fun z => stop (by omega), fun z => ⟨fun z1 => stop (by omega), fun z1 => ?_⟩⟩⟩
      rw [if_pos (by omega)] at hR2
      obtain ⟨σ1, he1, hF1, hC1⟩ := s_readClause (sc := sc) (d := d) hC
      obtain ⟨σ5, he5, hF5, hS5⟩ := r_skip (sc := sc) (d := d + 4) hC1.1
      have hF1' : Fr (AT v) σ σ1 := hF.trans (hF1.weak (AD_AT v))
      have hF5' : Fr (AT v) σ σ5 := hF1'.trans (hF5.weak (fun a i q => AD_AT v a i (AR_AD v a i q)))
      have hC5 : CRep σ5 u v c e (skK c (clF c P).1, (clF c P).2) := by
        refine ⟨hS5, (hC1.2.1.ar hv hF5).k ?_ ?_, ?_⟩
        · show (clF c P).1 7 ≤ skK c (clF c P).1 7
          rw [skK_ne (by decide)]; exact Int.le_refl _
        · show (clF c P).1 8 ≤ skK c (clF c P).1 8
          rw [skK_ne (by decide)]; exact Int.le_refl _
        · exact Kb.congr (K1 := skK c (clF c P).1) hC1.2.2 (skK_ne (j := 0) (by decide)) (skK_ne (j := 1) (by decide)) (skK_ne (j := 2) (by decide)) (skK_ne (j := 6) (by decide)) (skK_ne (j := 7) (by decide)) (skK_ne (j := 8) (by decide))
      refine ⟨σ1, he1, hC1.1.1, σ5, he5, hS5.1, by omega, ih (i + 1) σ5 _ (by omega) (by omega) (by omega) hF5' hC5 ?_ hR2⟩
      have n1 : ¬ AD v 1 1 := by show ¬ ((1 = 1 ∧ 3 ≤ (1 : Int) ∧ (1 : Int) ≤ 8) ∨ (1 = v ∧ _) ∨ (1 = v + 1 ∧ _) ∨ (v + 2 ≤ 1 ∧ 1 ≤ v + 15)); omega
      rw [hF5.rw (by omega) (fun q => by have := q.2.1; omega), hF1.rw (by omega) n1]; exact hb0
  exact loop 61 0 σ32 _ rfl (by omega) (by omega) (hF28'.trans (hF32.weak (fun a i q => AD_AT v a i (AR_AD v a i q)))) hC32 b32 hR.symm
end
