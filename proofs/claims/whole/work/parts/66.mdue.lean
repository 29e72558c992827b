/-! THE REFERENCE: what is due, in the words of the class. -/
theorem Gs_eq2 {Q : Int → Prop} {V1 V2 S1 S2 : Int → Int} (hQ : ¬ Q (-1)) (h : ∀ t : Int, 0 ≤ t → t < 1440 → (S1 t = S2 t ∧ V1 t = V2 t) ∨ ((S1 t = -1 ∨ V1 t = 0) ∧ (S2 t = -1 ∨ V2 t = 0))) : Gs Q V1 S1 = Gs Q V2 S2 := by
  have z : ∀ s v : Int, (s = -1 ∨ v = 0) → cif (Q s) v 0 = 0 := by
    intro s v hsv
    rcases hsv with e | e
    · rw [e]; exact cif_neg hQ
    · rw [e]; by_cases c : Q s
      · exact cif_pos c
      · exact cif_neg c
  refine sm_congr (fun t t0 t1 => ?_)
  rcases h t t0 t1 with ⟨a, b⟩ | ⟨a, b⟩
  · rw [a, b]
  · rw [z _ _ a, z _ _ b]
theorem Prc_eq2 {fa : Int → Int → Int → Prop} {la S1 S2 F G1 F2 G2 : Int → Int} (hfa : ∀ i j : Int, ¬ fa i j (-1)) (h : ∀ t : Int, 0 ≤ t → t < 1440 → (S1 t = S2 t ∧ F t = F2 t) ∨ ((S1 t = -1 ∨ F t = 0) ∧ (S2 t = -1 ∨ F2 t = 0))) (h1 : ∀ t : Int, 0 ≤ t → t < 1440 → (S1 t = S2 t ∧ G1 t = G2 t) ∨ ((S1 t = -1 ∨ G1 t = 0) ∧ (S2 t = -1 ∨ G2 t = 0))) (i j : Int) : Prc fa la S1 F G1 i j = Prc fa la S2 F2 G2 i j := by
  unfold Prc
  rw [Fsm_Gs, Fsm_Gs, Fsm_Gs, Fsm_Gs, Gs_eq2 (hfa i j) h, Gs_eq2 (hfa i j) h1]
theorem FaM_no {D : Nat → Int → Int} {n g w : Int} (i j : Int) : ¬ FaM D n g w i j (-1) := fun q => falls_neg (by omega) q.2.2
theorem FaM_iff {D : Nat → Int → Int} {n w i j s : Int} (hi : 0 ≤ i) (hj : 0 ≤ j) : FaM D n (-1) w i j s ↔ Falls D n (-1) w i j s := ⟨fun q => q.2.2, fun q => ⟨by omega, by omega, q⟩⟩
/-- all due of the reference is that of the class's words, g away -/
theorem TotM_eq {D : Nat → Int → Int} {n g w : Int} {S1 S2 F G1 F2 G2 : Int → Int} (h : ∀ t : Int, 0 ≤ t → t < 1440 → (S1 t = S2 t ∧ F t = F2 t) ∨ ((S1 t = -1 ∨ F t = 0) ∧ (S2 t = -1 ∨ F2 t = 0))) (h1 : ∀ t : Int, 0 ≤ t → t < 1440 → (S1 t = S2 t ∧ G1 t = G2 t) ∨ ((S1 t = -1 ∨ G1 t = 0) ∧ (S2 t = -1 ∨ G2 t = 0))) : Tot (FaM D n g w) (D 6) S1 F G1 n (-1) = Tot (Falls D n g w) (D 6) S2 F2 G2 n g := by
  refine sm_congr (fun i i0 i1 => sm_congr (fun j j0 j1 => ?_))
  rw [cif_pos ⟨by omega, by omega⟩, Prc_eq2 FaM_no h h1]
  by_cases c : i ≠ g ∧ j ≠ g
  · rw [cif_pos c]
    exact Prc_congr (fun s => ⟨fun q => q.2.2, fun q => ⟨c.1, c.2, q⟩⟩) rfl
  · rw [cif_neg c]
    have z : ∀ F : Int → Int, Fsm (FaM D n g w) S2 F i j = 0 := fun F => Fsm_no (fun t _ _ q => c ⟨q.1, q.2.1⟩)
    unfold Prc
    rw [z, z]; split <;> rfl
noncomputable def CF (Er : Nat → Option Int) : Int → Int := Fn (aT Er 1) 0 1440
noncomputable def CF1 (Er : Nat → Option Int) (du : Int) : Int → Int := Fn (aT Er 1) (max 0 du) 1440
theorem CF_t {Er : Nat → Option Int} {t : Int} (h0 : 0 ≤ t) (h1 : t < 1440) : CF Er t = aT Er 1 t := cif_pos ⟨h0, h1⟩
theorem CF1_t {Er : Nat → Option Int} {du t : Int} (h0 : 0 ≤ t) (h1 : t < 1440) : CF1 Er du t = cif (du ≤ t) (aT Er 1 t) 0 := cif_congr ⟨fun q => by omega, fun q => by omega⟩
theorem Sg_0 {Es : Nat → Option Int} {en : Int} : Sg Es en 0 = sT Es en := by
  funext t
  have e : bt 0 (t / 60) = 0 := by unfold bt; rw [Int.zero_ediv]; rfl
  unfold Sg sT
  by_cases c : t < en
  · rw [if_pos ⟨c, e⟩, if_pos c]
  · rw [if_neg (fun q => c q.1), if_neg c]
theorem CF9 {Er : Nat → Option Int} (h : ∀ t x, Er t = some x → 0 ≤ x ∧ x ≤ 9) : F9 (CF Er) := Fn9 (rate9 h) _ _
theorem CF19 {Er : Nat → Option Int} {du : Int} (h : ∀ t x, Er t = some x → 0 ≤ x ∧ x ≤ 9) : F9 (CF1 Er du) := Fn9 (rate9 h) _ _
section
variable {sc : Nat × (Nat → Int32)} {d : Nat} {σ : aH} {u : Nat} {n g W H : Int} {D : Nat → Int → Int} {Es Er : Nat → Option Int} {K : Int} {fr va : Int → Int} {du fo : Int}
/-- the reference's market, with its fold -/
def Mf (σ : aH) (n g W H : Int) (D : Nat → Int → Int) (Es Er : Nat → Option Int) (K : Int) (fr va : Int → Int) (du fo : Int) : Prop := Mo σ n g W H D Es Er K fr va du ∧ rI σ 80 3 = fo ∧ (0 ≤ fo ∧ fo ≤ 1440)
theorem Mf.frm {A : Nat → Int → Prop} {σ1 : aH} (h : Mf σ n g W H D Es Er K fr va du fo) (hF : Fr A σ σ1) (h1 : ∀ (a : Nat) (i : Int), (80 ≤ a ∧ a ≤ 259) → ¬ A a i) (h2 : ∀ i : Int, (i = 19 ∨ i = 25 ∨ i = 27 ∨ i = 28) → ¬ A 76 i) : Mf σ1 n g W H D Es Er K fr va du fo := ⟨h.1.fr hF h1 h2, (hF.rw (by omega) (h1 _ _ (by omega))).trans h.2.1, h.2.2⟩
/-- what a day's going tells, in the class's words -/
def DuS (σ : aH) (n g w : Int) (D : Nat → Int → Int) (Es Er : Nat → Option Int) (K : Int) (fr va : Int → Int) (du fo : Int) : Prop := OnS σ (FaM D n g w) n K va ∧ GoS σ (FaM D n g w) (D 6) (sT Es fo) (aT Er 1) du n fr K Es
theorem m_dueNow (hG : G σ u) (hM : Mf σ n g W H D Es Er K fr va du fo) : TI sc (d + 5) mX10_dueNow [.ref 76] σ (fun r σ1 => Fr AGo σ σ1 ∧ DuS σ1 n g (1 + rI σ 76 19) D Es Er K fr va du fo ∧ r = DueD D n g (1 + rI σ 76 19) (sT Es fo) (CF Er) (CF1 Er du)) := by
  have hf := hM.2.2
  obtain ⟨σ1, he1, hF1, hO1, hg1⟩ := m_goes (sc := sc) (d := d) (un := 1440) (fo := fo) (cl := 0) hG hM.1 (by omega) hf (by omega)
  rw [show min 1440 fo = fo by omega, Sg_0] at hg1
  apply T.int
  apply t_X10_dueNow hG
  rw [hM.2.1]
  refine ⟨σ1, he1, hF1.g hG, _, rfl, rI_R _ _ _, hF1, ⟨hO1, hg1⟩, ?_⟩
  rw [hg1.2.2.1]
  exact TotM_eq (fun t t0 t1 => Or.inl ⟨rfl, (CF_t t0 t1).symm⟩) (fun t t0 t1 => Or.inl ⟨rfl, (CF1_t t0 t1).symm⟩)
theorem m_netOf {s : Int} {ow : Int → Int → Int} (hG : G σ u) (hn : rI σ 76 28 = n) (h9 : 0 ≤ n ∧ n ≤ 9) (hs : 0 ≤ s ∧ s < n) (how : ∀ i j : Int, 0 ≤ i → i < n → 0 ≤ j → j < n → rI σ (282 + i.toNat) j = ow i j ∧ (0 ≤ ow i j ∧ ow i j ≤ 100000)) : TI sc (d + 1) mX10_netOf [.ref 76, .int (nZ s)] σ (fun r σ1 => σ1 = σ ∧ r = sm (fun k => ow k s - ow s k) n.toNat) := by
  apply T.int
  apply t_X10_netOf hG (by omega)
  obtain ⟨P, hP⟩ : ∃ P : aO → aH → Prop, P = QI (fun r σ1 => σ1 = σ ∧ r = sm (fun k => ow k s - ow s k) n.toNat) := ⟨_, rfl⟩
  rw [← hP]
  have sb : ∀ k : Nat, (k : Int) ≤ n → -900000 ≤ sm (fun k => ow k s - ow s k) k ∧ sm (fun k => ow k s - ow s k) k ≤ 900000 := by
    intro k hk
    have := sm_bd (f := fun k => ow k s - ow s k) (lo := -100000) (hi := 100000) (n := k) (fun t t0 t1 => by
      have a := (how t s t0 (by omega) hs.1 hs.2).2
      have b := (how s t hs.1 hs.2 t0 (by omega)).2
      show -100000 ≤ ow t s - ow s t ∧ ow t s - ow s t ≤ 100000
      omega)
    omega
  have loop : ∀ (f k : Nat), n.toNat - k = f → (k : Int) ≤ n → L_X10_netOf_4 (Ev sc d) sc P s (sm (fun k => ow k s - ow s k) k) (k : Int) σ := by
    intro f
    induction f with
    | zero =>
      intro k hf hk
      have b := sb k hk
      apply v_X10_netOf_4 hG (by omega) (by omega) (by omega)
      refine ⟨fun _ => ?_, fun q => by omega⟩
      rw [hP, show k = n.toNat by omega]
      have b2 := sb n.toNat (by omega)
      exact ⟨_, rfl, by omega, rfl, rfl⟩
    | succ f ih =>
      intro k hf hk
      have b := sb k hk
      have x1 := how k s (by omega) (by omega) hs.1 hs.2
      have x2 := how s k hs.1 hs.2 (by omega) (by omega)
      apply v_X10_netOf_4 hG (by omega) (by omega) (by omega)
      rw [x1.1, x2.1]
      refine ⟨fun q => by omega, fun _ => ⟨by omega, by omega, by omega, by omega, by omega, by omega, fun z ez => ⟨by omega, ?_⟩⟩⟩
      have := ih (k + 1) (by omega) (by omega)
      rw [sm_succ] at this
      rw [ez]; exact this
  have := loop _ 0 rfl (by omega)
  rw [sm_0] at this
  exact this
theorem GainM {w s : Int} {S : Int → Int} {F G1 F2 G2 : Int → Int} {S2 : Int → Int} (hs : 0 ≤ s) (h : ∀ t : Int, 0 ≤ t → t < 1440 → (S t = S2 t ∧ F t = F2 t) ∨ ((S t = -1 ∨ F t = 0) ∧ (S2 t = -1 ∨ F2 t = 0))) (h1 : ∀ t : Int, 0 ≤ t → t < 1440 → (S t = S2 t ∧ G1 t = G2 t) ∨ ((S t = -1 ∨ G1 t = 0) ∧ (S2 t = -1 ∨ G2 t = 0))) : sm (fun k => Prc (FaM D n (-1) w) (D 6) S F G1 k s - Prc (FaM D n (-1) w) (D 6) S F G1 s k) n.toNat = GainD D n (-1) w S2 F2 G2 s := by
  refine sm_congr (fun k k0 k1 => ?_)
  rw [Prc_eq2 FaM_no h h1, Prc_eq2 FaM_no h h1, Prc_congr (fb := Falls D n (-1) w) (lb := D 6) (fun s' => FaM_iff k0 hs) rfl, Prc_congr (fa := FaM D n (-1) w) (fb := Falls D n (-1) w) (lb := D 6) (fun s' => FaM_iff hs k0) rfl]
theorem m_gainOf {s : Int} (hG : G σ u) (hM : Mf σ n (-1) W H D Es Er K fr va du fo) (hs : 0 ≤ s ∧ s < n) : TI sc (d + 6) mX10_gainOf [.ref 76, .int (nZ s)] σ (fun r σ1 => Fr AGo σ σ1 ∧ r = GainD D n (-1) (1 + rI σ 76 19) (sT Es fo) (CF Er) (CF1 Er du) s) := by
  have h9 := hM.1.1.2.1
  have hE := hM.1.2.2.2.2.2.2.2.2.2.2.2.2.2.2
  apply T.int
  apply t_X10_gainOf hG (by omega)
  obtain ⟨r, σ1, he1, hr1, hF1, hD1, -⟩ := m_dueNow (sc := sc) (d := d) hG hM
  have hn1 : rI σ1 76 28 = n := (hF1.rw (by omega) (by show ¬ ((261 ≤ 76 ∧ 76 ≤ 313) ∨ (76 = 76 ∧ ((28 : Int) = 36 ∨ (28 : Int) = 37))); omega)).trans hM.1.1.1
  obtain ⟨r2, σ2, he2, hr2, e2, h2⟩ := m_netOf (sc := sc) (d := d + 4) (s := s) (ow := fun i j => Prc (FaM D n (-1) (1 + rI σ 76 19)) (D 6) (sT Es fo) (aT Er 1) (fun t => cif (du ≤ t) (aT Er 1 t) 0) i j) (hF1.g hG) hn1 h9 hs (fun i j i0 i1 j0 j1 => ⟨(hD1.2.1 i j i0 i1 j0 j1).1, by
    have := Prc_bd (fa := FaM D n (-1) (1 + rI σ 76 19)) (la := D 6) (S := sT Es fo) (i := i) (j := j) (rate9 hE) (F9_cif (rate9 hE) (fun t => du ≤ t))
    exact ⟨this.1, Int.le_trans this.2 (by decide)⟩⟩)
  subst e2
  refine ⟨r, σ2, he1, hF1.g hG, hr1, r2, σ2, he2, hF1.g hG, hr2, ?_⟩
  refine ⟨r2, rfl, hr2, hF1, ?_⟩
  rw [h2]
  exact GainM hs.1 (fun t t0 t1 => Or.inl ⟨rfl, (CF_t t0 t1).symm⟩) (fun t t0 t1 => Or.inl ⟨rfl, (CF1_t t0 t1).symm⟩)
end
