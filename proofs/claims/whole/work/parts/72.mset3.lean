/-! THE REFERENCE: set, improved. -/
section
variable {sc : Nat × (Nat → Int32)} {d : Nat} {σ : aH} {u : Nat} {n W H : Int} {D : Nat → Int → Int} {Es Er : Nat → Option Int} {K : Int} {fr va : Int → Int} {du fo : Int}
theorem swb {s t : Int} (hSt : StB D n) (hDst : Dst D n) (hfld : Fld D n W H) (s0 : 0 ≤ s) (s1 : s < n) (t0 : 0 ≤ t) (t1 : t < n) (hst : s ≠ t) : StB (Dswap D s t) n ∧ Dst (Dswap D s t) n ∧ Fld (Dswap D s t) n W H := by
  have es : ∀ f : Nat, f ≤ 1 → ∀ i : Int, 0 ≤ i → i < n → (i = s → Dswap D s t f i = D f t) ∧ (i = t → Dswap D s t f i = D f s) ∧ (i ≠ s → i ≠ t → Dswap D s t f i = D f i) := by
    intro f hf i i0 i1
    have hff : f = 0 ∨ f = 1 := by omega
    refine ⟨fun e => ?_, fun e => ?_, fun e1 e2 => Dswap_ne (by omega)⟩
    · have := Dswap_s (D := D) (s := s) (t := t) (i := i) (by rw [e]) (by omega)
      rcases hff with rfl | rfl
      · exact this.1
      · exact this.2
    · have := Dswap_t (D := D) (s := s) (t := t) (i := i) (by rw [e])
      rcases hff with rfl | rfl
      · exact this.1
      · exact this.2
  refine ⟨hSt.swap ⟨s0, s1⟩ ⟨t0, t1⟩, ?_, ?_⟩
  · have pos : ∀ i : Int, 0 ≤ i → i < n → ∃ k : Int, (0 ≤ k ∧ k < n) ∧ Dswap D s t 0 i = D 0 k ∧ Dswap D s t 1 i = D 1 k ∧ ((i = s ∧ k = t) ∨ (i = t ∧ k = s) ∨ (i ≠ s ∧ i ≠ t ∧ k = i)) := by
      intro i i0 i1
      by_cases c1 : i = s
      · exact ⟨t, ⟨t0, t1⟩, (es 0 (by omega) i i0 i1).1 c1, (es 1 (by omega) i i0 i1).1 c1, Or.inl ⟨c1, rfl⟩⟩
      · by_cases c2 : i = t
        · exact ⟨s, ⟨s0, s1⟩, (es 0 (by omega) i i0 i1).2.1 c2, (es 1 (by omega) i i0 i1).2.1 c2, Or.inr (Or.inl ⟨c2, rfl⟩)⟩
        · exact ⟨i, ⟨i0, i1⟩, (es 0 (by omega) i i0 i1).2.2 c1 c2, (es 1 (by omega) i i0 i1).2.2 c1 c2, Or.inr (Or.inr ⟨c1, c2, rfl⟩)⟩
    intro x y i j hi hj
    obtain ⟨p, p0, p1, p2, p3⟩ := pos i hi.1 hi.2.1
    obtain ⟨q, q0, q1, q2, q3⟩ := pos j hj.1 hj.2.1
    have e := hDst x y p q ⟨p0.1, p0.2, by rw [← p1]; exact hi.2.2.1, by rw [← p2]; exact hi.2.2.2⟩ ⟨q0.1, q0.2, by rw [← q1]; exact hj.2.2.1, by rw [← q2]; exact hj.2.2.2⟩
    clear pos p1 p2 q1 q2 hi hj
    omega
  · intro i i0 i1
    by_cases c1 : i = s
    · rw [(es 0 (by omega) i i0 i1).1 c1, (es 1 (by omega) i i0 i1).1 c1]; exact hfld t t0 t1
    · by_cases c2 : i = t
      · rw [(es 0 (by omega) i i0 i1).2.1 c2, (es 1 (by omega) i i0 i1).2.1 c2]; exact hfld s s0 s1
      · rw [(es 0 (by omega) i i0 i1).2.2 c1 c2, (es 1 (by omega) i i0 i1).2.2 c1 c2]; exact hfld i i0 i1
theorem m_savesB (hG : G σ u) : TV sc (d + 1) mX10_saves [.ref 76, .ref 318, .ref 319] σ (fun σ1 => Fr (fun a _ => a = 318 ∨ a = 319) σ σ1 ∧ ∀ i : Int, 0 ≤ i → i < 9 → rI σ1 318 i = Dm (rI σ) 0 i ∧ rI σ1 319 i = Dm (rI σ) 1 i) := by
  apply T.void
  apply t_X10_savesB hG
  obtain ⟨P, hP⟩ : ∃ P : aO → aH → Prop, P = QV (fun σ1 => Fr (fun a _ => a = 318 ∨ a = 319) σ σ1 ∧ ∀ i : Int, 0 ≤ i → i < 9 → rI σ1 318 i = Dm (rI σ) 0 i ∧ rI σ1 319 i = Dm (rI σ) 1 i) := ⟨_, rfl⟩
  rw [← hP]
  have loop : ∀ (f : Nat) (k : Int) (τ : aH), (9 - k).toNat = f → 0 ≤ k → k ≤ 9 → Fr (fun a _ => a = 318 ∨ a = 319) σ τ → (∀ i : Int, 0 ≤ i → i < k → rI τ 318 i = Dm (rI σ) 0 i ∧ rI τ 319 i = Dm (rI σ) 1 i) → L_X10_savesB_2 (Ev sc d) sc P k τ := by
    intro f
    induction f with
    | zero =>
      intro k τ hf k0 k1 hF hi
      apply v_X10_savesB_2 (hF.g hG) (by omega)
      refine ⟨fun _ => ?_, fun q => by omega⟩
      rw [hP]; exact ⟨rfl, hF, fun i a b => hi i a (by omega)⟩
    | succ f ih =>
      intro k τ hf k0 k1 hF hi
      have e0 : rI τ (91 + k.toNat) 0 = Dm (rI σ) 0 k := (hF.rw (by omega) (by show ¬ (91 + k.toNat = 318 ∨ 91 + k.toNat = 319); omega)).trans (Dm_at (by omega)).symm
      apply v_X10_savesB_2 (hF.g hG) (by omega)
      refine ⟨fun q => by omega, fun _ => ⟨by omega, by omega, fun σ2 e2 => ⟨by omega, by omega, fun σ6 e6 => ⟨by omega, ih (k + 1) σ6 (by omega) (by omega) (by omega) ?_ (fun i a b => ?_)⟩⟩⟩⟩
      · rw [← e6, ← e2]; exact (hF.trans (Fr.w k0 (Or.inl rfl))).trans (Fr.w k0 (Or.inr rfl))
      · have e1 : rI σ2 (91 + k.toNat) 1 = Dm (rI σ) 1 k := by rw [← e2, rI_wa (by omega)]; exact (hF.rw (by omega) (by show ¬ (91 + k.toNat = 318 ∨ 91 + k.toNat = 319); omega)).trans (Dm_at (by omega)).symm
        by_cases c : i = k
        · rw [c]
          exact ⟨by rw [← e6, rI_wa (by omega), ← e2, rI_ww (rI_R _ _ _)]; exact e0, by rw [← e6, rI_ww (rI_R _ _ _)]; exact e1⟩
        · exact ⟨by rw [← e6, rI_wa (by omega), ← e2, rI_wi (by omega)]; exact (hi i a (by omega)).1, by rw [← e6, rI_wi (by omega), ← e2, rI_wa (by omega)]; exact (hi i a (by omega)).2⟩
  exact loop _ 0 σ rfl (by omega) (by omega) (Fr.refl _ _) (fun i a b => by omega)
theorem m_setsBackB (hG : G σ u) (hDn : ∀ (f : Nat) (i : Int), D f i = D f (i.toNat : Int)) (hs : ∀ i : Int, 0 ≤ i → i < 9 → rI σ 318 i = D 0 i ∧ rI σ 319 i = D 1 i) (hD : ∀ (f : Nat) (i : Int), ¬ (f ≤ 1 ∧ i.toNat < 9) → Dm (rI σ) f i = D f i) : TV sc (d + 1) mX10_setsBack [.ref 76, .ref 318, .ref 319] σ (fun σ1 => Fr (fun a _ => 91 ≤ a ∧ a ≤ 99) σ σ1 ∧ Dm (rI σ1) = D) := by
  apply T.void
  apply t_X10_setsBackB hG
  obtain ⟨P, hP⟩ : ∃ P : aO → aH → Prop, P = QV (fun σ1 => Fr (fun a _ => 91 ≤ a ∧ a ≤ 99) σ σ1 ∧ Dm (rI σ1) = D) := ⟨_, rfl⟩
  rw [← hP]
  have loop : ∀ (f : Nat) (k : Int) (τ : aH), (9 - k).toNat = f → 0 ≤ k → k ≤ 9 → Fr (fun a _ => 91 ≤ a ∧ a ≤ 99) σ τ → (∀ (f : Nat) (i : Int), ¬ (f ≤ 1 ∧ k.toNat ≤ i.toNat ∧ i.toNat < 9) → Dm (rI τ) f i = D f i) → L_X10_setsBackB_2 (Ev sc d) sc P k τ := by
    intro f
    induction f with
    | zero =>
      intro k τ hf k0 k1 hF hi
      apply v_X10_setsBackB_2 (hF.g hG) (by omega)
      refine ⟨fun _ => ?_, fun q => by omega⟩
      rw [hP]; exact ⟨rfl, hF, funext (fun f => funext (fun i => hi f i (by omega)))⟩
    | succ f ih =>
      intro k τ hf k0 k1 hF hi
      have e0 : rI τ 318 k = D 0 k := (hF.rw k0 (by show ¬ (91 ≤ 318 ∧ 318 ≤ 99); omega)).trans (hs k k0 (by omega)).1
      have e1 : rI τ 319 k = D 1 k := (hF.rw k0 (by show ¬ (91 ≤ 319 ∧ 319 ≤ 99); omega)).trans (hs k k0 (by omega)).2
      apply v_X10_setsBackB_2 (hF.g hG) (by omega)
      rw [e0]
      refine ⟨fun q => by omega, fun _ => ⟨by omega, by omega, fun σ2 e2 => ⟨by omega, by omega, ?_⟩⟩⟩
      have r0 : inR (D 0 k) := by rw [← e0]; exact rI_R _ _ _
      have r1 : inR (D 1 k) := by rw [← e1]; exact rI_R _ _ _
      have e1' : rI σ2 319 k = D 1 k := by rw [← e2, rI_wa (by omega)]; exact e1
      rw [e1']
      refine fun σ6 e6 => ⟨by omega, ih (k + 1) σ6 (by omega) (by omega) (by omega) ?_ (fun f' i hfi => ?_)⟩
      · rw [← e6, ← e2]; exact (hF.trans (Fr.w (by omega) ⟨by omega, by omega⟩)).trans (Fr.w (by omega) ⟨by omega, by omega⟩)
      · have g2 : Dm (rI σ2) = Dset (Dm (rI τ)) 0 k (D 0 k) := by rw [← e2]; exact Dm_w (f := 0) (by omega) r0
        have g6 : Dm (rI σ6) = Dset (Dm (rI σ2)) 1 k (D 1 k) := by rw [← e6]; exact Dm_w (f := 1) (by omega) r1
        rw [g6, g2]
        by_cases c : f' ≤ 1 ∧ i.toNat = k.toNat
        · have : f' = 0 ∨ f' = 1 := by omega
          have ei : ∀ q : Nat, D q i = D q k := fun q => by rw [hDn q i, hDn q k, c.2]
          rcases this with rfl | rfl
          · rw [Dset_ne (by omega), Dset_eq c.2, ei]
          · rw [Dset_eq c.2, ei]
        · rw [Dset_ne (by omega), Dset_ne (by omega)]; exact hi f' i (by omega)
  exact loop _ 0 σ rfl (by omega) (by omega) (Fr.refl _ _) (fun f i hfi => hD f i (by omega))
/-- what setting changes -/
abbrev ASs : Nat → Int → Prop := fun a i => ASt a i ∨ (a = 316 ∨ a = 317) ∨ (a = 76 ∧ i = 0)
theorem m_setG {st wh : Int} {Sel : Int → Prop} {R : Int → Int → Prop} (hG : G σ u) (hM : Mf σ n (-1) W H D Es Er K fr va du fo) (h8 : n ≤ 8) (h2 : rI σ 80 2 = n) (hst : 1 ≤ st ∧ st < 2 ^ n.toNat) (hon : sm (fun k => bt st k) 24 ≤ 2) (hw : wh = 0 ∨ wh = 1) (hsel : ∀ i : Int, 0 ≤ i → i < n → (bt st i ≠ 0 ↔ Sel i))
    (hput : ∀ σ0 τ : aH, G σ0 u → Mf σ0 n (-1) W H D Es Er K fr va du fo → rI σ0 76 19 = rI σ 76 19 → Fr ASt σ0 τ → (∀ (f : Nat) (i : Int), ¬ (f ≤ 1 ∧ i.toNat < n.toNat ∧ Sel (i.toNat : Int)) → Dm (rI τ) f i = D f i) → (∀ i : Int, 0 ≤ i → i < n → Sel i → Dm (rI τ) 0 i = -9) → rI τ 76 42 = -1 → TV sc (d + 8) mX10_puts [.ref 76, .int (nZ st), .int (nZ 0), .int (nZ 0)] τ (fun τ1 => Fr ASt σ0 τ1 ∧ (∀ (f : Nat) (i : Int), ¬ (f ≤ 1 ∧ i.toNat < 9) → Dm (rI τ1) f i = D f i) ∧ ∃ v c : Int, VB τ1 v c ∧ R v c)) (hR : ∀ v c : Int, R v c → c ≠ -1) :
    TI sc (d + 9) mX10_set [.ref 76, .int (nZ st), .int (nZ wh)] σ (fun r σ1 => Fr ASs σ σ1 ∧ rI σ1 76 0 = 0 ∧ Dm (rI σ1) = D ∧ ∃ v c : Int, R v c ∧ r = if wh = 0 then v else c) := by
  have h9 := hM.1.1.2.1
  have hDm : D = Dm (rI σ) := hM.1.2.1
  have hDn : ∀ (f : Nat) (i : Int), D f i = D f (i.toNat : Int) := fun f i => by rw [hDm]; exact Dm_tn _ _ _
  have pb : ∀ k : Nat, k ≤ 8 → (1 : Int) ≤ 2 ^ k ∧ (2 : Int) ^ k ≤ 256 := by decide +kernel
  have hpb := pb n.toNat (by omega)
  apply T.int
  apply t_X10_set hG (by omega) (by omega)
  intro σ1 e1
  have t1 : rI σ1 76 0 = 0 := by rw [← e1]; exact rI_ww (by decide)
  have hF01 : Fr (fun a i => a = 76 ∧ i = 0) σ σ1 := by rw [← e1]; exact Fr.w (by omega) ⟨rfl, rfl⟩
  have nA0 : ∀ (a : Nat) (i : Int), (80 ≤ a ∧ a ≤ 259) ∨ (a = 76 ∧ i ≠ 0) → ¬ (fun (a : Nat) (i : Int) => a = 76 ∧ i = 0) a i := fun a i z => by show ¬ (a = 76 ∧ i = 0); omega
  have hG1 := hF01.g hG
  have hM1 : Mf σ1 n (-1) W H D Es Er K fr va du fo := hM.frm hF01 (fun a i z => nA0 a i (by omega)) (fun i z => nA0 76 i (by omega))
  have w1 : rI σ1 76 19 = rI σ 76 19 := hF01.rw (by omega) (nA0 _ _ (by omega))
  have h21 : rI σ1 80 2 = n := (hF01.rw (by omega) (nA0 _ _ (by omega))).trans h2
  rw [h21, zShl_1 h9.1 (by omega)]
  obtain ⟨P, hP⟩ : ∃ P : aO → aH → Prop, P = QI (fun r σ1 => Fr ASs σ σ1 ∧ rI σ1 76 0 = 0 ∧ Dm (rI σ1) = D ∧ ∃ v c : Int, R v c ∧ r = if wh = 0 then v else c) := ⟨_, rfl⟩
  rw [← hP]
  obtain ⟨σ25, he25, hF25, hs25⟩ := m_savesA (sc := sc) (d := d + 7) hG1
  have nS : ∀ (a : Nat) (i : Int), a < 316 → ¬ (fun (a : Nat) (_ : Int) => a = 316 ∨ a = 317) a i := fun a i z => by show ¬ (a = 316 ∨ a = 317); omega
  have hM25 : Mf σ25 n (-1) W H D Es Er K fr va du fo := hM1.frm hF25 (fun a i z => nS a i (by omega)) (fun i z => nS 76 i (by omega))
  have w25 : rI σ25 76 19 = rI σ 76 19 := (hF25.rw (by omega) (nS _ 19 (by omega))).trans w1
  have t25 : rI σ25 76 0 = 0 := (hF25.rw (by omega) (nS _ 0 (by omega))).trans t1
  rw [← hM1.1.2.1] at hs25
  have hG25 := hF25.g hG1
  have hF025 : Fr ASs σ σ25 := (hF01.weak (fun a i z => Or.inr (Or.inr z))).trans (hF25.weak (fun a i z => Or.inr (Or.inl z)))
  have loop : ∀ (f : Nat) (k : Int) (τ : aH), (n - k).toNat = f → 0 ≤ k → k ≤ n → Fr ASt σ25 τ → (∀ (f : Nat) (i : Int), ¬ (f ≤ 1 ∧ i.toNat < k.toNat ∧ Sel (i.toNat : Int)) → Dm (rI τ) f i = D f i) → (∀ i : Int, 0 ≤ i → i < k → Sel i → Dm (rI τ) 0 i = -9) → L_X10_set_70 (Ev sc (d + 8)) sc P st wh k τ := by
    intro f
    induction f with
    | zero =>
      intro k τ hf k0 k1 hF hDt h9s
      have kn := (hM25.1.1.st hF).1
      have ek : k = n := by omega
      rw [ek] at hDt h9s
      apply v_X10_set_70 (hF.g hG25) (by omega) (by omega) (by omega)
      refine ⟨fun _ σ2 e2 => ?_, fun q => by omega⟩
      have hF2 : Fr ASt σ25 σ2 := by rw [← e2]; exact hF.trans (Fr.w (by omega) (Or.inr (Or.inr ⟨rfl, by omega⟩)))
      have hD2 : Dm (rI σ2) = Dm (rI τ) := by rw [← e2]; exact Dm_o (by omega)
      obtain ⟨σ4, he4, hF4, hD4, v, c, hv, hr⟩ := hput σ25 σ2 hG25 hM25 w25 hF2 (fun f i z => by rw [hD2]; exact hDt f i z) (fun i a b z => by rw [hD2]; exact h9s i a b z) (by rw [← e2]; exact rI_ww (by decide))
      have hs4 : ∀ i : Int, 0 ≤ i → i < 9 → rI σ4 316 i = D 0 i ∧ rI σ4 317 i = D 1 i := fun i a b => by
        rw [hF4.rw a (ASt1 _ _ (by omega)), hF4.rw a (ASt1 _ _ (by omega))]; exact hs25 i a b
      obtain ⟨σ8, he8, hF8, hD8⟩ := m_setsBackA (sc := sc) (d := d + 7) (D := D) (hF4.g hG25) hDn hs4 hD4
      have nB : ∀ i : Int, ¬ (fun (a : Nat) (_ : Int) => 91 ≤ a ∧ a ≤ 99) 76 i := fun i => by show ¬ (91 ≤ 76 ∧ 76 ≤ 99); omega
      have e42 : rI σ8 76 42 = rI σ4 76 42 := hF8.rw (by omega) (nB 42)
      have e43 : rI σ8 76 43 = rI σ4 76 43 := hF8.rw (by omega) (nB 43)
      have hFall : Fr ASs σ σ8 := (hF025.trans (hF4.weak (fun a i z => Or.inl z))).trans (hF8.weak (fun a i z => Or.inl (Or.inl z)))
      have t8 : rI σ8 76 0 = 0 := (hF8.rw (by omega) (nB 0)).trans ((hF4.rw (by omega) (ASt2 _ (by omega))).trans t25)
      have hc := hR v c hr
      have hvv : rI σ4 76 42 = v ∧ rI σ4 76 43 = c := by
        rcases hv with z | z
        · exact absurd z.2.2 hc
        · exact ⟨z.1, z.2.1⟩
      rw [hP]
      refine ⟨σ4, he4, hF4.g hG25, σ8, he8, hFall.g hG, fun z => ⟨_, rfl, rI_R _ _ _, hFall, t8, hD8, v, c, hr, ?_⟩, fun z => ⟨_, rfl, rI_R _ _ _, hFall, t8, hD8, v, c, hr, ?_⟩⟩
      · rw [if_neg z, e43]; exact hvv.2
      · rw [if_pos z, e42]; exact hvv.1
    | succ f ih =>
      intro k τ hf k0 k1 hF hDt h9s
      have kn := (hM25.1.1.st hF).1
      have b01 := bt_01 st k
      have hk := hsel k k0 (by omega)
      apply v_X10_set_70 (hF.g hG25) (by omega) (by omega) (by omega)
      rw [z_bt (by omega) k0 (by omega)]
      refine ⟨fun q => by omega, fun _ => ⟨fun z => ⟨by omega, ih (k + 1) τ (by omega) (by omega) (by omega) hF (fun f i hfi => ?_) (fun i a b c => ?_)⟩, fun z => ⟨by omega, fun σ14 e14 => ⟨by omega, ih (k + 1) σ14 (by omega) (by omega) (by omega) ?_ (fun f i hfi => ?_) (fun i a b c => ?_)⟩⟩⟩⟩
      · exact hDt f i (fun y => hfi ⟨y.1, by omega, y.2.2⟩)
      · by_cases y : i = k
        · rw [y] at c; exact absurd (hk.mpr c) (by omega)
        · exact h9s i a (by omega) c
      · rw [← e14]; exact hF.trans (Fr.w (by omega) (Or.inl ⟨by omega, by omega⟩))
      · have hS : Sel k := hk.mp (by omega)
        have g : Dm (rI σ14) = Dset (Dm (rI τ)) 0 k (-9) := by rw [← e14]; exact Dm_w (f := 0) (by omega) (by decide)
        have ne : ¬ (f = 0 ∧ i.toNat = k.toNat) := fun y => hfi ⟨by omega, by omega, by rw [y.2, show ((k.toNat : Nat) : Int) = k by omega]; exact hS⟩
        rw [g, Dset_ne ne]
        exact hDt f i (fun y => hfi ⟨y.1, by omega, y.2.2⟩)
      · have g : Dm (rI σ14) = Dset (Dm (rI τ)) 0 k (-9) := by rw [← e14]; exact Dm_w (f := 0) (by omega) (by decide)
        rw [g]
        by_cases y : i = k
        · rw [y]; exact Dset_eq rfl
        · rw [Dset_ne (by omega)]; exact h9s i a (by omega) c
  obtain ⟨r9, σ5, he5, hr5, e5, h5⟩ := m_in (sc := sc) (d := d + 7) (x := st) (lo := 1) (hi := 2 ^ n.toNat - 1) hG1 (by omega) (by decide) (by omega)
  subst e5
  obtain ⟨r14, σ10, he10, hr10, e10, h10⟩ := m_ones (sc := sc) (d := d + 7) (b := st) hG1 (by omega)
  subst e10
  obtain ⟨r19, σ15, he15, hr15, e15, h15⟩ := m_in (sc := sc) (d := d + 7) (x := wh) (lo := 0) (hi := 1) hG1 (by omega) (by decide) (by decide)
  subst e15
  refine ⟨by omega, r9, σ15, he5, hG1, hr5, fun z => by omega, fun _ => ⟨r14, σ15, he10, hG1, hr10, fun z => by omega, fun _ => ⟨r19, σ15, he15, hG1, hr15, fun _ => ⟨0, σ15, m_bad0 hG1 t1 (by decide) (by decide), hG1, by decide, fun _ => ⟨σ25, he25, hG25, ?_⟩, fun z => absurd rfl z⟩, fun z => by omega⟩⟩⟩
  exact loop _ 0 σ25 rfl (by omega) (by omega) (Fr.refl _ _) (fun f i _ => by rw [← hM25.1.2.1]) (fun i a b => by omega)
theorem m_set1 {st wh one : Int} (hG : G σ u) (hM : Mf σ n (-1) W H D Es Er K fr va du fo) (h8 : n ≤ 8) (h2 : rI σ 80 2 = n) (hst : 1 ≤ st ∧ st < 2 ^ n.toNat) (hon : sm (fun k => bt st k) 24 ≤ 2) (hw : wh = 0 ∨ wh = 1) (h1 : 0 ≤ one ∧ one < n) (hsel : ∀ i : Int, 0 ≤ i → i < n → (bt st i ≠ 0 ↔ i = one)) : TI sc (d + 9) mX10_set [.ref 76, .int (nZ st), .int (nZ wh)] σ (fun r σ1 => Fr ASs σ σ1 ∧ rI σ1 76 0 = 0 ∧ Dm (rI σ1) = D ∧ ∃ v c : Int, BestS (SetC1 D n W H one) (SetV1 D n (-1) (1 + rI σ 76 19) (sT Es fo) (CF Er) (CF1 Er du) one) 1000000000 v c ∧ r = if wh = 0 then v else c) := by
  have h9 := hM.1.1.2.1
  have hWH := hM.1.2.2.2.2.2.2.1
  have hSt := hM.1.2.2.1
  have hDst := hM.1.2.2.2.1
  have hfld : Fld D n W H := hM.1.2.2.2.2.1
  have hE := hM.1.2.2.2.2.2.2.2.2.2.2.2.2.2.2
  have pb : ∀ k : Nat, k ≤ 8 → (1 : Int) ≤ 2 ^ k ∧ (2 : Int) ^ k ≤ 256 := by decide +kernel
  have hpb := pb n.toNat (by omega)
  refine m_setG (Sel := fun i => i = one) (R := fun v c => BestS (SetC1 D n W H one) (SetV1 D n (-1) (1 + rI σ 76 19) (sT Es fo) (CF Er) (CF1 Er du) one) 1000000000 v c) hG hM h8 h2 hst hon hw hsel (fun σ0 τ hG0 hM0 hw0 hF hDt h9s h42 => ?_) (fun v c hr hc => ?_)
  · rw [← hw0]
    obtain ⟨τ1, he, hF1, hD1, -, v, c, hv, hb⟩ := m_lvl1 (sc := sc) (d := d + 1) (τ0 := τ) (st := st) (f := 0) (s := one) (dg := 0) (val := 1000000000) (code := -1) (E := D) (Cand := SetC1 D n W H one) (V := SetV1 D n (-1) (1 + rI σ0 76 19) (sT Es fo) (CF Er) (CF1 Er du) one) hG0 hM0 hF (by omega) (by omega) h1 (by omega) (fun i i0 i1 => hsel i i0 i1) (fun f i hfi => hDt f i (fun y => hfi ⟨y.1, by have := y.2.2; omega⟩)) (h9s one h1.1 h1.2 rfl) (fun x y x0 x1 y0 y1 hfr => ⟨hSt.put (by omega) (by omega), Dst_put h1.1 (fun x' y' i j _ _ hi hj => hDst x' y' i j hi hj) hfr, Fld_put (fun i i0 i1 _ => hfld i i0 i1) h1.1 x1 y1⟩) (fun x y x0 x1 y0 y1 => by
      unfold SetC1
      rw [show (100 * 0 + x + 10 * y) % 10 = x by omega, show (100 * 0 + x + 10 * y) / 10 = y by omega]
      exact ⟨fun q => q.2, fun q => ⟨by omega, q⟩⟩) (fun x y x0 x1 y0 y1 => by
      unfold SetV1
      rw [show (100 * 0 + x + 10 * y) % 10 = x by omega, show (100 * 0 + x + 10 * y) / 10 = y by omega]) (Or.inl ⟨h42, rfl, rfl⟩) (BestS.start (fun c hc => by have := hc.1; omega))
    refine ⟨τ1, he, hF1, fun f i hfi => hD1 f i (by omega), v, c, hv, hb.done (fun q hq => ?_)⟩
    obtain ⟨a, b, e, -⟩ := hq
    omega
  · rcases hr with ⟨-, -, z⟩ | z
    · have f1 := hfld one h1.1 h1.2
      have s1 := hSt.2 one h1.1 h1.2
      have e1 : (D 0 one + 10 * D 1 one) % 10 = D 0 one := by omega
      have e2 : (D 0 one + 10 * D 1 one) / 10 = D 1 one := by omega
      have := z (D 0 one + 10 * D 1 one) ⟨by omega, by omega, by omega, fun k hk ha => hk (hDst _ _ k one ha ⟨h1.1, h1.2, by rw [e1], by rw [e2]⟩)⟩
      have bd := DueD_bd (D := Dput D one ((D 0 one + 10 * D 1 one) % 10) ((D 0 one + 10 * D 1 one) / 10)) (gone := -1) (w := 1 + rI σ 76 19) (S := sT Es fo) h9.2 (CF9 hE) (CF19 (du := du) hE)
      unfold SetV1 at this
      omega
    · have := z.1.1; omega
theorem m_set2 {st wh a b : Int} (hG : G σ u) (hM : Mf σ n (-1) W H D Es Er K fr va du fo) (h8 : n ≤ 8) (h2 : rI σ 80 2 = n) (hst : 1 ≤ st ∧ st < 2 ^ n.toNat) (hon : sm (fun k => bt st k) 24 ≤ 2) (hw : wh = 0 ∨ wh = 1) (ha : 0 ≤ a ∧ a < b) (hb : b < n) (hsel : ∀ i : Int, 0 ≤ i → i < n → (bt st i ≠ 0 ↔ i = a ∨ i = b)) : TI sc (d + 9) mX10_set [.ref 76, .int (nZ st), .int (nZ wh)] σ (fun r σ1 => Fr ASs σ σ1 ∧ rI σ1 76 0 = 0 ∧ Dm (rI σ1) = D ∧ ∃ v c : Int, BestS (SetC2 D n W H a b) (SetV2 D n (-1) (1 + rI σ 76 19) (sT Es fo) (CF Er) (CF1 Er du) a b) 1000000000 v c ∧ r = if wh = 0 then v else c) := by
  have h9 := hM.1.1.2.1
  have hSt := hM.1.2.2.1
  have hDst := hM.1.2.2.2.1
  have hfld : Fld D n W H := hM.1.2.2.2.2.1
  have hE := hM.1.2.2.2.2.2.2.2.2.2.2.2.2.2.2
  have pb : ∀ k : Nat, k ≤ 8 → (1 : Int) ≤ 2 ^ k ∧ (2 : Int) ^ k ≤ 256 := by decide +kernel
  have hpb := pb n.toNat (by omega)
  refine m_setG (Sel := fun i => i = a ∨ i = b) (R := fun v c => BestS (SetC2 D n W H a b) (SetV2 D n (-1) (1 + rI σ 76 19) (sT Es fo) (CF Er) (CF1 Er du) a b) 1000000000 v c) hG hM h8 h2 hst hon hw hsel (fun σ0 τ hG0 hM0 hw0 hF hDt h9s h42 => ?_) (fun v c hr hc => ?_)
  · rw [← hw0]
    obtain ⟨τ1, he, hF1, hD1, v, c, hv, hbs⟩ := m_lvl2 (sc := sc) (d := d) (τ0 := τ) (st := st) (a := a) (b := b) (val := 1000000000) (code := -1) hG0 hM0 hF (by omega) ha hb hsel (fun f i hfi => hDt f i (fun y => hfi ⟨y.1, by have := y.2.2; omega⟩)) (h9s a ha.1 (by omega) (Or.inl rfl)) (h9s b (by omega) hb (Or.inr rfl)) (Or.inl ⟨h42, rfl, rfl⟩) (BestS.start (fun c hc => by have := hc.1; omega))
    exact ⟨τ1, he, hF1, fun f i hfi => hD1 f i (by omega), v, c, hv, hbs⟩
  · rcases hr with ⟨-, -, z⟩ | z
    · have f1 := hfld a ha.1 (by omega)
      have s1 := hSt.2 a ha.1 (by omega)
      have f2 := hfld b (by omega) hb
      have s2 := hSt.2 b (by omega) hb
      obtain ⟨q, hq⟩ : ∃ q : Int, q = 100 * (D 0 a + 10 * D 1 a) + D 0 b + 10 * D 1 b := ⟨_, rfl⟩
      have e1 : q / 100 % 10 = D 0 a := by omega
      have e2 : q / 1000 = D 1 a := by omega
      have e3 : q % 10 = D 0 b := by omega
      have e4 : q / 10 % 10 = D 1 b := by omega
      have := z q ⟨by omega, ⟨by omega, by omega⟩, ⟨by omega, by omega⟩, fun k ka kb hk => ka (hDst _ _ k a hk ⟨ha.1, by omega, by rw [e1], by rw [e2]⟩), fun k ka kb hk => kb (hDst _ _ k b hk ⟨by omega, hb, by rw [e3], by rw [e4]⟩), fun hne => ?_⟩
      · have bd := DueD_bd (D := Dput (Dput D a (q / 100 % 10) (q / 1000)) b (q % 10) (q / 10 % 10)) (gone := -1) (w := 1 + rI σ 76 19) (S := sT Es fo) h9.2 (CF9 hE) (CF19 (du := du) hE)
        unfold SetV2 at this
        omega
      · have z1 : q / 100 = D 0 a + 10 * D 1 a := by omega
        have z2 : q % 100 = D 0 b + 10 * D 1 b := by omega
        have z3 : D 0 a + 10 * D 1 a = D 0 b + 10 * D 1 b := by rw [← z1, ← z2]; exact hne
        clear e1 e2 e3 e4 z1 z2 hne hq
        have := hDst (D 0 a) (D 1 a) a b ⟨ha.1, by omega, rfl, rfl⟩ ⟨by omega, hb, by omega, by omega⟩
        omega
    · have := z.1.1; omega
/-- what improving changes -/
abbrev ASi : Nat → Int → Prop := fun a i => AMp a i ∨ (a = 318 ∨ a = 319) ∨ (a = 76 ∧ i = 0)
theorem m_improved {wh : Int} (hG : G σ u) (hM : Mf σ n (-1) W H D Es Er K fr va du fo) (h8 : n ≤ 8) (hw : wh = 0 ∨ wh = 1) : TI sc (d + 8) mX10_improved [.ref 76, .int (nZ wh)] σ (fun r σ1 => Fr ASi σ σ1 ∧ rI σ1 76 0 = 0 ∧ Dm (rI σ1) = D ∧ ∃ (k : Nat) (v : Int), Imp n (-1) (1 + rI σ 76 19) (sT Es fo) (CF Er) (CF1 Er du) k D v ∧ r = if wh = 0 then (k : Int) else v) := by
  have h9 := hM.1.1.2.1
  have hDm : D = Dm (rI σ) := hM.1.2.1
  have hDn : ∀ (f : Nat) (i : Int), D f i = D f (i.toNat : Int) := fun f i => by rw [hDm]; exact Dm_tn _ _ _
  apply T.int
  apply t_X10_improved hG (by omega)
  intro σ1 e1
  have t1 : rI σ1 76 0 = 0 := by rw [← e1]; exact rI_ww (by decide)
  have hF01 : Fr (fun a i => a = 76 ∧ i = 0) σ σ1 := by rw [← e1]; exact Fr.w (by omega) ⟨rfl, rfl⟩
  have nA0 : ∀ (a : Nat) (i : Int), (80 ≤ a ∧ a ≤ 259) ∨ (a = 76 ∧ i ≠ 0) → ¬ (fun (a : Nat) (i : Int) => a = 76 ∧ i = 0) a i := fun a i z => by show ¬ (a = 76 ∧ i = 0); omega
  have hG1 := hF01.g hG
  have hM1 : Mf σ1 n (-1) W H D Es Er K fr va du fo := hM.frm hF01 (fun a i z => nA0 a i (by omega)) (fun i z => nA0 76 i (by omega))
  have w1 : rI σ1 76 19 = rI σ 76 19 := hF01.rw (by omega) (nA0 _ _ (by omega))
  obtain ⟨w, hwe⟩ : ∃ w : Int, w = 1 + rI σ 76 19 := ⟨_, rfl⟩
  rw [← hwe]
  obtain ⟨σ6, he6, hF6, hs6⟩ := m_savesB (sc := sc) (d := d + 6) hG1
  rw [← hM1.1.2.1] at hs6
  have nS : ∀ (a : Nat) (i : Int), a < 318 → ¬ (fun (a : Nat) (_ : Int) => a = 318 ∨ a = 319) a i := fun a i z => by show ¬ (a = 318 ∨ a = 319); omega
  have hM6 : Mf σ6 n (-1) W H D Es Er K fr va du fo := hM1.frm hF6 (fun a i z => nS a i (by omega)) (fun i z => nS 76 i (by omega))
  have w6 : rI σ6 76 19 = rI σ 76 19 := (hF6.rw (by omega) (nS _ 19 (by omega))).trans w1
  have t6 : rI σ6 76 0 = 0 := (hF6.rw (by omega) (nS _ 0 (by omega))).trans t1
  have hG6 := hF6.g hG1
  have hF06 : Fr ASi σ σ6 := (hF01.weak (fun a i z => Or.inr (Or.inr z))).trans (hF6.weak (fun a i z => Or.inr (Or.inl z)))
  obtain ⟨P, hP⟩ : ∃ P : aO → aH → Prop, P = QI (fun r σ1 => Fr ASi σ σ1 ∧ rI σ1 76 0 = 0 ∧ Dm (rI σ1) = D ∧ ∃ (k : Nat) (v : Int), Imp n (-1) w (sT Es fo) (CF Er) (CF1 Er du) k D v ∧ r = if wh = 0 then (k : Int) else v) := ⟨_, rfl⟩
  rw [← hP]
  obtain ⟨j, v, hj, hI⟩ := imp_ex (gone := -1) (w := w) (S := sT Es fo) (F := CF Er) (F1 := CF1 Er du) D (n := n) (by omega)
  have loop : ∀ (k : Nat) (cnt e val : Int) (D1 : Nat → Int → Int) (τ : aH), cnt = (j : Int) - k → k ≤ j → inR e → Fr AMp σ6 τ → Dm (rI τ) = D1 → StB D1 n → Dst D1 n → Fld D1 n W H → (∀ (f : Nat) (i : Int), ¬ (f ≤ 1 ∧ i.toNat < 9) → D1 f i = D f i) → ExS D1 n (-1) w (sT Es fo) (CF Er) (CF1 Er du) val e → Imp n (-1) w (sT Es fo) (CF Er) (CF1 Er du) k D1 v → L_X10_improved_49 (Ev sc (d + 7)) sc P wh cnt e τ := by
    intro k
    induction k with
    | zero =>
      intro cnt e val D1 τ hc hk hr hF hDt b1 b2 b3 hfar hx hi
      have hq := BestS.uniq hx hi
      have hMt := hM6.amp hF hDt b1 b2 b3
      obtain ⟨r5, σ2, he2, hr2, hF2, -, h2⟩ := m_dueNow (sc := sc) (d := d + 2) (hF.g hG6) hMt
      have wt : 1 + rI τ 76 19 = w := by rw [hF.rw (by omega) (AMp2 _ (by omega)), w6, hwe]
      rw [wt] at h2
      have hF2' : Fr AMp σ6 σ2 := hF.trans (hF2.weak AGo_AMp)
      have nP : ∀ (a : Nat) (i : Int), 314 ≤ a → ¬ AMp a i := fun a i z => by show ¬ ((91 ≤ a ∧ a ≤ 99) ∨ (261 ≤ a ∧ a ≤ 313) ∨ (a = 76 ∧ (i = 36 ∨ i = 37))); omega
      obtain ⟨σ8, he8, hF8, hD8⟩ := m_setsBackB (sc := sc) (d := d + 6) (D := D) (hF2'.g hG6) hDn (fun i a b => by
        rw [hF2'.rw a (nP _ _ (by omega)), hF2'.rw a (nP _ _ (by omega))]; exact hs6 i a b) (fun f i hfi => by rw [Dm_go hF2, hDt]; exact hfar f i hfi)
      have hFall : Fr ASi σ σ8 := (hF06.trans (hF2'.weak (fun a i z => Or.inl z))).trans (hF8.weak (fun a i z => Or.inl (Or.inl z)))
      have t8 : rI σ8 76 0 = 0 := (hF8.rw (by omega) (by show ¬ (91 ≤ 76 ∧ 76 ≤ 99); omega)).trans ((hF2'.rw (by omega) (AMp2 _ (by omega))).trans t6)
      have hvd : r5 = v := by
        rw [h2]
        rcases hi with z | z
        · exact z.2.1.symm
        · have := z.1.1; omega
      apply v_X10_improved_49 (hF.g hG6) (by omega) (by omega) hr
      rw [hP]
      refine ⟨fun _ => ⟨r5, σ2, he2, hF2'.g hG6, hr2, σ8, he8, hFall.g hG, fun z => ⟨r5, rfl, hr2, hFall, t8, hD8, j, v, hI, ?_⟩, fun z => ⟨cnt, rfl, by omega, hFall, t8, hD8, j, v, hI, ?_⟩⟩, fun z => absurd hq.2 z⟩
      · rw [if_neg z]; exact hvd
      · rw [if_pos z]; omega
    | succ k ih =>
      intro cnt e val D1 τ hc hk hr hF hDt b1 b2 b3 hfar hx hi
      obtain ⟨p, v1, hp, h1, h2⟩ := hi
      have hq := BestS.uniq hx h1
      have ep : e = p := hq.2
      obtain ⟨q1, q2, q3⟩ := (h1.in hp).1
      obtain ⟨c1, c2, c3⟩ := swb b1 b2 b3 (s := p / 10) (t := p % 10) (by omega) (by omega) (by omega) (by omega) (by omega)
      obtain ⟨σ12, he12, hF12, hD12⟩ := m_changes (sc := sc) (d := d + 6) (s := e / 10) (t := e % 10) (hF.g hG6) hDt.symm (by omega) (by omega)
      rw [ep] at hD12
      have hF12' : Fr AMp σ6 σ12 := hF.trans (hF12.weak (fun a i z => Or.inl z))
      have hM12 := hM6.amp hF12' hD12 c1 c2 c3
      obtain ⟨r21, σ17, he17, hr17, hF17, hD17, val2, h17⟩ := m_exchangeNow (sc := sc) (d := d + 1) (hF12'.g hG6) hM12
      have w12 : 1 + rI σ12 76 19 = w := by rw [hF12'.rw (by omega) (AMp2 _ (by omega)), w6, hwe]
      rw [w12] at h17
      have hF17' : Fr AMp σ6 σ17 := hF12'.trans hF17
      apply v_X10_improved_49 (hF.g hG6) (by omega) (by omega) hr
      refine ⟨fun z => absurd (ep.symm.trans z) hp, fun _ => ⟨⟨by omega, by omega⟩, by omega, ⟨by omega, by omega⟩, by omega, σ12, he12, hF12'.g hG6, by omega, r21, σ17, he17, hF17'.g hG6, hr17, ih (cnt + 1) r21 val2 _ σ17 (by omega) (by omega) hr17 hF17' hD17 c1 c2 c3 (fun f i hfi => ?_) h17 h2⟩⟩
      rw [Dswap_ne (by omega)]; exact hfar f i hfi
  obtain ⟨r14, σ10, he10, hr10, hF10, hD10, val, h10⟩ := m_exchangeNow (sc := sc) (d := d + 1) hG6 hM6
  rw [w6, ← hwe] at h10
  obtain ⟨r8, σ4, he4, hr4, e4, h4⟩ := m_in (sc := sc) (d := d + 6) (x := wh) (lo := 0) (hi := 1) hG1 (by omega) (by decide) (by decide)
  subst e4
  refine ⟨r8, σ4, he4, hG1, hr4, fun _ => ?_, fun z => by omega⟩
  apply v_X10_improved_20 hG1 (by omega) (by decide)
  refine ⟨0, σ4, m_bad0 hG1 t1 (by decide) (by decide), hG1, by decide, fun _ => ⟨σ6, he6, hG6, r14, σ10, he10, hF10.g hG6, hr10, ?_⟩, fun z => absurd rfl z⟩
  exact loop j 0 r14 val D σ10 (by omega) (Nat.le_refl _) hr10 hF10 hD10 hM.1.2.2.1 hM.1.2.2.2.1 hM.1.2.2.2.2.1 (fun _ _ _ => rfl) h10 hI
end
