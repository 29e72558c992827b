/-! THE CLASS'S READER: blanks, faults, numbers, words. -/
def ka (v : Nat) : Nat → Nat
  | 0 => v | 1 => v | 2 => v + 1 | 3 => v | 4 => v | 5 => v | _ => 1
def ki : Nat → Int
  | 0 => 3 | 1 => 4 | 2 => 8 | 3 => 5 | 4 => 6 | 5 => 7 | 6 => 6 | 7 => 7 | 8 => 8 | 9 => 4 | 10 => 5 | 11 => 3 | _ => 0
/-- the state of a reading, as the class keeps it -/
def Kc (σ : aH) (v : Nat) (j : Nat) : Int := if j ≤ 11 then rI σ (ka v j) (ki j) else 0
theorem ka_39 : ∀ i : Nat, i ≤ 11 → ∀ j : Nat, j ≤ 11 → (ka 39 i = ka 39 j ∧ (ki i).toNat = (ki j).toNat → i = j) := by decide +kernel
theorem ka_60 : ∀ i : Nat, i ≤ 11 → ∀ j : Nat, j ≤ 11 → (ka 60 i = ka 60 j ∧ (ki i).toNat = (ki j).toNat → i = j) := by decide +kernel
theorem Kc_w {σ : aH} {v j : Nat} {x : Int} (hv : IsMk v) (hj : j ≤ 11) (hx : inR x) : Kc (wI σ (ka v j) (ki j) x) v = kset (Kc σ v) j x := by
  funext i
  show (if i ≤ 11 then rI (wI σ (ka v j) (ki j) x) (ka v i) (ki i) else 0) = (if i = j then x else if i ≤ 11 then rI σ (ka v i) (ki i) else 0)
  by_cases c : i ≤ 11
  · rw [if_pos c, if_pos c, rI_w hx]
    by_cases e : i = j
    · subst e; rw [if_pos ⟨rfl, rfl⟩, if_pos rfl]
    · rw [if_neg e, if_neg]
      rcases hv with rfl | rfl
      · exact fun q => e (ka_39 i c j hj q)
      · exact fun q => e (ka_60 i c j hj q)
  · rw [if_neg c, if_neg c, if_neg (by omega)]
theorem Kc_fr {A : Nat → Int → Prop} {σ σ1 : aH} {v : Nat} (hF : Fr A σ σ1) (hA : ∀ j : Nat, j ≤ 11 → ¬ A (ka v j) (ki j)) : Kc σ1 v = Kc σ v := by
  funext j
  unfold Kc
  by_cases c : j ≤ 11
  · rw [if_pos c, if_pos c]
    refine hF.rw ?_ (hA j c)
    have h : ∀ j : Nat, j ≤ 11 → 0 ≤ ki j := by decide +kernel
    exact h j c
  · rw [if_neg c, if_neg c]
/-- the text lies on the tape -/
def RdS (σ : aH) (c : Int → Int) (e : Int) : Prop := TxS c e ∧ rI σ 1 2 = e ∧ ∀ k : Int, 0 ≤ k → k < e → rI σ 2 k = if c k < 128 then c k else c k - 256
theorem RdS.fr {A : Nat → Int → Prop} {σ σ1 : aH} {c : Int → Int} {e : Int} (h : RdS σ c e) (hF : Fr A σ σ1) (h1 : ¬ A 1 2) (h2 : ∀ i : Int, ¬ A 2 i) : RdS σ1 c e := ⟨h.1, (hF.rw (by omega) h1).trans h.2.1, fun k a b => (hF.rw a (h2 k)).trans (h.2.2 k a b)⟩
/-- the reader's own fields -/
abbrev AR : Nat → Int → Prop := fun a i => a = 1 ∧ 3 ≤ i ∧ i ≤ 8
abbrev A13 : Nat → Int → Prop := fun a i => a = 1 ∧ i = 3
theorem A13_AR (a : Nat) (i : Int) (h : A13 a i) : AR a i := by
  obtain ⟨p, q⟩ := h
  exact ⟨p, by omega, by omega⟩
section
variable {sc : Nat × (Nat → Int32)} {d : Nat} {σ : aH} {u v : Nat} {c : Int → Int} {e : Int}
theorem Kc_at {σ1 : aH} {x : Int} (hv : IsMk v) (hF : Fr A13 σ σ1) (h : rI σ1 1 3 = x) : Kc σ1 v = kset (Kc σ v) 11 x := by
  have hmv : v = 39 ∨ v = 60 := hv
  funext j
  unfold kset
  by_cases q : j = 11
  · rw [if_pos q, q]; exact h
  · rw [if_neg q]
    unfold Kc
    by_cases c1 : j ≤ 11
    · rw [if_pos c1, if_pos c1]
      have hk : ∀ j : Nat, j ≤ 11 → 0 ≤ ki j := by decide +kernel
      refine hF.rw (hk j c1) (fun z => q ?_)
      rcases hmv with rfl | rfl
      · exact ka_39 j c1 11 (by decide) ⟨z.1, by rw [z.2]; rfl⟩
      · exact ka_60 j c1 11 (by decide) ⟨z.1, by rw [z.2]; rfl⟩
    · rw [if_neg c1, if_neg c1]
theorem s_here (hG : G σ u) (hR : RdS σ c e) (h0 : 0 ≤ rI σ 1 3) : TI sc (d + 1) mX5_here [.ref 1] σ (fun r σ1 => σ1 = σ ∧ ((r = c (rI σ 1 3) ∧ 0 ≤ c (rI σ 1 3) ∧ c (rI σ 1 3) < 128) ∨ (r ≤ 0 ∧ (c (rI σ 1 3) = -1 ∨ 128 ≤ c (rI σ 1 3))))) := by
  have he := hR.2.1
  have h6 := hR.1.1
  apply T.int
  apply t_X5_here hG
  refine ⟨fun q => ⟨0, rfl, by decide, rfl, Or.inr ⟨by omega, Or.inl (hR.1.2.1 _ (by omega))⟩⟩, fun q => ⟨by omega, ?_⟩⟩
  have hb := hR.1.2.2 (rI σ 1 3) h0 (by omega)
  refine ⟨_, rfl, rI_R _ _ _, rfl, ?_⟩
  rw [hR.2.2 _ h0 (by omega)]
  split
  · left; omega
  · right; omega
theorem s_skip (hG : G σ u) (hR : RdS σ c e) (h0 : 0 ≤ rI σ 1 3) : TV sc (d + 2) mX5_skipBlanks [.ref 1] σ (fun σ1 => Fr A13 σ σ1 ∧ rI σ1 1 3 = scF c isB (rI σ 1 3)) := by
  have h6 := hR.1.1
  apply T.void
  apply t_X5_skipBlanks
  obtain ⟨r, hr⟩ : ∃ r : Int, r = scF c isB (rI σ 1 3) := ⟨_, rfl⟩
  obtain ⟨P, hP⟩ : ∃ P : aO → aH → Prop, P = QV (fun σ1 => Fr A13 σ σ1 ∧ rI σ1 1 3 = scF c isB (rI σ 1 3)) := ⟨_, rfl⟩
  rw [← hP]
  have loop : ∀ (g : Nat) (τ : aH), (e - rI τ 1 3).toNat = g → 0 ≤ rI τ 1 3 → Fr A13 σ τ → scF c isB (rI τ 1 3) = r → L_X5_skipBlanks_0 (Ev sc (d + 1)) sc P τ := by
    intro g
    induction g with
    | zero =>
      intro τ hg t0 hF hs
      have hRt := hR.fr hF (fun q => by have := q.2; omega) (fun i q => by have := q.1; omega)
      have he := hRt.2.1
      apply v_X5_skipBlanks_0 (hF.g hG)
      refine ⟨fun _ => ?_, fun q => by omega⟩
      rw [hP]
      refine ⟨rfl, hF, ?_⟩
      rw [← hr, ← hs, scF_step h6.2 hR.1.b t0, hR.1.b _ (by omega)]; rfl
    | succ g ih =>
      intro τ hg t0 hF hs
      have hRt := hR.fr hF (fun q => by have := q.2; omega) (fun i q => by have := q.1; omega)
      have he := hRt.2.1
      obtain ⟨r5, σ1, he1, hr1, e1, h1⟩ := s_here (sc := sc) (d := d) (hF.g hG) hRt t0
      subst e1
      have st := scF_step (p := isB) h6.2 hR.1.b t0
      apply v_X5_skipBlanks_0 (hF.g hG)
      refine ⟨fun q => by omega, fun _ => ⟨r5, σ1, he1, hF.g hG, hr1, fun q => ?_, fun q => ⟨by omega, fun σ7 e7 => ?_⟩⟩⟩
      · rw [hP]
        refine ⟨rfl, hF, ?_⟩
        have hb : isB (c (rI σ1 1 3)) = false := by unfold isB; rw [decide_eq_false_iff_not]; omega
        rw [hb] at st
        rw [← hr, ← hs]; exact st.symm
      · have h32 : c (rI σ1 1 3) = 32 := by omega
        have hb : isB (c (rI σ1 1 3)) = true := by rw [h32]; rfl
        rw [hb] at st
        have e7' : rI σ7 1 3 = rI σ1 1 3 + 1 := by rw [← e7]; exact rI_ww (by omega)
        refine ih σ7 (by omega) (by omega) (by rw [← e7]; exact hF.trans (Fr.w (by omega) ⟨rfl, rfl⟩)) ?_
        rw [e7', ← hs]; exact st.symm
  exact loop _ σ rfl h0 (Fr.refl _ _) hr.symm
theorem s_blame {a b : Int} (hG : G σ u) (hv : IsMk v) (ra : inR a) (rb : inR b) : TV sc (d + 1) mX5_blame [.ref 1, .int (nZ a), .int (nZ b)] σ (fun σ1 => Fr AR σ σ1 ∧ Kc σ1 v = flt (Kc σ v) a b) := by
  apply T.void
  apply t_X5_blame hG ra rb
  have e9 : Kc σ v 9 = rI σ 1 4 := rfl
  refine ⟨fun q => ⟨rfl, Fr.refl _ _, (flt_1 (by rw [e9]; exact q)).symm⟩, fun q σ1 e1 σ4 e4 => ⟨rfl, ?_, ?_⟩⟩
  · rw [← e4, ← e1]; exact (Fr.w (by omega) ⟨rfl, by omega, by omega⟩).trans (Fr.w (by omega) ⟨rfl, by omega, by omega⟩)
  · rw [flt_0 (by rw [e9]; exact q), ← e4, ← e1]
    have h1 := Kc_w (σ := σ) (j := 9) hv (by decide) ra
    have h2 := Kc_w (σ := wI σ 1 4 a) (j := 10) hv (by decide) rb
    exact h2.trans (by rw [show Kc (wI σ 1 4 a) v = kset (Kc σ v) 9 a from h1])
theorem s_readNumber {lo hi : Int} (hG : G σ u) (hv : IsMk v) (hR : RdS σ c e) (h0 : 0 ≤ rI σ 1 3 ∧ rI σ 1 3 ≤ e) (rl : inR lo) (rh : inR hi) : TI sc (d + 3) mX5_readNumber [.ref 1, .int (nZ lo), .int (nZ hi)] σ (fun r σ1 => Fr AR σ σ1 ∧ Kc σ1 v = numK c lo hi (Kc σ v) ∧ r = numV c lo hi (Kc σ v)) := by
  have h6 := hR.1.1
  apply T.int
  apply t_X5_readNumber hG rl rh
  obtain ⟨σ1, he1, hF1, h1⟩ := s_skip (sc := sc) (d := d) hG hR h0.1
  refine ⟨σ1, he1, hF1.g hG, fun z5 e5 => ?_⟩
  obtain ⟨K, hK⟩ : ∃ K : Nat → Int, K = Kc σ v := ⟨_, rfl⟩
  have eN : numE c K = (scF c isB (rI σ 1 3), scF c isDg (scF c isB (rI σ 1 3)), nv c (scF c isB (rI σ 1 3)) (scF c isDg (scF c isB (rI σ 1 3)) - scF c isB (rI σ 1 3)).toNat) := by rw [hK]; rfl
  obtain ⟨k, hk⟩ : ∃ k : Int, k = scF c isB (rI σ 1 3) := ⟨_, rfl⟩
  obtain ⟨r, hr⟩ : ∃ r : Int, r = scF c isDg k := ⟨_, rfl⟩
  rw [← hk, ← hr] at eN
  rw [← hk] at h1
  have hkb := scF_bd hR.1.b (rI σ 1 3)
  rw [← hk] at hkb
  have hrb := scF_bd hR.1.d k
  rw [← hr] at hrb
  rw [e5, h1, ← hK]
  obtain ⟨P, hP⟩ : ∃ P : aO → aH → Prop, P = QI (fun r σ1 => Fr AR σ σ1 ∧ Kc σ1 v = numK c lo hi K ∧ r = numV c lo hi K) := ⟨_, rfl⟩
  rw [← hP]
  have fin : ∀ (x : Int) (τ : aH), x = nv c k (r - k).toNat → inR x → Fr AR σ τ → Kc τ v = numK c lo hi K → (¬ rI τ 1 4 = 0 → P (.inl (some (.int (nZ 0)))) τ) ∧ (rI τ 1 4 = 0 → P (.inl (some (.int (nZ x)))) τ) := by
    intro x τ hx rx hF hKt
    have e9 : numK c lo hi K 9 = rI τ 1 4 := by rw [← hKt]; rfl
    rw [hP]
    refine ⟨fun q => ⟨0, rfl, by decide, hF, hKt, ?_⟩, fun q => ⟨x, rfl, rx, hF, hKt, ?_⟩⟩
    · unfold numV; rw [if_neg (by rw [e9]; exact q)]
    · unfold numV; rw [if_pos (by rw [e9]; exact q), eN]; exact hx
  have at74 : ∀ (x : Int) (τ : aH), x = nv c k (r - k).toNat → (0 ≤ x ∧ x ≤ 100000) → Fr A13 σ τ → rI τ 1 3 = r → L_X5_readNumber_74 (Ev sc (d + 2)) sc P lo hi k x τ := by
    intro x τ hx rx hF hat
    have hKt : Kc τ v = kset K 11 r := by rw [hK]; exact Kc_at hv hF hat
    have hFt : Fr AR σ τ := hF.weak A13_AR
    apply v_X5_readNumber_74 (hF.g hG) rl rh (by omega) (by omega)
    rw [hat]
    have eK : numK c lo hi K = if r = k then flt (kset K 11 r) 1 k else if nv c k (r - k).toNat < lo ∨ hi < nv c k (r - k).toNat then flt (kset K 11 r) 2 k else kset K 11 r := by unfold numK; rw [eN]
    refine ⟨fun q => ⟨fun q1 => ?_, fun q1 => ⟨fun q2 => ?_, fun q2 => ?_⟩⟩, fun q => ?_⟩
    · obtain ⟨σ2, he2, hF2, hK2⟩ := s_blame (sc := sc) (d := d + 1) (a := 2) (b := k) (hF.g hG) hv (by decide) (by omega)
      refine ⟨σ2, he2, hF2.g (hF.g hG), fin x σ2 hx (by omega) (hFt.trans hF2) ?_⟩
      rw [hK2, hKt, eK, if_neg q, if_pos (by omega)]
    · exact fin x τ hx (by omega) hFt (by rw [hKt, eK, if_neg q, if_neg (by omega)])
    · obtain ⟨σ2, he2, hF2, hK2⟩ := s_blame (sc := sc) (d := d + 1) (a := 2) (b := k) (hF.g hG) hv (by decide) (by omega)
      refine ⟨σ2, he2, hF2.g (hF.g hG), fin x σ2 hx (by omega) (hFt.trans hF2) ?_⟩
      rw [hK2, hKt, eK, if_neg q, if_pos (by omega)]
    · obtain ⟨σ2, he2, hF2, hK2⟩ := s_blame (sc := sc) (d := d + 1) (a := 1) (b := k) (hF.g hG) hv (by decide) (by omega)
      refine ⟨σ2, he2, hF2.g (hF.g hG), fin x σ2 hx (by omega) (hFt.trans hF2) ?_⟩
      rw [hK2, hKt, eK, if_pos q]
  have loop : ∀ (g : Nat) (q : Int) (τ : aH), (e - q).toNat = g → k ≤ q → rI τ 1 3 = q → Fr A13 σ τ → scF c isDg q = r → (∀ i : Nat, (i : Int) < q - k → 48 ≤ c (k + i)) → L_X5_readNumber_12 (Ev sc (d + 2)) sc P lo hi k (nv c k (q - k).toNat) τ := by
    intro g
    induction g with
    | zero =>
      intro q τ hg q0 hat hF hs hdg
      have hRt := hR.fr hF (fun q => by have := q.2; omega) (fun i q => by have := q.1; omega)
      have he := hRt.2.1
      have st := scF_step (p := isDg) h6.2 hR.1.d (show 0 ≤ q by omega)
      rw [hR.1.d _ (by omega)] at st
      have eq : q = r := by rw [← hs]; exact st.symm
      have nb := nv_bd (c := c) (k := k) (j := (q - k).toNat) (fun i hi => hdg i (by omega))
      apply v_X5_readNumber_12 (hF.g hG) rl rh (by omega) (by omega)
      exact ⟨fun _ => at74 _ τ (by rw [eq]) nb hF (by rw [hat, eq]), fun z => by omega⟩
    | succ g ih =>
      intro q τ hg q0 hat hF hs hdg
      have hRt := hR.fr hF (fun q => by have := q.2; omega) (fun i q => by have := q.1; omega)
      have he := hRt.2.1
      have st := scF_step (p := isDg) h6.2 hR.1.d (show 0 ≤ q by omega)
      have nb := nv_bd (c := c) (k := k) (j := (q - k).toNat) (fun i hi => hdg i (by omega))
      obtain ⟨r5, σ2, he2, hr2, e2, h2⟩ := s_here (sc := sc) (d := d + 1) (hF.g hG) hRt (by omega)
      subst e2
      rw [hat] at h2
      have stop : ¬ (48 ≤ c q ∧ c q ≤ 57) → L_X5_readNumber_74 (Ev sc (d + 2)) sc P lo hi k (nv c k (q - k).toNat) σ2 := by
        intro z
        have hb : isDg (c q) = false := by unfold isDg; rw [decide_eq_false_iff_not]; exact z
        rw [hb] at st
        have eq : q = r := by rw [← hs]; exact st.symm
        exact at74 _ σ2 (by rw [eq]) nb hF (by rw [hat, eq])
      apply v_X5_readNumber_12 (hF.g hG) rl rh (by omega) (by omega)
      rw [hat]
      refine ⟨fun z => by omega, fun _ => ⟨r5, σ2, he2, hF.g hG, hr2, fun z => stop (by omega), fun z => ⟨r5, σ2, he2, hF.g hG, hr2, fun z1 => stop (by omega), fun z1 => ⟨by omega, r5, σ2, he2, hF.g hG, hr2, by omega, by omega, fun z19 e19 => ?_⟩⟩⟩⟩
      rw [hat]
      refine ⟨by omega, fun σ23 e23 => ?_⟩
      have hcq : c q = r5 := by omega
      have hb : isDg (c q) = true := by unfold isDg; rw [decide_eq_true_eq]; omega
      rw [hb] at st
      have ej : (q + 1 - k).toNat = (q - k).toNat + 1 := by omega
      have ev : z19 = nv c k (q + 1 - k).toNat := by
        rw [ej, e19]
        show _ = min 100000 (10 * nv c k (q - k).toNat + c (k + ((q - k).toNat : Int)) - 48)
        rw [show k + ((q - k).toNat : Int) = q by omega, hcq]
      rw [ev]
      refine ih (q + 1) σ23 (by omega) (by omega) (by rw [← e23]; exact rI_ww (by omega)) (by rw [← e23]; exact hF.trans (Fr.w (by omega) ⟨rfl, rfl⟩)) (by rw [← hs]; exact st.symm) (fun i hi => ?_)
      by_cases z2 : (i : Int) < q - k
      · exact hdg i z2
      · rw [show k + (i : Int) = q by omega]; omega
  have := loop _ k σ1 rfl (by omega) h1 hF1 hr.symm (fun i hi => by omega)
  rw [show (k - k).toNat = 0 by omega] at this
  exact this
theorem s_readEnd (hG : G σ u) (hv : IsMk v) (hR : RdS σ c e) (h0 : 0 ≤ rI σ 1 3 ∧ rI σ 1 3 ≤ e) : TV sc (d + 3) mX5_readEnd [.ref 1] σ (fun σ1 => Fr AR σ σ1 ∧ Kc σ1 v = enK c (Kc σ v)) := by
  have h6 := hR.1.1
  apply T.void
  apply t_X5_readEnd hG
  obtain ⟨σ1, he1, hF1, h1⟩ := s_skip (sc := sc) (d := d) hG hR h0.1
  have hkb := scF_bd hR.1.b (rI σ 1 3)
  rw [← h1] at hkb
  have hK1 : Kc σ1 v = skK c (Kc σ v) := Kc_at hv hF1 h1
  have e11 : skK c (Kc σ v) 11 = rI σ1 1 3 := by rw [← hK1]; rfl
  have hR1 := hR.fr hF1 (fun q => by have := q.2; omega) (fun i q => by have := q.1; omega)
  obtain ⟨r9, σ5, he5, hr5, e5, h5⟩ := s_here (sc := sc) (d := d + 1) (hF1.g hG) hR1 (by omega)
  subst e5
  refine ⟨σ5, he1, hF1.g hG, r9, σ5, he5, hF1.g hG, hr5, fun q => ?_, fun q => ⟨by omega, fun σ15 e15 => ⟨rfl, ?_, ?_⟩⟩⟩
  · obtain ⟨σ10, he10, hF10, hK10⟩ := s_blame (sc := sc) (d := d + 1) (a := 1) (b := rI σ5 1 3) (hF1.g hG) hv (by decide) (rI_R _ _ _)
    refine ⟨σ10, he10, hF10.g (hF1.g hG), rfl, (hF1.weak A13_AR).trans hF10, ?_⟩
    unfold enK
    rw [hK10, hK1, if_neg (by rw [e11]; omega), e11]
  · rw [← e15]; exact (hF1.weak A13_AR).trans (Fr.w (by omega) ⟨rfl, by omega, by omega⟩)
  · unfold enK
    rw [if_pos (by rw [e11]; omega), ← e15, e11, ← hK1]
    exact Kc_w (σ := σ5) (j := 11) hv (by decide) (by omega)
theorem wd_byt : ∀ j : Nat, j < 10 → ∀ i : Nat, i < 7 → (0 ≤ ((wdByt.getD j []).getD i 0).toInt ∧ ((wdByt.getD j []).getD i 0).toInt < 128) := by decide +kernel
theorem s_isWord {j : Nat} {k : Int} (hG : G σ u) (hR : RdS σ c e) (hj : j < 10) (h0 : 0 ≤ k ∧ k ≤ rI σ 1 3) (h1 : rI σ 1 3 ≤ e) : TI sc (d + 1) mX5_isWord [.ref 1, .ref (1000001 + j), .int (nZ k)] σ (fun r σ1 => σ1 = σ ∧ ((r = 1 ∧ isW c k (rI σ 1 3) j) ∨ (r = 0 ∧ ¬ isW c k (rI σ 1 3) j))) := by
  have h6 := hR.1.1
  have hl := wd_le j
  apply T.int
  apply t_X5_isWord hG hj (by omega)
  obtain ⟨P, hP⟩ : ∃ P : aO → aH → Prop, P = QI (fun r σ1 => σ1 = σ ∧ ((r = 1 ∧ isW c k (rI σ 1 3) j) ∨ (r = 0 ∧ ¬ isW c k (rI σ 1 3) j))) := ⟨_, rfl⟩
  rw [← hP]
  refine ⟨by omega, fun q => ?_, fun q => ?_⟩
  rotate_left
  · rw [hP]; exact ⟨0, rfl, by decide, rfl, Or.inr ⟨rfl, fun z => q z.1⟩⟩
  have loop : ∀ (g : Nat) (i : Int), (((wdLen.getD j 0 : Nat) : Int) - i).toNat = g → 0 ≤ i → i ≤ ((wdLen.getD j 0 : Nat) : Int) → (∀ p : Int, 0 ≤ p → p < i → c (k + p) = ((wdByt.getD j []).getD p.toNat 0).toInt) → L_X5_isWord_17 (Ev sc d) sc P j k i σ := by
    intro g
    induction g with
    | zero =>
      intro i hg i0 i1 hp
      apply v_X5_isWord_17 hG hj (by omega) (by omega)
      refine ⟨fun _ => ?_, fun z => by omega⟩
      rw [hP]; exact ⟨1, rfl, by decide, rfl, Or.inl ⟨rfl, q, fun p p0 p1 => hp p p0 (by omega)⟩⟩
    | succ g ih =>
      intro i hg i0 i1 hp
      have hb := wd_byt j hj i.toNat (by omega)
      have ht := hR.2.2 (k + i) (by omega) (by omega)
      have hc := hR.1.2.2 (k + i) (by omega) (by omega)
      apply v_X5_isWord_17 hG hj (by omega) (by omega)
      refine ⟨fun z => by omega, fun _ => ⟨by omega, by omega, by omega, fun z => ⟨by omega, ih (i + 1) (by omega) (by omega) (by omega) (fun p p0 p1 => ?_)⟩, fun z => ?_⟩⟩
      · by_cases z1 : p = i
        · rw [z1]
          split at ht <;> omega
        · exact hp p p0 (by omega)
      · rw [hP]
        refine ⟨0, rfl, by decide, rfl, Or.inr ⟨rfl, fun z1 => z ?_⟩⟩
        have := z1.2 i i0 (by omega)
        rw [ht, if_pos (by omega)]; exact this
  exact loop _ 0 rfl (by omega) (by omega) (fun p a b => by omega)
theorem s_nameOf {x : Int} (hG : G σ u) (hx : 0 ≤ x ∧ x < 10) : Ev sc (d + 1) mX5_nameOf [.int (nZ x)] σ (.inl (some (.ref (1000001 + x.toNat)))) σ := by
  apply T.ev
  apply t_X5_nameOf hG (by omega)
  refine ⟨fun q => ?_, fun q => ?_, fun q => ?_, fun q => ?_, fun q => ?_, fun q => ?_, fun q => ?_, fun q => ?_, fun q => ?_, fun q => ?_⟩
  · have e : x = 9 := by omega
    rw [e]; exact ⟨rfl, rfl⟩
  all_goals rw [q]; exact ⟨rfl, rfl⟩
theorem s_readWord (hG : G σ u) (hR : RdS σ c e) (h0 : 0 ≤ rI σ 1 3 ∧ rI σ 1 3 ≤ e) : TI sc (d + 2) mX5_readWord [.ref 1] σ (fun r σ1 => Fr A13 σ σ1 ∧ rI σ1 1 3 = scF c isLt (rI σ 1 3) ∧ r = wkF c (rI σ 1 3) (scF c isLt (rI σ 1 3)) ∧ (-1 ≤ r ∧ r < 10)) := by
  have h6 := hR.1.1
  apply T.int
  apply t_X5_readWord hG
  intro z1 e1
  obtain ⟨k, hk⟩ : ∃ k : Int, k = rI σ 1 3 := ⟨_, rfl⟩
  obtain ⟨r, hr⟩ : ∃ r : Int, r = scF c isLt k := ⟨_, rfl⟩
  rw [← hk] at e1
  rw [e1, ← hk, ← hr]
  have hrb := scF_bd hR.1.l k
  rw [← hr] at hrb
  obtain ⟨P, hP⟩ : ∃ P : aO → aH → Prop, P = QI (fun x σ1 => Fr A13 σ σ1 ∧ rI σ1 1 3 = r ∧ x = wkF c k r ∧ (-1 ≤ x ∧ x < 10)) := ⟨_, rfl⟩
  rw [← hP]
  have at49 : ∀ (τ : aH), Fr A13 σ τ → rI τ 1 3 = r → L_X5_readWord_49 (Ev sc (d + 1)) sc P k 0 τ := by
    intro τ hF hat
    have hRt := hR.fr hF (fun q => by have := q.2; omega) (fun i q => by have := q.1; omega)
    have loop : ∀ (g : Nat) (x : Int), (10 - x).toNat = g → 0 ≤ x → x ≤ 10 → (∀ j : Nat, (j : Int) < x → ¬ isW c k r j) → L_X5_readWord_49 (Ev sc (d + 1)) sc P k x τ := by
      intro g
      induction g with
      | zero =>
        intro x hg x0 x1 hj
        apply v_X5_readWord_49 (hF.g hG) (by omega) (by omega)
        refine ⟨fun _ => ?_, fun z => by omega⟩
        rw [hP]
        exact ⟨-1, rfl, by decide, hF, hat, WkS.eq (Or.inl ⟨rfl, fun j hj2 => hj j (by omega)⟩), by omega⟩
      | succ g ih =>
        intro x hg x0 x1 hj
        obtain ⟨r10, σ6, he6, hr6, e6, h6'⟩ := s_isWord (sc := sc) (d := d) (j := x.toNat) (k := k) (hF.g hG) hRt (by omega) (by omega) (by omega)
        subst e6
        rw [hat] at h6'
        apply v_X5_readWord_49 (hF.g hG) (by omega) (by omega)
        refine ⟨fun z => by omega, fun _ => ⟨x.toNat, σ6, by omega, s_nameOf (hF.g hG) (by omega), hF.g hG, r10, σ6, he6, hF.g hG, hr6, fun z => ⟨by omega, ih (x + 1) (by omega) (by omega) (by omega) (fun j hj2 => ?_)⟩, fun z => ?_⟩⟩
        · by_cases z2 : (j : Int) = x
          · rcases h6' with h6' | h6'
            · omega
            · have e7 : x.toNat = j := by omega
              rw [e7] at h6'; exact h6'.2
          · exact hj j (by omega)
        · rw [hP]
          rcases h6' with h6' | h6'
          · exact ⟨x, rfl, by omega, hF, hat, WkS.eq (Or.inr ⟨x0, by omega, h6'.2⟩), by omega⟩
          · omega
    exact loop _ 0 rfl (by omega) (by omega) (fun j hj => by omega)
  have loop : ∀ (g : Nat) (q : Int) (τ : aH), (e - q).toNat = g → k ≤ q → rI τ 1 3 = q → Fr A13 σ τ → scF c isLt q = r → L_X5_readWord_5 (Ev sc (d + 1)) sc P k τ := by
    intro g
    induction g with
    | zero =>
      intro q τ hg q0 hat hF hs
      have hRt := hR.fr hF (fun q => by have := q.2; omega) (fun i q => by have := q.1; omega)
      have he := hRt.2.1
      have st := scF_step (p := isLt) h6.2 hR.1.l (show 0 ≤ q by omega)
      rw [hR.1.l _ (by omega)] at st
      have eq : q = r := by rw [← hs]; exact st.symm
      apply v_X5_readWord_5 (hF.g hG) (by omega)
      exact ⟨fun _ => at49 τ hF (by rw [hat, eq]), fun z => by omega⟩
    | succ g ih =>
      intro q τ hg q0 hat hF hs
      have hRt := hR.fr hF (fun q => by have := q.2; omega) (fun i q => by have := q.1; omega)
      have he := hRt.2.1
      have st := scF_step (p := isLt) h6.2 hR.1.l (show 0 ≤ q by omega)
      obtain ⟨r5, σ2, he2, hr2, e2, h2⟩ := s_here (sc := sc) (d := d) (hF.g hG) hRt (by omega)
      subst e2
      rw [hat] at h2
      have stop : ¬ (97 ≤ c q ∧ c q ≤ 122) → L_X5_readWord_49 (Ev sc (d + 1)) sc P k 0 σ2 := by
        intro z
        have hb : isLt (c q) = false := by unfold isLt; rw [decide_eq_false_iff_not]; exact z
        rw [hb] at st
        have eq : q = r := by rw [← hs]; exact st.symm
        exact at49 σ2 hF (by rw [hat, eq])
      apply v_X5_readWord_5 (hF.g hG) (by omega)
      rw [hat]
      refine ⟨fun z => by omega, fun _ => ⟨r5, σ2, he2, hF.g hG, hr2, fun z => stop (by omega), fun z => ⟨r5, σ2, he2, hF.g hG, hr2, fun z1 => stop (by omega), fun z1 => ?_⟩⟩⟩
      rw [hat]
      refine ⟨by omega, fun σ12 e12 => ?_⟩
      have hb : isLt (c q) = true := by unfold isLt; rw [decide_eq_true_eq]; omega
      rw [hb] at st
      exact ih (q + 1) σ12 (by omega) (by omega) (by rw [← e12]; exact rI_ww (by omega)) (by rw [← e12]; exact hF.trans (Fr.w (by omega) ⟨rfl, rfl⟩)) (by rw [← hs]; exact st.symm)
  exact loop _ k σ rfl (by omega) hk.symm (Fr.refl _ _) hr.symm
theorem s_isFull {w : Int} (hG : G σ u) (hv : IsMk v) (hw : 0 ≤ w ∧ w < 10) : TI sc (d + 1) mX5_isFull [.ref 1, .int (nZ w), .ref v] σ (fun r σ1 => σ1 = σ ∧ ((r = 1 ∧ fullK w (Kc σ v)) ∨ (r = 0 ∧ ¬ fullK w (Kc σ v)))) := by
  have e2 : Kc σ v 2 = rI σ (v + 1) 8 := rfl
  have e7 : Kc σ v 7 = rI σ 1 7 := rfl
  have e8 : Kc σ v 8 = rI σ 1 8 := rfl
  apply T.int
  apply t_X5_isFull hG hv (by omega)
  unfold fullK
  rw [e2, e7, e8]
  refine ⟨fun q => ?_, fun q => ⟨fun z => ?_, fun z => ?_⟩, fun q => ?_, fun q => ?_, fun q => ⟨fun z => ?_, fun z => ?_⟩, fun q => ⟨fun z => ?_, fun z => ?_⟩⟩
  all_goals first | exact ⟨0, rfl, by decide, rfl, Or.inr ⟨rfl, by omega⟩⟩ | exact ⟨1, rfl, by decide, rfl, Or.inl ⟨rfl, by omega⟩⟩
end
