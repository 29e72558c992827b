/-! THE CLASS'S READER: suns, rates, what is told of a stall; a clause; a text. -/
section
variable {sc : Nat × (Nat → Int32)} {d : Nat} {σ : aH} {u v : Nat} {c : Int → Int} {e : Int}
theorem ka_le {j : Nat} (hv : IsMk v) (hj : j ≤ 11) : ka v j ≤ v + 1 ∧ 0 ≤ ki j := by
  have h39 : ∀ j : Nat, j ≤ 11 → ka 39 j ≤ 40 ∧ 0 ≤ ki j := by decide +kernel
  have h60 : ∀ j : Nat, j ≤ 11 → ka 60 j ≤ 61 ∧ 0 ≤ ki j := by decide +kernel
  rcases hv with rfl | rfl
  · exact h39 j hj
  · exact h60 j hj
theorem St.fr {A : Nat → Int → Prop} {σ1 : aH} {K : Nat → Int} (h : St σ u v c e K) (hF : Fr A σ σ1) (hA : ∀ (a : Nat) (i : Int), a ≤ v + 1 → ¬ A a i) : St σ1 u v c e K := by
  obtain ⟨hG, hv, hR, h0, hK⟩ := h
  have hmv : v = 39 ∨ v = 60 := hv
  refine ⟨hF.g hG, hv, hR.fr hF (hA _ _ (by omega)) (fun i => hA _ _ (by omega)), h0, ?_⟩
  rw [Kc_fr hF (fun j hj => hA _ _ (ka_le hv hj).1)]; exact hK
theorem Ct.w {D : Nat → Int → Int} {E : Nat → Nat → Option Int} {K : Nat → Int} {a f0 : Nat} {s x : Int} (h : Ct σ v D E K) (ha : a = v + 2 + f0) (hf : f0 ≤ 6) (rx : inR x) : Ct (wI σ a s x) v (Dset D f0 s x) E K := by
  obtain ⟨a1, a2, a3, a4, a5, a6, a7⟩ := h
  have row : ∀ b : Nat, b ≠ a → ∀ i : Int, rI (wI σ a s x) b i = rI σ b i := fun b hb i => rI_wa hb
  refine ⟨by rw [Dc_wa f0 ha (by omega) rx, a1], a2.congr (row _ (by omega) _) (fun i _ => row _ (by omega) i) (fun i _ => row _ (by omega) i), a3.congr (row _ (by omega) _) (fun i _ => row _ (by omega) i) (fun i _ => row _ (by omega) i), ?_, ?_, ?_, ?_⟩
  · rw [row _ (by omega)]; exact a4
  · rw [row _ (by omega)]; exact a5
  · rw [row _ (by omega)]; exact a6
  · rw [row _ (by omega)]; exact a7
theorem Ct.k {D : Nat → Int → Int} {E : Nat → Nat → Option Int} {K K1 : Nat → Int} (h : Ct σ v D E K) (h7 : K 7 ≤ K1 7) (h8 : K 8 ≤ K1 8) : Ct σ v D E K1 := ⟨h.1, h.2.1, h.2.2.1, h.2.2.2.1, h.2.2.2.2.1, by have := h.2.2.2.2.2.1; omega, by have := h.2.2.2.2.2.2; omega⟩
/-- writing a number of the state keeps the rest -/
theorem Ct.wk {D : Nat → Int → Int} {E : Nat → Nat → Option Int} {K : Nat → Int} {j : Nat} {x : Int} (hv : IsMk v) (h : Ct σ v D E K) (hj : j ≤ 10) : Ct (wI σ (ka v j) (ki j) x) v D E K := by
  have hmv : v = 39 ∨ v = 60 := hv
  have hk := ka_le hv (show j ≤ 11 by omega)
  have hne : ∀ j : Nat, j ≤ 10 → ki j ≠ 9 ∧ (ki j = 8 → ka 39 j ≠ 39 ∧ ka 60 j ≠ 60) := by decide +kernel
  have hj2 := hne j hj
  refine h.fr (A := fun a i => a = ka v j ∧ i = ki j) (Fr.w hk.2 ⟨rfl, rfl⟩) (fun q => ?_) (fun q => hj2.1 q.2.symm) (fun a i p q z => by have := z.1; omega)
  have := hj2.2 q.2.symm
  rcases hmv with rfl | rfl
  · exact this.1 q.1.symm
  · exact this.2 q.1.symm
theorem s_readSun {P : PS} (h : CRep σ u v c e P) (h20 : P.1 7 < 20) : TV sc (d + 4) mX5_readSun [.ref 1, .ref v] σ (fun σ1 => Fr (AD v) σ σ1 ∧ CRep σ1 u v c e (suF c P)) := by
  obtain ⟨hS, hC, hB⟩ := h
  obtain ⟨K, D, E⟩ := P
  have hv := hS.2.1
  have hmv : v = 39 ∨ v = 60 := hv
  have b7 : 0 ≤ K 7 ∧ K 7 < 20 := ⟨hB.2.2.2.2.1.1, h20⟩
  have e7 : K 7 = rI σ 1 7 := by have := hS.2.2.2.2; rw [← show Kc σ v = K from this]; rfl
  apply T.void
  apply t_X5_readSun hS.1 hv
  rw [← e7]
  refine ⟨by omega, fun σ2 e2 => ?_⟩
  have hS2 : St σ2 u v c e (suK1 c K) := by rw [← e2]; exact r_w (j := 7) hS (by decide) (by omega)
  have hF2 : Fr AR σ σ2 := by rw [← e2]; exact Fr.w (by omega) ⟨rfl, by omega, by omega⟩
  obtain ⟨r9, σ5, he5, hr5, hF5, hS5, h5⟩ := r_num (sc := sc) (d := d) (lo := 0) (hi := 1439) hS2 (by decide) (by decide)
  obtain ⟨r14, σ10, he10, hr10, hF10, hS10, h10⟩ := r_num (sc := sc) (d := d) (lo := 0) (hi := 2) hS5 (by decide) (by decide)
  obtain ⟨r19, σ15, he15, hr15, hF15, hS15, h15⟩ := r_num (sc := sc) (d := d) (lo := 0) (hi := 2) hS10 (by decide) (by decide)
  obtain ⟨r30, σ26, he26, hr26, hF26, hS26, h26⟩ := r_num (sc := sc) (d := d) (lo := 0) (hi := 9) hS15 (by decide) (by decide)
  have v5 := numV_09 (c := c) (hi := 1439) (K := suK1 c K) (by decide)
  have v10 := numV_09 (c := c) (hi := 2) (K := numK c 0 1439 (suK1 c K)) (by decide)
  have v15 := numV_09 (c := c) (hi := 2) (K := numK c 0 2 (numK c 0 1439 (suK1 c K))) (by decide)
  have v26 := numV_09 (c := c) (hi := 9) (K := numK c 0 2 (numK c 0 2 (numK c 0 1439 (suK1 c K)))) (by decide)
  rw [← h5] at v5
  rw [← h10] at v10
  rw [← h15] at v15
  rw [← h26] at v26
  have hF26' : Fr AR σ σ26 := (((hF2.trans hF5).trans hF10).trans hF15).trans hF26
  have hC26 : Ct σ26 v D E K := hC.ar hv hF26'
  have hc6 := hC26.2.2.2.2.2.1
  obtain ⟨σ32, he32, hF32, hR32, hn32⟩ := s_tell (sc := sc) (d := d + 2) (a := v + 10) (E := E 0) (m := r9) (x := 10 * (r14 + 3 * r19) + r30) hS26.1 (IsMk.ch hv).1 hC26.2.1 (by omega) (by omega) (by omega)
  have nA : ∀ (a : Nat) (i : Int), ¬ (v + 10 ≤ a ∧ a ≤ v + 12) → ¬ ((a = v + 10 ∧ i = 2) ∨ a = v + 10 + 1 ∨ a = v + 10 + 2) := fun a i q => by omega
  have hS32 : St σ32 u v c e (suK5 c K) := hS26.fr hF32 (fun a i q => nA a i (by omega))
  have k5 : ∀ j : Nat, j ≠ 9 → j ≠ 10 → j ≠ 11 → suK5 c K j = suK1 c K j := fun j a b q => by
    unfold suK5 suK4 suK3 suK2
    rw [numK_ne a b q, numK_ne a b q, numK_ne a b q, numK_ne a b q]
  have k1 : ∀ j : Nat, j ≠ 7 → suK1 c K j = K j := fun j q => kset_ne q
  have k7 : suK5 c K 7 = K 7 + 1 := by rw [k5 7 (by decide) (by decide) (by decide)]; exact kset_eq
  refine ⟨r9, σ5, he5, hS5.1, hr5, r14, σ10, he10, hS10.1, hr10, r19, σ15, he15, hS15.1, hr15, by omega, by omega, fun z22 e22 => ?_⟩
  rw [e22]
  refine ⟨by omega, r30, σ26, he26, hS26.1, hr26, by omega, σ32, he32, hS32.1, rfl, ?_, hS32, ⟨?_, ?_, ?_, ?_, ?_, ?_, ?_⟩, ?_⟩
  · exact (hF26'.weak (AR_AD v)).trans (hF32.weak (fun a i q => Or.inr (Or.inr (Or.inr (by omega)))))
  · show Dc (rI σ32) v = D
    rw [← hC26.1]; exact Dc_congr (fun a p q => hF32.row (fun i => nA a i (by omega)))
  · show RepC (rI σ32) (v + 10) (tellE E 0 (suM c K) (10 * (suI c K + 3 * suJ c K) + suN c K) 0)
    have ee : tellE E 0 (suM c K) (10 * (suI c K + 3 * suJ c K) + suN c K) 0 = tl (E 0) r9 (10 * (r14 + 3 * r19) + r30) := by
      funext t
      rw [h5, h10, h15, h26]
      unfold tellE tl
      by_cases z : t = (numV c 0 1439 (suK1 c K)).toNat
      · rw [if_pos z, if_pos ⟨rfl, z⟩]; rfl
      · rw [if_neg z, if_neg (fun q => z q.2)]
    rw [ee]; exact hR32
  · show RepC (rI σ32) (v + 13) (tellE E 0 (suM c K) (10 * (suI c K + 3 * suJ c K) + suN c K) 1)
    have ee : tellE E 0 (suM c K) (10 * (suI c K + 3 * suJ c K) + suN c K) 1 = E 1 := by
      funext t; unfold tellE; exact if_neg (fun q => by have := q.1; omega)
    rw [ee]
    exact hC26.2.2.1.congr (hF32.rw (by omega) (nA _ _ (by omega))) (fun i i0 => hF32.rw i0 (nA _ _ (by omega))) (fun i i0 => hF32.rw i0 (nA _ _ (by omega)))
  · exact (hF32.rw (by omega) (nA _ _ (by omega))).trans hC26.2.2.2.1
  · exact (hF32.rw (by omega) (nA _ _ (by omega))).trans hC26.2.2.2.2.1
  · show rI σ32 (v + 10) 2 ≤ suK5 c K 7
    rw [k7]; omega
  · show rI σ32 (v + 13) 2 ≤ suK5 c K 8
    rw [k5 8 (by decide) (by decide) (by decide), k1 8 (by decide), hF32.rw (by omega) (nA _ _ (by omega))]; exact hC26.2.2.2.2.2.2
  · show Kb (suK5 c K)
    unfold Kb
    rw [k7, k5 0 (by decide) (by decide) (by decide), k5 1 (by decide) (by decide) (by decide), k5 2 (by decide) (by decide) (by decide), k5 6 (by decide) (by decide) (by decide), k5 8 (by decide) (by decide) (by decide), k1 0 (by decide), k1 1 (by decide), k1 2 (by decide), k1 6 (by decide), k1 8 (by decide)]
    exact ⟨hB.1, hB.2.1, hB.2.2.1, hB.2.2.2.1, by omega, hB.2.2.2.2.2⟩
theorem s_readRate {P : PS} (h : CRep σ u v c e P) (h20 : P.1 8 < 20) : TV sc (d + 4) mX5_readRate [.ref 1, .ref v] σ (fun σ1 => Fr (AD v) σ σ1 ∧ CRep σ1 u v c e (raF c P)) := by
  obtain ⟨hS, hC, hB⟩ := h
  obtain ⟨K, D, E⟩ := P
  have hv := hS.2.1
  have hmv : v = 39 ∨ v = 60 := hv
  have b8 : 0 ≤ K 8 ∧ K 8 < 20 := ⟨hB.2.2.2.2.2.1, h20⟩
  have e8 : K 8 = rI σ 1 8 := by have := hS.2.2.2.2; rw [← show Kc σ v = K from this]; rfl
  apply T.void
  apply t_X5_readRate hS.1 hv
  rw [← e8]
  refine ⟨by omega, fun σ2 e2 => ?_⟩
  have hS2 : St σ2 u v c e (raK1 c K) := by rw [← e2]; exact r_w (j := 8) hS (by decide) (by omega)
  have hF2 : Fr AR σ σ2 := by rw [← e2]; exact Fr.w (by omega) ⟨rfl, by omega, by omega⟩
  obtain ⟨r9, σ5, he5, hr5, hF5, hS5, h5⟩ := r_num (sc := sc) (d := d) (lo := 0) (hi := 1439) hS2 (by decide) (by decide)
  obtain ⟨r14, σ10, he10, hr10, hF10, hS10, h10⟩ := r_num (sc := sc) (d := d) (lo := 0) (hi := 9) hS5 (by decide) (by decide)
  have v5 := numV_09 (c := c) (hi := 1439) (K := raK1 c K) (by decide)
  have v10 := numV_09 (c := c) (hi := 9) (K := numK c 0 1439 (raK1 c K)) (by decide)
  rw [← h5] at v5
  rw [← h10] at v10
  have hF26' : Fr AR σ σ10 := (hF2.trans hF5).trans hF10
  have hC26 : Ct σ10 v D E K := hC.ar hv hF26'
  have hc7 := hC26.2.2.2.2.2.2
  obtain ⟨σ32, he32, hF32, hR32, hn32⟩ := s_tell (sc := sc) (d := d + 2) (a := v + 13) (E := E 1) (m := r9) (x := r14) hS10.1 (IsMk.ch hv).2 hC26.2.2.1 (by omega) (by omega) (by omega)
  have nA : ∀ (a : Nat) (i : Int), ¬ (v + 13 ≤ a ∧ a ≤ v + 15) → ¬ ((a = v + 13 ∧ i = 2) ∨ a = v + 13 + 1 ∨ a = v + 13 + 2) := fun a i q => by omega
  obtain ⟨K5, hK5⟩ : ∃ K5 : Nat → Int, K5 = numK c 0 9 (numK c 0 1439 (raK1 c K)) := ⟨_, rfl⟩
  have hS32 : St σ32 u v c e K5 := by rw [hK5]; exact hS10.fr hF32 (fun a i q => nA a i (by omega))
  have k5 : ∀ j : Nat, j ≠ 9 → j ≠ 10 → j ≠ 11 → K5 j = raK1 c K j := fun j a b q => by
    rw [hK5, numK_ne a b q, numK_ne a b q]
  have k1 : ∀ j : Nat, j ≠ 8 → raK1 c K j = K j := fun j q => kset_ne q
  have k8 : K5 8 = K 8 + 1 := by rw [k5 8 (by decide) (by decide) (by decide)]; exact kset_eq
  refine ⟨r9, σ5, he5, hS5.1, hr5, r14, σ10, he10, hS10.1, hr10, σ32, he32, hS32.1, rfl, ?_, ?_, ⟨?_, ?_, ?_, ?_, ?_, ?_, ?_⟩, ?_⟩
  · exact (hF26'.weak (AR_AD v)).trans (hF32.weak (fun a i q => Or.inr (Or.inr (Or.inr (by omega)))))
  · rw [hK5] at hS32; exact hS32
  · show Dc (rI σ32) v = D
    rw [← hC26.1]; exact Dc_congr (fun a p q => hF32.row (fun i => nA a i (by omega)))
  · show RepC (rI σ32) (v + 10) (tellE E 1 (numV c 0 1439 (raK1 c K)) (numV c 0 9 (numK c 0 1439 (raK1 c K))) 0)
    have ee : tellE E 1 (numV c 0 1439 (raK1 c K)) (numV c 0 9 (numK c 0 1439 (raK1 c K))) 0 = E 0 := by
      funext t; unfold tellE; exact if_neg (fun q => by have := q.1; omega)
    rw [ee]
    exact hC26.2.1.congr (hF32.rw (by omega) (nA _ _ (by omega))) (fun i i0 => hF32.rw i0 (nA _ _ (by omega))) (fun i i0 => hF32.rw i0 (nA _ _ (by omega)))
  · show RepC (rI σ32) (v + 13) (tellE E 1 (numV c 0 1439 (raK1 c K)) (numV c 0 9 (numK c 0 1439 (raK1 c K))) 1)
    have ee : tellE E 1 (numV c 0 1439 (raK1 c K)) (numV c 0 9 (numK c 0 1439 (raK1 c K))) 1 = tl (E 1) r9 r14 := by
      funext t
      rw [h5, h10]
      unfold tellE tl
      by_cases z : t = (numV c 0 1439 (raK1 c K)).toNat
      · rw [if_pos z, if_pos ⟨rfl, z⟩]
      · rw [if_neg z, if_neg (fun q => z q.2)]
    rw [ee]; exact hR32
  · exact (hF32.rw (by omega) (nA _ _ (by omega))).trans hC26.2.2.2.1
  · exact (hF32.rw (by omega) (nA _ _ (by omega))).trans hC26.2.2.2.2.1
  · show rI σ32 (v + 10) 2 ≤ numK c 0 9 (numK c 0 1439 (raK1 c K)) 7
    rw [← hK5, k5 7 (by decide) (by decide) (by decide), k1 7 (by decide), hF32.rw (by omega) (nA _ _ (by omega))]; exact hC26.2.2.2.2.2.1
  · show rI σ32 (v + 13) 2 ≤ numK c 0 9 (numK c 0 1439 (raK1 c K)) 8
    rw [← hK5, k8]; omega
  · show Kb (numK c 0 9 (numK c 0 1439 (raK1 c K)))
    rw [← hK5]
    unfold Kb
    rw [k8, k5 0 (by decide) (by decide) (by decide), k5 1 (by decide) (by decide) (by decide), k5 2 (by decide) (by decide) (by decide), k5 6 (by decide) (by decide) (by decide), k5 7 (by decide) (by decide) (by decide), k1 0 (by decide), k1 1 (by decide), k1 2 (by decide), k1 6 (by decide), k1 7 (by decide)]
    exact ⟨hB.1, hB.2.1, hB.2.2.1, hB.2.2.2.1, hB.2.2.2.2.1, by omega⟩
theorem Kb.num {lo hi : Int} {K : Nat → Int} (h : Kb K) : Kb (numK c lo hi K) := h.congr (numK_ne (by decide) (by decide) (by decide)) (numK_ne (by decide) (by decide) (by decide)) (numK_ne (by decide) (by decide) (by decide)) (numK_ne (by decide) (by decide) (by decide)) (numK_ne (by decide) (by decide) (by decide)) (numK_ne (by decide) (by decide) (by decide))
theorem Ct.num {lo hi : Int} {D : Nat → Int → Int} {E : Nat → Nat → Option Int} {K : Nat → Int} (h : Ct σ v D E K) : Ct σ v D E (numK c lo hi K) := h.k (by rw [numK_ne (by decide) (by decide) (by decide)]; omega) (by rw [numK_ne (by decide) (by decide) (by decide)]; omega)
theorem St.wd {K : Nat → Int} {a f0 : Nat} {s x : Int} (h : St σ u v c e K) (ha : a = v + 2 + f0) (hs : 0 ≤ s) : St (wI σ a s x) u v c e K := h.fr (A := fun b _ => b = a) (Fr.w hs rfl) (fun b i q z => by have z2 : b = a := z; omega)
theorem s_readOfStall {P : PS} {w : Int} (h : CRep σ u v c e P) (rw_ : inR w) : TV sc (d + 4) mX5_readOfStall [.ref 1, .int (nZ w), .ref (v + 1)] σ (fun σ1 => Fr (AD v) σ σ1 ∧ CRep σ1 u v c e (ofF c w P)) := by
  obtain ⟨hS, hC, hB⟩ := h
  obtain ⟨K, D, E⟩ := P
  have hv := hS.2.1
  have hmv : v = 39 ∨ v = 60 := hv
  have b2 : 0 ≤ K 2 ∧ K 2 ≤ 8 := hB.2.2.1
  have e2 : K 2 = rI σ (v + 1) 8 := by have := hS.2.2.2.2; rw [← show Kc σ v = K from this]; rfl
  apply T.void
  apply t_X5_readOfStall hS.1 hv rw_
  rw [← e2]
  obtain ⟨r6, σ2, he2, hr2, hF2, hS2, h2⟩ := r_num (sc := sc) (d := d) (lo := 0) (hi := K 2 - 1) hS (by decide) (by omega)
  have hS2' : St σ2 u v c e (ofK1 c K) := hS2
  have h2' : r6 = ofS c K := h2
  have v2 := (numV_bd (c := c) (lo := 0) (hi := K 2 - 1) (K := K)).1
  rw [← show r6 = numV c 0 (K 2 - 1) K from h2] at v2
  have k2 : rI σ2 (v + 1) 8 = K 2 := by rw [e2]; exact hF2.rw (by omega) (fun q => by have := q.1; omega)
  have hC2 : Ct σ2 v D E (ofK1 c K) := (hC.ar hv hF2).num
  have hB2 : Kb (ofK1 c K) := Kb.num hB
  refine ⟨by omega, r6, σ2, he2, hS2.1, hr2, ?_⟩
  rw [k2]
  refine ⟨fun q => ⟨fun q1 => ⟨fun q2 => ⟨by omega, fun σ7 e7 => ⟨rfl, ?_, ?_⟩⟩, fun q2 => ?_⟩, fun q1 => ?_⟩, fun q => ⟨rfl, hF2.weak (AR_AD v), ?_⟩⟩
  · rw [← e7]; exact (hF2.weak (AR_AD v)).trans (Fr.w (by omega) (Or.inr (Or.inr (Or.inr (by omega)))))
  · have eF : ofF c w (K, D, E) = (ofK1 c K, Dset D 6 (ofS c K) 1, E) := by
      unfold ofF; rw [if_pos (by rw [← h2']; exact q), if_neg q1, if_neg q2]
    rw [eF, ← e7, ← h2']
    exact ⟨hS2'.wd (f0 := 6) (by omega) (by omega), hC2.w (by omega) (by decide) (by decide), hB2⟩
  · obtain ⟨r14, σ10, he10, hr10, hF10, hS10, h10⟩ := r_num (sc := sc) (d := d) (lo := 0) (hi := 5) hS2' (by decide) (by decide)
    have hC10 : Ct σ10 v D E (numK c 0 5 (ofK1 c K)) := (hC2.ar hv hF10).num
    refine ⟨r14, σ10, he10, hS10.1, hr10, by omega, fun σ15 e15 => ?_⟩
    have hS15 : St σ15 u v c e (numK c 0 5 (ofK1 c K)) := by rw [← e15]; exact hS10.wd (f0 := 4) (by omega) (by omega)
    have hC15 : Ct σ15 v (Dset D 4 r6 r14) E (numK c 0 5 (ofK1 c K)) := by rw [← e15]; exact hC10.w (by omega) (by decide) hr10
    obtain ⟨r22, σ18, he18, hr18, hF18, hS18, h18⟩ := r_num (sc := sc) (d := d) (lo := 0) (hi := 60) hS15 (by decide) (by decide)
    refine ⟨r22, σ18, he18, hS18.1, hr18, by omega, fun σ23 e23 => ⟨rfl, ?_, ?_⟩⟩
    · rw [← e23]
      have hF15 : Fr (AD v) σ10 σ15 := by rw [← e15]; exact Fr.w (by omega) (Or.inr (Or.inr (Or.inr (by omega))))
      exact ((((hF2.trans hF10).weak (AR_AD v)).trans hF15).trans (hF18.weak (AR_AD v))).trans (Fr.w (by omega) (Or.inr (Or.inr (Or.inr (by omega)))))
    · have eF : ofF c w (K, D, E) = (numK c 0 60 (numK c 0 5 (ofK1 c K)), Dset (Dset D 4 (ofS c K) (numV c 0 5 (ofK1 c K))) 5 (ofS c K) (numV c 0 60 (numK c 0 5 (ofK1 c K))), E) := by
        unfold ofF; rw [if_pos (by rw [← h2']; exact q), if_neg q1, if_pos q2]
      rw [eF, ← e23, ← h2', ← h10, ← h18]
      exact ⟨hS18.wd (f0 := 5) (by omega) (by omega), ((hC15.ar hv hF18).num).w (by omega) (by decide) hr18, (hB2.num).num⟩
  · obtain ⟨r30, σ26, he26, hr26, hF26, hS26, h26⟩ := r_num (sc := sc) (d := d) (lo := 0) (hi := 3) hS2' (by decide) (by decide)
    refine ⟨r30, σ26, he26, hS26.1, hr26, by omega, fun σ31 e31 => ⟨rfl, ?_, ?_⟩⟩
    · rw [← e31]; exact ((hF2.trans hF26).weak (AR_AD v)).trans (Fr.w (by omega) (Or.inr (Or.inr (Or.inr (by omega)))))
    · have eF : ofF c w (K, D, E) = (numK c 0 3 (ofK1 c K), Dset D 3 (ofS c K) (numV c 0 3 (ofK1 c K)), E) := by
        unfold ofF; rw [if_pos (by rw [← h2']; exact q), if_pos q1]
      rw [eF, ← e31, ← h2', ← h26]
      exact ⟨hS26.wd (f0 := 3) (by omega) (by omega), ((hC2.ar hv hF26).num).w (by omega) (by decide) hr26, hB2.num⟩
  · have eF : ofF c w (K, D, E) = (ofK1 c K, D, E) := by
      unfold ofF; rw [if_neg (by rw [← h2']; exact q)]
    rw [eF]
    exact ⟨hS2', hC2, hB2⟩
theorem s_one {P : PS} {j : Nat} {hi : Int} (h : CRep σ u v c e P) (hj : 3 ≤ j ∧ j ≤ 5) (rh : 0 ≤ hi ∧ hi ≤ 1440) : ∃ (r : Int) (σ1 : aH), Ev sc (d + 3) mX5_readNumber [.ref 1, .int (nZ 0), .int (nZ hi)] σ (.inl (some (.int (nZ r)))) σ1 ∧ G σ1 u ∧ inR r ∧ Fr (AD v) σ (wI σ1 (ka v j) (ki j) r) ∧ CRep (wI σ1 (ka v j) (ki j) r) u v c e (oneF c j hi P) := by
  obtain ⟨hS, hC, hB⟩ := h
  obtain ⟨K, D, E⟩ := P
  have hv := hS.2.1
  obtain ⟨r, σ1, he, hr, hF, hS1, h1⟩ := r_num (sc := sc) (d := d) (lo := 0) (hi := hi) hS (by decide) (by omega)
  refine ⟨r, σ1, he, hS1.1, hr, ?_, ?_⟩
  · refine (hF.weak (AR_AD v)).trans (Fr.w ?_ (Or.inr (Or.inl ?_)))
    · exact (ka_le hv (by omega)).2
    · have hh : ∀ j : Nat, j ≤ 5 → (3 ≤ j → 3 ≤ ki j ∧ ki j ≤ 7) := by decide +kernel
      have h3 := hh j hj.2 hj.1
      refine ⟨?_, h3.1, h3.2⟩
      have : j = 3 ∨ j = 4 ∨ j = 5 := by omega
      rcases this with rfl | rfl | rfl <;> rfl
  · have h1' : r = numV c 0 hi K := h1
    have hS1' : St σ1 u v c e (numK c 0 hi K) := hS1
    have hC1 : Ct σ1 v D E (numK c 0 hi K) := (hC.ar hv hF).num
    rw [h1'] at hr ⊢
    refine ⟨r_w hS1' (by omega) hr, ?_, ?_⟩
    · exact (Ct.wk hv hC1 (by omega)).k (by show _ ≤ kset (numK c 0 hi K) j _ 7; rw [kset_ne (by omega)]; omega) (by show _ ≤ kset (numK c 0 hi K) j _ 8; rw [kset_ne (by omega)]; omega)
    · have hBn : Kb (numK c 0 hi K) := Kb.num hB
      exact hBn.congr (kset_ne (by omega)) (kset_ne (by omega)) (kset_ne (by omega)) (kset_ne (by omega)) (kset_ne (by omega)) (kset_ne (by omega))
theorem s_readNumbers {P : PS} {w : Int} (h : CRep σ u v c e P) (hw : 0 ≤ w ∧ w < 10) (hf : ¬ fullK w P.1) : TV sc (d + 5) mX5_readNumbers [.ref 1, .int (nZ w), .ref v] σ (fun σ1 => Fr (AD v) σ σ1 ∧ CRep σ1 u v c e (nbF c w P)) := by
  have hv := h.1.2.1
  apply T.void
  apply t_X5_readNumbers h.1.1 hv (by omega)
  have of : (w = 2 ∨ w = 3 ∨ w = 7) → ∃ σ1 : aH, Ev sc (d + 4) mX5_readOfStall [.ref 1, .int (nZ w), .ref (v + 1)] σ (.inl none) σ1 ∧ G σ1 u ∧ QV (fun σ1 => Fr (AD v) σ σ1 ∧ CRep σ1 u v c e (nbF c w P)) (.inl none) σ1 := by
    intro hw2
    obtain ⟨σ1, he, hF, hC⟩ := s_readOfStall (sc := sc) (d := d) (w := w) h (by omega)
    have e1 : nbF c w P = ofF c w P := by unfold nbF; rw [if_neg (by omega), if_neg (by omega), if_neg (by omega), if_neg (by omega), if_neg (by omega), if_neg (by omega), if_neg (by omega)]
    exact ⟨σ1, he, hC.1.1, rfl, hF, by rw [e1]; exact hC⟩
  refine ⟨fun q => by omega, fun q => ?_, fun q => ?_, fun q => of (by omega), fun q => of (by omega), fun q => ?_, fun q => ?_, fun q => ?_, fun q => of (by omega), fun q => ?_, fun q => ?_⟩
  · have e1 : nbF c w P = fiF c P := by unfold nbF; rw [if_pos q]
    rw [e1]
    obtain ⟨hS, hC, hB⟩ := h
    obtain ⟨K, D, E⟩ := P
    obtain ⟨r9, σ5, he5, hr5, hF5, hS5, h5⟩ := r_num (sc := sc) (d := d + 1) (lo := 2) (hi := 9) hS (by decide) (by decide)
    have h5' : r9 = numV c 2 9 K := h5
    have hC5 : Ct σ5 v D E (numK c 2 9 K) := (hC.ar hv hF5).num
    have hB5 : Kb (numK c 2 9 K) := Kb.num hB
    have v5 := (numV_bd (c := c) (lo := 2) (hi := 9) (K := K)).1
    refine ⟨r9, σ5, he5, hS5.1, hr5, fun σ10 e10 => ?_⟩
    have hS10 : St σ10 u v c e (kset (numK c 2 9 K) 0 (numV c 2 9 K)) := by rw [← e10, h5']; exact r_w (j := 0) hS5 (by decide) (by rw [← h5']; exact hr5)
    have hC10 : Ct σ10 v D E (kset (numK c 2 9 K) 0 (numV c 2 9 K)) := by
      rw [← e10]
      exact (Ct.wk (j := 0) hv hC5 (by decide)).k (by rw [kset_ne (by decide)]; omega) (by rw [kset_ne (by decide)]; omega)
    obtain ⟨r17, σ13, he13, hr13, hF13, hS13, h13⟩ := r_num (sc := sc) (d := d + 1) (lo := 2) (hi := 9) hS10 (by decide) (by decide)
    have v13 := (numV_bd (c := c) (lo := 2) (hi := 9) (K := kset (numK c 2 9 K) 0 (numV c 2 9 K))).1
    refine ⟨r17, σ13, he13, hS13.1, hr13, fun σ18 e18 => ⟨rfl, ?_, ?_, ?_, ?_⟩⟩
    · rw [← e18]
      have hF10 : Fr (AD v) σ5 σ10 := by rw [← e10]; exact Fr.w (by omega) (Or.inr (Or.inl ⟨rfl, by omega, by omega⟩))
      exact (((hF5.weak (AR_AD v)).trans hF10).trans (hF13.weak (AR_AD v))).trans (Fr.w (by omega) (Or.inr (Or.inl ⟨rfl, by omega, by omega⟩)))
    · rw [← e18, h13]; exact r_w (j := 1) hS13 (by decide) (by rw [← h13]; exact hr13)
    · rw [← e18]
      have f7 : ∀ j : Nat, j ≠ 1 → (fiF c (K, D, E)).1 j = numK c 2 9 (kset (numK c 2 9 K) 0 (numV c 2 9 K)) j := fun j q => by
        show kset (numK c 2 9 (kset (numK c 2 9 K) 0 (numV c 2 9 K))) 1 (numV c 2 9 (kset (numK c 2 9 K) 0 (numV c 2 9 K))) j = _
        exact kset_ne q
      exact (Ct.wk (j := 1) hv ((hC10.ar hv hF13).num (c := c) (lo := 2) (hi := 9)) (by decide)).k (by rw [f7 7 (by decide)]; exact Int.le_refl _) (by rw [f7 8 (by decide)]; exact Int.le_refl _)
    · show Kb (kset (numK c 2 9 (kset (numK c 2 9 K) 0 (numV c 2 9 K))) 1 (numV c 2 9 (kset (numK c 2 9 K) 0 (numV c 2 9 K))))
      unfold Kb
      rw [kset_eq, kset_ne (by decide), kset_ne (by decide), kset_ne (by decide), kset_ne (by decide), kset_ne (by decide), numK_ne (by decide) (by decide) (by decide), numK_ne (by decide) (by decide) (by decide), numK_ne (by decide) (by decide) (by decide), numK_ne (by decide) (by decide) (by decide), numK_ne (by decide) (by decide) (by decide), kset_eq, kset_ne (by decide), kset_ne (by decide), kset_ne (by decide), kset_ne (by decide)]
      exact ⟨by omega, by omega, hB5.2.2.1, hB5.2.2.2.1, hB5.2.2.2.2.1, hB5.2.2.2.2.2⟩
  · have e1 : nbF c w P = stF c P := by unfold nbF; rw [if_neg (by omega), if_pos q]
    have h8 : P.1 2 < 8 := by
      by_cases z : P.1 2 < 8
      · exact z
      · exact absurd (Or.inl ⟨q, by omega⟩) hf
    obtain ⟨σ1, he, hF, hC⟩ := s_readStall (sc := sc) (d := d) h h8
    exact ⟨σ1, he, hC.1.1, rfl, hF, by rw [e1]; exact hC⟩
  · have e1 : nbF c w P = suF c P := by unfold nbF; rw [if_neg (by omega), if_neg (by omega), if_pos q]
    have h8 : P.1 7 < 20 := by
      by_cases z : P.1 7 < 20
      · exact z
      · exact absurd (Or.inr (Or.inl ⟨q, by omega⟩)) hf
    obtain ⟨σ1, he, hF, hC⟩ := s_readSun (sc := sc) (d := d) h h8
    exact ⟨σ1, he, hC.1.1, rfl, hF, by rw [e1]; exact hC⟩
  · have e1 : nbF c w P = raF c P := by unfold nbF; rw [if_neg (by omega), if_neg (by omega), if_neg (by omega), if_pos q]
    have h8 : P.1 8 < 20 := by
      by_cases z : P.1 8 < 20
      · exact z
      · exact absurd (Or.inr (Or.inr ⟨q, by omega⟩)) hf
    obtain ⟨σ1, he, hF, hC⟩ := s_readRate (sc := sc) (d := d) h h8
    exact ⟨σ1, he, hC.1.1, rfl, hF, by rw [e1]; exact hC⟩
  · have e1 : nbF c w P = oneF c 3 1440 P := by unfold nbF; rw [if_neg (by omega), if_neg (by omega), if_neg (by omega), if_neg (by omega), if_pos q]
    obtain ⟨r, σ1, he, hG1, hr, hF, hC⟩ := s_one (sc := sc) (d := d + 1) (j := 3) (hi := 1440) h (by omega) (by omega)
    exact ⟨r, σ1, he, hG1, hr, fun σ2 e2 => ⟨rfl, by rw [← e2]; exact hF, by rw [e1, ← e2]; exact hC⟩⟩
  · have e1 : nbF c w P = oneF c 4 1440 P := by unfold nbF; rw [if_neg (by omega), if_neg (by omega), if_neg (by omega), if_neg (by omega), if_neg (by omega), if_pos q]
    obtain ⟨r, σ1, he, hG1, hr, hF, hC⟩ := s_one (sc := sc) (d := d + 1) (j := 4) (hi := 1440) h (by omega) (by omega)
    exact ⟨r, σ1, he, hG1, hr, fun σ2 e2 => ⟨rfl, by rw [← e2]; exact hF, by rw [e1, ← e2]; exact hC⟩⟩
  · have e1 : nbF c w P = oneF c 5 8 P := by unfold nbF; rw [if_neg (by omega), if_neg (by omega), if_neg (by omega), if_neg (by omega), if_neg (by omega), if_neg (by omega), if_pos q]
    obtain ⟨r, σ1, he, hG1, hr, hF, hC⟩ := s_one (sc := sc) (d := d + 1) (j := 5) (hi := 8) h (by omega) (by omega)
    exact ⟨r, σ1, he, hG1, hr, fun σ2 e2 => ⟨rfl, by rw [← e2]; exact hF, by rw [e1, ← e2]; exact hC⟩⟩
/-- how many clauses there are does not change within one -/
theorem nbF_6 {P : PS} {w : Int} : (nbF c w P).1 6 = P.1 6 := by
  obtain ⟨K, D, E⟩ := P
  have n6 : ∀ (lo hi : Int) (K : Nat → Int), numK c lo hi K 6 = K 6 := fun lo hi K => numK_ne (by decide) (by decide) (by decide)
  unfold nbF
  split
  · show kset (numK c 2 9 (kset (numK c 2 9 K) 0 (numV c 2 9 K))) 1 (numV c 2 9 (kset (numK c 2 9 K) 0 (numV c 2 9 K))) 6 = K 6
    rw [kset_ne (by decide), n6, kset_ne (by decide), n6]
  · split
    · show kset (stK5 c K D) 2 (K 2 + 1) 6 = K 6
      rw [kset_ne (by decide)]
      unfold stK5; rw [n6]
      have e4 : stK4 c K D 6 = stK3 c K 6 := by
        unfold stK4
        by_cases z : ∃ k : Int, At D (K 2) (stX c K) (stY c K) k
        · rw [kif_pos z, flt_ne (by decide) (by decide)]
        · rw [kif_neg z]
      rw [e4]; unfold stK3 stK2 stK1; rw [n6, skK_ne (by decide), n6]
    · split
      · show suK5 c K 6 = K 6
        unfold suK5 suK4 suK3 suK2; rw [n6, n6, n6, n6]; exact kset_ne (by decide)
      · split
        · show numK c 0 9 (numK c 0 1439 (raK1 c K)) 6 = K 6
          rw [n6, n6]; exact kset_ne (by decide)
        · split
          · show kset (numK c 0 1440 K) 3 (numV c 0 1440 K) 6 = K 6
            rw [kset_ne (by decide), n6]
          · split
            · show kset (numK c 0 1440 K) 4 (numV c 0 1440 K) 6 = K 6
              rw [kset_ne (by decide), n6]
            · split
              · show kset (numK c 0 8 K) 5 (numV c 0 8 K) 6 = K 6
                rw [kset_ne (by decide), n6]
              · unfold ofF
                split
                · split
                  · show numK c 0 3 (ofK1 c K) 6 = K 6
                    unfold ofK1; rw [n6, n6]
                  · split
                    · show numK c 0 60 (numK c 0 5 (ofK1 c K)) 6 = K 6
                      unfold ofK1; rw [n6, n6, n6]
                    · show ofK1 c K 6 = K 6
                      unfold ofK1; rw [n6]
                · show ofK1 c K 6 = K 6
                  unfold ofK1; rw [n6]
theorem s_readClause {P : PS} (h : CRep σ u v c e P) : TV sc (d + 6) mX5_readClause [.ref 1, .ref v] σ (fun σ1 => Fr (AD v) σ σ1 ∧ CRep σ1 u v c e (clF c P)) := by
  obtain ⟨hS, hC, hB⟩ := h
  obtain ⟨K, D, E⟩ := P
  have hv := hS.2.1
  have hmv : v = 39 ∨ v = 60 := hv
  obtain ⟨hG, -, hR, h0, hK⟩ := hS
  have hK' : Kc σ v = K := hK
  have h0' : 0 ≤ K 11 ∧ K 11 ≤ e := h0
  have e11 : K 11 = rI σ 1 3 := by rw [← hK']; rfl
  have e6 : K 6 = rI σ 1 6 := by rw [← hK']; rfl
  apply T.void
  apply t_X5_readClause hG hv
  intro z1 ez1
  obtain ⟨r8, σ4, he4, hr4, hF4, h4a, h4w, h4b⟩ := s_readWord (sc := sc) (d := d + 3) hG hR (by omega)
  rw [← e11] at h4a h4w ez1
  have hFA : Fr AR σ σ4 := hF4.weak A13_AR
  have hkb := scF_bd hR.1.l (K 11)
  have hS4 : St σ4 u v c e (lwK c K) := by
    refine ⟨hF4.g hG, hv, hR.fr hFA AR_no (fun i q => by have := q.1; omega), ?_, ?_⟩
    · show 0 ≤ kset K 11 (scF c isLt (K 11)) 11 ∧ kset K 11 (scF c isLt (K 11)) 11 ≤ e
      rw [kset_eq]
      have := hkb.2 h0'.2
      omega
    · rw [Kc_at hv hF4 h4a, hK']; rfl
  have l_ne : ∀ j : Nat, j ≠ 11 → lwK c K j = K j := fun j q => kset_ne q
  have hC4 : Ct σ4 v D E (lwK c K) := (hC.ar hv hFA).k (by rw [l_ne 7 (by decide)]; exact Int.le_refl _) (by rw [l_ne 8 (by decide)]; exact Int.le_refl _)
  have hB4 : Kb (lwK c K) := Kb.congr hB (l_ne 0 (by decide)) (l_ne 1 (by decide)) (l_ne 2 (by decide)) (l_ne 6 (by decide)) (l_ne 7 (by decide)) (l_ne 8 (by decide))
  have ew : clW c K = r8 := h4w.symm
  have k6 : rI σ4 1 6 = K 6 := by rw [e6]; exact hF4.rw (by omega) (fun q => by have := q.2; omega)
  have hfull : ∀ w : Int, fullK w (lwK c K) ↔ fullK w K := fun w => by unfold fullK; rw [l_ne 2 (by decide), l_ne 7 (by decide), l_ne 8 (by decide)]
  have bl : ∀ a : Int, inR a → ∃ σ9 : aH, Ev sc (d + 5) mX5_blame [.ref 1, .int (nZ a), .int (nZ z1)] σ4 (.inl none) σ9 ∧ G σ9 u ∧ Fr (AD v) σ σ9 ∧ CRep σ9 u v c e (flt (lwK c K) a (K 11), D, E) := by
    intro a ra
    obtain ⟨σ9, he9, hF9, hS9⟩ := r_blame (sc := sc) (d := d + 4) (a := a) (b := z1) hS4 ra (by rw [ez1]; have := hR.1.1; exact ⟨by omega, by omega⟩)
    rw [ez1] at hS9
    refine ⟨σ9, he9, hS9.1, (hFA.trans hF9).weak (AR_AD v), hS9, (hC4.ar hv hF9).k (by show lwK c K 7 ≤ flt (lwK c K) a (K 11) 7; rw [flt_ne (by decide) (by decide)]; exact Int.le_refl _) (by show lwK c K 8 ≤ flt (lwK c K) a (K 11) 8; rw [flt_ne (by decide) (by decide)]; exact Int.le_refl _), ?_⟩
    exact hB4.congr (flt_ne (by decide) (by decide)) (flt_ne (by decide) (by decide)) (flt_ne (by decide) (by decide)) (flt_ne (by decide) (by decide)) (flt_ne (by decide) (by decide)) (flt_ne (by decide) (by decide))
  have good : r8 ≠ -1 → K 6 < 60 → ¬ fullK r8 K → ¬ (r8 = 0 ∧ 0 < K 6) → ∃ σ18 : aH, Ev sc (d + 5) mX5_readNumbers [.ref 1, .int (nZ r8), .ref v] σ4 (.inl none) σ18 ∧ G σ18 u ∧ ∃ σ22 : aH, Ev sc (d + 5) mX5_readEnd [.ref 1] σ18 (.inl none) σ22 ∧ G σ22 u ∧ inR (rI σ22 1 6 + 1) ∧ ∀ σ27 : aH, wI σ22 1 6 (rI σ22 1 6 + 1) = σ27 → QV (fun σ1 => Fr (AD v) σ σ1 ∧ CRep σ1 u v c e (clF c (K, D, E))) (.inl none) σ27 := by
    intro w1 w2 w3 w4
    obtain ⟨σ18, he18, hF18, hC18⟩ := s_readNumbers (sc := sc) (d := d) (w := r8) (P := (lwK c K, D, E)) ⟨hS4, hC4, hB4⟩ (by omega) (by rw [hfull]; exact w3)
    obtain ⟨hS18, hCt18, hB18⟩ := hC18
    obtain ⟨Q, hQ⟩ : ∃ Q : PS, Q = nbF c r8 (lwK c K, D, E) := ⟨_, rfl⟩
    rw [← hQ] at hS18 hCt18 hB18
    have q6 : Q.1 6 = K 6 := by rw [hQ, nbF_6]; exact l_ne 6 (by decide)
    obtain ⟨σ22, he22, hF22, hS22⟩ := r_end (sc := sc) (d := d + 2) hS18
    have en6 : enK c Q.1 6 = Q.1 6 := by
      unfold enK
      split
      · rw [kset_ne (by decide), skK_ne (by decide)]
      · rw [flt_ne (by decide) (by decide), skK_ne (by decide)]
    have en_ne : ∀ j : Nat, j ≠ 9 → j ≠ 10 → j ≠ 11 → enK c Q.1 j = Q.1 j := by
      intro j a b q
      unfold enK
      split
      · rw [kset_ne q, skK_ne q]
      · rw [flt_ne a b, skK_ne q]
    have r6' : rI σ22 1 6 = enK c Q.1 6 := by rw [← hS22.2.2.2.2]; rfl
    have b6 := hB.2.2.2.1
    have b6' : 0 ≤ K 6 := b6.1
    refine ⟨σ18, he18, hS18.1, σ22, he22, hS22.1, by rw [r6', en6, q6]; omega, fun σ27 e27 => ⟨rfl, ?_, ?_⟩⟩
    · rw [← e27]
      exact (((hFA.weak (AR_AD v)).trans hF18).trans (hF22.weak (AR_AD v))).trans (Fr.w (by omega) (Or.inl ⟨rfl, by omega, by omega⟩))
    · have eC : clF c (K, D, E) = ceF c Q := by
        unfold clF
        show pif (clW c K = -1) _ _ = _
        rw [pif_neg (by rw [ew]; exact w1)]
        show pif (60 ≤ K 6 ∨ fullK (clW c K) K) _ _ = _
        rw [pif_neg (by rw [ew]; rintro (z | z); omega; exact w3 z)]
        show pif (clW c K = 0 ∧ 0 < K 6) _ _ = _
        rw [pif_neg (by rw [ew]; exact w4)]
        show ceF c (nbF c (clW c K) (lwK c K, D, E)) = _
        rw [ew, ← hQ]
      rw [eC, ← e27, r6']
      refine ⟨r_w (j := 6) hS22 (by decide) (by rw [en6, q6]; omega), ?_, ?_⟩
      · exact (Ct.wk (j := 6) hv (hCt18.ar hv hF22) (by decide)).k (by show Q.1 7 ≤ kset (enK c Q.1) 6 (enK c Q.1 6 + 1) 7; rw [kset_ne (by decide), en_ne 7 (by decide) (by decide) (by decide)]; exact Int.le_refl _) (by show Q.1 8 ≤ kset (enK c Q.1) 6 (enK c Q.1 6 + 1) 8; rw [kset_ne (by decide), en_ne 8 (by decide) (by decide) (by decide)]; exact Int.le_refl _)
      · show Kb (kset (enK c Q.1) 6 (enK c Q.1 6 + 1))
        unfold Kb
        rw [kset_eq, kset_ne (by decide), kset_ne (by decide), kset_ne (by decide), kset_ne (by decide), kset_ne (by decide), en_ne 0 (by decide) (by decide) (by decide), en_ne 1 (by decide) (by decide) (by decide), en_ne 2 (by decide) (by decide) (by decide), en_ne 7 (by decide) (by decide) (by decide), en_ne 8 (by decide) (by decide) (by decide), en6, q6]
        exact ⟨hB18.1, hB18.2.1, hB18.2.2.1, by omega, hB18.2.2.2.2.1, hB18.2.2.2.2.2⟩
  refine ⟨r8, σ4, he4, hS4.1, hr4, fun w1 => ?_, fun w1 => ?_⟩
  rotate_left
  · have eC : clF c (K, D, E) = (flt (lwK c K) 1 (K 11), D, E) := by
      unfold clF
      show pif (clW c K = -1) _ _ = _
      rw [pif_pos (by rw [ew]; exact w1)]
    obtain ⟨σ9, x1, x2, x3, x4⟩ := bl 1 (by decide)
    exact ⟨σ9, x1, x2, rfl, x3, by rw [eC]; exact x4⟩
  have c3 : (60 ≤ K 6 ∨ fullK r8 K) → clF c (K, D, E) = (flt (lwK c K) 3 (K 11), D, E) := by
    intro z
    unfold clF
    show pif (clW c K = -1) _ _ = _
    rw [pif_neg (by rw [ew]; exact w1)]
    show pif (60 ≤ K 6 ∨ fullK (clW c K) K) _ _ = _
    rw [pif_pos (by rw [ew]; exact z)]
  rw [k6]
  refine ⟨fun w2 => ?_, fun w2 => ?_⟩
  · obtain ⟨σ9, x1, x2, x3, x4⟩ := bl 3 (by decide)
    exact ⟨σ9, x1, x2, rfl, x3, by rw [c3 (Or.inl w2)]; exact x4⟩
  · obtain ⟨r17, σ13, he13, hr13, e13, h13⟩ := s_isFull (sc := sc) (d := d + 4) (w := r8) hS4.1 hv (by omega)
    subst e13
    rw [hS4.2.2.2.2, hfull] at h13
    refine ⟨r17, σ13, he13, hS4.1, hr13, ?_⟩
    rw [k6]
    refine ⟨fun w3 => ⟨fun w4 => good w1 (by omega) ?_ (fun z => w4 z.1), fun w4 => ⟨fun w5 => good w1 (by omega) ?_ (by omega), fun w5 => ?_⟩⟩, fun w3 => ?_⟩
    · rcases h13 with h13 | h13
      · omega
      · exact h13.2
    · rcases h13 with h13 | h13
      · omega
      · exact h13.2
    · have hnf : ¬ fullK r8 K := by
        rcases h13 with h13 | h13
        · omega
        · exact h13.2
      have eC : clF c (K, D, E) = (flt (lwK c K) 4 (K 11), D, E) := by
        unfold clF
        show pif (clW c K = -1) _ _ = _
        rw [pif_neg (by rw [ew]; exact w1)]
        show pif (60 ≤ K 6 ∨ fullK (clW c K) K) _ _ = _
        rw [pif_neg (by rw [ew]; rintro (z | z); omega; exact hnf z)]
        show pif (clW c K = 0 ∧ 0 < K 6) _ _ = _
        rw [pif_pos (by rw [ew]; omega)]
      obtain ⟨σ9, x1, x2, x3, x4⟩ := bl 4 (by decide)
      exact ⟨σ9, x1, x2, rfl, x3, by rw [eC]; exact x4⟩
    · have hf : fullK r8 K := by
        rcases h13 with h13 | h13
        · exact h13.2
        · omega
      obtain ⟨σ9, x1, x2, x3, x4⟩ := bl 3 (by decide)
      exact ⟨σ9, x1, x2, rfl, x3, by rw [c3 (Or.inr hf)]; exact x4⟩
end
