/-! THE TEXT: what a clause tells keeps its bounds. -/
section
variable {c : Int → Int} {K : Nat → Int} {D : Nat → Int → Int} {E : Nat → Nat → Option Int}
theorem flt_bad {a b : Int} (ha : a ≠ 0) : flt K a b 9 ≠ 0 := by
  by_cases z : K 9 = 0
  · rw [flt_0 z, kset_ne (by decide), kset_eq]; exact ha
  · rw [flt_1 z]; exact z
theorem numV_0 {hi : Int} : 0 ≤ numV c 0 hi K := by
  have := (numV_bd (c := c) (lo := 0) (hi := hi) (K := K)).1; omega
/-- the numbers of a clause, if none of them is wrong -/
theorem PDd.nb {w : Int} (h : PDd (K, D, E)) (nz : ¬ (w = 0 ∧ 0 < K 6)) (h9 : (nbF c w (K, D, E)).1 9 = 0) : DI (nbF c w (K, D, E)).1 (nbF c w (K, D, E)).2.1 ∧ EI (nbF c w (K, D, E)).2.2 ∧ TI3 (nbF c w (K, D, E)).1 := by
  obtain ⟨hb, h6, hd, hE, hT⟩ := h
  dsimp only at hb h6 hd hE hT
  unfold nbF at h9 ⊢
  by_cases w0 : w = 0
  · rw [if_pos w0]
    have k6 : K 6 = 0 := by have := hb.2.2.2.1; omega
    have k2 : K 2 = 0 := h6 k6
    have e : ∀ i : Nat, i ≠ 0 → i ≠ 1 → i ≤ 8 → (fiF c (K, D, E)).1 i = K i := fun i a b z => by
      show kset (numK c 2 9 (kset (numK c 2 9 K) 0 (numV c 2 9 K))) 1 _ i = K i
      rw [kset_ne b, numK_ne (by omega) (by omega) (by omega), kset_ne a, numK_ne (by omega) (by omega) (by omega)]
    have e2 : (fiF c (K, D, E)).1 2 = 0 := (e 2 (by decide) (by decide) (by decide)).trans k2
    refine ⟨⟨fun i i0 i1 => by omega, fun x y i j a b => ?_⟩, hE, hT.of (e 3 (by decide) (by decide) (by decide)) (e 4 (by decide) (by decide) (by decide)) (e 5 (by decide) (by decide) (by decide))⟩
    have := a.1; have := a.2.1; omega
  · rw [if_neg w0] at h9 ⊢
    by_cases w1 : w = 1
    · rw [if_pos w1] at h9 ⊢
      have q5 : stK5 c K D 9 = 0 := by
        have z : kset (stK5 c K D) 2 (K 2 + 1) 9 = 0 := h9
        rw [kset_ne (by decide)] at z; exact z
      have hh : 0 ≤ stH c K D ∧ stH c K D ≤ 40 := (numV_bd (c := c) (lo := 0) (hi := 40) (K := stK4 c K D)).2 q5
      have q4 : stK4 c K D 9 = 0 := numK_0 q5
      have hno : ¬ ∃ k : Int, At D (K 2) (stX c K) (stY c K) k := fun z => by
        unfold stK4 at q4
        rw [kif_pos z] at q4
        exact flt_bad (by decide) q4
      have q3 : stK3 c K 9 = 0 := by
        unfold stK4 at q4
        rw [kif_neg hno] at q4; exact q4
      have hy : 0 ≤ stY c K ∧ stY c K ≤ stK2 c K 1 - 1 := (numV_bd (c := c) (lo := 0) (hi := stK2 c K 1 - 1) (K := stK2 c K)).2 q3
      have q2 : stK2 c K 9 = 0 := numK_0 q3
      have q1 : stK1 c K 9 = 0 := (show stK2 c K 9 = stK1 c K 9 from skK_ne (by decide)).symm.trans q2
      have hx : 0 ≤ stX c K ∧ stX c K ≤ K 0 - 1 := (numV_bd (c := c) (lo := 0) (hi := K 0 - 1) (K := K)).2 q1
      have e1 : stK2 c K 1 = K 1 := (show stK2 c K 1 = stK1 c K 1 from skK_ne (by decide)).trans (numK_ne (by decide) (by decide) (by decide))
      have e5 : ∀ i : Nat, i ≤ 8 → stK5 c K D i = K i := fun i hi => by
        have b3 : stK3 c K i = K i := by
          show numK c 0 (stK2 c K 1 - 1) (stK2 c K) i = K i
          rw [numK_ne (by omega) (by omega) (by omega)]
          show skK c (stK1 c K) i = K i
          rw [skK_ne (by omega)]
          exact numK_ne (by omega) (by omega) (by omega)
        show numK c 0 40 (stK4 c K D) i = K i
        rw [numK_ne (by omega) (by omega) (by omega)]
        unfold stK4
        rw [kif_neg hno]; exact b3
      have e : ∀ i : Nat, i ≠ 2 → i ≤ 8 → (stF c (K, D, E)).1 i = K i := fun i a hi => by
        show kset (stK5 c K D) 2 (K 2 + 1) i = K i
        rw [kset_ne a]; exact e5 i hi
      have e2 : (stF c (K, D, E)).1 2 = K 2 + 1 := (show kset (stK5 c K D) 2 (K 2 + 1) 2 = K 2 + 1 from kset_eq)
      refine ⟨?_, hE, hT.of (e 3 (by decide) (by decide)) (e 4 (by decide) (by decide)) (e 5 (by decide) (by decide))⟩
      exact hd.add hb.2.2.1.1 (e 0 (by decide) (by decide)) (e 1 (by decide) (by decide)) e2 ⟨hx.1, (show stX c K < K 0 by omega)⟩ ⟨hy.1, (show stY c K < K 1 by omega)⟩ hh hno
    · rw [if_neg w1]
      by_cases w4 : w = 4
      · rw [if_pos w4]
        have e : ∀ i : Nat, i ≤ 5 → (suF c (K, D, E)).1 i = K i := fun i hi => by
          show numK c 0 9 (numK c 0 2 (numK c 0 2 (numK c 0 1439 (kset K 7 (K 7 + 1))))) i = K i
          rw [numK_ne (by omega) (by omega) (by omega), numK_ne (by omega) (by omega) (by omega), numK_ne (by omega) (by omega) (by omega), numK_ne (by omega) (by omega) (by omega), kset_ne (by omega)]
        have bi : 0 ≤ suI c K ∧ suI c K ≤ 2 := numV_09 (by decide)
        have bj : 0 ≤ suJ c K ∧ suJ c K ≤ 2 := numV_09 (by decide)
        have bn : 0 ≤ suN c K ∧ suN c K ≤ 9 := numV_09 (by decide)
        exact ⟨hd.of (e 0 (by decide)) (e 1 (by decide)) (e 2 (by decide)), hE.tell (w := 0) (Or.inl ⟨rfl, (show 0 ≤ 10 * (suI c K + 3 * suJ c K) + suN c K by omega), (show 10 * (suI c K + 3 * suJ c K) + suN c K ≤ 89 by omega)⟩), hT.of (e 3 (by decide)) (e 4 (by decide)) (e 5 (by decide))⟩
      · rw [if_neg w4]
        by_cases w5 : w = 5
        · rw [if_pos w5]
          have e : ∀ i : Nat, i ≤ 5 → (raF c (K, D, E)).1 i = K i := fun i hi => by
            show numK c 0 9 (numK c 0 1439 (kset K 8 (K 8 + 1))) i = K i
            rw [numK_ne (by omega) (by omega) (by omega), numK_ne (by omega) (by omega) (by omega), kset_ne (by omega)]
          have bn : 0 ≤ numV c 0 9 (numK c 0 1439 (raK1 c K)) ∧ numV c 0 9 (numK c 0 1439 (raK1 c K)) ≤ 9 := numV_09 (by decide)
          exact ⟨hd.of (e 0 (by decide)) (e 1 (by decide)) (e 2 (by decide)), hE.tell (w := 1) (Or.inr ⟨rfl, bn.1, bn.2⟩), hT.of (e 3 (by decide)) (e 4 (by decide)) (e 5 (by decide))⟩
        · rw [if_neg w5]
          have one : ∀ (i : Nat) (hi : Int), (i = 3 ∧ hi = 1440) ∨ (i = 4 ∧ hi = 1440) ∨ (i = 5 ∧ hi = 8) → DI (kset (numK c 0 hi K) i (numV c 0 hi K)) D ∧ EI E ∧ TI3 (kset (numK c 0 hi K) i (numV c 0 hi K)) := fun i hi hh => by
            have e : ∀ j : Nat, j ≠ i → j ≤ 8 → kset (numK c 0 hi K) i (numV c 0 hi K) j = K j := fun j a b => by
              rw [kset_ne a, numK_ne (by omega) (by omega) (by omega)]
            have bv : 0 ≤ numV c 0 hi K ∧ numV c 0 hi K ≤ hi := numV_09 (by omega)
            refine ⟨hd.of (e 0 (by omega) (by decide)) (e 1 (by omega) (by decide)) (e 2 (by omega) (by decide)), hE, ?_⟩
            have r : ∀ j : Nat, j ≤ 8 → kset (numK c 0 hi K) i (numV c 0 hi K) j = K j ∨ (j = i ∧ kset (numK c 0 hi K) i (numV c 0 hi K) j = numV c 0 hi K) := fun j b => by
              by_cases z : j = i
              · exact Or.inr ⟨z, by rw [z]; exact kset_eq⟩
              · exact Or.inl (e j z b)
            have r3 := r 3 (by decide); have r4 := r 4 (by decide); have r5 := r 5 (by decide)
            obtain ⟨t3, t4, t5⟩ := hT
            exact ⟨by omega, by omega, by omega⟩
          by_cases w6 : w = 6
          · rw [if_pos w6]; exact one 3 1440 (by omega)
          · rw [if_neg w6]
            by_cases w8 : w = 8
            · rw [if_pos w8]; exact one 4 1440 (by omega)
            · rw [if_neg w8]
              by_cases w9 : w = 9
              · rw [if_pos w9]; exact one 5 8 (by omega)
              · rw [if_neg w9]
                have os : 0 ≤ ofS c K := numV_0
                unfold ofF
                dsimp only
                split
                · split
                  · have b := numV_09 (c := c) (hi := 3) (K := ofK1 c K) (by decide)
                    exact ⟨hd.num.num.row os (by omega), hE, hT.num.num⟩
                  · split
                    · have b := numV_09 (c := c) (hi := 5) (K := ofK1 c K) (by decide)
                      have b2 := numV_09 (c := c) (hi := 60) (K := numK c 0 5 (ofK1 c K)) (by decide)
                      exact ⟨(hd.num.num.num.row os (by omega)).row os (by omega), hE, hT.num.num.num⟩
                    · exact ⟨hd.num.row os (by omega), hE, hT.num⟩
                · exact ⟨hd.num, hE, hT.num⟩
theorem PDd.cl {P : PS} (h : PDd P) (h0 : P.1 9 = 0) (h9 : (clF c P).1 9 = 0) : PDd (clF c P) ∧ (clF c P).1 6 = P.1 6 + 1 := by
  obtain ⟨K, D, E⟩ := P
  have hb := h.1.cl (c := c) (D := D) (E := E) h0 h9
  have l9 : lwK c K 9 = 0 := (show lwK c K 9 = K 9 from kset_ne (by decide)).trans h0
  have f9 : ∀ a b : Int, flt (lwK c K) a b 9 = a := fun a b => by rw [flt_0 l9, kset_ne (by decide), kset_eq]
  have lk : ∀ i : Nat, i ≠ 11 → lwK c K i = K i := fun i hi => kset_ne hi
  have key : (∃ w : Int, ¬ (w = 0 ∧ 0 < K 6) ∧ clF c (K, D, E) = ceF c (nbF c w (lwK c K, D, E))) := by
    unfold clF at h9 ⊢
    dsimp only at h9 ⊢
    by_cases c1 : clW c K = -1
    · rw [pif_pos c1] at h9
      have z : flt (lwK c K) 1 (K 11) 9 = 0 := h9
      rw [f9] at z; exact absurd z (by decide)
    · rw [pif_neg c1] at h9 ⊢
      by_cases c2 : 60 ≤ K 6 ∨ fullK (clW c K) K
      · rw [pif_pos c2] at h9
        have z : flt (lwK c K) 3 (K 11) 9 = 0 := h9
        rw [f9] at z; exact absurd z (by decide)
      · rw [pif_neg c2] at h9 ⊢
        by_cases c3 : clW c K = 0 ∧ 0 < K 6
        · rw [pif_pos c3] at h9
          have z : flt (lwK c K) 4 (K 11) 9 = 0 := h9
          rw [f9] at z; exact absurd z (by decide)
        · rw [pif_neg c3]
          exact ⟨clW c K, c3, rfl⟩
  obtain ⟨w, nz, eq⟩ := key
  rw [eq] at hb h9 ⊢
  have hl : PDd (lwK c K, D, E) := by
    obtain ⟨b1, b2, b3, b4, b5⟩ := h
    refine ⟨b1.of (fun i hi => lk i (by omega)), ?_, b3.of (lk 0 (by decide)) (lk 1 (by decide)) (lk 2 (by decide)), b4, b5.of (lk 3 (by decide)) (lk 4 (by decide)) (lk 5 (by decide))⟩
    show lwK c K 6 = 0 → lwK c K 2 = 0
    rw [lk 6 (by decide), lk 2 (by decide)]; exact b2
  obtain ⟨Q, hQ⟩ : ∃ Q : PS, Q = nbF c w (lwK c K, D, E) := ⟨_, rfl⟩
  have q6 : Q.1 6 = K 6 := by rw [hQ, nbF_6]; exact lk 6 (by decide)
  have hn := hl.nb (c := c) (w := w) (by rw [lk 6 (by decide)]; exact nz)
  rw [← hQ] at hb h9 hn ⊢
  have c9 : (ceF c Q).1 9 = enK c Q.1 9 := (show kset (enK c Q.1) 6 (enK c Q.1 6 + 1) 9 = _ from kset_ne (by decide))
  have q9 : Q.1 9 = 0 := enK_0 (c9.symm.trans h9)
  have cn : ∀ i : Nat, i ≤ 5 → (ceF c Q).1 i = Q.1 i := fun i hi => (show kset (enK c Q.1) 6 (enK c Q.1 6 + 1) i = _ by rw [kset_ne (by omega)]; exact enK_ne (by omega) (by omega) (by omega))
  have c6 : (ceF c Q).1 6 = K 6 + 1 := (show kset (enK c Q.1) 6 (enK c Q.1 6 + 1) 6 = _ by rw [kset_eq, enK_ne (by decide) (by decide) (by decide), q6])
  obtain ⟨n1, n2, n3⟩ := hn q9
  have k60 : 0 ≤ K 6 := h.1.2.2.2.1.1
  refine ⟨⟨hb, fun z => by omega, n1.of (cn 0 (by decide)) (cn 1 (by decide)) (cn 2 (by decide)), n2, n3.of (cn 3 (by decide)) (cn 4 (by decide)) (cn 5 (by decide))⟩, c6⟩
theorem PDd.sk {P : PS} (h : PDd P) : PDd (skK c P.1, P.2) := by
  have lk : ∀ i : Nat, i ≠ 11 → skK c P.1 i = P.1 i := fun i hi => kset_ne hi
  obtain ⟨b1, b2, b3, b4, b5⟩ := h
  refine ⟨b1.of (fun i hi => lk i (by omega)), ?_, b3.of (lk 0 (by decide)) (lk 1 (by decide)) (lk 2 (by decide)), b4, b5.of (lk 3 (by decide)) (lk 4 (by decide)) (lk 5 (by decide))⟩
  show skK c P.1 6 = 0 → skK c P.1 2 = 0
  rw [lk 6 (by decide), lk 2 (by decide)]; exact b2
theorem PDd.start : PDd (skK c K0, D, fun _ _ => none) := by
  have s : PDd (K0, D, fun _ _ => none) := by
    refine ⟨(show PB K0 by unfold PB; decide), fun _ => rfl, ⟨fun i i0 i1 => ?_, fun x y i j a b => ?_⟩, ⟨fun t x z => absurd z (by simp), fun t x z => absurd z (by simp)⟩, (show TI3 K0 by unfold TI3; decide)⟩
    · have z : i < 0 := i1
      omega
    · have z : i < 0 := a.2.1
      have := a.1; omega
  exact s.sk
theorem scn_stop {p : Int → Bool} {e : Int} (hc : ∀ k : Int, e ≤ k → p (c k) = false) : ∀ (f : Nat) (k : Int), (e - k).toNat ≤ f → p (c (scn c p f k)) = false
  | 0, k, h => by
    show p (c k) = false
    exact hc k (by omega)
  | f + 1, k, h => by
    show p (c (if p (c k) then scn c p f (k + 1) else k)) = false
    by_cases q : p (c k) = true
    · rw [if_pos q]; exact scn_stop hc f (k + 1) (by omega)
    · rw [if_neg q]; exact Bool.eq_false_iff.mpr q
/-- behind blanks there is none -/
theorem sk_sk {e k : Int} (hT : TxS c e) (k0 : 0 ≤ k) : scF c isB (scF c isB k) = scF c isB k := by
  have h := scn_stop hT.b 601 k (by have := hT.1; omega)
  have b := (scF_bd hT.b k).1
  have st := scF_step hT.1.2 hT.b (k := scF c isB k) (by omega)
  rw [st]
  have h' : isB (c (scF c isB k)) = false := h
  rw [h']; rfl
end
