/-! THE REFERENCE: the numbers of a clause. -/
section
variable {sc : Nat × (Nat → Int32)} {d : Nat} {σ : aH} {u : Nat} {c : Int → Int} {e : Int} {K : Nat → Int} {D : Nat → Int → Int} {E : Nat → Nat → Option Int}
abbrev ACm : Nat → Int → Prop := fun a i => (a = 76 ∧ (i = 4 ∨ i = 5 ∨ i = 6 ∨ i = 7 ∨ i = 38 ∨ i = 39)) ∨ (a = 79 ∨ (82 ≤ a ∧ a ≤ 89) ∨ (101 ≤ a ∧ a ≤ 120) ∨ (143 ≤ a ∧ a ≤ 162))
theorem Mc.w79 {τ : aH} {v : Int} {i : Nat} (h : Mc (rI σ) K D E) (hi : i ≤ 5) (h2 : i ≠ 2) (h8 : K 2 ≤ 8) (rv : inR v) (ew : wI σ 79 (i : Int) v = τ) : Mc (rI τ) (kset K i v) D E := by
  have oth : ∀ (a : Nat) (k : Int), (a ≠ 79 ∨ k.toNat ≠ i) → rI τ a k = rI σ a k := fun a k z => by
    rw [← ew]
    by_cases y : a = 79
    · rw [y]; exact rI_wi (by omega)
    · exact rI_wa y
  refine ⟨fun j hj => ?_, fun s q0 q1 f hf => ?_, h.2.2.1.congr (oth 79 6 (by omega)) (fun k f k0 k1 f0 f1 => oth _ f (by omega)), h.2.2.2.congr (oth 79 7 (by omega)) (fun k f k0 k1 f0 f1 => oth _ f (by omega))⟩
  · by_cases z : j = i
    · rw [z, kset_eq, ← ew]; exact rI_ww rv
    · rw [kset_ne z, oth 79 j (by omega)]; exact h.1 j hj
  · rw [kset_ne (by omega)] at q1
    rw [oth (82 + s.toNat) f (by omega)]; exact h.2.1 s q0 q1 f hf
theorem MK.w79 {τ : aH} {i v : Int} (h : MK σ c e K) (hi : 0 ≤ i) (ew : wI σ 79 i v = τ) : MK τ c e K := by
  have hF : Fr (fun a _ => a = 79) σ τ := by rw [← ew]; exact Fr.w hi rfl
  exact h.fr hF (fun i _ => by show ¬ (76 = 79); omega) (fun i => by show ¬ (77 = 79); omega)
theorem kd_inv : ∀ k : Fin 10, (kd (k.val : Int) = 0 → k.val = 0) ∧ (kd (k.val : Int) = 2 → k.val = 1) ∧ (kd (k.val : Int) = 3 → k.val = 6) ∧ (kd (k.val : Int) = 4 → k.val = 8) ∧ (kd (k.val : Int) = 5 → k.val = 9) ∧ (kd (k.val : Int) = 6 → k.val = 4) ∧ (kd (k.val : Int) = 7 → k.val = 5) ∧ (0 ≤ kd (k.val : Int) ∧ kd (k.val : Int) ≤ 10 ∧ kd (k.val : Int) ≠ 1) ∧ (7 < kd (k.val : Int) → (kd (k.val : Int) = 8 ∧ k.val = 2) ∨ (kd (k.val : Int) = 9 ∧ k.val = 3) ∨ (kd (k.val : Int) = 10 ∧ k.val = 7)) := by decide +kernel
def McN (σ : aH) (P : PS) (m7 : Int) : Prop := Mc (rI σ) P.1 P.2.1 P.2.2 ∧ rI σ 76 7 = m7 ∧ rI σ 76 38 = P.1 7 ∧ rI σ 76 39 = P.1 8 ∧ rI σ 79 6 ≤ P.1 7 ∧ rI σ 79 7 ≤ P.1 8
theorem m_nb {P : aO → aH → Prop} {w : Int} (hw : 0 ≤ w ∧ w < 10) (hG : G σ u) (hK : MK σ c e K) (h0 : K 9 = 0) (hN : McN σ (K, D, E) (K 6)) (h6 : 0 ≤ K 6 ∧ K 6 < 60) (h2 : 0 ≤ K 2 ∧ K 2 ≤ 8) (hb0 : 0 ≤ K 0 ∧ K 0 ≤ 9) (hb1 : 0 ≤ K 1 ∧ K 1 ≤ 9) (h7 : 0 ≤ K 7 ∧ K 7 ≤ 20) (h8 : 0 ≤ K 8 ∧ K 8 ≤ 20) (nf : ¬ fullK w K) (next : ∀ σ1 : aH, Fr ACm σ σ1 → MK σ1 c e (nbF c w (K, D, E)).1 → ((nbF c w (K, D, E)).1 9 = 0 → McN σ1 (nbF c w (K, D, E)) (K 6 + 1)) → L_X10_clause_275 (Ev sc (d + 4)) sc P (kd w) σ1) : L_X10_clause_118 (Ev sc (d + 4)) sc P (kd w) σ := by
  obtain ⟨i0, i2, i3, i4, i5, i6, i7, ib, ir⟩ := kd_inv ⟨w.toNat, by omega⟩
  rw [show (((⟨w.toNat, by omega⟩ : Fin 10).val : Nat) : Int) = w from by show ((w.toNat : Nat) : Int) = w; omega] at i0 i2 i3 i4 i5 i6 i7 ib ir
  have vw : (⟨w.toNat, by omega⟩ : Fin 10).val = w.toNat := rfl
  rw [vw] at i0 i2 i3 i4 i5 i6 i7 ir
  obtain ⟨hC, n7, n38, n39, s6, s7⟩ := hN
  dsimp only at hC n38 n39 s6 s7
  apply v_X10_clause_118 hG (by omega)
  rw [n7]
  refine ⟨by omega, fun σ2 e2 => ?_⟩
  have hF2 : Fr (fun a i => a = 76 ∧ i = 7) σ σ2 := by rw [← e2]; exact Fr.w (by omega) ⟨rfl, rfl⟩
  have hG2 := hF2.g hG
  have o2 : ∀ (a : Nat) (i : Int), 0 ≤ i → (a ≠ 76 ∨ i ≠ 7) → rI σ2 a i = rI σ a i := fun a i p z => hF2.rw p (by show ¬ (a = 76 ∧ i = 7); omega)
  have m7 : rI σ2 76 7 = K 6 + 1 := by rw [← e2]; exact rI_ww (by omega)
  have hM2 : MK σ2 c e K := hK.fr hF2 (fun i z => by show ¬ (76 = 76 ∧ i = 7); omega) (fun i => by show ¬ (77 = 76 ∧ i = 7); omega)
  have hC2 : Mc (rI σ2) K D E := hC.fr hF2 (fun a i p q => by show ¬ (a = 76 ∧ i = 7); omega) h2.2
  have hFc : Fr ACm σ σ2 := hF2.weak (fun a i z => Or.inl ⟨z.1, Or.inr (Or.inr (Or.inr (Or.inl z.2)))⟩)
  have f4 : ∀ τ τ1 : aH, Fr A456 τ τ1 → Fr ACm τ τ1 := fun τ τ1 h => h.weak (fun a i z => Or.inl ⟨z.1, by have := z.2; omega⟩)
  have w79 : ∀ (τ τ1 : aH) (i v : Int), 0 ≤ i → wI τ 79 i v = τ1 → Fr ACm τ τ1 := fun τ τ1 i v p q => by rw [← q]; exact Fr.w p (Or.inr (by omega))
  have ofs : 7 < kd w → ∃ σ5 : aH, Ev sc (d + 4) mX10_ofStall [.ref 76, .int (nZ (kd w))] σ2 (.inl none) σ5 ∧ G σ5 u ∧ L_X10_clause_275 (Ev sc (d + 4)) sc P (kd w) σ5 := by
    intro z
    have hx : (kd w = 8 ∧ w = 2) ∨ (kd w = 9 ∧ w = 3) ∨ (kd w = 10 ∧ w = 7) := by have := ir z; omega
    obtain ⟨σ5, he5, hF5, hM5, hC5⟩ := m_ofStall (sc := sc) (d := d) (x := kd w) (w := w) hG2 hM2 h0 hC2 h2 hx
    have eN : nbF c w (K, D, E) = ofF c w (K, D, E) := by
      unfold nbF
      rw [if_neg (by omega), if_neg (by omega), if_neg (by omega), if_neg (by omega), if_neg (by omega), if_neg (by omega), if_neg (by omega)]
    refine ⟨σ5, he5, hF5.g hG2, next σ5 ?_ (by rw [eN]; exact hM5) (fun y => ?_)⟩
    · exact hFc.trans (hF5.weak (fun a i q => by rcases q with q | q; exact Or.inl ⟨q.1, by have := q.2; omega⟩; exact Or.inr (by omega)))
    · rw [eN] at y ⊢
      have nA : ∀ (a : Nat) (i : Int), ((a = 76 ∧ (i = 7 ∨ i = 38 ∨ i = 39)) ∨ a = 79) → ¬ AOf a i := fun a i q => by show ¬ ((a = 76 ∧ (i = 4 ∨ i = 5 ∨ i = 6)) ∨ (82 ≤ a ∧ a ≤ 89)); omega
      have k78 : (ofF c w (K, D, E)).1 7 = K 7 ∧ (ofF c w (K, D, E)).1 8 = K 8 := by
        have a : ∀ i : Nat, i = 7 ∨ i = 8 → ofK1 c K i = K i := fun i hi => numK_ne (by omega) (by omega) (by omega)
        unfold ofF
        dsimp only
        split
        · split
          · exact ⟨(numK_ne (by decide) (by decide) (by decide)).trans (a 7 (by omega)), (numK_ne (by decide) (by decide) (by decide)).trans (a 8 (by omega))⟩
          · split
            · exact ⟨(numK_ne (by decide) (by decide) (by decide)).trans ((numK_ne (by decide) (by decide) (by decide)).trans (a 7 (by omega))), (numK_ne (by decide) (by decide) (by decide)).trans ((numK_ne (by decide) (by decide) (by decide)).trans (a 8 (by omega)))⟩
            · exact ⟨a 7 (by omega), a 8 (by omega)⟩
        · exact ⟨a 7 (by omega), a 8 (by omega)⟩
      refine ⟨hC5 y, (hF5.rw (by omega) (nA _ _ (by omega))).trans m7, ?_, ?_, ?_, ?_⟩
      · rw [k78.1, hF5.rw (by omega) (nA _ _ (by omega)), o2 _ _ (by omega) (by omega)]; exact n38
      · rw [k78.2, hF5.rw (by omega) (nA _ _ (by omega)), o2 _ _ (by omega) (by omega)]; exact n39
      · rw [k78.1, hF5.rw (by omega) (nA _ _ (by omega)), o2 _ _ (by omega) (by omega)]; exact s6
      · rw [k78.2, hF5.rw (by omega) (nA _ _ (by omega)), o2 _ _ (by omega) (by omega)]; exact s7
  have oneN : ∀ (i : Nat) (hi : Int), i ≤ 5 → i ≠ 2 → inR hi → nbF c w (K, D, E) = oneF c i hi (K, D, E) → ∃ (r : Int) (σ9 : aH), Ev sc (d + 4) mX10_number [.ref 76, .int (nZ 0), .int (nZ hi)] σ2 (.inl (some (.int (nZ r)))) σ9 ∧ G σ9 u ∧ inR r ∧ ∀ σ14 : aH, wI σ9 79 (i : Int) r = σ14 → L_X10_clause_275 (Ev sc (d + 4)) sc P (kd w) σ14 := by
    intro i hi hi5 hi2 rh eN
    obtain ⟨r, σ9, he9, hr9, hF9, hM9, v9⟩ := m_number (sc := sc) (d := d + 1) (lo := 0) (hi := hi) hG2 hM2 (by decide) rh
    refine ⟨r, σ9, he9, hF9.g hG2, hr9, fun σ14 e14 => next σ14 ((hFc.trans (f4 _ _ hF9)).trans (w79 _ _ _ _ (by omega) e14)) ?_ (fun y => ?_)⟩
    · rw [eN]
      exact (hM9.w79 (by omega) e14).to (show kset (numK c 0 hi K) i (numV c 0 hi K) 9 = _ from kset_ne (by omega)) (show kset (numK c 0 hi K) i (numV c 0 hi K) 10 = _ from kset_ne (by omega)) (show kset (numK c 0 hi K) i (numV c 0 hi K) 11 = _ from kset_ne (by omega))
    · rw [eN]
      have hC9 : Mc (rI σ9) (numK c 0 hi K) D E := (hC2.fr hF9 (fun a i p q => A456_a (by omega) i) h2.2).to (fun j hj => numK_ne (by omega) (by omega) (by omega))
      have k2 : numK c 0 hi K 2 ≤ 8 := by rw [numK_ne (by decide) (by decide) (by decide)]; exact h2.2
      have oth : ∀ (a : Nat) (j : Int), 0 ≤ j → (a ≠ 79 ∨ j ≠ i) → (a ≠ 76 ∨ (j ≠ 4 ∧ j ≠ 5 ∧ j ≠ 6)) → rI σ14 a j = rI σ2 a j := fun a j j0 z1 z2 => by
        have : rI σ14 a j = rI σ9 a j := by
          rw [← e14]
          by_cases y : a = 79
          · rw [y]; exact rI_wi (by omega)
          · exact rI_wa y
        rw [this]; exact hF9.rw j0 (by show ¬ (a = 76 ∧ (j = 4 ∨ j = 5 ∨ j = 6)); omega)
      have e7 : (oneF c i hi (K, D, E)).1 7 = K 7 := (show kset (numK c 0 hi K) i (numV c 0 hi K) 7 = K 7 by rw [kset_ne (by omega)]; exact numK_ne (by decide) (by decide) (by decide))
      have e8 : (oneF c i hi (K, D, E)).1 8 = K 8 := (show kset (numK c 0 hi K) i (numV c 0 hi K) 8 = K 8 by rw [kset_ne (by omega)]; exact numK_ne (by decide) (by decide) (by decide))
      refine ⟨?_, (oth 76 7 (by omega) (by omega) (by omega)).trans m7, ?_, ?_, ?_, ?_⟩
      · have := hC9.w79 hi5 hi2 k2 hr9 e14
        rw [v9] at this
        exact this
      · rw [e7, oth 76 38 (by omega) (by omega) (by omega), o2 _ _ (by omega) (by omega)]; exact n38
      · rw [e8, oth 76 39 (by omega) (by omega) (by omega), o2 _ _ (by omega) (by omega)]; exact n39
      · rw [e7, oth 79 6 (by omega) (by omega) (by omega), o2 _ _ (by omega) (by omega)]; exact s6
      · rw [e8, oth 79 7 (by omega) (by omega) (by omega), o2 _ _ (by omega) (by omega)]; exact s7
  refine ⟨fun q => ofs (by omega), fun q => ?_, fun q => by omega, fun q => ?_, fun q => ?_, fun q => ?_, fun q => ?_, fun q => ?_, fun q => ?_⟩
  · -- the field
    have ew : w = 0 := by have := i0 q; omega
    have eN : nbF c w (K, D, E) = fiF c (K, D, E) := by unfold nbF; rw [if_pos ew]
    obtain ⟨r, σ9, he9, hr9, hF9, hM9, v9⟩ := m_number (sc := sc) (d := d + 1) (lo := 2) (hi := 9) hG2 hM2 (by decide) (by decide)
    refine ⟨r, σ9, he9, hF9.g hG2, hr9, fun σ14 e14 => ?_⟩
    obtain ⟨Ka, hKa⟩ : ∃ Ka : Nat → Int, Ka = kset (numK c 2 9 K) 0 (numV c 2 9 K) := ⟨_, rfl⟩
    have hM14 : MK σ14 c e Ka := by
      rw [hKa]
      exact (hM9.w79 (by omega) e14).to (kset_ne (by decide)) (kset_ne (by decide)) (kset_ne (by decide))
    have hG14 : G σ14 u := by rw [← e14]; exact (hF9.g hG2).wI
    have hC9 : Mc (rI σ9) (numK c 2 9 K) D E := (hC2.fr hF9 (fun a i p q => A456_a (by omega) i) h2.2).to (fun j hj => numK_ne (by omega) (by omega) (by omega))
    have hC14 : Mc (rI σ14) Ka D E := by
      have := hC9.w79 (i := 0) (by decide) (by decide) (by rw [numK_ne (by decide) (by decide) (by decide)]; exact h2.2) hr9 e14
      rw [v9, ← hKa] at this
      exact this
    have ka2 : Ka 2 ≤ 8 := by rw [hKa, kset_ne (by decide), numK_ne (by decide) (by decide) (by decide)]; exact h2.2
    obtain ⟨r2, σ17, he17, hr17, hF17, hM17, v17⟩ := m_number (sc := sc) (d := d + 1) (lo := 2) (hi := 9) hG14 hM14 (by decide) (by decide)
    refine ⟨r2, σ17, he17, hF17.g hG14, hr17, fun σ22 e22 => ?_⟩
    have eF : fiF c (K, D, E) = (kset (numK c 2 9 Ka) 1 (numV c 2 9 Ka), D, E) := by rw [hKa]; rfl
    have hC17 : Mc (rI σ17) (numK c 2 9 Ka) D E := (hC14.fr hF17 (fun a i p q => A456_a (by omega) i) ka2).to (fun j hj => numK_ne (by omega) (by omega) (by omega))
    have hC22 : Mc (rI σ22) (kset (numK c 2 9 Ka) 1 (numV c 2 9 Ka)) D E := by
      have := hC17.w79 (i := 1) (by decide) (by decide) (by rw [numK_ne (by decide) (by decide) (by decide)]; exact ka2) hr17 e22
      rw [v17] at this
      exact this
    have oth : ∀ (a : Nat) (j : Int), 0 ≤ j → (a ≠ 79 ∨ (j ≠ 0 ∧ j ≠ 1)) → (a ≠ 76 ∨ (j ≠ 4 ∧ j ≠ 5 ∧ j ≠ 6)) → rI σ22 a j = rI σ2 a j := fun a j j0 z1 z2 => by
      have x1 : rI σ22 a j = rI σ17 a j := by
        rw [← e22]
        by_cases y : a = 79
        · rw [y]; exact rI_wi (by omega)
        · exact rI_wa y
      have x2 : rI σ14 a j = rI σ9 a j := by
        rw [← e14]
        by_cases y : a = 79
        · rw [y]; exact rI_wi (by omega)
        · exact rI_wa y
      rw [x1, hF17.rw j0 (by show ¬ (a = 76 ∧ (j = 4 ∨ j = 5 ∨ j = 6)); omega), x2]; exact hF9.rw j0 (by show ¬ (a = 76 ∧ (j = 4 ∨ j = 5 ∨ j = 6)); omega)
    have kk : ∀ i : Nat, i = 7 ∨ i = 8 → kset (numK c 2 9 Ka) 1 (numV c 2 9 Ka) i = K i := fun i hi => by
      rw [kset_ne (by omega), numK_ne (by omega) (by omega) (by omega), hKa, kset_ne (by omega)]; exact numK_ne (by omega) (by omega) (by omega)
    refine next σ22 ((((hFc.trans (f4 _ _ hF9)).trans (w79 _ _ _ _ (by omega) e14)).trans (f4 _ _ hF17)).trans (w79 _ _ _ _ (by omega) e22)) ?_ (fun _ => ?_)
    · rw [eN, eF]
      exact (hM17.w79 (by omega) e22).to (show kset (numK c 2 9 Ka) 1 (numV c 2 9 Ka) 9 = _ from kset_ne (by decide)) (show kset (numK c 2 9 Ka) 1 (numV c 2 9 Ka) 10 = _ from kset_ne (by decide)) (show kset (numK c 2 9 Ka) 1 (numV c 2 9 Ka) 11 = _ from kset_ne (by decide))
    · rw [eN, eF]
      refine ⟨hC22, (oth 76 7 (by omega) (by omega) (by omega)).trans m7, ?_, ?_, ?_, ?_⟩
      · rw [oth 76 38 (by omega) (by omega) (by omega), o2 _ _ (by omega) (by omega)]; exact n38.trans (kk 7 (by omega)).symm
      · rw [oth 76 39 (by omega) (by omega) (by omega), o2 _ _ (by omega) (by omega)]; exact n39.trans (kk 8 (by omega)).symm
      · rw [oth 79 6 (by omega) (by omega) (by omega), o2 _ _ (by omega) (by omega)]
        show _ ≤ kset (numK c 2 9 Ka) 1 (numV c 2 9 Ka) 7
        rw [kk 7 (by omega)]; exact s6
      · rw [oth 79 7 (by omega) (by omega) (by omega), o2 _ _ (by omega) (by omega)]
        show _ ≤ kset (numK c 2 9 Ka) 1 (numV c 2 9 Ka) 8
        rw [kk 8 (by omega)]; exact s7
  · -- a stall
    have ew : w = 1 := by have := i2 q; omega
    have eN : nbF c w (K, D, E) = stF c (K, D, E) := by unfold nbF; rw [if_neg (by omega), if_pos ew]
    have lt : K 2 < 8 := by
      by_cases y : K 2 < 8
      · exact y
      · exact absurd (Or.inl ⟨ew, by omega⟩) nf
    have e792 : rI σ2 79 2 = K 2 := hC2.1 2 (by decide)
    obtain ⟨σ5, he5, hF5, hM5, hC5⟩ := m_stallHere (sc := sc) (d := d) hG2 hM2 h0 hC2 ⟨h2.1, lt⟩ hb0 hb1
    rw [e792]
    have nA : ∀ (a : Nat) (i : Int), ((a = 76 ∧ (i = 7 ∨ i = 38 ∨ i = 39)) ∨ (a = 79 ∧ (i = 6 ∨ i = 7))) → ¬ ASh a i := fun a i q => by show ¬ ((a = 76 ∧ (i = 4 ∨ i = 5 ∨ i = 6)) ∨ (82 ≤ a ∧ a ≤ 89) ∨ (a = 79 ∧ i = 2)); omega
    have kk : ∀ i : Nat, i = 7 ∨ i = 8 → (stF c (K, D, E)).1 i = K i := fun i hi => by
      show kset (stK5 c K D) 2 (K 2 + 1) i = K i
      rw [kset_ne (by omega)]
      have a4 : stK4 c K D i = K i := by
        have b3 : stK3 c K i = K i := by
          show numK c 0 (stK2 c K 1 - 1) (stK2 c K) i = K i
          rw [numK_ne (by omega) (by omega) (by omega)]
          show skK c (stK1 c K) i = K i
          rw [skK_ne (by omega)]
          exact numK_ne (by omega) (by omega) (by omega)
        unfold stK4 kif
        split
        · rw [flt_ne (by omega) (by omega)]; exact b3
        · exact b3
      show numK c 0 40 (stK4 c K D) i = K i
      rw [numK_ne (by omega) (by omega) (by omega)]; exact a4
    refine ⟨by omega, σ5, he5, hF5.g hG2, next σ5 ?_ (by rw [eN]; exact hM5) (fun y => ?_)⟩
    · exact hFc.trans (hF5.weak (fun a i q => by rcases q with q | q | q; exact Or.inl ⟨q.1, by have := q.2; omega⟩; exact Or.inr (by omega); exact Or.inr (by omega)))
    · rw [eN] at y ⊢
      refine ⟨hC5 y, (hF5.rw (by omega) (nA _ _ (by omega))).trans m7, ?_, ?_, ?_, ?_⟩
      · rw [kk 7 (by omega), hF5.rw (by omega) (nA _ _ (by omega)), o2 _ _ (by omega) (by omega)]; exact n38
      · rw [kk 8 (by omega), hF5.rw (by omega) (nA _ _ (by omega)), o2 _ _ (by omega) (by omega)]; exact n39
      · rw [kk 7 (by omega), hF5.rw (by omega) (nA _ _ (by omega)), o2 _ _ (by omega) (by omega)]; exact s6
      · rw [kk 8 (by omega), hF5.rw (by omega) (nA _ _ (by omega)), o2 _ _ (by omega) (by omega)]; exact s7
  · have ew : w = 6 := by have := i3 q; omega
    obtain ⟨r, σ9, a, b, r1, n⟩ := oneN 3 1440 (by decide) (by decide) (by decide) (by unfold nbF; rw [if_neg (by omega), if_neg (by omega), if_neg (by omega), if_neg (by omega), if_pos ew])
    exact ⟨r, σ9, a, b, r1, by omega, by rw [q]; rw [q] at n; exact n⟩
  · have ew : w = 8 := by have := i4 q; omega
    obtain ⟨r, σ9, a, b, r1, n⟩ := oneN 4 1440 (by decide) (by decide) (by decide) (by unfold nbF; rw [if_neg (by omega), if_neg (by omega), if_neg (by omega), if_neg (by omega), if_neg (by omega), if_pos ew])
    exact ⟨r, σ9, a, b, r1, by omega, by rw [q]; rw [q] at n; exact n⟩
  · have ew : w = 9 := by have := i5 q; omega
    obtain ⟨r, σ9, a, b, r1, n⟩ := oneN 5 8 (by decide) (by decide) (by decide) (by unfold nbF; rw [if_neg (by omega), if_neg (by omega), if_neg (by omega), if_neg (by omega), if_neg (by omega), if_neg (by omega), if_pos ew])
    exact ⟨r, σ9, a, b, r1, n⟩
  · have ew : w = 4 := by have := i6 q; omega
    have eN : nbF c w (K, D, E) = suF c (K, D, E) := by unfold nbF; rw [if_neg (by omega), if_neg (by omega), if_pos ew]
    have lt : K 7 < 20 := by
      by_cases y : K 7 < 20
      · exact y
      · exact absurd (Or.inr (Or.inl ⟨ew, by omega⟩)) nf
    have x38 : rI σ2 76 38 = K 7 := (o2 _ _ (by omega) (by omega)).trans n38
    obtain ⟨σ5, he5, hF5, hM5, hC5⟩ := m_sunHere (sc := sc) (d := d) (D := D) (E := E) hG2 hM2 (fun _ => hC2) h2 (fun _ => by rw [x38, o2 79 6 (by omega) (by omega)]; omega)
    have nA : ∀ (a : Nat) (i : Int), ((a = 76 ∧ (i = 7 ∨ i = 39)) ∨ (a = 79 ∧ i = 7)) → ¬ ASu a i := fun a i q => by show ¬ ((a = 76 ∧ (i = 4 ∨ i = 5 ∨ i = 6 ∨ i = 38)) ∨ (a = 79 ∧ i = 6) ∨ (101 ≤ a ∧ a ≤ 120)); omega
    have k7 : (suF c (K, D, E)).1 7 = K 7 + 1 := by
      show numK c 0 9 (numK c 0 2 (numK c 0 2 (numK c 0 1439 (suK1 c K)))) 7 = _
      rw [numK_ne (by decide) (by decide) (by decide), numK_ne (by decide) (by decide) (by decide), numK_ne (by decide) (by decide) (by decide), numK_ne (by decide) (by decide) (by decide)]; exact kset_eq
    have k8 : (suF c (K, D, E)).1 8 = K 8 := by
      show numK c 0 9 (numK c 0 2 (numK c 0 2 (numK c 0 1439 (suK1 c K)))) 8 = _
      rw [numK_ne (by decide) (by decide) (by decide), numK_ne (by decide) (by decide) (by decide), numK_ne (by decide) (by decide) (by decide), numK_ne (by decide) (by decide) (by decide)]; exact kset_ne (by decide)
    refine ⟨σ5, he5, hF5.g hG2, next σ5 ?_ (by rw [eN]; exact hM5) (fun y => ?_)⟩
    · exact hFc.trans (hF5.weak (fun a i q => by rcases q with q | q | q; exact Or.inl ⟨q.1, by have := q.2; omega⟩; exact Or.inr (by omega); exact Or.inr (by omega)))
    · rw [eN] at y ⊢
      obtain ⟨y1, y2, y3⟩ := hC5 y
      rw [x38] at y2
      refine ⟨y1, (hF5.rw (by omega) (nA _ _ (by omega))).trans m7, by rw [k7]; exact y2, ?_, by rw [k7]; omega, ?_⟩
      · rw [k8, hF5.rw (by omega) (nA _ _ (by omega)), o2 _ _ (by omega) (by omega)]; exact n39
      · rw [k8, hF5.rw (by omega) (nA _ _ (by omega)), o2 _ _ (by omega) (by omega)]; exact s7
  · have ew : w = 5 := by have := i7 q; omega
    have eN : nbF c w (K, D, E) = raF c (K, D, E) := by unfold nbF; rw [if_neg (by omega), if_neg (by omega), if_neg (by omega), if_pos ew]
    have lt : K 8 < 20 := by
      by_cases y : K 8 < 20
      · exact y
      · exact absurd (Or.inr (Or.inr ⟨ew, by omega⟩)) nf
    have x39 : rI σ2 76 39 = K 8 := (o2 _ _ (by omega) (by omega)).trans n39
    obtain ⟨σ5, he5, hF5, hM5, hC5⟩ := m_rateHere (sc := sc) (d := d) (D := D) (E := E) hG2 hM2 (fun _ => hC2) h2 (fun _ => by rw [x39, o2 79 7 (by omega) (by omega)]; omega)
    have nA : ∀ (a : Nat) (i : Int), ((a = 76 ∧ (i = 7 ∨ i = 38)) ∨ (a = 79 ∧ i = 6)) → ¬ ARa a i := fun a i q => by show ¬ ((a = 76 ∧ (i = 4 ∨ i = 5 ∨ i = 6 ∨ i = 39)) ∨ (a = 79 ∧ i = 7) ∨ (143 ≤ a ∧ a ≤ 162)); omega
    have k8 : (raF c (K, D, E)).1 8 = K 8 + 1 := by
      show numK c 0 9 (numK c 0 1439 (raK1 c K)) 8 = _
      rw [numK_ne (by decide) (by decide) (by decide), numK_ne (by decide) (by decide) (by decide)]; exact kset_eq
    have k7 : (raF c (K, D, E)).1 7 = K 7 := by
      show numK c 0 9 (numK c 0 1439 (raK1 c K)) 7 = _
      rw [numK_ne (by decide) (by decide) (by decide), numK_ne (by decide) (by decide) (by decide)]; exact kset_ne (by decide)
    refine ⟨σ5, he5, hF5.g hG2, next σ5 ?_ (by rw [eN]; exact hM5) (fun y => ?_)⟩
    · exact hFc.trans (hF5.weak (fun a i q => by rcases q with q | q | q; exact Or.inl ⟨q.1, by have := q.2; omega⟩; exact Or.inr (by omega); exact Or.inr (by omega)))
    · rw [eN] at y ⊢
      obtain ⟨y1, y2, y3⟩ := hC5 y
      rw [x39] at y2
      refine ⟨y1, (hF5.rw (by omega) (nA _ _ (by omega))).trans m7, ?_, by rw [k8]; exact y2, ?_, by rw [k8]; omega⟩
      · rw [k7, hF5.rw (by omega) (nA _ _ (by omega)), o2 _ _ (by omega) (by omega)]; exact n38
      · rw [k7, hF5.rw (by omega) (nA _ _ (by omega)), o2 _ _ (by omega) (by omega)]; exact s6
end
