/-! THE TEXT: bounds behind a clause. -/
section
variable {c : Int → Int} {K : Nat → Int} {D : Nat → Int → Int} {E : Nat → Nat → Option Int}
theorem PB.cl (h : PB K) (h0 : K 9 = 0) (h9 : (clF c (K, D, E)).1 9 = 0) : PB (clF c (K, D, E)).1 := by
  have l9 : lwK c K 9 = 0 := (show lwK c K 9 = K 9 from kset_ne (by decide)).trans h0
  have f9 : ∀ a b : Int, flt (lwK c K) a b 9 = a := fun a b => by rw [flt_0 l9, kset_ne (by decide), kset_eq]
  have hl : PB (lwK c K) := h.of (fun i hi => kset_ne (by omega))
  unfold clF at h9 ⊢
  dsimp only at h9 ⊢
  by_cases c1 : clW c K = -1
  · rw [pif_pos c1] at h9
    have z : flt (lwK c K) 1 (K 11) 9 = 0 := h9
    rw [f9] at z; exact absurd z (by decide)
  · rw [pif_neg c1] at h9 ⊢
    by_cases c2 : 60 ≤ K 6 ∨ fullK (clW c K) K
    · rw [pif_pos c2] at h9
      have z : flt (lwK c K) 3 (K 11) 9 = 0 := h9
      rw [f9] at z; exact absurd z (by decide)
    · rw [pif_neg c2] at h9 ⊢
      by_cases c3 : clW c K = 0 ∧ 0 < K 6
      · rw [pif_pos c3] at h9
        have z : flt (lwK c K) 4 (K 11) 9 = 0 := h9
        rw [f9] at z; exact absurd z (by decide)
      · rw [pif_neg c3]
        have lk : ∀ i : Nat, i ≠ 11 → lwK c K i = K i := fun i hi => kset_ne hi
        have nf : ¬ fullK (clW c K) (lwK c K) := by
          unfold fullK
          rw [lk 2 (by decide), lk 7 (by decide), lk 8 (by decide)]
          exact fun z => c2 (Or.inr z)
        have hw : clW c K ≠ 1 ∨ lwK c K 2 < 8 := by
          by_cases y : clW c K = 1
          · right
            by_cases y2 : lwK c K 2 < 8
            · exact y2
            · exact absurd (Or.inl ⟨y, by omega⟩) nf
          · exact Or.inl y
        obtain ⟨x0, x1, x2, x6, x7, x8⟩ := hl.nb (c := c) (D := D) (E := E) nf hw
        have q6 : (nbF c (clW c K) (lwK c K, D, E)).1 6 = K 6 := by rw [nbF_6]; exact lk 6 (by decide)
        have lt : K 6 < 60 := by
          by_cases y : K 6 < 60
          · exact y
          · exact absurd (Or.inl (by omega)) c2
        show PB (kset (enK c (nbF c (clW c K) (lwK c K, D, E)).1) 6 (enK c (nbF c (clW c K) (lwK c K, D, E)).1 6 + 1))
        have ee : ∀ i : Nat, i ≤ 8 → enK c (nbF c (clW c K) (lwK c K, D, E)).1 i = (nbF c (clW c K) (lwK c K, D, E)).1 i := fun i hi => enK_ne (by omega) (by omega) (by omega)
        unfold PB
        rw [kset_eq, kset_ne (by decide), kset_ne (by decide), kset_ne (by decide), kset_ne (by decide), kset_ne (by decide), ee 0 (by decide), ee 1 (by decide), ee 2 (by decide), ee 6 (by decide), ee 7 (by decide), ee 8 (by decide)]
        exact ⟨x0, x1, x2, by omega, x7, x8⟩
end
