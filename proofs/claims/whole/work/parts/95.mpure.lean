/-! THE TEXT: bounds that a faultless reading keeps. -/
def PB (K : Nat → Int) : Prop := (0 ≤ K 0 ∧ K 0 ≤ 9) ∧ (0 ≤ K 1 ∧ K 1 ≤ 9) ∧ (0 ≤ K 2 ∧ K 2 ≤ 8) ∧ (0 ≤ K 6 ∧ K 6 ≤ 60) ∧ (0 ≤ K 7 ∧ K 7 ≤ 20) ∧ (0 ≤ K 8 ∧ K 8 ≤ 20)
section
variable {c : Int → Int} {K : Nat → Int} {D : Nat → Int → Int} {E : Nat → Nat → Option Int}
theorem PB.of {K1 : Nat → Int} (h : PB K) (e : ∀ i : Nat, i ≤ 8 → K1 i = K i) : PB K1 := by
  unfold PB
  rw [e 0 (by decide), e 1 (by decide), e 2 (by decide), e 6 (by decide), e 7 (by decide), e 8 (by decide)]; exact h
theorem PB.num {lo hi : Int} (h : PB K) : PB (numK c lo hi K) := h.of (fun i hi => numK_ne (by omega) (by omega) (by omega))
theorem PB.nb {w : Int} (h : PB K) (nf : ¬ fullK w K) (hw : w ≠ 1 ∨ K 2 < 8) : PB (nbF c w (K, D, E)).1 := by
  obtain ⟨a0, a1, a2, a6, a7, a8⟩ := h
  have h : PB K := ⟨a0, a1, a2, a6, a7, a8⟩
  unfold nbF
  split
  · have b1 := (numV_bd (c := c) (lo := 2) (hi := 9) (K := K)).1
    have p1 : PB (kset (numK c 2 9 K) 0 (numV c 2 9 K)) := by
      obtain ⟨x0, x1, x2, x6, x7, x8⟩ := h.num (c := c) (lo := 2) (hi := 9)
      unfold PB
      rw [kset_eq, kset_ne (by decide), kset_ne (by decide), kset_ne (by decide), kset_ne (by decide), kset_ne (by decide)]
      exact ⟨by omega, x1, x2, x6, x7, x8⟩
    obtain ⟨x0, x1, x2, x6, x7, x8⟩ := p1.num (c := c) (lo := 2) (hi := 9)
    have b2 := (numV_bd (c := c) (lo := 2) (hi := 9) (K := kset (numK c 2 9 K) 0 (numV c 2 9 K))).1
    show PB (kset (numK c 2 9 (kset (numK c 2 9 K) 0 (numV c 2 9 K))) 1 (numV c 2 9 (kset (numK c 2 9 K) 0 (numV c 2 9 K))))
    unfold PB
    rw [kset_eq, kset_ne (by decide), kset_ne (by decide), kset_ne (by decide), kset_ne (by decide), kset_ne (by decide)]
    exact ⟨x0, by omega, x2, x6, x7, x8⟩
  · split
    · rename_i z1 z2
      have b3 : ∀ i : Nat, i ≤ 8 → stK3 c K i = K i := fun i hi => by
        show numK c 0 (stK2 c K 1 - 1) (stK2 c K) i = K i
        rw [numK_ne (by omega) (by omega) (by omega)]
        show skK c (stK1 c K) i = K i
        rw [skK_ne (by omega)]
        exact numK_ne (by omega) (by omega) (by omega)
      have a4 : ∀ i : Nat, i ≤ 8 → stK5 c K D i = K i := fun i hi => by
        show numK c 0 40 (stK4 c K D) i = K i
        rw [numK_ne (by omega) (by omega) (by omega)]
        unfold stK4 kif
        split
        · rw [flt_ne (by omega) (by omega)]; exact b3 i hi
        · exact b3 i hi
      obtain ⟨x0, x1, x2, x6, x7, x8⟩ := h.of a4
      show PB (kset (stK5 c K D) 2 (K 2 + 1))
      unfold PB
      rw [kset_eq, kset_ne (by decide), kset_ne (by decide), kset_ne (by decide), kset_ne (by decide), kset_ne (by decide)]
      exact ⟨x0, x1, by omega, x6, x7, x8⟩
    · split
      · rename_i z1 z2 z4
        have lt : K 7 < 20 := by
          by_cases y : K 7 < 20
          · exact y
          · exact absurd (Or.inr (Or.inl ⟨z4, by omega⟩)) nf
        have p1 : PB (suK1 c K) := by
          show PB (kset K 7 (K 7 + 1))
          unfold PB
          rw [kset_eq, kset_ne (by decide), kset_ne (by decide), kset_ne (by decide), kset_ne (by decide), kset_ne (by decide)]
          exact ⟨a0, a1, a2, a6, by omega, a8⟩
        exact ((p1.num (c := c) (lo := 0) (hi := 1439)).num (c := c) (lo := 0) (hi := 2)).num.num
      · split
        · rename_i z1 z2 z4 z5
          have lt : K 8 < 20 := by
            by_cases y : K 8 < 20
            · exact y
            · exact absurd (Or.inr (Or.inr ⟨z5, by omega⟩)) nf
          have p1 : PB (raK1 c K) := by
            show PB (kset K 8 (K 8 + 1))
            unfold PB
            rw [kset_eq, kset_ne (by decide), kset_ne (by decide), kset_ne (by decide), kset_ne (by decide), kset_ne (by decide)]
            exact ⟨a0, a1, a2, a6, a7, by omega⟩
          exact p1.num.num
        · have one : ∀ (i : Nat) (hi : Int), i = 3 ∨ i = 4 ∨ i = 5 → PB (kset (numK c 0 hi K) i (numV c 0 hi K)) := fun i hi hh => by
            obtain ⟨x0, x1, x2, x6, x7, x8⟩ := h.num (c := c) (lo := 0) (hi := hi)
            unfold PB
            rw [kset_ne (by omega), kset_ne (by omega), kset_ne (by omega), kset_ne (by omega), kset_ne (by omega), kset_ne (by omega)]
            exact ⟨x0, x1, x2, x6, x7, x8⟩
          split
          · exact one 3 1440 (by omega)
          · split
            · exact one 4 1440 (by omega)
            · split
              · exact one 5 8 (by omega)
              · unfold ofF
                dsimp only
                split
                · split
                  · exact h.num.num
                  · split
                    · exact h.num.num.num
                    · exact h.num
                · exact h.num
end
