/-! THE LAYOUT: where each object and row lies behind both constructors. -/
def sTab : List (Nat × Nat × List (Option Nat)) := [(10, 0, [some 1, some 3, some 22, some 26, some 27, none, none, none, none]), (6, 0, [some 2, none, none, none, none, none, none, none, none]), (102, 600, []), (2, 0, [some 4, some 5, some 6, some 10, some 14, some 18, none]), (101, 3, []), (101, 3, []), (104, 3, []), (101, 9, []), (101, 9, []), (101, 9, []), (104, 3, []), (101, 9, []), (101, 9, []), (101, 9, []), (104, 3, []), (101, 9, []), (101, 9, []), (101, 9, []), (104, 3, []), (101, 9, []), (101, 9, []), (101, 9, []), (4, 0, [some 23, some 24, some 25]), (101, 8, []), (101, 256, []), (101, 256, []), (5, 0, [some 27, some 55, some 56, some 57, some 58, some 59, none, none, none, none, none, none, none]), (7, 0, [some 28, some 31, some 34, some 37, some 38, none]), (9, 0, [some 29, some 30]), (101, 90, []), (101, 90, []), (9, 0, [some 32, some 33]), (101, 90, []), (101, 90, []), (9, 0, [some 35, some 36]), (101, 90, []), (101, 90, []), (101, 9, []), (101, 24, []), (3, 0, [some 40, some 49, some 52, none, none, none, none, none, none, none]), (8, 0, [some 41, some 42, some 43, some 44, some 45, some 46, some 47, some 48, none, none]), (101, 9, []), (101, 9, []), (101, 9, []), (101, 9, []), (101, 9, []), (101, 9, []), (101, 9, []), (101, 9, []), (1, 0, [some 50, some 51, none]), (101, 20, []), (101, 20, []), (1, 0, [some 53, some 54, none]), (101, 20, []), (101, 20, []), (101, 9, []), (101, 9, []), (101, 9, []), (101, 9, []), (103, 21, []), (3, 0, [some 61, some 70, some 73, none, none, none, none, none, none, none]), (8, 0, [some 62, some 63, some 64, some 65, some 66, some 67, some 68, some 69, none, none]), (101, 9, []), (101, 9, []), (101, 9, []), (101, 9, []), (101, 9, []), (101, 9, []), (101, 9, []), (101, 9, []), (1, 0, [some 71, some 72, none]), (101, 20, []), (101, 20, []), (1, 0, [some 74, some 75, none]), (101, 20, []), (101, 20, []), (11, 0, [none, none, none, none, none, none, none, none, some 77, some 78, some 79, some 80, some 81, some 90, some 100, some 121, some 142, some 163, none, none, none, none, none, some 184, some 185, none, some 189, none, none, some 260, some 281, some 291, some 301, some 311, some 312, some 313, none, none, none, none, some 314, some 315, none, none, some 316, some 317, some 318, some 319, some 320, some 342]), (101, 600, []), (101, 2, []), (101, 8, []), (101, 8, []), (104, 8, []), (101, 7, []), (101, 7, []), (101, 7, []), (101, 7, []), (101, 7, []), (101, 7, []), (101, 7, []), (101, 7, []), (104, 9, []), (101, 7, []), (101, 7, []), (101, 7, []), (101, 7, []), (101, 7, []), (101, 7, []), (101, 7, []), (101, 7, []), (101, 7, []), (104, 20, []), (101, 4, []), (101, 4, []), (101, 4, []), (101, 4, []), (101, 4, []), (101, 4, []), (101, 4, []), (101, 4, []), (101, 4, []), (101, 4, []), (101, 4, []), (101, 4, []), (101, 4, []), (101, 4, []), (101, 4, []), (101, 4, []), (101, 4, []), (101, 4, []), (101, 4, []), (101, 4, []), (104, 20, []), (101, 4, []), (101, 4, []), (101, 4, []), (101, 4, []), (101, 4, []), (101, 4, []), (101, 4, []), (101, 4, []), (101, 4, []), (101, 4, []), (101, 4, []), (101, 4, []), (101, 4, []), (101, 4, []), (101, 4, []), (101, 4, []), (101, 4, []), (101, 4, []), (101, 4, []), (101, 4, []), (104, 20, []), (101, 2, []), (101, 2, []), (101, 2, []), (101, 2, []), (101, 2, []), (101, 2, []), (101, 2, []), (101, 2, []), (101, 2, []), (101, 2, []), (101, 2, []), (101, 2, []), (101, 2, []), (101, 2, []), (101, 2, []), (101, 2, []), (101, 2, []), (101, 2, []), (101, 2, []), (101, 2, []), (104, 20, []), (101, 2, []), (101, 2, []), (101, 2, []), (101, 2, []), (101, 2, []), (101, 2, []), (101, 2, []), (101, 2, []), (101, 2, []), (101, 2, []), (101, 2, []), (101, 2, []), (101, 2, []), (101, 2, []), (101, 2, []), (101, 2, []), (101, 2, []), (101, 2, []), (101, 2, []), (101, 2, []), (101, 8, []), (104, 3, []), (101, 34, []), (101, 34, []), (101, 34, []), (104, 70, []), (101, 4, []), (101, 4, []), (101, 4, []), (101, 4, []), (101, 4, []), (101, 4, []), (101, 4, []), (101, 4, []), (101, 4, []), (101, 4, []), (101, 4, []), (101, 4, []), (101, 4, []), (101, 4, []), (101, 4, []), (101, 4, []), (101, 4, []), (101, 4, []), (101, 4, []), (101, 4, []), (101, 4, []), (101, 4, []), (101, 4, []), (101, 4, []), (101, 4, []), (101, 4, []), (101, 4, []), (101, 4, []), (101, 4, []), (101, 4, []), (101, 4, []), (101, 4, []), (101, 4, []), (101, 4, []), (101, 4, []), (101, 4, []), (101, 4, []), (101, 4, []), (101, 4, []), (101, 4, []), (101, 4, []), (101, 4, []), (101, 4, []), (101, 4, []), (101, 4, []), (101, 4, []), (101, 4, []), (101, 4, []), (101, 4, []), (101, 4, []), (101, 4, []), (101, 4, []), (101, 4, []), (101, 4, []), (101, 4, []), (101, 4, []), (101, 4, []), (101, 4, []), (101, 4, []), (101, 4, []), (101, 4, []), (101, 4, []), (101, 4, []), (101, 4, []), (101, 4, []), (101, 4, []), (101, 4, []), (101, 4, []), (101, 4, []), (101, 4, []), (104, 20, []), (101, 9, []), (101, 9, []), (101, 9, []), (101, 9, []), (101, 9, []), (101, 9, []), (101, 9, []), (101, 9, []), (101, 9, []), (101, 9, []), (101, 9, []), (101, 9, []), (101, 9, []), (101, 9, []), (101, 9, []), (101, 9, []), (101, 9, []), (101, 9, []), (101, 9, []), (101, 9, []), (104, 9, []), (101, 9, []), (101, 9, []), (101, 9, []), (101, 9, []), (101, 9, []), (101, 9, []), (101, 9, []), (101, 9, []), (101, 9, []), (104, 9, []), (101, 9, []), (101, 9, []), (101, 9, []), (101, 9, []), (101, 9, []), (101, 9, []), (101, 9, []), (101, 9, []), (101, 9, []), (104, 9, []), (101, 9, []), (101, 9, []), (101, 9, []), (101, 9, []), (101, 9, []), (101, 9, []), (101, 9, []), (101, 9, []), (101, 9, []), (101, 9, []), (101, 24, []), (101, 20, []), (101, 256, []), (101, 256, []), (101, 9, []), (101, 9, []), (101, 9, []), (101, 9, []), (104, 21, []), (101, 8, []), (101, 8, []), (101, 8, []), (101, 8, []), (101, 8, []), (101, 8, []), (101, 8, []), (101, 8, []), (101, 8, []), (101, 8, []), (101, 8, []), (101, 8, []), (101, 8, []), (101, 8, []), (101, 8, []), (101, 8, []), (101, 8, []), (101, 8, []), (101, 8, []), (101, 8, []), (101, 8, []), (101, 9, []), (0, 0, []), (103, 1, [])]
def S0 : aS := fun a => ((sTab.getD a (0, 0, [])).1, (sTab.getD a (0, 0, [])).2.1, fun k => if (sTab.getD a (0, 0, [])).1 = 104 then (if k < (sTab.getD a (0, 0, [])).2.1 then some (a + 1 + k) else none) else (sTab.getD a (0, 0, [])).2.2.getD k none)
def IsMk (u : Nat) : Prop := u = 39 ∨ u = 60
def IsCh (a : Nat) : Prop := a = 49 ∨ a = 52 ∨ a = 70 ∨ a = 73
def IsWt (w : Nat) : Prop := w = 28 ∨ w = 31 ∨ w = 34
/-- the layout stands, and u is the market that counts -/
def G (σ : aH) (u : Nat) : Prop := σ.1 = S0 ∧ 345 ≤ gN σ ∧ gM σ 0 5 = some u ∧ gM σ 27 5 = some u ∧ IsMk u
section
variable {σ : aH} {u : Nat}
theorem gT (hG : G σ u) {a t : Nat} (h : (S0 a).1 = t) (hl : a < 345) : tg σ a = t ∧ a < gN σ := ⟨by unfold tg; rw [hG.1]; exact h, Nat.lt_of_lt_of_le hl hG.2.1⟩
theorem gL (hG : G σ u) {a n : Nat} (h : (S0 a).2.1 = n) : ln σ a = n := by unfold ln; rw [hG.1]; exact h
theorem gR (hG : G σ u) {a k b : Nat} (h : (S0 a).2.2 k = some b) : rf σ a k = some b := by unfold rf; rw [hG.1]; exact h
theorem G.sI (hG : G σ u) {a k : Nat} {v : Int32} : G (sI σ a k v) u := hG
theorem G.sJ (hG : G σ u) {a k : Nat} {v : Int64} : G (sJ σ a k v) u := hG
theorem G.sRow (hG : G σ u) {a : Nat} {f : Nat → Int32} : G (sRow σ a f) u := hG
theorem G.skip (hG : G σ u) {k w : Nat} : G (sSkip σ k w) u := ⟨hG.1, Nat.le_trans hG.2.1 (Nat.le_add_right _ _), hG.2.2⟩
end
theorem S0_row {a n j : Nat} (ht : (sTab.getD a (0, 0, [])).1 = 104) (hn : (sTab.getD a (0, 0, [])).2.1 = n) (h : j < n) : (S0 a).2.2 j = some (a + 1 + j) := by
  unfold S0
  simp only
  rw [if_pos ht, if_pos (by rw [hn]; exact h)]
theorem lt_of {a : Nat} (h : Nat.blt a 345 = true) : a < 345 := Nat.le_of_ble_eq_true h
theorem IsMk_lt {u : Nat} (h : IsMk u) {k : Nat} (hk : k < 21) : u + k < 345 := by unfold IsMk at h; omega
theorem IsMk_t0 {u : Nat} (h : IsMk u) : (S0 u).1 = 3 := by rcases h with rfl | rfl <;> rfl
theorem IsMk_r0_0 {u : Nat} (h : IsMk u) : (S0 u).2.2 0 = some (u + 1) := by rcases h with rfl | rfl <;> rfl
theorem IsMk_r0_1 {u : Nat} (h : IsMk u) : (S0 u).2.2 1 = some (u + 10) := by rcases h with rfl | rfl <;> rfl
theorem IsMk_r0_2 {u : Nat} (h : IsMk u) : (S0 u).2.2 2 = some (u + 13) := by rcases h with rfl | rfl <;> rfl
theorem IsMk_t1 {u : Nat} (h : IsMk u) : (S0 (u + 1)).1 = 8 := by rcases h with rfl | rfl <;> rfl
theorem IsMk_r1_0 {u : Nat} (h : IsMk u) : (S0 (u + 1)).2.2 0 = some (u + 2) := by rcases h with rfl | rfl <;> rfl
theorem IsMk_r1_1 {u : Nat} (h : IsMk u) : (S0 (u + 1)).2.2 1 = some (u + 3) := by rcases h with rfl | rfl <;> rfl
theorem IsMk_r1_2 {u : Nat} (h : IsMk u) : (S0 (u + 1)).2.2 2 = some (u + 4) := by rcases h with rfl | rfl <;> rfl
theorem IsMk_r1_3 {u : Nat} (h : IsMk u) : (S0 (u + 1)).2.2 3 = some (u + 5) := by rcases h with rfl | rfl <;> rfl
theorem IsMk_r1_4 {u : Nat} (h : IsMk u) : (S0 (u + 1)).2.2 4 = some (u + 6) := by rcases h with rfl | rfl <;> rfl
theorem IsMk_r1_5 {u : Nat} (h : IsMk u) : (S0 (u + 1)).2.2 5 = some (u + 7) := by rcases h with rfl | rfl <;> rfl
theorem IsMk_r1_6 {u : Nat} (h : IsMk u) : (S0 (u + 1)).2.2 6 = some (u + 8) := by rcases h with rfl | rfl <;> rfl
theorem IsMk_r1_7 {u : Nat} (h : IsMk u) : (S0 (u + 1)).2.2 7 = some (u + 9) := by rcases h with rfl | rfl <;> rfl
theorem IsMk_t2 {u : Nat} (h : IsMk u) : (S0 (u + 2)).1 = 101 := by rcases h with rfl | rfl <;> rfl
theorem IsMk_n2 {u : Nat} (h : IsMk u) : (S0 (u + 2)).2.1 = 9 := by rcases h with rfl | rfl <;> rfl
theorem IsMk_t3 {u : Nat} (h : IsMk u) : (S0 (u + 3)).1 = 101 := by rcases h with rfl | rfl <;> rfl
theorem IsMk_n3 {u : Nat} (h : IsMk u) : (S0 (u + 3)).2.1 = 9 := by rcases h with rfl | rfl <;> rfl
theorem IsMk_t4 {u : Nat} (h : IsMk u) : (S0 (u + 4)).1 = 101 := by rcases h with rfl | rfl <;> rfl
theorem IsMk_n4 {u : Nat} (h : IsMk u) : (S0 (u + 4)).2.1 = 9 := by rcases h with rfl | rfl <;> rfl
theorem IsMk_t5 {u : Nat} (h : IsMk u) : (S0 (u + 5)).1 = 101 := by rcases h with rfl | rfl <;> rfl
theorem IsMk_n5 {u : Nat} (h : IsMk u) : (S0 (u + 5)).2.1 = 9 := by rcases h with rfl | rfl <;> rfl
theorem IsMk_t6 {u : Nat} (h : IsMk u) : (S0 (u + 6)).1 = 101 := by rcases h with rfl | rfl <;> rfl
theorem IsMk_n6 {u : Nat} (h : IsMk u) : (S0 (u + 6)).2.1 = 9 := by rcases h with rfl | rfl <;> rfl
theorem IsMk_t7 {u : Nat} (h : IsMk u) : (S0 (u + 7)).1 = 101 := by rcases h with rfl | rfl <;> rfl
theorem IsMk_n7 {u : Nat} (h : IsMk u) : (S0 (u + 7)).2.1 = 9 := by rcases h with rfl | rfl <;> rfl
theorem IsMk_t8 {u : Nat} (h : IsMk u) : (S0 (u + 8)).1 = 101 := by rcases h with rfl | rfl <;> rfl
theorem IsMk_n8 {u : Nat} (h : IsMk u) : (S0 (u + 8)).2.1 = 9 := by rcases h with rfl | rfl <;> rfl
theorem IsMk_t9 {u : Nat} (h : IsMk u) : (S0 (u + 9)).1 = 101 := by rcases h with rfl | rfl <;> rfl
theorem IsMk_n9 {u : Nat} (h : IsMk u) : (S0 (u + 9)).2.1 = 9 := by rcases h with rfl | rfl <;> rfl
theorem IsMk_t10 {u : Nat} (h : IsMk u) : (S0 (u + 10)).1 = 1 := by rcases h with rfl | rfl <;> rfl
theorem IsMk_r10_0 {u : Nat} (h : IsMk u) : (S0 (u + 10)).2.2 0 = some (u + 11) := by rcases h with rfl | rfl <;> rfl
theorem IsMk_r10_1 {u : Nat} (h : IsMk u) : (S0 (u + 10)).2.2 1 = some (u + 12) := by rcases h with rfl | rfl <;> rfl
theorem IsMk_t11 {u : Nat} (h : IsMk u) : (S0 (u + 11)).1 = 101 := by rcases h with rfl | rfl <;> rfl
theorem IsMk_n11 {u : Nat} (h : IsMk u) : (S0 (u + 11)).2.1 = 20 := by rcases h with rfl | rfl <;> rfl
theorem IsMk_t12 {u : Nat} (h : IsMk u) : (S0 (u + 12)).1 = 101 := by rcases h with rfl | rfl <;> rfl
theorem IsMk_n12 {u : Nat} (h : IsMk u) : (S0 (u + 12)).2.1 = 20 := by rcases h with rfl | rfl <;> rfl
theorem IsMk_t13 {u : Nat} (h : IsMk u) : (S0 (u + 13)).1 = 1 := by rcases h with rfl | rfl <;> rfl
theorem IsMk_r13_0 {u : Nat} (h : IsMk u) : (S0 (u + 13)).2.2 0 = some (u + 14) := by rcases h with rfl | rfl <;> rfl
theorem IsMk_r13_1 {u : Nat} (h : IsMk u) : (S0 (u + 13)).2.2 1 = some (u + 15) := by rcases h with rfl | rfl <;> rfl
theorem IsMk_t14 {u : Nat} (h : IsMk u) : (S0 (u + 14)).1 = 101 := by rcases h with rfl | rfl <;> rfl
theorem IsMk_n14 {u : Nat} (h : IsMk u) : (S0 (u + 14)).2.1 = 20 := by rcases h with rfl | rfl <;> rfl
theorem IsMk_t15 {u : Nat} (h : IsMk u) : (S0 (u + 15)).1 = 101 := by rcases h with rfl | rfl <;> rfl
theorem IsMk_n15 {u : Nat} (h : IsMk u) : (S0 (u + 15)).2.1 = 20 := by rcases h with rfl | rfl <;> rfl
theorem IsCh_lt {a : Nat} (h : IsCh a) {k : Nat} (hk : k < 21) : a + k < 345 := by unfold IsCh at h; omega
theorem IsCh_t0 {a : Nat} (h : IsCh a) : (S0 a).1 = 1 := by rcases h with rfl | rfl | rfl | rfl <;> rfl
theorem IsCh_r0_0 {a : Nat} (h : IsCh a) : (S0 a).2.2 0 = some (a + 1) := by rcases h with rfl | rfl | rfl | rfl <;> rfl
theorem IsCh_r0_1 {a : Nat} (h : IsCh a) : (S0 a).2.2 1 = some (a + 2) := by rcases h with rfl | rfl | rfl | rfl <;> rfl
theorem IsCh_t1 {a : Nat} (h : IsCh a) : (S0 (a + 1)).1 = 101 := by rcases h with rfl | rfl | rfl | rfl <;> rfl
theorem IsCh_n1 {a : Nat} (h : IsCh a) : (S0 (a + 1)).2.1 = 20 := by rcases h with rfl | rfl | rfl | rfl <;> rfl
theorem IsCh_t2 {a : Nat} (h : IsCh a) : (S0 (a + 2)).1 = 101 := by rcases h with rfl | rfl | rfl | rfl <;> rfl
theorem IsCh_n2 {a : Nat} (h : IsCh a) : (S0 (a + 2)).2.1 = 20 := by rcases h with rfl | rfl | rfl | rfl <;> rfl
theorem IsWt_lt {w : Nat} (h : IsWt w) {k : Nat} (hk : k < 21) : w + k < 345 := by unfold IsWt at h; omega
theorem IsWt_t0 {w : Nat} (h : IsWt w) : (S0 w).1 = 9 := by rcases h with rfl | rfl | rfl <;> rfl
theorem IsWt_r0_0 {w : Nat} (h : IsWt w) : (S0 w).2.2 0 = some (w + 1) := by rcases h with rfl | rfl | rfl <;> rfl
theorem IsWt_r0_1 {w : Nat} (h : IsWt w) : (S0 w).2.2 1 = some (w + 2) := by rcases h with rfl | rfl | rfl <;> rfl
theorem IsWt_t1 {w : Nat} (h : IsWt w) : (S0 (w + 1)).1 = 101 := by rcases h with rfl | rfl | rfl <;> rfl
theorem IsWt_n1 {w : Nat} (h : IsWt w) : (S0 (w + 1)).2.1 = 90 := by rcases h with rfl | rfl | rfl <;> rfl
theorem IsWt_t2 {w : Nat} (h : IsWt w) : (S0 (w + 2)).1 = 101 := by rcases h with rfl | rfl | rfl <;> rfl
theorem IsWt_n2 {w : Nat} (h : IsWt w) : (S0 (w + 2)).2.1 = 90 := by rcases h with rfl | rfl | rfl <;> rfl
theorem ro_6 : ∀ j, j < 3 → (S0 (7 + j)).1 = 101 ∧ (S0 (7 + j)).2.1 = 9 := by decide +kernel
theorem rr_6 {j : Nat} (h : j < 3) : (S0 6).2.2 j = some (7 + j) := S0_row (a := 6) rfl rfl h
theorem ro_10 : ∀ j, j < 3 → (S0 (11 + j)).1 = 101 ∧ (S0 (11 + j)).2.1 = 9 := by decide +kernel
theorem rr_10 {j : Nat} (h : j < 3) : (S0 10).2.2 j = some (11 + j) := S0_row (a := 10) rfl rfl h
theorem ro_14 : ∀ j, j < 3 → (S0 (15 + j)).1 = 101 ∧ (S0 (15 + j)).2.1 = 9 := by decide +kernel
theorem rr_14 {j : Nat} (h : j < 3) : (S0 14).2.2 j = some (15 + j) := S0_row (a := 14) rfl rfl h
theorem ro_18 : ∀ j, j < 3 → (S0 (19 + j)).1 = 101 ∧ (S0 (19 + j)).2.1 = 9 := by decide +kernel
theorem rr_18 {j : Nat} (h : j < 3) : (S0 18).2.2 j = some (19 + j) := S0_row (a := 18) rfl rfl h
theorem ro_81 : ∀ j, j < 8 → (S0 (82 + j)).1 = 101 ∧ (S0 (82 + j)).2.1 = 7 := by decide +kernel
theorem rr_81 {j : Nat} (h : j < 8) : (S0 81).2.2 j = some (82 + j) := S0_row (a := 81) rfl rfl h
theorem ro_90 : ∀ j, j < 9 → (S0 (91 + j)).1 = 101 ∧ (S0 (91 + j)).2.1 = 7 := by decide +kernel
theorem rr_90 {j : Nat} (h : j < 9) : (S0 90).2.2 j = some (91 + j) := S0_row (a := 90) rfl rfl h
theorem ro_100 : ∀ j, j < 20 → (S0 (101 + j)).1 = 101 ∧ (S0 (101 + j)).2.1 = 4 := by decide +kernel
theorem rr_100 {j : Nat} (h : j < 20) : (S0 100).2.2 j = some (101 + j) := S0_row (a := 100) rfl rfl h
theorem ro_121 : ∀ j, j < 20 → (S0 (122 + j)).1 = 101 ∧ (S0 (122 + j)).2.1 = 4 := by decide +kernel
theorem rr_121 {j : Nat} (h : j < 20) : (S0 121).2.2 j = some (122 + j) := S0_row (a := 121) rfl rfl h
theorem ro_142 : ∀ j, j < 20 → (S0 (143 + j)).1 = 101 ∧ (S0 (143 + j)).2.1 = 2 := by decide +kernel
theorem rr_142 {j : Nat} (h : j < 20) : (S0 142).2.2 j = some (143 + j) := S0_row (a := 142) rfl rfl h
theorem ro_163 : ∀ j, j < 20 → (S0 (164 + j)).1 = 101 ∧ (S0 (164 + j)).2.1 = 2 := by decide +kernel
theorem rr_163 {j : Nat} (h : j < 20) : (S0 163).2.2 j = some (164 + j) := S0_row (a := 163) rfl rfl h
theorem ro_185 : ∀ j, j < 3 → (S0 (186 + j)).1 = 101 ∧ (S0 (186 + j)).2.1 = 34 := by decide +kernel
theorem rr_185 {j : Nat} (h : j < 3) : (S0 185).2.2 j = some (186 + j) := S0_row (a := 185) rfl rfl h
theorem ro_189 : ∀ j, j < 70 → (S0 (190 + j)).1 = 101 ∧ (S0 (190 + j)).2.1 = 4 := by decide +kernel
theorem rr_189 {j : Nat} (h : j < 70) : (S0 189).2.2 j = some (190 + j) := S0_row (a := 189) rfl rfl h
theorem ro_260 : ∀ j, j < 20 → (S0 (261 + j)).1 = 101 ∧ (S0 (261 + j)).2.1 = 9 := by decide +kernel
theorem rr_260 {j : Nat} (h : j < 20) : (S0 260).2.2 j = some (261 + j) := S0_row (a := 260) rfl rfl h
theorem ro_281 : ∀ j, j < 9 → (S0 (282 + j)).1 = 101 ∧ (S0 (282 + j)).2.1 = 9 := by decide +kernel
theorem rr_281 {j : Nat} (h : j < 9) : (S0 281).2.2 j = some (282 + j) := S0_row (a := 281) rfl rfl h
theorem ro_291 : ∀ j, j < 9 → (S0 (292 + j)).1 = 101 ∧ (S0 (292 + j)).2.1 = 9 := by decide +kernel
theorem rr_291 {j : Nat} (h : j < 9) : (S0 291).2.2 j = some (292 + j) := S0_row (a := 291) rfl rfl h
theorem ro_301 : ∀ j, j < 9 → (S0 (302 + j)).1 = 101 ∧ (S0 (302 + j)).2.1 = 9 := by decide +kernel
theorem rr_301 {j : Nat} (h : j < 9) : (S0 301).2.2 j = some (302 + j) := S0_row (a := 301) rfl rfl h
theorem ro_320 : ∀ j, j < 21 → (S0 (321 + j)).1 = 101 ∧ (S0 (321 + j)).2.1 = 8 := by decide +kernel
theorem rr_320 {j : Nat} (h : j < 21) : (S0 320).2.2 j = some (321 + j) := S0_row (a := 320) rfl rfl h
section
variable {C : aM → List Value → aH → aO → aH → Prop} {c : Nat} {code : ByteArray} {mL : Nat} {rt : Option FieldType} {ini : Bool} {hs : List (Nat × Nat × Nat × Nat)} {sc : Nat × (Nat → Int32)} {P : aO → aH → Prop} {pc : Nat} {l : aL} {st : List Value} {σ : aH}
theorem x_iald {a n : Nat} {i : Int32} (k : Nat) (d : decode code pc = .ok (.iaload, 1)) (ha : tg σ a = 101 ∧ a < gN σ) (hn : ln σ a = n) (hi : vp_in i n) (hk : i.toNatClampNeg = k) (k0 : wp C c code mL rt ini hs sc P (pc + 1) l (.int (gI σ a k) :: st) σ) : wp C c code mL rt ini hs sc P pc l (.int i :: .ref a :: st) σ := w_iald d ha (hn ▸ hi) (hk ▸ k0)
theorem x_bald {a n : Nat} {i : Int32} (k : Nat) (d : decode code pc = .ok (.baload, 1)) (ha : tg σ a = 102 ∧ a < gN σ) (hn : ln σ a = n) (hi : vp_in i n) (hk : i.toNatClampNeg = k) (k0 : wp C c code mL rt ini hs sc P (pc + 1) l (.int (gI σ a k) :: st) σ) : wp C c code mL rt ini hs sc P pc l (.int i :: .ref a :: st) σ := w_bald d ha (hn ▸ hi) (hk ▸ k0)
theorem x_lald {a n : Nat} {i : Int32} (k : Nat) (d : decode code pc = .ok (.laload, 1)) (ha : tg σ a = 103 ∧ a < gN σ) (hn : ln σ a = n) (hi : vp_in i n) (hk : i.toNatClampNeg = k) (k0 : wp C c code mL rt ini hs sc P (pc + 1) l (.long (gJ σ a k) :: st) σ) : wp C c code mL rt ini hs sc P pc l (.int i :: .ref a :: st) σ := w_lald d ha (hn ▸ hi) (hk ▸ k0)
theorem x_iast {a n : Nat} {i x : Int32} (k : Nat) (d : decode code pc = .ok (.iastore, 1)) (ha : tg σ a = 101 ∧ a < gN σ) (hn : ln σ a = n) (hi : vp_in i n) (hk : i.toNatClampNeg = k) (k0 : wp C c code mL rt ini hs sc P (pc + 1) l st (sI σ a k x)) : wp C c code mL rt ini hs sc P pc l (.int x :: .int i :: .ref a :: st) σ := w_iast d ha (hn ▸ hi) (hk ▸ k0)
theorem x_bast {a n : Nat} {i x : Int32} (k : Nat) (d : decode code pc = .ok (.bastore, 1)) (ha : tg σ a = 102 ∧ a < gN σ) (hn : ln σ a = n) (hi : vp_in i n) (hk : i.toNatClampNeg = k) (k0 : wp C c code mL rt ini hs sc P (pc + 1) l st (sI σ a k x.toInt8.toInt32)) : wp C c code mL rt ini hs sc P pc l (.int x :: .int i :: .ref a :: st) σ := w_bast d ha (hn ▸ hi) (hk ▸ k0)
theorem x_last {a n : Nat} {i : Int32} {x : Int64} (k : Nat) (d : decode code pc = .ok (.lastore, 1)) (ha : tg σ a = 103 ∧ a < gN σ) (hn : ln σ a = n) (hi : vp_in i n) (hk : i.toNatClampNeg = k) (k0 : wp C c code mL rt ini hs sc P (pc + 1) l st (sJ σ a k x)) : wp C c code mL rt ini hs sc P pc l (.long x :: .int i :: .ref a :: st) σ := w_last d ha (hn ▸ hi) (hk ▸ k0)
theorem x_aald {a b n : Nat} {i : Int32} (d : decode code pc = .ok (.aaload, 1)) (ha : tg σ a = 104 ∧ a < gN σ) (hn : ln σ a = n) (hi : vp_in i n) (hb : rf σ a i.toNatClampNeg = some b) (k0 : wp C c code mL rt ini hs sc P (pc + 1) l (.ref b :: st) σ) : wp C c code mL rt ini hs sc P pc l (.int i :: .ref a :: st) σ := w_aald d ha (hn ▸ hi) hb k0
theorem x_copy {a b na nb i : Nat} {sp dp n : Int32} (d : decode code pc = .ok (.invokestatic i, 3)) (hl : Cond.methodLink (cn c) i arraycopyName ∈ lw_tbl) (hw : catsum st ≤ 8) (ha : tg σ a = 101 ∧ a < gN σ) (hb : tg σ b = 101 ∧ b < gN σ) (hna : ln σ a = na) (hnb : ln σ b = nb) (h1 : ¬ sp < 0 ∧ ¬ dp < 0 ∧ ¬ n < 0 ∧ sp.toNatClampNeg + n.toNatClampNeg ≤ na ∧ dp.toNatClampNeg + n.toNatClampNeg ≤ nb) (k0 : wp C c code mL rt ini hs sc P (pc + 3) l st (sRow σ b (va_cpy (gI σ a) (gI σ b) sp.toNatClampNeg dp.toNatClampNeg n.toNatClampNeg))) : wp C c code mL rt ini hs sc P pc l (.int n :: .int dp :: .ref b :: .int sp :: .ref a :: st) σ := w_copy d hl hw ha hb (by rw [hna, hnb]; exact h1) k0
end
/-- a method's run, from its first step -/
theorem Ev.of {sc : Nat × (Nat → Int32)} {d : Nat} {q : aM} {args : List Value} {σ σ1 : aH} {o : aO} (hc : catsum args ≤ q.2.2.1) (h : wp (Ev sc d) q.2.2.2.2.1 q.2.1 q.2.2.1 q.2.2.2.1 (decide (q.1.name = "<init>")) (hsOf q) sc (fun o' σ' => o' = o ∧ σ' = σ1) 0 (lv_args 0 args) [] σ) : Ev sc (d + 1) q args σ o σ1 := ⟨hc, h⟩
