section
variable {C : aM → List Value → aH → aO → aH → Prop} {c : Nat} {code : ByteArray} {mL : Nat} {rt : Option FieldType} {ini : Bool} {hs : List (Nat × Nat × Nat × Nat)} {sc : Nat × (Nat → Int32)} {P : aO → aH → Prop} {pc : Nat} {l : aL} {st : List Value} {σ : aH}
theorem top_i {x : Int32} (k : ∀ z : Int32, z = x → wp C c code mL rt ini hs sc P pc l (.int z :: st) σ) : wp C c code mL rt ini hs sc P pc l (.int x :: st) σ := k x rfl
theorem top_j {x : Int64} (k : ∀ z : Int64, z = x → wp C c code mL rt ini hs sc P pc l (.long z :: st) σ) : wp C c code mL rt ini hs sc P pc l (.long x :: st) σ := k x rfl
theorem y_putI {i ci k a : Nat} {x : Int32} (d : decode code pc = .ok (.putfield i, 3)) (hf : FLk c i ci k) (hk : fkd (cT ci) k = 0) (ha : tg σ a = ci + 1 ∧ a < gN σ) (k0 : ∀ σ1 : aH, sI σ a k x = σ1 → wp C c code mL rt ini hs sc P (pc + 3) l st σ1) : wp C c code mL rt ini hs sc P pc l (.int x :: .ref a :: st) σ := w_putI d hf hk ha (k0 _ rfl)
theorem y_iast {a n : Nat} {i x : Int32} (k : Nat) (d : decode code pc = .ok (.iastore, 1)) (ha : tg σ a = 101 ∧ a < gN σ) (hn : ln σ a = n) (hi : vp_in i n) (hk : i.toNatClampNeg = k) (k0 : ∀ σ1 : aH, sI σ a k x = σ1 → wp C c code mL rt ini hs sc P (pc + 1) l st σ1) : wp C c code mL rt ini hs sc P pc l (.int x :: .int i :: .ref a :: st) σ := x_iast k d ha hn hi hk (k0 _ rfl)
theorem y_bast {a n : Nat} {i x : Int32} (k : Nat) (d : decode code pc = .ok (.bastore, 1)) (ha : tg σ a = 102 ∧ a < gN σ) (hn : ln σ a = n) (hi : vp_in i n) (hk : i.toNatClampNeg = k) (k0 : ∀ σ1 : aH, sI σ a k x.toInt8.toInt32 = σ1 → wp C c code mL rt ini hs sc P (pc + 1) l st σ1) : wp C c code mL rt ini hs sc P pc l (.int x :: .int i :: .ref a :: st) σ := x_bast k d ha hn hi hk (k0 _ rfl)
theorem y_last {a n : Nat} {i : Int32} {x : Int64} (k : Nat) (d : decode code pc = .ok (.lastore, 1)) (ha : tg σ a = 103 ∧ a < gN σ) (hn : ln σ a = n) (hi : vp_in i n) (hk : i.toNatClampNeg = k) (k0 : ∀ σ1 : aH, sJ σ a k x = σ1 → wp C c code mL rt ini hs sc P (pc + 1) l st σ1) : wp C c code mL rt ini hs sc P pc l (.long x :: .int i :: .ref a :: st) σ := x_last k d ha hn hi hk (k0 _ rfl)
theorem y_copy {a b na nb i : Nat} {sp dp n : Int32} (d : decode code pc = .ok (.invokestatic i, 3)) (hl : Cond.methodLink (cn c) i arraycopyName ∈ lw_tbl) (hw : catsum st ≤ 8) (ha : tg σ a = 101 ∧ a < gN σ) (hb : tg σ b = 101 ∧ b < gN σ) (hna : ln σ a = na) (hnb : ln σ b = nb) (h1 : ¬ sp < 0 ∧ ¬ dp < 0 ∧ ¬ n < 0 ∧ sp.toNatClampNeg + n.toNatClampNeg ≤ na ∧ dp.toNatClampNeg + n.toNatClampNeg ≤ nb) (k0 : ∀ σ1 : aH, sRow σ b (va_cpy (gI σ a) (gI σ b) sp.toNatClampNeg dp.toNatClampNeg n.toNatClampNeg) = σ1 → wp C c code mL rt ini hs sc P (pc + 3) l st σ1) : wp C c code mL rt ini hs sc P pc l (.int n :: .int dp :: .ref b :: .int sp :: .ref a :: st) σ := x_copy d hl hw ha hb hna hnb h1 (k0 _ rfl)
end
theorem vin_of {i : Int32} {n : Nat} (h : (decide (¬ i < 0) && Nat.blt i.toNatClampNeg n) = true) : vp_in i n := by
  simp only [Bool.and_eq_true, decide_eq_true_eq] at h
  intro q
  rcases q with q | q
  · exact h.1 q
  · exact absurd (Nat.le_of_ble_eq_true h.2) (by omega)
theorem sw_cases (x : Int32) (lo hi : Int) : (x.toInt < lo ∨ hi < x.toInt) ∨ (lo ≤ x.toInt ∧ x.toInt ≤ hi) := by omega
theorem lk_1_50 : Cond.methodLink (cn 1) 50 arraycopyName ∈ lw_tbl := List.mem_of_getElem? (i := 715) (by decide +kernel)
theorem lk_2_65 : Cond.methodLink (cn 2) 65 Lib.Math.min.name ∈ lw_tbl := List.mem_of_getElem? (i := 689) (by decide +kernel)
theorem lk_2_76 : Cond.methodLink (cn 2) 76 Lib.Math.max.name ∈ lw_tbl := List.mem_of_getElem? (i := 688) (by decide +kernel)
theorem lk_3_55 : Cond.methodLink (cn 3) 55 Lib.Math.max.name ∈ lw_tbl := List.mem_of_getElem? (i := 1118) (by decide +kernel)
theorem lk_4_75 : Cond.methodLink (cn 4) 75 arraycopyName ∈ lw_tbl := List.mem_of_getElem? (i := 1188) (by decide +kernel)
theorem lk_5_40 : Cond.methodLink (cn 5) 40 Lib.Math.min.name ∈ lw_tbl := List.mem_of_getElem? (i := 816) (by decide +kernel)
theorem lk_6_77 : Cond.methodLink (cn 6) 77 Lib.Math.abs.name ∈ lw_tbl := List.mem_of_getElem? (i := 577) (by decide +kernel)
theorem lk_6_82 : Cond.methodLink (cn 6) 82 Lib.Math.max.name ∈ lw_tbl := List.mem_of_getElem? (i := 580) (by decide +kernel)
theorem lk_6_117 : Cond.methodLink (cn 6) 117 Lib.Math.min.name ∈ lw_tbl := List.mem_of_getElem? (i := 1068) (by decide +kernel)
theorem lk_7_47 : Cond.methodLink (cn 7) 47 Lib.Math.min.name ∈ lw_tbl := List.mem_of_getElem? (i := 1273) (by decide +kernel)
theorem lk_9_284 : Cond.methodLink (cn 9) 284 Lib.Math.min.name ∈ lw_tbl := List.mem_of_getElem? (i := 1317) (by decide +kernel)
theorem lk_9_289 : Cond.methodLink (cn 9) 289 Lib.Math.max.name ∈ lw_tbl := List.mem_of_getElem? (i := 1318) (by decide +kernel)
