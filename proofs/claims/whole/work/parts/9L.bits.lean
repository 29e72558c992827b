/-! BOTH SIDES: stalls set otherwise; Integer.bitCount. -/
theorem dJ6_bitCount_0f7a4_0 : decode cJ6_bitCount_0f7a4 0 = .ok (.iload_n 0, 1) := by decide +kernel
theorem dJ6_bitCount_0f7a4_1 : decode cJ6_bitCount_0f7a4 1 = .ok (.iload_n 0, 1) := by decide +kernel
theorem dJ6_bitCount_0f7a4_2 : decode cJ6_bitCount_0f7a4 2 = .ok (.iconst 1, 1) := by decide +kernel
theorem dJ6_bitCount_0f7a4_3 : decode cJ6_bitCount_0f7a4 3 = .ok (.iushr, 1) := by decide +kernel
theorem dJ6_bitCount_0f7a4_4 : decode cJ6_bitCount_0f7a4 4 = .ok (.ldc_w 265, 3) := by decide +kernel
theorem dJ6_bitCount_0f7a4_7 : decode cJ6_bitCount_0f7a4 7 = .ok (.iand, 1) := by decide +kernel
theorem dJ6_bitCount_0f7a4_8 : decode cJ6_bitCount_0f7a4 8 = .ok (.isub, 1) := by decide +kernel
theorem dJ6_bitCount_0f7a4_9 : decode cJ6_bitCount_0f7a4 9 = .ok (.istore_n 0, 1) := by decide +kernel
theorem dJ6_bitCount_0f7a4_10 : decode cJ6_bitCount_0f7a4 10 = .ok (.iload_n 0, 1) := by decide +kernel
theorem dJ6_bitCount_0f7a4_11 : decode cJ6_bitCount_0f7a4 11 = .ok (.ldc_w 266, 3) := by decide +kernel
theorem dJ6_bitCount_0f7a4_14 : decode cJ6_bitCount_0f7a4 14 = .ok (.iand, 1) := by decide +kernel
theorem dJ6_bitCount_0f7a4_15 : decode cJ6_bitCount_0f7a4 15 = .ok (.iload_n 0, 1) := by decide +kernel
theorem dJ6_bitCount_0f7a4_16 : decode cJ6_bitCount_0f7a4 16 = .ok (.iconst 2, 1) := by decide +kernel
theorem dJ6_bitCount_0f7a4_17 : decode cJ6_bitCount_0f7a4 17 = .ok (.iushr, 1) := by decide +kernel
theorem dJ6_bitCount_0f7a4_18 : decode cJ6_bitCount_0f7a4 18 = .ok (.ldc_w 266, 3) := by decide +kernel
theorem dJ6_bitCount_0f7a4_21 : decode cJ6_bitCount_0f7a4 21 = .ok (.iand, 1) := by decide +kernel
theorem dJ6_bitCount_0f7a4_22 : decode cJ6_bitCount_0f7a4 22 = .ok (.iadd, 1) := by decide +kernel
theorem dJ6_bitCount_0f7a4_23 : decode cJ6_bitCount_0f7a4 23 = .ok (.istore_n 0, 1) := by decide +kernel
theorem dJ6_bitCount_0f7a4_24 : decode cJ6_bitCount_0f7a4 24 = .ok (.iload_n 0, 1) := by decide +kernel
theorem dJ6_bitCount_0f7a4_25 : decode cJ6_bitCount_0f7a4 25 = .ok (.iload_n 0, 1) := by decide +kernel
theorem dJ6_bitCount_0f7a4_26 : decode cJ6_bitCount_0f7a4 26 = .ok (.iconst 4, 1) := by decide +kernel
theorem dJ6_bitCount_0f7a4_27 : decode cJ6_bitCount_0f7a4 27 = .ok (.iushr, 1) := by decide +kernel
theorem dJ6_bitCount_0f7a4_28 : decode cJ6_bitCount_0f7a4 28 = .ok (.iadd, 1) := by decide +kernel
theorem dJ6_bitCount_0f7a4_29 : decode cJ6_bitCount_0f7a4 29 = .ok (.ldc_w 267, 3) := by decide +kernel
theorem dJ6_bitCount_0f7a4_32 : decode cJ6_bitCount_0f7a4 32 = .ok (.iand, 1) := by decide +kernel
theorem dJ6_bitCount_0f7a4_33 : decode cJ6_bitCount_0f7a4 33 = .ok (.istore_n 0, 1) := by decide +kernel
theorem dJ6_bitCount_0f7a4_34 : decode cJ6_bitCount_0f7a4 34 = .ok (.iload_n 0, 1) := by decide +kernel
theorem dJ6_bitCount_0f7a4_35 : decode cJ6_bitCount_0f7a4 35 = .ok (.iload_n 0, 1) := by decide +kernel
theorem dJ6_bitCount_0f7a4_36 : decode cJ6_bitCount_0f7a4 36 = .ok (.bipush 8, 2) := by decide +kernel
theorem dJ6_bitCount_0f7a4_38 : decode cJ6_bitCount_0f7a4 38 = .ok (.iushr, 1) := by decide +kernel
theorem dJ6_bitCount_0f7a4_39 : decode cJ6_bitCount_0f7a4 39 = .ok (.iadd, 1) := by decide +kernel
theorem dJ6_bitCount_0f7a4_40 : decode cJ6_bitCount_0f7a4 40 = .ok (.istore_n 0, 1) := by decide +kernel
theorem dJ6_bitCount_0f7a4_41 : decode cJ6_bitCount_0f7a4 41 = .ok (.iload_n 0, 1) := by decide +kernel
theorem dJ6_bitCount_0f7a4_42 : decode cJ6_bitCount_0f7a4 42 = .ok (.iload_n 0, 1) := by decide +kernel
theorem dJ6_bitCount_0f7a4_43 : decode cJ6_bitCount_0f7a4 43 = .ok (.bipush 16, 2) := by decide +kernel
theorem dJ6_bitCount_0f7a4_45 : decode cJ6_bitCount_0f7a4 45 = .ok (.iushr, 1) := by decide +kernel
theorem dJ6_bitCount_0f7a4_46 : decode cJ6_bitCount_0f7a4 46 = .ok (.iadd, 1) := by decide +kernel
theorem dJ6_bitCount_0f7a4_47 : decode cJ6_bitCount_0f7a4 47 = .ok (.istore_n 0, 1) := by decide +kernel
theorem dJ6_bitCount_0f7a4_48 : decode cJ6_bitCount_0f7a4 48 = .ok (.iload_n 0, 1) := by decide +kernel
theorem dJ6_bitCount_0f7a4_49 : decode cJ6_bitCount_0f7a4 49 = .ok (.bipush 63, 2) := by decide +kernel
theorem dJ6_bitCount_0f7a4_51 : decode cJ6_bitCount_0f7a4 51 = .ok (.iand, 1) := by decide +kernel
theorem dJ6_bitCount_0f7a4_52 : decode cJ6_bitCount_0f7a4 52 = .ok (.ireturn, 1) := by decide +kernel
def bcA (x : Int) : Int := wr (x - zAnd (zUsr x 1) 1431655765)
def bcB (x : Int) : Int := wr (zAnd x 858993459 + zAnd (zUsr x 2) 858993459)
def bcC (x : Int) : Int := zAnd (wr (x + zUsr x 4)) 252645135
def bcD (x : Int) : Int := wr (x + zUsr x 8)
def bcE (x : Int) : Int := wr (x + zUsr x 16)
def bcF (x : Int) : Int := zAnd (bcE (bcD (bcC (bcB (bcA x))))) 63
theorem bcF_256 : ∀ x : Fin 256, bcF (x.val : Int) = bt (x.val : Int) 0 + bt (x.val : Int) 1 + bt (x.val : Int) 2 + bt (x.val : Int) 3 + bt (x.val : Int) 4 + bt (x.val : Int) 5 + bt (x.val : Int) 6 + bt (x.val : Int) 7 + bt (x.val : Int) 8 + bt (x.val : Int) 9 + bt (x.val : Int) 10 + bt (x.val : Int) 11 + bt (x.val : Int) 12 + bt (x.val : Int) 13 + bt (x.val : Int) 14 + bt (x.val : Int) 15 + bt (x.val : Int) 16 + bt (x.val : Int) 17 + bt (x.val : Int) 18 + bt (x.val : Int) 19 + bt (x.val : Int) 20 + bt (x.val : Int) 21 + bt (x.val : Int) 22 + bt (x.val : Int) 23 := by decide +kernel
theorem bcF_sm {x : Int} (h : 0 ≤ x ∧ x ≤ 255) : bcF x = sm (fun k => bt x k) 24 := by
  have := bcF_256 ⟨x.toNat, by omega⟩
  rw [show (((⟨x.toNat, by omega⟩ : Fin 256).val : Nat) : Int) = x from by show ((x.toNat : Nat) : Int) = x; omega] at this
  rw [this]
  simp only [sm_succ, sm_0]
  rw [Int.zero_add]; rfl
section
variable {sc : Nat × (Nat → Int32)} {d : Nat} {σ σ1 σ2 τ : aH} {u v : Nat} {n W H : Int} {D D2 : Nat → Int → Int} {Es Er : Nat → Option Int} {du fo N w cl K : Int} {fr va : Int → Int}
set_option maxRecDepth 10000 in
theorem s_bitCount {x : Int} (rx : inR x) : Ev sc (d + 1) mJ6_bitCount_0f7a4 [.int (nZ x)] σ (.inl (some (.int (nZ (bcF x))))) σ := by
  have key : T sc (d + 1) mJ6_bitCount_0f7a4 [.int (nZ x)] σ (fun o σ1 => o = .inl (some (.int (nZ (bcF x)))) ∧ σ1 = σ) := by
    refine T.of (c := 12) (code := cJ6_bitCount_0f7a4) (mL := 1) (rt := some .int) (ini := false) (l := [(0, .int (nZ x))]) rfl rfl rfl rfl (by decide) hs_J6_bitCount_0f7a4 rfl rfl ?_
    refine w_iload_n dJ6_bitCount_0f7a4_0 rfl (List.Mem.head _) ?_
    refine w_iload_n dJ6_bitCount_0f7a4_1 rfl (List.Mem.head _) ?_
    refine w_iconst (v := nZ 1) dJ6_bitCount_0f7a4_2 (by decide) ?_
    refine i_ushr dJ6_bitCount_0f7a4_3 ?_
    refine i_ldcw (x := 1431655765) dJ6_bitCount_0f7a4_4 kc_12_265 (by decide) ?_
    refine i_and dJ6_bitCount_0f7a4_7 ?_
    refine i_subw dJ6_bitCount_0f7a4_8 ?_
    refine w_istore_n (l' := [(0, .int (nZ (bcA x)))]) dJ6_bitCount_0f7a4_9 rfl (by decide) rfl ?_
    obtain ⟨a, ha⟩ : ∃ a : Int, a = bcA x := ⟨_, rfl⟩
    rw [← ha]
    refine w_iload_n dJ6_bitCount_0f7a4_10 rfl (List.Mem.head _) ?_
    refine i_ldcw (x := 858993459) dJ6_bitCount_0f7a4_11 kc_12_266 (by decide) ?_
    refine i_and dJ6_bitCount_0f7a4_14 ?_
    refine w_iload_n dJ6_bitCount_0f7a4_15 rfl (List.Mem.head _) ?_
    refine w_iconst (v := nZ 2) dJ6_bitCount_0f7a4_16 (by decide) ?_
    refine i_ushr dJ6_bitCount_0f7a4_17 ?_
    refine i_ldcw (x := 858993459) dJ6_bitCount_0f7a4_18 kc_12_266 (by decide) ?_
    refine i_and dJ6_bitCount_0f7a4_21 ?_
    refine i_addw dJ6_bitCount_0f7a4_22 ?_
    refine w_istore_n (l' := [(0, .int (nZ (bcB a)))]) dJ6_bitCount_0f7a4_23 rfl (by decide) rfl ?_
    obtain ⟨b, hb⟩ : ∃ b : Int, b = bcB a := ⟨_, rfl⟩
    rw [← hb]
    refine w_iload_n dJ6_bitCount_0f7a4_24 rfl (List.Mem.head _) ?_
    refine w_iload_n dJ6_bitCount_0f7a4_25 rfl (List.Mem.head _) ?_
    refine w_iconst (v := nZ 4) dJ6_bitCount_0f7a4_26 (by decide) ?_
    refine i_ushr dJ6_bitCount_0f7a4_27 ?_
    refine i_addw dJ6_bitCount_0f7a4_28 ?_
    refine i_ldcw (x := 252645135) dJ6_bitCount_0f7a4_29 kc_12_267 (by decide) ?_
    refine i_and dJ6_bitCount_0f7a4_32 ?_
    refine w_istore_n (l' := [(0, .int (nZ (bcC b)))]) dJ6_bitCount_0f7a4_33 rfl (by decide) rfl ?_
    obtain ⟨c, hc⟩ : ∃ c : Int, c = bcC b := ⟨_, rfl⟩
    rw [← hc]
    refine w_iload_n dJ6_bitCount_0f7a4_34 rfl (List.Mem.head _) ?_
    refine w_iload_n dJ6_bitCount_0f7a4_35 rfl (List.Mem.head _) ?_
    refine w_bipush (v := nZ 8) dJ6_bitCount_0f7a4_36 (by decide) ?_
    refine i_ushr dJ6_bitCount_0f7a4_38 ?_
    refine i_addw dJ6_bitCount_0f7a4_39 ?_
    refine w_istore_n (l' := [(0, .int (nZ (bcD c)))]) dJ6_bitCount_0f7a4_40 rfl (by decide) rfl ?_
    obtain ⟨e, he⟩ : ∃ e : Int, e = bcD c := ⟨_, rfl⟩
    rw [← he]
    refine w_iload_n dJ6_bitCount_0f7a4_41 rfl (List.Mem.head _) ?_
    refine w_iload_n dJ6_bitCount_0f7a4_42 rfl (List.Mem.head _) ?_
    refine w_bipush (v := nZ 16) dJ6_bitCount_0f7a4_43 (by decide) ?_
    refine i_ushr dJ6_bitCount_0f7a4_45 ?_
    refine i_addw dJ6_bitCount_0f7a4_46 ?_
    refine w_istore_n (l' := [(0, .int (nZ (bcE e)))]) dJ6_bitCount_0f7a4_47 rfl (by decide) rfl ?_
    refine w_iload_n dJ6_bitCount_0f7a4_48 rfl (List.Mem.head _) ?_
    refine w_bipush (v := nZ 63) dJ6_bitCount_0f7a4_49 (by decide) ?_
    refine i_and dJ6_bitCount_0f7a4_51 ?_
    refine w_iret dJ6_bitCount_0f7a4_52 rfl ⟨?_, rfl⟩
    rw [he, hc, hb, ha]; rfl
  obtain ⟨o, σ1, he, e1, e2⟩ := key
  rw [e1, e2] at he; exact he
/-- the least bit from k on -/
def LoB (x k r : Int) : Prop := (r = -1 ∧ ∀ i : Int, k ≤ i → i < 8 → bt x i = 0) ∨ ((k ≤ r ∧ r < 8) ∧ bt x r = 1 ∧ ∀ i : Int, k ≤ i → i < r → bt x i = 0)
theorem s_lowestBit {x k : Int} (hG : G σ u) (hx : 0 ≤ x ∧ x ≤ 2147483647) (hk : 0 ≤ k ∧ k ≤ 8) : TI sc (d + 1) mX9_lowestBit [.int (nZ x), .int (nZ k)] σ (fun r σ1 => σ1 = σ ∧ LoB x k r) := by
  apply T.int
  apply t_X9_lowestBit hG (by omega) (by omega)
  obtain ⟨P, hP⟩ : ∃ P : aO → aH → Prop, P = QI (fun r σ1 => σ1 = σ ∧ LoB x k r) := ⟨_, rfl⟩
  rw [← hP]
  have loop : ∀ (f : Nat) (i : Int), (8 - i).toNat = f → k ≤ i → i ≤ 8 → (∀ j : Int, k ≤ j → j < i → bt x j = 0) → L_X9_lowestBit_2 (Ev sc d) sc P x k i σ := by
    intro f
    induction f with
    | zero =>
      intro i hf i0 i1 hj
      apply v_X9_lowestBit_2 hG (by omega) (by omega) (by omega)
      refine ⟨fun _ => ?_, fun z => by omega⟩
      rw [hP]
      exact ⟨-1, rfl, by decide, rfl, Or.inl ⟨rfl, fun j a b => hj j a (by omega)⟩⟩
    | succ f ih =>
      intro i hf i0 i1 hj
      apply v_X9_lowestBit_2 hG (by omega) (by omega) (by omega)
      rw [z_btU hx (by omega) (by omega)]
      have b01 := bt_01 x i
      refine ⟨fun z => by omega, fun _ => ⟨fun z => ⟨by omega, ih (i + 1) (by omega) (by omega) (by omega) (fun j a b => ?_)⟩, fun z => ?_⟩⟩
      · by_cases c : j = i
        · rw [c]; omega
        · exact hj j a (by omega)
      · rw [hP]
        exact ⟨i, rfl, by omega, rfl, Or.inr ⟨⟨i0, by omega⟩, z, hj⟩⟩
  exact loop _ k rfl (by omega) hk.2 (fun j a b => by omega)
/-- three bits are three -/
theorem sm_three {x a b c : Int} (h0 : 0 ≤ a) (h1 : a < b) (h2 : b < c) (h3 : c < 24) (ha : bt x a = 1) (hb : bt x b = 1) (hc : bt x c = 1) : 3 ≤ sm (fun k => bt x k) 24 := by
  have p : ∀ k : Int, 0 ≤ bt x k := fun k => by have := bt_01 x k; omega
  have s1 := sm_drop (f := fun k => bt x k) (h := fun k => if k = a then 0 else bt x k) (i := a) (n := 24) (fun t => by have := p t; split <;> omega) h0 (by omega) (by rw [if_pos rfl]; omega)
  have s2 := sm_drop (f := fun k => if k = a then 0 else bt x k) (h := fun k => if k = a ∨ k = b then 0 else bt x k) (i := b) (n := 24) (fun t => by have := p t; split <;> split <;> omega) (by omega) (by omega) (by rw [if_pos (Or.inr rfl), if_neg (by omega)]; omega)
  have s3 := sm_drop (f := fun k => if k = a ∨ k = b then 0 else bt x k) (h := fun k => if k = a ∨ k = b ∨ k = c then 0 else bt x k) (i := c) (n := 24) (fun t => by have := p t; split <;> split <;> omega) (by omega) (by omega) (by rw [if_pos (Or.inr (Or.inr rfl)), if_neg (by omega)]; omega)
  have s4 := (sm_bd (f := fun k => if k = a ∨ k = b ∨ k = c then 0 else bt x k) (lo := 0) (hi := 1) (n := 24) (fun t _ _ => by have := bt_01 x t; split <;> omega)).1
  omega
theorem sm_1b {x a : Int} (h0 : 0 ≤ a) (h3 : a < 24) (ha : bt x a = 1) : 1 ≤ sm (fun k => bt x k) 24 := by
  have p : ∀ k : Int, 0 ≤ bt x k := fun k => by have := bt_01 x k; omega
  have s1 := sm_drop (f := fun k => bt x k) (h := fun k => if k = a then 0 else bt x k) (i := a) (n := 24) (fun t => by have := p t; split <;> omega) h0 (by omega) (by rw [if_pos rfl]; omega)
  have s4 := (sm_bd (f := fun k => if k = a then 0 else bt x k) (lo := 0) (hi := 1) (n := 24) (fun t _ _ => by have := bt_01 x t; split <;> omega)).1
  omega
theorem bit_some : ∀ x : Fin 256, x.val ≠ 0 → ∃ k : Fin 8, bt (x.val : Int) (k.val : Int) = 1 := by decide +kernel
theorem bit_hi : ∀ m : Fin 9, ∀ x : Fin 256, (x.val : Int) < 2 ^ m.val → ∀ k : Fin 8, m.val ≤ k.val → bt (x.val : Int) (k.val : Int) = 0 := by decide +kernel
theorem pow_8 : ∀ k : Nat, k ≤ 8 → (1 : Int) ≤ 2 ^ k ∧ (2 : Int) ^ k ≤ 256 := by decide +kernel
end
