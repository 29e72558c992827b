/-! BITS. -/
theorem nZ_nat (x : Int) : (nZ x).toBitVec.toNat = (x % 4294967296).toNat := BitVec.toNat_ofInt (n := 32) x
theorem bv_toInt {v : BitVec 32} (h : v.toNat < 2147483648) : v.toInt = (v.toNat : Int) := BitVec.toInt_eq_toNat_of_lt (by omega)
theorem zAnd_t {x y : Int} (h : (x % 4294967296).toNat &&& (y % 4294967296).toNat < 2147483648) : zAnd x y = (((x % 4294967296).toNat &&& (y % 4294967296).toNat : Nat) : Int) := by
  have e : (nZ x &&& nZ y).toBitVec.toNat = (x % 4294967296).toNat &&& (y % 4294967296).toNat := by
    rw [Int32.toBitVec_and, BitVec.toNat_and, nZ_nat, nZ_nat]
  show (nZ x &&& nZ y).toBitVec.toInt = _
  rw [bv_toInt (by rw [e]; exact h), e]
theorem zOr_t {x y : Int} (h : (x % 4294967296).toNat ||| (y % 4294967296).toNat < 2147483648) : zOr x y = (((x % 4294967296).toNat ||| (y % 4294967296).toNat : Nat) : Int) := by
  have e : (nZ x ||| nZ y).toBitVec.toNat = (x % 4294967296).toNat ||| (y % 4294967296).toNat := by
    rw [Int32.toBitVec_or, BitVec.toNat_or, nZ_nat, nZ_nat]
  show (nZ x ||| nZ y).toBitVec.toInt = _
  rw [bv_toInt (by rw [e]; exact h), e]
theorem zXor_t {x y : Int} (h : (x % 4294967296).toNat ^^^ (y % 4294967296).toNat < 2147483648) : zXor x y = (((x % 4294967296).toNat ^^^ (y % 4294967296).toNat : Nat) : Int) := by
  have e : (nZ x ^^^ nZ y).toBitVec.toNat = (x % 4294967296).toNat ^^^ (y % 4294967296).toNat := by
    rw [Int32.toBitVec_xor, BitVec.toNat_xor, nZ_nat, nZ_nat]
  show (nZ x ^^^ nZ y).toBitVec.toInt = _
  rw [bv_toInt (by rw [e]; exact h), e]
theorem zAnd_1 (x : Int) : zAnd x 1 = x % 2 := by
  have e : (x % 4294967296).toNat &&& ((1 : Int) % 4294967296).toNat = (x % 4294967296).toNat % 2 := Nat.and_one_is_mod _
  rw [zAnd_t (by rw [e]; omega), e]; omega
theorem zAnd_7 (x : Int) : zAnd x 7 = x % 8 := by
  have e : (x % 4294967296).toNat &&& ((7 : Int) % 4294967296).toNat = (x % 4294967296).toNat % 8 := Nat.and_two_pow_sub_one_eq_mod _ 3
  rw [zAnd_t (by rw [e]; omega), e]; omega
theorem zAnd_63 (x : Int) : zAnd x 63 = x % 64 := by
  have e : (x % 4294967296).toNat &&& ((63 : Int) % 4294967296).toNat = (x % 4294967296).toNat % 64 := Nat.and_two_pow_sub_one_eq_mod _ 6
  rw [zAnd_t (by rw [e]; omega), e]; omega
theorem zAnd_255 (x : Int) : zAnd x 255 = x % 256 := by
  have e : (x % 4294967296).toNat &&& ((255 : Int) % 4294967296).toNat = (x % 4294967296).toNat % 256 := Nat.and_two_pow_sub_one_eq_mod _ 8
  rw [zAnd_t (by rw [e]; omega), e]; omega
theorem zShl_1 {k : Int} (h0 : 0 ≤ k) (h1 : k ≤ 30) : zShl 1 k = 2 ^ k.toNat := by
  have h : ∀ j : Nat, j < 31 → zShl 1 (j : Int) = 2 ^ j := by decide +kernel
  have := h k.toNat (by omega)
  rw [show ((k.toNat : Nat) : Int) = k by omega] at this
  exact this
theorem zShr_eq {x k : Int} (hx : inR x) (h0 : 0 ≤ k) (h1 : k ≤ 31) : zShr x k = x / 2 ^ k.toNat := by
  have h : ∀ j : Nat, j < 32 → ((nZ (j : Int) &&& 31).toBitVec.smod 32).toNat = j := by decide +kernel
  have h2 := h k.toNat (by omega)
  rw [show ((k.toNat : Nat) : Int) = k by omega] at h2
  show (BitVec.sshiftRight' (nZ x).toBitVec ((nZ k &&& 31).toBitVec.smod 32)).toInt = _
  rw [BitVec.toInt_sshiftRight', h2, Int.shiftRight_eq_div_pow]
  have e : (nZ x).toBitVec.toInt = x := nZ_t hx
  rw [e]; rfl
theorem zUsr_eq {x k : Int} (h0 : 1 ≤ k ∨ (0 ≤ x ∧ x ≤ 2147483647 ∧ 0 ≤ k)) (h1 : k ≤ 31) : zUsr x k = x % 4294967296 / 2 ^ k.toNat := by
  have h : ∀ j : Nat, j < 32 → (((nZ (j : Int)).toUInt32 &&& Int32.toUInt32 31) % 32).toBitVec.toNat = j := by decide +kernel
  have h2 := h k.toNat (by omega)
  rw [show ((k.toNat : Nat) : Int) = k by omega] at h2
  have e : (((nZ x).toUInt32 >>> ((nZ k).toUInt32 &&& Int32.toUInt32 31)).toInt32).toBitVec.toNat = (x % 4294967296).toNat / 2 ^ k.toNat := by
    show ((nZ x).toBitVec >>> (((nZ k).toUInt32 &&& Int32.toUInt32 31) % 32).toBitVec).toNat = _
    rw [BitVec.ushiftRight_eq', BitVec.toNat_ushiftRight, h2, nZ_nat, Nat.shiftRight_eq_div_pow]
  have hlt : (x % 4294967296).toNat / 2 ^ k.toNat < 2147483648 := by
    rcases h0 with h0 | h0
    · have p : 2 ≤ 2 ^ k.toNat := by
        have := Nat.pow_le_pow_right (n := 2) (by omega) (show 1 ≤ k.toNat by omega)
        omega
      refine Nat.div_lt_of_lt_mul ?_
      have := Nat.mul_le_mul_right 2147483648 p
      omega
    · have := Nat.div_le_self (x % 4294967296).toNat (2 ^ k.toNat)
      omega
  show (((nZ x).toUInt32 >>> ((nZ k).toUInt32 &&& Int32.toUInt32 31)).toInt32).toBitVec.toInt = _
  rw [bv_toInt (by rw [e]; exact hlt), e, Int.natCast_ediv, Int.natCast_pow]
  congr 1
  omega
/-- bit k -/
def bt (b k : Int) : Int := b / 2 ^ k.toNat % 2
theorem bt_01 (b k : Int) : bt b k = 0 ∨ bt b k = 1 := by unfold bt; omega
theorem z_bt {b k : Int} (hb : inR b) (h0 : 0 ≤ k) (h1 : k ≤ 31) : zAnd (zShr b k) 1 = bt b k := by rw [zAnd_1, zShr_eq hb h0 h1]; rfl
theorem z_btU {b k : Int} (hb : 0 ≤ b ∧ b ≤ 2147483647) (h0 : 0 ≤ k) (h1 : k ≤ 31) : zAnd (zUsr b k) 1 = bt b k := by
  rw [zAnd_1, zUsr_eq (Or.inr ⟨hb.1, hb.2, h0⟩) h1, show b % 4294967296 = b by omega]; rfl
theorem pw {k : Int} (h1 : k ≤ 30) : (1 : Int) ≤ 2 ^ k.toNat ∧ (2 : Int) ^ k.toNat ≤ 1073741824 := by
  have h : ∀ j : Nat, j < 31 → (1 : Int) ≤ 2 ^ j ∧ (2 : Int) ^ j ≤ 1073741824 := by decide +kernel
  exact h k.toNat (by omega)
theorem zOr_add {b k : Int} (h0 : 0 ≤ k) (h1 : k ≤ 30) (hb : 0 ≤ b ∧ b < 2 ^ k.toNat) : zOr b (zShl 1 k) = b + 2 ^ k.toNat := by
  rw [zShl_1 h0 h1]
  have p := pw h1
  have e1 : (b % 4294967296).toNat = b.toNat := by omega
  have e2 : ((2 : Int) ^ k.toNat % 4294967296).toNat = 2 ^ k.toNat := by
    rw [Int.emod_eq_of_lt (by omega) (by omega)]
    have : ((2 : Int) ^ k.toNat) = ((2 ^ k.toNat : Nat) : Int) := by rw [Int.natCast_pow]; rfl
    rw [this]; rfl
  have hb2 : b.toNat < 2 ^ k.toNat := by
    have : ((2 : Int) ^ k.toNat) = ((2 ^ k.toNat : Nat) : Int) := by rw [Int.natCast_pow]; rfl
    omega
  have e3 : b.toNat ||| 2 ^ k.toNat = 2 ^ k.toNat + b.toNat := by
    have := Nat.two_pow_add_eq_or_of_lt hb2 1
    rw [Nat.mul_one] at this
    rw [this, Nat.or_comm]
  have e4 : ((2 ^ k.toNat + b.toNat : Nat) : Int) = b + 2 ^ k.toNat := by
    rw [Int.natCast_add, Int.natCast_pow]
    have : ((b.toNat : Nat) : Int) = b := by omega
    rw [this, Int.add_comm]; rfl
  have e5 : (b % 4294967296).toNat ||| ((2 : Int) ^ k.toNat % 4294967296).toNat = 2 ^ k.toNat + b.toNat := by rw [e1, e2, e3]
  rw [zOr_t (by rw [e5]; omega), e5, e4]
/-- the set of those below n of which p holds, as bits -/
noncomputable def bs (p : Int → Prop) (n : Nat) : Int := sm (fun k => cif (p k) (2 ^ k.toNat) 0) n
theorem bs_lt (p : Int → Prop) : ∀ n : Nat, 0 ≤ bs p n ∧ bs p n < 2 ^ n
  | 0 => by unfold bs; rw [sm_0]; decide
  | n + 1 => by
    have h := bs_lt p n
    have e : bs p (n + 1) = bs p n + cif (p n) (2 ^ n) 0 := sm_succ _ _
    rw [e, Int.pow_succ]
    have := cif_bd (p := p n) (a := 2 ^ n) (b := 0) (lo := 0) (hi := 2 ^ n) (by omega) (by omega)
    omega
theorem bs_bit (p : Int → Prop) {k : Int} : ∀ {n : Nat}, 0 ≤ k → k < n → bt (bs p n) k = cif (p k) 1 0
  | 0, h0, h1 => by omega
  | n + 1, h0, h1 => by
    have h := bs_lt p n
    have e : bs p (n + 1) = bs p n + cif (p n) (2 ^ n) 0 := sm_succ _ _
    unfold bt
    rw [e]
    have e9 : cif (p n) (2 ^ n) 0 = cif (p n) 1 0 * 2 ^ n := by
      by_cases c : p n
      · rw [cif_pos c, cif_pos c, Int.one_mul]
      · rw [cif_neg c, cif_neg c, Int.zero_mul]
    rw [e9]
    by_cases c : k = n
    · subst c
      have p0 : (2 : Int) ^ n ≠ 0 := by omega
      rw [show ((n : Int)).toNat = n from rfl, Int.add_mul_ediv_right _ _ p0, Int.ediv_eq_zero_of_lt h.1 h.2, Int.zero_add]
      have := cif_bd (p := p n) (a := 1) (b := 0) (lo := 0) (hi := 1) (by omega) (by omega)
      omega
    · have ih := bs_bit p (n := n) h0 (by omega)
      obtain ⟨j, hj⟩ : ∃ j : Nat, n = k.toNat + 1 + j := ⟨n - k.toNat - 1, by omega⟩
      have p0 : (2 : Int) ^ k.toNat ≠ 0 := by have : (0 : Int) < 2 ^ k.toNat := Int.pow_pos (by decide); omega
      have e2 : cif (p n) 1 0 * (2 : Int) ^ n = (cif (p n) 1 0 * 2 ^ j) * 2 * 2 ^ k.toNat := by
        have e3 : (2 : Int) ^ n = 2 ^ j * 2 * 2 ^ k.toNat := by
          rw [hj, Int.pow_add, Int.pow_add, Int.mul_comm (2 ^ k.toNat * 2 ^ 1) (2 ^ j), Int.mul_comm (2 ^ k.toNat) (2 ^ 1), ← Int.mul_assoc]; rfl
        rw [e3, ← Int.mul_assoc, ← Int.mul_assoc]
      rw [e2, Int.add_mul_ediv_right _ _ p0]
      unfold bt at ih
      rw [← ih]
      omega
theorem bs_step (p : Int → Prop) {k : Int} (h0 : 0 ≤ k) (h1 : k ≤ 30) : zOr (bs p k.toNat) (zShl 1 k) = bs p k.toNat + 2 ^ k.toNat := zOr_add h0 h1 (bs_lt p k.toNat)
theorem bs_congr {p q : Int → Prop} {n : Nat} (h : ∀ k : Int, 0 ≤ k → k < n → (p k ↔ q k)) : bs p n = bs q n := sm_congr (fun t h0 h1 => cif_congr (h t h0 h1))
theorem bs_30 (p : Int → Prop) {n : Nat} (h : n ≤ 30) : inR (bs p n) := by
  have a := bs_lt p n
  have b := pw (k := (n : Int)) (by omega)
  have e : ((n : Int)).toNat = n := rfl
  rw [e] at b
  omega
theorem bs_zero {p : Int → Prop} {n : Nat} : bs p n = 0 ↔ ∀ k : Int, 0 ≤ k → k < n → ¬ p k := by
  constructor
  · intro h k h0 h1 hp
    have := bs_bit p h0 h1
    rw [h, cif_pos hp] at this
    unfold bt at this
    rw [Int.zero_ediv] at this
    omega
  · intro h
    exact sm_eq0 (fun t h0 h1 => cif_neg (h t h0 h1))
