/-! ROWS OVER WHOLE NUMBERS: an int is nZ of a whole number in its range. -/
abbrev inR (x : Int) : Prop := -2147483648 ≤ x ∧ x ≤ 2147483647
abbrev inJ (x : Int) : Prop := -9223372036854775808 ≤ x ∧ x ≤ 9223372036854775807
def nZ (x : Int) : Int32 := Int32.ofInt x
def nJ (x : Int) : Int64 := Int64.ofInt x
theorem nZ_t {x : Int} (h : inR x) : (nZ x).toInt = x := Int32.toInt_ofInt_of_le h.1 (by have := h.2; omega)
theorem nJ_t {x : Int} (h : inJ x) : (nJ x).toInt = x := Int64.toInt_ofInt_of_le h.1 (by have := h.2; omega)
theorem nZ_of (x : Int32) : nZ x.toInt = x := Int32.ofInt_toInt x
theorem nJ_of (x : Int64) : nJ x.toInt = x := Int64.ofInt_toInt x
theorem tR (x : Int32) : inR x.toInt := ⟨Int32.le_toInt x, by have := Int32.toInt_lt x; omega⟩
theorem tJ (x : Int64) : inJ x.toInt := ⟨Int64.le_toInt x, by have := Int64.toInt_lt x; omega⟩
theorem nZ_add (x y : Int) : nZ x + nZ y = nZ (x + y) := (Int32.ofInt_add x y).symm
theorem nZ_sub (x y : Int) : nZ x - nZ y = nZ (x - y) := (Int32.ofInt_sub x y).symm
theorem nZ_mul (x y : Int) : nZ x * nZ y = nZ (x * y) := (Int32.ofInt_mul x y).symm
theorem nZ_neg (x : Int) : -nZ x = nZ (-x) := (Int32.ofInt_neg x).symm
theorem nJ_add (x y : Int) : nJ x + nJ y = nJ (x + y) := (Int64.ofInt_add x y).symm
theorem nJ_sub (x y : Int) : nJ x - nJ y = nJ (x - y) := (Int64.ofInt_sub x y).symm
theorem nJ_mul (x y : Int) : nJ x * nJ y = nJ (x * y) := (Int64.ofInt_mul x y).symm
theorem nZ_lt {x y : Int} (hx : inR x) (hy : inR y) : nZ x < nZ y ↔ x < y := by rw [Int32.lt_iff_toInt_lt, nZ_t hx, nZ_t hy]
theorem nZ_le {x y : Int} (hx : inR x) (hy : inR y) : nZ x ≤ nZ y ↔ x ≤ y := by rw [Int32.le_iff_toInt_le, nZ_t hx, nZ_t hy]
theorem nZ_eq {x y : Int} (hx : inR x) (hy : inR y) : nZ x = nZ y ↔ x = y := by rw [← Int32.toInt_inj, nZ_t hx, nZ_t hy]
theorem nJ_lt {x y : Int} (hx : inJ x) (hy : inJ y) : nJ x < nJ y ↔ x < y := by rw [Int64.lt_iff_toInt_lt, nJ_t hx, nJ_t hy]
theorem nJ_eq {x y : Int} (hx : inJ x) (hy : inJ y) : nJ x = nJ y ↔ x = y := by rw [← Int64.toInt_inj, nJ_t hx, nJ_t hy]
theorem nZ_0 : (0 : Int32) = nZ 0 := rfl
theorem nZ_div {x y : Int} (hx : inR x) (hy : inR y) (h0 : 0 ≤ x) (h1 : 0 < y) : nZ x / nZ y = nZ (x / y) := by
  have hq : inR (x / y) := ⟨by have := Int.ediv_nonneg h0 (Int.le_of_lt h1); omega, by have := Int.ediv_le_self y h0; omega⟩
  rw [← Int32.toInt_inj, nZ_t hq, Int32.toInt_div, nZ_t hx, nZ_t hy, Int.tdiv_eq_ediv_of_nonneg h0]
  exact Int.bmod_eq_of_le (by omega) (by omega)
theorem nZ_clamp {x : Int} (h : inR x) : (nZ x).toNatClampNeg = x.toNat := by
  show (nZ x).toInt.toNat = x.toNat
  rw [nZ_t h]
theorem nZ_in {x : Int} {n : Nat} (h : 0 ≤ x ∧ x < (n : Int)) (hn : inR x) : vp_in (nZ x) n := by
  unfold vp_in
  rw [nZ_0, nZ_lt hn (by decide), nZ_clamp hn]
  omega
theorem nI_Z (n : Nat) : nI n = nZ (n : Int) := Int32.ofInt_eq_ofNat.symm
/-! bits -/
def wr (x : Int) : Int := (nZ x).toInt
def zAnd (x y : Int) : Int := (nZ x &&& nZ y).toInt
def zOr (x y : Int) : Int := (nZ x ||| nZ y).toInt
def zXor (x y : Int) : Int := (nZ x ^^^ nZ y).toInt
def zShl (x y : Int) : Int := (nZ x <<< (nZ y &&& 31)).toInt
def zShr (x y : Int) : Int := (nZ x >>> (nZ y &&& 31)).toInt
def zUsr (x y : Int) : Int := (((nZ x).toUInt32 >>> ((nZ y).toUInt32 &&& Int32.toUInt32 31)).toInt32).toInt
def zByt (x : Int) : Int := (nZ x).toInt8.toInt32.toInt
def zLsh (x y : Int) : Int := (nJ x <<< ((nZ y).toInt64 &&& 63)).toInt
def zLor (x y : Int) : Int := (nJ x ||| nJ y).toInt
theorem wr_R (x : Int) : inR (wr x) := tR _
theorem zAnd_R (x y : Int) : inR (zAnd x y) := tR _
theorem zOr_R (x y : Int) : inR (zOr x y) := tR _
theorem zXor_R (x y : Int) : inR (zXor x y) := tR _
theorem zShl_R (x y : Int) : inR (zShl x y) := tR _
theorem zShr_R (x y : Int) : inR (zShr x y) := tR _
theorem zUsr_R (x y : Int) : inR (zUsr x y) := tR _
theorem zByt_R (x : Int) : inR (zByt x) := tR _
theorem zLsh_J (x y : Int) : inJ (zLsh x y) := tJ _
theorem zLor_J (x y : Int) : inJ (zLor x y) := tJ _
/-! memory over whole numbers -/
def rI (σ : aH) (a : Nat) (i : Int) : Int := (gI σ a i.toNat).toInt
def rJ (σ : aH) (a : Nat) (i : Int) : Int := (gJ σ a i.toNat).toInt
def wI (σ : aH) (a : Nat) (i x : Int) : aH := sI σ a i.toNat (nZ x)
def wJ (σ : aH) (a : Nat) (i x : Int) : aH := sJ σ a i.toNat (nJ x)
/-- nine ints of row a into row b -/
def wC (σ : aH) (a b : Nat) : aH := sRow σ b (va_cpy (gI σ a) (gI σ b) 0 0 9)
theorem rI_R (σ : aH) (a : Nat) (i : Int) : inR (rI σ a i) := tR _
theorem rJ_R (σ : aH) (a : Nat) (i : Int) : inJ (rJ σ a i) := tJ _
theorem rI_w {σ : aH} {a : Nat} {i x : Int} (h : inR x) (b : Nat) (j : Int) : rI (wI σ a i x) b j = if b = a ∧ j.toNat = i.toNat then x else rI σ b j := by
  unfold rI wI gI sI va_up upd
  by_cases hb : b = a
  · subst hb
    by_cases hj : j.toNat = i.toNat
    · simp [hj, nZ_t h]
    · simp [hj]
  · simp [hb]
theorem rJ_w {σ : aH} {a : Nat} {i x : Int} (h : inJ x) (b : Nat) (j : Int) : rJ (wJ σ a i x) b j = if b = a ∧ j.toNat = i.toNat then x else rJ σ b j := by
  unfold rJ wJ gJ sJ va_up vp_updL
  by_cases hb : b = a
  · subst hb
    by_cases hj : j.toNat = i.toNat
    · simp [hj, nJ_t h]
    · simp [hj]
  · simp [hb]
theorem rI_c {σ : aH} {a b : Nat} (e : Nat) (j : Int) : rI (wC σ a b) e j = if e = b ∧ j.toNat < 9 then rI σ a j else rI σ e j := by
  unfold rI wC gI sRow va_up va_cpy
  by_cases hb : e = b
  · subst hb
    by_cases hj : j.toNat < 9
    · simp [hj]
    · simp [hj]
  · simp [hb]
theorem rI_wJ {σ : aH} {a : Nat} {i x : Int} (b : Nat) (j : Int) : rI (wJ σ a i x) b j = rI σ b j := rfl
theorem rJ_wI {σ : aH} {a : Nat} {i x : Int} (b : Nat) (j : Int) : rJ (wI σ a i x) b j = rJ σ b j := rfl
section
variable {σ : aH} {u : Nat}
theorem G.wI (hG : G σ u) {a : Nat} {k v : Int} : G (wI σ a k v) u := hG
theorem G.wJ (hG : G σ u) {a : Nat} {k v : Int} : G (wJ σ a k v) u := hG
theorem G.wC (hG : G σ u) {a b : Nat} : G (wC σ a b) u := hG
end
theorem wd_le (j : Nat) : wdLen.getD j 0 ≤ 7 := by
  by_cases h : j < 10
  · exact (by decide : ∀ k, k < 10 → wdLen.getD k 0 ≤ 7) j h
  · have e : wdLen.getD j 0 = 0 := by
      rw [List.getD_eq_getElem?_getD, List.getElem?_eq_none (by show 10 ≤ j; omega)]; rfl
    omega
theorem wdR (j : Nat) : inR ((wdLen.getD j 0 : Nat) : Int) := by have := wd_le j; omega
theorem vin_lt2 {j n : Nat} {x : Int} (h : 0 ≤ x ∧ x < (n : Int)) (e : x.toNat = j) : j < n := by omega
section
variable {C : aM → List Value → aH → aO → aH → Prop} {c : Nat} {code : ByteArray} {mL : Nat} {rt : Option FieldType} {ini : Bool} {hs : List (Nat × Nat × Nat × Nat)} {sc : Nat × (Nat → Int32)} {P : aO → aH → Prop} {pc : Nat} {l : aL} {st : List Value} {σ : aH}
theorem i_add {x y : Int} (d : decode code pc = .ok (.iadd, 1)) (k0 : wp C c code mL rt ini hs sc P (pc + 1) l (.int (nZ (x + y)) :: st) σ) : wp C c code mL rt ini hs sc P pc l (.int (nZ y) :: .int (nZ x) :: st) σ := w_iadd d (by rw [nZ_add]; exact k0)
theorem i_addw {x y : Int} (d : decode code pc = .ok (.iadd, 1)) (k0 : wp C c code mL rt ini hs sc P (pc + 1) l (.int (nZ (wr (x + y))) :: st) σ) : wp C c code mL rt ini hs sc P pc l (.int (nZ y) :: .int (nZ x) :: st) σ := w_iadd d (by rw [nZ_add]; unfold wr at k0; rw [nZ_of] at k0; exact k0)
theorem j_add {x y : Int} (d : decode code pc = .ok (.ladd, 1)) (k0 : wp C c code mL rt ini hs sc P (pc + 1) l (.long (nJ (x + y)) :: st) σ) : wp C c code mL rt ini hs sc P pc l (.long (nJ y) :: .long (nJ x) :: st) σ := w_ladd d (by rw [nJ_add]; exact k0)
theorem i_sub {x y : Int} (d : decode code pc = .ok (.isub, 1)) (k0 : wp C c code mL rt ini hs sc P (pc + 1) l (.int (nZ (x - y)) :: st) σ) : wp C c code mL rt ini hs sc P pc l (.int (nZ y) :: .int (nZ x) :: st) σ := w_isub d (by rw [nZ_sub]; exact k0)
theorem i_subw {x y : Int} (d : decode code pc = .ok (.isub, 1)) (k0 : wp C c code mL rt ini hs sc P (pc + 1) l (.int (nZ (wr (x - y))) :: st) σ) : wp C c code mL rt ini hs sc P pc l (.int (nZ y) :: .int (nZ x) :: st) σ := w_isub d (by rw [nZ_sub]; unfold wr at k0; rw [nZ_of] at k0; exact k0)
theorem j_sub {x y : Int} (d : decode code pc = .ok (.lsub, 1)) (k0 : wp C c code mL rt ini hs sc P (pc + 1) l (.long (nJ (x - y)) :: st) σ) : wp C c code mL rt ini hs sc P pc l (.long (nJ y) :: .long (nJ x) :: st) σ := w_lsub d (by rw [nJ_sub]; exact k0)
theorem i_mul {x y : Int} (d : decode code pc = .ok (.imul, 1)) (k0 : wp C c code mL rt ini hs sc P (pc + 1) l (.int (nZ (x * y)) :: st) σ) : wp C c code mL rt ini hs sc P pc l (.int (nZ y) :: .int (nZ x) :: st) σ := w_imul d (by rw [nZ_mul]; exact k0)
theorem i_mulw {x y : Int} (d : decode code pc = .ok (.imul, 1)) (k0 : wp C c code mL rt ini hs sc P (pc + 1) l (.int (nZ (wr (x * y))) :: st) σ) : wp C c code mL rt ini hs sc P pc l (.int (nZ y) :: .int (nZ x) :: st) σ := w_imul d (by rw [nZ_mul]; unfold wr at k0; rw [nZ_of] at k0; exact k0)
theorem j_mul {x y : Int} (d : decode code pc = .ok (.lmul, 1)) (k0 : wp C c code mL rt ini hs sc P (pc + 1) l (.long (nJ (x * y)) :: st) σ) : wp C c code mL rt ini hs sc P pc l (.long (nJ y) :: .long (nJ x) :: st) σ := w_lmul d (by rw [nJ_mul]; exact k0)
theorem i_neg {x : Int} (d : decode code pc = .ok (.ineg, 1)) (k0 : wp C c code mL rt ini hs sc P (pc + 1) l (.int (nZ (-x)) :: st) σ) : wp C c code mL rt ini hs sc P pc l (.int (nZ x) :: st) σ := w_ineg d (by rw [nZ_neg]; exact k0)
theorem i_and {x y : Int} (d : decode code pc = .ok (.iand, 1)) (k0 : wp C c code mL rt ini hs sc P (pc + 1) l (.int (nZ (zAnd x y)) :: st) σ) : wp C c code mL rt ini hs sc P pc l (.int (nZ y) :: .int (nZ x) :: st) σ := w_iand d (by unfold zAnd at k0; rw [nZ_of] at k0; exact k0)
theorem i_or {x y : Int} (d : decode code pc = .ok (.ior, 1)) (k0 : wp C c code mL rt ini hs sc P (pc + 1) l (.int (nZ (zOr x y)) :: st) σ) : wp C c code mL rt ini hs sc P pc l (.int (nZ y) :: .int (nZ x) :: st) σ := w_ior d (by unfold zOr at k0; rw [nZ_of] at k0; exact k0)
theorem i_xor {x y : Int} (d : decode code pc = .ok (.ixor, 1)) (k0 : wp C c code mL rt ini hs sc P (pc + 1) l (.int (nZ (zXor x y)) :: st) σ) : wp C c code mL rt ini hs sc P pc l (.int (nZ y) :: .int (nZ x) :: st) σ := w_ixor d (by unfold zXor at k0; rw [nZ_of] at k0; exact k0)
theorem i_shl {x y : Int} (d : decode code pc = .ok (.ishl, 1)) (k0 : wp C c code mL rt ini hs sc P (pc + 1) l (.int (nZ (zShl x y)) :: st) σ) : wp C c code mL rt ini hs sc P pc l (.int (nZ y) :: .int (nZ x) :: st) σ := w_ishl d (by unfold zShl at k0; rw [nZ_of] at k0; exact k0)
theorem i_shr {x y : Int} (d : decode code pc = .ok (.ishr, 1)) (k0 : wp C c code mL rt ini hs sc P (pc + 1) l (.int (nZ (zShr x y)) :: st) σ) : wp C c code mL rt ini hs sc P pc l (.int (nZ y) :: .int (nZ x) :: st) σ := w_ishr d (by unfold zShr at k0; rw [nZ_of] at k0; exact k0)
theorem i_ushr {x y : Int} (d : decode code pc = .ok (.iushr, 1)) (k0 : wp C c code mL rt ini hs sc P (pc + 1) l (.int (nZ (zUsr x y)) :: st) σ) : wp C c code mL rt ini hs sc P pc l (.int (nZ y) :: .int (nZ x) :: st) σ := w_iushr d (by unfold zUsr at k0; rw [nZ_of] at k0; exact k0)
theorem j_or {x y : Int} (d : decode code pc = .ok (.lor, 1)) (k0 : wp C c code mL rt ini hs sc P (pc + 1) l (.long (nJ (zLor x y)) :: st) σ) : wp C c code mL rt ini hs sc P pc l (.long (nJ y) :: .long (nJ x) :: st) σ := w_lor d (by unfold zLor at k0; rw [nJ_of] at k0; exact k0)
theorem j_shl {x y : Int} (d : decode code pc = .ok (.lshl, 1)) (k0 : wp C c code mL rt ini hs sc P (pc + 1) l (.long (nJ (zLsh x y)) :: st) σ) : wp C c code mL rt ini hs sc P pc l (.int (nZ y) :: .long (nJ x) :: st) σ := w_lshl d (by unfold zLsh at k0; rw [nJ_of] at k0; exact k0)
theorem i_2b {x : Int} (d : decode code pc = .ok (.i2b, 1)) (k0 : wp C c code mL rt ini hs sc P (pc + 1) l (.int (nZ (zByt x)) :: st) σ) : wp C c code mL rt ini hs sc P pc l (.int (nZ x) :: st) σ := w_i2b d (by unfold zByt at k0; rw [nZ_of] at k0; exact k0)
theorem i_2l {x : Int} (d : decode code pc = .ok (.i2l, 1)) (rx : inR x) (k0 : wp C c code mL rt ini hs sc P (pc + 1) l (.long (nJ x) :: st) σ) : wp C c code mL rt ini hs sc P pc l (.int (nZ x) :: st) σ := w_i2l d (by have e : (nZ x).toInt64 = nJ x := by { rw [← Int64.toInt_inj, Int32.toInt_toInt64, nZ_t rx, nJ_t ⟨by omega, by omega⟩] }; rw [e]; exact k0)
theorem i_div {x y : Int} (d : decode code pc = .ok (.idiv, 1)) (rx : inR x) (ry : inR y) (h0 : 0 ≤ x ∧ 0 < y) (k0 : wp C c code mL rt ini hs sc P (pc + 1) l (.int (nZ (x / y)) :: st) σ) : wp C c code mL rt ini hs sc P pc l (.int (nZ y) :: .int (nZ x) :: st) σ := w_idiv d (by rw [nZ_0, nZ_eq ry (by decide)]; omega) (by rw [nZ_div rx ry h0.1 h0.2]; exact k0)
theorem i_rem {x y : Int} (d : decode code pc = .ok (.irem, 1)) (rx : inR x) (ry : inR y) (h0 : 0 ≤ x ∧ 0 < y) (k0 : wp C c code mL rt ini hs sc P (pc + 1) l (.int (nZ (x % y)) :: st) σ) : wp C c code mL rt ini hs sc P pc l (.int (nZ y) :: .int (nZ x) :: st) σ := w_irem d (by rw [nZ_0, nZ_eq ry (by decide)]; omega) (by rw [nZ_div rx ry h0.1 h0.2, nZ_mul, nZ_sub]; have e : x - x / y * y = x % y := by { have := Int.mul_ediv_add_emod x y; rw [Int.mul_comm] at this; omega }; rw [e]; exact k0)
theorem j_cmp {x y : Int} (d : decode code pc = .ok (.lcmp, 1)) (rx : inJ x) (ry : inJ y) (k0 : wp C c code mL rt ini hs sc P (pc + 1) l (.int (nZ (if y < x then 1 else if x = y then 0 else (-1))) :: st) σ) : wp C c code mL rt ini hs sc P pc l (.long (nJ y) :: .long (nJ x) :: st) σ := w_lcmp d (by have e : lg_cmp (nJ x) (nJ y) = nZ (if y < x then 1 else if x = y then 0 else (-1)) := by { unfold lg_cmp; simp only [GT.gt, nJ_lt ry rx, nJ_eq rx ry]; split; rfl; split <;> rfl }; rw [e]; exact k0)
theorem i_cmp_eq {x y off : Int} {tgt : Nat} (d : decode code pc = .ok (.if_icmp .eq off, 3)) (ht : (pc : Int) + off = (tgt : Int)) (rx : inR x) (ry : inR y) (k0 : x = y → wp C c code mL rt ini hs sc P tgt l st σ) (k1 : ¬ (x = y) → wp C c code mL rt ini hs sc P (pc + 3) l st σ) : wp C c code mL rt ini hs sc P pc l (.int (nZ y) :: .int (nZ x) :: st) σ := w_icmp_eq d ht (fun h => k0 ((nZ_eq rx ry).mp h)) (fun h => k1 (fun q => h ((nZ_eq rx ry).mpr q)))
theorem i_if_eq {x off : Int} {tgt : Nat} (d : decode code pc = .ok (.ifCond .eq off, 3)) (ht : (pc : Int) + off = (tgt : Int)) (rx : inR x) (k0 : x = 0 → wp C c code mL rt ini hs sc P tgt l st σ) (k1 : ¬ (x = 0) → wp C c code mL rt ini hs sc P (pc + 3) l st σ) : wp C c code mL rt ini hs sc P pc l (.int (nZ x) :: st) σ := w_if_eq d ht (fun h => k0 ((nZ_eq rx (by decide)).mp (nZ_0 ▸ h))) (fun h => k1 (fun q => h (nZ_0 ▸ (nZ_eq rx (by decide)).mpr q)))
theorem i_cmp_lt {x y off : Int} {tgt : Nat} (d : decode code pc = .ok (.if_icmp .lt off, 3)) (ht : (pc : Int) + off = (tgt : Int)) (rx : inR x) (ry : inR y) (k0 : x < y → wp C c code mL rt ini hs sc P tgt l st σ) (k1 : ¬ (x < y) → wp C c code mL rt ini hs sc P (pc + 3) l st σ) : wp C c code mL rt ini hs sc P pc l (.int (nZ y) :: .int (nZ x) :: st) σ := w_icmp_lt d ht (fun h => k0 ((nZ_lt rx ry).mp h)) (fun h => k1 (fun q => h ((nZ_lt rx ry).mpr q)))
theorem i_if_lt {x off : Int} {tgt : Nat} (d : decode code pc = .ok (.ifCond .lt off, 3)) (ht : (pc : Int) + off = (tgt : Int)) (rx : inR x) (k0 : x < 0 → wp C c code mL rt ini hs sc P tgt l st σ) (k1 : ¬ (x < 0) → wp C c code mL rt ini hs sc P (pc + 3) l st σ) : wp C c code mL rt ini hs sc P pc l (.int (nZ x) :: st) σ := w_if_lt d ht (fun h => k0 ((nZ_lt rx (by decide)).mp (nZ_0 ▸ h))) (fun h => k1 (fun q => h (nZ_0 ▸ (nZ_lt rx (by decide)).mpr q)))
theorem i_cmp_ge {x y off : Int} {tgt : Nat} (d : decode code pc = .ok (.if_icmp .ge off, 3)) (ht : (pc : Int) + off = (tgt : Int)) (rx : inR x) (ry : inR y) (k0 : y ≤ x → wp C c code mL rt ini hs sc P tgt l st σ) (k1 : ¬ (y ≤ x) → wp C c code mL rt ini hs sc P (pc + 3) l st σ) : wp C c code mL rt ini hs sc P pc l (.int (nZ y) :: .int (nZ x) :: st) σ := w_icmp_ge d ht (fun h => k0 ((nZ_le ry rx).mp h)) (fun h => k1 (fun q => h ((nZ_le ry rx).mpr q)))
theorem i_if_ge {x off : Int} {tgt : Nat} (d : decode code pc = .ok (.ifCond .ge off, 3)) (ht : (pc : Int) + off = (tgt : Int)) (rx : inR x) (k0 : 0 ≤ x → wp C c code mL rt ini hs sc P tgt l st σ) (k1 : ¬ (0 ≤ x) → wp C c code mL rt ini hs sc P (pc + 3) l st σ) : wp C c code mL rt ini hs sc P pc l (.int (nZ x) :: st) σ := w_if_ge d ht (fun h => k0 ((nZ_le (by decide) rx).mp (nZ_0 ▸ h))) (fun h => k1 (fun q => h (nZ_0 ▸ (nZ_le (by decide) rx).mpr q)))
theorem i_cmp_gt {x y off : Int} {tgt : Nat} (d : decode code pc = .ok (.if_icmp .gt off, 3)) (ht : (pc : Int) + off = (tgt : Int)) (rx : inR x) (ry : inR y) (k0 : y < x → wp C c code mL rt ini hs sc P tgt l st σ) (k1 : ¬ (y < x) → wp C c code mL rt ini hs sc P (pc + 3) l st σ) : wp C c code mL rt ini hs sc P pc l (.int (nZ y) :: .int (nZ x) :: st) σ := w_icmp_gt d ht (fun h => k0 ((nZ_lt ry rx).mp h)) (fun h => k1 (fun q => h ((nZ_lt ry rx).mpr q)))
theorem i_if_gt {x off : Int} {tgt : Nat} (d : decode code pc = .ok (.ifCond .gt off, 3)) (ht : (pc : Int) + off = (tgt : Int)) (rx : inR x) (k0 : 0 < x → wp C c code mL rt ini hs sc P tgt l st σ) (k1 : ¬ (0 < x) → wp C c code mL rt ini hs sc P (pc + 3) l st σ) : wp C c code mL rt ini hs sc P pc l (.int (nZ x) :: st) σ := w_if_gt d ht (fun h => k0 ((nZ_lt (by decide) rx).mp (nZ_0 ▸ h))) (fun h => k1 (fun q => h (nZ_0 ▸ (nZ_lt (by decide) rx).mpr q)))
theorem i_cmp_le {x y off : Int} {tgt : Nat} (d : decode code pc = .ok (.if_icmp .le off, 3)) (ht : (pc : Int) + off = (tgt : Int)) (rx : inR x) (ry : inR y) (k0 : x ≤ y → wp C c code mL rt ini hs sc P tgt l st σ) (k1 : ¬ (x ≤ y) → wp C c code mL rt ini hs sc P (pc + 3) l st σ) : wp C c code mL rt ini hs sc P pc l (.int (nZ y) :: .int (nZ x) :: st) σ := w_icmp_le d ht (fun h => k0 ((nZ_le rx ry).mp h)) (fun h => k1 (fun q => h ((nZ_le rx ry).mpr q)))
theorem i_if_le {x off : Int} {tgt : Nat} (d : decode code pc = .ok (.ifCond .le off, 3)) (ht : (pc : Int) + off = (tgt : Int)) (rx : inR x) (k0 : x ≤ 0 → wp C c code mL rt ini hs sc P tgt l st σ) (k1 : ¬ (x ≤ 0) → wp C c code mL rt ini hs sc P (pc + 3) l st σ) : wp C c code mL rt ini hs sc P pc l (.int (nZ x) :: st) σ := w_if_le d ht (fun h => k0 ((nZ_le rx (by decide)).mp (nZ_0 ▸ h))) (fun h => k1 (fun q => h (nZ_0 ▸ (nZ_le rx (by decide)).mpr q)))
theorem i_cmp_ne {x y off : Int} {tgt : Nat} (d : decode code pc = .ok (.if_icmp .ne off, 3)) (ht : (pc : Int) + off = (tgt : Int)) (rx : inR x) (ry : inR y) (k0 : ¬ x = y → wp C c code mL rt ini hs sc P tgt l st σ) (k1 : x = y → wp C c code mL rt ini hs sc P (pc + 3) l st σ) : wp C c code mL rt ini hs sc P pc l (.int (nZ y) :: .int (nZ x) :: st) σ := w_icmp_ne d ht (fun h => k0 (fun q => h ((nZ_eq rx ry).mpr q))) (fun h => k1 ((nZ_eq rx ry).mp h))
theorem i_if_ne {x off : Int} {tgt : Nat} (d : decode code pc = .ok (.ifCond .ne off, 3)) (ht : (pc : Int) + off = (tgt : Int)) (rx : inR x) (k0 : ¬ x = 0 → wp C c code mL rt ini hs sc P tgt l st σ) (k1 : x = 0 → wp C c code mL rt ini hs sc P (pc + 3) l st σ) : wp C c code mL rt ini hs sc P pc l (.int (nZ x) :: st) σ := w_if_ne d ht (fun h => k0 (fun q => h (nZ_0 ▸ (nZ_eq rx (by decide)).mpr q))) (fun h => k1 ((nZ_eq rx (by decide)).mp (nZ_0 ▸ h)))
theorem i_tabIn {dflt lo hi : Int} {offs : Array Int} {len : Nat} {x off : Int} {tgt : Nat} (n : Int) (hx : x = n) (d : decode code pc = .ok (.tableswitch dflt lo hi offs, len)) (rx : inR x) (h1 : ¬ n < lo) (h2 : ¬ hi < n) (ho : offs[(n - lo).toNat]? = some off) (ht : (pc : Int) + off = (tgt : Int)) (k0 : wp C c code mL rt ini hs sc P tgt l st σ) : wp C c code mL rt ini hs sc P pc l (.int (nZ x) :: st) σ := w_tabIn d (by rw [nZ_t rx, hx]; exact h1) (by rw [nZ_t rx, hx]; exact h2) (by rw [nZ_t rx, hx]; exact ho) ht k0
theorem i_tabOut {dflt lo hi : Int} {offs : Array Int} {len : Nat} {x : Int} {tgt : Nat} (d : decode code pc = .ok (.tableswitch dflt lo hi offs, len)) (rx : inR x) (h1 : x < lo ∨ hi < x) (ht : (pc : Int) + dflt = (tgt : Int)) (k0 : wp C c code mL rt ini hs sc P tgt l st σ) : wp C c code mL rt ini hs sc P pc l (.int (nZ x) :: st) σ := w_tabOut d (by rw [nZ_t rx]; exact h1) ht k0
theorem i_ldc {i : Nat} {v : Int32} {x : Int} (d : decode code pc = .ok (.ldc i, 2)) (hc : Cond.constant (cn c) i v ∈ lw_tbl) (hx : v = nZ x) (k0 : wp C c code mL rt ini hs sc P (pc + 2) l (.int (nZ x) :: st) σ) : wp C c code mL rt ini hs sc P pc l st σ := w_ldc d hc (hx ▸ k0)
theorem i_ldcw {i : Nat} {v : Int32} {x : Int} (d : decode code pc = .ok (.ldc_w i, 3)) (hc : Cond.constant (cn c) i v ∈ lw_tbl) (hx : v = nZ x) (k0 : wp C c code mL rt ini hs sc P (pc + 3) l (.int (nZ x) :: st) σ) : wp C c code mL rt ini hs sc P pc l st σ := w_ldcw d hc (hx ▸ k0)
theorem i_ldc2 {i : Nat} {v : Int64} {x : Int} (d : decode code pc = .ok (.ldc2_w i, 3)) (hc : Cond.constantLong (cn c) i v ∈ lw_tbl) (hx : v = nJ x) (k0 : wp C c code mL rt ini hs sc P (pc + 3) l (.long (nJ x) :: st) σ) : wp C c code mL rt ini hs sc P pc l st σ := w_ldc2 d hc (hx ▸ k0)
theorem top_i {x : Int}  (k : ∀ z : Int, z = x → wp C c code mL rt ini hs sc P pc l (.int (nZ z) :: st) σ) : wp C c code mL rt ini hs sc P pc l (.int (nZ x) :: st) σ := k x rfl
theorem top_j {x : Int}  (k : ∀ z : Int, z = x → wp C c code mL rt ini hs sc P pc l (.long (nJ z) :: st) σ) : wp C c code mL rt ini hs sc P pc l (.long (nJ x) :: st) σ := k x rfl
theorem i_getI {i ci a : Nat} {k : Nat} (z : Int) (hz : z.toNat = k) (d : decode code pc = .ok (.getfield i, 3)) (hf : FLk c i ci k) (hk : fkd (cT ci) k = 0) (ha : tg σ a = ci + 1 ∧ a < gN σ) (k0 : wp C c code mL rt ini hs sc P (pc + 3) l (.int (nZ (rI σ a z)) :: st) σ) : wp C c code mL rt ini hs sc P pc l (.ref a :: st) σ := w_getI d hf hk ha (by unfold rI at k0; rw [nZ_of, hz] at k0; exact k0)
theorem i_putI {i ci a k : Nat} {x : Int} (z : Int) (hz : z.toNat = k) (d : decode code pc = .ok (.putfield i, 3)) (hf : FLk c i ci k) (hk : fkd (cT ci) k = 0) (ha : tg σ a = ci + 1 ∧ a < gN σ) (k0 : ∀ σ1 : aH, wI σ a z x = σ1 → wp C c code mL rt ini hs sc P (pc + 3) l st σ1) : wp C c code mL rt ini hs sc P pc l (.int (nZ x) :: .ref a :: st) σ := w_putI d hf hk ha (k0 _ (by unfold wI; rw [hz]))
theorem i_iald {a n : Nat} {i : Int} (d : decode code pc = .ok (.iaload, 1)) (ha : tg σ a = 101 ∧ a < gN σ) (hn : ln σ a = n) (ri : inR i) (hi : 0 ≤ i ∧ i < (n : Int)) (k0 : wp C c code mL rt ini hs sc P (pc + 1) l (.int (nZ (rI σ a i)) :: st) σ) : wp C c code mL rt ini hs sc P pc l (.int (nZ i) :: .ref a :: st) σ := w_iald d ha (hn ▸ nZ_in hi ri) (by unfold rI at k0; rw [nZ_of] at k0; rw [nZ_clamp ri]; exact k0)
theorem i_bald {a n : Nat} {i : Int} (d : decode code pc = .ok (.baload, 1)) (ha : tg σ a = 102 ∧ a < gN σ) (hn : ln σ a = n) (ri : inR i) (hi : 0 ≤ i ∧ i < (n : Int)) (k0 : wp C c code mL rt ini hs sc P (pc + 1) l (.int (nZ (rI σ a i)) :: st) σ) : wp C c code mL rt ini hs sc P pc l (.int (nZ i) :: .ref a :: st) σ := w_bald d ha (hn ▸ nZ_in hi ri) (by unfold rI at k0; rw [nZ_of] at k0; rw [nZ_clamp ri]; exact k0)
theorem i_lald {a n : Nat} {i : Int} (d : decode code pc = .ok (.laload, 1)) (ha : tg σ a = 103 ∧ a < gN σ) (hn : ln σ a = n) (ri : inR i) (hi : 0 ≤ i ∧ i < (n : Int)) (k0 : wp C c code mL rt ini hs sc P (pc + 1) l (.long (nJ (rJ σ a i)) :: st) σ) : wp C c code mL rt ini hs sc P pc l (.int (nZ i) :: .ref a :: st) σ := w_lald d ha (hn ▸ nZ_in hi ri) (by unfold rJ at k0; rw [nJ_of] at k0; rw [nZ_clamp ri]; exact k0)
theorem i_iast {a n : Nat} {i x : Int} (d : decode code pc = .ok (.iastore, 1)) (ha : tg σ a = 101 ∧ a < gN σ) (hn : ln σ a = n) (ri : inR i) (hi : 0 ≤ i ∧ i < (n : Int)) (k0 : ∀ σ1 : aH, wI σ a i x = σ1 → wp C c code mL rt ini hs sc P (pc + 1) l st σ1) : wp C c code mL rt ini hs sc P pc l (.int (nZ x) :: .int (nZ i) :: .ref a :: st) σ := w_iast d ha (hn ▸ nZ_in hi ri) (k0 _ (by unfold wI; rw [nZ_clamp ri]))
theorem i_last {a n : Nat} {i x : Int} (d : decode code pc = .ok (.lastore, 1)) (ha : tg σ a = 103 ∧ a < gN σ) (hn : ln σ a = n) (ri : inR i) (hi : 0 ≤ i ∧ i < (n : Int)) (k0 : ∀ σ1 : aH, wJ σ a i x = σ1 → wp C c code mL rt ini hs sc P (pc + 1) l st σ1) : wp C c code mL rt ini hs sc P pc l (.long (nJ x) :: .int (nZ i) :: .ref a :: st) σ := w_last d ha (hn ▸ nZ_in hi ri) (k0 _ (by unfold wJ; rw [nZ_clamp ri]))
theorem i_bast {a n : Nat} {i x : Int} (d : decode code pc = .ok (.bastore, 1)) (ha : tg σ a = 102 ∧ a < gN σ) (hn : ln σ a = n) (ri : inR i) (hi : 0 ≤ i ∧ i < (n : Int)) (k0 : ∀ σ1 : aH, wI σ a i (zByt x) = σ1 → wp C c code mL rt ini hs sc P (pc + 1) l st σ1) : wp C c code mL rt ini hs sc P pc l (.int (nZ x) :: .int (nZ i) :: .ref a :: st) σ := w_bast d ha (hn ▸ nZ_in hi ri) (k0 _ (by unfold wI zByt; rw [nZ_clamp ri, nZ_of]))
theorem i_aald {a n b : Nat} {i : Int} (d : decode code pc = .ok (.aaload, 1)) (ha : tg σ a = 104 ∧ a < gN σ) (hn : ln σ a = n) (ri : inR i) (hi : 0 ≤ i ∧ i < (n : Int)) (hb : rf σ a i.toNat = some b) (k0 : wp C c code mL rt ini hs sc P (pc + 1) l (.ref b :: st) σ) : wp C c code mL rt ini hs sc P pc l (.int (nZ i) :: .ref a :: st) σ := w_aald d ha (hn ▸ nZ_in hi ri) (by rw [nZ_clamp ri]; exact hb) k0
theorem i_copy {a b na nb i : Nat} (d : decode code pc = .ok (.invokestatic i, 3)) (hl : Cond.methodLink (cn c) i arraycopyName ∈ lw_tbl) (hw : catsum st ≤ 8) (ha : tg σ a = 101 ∧ a < gN σ) (hb : tg σ b = 101 ∧ b < gN σ) (hna : ln σ a = na) (hnb : ln σ b = nb) (h1 : 9 ≤ na ∧ 9 ≤ nb) (k0 : ∀ σ1 : aH, wC σ a b = σ1 → wp C c code mL rt ini hs sc P (pc + 3) l st σ1) : wp C c code mL rt ini hs sc P pc l (.int (nZ 9) :: .int (nZ 0) :: .ref b :: .int (nZ 0) :: .ref a :: st) σ := w_copy d hl hw ha hb (by rw [hna, hnb]; exact ⟨by decide, by decide, by decide, h1.1, h1.2⟩) (k0 _ rfl)
theorem i_mmax {i : Nat} {x y : Int} (d : decode code pc = .ok (.invokestatic i, 3)) (hl : Cond.methodLink (cn c) i Lib.Math.max.name ∈ lw_tbl) (hw : catsum st ≤ 8) (rx : inR x) (ry : inR y) (k0 : ∀ z : Int, z = max x y → inR z → wp C c code mL rt ini hs sc P (pc + 3) l (.int (nZ z) :: st) σ) : wp C c code mL rt ini hs sc P pc l (.int (nZ y) :: .int (nZ x) :: st) σ := w_mmax d hl hw (by have e : (if nZ x < nZ y then nZ y else nZ x) = nZ (max x y) := by { simp only [nZ_lt rx ry, nZ_lt ry rx]; split <;> congr 1 <;> omega }; rw [e]; exact k0 _ rfl (by omega))
theorem i_mmin {i : Nat} {x y : Int} (d : decode code pc = .ok (.invokestatic i, 3)) (hl : Cond.methodLink (cn c) i Lib.Math.min.name ∈ lw_tbl) (hw : catsum st ≤ 8) (rx : inR x) (ry : inR y) (k0 : ∀ z : Int, z = min x y → inR z → wp C c code mL rt ini hs sc P (pc + 3) l (.int (nZ z) :: st) σ) : wp C c code mL rt ini hs sc P pc l (.int (nZ y) :: .int (nZ x) :: st) σ := w_mmin d hl hw (by have e : (if nZ y < nZ x then nZ y else nZ x) = nZ (min x y) := by { simp only [nZ_lt rx ry, nZ_lt ry rx]; split <;> congr 1 <;> omega }; rw [e]; exact k0 _ rfl (by omega))
theorem i_mabs {i : Nat} {x : Int} (d : decode code pc = .ok (.invokestatic i, 3)) (hl : Cond.methodLink (cn c) i Lib.Math.abs.name ∈ lw_tbl) (hw : catsum st ≤ 8) (rx : inR x) (hx : inR (-x)) (k0 : ∀ z : Int, z = max x (-x) → inR z → wp C c code mL rt ini hs sc P (pc + 3) l (.int (nZ z) :: st) σ) : wp C c code mL rt ini hs sc P pc l (.int (nZ x) :: st) σ := w_mabs d hl hw (by have e : (if 0 ≤ nZ x then nZ x else 0 - nZ x) = nZ (max x (-x)) := by { simp only [nZ_0, nZ_le (show inR 0 by decide) rx, nZ_sub]; split <;> congr 1 <;> omega }; rw [e]; exact k0 _ rfl (by omega))
theorem i_strL {i j : Nat} (d : decode code pc = .ok (.invokevirtual i, 3)) (hl : Cond.methodLink (cn c) i yJ0_length_8abf5 ∈ lw_tbl) (hw : catsum st ≤ 8) (hj : j < 10) (k0 : wp C c code mL rt ini hs sc P (pc + 3) l (.int (nZ ((wdLen.getD j 0 : Nat) : Int)) :: st) σ) : wp C c code mL rt ini hs sc P pc l (.ref (1000001 + j) :: st) σ := w_strL d hl hw hj (by rw [nI_Z]; exact k0)
theorem i_strC {i j : Nat} {x : Int} (d : decode code pc = .ok (.invokevirtual i, 3)) (hl : Cond.methodLink (cn c) i yJ0_charAt_5068e ∈ lw_tbl) (hw : catsum st ≤ 8) (hj : j < 10) (hk : 0 ≤ x ∧ x < ((wdLen.getD j 0 : Nat) : Int)) (k0 : wp C c code mL rt ini hs sc P (pc + 3) l (.int (nZ (((wdByt.getD j []).getD x.toNat 0).toInt)) :: st) σ) : wp C c code mL rt ini hs sc P pc l (.int (nZ x) :: .ref (1000001 + j) :: st) σ := by have e : x = ((x.toNat : Nat) : Int) := by { omega }; rw [e, ← nI_Z]; refine w_strC d hl hw hj (by omega) ?_; rw [nZ_of] at k0; exact k0
theorem i_zret {v : Int} (d : decode code pc = .ok (.ireturn, 1)) (hr : rt = some .boolean) (hv : v = 0 ∨ v = 1) (hP : P (.inl (some (.int (nZ v)))) σ)  : wp C c code mL rt ini hs sc P pc l [.int (nZ v)] σ := w_zret d hr (hv.imp (fun q => by rw [q]; rfl) (fun q => by rw [q]; rfl)) hP
end
theorem sw_cases (x : Int) (lo hi : Int) : (x < lo ∨ hi < x) ∨ (lo ≤ x ∧ x ≤ hi) := by omega
theorem lk_1_50 : Cond.methodLink (cn 1) 50 arraycopyName ∈ lw_tbl := List.mem_of_getElem? (i := 715) (by decide +kernel)
theorem lk_2_65 : Cond.methodLink (cn 2) 65 Lib.Math.min.name ∈ lw_tbl := List.mem_of_getElem? (i := 689) (by decide +kernel)
theorem lk_2_76 : Cond.methodLink (cn 2) 76 Lib.Math.max.name ∈ lw_tbl := List.mem_of_getElem? (i := 688) (by decide +kernel)
theorem lk_3_55 : Cond.methodLink (cn 3) 55 Lib.Math.max.name ∈ lw_tbl := List.mem_of_getElem? (i := 1118) (by decide +kernel)
theorem lk_4_75 : Cond.methodLink (cn 4) 75 arraycopyName ∈ lw_tbl := List.mem_of_getElem? (i := 1188) (by decide +kernel)
theorem lk_5_40 : Cond.methodLink (cn 5) 40 Lib.Math.min.name ∈ lw_tbl := List.mem_of_getElem? (i := 816) (by decide +kernel)
theorem ls_5_108 : Cond.methodLink (cn 5) 108 yJ0_length_8abf5 ∈ lw_tbl := List.mem_of_getElem? (i := 851) (by decide +kernel)
theorem ls_5_113 : Cond.methodLink (cn 5) 113 yJ0_charAt_5068e ∈ lw_tbl := List.mem_of_getElem? (i := 861) (by decide +kernel)
theorem lk_6_77 : Cond.methodLink (cn 6) 77 Lib.Math.abs.name ∈ lw_tbl := List.mem_of_getElem? (i := 577) (by decide +kernel)
theorem lk_6_82 : Cond.methodLink (cn 6) 82 Lib.Math.max.name ∈ lw_tbl := List.mem_of_getElem? (i := 580) (by decide +kernel)
theorem lk_6_117 : Cond.methodLink (cn 6) 117 Lib.Math.min.name ∈ lw_tbl := List.mem_of_getElem? (i := 1068) (by decide +kernel)
theorem lk_7_47 : Cond.methodLink (cn 7) 47 Lib.Math.min.name ∈ lw_tbl := List.mem_of_getElem? (i := 1273) (by decide +kernel)
theorem lk_9_284 : Cond.methodLink (cn 9) 284 Lib.Math.min.name ∈ lw_tbl := List.mem_of_getElem? (i := 1317) (by decide +kernel)
theorem lk_9_289 : Cond.methodLink (cn 9) 289 Lib.Math.max.name ∈ lw_tbl := List.mem_of_getElem? (i := 1318) (by decide +kernel)
