def XE (C : aM → List Value → aH → aO → aH → Prop) (c : Nat) (code : ByteArray) (mL : Nat) (rt : Option FieldType) (ini : Bool) (hs : List (Nat × Nat × Nat × Nat)) (sc : Nat × (Nat → Int32)) (P : aO → aH → Prop) (pc : Nat) (l : aL) (st : List Value) (σ : aH) : Prop := ∃ (o : aO) (σ1 : aH), P o σ1 ∧ wp C c code mL rt ini hs sc (fun o2 σ2 => o2 = o ∧ σ2 = σ1) pc l st σ
theorem ex_iconst (C : aM → List Value → aH → aO → aH → Prop) (c : Nat) (code : ByteArray) (mL : Nat) (rt : Option FieldType) (ini : Bool) (hs : List (Nat × Nat × Nat × Nat)) (sc : Nat × (Nat → Int32)) (P : aO → aH → Prop) : q_iconst C c code mL rt ini hs sc P (XE C c code mL rt ini hs sc P) := by
  intro pc l st σ n v d hv k0
  obtain ⟨o9, σ9, hP9, hw9⟩ := k0
  exact ⟨o9, σ9, hP9, w_iconst d hv hw9⟩
theorem ex_bipush (C : aM → List Value → aH → aO → aH → Prop) (c : Nat) (code : ByteArray) (mL : Nat) (rt : Option FieldType) (ini : Bool) (hs : List (Nat × Nat × Nat × Nat)) (sc : Nat × (Nat → Int32)) (P : aO → aH → Prop) : q_bipush C c code mL rt ini hs sc P (XE C c code mL rt ini hs sc P) := by
  intro pc l st σ n v d hv k0
  obtain ⟨o9, σ9, hP9, hw9⟩ := k0
  exact ⟨o9, σ9, hP9, w_bipush d hv hw9⟩
theorem ex_sipush (C : aM → List Value → aH → aO → aH → Prop) (c : Nat) (code : ByteArray) (mL : Nat) (rt : Option FieldType) (ini : Bool) (hs : List (Nat × Nat × Nat × Nat)) (sc : Nat × (Nat → Int32)) (P : aO → aH → Prop) : q_sipush C c code mL rt ini hs sc P (XE C c code mL rt ini hs sc P) := by
  intro pc l st σ n v d hv k0
  obtain ⟨o9, σ9, hP9, hw9⟩ := k0
  exact ⟨o9, σ9, hP9, w_sipush d hv hw9⟩
theorem ex_lconst (C : aM → List Value → aH → aO → aH → Prop) (c : Nat) (code : ByteArray) (mL : Nat) (rt : Option FieldType) (ini : Bool) (hs : List (Nat × Nat × Nat × Nat)) (sc : Nat × (Nat → Int32)) (P : aO → aH → Prop) : q_lconst C c code mL rt ini hs sc P (XE C c code mL rt ini hs sc P) := by
  intro pc l st σ n v d hv k0
  obtain ⟨o9, σ9, hP9, hw9⟩ := k0
  exact ⟨o9, σ9, hP9, w_lconst d hv hw9⟩
theorem ex_ldc (C : aM → List Value → aH → aO → aH → Prop) (c : Nat) (code : ByteArray) (mL : Nat) (rt : Option FieldType) (ini : Bool) (hs : List (Nat × Nat × Nat × Nat)) (sc : Nat × (Nat → Int32)) (P : aO → aH → Prop) : q_ldc C c code mL rt ini hs sc P (XE C c code mL rt ini hs sc P) := by
  intro pc l st σ i v d hc k0
  obtain ⟨o9, σ9, hP9, hw9⟩ := k0
  exact ⟨o9, σ9, hP9, w_ldc d hc hw9⟩
theorem ex_ldcw (C : aM → List Value → aH → aO → aH → Prop) (c : Nat) (code : ByteArray) (mL : Nat) (rt : Option FieldType) (ini : Bool) (hs : List (Nat × Nat × Nat × Nat)) (sc : Nat × (Nat → Int32)) (P : aO → aH → Prop) : q_ldcw C c code mL rt ini hs sc P (XE C c code mL rt ini hs sc P) := by
  intro pc l st σ i v d hc k0
  obtain ⟨o9, σ9, hP9, hw9⟩ := k0
  exact ⟨o9, σ9, hP9, w_ldcw d hc hw9⟩
theorem ex_ldc2 (C : aM → List Value → aH → aO → aH → Prop) (c : Nat) (code : ByteArray) (mL : Nat) (rt : Option FieldType) (ini : Bool) (hs : List (Nat × Nat × Nat × Nat)) (sc : Nat × (Nat → Int32)) (P : aO → aH → Prop) : q_ldc2 C c code mL rt ini hs sc P (XE C c code mL rt ini hs sc P) := by
  intro pc l st σ i v d hc k0
  obtain ⟨o9, σ9, hP9, hw9⟩ := k0
  exact ⟨o9, σ9, hP9, w_ldc2 d hc hw9⟩
theorem ex_ldcS (C : aM → List Value → aH → aO → aH → Prop) (c : Nat) (code : ByteArray) (mL : Nat) (rt : Option FieldType) (ini : Bool) (hs : List (Nat × Nat × Nat × Nat)) (sc : Nat × (Nat → Int32)) (P : aO → aH → Prop) : q_ldcS C c code mL rt ini hs sc P (XE C c code mL rt ini hs sc P) := by
  intro pc l st σ i q d hc k0
  obtain ⟨o9, σ9, hP9, hw9⟩ := k0
  exact ⟨o9, σ9, hP9, w_ldcS d hc hw9⟩
theorem ex_iload_n (C : aM → List Value → aH → aO → aH → Prop) (c : Nat) (code : ByteArray) (mL : Nat) (rt : Option FieldType) (ini : Bool) (hs : List (Nat × Nat × Nat × Nat)) (sc : Nat × (Nat → Int32)) (P : aO → aH → Prop) : q_iload_n C c code mL rt ini hs sc P (XE C c code mL rt ini hs sc P) := by
  intro pc l st σ k i x d hi hl k0
  obtain ⟨o9, σ9, hP9, hw9⟩ := k0
  exact ⟨o9, σ9, hP9, w_iload_n d hi hl hw9⟩
theorem ex_iload (C : aM → List Value → aH → aO → aH → Prop) (c : Nat) (code : ByteArray) (mL : Nat) (rt : Option FieldType) (ini : Bool) (hs : List (Nat × Nat × Nat × Nat)) (sc : Nat × (Nat → Int32)) (P : aO → aH → Prop) : q_iload C c code mL rt ini hs sc P (XE C c code mL rt ini hs sc P) := by
  intro pc l st σ i x d hl k0
  obtain ⟨o9, σ9, hP9, hw9⟩ := k0
  exact ⟨o9, σ9, hP9, w_iload d hl hw9⟩
theorem ex_istore_n (C : aM → List Value → aH → aO → aH → Prop) (c : Nat) (code : ByteArray) (mL : Nat) (rt : Option FieldType) (ini : Bool) (hs : List (Nat × Nat × Nat × Nat)) (sc : Nat × (Nat → Int32)) (P : aO → aH → Prop) : q_istore_n C c code mL rt ini hs sc P (XE C c code mL rt ini hs sc P) := by
  intro pc l st σ k i x l' d hi hn hl k0
  obtain ⟨o9, σ9, hP9, hw9⟩ := k0
  exact ⟨o9, σ9, hP9, w_istore_n d hi hn hl hw9⟩
theorem ex_istore (C : aM → List Value → aH → aO → aH → Prop) (c : Nat) (code : ByteArray) (mL : Nat) (rt : Option FieldType) (ini : Bool) (hs : List (Nat × Nat × Nat × Nat)) (sc : Nat × (Nat → Int32)) (P : aO → aH → Prop) : q_istore C c code mL rt ini hs sc P (XE C c code mL rt ini hs sc P) := by
  intro pc l st σ i x l' d hn hl k0
  obtain ⟨o9, σ9, hP9, hw9⟩ := k0
  exact ⟨o9, σ9, hP9, w_istore d hn hl hw9⟩
theorem ex_lload_n (C : aM → List Value → aH → aO → aH → Prop) (c : Nat) (code : ByteArray) (mL : Nat) (rt : Option FieldType) (ini : Bool) (hs : List (Nat × Nat × Nat × Nat)) (sc : Nat × (Nat → Int32)) (P : aO → aH → Prop) : q_lload_n C c code mL rt ini hs sc P (XE C c code mL rt ini hs sc P) := by
  intro pc l st σ k i x d hi hl k0
  obtain ⟨o9, σ9, hP9, hw9⟩ := k0
  exact ⟨o9, σ9, hP9, w_lload_n d hi hl hw9⟩
theorem ex_lload (C : aM → List Value → aH → aO → aH → Prop) (c : Nat) (code : ByteArray) (mL : Nat) (rt : Option FieldType) (ini : Bool) (hs : List (Nat × Nat × Nat × Nat)) (sc : Nat × (Nat → Int32)) (P : aO → aH → Prop) : q_lload C c code mL rt ini hs sc P (XE C c code mL rt ini hs sc P) := by
  intro pc l st σ i x d hl k0
  obtain ⟨o9, σ9, hP9, hw9⟩ := k0
  exact ⟨o9, σ9, hP9, w_lload d hl hw9⟩
theorem ex_lstore_n (C : aM → List Value → aH → aO → aH → Prop) (c : Nat) (code : ByteArray) (mL : Nat) (rt : Option FieldType) (ini : Bool) (hs : List (Nat × Nat × Nat × Nat)) (sc : Nat × (Nat → Int32)) (P : aO → aH → Prop) : q_lstore_n C c code mL rt ini hs sc P (XE C c code mL rt ini hs sc P) := by
  intro pc l st σ k i x l' d hi hn hl k0
  obtain ⟨o9, σ9, hP9, hw9⟩ := k0
  exact ⟨o9, σ9, hP9, w_lstore_n d hi hn hl hw9⟩
theorem ex_lstore (C : aM → List Value → aH → aO → aH → Prop) (c : Nat) (code : ByteArray) (mL : Nat) (rt : Option FieldType) (ini : Bool) (hs : List (Nat × Nat × Nat × Nat)) (sc : Nat × (Nat → Int32)) (P : aO → aH → Prop) : q_lstore C c code mL rt ini hs sc P (XE C c code mL rt ini hs sc P) := by
  intro pc l st σ i x l' d hn hl k0
  obtain ⟨o9, σ9, hP9, hw9⟩ := k0
  exact ⟨o9, σ9, hP9, w_lstore d hn hl hw9⟩
theorem ex_aload_n (C : aM → List Value → aH → aO → aH → Prop) (c : Nat) (code : ByteArray) (mL : Nat) (rt : Option FieldType) (ini : Bool) (hs : List (Nat × Nat × Nat × Nat)) (sc : Nat × (Nat → Int32)) (P : aO → aH → Prop) : q_aload_n C c code mL rt ini hs sc P (XE C c code mL rt ini hs sc P) := by
  intro pc l st σ k i x d hi hl k0
  obtain ⟨o9, σ9, hP9, hw9⟩ := k0
  exact ⟨o9, σ9, hP9, w_aload_n d hi hl hw9⟩
theorem ex_aload (C : aM → List Value → aH → aO → aH → Prop) (c : Nat) (code : ByteArray) (mL : Nat) (rt : Option FieldType) (ini : Bool) (hs : List (Nat × Nat × Nat × Nat)) (sc : Nat × (Nat → Int32)) (P : aO → aH → Prop) : q_aload C c code mL rt ini hs sc P (XE C c code mL rt ini hs sc P) := by
  intro pc l st σ i x d hl k0
  obtain ⟨o9, σ9, hP9, hw9⟩ := k0
  exact ⟨o9, σ9, hP9, w_aload d hl hw9⟩
theorem ex_astore_n (C : aM → List Value → aH → aO → aH → Prop) (c : Nat) (code : ByteArray) (mL : Nat) (rt : Option FieldType) (ini : Bool) (hs : List (Nat × Nat × Nat × Nat)) (sc : Nat × (Nat → Int32)) (P : aO → aH → Prop) : q_astore_n C c code mL rt ini hs sc P (XE C c code mL rt ini hs sc P) := by
  intro pc l st σ k i x l' d hi hn hl k0
  obtain ⟨o9, σ9, hP9, hw9⟩ := k0
  exact ⟨o9, σ9, hP9, w_astore_n d hi hn hl hw9⟩
theorem ex_astore (C : aM → List Value → aH → aO → aH → Prop) (c : Nat) (code : ByteArray) (mL : Nat) (rt : Option FieldType) (ini : Bool) (hs : List (Nat × Nat × Nat × Nat)) (sc : Nat × (Nat → Int32)) (P : aO → aH → Prop) : q_astore C c code mL rt ini hs sc P (XE C c code mL rt ini hs sc P) := by
  intro pc l st σ i x l' d hn hl k0
  obtain ⟨o9, σ9, hP9, hw9⟩ := k0
  exact ⟨o9, σ9, hP9, w_astore d hn hl hw9⟩
theorem ex_iinc (C : aM → List Value → aH → aO → aH → Prop) (c : Nat) (code : ByteArray) (mL : Nat) (rt : Option FieldType) (ini : Bool) (hs : List (Nat × Nat × Nat × Nat)) (sc : Nat × (Nat → Int32)) (P : aO → aH → Prop) : q_iinc C c code mL rt ini hs sc P (XE C c code mL rt ini hs sc P) := by
  intro pc l st σ i n x v l' d hk hv hn hl k0
  obtain ⟨o9, σ9, hP9, hw9⟩ := k0
  exact ⟨o9, σ9, hP9, w_iinc d hk hv hn hl hw9⟩
theorem ex_iadd (C : aM → List Value → aH → aO → aH → Prop) (c : Nat) (code : ByteArray) (mL : Nat) (rt : Option FieldType) (ini : Bool) (hs : List (Nat × Nat × Nat × Nat)) (sc : Nat × (Nat → Int32)) (P : aO → aH → Prop) : q_iadd C c code mL rt ini hs sc P (XE C c code mL rt ini hs sc P) := by
  intro pc l st σ x y d k0
  obtain ⟨o9, σ9, hP9, hw9⟩ := k0
  exact ⟨o9, σ9, hP9, w_iadd d hw9⟩
theorem ex_isub (C : aM → List Value → aH → aO → aH → Prop) (c : Nat) (code : ByteArray) (mL : Nat) (rt : Option FieldType) (ini : Bool) (hs : List (Nat × Nat × Nat × Nat)) (sc : Nat × (Nat → Int32)) (P : aO → aH → Prop) : q_isub C c code mL rt ini hs sc P (XE C c code mL rt ini hs sc P) := by
  intro pc l st σ x y d k0
  obtain ⟨o9, σ9, hP9, hw9⟩ := k0
  exact ⟨o9, σ9, hP9, w_isub d hw9⟩
theorem ex_imul (C : aM → List Value → aH → aO → aH → Prop) (c : Nat) (code : ByteArray) (mL : Nat) (rt : Option FieldType) (ini : Bool) (hs : List (Nat × Nat × Nat × Nat)) (sc : Nat × (Nat → Int32)) (P : aO → aH → Prop) : q_imul C c code mL rt ini hs sc P (XE C c code mL rt ini hs sc P) := by
  intro pc l st σ x y d k0
  obtain ⟨o9, σ9, hP9, hw9⟩ := k0
  exact ⟨o9, σ9, hP9, w_imul d hw9⟩
theorem ex_iand (C : aM → List Value → aH → aO → aH → Prop) (c : Nat) (code : ByteArray) (mL : Nat) (rt : Option FieldType) (ini : Bool) (hs : List (Nat × Nat × Nat × Nat)) (sc : Nat × (Nat → Int32)) (P : aO → aH → Prop) : q_iand C c code mL rt ini hs sc P (XE C c code mL rt ini hs sc P) := by
  intro pc l st σ x y d k0
  obtain ⟨o9, σ9, hP9, hw9⟩ := k0
  exact ⟨o9, σ9, hP9, w_iand d hw9⟩
theorem ex_ior (C : aM → List Value → aH → aO → aH → Prop) (c : Nat) (code : ByteArray) (mL : Nat) (rt : Option FieldType) (ini : Bool) (hs : List (Nat × Nat × Nat × Nat)) (sc : Nat × (Nat → Int32)) (P : aO → aH → Prop) : q_ior C c code mL rt ini hs sc P (XE C c code mL rt ini hs sc P) := by
  intro pc l st σ x y d k0
  obtain ⟨o9, σ9, hP9, hw9⟩ := k0
  exact ⟨o9, σ9, hP9, w_ior d hw9⟩
theorem ex_ixor (C : aM → List Value → aH → aO → aH → Prop) (c : Nat) (code : ByteArray) (mL : Nat) (rt : Option FieldType) (ini : Bool) (hs : List (Nat × Nat × Nat × Nat)) (sc : Nat × (Nat → Int32)) (P : aO → aH → Prop) : q_ixor C c code mL rt ini hs sc P (XE C c code mL rt ini hs sc P) := by
  intro pc l st σ x y d k0
  obtain ⟨o9, σ9, hP9, hw9⟩ := k0
  exact ⟨o9, σ9, hP9, w_ixor d hw9⟩
theorem ex_ishl (C : aM → List Value → aH → aO → aH → Prop) (c : Nat) (code : ByteArray) (mL : Nat) (rt : Option FieldType) (ini : Bool) (hs : List (Nat × Nat × Nat × Nat)) (sc : Nat × (Nat → Int32)) (P : aO → aH → Prop) : q_ishl C c code mL rt ini hs sc P (XE C c code mL rt ini hs sc P) := by
  intro pc l st σ x y d k0
  obtain ⟨o9, σ9, hP9, hw9⟩ := k0
  exact ⟨o9, σ9, hP9, w_ishl d hw9⟩
theorem ex_ishr (C : aM → List Value → aH → aO → aH → Prop) (c : Nat) (code : ByteArray) (mL : Nat) (rt : Option FieldType) (ini : Bool) (hs : List (Nat × Nat × Nat × Nat)) (sc : Nat × (Nat → Int32)) (P : aO → aH → Prop) : q_ishr C c code mL rt ini hs sc P (XE C c code mL rt ini hs sc P) := by
  intro pc l st σ x y d k0
  obtain ⟨o9, σ9, hP9, hw9⟩ := k0
  exact ⟨o9, σ9, hP9, w_ishr d hw9⟩
theorem ex_iushr (C : aM → List Value → aH → aO → aH → Prop) (c : Nat) (code : ByteArray) (mL : Nat) (rt : Option FieldType) (ini : Bool) (hs : List (Nat × Nat × Nat × Nat)) (sc : Nat × (Nat → Int32)) (P : aO → aH → Prop) : q_iushr C c code mL rt ini hs sc P (XE C c code mL rt ini hs sc P) := by
  intro pc l st σ x y d k0
  obtain ⟨o9, σ9, hP9, hw9⟩ := k0
  exact ⟨o9, σ9, hP9, w_iushr d hw9⟩
theorem ex_idiv (C : aM → List Value → aH → aO → aH → Prop) (c : Nat) (code : ByteArray) (mL : Nat) (rt : Option FieldType) (ini : Bool) (hs : List (Nat × Nat × Nat × Nat)) (sc : Nat × (Nat → Int32)) (P : aO → aH → Prop) : q_idiv C c code mL rt ini hs sc P (XE C c code mL rt ini hs sc P) := by
  intro pc l st σ x y d hne k0
  obtain ⟨o9, σ9, hP9, hw9⟩ := k0
  exact ⟨o9, σ9, hP9, w_idiv d hne hw9⟩
theorem ex_irem (C : aM → List Value → aH → aO → aH → Prop) (c : Nat) (code : ByteArray) (mL : Nat) (rt : Option FieldType) (ini : Bool) (hs : List (Nat × Nat × Nat × Nat)) (sc : Nat × (Nat → Int32)) (P : aO → aH → Prop) : q_irem C c code mL rt ini hs sc P (XE C c code mL rt ini hs sc P) := by
  intro pc l st σ x y d hne k0
  obtain ⟨o9, σ9, hP9, hw9⟩ := k0
  exact ⟨o9, σ9, hP9, w_irem d hne hw9⟩
theorem ex_ineg (C : aM → List Value → aH → aO → aH → Prop) (c : Nat) (code : ByteArray) (mL : Nat) (rt : Option FieldType) (ini : Bool) (hs : List (Nat × Nat × Nat × Nat)) (sc : Nat × (Nat → Int32)) (P : aO → aH → Prop) : q_ineg C c code mL rt ini hs sc P (XE C c code mL rt ini hs sc P) := by
  intro pc l st σ x d k0
  obtain ⟨o9, σ9, hP9, hw9⟩ := k0
  exact ⟨o9, σ9, hP9, w_ineg d hw9⟩
theorem ex_i2l (C : aM → List Value → aH → aO → aH → Prop) (c : Nat) (code : ByteArray) (mL : Nat) (rt : Option FieldType) (ini : Bool) (hs : List (Nat × Nat × Nat × Nat)) (sc : Nat × (Nat → Int32)) (P : aO → aH → Prop) : q_i2l C c code mL rt ini hs sc P (XE C c code mL rt ini hs sc P) := by
  intro pc l st σ x d k0
  obtain ⟨o9, σ9, hP9, hw9⟩ := k0
  exact ⟨o9, σ9, hP9, w_i2l d hw9⟩
theorem ex_i2b (C : aM → List Value → aH → aO → aH → Prop) (c : Nat) (code : ByteArray) (mL : Nat) (rt : Option FieldType) (ini : Bool) (hs : List (Nat × Nat × Nat × Nat)) (sc : Nat × (Nat → Int32)) (P : aO → aH → Prop) : q_i2b C c code mL rt ini hs sc P (XE C c code mL rt ini hs sc P) := by
  intro pc l st σ x d k0
  obtain ⟨o9, σ9, hP9, hw9⟩ := k0
  exact ⟨o9, σ9, hP9, w_i2b d hw9⟩
theorem ex_ladd (C : aM → List Value → aH → aO → aH → Prop) (c : Nat) (code : ByteArray) (mL : Nat) (rt : Option FieldType) (ini : Bool) (hs : List (Nat × Nat × Nat × Nat)) (sc : Nat × (Nat → Int32)) (P : aO → aH → Prop) : q_ladd C c code mL rt ini hs sc P (XE C c code mL rt ini hs sc P) := by
  intro pc l st σ x y d k0
  obtain ⟨o9, σ9, hP9, hw9⟩ := k0
  exact ⟨o9, σ9, hP9, w_ladd d hw9⟩
theorem ex_lsub (C : aM → List Value → aH → aO → aH → Prop) (c : Nat) (code : ByteArray) (mL : Nat) (rt : Option FieldType) (ini : Bool) (hs : List (Nat × Nat × Nat × Nat)) (sc : Nat × (Nat → Int32)) (P : aO → aH → Prop) : q_lsub C c code mL rt ini hs sc P (XE C c code mL rt ini hs sc P) := by
  intro pc l st σ x y d k0
  obtain ⟨o9, σ9, hP9, hw9⟩ := k0
  exact ⟨o9, σ9, hP9, w_lsub d hw9⟩
theorem ex_lmul (C : aM → List Value → aH → aO → aH → Prop) (c : Nat) (code : ByteArray) (mL : Nat) (rt : Option FieldType) (ini : Bool) (hs : List (Nat × Nat × Nat × Nat)) (sc : Nat × (Nat → Int32)) (P : aO → aH → Prop) : q_lmul C c code mL rt ini hs sc P (XE C c code mL rt ini hs sc P) := by
  intro pc l st σ x y d k0
  obtain ⟨o9, σ9, hP9, hw9⟩ := k0
  exact ⟨o9, σ9, hP9, w_lmul d hw9⟩
theorem ex_lor (C : aM → List Value → aH → aO → aH → Prop) (c : Nat) (code : ByteArray) (mL : Nat) (rt : Option FieldType) (ini : Bool) (hs : List (Nat × Nat × Nat × Nat)) (sc : Nat × (Nat → Int32)) (P : aO → aH → Prop) : q_lor C c code mL rt ini hs sc P (XE C c code mL rt ini hs sc P) := by
  intro pc l st σ x y d k0
  obtain ⟨o9, σ9, hP9, hw9⟩ := k0
  exact ⟨o9, σ9, hP9, w_lor d hw9⟩
theorem ex_lshl (C : aM → List Value → aH → aO → aH → Prop) (c : Nat) (code : ByteArray) (mL : Nat) (rt : Option FieldType) (ini : Bool) (hs : List (Nat × Nat × Nat × Nat)) (sc : Nat × (Nat → Int32)) (P : aO → aH → Prop) : q_lshl C c code mL rt ini hs sc P (XE C c code mL rt ini hs sc P) := by
  intro pc l st σ x y d k0
  obtain ⟨o9, σ9, hP9, hw9⟩ := k0
  exact ⟨o9, σ9, hP9, w_lshl d hw9⟩
theorem ex_lcmp (C : aM → List Value → aH → aO → aH → Prop) (c : Nat) (code : ByteArray) (mL : Nat) (rt : Option FieldType) (ini : Bool) (hs : List (Nat × Nat × Nat × Nat)) (sc : Nat × (Nat → Int32)) (P : aO → aH → Prop) : q_lcmp C c code mL rt ini hs sc P (XE C c code mL rt ini hs sc P) := by
  intro pc l st σ x y d k0
  obtain ⟨o9, σ9, hP9, hw9⟩ := k0
  exact ⟨o9, σ9, hP9, w_lcmp d hw9⟩
theorem ex_dup (C : aM → List Value → aH → aO → aH → Prop) (c : Nat) (code : ByteArray) (mL : Nat) (rt : Option FieldType) (ini : Bool) (hs : List (Nat × Nat × Nat × Nat)) (sc : Nat × (Nat → Int32)) (P : aO → aH → Prop) : q_dup C c code mL rt ini hs sc P (XE C c code mL rt ini hs sc P) := by
  intro pc l st σ v d hv k0
  obtain ⟨o9, σ9, hP9, hw9⟩ := k0
  exact ⟨o9, σ9, hP9, w_dup d hv hw9⟩
theorem ex_pop (C : aM → List Value → aH → aO → aH → Prop) (c : Nat) (code : ByteArray) (mL : Nat) (rt : Option FieldType) (ini : Bool) (hs : List (Nat × Nat × Nat × Nat)) (sc : Nat × (Nat → Int32)) (P : aO → aH → Prop) : q_pop C c code mL rt ini hs sc P (XE C c code mL rt ini hs sc P) := by
  intro pc l st σ v d hv k0
  obtain ⟨o9, σ9, hP9, hw9⟩ := k0
  exact ⟨o9, σ9, hP9, w_pop d hv hw9⟩
theorem ex_dup2 (C : aM → List Value → aH → aO → aH → Prop) (c : Nat) (code : ByteArray) (mL : Nat) (rt : Option FieldType) (ini : Bool) (hs : List (Nat × Nat × Nat × Nat)) (sc : Nat × (Nat → Int32)) (P : aO → aH → Prop) : q_dup2 C c code mL rt ini hs sc P (XE C c code mL rt ini hs sc P) := by
  intro pc l st σ v w d hv hw k0
  obtain ⟨o9, σ9, hP9, hw9⟩ := k0
  exact ⟨o9, σ9, hP9, w_dup2 d hv hw hw9⟩
theorem ex_if_eq (C : aM → List Value → aH → aO → aH → Prop) (c : Nat) (code : ByteArray) (mL : Nat) (rt : Option FieldType) (ini : Bool) (hs : List (Nat × Nat × Nat × Nat)) (sc : Nat × (Nat → Int32)) (P : aO → aH → Prop) : q_if_eq C c code mL rt ini hs sc P (XE C c code mL rt ini hs sc P) := by
  intro pc l st σ x off tgt d ht k0 k1
  by_cases hg : x = 0
  · obtain ⟨o9, σ9, hP9, hw9⟩ := k0 hg
    exact ⟨o9, σ9, hP9, w_if_eq d ht (fun _ => hw9) (fun hn9 => absurd hg hn9)⟩
  · obtain ⟨o9, σ9, hP9, hw9⟩ := k1 hg
    exact ⟨o9, σ9, hP9, w_if_eq d ht (fun hn9 => absurd hn9 hg) (fun _ => hw9)⟩
theorem ex_if_ne (C : aM → List Value → aH → aO → aH → Prop) (c : Nat) (code : ByteArray) (mL : Nat) (rt : Option FieldType) (ini : Bool) (hs : List (Nat × Nat × Nat × Nat)) (sc : Nat × (Nat → Int32)) (P : aO → aH → Prop) : q_if_ne C c code mL rt ini hs sc P (XE C c code mL rt ini hs sc P) := by
  intro pc l st σ x off tgt d ht k0 k1
  by_cases hg : ¬ x = 0
  · obtain ⟨o9, σ9, hP9, hw9⟩ := k0 hg
    exact ⟨o9, σ9, hP9, w_if_ne d ht (fun _ => hw9) (fun hn9 => absurd hn9 hg)⟩
  · obtain ⟨o9, σ9, hP9, hw9⟩ := k1 (Classical.not_not.mp hg)
    exact ⟨o9, σ9, hP9, w_if_ne d ht (fun hn9 => absurd hn9 hg) (fun _ => hw9)⟩
theorem ex_if_lt (C : aM → List Value → aH → aO → aH → Prop) (c : Nat) (code : ByteArray) (mL : Nat) (rt : Option FieldType) (ini : Bool) (hs : List (Nat × Nat × Nat × Nat)) (sc : Nat × (Nat → Int32)) (P : aO → aH → Prop) : q_if_lt C c code mL rt ini hs sc P (XE C c code mL rt ini hs sc P) := by
  intro pc l st σ x off tgt d ht k0 k1
  by_cases hg : x < 0
  · obtain ⟨o9, σ9, hP9, hw9⟩ := k0 hg
    exact ⟨o9, σ9, hP9, w_if_lt d ht (fun _ => hw9) (fun hn9 => absurd hg hn9)⟩
  · obtain ⟨o9, σ9, hP9, hw9⟩ := k1 hg
    exact ⟨o9, σ9, hP9, w_if_lt d ht (fun hn9 => absurd hn9 hg) (fun _ => hw9)⟩
theorem ex_if_ge (C : aM → List Value → aH → aO → aH → Prop) (c : Nat) (code : ByteArray) (mL : Nat) (rt : Option FieldType) (ini : Bool) (hs : List (Nat × Nat × Nat × Nat)) (sc : Nat × (Nat → Int32)) (P : aO → aH → Prop) : q_if_ge C c code mL rt ini hs sc P (XE C c code mL rt ini hs sc P) := by
  intro pc l st σ x off tgt d ht k0 k1
  by_cases hg : 0 ≤ x
  · obtain ⟨o9, σ9, hP9, hw9⟩ := k0 hg
    exact ⟨o9, σ9, hP9, w_if_ge d ht (fun _ => hw9) (fun hn9 => absurd hg hn9)⟩
  · obtain ⟨o9, σ9, hP9, hw9⟩ := k1 hg
    exact ⟨o9, σ9, hP9, w_if_ge d ht (fun hn9 => absurd hn9 hg) (fun _ => hw9)⟩
theorem ex_if_gt (C : aM → List Value → aH → aO → aH → Prop) (c : Nat) (code : ByteArray) (mL : Nat) (rt : Option FieldType) (ini : Bool) (hs : List (Nat × Nat × Nat × Nat)) (sc : Nat × (Nat → Int32)) (P : aO → aH → Prop) : q_if_gt C c code mL rt ini hs sc P (XE C c code mL rt ini hs sc P) := by
  intro pc l st σ x off tgt d ht k0 k1
  by_cases hg : 0 < x
  · obtain ⟨o9, σ9, hP9, hw9⟩ := k0 hg
    exact ⟨o9, σ9, hP9, w_if_gt d ht (fun _ => hw9) (fun hn9 => absurd hg hn9)⟩
  · obtain ⟨o9, σ9, hP9, hw9⟩ := k1 hg
    exact ⟨o9, σ9, hP9, w_if_gt d ht (fun hn9 => absurd hn9 hg) (fun _ => hw9)⟩
theorem ex_if_le (C : aM → List Value → aH → aO → aH → Prop) (c : Nat) (code : ByteArray) (mL : Nat) (rt : Option FieldType) (ini : Bool) (hs : List (Nat × Nat × Nat × Nat)) (sc : Nat × (Nat → Int32)) (P : aO → aH → Prop) : q_if_le C c code mL rt ini hs sc P (XE C c code mL rt ini hs sc P) := by
  intro pc l st σ x off tgt d ht k0 k1
  by_cases hg : x ≤ 0
  · obtain ⟨o9, σ9, hP9, hw9⟩ := k0 hg
    exact ⟨o9, σ9, hP9, w_if_le d ht (fun _ => hw9) (fun hn9 => absurd hg hn9)⟩
  · obtain ⟨o9, σ9, hP9, hw9⟩ := k1 hg
    exact ⟨o9, σ9, hP9, w_if_le d ht (fun hn9 => absurd hn9 hg) (fun _ => hw9)⟩
theorem ex_icmp_eq (C : aM → List Value → aH → aO → aH → Prop) (c : Nat) (code : ByteArray) (mL : Nat) (rt : Option FieldType) (ini : Bool) (hs : List (Nat × Nat × Nat × Nat)) (sc : Nat × (Nat → Int32)) (P : aO → aH → Prop) : q_icmp_eq C c code mL rt ini hs sc P (XE C c code mL rt ini hs sc P) := by
  intro pc l st σ x y off tgt d ht k0 k1
  by_cases hg : x = y
  · obtain ⟨o9, σ9, hP9, hw9⟩ := k0 hg
    exact ⟨o9, σ9, hP9, w_icmp_eq d ht (fun _ => hw9) (fun hn9 => absurd hg hn9)⟩
  · obtain ⟨o9, σ9, hP9, hw9⟩ := k1 hg
    exact ⟨o9, σ9, hP9, w_icmp_eq d ht (fun hn9 => absurd hn9 hg) (fun _ => hw9)⟩
theorem ex_icmp_ne (C : aM → List Value → aH → aO → aH → Prop) (c : Nat) (code : ByteArray) (mL : Nat) (rt : Option FieldType) (ini : Bool) (hs : List (Nat × Nat × Nat × Nat)) (sc : Nat × (Nat → Int32)) (P : aO → aH → Prop) : q_icmp_ne C c code mL rt ini hs sc P (XE C c code mL rt ini hs sc P) := by
  intro pc l st σ x y off tgt d ht k0 k1
  by_cases hg : ¬ x = y
  · obtain ⟨o9, σ9, hP9, hw9⟩ := k0 hg
    exact ⟨o9, σ9, hP9, w_icmp_ne d ht (fun _ => hw9) (fun hn9 => absurd hn9 hg)⟩
  · obtain ⟨o9, σ9, hP9, hw9⟩ := k1 (Classical.not_not.mp hg)
    exact ⟨o9, σ9, hP9, w_icmp_ne d ht (fun hn9 => absurd hn9 hg) (fun _ => hw9)⟩
theorem ex_icmp_lt (C : aM → List Value → aH → aO → aH → Prop) (c : Nat) (code : ByteArray) (mL : Nat) (rt : Option FieldType) (ini : Bool) (hs : List (Nat × Nat × Nat × Nat)) (sc : Nat × (Nat → Int32)) (P : aO → aH → Prop) : q_icmp_lt C c code mL rt ini hs sc P (XE C c code mL rt ini hs sc P) := by
  intro pc l st σ x y off tgt d ht k0 k1
  by_cases hg : x < y
  · obtain ⟨o9, σ9, hP9, hw9⟩ := k0 hg
    exact ⟨o9, σ9, hP9, w_icmp_lt d ht (fun _ => hw9) (fun hn9 => absurd hg hn9)⟩
  · obtain ⟨o9, σ9, hP9, hw9⟩ := k1 hg
    exact ⟨o9, σ9, hP9, w_icmp_lt d ht (fun hn9 => absurd hn9 hg) (fun _ => hw9)⟩
theorem ex_icmp_ge (C : aM → List Value → aH → aO → aH → Prop) (c : Nat) (code : ByteArray) (mL : Nat) (rt : Option FieldType) (ini : Bool) (hs : List (Nat × Nat × Nat × Nat)) (sc : Nat × (Nat → Int32)) (P : aO → aH → Prop) : q_icmp_ge C c code mL rt ini hs sc P (XE C c code mL rt ini hs sc P) := by
  intro pc l st σ x y off tgt d ht k0 k1
  by_cases hg : y ≤ x
  · obtain ⟨o9, σ9, hP9, hw9⟩ := k0 hg
    exact ⟨o9, σ9, hP9, w_icmp_ge d ht (fun _ => hw9) (fun hn9 => absurd hg hn9)⟩
  · obtain ⟨o9, σ9, hP9, hw9⟩ := k1 hg
    exact ⟨o9, σ9, hP9, w_icmp_ge d ht (fun hn9 => absurd hn9 hg) (fun _ => hw9)⟩
theorem ex_icmp_gt (C : aM → List Value → aH → aO → aH → Prop) (c : Nat) (code : ByteArray) (mL : Nat) (rt : Option FieldType) (ini : Bool) (hs : List (Nat × Nat × Nat × Nat)) (sc : Nat × (Nat → Int32)) (P : aO → aH → Prop) : q_icmp_gt C c code mL rt ini hs sc P (XE C c code mL rt ini hs sc P) := by
  intro pc l st σ x y off tgt d ht k0 k1
  by_cases hg : y < x
  · obtain ⟨o9, σ9, hP9, hw9⟩ := k0 hg
    exact ⟨o9, σ9, hP9, w_icmp_gt d ht (fun _ => hw9) (fun hn9 => absurd hg hn9)⟩
  · obtain ⟨o9, σ9, hP9, hw9⟩ := k1 hg
    exact ⟨o9, σ9, hP9, w_icmp_gt d ht (fun hn9 => absurd hn9 hg) (fun _ => hw9)⟩
theorem ex_icmp_le (C : aM → List Value → aH → aO → aH → Prop) (c : Nat) (code : ByteArray) (mL : Nat) (rt : Option FieldType) (ini : Bool) (hs : List (Nat × Nat × Nat × Nat)) (sc : Nat × (Nat → Int32)) (P : aO → aH → Prop) : q_icmp_le C c code mL rt ini hs sc P (XE C c code mL rt ini hs sc P) := by
  intro pc l st σ x y off tgt d ht k0 k1
  by_cases hg : x ≤ y
  · obtain ⟨o9, σ9, hP9, hw9⟩ := k0 hg
    exact ⟨o9, σ9, hP9, w_icmp_le d ht (fun _ => hw9) (fun hn9 => absurd hg hn9)⟩
  · obtain ⟨o9, σ9, hP9, hw9⟩ := k1 hg
    exact ⟨o9, σ9, hP9, w_icmp_le d ht (fun hn9 => absurd hn9 hg) (fun _ => hw9)⟩
theorem ex_goto (C : aM → List Value → aH → aO → aH → Prop) (c : Nat) (code : ByteArray) (mL : Nat) (rt : Option FieldType) (ini : Bool) (hs : List (Nat × Nat × Nat × Nat)) (sc : Nat × (Nat → Int32)) (P : aO → aH → Prop) : q_goto C c code mL rt ini hs sc P (XE C c code mL rt ini hs sc P) := by
  intro pc l st σ off tgt d ht k0
  obtain ⟨o9, σ9, hP9, hw9⟩ := k0
  exact ⟨o9, σ9, hP9, w_goto d ht hw9⟩
theorem ex_tabIn (C : aM → List Value → aH → aO → aH → Prop) (c : Nat) (code : ByteArray) (mL : Nat) (rt : Option FieldType) (ini : Bool) (hs : List (Nat × Nat × Nat × Nat)) (sc : Nat × (Nat → Int32)) (P : aO → aH → Prop) : q_tabIn C c code mL rt ini hs sc P (XE C c code mL rt ini hs sc P) := by
  intro pc l st σ dflt lo hi offs len x off tgt d h1 h2 ho ht k0
  obtain ⟨o9, σ9, hP9, hw9⟩ := k0
  exact ⟨o9, σ9, hP9, w_tabIn d h1 h2 ho ht hw9⟩
theorem ex_tabOut (C : aM → List Value → aH → aO → aH → Prop) (c : Nat) (code : ByteArray) (mL : Nat) (rt : Option FieldType) (ini : Bool) (hs : List (Nat × Nat × Nat × Nat)) (sc : Nat × (Nat → Int32)) (P : aO → aH → Prop) : q_tabOut C c code mL rt ini hs sc P (XE C c code mL rt ini hs sc P) := by
  intro pc l st σ dflt lo hi offs len x tgt d h1 ht k0
  obtain ⟨o9, σ9, hP9, hw9⟩ := k0
  exact ⟨o9, σ9, hP9, w_tabOut d h1 ht hw9⟩
theorem ex_getI (C : aM → List Value → aH → aO → aH → Prop) (c : Nat) (code : ByteArray) (mL : Nat) (rt : Option FieldType) (ini : Bool) (hs : List (Nat × Nat × Nat × Nat)) (sc : Nat × (Nat → Int32)) (P : aO → aH → Prop) : q_getI C c code mL rt ini hs sc P (XE C c code mL rt ini hs sc P) := by
  intro pc l st σ i ci k a d hf hk ha k0
  obtain ⟨o9, σ9, hP9, hw9⟩ := k0
  exact ⟨o9, σ9, hP9, w_getI d hf hk ha hw9⟩
theorem ex_getR (C : aM → List Value → aH → aO → aH → Prop) (c : Nat) (code : ByteArray) (mL : Nat) (rt : Option FieldType) (ini : Bool) (hs : List (Nat × Nat × Nat × Nat)) (sc : Nat × (Nat → Int32)) (P : aO → aH → Prop) : q_getR C c code mL rt ini hs sc P (XE C c code mL rt ini hs sc P) := by
  intro pc l st σ i ci k a b d hf hk ha hb k0
  obtain ⟨o9, σ9, hP9, hw9⟩ := k0
  exact ⟨o9, σ9, hP9, w_getR d hf hk ha hb hw9⟩
theorem ex_getM (C : aM → List Value → aH → aO → aH → Prop) (c : Nat) (code : ByteArray) (mL : Nat) (rt : Option FieldType) (ini : Bool) (hs : List (Nat × Nat × Nat × Nat)) (sc : Nat × (Nat → Int32)) (P : aO → aH → Prop) : q_getM C c code mL rt ini hs sc P (XE C c code mL rt ini hs sc P) := by
  intro pc l st σ i ci k a b d hf hk ha hb k0
  obtain ⟨o9, σ9, hP9, hw9⟩ := k0
  exact ⟨o9, σ9, hP9, w_getM d hf hk ha hb hw9⟩
theorem ex_putI (C : aM → List Value → aH → aO → aH → Prop) (c : Nat) (code : ByteArray) (mL : Nat) (rt : Option FieldType) (ini : Bool) (hs : List (Nat × Nat × Nat × Nat)) (sc : Nat × (Nat → Int32)) (P : aO → aH → Prop) : q_putI C c code mL rt ini hs sc P (XE C c code mL rt ini hs sc P) := by
  intro pc l st σ i ci k a x d hf hk ha k0
  obtain ⟨o9, σ9, hP9, hw9⟩ := k0
  exact ⟨o9, σ9, hP9, w_putI d hf hk ha hw9⟩
theorem ex_putM (C : aM → List Value → aH → aO → aH → Prop) (c : Nat) (code : ByteArray) (mL : Nat) (rt : Option FieldType) (ini : Bool) (hs : List (Nat × Nat × Nat × Nat)) (sc : Nat × (Nat → Int32)) (P : aO → aH → Prop) : q_putM C c code mL rt ini hs sc P (XE C c code mL rt ini hs sc P) := by
  intro pc l st σ i ci k a b d hf hk ha k0
  obtain ⟨o9, σ9, hP9, hw9⟩ := k0
  exact ⟨o9, σ9, hP9, w_putM d hf hk ha hw9⟩
theorem ex_putR (C : aM → List Value → aH → aO → aH → Prop) (c : Nat) (code : ByteArray) (mL : Nat) (rt : Option FieldType) (ini : Bool) (hs : List (Nat × Nat × Nat × Nat)) (sc : Nat × (Nat → Int32)) (P : aO → aH → Prop) : q_putR C c code mL rt ini hs sc P (XE C c code mL rt ini hs sc P) := by
  intro pc l st σ i ci k a b d hf hk hin ha k0
  obtain ⟨o9, σ9, hP9, hw9⟩ := k0
  exact ⟨o9, σ9, hP9, w_putR d hf hk hin ha hw9⟩
theorem ex_iald (C : aM → List Value → aH → aO → aH → Prop) (c : Nat) (code : ByteArray) (mL : Nat) (rt : Option FieldType) (ini : Bool) (hs : List (Nat × Nat × Nat × Nat)) (sc : Nat × (Nat → Int32)) (P : aO → aH → Prop) : q_iald C c code mL rt ini hs sc P (XE C c code mL rt ini hs sc P) := by
  intro pc l st σ a i d ha hi k0
  obtain ⟨o9, σ9, hP9, hw9⟩ := k0
  exact ⟨o9, σ9, hP9, w_iald d ha hi hw9⟩
theorem ex_isld (C : aM → List Value → aH → aO → aH → Prop) (c : Nat) (code : ByteArray) (mL : Nat) (rt : Option FieldType) (ini : Bool) (hs : List (Nat × Nat × Nat × Nat)) (sc : Nat × (Nat → Int32)) (P : aO → aH → Prop) : q_isld C c code mL rt ini hs sc P (XE C c code mL rt ini hs sc P) := by
  intro pc l st σ i d hi k0
  obtain ⟨o9, σ9, hP9, hw9⟩ := k0
  exact ⟨o9, σ9, hP9, w_isld d hi hw9⟩
theorem ex_bald (C : aM → List Value → aH → aO → aH → Prop) (c : Nat) (code : ByteArray) (mL : Nat) (rt : Option FieldType) (ini : Bool) (hs : List (Nat × Nat × Nat × Nat)) (sc : Nat × (Nat → Int32)) (P : aO → aH → Prop) : q_bald C c code mL rt ini hs sc P (XE C c code mL rt ini hs sc P) := by
  intro pc l st σ a i d ha hi k0
  obtain ⟨o9, σ9, hP9, hw9⟩ := k0
  exact ⟨o9, σ9, hP9, w_bald d ha hi hw9⟩
theorem ex_lald (C : aM → List Value → aH → aO → aH → Prop) (c : Nat) (code : ByteArray) (mL : Nat) (rt : Option FieldType) (ini : Bool) (hs : List (Nat × Nat × Nat × Nat)) (sc : Nat × (Nat → Int32)) (P : aO → aH → Prop) : q_lald C c code mL rt ini hs sc P (XE C c code mL rt ini hs sc P) := by
  intro pc l st σ a i d ha hi k0
  obtain ⟨o9, σ9, hP9, hw9⟩ := k0
  exact ⟨o9, σ9, hP9, w_lald d ha hi hw9⟩
theorem ex_aald (C : aM → List Value → aH → aO → aH → Prop) (c : Nat) (code : ByteArray) (mL : Nat) (rt : Option FieldType) (ini : Bool) (hs : List (Nat × Nat × Nat × Nat)) (sc : Nat × (Nat → Int32)) (P : aO → aH → Prop) : q_aald C c code mL rt ini hs sc P (XE C c code mL rt ini hs sc P) := by
  intro pc l st σ a b i d ha hi hb k0
  obtain ⟨o9, σ9, hP9, hw9⟩ := k0
  exact ⟨o9, σ9, hP9, w_aald d ha hi hb hw9⟩
theorem ex_iast (C : aM → List Value → aH → aO → aH → Prop) (c : Nat) (code : ByteArray) (mL : Nat) (rt : Option FieldType) (ini : Bool) (hs : List (Nat × Nat × Nat × Nat)) (sc : Nat × (Nat → Int32)) (P : aO → aH → Prop) : q_iast C c code mL rt ini hs sc P (XE C c code mL rt ini hs sc P) := by
  intro pc l st σ a i x d ha hi k0
  obtain ⟨o9, σ9, hP9, hw9⟩ := k0
  exact ⟨o9, σ9, hP9, w_iast d ha hi hw9⟩
theorem ex_bast (C : aM → List Value → aH → aO → aH → Prop) (c : Nat) (code : ByteArray) (mL : Nat) (rt : Option FieldType) (ini : Bool) (hs : List (Nat × Nat × Nat × Nat)) (sc : Nat × (Nat → Int32)) (P : aO → aH → Prop) : q_bast C c code mL rt ini hs sc P (XE C c code mL rt ini hs sc P) := by
  intro pc l st σ a i x d ha hi k0
  obtain ⟨o9, σ9, hP9, hw9⟩ := k0
  exact ⟨o9, σ9, hP9, w_bast d ha hi hw9⟩
theorem ex_last (C : aM → List Value → aH → aO → aH → Prop) (c : Nat) (code : ByteArray) (mL : Nat) (rt : Option FieldType) (ini : Bool) (hs : List (Nat × Nat × Nat × Nat)) (sc : Nat × (Nat → Int32)) (P : aO → aH → Prop) : q_last C c code mL rt ini hs sc P (XE C c code mL rt ini hs sc P) := by
  intro pc l st σ a i x d ha hi k0
  obtain ⟨o9, σ9, hP9, hw9⟩ := k0
  exact ⟨o9, σ9, hP9, w_last d ha hi hw9⟩
theorem ex_slen (C : aM → List Value → aH → aO → aH → Prop) (c : Nat) (code : ByteArray) (mL : Nat) (rt : Option FieldType) (ini : Bool) (hs : List (Nat × Nat × Nat × Nat)) (sc : Nat × (Nat → Int32)) (P : aO → aH → Prop) : q_slen C c code mL rt ini hs sc P (XE C c code mL rt ini hs sc P) := by
  intro pc l st σ d k0
  obtain ⟨o9, σ9, hP9, hw9⟩ := k0
  exact ⟨o9, σ9, hP9, w_slen d hw9⟩
theorem ex_new (C : aM → List Value → aH → aO → aH → Prop) (c : Nat) (code : ByteArray) (mL : Nat) (rt : Option FieldType) (ini : Bool) (hs : List (Nat × Nat × Nat × Nat)) (sc : Nat × (Nat → Int32)) (P : aO → aH → Prop) : q_new C c code mL rt ini hs sc P (XE C c code mL rt ini hs sc P) := by
  intro pc l st σ i ci d hl hc k0
  obtain ⟨o9, σ9, hP9, hw9⟩ := k0
  exact ⟨o9, σ9, hP9, w_new d hl hc hw9⟩
theorem ex_newaI (C : aM → List Value → aH → aO → aH → Prop) (c : Nat) (code : ByteArray) (mL : Nat) (rt : Option FieldType) (ini : Bool) (hs : List (Nat × Nat × Nat × Nat)) (sc : Nat × (Nat → Int32)) (P : aO → aH → Prop) : q_newaI C c code mL rt ini hs sc P (XE C c code mL rt ini hs sc P) := by
  intro pc l st σ aty n d hat hn hc k0
  obtain ⟨o9, σ9, hP9, hw9⟩ := k0
  exact ⟨o9, σ9, hP9, w_newaI d hat hn hc hw9⟩
theorem ex_newaB (C : aM → List Value → aH → aO → aH → Prop) (c : Nat) (code : ByteArray) (mL : Nat) (rt : Option FieldType) (ini : Bool) (hs : List (Nat × Nat × Nat × Nat)) (sc : Nat × (Nat → Int32)) (P : aO → aH → Prop) : q_newaB C c code mL rt ini hs sc P (XE C c code mL rt ini hs sc P) := by
  intro pc l st σ aty n d hat hn hc k0
  obtain ⟨o9, σ9, hP9, hw9⟩ := k0
  exact ⟨o9, σ9, hP9, w_newaB d hat hn hc hw9⟩
theorem ex_newaJ (C : aM → List Value → aH → aO → aH → Prop) (c : Nat) (code : ByteArray) (mL : Nat) (rt : Option FieldType) (ini : Bool) (hs : List (Nat × Nat × Nat × Nat)) (sc : Nat × (Nat → Int32)) (P : aO → aH → Prop) : q_newaJ C c code mL rt ini hs sc P (XE C c code mL rt ini hs sc P) := by
  intro pc l st σ aty n d hat hn hc k0
  obtain ⟨o9, σ9, hP9, hw9⟩ := k0
  exact ⟨o9, σ9, hP9, w_newaJ d hat hn hc hw9⟩
theorem ex_newaa (C : aM → List Value → aH → aO → aH → Prop) (c : Nat) (code : ByteArray) (mL : Nat) (rt : Option FieldType) (ini : Bool) (hs : List (Nat × Nat × Nat × Nat)) (sc : Nat × (Nat → Int32)) (P : aO → aH → Prop) : q_newaa C c code mL rt ini hs sc P (XE C c code mL rt ini hs sc P) := by
  intro pc l st σ i n k d hl hn hc k0
  obtain ⟨o9, σ9, hP9, hw9⟩ := k0
  exact ⟨o9, σ9, hP9, w_newaa d hl hn hc hw9⟩
theorem ex_objI (C : aM → List Value → aH → aO → aH → Prop) (c : Nat) (code : ByteArray) (mL : Nat) (rt : Option FieldType) (ini : Bool) (hs : List (Nat × Nat × Nat × Nat)) (sc : Nat × (Nat → Int32)) (P : aO → aH → Prop) : q_objI C c code mL rt ini hs sc P (XE C c code mL rt ini hs sc P) := by
  intro pc l st σ i a d hl hw k0
  obtain ⟨o9, σ9, hP9, hw9⟩ := k0
  exact ⟨o9, σ9, hP9, w_objI d hl hw hw9⟩
theorem ex_mmax (C : aM → List Value → aH → aO → aH → Prop) (c : Nat) (code : ByteArray) (mL : Nat) (rt : Option FieldType) (ini : Bool) (hs : List (Nat × Nat × Nat × Nat)) (sc : Nat × (Nat → Int32)) (P : aO → aH → Prop) : q_mmax C c code mL rt ini hs sc P (XE C c code mL rt ini hs sc P) := by
  intro pc l st σ i x y d hl hw k0
  obtain ⟨o9, σ9, hP9, hw9⟩ := k0
  exact ⟨o9, σ9, hP9, w_mmax d hl hw hw9⟩
theorem ex_mmin (C : aM → List Value → aH → aO → aH → Prop) (c : Nat) (code : ByteArray) (mL : Nat) (rt : Option FieldType) (ini : Bool) (hs : List (Nat × Nat × Nat × Nat)) (sc : Nat × (Nat → Int32)) (P : aO → aH → Prop) : q_mmin C c code mL rt ini hs sc P (XE C c code mL rt ini hs sc P) := by
  intro pc l st σ i x y d hl hw k0
  obtain ⟨o9, σ9, hP9, hw9⟩ := k0
  exact ⟨o9, σ9, hP9, w_mmin d hl hw hw9⟩
theorem ex_mabs (C : aM → List Value → aH → aO → aH → Prop) (c : Nat) (code : ByteArray) (mL : Nat) (rt : Option FieldType) (ini : Bool) (hs : List (Nat × Nat × Nat × Nat)) (sc : Nat × (Nat → Int32)) (P : aO → aH → Prop) : q_mabs C c code mL rt ini hs sc P (XE C c code mL rt ini hs sc P) := by
  intro pc l st σ i x d hl hw k0
  obtain ⟨o9, σ9, hP9, hw9⟩ := k0
  exact ⟨o9, σ9, hP9, w_mabs d hl hw hw9⟩
theorem ex_copy (C : aM → List Value → aH → aO → aH → Prop) (c : Nat) (code : ByteArray) (mL : Nat) (rt : Option FieldType) (ini : Bool) (hs : List (Nat × Nat × Nat × Nat)) (sc : Nat × (Nat → Int32)) (P : aO → aH → Prop) : q_copy C c code mL rt ini hs sc P (XE C c code mL rt ini hs sc P) := by
  intro pc l st σ i a b sp dp n d hl hw ha hb h1 k0
  obtain ⟨o9, σ9, hP9, hw9⟩ := k0
  exact ⟨o9, σ9, hP9, w_copy d hl hw ha hb h1 hw9⟩
theorem ex_strL (C : aM → List Value → aH → aO → aH → Prop) (c : Nat) (code : ByteArray) (mL : Nat) (rt : Option FieldType) (ini : Bool) (hs : List (Nat × Nat × Nat × Nat)) (sc : Nat × (Nat → Int32)) (P : aO → aH → Prop) : q_strL C c code mL rt ini hs sc P (XE C c code mL rt ini hs sc P) := by
  intro pc l st σ i j d hl hw hj k0
  obtain ⟨o9, σ9, hP9, hw9⟩ := k0
  exact ⟨o9, σ9, hP9, w_strL d hl hw hj hw9⟩
theorem ex_strC (C : aM → List Value → aH → aO → aH → Prop) (c : Nat) (code : ByteArray) (mL : Nat) (rt : Option FieldType) (ini : Bool) (hs : List (Nat × Nat × Nat × Nat)) (sc : Nat × (Nat → Int32)) (P : aO → aH → Prop) : q_strC C c code mL rt ini hs sc P (XE C c code mL rt ini hs sc P) := by
  intro pc l st σ i j k d hl hw hj hk k0
  obtain ⟨o9, σ9, hP9, hw9⟩ := k0
  exact ⟨o9, σ9, hP9, w_strC d hl hw hj hk hw9⟩
theorem ex_callV (C : aM → List Value → aH → aO → aH → Prop) (c : Nat) (code : ByteArray) (mL : Nat) (rt : Option FieldType) (ini : Bool) (hs : List (Nat × Nat × Nat × Nat)) (sc : Nat × (Nat → Int32)) (P : aO → aH → Prop) : q_callV C c code mL rt ini hs sc P (XE C c code mL rt ini hs sc P) := by
  intro pc l st σ i a q As st0 v σ1 d hl hq hh hst hn ha hw hr k0
  obtain ⟨o9, σ9, hP9, hw9⟩ := k0
  exact ⟨o9, σ9, hP9, w_callV d hl hq hh hst hn ha hw hr hw9⟩
theorem ex_callS (C : aM → List Value → aH → aO → aH → Prop) (c : Nat) (code : ByteArray) (mL : Nat) (rt : Option FieldType) (ini : Bool) (hs : List (Nat × Nat × Nat × Nat)) (sc : Nat × (Nat → Int32)) (P : aO → aH → Prop) : q_callS C c code mL rt ini hs sc P (XE C c code mL rt ini hs sc P) := by
  intro pc l st σ i q As st0 v σ1 d hl hq hh hst hn hw hr k0
  obtain ⟨o9, σ9, hP9, hw9⟩ := k0
  exact ⟨o9, σ9, hP9, w_callS d hl hq hh hst hn hw hr hw9⟩
theorem ex_callI (C : aM → List Value → aH → aO → aH → Prop) (c : Nat) (code : ByteArray) (mL : Nat) (rt : Option FieldType) (ini : Bool) (hs : List (Nat × Nat × Nat × Nat)) (sc : Nat × (Nat → Int32)) (P : aO → aH → Prop) : q_callI C c code mL rt ini hs sc P (XE C c code mL rt ini hs sc P) := by
  intro pc l st σ i a q As st0 σ1 d hl hq hh hst hn hw hr k0
  obtain ⟨o9, σ9, hP9, hw9⟩ := k0
  exact ⟨o9, σ9, hP9, w_callI d hl hq hh hst hn hw hr hw9⟩
theorem ex_callW (C : aM → List Value → aH → aO → aH → Prop) (c : Nat) (code : ByteArray) (mL : Nat) (rt : Option FieldType) (ini : Bool) (hs : List (Nat × Nat × Nat × Nat)) (sc : Nat × (Nat → Int32)) (P : aO → aH → Prop) : q_callW C c code mL rt ini hs sc P (XE C c code mL rt ini hs sc P) := by
  intro pc l st σ i q As st0 v σ1 d hl hq hh hst hn hw hr k0
  obtain ⟨o9, σ9, hP9, hw9⟩ := k0
  exact ⟨o9, σ9, hP9, w_callW d hl hq hh hst hn hw hr hw9⟩
theorem ex_catchV (C : aM → List Value → aH → aO → aH → Prop) (c : Nat) (code : ByteArray) (mL : Nat) (rt : Option FieldType) (ini : Bool) (hs : List (Nat × Nat × Nat × Nat)) (sc : Nat × (Nat → Int32)) (P : aO → aH → Prop) : q_catchV C c code mL rt ini hs sc P (XE C c code mL rt ini hs sc P) := by
  intro pc l st σ i a ex k tgt len q As st0 σ1 d hl hq hh hst hn ha hw hr hc hd hk k0
  obtain ⟨o9, σ9, hP9, hw9⟩ := k0
  exact ⟨o9, σ9, hP9, w_catchV d hl hq hh hst hn ha hw hr hc hd hk hw9⟩
theorem ex_throwV (C : aM → List Value → aH → aO → aH → Prop) (c : Nat) (code : ByteArray) (mL : Nat) (rt : Option FieldType) (ini : Bool) (hs : List (Nat × Nat × Nat × Nat)) (sc : Nat × (Nat → Int32)) (P : aO → aH → Prop) : q_throwV C c code mL rt ini hs sc P (XE C c code mL rt ini hs sc P) := by
  intro pc l st σ i a e q As st0 σ1 d hl hq hh hst hn ha hw hr hno hP
  exact ⟨_, _, hP, w_throwV d hl hq hh hst hn ha hw hr hno ⟨rfl, rfl⟩⟩
theorem ex_throwN (C : aM → List Value → aH → aO → aH → Prop) (c : Nat) (code : ByteArray) (mL : Nat) (rt : Option FieldType) (ini : Bool) (hs : List (Nat × Nat × Nat × Nat)) (sc : Nat × (Nat → Int32)) (P : aO → aH → Prop) : q_throwN C c code mL rt ini hs sc P (XE C c code mL rt ini hs sc P) := by
  intro pc l st σ ik is ic e d0 d3 d4 d6 d9 ht hw hbd hno hP
  exact ⟨_, _, hP, w_throwN d0 d3 d4 d6 d9 ht hw hbd hno ⟨rfl, rfl⟩⟩
theorem ex_iret (C : aM → List Value → aH → aO → aH → Prop) (c : Nat) (code : ByteArray) (mL : Nat) (rt : Option FieldType) (ini : Bool) (hs : List (Nat × Nat × Nat × Nat)) (sc : Nat × (Nat → Int32)) (P : aO → aH → Prop) : q_iret C c code mL rt ini hs sc P (XE C c code mL rt ini hs sc P) := by
  intro pc l st σ v d hr hP
  exact ⟨_, _, hP, w_iret d hr ⟨rfl, rfl⟩⟩
theorem ex_zret (C : aM → List Value → aH → aO → aH → Prop) (c : Nat) (code : ByteArray) (mL : Nat) (rt : Option FieldType) (ini : Bool) (hs : List (Nat × Nat × Nat × Nat)) (sc : Nat × (Nat → Int32)) (P : aO → aH → Prop) : q_zret C c code mL rt ini hs sc P (XE C c code mL rt ini hs sc P) := by
  intro pc l st σ v d hr hv hP
  exact ⟨_, _, hP, w_zret d hr hv ⟨rfl, rfl⟩⟩
theorem ex_lret (C : aM → List Value → aH → aO → aH → Prop) (c : Nat) (code : ByteArray) (mL : Nat) (rt : Option FieldType) (ini : Bool) (hs : List (Nat × Nat × Nat × Nat)) (sc : Nat × (Nat → Int32)) (P : aO → aH → Prop) : q_lret C c code mL rt ini hs sc P (XE C c code mL rt ini hs sc P) := by
  intro pc l st σ v d hr hP
  exact ⟨_, _, hP, w_lret d hr ⟨rfl, rfl⟩⟩
theorem ex_aret (C : aM → List Value → aH → aO → aH → Prop) (c : Nat) (code : ByteArray) (mL : Nat) (rt : Option FieldType) (ini : Bool) (hs : List (Nat × Nat × Nat × Nat)) (sc : Nat × (Nat → Int32)) (P : aO → aH → Prop) : q_aret C c code mL rt ini hs sc P (XE C c code mL rt ini hs sc P) := by
  intro pc l st σ a ty d hr hP
  exact ⟨_, _, hP, w_aret d hr ⟨rfl, rfl⟩⟩
theorem ex_vret (C : aM → List Value → aH → aO → aH → Prop) (c : Nat) (code : ByteArray) (mL : Nat) (rt : Option FieldType) (ini : Bool) (hs : List (Nat × Nat × Nat × Nat)) (sc : Nat × (Nat → Int32)) (P : aO → aH → Prop) : q_vret C c code mL rt ini hs sc P (XE C c code mL rt ini hs sc P) := by
  intro pc l st σ d hr hP
  exact ⟨_, _, hP, w_vret d hr ⟨rfl, rfl⟩⟩
theorem ex_weak (C : aM → List Value → aH → aO → aH → Prop) (c : Nat) (code : ByteArray) (mL : Nat) (rt : Option FieldType) (ini : Bool) (hs : List (Nat × Nat × Nat × Nat)) (sc : Nat × (Nat → Int32)) (P : aO → aH → Prop) : q_weak C c code mL rt ini hs sc P (XE C c code mL rt ini hs sc P) := by
  intro pc l st σ l' hl k0
  obtain ⟨o9, σ9, hP9, hw9⟩ := k0
  exact ⟨o9, σ9, hP9, w_weak hl hw9⟩
theorem ex_drop (C : aM → List Value → aH → aO → aH → Prop) (c : Nat) (code : ByteArray) (mL : Nat) (rt : Option FieldType) (ini : Bool) (hs : List (Nat × Nat × Nat × Nat)) (sc : Nat × (Nat → Int32)) (P : aO → aH → Prop) : q_drop C c code mL rt ini hs sc P (XE C c code mL rt ini hs sc P) := by
  intro pc l st σ a k0
  obtain ⟨o9, σ9, hP9, hw9⟩ := k0
  exact ⟨o9, σ9, hP9, w_drop  hw9⟩
/-- a run that ends so that P ends at one end -/
theorem wp_ex {C : aM → List Value → aH → aO → aH → Prop} {c : Nat} {code : ByteArray} {mL : Nat} {rt : Option FieldType} {ini : Bool} {hs : List (Nat × Nat × Nat × Nat)} {sc : Nat × (Nat → Int32)} {P : aO → aH → Prop} {pc : Nat} {l : aL} {st : List Value} {σ : aH} (h : wp C c code mL rt ini hs sc P pc l st σ) : ∃ (o : aO) (σ1 : aH), P o σ1 ∧ wp C c code mL rt ini hs sc (fun o2 σ2 => o2 = o ∧ σ2 = σ1) pc l st σ := h (XE C c code mL rt ini hs sc P) ⟨⟨ex_iconst C c code mL rt ini hs sc P, ex_bipush C c code mL rt ini hs sc P, ex_sipush C c code mL rt ini hs sc P, ex_lconst C c code mL rt ini hs sc P, ex_ldc C c code mL rt ini hs sc P, ex_ldcw C c code mL rt ini hs sc P, ex_ldc2 C c code mL rt ini hs sc P, ex_ldcS C c code mL rt ini hs sc P⟩, ⟨ex_iload_n C c code mL rt ini hs sc P, ex_iload C c code mL rt ini hs sc P, ex_istore_n C c code mL rt ini hs sc P, ex_istore C c code mL rt ini hs sc P, ex_lload_n C c code mL rt ini hs sc P, ex_lload C c code mL rt ini hs sc P, ex_lstore_n C c code mL rt ini hs sc P, ex_lstore C c code mL rt ini hs sc P⟩, ⟨ex_aload_n C c code mL rt ini hs sc P, ex_aload C c code mL rt ini hs sc P, ex_astore_n C c code mL rt ini hs sc P, ex_astore C c code mL rt ini hs sc P, ex_iinc C c code mL rt ini hs sc P, ex_iadd C c code mL rt ini hs sc P, ex_isub C c code mL rt ini hs sc P, ex_imul C c code mL rt ini hs sc P⟩, ⟨ex_iand C c code mL rt ini hs sc P, ex_ior C c code mL rt ini hs sc P, ex_ixor C c code mL rt ini hs sc P, ex_ishl C c code mL rt ini hs sc P, ex_ishr C c code mL rt ini hs sc P, ex_iushr C c code mL rt ini hs sc P, ex_idiv C c code mL rt ini hs sc P, ex_irem C c code mL rt ini hs sc P⟩, ⟨ex_ineg C c code mL rt ini hs sc P, ex_i2l C c code mL rt ini hs sc P, ex_i2b C c code mL rt ini hs sc P, ex_ladd C c code mL rt ini hs sc P, ex_lsub C c code mL rt ini hs sc P, ex_lmul C c code mL rt ini hs sc P, ex_lor C c code mL rt ini hs sc P, ex_lshl C c code mL rt ini hs sc P⟩, ⟨ex_lcmp C c code mL rt ini hs sc P, ex_dup C c code mL rt ini hs sc P, ex_pop C c code mL rt ini hs sc P, ex_dup2 C c code mL rt ini hs sc P, ex_if_eq C c code mL rt ini hs sc P, ex_if_ne C c code mL rt ini hs sc P, ex_if_lt C c code mL rt ini hs sc P, ex_if_ge C c code mL rt ini hs sc P⟩, ⟨ex_if_gt C c code mL rt ini hs sc P, ex_if_le C c code mL rt ini hs sc P, ex_icmp_eq C c code mL rt ini hs sc P, ex_icmp_ne C c code mL rt ini hs sc P, ex_icmp_lt C c code mL rt ini hs sc P, ex_icmp_ge C c code mL rt ini hs sc P, ex_icmp_gt C c code mL rt ini hs sc P, ex_icmp_le C c code mL rt ini hs sc P⟩, ⟨ex_goto C c code mL rt ini hs sc P, ex_tabIn C c code mL rt ini hs sc P, ex_tabOut C c code mL rt ini hs sc P, ex_getI C c code mL rt ini hs sc P, ex_getR C c code mL rt ini hs sc P, ex_getM C c code mL rt ini hs sc P, ex_putI C c code mL rt ini hs sc P, ex_putM C c code mL rt ini hs sc P⟩, ⟨ex_putR C c code mL rt ini hs sc P, ex_iald C c code mL rt ini hs sc P, ex_isld C c code mL rt ini hs sc P, ex_bald C c code mL rt ini hs sc P, ex_lald C c code mL rt ini hs sc P, ex_aald C c code mL rt ini hs sc P, ex_iast C c code mL rt ini hs sc P, ex_bast C c code mL rt ini hs sc P⟩, ⟨ex_last C c code mL rt ini hs sc P, ex_slen C c code mL rt ini hs sc P, ex_new C c code mL rt ini hs sc P, ex_newaI C c code mL rt ini hs sc P, ex_newaB C c code mL rt ini hs sc P, ex_newaJ C c code mL rt ini hs sc P, ex_newaa C c code mL rt ini hs sc P, ex_objI C c code mL rt ini hs sc P⟩, ⟨ex_mmax C c code mL rt ini hs sc P, ex_mmin C c code mL rt ini hs sc P, ex_mabs C c code mL rt ini hs sc P, ex_copy C c code mL rt ini hs sc P, ex_strL C c code mL rt ini hs sc P, ex_strC C c code mL rt ini hs sc P, ex_callV C c code mL rt ini hs sc P, ex_callS C c code mL rt ini hs sc P⟩, ⟨ex_callI C c code mL rt ini hs sc P, ex_callW C c code mL rt ini hs sc P, ex_catchV C c code mL rt ini hs sc P, ex_throwV C c code mL rt ini hs sc P, ex_throwN C c code mL rt ini hs sc P, ex_iret C c code mL rt ini hs sc P, ex_zret C c code mL rt ini hs sc P, ex_lret C c code mL rt ini hs sc P⟩, ⟨ex_aret C c code mL rt ini hs sc P, ex_vret C c code mL rt ini hs sc P, ex_weak C c code mL rt ini hs sc P, ex_drop C c code mL rt ini hs sc P⟩⟩
/-- a method, run with d calls below it at most, ends so that Q -/
def T (sc : Nat × (Nat → Int32)) (d : Nat) (q : aM) (args : List Value) (σ : aH) (Q : aO → aH → Prop) : Prop := ∃ (o : aO) (σ1 : aH), Ev sc d q args σ o σ1 ∧ Q o σ1
theorem T.of {sc : Nat × (Nat → Int32)} {d c mL : Nat} {code : ByteArray} {rt : Option FieldType} {ini : Bool} {q : aM} {args : List Value} {l : aL} {σ : aH} {Q : aO → aH → Prop} (h1 : q.2.2.2.2.1 = c) (h2 : q.2.1 = code) (h3 : q.2.2.1 = mL) (h4 : q.2.2.2.1 = rt) (h5 : decide (q.1.name = "<init>") = ini) (h6 : hsOf q = []) (h7 : lv_args 0 args = l) (hc : Nat.ble (catsum args) mL = true) (h : wp (Ev sc d) c code mL rt ini [] sc Q 0 l [] σ) : T sc (d + 1) q args σ Q := by
  obtain ⟨o, σ1, hQ, hw⟩ := wp_ex h
  refine ⟨o, σ1, ⟨?_, ?_⟩, hQ⟩
  · rw [h3]; exact Nat.le_of_ble_eq_true hc
  · rw [h1, h2, h3, h4, h5, h6, h7]; exact hw
theorem T.ev {sc : Nat × (Nat → Int32)} {d : Nat} {q : aM} {args : List Value} {σ σ1 : aH} {o : aO} (h : T sc d q args σ (fun o2 σ2 => o2 = o ∧ σ2 = σ1)) : Ev sc d q args σ o σ1 := by
  obtain ⟨o2, σ2, h1, rfl, rfl⟩ := h
  exact h1
