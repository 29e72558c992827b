/-! THE CONSTRUCTORS, from the empty memory: a state a step. -/
def nw (σ : aH) (a t n w : Nat) : aH := (va_up σ.1 a (t, n, fun _ => none), va_up σ.2.1 a (fun _ => none), va_up σ.2.2.1 a (fun _ => 0), va_up σ.2.2.2.1 a (fun _ => 0), a + 1, σ.2.2.2.2.2 + w)
def nwA (σ : aH) (a n m : Nat) : aH := (fun x => if x = a then (104, n, fun i => if i < n then some (a + 1 + i) else none) else if a < x ∧ x < a + 1 + n then (101, m, fun _ => none) else σ.1 x, σ.2.1, fun x => if a < x ∧ x < a + 1 + n then (fun _ => 0) else σ.2.2.1 x, σ.2.2.2.1, a + 1 + n, σ.2.2.2.2.2 + n + n * m)
theorem nw_eq {σ : aH} {a t n w : Nat} (h : gN σ = a) : sNew σ t n w = nw σ a t n w := by subst h; rfl
theorem nwA_eq {σ : aH} {a n m : Nat} (h : gN σ = a) : sNewA σ n m = nwA σ a n m := by subst h; rfl
section
variable {C : aM → List Value → aH → aO → aH → Prop} {c : Nat} {code : ByteArray} {mL : Nat} {rt : Option FieldType} {ini : Bool} {hs : List (Nat × Nat × Nat × Nat)} {sc : Nat × (Nat → Int32)} {P : aO → aH → Prop} {pc : Nat} {l : aL} {st : List Value} {σ : aH}
theorem c_new {i ci a : Nat} {τ : aH} (hN : gN σ = a) (hτ : nw σ a (ci + 1) 0 (cN ci) = τ) (d : decode code pc = .ok (.new i, 3)) (hl : Cond.classLink (cn c) i (cn ci) ∈ lw_tbl ∧ Cond.instantiable (cn ci) (cN ci) ∈ lw_tbl ∧ Cond.initialized (cn ci) ∈ lw_tbl) (hc : ci < 11 ∧ a + 1 ≤ 1000000) (k0 : wp C c code mL rt ini hs sc P (pc + 3) l (.ref a :: st) τ) : wp C c code mL rt ini hs sc P pc l st σ := w_new d hl (by rw [hN]; exact hc) (by rw [hN, nw_eq hN, hτ]; exact k0)
theorem c_newaI {aty : ArrayType} {n : Int32} {a m : Nat} {τ : aH} (hN : gN σ = a) (hm : n.toNatClampNeg = m) (hτ : nw σ a 101 m m = τ) (d : decode code pc = .ok (.newarray aty, 2)) (hat : newarray.typeOf aty = .int) (hn : ¬ n < 0 ∧ m ≤ 100000) (hc : a + 1 ≤ 1000000) (k0 : wp C c code mL rt ini hs sc P (pc + 2) l (.ref a :: st) τ) : wp C c code mL rt ini hs sc P pc l (.int n :: st) σ := w_newaI d hat (by rw [hm]; exact hn) (by rw [hN]; exact hc) (by rw [hN, hm, nw_eq hN, hτ]; exact k0)
theorem c_newaB {aty : ArrayType} {n : Int32} {a m : Nat} {τ : aH} (hN : gN σ = a) (hm : n.toNatClampNeg = m) (hτ : nw σ a 102 m m = τ) (d : decode code pc = .ok (.newarray aty, 2)) (hat : newarray.typeOf aty = .byte) (hn : ¬ n < 0 ∧ m ≤ 100000) (hc : a + 1 ≤ 1000000) (k0 : wp C c code mL rt ini hs sc P (pc + 2) l (.ref a :: st) τ) : wp C c code mL rt ini hs sc P pc l (.int n :: st) σ := w_newaB d hat (by rw [hm]; exact hn) (by rw [hN]; exact hc) (by rw [hN, hm, nw_eq hN, hτ]; exact k0)
theorem c_newaJ {aty : ArrayType} {n : Int32} {a m : Nat} {τ : aH} (hN : gN σ = a) (hm : n.toNatClampNeg = m) (hτ : nw σ a 103 m m = τ) (d : decode code pc = .ok (.newarray aty, 2)) (hat : newarray.typeOf aty = .long) (hn : ¬ n < 0 ∧ m ≤ 100000) (hc : a + 1 ≤ 1000000) (k0 : wp C c code mL rt ini hs sc P (pc + 2) l (.ref a :: st) τ) : wp C c code mL rt ini hs sc P pc l (.int n :: st) σ := w_newaJ d hat (by rw [hm]; exact hn) (by rw [hN]; exact hc) (by rw [hN, hm, nw_eq hN, hτ]; exact k0)
theorem c_newaa {i a n1 k1 : Nat} {n k : Int32} {τ : aH} (hN : gN σ = a) (hn1 : n.toNatClampNeg = n1) (hk1 : k.toNatClampNeg = k1) (hτ : nwA σ a n1 k1 = τ) (d : decode code pc = .ok (.multianewarray i 2, 4)) (hl : Cond.classLink (cn c) i "[[I" ∈ lw_tbl) (hn : ¬ n < 0 ∧ ¬ k < 0 ∧ n1 ≤ 1000 ∧ k1 ≤ 1000) (hc : a + 1 + n1 ≤ 1000000) (k0 : wp C c code mL rt ini hs sc P (pc + 4) l (.ref a :: st) τ) : wp C c code mL rt ini hs sc P pc l (.int k :: .int n :: st) σ := w_newaa d hl (by rw [hn1, hk1]; exact hn) (by rw [hN, hn1]; exact hc) (by rw [hN, hn1, hk1, nwA_eq hN, hτ]; exact k0)
theorem c_putR {i ci k a b : Nat} {τ : aH} (hτ : sR σ a k (some b) = τ) (d : decode code pc = .ok (.putfield i, 3)) (hf : FLk c i ci k) (hk : fkd (cT ci) k = 1) (hin : ini = true ∧ c = ci) (ha : tg σ a = ci + 1 ∧ a < gN σ) (k0 : wp C c code mL rt ini hs sc P (pc + 3) l st τ) : wp C c code mL rt ini hs sc P pc l (.ref b :: .ref a :: st) σ := w_putR d hf hk hin ha (by rw [hτ]; exact k0)
theorem c_putM {i ci k a b : Nat} {τ : aH} (hτ : sM σ a k (some b) = τ) (d : decode code pc = .ok (.putfield i, 3)) (hf : FLk c i ci k) (hk : fkd (cT ci) k = 2) (ha : tg σ a = ci + 1 ∧ a < gN σ) (k0 : wp C c code mL rt ini hs sc P (pc + 3) l st τ) : wp C c code mL rt ini hs sc P pc l (.ref b :: .ref a :: st) σ := w_putM d hf hk ha (by rw [hτ]; exact k0)
theorem c_putI {i ci k a : Nat} {x : Int32} {τ : aH} (hτ : sI σ a k x = τ) (d : decode code pc = .ok (.putfield i, 3)) (hf : FLk c i ci k) (hk : fkd (cT ci) k = 0) (ha : tg σ a = ci + 1 ∧ a < gN σ) (k0 : wp C c code mL rt ini hs sc P (pc + 3) l st τ) : wp C c code mL rt ini hs sc P pc l (.int x :: .ref a :: st) σ := w_putI d hf hk ha (by rw [hτ]; exact k0)
end
def cs_0 : aH := (fun _ => (0, 0, fun _ => none), fun _ _ => none, fun _ _ => 0, fun _ _ => 0, 0, 0)
def cs_1 : aH := nw cs_0 0 10 0 9
theorem gn_1 : gN cs_1 = 1 := rfl
theorem nl_11_8 : Cond.classLink (cn 11) 8 (cn 9) ∈ lw_tbl ∧ Cond.instantiable (cn 9) (cN 9) ∈ lw_tbl ∧ Cond.initialized (cn 9) ∈ lw_tbl := ⟨List.mem_of_getElem? (i := 163) (by decide +kernel), List.mem_of_getElem? (i := 164) (by decide +kernel), List.mem_of_getElem? (i := 140) (by decide +kernel)⟩
theorem nl_11_114 : Cond.classLink (cn 11) 114 (cn 10) ∈ lw_tbl ∧ Cond.instantiable (cn 10) (cN 10) ∈ lw_tbl ∧ Cond.initialized (cn 10) ∈ lw_tbl := ⟨List.mem_of_getElem? (i := 1401) (by decide +kernel), List.mem_of_getElem? (i := 1402) (by decide +kernel), List.mem_of_getElem? (i := 150) (by decide +kernel)⟩
theorem dX9_init_0 : decode cX9_init 0 = .ok (.aload_n 0, 1) := by decide +kernel
theorem dX9_init_1 : decode cX9_init 1 = .ok (.invokespecial 3, 3) := by decide +kernel
theorem dX9_init_4 : decode cX9_init 4 = .ok (.aload_n 0, 1) := by decide +kernel
theorem dX9_init_5 : decode cX9_init 5 = .ok (.new 9, 3) := by decide +kernel
theorem dX9_init_8 : decode cX9_init 8 = .ok (.dup, 1) := by decide +kernel
theorem dX9_init_9 : decode cX9_init 9 = .ok (.invokespecial 11, 3) := by decide +kernel
theorem dX9_init_12 : decode cX9_init 12 = .ok (.putfield 12, 3) := by decide +kernel
theorem dX9_init_15 : decode cX9_init 15 = .ok (.aload_n 0, 1) := by decide +kernel
theorem dX9_init_16 : decode cX9_init 16 = .ok (.new 16, 3) := by decide +kernel
theorem dX9_init_19 : decode cX9_init 19 = .ok (.dup, 1) := by decide +kernel
theorem dX9_init_20 : decode cX9_init 20 = .ok (.invokespecial 18, 3) := by decide +kernel
theorem dX9_init_23 : decode cX9_init 23 = .ok (.putfield 19, 3) := by decide +kernel
theorem dX9_init_26 : decode cX9_init 26 = .ok (.aload_n 0, 1) := by decide +kernel
theorem dX9_init_27 : decode cX9_init 27 = .ok (.new 23, 3) := by decide +kernel
theorem dX9_init_30 : decode cX9_init 30 = .ok (.dup, 1) := by decide +kernel
theorem dX9_init_31 : decode cX9_init 31 = .ok (.invokespecial 25, 3) := by decide +kernel
theorem dX9_init_34 : decode cX9_init 34 = .ok (.putfield 26, 3) := by decide +kernel
theorem dX9_init_37 : decode cX9_init 37 = .ok (.aload_n 0, 1) := by decide +kernel
theorem dX9_init_38 : decode cX9_init 38 = .ok (.new 30, 3) := by decide +kernel
theorem dX9_init_41 : decode cX9_init 41 = .ok (.dup, 1) := by decide +kernel
theorem dX9_init_42 : decode cX9_init 42 = .ok (.invokespecial 32, 3) := by decide +kernel
theorem dX9_init_45 : decode cX9_init 45 = .ok (.putfield 33, 3) := by decide +kernel
theorem dX9_init_48 : decode cX9_init 48 = .ok (.aload_n 0, 1) := by decide +kernel
theorem dX9_init_49 : decode cX9_init 49 = .ok (.aload_n 0, 1) := by decide +kernel
theorem dX9_init_50 : decode cX9_init 50 = .ok (.getfield 33, 3) := by decide +kernel
theorem dX9_init_53 : decode cX9_init 53 = .ok (.getfield 37, 3) := by decide +kernel
theorem dX9_init_56 : decode cX9_init 56 = .ok (.putfield 41, 3) := by decide +kernel
theorem dX9_init_59 : decode cX9_init 59 = .ok (.aload_n 0, 1) := by decide +kernel
theorem dX9_init_60 : decode cX9_init 60 = .ok (.aload_n 0, 1) := by decide +kernel
theorem dX9_init_61 : decode cX9_init 61 = .ok (.getfield 41, 3) := by decide +kernel
theorem dX9_init_64 : decode cX9_init 64 = .ok (.getfield 42, 3) := by decide +kernel
theorem dX9_init_67 : decode cX9_init 67 = .ok (.putfield 48, 3) := by decide +kernel
theorem dX9_init_70 : decode cX9_init 70 = .ok (.aload_n 0, 1) := by decide +kernel
theorem dX9_init_71 : decode cX9_init 71 = .ok (.new 49, 3) := by decide +kernel
theorem dX9_init_74 : decode cX9_init 74 = .ok (.dup, 1) := by decide +kernel
theorem dX9_init_75 : decode cX9_init 75 = .ok (.invokespecial 51, 3) := by decide +kernel
theorem dX9_init_78 : decode cX9_init 78 = .ok (.putfield 52, 3) := by decide +kernel
theorem dX9_init_81 : decode cX9_init 81 = .ok (.aload_n 0, 1) := by decide +kernel
theorem dX9_init_82 : decode cX9_init 82 = .ok (.iconst 0, 1) := by decide +kernel
theorem dX9_init_83 : decode cX9_init 83 = .ok (.putfield 55, 3) := by decide +kernel
theorem dX9_init_86 : decode cX9_init 86 = .ok (.aload_n 0, 1) := by decide +kernel
theorem dX9_init_87 : decode cX9_init 87 = .ok (.iconst 0, 1) := by decide +kernel
theorem dX9_init_88 : decode cX9_init 88 = .ok (.putfield 59, 3) := by decide +kernel
theorem dX9_init_91 : decode cX9_init 91 = .ok (.return_, 1) := by decide +kernel
theorem no_9_3 : Cond.methodLink (cn 9) 3 objectInit ∈ lw_tbl := List.mem_of_getElem? (i := 168) (by decide +kernel)
theorem nl_9_9 : Cond.classLink (cn 9) 9 (cn 5) ∈ lw_tbl ∧ Cond.instantiable (cn 5) (cN 5) ∈ lw_tbl ∧ Cond.initialized (cn 5) ∈ lw_tbl := ⟨List.mem_of_getElem? (i := 171) (by decide +kernel), List.mem_of_getElem? (i := 172) (by decide +kernel), List.mem_of_getElem? (i := 141) (by decide +kernel)⟩
def cs_2 : aH := nw cs_1 1 6 0 9
theorem gn_2 : gN cs_2 = 2 := rfl
theorem dX5_init_0 : decode cX5_init 0 = .ok (.aload_n 0, 1) := by decide +kernel
theorem dX5_init_1 : decode cX5_init 1 = .ok (.invokespecial 3, 3) := by decide +kernel
theorem dX5_init_4 : decode cX5_init 4 = .ok (.aload_n 0, 1) := by decide +kernel
theorem dX5_init_5 : decode cX5_init 5 = .ok (.sipush 600, 3) := by decide +kernel
theorem dX5_init_8 : decode cX5_init 8 = .ok (.newarray .byte, 2) := by decide +kernel
theorem dX5_init_10 : decode cX5_init 10 = .ok (.putfield 9, 3) := by decide +kernel
theorem dX5_init_13 : decode cX5_init 13 = .ok (.aload_n 0, 1) := by decide +kernel
theorem dX5_init_14 : decode cX5_init 14 = .ok (.iconst 0, 1) := by decide +kernel
theorem dX5_init_15 : decode cX5_init 15 = .ok (.putfield 15, 3) := by decide +kernel
theorem dX5_init_18 : decode cX5_init 18 = .ok (.aload_n 0, 1) := by decide +kernel
theorem dX5_init_19 : decode cX5_init 19 = .ok (.iconst 0, 1) := by decide +kernel
theorem dX5_init_20 : decode cX5_init 20 = .ok (.putfield 19, 3) := by decide +kernel
theorem dX5_init_23 : decode cX5_init 23 = .ok (.aload_n 0, 1) := by decide +kernel
theorem dX5_init_24 : decode cX5_init 24 = .ok (.iconst 0, 1) := by decide +kernel
theorem dX5_init_25 : decode cX5_init 25 = .ok (.putfield 22, 3) := by decide +kernel
theorem dX5_init_28 : decode cX5_init 28 = .ok (.aload_n 0, 1) := by decide +kernel
theorem dX5_init_29 : decode cX5_init 29 = .ok (.iconst 0, 1) := by decide +kernel
theorem dX5_init_30 : decode cX5_init 30 = .ok (.putfield 25, 3) := by decide +kernel
theorem dX5_init_33 : decode cX5_init 33 = .ok (.aload_n 0, 1) := by decide +kernel
theorem dX5_init_34 : decode cX5_init 34 = .ok (.iconst (-1), 1) := by decide +kernel
theorem dX5_init_35 : decode cX5_init 35 = .ok (.putfield 28, 3) := by decide +kernel
theorem dX5_init_38 : decode cX5_init 38 = .ok (.aload_n 0, 1) := by decide +kernel
theorem dX5_init_39 : decode cX5_init 39 = .ok (.iconst 0, 1) := by decide +kernel
theorem dX5_init_40 : decode cX5_init 40 = .ok (.putfield 31, 3) := by decide +kernel
theorem dX5_init_43 : decode cX5_init 43 = .ok (.aload_n 0, 1) := by decide +kernel
theorem dX5_init_44 : decode cX5_init 44 = .ok (.iconst 0, 1) := by decide +kernel
theorem dX5_init_45 : decode cX5_init 45 = .ok (.putfield 34, 3) := by decide +kernel
theorem dX5_init_48 : decode cX5_init 48 = .ok (.aload_n 0, 1) := by decide +kernel
theorem dX5_init_49 : decode cX5_init 49 = .ok (.iconst 0, 1) := by decide +kernel
theorem dX5_init_50 : decode cX5_init 50 = .ok (.putfield 37, 3) := by decide +kernel
theorem dX5_init_53 : decode cX5_init 53 = .ok (.return_, 1) := by decide +kernel
theorem no_5_3 : Cond.methodLink (cn 5) 3 objectInit ∈ lw_tbl := List.mem_of_getElem? (i := 176) (by decide +kernel)
def cs_3 : aH := nw cs_2 2 102 600 600
theorem gn_3 : gN cs_3 = 3 := rfl
def cs_4 : aH := sR cs_3 1 0 (some 2)
theorem gn_4 : gN cs_4 = 3 := rfl
def cs_5 : aH := sI cs_4 1 1 (nZ 0)
theorem gn_5 : gN cs_5 = 3 := rfl
def cs_6 : aH := sI cs_5 1 2 (nZ 0)
theorem gn_6 : gN cs_6 = 3 := rfl
def cs_7 : aH := sI cs_6 1 3 (nZ 0)
theorem gn_7 : gN cs_7 = 3 := rfl
def cs_8 : aH := sI cs_7 1 4 (nZ 0)
theorem gn_8 : gN cs_8 = 3 := rfl
def cs_9 : aH := sI cs_8 1 5 (nZ (-1))
theorem gn_9 : gN cs_9 = 3 := rfl
def cs_10 : aH := sI cs_9 1 6 (nZ 0)
theorem gn_10 : gN cs_10 = 3 := rfl
def cs_11 : aH := sI cs_10 1 7 (nZ 0)
theorem gn_11 : gN cs_11 = 3 := rfl
def cs_12 : aH := sI cs_11 1 8 (nZ 0)
theorem gn_12 : gN cs_12 = 3 := rfl
set_option maxRecDepth 10000 in
theorem ev_X5_init_1 {sc : Nat × (Nat → Int32)} {d : Nat} : Ev sc (d + 1) mX5_init [.ref 1] cs_2 (.inl none) cs_12 := by
  refine T.ev (T.of (d := d) (c := 5) (code := cX5_init) (mL := 1) (rt := none) (ini := true) (l := [(0, .ref 1)]) rfl rfl rfl rfl (by decide) hs_X5_init rfl rfl ?_)
  refine w_aload_n dX5_init_0 rfl (List.Mem.head _) ?_
  refine w_objI dX5_init_1 no_5_3 (Nat.le_of_ble_eq_true rfl) ?_
  refine w_aload_n dX5_init_4 rfl (List.Mem.head _) ?_
  refine w_sipush (v := nZ 600) dX5_init_5 (by decide) ?_
  refine c_newaB (a := 2) (m := 600) gn_2 (by decide) (show _ = cs_3 from rfl) dX5_init_8 rfl (by decide) (by decide) ?_
  refine c_putR (ci := 5) (k := 0) (show _ = cs_4 from rfl) dX5_init_10 fl_5_9 (by decide) ⟨rfl, rfl⟩ (by decide +kernel) ?_
  refine w_aload_n dX5_init_13 rfl (List.Mem.head _) ?_
  refine w_iconst (v := nZ 0) dX5_init_14 (by decide) ?_
  refine c_putI (ci := 5) (k := 1) (show _ = cs_5 from rfl) dX5_init_15 fl_5_15 (by decide) (by decide +kernel) ?_
  refine w_aload_n dX5_init_18 rfl (List.Mem.head _) ?_
  refine w_iconst (v := nZ 0) dX5_init_19 (by decide) ?_
  refine c_putI (ci := 5) (k := 2) (show _ = cs_6 from rfl) dX5_init_20 fl_5_19 (by decide) (by decide +kernel) ?_
  refine w_aload_n dX5_init_23 rfl (List.Mem.head _) ?_
  refine w_iconst (v := nZ 0) dX5_init_24 (by decide) ?_
  refine c_putI (ci := 5) (k := 3) (show _ = cs_7 from rfl) dX5_init_25 fl_5_22 (by decide) (by decide +kernel) ?_
  refine w_aload_n dX5_init_28 rfl (List.Mem.head _) ?_
  refine w_iconst (v := nZ 0) dX5_init_29 (by decide) ?_
  refine c_putI (ci := 5) (k := 4) (show _ = cs_8 from rfl) dX5_init_30 fl_5_25 (by decide) (by decide +kernel) ?_
  refine w_aload_n dX5_init_33 rfl (List.Mem.head _) ?_
  refine w_iconst (v := nZ (-1)) dX5_init_34 (by decide) ?_
  refine c_putI (ci := 5) (k := 5) (show _ = cs_9 from rfl) dX5_init_35 fl_5_28 (by decide) (by decide +kernel) ?_
  refine w_aload_n dX5_init_38 rfl (List.Mem.head _) ?_
  refine w_iconst (v := nZ 0) dX5_init_39 (by decide) ?_
  refine c_putI (ci := 5) (k := 6) (show _ = cs_10 from rfl) dX5_init_40 fl_5_31 (by decide) (by decide +kernel) ?_
  refine w_aload_n dX5_init_43 rfl (List.Mem.head _) ?_
  refine w_iconst (v := nZ 0) dX5_init_44 (by decide) ?_
  refine c_putI (ci := 5) (k := 7) (show _ = cs_11 from rfl) dX5_init_45 fl_5_34 (by decide) (by decide +kernel) ?_
  refine w_aload_n dX5_init_48 rfl (List.Mem.head _) ?_
  refine w_iconst (v := nZ 0) dX5_init_49 (by decide) ?_
  refine c_putI (ci := 5) (k := 8) (show _ = cs_12 from rfl) dX5_init_50 fl_5_37 (by decide) (by decide +kernel) ?_
  exact w_vret dX5_init_53 rfl ⟨rfl, rfl⟩
def cs_13 : aH := sR cs_12 0 0 (some 1)
theorem gn_13 : gN cs_13 = 3 := rfl
theorem nl_9_16 : Cond.classLink (cn 9) 16 (cn 1) ∈ lw_tbl ∧ Cond.instantiable (cn 1) (cN 1) ∈ lw_tbl ∧ Cond.initialized (cn 1) ∈ lw_tbl := ⟨List.mem_of_getElem? (i := 208) (by decide +kernel), List.mem_of_getElem? (i := 209) (by decide +kernel), List.mem_of_getElem? (i := 142) (by decide +kernel)⟩
def cs_14 : aH := nw cs_13 3 2 0 7
theorem gn_14 : gN cs_14 = 4 := rfl
theorem dX1_init_0 : decode cX1_init 0 = .ok (.aload_n 0, 1) := by decide +kernel
theorem dX1_init_1 : decode cX1_init 1 = .ok (.invokespecial 3, 3) := by decide +kernel
theorem dX1_init_4 : decode cX1_init 4 = .ok (.aload_n 0, 1) := by decide +kernel
theorem dX1_init_5 : decode cX1_init 5 = .ok (.iconst 3, 1) := by decide +kernel
theorem dX1_init_6 : decode cX1_init 6 = .ok (.newarray .int, 2) := by decide +kernel
theorem dX1_init_8 : decode cX1_init 8 = .ok (.putfield 9, 3) := by decide +kernel
theorem dX1_init_11 : decode cX1_init 11 = .ok (.aload_n 0, 1) := by decide +kernel
theorem dX1_init_12 : decode cX1_init 12 = .ok (.iconst 3, 1) := by decide +kernel
theorem dX1_init_13 : decode cX1_init 13 = .ok (.newarray .int, 2) := by decide +kernel
theorem dX1_init_15 : decode cX1_init 15 = .ok (.putfield 15, 3) := by decide +kernel
theorem dX1_init_18 : decode cX1_init 18 = .ok (.aload_n 0, 1) := by decide +kernel
theorem dX1_init_19 : decode cX1_init 19 = .ok (.iconst 3, 1) := by decide +kernel
theorem dX1_init_20 : decode cX1_init 20 = .ok (.bipush 9, 2) := by decide +kernel
theorem dX1_init_22 : decode cX1_init 22 = .ok (.multianewarray 18 2, 4) := by decide +kernel
theorem dX1_init_26 : decode cX1_init 26 = .ok (.putfield 20, 3) := by decide +kernel
theorem dX1_init_29 : decode cX1_init 29 = .ok (.aload_n 0, 1) := by decide +kernel
theorem dX1_init_30 : decode cX1_init 30 = .ok (.iconst 3, 1) := by decide +kernel
theorem dX1_init_31 : decode cX1_init 31 = .ok (.bipush 9, 2) := by decide +kernel
theorem dX1_init_33 : decode cX1_init 33 = .ok (.multianewarray 18 2, 4) := by decide +kernel
theorem dX1_init_37 : decode cX1_init 37 = .ok (.putfield 23, 3) := by decide +kernel
theorem dX1_init_40 : decode cX1_init 40 = .ok (.aload_n 0, 1) := by decide +kernel
theorem dX1_init_41 : decode cX1_init 41 = .ok (.iconst 3, 1) := by decide +kernel
theorem dX1_init_42 : decode cX1_init 42 = .ok (.bipush 9, 2) := by decide +kernel
theorem dX1_init_44 : decode cX1_init 44 = .ok (.multianewarray 18 2, 4) := by decide +kernel
theorem dX1_init_48 : decode cX1_init 48 = .ok (.putfield 26, 3) := by decide +kernel
theorem dX1_init_51 : decode cX1_init 51 = .ok (.aload_n 0, 1) := by decide +kernel
theorem dX1_init_52 : decode cX1_init 52 = .ok (.iconst 3, 1) := by decide +kernel
theorem dX1_init_53 : decode cX1_init 53 = .ok (.bipush 9, 2) := by decide +kernel
theorem dX1_init_55 : decode cX1_init 55 = .ok (.multianewarray 18 2, 4) := by decide +kernel
theorem dX1_init_59 : decode cX1_init 59 = .ok (.putfield 29, 3) := by decide +kernel
theorem dX1_init_62 : decode cX1_init 62 = .ok (.aload_n 0, 1) := by decide +kernel
theorem dX1_init_63 : decode cX1_init 63 = .ok (.iconst 0, 1) := by decide +kernel
theorem dX1_init_64 : decode cX1_init 64 = .ok (.putfield 32, 3) := by decide +kernel
theorem dX1_init_67 : decode cX1_init 67 = .ok (.return_, 1) := by decide +kernel
theorem no_1_3 : Cond.methodLink (cn 1) 3 objectInit ∈ lw_tbl := List.mem_of_getElem? (i := 213) (by decide +kernel)
def cs_15 : aH := nw cs_14 4 101 3 3
theorem gn_15 : gN cs_15 = 5 := rfl
def cs_16 : aH := sR cs_15 3 0 (some 4)
theorem gn_16 : gN cs_16 = 5 := rfl
def cs_17 : aH := nw cs_16 5 101 3 3
theorem gn_17 : gN cs_17 = 6 := rfl
def cs_18 : aH := sR cs_17 3 1 (some 5)
theorem gn_18 : gN cs_18 = 6 := rfl
theorem na_1_18 : Cond.classLink (cn 1) 18 "[[I" ∈ lw_tbl := List.mem_of_getElem? (i := 214) (by decide +kernel)
def cs_19 : aH := nwA cs_18 6 3 9
theorem gn_19 : gN cs_19 = 10 := rfl
def cs_20 : aH := sR cs_19 3 2 (some 6)
theorem gn_20 : gN cs_20 = 10 := rfl
def cs_21 : aH := nwA cs_20 10 3 9
theorem gn_21 : gN cs_21 = 14 := rfl
def cs_22 : aH := sR cs_21 3 3 (some 10)
theorem gn_22 : gN cs_22 = 14 := rfl
def cs_23 : aH := nwA cs_22 14 3 9
theorem gn_23 : gN cs_23 = 18 := rfl
def cs_24 : aH := sR cs_23 3 4 (some 14)
theorem gn_24 : gN cs_24 = 18 := rfl
def cs_25 : aH := nwA cs_24 18 3 9
theorem gn_25 : gN cs_25 = 22 := rfl
def cs_26 : aH := sR cs_25 3 5 (some 18)
theorem gn_26 : gN cs_26 = 22 := rfl
def cs_27 : aH := sI cs_26 3 6 (nZ 0)
theorem gn_27 : gN cs_27 = 22 := rfl
set_option maxRecDepth 10000 in
theorem ev_X1_init_3 {sc : Nat × (Nat → Int32)} {d : Nat} : Ev sc (d + 1) mX1_init [.ref 3] cs_14 (.inl none) cs_27 := by
  refine T.ev (T.of (d := d) (c := 1) (code := cX1_init) (mL := 1) (rt := none) (ini := true) (l := [(0, .ref 3)]) rfl rfl rfl rfl (by decide) hs_X1_init rfl rfl ?_)
  refine w_aload_n dX1_init_0 rfl (List.Mem.head _) ?_
  refine w_objI dX1_init_1 no_1_3 (Nat.le_of_ble_eq_true rfl) ?_
  refine w_aload_n dX1_init_4 rfl (List.Mem.head _) ?_
  refine w_iconst (v := nZ 3) dX1_init_5 (by decide) ?_
  refine c_newaI (a := 4) (m := 3) gn_14 (by decide) (show _ = cs_15 from rfl) dX1_init_6 rfl (by decide) (by decide) ?_
  refine c_putR (ci := 1) (k := 0) (show _ = cs_16 from rfl) dX1_init_8 fl_1_9 (by decide) ⟨rfl, rfl⟩ (by decide +kernel) ?_
  refine w_aload_n dX1_init_11 rfl (List.Mem.head _) ?_
  refine w_iconst (v := nZ 3) dX1_init_12 (by decide) ?_
  refine c_newaI (a := 5) (m := 3) gn_16 (by decide) (show _ = cs_17 from rfl) dX1_init_13 rfl (by decide) (by decide) ?_
  refine c_putR (ci := 1) (k := 1) (show _ = cs_18 from rfl) dX1_init_15 fl_1_15 (by decide) ⟨rfl, rfl⟩ (by decide +kernel) ?_
  refine w_aload_n dX1_init_18 rfl (List.Mem.head _) ?_
  refine w_iconst (v := nZ 3) dX1_init_19 (by decide) ?_
  refine w_bipush (v := nZ 9) dX1_init_20 (by decide) ?_
  refine c_newaa (a := 6) (n1 := 3) (k1 := 9) gn_18 (by decide) (by decide) (show _ = cs_19 from rfl) dX1_init_22 na_1_18 (by decide) (by decide) ?_
  refine c_putR (ci := 1) (k := 2) (show _ = cs_20 from rfl) dX1_init_26 fl_1_20 (by decide) ⟨rfl, rfl⟩ (by decide +kernel) ?_
  refine w_aload_n dX1_init_29 rfl (List.Mem.head _) ?_
  refine w_iconst (v := nZ 3) dX1_init_30 (by decide) ?_
  refine w_bipush (v := nZ 9) dX1_init_31 (by decide) ?_
  refine c_newaa (a := 10) (n1 := 3) (k1 := 9) gn_20 (by decide) (by decide) (show _ = cs_21 from rfl) dX1_init_33 na_1_18 (by decide) (by decide) ?_
  refine c_putR (ci := 1) (k := 3) (show _ = cs_22 from rfl) dX1_init_37 fl_1_23 (by decide) ⟨rfl, rfl⟩ (by decide +kernel) ?_
  refine w_aload_n dX1_init_40 rfl (List.Mem.head _) ?_
  refine w_iconst (v := nZ 3) dX1_init_41 (by decide) ?_
  refine w_bipush (v := nZ 9) dX1_init_42 (by decide) ?_
  refine c_newaa (a := 14) (n1 := 3) (k1 := 9) gn_22 (by decide) (by decide) (show _ = cs_23 from rfl) dX1_init_44 na_1_18 (by decide) (by decide) ?_
  refine c_putR (ci := 1) (k := 4) (show _ = cs_24 from rfl) dX1_init_48 fl_1_26 (by decide) ⟨rfl, rfl⟩ (by decide +kernel) ?_
  refine w_aload_n dX1_init_51 rfl (List.Mem.head _) ?_
  refine w_iconst (v := nZ 3) dX1_init_52 (by decide) ?_
  refine w_bipush (v := nZ 9) dX1_init_53 (by decide) ?_
  refine c_newaa (a := 18) (n1 := 3) (k1 := 9) gn_24 (by decide) (by decide) (show _ = cs_25 from rfl) dX1_init_55 na_1_18 (by decide) (by decide) ?_
  refine c_putR (ci := 1) (k := 5) (show _ = cs_26 from rfl) dX1_init_59 fl_1_29 (by decide) ⟨rfl, rfl⟩ (by decide +kernel) ?_
  refine w_aload_n dX1_init_62 rfl (List.Mem.head _) ?_
  refine w_iconst (v := nZ 0) dX1_init_63 (by decide) ?_
  refine c_putI (ci := 1) (k := 6) (show _ = cs_27 from rfl) dX1_init_64 fl_1_32 (by decide) (by decide +kernel) ?_
  exact w_vret dX1_init_67 rfl ⟨rfl, rfl⟩
def cs_28 : aH := sR cs_27 0 1 (some 3)
theorem gn_28 : gN cs_28 = 22 := rfl
theorem nl_9_23 : Cond.classLink (cn 9) 23 (cn 3) ∈ lw_tbl ∧ Cond.instantiable (cn 3) (cN 3) ∈ lw_tbl ∧ Cond.initialized (cn 3) ∈ lw_tbl := ⟨List.mem_of_getElem? (i := 240) (by decide +kernel), List.mem_of_getElem? (i := 241) (by decide +kernel), List.mem_of_getElem? (i := 143) (by decide +kernel)⟩
def cs_29 : aH := nw cs_28 22 4 0 3
theorem gn_29 : gN cs_29 = 23 := rfl
theorem dX3_init_0 : decode cX3_init 0 = .ok (.aload_n 0, 1) := by decide +kernel
theorem dX3_init_1 : decode cX3_init 1 = .ok (.invokespecial 3, 3) := by decide +kernel
theorem dX3_init_4 : decode cX3_init 4 = .ok (.aload_n 0, 1) := by decide +kernel
theorem dX3_init_5 : decode cX3_init 5 = .ok (.bipush 8, 2) := by decide +kernel
theorem dX3_init_7 : decode cX3_init 7 = .ok (.newarray .int, 2) := by decide +kernel
theorem dX3_init_9 : decode cX3_init 9 = .ok (.putfield 9, 3) := by decide +kernel
theorem dX3_init_12 : decode cX3_init 12 = .ok (.aload_n 0, 1) := by decide +kernel
theorem dX3_init_13 : decode cX3_init 13 = .ok (.sipush 256, 3) := by decide +kernel
theorem dX3_init_16 : decode cX3_init 16 = .ok (.newarray .int, 2) := by decide +kernel
theorem dX3_init_18 : decode cX3_init 18 = .ok (.putfield 15, 3) := by decide +kernel
theorem dX3_init_21 : decode cX3_init 21 = .ok (.aload_n 0, 1) := by decide +kernel
theorem dX3_init_22 : decode cX3_init 22 = .ok (.sipush 256, 3) := by decide +kernel
theorem dX3_init_25 : decode cX3_init 25 = .ok (.newarray .int, 2) := by decide +kernel
theorem dX3_init_27 : decode cX3_init 27 = .ok (.putfield 18, 3) := by decide +kernel
theorem dX3_init_30 : decode cX3_init 30 = .ok (.return_, 1) := by decide +kernel
theorem no_3_3 : Cond.methodLink (cn 3) 3 objectInit ∈ lw_tbl := List.mem_of_getElem? (i := 245) (by decide +kernel)
def cs_30 : aH := nw cs_29 23 101 8 8
theorem gn_30 : gN cs_30 = 24 := rfl
def cs_31 : aH := sR cs_30 22 0 (some 23)
theorem gn_31 : gN cs_31 = 24 := rfl
def cs_32 : aH := nw cs_31 24 101 256 256
theorem gn_32 : gN cs_32 = 25 := rfl
def cs_33 : aH := sR cs_32 22 1 (some 24)
theorem gn_33 : gN cs_33 = 25 := rfl
def cs_34 : aH := nw cs_33 25 101 256 256
theorem gn_34 : gN cs_34 = 26 := rfl
def cs_35 : aH := sR cs_34 22 2 (some 25)
theorem gn_35 : gN cs_35 = 26 := rfl
set_option maxRecDepth 10000 in
theorem ev_X3_init_22 {sc : Nat × (Nat → Int32)} {d : Nat} : Ev sc (d + 1) mX3_init [.ref 22] cs_29 (.inl none) cs_35 := by
  refine T.ev (T.of (d := d) (c := 3) (code := cX3_init) (mL := 1) (rt := none) (ini := true) (l := [(0, .ref 22)]) rfl rfl rfl rfl (by decide) hs_X3_init rfl rfl ?_)
  refine w_aload_n dX3_init_0 rfl (List.Mem.head _) ?_
  refine w_objI dX3_init_1 no_3_3 (Nat.le_of_ble_eq_true rfl) ?_
  refine w_aload_n dX3_init_4 rfl (List.Mem.head _) ?_
  refine w_bipush (v := nZ 8) dX3_init_5 (by decide) ?_
  refine c_newaI (a := 23) (m := 8) gn_29 (by decide) (show _ = cs_30 from rfl) dX3_init_7 rfl (by decide) (by decide) ?_
  refine c_putR (ci := 3) (k := 0) (show _ = cs_31 from rfl) dX3_init_9 fl_3_9 (by decide) ⟨rfl, rfl⟩ (by decide +kernel) ?_
  refine w_aload_n dX3_init_12 rfl (List.Mem.head _) ?_
  refine w_sipush (v := nZ 256) dX3_init_13 (by decide) ?_
  refine c_newaI (a := 24) (m := 256) gn_31 (by decide) (show _ = cs_32 from rfl) dX3_init_16 rfl (by decide) (by decide) ?_
  refine c_putR (ci := 3) (k := 1) (show _ = cs_33 from rfl) dX3_init_18 fl_3_15 (by decide) ⟨rfl, rfl⟩ (by decide +kernel) ?_
  refine w_aload_n dX3_init_21 rfl (List.Mem.head _) ?_
  refine w_sipush (v := nZ 256) dX3_init_22 (by decide) ?_
  refine c_newaI (a := 25) (m := 256) gn_33 (by decide) (show _ = cs_34 from rfl) dX3_init_25 rfl (by decide) (by decide) ?_
  refine c_putR (ci := 3) (k := 2) (show _ = cs_35 from rfl) dX3_init_27 fl_3_18 (by decide) ⟨rfl, rfl⟩ (by decide +kernel) ?_
  exact w_vret dX3_init_30 rfl ⟨rfl, rfl⟩
def cs_36 : aH := sR cs_35 0 2 (some 22)
theorem gn_36 : gN cs_36 = 26 := rfl
theorem nl_9_30 : Cond.classLink (cn 9) 30 (cn 4) ∈ lw_tbl ∧ Cond.instantiable (cn 4) (cN 4) ∈ lw_tbl ∧ Cond.initialized (cn 4) ∈ lw_tbl := ⟨List.mem_of_getElem? (i := 256) (by decide +kernel), List.mem_of_getElem? (i := 257) (by decide +kernel), List.mem_of_getElem? (i := 144) (by decide +kernel)⟩
def cs_37 : aH := nw cs_36 26 5 0 13
theorem gn_37 : gN cs_37 = 27 := rfl
theorem dX4_init_0 : decode cX4_init 0 = .ok (.aload_n 0, 1) := by decide +kernel
theorem dX4_init_1 : decode cX4_init 1 = .ok (.invokespecial 3, 3) := by decide +kernel
theorem dX4_init_4 : decode cX4_init 4 = .ok (.aload_n 0, 1) := by decide +kernel
theorem dX4_init_5 : decode cX4_init 5 = .ok (.new 9, 3) := by decide +kernel
theorem dX4_init_8 : decode cX4_init 8 = .ok (.dup, 1) := by decide +kernel
theorem dX4_init_9 : decode cX4_init 9 = .ok (.invokespecial 11, 3) := by decide +kernel
theorem dX4_init_12 : decode cX4_init 12 = .ok (.putfield 12, 3) := by decide +kernel
theorem dX4_init_15 : decode cX4_init 15 = .ok (.aload_n 0, 1) := by decide +kernel
theorem dX4_init_16 : decode cX4_init 16 = .ok (.bipush 9, 2) := by decide +kernel
theorem dX4_init_18 : decode cX4_init 18 = .ok (.newarray .int, 2) := by decide +kernel
theorem dX4_init_20 : decode cX4_init 20 = .ok (.putfield 18, 3) := by decide +kernel
theorem dX4_init_23 : decode cX4_init 23 = .ok (.aload_n 0, 1) := by decide +kernel
theorem dX4_init_24 : decode cX4_init 24 = .ok (.bipush 9, 2) := by decide +kernel
theorem dX4_init_26 : decode cX4_init 26 = .ok (.newarray .int, 2) := by decide +kernel
theorem dX4_init_28 : decode cX4_init 28 = .ok (.putfield 22, 3) := by decide +kernel
theorem dX4_init_31 : decode cX4_init 31 = .ok (.aload_n 0, 1) := by decide +kernel
theorem dX4_init_32 : decode cX4_init 32 = .ok (.bipush 9, 2) := by decide +kernel
theorem dX4_init_34 : decode cX4_init 34 = .ok (.newarray .int, 2) := by decide +kernel
theorem dX4_init_36 : decode cX4_init 36 = .ok (.putfield 25, 3) := by decide +kernel
theorem dX4_init_39 : decode cX4_init 39 = .ok (.aload_n 0, 1) := by decide +kernel
theorem dX4_init_40 : decode cX4_init 40 = .ok (.bipush 9, 2) := by decide +kernel
theorem dX4_init_42 : decode cX4_init 42 = .ok (.newarray .int, 2) := by decide +kernel
theorem dX4_init_44 : decode cX4_init 44 = .ok (.putfield 28, 3) := by decide +kernel
theorem dX4_init_47 : decode cX4_init 47 = .ok (.aload_n 0, 1) := by decide +kernel
theorem dX4_init_48 : decode cX4_init 48 = .ok (.bipush 21, 2) := by decide +kernel
theorem dX4_init_50 : decode cX4_init 50 = .ok (.newarray .long, 2) := by decide +kernel
theorem dX4_init_52 : decode cX4_init 52 = .ok (.putfield 31, 3) := by decide +kernel
theorem dX4_init_55 : decode cX4_init 55 = .ok (.aload_n 0, 1) := by decide +kernel
theorem dX4_init_56 : decode cX4_init 56 = .ok (.iconst 0, 1) := by decide +kernel
theorem dX4_init_57 : decode cX4_init 57 = .ok (.putfield 35, 3) := by decide +kernel
theorem dX4_init_60 : decode cX4_init 60 = .ok (.aload_n 0, 1) := by decide +kernel
theorem dX4_init_61 : decode cX4_init 61 = .ok (.iconst (-1), 1) := by decide +kernel
theorem dX4_init_62 : decode cX4_init 62 = .ok (.putfield 39, 3) := by decide +kernel
theorem dX4_init_65 : decode cX4_init 65 = .ok (.aload_n 0, 1) := by decide +kernel
theorem dX4_init_66 : decode cX4_init 66 = .ok (.iconst 0, 1) := by decide +kernel
theorem dX4_init_67 : decode cX4_init 67 = .ok (.putfield 42, 3) := by decide +kernel
theorem dX4_init_70 : decode cX4_init 70 = .ok (.aload_n 0, 1) := by decide +kernel
theorem dX4_init_71 : decode cX4_init 71 = .ok (.iconst 0, 1) := by decide +kernel
theorem dX4_init_72 : decode cX4_init 72 = .ok (.putfield 45, 3) := by decide +kernel
theorem dX4_init_75 : decode cX4_init 75 = .ok (.aload_n 0, 1) := by decide +kernel
theorem dX4_init_76 : decode cX4_init 76 = .ok (.iconst 0, 1) := by decide +kernel
theorem dX4_init_77 : decode cX4_init 77 = .ok (.putfield 48, 3) := by decide +kernel
theorem dX4_init_80 : decode cX4_init 80 = .ok (.aload_n 0, 1) := by decide +kernel
theorem dX4_init_81 : decode cX4_init 81 = .ok (.iconst (-1), 1) := by decide +kernel
theorem dX4_init_82 : decode cX4_init 82 = .ok (.putfield 51, 3) := by decide +kernel
theorem dX4_init_85 : decode cX4_init 85 = .ok (.aload_n 0, 1) := by decide +kernel
theorem dX4_init_86 : decode cX4_init 86 = .ok (.iconst 0, 1) := by decide +kernel
theorem dX4_init_87 : decode cX4_init 87 = .ok (.putfield 54, 3) := by decide +kernel
theorem dX4_init_90 : decode cX4_init 90 = .ok (.return_, 1) := by decide +kernel
theorem no_4_3 : Cond.methodLink (cn 4) 3 objectInit ∈ lw_tbl := List.mem_of_getElem? (i := 261) (by decide +kernel)
theorem nl_4_9 : Cond.classLink (cn 4) 9 (cn 6) ∈ lw_tbl ∧ Cond.instantiable (cn 6) (cN 6) ∈ lw_tbl ∧ Cond.initialized (cn 6) ∈ lw_tbl := ⟨List.mem_of_getElem? (i := 262) (by decide +kernel), List.mem_of_getElem? (i := 263) (by decide +kernel), List.mem_of_getElem? (i := 145) (by decide +kernel)⟩
def cs_38 : aH := nw cs_37 27 7 0 6
theorem gn_38 : gN cs_38 = 28 := rfl
theorem dX6_init_0 : decode cX6_init 0 = .ok (.aload_n 0, 1) := by decide +kernel
theorem dX6_init_1 : decode cX6_init 1 = .ok (.invokespecial 3, 3) := by decide +kernel
theorem dX6_init_4 : decode cX6_init 4 = .ok (.aload_n 0, 1) := by decide +kernel
theorem dX6_init_5 : decode cX6_init 5 = .ok (.new 9, 3) := by decide +kernel
theorem dX6_init_8 : decode cX6_init 8 = .ok (.dup, 1) := by decide +kernel
theorem dX6_init_9 : decode cX6_init 9 = .ok (.invokespecial 11, 3) := by decide +kernel
theorem dX6_init_12 : decode cX6_init 12 = .ok (.putfield 12, 3) := by decide +kernel
theorem dX6_init_15 : decode cX6_init 15 = .ok (.aload_n 0, 1) := by decide +kernel
theorem dX6_init_16 : decode cX6_init 16 = .ok (.new 9, 3) := by decide +kernel
theorem dX6_init_19 : decode cX6_init 19 = .ok (.dup, 1) := by decide +kernel
theorem dX6_init_20 : decode cX6_init 20 = .ok (.invokespecial 11, 3) := by decide +kernel
theorem dX6_init_23 : decode cX6_init 23 = .ok (.putfield 18, 3) := by decide +kernel
theorem dX6_init_26 : decode cX6_init 26 = .ok (.aload_n 0, 1) := by decide +kernel
theorem dX6_init_27 : decode cX6_init 27 = .ok (.new 9, 3) := by decide +kernel
theorem dX6_init_30 : decode cX6_init 30 = .ok (.dup, 1) := by decide +kernel
theorem dX6_init_31 : decode cX6_init 31 = .ok (.invokespecial 11, 3) := by decide +kernel
theorem dX6_init_34 : decode cX6_init 34 = .ok (.putfield 21, 3) := by decide +kernel
theorem dX6_init_37 : decode cX6_init 37 = .ok (.aload_n 0, 1) := by decide +kernel
theorem dX6_init_38 : decode cX6_init 38 = .ok (.bipush 9, 2) := by decide +kernel
theorem dX6_init_40 : decode cX6_init 40 = .ok (.newarray .int, 2) := by decide +kernel
theorem dX6_init_42 : decode cX6_init 42 = .ok (.putfield 24, 3) := by decide +kernel
theorem dX6_init_45 : decode cX6_init 45 = .ok (.aload_n 0, 1) := by decide +kernel
theorem dX6_init_46 : decode cX6_init 46 = .ok (.bipush 24, 2) := by decide +kernel
theorem dX6_init_48 : decode cX6_init 48 = .ok (.newarray .int, 2) := by decide +kernel
theorem dX6_init_50 : decode cX6_init 50 = .ok (.putfield 28, 3) := by decide +kernel
theorem dX6_init_53 : decode cX6_init 53 = .ok (.aload_n 0, 1) := by decide +kernel
theorem dX6_init_54 : decode cX6_init 54 = .ok (.new 31, 3) := by decide +kernel
theorem dX6_init_57 : decode cX6_init 57 = .ok (.dup, 1) := by decide +kernel
theorem dX6_init_58 : decode cX6_init 58 = .ok (.invokespecial 33, 3) := by decide +kernel
theorem dX6_init_61 : decode cX6_init 61 = .ok (.putfield 34, 3) := by decide +kernel
theorem dX6_init_64 : decode cX6_init 64 = .ok (.return_, 1) := by decide +kernel
theorem no_6_3 : Cond.methodLink (cn 6) 3 objectInit ∈ lw_tbl := List.mem_of_getElem? (i := 267) (by decide +kernel)
theorem nl_6_9 : Cond.classLink (cn 6) 9 (cn 8) ∈ lw_tbl ∧ Cond.instantiable (cn 8) (cN 8) ∈ lw_tbl ∧ Cond.initialized (cn 8) ∈ lw_tbl := ⟨List.mem_of_getElem? (i := 268) (by decide +kernel), List.mem_of_getElem? (i := 269) (by decide +kernel), List.mem_of_getElem? (i := 146) (by decide +kernel)⟩
def cs_39 : aH := nw cs_38 28 9 0 2
theorem gn_39 : gN cs_39 = 29 := rfl
theorem dX8_init_0 : decode cX8_init 0 = .ok (.aload_n 0, 1) := by decide +kernel
theorem dX8_init_1 : decode cX8_init 1 = .ok (.invokespecial 3, 3) := by decide +kernel
theorem dX8_init_4 : decode cX8_init 4 = .ok (.aload_n 0, 1) := by decide +kernel
theorem dX8_init_5 : decode cX8_init 5 = .ok (.bipush 90, 2) := by decide +kernel
theorem dX8_init_7 : decode cX8_init 7 = .ok (.newarray .int, 2) := by decide +kernel
theorem dX8_init_9 : decode cX8_init 9 = .ok (.putfield 9, 3) := by decide +kernel
theorem dX8_init_12 : decode cX8_init 12 = .ok (.aload_n 0, 1) := by decide +kernel
theorem dX8_init_13 : decode cX8_init 13 = .ok (.bipush 90, 2) := by decide +kernel
theorem dX8_init_15 : decode cX8_init 15 = .ok (.newarray .int, 2) := by decide +kernel
theorem dX8_init_17 : decode cX8_init 17 = .ok (.putfield 15, 3) := by decide +kernel
theorem dX8_init_20 : decode cX8_init 20 = .ok (.return_, 1) := by decide +kernel
theorem no_8_3 : Cond.methodLink (cn 8) 3 objectInit ∈ lw_tbl := List.mem_of_getElem? (i := 273) (by decide +kernel)
def cs_40 : aH := nw cs_39 29 101 90 90
theorem gn_40 : gN cs_40 = 30 := rfl
def cs_41 : aH := sR cs_40 28 0 (some 29)
theorem gn_41 : gN cs_41 = 30 := rfl
def cs_42 : aH := nw cs_41 30 101 90 90
theorem gn_42 : gN cs_42 = 31 := rfl
def cs_43 : aH := sR cs_42 28 1 (some 30)
theorem gn_43 : gN cs_43 = 31 := rfl
set_option maxRecDepth 10000 in
theorem ev_X8_init_28 {sc : Nat × (Nat → Int32)} {d : Nat} : Ev sc (d + 1) mX8_init [.ref 28] cs_39 (.inl none) cs_43 := by
  refine T.ev (T.of (d := d) (c := 8) (code := cX8_init) (mL := 1) (rt := none) (ini := true) (l := [(0, .ref 28)]) rfl rfl rfl rfl (by decide) hs_X8_init rfl rfl ?_)
  refine w_aload_n dX8_init_0 rfl (List.Mem.head _) ?_
  refine w_objI dX8_init_1 no_8_3 (Nat.le_of_ble_eq_true rfl) ?_
  refine w_aload_n dX8_init_4 rfl (List.Mem.head _) ?_
  refine w_bipush (v := nZ 90) dX8_init_5 (by decide) ?_
  refine c_newaI (a := 29) (m := 90) gn_39 (by decide) (show _ = cs_40 from rfl) dX8_init_7 rfl (by decide) (by decide) ?_
  refine c_putR (ci := 8) (k := 0) (show _ = cs_41 from rfl) dX8_init_9 fl_8_9 (by decide) ⟨rfl, rfl⟩ (by decide +kernel) ?_
  refine w_aload_n dX8_init_12 rfl (List.Mem.head _) ?_
  refine w_bipush (v := nZ 90) dX8_init_13 (by decide) ?_
  refine c_newaI (a := 30) (m := 90) gn_41 (by decide) (show _ = cs_42 from rfl) dX8_init_15 rfl (by decide) (by decide) ?_
  refine c_putR (ci := 8) (k := 1) (show _ = cs_43 from rfl) dX8_init_17 fl_8_15 (by decide) ⟨rfl, rfl⟩ (by decide +kernel) ?_
  exact w_vret dX8_init_20 rfl ⟨rfl, rfl⟩
def cs_44 : aH := sR cs_43 27 0 (some 28)
theorem gn_44 : gN cs_44 = 31 := rfl
def cs_45 : aH := nw cs_44 31 9 0 2
theorem gn_45 : gN cs_45 = 32 := rfl
def cs_46 : aH := nw cs_45 32 101 90 90
theorem gn_46 : gN cs_46 = 33 := rfl
def cs_47 : aH := sR cs_46 31 0 (some 32)
theorem gn_47 : gN cs_47 = 33 := rfl
def cs_48 : aH := nw cs_47 33 101 90 90
theorem gn_48 : gN cs_48 = 34 := rfl
def cs_49 : aH := sR cs_48 31 1 (some 33)
theorem gn_49 : gN cs_49 = 34 := rfl
set_option maxRecDepth 10000 in
theorem ev_X8_init_31 {sc : Nat × (Nat → Int32)} {d : Nat} : Ev sc (d + 1) mX8_init [.ref 31] cs_45 (.inl none) cs_49 := by
  refine T.ev (T.of (d := d) (c := 8) (code := cX8_init) (mL := 1) (rt := none) (ini := true) (l := [(0, .ref 31)]) rfl rfl rfl rfl (by decide) hs_X8_init rfl rfl ?_)
  refine w_aload_n dX8_init_0 rfl (List.Mem.head _) ?_
  refine w_objI dX8_init_1 no_8_3 (Nat.le_of_ble_eq_true rfl) ?_
  refine w_aload_n dX8_init_4 rfl (List.Mem.head _) ?_
  refine w_bipush (v := nZ 90) dX8_init_5 (by decide) ?_
  refine c_newaI (a := 32) (m := 90) gn_45 (by decide) (show _ = cs_46 from rfl) dX8_init_7 rfl (by decide) (by decide) ?_
  refine c_putR (ci := 8) (k := 0) (show _ = cs_47 from rfl) dX8_init_9 fl_8_9 (by decide) ⟨rfl, rfl⟩ (by decide +kernel) ?_
  refine w_aload_n dX8_init_12 rfl (List.Mem.head _) ?_
  refine w_bipush (v := nZ 90) dX8_init_13 (by decide) ?_
  refine c_newaI (a := 33) (m := 90) gn_47 (by decide) (show _ = cs_48 from rfl) dX8_init_15 rfl (by decide) (by decide) ?_
  refine c_putR (ci := 8) (k := 1) (show _ = cs_49 from rfl) dX8_init_17 fl_8_15 (by decide) ⟨rfl, rfl⟩ (by decide +kernel) ?_
  exact w_vret dX8_init_20 rfl ⟨rfl, rfl⟩
def cs_50 : aH := sR cs_49 27 1 (some 31)
theorem gn_50 : gN cs_50 = 34 := rfl
def cs_51 : aH := nw cs_50 34 9 0 2
theorem gn_51 : gN cs_51 = 35 := rfl
def cs_52 : aH := nw cs_51 35 101 90 90
theorem gn_52 : gN cs_52 = 36 := rfl
def cs_53 : aH := sR cs_52 34 0 (some 35)
theorem gn_53 : gN cs_53 = 36 := rfl
def cs_54 : aH := nw cs_53 36 101 90 90
theorem gn_54 : gN cs_54 = 37 := rfl
def cs_55 : aH := sR cs_54 34 1 (some 36)
theorem gn_55 : gN cs_55 = 37 := rfl
set_option maxRecDepth 10000 in
theorem ev_X8_init_34 {sc : Nat × (Nat → Int32)} {d : Nat} : Ev sc (d + 1) mX8_init [.ref 34] cs_51 (.inl none) cs_55 := by
  refine T.ev (T.of (d := d) (c := 8) (code := cX8_init) (mL := 1) (rt := none) (ini := true) (l := [(0, .ref 34)]) rfl rfl rfl rfl (by decide) hs_X8_init rfl rfl ?_)
  refine w_aload_n dX8_init_0 rfl (List.Mem.head _) ?_
  refine w_objI dX8_init_1 no_8_3 (Nat.le_of_ble_eq_true rfl) ?_
  refine w_aload_n dX8_init_4 rfl (List.Mem.head _) ?_
  refine w_bipush (v := nZ 90) dX8_init_5 (by decide) ?_
  refine c_newaI (a := 35) (m := 90) gn_51 (by decide) (show _ = cs_52 from rfl) dX8_init_7 rfl (by decide) (by decide) ?_
  refine c_putR (ci := 8) (k := 0) (show _ = cs_53 from rfl) dX8_init_9 fl_8_9 (by decide) ⟨rfl, rfl⟩ (by decide +kernel) ?_
  refine w_aload_n dX8_init_12 rfl (List.Mem.head _) ?_
  refine w_bipush (v := nZ 90) dX8_init_13 (by decide) ?_
  refine c_newaI (a := 36) (m := 90) gn_53 (by decide) (show _ = cs_54 from rfl) dX8_init_15 rfl (by decide) (by decide) ?_
  refine c_putR (ci := 8) (k := 1) (show _ = cs_55 from rfl) dX8_init_17 fl_8_15 (by decide) ⟨rfl, rfl⟩ (by decide +kernel) ?_
  exact w_vret dX8_init_20 rfl ⟨rfl, rfl⟩
def cs_56 : aH := sR cs_55 27 2 (some 34)
theorem gn_56 : gN cs_56 = 37 := rfl
def cs_57 : aH := nw cs_56 37 101 9 9
theorem gn_57 : gN cs_57 = 38 := rfl
def cs_58 : aH := sR cs_57 27 3 (some 37)
theorem gn_58 : gN cs_58 = 38 := rfl
def cs_59 : aH := nw cs_58 38 101 24 24
theorem gn_59 : gN cs_59 = 39 := rfl
def cs_60 : aH := sR cs_59 27 4 (some 38)
theorem gn_60 : gN cs_60 = 39 := rfl
theorem nl_6_31 : Cond.classLink (cn 6) 31 (cn 2) ∈ lw_tbl ∧ Cond.instantiable (cn 2) (cN 2) ∈ lw_tbl ∧ Cond.initialized (cn 2) ∈ lw_tbl := ⟨List.mem_of_getElem? (i := 281) (by decide +kernel), List.mem_of_getElem? (i := 282) (by decide +kernel), List.mem_of_getElem? (i := 147) (by decide +kernel)⟩
def cs_61 : aH := nw cs_60 39 3 0 10
theorem gn_61 : gN cs_61 = 40 := rfl
theorem dX2_init_0 : decode cX2_init 0 = .ok (.aload_n 0, 1) := by decide +kernel
theorem dX2_init_1 : decode cX2_init 1 = .ok (.invokespecial 3, 3) := by decide +kernel
theorem dX2_init_4 : decode cX2_init 4 = .ok (.aload_n 0, 1) := by decide +kernel
theorem dX2_init_5 : decode cX2_init 5 = .ok (.new 9, 3) := by decide +kernel
theorem dX2_init_8 : decode cX2_init 8 = .ok (.dup, 1) := by decide +kernel
theorem dX2_init_9 : decode cX2_init 9 = .ok (.invokespecial 11, 3) := by decide +kernel
theorem dX2_init_12 : decode cX2_init 12 = .ok (.putfield 12, 3) := by decide +kernel
theorem dX2_init_15 : decode cX2_init 15 = .ok (.aload_n 0, 1) := by decide +kernel
theorem dX2_init_16 : decode cX2_init 16 = .ok (.new 18, 3) := by decide +kernel
theorem dX2_init_19 : decode cX2_init 19 = .ok (.dup, 1) := by decide +kernel
theorem dX2_init_20 : decode cX2_init 20 = .ok (.invokespecial 20, 3) := by decide +kernel
theorem dX2_init_23 : decode cX2_init 23 = .ok (.putfield 21, 3) := by decide +kernel
theorem dX2_init_26 : decode cX2_init 26 = .ok (.aload_n 0, 1) := by decide +kernel
theorem dX2_init_27 : decode cX2_init 27 = .ok (.new 18, 3) := by decide +kernel
theorem dX2_init_30 : decode cX2_init 30 = .ok (.dup, 1) := by decide +kernel
theorem dX2_init_31 : decode cX2_init 31 = .ok (.invokespecial 20, 3) := by decide +kernel
theorem dX2_init_34 : decode cX2_init 34 = .ok (.putfield 25, 3) := by decide +kernel
theorem dX2_init_37 : decode cX2_init 37 = .ok (.aload_n 0, 1) := by decide +kernel
theorem dX2_init_38 : decode cX2_init 38 = .ok (.invokevirtual 28, 3) := by decide +kernel
theorem dX2_init_41 : decode cX2_init 41 = .ok (.return_, 1) := by decide +kernel
theorem no_2_3 : Cond.methodLink (cn 2) 3 objectInit ∈ lw_tbl := List.mem_of_getElem? (i := 286) (by decide +kernel)
theorem nl_2_9 : Cond.classLink (cn 2) 9 (cn 7) ∈ lw_tbl ∧ Cond.instantiable (cn 7) (cN 7) ∈ lw_tbl ∧ Cond.initialized (cn 7) ∈ lw_tbl := ⟨List.mem_of_getElem? (i := 287) (by decide +kernel), List.mem_of_getElem? (i := 288) (by decide +kernel), List.mem_of_getElem? (i := 148) (by decide +kernel)⟩
def cs_62 : aH := nw cs_61 40 8 0 10
theorem gn_62 : gN cs_62 = 41 := rfl
theorem dX7_init_0 : decode cX7_init 0 = .ok (.aload_n 0, 1) := by decide +kernel
theorem dX7_init_1 : decode cX7_init 1 = .ok (.invokespecial 3, 3) := by decide +kernel
theorem dX7_init_4 : decode cX7_init 4 = .ok (.aload_n 0, 1) := by decide +kernel
theorem dX7_init_5 : decode cX7_init 5 = .ok (.bipush 9, 2) := by decide +kernel
theorem dX7_init_7 : decode cX7_init 7 = .ok (.newarray .int, 2) := by decide +kernel
theorem dX7_init_9 : decode cX7_init 9 = .ok (.putfield 9, 3) := by decide +kernel
theorem dX7_init_12 : decode cX7_init 12 = .ok (.aload_n 0, 1) := by decide +kernel
theorem dX7_init_13 : decode cX7_init 13 = .ok (.bipush 9, 2) := by decide +kernel
theorem dX7_init_15 : decode cX7_init 15 = .ok (.newarray .int, 2) := by decide +kernel
theorem dX7_init_17 : decode cX7_init 17 = .ok (.putfield 15, 3) := by decide +kernel
theorem dX7_init_20 : decode cX7_init 20 = .ok (.aload_n 0, 1) := by decide +kernel
theorem dX7_init_21 : decode cX7_init 21 = .ok (.bipush 9, 2) := by decide +kernel
theorem dX7_init_23 : decode cX7_init 23 = .ok (.newarray .int, 2) := by decide +kernel
theorem dX7_init_25 : decode cX7_init 25 = .ok (.putfield 18, 3) := by decide +kernel
theorem dX7_init_28 : decode cX7_init 28 = .ok (.aload_n 0, 1) := by decide +kernel
theorem dX7_init_29 : decode cX7_init 29 = .ok (.bipush 9, 2) := by decide +kernel
theorem dX7_init_31 : decode cX7_init 31 = .ok (.newarray .int, 2) := by decide +kernel
theorem dX7_init_33 : decode cX7_init 33 = .ok (.putfield 21, 3) := by decide +kernel
theorem dX7_init_36 : decode cX7_init 36 = .ok (.aload_n 0, 1) := by decide +kernel
theorem dX7_init_37 : decode cX7_init 37 = .ok (.bipush 9, 2) := by decide +kernel
theorem dX7_init_39 : decode cX7_init 39 = .ok (.newarray .int, 2) := by decide +kernel
theorem dX7_init_41 : decode cX7_init 41 = .ok (.putfield 24, 3) := by decide +kernel
theorem dX7_init_44 : decode cX7_init 44 = .ok (.aload_n 0, 1) := by decide +kernel
theorem dX7_init_45 : decode cX7_init 45 = .ok (.bipush 9, 2) := by decide +kernel
theorem dX7_init_47 : decode cX7_init 47 = .ok (.newarray .int, 2) := by decide +kernel
theorem dX7_init_49 : decode cX7_init 49 = .ok (.putfield 27, 3) := by decide +kernel
theorem dX7_init_52 : decode cX7_init 52 = .ok (.aload_n 0, 1) := by decide +kernel
theorem dX7_init_53 : decode cX7_init 53 = .ok (.bipush 9, 2) := by decide +kernel
theorem dX7_init_55 : decode cX7_init 55 = .ok (.newarray .int, 2) := by decide +kernel
theorem dX7_init_57 : decode cX7_init 57 = .ok (.putfield 30, 3) := by decide +kernel
theorem dX7_init_60 : decode cX7_init 60 = .ok (.aload_n 0, 1) := by decide +kernel
theorem dX7_init_61 : decode cX7_init 61 = .ok (.bipush 9, 2) := by decide +kernel
theorem dX7_init_63 : decode cX7_init 63 = .ok (.newarray .int, 2) := by decide +kernel
theorem dX7_init_65 : decode cX7_init 65 = .ok (.putfield 33, 3) := by decide +kernel
theorem dX7_init_68 : decode cX7_init 68 = .ok (.aload_n 0, 1) := by decide +kernel
theorem dX7_init_69 : decode cX7_init 69 = .ok (.iconst 0, 1) := by decide +kernel
theorem dX7_init_70 : decode cX7_init 70 = .ok (.putfield 36, 3) := by decide +kernel
theorem dX7_init_73 : decode cX7_init 73 = .ok (.aload_n 0, 1) := by decide +kernel
theorem dX7_init_74 : decode cX7_init 74 = .ok (.iconst (-1), 1) := by decide +kernel
theorem dX7_init_75 : decode cX7_init 75 = .ok (.putfield 40, 3) := by decide +kernel
theorem dX7_init_78 : decode cX7_init 78 = .ok (.return_, 1) := by decide +kernel
theorem no_7_3 : Cond.methodLink (cn 7) 3 objectInit ∈ lw_tbl := List.mem_of_getElem? (i := 292) (by decide +kernel)
def cs_63 : aH := nw cs_62 41 101 9 9
theorem gn_63 : gN cs_63 = 42 := rfl
def cs_64 : aH := sR cs_63 40 0 (some 41)
theorem gn_64 : gN cs_64 = 42 := rfl
def cs_65 : aH := nw cs_64 42 101 9 9
theorem gn_65 : gN cs_65 = 43 := rfl
def cs_66 : aH := sR cs_65 40 1 (some 42)
theorem gn_66 : gN cs_66 = 43 := rfl
def cs_67 : aH := nw cs_66 43 101 9 9
theorem gn_67 : gN cs_67 = 44 := rfl
def cs_68 : aH := sR cs_67 40 2 (some 43)
theorem gn_68 : gN cs_68 = 44 := rfl
def cs_69 : aH := nw cs_68 44 101 9 9
theorem gn_69 : gN cs_69 = 45 := rfl
def cs_70 : aH := sR cs_69 40 3 (some 44)
theorem gn_70 : gN cs_70 = 45 := rfl
def cs_71 : aH := nw cs_70 45 101 9 9
theorem gn_71 : gN cs_71 = 46 := rfl
def cs_72 : aH := sR cs_71 40 4 (some 45)
theorem gn_72 : gN cs_72 = 46 := rfl
def cs_73 : aH := nw cs_72 46 101 9 9
theorem gn_73 : gN cs_73 = 47 := rfl
def cs_74 : aH := sR cs_73 40 5 (some 46)
theorem gn_74 : gN cs_74 = 47 := rfl
def cs_75 : aH := nw cs_74 47 101 9 9
theorem gn_75 : gN cs_75 = 48 := rfl
def cs_76 : aH := sR cs_75 40 6 (some 47)
theorem gn_76 : gN cs_76 = 48 := rfl
def cs_77 : aH := nw cs_76 48 101 9 9
theorem gn_77 : gN cs_77 = 49 := rfl
def cs_78 : aH := sR cs_77 40 7 (some 48)
theorem gn_78 : gN cs_78 = 49 := rfl
def cs_79 : aH := sI cs_78 40 8 (nZ 0)
theorem gn_79 : gN cs_79 = 49 := rfl
def cs_80 : aH := sI cs_79 40 9 (nZ (-1))
theorem gn_80 : gN cs_80 = 49 := rfl
set_option maxRecDepth 10000 in
theorem ev_X7_init_40 {sc : Nat × (Nat → Int32)} {d : Nat} : Ev sc (d + 1) mX7_init [.ref 40] cs_62 (.inl none) cs_80 := by
  refine T.ev (T.of (d := d) (c := 7) (code := cX7_init) (mL := 1) (rt := none) (ini := true) (l := [(0, .ref 40)]) rfl rfl rfl rfl (by decide) hs_X7_init rfl rfl ?_)
  refine w_aload_n dX7_init_0 rfl (List.Mem.head _) ?_
  refine w_objI dX7_init_1 no_7_3 (Nat.le_of_ble_eq_true rfl) ?_
  refine w_aload_n dX7_init_4 rfl (List.Mem.head _) ?_
  refine w_bipush (v := nZ 9) dX7_init_5 (by decide) ?_
  refine c_newaI (a := 41) (m := 9) gn_62 (by decide) (show _ = cs_63 from rfl) dX7_init_7 rfl (by decide) (by decide) ?_
  refine c_putR (ci := 7) (k := 0) (show _ = cs_64 from rfl) dX7_init_9 fl_7_9 (by decide) ⟨rfl, rfl⟩ (by decide +kernel) ?_
  refine w_aload_n dX7_init_12 rfl (List.Mem.head _) ?_
  refine w_bipush (v := nZ 9) dX7_init_13 (by decide) ?_
  refine c_newaI (a := 42) (m := 9) gn_64 (by decide) (show _ = cs_65 from rfl) dX7_init_15 rfl (by decide) (by decide) ?_
  refine c_putR (ci := 7) (k := 1) (show _ = cs_66 from rfl) dX7_init_17 fl_7_15 (by decide) ⟨rfl, rfl⟩ (by decide +kernel) ?_
  refine w_aload_n dX7_init_20 rfl (List.Mem.head _) ?_
  refine w_bipush (v := nZ 9) dX7_init_21 (by decide) ?_
  refine c_newaI (a := 43) (m := 9) gn_66 (by decide) (show _ = cs_67 from rfl) dX7_init_23 rfl (by decide) (by decide) ?_
  refine c_putR (ci := 7) (k := 2) (show _ = cs_68 from rfl) dX7_init_25 fl_7_18 (by decide) ⟨rfl, rfl⟩ (by decide +kernel) ?_
  refine w_aload_n dX7_init_28 rfl (List.Mem.head _) ?_
  refine w_bipush (v := nZ 9) dX7_init_29 (by decide) ?_
  refine c_newaI (a := 44) (m := 9) gn_68 (by decide) (show _ = cs_69 from rfl) dX7_init_31 rfl (by decide) (by decide) ?_
  refine c_putR (ci := 7) (k := 3) (show _ = cs_70 from rfl) dX7_init_33 fl_7_21 (by decide) ⟨rfl, rfl⟩ (by decide +kernel) ?_
  refine w_aload_n dX7_init_36 rfl (List.Mem.head _) ?_
  refine w_bipush (v := nZ 9) dX7_init_37 (by decide) ?_
  refine c_newaI (a := 45) (m := 9) gn_70 (by decide) (show _ = cs_71 from rfl) dX7_init_39 rfl (by decide) (by decide) ?_
  refine c_putR (ci := 7) (k := 4) (show _ = cs_72 from rfl) dX7_init_41 fl_7_24 (by decide) ⟨rfl, rfl⟩ (by decide +kernel) ?_
  refine w_aload_n dX7_init_44 rfl (List.Mem.head _) ?_
  refine w_bipush (v := nZ 9) dX7_init_45 (by decide) ?_
  refine c_newaI (a := 46) (m := 9) gn_72 (by decide) (show _ = cs_73 from rfl) dX7_init_47 rfl (by decide) (by decide) ?_
  refine c_putR (ci := 7) (k := 5) (show _ = cs_74 from rfl) dX7_init_49 fl_7_27 (by decide) ⟨rfl, rfl⟩ (by decide +kernel) ?_
  refine w_aload_n dX7_init_52 rfl (List.Mem.head _) ?_
  refine w_bipush (v := nZ 9) dX7_init_53 (by decide) ?_
  refine c_newaI (a := 47) (m := 9) gn_74 (by decide) (show _ = cs_75 from rfl) dX7_init_55 rfl (by decide) (by decide) ?_
  refine c_putR (ci := 7) (k := 6) (show _ = cs_76 from rfl) dX7_init_57 fl_7_30 (by decide) ⟨rfl, rfl⟩ (by decide +kernel) ?_
  refine w_aload_n dX7_init_60 rfl (List.Mem.head _) ?_
  refine w_bipush (v := nZ 9) dX7_init_61 (by decide) ?_
  refine c_newaI (a := 48) (m := 9) gn_76 (by decide) (show _ = cs_77 from rfl) dX7_init_63 rfl (by decide) (by decide) ?_
  refine c_putR (ci := 7) (k := 7) (show _ = cs_78 from rfl) dX7_init_65 fl_7_33 (by decide) ⟨rfl, rfl⟩ (by decide +kernel) ?_
  refine w_aload_n dX7_init_68 rfl (List.Mem.head _) ?_
  refine w_iconst (v := nZ 0) dX7_init_69 (by decide) ?_
  refine c_putI (ci := 7) (k := 8) (show _ = cs_79 from rfl) dX7_init_70 fl_7_36 (by decide) (by decide +kernel) ?_
  refine w_aload_n dX7_init_73 rfl (List.Mem.head _) ?_
  refine w_iconst (v := nZ (-1)) dX7_init_74 (by decide) ?_
  refine c_putI (ci := 7) (k := 9) (show _ = cs_80 from rfl) dX7_init_75 fl_7_40 (by decide) (by decide +kernel) ?_
  exact w_vret dX7_init_78 rfl ⟨rfl, rfl⟩
def cs_81 : aH := sR cs_80 39 0 (some 40)
theorem gn_81 : gN cs_81 = 49 := rfl
theorem nl_2_18 : Cond.classLink (cn 2) 18 (cn 0) ∈ lw_tbl ∧ Cond.instantiable (cn 0) (cN 0) ∈ lw_tbl ∧ Cond.initialized (cn 0) ∈ lw_tbl := ⟨List.mem_of_getElem? (i := 359) (by decide +kernel), List.mem_of_getElem? (i := 360) (by decide +kernel), List.mem_of_getElem? (i := 149) (by decide +kernel)⟩
def cs_82 : aH := nw cs_81 49 1 0 3
theorem gn_82 : gN cs_82 = 50 := rfl
theorem dX0_init_0 : decode cX0_init 0 = .ok (.aload_n 0, 1) := by decide +kernel
theorem dX0_init_1 : decode cX0_init 1 = .ok (.invokespecial 3, 3) := by decide +kernel
theorem dX0_init_4 : decode cX0_init 4 = .ok (.aload_n 0, 1) := by decide +kernel
theorem dX0_init_5 : decode cX0_init 5 = .ok (.bipush 20, 2) := by decide +kernel
theorem dX0_init_7 : decode cX0_init 7 = .ok (.newarray .int, 2) := by decide +kernel
theorem dX0_init_9 : decode cX0_init 9 = .ok (.putfield 9, 3) := by decide +kernel
theorem dX0_init_12 : decode cX0_init 12 = .ok (.aload_n 0, 1) := by decide +kernel
theorem dX0_init_13 : decode cX0_init 13 = .ok (.bipush 20, 2) := by decide +kernel
theorem dX0_init_15 : decode cX0_init 15 = .ok (.newarray .int, 2) := by decide +kernel
theorem dX0_init_17 : decode cX0_init 17 = .ok (.putfield 15, 3) := by decide +kernel
theorem dX0_init_20 : decode cX0_init 20 = .ok (.aload_n 0, 1) := by decide +kernel
theorem dX0_init_21 : decode cX0_init 21 = .ok (.iconst 0, 1) := by decide +kernel
theorem dX0_init_22 : decode cX0_init 22 = .ok (.putfield 18, 3) := by decide +kernel
theorem dX0_init_25 : decode cX0_init 25 = .ok (.return_, 1) := by decide +kernel
theorem no_0_3 : Cond.methodLink (cn 0) 3 objectInit ∈ lw_tbl := List.mem_of_getElem? (i := 364) (by decide +kernel)
def cs_83 : aH := nw cs_82 50 101 20 20
theorem gn_83 : gN cs_83 = 51 := rfl
def cs_84 : aH := sR cs_83 49 0 (some 50)
theorem gn_84 : gN cs_84 = 51 := rfl
def cs_85 : aH := nw cs_84 51 101 20 20
theorem gn_85 : gN cs_85 = 52 := rfl
def cs_86 : aH := sR cs_85 49 1 (some 51)
theorem gn_86 : gN cs_86 = 52 := rfl
def cs_87 : aH := sI cs_86 49 2 (nZ 0)
theorem gn_87 : gN cs_87 = 52 := rfl
set_option maxRecDepth 10000 in
theorem ev_X0_init_49 {sc : Nat × (Nat → Int32)} {d : Nat} : Ev sc (d + 1) mX0_init [.ref 49] cs_82 (.inl none) cs_87 := by
  refine T.ev (T.of (d := d) (c := 0) (code := cX0_init) (mL := 1) (rt := none) (ini := true) (l := [(0, .ref 49)]) rfl rfl rfl rfl (by decide) hs_X0_init rfl rfl ?_)
  refine w_aload_n dX0_init_0 rfl (List.Mem.head _) ?_
  refine w_objI dX0_init_1 no_0_3 (Nat.le_of_ble_eq_true rfl) ?_
  refine w_aload_n dX0_init_4 rfl (List.Mem.head _) ?_
  refine w_bipush (v := nZ 20) dX0_init_5 (by decide) ?_
  refine c_newaI (a := 50) (m := 20) gn_82 (by decide) (show _ = cs_83 from rfl) dX0_init_7 rfl (by decide) (by decide) ?_
  refine c_putR (ci := 0) (k := 0) (show _ = cs_84 from rfl) dX0_init_9 fl_0_9 (by decide) ⟨rfl, rfl⟩ (by decide +kernel) ?_
  refine w_aload_n dX0_init_12 rfl (List.Mem.head _) ?_
  refine w_bipush (v := nZ 20) dX0_init_13 (by decide) ?_
  refine c_newaI (a := 51) (m := 20) gn_84 (by decide) (show _ = cs_85 from rfl) dX0_init_15 rfl (by decide) (by decide) ?_
  refine c_putR (ci := 0) (k := 1) (show _ = cs_86 from rfl) dX0_init_17 fl_0_15 (by decide) ⟨rfl, rfl⟩ (by decide +kernel) ?_
  refine w_aload_n dX0_init_20 rfl (List.Mem.head _) ?_
  refine w_iconst (v := nZ 0) dX0_init_21 (by decide) ?_
  refine c_putI (ci := 0) (k := 2) (show _ = cs_87 from rfl) dX0_init_22 fl_0_18 (by decide) (by decide +kernel) ?_
  exact w_vret dX0_init_25 rfl ⟨rfl, rfl⟩
def cs_88 : aH := sR cs_87 39 1 (some 49)
theorem gn_88 : gN cs_88 = 52 := rfl
def cs_89 : aH := nw cs_88 52 1 0 3
theorem gn_89 : gN cs_89 = 53 := rfl
def cs_90 : aH := nw cs_89 53 101 20 20
theorem gn_90 : gN cs_90 = 54 := rfl
def cs_91 : aH := sR cs_90 52 0 (some 53)
theorem gn_91 : gN cs_91 = 54 := rfl
def cs_92 : aH := nw cs_91 54 101 20 20
theorem gn_92 : gN cs_92 = 55 := rfl
def cs_93 : aH := sR cs_92 52 1 (some 54)
theorem gn_93 : gN cs_93 = 55 := rfl
def cs_94 : aH := sI cs_93 52 2 (nZ 0)
theorem gn_94 : gN cs_94 = 55 := rfl
set_option maxRecDepth 10000 in
theorem ev_X0_init_52 {sc : Nat × (Nat → Int32)} {d : Nat} : Ev sc (d + 1) mX0_init [.ref 52] cs_89 (.inl none) cs_94 := by
  refine T.ev (T.of (d := d) (c := 0) (code := cX0_init) (mL := 1) (rt := none) (ini := true) (l := [(0, .ref 52)]) rfl rfl rfl rfl (by decide) hs_X0_init rfl rfl ?_)
  refine w_aload_n dX0_init_0 rfl (List.Mem.head _) ?_
  refine w_objI dX0_init_1 no_0_3 (Nat.le_of_ble_eq_true rfl) ?_
  refine w_aload_n dX0_init_4 rfl (List.Mem.head _) ?_
  refine w_bipush (v := nZ 20) dX0_init_5 (by decide) ?_
  refine c_newaI (a := 53) (m := 20) gn_89 (by decide) (show _ = cs_90 from rfl) dX0_init_7 rfl (by decide) (by decide) ?_
  refine c_putR (ci := 0) (k := 0) (show _ = cs_91 from rfl) dX0_init_9 fl_0_9 (by decide) ⟨rfl, rfl⟩ (by decide +kernel) ?_
  refine w_aload_n dX0_init_12 rfl (List.Mem.head _) ?_
  refine w_bipush (v := nZ 20) dX0_init_13 (by decide) ?_
  refine c_newaI (a := 54) (m := 20) gn_91 (by decide) (show _ = cs_92 from rfl) dX0_init_15 rfl (by decide) (by decide) ?_
  refine c_putR (ci := 0) (k := 1) (show _ = cs_93 from rfl) dX0_init_17 fl_0_15 (by decide) ⟨rfl, rfl⟩ (by decide +kernel) ?_
  refine w_aload_n dX0_init_20 rfl (List.Mem.head _) ?_
  refine w_iconst (v := nZ 0) dX0_init_21 (by decide) ?_
  refine c_putI (ci := 0) (k := 2) (show _ = cs_94 from rfl) dX0_init_22 fl_0_18 (by decide) (by decide +kernel) ?_
  exact w_vret dX0_init_25 rfl ⟨rfl, rfl⟩
def cs_95 : aH := sR cs_94 39 2 (some 52)
theorem gn_95 : gN cs_95 = 55 := rfl
def cs_96 : aH := sI cs_95 40 8 (nZ 0)
theorem gn_96 : gN cs_96 = 55 := rfl
def cs_97 : aH := sI cs_96 49 2 (nZ 0)
theorem gn_97 : gN cs_97 = 55 := rfl
def cs_98 : aH := sI cs_97 52 2 (nZ 0)
theorem gn_98 : gN cs_98 = 55 := rfl
def cs_99 : aH := sI cs_98 39 3 (nZ 6)
theorem gn_99 : gN cs_99 = 55 := rfl
def cs_100 : aH := sI cs_99 39 4 (nZ 4)
theorem gn_100 : gN cs_100 = 55 := rfl
def cs_101 : aH := sI cs_100 39 5 (nZ 1440)
theorem gn_101 : gN cs_101 = 55 := rfl
def cs_102 : aH := sI cs_101 39 6 (nZ 1440)
theorem gn_102 : gN cs_102 = 55 := rfl
def cs_103 : aH := sI cs_102 39 7 (nZ 0)
theorem gn_103 : gN cs_103 = 55 := rfl
def cs_104 : aH := sI cs_103 39 8 (nZ 0)
theorem gn_104 : gN cs_104 = 55 := rfl
def cs_105 : aH := sI cs_104 39 9 (nZ 0)
theorem gn_105 : gN cs_105 = 55 := rfl
set_option maxRecDepth 10000 in
theorem ev_X2_clear_39 {sc : Nat × (Nat → Int32)} {d : Nat} : Ev sc (d + 1) mX2_clear [.ref 39] cs_95 (.inl none) cs_105 := by
  refine T.ev (T.of (d := d) (c := 2) (code := cX2_clear) (mL := 1) (rt := none) (ini := false) (l := [(0, .ref 39)]) rfl rfl rfl rfl (by decide) hs_X2_clear rfl rfl ?_)
  refine w_aload_n dX2_clear_0 rfl (List.Mem.head _) ?_
  refine w_getR (ci := 2) (k := 0) (b := 40) dX2_clear_1 fl_2_12 (by decide) (by decide +kernel) (by decide +kernel) ?_
  refine w_iconst (v := nZ 0) dX2_clear_4 (by decide) ?_
  refine c_putI (ci := 7) (k := 8) (show _ = cs_96 from rfl) dX2_clear_5 fl_2_31 (by decide) (by decide +kernel) ?_
  refine w_aload_n dX2_clear_8 rfl (List.Mem.head _) ?_
  refine w_getR (ci := 2) (k := 1) (b := 49) dX2_clear_9 fl_2_21 (by decide) (by decide +kernel) (by decide +kernel) ?_
  refine w_iconst (v := nZ 0) dX2_clear_12 (by decide) ?_
  refine c_putI (ci := 0) (k := 2) (show _ = cs_97 from rfl) dX2_clear_13 fl_2_35 (by decide) (by decide +kernel) ?_
  refine w_aload_n dX2_clear_16 rfl (List.Mem.head _) ?_
  refine w_getR (ci := 2) (k := 2) (b := 52) dX2_clear_17 fl_2_25 (by decide) (by decide +kernel) (by decide +kernel) ?_
  refine w_iconst (v := nZ 0) dX2_clear_20 (by decide) ?_
  refine c_putI (ci := 0) (k := 2) (show _ = cs_98 from rfl) dX2_clear_21 fl_2_35 (by decide) (by decide +kernel) ?_
  refine w_aload_n dX2_clear_24 rfl (List.Mem.head _) ?_
  refine w_bipush (v := nZ 6) dX2_clear_25 (by decide) ?_
  refine c_putI (ci := 2) (k := 3) (show _ = cs_99 from rfl) dX2_clear_27 fl_2_36 (by decide) (by decide +kernel) ?_
  refine w_aload_n dX2_clear_30 rfl (List.Mem.head _) ?_
  refine w_iconst (v := nZ 4) dX2_clear_31 (by decide) ?_
  refine c_putI (ci := 2) (k := 4) (show _ = cs_100 from rfl) dX2_clear_32 fl_2_39 (by decide) (by decide +kernel) ?_
  refine w_aload_n dX2_clear_35 rfl (List.Mem.head _) ?_
  refine w_sipush (v := nZ 1440) dX2_clear_36 (by decide) ?_
  refine c_putI (ci := 2) (k := 5) (show _ = cs_101 from rfl) dX2_clear_39 fl_2_42 (by decide) (by decide +kernel) ?_
  refine w_aload_n dX2_clear_42 rfl (List.Mem.head _) ?_
  refine w_sipush (v := nZ 1440) dX2_clear_43 (by decide) ?_
  refine c_putI (ci := 2) (k := 6) (show _ = cs_102 from rfl) dX2_clear_46 fl_2_45 (by decide) (by decide +kernel) ?_
  refine w_aload_n dX2_clear_49 rfl (List.Mem.head _) ?_
  refine w_iconst (v := nZ 0) dX2_clear_50 (by decide) ?_
  refine c_putI (ci := 2) (k := 7) (show _ = cs_103 from rfl) dX2_clear_51 fl_2_48 (by decide) (by decide +kernel) ?_
  refine w_aload_n dX2_clear_54 rfl (List.Mem.head _) ?_
  refine w_iconst (v := nZ 0) dX2_clear_55 (by decide) ?_
  refine c_putI (ci := 2) (k := 8) (show _ = cs_104 from rfl) dX2_clear_56 fl_2_51 (by decide) (by decide +kernel) ?_
  refine w_aload_n dX2_clear_59 rfl (List.Mem.head _) ?_
  refine w_iconst (v := nZ 0) dX2_clear_60 (by decide) ?_
  refine c_putI (ci := 2) (k := 9) (show _ = cs_105 from rfl) dX2_clear_61 fl_2_54 (by decide) (by decide +kernel) ?_
  exact w_vret dX2_clear_64 rfl ⟨rfl, rfl⟩
set_option maxRecDepth 10000 in
theorem ev_X2_init_39 {sc : Nat × (Nat → Int32)} {d : Nat} : Ev sc (d + 2) mX2_init [.ref 39] cs_61 (.inl none) cs_105 := by
  refine T.ev (T.of (d := d + 1) (c := 2) (code := cX2_init) (mL := 1) (rt := none) (ini := true) (l := [(0, .ref 39)]) rfl rfl rfl rfl (by decide) hs_X2_init rfl rfl ?_)
  refine w_aload_n dX2_init_0 rfl (List.Mem.head _) ?_
  refine w_objI dX2_init_1 no_2_3 (Nat.le_of_ble_eq_true rfl) ?_
  refine w_aload_n dX2_init_4 rfl (List.Mem.head _) ?_
  refine c_new (ci := 7) (a := 40) gn_61 (show _ = cs_62 from rfl) dX2_init_5 nl_2_9 (by decide) ?_
  refine w_dup dX2_init_8 rfl ?_
  refine w_callI dX2_init_9 ml_2_11 ⟨ok_X7_init, in_X7_init⟩ hs_X7_init (As := []) rfl rfl (Nat.le_of_ble_eq_true rfl) (ev_X7_init_40 (d := d)) ?_
  refine c_putR (ci := 2) (k := 0) (show _ = cs_81 from rfl) dX2_init_12 fl_2_12 (by decide) ⟨rfl, rfl⟩ (by decide +kernel) ?_
  refine w_aload_n dX2_init_15 rfl (List.Mem.head _) ?_
  refine c_new (ci := 0) (a := 49) gn_81 (show _ = cs_82 from rfl) dX2_init_16 nl_2_18 (by decide) ?_
  refine w_dup dX2_init_19 rfl ?_
  refine w_callI dX2_init_20 ml_2_20 ⟨ok_X0_init, in_X0_init⟩ hs_X0_init (As := []) rfl rfl (Nat.le_of_ble_eq_true rfl) (ev_X0_init_49 (d := d)) ?_
  refine c_putR (ci := 2) (k := 1) (show _ = cs_88 from rfl) dX2_init_23 fl_2_21 (by decide) ⟨rfl, rfl⟩ (by decide +kernel) ?_
  refine w_aload_n dX2_init_26 rfl (List.Mem.head _) ?_
  refine c_new (ci := 0) (a := 52) gn_88 (show _ = cs_89 from rfl) dX2_init_27 nl_2_18 (by decide) ?_
  refine w_dup dX2_init_30 rfl ?_
  refine w_callI dX2_init_31 ml_2_20 ⟨ok_X0_init, in_X0_init⟩ hs_X0_init (As := []) rfl rfl (Nat.le_of_ble_eq_true rfl) (ev_X0_init_52 (d := d)) ?_
  refine c_putR (ci := 2) (k := 2) (show _ = cs_95 from rfl) dX2_init_34 fl_2_25 (by decide) ⟨rfl, rfl⟩ (by decide +kernel) ?_
  refine w_aload_n dX2_init_37 rfl (List.Mem.head _) ?_
  refine w_callV dX2_init_38 ml_2_28 ⟨ok_X2_clear, vi_X2_clear⟩ hs_X2_clear (As := []) rfl rfl (by decide +kernel) (Nat.le_of_ble_eq_true rfl) (ev_X2_clear_39 (d := d)) ?_
  show wp _ 2 cX2_init 1 none true [] sc _ 41 [(0, .ref 39)] [] cs_105
  exact w_vret dX2_init_41 rfl ⟨rfl, rfl⟩
def cs_106 : aH := sM cs_105 27 5 (some 39)
theorem gn_106 : gN cs_106 = 55 := rfl
set_option maxRecDepth 10000 in
theorem ev_X6_init_27 {sc : Nat × (Nat → Int32)} {d : Nat} : Ev sc (d + 3) mX6_init [.ref 27] cs_38 (.inl none) cs_106 := by
  refine T.ev (T.of (d := d + 2) (c := 6) (code := cX6_init) (mL := 1) (rt := none) (ini := true) (l := [(0, .ref 27)]) rfl rfl rfl rfl (by decide) hs_X6_init rfl rfl ?_)
  refine w_aload_n dX6_init_0 rfl (List.Mem.head _) ?_
  refine w_objI dX6_init_1 no_6_3 (Nat.le_of_ble_eq_true rfl) ?_
  refine w_aload_n dX6_init_4 rfl (List.Mem.head _) ?_
  refine c_new (ci := 8) (a := 28) gn_38 (show _ = cs_39 from rfl) dX6_init_5 nl_6_9 (by decide) ?_
  refine w_dup dX6_init_8 rfl ?_
  refine w_callI dX6_init_9 ml_6_11 ⟨ok_X8_init, in_X8_init⟩ hs_X8_init (As := []) rfl rfl (Nat.le_of_ble_eq_true rfl) (ev_X8_init_28 (d := d + 1)) ?_
  refine c_putR (ci := 6) (k := 0) (show _ = cs_44 from rfl) dX6_init_12 fl_6_12 (by decide) ⟨rfl, rfl⟩ (by decide +kernel) ?_
  refine w_aload_n dX6_init_15 rfl (List.Mem.head _) ?_
  refine c_new (ci := 8) (a := 31) gn_44 (show _ = cs_45 from rfl) dX6_init_16 nl_6_9 (by decide) ?_
  refine w_dup dX6_init_19 rfl ?_
  refine w_callI dX6_init_20 ml_6_11 ⟨ok_X8_init, in_X8_init⟩ hs_X8_init (As := []) rfl rfl (Nat.le_of_ble_eq_true rfl) (ev_X8_init_31 (d := d + 1)) ?_
  refine c_putR (ci := 6) (k := 1) (show _ = cs_50 from rfl) dX6_init_23 fl_6_18 (by decide) ⟨rfl, rfl⟩ (by decide +kernel) ?_
  refine w_aload_n dX6_init_26 rfl (List.Mem.head _) ?_
  refine c_new (ci := 8) (a := 34) gn_50 (show _ = cs_51 from rfl) dX6_init_27 nl_6_9 (by decide) ?_
  refine w_dup dX6_init_30 rfl ?_
  refine w_callI dX6_init_31 ml_6_11 ⟨ok_X8_init, in_X8_init⟩ hs_X8_init (As := []) rfl rfl (Nat.le_of_ble_eq_true rfl) (ev_X8_init_34 (d := d + 1)) ?_
  refine c_putR (ci := 6) (k := 2) (show _ = cs_56 from rfl) dX6_init_34 fl_6_21 (by decide) ⟨rfl, rfl⟩ (by decide +kernel) ?_
  refine w_aload_n dX6_init_37 rfl (List.Mem.head _) ?_
  refine w_bipush (v := nZ 9) dX6_init_38 (by decide) ?_
  refine c_newaI (a := 37) (m := 9) gn_56 (by decide) (show _ = cs_57 from rfl) dX6_init_40 rfl (by decide) (by decide) ?_
  refine c_putR (ci := 6) (k := 3) (show _ = cs_58 from rfl) dX6_init_42 fl_6_24 (by decide) ⟨rfl, rfl⟩ (by decide +kernel) ?_
  refine w_aload_n dX6_init_45 rfl (List.Mem.head _) ?_
  refine w_bipush (v := nZ 24) dX6_init_46 (by decide) ?_
  refine c_newaI (a := 38) (m := 24) gn_58 (by decide) (show _ = cs_59 from rfl) dX6_init_48 rfl (by decide) (by decide) ?_
  refine c_putR (ci := 6) (k := 4) (show _ = cs_60 from rfl) dX6_init_50 fl_6_28 (by decide) ⟨rfl, rfl⟩ (by decide +kernel) ?_
  refine w_aload_n dX6_init_53 rfl (List.Mem.head _) ?_
  refine c_new (ci := 2) (a := 39) gn_60 (show _ = cs_61 from rfl) dX6_init_54 nl_6_31 (by decide) ?_
  refine w_dup dX6_init_57 rfl ?_
  refine w_callI dX6_init_58 ml_6_33 ⟨ok_X2_init, in_X2_init⟩ hs_X2_init (As := []) rfl rfl (Nat.le_of_ble_eq_true rfl) (ev_X2_init_39 (d := d)) ?_
  refine c_putM (ci := 6) (k := 5) (show _ = cs_106 from rfl) dX6_init_61 fl_6_34 (by decide) (by decide +kernel) ?_
  exact w_vret dX6_init_64 rfl ⟨rfl, rfl⟩
def cs_107 : aH := sR cs_106 26 0 (some 27)
theorem gn_107 : gN cs_107 = 55 := rfl
def cs_108 : aH := nw cs_107 55 101 9 9
theorem gn_108 : gN cs_108 = 56 := rfl
def cs_109 : aH := sR cs_108 26 1 (some 55)
theorem gn_109 : gN cs_109 = 56 := rfl
def cs_110 : aH := nw cs_109 56 101 9 9
theorem gn_110 : gN cs_110 = 57 := rfl
def cs_111 : aH := sR cs_110 26 2 (some 56)
theorem gn_111 : gN cs_111 = 57 := rfl
def cs_112 : aH := nw cs_111 57 101 9 9
theorem gn_112 : gN cs_112 = 58 := rfl
def cs_113 : aH := sR cs_112 26 3 (some 57)
theorem gn_113 : gN cs_113 = 58 := rfl
def cs_114 : aH := nw cs_113 58 101 9 9
theorem gn_114 : gN cs_114 = 59 := rfl
def cs_115 : aH := sR cs_114 26 4 (some 58)
theorem gn_115 : gN cs_115 = 59 := rfl
def cs_116 : aH := nw cs_115 59 103 21 21
theorem gn_116 : gN cs_116 = 60 := rfl
def cs_117 : aH := sR cs_116 26 5 (some 59)
theorem gn_117 : gN cs_117 = 60 := rfl
def cs_118 : aH := sI cs_117 26 6 (nZ 0)
theorem gn_118 : gN cs_118 = 60 := rfl
def cs_119 : aH := sI cs_118 26 7 (nZ (-1))
theorem gn_119 : gN cs_119 = 60 := rfl
def cs_120 : aH := sI cs_119 26 8 (nZ 0)
theorem gn_120 : gN cs_120 = 60 := rfl
def cs_121 : aH := sI cs_120 26 9 (nZ 0)
theorem gn_121 : gN cs_121 = 60 := rfl
def cs_122 : aH := sI cs_121 26 10 (nZ 0)
theorem gn_122 : gN cs_122 = 60 := rfl
def cs_123 : aH := sI cs_122 26 11 (nZ (-1))
theorem gn_123 : gN cs_123 = 60 := rfl
def cs_124 : aH := sI cs_123 26 12 (nZ 0)
theorem gn_124 : gN cs_124 = 60 := rfl
set_option maxRecDepth 10000 in
theorem ev_X4_init_26 {sc : Nat × (Nat → Int32)} {d : Nat} : Ev sc (d + 4) mX4_init [.ref 26] cs_37 (.inl none) cs_124 := by
  refine T.ev (T.of (d := d + 3) (c := 4) (code := cX4_init) (mL := 1) (rt := none) (ini := true) (l := [(0, .ref 26)]) rfl rfl rfl rfl (by decide) hs_X4_init rfl rfl ?_)
  refine w_aload_n dX4_init_0 rfl (List.Mem.head _) ?_
  refine w_objI dX4_init_1 no_4_3 (Nat.le_of_ble_eq_true rfl) ?_
  refine w_aload_n dX4_init_4 rfl (List.Mem.head _) ?_
  refine c_new (ci := 6) (a := 27) gn_37 (show _ = cs_38 from rfl) dX4_init_5 nl_4_9 (by decide) ?_
  refine w_dup dX4_init_8 rfl ?_
  refine w_callI dX4_init_9 ml_4_11 ⟨ok_X6_init, in_X6_init⟩ hs_X6_init (As := []) rfl rfl (Nat.le_of_ble_eq_true rfl) (ev_X6_init_27 (d := d)) ?_
  refine c_putR (ci := 4) (k := 0) (show _ = cs_107 from rfl) dX4_init_12 fl_4_12 (by decide) ⟨rfl, rfl⟩ (by decide +kernel) ?_
  refine w_aload_n dX4_init_15 rfl (List.Mem.head _) ?_
  refine w_bipush (v := nZ 9) dX4_init_16 (by decide) ?_
  refine c_newaI (a := 55) (m := 9) gn_107 (by decide) (show _ = cs_108 from rfl) dX4_init_18 rfl (by decide) (by decide) ?_
  refine c_putR (ci := 4) (k := 1) (show _ = cs_109 from rfl) dX4_init_20 fl_4_18 (by decide) ⟨rfl, rfl⟩ (by decide +kernel) ?_
  refine w_aload_n dX4_init_23 rfl (List.Mem.head _) ?_
  refine w_bipush (v := nZ 9) dX4_init_24 (by decide) ?_
  refine c_newaI (a := 56) (m := 9) gn_109 (by decide) (show _ = cs_110 from rfl) dX4_init_26 rfl (by decide) (by decide) ?_
  refine c_putR (ci := 4) (k := 2) (show _ = cs_111 from rfl) dX4_init_28 fl_4_22 (by decide) ⟨rfl, rfl⟩ (by decide +kernel) ?_
  refine w_aload_n dX4_init_31 rfl (List.Mem.head _) ?_
  refine w_bipush (v := nZ 9) dX4_init_32 (by decide) ?_
  refine c_newaI (a := 57) (m := 9) gn_111 (by decide) (show _ = cs_112 from rfl) dX4_init_34 rfl (by decide) (by decide) ?_
  refine c_putR (ci := 4) (k := 3) (show _ = cs_113 from rfl) dX4_init_36 fl_4_25 (by decide) ⟨rfl, rfl⟩ (by decide +kernel) ?_
  refine w_aload_n dX4_init_39 rfl (List.Mem.head _) ?_
  refine w_bipush (v := nZ 9) dX4_init_40 (by decide) ?_
  refine c_newaI (a := 58) (m := 9) gn_113 (by decide) (show _ = cs_114 from rfl) dX4_init_42 rfl (by decide) (by decide) ?_
  refine c_putR (ci := 4) (k := 4) (show _ = cs_115 from rfl) dX4_init_44 fl_4_28 (by decide) ⟨rfl, rfl⟩ (by decide +kernel) ?_
  refine w_aload_n dX4_init_47 rfl (List.Mem.head _) ?_
  refine w_bipush (v := nZ 21) dX4_init_48 (by decide) ?_
  refine c_newaJ (a := 59) (m := 21) gn_115 (by decide) (show _ = cs_116 from rfl) dX4_init_50 rfl (by decide) (by decide) ?_
  refine c_putR (ci := 4) (k := 5) (show _ = cs_117 from rfl) dX4_init_52 fl_4_31 (by decide) ⟨rfl, rfl⟩ (by decide +kernel) ?_
  refine w_aload_n dX4_init_55 rfl (List.Mem.head _) ?_
  refine w_iconst (v := nZ 0) dX4_init_56 (by decide) ?_
  refine c_putI (ci := 4) (k := 6) (show _ = cs_118 from rfl) dX4_init_57 fl_4_35 (by decide) (by decide +kernel) ?_
  refine w_aload_n dX4_init_60 rfl (List.Mem.head _) ?_
  refine w_iconst (v := nZ (-1)) dX4_init_61 (by decide) ?_
  refine c_putI (ci := 4) (k := 7) (show _ = cs_119 from rfl) dX4_init_62 fl_4_39 (by decide) (by decide +kernel) ?_
  refine w_aload_n dX4_init_65 rfl (List.Mem.head _) ?_
  refine w_iconst (v := nZ 0) dX4_init_66 (by decide) ?_
  refine c_putI (ci := 4) (k := 8) (show _ = cs_120 from rfl) dX4_init_67 fl_4_42 (by decide) (by decide +kernel) ?_
  refine w_aload_n dX4_init_70 rfl (List.Mem.head _) ?_
  refine w_iconst (v := nZ 0) dX4_init_71 (by decide) ?_
  refine c_putI (ci := 4) (k := 9) (show _ = cs_121 from rfl) dX4_init_72 fl_4_45 (by decide) (by decide +kernel) ?_
  refine w_aload_n dX4_init_75 rfl (List.Mem.head _) ?_
  refine w_iconst (v := nZ 0) dX4_init_76 (by decide) ?_
  refine c_putI (ci := 4) (k := 10) (show _ = cs_122 from rfl) dX4_init_77 fl_4_48 (by decide) (by decide +kernel) ?_
  refine w_aload_n dX4_init_80 rfl (List.Mem.head _) ?_
  refine w_iconst (v := nZ (-1)) dX4_init_81 (by decide) ?_
  refine c_putI (ci := 4) (k := 11) (show _ = cs_123 from rfl) dX4_init_82 fl_4_51 (by decide) (by decide +kernel) ?_
  refine w_aload_n dX4_init_85 rfl (List.Mem.head _) ?_
  refine w_iconst (v := nZ 0) dX4_init_86 (by decide) ?_
  refine c_putI (ci := 4) (k := 12) (show _ = cs_124 from rfl) dX4_init_87 fl_4_54 (by decide) (by decide +kernel) ?_
  exact w_vret dX4_init_90 rfl ⟨rfl, rfl⟩
def cs_125 : aH := sR cs_124 0 3 (some 26)
theorem gn_125 : gN cs_125 = 60 := rfl
def cs_126 : aH := sR cs_125 0 4 (some 27)
theorem gn_126 : gN cs_126 = 60 := rfl
def cs_127 : aH := sM cs_126 0 5 (some 39)
theorem gn_127 : gN cs_127 = 60 := rfl
theorem nl_9_49 : Cond.classLink (cn 9) 49 (cn 2) ∈ lw_tbl ∧ Cond.instantiable (cn 2) (cN 2) ∈ lw_tbl ∧ Cond.initialized (cn 2) ∈ lw_tbl := ⟨List.mem_of_getElem? (i := 518) (by decide +kernel), List.mem_of_getElem? (i := 282) (by decide +kernel), List.mem_of_getElem? (i := 147) (by decide +kernel)⟩
def cs_128 : aH := nw cs_127 60 3 0 10
theorem gn_128 : gN cs_128 = 61 := rfl
def cs_129 : aH := nw cs_128 61 8 0 10
theorem gn_129 : gN cs_129 = 62 := rfl
def cs_130 : aH := nw cs_129 62 101 9 9
theorem gn_130 : gN cs_130 = 63 := rfl
def cs_131 : aH := sR cs_130 61 0 (some 62)
theorem gn_131 : gN cs_131 = 63 := rfl
def cs_132 : aH := nw cs_131 63 101 9 9
theorem gn_132 : gN cs_132 = 64 := rfl
def cs_133 : aH := sR cs_132 61 1 (some 63)
theorem gn_133 : gN cs_133 = 64 := rfl
def cs_134 : aH := nw cs_133 64 101 9 9
theorem gn_134 : gN cs_134 = 65 := rfl
def cs_135 : aH := sR cs_134 61 2 (some 64)
theorem gn_135 : gN cs_135 = 65 := rfl
def cs_136 : aH := nw cs_135 65 101 9 9
theorem gn_136 : gN cs_136 = 66 := rfl
def cs_137 : aH := sR cs_136 61 3 (some 65)
theorem gn_137 : gN cs_137 = 66 := rfl
def cs_138 : aH := nw cs_137 66 101 9 9
theorem gn_138 : gN cs_138 = 67 := rfl
def cs_139 : aH := sR cs_138 61 4 (some 66)
theorem gn_139 : gN cs_139 = 67 := rfl
def cs_140 : aH := nw cs_139 67 101 9 9
theorem gn_140 : gN cs_140 = 68 := rfl
def cs_141 : aH := sR cs_140 61 5 (some 67)
theorem gn_141 : gN cs_141 = 68 := rfl
def cs_142 : aH := nw cs_141 68 101 9 9
theorem gn_142 : gN cs_142 = 69 := rfl
def cs_143 : aH := sR cs_142 61 6 (some 68)
theorem gn_143 : gN cs_143 = 69 := rfl
def cs_144 : aH := nw cs_143 69 101 9 9
theorem gn_144 : gN cs_144 = 70 := rfl
def cs_145 : aH := sR cs_144 61 7 (some 69)
theorem gn_145 : gN cs_145 = 70 := rfl
def cs_146 : aH := sI cs_145 61 8 (nZ 0)
theorem gn_146 : gN cs_146 = 70 := rfl
def cs_147 : aH := sI cs_146 61 9 (nZ (-1))
theorem gn_147 : gN cs_147 = 70 := rfl
set_option maxRecDepth 10000 in
theorem ev_X7_init_61 {sc : Nat × (Nat → Int32)} {d : Nat} : Ev sc (d + 1) mX7_init [.ref 61] cs_129 (.inl none) cs_147 := by
  refine T.ev (T.of (d := d) (c := 7) (code := cX7_init) (mL := 1) (rt := none) (ini := true) (l := [(0, .ref 61)]) rfl rfl rfl rfl (by decide) hs_X7_init rfl rfl ?_)
  refine w_aload_n dX7_init_0 rfl (List.Mem.head _) ?_
  refine w_objI dX7_init_1 no_7_3 (Nat.le_of_ble_eq_true rfl) ?_
  refine w_aload_n dX7_init_4 rfl (List.Mem.head _) ?_
  refine w_bipush (v := nZ 9) dX7_init_5 (by decide) ?_
  refine c_newaI (a := 62) (m := 9) gn_129 (by decide) (show _ = cs_130 from rfl) dX7_init_7 rfl (by decide) (by decide) ?_
  refine c_putR (ci := 7) (k := 0) (show _ = cs_131 from rfl) dX7_init_9 fl_7_9 (by decide) ⟨rfl, rfl⟩ (by decide +kernel) ?_
  refine w_aload_n dX7_init_12 rfl (List.Mem.head _) ?_
  refine w_bipush (v := nZ 9) dX7_init_13 (by decide) ?_
  refine c_newaI (a := 63) (m := 9) gn_131 (by decide) (show _ = cs_132 from rfl) dX7_init_15 rfl (by decide) (by decide) ?_
  refine c_putR (ci := 7) (k := 1) (show _ = cs_133 from rfl) dX7_init_17 fl_7_15 (by decide) ⟨rfl, rfl⟩ (by decide +kernel) ?_
  refine w_aload_n dX7_init_20 rfl (List.Mem.head _) ?_
  refine w_bipush (v := nZ 9) dX7_init_21 (by decide) ?_
  refine c_newaI (a := 64) (m := 9) gn_133 (by decide) (show _ = cs_134 from rfl) dX7_init_23 rfl (by decide) (by decide) ?_
  refine c_putR (ci := 7) (k := 2) (show _ = cs_135 from rfl) dX7_init_25 fl_7_18 (by decide) ⟨rfl, rfl⟩ (by decide +kernel) ?_
  refine w_aload_n dX7_init_28 rfl (List.Mem.head _) ?_
  refine w_bipush (v := nZ 9) dX7_init_29 (by decide) ?_
  refine c_newaI (a := 65) (m := 9) gn_135 (by decide) (show _ = cs_136 from rfl) dX7_init_31 rfl (by decide) (by decide) ?_
  refine c_putR (ci := 7) (k := 3) (show _ = cs_137 from rfl) dX7_init_33 fl_7_21 (by decide) ⟨rfl, rfl⟩ (by decide +kernel) ?_
  refine w_aload_n dX7_init_36 rfl (List.Mem.head _) ?_
  refine w_bipush (v := nZ 9) dX7_init_37 (by decide) ?_
  refine c_newaI (a := 66) (m := 9) gn_137 (by decide) (show _ = cs_138 from rfl) dX7_init_39 rfl (by decide) (by decide) ?_
  refine c_putR (ci := 7) (k := 4) (show _ = cs_139 from rfl) dX7_init_41 fl_7_24 (by decide) ⟨rfl, rfl⟩ (by decide +kernel) ?_
  refine w_aload_n dX7_init_44 rfl (List.Mem.head _) ?_
  refine w_bipush (v := nZ 9) dX7_init_45 (by decide) ?_
  refine c_newaI (a := 67) (m := 9) gn_139 (by decide) (show _ = cs_140 from rfl) dX7_init_47 rfl (by decide) (by decide) ?_
  refine c_putR (ci := 7) (k := 5) (show _ = cs_141 from rfl) dX7_init_49 fl_7_27 (by decide) ⟨rfl, rfl⟩ (by decide +kernel) ?_
  refine w_aload_n dX7_init_52 rfl (List.Mem.head _) ?_
  refine w_bipush (v := nZ 9) dX7_init_53 (by decide) ?_
  refine c_newaI (a := 68) (m := 9) gn_141 (by decide) (show _ = cs_142 from rfl) dX7_init_55 rfl (by decide) (by decide) ?_
  refine c_putR (ci := 7) (k := 6) (show _ = cs_143 from rfl) dX7_init_57 fl_7_30 (by decide) ⟨rfl, rfl⟩ (by decide +kernel) ?_
  refine w_aload_n dX7_init_60 rfl (List.Mem.head _) ?_
  refine w_bipush (v := nZ 9) dX7_init_61 (by decide) ?_
  refine c_newaI (a := 69) (m := 9) gn_143 (by decide) (show _ = cs_144 from rfl) dX7_init_63 rfl (by decide) (by decide) ?_
  refine c_putR (ci := 7) (k := 7) (show _ = cs_145 from rfl) dX7_init_65 fl_7_33 (by decide) ⟨rfl, rfl⟩ (by decide +kernel) ?_
  refine w_aload_n dX7_init_68 rfl (List.Mem.head _) ?_
  refine w_iconst (v := nZ 0) dX7_init_69 (by decide) ?_
  refine c_putI (ci := 7) (k := 8) (show _ = cs_146 from rfl) dX7_init_70 fl_7_36 (by decide) (by decide +kernel) ?_
  refine w_aload_n dX7_init_73 rfl (List.Mem.head _) ?_
  refine w_iconst (v := nZ (-1)) dX7_init_74 (by decide) ?_
  refine c_putI (ci := 7) (k := 9) (show _ = cs_147 from rfl) dX7_init_75 fl_7_40 (by decide) (by decide +kernel) ?_
  exact w_vret dX7_init_78 rfl ⟨rfl, rfl⟩
def cs_148 : aH := sR cs_147 60 0 (some 61)
theorem gn_148 : gN cs_148 = 70 := rfl
def cs_149 : aH := nw cs_148 70 1 0 3
theorem gn_149 : gN cs_149 = 71 := rfl
def cs_150 : aH := nw cs_149 71 101 20 20
theorem gn_150 : gN cs_150 = 72 := rfl
def cs_151 : aH := sR cs_150 70 0 (some 71)
theorem gn_151 : gN cs_151 = 72 := rfl
def cs_152 : aH := nw cs_151 72 101 20 20
theorem gn_152 : gN cs_152 = 73 := rfl
def cs_153 : aH := sR cs_152 70 1 (some 72)
theorem gn_153 : gN cs_153 = 73 := rfl
def cs_154 : aH := sI cs_153 70 2 (nZ 0)
theorem gn_154 : gN cs_154 = 73 := rfl
set_option maxRecDepth 10000 in
theorem ev_X0_init_70 {sc : Nat × (Nat → Int32)} {d : Nat} : Ev sc (d + 1) mX0_init [.ref 70] cs_149 (.inl none) cs_154 := by
  refine T.ev (T.of (d := d) (c := 0) (code := cX0_init) (mL := 1) (rt := none) (ini := true) (l := [(0, .ref 70)]) rfl rfl rfl rfl (by decide) hs_X0_init rfl rfl ?_)
  refine w_aload_n dX0_init_0 rfl (List.Mem.head _) ?_
  refine w_objI dX0_init_1 no_0_3 (Nat.le_of_ble_eq_true rfl) ?_
  refine w_aload_n dX0_init_4 rfl (List.Mem.head _) ?_
  refine w_bipush (v := nZ 20) dX0_init_5 (by decide) ?_
  refine c_newaI (a := 71) (m := 20) gn_149 (by decide) (show _ = cs_150 from rfl) dX0_init_7 rfl (by decide) (by decide) ?_
  refine c_putR (ci := 0) (k := 0) (show _ = cs_151 from rfl) dX0_init_9 fl_0_9 (by decide) ⟨rfl, rfl⟩ (by decide +kernel) ?_
  refine w_aload_n dX0_init_12 rfl (List.Mem.head _) ?_
  refine w_bipush (v := nZ 20) dX0_init_13 (by decide) ?_
  refine c_newaI (a := 72) (m := 20) gn_151 (by decide) (show _ = cs_152 from rfl) dX0_init_15 rfl (by decide) (by decide) ?_
  refine c_putR (ci := 0) (k := 1) (show _ = cs_153 from rfl) dX0_init_17 fl_0_15 (by decide) ⟨rfl, rfl⟩ (by decide +kernel) ?_
  refine w_aload_n dX0_init_20 rfl (List.Mem.head _) ?_
  refine w_iconst (v := nZ 0) dX0_init_21 (by decide) ?_
  refine c_putI (ci := 0) (k := 2) (show _ = cs_154 from rfl) dX0_init_22 fl_0_18 (by decide) (by decide +kernel) ?_
  exact w_vret dX0_init_25 rfl ⟨rfl, rfl⟩
def cs_155 : aH := sR cs_154 60 1 (some 70)
theorem gn_155 : gN cs_155 = 73 := rfl
def cs_156 : aH := nw cs_155 73 1 0 3
theorem gn_156 : gN cs_156 = 74 := rfl
def cs_157 : aH := nw cs_156 74 101 20 20
theorem gn_157 : gN cs_157 = 75 := rfl
def cs_158 : aH := sR cs_157 73 0 (some 74)
theorem gn_158 : gN cs_158 = 75 := rfl
def cs_159 : aH := nw cs_158 75 101 20 20
theorem gn_159 : gN cs_159 = 76 := rfl
def cs_160 : aH := sR cs_159 73 1 (some 75)
theorem gn_160 : gN cs_160 = 76 := rfl
def cs_161 : aH := sI cs_160 73 2 (nZ 0)
theorem gn_161 : gN cs_161 = 76 := rfl
set_option maxRecDepth 10000 in
theorem ev_X0_init_73 {sc : Nat × (Nat → Int32)} {d : Nat} : Ev sc (d + 1) mX0_init [.ref 73] cs_156 (.inl none) cs_161 := by
  refine T.ev (T.of (d := d) (c := 0) (code := cX0_init) (mL := 1) (rt := none) (ini := true) (l := [(0, .ref 73)]) rfl rfl rfl rfl (by decide) hs_X0_init rfl rfl ?_)
  refine w_aload_n dX0_init_0 rfl (List.Mem.head _) ?_
  refine w_objI dX0_init_1 no_0_3 (Nat.le_of_ble_eq_true rfl) ?_
  refine w_aload_n dX0_init_4 rfl (List.Mem.head _) ?_
  refine w_bipush (v := nZ 20) dX0_init_5 (by decide) ?_
  refine c_newaI (a := 74) (m := 20) gn_156 (by decide) (show _ = cs_157 from rfl) dX0_init_7 rfl (by decide) (by decide) ?_
  refine c_putR (ci := 0) (k := 0) (show _ = cs_158 from rfl) dX0_init_9 fl_0_9 (by decide) ⟨rfl, rfl⟩ (by decide +kernel) ?_
  refine w_aload_n dX0_init_12 rfl (List.Mem.head _) ?_
  refine w_bipush (v := nZ 20) dX0_init_13 (by decide) ?_
  refine c_newaI (a := 75) (m := 20) gn_158 (by decide) (show _ = cs_159 from rfl) dX0_init_15 rfl (by decide) (by decide) ?_
  refine c_putR (ci := 0) (k := 1) (show _ = cs_160 from rfl) dX0_init_17 fl_0_15 (by decide) ⟨rfl, rfl⟩ (by decide +kernel) ?_
  refine w_aload_n dX0_init_20 rfl (List.Mem.head _) ?_
  refine w_iconst (v := nZ 0) dX0_init_21 (by decide) ?_
  refine c_putI (ci := 0) (k := 2) (show _ = cs_161 from rfl) dX0_init_22 fl_0_18 (by decide) (by decide +kernel) ?_
  exact w_vret dX0_init_25 rfl ⟨rfl, rfl⟩
def cs_162 : aH := sR cs_161 60 2 (some 73)
theorem gn_162 : gN cs_162 = 76 := rfl
def cs_163 : aH := sI cs_162 61 8 (nZ 0)
theorem gn_163 : gN cs_163 = 76 := rfl
def cs_164 : aH := sI cs_163 70 2 (nZ 0)
theorem gn_164 : gN cs_164 = 76 := rfl
def cs_165 : aH := sI cs_164 73 2 (nZ 0)
theorem gn_165 : gN cs_165 = 76 := rfl
def cs_166 : aH := sI cs_165 60 3 (nZ 6)
theorem gn_166 : gN cs_166 = 76 := rfl
def cs_167 : aH := sI cs_166 60 4 (nZ 4)
theorem gn_167 : gN cs_167 = 76 := rfl
def cs_168 : aH := sI cs_167 60 5 (nZ 1440)
theorem gn_168 : gN cs_168 = 76 := rfl
def cs_169 : aH := sI cs_168 60 6 (nZ 1440)
theorem gn_169 : gN cs_169 = 76 := rfl
def cs_170 : aH := sI cs_169 60 7 (nZ 0)
theorem gn_170 : gN cs_170 = 76 := rfl
def cs_171 : aH := sI cs_170 60 8 (nZ 0)
theorem gn_171 : gN cs_171 = 76 := rfl
def cs_172 : aH := sI cs_171 60 9 (nZ 0)
theorem gn_172 : gN cs_172 = 76 := rfl
set_option maxRecDepth 10000 in
theorem ev_X2_clear_60 {sc : Nat × (Nat → Int32)} {d : Nat} : Ev sc (d + 1) mX2_clear [.ref 60] cs_162 (.inl none) cs_172 := by
  refine T.ev (T.of (d := d) (c := 2) (code := cX2_clear) (mL := 1) (rt := none) (ini := false) (l := [(0, .ref 60)]) rfl rfl rfl rfl (by decide) hs_X2_clear rfl rfl ?_)
  refine w_aload_n dX2_clear_0 rfl (List.Mem.head _) ?_
  refine w_getR (ci := 2) (k := 0) (b := 61) dX2_clear_1 fl_2_12 (by decide) (by decide +kernel) (by decide +kernel) ?_
  refine w_iconst (v := nZ 0) dX2_clear_4 (by decide) ?_
  refine c_putI (ci := 7) (k := 8) (show _ = cs_163 from rfl) dX2_clear_5 fl_2_31 (by decide) (by decide +kernel) ?_
  refine w_aload_n dX2_clear_8 rfl (List.Mem.head _) ?_
  refine w_getR (ci := 2) (k := 1) (b := 70) dX2_clear_9 fl_2_21 (by decide) (by decide +kernel) (by decide +kernel) ?_
  refine w_iconst (v := nZ 0) dX2_clear_12 (by decide) ?_
  refine c_putI (ci := 0) (k := 2) (show _ = cs_164 from rfl) dX2_clear_13 fl_2_35 (by decide) (by decide +kernel) ?_
  refine w_aload_n dX2_clear_16 rfl (List.Mem.head _) ?_
  refine w_getR (ci := 2) (k := 2) (b := 73) dX2_clear_17 fl_2_25 (by decide) (by decide +kernel) (by decide +kernel) ?_
  refine w_iconst (v := nZ 0) dX2_clear_20 (by decide) ?_
  refine c_putI (ci := 0) (k := 2) (show _ = cs_165 from rfl) dX2_clear_21 fl_2_35 (by decide) (by decide +kernel) ?_
  refine w_aload_n dX2_clear_24 rfl (List.Mem.head _) ?_
  refine w_bipush (v := nZ 6) dX2_clear_25 (by decide) ?_
  refine c_putI (ci := 2) (k := 3) (show _ = cs_166 from rfl) dX2_clear_27 fl_2_36 (by decide) (by decide +kernel) ?_
  refine w_aload_n dX2_clear_30 rfl (List.Mem.head _) ?_
  refine w_iconst (v := nZ 4) dX2_clear_31 (by decide) ?_
  refine c_putI (ci := 2) (k := 4) (show _ = cs_167 from rfl) dX2_clear_32 fl_2_39 (by decide) (by decide +kernel) ?_
  refine w_aload_n dX2_clear_35 rfl (List.Mem.head _) ?_
  refine w_sipush (v := nZ 1440) dX2_clear_36 (by decide) ?_
  refine c_putI (ci := 2) (k := 5) (show _ = cs_168 from rfl) dX2_clear_39 fl_2_42 (by decide) (by decide +kernel) ?_
  refine w_aload_n dX2_clear_42 rfl (List.Mem.head _) ?_
  refine w_sipush (v := nZ 1440) dX2_clear_43 (by decide) ?_
  refine c_putI (ci := 2) (k := 6) (show _ = cs_169 from rfl) dX2_clear_46 fl_2_45 (by decide) (by decide +kernel) ?_
  refine w_aload_n dX2_clear_49 rfl (List.Mem.head _) ?_
  refine w_iconst (v := nZ 0) dX2_clear_50 (by decide) ?_
  refine c_putI (ci := 2) (k := 7) (show _ = cs_170 from rfl) dX2_clear_51 fl_2_48 (by decide) (by decide +kernel) ?_
  refine w_aload_n dX2_clear_54 rfl (List.Mem.head _) ?_
  refine w_iconst (v := nZ 0) dX2_clear_55 (by decide) ?_
  refine c_putI (ci := 2) (k := 8) (show _ = cs_171 from rfl) dX2_clear_56 fl_2_51 (by decide) (by decide +kernel) ?_
  refine w_aload_n dX2_clear_59 rfl (List.Mem.head _) ?_
  refine w_iconst (v := nZ 0) dX2_clear_60 (by decide) ?_
  refine c_putI (ci := 2) (k := 9) (show _ = cs_172 from rfl) dX2_clear_61 fl_2_54 (by decide) (by decide +kernel) ?_
  exact w_vret dX2_clear_64 rfl ⟨rfl, rfl⟩
set_option maxRecDepth 10000 in
theorem ev_X2_init_60 {sc : Nat × (Nat → Int32)} {d : Nat} : Ev sc (d + 2) mX2_init [.ref 60] cs_128 (.inl none) cs_172 := by
  refine T.ev (T.of (d := d + 1) (c := 2) (code := cX2_init) (mL := 1) (rt := none) (ini := true) (l := [(0, .ref 60)]) rfl rfl rfl rfl (by decide) hs_X2_init rfl rfl ?_)
  refine w_aload_n dX2_init_0 rfl (List.Mem.head _) ?_
  refine w_objI dX2_init_1 no_2_3 (Nat.le_of_ble_eq_true rfl) ?_
  refine w_aload_n dX2_init_4 rfl (List.Mem.head _) ?_
  refine c_new (ci := 7) (a := 61) gn_128 (show _ = cs_129 from rfl) dX2_init_5 nl_2_9 (by decide) ?_
  refine w_dup dX2_init_8 rfl ?_
  refine w_callI dX2_init_9 ml_2_11 ⟨ok_X7_init, in_X7_init⟩ hs_X7_init (As := []) rfl rfl (Nat.le_of_ble_eq_true rfl) (ev_X7_init_61 (d := d)) ?_
  refine c_putR (ci := 2) (k := 0) (show _ = cs_148 from rfl) dX2_init_12 fl_2_12 (by decide) ⟨rfl, rfl⟩ (by decide +kernel) ?_
  refine w_aload_n dX2_init_15 rfl (List.Mem.head _) ?_
  refine c_new (ci := 0) (a := 70) gn_148 (show _ = cs_149 from rfl) dX2_init_16 nl_2_18 (by decide) ?_
  refine w_dup dX2_init_19 rfl ?_
  refine w_callI dX2_init_20 ml_2_20 ⟨ok_X0_init, in_X0_init⟩ hs_X0_init (As := []) rfl rfl (Nat.le_of_ble_eq_true rfl) (ev_X0_init_70 (d := d)) ?_
  refine c_putR (ci := 2) (k := 1) (show _ = cs_155 from rfl) dX2_init_23 fl_2_21 (by decide) ⟨rfl, rfl⟩ (by decide +kernel) ?_
  refine w_aload_n dX2_init_26 rfl (List.Mem.head _) ?_
  refine c_new (ci := 0) (a := 73) gn_155 (show _ = cs_156 from rfl) dX2_init_27 nl_2_18 (by decide) ?_
  refine w_dup dX2_init_30 rfl ?_
  refine w_callI dX2_init_31 ml_2_20 ⟨ok_X0_init, in_X0_init⟩ hs_X0_init (As := []) rfl rfl (Nat.le_of_ble_eq_true rfl) (ev_X0_init_73 (d := d)) ?_
  refine c_putR (ci := 2) (k := 2) (show _ = cs_162 from rfl) dX2_init_34 fl_2_25 (by decide) ⟨rfl, rfl⟩ (by decide +kernel) ?_
  refine w_aload_n dX2_init_37 rfl (List.Mem.head _) ?_
  refine w_callV dX2_init_38 ml_2_28 ⟨ok_X2_clear, vi_X2_clear⟩ hs_X2_clear (As := []) rfl rfl (by decide +kernel) (Nat.le_of_ble_eq_true rfl) (ev_X2_clear_60 (d := d)) ?_
  show wp _ 2 cX2_init 1 none true [] sc _ 41 [(0, .ref 60)] [] cs_172
  exact w_vret dX2_init_41 rfl ⟨rfl, rfl⟩
def cs_173 : aH := sM cs_172 0 6 (some 60)
theorem gn_173 : gN cs_173 = 76 := rfl
def cs_174 : aH := sI cs_173 0 7 (nZ 0)
theorem gn_174 : gN cs_174 = 76 := rfl
def cs_175 : aH := sI cs_174 0 8 (nZ 0)
theorem gn_175 : gN cs_175 = 76 := rfl
set_option maxRecDepth 10000 in
theorem ev_X9_init_0 {sc : Nat × (Nat → Int32)} {d : Nat} : Ev sc (d + 5) mX9_init [.ref 0] cs_1 (.inl none) cs_175 := by
  refine T.ev (T.of (d := d + 4) (c := 9) (code := cX9_init) (mL := 1) (rt := none) (ini := true) (l := [(0, .ref 0)]) rfl rfl rfl rfl (by decide) hs_X9_init rfl rfl ?_)
  refine w_aload_n dX9_init_0 rfl (List.Mem.head _) ?_
  refine w_objI dX9_init_1 no_9_3 (Nat.le_of_ble_eq_true rfl) ?_
  refine w_aload_n dX9_init_4 rfl (List.Mem.head _) ?_
  refine c_new (ci := 5) (a := 1) gn_1 (show _ = cs_2 from rfl) dX9_init_5 nl_9_9 (by decide) ?_
  refine w_dup dX9_init_8 rfl ?_
  refine w_callI dX9_init_9 ml_9_11 ⟨ok_X5_init, in_X5_init⟩ hs_X5_init (As := []) rfl rfl (Nat.le_of_ble_eq_true rfl) (ev_X5_init_1 (d := d + 3)) ?_
  refine c_putR (ci := 9) (k := 0) (show _ = cs_13 from rfl) dX9_init_12 fl_9_12 (by decide) ⟨rfl, rfl⟩ (by decide +kernel) ?_
  refine w_aload_n dX9_init_15 rfl (List.Mem.head _) ?_
  refine c_new (ci := 1) (a := 3) gn_13 (show _ = cs_14 from rfl) dX9_init_16 nl_9_16 (by decide) ?_
  refine w_dup dX9_init_19 rfl ?_
  refine w_callI dX9_init_20 ml_9_18 ⟨ok_X1_init, in_X1_init⟩ hs_X1_init (As := []) rfl rfl (Nat.le_of_ble_eq_true rfl) (ev_X1_init_3 (d := d + 3)) ?_
  refine c_putR (ci := 9) (k := 1) (show _ = cs_28 from rfl) dX9_init_23 fl_9_19 (by decide) ⟨rfl, rfl⟩ (by decide +kernel) ?_
  refine w_aload_n dX9_init_26 rfl (List.Mem.head _) ?_
  refine c_new (ci := 3) (a := 22) gn_28 (show _ = cs_29 from rfl) dX9_init_27 nl_9_23 (by decide) ?_
  refine w_dup dX9_init_30 rfl ?_
  refine w_callI dX9_init_31 ml_9_25 ⟨ok_X3_init, in_X3_init⟩ hs_X3_init (As := []) rfl rfl (Nat.le_of_ble_eq_true rfl) (ev_X3_init_22 (d := d + 3)) ?_
  refine c_putR (ci := 9) (k := 2) (show _ = cs_36 from rfl) dX9_init_34 fl_9_26 (by decide) ⟨rfl, rfl⟩ (by decide +kernel) ?_
  refine w_aload_n dX9_init_37 rfl (List.Mem.head _) ?_
  refine c_new (ci := 4) (a := 26) gn_36 (show _ = cs_37 from rfl) dX9_init_38 nl_9_30 (by decide) ?_
  refine w_dup dX9_init_41 rfl ?_
  refine w_callI dX9_init_42 ml_9_32 ⟨ok_X4_init, in_X4_init⟩ hs_X4_init (As := []) rfl rfl (Nat.le_of_ble_eq_true rfl) (ev_X4_init_26 (d := d)) ?_
  refine c_putR (ci := 9) (k := 3) (show _ = cs_125 from rfl) dX9_init_45 fl_9_33 (by decide) ⟨rfl, rfl⟩ (by decide +kernel) ?_
  refine w_aload_n dX9_init_48 rfl (List.Mem.head _) ?_
  refine w_aload_n dX9_init_49 rfl (List.Mem.head _) ?_
  refine w_getR (ci := 9) (k := 3) (b := 26) dX9_init_50 fl_9_33 (by decide) (by decide +kernel) (by decide +kernel) ?_
  refine w_getR (ci := 4) (k := 0) (b := 27) dX9_init_53 fl_9_37 (by decide) (by decide +kernel) (by decide +kernel) ?_
  refine c_putR (ci := 9) (k := 4) (show _ = cs_126 from rfl) dX9_init_56 fl_9_41 (by decide) ⟨rfl, rfl⟩ (by decide +kernel) ?_
  refine w_aload_n dX9_init_59 rfl (List.Mem.head _) ?_
  refine w_aload_n dX9_init_60 rfl (List.Mem.head _) ?_
  refine w_getR (ci := 9) (k := 4) (b := 27) dX9_init_61 fl_9_41 (by decide) (by decide +kernel) (by decide +kernel) ?_
  refine w_getM (ci := 6) (k := 5) (b := 39) dX9_init_64 fl_9_42 (by decide) (by decide +kernel) (by decide +kernel) ?_
  refine c_putM (ci := 9) (k := 5) (show _ = cs_127 from rfl) dX9_init_67 fl_9_48 (by decide) (by decide +kernel) ?_
  refine w_aload_n dX9_init_70 rfl (List.Mem.head _) ?_
  refine c_new (ci := 2) (a := 60) gn_127 (show _ = cs_128 from rfl) dX9_init_71 nl_9_49 (by decide) ?_
  refine w_dup dX9_init_74 rfl ?_
  refine w_callI dX9_init_75 ml_9_51 ⟨ok_X2_init, in_X2_init⟩ hs_X2_init (As := []) rfl rfl (Nat.le_of_ble_eq_true rfl) (ev_X2_init_60 (d := d + 2)) ?_
  refine c_putM (ci := 9) (k := 6) (show _ = cs_173 from rfl) dX9_init_78 fl_9_52 (by decide) (by decide +kernel) ?_
  refine w_aload_n dX9_init_81 rfl (List.Mem.head _) ?_
  refine w_iconst (v := nZ 0) dX9_init_82 (by decide) ?_
  refine c_putI (ci := 9) (k := 7) (show _ = cs_174 from rfl) dX9_init_83 fl_9_55 (by decide) (by decide +kernel) ?_
  refine w_aload_n dX9_init_86 rfl (List.Mem.head _) ?_
  refine w_iconst (v := nZ 0) dX9_init_87 (by decide) ?_
  refine c_putI (ci := 9) (k := 8) (show _ = cs_175 from rfl) dX9_init_88 fl_9_59 (by decide) (by decide +kernel) ?_
  exact w_vret dX9_init_91 rfl ⟨rfl, rfl⟩
