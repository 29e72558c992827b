/-! THE TEN WORDS: length and charAt, walked through the JDK's own methods. -/
theorem dJ0_length_8abf5_0 : decode cJ0_length_8abf5 0 = .ok (.aload_n 0, 1) := by decide +kernel
theorem dJ0_length_8abf5_1 : decode cJ0_length_8abf5 1 = .ok (.getfield 9, 3) := by decide +kernel
theorem dJ0_length_8abf5_4 : decode cJ0_length_8abf5 4 = .ok (.arraylength, 1) := by decide +kernel
theorem dJ0_length_8abf5_5 : decode cJ0_length_8abf5 5 = .ok (.aload_n 0, 1) := by decide +kernel
theorem dJ0_length_8abf5_6 : decode cJ0_length_8abf5 6 = .ok (.invokevirtual 335, 3) := by decide +kernel
theorem dJ0_length_8abf5_9 : decode cJ0_length_8abf5 9 = .ok (.ishr, 1) := by decide +kernel
theorem dJ0_length_8abf5_10 : decode cJ0_length_8abf5 10 = .ok (.ireturn, 1) := by decide +kernel
theorem dJ0_charAt_5068e_0 : decode cJ0_charAt_5068e 0 = .ok (.aload_n 0, 1) := by decide +kernel
theorem dJ0_charAt_5068e_1 : decode cJ0_charAt_5068e 1 = .ok (.invokevirtual 492, 3) := by decide +kernel
theorem dJ0_charAt_5068e_4 : decode cJ0_charAt_5068e 4 = .ok (.ifCond .eq 12, 3) := by decide +kernel
theorem dJ0_charAt_5068e_7 : decode cJ0_charAt_5068e 7 = .ok (.aload_n 0, 1) := by decide +kernel
theorem dJ0_charAt_5068e_8 : decode cJ0_charAt_5068e 8 = .ok (.getfield 9, 3) := by decide +kernel
theorem dJ0_charAt_5068e_11 : decode cJ0_charAt_5068e 11 = .ok (.iload_n 1, 1) := by decide +kernel
theorem dJ0_charAt_5068e_12 : decode cJ0_charAt_5068e 12 = .ok (.invokestatic 495, 3) := by decide +kernel
theorem dJ0_charAt_5068e_15 : decode cJ0_charAt_5068e 15 = .ok (.ireturn, 1) := by decide +kernel
theorem dJ0_charAt_5068e_16 : decode cJ0_charAt_5068e 16 = .ok (.aload_n 0, 1) := by decide +kernel
theorem dJ0_charAt_5068e_17 : decode cJ0_charAt_5068e 17 = .ok (.getfield 9, 3) := by decide +kernel
theorem dJ0_charAt_5068e_20 : decode cJ0_charAt_5068e 20 = .ok (.iload_n 1, 1) := by decide +kernel
theorem dJ0_charAt_5068e_21 : decode cJ0_charAt_5068e 21 = .ok (.invokestatic 498, 3) := by decide +kernel
theorem dJ0_charAt_5068e_24 : decode cJ0_charAt_5068e 24 = .ok (.ireturn, 1) := by decide +kernel
theorem dJ0_coder_7d493_0 : decode cJ0_coder_7d493 0 = .ok (.getstatic 38, 3) := by decide +kernel
theorem dJ0_coder_7d493_3 : decode cJ0_coder_7d493 3 = .ok (.ifCond .eq 10, 3) := by decide +kernel
theorem dJ0_coder_7d493_6 : decode cJ0_coder_7d493 6 = .ok (.aload_n 0, 1) := by decide +kernel
theorem dJ0_coder_7d493_7 : decode cJ0_coder_7d493 7 = .ok (.getfield 15, 3) := by decide +kernel
theorem dJ0_coder_7d493_10 : decode cJ0_coder_7d493 10 = .ok (.goto 4, 3) := by decide +kernel
theorem dJ0_coder_7d493_13 : decode cJ0_coder_7d493 13 = .ok (.iconst 1, 1) := by decide +kernel
theorem dJ0_coder_7d493_14 : decode cJ0_coder_7d493 14 = .ok (.ireturn, 1) := by decide +kernel
theorem dJ0_isLatin1_aae02_0 : decode cJ0_isLatin1_aae02 0 = .ok (.getstatic 38, 3) := by decide +kernel
theorem dJ0_isLatin1_aae02_3 : decode cJ0_isLatin1_aae02 3 = .ok (.ifCond .eq 14, 3) := by decide +kernel
theorem dJ0_isLatin1_aae02_6 : decode cJ0_isLatin1_aae02 6 = .ok (.aload_n 0, 1) := by decide +kernel
theorem dJ0_isLatin1_aae02_7 : decode cJ0_isLatin1_aae02 7 = .ok (.getfield 15, 3) := by decide +kernel
theorem dJ0_isLatin1_aae02_10 : decode cJ0_isLatin1_aae02 10 = .ok (.ifCond .ne 7, 3) := by decide +kernel
theorem dJ0_isLatin1_aae02_13 : decode cJ0_isLatin1_aae02 13 = .ok (.iconst 1, 1) := by decide +kernel
theorem dJ0_isLatin1_aae02_14 : decode cJ0_isLatin1_aae02 14 = .ok (.goto 4, 3) := by decide +kernel
theorem dJ0_isLatin1_aae02_17 : decode cJ0_isLatin1_aae02 17 = .ok (.iconst 0, 1) := by decide +kernel
theorem dJ0_isLatin1_aae02_18 : decode cJ0_isLatin1_aae02 18 = .ok (.ireturn, 1) := by decide +kernel
theorem dJ0_checkIndex_df160_0 : decode cJ0_checkIndex_df160 0 = .ok (.iload_n 0, 1) := by decide +kernel
theorem dJ0_checkIndex_df160_1 : decode cJ0_checkIndex_df160 1 = .ok (.iload_n 1, 1) := by decide +kernel
theorem dJ0_checkIndex_df160_2 : decode cJ0_checkIndex_df160 2 = .ok (.getstatic 1053, 3) := by decide +kernel
theorem dJ0_checkIndex_df160_5 : decode cJ0_checkIndex_df160 5 = .ok (.invokestatic 1059, 3) := by decide +kernel
theorem dJ0_checkIndex_df160_8 : decode cJ0_checkIndex_df160 8 = .ok (.pop, 1) := by decide +kernel
theorem dJ0_checkIndex_df160_9 : decode cJ0_checkIndex_df160 9 = .ok (.return_, 1) := by decide +kernel
theorem dJ1_charAt_3b067_0 : decode cJ1_charAt_3b067 0 = .ok (.iload_n 1, 1) := by decide +kernel
theorem dJ1_charAt_3b067_1 : decode cJ1_charAt_3b067 1 = .ok (.aload_n 0, 1) := by decide +kernel
theorem dJ1_charAt_3b067_2 : decode cJ1_charAt_3b067 2 = .ok (.arraylength, 1) := by decide +kernel
theorem dJ1_charAt_3b067_3 : decode cJ1_charAt_3b067 3 = .ok (.invokestatic 9, 3) := by decide +kernel
theorem dJ1_charAt_3b067_6 : decode cJ1_charAt_3b067 6 = .ok (.aload_n 0, 1) := by decide +kernel
theorem dJ1_charAt_3b067_7 : decode cJ1_charAt_3b067 7 = .ok (.iload_n 1, 1) := by decide +kernel
theorem dJ1_charAt_3b067_8 : decode cJ1_charAt_3b067 8 = .ok (.baload, 1) := by decide +kernel
theorem dJ1_charAt_3b067_9 : decode cJ1_charAt_3b067 9 = .ok (.sipush 255, 3) := by decide +kernel
theorem dJ1_charAt_3b067_12 : decode cJ1_charAt_3b067 12 = .ok (.iand, 1) := by decide +kernel
theorem dJ1_charAt_3b067_13 : decode cJ1_charAt_3b067 13 = .ok (.i2c, 1) := by decide +kernel
theorem dJ1_charAt_3b067_14 : decode cJ1_charAt_3b067 14 = .ok (.ireturn, 1) := by decide +kernel
theorem dJ3_checkIndex_8e157_0 : decode cJ3_checkIndex_8e157 0 = .ok (.iload_n 0, 1) := by decide +kernel
theorem dJ3_checkIndex_8e157_1 : decode cJ3_checkIndex_8e157 1 = .ok (.ifCond .lt 8, 3) := by decide +kernel
theorem dJ3_checkIndex_8e157_4 : decode cJ3_checkIndex_8e157 4 = .ok (.iload_n 0, 1) := by decide +kernel
theorem dJ3_checkIndex_8e157_5 : decode cJ3_checkIndex_8e157 5 = .ok (.iload_n 1, 1) := by decide +kernel
theorem dJ3_checkIndex_8e157_6 : decode cJ3_checkIndex_8e157 6 = .ok (.if_icmp .lt 10, 3) := by decide +kernel
theorem dJ3_checkIndex_8e157_9 : decode cJ3_checkIndex_8e157 9 = .ok (.aload_n 2, 1) := by decide +kernel
theorem dJ3_checkIndex_8e157_10 : decode cJ3_checkIndex_8e157 10 = .ok (.iload_n 0, 1) := by decide +kernel
theorem dJ3_checkIndex_8e157_11 : decode cJ3_checkIndex_8e157 11 = .ok (.iload_n 1, 1) := by decide +kernel
theorem dJ3_checkIndex_8e157_12 : decode cJ3_checkIndex_8e157 12 = .ok (.invokestatic 95, 3) := by decide +kernel
theorem dJ3_checkIndex_8e157_15 : decode cJ3_checkIndex_8e157 15 = .ok (.athrow, 1) := by decide +kernel
theorem dJ3_checkIndex_8e157_16 : decode cJ3_checkIndex_8e157 16 = .ok (.iload_n 0, 1) := by decide +kernel
theorem dJ3_checkIndex_8e157_17 : decode cJ3_checkIndex_8e157 17 = .ok (.ireturn, 1) := by decide +kernel
theorem sw_cs : Cond.fieldLink RJ0 38 "java/lang/String" "COMPACT_STRINGS" "Z" ∈ gwl := gwl_mem (List.mem_of_getElem? (i := 859) (by decide +kernel)) rfl
theorem sw_v : Cond.fieldLink RJ0 9 "java/lang/String" "value" "[B" ∈ gwl := gwl_mem (List.mem_of_getElem? (i := 1971) (by decide +kernel)) rfl
theorem sw_c : Cond.fieldLink RJ0 15 "java/lang/String" "coder" "B" ∈ gwl := gwl_mem (List.mem_of_getElem? (i := 1972) (by decide +kernel)) rfl
theorem sw_f : Cond.fieldLink RJ0 1053 "jdk/internal/util/Preconditions" "SIOOBE_FORMATTER" "Ljava/util/function/BiFunction;" ∈ gwl := gwl_mem (List.mem_of_getElem? (i := 875) (by decide +kernel)) rfl
theorem sw_iRJ0 : Cond.initialized RJ0 ∈ gwl := gwl_mem (List.mem_of_getElem? (i := 156) (by decide +kernel)) rfl
theorem sw_iRJ1 : Cond.initialized RJ1 ∈ gwl := gwl_mem (List.mem_of_getElem? (i := 157) (by decide +kernel)) rfl
theorem sw_iRJ3 : Cond.initialized RJ3 ∈ gwl := gwl_mem (List.mem_of_getElem? (i := 158) (by decide +kernel)) rfl
set_option maxRecDepth 100000 in
theorem sk_J0_length_8abf5 : Cond.code yJ0_length_8abf5 cJ0_length_8abf5 1 (some .int) ∈ gwl := gwl_mem (List.mem_of_getElem? (i := 854) rfl) rfl
theorem sm_J0_length_8abf5 : Cond.instanceMethod yJ0_length_8abf5 ∈ gwl := gwl_mem (List.mem_of_getElem? (i := 852) (by decide +kernel)) rfl
theorem se_J0_length_8abf5 : Cond.selects RJ0 yJ0_length_8abf5 yJ0_length_8abf5 ∈ gwl := gwl_mem (List.mem_of_getElem? (i := 853) (by decide +kernel)) rfl
set_option maxRecDepth 100000 in
theorem sk_J0_charAt_5068e : Cond.code yJ0_charAt_5068e cJ0_charAt_5068e 2 (some .char) ∈ gwl := gwl_mem (List.mem_of_getElem? (i := 864) rfl) rfl
theorem sm_J0_charAt_5068e : Cond.instanceMethod yJ0_charAt_5068e ∈ gwl := gwl_mem (List.mem_of_getElem? (i := 862) (by decide +kernel)) rfl
theorem se_J0_charAt_5068e : Cond.selects RJ0 yJ0_charAt_5068e yJ0_charAt_5068e ∈ gwl := gwl_mem (List.mem_of_getElem? (i := 863) (by decide +kernel)) rfl
set_option maxRecDepth 100000 in
theorem sk_J0_coder_7d493 : Cond.code yJ0_coder_7d493 cJ0_coder_7d493 1 (some .byte) ∈ gwl := gwl_mem (List.mem_of_getElem? (i := 858) rfl) rfl
theorem sm_J0_coder_7d493 : Cond.instanceMethod yJ0_coder_7d493 ∈ gwl := gwl_mem (List.mem_of_getElem? (i := 856) (by decide +kernel)) rfl
theorem se_J0_coder_7d493 : Cond.selects RJ0 yJ0_coder_7d493 yJ0_coder_7d493 ∈ gwl := gwl_mem (List.mem_of_getElem? (i := 857) (by decide +kernel)) rfl
set_option maxRecDepth 100000 in
theorem sk_J0_isLatin1_aae02 : Cond.code yJ0_isLatin1_aae02 cJ0_isLatin1_aae02 1 (some .boolean) ∈ gwl := gwl_mem (List.mem_of_getElem? (i := 868) rfl) rfl
theorem sm_J0_isLatin1_aae02 : Cond.instanceMethod yJ0_isLatin1_aae02 ∈ gwl := gwl_mem (List.mem_of_getElem? (i := 866) (by decide +kernel)) rfl
theorem se_J0_isLatin1_aae02 : Cond.selects RJ0 yJ0_isLatin1_aae02 yJ0_isLatin1_aae02 ∈ gwl := gwl_mem (List.mem_of_getElem? (i := 867) (by decide +kernel)) rfl
set_option maxRecDepth 100000 in
theorem sk_J0_checkIndex_df160 : Cond.code yJ0_checkIndex_df160 cJ0_checkIndex_df160 2 none ∈ gwl := gwl_mem (List.mem_of_getElem? (i := 874) rfl) rfl
theorem ss_J0_checkIndex_df160 : Cond.static yJ0_checkIndex_df160 ∈ gwl := gwl_mem (List.mem_of_getElem? (i := 873) (by decide +kernel)) rfl
set_option maxRecDepth 100000 in
theorem sk_J1_charAt_3b067 : Cond.code yJ1_charAt_3b067 cJ1_charAt_3b067 2 (some .char) ∈ gwl := gwl_mem (List.mem_of_getElem? (i := 871) rfl) rfl
theorem ss_J1_charAt_3b067 : Cond.static yJ1_charAt_3b067 ∈ gwl := gwl_mem (List.mem_of_getElem? (i := 870) (by decide +kernel)) rfl
set_option maxRecDepth 100000 in
theorem sk_J3_checkIndex_8e157 : Cond.code yJ3_checkIndex_8e157 cJ3_checkIndex_8e157 3 (some .int) ∈ gwl := gwl_mem (List.mem_of_getElem? (i := 879) rfl) rfl
theorem ss_J3_checkIndex_8e157 : Cond.static yJ3_checkIndex_8e157 ∈ gwl := gwl_mem (List.mem_of_getElem? (i := 878) (by decide +kernel)) rfl
theorem sl_coder : Cond.methodLink RJ0 335 yJ0_coder_7d493 ∈ gwl := gwl_mem (List.mem_of_getElem? (i := 855) (by decide +kernel)) rfl
theorem sl_lat : Cond.methodLink RJ0 492 yJ0_isLatin1_aae02 ∈ gwl := gwl_mem (List.mem_of_getElem? (i := 865) (by decide +kernel)) rfl
theorem sl_l1 : Cond.methodLink RJ0 495 yJ1_charAt_3b067 ∈ gwl := gwl_mem (List.mem_of_getElem? (i := 869) (by decide +kernel)) rfl
theorem sl_ci : Cond.methodLink RJ1 9 yJ0_checkIndex_df160 ∈ gwl := gwl_mem (List.mem_of_getElem? (i := 872) (by decide +kernel)) rfl
theorem sl_pc : Cond.methodLink RJ0 1059 yJ3_checkIndex_8e157 ∈ gwl := gwl_mem (List.mem_of_getElem? (i := 877) (by decide +kernel)) rfl
def rmJ (k : Nat) : Room := { frames := k, cells := 0, slots := 0, locals := 40 * k }
theorem j_sl : ∀ vs : List Value, (lg_sl vs).length = catsum vs
  | [] => rfl
  | v :: vs => by
    have ih := j_sl vs
    have h1 : lg_sl (v :: vs) = (if v.category = 2 then [.val v, .second] else [.val v]) ++ lg_sl vs := rfl
    have h2 : catsum (v :: vs) = v.category + catsum vs := rfl
    rw [h1, h2, List.length_append, ih]
    cases v <;> rfl
theorem rho_s {B j : Nat} {ext : Nat → Nat} : rho B ext (1000001 + j) = ext (1000001 + j) := if_neg (by omega)
section
variable {K : aC} {B : Nat} {ext : Nat → Nat} {sc : Nat × (Nat → Int32)} {p : Program} {l : Launch} {e : Jvm.Env} {R : Room} {s : State} {m : MethodId} {args : Array Value} {below : List Frame} {meth : Method} {c : Code} {σ : aH} {Q : State → Prop} {H : Heap} {locs : List Loc} {cells slots : Nat}
theorem j_entry {vs : List Value} {nL : Nat} (hc : catsum vs ≤ nL) (k : ∀ ls : Array Slot, lv_has ls nL (lv_args 0 vs) → W p l e R s m args below meth c H locs cells slots Q (F0 m 0 ls [])) : W p l e R s m args below meth c H locs cells slots Q (entryFrame m vs.toArray nL) := by
  have hl := lv_entry vs (n := nL) (by rw [j_sl]; exact hc)
  rw [lg_entry_eq]; exact k _ hl
theorem hwsJ (hts : ∀ w ∈ gwl, w.before args s = true) {w0 : Cond} (h0 : w0 ∈ gwl) : ∀ w ∈ w0 :: gwl, ∀ (a' : Array Value) (U : State), s.WarmedH U.vm → w.before a' U = true := by
  intro w hw a' U hW
  have hm : w ∈ gwl := by
    rcases List.mem_cons.mp hw with h | h
    · rw [h]; exact h0
    · exact h
  exact word_at hW (good_of_word (List.mem_filter.mp hm).2) (hts w hm)
/-- what the JDK's own take: these values, the world, and X -/
def PcW (K : aC) (B : Nat) (ext : Nat → Nat) (sc : Nat × (Nat → Int32)) (vs : List Value) (σ : aH) (X : State → Prop) : Array Value → State → Prop := fun v U => v = vs.toArray ∧ Rel K B ext σ U.heap ∧ EnvA K B ext sc U ∧ X U
theorem pcW_blind {vs : List Value} {X : State → Prop} (hX : ∀ (U : State) (g : JFrame) (mk : MethodId) (a : Array Value), X U → X (U.calling g mk a)) : FrameBlind (PcW K B ext sc vs σ X) := by
  intro a U g mk h
  obtain ⟨h1, h2, h3, h4⟩ := h
  exact ⟨h1, h2, h3.kept (U := U.calling g mk a) (State.WarmedH.refl U) (fun _ _ => rfl), hX U g mk a h4⟩
abbrev trX : State → Prop := fun _ => True
/-- a static method of the JDK called -/
theorem j_callS {cc : ByteArray} {nL pc index k mLy : Nat} {own : String} {y : MethodName} {bytes : ByteArray} {ret : Option FieldType} {vs rest st0 : List Value} {ls : Array Slot} {n : Nat} {v : Option Value} {X : State → Prop}
    (hx : p.tables.exec = Jvm.exec) (hb : c.code = cc) (hml : c.maxLocals = nL) (hown : s.vm.findClass own = some m.cls) (hts : ∀ w ∈ gwl, w.before args s = true) (hE : EnvA K B ext sc s) (hB : B ≤ s.heap.size) (hR : Rel K B ext σ H) (hS : va_S (fun q => B ≤ q) s.heap H locs)
    (hM : Met l y (Cond.code y bytes mLy ret :: gwl) (rmJ k) (PcW K B ext sc vs σ X) (QcR K B ext v σ) 0 0 (fun a => B ≤ a)) (hcode : Cond.code y bytes mLy ret ∈ gwl) (hini : Cond.initialized y.cls ∈ gwl) (hne : y.cls ≠ "java/lang/invoke/MethodHandle" ∧ y.cls ≠ "java/lang/invoke/VarHandle") (hlen : ∀ sig, parseMethodDescriptor y.desc = some sig → n = sig.parameters.length) (hlink : Cond.methodLink own index y ∈ gwl) (hst : Cond.static y ∈ gwl)
    (hfr : k + 1 ≤ R.frames) (hlo : 8 + (mLy + 11) + 40 * k ≤ R.locals) (hcl : cells ≤ R.cells ∧ slots ≤ R.slots) (hX : ∀ (U : State) (g : JFrame) (mk : MethodId) (a : Array Value), X U → X (U.calling g mk a)) (hXU : ∀ U : State, U.heap = H → s.WarmedH U.vm → X U)
    (hn : vs.length = n) (hls : ls.size = nL) (hs0 : st0 = vs.reverse ++ rest) (hcs : catsum rest ≤ 8) (hdg : decode cc pc = .ok (.invokestatic index, 3))
    (kk : ∀ (H1 : Heap) (locs1 : List Loc), Rel K B ext σ H1 → va_S (fun q => B ≤ q) s.heap H1 locs1 → W p l e R s m args below meth c H1 locs1 cells slots Q (F0 m (pc + 3) ls ((v.map (vmv (rho B ext))).toList ++ rest))) : W p l e R s m args below meth c H locs cells slots Q (F0 m pc ls st0) := by
  have hpre : PreS s H (PcW K B ext sc vs σ X) vs := ⟨pcW_blind hX, fun U hU hW => ⟨rfl, by rw [hU]; exact hR, env_at hE hB hS hU hW, hXU U hU hW⟩⟩
  have hrun : va_Run p l e R s m args below meth c H locs cells slots 0 0 (F0 m pc ls st0) rest (QcR K B ext v σ vs.toArray) (fun q => B ≤ q) :=
    va_runS (n := n) ⟨hx, hb, hml, hown, hts⟩ hM ⟨⟨rfl, rfl, hfr, hlo, hwsJ hts hcode, List.mem_cons_self, hts _ hcode, hts _ hini, hne, hlen, hts _ hlink⟩, hts _ hst⟩ hpre rfl hn hls hs0 (by show 2 * 0 + catsum rest ≤ 8; omega) hdg hcl
  exact m_ret hrun hS (fun H1 locs1 h1 h2 => kk H1 locs1 h1 h2)
/-- a virtual method of the JDK called of a word -/
theorem j_callV {cc : ByteArray} {nL pc index k mLy j : Nat} {own : String} {y : MethodName} {bytes : ByteArray} {ret : Option FieldType} {vs rest st0 : List Value} {ls : Array Slot} {n : Nat} {v : Option Value} (hj : j < 10)
    (hx : p.tables.exec = Jvm.exec) (hb : c.code = cc) (hml : c.maxLocals = nL) (hown : s.vm.findClass own = some m.cls) (hts : ∀ w ∈ gwl, w.before args s = true) (hE : EnvA K B ext sc s) (hB : B ≤ s.heap.size) (hR : Rel K B ext σ H) (hS : va_S (fun q => B ≤ q) s.heap H locs)
    (hM : Met l y (Cond.code y bytes mLy ret :: gwl) (rmJ k) (PcW K B ext sc (.ref (ext (1000001 + j)) :: vs) σ trX) (QcR K B ext v σ) 0 0 (fun a => B ≤ a)) (hcode : Cond.code y bytes mLy ret ∈ gwl) (hcls : y.cls = "java/lang/String") (hlen : ∀ sig, parseMethodDescriptor y.desc = some sig → n = sig.parameters.length) (hlink : Cond.methodLink own index y ∈ gwl) (hin : Cond.instanceMethod y ∈ gwl) (hse : Cond.selects y.cls y y ∈ gwl)
    (hfr : k + 1 ≤ R.frames) (hlo : 8 + (mLy + 11) + 40 * k ≤ R.locals) (hcl : cells ≤ R.cells ∧ slots ≤ R.slots)
    (hn : vs.length = n) (hls : ls.size = nL) (hs0 : st0 = vs.reverse ++ .ref (ext (1000001 + j)) :: rest) (hcs : catsum rest ≤ 8) (hdg : decode cc pc = .ok (.invokevirtual index, 3))
    (kk : ∀ (H1 : Heap) (locs1 : List Loc), Rel K B ext σ H1 → va_S (fun q => B ≤ q) s.heap H1 locs1 → W p l e R s m args below meth c H1 locs1 cells slots Q (F0 m (pc + 3) ls ((v.map (vmv (rho B ext))).toList ++ rest))) : W p l e R s m args below meth c H locs cells slots Q (F0 m pc ls st0) := by
  obtain ⟨adV, hV, -⟩ := hE.2.2.2.2.2.2.2
  have hpre : PreV s H y.cls (ext (1000001 + j)) (PcW K B ext sc (.ref (ext (1000001 + j)) :: vs) σ trX) vs := ⟨pcW_blind (fun _ _ _ _ h => h), by rw [hcls]; exact vk_recv (adK := fun i => ext (1000001 + i)) (i := j) hV hj hS, fun U hU hW => ⟨rfl, by rw [hU]; exact hR, env_at hE hB hS hU hW, trivial⟩⟩
  have hini : (Cond.initialized y.cls).before args s = true := by rw [hcls]; exact hts _ sw_iRJ0
  have hrun : va_Run p l e R s m args below meth c H locs cells slots 0 0 (F0 m pc ls st0) rest (QcR K B ext v σ (Value.ref (ext (1000001 + j)) :: vs).toArray) (fun q => B ≤ q) :=
    va_runV (C := y.cls) (n := n) ⟨hx, hb, hml, hown, hts⟩ hM ⟨⟨rfl, rfl, hfr, hlo, hwsJ hts hcode, List.mem_cons_self, hts _ hcode, hini, ⟨by rw [hcls]; decide, by rw [hcls]; decide⟩, hlen, hts _ hlink⟩, hts _ hin, hts _ hse⟩ hpre rfl hn hls hs0 (by show 2 * 0 + catsum rest ≤ 8; omega) hdg hcl
  exact m_ret hrun hS (fun H1 locs1 h1 h2 => kk H1 locs1 h1 h2)
end
section
variable {K : aC} {B : Nat} {ext : Nat → Nat} {sc : Nat × (Nat → Int32)} {l : Launch} {σ : aH}
set_option maxRecDepth 10000 in
theorem sj_coder {j : Nat} (hj : j < 10) : Met l yJ0_coder_7d493 (Cond.code yJ0_coder_7d493 cJ0_coder_7d493 1 (some .byte) :: gwl) (rmJ 1) (PcW K B ext sc [.ref (ext (1000001 + j))] σ trX) (QcR K B ext (some (.int 0)) σ) 0 0 (fun a => B ≤ a) := by
  refine Met.ofW (cc := cJ0_coder_7d493) (maxL := 1) (ret := (some .byte)) (by decide) rfl ?_
  intro p e s m args below meth c s₁ Bd hml hv
  obtain ⟨rfl, hrel, hE, hX⟩ := hv
  have hts := fun w (hw : w ∈ gwl) => atoms_spec (ws := Cond.code yJ0_coder_7d493 cJ0_coder_7d493 1 (some .byte) :: gwl) Bd.pre w (List.mem_cons_of_mem _ hw)
  have hown : s.vm.findClass RJ0 = some m.cls := findClass_of_methodNamed Bd.named
  have hx := Bd.exec
  have hb := Bd.bytes
  have hS : va_S (fun q => B ≤ q) s.heap s.heap [] := va_S.rf
  have hB : B ≤ s.heap.size := by rw [hrel.1]; omega
  obtain ⟨adV, hV, hZ, hPq⟩ := hE.2.2.2.2.2.2.2
  refine j_entry (nL := 1) (Nat.le_of_ble_eq_true rfl) (fun ls hl => ?_)
  refine va_gets hx hb hZ hS hown (hts _ sw_cs) (fun x h => h) dJ0_coder_7d493_0 ?_
  refine lv_if_eq (tgt := 13) hx hb dJ0_coder_7d493_3 (by decide) (fun h => absurd h (by decide)) (fun _ => ?_)
  refine lv_aload_n hx hb dJ0_coder_7d493_6 rfl (lv_at hl 0 rfl) ?_
  refine vk_getf hx hb (hV.1 j hj).2.1 hS hown (hts _ sw_c) (fun x h => h) dJ0_coder_7d493_7 ?_
  refine lv_goto (tgt := 14) hx hb dJ0_coder_7d493_10 (by decide) ?_
  exact W.zret (v := 0) (ty := .byte) hx hb Bd.returns rfl (fun t ht hW => ⟨rfl, by rw [ht]; exact hrel, hS.F ht⟩) hS.2.2 dJ0_coder_7d493_14 Bd.notSynchronized
set_option maxRecDepth 10000 in
theorem sj_latin {j : Nat} (hj : j < 10) : Met l yJ0_isLatin1_aae02 (Cond.code yJ0_isLatin1_aae02 cJ0_isLatin1_aae02 1 (some .boolean) :: gwl) (rmJ 1) (PcW K B ext sc [.ref (ext (1000001 + j))] σ trX) (QcR K B ext (some (.int 1)) σ) 0 0 (fun a => B ≤ a) := by
  refine Met.ofW (cc := cJ0_isLatin1_aae02) (maxL := 1) (ret := (some .boolean)) (by decide) rfl ?_
  intro p e s m args below meth c s₁ Bd hml hv
  obtain ⟨rfl, hrel, hE, hX⟩ := hv
  have hts := fun w (hw : w ∈ gwl) => atoms_spec (ws := Cond.code yJ0_isLatin1_aae02 cJ0_isLatin1_aae02 1 (some .boolean) :: gwl) Bd.pre w (List.mem_cons_of_mem _ hw)
  have hown : s.vm.findClass RJ0 = some m.cls := findClass_of_methodNamed Bd.named
  have hx := Bd.exec
  have hb := Bd.bytes
  have hS : va_S (fun q => B ≤ q) s.heap s.heap [] := va_S.rf
  have hB : B ≤ s.heap.size := by rw [hrel.1]; omega
  obtain ⟨adV, hV, hZ, hPq⟩ := hE.2.2.2.2.2.2.2
  refine j_entry (nL := 1) (Nat.le_of_ble_eq_true rfl) (fun ls hl => ?_)
  refine va_gets hx hb hZ hS hown (hts _ sw_cs) (fun x h => h) dJ0_isLatin1_aae02_0 ?_
  refine lv_if_eq (tgt := 17) hx hb dJ0_isLatin1_aae02_3 (by decide) (fun h => absurd h (by decide)) (fun _ => ?_)
  refine lv_aload_n hx hb dJ0_isLatin1_aae02_6 rfl (lv_at hl 0 rfl) ?_
  refine vk_getf hx hb (hV.1 j hj).2.1 hS hown (hts _ sw_c) (fun x h => h) dJ0_isLatin1_aae02_7 ?_
  refine lv_if_ne (tgt := 17) hx hb dJ0_isLatin1_aae02_10 (by decide) (fun h => absurd rfl h) (fun _ => ?_)
  refine lv_iconst (v := 1) hx hb dJ0_isLatin1_aae02_13 (by decide) ?_
  refine lv_goto (tgt := 18) hx hb dJ0_isLatin1_aae02_14 (by decide) ?_
  exact W.zret (v := 1) (ty := .boolean) hx hb Bd.returns rfl (fun t ht hW => ⟨rfl, by rw [ht]; exact hrel, hS.F ht⟩) hS.2.2 dJ0_isLatin1_aae02_18 Bd.notSynchronized
set_option maxRecDepth 10000 in
theorem sj_pre {k N : Nat} {f : Value} (hf : f.category = 1) (hk : k < N) (hN : N < 100) : Met l yJ3_checkIndex_8e157 (Cond.code yJ3_checkIndex_8e157 cJ3_checkIndex_8e157 3 (some .int) :: gwl) (rmJ 1) (PcW K B ext sc [.int (nI k), .int (nI N), f] σ trX) (QcR K B ext (some (.int (nI k))) σ) 0 0 (fun a => B ≤ a) := by
  refine Met.ofW (cc := cJ3_checkIndex_8e157) (maxL := 3) (ret := (some .int)) (by decide) rfl ?_
  intro p e s m args below meth c s₁ Bd hml hv
  obtain ⟨rfl, hrel, hE, hX⟩ := hv
  have hts := fun w (hw : w ∈ gwl) => atoms_spec (ws := Cond.code yJ3_checkIndex_8e157 cJ3_checkIndex_8e157 3 (some .int) :: gwl) Bd.pre w (List.mem_cons_of_mem _ hw)
  have hown : s.vm.findClass RJ3 = some m.cls := findClass_of_methodNamed Bd.named
  have hx := Bd.exec
  have hb := Bd.bytes
  have hS : va_S (fun q => B ≤ q) s.heap s.heap [] := va_S.rf
  have hB : B ≤ s.heap.size := by rw [hrel.1]; omega
  obtain ⟨adV, hV, hZ, hPq⟩ := hE.2.2.2.2.2.2.2
  refine j_entry (nL := 3) (by rw [show catsum [Value.int (nI k), Value.int (nI N), f] = 1 + (1 + (f.category + 0)) from rfl, hf]; exact Nat.le_refl _) (fun ls hl => ?_)
  have hl : lv_has ls 3 [(0, .int (nI k)), (1, .int (nI N)), (2, f)] := hl
  refine lv_iload_n hx hb dJ3_checkIndex_8e157_0 rfl (lv_at hl 0 rfl) ?_
  refine lv_if_lt (tgt := 9) hx hb dJ3_checkIndex_8e157_1 (by decide) (fun h => absurd h (nI_pos (by omega))) (fun _ => ?_)
  refine lv_iload_n hx hb dJ3_checkIndex_8e157_4 rfl (lv_at hl 0 rfl) ?_
  refine lv_iload_n hx hb dJ3_checkIndex_8e157_5 rfl (lv_at hl 1 rfl) ?_
  refine lv_icmp_lt (tgt := 16) hx hb dJ3_checkIndex_8e157_6 (by decide) (fun _ => ?_) (fun h => absurd (nI_lt hk (by omega)) h)
  refine lv_iload_n hx hb dJ3_checkIndex_8e157_16 rfl (lv_at hl 0 rfl) ?_
  exact W.iret (v := nI k) hx hb Bd.returns (fun t ht hW => ⟨rfl, by rw [ht]; exact hrel, hS.F ht⟩) hS.2.2 dJ3_checkIndex_8e157_17 Bd.notSynchronized
set_option maxRecDepth 10000 in
theorem sj_check {k N : Nat} (hk : k < N) (hN : N < 100) : Met l yJ0_checkIndex_df160 (Cond.code yJ0_checkIndex_df160 cJ0_checkIndex_df160 2 none :: gwl) (rmJ 2) (PcW K B ext sc [.int (nI k), .int (nI N)] σ trX) (QcR K B ext none σ) 0 0 (fun a => B ≤ a) := by
  refine Met.ofW (cc := cJ0_checkIndex_df160) (maxL := 2) (ret := none) (by decide) rfl ?_
  intro p e s m args below meth c s₁ Bd hml hv
  obtain ⟨rfl, hrel, hE, hX⟩ := hv
  have hts := fun w (hw : w ∈ gwl) => atoms_spec (ws := Cond.code yJ0_checkIndex_df160 cJ0_checkIndex_df160 2 none :: gwl) Bd.pre w (List.mem_cons_of_mem _ hw)
  have hown : s.vm.findClass RJ0 = some m.cls := findClass_of_methodNamed Bd.named
  have hx := Bd.exec
  have hb := Bd.bytes
  have hS : va_S (fun q => B ≤ q) s.heap s.heap [] := va_S.rf
  have hB : B ≤ s.heap.size := by rw [hrel.1]; omega
  obtain ⟨adV, hV, hZ, hPq⟩ := hE.2.2.2.2.2.2.2
  refine j_entry (nL := 2) (Nat.le_of_ble_eq_true rfl) (fun ls hl => ?_)
  have hl : lv_has ls 2 [(0, .int (nI k)), (1, .int (nI N))] := hl
  refine lv_iload_n hx hb dJ0_checkIndex_df160_0 rfl (lv_at hl 0 rfl) ?_
  refine lv_iload_n hx hb dJ0_checkIndex_df160_1 rfl (lv_at hl 1 rfl) ?_
  rcases hPq with hp | ⟨t9, hp⟩
  · refine va_gets hx hb hp hS hown (hts _ sw_f) (fun x h => h) dJ0_checkIndex_df160_2 ?_
    refine j_callS (k := 1) (n := 3) (vs := [.int (nI k), .int (nI N), .null]) (rest := []) (X := trX) hx hb hml hown hts hE hB hrel hS (sj_pre rfl hk hN) sk_J3_checkIndex_8e157 sw_iRJ3 ⟨by decide, by decide⟩ (fun sig h => by cases h; rfl) sl_pc ss_J3_checkIndex_8e157 (Nat.le_of_ble_eq_true rfl) (Nat.le_of_ble_eq_true rfl) ⟨Nat.le_refl _, Nat.le_refl _⟩ (fun _ _ _ _ h => h) (fun _ _ _ => trivial) rfl hl.1 rfl (Nat.le_of_ble_eq_true rfl) dJ0_checkIndex_df160_5 (fun H1 locs1 hr1 hS1 => ?_)
    refine lv_pop hx hb dJ0_checkIndex_df160_8 rfl ?_
    exact W.vret hx hb Bd.returns (fun t ht hW => ⟨rfl, by rw [ht]; exact hr1, hS1.F ht⟩) hS1.2.2 dJ0_checkIndex_df160_9 Bd.notSynchronized
  · refine va_gets hx hb hp hS hown (hts _ sw_f) (fun x h => h) dJ0_checkIndex_df160_2 ?_
    refine j_callS (k := 1) (n := 3) (vs := [.int (nI k), .int (nI N), .ref t9]) (rest := []) (X := trX) hx hb hml hown hts hE hB hrel hS (sj_pre rfl hk hN) sk_J3_checkIndex_8e157 sw_iRJ3 ⟨by decide, by decide⟩ (fun sig h => by cases h; rfl) sl_pc ss_J3_checkIndex_8e157 (Nat.le_of_ble_eq_true rfl) (Nat.le_of_ble_eq_true rfl) ⟨Nat.le_refl _, Nat.le_refl _⟩ (fun _ _ _ _ h => h) (fun _ _ _ => trivial) rfl hl.1 rfl (Nat.le_of_ble_eq_true rfl) dJ0_checkIndex_df160_5 (fun H1 locs1 hr1 hS1 => ?_)
    refine lv_pop hx hb dJ0_checkIndex_df160_8 rfl ?_
    exact W.vret hx hb Bd.returns (fun t ht hW => ⟨rfl, by rw [ht]; exact hr1, hS1.F ht⟩) hS1.2.2 dJ0_checkIndex_df160_9 Bd.notSynchronized
set_option maxRecDepth 10000 in
theorem sj_l1 {k t N : Nat} {f : Nat → Int32} {v : Int32} (hk : k < N) (hN : N < 100) (hv : ((f k &&& 255).toUInt32 % 65536).toInt32 = v) (hnv : narrow .char (.int v) = .int v) : Met l yJ1_charAt_3b067 (Cond.code yJ1_charAt_3b067 cJ1_charAt_3b067 2 (some .char) :: gwl) (rmJ 3) (PcW K B ext sc [.ref t, .int (nI k)] σ (fun U => va_T .byte t N (fun j => .int (f j)) (fun q => B ≤ q) U U.heap)) (QcR K B ext (some (.int v)) σ) 0 0 (fun a => B ≤ a) := by
  refine Met.ofW (cc := cJ1_charAt_3b067) (maxL := 2) (ret := (some .char)) (by decide) rfl ?_
  intro p e s m args below meth c s₁ Bd hml hv
  obtain ⟨rfl, hrel, hE, hX⟩ := hv
  have hts := fun w (hw : w ∈ gwl) => atoms_spec (ws := Cond.code yJ1_charAt_3b067 cJ1_charAt_3b067 2 (some .char) :: gwl) Bd.pre w (List.mem_cons_of_mem _ hw)
  have hown : s.vm.findClass RJ1 = some m.cls := findClass_of_methodNamed Bd.named
  have hx := Bd.exec
  have hb := Bd.bytes
  have hS : va_S (fun q => B ≤ q) s.heap s.heap [] := va_S.rf
  have hB : B ≤ s.heap.size := by rw [hrel.1]; omega
  obtain ⟨adV, hV, hZ, hPq⟩ := hE.2.2.2.2.2.2.2
  refine j_entry (nL := 2) (Nat.le_of_ble_eq_true rfl) (fun ls hl => ?_)
  have hl : lv_has ls 2 [(0, .ref t), (1, .int (nI k))] := hl
  refine lv_iload_n hx hb dJ1_charAt_3b067_0 rfl (lv_at hl 1 rfl) ?_
  refine lv_aload_n hx hb dJ1_charAt_3b067_1 rfl (lv_at hl 0 rfl) ?_
  refine va_tlen (v := nI N) hx hb hX hS rfl dJ1_charAt_3b067_2 ?_
  refine j_callS (k := 2) (n := 2) (vs := [.int (nI k), .int (nI N)]) (rest := []) (X := trX) hx hb hml hown hts hE hB hrel hS (sj_check hk hN) sk_J0_checkIndex_df160 sw_iRJ0 ⟨by decide, by decide⟩ (fun sig h => by cases h; rfl) sl_ci ss_J0_checkIndex_df160 (Nat.le_of_ble_eq_true rfl) (Nat.le_of_ble_eq_true rfl) ⟨Nat.le_refl _, Nat.le_refl _⟩ (fun _ _ _ _ h => h) (fun _ _ _ => trivial) rfl hl.1 rfl (Nat.le_of_ble_eq_true rfl) dJ1_charAt_3b067_3 (fun H1 locs1 hr1 hS1 => ?_)
  refine lv_aload_n hx hb dJ1_charAt_3b067_6 rfl (lv_at hl 0 rfl) ?_
  refine lv_iload_n hx hb dJ1_charAt_3b067_7 rfl (lv_at hl 1 rfl) ?_
  refine va_tb (v := .int (f k)) hx hb hX hS1 (vp_in_nI hk (by omega)) (by rw [nI_clamp (by omega)]) dJ1_charAt_3b067_8 ?_
  refine lv_sipush (v := 255) hx hb dJ1_charAt_3b067_9 (by decide) ?_
  refine lv_iand hx hb dJ1_charAt_3b067_12 ?_
  refine lv_i2c (v := v) hx hb dJ1_charAt_3b067_13 hv ?_
  exact W.zret (v := v) (ty := .char) hx hb Bd.returns hnv (fun t ht hW => ⟨rfl, by rw [ht]; exact hr1, hS1.F ht⟩) hS1.2.2 dJ1_charAt_3b067_14 Bd.notSynchronized
theorem wd_ok : ∀ j : Nat, j < 10 → ∀ k : Nat, k < wdLen.getD j 0 → wdLen.getD j 0 < 100 ∧ ((((wdByt.getD j []).getD k 0) &&& 255).toUInt32 % 65536).toInt32 = (wdByt.getD j []).getD k 0 ∧ narrow .char (.int ((wdByt.getD j []).getD k 0)) = .int ((wdByt.getD j []).getD k 0) := by decide +kernel
theorem wd_shr : ∀ j : Nat, j < 10 → nI (wdLen.getD j 0) >>> ((0 : Int32) &&& 31) = nI (wdLen.getD j 0) := by decide +kernel
set_option maxRecDepth 10000 in
theorem sj_charAt {j k : Nat} (hj : j < 10) (hk : k < wdLen.getD j 0) : Met l yJ0_charAt_5068e (Cond.code yJ0_charAt_5068e cJ0_charAt_5068e 2 (some .char) :: gwl) (rmJ 4) (PcW K B ext sc [.ref (ext (1000001 + j)), .int (nI k)] σ trX) (QcR K B ext (some (.int ((wdByt.getD j []).getD k 0))) σ) 0 0 (fun a => B ≤ a) := by
  refine Met.ofW (cc := cJ0_charAt_5068e) (maxL := 2) (ret := (some .char)) (by decide) rfl ?_
  intro p e s m args below meth c s₁ Bd hml hv
  obtain ⟨rfl, hrel, hE, hX⟩ := hv
  have hts := fun w (hw : w ∈ gwl) => atoms_spec (ws := Cond.code yJ0_charAt_5068e cJ0_charAt_5068e 2 (some .char) :: gwl) Bd.pre w (List.mem_cons_of_mem _ hw)
  have hown : s.vm.findClass RJ0 = some m.cls := findClass_of_methodNamed Bd.named
  have hx := Bd.exec
  have hb := Bd.bytes
  have hS : va_S (fun q => B ≤ q) s.heap s.heap [] := va_S.rf
  have hB : B ≤ s.heap.size := by rw [hrel.1]; omega
  obtain ⟨adV, hV, hZ, hPq⟩ := hE.2.2.2.2.2.2.2
  refine j_entry (nL := 2) (Nat.le_of_ble_eq_true rfl) (fun ls hl => ?_)
  have hl : lv_has ls 2 [(0, .ref (ext (1000001 + j))), (1, .int (nI k))] := hl
  obtain ⟨w1, w2, w3⟩ := wd_ok j hj k hk
  refine lv_aload_n hx hb dJ0_charAt_5068e_0 rfl (lv_at hl 0 rfl) ?_
  refine j_callV (k := 1) (n := 0) (vs := []) (rest := []) hj hx hb hml hown hts hE hB hrel hS (sj_latin hj) sk_J0_isLatin1_aae02 rfl (fun sig h => by cases h; rfl) sl_lat sm_J0_isLatin1_aae02 se_J0_isLatin1_aae02 (Nat.le_of_ble_eq_true rfl) (Nat.le_of_ble_eq_true rfl) ⟨Nat.le_refl _, Nat.le_refl _⟩ rfl hl.1 rfl (Nat.le_of_ble_eq_true rfl) dJ0_charAt_5068e_1 (fun H1 locs1 hr1 hS1 => ?_)
  refine lv_if_eq (x := 1) (tgt := 16) hx hb dJ0_charAt_5068e_4 (by decide) (fun h => absurd h (by decide)) (fun _ => ?_)
  refine lv_aload_n hx hb dJ0_charAt_5068e_7 rfl (lv_at hl 0 rfl) ?_
  refine vk_getf hx hb (hV.1 j hj).2.2.1 hS1 hown (hts _ sw_v) (fun x h => h) dJ0_charAt_5068e_8 ?_
  refine lv_iload_n hx hb dJ0_charAt_5068e_11 rfl (lv_at hl 1 rfl) ?_
  refine j_callS (k := 3) (n := 2) (vs := [.ref (adV j), .int (nI k)]) (rest := []) (X := fun U => va_T .byte (adV j) (wdLen.getD j 0) (fun i => .int ((wdByt.getD j []).getD i 0)) (fun q => B ≤ q) U U.heap) hx hb hml hown hts hE hB hr1 hS1 (sj_l1 (f := fun i => (wdByt.getD j []).getD i 0) hk w1 w2 w3) sk_J1_charAt_3b067 sw_iRJ1 ⟨by decide, by decide⟩ (fun sig h => by cases h; rfl) sl_l1 ss_J1_charAt_3b067 (Nat.le_of_ble_eq_true rfl) (Nat.le_of_ble_eq_true rfl) ⟨Nat.le_refl _, Nat.le_refl _⟩ (fun U g mk a h => va_T.moved (Vm.Alike.refl U.vm) h) (fun U hU hW => by rw [hU]; exact va_T.moved hW.alike ((hV.1 j hj).2.2.2.kept hS1.2.1)) rfl hl.1 rfl (Nat.le_of_ble_eq_true rfl) dJ0_charAt_5068e_12 (fun H2 locs2 hr2 hS2 => ?_)
  exact W.zret (v := (wdByt.getD j []).getD k 0) (ty := .char) hx hb Bd.returns w3 (fun t ht hW => ⟨rfl, by rw [ht]; exact hr2, hS2.F ht⟩) hS2.2.2 dJ0_charAt_5068e_15 Bd.notSynchronized
set_option maxRecDepth 10000 in
theorem sj_length {j : Nat} (hj : j < 10) : Met l yJ0_length_8abf5 (Cond.code yJ0_length_8abf5 cJ0_length_8abf5 1 (some .int) :: gwl) (rmJ 2) (PcW K B ext sc [.ref (ext (1000001 + j))] σ trX) (QcR K B ext (some (.int (nI (wdLen.getD j 0)))) σ) 0 0 (fun a => B ≤ a) := by
  refine Met.ofW (cc := cJ0_length_8abf5) (maxL := 1) (ret := (some .int)) (by decide) rfl ?_
  intro p e s m args below meth c s₁ Bd hml hv
  obtain ⟨rfl, hrel, hE, hX⟩ := hv
  have hts := fun w (hw : w ∈ gwl) => atoms_spec (ws := Cond.code yJ0_length_8abf5 cJ0_length_8abf5 1 (some .int) :: gwl) Bd.pre w (List.mem_cons_of_mem _ hw)
  have hown : s.vm.findClass RJ0 = some m.cls := findClass_of_methodNamed Bd.named
  have hx := Bd.exec
  have hb := Bd.bytes
  have hS : va_S (fun q => B ≤ q) s.heap s.heap [] := va_S.rf
  have hB : B ≤ s.heap.size := by rw [hrel.1]; omega
  obtain ⟨adV, hV, hZ, hPq⟩ := hE.2.2.2.2.2.2.2
  refine j_entry (nL := 1) (Nat.le_of_ble_eq_true rfl) (fun ls hl => ?_)
  have hl : lv_has ls 1 [(0, .ref (ext (1000001 + j)))] := hl
  refine lv_aload_n hx hb dJ0_length_8abf5_0 rfl (lv_at hl 0 rfl) ?_
  refine vk_getf hx hb (hV.1 j hj).2.2.1 hS hown (hts _ sw_v) (fun x h => h) dJ0_length_8abf5_1 ?_
  refine va_tlen (v := nI (wdLen.getD j 0)) hx hb (hV.1 j hj).2.2.2 hS rfl dJ0_length_8abf5_4 ?_
  refine lv_aload_n hx hb dJ0_length_8abf5_5 rfl (lv_at hl 0 rfl) ?_
  refine j_callV (k := 1) (n := 0) (vs := []) (rest := [.int (nI (wdLen.getD j 0))]) hj hx hb hml hown hts hE hB hrel hS (sj_coder hj) sk_J0_coder_7d493 rfl (fun sig h => by cases h; rfl) sl_coder sm_J0_coder_7d493 se_J0_coder_7d493 (Nat.le_of_ble_eq_true rfl) (Nat.le_of_ble_eq_true rfl) ⟨Nat.le_refl _, Nat.le_refl _⟩ rfl hl.1 rfl (Nat.le_of_ble_eq_true rfl) dJ0_length_8abf5_6 (fun H1 locs1 hr1 hS1 => ?_)
  refine lv_ishr (x := nI (wdLen.getD j 0)) (y := 0) hx hb dJ0_length_8abf5_9 ?_
  rw [wd_shr j hj]
  exact W.iret (v := nI (wdLen.getD j 0)) hx hb Bd.returns (fun t ht hW => ⟨rfl, by rw [ht]; exact hr1, hS1.F ht⟩) hS1.2.2 dJ0_length_8abf5_10 Bd.notSynchronized
end
section
variable {K : aC} {B : Nat} {ext : Nat → Nat} {sc : Nat × (Nat → Int32)} {p : Program} {l : Launch} {e : Jvm.Env} {R : Room} {s : State} {m : MethodId} {args : Array Value} {below : List Frame} {meth : Method} {c : Code} {cno : Nat} {code : ByteArray} {mL : Nat} {rt : Option FieldType} {ini : Bool} {hs : List (Nat × Nat × Nat × Nat)} {d : Nat} {σ0 σ1 : aH} {Q : State → Prop} {C : aM → List Value → aH → aO → aH → Prop} {P : aO → aH → Prop}
theorem n_strL (hC : CX K B ext sc p l R s m args meth c cno code mL rt ini hs d σ0 σ1) : q_strL C cno code mL rt ini hs sc P (XX K B ext p l e R s m args below meth c mL Q σ0 σ1) := by
  obtain ⟨hx, hb, hml, hown, hts, hE, hr, hlk, hin, hRm, hB, htr, htab⟩ := hC
  intro pc lv st σ i j dd hl0 hw hj k0
  refine ⟨k0.1, fun g1 g2 H locs ls hR hS hl => ?_⟩
  have m1 := k0.1
  refine j_callV (k := 2) (n := 0) (vs := []) (rest := st.map (vmv (rho B ext))) hj hx hb hml hown hts hE hB hR hS (sj_length hj) sk_J0_length_8abf5 rfl (fun sig h => by cases h; rfl) (gwl_mem hl0 rfl) sm_J0_length_8abf5 se_J0_length_8abf5 (by rw [hRm]; show 2 + 1 ≤ d + 1 + 10; omega) (by rw [hRm]; show 8 + (1 + 11) + 40 * 2 ≤ 70 * (d + 1) + 300; omega) (by rw [hRm]; exact ⟨by show _ ≤ gN σ1 - gN σ0; omega, by show _ ≤ gW σ1 - gW σ0; omega⟩) rfl hl.1 (by show (vmv (rho B ext) (.ref (1000001 + j))) :: _ = _; rw [show vmv (rho B ext) (.ref (1000001 + j)) = .ref (rho B ext (1000001 + j)) from rfl, rho_s]; rfl) (by rw [catsum, cat_map]; exact hw) dd (fun H1 locs1 hr1 hS1 => ?_)
  exact k0.2 g1 g2 H1 locs1 ls hr1 hS1 hl
theorem n_strC (hC : CX K B ext sc p l R s m args meth c cno code mL rt ini hs d σ0 σ1) : q_strC C cno code mL rt ini hs sc P (XX K B ext p l e R s m args below meth c mL Q σ0 σ1) := by
  obtain ⟨hx, hb, hml, hown, hts, hE, hr, hlk, hin, hRm, hB, htr, htab⟩ := hC
  intro pc lv st σ i j k dd hl0 hw hj hk k0
  refine ⟨k0.1, fun g1 g2 H locs ls hR hS hl => ?_⟩
  have m1 := k0.1
  refine j_callV (k := 4) (n := 1) (vs := [.int (nI k)]) (rest := st.map (vmv (rho B ext))) hj hx hb hml hown hts hE hB hR hS (sj_charAt hj hk) sk_J0_charAt_5068e rfl (fun sig h => by cases h; rfl) (gwl_mem hl0 rfl) sm_J0_charAt_5068e se_J0_charAt_5068e (by rw [hRm]; show 4 + 1 ≤ d + 1 + 10; omega) (by rw [hRm]; show 8 + (2 + 11) + 40 * 4 ≤ 70 * (d + 1) + 300; omega) (by rw [hRm]; exact ⟨by show _ ≤ gN σ1 - gN σ0; omega, by show _ ≤ gW σ1 - gW σ0; omega⟩) rfl hl.1 (by show (Value.int (nI k)) :: (vmv (rho B ext) (.ref (1000001 + j))) :: _ = _; rw [show vmv (rho B ext) (.ref (1000001 + j)) = .ref (rho B ext (1000001 + j)) from rfl, rho_s]; rfl) (by rw [catsum, cat_map]; exact hw) dd (fun H1 locs1 hr1 hS1 => ?_)
  exact k0.2 g1 g2 H1 locs1 ls hr1 hS1 hl
end
