/-! THE RULES HOLD OF THE MACHINE. -/
def exN (e : Nat) : String := if e = 0 then "java/util/NoSuchElementException" else "java/lang/IllegalArgumentException"
def QcR (K : aC) (B : Nat) (ext : Nat → Nat) (v : Option Value) (σ1 : aH) : Array Value → State → Outcome → State → Prop := fun _ st o t => o = .returned (v.map (vmv (rho B ext))) ∧ Rel K B ext σ1 t.heap ∧ va_F (fun q => B ≤ q) st t
def XcR (K : aC) (B : Nat) (ext : Nat → Nat) (e : Nat) (σ1 : aH) : String → State → State → Prop := fun E st t => E = exN e ∧ Rel K B ext σ1 t.heap ∧ va_F (fun q => B ≤ q) st t
def Qf (K : aC) (B : Nat) (ext : Nat → Nat) (o : aO) (σ1 : aH) (below : List Frame) (args : Array Value) (s : State) (mc ms : Nat) : State → Prop := match o with
  | .inl v => MQ below (QcR K B ext v σ1) args s mc ms (fun q => B ≤ q)
  | .inr e => vx_MQ below (fun _ _ _ _ => False) (XcR K B ext e σ1) args s mc ms (fun q => B ≤ q)
def rmOf (d mc ms : Nat) : Room := { frames := d + 10, cells := mc, slots := ms, locals := 70 * d + 300 }
/-- where the walk of a method stands -/
def CX (K : aC) (B : Nat) (ext : Nat → Nat) (sc : Nat × (Nat → Int32)) (p : Program) (l : Launch) (R : Room) (s : State) (m : MethodId) (args : Array Value) (meth : Method) (c : Code) (cno : Nat) (code : ByteArray) (mL : Nat) (rt : Option FieldType) (ini : Bool) (hs : List (Nat × Nat × Nat × Nat)) (d : Nat) (σ0 σ1 : aH) : Prop :=
  p.tables.exec = Jvm.exec ∧ c.code = code ∧ c.maxLocals = mL ∧ s.vm.findClass (cn cno) = some m.cls ∧ (∀ w ∈ gwl, w.before args s = true) ∧ EnvA K B ext sc s ∧ meth.sig.returnType = rt ∧ meth.locks = false ∧ (ini = true → meth.name = "<init>") ∧ R = rmOf (d + 1) (gN σ1 - gN σ0) (gW σ1 - gW σ0) ∧ B ≤ s.heap.size ∧ l.stackTraces = false ∧ c.exceptionTable.toList = tableOf hs
def XX (K : aC) (B : Nat) (ext : Nat → Nat) (p : Program) (l : Launch) (e : Jvm.Env) (R : Room) (s : State) (m : MethodId) (args : Array Value) (below : List Frame) (meth : Method) (c : Code) (mL : Nat) (Q : State → Prop) (σ0 σ1 : aH) (pc : Nat) (lv : aL) (st : List Value) (σ : aH) : Prop :=
  (gN σ ≤ gN σ1 ∧ gW σ ≤ gW σ1) ∧ (gN σ0 ≤ gN σ → gW σ0 ≤ gW σ → ∀ (H : Heap) (locs : List Loc) (ls : Array Slot), Rel K B ext σ H → va_S (fun q => B ≤ q) s.heap H locs → lv_has ls mL (lmv (rho B ext) lv) → W p l e R s m args below meth c H locs (gN σ - gN σ0) (gW σ - gW σ0) Q (F0 m pc ls (st.map (vmv (rho B ext)))))
section
variable {K : aC} {B : Nat} {ext : Nat → Nat} {sc : Nat × (Nat → Int32)} {p : Program} {l : Launch} {e : Jvm.Env} {R : Room} {s : State} {m : MethodId} {args : Array Value} {below : List Frame} {meth : Method} {c : Code} {cno : Nat} {code : ByteArray} {mL : Nat} {rt : Option FieldType} {ini : Bool} {hs : List (Nat × Nat × Nat × Nat)} {d : Nat} {σ0 σ1 : aH} {Q : State → Prop} {C : aM → List Value → aH → aO → aH → Prop} {P : aO → aH → Prop}
theorem n_iconst (hC : CX K B ext sc p l R s m args meth c cno code mL rt ini hs d σ0 σ1) : q_iconst C cno code mL rt ini hs sc P (XX K B ext p l e R s m args below meth c mL Q σ0 σ1) := by
  obtain ⟨hx, hb, hml, hown, hts, hE, hr, hlk, hin, hRm, hB, htr, htab⟩ := hC
  intro pc lv st σ n v dd hv k0
  exact ⟨k0.1, fun g1 g2 H locs ls hR hS hl => lv_iconst hx hb dd hv (k0.2 g1 g2 H locs ls hR hS hl)⟩
theorem n_bipush (hC : CX K B ext sc p l R s m args meth c cno code mL rt ini hs d σ0 σ1) : q_bipush C cno code mL rt ini hs sc P (XX K B ext p l e R s m args below meth c mL Q σ0 σ1) := by
  obtain ⟨hx, hb, hml, hown, hts, hE, hr, hlk, hin, hRm, hB, htr, htab⟩ := hC
  intro pc lv st σ n v dd hv k0
  exact ⟨k0.1, fun g1 g2 H locs ls hR hS hl => lv_bipush hx hb dd hv (k0.2 g1 g2 H locs ls hR hS hl)⟩
theorem n_sipush (hC : CX K B ext sc p l R s m args meth c cno code mL rt ini hs d σ0 σ1) : q_sipush C cno code mL rt ini hs sc P (XX K B ext p l e R s m args below meth c mL Q σ0 σ1) := by
  obtain ⟨hx, hb, hml, hown, hts, hE, hr, hlk, hin, hRm, hB, htr, htab⟩ := hC
  intro pc lv st σ n v dd hv k0
  exact ⟨k0.1, fun g1 g2 H locs ls hR hS hl => lv_sipush hx hb dd hv (k0.2 g1 g2 H locs ls hR hS hl)⟩
theorem n_lconst (hC : CX K B ext sc p l R s m args meth c cno code mL rt ini hs d σ0 σ1) : q_lconst C cno code mL rt ini hs sc P (XX K B ext p l e R s m args below meth c mL Q σ0 σ1) := by
  obtain ⟨hx, hb, hml, hown, hts, hE, hr, hlk, hin, hRm, hB, htr, htab⟩ := hC
  intro pc lv st σ n v dd hv k0
  exact ⟨k0.1, fun g1 g2 H locs ls hR hS hl => lv_lconst hx hb dd hv (k0.2 g1 g2 H locs ls hR hS hl)⟩
theorem n_ldc (hC : CX K B ext sc p l R s m args meth c cno code mL rt ini hs d σ0 σ1) : q_ldc C cno code mL rt ini hs sc P (XX K B ext p l e R s m args below meth c mL Q σ0 σ1) := by
  obtain ⟨hx, hb, hml, hown, hts, hE, hr, hlk, hin, hRm, hB, htr, htab⟩ := hC
  intro pc lv st σ i v dd hc k0
  exact ⟨k0.1, fun g1 g2 H locs ls hR hS hl => lv_ldc hx hb hown (hts _ (gwl_mem hc rfl)) dd (k0.2 g1 g2 H locs ls hR hS hl)⟩
theorem n_ldcw (hC : CX K B ext sc p l R s m args meth c cno code mL rt ini hs d σ0 σ1) : q_ldcw C cno code mL rt ini hs sc P (XX K B ext p l e R s m args below meth c mL Q σ0 σ1) := by
  obtain ⟨hx, hb, hml, hown, hts, hE, hr, hlk, hin, hRm, hB, htr, htab⟩ := hC
  intro pc lv st σ i v dd hc k0
  exact ⟨k0.1, fun g1 g2 H locs ls hR hS hl => lv_ldcw hx hb hown (hts _ (gwl_mem hc rfl)) dd (k0.2 g1 g2 H locs ls hR hS hl)⟩
theorem n_ldc2 (hC : CX K B ext sc p l R s m args meth c cno code mL rt ini hs d σ0 σ1) : q_ldc2 C cno code mL rt ini hs sc P (XX K B ext p l e R s m args below meth c mL Q σ0 σ1) := by
  obtain ⟨hx, hb, hml, hown, hts, hE, hr, hlk, hin, hRm, hB, htr, htab⟩ := hC
  intro pc lv st σ i v dd hc k0
  exact ⟨k0.1, fun g1 g2 H locs ls hR hS hl => lv_ldc2 hx hb hown (hts _ (gwl_mem hc rfl)) dd (k0.2 g1 g2 H locs ls hR hS hl)⟩
theorem n_iload_n (hC : CX K B ext sc p l R s m args meth c cno code mL rt ini hs d σ0 σ1) : q_iload_n C cno code mL rt ini hs sc P (XX K B ext p l e R s m args below meth c mL Q σ0 σ1) := by
  obtain ⟨hx, hb, hml, hown, hts, hE, hr, hlk, hin, hRm, hB, htr, htab⟩ := hC
  intro pc lv st σ k i x dd hi hl0 k0
  exact ⟨k0.1, fun g1 g2 H locs ls hR hS hl => lv_iload_n hx hb dd hi (hl.2.2 _ (lmv_mem hl0)) (k0.2 g1 g2 H locs ls hR hS hl)⟩
theorem n_iload (hC : CX K B ext sc p l R s m args meth c cno code mL rt ini hs d σ0 σ1) : q_iload C cno code mL rt ini hs sc P (XX K B ext p l e R s m args below meth c mL Q σ0 σ1) := by
  obtain ⟨hx, hb, hml, hown, hts, hE, hr, hlk, hin, hRm, hB, htr, htab⟩ := hC
  intro pc lv st σ i x dd hl0 k0
  exact ⟨k0.1, fun g1 g2 H locs ls hR hS hl => lv_iload hx hb dd  (hl.2.2 _ (lmv_mem hl0)) (k0.2 g1 g2 H locs ls hR hS hl)⟩
theorem n_istore_n (hC : CX K B ext sc p l R s m args meth c cno code mL rt ini hs d σ0 σ1) : q_istore_n C cno code mL rt ini hs sc P (XX K B ext p l e R s m args below meth c mL Q σ0 σ1) := by
  obtain ⟨hx, hb, hml, hown, hts, hE, hr, hlk, hin, hRm, hB, htr, htab⟩ := hC
  intro pc lv st σ k i x l' dd hi hn hl0 k0
  refine ⟨k0.1, fun g1 g2 H locs ls hR hS hl => ?_⟩
  refine lv_istore_n hx hb dd hi hl hn rfl (fun ls' hl' => k0.2 g1 g2 H locs ls' hR hS ?_)
  subst hl0
  have e1 := lmv_filter (rho B ext) lv (fun a c => !(a == i) && !(a + 1 == i && c == 2))
  exact (congrArg (fun z => lv_has ls' mL ((i, Value.int x) :: z)) e1) ▸ hl'
theorem n_istore (hC : CX K B ext sc p l R s m args meth c cno code mL rt ini hs d σ0 σ1) : q_istore C cno code mL rt ini hs sc P (XX K B ext p l e R s m args below meth c mL Q σ0 σ1) := by
  obtain ⟨hx, hb, hml, hown, hts, hE, hr, hlk, hin, hRm, hB, htr, htab⟩ := hC
  intro pc lv st σ i x l' dd hn hl0 k0
  refine ⟨k0.1, fun g1 g2 H locs ls hR hS hl => ?_⟩
  refine lv_istore hx hb dd hl hn rfl (fun ls' hl' => k0.2 g1 g2 H locs ls' hR hS ?_)
  subst hl0
  have e1 := lmv_filter (rho B ext) lv (fun a c => !(a == i) && !(a + 1 == i && c == 2))
  exact (congrArg (fun z => lv_has ls' mL ((i, Value.int x) :: z)) e1) ▸ hl'
theorem n_lload_n (hC : CX K B ext sc p l R s m args meth c cno code mL rt ini hs d σ0 σ1) : q_lload_n C cno code mL rt ini hs sc P (XX K B ext p l e R s m args below meth c mL Q σ0 σ1) := by
  obtain ⟨hx, hb, hml, hown, hts, hE, hr, hlk, hin, hRm, hB, htr, htab⟩ := hC
  intro pc lv st σ k i x dd hi hl0 k0
  exact ⟨k0.1, fun g1 g2 H locs ls hR hS hl => lv_lload_n hx hb dd hi (hl.2.2 _ (lmv_mem hl0)) (k0.2 g1 g2 H locs ls hR hS hl)⟩
theorem n_lload (hC : CX K B ext sc p l R s m args meth c cno code mL rt ini hs d σ0 σ1) : q_lload C cno code mL rt ini hs sc P (XX K B ext p l e R s m args below meth c mL Q σ0 σ1) := by
  obtain ⟨hx, hb, hml, hown, hts, hE, hr, hlk, hin, hRm, hB, htr, htab⟩ := hC
  intro pc lv st σ i x dd hl0 k0
  exact ⟨k0.1, fun g1 g2 H locs ls hR hS hl => lv_lload hx hb dd  (hl.2.2 _ (lmv_mem hl0)) (k0.2 g1 g2 H locs ls hR hS hl)⟩
theorem n_lstore_n (hC : CX K B ext sc p l R s m args meth c cno code mL rt ini hs d σ0 σ1) : q_lstore_n C cno code mL rt ini hs sc P (XX K B ext p l e R s m args below meth c mL Q σ0 σ1) := by
  obtain ⟨hx, hb, hml, hown, hts, hE, hr, hlk, hin, hRm, hB, htr, htab⟩ := hC
  intro pc lv st σ k i x l' dd hi hn hl0 k0
  refine ⟨k0.1, fun g1 g2 H locs ls hR hS hl => ?_⟩
  refine lv_lstore_n hx hb dd hi hl hn rfl (fun ls' hl' => k0.2 g1 g2 H locs ls' hR hS ?_)
  subst hl0
  have e1 := lmv_filter (rho B ext) lv (fun a c => !(a == i) && (!(a == i + 1) && !(a + 1 == i && c == 2)))
  exact (congrArg (fun z => lv_has ls' mL ((i, Value.long x) :: z)) e1) ▸ hl'
theorem n_lstore (hC : CX K B ext sc p l R s m args meth c cno code mL rt ini hs d σ0 σ1) : q_lstore C cno code mL rt ini hs sc P (XX K B ext p l e R s m args below meth c mL Q σ0 σ1) := by
  obtain ⟨hx, hb, hml, hown, hts, hE, hr, hlk, hin, hRm, hB, htr, htab⟩ := hC
  intro pc lv st σ i x l' dd hn hl0 k0
  refine ⟨k0.1, fun g1 g2 H locs ls hR hS hl => ?_⟩
  refine lv_lstore hx hb dd hl hn rfl (fun ls' hl' => k0.2 g1 g2 H locs ls' hR hS ?_)
  subst hl0
  have e1 := lmv_filter (rho B ext) lv (fun a c => !(a == i) && (!(a == i + 1) && !(a + 1 == i && c == 2)))
  exact (congrArg (fun z => lv_has ls' mL ((i, Value.long x) :: z)) e1) ▸ hl'
theorem n_aload_n (hC : CX K B ext sc p l R s m args meth c cno code mL rt ini hs d σ0 σ1) : q_aload_n C cno code mL rt ini hs sc P (XX K B ext p l e R s m args below meth c mL Q σ0 σ1) := by
  obtain ⟨hx, hb, hml, hown, hts, hE, hr, hlk, hin, hRm, hB, htr, htab⟩ := hC
  intro pc lv st σ k i x dd hi hl0 k0
  exact ⟨k0.1, fun g1 g2 H locs ls hR hS hl => lv_aload_n hx hb dd hi (hl.2.2 _ (lmv_mem hl0)) (k0.2 g1 g2 H locs ls hR hS hl)⟩
theorem n_aload (hC : CX K B ext sc p l R s m args meth c cno code mL rt ini hs d σ0 σ1) : q_aload C cno code mL rt ini hs sc P (XX K B ext p l e R s m args below meth c mL Q σ0 σ1) := by
  obtain ⟨hx, hb, hml, hown, hts, hE, hr, hlk, hin, hRm, hB, htr, htab⟩ := hC
  intro pc lv st σ i x dd hl0 k0
  exact ⟨k0.1, fun g1 g2 H locs ls hR hS hl => lv_aload hx hb dd  (hl.2.2 _ (lmv_mem hl0)) (k0.2 g1 g2 H locs ls hR hS hl)⟩
theorem n_astore_n (hC : CX K B ext sc p l R s m args meth c cno code mL rt ini hs d σ0 σ1) : q_astore_n C cno code mL rt ini hs sc P (XX K B ext p l e R s m args below meth c mL Q σ0 σ1) := by
  obtain ⟨hx, hb, hml, hown, hts, hE, hr, hlk, hin, hRm, hB, htr, htab⟩ := hC
  intro pc lv st σ k i x l' dd hi hn hl0 k0
  refine ⟨k0.1, fun g1 g2 H locs ls hR hS hl => ?_⟩
  refine lv_astore_n hx hb dd hi hl hn rfl (fun ls' hl' => k0.2 g1 g2 H locs ls' hR hS ?_)
  subst hl0
  have e1 := lmv_filter (rho B ext) lv (fun a c => !(a == i) && !(a + 1 == i && c == 2))
  exact (congrArg (fun z => lv_has ls' mL ((i, Value.ref (rho B ext x)) :: z)) e1) ▸ hl'
theorem n_astore (hC : CX K B ext sc p l R s m args meth c cno code mL rt ini hs d σ0 σ1) : q_astore C cno code mL rt ini hs sc P (XX K B ext p l e R s m args below meth c mL Q σ0 σ1) := by
  obtain ⟨hx, hb, hml, hown, hts, hE, hr, hlk, hin, hRm, hB, htr, htab⟩ := hC
  intro pc lv st σ i x l' dd hn hl0 k0
  refine ⟨k0.1, fun g1 g2 H locs ls hR hS hl => ?_⟩
  refine lv_astore hx hb dd hl hn rfl (fun ls' hl' => k0.2 g1 g2 H locs ls' hR hS ?_)
  subst hl0
  have e1 := lmv_filter (rho B ext) lv (fun a c => !(a == i) && !(a + 1 == i && c == 2))
  exact (congrArg (fun z => lv_has ls' mL ((i, Value.ref (rho B ext x)) :: z)) e1) ▸ hl'
theorem n_iinc (hC : CX K B ext sc p l R s m args meth c cno code mL rt ini hs d σ0 σ1) : q_iinc C cno code mL rt ini hs sc P (XX K B ext p l e R s m args below meth c mL Q σ0 σ1) := by
  obtain ⟨hx, hb, hml, hown, hts, hE, hr, hlk, hin, hRm, hB, htr, htab⟩ := hC
  intro pc lv st σ i n x v l' dd hk hv hn hl0 k0
  refine ⟨k0.1, fun g1 g2 H locs ls hR hS hl => ?_⟩
  obtain ⟨kk, hkk⟩ := List.getElem?_of_mem (lmv_mem (ρ := rho B ext) hk)
  refine lv_iinc hx hb dd hl hkk hv hn rfl (fun ls' hl' => k0.2 g1 g2 H locs ls' hR hS ?_)
  subst hl0
  have e1 := lmv_filter (rho B ext) lv (fun a c => !(a == i) && !(a + 1 == i && c == 2))
  exact (congrArg (fun z => lv_has ls' mL ((i, Value.int v) :: z)) e1) ▸ hl'
theorem n_iadd (hC : CX K B ext sc p l R s m args meth c cno code mL rt ini hs d σ0 σ1) : q_iadd C cno code mL rt ini hs sc P (XX K B ext p l e R s m args below meth c mL Q σ0 σ1) := by
  obtain ⟨hx, hb, hml, hown, hts, hE, hr, hlk, hin, hRm, hB, htr, htab⟩ := hC
  intro pc lv st σ x y dd k0
  exact ⟨k0.1, fun g1 g2 H locs ls hR hS hl => lv_iadd hx hb dd (k0.2 g1 g2 H locs ls hR hS hl)⟩
theorem n_isub (hC : CX K B ext sc p l R s m args meth c cno code mL rt ini hs d σ0 σ1) : q_isub C cno code mL rt ini hs sc P (XX K B ext p l e R s m args below meth c mL Q σ0 σ1) := by
  obtain ⟨hx, hb, hml, hown, hts, hE, hr, hlk, hin, hRm, hB, htr, htab⟩ := hC
  intro pc lv st σ x y dd k0
  exact ⟨k0.1, fun g1 g2 H locs ls hR hS hl => lv_isub hx hb dd (k0.2 g1 g2 H locs ls hR hS hl)⟩
theorem n_imul (hC : CX K B ext sc p l R s m args meth c cno code mL rt ini hs d σ0 σ1) : q_imul C cno code mL rt ini hs sc P (XX K B ext p l e R s m args below meth c mL Q σ0 σ1) := by
  obtain ⟨hx, hb, hml, hown, hts, hE, hr, hlk, hin, hRm, hB, htr, htab⟩ := hC
  intro pc lv st σ x y dd k0
  exact ⟨k0.1, fun g1 g2 H locs ls hR hS hl => lv_imul hx hb dd (k0.2 g1 g2 H locs ls hR hS hl)⟩
theorem n_iand (hC : CX K B ext sc p l R s m args meth c cno code mL rt ini hs d σ0 σ1) : q_iand C cno code mL rt ini hs sc P (XX K B ext p l e R s m args below meth c mL Q σ0 σ1) := by
  obtain ⟨hx, hb, hml, hown, hts, hE, hr, hlk, hin, hRm, hB, htr, htab⟩ := hC
  intro pc lv st σ x y dd k0
  exact ⟨k0.1, fun g1 g2 H locs ls hR hS hl => lv_iand hx hb dd (k0.2 g1 g2 H locs ls hR hS hl)⟩
theorem n_ior (hC : CX K B ext sc p l R s m args meth c cno code mL rt ini hs d σ0 σ1) : q_ior C cno code mL rt ini hs sc P (XX K B ext p l e R s m args below meth c mL Q σ0 σ1) := by
  obtain ⟨hx, hb, hml, hown, hts, hE, hr, hlk, hin, hRm, hB, htr, htab⟩ := hC
  intro pc lv st σ x y dd k0
  exact ⟨k0.1, fun g1 g2 H locs ls hR hS hl => lv_ior hx hb dd (k0.2 g1 g2 H locs ls hR hS hl)⟩
theorem n_ixor (hC : CX K B ext sc p l R s m args meth c cno code mL rt ini hs d σ0 σ1) : q_ixor C cno code mL rt ini hs sc P (XX K B ext p l e R s m args below meth c mL Q σ0 σ1) := by
  obtain ⟨hx, hb, hml, hown, hts, hE, hr, hlk, hin, hRm, hB, htr, htab⟩ := hC
  intro pc lv st σ x y dd k0
  exact ⟨k0.1, fun g1 g2 H locs ls hR hS hl => lv_ixor hx hb dd (k0.2 g1 g2 H locs ls hR hS hl)⟩
theorem n_ishl (hC : CX K B ext sc p l R s m args meth c cno code mL rt ini hs d σ0 σ1) : q_ishl C cno code mL rt ini hs sc P (XX K B ext p l e R s m args below meth c mL Q σ0 σ1) := by
  obtain ⟨hx, hb, hml, hown, hts, hE, hr, hlk, hin, hRm, hB, htr, htab⟩ := hC
  intro pc lv st σ x y dd k0
  exact ⟨k0.1, fun g1 g2 H locs ls hR hS hl => lv_ishl hx hb dd (k0.2 g1 g2 H locs ls hR hS hl)⟩
theorem n_ishr (hC : CX K B ext sc p l R s m args meth c cno code mL rt ini hs d σ0 σ1) : q_ishr C cno code mL rt ini hs sc P (XX K B ext p l e R s m args below meth c mL Q σ0 σ1) := by
  obtain ⟨hx, hb, hml, hown, hts, hE, hr, hlk, hin, hRm, hB, htr, htab⟩ := hC
  intro pc lv st σ x y dd k0
  exact ⟨k0.1, fun g1 g2 H locs ls hR hS hl => lv_ishr hx hb dd (k0.2 g1 g2 H locs ls hR hS hl)⟩
theorem n_iushr (hC : CX K B ext sc p l R s m args meth c cno code mL rt ini hs d σ0 σ1) : q_iushr C cno code mL rt ini hs sc P (XX K B ext p l e R s m args below meth c mL Q σ0 σ1) := by
  obtain ⟨hx, hb, hml, hown, hts, hE, hr, hlk, hin, hRm, hB, htr, htab⟩ := hC
  intro pc lv st σ x y dd k0
  exact ⟨k0.1, fun g1 g2 H locs ls hR hS hl => lv_iushr hx hb dd rfl (k0.2 g1 g2 H locs ls hR hS hl)⟩
theorem n_idiv (hC : CX K B ext sc p l R s m args meth c cno code mL rt ini hs d σ0 σ1) : q_idiv C cno code mL rt ini hs sc P (XX K B ext p l e R s m args below meth c mL Q σ0 σ1) := by
  obtain ⟨hx, hb, hml, hown, hts, hE, hr, hlk, hin, hRm, hB, htr, htab⟩ := hC
  intro pc lv st σ x y dd hne k0
  exact ⟨k0.1, fun g1 g2 H locs ls hR hS hl => lv_idiv hx hb dd hne (k0.2 g1 g2 H locs ls hR hS hl)⟩
theorem n_irem (hC : CX K B ext sc p l R s m args meth c cno code mL rt ini hs d σ0 σ1) : q_irem C cno code mL rt ini hs sc P (XX K B ext p l e R s m args below meth c mL Q σ0 σ1) := by
  obtain ⟨hx, hb, hml, hown, hts, hE, hr, hlk, hin, hRm, hB, htr, htab⟩ := hC
  intro pc lv st σ x y dd hne k0
  exact ⟨k0.1, fun g1 g2 H locs ls hR hS hl => lv_irem hx hb dd hne (k0.2 g1 g2 H locs ls hR hS hl)⟩
theorem n_ineg (hC : CX K B ext sc p l R s m args meth c cno code mL rt ini hs d σ0 σ1) : q_ineg C cno code mL rt ini hs sc P (XX K B ext p l e R s m args below meth c mL Q σ0 σ1) := by
  obtain ⟨hx, hb, hml, hown, hts, hE, hr, hlk, hin, hRm, hB, htr, htab⟩ := hC
  intro pc lv st σ x dd k0
  exact ⟨k0.1, fun g1 g2 H locs ls hR hS hl => lv_ineg hx hb dd (k0.2 g1 g2 H locs ls hR hS hl)⟩
theorem n_i2l (hC : CX K B ext sc p l R s m args meth c cno code mL rt ini hs d σ0 σ1) : q_i2l C cno code mL rt ini hs sc P (XX K B ext p l e R s m args below meth c mL Q σ0 σ1) := by
  obtain ⟨hx, hb, hml, hown, hts, hE, hr, hlk, hin, hRm, hB, htr, htab⟩ := hC
  intro pc lv st σ x dd k0
  exact ⟨k0.1, fun g1 g2 H locs ls hR hS hl => lv_i2l hx hb dd rfl (k0.2 g1 g2 H locs ls hR hS hl)⟩
theorem n_i2b (hC : CX K B ext sc p l R s m args meth c cno code mL rt ini hs d σ0 σ1) : q_i2b C cno code mL rt ini hs sc P (XX K B ext p l e R s m args below meth c mL Q σ0 σ1) := by
  obtain ⟨hx, hb, hml, hown, hts, hE, hr, hlk, hin, hRm, hB, htr, htab⟩ := hC
  intro pc lv st σ x dd k0
  exact ⟨k0.1, fun g1 g2 H locs ls hR hS hl => lv_i2b hx hb dd rfl (k0.2 g1 g2 H locs ls hR hS hl)⟩
theorem n_ladd (hC : CX K B ext sc p l R s m args meth c cno code mL rt ini hs d σ0 σ1) : q_ladd C cno code mL rt ini hs sc P (XX K B ext p l e R s m args below meth c mL Q σ0 σ1) := by
  obtain ⟨hx, hb, hml, hown, hts, hE, hr, hlk, hin, hRm, hB, htr, htab⟩ := hC
  intro pc lv st σ x y dd k0
  exact ⟨k0.1, fun g1 g2 H locs ls hR hS hl => lv_ladd hx hb dd (k0.2 g1 g2 H locs ls hR hS hl)⟩
theorem n_lsub (hC : CX K B ext sc p l R s m args meth c cno code mL rt ini hs d σ0 σ1) : q_lsub C cno code mL rt ini hs sc P (XX K B ext p l e R s m args below meth c mL Q σ0 σ1) := by
  obtain ⟨hx, hb, hml, hown, hts, hE, hr, hlk, hin, hRm, hB, htr, htab⟩ := hC
  intro pc lv st σ x y dd k0
  exact ⟨k0.1, fun g1 g2 H locs ls hR hS hl => lv_lsub hx hb dd (k0.2 g1 g2 H locs ls hR hS hl)⟩
theorem n_lmul (hC : CX K B ext sc p l R s m args meth c cno code mL rt ini hs d σ0 σ1) : q_lmul C cno code mL rt ini hs sc P (XX K B ext p l e R s m args below meth c mL Q σ0 σ1) := by
  obtain ⟨hx, hb, hml, hown, hts, hE, hr, hlk, hin, hRm, hB, htr, htab⟩ := hC
  intro pc lv st σ x y dd k0
  exact ⟨k0.1, fun g1 g2 H locs ls hR hS hl => lv_lmul hx hb dd (k0.2 g1 g2 H locs ls hR hS hl)⟩
theorem n_lor (hC : CX K B ext sc p l R s m args meth c cno code mL rt ini hs d σ0 σ1) : q_lor C cno code mL rt ini hs sc P (XX K B ext p l e R s m args below meth c mL Q σ0 σ1) := by
  obtain ⟨hx, hb, hml, hown, hts, hE, hr, hlk, hin, hRm, hB, htr, htab⟩ := hC
  intro pc lv st σ x y dd k0
  exact ⟨k0.1, fun g1 g2 H locs ls hR hS hl => lv_lor hx hb dd (k0.2 g1 g2 H locs ls hR hS hl)⟩
theorem n_lshl (hC : CX K B ext sc p l R s m args meth c cno code mL rt ini hs d σ0 σ1) : q_lshl C cno code mL rt ini hs sc P (XX K B ext p l e R s m args below meth c mL Q σ0 σ1) := by
  obtain ⟨hx, hb, hml, hown, hts, hE, hr, hlk, hin, hRm, hB, htr, htab⟩ := hC
  intro pc lv st σ x y dd k0
  exact ⟨k0.1, fun g1 g2 H locs ls hR hS hl => lv_lshl hx hb dd rfl (k0.2 g1 g2 H locs ls hR hS hl)⟩
theorem n_lcmp (hC : CX K B ext sc p l R s m args meth c cno code mL rt ini hs d σ0 σ1) : q_lcmp C cno code mL rt ini hs sc P (XX K B ext p l e R s m args below meth c mL Q σ0 σ1) := by
  obtain ⟨hx, hb, hml, hown, hts, hE, hr, hlk, hin, hRm, hB, htr, htab⟩ := hC
  intro pc lv st σ x y dd k0
  exact ⟨k0.1, fun g1 g2 H locs ls hR hS hl => W.lcmp hx hb dd (k0.2 g1 g2 H locs ls hR hS hl)⟩
theorem n_dup (hC : CX K B ext sc p l R s m args meth c cno code mL rt ini hs d σ0 σ1) : q_dup C cno code mL rt ini hs sc P (XX K B ext p l e R s m args below meth c mL Q σ0 σ1) := by
  obtain ⟨hx, hb, hml, hown, hts, hE, hr, hlk, hin, hRm, hB, htr, htab⟩ := hC
  intro pc lv st σ v dd hv k0
  exact ⟨k0.1, fun g1 g2 H locs ls hR hS hl => lv_dup hx hb dd (by rw [vmv_cat]; exact hv) (k0.2 g1 g2 H locs ls hR hS hl)⟩
theorem n_pop (hC : CX K B ext sc p l R s m args meth c cno code mL rt ini hs d σ0 σ1) : q_pop C cno code mL rt ini hs sc P (XX K B ext p l e R s m args below meth c mL Q σ0 σ1) := by
  obtain ⟨hx, hb, hml, hown, hts, hE, hr, hlk, hin, hRm, hB, htr, htab⟩ := hC
  intro pc lv st σ v dd hv k0
  exact ⟨k0.1, fun g1 g2 H locs ls hR hS hl => lv_pop hx hb dd (by rw [vmv_cat]; exact hv) (k0.2 g1 g2 H locs ls hR hS hl)⟩
theorem n_dup2 (hC : CX K B ext sc p l R s m args meth c cno code mL rt ini hs d σ0 σ1) : q_dup2 C cno code mL rt ini hs sc P (XX K B ext p l e R s m args below meth c mL Q σ0 σ1) := by
  obtain ⟨hx, hb, hml, hown, hts, hE, hr, hlk, hin, hRm, hB, htr, htab⟩ := hC
  intro pc lv st σ v w dd hv hw k0
  exact ⟨k0.1, fun g1 g2 H locs ls hR hS hl => lv_dup2_11 hx hb dd (by rw [vmv_cat]; exact hv) (by rw [vmv_cat]; exact hw) (k0.2 g1 g2 H locs ls hR hS hl)⟩
theorem n_if_eq (hC : CX K B ext sc p l R s m args meth c cno code mL rt ini hs d σ0 σ1) : q_if_eq C cno code mL rt ini hs sc P (XX K B ext p l e R s m args below meth c mL Q σ0 σ1) := by
  obtain ⟨hx, hb, hml, hown, hts, hE, hr, hlk, hin, hRm, hB, htr, htab⟩ := hC
  intro pc lv st σ x off tgt dd ht k0 k1
  exact ⟨(Classical.em (x = 0)).elim (fun h => (k0 h).1) (fun h => (k1 h).1), fun g1 g2 H locs ls hR hS hl => lv_if_eq hx hb dd ht (fun h => (k0 h).2 g1 g2 H locs ls hR hS hl) (fun h => (k1 h).2 g1 g2 H locs ls hR hS hl)⟩
theorem n_if_ne (hC : CX K B ext sc p l R s m args meth c cno code mL rt ini hs d σ0 σ1) : q_if_ne C cno code mL rt ini hs sc P (XX K B ext p l e R s m args below meth c mL Q σ0 σ1) := by
  obtain ⟨hx, hb, hml, hown, hts, hE, hr, hlk, hin, hRm, hB, htr, htab⟩ := hC
  intro pc lv st σ x off tgt dd ht k0 k1
  exact ⟨(Classical.em (¬ x = 0)).elim (fun h => (k0 h).1) (fun h => (k1 (Classical.not_not.mp h)).1), fun g1 g2 H locs ls hR hS hl => lv_if_ne hx hb dd ht (fun h => (k0 h).2 g1 g2 H locs ls hR hS hl) (fun h => (k1 h).2 g1 g2 H locs ls hR hS hl)⟩
theorem n_if_lt (hC : CX K B ext sc p l R s m args meth c cno code mL rt ini hs d σ0 σ1) : q_if_lt C cno code mL rt ini hs sc P (XX K B ext p l e R s m args below meth c mL Q σ0 σ1) := by
  obtain ⟨hx, hb, hml, hown, hts, hE, hr, hlk, hin, hRm, hB, htr, htab⟩ := hC
  intro pc lv st σ x off tgt dd ht k0 k1
  exact ⟨(Classical.em (x < 0)).elim (fun h => (k0 h).1) (fun h => (k1 h).1), fun g1 g2 H locs ls hR hS hl => lv_if_lt hx hb dd ht (fun h => (k0 h).2 g1 g2 H locs ls hR hS hl) (fun h => (k1 h).2 g1 g2 H locs ls hR hS hl)⟩
theorem n_if_ge (hC : CX K B ext sc p l R s m args meth c cno code mL rt ini hs d σ0 σ1) : q_if_ge C cno code mL rt ini hs sc P (XX K B ext p l e R s m args below meth c mL Q σ0 σ1) := by
  obtain ⟨hx, hb, hml, hown, hts, hE, hr, hlk, hin, hRm, hB, htr, htab⟩ := hC
  intro pc lv st σ x off tgt dd ht k0 k1
  exact ⟨(Classical.em (0 ≤ x)).elim (fun h => (k0 h).1) (fun h => (k1 h).1), fun g1 g2 H locs ls hR hS hl => lv_if_ge hx hb dd ht (fun h => (k0 h).2 g1 g2 H locs ls hR hS hl) (fun h => (k1 h).2 g1 g2 H locs ls hR hS hl)⟩
theorem n_if_gt (hC : CX K B ext sc p l R s m args meth c cno code mL rt ini hs d σ0 σ1) : q_if_gt C cno code mL rt ini hs sc P (XX K B ext p l e R s m args below meth c mL Q σ0 σ1) := by
  obtain ⟨hx, hb, hml, hown, hts, hE, hr, hlk, hin, hRm, hB, htr, htab⟩ := hC
  intro pc lv st σ x off tgt dd ht k0 k1
  exact ⟨(Classical.em (0 < x)).elim (fun h => (k0 h).1) (fun h => (k1 h).1), fun g1 g2 H locs ls hR hS hl => lv_if_gt hx hb dd ht (fun h => (k0 h).2 g1 g2 H locs ls hR hS hl) (fun h => (k1 h).2 g1 g2 H locs ls hR hS hl)⟩
theorem n_if_le (hC : CX K B ext sc p l R s m args meth c cno code mL rt ini hs d σ0 σ1) : q_if_le C cno code mL rt ini hs sc P (XX K B ext p l e R s m args below meth c mL Q σ0 σ1) := by
  obtain ⟨hx, hb, hml, hown, hts, hE, hr, hlk, hin, hRm, hB, htr, htab⟩ := hC
  intro pc lv st σ x off tgt dd ht k0 k1
  exact ⟨(Classical.em (x ≤ 0)).elim (fun h => (k0 h).1) (fun h => (k1 h).1), fun g1 g2 H locs ls hR hS hl => lv_if_le hx hb dd ht (fun h => (k0 h).2 g1 g2 H locs ls hR hS hl) (fun h => (k1 h).2 g1 g2 H locs ls hR hS hl)⟩
theorem n_icmp_eq (hC : CX K B ext sc p l R s m args meth c cno code mL rt ini hs d σ0 σ1) : q_icmp_eq C cno code mL rt ini hs sc P (XX K B ext p l e R s m args below meth c mL Q σ0 σ1) := by
  obtain ⟨hx, hb, hml, hown, hts, hE, hr, hlk, hin, hRm, hB, htr, htab⟩ := hC
  intro pc lv st σ x y off tgt dd ht k0 k1
  exact ⟨(Classical.em (x = y)).elim (fun h => (k0 h).1) (fun h => (k1 h).1), fun g1 g2 H locs ls hR hS hl => lv_icmp_eq hx hb dd ht (fun h => (k0 h).2 g1 g2 H locs ls hR hS hl) (fun h => (k1 h).2 g1 g2 H locs ls hR hS hl)⟩
theorem n_icmp_ne (hC : CX K B ext sc p l R s m args meth c cno code mL rt ini hs d σ0 σ1) : q_icmp_ne C cno code mL rt ini hs sc P (XX K B ext p l e R s m args below meth c mL Q σ0 σ1) := by
  obtain ⟨hx, hb, hml, hown, hts, hE, hr, hlk, hin, hRm, hB, htr, htab⟩ := hC
  intro pc lv st σ x y off tgt dd ht k0 k1
  exact ⟨(Classical.em (¬ x = y)).elim (fun h => (k0 h).1) (fun h => (k1 (Classical.not_not.mp h)).1), fun g1 g2 H locs ls hR hS hl => lv_icmp_ne hx hb dd ht (fun h => (k0 h).2 g1 g2 H locs ls hR hS hl) (fun h => (k1 h).2 g1 g2 H locs ls hR hS hl)⟩
theorem n_icmp_lt (hC : CX K B ext sc p l R s m args meth c cno code mL rt ini hs d σ0 σ1) : q_icmp_lt C cno code mL rt ini hs sc P (XX K B ext p l e R s m args below meth c mL Q σ0 σ1) := by
  obtain ⟨hx, hb, hml, hown, hts, hE, hr, hlk, hin, hRm, hB, htr, htab⟩ := hC
  intro pc lv st σ x y off tgt dd ht k0 k1
  exact ⟨(Classical.em (x < y)).elim (fun h => (k0 h).1) (fun h => (k1 h).1), fun g1 g2 H locs ls hR hS hl => lv_icmp_lt hx hb dd ht (fun h => (k0 h).2 g1 g2 H locs ls hR hS hl) (fun h => (k1 h).2 g1 g2 H locs ls hR hS hl)⟩
theorem n_icmp_ge (hC : CX K B ext sc p l R s m args meth c cno code mL rt ini hs d σ0 σ1) : q_icmp_ge C cno code mL rt ini hs sc P (XX K B ext p l e R s m args below meth c mL Q σ0 σ1) := by
  obtain ⟨hx, hb, hml, hown, hts, hE, hr, hlk, hin, hRm, hB, htr, htab⟩ := hC
  intro pc lv st σ x y off tgt dd ht k0 k1
  exact ⟨(Classical.em (y ≤ x)).elim (fun h => (k0 h).1) (fun h => (k1 h).1), fun g1 g2 H locs ls hR hS hl => lv_icmp_ge hx hb dd ht (fun h => (k0 h).2 g1 g2 H locs ls hR hS hl) (fun h => (k1 h).2 g1 g2 H locs ls hR hS hl)⟩
theorem n_icmp_gt (hC : CX K B ext sc p l R s m args meth c cno code mL rt ini hs d σ0 σ1) : q_icmp_gt C cno code mL rt ini hs sc P (XX K B ext p l e R s m args below meth c mL Q σ0 σ1) := by
  obtain ⟨hx, hb, hml, hown, hts, hE, hr, hlk, hin, hRm, hB, htr, htab⟩ := hC
  intro pc lv st σ x y off tgt dd ht k0 k1
  exact ⟨(Classical.em (y < x)).elim (fun h => (k0 h).1) (fun h => (k1 h).1), fun g1 g2 H locs ls hR hS hl => lv_icmp_gt hx hb dd ht (fun h => (k0 h).2 g1 g2 H locs ls hR hS hl) (fun h => (k1 h).2 g1 g2 H locs ls hR hS hl)⟩
theorem n_icmp_le (hC : CX K B ext sc p l R s m args meth c cno code mL rt ini hs d σ0 σ1) : q_icmp_le C cno code mL rt ini hs sc P (XX K B ext p l e R s m args below meth c mL Q σ0 σ1) := by
  obtain ⟨hx, hb, hml, hown, hts, hE, hr, hlk, hin, hRm, hB, htr, htab⟩ := hC
  intro pc lv st σ x y off tgt dd ht k0 k1
  exact ⟨(Classical.em (x ≤ y)).elim (fun h => (k0 h).1) (fun h => (k1 h).1), fun g1 g2 H locs ls hR hS hl => lv_icmp_le hx hb dd ht (fun h => (k0 h).2 g1 g2 H locs ls hR hS hl) (fun h => (k1 h).2 g1 g2 H locs ls hR hS hl)⟩
theorem n_goto (hC : CX K B ext sc p l R s m args meth c cno code mL rt ini hs d σ0 σ1) : q_goto C cno code mL rt ini hs sc P (XX K B ext p l e R s m args below meth c mL Q σ0 σ1) := by
  obtain ⟨hx, hb, hml, hown, hts, hE, hr, hlk, hin, hRm, hB, htr, htab⟩ := hC
  intro pc lv st σ off tgt dd ht k0
  exact ⟨k0.1, fun g1 g2 H locs ls hR hS hl => lv_goto hx hb dd ht (k0.2 g1 g2 H locs ls hR hS hl)⟩
theorem n_tabIn (hC : CX K B ext sc p l R s m args meth c cno code mL rt ini hs d σ0 σ1) : q_tabIn C cno code mL rt ini hs sc P (XX K B ext p l e R s m args below meth c mL Q σ0 σ1) := by
  obtain ⟨hx, hb, hml, hown, hts, hE, hr, hlk, hin, hRm, hB, htr, htab⟩ := hC
  intro pc lv st σ dflt lo hi offs len x off tgt dd h1 h2 ho ht k0
  exact ⟨k0.1, fun g1 g2 H locs ls hR hS hl => lv_tableIn hx hb dd h1 h2 ho ht (k0.2 g1 g2 H locs ls hR hS hl)⟩
theorem n_tabOut (hC : CX K B ext sc p l R s m args meth c cno code mL rt ini hs d σ0 σ1) : q_tabOut C cno code mL rt ini hs sc P (XX K B ext p l e R s m args below meth c mL Q σ0 σ1) := by
  obtain ⟨hx, hb, hml, hown, hts, hE, hr, hlk, hin, hRm, hB, htr, htab⟩ := hC
  intro pc lv st σ dflt lo hi offs len x tgt dd h1 ht k0
  exact ⟨k0.1, fun g1 g2 H locs ls hR hS hl => lv_tableOut hx hb dd h1 ht (k0.2 g1 g2 H locs ls hR hS hl)⟩
end
