/-! the rules of making, of the JDK's own, of ends -/
theorem ac_int : Cond.arrayClass .int ∈ lw_tbl := by decide +kernel
theorem ac_byte : Cond.arrayClass .byte ∈ lw_tbl := by decide +kernel
theorem ac_long : Cond.arrayClass .long ∈ lw_tbl := by decide +kernel
theorem oi_i : Cond.instanceMethod objectInit ∈ lw_tbl := by decide +kernel
theorem mx_s : Cond.static Lib.Math.max.name ∈ lw_tbl := by decide +kernel
theorem mi_s : Cond.static Lib.Math.min.name ∈ lw_tbl := by decide +kernel
theorem mb_s : Cond.static Lib.Math.abs.name ∈ lw_tbl := by decide +kernel
set_option maxRecDepth 100000 in
theorem oi_c : Cond.code objectInit ⟨#[0xb1]⟩ 1 none ∈ lw_tbl := List.mem_of_getElem? (i := 170) rfl
set_option maxRecDepth 100000 in
theorem mx_c : Cond.code Lib.Math.max.name Lib.Math.max.code 2 (some .int) ∈ lw_tbl := List.mem_of_getElem? (i := 582) rfl
set_option maxRecDepth 100000 in
theorem mi_c : Cond.code Lib.Math.min.name Lib.Math.min.code 2 (some .int) ∈ lw_tbl := List.mem_of_getElem? (i := 691) rfl
set_option maxRecDepth 100000 in
theorem mb_c : Cond.code Lib.Math.abs.name Lib.Math.abs.code 1 (some .int) ∈ lw_tbl := List.mem_of_getElem? (i := 579) rfl
theorem mm_i : Cond.initialized "java/lang/Math" ∈ lw_tbl := by decide +kernel
theorem cp_n : Cond.native arraycopyName ∈ lw_tbl := by decide +kernel
theorem cp_s : Cond.static arraycopyName ∈ lw_tbl := by decide +kernel
theorem nfw : nativeFrameWords "java/lang/System" "arraycopy" 5 + 11 ≤ 100 := by decide +kernel
theorem cp_i : Cond.initialized "java/lang/System" ∈ lw_tbl := by decide +kernel
section
variable {K : aC} {B : Nat} {ext : Nat → Nat} {sc : Nat × (Nat → Int32)} {p : Program} {l : Launch} {e : Jvm.Env} {R : Room} {s : State} {m : MethodId} {args : Array Value} {below : List Frame} {meth : Method} {c : Code} {cno : Nat} {code : ByteArray} {mL : Nat} {rt : Option FieldType} {ini : Bool} {hs : List (Nat × Nat × Nat × Nat)} {d : Nat} {σ0 σ1 : aH} {Q : State → Prop} {C : aM → List Value → aH → aO → aH → Prop} {P : aO → aH → Prop}
theorem W_cs {H : Heap} {locs : List Loc} {k k' n n' : Nat} {g : JFrame} (h1 : k = k') (h2 : n = n') (kk : W p l e R s m args below meth c H locs k' n' Q g) : W p l e R s m args below meth c H locs k n Q g := by subst h1; subst h2; exact kk
theorem S_more {H H1 : Heap} {locs : List Loc} {H0 : Heap} (hS : va_S (fun q => B ≤ q) H0 H locs) (hz : H.size ≤ H1.size) (ho : ∀ q, q < H.size → H1[q]? = H[q]?) : va_S (fun q => B ≤ q) H0 H1 locs :=
  ⟨Nat.le_trans hS.1 hz, fun q h1 h2 => (ho q (Nat.lt_of_lt_of_le h1 hS.1)).trans (hS.2.1 q h1 h2), hS.2.2⟩
theorem dv_ref {t : FieldType} (h : isRefTy t = true) : defaultValue t = .null := by cases t <;> first | rfl | (simp [isRefTy] at h)
theorem sNew_other {σ : aH} {t n w b : Nat} (h : b < gN σ) : sameC σ (sNew σ t n w) b := by
  have h' : b ≠ σ.2.2.2.2.1 := Nat.ne_of_lt h
  exact ⟨va_up_ne _ _ h', va_up_ne _ _ h', va_up_ne _ _ h', va_up_ne _ _ h'⟩
theorem sNew_tgo {σ : aH} {t n w b : Nat} (h : gN σ + 1 ≤ b) : tg (sNew σ t n w) b = tg σ b := sameC_tg (va_up_ne _ _ (show b ≠ gN σ by omega))
theorem sNew_tg (σ : aH) (t n w : Nat) : tg (sNew σ t n w) (gN σ) = t := by
  unfold tg sNew gN; show (va_up σ.1 σ.2.2.2.2.1 _ σ.2.2.2.2.1).1 = t; rw [va_up_self]
theorem sNew_ln (σ : aH) (t n w : Nat) : ln (sNew σ t n w) (gN σ) = n := by
  unfold ln sNew gN; show (va_up σ.1 σ.2.2.2.2.1 _ σ.2.2.2.2.1).2.1 = n; rw [va_up_self]
theorem sNew_rf (σ : aH) (t n w : Nat) : rf (sNew σ t n w) (gN σ) = fun _ => none := by
  unfold rf sNew gN; show (va_up σ.1 σ.2.2.2.2.1 _ σ.2.2.2.2.1).2.2 = _; rw [va_up_self]
theorem sNew_I (σ : aH) (t n w : Nat) : gI (sNew σ t n w) (gN σ) = fun _ => 0 := va_up_self _ _ _
theorem sNew_J (σ : aH) (t n w : Nat) : gJ (sNew σ t n w) (gN σ) = fun _ => 0 := va_up_self _ _ _
theorem sNew_M (σ : aH) (t n w : Nat) : gM (sNew σ t n w) (gN σ) = fun _ => none := va_up_self _ _ _
theorem fv_new {ρ : Nat → Nat} {σ : aH} {ci k : Nat} (hci : ci < 11) (hk : k < cN ci) : defaultValue (tyC ci k) = fv ρ (sNew σ (ci + 1) 0 (cN ci)) (cT ci) (gN σ) k := by
  unfold fv
  by_cases h0 : fkd (cT ci) k = 0
  · rw [if_pos h0, (fk_0 hci hk h0).1, sNew_I]; rfl
  · rw [if_neg h0]
    have hr : isRefTy (tyC ci k) = true := by
      have := fk_ok ci hci k hk
      rw [if_neg h0] at this
      simp only [Bool.and_eq_true] at this
      exact this.1
    rw [dv_ref hr, sNew_rf, sNew_M]
    by_cases h1 : fkd (cT ci) k = 1
    · rw [if_pos h1]; rfl
    · rw [if_neg h1]; rfl
theorem n_new (hC : CX K B ext sc p l R s m args meth c cno code mL rt ini hs d σ0 σ1) : q_new C cno code mL rt ini hs sc P (XX K B ext p l e R s m args below meth c mL Q σ0 σ1) := by
  intro pc lv st σ i ci dd hlk hc k0
  obtain ⟨hx, hb, hml, hown, hts, hE, hr, hlk9, hin, hRm, hB, htr, htab⟩ := hC
  obtain ⟨⟨m1, m2⟩, k0⟩ := k0
  have m1' : gN σ + 1 ≤ gN σ1 := m1
  have m2' : gW σ + cN ci ≤ gW σ1 := m2
  refine ⟨⟨by omega, by omega⟩, fun g1 g2 H locs ls hR hS hl => ?_⟩
  have hKn := hE.1.1 ci _ (cl_at ci hc.1)
  refine W.newcK hx hb hown (hts _ (gwl_mem hlk.1 rfl)) (hts _ (gwl_mem hlk.2.1 rfl)) (hts _ (gwl_mem hlk.2.2 rfl)) rfl dd (by rw [hRm]; show gN σ - gN σ0 + 1 ≤ gN σ1 - gN σ0; omega) (by rw [hRm]; show gW σ - gW σ0 + cN ci ≤ gW σ1 - gW σ0; omega) hKn.2.1 rfl fun H1 kC hkC e1 z1 o1 => ?_
  have hrel : Rel K B ext (sNew σ (ci + 1) 0 (cN ci)) H1 := by
    refine hR.more (k := 1) rfl hc.2 z1 o1 (fun b hb => sNew_other hb) (fun b hb => sNew_tgo hb) (fun b h1 h2 => ?_)
    have hbn : b = gN σ := by omega
    subst hbn
    have hz : H.size = rho B ext (gN σ) := by rw [rho_lt (by omega), hR.1]
    rw [hz] at e1
    exact cellAt.obj hc.1 (sNew_tg _ _ _ _) ((u_born (tyC ci) hts (uw_in ci hc.1) hKn hkC e1 (ty_in ci hc.1)).to (fun k hk => fv_new hc.1 hk))
  have := k0 (by show gN σ0 ≤ gN σ + 1; omega) (by show gW σ0 ≤ gW σ + cN ci; omega) H1 locs ls hrel (S_more hS (by omega) o1) hl
  refine W_cs (k' := gN σ + 1 - gN σ0) (n' := gW σ + cN ci - gW σ0) (by omega) (by omega) ?_
  have e9 : rho B ext (gN σ) = H.size := by rw [rho_lt (by omega), hR.1]
  rw [List.map_cons] at this
  simp only [vmv] at this
  rw [e9] at this
  exact this
theorem m_newa {σ : aH} {pc t : Nat} {st : List Value} {lv : aL} {ty : FieldType} {cA : ClassId} (hC : CX K B ext sc p l R s m args meth c cno code mL rt ini hs d σ0 σ1) {aty : ArrayType} {n : Int32} (dd : decode code pc = .ok (.newarray aty, 2)) (hat : newarray.typeOf aty = ty) (hcb : n.toNatClampNeg * componentBytes ty ≤ 536870912) (hn : ¬ n < 0 ∧ n.toNatClampNeg ≤ 100000) (hc : gN σ + 1 ≤ 1000000) (hw : Cond.arrayClass ty ∈ lw_tbl) (hcA : s.vm.findClass ("[" ++ ty.toString) = some cA)
    (hcell : ∀ H1 : Heap, H1[rho B ext (gN σ)]? = some (arrV cA n.toNatClampNeg (fun _ => defaultValue ty)) → cellAt K (rho B ext) (sNew σ t n.toNatClampNeg n.toNatClampNeg) (gN σ) H1)
    (k0 : XX K B ext p l e R s m args below meth c mL Q σ0 σ1 (pc + 2) lv (.ref (gN σ) :: st) (sNew σ t n.toNatClampNeg n.toNatClampNeg)) : XX K B ext p l e R s m args below meth c mL Q σ0 σ1 pc lv (.int n :: st) σ := by
  obtain ⟨hx, hb, hml, hown, hts, hE, hr, hlk9, hin, hRm, hB, htr, htab⟩ := hC
  obtain ⟨⟨m1, m2⟩, k0⟩ := k0
  have m1' : gN σ + 1 ≤ gN σ1 := m1
  have m2' : gW σ + n.toNatClampNeg ≤ gW σ1 := m2
  refine ⟨⟨by omega, by omega⟩, fun g1 g2 H locs ls hR hS hl => ?_⟩
  refine va_newaK hx hb (by rw [hat]; exact hts _ (gwl_mem hw rfl)) rfl dd rfl hn.1 rfl (by rw [hat]; exact hcb) (by rw [hRm]; show gN σ - gN σ0 + 1 ≤ gN σ1 - gN σ0; omega) (by rw [hRm]; show gW σ - gW σ0 + n.toNatClampNeg ≤ gW σ1 - gW σ0; omega) rfl fun H1 cA' e1 z1 o1 hAr hNm => ?_
  rw [hat] at e1 hNm
  have ec : cA' = cA := Option.some.inj (hNm.symm.trans hcA)
  subst ec
  have hz : H.size = rho B ext (gN σ) := by rw [rho_lt (by omega), hR.1]
  rw [hz] at e1
  have hrel : Rel K B ext (sNew σ t n.toNatClampNeg n.toNatClampNeg) H1 := by
    refine hR.more (k := 1) rfl hc z1 o1 (fun b hb => sNew_other hb) (fun b hb => sNew_tgo hb) (fun b h1 h2 => ?_)
    have hbn : b = gN σ := by omega
    subst hbn
    exact hcell H1 e1
  have := k0 (by show gN σ0 ≤ gN σ + 1; omega) (by show gW σ0 ≤ gW σ + n.toNatClampNeg; omega) H1 locs ls hrel (S_more hS (by omega) o1) hl
  refine W_cs (k' := gN σ + 1 - gN σ0) (n' := gW σ + n.toNatClampNeg - gW σ0) (by omega) (by omega) ?_
  rw [List.map_cons] at this
  simp only [vmv] at this
  rw [← hz] at this
  exact this
theorem n_newaI (hC : CX K B ext sc p l R s m args meth c cno code mL rt ini hs d σ0 σ1) : q_newaI C cno code mL rt ini hs sc P (XX K B ext p l e R s m args below meth c mL Q σ0 σ1) := by
  intro pc lv st σ aty n dd hat hn hc k0
  refine m_newa (cA := K.2.1) hC dd hat (by show n.toNatClampNeg * 4 ≤ _; omega) hn hc ac_int (hC.2.2.2.2.2.1.1.2 0 _ rfl).2 (fun H1 e1 => ?_) k0
  refine ⟨fun t => ?_, fun t => ?_, fun t => ?_, fun t => ?_, fun cj hj t => ?_⟩
  · rw [sNew_ln, sNew_I]; exact e1
  all_goals rw [sNew_tg] at t; omega
theorem n_newaB (hC : CX K B ext sc p l R s m args meth c cno code mL rt ini hs d σ0 σ1) : q_newaB C cno code mL rt ini hs sc P (XX K B ext p l e R s m args below meth c mL Q σ0 σ1) := by
  intro pc lv st σ aty n dd hat hn hc k0
  refine m_newa (cA := K.2.2.1) hC dd hat (by show n.toNatClampNeg * 1 ≤ _; omega) hn hc ac_byte (hC.2.2.2.2.2.1.1.2 1 _ rfl).2 (fun H1 e1 => ?_) k0
  refine ⟨fun t => ?_, fun t => ?_, fun t => ?_, fun t => ?_, fun cj hj t => ?_⟩
  · rw [sNew_tg] at t; omega
  · rw [sNew_ln, sNew_I]; exact e1
  all_goals rw [sNew_tg] at t; omega
theorem n_newaJ (hC : CX K B ext sc p l R s m args meth c cno code mL rt ini hs d σ0 σ1) : q_newaJ C cno code mL rt ini hs sc P (XX K B ext p l e R s m args below meth c mL Q σ0 σ1) := by
  intro pc lv st σ aty n dd hat hn hc k0
  refine m_newa (cA := K.2.2.2.1) hC dd hat (by show n.toNatClampNeg * 8 ≤ _; omega) hn hc ac_long (hC.2.2.2.2.2.1.1.2 2 _ rfl).2 (fun H1 e1 => ?_) k0
  refine ⟨fun t => ?_, fun t => ?_, fun t => ?_, fun t => ?_, fun cj hj t => ?_⟩
  · rw [sNew_tg] at t; omega
  · rw [sNew_tg] at t; omega
  · rw [sNew_ln, sNew_J]; exact e1
  all_goals rw [sNew_tg] at t; omega
theorem m_outer (cc : ClassId) (N h0 : Nat) : ∀ i : Nat, Jvm.Free.Multi.outerC cc N h0 i = arrV cc N (fun j => va_rf (if j < i then some (h0 + 1 + j) else none))
  | 0 => by
    show ({ cls := cc, slots := Array.replicate N .null, vm := .none } : Cell) = _
    rw [arrV_new]
    refine congrArg (arrV cc N) (funext fun j => ?_)
    simp [va_rf]
  | i + 1 => by
    show (Jvm.Free.Multi.outerC cc N h0 i).setSlot i (.ref (h0 + 1 + i)) = _
    rw [m_outer cc N h0 i, arrV_store]
    refine congrArg (arrV cc N) (funext fun j => ?_)
    by_cases e : j = i
    · subst e
      simp [updV, va_rf]
    · by_cases h : j < i
      · simp [updV, e, h, Nat.lt_succ_of_lt h]
      · simp [updV, e, h, show ¬ j < i + 1 by omega]
theorem n_newaa (hC : CX K B ext sc p l R s m args meth c cno code mL rt ini hs d σ0 σ1) : q_newaa C cno code mL rt ini hs sc P (XX K B ext p l e R s m args below meth c mL Q σ0 σ1) := by
  intro pc lv st σ i n k dd hlk hn hc k0
  obtain ⟨hx, hb, hml, hown, hts, hE, hr, hlk9, hin, hRm, hB, htr, htab⟩ := hC
  obtain ⟨⟨m1, m2⟩, k0⟩ := k0
  have m1' : gN σ + 1 + n.toNatClampNeg ≤ gN σ1 := m1
  have m2' : gW σ + n.toNatClampNeg + n.toNatClampNeg * k.toNatClampNeg ≤ gW σ1 := m2
  refine ⟨⟨by omega, by omega⟩, fun g1 g2 H locs ls hR hS hl => ?_⟩
  intro T hT X
  obtain ⟨vm₁, cA, comp, -, fA, fC, hO, -, X', step⟩ := X.multianewarray2F hx (own := cn cno) (index := i) (ty := .int) hown (hts _ (gwl_mem hlk rfl)) hE.2.2.2.1 (hts _ (gwl_mem ac_int rfl)) (g := F0 m pc ls (.int k :: .int n :: st.map (vmv (rho B ext)))) rfl (by rw [hb]; exact dd) rfl hn.1 hn.2.1 (by omega) (by show k.toNatClampNeg * 4 ≤ _; omega) (by omega) rfl rfl (by rw [hRm]; show gN σ - gN σ0 + (1 + n.toNatClampNeg) ≤ gN σ1 - gN σ0; omega) (by rw [hRm]; show gW σ - gW σ0 + (n.toNatClampNeg + n.toNatClampNeg * k.toNatClampNeg) ≤ gW σ1 - gW σ0; omega)
  have ec : comp = K.2.1 := Option.some.inj (fC.symm.trans (hE.1.2 0 _ rfl).2)
  have eA : cA = K.2.2.2.2 := Option.some.inj (fA.symm.trans (hE.1.2 3 _ rfl).2)
  subst ec
  subst eA
  have hTh : (T.setVm vm₁).heap = H := hT
  obtain ⟨f1, f2, -, -⟩ := Jvm.Free.Multi.fill_facts (T.setVm vm₁) K.2.2.2.2 K.2.1 n.toNatClampNeg k.toNatClampNeg (defaultValue .int) n.toNatClampNeg
  have f3 := fun x hx => Jvm.Free.Multi.fill_old (T.setVm vm₁) K.2.2.2.2 K.2.1 n.toNatClampNeg k.toNatClampNeg (defaultValue .int) (a := x) hx n.toNatClampNeg
  have f4 := Jvm.Free.Multi.fill_inner (T.setVm vm₁) K.2.2.2.2 K.2.1 n.toNatClampNeg k.toNatClampNeg (defaultValue .int) n.toNatClampNeg
  generalize hF : Jvm.Free.Multi.fill (T.setVm vm₁) K.2.2.2.2 K.2.1 n.toNatClampNeg k.toNatClampNeg (defaultValue .int) n.toNatClampNeg = F at X' step f1 f2 f3 f4
  rw [hTh] at f1 f2 f4
  rw [m_outer] at f2
  have hz : H.size = rho B ext (gN σ) := by rw [rho_lt (by omega), hR.1]
  have hrel : Rel K B ext (sNewA σ n.toNatClampNeg k.toNatClampNeg) F.heap := by
    refine hR.more (k := 1 + n.toNatClampNeg) (by show gN σ + 1 + n.toNatClampNeg = _; omega) (by omega) (by rw [f1]; omega) (fun q hq => by rw [f3 q (by rw [hTh]; exact hq), hTh]) (fun b hb => ?_) (fun b hb => ?_) (fun b h1 h2 => ?_)
    · have e1 : b ≠ σ.2.2.2.2.1 := Nat.ne_of_lt hb
      have e2 : ¬ (σ.2.2.2.2.1 < b ∧ b < σ.2.2.2.2.1 + 1 + n.toNatClampNeg) := fun z => absurd z.1 (Nat.not_lt.mpr (Nat.le_of_lt hb))
      refine ⟨?_, rfl, ?_, rfl⟩
      · show (if b = σ.2.2.2.2.1 then _ else if _ then _ else σ.1 b) = σ.1 b
        rw [if_neg e1, if_neg e2]
      · show (if _ then _ else σ.2.2.1 b) = σ.2.2.1 b
        rw [if_neg e2]
    · have e1 : b ≠ σ.2.2.2.2.1 := by show b ≠ gN σ; omega
      have e2 : ¬ (σ.2.2.2.2.1 < b ∧ b < σ.2.2.2.2.1 + 1 + n.toNatClampNeg) := fun z => by have : b < gN σ + 1 + n.toNatClampNeg := z.2; omega
      exact sameC_tg ((if_neg e1).trans (if_neg e2))
    · by_cases hb0 : b = gN σ
      · subst hb0
        have hc1 : (sNewA σ n.toNatClampNeg k.toNatClampNeg).1 (gN σ) = (104, n.toNatClampNeg, fun i => if i < n.toNatClampNeg then some (gN σ + 1 + i) else none) := by
          exact if_pos rfl
        have ht : tg (sNewA σ n.toNatClampNeg k.toNatClampNeg) (gN σ) = 104 := by unfold tg; rw [hc1]
        refine ⟨fun t => ?_, fun t => ?_, fun t => ?_, fun _ => ?_, fun cj hj t => ?_⟩
        · omega
        · omega
        · omega
        · unfold ln rf
          rw [hc1, ← hz, f2]
          congr 2
          funext j
          by_cases hj : j < n.toNatClampNeg
          · simp only [hj, if_true, Option.map_some]
            rw [rho_lt (by omega), hR.1]
            congr 2
            omega
          · simp only [hj, if_false, Option.map_none]
        · omega
      · have hb1 : σ.2.2.2.2.1 < b ∧ b < σ.2.2.2.2.1 + 1 + n.toNatClampNeg := ⟨by show gN σ < b; omega, by show b < gN σ + 1 + n.toNatClampNeg; omega⟩
        have hc1 : (sNewA σ n.toNatClampNeg k.toNatClampNeg).1 b = (101, k.toNatClampNeg, fun _ => none) := by
          exact (if_neg hb0).trans (if_pos hb1)
        have hi1 : gI (sNewA σ n.toNatClampNeg k.toNatClampNeg) b = fun _ => 0 := by
          show (if _ then _ else _) = _
          rw [if_pos hb1]
        have ht : tg (sNewA σ n.toNatClampNeg k.toNatClampNeg) b = 101 := by unfold tg; rw [hc1]
        refine ⟨fun t => ?_, fun t => ?_, fun t => ?_, fun _ => ?_, fun cj hj t => ?_⟩
        · unfold ln
          rw [hc1, hi1]
          have h9 := f4 (b - gN σ - 1) (by omega)
          rw [show H.size + 1 + (b - gN σ - 1) = rho B ext b by rw [rho_lt (by omega), hR.1]; omega] at h9
          rw [h9]
          show some ({ cls := K.2.1, slots := Array.replicate k.toNatClampNeg (defaultValue .int), vm := .none } : Cell) = _
          rw [arrV_new]
          rfl
        all_goals omega
  have k1 := k0 (by show gN σ0 ≤ gN σ + 1 + n.toNatClampNeg; omega) (by show gW σ0 ≤ gW σ + n.toNatClampNeg + n.toNatClampNeg * k.toNatClampNeg; omega) F.heap locs ls hrel (S_more hS (by omega) (fun q hq => by rw [f3 q (by rw [hTh]; exact hq), hTh])) hl
  have k2 : W p l e R s m args below meth c F.heap locs (gN σ - gN σ0 + 1 + n.toNatClampNeg) (gW σ - gW σ0 + n.toNatClampNeg + n.toNatClampNeg * k.toNatClampNeg) Q (F0 m (pc + 4) ls (.ref T.heap.size :: st.map (vmv (rho B ext)))) := by
    refine W_cs (k' := gN σ + 1 + n.toNatClampNeg - gN σ0) (n' := gW σ + n.toNatClampNeg + n.toNatClampNeg * k.toNatClampNeg - gW σ0) (by omega) (by omega) ?_
    rw [List.map_cons] at k1
    simp only [vmv] at k1
    rw [← hz] at k1
    rw [hT]
    exact k1
  obtain ⟨t, a1, b1⟩ := k2 F rfl X'
  exact ⟨t, step t a1, b1⟩
theorem n_objI (hC : CX K B ext sc p l R s m args meth c cno code mL rt ini hs d σ0 σ1) : q_objI C cno code mL rt ini hs sc P (XX K B ext p l e R s m args below meth c mL Q σ0 σ1) := by
  intro pc lv st σ i a dd hlk hw k0
  obtain ⟨hx, hb, hml, hown, hts, hE, hr, hlk9, hin, hRm, hB, htr, htab⟩ := hC
  refine ⟨k0.1, fun g1 g2 H locs ls hR hS hl => ?_⟩
  refine W.objInit hx hb hown (hts _ (gwl_mem hlk rfl)) (hts _ (gwl_mem oi_i rfl)) ?_ rfl (by rw [hml]; exact hl.1) rfl dd (by rw [hRm]; show 1 ≤ d + 1 + 10; omega) (by rw [hRm, cat_map]; show 2 * 0 + catsum st + 12 ≤ 70 * (d + 1) + 300; omega) ?_
  · exact hts _ (gwl_mem oi_c rfl)
  · exact k0.2 g1 g2 H locs ls hR hS hl
theorem n_mmax (hC : CX K B ext sc p l R s m args meth c cno code mL rt ini hs d σ0 σ1) (h1 : gN σ1 - gN σ0 = R.cells ∧ gW σ1 - gW σ0 = R.slots) : q_mmax C cno code mL rt ini hs sc P (XX K B ext p l e R s m args below meth c mL Q σ0 σ1) := by
  intro pc lv st σ i x y dd hlk hw k0
  obtain ⟨hx, hb, hml, hown, hts, hE, hr, hlk9, hin, hRm, hB, htr, htab⟩ := hC
  refine ⟨k0.1, fun g1 g2 H locs ls hR hS hl => ?_⟩
  exact va_mmax hx hb (by rw [hml]; exact hl.1.symm) hown (hts _ (gwl_mem hlk rfl)) (hts _ (gwl_mem mx_s rfl)) (hts _ (gwl_mem mm_i rfl)) (hts _ (gwl_mem mx_c rfl)) (by rw [hRm]; show 1 ≤ d + 1 + 10; omega) (by rw [hRm, cat_map]; show catsum st + 13 ≤ 70 * (d + 1) + 300; omega) (by rw [← h1.1]; have := k0.1.1; omega) (by rw [← h1.2]; have := k0.1.2; omega) dd (k0.2 g1 g2 H locs ls hR hS hl)
theorem n_mmin (hC : CX K B ext sc p l R s m args meth c cno code mL rt ini hs d σ0 σ1) (h1 : gN σ1 - gN σ0 = R.cells ∧ gW σ1 - gW σ0 = R.slots) : q_mmin C cno code mL rt ini hs sc P (XX K B ext p l e R s m args below meth c mL Q σ0 σ1) := by
  intro pc lv st σ i x y dd hlk hw k0
  obtain ⟨hx, hb, hml, hown, hts, hE, hr, hlk9, hin, hRm, hB, htr, htab⟩ := hC
  refine ⟨k0.1, fun g1 g2 H locs ls hR hS hl => ?_⟩
  exact va_mmin hx hb (by rw [hml]; exact hl.1.symm) hown (hts _ (gwl_mem hlk rfl)) (hts _ (gwl_mem mi_s rfl)) (hts _ (gwl_mem mm_i rfl)) (hts _ (gwl_mem mi_c rfl)) (by rw [hRm]; show 1 ≤ d + 1 + 10; omega) (by rw [hRm, cat_map]; show catsum st + 13 ≤ 70 * (d + 1) + 300; omega) (by rw [← h1.1]; have := k0.1.1; omega) (by rw [← h1.2]; have := k0.1.2; omega) dd (k0.2 g1 g2 H locs ls hR hS hl)
theorem n_mabs (hC : CX K B ext sc p l R s m args meth c cno code mL rt ini hs d σ0 σ1) (h1 : gN σ1 - gN σ0 = R.cells ∧ gW σ1 - gW σ0 = R.slots) : q_mabs C cno code mL rt ini hs sc P (XX K B ext p l e R s m args below meth c mL Q σ0 σ1) := by
  intro pc lv st σ i x dd hlk hw k0
  obtain ⟨hx, hb, hml, hown, hts, hE, hr, hlk9, hin, hRm, hB, htr, htab⟩ := hC
  refine ⟨k0.1, fun g1 g2 H locs ls hR hS hl => ?_⟩
  exact va_mabs hx hb (by rw [hml]; exact hl.1.symm) hown (hts _ (gwl_mem hlk rfl)) (hts _ (gwl_mem mb_s rfl)) (hts _ (gwl_mem mm_i rfl)) (hts _ (gwl_mem mb_c rfl)) (by rw [hRm]; show 1 ≤ d + 1 + 10; omega) (by rw [hRm, cat_map]; show catsum st + 13 ≤ 70 * (d + 1) + 300; omega) (by rw [← h1.1]; have := k0.1.1; omega) (by rw [← h1.2]; have := k0.1.2; omega) dd (k0.2 g1 g2 H locs ls hR hS hl)
theorem n_ldcS (hC : CX K B ext sc p l R s m args meth c cno code mL rt ini hs d σ0 σ1) : q_ldcS C cno code mL rt ini hs sc P (XX K B ext p l e R s m args below meth c mL Q σ0 σ1) := by
  intro pc lv st σ i q dd hs k0
  obtain ⟨hx, hb, hml, hown, hts, hE, hr, hlk9, hin, hRm, hB, htr, htab⟩ := hC
  obtain ⟨hq, text, ht⟩ := hs
  refine ⟨k0.1, fun g1 g2 H locs ls hR hS hl => ?_⟩
  intro T hT X
  have hv := hE.2.2.2.2.2.1 _ _ _ _ ht
  have k1 := k0.2 g1 g2 H locs ls hR hS hl
  rw [List.map_cons] at k1
  simp only [vmv] at k1
  have e9 : rho B ext q = ext (1000001 + (q - 1000001)) := by
    rw [Nat.add_sub_cancel' hq]
    exact if_neg (by omega)
  rw [e9] at k1
  obtain ⟨t, a1, b1⟩ := k1 T hT X
  exact ⟨t, X.ldcString hx (own := cn cno) (text := text) (index := i) hown hv.1 hv.2 (g := F0 m pc ls (st.map (vmv (rho B ext)))) rfl (by rw [hb]; exact dd) t a1, b1⟩
theorem n_copy (hC : CX K B ext sc p l R s m args meth c cno code mL rt ini hs d σ0 σ1) : q_copy C cno code mL rt ini hs sc P (XX K B ext p l e R s m args below meth c mL Q σ0 σ1) := by
  intro pc lv st σ i a b sp dp n dd hlk hw ha hb' h1 k0
  obtain ⟨hx, hb, hml, hown, hts, hE, hr, hlk9, hin, hRm, hB, htr, htab⟩ := hC
  obtain ⟨h1, h2, h3, h4, h5⟩ := h1
  refine ⟨k0.1, fun g1 g2 H locs ls hR hS hl => ?_⟩
  have nn : ∀ z : Int32, ¬ z < 0 → z.toInt = (z.toNatClampNeg : Int) := by
    intro z hz
    have hz0 : (0 : Int) ≤ z.toInt := by
      have := Int32.not_lt.mp hz
      simpa using Int32.le_iff_toInt_le.mp this
    show z.toInt = ((z.toInt.toNat : Nat) : Int)
    omega
  intro T hT X
  have hc0 := (hR.2.2.1 a ha.2).1 ha.1
  have hc1 := (hR.2.2.1 b hb'.2).1 hb'.1
  obtain ⟨-, k9, hk9, cm0, hkk9⟩ := (hE.1.2 0 _ rfl).1 (ln σ a) (fun j => .int (gI σ a j))
  obtain ⟨vm', X', step⟩ := X.arraycopy hx hown (hts _ (gwl_mem hlk rfl)) (hts _ (gwl_mem cp_n rfl)) (hts _ (gwl_mem cp_s rfl)) (hts _ (gwl_mem cp_i rfl)) (src := rho B ext a) (dst := rho B ext b) (cs := arrV K.2.1 (ln σ a) (fun j => Value.int (gI σ a j))) (cd := arrV K.2.1 (ln σ b) (fun j => Value.int (gI σ b j))) (srcPos := sp) (destPos := dp) (n := n) (by rw [hT]; exact hc0) (by rw [hT]; exact hc1)
    (fun _ h => by cases h) (fun _ h => by cases h) (fun h => by cases h) (fun h => by cases h) hk9 hk9 hkk9 hkk9 (by simp [refKind]) h1 h2 h3
    (by rw [nn sp h1, nn n h3, arrV_size]; omega)
    (by rw [nn dp h2, nn n h3, arrV_size]; omega)
    (fun vm₁ _ i hi => by
      have e9 : (arrV K.2.1 (ln σ a) (fun j => Value.int (gI σ a j))).slots.getD (sp.toNatClampNeg + i) .null = .int (gI σ a (sp.toNatClampNeg + i)) := by
        rw [Array.getD_eq_getD_getElem?, arrV_read _ _ (by omega)]
        rfl
      rw [e9]
      exact ⟨rfl, trivial⟩)
    (g := F0 m pc ls (.int n :: .int dp :: .ref (rho B ext b) :: .int sp :: .ref (rho B ext a) :: st.map (vmv (rho B ext)))) rfl (by rw [hml]; exact hl.1) (rest := st.map (vmv (rho B ext))) rfl (by rw [hb]; exact dd) (by rw [hRm]; show 1 ≤ d + 1 + 10; omega) (by rw [hRm, cat_map]; show 2 * 0 + catsum st + _ ≤ 70 * (d + 1) + 300; have := nfw; omega)
  have e1 : copied (arrV K.2.1 (ln σ a) (fun j => Value.int (gI σ a j))) (arrV K.2.1 (ln σ b) (fun j => Value.int (gI σ b j))) sp dp n = arrV K.2.1 (ln σ b) (fun j => Value.int (va_cpy (gI σ a) (gI σ b) sp.toNatClampNeg dp.toNatClampNeg n.toNatClampNeg j)) := va_copied (fun z => .int z) K.2.1 K.2.1 (gI σ a) (gI σ b) h4
  rw [e1] at X' step
  have hlt : rho B ext b < H.size := (Array.getElem?_eq_some_iff.mp hc1).1
  generalize hcell : arrV K.2.1 (ln σ b) (fun j => Value.int (va_cpy (gI σ a) (gI σ b) sp.toNatClampNeg dp.toNatClampNeg n.toNatClampNeg j)) = cell at X' step
  have hheap : ((T.setVm vm').setCell (rho B ext b) cell).heap = H.setIfInBounds (rho B ext b) cell := by rw [← hT]; rfl
  have oq : ∀ q : Nat, q ≠ rho B ext b → (H.setIfInBounds (rho B ext b) cell)[q]? = H[q]? := fun q hq => by simp [Array.getElem?_setIfInBounds, Ne.symm hq]
  have hz : (H.setIfInBounds (rho B ext b) cell).size = H.size := by simp
  have hrel : Rel K B ext (sRow σ b (va_cpy (gI σ a) (gI σ b) sp.toNatClampNeg dp.toNatClampNeg n.toNatClampNeg)) (H.setIfInBounds (rho B ext b) cell) := by
    refine hR.one rfl hb'.2 hz oq (fun b hb => sRow_other hb) ?_
    have ht : tg (sRow σ b (va_cpy (gI σ a) (gI σ b) sp.toNatClampNeg dp.toNatClampNeg n.toNatClampNeg)) b = 101 := hb'.1
    refine ⟨fun _ => ?_, fun t => ?_, fun t => ?_, fun t => ?_, fun cj hj t => ?_⟩
    · have : gI (sRow σ b (va_cpy (gI σ a) (gI σ b) sp.toNatClampNeg dp.toNatClampNeg n.toNatClampNeg)) b = va_cpy (gI σ a) (gI σ b) sp.toNatClampNeg dp.toNatClampNeg n.toNatClampNeg := va_up_self _ _ _
      rw [this]
      show _ = some (arrV K.2.1 (ln σ b) _)
      rw [hcell]
      simp [Array.getElem?_setIfInBounds, hlt]
    all_goals omega
  obtain ⟨t, a1, b1⟩ := k0.2 g1 g2 _ _ ls hrel ⟨by rw [hz]; exact hS.1, fun q g1 g2 => by
      rw [oq q (fun e => g2 (by rw [e]; exact inA hR hb'.2))]
      exact hS.2.1 q g1 g2, fun q hq => by
      rcases List.mem_append.mp hq with h | h
      · exact hS.2.2 q h
      · obtain ⟨z, -, hz⟩ := List.mem_map.mp h
        rw [← hz]
        exact inA hR hb'.2⟩ hl _ hheap X'
  exact ⟨t, step t a1, b1⟩
end
