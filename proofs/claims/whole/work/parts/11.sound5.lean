section
variable {K : aC} {B : Nat} {ext : Nat → Nat} {sc : Nat × (Nat → Int32)} {p : Program} {l : Launch} {e : Jvm.Env} {R : Room} {s : State} {m : MethodId} {args : Array Value} {below : List Frame} {meth : Method} {c : Code} {cno : Nat} {code : ByteArray} {mL : Nat} {rt : Option FieldType} {ini : Bool} {hs : List (Nat × Nat × Nat × Nat)} {d : Nat} {σ0 σ1 : aH} {Q : State → Prop} {C : aM → List Value → aH → aO → aH → Prop} {P : aO → aH → Prop}
theorem n_throwV {o : aO} (hI : ∀ q av σ o σ1, MOk q → C q av σ o σ1 → Snd l sc d q av σ o σ1) (hC : CX K B ext sc p l R s m args meth c cno code mL rt ini hs d σ0 σ1) : q_throwV C cno code mL rt ini hs sc (fun o' σ' => o' = o ∧ σ' = σ1) (XX K B ext p l e R s m args below meth c mL (Qf K B ext o σ1 below args s (gN σ1 - gN σ0) (gW σ1 - gW σ0)) σ0 σ1) := by
  intro pc lv st σ i a ex q As st0 σ' dd hlk hq hh hs hn ha hw hr hno hP
  obtain ⟨rfl, rfl⟩ := hP
  obtain ⟨⟨c1, c2⟩, hM⟩ := hI _ _ _ _ _ hq.1 hr
  obtain ⟨hx, hb, hml, hown, hts, hE, hrt, hlk9, hin, hRm, hB, htr, htab⟩ := hC
  refine ⟨⟨c1, c2⟩, fun g1 g2 H locs ls hR hS hl => ?_⟩
  subst hs
  have hst : (As.reverse ++ .ref a :: st).map (vmv (rho B ext)) = (As.map (vmv (rho B ext))).reverse ++ .ref (rho B ext a) :: st.map (vmv (rho B ext)) := by
    rw [List.map_append, List.map_reverse]; rfl
  have hO := (hR.2.2.1 a ha.2).2.2.2.2 _ hq.2.1 ha.1
  obtain ⟨cell, o1, o2, o3, -⟩ := hO
  have hKn := hE.1.1 _ _ (cl_at _ hq.2.1)
  have hcls : s.vm.findClass q.1.cls = some cell.cls := by rw [hq.1.2.2.2.2.2.1, o2]; exact hKn.2.1
  have hpre : PreV s H q.1.cls (rho B ext a) (PcR K B ext sc (.ref a :: As) σ) (As.map (vmv (rho B ext))) :=
    ⟨pcR_blind, ⟨cell, o1, by rw [o3]; rfl, hcls⟩, fun U hU hW => ⟨rfl, by rw [hU]; exact hR, env_at hE hB hS hU hW⟩⟩
  have hcode : (Cond.code q.1 q.2.1 q.2.2.1 q.2.2.2.1).before args s = true := by rw [← cdW_0 hh]; exact hts _ (gwl_mem hq.1.1 (cdW_good q))
  have hcm : Cond.code q.1 q.2.1 q.2.2.1 q.2.2.2.1 ∈ wsOf q := by rw [← cdW_0 hh]; exact List.mem_cons_self
  have hlen : ∀ sig, parseMethodDescriptor q.1.desc = some sig → q.2.2.2.2.2 = sig.parameters.length := fun sig h => by
    have := hq.1.2.2.2.2.1
    rw [h] at this
    exact (Option.some.inj this).symm
  have hfr : (rmOf d (gN σ' - gN σ) (gW σ' - gW σ)).frames + 1 ≤ R.frames := by rw [hRm]; show d + 10 + 1 ≤ d + 1 + 10; omega
  have hlo : 8 + (q.2.2.1 + 11) + (rmOf d (gN σ' - gN σ) (gW σ' - gW σ)).locals ≤ R.locals := by
    have := hq.1.2.2.2.2.2.2
    rw [hRm]; show 8 + (q.2.2.1 + 11) + (70 * d + 300) ≤ 70 * (d + 1) + 300; omega
  have hf : gN σ - gN σ0 + (gN σ' - gN σ) ≤ R.cells ∧ gW σ - gW σ0 + (gW σ' - gW σ) ≤ R.slots := by
    rw [hRm]; exact ⟨by show _ ≤ gN σ' - gN σ0; omega, by show _ ≤ gW σ' - gW σ0; omega⟩
  have hcs : 2 * (F0 m pc ls ((As.reverse ++ .ref a :: st).map (vmv (rho B ext)))).monitorRoom + ((st.map (vmv (rho B ext))).map fun v => v.category).sum ≤ 8 := by
    rw [cat_map]; show 2 * 0 + catsum st ≤ 8; omega
  have hrun := vx_runV (C := q.1.cls) (n := q.2.2.2.2.2) (g := F0 m pc ls ((As.reverse ++ .ref a :: st).map (vmv (rho B ext)))) (rest := st.map (vmv (rho B ext))) (cells := gN σ - gN σ0) (slots := gW σ - gW σ0) (locs := locs) (p := p) (e := e) (below := below) (meth := meth) ⟨hx, hb, hml, hown, hts⟩ (hM K B ext) ⟨⟨rfl, rfl, hfr, hlo, hws_of hts hq.1, hcm, hcode, hts _ (gwl_mem hq.1.2.1 rfl), hq.1.2.2.2.1, hlen, hts _ (gwl_mem hlk rfl)⟩, hts _ (gwl_mem hq.2.2.1 rfl), hts _ (gwl_mem hq.2.2.2 rfl)⟩ hpre rfl (by rw [List.length_map]; exact hn) hl.1 hst hcs dd hf
  intro T hT X
  rcases hrun T hT X with ⟨v, st₀, t, T', L, h0, X', hL, e1, e2, hq9, st9⟩ | ⟨qa, st₀, t, T', L, E, ce, h0, X', hL, e1, e2, hxc, hce, hcv, hcl, st9⟩
  · exact hq9.elim
  · obtain ⟨hE9, hrel, hz, hk⟩ := hxc
    rw [h0] at hz hk
    have vo := vx_out (p := p) (l := l) (e := e) (R := R) (m := m) (args := args) (below := below) (c := c) (locs := locs ++ L) (ls := ls) (rest := st.map (vmv (rho B ext))) (Qc := fun _ _ _ _ => False) (XC := XcR K B ext ex σ') (free := fun q => B ≤ q) (mc := gN σ' - gN σ0) (ms := gW σ' - gW σ0) (cells := gN σ - gN σ0 + (gN σ' - gN σ)) (slots := gW σ - gW σ0 + (gW σ' - gW σ)) (pc := pc) (H := T'.heap) (q := qa) (fun x hx => by rw [htab, hno] at hx; cases hx) hlk9 (by rw [e1]; exact hce) hcv hcl
      (fun t' ht' _ => ⟨hE9, by rw [ht', e1]; exact hrel, by rw [ht', e1]; exact Nat.le_trans hS.1 hz, fun q h1 h2 => by rw [ht', e1, hk q (Nat.lt_of_lt_of_le h1 hS.1) h2]; exact hS.2.1 q h1 h2⟩)
      (fun z hz => by
        rcases List.mem_append.mp hz with h | h
        · exact hS.2.2 z h
        · exact hL z h) (by omega) (by omega)
    obtain ⟨t2, a1, b1⟩ := vo T' rfl X'
    exact ⟨t2, st9.trans a1, b1⟩
theorem n_callW (hI : ∀ q av σ o σ1, MOk q → C q av σ o σ1 → Snd l sc d q av σ o σ1) (hC : CX K B ext sc p l R s m args meth c cno code mL rt ini hs d σ0 σ1) : q_callW C cno code mL rt ini hs sc P (XX K B ext p l e R s m args below meth c mL Q σ0 σ1) := by
  intro pc lv st σ i q As st0 v σ' dd hlk hq hh hs' hn hw hr k0
  obtain ⟨⟨c1, c2⟩, hM⟩ := hI _ _ _ _ _ hq.1 hr
  obtain ⟨hx, hb, hml, hown, hts, hE, hrt, hlk9, hin, hRm, hB, htr, htab⟩ := hC
  obtain ⟨⟨m1, m2⟩, k0⟩ := k0
  refine ⟨⟨by omega, by omega⟩, fun g1 g2 H locs ls hR hS hl => ?_⟩
  subst hs'
  have hst : (As.reverse ++ st).map (vmv (rho B ext)) = (As.map (vmv (rho B ext))).reverse ++ st.map (vmv (rho B ext)) := by
    rw [List.map_append, List.map_reverse]
  have hpre : PreS s H (PcR K B ext sc As σ) (As.map (vmv (rho B ext))) :=
    ⟨pcR_blind, fun U hU hW => ⟨rfl, by rw [hU]; exact hR, env_at hE hB hS hU hW⟩⟩
  have hcode : (Cond.codeWith q.1 q.2.1 q.2.2.1 q.2.2.2.1 (hsOf q)).before args s = true := by rw [← cdW_1 hh]; exact hts _ (gwl_mem hq.1.1 (cdW_good q))
  have hcm : Cond.codeWith q.1 q.2.1 q.2.2.1 q.2.2.2.1 (hsOf q) ∈ wsOf q := by rw [← cdW_1 hh]; exact List.mem_cons_self
  have hlen : ∀ sig, parseMethodDescriptor q.1.desc = some sig → q.2.2.2.2.2 = sig.parameters.length := fun sig h => by
    have := hq.1.2.2.2.2.1
    rw [h] at this
    exact (Option.some.inj this).symm
  have hfr : (rmOf d (gN σ' - gN σ) (gW σ' - gW σ)).frames + 1 ≤ R.frames := by rw [hRm]; show d + 10 + 1 ≤ d + 1 + 10; omega
  have hlo : 8 + (q.2.2.1 + 11) + (rmOf d (gN σ' - gN σ) (gW σ' - gW σ)).locals ≤ R.locals := by
    have := hq.1.2.2.2.2.2.2
    rw [hRm]; show 8 + (q.2.2.1 + 11) + (70 * d + 300) ≤ 70 * (d + 1) + 300; omega
  have hf : gN σ - gN σ0 + (gN σ' - gN σ) ≤ R.cells ∧ gW σ - gW σ0 + (gW σ' - gW σ) ≤ R.slots := by
    rw [hRm]; exact ⟨by show _ ≤ gN σ1 - gN σ0; omega, by show _ ≤ gW σ1 - gW σ0; omega⟩
  have hcs : 2 * (F0 m pc ls ((As.reverse ++ st).map (vmv (rho B ext)))).monitorRoom + ((st.map (vmv (rho B ext))).map fun v => v.category).sum ≤ 8 := by
    rw [cat_map]; show 2 * 0 + catsum st ≤ 8; omega
  have hrun : va_Run p l e R s m args below meth c H locs (gN σ - gN σ0) (gW σ - gW σ0) (gN σ' - gN σ) (gW σ' - gW σ) (F0 m pc ls ((As.reverse ++ st).map (vmv (rho B ext)))) (st.map (vmv (rho B ext))) (QcR K B ext v σ' (As.map (vmv (rho B ext))).toArray) (fun q => B ≤ q) :=
    vx_runSW (n := q.2.2.2.2.2) ⟨hx, hb, hml, hown, hts⟩ (hM K B ext) ⟨⟨rfl, rfl, hfr, hlo, hws_of hts hq.1, hcm⟩, hcode, hts _ (gwl_mem hq.1.2.1 rfl), hq.1.2.2.2.1, hlen, hts _ (gwl_mem hlk rfl), hts _ (gwl_mem hq.2 rfl)⟩ hpre rfl (by rw [List.length_map]; exact hn) hl.1 hst hcs dd hf
  refine m_ret hrun hS (fun H1 locs1 hrel hS1 => ?_)
  refine W_cs (k' := gN σ' - gN σ0) (n' := gW σ' - gW σ0) (by omega) (by omega) ?_
  have := k0 (by omega) (by omega) H1 locs1 ls hrel hS1 hl
  rw [out_map] at this
  exact this
theorem cl22 : Cond.classLink RL 22 "java/util/NoSuchElementException" ∈ lw_tbl := by decide +kernel
theorem cl13 : Cond.classLink RL 13 "java/lang/IllegalArgumentException" ∈ lw_tbl := by decide +kernel
theorem ct0 : Cond.castable "java/util/NoSuchElementException" "java/util/NoSuchElementException" ∈ lw_tbl := by decide +kernel
theorem ct1 : Cond.castable "java/lang/IllegalArgumentException" "java/lang/IllegalArgumentException" ∈ lw_tbl := by decide +kernel
/-- caught by a row of the table -/
theorem m_catch {H : Heap} {locs : List Loc} {cells slots pc ex tgt : Nat} {ls : Array Slot} {rest : List Value} {qa : Addr} {ce : Cell} (hC : CX K B ext sc p l R s m args meth c cno code mL rt ini hs d σ0 σ1) (hs9 : Hsel cno hs pc ex tgt) (hcell : H[qa]? = some ce) (hv : ce.vm = .none) (hcl : s.vm.findClass (exN ex) = some ce.cls)
    (kk : W p l e R s m args below meth c H locs cells slots Q (F0 m tgt ls [.ref qa])) : vx_W p l e R s m args below meth c H locs cells slots Q (F0 m pc ls rest) qa := by
  obtain ⟨hx, hb, hml, hown, hts, hE, hrt, hlk9, hin, hRm, hB, htr, htab⟩ := hC
  obtain ⟨rfl, f, t, h1, h2, h3⟩ := hs9
  have cov : ∀ (z : ExceptionTableEntry), z.startPc = f → z.endPc = t → covers z pc = true := fun z e1 e2 => by unfold covers; rw [e1, e2]; simp; omega
  have l22 : (Cond.classLink (cn 11) 22 "java/util/NoSuchElementException").before args s = true := hts _ (gwl_mem cl22 rfl)
  have l13 : (Cond.classLink (cn 11) 13 "java/lang/IllegalArgumentException").before args s = true := hts _ (gwl_mem cl13 rfl)
  have k0 : (Cond.castable "java/util/NoSuchElementException" "java/util/NoSuchElementException").before args s = true := va_Nw.use rfl (hE.2.1 _ ct0 rfl)
  have k1 : (Cond.castable "java/lang/IllegalArgumentException" "java/lang/IllegalArgumentException").before args s = true := va_Nw.use rfl (hE.2.1 _ ct1 rfl)
  rcases h3 with ⟨rfl, rfl⟩ | ⟨rfl, rfl⟩ | ⟨t1, t2, rfl, h3⟩
  · exact vx_catch hown [] ⟨f, t, tgt, 22⟩ [] htab (fun z hz => nomatch hz) (cov _ rfl rfl) (Nat.succ_ne_zero 21) l22 k0 hcell hv hcl kk
  · exact vx_catch hown [] ⟨f, t, tgt, 13⟩ [] htab (fun z hz => nomatch hz) (cov _ rfl rfl) (Nat.succ_ne_zero 12) l13 k1 hcell hv hcl kk
  · rcases h3 with ⟨rfl, rfl⟩ | ⟨rfl, rfl⟩
    · exact vx_catch hown [] ⟨f, t, tgt, 22⟩ [⟨f, t, t2, 13⟩] htab (fun z hz => nomatch hz) (cov _ rfl rfl) (Nat.succ_ne_zero 21) l22 k0 hcell hv hcl kk
    · refine vx_catch hown [⟨f, t, t1, 22⟩] ⟨f, t, tgt, 13⟩ [] htab (fun z hz => ?_) (cov _ rfl rfl) (Nat.succ_ne_zero 12) l13 k1 hcell hv hcl kk
      rw [List.mem_singleton.mp hz]
      exact Or.inr ⟨Nat.succ_ne_zero 21, _, l22, hE.2.2.2.2.2.2.1⟩
theorem n_catchV (hI : ∀ q av σ o σ1, MOk q → C q av σ o σ1 → Snd l sc d q av σ o σ1) (hC : CX K B ext sc p l R s m args meth c cno code mL rt ini hs d σ0 σ1) : q_catchV C cno code mL rt ini hs sc P (XX K B ext p l e R s m args below meth c mL Q σ0 σ1) := by
  intro pc lv st σ i a ex k tgt len q As st0 σ' dd hlk hq hh hs' hn ha hw hr hsel hd hk k0
  obtain ⟨⟨c1, c2⟩, hM⟩ := hI _ _ _ _ _ hq.1 hr
  obtain ⟨hx, hb, hml, hown, hts, hE, hrt, hlk9, hin, hRm, hB, htr, htab⟩ := id hC
  obtain ⟨⟨m1, m2⟩, k0⟩ := k0
  refine ⟨⟨by omega, by omega⟩, fun g1 g2 H locs ls hR hS hl => ?_⟩
  subst hs'
  have hst : (As.reverse ++ .ref a :: st).map (vmv (rho B ext)) = (As.map (vmv (rho B ext))).reverse ++ .ref (rho B ext a) :: st.map (vmv (rho B ext)) := by
    rw [List.map_append, List.map_reverse]; rfl
  have hO := (hR.2.2.1 a ha.2).2.2.2.2 _ hq.2.1 ha.1
  obtain ⟨cell, o1, o2, o3, -⟩ := hO
  have hKn := hE.1.1 _ _ (cl_at _ hq.2.1)
  have hcls : s.vm.findClass q.1.cls = some cell.cls := by rw [hq.1.2.2.2.2.2.1, o2]; exact hKn.2.1
  have hpre : PreV s H q.1.cls (rho B ext a) (PcR K B ext sc (.ref a :: As) σ) (As.map (vmv (rho B ext))) :=
    ⟨pcR_blind, ⟨cell, o1, by rw [o3]; rfl, hcls⟩, fun U hU hW => ⟨rfl, by rw [hU]; exact hR, env_at hE hB hS hU hW⟩⟩
  have hcode : (Cond.code q.1 q.2.1 q.2.2.1 q.2.2.2.1).before args s = true := by rw [← cdW_0 hh]; exact hts _ (gwl_mem hq.1.1 (cdW_good q))
  have hcm : Cond.code q.1 q.2.1 q.2.2.1 q.2.2.2.1 ∈ wsOf q := by rw [← cdW_0 hh]; exact List.mem_cons_self
  have hlen : ∀ sig, parseMethodDescriptor q.1.desc = some sig → q.2.2.2.2.2 = sig.parameters.length := fun sig h => by
    have := hq.1.2.2.2.2.1
    rw [h] at this
    exact (Option.some.inj this).symm
  have hfr : (rmOf d (gN σ' - gN σ) (gW σ' - gW σ)).frames + 1 ≤ R.frames := by rw [hRm]; show d + 10 + 1 ≤ d + 1 + 10; omega
  have hlo : 8 + (q.2.2.1 + 11) + (rmOf d (gN σ' - gN σ) (gW σ' - gW σ)).locals ≤ R.locals := by
    have := hq.1.2.2.2.2.2.2
    rw [hRm]; show 8 + (q.2.2.1 + 11) + (70 * d + 300) ≤ 70 * (d + 1) + 300; omega
  have hf : gN σ - gN σ0 + (gN σ' - gN σ) ≤ R.cells ∧ gW σ - gW σ0 + (gW σ' - gW σ) ≤ R.slots := by
    rw [hRm]; exact ⟨by show _ ≤ gN σ1 - gN σ0; omega, by show _ ≤ gW σ1 - gW σ0; omega⟩
  have hcs : 2 * (F0 m pc ls ((As.reverse ++ .ref a :: st).map (vmv (rho B ext)))).monitorRoom + ((st.map (vmv (rho B ext))).map fun v => v.category).sum ≤ 8 := by
    rw [cat_map]; show 2 * 0 + catsum st ≤ 8; omega
  have hrun := vx_runV (C := q.1.cls) (n := q.2.2.2.2.2) (g := F0 m pc ls ((As.reverse ++ .ref a :: st).map (vmv (rho B ext)))) (rest := st.map (vmv (rho B ext))) (cells := gN σ - gN σ0) (slots := gW σ - gW σ0) (locs := locs) (p := p) (e := e) (below := below) (meth := meth) ⟨hx, hb, hml, hown, hts⟩ (hM K B ext) ⟨⟨rfl, rfl, hfr, hlo, hws_of hts hq.1, hcm, hcode, hts _ (gwl_mem hq.1.2.1 rfl), hq.1.2.2.2.1, hlen, hts _ (gwl_mem hlk rfl)⟩, hts _ (gwl_mem hq.2.2.1 rfl), hts _ (gwl_mem hq.2.2.2 rfl)⟩ hpre rfl (by rw [List.length_map]; exact hn) hl.1 hst hcs dd hf
  intro T hT X
  rcases hrun T hT X with ⟨v, st₀, t, T', L, h0, X', hL, e1, e2, hq9, st9⟩ | ⟨qa, st₀, t, T', L, E, ce, h0, X', hL, e1, e2, hxc, hce, hcv, hcl, st9⟩
  · exact hq9.elim
  · obtain ⟨rfl, hrel, hz, hkk⟩ := hxc
    rw [h0] at hz hkk
    have hS1 : va_S (fun q => B ≤ q) s.heap T'.heap (locs ++ L) := ⟨by rw [e1]; exact Nat.le_trans hS.1 hz, fun q h1 h2 => by rw [e1, hkk q (Nat.lt_of_lt_of_le h1 hS.1) h2]; exact hS.2.1 q h1 h2, fun z hz => by
        rcases List.mem_append.mp hz with h | h
        · exact hS.2.2 z h
        · exact hL z h⟩
    have fin : ∀ ls' : Array Slot, lv_has ls' mL ((k, Value.ref qa) :: (lmv (rho B ext) lv).filter (fun q => !(q.1 == k) && !(q.1 + 1 == k && q.2.category == 2))) → W p l e R s m args below meth c T'.heap (locs ++ L) (gN σ - gN σ0 + (gN σ' - gN σ)) (gW σ - gW σ0 + (gW σ' - gW σ)) Q (F0 m (tgt + len) ls' []) := by
      intro ls' hl'
      refine W_cs (k' := gN σ' - gN σ0) (n' := gW σ' - gW σ0) (by omega) (by omega) ?_
      refine k0 (by omega) (by omega) T'.heap (locs ++ L) ls' (by rw [e1]; exact hrel) hS1 ⟨hl'.1, hl'.2.1, fun q hq => hl'.2.2 q (List.mem_cons_of_mem _ ?_)⟩
      rw [lmv_filter (rho B ext) lv (fun a c => !(a == k) && !(a + 1 == k && c == 2))]
      exact hq
    have vo := m_catch (e := e) (below := below) (Q := Q) (locs := locs ++ L) (cells := gN σ - gN σ0 + (gN σ' - gN σ)) (slots := gW σ - gW σ0 + (gW σ' - gW σ)) (ls := ls) (rest := st.map (vmv (rho B ext))) (H := T'.heap) hC hsel (by rw [e1]; exact hce) hcv hcl (by
      rcases hd with ⟨hd, rfl⟩ | ⟨kk9, hkk9, hd, rfl⟩
      · exact lv_astore hx hb hd hl hk rfl fin
      · exact lv_astore_n hx hb hd hkk9 hl hk rfl fin)
    obtain ⟨t2, a1, b1⟩ := vo T' rfl X'
    exact ⟨t2, st9.trans a1, b1⟩
/-- what is made stays made -/
def XM (σ1 : aH) : Nat → aL → List Value → aH → Prop := fun _ _ _ σ => gN σ ≤ gN σ1 ∧ gW σ ≤ gW σ1
theorem mo_iconst : q_iconst C cno code mL rt ini hs sc P (XM σ1) := fun pc lv st σ n v dd hv k0 => k0
theorem mo_bipush : q_bipush C cno code mL rt ini hs sc P (XM σ1) := fun pc lv st σ n v dd hv k0 => k0
theorem mo_sipush : q_sipush C cno code mL rt ini hs sc P (XM σ1) := fun pc lv st σ n v dd hv k0 => k0
theorem mo_lconst : q_lconst C cno code mL rt ini hs sc P (XM σ1) := fun pc lv st σ n v dd hv k0 => k0
theorem mo_ldc : q_ldc C cno code mL rt ini hs sc P (XM σ1) := fun pc lv st σ i v dd hc k0 => k0
theorem mo_ldcw : q_ldcw C cno code mL rt ini hs sc P (XM σ1) := fun pc lv st σ i v dd hc k0 => k0
theorem mo_ldc2 : q_ldc2 C cno code mL rt ini hs sc P (XM σ1) := fun pc lv st σ i v dd hc k0 => k0
theorem mo_ldcS : q_ldcS C cno code mL rt ini hs sc P (XM σ1) := fun pc lv st σ i q dd hc k0 => k0
theorem mo_iload_n : q_iload_n C cno code mL rt ini hs sc P (XM σ1) := fun pc lv st σ k i x dd hi hl k0 => k0
theorem mo_iload : q_iload C cno code mL rt ini hs sc P (XM σ1) := fun pc lv st σ i x dd hl k0 => k0
theorem mo_istore_n : q_istore_n C cno code mL rt ini hs sc P (XM σ1) := fun pc lv st σ k i x l' dd hi hn hl k0 => k0
theorem mo_istore : q_istore C cno code mL rt ini hs sc P (XM σ1) := fun pc lv st σ i x l' dd hn hl k0 => k0
theorem mo_lload_n : q_lload_n C cno code mL rt ini hs sc P (XM σ1) := fun pc lv st σ k i x dd hi hl k0 => k0
theorem mo_lload : q_lload C cno code mL rt ini hs sc P (XM σ1) := fun pc lv st σ i x dd hl k0 => k0
theorem mo_lstore_n : q_lstore_n C cno code mL rt ini hs sc P (XM σ1) := fun pc lv st σ k i x l' dd hi hn hl k0 => k0
theorem mo_lstore : q_lstore C cno code mL rt ini hs sc P (XM σ1) := fun pc lv st σ i x l' dd hn hl k0 => k0
theorem mo_aload_n : q_aload_n C cno code mL rt ini hs sc P (XM σ1) := fun pc lv st σ k i x dd hi hl k0 => k0
theorem mo_aload : q_aload C cno code mL rt ini hs sc P (XM σ1) := fun pc lv st σ i x dd hl k0 => k0
theorem mo_astore_n : q_astore_n C cno code mL rt ini hs sc P (XM σ1) := fun pc lv st σ k i x l' dd hi hn hl k0 => k0
theorem mo_astore : q_astore C cno code mL rt ini hs sc P (XM σ1) := fun pc lv st σ i x l' dd hn hl k0 => k0
theorem mo_iinc : q_iinc C cno code mL rt ini hs sc P (XM σ1) := fun pc lv st σ i n x v l' dd hk hv hn hl k0 => k0
theorem mo_iadd : q_iadd C cno code mL rt ini hs sc P (XM σ1) := fun pc lv st σ x y dd k0 => k0
theorem mo_isub : q_isub C cno code mL rt ini hs sc P (XM σ1) := fun pc lv st σ x y dd k0 => k0
theorem mo_imul : q_imul C cno code mL rt ini hs sc P (XM σ1) := fun pc lv st σ x y dd k0 => k0
theorem mo_iand : q_iand C cno code mL rt ini hs sc P (XM σ1) := fun pc lv st σ x y dd k0 => k0
theorem mo_ior : q_ior C cno code mL rt ini hs sc P (XM σ1) := fun pc lv st σ x y dd k0 => k0
theorem mo_ixor : q_ixor C cno code mL rt ini hs sc P (XM σ1) := fun pc lv st σ x y dd k0 => k0
theorem mo_ishl : q_ishl C cno code mL rt ini hs sc P (XM σ1) := fun pc lv st σ x y dd k0 => k0
theorem mo_ishr : q_ishr C cno code mL rt ini hs sc P (XM σ1) := fun pc lv st σ x y dd k0 => k0
theorem mo_iushr : q_iushr C cno code mL rt ini hs sc P (XM σ1) := fun pc lv st σ x y dd k0 => k0
theorem mo_idiv : q_idiv C cno code mL rt ini hs sc P (XM σ1) := fun pc lv st σ x y dd hne k0 => k0
theorem mo_irem : q_irem C cno code mL rt ini hs sc P (XM σ1) := fun pc lv st σ x y dd hne k0 => k0
theorem mo_ineg : q_ineg C cno code mL rt ini hs sc P (XM σ1) := fun pc lv st σ x dd k0 => k0
theorem mo_i2l : q_i2l C cno code mL rt ini hs sc P (XM σ1) := fun pc lv st σ x dd k0 => k0
theorem mo_i2b : q_i2b C cno code mL rt ini hs sc P (XM σ1) := fun pc lv st σ x dd k0 => k0
theorem mo_ladd : q_ladd C cno code mL rt ini hs sc P (XM σ1) := fun pc lv st σ x y dd k0 => k0
theorem mo_lsub : q_lsub C cno code mL rt ini hs sc P (XM σ1) := fun pc lv st σ x y dd k0 => k0
theorem mo_lmul : q_lmul C cno code mL rt ini hs sc P (XM σ1) := fun pc lv st σ x y dd k0 => k0
theorem mo_lor : q_lor C cno code mL rt ini hs sc P (XM σ1) := fun pc lv st σ x y dd k0 => k0
theorem mo_lshl : q_lshl C cno code mL rt ini hs sc P (XM σ1) := fun pc lv st σ x y dd k0 => k0
theorem mo_lcmp : q_lcmp C cno code mL rt ini hs sc P (XM σ1) := fun pc lv st σ x y dd k0 => k0
theorem mo_dup : q_dup C cno code mL rt ini hs sc P (XM σ1) := fun pc lv st σ v dd hv k0 => k0
theorem mo_pop : q_pop C cno code mL rt ini hs sc P (XM σ1) := fun pc lv st σ v dd hv k0 => k0
theorem mo_dup2 : q_dup2 C cno code mL rt ini hs sc P (XM σ1) := fun pc lv st σ v w dd hv hw k0 => k0
theorem mo_if_eq : q_if_eq C cno code mL rt ini hs sc P (XM σ1) := fun pc lv st σ x off tgt dd ht k0 k1 => (Classical.em (x = 0)).elim k0 (fun h => k1 h)
theorem mo_if_ne : q_if_ne C cno code mL rt ini hs sc P (XM σ1) := fun pc lv st σ x off tgt dd ht k0 k1 => (Classical.em (¬ x = 0)).elim k0 (fun h => k1 (Classical.not_not.mp h))
theorem mo_if_lt : q_if_lt C cno code mL rt ini hs sc P (XM σ1) := fun pc lv st σ x off tgt dd ht k0 k1 => (Classical.em (x < 0)).elim k0 (fun h => k1 h)
theorem mo_if_ge : q_if_ge C cno code mL rt ini hs sc P (XM σ1) := fun pc lv st σ x off tgt dd ht k0 k1 => (Classical.em (0 ≤ x)).elim k0 (fun h => k1 h)
theorem mo_if_gt : q_if_gt C cno code mL rt ini hs sc P (XM σ1) := fun pc lv st σ x off tgt dd ht k0 k1 => (Classical.em (0 < x)).elim k0 (fun h => k1 h)
theorem mo_if_le : q_if_le C cno code mL rt ini hs sc P (XM σ1) := fun pc lv st σ x off tgt dd ht k0 k1 => (Classical.em (x ≤ 0)).elim k0 (fun h => k1 h)
theorem mo_icmp_eq : q_icmp_eq C cno code mL rt ini hs sc P (XM σ1) := fun pc lv st σ x y off tgt dd ht k0 k1 => (Classical.em (x = y)).elim k0 (fun h => k1 h)
theorem mo_icmp_ne : q_icmp_ne C cno code mL rt ini hs sc P (XM σ1) := fun pc lv st σ x y off tgt dd ht k0 k1 => (Classical.em (¬ x = y)).elim k0 (fun h => k1 (Classical.not_not.mp h))
theorem mo_icmp_lt : q_icmp_lt C cno code mL rt ini hs sc P (XM σ1) := fun pc lv st σ x y off tgt dd ht k0 k1 => (Classical.em (x < y)).elim k0 (fun h => k1 h)
theorem mo_icmp_ge : q_icmp_ge C cno code mL rt ini hs sc P (XM σ1) := fun pc lv st σ x y off tgt dd ht k0 k1 => (Classical.em (y ≤ x)).elim k0 (fun h => k1 h)
theorem mo_icmp_gt : q_icmp_gt C cno code mL rt ini hs sc P (XM σ1) := fun pc lv st σ x y off tgt dd ht k0 k1 => (Classical.em (y < x)).elim k0 (fun h => k1 h)
theorem mo_icmp_le : q_icmp_le C cno code mL rt ini hs sc P (XM σ1) := fun pc lv st σ x y off tgt dd ht k0 k1 => (Classical.em (x ≤ y)).elim k0 (fun h => k1 h)
theorem mo_goto : q_goto C cno code mL rt ini hs sc P (XM σ1) := fun pc lv st σ off tgt dd ht k0 => k0
theorem mo_tabIn : q_tabIn C cno code mL rt ini hs sc P (XM σ1) := fun pc lv st σ dflt lo hi offs len x off tgt dd h1 h2 ho ht k0 => k0
theorem mo_tabOut : q_tabOut C cno code mL rt ini hs sc P (XM σ1) := fun pc lv st σ dflt lo hi offs len x tgt dd h1 ht k0 => k0
theorem mo_getI : q_getI C cno code mL rt ini hs sc P (XM σ1) := fun pc lv st σ i ci k a dd hf hk ha k0 => k0
theorem mo_getR : q_getR C cno code mL rt ini hs sc P (XM σ1) := fun pc lv st σ i ci k a b dd hf hk ha hb k0 => k0
theorem mo_getM : q_getM C cno code mL rt ini hs sc P (XM σ1) := fun pc lv st σ i ci k a b dd hf hk ha hb k0 => k0
theorem mo_putI : q_putI C cno code mL rt ini hs sc P (XM σ1) := fun pc lv st σ i ci k a x dd hf hk ha k0 => k0
theorem mo_putM : q_putM C cno code mL rt ini hs sc P (XM σ1) := fun pc lv st σ i ci k a b dd hf hk ha k0 => k0
theorem mo_putR : q_putR C cno code mL rt ini hs sc P (XM σ1) := fun pc lv st σ i ci k a b dd hf hk hin ha k0 => k0
theorem mo_iald : q_iald C cno code mL rt ini hs sc P (XM σ1) := fun pc lv st σ a i dd ha hi k0 => k0
theorem mo_isld : q_isld C cno code mL rt ini hs sc P (XM σ1) := fun pc lv st σ i dd hi k0 => k0
theorem mo_bald : q_bald C cno code mL rt ini hs sc P (XM σ1) := fun pc lv st σ a i dd ha hi k0 => k0
theorem mo_lald : q_lald C cno code mL rt ini hs sc P (XM σ1) := fun pc lv st σ a i dd ha hi k0 => k0
theorem mo_aald : q_aald C cno code mL rt ini hs sc P (XM σ1) := fun pc lv st σ a b i dd ha hi hb k0 => k0
theorem mo_iast : q_iast C cno code mL rt ini hs sc P (XM σ1) := fun pc lv st σ a i x dd ha hi k0 => k0
theorem mo_bast : q_bast C cno code mL rt ini hs sc P (XM σ1) := fun pc lv st σ a i x dd ha hi k0 => k0
theorem mo_last : q_last C cno code mL rt ini hs sc P (XM σ1) := fun pc lv st σ a i x dd ha hi k0 => k0
theorem mo_slen : q_slen C cno code mL rt ini hs sc P (XM σ1) := fun pc lv st σ dd k0 => k0
theorem mo_new : q_new C cno code mL rt ini hs sc P (XM σ1) := fun pc lv st σ i ci dd hl hc k0 => ⟨Nat.le_trans (Nat.le_add_right _ _) k0.1, Nat.le_trans (Nat.le_add_right _ _) k0.2⟩
theorem mo_newaI : q_newaI C cno code mL rt ini hs sc P (XM σ1) := fun pc lv st σ aty n dd hat hn hc k0 => ⟨Nat.le_trans (Nat.le_add_right _ _) k0.1, Nat.le_trans (Nat.le_add_right _ _) k0.2⟩
theorem mo_newaB : q_newaB C cno code mL rt ini hs sc P (XM σ1) := fun pc lv st σ aty n dd hat hn hc k0 => ⟨Nat.le_trans (Nat.le_add_right _ _) k0.1, Nat.le_trans (Nat.le_add_right _ _) k0.2⟩
theorem mo_newaJ : q_newaJ C cno code mL rt ini hs sc P (XM σ1) := fun pc lv st σ aty n dd hat hn hc k0 => ⟨Nat.le_trans (Nat.le_add_right _ _) k0.1, Nat.le_trans (Nat.le_add_right _ _) k0.2⟩
theorem mo_newaa : q_newaa C cno code mL rt ini hs sc P (XM σ1) := fun pc lv st σ i n k dd hl hn hc k0 => ⟨Nat.le_trans (Nat.le_add_right _ _) (Nat.le_trans (Nat.le_add_right _ _) k0.1), Nat.le_trans (Nat.le_add_right _ _) (Nat.le_trans (Nat.le_add_right _ _) k0.2)⟩
theorem mo_objI : q_objI C cno code mL rt ini hs sc P (XM σ1) := fun pc lv st σ i a dd hl hw k0 => k0
theorem mo_mmax : q_mmax C cno code mL rt ini hs sc P (XM σ1) := fun pc lv st σ i x y dd hl hw k0 => k0
theorem mo_mmin : q_mmin C cno code mL rt ini hs sc P (XM σ1) := fun pc lv st σ i x y dd hl hw k0 => k0
theorem mo_mabs : q_mabs C cno code mL rt ini hs sc P (XM σ1) := fun pc lv st σ i x dd hl hw k0 => k0
theorem mo_copy : q_copy C cno code mL rt ini hs sc P (XM σ1) := fun pc lv st σ i a b sp dp n dd hl hw ha hb h1 k0 => k0
theorem mo_strL : q_strL C cno code mL rt ini hs sc P (XM σ1) := fun pc lv st σ i j dd hl hw hj k0 => k0
theorem mo_strC : q_strC C cno code mL rt ini hs sc P (XM σ1) := fun pc lv st σ i j k dd hl hw hj hk k0 => k0
theorem mo_callV (hI : ∀ q av σ o σ1, MOk q → C q av σ o σ1 → gN σ ≤ gN σ1 ∧ gW σ ≤ gW σ1) : q_callV C cno code mL rt ini hs sc P (XM σ1) := fun pc lv st σ i a q As st0 v σ1 dd hl hq hh hst hn ha hw hr k0 => ⟨Nat.le_trans (hI _ _ _ _ _ hq.1 hr).1 k0.1, Nat.le_trans (hI _ _ _ _ _ hq.1 hr).2 k0.2⟩
theorem mo_callS (hI : ∀ q av σ o σ1, MOk q → C q av σ o σ1 → gN σ ≤ gN σ1 ∧ gW σ ≤ gW σ1) : q_callS C cno code mL rt ini hs sc P (XM σ1) := fun pc lv st σ i q As st0 v σ1 dd hl hq hh hst hn hw hr k0 => ⟨Nat.le_trans (hI _ _ _ _ _ hq.1 hr).1 k0.1, Nat.le_trans (hI _ _ _ _ _ hq.1 hr).2 k0.2⟩
theorem mo_callI (hI : ∀ q av σ o σ1, MOk q → C q av σ o σ1 → gN σ ≤ gN σ1 ∧ gW σ ≤ gW σ1) : q_callI C cno code mL rt ini hs sc P (XM σ1) := fun pc lv st σ i a q As st0 σ1 dd hl hq hh hst hn hw hr k0 => ⟨Nat.le_trans (hI _ _ _ _ _ hq.1 hr).1 k0.1, Nat.le_trans (hI _ _ _ _ _ hq.1 hr).2 k0.2⟩
theorem mo_callW (hI : ∀ q av σ o σ1, MOk q → C q av σ o σ1 → gN σ ≤ gN σ1 ∧ gW σ ≤ gW σ1) : q_callW C cno code mL rt ini hs sc P (XM σ1) := fun pc lv st σ i q As st0 v σ1 dd hl hq hh hst hn hw hr k0 => ⟨Nat.le_trans (hI _ _ _ _ _ hq.1 hr).1 k0.1, Nat.le_trans (hI _ _ _ _ _ hq.1 hr).2 k0.2⟩
theorem mo_catchV (hI : ∀ q av σ o σ1, MOk q → C q av σ o σ1 → gN σ ≤ gN σ1 ∧ gW σ ≤ gW σ1) : q_catchV C cno code mL rt ini hs sc P (XM σ1) := fun pc lv st σ i a ex k tgt len q As st0 σ1 dd hl hq hh hst hn ha hw hr hc hd hk k0 => ⟨Nat.le_trans (hI _ _ _ _ _ hq.1 hr).1 k0.1, Nat.le_trans (hI _ _ _ _ _ hq.1 hr).2 k0.2⟩
theorem mo_throwV {o : aO} (hI : ∀ q av σ o σ1, MOk q → C q av σ o σ1 → gN σ ≤ gN σ1 ∧ gW σ ≤ gW σ1) : q_throwV C cno code mL rt ini hs sc (fun o' σ' => o' = o ∧ σ' = σ1) (XM σ1) := fun pc lv st σ i a ex q As st0 σ1 dd hl hq hh hst hn ha hw hr hno hP => hP.2 ▸ (hI _ _ _ _ _ hq.1 hr)
theorem mo_throwN {o : aO} : q_throwN C cno code mL rt ini hs sc (fun o' σ' => o' = o ∧ σ' = σ1) (XM σ1) := fun pc lv st σ ik is ic ex d0 d3 d4 d6 d9 ht hw hbd hno hP => hP.2 ▸ ⟨Nat.le_add_right _ _, Nat.le_add_right _ _⟩
theorem mo_iret {o : aO} : q_iret C cno code mL rt ini hs sc (fun o' σ' => o' = o ∧ σ' = σ1) (XM σ1) := fun pc lv st σ v dd hr hP => hP.2 ▸ ⟨Nat.le_refl _, Nat.le_refl _⟩
theorem mo_zret {o : aO} : q_zret C cno code mL rt ini hs sc (fun o' σ' => o' = o ∧ σ' = σ1) (XM σ1) := fun pc lv st σ v dd hr hv hP => hP.2 ▸ ⟨Nat.le_refl _, Nat.le_refl _⟩
theorem mo_lret {o : aO} : q_lret C cno code mL rt ini hs sc (fun o' σ' => o' = o ∧ σ' = σ1) (XM σ1) := fun pc lv st σ v dd hr hP => hP.2 ▸ ⟨Nat.le_refl _, Nat.le_refl _⟩
theorem mo_aret {o : aO} : q_aret C cno code mL rt ini hs sc (fun o' σ' => o' = o ∧ σ' = σ1) (XM σ1) := fun pc lv st σ a ty dd hr hP => hP.2 ▸ ⟨Nat.le_refl _, Nat.le_refl _⟩
theorem mo_vret {o : aO} : q_vret C cno code mL rt ini hs sc (fun o' σ' => o' = o ∧ σ' = σ1) (XM σ1) := fun pc lv st σ dd hr hP => hP.2 ▸ ⟨Nat.le_refl _, Nat.le_refl _⟩
theorem mo_weak : q_weak C cno code mL rt ini hs sc P (XM σ1) := fun pc lv st σ l' hl k0 => k0
theorem mo_drop : q_drop C cno code mL rt ini hs sc P (XM σ1) := fun pc lv st σ a k0 => k0
theorem mo_all {o : aO} (hI : ∀ q av σ o σ1, MOk q → C q av σ o σ1 → gN σ ≤ gN σ1 ∧ gW σ ≤ gW σ1) : Rls C cno code mL rt ini hs sc (fun o' σ' => o' = o ∧ σ' = σ1) (XM σ1) :=
  ⟨⟨mo_iconst, mo_bipush, mo_sipush, mo_lconst, mo_ldc, mo_ldcw, mo_ldc2, mo_ldcS⟩,
  ⟨mo_iload_n, mo_iload, mo_istore_n, mo_istore, mo_lload_n, mo_lload, mo_lstore_n, mo_lstore⟩,
  ⟨mo_aload_n, mo_aload, mo_astore_n, mo_astore, mo_iinc, mo_iadd, mo_isub, mo_imul⟩,
  ⟨mo_iand, mo_ior, mo_ixor, mo_ishl, mo_ishr, mo_iushr, mo_idiv, mo_irem⟩,
  ⟨mo_ineg, mo_i2l, mo_i2b, mo_ladd, mo_lsub, mo_lmul, mo_lor, mo_lshl⟩,
  ⟨mo_lcmp, mo_dup, mo_pop, mo_dup2, mo_if_eq, mo_if_ne, mo_if_lt, mo_if_ge⟩,
  ⟨mo_if_gt, mo_if_le, mo_icmp_eq, mo_icmp_ne, mo_icmp_lt, mo_icmp_ge, mo_icmp_gt, mo_icmp_le⟩,
  ⟨mo_goto, mo_tabIn, mo_tabOut, mo_getI, mo_getR, mo_getM, mo_putI, mo_putM⟩,
  ⟨mo_putR, mo_iald, mo_isld, mo_bald, mo_lald, mo_aald, mo_iast, mo_bast⟩,
  ⟨mo_last, mo_slen, mo_new, mo_newaI, mo_newaB, mo_newaJ, mo_newaa, mo_objI⟩,
  ⟨mo_mmax, mo_mmin, mo_mabs, mo_copy, mo_strL, mo_strC, mo_callV hI, mo_callS hI⟩,
  ⟨mo_callI hI, mo_callW hI, mo_catchV hI, mo_throwV hI, mo_throwN, mo_iret, mo_zret, mo_lret⟩,
  ⟨mo_aret, mo_vret, mo_weak, mo_drop⟩⟩
theorem n_all {o : aO} (hI : ∀ q av σ o σ1, MOk q → C q av σ o σ1 → Snd l sc d q av σ o σ1) (hC : CX K B ext sc p l R s m args meth c cno code mL rt ini hs d σ0 σ1) (hR9 : gN σ1 - gN σ0 = R.cells ∧ gW σ1 - gW σ0 = R.slots) : Rls C cno code mL rt ini hs sc (fun o' σ' => o' = o ∧ σ' = σ1) (XX K B ext p l e R s m args below meth c mL (Qf K B ext o σ1 below args s (gN σ1 - gN σ0) (gW σ1 - gW σ0)) σ0 σ1) :=
  ⟨⟨n_iconst hC, n_bipush hC, n_sipush hC, n_lconst hC, n_ldc hC, n_ldcw hC, n_ldc2 hC, n_ldcS hC⟩,
  ⟨n_iload_n hC, n_iload hC, n_istore_n hC, n_istore hC, n_lload_n hC, n_lload hC, n_lstore_n hC, n_lstore hC⟩,
  ⟨n_aload_n hC, n_aload hC, n_astore_n hC, n_astore hC, n_iinc hC, n_iadd hC, n_isub hC, n_imul hC⟩,
  ⟨n_iand hC, n_ior hC, n_ixor hC, n_ishl hC, n_ishr hC, n_iushr hC, n_idiv hC, n_irem hC⟩,
  ⟨n_ineg hC, n_i2l hC, n_i2b hC, n_ladd hC, n_lsub hC, n_lmul hC, n_lor hC, n_lshl hC⟩,
  ⟨n_lcmp hC, n_dup hC, n_pop hC, n_dup2 hC, n_if_eq hC, n_if_ne hC, n_if_lt hC, n_if_ge hC⟩,
  ⟨n_if_gt hC, n_if_le hC, n_icmp_eq hC, n_icmp_ne hC, n_icmp_lt hC, n_icmp_ge hC, n_icmp_gt hC, n_icmp_le hC⟩,
  ⟨n_goto hC, n_tabIn hC, n_tabOut hC, n_getI hC, n_getR hC, n_getM hC, n_putI hC, n_putM hC⟩,
  ⟨n_putR hC, n_iald hC, n_isld hC, n_bald hC, n_lald hC, n_aald hC, n_iast hC, n_bast hC⟩,
  ⟨n_last hC, n_slen hC, n_new hC, n_newaI hC, n_newaB hC, n_newaJ hC, n_newaa hC, n_objI hC⟩,
  ⟨n_mmax hC hR9, n_mmin hC hR9, n_mabs hC hR9, n_copy hC, n_strL hC, n_strC hC, n_callV hI hC, n_callS hI hC⟩,
  ⟨n_callI hI hC, n_callW hI hC, n_catchV hI hC, n_throwV hI hC, n_throwN hC, n_iret hC, n_zret hC, n_lret hC⟩,
  ⟨n_aret hC, n_vret hC, n_weak hC, n_drop hC⟩⟩
end
theorem lgsl_len : ∀ vs : List Value, (lg_sl vs).length = catsum vs
  | [] => rfl
  | v :: vs => by
    have ih := lgsl_len vs
    have h1 : lg_sl (v :: vs) = (if v.category = 2 then [.val v, .second] else [.val v]) ++ lg_sl vs := rfl
    have h2 : catsum (v :: vs) = v.category + catsum vs := rfl
    rw [h1, h2, List.length_append, ih]
    cases v <;> rfl
theorem args_map (ρ : Nat → Nat) : ∀ (vs : List Value) (i : Nat), lv_args i (vs.map (vmv ρ)) = lmv ρ (lv_args i vs)
  | [], _ => rfl
  | v :: vs, i => by
    show (i, vmv ρ v) :: lv_args (if (vmv ρ v).category = 2 then i + 2 else i + 1) (vs.map (vmv ρ)) = _
    rw [args_map ρ vs, vmv_cat]
    rfl
theorem catsum_map (ρ : Nat → Nat) (vs : List Value) : catsum (vs.map (vmv ρ)) = catsum vs := cat_map ρ vs
/-- the first step of a method's walk -/
theorem snd_start {K : aC} {B : Nat} {ext : Nat → Nat} {p : Program} {l : Launch} {e : Jvm.Env} {R : Room} {s : State} {m : MethodId} {args : Array Value} {below : List Frame} {meth : Method} {c : Code} {mL : Nat} {Q : State → Prop} {σ σ1 : aH} {av : List Value} (hcat : catsum av ≤ mL) (hrel : Rel K B ext σ s.heap)
    (h : XX K B ext p l e R s m args below meth c mL Q σ σ1 0 (lv_args 0 av) [] σ) : W p l e R s m args below meth c s.heap [] 0 0 Q (entryFrame m (av.map (vmv (rho B ext))).toArray mL) := by
  have hl := lv_entry (av.map (vmv (rho B ext))) (n := mL) (by rw [lgsl_len, catsum_map]; exact hcat)
  rw [lg_entry_eq]
  rw [args_map] at hl
  have := h.2 (Nat.le_refl _) (Nat.le_refl _) s.heap [] _ hrel va_S.rf hl
  exact W_cs (by omega) (by omega) this
theorem sound {l : Launch} (htr : l.stackTraces = false) (sc : Nat × (Nat → Int32)) : ∀ (d : Nat) (q : aM) (av : List Value) (σ : aH) (o : aO) (σ1 : aH), MOk q → Ev sc d q av σ o σ1 → Snd l sc d q av σ o σ1
  | 0, _, _, _, _, _, _, h => h.elim
  | d + 1, q, av, σ, o, σ1, hq, h => by
    obtain ⟨hcat, hw⟩ := h
    have hI := sound htr sc d
    refine ⟨hw _ (mo_all (fun q av σ o σ1 h1 h2 => (hI q av σ o σ1 h1 h2).1)), fun K B ext => ?_⟩
    have tab : ∀ {p : Program} {e : Jvm.Env} {s s₁ : State} {m : MethodId} {args : Array Value} {below : List Frame} {meth : Method} {c : Code} {rm : Room}, BodyLoose p l q.1 (headSpec (wsOf q) rm) q.2.1 q.2.2.1 q.2.2.2.1 e s m args below meth c s₁ → c.exceptionTable.toList = tableOf (hsOf q) := by
      intro p e s s₁ m args below meth c rm Bd
      have hw9 : (cdW q).before args s = true := atoms_spec (ws := wsOf q) Bd.pre _ List.mem_cons_self
      by_cases hh : hsOf q = []
      · rw [cdW_0 hh] at hw9
        obtain ⟨meth9, c9, h1, h2, -, -, -, -, h7, -⟩ := Cond.code_spec Bd.named hw9
        cases Option.some.inj (h1.symm.trans Bd.method)
        cases Option.some.inj (h2.symm.trans (Stand.of_body Bd).code)
        rw [Array.isEmpty_iff.mp h7, hh]
        rfl
      · rw [cdW_1 hh] at hw9
        exact vx_table (x := q.1) Bd hw9
    have mk : ∀ {p : Program} {e : Jvm.Env} {s s₁ : State} {m : MethodId} {args : Array Value} {below : List Frame} {meth : Method} {c : Code}, BodyLoose p l q.1 (headSpec (wsOf q) (rmOf (d + 1) (gN σ1 - gN σ) (gW σ1 - gW σ))) q.2.1 q.2.2.1 q.2.2.2.1 e s m args below meth c s₁ → c.maxLocals = q.2.2.1 → PcR K B ext sc av σ args s →
        W p l e (rmOf (d + 1) (gN σ1 - gN σ) (gW σ1 - gW σ)) s m args below meth c s.heap [] 0 0 (Qf K B ext o σ1 below args s (gN σ1 - gN σ) (gW σ1 - gW σ)) (entryFrame m args q.2.2.1) := by
      intro p e s s₁ m args below meth c Bd hml hv
      obtain ⟨rfl, hrel, hE⟩ := hv
      refine snd_start hcat hrel (hw _ (n_all hI ⟨Bd.exec, Bd.bytes, hml, ?_, ?_, hE, Bd.returns, Bd.notSynchronized, ?_, rfl, ?_, htr, tab Bd⟩ ⟨rfl, rfl⟩))
      · rw [← hq.2.2.2.2.2.1]; exact findClass_of_methodNamed Bd.named
      · intro w hw'
        exact atoms_spec (ws := wsOf q) Bd.pre w (List.mem_cons_of_mem _ hw')
      · intro hi
        exact (name_of_methodNamed Bd.named Bd.method).1.trans (of_decide_eq_true hi)
      · rw [hrel.1]; omega
    by_cases hh : hsOf q = []
    · have ew : wsOf q = Cond.code q.1 q.2.1 q.2.2.1 q.2.2.2.1 :: gwl := by unfold wsOf; rw [cdW_0 hh]
      cases o with
      | inl v => exact Met.ofW (cc := q.2.1) (maxL := q.2.2.1) (ret := q.2.2.2.1) hq.2.2.1 ew (fun p e s m args below meth c s₁ Bd hml hv => mk Bd hml hv)
      | inr ex => exact vx_ofW (cc := q.2.1) (maxL := q.2.2.1) (ret := q.2.2.2.1) hq.2.2.1 ew (fun p e s m args below meth c s₁ Bd hml _ hv => mk Bd hml hv)
    · have ew : wsOf q = Cond.codeWith q.1 q.2.1 q.2.2.1 q.2.2.2.1 (hsOf q) :: gwl := by unfold wsOf; rw [cdW_1 hh]
      cases o with
      | inl v =>
        have h9 := vx_ofWH (l := l) (Pc := PcR K B ext sc av σ) (Qc := QcR K B ext v σ1) (XC := fun _ _ _ => False) (mc := gN σ1 - gN σ) (ms := gW σ1 - gW σ) (free := fun a => B ≤ a) (rm := rmOf (d + 1) (gN σ1 - gN σ) (gW σ1 - gW σ)) (cc := q.2.1) (maxL := q.2.2.1) (ret := q.2.2.2.1) hq.2.2.1 ew (fun p e s m args below meth c s₁ Bd hml hv => vx_ret (mk Bd hml hv))
        intro p e ha hc hk s m args below hf happ hP hT
        obtain ⟨n9, o9, a1, a2, a3, a4⟩ := h9 p e ha hc hk s m args below hf happ hP hT
        refine ⟨n9, o9, a1, a2, a3, ?_⟩
        rcases a4 with h | ⟨q9, rfl, E, ce, L, hx9, -⟩
        · exact h
        · exact hx9.elim
      | inr ex => exact vx_ofWH (cc := q.2.1) (maxL := q.2.2.1) (ret := q.2.2.2.1) hq.2.2.1 ew (fun p e s m args below meth c s₁ Bd hml hv => mk Bd hml hv)
