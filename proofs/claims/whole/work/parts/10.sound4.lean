/-! ends, calls, throws -/
def PcR (K : aC) (B : Nat) (ext : Nat → Nat) (sc : Nat × (Nat → Int32)) (av : List Value) (σ : aH) : Array Value → State → Prop := fun v U => v = (av.map (vmv (rho B ext))).toArray ∧ Rel K B ext σ U.heap ∧ EnvA K B ext sc U
def wsOf (q : aM) : List Cond := cdW q :: gwl
theorem cdW_0 {q : aM} (h : hsOf q = []) : cdW q = Cond.code q.1 q.2.1 q.2.2.1 q.2.2.2.1 := if_pos h
theorem cdW_1 {q : aM} (h : hsOf q ≠ []) : cdW q = Cond.codeWith q.1 q.2.1 q.2.2.1 q.2.2.2.1 (hsOf q) := if_neg h
theorem cdW_good (q : aM) : goodWord (cdW q) = true := by
  unfold cdW
  split <;> rfl
/-- a method's run holds of the machine -/
def Snd (l : Launch) (sc : Nat × (Nat → Int32)) (d : Nat) (q : aM) (av : List Value) (σ : aH) (o : aO) (σ1 : aH) : Prop :=
  (gN σ ≤ gN σ1 ∧ gW σ ≤ gW σ1) ∧ ∀ (K : aC) (B : Nat) (ext : Nat → Nat), match o with
    | .inl v => Met l q.1 (wsOf q) (rmOf d (gN σ1 - gN σ) (gW σ1 - gW σ)) (PcR K B ext sc av σ) (QcR K B ext v σ1) (gN σ1 - gN σ) (gW σ1 - gW σ) (fun a => B ≤ a)
    | .inr e => vx_Met l q.1 (wsOf q) (rmOf d (gN σ1 - gN σ) (gW σ1 - gW σ)) (PcR K B ext sc av σ) (fun _ _ _ _ => False) (XcR K B ext e σ1) (gN σ1 - gN σ) (gW σ1 - gW σ) (fun a => B ≤ a)
theorem code_good (y : MethodName) (b : ByteArray) (n : Nat) (r : Option FieldType) : goodWord (Cond.code y b n r) = true := rfl
section
variable {K : aC} {B : Nat} {ext : Nat → Nat} {sc : Nat × (Nat → Int32)} {p : Program} {l : Launch} {e : Jvm.Env} {R : Room} {s : State} {m : MethodId} {args : Array Value} {below : List Frame} {meth : Method} {c : Code} {cno : Nat} {code : ByteArray} {mL : Nat} {rt : Option FieldType} {ini : Bool} {hs : List (Nat × Nat × Nat × Nat)} {d : Nat} {σ0 σ1 : aH} {Q : State → Prop} {C : aM → List Value → aH → aO → aH → Prop} {P : aO → aH → Prop}
theorem pcR_blind {av : List Value} {σ : aH} : FrameBlind (PcR K B ext sc av σ) := by
  intro a U g mk h
  obtain ⟨h1, h2, h3⟩ := h
  exact ⟨h1, h2, h3.kept (U := U.calling g mk a) (State.WarmedH.refl U) (fun _ _ => rfl)⟩
theorem hws_of {q : aM} (hts : ∀ w ∈ gwl, w.before args s = true) (hq : MOk q) : ∀ w ∈ wsOf q, ∀ (a' : Array Value) (U : State), s.WarmedH U.vm → w.before a' U = true := by
  intro w hw a' U hW
  have hm : w ∈ gwl := by
    rcases List.mem_cons.mp hw with h | h
    · rw [h]; exact gwl_mem hq.1 (cdW_good q)
    · exact h
  exact word_at hW (good_of_word (List.mem_filter.mp hm).2) (hts w hm)
theorem m_ret {H : Heap} {locs : List Loc} {cells slots mc ms pc : Nat} {ls : Array Slot} {st0 rest : List Value} {v : Option Value} {σ' : aH} {a : Array Value} (hr : va_Run p l e R s m args below meth c H locs cells slots mc ms (F0 m pc ls st0) rest (QcR K B ext v σ' a) (fun q => B ≤ q)) (hS : va_S (fun q => B ≤ q) s.heap H locs)
    (kk : ∀ (H1 : Heap) (locs1 : List Loc), Rel K B ext σ' H1 → va_S (fun q => B ≤ q) s.heap H1 locs1 → W p l e R s m args below meth c H1 locs1 (cells + mc) (slots + ms) Q (F0 m (pc + 3) ls ((v.map (vmv (rho B ext))).toList ++ rest))) : W p l e R s m args below meth c H locs cells slots Q (F0 m pc ls st0) := by
  intro T hT X
  obtain ⟨v', st₀, t, T', L, h0, X', hL, e1, e2, ⟨hv, hrel, hz, hk⟩, st⟩ := hr T hT X
  cases hv
  rw [h0] at hz hk
  obtain ⟨t2, a1, b1⟩ := kk T'.heap (locs ++ L) (by rw [e1]; exact hrel) ⟨Nat.le_trans hS.1 (by rw [e1]; exact hz), fun q h1 h2 => by rw [e1, hk q (Nat.lt_of_lt_of_le h1 hS.1) h2]; exact hS.2.1 q h1 h2, fun q hq => by
      rcases List.mem_append.mp hq with h | h
      · exact hS.2.2 q h
      · exact hL q h⟩ T' rfl X'
  exact ⟨t2, st t2 a1, b1⟩
theorem env_at {H : Heap} {locs : List Loc} {U : State} (hE : EnvA K B ext sc s) (hB : B ≤ s.heap.size) (hS : va_S (fun q => B ≤ q) s.heap H locs) (hU : U.heap = H) (hW : s.WarmedH U.vm) : EnvA K B ext sc U :=
  hE.kept hW (fun q hq => by rw [hU]; exact hS.2.1 q (Nat.lt_of_lt_of_le hq hB) (Nat.not_le.mpr hq))
theorem out_map (v : Option Value) (st : List Value) : (v.toList ++ st).map (vmv (rho B ext)) = (v.map (vmv (rho B ext))).toList ++ st.map (vmv (rho B ext)) := by cases v <;> rfl
theorem n_callV (hI : ∀ q av σ o σ1, MOk q → C q av σ o σ1 → Snd l sc d q av σ o σ1) (hC : CX K B ext sc p l R s m args meth c cno code mL rt ini hs d σ0 σ1) : q_callV C cno code mL rt ini hs sc P (XX K B ext p l e R s m args below meth c mL Q σ0 σ1) := by
  intro pc lv st σ i a q As st0 v σ' dd hlk hq hh hs hn ha hw hr k0
  obtain ⟨⟨c1, c2⟩, hM⟩ := hI _ _ _ _ _ hq.1 hr
  obtain ⟨hx, hb, hml, hown, hts, hE, hrt, hlk9, hin, hRm, hB, htr, htab⟩ := hC
  obtain ⟨⟨m1, m2⟩, k0⟩ := k0
  refine ⟨⟨by omega, by omega⟩, fun g1 g2 H locs ls hR hS hl => ?_⟩
  subst hs
  have hst : (As.reverse ++ .ref a :: st).map (vmv (rho B ext)) = (As.map (vmv (rho B ext))).reverse ++ .ref (rho B ext a) :: st.map (vmv (rho B ext)) := by
    rw [List.map_append, List.map_reverse]; rfl
  have hO := (hR.2.2.1 a ha.2).2.2.2.2 _ hq.2.1 ha.1
  obtain ⟨cell, o1, o2, o3, -⟩ := hO
  have hKn := hE.1.1 _ _ (cl_at _ hq.2.1)
  have hcls : s.vm.findClass q.1.cls = some cell.cls := by rw [hq.1.2.2.2.2.2.1, o2]; exact hKn.2.1
  have hpre : PreV s H q.1.cls (rho B ext a) (PcR K B ext sc (.ref a :: As) σ) (As.map (vmv (rho B ext))) :=
    ⟨pcR_blind, ⟨cell, o1, by rw [o3]; rfl, hcls⟩, fun U hU hW => ⟨rfl, by rw [hU]; exact hR, env_at hE hB hS hU hW⟩⟩
  have hcode : (Cond.code q.1 q.2.1 q.2.2.1 q.2.2.2.1).before args s = true := by rw [← cdW_0 hh]; exact hts _ (gwl_mem hq.1.1 (cdW_good q))
  have hcm : Cond.code q.1 q.2.1 q.2.2.1 q.2.2.2.1 ∈ wsOf q := by rw [← cdW_0 hh]; exact List.mem_cons_self
  have hlen : ∀ sig, parseMethodDescriptor q.1.desc = some sig → q.2.2.2.2.2 = sig.parameters.length := fun sig h => by
    have := hq.1.2.2.2.2.1
    rw [h] at this
    exact (Option.some.inj this).symm
  have hrun : va_Run p l e R s m args below meth c H locs (gN σ - gN σ0) (gW σ - gW σ0) (gN σ' - gN σ) (gW σ' - gW σ) (F0 m pc ls ((As.reverse ++ .ref a :: st).map (vmv (rho B ext)))) (st.map (vmv (rho B ext))) (QcR K B ext v σ' (Value.ref (rho B ext a) :: As.map (vmv (rho B ext))).toArray) (fun q => B ≤ q) := by
    have hfr : (rmOf d (gN σ' - gN σ) (gW σ' - gW σ)).frames + 1 ≤ R.frames := by rw [hRm]; show d + 10 + 1 ≤ d + 1 + 10; omega
    have hlo : 8 + (q.2.2.1 + 11) + (rmOf d (gN σ' - gN σ) (gW σ' - gW σ)).locals ≤ R.locals := by
      have := hq.1.2.2.2.2.2.2
      rw [hRm]; show 8 + (q.2.2.1 + 11) + (70 * d + 300) ≤ 70 * (d + 1) + 300; omega
    have hf : gN σ - gN σ0 + (gN σ' - gN σ) ≤ R.cells ∧ gW σ - gW σ0 + (gW σ' - gW σ) ≤ R.slots := by
      rw [hRm]; exact ⟨by show _ ≤ gN σ1 - gN σ0; omega, by show _ ≤ gW σ1 - gW σ0; omega⟩
    have hcs : 2 * (F0 m pc ls ((As.reverse ++ .ref a :: st).map (vmv (rho B ext)))).monitorRoom + ((st.map (vmv (rho B ext))).map fun v => v.category).sum ≤ 8 := by
      rw [cat_map]; show 2 * 0 + catsum st ≤ 8; omega
    rcases hlk with hlk | ⟨host, hlk⟩
    · exact va_runV (C := q.1.cls) (n := q.2.2.2.2.2) ⟨hx, hb, hml, hown, hts⟩ (hM K B ext) ⟨⟨rfl, rfl, hfr, hlo, hws_of hts hq.1, hcm, hcode, hts _ (gwl_mem hq.1.2.1 rfl), hq.1.2.2.2.1, hlen, hts _ (gwl_mem hlk rfl)⟩, hts _ (gwl_mem hq.2.2.1 rfl), hts _ (gwl_mem hq.2.2.2 rfl)⟩ hpre rfl (by rw [List.length_map]; exact hn) hl.1 hst hcs dd hf
    · exact va_runVN (C := q.1.cls) (n := q.2.2.2.2.2) (host := host) ⟨hx, hb, hml, hown, hts⟩ (hM K B ext) ⟨⟨⟨rfl, rfl, hfr, hlo, hws_of hts hq.1, hcm⟩, hcode, hts _ (gwl_mem hq.1.2.1 rfl), hq.1.2.2.2.1, hlen, va_Nw.use rfl (hE.2.1 _ hlk rfl)⟩, hts _ (gwl_mem hq.2.2.1 rfl), hts _ (gwl_mem hq.2.2.2 rfl)⟩ hpre rfl (by rw [List.length_map]; exact hn) hl.1 hst hcs dd hf
  refine m_ret hrun hS (fun H1 locs1 hrel hS1 => ?_)
  refine W_cs (k' := gN σ' - gN σ0) (n' := gW σ' - gW σ0) (by omega) (by omega) ?_
  have := k0 (by omega) (by omega) H1 locs1 ls hrel hS1 hl
  rw [out_map] at this
  exact this
theorem n_callS (hI : ∀ q av σ o σ1, MOk q → C q av σ o σ1 → Snd l sc d q av σ o σ1) (hC : CX K B ext sc p l R s m args meth c cno code mL rt ini hs d σ0 σ1) : q_callS C cno code mL rt ini hs sc P (XX K B ext p l e R s m args below meth c mL Q σ0 σ1) := by
  intro pc lv st σ i q As st0 v σ' dd hlk hq hh hs hn hw hr k0
  obtain ⟨⟨c1, c2⟩, hM⟩ := hI _ _ _ _ _ hq.1 hr
  obtain ⟨hx, hb, hml, hown, hts, hE, hrt, hlk9, hin, hRm, hB, htr, htab⟩ := hC
  obtain ⟨⟨m1, m2⟩, k0⟩ := k0
  refine ⟨⟨by omega, by omega⟩, fun g1 g2 H locs ls hR hS hl => ?_⟩
  subst hs
  have hst : (As.reverse ++ st).map (vmv (rho B ext)) = (As.map (vmv (rho B ext))).reverse ++ st.map (vmv (rho B ext)) := by
    rw [List.map_append, List.map_reverse]
  have hpre : PreS s H (PcR K B ext sc As σ) (As.map (vmv (rho B ext))) :=
    ⟨pcR_blind, fun U hU hW => ⟨rfl, by rw [hU]; exact hR, env_at hE hB hS hU hW⟩⟩
  have hcode : (Cond.code q.1 q.2.1 q.2.2.1 q.2.2.2.1).before args s = true := by rw [← cdW_0 hh]; exact hts _ (gwl_mem hq.1.1 (cdW_good q))
  have hcm : Cond.code q.1 q.2.1 q.2.2.1 q.2.2.2.1 ∈ wsOf q := by rw [← cdW_0 hh]; exact List.mem_cons_self
  have hlen : ∀ sig, parseMethodDescriptor q.1.desc = some sig → q.2.2.2.2.2 = sig.parameters.length := fun sig h => by
    have := hq.1.2.2.2.2.1
    rw [h] at this
    exact (Option.some.inj this).symm
  have hrun : va_Run p l e R s m args below meth c H locs (gN σ - gN σ0) (gW σ - gW σ0) (gN σ' - gN σ) (gW σ' - gW σ) (F0 m pc ls ((As.reverse ++ st).map (vmv (rho B ext)))) (st.map (vmv (rho B ext))) (QcR K B ext v σ' (As.map (vmv (rho B ext))).toArray) (fun q => B ≤ q) := by
    have hfr : (rmOf d (gN σ' - gN σ) (gW σ' - gW σ)).frames + 1 ≤ R.frames := by rw [hRm]; show d + 10 + 1 ≤ d + 1 + 10; omega
    have hlo : 8 + (q.2.2.1 + 11) + (rmOf d (gN σ' - gN σ) (gW σ' - gW σ)).locals ≤ R.locals := by
      have := hq.1.2.2.2.2.2.2
      rw [hRm]; show 8 + (q.2.2.1 + 11) + (70 * d + 300) ≤ 70 * (d + 1) + 300; omega
    have hf : gN σ - gN σ0 + (gN σ' - gN σ) ≤ R.cells ∧ gW σ - gW σ0 + (gW σ' - gW σ) ≤ R.slots := by
      rw [hRm]; exact ⟨by show _ ≤ gN σ1 - gN σ0; omega, by show _ ≤ gW σ1 - gW σ0; omega⟩
    have hcs : 2 * (F0 m pc ls ((As.reverse ++ st).map (vmv (rho B ext)))).monitorRoom + ((st.map (vmv (rho B ext))).map fun v => v.category).sum ≤ 8 := by
      rw [cat_map]; show 2 * 0 + catsum st ≤ 8; omega
    rcases hlk with hlk | ⟨host, hlk⟩
    · exact va_runS (n := q.2.2.2.2.2) ⟨hx, hb, hml, hown, hts⟩ (hM K B ext) ⟨⟨rfl, rfl, hfr, hlo, hws_of hts hq.1, hcm, hcode, hts _ (gwl_mem hq.1.2.1 rfl), hq.1.2.2.2.1, hlen, hts _ (gwl_mem hlk rfl)⟩, hts _ (gwl_mem hq.2 rfl)⟩ hpre rfl (by rw [List.length_map]; exact hn) hl.1 hst hcs dd hf
    · exact va_runSN (n := q.2.2.2.2.2) (host := host) ⟨hx, hb, hml, hown, hts⟩ (hM K B ext) ⟨⟨⟨rfl, rfl, hfr, hlo, hws_of hts hq.1, hcm⟩, hcode, hts _ (gwl_mem hq.1.2.1 rfl), hq.1.2.2.2.1, hlen, va_Nw.use rfl (hE.2.1 _ hlk rfl)⟩, hts _ (gwl_mem hq.2 rfl), trivial⟩ hpre rfl (by rw [List.length_map]; exact hn) hl.1 hst hcs dd hf
  refine m_ret hrun hS (fun H1 locs1 hrel hS1 => ?_)
  refine W_cs (k' := gN σ' - gN σ0) (n' := gW σ' - gW σ0) (by omega) (by omega) ?_
  have := k0 (by omega) (by omega) H1 locs1 ls hrel hS1 hl
  rw [out_map] at this
  exact this
theorem n_callI (hI : ∀ q av σ o σ1, MOk q → C q av σ o σ1 → Snd l sc d q av σ o σ1) (hC : CX K B ext sc p l R s m args meth c cno code mL rt ini hs d σ0 σ1) : q_callI C cno code mL rt ini hs sc P (XX K B ext p l e R s m args below meth c mL Q σ0 σ1) := by
  intro pc lv st σ i a q As st0 σ' dd hlk hq hh hs hn hw hr k0
  obtain ⟨⟨c1, c2⟩, hM⟩ := hI _ _ _ _ _ hq.1 hr
  obtain ⟨hx, hb, hml, hown, hts, hE, hrt, hlk9, hin, hRm, hB, htr, htab⟩ := hC
  obtain ⟨⟨m1, m2⟩, k0⟩ := k0
  refine ⟨⟨by omega, by omega⟩, fun g1 g2 H locs ls hR hS hl => ?_⟩
  subst hs
  obtain ⟨hqo, hq1, hq2, hq3⟩ := hq
  have hst : (As.reverse ++ .ref a :: st).map (vmv (rho B ext)) = (As.map (vmv (rho B ext))).reverse ++ .ref (rho B ext a) :: st.map (vmv (rho B ext)) := by
    rw [List.map_append, List.map_reverse]; rfl
  have hpre : PreS s H (PcR K B ext sc (.ref a :: As) σ) (.ref (rho B ext a) :: As.map (vmv (rho B ext))) :=
    ⟨pcR_blind, fun U hU hW => ⟨rfl, by rw [hU]; exact hR, env_at hE hB hS hU hW⟩⟩
  have hcode : (Cond.code q.1 q.2.1 q.2.2.1 none).before args s = true := by rw [← hq3, ← cdW_0 hh]; exact hts _ (gwl_mem hqo.1 (cdW_good q))
  have hcm : Cond.code q.1 q.2.1 q.2.2.1 none ∈ wsOf q := by rw [← hq3, ← cdW_0 hh]; exact List.mem_cons_self
  have hlen : ∀ sig, parseMethodDescriptor q.1.desc = some sig → q.2.2.2.2.2 = sig.parameters.length := fun sig h => by
    have := hqo.2.2.2.2.1
    rw [h] at this
    exact (Option.some.inj this).symm
  have hrun : va_Run p l e R s m args below meth c H locs (gN σ - gN σ0) (gW σ - gW σ0) (gN σ' - gN σ) (gW σ' - gW σ) (F0 m pc ls ((As.reverse ++ .ref a :: st).map (vmv (rho B ext)))) (st.map (vmv (rho B ext))) (QcR K B ext none σ' (Value.ref (rho B ext a) :: As.map (vmv (rho B ext))).toArray) (fun q => B ≤ q) := by
    have hfr : (rmOf d (gN σ' - gN σ) (gW σ' - gW σ)).frames + 1 ≤ R.frames := by rw [hRm]; show d + 10 + 1 ≤ d + 1 + 10; omega
    have hlo : 8 + (q.2.2.1 + 11) + (rmOf d (gN σ' - gN σ) (gW σ' - gW σ)).locals ≤ R.locals := by
      have := hqo.2.2.2.2.2.2
      rw [hRm]; show 8 + (q.2.2.1 + 11) + (70 * d + 300) ≤ 70 * (d + 1) + 300; omega
    have hf : gN σ - gN σ0 + (gN σ' - gN σ) ≤ R.cells ∧ gW σ - gW σ0 + (gW σ' - gW σ) ≤ R.slots := by
      rw [hRm]; exact ⟨by show _ ≤ gN σ1 - gN σ0; omega, by show _ ≤ gW σ1 - gW σ0; omega⟩
    have hcs : 2 * (F0 m pc ls ((As.reverse ++ .ref a :: st).map (vmv (rho B ext)))).monitorRoom + ((st.map (vmv (rho B ext))).map fun v => v.category).sum ≤ 8 := by
      rw [cat_map]; show 2 * 0 + catsum st ≤ 8; omega
    rcases hlk with hlk | ⟨host, hlk⟩
    · exact va_runI (n := q.2.2.2.2.2) ⟨hx, hb, hml, hown, hts⟩ (hM K B ext) ⟨⟨rfl, rfl, hfr, hlo, hws_of hts hqo, hcm, hcode, hts _ (gwl_mem hqo.2.1 rfl), hqo.2.2.2.1, hlen, hts _ (gwl_mem hlk rfl)⟩, hq1, hts _ (gwl_mem hq2 rfl)⟩ hpre rfl (by rw [List.length_map]; exact hn) hl.1 hst hcs dd hf
    · exact va_runIN (n := q.2.2.2.2.2) (host := host) ⟨hx, hb, hml, hown, hts⟩ (hM K B ext) ⟨⟨⟨rfl, rfl, hfr, hlo, hws_of hts hqo, hcm⟩, hcode, hts _ (gwl_mem hqo.2.1 rfl), hqo.2.2.2.1, hlen, va_Nw.use rfl (hE.2.1 _ hlk rfl)⟩, hq1, hts _ (gwl_mem hq2 rfl)⟩ hpre rfl (by rw [List.length_map]; exact hn) hl.1 hst hcs dd hf
  refine m_ret hrun hS (fun H1 locs1 hrel hS1 => ?_)
  refine W_cs (k' := gN σ' - gN σ0) (n' := gW σ' - gW σ0) (by omega) (by omega) ?_
  exact k0 (by omega) (by omega) H1 locs1 ls hrel hS1 hl
/-! ends -/
theorem n_iret {o : aO} (hC : CX K B ext sc p l R s m args meth c cno code mL rt ini hs d σ0 σ1) : q_iret C cno code mL rt ini hs sc (fun o' σ' => o' = o ∧ σ' = σ1) (XX K B ext p l e R s m args below meth c mL (Qf K B ext o σ1 below args s (gN σ1 - gN σ0) (gW σ1 - gW σ0)) σ0 σ1) := by
  intro pc lv st σ v dd hrt hP
  obtain ⟨rfl, rfl⟩ := hP
  obtain ⟨hx, hb, hml, hown, hts, hE, hr, hlk9, hin, hRm, hB, htr, htab⟩ := hC
  exact ⟨⟨Nat.le_refl _, Nat.le_refl _⟩, fun g1 g2 H locs ls hR hS hl => W.iret (v := v) hx hb (hr.trans hrt) (fun t ht hW => ⟨rfl, by rw [ht]; exact hR, hS.F ht⟩) hS.2.2 dd hlk9⟩
theorem n_zret {o : aO} (hC : CX K B ext sc p l R s m args meth c cno code mL rt ini hs d σ0 σ1) : q_zret C cno code mL rt ini hs sc (fun o' σ' => o' = o ∧ σ' = σ1) (XX K B ext p l e R s m args below meth c mL (Qf K B ext o σ1 below args s (gN σ1 - gN σ0) (gW σ1 - gW σ0)) σ0 σ1) := by
  intro pc lv st σ v dd hrt hv hP
  obtain ⟨rfl, rfl⟩ := hP
  obtain ⟨hx, hb, hml, hown, hts, hE, hr, hlk9, hin, hRm, hB, htr, htab⟩ := hC
  exact ⟨⟨Nat.le_refl _, Nat.le_refl _⟩, fun g1 g2 H locs ls hR hS hl => W.zret (v := v) (ty := .boolean) hx hb (hr.trans hrt) (by rcases hv with rfl | rfl <;> rfl) (fun t ht hW => ⟨rfl, by rw [ht]; exact hR, hS.F ht⟩) hS.2.2 dd hlk9⟩
theorem n_lret {o : aO} (hC : CX K B ext sc p l R s m args meth c cno code mL rt ini hs d σ0 σ1) : q_lret C cno code mL rt ini hs sc (fun o' σ' => o' = o ∧ σ' = σ1) (XX K B ext p l e R s m args below meth c mL (Qf K B ext o σ1 below args s (gN σ1 - gN σ0) (gW σ1 - gW σ0)) σ0 σ1) := by
  intro pc lv st σ v dd hrt hP
  obtain ⟨rfl, rfl⟩ := hP
  obtain ⟨hx, hb, hml, hown, hts, hE, hr, hlk9, hin, hRm, hB, htr, htab⟩ := hC
  exact ⟨⟨Nat.le_refl _, Nat.le_refl _⟩, fun g1 g2 H locs ls hR hS hl => W.lret (v := v) hx hb (hr.trans hrt) (fun t ht hW => ⟨rfl, by rw [ht]; exact hR, hS.F ht⟩) hS.2.2 dd hlk9⟩
theorem n_aret {o : aO} (hC : CX K B ext sc p l R s m args meth c cno code mL rt ini hs d σ0 σ1) : q_aret C cno code mL rt ini hs sc (fun o' σ' => o' = o ∧ σ' = σ1) (XX K B ext p l e R s m args below meth c mL (Qf K B ext o σ1 below args s (gN σ1 - gN σ0) (gW σ1 - gW σ0)) σ0 σ1) := by
  intro pc lv st σ a ty dd hrt hP
  obtain ⟨rfl, rfl⟩ := hP
  obtain ⟨hx, hb, hml, hown, hts, hE, hr, hlk9, hin, hRm, hB, htr, htab⟩ := hC
  exact ⟨⟨Nat.le_refl _, Nat.le_refl _⟩, fun g1 g2 H locs ls hR hS hl => W.aret (v := .ref (rho B ext a)) hx hb (hr.trans hrt) (Or.inl ⟨_, rfl⟩) (Or.inr ⟨_, rfl⟩) (fun t ht hW => ⟨rfl, by rw [ht]; exact hR, hS.F ht⟩) hS.2.2 dd hlk9⟩
theorem n_vret {o : aO} (hC : CX K B ext sc p l R s m args meth c cno code mL rt ini hs d σ0 σ1) : q_vret C cno code mL rt ini hs sc (fun o' σ' => o' = o ∧ σ' = σ1) (XX K B ext p l e R s m args below meth c mL (Qf K B ext o σ1 below args s (gN σ1 - gN σ0) (gW σ1 - gW σ0)) σ0 σ1) := by
  intro pc lv st σ dd hrt hP
  obtain ⟨rfl, rfl⟩ := hP
  obtain ⟨hx, hb, hml, hown, hts, hE, hr, hlk9, hin, hRm, hB, htr, htab⟩ := hC
  exact ⟨⟨Nat.le_refl _, Nat.le_refl _⟩, fun g1 g2 H locs ls hR hS hl => W.vret hx hb (hr.trans hrt) (fun t ht hW => ⟨rfl, by rw [ht]; exact hR, hS.F ht⟩) hS.2.2 dd hlk9⟩
theorem skip_rel {σ : aH} {H H1 : Heap} (hR : Rel K B ext σ H) (hz : H1.size = H.size + 1) (ho : ∀ q, q < H.size → H1[q]? = H[q]?) (hb : gN σ + 1 ≤ 1000000) : Rel K B ext (sSkip σ 1 6) H1 := by
  refine hR.more (k := 1) rfl hb hz ho (fun b _ => ⟨rfl, rfl, rfl, rfl⟩) (fun b _ => rfl) (fun b h1 h2 => ?_)
  have ht : tg (sSkip σ 1 6) b = 0 := hR.2.2.2 b h1
  refine ⟨fun t => ?_, fun t => ?_, fun t => ?_, fun t => ?_, fun cj hj t => ?_⟩ <;> omega
theorem n_throwN {o : aO} (hC : CX K B ext sc p l R s m args meth c cno code mL rt ini hs d σ0 σ1) : q_throwN C cno code mL rt ini hs sc (fun o' σ' => o' = o ∧ σ' = σ1) (XX K B ext p l e R s m args below meth c mL (Qf K B ext o σ1 below args s (gN σ1 - gN σ0) (gW σ1 - gW σ0)) σ0 σ1) := by
  intro pc lv st σ ik is ic ex d0 d3 d4 d6 d9 ht hw hbd hno hP
  obtain ⟨rfl, rfl⟩ := hP
  obtain ⟨hx, hb, hml, hown, hts, hE, hr, hlk9, hin, hRm, hB, htr, htab⟩ := hC
  have e1 : gN (sSkip σ 1 6) = gN σ + 1 := rfl
  have e2 : gW (sSkip σ 1 6) = gW σ + 6 := rfl
  refine ⟨⟨by omega, by omega⟩, fun g1 g2 H locs ls hR hS hl => ?_⟩
  obtain ⟨hc9, ht⟩ := ht
  subst hc9
  have hat : ∀ L : List Cond, (∃ ps : List Nat, L = ps.filterMap (fun i => lw_tbl[i]?)) → L.all (fun w => goodWord w || nestW w) = true → ∀ w ∈ L, w.before args s = true := by
    intro L hps hg w hw
    have h1 := List.all_eq_true.mp hg w hw
    obtain ⟨ps, hps⟩ := hps
    have hm : w ∈ lw_tbl := by
      rw [hps] at hw
      obtain ⟨i, -, hi⟩ := List.mem_filterMap.mp hw
      exact List.mem_of_getElem? hi
    simp only [Bool.or_eq_true] at h1
    rcases h1 with h1 | h1
    · exact hts w (gwl_mem hm h1)
    · have := hE.2.1 w hm h1
      cases w <;> first | exact va_Nw.use rfl this | (simp [nestW] at h1)
  have hXC : ∀ (cls : String) (ex : Nat), cls = exN ex → ∀ t : State, s.vm.Alike t.vm → t.heap.size = H.size + 1 → (∀ q : Nat, q < H.size → t.heap[q]? = H[q]?) → XcR K B ext ex (sSkip σ 1 6) cls s t := by
    intro cls ex hcls t _ hz ho
    exact ⟨hcls, skip_rel hR hz ho (by omega), by rw [hz]; have := hS.1; omega, fun q h1 h2 => (ho q (Nat.lt_of_lt_of_le h1 hS.1)).trans (hS.2.1 q h1 h2)⟩
  have hfr : (1 : Nat) + 4 < R.frames := by rw [hRm]; show 5 < d + 1 + 10; omega
  have hlo : ((st.map (vmv (rho B ext))).map fun v => v.category).sum + (13 * (1 + 2) + 43) ≤ R.locals := by rw [hRm, cat_map]; show catsum st + _ ≤ 70 * (d + 1) + 300; omega
  have hce : gN σ - gN σ0 + 1 ≤ R.cells := by rw [hRm]; show _ ≤ gN (sSkip σ 1 6) - gN σ0; omega
  have hsl : gW σ - gW σ0 + 6 ≤ R.slots := by rw [hRm]; show _ ≤ gW (sSkip σ 1 6) - gW σ0; omega
  rcases ht with ⟨rfl, rfl, rfl, rfl⟩ | ⟨rfl, rfl, rfl, rfl⟩
  · exact tx_throw (A := fun q => B ≤ q) hx hb htr txD0_0 txD0_1 txD0_2 txD0_5 (cls := "java/util/NoSuchElementException") (SY := "java/lang/RuntimeException") (r := ["java/lang/Exception"]) hown (by decide +kernel) (by decide +kernel) (hts _ (gwl_mem txL0 rfl)) (hts _ (gwl_mem txI0 rfl)) (hE.2.2.2.2.2.1 10 _ _ _ rfl) (hat _ ⟨_, txP0⟩ txG0) (List.all_eq_true.mp txO0) hE.2.2.2.2.1.1 hE.2.2.2.2.1.2 hS (by rw [hml]; exact hl.1) d0 d3 d4 d6 d9 (fun x hx => by rw [htab, hno] at hx; cases hx) hfr hlo hce hsl hlk9 (hXC _ 0 rfl) hS.2.2 (by omega) (by omega)
  · exact tx_throw (A := fun q => B ≤ q) hx hb htr txD1_0 txD1_1 txD1_2 txD1_5 (cls := "java/lang/IllegalArgumentException") (SY := "java/lang/RuntimeException") (r := ["java/lang/Exception"]) hown (by decide +kernel) (by decide +kernel) (hts _ (gwl_mem txL1 rfl)) (hts _ (gwl_mem txI1 rfl)) (hE.2.2.2.2.2.1 11 _ _ _ rfl) (hat _ ⟨_, txP1⟩ txG1) (List.all_eq_true.mp txO1) hE.2.2.2.2.1.1 hE.2.2.2.2.1.2 hS (by rw [hml]; exact hl.1) d0 d3 d4 d6 d9 (fun x hx => by rw [htab, hno] at hx; cases hx) hfr hlo hce hsl hlk9 (hXC _ 1 rfl) hS.2.2 (by omega) (by omega)
end
