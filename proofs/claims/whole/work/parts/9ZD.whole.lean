/-! THE WORLD AT THE LAW'S ENTRY. -/
abbrev fl1 : List Cond := flatC (Jvm.Cond.and given_1 narrow_1)
theorem in_inst : ∀ ci : Nat, ci < 11 → Cond.instantiable (cn ci) (cN ci) ∈ lw_tbl := by
  intro ci h
  rcases (show ci = 0 ∨ ci = 1 ∨ ci = 2 ∨ ci = 3 ∨ ci = 4 ∨ ci = 5 ∨ ci = 6 ∨ ci = 7 ∨ ci = 8 ∨ ci = 9 ∨ ci = 10 by omega) with rfl | rfl | rfl | rfl | rfl | rfl | rfl | rfl | rfl | rfl | rfl
  · exact List.mem_of_getElem? (i := 360) (by decide +kernel)
  · exact List.mem_of_getElem? (i := 209) (by decide +kernel)
  · exact List.mem_of_getElem? (i := 282) (by decide +kernel)
  · exact List.mem_of_getElem? (i := 241) (by decide +kernel)
  · exact List.mem_of_getElem? (i := 257) (by decide +kernel)
  · exact List.mem_of_getElem? (i := 172) (by decide +kernel)
  · exact List.mem_of_getElem? (i := 263) (by decide +kernel)
  · exact List.mem_of_getElem? (i := 288) (by decide +kernel)
  · exact List.mem_of_getElem? (i := 269) (by decide +kernel)
  · exact List.mem_of_getElem? (i := 164) (by decide +kernel)
  · exact List.mem_of_getElem? (i := 1402) (by decide +kernel)
abbrev tmS (i : Nat) : Term := .string RX5 (88 + 2 * i)
theorem fs_ex : ∀ i : Nat, i < 10 → Cond.exactly (tmS i) "java/lang/String" ∈ fl1 := by decide +kernel
theorem fs_co : ∀ i : Nat, i < 10 → Cond.eq (.field (tmS i) "java/lang/String" "coder" "B") (.int 0) ∈ fl1 := by decide +kernel
theorem fs_ar : ∀ i : Nat, i < 10 → Cond.arrayOf (.field (tmS i) "java/lang/String" "value" "[B") .byte ∈ fl1 := by decide +kernel
theorem fs_le : ∀ i : Nat, i < 10 → Cond.eq (.length (.field (tmS i) "java/lang/String" "value" "[B")) (.int (Int32.ofNat (wdLen.getD i 0))) ∈ fl1 := by decide +kernel
theorem fs_el : ∀ i : Nat, i < 10 → ∀ j : Nat, j < wdLen.getD i 0 → Cond.eq (.elem (.field (tmS i) "java/lang/String" "value" "[B") (.int (Int32.ofNat j))) (.int ((wdByt.getD i []).getD j 0)) ∈ fl1 := by decide +kernel
theorem fs_ne : ∀ i : Nat, i < 10 → ∀ j : Nat, j < 10 → i ≠ j → Cond.not (Cond.eq (tmS i) (tmS j)) ∈ fl1 ∨ Cond.not (Cond.eq (tmS j) (tmS i)) ∈ fl1 := by decide +kernel
theorem fs_m0 : Cond.exactly (.string RX9 334) "java/lang/String" ∈ fl1 := by decide +kernel
theorem fs_m1 : Cond.exactly (.string RX9 341) "java/lang/String" ∈ fl1 := by decide +kernel
theorem fs_us : Cond.isRef (.static Bundle.tN "UNASSIGNED_STACK" Bundle.steD) ∈ fl1 := by decide +kernel
theorem fs_ss : Cond.isRef (.static Bundle.tN "SUPPRESSED_SENTINEL" Bundle.listD) ∈ fl1 := by decide +kernel
theorem fs_cs : Cond.eq (.static "java/lang/String" "COMPACT_STRINGS" "Z") (.int 1) ∈ fl1 := by decide +kernel
theorem fs_sf : Cond.isRef (.static "jdk/internal/util/Preconditions" "SIOOBE_FORMATTER" "Ljava/util/function/BiFunction;") ∈ fl1 := by decide +kernel
theorem fs_nc : Cond.not (.castable "java/lang/IllegalArgumentException" "java/util/NoSuchElementException") ∈ fl1 := by decide +kernel
theorem st_word : ∀ q : Nat, q < 12 → Cond.stringRef (cn (strT.getD q (0, 0, "")).1) (strT.getD q (0, 0, "")).2.1 (strT.getD q (0, 0, "")).2.2 ∈ lw_tbl := by decide +kernel
theorem wd_31 : ∀ i : Nat, i < 10 → wdLen.getD i 0 < 2 ^ 31 := by decide +kernel
theorem env_start {s : State} {b L : Nat} {xs : Nat → Int32} (hts : ∀ w ∈ lw_tbl, w.before #[Value.ref b] s = true) (hX : va_X b L xs s s.heap) (hbl : b < s.heap.size) (hgv : (Jvm.Cond.and given_1 narrow_1).before #[Value.ref b] s = true) : ∃ (K : aC) (ext : Nat → Nat), ext 1000000 = b ∧ EnvA K s.heap.size ext (L, xs) s := by
  have hq := flat_of_before _ hgv
  have hA : ∀ a : Nat, a < s.heap.size → ¬ (fun q => s.heap.size ≤ q) a := fun a h => Nat.not_le.mpr h
  have hc : ∀ ci : Nat, ∃ q : ClassId × (Nat → Nat), ci < 11 → u_Kn s (cn ci) (cT ci) (cN ci) q.1 q.2 := fun ci => by
    by_cases h : ci < 11
    · obtain ⟨cC, iS, hk⟩ := u_known (ws := gwl) (s := s) (args := #[Value.ref b]) (C := cn ci) (T := cT ci) (N := cN ci) (n := cN ci) (fun w hw => hts w (List.mem_filter.mp hw).1) (uw_in ci h) (hts _ (in_inst ci h))
      exact ⟨(cC, iS), fun _ => hk⟩
    · exact ⟨(0, fun _ => 0), fun z => absurd z h⟩
  obtain ⟨D, hD⟩ := Classical.axiomOfChoice hc
  obtain ⟨cI, kI, mI, i1, i2, i3⟩ := Cond.arrayClass_spec (hts (.arrayClass .int) (List.mem_of_getElem? (i := 239) (by decide +kernel)))
  obtain ⟨cB, kB, mB, b1, b2, b3⟩ := Cond.arrayClass_spec (hts (.arrayClass .byte) (List.mem_of_getElem? (i := 207) (by decide +kernel)))
  obtain ⟨cJ, kJ, mJ, j1, j2, j3⟩ := Cond.arrayClass_spec (hts (.arrayClass .long) (List.mem_of_getElem? (i := 517) (by decide +kernel)))
  obtain ⟨mA, cA, kA, a1, a2, a3, a4, a5⟩ := arrayOverA_spec (hts (.arrayOver (.array .int)) (List.mem_of_getElem? (i := 215) (by decide +kernel)))
  obtain ⟨adK, adV, hV, hev⟩ := vk_Sof (args := #[Value.ref b]) (s := s) (N := 10) (tm := tmS) (len := wdLen) (byt := wdByt) (A := fun q => s.heap.size ≤ q) wd_31 (fun i hi => hq _ (fs_ex i hi)) (fun i hi => hq _ (fs_co i hi)) (fun i hi => hq _ (fs_ar i hi)) (fun i hi => hq _ (fs_le i hi)) (fun i hi j hj => hq _ (fs_el i hi j hj)) (fun i j hi hj hne => (fs_ne i hi j hj hne).imp (fun h => hq _ h) (fun h => hq _ h)) hA
  obtain ⟨x0, -, -, -, e0, -⟩ := Cond.exactly_spec (hq _ fs_m0)
  obtain ⟨x1, -, -, -, e1, -⟩ := Cond.exactly_spec (hq _ fs_m1)
  obtain ⟨ext, he0, hes, hx0, hx1⟩ : ∃ ext : Nat → Nat, ext 1000000 = b ∧ (∀ i : Nat, i < 10 → ext (1000001 + i) = adK i) ∧ ext 1000011 = x0 ∧ ext 1000012 = x1 := ⟨fun a => if a = 1000000 then b else if a < 1000011 then adK (a - 1000001) else if a = 1000011 then x0 else x1, if_pos rfl, fun i hi => by dsimp only; rw [if_neg (by omega), if_pos (by omega), show 1000001 + i - 1000001 = i by omega], by dsimp only; rw [if_neg (by decide), if_neg (by decide), if_pos rfl], by dsimp only; rw [if_neg (by decide), if_neg (by decide), if_neg (by decide)]⟩
  have hao : aoA s := by
    have h := hts (.arrayOver (.array .int)) (List.mem_of_getElem? (i := 215) (by decide +kernel))
    unfold aoA
    simp only [Cond.before, Cond.holds, Cond.value] at h ⊢
    exact h
  refine ⟨((fun c => (D c).1, fun c => (D c).2), cI, cB, cJ, cA), ext, he0, ⟨fun c q h => ?_, fun k q h => ?_⟩, fun w hw hn => ?_, ⟨by rw [he0]; exact hX, by rw [he0]; exact hbl⟩, hao, ⟨vx_Zqof (hts _ (List.mem_of_getElem? (i := 773) (by decide +kernel))) (hts _ (List.mem_of_getElem? (i := 151) (by decide +kernel))) (hq _ fs_us) hA, vx_Zqof (hts _ (List.mem_of_getElem? (i := 775) (by decide +kernel))) (hts _ (List.mem_of_getElem? (i := 151) (by decide +kernel))) (hq _ fs_ss) hA⟩, fun q c i text h => ?_, va_Nc.of (hq _ fs_nc), adV, ⟨fun i hi => ?_, fun i j hi hj h => ?_⟩, va_Zof (hts _ (List.mem_of_getElem? (i := 860) (by decide +kernel))) (hts _ (List.mem_of_getElem? (i := 156) (by decide +kernel))) (va_eqt (hq _ fs_cs)) hA, va_Zqof (hts _ (List.mem_of_getElem? (i := 876) (by decide +kernel))) (hts _ (List.mem_of_getElem? (i := 158) (by decide +kernel))) (hq _ fs_sf) hA⟩
  · by_cases h11 : c < 11
    · rw [cl_at c h11] at h
      cases h
      exact hD c h11
    · exact absurd h (by rw [List.getElem?_eq_none (by show 11 ≤ c; omega)]; exact fun z => by cases z)
  · rcases k with _ | _ | _ | _ | k
    · cases h; exact ⟨fun n z => ⟨fun k h => (by cases h), kI, i2, mI, i3⟩, i1⟩
    · cases h; exact ⟨fun n z => ⟨fun k h => (by cases h), kB, b2, mB, b3⟩, b1⟩
    · cases h; exact ⟨fun n z => ⟨fun k h => (by cases h), kJ, j2, mJ, j3⟩, j1⟩
    · cases h; exact ⟨fun n z => ⟨fun k h => (by cases h), kA, a3, mA, a4⟩, a5⟩
    · exact absurd h (by rw [List.getElem?_eq_none (by show 4 ≤ k + 4; omega)]; exact fun z => by cases z)
  · have h1 := hts w hw
    cases w <;> first | exact va_Nw.of rfl h1 | (simp [nestW] at hn)
  · have hq12 : q < 12 := by
      by_cases z : q < 12
      · exact z
      · rw [List.getElem?_eq_none (by show 12 ≤ q; omega)] at h
        cases h
    have hg : strT.getD q (0, 0, "") = (c, i, text) := by rw [List.getD_eq_getElem?_getD, h]; rfl
    have hw := hts _ (st_word q hq12)
    rw [hg] at hw
    refine vk_R.of hw ?_
    by_cases h10 : q < 10
    · rw [hes q h10]
      have := hev q h10
      have ht : tmS q = .string (cn c) i := by
        have key : ∀ q : Nat, q < 10 → tmS q = .string (cn (strT.getD q (0, 0, "")).1) (strT.getD q (0, 0, "")).2.1 := by decide +kernel
        rw [key q h10, hg]
      rw [ht] at this
      exact this
    · rcases (show q = 10 ∨ q = 11 by omega) with rfl | rfl
      · cases h
        rw [show 1000001 + 10 = 1000011 from rfl, hx0]
        exact e0
      · cases h
        rw [show 1000001 + 11 = 1000012 from rfl, hx1]
        exact e1
  · have := hV.1 i hi
    dsimp only
    rw [hes i hi]
    exact this
  · dsimp only at h
    rw [hes i hi, hes j hj] at h
    exact hV.2 i j hi hj h
theorem room_less {s : State} {pl : Platform} {r r' : Room} (hf : r.frames ≤ r'.frames) (hl : r.locals ≤ r'.locals) (hc : r.cells ≤ r'.cells) (hs : r.slots ≤ r'.slots) (h : s.hasRoom pl r' = true) : s.hasRoom pl r = true := by
  simp only [State.hasRoom, Bool.and_eq_true, decide_eq_true_eq] at h ⊢
  obtain ⟨⟨⟨⟨y, a, b, c, d, e⟩, f⟩, g⟩, i⟩ := h
  exact ⟨⟨⟨⟨by omega, by omega, by omega, by omega, by omega, e⟩, by omega⟩, by omega⟩, i⟩
theorem traces_off {l : Launch} (hf : l.flags = flags0) : l.stackTraces = false := by
  unfold Launch.stackTraces
  rw [hf]; decide
/-! THE CLAIM OUT OF ONE WALK OF THE LAW'S BODY. Your part is whole_start (and what it stands on); all else here is the same for every law, but numbers. -/
def R_law : String := "ShadeLedgerLaw"
def lw_P (b : Addr) (xs : List Int32) (args : Array Value) (s : State) : Prop := args = #[.ref b] ∧ s.IntsAt b xs ∧ xs.length ≤ 3072 ∧ (Jvm.Cond.and given_1 narrow_1).before args s = true
def lw_Q (_ : Array Value) (s : State) (o : Outcome) (t : State) : Prop := o = .returned (some (.int 1)) ∧ Framed s o t [] 601024 7293034
def lw_Z (below : List Frame) (a : Array Value) (s : State) : State → Prop := fun t => ∃ o, t.status = .running ∧ Ended t below o ∧ lw_Q a s o t
/-- what holds at the law's entry: the machine, the code, the tables' words (any of lw_tbl by 'hts w (by decide +kernel)'), the script of L ints xs at the cell b, what the Statement gives of the start (any of its parts by flat_of_before) -/
def lw_At (p : Program) (s : State) (m : MethodId) (meth : Method) (c : Code) (b L : Nat) (xs : Nat → Int32) : Prop :=
  p.tables.exec = Jvm.exec ∧ c.code = code ∧ meth.sig.returnType = ret ∧ c.maxLocals = 7 ∧ s.vm.findClass R_law = some m.cls ∧ (∀ w ∈ lw_tbl, w.before #[Value.ref b] s = true) ∧ va_X b L xs s s.heap ∧ b < s.heap.size ∧ meth.locks = false ∧ (Jvm.Cond.and given_1 narrow_1).before #[Value.ref b] s = true
/-- from the entry, for every script of at most 3072 ints, the law comes to its end with true -/
theorem whole_start {p : Program} {e : Env} {s : State} {m : MethodId} {below : List Frame} {meth : Method} {c : Code} (l : Launch) (htr : l.stackTraces = false) (htab : c.exceptionTable.toList = []) {b L : Nat} {xs : Nat → Int32} (hL : L ≤ 3072) (C0 : lw_At p s m meth c b L xs) : W p l e room_1 s m #[Value.ref b] below meth c s.heap [] 0 0 (lw_Z below #[Value.ref b] s) (entryFrame m ([Value.ref b] : List Value).toArray 7) := by
  obtain ⟨hx, hb, hr, hml, hown, hts, hX, hbl, hlocks, hgv⟩ := C0
  obtain ⟨K, ext, hext, hE⟩ := env_start hts hX hbl hgv
  have h0 := law_start (sc := (L, xs)) (d := 0) (Q := fun o σ => o = .inl (some (.int (nZ 1))) ∧ gN σ ≤ 1369 ∧ gW σ ≤ 30240) (by show (L : Int) ≤ 3072; omega) (fun σ h1 h2 => ⟨rfl, by omega, by omega⟩)
  obtain ⟨o, σ1, ⟨ho, h1, h2⟩, hw⟩ := wp_ex h0
  subst ho
  have hrel : Rel K s.heap.size ext cs_0 s.heap := ⟨rfl, by decide, fun a h => absurd h (Nat.not_lt_zero a), fun a _ => rfl⟩
  have hC : CX K s.heap.size ext (L, xs) p l (rmOf 14 (gN σ1 - gN cs_0) (gW σ1 - gW cs_0)) s m #[Value.ref b] meth c 11 cL_law 7 (some .boolean) false [] 13 cs_0 σ1 := ⟨hx, hb, hml, hown, fun w h => hts w (List.mem_filter.mp h).1, hE, hr, hlocks, (fun z => by cases z), rfl, Nat.le_refl _, htr, htab⟩
  have hXX := hw _ (n_all (e := e) (below := below) (sound htr (L, xs) 13) hC ⟨rfl, rfl⟩)
  have hW := snd_start (av := [.ref 1000000]) (Nat.le_of_ble_eq_true rfl) hrel hXX
  have hentry : (([.ref 1000000] : List Value).map (vmv (rho s.heap.size ext))).toArray = ([Value.ref b] : List Value).toArray := by
    show #[Value.ref (rho s.heap.size ext 1000000)] = #[Value.ref b]
    rw [show rho s.heap.size ext 1000000 = ext 1000000 from if_neg (by decide), hext]
  rw [hentry] at hW
  intro T hT X
  obtain ⟨t, hst, hQ⟩ := hW T hT { X with room := room_less (by show 14 + 10 ≤ 2048; decide) (by show 70 * 14 + 300 ≤ 84000; decide) (by show gN σ1 - gN cs_0 ≤ 601024; omega) (by show gW σ1 - gW cs_0 ≤ 7293034; omega) X.room }
  obtain ⟨o, q1, q2, ⟨q3, -, -⟩, Lc, ⟨f1, f2, f3⟩, hLc⟩ := hQ
  refine ⟨t, hst, o, q1, q2, q3, f1, f2, f3.weaken (fun y hy hlt => absurd hlt (Nat.not_lt.mpr (hLc y hy))) (by show gN σ1 - gN cs_0 ≤ 601024; omega) (by show gW σ1 - gW cs_0 ≤ 7293034; omega)⟩
set_option maxHeartbeats 4000000 in
theorem lw_walk (l : Launch) (htr : l.stackTraces = false) (b : Addr) (xs : List Int32) : MetFree l x (headSpec (Jvm.Cond.code x code maxLocals ret :: tables_1) room_1) (lw_P b xs) (fun _ _ _ _ _ => True) lw_Q := by
  refine MetFree.of_bodyS (code := code) (maxLocals := maxLocals) (ret := ret) (by decide) ?_ ?_
  · intro args s m h hn
    obtain ⟨meth, c, h1, h2, h3, h4, h5, h6, -, -⟩ := Cond.code_spec hn (atoms_spec (ws := Jvm.Cond.code x code maxLocals ret :: tables_1) h _ List.mem_cons_self)
    exact ⟨meth, c, h1, h2, h3, h4, h5, h6⟩
  · intro p e s m args below meth c s₁ B hml0 hP _
    obtain ⟨rfl, hx, hbd, hgv⟩ := hP
    obtain ⟨scr, harrAt, hlist, hof, hsmall⟩ := hx
    obtain ⟨hcb, hkn, -, -⟩ := State.arrayAt?_spec harrAt
    have hown : s.vm.findClass R_law = some m.cls := findClass_of_methodNamed B.named
    have hts0 : ∀ c ∈ (Jvm.Cond.code x code maxLocals ret :: tables_1), c.before #[Value.ref b] s = true := atoms_spec (ws := Jvm.Cond.code x code maxLocals ret :: tables_1) B.pre
    have hts : ∀ w ∈ lw_tbl, w.before #[Value.ref b] s = true := k2_hts_sels lw_privs (fun w hw => hts0 w (List.mem_cons_of_mem _ hw)) lw_privs_ok
    have hml : c.maxLocals = 7 := B.maxLocals_eq (hts0 _ List.mem_cons_self)
    have X₀ : Stand p l e room_1 s m #[Value.ref b] below meth c s₁ [] 0 0 := Stand.of_body B
    have hh0 : s₁.heap = s.heap := by rw [B.state]; rfl
    have hsz : scr.slots.size = xs.length := by rw [← Array.length_toList, hlist, List.length_map]
    have hval : ∀ j : Nat, j < xs.length → scr.slots[j]? = some (.int (xs.getD j 0)) := fun j hj => by
      rw [← Array.getElem?_toList, hlist]
      simp [hj]
    have hbl : b < s.heap.size := (Array.getElem?_eq_some_iff.mp hcb).1
    have hX : va_X b xs.length (fun j => xs.getD j 0) s s.heap := ⟨scr, hcb, hof, hkn, hsz, hval⟩
    have K : W p l e room_1 s m #[Value.ref b] below meth c s₁.heap [] 0 0 (lw_Z below #[Value.ref b] s) (entryFrame m ([Value.ref b] : List Value).toArray 7) := by
      rw [hh0]
      have htab : c.exceptionTable.toList = [] := by
        obtain ⟨meth9, c9, h1, h2, -, -, -, -, h7, -⟩ := Cond.code_spec B.named (hts0 _ List.mem_cons_self)
        cases Option.some.inj (h1.symm.trans B.method)
        cases Option.some.inj (h2.symm.trans (Stand.of_body B).code)
        rw [Array.isEmpty_iff.mp h7]
      exact whole_start l htr htab hbd ⟨B.exec, B.bytes, B.returns, hml, hown, hts, hX, hbl, B.notSynchronized, hgv⟩
    obtain ⟨t, a1, o, b1, b2, b3⟩ := K s₁ rfl X₀
    exact ⟨t, o, a1, b1, b2, b3⟩
theorem lw_pre_spec {args : Array Value} {s : State} (h : (Jvm.Cond.and given_1 narrow_1).before args s = true) (hr : rest_1_c.before args s = true) : ∃ (b : Addr) (xs : List Int32), lw_P b xs args s := by
  have hs := flat_of_before _ h
  have hq := flat_of_before _ hr
  have hc : (Cond.count 1).before args s = true := hs _ (by decide +kernel)
  have harr : (Cond.arrayOf (.arg 0) .int).before args s = true := hs _ (by decide +kernel)
  have hle : (Cond.le (.length (.arg 0)) (.int 3072)).before args s = true := hs _ (by decide +kernel)
  have hlen : (Cond.isInt (.length (.arg 0))).before args s = true := hq _ (by decide +kernel)
  have hall : (Cond.all (.arg 0) (.isInt (.elem (.arg 0) (.index 0)))).before args s = true := hq _ (by decide +kernel)
  obtain ⟨b, xs, hb, hx⟩ := State.ints_of_pre rfl harr hlen hall
  have hsm : xs.length < 2 ^ 31 := hx.choose_spec.2.2.2
  have hev : (Term.length (.arg 0)).eval args s none [] s = some (.int xs.length.toInt32) := hx.length_eval hb
  have hv := Cond.le_ints hev (show (Term.int 3072).eval args s none [] s = some (.int 3072) from rfl)
  have hd : xs.length.toInt32 ≤ 3072 := by
    simpa [Cond.before, Cond.holds, hv] using hle
  have hN : xs.length ≤ 3072 := (Int32.ofNat_le_ofNat hsm (by decide)).mp (show Int32.ofNat xs.length ≤ Int32.ofNat 3072 from hd)
  exact ⟨b, xs, Cond.one_arg hc (show args[0]? = some (.ref b) from hb), hx, hN, h⟩
theorem lw_comes (l : Launch) (htr : l.stackTraces = false) : Comes l x (Jvm.Cond.code x code maxLocals ret :: tables_1) room_1 (fun tb e args s => Calls_1 tb e args s ∧ rest_1 tb e args s ∧ Pre_1 tb e args s)
    (fun _ _ args s o t => lw_Q args s o t) := by
  intro p e ha hc hk s m args below hf hfit hheap happ hpre
  obtain ⟨b, xs, hP⟩ := lw_pre_spec hpre.2.2 hpre.2.1
  obtain ⟨k, o, h1, h2, h3, hQ⟩ := lw_walk l htr b xs p e ha hc hk s m args below hf ((Spec.applies_iff_loose hf).mp happ).1 hP trivial
  exact ⟨k, o, h1, h2, h3, hQ⟩
theorem lw_frame {s t : State} {o : Outcome} {args : Array Value} (h : Framed s o t [] 601024 7293034) :
    Framed s o t (fieldLocs frame_1_writes args s ++ arrayLocs frame_1_arrays args s ++ staticLocs frame_1_statics s) 601024 7293034 := h
theorem lw_limb (L : Cond) (hL : ∀ (args : Array Value) (s t : State), L.after args s (.returned (some (.int 1))) t = true) :
    ArmFor flags0 classFile x code maxLocals ret World_1 tables_1 room_1 Calls_1 rest_1 Pre_1
      (fun tb e a s o t => postC L tb e a s o t ∧ Framed s o t (fieldLocs frame_1_writes a s ++ arrayLocs frame_1_arrays a s ++ staticLocs frame_1_statics s) 601024 7293034) := by
  intro l hfl _ _ p e ha hc hk s m args below hf hfit hheap happ hpre
  obtain ⟨k, o, h1, h2, h3, rfl, hF⟩ := lw_comes l (traces_off hfl) p e ha hc hk s m args below hf hfit hheap happ hpre
  exact ⟨k, _, h1, h2, h3, hL args s _, lw_frame hF⟩
theorem i_vc : Claimed_1_1 ∧ Claimed_1_2 := ⟨lw_limb limb_1_1 (fun args s t => by simp [limb_1_1, Cond.after, Cond.holds, Cond.value]), lw_limb limb_1_2 (fun args s t => Cond.after_iff.mpr (by
  first | (rw [show limb_1_2 = Cond.eq .result (.int 1) from rfl, Cond.eq_ints (x := 1) (y := 1) rfl rfl]; simp; done) | (simp [limb_1_2, Cond.value, Term.eval]; done)))⟩
