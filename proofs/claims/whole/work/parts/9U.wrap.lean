/-! DEPTH: what runs with d calls below it runs with one more; THE LAW'S WRAPPERS. -/
theorem Rls.mono {C C2 : aM → List Value → aH → aO → aH → Prop} {c : Nat} {code : ByteArray} {mL : Nat} {rt : Option FieldType} {ini : Bool} {hs : List (Nat × Nat × Nat × Nat)} {sc : Nat × (Nat → Int32)} {P : aO → aH → Prop} {X : Nat → aL → List Value → aH → Prop} (hCC : ∀ q a σ o σ1, C q a σ o σ1 → C2 q a σ o σ1) (h : Rls C2 c code mL rt ini hs sc P X) : Rls C c code mL rt ini hs sc P X :=
  ⟨⟨h.1.1, h.1.2.1, h.1.2.2.1, h.1.2.2.2.1, h.1.2.2.2.2.1, h.1.2.2.2.2.2.1, h.1.2.2.2.2.2.2.1, h.1.2.2.2.2.2.2.2⟩,
  ⟨h.2.1.1, h.2.1.2.1, h.2.1.2.2.1, h.2.1.2.2.2.1, h.2.1.2.2.2.2.1, h.2.1.2.2.2.2.2.1, h.2.1.2.2.2.2.2.2.1, h.2.1.2.2.2.2.2.2.2⟩,
  ⟨h.2.2.1.1, h.2.2.1.2.1, h.2.2.1.2.2.1, h.2.2.1.2.2.2.1, h.2.2.1.2.2.2.2.1, h.2.2.1.2.2.2.2.2.1, h.2.2.1.2.2.2.2.2.2.1, h.2.2.1.2.2.2.2.2.2.2⟩,
  ⟨h.2.2.2.1.1, h.2.2.2.1.2.1, h.2.2.2.1.2.2.1, h.2.2.2.1.2.2.2.1, h.2.2.2.1.2.2.2.2.1, h.2.2.2.1.2.2.2.2.2.1, h.2.2.2.1.2.2.2.2.2.2.1, h.2.2.2.1.2.2.2.2.2.2.2⟩,
  ⟨h.2.2.2.2.1.1, h.2.2.2.2.1.2.1, h.2.2.2.2.1.2.2.1, h.2.2.2.2.1.2.2.2.1, h.2.2.2.2.1.2.2.2.2.1, h.2.2.2.2.1.2.2.2.2.2.1, h.2.2.2.2.1.2.2.2.2.2.2.1, h.2.2.2.2.1.2.2.2.2.2.2.2⟩,
  ⟨h.2.2.2.2.2.1.1, h.2.2.2.2.2.1.2.1, h.2.2.2.2.2.1.2.2.1, h.2.2.2.2.2.1.2.2.2.1, h.2.2.2.2.2.1.2.2.2.2.1, h.2.2.2.2.2.1.2.2.2.2.2.1, h.2.2.2.2.2.1.2.2.2.2.2.2.1, h.2.2.2.2.2.1.2.2.2.2.2.2.2⟩,
  ⟨h.2.2.2.2.2.2.1.1, h.2.2.2.2.2.2.1.2.1, h.2.2.2.2.2.2.1.2.2.1, h.2.2.2.2.2.2.1.2.2.2.1, h.2.2.2.2.2.2.1.2.2.2.2.1, h.2.2.2.2.2.2.1.2.2.2.2.2.1, h.2.2.2.2.2.2.1.2.2.2.2.2.2.1, h.2.2.2.2.2.2.1.2.2.2.2.2.2.2⟩,
  ⟨h.2.2.2.2.2.2.2.1.1, h.2.2.2.2.2.2.2.1.2.1, h.2.2.2.2.2.2.2.1.2.2.1, h.2.2.2.2.2.2.2.1.2.2.2.1, h.2.2.2.2.2.2.2.1.2.2.2.2.1, h.2.2.2.2.2.2.2.1.2.2.2.2.2.1, h.2.2.2.2.2.2.2.1.2.2.2.2.2.2.1, h.2.2.2.2.2.2.2.1.2.2.2.2.2.2.2⟩,
  ⟨h.2.2.2.2.2.2.2.2.1.1, h.2.2.2.2.2.2.2.2.1.2.1, h.2.2.2.2.2.2.2.2.1.2.2.1, h.2.2.2.2.2.2.2.2.1.2.2.2.1, h.2.2.2.2.2.2.2.2.1.2.2.2.2.1, h.2.2.2.2.2.2.2.2.1.2.2.2.2.2.1, h.2.2.2.2.2.2.2.2.1.2.2.2.2.2.2.1, h.2.2.2.2.2.2.2.2.1.2.2.2.2.2.2.2⟩,
  ⟨h.2.2.2.2.2.2.2.2.2.1.1, h.2.2.2.2.2.2.2.2.2.1.2.1, h.2.2.2.2.2.2.2.2.2.1.2.2.1, h.2.2.2.2.2.2.2.2.2.1.2.2.2.1, h.2.2.2.2.2.2.2.2.2.1.2.2.2.2.1, h.2.2.2.2.2.2.2.2.2.1.2.2.2.2.2.1, h.2.2.2.2.2.2.2.2.2.1.2.2.2.2.2.2.1, h.2.2.2.2.2.2.2.2.2.1.2.2.2.2.2.2.2⟩,
  ⟨h.2.2.2.2.2.2.2.2.2.2.1.1, h.2.2.2.2.2.2.2.2.2.2.1.2.1, h.2.2.2.2.2.2.2.2.2.2.1.2.2.1, h.2.2.2.2.2.2.2.2.2.2.1.2.2.2.1, h.2.2.2.2.2.2.2.2.2.2.1.2.2.2.2.1, h.2.2.2.2.2.2.2.2.2.2.1.2.2.2.2.2.1, fun pc l st σ i a q As st0 v σ1 d hl hq hh hst hn ha hw hr k0 => h.2.2.2.2.2.2.2.2.2.2.1.2.2.2.2.2.2.1 pc l st σ i a q As st0 v σ1 d hl hq hh hst hn ha hw (hCC _ _ _ _ _ hr) k0, fun pc l st σ i q As st0 v σ1 d hl hq hh hst hn hw hr k0 => h.2.2.2.2.2.2.2.2.2.2.1.2.2.2.2.2.2.2 pc l st σ i q As st0 v σ1 d hl hq hh hst hn hw (hCC _ _ _ _ _ hr) k0⟩,
  ⟨fun pc l st σ i a q As st0 σ1 d hl hq hh hst hn hw hr k0 => h.2.2.2.2.2.2.2.2.2.2.2.1.1 pc l st σ i a q As st0 σ1 d hl hq hh hst hn hw (hCC _ _ _ _ _ hr) k0, fun pc l st σ i q As st0 v σ1 d hl hq hh hst hn hw hr k0 => h.2.2.2.2.2.2.2.2.2.2.2.1.2.1 pc l st σ i q As st0 v σ1 d hl hq hh hst hn hw (hCC _ _ _ _ _ hr) k0, fun pc l st σ i a ex k tgt len q As st0 σ1 d hl hq hh hst hn ha hw hr hc hd hk k0 => h.2.2.2.2.2.2.2.2.2.2.2.1.2.2.1 pc l st σ i a ex k tgt len q As st0 σ1 d hl hq hh hst hn ha hw (hCC _ _ _ _ _ hr) hc hd hk k0, fun pc l st σ i a e q As st0 σ1 d hl hq hh hst hn ha hw hr hno hP => h.2.2.2.2.2.2.2.2.2.2.2.1.2.2.2.1 pc l st σ i a e q As st0 σ1 d hl hq hh hst hn ha hw (hCC _ _ _ _ _ hr) hno hP, h.2.2.2.2.2.2.2.2.2.2.2.1.2.2.2.2.1, h.2.2.2.2.2.2.2.2.2.2.2.1.2.2.2.2.2.1, h.2.2.2.2.2.2.2.2.2.2.2.1.2.2.2.2.2.2.1, h.2.2.2.2.2.2.2.2.2.2.2.1.2.2.2.2.2.2.2⟩,
  ⟨h.2.2.2.2.2.2.2.2.2.2.2.2.1, h.2.2.2.2.2.2.2.2.2.2.2.2.2.1, h.2.2.2.2.2.2.2.2.2.2.2.2.2.2.1, h.2.2.2.2.2.2.2.2.2.2.2.2.2.2.2⟩⟩
theorem wp.mono {C C2 : aM → List Value → aH → aO → aH → Prop} {c : Nat} {code : ByteArray} {mL : Nat} {rt : Option FieldType} {ini : Bool} {hs : List (Nat × Nat × Nat × Nat)} {sc : Nat × (Nat → Int32)} {P : aO → aH → Prop} {pc : Nat} {l : aL} {st : List Value} {σ : aH} (hCC : ∀ q a σ o σ1, C q a σ o σ1 → C2 q a σ o σ1) (h : wp C c code mL rt ini hs sc P pc l st σ) : wp C2 c code mL rt ini hs sc P pc l st σ := fun X hX => h X (hX.mono hCC)
theorem Ev.mono {sc : Nat × (Nat → Int32)} : ∀ (d : Nat) (q : aM) (a : List Value) (σ : aH) (o : aO) (σ1 : aH), Ev sc d q a σ o σ1 → Ev sc (d + 1) q a σ o σ1
  | 0, _, _, _, _, _, h => h.elim
  | d + 1, q, a, σ, o, σ1, h => ⟨h.1, h.2.mono (Ev.mono d)⟩
theorem Ev.ofH {sc : Nat × (Nat → Int32)} {d c mL : Nat} {code : ByteArray} {rt : Option FieldType} {hs : List (Nat × Nat × Nat × Nat)} {q : aM} {args : List Value} {l : aL} {σ σ1 : aH} {o : aO} (h1 : q.2.2.2.2.1 = c) (h2 : q.2.1 = code) (h3 : q.2.2.1 = mL) (h4 : q.2.2.2.1 = rt) (h5 : decide (q.1.name = "<init>") = false) (h6 : hsOf q = hs) (h7 : lv_args 0 args = l) (hc : Nat.ble (catsum args) mL = true) (h : wp (Ev sc d) c code mL rt false hs sc (fun o2 σ2 => o2 = o ∧ σ2 = σ1) 0 l [] σ) : Ev sc (d + 1) q args σ o σ1 := by
  refine ⟨?_, ?_⟩
  · rw [h3]; exact Nat.le_of_ble_eq_true hc
  · rw [h1, h2, h3, h4, h5, h6, h7]; exact h
theorem dL_market_0 : decode cL_market 0 = .ok (.aload_n 2, 1) := by decide +kernel
theorem dL_market_1 : decode cL_market 1 = .ok (.iconst 0, 1) := by decide +kernel
theorem dL_market_2 : decode cL_market 2 = .ok (.aload_n 0, 1) := by decide +kernel
theorem dL_market_3 : decode cL_market 3 = .ok (.iload_n 1, 1) := by decide +kernel
theorem dL_market_4 : decode cL_market 4 = .ok (.invokevirtual 7, 3) := by decide +kernel
theorem dL_market_7 : decode cL_market 7 = .ok (.i2l, 1) := by decide +kernel
theorem dL_market_8 : decode cL_market 8 = .ok (.lastore, 1) := by decide +kernel
theorem dL_market_9 : decode cL_market 9 = .ok (.goto 6, 3) := by decide +kernel
theorem dL_market_12 : decode cL_market 12 = .ok (.astore_n 3, 1) := by decide +kernel
theorem dL_market_13 : decode cL_market 13 = .ok (.iconst 1, 1) := by decide +kernel
theorem dL_market_14 : decode cL_market 14 = .ok (.ireturn, 1) := by decide +kernel
theorem dL_market_15 : decode cL_market 15 = .ok (.iconst 0, 1) := by decide +kernel
theorem dL_market_16 : decode cL_market 16 = .ok (.ireturn, 1) := by decide +kernel
set_option maxRecDepth 10000 in
theorem wr_market {sc : Nat × (Nat → Int32)} {d : Nat} {σ σ1 : aH} {u u1 : Nat} {x1 : Int} {r : Int} (hG : G σ u) (hG1 : G σ1 u1) (rr : inR r) (h : Ev sc d mX9_market [.ref 0, .int (nZ x1)] σ (.inl (some (.int (nZ r)))) σ1) : Ev sc (d + 1) mL_market [.ref 0, .int (nZ x1), .ref 344] σ (.inl (some (.int (nZ 0)))) (wJ σ1 344 0 r) := by
  refine Ev.ofH (c := 11) (code := cL_market) (mL := 4) (rt := (some .int)) (hs := [(0, 9, 12, 13)]) (l := [(0, .ref 0), (1, .int (nZ x1)), (2, .ref 344)]) rfl rfl rfl rfl (by decide) (by decide +kernel) rfl rfl ?_
  refine w_aload_n dL_market_0 rfl (List.Mem.tail _ (List.Mem.tail _ (List.Mem.head _))) ?_
  refine w_iconst (v := nZ 0) dL_market_1 (by decide) ?_
  refine w_aload_n dL_market_2 rfl (List.Mem.head _) ?_
  refine w_iload_n dL_market_3 rfl (List.Mem.tail _ (List.Mem.head _)) ?_
  refine w_callV dL_market_4 ml_11_7 ⟨ok_X9_market, vi_X9_market⟩ hs_X9_market (As := [.int (nZ x1)]) rfl rfl (gT hG rfl (lt_of rfl)) (Nat.le_of_ble_eq_true rfl) h ?_
  show wp (Ev sc d) 11 cL_market 4 (some .int) false [(0, 9, 12, 13)] sc _ 7 [(0, .ref 0), (1, .int (nZ x1)), (2, .ref 344)] [.int (nZ r), .int (nZ 0), .ref 344] σ1
  refine i_2l dL_market_7 rr ?_
  refine i_last (n := 1) dL_market_8 (gT hG1 rfl (lt_of rfl)) (gL hG1 rfl) (by decide) (by decide) (fun σ2 e2 => ?_)
  refine w_goto (tgt := 15) dL_market_9 rfl ?_
  refine w_iconst (v := nZ 0) dL_market_15 (by decide) ?_
  exact w_iret dL_market_16 rfl ⟨rfl, e2.symm⟩
set_option maxRecDepth 10000 in
theorem wr_market_1 {sc : Nat × (Nat → Int32)} {d : Nat} {σ σ1 : aH} {u u1 : Nat} {x1 : Int} (hG : G σ u) (h : Ev sc d mX9_market [.ref 0, .int (nZ x1)] σ (.inr 1) σ1) : Ev sc (d + 1) mL_market [.ref 0, .int (nZ x1), .ref 344] σ (.inl (some (.int (nZ 1)))) σ1 := by
  refine Ev.ofH (c := 11) (code := cL_market) (mL := 4) (rt := (some .int)) (hs := [(0, 9, 12, 13)]) (l := [(0, .ref 0), (1, .int (nZ x1)), (2, .ref 344)]) rfl rfl rfl rfl (by decide) (by decide +kernel) rfl rfl ?_
  refine w_aload_n dL_market_0 rfl (List.Mem.tail _ (List.Mem.tail _ (List.Mem.head _))) ?_
  refine w_iconst (v := nZ 0) dL_market_1 (by decide) ?_
  refine w_aload_n dL_market_2 rfl (List.Mem.head _) ?_
  refine w_iload_n dL_market_3 rfl (List.Mem.tail _ (List.Mem.head _)) ?_
  refine w_catchV (ex := 1) (k := 3) (tgt := 12) (len := 1) dL_market_4 mp_11_7 ⟨ok_X9_market, vi_X9_market⟩ hs_X9_market (As := [.int (nZ x1)]) rfl rfl (gT hG rfl (lt_of rfl)) (Nat.le_of_ble_eq_true rfl) h (⟨rfl, 0, 9, by decide, by decide, Or.inr (Or.inl ⟨rfl, rfl⟩)⟩) (Or.inr ⟨3, rfl, dL_market_12, rfl⟩) (by decide) ?_
  refine w_iconst (v := nZ 1) dL_market_13 (by decide) ?_
  exact w_iret dL_market_14 rfl ⟨rfl, rfl⟩
theorem dL_told_0 : decode cL_told 0 = .ok (.aload_n 2, 1) := by decide +kernel
theorem dL_told_1 : decode cL_told 1 = .ok (.iconst 0, 1) := by decide +kernel
theorem dL_told_2 : decode cL_told 2 = .ok (.aload_n 0, 1) := by decide +kernel
theorem dL_told_3 : decode cL_told 3 = .ok (.iload_n 1, 1) := by decide +kernel
theorem dL_told_4 : decode cL_told 4 = .ok (.invokevirtual 15, 3) := by decide +kernel
theorem dL_told_7 : decode cL_told 7 = .ok (.i2l, 1) := by decide +kernel
theorem dL_told_8 : decode cL_told 8 = .ok (.lastore, 1) := by decide +kernel
theorem dL_told_9 : decode cL_told 9 = .ok (.goto 6, 3) := by decide +kernel
theorem dL_told_12 : decode cL_told 12 = .ok (.astore_n 3, 1) := by decide +kernel
theorem dL_told_13 : decode cL_told 13 = .ok (.iconst 1, 1) := by decide +kernel
theorem dL_told_14 : decode cL_told 14 = .ok (.ireturn, 1) := by decide +kernel
theorem dL_told_15 : decode cL_told 15 = .ok (.iconst 0, 1) := by decide +kernel
theorem dL_told_16 : decode cL_told 16 = .ok (.ireturn, 1) := by decide +kernel
set_option maxRecDepth 10000 in
theorem wr_told {sc : Nat × (Nat → Int32)} {d : Nat} {σ σ1 : aH} {u u1 : Nat} {x1 : Int} {r : Int} (hG : G σ u) (hG1 : G σ1 u1) (rr : inR r) (h : Ev sc d mX9_told [.ref 0, .int (nZ x1)] σ (.inl (some (.int (nZ r)))) σ1) : Ev sc (d + 1) mL_told [.ref 0, .int (nZ x1), .ref 344] σ (.inl (some (.int (nZ 0)))) (wJ σ1 344 0 r) := by
  refine Ev.ofH (c := 11) (code := cL_told) (mL := 4) (rt := (some .int)) (hs := [(0, 9, 12, 13)]) (l := [(0, .ref 0), (1, .int (nZ x1)), (2, .ref 344)]) rfl rfl rfl rfl (by decide) (by decide +kernel) rfl rfl ?_
  refine w_aload_n dL_told_0 rfl (List.Mem.tail _ (List.Mem.tail _ (List.Mem.head _))) ?_
  refine w_iconst (v := nZ 0) dL_told_1 (by decide) ?_
  refine w_aload_n dL_told_2 rfl (List.Mem.head _) ?_
  refine w_iload_n dL_told_3 rfl (List.Mem.tail _ (List.Mem.head _)) ?_
  refine w_callV dL_told_4 ml_11_15 ⟨ok_X9_told, vi_X9_told⟩ hs_X9_told (As := [.int (nZ x1)]) rfl rfl (gT hG rfl (lt_of rfl)) (Nat.le_of_ble_eq_true rfl) h ?_
  show wp (Ev sc d) 11 cL_told 4 (some .int) false [(0, 9, 12, 13)] sc _ 7 [(0, .ref 0), (1, .int (nZ x1)), (2, .ref 344)] [.int (nZ r), .int (nZ 0), .ref 344] σ1
  refine i_2l dL_told_7 rr ?_
  refine i_last (n := 1) dL_told_8 (gT hG1 rfl (lt_of rfl)) (gL hG1 rfl) (by decide) (by decide) (fun σ2 e2 => ?_)
  refine w_goto (tgt := 15) dL_told_9 rfl ?_
  refine w_iconst (v := nZ 0) dL_told_15 (by decide) ?_
  exact w_iret dL_told_16 rfl ⟨rfl, e2.symm⟩
set_option maxRecDepth 10000 in
theorem wr_told_1 {sc : Nat × (Nat → Int32)} {d : Nat} {σ σ1 : aH} {u u1 : Nat} {x1 : Int} (hG : G σ u) (h : Ev sc d mX9_told [.ref 0, .int (nZ x1)] σ (.inr 1) σ1) : Ev sc (d + 1) mL_told [.ref 0, .int (nZ x1), .ref 344] σ (.inl (some (.int (nZ 1)))) σ1 := by
  refine Ev.ofH (c := 11) (code := cL_told) (mL := 4) (rt := (some .int)) (hs := [(0, 9, 12, 13)]) (l := [(0, .ref 0), (1, .int (nZ x1)), (2, .ref 344)]) rfl rfl rfl rfl (by decide) (by decide +kernel) rfl rfl ?_
  refine w_aload_n dL_told_0 rfl (List.Mem.tail _ (List.Mem.tail _ (List.Mem.head _))) ?_
  refine w_iconst (v := nZ 0) dL_told_1 (by decide) ?_
  refine w_aload_n dL_told_2 rfl (List.Mem.head _) ?_
  refine w_iload_n dL_told_3 rfl (List.Mem.tail _ (List.Mem.head _)) ?_
  refine w_catchV (ex := 1) (k := 3) (tgt := 12) (len := 1) dL_told_4 mp_11_15 ⟨ok_X9_told, vi_X9_told⟩ hs_X9_told (As := [.int (nZ x1)]) rfl rfl (gT hG rfl (lt_of rfl)) (Nat.le_of_ble_eq_true rfl) h (⟨rfl, 0, 9, by decide, by decide, Or.inr (Or.inl ⟨rfl, rfl⟩)⟩) (Or.inr ⟨3, rfl, dL_told_12, rfl⟩) (by decide) ?_
  refine w_iconst (v := nZ 1) dL_told_13 (by decide) ?_
  exact w_iret dL_told_14 rfl ⟨rfl, rfl⟩
theorem dL_stall_0 : decode cL_stall 0 = .ok (.aload_n 3, 1) := by decide +kernel
theorem dL_stall_1 : decode cL_stall 1 = .ok (.iconst 0, 1) := by decide +kernel
theorem dL_stall_2 : decode cL_stall 2 = .ok (.aload_n 0, 1) := by decide +kernel
theorem dL_stall_3 : decode cL_stall 3 = .ok (.iload_n 1, 1) := by decide +kernel
theorem dL_stall_4 : decode cL_stall 4 = .ok (.iload_n 2, 1) := by decide +kernel
theorem dL_stall_5 : decode cL_stall 5 = .ok (.invokevirtual 18, 3) := by decide +kernel
theorem dL_stall_8 : decode cL_stall 8 = .ok (.i2l, 1) := by decide +kernel
theorem dL_stall_9 : decode cL_stall 9 = .ok (.lastore, 1) := by decide +kernel
theorem dL_stall_10 : decode cL_stall 10 = .ok (.goto 11, 3) := by decide +kernel
theorem dL_stall_13 : decode cL_stall 13 = .ok (.astore 4, 2) := by decide +kernel
theorem dL_stall_15 : decode cL_stall 15 = .ok (.iconst 1, 1) := by decide +kernel
theorem dL_stall_16 : decode cL_stall 16 = .ok (.ireturn, 1) := by decide +kernel
theorem dL_stall_17 : decode cL_stall 17 = .ok (.astore 4, 2) := by decide +kernel
theorem dL_stall_19 : decode cL_stall 19 = .ok (.iconst 2, 1) := by decide +kernel
theorem dL_stall_20 : decode cL_stall 20 = .ok (.ireturn, 1) := by decide +kernel
theorem dL_stall_21 : decode cL_stall 21 = .ok (.iconst 0, 1) := by decide +kernel
theorem dL_stall_22 : decode cL_stall 22 = .ok (.ireturn, 1) := by decide +kernel
set_option maxRecDepth 10000 in
theorem wr_stall {sc : Nat × (Nat → Int32)} {d : Nat} {σ σ1 : aH} {u u1 : Nat} {x1 : Int} {x2 : Int} {r : Int} (hG : G σ u) (hG1 : G σ1 u1) (rr : inR r) (h : Ev sc d mX9_stall [.ref 0, .int (nZ x1), .int (nZ x2)] σ (.inl (some (.int (nZ r)))) σ1) : Ev sc (d + 1) mL_stall [.ref 0, .int (nZ x1), .int (nZ x2), .ref 344] σ (.inl (some (.int (nZ 0)))) (wJ σ1 344 0 r) := by
  refine Ev.ofH (c := 11) (code := cL_stall) (mL := 5) (rt := (some .int)) (hs := [(0, 10, 13, 22), (0, 10, 17, 13)]) (l := [(0, .ref 0), (1, .int (nZ x1)), (2, .int (nZ x2)), (3, .ref 344)]) rfl rfl rfl rfl (by decide) (by decide +kernel) rfl rfl ?_
  refine w_aload_n dL_stall_0 rfl (List.Mem.tail _ (List.Mem.tail _ (List.Mem.tail _ (List.Mem.head _)))) ?_
  refine w_iconst (v := nZ 0) dL_stall_1 (by decide) ?_
  refine w_aload_n dL_stall_2 rfl (List.Mem.head _) ?_
  refine w_iload_n dL_stall_3 rfl (List.Mem.tail _ (List.Mem.head _)) ?_
  refine w_iload_n dL_stall_4 rfl (List.Mem.tail _ (List.Mem.tail _ (List.Mem.head _))) ?_
  refine w_callV dL_stall_5 ml_11_18 ⟨ok_X9_stall, vi_X9_stall⟩ hs_X9_stall (As := [.int (nZ x1), .int (nZ x2)]) rfl rfl (gT hG rfl (lt_of rfl)) (Nat.le_of_ble_eq_true rfl) h ?_
  show wp (Ev sc d) 11 cL_stall 5 (some .int) false [(0, 10, 13, 22), (0, 10, 17, 13)] sc _ 8 [(0, .ref 0), (1, .int (nZ x1)), (2, .int (nZ x2)), (3, .ref 344)] [.int (nZ r), .int (nZ 0), .ref 344] σ1
  refine i_2l dL_stall_8 rr ?_
  refine i_last (n := 1) dL_stall_9 (gT hG1 rfl (lt_of rfl)) (gL hG1 rfl) (by decide) (by decide) (fun σ2 e2 => ?_)
  refine w_goto (tgt := 21) dL_stall_10 rfl ?_
  refine w_iconst (v := nZ 0) dL_stall_21 (by decide) ?_
  exact w_iret dL_stall_22 rfl ⟨rfl, e2.symm⟩
set_option maxRecDepth 10000 in
theorem wr_stall_0 {sc : Nat × (Nat → Int32)} {d : Nat} {σ σ1 : aH} {u u1 : Nat} {x1 : Int} {x2 : Int} (hG : G σ u) (h : Ev sc d mX9_stall [.ref 0, .int (nZ x1), .int (nZ x2)] σ (.inr 0) σ1) : Ev sc (d + 1) mL_stall [.ref 0, .int (nZ x1), .int (nZ x2), .ref 344] σ (.inl (some (.int (nZ 1)))) σ1 := by
  refine Ev.ofH (c := 11) (code := cL_stall) (mL := 5) (rt := (some .int)) (hs := [(0, 10, 13, 22), (0, 10, 17, 13)]) (l := [(0, .ref 0), (1, .int (nZ x1)), (2, .int (nZ x2)), (3, .ref 344)]) rfl rfl rfl rfl (by decide) (by decide +kernel) rfl rfl ?_
  refine w_aload_n dL_stall_0 rfl (List.Mem.tail _ (List.Mem.tail _ (List.Mem.tail _ (List.Mem.head _)))) ?_
  refine w_iconst (v := nZ 0) dL_stall_1 (by decide) ?_
  refine w_aload_n dL_stall_2 rfl (List.Mem.head _) ?_
  refine w_iload_n dL_stall_3 rfl (List.Mem.tail _ (List.Mem.head _)) ?_
  refine w_iload_n dL_stall_4 rfl (List.Mem.tail _ (List.Mem.tail _ (List.Mem.head _))) ?_
  refine w_catchV (ex := 0) (k := 4) (tgt := 13) (len := 2) dL_stall_5 mp_11_18 ⟨ok_X9_stall, vi_X9_stall⟩ hs_X9_stall (As := [.int (nZ x1), .int (nZ x2)]) rfl rfl (gT hG rfl (lt_of rfl)) (Nat.le_of_ble_eq_true rfl) h (⟨rfl, 0, 10, by decide, by decide, Or.inr (Or.inr ⟨_, _, rfl, Or.inl ⟨rfl, rfl⟩⟩)⟩) (Or.inl ⟨dL_stall_13, rfl⟩) (by decide) ?_
  refine w_iconst (v := nZ 1) dL_stall_15 (by decide) ?_
  exact w_iret dL_stall_16 rfl ⟨rfl, rfl⟩
set_option maxRecDepth 10000 in
theorem wr_stall_1 {sc : Nat × (Nat → Int32)} {d : Nat} {σ σ1 : aH} {u u1 : Nat} {x1 : Int} {x2 : Int} (hG : G σ u) (h : Ev sc d mX9_stall [.ref 0, .int (nZ x1), .int (nZ x2)] σ (.inr 1) σ1) : Ev sc (d + 1) mL_stall [.ref 0, .int (nZ x1), .int (nZ x2), .ref 344] σ (.inl (some (.int (nZ 2)))) σ1 := by
  refine Ev.ofH (c := 11) (code := cL_stall) (mL := 5) (rt := (some .int)) (hs := [(0, 10, 13, 22), (0, 10, 17, 13)]) (l := [(0, .ref 0), (1, .int (nZ x1)), (2, .int (nZ x2)), (3, .ref 344)]) rfl rfl rfl rfl (by decide) (by decide +kernel) rfl rfl ?_
  refine w_aload_n dL_stall_0 rfl (List.Mem.tail _ (List.Mem.tail _ (List.Mem.tail _ (List.Mem.head _)))) ?_
  refine w_iconst (v := nZ 0) dL_stall_1 (by decide) ?_
  refine w_aload_n dL_stall_2 rfl (List.Mem.head _) ?_
  refine w_iload_n dL_stall_3 rfl (List.Mem.tail _ (List.Mem.head _)) ?_
  refine w_iload_n dL_stall_4 rfl (List.Mem.tail _ (List.Mem.tail _ (List.Mem.head _))) ?_
  refine w_catchV (ex := 1) (k := 4) (tgt := 17) (len := 2) dL_stall_5 mp_11_18 ⟨ok_X9_stall, vi_X9_stall⟩ hs_X9_stall (As := [.int (nZ x1), .int (nZ x2)]) rfl rfl (gT hG rfl (lt_of rfl)) (Nat.le_of_ble_eq_true rfl) h (⟨rfl, 0, 10, by decide, by decide, Or.inr (Or.inr ⟨_, _, rfl, Or.inr ⟨rfl, rfl⟩⟩)⟩) (Or.inl ⟨dL_stall_17, rfl⟩) (by decide) ?_
  refine w_iconst (v := nZ 2) dL_stall_19 (by decide) ?_
  exact w_iret dL_stall_20 rfl ⟨rfl, rfl⟩
theorem dL_length_0 : decode cL_length 0 = .ok (.aload_n 3, 1) := by decide +kernel
theorem dL_length_1 : decode cL_length 1 = .ok (.iconst 0, 1) := by decide +kernel
theorem dL_length_2 : decode cL_length 2 = .ok (.aload_n 0, 1) := by decide +kernel
theorem dL_length_3 : decode cL_length 3 = .ok (.iload_n 1, 1) := by decide +kernel
theorem dL_length_4 : decode cL_length 4 = .ok (.iload_n 2, 1) := by decide +kernel
theorem dL_length_5 : decode cL_length 5 = .ok (.invokevirtual 24, 3) := by decide +kernel
theorem dL_length_8 : decode cL_length 8 = .ok (.i2l, 1) := by decide +kernel
theorem dL_length_9 : decode cL_length 9 = .ok (.lastore, 1) := by decide +kernel
theorem dL_length_10 : decode cL_length 10 = .ok (.goto 11, 3) := by decide +kernel
theorem dL_length_13 : decode cL_length 13 = .ok (.astore 4, 2) := by decide +kernel
theorem dL_length_15 : decode cL_length 15 = .ok (.iconst 1, 1) := by decide +kernel
theorem dL_length_16 : decode cL_length 16 = .ok (.ireturn, 1) := by decide +kernel
theorem dL_length_17 : decode cL_length 17 = .ok (.astore 4, 2) := by decide +kernel
theorem dL_length_19 : decode cL_length 19 = .ok (.iconst 2, 1) := by decide +kernel
theorem dL_length_20 : decode cL_length 20 = .ok (.ireturn, 1) := by decide +kernel
theorem dL_length_21 : decode cL_length 21 = .ok (.iconst 0, 1) := by decide +kernel
theorem dL_length_22 : decode cL_length 22 = .ok (.ireturn, 1) := by decide +kernel
set_option maxRecDepth 10000 in
theorem wr_length {sc : Nat × (Nat → Int32)} {d : Nat} {σ σ1 : aH} {u u1 : Nat} {x1 : Int} {x2 : Int} {r : Int} (hG : G σ u) (hG1 : G σ1 u1) (rr : inR r) (h : Ev sc d mX9_length [.ref 0, .int (nZ x1), .int (nZ x2)] σ (.inl (some (.int (nZ r)))) σ1) : Ev sc (d + 1) mL_length [.ref 0, .int (nZ x1), .int (nZ x2), .ref 344] σ (.inl (some (.int (nZ 0)))) (wJ σ1 344 0 r) := by
  refine Ev.ofH (c := 11) (code := cL_length) (mL := 5) (rt := (some .int)) (hs := [(0, 10, 13, 22), (0, 10, 17, 13)]) (l := [(0, .ref 0), (1, .int (nZ x1)), (2, .int (nZ x2)), (3, .ref 344)]) rfl rfl rfl rfl (by decide) (by decide +kernel) rfl rfl ?_
  refine w_aload_n dL_length_0 rfl (List.Mem.tail _ (List.Mem.tail _ (List.Mem.tail _ (List.Mem.head _)))) ?_
  refine w_iconst (v := nZ 0) dL_length_1 (by decide) ?_
  refine w_aload_n dL_length_2 rfl (List.Mem.head _) ?_
  refine w_iload_n dL_length_3 rfl (List.Mem.tail _ (List.Mem.head _)) ?_
  refine w_iload_n dL_length_4 rfl (List.Mem.tail _ (List.Mem.tail _ (List.Mem.head _))) ?_
  refine w_callV dL_length_5 ml_11_24 ⟨ok_X9_length, vi_X9_length⟩ hs_X9_length (As := [.int (nZ x1), .int (nZ x2)]) rfl rfl (gT hG rfl (lt_of rfl)) (Nat.le_of_ble_eq_true rfl) h ?_
  show wp (Ev sc d) 11 cL_length 5 (some .int) false [(0, 10, 13, 22), (0, 10, 17, 13)] sc _ 8 [(0, .ref 0), (1, .int (nZ x1)), (2, .int (nZ x2)), (3, .ref 344)] [.int (nZ r), .int (nZ 0), .ref 344] σ1
  refine i_2l dL_length_8 rr ?_
  refine i_last (n := 1) dL_length_9 (gT hG1 rfl (lt_of rfl)) (gL hG1 rfl) (by decide) (by decide) (fun σ2 e2 => ?_)
  refine w_goto (tgt := 21) dL_length_10 rfl ?_
  refine w_iconst (v := nZ 0) dL_length_21 (by decide) ?_
  exact w_iret dL_length_22 rfl ⟨rfl, e2.symm⟩
set_option maxRecDepth 10000 in
theorem wr_length_0 {sc : Nat × (Nat → Int32)} {d : Nat} {σ σ1 : aH} {u u1 : Nat} {x1 : Int} {x2 : Int} (hG : G σ u) (h : Ev sc d mX9_length [.ref 0, .int (nZ x1), .int (nZ x2)] σ (.inr 0) σ1) : Ev sc (d + 1) mL_length [.ref 0, .int (nZ x1), .int (nZ x2), .ref 344] σ (.inl (some (.int (nZ 1)))) σ1 := by
  refine Ev.ofH (c := 11) (code := cL_length) (mL := 5) (rt := (some .int)) (hs := [(0, 10, 13, 22), (0, 10, 17, 13)]) (l := [(0, .ref 0), (1, .int (nZ x1)), (2, .int (nZ x2)), (3, .ref 344)]) rfl rfl rfl rfl (by decide) (by decide +kernel) rfl rfl ?_
  refine w_aload_n dL_length_0 rfl (List.Mem.tail _ (List.Mem.tail _ (List.Mem.tail _ (List.Mem.head _)))) ?_
  refine w_iconst (v := nZ 0) dL_length_1 (by decide) ?_
  refine w_aload_n dL_length_2 rfl (List.Mem.head _) ?_
  refine w_iload_n dL_length_3 rfl (List.Mem.tail _ (List.Mem.head _)) ?_
  refine w_iload_n dL_length_4 rfl (List.Mem.tail _ (List.Mem.tail _ (List.Mem.head _))) ?_
  refine w_catchV (ex := 0) (k := 4) (tgt := 13) (len := 2) dL_length_5 mp_11_24 ⟨ok_X9_length, vi_X9_length⟩ hs_X9_length (As := [.int (nZ x1), .int (nZ x2)]) rfl rfl (gT hG rfl (lt_of rfl)) (Nat.le_of_ble_eq_true rfl) h (⟨rfl, 0, 10, by decide, by decide, Or.inr (Or.inr ⟨_, _, rfl, Or.inl ⟨rfl, rfl⟩⟩)⟩) (Or.inl ⟨dL_length_13, rfl⟩) (by decide) ?_
  refine w_iconst (v := nZ 1) dL_length_15 (by decide) ?_
  exact w_iret dL_length_16 rfl ⟨rfl, rfl⟩
set_option maxRecDepth 10000 in
theorem wr_length_1 {sc : Nat × (Nat → Int32)} {d : Nat} {σ σ1 : aH} {u u1 : Nat} {x1 : Int} {x2 : Int} (hG : G σ u) (h : Ev sc d mX9_length [.ref 0, .int (nZ x1), .int (nZ x2)] σ (.inr 1) σ1) : Ev sc (d + 1) mL_length [.ref 0, .int (nZ x1), .int (nZ x2), .ref 344] σ (.inl (some (.int (nZ 2)))) σ1 := by
  refine Ev.ofH (c := 11) (code := cL_length) (mL := 5) (rt := (some .int)) (hs := [(0, 10, 13, 22), (0, 10, 17, 13)]) (l := [(0, .ref 0), (1, .int (nZ x1)), (2, .int (nZ x2)), (3, .ref 344)]) rfl rfl rfl rfl (by decide) (by decide +kernel) rfl rfl ?_
  refine w_aload_n dL_length_0 rfl (List.Mem.tail _ (List.Mem.tail _ (List.Mem.tail _ (List.Mem.head _)))) ?_
  refine w_iconst (v := nZ 0) dL_length_1 (by decide) ?_
  refine w_aload_n dL_length_2 rfl (List.Mem.head _) ?_
  refine w_iload_n dL_length_3 rfl (List.Mem.tail _ (List.Mem.head _)) ?_
  refine w_iload_n dL_length_4 rfl (List.Mem.tail _ (List.Mem.tail _ (List.Mem.head _))) ?_
  refine w_catchV (ex := 1) (k := 4) (tgt := 17) (len := 2) dL_length_5 mp_11_24 ⟨ok_X9_length, vi_X9_length⟩ hs_X9_length (As := [.int (nZ x1), .int (nZ x2)]) rfl rfl (gT hG rfl (lt_of rfl)) (Nat.le_of_ble_eq_true rfl) h (⟨rfl, 0, 10, by decide, by decide, Or.inr (Or.inr ⟨_, _, rfl, Or.inr ⟨rfl, rfl⟩⟩)⟩) (Or.inl ⟨dL_length_17, rfl⟩) (by decide) ?_
  refine w_iconst (v := nZ 2) dL_length_19 (by decide) ?_
  exact w_iret dL_length_20 rfl ⟨rfl, rfl⟩
theorem dL_shades_0 : decode cL_shades 0 = .ok (.aload 4, 2) := by decide +kernel
theorem dL_shades_2 : decode cL_shades 2 = .ok (.iconst 0, 1) := by decide +kernel
theorem dL_shades_3 : decode cL_shades 3 = .ok (.aload_n 0, 1) := by decide +kernel
theorem dL_shades_4 : decode cL_shades 4 = .ok (.iload_n 1, 1) := by decide +kernel
theorem dL_shades_5 : decode cL_shades 5 = .ok (.iload_n 2, 1) := by decide +kernel
theorem dL_shades_6 : decode cL_shades 6 = .ok (.iload_n 3, 1) := by decide +kernel
theorem dL_shades_7 : decode cL_shades 7 = .ok (.invokevirtual 27, 3) := by decide +kernel
theorem dL_shades_10 : decode cL_shades 10 = .ok (.ifCond .eq 7, 3) := by decide +kernel
theorem dL_shades_13 : decode cL_shades 13 = .ok (.lconst 1, 1) := by decide +kernel
theorem dL_shades_14 : decode cL_shades 14 = .ok (.goto 4, 3) := by decide +kernel
theorem dL_shades_17 : decode cL_shades 17 = .ok (.lconst 0, 1) := by decide +kernel
theorem dL_shades_18 : decode cL_shades 18 = .ok (.lastore, 1) := by decide +kernel
theorem dL_shades_19 : decode cL_shades 19 = .ok (.goto 11, 3) := by decide +kernel
theorem dL_shades_22 : decode cL_shades 22 = .ok (.astore 5, 2) := by decide +kernel
theorem dL_shades_24 : decode cL_shades 24 = .ok (.iconst 1, 1) := by decide +kernel
theorem dL_shades_25 : decode cL_shades 25 = .ok (.ireturn, 1) := by decide +kernel
theorem dL_shades_26 : decode cL_shades 26 = .ok (.astore 5, 2) := by decide +kernel
theorem dL_shades_28 : decode cL_shades 28 = .ok (.iconst 2, 1) := by decide +kernel
theorem dL_shades_29 : decode cL_shades 29 = .ok (.ireturn, 1) := by decide +kernel
theorem dL_shades_30 : decode cL_shades 30 = .ok (.iconst 0, 1) := by decide +kernel
theorem dL_shades_31 : decode cL_shades 31 = .ok (.ireturn, 1) := by decide +kernel
set_option maxRecDepth 10000 in
theorem wr_shades {sc : Nat × (Nat → Int32)} {d : Nat} {σ σ1 : aH} {u u1 : Nat} {x1 : Int} {x2 : Int} {x3 : Int} {r : Int} (hG : G σ u) (hG1 : G σ1 u1) (rr : inR r) (hb : r = 0 ∨ r = 1) (h : Ev sc d mX9_shades [.ref 0, .int (nZ x1), .int (nZ x2), .int (nZ x3)] σ (.inl (some (.int (nZ r)))) σ1) : Ev sc (d + 1) mL_shades [.ref 0, .int (nZ x1), .int (nZ x2), .int (nZ x3), .ref 344] σ (.inl (some (.int (nZ 0)))) (wJ σ1 344 0 r) := by
  refine Ev.ofH (c := 11) (code := cL_shades) (mL := 6) (rt := (some .int)) (hs := [(0, 19, 22, 22), (0, 19, 26, 13)]) (l := [(0, .ref 0), (1, .int (nZ x1)), (2, .int (nZ x2)), (3, .int (nZ x3)), (4, .ref 344)]) rfl rfl rfl rfl (by decide) (by decide +kernel) rfl rfl ?_
  refine w_aload dL_shades_0 (List.Mem.tail _ (List.Mem.tail _ (List.Mem.tail _ (List.Mem.tail _ (List.Mem.head _))))) ?_
  refine w_iconst (v := nZ 0) dL_shades_2 (by decide) ?_
  refine w_aload_n dL_shades_3 rfl (List.Mem.head _) ?_
  refine w_iload_n dL_shades_4 rfl (List.Mem.tail _ (List.Mem.head _)) ?_
  refine w_iload_n dL_shades_5 rfl (List.Mem.tail _ (List.Mem.tail _ (List.Mem.head _))) ?_
  refine w_iload_n dL_shades_6 rfl (List.Mem.tail _ (List.Mem.tail _ (List.Mem.tail _ (List.Mem.head _)))) ?_
  refine w_callV dL_shades_7 ml_11_27 ⟨ok_X9_shades, vi_X9_shades⟩ hs_X9_shades (As := [.int (nZ x1), .int (nZ x2), .int (nZ x3)]) rfl rfl (gT hG rfl (lt_of rfl)) (Nat.le_of_ble_eq_true rfl) h ?_
  show wp (Ev sc d) 11 cL_shades 6 (some .int) false [(0, 19, 22, 22), (0, 19, 26, 13)] sc _ 10 [(0, .ref 0), (1, .int (nZ x1)), (2, .int (nZ x2)), (3, .int (nZ x3)), (4, .ref 344)] [.int (nZ r), .int (nZ 0), .ref 344] σ1
  refine i_if_eq (tgt := 17) dL_shades_10 rfl rr (fun c9 => ?_) (fun c9 => ?_)
  · refine w_lconst (v := nJ 0) dL_shades_17 (by decide) ?_
    subst c9
    refine i_last (n := 1) dL_shades_18 (gT hG1 rfl (lt_of rfl)) (gL hG1 rfl) (by decide) (by decide) (fun σ2 e2 => ?_)
    refine w_goto (tgt := 30) dL_shades_19 rfl ?_
    refine w_iconst (v := nZ 0) dL_shades_30 (by decide) ?_
    exact w_iret dL_shades_31 rfl ⟨rfl, e2.symm⟩
  · refine w_lconst (v := nJ 1) dL_shades_13 (by decide) ?_
    refine w_goto (tgt := 18) dL_shades_14 rfl ?_
    have c1 : r = 1 := hb.resolve_left c9
    subst c1
    refine i_last (n := 1) dL_shades_18 (gT hG1 rfl (lt_of rfl)) (gL hG1 rfl) (by decide) (by decide) (fun σ2 e2 => ?_)
    refine w_goto (tgt := 30) dL_shades_19 rfl ?_
    refine w_iconst (v := nZ 0) dL_shades_30 (by decide) ?_
    exact w_iret dL_shades_31 rfl ⟨rfl, e2.symm⟩
set_option maxRecDepth 10000 in
theorem wr_shades_0 {sc : Nat × (Nat → Int32)} {d : Nat} {σ σ1 : aH} {u u1 : Nat} {x1 : Int} {x2 : Int} {x3 : Int} (hG : G σ u) (h : Ev sc d mX9_shades [.ref 0, .int (nZ x1), .int (nZ x2), .int (nZ x3)] σ (.inr 0) σ1) : Ev sc (d + 1) mL_shades [.ref 0, .int (nZ x1), .int (nZ x2), .int (nZ x3), .ref 344] σ (.inl (some (.int (nZ 1)))) σ1 := by
  refine Ev.ofH (c := 11) (code := cL_shades) (mL := 6) (rt := (some .int)) (hs := [(0, 19, 22, 22), (0, 19, 26, 13)]) (l := [(0, .ref 0), (1, .int (nZ x1)), (2, .int (nZ x2)), (3, .int (nZ x3)), (4, .ref 344)]) rfl rfl rfl rfl (by decide) (by decide +kernel) rfl rfl ?_
  refine w_aload dL_shades_0 (List.Mem.tail _ (List.Mem.tail _ (List.Mem.tail _ (List.Mem.tail _ (List.Mem.head _))))) ?_
  refine w_iconst (v := nZ 0) dL_shades_2 (by decide) ?_
  refine w_aload_n dL_shades_3 rfl (List.Mem.head _) ?_
  refine w_iload_n dL_shades_4 rfl (List.Mem.tail _ (List.Mem.head _)) ?_
  refine w_iload_n dL_shades_5 rfl (List.Mem.tail _ (List.Mem.tail _ (List.Mem.head _))) ?_
  refine w_iload_n dL_shades_6 rfl (List.Mem.tail _ (List.Mem.tail _ (List.Mem.tail _ (List.Mem.head _)))) ?_
  refine w_catchV (ex := 0) (k := 5) (tgt := 22) (len := 2) dL_shades_7 mp_11_27 ⟨ok_X9_shades, vi_X9_shades⟩ hs_X9_shades (As := [.int (nZ x1), .int (nZ x2), .int (nZ x3)]) rfl rfl (gT hG rfl (lt_of rfl)) (Nat.le_of_ble_eq_true rfl) h (⟨rfl, 0, 19, by decide, by decide, Or.inr (Or.inr ⟨_, _, rfl, Or.inl ⟨rfl, rfl⟩⟩)⟩) (Or.inl ⟨dL_shades_22, rfl⟩) (by decide) ?_
  refine w_iconst (v := nZ 1) dL_shades_24 (by decide) ?_
  exact w_iret dL_shades_25 rfl ⟨rfl, rfl⟩
set_option maxRecDepth 10000 in
theorem wr_shades_1 {sc : Nat × (Nat → Int32)} {d : Nat} {σ σ1 : aH} {u u1 : Nat} {x1 : Int} {x2 : Int} {x3 : Int} (hG : G σ u) (h : Ev sc d mX9_shades [.ref 0, .int (nZ x1), .int (nZ x2), .int (nZ x3)] σ (.inr 1) σ1) : Ev sc (d + 1) mL_shades [.ref 0, .int (nZ x1), .int (nZ x2), .int (nZ x3), .ref 344] σ (.inl (some (.int (nZ 2)))) σ1 := by
  refine Ev.ofH (c := 11) (code := cL_shades) (mL := 6) (rt := (some .int)) (hs := [(0, 19, 22, 22), (0, 19, 26, 13)]) (l := [(0, .ref 0), (1, .int (nZ x1)), (2, .int (nZ x2)), (3, .int (nZ x3)), (4, .ref 344)]) rfl rfl rfl rfl (by decide) (by decide +kernel) rfl rfl ?_
  refine w_aload dL_shades_0 (List.Mem.tail _ (List.Mem.tail _ (List.Mem.tail _ (List.Mem.tail _ (List.Mem.head _))))) ?_
  refine w_iconst (v := nZ 0) dL_shades_2 (by decide) ?_
  refine w_aload_n dL_shades_3 rfl (List.Mem.head _) ?_
  refine w_iload_n dL_shades_4 rfl (List.Mem.tail _ (List.Mem.head _)) ?_
  refine w_iload_n dL_shades_5 rfl (List.Mem.tail _ (List.Mem.tail _ (List.Mem.head _))) ?_
  refine w_iload_n dL_shades_6 rfl (List.Mem.tail _ (List.Mem.tail _ (List.Mem.tail _ (List.Mem.head _)))) ?_
  refine w_catchV (ex := 1) (k := 5) (tgt := 26) (len := 2) dL_shades_7 mp_11_27 ⟨ok_X9_shades, vi_X9_shades⟩ hs_X9_shades (As := [.int (nZ x1), .int (nZ x2), .int (nZ x3)]) rfl rfl (gT hG rfl (lt_of rfl)) (Nat.le_of_ble_eq_true rfl) h (⟨rfl, 0, 19, by decide, by decide, Or.inr (Or.inr ⟨_, _, rfl, Or.inr ⟨rfl, rfl⟩⟩)⟩) (Or.inl ⟨dL_shades_26, rfl⟩) (by decide) ?_
  refine w_iconst (v := nZ 2) dL_shades_28 (by decide) ?_
  exact w_iret dL_shades_29 rfl ⟨rfl, rfl⟩
theorem dL_under_0 : decode cL_under 0 = .ok (.aload_n 3, 1) := by decide +kernel
theorem dL_under_1 : decode cL_under 1 = .ok (.iconst 0, 1) := by decide +kernel
theorem dL_under_2 : decode cL_under 2 = .ok (.aload_n 0, 1) := by decide +kernel
theorem dL_under_3 : decode cL_under 3 = .ok (.iload_n 1, 1) := by decide +kernel
theorem dL_under_4 : decode cL_under 4 = .ok (.iload_n 2, 1) := by decide +kernel
theorem dL_under_5 : decode cL_under 5 = .ok (.invokevirtual 31, 3) := by decide +kernel
theorem dL_under_8 : decode cL_under 8 = .ok (.i2l, 1) := by decide +kernel
theorem dL_under_9 : decode cL_under 9 = .ok (.lastore, 1) := by decide +kernel
theorem dL_under_10 : decode cL_under 10 = .ok (.goto 11, 3) := by decide +kernel
theorem dL_under_13 : decode cL_under 13 = .ok (.astore 4, 2) := by decide +kernel
theorem dL_under_15 : decode cL_under 15 = .ok (.iconst 1, 1) := by decide +kernel
theorem dL_under_16 : decode cL_under 16 = .ok (.ireturn, 1) := by decide +kernel
theorem dL_under_17 : decode cL_under 17 = .ok (.astore 4, 2) := by decide +kernel
theorem dL_under_19 : decode cL_under 19 = .ok (.iconst 2, 1) := by decide +kernel
theorem dL_under_20 : decode cL_under 20 = .ok (.ireturn, 1) := by decide +kernel
theorem dL_under_21 : decode cL_under 21 = .ok (.iconst 0, 1) := by decide +kernel
theorem dL_under_22 : decode cL_under 22 = .ok (.ireturn, 1) := by decide +kernel
set_option maxRecDepth 10000 in
theorem wr_under {sc : Nat × (Nat → Int32)} {d : Nat} {σ σ1 : aH} {u u1 : Nat} {x1 : Int} {x2 : Int} {r : Int} (hG : G σ u) (hG1 : G σ1 u1) (rr : inR r) (h : Ev sc d mX9_under [.ref 0, .int (nZ x1), .int (nZ x2)] σ (.inl (some (.int (nZ r)))) σ1) : Ev sc (d + 1) mL_under [.ref 0, .int (nZ x1), .int (nZ x2), .ref 344] σ (.inl (some (.int (nZ 0)))) (wJ σ1 344 0 r) := by
  refine Ev.ofH (c := 11) (code := cL_under) (mL := 5) (rt := (some .int)) (hs := [(0, 10, 13, 22), (0, 10, 17, 13)]) (l := [(0, .ref 0), (1, .int (nZ x1)), (2, .int (nZ x2)), (3, .ref 344)]) rfl rfl rfl rfl (by decide) (by decide +kernel) rfl rfl ?_
  refine w_aload_n dL_under_0 rfl (List.Mem.tail _ (List.Mem.tail _ (List.Mem.tail _ (List.Mem.head _)))) ?_
  refine w_iconst (v := nZ 0) dL_under_1 (by decide) ?_
  refine w_aload_n dL_under_2 rfl (List.Mem.head _) ?_
  refine w_iload_n dL_under_3 rfl (List.Mem.tail _ (List.Mem.head _)) ?_
  refine w_iload_n dL_under_4 rfl (List.Mem.tail _ (List.Mem.tail _ (List.Mem.head _))) ?_
  refine w_callV dL_under_5 ml_11_31 ⟨ok_X9_under, vi_X9_under⟩ hs_X9_under (As := [.int (nZ x1), .int (nZ x2)]) rfl rfl (gT hG rfl (lt_of rfl)) (Nat.le_of_ble_eq_true rfl) h ?_
  show wp (Ev sc d) 11 cL_under 5 (some .int) false [(0, 10, 13, 22), (0, 10, 17, 13)] sc _ 8 [(0, .ref 0), (1, .int (nZ x1)), (2, .int (nZ x2)), (3, .ref 344)] [.int (nZ r), .int (nZ 0), .ref 344] σ1
  refine i_2l dL_under_8 rr ?_
  refine i_last (n := 1) dL_under_9 (gT hG1 rfl (lt_of rfl)) (gL hG1 rfl) (by decide) (by decide) (fun σ2 e2 => ?_)
  refine w_goto (tgt := 21) dL_under_10 rfl ?_
  refine w_iconst (v := nZ 0) dL_under_21 (by decide) ?_
  exact w_iret dL_under_22 rfl ⟨rfl, e2.symm⟩
set_option maxRecDepth 10000 in
theorem wr_under_0 {sc : Nat × (Nat → Int32)} {d : Nat} {σ σ1 : aH} {u u1 : Nat} {x1 : Int} {x2 : Int} (hG : G σ u) (h : Ev sc d mX9_under [.ref 0, .int (nZ x1), .int (nZ x2)] σ (.inr 0) σ1) : Ev sc (d + 1) mL_under [.ref 0, .int (nZ x1), .int (nZ x2), .ref 344] σ (.inl (some (.int (nZ 1)))) σ1 := by
  refine Ev.ofH (c := 11) (code := cL_under) (mL := 5) (rt := (some .int)) (hs := [(0, 10, 13, 22), (0, 10, 17, 13)]) (l := [(0, .ref 0), (1, .int (nZ x1)), (2, .int (nZ x2)), (3, .ref 344)]) rfl rfl rfl rfl (by decide) (by decide +kernel) rfl rfl ?_
  refine w_aload_n dL_under_0 rfl (List.Mem.tail _ (List.Mem.tail _ (List.Mem.tail _ (List.Mem.head _)))) ?_
  refine w_iconst (v := nZ 0) dL_under_1 (by decide) ?_
  refine w_aload_n dL_under_2 rfl (List.Mem.head _) ?_
  refine w_iload_n dL_under_3 rfl (List.Mem.tail _ (List.Mem.head _)) ?_
  refine w_iload_n dL_under_4 rfl (List.Mem.tail _ (List.Mem.tail _ (List.Mem.head _))) ?_
  refine w_catchV (ex := 0) (k := 4) (tgt := 13) (len := 2) dL_under_5 mp_11_31 ⟨ok_X9_under, vi_X9_under⟩ hs_X9_under (As := [.int (nZ x1), .int (nZ x2)]) rfl rfl (gT hG rfl (lt_of rfl)) (Nat.le_of_ble_eq_true rfl) h (⟨rfl, 0, 10, by decide, by decide, Or.inr (Or.inr ⟨_, _, rfl, Or.inl ⟨rfl, rfl⟩⟩)⟩) (Or.inl ⟨dL_under_13, rfl⟩) (by decide) ?_
  refine w_iconst (v := nZ 1) dL_under_15 (by decide) ?_
  exact w_iret dL_under_16 rfl ⟨rfl, rfl⟩
set_option maxRecDepth 10000 in
theorem wr_under_1 {sc : Nat × (Nat → Int32)} {d : Nat} {σ σ1 : aH} {u u1 : Nat} {x1 : Int} {x2 : Int} (hG : G σ u) (h : Ev sc d mX9_under [.ref 0, .int (nZ x1), .int (nZ x2)] σ (.inr 1) σ1) : Ev sc (d + 1) mL_under [.ref 0, .int (nZ x1), .int (nZ x2), .ref 344] σ (.inl (some (.int (nZ 2)))) σ1 := by
  refine Ev.ofH (c := 11) (code := cL_under) (mL := 5) (rt := (some .int)) (hs := [(0, 10, 13, 22), (0, 10, 17, 13)]) (l := [(0, .ref 0), (1, .int (nZ x1)), (2, .int (nZ x2)), (3, .ref 344)]) rfl rfl rfl rfl (by decide) (by decide +kernel) rfl rfl ?_
  refine w_aload_n dL_under_0 rfl (List.Mem.tail _ (List.Mem.tail _ (List.Mem.tail _ (List.Mem.head _)))) ?_
  refine w_iconst (v := nZ 0) dL_under_1 (by decide) ?_
  refine w_aload_n dL_under_2 rfl (List.Mem.head _) ?_
  refine w_iload_n dL_under_3 rfl (List.Mem.tail _ (List.Mem.head _)) ?_
  refine w_iload_n dL_under_4 rfl (List.Mem.tail _ (List.Mem.tail _ (List.Mem.head _))) ?_
  refine w_catchV (ex := 1) (k := 4) (tgt := 17) (len := 2) dL_under_5 mp_11_31 ⟨ok_X9_under, vi_X9_under⟩ hs_X9_under (As := [.int (nZ x1), .int (nZ x2)]) rfl rfl (gT hG rfl (lt_of rfl)) (Nat.le_of_ble_eq_true rfl) h (⟨rfl, 0, 10, by decide, by decide, Or.inr (Or.inr ⟨_, _, rfl, Or.inr ⟨rfl, rfl⟩⟩)⟩) (Or.inl ⟨dL_under_17, rfl⟩) (by decide) ?_
  refine w_iconst (v := nZ 2) dL_under_19 (by decide) ?_
  exact w_iret dL_under_20 rfl ⟨rfl, rfl⟩
theorem dL_minutes_0 : decode cL_minutes 0 = .ok (.aload_n 3, 1) := by decide +kernel
theorem dL_minutes_1 : decode cL_minutes 1 = .ok (.iconst 0, 1) := by decide +kernel
theorem dL_minutes_2 : decode cL_minutes 2 = .ok (.aload_n 0, 1) := by decide +kernel
theorem dL_minutes_3 : decode cL_minutes 3 = .ok (.iload_n 1, 1) := by decide +kernel
theorem dL_minutes_4 : decode cL_minutes 4 = .ok (.iload_n 2, 1) := by decide +kernel
theorem dL_minutes_5 : decode cL_minutes 5 = .ok (.invokevirtual 34, 3) := by decide +kernel
theorem dL_minutes_8 : decode cL_minutes 8 = .ok (.i2l, 1) := by decide +kernel
theorem dL_minutes_9 : decode cL_minutes 9 = .ok (.lastore, 1) := by decide +kernel
theorem dL_minutes_10 : decode cL_minutes 10 = .ok (.goto 11, 3) := by decide +kernel
theorem dL_minutes_13 : decode cL_minutes 13 = .ok (.astore 4, 2) := by decide +kernel
theorem dL_minutes_15 : decode cL_minutes 15 = .ok (.iconst 1, 1) := by decide +kernel
theorem dL_minutes_16 : decode cL_minutes 16 = .ok (.ireturn, 1) := by decide +kernel
theorem dL_minutes_17 : decode cL_minutes 17 = .ok (.astore 4, 2) := by decide +kernel
theorem dL_minutes_19 : decode cL_minutes 19 = .ok (.iconst 2, 1) := by decide +kernel
theorem dL_minutes_20 : decode cL_minutes 20 = .ok (.ireturn, 1) := by decide +kernel
theorem dL_minutes_21 : decode cL_minutes 21 = .ok (.iconst 0, 1) := by decide +kernel
theorem dL_minutes_22 : decode cL_minutes 22 = .ok (.ireturn, 1) := by decide +kernel
set_option maxRecDepth 10000 in
theorem wr_minutes {sc : Nat × (Nat → Int32)} {d : Nat} {σ σ1 : aH} {u u1 : Nat} {x1 : Int} {x2 : Int} {r : Int} (hG : G σ u) (hG1 : G σ1 u1) (rr : inR r) (h : Ev sc d mX9_minutes [.ref 0, .int (nZ x1), .int (nZ x2)] σ (.inl (some (.int (nZ r)))) σ1) : Ev sc (d + 1) mL_minutes [.ref 0, .int (nZ x1), .int (nZ x2), .ref 344] σ (.inl (some (.int (nZ 0)))) (wJ σ1 344 0 r) := by
  refine Ev.ofH (c := 11) (code := cL_minutes) (mL := 5) (rt := (some .int)) (hs := [(0, 10, 13, 22), (0, 10, 17, 13)]) (l := [(0, .ref 0), (1, .int (nZ x1)), (2, .int (nZ x2)), (3, .ref 344)]) rfl rfl rfl rfl (by decide) (by decide +kernel) rfl rfl ?_
  refine w_aload_n dL_minutes_0 rfl (List.Mem.tail _ (List.Mem.tail _ (List.Mem.tail _ (List.Mem.head _)))) ?_
  refine w_iconst (v := nZ 0) dL_minutes_1 (by decide) ?_
  refine w_aload_n dL_minutes_2 rfl (List.Mem.head _) ?_
  refine w_iload_n dL_minutes_3 rfl (List.Mem.tail _ (List.Mem.head _)) ?_
  refine w_iload_n dL_minutes_4 rfl (List.Mem.tail _ (List.Mem.tail _ (List.Mem.head _))) ?_
  refine w_callV dL_minutes_5 ml_11_34 ⟨ok_X9_minutes, vi_X9_minutes⟩ hs_X9_minutes (As := [.int (nZ x1), .int (nZ x2)]) rfl rfl (gT hG rfl (lt_of rfl)) (Nat.le_of_ble_eq_true rfl) h ?_
  show wp (Ev sc d) 11 cL_minutes 5 (some .int) false [(0, 10, 13, 22), (0, 10, 17, 13)] sc _ 8 [(0, .ref 0), (1, .int (nZ x1)), (2, .int (nZ x2)), (3, .ref 344)] [.int (nZ r), .int (nZ 0), .ref 344] σ1
  refine i_2l dL_minutes_8 rr ?_
  refine i_last (n := 1) dL_minutes_9 (gT hG1 rfl (lt_of rfl)) (gL hG1 rfl) (by decide) (by decide) (fun σ2 e2 => ?_)
  refine w_goto (tgt := 21) dL_minutes_10 rfl ?_
  refine w_iconst (v := nZ 0) dL_minutes_21 (by decide) ?_
  exact w_iret dL_minutes_22 rfl ⟨rfl, e2.symm⟩
set_option maxRecDepth 10000 in
theorem wr_minutes_0 {sc : Nat × (Nat → Int32)} {d : Nat} {σ σ1 : aH} {u u1 : Nat} {x1 : Int} {x2 : Int} (hG : G σ u) (h : Ev sc d mX9_minutes [.ref 0, .int (nZ x1), .int (nZ x2)] σ (.inr 0) σ1) : Ev sc (d + 1) mL_minutes [.ref 0, .int (nZ x1), .int (nZ x2), .ref 344] σ (.inl (some (.int (nZ 1)))) σ1 := by
  refine Ev.ofH (c := 11) (code := cL_minutes) (mL := 5) (rt := (some .int)) (hs := [(0, 10, 13, 22), (0, 10, 17, 13)]) (l := [(0, .ref 0), (1, .int (nZ x1)), (2, .int (nZ x2)), (3, .ref 344)]) rfl rfl rfl rfl (by decide) (by decide +kernel) rfl rfl ?_
  refine w_aload_n dL_minutes_0 rfl (List.Mem.tail _ (List.Mem.tail _ (List.Mem.tail _ (List.Mem.head _)))) ?_
  refine w_iconst (v := nZ 0) dL_minutes_1 (by decide) ?_
  refine w_aload_n dL_minutes_2 rfl (List.Mem.head _) ?_
  refine w_iload_n dL_minutes_3 rfl (List.Mem.tail _ (List.Mem.head _)) ?_
  refine w_iload_n dL_minutes_4 rfl (List.Mem.tail _ (List.Mem.tail _ (List.Mem.head _))) ?_
  refine w_catchV (ex := 0) (k := 4) (tgt := 13) (len := 2) dL_minutes_5 mp_11_34 ⟨ok_X9_minutes, vi_X9_minutes⟩ hs_X9_minutes (As := [.int (nZ x1), .int (nZ x2)]) rfl rfl (gT hG rfl (lt_of rfl)) (Nat.le_of_ble_eq_true rfl) h (⟨rfl, 0, 10, by decide, by decide, Or.inr (Or.inr ⟨_, _, rfl, Or.inl ⟨rfl, rfl⟩⟩)⟩) (Or.inl ⟨dL_minutes_13, rfl⟩) (by decide) ?_
  refine w_iconst (v := nZ 1) dL_minutes_15 (by decide) ?_
  exact w_iret dL_minutes_16 rfl ⟨rfl, rfl⟩
set_option maxRecDepth 10000 in
theorem wr_minutes_1 {sc : Nat × (Nat → Int32)} {d : Nat} {σ σ1 : aH} {u u1 : Nat} {x1 : Int} {x2 : Int} (hG : G σ u) (h : Ev sc d mX9_minutes [.ref 0, .int (nZ x1), .int (nZ x2)] σ (.inr 1) σ1) : Ev sc (d + 1) mL_minutes [.ref 0, .int (nZ x1), .int (nZ x2), .ref 344] σ (.inl (some (.int (nZ 2)))) σ1 := by
  refine Ev.ofH (c := 11) (code := cL_minutes) (mL := 5) (rt := (some .int)) (hs := [(0, 10, 13, 22), (0, 10, 17, 13)]) (l := [(0, .ref 0), (1, .int (nZ x1)), (2, .int (nZ x2)), (3, .ref 344)]) rfl rfl rfl rfl (by decide) (by decide +kernel) rfl rfl ?_
  refine w_aload_n dL_minutes_0 rfl (List.Mem.tail _ (List.Mem.tail _ (List.Mem.tail _ (List.Mem.head _)))) ?_
  refine w_iconst (v := nZ 0) dL_minutes_1 (by decide) ?_
  refine w_aload_n dL_minutes_2 rfl (List.Mem.head _) ?_
  refine w_iload_n dL_minutes_3 rfl (List.Mem.tail _ (List.Mem.head _)) ?_
  refine w_iload_n dL_minutes_4 rfl (List.Mem.tail _ (List.Mem.tail _ (List.Mem.head _))) ?_
  refine w_catchV (ex := 1) (k := 4) (tgt := 17) (len := 2) dL_minutes_5 mp_11_34 ⟨ok_X9_minutes, vi_X9_minutes⟩ hs_X9_minutes (As := [.int (nZ x1), .int (nZ x2)]) rfl rfl (gT hG rfl (lt_of rfl)) (Nat.le_of_ble_eq_true rfl) h (⟨rfl, 0, 10, by decide, by decide, Or.inr (Or.inr ⟨_, _, rfl, Or.inr ⟨rfl, rfl⟩⟩)⟩) (Or.inl ⟨dL_minutes_17, rfl⟩) (by decide) ?_
  refine w_iconst (v := nZ 2) dL_minutes_19 (by decide) ?_
  exact w_iret dL_minutes_20 rfl ⟨rfl, rfl⟩
theorem dL_chill_0 : decode cL_chill 0 = .ok (.aload_n 2, 1) := by decide +kernel
theorem dL_chill_1 : decode cL_chill 1 = .ok (.iconst 0, 1) := by decide +kernel
theorem dL_chill_2 : decode cL_chill 2 = .ok (.aload_n 0, 1) := by decide +kernel
theorem dL_chill_3 : decode cL_chill 3 = .ok (.iload_n 1, 1) := by decide +kernel
theorem dL_chill_4 : decode cL_chill 4 = .ok (.invokevirtual 37, 3) := by decide +kernel
theorem dL_chill_7 : decode cL_chill 7 = .ok (.i2l, 1) := by decide +kernel
theorem dL_chill_8 : decode cL_chill 8 = .ok (.lastore, 1) := by decide +kernel
theorem dL_chill_9 : decode cL_chill 9 = .ok (.goto 6, 3) := by decide +kernel
theorem dL_chill_12 : decode cL_chill 12 = .ok (.astore_n 3, 1) := by decide +kernel
theorem dL_chill_13 : decode cL_chill 13 = .ok (.iconst 1, 1) := by decide +kernel
theorem dL_chill_14 : decode cL_chill 14 = .ok (.ireturn, 1) := by decide +kernel
theorem dL_chill_15 : decode cL_chill 15 = .ok (.iconst 0, 1) := by decide +kernel
theorem dL_chill_16 : decode cL_chill 16 = .ok (.ireturn, 1) := by decide +kernel
set_option maxRecDepth 10000 in
theorem wr_chill {sc : Nat × (Nat → Int32)} {d : Nat} {σ σ1 : aH} {u u1 : Nat} {x1 : Int} {r : Int} (hG : G σ u) (hG1 : G σ1 u1) (rr : inR r) (h : Ev sc d mX9_chill [.ref 0, .int (nZ x1)] σ (.inl (some (.int (nZ r)))) σ1) : Ev sc (d + 1) mL_chill [.ref 0, .int (nZ x1), .ref 344] σ (.inl (some (.int (nZ 0)))) (wJ σ1 344 0 r) := by
  refine Ev.ofH (c := 11) (code := cL_chill) (mL := 4) (rt := (some .int)) (hs := [(0, 9, 12, 22)]) (l := [(0, .ref 0), (1, .int (nZ x1)), (2, .ref 344)]) rfl rfl rfl rfl (by decide) (by decide +kernel) rfl rfl ?_
  refine w_aload_n dL_chill_0 rfl (List.Mem.tail _ (List.Mem.tail _ (List.Mem.head _))) ?_
  refine w_iconst (v := nZ 0) dL_chill_1 (by decide) ?_
  refine w_aload_n dL_chill_2 rfl (List.Mem.head _) ?_
  refine w_iload_n dL_chill_3 rfl (List.Mem.tail _ (List.Mem.head _)) ?_
  refine w_callV dL_chill_4 ml_11_37 ⟨ok_X9_chill, vi_X9_chill⟩ hs_X9_chill (As := [.int (nZ x1)]) rfl rfl (gT hG rfl (lt_of rfl)) (Nat.le_of_ble_eq_true rfl) h ?_
  show wp (Ev sc d) 11 cL_chill 4 (some .int) false [(0, 9, 12, 22)] sc _ 7 [(0, .ref 0), (1, .int (nZ x1)), (2, .ref 344)] [.int (nZ r), .int (nZ 0), .ref 344] σ1
  refine i_2l dL_chill_7 rr ?_
  refine i_last (n := 1) dL_chill_8 (gT hG1 rfl (lt_of rfl)) (gL hG1 rfl) (by decide) (by decide) (fun σ2 e2 => ?_)
  refine w_goto (tgt := 15) dL_chill_9 rfl ?_
  refine w_iconst (v := nZ 0) dL_chill_15 (by decide) ?_
  exact w_iret dL_chill_16 rfl ⟨rfl, e2.symm⟩
set_option maxRecDepth 10000 in
theorem wr_chill_0 {sc : Nat × (Nat → Int32)} {d : Nat} {σ σ1 : aH} {u u1 : Nat} {x1 : Int} (hG : G σ u) (h : Ev sc d mX9_chill [.ref 0, .int (nZ x1)] σ (.inr 0) σ1) : Ev sc (d + 1) mL_chill [.ref 0, .int (nZ x1), .ref 344] σ (.inl (some (.int (nZ 1)))) σ1 := by
  refine Ev.ofH (c := 11) (code := cL_chill) (mL := 4) (rt := (some .int)) (hs := [(0, 9, 12, 22)]) (l := [(0, .ref 0), (1, .int (nZ x1)), (2, .ref 344)]) rfl rfl rfl rfl (by decide) (by decide +kernel) rfl rfl ?_
  refine w_aload_n dL_chill_0 rfl (List.Mem.tail _ (List.Mem.tail _ (List.Mem.head _))) ?_
  refine w_iconst (v := nZ 0) dL_chill_1 (by decide) ?_
  refine w_aload_n dL_chill_2 rfl (List.Mem.head _) ?_
  refine w_iload_n dL_chill_3 rfl (List.Mem.tail _ (List.Mem.head _)) ?_
  refine w_catchV (ex := 0) (k := 3) (tgt := 12) (len := 1) dL_chill_4 mp_11_37 ⟨ok_X9_chill, vi_X9_chill⟩ hs_X9_chill (As := [.int (nZ x1)]) rfl rfl (gT hG rfl (lt_of rfl)) (Nat.le_of_ble_eq_true rfl) h (⟨rfl, 0, 9, by decide, by decide, Or.inl ⟨rfl, rfl⟩⟩) (Or.inr ⟨3, rfl, dL_chill_12, rfl⟩) (by decide) ?_
  refine w_iconst (v := nZ 1) dL_chill_13 (by decide) ?_
  exact w_iret dL_chill_14 rfl ⟨rfl, rfl⟩
theorem dL_owes_0 : decode cL_owes 0 = .ok (.aload 4, 2) := by decide +kernel
theorem dL_owes_2 : decode cL_owes 2 = .ok (.iconst 0, 1) := by decide +kernel
theorem dL_owes_3 : decode cL_owes 3 = .ok (.aload_n 0, 1) := by decide +kernel
theorem dL_owes_4 : decode cL_owes 4 = .ok (.iload_n 1, 1) := by decide +kernel
theorem dL_owes_5 : decode cL_owes 5 = .ok (.iload_n 2, 1) := by decide +kernel
theorem dL_owes_6 : decode cL_owes 6 = .ok (.iload_n 3, 1) := by decide +kernel
theorem dL_owes_7 : decode cL_owes 7 = .ok (.invokevirtual 40, 3) := by decide +kernel
theorem dL_owes_10 : decode cL_owes 10 = .ok (.i2l, 1) := by decide +kernel
theorem dL_owes_11 : decode cL_owes 11 = .ok (.lastore, 1) := by decide +kernel
theorem dL_owes_12 : decode cL_owes 12 = .ok (.goto 11, 3) := by decide +kernel
theorem dL_owes_15 : decode cL_owes 15 = .ok (.astore 5, 2) := by decide +kernel
theorem dL_owes_17 : decode cL_owes 17 = .ok (.iconst 1, 1) := by decide +kernel
theorem dL_owes_18 : decode cL_owes 18 = .ok (.ireturn, 1) := by decide +kernel
theorem dL_owes_19 : decode cL_owes 19 = .ok (.astore 5, 2) := by decide +kernel
theorem dL_owes_21 : decode cL_owes 21 = .ok (.iconst 2, 1) := by decide +kernel
theorem dL_owes_22 : decode cL_owes 22 = .ok (.ireturn, 1) := by decide +kernel
theorem dL_owes_23 : decode cL_owes 23 = .ok (.iconst 0, 1) := by decide +kernel
theorem dL_owes_24 : decode cL_owes 24 = .ok (.ireturn, 1) := by decide +kernel
set_option maxRecDepth 10000 in
theorem wr_owes {sc : Nat × (Nat → Int32)} {d : Nat} {σ σ1 : aH} {u u1 : Nat} {x1 : Int} {x2 : Int} {x3 : Int} {r : Int} (hG : G σ u) (hG1 : G σ1 u1) (rr : inR r) (h : Ev sc d mX9_owes [.ref 0, .int (nZ x1), .int (nZ x2), .int (nZ x3)] σ (.inl (some (.int (nZ r)))) σ1) : Ev sc (d + 1) mL_owes [.ref 0, .int (nZ x1), .int (nZ x2), .int (nZ x3), .ref 344] σ (.inl (some (.int (nZ 0)))) (wJ σ1 344 0 r) := by
  refine Ev.ofH (c := 11) (code := cL_owes) (mL := 6) (rt := (some .int)) (hs := [(0, 12, 15, 22), (0, 12, 19, 13)]) (l := [(0, .ref 0), (1, .int (nZ x1)), (2, .int (nZ x2)), (3, .int (nZ x3)), (4, .ref 344)]) rfl rfl rfl rfl (by decide) (by decide +kernel) rfl rfl ?_
  refine w_aload dL_owes_0 (List.Mem.tail _ (List.Mem.tail _ (List.Mem.tail _ (List.Mem.tail _ (List.Mem.head _))))) ?_
  refine w_iconst (v := nZ 0) dL_owes_2 (by decide) ?_
  refine w_aload_n dL_owes_3 rfl (List.Mem.head _) ?_
  refine w_iload_n dL_owes_4 rfl (List.Mem.tail _ (List.Mem.head _)) ?_
  refine w_iload_n dL_owes_5 rfl (List.Mem.tail _ (List.Mem.tail _ (List.Mem.head _))) ?_
  refine w_iload_n dL_owes_6 rfl (List.Mem.tail _ (List.Mem.tail _ (List.Mem.tail _ (List.Mem.head _)))) ?_
  refine w_callV dL_owes_7 ml_11_40 ⟨ok_X9_owes, vi_X9_owes⟩ hs_X9_owes (As := [.int (nZ x1), .int (nZ x2), .int (nZ x3)]) rfl rfl (gT hG rfl (lt_of rfl)) (Nat.le_of_ble_eq_true rfl) h ?_
  show wp (Ev sc d) 11 cL_owes 6 (some .int) false [(0, 12, 15, 22), (0, 12, 19, 13)] sc _ 10 [(0, .ref 0), (1, .int (nZ x1)), (2, .int (nZ x2)), (3, .int (nZ x3)), (4, .ref 344)] [.int (nZ r), .int (nZ 0), .ref 344] σ1
  refine i_2l dL_owes_10 rr ?_
  refine i_last (n := 1) dL_owes_11 (gT hG1 rfl (lt_of rfl)) (gL hG1 rfl) (by decide) (by decide) (fun σ2 e2 => ?_)
  refine w_goto (tgt := 23) dL_owes_12 rfl ?_
  refine w_iconst (v := nZ 0) dL_owes_23 (by decide) ?_
  exact w_iret dL_owes_24 rfl ⟨rfl, e2.symm⟩
set_option maxRecDepth 10000 in
theorem wr_owes_0 {sc : Nat × (Nat → Int32)} {d : Nat} {σ σ1 : aH} {u u1 : Nat} {x1 : Int} {x2 : Int} {x3 : Int} (hG : G σ u) (h : Ev sc d mX9_owes [.ref 0, .int (nZ x1), .int (nZ x2), .int (nZ x3)] σ (.inr 0) σ1) : Ev sc (d + 1) mL_owes [.ref 0, .int (nZ x1), .int (nZ x2), .int (nZ x3), .ref 344] σ (.inl (some (.int (nZ 1)))) σ1 := by
  refine Ev.ofH (c := 11) (code := cL_owes) (mL := 6) (rt := (some .int)) (hs := [(0, 12, 15, 22), (0, 12, 19, 13)]) (l := [(0, .ref 0), (1, .int (nZ x1)), (2, .int (nZ x2)), (3, .int (nZ x3)), (4, .ref 344)]) rfl rfl rfl rfl (by decide) (by decide +kernel) rfl rfl ?_
  refine w_aload dL_owes_0 (List.Mem.tail _ (List.Mem.tail _ (List.Mem.tail _ (List.Mem.tail _ (List.Mem.head _))))) ?_
  refine w_iconst (v := nZ 0) dL_owes_2 (by decide) ?_
  refine w_aload_n dL_owes_3 rfl (List.Mem.head _) ?_
  refine w_iload_n dL_owes_4 rfl (List.Mem.tail _ (List.Mem.head _)) ?_
  refine w_iload_n dL_owes_5 rfl (List.Mem.tail _ (List.Mem.tail _ (List.Mem.head _))) ?_
  refine w_iload_n dL_owes_6 rfl (List.Mem.tail _ (List.Mem.tail _ (List.Mem.tail _ (List.Mem.head _)))) ?_
  refine w_catchV (ex := 0) (k := 5) (tgt := 15) (len := 2) dL_owes_7 mp_11_40 ⟨ok_X9_owes, vi_X9_owes⟩ hs_X9_owes (As := [.int (nZ x1), .int (nZ x2), .int (nZ x3)]) rfl rfl (gT hG rfl (lt_of rfl)) (Nat.le_of_ble_eq_true rfl) h (⟨rfl, 0, 12, by decide, by decide, Or.inr (Or.inr ⟨_, _, rfl, Or.inl ⟨rfl, rfl⟩⟩)⟩) (Or.inl ⟨dL_owes_15, rfl⟩) (by decide) ?_
  refine w_iconst (v := nZ 1) dL_owes_17 (by decide) ?_
  exact w_iret dL_owes_18 rfl ⟨rfl, rfl⟩
set_option maxRecDepth 10000 in
theorem wr_owes_1 {sc : Nat × (Nat → Int32)} {d : Nat} {σ σ1 : aH} {u u1 : Nat} {x1 : Int} {x2 : Int} {x3 : Int} (hG : G σ u) (h : Ev sc d mX9_owes [.ref 0, .int (nZ x1), .int (nZ x2), .int (nZ x3)] σ (.inr 1) σ1) : Ev sc (d + 1) mL_owes [.ref 0, .int (nZ x1), .int (nZ x2), .int (nZ x3), .ref 344] σ (.inl (some (.int (nZ 2)))) σ1 := by
  refine Ev.ofH (c := 11) (code := cL_owes) (mL := 6) (rt := (some .int)) (hs := [(0, 12, 15, 22), (0, 12, 19, 13)]) (l := [(0, .ref 0), (1, .int (nZ x1)), (2, .int (nZ x2)), (3, .int (nZ x3)), (4, .ref 344)]) rfl rfl rfl rfl (by decide) (by decide +kernel) rfl rfl ?_
  refine w_aload dL_owes_0 (List.Mem.tail _ (List.Mem.tail _ (List.Mem.tail _ (List.Mem.tail _ (List.Mem.head _))))) ?_
  refine w_iconst (v := nZ 0) dL_owes_2 (by decide) ?_
  refine w_aload_n dL_owes_3 rfl (List.Mem.head _) ?_
  refine w_iload_n dL_owes_4 rfl (List.Mem.tail _ (List.Mem.head _)) ?_
  refine w_iload_n dL_owes_5 rfl (List.Mem.tail _ (List.Mem.tail _ (List.Mem.head _))) ?_
  refine w_iload_n dL_owes_6 rfl (List.Mem.tail _ (List.Mem.tail _ (List.Mem.tail _ (List.Mem.head _)))) ?_
  refine w_catchV (ex := 1) (k := 5) (tgt := 19) (len := 2) dL_owes_7 mp_11_40 ⟨ok_X9_owes, vi_X9_owes⟩ hs_X9_owes (As := [.int (nZ x1), .int (nZ x2), .int (nZ x3)]) rfl rfl (gT hG rfl (lt_of rfl)) (Nat.le_of_ble_eq_true rfl) h (⟨rfl, 0, 12, by decide, by decide, Or.inr (Or.inr ⟨_, _, rfl, Or.inr ⟨rfl, rfl⟩⟩)⟩) (Or.inl ⟨dL_owes_19, rfl⟩) (by decide) ?_
  refine w_iconst (v := nZ 2) dL_owes_21 (by decide) ?_
  exact w_iret dL_owes_22 rfl ⟨rfl, rfl⟩
theorem dL_net_0 : decode cL_net 0 = .ok (.aload_n 3, 1) := by decide +kernel
theorem dL_net_1 : decode cL_net 1 = .ok (.iconst 0, 1) := by decide +kernel
theorem dL_net_2 : decode cL_net 2 = .ok (.aload_n 0, 1) := by decide +kernel
theorem dL_net_3 : decode cL_net 3 = .ok (.iload_n 1, 1) := by decide +kernel
theorem dL_net_4 : decode cL_net 4 = .ok (.iload_n 2, 1) := by decide +kernel
theorem dL_net_5 : decode cL_net 5 = .ok (.invokevirtual 44, 3) := by decide +kernel
theorem dL_net_8 : decode cL_net 8 = .ok (.i2l, 1) := by decide +kernel
theorem dL_net_9 : decode cL_net 9 = .ok (.lastore, 1) := by decide +kernel
theorem dL_net_10 : decode cL_net 10 = .ok (.goto 11, 3) := by decide +kernel
theorem dL_net_13 : decode cL_net 13 = .ok (.astore 4, 2) := by decide +kernel
theorem dL_net_15 : decode cL_net 15 = .ok (.iconst 1, 1) := by decide +kernel
theorem dL_net_16 : decode cL_net 16 = .ok (.ireturn, 1) := by decide +kernel
theorem dL_net_17 : decode cL_net 17 = .ok (.astore 4, 2) := by decide +kernel
theorem dL_net_19 : decode cL_net 19 = .ok (.iconst 2, 1) := by decide +kernel
theorem dL_net_20 : decode cL_net 20 = .ok (.ireturn, 1) := by decide +kernel
theorem dL_net_21 : decode cL_net 21 = .ok (.iconst 0, 1) := by decide +kernel
theorem dL_net_22 : decode cL_net 22 = .ok (.ireturn, 1) := by decide +kernel
set_option maxRecDepth 10000 in
theorem wr_net {sc : Nat × (Nat → Int32)} {d : Nat} {σ σ1 : aH} {u u1 : Nat} {x1 : Int} {x2 : Int} {r : Int} (hG : G σ u) (hG1 : G σ1 u1) (rr : inR r) (h : Ev sc d mX9_net [.ref 0, .int (nZ x1), .int (nZ x2)] σ (.inl (some (.int (nZ r)))) σ1) : Ev sc (d + 1) mL_net [.ref 0, .int (nZ x1), .int (nZ x2), .ref 344] σ (.inl (some (.int (nZ 0)))) (wJ σ1 344 0 r) := by
  refine Ev.ofH (c := 11) (code := cL_net) (mL := 5) (rt := (some .int)) (hs := [(0, 10, 13, 22), (0, 10, 17, 13)]) (l := [(0, .ref 0), (1, .int (nZ x1)), (2, .int (nZ x2)), (3, .ref 344)]) rfl rfl rfl rfl (by decide) (by decide +kernel) rfl rfl ?_
  refine w_aload_n dL_net_0 rfl (List.Mem.tail _ (List.Mem.tail _ (List.Mem.tail _ (List.Mem.head _)))) ?_
  refine w_iconst (v := nZ 0) dL_net_1 (by decide) ?_
  refine w_aload_n dL_net_2 rfl (List.Mem.head _) ?_
  refine w_iload_n dL_net_3 rfl (List.Mem.tail _ (List.Mem.head _)) ?_
  refine w_iload_n dL_net_4 rfl (List.Mem.tail _ (List.Mem.tail _ (List.Mem.head _))) ?_
  refine w_callV dL_net_5 ml_11_44 ⟨ok_X9_net, vi_X9_net⟩ hs_X9_net (As := [.int (nZ x1), .int (nZ x2)]) rfl rfl (gT hG rfl (lt_of rfl)) (Nat.le_of_ble_eq_true rfl) h ?_
  show wp (Ev sc d) 11 cL_net 5 (some .int) false [(0, 10, 13, 22), (0, 10, 17, 13)] sc _ 8 [(0, .ref 0), (1, .int (nZ x1)), (2, .int (nZ x2)), (3, .ref 344)] [.int (nZ r), .int (nZ 0), .ref 344] σ1
  refine i_2l dL_net_8 rr ?_
  refine i_last (n := 1) dL_net_9 (gT hG1 rfl (lt_of rfl)) (gL hG1 rfl) (by decide) (by decide) (fun σ2 e2 => ?_)
  refine w_goto (tgt := 21) dL_net_10 rfl ?_
  refine w_iconst (v := nZ 0) dL_net_21 (by decide) ?_
  exact w_iret dL_net_22 rfl ⟨rfl, e2.symm⟩
set_option maxRecDepth 10000 in
theorem wr_net_0 {sc : Nat × (Nat → Int32)} {d : Nat} {σ σ1 : aH} {u u1 : Nat} {x1 : Int} {x2 : Int} (hG : G σ u) (h : Ev sc d mX9_net [.ref 0, .int (nZ x1), .int (nZ x2)] σ (.inr 0) σ1) : Ev sc (d + 1) mL_net [.ref 0, .int (nZ x1), .int (nZ x2), .ref 344] σ (.inl (some (.int (nZ 1)))) σ1 := by
  refine Ev.ofH (c := 11) (code := cL_net) (mL := 5) (rt := (some .int)) (hs := [(0, 10, 13, 22), (0, 10, 17, 13)]) (l := [(0, .ref 0), (1, .int (nZ x1)), (2, .int (nZ x2)), (3, .ref 344)]) rfl rfl rfl rfl (by decide) (by decide +kernel) rfl rfl ?_
  refine w_aload_n dL_net_0 rfl (List.Mem.tail _ (List.Mem.tail _ (List.Mem.tail _ (List.Mem.head _)))) ?_
  refine w_iconst (v := nZ 0) dL_net_1 (by decide) ?_
  refine w_aload_n dL_net_2 rfl (List.Mem.head _) ?_
  refine w_iload_n dL_net_3 rfl (List.Mem.tail _ (List.Mem.head _)) ?_
  refine w_iload_n dL_net_4 rfl (List.Mem.tail _ (List.Mem.tail _ (List.Mem.head _))) ?_
  refine w_catchV (ex := 0) (k := 4) (tgt := 13) (len := 2) dL_net_5 mp_11_44 ⟨ok_X9_net, vi_X9_net⟩ hs_X9_net (As := [.int (nZ x1), .int (nZ x2)]) rfl rfl (gT hG rfl (lt_of rfl)) (Nat.le_of_ble_eq_true rfl) h (⟨rfl, 0, 10, by decide, by decide, Or.inr (Or.inr ⟨_, _, rfl, Or.inl ⟨rfl, rfl⟩⟩)⟩) (Or.inl ⟨dL_net_13, rfl⟩) (by decide) ?_
  refine w_iconst (v := nZ 1) dL_net_15 (by decide) ?_
  exact w_iret dL_net_16 rfl ⟨rfl, rfl⟩
set_option maxRecDepth 10000 in
theorem wr_net_1 {sc : Nat × (Nat → Int32)} {d : Nat} {σ σ1 : aH} {u u1 : Nat} {x1 : Int} {x2 : Int} (hG : G σ u) (h : Ev sc d mX9_net [.ref 0, .int (nZ x1), .int (nZ x2)] σ (.inr 1) σ1) : Ev sc (d + 1) mL_net [.ref 0, .int (nZ x1), .int (nZ x2), .ref 344] σ (.inl (some (.int (nZ 2)))) σ1 := by
  refine Ev.ofH (c := 11) (code := cL_net) (mL := 5) (rt := (some .int)) (hs := [(0, 10, 13, 22), (0, 10, 17, 13)]) (l := [(0, .ref 0), (1, .int (nZ x1)), (2, .int (nZ x2)), (3, .ref 344)]) rfl rfl rfl rfl (by decide) (by decide +kernel) rfl rfl ?_
  refine w_aload_n dL_net_0 rfl (List.Mem.tail _ (List.Mem.tail _ (List.Mem.tail _ (List.Mem.head _)))) ?_
  refine w_iconst (v := nZ 0) dL_net_1 (by decide) ?_
  refine w_aload_n dL_net_2 rfl (List.Mem.head _) ?_
  refine w_iload_n dL_net_3 rfl (List.Mem.tail _ (List.Mem.head _)) ?_
  refine w_iload_n dL_net_4 rfl (List.Mem.tail _ (List.Mem.tail _ (List.Mem.head _))) ?_
  refine w_catchV (ex := 1) (k := 4) (tgt := 17) (len := 2) dL_net_5 mp_11_44 ⟨ok_X9_net, vi_X9_net⟩ hs_X9_net (As := [.int (nZ x1), .int (nZ x2)]) rfl rfl (gT hG rfl (lt_of rfl)) (Nat.le_of_ble_eq_true rfl) h (⟨rfl, 0, 10, by decide, by decide, Or.inr (Or.inr ⟨_, _, rfl, Or.inr ⟨rfl, rfl⟩⟩)⟩) (Or.inl ⟨dL_net_17, rfl⟩) (by decide) ?_
  refine w_iconst (v := nZ 2) dL_net_19 (by decide) ?_
  exact w_iret dL_net_20 rfl ⟨rfl, rfl⟩
theorem dL_payments_0 : decode cL_payments 0 = .ok (.aload_n 2, 1) := by decide +kernel
theorem dL_payments_1 : decode cL_payments 1 = .ok (.iconst 0, 1) := by decide +kernel
theorem dL_payments_2 : decode cL_payments 2 = .ok (.aload_n 0, 1) := by decide +kernel
theorem dL_payments_3 : decode cL_payments 3 = .ok (.iload_n 1, 1) := by decide +kernel
theorem dL_payments_4 : decode cL_payments 4 = .ok (.invokevirtual 47, 3) := by decide +kernel
theorem dL_payments_7 : decode cL_payments 7 = .ok (.i2l, 1) := by decide +kernel
theorem dL_payments_8 : decode cL_payments 8 = .ok (.lastore, 1) := by decide +kernel
theorem dL_payments_9 : decode cL_payments 9 = .ok (.goto 6, 3) := by decide +kernel
theorem dL_payments_12 : decode cL_payments 12 = .ok (.astore_n 3, 1) := by decide +kernel
theorem dL_payments_13 : decode cL_payments 13 = .ok (.iconst 1, 1) := by decide +kernel
theorem dL_payments_14 : decode cL_payments 14 = .ok (.ireturn, 1) := by decide +kernel
theorem dL_payments_15 : decode cL_payments 15 = .ok (.iconst 0, 1) := by decide +kernel
theorem dL_payments_16 : decode cL_payments 16 = .ok (.ireturn, 1) := by decide +kernel
set_option maxRecDepth 10000 in
theorem wr_payments {sc : Nat × (Nat → Int32)} {d : Nat} {σ σ1 : aH} {u u1 : Nat} {x1 : Int} {r : Int} (hG : G σ u) (hG1 : G σ1 u1) (rr : inR r) (h : Ev sc d mX9_payments [.ref 0, .int (nZ x1)] σ (.inl (some (.int (nZ r)))) σ1) : Ev sc (d + 1) mL_payments [.ref 0, .int (nZ x1), .ref 344] σ (.inl (some (.int (nZ 0)))) (wJ σ1 344 0 r) := by
  refine Ev.ofH (c := 11) (code := cL_payments) (mL := 4) (rt := (some .int)) (hs := [(0, 9, 12, 13)]) (l := [(0, .ref 0), (1, .int (nZ x1)), (2, .ref 344)]) rfl rfl rfl rfl (by decide) (by decide +kernel) rfl rfl ?_
  refine w_aload_n dL_payments_0 rfl (List.Mem.tail _ (List.Mem.tail _ (List.Mem.head _))) ?_
  refine w_iconst (v := nZ 0) dL_payments_1 (by decide) ?_
  refine w_aload_n dL_payments_2 rfl (List.Mem.head _) ?_
  refine w_iload_n dL_payments_3 rfl (List.Mem.tail _ (List.Mem.head _)) ?_
  refine w_callV dL_payments_4 ml_11_47 ⟨ok_X9_payments, vi_X9_payments⟩ hs_X9_payments (As := [.int (nZ x1)]) rfl rfl (gT hG rfl (lt_of rfl)) (Nat.le_of_ble_eq_true rfl) h ?_
  show wp (Ev sc d) 11 cL_payments 4 (some .int) false [(0, 9, 12, 13)] sc _ 7 [(0, .ref 0), (1, .int (nZ x1)), (2, .ref 344)] [.int (nZ r), .int (nZ 0), .ref 344] σ1
  refine i_2l dL_payments_7 rr ?_
  refine i_last (n := 1) dL_payments_8 (gT hG1 rfl (lt_of rfl)) (gL hG1 rfl) (by decide) (by decide) (fun σ2 e2 => ?_)
  refine w_goto (tgt := 15) dL_payments_9 rfl ?_
  refine w_iconst (v := nZ 0) dL_payments_15 (by decide) ?_
  exact w_iret dL_payments_16 rfl ⟨rfl, e2.symm⟩
set_option maxRecDepth 10000 in
theorem wr_payments_1 {sc : Nat × (Nat → Int32)} {d : Nat} {σ σ1 : aH} {u u1 : Nat} {x1 : Int} (hG : G σ u) (h : Ev sc d mX9_payments [.ref 0, .int (nZ x1)] σ (.inr 1) σ1) : Ev sc (d + 1) mL_payments [.ref 0, .int (nZ x1), .ref 344] σ (.inl (some (.int (nZ 1)))) σ1 := by
  refine Ev.ofH (c := 11) (code := cL_payments) (mL := 4) (rt := (some .int)) (hs := [(0, 9, 12, 13)]) (l := [(0, .ref 0), (1, .int (nZ x1)), (2, .ref 344)]) rfl rfl rfl rfl (by decide) (by decide +kernel) rfl rfl ?_
  refine w_aload_n dL_payments_0 rfl (List.Mem.tail _ (List.Mem.tail _ (List.Mem.head _))) ?_
  refine w_iconst (v := nZ 0) dL_payments_1 (by decide) ?_
  refine w_aload_n dL_payments_2 rfl (List.Mem.head _) ?_
  refine w_iload_n dL_payments_3 rfl (List.Mem.tail _ (List.Mem.head _)) ?_
  refine w_catchV (ex := 1) (k := 3) (tgt := 12) (len := 1) dL_payments_4 mp_11_47 ⟨ok_X9_payments, vi_X9_payments⟩ hs_X9_payments (As := [.int (nZ x1)]) rfl rfl (gT hG rfl (lt_of rfl)) (Nat.le_of_ble_eq_true rfl) h (⟨rfl, 0, 9, by decide, by decide, Or.inr (Or.inl ⟨rfl, rfl⟩)⟩) (Or.inr ⟨3, rfl, dL_payments_12, rfl⟩) (by decide) ?_
  refine w_iconst (v := nZ 1) dL_payments_13 (by decide) ?_
  exact w_iret dL_payments_14 rfl ⟨rfl, rfl⟩
theorem dL_first_0 : decode cL_first 0 = .ok (.aload_n 2, 1) := by decide +kernel
theorem dL_first_1 : decode cL_first 1 = .ok (.iconst 0, 1) := by decide +kernel
theorem dL_first_2 : decode cL_first 2 = .ok (.aload_n 0, 1) := by decide +kernel
theorem dL_first_3 : decode cL_first 3 = .ok (.iload_n 1, 1) := by decide +kernel
theorem dL_first_4 : decode cL_first 4 = .ok (.invokevirtual 50, 3) := by decide +kernel
theorem dL_first_7 : decode cL_first 7 = .ok (.i2l, 1) := by decide +kernel
theorem dL_first_8 : decode cL_first 8 = .ok (.lastore, 1) := by decide +kernel
theorem dL_first_9 : decode cL_first 9 = .ok (.goto 6, 3) := by decide +kernel
theorem dL_first_12 : decode cL_first 12 = .ok (.astore_n 3, 1) := by decide +kernel
theorem dL_first_13 : decode cL_first 13 = .ok (.iconst 1, 1) := by decide +kernel
theorem dL_first_14 : decode cL_first 14 = .ok (.ireturn, 1) := by decide +kernel
theorem dL_first_15 : decode cL_first 15 = .ok (.iconst 0, 1) := by decide +kernel
theorem dL_first_16 : decode cL_first 16 = .ok (.ireturn, 1) := by decide +kernel
set_option maxRecDepth 10000 in
theorem wr_first {sc : Nat × (Nat → Int32)} {d : Nat} {σ σ1 : aH} {u u1 : Nat} {x1 : Int} {r : Int} (hG : G σ u) (hG1 : G σ1 u1) (rr : inR r) (h : Ev sc d mX9_first [.ref 0, .int (nZ x1)] σ (.inl (some (.int (nZ r)))) σ1) : Ev sc (d + 1) mL_first [.ref 0, .int (nZ x1), .ref 344] σ (.inl (some (.int (nZ 0)))) (wJ σ1 344 0 r) := by
  refine Ev.ofH (c := 11) (code := cL_first) (mL := 4) (rt := (some .int)) (hs := [(0, 9, 12, 13)]) (l := [(0, .ref 0), (1, .int (nZ x1)), (2, .ref 344)]) rfl rfl rfl rfl (by decide) (by decide +kernel) rfl rfl ?_
  refine w_aload_n dL_first_0 rfl (List.Mem.tail _ (List.Mem.tail _ (List.Mem.head _))) ?_
  refine w_iconst (v := nZ 0) dL_first_1 (by decide) ?_
  refine w_aload_n dL_first_2 rfl (List.Mem.head _) ?_
  refine w_iload_n dL_first_3 rfl (List.Mem.tail _ (List.Mem.head _)) ?_
  refine w_callV dL_first_4 ml_11_50 ⟨ok_X9_first, vi_X9_first⟩ hs_X9_first (As := [.int (nZ x1)]) rfl rfl (gT hG rfl (lt_of rfl)) (Nat.le_of_ble_eq_true rfl) h ?_
  show wp (Ev sc d) 11 cL_first 4 (some .int) false [(0, 9, 12, 13)] sc _ 7 [(0, .ref 0), (1, .int (nZ x1)), (2, .ref 344)] [.int (nZ r), .int (nZ 0), .ref 344] σ1
  refine i_2l dL_first_7 rr ?_
  refine i_last (n := 1) dL_first_8 (gT hG1 rfl (lt_of rfl)) (gL hG1 rfl) (by decide) (by decide) (fun σ2 e2 => ?_)
  refine w_goto (tgt := 15) dL_first_9 rfl ?_
  refine w_iconst (v := nZ 0) dL_first_15 (by decide) ?_
  exact w_iret dL_first_16 rfl ⟨rfl, e2.symm⟩
set_option maxRecDepth 10000 in
theorem wr_first_1 {sc : Nat × (Nat → Int32)} {d : Nat} {σ σ1 : aH} {u u1 : Nat} {x1 : Int} (hG : G σ u) (h : Ev sc d mX9_first [.ref 0, .int (nZ x1)] σ (.inr 1) σ1) : Ev sc (d + 1) mL_first [.ref 0, .int (nZ x1), .ref 344] σ (.inl (some (.int (nZ 1)))) σ1 := by
  refine Ev.ofH (c := 11) (code := cL_first) (mL := 4) (rt := (some .int)) (hs := [(0, 9, 12, 13)]) (l := [(0, .ref 0), (1, .int (nZ x1)), (2, .ref 344)]) rfl rfl rfl rfl (by decide) (by decide +kernel) rfl rfl ?_
  refine w_aload_n dL_first_0 rfl (List.Mem.tail _ (List.Mem.tail _ (List.Mem.head _))) ?_
  refine w_iconst (v := nZ 0) dL_first_1 (by decide) ?_
  refine w_aload_n dL_first_2 rfl (List.Mem.head _) ?_
  refine w_iload_n dL_first_3 rfl (List.Mem.tail _ (List.Mem.head _)) ?_
  refine w_catchV (ex := 1) (k := 3) (tgt := 12) (len := 1) dL_first_4 mp_11_50 ⟨ok_X9_first, vi_X9_first⟩ hs_X9_first (As := [.int (nZ x1)]) rfl rfl (gT hG rfl (lt_of rfl)) (Nat.le_of_ble_eq_true rfl) h (⟨rfl, 0, 9, by decide, by decide, Or.inr (Or.inl ⟨rfl, rfl⟩)⟩) (Or.inr ⟨3, rfl, dL_first_12, rfl⟩) (by decide) ?_
  refine w_iconst (v := nZ 1) dL_first_13 (by decide) ?_
  exact w_iret dL_first_14 rfl ⟨rfl, rfl⟩
theorem dL_winter_0 : decode cL_winter 0 = .ok (.aload_n 2, 1) := by decide +kernel
theorem dL_winter_1 : decode cL_winter 1 = .ok (.iconst 0, 1) := by decide +kernel
theorem dL_winter_2 : decode cL_winter 2 = .ok (.aload_n 0, 1) := by decide +kernel
theorem dL_winter_3 : decode cL_winter 3 = .ok (.iload_n 1, 1) := by decide +kernel
theorem dL_winter_4 : decode cL_winter 4 = .ok (.invokevirtual 53, 3) := by decide +kernel
theorem dL_winter_7 : decode cL_winter 7 = .ok (.i2l, 1) := by decide +kernel
theorem dL_winter_8 : decode cL_winter 8 = .ok (.lastore, 1) := by decide +kernel
theorem dL_winter_9 : decode cL_winter 9 = .ok (.goto 6, 3) := by decide +kernel
theorem dL_winter_12 : decode cL_winter 12 = .ok (.astore_n 3, 1) := by decide +kernel
theorem dL_winter_13 : decode cL_winter 13 = .ok (.iconst 1, 1) := by decide +kernel
theorem dL_winter_14 : decode cL_winter 14 = .ok (.ireturn, 1) := by decide +kernel
theorem dL_winter_15 : decode cL_winter 15 = .ok (.iconst 0, 1) := by decide +kernel
theorem dL_winter_16 : decode cL_winter 16 = .ok (.ireturn, 1) := by decide +kernel
set_option maxRecDepth 10000 in
theorem wr_winter {sc : Nat × (Nat → Int32)} {d : Nat} {σ σ1 : aH} {u u1 : Nat} {x1 : Int} {r : Int} (hG : G σ u) (hG1 : G σ1 u1) (rr : inR r) (h : Ev sc d mX9_winter [.ref 0, .int (nZ x1)] σ (.inl (some (.int (nZ r)))) σ1) : Ev sc (d + 1) mL_winter [.ref 0, .int (nZ x1), .ref 344] σ (.inl (some (.int (nZ 0)))) (wJ σ1 344 0 r) := by
  refine Ev.ofH (c := 11) (code := cL_winter) (mL := 4) (rt := (some .int)) (hs := [(0, 9, 12, 13)]) (l := [(0, .ref 0), (1, .int (nZ x1)), (2, .ref 344)]) rfl rfl rfl rfl (by decide) (by decide +kernel) rfl rfl ?_
  refine w_aload_n dL_winter_0 rfl (List.Mem.tail _ (List.Mem.tail _ (List.Mem.head _))) ?_
  refine w_iconst (v := nZ 0) dL_winter_1 (by decide) ?_
  refine w_aload_n dL_winter_2 rfl (List.Mem.head _) ?_
  refine w_iload_n dL_winter_3 rfl (List.Mem.tail _ (List.Mem.head _)) ?_
  refine w_callV dL_winter_4 ml_11_53 ⟨ok_X9_winter, vi_X9_winter⟩ hs_X9_winter (As := [.int (nZ x1)]) rfl rfl (gT hG rfl (lt_of rfl)) (Nat.le_of_ble_eq_true rfl) h ?_
  show wp (Ev sc d) 11 cL_winter 4 (some .int) false [(0, 9, 12, 13)] sc _ 7 [(0, .ref 0), (1, .int (nZ x1)), (2, .ref 344)] [.int (nZ r), .int (nZ 0), .ref 344] σ1
  refine i_2l dL_winter_7 rr ?_
  refine i_last (n := 1) dL_winter_8 (gT hG1 rfl (lt_of rfl)) (gL hG1 rfl) (by decide) (by decide) (fun σ2 e2 => ?_)
  refine w_goto (tgt := 15) dL_winter_9 rfl ?_
  refine w_iconst (v := nZ 0) dL_winter_15 (by decide) ?_
  exact w_iret dL_winter_16 rfl ⟨rfl, e2.symm⟩
set_option maxRecDepth 10000 in
theorem wr_winter_1 {sc : Nat × (Nat → Int32)} {d : Nat} {σ σ1 : aH} {u u1 : Nat} {x1 : Int} (hG : G σ u) (h : Ev sc d mX9_winter [.ref 0, .int (nZ x1)] σ (.inr 1) σ1) : Ev sc (d + 1) mL_winter [.ref 0, .int (nZ x1), .ref 344] σ (.inl (some (.int (nZ 1)))) σ1 := by
  refine Ev.ofH (c := 11) (code := cL_winter) (mL := 4) (rt := (some .int)) (hs := [(0, 9, 12, 13)]) (l := [(0, .ref 0), (1, .int (nZ x1)), (2, .ref 344)]) rfl rfl rfl rfl (by decide) (by decide +kernel) rfl rfl ?_
  refine w_aload_n dL_winter_0 rfl (List.Mem.tail _ (List.Mem.tail _ (List.Mem.head _))) ?_
  refine w_iconst (v := nZ 0) dL_winter_1 (by decide) ?_
  refine w_aload_n dL_winter_2 rfl (List.Mem.head _) ?_
  refine w_iload_n dL_winter_3 rfl (List.Mem.tail _ (List.Mem.head _)) ?_
  refine w_catchV (ex := 1) (k := 3) (tgt := 12) (len := 1) dL_winter_4 mp_11_53 ⟨ok_X9_winter, vi_X9_winter⟩ hs_X9_winter (As := [.int (nZ x1)]) rfl rfl (gT hG rfl (lt_of rfl)) (Nat.le_of_ble_eq_true rfl) h (⟨rfl, 0, 9, by decide, by decide, Or.inr (Or.inl ⟨rfl, rfl⟩)⟩) (Or.inr ⟨3, rfl, dL_winter_12, rfl⟩) (by decide) ?_
  refine w_iconst (v := nZ 1) dL_winter_13 (by decide) ?_
  exact w_iret dL_winter_14 rfl ⟨rfl, rfl⟩
theorem dL_move_0 : decode cL_move 0 = .ok (.aload 4, 2) := by decide +kernel
theorem dL_move_2 : decode cL_move 2 = .ok (.iconst 0, 1) := by decide +kernel
theorem dL_move_3 : decode cL_move 3 = .ok (.aload_n 0, 1) := by decide +kernel
theorem dL_move_4 : decode cL_move 4 = .ok (.iload_n 1, 1) := by decide +kernel
theorem dL_move_5 : decode cL_move 5 = .ok (.iload_n 2, 1) := by decide +kernel
theorem dL_move_6 : decode cL_move 6 = .ok (.iload_n 3, 1) := by decide +kernel
theorem dL_move_7 : decode cL_move 7 = .ok (.invokevirtual 56, 3) := by decide +kernel
theorem dL_move_10 : decode cL_move 10 = .ok (.i2l, 1) := by decide +kernel
theorem dL_move_11 : decode cL_move 11 = .ok (.lastore, 1) := by decide +kernel
theorem dL_move_12 : decode cL_move 12 = .ok (.goto 11, 3) := by decide +kernel
theorem dL_move_15 : decode cL_move 15 = .ok (.astore 5, 2) := by decide +kernel
theorem dL_move_17 : decode cL_move 17 = .ok (.iconst 1, 1) := by decide +kernel
theorem dL_move_18 : decode cL_move 18 = .ok (.ireturn, 1) := by decide +kernel
theorem dL_move_19 : decode cL_move 19 = .ok (.astore 5, 2) := by decide +kernel
theorem dL_move_21 : decode cL_move 21 = .ok (.iconst 2, 1) := by decide +kernel
theorem dL_move_22 : decode cL_move 22 = .ok (.ireturn, 1) := by decide +kernel
theorem dL_move_23 : decode cL_move 23 = .ok (.iconst 0, 1) := by decide +kernel
theorem dL_move_24 : decode cL_move 24 = .ok (.ireturn, 1) := by decide +kernel
set_option maxRecDepth 10000 in
theorem wr_move {sc : Nat × (Nat → Int32)} {d : Nat} {σ σ1 : aH} {u u1 : Nat} {x1 : Int} {x2 : Int} {x3 : Int} {r : Int} (hG : G σ u) (hG1 : G σ1 u1) (rr : inR r) (h : Ev sc d mX9_move [.ref 0, .int (nZ x1), .int (nZ x2), .int (nZ x3)] σ (.inl (some (.int (nZ r)))) σ1) : Ev sc (d + 1) mL_move [.ref 0, .int (nZ x1), .int (nZ x2), .int (nZ x3), .ref 344] σ (.inl (some (.int (nZ 0)))) (wJ σ1 344 0 r) := by
  refine Ev.ofH (c := 11) (code := cL_move) (mL := 6) (rt := (some .int)) (hs := [(0, 12, 15, 22), (0, 12, 19, 13)]) (l := [(0, .ref 0), (1, .int (nZ x1)), (2, .int (nZ x2)), (3, .int (nZ x3)), (4, .ref 344)]) rfl rfl rfl rfl (by decide) (by decide +kernel) rfl rfl ?_
  refine w_aload dL_move_0 (List.Mem.tail _ (List.Mem.tail _ (List.Mem.tail _ (List.Mem.tail _ (List.Mem.head _))))) ?_
  refine w_iconst (v := nZ 0) dL_move_2 (by decide) ?_
  refine w_aload_n dL_move_3 rfl (List.Mem.head _) ?_
  refine w_iload_n dL_move_4 rfl (List.Mem.tail _ (List.Mem.head _)) ?_
  refine w_iload_n dL_move_5 rfl (List.Mem.tail _ (List.Mem.tail _ (List.Mem.head _))) ?_
  refine w_iload_n dL_move_6 rfl (List.Mem.tail _ (List.Mem.tail _ (List.Mem.tail _ (List.Mem.head _)))) ?_
  refine w_callV dL_move_7 ml_11_56 ⟨ok_X9_move, vi_X9_move⟩ hs_X9_move (As := [.int (nZ x1), .int (nZ x2), .int (nZ x3)]) rfl rfl (gT hG rfl (lt_of rfl)) (Nat.le_of_ble_eq_true rfl) h ?_
  show wp (Ev sc d) 11 cL_move 6 (some .int) false [(0, 12, 15, 22), (0, 12, 19, 13)] sc _ 10 [(0, .ref 0), (1, .int (nZ x1)), (2, .int (nZ x2)), (3, .int (nZ x3)), (4, .ref 344)] [.int (nZ r), .int (nZ 0), .ref 344] σ1
  refine i_2l dL_move_10 rr ?_
  refine i_last (n := 1) dL_move_11 (gT hG1 rfl (lt_of rfl)) (gL hG1 rfl) (by decide) (by decide) (fun σ2 e2 => ?_)
  refine w_goto (tgt := 23) dL_move_12 rfl ?_
  refine w_iconst (v := nZ 0) dL_move_23 (by decide) ?_
  exact w_iret dL_move_24 rfl ⟨rfl, e2.symm⟩
set_option maxRecDepth 10000 in
theorem wr_move_0 {sc : Nat × (Nat → Int32)} {d : Nat} {σ σ1 : aH} {u u1 : Nat} {x1 : Int} {x2 : Int} {x3 : Int} (hG : G σ u) (h : Ev sc d mX9_move [.ref 0, .int (nZ x1), .int (nZ x2), .int (nZ x3)] σ (.inr 0) σ1) : Ev sc (d + 1) mL_move [.ref 0, .int (nZ x1), .int (nZ x2), .int (nZ x3), .ref 344] σ (.inl (some (.int (nZ 1)))) σ1 := by
  refine Ev.ofH (c := 11) (code := cL_move) (mL := 6) (rt := (some .int)) (hs := [(0, 12, 15, 22), (0, 12, 19, 13)]) (l := [(0, .ref 0), (1, .int (nZ x1)), (2, .int (nZ x2)), (3, .int (nZ x3)), (4, .ref 344)]) rfl rfl rfl rfl (by decide) (by decide +kernel) rfl rfl ?_
  refine w_aload dL_move_0 (List.Mem.tail _ (List.Mem.tail _ (List.Mem.tail _ (List.Mem.tail _ (List.Mem.head _))))) ?_
  refine w_iconst (v := nZ 0) dL_move_2 (by decide) ?_
  refine w_aload_n dL_move_3 rfl (List.Mem.head _) ?_
  refine w_iload_n dL_move_4 rfl (List.Mem.tail _ (List.Mem.head _)) ?_
  refine w_iload_n dL_move_5 rfl (List.Mem.tail _ (List.Mem.tail _ (List.Mem.head _))) ?_
  refine w_iload_n dL_move_6 rfl (List.Mem.tail _ (List.Mem.tail _ (List.Mem.tail _ (List.Mem.head _)))) ?_
  refine w_catchV (ex := 0) (k := 5) (tgt := 15) (len := 2) dL_move_7 mp_11_56 ⟨ok_X9_move, vi_X9_move⟩ hs_X9_move (As := [.int (nZ x1), .int (nZ x2), .int (nZ x3)]) rfl rfl (gT hG rfl (lt_of rfl)) (Nat.le_of_ble_eq_true rfl) h (⟨rfl, 0, 12, by decide, by decide, Or.inr (Or.inr ⟨_, _, rfl, Or.inl ⟨rfl, rfl⟩⟩)⟩) (Or.inl ⟨dL_move_15, rfl⟩) (by decide) ?_
  refine w_iconst (v := nZ 1) dL_move_17 (by decide) ?_
  exact w_iret dL_move_18 rfl ⟨rfl, rfl⟩
set_option maxRecDepth 10000 in
theorem wr_move_1 {sc : Nat × (Nat → Int32)} {d : Nat} {σ σ1 : aH} {u u1 : Nat} {x1 : Int} {x2 : Int} {x3 : Int} (hG : G σ u) (h : Ev sc d mX9_move [.ref 0, .int (nZ x1), .int (nZ x2), .int (nZ x3)] σ (.inr 1) σ1) : Ev sc (d + 1) mL_move [.ref 0, .int (nZ x1), .int (nZ x2), .int (nZ x3), .ref 344] σ (.inl (some (.int (nZ 2)))) σ1 := by
  refine Ev.ofH (c := 11) (code := cL_move) (mL := 6) (rt := (some .int)) (hs := [(0, 12, 15, 22), (0, 12, 19, 13)]) (l := [(0, .ref 0), (1, .int (nZ x1)), (2, .int (nZ x2)), (3, .int (nZ x3)), (4, .ref 344)]) rfl rfl rfl rfl (by decide) (by decide +kernel) rfl rfl ?_
  refine w_aload dL_move_0 (List.Mem.tail _ (List.Mem.tail _ (List.Mem.tail _ (List.Mem.tail _ (List.Mem.head _))))) ?_
  refine w_iconst (v := nZ 0) dL_move_2 (by decide) ?_
  refine w_aload_n dL_move_3 rfl (List.Mem.head _) ?_
  refine w_iload_n dL_move_4 rfl (List.Mem.tail _ (List.Mem.head _)) ?_
  refine w_iload_n dL_move_5 rfl (List.Mem.tail _ (List.Mem.tail _ (List.Mem.head _))) ?_
  refine w_iload_n dL_move_6 rfl (List.Mem.tail _ (List.Mem.tail _ (List.Mem.tail _ (List.Mem.head _)))) ?_
  refine w_catchV (ex := 1) (k := 5) (tgt := 19) (len := 2) dL_move_7 mp_11_56 ⟨ok_X9_move, vi_X9_move⟩ hs_X9_move (As := [.int (nZ x1), .int (nZ x2), .int (nZ x3)]) rfl rfl (gT hG rfl (lt_of rfl)) (Nat.le_of_ble_eq_true rfl) h (⟨rfl, 0, 12, by decide, by decide, Or.inr (Or.inr ⟨_, _, rfl, Or.inr ⟨rfl, rfl⟩⟩)⟩) (Or.inl ⟨dL_move_19, rfl⟩) (by decide) ?_
  refine w_iconst (v := nZ 2) dL_move_21 (by decide) ?_
  exact w_iret dL_move_22 rfl ⟨rfl, rfl⟩
theorem dL_tall_0 : decode cL_tall 0 = .ok (.aload_n 3, 1) := by decide +kernel
theorem dL_tall_1 : decode cL_tall 1 = .ok (.iconst 0, 1) := by decide +kernel
theorem dL_tall_2 : decode cL_tall 2 = .ok (.aload_n 0, 1) := by decide +kernel
theorem dL_tall_3 : decode cL_tall 3 = .ok (.iload_n 1, 1) := by decide +kernel
theorem dL_tall_4 : decode cL_tall 4 = .ok (.iload_n 2, 1) := by decide +kernel
theorem dL_tall_5 : decode cL_tall 5 = .ok (.invokevirtual 59, 3) := by decide +kernel
theorem dL_tall_8 : decode cL_tall 8 = .ok (.i2l, 1) := by decide +kernel
theorem dL_tall_9 : decode cL_tall 9 = .ok (.lastore, 1) := by decide +kernel
theorem dL_tall_10 : decode cL_tall 10 = .ok (.goto 11, 3) := by decide +kernel
theorem dL_tall_13 : decode cL_tall 13 = .ok (.astore 4, 2) := by decide +kernel
theorem dL_tall_15 : decode cL_tall 15 = .ok (.iconst 1, 1) := by decide +kernel
theorem dL_tall_16 : decode cL_tall 16 = .ok (.ireturn, 1) := by decide +kernel
theorem dL_tall_17 : decode cL_tall 17 = .ok (.astore 4, 2) := by decide +kernel
theorem dL_tall_19 : decode cL_tall 19 = .ok (.iconst 2, 1) := by decide +kernel
theorem dL_tall_20 : decode cL_tall 20 = .ok (.ireturn, 1) := by decide +kernel
theorem dL_tall_21 : decode cL_tall 21 = .ok (.iconst 0, 1) := by decide +kernel
theorem dL_tall_22 : decode cL_tall 22 = .ok (.ireturn, 1) := by decide +kernel
set_option maxRecDepth 10000 in
theorem wr_tall {sc : Nat × (Nat → Int32)} {d : Nat} {σ σ1 : aH} {u u1 : Nat} {x1 : Int} {x2 : Int} {r : Int} (hG : G σ u) (hG1 : G σ1 u1) (rr : inR r) (h : Ev sc d mX9_tall [.ref 0, .int (nZ x1), .int (nZ x2)] σ (.inl (some (.int (nZ r)))) σ1) : Ev sc (d + 1) mL_tall [.ref 0, .int (nZ x1), .int (nZ x2), .ref 344] σ (.inl (some (.int (nZ 0)))) (wJ σ1 344 0 r) := by
  refine Ev.ofH (c := 11) (code := cL_tall) (mL := 5) (rt := (some .int)) (hs := [(0, 10, 13, 22), (0, 10, 17, 13)]) (l := [(0, .ref 0), (1, .int (nZ x1)), (2, .int (nZ x2)), (3, .ref 344)]) rfl rfl rfl rfl (by decide) (by decide +kernel) rfl rfl ?_
  refine w_aload_n dL_tall_0 rfl (List.Mem.tail _ (List.Mem.tail _ (List.Mem.tail _ (List.Mem.head _)))) ?_
  refine w_iconst (v := nZ 0) dL_tall_1 (by decide) ?_
  refine w_aload_n dL_tall_2 rfl (List.Mem.head _) ?_
  refine w_iload_n dL_tall_3 rfl (List.Mem.tail _ (List.Mem.head _)) ?_
  refine w_iload_n dL_tall_4 rfl (List.Mem.tail _ (List.Mem.tail _ (List.Mem.head _))) ?_
  refine w_callV dL_tall_5 ml_11_59 ⟨ok_X9_tall, vi_X9_tall⟩ hs_X9_tall (As := [.int (nZ x1), .int (nZ x2)]) rfl rfl (gT hG rfl (lt_of rfl)) (Nat.le_of_ble_eq_true rfl) h ?_
  show wp (Ev sc d) 11 cL_tall 5 (some .int) false [(0, 10, 13, 22), (0, 10, 17, 13)] sc _ 8 [(0, .ref 0), (1, .int (nZ x1)), (2, .int (nZ x2)), (3, .ref 344)] [.int (nZ r), .int (nZ 0), .ref 344] σ1
  refine i_2l dL_tall_8 rr ?_
  refine i_last (n := 1) dL_tall_9 (gT hG1 rfl (lt_of rfl)) (gL hG1 rfl) (by decide) (by decide) (fun σ2 e2 => ?_)
  refine w_goto (tgt := 21) dL_tall_10 rfl ?_
  refine w_iconst (v := nZ 0) dL_tall_21 (by decide) ?_
  exact w_iret dL_tall_22 rfl ⟨rfl, e2.symm⟩
set_option maxRecDepth 10000 in
theorem wr_tall_0 {sc : Nat × (Nat → Int32)} {d : Nat} {σ σ1 : aH} {u u1 : Nat} {x1 : Int} {x2 : Int} (hG : G σ u) (h : Ev sc d mX9_tall [.ref 0, .int (nZ x1), .int (nZ x2)] σ (.inr 0) σ1) : Ev sc (d + 1) mL_tall [.ref 0, .int (nZ x1), .int (nZ x2), .ref 344] σ (.inl (some (.int (nZ 1)))) σ1 := by
  refine Ev.ofH (c := 11) (code := cL_tall) (mL := 5) (rt := (some .int)) (hs := [(0, 10, 13, 22), (0, 10, 17, 13)]) (l := [(0, .ref 0), (1, .int (nZ x1)), (2, .int (nZ x2)), (3, .ref 344)]) rfl rfl rfl rfl (by decide) (by decide +kernel) rfl rfl ?_
  refine w_aload_n dL_tall_0 rfl (List.Mem.tail _ (List.Mem.tail _ (List.Mem.tail _ (List.Mem.head _)))) ?_
  refine w_iconst (v := nZ 0) dL_tall_1 (by decide) ?_
  refine w_aload_n dL_tall_2 rfl (List.Mem.head _) ?_
  refine w_iload_n dL_tall_3 rfl (List.Mem.tail _ (List.Mem.head _)) ?_
  refine w_iload_n dL_tall_4 rfl (List.Mem.tail _ (List.Mem.tail _ (List.Mem.head _))) ?_
  refine w_catchV (ex := 0) (k := 4) (tgt := 13) (len := 2) dL_tall_5 mp_11_59 ⟨ok_X9_tall, vi_X9_tall⟩ hs_X9_tall (As := [.int (nZ x1), .int (nZ x2)]) rfl rfl (gT hG rfl (lt_of rfl)) (Nat.le_of_ble_eq_true rfl) h (⟨rfl, 0, 10, by decide, by decide, Or.inr (Or.inr ⟨_, _, rfl, Or.inl ⟨rfl, rfl⟩⟩)⟩) (Or.inl ⟨dL_tall_13, rfl⟩) (by decide) ?_
  refine w_iconst (v := nZ 1) dL_tall_15 (by decide) ?_
  exact w_iret dL_tall_16 rfl ⟨rfl, rfl⟩
set_option maxRecDepth 10000 in
theorem wr_tall_1 {sc : Nat × (Nat → Int32)} {d : Nat} {σ σ1 : aH} {u u1 : Nat} {x1 : Int} {x2 : Int} (hG : G σ u) (h : Ev sc d mX9_tall [.ref 0, .int (nZ x1), .int (nZ x2)] σ (.inr 1) σ1) : Ev sc (d + 1) mL_tall [.ref 0, .int (nZ x1), .int (nZ x2), .ref 344] σ (.inl (some (.int (nZ 2)))) σ1 := by
  refine Ev.ofH (c := 11) (code := cL_tall) (mL := 5) (rt := (some .int)) (hs := [(0, 10, 13, 22), (0, 10, 17, 13)]) (l := [(0, .ref 0), (1, .int (nZ x1)), (2, .int (nZ x2)), (3, .ref 344)]) rfl rfl rfl rfl (by decide) (by decide +kernel) rfl rfl ?_
  refine w_aload_n dL_tall_0 rfl (List.Mem.tail _ (List.Mem.tail _ (List.Mem.tail _ (List.Mem.head _)))) ?_
  refine w_iconst (v := nZ 0) dL_tall_1 (by decide) ?_
  refine w_aload_n dL_tall_2 rfl (List.Mem.head _) ?_
  refine w_iload_n dL_tall_3 rfl (List.Mem.tail _ (List.Mem.head _)) ?_
  refine w_iload_n dL_tall_4 rfl (List.Mem.tail _ (List.Mem.tail _ (List.Mem.head _))) ?_
  refine w_catchV (ex := 1) (k := 4) (tgt := 17) (len := 2) dL_tall_5 mp_11_59 ⟨ok_X9_tall, vi_X9_tall⟩ hs_X9_tall (As := [.int (nZ x1), .int (nZ x2)]) rfl rfl (gT hG rfl (lt_of rfl)) (Nat.le_of_ble_eq_true rfl) h (⟨rfl, 0, 10, by decide, by decide, Or.inr (Or.inr ⟨_, _, rfl, Or.inr ⟨rfl, rfl⟩⟩)⟩) (Or.inl ⟨dL_tall_17, rfl⟩) (by decide) ?_
  refine w_iconst (v := nZ 2) dL_tall_19 (by decide) ?_
  exact w_iret dL_tall_20 rfl ⟨rfl, rfl⟩
theorem dL_set_0 : decode cL_set 0 = .ok (.aload_n 3, 1) := by decide +kernel
theorem dL_set_1 : decode cL_set 1 = .ok (.iconst 0, 1) := by decide +kernel
theorem dL_set_2 : decode cL_set 2 = .ok (.aload_n 0, 1) := by decide +kernel
theorem dL_set_3 : decode cL_set 3 = .ok (.iload_n 1, 1) := by decide +kernel
theorem dL_set_4 : decode cL_set 4 = .ok (.iload_n 2, 1) := by decide +kernel
theorem dL_set_5 : decode cL_set 5 = .ok (.invokevirtual 62, 3) := by decide +kernel
theorem dL_set_8 : decode cL_set 8 = .ok (.i2l, 1) := by decide +kernel
theorem dL_set_9 : decode cL_set 9 = .ok (.lastore, 1) := by decide +kernel
theorem dL_set_10 : decode cL_set 10 = .ok (.goto 7, 3) := by decide +kernel
theorem dL_set_13 : decode cL_set 13 = .ok (.astore 4, 2) := by decide +kernel
theorem dL_set_15 : decode cL_set 15 = .ok (.iconst 1, 1) := by decide +kernel
theorem dL_set_16 : decode cL_set 16 = .ok (.ireturn, 1) := by decide +kernel
theorem dL_set_17 : decode cL_set 17 = .ok (.iconst 0, 1) := by decide +kernel
theorem dL_set_18 : decode cL_set 18 = .ok (.ireturn, 1) := by decide +kernel
set_option maxRecDepth 10000 in
theorem wr_set {sc : Nat × (Nat → Int32)} {d : Nat} {σ σ1 : aH} {u u1 : Nat} {x1 : Int} {x2 : Int} {r : Int} (hG : G σ u) (hG1 : G σ1 u1) (rr : inR r) (h : Ev sc d mX9_set [.ref 0, .int (nZ x1), .int (nZ x2)] σ (.inl (some (.int (nZ r)))) σ1) : Ev sc (d + 1) mL_set [.ref 0, .int (nZ x1), .int (nZ x2), .ref 344] σ (.inl (some (.int (nZ 0)))) (wJ σ1 344 0 r) := by
  refine Ev.ofH (c := 11) (code := cL_set) (mL := 5) (rt := (some .int)) (hs := [(0, 10, 13, 13)]) (l := [(0, .ref 0), (1, .int (nZ x1)), (2, .int (nZ x2)), (3, .ref 344)]) rfl rfl rfl rfl (by decide) (by decide +kernel) rfl rfl ?_
  refine w_aload_n dL_set_0 rfl (List.Mem.tail _ (List.Mem.tail _ (List.Mem.tail _ (List.Mem.head _)))) ?_
  refine w_iconst (v := nZ 0) dL_set_1 (by decide) ?_
  refine w_aload_n dL_set_2 rfl (List.Mem.head _) ?_
  refine w_iload_n dL_set_3 rfl (List.Mem.tail _ (List.Mem.head _)) ?_
  refine w_iload_n dL_set_4 rfl (List.Mem.tail _ (List.Mem.tail _ (List.Mem.head _))) ?_
  refine w_callV dL_set_5 ml_11_62 ⟨ok_X9_set, vi_X9_set⟩ hs_X9_set (As := [.int (nZ x1), .int (nZ x2)]) rfl rfl (gT hG rfl (lt_of rfl)) (Nat.le_of_ble_eq_true rfl) h ?_
  show wp (Ev sc d) 11 cL_set 5 (some .int) false [(0, 10, 13, 13)] sc _ 8 [(0, .ref 0), (1, .int (nZ x1)), (2, .int (nZ x2)), (3, .ref 344)] [.int (nZ r), .int (nZ 0), .ref 344] σ1
  refine i_2l dL_set_8 rr ?_
  refine i_last (n := 1) dL_set_9 (gT hG1 rfl (lt_of rfl)) (gL hG1 rfl) (by decide) (by decide) (fun σ2 e2 => ?_)
  refine w_goto (tgt := 17) dL_set_10 rfl ?_
  refine w_iconst (v := nZ 0) dL_set_17 (by decide) ?_
  exact w_iret dL_set_18 rfl ⟨rfl, e2.symm⟩
set_option maxRecDepth 10000 in
theorem wr_set_1 {sc : Nat × (Nat → Int32)} {d : Nat} {σ σ1 : aH} {u u1 : Nat} {x1 : Int} {x2 : Int} (hG : G σ u) (h : Ev sc d mX9_set [.ref 0, .int (nZ x1), .int (nZ x2)] σ (.inr 1) σ1) : Ev sc (d + 1) mL_set [.ref 0, .int (nZ x1), .int (nZ x2), .ref 344] σ (.inl (some (.int (nZ 1)))) σ1 := by
  refine Ev.ofH (c := 11) (code := cL_set) (mL := 5) (rt := (some .int)) (hs := [(0, 10, 13, 13)]) (l := [(0, .ref 0), (1, .int (nZ x1)), (2, .int (nZ x2)), (3, .ref 344)]) rfl rfl rfl rfl (by decide) (by decide +kernel) rfl rfl ?_
  refine w_aload_n dL_set_0 rfl (List.Mem.tail _ (List.Mem.tail _ (List.Mem.tail _ (List.Mem.head _)))) ?_
  refine w_iconst (v := nZ 0) dL_set_1 (by decide) ?_
  refine w_aload_n dL_set_2 rfl (List.Mem.head _) ?_
  refine w_iload_n dL_set_3 rfl (List.Mem.tail _ (List.Mem.head _)) ?_
  refine w_iload_n dL_set_4 rfl (List.Mem.tail _ (List.Mem.tail _ (List.Mem.head _))) ?_
  refine w_catchV (ex := 1) (k := 4) (tgt := 13) (len := 2) dL_set_5 mp_11_62 ⟨ok_X9_set, vi_X9_set⟩ hs_X9_set (As := [.int (nZ x1), .int (nZ x2)]) rfl rfl (gT hG rfl (lt_of rfl)) (Nat.le_of_ble_eq_true rfl) h (⟨rfl, 0, 10, by decide, by decide, Or.inr (Or.inl ⟨rfl, rfl⟩)⟩) (Or.inl ⟨dL_set_13, rfl⟩) (by decide) ?_
  refine w_iconst (v := nZ 1) dL_set_15 (by decide) ?_
  exact w_iret dL_set_16 rfl ⟨rfl, rfl⟩
theorem dL_pole_0 : decode cL_pole 0 = .ok (.aload_n 3, 1) := by decide +kernel
theorem dL_pole_1 : decode cL_pole 1 = .ok (.iconst 0, 1) := by decide +kernel
theorem dL_pole_2 : decode cL_pole 2 = .ok (.aload_n 0, 1) := by decide +kernel
theorem dL_pole_3 : decode cL_pole 3 = .ok (.iload_n 1, 1) := by decide +kernel
theorem dL_pole_4 : decode cL_pole 4 = .ok (.iload_n 2, 1) := by decide +kernel
theorem dL_pole_5 : decode cL_pole 5 = .ok (.invokevirtual 65, 3) := by decide +kernel
theorem dL_pole_8 : decode cL_pole 8 = .ok (.i2l, 1) := by decide +kernel
theorem dL_pole_9 : decode cL_pole 9 = .ok (.lastore, 1) := by decide +kernel
theorem dL_pole_10 : decode cL_pole 10 = .ok (.goto 7, 3) := by decide +kernel
theorem dL_pole_13 : decode cL_pole 13 = .ok (.astore 4, 2) := by decide +kernel
theorem dL_pole_15 : decode cL_pole 15 = .ok (.iconst 1, 1) := by decide +kernel
theorem dL_pole_16 : decode cL_pole 16 = .ok (.ireturn, 1) := by decide +kernel
theorem dL_pole_17 : decode cL_pole 17 = .ok (.iconst 0, 1) := by decide +kernel
theorem dL_pole_18 : decode cL_pole 18 = .ok (.ireturn, 1) := by decide +kernel
set_option maxRecDepth 10000 in
theorem wr_pole {sc : Nat × (Nat → Int32)} {d : Nat} {σ σ1 : aH} {u u1 : Nat} {x1 : Int} {x2 : Int} {r : Int} (hG : G σ u) (hG1 : G σ1 u1) (rr : inR r) (h : Ev sc d mX9_pole [.ref 0, .int (nZ x1), .int (nZ x2)] σ (.inl (some (.int (nZ r)))) σ1) : Ev sc (d + 1) mL_pole [.ref 0, .int (nZ x1), .int (nZ x2), .ref 344] σ (.inl (some (.int (nZ 0)))) (wJ σ1 344 0 r) := by
  refine Ev.ofH (c := 11) (code := cL_pole) (mL := 5) (rt := (some .int)) (hs := [(0, 10, 13, 13)]) (l := [(0, .ref 0), (1, .int (nZ x1)), (2, .int (nZ x2)), (3, .ref 344)]) rfl rfl rfl rfl (by decide) (by decide +kernel) rfl rfl ?_
  refine w_aload_n dL_pole_0 rfl (List.Mem.tail _ (List.Mem.tail _ (List.Mem.tail _ (List.Mem.head _)))) ?_
  refine w_iconst (v := nZ 0) dL_pole_1 (by decide) ?_
  refine w_aload_n dL_pole_2 rfl (List.Mem.head _) ?_
  refine w_iload_n dL_pole_3 rfl (List.Mem.tail _ (List.Mem.head _)) ?_
  refine w_iload_n dL_pole_4 rfl (List.Mem.tail _ (List.Mem.tail _ (List.Mem.head _))) ?_
  refine w_callV dL_pole_5 ml_11_65 ⟨ok_X9_pole, vi_X9_pole⟩ hs_X9_pole (As := [.int (nZ x1), .int (nZ x2)]) rfl rfl (gT hG rfl (lt_of rfl)) (Nat.le_of_ble_eq_true rfl) h ?_
  show wp (Ev sc d) 11 cL_pole 5 (some .int) false [(0, 10, 13, 13)] sc _ 8 [(0, .ref 0), (1, .int (nZ x1)), (2, .int (nZ x2)), (3, .ref 344)] [.int (nZ r), .int (nZ 0), .ref 344] σ1
  refine i_2l dL_pole_8 rr ?_
  refine i_last (n := 1) dL_pole_9 (gT hG1 rfl (lt_of rfl)) (gL hG1 rfl) (by decide) (by decide) (fun σ2 e2 => ?_)
  refine w_goto (tgt := 17) dL_pole_10 rfl ?_
  refine w_iconst (v := nZ 0) dL_pole_17 (by decide) ?_
  exact w_iret dL_pole_18 rfl ⟨rfl, e2.symm⟩
set_option maxRecDepth 10000 in
theorem wr_pole_1 {sc : Nat × (Nat → Int32)} {d : Nat} {σ σ1 : aH} {u u1 : Nat} {x1 : Int} {x2 : Int} (hG : G σ u) (h : Ev sc d mX9_pole [.ref 0, .int (nZ x1), .int (nZ x2)] σ (.inr 1) σ1) : Ev sc (d + 1) mL_pole [.ref 0, .int (nZ x1), .int (nZ x2), .ref 344] σ (.inl (some (.int (nZ 1)))) σ1 := by
  refine Ev.ofH (c := 11) (code := cL_pole) (mL := 5) (rt := (some .int)) (hs := [(0, 10, 13, 13)]) (l := [(0, .ref 0), (1, .int (nZ x1)), (2, .int (nZ x2)), (3, .ref 344)]) rfl rfl rfl rfl (by decide) (by decide +kernel) rfl rfl ?_
  refine w_aload_n dL_pole_0 rfl (List.Mem.tail _ (List.Mem.tail _ (List.Mem.tail _ (List.Mem.head _)))) ?_
  refine w_iconst (v := nZ 0) dL_pole_1 (by decide) ?_
  refine w_aload_n dL_pole_2 rfl (List.Mem.head _) ?_
  refine w_iload_n dL_pole_3 rfl (List.Mem.tail _ (List.Mem.head _)) ?_
  refine w_iload_n dL_pole_4 rfl (List.Mem.tail _ (List.Mem.tail _ (List.Mem.head _))) ?_
  refine w_catchV (ex := 1) (k := 4) (tgt := 13) (len := 2) dL_pole_5 mp_11_65 ⟨ok_X9_pole, vi_X9_pole⟩ hs_X9_pole (As := [.int (nZ x1), .int (nZ x2)]) rfl rfl (gT hG rfl (lt_of rfl)) (Nat.le_of_ble_eq_true rfl) h (⟨rfl, 0, 10, by decide, by decide, Or.inr (Or.inl ⟨rfl, rfl⟩)⟩) (Or.inl ⟨dL_pole_13, rfl⟩) (by decide) ?_
  refine w_iconst (v := nZ 1) dL_pole_15 (by decide) ?_
  exact w_iret dL_pole_16 rfl ⟨rfl, rfl⟩
theorem dL_wish_0 : decode cL_wish 0 = .ok (.aload_n 2, 1) := by decide +kernel
theorem dL_wish_1 : decode cL_wish 1 = .ok (.iconst 0, 1) := by decide +kernel
theorem dL_wish_2 : decode cL_wish 2 = .ok (.aload_n 0, 1) := by decide +kernel
theorem dL_wish_3 : decode cL_wish 3 = .ok (.iload_n 1, 1) := by decide +kernel
theorem dL_wish_4 : decode cL_wish 4 = .ok (.invokevirtual 68, 3) := by decide +kernel
theorem dL_wish_7 : decode cL_wish 7 = .ok (.i2l, 1) := by decide +kernel
theorem dL_wish_8 : decode cL_wish 8 = .ok (.lastore, 1) := by decide +kernel
theorem dL_wish_9 : decode cL_wish 9 = .ok (.goto 6, 3) := by decide +kernel
theorem dL_wish_12 : decode cL_wish 12 = .ok (.astore_n 3, 1) := by decide +kernel
theorem dL_wish_13 : decode cL_wish 13 = .ok (.iconst 1, 1) := by decide +kernel
theorem dL_wish_14 : decode cL_wish 14 = .ok (.ireturn, 1) := by decide +kernel
theorem dL_wish_15 : decode cL_wish 15 = .ok (.iconst 0, 1) := by decide +kernel
theorem dL_wish_16 : decode cL_wish 16 = .ok (.ireturn, 1) := by decide +kernel
set_option maxRecDepth 10000 in
theorem wr_wish {sc : Nat × (Nat → Int32)} {d : Nat} {σ σ1 : aH} {u u1 : Nat} {x1 : Int} {r : Int} (hG : G σ u) (hG1 : G σ1 u1) (rr : inR r) (h : Ev sc d mX9_wish [.ref 0, .int (nZ x1)] σ (.inl (some (.int (nZ r)))) σ1) : Ev sc (d + 1) mL_wish [.ref 0, .int (nZ x1), .ref 344] σ (.inl (some (.int (nZ 0)))) (wJ σ1 344 0 r) := by
  refine Ev.ofH (c := 11) (code := cL_wish) (mL := 4) (rt := (some .int)) (hs := [(0, 9, 12, 22)]) (l := [(0, .ref 0), (1, .int (nZ x1)), (2, .ref 344)]) rfl rfl rfl rfl (by decide) (by decide +kernel) rfl rfl ?_
  refine w_aload_n dL_wish_0 rfl (List.Mem.tail _ (List.Mem.tail _ (List.Mem.head _))) ?_
  refine w_iconst (v := nZ 0) dL_wish_1 (by decide) ?_
  refine w_aload_n dL_wish_2 rfl (List.Mem.head _) ?_
  refine w_iload_n dL_wish_3 rfl (List.Mem.tail _ (List.Mem.head _)) ?_
  refine w_callV dL_wish_4 ml_11_68 ⟨ok_X9_wish, vi_X9_wish⟩ hs_X9_wish (As := [.int (nZ x1)]) rfl rfl (gT hG rfl (lt_of rfl)) (Nat.le_of_ble_eq_true rfl) h ?_
  show wp (Ev sc d) 11 cL_wish 4 (some .int) false [(0, 9, 12, 22)] sc _ 7 [(0, .ref 0), (1, .int (nZ x1)), (2, .ref 344)] [.int (nZ r), .int (nZ 0), .ref 344] σ1
  refine i_2l dL_wish_7 rr ?_
  refine i_last (n := 1) dL_wish_8 (gT hG1 rfl (lt_of rfl)) (gL hG1 rfl) (by decide) (by decide) (fun σ2 e2 => ?_)
  refine w_goto (tgt := 15) dL_wish_9 rfl ?_
  refine w_iconst (v := nZ 0) dL_wish_15 (by decide) ?_
  exact w_iret dL_wish_16 rfl ⟨rfl, e2.symm⟩
set_option maxRecDepth 10000 in
theorem wr_wish_0 {sc : Nat × (Nat → Int32)} {d : Nat} {σ σ1 : aH} {u u1 : Nat} {x1 : Int} (hG : G σ u) (h : Ev sc d mX9_wish [.ref 0, .int (nZ x1)] σ (.inr 0) σ1) : Ev sc (d + 1) mL_wish [.ref 0, .int (nZ x1), .ref 344] σ (.inl (some (.int (nZ 1)))) σ1 := by
  refine Ev.ofH (c := 11) (code := cL_wish) (mL := 4) (rt := (some .int)) (hs := [(0, 9, 12, 22)]) (l := [(0, .ref 0), (1, .int (nZ x1)), (2, .ref 344)]) rfl rfl rfl rfl (by decide) (by decide +kernel) rfl rfl ?_
  refine w_aload_n dL_wish_0 rfl (List.Mem.tail _ (List.Mem.tail _ (List.Mem.head _))) ?_
  refine w_iconst (v := nZ 0) dL_wish_1 (by decide) ?_
  refine w_aload_n dL_wish_2 rfl (List.Mem.head _) ?_
  refine w_iload_n dL_wish_3 rfl (List.Mem.tail _ (List.Mem.head _)) ?_
  refine w_catchV (ex := 0) (k := 3) (tgt := 12) (len := 1) dL_wish_4 mp_11_68 ⟨ok_X9_wish, vi_X9_wish⟩ hs_X9_wish (As := [.int (nZ x1)]) rfl rfl (gT hG rfl (lt_of rfl)) (Nat.le_of_ble_eq_true rfl) h (⟨rfl, 0, 9, by decide, by decide, Or.inl ⟨rfl, rfl⟩⟩) (Or.inr ⟨3, rfl, dL_wish_12, rfl⟩) (by decide) ?_
  refine w_iconst (v := nZ 1) dL_wish_13 (by decide) ?_
  exact w_iret dL_wish_14 rfl ⟨rfl, rfl⟩
theorem dL_cold_0 : decode cL_cold 0 = .ok (.aload_n 3, 1) := by decide +kernel
theorem dL_cold_1 : decode cL_cold 1 = .ok (.iconst 0, 1) := by decide +kernel
theorem dL_cold_2 : decode cL_cold 2 = .ok (.aload_n 0, 1) := by decide +kernel
theorem dL_cold_3 : decode cL_cold 3 = .ok (.iload_n 1, 1) := by decide +kernel
theorem dL_cold_4 : decode cL_cold 4 = .ok (.iload_n 2, 1) := by decide +kernel
theorem dL_cold_5 : decode cL_cold 5 = .ok (.invokevirtual 71, 3) := by decide +kernel
theorem dL_cold_8 : decode cL_cold 8 = .ok (.i2l, 1) := by decide +kernel
theorem dL_cold_9 : decode cL_cold 9 = .ok (.lastore, 1) := by decide +kernel
theorem dL_cold_10 : decode cL_cold 10 = .ok (.goto 11, 3) := by decide +kernel
theorem dL_cold_13 : decode cL_cold 13 = .ok (.astore 4, 2) := by decide +kernel
theorem dL_cold_15 : decode cL_cold 15 = .ok (.iconst 1, 1) := by decide +kernel
theorem dL_cold_16 : decode cL_cold 16 = .ok (.ireturn, 1) := by decide +kernel
theorem dL_cold_17 : decode cL_cold 17 = .ok (.astore 4, 2) := by decide +kernel
theorem dL_cold_19 : decode cL_cold 19 = .ok (.iconst 2, 1) := by decide +kernel
theorem dL_cold_20 : decode cL_cold 20 = .ok (.ireturn, 1) := by decide +kernel
theorem dL_cold_21 : decode cL_cold 21 = .ok (.iconst 0, 1) := by decide +kernel
theorem dL_cold_22 : decode cL_cold 22 = .ok (.ireturn, 1) := by decide +kernel
set_option maxRecDepth 10000 in
theorem wr_cold {sc : Nat × (Nat → Int32)} {d : Nat} {σ σ1 : aH} {u u1 : Nat} {x1 : Int} {x2 : Int} {r : Int} (hG : G σ u) (hG1 : G σ1 u1) (rr : inR r) (h : Ev sc d mX9_cold [.ref 0, .int (nZ x1), .int (nZ x2)] σ (.inl (some (.int (nZ r)))) σ1) : Ev sc (d + 1) mL_cold [.ref 0, .int (nZ x1), .int (nZ x2), .ref 344] σ (.inl (some (.int (nZ 0)))) (wJ σ1 344 0 r) := by
  refine Ev.ofH (c := 11) (code := cL_cold) (mL := 5) (rt := (some .int)) (hs := [(0, 10, 13, 22), (0, 10, 17, 13)]) (l := [(0, .ref 0), (1, .int (nZ x1)), (2, .int (nZ x2)), (3, .ref 344)]) rfl rfl rfl rfl (by decide) (by decide +kernel) rfl rfl ?_
  refine w_aload_n dL_cold_0 rfl (List.Mem.tail _ (List.Mem.tail _ (List.Mem.tail _ (List.Mem.head _)))) ?_
  refine w_iconst (v := nZ 0) dL_cold_1 (by decide) ?_
  refine w_aload_n dL_cold_2 rfl (List.Mem.head _) ?_
  refine w_iload_n dL_cold_3 rfl (List.Mem.tail _ (List.Mem.head _)) ?_
  refine w_iload_n dL_cold_4 rfl (List.Mem.tail _ (List.Mem.tail _ (List.Mem.head _))) ?_
  refine w_callV dL_cold_5 ml_11_71 ⟨ok_X9_cold, vi_X9_cold⟩ hs_X9_cold (As := [.int (nZ x1), .int (nZ x2)]) rfl rfl (gT hG rfl (lt_of rfl)) (Nat.le_of_ble_eq_true rfl) h ?_
  show wp (Ev sc d) 11 cL_cold 5 (some .int) false [(0, 10, 13, 22), (0, 10, 17, 13)] sc _ 8 [(0, .ref 0), (1, .int (nZ x1)), (2, .int (nZ x2)), (3, .ref 344)] [.int (nZ r), .int (nZ 0), .ref 344] σ1
  refine i_2l dL_cold_8 rr ?_
  refine i_last (n := 1) dL_cold_9 (gT hG1 rfl (lt_of rfl)) (gL hG1 rfl) (by decide) (by decide) (fun σ2 e2 => ?_)
  refine w_goto (tgt := 21) dL_cold_10 rfl ?_
  refine w_iconst (v := nZ 0) dL_cold_21 (by decide) ?_
  exact w_iret dL_cold_22 rfl ⟨rfl, e2.symm⟩
set_option maxRecDepth 10000 in
theorem wr_cold_0 {sc : Nat × (Nat → Int32)} {d : Nat} {σ σ1 : aH} {u u1 : Nat} {x1 : Int} {x2 : Int} (hG : G σ u) (h : Ev sc d mX9_cold [.ref 0, .int (nZ x1), .int (nZ x2)] σ (.inr 0) σ1) : Ev sc (d + 1) mL_cold [.ref 0, .int (nZ x1), .int (nZ x2), .ref 344] σ (.inl (some (.int (nZ 1)))) σ1 := by
  refine Ev.ofH (c := 11) (code := cL_cold) (mL := 5) (rt := (some .int)) (hs := [(0, 10, 13, 22), (0, 10, 17, 13)]) (l := [(0, .ref 0), (1, .int (nZ x1)), (2, .int (nZ x2)), (3, .ref 344)]) rfl rfl rfl rfl (by decide) (by decide +kernel) rfl rfl ?_
  refine w_aload_n dL_cold_0 rfl (List.Mem.tail _ (List.Mem.tail _ (List.Mem.tail _ (List.Mem.head _)))) ?_
  refine w_iconst (v := nZ 0) dL_cold_1 (by decide) ?_
  refine w_aload_n dL_cold_2 rfl (List.Mem.head _) ?_
  refine w_iload_n dL_cold_3 rfl (List.Mem.tail _ (List.Mem.head _)) ?_
  refine w_iload_n dL_cold_4 rfl (List.Mem.tail _ (List.Mem.tail _ (List.Mem.head _))) ?_
  refine w_catchV (ex := 0) (k := 4) (tgt := 13) (len := 2) dL_cold_5 mp_11_71 ⟨ok_X9_cold, vi_X9_cold⟩ hs_X9_cold (As := [.int (nZ x1), .int (nZ x2)]) rfl rfl (gT hG rfl (lt_of rfl)) (Nat.le_of_ble_eq_true rfl) h (⟨rfl, 0, 10, by decide, by decide, Or.inr (Or.inr ⟨_, _, rfl, Or.inl ⟨rfl, rfl⟩⟩)⟩) (Or.inl ⟨dL_cold_13, rfl⟩) (by decide) ?_
  refine w_iconst (v := nZ 1) dL_cold_15 (by decide) ?_
  exact w_iret dL_cold_16 rfl ⟨rfl, rfl⟩
set_option maxRecDepth 10000 in
theorem wr_cold_1 {sc : Nat × (Nat → Int32)} {d : Nat} {σ σ1 : aH} {u u1 : Nat} {x1 : Int} {x2 : Int} (hG : G σ u) (h : Ev sc d mX9_cold [.ref 0, .int (nZ x1), .int (nZ x2)] σ (.inr 1) σ1) : Ev sc (d + 1) mL_cold [.ref 0, .int (nZ x1), .int (nZ x2), .ref 344] σ (.inl (some (.int (nZ 2)))) σ1 := by
  refine Ev.ofH (c := 11) (code := cL_cold) (mL := 5) (rt := (some .int)) (hs := [(0, 10, 13, 22), (0, 10, 17, 13)]) (l := [(0, .ref 0), (1, .int (nZ x1)), (2, .int (nZ x2)), (3, .ref 344)]) rfl rfl rfl rfl (by decide) (by decide +kernel) rfl rfl ?_
  refine w_aload_n dL_cold_0 rfl (List.Mem.tail _ (List.Mem.tail _ (List.Mem.tail _ (List.Mem.head _)))) ?_
  refine w_iconst (v := nZ 0) dL_cold_1 (by decide) ?_
  refine w_aload_n dL_cold_2 rfl (List.Mem.head _) ?_
  refine w_iload_n dL_cold_3 rfl (List.Mem.tail _ (List.Mem.head _)) ?_
  refine w_iload_n dL_cold_4 rfl (List.Mem.tail _ (List.Mem.tail _ (List.Mem.head _))) ?_
  refine w_catchV (ex := 1) (k := 4) (tgt := 17) (len := 2) dL_cold_5 mp_11_71 ⟨ok_X9_cold, vi_X9_cold⟩ hs_X9_cold (As := [.int (nZ x1), .int (nZ x2)]) rfl rfl (gT hG rfl (lt_of rfl)) (Nat.le_of_ble_eq_true rfl) h (⟨rfl, 0, 10, by decide, by decide, Or.inr (Or.inr ⟨_, _, rfl, Or.inr ⟨rfl, rfl⟩⟩)⟩) (Or.inl ⟨dL_cold_17, rfl⟩) (by decide) ?_
  refine w_iconst (v := nZ 2) dL_cold_19 (by decide) ?_
  exact w_iret dL_cold_20 rfl ⟨rfl, rfl⟩
theorem dL_what_0 : decode cL_what 0 = .ok (.aload_n 2, 1) := by decide +kernel
theorem dL_what_1 : decode cL_what 1 = .ok (.iconst 0, 1) := by decide +kernel
theorem dL_what_2 : decode cL_what 2 = .ok (.aload_n 0, 1) := by decide +kernel
theorem dL_what_3 : decode cL_what 3 = .ok (.iload_n 1, 1) := by decide +kernel
theorem dL_what_4 : decode cL_what 4 = .ok (.invokevirtual 74, 3) := by decide +kernel
theorem dL_what_7 : decode cL_what 7 = .ok (.i2l, 1) := by decide +kernel
theorem dL_what_8 : decode cL_what 8 = .ok (.lastore, 1) := by decide +kernel
theorem dL_what_9 : decode cL_what 9 = .ok (.goto 6, 3) := by decide +kernel
theorem dL_what_12 : decode cL_what 12 = .ok (.astore_n 3, 1) := by decide +kernel
theorem dL_what_13 : decode cL_what 13 = .ok (.iconst 1, 1) := by decide +kernel
theorem dL_what_14 : decode cL_what 14 = .ok (.ireturn, 1) := by decide +kernel
theorem dL_what_15 : decode cL_what 15 = .ok (.iconst 0, 1) := by decide +kernel
theorem dL_what_16 : decode cL_what 16 = .ok (.ireturn, 1) := by decide +kernel
set_option maxRecDepth 10000 in
theorem wr_what {sc : Nat × (Nat → Int32)} {d : Nat} {σ σ1 : aH} {u u1 : Nat} {x1 : Int} {r : Int} (hG : G σ u) (hG1 : G σ1 u1) (rr : inR r) (h : Ev sc d mX9_what [.ref 0, .int (nZ x1)] σ (.inl (some (.int (nZ r)))) σ1) : Ev sc (d + 1) mL_what [.ref 0, .int (nZ x1), .ref 344] σ (.inl (some (.int (nZ 0)))) (wJ σ1 344 0 r) := by
  refine Ev.ofH (c := 11) (code := cL_what) (mL := 4) (rt := (some .int)) (hs := [(0, 9, 12, 13)]) (l := [(0, .ref 0), (1, .int (nZ x1)), (2, .ref 344)]) rfl rfl rfl rfl (by decide) (by decide +kernel) rfl rfl ?_
  refine w_aload_n dL_what_0 rfl (List.Mem.tail _ (List.Mem.tail _ (List.Mem.head _))) ?_
  refine w_iconst (v := nZ 0) dL_what_1 (by decide) ?_
  refine w_aload_n dL_what_2 rfl (List.Mem.head _) ?_
  refine w_iload_n dL_what_3 rfl (List.Mem.tail _ (List.Mem.head _)) ?_
  refine w_callV dL_what_4 ml_11_74 ⟨ok_X9_what, vi_X9_what⟩ hs_X9_what (As := [.int (nZ x1)]) rfl rfl (gT hG rfl (lt_of rfl)) (Nat.le_of_ble_eq_true rfl) h ?_
  show wp (Ev sc d) 11 cL_what 4 (some .int) false [(0, 9, 12, 13)] sc _ 7 [(0, .ref 0), (1, .int (nZ x1)), (2, .ref 344)] [.int (nZ r), .int (nZ 0), .ref 344] σ1
  refine i_2l dL_what_7 rr ?_
  refine i_last (n := 1) dL_what_8 (gT hG1 rfl (lt_of rfl)) (gL hG1 rfl) (by decide) (by decide) (fun σ2 e2 => ?_)
  refine w_goto (tgt := 15) dL_what_9 rfl ?_
  refine w_iconst (v := nZ 0) dL_what_15 (by decide) ?_
  exact w_iret dL_what_16 rfl ⟨rfl, e2.symm⟩
set_option maxRecDepth 10000 in
theorem wr_what_1 {sc : Nat × (Nat → Int32)} {d : Nat} {σ σ1 : aH} {u u1 : Nat} {x1 : Int} (hG : G σ u) (h : Ev sc d mX9_what [.ref 0, .int (nZ x1)] σ (.inr 1) σ1) : Ev sc (d + 1) mL_what [.ref 0, .int (nZ x1), .ref 344] σ (.inl (some (.int (nZ 1)))) σ1 := by
  refine Ev.ofH (c := 11) (code := cL_what) (mL := 4) (rt := (some .int)) (hs := [(0, 9, 12, 13)]) (l := [(0, .ref 0), (1, .int (nZ x1)), (2, .ref 344)]) rfl rfl rfl rfl (by decide) (by decide +kernel) rfl rfl ?_
  refine w_aload_n dL_what_0 rfl (List.Mem.tail _ (List.Mem.tail _ (List.Mem.head _))) ?_
  refine w_iconst (v := nZ 0) dL_what_1 (by decide) ?_
  refine w_aload_n dL_what_2 rfl (List.Mem.head _) ?_
  refine w_iload_n dL_what_3 rfl (List.Mem.tail _ (List.Mem.head _)) ?_
  refine w_catchV (ex := 1) (k := 3) (tgt := 12) (len := 1) dL_what_4 mp_11_74 ⟨ok_X9_what, vi_X9_what⟩ hs_X9_what (As := [.int (nZ x1)]) rfl rfl (gT hG rfl (lt_of rfl)) (Nat.le_of_ble_eq_true rfl) h (⟨rfl, 0, 9, by decide, by decide, Or.inr (Or.inl ⟨rfl, rfl⟩)⟩) (Or.inr ⟨3, rfl, dL_what_12, rfl⟩) (by decide) ?_
  refine w_iconst (v := nZ 1) dL_what_13 (by decide) ?_
  exact w_iret dL_what_14 rfl ⟨rfl, rfl⟩
theorem dL_days_0 : decode cL_days 0 = .ok (.aload_n 2, 1) := by decide +kernel
theorem dL_days_1 : decode cL_days 1 = .ok (.iconst 0, 1) := by decide +kernel
theorem dL_days_2 : decode cL_days 2 = .ok (.aload_n 0, 1) := by decide +kernel
theorem dL_days_3 : decode cL_days 3 = .ok (.iload_n 1, 1) := by decide +kernel
theorem dL_days_4 : decode cL_days 4 = .ok (.invokevirtual 77, 3) := by decide +kernel
theorem dL_days_7 : decode cL_days 7 = .ok (.i2l, 1) := by decide +kernel
theorem dL_days_8 : decode cL_days 8 = .ok (.lastore, 1) := by decide +kernel
theorem dL_days_9 : decode cL_days 9 = .ok (.goto 6, 3) := by decide +kernel
theorem dL_days_12 : decode cL_days 12 = .ok (.astore_n 3, 1) := by decide +kernel
theorem dL_days_13 : decode cL_days 13 = .ok (.iconst 1, 1) := by decide +kernel
theorem dL_days_14 : decode cL_days 14 = .ok (.ireturn, 1) := by decide +kernel
theorem dL_days_15 : decode cL_days 15 = .ok (.iconst 0, 1) := by decide +kernel
theorem dL_days_16 : decode cL_days 16 = .ok (.ireturn, 1) := by decide +kernel
set_option maxRecDepth 10000 in
theorem wr_days {sc : Nat × (Nat → Int32)} {d : Nat} {σ σ1 : aH} {u u1 : Nat} {x1 : Int} {r : Int} (hG : G σ u) (hG1 : G σ1 u1) (rr : inR r) (h : Ev sc d mX9_days [.ref 0, .int (nZ x1)] σ (.inl (some (.int (nZ r)))) σ1) : Ev sc (d + 1) mL_days [.ref 0, .int (nZ x1), .ref 344] σ (.inl (some (.int (nZ 0)))) (wJ σ1 344 0 r) := by
  refine Ev.ofH (c := 11) (code := cL_days) (mL := 4) (rt := (some .int)) (hs := [(0, 9, 12, 13)]) (l := [(0, .ref 0), (1, .int (nZ x1)), (2, .ref 344)]) rfl rfl rfl rfl (by decide) (by decide +kernel) rfl rfl ?_
  refine w_aload_n dL_days_0 rfl (List.Mem.tail _ (List.Mem.tail _ (List.Mem.head _))) ?_
  refine w_iconst (v := nZ 0) dL_days_1 (by decide) ?_
  refine w_aload_n dL_days_2 rfl (List.Mem.head _) ?_
  refine w_iload_n dL_days_3 rfl (List.Mem.tail _ (List.Mem.head _)) ?_
  refine w_callV dL_days_4 ml_11_77 ⟨ok_X9_days, vi_X9_days⟩ hs_X9_days (As := [.int (nZ x1)]) rfl rfl (gT hG rfl (lt_of rfl)) (Nat.le_of_ble_eq_true rfl) h ?_
  show wp (Ev sc d) 11 cL_days 4 (some .int) false [(0, 9, 12, 13)] sc _ 7 [(0, .ref 0), (1, .int (nZ x1)), (2, .ref 344)] [.int (nZ r), .int (nZ 0), .ref 344] σ1
  refine i_2l dL_days_7 rr ?_
  refine i_last (n := 1) dL_days_8 (gT hG1 rfl (lt_of rfl)) (gL hG1 rfl) (by decide) (by decide) (fun σ2 e2 => ?_)
  refine w_goto (tgt := 15) dL_days_9 rfl ?_
  refine w_iconst (v := nZ 0) dL_days_15 (by decide) ?_
  exact w_iret dL_days_16 rfl ⟨rfl, e2.symm⟩
set_option maxRecDepth 10000 in
theorem wr_days_1 {sc : Nat × (Nat → Int32)} {d : Nat} {σ σ1 : aH} {u u1 : Nat} {x1 : Int} (hG : G σ u) (h : Ev sc d mX9_days [.ref 0, .int (nZ x1)] σ (.inr 1) σ1) : Ev sc (d + 1) mL_days [.ref 0, .int (nZ x1), .ref 344] σ (.inl (some (.int (nZ 1)))) σ1 := by
  refine Ev.ofH (c := 11) (code := cL_days) (mL := 4) (rt := (some .int)) (hs := [(0, 9, 12, 13)]) (l := [(0, .ref 0), (1, .int (nZ x1)), (2, .ref 344)]) rfl rfl rfl rfl (by decide) (by decide +kernel) rfl rfl ?_
  refine w_aload_n dL_days_0 rfl (List.Mem.tail _ (List.Mem.tail _ (List.Mem.head _))) ?_
  refine w_iconst (v := nZ 0) dL_days_1 (by decide) ?_
  refine w_aload_n dL_days_2 rfl (List.Mem.head _) ?_
  refine w_iload_n dL_days_3 rfl (List.Mem.tail _ (List.Mem.head _)) ?_
  refine w_catchV (ex := 1) (k := 3) (tgt := 12) (len := 1) dL_days_4 mp_11_77 ⟨ok_X9_days, vi_X9_days⟩ hs_X9_days (As := [.int (nZ x1)]) rfl rfl (gT hG rfl (lt_of rfl)) (Nat.le_of_ble_eq_true rfl) h (⟨rfl, 0, 9, by decide, by decide, Or.inr (Or.inl ⟨rfl, rfl⟩)⟩) (Or.inr ⟨3, rfl, dL_days_12, rfl⟩) (by decide) ?_
  refine w_iconst (v := nZ 1) dL_days_13 (by decide) ?_
  exact w_iret dL_days_14 rfl ⟨rfl, rfl⟩
theorem dL_when_0 : decode cL_when 0 = .ok (.aload_n 2, 1) := by decide +kernel
theorem dL_when_1 : decode cL_when 1 = .ok (.iconst 0, 1) := by decide +kernel
theorem dL_when_2 : decode cL_when 2 = .ok (.aload_n 0, 1) := by decide +kernel
theorem dL_when_3 : decode cL_when 3 = .ok (.iload_n 1, 1) := by decide +kernel
theorem dL_when_4 : decode cL_when 4 = .ok (.invokevirtual 80, 3) := by decide +kernel
theorem dL_when_7 : decode cL_when 7 = .ok (.i2l, 1) := by decide +kernel
theorem dL_when_8 : decode cL_when 8 = .ok (.lastore, 1) := by decide +kernel
theorem dL_when_9 : decode cL_when 9 = .ok (.goto 6, 3) := by decide +kernel
theorem dL_when_12 : decode cL_when 12 = .ok (.astore_n 3, 1) := by decide +kernel
theorem dL_when_13 : decode cL_when 13 = .ok (.iconst 1, 1) := by decide +kernel
theorem dL_when_14 : decode cL_when 14 = .ok (.ireturn, 1) := by decide +kernel
theorem dL_when_15 : decode cL_when 15 = .ok (.iconst 0, 1) := by decide +kernel
theorem dL_when_16 : decode cL_when 16 = .ok (.ireturn, 1) := by decide +kernel
set_option maxRecDepth 10000 in
theorem wr_when {sc : Nat × (Nat → Int32)} {d : Nat} {σ σ1 : aH} {u u1 : Nat} {x1 : Int} {r : Int} (hG : G σ u) (hG1 : G σ1 u1) (rr : inR r) (h : Ev sc d mX9_when [.ref 0, .int (nZ x1)] σ (.inl (some (.int (nZ r)))) σ1) : Ev sc (d + 1) mL_when [.ref 0, .int (nZ x1), .ref 344] σ (.inl (some (.int (nZ 0)))) (wJ σ1 344 0 r) := by
  refine Ev.ofH (c := 11) (code := cL_when) (mL := 4) (rt := (some .int)) (hs := [(0, 9, 12, 13)]) (l := [(0, .ref 0), (1, .int (nZ x1)), (2, .ref 344)]) rfl rfl rfl rfl (by decide) (by decide +kernel) rfl rfl ?_
  refine w_aload_n dL_when_0 rfl (List.Mem.tail _ (List.Mem.tail _ (List.Mem.head _))) ?_
  refine w_iconst (v := nZ 0) dL_when_1 (by decide) ?_
  refine w_aload_n dL_when_2 rfl (List.Mem.head _) ?_
  refine w_iload_n dL_when_3 rfl (List.Mem.tail _ (List.Mem.head _)) ?_
  refine w_callV dL_when_4 ml_11_80 ⟨ok_X9_when, vi_X9_when⟩ hs_X9_when (As := [.int (nZ x1)]) rfl rfl (gT hG rfl (lt_of rfl)) (Nat.le_of_ble_eq_true rfl) h ?_
  show wp (Ev sc d) 11 cL_when 4 (some .int) false [(0, 9, 12, 13)] sc _ 7 [(0, .ref 0), (1, .int (nZ x1)), (2, .ref 344)] [.int (nZ r), .int (nZ 0), .ref 344] σ1
  refine i_2l dL_when_7 rr ?_
  refine i_last (n := 1) dL_when_8 (gT hG1 rfl (lt_of rfl)) (gL hG1 rfl) (by decide) (by decide) (fun σ2 e2 => ?_)
  refine w_goto (tgt := 15) dL_when_9 rfl ?_
  refine w_iconst (v := nZ 0) dL_when_15 (by decide) ?_
  exact w_iret dL_when_16 rfl ⟨rfl, e2.symm⟩
set_option maxRecDepth 10000 in
theorem wr_when_1 {sc : Nat × (Nat → Int32)} {d : Nat} {σ σ1 : aH} {u u1 : Nat} {x1 : Int} (hG : G σ u) (h : Ev sc d mX9_when [.ref 0, .int (nZ x1)] σ (.inr 1) σ1) : Ev sc (d + 1) mL_when [.ref 0, .int (nZ x1), .ref 344] σ (.inl (some (.int (nZ 1)))) σ1 := by
  refine Ev.ofH (c := 11) (code := cL_when) (mL := 4) (rt := (some .int)) (hs := [(0, 9, 12, 13)]) (l := [(0, .ref 0), (1, .int (nZ x1)), (2, .ref 344)]) rfl rfl rfl rfl (by decide) (by decide +kernel) rfl rfl ?_
  refine w_aload_n dL_when_0 rfl (List.Mem.tail _ (List.Mem.tail _ (List.Mem.head _))) ?_
  refine w_iconst (v := nZ 0) dL_when_1 (by decide) ?_
  refine w_aload_n dL_when_2 rfl (List.Mem.head _) ?_
  refine w_iload_n dL_when_3 rfl (List.Mem.tail _ (List.Mem.head _)) ?_
  refine w_catchV (ex := 1) (k := 3) (tgt := 12) (len := 1) dL_when_4 mp_11_80 ⟨ok_X9_when, vi_X9_when⟩ hs_X9_when (As := [.int (nZ x1)]) rfl rfl (gT hG rfl (lt_of rfl)) (Nat.le_of_ble_eq_true rfl) h (⟨rfl, 0, 9, by decide, by decide, Or.inr (Or.inl ⟨rfl, rfl⟩)⟩) (Or.inr ⟨3, rfl, dL_when_12, rfl⟩) (by decide) ?_
  refine w_iconst (v := nZ 1) dL_when_13 (by decide) ?_
  exact w_iret dL_when_14 rfl ⟨rfl, rfl⟩
theorem dL_clouds_0 : decode cL_clouds 0 = .ok (.aload_n 3, 1) := by decide +kernel
theorem dL_clouds_1 : decode cL_clouds 1 = .ok (.iconst 0, 1) := by decide +kernel
theorem dL_clouds_2 : decode cL_clouds 2 = .ok (.aload_n 0, 1) := by decide +kernel
theorem dL_clouds_3 : decode cL_clouds 3 = .ok (.iload_n 1, 1) := by decide +kernel
theorem dL_clouds_4 : decode cL_clouds 4 = .ok (.iload_n 2, 1) := by decide +kernel
theorem dL_clouds_5 : decode cL_clouds 5 = .ok (.invokevirtual 83, 3) := by decide +kernel
theorem dL_clouds_8 : decode cL_clouds 8 = .ok (.i2l, 1) := by decide +kernel
theorem dL_clouds_9 : decode cL_clouds 9 = .ok (.lastore, 1) := by decide +kernel
theorem dL_clouds_10 : decode cL_clouds 10 = .ok (.goto 7, 3) := by decide +kernel
theorem dL_clouds_13 : decode cL_clouds 13 = .ok (.astore 4, 2) := by decide +kernel
theorem dL_clouds_15 : decode cL_clouds 15 = .ok (.iconst 1, 1) := by decide +kernel
theorem dL_clouds_16 : decode cL_clouds 16 = .ok (.ireturn, 1) := by decide +kernel
theorem dL_clouds_17 : decode cL_clouds 17 = .ok (.iconst 0, 1) := by decide +kernel
theorem dL_clouds_18 : decode cL_clouds 18 = .ok (.ireturn, 1) := by decide +kernel
set_option maxRecDepth 10000 in
theorem wr_clouds {sc : Nat × (Nat → Int32)} {d : Nat} {σ σ1 : aH} {u u1 : Nat} {x1 : Int} {x2 : Int} {r : Int} (hG : G σ u) (hG1 : G σ1 u1) (rr : inR r) (h : Ev sc d mX9_clouds [.ref 0, .int (nZ x1), .int (nZ x2)] σ (.inl (some (.int (nZ r)))) σ1) : Ev sc (d + 1) mL_clouds [.ref 0, .int (nZ x1), .int (nZ x2), .ref 344] σ (.inl (some (.int (nZ 0)))) (wJ σ1 344 0 r) := by
  refine Ev.ofH (c := 11) (code := cL_clouds) (mL := 5) (rt := (some .int)) (hs := [(0, 10, 13, 13)]) (l := [(0, .ref 0), (1, .int (nZ x1)), (2, .int (nZ x2)), (3, .ref 344)]) rfl rfl rfl rfl (by decide) (by decide +kernel) rfl rfl ?_
  refine w_aload_n dL_clouds_0 rfl (List.Mem.tail _ (List.Mem.tail _ (List.Mem.tail _ (List.Mem.head _)))) ?_
  refine w_iconst (v := nZ 0) dL_clouds_1 (by decide) ?_
  refine w_aload_n dL_clouds_2 rfl (List.Mem.head _) ?_
  refine w_iload_n dL_clouds_3 rfl (List.Mem.tail _ (List.Mem.head _)) ?_
  refine w_iload_n dL_clouds_4 rfl (List.Mem.tail _ (List.Mem.tail _ (List.Mem.head _))) ?_
  refine w_callV dL_clouds_5 ml_11_83 ⟨ok_X9_clouds, vi_X9_clouds⟩ hs_X9_clouds (As := [.int (nZ x1), .int (nZ x2)]) rfl rfl (gT hG rfl (lt_of rfl)) (Nat.le_of_ble_eq_true rfl) h ?_
  show wp (Ev sc d) 11 cL_clouds 5 (some .int) false [(0, 10, 13, 13)] sc _ 8 [(0, .ref 0), (1, .int (nZ x1)), (2, .int (nZ x2)), (3, .ref 344)] [.int (nZ r), .int (nZ 0), .ref 344] σ1
  refine i_2l dL_clouds_8 rr ?_
  refine i_last (n := 1) dL_clouds_9 (gT hG1 rfl (lt_of rfl)) (gL hG1 rfl) (by decide) (by decide) (fun σ2 e2 => ?_)
  refine w_goto (tgt := 17) dL_clouds_10 rfl ?_
  refine w_iconst (v := nZ 0) dL_clouds_17 (by decide) ?_
  exact w_iret dL_clouds_18 rfl ⟨rfl, e2.symm⟩
set_option maxRecDepth 10000 in
theorem wr_clouds_1 {sc : Nat × (Nat → Int32)} {d : Nat} {σ σ1 : aH} {u u1 : Nat} {x1 : Int} {x2 : Int} (hG : G σ u) (h : Ev sc d mX9_clouds [.ref 0, .int (nZ x1), .int (nZ x2)] σ (.inr 1) σ1) : Ev sc (d + 1) mL_clouds [.ref 0, .int (nZ x1), .int (nZ x2), .ref 344] σ (.inl (some (.int (nZ 1)))) σ1 := by
  refine Ev.ofH (c := 11) (code := cL_clouds) (mL := 5) (rt := (some .int)) (hs := [(0, 10, 13, 13)]) (l := [(0, .ref 0), (1, .int (nZ x1)), (2, .int (nZ x2)), (3, .ref 344)]) rfl rfl rfl rfl (by decide) (by decide +kernel) rfl rfl ?_
  refine w_aload_n dL_clouds_0 rfl (List.Mem.tail _ (List.Mem.tail _ (List.Mem.tail _ (List.Mem.head _)))) ?_
  refine w_iconst (v := nZ 0) dL_clouds_1 (by decide) ?_
  refine w_aload_n dL_clouds_2 rfl (List.Mem.head _) ?_
  refine w_iload_n dL_clouds_3 rfl (List.Mem.tail _ (List.Mem.head _)) ?_
  refine w_iload_n dL_clouds_4 rfl (List.Mem.tail _ (List.Mem.tail _ (List.Mem.head _))) ?_
  refine w_catchV (ex := 1) (k := 4) (tgt := 13) (len := 2) dL_clouds_5 mp_11_83 ⟨ok_X9_clouds, vi_X9_clouds⟩ hs_X9_clouds (As := [.int (nZ x1), .int (nZ x2)]) rfl rfl (gT hG rfl (lt_of rfl)) (Nat.le_of_ble_eq_true rfl) h (⟨rfl, 0, 10, by decide, by decide, Or.inr (Or.inl ⟨rfl, rfl⟩)⟩) (Or.inl ⟨dL_clouds_13, rfl⟩) (by decide) ?_
  refine w_iconst (v := nZ 1) dL_clouds_15 (by decide) ?_
  exact w_iret dL_clouds_16 rfl ⟨rfl, rfl⟩
theorem dL_span_0 : decode cL_span 0 = .ok (.aload 4, 2) := by decide +kernel
theorem dL_span_2 : decode cL_span 2 = .ok (.iconst 0, 1) := by decide +kernel
theorem dL_span_3 : decode cL_span 3 = .ok (.aload_n 0, 1) := by decide +kernel
theorem dL_span_4 : decode cL_span 4 = .ok (.iload_n 1, 1) := by decide +kernel
theorem dL_span_5 : decode cL_span 5 = .ok (.iload_n 2, 1) := by decide +kernel
theorem dL_span_6 : decode cL_span 6 = .ok (.iload_n 3, 1) := by decide +kernel
theorem dL_span_7 : decode cL_span 7 = .ok (.invokevirtual 86, 3) := by decide +kernel
theorem dL_span_10 : decode cL_span 10 = .ok (.i2l, 1) := by decide +kernel
theorem dL_span_11 : decode cL_span 11 = .ok (.lastore, 1) := by decide +kernel
theorem dL_span_12 : decode cL_span 12 = .ok (.goto 7, 3) := by decide +kernel
theorem dL_span_15 : decode cL_span 15 = .ok (.astore 5, 2) := by decide +kernel
theorem dL_span_17 : decode cL_span 17 = .ok (.iconst 1, 1) := by decide +kernel
theorem dL_span_18 : decode cL_span 18 = .ok (.ireturn, 1) := by decide +kernel
theorem dL_span_19 : decode cL_span 19 = .ok (.iconst 0, 1) := by decide +kernel
theorem dL_span_20 : decode cL_span 20 = .ok (.ireturn, 1) := by decide +kernel
set_option maxRecDepth 10000 in
theorem wr_span {sc : Nat × (Nat → Int32)} {d : Nat} {σ σ1 : aH} {u u1 : Nat} {x1 : Int} {x2 : Int} {x3 : Int} {r : Int} (hG : G σ u) (hG1 : G σ1 u1) (rr : inR r) (h : Ev sc d mX9_span [.ref 0, .int (nZ x1), .int (nZ x2), .int (nZ x3)] σ (.inl (some (.int (nZ r)))) σ1) : Ev sc (d + 1) mL_span [.ref 0, .int (nZ x1), .int (nZ x2), .int (nZ x3), .ref 344] σ (.inl (some (.int (nZ 0)))) (wJ σ1 344 0 r) := by
  refine Ev.ofH (c := 11) (code := cL_span) (mL := 6) (rt := (some .int)) (hs := [(0, 12, 15, 13)]) (l := [(0, .ref 0), (1, .int (nZ x1)), (2, .int (nZ x2)), (3, .int (nZ x3)), (4, .ref 344)]) rfl rfl rfl rfl (by decide) (by decide +kernel) rfl rfl ?_
  refine w_aload dL_span_0 (List.Mem.tail _ (List.Mem.tail _ (List.Mem.tail _ (List.Mem.tail _ (List.Mem.head _))))) ?_
  refine w_iconst (v := nZ 0) dL_span_2 (by decide) ?_
  refine w_aload_n dL_span_3 rfl (List.Mem.head _) ?_
  refine w_iload_n dL_span_4 rfl (List.Mem.tail _ (List.Mem.head _)) ?_
  refine w_iload_n dL_span_5 rfl (List.Mem.tail _ (List.Mem.tail _ (List.Mem.head _))) ?_
  refine w_iload_n dL_span_6 rfl (List.Mem.tail _ (List.Mem.tail _ (List.Mem.tail _ (List.Mem.head _)))) ?_
  refine w_callV dL_span_7 ml_11_86 ⟨ok_X9_span, vi_X9_span⟩ hs_X9_span (As := [.int (nZ x1), .int (nZ x2), .int (nZ x3)]) rfl rfl (gT hG rfl (lt_of rfl)) (Nat.le_of_ble_eq_true rfl) h ?_
  show wp (Ev sc d) 11 cL_span 6 (some .int) false [(0, 12, 15, 13)] sc _ 10 [(0, .ref 0), (1, .int (nZ x1)), (2, .int (nZ x2)), (3, .int (nZ x3)), (4, .ref 344)] [.int (nZ r), .int (nZ 0), .ref 344] σ1
  refine i_2l dL_span_10 rr ?_
  refine i_last (n := 1) dL_span_11 (gT hG1 rfl (lt_of rfl)) (gL hG1 rfl) (by decide) (by decide) (fun σ2 e2 => ?_)
  refine w_goto (tgt := 19) dL_span_12 rfl ?_
  refine w_iconst (v := nZ 0) dL_span_19 (by decide) ?_
  exact w_iret dL_span_20 rfl ⟨rfl, e2.symm⟩
set_option maxRecDepth 10000 in
theorem wr_span_1 {sc : Nat × (Nat → Int32)} {d : Nat} {σ σ1 : aH} {u u1 : Nat} {x1 : Int} {x2 : Int} {x3 : Int} (hG : G σ u) (h : Ev sc d mX9_span [.ref 0, .int (nZ x1), .int (nZ x2), .int (nZ x3)] σ (.inr 1) σ1) : Ev sc (d + 1) mL_span [.ref 0, .int (nZ x1), .int (nZ x2), .int (nZ x3), .ref 344] σ (.inl (some (.int (nZ 1)))) σ1 := by
  refine Ev.ofH (c := 11) (code := cL_span) (mL := 6) (rt := (some .int)) (hs := [(0, 12, 15, 13)]) (l := [(0, .ref 0), (1, .int (nZ x1)), (2, .int (nZ x2)), (3, .int (nZ x3)), (4, .ref 344)]) rfl rfl rfl rfl (by decide) (by decide +kernel) rfl rfl ?_
  refine w_aload dL_span_0 (List.Mem.tail _ (List.Mem.tail _ (List.Mem.tail _ (List.Mem.tail _ (List.Mem.head _))))) ?_
  refine w_iconst (v := nZ 0) dL_span_2 (by decide) ?_
  refine w_aload_n dL_span_3 rfl (List.Mem.head _) ?_
  refine w_iload_n dL_span_4 rfl (List.Mem.tail _ (List.Mem.head _)) ?_
  refine w_iload_n dL_span_5 rfl (List.Mem.tail _ (List.Mem.tail _ (List.Mem.head _))) ?_
  refine w_iload_n dL_span_6 rfl (List.Mem.tail _ (List.Mem.tail _ (List.Mem.tail _ (List.Mem.head _)))) ?_
  refine w_catchV (ex := 1) (k := 5) (tgt := 15) (len := 2) dL_span_7 mp_11_86 ⟨ok_X9_span, vi_X9_span⟩ hs_X9_span (As := [.int (nZ x1), .int (nZ x2), .int (nZ x3)]) rfl rfl (gT hG rfl (lt_of rfl)) (Nat.le_of_ble_eq_true rfl) h (⟨rfl, 0, 12, by decide, by decide, Or.inr (Or.inl ⟨rfl, rfl⟩)⟩) (Or.inl ⟨dL_span_15, rfl⟩) (by decide) ?_
  refine w_iconst (v := nZ 1) dL_span_17 (by decide) ?_
  exact w_iret dL_span_18 rfl ⟨rfl, rfl⟩
theorem dL_led_0 : decode cL_led 0 = .ok (.aload_n 3, 1) := by decide +kernel
theorem dL_led_1 : decode cL_led 1 = .ok (.iconst 0, 1) := by decide +kernel
theorem dL_led_2 : decode cL_led 2 = .ok (.aload_n 0, 1) := by decide +kernel
theorem dL_led_3 : decode cL_led 3 = .ok (.iload_n 1, 1) := by decide +kernel
theorem dL_led_4 : decode cL_led 4 = .ok (.iload_n 2, 1) := by decide +kernel
theorem dL_led_5 : decode cL_led 5 = .ok (.invokevirtual 89, 3) := by decide +kernel
theorem dL_led_8 : decode cL_led 8 = .ok (.i2l, 1) := by decide +kernel
theorem dL_led_9 : decode cL_led 9 = .ok (.lastore, 1) := by decide +kernel
theorem dL_led_10 : decode cL_led 10 = .ok (.goto 11, 3) := by decide +kernel
theorem dL_led_13 : decode cL_led 13 = .ok (.astore 4, 2) := by decide +kernel
theorem dL_led_15 : decode cL_led 15 = .ok (.iconst 1, 1) := by decide +kernel
theorem dL_led_16 : decode cL_led 16 = .ok (.ireturn, 1) := by decide +kernel
theorem dL_led_17 : decode cL_led 17 = .ok (.astore 4, 2) := by decide +kernel
theorem dL_led_19 : decode cL_led 19 = .ok (.iconst 2, 1) := by decide +kernel
theorem dL_led_20 : decode cL_led 20 = .ok (.ireturn, 1) := by decide +kernel
theorem dL_led_21 : decode cL_led 21 = .ok (.iconst 0, 1) := by decide +kernel
theorem dL_led_22 : decode cL_led 22 = .ok (.ireturn, 1) := by decide +kernel
set_option maxRecDepth 10000 in
theorem wr_led {sc : Nat × (Nat → Int32)} {d : Nat} {σ σ1 : aH} {u u1 : Nat} {x1 : Int} {x2 : Int} {r : Int} (hG : G σ u) (hG1 : G σ1 u1) (rr : inR r) (h : Ev sc d mX9_led [.ref 0, .int (nZ x1), .int (nZ x2)] σ (.inl (some (.int (nZ r)))) σ1) : Ev sc (d + 1) mL_led [.ref 0, .int (nZ x1), .int (nZ x2), .ref 344] σ (.inl (some (.int (nZ 0)))) (wJ σ1 344 0 r) := by
  refine Ev.ofH (c := 11) (code := cL_led) (mL := 5) (rt := (some .int)) (hs := [(0, 10, 13, 22), (0, 10, 17, 13)]) (l := [(0, .ref 0), (1, .int (nZ x1)), (2, .int (nZ x2)), (3, .ref 344)]) rfl rfl rfl rfl (by decide) (by decide +kernel) rfl rfl ?_
  refine w_aload_n dL_led_0 rfl (List.Mem.tail _ (List.Mem.tail _ (List.Mem.tail _ (List.Mem.head _)))) ?_
  refine w_iconst (v := nZ 0) dL_led_1 (by decide) ?_
  refine w_aload_n dL_led_2 rfl (List.Mem.head _) ?_
  refine w_iload_n dL_led_3 rfl (List.Mem.tail _ (List.Mem.head _)) ?_
  refine w_iload_n dL_led_4 rfl (List.Mem.tail _ (List.Mem.tail _ (List.Mem.head _))) ?_
  refine w_callV dL_led_5 ml_11_89 ⟨ok_X9_led, vi_X9_led⟩ hs_X9_led (As := [.int (nZ x1), .int (nZ x2)]) rfl rfl (gT hG rfl (lt_of rfl)) (Nat.le_of_ble_eq_true rfl) h ?_
  show wp (Ev sc d) 11 cL_led 5 (some .int) false [(0, 10, 13, 22), (0, 10, 17, 13)] sc _ 8 [(0, .ref 0), (1, .int (nZ x1)), (2, .int (nZ x2)), (3, .ref 344)] [.int (nZ r), .int (nZ 0), .ref 344] σ1
  refine i_2l dL_led_8 rr ?_
  refine i_last (n := 1) dL_led_9 (gT hG1 rfl (lt_of rfl)) (gL hG1 rfl) (by decide) (by decide) (fun σ2 e2 => ?_)
  refine w_goto (tgt := 21) dL_led_10 rfl ?_
  refine w_iconst (v := nZ 0) dL_led_21 (by decide) ?_
  exact w_iret dL_led_22 rfl ⟨rfl, e2.symm⟩
set_option maxRecDepth 10000 in
theorem wr_led_0 {sc : Nat × (Nat → Int32)} {d : Nat} {σ σ1 : aH} {u u1 : Nat} {x1 : Int} {x2 : Int} (hG : G σ u) (h : Ev sc d mX9_led [.ref 0, .int (nZ x1), .int (nZ x2)] σ (.inr 0) σ1) : Ev sc (d + 1) mL_led [.ref 0, .int (nZ x1), .int (nZ x2), .ref 344] σ (.inl (some (.int (nZ 1)))) σ1 := by
  refine Ev.ofH (c := 11) (code := cL_led) (mL := 5) (rt := (some .int)) (hs := [(0, 10, 13, 22), (0, 10, 17, 13)]) (l := [(0, .ref 0), (1, .int (nZ x1)), (2, .int (nZ x2)), (3, .ref 344)]) rfl rfl rfl rfl (by decide) (by decide +kernel) rfl rfl ?_
  refine w_aload_n dL_led_0 rfl (List.Mem.tail _ (List.Mem.tail _ (List.Mem.tail _ (List.Mem.head _)))) ?_
  refine w_iconst (v := nZ 0) dL_led_1 (by decide) ?_
  refine w_aload_n dL_led_2 rfl (List.Mem.head _) ?_
  refine w_iload_n dL_led_3 rfl (List.Mem.tail _ (List.Mem.head _)) ?_
  refine w_iload_n dL_led_4 rfl (List.Mem.tail _ (List.Mem.tail _ (List.Mem.head _))) ?_
  refine w_catchV (ex := 0) (k := 4) (tgt := 13) (len := 2) dL_led_5 mp_11_89 ⟨ok_X9_led, vi_X9_led⟩ hs_X9_led (As := [.int (nZ x1), .int (nZ x2)]) rfl rfl (gT hG rfl (lt_of rfl)) (Nat.le_of_ble_eq_true rfl) h (⟨rfl, 0, 10, by decide, by decide, Or.inr (Or.inr ⟨_, _, rfl, Or.inl ⟨rfl, rfl⟩⟩)⟩) (Or.inl ⟨dL_led_13, rfl⟩) (by decide) ?_
  refine w_iconst (v := nZ 1) dL_led_15 (by decide) ?_
  exact w_iret dL_led_16 rfl ⟨rfl, rfl⟩
set_option maxRecDepth 10000 in
theorem wr_led_1 {sc : Nat × (Nat → Int32)} {d : Nat} {σ σ1 : aH} {u u1 : Nat} {x1 : Int} {x2 : Int} (hG : G σ u) (h : Ev sc d mX9_led [.ref 0, .int (nZ x1), .int (nZ x2)] σ (.inr 1) σ1) : Ev sc (d + 1) mL_led [.ref 0, .int (nZ x1), .int (nZ x2), .ref 344] σ (.inl (some (.int (nZ 2)))) σ1 := by
  refine Ev.ofH (c := 11) (code := cL_led) (mL := 5) (rt := (some .int)) (hs := [(0, 10, 13, 22), (0, 10, 17, 13)]) (l := [(0, .ref 0), (1, .int (nZ x1)), (2, .int (nZ x2)), (3, .ref 344)]) rfl rfl rfl rfl (by decide) (by decide +kernel) rfl rfl ?_
  refine w_aload_n dL_led_0 rfl (List.Mem.tail _ (List.Mem.tail _ (List.Mem.tail _ (List.Mem.head _)))) ?_
  refine w_iconst (v := nZ 0) dL_led_1 (by decide) ?_
  refine w_aload_n dL_led_2 rfl (List.Mem.head _) ?_
  refine w_iload_n dL_led_3 rfl (List.Mem.tail _ (List.Mem.head _)) ?_
  refine w_iload_n dL_led_4 rfl (List.Mem.tail _ (List.Mem.tail _ (List.Mem.head _))) ?_
  refine w_catchV (ex := 1) (k := 4) (tgt := 17) (len := 2) dL_led_5 mp_11_89 ⟨ok_X9_led, vi_X9_led⟩ hs_X9_led (As := [.int (nZ x1), .int (nZ x2)]) rfl rfl (gT hG rfl (lt_of rfl)) (Nat.le_of_ble_eq_true rfl) h (⟨rfl, 0, 10, by decide, by decide, Or.inr (Or.inr ⟨_, _, rfl, Or.inr ⟨rfl, rfl⟩⟩)⟩) (Or.inl ⟨dL_led_17, rfl⟩) (by decide) ?_
  refine w_iconst (v := nZ 2) dL_led_19 (by decide) ?_
  exact w_iret dL_led_20 rfl ⟨rfl, rfl⟩
theorem dL_whose_0 : decode cL_whose 0 = .ok (.aload_n 2, 1) := by decide +kernel
theorem dL_whose_1 : decode cL_whose 1 = .ok (.iconst 0, 1) := by decide +kernel
theorem dL_whose_2 : decode cL_whose 2 = .ok (.aload_n 0, 1) := by decide +kernel
theorem dL_whose_3 : decode cL_whose 3 = .ok (.iload_n 1, 1) := by decide +kernel
theorem dL_whose_4 : decode cL_whose 4 = .ok (.invokevirtual 92, 3) := by decide +kernel
theorem dL_whose_7 : decode cL_whose 7 = .ok (.i2l, 1) := by decide +kernel
theorem dL_whose_8 : decode cL_whose 8 = .ok (.lastore, 1) := by decide +kernel
theorem dL_whose_9 : decode cL_whose 9 = .ok (.goto 6, 3) := by decide +kernel
theorem dL_whose_12 : decode cL_whose 12 = .ok (.astore_n 3, 1) := by decide +kernel
theorem dL_whose_13 : decode cL_whose 13 = .ok (.iconst 1, 1) := by decide +kernel
theorem dL_whose_14 : decode cL_whose 14 = .ok (.ireturn, 1) := by decide +kernel
theorem dL_whose_15 : decode cL_whose 15 = .ok (.iconst 0, 1) := by decide +kernel
theorem dL_whose_16 : decode cL_whose 16 = .ok (.ireturn, 1) := by decide +kernel
set_option maxRecDepth 10000 in
theorem wr_whose {sc : Nat × (Nat → Int32)} {d : Nat} {σ σ1 : aH} {u u1 : Nat} {x1 : Int} {r : Int} (hG : G σ u) (hG1 : G σ1 u1) (rr : inR r) (h : Ev sc d mX9_whose [.ref 0, .int (nZ x1)] σ (.inl (some (.int (nZ r)))) σ1) : Ev sc (d + 1) mL_whose [.ref 0, .int (nZ x1), .ref 344] σ (.inl (some (.int (nZ 0)))) (wJ σ1 344 0 r) := by
  refine Ev.ofH (c := 11) (code := cL_whose) (mL := 4) (rt := (some .int)) (hs := [(0, 9, 12, 22)]) (l := [(0, .ref 0), (1, .int (nZ x1)), (2, .ref 344)]) rfl rfl rfl rfl (by decide) (by decide +kernel) rfl rfl ?_
  refine w_aload_n dL_whose_0 rfl (List.Mem.tail _ (List.Mem.tail _ (List.Mem.head _))) ?_
  refine w_iconst (v := nZ 0) dL_whose_1 (by decide) ?_
  refine w_aload_n dL_whose_2 rfl (List.Mem.head _) ?_
  refine w_iload_n dL_whose_3 rfl (List.Mem.tail _ (List.Mem.head _)) ?_
  refine w_callV dL_whose_4 ml_11_92 ⟨ok_X9_whose, vi_X9_whose⟩ hs_X9_whose (As := [.int (nZ x1)]) rfl rfl (gT hG rfl (lt_of rfl)) (Nat.le_of_ble_eq_true rfl) h ?_
  show wp (Ev sc d) 11 cL_whose 4 (some .int) false [(0, 9, 12, 22)] sc _ 7 [(0, .ref 0), (1, .int (nZ x1)), (2, .ref 344)] [.int (nZ r), .int (nZ 0), .ref 344] σ1
  refine i_2l dL_whose_7 rr ?_
  refine i_last (n := 1) dL_whose_8 (gT hG1 rfl (lt_of rfl)) (gL hG1 rfl) (by decide) (by decide) (fun σ2 e2 => ?_)
  refine w_goto (tgt := 15) dL_whose_9 rfl ?_
  refine w_iconst (v := nZ 0) dL_whose_15 (by decide) ?_
  exact w_iret dL_whose_16 rfl ⟨rfl, e2.symm⟩
set_option maxRecDepth 10000 in
theorem wr_whose_0 {sc : Nat × (Nat → Int32)} {d : Nat} {σ σ1 : aH} {u u1 : Nat} {x1 : Int} (hG : G σ u) (h : Ev sc d mX9_whose [.ref 0, .int (nZ x1)] σ (.inr 0) σ1) : Ev sc (d + 1) mL_whose [.ref 0, .int (nZ x1), .ref 344] σ (.inl (some (.int (nZ 1)))) σ1 := by
  refine Ev.ofH (c := 11) (code := cL_whose) (mL := 4) (rt := (some .int)) (hs := [(0, 9, 12, 22)]) (l := [(0, .ref 0), (1, .int (nZ x1)), (2, .ref 344)]) rfl rfl rfl rfl (by decide) (by decide +kernel) rfl rfl ?_
  refine w_aload_n dL_whose_0 rfl (List.Mem.tail _ (List.Mem.tail _ (List.Mem.head _))) ?_
  refine w_iconst (v := nZ 0) dL_whose_1 (by decide) ?_
  refine w_aload_n dL_whose_2 rfl (List.Mem.head _) ?_
  refine w_iload_n dL_whose_3 rfl (List.Mem.tail _ (List.Mem.head _)) ?_
  refine w_catchV (ex := 0) (k := 3) (tgt := 12) (len := 1) dL_whose_4 mp_11_92 ⟨ok_X9_whose, vi_X9_whose⟩ hs_X9_whose (As := [.int (nZ x1)]) rfl rfl (gT hG rfl (lt_of rfl)) (Nat.le_of_ble_eq_true rfl) h (⟨rfl, 0, 9, by decide, by decide, Or.inl ⟨rfl, rfl⟩⟩) (Or.inr ⟨3, rfl, dL_whose_12, rfl⟩) (by decide) ?_
  refine w_iconst (v := nZ 1) dL_whose_13 (by decide) ?_
  exact w_iret dL_whose_14 rfl ⟨rfl, rfl⟩
theorem dL_harmless_0 : decode cL_harmless 0 = .ok (.aload_n 2, 1) := by decide +kernel
theorem dL_harmless_1 : decode cL_harmless 1 = .ok (.iconst 0, 1) := by decide +kernel
theorem dL_harmless_2 : decode cL_harmless 2 = .ok (.aload_n 0, 1) := by decide +kernel
theorem dL_harmless_3 : decode cL_harmless 3 = .ok (.iload_n 1, 1) := by decide +kernel
theorem dL_harmless_4 : decode cL_harmless 4 = .ok (.invokevirtual 95, 3) := by decide +kernel
theorem dL_harmless_7 : decode cL_harmless 7 = .ok (.i2l, 1) := by decide +kernel
theorem dL_harmless_8 : decode cL_harmless 8 = .ok (.lastore, 1) := by decide +kernel
theorem dL_harmless_9 : decode cL_harmless 9 = .ok (.goto 6, 3) := by decide +kernel
theorem dL_harmless_12 : decode cL_harmless 12 = .ok (.astore_n 3, 1) := by decide +kernel
theorem dL_harmless_13 : decode cL_harmless 13 = .ok (.iconst 1, 1) := by decide +kernel
theorem dL_harmless_14 : decode cL_harmless 14 = .ok (.ireturn, 1) := by decide +kernel
theorem dL_harmless_15 : decode cL_harmless 15 = .ok (.iconst 0, 1) := by decide +kernel
theorem dL_harmless_16 : decode cL_harmless 16 = .ok (.ireturn, 1) := by decide +kernel
set_option maxRecDepth 10000 in
theorem wr_harmless {sc : Nat × (Nat → Int32)} {d : Nat} {σ σ1 : aH} {u u1 : Nat} {x1 : Int} {r : Int} (hG : G σ u) (hG1 : G σ1 u1) (rr : inR r) (h : Ev sc d mX9_harmless [.ref 0, .int (nZ x1)] σ (.inl (some (.int (nZ r)))) σ1) : Ev sc (d + 1) mL_harmless [.ref 0, .int (nZ x1), .ref 344] σ (.inl (some (.int (nZ 0)))) (wJ σ1 344 0 r) := by
  refine Ev.ofH (c := 11) (code := cL_harmless) (mL := 4) (rt := (some .int)) (hs := [(0, 9, 12, 22)]) (l := [(0, .ref 0), (1, .int (nZ x1)), (2, .ref 344)]) rfl rfl rfl rfl (by decide) (by decide +kernel) rfl rfl ?_
  refine w_aload_n dL_harmless_0 rfl (List.Mem.tail _ (List.Mem.tail _ (List.Mem.head _))) ?_
  refine w_iconst (v := nZ 0) dL_harmless_1 (by decide) ?_
  refine w_aload_n dL_harmless_2 rfl (List.Mem.head _) ?_
  refine w_iload_n dL_harmless_3 rfl (List.Mem.tail _ (List.Mem.head _)) ?_
  refine w_callV dL_harmless_4 ml_11_95 ⟨ok_X9_harmless, vi_X9_harmless⟩ hs_X9_harmless (As := [.int (nZ x1)]) rfl rfl (gT hG rfl (lt_of rfl)) (Nat.le_of_ble_eq_true rfl) h ?_
  show wp (Ev sc d) 11 cL_harmless 4 (some .int) false [(0, 9, 12, 22)] sc _ 7 [(0, .ref 0), (1, .int (nZ x1)), (2, .ref 344)] [.int (nZ r), .int (nZ 0), .ref 344] σ1
  refine i_2l dL_harmless_7 rr ?_
  refine i_last (n := 1) dL_harmless_8 (gT hG1 rfl (lt_of rfl)) (gL hG1 rfl) (by decide) (by decide) (fun σ2 e2 => ?_)
  refine w_goto (tgt := 15) dL_harmless_9 rfl ?_
  refine w_iconst (v := nZ 0) dL_harmless_15 (by decide) ?_
  exact w_iret dL_harmless_16 rfl ⟨rfl, e2.symm⟩
set_option maxRecDepth 10000 in
theorem wr_harmless_0 {sc : Nat × (Nat → Int32)} {d : Nat} {σ σ1 : aH} {u u1 : Nat} {x1 : Int} (hG : G σ u) (h : Ev sc d mX9_harmless [.ref 0, .int (nZ x1)] σ (.inr 0) σ1) : Ev sc (d + 1) mL_harmless [.ref 0, .int (nZ x1), .ref 344] σ (.inl (some (.int (nZ 1)))) σ1 := by
  refine Ev.ofH (c := 11) (code := cL_harmless) (mL := 4) (rt := (some .int)) (hs := [(0, 9, 12, 22)]) (l := [(0, .ref 0), (1, .int (nZ x1)), (2, .ref 344)]) rfl rfl rfl rfl (by decide) (by decide +kernel) rfl rfl ?_
  refine w_aload_n dL_harmless_0 rfl (List.Mem.tail _ (List.Mem.tail _ (List.Mem.head _))) ?_
  refine w_iconst (v := nZ 0) dL_harmless_1 (by decide) ?_
  refine w_aload_n dL_harmless_2 rfl (List.Mem.head _) ?_
  refine w_iload_n dL_harmless_3 rfl (List.Mem.tail _ (List.Mem.head _)) ?_
  refine w_catchV (ex := 0) (k := 3) (tgt := 12) (len := 1) dL_harmless_4 mp_11_95 ⟨ok_X9_harmless, vi_X9_harmless⟩ hs_X9_harmless (As := [.int (nZ x1)]) rfl rfl (gT hG rfl (lt_of rfl)) (Nat.le_of_ble_eq_true rfl) h (⟨rfl, 0, 9, by decide, by decide, Or.inl ⟨rfl, rfl⟩⟩) (Or.inr ⟨3, rfl, dL_harmless_12, rfl⟩) (by decide) ?_
  refine w_iconst (v := nZ 1) dL_harmless_13 (by decide) ?_
  exact w_iret dL_harmless_14 rfl ⟨rfl, rfl⟩
theorem dL_folded_0 : decode cL_folded 0 = .ok (.aload_n 2, 1) := by decide +kernel
theorem dL_folded_1 : decode cL_folded 1 = .ok (.iconst 0, 1) := by decide +kernel
theorem dL_folded_2 : decode cL_folded 2 = .ok (.aload_n 0, 1) := by decide +kernel
theorem dL_folded_3 : decode cL_folded 3 = .ok (.iload_n 1, 1) := by decide +kernel
theorem dL_folded_4 : decode cL_folded 4 = .ok (.invokevirtual 98, 3) := by decide +kernel
theorem dL_folded_7 : decode cL_folded 7 = .ok (.i2l, 1) := by decide +kernel
theorem dL_folded_8 : decode cL_folded 8 = .ok (.lastore, 1) := by decide +kernel
theorem dL_folded_9 : decode cL_folded 9 = .ok (.goto 6, 3) := by decide +kernel
theorem dL_folded_12 : decode cL_folded 12 = .ok (.astore_n 3, 1) := by decide +kernel
theorem dL_folded_13 : decode cL_folded 13 = .ok (.iconst 1, 1) := by decide +kernel
theorem dL_folded_14 : decode cL_folded 14 = .ok (.ireturn, 1) := by decide +kernel
theorem dL_folded_15 : decode cL_folded 15 = .ok (.iconst 0, 1) := by decide +kernel
theorem dL_folded_16 : decode cL_folded 16 = .ok (.ireturn, 1) := by decide +kernel
set_option maxRecDepth 10000 in
theorem wr_folded {sc : Nat × (Nat → Int32)} {d : Nat} {σ σ1 : aH} {u u1 : Nat} {x1 : Int} {r : Int} (hG : G σ u) (hG1 : G σ1 u1) (rr : inR r) (h : Ev sc d mX9_folded [.ref 0, .int (nZ x1)] σ (.inl (some (.int (nZ r)))) σ1) : Ev sc (d + 1) mL_folded [.ref 0, .int (nZ x1), .ref 344] σ (.inl (some (.int (nZ 0)))) (wJ σ1 344 0 r) := by
  refine Ev.ofH (c := 11) (code := cL_folded) (mL := 4) (rt := (some .int)) (hs := [(0, 9, 12, 13)]) (l := [(0, .ref 0), (1, .int (nZ x1)), (2, .ref 344)]) rfl rfl rfl rfl (by decide) (by decide +kernel) rfl rfl ?_
  refine w_aload_n dL_folded_0 rfl (List.Mem.tail _ (List.Mem.tail _ (List.Mem.head _))) ?_
  refine w_iconst (v := nZ 0) dL_folded_1 (by decide) ?_
  refine w_aload_n dL_folded_2 rfl (List.Mem.head _) ?_
  refine w_iload_n dL_folded_3 rfl (List.Mem.tail _ (List.Mem.head _)) ?_
  refine w_callV dL_folded_4 ml_11_98 ⟨ok_X9_folded, vi_X9_folded⟩ hs_X9_folded (As := [.int (nZ x1)]) rfl rfl (gT hG rfl (lt_of rfl)) (Nat.le_of_ble_eq_true rfl) h ?_
  show wp (Ev sc d) 11 cL_folded 4 (some .int) false [(0, 9, 12, 13)] sc _ 7 [(0, .ref 0), (1, .int (nZ x1)), (2, .ref 344)] [.int (nZ r), .int (nZ 0), .ref 344] σ1
  refine i_2l dL_folded_7 rr ?_
  refine i_last (n := 1) dL_folded_8 (gT hG1 rfl (lt_of rfl)) (gL hG1 rfl) (by decide) (by decide) (fun σ2 e2 => ?_)
  refine w_goto (tgt := 15) dL_folded_9 rfl ?_
  refine w_iconst (v := nZ 0) dL_folded_15 (by decide) ?_
  exact w_iret dL_folded_16 rfl ⟨rfl, e2.symm⟩
set_option maxRecDepth 10000 in
theorem wr_folded_1 {sc : Nat × (Nat → Int32)} {d : Nat} {σ σ1 : aH} {u u1 : Nat} {x1 : Int} (hG : G σ u) (h : Ev sc d mX9_folded [.ref 0, .int (nZ x1)] σ (.inr 1) σ1) : Ev sc (d + 1) mL_folded [.ref 0, .int (nZ x1), .ref 344] σ (.inl (some (.int (nZ 1)))) σ1 := by
  refine Ev.ofH (c := 11) (code := cL_folded) (mL := 4) (rt := (some .int)) (hs := [(0, 9, 12, 13)]) (l := [(0, .ref 0), (1, .int (nZ x1)), (2, .ref 344)]) rfl rfl rfl rfl (by decide) (by decide +kernel) rfl rfl ?_
  refine w_aload_n dL_folded_0 rfl (List.Mem.tail _ (List.Mem.tail _ (List.Mem.head _))) ?_
  refine w_iconst (v := nZ 0) dL_folded_1 (by decide) ?_
  refine w_aload_n dL_folded_2 rfl (List.Mem.head _) ?_
  refine w_iload_n dL_folded_3 rfl (List.Mem.tail _ (List.Mem.head _)) ?_
  refine w_catchV (ex := 1) (k := 3) (tgt := 12) (len := 1) dL_folded_4 mp_11_98 ⟨ok_X9_folded, vi_X9_folded⟩ hs_X9_folded (As := [.int (nZ x1)]) rfl rfl (gT hG rfl (lt_of rfl)) (Nat.le_of_ble_eq_true rfl) h (⟨rfl, 0, 9, by decide, by decide, Or.inr (Or.inl ⟨rfl, rfl⟩)⟩) (Or.inr ⟨3, rfl, dL_folded_12, rfl⟩) (by decide) ?_
  refine w_iconst (v := nZ 1) dL_folded_13 (by decide) ?_
  exact w_iret dL_folded_14 rfl ⟨rfl, rfl⟩
theorem dL_awned_0 : decode cL_awned 0 = .ok (.aload_n 3, 1) := by decide +kernel
theorem dL_awned_1 : decode cL_awned 1 = .ok (.iconst 0, 1) := by decide +kernel
theorem dL_awned_2 : decode cL_awned 2 = .ok (.aload_n 0, 1) := by decide +kernel
theorem dL_awned_3 : decode cL_awned 3 = .ok (.iload_n 1, 1) := by decide +kernel
theorem dL_awned_4 : decode cL_awned 4 = .ok (.iload_n 2, 1) := by decide +kernel
theorem dL_awned_5 : decode cL_awned 5 = .ok (.invokevirtual 101, 3) := by decide +kernel
theorem dL_awned_8 : decode cL_awned 8 = .ok (.i2l, 1) := by decide +kernel
theorem dL_awned_9 : decode cL_awned 9 = .ok (.lastore, 1) := by decide +kernel
theorem dL_awned_10 : decode cL_awned 10 = .ok (.goto 11, 3) := by decide +kernel
theorem dL_awned_13 : decode cL_awned 13 = .ok (.astore 4, 2) := by decide +kernel
theorem dL_awned_15 : decode cL_awned 15 = .ok (.iconst 1, 1) := by decide +kernel
theorem dL_awned_16 : decode cL_awned 16 = .ok (.ireturn, 1) := by decide +kernel
theorem dL_awned_17 : decode cL_awned 17 = .ok (.astore 4, 2) := by decide +kernel
theorem dL_awned_19 : decode cL_awned 19 = .ok (.iconst 2, 1) := by decide +kernel
theorem dL_awned_20 : decode cL_awned 20 = .ok (.ireturn, 1) := by decide +kernel
theorem dL_awned_21 : decode cL_awned 21 = .ok (.iconst 0, 1) := by decide +kernel
theorem dL_awned_22 : decode cL_awned 22 = .ok (.ireturn, 1) := by decide +kernel
set_option maxRecDepth 10000 in
theorem wr_awned {sc : Nat × (Nat → Int32)} {d : Nat} {σ σ1 : aH} {u u1 : Nat} {x1 : Int} {x2 : Int} {r : Int} (hG : G σ u) (hG1 : G σ1 u1) (rr : inR r) (h : Ev sc d mX9_awned [.ref 0, .int (nZ x1), .int (nZ x2)] σ (.inl (some (.int (nZ r)))) σ1) : Ev sc (d + 1) mL_awned [.ref 0, .int (nZ x1), .int (nZ x2), .ref 344] σ (.inl (some (.int (nZ 0)))) (wJ σ1 344 0 r) := by
  refine Ev.ofH (c := 11) (code := cL_awned) (mL := 5) (rt := (some .int)) (hs := [(0, 10, 13, 22), (0, 10, 17, 13)]) (l := [(0, .ref 0), (1, .int (nZ x1)), (2, .int (nZ x2)), (3, .ref 344)]) rfl rfl rfl rfl (by decide) (by decide +kernel) rfl rfl ?_
  refine w_aload_n dL_awned_0 rfl (List.Mem.tail _ (List.Mem.tail _ (List.Mem.tail _ (List.Mem.head _)))) ?_
  refine w_iconst (v := nZ 0) dL_awned_1 (by decide) ?_
  refine w_aload_n dL_awned_2 rfl (List.Mem.head _) ?_
  refine w_iload_n dL_awned_3 rfl (List.Mem.tail _ (List.Mem.head _)) ?_
  refine w_iload_n dL_awned_4 rfl (List.Mem.tail _ (List.Mem.tail _ (List.Mem.head _))) ?_
  refine w_callV dL_awned_5 ml_11_101 ⟨ok_X9_awned, vi_X9_awned⟩ hs_X9_awned (As := [.int (nZ x1), .int (nZ x2)]) rfl rfl (gT hG rfl (lt_of rfl)) (Nat.le_of_ble_eq_true rfl) h ?_
  show wp (Ev sc d) 11 cL_awned 5 (some .int) false [(0, 10, 13, 22), (0, 10, 17, 13)] sc _ 8 [(0, .ref 0), (1, .int (nZ x1)), (2, .int (nZ x2)), (3, .ref 344)] [.int (nZ r), .int (nZ 0), .ref 344] σ1
  refine i_2l dL_awned_8 rr ?_
  refine i_last (n := 1) dL_awned_9 (gT hG1 rfl (lt_of rfl)) (gL hG1 rfl) (by decide) (by decide) (fun σ2 e2 => ?_)
  refine w_goto (tgt := 21) dL_awned_10 rfl ?_
  refine w_iconst (v := nZ 0) dL_awned_21 (by decide) ?_
  exact w_iret dL_awned_22 rfl ⟨rfl, e2.symm⟩
set_option maxRecDepth 10000 in
theorem wr_awned_0 {sc : Nat × (Nat → Int32)} {d : Nat} {σ σ1 : aH} {u u1 : Nat} {x1 : Int} {x2 : Int} (hG : G σ u) (h : Ev sc d mX9_awned [.ref 0, .int (nZ x1), .int (nZ x2)] σ (.inr 0) σ1) : Ev sc (d + 1) mL_awned [.ref 0, .int (nZ x1), .int (nZ x2), .ref 344] σ (.inl (some (.int (nZ 1)))) σ1 := by
  refine Ev.ofH (c := 11) (code := cL_awned) (mL := 5) (rt := (some .int)) (hs := [(0, 10, 13, 22), (0, 10, 17, 13)]) (l := [(0, .ref 0), (1, .int (nZ x1)), (2, .int (nZ x2)), (3, .ref 344)]) rfl rfl rfl rfl (by decide) (by decide +kernel) rfl rfl ?_
  refine w_aload_n dL_awned_0 rfl (List.Mem.tail _ (List.Mem.tail _ (List.Mem.tail _ (List.Mem.head _)))) ?_
  refine w_iconst (v := nZ 0) dL_awned_1 (by decide) ?_
  refine w_aload_n dL_awned_2 rfl (List.Mem.head _) ?_
  refine w_iload_n dL_awned_3 rfl (List.Mem.tail _ (List.Mem.head _)) ?_
  refine w_iload_n dL_awned_4 rfl (List.Mem.tail _ (List.Mem.tail _ (List.Mem.head _))) ?_
  refine w_catchV (ex := 0) (k := 4) (tgt := 13) (len := 2) dL_awned_5 mp_11_101 ⟨ok_X9_awned, vi_X9_awned⟩ hs_X9_awned (As := [.int (nZ x1), .int (nZ x2)]) rfl rfl (gT hG rfl (lt_of rfl)) (Nat.le_of_ble_eq_true rfl) h (⟨rfl, 0, 10, by decide, by decide, Or.inr (Or.inr ⟨_, _, rfl, Or.inl ⟨rfl, rfl⟩⟩)⟩) (Or.inl ⟨dL_awned_13, rfl⟩) (by decide) ?_
  refine w_iconst (v := nZ 1) dL_awned_15 (by decide) ?_
  exact w_iret dL_awned_16 rfl ⟨rfl, rfl⟩
set_option maxRecDepth 10000 in
theorem wr_awned_1 {sc : Nat × (Nat → Int32)} {d : Nat} {σ σ1 : aH} {u u1 : Nat} {x1 : Int} {x2 : Int} (hG : G σ u) (h : Ev sc d mX9_awned [.ref 0, .int (nZ x1), .int (nZ x2)] σ (.inr 1) σ1) : Ev sc (d + 1) mL_awned [.ref 0, .int (nZ x1), .int (nZ x2), .ref 344] σ (.inl (some (.int (nZ 2)))) σ1 := by
  refine Ev.ofH (c := 11) (code := cL_awned) (mL := 5) (rt := (some .int)) (hs := [(0, 10, 13, 22), (0, 10, 17, 13)]) (l := [(0, .ref 0), (1, .int (nZ x1)), (2, .int (nZ x2)), (3, .ref 344)]) rfl rfl rfl rfl (by decide) (by decide +kernel) rfl rfl ?_
  refine w_aload_n dL_awned_0 rfl (List.Mem.tail _ (List.Mem.tail _ (List.Mem.tail _ (List.Mem.head _)))) ?_
  refine w_iconst (v := nZ 0) dL_awned_1 (by decide) ?_
  refine w_aload_n dL_awned_2 rfl (List.Mem.head _) ?_
  refine w_iload_n dL_awned_3 rfl (List.Mem.tail _ (List.Mem.head _)) ?_
  refine w_iload_n dL_awned_4 rfl (List.Mem.tail _ (List.Mem.tail _ (List.Mem.head _))) ?_
  refine w_catchV (ex := 1) (k := 4) (tgt := 17) (len := 2) dL_awned_5 mp_11_101 ⟨ok_X9_awned, vi_X9_awned⟩ hs_X9_awned (As := [.int (nZ x1), .int (nZ x2)]) rfl rfl (gT hG rfl (lt_of rfl)) (Nat.le_of_ble_eq_true rfl) h (⟨rfl, 0, 10, by decide, by decide, Or.inr (Or.inr ⟨_, _, rfl, Or.inr ⟨rfl, rfl⟩⟩)⟩) (Or.inl ⟨dL_awned_17, rfl⟩) (by decide) ?_
  refine w_iconst (v := nZ 2) dL_awned_19 (by decide) ?_
  exact w_iret dL_awned_20 rfl ⟨rfl, rfl⟩
theorem dL_hour_0 : decode cL_hour 0 = .ok (.aload_n 2, 1) := by decide +kernel
theorem dL_hour_1 : decode cL_hour 1 = .ok (.iconst 0, 1) := by decide +kernel
theorem dL_hour_2 : decode cL_hour 2 = .ok (.aload_n 0, 1) := by decide +kernel
theorem dL_hour_3 : decode cL_hour 3 = .ok (.iload_n 1, 1) := by decide +kernel
theorem dL_hour_4 : decode cL_hour 4 = .ok (.invokevirtual 104, 3) := by decide +kernel
theorem dL_hour_7 : decode cL_hour 7 = .ok (.i2l, 1) := by decide +kernel
theorem dL_hour_8 : decode cL_hour 8 = .ok (.lastore, 1) := by decide +kernel
theorem dL_hour_9 : decode cL_hour 9 = .ok (.goto 6, 3) := by decide +kernel
theorem dL_hour_12 : decode cL_hour 12 = .ok (.astore_n 3, 1) := by decide +kernel
theorem dL_hour_13 : decode cL_hour 13 = .ok (.iconst 1, 1) := by decide +kernel
theorem dL_hour_14 : decode cL_hour 14 = .ok (.ireturn, 1) := by decide +kernel
theorem dL_hour_15 : decode cL_hour 15 = .ok (.iconst 0, 1) := by decide +kernel
theorem dL_hour_16 : decode cL_hour 16 = .ok (.ireturn, 1) := by decide +kernel
set_option maxRecDepth 10000 in
theorem wr_hour {sc : Nat × (Nat → Int32)} {d : Nat} {σ σ1 : aH} {u u1 : Nat} {x1 : Int} {r : Int} (hG : G σ u) (hG1 : G σ1 u1) (rr : inR r) (h : Ev sc d mX9_hour [.ref 0, .int (nZ x1)] σ (.inl (some (.int (nZ r)))) σ1) : Ev sc (d + 1) mL_hour [.ref 0, .int (nZ x1), .ref 344] σ (.inl (some (.int (nZ 0)))) (wJ σ1 344 0 r) := by
  refine Ev.ofH (c := 11) (code := cL_hour) (mL := 4) (rt := (some .int)) (hs := [(0, 9, 12, 13)]) (l := [(0, .ref 0), (1, .int (nZ x1)), (2, .ref 344)]) rfl rfl rfl rfl (by decide) (by decide +kernel) rfl rfl ?_
  refine w_aload_n dL_hour_0 rfl (List.Mem.tail _ (List.Mem.tail _ (List.Mem.head _))) ?_
  refine w_iconst (v := nZ 0) dL_hour_1 (by decide) ?_
  refine w_aload_n dL_hour_2 rfl (List.Mem.head _) ?_
  refine w_iload_n dL_hour_3 rfl (List.Mem.tail _ (List.Mem.head _)) ?_
  refine w_callV dL_hour_4 ml_11_104 ⟨ok_X9_hour, vi_X9_hour⟩ hs_X9_hour (As := [.int (nZ x1)]) rfl rfl (gT hG rfl (lt_of rfl)) (Nat.le_of_ble_eq_true rfl) h ?_
  show wp (Ev sc d) 11 cL_hour 4 (some .int) false [(0, 9, 12, 13)] sc _ 7 [(0, .ref 0), (1, .int (nZ x1)), (2, .ref 344)] [.int (nZ r), .int (nZ 0), .ref 344] σ1
  refine i_2l dL_hour_7 rr ?_
  refine i_last (n := 1) dL_hour_8 (gT hG1 rfl (lt_of rfl)) (gL hG1 rfl) (by decide) (by decide) (fun σ2 e2 => ?_)
  refine w_goto (tgt := 15) dL_hour_9 rfl ?_
  refine w_iconst (v := nZ 0) dL_hour_15 (by decide) ?_
  exact w_iret dL_hour_16 rfl ⟨rfl, e2.symm⟩
set_option maxRecDepth 10000 in
theorem wr_hour_1 {sc : Nat × (Nat → Int32)} {d : Nat} {σ σ1 : aH} {u u1 : Nat} {x1 : Int} (hG : G σ u) (h : Ev sc d mX9_hour [.ref 0, .int (nZ x1)] σ (.inr 1) σ1) : Ev sc (d + 1) mL_hour [.ref 0, .int (nZ x1), .ref 344] σ (.inl (some (.int (nZ 1)))) σ1 := by
  refine Ev.ofH (c := 11) (code := cL_hour) (mL := 4) (rt := (some .int)) (hs := [(0, 9, 12, 13)]) (l := [(0, .ref 0), (1, .int (nZ x1)), (2, .ref 344)]) rfl rfl rfl rfl (by decide) (by decide +kernel) rfl rfl ?_
  refine w_aload_n dL_hour_0 rfl (List.Mem.tail _ (List.Mem.tail _ (List.Mem.head _))) ?_
  refine w_iconst (v := nZ 0) dL_hour_1 (by decide) ?_
  refine w_aload_n dL_hour_2 rfl (List.Mem.head _) ?_
  refine w_iload_n dL_hour_3 rfl (List.Mem.tail _ (List.Mem.head _)) ?_
  refine w_catchV (ex := 1) (k := 3) (tgt := 12) (len := 1) dL_hour_4 mp_11_104 ⟨ok_X9_hour, vi_X9_hour⟩ hs_X9_hour (As := [.int (nZ x1)]) rfl rfl (gT hG rfl (lt_of rfl)) (Nat.le_of_ble_eq_true rfl) h (⟨rfl, 0, 9, by decide, by decide, Or.inr (Or.inl ⟨rfl, rfl⟩)⟩) (Or.inr ⟨3, rfl, dL_hour_12, rfl⟩) (by decide) ?_
  refine w_iconst (v := nZ 1) dL_hour_13 (by decide) ?_
  exact w_iret dL_hour_14 rfl ⟨rfl, rfl⟩
theorem dL_improved_0 : decode cL_improved 0 = .ok (.aload_n 2, 1) := by decide +kernel
theorem dL_improved_1 : decode cL_improved 1 = .ok (.iconst 0, 1) := by decide +kernel
theorem dL_improved_2 : decode cL_improved 2 = .ok (.aload_n 0, 1) := by decide +kernel
theorem dL_improved_3 : decode cL_improved 3 = .ok (.iload_n 1, 1) := by decide +kernel
theorem dL_improved_4 : decode cL_improved 4 = .ok (.invokevirtual 107, 3) := by decide +kernel
theorem dL_improved_7 : decode cL_improved 7 = .ok (.i2l, 1) := by decide +kernel
theorem dL_improved_8 : decode cL_improved 8 = .ok (.lastore, 1) := by decide +kernel
theorem dL_improved_9 : decode cL_improved 9 = .ok (.goto 6, 3) := by decide +kernel
theorem dL_improved_12 : decode cL_improved 12 = .ok (.astore_n 3, 1) := by decide +kernel
theorem dL_improved_13 : decode cL_improved 13 = .ok (.iconst 1, 1) := by decide +kernel
theorem dL_improved_14 : decode cL_improved 14 = .ok (.ireturn, 1) := by decide +kernel
theorem dL_improved_15 : decode cL_improved 15 = .ok (.iconst 0, 1) := by decide +kernel
theorem dL_improved_16 : decode cL_improved 16 = .ok (.ireturn, 1) := by decide +kernel
set_option maxRecDepth 10000 in
theorem wr_improved {sc : Nat × (Nat → Int32)} {d : Nat} {σ σ1 : aH} {u u1 : Nat} {x1 : Int} {r : Int} (hG : G σ u) (hG1 : G σ1 u1) (rr : inR r) (h : Ev sc d mX9_improved [.ref 0, .int (nZ x1)] σ (.inl (some (.int (nZ r)))) σ1) : Ev sc (d + 1) mL_improved [.ref 0, .int (nZ x1), .ref 344] σ (.inl (some (.int (nZ 0)))) (wJ σ1 344 0 r) := by
  refine Ev.ofH (c := 11) (code := cL_improved) (mL := 4) (rt := (some .int)) (hs := [(0, 9, 12, 13)]) (l := [(0, .ref 0), (1, .int (nZ x1)), (2, .ref 344)]) rfl rfl rfl rfl (by decide) (by decide +kernel) rfl rfl ?_
  refine w_aload_n dL_improved_0 rfl (List.Mem.tail _ (List.Mem.tail _ (List.Mem.head _))) ?_
  refine w_iconst (v := nZ 0) dL_improved_1 (by decide) ?_
  refine w_aload_n dL_improved_2 rfl (List.Mem.head _) ?_
  refine w_iload_n dL_improved_3 rfl (List.Mem.tail _ (List.Mem.head _)) ?_
  refine w_callV dL_improved_4 ml_11_107 ⟨ok_X9_improved, vi_X9_improved⟩ hs_X9_improved (As := [.int (nZ x1)]) rfl rfl (gT hG rfl (lt_of rfl)) (Nat.le_of_ble_eq_true rfl) h ?_
  show wp (Ev sc d) 11 cL_improved 4 (some .int) false [(0, 9, 12, 13)] sc _ 7 [(0, .ref 0), (1, .int (nZ x1)), (2, .ref 344)] [.int (nZ r), .int (nZ 0), .ref 344] σ1
  refine i_2l dL_improved_7 rr ?_
  refine i_last (n := 1) dL_improved_8 (gT hG1 rfl (lt_of rfl)) (gL hG1 rfl) (by decide) (by decide) (fun σ2 e2 => ?_)
  refine w_goto (tgt := 15) dL_improved_9 rfl ?_
  refine w_iconst (v := nZ 0) dL_improved_15 (by decide) ?_
  exact w_iret dL_improved_16 rfl ⟨rfl, e2.symm⟩
set_option maxRecDepth 10000 in
theorem wr_improved_1 {sc : Nat × (Nat → Int32)} {d : Nat} {σ σ1 : aH} {u u1 : Nat} {x1 : Int} (hG : G σ u) (h : Ev sc d mX9_improved [.ref 0, .int (nZ x1)] σ (.inr 1) σ1) : Ev sc (d + 1) mL_improved [.ref 0, .int (nZ x1), .ref 344] σ (.inl (some (.int (nZ 1)))) σ1 := by
  refine Ev.ofH (c := 11) (code := cL_improved) (mL := 4) (rt := (some .int)) (hs := [(0, 9, 12, 13)]) (l := [(0, .ref 0), (1, .int (nZ x1)), (2, .ref 344)]) rfl rfl rfl rfl (by decide) (by decide +kernel) rfl rfl ?_
  refine w_aload_n dL_improved_0 rfl (List.Mem.tail _ (List.Mem.tail _ (List.Mem.head _))) ?_
  refine w_iconst (v := nZ 0) dL_improved_1 (by decide) ?_
  refine w_aload_n dL_improved_2 rfl (List.Mem.head _) ?_
  refine w_iload_n dL_improved_3 rfl (List.Mem.tail _ (List.Mem.head _)) ?_
  refine w_catchV (ex := 1) (k := 3) (tgt := 12) (len := 1) dL_improved_4 mp_11_107 ⟨ok_X9_improved, vi_X9_improved⟩ hs_X9_improved (As := [.int (nZ x1)]) rfl rfl (gT hG rfl (lt_of rfl)) (Nat.le_of_ble_eq_true rfl) h (⟨rfl, 0, 9, by decide, by decide, Or.inr (Or.inl ⟨rfl, rfl⟩)⟩) (Or.inr ⟨3, rfl, dL_improved_12, rfl⟩) (by decide) ?_
  refine w_iconst (v := nZ 1) dL_improved_13 (by decide) ?_
  exact w_iret dL_improved_14 rfl ⟨rfl, rfl⟩
theorem dL_out_0 : decode cL_out 0 = .ok (.aload_n 2, 1) := by decide +kernel
theorem dL_out_1 : decode cL_out 1 = .ok (.iconst 0, 1) := by decide +kernel
theorem dL_out_2 : decode cL_out 2 = .ok (.aload_n 0, 1) := by decide +kernel
theorem dL_out_3 : decode cL_out 3 = .ok (.iload_n 1, 1) := by decide +kernel
theorem dL_out_4 : decode cL_out 4 = .ok (.invokevirtual 110, 3) := by decide +kernel
theorem dL_out_7 : decode cL_out 7 = .ok (.i2l, 1) := by decide +kernel
theorem dL_out_8 : decode cL_out 8 = .ok (.lastore, 1) := by decide +kernel
theorem dL_out_9 : decode cL_out 9 = .ok (.goto 6, 3) := by decide +kernel
theorem dL_out_12 : decode cL_out 12 = .ok (.astore_n 3, 1) := by decide +kernel
theorem dL_out_13 : decode cL_out 13 = .ok (.iconst 1, 1) := by decide +kernel
theorem dL_out_14 : decode cL_out 14 = .ok (.ireturn, 1) := by decide +kernel
theorem dL_out_15 : decode cL_out 15 = .ok (.iconst 0, 1) := by decide +kernel
theorem dL_out_16 : decode cL_out 16 = .ok (.ireturn, 1) := by decide +kernel
set_option maxRecDepth 10000 in
theorem wr_out {sc : Nat × (Nat → Int32)} {d : Nat} {σ σ1 : aH} {u u1 : Nat} {x1 : Int} {r : Int} (hG : G σ u) (hG1 : G σ1 u1) (rr : inR r) (h : Ev sc d mX9_out [.ref 0, .int (nZ x1)] σ (.inl (some (.int (nZ r)))) σ1) : Ev sc (d + 1) mL_out [.ref 0, .int (nZ x1), .ref 344] σ (.inl (some (.int (nZ 0)))) (wJ σ1 344 0 r) := by
  refine Ev.ofH (c := 11) (code := cL_out) (mL := 4) (rt := (some .int)) (hs := [(0, 9, 12, 22)]) (l := [(0, .ref 0), (1, .int (nZ x1)), (2, .ref 344)]) rfl rfl rfl rfl (by decide) (by decide +kernel) rfl rfl ?_
  refine w_aload_n dL_out_0 rfl (List.Mem.tail _ (List.Mem.tail _ (List.Mem.head _))) ?_
  refine w_iconst (v := nZ 0) dL_out_1 (by decide) ?_
  refine w_aload_n dL_out_2 rfl (List.Mem.head _) ?_
  refine w_iload_n dL_out_3 rfl (List.Mem.tail _ (List.Mem.head _)) ?_
  refine w_callV dL_out_4 ml_11_110 ⟨ok_X9_out, vi_X9_out⟩ hs_X9_out (As := [.int (nZ x1)]) rfl rfl (gT hG rfl (lt_of rfl)) (Nat.le_of_ble_eq_true rfl) h ?_
  show wp (Ev sc d) 11 cL_out 4 (some .int) false [(0, 9, 12, 22)] sc _ 7 [(0, .ref 0), (1, .int (nZ x1)), (2, .ref 344)] [.int (nZ r), .int (nZ 0), .ref 344] σ1
  refine i_2l dL_out_7 rr ?_
  refine i_last (n := 1) dL_out_8 (gT hG1 rfl (lt_of rfl)) (gL hG1 rfl) (by decide) (by decide) (fun σ2 e2 => ?_)
  refine w_goto (tgt := 15) dL_out_9 rfl ?_
  refine w_iconst (v := nZ 0) dL_out_15 (by decide) ?_
  exact w_iret dL_out_16 rfl ⟨rfl, e2.symm⟩
set_option maxRecDepth 10000 in
theorem wr_out_0 {sc : Nat × (Nat → Int32)} {d : Nat} {σ σ1 : aH} {u u1 : Nat} {x1 : Int} (hG : G σ u) (h : Ev sc d mX9_out [.ref 0, .int (nZ x1)] σ (.inr 0) σ1) : Ev sc (d + 1) mL_out [.ref 0, .int (nZ x1), .ref 344] σ (.inl (some (.int (nZ 1)))) σ1 := by
  refine Ev.ofH (c := 11) (code := cL_out) (mL := 4) (rt := (some .int)) (hs := [(0, 9, 12, 22)]) (l := [(0, .ref 0), (1, .int (nZ x1)), (2, .ref 344)]) rfl rfl rfl rfl (by decide) (by decide +kernel) rfl rfl ?_
  refine w_aload_n dL_out_0 rfl (List.Mem.tail _ (List.Mem.tail _ (List.Mem.head _))) ?_
  refine w_iconst (v := nZ 0) dL_out_1 (by decide) ?_
  refine w_aload_n dL_out_2 rfl (List.Mem.head _) ?_
  refine w_iload_n dL_out_3 rfl (List.Mem.tail _ (List.Mem.head _)) ?_
  refine w_catchV (ex := 0) (k := 3) (tgt := 12) (len := 1) dL_out_4 mp_11_110 ⟨ok_X9_out, vi_X9_out⟩ hs_X9_out (As := [.int (nZ x1)]) rfl rfl (gT hG rfl (lt_of rfl)) (Nat.le_of_ble_eq_true rfl) h (⟨rfl, 0, 9, by decide, by decide, Or.inl ⟨rfl, rfl⟩⟩) (Or.inr ⟨3, rfl, dL_out_12, rfl⟩) (by decide) ?_
  refine w_iconst (v := nZ 1) dL_out_13 (by decide) ?_
  exact w_iret dL_out_14 rfl ⟨rfl, rfl⟩
