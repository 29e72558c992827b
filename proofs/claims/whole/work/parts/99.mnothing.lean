/-! THE REFERENCE: tellsNothing, which makes a row of its own. -/
/-- k cells and w slots more; below 345 only the ints of A may have changed -/
def Fw8 (A : Nat → Int → Prop) (k w : Nat) (σ σ1 : aH) : Prop := σ1.1 = σ.1 ∧ (∀ a : Nat, a < 345 → σ1.2.1 a = σ.2.1 a) ∧ (∀ a : Nat, a < 345 → σ1.2.2.2.1 a = σ.2.2.2.1 a) ∧ gN σ1 = gN σ + k ∧ gW σ1 = gW σ + w ∧ ∀ (a : Nat) (i : Int), a < 345 → 0 ≤ i → ¬ A a i → rI σ1 a i = rI σ a i
theorem Fw8.g {A : Nat → Int → Prop} {k w : Nat} {σ σ1 : aH} {u : Nat} (h : Fw8 A k w σ σ1) (hG : G σ u) : G σ1 u := by
  refine ⟨h.1.trans hG.1, by rw [h.2.2.2.1]; have := hG.2.1; omega, ?_, ?_, hG.2.2.2.2⟩
  · show σ1.2.1 0 5 = some u
    rw [h.2.1 0 (by decide)]; exact hG.2.2.1
  · show σ1.2.1 27 5 = some u
    rw [h.2.1 27 (by decide)]; exact hG.2.2.2.1
theorem Fr.v {A : Nat → Int → Prop} {σ σ1 : aH} (h : Fr A σ σ1) : Fw8 A 0 0 σ σ1 := by
  obtain ⟨⟨h1, h2, h3⟩, h4⟩ := h
  refine ⟨h1, fun a _ => by rw [h2], fun a _ => by rw [h3], ?_, ?_, fun a i _ i0 hn => h4 a i i0 hn⟩
  · unfold gN; rw [h3]; rfl
  · unfold gW; rw [h3]; rfl
theorem Fw8.trans {A : Nat → Int → Prop} {k w k1 w1 : Nat} {σ σ1 σ2 : aH} (h : Fw8 A k w σ σ1) (g : Fw8 A k1 w1 σ1 σ2) : Fw8 A (k + k1) (w + w1) σ σ2 :=
  ⟨g.1.trans h.1, fun a ha => (g.2.1 a ha).trans (h.2.1 a ha), fun a ha => (g.2.2.1 a ha).trans (h.2.2.1 a ha), by rw [g.2.2.2.1, h.2.2.2.1]; omega, by rw [g.2.2.2.2.1, h.2.2.2.2.1]; omega, fun a i ha i0 hn => (g.2.2.2.2.2 a i ha i0 hn).trans (h.2.2.2.2.2 a i ha i0 hn)⟩
theorem Fw8.weak {A B : Nat → Int → Prop} {k w : Nat} {σ σ1 : aH} (h : Fw8 A k w σ σ1) (g : ∀ a i, A a i → B a i) : Fw8 B k w σ σ1 :=
  ⟨h.1, h.2.1, h.2.2.1, h.2.2.2.1, h.2.2.2.2.1, fun a i ha i0 hn => h.2.2.2.2.2 a i ha i0 (fun q => hn (g a i q))⟩
theorem Fw8.rw {A : Nat → Int → Prop} {k w : Nat} {σ σ1 : aH} {a : Nat} {i : Int} (h : Fw8 A k w σ σ1) (ha : a < 345) (h0 : 0 ≤ i) (hn : ¬ A a i) : rI σ1 a i = rI σ a i := h.2.2.2.2.2 a i ha h0 hn
theorem sNew_1 {σ : aH} {t n w a : Nat} (h : a ≠ gN σ) : (sNew σ t n w).1 a = σ.1 a := va_up_ne _ _ h
theorem S0_hi {a : Nat} (h : 345 ≤ a) : S0 a = (0, 0, fun _ => none) := by
  have l : sTab.length = 345 := by decide +kernel
  have e : sTab.getD a (0, 0, []) = (0, 0, []) := by
    rw [List.getD_eq_getElem?_getD, List.getElem?_eq_none (by omega)]
    rfl
  show ((sTab.getD a (0, 0, [])).1, (sTab.getD a (0, 0, [])).2.1, fun k => if (sTab.getD a (0, 0, [])).1 = 104 then (if k < (sTab.getD a (0, 0, [])).2.1 then some (a + 1 + k) else none) else (sTab.getD a (0, 0, [])).2.2.getD k none) = (0, 0, fun _ => none)
  rw [e]; rfl
theorem dX10_tellsNothing_0 : decode cX10_tellsNothing 0 = .ok (.bipush 8, 2) := by decide +kernel
theorem dX10_tellsNothing_2 : decode cX10_tellsNothing 2 = .ok (.newarray .int, 2) := by decide +kernel
theorem dX10_tellsNothing_4 : decode cX10_tellsNothing 4 = .ok (.dup, 1) := by decide +kernel
theorem dX10_tellsNothing_5 : decode cX10_tellsNothing 5 = .ok (.iconst 0, 1) := by decide +kernel
theorem dX10_tellsNothing_6 : decode cX10_tellsNothing 6 = .ok (.bipush 6, 2) := by decide +kernel
theorem dX10_tellsNothing_8 : decode cX10_tellsNothing 8 = .ok (.iastore, 1) := by decide +kernel
theorem dX10_tellsNothing_9 : decode cX10_tellsNothing 9 = .ok (.dup, 1) := by decide +kernel
theorem dX10_tellsNothing_10 : decode cX10_tellsNothing 10 = .ok (.iconst 1, 1) := by decide +kernel
theorem dX10_tellsNothing_11 : decode cX10_tellsNothing 11 = .ok (.iconst 4, 1) := by decide +kernel
theorem dX10_tellsNothing_12 : decode cX10_tellsNothing 12 = .ok (.iastore, 1) := by decide +kernel
theorem dX10_tellsNothing_13 : decode cX10_tellsNothing 13 = .ok (.dup, 1) := by decide +kernel
theorem dX10_tellsNothing_14 : decode cX10_tellsNothing 14 = .ok (.iconst 2, 1) := by decide +kernel
theorem dX10_tellsNothing_15 : decode cX10_tellsNothing 15 = .ok (.iconst 0, 1) := by decide +kernel
theorem dX10_tellsNothing_16 : decode cX10_tellsNothing 16 = .ok (.iastore, 1) := by decide +kernel
theorem dX10_tellsNothing_17 : decode cX10_tellsNothing 17 = .ok (.dup, 1) := by decide +kernel
theorem dX10_tellsNothing_18 : decode cX10_tellsNothing 18 = .ok (.iconst 3, 1) := by decide +kernel
theorem dX10_tellsNothing_19 : decode cX10_tellsNothing 19 = .ok (.sipush 1440, 3) := by decide +kernel
theorem dX10_tellsNothing_22 : decode cX10_tellsNothing 22 = .ok (.iastore, 1) := by decide +kernel
theorem dX10_tellsNothing_23 : decode cX10_tellsNothing 23 = .ok (.dup, 1) := by decide +kernel
theorem dX10_tellsNothing_24 : decode cX10_tellsNothing 24 = .ok (.iconst 4, 1) := by decide +kernel
theorem dX10_tellsNothing_25 : decode cX10_tellsNothing 25 = .ok (.sipush 1440, 3) := by decide +kernel
theorem dX10_tellsNothing_28 : decode cX10_tellsNothing 28 = .ok (.iastore, 1) := by decide +kernel
theorem dX10_tellsNothing_29 : decode cX10_tellsNothing 29 = .ok (.dup, 1) := by decide +kernel
theorem dX10_tellsNothing_30 : decode cX10_tellsNothing 30 = .ok (.iconst 5, 1) := by decide +kernel
theorem dX10_tellsNothing_31 : decode cX10_tellsNothing 31 = .ok (.iconst 0, 1) := by decide +kernel
theorem dX10_tellsNothing_32 : decode cX10_tellsNothing 32 = .ok (.iastore, 1) := by decide +kernel
theorem dX10_tellsNothing_33 : decode cX10_tellsNothing 33 = .ok (.dup, 1) := by decide +kernel
theorem dX10_tellsNothing_34 : decode cX10_tellsNothing 34 = .ok (.bipush 6, 2) := by decide +kernel
theorem dX10_tellsNothing_36 : decode cX10_tellsNothing 36 = .ok (.iconst 0, 1) := by decide +kernel
theorem dX10_tellsNothing_37 : decode cX10_tellsNothing 37 = .ok (.iastore, 1) := by decide +kernel
theorem dX10_tellsNothing_38 : decode cX10_tellsNothing 38 = .ok (.dup, 1) := by decide +kernel
theorem dX10_tellsNothing_39 : decode cX10_tellsNothing 39 = .ok (.bipush 7, 2) := by decide +kernel
theorem dX10_tellsNothing_41 : decode cX10_tellsNothing 41 = .ok (.iconst 0, 1) := by decide +kernel
theorem dX10_tellsNothing_42 : decode cX10_tellsNothing 42 = .ok (.iastore, 1) := by decide +kernel
theorem dX10_tellsNothing_43 : decode cX10_tellsNothing 43 = .ok (.astore_n 1, 1) := by decide +kernel
theorem dX10_tellsNothing_44 : decode cX10_tellsNothing 44 = .ok (.iconst 0, 1) := by decide +kernel
theorem dX10_tellsNothing_45 : decode cX10_tellsNothing 45 = .ok (.istore_n 2, 1) := by decide +kernel
theorem dX10_tellsNothing_46 : decode cX10_tellsNothing 46 = .ok (.iload_n 2, 1) := by decide +kernel
theorem dX10_tellsNothing_47 : decode cX10_tellsNothing 47 = .ok (.bipush 8, 2) := by decide +kernel
theorem dX10_tellsNothing_49 : decode cX10_tellsNothing 49 = .ok (.if_icmp .ge 18, 3) := by decide +kernel
theorem dX10_tellsNothing_52 : decode cX10_tellsNothing 52 = .ok (.aload_n 0, 1) := by decide +kernel
theorem dX10_tellsNothing_53 : decode cX10_tellsNothing 53 = .ok (.getfield 20, 3) := by decide +kernel
theorem dX10_tellsNothing_56 : decode cX10_tellsNothing 56 = .ok (.iload_n 2, 1) := by decide +kernel
theorem dX10_tellsNothing_57 : decode cX10_tellsNothing 57 = .ok (.aload_n 1, 1) := by decide +kernel
theorem dX10_tellsNothing_58 : decode cX10_tellsNothing 58 = .ok (.iload_n 2, 1) := by decide +kernel
theorem dX10_tellsNothing_59 : decode cX10_tellsNothing 59 = .ok (.iaload, 1) := by decide +kernel
theorem dX10_tellsNothing_60 : decode cX10_tellsNothing 60 = .ok (.iastore, 1) := by decide +kernel
theorem dX10_tellsNothing_61 : decode cX10_tellsNothing 61 = .ok (.iinc 2 1, 3) := by decide +kernel
theorem dX10_tellsNothing_64 : decode cX10_tellsNothing 64 = .ok (.goto (-18), 3) := by decide +kernel
theorem dX10_tellsNothing_67 : decode cX10_tellsNothing 67 = .ok (.return_, 1) := by decide +kernel
section
variable {sc : Nat × (Nat → Int32)} {d : Nat} {σ : aH} {u : Nat}
set_option maxRecDepth 10000 in
theorem m_tellsNothing (hG : G σ u) (hb : gN σ + 1 ≤ 1000000) : TV sc (d + 1) mX10_tellsNothing [.ref 76] σ (fun σ1 => Fw8 (fun a _ => a = 79) 1 8 σ σ1 ∧ rI σ1 79 0 = 6 ∧ rI σ1 79 1 = 4 ∧ rI σ1 79 2 = 0 ∧ rI σ1 79 3 = 1440 ∧ rI σ1 79 4 = 1440 ∧ rI σ1 79 5 = 0 ∧ rI σ1 79 6 = 0 ∧ rI σ1 79 7 = 0) := by
  obtain ⟨N, hN⟩ : ∃ N : Nat, N = gN σ := ⟨_, rfl⟩
  have N5 : 345 ≤ N := by rw [hN]; exact hG.2.1
  apply T.void
  obtain ⟨P, hP⟩ : ∃ P : aO → aH → Prop, P = QV (fun σ1 => Fw8 (fun a _ => a = 79) 1 8 σ σ1 ∧ rI σ1 79 0 = 6 ∧ rI σ1 79 1 = 4 ∧ rI σ1 79 2 = 0 ∧ rI σ1 79 3 = 1440 ∧ rI σ1 79 4 = 1440 ∧ rI σ1 79 5 = 0 ∧ rI σ1 79 6 = 0 ∧ rI σ1 79 7 = 0) := ⟨_, rfl⟩
  rw [← hP]
  refine T.of (c := 10) (code := cX10_tellsNothing) (mL := 3) (rt := none) (ini := false) (l := [(0, .ref 76)]) rfl rfl rfl rfl (by decide) hs_X10_tellsNothing rfl rfl ?_
  refine w_bipush (v := nZ 8) dX10_tellsNothing_0 (by decide) ?_
  refine w_newaI dX10_tellsNothing_2 rfl (by decide) hb ?_
  rw [show (nZ 8).toNatClampNeg = 8 from by decide, ← hN]
  obtain ⟨σa, ha⟩ : ∃ σa : aH, σa = sNew σ 101 8 8 := ⟨_, rfl⟩
  rw [← ha]
  have tN : ∀ τ : aH, τ.1 = σa.1 → gN τ = gN σa → (tg τ N = 101 ∧ N < gN τ) ∧ ln τ N = 8 := fun τ h1 h2 => by
    have e : τ.1 N = (101, 8, fun _ => none) := by rw [h1, ha, hN]; exact va_up_self _ _ _
    refine ⟨⟨by unfold tg; rw [e], by rw [h2, ha]; show N < gN σ + 1; omega⟩, by unfold ln; rw [e]⟩
  have lo : ∀ τ : aH, τ.1 = σa.1 → ∀ a : Nat, a < 345 → τ.1 a = S0 a := fun τ h1 a h => by rw [h1, ha, sNew_1 (by omega), hG.1]
  refine w_dup dX10_tellsNothing_4 rfl ?_
  refine w_iconst (v := nZ 0) dX10_tellsNothing_5 (by decide) ?_
  refine w_bipush (v := nZ 6) dX10_tellsNothing_6 (by decide) ?_
  refine i_iast (n := 8) dX10_tellsNothing_8 (tN σa rfl rfl).1 (tN σa rfl rfl).2 (by decide) (by decide) (fun σ0 e0 => ?_)
  have s0 : σ0.1 = σa.1 ∧ gN σ0 = gN σa := by rw [← e0]; exact ⟨rfl, rfl⟩
  refine w_dup dX10_tellsNothing_9 rfl ?_
  refine w_iconst (v := nZ 1) dX10_tellsNothing_10 (by decide) ?_
  refine w_iconst (v := nZ 4) dX10_tellsNothing_11 (by decide) ?_
  refine i_iast (n := 8) dX10_tellsNothing_12 (tN σ0 s0.1 s0.2).1 (tN σ0 s0.1 s0.2).2 (by decide) (by decide) (fun σ1 e1 => ?_)
  have s1 : σ1.1 = σa.1 ∧ gN σ1 = gN σa := by rw [← e1]; exact ⟨s0.1, s0.2⟩
  refine w_dup dX10_tellsNothing_13 rfl ?_
  refine w_iconst (v := nZ 2) dX10_tellsNothing_14 (by decide) ?_
  refine w_iconst (v := nZ 0) dX10_tellsNothing_15 (by decide) ?_
  refine i_iast (n := 8) dX10_tellsNothing_16 (tN σ1 s1.1 s1.2).1 (tN σ1 s1.1 s1.2).2 (by decide) (by decide) (fun σ2 e2 => ?_)
  have s2 : σ2.1 = σa.1 ∧ gN σ2 = gN σa := by rw [← e2]; exact ⟨s1.1, s1.2⟩
  refine w_dup dX10_tellsNothing_17 rfl ?_
  refine w_iconst (v := nZ 3) dX10_tellsNothing_18 (by decide) ?_
  refine w_sipush (v := nZ 1440) dX10_tellsNothing_19 (by decide) ?_
  refine i_iast (n := 8) dX10_tellsNothing_22 (tN σ2 s2.1 s2.2).1 (tN σ2 s2.1 s2.2).2 (by decide) (by decide) (fun σ3 e3 => ?_)
  have s3 : σ3.1 = σa.1 ∧ gN σ3 = gN σa := by rw [← e3]; exact ⟨s2.1, s2.2⟩
  refine w_dup dX10_tellsNothing_23 rfl ?_
  refine w_iconst (v := nZ 4) dX10_tellsNothing_24 (by decide) ?_
  refine w_sipush (v := nZ 1440) dX10_tellsNothing_25 (by decide) ?_
  refine i_iast (n := 8) dX10_tellsNothing_28 (tN σ3 s3.1 s3.2).1 (tN σ3 s3.1 s3.2).2 (by decide) (by decide) (fun σ4 e4 => ?_)
  have s4 : σ4.1 = σa.1 ∧ gN σ4 = gN σa := by rw [← e4]; exact ⟨s3.1, s3.2⟩
  refine w_dup dX10_tellsNothing_29 rfl ?_
  refine w_iconst (v := nZ 5) dX10_tellsNothing_30 (by decide) ?_
  refine w_iconst (v := nZ 0) dX10_tellsNothing_31 (by decide) ?_
  refine i_iast (n := 8) dX10_tellsNothing_32 (tN σ4 s4.1 s4.2).1 (tN σ4 s4.1 s4.2).2 (by decide) (by decide) (fun σ5 e5 => ?_)
  have s5 : σ5.1 = σa.1 ∧ gN σ5 = gN σa := by rw [← e5]; exact ⟨s4.1, s4.2⟩
  refine w_dup dX10_tellsNothing_33 rfl ?_
  refine w_bipush (v := nZ 6) dX10_tellsNothing_34 (by decide) ?_
  refine w_iconst (v := nZ 0) dX10_tellsNothing_36 (by decide) ?_
  refine i_iast (n := 8) dX10_tellsNothing_37 (tN σ5 s5.1 s5.2).1 (tN σ5 s5.1 s5.2).2 (by decide) (by decide) (fun σ6 e6 => ?_)
  have s6 : σ6.1 = σa.1 ∧ gN σ6 = gN σa := by rw [← e6]; exact ⟨s5.1, s5.2⟩
  refine w_dup dX10_tellsNothing_38 rfl ?_
  refine w_bipush (v := nZ 7) dX10_tellsNothing_39 (by decide) ?_
  refine w_iconst (v := nZ 0) dX10_tellsNothing_41 (by decide) ?_
  refine i_iast (n := 8) dX10_tellsNothing_42 (tN σ6 s6.1 s6.2).1 (tN σ6 s6.1 s6.2).2 (by decide) (by decide) (fun σ7 e7 => ?_)
  have s7 : σ7.1 = σa.1 ∧ gN σ7 = gN σa := by rw [← e7]; exact ⟨s6.1, s6.2⟩
  refine w_astore_n (l' := [(1, .ref N), (0, .ref 76)]) dX10_tellsNothing_43 rfl (by decide) rfl ?_
  refine w_iconst (v := nZ 0) dX10_tellsNothing_44 (by decide) ?_
  refine w_istore_n (l' := [(2, .int (nZ 0)), (1, .ref N), (0, .ref 76)]) dX10_tellsNothing_45 rfl (by decide) rfl ?_
  have row : rI σ7 N 0 = 6 ∧ rI σ7 N 1 = 4 ∧ rI σ7 N 2 = 0 ∧ rI σ7 N 3 = 1440 ∧ rI σ7 N 4 = 1440 ∧ rI σ7 N 5 = 0 ∧ rI σ7 N 6 = 0 ∧ rI σ7 N 7 = 0 := by
    rw [← e7, ← e6, ← e5, ← e4, ← e3, ← e2, ← e1, ← e0]
    refine ⟨?_, ?_, ?_, ?_, ?_, ?_, ?_, ?_⟩
    all_goals repeat (first | rw [rI_ww (by decide)] | rw [rI_wi (by decide)])
  have low : ∀ (a : Nat) (i : Int), a < 345 → rI σ7 a i = rI σ a i := fun a i h => by
    rw [← e7, rI_wa (by omega), ← e6, rI_wa (by omega), ← e5, rI_wa (by omega), ← e4, rI_wa (by omega), ← e3, rI_wa (by omega), ← e2, rI_wa (by omega), ← e1, rI_wa (by omega), ← e0, rI_wa (by omega), ha]
    show (va_up σ.2.2.1 (gN σ) (fun _ => 0) a i.toNat).toInt = _
    rw [va_up_ne _ _ (show a ≠ gN σ by omega)]; rfl
  have rest : σ7.2.1 = σa.2.1 ∧ σ7.2.2.2 = σa.2.2.2 := by
    rw [← e7, ← e6, ← e5, ← e4, ← e3, ← e2, ← e1, ← e0]; exact ⟨rfl, rfl⟩
  have loop : ∀ (f : Nat) (k : Int) (τ : aH), (8 - k).toNat = f → 0 ≤ k → k ≤ 8 → Fr (fun a _ => a = 79) σ7 τ → (∀ i : Int, 0 ≤ i → i < k → rI τ 79 i = rI σ7 N i) → wp (Ev sc d) 10 cX10_tellsNothing 3 none false [] sc P 46 [(2, .int (nZ k)), (1, .ref N), (0, .ref 76)] [] τ := by
    intro f
    induction f with
    | zero =>
      intro k τ hf k0 k8 hF hk
      refine w_iload_n dX10_tellsNothing_46 rfl (List.Mem.head _) ?_
      refine w_bipush (v := nZ 8) dX10_tellsNothing_47 (by decide) ?_
      refine i_cmp_ge (tgt := 67) dX10_tellsNothing_49 rfl (by omega) (by decide) (fun c9 => ?_) (fun c9 => by omega)
      refine w_drop (a := N) ?_
      refine w_vret dX10_tellsNothing_67 rfl ?_
      rw [hP]
      have t1 : τ.1 = σa.1 := hF.1.1.trans s7.1
      refine ⟨rfl, ⟨?_, fun a h => ?_, fun a h => ?_, ?_, ?_, fun a i h i0 hn => (hF.rw i0 hn).trans (low a i h)⟩, ?_⟩
      · funext a
        show va_up τ.1 N (0, 0, fun _ => none) a = σ.1 a
        by_cases c : a = N
        · rw [c, va_up_self, hG.1, S0_hi N5]
        · rw [va_up_ne _ _ c, t1, ha, sNew_1 (by omega)]
      · show τ.2.1 a = σ.2.1 a
        rw [hF.1.2.1, rest.1, ha]
        exact va_up_ne _ _ (by show a ≠ gN σ; omega)
      · show τ.2.2.2.1 a = σ.2.2.2.1 a
        rw [hF.1.2.2, rest.2, ha]
        exact va_up_ne _ _ (by show a ≠ gN σ; omega)
      · show τ.2.2.2.2.1 = gN σ + 1
        rw [hF.1.2.2, rest.2, ha]; rfl
      · show τ.2.2.2.2.2 = gW σ + 8
        rw [hF.1.2.2, rest.2, ha]; rfl
      · have r : ∀ i : Int, 0 ≤ i → i < 8 → rI (sDrop τ N) 79 i = rI σ7 N i := fun i a b => hk i a (by omega)
        obtain ⟨r0, r1, r2, r3, r4, r5, r6, r7⟩ := row
        exact ⟨(r 0 (by decide) (by decide)).trans r0, (r 1 (by decide) (by decide)).trans r1, (r 2 (by decide) (by decide)).trans r2, (r 3 (by decide) (by decide)).trans r3, (r 4 (by decide) (by decide)).trans r4, (r 5 (by decide) (by decide)).trans r5, (r 6 (by decide) (by decide)).trans r6, (r 7 (by decide) (by decide)).trans r7⟩
    | succ f ih =>
      intro k τ hf k0 k8 hF hk
      have t1 : τ.1 = σa.1 := hF.1.1.trans s7.1
      have t2 : gN τ = gN σa := by unfold gN; rw [hF.1.2.2, rest.2]
      have l0 := lo τ t1
      have g76 : tg τ 76 = 11 ∧ 76 < gN τ := ⟨by unfold tg; rw [l0 76 (by decide)]; rfl, by rw [t2, ha]; show 76 < gN σ + 1; omega⟩
      have g79 : tg τ 79 = 101 ∧ 79 < gN τ := ⟨by unfold tg; rw [l0 79 (by decide)]; rfl, by rw [t2, ha]; show 79 < gN σ + 1; omega⟩
      have n79 : ln τ 79 = 8 := by unfold ln; rw [l0 79 (by decide)]; rfl
      have r79 : rf τ 76 10 = some 79 := by unfold rf; rw [l0 76 (by decide)]; rfl
      have tn := tN τ t1 t2
      have kr : inR k := by omega
      refine w_iload_n dX10_tellsNothing_46 rfl (List.Mem.head _) ?_
      refine w_bipush (v := nZ 8) dX10_tellsNothing_47 (by decide) ?_
      refine i_cmp_ge (tgt := 67) dX10_tellsNothing_49 rfl kr (by decide) (fun c9 => by omega) (fun c9 => ?_)
      refine w_aload_n dX10_tellsNothing_52 rfl (List.Mem.tail _ (List.Mem.tail _ (List.Mem.head _))) ?_
      refine w_getR (ci := 10) (k := 10) (b := 79) dX10_tellsNothing_53 fl_10_20 (by decide) g76 r79 ?_
      refine w_iload_n dX10_tellsNothing_56 rfl (List.Mem.head _) ?_
      refine w_aload_n dX10_tellsNothing_57 rfl (List.Mem.tail _ (List.Mem.head _)) ?_
      refine w_iload_n dX10_tellsNothing_58 rfl (List.Mem.head _) ?_
      refine i_iald (n := 8) dX10_tellsNothing_59 tn.1 tn.2 kr (by omega) ?_
      refine i_iast (n := 8) dX10_tellsNothing_60 g79 n79 kr (by omega) (fun σ1 e1 => ?_)
      refine w_iinc (v := nZ (k + 1)) (l' := [(2, .int (nZ (k + 1))), (1, .ref N), (0, .ref 76)]) dX10_tellsNothing_61 (List.Mem.head _) (nZ_add _ _) (by decide) rfl ?_
      refine w_goto (tgt := 46) dX10_tellsNothing_64 rfl ?_
      have eN : rI τ N k = rI σ7 N k := hF.rw k0 (by show ¬ N = 79; omega)
      refine ih (k + 1) σ1 (by omega) (by omega) (by omega) ?_ (fun i i0 i1 => ?_)
      · rw [← e1]; exact hF.trans (Fr.w k0 rfl)
      · rw [← e1, eN]
        by_cases c : i = k
        · rw [c, rI_ww (rI_R _ _ _)]
        · rw [rI_wi (by omega)]; exact hk i i0 (by omega)
  exact loop _ 0 σ7 rfl (by decide) (by decide) (Fr.refl _ _) (fun i a b => by omega)
end
