/-! THE REFERENCE: a market told. -/
abbrev AMr : Nat → Int → Prop := fun a i => (a = 76 ∧ ((0 ≤ i ∧ i ≤ 7) ∨ i = 38 ∨ i = 39)) ∨ (a = 79 ∨ (82 ≤ a ∧ a ≤ 89) ∨ (101 ≤ a ∧ a ≤ 120) ∨ (143 ≤ a ∧ a ≤ 162))
theorem ACm_AMr (a : Nat) (i : Int) (h : ACm a i) : AMr a i := by
  rcases h with h | h
  · exact Or.inl ⟨h.1, by have := h.2; omega⟩
  · exact Or.inr (by omega)
/-- what a told market leaves: the fault's place, and either all stands as it stood, or what was read stands -/
def MkS (σ σ1 : aH) (R : PS) (r : Int) : Prop := (rI σ1 76 0 = 0 ∧ rI σ1 76 1 = 0 ∧ rI σ1 76 3 = R.1 10) ∧ ((R.1 9 ≠ 0 ∧ r = R.1 9 - 10 ∧ Fw8 AMr 1 8 σ σ1) ∨ (R.1 9 = 0 ∧ PDd R ∧ r = R.1 2 ∧ Fw8 (fun a i => AMr a i ∨ ASd a i) 1 8 σ σ1 ∧ ∃ m : Nat → Int → Int, Mc m R.1 R.2.1 R.2.2 ∧ SdS m (rI σ1) (R.1 2) (R.2.2 0) (R.2.2 1)))
def F4 (K : Nat → Int) : Prop := 0 ≤ K 9 ∧ K 9 ≤ 4
section
variable {c : Int → Int} {K : Nat → Int} {D : Nat → Int → Int} {E : Nat → Nat → Option Int}
theorem F4.set {i : Nat} {v : Int} (h : F4 K) (hi : 9 ≠ i) : F4 (kset K i v) := by
  unfold F4; rw [kset_ne hi]; exact h
theorem F4.flt {a b : Int} (h : F4 K) (ha : 1 ≤ a ∧ a ≤ 4) : F4 (flt K a b) := by
  by_cases z : K 9 = 0
  · rw [flt_0 z]; unfold F4; rw [kset_ne (by decide), kset_eq]; omega
  · rw [flt_1 z]; exact h
theorem F4.num {lo hi : Int} (h : F4 K) : F4 (numK c lo hi K) := by
  have h1 : F4 (kset K 11 (numE c K).2.1) := h.set (by decide)
  unfold numK
  split
  · exact h1.flt (by decide)
  · split
    · exact h1.flt (by decide)
    · exact h1
theorem F4.sk (h : F4 K) : F4 (skK c K) := h.set (by decide)
theorem F4.en (h : F4 K) : F4 (enK c K) := by
  unfold enK
  split
  · exact (h.sk (c := c)).set (by decide)
  · exact (h.sk (c := c)).flt (by decide)
theorem F4.nb {w : Int} (h : F4 K) : F4 (nbF c w (K, D, E)).1 := by
  unfold nbF
  split
  · exact ((h.num (c := c) (lo := 2) (hi := 9)).set (i := 0) (by decide)).num.set (by decide)
  · split
    · show F4 (kset (stK5 c K D) 2 (K 2 + 1))
      have h1 : F4 (stK3 c K) := (h.num (c := c) (lo := 0) (hi := K 0 - 1)).sk.num
      have h4 : F4 (stK4 c K D) := by
        unfold stK4 kif
        split
        · exact h1.flt (by decide)
        · exact h1
      exact h4.num.set (by decide)
    · split
      · exact (h.set (i := 7) (v := K 7 + 1) (by decide)).num.num.num.num
      · split
        · exact (h.set (i := 8) (v := K 8 + 1) (by decide)).num.num
        · split
          · exact h.num.set (by decide)
          · split
            · exact h.num.set (by decide)
            · split
              · exact h.num.set (by decide)
              · unfold ofF
                dsimp only
                split
                · split
                  · exact h.num.num
                  · split
                    · exact h.num.num.num
                    · exact h.num
                · exact h.num
theorem F4.cl {P : PS} (h : F4 P.1) : F4 (clF c P).1 := by
  obtain ⟨K, D, E⟩ := P
  have hl : F4 (lwK c K) := F4.set (K := K) h (by decide)
  unfold clF
  dsimp only
  by_cases c1 : clW c K = -1
  · rw [pif_pos c1]; exact hl.flt (by decide)
  · rw [pif_neg c1]
    by_cases c2 : 60 ≤ K 6 ∨ fullK (clW c K) K
    · rw [pif_pos c2]; exact hl.flt (by decide)
    · rw [pif_neg c2]
      by_cases c3 : clW c K = 0 ∧ 0 < K 6
      · rw [pif_pos c3]; exact hl.flt (by decide)
      · rw [pif_neg c3]; exact (hl.nb (c := c) (D := D) (E := E)).en.set (by decide)
theorem F4.rd {e : Int} : ∀ (f : Nat) {P : PS}, F4 P.1 → F4 (rdF c e f P).1
  | 0, P, h => h
  | f + 1, P, h => by
    show F4 (if P.1 11 < e ∧ P.1 9 = 0 then rdF c e f (skK c (clF c P).1, (clF c P).2) else P).1
    split
    · exact F4.rd f (P := (skK c (clF c P).1, (clF c P).2)) (h.cl (c := c)).sk
    · exact h
theorem F4.all {e : Int} : F4 (RdP c e D).1 := F4.rd 61 (F4.sk (K := K0) (by unfold F4; decide))
end
section
variable {sc : Nat × (Nat → Int32)} {d : Nat} {σ : aH} {u : Nat} {c : Int → Int} {e : Int}
theorem m_marketB {x : Int} (hG : G σ u) (rx : inR x) (hc : Rc σ) (hx : ¬ (0 ≤ x ∧ x ≤ rI σ 76 1)) : TI sc (d + 2) mX10_market [.ref 76, .int (nZ x)] σ (fun r σ1 => r = 0 ∧ MRef σ σ1 1 1) := by
  apply T.int
  apply t_X10_market hG rx
  intro σ1 e1
  obtain ⟨hG1, t1, hF1, hD1, o1⟩ := m_pre0 hG e1
  have v1 : rI σ1 76 1 = rI σ 76 1 := by rw [← e1]; exact rI_wi (by decide)
  obtain ⟨r8, σ4, he4, hr4, e4, hx4⟩ := m_in (sc := sc) (d := d) (x := x) (lo := 0) (hi := rI σ1 76 1) hG1 rx (by decide) (rI_R _ _ _)
  subst e4
  rw [v1] at hx4
  refine ⟨r8, σ4, he4, hG1, hr4, fun q => by omega, fun q => ?_⟩
  obtain ⟨σ3, he3, hm3⟩ := m_bad1 (sc := sc) (d := d) (w := 1) (q := 1) hG1 t1 (by omega) (by omega) ((hc.pre e1) 1 (by omega))
  apply v_X10_market_23 hG1 rx (by decide)
  exact ⟨1, σ3, he3, hm3.g hG1, by decide, fun z => absurd z (by decide), fun _ => ⟨0, rfl, by decide, rfl, hm3.pre e1⟩⟩
theorem McN.skip {τ τ1 : aH} {P : PS} {m7 : Int} (h : McN τ P m7) (hF : Fr (fun a i => a = 76 ∧ i = 4) τ τ1) : McN τ1 (skK c P.1, P.2) m7 := by
  obtain ⟨K, D, E⟩ := P
  obtain ⟨h1, h2, h3, h4, h5, h6⟩ := h
  dsimp only at h1 h3 h4 h5 h6
  have lk : ∀ i : Nat, i ≠ 11 → skK c K i = K i := fun i hi => kset_ne hi
  have o : ∀ (a : Nat) (i : Int), 0 ≤ i → (a ≠ 76 ∨ i ≠ 4) → rI τ1 a i = rI τ a i := fun a i p z => hF.rw p (by show ¬ (a = 76 ∧ i = 4); omega)
  refine ⟨(h1.f76 hF (fun a i p => by show ¬ (a = 76 ∧ i = 4); omega)).to (fun i hi => lk i (by omega)), (o _ _ (by decide) (by decide)).trans h2, ?_, ?_, ?_, ?_⟩
  · show rI τ1 76 38 = skK c K 7
    rw [lk 7 (by decide), o _ _ (by decide) (by decide)]; exact h3
  · show rI τ1 76 39 = skK c K 8
    rw [lk 8 (by decide), o _ _ (by decide) (by decide)]; exact h4
  · show rI τ1 79 6 ≤ skK c K 7
    rw [lk 7 (by decide), o _ _ (by decide) (by decide)]; exact h5
  · show rI τ1 79 7 ≤ skK c K 8
    rw [lk 8 (by decide), o _ _ (by decide) (by decide)]; exact h6
theorem m_market {x : Int} (D : Nat → Int → Int) (hG : G σ u) (rx : inR x) (hb : gN σ + 1 ≤ 1000000) (hx : 0 ≤ x ∧ x ≤ rI σ 76 1) (hT : TxS c x) (ht : ∀ k : Int, 0 ≤ k → k < x → rI σ 77 k = c k) : TI sc (d + 7) mX10_market [.ref 76, .int (nZ x)] σ (fun r σ1 => MkS σ σ1 (RdP c x D) r) := by
  obtain ⟨R, hR⟩ : ∃ R : PS, R = RdP c x D := ⟨_, rfl⟩
  rw [← hR]
  apply T.int
  apply t_X10_market hG rx
  obtain ⟨P, hP⟩ : ∃ P : aO → aH → Prop, P = QI (fun r σ1 => MkS σ σ1 R r) := ⟨_, rfl⟩
  rw [← hP]
  intro σ1 e1
  obtain ⟨hG1, t1, hF1, hD1, o1⟩ := m_pre0 hG e1
  have v1 : rI σ1 76 1 = rI σ 76 1 := by rw [← e1]; exact rI_wi (by decide)
  obtain ⟨r8, σ4, he4, hr4, e4, hx4⟩ := m_in (sc := sc) (d := d + 5) (x := x) (lo := 0) (hi := rI σ1 76 1) hG1 rx (by decide) (rI_R _ _ _)
  subst e4
  rw [v1] at hx4
  refine ⟨r8, σ4, he4, hG1, hr4, fun _ => ?_, fun q => by omega⟩
  apply v_X10_market_23 hG1 rx (by decide)
  refine ⟨0, σ4, m_bad0 hG1 t1 (by decide) (by decide), hG1, by decide, fun _ => ?_, fun q => absurd rfl q⟩
  intro σ6 e6 σ9 e9 σ12 e12 σ15 e15 σ18 e18 σ21 e21 σ24 e24 σ27 e27
  have F27 : Fr AMr σ σ27 := by
    rw [← e27, ← e24, ← e21, ← e18, ← e15, ← e12, ← e9, ← e6, ← e1]
    have m : ∀ i : Int, ((0 ≤ i ∧ i ≤ 7) ∨ i = 38 ∨ i = 39) → AMr 76 i := fun i z => Or.inl ⟨rfl, z⟩
    exact ((((((((Fr.w (by decide) (m _ (by decide))).trans (Fr.w (by decide) (m _ (by decide)))).trans (Fr.w (by decide) (m _ (by decide)))).trans (Fr.w (by decide) (m _ (by decide)))).trans (Fr.w (by decide) (m _ (by decide)))).trans (Fr.w (by decide) (m _ (by decide)))).trans (Fr.w (by decide) (m _ (by decide)))).trans (Fr.w (by decide) (m _ (by decide)))).trans (Fr.w (by decide) (m _ (by decide)))
  have v27 : rI σ27 76 0 = 0 ∧ rI σ27 76 1 = 0 ∧ rI σ27 76 2 = x ∧ rI σ27 76 4 = 0 ∧ rI σ27 76 5 = 0 ∧ rI σ27 76 6 = -1 ∧ rI σ27 76 7 = 0 ∧ rI σ27 76 38 = 0 ∧ rI σ27 76 39 = 0 := by
    rw [← e27, ← e24, ← e21, ← e18, ← e15, ← e12, ← e9, ← e6, ← e1]
    refine ⟨?_, ?_, ?_, ?_, ?_, ?_, ?_, ?_, ?_⟩
    all_goals repeat (first | rw [rI_ww (by first | decide | omega)] | rw [rI_wi (by decide)])
  have V27 := F27.v
  have G27 := F27.g hG
  have b27 : gN σ27 + 1 ≤ 1000000 := by rw [V27.2.2.2.1]; exact hb
  obtain ⟨σ30, he30, V30, n0, n1, n2, n3, n4, n5, n6, n7⟩ := m_tellsNothing (sc := sc) (d := d + 5) G27 b27
  have G30 := V30.g G27
  have o30 : ∀ (a : Nat) (i : Int), a < 345 → 0 ≤ i → a ≠ 79 → rI σ30 a i = rI σ27 a i := fun a i p q z => V30.rw p q z
  obtain ⟨v0, v1', v2, v4, v5, v6, v7, v38, v39⟩ := v27
  have K30 : MK σ30 c x K0 := by
    refine ⟨⟨hT, (o30 _ _ (by decide) (by decide) (by decide)).trans v2, fun k k0 k1 => ?_⟩, (o30 _ _ (by decide) (by decide) (by decide)).trans v5, (o30 _ _ (by decide) (by decide) (by decide)).trans v6, ?_, fun _ => (o30 _ _ (by decide) (by decide) (by decide)).trans v4⟩
    · rw [o30 _ _ (by decide) k0 (by decide), F27.rw k0 (by show ¬ ((77 = 76 ∧ _) ∨ (77 = 79 ∨ (82 ≤ 77 ∧ 77 ≤ 89) ∨ (101 ≤ 77 ∧ 77 ≤ 120) ∨ (143 ≤ 77 ∧ 77 ≤ 162))); omega)]
      exact ht k k0 k1
    · rw [o30 _ _ (by decide) (by decide) (by decide), v4]; omega
  have C30 : McN σ30 (K0, D, fun _ _ => none) 0 := by
    have rep : ∀ (fr va : Int → Int), RepU fr va 0 (fun _ => none) := fun fr va => ⟨by decide, fun i p q => by omega, fun i j p q => by omega, fun t z hz => absurd hz (by simp)⟩
    refine ⟨⟨fun i hi => ?_, fun s s0 s1 => ?_, ?_, ?_⟩, ?_, ?_, ?_, ?_, ?_⟩
    · have : i = 0 ∨ i = 1 ∨ i = 2 ∨ i = 3 ∨ i = 4 ∨ i = 5 := by omega
      rcases this with rfl | rfl | rfl | rfl | rfl | rfl
      · exact n0
      · exact n1
      · exact n2
      · exact n3
      · exact n4
      · exact n5
    · have z : s < 0 := s1
      omega
    · unfold SunR
      rw [n6]; exact ⟨rep _ _, fun k a b => by omega⟩
    · unfold RatR
      rw [n7]; exact ⟨rep _ _, fun k a b => by omega⟩
    · exact (o30 _ _ (by decide) (by decide) (by decide)).trans v7
    · exact (o30 _ _ (by decide) (by decide) (by decide)).trans v38
    · exact (o30 _ _ (by decide) (by decide) (by decide)).trans v39
    · rw [n6]; show (0 : Int) ≤ K0 7; decide
    · rw [n7]; show (0 : Int) ≤ K0 8; decide
  obtain ⟨σ34, he34, F34, K34⟩ := m_skip (sc := sc) (d := d + 4) G30 K30
  have C34 := C30.skip (c := c) F34
  refine ⟨σ30, he30, G30, σ34, he34, F34.g G30, ?_⟩
  have V30' : Fw8 AMr 1 8 σ σ30 := by
    have := V27.trans (V30.weak (B := AMr) (fun a i z => Or.inr (Or.inl z)))
    exact this
  -- the end
  have fin : ∀ τ : aH, Fr ACm σ30 τ → MK τ c x R.1 → (R.1 9 = 0 → PDd R ∧ McN τ R (R.1 6)) → L_X10_market_110 (Ev sc (d + 6)) sc P x τ := by
    intro τ hF hK hC
    have Gτ := hF.g G30
    have Vτ : Fw8 AMr 1 8 σ τ := V30'.trans ((hF.weak ACm_AMr).v)
    apply v_X10_market_110 Gτ rx
    intro τ1 et
    have T1 : Fr AMr τ τ1 := by rw [← et]; exact Fr.w (by decide) (Or.inl ⟨rfl, by decide⟩)
    have V1 : Fw8 AMr 1 8 σ τ1 := Vτ.trans T1.v
    have f5 : rI τ1 76 5 = R.1 9 := by rw [← et, rI_wi (by decide)]; exact hK.2.1
    have f3 : rI τ1 76 3 = R.1 10 := by rw [← et, rI_ww (rI_R _ _ _)]; exact hK.2.2.1
    have k01 : ∀ i : Int, (i = 0 ∨ i = 1) → rI τ1 76 i = rI σ27 76 i := fun i z => by
      rw [← et, rI_wi (by omega), hF.rw (by omega) (by show ¬ ((76 = 76 ∧ (i = 4 ∨ i = 5 ∨ i = 6 ∨ i = 7 ∨ i = 38 ∨ i = 39)) ∨ (76 = 79 ∨ (82 ≤ 76 ∧ 76 ≤ 89) ∨ (101 ≤ 76 ∧ 76 ≤ 120) ∨ (143 ≤ 76 ∧ 76 ≤ 162))); omega)]
      exact o30 _ _ (by decide) (by omega) (by decide)
    rw [f5]
    refine ⟨fun z => ?_, fun z => ?_⟩
    · obtain ⟨hd, hN⟩ := hC z
      have hMc : Mc (rI τ1) R.1 R.2.1 R.2.2 := hN.1.f76 (A := fun a i => a = 76 ∧ i = 3) (by rw [← et]; exact Fr.w (by decide) ⟨rfl, rfl⟩) (fun a i p q => p q.1)
      have b2 := hd.1.2.2.1
      obtain ⟨τ4, he4', F4, S4⟩ := m_stands (sc := sc) (d := d + 3) (n := R.1 2) (T1.g Gτ) (hMc.1 2 (by decide)) b2 hMc.2.2.1 hMc.2.2.2
      refine ⟨τ4, he4', F4.g (T1.g Gτ), ?_⟩
      rw [hP]
      have r80 : rI τ4 80 2 = R.1 2 := (S4.1 2 (by decide) (by decide)).trans (hMc.1 2 (by decide))
      have k4 : ∀ i : Int, (i = 0 ∨ i = 1 ∨ i = 3) → rI τ4 76 i = rI τ1 76 i := fun i q => F4.rw (by omega) (by show ¬ (76 = 80 ∨ (91 ≤ 76 ∧ 76 ≤ 98) ∨ (122 ≤ 76 ∧ 76 ≤ 141) ∨ (164 ≤ 76 ∧ 76 ≤ 184) ∨ (190 ≤ 76 ∧ 76 ≤ 259) ∨ (76 = 76 ∧ (i = 18 ∨ i = 19 ∨ i = 20 ∨ i = 21 ∨ i = 25 ∨ i = 27 ∨ i = 28))); omega)
      refine ⟨_, rfl, rI_R _ _ _, ⟨?_, ?_, ?_⟩, Or.inr ⟨z, hd, r80, ?_, rI τ1, hMc, S4⟩⟩
      · rw [k4 0 (by omega), k01 0 (by omega)]; exact v0
      · rw [k4 1 (by omega), k01 1 (by omega)]; exact v1'
      · rw [k4 3 (by omega)]; exact f3
      · exact (V1.weak (fun a i q => Or.inl q)).trans ((F4.weak (B := fun a i => AMr a i ∨ ASd a i) (fun a i q => Or.inr q)).v)
    · have b9 := F4.all (c := c) (e := x) (D := D)
      rw [← hR] at b9
      unfold F4 at b9
      refine ⟨by omega, ?_⟩
      rw [hP]
      exact ⟨_, rfl, by omega, ⟨by rw [k01 0 (by omega)]; exact v0, by rw [k01 1 (by omega)]; exact v1', f3⟩, Or.inl ⟨z, rfl, V1⟩⟩
  -- the clauses
  have loop : ∀ (f : Nat) (τ : aH) (Q : PS), Fr ACm σ30 τ → MK τ c x Q.1 → (Q.1 9 = 0 → PDd Q ∧ McN τ Q (Q.1 6) ∧ Q.1 6 + f = 61 ∧ scF c isB (Q.1 11) = Q.1 11) → rdF c x f Q = R → L_X10_market_81 (Ev sc (d + 6)) sc P x τ := by
    intro f
    induction f with
    | zero =>
      intro τ Q hF hK hI hQ
      have hQ2 : Q = R := hQ
      have n9 : Q.1 9 ≠ 0 := fun z => by
        obtain ⟨a, b, e', g⟩ := hI z
        have := a.1.2.2.2.1
        omega
      apply v_X10_market_81 (hF.g G30) rx
      rw [hK.2.1]
      refine ⟨fun _ => ?_, fun z => absurd z n9⟩
      rw [hQ2] at hK n9
      exact fin τ hF hK (fun z => absurd z n9)
    | succ f ih =>
      intro τ Q hF hK hI hQ
      have hQ2 : (if Q.1 11 < x ∧ Q.1 9 = 0 then rdF c x f (skK c (clF c Q).1, (clF c Q).2) else Q) = R := hQ
      apply v_X10_market_81 (hF.g G30) rx
      rw [hK.2.1]
      refine ⟨fun n9 => ?_, fun z9 => ?_⟩
      · rw [if_neg (fun z => n9 z.2)] at hQ2
        rw [hQ2] at hK n9
        exact fin τ hF hK (fun z => absurd z n9)
      · obtain ⟨hd, hN, hf, hs⟩ := hI z9
        rw [hK.1.2.1, hK.2.2.2.2 z9]
        refine ⟨fun q => ?_, fun q => ?_⟩
        · rw [if_neg (by omega)] at hQ2
          rw [hQ2] at hK hd hN
          exact fin τ hF hK (fun _ => ⟨hd, hN⟩)
        · rw [if_pos (by omega)] at hQ2
          obtain ⟨K, D', E⟩ := Q
          have hp := hd.1
          obtain ⟨b0, b1, b2, b6, b7, b8⟩ := hp
          obtain ⟨τ1, he1, F1, K1, N1⟩ := m_clause (sc := sc) (d := d) (hF.g G30) hK z9 hN b6 b2 b0 b1 b7 b8 hs
          have G1' := F1.g (hF.g G30)
          obtain ⟨τ5, he5, F5, K5⟩ := m_skip (sc := sc) (d := d + 4) G1' K1
          refine ⟨τ1, he1, G1', τ5, he5, F5.g G1', ih τ5 (skK c (clF c (K, D', E)).1, (clF c (K, D', E)).2) ?_ K5 (fun z => ?_) hQ2⟩
          · exact (hF.trans F1).trans (F5.weak (fun a i z => Or.inl ⟨z.1, Or.inl z.2⟩))
          · have z' : (clF c (K, D', E)).1 9 = 0 := (show skK c (clF c (K, D', E)).1 9 = (clF c (K, D', E)).1 9 from kset_ne (by decide)).symm.trans z
            obtain ⟨p1, p2⟩ := hd.cl (c := c) z9 z'
            have s6 : skK c (clF c (K, D', E)).1 6 = (clF c (K, D', E)).1 6 := kset_ne (by decide)
            have h11 := K1.2.2.2.1
            rw [K1.2.2.2.2 z'] at h11
            refine ⟨p1.sk, ?_, ?_, ?_⟩
            · show McN τ5 (skK c (clF c (K, D', E)).1, (clF c (K, D', E)).2) (skK c (clF c (K, D', E)).1 6)
              rw [s6]; exact (N1 z').skip F5
            · show skK c (clF c (K, D', E)).1 6 + (f : Int) = 61
              rw [s6, p2]
              show K 6 + 1 + (f : Int) = 61
              have hf' : K 6 + ((f + 1 : Nat) : Int) = 61 := hf
              omega
            · show scF c isB (skK c (clF c (K, D', E)).1 11) = skK c (clF c (K, D', E)).1 11
              rw [show skK c (clF c (K, D', E)).1 11 = scF c isB ((clF c (K, D', E)).1 11) from kset_eq]
              exact sk_sk hT h11.1
  refine loop 61 σ34 (skK c K0, D, fun _ _ => none) (F34.weak (fun a i z => Or.inl ⟨z.1, Or.inl z.2⟩)) K34 (fun _ => ⟨PDd.start, ?_, ?_, ?_⟩) hR.symm
  · show McN σ34 (skK c K0, D, fun _ _ => none) (skK c K0 6)
    rw [show skK c K0 6 = K0 6 from kset_ne (by decide)]; exact C34
  · show skK c K0 6 + ((61 : Nat) : Int) = 61
    rw [show skK c K0 6 = K0 6 from kset_ne (by decide)]; rfl
  · show scF c isB (skK c K0 11) = skK c K0 11
    rw [show skK c K0 11 = scF c isB (K0 11) from kset_eq]
    exact sk_sk hT (by decide)
end
