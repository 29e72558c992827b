/-! BOTH SIDES: questions with one argument that may be refused. -/
section
variable {sc : Nat × (Nat → Int32)} {d : Nat} {σ σ1 σ2 τ : aH} {u v : Nat} {n W H : Int} {D D2 : Nat → Int → Int} {Es Er : Nat → Option Int} {du fo N w cl K : Int} {fr va : Int → Int}
theorem JC.fo0 (h : JC σ u n W H D Es Er du fo) : 0 ≤ fo ∧ fo ≤ 1440 := by
  have := h.mt.2.2.2.2.1
  rw [h.fd.1] at this; exact this
theorem j_told {x : Int} (hJ : J σ u v n W H D Es Er du fo N) (hN : 0 ≤ N ∧ N ≤ 1000) (hg : gN σ ≤ 100000) (rx : inR x) : JQ sc (d + 12) mX9_told mX10_told [.int (nZ x)] (kq 1) σ N := by
  have hC := hJ.2.2.1
  have same := CG.same hC
  refine JQ.one (q := 1) (ok := 0 ≤ x ∧ x ≤ 7) (Sp := fun r => r = toldV (rI σ) x) hJ hN hg (Or.inr rfl) (fun rm => ?_) (fun τ hR hτ => ?_)
  · obtain ⟨K, fr, va, D2, hm, hd, h2, hco⟩ := hJ.2.2.2.1
    obtain ⟨s1, s2, s3, _⟩ := hJ.2.2.2.2.1
    have k0 : rI σ 80 0 = W := hm.1.2.2.2.2.2.1.1
    have k1 : rI σ 80 1 = H := hm.1.2.2.2.2.2.1.2
    have k3 : rI σ 80 3 = fo := hm.2.1
    have k4 : rI σ 80 4 = du := hm.1.2.2.2.2.2.2.2.2.2.2.2.1.1
    obtain ⟨Q, hQ⟩ : ∃ Q : aO → aH → Prop, Q = CQ1 σ (0 ≤ x ∧ x ≤ 7) 1 (fun r σ1 => r = toldV (rI σ) x ∧ CG σ σ1 u n D) := ⟨_, rfl⟩
    rw [← hQ]
    have key : ∀ s0 : Int, (s0 = 1 ∧ (0 ≤ x ∧ x ≤ 7)) ∨ (s0 = 0 ∧ ¬ (0 ≤ x ∧ x ≤ 7)) → L_X9_told_16 (Ev sc (d + 11)) sc Q x s0 σ := by
      intro s0 hs
      apply v_X9_told_16 hJ.1 rx (by omega)
      refine rq hJ.1 rm hs (fun σ1 z hk => by rw [hQ]; exact Or.inr ⟨z, rfl, hk⟩) (fun ok => ?_)
      rw [hQ]
      have fin : ∀ a : Int, inR a → a = toldV (rI σ) x → CQ1 σ (0 ≤ x ∧ x ≤ 7) 1 (fun r σ1 => r = toldV (rI σ) x ∧ CG σ σ1 u n D) (.inl (some (.int (nZ a)))) σ := fun a ra e => Or.inl ⟨ok, a, rfl, ra, e, same⟩
      refine ⟨fun z => fin _ (rI_R _ _ _) ?_, fun z => fin _ (rI_R _ _ _) ?_, fun z => fin _ (rI_R _ _ _) ?_, fun z => fin _ (rI_R _ _ _) ?_, fun z => fin _ (rI_R _ _ _) ?_, fun z => fin _ (rI_R _ _ _) ?_, fun z => fin _ (rI_R _ _ _) ?_, fun z => fin _ (rI_R _ _ _) ?_⟩
      · rw [show x = 7 by omega]; exact s1.symm
      · rw [z]; exact hC.2.2.2.2.2.2.1.1.trans k0.symm
      · rw [z]; exact hC.2.2.2.2.2.2.1.2.trans k1.symm
      · rw [z]; exact hC.2.1.1.trans h2.symm
      · rw [z]; exact s2.1.symm
      · rw [z]; exact s3.symm
      · rw [z]; exact hC.fd.1.trans k3.symm
      · rw [z]; exact hC.fd.2.trans k4.symm
    apply t_X9_told hJ.1 rx
    exact ⟨fun z => key 0 (by omega), fun z => ⟨fun z1 => key 0 (by omega), fun z1 => key 1 (by omega)⟩⟩
  · obtain ⟨gτ, ⟨K, fr, va, D2, hm, hd, h2, hco⟩, rc, ew, ecl, hg, n8⟩ := hR
    refine (m_told (sc := sc) (d := d + 10) gτ rx rc).map (fun r σ2 ob => ob.map (fun ok z => ⟨fun r0 z0 => ?_, RG.low hm z.1 A0_in z.2.1⟩))
    rw [z0, z.2.2]
    unfold toldV
    rw [hτ 76 18 (by decide) (by decide), hτ 76 19 (by decide) (by decide)]
    split
    · exact hτ 80 x (by decide) ok.1
    · split
      · rfl
      · split
        · rfl
        · exact hτ 80 (x - 2) (by decide) (by omega)
theorem PayV_congr {f g : Int → Int} (hn : 0 ≤ n) (h : ∀ i : Int, 0 ≤ i → i < n → f i = g i) : PayV f n = PayV g n := by
  unfold PayV
  rw [gl_congr (fun i i0 i1 => h i i0 (by omega))]
theorem j_payments {x : Int} (hJ : J σ u v n W H D Es Er du fo N) (hN : 0 ≤ N ∧ N ≤ 1000) (hg : gN σ ≤ 100000) (rx : inR x) : JQ sc (d + 12) mX9_payments mX10_payments [.int (nZ x)] (kq 1) σ N := by
  have hC := hJ.2.2.1
  refine JQ.one (q := 1) (ok := 0 ≤ x ∧ x ≤ 1440) (Sp := fun r => r = PayV (GainD D n (-1) (1 + rI σ u 9) (sT Es fo) (Fn (aT Er 1) 0 x) (Fn (aT Er 1) (max 0 du) x)) n) hJ hN hg (Or.inr rfl) (fun rm => ?_) (fun τ hR hτ => ?_)
  · apply t_X9_payments hJ.1 rx
    obtain ⟨r5, σ1, he, hr, e1, h1⟩ := s_isEnd (sc := sc) (d := d + 10) (x := x) hJ.1 rx
    subst e1
    refine ⟨r5, σ1, he, hJ.1, hr, rq hJ.1 rm h1 (fun σ2 z hk => Or.inr ⟨z, rfl, hk⟩) (fun ok => ?_)⟩
    obtain ⟨r, σ2, he2, hr2, hF, e2⟩ := s_fewest (sc := sc) (d := d + 6) hJ.1 hC.2.1 hC.2.2.1 hC.mt ok rfl
    rw [hC.go, hC.fd.1, hC.fd.2, ← hC.1] at e2
    exact ⟨r, σ2, he2, hF.g hJ.1, hr2, Or.inl ⟨ok, r, rfl, hr2, e2, CG.scr hJ.1 hC hF (fun a i z => by have z' : a = 35 ∨ a = 36 ∨ a = 23 ∨ a = 24 ∨ a = 25 := z; omega)⟩⟩
  · obtain ⟨gτ, ⟨K, fr, va, D2, hm, hd, h2, hco⟩, rc, ew, ecl, hg, n8⟩ := hR
    refine (m_payments (sc := sc) (d := d + 7) gτ hm h2 n8 rx rc rfl).map (fun r σ2 ob => ob.map (fun ok z => ⟨fun r0 z0 => ?_, RG.low hm z.1 (fun a i y => ?_) z.2.1⟩))
    · rw [z0, z.2.2, ew]
      exact PayV_congr hC.2.1.2.1 (fun i i0 i1 => hd.gain ⟨i0, i1⟩)
    · have y' : (((261 ≤ a ∧ a ≤ 313) ∨ (a = 76 ∧ (i = 36 ∨ i = 37))) ∨ (a = 76 ∧ i = 0)) ∨ (a = 314 ∨ a = 315) := y
      omega
theorem FirstS.congr {U U2 : Int → Prop} {t r : Int} (e : ∀ q : Int, U q ↔ U2 q) (h : FirstS U t r) : FirstS U2 t r := by
  rcases h with ⟨a, b⟩ | ⟨a, b, c⟩
  · exact Or.inl ⟨a, fun q p1 p2 z => b q p1 p2 ((e q).mpr z)⟩
  · exact Or.inr ⟨a, (e r).mp b, fun q p1 p2 z => c q p1 p2 ((e q).mpr z)⟩
theorem FirstS.uniq {U : Int → Prop} {t r q : Int} (h : FirstS U t r) (k : FirstS U t q) : r = q := by
  rcases h with ⟨a, b⟩ | ⟨a, b, c⟩ <;> rcases k with ⟨a1, b1⟩ | ⟨a1, b1, c1⟩
  · omega
  · exact absurd b1 (b q a1.1 a1.2)
  · exact absurd b (b1 r a.1 a.2)
  · by_cases z : r < q
    · exact absurd b (c1 r a.1 z)
    · by_cases z2 : q < r
      · exact absurd b1 (c q a1.1 z2)
      · omega
theorem Deq.under {gone s : Int} (h : Deq n D D2) : Under (Falls D n gone w) n s ↔ Under (Falls D2 n gone w) n s :=
  ⟨fun ⟨k, j, a, b, c⟩ => ⟨k, j, a, b, (h.falls a b).mpr c⟩, fun ⟨k, j, a, b, c⟩ => ⟨k, j, a, b, (h.falls a b).mp c⟩⟩
theorem j_first {x : Int} (hJ : J σ u v n W H D Es Er du fo N) (hN : 0 ≤ N ∧ N ≤ 1000) (hg : gN σ ≤ 100000) (rx : inR x) : JQ sc (d + 12) mX9_first mX10_first [.int (nZ x)] (kq 1) σ N := by
  have hC := hJ.2.2.1
  refine JQ.one (q := 1) (ok := 0 ≤ x ∧ x < 1440) (Sp := fun r => FirstS (fun q => Under (Falls D n (-1) (1 + rI σ u 9)) n (sT Es fo q)) x r) hJ hN hg (Or.inr rfl) (fun rm => ?_) (fun τ hR hτ => ?_)
  · apply t_X9_first hJ.1 rx
    obtain ⟨r5, σ1, he, hr, e1, h1⟩ := s_isMinute (sc := sc) (d := d + 10) (x := x) hJ.1 rx
    subst e1
    refine ⟨r5, σ1, he, hJ.1, hr, rq hJ.1 rm h1 (fun σ2 z hk => Or.inr ⟨z, rfl, hk⟩) (fun ok => ?_)⟩
    obtain ⟨r, σ2, he2, hr2, e3, e2⟩ := s_firstShade (sc := sc) (d := d + 5) hJ.1 hC.2.1 hC.mt ok
    subst e3
    rw [hC.fa, hC.fd.1] at e2
    exact ⟨r, σ2, he2, hJ.1, hr2, Or.inl ⟨ok, r, rfl, hr2, e2, CG.same hC⟩⟩
  · obtain ⟨gτ, ⟨K, fr, va, D2, hm, hd, h2, hco⟩, rc, ew, ecl, hg, n8⟩ := hR
    refine (m_first (sc := sc) (d := d + 6) gτ hm rx rc).map (fun r σ2 ob => ob.map (fun ok z => ⟨fun r0 z0 => ?_, RG.low hm z.1 AGz_in z.2.1⟩))
    have e := z.2.2
    rw [ew] at e
    exact e.uniq (z0.congr (fun q => hd.under))
theorem j_folded {x : Int} (hJ : J σ u v n W H D Es Er du fo N) (hN : 0 ≤ N ∧ N ≤ 1000) (hg : gN σ ≤ 100000) (rx : inR x) : JQ sc (d + 12) mX9_folded mX10_folded [.int (nZ x)] (kq 1) σ N := by
  have hC := hJ.2.2.1
  refine JQ.one (q := 1) (ok := 0 ≤ x ∧ x ≤ 99999) (Sp := fun r => FoldS (fun b => TotAB (Falls D n (-1) (1 + rI σ u 9)) (D 6) (sT Es fo) (aT Er 1) du n (-1) 0 b) fo x r) hJ hN hg (Or.inr rfl) (fun rm => ?_) (fun τ hR hτ => ?_)
  · apply t_X9_folded hJ.1 rx
    obtain ⟨r5, σ1, he, hr, e1, h1⟩ := s_isDue (sc := sc) (d := d + 10) (x := x) hJ.1 rx
    subst e1
    refine ⟨r5, σ1, he, hJ.1, hr, rq hJ.1 rm h1 (fun σ2 z hk => Or.inr ⟨z, rfl, hk⟩) (fun ok => ?_)⟩
    obtain ⟨r, σ2, he2, hr2, hF, e2⟩ := s_latestFold (sc := sc) (d := d + 7) hJ.1 hC.2.1 hC.mt rx
    rw [hC.fa, hC.la, hC.go, hC.fd.1, hC.fd.2] at e2
    exact ⟨r, σ2, he2, hF.g hJ.1, hr2, Or.inl ⟨ok, r, rfl, hr2, e2, CG.scr hJ.1 hC hF (fun a i z => by have z' : a = 35 ∨ a = 36 := z; omega)⟩⟩
  · obtain ⟨gτ, ⟨K, fr, va, D2, hm, hd, h2, hco⟩, rc, ew, ecl, hg, n8⟩ := hR
    refine (m_folded (sc := sc) (d := d + 7) gτ hm rx rc).map (fun r σ2 ob => ob.map (fun ok z => ⟨fun r0 z0 => ?_, RG.low hm z.1 AGz_in z.2.1⟩))
    have e := z.2.2
    rw [ew] at e
    have f : (fun b => TotAB (Falls D2 n (-1) (1 + rI σ u 9)) (D2 6) (sT Es fo) (aT Er 1) du n (-1) 0 b) = (fun b => TotAB (Falls D n (-1) (1 + rI σ u 9)) (D 6) (sT Es fo) (aT Er 1) du n (-1) 0 b) := funext (fun b => hd.tot)
    rw [f] at e
    refine FoldS.uniq (fun a b a0 ab bf => ?_) e z0
    have R9 := rate9 hC.mt.2.2.2.1
    have fm : ∀ (A : Int) (t : Int), Fn (aT Er 1) A a t ≤ Fn (aT Er 1) A b t := fun A t => by
      unfold Fn
      have := R9 t
      by_cases c : A ≤ t ∧ t < a
      · rw [cif_pos c, cif_pos ⟨c.1, by omega⟩]; omega
      · rw [cif_neg c]
        exact (cif_bd (p := A ≤ t ∧ t < b) (lo := 0) (hi := 9) this (by omega)).1
    have fs : ∀ (A i j : Int), Fsm (Falls D n (-1) (1 + rI σ u 9)) (sT Es fo) (Fn (aT Er 1) A a) i j ≤ Fsm (Falls D n (-1) (1 + rI σ u 9)) (sT Es fo) (Fn (aT Er 1) A b) i j := fun A i j => sm_mono (fun t _ _ => by
      by_cases c : Falls D n (-1) (1 + rI σ u 9) i j (sT Es fo t)
      · rw [cif_pos c, cif_pos c]; exact fm A t
      · rw [cif_neg c, cif_neg c]; omega)
    refine sm_mono (fun i _ _ => sm_mono (fun j _ _ => ?_))
    by_cases c : i ≠ -1 ∧ j ≠ -1
    · rw [cif_pos c, cif_pos c]
      unfold Prc
      have f1 := fs 0 i j
      have f2 := fs (max 0 du) i j
      split
      · omega
      · omega
    · rw [cif_neg c, cif_neg c]; omega
theorem j_improved {x : Int} (hJ : J σ u v n W H D Es Er du fo N) (hN : 0 ≤ N ∧ N ≤ 1000) (hg : gN σ ≤ 100000) (rx : inR x) : JQ sc (d + 12) mX9_improved mX10_improved [.int (nZ x)] (kq 1) σ N := by
  have hC := hJ.2.2.1
  refine JQ.one (q := 1) (ok := 0 ≤ x ∧ x ≤ 1) (Sp := fun r => ∃ (k : Nat) (vl : Int), Imp n (-1) (1 + rI σ u 9) (sT Es fo) (CF Er) (CF1 Er du) k D vl ∧ r = if x = 0 then (k : Int) else vl) hJ hN hg (Or.inr rfl) (fun rm => ?_) (fun τ hR hτ => ?_)
  · apply t_X9_improved hJ.1 rx
    obtain ⟨r5, σ1, he, hr, e1, h1⟩ := s_isBit (sc := sc) (d := d + 10) (x := x) hJ.1 rx
    subst e1
    refine ⟨r5, σ1, he, hJ.1, hr, rq hJ.1 rm h1 (fun σ2 z hk => Or.inr ⟨z, rfl, hk⟩) (fun ok => ?_)⟩
    obtain ⟨r, σ2, he2, hr2, hF, hD, k, ek, e2⟩ := s_exchangeOn (sc := sc) (d := d + 6) (hC.cx hJ.1) hC.2.2.1
    rw [hC.go, ← hC.1] at e2
    have cg : CG σ1 σ2 u n D := CG.back hJ.1 hC hF (fun a i z => by
      have z' : ((a = u + 2 ∨ a = u + 3) ∨ (a = 26 ∧ (i = 6 ∨ i = 7))) ∨ a = 55 ∨ a = 56 := z
      omega) hD
    refine ⟨r, σ2, he2, hF.g hJ.1, hr2, fun z => Or.inl ⟨ok, _, rfl, rI_R _ _ _, ⟨k, _, e2, ?_⟩, cg⟩, fun z => Or.inl ⟨ok, r, rfl, hr2, ⟨k, _, e2, ?_⟩, cg⟩⟩
    · rw [if_neg z]
    · rw [if_pos z]; exact ek
  · obtain ⟨gτ, ⟨K, fr, va, D2, hm, hd, h2, hco⟩, rc, ew, ecl, hg, n8⟩ := hR
    by_cases ok : 0 ≤ x ∧ x ≤ 1
    · refine (m_improved (sc := sc) (d := d + 4) gτ hm n8 (show x = 0 ∨ x = 1 by omega)).map (fun r σ2 z => Or.inl ⟨ok, fun r0 z0 => ?_, RG.mid hm z.1 (fun a i y => ?_) z.2.1 z.2.2.1⟩)
      · obtain ⟨k, vl, e, er⟩ := z.2.2.2
        obtain ⟨k0, v0, z1, zr⟩ := z0
        rw [ew] at e
        obtain ⟨a, b⟩ := e.uniq (z1.congr hd)
        rw [er, zr, a, b]
      · have y' : ((91 ≤ a ∧ a ≤ 99) ∨ (261 ≤ a ∧ a ≤ 313) ∨ (a = 76 ∧ (i = 36 ∨ i = 37))) ∨ (a = 318 ∨ a = 319) ∨ (a = 76 ∧ i = 0) := y
        omega
    · exact (m_improvedB (sc := sc) (d := d + 10) gτ rx rc ok).map (fun r σ2 z => Or.inr ⟨ok, z.1, z.2⟩)
theorem FirstK.congr {U U2 : Int → Prop} {K0 r : Int} (e : ∀ q : Int, U q ↔ U2 q) (h : FirstK U K0 r) : FirstK U2 K0 r := by
  rcases h with ⟨a, b⟩ | ⟨a, b, c⟩
  · exact Or.inl ⟨a, fun q p1 p2 z => b q p1 p2 ((e q).mpr z)⟩
  · exact Or.inr ⟨a, (e r).mp b, fun q p1 p2 z => c q p1 p2 ((e q).mpr z)⟩
theorem j_when {x : Int} (hJ : J σ u v n W H D Es Er du fo N) (hN : 0 ≤ N ∧ N ≤ 1000) (hg : gN σ ≤ 100000) (rx : inR x) : JQ sc (d + 12) mX9_when mX10_when [.int (nZ x)] (kq 1) σ N := by
  have hC := hJ.2.2.1
  refine JQ.one (q := 1) (ok := 0 ≤ x ∧ x ≤ 99999) (Sp := fun r => FirstK (fun k => x < DueD (DgN D n k.toNat) n (-1) (1 + rI σ u 9) (sT Es fo) (CF Er) (CF1 Er du)) 99 r) hJ hN hg (Or.inr rfl) (fun rm => ?_) (fun τ hR hτ => ?_)
  · apply t_X9_when hJ.1 rx
    obtain ⟨r5, σ1, he, hr, e1, h1⟩ := s_isDue (sc := sc) (d := d + 10) (x := x) hJ.1 rx
    subst e1
    refine ⟨r5, σ1, he, hJ.1, hr, rq hJ.1 rm h1 (fun σ2 z hk => Or.inr ⟨z, rfl, hk⟩) (fun ok => ?_)⟩
    have hg5 := hC.2.2.2.1
    rw [hC.1] at hg5
    obtain ⟨r, σ2, he2, hr2, hF, hD, e2⟩ := s_daysTillAbove (sc := sc) (d := d + 7) (hC.cx hJ.1) hg5 rx
    rw [hC.go, ← hC.1] at e2
    exact ⟨r, σ2, he2, hF.g hJ.1, hr2, Or.inl ⟨ok, r, rfl, hr2, e2, CG.back hJ.1 hC hF (fun a i z => by have z' : a = u + 4 ∨ a = 57 := z; omega) hD⟩⟩
  · obtain ⟨gτ, ⟨K, fr, va, D2, hm, hd, h2, hco⟩, rc, ew, ecl, hg, n8⟩ := hR
    have hg2 : Hg D2 n := fun i i0 i1 => by rw [hd 4 i (by decide) i0 i1, hd 5 i (by decide) i0 i1]; exact hg i i0 i1
    by_cases ok : 0 ≤ x ∧ x ≤ 99999
    · refine (m_when (sc := sc) (d := d + 6) gτ hm n8 h2 hg2 ok).map (fun r σ2 z => Or.inl ⟨ok, fun r0 z0 => ?_, ?_⟩)
      · have e := z.2.2.2
        rw [ew] at e
        exact e.uniq (z0.congr (fun q => by rw [(hd.growN q.toNat).due]))
      · refine RG.mid hm z.1 (fun a i y => ?_) z.2.1 z.2.2.1
        have y' : ((91 ≤ a ∧ a ≤ 99) ∨ (261 ≤ a ∧ a ≤ 313) ∨ (a = 76 ∧ (i = 36 ∨ i = 37))) ∨ (321 ≤ a ∧ a ≤ 341) ∨ (a = 76 ∧ i = 0) := y
        omega
    · exact (m_whenB (sc := sc) (d := d + 10) gτ rx rc ok).map (fun r σ2 z => Or.inr ⟨ok, z.1, z.2⟩)
end
