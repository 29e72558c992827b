/-! BOTH SIDES: the questions that nobody refuses. -/
section
variable {sc : Nat × (Nat → Int32)} {d : Nat} {σ σ1 σ2 τ : aH} {u v : Nat} {n W H : Int} {D D2 : Nat → Int → Int} {Es Er : Nat → Option Int} {du fo N w cl K : Int} {fr va : Int → Int}
theorem JC.sb (h : JC σ u n W H D Es Er du fo) : SB (sT Es fo) := sT_bd h.2.2.2.2.2.2.2.2.1.2.2.1
theorem JC.cx (hG : G σ u) (h : JC σ u n W H D Es Er du fo) : Cx σ u n (sT Es fo) (CF Er) (CF1 Er du) := ⟨hG, h.2.1, h.2.2.2.2.2.2.2.2.2.2.1, h.sb, CF9 h.2.2.2.2.2.2.2.2.1.2.2.2.1, CF19 h.2.2.2.2.2.2.2.2.1.2.2.2.1⟩
theorem JC.cm (hG : G σ u) (h : JC σ u n W H D Es Er du fo) : Cm σ u n (sT Es fo) := ⟨hG, h.2.1, h.2.2.2.2.2.2.2.2.2.2.2.1, h.sb⟩
theorem JC.mt (h : JC σ u n W H D Es Er du fo) : MkT (rI σ) u Es Er := h.2.2.2.2.2.2.2.2.1
theorem JC.go (h : JC σ u n W H D Es Er du fo) : rI σ (u + 1) 9 = -1 := h.2.2.2.2.2.2.2.2.2.2.2.2
theorem JC.fd (h : JC σ u n W H D Es Er du fo) : rI σ u 5 = fo ∧ rI σ u 6 = du := h.2.2.2.2.2.2.2.2.2.1
theorem JC.la (h : JC σ u n W H D Es Er du fo) : rI σ (u + 8) = D 6 := by rw [h.1]; rfl
theorem JC.fa (h : JC σ u n W H D Es Er du fo) : FaC (rI σ) u n = Falls D n (-1) (1 + rI σ u 9) := by
  unfold FaC; rw [h.go, ← h.1]
theorem CG.same (h : JC σ u n W H D Es Er du fo) : CG σ σ u n D := ⟨Fr.refl _ _, by rw [← h.1]; exact De8.refl _ _, h.2.1.1, h.go⟩
/-- scratch rows alone -/
theorem CG.scr {A : Nat → Int → Prop} (hG : G σ u) (h : JC σ u n W H D Es Er du fo) (hF : Fr A σ σ1) (hA : ∀ (a : Nat) (i : Int), A a i → (a = 26 ∧ 6 ≤ i ∧ i ≤ 11) ∨ (23 ≤ a ∧ a ≤ 25) ∨ (35 ≤ a ∧ a ≤ 38) ∨ (55 ≤ a ∧ a ≤ 58)) : CG σ σ1 u n D := by
  have hm : u = 39 ∨ u = 60 := hG.2.2.2.2
  have no : ∀ (a : Nat) (i : Int), u + 1 ≤ a → a ≤ u + 9 → ¬ A a i := fun a i p q z => by have := hA a i z; omega
  refine ⟨hF.weak (fun a i z => Or.inr (Or.inr (hA a i z))), ?_, (hF.rw (by decide) (no _ _ (by omega) (by omega))).trans h.2.1.1, (hF.rw (by decide) (no _ _ (by omega) (by omega))).trans h.go⟩
  rw [Dc_congr (fun a p q => hF.row (fun i => no a i (by omega) q)), ← h.1]
  exact De8.refl _ _
/-- the rows of the stalls are as they were -/
theorem CG.back {A : Nat → Int → Prop} (hG : G σ u) (h : JC σ u n W H D Es Er du fo) (hF : Fr A σ σ1) (hA : ∀ (a : Nat) (i : Int), A a i → (u + 2 ≤ a ∧ a ≤ u + 9) ∨ (a = 26 ∧ 6 ≤ i ∧ i ≤ 11) ∨ (23 ≤ a ∧ a ≤ 25) ∨ (35 ≤ a ∧ a ≤ 38) ∨ (55 ≤ a ∧ a ≤ 58)) (hD : Dc (rI σ1) u = Dc (rI σ) u) : CG σ σ1 u n D := by
  have hm : u = 39 ∨ u = 60 := hG.2.2.2.2
  have no : ∀ i : Int, ¬ A (u + 1) i := fun i z => by have := hA _ i z; omega
  refine ⟨hF.weak (fun a i z => by
    rcases hA a i z with y | y
    · exact Or.inl y
    · exact Or.inr (Or.inr y)), ?_, (hF.rw (by decide) (no _)).trans h.2.1.1, (hF.rw (by decide) (no _)).trans h.go⟩
  rw [hD, ← h.1]
  exact De8.refl _ _
theorem RG.of {A : Nat → Int → Prop} (hm : Mf τ n (-1) W H D2 Es Er K fr va du fo) (hF : Fr A τ σ2) (hA : ∀ (a : Nat) (i : Int), A a i → AJr a i) (h27 : ¬ A 76 27) (h28 : ¬ A 76 28) (h0 : rI σ2 76 0 = 0) (hD : Deq n (Dm (rI τ)) (Dm (rI σ2))) : RG τ σ2 n :=
  ⟨hF.weak hA, h0, hD, (hF.rw (by decide) h27).trans hm.1.1.2.2.1, (hF.rw (by decide) h28).trans hm.1.1.1⟩
theorem RG.low {A : Nat → Int → Prop} (hm : Mf τ n (-1) W H D2 Es Er K fr va du fo) (hF : Fr A τ σ2) (hA : ∀ (a : Nat) (i : Int), A a i → (a = 76 ∧ (i = 0 ∨ i = 36 ∨ i = 37)) ∨ (261 ≤ a ∧ a ≤ 343)) (h0 : rI σ2 76 0 = 0) : RG τ σ2 n := by
  refine RG.of hm hF (fun a i z => ?_) (fun z => by have := hA _ _ z; omega) (fun z => by have := hA _ _ z; omega) h0 ?_
  · have := hA a i z
    show (a = 76 ∧ (i = 0 ∨ i = 2 ∨ (4 ≤ i ∧ i ≤ 7) ∨ i = 22 ∨ i = 27 ∨ i = 28 ∨ (36 ≤ i ∧ i ≤ 43))) ∨ (91 ≤ a ∧ a ≤ 99) ∨ (261 ≤ a ∧ a ≤ 343)
    omega
  · rw [Dm_fr hF (fun a i p q z => by have := hA a i z; omega)]
    exact Deq.refl _ _
theorem AGz_in (a : Nat) (i : Int) (h : AGz a i) : (a = 76 ∧ (i = 0 ∨ i = 36 ∨ i = 37)) ∨ (261 ≤ a ∧ a ≤ 343) := by
  have h' : ((261 ≤ a ∧ a ≤ 313) ∨ (a = 76 ∧ (i = 36 ∨ i = 37))) ∨ (a = 76 ∧ i = 0) := h
  omega
theorem A0_in (a : Nat) (i : Int) (h : A0 a i) : (a = 76 ∧ (i = 0 ∨ i = 36 ∨ i = 37)) ∨ (261 ≤ a ∧ a ≤ 343) := by
  have h' : a = 76 ∧ i = 0 := h
  omega
/-- stalls put back -/
theorem RG.mid {A : Nat → Int → Prop} (hm : Mf τ n (-1) W H D2 Es Er K fr va du fo) (hF : Fr A τ σ2) (hA : ∀ (a : Nat) (i : Int), A a i → (a = 76 ∧ (i = 0 ∨ i = 36 ∨ i = 37 ∨ i = 42 ∨ i = 43)) ∨ (91 ≤ a ∧ a ≤ 99) ∨ (261 ≤ a ∧ a ≤ 343)) (h0 : rI σ2 76 0 = 0) (hD : Dm (rI σ2) = D2) : RG τ σ2 n := by
  refine RG.of hm hF (fun a i z => ?_) (fun z => by have := hA _ _ z; omega) (fun z => by have := hA _ _ z; omega) h0 ?_
  · have := hA a i z
    show (a = 76 ∧ (i = 0 ∨ i = 2 ∨ (4 ≤ i ∧ i ≤ 7) ∨ i = 22 ∨ i = 27 ∨ i = 28 ∨ (36 ≤ i ∧ i ≤ 43))) ∨ (91 ≤ a ∧ a ≤ 99) ∨ (261 ≤ a ∧ a ≤ 343)
    omega
  · rw [hD, ← hm.1.2.1]
    exact Deq.refl _ _
theorem AMz_in (a : Nat) (i : Int) (h : AMp a i ∨ (a = 76 ∧ i = 0)) : (a = 76 ∧ (i = 0 ∨ i = 36 ∨ i = 37 ∨ i = 42 ∨ i = 43)) ∨ (91 ≤ a ∧ a ≤ 99) ∨ (261 ≤ a ∧ a ≤ 343) := by
  have h' : ((91 ≤ a ∧ a ≤ 99) ∨ (261 ≤ a ∧ a ≤ 313) ∨ (a = 76 ∧ (i = 36 ∨ i = 37))) ∨ (a = 76 ∧ i = 0) := h
  omega
theorem j_fault (hJ : J σ u v n W H D Es Er du fo N) (hN : 0 ≤ N ∧ N ≤ 1000) : JD sc (d + 12) mX9_fault mX10_fault [] σ N := by
  refine JD.q (Sp := fun r => r = rI σ 1 5) hJ hN ?_ (fun τ hR hτ => ?_)
  · apply T.int
    apply t_X9_fault hJ.1
    exact ⟨_, rfl, rI_R _ _ _, rfl, CG.same hJ.2.2.1⟩
  · obtain ⟨gτ, ⟨K, fr, va, D2, hm, hd, h2, hco⟩, rc, ew, ecl, hg, n8⟩ := hR
    obtain ⟨r, σ2, he, hr, hF, h0, e⟩ := m_fault (sc := sc) (d := d + 11) gτ
    refine ⟨r, σ2, he, hr, fun r0 z => ?_, RG.low hm hF A0_in h0⟩
    rw [z, e, hτ 76 3 (by decide) (by decide)]; exact hJ.2.2.2.2.1.2.2.2.2.2.2.1
theorem j_rounds (hJ : J σ u v n W H D Es Er du fo N) (hN : 0 ≤ N ∧ N ≤ 1000) : JD sc (d + 12) mX9_rounds mX10_rounds [] σ N := by
  refine JD.q (Sp := fun r => r = rI σ 26 12) hJ hN ?_ (fun τ hR hτ => ?_)
  · apply T.int
    apply t_X9_rounds hJ.1
    exact ⟨_, rfl, rI_R _ _ _, rfl, CG.same hJ.2.2.1⟩
  · obtain ⟨gτ, ⟨K, fr, va, D2, hm, hd, h2, hco⟩, rc, ew, ecl, hg, n8⟩ := hR
    obtain ⟨r, σ2, he, hr, hF, h0, e⟩ := m_rounds (sc := sc) (d := d + 11) gτ
    refine ⟨r, σ2, he, hr, fun r0 z => ?_, RG.low hm hF A0_in h0⟩
    rw [z, e, hτ 76 20 (by decide) (by decide)]; exact hJ.2.2.2.2.1.2.2.2.1
theorem j_status {x : Int} (hJ : J σ u v n W H D Es Er du fo N) (hN : 0 ≤ N ∧ N ≤ 1000) (rx : inR x) : JD sc (d + 12) mX9_status mX10_status [.int (nZ x)] σ N := by
  refine JD.q (Sp := fun r => r = if x = 0 then rI σ 0 7 else if x = 1 then rI σ 0 8 else -1) hJ hN ?_ (fun τ hR hτ => ?_)
  · apply T.int
    apply t_X9_status hJ.1 rx
    refine ⟨fun q => ⟨fun q1 => ⟨_, rfl, by decide, ?_, CG.same hJ.2.2.1⟩, fun q1 => ⟨_, rfl, rI_R _ _ _, ?_, CG.same hJ.2.2.1⟩⟩, fun q => ⟨_, rfl, rI_R _ _ _, ?_, CG.same hJ.2.2.1⟩⟩
    · rw [if_neg q, if_neg q1]
    · rw [if_neg q, if_pos q1]
    · rw [if_pos q]
  · obtain ⟨gτ, ⟨K, fr, va, D2, hm, hd, h2, hco⟩, rc, ew, ecl, hg, n8⟩ := hR
    obtain ⟨r, σ2, he, hr, hF, h0, e⟩ := m_status (sc := sc) (d := d + 10) (x := x) gτ rx
    refine ⟨r, σ2, he, hr, fun r0 z => ?_, RG.low hm hF A0_in h0⟩
    obtain ⟨_, _, _, _, _, _, _, _, h9, h10⟩ := hJ.2.2.2.2.1
    rw [z, e]
    by_cases c0 : x = 0
    · rw [c0, if_pos (by decide), if_pos rfl, hτ 78 0 (by decide) (by decide)]; exact h9.1
    · by_cases c1 : x = 1
      · rw [c1, if_pos (by decide), if_neg (by decide), if_pos rfl, hτ 78 1 (by decide) (by decide)]; exact h10.1
      · rw [if_neg (by omega), if_neg c0, if_neg c1]
theorem j_count {x : Int} (hJ : J σ u v n W H D Es Er du fo N) (hN : 0 ≤ N ∧ N ≤ 1000) (rx : inR x) : JD sc (d + 12) mX9_count mX10_count [.int (nZ x)] σ N := by
  refine JD.q (Sp := fun r => r = if x = 0 then rI σ 3 6 else if x = 1 then rI σ 1 1 else -1) hJ hN ?_ (fun τ hR hτ => ?_)
  · apply T.int
    apply t_X9_count hJ.1 rx
    refine ⟨fun q => ⟨fun q1 => ⟨_, rfl, by decide, ?_, CG.same hJ.2.2.1⟩, fun q1 => ⟨_, rfl, rI_R _ _ _, ?_, CG.same hJ.2.2.1⟩⟩, fun q => ⟨_, rfl, rI_R _ _ _, ?_, CG.same hJ.2.2.1⟩⟩
    · rw [if_neg q, if_neg q1]
    · rw [if_neg q, if_pos q1]
    · rw [if_pos q]
  · obtain ⟨gτ, ⟨K, fr, va, D2, hm, hd, h2, hco⟩, rc, ew, ecl, hg, n8⟩ := hR
    obtain ⟨r, σ2, he, hr, hF, h0, e⟩ := m_count (sc := sc) (d := d + 11) (x := x) gτ rx
    refine ⟨r, σ2, he, hr, fun r0 z => ?_, RG.low hm hF A0_in h0⟩
    obtain ⟨_, _, _, _, h5, h6, _⟩ := hJ.2.2.2.2.1
    rw [z, e, hτ 76 21 (by decide) (by decide), hτ 76 1 (by decide) (by decide), h5.1, h6.1]
theorem j_due (hJ : J σ u v n W H D Es Er du fo N) (hN : 0 ≤ N ∧ N ≤ 1000) : JD sc (d + 12) mX9_due mX10_due [] σ N := by
  have hC := hJ.2.2.1
  have hx := hC.cx hJ.1
  refine JD.q (Sp := fun r => r = DueD D n (-1) (1 + rI σ u 9) (sT Es fo) (CF Er) (CF1 Er du)) hJ hN ?_ (fun τ hR hτ => ?_)
  · apply T.int
    apply t_X9_due hJ.1
    obtain ⟨r, σ1, he, hr, e1, e2⟩ := s_due (sc := sc) (d := d + 8) (w := 28) hJ.1 hC.2.1 (Or.inl rfl) hx.2.2.1 hx.2.2.2.1 hx.2.2.2.2.1 hx.2.2.2.2.2
    subst e1
    refine ⟨r, σ1, he, hJ.1, hr, r, rfl, hr, ?_, CG.same hC⟩
    rw [e2, hC.fa, hC.la, hC.go]; rfl
  · obtain ⟨gτ, ⟨K, fr, va, D2, hm, hd, h2, hco⟩, rc, ew, ecl, hg, n8⟩ := hR
    obtain ⟨r, σ2, he, hr, hF, h0, e⟩ := m_due (sc := sc) (d := d + 6) gτ hm
    refine ⟨r, σ2, he, hr, fun r0 z => ?_, RG.low hm hF AGz_in h0⟩
    rw [z, e, ew]; exact hd.due
theorem Deq.tot {gone g : Int} {S F F1 : Int → Int} (h : Deq n D D2) : Tot (Falls D2 n gone w) (D2 6) S F F1 n g = Tot (Falls D n gone w) (D 6) S F F1 n g :=
  sm_congr (fun i i0 i1 => sm_congr (fun j j0 j1 => by rw [h.prc ⟨i0, by omega⟩ ⟨j0, by omega⟩]))
theorem Deq.lan {gone : Int} {S F1 : Int → Int} (h : Deq n D D2) : LanT (Falls D2 n gone w) (D2 6) S F1 n = LanT (Falls D n gone w) (D 6) S F1 n :=
  sm_congr (fun i i0 i1 => sm_congr (fun j j0 j1 => by rw [h 6 i (by decide) i0 (by omega), Fsm_congr (fun s => h.falls ⟨i0, by omega⟩ ⟨j0, by omega⟩)]))
theorem j_lights (hJ : J σ u v n W H D Es Er du fo N) (hN : 0 ≤ N ∧ N ≤ 1000) : JD sc (d + 12) mX9_lights mX10_lights [] σ N := by
  have hC := hJ.2.2.1
  have hx := hC.cx hJ.1
  refine JD.q (Sp := fun r => r = LanT (Falls D n (-1) (1 + rI σ u 9)) (D 6) (sT Es fo) (CF1 Er du) n) hJ hN ?_ (fun τ hR hτ => ?_)
  · apply T.int
    apply t_X9_lights hJ.1
    obtain ⟨r, σ1, he, hr, e1, e2⟩ := s_dueByLanterns (sc := sc) (d := d + 8) hJ.1 hC.2.1 hx.2.2.1 hx.2.2.2.1 hx.2.2.2.2.2
    subst e1
    refine ⟨r, σ1, he, hJ.1, hr, r, rfl, hr, ?_, CG.same hC⟩
    rw [e2, hC.fa, hC.la]
  · obtain ⟨gτ, ⟨K, fr, va, D2, hm, hd, h2, hco⟩, rc, ew, ecl, hg, n8⟩ := hR
    obtain ⟨r, σ2, he, hr, hF, h0, e⟩ := m_lights (sc := sc) (d := d + 6) gτ hm
    refine ⟨r, σ2, he, hr, fun r0 z => ?_, RG.low hm hF AGz_in h0⟩
    rw [z, e, ew]; exact hd.lan
theorem j_exchange (hJ : J σ u v n W H D Es Er du fo N) (hN : 0 ≤ N ∧ N ≤ 1000) : JD sc (d + 12) mX9_exchange mX10_exchange [] σ N := by
  have hC := hJ.2.2.1
  have hx := hC.cx hJ.1
  refine JD.q (Sp := fun r => ∃ val : Int, ExS D n (-1) (1 + rI σ u 9) (sT Es fo) (CF Er) (CF1 Er du) val r) hJ hN ?_ (fun τ hR hτ => ?_)
  · apply T.int
    apply t_X9_exchange hJ.1
    obtain ⟨r, σ1, he, hr, hF, hD, e2⟩ := s_bestExchange (sc := sc) (d := d + 7) hx
    rw [hC.go, ← hC.1] at e2
    exact ⟨r, σ1, he, hF.g hJ.1, hr, r, rfl, hr, ⟨_, e2⟩, CG.back hJ.1 hC hF (fun a i z => by
      have z' : (a = u + 2 ∨ a = u + 3) ∨ (a = 26 ∧ (i = 6 ∨ i = 7)) := z
      omega) hD⟩
  · obtain ⟨gτ, ⟨K, fr, va, D2, hm, hd, h2, hco⟩, rc, ew, ecl, hg, n8⟩ := hR
    obtain ⟨r, σ2, he, hr, hF, h0, hD, val, e⟩ := m_exchange (sc := sc) (d := d + 5) gτ hm
    refine ⟨r, σ2, he, hr, fun r0 z => ?_, RG.mid hm hF AMz_in h0 hD⟩
    obtain ⟨val0, z⟩ := z
    rw [ew] at e
    exact (BestS.uniq e (z.congr hd)).2
theorem Deq.sunv {gone g : Int} {S R : Int → Int} {E : Nat → Option Int} {m : Int} (h : Deq n D D2) : SunV (Falls D2 n gone w) (D2 6) S R du n g E m = SunV (Falls D n gone w) (D 6) S R du n g E m := h.tot
theorem j_suns (hJ : J σ u v n W H D Es Er du fo N) (hN : 0 ≤ N ∧ N ≤ 1000) : JD sc (d + 12) mX9_suns mX10_suns [] σ N := by
  have hC := hJ.2.2.1
  have hx := hC.cx hJ.1
  refine JD.q (Sp := fun r => SunS (Falls D n (-1) (1 + rI σ u 9)) (D 6) (sT Es fo) (aT Er 1) du n (-1) Es r) hJ hN ?_ (fun τ hR hτ => ?_)
  · apply T.int
    apply t_X9_suns hJ.1
    obtain ⟨r, σ1, he, hr, hF, e2⟩ := s_dearestSun (sc := sc) (d := d + 7) hJ.1 hC.2.1 hC.mt
    rw [hC.fa, hC.la, hC.go, hC.fd.1, hC.fd.2] at e2
    exact ⟨r, σ1, he, hF.g hJ.1, hr, r, rfl, hr, e2, CG.scr hJ.1 hC hF (fun a i z => by
      have z' : a = 35 ∨ a = 36 := z
      omega)⟩
  · obtain ⟨gτ, ⟨K, fr, va, D2, hm, hd, h2, hco⟩, rc, ew, ecl, hg, n8⟩ := hR
    obtain ⟨r, σ2, he, hr, hF, h0, val, e⟩ := m_suns (sc := sc) (d := d + 6) gτ hm
    refine ⟨r, σ2, he, hr, fun r0 z => ?_, RG.low hm hF AGz_in h0⟩
    obtain ⟨val0, z⟩ := z
    rw [ew] at e
    exact (BestS.uniq e (z.congr (fun c => Iff.rfl) (fun c _ => by rw [hd.sunv]))).2
end
