/-! BOTH SIDES: a pole, what stood there, hours, clouds. -/
section
variable {sc : Nat × (Nat → Int32)} {d : Nat} {σ σ1 σ2 τ : aH} {u v : Nat} {n W H : Int} {D D2 : Nat → Int → Int} {Es Er : Nat → Option Int} {du fo N w cl K : Int} {fr va : Int → Int}
theorem JC.wh (h : JC σ u n W H D Es Er du fo) : (rI σ u 3 = W ∧ rI σ u 4 = H) ∧ ((0 ≤ W ∧ W ≤ 9) ∧ 0 ≤ H ∧ H ≤ 9) := ⟨h.2.2.2.2.2.2.1, h.2.2.2.2.2.2.2.1⟩
/-- the row behind the stalls may be another one -/
theorem CG.more {A : Nat → Int → Prop} (hG : G σ u) (h : JC σ u n W H D Es Er du fo) (hF : Fr A σ σ1) (hA : ∀ (a : Nat) (i : Int), A a i → (u + 2 ≤ a ∧ a ≤ u + 9) ∨ (a = u + 1 ∧ i = 8) ∨ (a = 26 ∧ 6 ≤ i ∧ i ≤ 11) ∨ (23 ≤ a ∧ a ≤ 25) ∨ (35 ≤ a ∧ a ≤ 38) ∨ (55 ≤ a ∧ a ≤ 58)) (hD : DnEx n (Dc (rI σ) u) (Dc (rI σ1) u)) (h8 : rI σ1 (u + 1) 8 = n) : CG σ σ1 u n D := by
  have hm : u = 39 ∨ u = 60 := hG.2.2.2.2
  refine ⟨hF.weak (fun a i z => ?_), fun f i hf i0 i1 => ?_, h8, (hF.rw (by decide) (fun z => by have := hA _ _ z; omega)).trans h.go⟩
  · have := hA a i z
    show (u + 2 ≤ a ∧ a ≤ u + 9) ∨ (a = u + 1 ∧ (i = 8 ∨ i = 9)) ∨ (a = 26 ∧ 6 ≤ i ∧ i ≤ 11) ∨ (23 ≤ a ∧ a ≤ 25) ∨ (35 ≤ a ∧ a ≤ 38) ∨ (55 ≤ a ∧ a ≤ 58)
    omega
  · rw [hD f i (by omega), ← h.1]
theorem j_pole {x y : Int} (hJ : J σ u v n W H D Es Er du fo N) (hN : 0 ≤ N ∧ N ≤ 1000) (hg : gN σ ≤ 100000) (rx : inR x) (ry : inR y) : JQ sc (d + 12) mX9_pole mX10_pole [.int (nZ x), .int (nZ y)] (kq 1) σ N := by
  have hC := hJ.2.2.1
  have hw := hC.wh
  have hn0 := hC.2.1.2.1
  obtain ⟨Sp, hSp⟩ : ∃ Sp : Int → Prop, Sp = fun r => (8 ≤ n → r = -1) ∧ (n < 8 → ∃ val code : Int, BestS (PoleC D n W H) (PoleV D n (-1) (1 + rI σ u 9) (sT Es fo) (CF Er) (CF1 Er du) x) 1000000000 val code ∧ r = if y = 0 ∨ code = -1 then code else val) := ⟨_, rfl⟩
  refine JQ.one (q := 1) (ok := (0 ≤ x ∧ x ≤ 60) ∧ (0 ≤ y ∧ y ≤ 1)) (Sp := Sp) hJ hN hg (Or.inr rfl) (fun rm => ?_) (fun τ hR hτ => ?_)
  · obtain ⟨Q, hQ⟩ : ∃ Q : aO → aH → Prop, Q = CQ1 σ ((0 ≤ x ∧ x ≤ 60) ∧ (0 ≤ y ∧ y ≤ 1)) 1 (fun r σ1 => Sp r ∧ CG σ σ1 u n D) := ⟨_, rfl⟩
    rw [← hQ]
    have key : ∀ s0 : Int, (s0 = 1 ∧ ((0 ≤ x ∧ x ≤ 60) ∧ (0 ≤ y ∧ y ≤ 1))) ∨ (s0 = 0 ∧ ¬ ((0 ≤ x ∧ x ≤ 60) ∧ (0 ≤ y ∧ y ≤ 1))) → L_X9_pole_20 (Ev sc (d + 11)) sc Q x y s0 σ := by
      intro s0 hs
      apply v_X9_pole_20 hJ.1 rx ry (by omega)
      refine rq hJ.1 rm hs (fun σ1 z hk => by rw [hQ]; exact Or.inr ⟨z, rfl, hk⟩) (fun ok => ?_)
      obtain ⟨σ5, he, hF, hD, e8, p1, p2⟩ := s_placePole (sc := sc) (d := d + 6) (hC.cx hJ.1) hw.1.1 hw.2.1 hw.1.2 hw.2.2 ok.1
      rw [hC.go, ← hC.1] at p2
      have cg : CG σ σ5 u n D := CG.more hJ.1 hC hF (fun a i z => by
        have z' : (((u + 2 ≤ a ∧ a ≤ u + 9) ∧ i = n) ∨ (a = u + 1 ∧ i = 8)) ∨ (a = 26 ∧ (i = 6 ∨ i = 7)) := z
        omega) hD e8
      rw [hQ]
      refine ⟨σ5, he, hF.g hJ.1, fun z => ⟨fun z1 => ?_, fun z1 => ?_⟩, fun z => ?_⟩
      · refine Or.inl ⟨ok, _, rfl, rI_R _ _ _, ?_, cg⟩
        rw [hSp]
        exact ⟨fun q => absurd (p1 q) z, fun q => ⟨_, _, p2 q, by rw [if_neg (by omega)]⟩⟩
      · refine Or.inl ⟨ok, _, rfl, rI_R _ _ _, ?_, cg⟩
        rw [hSp]
        exact ⟨fun q => absurd (p1 q) z, fun q => ⟨_, _, p2 q, by rw [if_pos (Or.inl z1)]⟩⟩
      · refine Or.inl ⟨ok, -1, rfl, by decide, ?_, cg⟩
        rw [hSp]
        exact ⟨fun q => rfl, fun q => ⟨_, _, p2 q, by rw [if_pos (Or.inr z)]; exact z.symm⟩⟩
    apply t_X9_pole hJ.1 rx ry
    obtain ⟨r5, σ1, he, hr, e1, h1⟩ := s_isHeight (sc := sc) (d := d + 10) (x := x) hJ.1 rx
    subst e1
    obtain ⟨r6, σ6, he6, hr6, e6, h6⟩ := s_isBit (sc := sc) (d := d + 10) (x := y) hJ.1 ry
    subst e6
    exact ⟨r5, σ6, he, hJ.1, hr, fun z => key 0 (by omega), fun z => ⟨r6, σ6, he6, hJ.1, hr6, fun z1 => key 0 (by omega), fun z1 => key 1 (by omega)⟩⟩
  · obtain ⟨gτ, ⟨K, fr, va, D2, hm, hd, h2, hco⟩, rc, ew, ecl, hg, n8⟩ := hR
    by_cases ok : (0 ≤ x ∧ x ≤ 60) ∧ (0 ≤ y ∧ y ≤ 1)
    · refine (m_pole (sc := sc) (d := d + 5) gτ hm n8 ok.1 (show y = 0 ∨ y = 1 by omega)).map (fun r σ2 z => Or.inl ⟨ok, fun r0 z0 => ?_, ?_⟩)
      · obtain ⟨_, _, _, _, q1, q2⟩ := z
        rw [hSp] at z0
        by_cases c : n < 8
        · obtain ⟨vl, cd, e, er⟩ := q2 c
          obtain ⟨v0, c0, z1, zr⟩ := z0.2 c
          rw [ew] at e
          obtain ⟨a, b⟩ := e.uniq (z1.congr (fun c => by unfold PoleC; exact and_congr Iff.rfl (and_congr Iff.rfl (and_congr Iff.rfl (forall_congr' (fun k => not_congr hd.at.symm))))) (fun c _ => by unfold PoleV; exact (hd.add hn0 _ _ _).due.symm))
          rw [er, zr, a, b]
        · rw [q1 (by omega), z0.1 (by omega)]
      · have nA : ∀ (a : Nat) (i : Int), (AMq a i ∨ (a = 76 ∧ i = 0)) → (91 ≤ a ∧ a ≤ 99) ∨ (261 ≤ a ∧ a ≤ 313) ∨ (a = 76 ∧ (i = 0 ∨ i = 28 ∨ i = 36 ∨ i = 37)) := fun a i y => by
          have y' : ((91 ≤ a ∧ a ≤ 99) ∨ (261 ≤ a ∧ a ≤ 313) ∨ (a = 76 ∧ (i = 28 ∨ i = 36 ∨ i = 37))) ∨ (a = 76 ∧ i = 0) := y
          omega
        refine ⟨z.1.weak (fun a i y => ?_), z.2.1, by rw [← hm.1.2.1]; exact z.2.2.2.1, (z.1.rw (by decide) (fun y => by have := nA _ _ y; omega)).trans hm.1.1.2.2.1, z.2.2.1⟩
        have := nA a i y
        show (a = 76 ∧ (i = 0 ∨ i = 2 ∨ (4 ≤ i ∧ i ≤ 7) ∨ i = 22 ∨ i = 27 ∨ i = 28 ∨ (36 ≤ i ∧ i ≤ 43))) ∨ (91 ≤ a ∧ a ≤ 99) ∨ (261 ≤ a ∧ a ≤ 343)
        omega
    · exact (m_poleB (sc := sc) (d := d + 10) gτ rx ry rc ok).map (fun r σ2 z => Or.inr ⟨ok, z.1, z.2⟩)
theorem j_what {x : Int} (hJ : J σ u v n W H D Es Er du fo N) (hN : 0 ≤ N ∧ N ≤ 1000) (hg : gN σ ≤ 100000) (rx : inR x) : JQ sc (d + 12) mX9_what mX10_what [.int (nZ x)] (kq 1) σ N := by
  have hC := hJ.2.2.1
  have hw := hC.wh
  have hn0 := hC.2.1.2.1
  obtain ⟨Sp, hSp⟩ : ∃ Sp : Int → Prop, Sp = fun r => ∃ cnt fst : Int, WhS (WhC D (D 7) n (-1) (1 + rI σ u 9) W H (sT Es fo)) 5400 cnt fst ∧ r = if x = 0 then cnt else fst := ⟨_, rfl⟩
  refine JQ.one (q := 1) (ok := 0 ≤ x ∧ x ≤ 1) (Sp := Sp) hJ hN hg (Or.inr rfl) (fun rm => ?_) (fun τ hR hτ => ?_)
  · apply t_X9_what hJ.1 rx
    obtain ⟨r5, σ1, he, hr, e1, h1⟩ := s_isBit (sc := sc) (d := d + 10) (x := x) hJ.1 rx
    subst e1
    refine ⟨r5, σ1, he, hJ.1, hr, rq hJ.1 rm h1 (fun σ2 z hk => Or.inr ⟨z, rfl, hk⟩) (fun ok => ?_)⟩
    obtain ⟨σ5, he5, hF, e8, hD, e2⟩ := s_explain (sc := sc) (d := d + 4) (co := D 7) (hC.cm hJ.1) hC.2.2.1 hw.1.1 hw.2.1 hw.1.2 hw.2.2 (fun i i0 i1 => by rw [hC.1]; rfl)
    rw [hC.go, ← hC.1] at e2
    have cg : CG σ1 σ5 u n D := CG.more hJ.1 hC hF (fun a i z => by
      have z' : (((u + 2 ≤ a ∧ a ≤ u + 9) ∧ i = n) ∨ (a = u + 1 ∧ i = 8)) ∨ (a = 26 ∧ (i = 10 ∨ i = 11)) ∨ a = 37 ∨ a = 58 := z
      omega) hD e8
    refine ⟨σ5, he5, hF.g hJ.1, fun z => Or.inl ⟨ok, _, rfl, rI_R _ _ _, ?_, cg⟩, fun z => Or.inl ⟨ok, _, rfl, rI_R _ _ _, ?_, cg⟩⟩
    · rw [hSp]; exact ⟨_, _, e2, by rw [if_neg z]⟩
    · rw [hSp]; exact ⟨_, _, e2, by rw [if_pos z]⟩
  · obtain ⟨gτ, ⟨K, fr, va, D2, hm, hd, h2, hco⟩, rc, ew, ecl, hg, n8⟩ := hR
    by_cases ok : 0 ≤ x ∧ x ≤ 1
    · refine (m_what (sc := sc) (d := d + 5) (co := D 7) gτ hm n8 h2 hco (show x = 0 ∨ x = 1 by omega)).map (fun r σ2 z => Or.inl ⟨ok, fun r0 z0 => ?_, ?_⟩)
      · obtain ⟨_, _, _, _, cn, fs, e, er⟩ := z
        rw [hSp] at z0
        obtain ⟨c0, f0, z1, zr⟩ := z0
        rw [ew] at e
        obtain ⟨a, b⟩ := e.uniq (z1.congr (fun q => (WhC_congr hn0 hd (fun i _ _ => rfl) q).symm))
        rw [er, zr, a, b]
      · have nA : ∀ (a : Nat) (i : Int), (AMw a i ∨ (a = 76 ∧ i = 0)) → (91 ≤ a ∧ a ≤ 99) ∨ (261 ≤ a ∧ a ≤ 342) ∨ (a = 76 ∧ (i = 0 ∨ i = 28 ∨ i = 36 ∨ i = 37)) := fun a i y => by
          have y' : (((91 ≤ a ∧ a ≤ 99) ∨ (261 ≤ a ∧ a ≤ 313) ∨ (a = 76 ∧ (i = 28 ∨ i = 36 ∨ i = 37))) ∨ a = 342) ∨ (a = 76 ∧ i = 0) := y
          omega
        refine ⟨z.1.weak (fun a i y => ?_), z.2.1, by rw [← hm.1.2.1]; exact z.2.2.2.1, (z.1.rw (by decide) (fun y => by have := nA _ _ y; omega)).trans hm.1.1.2.2.1, z.2.2.1⟩
        have := nA a i y
        show (a = 76 ∧ (i = 0 ∨ i = 2 ∨ (4 ≤ i ∧ i ≤ 7) ∨ i = 22 ∨ i = 27 ∨ i = 28 ∨ (36 ≤ i ∧ i ≤ 43))) ∨ (91 ≤ a ∧ a ≤ 99) ∨ (261 ≤ a ∧ a ≤ 343)
        omega
    · exact (m_whatB (sc := sc) (d := d + 10) gτ rx rc ok).map (fun r σ2 z => Or.inr ⟨ok, z.1, z.2⟩)
/-- what is due in an hour -/
noncomputable def HoT (D : Nat → Int → Int) (n w : Int) (Es Er : Nat → Option Int) (du fo h : Int) : Int := TotAB (Falls D n (-1) w) (D 6) (sT Es fo) (aT Er 1) du n (-1) (60 * h) (60 * h + 60)
theorem Deq.hot {h : Int} (hd : Deq n D D2) : HoT D2 n w Es Er du fo h = HoT D n w Es Er du fo h := hd.tot
theorem Deq.duc {c seed : Int} (hd : Deq n D D2) : DuC D2 n (-1) w Es Er du fo c seed = DuC D n (-1) w Es Er du fo c seed := sm_congr (fun h _ _ => by
  have := hd.hot (w := w) (Es := Es) (Er := Er) (du := du) (fo := fo) (h := h)
  unfold HoT at this
  rw [this])
theorem JC.hours (hG : G σ u) (hC : JC σ u n W H D Es Er du fo) : TV sc (d + 4) mX6_reckonHours [.ref 27] σ (fun σ1 => Fr AH σ σ1 ∧ ∀ h : Int, 0 ≤ h → h < 24 → rI σ1 38 h = HoT D n (1 + rI σ u 9) Es Er du fo h ∧ 0 ≤ HoT D n (1 + rI σ u 9) Es Er du fo h ∧ HoT D n (1 + rI σ u 9) Es Er du fo h ≤ 2099520) := by
  obtain ⟨σ1, he, hF, e⟩ := s_reckonHours (sc := sc) (d := d) hG hC.2.1 hC.mt
  refine ⟨σ1, he, hF, fun h h0 h1 => ⟨?_, TotAB_bd (by have := hC.2.2.1; omega) (rate9 hC.mt.2.2.2.1)⟩⟩
  rw [e h h0 h1, hC.fa, hC.la, hC.go, hC.fd.1, hC.fd.2]; rfl
theorem AH_in (a : Nat) (i : Int) (h : AH a i) : (a = 26 ∧ 6 ≤ i ∧ i ≤ 11) ∨ (23 ≤ a ∧ a ≤ 25) ∨ (35 ≤ a ∧ a ≤ 38) ∨ (55 ≤ a ∧ a ≤ 58) := by
  have h' : a = 35 ∨ a = 36 ∨ a = 38 := h
  omega
theorem j_hour {x : Int} (hJ : J σ u v n W H D Es Er du fo N) (hN : 0 ≤ N ∧ N ≤ 1000) (hg : gN σ ≤ 100000) (rx : inR x) : JQ sc (d + 12) mX9_hour mX10_hour [.int (nZ x)] (kq 1) σ N := by
  have hC := hJ.2.2.1
  obtain ⟨T, hT⟩ : ∃ T : Int → Int, T = HoT D n (1 + rI σ u 9) Es Er du fo := ⟨_, rfl⟩
  refine JQ.one (q := 1) (ok := 0 ≤ x ∧ x ≤ 1) (Sp := fun r => ∃ b : Int, HrS T 24 b ∧ r = if x = 0 then b else T b) hJ hN hg (Or.inr rfl) (fun rm => ?_) (fun τ hR hτ => ?_)
  · apply t_X9_hour hJ.1 rx
    obtain ⟨r5, σ1, he, hr, e1, h1⟩ := s_isBit (sc := sc) (d := d + 10) (x := x) hJ.1 rx
    subst e1
    refine ⟨r5, σ1, he, hJ.1, hr, rq hJ.1 rm h1 (fun σ2 z hk => Or.inr ⟨z, rfl, hk⟩) (fun ok => ?_)⟩
    obtain ⟨σ5, he5, hF, e5⟩ := hC.hours (sc := sc) (d := d + 7) hJ.1
    rw [← hT] at e5
    have cg := CG.scr hJ.1 hC hF AH_in
    refine ⟨σ5, he5, hF.g hJ.1, ?_⟩
    obtain ⟨Q, hQ⟩ : ∃ Q : aO → aH → Prop, Q = CQ1 σ1 (0 ≤ x ∧ x ≤ 1) 1 (fun r σ2 => (∃ b : Int, HrS T 24 b ∧ r = if x = 0 then b else T b) ∧ CG σ1 σ2 u n D) := ⟨_, rfl⟩
    rw [← hQ]
    have loop : ∀ (f : Nat) (k b : Int), (24 - k).toNat = f → 0 ≤ k → k ≤ 24 → HrS T k b → L_X9_hour_19 (Ev sc (d + 11)) sc Q x b k σ5 := by
      intro f
      induction f with
      | zero =>
        intro k b hf k0 k1 hB
        have hb := hB.1
        apply v_X9_hour_19 (hF.g hJ.1) rx (by omega) (by omega)
        have hk : k = 24 := by omega
        rw [hk] at hB
        refine ⟨fun _ => ⟨fun z => ⟨by omega, ?_⟩, fun z => ?_⟩, fun z => by omega⟩
        · rw [hQ]; exact Or.inl ⟨ok, _, rfl, rI_R _ _ _, ⟨b, hB, by rw [if_neg z, (e5 b hb.1 (by omega)).1]⟩, cg⟩
        · rw [hQ]; exact Or.inl ⟨ok, b, rfl, by omega, ⟨b, hB, by rw [if_pos z]⟩, cg⟩
      | succ f ih =>
        intro k b hf k0 k1 hB
        have hb := hB.1
        apply v_X9_hour_19 (hF.g hJ.1) rx (by omega) (by omega)
        rw [(e5 b hb.1 (by omega)).1, (e5 k k0 (by omega)).1]
        refine ⟨fun z => by omega, fun _ => ⟨by omega, by omega, fun z => ⟨by omega, ih (k + 1) b (by omega) (by omega) (by omega) ⟨by omega, fun h h0 h1 => ?_⟩⟩, fun z => ⟨by omega, ih (k + 1) k (by omega) (by omega) (by omega) ⟨by omega, fun h h0 h1 => ?_⟩⟩⟩⟩
        · by_cases c : h = k
          · rw [c]; exact ⟨z, fun q => by omega⟩
          · exact hB.2 h h0 (by omega)
        · by_cases c : h = k
          · rw [c]; exact ⟨Int.le_refl _, fun q => by omega⟩
          · have := (hB.2 h h0 (by omega)).1
            exact ⟨by omega, fun q => by omega⟩
    exact loop _ 1 0 rfl (by decide) (by decide) ⟨by decide, fun h h0 h1 => by
      have : h = 0 := by omega
      rw [this]; exact ⟨Int.le_refl _, fun q => by omega⟩⟩
  · obtain ⟨gτ, ⟨K, fr, va, D2, hm, hd, h2, hco⟩, rc, ew, ecl, hg, n8⟩ := hR
    refine (m_hour (sc := sc) (d := d + 6) gτ hm rx rc).map (fun r σ2 ob => ob.map (fun ok z => ⟨fun r0 z0 => ?_, RG.low hm z.1 AGz_in z.2.1⟩))
    obtain ⟨_, _, b, e, er⟩ := z
    obtain ⟨b0, z1, zr⟩ := z0
    rw [ew] at e er
    have f : ∀ h : Int, TotAB (Falls D2 n (-1) (1 + rI σ u 9)) (D2 6) (sT Es fo) (aT Er 1) du n (-1) (60 * h) (60 * h + 60) = T h := fun h => by rw [hT]; exact hd.hot
    rw [funext f] at e
    rw [f b] at er
    have := e.uniq z1
    rw [er, zr, this]
theorem CldB_b {seed c : Int} : 0 ≤ CldB seed c ∧ CldB seed c ≤ 2147483647 := by
  have := bs_lt (fun h => drw seed h.toNat < c) 24
  have e : ((2 : Int) ^ 24) = 16777216 := by decide
  unfold CldB
  omega
theorem j_clouds {x y : Int} (hJ : J σ u v n W H D Es Er du fo N) (hN : 0 ≤ N ∧ N ≤ 1000) (hg : gN σ ≤ 100000) (rx : inR x) (ry : inR y) : JQ sc (d + 12) mX9_clouds mX10_clouds [.int (nZ x), .int (nZ y)] (kq 1) σ N := by
  have hC := hJ.2.2.1
  refine JQ.one (q := 1) (ok := 0 ≤ y ∧ y ≤ 1) (Sp := fun r => r = if y = 1 then CldB x (rI σ u 7) else DuC D n (-1) (1 + rI σ u 9) Es Er du fo (rI σ u 7) x) hJ hN hg (Or.inr rfl) (fun rm => ?_) (fun τ hR hτ => ?_)
  · apply t_X9_clouds hJ.1 rx ry
    obtain ⟨r5, σ1, he, hr, e1, h1⟩ := s_isBit (sc := sc) (d := d + 10) (x := y) hJ.1 ry
    subst e1
    refine ⟨r5, σ1, he, hJ.1, hr, rq hJ.1 rm h1 (fun σ2 z hk => Or.inr ⟨z, rfl, hk⟩) (fun ok => ?_)⟩
    obtain ⟨r6, σ6, he6, hr6, e6, h6⟩ := s_cloudsDrawn (sc := sc) (d := d + 10) (seed := x) hJ.1 hJ.mk rx
    subst e6
    refine ⟨r6, σ6, he6, hJ.1, hr6, fun z => ?_, fun z => Or.inl ⟨ok, r6, rfl, hr6, by rw [if_pos z]; exact h6, CG.same hC⟩⟩
    obtain ⟨σ7, he7, hF, e7⟩ := hC.hours (sc := sc) (d := d + 7) hJ.1
    rw [h6] at hr6 ⊢
    obtain ⟨r8, σ8, he8, hr8, e8, h8⟩ := s_dueWithout (sc := sc) (d := d + 10) (b := CldB x (rI σ6 u 7)) (hF.g hJ.1) CldB_b e7
    subst e8
    exact ⟨σ8, he7, hF.g hJ.1, r8, σ8, he8, hF.g hJ.1, hr8, Or.inl ⟨ok, r8, rfl, hr8, by rw [if_neg z]; exact h8, CG.scr hJ.1 hC hF AH_in⟩⟩
  · obtain ⟨gτ, ⟨K, fr, va, D2, hm, hd, h2, hco⟩, rc, ew, ecl, hg, n8⟩ := hR
    refine (m_clouds (sc := sc) (d := d + 6) gτ hm rx ry rc).map (fun r σ2 ob => ob.map (fun ok z => ⟨fun r0 z0 => ?_, RG.low hm z.1 AGz_in z.2.1⟩))
    rw [z0, z.2.2, ew, ecl, hd.duc]
theorem j_span {x y t : Int} (hJ : J σ u v n W H D Es Er du fo N) (hN : 0 ≤ N ∧ N ≤ 1000) (hg : gN σ ≤ 100000) (rx : inR x) (ry : inR y) (rt : inR t) : JQ sc (d + 12) mX9_span mX10_span [.int (nZ x), .int (nZ y), .int (nZ t)] (kq 1) σ N := by
  have hC := hJ.2.2.1
  obtain ⟨F, hFe⟩ : ∃ F : Nat → Int, F = fun k : Nat => DuC D n (-1) (1 + rI σ u 9) Es Er du fo (rI σ u 7) (wr (x + (k : Int))) := ⟨_, rfl⟩
  refine JQ.one (q := 1) (ok := (1 ≤ y ∧ y ≤ 60) ∧ (0 ≤ t ∧ t ≤ 1)) (Sp := fun r => r = SpV F t (y - 1).toNat) hJ hN hg (Or.inr rfl) (fun rm => ?_) (fun τ hR hτ => ?_)
  · obtain ⟨Q, hQ⟩ : ∃ Q : aO → aH → Prop, Q = CQ1 σ ((1 ≤ y ∧ y ≤ 60) ∧ (0 ≤ t ∧ t ≤ 1)) 1 (fun r σ1 => r = SpV F t (y - 1).toNat ∧ CG σ σ1 u n D) := ⟨_, rfl⟩
    rw [← hQ]
    have bad : ¬ ((1 ≤ y ∧ y ≤ 60) ∧ (0 ≤ t ∧ t ≤ 1)) → L_X9_span_23 (Ev sc (d + 11)) sc Q x y t σ := by
      intro nok
      apply v_X9_span_23 hJ.1 rx ry rt
      obtain ⟨σ1, he, hk⟩ := s_require0 (sc := sc) (d := d + 10) hJ.1 rm
      exact Or.inl ⟨1, σ1, he, by rw [hQ]; exact Or.inr ⟨nok, rfl, hk⟩⟩
    apply t_X9_span hJ.1 rx ry rt
    obtain ⟨r5, σ1, he, hr, e1, h1⟩ := s_isBit (sc := sc) (d := d + 10) (x := t) hJ.1 rt
    subst e1
    refine ⟨fun z => bad (by omega), fun z => ⟨fun z1 => bad (by omega), fun z1 => ⟨r5, σ1, he, hJ.1, hr, fun z2 => bad (by omega), fun z2 => Or.inr ⟨σ1, s_require1 hJ.1 (by decide) (by decide), hJ.1, ?_⟩⟩⟩⟩
    have ok : (1 ≤ y ∧ y ≤ 60) ∧ (0 ≤ t ∧ t ≤ 1) := by omega
    obtain ⟨σ7, he7, hF, e7⟩ := hC.hours (sc := sc) (d := d + 7) hJ.1
    have g7 := hF.g hJ.1
    have hmk : u = 39 ∨ u = 60 := hJ.mk
    have c7 : rI σ7 u 7 = rI σ1 u 7 := hF.rw (by decide) (by show ¬ (u = 35 ∨ u = 36 ∨ u = 38); omega)
    have one : ∀ s : Int, inR s → ∃ r6 r8 : Int, Ev sc (d + 11) mX2_cloudsDrawn [.ref u, .int (nZ s)] σ7 (.inl (some (.int (nZ r6)))) σ7 ∧ inR r6 ∧ Ev sc (d + 11) mX6_dueWithout [.ref 27, .int (nZ r6)] σ7 (.inl (some (.int (nZ r8)))) σ7 ∧ inR r8 ∧ r8 = DuC D n (-1) (1 + rI σ1 u 9) Es Er du fo (rI σ1 u 7) s := by
      intro s rs
      obtain ⟨r6, σ6, he6, hr6, e6, h6⟩ := s_cloudsDrawn (sc := sc) (d := d + 10) (seed := s) g7 hJ.mk rs
      subst e6
      obtain ⟨r8, σ8, he8, hr8, e8, h8⟩ := s_dueWithout (sc := sc) (d := d + 10) (b := r6) g7 (by rw [h6]; exact CldB_b) e7
      subst e8
      refine ⟨r6, r8, he6, hr6, he8, hr8, ?_⟩
      rw [h8, h6, c7]; rfl
    have cg := CG.scr hJ.1 hC hF AH_in
    have loop : ∀ (f k : Nat) (b : Int), (y - 1 - k).toNat = f → (k : Int) + 1 ≤ y → inR b → b = SpV F t k → L_X9_span_54 (Ev sc (d + 11)) sc Q x y t b ((k : Int) + 1) σ7 := by
      intro f
      induction f with
      | zero =>
        intro k b hf hk rb hb
        apply v_X9_span_54 g7 rx ry rt rb (by omega)
        refine ⟨fun _ => ?_, fun q => by omega⟩
        rw [hQ]
        exact Or.inl ⟨ok, b, rfl, rb, by rw [hb, show (y - 1).toNat = k by omega], cg⟩
      | succ f ih =>
        intro k b hf hk rb hb
        obtain ⟨r6, r8, a1, a2, a3, a4, a5⟩ := one (wr (x + ((k : Int) + 1))) (wr_R _)
        have hFk : r8 = F (k + 1) := by rw [hFe]; exact a5
        have st : SpV F t (k + 1) = if t = 0 then min b r8 else max b r8 := by rw [hb, hFk]; rfl
        apply v_X9_span_54 g7 rx ry rt rb (by omega)
        refine ⟨fun q => by omega, fun _ => ⟨r6, σ7, a1, g7, a2, r8, σ7, a3, g7, a4, fun z z1 e1 => ⟨by omega, ?_⟩, fun z z1 e1 => ⟨by omega, ?_⟩⟩⟩
        · rw [if_neg z] at st
          exact ih (k + 1) z1 (by omega) (by omega) (by omega) (by rw [st]; exact e1)
        · rw [if_pos z] at st
          exact ih (k + 1) z1 (by omega) (by omega) (by omega) (by rw [st]; exact e1)
    obtain ⟨r6, r8, a1, a2, a3, a4, a5⟩ := one x rx
    refine ⟨σ7, he7, g7, r6, σ7, a1, g7, a2, r8, σ7, a3, g7, a4, ?_⟩
    refine loop _ 0 r8 rfl (by omega) a4 ?_
    rw [a5, hFe]
    show _ = DuC D n (-1) (1 + rI σ1 u 9) Es Er du fo (rI σ1 u 7) (wr (x + ((0 : Nat) : Int)))
    rw [show x + ((0 : Nat) : Int) = x by omega, wr_id rx]
  · obtain ⟨gτ, ⟨K, fr, va, D2, hm, hd, h2, hco⟩, rc, ew, ecl, hg, n8⟩ := hR
    refine (m_span (sc := sc) (d := d + 6) gτ hm rx ry rt rc).map (fun r σ2 ob => ob.map (fun ok z => ⟨fun r0 z0 => ?_, RG.low hm z.1 AGz_in z.2.1⟩))
    rw [z0, z.2.2, ew, ecl, hFe]
    congr 1
    funext k
    exact hd.duc
end
