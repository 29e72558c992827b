/-! BOTH SIDES: questions with two refusals. -/
section
variable {sc : Nat × (Nat → Int32)} {d : Nat} {σ σ1 σ2 τ : aH} {u v : Nat} {n W H : Int} {D D2 : Nat → Int → Int} {Es Er : Nat → Option Int} {du fo N w cl K : Int} {fr va : Int → Int}
theorem OB2.map {σ : aH} {o1 o2 : Prop} {w1 q1 w2 q2 : Int} {P Q : Int → aH → Prop} {r : Int} {σ1 : aH} (h : OB2 σ o1 w1 q1 o2 w2 q2 P r σ1) (f : o1 → o2 → P r σ1 → Q r σ1) : OB2 σ o1 w1 q1 o2 w2 q2 Q r σ1 :=
  OB.map h (fun a b => OB.map b (fun c e => f a c e))
theorem j_stall {x y : Int} (hJ : J σ u v n W H D Es Er du fo N) (hN : 0 ≤ N ∧ N ≤ 1000) (hg : gN σ ≤ 100000) (rx : inR x) (ry : inR y) : JQ sc (d + 12) mX9_stall mX10_stall [.int (nZ x), .int (nZ y)] k12 σ N := by
  have hC := hJ.2.2.1
  have same := CG.same hC
  have h8 := hC.2.2.1
  refine JQ.two (o1 := 0 ≤ x ∧ x < n) (o2 := 0 ≤ y ∧ y ≤ 6) (Sp := fun r => r = D y.toNat x) hJ hN hg (fun rm => ?_) (fun τ hR hτ => ?_)
  · obtain ⟨Q, hQ⟩ : ∃ Q : aO → aH → Prop, Q = CQ2 σ (0 ≤ x ∧ x < n) (0 ≤ y ∧ y ≤ 6) (fun r σ1 => r = D y.toNat x ∧ CG σ σ1 u n D) := ⟨_, rfl⟩
    rw [← hQ]
    apply t_X9_stall hJ.1 rx ry
    refine rqS hJ.1 rm rx hC.2.1.1 (fun σ1 z hk => by rw [hQ]; exact Or.inr (Or.inl ⟨z, rfl, hk⟩)) (fun o1 => ?_)
    have key : ∀ s0 : Int, (s0 = 1 ∧ (0 ≤ y ∧ y ≤ 6)) ∨ (s0 = 0 ∧ ¬ (0 ≤ y ∧ y ≤ 6)) → L_X9_stall_21 (Ev sc (d + 11)) sc Q x y s0 σ := by
      intro s0 hs
      apply v_X9_stall_21 hJ.1 rx ry (by omega)
      refine rq hJ.1 rm hs (fun σ1 z hk => by rw [hQ]; exact Or.inr (Or.inr ⟨o1, z, rfl, hk⟩)) (fun o2 => ?_)
      have fin : ∀ f : Nat, f ≤ 7 → y.toNat = f → (0 ≤ x ∧ x < 9) ∧ Q (.inl (some (.int (nZ (rI σ (u + 2 + f) x))))) σ := fun f hf e => ⟨by omega, by
        rw [hQ]
        exact Or.inl ⟨o1, o2, _, rfl, rI_R _ _ _, by rw [hC.1, e, Dc_eq hf], same⟩⟩
      exact ⟨fun z => fin 6 (by decide) (by omega), fun z => fin 0 (by decide) (by omega), fun z => fin 1 (by decide) (by omega), fun z => fin 2 (by decide) (by omega), fun z => fin 3 (by decide) (by omega), fun z => fin 4 (by decide) (by omega), fun z => fin 5 (by decide) (by omega)⟩
    exact ⟨fun z => key 0 (by omega), fun z => ⟨fun z1 => key 0 (by omega), fun z1 => key 1 (by omega)⟩⟩
  · obtain ⟨gτ, ⟨K, fr, va, D2, hm, hd, h2, hco⟩, rc, ew, ecl, hg, n8⟩ := hR
    refine (m_stall (sc := sc) (d := d + 9) gτ hm.1.2.1 h2 hm.1.1.2.1 rx ry rc).map (fun r σ2 ob => ob.map (fun o1 o2 z => ⟨fun r0 z0 => ?_, RG.low hm z.1 A0_in z.2.1⟩))
    rw [z0, z.2.2]; exact hd y.toNat x (by omega) o1.1 o1.2
theorem j_length {x y : Int} (hJ : J σ u v n W H D Es Er du fo N) (hN : 0 ≤ N ∧ N ≤ 1000) (hg : gN σ ≤ 100000) (rx : inR x) (ry : inR y) : JQ sc (d + 12) mX9_length mX10_length [.int (nZ x), .int (nZ y)] k12 σ N := by
  have hC := hJ.2.2.1
  refine JQ.two (o1 := 0 ≤ x ∧ x < n) (o2 := 0 ≤ y ∧ y < 1440) (Sp := fun r => r = if sT Es fo y = -1 ∨ sT Es fo y / 10 = 4 then 0 else D 2 x * (sT Es fo y % 10) * (1 + rI σ u 9) / 10) hJ hN hg (fun rm => ?_) (fun τ hR hτ => ?_)
  · apply t_X9_length hJ.1 rx ry
    refine rqS hJ.1 rm rx hC.2.1.1 (fun σ1 z hk => Or.inr (Or.inl ⟨z, rfl, hk⟩)) (fun o1 => ?_)
    obtain ⟨r5, σ1, he, hr, e1, h1⟩ := s_isMinute (sc := sc) (d := d + 10) (x := y) hJ.1 ry
    subst e1
    refine ⟨r5, σ1, he, hJ.1, hr, rq hJ.1 rm h1 (fun σ2 z hk => Or.inr (Or.inr ⟨o1, z, rfl, hk⟩)) (fun o2 => ?_)⟩
    obtain ⟨r, σ2, he2, hr2, e3, e2⟩ := s_reach (sc := sc) (d := d + 8) hJ.1 hC.2.1 hC.mt.1 hC.mt.2.2.1 o1 o2
    subst e3
    rw [hC.fd.1] at e2
    exact ⟨r, σ2, he2, hJ.1, hr2, Or.inl ⟨o1, o2, r, rfl, hr2, by rw [e2, hC.1]; rfl, CG.same hC⟩⟩
  · obtain ⟨gτ, ⟨K, fr, va, D2, hm, hd, h2, hco⟩, rc, ew, ecl, hg, n8⟩ := hR
    refine (m_length (sc := sc) (d := d + 7) gτ hm h2 rx ry rc).map (fun r σ2 ob => ob.map (fun o1 o2 z => ⟨fun r0 z0 => ?_, RG.low hm z.1 A0_in z.2.1⟩))
    rw [z0, z.2.2, ew, hd 2 x (by decide) o1.1 o1.2]
theorem AOz_in (a : Nat) (i : Int) (h : AOz a i) : (a = 76 ∧ (i = 0 ∨ i = 36 ∨ i = 37)) ∨ (261 ≤ a ∧ a ≤ 343) := by
  have h' : (261 ≤ a ∧ a ≤ 280) ∨ (a = 76 ∧ i = 0) := h
  omega
theorem j_under {x y : Int} (hJ : J σ u v n W H D Es Er du fo N) (hN : 0 ≤ N ∧ N ≤ 1000) (hg : gN σ ≤ 100000) (rx : inR x) (ry : inR y) : JQ sc (d + 12) mX9_under mX10_under [.int (nZ x), .int (nZ y)] k12 σ N := by
  have hC := hJ.2.2.1
  refine JQ.two (o1 := 0 ≤ x ∧ x < n) (o2 := 0 ≤ y ∧ y < 1440) (Sp := fun r => r = bs (fun k => Falls D n (-1) (1 + rI σ u 9) k x (sT Es fo y)) n.toNat) hJ hN hg (fun rm => ?_) (fun τ hR hτ => ?_)
  · apply t_X9_under hJ.1 rx ry
    refine rqS hJ.1 rm rx hC.2.1.1 (fun σ1 z hk => Or.inr (Or.inl ⟨z, rfl, hk⟩)) (fun o1 => ?_)
    obtain ⟨r5, σ1, he, hr, e1, h1⟩ := s_isMinute (sc := sc) (d := d + 10) (x := y) hJ.1 ry
    subst e1
    refine ⟨r5, σ1, he, hJ.1, hr, rq hJ.1 rm h1 (fun σ2 z hk => Or.inr (Or.inr ⟨o1, z, rfl, hk⟩)) (fun o2 => ?_)⟩
    obtain ⟨r6, σ6, he6, hr6, e6, h6⟩ := s_sunAt (sc := sc) (d := d + 9) (t := y) hJ.1 hJ.mk hJ.mk.ch.1 hC.mt.1 (by omega)
    subst e6
    rw [hC.fd.1] at h6
    rw [h6] at hr6 he6
    obtain ⟨r, σ2, he2, hr2, e3, e2⟩ := s_throwers (sc := sc) (d := d + 7) (j := x) (s := sT Es fo y) hJ.1 hC.2.1 o1 (hC.sb y)
    subst e3
    rw [hC.fa] at e2
    exact ⟨_, σ2, he6, hJ.1, hr6, r, σ2, he2, hJ.1, hr2, Or.inl ⟨o1, o2, r, rfl, hr2, e2, CG.same hC⟩⟩
  · obtain ⟨gτ, ⟨K, fr, va, D2, hm, hd, h2, hco⟩, rc, ew, ecl, hg, n8⟩ := hR
    refine (m_under (sc := sc) (d := d + 7) gτ hm h2 rx ry rc).map (fun r σ2 ob => ob.map (fun o1 o2 z => ⟨fun r0 z0 => ?_, RG.low hm z.1 AOz_in z.2.1⟩))
    rw [z0, z.2.2, ew]
    exact bs_congr (fun k k0 k1 => hd.falls ⟨k0, by omega⟩ o1)
theorem j_shades {x y t : Int} (hJ : J σ u v n W H D Es Er du fo N) (hN : 0 ≤ N ∧ N ≤ 1000) (hg : gN σ ≤ 100000) (rx : inR x) (ry : inR y) (rt : inR t) : JQB sc (d + 12) mX9_shades mX10_shades [.int (nZ x), .int (nZ y), .int (nZ t)] k12 σ N (fun r => r = 0 ∨ r = 1) := by
  have hC := hJ.2.2.1
  refine (JQB.two (o1 := (0 ≤ x ∧ x < n) ∧ (0 ≤ y ∧ y < n)) (o2 := x ≠ y ∧ (0 ≤ t ∧ t < 1440)) (Sp := fun r => (r = 1 ∧ Falls D n (-1) (1 + rI σ u 9) x y (sT Es fo t)) ∨ (r = 0 ∧ ¬ Falls D n (-1) (1 + rI σ u 9) x y (sT Es fo t))) hJ hN hg (fun rm => ?_) (fun τ hR hτ => ?_)).weak (fun r h => by omega)
  · apply t_X9_shades hJ.1 rx ry rt
    refine rqT hJ.1 rm rx ry hC.2.1.1 (fun σ1 z hk => Or.inr (Or.inl ⟨z, rfl, hk⟩)) (fun σ1 o1 z hk => Or.inr (Or.inr ⟨o1, fun q => q.1 z, rfl, hk⟩)) (fun o1 ne => ?_)
    obtain ⟨r5, σ1, he, hr, e1, h1⟩ := s_isMinute (sc := sc) (d := d + 10) (x := t) hJ.1 rt
    subst e1
    refine ⟨r5, σ1, he, hJ.1, hr, rq hJ.1 rm h1 (fun σ2 z hk => Or.inr (Or.inr ⟨o1, fun q => z q.2, rfl, hk⟩)) (fun o2 => ?_)⟩
    obtain ⟨r6, σ6, he6, hr6, e6, h6⟩ := s_sunAt (sc := sc) (d := d + 9) (t := t) hJ.1 hJ.mk hJ.mk.ch.1 hC.mt.1 (by omega)
    subst e6
    rw [hC.fd.1] at h6
    rw [h6] at hr6 he6
    obtain ⟨r, σ2, he2, hr2, e3, e2⟩ := s_falls (sc := sc) (d := d + 8) (i := x) (j := y) (s := sT Es fo t) hJ.1 hC.2.1 o1.1 o1.2 (hC.sb t)
    subst e3
    rw [hC.fa] at e2
    exact ⟨_, σ2, he6, hJ.1, hr6, r, σ2, he2, hJ.1, hr2, by omega, Or.inl ⟨o1, ⟨ne, o2⟩, r, rfl, hr2, e2, CG.same hC⟩⟩
  · obtain ⟨gτ, ⟨K, fr, va, D2, hm, hd, h2, hco⟩, rc, ew, ecl, hg, n8⟩ := hR
    refine (m_shades (sc := sc) (d := d + 7) gτ hm h2 rx ry rt rc).map (fun r σ2 ob => ob.map (fun o1 o2 z => ⟨fun r0 z0 => ?_, RG.low hm z.1 AOz_in z.2.1⟩))
    have e := z.2.2
    rw [ew, hd.falls o1.1 o1.2] at e
    rcases e with ⟨a, b⟩ | ⟨a, b⟩ <;> rcases z0 with ⟨a1, b1⟩ | ⟨a1, b1⟩
    · omega
    · exact absurd b b1
    · exact absurd b1 b
    · omega
theorem j_minutes {x y : Int} (hJ : J σ u v n W H D Es Er du fo N) (hN : 0 ≤ N ∧ N ≤ 1000) (hg : gN σ ≤ 100000) (rx : inR x) (ry : inR y) : JQ sc (d + 12) mX9_minutes mX10_minutes [.int (nZ x), .int (nZ y)] k12 σ N := by
  have hC := hJ.2.2.1
  have hm0 := hC.cm hJ.1
  refine JQ.two (o1 := (0 ≤ x ∧ x < n) ∧ (0 ≤ y ∧ y < n)) (o2 := x ≠ y) (Sp := fun r => r = Fsm (Falls D n (-1) (1 + rI σ u 9)) (sT Es fo) one x y) hJ hN hg (fun rm => ?_) (fun τ hR hτ => ?_)
  · apply t_X9_minutes hJ.1 rx ry
    refine rqT hJ.1 rm rx ry hC.2.1.1 (fun σ1 z hk => Or.inr (Or.inl ⟨z, rfl, hk⟩)) (fun σ1 o1 z hk => Or.inr (Or.inr ⟨o1, fun q => q z, rfl, hk⟩)) (fun o1 ne => ?_)
    obtain ⟨r6, σ6, he6, hr6, e6, h6⟩ := s_needF (sc := sc) (d := d + 9) (i := x) (j := y) hJ.1 hC.2.1 o1.1 o1.2
    subst e6
    obtain ⟨r, σ2, he2, hr2, e3, e2⟩ := s_at (sc := sc) (d := d + 10) (w := 31) hJ.1 (Or.inr (Or.inl rfl)) hm0.2.2.1 hC.sb h6
    subst e3
    rw [hC.go, ← hC.1] at e2
    exact ⟨_, σ2, he6, hJ.1, hr6, r, σ2, he2, hJ.1, hr2, Or.inl ⟨o1, ne, r, rfl, hr2, e2, CG.same hC⟩⟩
  · obtain ⟨gτ, ⟨K, fr, va, D2, hm, hd, h2, hco⟩, rc, ew, ecl, hg, n8⟩ := hR
    refine (m_minutes (sc := sc) (d := d + 6) gτ hm h2 rx ry rc).map (fun r σ2 ob => ob.map (fun o1 o2 z => ⟨fun r0 z0 => ?_, RG.low hm z.1 AGz_in z.2.1⟩))
    rw [z0, z.2.2, ew]
    exact Fsm_congr (fun s => hd.falls o1.1 o1.2)
theorem AW34_in (a : Nat) (i : Int) (h : AW 34 a i) : (a = 26 ∧ 6 ≤ i ∧ i ≤ 11) ∨ (23 ≤ a ∧ a ≤ 25) ∨ (35 ≤ a ∧ a ≤ 38) ∨ (55 ≤ a ∧ a ≤ 58) := by
  have h' : a = 34 + 1 ∨ a = 34 + 2 := h
  omega
theorem JC.costs {t : Int} (hG : G σ u) (hC : JC σ u n W H D Es Er du fo) (ht : 0 ≤ t ∧ t ≤ 1440) : ∃ σ1 : aH, Ev sc (d + 3) mX6_costsOf [.ref 27, .int (nZ 0), .int (nZ t)] σ (.inl (some (.ref 34))) σ1 ∧ Fr (AW 34) σ σ1 ∧ Sh σ1 u n ∧ WtS (rI σ1) 34 (sT Es fo) (Fn (aT Er 1) 0 t) (Fn (aT Er 1) (max 0 du) t) ∧ FaC (rI σ1) u n = Falls D n (-1) (1 + rI σ u 9) ∧ rI σ1 (u + 8) = D 6 := by
  have hmk : u = 39 ∨ u = 60 := hG.2.2.2.2
  obtain ⟨σ1, he, hF, hW⟩ := s_costsOf (sc := sc) (d := d) (a := 0) (b := t) hG hC.mt (by decide) ht
  rw [hC.fd.1, hC.fd.2] at hW
  have no : ∀ (a : Nat) (i : Int), 39 ≤ a → ¬ AW 34 a i := fun a i p => by show ¬ (a = 34 + 1 ∨ a = 34 + 2); omega
  have rows : ∀ a : Nat, u + 2 ≤ a → a ≤ u + 9 → rI σ1 a = rI σ a := fun a p q => hF.row (fun i => no a i (by omega))
  have w9 : rI σ1 u 9 = rI σ u 9 := hF.rw (by decide) (no _ _ (by omega))
  refine ⟨σ1, he, hF, hC.2.1.congr rows (hF.rw (by decide) (no _ _ (by omega))) w9, hW, ?_, ?_⟩
  · unfold FaC
    rw [Dc_congr rows, ← hC.1, hF.rw (by decide) (no _ _ (by omega)), hC.go, w9]
  · rw [rows (u + 8) (by omega) (by omega)]; exact hC.la
theorem j_owes {x y t : Int} (hJ : J σ u v n W H D Es Er du fo N) (hN : 0 ≤ N ∧ N ≤ 1000) (hg : gN σ ≤ 100000) (rx : inR x) (ry : inR y) (rt : inR t) : JQ sc (d + 12) mX9_owes mX10_owes [.int (nZ x), .int (nZ y), .int (nZ t)] k12 σ N := by
  have hC := hJ.2.2.1
  have R9 := rate9 hC.mt.2.2.2.1
  refine JQ.two (o1 := (0 ≤ x ∧ x < n) ∧ (0 ≤ y ∧ y < n)) (o2 := x ≠ y ∧ (0 ≤ t ∧ t ≤ 1440)) (Sp := fun r => r = Prc (Falls D n (-1) (1 + rI σ u 9)) (D 6) (sT Es fo) (Fn (aT Er 1) 0 t) (Fn (aT Er 1) (max 0 du) t) x y) hJ hN hg (fun rm => ?_) (fun τ hR hτ => ?_)
  · apply t_X9_owes hJ.1 rx ry rt
    refine rqT hJ.1 rm rx ry hC.2.1.1 (fun σ1 z hk => Or.inr (Or.inl ⟨z, rfl, hk⟩)) (fun σ1 o1 z hk => Or.inr (Or.inr ⟨o1, fun q => q.1 z, rfl, hk⟩)) (fun o1 ne => ?_)
    obtain ⟨r5, σ1, he, hr, e1, h1⟩ := s_isEnd (sc := sc) (d := d + 10) (x := t) hJ.1 rt
    subst e1
    refine ⟨r5, σ1, he, hJ.1, hr, rq hJ.1 rm h1 (fun σ2 z hk => Or.inr (Or.inr ⟨o1, fun q => z q.2, rfl, hk⟩)) (fun o2 => ?_)⟩
    obtain ⟨σ3, he3, hF, hS, hW, hfa, hla⟩ := hC.costs (sc := sc) (d := d + 8) hJ.1 o2
    obtain ⟨r, σ2, he2, hr2, e3, e2⟩ := s_owed (sc := sc) (d := d + 8) (w := 34) (i := x) (j := y) (hF.g hJ.1) hS (Or.inr (Or.inr rfl)) hW hC.sb (Fn9 R9 _ _) (Fn9 R9 _ _) o1.1 o1.2
    subst e3
    rw [hfa, hla] at e2
    exact ⟨σ2, he3, hF.g hJ.1, r, σ2, he2, hF.g hJ.1, hr2, Or.inl ⟨o1, ⟨ne, o2⟩, r, rfl, hr2, e2, CG.scr hJ.1 hC hF AW34_in⟩⟩
  · obtain ⟨gτ, ⟨K, fr, va, D2, hm, hd, h2, hco⟩, rc, ew, ecl, hg, n8⟩ := hR
    refine (m_owes (sc := sc) (d := d + 7) gτ hm h2 rx ry rt rc).map (fun r σ2 ob => ob.map (fun o1 o2 z => ⟨fun r0 z0 => ?_, RG.low hm z.1 AGz_in z.2.1⟩))
    rw [z0, z.2.2, ew]
    exact hd.prc o1.1 o1.2
theorem j_net {x t : Int} (hJ : J σ u v n W H D Es Er du fo N) (hN : 0 ≤ N ∧ N ≤ 1000) (hg : gN σ ≤ 100000) (rx : inR x) (rt : inR t) : JQ sc (d + 12) mX9_net mX10_net [.int (nZ x), .int (nZ t)] k12 σ N := by
  have hC := hJ.2.2.1
  have R9 := rate9 hC.mt.2.2.2.1
  refine JQ.two (o1 := 0 ≤ x ∧ x < n) (o2 := 0 ≤ t ∧ t ≤ 1440) (Sp := fun r => r = GainD D n (-1) (1 + rI σ u 9) (sT Es fo) (Fn (aT Er 1) 0 t) (Fn (aT Er 1) (max 0 du) t) x) hJ hN hg (fun rm => ?_) (fun τ hR hτ => ?_)
  · apply t_X9_net hJ.1 rx rt
    refine rqS hJ.1 rm rx hC.2.1.1 (fun σ1 z hk => Or.inr (Or.inl ⟨z, rfl, hk⟩)) (fun o1 => ?_)
    obtain ⟨r5, σ1, he, hr, e1, h1⟩ := s_isEnd (sc := sc) (d := d + 10) (x := t) hJ.1 rt
    subst e1
    refine ⟨r5, σ1, he, hJ.1, hr, rq hJ.1 rm h1 (fun σ2 z hk => Or.inr (Or.inr ⟨o1, z, rfl, hk⟩)) (fun o2 => ?_)⟩
    obtain ⟨σ3, he3, hF, hS, hW, hfa, hla⟩ := hC.costs (sc := sc) (d := d + 8) hJ.1 o2
    obtain ⟨r, σ2, he2, hr2, e3, e2⟩ := s_gain (sc := sc) (d := d + 8) (w := 34) (s := x) (hF.g hJ.1) hS (Or.inr (Or.inr rfl)) hW hC.sb (Fn9 R9 _ _) (Fn9 R9 _ _) o1
    subst e3
    rw [hfa, hla] at e2
    exact ⟨σ2, he3, hF.g hJ.1, r, σ2, he2, hF.g hJ.1, hr2, Or.inl ⟨o1, o2, r, rfl, hr2, e2, CG.scr hJ.1 hC hF AW34_in⟩⟩
  · obtain ⟨gτ, ⟨K, fr, va, D2, hm, hd, h2, hco⟩, rc, ew, ecl, hg, n8⟩ := hR
    refine (m_net (sc := sc) (d := d + 7) gτ hm h2 rx rt rc).map (fun r σ2 ob => ob.map (fun o1 o2 z => ⟨fun r0 z0 => ?_, RG.low hm z.1 AGz_in z.2.1⟩))
    rw [z0, z.2.2, ew]
    exact hd.gain o1
theorem j_led {x y : Int} (hJ : J σ u v n W H D Es Er du fo N) (hN : 0 ≤ N ∧ N ≤ 1000) (hg : gN σ ≤ 100000) (rx : inR x) (ry : inR y) : JQ sc (d + 12) mX9_led mX10_led [.int (nZ x), .int (nZ y)] k12 σ N := by
  have hC := hJ.2.2.1
  have hm0 := hC.cm hJ.1
  refine JQ.two (o1 := (0 ≤ x ∧ x < n) ∧ (0 ≤ y ∧ y < n)) (o2 := x ≠ y) (Sp := fun r => r = LedT (Falls D n (-1) (1 + rI σ u 9)) n (sT Es fo) x y) hJ hN hg (fun rm => ?_) (fun τ hR hτ => ?_)
  · apply t_X9_led hJ.1 rx ry
    refine rqT hJ.1 rm rx ry hC.2.1.1 (fun σ1 z hk => Or.inr (Or.inl ⟨z, rfl, hk⟩)) (fun σ1 o1 z hk => Or.inr (Or.inr ⟨o1, fun q => q z, rfl, hk⟩)) (fun o1 ne => ?_)
    obtain ⟨r, σ2, he2, hr2, hF, e2⟩ := s_ledTo (sc := sc) (d := d + 7) (j := x) (by_ := y) hJ.1 hC.2.1 hm0.2.2.1 hC.sb o1.1 o1.2
    rw [hC.fa] at e2
    exact ⟨r, σ2, he2, hF.g hJ.1, hr2, Or.inl ⟨o1, ne, r, rfl, hr2, e2, CG.scr hJ.1 hC hF (fun a i z => by have z' : a = 37 := z; omega)⟩⟩
  · obtain ⟨gτ, ⟨K, fr, va, D2, hm, hd, h2, hco⟩, rc, ew, ecl, hg, n8⟩ := hR
    refine (m_led (sc := sc) (d := d + 6) gτ hm h2 rx ry rc).map (fun r σ2 ob => ob.map (fun o1 o2 z => ⟨fun r0 z0 => ?_, RG.low hm z.1 AGz_in z.2.1⟩))
    rw [z0, z.2.2, ew]
    exact hd.led o1.1 o1.2
theorem AwnS.congr {gone : Int} {S F F1 : Int → Int} {s g r : Int} (hd : Deq n D D2) (hs : 0 ≤ s ∧ s < n) (h : AwnS D n gone w S F F1 s g r) : AwnS D2 n gone w S F F1 s g r :=
  BestS.congr h (fun c => Iff.rfl) (fun c _ => by rw [(hd.set 3 s c).gain hs])
theorem j_awned {x y : Int} (hJ : J σ u v n W H D Es Er du fo N) (hN : 0 ≤ N ∧ N ≤ 1000) (hg : gN σ ≤ 100000) (rx : inR x) (ry : inR y) : JQ sc (d + 12) mX9_awned mX10_awned [.int (nZ x), .int (nZ y)] k12 σ N := by
  have hC := hJ.2.2.1
  refine JQ.two (o1 := 0 ≤ x ∧ x < n) (o2 := 0 ≤ y ∧ y ≤ 1) (Sp := fun r => ∃ gn b : Int, AwnS D n (-1) (1 + rI σ u 9) (sT Es fo) (CF Er) (CF1 Er du) x gn b ∧ r = if y = 0 then b else gn) hJ hN hg (fun rm => ?_) (fun τ hR hτ => ?_)
  · apply t_X9_awned hJ.1 rx ry
    refine rqS hJ.1 rm rx hC.2.1.1 (fun σ1 z hk => Or.inr (Or.inl ⟨z, rfl, hk⟩)) (fun o1 => ?_)
    obtain ⟨r5, σ1, he, hr, e1, h1⟩ := s_isBit (sc := sc) (d := d + 10) (x := y) hJ.1 ry
    subst e1
    refine ⟨r5, σ1, he, hJ.1, hr, rq hJ.1 rm h1 (fun σ2 z hk => Or.inr (Or.inr ⟨o1, z, rfl, hk⟩)) (fun o2 => ?_)⟩
    obtain ⟨σ3, he3, hF, hD, e2⟩ := s_tryAwnings (sc := sc) (d := d + 7) (hC.cx hJ.1) o1
    rw [hC.go, ← hC.1] at e2
    have cg : CG σ1 σ3 u n D := CG.back hJ.1 hC hF (fun a i z => by
      have z' : (a = u + 5 ∧ i = x) ∨ (a = 26 ∧ (i = 8 ∨ i = 9)) := z
      omega) hD
    exact ⟨σ3, he3, hF.g hJ.1, fun z => Or.inl ⟨o1, o2, _, rfl, rI_R _ _ _, ⟨_, _, e2, by rw [if_neg z]⟩, cg⟩, fun z => Or.inl ⟨o1, o2, _, rfl, rI_R _ _ _, ⟨_, _, e2, by rw [if_pos z]⟩, cg⟩⟩
  · obtain ⟨gτ, ⟨K, fr, va, D2, hm, hd, h2, hco⟩, rc, ew, ecl, hg, n8⟩ := hR
    refine (m_awned (sc := sc) (d := d + 5) gτ hm h2 rx ry rc).map (fun r σ2 ob => ob.map (fun o1 o2 z => ⟨fun r0 z0 => ?_, RG.mid hm z.1 AMz_in z.2.1 z.2.2.1⟩))
    obtain ⟨_, _, _, gn, b, e, er⟩ := z
    obtain ⟨g0, b0, z1, zr⟩ := z0
    rw [ew] at e
    have u2 := BestS.uniq e (z1.congr hd o1)
    rw [er, zr, u2.2, show gn = g0 by have := u2.1; omega]
end
