/-! BOTH SIDES: winter, heights, cold fish, moves, days. -/
section
variable {sc : Nat × (Nat → Int32)} {d : Nat} {σ σ1 σ2 τ : aH} {u v : Nat} {n W H : Int} {D D2 : Nat → Int → Int} {Es Er : Nat → Option Int} {du fo N w cl K : Int} {fr va : Int → Int}
theorem J.md (h : J σ u v n W H D Es Er du fo N) : Deq n D (Dm (rI σ)) := by
  obtain ⟨K, fr, va, D2, hm, hd, _⟩ := h.2.2.2.1
  rw [← hm.1.2.1]; exact hd
theorem J.co (h : J σ u v n W H D Es Er du fo N) : ∀ i : Int, 0 ≤ i → i < n → rI σ 184 i = D 7 i := by
  obtain ⟨K, fr, va, D2, hm, hd, h2, hc⟩ := h.2.2.2.1
  exact hc
/-- no stall has changed -/
theorem J.upd0 {C : Nat → Int → Prop} (h : J σ u v n W H D Es Er du fo N) (hF : Fr C σ τ)
    (c1 : ∀ (a : Nat) (i : Int), ((a = u ∧ 3 ≤ i ∧ i ≤ 7) ∨ (u + 1 ≤ a ∧ a ≤ u + 15) ∨ a = 29 ∨ a = 30 ∨ a = 32 ∨ a = 33 ∨ (a = v + 1 ∧ i = 9)) → ¬ C a i)
    (c2 : ∀ (a : Nat) (i : Int), (a = 80 ∨ (91 ≤ a ∧ a ≤ 99) ∨ (122 ≤ a ∧ a ≤ 141) ∨ a = 184 ∨ (190 ≤ a ∧ a ≤ 259) ∨ (a = 76 ∧ (i = 25 ∨ i = 27 ∨ i = 28))) → ¬ C a i)
    (hw : 0 ≤ rI τ u 9 ∧ rI τ u 9 ≤ 1) (hSC : SC (rI τ) u (N + 1)) (hIM : IM (rI τ) n W H) : J τ u v n W H (Dc (rI τ) u) Es Er du fo (N + 1) := by
  have hD : Dc (rI τ) u = D := (Dc_congr (fun a p q => hF.row (fun i => c1 a i (by omega)))).trans h.2.2.1.1.symm
  have hM : Dm (rI τ) = Dm (rI σ) := Dm_fr hF (fun a i p q => c2 a i (by omega))
  have hC := h.2.2.1
  refine h.upd hF (fun a i z => c1 a i (by omega)) (fun a i z => c2 a i (by omega)) hw ?_ ?_ ?_ ?_ ?_ (fun i p q => ?_) hSC hIM
  · rw [hD, hM]; exact h.md
  · rw [hD, hC.1]; exact hC.2.1.2.2.1
  · rw [hD]; exact hC.2.2.2.1
  · rw [hD]; exact hC.2.2.2.2.1
  · rw [hD]; exact hC.2.2.2.2.2.1
  · rw [hD, hF.rw p (c2 _ _ (by omega))]; exact h.co i p q
theorem j_winter {x : Int} (hJ : J σ u v n W H D Es Er du fo N) (hN : 0 ≤ N ∧ N ≤ 1000) (hg : gN σ ≤ 100000) (rx : inR x) : JQ sc (d + 12) mX9_winter mX10_winter [.int (nZ x)] (kq 1) σ N := by
  have hC := hJ.2.2.1
  have hmk : u = 39 ∨ u = 60 := hJ.mk
  have hvk := hJ.vk
  refine JQ.gen1 (q := 1) (ok := 0 ≤ x ∧ x ≤ 1) (CP := fun r σ1 => r = rI σ u 9 ∧ Fr (fun a i => a = u ∧ i = 9) σ σ1 ∧ rI σ1 u 9 = x) (RP := fun τ r σ2 => Fr (fun a i => a = 76 ∧ (i = 0 ∨ i = 19)) τ σ2 ∧ rI σ2 76 0 = 0 ∧ rI σ2 76 19 = x ∧ r = rI τ 76 19) hJ hN hg (Or.inr rfl) (fun rm => ?_) (fun ok r σ1 z => ⟨_, z.2.1, fun a i p q => by omega⟩) (fun τ hR hτ => m_winter (sc := sc) (d := d + 10) hR.1 rx hR.2.2.1) (fun ok r r2 σ1 σ2 cp rp => ?_)
  · apply t_X9_winter hJ.1 rx
    obtain ⟨r5, σ1, he, hr, e1, h1⟩ := s_isBit (sc := sc) (d := d + 10) (x := x) hJ.1 rx
    subst e1
    refine ⟨r5, σ1, he, hJ.1, hr, rq hJ.1 rm h1 (fun σ2 z hk => Or.inr ⟨z, rfl, hk⟩) (fun ok => ?_)⟩
    intro z10 e10 σ13 e13
    exact Or.inl ⟨ok, z10, rfl, by rw [e10]; exact rI_R _ _ _, e10, by rw [← e13]; exact Fr.w (by decide) ⟨rfl, rfl⟩, by rw [← e13]; exact rI_ww rx⟩
  · obtain ⟨er, h1, ex⟩ := cp
    obtain ⟨h2, h0, ex2, er2⟩ := rp
    have hF := h1.over h2
    have hS := hJ.2.2.2.2.1
    have t19 : rI (wJ σ1 344 0 r) 76 19 = rI σ 76 19 := h1.rw (by decide) (by show ¬ (76 = u ∧ (19 : Int) = 9); omega)
    have k9 : rI (ov σ σ2) u 9 = x := (h2.rw (by decide) (by show ¬ (u = 76 ∧ ((9 : Int) = 0 ∨ (9 : Int) = 19)); omega)).trans ex
    refine ⟨by rw [er2, t19, hS.2.2.1, er], h0, ⟨_, h2⟩, _, hJ.upd0 hF (fun a i z => by omega) (fun a i z => by omega) (by rw [k9]; exact ok) ?_ (hJ.2.2.2.2.2.congr hS.2.2.2.2.1.2.2 (fun a i p z => hF.rw p (by omega)))⟩
    have e : ∀ (a : Nat) (i : Int), 0 ≤ i → ¬ ((a = u ∧ i = 9) ∨ (a = 76 ∧ (i = 0 ∨ i = 19))) → rI (ov σ σ2) a i = rI σ a i := fun a i p z => hF.rw p z
    obtain ⟨s1, s2, s3, s4, s5, s6, s7, s8, s9, s10⟩ := hS
    unfold SC
    rw [e 80 5 (by decide) (by omega), e u 7 (by decide) (by omega), e u 8 (by decide) (by omega), e 76 18 (by decide) (by omega), e 76 20 (by decide) (by omega), e 76 21 (by decide) (by omega), e 76 1 (by decide) (by omega), e 76 3 (by decide) (by omega), e 26 12 (by decide) (by omega), e 3 6 (by decide) (by omega), e 1 1 (by decide) (by omega), e 1 5 (by decide) (by omega), e 78 0 (by decide) (by omega), e 78 1 (by decide) (by omega), e 0 7 (by decide) (by omega), e 0 8 (by decide) (by omega)]
    refine ⟨s1, s2, ex2.trans k9.symm, s4, s5, s6, s7, fun k k0 k1 => ?_, by omega, by omega⟩
    rw [e 77 k k0 (by omega), e 2 k k0 (by omega)]; exact s8 k k0 k1
theorem j_tall {x y : Int} (hJ : J σ u v n W H D Es Er du fo N) (hN : 0 ≤ N ∧ N ≤ 1000) (hg : gN σ ≤ 100000) (rx : inR x) (ry : inR y) : JQ sc (d + 12) mX9_tall mX10_tall [.int (nZ x), .int (nZ y)] k12 σ N := by
  have hC := hJ.2.2.1
  have hmk : u = 39 ∨ u = 60 := hJ.mk
  have hvk := hJ.vk
  have h8 := hC.2.2.1
  refine JQ.gen2 (o1 := 0 ≤ x ∧ x < n) (o2 := 0 ≤ y ∧ y ≤ 60) (CP := fun r σ1 => r = D 2 x ∧ Fr (fun a i => a = u + 4 ∧ i = x) σ σ1 ∧ Dc (rI σ1) u = Dset D 2 x y) (RP := fun τ r σ2 => Fr (fun a i => (91 ≤ a ∧ a ≤ 99) ∨ (a = 76 ∧ i = 0)) τ σ2 ∧ rI σ2 76 0 = 0 ∧ Dm (rI σ2) = Dset (Dm (rI τ)) 2 x y ∧ r = Dm (rI τ) 2 x) hJ hN hg (fun rm => ?_) (fun o1 o2 r σ1 z => ⟨_, z.2.1, fun a i p q => by omega⟩) (fun τ hR hτ => ?_) (fun o1 o2 r r2 σ1 σ2 cp rp => ?_)
  · apply t_X9_tall hJ.1 rx ry
    refine rqS hJ.1 rm rx hC.2.1.1 (fun σ1 z hk => Or.inr (Or.inl ⟨z, rfl, hk⟩)) (fun o1 => ?_)
    obtain ⟨r5, σ1, he, hr, e1, h1⟩ := s_isHeight (sc := sc) (d := d + 10) (x := y) hJ.1 ry
    subst e1
    refine ⟨r5, σ1, he, hJ.1, hr, rq hJ.1 rm h1 (fun σ2 z hk => Or.inr (Or.inr ⟨o1, z, rfl, hk⟩)) (fun o2 => ⟨by omega, fun z14 e14 => ⟨by omega, fun σ17 e17 => ?_⟩⟩)⟩
    exact Or.inl ⟨o1, o2, z14, rfl, by rw [e14]; exact rI_R _ _ _, by rw [e14, hC.1]; rfl, by rw [← e17]; exact Fr.w o1.1 ⟨rfl, rfl⟩, by rw [← e17, hC.1]; exact Dc_wa 2 (by omega) (by decide) ry⟩
  · obtain ⟨gτ, ⟨K, fr, va, D2, hm, hd, h2, hco⟩, rc, ew, ecl, hg, n8⟩ := hR
    exact m_tall (sc := sc) (d := d + 9) gτ rfl h2 hm.1.1.2.1 rx ry rc
  · obtain ⟨er, h1, ex⟩ := cp
    obtain ⟨h2, h0, ex2, er2⟩ := rp
    have hF := h1.over h2
    have hS := hJ.2.2.2.2.1
    have tm : Dm (rI (wJ σ1 344 0 r)) = Dm (rI σ) := (Dm_fr h1 (fun a i p q z => by have z1 : a = u + 4 ∧ i = x := z; omega) : Dm (rI σ1) = Dm (rI σ))
    rw [tm] at ex2 er2
    have kD : Dc (rI (ov σ σ2)) u = Dset D 2 x y := (Dc_congr (fun a p q => h2.row (fun i => by omega))).trans ex
    have kM : Dm (rI (ov σ σ2)) = Dset (Dm (rI σ)) 2 x y := ex2
    have e : ∀ (a : Nat) (i : Int), 0 ≤ i → ¬ ((a = u + 4 ∧ i = x) ∨ ((91 ≤ a ∧ a ≤ 99) ∨ (a = 76 ∧ i = 0))) → rI (ov σ σ2) a i = rI σ a i := fun a i p z => hF.rw p z
    have ds : ∀ (f : Nat) (i : Int), f ≠ 2 → Dset D 2 x y f i = D f i := fun f i z => if_neg (fun q => z q.1)
    refine ⟨by rw [er2, er]; exact hJ.md 2 x (by decide) o1.1 o1.2, h0, ⟨_, h2⟩, _, hJ.upd hF (fun a i z => by omega) (fun a i z => by omega) (by rw [e u 9 (by decide) (by omega)]; exact hC.2.1.2.2.2) ?_ ?_ ?_ ?_ ?_ (fun i p q => ?_) ?_ (hJ.2.2.2.2.2.congr hS.2.2.2.2.1.2.2 (fun a i p z => hF.rw p (by omega)))⟩
    · rw [kD, kM]; exact hJ.md.set 2 x y
    · rw [kD]; exact (show StB D n by rw [hC.1]; exact hC.2.1.2.2.1).set2 o2
    · rw [kD]; intro i p q; rw [ds 4 i (by decide), ds 5 i (by decide)]; exact hC.2.2.2.1 i p q
    · rw [kD]; exact hC.2.2.2.2.1.of (fun i p q => ⟨ds 0 i (by decide), ds 1 i (by decide)⟩)
    · rw [kD]; exact Fld.of hC.2.2.2.2.2.1 (fun i p q => ⟨ds 0 i (by decide), ds 1 i (by decide)⟩)
    · rw [kD, ds 7 i (by decide), e 184 i p (by omega)]; exact hJ.co i p q
    · obtain ⟨s1, s2, s3, s4, s5, s6, s7, s8, s9, s10⟩ := hS
      unfold SC
      rw [e 80 5 (by decide) (by omega), e u 7 (by decide) (by omega), e u 8 (by decide) (by omega), e u 9 (by decide) (by omega), e 76 18 (by decide) (by omega), e 76 19 (by decide) (by omega), e 76 20 (by decide) (by omega), e 76 21 (by decide) (by omega), e 76 1 (by decide) (by omega), e 76 3 (by decide) (by omega), e 26 12 (by decide) (by omega), e 3 6 (by decide) (by omega), e 1 1 (by decide) (by omega), e 1 5 (by decide) (by omega), e 78 0 (by decide) (by omega), e 78 1 (by decide) (by omega), e 0 7 (by decide) (by omega), e 0 8 (by decide) (by omega)]
      refine ⟨s1, s2, s3, s4, s5, s6, s7, fun k k0 k1 => ?_, by omega, by omega⟩
      rw [e 77 k k0 (by omega), e 2 k k0 (by omega)]; exact s8 k k0 k1
theorem j_cold {x y : Int} (hJ : J σ u v n W H D Es Er du fo N) (hN : 0 ≤ N ∧ N ≤ 1000) (hg : gN σ ≤ 100000) (rx : inR x) (ry : inR y) : JQ sc (d + 12) mX9_cold mX10_cold [.int (nZ x), .int (nZ y)] k12 σ N := by
  have hC := hJ.2.2.1
  have hmk : u = 39 ∨ u = 60 := hJ.mk
  have hvk := hJ.vk
  have h8 := hC.2.2.1
  refine JQ.gen2 (o1 := 0 ≤ x ∧ x < n) (o2 := -1 ≤ y ∧ y ≤ 1440) (CP := fun r σ1 => r = D 7 x ∧ Fr (fun a i => a = u + 9 ∧ i = x) σ σ1 ∧ Dc (rI σ1) u = Dset D 7 x y) (RP := fun τ r σ2 => Fr (fun a i => (a = 184 ∧ i = x) ∨ (a = 76 ∧ i = 0)) τ σ2 ∧ rI σ2 76 0 = 0 ∧ rI σ2 184 x = y ∧ r = rI τ 184 x) hJ hN hg (fun rm => ?_) (fun o1 o2 r σ1 z => ⟨_, z.2.1, fun a i p q => by omega⟩) (fun τ hR hτ => ?_) (fun o1 o2 r r2 σ1 σ2 cp rp => ?_)
  · obtain ⟨Q, hQ⟩ : ∃ Q : aO → aH → Prop, Q = CQ2 σ (0 ≤ x ∧ x < n) (-1 ≤ y ∧ y ≤ 1440) (fun r σ1 => r = D 7 x ∧ Fr (fun a i => a = u + 9 ∧ i = x) σ σ1 ∧ Dc (rI σ1) u = Dset D 7 x y) := ⟨_, rfl⟩
    rw [← hQ]
    apply t_X9_cold hJ.1 rx ry
    refine rqS hJ.1 rm rx hC.2.1.1 (fun σ1 z hk => by rw [hQ]; exact Or.inr (Or.inl ⟨z, rfl, hk⟩)) (fun o1 => ?_)
    have key : ∀ s0 : Int, (s0 = 1 ∧ (-1 ≤ y ∧ y ≤ 1440)) ∨ (s0 = 0 ∧ ¬ (-1 ≤ y ∧ y ≤ 1440)) → L_X9_cold_23 (Ev sc (d + 11)) sc Q x y s0 σ := by
      intro s0 hs
      apply v_X9_cold_23 hJ.1 rx ry (by omega)
      refine rq hJ.1 rm hs (fun σ1 z hk => by rw [hQ]; exact Or.inr (Or.inr ⟨o1, z, rfl, hk⟩)) (fun o2 => ⟨by omega, fun z5 e5 => ⟨by omega, fun σ8 e8 => ?_⟩⟩)
      rw [hQ]
      exact Or.inl ⟨o1, o2, z5, rfl, by rw [e5]; exact rI_R _ _ _, by rw [e5, hC.1]; rfl, by rw [← e8]; exact Fr.w o1.1 ⟨rfl, rfl⟩, by rw [← e8, hC.1]; exact Dc_wa 7 (by omega) (by decide) ry⟩
    obtain ⟨r5, σ1, he, hr, e1, h1⟩ := s_isEnd (sc := sc) (d := d + 10) (x := y) hJ.1 ry
    subst e1
    exact ⟨fun z => key 1 (by omega), fun z => ⟨r5, σ1, he, hJ.1, hr, fun z1 => key 0 (by omega), fun z1 => key 1 (by omega)⟩⟩
  · obtain ⟨gτ, ⟨K, fr, va, D2, hm, hd, h2, hco⟩, rc, ew, ecl, hg, n8⟩ := hR
    exact m_cold (sc := sc) (d := d + 9) gτ h2 ⟨hm.1.1.2.1.1, n8⟩ rx ry rc
  · obtain ⟨er, h1, ex⟩ := cp
    obtain ⟨h2, h0, ex2, er2⟩ := rp
    have hF := h1.over h2
    have hS := hJ.2.2.2.2.1
    have t184 : rI (wJ σ1 344 0 r) 184 x = rI σ 184 x := h1.rw o1.1 (by show ¬ (184 = u + 9 ∧ x = x); omega)
    have kD : Dc (rI (ov σ σ2)) u = Dset D 7 x y := (Dc_congr (fun a p q => h2.row (fun i => by omega))).trans ex
    have kM : Dm (rI (ov σ σ2)) = Dm (rI σ) := Dm_fr hF (fun a i p q => by omega)
    have e : ∀ (a : Nat) (i : Int), 0 ≤ i → ¬ ((a = u + 9 ∧ i = x) ∨ ((a = 184 ∧ i = x) ∨ (a = 76 ∧ i = 0))) → rI (ov σ σ2) a i = rI σ a i := fun a i p z => hF.rw p z
    have ds : ∀ (f : Nat) (i : Int), f ≠ 7 → Dset D 7 x y f i = D f i := fun f i z => if_neg (fun q => z q.1)
    have dq : Deq n (Dset D 7 x y) D := fun f i a b c => (ds f i (by omega)).symm
    refine ⟨by rw [er2, t184, hJ.co x o1.1 o1.2, er], h0, ⟨_, h2⟩, _, hJ.upd hF (fun a i z => by omega) (fun a i z => by omega) (by rw [e u 9 (by decide) (by omega)]; exact hC.2.1.2.2.2) ?_ ?_ ?_ ?_ ?_ (fun i p q => ?_) ?_ (hJ.2.2.2.2.2.congr hS.2.2.2.2.1.2.2 (fun a i p z => hF.rw p (by omega)))⟩
    · rw [kD, kM]; exact dq.trans hJ.md
    · rw [kD]; exact dq.symm.stb (show StB D n by rw [hC.1]; exact hC.2.1.2.2.1)
    · rw [kD]; intro i p q; rw [ds 4 i (by decide), ds 5 i (by decide)]; exact hC.2.2.2.1 i p q
    · rw [kD]; exact hC.2.2.2.2.1.of (fun i p q => ⟨ds 0 i (by decide), ds 1 i (by decide)⟩)
    · rw [kD]; exact Fld.of hC.2.2.2.2.2.1 (fun i p q => ⟨ds 0 i (by decide), ds 1 i (by decide)⟩)
    · rw [kD]
      by_cases c : i = x
      · rw [c]; exact ex2.trans (if_pos ⟨rfl, rfl⟩).symm
      · rw [e 184 i p (by omega), hJ.co i p q]; exact (if_neg (fun z => c (by have := z.2; omega))).symm
    · obtain ⟨s1, s2, s3, s4, s5, s6, s7, s8, s9, s10⟩ := hS
      unfold SC
      rw [e 80 5 (by decide) (by omega), e u 7 (by decide) (by omega), e u 8 (by decide) (by omega), e u 9 (by decide) (by omega), e 76 18 (by decide) (by omega), e 76 19 (by decide) (by omega), e 76 20 (by decide) (by omega), e 76 21 (by decide) (by omega), e 76 1 (by decide) (by omega), e 76 3 (by decide) (by omega), e 26 12 (by decide) (by omega), e 3 6 (by decide) (by omega), e 1 1 (by decide) (by omega), e 1 5 (by decide) (by omega), e 78 0 (by decide) (by omega), e 78 1 (by decide) (by omega), e 0 7 (by decide) (by omega), e 0 8 (by decide) (by omega)]
      refine ⟨s1, s2, s3, s4, s5, s6, s7, fun k k0 k1 => ?_, by omega, by omega⟩
      rw [e 77 k k0 (by omega), e 2 k k0 (by omega)]; exact s8 k k0 k1
end
