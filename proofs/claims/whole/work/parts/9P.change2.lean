/-! BOTH SIDES: moves, days, play. -/
section
variable {sc : Nat × (Nat → Int32)} {d : Nat} {σ σ1 σ2 τ : aH} {u v : Nat} {n W H : Int} {D D2 : Nat → Int → Int} {Es Er : Nat → Option Int} {du fo N w cl K : Int} {fr va : Int → Int}
theorem J.stb (h : J σ u v n W H D Es Er du fo N) : StB D n := by
  rw [h.2.2.1.1]; exact h.2.2.1.2.1.2.2.1
theorem j_move {s x y : Int} (hJ : J σ u v n W H D Es Er du fo N) (hN : 0 ≤ N ∧ N ≤ 1000) (hg : gN σ ≤ 100000) (rs : inR s) (rx : inR x) (ry : inR y) : JQ sc (d + 12) mX9_move mX10_move [.int (nZ s), .int (nZ x), .int (nZ y)] k12 σ N := by
  have hC := hJ.2.2.1
  have hmk : u = 39 ∨ u = 60 := hJ.mk
  have hvk := hJ.vk
  have h8 := hC.2.2.1
  have hWH := hC.2.2.2.2.2.2.2.1
  have hW := hC.2.2.2.2.2.2.1
  have hS := hJ.2.2.2.2.1
  refine JQ.gen2 (o1 := 0 ≤ s ∧ s < n) (o2 := (0 ≤ x ∧ x < W) ∧ (0 ≤ y ∧ y < H)) (CP := fun r σ1 => Fr (AC u) σ σ1 ∧ ((r = 0 ∧ (∃ k : Int, At D n x y k) ∧ Dc (rI σ1) u = D) ∨ (r = 1 ∧ (∀ k : Int, ¬ At D n x y k) ∧ Dc (rI σ1) u = Dput D s x y))) (RP := fun τ r σ2 => Fr (fun a i => (91 ≤ a ∧ a ≤ 99) ∨ (a = 76 ∧ i = 0)) τ σ2 ∧ rI σ2 76 0 = 0 ∧ ((r = 0 ∧ (∃ k : Int, At (Dm (rI τ)) n x y k) ∧ Dm (rI σ2) = Dm (rI τ)) ∨ (r = 1 ∧ (∀ k : Int, ¬ At (Dm (rI τ)) n x y k) ∧ Dm (rI σ2) = Dput (Dm (rI τ)) s x y))) hJ hN hg (fun rm => ?_) (fun o1 o2 r σ1 z => ⟨_, z.1, fun a i p q => by have q1 : a = u + 2 ∨ a = u + 3 := q; omega⟩) (fun τ hR hτ => ?_) (fun o1 o2 r r2 σ1 σ2 cp rp => ?_)
  · obtain ⟨Q, hQ⟩ : ∃ Q : aO → aH → Prop, Q = CQ2 σ (0 ≤ s ∧ s < n) ((0 ≤ x ∧ x < W) ∧ (0 ≤ y ∧ y < H)) (fun r σ1 => Fr (AC u) σ σ1 ∧ ((r = 0 ∧ (∃ k : Int, At D n x y k) ∧ Dc (rI σ1) u = D) ∨ (r = 1 ∧ (∀ k : Int, ¬ At D n x y k) ∧ Dc (rI σ1) u = Dput D s x y))) := ⟨_, rfl⟩
    rw [← hQ]
    apply t_X9_move hJ.1 rs rx ry
    refine rqS hJ.1 rm rs hC.2.1.1 (fun σ1 z hk => by rw [hQ]; exact Or.inr (Or.inl ⟨z, rfl, hk⟩)) (fun o1 => ?_)
    have key : ∀ s0 : Int, (s0 = 1 ∧ ((0 ≤ x ∧ x < W) ∧ (0 ≤ y ∧ y < H))) ∨ (s0 = 0 ∧ ¬ ((0 ≤ x ∧ x < W) ∧ (0 ≤ y ∧ y < H))) → L_X9_move_41 (Ev sc (d + 11)) sc Q s x y s0 σ := by
      intro s0 hs
      apply v_X9_move_41 hJ.1 rs rx ry (by omega)
      refine rq hJ.1 rm hs (fun σ1 z hk => by rw [hQ]; exact Or.inr (Or.inr ⟨o1, z, rfl, hk⟩)) (fun o2 => ?_)
      obtain ⟨r5, σ1, he, hr, e1, h1⟩ := s_whoIsAt (sc := sc) (d := d + 10) (x := x) (y := y) hJ.1 hJ.mk hC.2.1.1 (by omega) hC.2.1.2.1 rx ry
      subst e1
      rw [← hC.1] at h1
      refine ⟨r5, σ1, he, hJ.1, hr, fun q => ?_, fun q => ?_⟩
      · rcases h1 with ⟨_, h1⟩ | ⟨h1, _⟩
        · obtain ⟨σ2, he2, F2, D2⟩ := s_put (sc := sc) (d := d + 10) (s := s) (x := x) (y := y) hJ.1 hJ.mk (by omega) rx ry
          rw [← hC.1] at D2
          refine ⟨σ2, he2, F2.g hJ.1, ?_⟩
          rw [hQ]; exact Or.inl ⟨o1, o2, 1, rfl, by decide, F2, Or.inr ⟨rfl, h1, D2⟩⟩
        · have := h1.1; omega
      · rcases h1 with ⟨z, _⟩ | ⟨h1, _⟩
        · exact absurd z q
        · rw [hQ]; exact Or.inl ⟨o1, o2, 0, rfl, by decide, Fr.refl _ _, Or.inl ⟨rfl, ⟨r5, h1⟩, hC.1.symm⟩⟩
    rw [hW.1, hW.2]
    exact ⟨fun z => key 0 (by omega), fun z => ⟨fun z => key 0 (by omega), fun z => ⟨fun z => key 0 (by omega), fun z => ⟨fun z => key 0 (by omega), fun z => key 1 (by omega)⟩⟩⟩⟩
  · obtain ⟨gτ, ⟨K, fr, va, D2, hm, hd, h2, hco⟩, rc, ew, ecl, hg, n8⟩ := hR
    have e2 := hm.1.2.1
    subst e2
    exact m_move (sc := sc) (d := d + 9) gτ hm h2 rs rx ry rc
  · obtain ⟨h1, ex⟩ := cp
    obtain ⟨h2, h0, ex2⟩ := rp
    have hF := h1.over h2
    have tm : Dm (rI (wJ σ1 344 0 r)) = Dm (rI σ) := (Dm_fr h1 (fun a i p q z => by have z1 : a = u + 2 ∨ a = u + 3 := z; omega) : Dm (rI σ1) = Dm (rI σ))
    rw [tm] at ex2
    have hmd := hJ.md
    have cD : Dc (rI (ov σ σ2)) u = Dc (rI σ1) u := Dc_congr (fun a p q => h2.row (fun i => by omega))
    have e : ∀ (a : Nat) (i : Int), 0 ≤ i → ¬ ((a = u + 2 ∨ a = u + 3) ∨ ((91 ≤ a ∧ a ≤ 99) ∨ (a = 76 ∧ i = 0))) → rI (ov σ σ2) a i = rI σ a i := fun a i p z => hF.rw p z
    have key : ∃ D1 : Nat → Int → Int, r2 = r ∧ Dc (rI (ov σ σ2)) u = D1 ∧ Deq n D1 (Dm (rI (ov σ σ2))) ∧ StB D1 n ∧ Dst D1 n ∧ Fld D1 n W H ∧ (∀ (f : Nat) (i : Int), 2 ≤ f → D1 f i = D f i) := by
      rcases ex with ⟨a1, ⟨k, a2⟩, a3⟩ | ⟨a1, a2, a3⟩
      · rcases ex2 with ⟨b1, b2, b3⟩ | ⟨b1, b2, b3⟩
        · exact ⟨D, by omega, cD.trans a3, by show Deq n D (Dm (rI σ2)); rw [b3]; exact hmd, hJ.stb, hC.2.2.2.2.1, hC.2.2.2.2.2.1, fun _ _ _ => rfl⟩
        · exact absurd (hmd.at.2 a2) (b2 k)
      · rcases ex2 with ⟨b1, ⟨k, b2⟩, b3⟩ | ⟨b1, b2, b3⟩
        · exact absurd (hmd.at.1 b2) (a2 k)
        · exact ⟨Dput D s x y, by omega, cD.trans a3, by show Deq n _ (Dm (rI σ2)); rw [b3]; exact hmd.put s x y, hJ.stb.put (by omega) (by omega), Dst_put o1.1 (fun p q i j _ _ hi hj => hC.2.2.2.2.1 p q i j hi hj) (fun k _ => a2 k), Fld_put (fun i p q _ => hC.2.2.2.2.2.1 i p q) o1.1 (by omega) (by omega), fun f i z => Dput_ne (fun q => by omega)⟩
    obtain ⟨D1, er, kD, kM, k1, k2, k3, k4⟩ := key
    refine ⟨er, h0, ⟨_, h2⟩, _, hJ.upd hF (fun a i z => by omega) (fun a i z => by omega) (by rw [e u 9 (by decide) (by omega)]; exact hC.2.1.2.2.2) ?_ ?_ ?_ ?_ ?_ (fun i p q => ?_) ?_ (hJ.2.2.2.2.2.congr hS.2.2.2.2.1.2.2 (fun a i p z => e a i p (by omega)))⟩
    · rw [kD]; exact kM
    · rw [kD]; exact k1
    · rw [kD]; intro i p q; rw [k4 4 i (by decide), k4 5 i (by decide)]; exact hC.2.2.2.1 i p q
    · rw [kD]; exact k2
    · rw [kD]; exact k3
    · rw [kD, k4 7 i (by decide), e 184 i p (by omega)]; exact hJ.co i p q
    · exact (hS.congr (fun a i p z => e a i p (by omega))).more (by omega)
theorem j_days {x : Int} (hJ : J σ u v n W H D Es Er du fo N) (hN : 0 ≤ N ∧ N ≤ 1000) (hg : gN σ ≤ 100000) (rx : inR x) : JQ sc (d + 12) mX9_days mX10_days [.int (nZ x)] (kq 1) σ N := by
  have hC := hJ.2.2.1
  have hmk : u = 39 ∨ u = 60 := hJ.mk
  have hvk := hJ.vk
  have h8 := hC.2.2.1
  have hS := hJ.2.2.2.2.1
  have hd := hS.2.1
  have hHg : Hg D n := hC.2.2.2.1
  have ok0 := DgN_ok hJ.stb hHg
  refine JQ.gen1 (q := 1) (ok := 1 ≤ x ∧ x ≤ 99) (CP := fun r σ1 => Fr (fun a i => a = u + 4 ∨ (a = u ∧ i = 8)) σ σ1 ∧ rI σ1 u 8 = r ∧ r = min (rI σ u 8 + x) 999 ∧ Dc (rI σ1) u = DgN D n (r - rI σ u 8).toNat) (RP := fun τ r σ2 => Fr (fun a i => (91 ≤ a ∧ a ≤ 99) ∨ (a = 76 ∧ (i = 0 ∨ i = 18))) τ σ2 ∧ rI σ2 76 0 = 0 ∧ rI σ2 76 18 = r ∧ r = min (rI τ 76 18 + x) 999 ∧ Dm (rI σ2) = DgN (Dm (rI τ)) n (r - rI τ 76 18).toNat) hJ hN hg (Or.inr rfl) (fun rm => ?_) (fun ok r σ1 z => ⟨_, z.1, fun a i p q => by omega⟩) (fun τ hR hτ => ?_) (fun ok r r2 σ1 σ2 cp rp => ?_)
  · obtain ⟨Q, hQ⟩ : ∃ Q : aO → aH → Prop, Q = CQ1 σ (1 ≤ x ∧ x ≤ 99) 1 (fun r σ1 => Fr (fun a i => a = u + 4 ∨ (a = u ∧ i = 8)) σ σ1 ∧ rI σ1 u 8 = r ∧ r = min (rI σ u 8 + x) 999 ∧ Dc (rI σ1) u = DgN D n (r - rI σ u 8).toNat) := ⟨_, rfl⟩
    rw [← hQ]
    apply t_X9_days hJ.1 rx
    have fin : (1 ≤ x ∧ x ≤ 99) → ∀ (k : Int) (τ : aH), 0 ≤ k → k ≤ x → rI σ u 8 + k ≤ 999 → (k = x ∨ rI σ u 8 + k = 999) → Fr (fun a i => a = u + 4 ∨ (a = u ∧ i = 8)) σ τ → rI τ u 8 = rI σ u 8 + k → Dc (rI τ) u = DgN D n k.toNat → Q (.inl (some (.int (nZ (rI τ u 8))))) τ := by
      intro ok k τ k0 k1 kb ke hF h8 hD
      rw [hQ]
      refine Or.inl ⟨ok, rI τ u 8, rfl, rI_R _ _ _, hF, rfl, by omega, ?_⟩
      rw [hD, show (rI τ u 8 - rI σ u 8).toNat = k.toNat by omega]
    have loop : (1 ≤ x ∧ x ≤ 99) → ∀ (g : Nat) (k : Int) (τ : aH), (x - k).toNat = g → 0 ≤ k → k ≤ x → rI σ u 8 + k ≤ 999 → Fr (fun a i => a = u + 4 ∨ (a = u ∧ i = 8)) σ τ → rI τ u 8 = rI σ u 8 + k → Dc (rI τ) u = DgN D n k.toNat → L_X9_days_22 (Ev sc (d + 11)) sc Q x k τ := by
      intro ok g
      induction g with
      | zero =>
        intro k τ hg k0 k1 kb hF h8 hD
        apply v_X9_days_22 (hF.g hJ.1) rx (by omega)
        exact ⟨fun _ => fin ok k τ k0 k1 kb (Or.inl (by omega)) hF h8 hD, fun z => by omega⟩
      | succ g ih =>
        intro k τ hg k0 k1 kb hF h8 hD
        apply v_X9_days_22 (hF.g hJ.1) rx (by omega)
        refine ⟨fun z => by omega, fun _ => ⟨fun z => fin ok k τ k0 k1 kb (Or.inr (by omega)) hF h8 hD, fun z => ⟨by omega, fun σ2 e2 => ?_⟩⟩⟩
        have F2 : Fr (fun a i => a = u ∧ i = 8) τ σ2 := by rw [← e2]; exact Fr.w (by decide) ⟨rfl, rfl⟩
        have F02 := hF.trans (F2.weak (fun a i z => Or.inr z))
        have D2 : Dc (rI σ2) u = DgN D n k.toNat := (Dc_congr (fun a p q => F2.row (fun i => by omega))).trans hD
        have n2 : rI σ2 (u + 1) 8 = n := (F02.rw (by decide) (by omega)).trans hC.2.1.1
        obtain ⟨σ5, he, F5, D5⟩ := s_grow (sc := sc) (d := d + 10) (F02.g hJ.1) hJ.mk n2 ⟨hC.2.1.2.1, by omega⟩ (by rw [D2]; exact (ok0 _).1) (by rw [D2]; exact (ok0 _).2.1)
        have F05 := F02.trans (F5.weak (fun a i z => Or.inl z))
        have u8 : rI σ2 u 8 = rI τ u 8 + 1 := by rw [← e2]; exact rI_ww (by omega)
        have u85 : rI σ5 u 8 = rI τ u 8 + 1 := (F5.rw (by decide) (by show ¬ (u = u + 4); omega)).trans u8
        refine ⟨σ5, he, F05.g hJ.1, by omega, ih (k + 1) σ5 (by omega) (by omega) (by omega) (by omega) F05 (by omega) ?_⟩
        rw [D5, D2, show (k + 1).toNat = k.toNat + 1 by omega]; rfl
    have start : (1 ≤ x ∧ x ≤ 99) → L_X9_days_22 (Ev sc (d + 11)) sc Q x 0 σ := fun ok => loop ok _ 0 σ rfl (by omega) (by omega) (by omega) (Fr.refl _ _) (by omega) hC.1.symm
    have bad : ∀ σ1 : aH, ¬ (1 ≤ x ∧ x ≤ 99) → KO σ σ1 1 → Q (.inr 1) σ1 := fun σ1 z hk => by rw [hQ]; exact Or.inr ⟨z, rfl, hk⟩
    exact ⟨fun z => rq hJ.1 rm (Or.inr ⟨rfl, by omega⟩) bad start, fun z => ⟨fun z1 => rq hJ.1 rm (Or.inr ⟨rfl, by omega⟩) bad start, fun z1 => rq hJ.1 rm (Or.inl ⟨rfl, by omega⟩) bad start⟩⟩
  · obtain ⟨gτ, ⟨K, fr, va, D2, hm, hd2, h2, hco⟩, rc, ew, ecl, hg2, n8⟩ := hR
    have e2 := hm.1.2.1
    subst e2
    by_cases ok : 1 ≤ x ∧ x ≤ 99
    · obtain ⟨r, σ2, he, rr, z⟩ := m_days (sc := sc) (d := d + 10) gτ hm h2 (fun i p q => by rw [hd2 4 i (by decide) p q, hd2 5 i (by decide) p q]; exact hg2 i p q) (by rw [hτ 76 18 (by decide) (by decide), hd.1]; exact hd.2) ok
      exact ⟨r, σ2, he, rr, Or.inl ⟨ok, z⟩⟩
    · obtain ⟨r, σ2, he, rr, z⟩ := m_daysB (sc := sc) (d := d + 10) gτ rx rc ok
      exact ⟨r, σ2, he, rr, Or.inr ⟨ok, z⟩⟩
  · obtain ⟨h1, er, emin, ex⟩ := cp
    obtain ⟨h2, h0, e18, emin2, ex2⟩ := rp
    have hF := h1.over h2
    have tm : Dm (rI (wJ σ1 344 0 r)) = Dm (rI σ) := (Dm_fr h1 (fun a i p q z => by have z1 : a = u + 4 ∨ (a = u ∧ i = 8) := z; omega) : Dm (rI σ1) = Dm (rI σ))
    have t18 : rI (wJ σ1 344 0 r) 76 18 = rI σ u 8 := (h1.rw (by decide) (by show ¬ (76 = u + 4 ∨ (76 = u ∧ (18 : Int) = 8)); omega)).trans hd.1
    rw [tm, t18] at ex2
    rw [t18] at emin2
    have err : r2 = r := by omega
    have kD : Dc (rI (ov σ σ2)) u = DgN D n (r - rI σ u 8).toNat := (Dc_congr (fun a p q => h2.row (fun i => by omega))).trans ex
    have kM : Dm (rI (ov σ σ2)) = DgN (Dm (rI σ)) n (r - rI σ u 8).toNat := by rw [← err]; exact ex2
    have k8 : rI (ov σ σ2) u 8 = r := (h2.rw (by decide) (by show ¬ ((91 ≤ u ∧ u ≤ 99) ∨ (u = 76 ∧ ((8 : Int) = 0 ∨ (8 : Int) = 18))); omega)).trans er
    have k18 : rI (ov σ σ2) 76 18 = r := e18.trans err
    have e : ∀ (a : Nat) (i : Int), 0 ≤ i → ¬ ((a = u + 4 ∨ (a = u ∧ i = 8)) ∨ ((91 ≤ a ∧ a ≤ 99) ∨ (a = 76 ∧ (i = 0 ∨ i = 18)))) → rI (ov σ σ2) a i = rI σ a i := fun a i p z => hF.rw p z
    obtain ⟨g1, g2, g3, g4⟩ := ok0 (r - rI σ u 8).toNat
    refine ⟨err, h0, ⟨_, h2⟩, _, hJ.upd hF (fun a i z => by omega) (fun a i z => by omega) (by rw [e u 9 (by decide) (by omega)]; exact hC.2.1.2.2.2) ?_ ?_ ?_ ?_ ?_ (fun i p q => ?_) ?_ (hJ.2.2.2.2.2.congr hS.2.2.2.2.1.2.2 (fun a i p z => e a i p (by omega)))⟩
    · rw [kD, kM]; exact hJ.md.growN _
    · rw [kD]; exact g1
    · rw [kD]; exact g2
    · rw [kD]; exact hC.2.2.2.2.1.of (fun i p q => ⟨g3 0 i (by decide), g3 1 i (by decide)⟩)
    · rw [kD]; exact Fld.of hC.2.2.2.2.2.1 (fun i p q => ⟨g3 0 i (by decide), g3 1 i (by decide)⟩)
    · rw [kD, g3 7 i (by decide), e 184 i p (by omega)]; exact hJ.co i p q
    · obtain ⟨s1, s2, s3, s4, s5, s6, s7, s8, s9, s10⟩ := hS
      unfold SC
      rw [k8, k18]
      rw [e 80 5 (by decide) (by omega), e u 7 (by decide) (by omega), e u 9 (by decide) (by omega), e 76 19 (by decide) (by omega), e 76 20 (by decide) (by omega), e 76 21 (by decide) (by omega), e 76 1 (by decide) (by omega), e 76 3 (by decide) (by omega), e 26 12 (by decide) (by omega), e 3 6 (by decide) (by omega), e 1 1 (by decide) (by omega), e 1 5 (by decide) (by omega), e 78 0 (by decide) (by omega), e 78 1 (by decide) (by omega), e 0 7 (by decide) (by omega), e 0 8 (by decide) (by omega)]
      refine ⟨s1, ⟨rfl, by omega, by omega⟩, s3, s4, s5, s6, s7, fun k k0 k1 => ?_, by omega, by omega⟩
      rw [e 77 k k0 (by omega), e 2 k k0 (by omega)]; exact s8 k k0 k1
theorem PlD_ne {gone : Int} {S F F1 : Int → Int} {f : Nat} {i : Int} (hf : f ≠ 2) : ∀ k : Nat, PlD n gone w S F F1 D k f i = D f i
  | 0 => rfl
  | k + 1 => (RnD_ne n.toNat (fun q => hf q.1)).trans (PlD_ne hf k)
theorem FrJ.over0 {A B : Nat → Int → Prop} (h1 : FrJ A σ σ1) (h2 : Fr B σ1 σ2) : Fr (fun a i => A a i ∨ B a i) σ (ov σ σ2) :=
  ⟨⟨rfl, rfl, rfl⟩, fun a i p z => (h2.2 a i p (fun y => z (Or.inr y))).trans (h1.2.2 a i p (fun y => z (Or.inl y)))⟩
theorem j_play (hJ : J σ u v n W H D Es Er du fo N) (hN : 0 ≤ N ∧ N ≤ 1000) : JD sc (d + 12) mX9_play mX10_play [] σ N := by
  have hC := hJ.2.2.1
  have hmk : u = 39 ∨ u = 60 := hJ.mk
  have hvk := hJ.vk
  have h8 := hC.2.2.1
  have hS := hJ.2.2.2.2.1
  have c : TI sc (d + 12) mX9_play [.ref 0] σ (fun r σ1 => FrJ (APl u) σ σ1 ∧ ∃ m : Nat, rI σ1 26 12 = m ∧ Dc (rI σ1) u = PlD n (rI σ (u + 1) 9) (1 + rI σ u 9) (sT Es fo) (CF Er) (CF1 Er du) (Dc (rI σ) u) m ∧ StB (Dc (rI σ1) u) n ∧ PlayS (PlD n (rI σ (u + 1) 9) (1 + rI σ u 9) (sT Es fo) (CF Er) (CF1 Er du) (Dc (rI σ) u)) n r m) := by
    apply T.int
    apply t_X9_play hJ.1
    obtain ⟨r, σ1, he, rr, hF, m, h1, h2, h3, h4⟩ := s_playOut (sc := sc) (d := d + 5) (hC.cx hJ.1) (by rw [← hC.1]; exact hC.2.2.2.1)
    refine ⟨r, σ1, he, hF.g hJ.1, rr, fun z => ?_, fun z => ?_⟩
    · rw [z] at h4; exact ⟨0, rfl, by decide, hF, m, h1, h2, h3, h4⟩
    · have e1 : r = 1 := by have := h4.2.2.2; omega
      rw [e1] at h4; exact ⟨1, rfl, by decide, hF, m, h1, h2, h3, h4⟩
  obtain ⟨r, σ1, he, rr, hF1, m, e12, c1, c2, c3⟩ := c
  rw [← hC.1, hC.2.2.2.2.2.2.2.2.2.2.2.2] at c1 c3
  have G1 := hF1.g hJ.1
  have hi : ∀ (a : Nat) (i : Int), 76 ≤ a → 0 ≤ i → rI σ1 a i = rI σ a i := fun a i p q => hF1.rw q (by show ¬ (a = u + 4 ∨ (a = 26 ∧ i = 12)); omega)
  obtain ⟨K, fr, va, D2, hm, hd, h2, hc⟩ := hJ.2.2.2.1
  have F9 : Fr (fun a i => a = u + 4 ∨ (a = 26 ∧ i = 12)) σ (ov σ σ1) := ⟨⟨rfl, rfl, rfl⟩, fun a i p z => hF1.2.2 a i p z⟩
  have hm0 : Mf (ov σ σ1) n (-1) W H D2 Es Er K fr va du fo := hm.frm F9 (fun a i z => by omega) (fun i z => by omega)
  have hm1 : Mf σ1 n (-1) W H D2 Es Er K fr va du fo := hm0
  obtain ⟨r2, σ2, he2, rr2, hF2, h0, m2, e20, d1, d2, d3⟩ := m_play (sc := sc) (d := d + 4) G1 hm1 h8 ((hi _ _ (by decide) (by decide)).trans h2) (fun i p q => by rw [hd 4 i (by decide) p q, hd 5 i (by decide) p q]; exact hC.2.2.2.1 i p q)
  rw [hi 76 19 (by decide) (by decide), hS.2.2.1] at d1 d3
  have pe : ∀ k : Nat, Deq n (PlD n (-1) (1 + rI σ u 9) (sT Es fo) (CF Er) (CF1 Er du) D k) (PlD n (-1) (1 + rI σ u 9) (sT Es fo) (CF Er) (CF1 Er du) D2 k) := PlD_congr hC.2.1.2.1 hd
  obtain ⟨em, er⟩ := (c3.congr pe).uniq d3
  subst em
  rw [← er] at he2
  have hF := hF1.over0 hF2
  have n1 : gN σ2 = gN σ ∧ gW σ2 = gW σ := by
    have w2 := hF2.nw
    have e1 := hF1.1.2.2
    refine ⟨?_, ?_⟩
    · rw [w2.1]; unfold gN; rw [e1]
    · rw [w2.2.1]; unfold gW; rw [e1]
  have v2 : gM σ2 0 6 = some v := by
    have e := hF2.1.2.1
    have e1 := hF1.1.2.1
    show σ2.2.1 0 6 = some v
    rw [e, e1]; exact hJ.2.1.1
  have e : ∀ (a : Nat) (i : Int), 0 ≤ i → ¬ ((a = u + 4 ∨ (a = 26 ∧ i = 12)) ∨ (((91 ≤ a ∧ a ≤ 99) ∨ (261 ≤ a ∧ a ≤ 313) ∨ (a = 76 ∧ (i = 36 ∨ i = 37))) ∨ (321 ≤ a ∧ a ≤ 341) ∨ (a = 76 ∧ (i = 0 ∨ i = 20)))) → rI (ov σ σ2) a i = rI σ a i := fun a i p z => hF.rw p z
  have kD : Dc (rI (ov σ σ2)) u = PlD n (-1) (1 + rI σ u 9) (sT Es fo) (CF Er) (CF1 Er du) D m := (Dc_congr (fun a p q => hF2.row (fun i => by show ¬ (((91 ≤ a ∧ a ≤ 99) ∨ (261 ≤ a ∧ a ≤ 313) ∨ (a = 76 ∧ (i = 36 ∨ i = 37))) ∨ (321 ≤ a ∧ a ≤ 341) ∨ (a = 76 ∧ (i = 0 ∨ i = 20))); omega))).trans c1
  have kM : Dm (rI (ov σ σ2)) = PlD n (-1) (1 + rI σ u 9) (sT Es fo) (CF Er) (CF1 Er du) D2 m := d1
  have k12 : rI (ov σ σ2) 26 12 = m := (hF2.rw (by decide) (by show ¬ (((91 ≤ 26 ∧ 26 ≤ 99) ∨ (261 ≤ 26 ∧ 26 ≤ 313) ∨ (26 = 76 ∧ ((12 : Int) = 36 ∨ (12 : Int) = 37))) ∨ (321 ≤ 26 ∧ 26 ≤ 341) ∨ (26 = 76 ∧ ((12 : Int) = 0 ∨ (12 : Int) = 20))); omega)).trans e12
  have k20 : rI (ov σ σ2) 76 20 = m := e20
  have ds : ∀ (f : Nat) (i : Int), f ≠ 2 → PlD n (-1) (1 + rI σ u 9) (sT Es fo) (CF Er) (CF1 Er du) D m f i = D f i := fun f i z => PlD_ne z m
  have J2 : J (ov σ σ2) u v n W H (Dc (rI (ov σ σ2)) u) Es Er du fo (N + 1) := by
    refine hJ.upd hF (fun a i z q => ?_) (fun a i z q => ?_) (by rw [e u 9 (by decide) (by omega)]; exact hC.2.1.2.2.2) ?_ ?_ ?_ ?_ ?_ (fun i p q => ?_) ?_ (hJ.2.2.2.2.2.congr hS.2.2.2.2.1.2.2 (fun a i p z => e a i p (by omega)))
    · have q1 : ((a = u + 4 ∨ (a = 26 ∧ i = 12)) ∨ (((91 ≤ a ∧ a ≤ 99) ∨ (261 ≤ a ∧ a ≤ 313) ∨ (a = 76 ∧ (i = 36 ∨ i = 37))) ∨ (321 ≤ a ∧ a ≤ 341) ∨ (a = 76 ∧ (i = 0 ∨ i = 20)))) := q
      omega
    · have q1 : ((a = u + 4 ∨ (a = 26 ∧ i = 12)) ∨ (((91 ≤ a ∧ a ≤ 99) ∨ (261 ≤ a ∧ a ≤ 313) ∨ (a = 76 ∧ (i = 36 ∨ i = 37))) ∨ (321 ≤ a ∧ a ≤ 341) ∨ (a = 76 ∧ (i = 0 ∨ i = 20)))) := q
      omega
    · rw [kD, kM]; exact pe m
    · rw [kD, ← c1]; exact c2
    · rw [kD]; intro i p q; rw [ds 4 i (by decide), ds 5 i (by decide)]; exact hC.2.2.2.1 i p q
    · rw [kD]; exact hC.2.2.2.2.1.of (fun i p q => ⟨ds 0 i (by decide), ds 1 i (by decide)⟩)
    · rw [kD]; exact Fld.of hC.2.2.2.2.2.1 (fun i p q => ⟨ds 0 i (by decide), ds 1 i (by decide)⟩)
    · rw [kD, ds 7 i (by decide), e 184 i p (by omega)]; exact hc i p q
    · obtain ⟨s1, s2, s3, s4, s5, s6, s7, s8, s9, s10⟩ := hS
      unfold SC
      rw [k12, k20]
      rw [e 80 5 (by decide) (by omega), e u 7 (by decide) (by omega), e u 8 (by decide) (by omega), e u 9 (by decide) (by omega), e 76 18 (by decide) (by omega), e 76 19 (by decide) (by omega), e 76 21 (by decide) (by omega), e 76 1 (by decide) (by omega), e 76 3 (by decide) (by omega), e 3 6 (by decide) (by omega), e 1 1 (by decide) (by omega), e 1 5 (by decide) (by omega), e 78 0 (by decide) (by omega), e 78 1 (by decide) (by omega), e 0 7 (by decide) (by omega), e 0 8 (by decide) (by omega)]
      refine ⟨s1, s2, s3, rfl, s5, s6, s7, fun k k0 k1 => ?_, by omega, by omega⟩
      rw [e 77 k k0 (by omega), e 2 k k0 (by omega)]; exact s8 k k0 k1
  exact ⟨r, σ1, σ2, he, rr, ⟨u, G1⟩, he2, ⟨u, v, n, W, H, _, Es, Er, du, fo, J2.ov (hF2.g G1) v2⟩, by rw [n1.1]; omega, by rw [n1.2]; omega⟩
end
