/-! BOTH SIDES: a market told. -/
section
variable {sc : Nat × (Nat → Int32)} {d : Nat} {σ σ1 σ2 τ : aH} {u v : Nat} {n W H : Int} {D D2 : Nat → Int → Int} {Es Er : Nat → Option Int} {du fo N w cl K : Int} {fr va : Int → Int}
theorem s_look (hG : G (sM σ 27 5 (some v)) v) (hM : MkT (rI σ) v Es Er) : TV sc (d + 3) mX6_look [.ref 27, .ref v] σ (fun σ1 => Fr (fun a _ => a = 29 ∨ a = 30 ∨ a = 32 ∨ a = 33) (sM σ 27 5 (some v)) σ1 ∧ WtS (rI σ1) 28 (sT Es (rI σ v 5)) (CF Er) (CF1 Er (rI σ v 6)) ∧ WtS (rI σ1) 31 (sT Es (rI σ v 5)) one (fun _ => 0)) := by
  apply T.void
  apply t_X6_look hG
  have hv := hG.2.2.2.2
  have hm : v = 39 ∨ v = 60 := hv
  obtain ⟨σ1, he1, F1, W1⟩ := s_weighCosts (sc := sc) (d := d) (σ := sM σ 27 5 (some v)) (v := v) (w := 28) (a := 0) (b := 1440) hG hv (Or.inl rfl) hM (by decide) (by decide)
  have M1 : MkT (rI σ1) v Es Er := MkT.fr (σ := sM σ 27 5 (some v)) hM F1 (fun a i z q => by have q1 : a = 29 ∨ a = 30 := q; omega)
  obtain ⟨σ2, he2, F2, W2⟩ := s_weighMinutes (sc := sc) (d := d) (w := 31) (F1.g hG) hv (Or.inr (Or.inl rfl)) M1
  have e5 : rI σ1 v 5 = rI σ v 5 := F1.rw (by decide) (by show ¬ (v = 29 ∨ v = 30); omega)
  refine ⟨σ1, he1, F1.g hG, σ2, he2, rfl, ?_, ?_, ?_⟩
  · exact (F1.weak (fun a i z => by have z1 : a = 29 ∨ a = 30 := z; omega)).trans (F2.weak (fun a i z => by have z1 : a = 32 ∨ a = 33 := z; omega))
  · exact W1.fr F2 (fun a i z q => by have q1 : a = 32 ∨ a = 33 := q; omega)
  · rw [← e5]; exact W2
theorem Fw8.ov {A : Nat → Int → Prop} {k l : Nat} (h : Fw8 A k l σ σ1) : Fr (fun a i => 345 ≤ a ∨ A a i) σ (ov σ σ1) :=
  ⟨⟨rfl, rfl, rfl⟩, fun a i p z => h.2.2.2.2.2 a i (Nat.lt_of_not_le (fun q => z (Or.inl q))) p (fun q => z (Or.inr q))⟩
theorem Fr.ov2 {A B : Nat → Int → Prop} (h1 : Fr A σ σ1) (h2 : Fr B σ1 (ov σ1 σ2)) : Fr (fun a i => A a i ∨ B a i) σ (ov σ σ2) :=
  ⟨⟨rfl, rfl, rfl⟩, fun a i p z => (h2.2 a i p (fun y => z (Or.inr y))).trans (h1.2 a i p (fun y => z (Or.inl y)))⟩
/-- the reference's market behind `stands` -/
theorem JR.of {m : Nat → Int → Int} {R : PS} (hP : PDd R) (hc : Mc m R.1 R.2.1 R.2.2) (hs : SdS m (rI σ) (R.1 2) (R.2.2 0) (R.2.2 1)) : JR σ (R.1 2) (R.1 0) (R.1 1) R.2.1 (R.2.2 0) (R.2.2 1) (R.1 4) (R.1 3) := by
  obtain ⟨d80, drow, d184, ⟨d18, d19, d20, d21, d27, d28⟩, dsun, drat, dpn, dpc⟩ := hs
  obtain ⟨c79, crow, -, -⟩ := hc
  obtain ⟨⟨p0, p1, p2, p6, p7, p8⟩, -, ⟨pD, pd⟩, ⟨pe0, pe1⟩, t3, t4, t5⟩ := hP
  have k0 : rI σ 80 0 = R.1 0 := (d80 0 (by decide) (by decide)).trans (c79 0 (by decide))
  have k1 : rI σ 80 1 = R.1 1 := (d80 1 (by decide) (by decide)).trans (c79 1 (by decide))
  have k2 : rI σ 80 2 = R.1 2 := (d80 2 (by decide) (by decide)).trans (c79 2 (by decide))
  have k3 : rI σ 80 3 = R.1 3 := (d80 3 (by decide) (by decide)).trans (c79 3 (by decide))
  have k4 : rI σ 80 4 = R.1 4 := (d80 4 (by decide) (by decide)).trans (c79 4 (by decide))
  have dq : Deq (R.1 2) R.2.1 (Dm (rI σ)) := fun f i hf i0 i1 => by
    rw [Dm_at (by omega), drow i f i0 i1 (by omega) (by omega)]
    exact crow i i0 i1 f hf
  have hS : StB R.2.1 (R.1 2) := ⟨by omega, fun i i0 i1 => by
    obtain ⟨a, b, c, e, f, g, h, k⟩ := pD i i0 i1
    omega⟩
  have hF : Fld R.2.1 (R.1 2) (R.1 0) (R.1 1) := fun i i0 i1 => by
    obtain ⟨a, b, c, e, f, g, h, k⟩ := pD i i0 i1
    omega
  have e01 : ∀ i : Int, 0 ≤ i → i < R.1 2 → Dm (rI σ) 0 i = R.2.1 0 i ∧ Dm (rI σ) 1 i = R.2.1 1 i := fun i p q => ⟨dq 0 i (by decide) p q, dq 1 i (by decide) p q⟩
  refine ⟨rI σ 80 6, fun k => rI σ (122 + k.toNat) 0, fun k => sunV (rI σ) (122 + k.toNat), Dm (rI σ), ⟨⟨⟨d28, by omega, d27, by decide⟩, rfl, dq.stb hS, pd.of e01, Fld.of hF e01, ⟨k0, k1⟩, by omega, by omega, rfl, fun k q0 q1 => ⟨rfl, (dsun.2 k q0 q1).1, (dsun.2 k q0 q1).2.1, (dsun.2 k q0 q1).2.2, rfl⟩, dsun.1, ⟨k4, by omega⟩, dpn, ?_, pe1⟩, k3, t3⟩, dq, k2, fun i i0 i1 => ?_⟩
  · rw [k4] at dpc; exact dpc
  · obtain ⟨a, b, c, e, f, g, h, k⟩ := pD i i0 i1
    rw [d184 i i0 (by omega), k]
theorem j_market {x : Int} (hJ : J σ u v n W H D Es Er du fo N) (hN : 0 ≤ N ∧ N ≤ 1000) (hg : gN σ ≤ 100000) (rx : inR x) : JQ sc (d + 12) mX9_market mX10_market [.int (nZ x)] (kq 1) σ N := by
  have hC := hJ.2.2.1
  have hmk : u = 39 ∨ u = 60 := hJ.mk
  have hvk := hJ.vk
  have hv : IsMk v := hJ.2.1.2.1
  have hS := hJ.2.2.2.2.1
  have rm := hJ.rm hN.2 hg
  obtain ⟨s1, s2, s3, s4, s5, s6, s7, s8, s9, s10⟩ := hJ.2.2.2.2.1
  by_cases ok : 0 ≤ x ∧ x ≤ rI σ 1 1
  case neg =>
    have c : T sc (d + 12) mX9_market [.ref 0, .int (nZ x)] σ (fun o σ1 => o = .inr 1 ∧ KO σ σ1 1) := by
      obtain ⟨σ1, he, hk⟩ := s_require0 (sc := sc) (d := d + 10) hJ.1 rm
      apply t_X9_market hJ.1 hv rx
      intro s0 hs
      have es : s0 = 0 := by omega
      subst es
      exact Or.inl ⟨1, σ1, he, rfl, hk⟩
    obtain ⟨o, σ1, he, eo, hk⟩ := c
    rw [eo] at he
    have rj := KO.rj hJ hN.2 hk (Or.inr rfl)
    obtain ⟨r2, σ2, he2, rr2, _, hm⟩ := m_marketB (sc := sc) (d := d + 10) rj.1 rx rj.2.2.1 (by rw [hk.hi (by decide), s6.1]; exact ok)
    obtain ⟨J2, g2, w2⟩ := hJ.refuse (q := 1) hN hk (Or.inr rfl) hm
    exact Or.inr ⟨1, r2, σ1, σ2, he, Or.inr rfl, by decide, ⟨u, rj.1⟩, he2, rr2, hm.2.1.trans (kq_eq 1).symm, ⟨u, v, n, W, H, D, Es, Er, du, fo, J2⟩, by omega, by omega⟩
  obtain ⟨c, hcd⟩ : ∃ c : Int → Int, c = fun k => if 0 ≤ k ∧ k < x then rI σ 77 k else -1 := ⟨_, rfl⟩
  have ce : ∀ k : Int, 0 ≤ k → k < x → c k = rI σ 77 k := fun k a b => by rw [hcd]; exact if_pos ⟨a, b⟩
  have hT : TxS c x := ⟨⟨ok.1, by omega⟩, fun k h => by rw [hcd]; exact if_neg (by omega), fun k a b => by rw [ce k a b]; exact (s8 k a (by omega)).1⟩
  have tp : ∀ k : Int, 0 ≤ k → k < x → rI σ 2 k = if c k < 128 then c k else c k - 256 := fun k a b => by rw [ce k a b]; exact (s8 k a (by omega)).2
  obtain ⟨R, hRd⟩ : ∃ R : PS, R = RdP c x (Dc (rI σ) v) := ⟨_, rfl⟩
  obtain ⟨r, σ2, he2, rr, F2, hR, b0, er⟩ := s_read (sc := sc) (d := d + 4) (σ := σ) (u := u) (v := v) hJ.1 hv hT ok.2 tp
  rw [← hRd] at hR er
  subst er
  have f4 : F4 R.1 := by rw [hRd]; exact F4.all
  have f4' : 0 ≤ R.1 9 ∧ R.1 9 ≤ 4 := f4
  obtain ⟨hSt, hCt, hKb⟩ := hR
  have kc : Kc σ2 v = R.1 := hSt.2.2.2.2
  have G2 : G σ2 u := F2.g hJ.1
  have n2 := F2.nw
  have v2 : gM σ2 0 6 = some v := by
    have e := F2.1.2.1
    show σ2.2.1 0 6 = some v
    rw [e]; exact hJ.2.1.1
  have k10 : rI σ2 1 5 = R.1 10 := by rw [← kc]; rfl
  have hi2 : ∀ (a : Nat) (i : Int), 76 ≤ a → 0 ≤ i → rI σ2 a i = rI σ a i := fun a i p q => F2.rw q (by show ¬ ((a = 1 ∧ 1 ≤ i ∧ i ≤ 8) ∨ (a = v ∧ 3 ≤ i ∧ i ≤ 9) ∨ (a = v + 1 ∧ i = 8) ∨ (v + 2 ≤ a ∧ a ≤ v + 15)); omega)
  -- the reference can be run wherever the ints above are the same
  have run : ∀ τ : aH, (∃ w : Nat, G τ w) → gN τ + 1 ≤ 1000000 → (∀ (a : Nat) (i : Int), 76 ≤ a → 0 ≤ i → rI τ a i = rI σ a i) → TI sc (d + 12) mX10_market [.ref 76, .int (nZ x)] τ (fun r σ1 => MkS τ σ1 R r) := fun τ ⟨w, hw⟩ hb hi => by
    rw [hRd]
    exact m_market (sc := sc) (d := d + 5) (Dc (rI σ) v) hw rx hb ⟨ok.1, by rw [hi 76 1 (by decide) (by decide), s6.1]; exact ok.2⟩ hT (fun k a b => by rw [hi 77 k (by decide) a, ce k a b])
  by_cases c9 : R.1 9 = 0
  case neg =>
    have cl : T sc (d + 12) mX9_market [.ref 0, .int (nZ x)] σ (fun o σ1 => o = .inl (some (.int (nZ (R.1 9 - 10)))) ∧ σ1 = σ2) := by
      apply t_X9_market hJ.1 hv rx
      intro s0 hs
      have es : s0 = 1 := by omega
      subst es
      exact Or.inr ⟨σ, s_require1 hJ.1 (by decide) (by decide), hJ.1, hJ.2.1.1, R.1 9, σ2, he2, G2, v2, rr, fun z => ⟨rfl, rfl⟩, fun z => absurd z c9⟩
    obtain ⟨o, σ1, he1, eo, e1⟩ := cl
    rw [eo] at he1
    subst e1
    obtain ⟨r2, σ3, he3, rr3, ⟨t0, t1, t3⟩, hcs⟩ := run (wJ σ1 344 0 (R.1 9 - 10)) ⟨u, G2⟩ (by show gN σ1 + 1 ≤ 1000000; rw [n2.1]; omega) (fun a i p q => hi2 a i p q)
    rcases hcs with ⟨_, er2, F3⟩ | ⟨z, _⟩
    case inr => exact absurd z c9
    have G3 : G σ3 u := F3.g (show G (wJ σ1 344 0 (R.1 9 - 10)) u from G2)
    have v3 : gM σ3 0 6 = some v := by
      show σ3.2.1 0 6 = some v
      rw [F3.2.1 0 (by decide)]; exact v2
    have hF : Fr (fun a i => AT v a i ∨ (345 ≤ a ∨ AMr a i)) σ (ov σ σ3) := ⟨⟨rfl, rfl, rfl⟩, fun a i p z => (F3.ov.2 a i p (fun y => z (Or.inr y))).trans (F2.2 a i p (fun y => z (Or.inl y)))⟩
    have e : ∀ (a : Nat) (i : Int), 0 ≤ i → ¬ (((a = 1 ∧ 1 ≤ i ∧ i ≤ 8) ∨ (a = v ∧ 3 ≤ i ∧ i ≤ 9) ∨ (a = v + 1 ∧ i = 8) ∨ (v + 2 ≤ a ∧ a ≤ v + 15)) ∨ (345 ≤ a ∨ ((a = 76 ∧ ((0 ≤ i ∧ i ≤ 7) ∨ i = 38 ∨ i = 39)) ∨ (a = 79 ∨ (82 ≤ a ∧ a ≤ 89) ∨ (101 ≤ a ∧ a ≤ 120) ∨ (143 ≤ a ∧ a ≤ 162))))) → rI (ov σ σ3) a i = rI σ a i := fun a i p z => hF.rw p z
    have no : ∀ (a : Nat) (i : Int), ¬ (((a = 1 ∧ 1 ≤ i ∧ i ≤ 8) ∨ (a = v ∧ 3 ≤ i ∧ i ≤ 9) ∨ (a = v + 1 ∧ i = 8) ∨ (v + 2 ≤ a ∧ a ≤ v + 15)) ∨ (345 ≤ a ∨ ((a = 76 ∧ ((0 ≤ i ∧ i ≤ 7) ∨ i = 38 ∨ i = 39)) ∨ (a = 79 ∨ (82 ≤ a ∧ a ≤ 89) ∨ (101 ≤ a ∧ a ≤ 120) ∨ (143 ≤ a ∧ a ≤ 162))))) → ¬ (AT v a i ∨ (345 ≤ a ∨ AMr a i)) := fun a i z => z
    have k1 : rI (ov σ σ3) 1 1 = 0 := (F3.rw (by decide) (by decide) (by show ¬ ((1 = 76 ∧ ((0 ≤ (1 : Int) ∧ (1 : Int) ≤ 7) ∨ (1 : Int) = 38 ∨ (1 : Int) = 39)) ∨ (1 = 79 ∨ (82 ≤ 1 ∧ 1 ≤ 89) ∨ (101 ≤ 1 ∧ 1 ≤ 120) ∨ (143 ≤ 1 ∧ 1 ≤ 162))); omega)).trans b0
    have k5 : rI (ov σ σ3) 1 5 = R.1 10 := (F3.rw (by decide) (by decide) (by show ¬ ((1 = 76 ∧ ((0 ≤ (5 : Int) ∧ (5 : Int) ≤ 7) ∨ (5 : Int) = 38 ∨ (5 : Int) = 39)) ∨ (1 = 79 ∨ (82 ≤ 1 ∧ 1 ≤ 89) ∨ (101 ≤ 1 ∧ 1 ≤ 120) ∨ (143 ≤ 1 ∧ 1 ≤ 162))); omega)).trans k10
    have k2 : rI (ov σ σ3) 76 1 = 0 := t1
    have k3 : rI (ov σ σ3) 76 3 = R.1 10 := t3
    have J2 : J (ov σ σ3) u v n W H (Dc (rI (ov σ σ3)) u) Es Er du fo (N + 1) := by
      refine hJ.upd0 hF (fun a i z => no a i (by omega)) (fun a i z => no a i (by omega)) (by rw [e u 9 (by decide) (by omega)]; exact hC.2.1.2.2.2) ?_ (hJ.2.2.2.2.2.congr s5.2.2 (fun a i p z => e a i p (by omega)))
      unfold SC
      rw [k1, k2, k3, k5]
      rw [e 80 5 (by decide) (by omega), e u 7 (by decide) (by omega), e u 8 (by decide) (by omega), e u 9 (by decide) (by omega), e 76 18 (by decide) (by omega), e 76 19 (by decide) (by omega), e 76 20 (by decide) (by omega), e 76 21 (by decide) (by omega), e 26 12 (by decide) (by omega), e 3 6 (by decide) (by omega), e 78 0 (by decide) (by omega), e 78 1 (by decide) (by omega), e 0 7 (by decide) (by omega), e 0 8 (by decide) (by omega)]
      exact ⟨s1, s2, s3, s4, s5, ⟨rfl, by decide, by decide⟩, rfl, fun k k0 k1 => by omega, by omega, by omega⟩
    rw [er2] at he3
    refine Or.inl ⟨R.1 9 - 10, σ1, σ3, he1, by omega, ⟨u, G2⟩, he3, t0, ?_, ⟨⟨u, v, n, W, H, _, Es, Er, du, fo, J2.ov G3 v3⟩, ?_, ?_⟩, trivial⟩
    · have ej := F3.2.2.1 344 (by decide)
      have : rJ σ3 344 0 = rJ (wJ σ1 344 0 (R.1 9 - 10)) 344 0 := by unfold rJ gJ; rw [ej]
      rw [this]; exact (rJ_w (by omega) 344 0).trans (if_pos ⟨rfl, rfl⟩)
    · rw [F3.2.2.2.1]; show gN σ1 + 1 ≤ _; rw [n2.1]; omega
    · rw [F3.2.2.2.2.1]; show gW σ1 + 8 ≤ _; rw [n2.2.1]; omega
  -- all is told
  have hP : PDd R := by
    obtain ⟨r2, σ3, _, _, _, hcs⟩ := run σ ⟨u, hJ.1⟩ (by omega) (fun _ _ _ _ => rfl)
    rcases hcs with ⟨z, _⟩ | ⟨_, hp, _⟩
    · exact absurd c9 z
    · exact hp
  have hP2 := hP
  obtain ⟨⟨p0, p1, p2, p6, p7, p8⟩, -, ⟨pD, pd⟩, ⟨pe0, pe1⟩, t3, t4, t5⟩ := hP2
  have q0 : rI σ2 v 3 = R.1 0 := by rw [← kc]; rfl
  have q1 : rI σ2 v 4 = R.1 1 := by rw [← kc]; rfl
  have q2 : rI σ2 (v + 1) 8 = R.1 2 := by rw [← kc]; rfl
  have q3 : rI σ2 v 5 = R.1 3 := by rw [← kc]; rfl
  have q4 : rI σ2 v 6 = R.1 4 := by rw [← kc]; rfl
  have q5 : rI σ2 v 7 = R.1 5 := by rw [← kc]; rfl
  have hM : MkT (rI σ2) v (R.2.2 0) (R.2.2 1) := ⟨hCt.2.1, hCt.2.2.1, pe0, pe1, by rw [q3]; exact t3, by rw [q4]; exact t4⟩
  obtain ⟨σa, ea⟩ : ∃ σa : aH, σa = sM (sM σ2 0 5 (some v)) 0 6 (some u) := ⟨_, rfl⟩
  have ra : rI σa = rI σ2 := by rw [ea]; rfl
  have Ga : G (sM σa 27 5 (some v)) v := by rw [ea]; exact ⟨G2.1, G2.2.1, rfl, rfl, hv⟩
  obtain ⟨σ3, hl, F3, W28, W31⟩ := s_look (sc := sc) (d := d + 8) (σ := σa) Ga (by rw [ra]; exact hM)
  rw [ra, q3, q4] at W28
  rw [ra, q3] at W31
  have G3 : G σ3 v := F3.g Ga
  have u3 : gM σ3 0 6 = some u := by
    have e := F3.1.2.1
    show σ3.2.1 0 6 = some u
    rw [e, ea]; rfl
  have n3 : gN σ3 = gN σ ∧ gW σ3 = gW σ := by
    have e := F3.nw
    rw [e.1, e.2.1, ea]
    exact ⟨n2.1, n2.2.1⟩
  obtain ⟨σ5, e5⟩ : ∃ σ5 : aH, σ5 = wI (wI σ3 3 6 0) 26 12 0 := ⟨_, rfl⟩
  have G5 : G σ5 v := by rw [e5]; exact G.wI (G.wI G3)
  have F35 : Fr (fun a i => (a = 3 ∧ i = 6) ∨ (a = 26 ∧ i = 12)) σ3 σ5 := by
    rw [e5]; exact (Fr.w (by decide) (Or.inl ⟨rfl, rfl⟩)).trans (Fr.w (by decide) (Or.inr ⟨rfl, rfl⟩))
  have F25 : ∀ (a : Nat) (i : Int), 0 ≤ i → ¬ ((a = 29 ∨ a = 30 ∨ a = 32 ∨ a = 33) ∨ (a = 3 ∧ i = 6) ∨ (a = 26 ∧ i = 12)) → rI σ5 a i = rI σ2 a i := fun a i p z => by
    rw [F35.rw p (fun y => z (Or.inr y)), F3.rw p (fun y => z (Or.inl y))]
    show rI σa a i = rI σ2 a i
    rw [ra]
  have z8 : rI σ5 (v + 1) 8 = R.1 2 := (F25 _ _ (by decide) (by omega)).trans q2
  have cl : T sc (d + 12) mX9_market [.ref 0, .int (nZ x)] σ (fun o σ1 => o = .inl (some (.int (nZ (R.1 2)))) ∧ σ1 = σ5) := by
    apply t_X9_market hJ.1 hv rx
    intro s0 hs
    have es : s0 = 1 := by omega
    subst es
    refine Or.inr ⟨σ, s_require1 hJ.1 (by decide) (by decide), hJ.1, hJ.2.1.1, R.1 9, σ2, he2, G2, v2, rr, fun z => absurd c9 z, fun _ => ⟨σ3, by rw [← ea]; exact hl, G3, fun σ4 e4 σ6 e6 => ?_⟩⟩
    have : σ6 = σ5 := by rw [e5, ← e6, ← e4]
    subst this
    exact ⟨by rw [z8], rfl⟩
  obtain ⟨o, σ1, he1, eo, e1⟩ := cl
  rw [eo] at he1
  subst e1
  have hi5 : ∀ (a : Nat) (i : Int), 76 ≤ a → 0 ≤ i → rI σ1 a i = rI σ a i := fun a i p q => (F25 a i q (by omega)).trans (hi2 a i p q)
  have n5 : gN σ1 = gN σ ∧ gW σ1 = gW σ := by
    have e := F35.nw
    exact ⟨e.1.trans n3.1, e.2.1.trans n3.2⟩
  obtain ⟨r2, σ6, he6, rr6, ⟨t0, t1, t3'⟩, hcs⟩ := run (wJ σ1 344 0 (R.1 2)) ⟨v, G5⟩ (by show gN σ1 + 1 ≤ 1000000; rw [n5.1]; omega) (fun a i p q => hi5 a i p q)
  rcases hcs with ⟨z, _⟩ | ⟨_, _, er2, F6, m, hc, hs⟩
  case inl => exact absurd c9 z
  have hR6 : JR σ6 (R.1 2) (R.1 0) (R.1 1) R.2.1 (R.2.2 0) (R.2.2 1) (R.1 4) (R.1 3) := JR.of hP hc hs
  obtain ⟨d80, drow, d184, ⟨d18, d19, d20, d21, d27, d28⟩, dsun, drat, dpn, dpc⟩ := hs
  obtain ⟨c79, -, -, -⟩ := hc
  have k5 : rI σ6 80 5 = R.1 5 := (d80 5 (by decide) (by decide)).trans (c79 5 (by decide))
  -- below 76 nothing but the class's own has changed
  have lo : ∀ (a : Nat) (i : Int), a < 76 → 0 ≤ i → rI σ6 a i = rI σ1 a i := fun a i p q => F6.rw (by omega) q (by show ¬ (((a = 76 ∧ ((0 ≤ i ∧ i ≤ 7) ∨ i = 38 ∨ i = 39)) ∨ (a = 79 ∨ (82 ≤ a ∧ a ≤ 89) ∨ (101 ≤ a ∧ a ≤ 120) ∨ (143 ≤ a ∧ a ≤ 162))) ∨ (a = 80 ∨ (91 ≤ a ∧ a ≤ 98) ∨ (122 ≤ a ∧ a ≤ 141) ∨ (164 ≤ a ∧ a ≤ 184) ∨ (190 ≤ a ∧ a ≤ 259) ∨ (a = 76 ∧ (i = 18 ∨ i = 19 ∨ i = 20 ∨ i = 21 ∨ i = 25 ∨ i = 27 ∨ i = 28)))); omega)
  have hA : Fr (fun a i => 76 ≤ a ∨ (a = 29 ∨ a = 30 ∨ a = 32 ∨ a = 33) ∨ (a = 3 ∧ i = 6) ∨ (a = 26 ∧ i = 12)) σ2 (ov σ2 σ6) := ⟨⟨rfl, rfl, rfl⟩, fun a i p z => (lo a i (by omega) p).trans (F25 a i p (by omega))⟩
  have hB : Fr (fun a i => 76 ≤ a ∨ (a = 3 ∧ i = 6) ∨ (a = 26 ∧ i = 12)) σ3 (ov σ3 σ6) := ⟨⟨rfl, rfl, rfl⟩, fun a i p z => (lo a i (by omega) p).trans (F35.rw p (by omega))⟩
  have eA : ∀ (a : Nat) (i : Int), 0 ≤ i → ¬ (76 ≤ a ∨ (a = 29 ∨ a = 30 ∨ a = 32 ∨ a = 33) ∨ (a = 3 ∧ i = 6) ∨ (a = 26 ∧ i = 12)) → rI σ6 a i = rI σ2 a i := fun a i p z => hA.rw p z
  have eAA : ∀ (a : Nat) (i : Int), 0 ≤ i → ¬ (76 ≤ a ∨ (a = 29 ∨ a = 30 ∨ a = 32 ∨ a = 33) ∨ (a = 3 ∧ i = 6) ∨ (a = 26 ∧ i = 12) ∨ ((a = 1 ∧ 1 ≤ i ∧ i ≤ 8) ∨ (a = v ∧ 3 ≤ i ∧ i ≤ 9) ∨ (a = v + 1 ∧ i = 8) ∨ (v + 2 ≤ a ∧ a ≤ v + 15))) → rI σ6 a i = rI σ a i := fun a i p z => (eA a i p (by omega)).trans (F2.rw p (by show ¬ ((a = 1 ∧ 1 ≤ i ∧ i ≤ 8) ∨ (a = v ∧ 3 ≤ i ∧ i ≤ 9) ∨ (a = v + 1 ∧ i = 8) ∨ (v + 2 ≤ a ∧ a ≤ v + 15)); omega))
  have kD : R.2.1 = Dc (rI σ6) v := (((Dc_congr (fun a p q => hA.row (fun i => by omega)) : Dc (rI (ov σ2 σ6)) v = Dc (rI σ2) v)).trans hCt.1).symm
  have hStb : StB R.2.1 (R.1 2) := ⟨by omega, fun i i0 i1 => by
    obtain ⟨a, b, c, e, f, g, h, k⟩ := pD i i0 i1
    omega⟩
  have z36 : rI σ6 3 6 = 0 := (lo 3 6 (by decide) (by decide)).trans (by rw [e5, rI_wa (by decide), rI_ww (by decide)])
  have z2612 : rI σ6 26 12 = 0 := (lo 26 12 (by decide) (by decide)).trans (by rw [e5, rI_ww (by decide)])
  have x8 : rI σ6 v 8 = 0 := (eA v 8 (by decide) (by omega)).trans hCt.2.2.2.1
  have x9 : rI σ6 v 9 = 0 := (eA v 9 (by decide) (by omega)).trans hCt.2.2.2.2.1
  have x7 : rI σ6 v 7 = R.1 5 := (eA v 7 (by decide) (by omega)).trans q5
  have G6 : G σ6 v := F6.g (show G (wJ σ1 344 0 (R.1 2)) v from G5)
  have u6 : gM σ6 0 6 = some u := by
    show σ6.2.1 0 6 = some u
    rw [F6.2.1 0 (by decide)]
    have e := F35.1.2.1
    show σ1.2.1 0 6 = some u
    rw [e]; exact u3
  have J6 : J σ6 v u (R.1 2) (R.1 0) (R.1 1) R.2.1 (R.2.2 0) (R.2.2 1) (R.1 4) (R.1 3) (N + 1) := by
    refine ⟨G6, ⟨u6, hJ.mk, fun z => hvk.2 z.symm, (eAA (u + 1) 9 (by decide) (by omega)).trans hC.2.2.2.2.2.2.2.2.2.2.2.2⟩, ⟨kD, ⟨(eA _ _ (by decide) (by omega)).trans q2, p2.1, by rw [← kD]; exact hStb, by rw [x9]; decide⟩, p2.2, fun i i0 i1 => ?_, pd, fun i i0 i1 => ?_, ⟨(eA _ _ (by decide) (by omega)).trans q0, (eA _ _ (by decide) (by omega)).trans q1⟩, ⟨p0, p1⟩, MkT.fr (σ1 := ov σ2 σ6) hM hA (fun a i z => by omega), ⟨(eA _ _ (by decide) (by omega)).trans q3, (eA _ _ (by decide) (by omega)).trans q4⟩, WtS.fr (σ1 := ov σ3 σ6) W28 hB (fun a i z => by omega), WtS.fr (σ1 := ov σ3 σ6) W31 hB (fun a i z => by omega), (eA (v + 1) 9 (by decide) (by omega)).trans ((F2.rw (by decide) (by show ¬ ((v + 1 = 1 ∧ 1 ≤ (9 : Int) ∧ (9 : Int) ≤ 8) ∨ (v + 1 = v ∧ 3 ≤ (9 : Int) ∧ (9 : Int) ≤ 9) ∨ (v + 1 = v + 1 ∧ (9 : Int) = 8) ∨ (v + 2 ≤ v + 1 ∧ v + 1 ≤ v + 15)); omega)).trans hJ.2.1.2.2.2)⟩, hR6, ?_, ?_⟩
    · obtain ⟨a, b, c, e, f, g, h, k⟩ := pD i i0 i1
      exact ⟨f, g⟩
    · obtain ⟨a, b, c, e, f, g, h, k⟩ := pD i i0 i1
      exact ⟨a.2, b.2⟩
    · unfold SC
      have y78 : ∀ q : Int, 0 ≤ q → rI σ6 78 q = rI σ 78 q := fun q q0 => (F6.rw (by decide) q0 (by show ¬ (((78 = 76 ∧ ((0 ≤ q ∧ q ≤ 7) ∨ q = 38 ∨ q = 39)) ∨ (78 = 79 ∨ (82 ≤ 78 ∧ 78 ≤ 89) ∨ (101 ≤ 78 ∧ 78 ≤ 120) ∨ (143 ≤ 78 ∧ 78 ≤ 162))) ∨ (78 = 80 ∨ (91 ≤ 78 ∧ 78 ≤ 98) ∨ (122 ≤ 78 ∧ 78 ≤ 141) ∨ (164 ≤ 78 ∧ 78 ≤ 184) ∨ (190 ≤ 78 ∧ 78 ≤ 259) ∨ (78 = 76 ∧ (q = 18 ∨ q = 19 ∨ q = 20 ∨ q = 21 ∨ q = 25 ∨ q = 27 ∨ q = 28)))); omega)).trans (hi5 78 q (by decide) q0)
      rw [k5, x7, d18, x8, d19, x9, d20, z2612, d21, z36, t1, t3', (eA 1 1 (by decide) (by omega)).trans b0, (eA 1 5 (by decide) (by omega)).trans k10, y78 0 (by decide), y78 1 (by decide), eAA 0 7 (by decide) (by omega), eAA 0 8 (by decide) (by omega)]
      exact ⟨rfl, ⟨rfl, by decide, by decide⟩, rfl, rfl, ⟨rfl, by decide, by decide⟩, ⟨rfl, by decide, by decide⟩, rfl, fun k k0 k1 => by omega, by omega, by omega⟩
    · intro k k0 k1
      rw [z36] at k1; omega
  rw [er2] at he6
  refine Or.inl ⟨R.1 2, σ1, σ6, he1, by omega, ⟨v, G5⟩, he6, t0, ?_, ⟨⟨v, u, _, _, _, _, _, _, _, _, J6⟩, ?_, ?_⟩, trivial⟩
  · have ej := F6.2.2.1 344 (by decide)
    have : rJ σ6 344 0 = rJ (wJ σ1 344 0 (R.1 2)) 344 0 := by unfold rJ gJ; rw [ej]
    rw [this]; exact (rJ_w (by omega) 344 0).trans (if_pos ⟨rfl, rfl⟩)
  · rw [F6.2.2.2.1]; show gN σ1 + 1 ≤ _; rw [n5.1]; omega
  · rw [F6.2.2.2.2.1]; show gW σ1 + 8 ≤ _; rw [n5.2]; omega
end
