/-! BOTH SIDES: stalls set otherwise. -/
section
variable {sc : Nat × (Nat → Int32)} {d : Nat} {σ σ1 σ2 τ : aH} {u v : Nat} {n W H : Int} {D D2 : Nat → Int → Int} {Es Er : Nat → Option Int} {du fo N w cl K : Int} {fr va : Int → Int}
/-- what a set of one or two stalls answers -/
def SetS (D : Nat → Int → Int) (n W H w : Int) (Es Er : Nat → Option Int) (du fo x y r : Int) : Prop :=
  ∃ a b : Int, LoB x 0 a ∧ LoB x (a + 1) b ∧ ((b = -1 ∧ ∃ vl c : Int, BestS (SetC1 D n W H a) (SetV1 D n (-1) w (sT Es fo) (CF Er) (CF1 Er du) a) 1000000000 vl c ∧ r = if y = 0 then vl else c) ∨ (b ≠ -1 ∧ ∃ vl c : Int, BestS (SetC2 D n W H a b) (SetV2 D n (-1) w (sT Es fo) (CF Er) (CF1 Er du) a b) 1000000000 vl c ∧ r = if y = 0 then vl else c))
theorem LoB.uniq {x k a b : Int} (h : LoB x k a) (g : LoB x k b) : a = b := by
  rcases h with ⟨a1, a2⟩ | ⟨a1, a2, a3⟩ <;> rcases g with ⟨b1, b2⟩ | ⟨b1, b2, b3⟩
  · omega
  · have := a2 b b1.1 b1.2; omega
  · have := b2 a a1.1 a1.2; omega
  · by_cases z : a < b
    · have := b3 a a1.1 z; omega
    · by_cases z2 : b < a
      · have := a3 b b1.1 z2; omega
      · omega
/-- the bits of a set -/
theorem set_bits {x : Int} (hn : 0 ≤ n ∧ n ≤ 8) (hx : 1 ≤ x ∧ x < 2 ^ n.toNat) (h2 : sm (fun k => bt x k) 24 ≤ 2) : ∃ a b : Int, LoB x 0 a ∧ LoB x (a + 1) b ∧ (0 ≤ a ∧ a < n) ∧ (b = -1 ∨ (a < b ∧ b < n)) ∧ (b = -1 → ∀ i : Int, 0 ≤ i → i < n → (bt x i ≠ 0 ↔ i = a)) ∧ (b ≠ -1 → ∀ i : Int, 0 ≤ i → i < n → (bt x i ≠ 0 ↔ i = a ∨ i = b)) := by
  have p8 := pow_8 n.toNat (by omega)
  have hi : ∀ i : Int, n ≤ i → i < 8 → bt x i = 0 := fun i a b => by
    have := bit_hi ⟨n.toNat, by omega⟩ ⟨x.toNat, by omega⟩ (by show ((x.toNat : Nat) : Int) < 2 ^ n.toNat; omega) ⟨i.toNat, by omega⟩ (by show n.toNat ≤ i.toNat; omega)
    rw [show (((⟨x.toNat, by omega⟩ : Fin 256).val : Nat) : Int) = x from by show ((x.toNat : Nat) : Int) = x; omega, show (((⟨i.toNat, by omega⟩ : Fin 8).val : Nat) : Int) = i from by show ((i.toNat : Nat) : Int) = i; omega] at this
    exact this
  have ex : ∃ k : Int, 0 ≤ k ∧ k < 8 ∧ bt x k = 1 := by
    obtain ⟨k, hk⟩ := bit_some ⟨x.toNat, by omega⟩ (by show x.toNat ≠ 0; omega)
    rw [show (((⟨x.toNat, by omega⟩ : Fin 256).val : Nat) : Int) = x from by show ((x.toNat : Nat) : Int) = x; omega] at hk
    exact ⟨k.val, by omega, by have := k.isLt; omega, hk⟩
  have lo : ∀ k : Int, 0 ≤ k → k ≤ 8 → ∃ r : Int, LoB x k r := by
    intro k k0 k8
    have : ∀ (f : Nat) (k : Int), (8 - k).toNat = f → 0 ≤ k → k ≤ 8 → ∃ r : Int, LoB x k r := by
      intro f
      induction f with
      | zero => intro k hf a b; exact ⟨-1, Or.inl ⟨rfl, fun i c e => by omega⟩⟩
      | succ f ih =>
        intro k hf a b
        rcases bt_01 x k with z | z
        · obtain ⟨r, hr⟩ := ih (k + 1) (by omega) (by omega) (by omega)
          refine ⟨r, ?_⟩
          rcases hr with ⟨r1, r2⟩ | ⟨r1, r2, r3⟩
          · exact Or.inl ⟨r1, fun i c e => by
              by_cases y : i = k
              · rw [y]; exact z
              · exact r2 i (by omega) e⟩
          · exact Or.inr ⟨by omega, r2, fun i c e => by
              by_cases y : i = k
              · rw [y]; exact z
              · exact r3 i (by omega) e⟩
        · exact ⟨k, Or.inr ⟨by omega, z, fun i c e => by omega⟩⟩
    exact this _ k rfl k0 k8
  obtain ⟨a, ha⟩ := lo 0 (by decide) (by decide)
  rcases ha with ⟨a1, a2⟩ | ⟨a1, a2, a3⟩
  · obtain ⟨k, k0, k1, k2⟩ := ex
    have := a2 k k0 k1; omega
  · have an : a < n := by
      by_cases z : a < n
      · exact z
      · have := hi a (by omega) a1.2; omega
    obtain ⟨b, hb⟩ := lo (a + 1) (by omega) (by omega)
    refine ⟨a, b, Or.inr ⟨a1, a2, a3⟩, hb, ⟨a1.1, an⟩, ?_⟩
    rcases hb with ⟨b1, b2⟩ | ⟨b1, b2, b3⟩
    · refine ⟨Or.inl b1, fun _ i i0 i1 => ⟨fun z => ?_, fun z => by rw [z]; omega⟩, fun z => absurd b1 z⟩
      by_cases y : i < a
      · exact absurd (a3 i i0 y) z
      · by_cases y2 : i = a
        · exact y2
        · exact absurd (b2 i (by omega) (by omega)) z
    · have bn : b < n := by
        by_cases z : b < n
        · exact z
        · have := hi b (by omega) b1.2; omega
      refine ⟨Or.inr ⟨by omega, bn⟩, fun z => by omega, fun _ i i0 i1 => ⟨fun z => ?_, fun z => by rcases z with z | z <;> (rw [z]; omega)⟩⟩
      by_cases y : i < a
      · exact absurd (a3 i i0 y) z
      · by_cases y2 : i = a
        · exact Or.inl y2
        · by_cases y3 : i < b
          · exact absurd (b3 i (by omega) y3) z
          · by_cases y4 : i = b
            · exact Or.inr y4
            · have b01 := bt_01 x i
              have := sm_three (x := x) (a := a) (b := b) (c := i) a1.1 (by omega) (by omega) (by omega) a2 b2 (by omega)
              omega
theorem AQ_in (a : Nat) (i : Int) (h : AQ u a i) : (u + 2 ≤ a ∧ a ≤ u + 9) ∨ (a = 26 ∧ 6 ≤ i ∧ i ≤ 11) ∨ (23 ≤ a ∧ a ≤ 25) ∨ (35 ≤ a ∧ a ≤ 38) ∨ (55 ≤ a ∧ a ≤ 58) := by
  have z' : ((a = u + 2 ∨ a = u + 3) ∨ (a = 26 ∧ (i = 6 ∨ i = 7))) ∨ a = 55 ∨ a = 56 := h
  omega
theorem j_set {x y : Int} (hJ : J σ u v n W H D Es Er du fo N) (hN : 0 ≤ N ∧ N ≤ 1000) (hg : gN σ ≤ 100000) (rx : inR x) (ry : inR y) : JQ sc (d + 12) mX9_set mX10_set [.int (nZ x), .int (nZ y)] (kq 1) σ N := by
  have hC := hJ.2.2.1
  have hw := hC.wh
  have hn : 0 ≤ n ∧ n ≤ 8 := ⟨hC.2.1.2.1, hC.2.2.1⟩
  have p8 := pow_8 n.toNat (by omega)
  obtain ⟨ok, hok⟩ : ∃ ok : Prop, ok = ((1 ≤ x ∧ x < 2 ^ n.toNat) ∧ sm (fun k => bt x k) 24 ≤ 2 ∧ (0 ≤ y ∧ y ≤ 1)) := ⟨_, rfl⟩
  refine JQ.one (q := 1) (ok := ok) (Sp := SetS D n W H (1 + rI σ u 9) Es Er du fo x y) hJ hN hg (Or.inr rfl) (fun rm => ?_) (fun τ hR hτ => ?_)
  · obtain ⟨Q, hQ⟩ : ∃ Q : aO → aH → Prop, Q = CQ1 σ ok 1 (fun r σ1 => SetS D n W H (1 + rI σ u 9) Es Er du fo x y r ∧ CG σ σ1 u n D) := ⟨_, rfl⟩
    rw [← hQ]
    have rb : inR (bcF x) := by unfold bcF; exact zAnd_R _ _
    have key : ∀ s0 : Int, (s0 = 1 ∧ ok) ∨ (s0 = 0 ∧ ¬ ok) → L_X9_set_48 (Ev sc (d + 11)) sc Q x y (bcF x) s0 σ := by
      intro s0 hs
      apply v_X9_set_48 hJ.1 rx ry rb (by omega)
      refine rq hJ.1 rm hs (fun σ1 z hk => by rw [hQ]; exact Or.inr ⟨z, rfl, hk⟩) (fun o => ?_)
      have o' := o
      rw [hok] at o'
      obtain ⟨o1, o2, o3⟩ := o'
      obtain ⟨a, b, la, lb, ha, hb, sel1, sel2⟩ := set_bits hn o1 o2
      obtain ⟨r5, σ1, he1, hr1, e1, h1⟩ := s_lowestBit (sc := sc) (d := d + 10) (x := x) (k := 0) hJ.1 (by omega) (by decide)
      subst e1
      rw [h1.uniq la] at he1 hr1
      obtain ⟨r6, σ6, he6, hr6, e6, h6⟩ := s_lowestBit (sc := sc) (d := d + 10) (x := x) (k := a + 1) hJ.1 (by omega) (by omega)
      subst e6
      rw [h6.uniq lb] at he6 hr6
      refine ⟨a, σ6, he1, hJ.1, hr1, by omega, b, σ6, he6, hJ.1, hr6, ?_⟩
      have hDst := hC.2.2.2.2.1
      rw [hC.1] at hDst
      by_cases c : b = -1
      · obtain ⟨σ5, he5, hF, hD, e2⟩ := s_placeAnew1 (sc := sc) (d := d + 5) (hC.cx hJ.1) hw.1.1 hw.2.1 hw.1.2 hw.2.2 ha hDst
        rw [hC.go, ← hC.1] at e2
        have cg : CG σ6 σ5 u n D := CG.back hJ.1 hC hF AQ_in hD
        rw [c]
        rw [c] at lb
        refine ⟨σ5, he5, hF.g hJ.1, fun z => ?_, fun z => ?_⟩
        · rw [hQ]; exact Or.inl ⟨o, _, rfl, rI_R _ _ _, ⟨a, -1, la, lb, Or.inl ⟨rfl, _, _, e2, by rw [if_neg z]⟩⟩, cg⟩
        · rw [hQ]; exact Or.inl ⟨o, _, rfl, rI_R _ _ _, ⟨a, -1, la, lb, Or.inl ⟨rfl, _, _, e2, by rw [if_pos z]⟩⟩, cg⟩
      · obtain ⟨σ5, he5, hF, hD, e2⟩ := s_placeAnew2 (sc := sc) (d := d + 5) (one := a) (other := b) (hC.cx hJ.1) hw.1.1 hw.2.1 hw.1.2 hw.2.2 ha (by omega) (by omega) hDst
        rw [hC.go, ← hC.1] at e2
        have cg : CG σ6 σ5 u n D := CG.back hJ.1 hC hF AQ_in hD
        refine ⟨σ5, he5, hF.g hJ.1, fun z => ?_, fun z => ?_⟩
        · rw [hQ]; exact Or.inl ⟨o, _, rfl, rI_R _ _ _, ⟨a, b, la, lb, Or.inr ⟨c, _, _, e2, by rw [if_neg z]⟩⟩, cg⟩
        · rw [hQ]; exact Or.inl ⟨o, _, rfl, rI_R _ _ _, ⟨a, b, la, lb, Or.inr ⟨c, _, _, e2, by rw [if_pos z]⟩⟩, cg⟩
    apply t_X9_set hJ.1 rx ry
    obtain ⟨r6, σ6, he6, hr6, e6, h6⟩ := s_isBit (sc := sc) (d := d + 10) (x := y) hJ.1 ry
    subst e6
    have bc : 0 ≤ x → x < 2 ^ n.toNat → bcF x = sm (fun k => bt x k) 24 := fun a b => bcF_sm (by omega)
    have b1 : 1 ≤ x → x < 2 ^ n.toNat → 1 ≤ sm (fun k => bt x k) 24 := fun a b => by
      obtain ⟨k, hk⟩ := bit_some ⟨x.toNat, by omega⟩ (by show x.toNat ≠ 0; omega)
      rw [show (((⟨x.toNat, by omega⟩ : Fin 256).val : Nat) : Int) = x from by show ((x.toNat : Nat) : Int) = x; omega] at hk
      exact sm_1b (by omega) (by have := k.isLt; omega) hk
    have no : ¬ ((1 ≤ x ∧ x < 2 ^ n.toNat) ∧ sm (fun k => bt x k) 24 ≤ 2 ∧ (0 ≤ y ∧ y ≤ 1)) → ¬ ok := fun z => by rw [hok]; exact z
    refine ⟨bcF x, σ6, s_bitCount rx, hJ.1, rb, ?_⟩
    rw [hC.2.1.1, zShl_1 hn.1 (by omega)]
    refine ⟨fun z => key 0 (Or.inr ⟨rfl, no (fun q => ?_)⟩), fun z => ⟨fun z1 => key 0 (Or.inr ⟨rfl, no (fun q => ?_)⟩), fun z1 => ⟨fun z2 => key 0 (Or.inr ⟨rfl, no (fun q => by omega)⟩), fun z2 => ⟨fun z3 => key 0 (Or.inr ⟨rfl, no (fun q => by omega)⟩), fun z3 => ⟨r6, σ6, he6, hJ.1, hr6, fun z4 => key 0 (Or.inr ⟨rfl, no (fun q => by omega)⟩), fun z4 => key 1 (Or.inl ⟨rfl, ?_⟩)⟩⟩⟩⟩⟩
    · have := b1 q.1.1 q.1.2
      have := bc (by omega) q.1.2
      omega
    · have := bc (by omega) q.1.2
      omega
    · have := bc (by omega) (by omega)
      rw [hok]; omega
  · obtain ⟨gτ, ⟨K, fr, va, D2, hm, hd, h2, hco⟩, rc, ew, ecl, hg, n8⟩ := hR
    have inA : ∀ (a : Nat) (i : Int), ASs a i → (a = 76 ∧ (i = 0 ∨ i = 36 ∨ i = 37 ∨ i = 42 ∨ i = 43)) ∨ (91 ≤ a ∧ a ≤ 99) ∨ (261 ≤ a ∧ a ≤ 343) := fun a i z => by
      have z' : ((91 ≤ a ∧ a ≤ 99) ∨ (261 ≤ a ∧ a ≤ 313) ∨ (a = 76 ∧ (i = 36 ∨ i = 37 ∨ i = 42 ∨ i = 43))) ∨ (a = 316 ∨ a = 317) ∨ (a = 76 ∧ i = 0) := z
      omega
    by_cases o : ok
    · have o' := o
      rw [hok] at o'
      obtain ⟨o1, o2, o3⟩ := o'
      obtain ⟨a, b, la, lb, ha, hb, sel1, sel2⟩ := set_bits hn o1 o2
      have at2 : ∀ {x y k : Int}, At D2 n x y k ↔ At D n x y k := hd.at
      by_cases c : b = -1
      · refine (m_set1 (sc := sc) (d := d + 3) gτ hm n8 h2 o1 o2 (show y = 0 ∨ y = 1 by omega) ha (sel1 c)).map (fun r σ2 z => Or.inl ⟨o, fun r0 z0 => ?_, RG.mid hm z.1 inA z.2.1 z.2.2.1⟩)
        obtain ⟨_, _, _, vl, cd, e, er⟩ := z
        obtain ⟨a0, b0, la0, lb0, ⟨q1, vl0, cd0, e0, er0⟩ | ⟨q1, _⟩⟩ := z0
        · rw [la0.uniq la] at lb0 e0
          rw [ew] at e
          obtain ⟨p, q⟩ := e.uniq (e0.congr (fun c => by unfold SetC1; exact and_congr Iff.rfl (and_congr Iff.rfl (and_congr Iff.rfl (forall_congr' (fun k => imp_congr Iff.rfl (not_congr at2.symm)))))) (fun c _ => by unfold SetV1; exact (hd.put _ _ _).due.symm))
          rw [er, er0, p, q]
        · rw [la0.uniq la] at lb0
          exact absurd ((lb0.uniq lb).trans c) q1
      · refine (m_set2 (sc := sc) (d := d + 3) (a := a) (b := b) gτ hm n8 h2 o1 o2 (show y = 0 ∨ y = 1 by omega) (by omega) (by omega) (sel2 c)).map (fun r σ2 z => Or.inl ⟨o, fun r0 z0 => ?_, RG.mid hm z.1 inA z.2.1 z.2.2.1⟩)
        obtain ⟨_, _, _, vl, cd, e, er⟩ := z
        obtain ⟨a0, b0, la0, lb0, ⟨q1, _⟩ | ⟨q1, vl0, cd0, e0, er0⟩⟩ := z0
        · rw [la0.uniq la] at lb0
          exact absurd ((lb0.uniq lb).symm.trans q1) c
        · rw [la0.uniq la] at lb0 e0
          rw [lb0.uniq lb] at e0
          rw [ew] at e
          have f2 : ∀ x y : Int, Fr2 D n a b x y ↔ Fr2 D2 n a b x y := fun x y => forall_congr' (fun k => imp_congr Iff.rfl (imp_congr Iff.rfl (not_congr at2.symm)))
          obtain ⟨p, q⟩ := e.uniq (e0.congr (fun c => by unfold SetC2; exact and_congr Iff.rfl (and_congr Iff.rfl (and_congr Iff.rfl (and_congr (f2 _ _) (and_congr (f2 _ _) Iff.rfl))))) (fun c _ => by unfold SetV2; exact ((hd.put _ _ _).put _ _ _).due.symm))
          rw [er, er0, p, q]
    · exact (m_setB (sc := sc) (d := d + 10) gτ h2 hn rx ry rc (fun z => o (by rw [hok]; exact z))).map (fun r σ2 z => Or.inr ⟨o, z.1, z.2⟩)
end
