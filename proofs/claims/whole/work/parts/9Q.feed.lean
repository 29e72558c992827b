/-! BOTH SIDES: feeding, images. -/
section
variable {sc : Nat × (Nat → Int32)} {d : Nat} {σ σ1 σ2 τ : aH} {u v : Nat} {n W H : Int} {D D2 : Nat → Int → Int} {Es Er : Nat → Option Int} {du fo N w cl K : Int} {fr va : Int → Int}
theorem zUsr_0 {x : Int} (hx : inR x) : zUsr x 0 = x := by
  have e : (((nZ x).toUInt32 >>> ((nZ 0).toUInt32 &&& Int32.toUInt32 31)).toInt32) = nZ x := by
    apply Int32.toBitVec_inj.1
    show (nZ x).toBitVec >>> (((nZ 0).toUInt32 &&& Int32.toUInt32 31) % 32).toBitVec = (nZ x).toBitVec
    rw [show (((nZ 0).toUInt32 &&& Int32.toUInt32 31) % 32).toBitVec = 0#32 by decide +kernel]
    apply BitVec.eq_of_toNat_eq
    rw [BitVec.ushiftRight_eq', BitVec.toNat_ushiftRight]
    rfl
  unfold zUsr
  rw [e]; exact nZ_t hx
/-- a byte with its sign -/
def sB (b : Int) : Int := if b < 128 then b else b - 256
theorem zByt_eq {y : Int} (hy : inR y) : zByt y = sB (y % 256) := by
  unfold zByt sB
  rw [Int8.toInt_toInt32, Int32.toInt_toInt8, nZ_t hy]
  show y.bmod 256 = _
  rw [Int.bmod_def]
  split <;> split <;> omega
theorem sB_R (b : Int) (h : 0 ≤ b ∧ b < 256) : inR (sB b) ∧ sB b % 256 = b := by
  unfold sB
  split <;> omega
theorem zb_eq {x k : Int} (hx : inR x) (hk : k = 0 ∨ k = 8 ∨ k = 16 ∨ k = 24) : zByt (zByt (zUsr x k)) = sB (x / 2 ^ k.toNat % 256) := by
  have e : zUsr x k % 256 = x / 2 ^ k.toNat % 256 := by
    rcases hk with rfl | rfl | rfl | rfl
    · rw [zUsr_0 hx]; show x % 256 = x / 1 % 256; omega
    · rw [zUsr_eq (Or.inl (by decide)) (by decide)]; show x % 4294967296 / 256 % 256 = x / 256 % 256; omega
    · rw [zUsr_eq (Or.inl (by decide)) (by decide)]; show x % 4294967296 / 65536 % 256 = x / 65536 % 256; omega
    · rw [zUsr_eq (Or.inl (by decide)) (by decide)]; show x % 4294967296 / 16777216 % 256 = x / 16777216 % 256; omega
  have h1 := zByt_eq (zUsr_R x k)
  have b : 0 ≤ zUsr x k % 256 ∧ zUsr x k % 256 < 256 := by omega
  rw [h1, zByt_eq (sB_R _ b).1, (sB_R _ b).2, e]
abbrev AF (m : Int) : Nat → Int → Prop := fun a i => (a = 2 ∧ m ≤ i) ∨ (a = 1 ∧ i = 1)
theorem s_append {x m : Int} (hG : G σ u) (rx : inR x) (hm : rI σ 1 1 = m) (hb : 0 ≤ m ∧ m + 4 ≤ 600) : TV sc (d + 1) mX5_append [.ref 1, .int (nZ x)] σ (fun σ1 => Fr (AF m) σ σ1 ∧ rI σ1 1 1 = m + 4 ∧ ∀ k : Int, 0 ≤ k → k < 4 → rI σ1 2 (m + k) = sB (x / 2 ^ (24 - 8 * k).toNat % 256)) := by
  apply T.void
  apply t_X5_append hG rx
  have loop : ∀ (g : Nat) (k : Int) (τ : aH), (4 - k).toNat = g → 0 ≤ k → k ≤ 4 → Fr (AF m) σ τ → rI τ 1 1 = m + k → (∀ q : Int, 0 ≤ q → q < k → rI τ 2 (m + q) = sB (x / 2 ^ (24 - 8 * q).toNat % 256)) → L_X5_append_3 (Ev sc d) sc (QV (fun σ1 => Fr (AF m) σ σ1 ∧ rI σ1 1 1 = m + 4 ∧ ∀ k : Int, 0 ≤ k → k < 4 → rI σ1 2 (m + k) = sB (x / 2 ^ (24 - 8 * k).toNat % 256))) x (24 - 8 * k) τ := by
    intro g
    induction g with
    | zero =>
      intro k τ hg k0 k1 hF ht ho
      have ek : k = 4 := by omega
      subst ek
      apply v_X5_append_3 (hF.g hG) rx (by omega)
      exact ⟨fun _ => ⟨rfl, hF, ht, ho⟩, fun z => by omega⟩
    | succ g ih =>
      intro k τ hg k0 k1 hF ht ho
      apply v_X5_append_3 (hF.g hG) rx (by omega)
      refine ⟨fun z => by omega, fun _ => ⟨fun z => by omega, fun _ => ⟨by omega, fun σ1 e1 => ?_⟩⟩⟩
      have ez := zb_eq (x := x) (k := 24 - 8 * k) rx (by omega)
      have eb := (sB_R (x / 2 ^ (24 - 8 * k).toNat % 256) (by omega)).1
      rw [ht, ez] at e1
      have F1 : Fr (AF m) τ σ1 := by rw [← e1]; exact Fr.w (by omega) (Or.inl ⟨rfl, by omega⟩)
      have t1 : rI σ1 1 1 = m + k := by rw [← e1, rI_wa (by decide)]; exact ht
      rw [t1]
      refine ⟨by omega, fun σ5 e5 => ⟨by omega, ?_⟩⟩
      rw [show 24 - 8 * k + -8 = 24 - 8 * (k + 1) by omega]
      refine ih (k + 1) σ5 (by omega) (by omega) (by omega) ?_ ?_ (fun q q0 q1 => ?_)
      · rw [← e5]; exact (hF.trans F1).trans (Fr.w (by decide) (Or.inr ⟨rfl, rfl⟩))
      · rw [← e5, rI_ww (by omega)]; omega
      · rw [← e5, rI_wa (by decide), ← e1]
        by_cases c : q = k
        · rw [c, rI_ww eb]
        · rw [rI_wi (by omega)]; exact ho q q0 (by omega)
  have := loop 4 0 σ rfl (by omega) (by omega) (Fr.refl _ _) (by omega) (fun q a b => by omega)
  exact this
theorem s_feed {a b c e f m : Int} (hG : G σ u) (ra : inR a) (rb : inR b) (rc : inR c) (re : inR e) (rf : inR f) (hm : rI σ 1 1 = m) (hb : 0 ≤ m ∧ m ≤ 600) : TI sc (d + 2) mX9_feed [.ref 0, .int (nZ a), .int (nZ b), .int (nZ c), .int (nZ e), .int (nZ f)] σ (fun r σ1 => (600 < m + 20 → r = -1 ∧ σ1 = σ) ∧ (m + 20 ≤ 600 → r = m + 20 ∧ Fr (AF m) σ σ1 ∧ rI σ1 1 1 = m + 20 ∧ ∀ k : Int, 0 ≤ k → k < 20 → rI σ1 2 (m + k) = sB (FeB a b c e f k))) := by
  apply T.int
  apply t_X9_feed hG ra rb rc re rf
  rw [hm]
  refine ⟨by omega, fun q => ?_, fun q => ⟨-1, rfl, by decide, fun _ => ⟨rfl, rfl⟩, fun z => by omega⟩⟩
  obtain ⟨σ1, he1, F1, t1, o1⟩ := s_append (sc := sc) (d := d) (x := a) hG ra hm (by omega)
  obtain ⟨σ2, he2, F2, t2, o2⟩ := s_append (sc := sc) (d := d) (x := b) (F1.g hG) rb t1 (by omega)
  have G2 := F2.g (F1.g hG)
  obtain ⟨σ3, he3, F3, t3, o3⟩ := s_append (sc := sc) (d := d) (x := c) G2 rc t2 (by omega)
  obtain ⟨σ4, he4, F4, t4, o4⟩ := s_append (sc := sc) (d := d) (x := e) (F3.g G2) re t3 (by omega)
  obtain ⟨σ5, he5, F5, t5, o5⟩ := s_append (sc := sc) (d := d) (x := f) (F4.g (F3.g G2)) rf t4 (by omega)
  have wk : ∀ (j : Int), 0 ≤ j → ∀ (x : Nat) (i : Int), AF (m + j) x i → AF m x i := fun j j0 x i z => by
    have z1 : (x = 2 ∧ m + j ≤ i) ∨ (x = 1 ∧ i = 1) := z
    show (x = 2 ∧ m ≤ i) ∨ (x = 1 ∧ i = 1)
    omega
  have no : ∀ (j i : Int), i < j → ¬ AF j 2 i := fun j i h z => by
    have z1 : (2 = 2 ∧ j ≤ i) ∨ (2 = 1 ∧ i = 1) := z
    omega
  refine ⟨σ1, he1, F1.g hG, σ2, he2, G2, σ3, he3, F3.g G2, σ4, he4, F4.g (F3.g G2), σ5, he5, F5.g (F4.g (F3.g G2)), rI σ5 1 1, rfl, by omega, fun z => by omega, fun _ => ⟨by omega, ?_, by omega, fun k k0 k1 => ?_⟩⟩
  · exact (((F1.trans (F2.weak (wk 4 (by omega)))).trans (F3.weak (fun x i z => wk 8 (by omega) x i (by rw [show m + 8 = m + 4 + 4 by omega]; exact z)))).trans (F4.weak (fun x i z => wk 12 (by omega) x i (by rw [show m + 12 = m + 4 + 4 + 4 by omega]; exact z)))).trans (F5.weak (fun x i z => wk 16 (by omega) x i (by rw [show m + 16 = m + 4 + 4 + 4 + 4 by omega]; exact z)))
  · have fin : ∀ (y j : Int), arg5 a b c e f k = y → k % 4 = j → sB (y / 2 ^ (24 - 8 * j).toNat % 256) = sB (FeB a b c e f k) := fun y j h1 h2 => by
      unfold FeB; rw [h1, h2]
    by_cases c1 : k < 4
    · rw [F5.rw (by omega) (no _ _ (by omega)), F4.rw (by omega) (no _ _ (by omega)), F3.rw (by omega) (no _ _ (by omega)), F2.rw (by omega) (no _ _ (by omega)), o1 k k0 c1]
      exact fin a k (if_pos c1) (by omega)
    · by_cases c2 : k < 8
      · rw [F5.rw (by omega) (no _ _ (by omega)), F4.rw (by omega) (no _ _ (by omega)), F3.rw (by omega) (no _ _ (by omega)), show m + k = m + 4 + (k - 4) by omega, o2 (k - 4) (by omega) (by omega)]
        exact fin b _ (by unfold arg5; rw [if_neg c1, if_pos c2]) (by omega)
      · by_cases c3 : k < 12
        · rw [F5.rw (by omega) (no _ _ (by omega)), F4.rw (by omega) (no _ _ (by omega)), show m + k = m + 4 + 4 + (k - 8) by omega, o3 (k - 8) (by omega) (by omega)]
          exact fin c _ (by unfold arg5; rw [if_neg c1, if_neg c2, if_pos c3]) (by omega)
        · by_cases c4 : k < 16
          · rw [F5.rw (by omega) (no _ _ (by omega)), show m + k = m + 4 + 4 + 4 + (k - 12) by omega, o4 (k - 12) (by omega) (by omega)]
            exact fin e _ (by unfold arg5; rw [if_neg c1, if_neg c2, if_neg c3, if_pos c4]) (by omega)
          · rw [show m + k = m + 4 + 4 + 4 + 4 + (k - 16) by omega, o5 (k - 16) (by omega) (by omega)]
            exact fin f _ (by unfold arg5; rw [if_neg c1, if_neg c2, if_neg c3, if_neg c4]) (by omega)
theorem j_feed {a b c g f : Int} (hJ : J σ u v n W H D Es Er du fo N) (hN : 0 ≤ N ∧ N ≤ 1000) (ra : inR a) (rb : inR b) (rc : inR c) (re : inR g) (rf : inR f) : JD sc (d + 12) mX9_feed mX10_feed [.int (nZ a), .int (nZ b), .int (nZ c), .int (nZ g), .int (nZ f)] σ N := by
  have hC := hJ.2.2.1
  have hmk : u = 39 ∨ u = 60 := hJ.mk
  have hvk := hJ.vk
  have hS := hJ.2.2.2.2.1
  have hm := hS.2.2.2.2.2.1
  obtain ⟨m, em⟩ : ∃ m : Int, m = rI σ 1 1 := ⟨_, rfl⟩
  have hb : 0 ≤ m ∧ m ≤ 600 := by rw [em]; exact hm.2
  refine JD.gen (CP := fun r σ1 => (600 < m + 20 → r = -1 ∧ σ1 = σ) ∧ (m + 20 ≤ 600 → r = m + 20 ∧ Fr (AF m) σ σ1 ∧ rI σ1 1 1 = m + 20 ∧ ∀ k : Int, 0 ≤ k → k < 20 → rI σ1 2 (m + k) = sB (FeB a b c g f k))) (RP := fun τ r σ2 => (600 < m + 20 → r = -1 ∧ Fr A0 τ σ2) ∧ (m + 20 ≤ 600 → r = m + 20 ∧ Fr (fun x i => (x = 77 ∧ m ≤ i) ∨ (x = 76 ∧ (i = 0 ∨ i = 1))) τ σ2 ∧ rI σ2 76 1 = m + 20 ∧ ∀ k : Int, 0 ≤ k → k < 20 → rI σ2 77 (m + k) = FeB a b c g f k) ∧ rI σ2 76 0 = 0) hJ hN ?_ (fun r σ1 z => ?_) (fun τ hR hτ => ?_) (fun r r2 σ1 σ2 cp rp => ?_)
  · exact s_feed (sc := sc) (d := d + 10) hJ.1 ra rb rc re rf em.symm hb
  · by_cases q : m + 20 ≤ 600
    · exact ⟨AF m, (z.2 q).2.1, fun x i p y => by have y1 : (x = 2 ∧ m ≤ i) ∨ (x = 1 ∧ i = 1) := y; omega⟩
    · rw [(z.1 (by omega)).2]; exact ⟨fun _ _ => False, Fr.refl _ _, fun _ _ _ y => y⟩
  · exact m_feed (sc := sc) (d := d + 11) hR.1 ra rb rc re rf (by rw [hτ 76 1 (by decide) (by decide), hm.1, em]) hb
  · obtain ⟨c1, c2⟩ := cp
    obtain ⟨r1, r3, r0⟩ := rp
    by_cases q : m + 20 ≤ 600
    · obtain ⟨er, h1, t1, o1⟩ := c2 q
      obtain ⟨er2, h2, t2, o2⟩ := r3 q
      have hF := h1.over0 h2
      have e : ∀ (x : Nat) (i : Int), 0 ≤ i → ¬ (((x = 2 ∧ m ≤ i) ∨ (x = 1 ∧ i = 1)) ∨ ((x = 77 ∧ m ≤ i) ∨ (x = 76 ∧ (i = 0 ∨ i = 1)))) → rI (ov σ σ2) x i = rI σ x i := fun x i p z => hF.rw p z
      have no : ∀ (x : Nat) (i : Int), ¬ (((x = 2 ∧ m ≤ i) ∨ (x = 1 ∧ i = 1)) ∨ ((x = 77 ∧ m ≤ i) ∨ (x = 76 ∧ (i = 0 ∨ i = 1)))) → ¬ (AF m x i ∨ ((x = 77 ∧ m ≤ i) ∨ (x = 76 ∧ (i = 0 ∨ i = 1)))) := fun x i z => z
      have k1 : rI (ov σ σ2) 1 1 = m + 20 := (h2.rw (by decide) (by show ¬ ((1 = 77 ∧ m ≤ (1 : Int)) ∨ (1 = 76 ∧ ((1 : Int) = 0 ∨ (1 : Int) = 1))); omega)).trans t1
      have k2 : rI (ov σ σ2) 76 1 = m + 20 := t2
      have n2 : ∀ i : Int, 0 ≤ i → rI (ov σ σ2) 2 i = rI σ1 2 i := fun i p => h2.rw p (by show ¬ ((2 = 77 ∧ m ≤ i) ∨ (2 = 76 ∧ (i = 0 ∨ i = 1))); omega)
      refine ⟨by omega, ⟨_, h2⟩, _, hJ.upd0 hF (fun x i z => no x i (by omega)) (fun x i z => no x i (by omega)) (by rw [e u 9 (by decide) (by omega)]; exact hC.2.1.2.2.2) ?_ (hJ.2.2.2.2.2.congr hS.2.2.2.2.1.2.2 (fun x i p z => e x i p (by omega)))⟩
      obtain ⟨s1, s2, s3, s4, s5, s6, s7, s8, s9, s10⟩ := hS
      unfold SC
      rw [k1, k2]
      rw [e 80 5 (by decide) (by omega), e u 7 (by decide) (by omega), e u 8 (by decide) (by omega), e u 9 (by decide) (by omega), e 76 18 (by decide) (by omega), e 76 19 (by decide) (by omega), e 76 20 (by decide) (by omega), e 76 21 (by decide) (by omega), e 76 3 (by decide) (by omega), e 26 12 (by decide) (by omega), e 3 6 (by decide) (by omega), e 1 5 (by decide) (by omega), e 78 0 (by decide) (by omega), e 78 1 (by decide) (by omega), e 0 7 (by decide) (by omega), e 0 8 (by decide) (by omega)]
      refine ⟨s1, s2, s3, s4, s5, ⟨rfl, by omega, by omega⟩, s7, fun k k0 k3 => ?_, by omega, by omega⟩
      by_cases ck : k < m
      · rw [e 77 k k0 (by omega), e 2 k k0 (by omega)]; exact s8 k k0 (by omega)
      · have a1 : rI (ov σ σ2) 77 k = FeB a b c g f (k - m) := by
          have := o2 (k - m) (by omega) (by omega)
          rw [show m + (k - m) = k by omega] at this; exact this
        have a2 : rI (ov σ σ2) 2 k = sB (FeB a b c g f (k - m)) := by
          have := o1 (k - m) (by omega) (by omega)
          rw [show m + (k - m) = k by omega] at this; exact (n2 k k0).trans this
        rw [a1, a2]
        refine ⟨?_, rfl⟩
        unfold FeB; omega
    · obtain ⟨er, h1⟩ := c1 (by omega)
      obtain ⟨er2, h2⟩ := r1 (by omega)
      subst h1
      have h3 : Fr (fun x i => x = 76 ∧ i = 0) σ1 (ov σ1 σ2) := ⟨⟨rfl, rfl, rfl⟩, h2.2⟩
      have e : ∀ (x : Nat) (i : Int), 0 ≤ i → ¬ (x = 76 ∧ i = 0) → rI (ov σ1 σ2) x i = rI σ1 x i := fun x i p z => h3.rw p z
      refine ⟨by omega, ⟨_, h2⟩, _, hJ.upd0 h3 (fun x i z => by omega) (fun x i z => by omega) (by rw [e u 9 (by decide) (by omega)]; exact hC.2.1.2.2.2) ((hS.congr (fun x i p z => e x i p (by omega))).more (by omega)) (hJ.2.2.2.2.2.congr hS.2.2.2.2.1.2.2 (fun x i p z => e x i p (by omega)))⟩
theorem KV_f {m : Nat → Int → Int} {i f : Int} (h0 : 0 ≤ i) (hf : 0 ≤ f ∧ f ≤ 2) : KV m (2 + f + 4 * i) = m (91 + i.toNat) f := by
  unfold KV
  rw [if_neg (by omega), if_neg (by omega), if_neg (by omega), show (2 + f + 4 * i - 2) / 4 = i by omega, show (2 + f + 4 * i - 2) % 4 = f by omega]
theorem KV_c {m : Nat → Int → Int} {i : Int} (h0 : 0 ≤ i) : KV m (5 + 4 * i) = m 184 i := by
  unfold KV
  rw [if_neg (by omega), if_neg (by omega), if_pos (by omega), show (5 + 4 * i - 2) / 4 = i by omega]
end
