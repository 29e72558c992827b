/-! PLAY: rounds of wishes. -/
/-- as Fr, but the longs of row 59 may have changed too -/
def FrJ (A : Nat → Int → Prop) (σ σ1 : aH) : Prop := (σ1.1 = σ.1 ∧ σ1.2.1 = σ.2.1 ∧ σ1.2.2.2.2 = σ.2.2.2.2) ∧ (∀ (a : Nat) (i : Int), a ≠ 59 → rJ σ1 a i = rJ σ a i) ∧ ∀ (a : Nat) (i : Int), 0 ≤ i → ¬ A a i → rI σ1 a i = rI σ a i
theorem Sm.rj {σ σ1 : aH} (h : Sm σ σ1) (a : Nat) (i : Int) : rJ σ1 a i = rJ σ a i := by
  unfold rJ gJ; rw [h.2.2]
theorem Fr.j {A : Nat → Int → Prop} {σ σ1 : aH} (h : Fr A σ σ1) : FrJ A σ σ1 := ⟨⟨h.1.1, h.1.2.1, by rw [h.1.2.2]⟩, fun a i _ => h.1.rj a i, h.2⟩
theorem FrJ.refl (A : Nat → Int → Prop) (σ : aH) : FrJ A σ σ := (Fr.refl A σ).j
theorem FrJ.trans {A : Nat → Int → Prop} {σ σ1 σ2 : aH} (h : FrJ A σ σ1) (k : FrJ A σ1 σ2) : FrJ A σ σ2 := ⟨⟨k.1.1.trans h.1.1, k.1.2.1.trans h.1.2.1, k.1.2.2.trans h.1.2.2⟩, fun a i c => (k.2.1 a i c).trans (h.2.1 a i c), fun a i h0 hn => (k.2.2 a i h0 hn).trans (h.2.2 a i h0 hn)⟩
theorem FrJ.weak {A B : Nat → Int → Prop} {σ σ1 : aH} (h : FrJ A σ σ1) (k : ∀ a i, A a i → B a i) : FrJ B σ σ1 := ⟨h.1, h.2.1, fun a i h0 hn => h.2.2 a i h0 (fun q => hn (k a i q))⟩
theorem FrJ.rw {A : Nat → Int → Prop} {σ σ1 : aH} {a : Nat} {i : Int} (h : FrJ A σ σ1) (h0 : 0 ≤ i) (hn : ¬ A a i) : rI σ1 a i = rI σ a i := h.2.2 a i h0 hn
theorem FrJ.g {A : Nat → Int → Prop} {σ σ1 : aH} {u : Nat} (h : FrJ A σ σ1) (hG : G σ u) : G σ1 u := by
  obtain ⟨h1, h2, h3, h4, h5⟩ := hG
  obtain ⟨⟨k1, k2, k3⟩, -, -⟩ := h
  refine ⟨k1.trans h1, ?_, ?_, ?_, h5⟩
  · unfold gN at h2 ⊢; rw [k3]; exact h2
  · unfold gM at h3 ⊢; rw [k2]; exact h3
  · unfold gM at h4 ⊢; rw [k2]; exact h4
theorem FrJ.row {A : Nat → Int → Prop} {σ σ1 : aH} {a : Nat} (h : FrJ A σ σ1) (hA : ∀ i : Int, ¬ A a i) : rI σ1 a = rI σ a := by
  funext i
  by_cases c : 0 ≤ i
  · exact h.rw c (hA i)
  · rw [rI_neg σ1 a (by omega), rI_neg σ a (by omega)]; exact h.rw (by omega) (hA 0)
theorem FrJ.wj {A : Nat → Int → Prop} {σ : aH} {i x : Int} : FrJ A σ (wJ σ 59 i x) := by
  refine ⟨⟨rfl, rfl, rfl⟩, fun a j hne => ?_, fun _ _ _ _ => rfl⟩
  unfold rJ wJ gJ sJ va_up
  simp [hne]
theorem Cx.frJ {A : Nat → Int → Prop} {σ τ : aH} {u : Nat} {n : Int} {S F F1 : Int → Int} (h : Cx σ u n S F F1) (hF : FrJ A σ τ) (h1 : ¬ A (u + 1) 8) (h2 : ¬ A u 9) (h3 : ∀ i : Int, ¬ A 29 i) (h4 : ∀ i : Int, ¬ A 30 i) (hB : StB (Dc (rI τ) u) n) : Cx τ u n S F F1 := by
  obtain ⟨hG, hSh, hW, r⟩ := h
  refine ⟨hF.g hG, ⟨(hF.rw (by omega) h1).trans hSh.1, hSh.2.1, hB, ?_⟩, ?_, r⟩
  · rw [hF.rw (by omega) h2]; exact hSh.2.2.2
  · intro s s0 s1
    have e1 : rI τ (28 + 1) s = rI σ (28 + 1) s := hF.rw s0 (h3 s)
    have e2 : rI τ (28 + 2) s = rI σ (28 + 2) s := hF.rw s0 (h4 s)
    rw [e1, e2]; exact hW s s0 s1
/-! all heights in one number -/
theorem nJ_nat (x : Int) : (nJ x).toBitVec.toNat = (x % 18446744073709551616).toNat := BitVec.toNat_ofInt (n := 64) x
theorem zL6 {y h : Int} (y0 : 0 ≤ y) (y1 : y < 18014398509481984) (h0 : 0 ≤ h ∧ h < 64) : zLor (zLsh y 6) h = 64 * y + h := by
  have e6 : ((nZ 6).toInt64 &&& 63).toBitVec.smod 64 = 6#64 := by decide +kernel
  have e1 : (nJ y <<< ((nZ 6).toInt64 &&& 63)).toBitVec.toNat = 64 * y.toNat := by
    show ((nJ y).toBitVec <<< (((nZ 6).toInt64 &&& 63).toBitVec.smod 64)).toNat = _
    rw [e6, BitVec.shiftLeft_eq', BitVec.toNat_shiftLeft, nJ_nat]
    show ((y % 18446744073709551616).toNat <<< 6) % 18446744073709551616 = _
    rw [Nat.shiftLeft_eq]; omega
  have e2 : zLsh y 6 = 64 * y := by
    show (nJ y <<< ((nZ 6).toInt64 &&& 63)).toBitVec.toInt = _
    rw [BitVec.toInt_eq_toNat_of_lt (by rw [e1]; omega), e1]; omega
  rw [e2]
  have e3 : (nJ (64 * y) ||| nJ h).toBitVec.toNat = 64 * y.toNat + h.toNat := by
    rw [Int64.toBitVec_or, BitVec.toNat_or, nJ_nat, nJ_nat, (by omega : (64 * y % 18446744073709551616).toNat = 2 ^ 6 * y.toNat), (by omega : (h % 18446744073709551616).toNat = h.toNat)]
    exact (Nat.two_pow_add_eq_or_of_lt (i := 6) (by omega) y.toNat).symm
  show (nJ (64 * y) ||| nJ h).toBitVec.toInt = _
  rw [BitVec.toInt_eq_toNat_of_lt (by rw [e3]; omega), e3]; omega
def hv (h : Int → Int) : Nat → Int
  | 0 => 0
  | k + 1 => 64 * hv h k + h k
theorem hv_bd {h : Int → Int} : ∀ {k : Nat}, (∀ i : Int, 0 ≤ i → i < k → 0 ≤ h i ∧ h i ≤ 60) → 0 ≤ hv h k ∧ hv h k < 64 ^ k
  | 0, _ => by show (0 : Int) ≤ 0 ∧ (0 : Int) < 1; decide
  | k + 1, hb => by
    have h1 := hv_bd (k := k) (fun i i0 i1 => hb i i0 (by omega))
    have h2 := hb k (by omega) (by omega)
    show 0 ≤ 64 * hv h k + h k ∧ 64 * hv h k + h k < 64 ^ k * 64
    omega
theorem hv_inj {h g : Int → Int} : ∀ {k : Nat}, (∀ i : Int, 0 ≤ i → i < k → 0 ≤ h i ∧ h i ≤ 60) → (∀ i : Int, 0 ≤ i → i < k → 0 ≤ g i ∧ g i ≤ 60) → hv h k = hv g k → ∀ i : Int, 0 ≤ i → i < k → h i = g i
  | 0, _, _, _ => fun i i0 i1 => by omega
  | k + 1, hb, gb, e => by
    have a := hb k (by omega) (by omega)
    have b := gb k (by omega) (by omega)
    have e2 : 64 * hv h k + h k = 64 * hv g k + g k := e
    have ih := hv_inj (k := k) (h := h) (g := g) (fun i i0 i1 => hb i i0 (by omega)) (fun i i0 i1 => gb i i0 (by omega)) (by omega)
    intro i i0 i1
    by_cases c : i = k
    · rw [c]; omega
    · exact ih i i0 (by omega)
theorem hv_congr {h g : Int → Int} : ∀ {k : Nat}, (∀ i : Int, 0 ≤ i → i < k → h i = g i) → hv h k = hv g k
  | 0, _ => rfl
  | k + 1, e => by
    show 64 * hv h k + h k = 64 * hv g k + g k
    rw [hv_congr (k := k) (fun i i0 i1 => e i i0 (by omega)), e k (by omega) (by omega)]
/-! wishes are one; rounds -/
theorem WishS.uniq {D : Nat → Int → Int} {n gone w s r q : Int} {S F F1 : Int → Int} (h : WishS D n gone w S F F1 s r) (k : WishS D n gone w S F F1 s q) : r = q := by
  obtain ⟨v, h⟩ := h
  obtain ⟨v1, k⟩ := k
  exact (h.uniq k).2
theorem WishS.congr {D D1 : Nat → Int → Int} {n gone w s r : Int} {S F F1 : Int → Int} (hD : Deq n D D1) (hs : 0 ≤ s ∧ s < n) (h : WishS D n gone w S F F1 s r) : WishS D1 n gone w S F F1 s r := by
  obtain ⟨v, h⟩ := h
  refine ⟨v, h.congr (fun c => ?_) (fun c _ => ?_)⟩
  · unfold wTo; rw [hD 5 s (by decide) hs.1 hs.2, hD 2 s (by decide) hs.1 hs.2]
  · rw [(hD.set 2 s c).gain hs]
noncomputable def wishV (n gone w : Int) (S F F1 : Int → Int) (D : Nat → Int → Int) (s : Int) : Int := Classical.epsilon (fun r => WishS D n gone w S F F1 s r)
theorem WishS.eq {D : Nat → Int → Int} {n gone w s r : Int} {S F F1 : Int → Int} (h : WishS D n gone w S F F1 s r) : r = wishV n gone w S F F1 D s := h.uniq (Classical.epsilon_spec (p := fun r => WishS D n gone w S F F1 s r) ⟨r, h⟩)
theorem wishV_congr {D D1 : Nat → Int → Int} {n gone w s : Int} {S F F1 : Int → Int} (hD : Deq n D D1) (hs : 0 ≤ s ∧ s < n) : wishV n gone w S F F1 D1 s = wishV n gone w S F F1 D s := by
  have e : (fun r => WishS D1 n gone w S F F1 s r) = (fun r => WishS D n gone w S F F1 s r) := funext (fun r => propext ⟨fun h => h.congr hD.symm hs, fun h => h.congr hD hs⟩)
  unfold wishV; rw [e]
noncomputable def RnD (n gone w : Int) (S F F1 : Int → Int) (D : Nat → Int → Int) : Nat → (Nat → Int → Int)
  | 0 => D
  | k + 1 => Dset (RnD n gone w S F F1 D k) 2 k (wishV n gone w S F F1 (RnD n gone w S F F1 D k) k)
noncomputable def PlD (n gone w : Int) (S F F1 : Int → Int) (D : Nat → Int → Int) : Nat → (Nat → Int → Int)
  | 0 => D
  | k + 1 => RnD n gone w S F F1 (PlD n gone w S F F1 D k) n.toNat
theorem RnD_congr {D D1 : Nat → Int → Int} {n gone w : Int} {S F F1 : Int → Int} (hD : Deq n D D1) : ∀ k : Nat, (k : Int) ≤ n → Deq n (RnD n gone w S F F1 D k) (RnD n gone w S F F1 D1 k)
  | 0, _ => hD
  | k + 1, h => by
    have ih := RnD_congr hD (gone := gone) (w := w) (S := S) (F := F) (F1 := F1) k (by omega)
    show Deq n (Dset _ 2 k _) (Dset _ 2 k _)
    rw [wishV_congr ih ⟨by omega, by omega⟩]
    exact ih.set 2 k _
theorem PlD_congr {D D1 : Nat → Int → Int} {n gone w : Int} {S F F1 : Int → Int} (hn : 0 ≤ n) (hD : Deq n D D1) : ∀ k : Nat, Deq n (PlD n gone w S F F1 D k) (PlD n gone w S F F1 D1 k)
  | 0 => hD
  | k + 1 => RnD_congr (PlD_congr hn hD k) n.toNat (by omega)
/-- the heights of the first n are the same -/
def Heq (n : Int) (D D1 : Nat → Int → Int) : Prop := ∀ i : Int, 0 ≤ i → i < n → D1 2 i = D 2 i
theorem Heq.symm {n : Int} {D D1 : Nat → Int → Int} (h : Heq n D D1) : Heq n D1 D := fun i a b => (h i a b).symm
theorem Heq_congr {n : Int} {A A1 B B1 : Nat → Int → Int} (ha : Deq n A A1) (hb : Deq n B B1) : Heq n A B ↔ Heq n A1 B1 := by
  constructor
  · intro h i a b; rw [ha 2 i (by decide) a b, hb 2 i (by decide) a b]; exact h i a b
  · intro h i a b; rw [← ha 2 i (by decide) a b, ← hb 2 i (by decide) a b]; exact h i a b
/-- the play over the rounds P: it ends with r behind round m -/
def PlayS (P : Nat → Nat → Int → Int) (n r : Int) (m : Nat) : Prop := (1 ≤ m ∧ m ≤ 20) ∧ (∀ q : Nat, 1 ≤ q → q < m → ∀ p : Nat, p < q → ¬ Heq n (P q) (P p)) ∧ (m = 20 ∨ ∃ p : Nat, p < m ∧ Heq n (P m) (P p)) ∧ ((r = 1 ∧ Heq n (P m) (P (m - 1))) ∨ (r = 0 ∧ ¬ Heq n (P m) (P (m - 1))))
theorem PlayS.uniq {P : Nat → Nat → Int → Int} {n r q : Int} {m l : Nat} (h : PlayS P n r m) (k : PlayS P n q l) : m = l ∧ r = q := by
  obtain ⟨h1, h2, h3, h4⟩ := h
  obtain ⟨k1, k2, k3, k4⟩ := k
  have e : m = l := by
    by_cases c : m < l
    · rcases h3 with h3 | ⟨p, p1, p2⟩
      · omega
      · exact absurd p2 (k2 m h1.1 c p p1)
    · by_cases c2 : l < m
      · rcases k3 with k3 | ⟨p, p1, p2⟩
        · omega
        · exact absurd p2 (h2 l k1.1 c2 p p1)
      · omega
  subst e
  refine ⟨rfl, ?_⟩
  rcases h4 with ⟨a, b⟩ | ⟨a, b⟩ <;> rcases k4 with ⟨a1, b1⟩ | ⟨a1, b1⟩
  · omega
  · exact absurd b b1
  · exact absurd b1 b
  · omega
theorem PlayS.congr {P P1 : Nat → Nat → Int → Int} {n r : Int} {m : Nat} (e : ∀ k : Nat, Deq n (P k) (P1 k)) (h : PlayS P n r m) : PlayS P1 n r m := by
  obtain ⟨h1, h2, h3, h4⟩ := h
  refine ⟨h1, fun q a b p c d => h2 q a b p c ((Heq_congr (e q) (e p)).mpr d), ?_, ?_⟩
  · rcases h3 with h3 | ⟨p, a, b⟩
    · exact Or.inl h3
    · exact Or.inr ⟨p, a, (Heq_congr (e m) (e p)).mp b⟩
  · rcases h4 with ⟨a, b⟩ | ⟨a, b⟩
    · exact Or.inl ⟨a, (Heq_congr (e m) (e _)).mp b⟩
    · exact Or.inr ⟨a, fun c => b ((Heq_congr (e m) (e _)).mpr c)⟩
section
variable {sc : Nat × (Nat → Int32)} {d : Nat} {σ : aH} {u : Nat} {n : Int} {S F F1 : Int → Int}
theorem s_heights (hG : G σ u) (hSh : Sh σ u n) : Ev sc (d + 2) mX4_heights [.ref 26] σ (.inl (some (.long (nJ (hv (rI σ (u + 4)) n.toNat))))) σ := by
  obtain ⟨hn, h0, hS, -⟩ := hSh
  have h9 := hS.1
  apply T.ev
  apply t_X4_heights hG
  refine ⟨σ, s_stalls hG, hG, ?_⟩
  have hb : ∀ k : Nat, (k : Int) ≤ n → ∀ i : Int, 0 ≤ i → i < k → 0 ≤ rI σ (u + 4) i ∧ rI σ (u + 4) i ≤ 60 := fun k hk i i0 i1 => (hS.at i0 (by omega)).2.2.1
  have pb : ∀ k : Nat, k ≤ 9 → (64 : Int) ^ k ≤ 18014398509481984 := by decide +kernel
  have loop : ∀ (g k : Nat), n.toNat - k = g → (k : Int) ≤ n → L_X4_heights_10 (Ev sc (d + 1)) sc (fun o2 σ2 => o2 = .inl (some (.long (nJ (hv (rI σ (u + 4)) n.toNat)))) ∧ σ2 = σ) u (hv (rI σ (u + 4)) k) (k : Int) σ := by
    intro g
    induction g with
    | zero =>
      intro k hg hk
      have e : k = n.toNat := by omega
      have b := hv_bd (hb k hk)
      have b2 := pb k (by omega)
      apply v_X4_heights_10 hG (by omega) (by omega)
      exact ⟨fun _ => ⟨by rw [e], rfl⟩, fun q => by omega⟩
    | succ g ih =>
      intro k hg hk
      have b := hv_bd (hb k hk)
      have b2 := pb k (by omega)
      have b3 := (hS.at (show (0 : Int) ≤ (k : Int) by omega) (by omega)).2.2.1
      apply v_X4_heights_10 hG (by omega) (by omega)
      refine ⟨fun q => by omega, fun _ => ⟨by omega, fun z e => ⟨by omega, ?_⟩⟩⟩
      have b4 := pb (k + 1) (by omega)
      rw [zL6 b.1 (by omega) (by omega)] at e
      have := ih (k + 1) (by omega) (by omega)
      rw [e]; exact this
  exact loop _ 0 rfl (by omega)
theorem s_isSeenBefore {x : Int} (hG : G σ u) (hx : 0 ≤ x ∧ x < 21) : TI sc (d + 1) mX4_isSeenBefore [.ref 26, .int (nZ x)] σ (fun r σ1 => σ1 = σ ∧ ((r = 1 ∧ ∃ q : Int, 0 ≤ q ∧ q < x ∧ rJ σ 59 q = rJ σ 59 x) ∨ (r = 0 ∧ ∀ q : Int, 0 ≤ q → q < x → rJ σ 59 q ≠ rJ σ 59 x))) := by
  apply T.int
  apply t_X4_isSeenBefore hG (by omega)
  obtain ⟨P, hP⟩ : ∃ P : aO → aH → Prop, P = QI (fun r σ1 => σ1 = σ ∧ ((r = 1 ∧ ∃ q : Int, 0 ≤ q ∧ q < x ∧ rJ σ 59 q = rJ σ 59 x) ∨ (r = 0 ∧ ∀ q : Int, 0 ≤ q → q < x → rJ σ 59 q ≠ rJ σ 59 x))) := ⟨_, rfl⟩
  rw [← hP]
  have loop : ∀ (g : Nat) (k : Int), (x - k).toNat = g → 0 ≤ k → k ≤ x → (∀ q : Int, 0 ≤ q → q < k → rJ σ 59 q ≠ rJ σ 59 x) → L_X4_isSeenBefore_2 (Ev sc d) sc P x k σ := by
    intro g
    induction g with
    | zero =>
      intro k hg k0 k1 hq
      apply v_X4_isSeenBefore_2 hG (by omega) (by omega)
      refine ⟨fun _ => ?_, fun q => by omega⟩
      rw [hP]; exact ⟨0, rfl, by decide, rfl, Or.inr ⟨rfl, fun q a b => hq q a (by omega)⟩⟩
    | succ g ih =>
      intro k hg k0 k1 hq
      apply v_X4_isSeenBefore_2 hG (by omega) (by omega)
      refine ⟨fun q => by omega, fun _ => ⟨by omega, by omega, fun c => ⟨by omega, ?_⟩, fun c => ?_⟩⟩
      · refine ih (k + 1) (by omega) (by omega) (by omega) (fun q a b => ?_)
        by_cases e : q = k
        · rw [e]
          intro e2
          rw [if_neg (by omega), if_pos e2] at c
          exact c rfl
        · exact hq q a (by omega)
      · rw [hP]
        refine ⟨1, rfl, by decide, rfl, Or.inl ⟨rfl, k, k0, by omega, ?_⟩⟩
        by_cases e2 : rJ σ 59 k = rJ σ 59 x
        · exact e2
        · exfalso
          rw [if_neg e2] at c
          split at c <;> omega
  exact loop _ 0 rfl (by omega) (by omega) (fun q a b => by omega)
theorem RnD_ne {gone w : Int} {D : Nat → Int → Int} : ∀ (k : Nat) {f : Nat} {i : Int}, ¬ (f = 2 ∧ i.toNat < k) → RnD n gone w S F F1 D k f i = D f i
  | 0, _, _, _ => rfl
  | k + 1, f, i, h => by
    show Dset _ 2 k _ f i = _
    rw [Dset_ne (by omega)]
    exact RnD_ne k (by omega)
theorem RnD_tn {gone w : Int} {D : Nat → Int → Int} (hD : ∀ (f : Nat) (i : Int), D f i = D f (i.toNat : Int)) : ∀ (k : Nat) (f : Nat) (i : Int), RnD n gone w S F F1 D k f i = RnD n gone w S F F1 D k f (i.toNat : Int)
  | 0, f, i => hD f i
  | k + 1, f, i => by
    have ih := RnD_tn (gone := gone) (w := w) hD k f i
    show Dset _ 2 k _ f i = Dset _ 2 k _ f _
    unfold Dset
    rw [ih]; rfl
theorem s_playRound (hC : Cx σ u n S F F1) (hg : Hg (Dc (rI σ) u) n) : TI sc (d + 5) mX4_playRound [.ref 26] σ (fun r σ1 => Fr (fun a _ => a = u + 4) σ σ1 ∧ Dc (rI σ1) u = RnD n (rI σ (u + 1) 9) (1 + rI σ u 9) S F F1 (Dc (rI σ) u) n.toNat ∧ StB (Dc (rI σ1) u) n ∧ ((r = 0 ∧ Heq n (Dc (rI σ) u) (Dc (rI σ1) u)) ∨ (r = 1 ∧ ¬ Heq n (Dc (rI σ) u) (Dc (rI σ1) u)))) := by
  have hm := hC.mk
  have hn9 := hC.n9
  have hSt := hC.2.1.2.2.1
  apply T.int
  apply t_X4_playRound hC.1
  refine ⟨σ, s_stalls hC.1, hC.1, ?_⟩
  obtain ⟨D, hD⟩ : ∃ D : Nat → Int → Int, D = Dc (rI σ) u := ⟨_, rfl⟩
  have hDn : ∀ (f : Nat) (i : Int), D f i = D f (i.toNat : Int) := fun f i => by rw [hD]; exact Dc_tn _ _ _ _
  rw [← hD] at hSt hg
  rw [← hD]
  obtain ⟨R, hR⟩ : ∃ R : Nat → (Nat → Int → Int), R = RnD n (rI σ (u + 1) 9) (1 + rI σ u 9) S F F1 D := ⟨_, rfl⟩
  have hRs : ∀ k : Nat, R (k + 1) = Dset (R k) 2 k (wishV n (rI σ (u + 1) 9) (1 + rI σ u 9) S F F1 (R k) k) := fun k => by rw [hR]; rfl
  have hRn : ∀ (k : Nat) {f : Nat} {i : Int}, ¬ (f = 2 ∧ i.toNat < k) → R k f i = D f i := fun k f i h => by rw [hR]; exact RnD_ne k h
  have hRt : ∀ (k : Nat) (f : Nat) (i : Int), R k f i = R k f (i.toNat : Int) := fun k => by rw [hR]; exact RnD_tn hDn k
  rw [← hR]
  obtain ⟨P, hP⟩ : ∃ P : aO → aH → Prop, P = QI (fun r σ1 => Fr (fun a _ => a = u + 4) σ σ1 ∧ Dc (rI σ1) u = R n.toNat ∧ StB (Dc (rI σ1) u) n ∧ ((r = 0 ∧ Heq n D (Dc (rI σ1) u)) ∨ (r = 1 ∧ ¬ Heq n D (Dc (rI σ1) u)))) := ⟨_, rfl⟩
  rw [← hP]
  have loop : ∀ (g : Nat) (k : Nat) (x2 : Int) (τ : aH), n.toNat - k = g → (k : Int) ≤ n → Fr (fun a _ => a = u + 4) σ τ → Dc (rI τ) u = R k → StB (R k) n → ((x2 = 0 ∧ Heq n D (R k)) ∨ (x2 = 1 ∧ ¬ Heq n D (R k))) → L_X4_playRound_9 (Ev sc (d + 4)) sc P u x2 (k : Int) τ := by
    intro g
    induction g with
    | zero =>
      intro k x2 τ hgk hk hF hDt hB hx
      have hn8 : rI τ (u + 1) 8 = n := (hF.rw (by omega) (by show ¬ (u + 1 = u + 4); omega)).trans hC.2.1.1
      apply v_X4_playRound_9 (hF.g hC.1) (by omega) (by omega)
      refine ⟨fun _ => ⟨by omega, ?_⟩, fun q => by omega⟩
      have e : k = n.toNat := by omega
      rw [hP]
      refine ⟨x2, rfl, by omega, hF, by rw [hDt, e], by rw [hDt]; exact hB, ?_⟩
      rw [hDt]; exact hx
    | succ g ih =>
      intro k x2 τ hgk hk hF hDt hB hx
      have hn8 : rI τ (u + 1) 8 = n := (hF.rw (by omega) (by show ¬ (u + 1 = u + 4); omega)).trans hC.2.1.1
      have hCt : Cx τ u n S F F1 := hC.fr hF (by show ¬ (u + 1 = u + 4); omega) (by show ¬ (u = u + 4); omega) (fun i => by show ¬ (29 = u + 4); omega) (fun i => by show ¬ (30 = u + 4); omega) (by rw [hDt]; exact hB)
      have g9 : rI τ (u + 1) 9 = rI σ (u + 1) 9 := hF.rw (by omega) (by show ¬ (u + 1 = u + 4); omega)
      have w9 : rI τ u 9 = rI σ u 9 := hF.rw (by omega) (by show ¬ (u = u + 4); omega)
      have ht : 0 ≤ rI τ (u + 7) k ∧ rI τ (u + 7) k ≤ 60 := by
        have e : rI τ (u + 7) k = D 5 k := by rw [hF.rw (by omega) (by show ¬ (u + 7 = u + 4); omega), hD]; rfl
        rw [e]; exact (hg k (by omega) (by omega)).2
      obtain ⟨r5, σ1, he, hr, hF1, hD1, hrb, hWs⟩ := s_wishOf (sc := sc) (d := d) (s := (k : Int)) hCt ⟨by omega, by omega⟩ ht
      rw [hDt, g9, w9] at hWs
      have ew := hWs.eq
      have hFs1 : Fr (fun a _ => a = u + 4) σ σ1 := hF.trans (hF1.weak (fun a i q => q.1))
      have hD2 : rI σ1 (u + 4) k = R k 2 k := by
        have := congrFun (congrFun (hD1.trans hDt) 2) k
        exact this
      have hRk : R k 2 k = D 2 k := hRn k (by omega)
      have hBs : StB (R (k + 1)) n := by rw [hRs, ← ew]; exact hB.set2 hrb
      apply v_X4_playRound_9 (hF.g hC.1) (by omega) (by omega)
      refine ⟨fun q => by omega, fun _ => ⟨r5, σ1, he, hFs1.g hC.1, hr, by omega, fun c => ⟨by omega, ?_⟩, fun c => ⟨by omega, fun σ7 e7 => ⟨by omega, ?_⟩⟩⟩⟩
      · have e : R (k + 1) = R k := by
          rw [hRs, ← ew, c, hD2]; exact Dset_own (hRt k)
        have := ih (k + 1) x2 σ1 (by omega) (by omega) hFs1 (by rw [hD1, hDt, e]) hBs (by rw [e]; exact hx)
        exact this
      · have e7' : Dc (rI σ7) u = R (k + 1) := by
          rw [← e7, Dc_wa 2 rfl (by decide) hr, hD1, hDt, hRs, ← ew]
        have := ih (k + 1) 1 σ7 (by omega) (by omega) (by rw [← e7]; exact hFs1.trans (Fr.w (by omega) rfl)) e7' hBs (Or.inr ⟨rfl, fun hq => ?_⟩)
        · exact this
        · have h1 := hq k (by omega) (by omega)
          rw [hRs, Dset_eq rfl, ← ew] at h1
          apply c; rw [hD2, hRk, h1]
  exact loop _ 0 0 σ rfl (by omega) (Fr.refl _ _) (by rw [hR, hD]; rfl) (by rw [hR]; exact hSt) (Or.inl ⟨rfl, by rw [hR]; exact fun _ _ _ => rfl⟩)
/-- what a play may change -/
abbrev APl (u : Nat) : Nat → Int → Prop := fun a i => a = u + 4 ∨ (a = 26 ∧ i = 12)
theorem s_playOut (hC : Cx σ u n S F F1) (hg : Hg (Dc (rI σ) u) n) : TI sc (d + 6) mX4_playOut [.ref 26] σ (fun r σ1 => FrJ (APl u) σ σ1 ∧ ∃ m : Nat, rI σ1 26 12 = m ∧ Dc (rI σ1) u = PlD n (rI σ (u + 1) 9) (1 + rI σ u 9) S F F1 (Dc (rI σ) u) m ∧ StB (Dc (rI σ1) u) n ∧ PlayS (PlD n (rI σ (u + 1) 9) (1 + rI σ u 9) S F F1 (Dc (rI σ) u)) n r m) := by
  have hm := hC.mk
  have hn9 := hC.n9
  have hSt := hC.2.1.2.2.1
  apply T.int
  apply t_X4_playOut hC.1
  obtain ⟨D, hD⟩ : ∃ D : Nat → Int → Int, D = Dc (rI σ) u := ⟨_, rfl⟩
  rw [← hD] at hSt hg
  rw [← hD]
  obtain ⟨R, hR⟩ : ∃ R : Nat → (Nat → Int → Int), R = PlD n (rI σ (u + 1) 9) (1 + rI σ u 9) S F F1 D := ⟨_, rfl⟩
  have hR0 : R 0 = D := by rw [hR]; rfl
  have hRs : ∀ k : Nat, R (k + 1) = RnD n (rI σ (u + 1) 9) (1 + rI σ u 9) S F F1 (R k) n.toNat := fun k => by rw [hR]; rfl
  rw [← hR]
  obtain ⟨P, hP⟩ : ∃ P : aO → aH → Prop, P = QI (fun r σ1 => FrJ (APl u) σ σ1 ∧ ∃ m : Nat, rI σ1 26 12 = m ∧ Dc (rI σ1) u = R m ∧ StB (Dc (rI σ1) u) n ∧ PlayS R n r m) := ⟨_, rfl⟩
  rw [← hP]
  have hv2 : ∀ (τ : aH) (k : Nat), Dc (rI τ) u = R k → rI τ (u + 4) = R k 2 := fun τ k e => by rw [← e]; rfl
  have hgR : ∀ k : Nat, Hg (R k) n := by
    intro k
    induction k with
    | zero => rw [hR0]; exact hg
    | succ k ih =>
      intro i i0 i1
      rw [hRs, RnD_ne n.toNat (f := 4) (by omega), RnD_ne n.toNat (f := 5) (by omega)]
      exact ih i i0 i1
  have nA : ∀ (a : Nat) (i : Int), a ≠ u + 4 → a ≠ 26 → ¬ APl u a i := fun a i p q => by show ¬ (a = u + 4 ∨ (a = 26 ∧ i = 12)); omega
  refine ⟨_, σ, s_heights hC.1 hC.2.1, hC.1, ?_, fun σ6 e6 => ?_⟩
  · have b := hv_bd (k := n.toNat) (h := rI σ (u + 4)) (fun i i0 i1 => (hC.2.1.2.2.1.at i0 (by omega)).2.2.1)
    have pb : ∀ k : Nat, k ≤ 9 → (64 : Int) ^ k ≤ 18014398509481984 := by decide +kernel
    have := pb n.toNat (by omega)
    omega
  have loop : ∀ (g k : Nat) (τ : aH), 20 - k = g → k ≤ 20 → FrJ (APl u) σ τ → Dc (rI τ) u = R k → StB (R k) n → (k = 20 → rI τ 26 12 = 20) → (∀ q : Nat, q ≤ k → rJ τ 59 q = hv (R q 2) n.toNat) → (∀ q : Nat, q ≤ k → StB (R q) n) → (∀ q : Nat, 1 ≤ q → q ≤ k → ∀ p : Nat, p < q → ¬ Heq n (R q) (R p)) → L_X4_playOut_12 (Ev sc (d + 5)) sc P ((k : Int) + 1) τ := by
    intro g
    induction g with
    | zero =>
      intro k τ hgk hk hF hDt hB h20 hJ hBs hno
      have e : k = 20 := by omega
      apply v_X4_playOut_12 (hF.g hC.1) (by omega)
      refine ⟨fun _ => ?_, fun q => by omega⟩
      rw [hP]
      refine ⟨0, rfl, by decide, hF, 20, h20 e, by rw [hDt, e], by rw [hDt]; exact hB, ⟨by omega, by omega⟩, fun q a b => hno q a (by omega), Or.inl rfl, Or.inr ⟨rfl, hno 20 (by omega) (by omega) 19 (by omega)⟩⟩
    | succ g ih =>
      intro k τ hgk hk hF hDt hB h20 hJ hBs hno
      apply v_X4_playOut_12 (hF.g hC.1) (by omega)
      refine ⟨fun q => by omega, fun _ σ1 e1 => ?_⟩
      have hF1 : FrJ (APl u) σ σ1 := by rw [← e1]; exact hF.trans (Fr.w (by omega) (Or.inr ⟨rfl, rfl⟩)).j
      have hD1 : Dc (rI σ1) u = R k := by rw [← e1, Dc_o (by omega), hDt]
      have hC1 : Cx σ1 u n S F F1 := hC.frJ hF1 (nA _ _ (by omega) (by omega)) (nA _ _ (by omega) (by omega)) (fun i => nA _ _ (by omega) (by omega)) (fun i => nA _ _ (by omega) (by omega)) (by rw [hD1]; exact hB)
      have hJ1 : ∀ q : Nat, q ≤ k → rJ σ1 59 q = hv (R q 2) n.toNat := fun q hq => by rw [← e1, rJ_wI]; exact hJ q hq
      have hr1 : rI σ1 26 12 = (k : Int) + 1 := by rw [← e1]; exact rI_ww (by omega)
      have g9 : rI σ1 (u + 1) 9 = rI σ (u + 1) 9 := hF1.rw (by omega) (nA _ _ (by omega) (by omega))
      have w9 : rI σ1 u 9 = rI σ u 9 := hF1.rw (by omega) (nA _ _ (by omega) (by omega))
      obtain ⟨r8, σ4, he4, hr4, hF4, hD4, hB4, hx4⟩ := s_playRound (sc := sc) (d := d) hC1 (by rw [hD1]; exact hgR k)
      rw [hD1] at hD4 hx4
      rw [g9, w9, ← hRs] at hD4
      have hF14 : FrJ (APl u) σ σ4 := hF1.trans (hF4.j.weak (fun a i q => Or.inl q))
      have hr4' : rI σ4 26 12 = (k : Int) + 1 := (hF4.rw (by omega) (by show ¬ (26 = u + 4); omega)).trans hr1
      rw [hD4] at hB4 hx4
      have hC4 : Cx σ4 u n S F F1 := hC.frJ hF14 (nA _ _ (by omega) (by omega)) (nA _ _ (by omega) (by omega)) (fun i => nA _ _ (by omega) (by omega)) (fun i => nA _ _ (by omega) (by omega)) (by rw [hD4]; exact hB4)
      refine ⟨r8, σ4, he4, hF14.g hC.1, hr4, fun c => ?_, fun c => ?_⟩
      · have hne : ¬ Heq n (R k) (R (k + 1)) := by
          rcases hx4 with ⟨a, b⟩ | ⟨a, b⟩
          · omega
          · exact b
        have hbv := hv_bd (k := n.toNat) (h := rI σ4 (u + 4)) (fun i i0 i1 => (hC4.2.1.2.2.1.at i0 (by omega)).2.2.1)
        have pb : ∀ k : Nat, k ≤ 9 → (64 : Int) ^ k ≤ 18014398509481984 := by decide +kernel
        have hpb := pb n.toNat (by omega)
        refine ⟨_, σ4, s_heights hC4.1 hC4.2.1, hC4.1, by omega, by omega, fun σ14 e14 => ?_⟩
        have hF14' : FrJ (APl u) σ σ14 := by rw [← e14]; exact hF14.trans FrJ.wj
        have hJ14 : ∀ q : Nat, q ≤ k + 1 → rJ σ14 59 q = hv (R q 2) n.toNat := by
          intro q hq
          rw [← e14, rJ_w (by omega)]
          by_cases c1 : q = k + 1
          · rw [if_pos ⟨rfl, by omega⟩, hv2 σ4 (k + 1) hD4, c1]
          · rw [if_neg (by omega), hF4.1.rj]; exact hJ1 q (by omega)
        have hD14 : Dc (rI σ14) u = R (k + 1) := by rw [← e14, ← hD4]; rfl
        have hr14 : rI σ14 26 12 = (k : Int) + 1 := by rw [← e14]; exact hr4'
        have hBs' : ∀ q : Nat, q ≤ k + 1 → StB (R q) n := by
          intro q hq
          by_cases c1 : q = k + 1
          · rw [c1]; exact hB4
          · exact hBs q (by omega)
        have key : ∀ p : Nat, p ≤ k → (rJ σ14 59 p = rJ σ14 59 ((k : Int) + 1) ↔ Heq n (R (k + 1)) (R p)) := by
          intro p hp
          have e1 := hJ14 p (by omega)
          have e2 : rJ σ14 59 ((k : Int) + 1) = hv (R (k + 1) 2) n.toNat := hJ14 (k + 1) (by omega)
          rw [e1, e2]
          constructor
          · intro e i i0 i1
            exact hv_inj (fun i i0 i1 => ((hBs' p (by omega)).2 i i0 (by omega)).2.2.1) (fun i i0 i1 => ((hBs' (k + 1) (by omega)).2 i i0 (by omega)).2.2.1) e i i0 (by omega)
          · intro e
            exact hv_congr (fun i i0 i1 => e i i0 (by omega))
        obtain ⟨r21, σ17, he17, hr17, e17, hx17⟩ := s_isSeenBefore (sc := sc) (d := d + 4) (x := (k : Int) + 1) (hF14'.g hC.1) (by omega)
        subst e17
        refine ⟨r21, σ17, he17, hF14'.g hC.1, hr17, fun c1 => ⟨by omega, ?_⟩, fun c1 => ?_⟩
        · have := ih (k + 1) σ17 (by omega) (by omega) hF14' hD14 hB4 (fun q => by omega) hJ14 hBs' (fun q q1 q2 p hp hq => ?_)
          · exact this
          · by_cases c2 : q = k + 1
            · subst c2
              rcases hx17 with ⟨a, b⟩ | ⟨a, b⟩
              · omega
              · exact b p (by omega) (by omega) ((key p (by omega)).mpr hq)
            · exact hno q q1 (by omega) p hp hq
        · rw [hP]
          rcases hx17 with ⟨a, q, q0, q1, q2⟩ | ⟨a, b⟩
          · refine ⟨0, rfl, by decide, hF14', k + 1, hr14, hD14, by rw [hD14]; exact hB4, ⟨by omega, by omega⟩, fun q a b => hno q a (by omega), Or.inr ⟨q.toNat, by omega, ?_⟩, Or.inr ⟨rfl, fun h => hne h.symm⟩⟩
            refine (key q.toNat (by omega)).mp ?_
            rw [show ((q.toNat : Nat) : Int) = q by omega]; exact q2
          · exact absurd a (by omega)
      · rw [hP]
        have he : Heq n (R k) (R (k + 1)) := by
          rcases hx4 with ⟨a, b⟩ | ⟨a, b⟩
          · exact b
          · omega
        exact ⟨1, rfl, by decide, hF14, k + 1, hr4', hD4, by rw [hD4]; exact hB4, ⟨by omega, by omega⟩, fun q a b => hno q a (by omega), Or.inr ⟨k, by omega, he.symm⟩, Or.inl ⟨rfl, he.symm⟩⟩
  have h6 : FrJ (APl u) σ σ6 := by rw [← e6]; exact FrJ.wj
  have hB0 : ∀ q : Nat, q ≤ 0 → StB (R q) n := fun q hq => by
    have e : q = 0 := by omega
    rw [e, hR0]; exact hSt
  have := loop _ 0 σ6 rfl (by omega) h6 (by rw [← e6, hR0, hD]; rfl) (by rw [hR0]; exact hSt) (fun q => by omega) (fun q hq => ?_) hB0 (fun q a b => by omega)
  · exact this
  · have e : q = 0 := by omega
    have hb0 := hv_bd (k := n.toNat) (h := rI σ (u + 4)) (fun i i0 i1 => (hC.2.1.2.2.1.at i0 (by omega)).2.2.1)
    have pb : ∀ k : Nat, k ≤ 9 → (64 : Int) ^ k ≤ 18014398509481984 := by decide +kernel
    have := pb n.toNat (by omega)
    rw [e, ← e6, rJ_w (by omega), if_pos ⟨rfl, rfl⟩, hR0, hD]; rfl
end
