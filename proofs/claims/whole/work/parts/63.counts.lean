/-! THE REFERENCE: one piece counted. -/
theorem sm_ind {i x : Int} : ∀ {n : Nat}, 0 ≤ i → i < n → sm (fun k => if k = i then x else 0) n = x
  | 0, i0, i1 => by omega
  | n + 1, i0, i1 => by
    rw [sm_succ]
    by_cases c : i = n
    · rw [sm_eq0 (fun t t0 t1 => if_neg (by omega)), if_pos c.symm]; omega
    · rw [sm_ind (n := n) i0 (by omega), if_neg (by omega)]; omega
theorem cnt1 {p : Int → Prop} {n : Nat} {i : Int} (i0 : 0 ≤ i) (i1 : i < n) (hp : p i) : sm (fun k => cif (p k) 1 0) n = 1 ↔ ∀ q : Int, 0 ≤ q → q < n → q ≠ i → ¬ p q := by
  have split : sm (fun k => cif (p k) 1 0) n = sm (fun k => cif (p k ∧ k ≠ i) 1 0) n + 1 := by
    have e : sm (fun k => cif (p k) 1 0) n = sm (fun k => cif (p k ∧ k ≠ i) 1 0 + (if k = i then 1 else 0)) n := by
      refine sm_congr (fun t _ _ => ?_)
      by_cases c : t = i
      · rw [c, cif_pos hp, cif_neg (fun q => q.2 rfl), if_pos rfl]; rfl
      · rw [if_neg c, Int.add_zero]; exact cif_congr ⟨fun q => ⟨q, c⟩, fun q => q.1⟩
    rw [e, sm_add, sm_ind i0 i1]
  constructor
  · intro h q q0 q1 qi hq
    have z : sm (fun k => cif ((p k ∧ k ≠ i) ∧ k ≠ q) 1 0) n + 1 ≤ sm (fun k => cif (p k ∧ k ≠ i) 1 0) n := by
      refine sm_drop (i := q) (fun t => ?_) q0 q1 ?_
      · by_cases c : (p t ∧ t ≠ i) ∧ t ≠ q
        · rw [cif_pos c, cif_pos c.1]; exact Int.le_refl _
        · rw [cif_neg c]; exact (cif_bd (lo := 0) (hi := 1) (by omega) (by omega)).1
      · show cif ((p q ∧ q ≠ i) ∧ q ≠ q) 1 0 + 1 ≤ cif (p q ∧ q ≠ i) 1 0
        rw [cif_neg (fun z => z.2 rfl), cif_pos ⟨hq, qi⟩]; decide
    have nn := sm_bd (f := fun k => cif ((p k ∧ k ≠ i) ∧ k ≠ q) 1 0) (lo := 0) (hi := 1) (n := n) (fun t _ _ => cif_bd (by omega) (by omega))
    omega
  · intro h
    rw [split, sm_eq0 (fun t t0 t1 => cif_neg (fun q => h t t0 t1 q.2 q.1))]; rfl
theorem ones_bs {p : Int → Prop} {n : Int} (h0 : 0 ≤ n) (h9 : n ≤ 9) : sm (fun k => bt (bs p n.toNat) k) 24 = sm (fun k => cif (p k) 1 0) n.toNat := by
  have e : sm (fun k => bt (bs p n.toNat) k) (24 : Int).toNat = sm (fun k => bt (bs p n.toNat) k) n.toNat + (24 - n) * 0 := by
    refine sm_const h0 (by omega) (fun t t0 t1 => ?_)
    have hb := bs_lt p n.toNat
    have hm : (2 : Int) ^ n.toNat ≤ 2 ^ t.toNat := by
      have := Nat.pow_le_pow_right (n := 2) (by omega) (show n.toNat ≤ t.toNat by omega)
      have e1 : ((2 ^ n.toNat : Nat) : Int) = 2 ^ n.toNat := by rw [Int.natCast_pow]; rfl
      have e2 : ((2 ^ t.toNat : Nat) : Int) = 2 ^ t.toNat := by rw [Int.natCast_pow]; rfl
      omega
    show bs p n.toNat / 2 ^ t.toNat % 2 = 0
    rw [Int.ediv_eq_zero_of_lt hb.1 (by omega)]; rfl
  have e2 : sm (fun k => bt (bs p n.toNat) k) n.toNat = sm (fun k => cif (p k) 1 0) n.toNat := sm_congr (fun t t0 t1 => bs_bit p t0 t1)
  have e3 : (24 : Int).toNat = 24 := rfl
  rw [e3] at e
  rw [e, e2]; omega
/-- what the reference counts -/
def Acc (σ : aH) (n : Int) (ow sh le : Int → Int → Int) (ch : Int → Int) (al lt : Int) (ho su : Int → Int) : Prop := (∀ i j : Int, 0 ≤ i → i < n → 0 ≤ j → j < n → rI σ (282 + i.toNat) j = ow i j ∧ rI σ (292 + j.toNat) i = sh j i ∧ rI σ (302 + j.toNat) i = le j i) ∧ (∀ j : Int, 0 ≤ j → j < n → rI σ 311 j = ch j) ∧ rI σ 76 36 = al ∧ rI σ 76 37 = lt ∧ (∀ h : Int, 0 ≤ h → h < 24 → rI σ 312 h = ho h) ∧ (∀ k : Int, 0 ≤ k → k < 20 → rI σ 313 k = su k)
abbrev inB (x : Int) : Prop := 0 ≤ x ∧ x ≤ 100000000
def AccB (n : Int) (ow sh le : Int → Int → Int) (ch : Int → Int) (al lt : Int) (ho su : Int → Int) (kk : Int) : Prop := (∀ i j : Int, 0 ≤ i → i < n → 0 ≤ j → j < n → inB (ow i j) ∧ inB (sh j i) ∧ inB (le j i)) ∧ (∀ j : Int, 0 ≤ j → j < n → inB (ch j)) ∧ inB al ∧ inB lt ∧ (∀ h : Int, inB (ho h)) ∧ inB (su kk)
theorem Acc.congr {σ : aH} {n : Int} {ow sh le ow1 sh1 le1 : Int → Int → Int} {ch ch1 : Int → Int} {al lt al1 lt1 : Int} {ho su ho1 su1 : Int → Int} (h : Acc σ n ow sh le ch al lt ho su) (e1 : ∀ i j : Int, 0 ≤ i → i < n → 0 ≤ j → j < n → ow i j = ow1 i j ∧ sh j i = sh1 j i ∧ le j i = le1 j i) (e2 : ∀ j : Int, 0 ≤ j → j < n → ch j = ch1 j) (e3 : al = al1) (e4 : lt = lt1) (e5 : ∀ h : Int, 0 ≤ h → h < 24 → ho h = ho1 h) (e6 : ∀ k : Int, 0 ≤ k → k < 20 → su k = su1 k) : Acc σ n ow1 sh1 le1 ch1 al1 lt1 ho1 su1 := by
  obtain ⟨h1, h2, h3, h4, h5, h6⟩ := h
  refine ⟨fun i j a b c d => ?_, fun j a b => (h2 j a b).trans (e2 j a b), h3.trans e3, h4.trans e4, fun h a b => (h5 h a b).trans (e5 h a b), fun k a b => (h6 k a b).trans (e6 k a b)⟩
  have x := h1 i j a b c d
  have y := e1 i j a b c d
  exact ⟨x.1.trans y.1, x.2.1.trans y.2.1, x.2.2.trans y.2.2⟩
def AnyB (b : Int → Int → Prop) (n j : Int) : Prop := ∃ i : Int, 0 ≤ i ∧ i < n ∧ b j i
def OnlyB (b : Int → Int → Prop) (n j i : Int) : Prop := ∀ q : Int, 0 ≤ q → q < n → q ≠ i → ¬ b j q
/-- done: all of the rows ahead of j, and those ahead of i in it -/
def Dn (j i c a : Int) : Prop := c < j ∨ (c = j ∧ a < i)
noncomputable def SS (b : Int → Int → Prop) (n : Int) (f : Int → Int) (j i : Int) : Int := sm (fun c => sm (fun a => cif (b c a) (f a) 0) n.toNat) j.toNat + sm (fun a => cif (b j a) (f a) 0) i.toNat
theorem SS_bd {b : Int → Int → Prop} {n : Int} {f : Int → Int} {j i : Int} (h9 : 0 ≤ n ∧ n ≤ 9) (hf : ∀ a : Int, 0 ≤ f a ∧ f a ≤ 1080) (hj : 0 ≤ j ∧ j ≤ n) (hi : 0 ≤ i ∧ i ≤ n) : 0 ≤ SS b n f j i ∧ SS b n f j i ≤ 100000 := by
  have inner : ∀ (c : Int) (k : Nat), k ≤ 9 → 0 ≤ sm (fun a => cif (b c a) (f a) 0) k ∧ sm (fun a => cif (b c a) (f a) 0) k ≤ 9720 := by
    intro c k hk
    have := sm_bd (f := fun a => cif (b c a) (f a) 0) (lo := 0) (hi := 1080) (n := k) (fun t _ _ => cif_bd (hf t) (by omega))
    omega
  have h1 := sm_bd (f := fun c => sm (fun a => cif (b c a) (f a) 0) n.toNat) (lo := 0) (hi := 9720) (n := j.toNat) (fun t _ _ => inner t n.toNat (by omega))
  have h2 := inner j i.toNat (by omega)
  unfold SS
  omega
theorem SS_step {b : Int → Int → Prop} {n : Int} {f : Int → Int} {j i : Int} (hi : 0 ≤ i) : SS b n f j (i + 1) = SS b n f j i + cif (b j i) (f i) 0 := by
  unfold SS; rw [sm_toNat _ hi]; omega
theorem SS_row {b : Int → Int → Prop} {n : Int} {f : Int → Int} {j : Int} (hj : 0 ≤ j) : SS b n f (j + 1) 0 = SS b n f j n := by
  unfold SS
  rw [sm_toNat _ hj]
  have e : sm (fun a => cif (b (j + 1) a) (f a) 0) (0 : Int).toNat = 0 := sm_0 _
  rw [e]; omega
/-- what counting changes -/
abbrev AK : Nat → Int → Prop := fun a i => (282 ≤ a ∧ a ≤ 313) ∨ (a = 76 ∧ (i = 36 ∨ i = 37))
section
variable {sc : Nat × (Nat → Int32)} {d : Nat} {σ : aH} {u : Nat}
theorem m_counts {p : Nat} {n x fm k r du : Int} {b : Int → Int → Prop} {la : Int → Int} {ow sh le : Int → Int → Int} {ch : Int → Int} {al lt : Int} {ho su : Int → Int} {dd d1 : Int → Int} (hG : G σ u) (hp : p < 70) (hn : rI σ 76 28 = n) (h9 : 0 ≤ n ∧ n ≤ 9) (hx : 0 ≤ x ∧ x ≤ 60) (hfm : rI σ (190 + p) 0 = fm) (bfm : 0 ≤ fm ∧ fm < 1440) (hk : rI σ (190 + p) 2 = k) (bk : 0 ≤ k ∧ k < 20) (hr : rI σ (190 + p) 3 = r) (br : 0 ≤ r ∧ r ≤ 9) (hon : ∀ j : Int, 0 ≤ j → j < n → rI σ (261 + k.toNat) j = bs (b j) n.toNat) (hla : ∀ i : Int, 0 ≤ i → i < n → rI σ (91 + i.toNat) 6 = la i) (hdu : rI σ 80 4 = du) (hA : Acc σ n ow sh le ch al lt ho su) (hB : AccB n ow sh le ch al lt ho su k)
    (hdd : dd = fun i => x * r * (if la i = 1 ∧ du ≤ fm then 2 else 1)) (hd1 : d1 = fun i => if la i = 1 ∧ du ≤ fm then x * r else 0) :
    TV sc (d + 2) mX10_counts [.ref 76, .ref (190 + p), .int (nZ x)] σ (fun σ1 => Fr AK σ σ1 ∧ Acc σ1 n (fun i j => ow i j + cif (b j i) (dd i) 0) (fun j i => sh j i + cif (b j i) x 0) (fun j i => le j i + cif (b j i ∧ OnlyB b n j i) x 0) (fun j => ch j + cif (AnyB b n j) x 0) (al + SS b n dd n 0) (lt + SS b n d1 n 0) (fun h => ho h + (if h = fm / 60 then SS b n dd n 0 else 0)) (fun q => su q + (if q = k then SS b n dd n 0 else 0))) := by
  have xr := mul_bd hx.1 hx.2 br.1 br.2
  have bdd : ∀ i : Int, 0 ≤ dd i ∧ dd i ≤ 1080 := fun i => by rw [hdd]; show 0 ≤ x * r * (if la i = 1 ∧ du ≤ fm then 2 else 1) ∧ x * r * (if la i = 1 ∧ du ≤ fm then 2 else 1) ≤ 1080; split <;> omega
  have bd1 : ∀ i : Int, 0 ≤ d1 i ∧ d1 i ≤ 1080 := fun i => by rw [hd1]; show 0 ≤ (if la i = 1 ∧ du ≤ fm then x * r else 0) ∧ (if la i = 1 ∧ du ≤ fm then x * r else 0) ≤ 1080; split <;> omega
  obtain ⟨Inv, hInv⟩ : ∃ Inv : aH → Int → Int → Int → Prop, Inv = fun τ j i jc => Fr AK σ τ ∧ Acc τ n (fun a c => ow a c + cif (Dn j i c a ∧ b c a) (dd a) 0) (fun c a => sh c a + cif (Dn j i c a ∧ b c a) x 0) (fun c a => le c a + cif ((Dn j i c a ∧ b c a) ∧ OnlyB b n c a) x 0) (fun c => ch c + cif (c < jc ∧ AnyB b n c) x 0) (al + SS b n dd j i) (lt + SS b n d1 j i) (fun h => ho h + (if h = fm / 60 then SS b n dd j i else 0)) (fun q => su q + (if q = k then SS b n dd j i else 0)) := ⟨_, rfl⟩
  obtain ⟨P, hP⟩ : ∃ P : aO → aH → Prop, P = QV (fun σ1 => Fr AK σ σ1 ∧ Acc σ1 n (fun i j => ow i j + cif (b j i) (dd i) 0) (fun j i => sh j i + cif (b j i) x 0) (fun j i => le j i + cif (b j i ∧ OnlyB b n j i) x 0) (fun j => ch j + cif (AnyB b n j) x 0) (al + SS b n dd n 0) (lt + SS b n d1 n 0) (fun h => ho h + (if h = fm / 60 then SS b n dd n 0 else 0)) (fun q => su q + (if q = k then SS b n dd n 0 else 0))) := ⟨_, rfl⟩
  apply T.void
  apply t_X10_counts hG hp (by omega)
  rw [← hP]
  have nA : ∀ (a : Nat) (i : Int), ¬ (282 ≤ a ∧ a ≤ 313) → a ≠ 76 → ¬ AK a i := fun a i p q => by show ¬ ((282 ≤ a ∧ a ≤ 313) ∨ (a = 76 ∧ (i = 36 ∨ i = 37))); omega
  have nA2 : ∀ i : Int, i ≠ 36 → i ≠ 37 → ¬ AK 76 i := fun i p q => by show ¬ ((282 ≤ 76 ∧ 76 ≤ 313) ∨ (76 = 76 ∧ (i = 36 ∨ i = 37))); omega
  have keep : ∀ τ : aH, Fr AK σ τ → G τ u ∧ rI τ 76 28 = n ∧ rI τ (190 + p) 0 = fm ∧ rI τ (190 + p) 2 = k ∧ rI τ (190 + p) 3 = r ∧ (∀ j : Int, 0 ≤ j → j < n → rI τ (261 + k.toNat) j = bs (b j) n.toNat) ∧ (∀ i : Int, 0 ≤ i → i < n → rI τ (91 + i.toNat) 6 = la i) ∧ rI τ 80 4 = du := by
    intro τ hF
    exact ⟨hF.g hG, (hF.rw (by omega) (nA2 _ (by omega) (by omega))).trans hn, (hF.rw (by omega) (nA _ _ (by omega) (by omega))).trans hfm, (hF.rw (by omega) (nA _ _ (by omega) (by omega))).trans hk, (hF.rw (by omega) (nA _ _ (by omega) (by omega))).trans hr, fun j a c => (hF.rw a (nA _ _ (by omega) (by omega))).trans (hon j a c), fun i a c => (hF.rw (by omega) (nA _ _ (by omega) (by omega))).trans (hla i a c), (hF.rw (by omega) (nA _ _ (by omega) (by omega))).trans hdu⟩
  -- the end of a row
  have row : ∀ (τ : aH) (j : Int), 0 ≤ j → Inv τ j n (j + 1) → Inv τ (j + 1) 0 (j + 1) := by
    intro τ j j0 h
    rw [hInv] at h ⊢
    refine ⟨h.1, h.2.congr (fun i c a1 a2 a3 a4 => ?_) (fun c _ _ => rfl) ?_ ?_ (fun _ _ _ => ?_) (fun _ _ _ => ?_)⟩
    · have e : Dn j n c i ↔ Dn (j + 1) 0 c i := by unfold Dn; omega
      rw [e]; exact ⟨rfl, rfl, rfl⟩
    · rw [SS_row j0]
    · rw [SS_row j0]
    · rw [SS_row j0]
    · rw [SS_row j0]
  -- a bit that is not set
  have skip : ∀ (τ : aH) (j i jc : Int), 0 ≤ i → ¬ b j i → Inv τ j i jc → Inv τ j (i + 1) jc := by
    intro τ j i jc i0 hb h
    rw [hInv] at h ⊢
    refine ⟨h.1, h.2.congr (fun a c a1 a2 a3 a4 => ?_) (fun c _ _ => rfl) ?_ ?_ (fun _ _ _ => ?_) (fun _ _ _ => ?_)⟩
    · have e : Dn j i c a ∧ b c a ↔ Dn j (i + 1) c a ∧ b c a := by
        unfold Dn
        constructor
        · rintro ⟨z1, z2⟩; exact ⟨by omega, z2⟩
        · rintro ⟨z1, z2⟩
          refine ⟨?_, z2⟩
          by_cases z : c = j ∧ a = i
          · rw [z.1, z.2] at z2; exact absurd z2 hb
          · omega
      rw [e]; exact ⟨rfl, rfl, rfl⟩
    · rw [SS_step i0, cif_neg hb, Int.add_zero]
    · rw [SS_step i0, cif_neg hb, Int.add_zero]
    · rw [SS_step i0, cif_neg hb, Int.add_zero]
    · rw [SS_step i0, cif_neg hb, Int.add_zero]
  -- a bit that is set
  have bit : ∀ (τ : aH) (j i jc x6 : Int), 0 ≤ j → j < n → 0 ≤ i → i < n → b j i → ((x6 = 0 ∧ ¬ (la i = 1 ∧ du ≤ fm)) ∨ (x6 = 1 ∧ (la i = 1 ∧ du ≤ fm))) → Inv τ j i jc → (∀ τ1 : aH, Inv τ1 j (i + 1) jc → L_X10_counts_43 (Ev sc (d + 1)) sc P p x j (bs (b j) n.toNat) (i + 1) τ1) → L_X10_counts_113 (Ev sc (d + 1)) sc P p x j (bs (b j) n.toNat) i x6 (1 + x6) (x * r) τ := by
    intro τ j i jc x6 j0 j1 i0 i1 hb h6 h next
    rw [hInv] at h
    obtain ⟨hF, h1, h2, h3, h4, h5, h7⟩ := h
    obtain ⟨kG, kn, kfm, kk, kr, kon, kla, kdu⟩ := keep τ hF
    have bB := bs_30 (b j) (n := n.toNat) (by omega)
    have bB2 := bs_lt (b j) n.toNat
    have b0 := hB.1 i j i0 i1 j0 j1
    have hA0 := h1 i j i0 i1 j0 j1
    dsimp only at hA0
    have nD : ¬ (Dn j i j i ∧ b j i) := fun q => by have := q.1; unfold Dn at this; omega
    have e0 : rI τ (282 + i.toNat) j = ow i j := by rw [hA0.1, cif_neg nD, Int.add_zero]
    have e1 : rI τ (292 + j.toNat) i = sh j i := by rw [hA0.2.1, cif_neg nD, Int.add_zero]
    have e2 : rI τ (302 + j.toNat) i = le j i := by rw [hA0.2.2, cif_neg (fun q => nD q.1), Int.add_zero]
    have sS := SS_bd (b := b) (f := dd) (j := j) (i := i) h9 bdd (by omega) (by omega)
    have sS1 := SS_bd (b := b) (f := d1) (j := j) (i := i) h9 bd1 (by omega) (by omega)
    have bal := hB.2.2.1
    have blt := hB.2.2.2.1
    have bho := hB.2.2.2.2.1
    have bsu := hB.2.2.2.2.2
    have edue : x * r * (1 + x6) = dd i := by
      rw [hdd]
      rcases h6 with h6 | h6
      · rw [h6.1]; show _ = x * r * (if la i = 1 ∧ du ≤ fm then 2 else 1); rw [if_neg h6.2]; rfl
      · rw [h6.1]; show _ = x * r * (if la i = 1 ∧ du ≤ fm then 2 else 1); rw [if_pos h6.2]; rfl
    have bdi := bdd i
    apply v_X10_counts_113 kG hp (by omega) (by omega) bB (by omega) (by omega) (by omega) (by omega)
    rw [edue, e1]
    refine ⟨by omega, fun z2 ez2 => ⟨by omega, by omega, by omega, by omega, fun σ7 e7 => ?_⟩⟩
    rw [ez2]
    have hF7 : Fr AK σ σ7 := by rw [← e7]; exact hF.trans (Fr.w i0 (Or.inl (by omega)))
    obtain ⟨r15, σ11, he11, hr11, e11, h11⟩ := m_ones (sc := sc) (d := d) (b := bs (b j) n.toNat) (hF7.g hG) ⟨bB2.1, bB.2⟩
    subst e11
    rw [ones_bs h9.1 h9.2] at h11
    have h302 : rI σ11 (302 + j.toNat) i = le j i := by rw [← e7, rI_wa (by omega)]; exact e2
    rw [h302]
    -- behind led
    have at153 : ∀ y : Int, y = cif (OnlyB b n j i) x 0 → L_X10_counts_153 (Ev sc (d + 1)) sc P p j.toNat x j (bs (b j) n.toNat) i x6 (dd i) y (le j i) i σ11 := by
      intro y hy
      have by_ : 0 ≤ y ∧ y ≤ 60 := by rw [hy]; exact cif_bd hx (by omega)
      apply v_X10_counts_153 (hF7.g hG) hp (by omega) (by omega) (by omega) bB (by omega) (by omega) (by omega) (by omega) (by omega) (by omega)
      refine ⟨by omega, by omega, fun σ2 e2' => ⟨by omega, by omega, ?_⟩⟩
      have g282 : rI σ2 (282 + i.toNat) j = ow i j := by rw [← e2', rI_wa (by omega), ← e7, rI_wa (by omega)]; exact e0
      rw [g282]
      refine ⟨by omega, by omega, fun σ7' e7' => ?_⟩
      have g36 : rI σ7' 76 36 = al + SS b n dd j i := by rw [← e7', rI_wa (by omega), ← e2', rI_wa (by omega), ← e7, rI_wa (by omega)]; exact h3
      rw [g36]
      refine ⟨by omega, fun σ11' e11' => ?_⟩
      have g37 : rI σ11' 76 37 = lt + SS b n d1 j i := by rw [← e11', rI_wi (by decide), ← e7', rI_wa (by omega), ← e2', rI_wa (by omega), ← e7, rI_wa (by omega)]; exact h4
      rw [g37]
      have hF11' : Fr AK σ σ11' := by
        rw [← e11', ← e7', ← e2']
        exact ((hF7.trans (Fr.w i0 (Or.inl (by omega)))).trans (Fr.w j0 (Or.inl (by omega)))).trans (Fr.w (by omega) (Or.inr ⟨rfl, Or.inl rfl⟩))
      have at198 : ∀ y2 : Int, y2 = d1 i → L_X10_counts_198 (Ev sc (d + 1)) sc P p x j (bs (b j) n.toNat) i x6 (dd i) y2 (lt + SS b n d1 j i) σ11' := by
        intro y2 hy2
        have by2 := bd1 i
        apply v_X10_counts_198 (hF11'.g hG) hp (by omega) (by omega) bB (by omega) (by omega) (by omega) (by omega) (by omega)
        refine ⟨by omega, fun σ3 e3' => ?_⟩
        have hF3 : Fr AK σ σ3 := by rw [← e3']; exact hF11'.trans (Fr.w (by omega) (Or.inr ⟨rfl, Or.inr rfl⟩))
        have k3 := keep σ3 hF3
        have g312 : rI σ3 312 (fm / 60) = ho (fm / 60) + SS b n dd j i := by
          rw [← e3', rI_wa (by omega), ← e11', rI_wa (by omega), ← e7', rI_wa (by omega), ← e2', rI_wa (by omega), ← e7, rI_wa (by omega), h5 _ (by omega) (by omega)]
          dsimp only
          rw [if_pos rfl]
        have b312 := bho (fm / 60)
        rw [k3.2.2.1, g312]
        refine ⟨⟨by omega, by omega⟩, by omega, by omega, by omega, by omega, fun σ4 e4' => ?_⟩
        have hF4 : Fr AK σ σ4 := by rw [← e4']; exact hF3.trans (Fr.w (by omega) (Or.inl (by omega)))
        have k4 := keep σ4 hF4
        have g313 : rI σ4 313 k = su k + SS b n dd j i := by
          rw [← e4', rI_wa (by omega), ← e3', rI_wa (by omega), ← e11', rI_wa (by omega), ← e7', rI_wa (by omega), ← e2', rI_wa (by omega), ← e7, rI_wa (by omega), h7 k bk.1 bk.2]
          dsimp only
          rw [if_pos rfl]
        have b313 := bsu
        rw [k4.2.2.2.1, g313]
        refine ⟨by omega, by omega, by omega, fun σ5 e5' => ⟨by omega, next σ5 ?_⟩⟩
        rw [hInv]
        refine ⟨by rw [← e5']; exact hF4.trans (Fr.w bk.1 (Or.inl (by omega))), fun a c a0 a1 c0 c1 => ?_, fun c c0 c1 => ?_, ?_, ?_, fun h h0 h1' => ?_, fun q q0 q1 => ?_⟩
        · -- the three tables
          have old := h1 a c a0 a1 c0 c1
          dsimp only at old ⊢
          by_cases z : c = j ∧ a = i
          · have D1 : Dn j (i + 1) j i ∧ b j i := ⟨Or.inr ⟨rfl, by omega⟩, hb⟩
            rw [z.1, z.2]
            refine ⟨?_, ?_, ?_⟩
            · rw [cif_pos D1, ← e5', rI_wa (by omega), ← e4', rI_wa (by omega), ← e3', rI_wa (by omega), ← e11', rI_wa (by omega), ← e7']; exact rI_ww (by omega)
            · rw [cif_pos D1, ← e5', rI_wa (by omega), ← e4', rI_wa (by omega), ← e3', rI_wa (by omega), ← e11', rI_wa (by omega), ← e7', rI_wa (by omega), ← e2', rI_wa (by omega), ← e7]; exact rI_ww (by omega)
            · rw [← e5', rI_wa (by omega), ← e4', rI_wa (by omega), ← e3', rI_wa (by omega), ← e11', rI_wa (by omega), ← e7', rI_wa (by omega), ← e2', rI_ww (by omega), hy]
              congr 1
              exact cif_congr ⟨fun q => ⟨D1, q⟩, fun q => q.2⟩
          · have e : Dn j i c a ∧ b c a ↔ Dn j (i + 1) c a ∧ b c a := by
              unfold Dn
              constructor
              · rintro ⟨z1, z2⟩; exact ⟨by omega, z2⟩
              · rintro ⟨z1, z2⟩; exact ⟨by omega, z2⟩
            rw [← e]
            refine ⟨?_, ?_, ?_⟩
            · rw [← old.1, ← e5', rI_wa (by omega), ← e4', rI_wa (by omega), ← e3', rI_wa (by omega), ← e11', rI_wa (by omega), ← e7', rI_w (by omega), if_neg (by omega), ← e2', rI_wa (by omega), ← e7, rI_wa (by omega)]
            · rw [← old.2.1, ← e5', rI_wa (by omega), ← e4', rI_wa (by omega), ← e3', rI_wa (by omega), ← e11', rI_wa (by omega), ← e7', rI_wa (by omega), ← e2', rI_wa (by omega), ← e7, rI_w (by omega), if_neg (by omega)]
            · rw [← old.2.2, ← e5', rI_wa (by omega), ← e4', rI_wa (by omega), ← e3', rI_wa (by omega), ← e11', rI_wa (by omega), ← e7', rI_wa (by omega), ← e2', rI_w (by omega), if_neg (by omega), ← e7, rI_wa (by omega)]
        · dsimp only
          have h2c := h2 c c0 c1
          dsimp only at h2c
          rw [← h2c, ← e5', rI_wa (by omega), ← e4', rI_wa (by omega), ← e3', rI_wa (by omega), ← e11', rI_wa (by omega), ← e7', rI_wa (by omega), ← e2', rI_wa (by omega), ← e7, rI_wa (by omega)]
        · rw [← e5', rI_wa (by omega), ← e4', rI_wa (by omega), ← e3', rI_wi (by decide), ← e11', rI_ww (by omega), SS_step i0, cif_pos hb]; omega
        · rw [← e5', rI_wa (by omega), ← e4', rI_wa (by omega), ← e3', rI_ww (by omega), SS_step i0, cif_pos hb, hy2]; omega
        · have h5h := h5 h h0 h1'
          dsimp only at h5h ⊢
          rw [SS_step i0, cif_pos hb, ← e5', rI_wa (by omega), ← e4']
          by_cases z : h = fm / 60
          · rw [z, rI_ww (by omega), if_pos rfl]; omega
          · rw [rI_wi (by omega), if_neg z, ← e3', rI_wa (by omega), ← e11', rI_wa (by omega), ← e7', rI_wa (by omega), ← e2', rI_wa (by omega), ← e7, rI_wa (by omega), h5h, if_neg z]
        · have h7q := h7 q q0 q1
          dsimp only at h7q ⊢
          rw [SS_step i0, cif_pos hb, ← e5']
          by_cases z : q = k
          · rw [z, rI_ww (by omega), if_pos rfl]; omega
          · rw [rI_wi (by omega), if_neg z, ← e4', rI_wa (by omega), ← e3', rI_wa (by omega), ← e11', rI_wa (by omega), ← e7', rI_wa (by omega), ← e2', rI_wa (by omega), ← e7, rI_wa (by omega), h7q, if_neg z]
      refine ⟨fun z => at198 0 ?_, fun z => ⟨⟨by omega, by omega⟩, by omega, at198 (dd i / 2) ?_⟩⟩
      · rw [hd1]; show 0 = (if la i = 1 ∧ du ≤ fm then x * r else 0)
        rcases h6 with h6 | h6
        · rw [if_neg h6.2]
        · omega
      · rw [hd1, ← edue]; show x * r * (1 + x6) / 2 = (if la i = 1 ∧ du ≤ fm then x * r else 0)
        rcases h6 with h6 | h6
        · omega
        · rw [if_pos h6.2, h6.1]; omega
    refine ⟨by omega, by omega, r15, σ11, he11, hF7.g hG, hr11, fun z => at153 0 ?_, fun z => at153 x ?_⟩
    · rw [cif_neg]
      intro q
      exact z (h11.trans ((cnt1 (p := b j) i0 (by omega) hb).mpr (fun q' a c e => q q' a (by omega) e)))
    · rw [cif_pos]
      have := (cnt1 (p := b j) i0 (by omega) hb).mp (h11.symm.trans z)
      exact fun q' a c e => this q' a (by omega) e
  -- one row
  have inner : ∀ (j : Int), 0 ≤ j → j < n → (∀ τ : aH, Inv τ (j + 1) 0 (j + 1) → L_X10_counts_2 (Ev sc (d + 1)) sc P p x (j + 1) τ) → ∀ (f : Nat) (i : Int) (τ : aH), (n - i).toNat = f → 0 ≤ i → i ≤ n → Inv τ j i (j + 1) → L_X10_counts_43 (Ev sc (d + 1)) sc P p x j (bs (b j) n.toNat) i τ := by
    intro j j0 j1 next f
    have bB := bs_30 (b j) (n := n.toNat) (by omega)
    induction f with
    | zero =>
      intro i τ hf i0 i1 h
      have hF : Fr AK σ τ := by rw [hInv] at h; exact h.1
      obtain ⟨kG, kn, kfm, kk, kr, kon, kla, kdu⟩ := keep τ hF
      have e : i = n := by omega
      rw [e] at h
      apply v_X10_counts_43 kG hp (by omega) (by omega) bB (by omega)
      exact ⟨fun _ => ⟨by omega, next τ (row τ j j0 h)⟩, fun q => by omega⟩
    | succ f ih =>
      intro i τ hf i0 i1 h
      have hF : Fr AK σ τ := by rw [hInv] at h; exact h.1
      obtain ⟨kG, kn, kfm, kk, kr, kon, kla, kdu⟩ := keep τ hF
      apply v_X10_counts_43 kG hp (by omega) (by omega) bB (by omega)
      rw [z_bt bB i0 (by omega), bs_bit (b j) i0 (by omega), kla i i0 (by omega), kfm, kdu, kr]
      refine ⟨fun q => by omega, fun _ => ⟨fun q => ?_, fun q => ?_⟩⟩
      · have hb : b j i := by
          by_cases z : b j i
          · exact z
          · rw [cif_neg z] at q; exact absurd rfl q
        have nx : ∀ τ1 : aH, Inv τ1 j (i + 1) (j + 1) → L_X10_counts_43 (Ev sc (d + 1)) sc P p x j (bs (b j) n.toNat) (i + 1) τ1 := fun τ1 h1 => ih (i + 1) τ1 (by omega) (by omega) (by omega) h1
        refine ⟨by omega, fun q1 => ⟨by omega, ?_⟩, fun q1 => ⟨fun q2 => ⟨by omega, ?_⟩, fun q2 => ⟨by omega, ?_⟩⟩⟩
        · exact bit τ j i (j + 1) 0 j0 j1 i0 (by omega) hb (Or.inl ⟨rfl, fun z => q1 z.1⟩) h nx
        · exact bit τ j i (j + 1) 0 j0 j1 i0 (by omega) hb (Or.inl ⟨rfl, fun z => by omega⟩) h nx
        · exact bit τ j i (j + 1) 1 j0 j1 i0 (by omega) hb (Or.inr ⟨rfl, q1, by omega⟩) h nx
      · have hb : ¬ b j i := by
          intro z
          rw [cif_pos z] at q; exact absurd q (by decide)
        exact ⟨by omega, ih (i + 1) τ (by omega) (by omega) (by omega) (skip τ j i (j + 1) i0 hb h)⟩
  have outer : ∀ (f : Nat) (j : Int) (τ : aH), (n - j).toNat = f → 0 ≤ j → j ≤ n → Inv τ j 0 j → L_X10_counts_2 (Ev sc (d + 1)) sc P p x j τ := by
    intro f
    induction f with
    | zero =>
      intro j τ hf j0 j1 h
      have e : j = n := by omega
      rw [e] at h
      rw [hInv] at h
      obtain ⟨kG, kn, kfm, kk, kr, kon, kla, kdu⟩ := keep τ h.1
      apply v_X10_counts_2 kG hp (by omega) (by omega)
      refine ⟨fun _ => ?_, fun q => by omega⟩
      rw [hP]
      refine ⟨rfl, h.1, h.2.congr (fun a c a0 a1 c0 c1 => ?_) (fun c c0 c1 => ?_) rfl rfl (fun _ _ _ => rfl) (fun _ _ _ => rfl)⟩
      · have e2 : Dn n 0 c a ∧ b c a ↔ b c a := ⟨fun q => q.2, fun q => ⟨Or.inl c1, q⟩⟩
        rw [e2]; exact ⟨rfl, rfl, rfl⟩
      · have e2 : c < n ∧ AnyB b n c ↔ AnyB b n c := ⟨fun q => q.2, fun q => ⟨c1, q⟩⟩
        rw [e2]
    | succ f ih =>
      intro j τ hf j0 j1 h
      have hF : Fr AK σ τ := by rw [hInv] at h; exact h.1
      obtain ⟨kG, kn, kfm, kk, kr, kon, kla, kdu⟩ := keep τ hF
      apply v_X10_counts_2 kG hp (by omega) (by omega)
      rw [kk]
      refine ⟨fun q => by omega, fun _ => ⟨by omega, by omega, fun z2 e2 => ?_⟩⟩
      rw [kon j j0 (by omega)] at e2
      rw [e2]
      have nx : ∀ τ1 : aH, Inv τ1 (j + 1) 0 (j + 1) → L_X10_counts_2 (Ev sc (d + 1)) sc P p x (j + 1) τ1 := fun τ1 h1 => ih (j + 1) τ1 (by omega) (by omega) (by omega) h1
      have hh := h
      rw [hInv] at hh
      have hch := hh.2.2.1 j j0 (by omega)
      dsimp only at hch
      rw [cif_neg (fun z => by have := z.1; omega), Int.add_zero] at hch
      have bch := hB.2.1 j j0 (by omega)
      refine ⟨fun q => ⟨by omega, by rw [hch]; omega, by omega, fun σ6 e6 => ?_⟩, fun q => ⟨by omega, nx τ ?_⟩⟩
      · have any : AnyB b n j := by
          apply Classical.byContradiction
          intro z
          exact q (bs_zero.mpr (fun i i0 i1 hi => z ⟨i, i0, by omega, hi⟩))
        refine inner j j0 (by omega) nx _ 0 σ6 rfl (by omega) (by omega) ?_
        rw [hInv]
        obtain ⟨hF', g1, g2, g3, g4, g5, g6⟩ := hh
        refine ⟨by rw [← e6]; exact hF.trans (Fr.w j0 (Or.inl (by omega))), fun a c a0 a1 c0 c1 => ?_, fun c c0 c1 => ?_, ?_, ?_, fun h h0 h1 => ?_, fun q q0 q1 => ?_⟩
        · have := g1 a c a0 a1 c0 c1
          rw [← e6, rI_wa (by omega), rI_wa (by omega), rI_wa (by omega)]; exact this
        · have g2c := g2 c c0 c1
          dsimp only at g2c ⊢
          rw [← e6]
          by_cases z : c = j
          · rw [z, rI_ww (by rw [hch]; omega), hch, cif_pos ⟨by omega, any⟩]
          · rw [rI_wi (by omega), g2c]
            congr 1
            exact cif_congr ⟨fun y => ⟨by omega, y.2⟩, fun y => ⟨by omega, y.2⟩⟩
        · rw [← e6, rI_wa (by omega)]; exact g3
        · rw [← e6, rI_wa (by omega)]; exact g4
        · rw [← e6, rI_wa (by omega)]; exact g5 h h0 h1
        · rw [← e6, rI_wa (by omega)]; exact g6 q q0 q1
      · have none : ∀ i : Int, 0 ≤ i → i < n → ¬ b j i := fun i i0 i1 => bs_zero.mp q i i0 (by omega)
        have all : ∀ (m : Nat) (i : Int), (n - i).toNat = m → 0 ≤ i → i ≤ n → Inv τ j i j → Inv τ j n j := by
          intro m
          induction m with
          | zero => intro i hm i0 i1 hi; rw [show n = i by omega]; exact hi
          | succ m ihm => intro i hm i0 i1 hi; exact ihm (i + 1) (by omega) (by omega) (by omega) (skip τ j i j i0 (none i i0 (by omega)) hi)
        have h2 := all _ 0 rfl (by omega) (by omega) h
        refine row τ j j0 ?_
        rw [hInv] at h2 ⊢
        refine ⟨h2.1, h2.2.congr (fun a c _ _ _ _ => ⟨rfl, rfl, rfl⟩) (fun c c0 c1 => ?_) rfl rfl (fun _ _ _ => rfl) (fun _ _ _ => rfl)⟩
        have e3 : c < j ∧ AnyB b n c ↔ c < j + 1 ∧ AnyB b n c := by
          constructor
          · rintro ⟨y1, y2⟩; exact ⟨by omega, y2⟩
          · rintro ⟨y1, y2⟩
            refine ⟨?_, y2⟩
            by_cases y : c = j
            · obtain ⟨i, i0, i1, hi⟩ := y2
              rw [y] at hi; exact absurd hi (none i i0 i1)
            · omega
        rw [e3]
  refine outer _ 0 σ rfl (by omega) (by omega) ?_
  rw [hInv]
  have z0 : ∀ f : Int → Int, SS b n f 0 0 = 0 := fun f => by
    unfold SS
    have a1 : sm (fun c => sm (fun a => cif (b c a) (f a) 0) n.toNat) (0 : Int).toNat = 0 := sm_0 _
    have a2 : sm (fun a => cif (b 0 a) (f a) 0) (0 : Int).toNat = 0 := sm_0 _
    rw [a1, a2]; rfl
  refine ⟨Fr.refl _ _, hA.congr (fun i j a0 a1 c0 c1 => ?_) (fun j a0 a1 => ?_) ?_ ?_ (fun h _ _ => ?_) (fun q _ _ => ?_)⟩
  · have nD : ¬ (Dn 0 0 j i ∧ b j i) := fun q => by have := q.1; unfold Dn at this; omega
    rw [cif_neg nD, cif_neg nD, cif_neg (fun q => nD q.1)]; omega
  · rw [cif_neg (fun q => by have := q.1; omega)]; omega
  · rw [z0]; omega
  · rw [z0]; omega
  · rw [z0]; split <;> omega
  · rw [z0]; split <;> omega
end
