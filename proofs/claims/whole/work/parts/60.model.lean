/-! THE REFERENCE: its rows; who is there; who stands where; what covers. -/
def Dm (m : Nat → Int → Int) : Nat → Int → Int := fun f i => if i.toNat < 9 then m (91 + i.toNat) f else 0
theorem Dm_at {m : Nat → Int → Int} {f : Nat} {i : Int} (h : i < 9) : Dm m f i = m (91 + i.toNat) f := if_pos (by omega)
def gm (g : Int) : Int := if g < 0 then 0 else 2 ^ g.toNat
theorem gm_bt {g s : Int} (hg : -1 ≤ g ∧ g ≤ 8) (hs : 0 ≤ s ∧ s ≤ 8) : (bt (gm g) s = 0 ↔ s ≠ g) ∧ 0 ≤ gm g ∧ gm g ≤ 256 := by
  have h : ∀ a : Nat, a < 10 → ∀ b : Nat, b < 9 → ((bt (gm ((a : Int) - 1)) b = 0 ↔ (b : Int) ≠ (a : Int) - 1) ∧ 0 ≤ gm ((a : Int) - 1) ∧ gm ((a : Int) - 1) ≤ 256) := by decide +kernel
  have := h (g + 1).toNat (by omega) s.toNat (by omega)
  rw [show (((g + 1).toNat : Nat) : Int) - 1 = g by omega, show ((s.toNat : Nat) : Int) = s by omega] at this
  exact this
/-- n stalls, g is not there -/
def MN (σ : aH) (n g : Int) : Prop := rI σ 76 28 = n ∧ (0 ≤ n ∧ n ≤ 9) ∧ rI σ 76 27 = gm g ∧ (-1 ≤ g ∧ g ≤ 8)
theorem MN.fr {A : Nat → Int → Prop} {σ σ1 : aH} {n g : Int} (h : MN σ n g) (hF : Fr A σ σ1) (h1 : ¬ A 76 28) (h2 : ¬ A 76 27) : MN σ1 n g := ⟨(hF.rw (by omega) h1).trans h.1, h.2.1, (hF.rw (by omega) h2).trans h.2.2.1, h.2.2.2⟩
theorem Dm_w {σ : aH} {f : Nat} {s v : Int} (hs : s < 9) (hv : inR v) : Dm (rI (wI σ (91 + s.toNat) f v)) = Dset (Dm (rI σ)) f s v := by
  funext f1 i
  unfold Dm Dset
  rw [rI_w hv]
  by_cases c : f1 = f ∧ i.toNat = s.toNat
  · rw [if_pos (by omega), if_pos ⟨by omega, by omega⟩, if_pos c]
  · by_cases c2 : i.toNat < 9
    · rw [if_pos c2, if_neg (by omega), if_neg c]; exact (if_pos c2).symm
    · rw [if_neg c2, if_neg c]; exact (if_neg c2).symm
theorem Dm_congr {m m1 : Nat → Int → Int} (h : ∀ (a : Nat) (f : Nat), 91 ≤ a → a ≤ 99 → m1 a f = m a f) : Dm m1 = Dm m := by
  funext f i
  unfold Dm
  by_cases c : i.toNat < 9
  · rw [if_pos c, if_pos c]; exact h _ _ (by omega) (by omega)
  · rw [if_neg c, if_neg c]
theorem Dm_o {σ : aH} {a : Nat} {i v : Int} (h : a < 91 ∨ 100 ≤ a) : Dm (rI (wI σ a i v)) = Dm (rI σ) := Dm_congr (fun b f p q => rI_wa (by omega))
theorem Dm_fr {A : Nat → Int → Prop} {σ σ1 : aH} (hF : Fr A σ σ1) (h : ∀ (a : Nat) (i : Int), 91 ≤ a → a ≤ 99 → ¬ A a i) : Dm (rI σ1) = Dm (rI σ) := Dm_congr (fun b f p q => hF.rw (by omega) (h b f p q))
theorem Dm_tn (m : Nat → Int → Int) (f : Nat) (i : Int) : Dm m f i = Dm m f (i.toNat : Int) := rfl
/-- who covers j but b -/
def Cov (D : Nat → Int → Int) (n g j b : Int) : Prop := ∃ k : Int, 0 ≤ k ∧ k < n ∧ k ≠ g ∧ k ≠ b ∧ k ≠ j ∧ D 0 k = D 0 j ∧ 1 ≤ D 1 j - D 1 k ∧ D 1 j - D 1 k ≤ D 3 k
section
variable {sc : Nat × (Nat → Int32)} {d : Nat} {σ : aH} {u : Nat} {n g : Int}
theorem m_in {x lo hi : Int} (hG : G σ u) (r0 : inR x) (r1 : inR lo) (r2 : inR hi) : TI sc (d + 1) mX10_in [.int (nZ x), .int (nZ lo), .int (nZ hi)] σ (fun r σ1 => σ1 = σ ∧ ((r = 1 ∧ lo ≤ x ∧ x ≤ hi) ∨ (r = 0 ∧ ¬ (lo ≤ x ∧ x ≤ hi)))) := by
  apply T.int
  apply t_X10_in hG r0 r1 r2
  repeat' (first | intro _ | apply And.intro)
  all_goals first | exact ⟨1, rfl, by decide, rfl, Or.inl ⟨rfl, by omega, by omega⟩⟩ | exact ⟨0, rfl, by decide, rfl, Or.inr ⟨rfl, by omega⟩⟩
theorem m_isThere {s : Int} (hG : G σ u) (hN : MN σ n g) (hs : 0 ≤ s ∧ s ≤ 8) : TI sc (d + 1) mX10_isThere [.ref 76, .int (nZ s)] σ (fun r σ1 => σ1 = σ ∧ ((r = 1 ∧ s ≠ g) ∨ (r = 0 ∧ s = g))) := by
  have hb := gm_bt hN.2.2.2 hs
  apply T.int
  apply t_X10_isThere hG (by omega)
  rw [hN.2.2.1, z_bt (by omega) hs.1 (by omega)]
  refine ⟨fun q => ⟨0, rfl, by decide, rfl, Or.inr ⟨rfl, ?_⟩⟩, fun q => ⟨1, rfl, by decide, rfl, Or.inl ⟨rfl, hb.1.mp q⟩⟩⟩
  by_cases c : s = g
  · exact c
  · exact absurd (hb.1.mpr c) q
theorem m_stallOn {x y : Int} (hG : G σ u) (hN : MN σ n g) (rx : inR x) (ry : inR y) : TI sc (d + 2) mX10_stallOn [.ref 76, .int (nZ x), .int (nZ y)] σ (fun r σ1 => σ1 = σ ∧ ((r = -1 ∧ ∀ k : Int, k ≠ g → ¬ At (Dm (rI σ)) n x y k) ∨ ((At (Dm (rI σ)) n x y r ∧ r ≠ g) ∧ ∀ k : Int, k < r → k ≠ g → ¬ At (Dm (rI σ)) n x y k))) := by
  have hn := hN.1
  have h9 := hN.2.1
  apply T.int
  apply t_X10_stallOn hG rx ry
  obtain ⟨P, hP⟩ : ∃ P : aO → aH → Prop, P = QI (fun r σ1 => σ1 = σ ∧ ((r = -1 ∧ ∀ k : Int, k ≠ g → ¬ At (Dm (rI σ)) n x y k) ∨ ((At (Dm (rI σ)) n x y r ∧ r ≠ g) ∧ ∀ k : Int, k < r → k ≠ g → ¬ At (Dm (rI σ)) n x y k))) := ⟨_, rfl⟩
  rw [← hP]
  have loop : ∀ (f : Nat) (i : Int), (n - i).toNat = f → 0 ≤ i → i ≤ n → (∀ k : Int, k < i → k ≠ g → ¬ At (Dm (rI σ)) n x y k) → L_X10_stallOn_2 (Ev sc (d + 1)) sc P x y i σ := by
    intro f
    induction f with
    | zero =>
      intro i hf i0 i1 hk
      apply v_X10_stallOn_2 hG rx ry (by omega)
      refine ⟨fun _ => ?_, fun q => by omega⟩
      rw [hP]
      exact ⟨-1, rfl, by decide, rfl, Or.inl ⟨rfl, fun k kg ha => hk k (by have := ha.2.1; omega) kg ha⟩⟩
    | succ f ih =>
      intro i hf i0 i1 hk
      obtain ⟨r5, σ1, he, hr, e1, h1⟩ := m_isThere (sc := sc) (d := d) (s := i) hG hN (by omega)
      subst e1
      have nx : (i = g ∨ ¬ At (Dm (rI σ1)) n x y i) → L_X10_stallOn_2 (Ev sc (d + 1)) sc P x y (i + 1) σ1 := by
        intro z
        refine ih (i + 1) (by omega) (by omega) (by omega) (fun k hk1 hk2 => ?_)
        by_cases c : k = i
        · rcases z with z | z
          · omega
          · rw [c]; exact z
        · exact hk k (by omega) hk2
      apply v_X10_stallOn_2 hG rx ry (by omega)
      refine ⟨fun q => by omega, fun _ => ⟨r5, σ1, he, hG, hr, fun q => ⟨by omega, nx (by omega)⟩, fun q => ⟨by omega, fun q1 => ⟨by omega, nx (Or.inr (fun z => q1 ((Dm_at (by omega)).symm.trans z.2.2.1)))⟩, fun q1 => ⟨by omega, fun q2 => ⟨by omega, nx (Or.inr (fun z => q2 ((Dm_at (by omega)).symm.trans z.2.2.2)))⟩, fun q2 => ?_⟩⟩⟩⟩
      rw [hP]
      exact ⟨i, rfl, by omega, rfl, Or.inr ⟨⟨⟨i0, by omega, (Dm_at (by omega)).trans q1, (Dm_at (by omega)).trans q2⟩, by omega⟩, hk⟩⟩
  exact loop _ 0 rfl (by omega) (by omega) (fun k a _ z => by have := z.1; omega)
theorem m_isCovered {j b : Int} (hG : G σ u) (hN : MN σ n g) (hS : StB (Dm (rI σ)) n) (hj : 0 ≤ j ∧ j < n) (hb : inR b) : TI sc (d + 2) mX10_isCovered [.ref 76, .int (nZ j), .int (nZ b)] σ (fun r σ1 => σ1 = σ ∧ ((r = 1 ∧ Cov (Dm (rI σ)) n g j b) ∨ (r = 0 ∧ ¬ Cov (Dm (rI σ)) n g j b))) := by
  have hn := hN.1
  have h9 := hN.2.1
  apply T.int
  apply t_X10_isCovered hG (by omega) hb
  obtain ⟨P, hP⟩ : ∃ P : aO → aH → Prop, P = QI (fun r σ1 => σ1 = σ ∧ ((r = 1 ∧ Cov (Dm (rI σ)) n g j b) ∨ (r = 0 ∧ ¬ Cov (Dm (rI σ)) n g j b))) := ⟨_, rfl⟩
  rw [← hP]
  have loop : ∀ (f : Nat) (i : Int), (n - i).toNat = f → 0 ≤ i → i ≤ n → (∀ k : Int, 0 ≤ k → k < i → k ≠ g → k ≠ b → k ≠ j → ¬ (Dm (rI σ) 0 k = Dm (rI σ) 0 j ∧ 1 ≤ Dm (rI σ) 1 j - Dm (rI σ) 1 k ∧ Dm (rI σ) 1 j - Dm (rI σ) 1 k ≤ Dm (rI σ) 3 k)) → L_X10_isCovered_2 (Ev sc (d + 1)) sc P j b i σ := by
    intro f
    induction f with
    | zero =>
      intro i hf i0 i1 hk
      apply v_X10_isCovered_2 hG (by omega) hb (by omega)
      refine ⟨fun _ => ?_, fun q => by omega⟩
      rw [hP]
      exact ⟨0, rfl, by decide, rfl, Or.inr ⟨rfl, fun ⟨k, a1, a2, a3, a4, a5, a6⟩ => hk k a1 (by omega) a3 a4 a5 a6⟩⟩
    | succ f ih =>
      intro i hf i0 i1 hk
      obtain ⟨r5, σ1, he, hr, e1, h1⟩ := m_isThere (sc := sc) (d := d) (s := i) hG hN (by omega)
      subst e1
      have si : (0 ≤ Dm (rI σ1) 0 i ∧ Dm (rI σ1) 0 i ≤ 8) ∧ (0 ≤ Dm (rI σ1) 1 i ∧ Dm (rI σ1) 1 i ≤ 8) ∧ _ := hS.2 i i0 (by omega)
      have sj : (0 ≤ Dm (rI σ1) 0 j ∧ Dm (rI σ1) 0 j ≤ 8) ∧ (0 ≤ Dm (rI σ1) 1 j ∧ Dm (rI σ1) 1 j ≤ 8) ∧ _ := hS.2 j hj.1 hj.2
      obtain ⟨si0, si1, -⟩ := si
      obtain ⟨sj0, sj1, -⟩ := sj
      have nx : (i = g ∨ i = b ∨ i = j ∨ ¬ (Dm (rI σ1) 0 i = Dm (rI σ1) 0 j ∧ 1 ≤ Dm (rI σ1) 1 j - Dm (rI σ1) 1 i ∧ Dm (rI σ1) 1 j - Dm (rI σ1) 1 i ≤ Dm (rI σ1) 3 i)) → L_X10_isCovered_2 (Ev sc (d + 1)) sc P j b (i + 1) σ1 := by
        intro z
        refine ih (i + 1) (by omega) (by omega) (by omega) (fun k k0 k1 k2 k3 k4 => ?_)
        by_cases c : k = i
        · rcases z with z | z | z | z
          · omega
          · omega
          · omega
          · rw [c]; exact z
        · exact hk k k0 (by omega) k2 k3 k4
      have ex : rI σ1 (91 + i.toNat) 0 = Dm (rI σ1) 0 i := (Dm_at (by omega)).symm
      have ey : rI σ1 (91 + i.toNat) 1 = Dm (rI σ1) 1 i := (Dm_at (by omega)).symm
      have ew : rI σ1 (91 + i.toNat) 3 = Dm (rI σ1) 3 i := (Dm_at (by omega)).symm
      have ex2 : rI σ1 (91 + j.toNat) 0 = Dm (rI σ1) 0 j := (Dm_at (by omega)).symm
      have ey2 : rI σ1 (91 + j.toNat) 1 = Dm (rI σ1) 1 j := (Dm_at (by omega)).symm
      apply v_X10_isCovered_2 hG (by omega) hb (by omega)
      refine ⟨fun q => by omega, fun _ => ⟨r5, σ1, he, hG, hr, ?_⟩⟩
      rw [ex, ey, ew, ex2, ey2]
      refine ⟨fun q => ⟨by omega, nx (by omega)⟩, fun q => ⟨fun q1 => ⟨by omega, nx (Or.inr (Or.inl q1))⟩, fun q1 => ⟨fun q2 => ⟨by omega, nx (Or.inr (Or.inr (Or.inl q2)))⟩, fun q2 => ⟨by omega, by omega, fun q3 => ⟨by omega, nx (Or.inr (Or.inr (Or.inr (fun z => q3 z.1))))⟩, fun q3 => ⟨by omega, by omega, by omega, by omega, ?_⟩⟩⟩⟩⟩
      obtain ⟨r20, σ16, he16, hr16, e16, h16⟩ := m_in (sc := sc) (d := d) (x := Dm (rI σ1) 1 j - Dm (rI σ1) 1 i) (lo := 1) (hi := Dm (rI σ1) 3 i) hG (by omega) (by decide) (by rw [← ew]; exact rI_R _ _ _)
      subst e16
      refine ⟨r20, σ16, he16, hG, hr16, fun z => ⟨by omega, nx (Or.inr (Or.inr (Or.inr (fun z2 => ?_))))⟩, fun z => ?_⟩
      · rcases h16 with h16 | h16
        · omega
        · exact h16.2 z2.2
      · rw [hP]
        refine ⟨1, rfl, by decide, rfl, Or.inl ⟨rfl, i, i0, by omega, by omega, q1, q2, q3, ?_⟩⟩
        rcases h16 with h16 | h16
        · exact h16.2
        · omega
  exact loop _ 0 rfl (by omega) (by omega) (fun k a b => by omega)
theorem m_lengthBy {s k : Int} (hG : G σ u) (hw : 0 ≤ rI σ 76 19 ∧ rI σ 76 19 ≤ 1) (hs : 0 ≤ s ∧ s < 9) (h2 : 0 ≤ Dm (rI σ) 2 s ∧ Dm (rI σ) 2 s ≤ 60) (hk : 0 ≤ k ∧ k < 20) (h3 : 0 ≤ rI σ (122 + k.toNat) 3 ∧ rI σ (122 + k.toNat) 3 ≤ 9) : TI sc (d + 1) mX10_lengthBy [.ref 76, .int (nZ s), .int (nZ k)] σ (fun r σ1 => σ1 = σ ∧ r = Dm (rI σ) 2 s * rI σ (122 + k.toNat) 3 * (1 + rI σ 76 19) / 10) := by
  apply T.int
  apply t_X10_lengthBy hG (by omega) (by omega)
  have e2 : rI σ (91 + s.toNat) 2 = Dm (rI σ) 2 s := (Dm_at (by omega)).symm
  rw [e2]
  have m1 := mul_bd h2.1 h2.2 h3.1 h3.2
  have m2 := mul_bd m1.1 m1.2 (show 0 ≤ 1 + rI σ 76 19 by omega) (show 1 + rI σ 76 19 ≤ 2 by omega)
  refine ⟨fun _ => ⟨by omega, by omega, by omega, by omega, by omega, ⟨by omega, by omega⟩, by omega, ?_⟩, fun q => by omega⟩
  exact ⟨_, rfl, by omega, rfl, rfl⟩
theorem m_ones {b : Int} (hG : G σ u) (hb : 0 ≤ b ∧ b ≤ 2147483647) : TI sc (d + 1) mX10_ones [.int (nZ b)] σ (fun r σ1 => σ1 = σ ∧ r = sm (fun k => bt b k) 24) := by
  apply T.int
  apply t_X10_ones hG (by omega)
  obtain ⟨P, hP⟩ : ∃ P : aO → aH → Prop, P = QI (fun r σ1 => σ1 = σ ∧ r = sm (fun k => bt b k) 24) := ⟨_, rfl⟩
  rw [← hP]
  have sb : ∀ k : Nat, 0 ≤ sm (fun k => bt b k) k ∧ sm (fun k => bt b k) k ≤ k := by
    intro k
    have := sm_bd (f := fun k => bt b k) (lo := 0) (hi := 1) (n := k) (fun t _ _ => by have := bt_01 b t; show 0 ≤ bt b t ∧ bt b t ≤ 1; omega)
    omega
  have loop : ∀ (f k : Nat), 24 - k = f → k ≤ 24 → L_X10_ones_4 (Ev sc d) sc P b (sm (fun k => bt b k) k) (k : Int) σ := by
    intro f
    induction f with
    | zero =>
      intro k hf hk
      have := sb k
      apply v_X10_ones_4 hG (by omega) (by omega) (by omega)
      refine ⟨fun _ => ?_, fun q => by omega⟩
      rw [hP, show k = 24 by omega]
      have := sb 24
      exact ⟨_, rfl, by omega, rfl, rfl⟩
    | succ f ih =>
      intro k hf hk
      have := sb k
      have h01 := bt_01 b k
      apply v_X10_ones_4 hG (by omega) (by omega) (by omega)
      rw [z_bt (by omega) (by omega) (by omega)]
      refine ⟨fun q => by omega, fun _ => ⟨by omega, fun z ez => ⟨by omega, ?_⟩⟩⟩
      have := ih (k + 1) (by omega) (by omega)
      rw [sm_succ] at this
      rw [ez]; exact this
  have := loop _ 0 rfl (by omega)
  rw [sm_0] at this
  exact this
end
