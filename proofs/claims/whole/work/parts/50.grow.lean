/-! HARMLESS; goods that grow; when. -/
/-- all that the questions of minutes take of the class -/
def Cm (σ : aH) (u : Nat) (n : Int) (S : Int → Int) : Prop := G σ u ∧ Sh σ u n ∧ WtS (rI σ) 31 S one (fun _ => 0) ∧ SB S
def Dgrow (D : Nat → Int → Int) (n : Int) : Nat → Int → Int := fun f i => if f = 2 ∧ i.toNat < n.toNat ∧ D 2 i < D 5 i then min (D 5 i) (D 2 i + D 4 i) else D f i
def DgN (D : Nat → Int → Int) (n : Int) : Nat → (Nat → Int → Int)
  | 0 => D
  | k + 1 => Dgrow (DgN D n k) n
/-- how much the goods of the first n may grow -/
def Hg (D : Nat → Int → Int) (n : Int) : Prop := ∀ i : Int, 0 ≤ i → i < n → (0 ≤ D 4 i ∧ D 4 i ≤ 5) ∧ (0 ≤ D 5 i ∧ D 5 i ≤ 60)
def FirstK (U : Int → Prop) (K r : Int) : Prop := (r = -1 ∧ ∀ q : Int, 0 ≤ q → q ≤ K → ¬ U q) ∨ ((0 ≤ r ∧ r ≤ K) ∧ U r ∧ ∀ q : Int, 0 ≤ q → q < r → ¬ U q)
theorem FirstK.uniq {U : Int → Prop} {K r q : Int} (h : FirstK U K r) (k : FirstK U K q) : r = q := by
  rcases h with ⟨h1, h2⟩ | ⟨h1, h2, h3⟩ <;> rcases k with ⟨k1, k2⟩ | ⟨k1, k2, k3⟩
  · omega
  · exact absurd k2 (h2 q k1.1 k1.2)
  · exact absurd h2 (k2 r h1.1 h1.2)
  · by_cases e : r = q
    · exact e
    · by_cases c : r < q
      · exact absurd h2 (k3 r h1.1 c)
      · exact absurd k2 (h3 q k1.1 (by omega))
theorem Dgrow_ne {D : Nat → Int → Int} {n : Int} {f : Nat} {i : Int} (h : f ≠ 2) : Dgrow D n f i = D f i := if_neg (fun q => h q.1)
theorem Dgrow_far {D : Nat → Int → Int} {n : Int} {f : Nat} {i : Int} (h : n.toNat ≤ i.toNat) : Dgrow D n f i = D f i := if_neg (fun q => by omega)
theorem Dgrow_step {D : Nat → Int → Int} {i : Int} (hi : 0 ≤ i) (hD : ∀ (f : Nat) (j : Int), D f j = D f (j.toNat : Int)) : Dgrow D (i + 1) = if D 2 i < D 5 i then Dset (Dgrow D i) 2 i (min (D 5 i) (D 2 i + D 4 i)) else Dgrow D i := by
  funext f j
  by_cases c : D 2 i < D 5 i
  · rw [if_pos c]
    unfold Dset
    by_cases e : f = 2 ∧ j.toNat = i.toNat
    · rw [if_pos e]
      have ej : ∀ q : Nat, D q j = D q i := fun q => by rw [hD q j, hD q i, e.2]
      unfold Dgrow
      rw [if_pos ⟨e.1, by omega, by rw [ej, ej]; exact c⟩, ej, ej, ej]
    · rw [if_neg e]
      unfold Dgrow
      by_cases g : f = 2 ∧ j.toNat < i.toNat ∧ D 2 j < D 5 j
      · rw [if_pos g, if_pos ⟨g.1, by omega, g.2.2⟩]
      · rw [if_neg g, if_neg (fun q => g ⟨q.1, by omega, q.2.2⟩)]
  · rw [if_neg c]
    unfold Dgrow
    by_cases g : f = 2 ∧ j.toNat < i.toNat ∧ D 2 j < D 5 j
    · rw [if_pos g, if_pos ⟨g.1, by omega, g.2.2⟩]
    · rw [if_neg g, if_neg (fun q => ?_)]
      by_cases e : j.toNat = i.toNat
      · have ej : ∀ q : Nat, D q j = D q i := fun q => by rw [hD q j, hD q i, e]
        rw [ej, ej] at q; exact c q.2.2
      · exact g ⟨q.1, by omega, q.2.2⟩
theorem Dgrow_stb {D : Nat → Int → Int} {n m : Int} (hS : StB D n) (hg : Hg D n) : StB (Dgrow D m) n := by
  refine ⟨hS.1, fun i i0 i1 => ?_⟩
  obtain ⟨a, b, c, e, g⟩ := hS.2 i i0 i1
  have k := hg i i0 i1
  rw [Dgrow_ne (f := 0) (by decide), Dgrow_ne (f := 1) (by decide), Dgrow_ne (f := 3) (by decide), Dgrow_ne (f := 6) (by decide)]
  refine ⟨a, b, ?_, e, g⟩
  unfold Dgrow
  split <;> omega
theorem Dgrow_hg {D : Nat → Int → Int} {n m : Int} (hg : Hg D n) : Hg (Dgrow D m) n := fun i i0 i1 => by
  rw [Dgrow_ne (f := 4) (by decide), Dgrow_ne (f := 5) (by decide)]; exact hg i i0 i1
theorem Deq.grow {n : Int} {D D1 : Nat → Int → Int} (h : Deq n D D1) : Deq n (Dgrow D n) (Dgrow D1 n) := by
  intro f i f6 i0 i1
  unfold Dgrow
  rw [h 2 i (by decide) i0 i1, h 5 i (by decide) i0 i1, h 4 i (by decide) i0 i1, h f i f6 i0 i1]
theorem Deq.growN {n : Int} {D D1 : Nat → Int → Int} (h : Deq n D D1) : ∀ k : Nat, Deq n (DgN D n k) (DgN D1 n k)
  | 0 => h
  | k + 1 => (Deq.growN h k).grow
section
variable {sc : Nat × (Nat → Int32)} {d : Nat} {σ : aH} {u v : Nat} {n : Int} {S F F1 : Int → Int}
theorem Cm.mk (h : Cm σ u n S) : u = 39 ∨ u = 60 := h.1.2.2.2.2
theorem Cm.n9 (h : Cm σ u n S) : 0 ≤ n ∧ n ≤ 9 := ⟨h.2.1.2.1, h.2.1.2.2.1.1⟩
theorem Cm.fr {τ : aH} {A : Nat → Int → Prop} (h : Cm σ u n S) (hF : Fr A σ τ) (h1 : ¬ A (u + 1) 8) (h2 : ¬ A u 9) (h3 : ∀ i : Int, ¬ A 32 i) (h4 : ∀ i : Int, ¬ A 33 i) (hB : StB (Dc (rI τ) u) n) : Cm τ u n S := by
  obtain ⟨hG, hSh, hW, r⟩ := h
  refine ⟨hF.g hG, ⟨(hF.rw (by omega) h1).trans hSh.1, hSh.2.1, hB, ?_⟩, hW.fr hF (fun a i q => ?_), r⟩
  · rw [hF.rw (by omega) h2]; exact hSh.2.2.2
  · rcases q with rfl | rfl
    · exact h3 i
    · exact h4 i
theorem s_greatestHarmless {s : Int} (hC : Cm σ u n S) (hs : 0 ≤ s ∧ s < n) : TI sc (d + 4) mX4_greatestHarmless [.ref 26, .int (nZ s)] σ (fun r σ1 => Fr (fun a i => a = u + 4 ∧ i = s) σ σ1 ∧ Dc (rI σ1) u = Dc (rI σ) u ∧ HlessS (Dc (rI σ) u) n (rI σ (u + 1) 9) (1 + rI σ u 9) S s r) := by
  have hm := hC.mk
  have hn9 := hC.n9
  have hSt := hC.2.1.2.2.1
  apply T.int
  apply t_X4_greatestHarmless hC.1 (by omega)
  obtain ⟨D, hD⟩ : ∃ D : Nat → Int → Int, D = Dc (rI σ) u := ⟨_, rfl⟩
  have hDn : ∀ (f : Nat) (i : Int), D f i = D f (i.toNat : Int) := fun f i => by rw [hD]; exact Dc_tn _ _ _ _
  have hD2 : rI σ (u + 4) s = D 2 s := by rw [hD]; rfl
  rw [← hD] at hSt
  rw [← hD]
  obtain ⟨P, hP⟩ : ∃ P : aO → aH → Prop, P = QI (fun r σ1 => Fr (fun a i => a = u + 4 ∧ i = s) σ σ1 ∧ Dc (rI σ1) u = D ∧ HlessS D n (rI σ (u + 1) 9) (1 + rI σ u 9) S s r) := ⟨_, rfl⟩
  rw [← hP]
  obtain ⟨H, hH⟩ : ∃ H : Int → Prop, H = fun h => HarmS (Dset D 2 s h) n (rI σ (u + 1) 9) (1 + rI σ u 9) S s := ⟨_, rfl⟩
  have fin : ∀ (found : Int) (τ : aH), inR found → Fr (fun a i => a = u + 4 ∧ i = s) σ τ → DfEx 2 s D (Dc (rI τ) u) → HlessS D n (rI σ (u + 1) 9) (1 + rI σ u 9) S s found → ∀ σ1 : aH, wI τ (u + 4) s (rI σ (u + 4) s) = σ1 → P (.inl (some (.int (nZ found)))) σ1 := by
    intro found τ hr hF hDt hx σ1 e1
    rw [hP]
    refine ⟨found, rfl, hr, ?_, ?_, hx⟩
    · rw [← e1]; exact hF.trans (Fr.w hs.1 ⟨rfl, rfl⟩)
    · rw [← e1, Dc_wa 2 rfl (by decide) (rI_R _ _ _), hDt, hD2]; exact Dset_own hDn
  have loop : ∀ (g : Nat) (found i : Int) (τ : aH), (i + 1).toNat = g → -1 ≤ i → i ≤ 60 → inR found → Fr (fun a i => a = u + 4 ∧ i = s) σ τ → DfEx 2 s D (Dc (rI τ) u) → (found = -1 → ∀ h : Int, i < h → h ≤ 60 → ¬ H h) → (found ≠ -1 → HlessS D n (rI σ (u + 1) 9) (1 + rI σ u 9) S s found) → L_X4_greatestHarmless_19 (Ev sc (d + 3)) sc P u s (rI σ (u + 4) s) found i τ := by
    intro g
    induction g with
    | zero =>
      intro found i τ hg i0 i1 hr hF hDt h1 h2
      have hx : HlessS D n (rI σ (u + 1) 9) (1 + rI σ u 9) S s found := by
        by_cases e : found = -1
        · refine Or.inl ⟨e, fun h p1 p2 => ?_⟩
          have := h1 e h (by omega) p2
          rw [hH] at this; exact this
        · exact h2 e
      apply v_X4_greatestHarmless_19 (hF.g hC.1) (by omega) (rI_R _ _ _) hr (by omega)
      exact ⟨fun _ => ⟨by omega, fin found τ hr hF hDt hx⟩, fun q => by omega⟩
    | succ g ih =>
      intro found i τ hg i0 i1 hr hF hDt h1 h2
      apply v_X4_greatestHarmless_19 (hF.g hC.1) (by omega) (rI_R _ _ _) hr (by omega)
      refine ⟨fun q => by omega, fun _ => ⟨fun q => ⟨by omega, fin found τ hr hF hDt (h2 q)⟩, fun q => ⟨by omega, fun σ7 e7 => ?_⟩⟩⟩
      have hF7 : Fr (fun a i => a = u + 4 ∧ i = s) σ σ7 := by rw [← e7]; exact hF.trans (Fr.w hs.1 ⟨rfl, rfl⟩)
      have hD7 : Dc (rI σ7) u = Dset D 2 s i := by rw [← e7, Dc_wa 2 rfl (by decide) (by omega), hDt]
      have hC7 : Cm σ7 u n S := hC.fr hF7 (by show ¬ (u + 1 = u + 4 ∧ _); omega) (by show ¬ (u = u + 4 ∧ _); omega) (fun i => by show ¬ (32 = u + 4 ∧ _); omega) (fun i => by show ¬ (33 = u + 4 ∧ _); omega) (by rw [hD7]; exact hSt.set2 (by omega))
      obtain ⟨r14, σ8, he8, hr8, rfl, h8⟩ := s_harms (sc := sc) (d := d) hC7.1 hC7.2.1 hC7.2.2.1 hC7.2.2.2 hs
      have g9 : rI σ8 (u + 1) 9 = rI σ (u + 1) 9 := hF7.rw (by omega) (by show ¬ (u + 1 = u + 4 ∧ _); omega)
      have w9 : rI σ8 u 9 = rI σ u 9 := hF7.rw (by omega) (by show ¬ (u = u + 4 ∧ _); omega)
      have hDx : DfEx 2 s D (Dc (rI σ8) u) := by rw [hD7]; exact DfEx.of
      have eFa : FaC (rI σ8) u n = Falls (Dset D 2 s i) n (rI σ (u + 1) 9) (1 + rI σ u 9) := by
        unfold FaC; rw [hD7, g9, w9]
      rw [eFa] at h8
      refine ⟨r14, σ8, he8, hF7.g hC.1, hr8, fun q1 => ⟨by omega, ?_⟩, fun q1 => ⟨by omega, ?_⟩⟩
      · refine ih found (i + -1) σ8 (by clear h8; omega) (by clear h8; omega) (by clear h8; omega) hr hF7 hDx (fun _ h p1 p2 => ?_) (fun p => absurd q p)
        by_cases e : h = i
        · subst e
          rcases h8 with ⟨-, k, k0, k1, k2⟩ | h8
          · rw [hH]; intro z
            have := z k k0 k1
            omega
          · exact absurd h8.1 q1
        · exact h1 q h (by omega) p2
      · have hHi : H i := by
          rcases h8 with h8 | h8
          · omega
          · rw [hH]; exact h8.2
        refine ih i (i + -1) σ8 (by omega) (by omega) (by omega) (by omega) hF7 hDx (fun p => by omega) (fun _ => Or.inr ⟨by omega, by rw [hH] at hHi; exact hHi, fun h p1 p2 => ?_⟩)
        have := h1 q h p1 p2
        rw [hH] at this; exact this
  refine ⟨σ, s_stalls hC.1, hC.1, by omega, fun z5 e5 => ?_⟩
  rw [e5]
  exact loop _ (-1) 60 σ rfl (by omega) (by omega) (by decide) (Fr.refl _ _) (by rw [hD]; exact DfEx.refl _ _ _) (fun _ h p1 p2 => by omega) (fun p => absurd rfl p)
theorem s_grow (hG : G σ u) (hv : IsMk v) (hn : rI σ (v + 1) 8 = n) (h0 : 0 ≤ n ∧ n ≤ 9) (hS : StB (Dc (rI σ) v) n) (hg : Hg (Dc (rI σ) v) n) : TV sc (d + 1) mX7_grow [.ref (v + 1)] σ (fun σ1 => Fr (fun a _ => a = v + 4) σ σ1 ∧ Dc (rI σ1) v = Dgrow (Dc (rI σ) v) n) := by
  apply T.void
  apply t_X7_grow hG hv
  obtain ⟨D, hD⟩ : ∃ D : Nat → Int → Int, D = Dc (rI σ) v := ⟨_, rfl⟩
  have hDn : ∀ (f : Nat) (i : Int), D f i = D f (i.toNat : Int) := fun f i => by rw [hD]; exact Dc_tn _ _ _ _
  rw [← hD] at hS hg
  rw [← hD]
  have loop : ∀ (g : Nat) (i : Int) (τ : aH), (n - i).toNat = g → 0 ≤ i → i ≤ n → Fr (fun a _ => a = v + 4) σ τ → Dc (rI τ) v = Dgrow D i → L_X7_grow_2 (Ev sc d) sc (QV (fun σ1 => Fr (fun a _ => a = v + 4) σ σ1 ∧ Dc (rI σ1) v = Dgrow D n)) v i τ := by
    intro g
    induction g with
    | zero =>
      intro i τ hg' i0 i1 hF hDt
      have hn1 : rI τ (v + 1) 8 = n := (hF.rw (by omega) (by show ¬ (v + 1 = v + 4); omega)).trans hn
      apply v_X7_grow_2 (hF.g hG) hv (by omega)
      exact ⟨fun _ => ⟨rfl, hF, by rw [hDt, show i = n by omega]⟩, fun q => by omega⟩
    | succ g ih =>
      intro i τ hg' i0 i1 hF hDt
      have hn1 : rI τ (v + 1) 8 = n := (hF.rw (by omega) (by show ¬ (v + 1 = v + 4); omega)).trans hn
      have e2 : rI τ (v + 4) i = D 2 i := by
        have := congrFun (congrFun hDt 2) i
        rw [Dgrow_far (Nat.le_refl _)] at this; exact this
      have e5 : rI τ (v + 7) i = D 5 i := by
        have := congrFun (congrFun hDt 5) i
        rw [Dgrow_ne (by decide)] at this; exact this
      have e4 : rI τ (v + 6) i = D 4 i := by
        have := congrFun (congrFun hDt 4) i
        rw [Dgrow_ne (by decide)] at this; exact this
      have b1 := hS.2 i i0 (by omega)
      have b2 := hg i i0 (by omega)
      have st := Dgrow_step i0 hDn
      apply v_X7_grow_2 (hF.g hG) hv (by omega)
      rw [e2, e4, e5]
      refine ⟨fun q => by omega, fun _ => ⟨by omega, by omega, fun q => ⟨by omega, ?_⟩, fun q => ⟨by omega, by omega, by omega, by omega, fun z3 e3 => ⟨by omega, fun σ6 e6 => ⟨by omega, ?_⟩⟩⟩⟩⟩
      · refine ih (i + 1) τ (by omega) (by omega) (by omega) hF ?_
        rw [st, if_neg (by omega)]; exact hDt
      · subst e6
        refine ih (i + 1) _ (by omega) (by omega) (by omega) (hF.trans (Fr.w i0 rfl)) ?_
        rw [st, if_pos (by omega), Dc_wa 2 rfl (by decide) (by omega), hDt, e3]
  refine loop _ 0 σ rfl (by omega) (by omega) (Fr.refl _ _) ?_
  rw [← hD]
  funext f i
  exact (Dgrow_far (by omega)).symm
theorem s_daysTillAbove {much : Int} (hC : Cx σ u n S F F1) (hg : Hg (Dc (rI σ) u) n) (hy : inR much) : TI sc (d + 4) mX4_daysTillAbove [.ref 26, .int (nZ much)] σ (fun r σ1 => Fr (fun a _ => a = u + 4 ∨ a = 57) σ σ1 ∧ Dc (rI σ1) u = Dc (rI σ) u ∧ FirstK (fun k => much < DueD (DgN (Dc (rI σ) u) n k.toNat) n (rI σ (u + 1) 9) (1 + rI σ u 9) S F F1) 99 r) := by
  have hm := hC.mk
  have hn9 := hC.n9
  have hSt := hC.2.1.2.2.1
  apply T.int
  apply t_X4_daysTillAbove hC.1 hy
  obtain ⟨D, hD⟩ : ∃ D : Nat → Int → Int, D = Dc (rI σ) u := ⟨_, rfl⟩
  rw [← hD] at hSt hg
  rw [← hD]
  obtain ⟨U, hU⟩ : ∃ U : Int → Prop, U = fun k => much < DueD (DgN D n k.toNat) n (rI σ (u + 1) 9) (1 + rI σ u 9) S F F1 := ⟨_, rfl⟩
  obtain ⟨P, hP⟩ : ∃ P : aO → aH → Prop, P = QI (fun r σ1 => Fr (fun a _ => a = u + 4 ∨ a = 57) σ σ1 ∧ Dc (rI σ1) u = D ∧ FirstK U 99 r) := ⟨_, rfl⟩
  rw [← hU, ← hP]
  refine ⟨σ, s_stalls hC.1, hC.1, fun σ5 e5 => ?_⟩
  have hA : ∀ (a : Nat) (i : Int), a ≠ u + 4 → a ≠ 57 → ¬ (fun (a : Nat) (_ : Int) => a = u + 4 ∨ a = 57) a i := fun a i p q => by show ¬ (a = u + 4 ∨ a = 57); omega
  have hF5 : Fr (fun a _ => a = u + 4 ∨ a = 57) σ σ5 := by
    subst e5
    exact ⟨Sm.c, fun a i _ hn => by rw [rI_c, if_neg (fun q => hn (Or.inr q.1))]⟩
  have hK5 : ∀ i : Int, 0 ≤ i → i < 9 → rI σ5 57 i = D 2 i := by
    intro i i0 i9
    subst e5
    rw [rI_c, if_pos ⟨rfl, by omega⟩, hD]; rfl
  have hD5 : Dc (rI σ5) u = D := by
    rw [hD]
    refine Dc_congr (fun a p q => ?_)
    subst e5
    funext i
    rw [rI_c, if_neg (by omega)]
  have stb : ∀ k : Nat, StB (DgN D n k) n ∧ Hg (DgN D n k) n ∧ (∀ (f : Nat) (i : Int), 9 ≤ i → DgN D n k f i = D f i) ∧ (∀ (f : Nat) (i : Int), f ≠ 2 → DgN D n k f i = D f i) := by
    intro k
    induction k with
    | zero => exact ⟨hSt, hg, fun _ _ _ => rfl, fun _ _ _ => rfl⟩
    | succ k ih => exact ⟨Dgrow_stb ih.1 ih.2.1, Dgrow_hg ih.2.1, fun f i i9 => (Dgrow_far (by omega)).trans (ih.2.2.1 f i i9), fun f i hf => (Dgrow_ne hf).trans (ih.2.2.2 f i hf)⟩
  have fin : ∀ (k : Nat) (found : Int) (τ : aH), inR found → Fr (fun a _ => a = u + 4 ∨ a = 57) σ τ → (∀ i : Int, 0 ≤ i → i < 9 → rI τ 57 i = D 2 i) → Dc (rI τ) u = DgN D n k → FirstK U 99 found → ∀ σ1 : aH, wC τ 57 (u + 4) = σ1 → P (.inl (some (.int (nZ found)))) σ1 := by
    intro k found τ hr hF hK hDt hx σ1 e1
    rw [hP]
    refine ⟨found, rfl, hr, ?_, ?_, hx⟩
    · subst e1
      exact hF.trans ⟨Sm.c, fun a i _ hn => by rw [rI_c, if_neg (fun q => hn (Or.inl q.1))]⟩
    · funext f i
      by_cases h7 : f ≤ 7
      · rw [Dc_eq h7, ← e1, rI_c]
        by_cases e : f = 2
        · subst e
          by_cases c : i.toNat < 9
          · rw [if_pos ⟨rfl, c⟩, rI_tn, hK _ (by omega) (by omega), hD]; exact (Dc_tn σ u 2 i).symm
          · rw [if_neg (fun q => c q.2)]
            have := congrFun (congrFun hDt 2) i
            rw [(stb k).2.2.1 2 i (by omega)] at this
            exact this
        · rw [if_neg (fun q => by omega)]
          have := congrFun (congrFun hDt f) i
          rw [(stb k).2.2.2 f i e, Dc_eq h7] at this
          exact this
      · rw [Dc_0 (by omega), hD, Dc_0 (by omega)]
  have loop : ∀ (g : Nat) (found i : Int) (τ : aH), (100 - i).toNat = g → 0 ≤ i → i ≤ 100 → inR found → Fr (fun a _ => a = u + 4 ∨ a = 57) σ τ → (∀ i : Int, 0 ≤ i → i < 9 → rI τ 57 i = D 2 i) → Dc (rI τ) u = DgN D n i.toNat → (found = -1 → ∀ q : Int, 0 ≤ q → q < i → ¬ U q) → (found ≠ -1 → FirstK U 99 found) → L_X4_daysTillAbove_25 (Ev sc (d + 3)) sc P u much found i τ := by
    intro g
    induction g with
    | zero =>
      intro found i τ hg' i0 i1 hr hF hK hDt h1 h2
      apply v_X4_daysTillAbove_25 (hF.g hC.1) hy hr (by omega)
      refine ⟨fun _ => fin i.toNat found τ hr hF hK hDt ?_, fun q => by omega⟩
      by_cases e : found = -1
      · exact Or.inl ⟨e, fun q q0 q1 => h1 e q q0 (by omega)⟩
      · exact h2 e
    | succ g ih =>
      intro found i τ hg' i0 i1 hr hF hK hDt h1 h2
      apply v_X4_daysTillAbove_25 (hF.g hC.1) hy hr (by omega)
      refine ⟨fun q => by omega, fun _ => ⟨fun q => fin i.toNat found τ hr hF hK hDt (h2 q), fun q => ?_⟩⟩
      have hC1 : Cx τ u n S F F1 := hC.fr hF (hA _ 0 (by omega) (by omega)) (hA _ 0 (by omega) (by omega)) (fun i => hA _ 0 (by omega) (by omega)) (fun i => hA _ 0 (by omega) (by omega)) (by rw [hDt]; exact (stb _).1)
      obtain ⟨r11, σ7, he7, hr7, rfl, h7⟩ := s_due (sc := sc) (d := d) hC1.1 hC1.2.1 (show IsWt 28 from Or.inl rfl) hC1.2.2.1 hC1.2.2.2.1 hC1.2.2.2.2.1 hC1.2.2.2.2.2
      have h7' : r11 = DueD (DgN D n i.toNat) n (rI σ (u + 1) 9) (1 + rI σ u 9) S F F1 := by
        rw [← hDt, ← hF.rw (a := u + 1) (i := 9) (by omega) (hA _ 9 (by omega) (by omega)), ← hF.rw (a := u) (i := 9) (by omega) (hA _ 9 (by omega) (by omega))]; exact h7
      have hUi : U i ↔ much < r11 := by rw [hU, h7']
      obtain ⟨σ8, he8, hF8, hD8⟩ := s_grow (sc := sc) (d := d + 2) (v := u) (n := n) hC1.1 hC.1.2.2.2.2 hC1.2.1.1 hn9 hC1.2.1.2.2.1 (by rw [hDt]; exact (stb _).2.1)
      have hF8' : Fr (fun a _ => a = u + 4 ∨ a = 57) σ σ8 := hF.trans (hF8.weak (fun a i z => Or.inl z))
      have hK8 : ∀ i : Int, 0 ≤ i → i < 9 → rI σ8 57 i = D 2 i := fun i i0 i9 => (hF8.rw i0 (by show ¬ (57 = u + 4); omega)).trans (hK i i0 i9)
      have hD8' : Dc (rI σ8) u = DgN D n (i + 1).toNat := by
        rw [hD8, hDt, show (i + 1).toNat = i.toNat + 1 by omega]; rfl
      refine ⟨r11, σ7, he7, hF.g hC.1, hr7, fun q1 => ⟨σ8, he8, hF8'.g hC.1, by omega, ?_⟩, fun q1 => ⟨σ8, he8, hF8'.g hC.1, by omega, ?_⟩⟩
      · refine ih found (i + 1) σ8 (by omega) (by omega) (by omega) hr hF8' hK8 hD8' (fun e p p0 p1 => ?_) h2
        by_cases ep : p = i
        · subst ep; rw [hUi]; omega
        · exact h1 e p p0 (by omega)
      · exact ih i (i + 1) σ8 (by omega) (by omega) (by omega) (by omega) hF8' hK8 hD8' (fun e => by omega) (fun _ => Or.inr ⟨by omega, hUi.mpr (by omega), fun p p0 p1 => h1 q p p0 p1⟩)
  exact loop _ (-1) 0 σ5 rfl (by omega) (by omega) (by decide) hF5 hK5 hD5 (fun _ p p0 p1 => by omega) (fun e => absurd rfl e)
end
