/-! What counts of D: the rows of the stalls that are there. -/
def Deq (n : Int) (D D1 : Nat → Int → Int) : Prop := ∀ (f : Nat) (i : Int), f ≤ 6 → 0 ≤ i → i < n → D1 f i = D f i
theorem Deq.refl (n : Int) (D : Nat → Int → Int) : Deq n D D := fun _ _ _ _ _ => rfl
theorem Deq.symm {n : Int} {D D1 : Nat → Int → Int} (h : Deq n D D1) : Deq n D1 D := fun f i a b c => (h f i a b c).symm
theorem Deq.trans {n : Int} {D D1 D2 : Nat → Int → Int} (h : Deq n D D1) (k : Deq n D1 D2) : Deq n D D2 := fun f i a b c => (k f i a b c).trans (h f i a b c)
theorem Deq.set {n : Int} {D D1 : Nat → Int → Int} (h : Deq n D D1) (f0 : Nat) (s v : Int) : Deq n (Dset D f0 s v) (Dset D1 f0 s v) := by
  intro f i a b c
  unfold Dset
  by_cases e : f = f0 ∧ i.toNat = s.toNat
  · rw [if_pos e, if_pos e]
  · rw [if_neg e, if_neg e]; exact h f i a b c
theorem Deq.put {n : Int} {D D1 : Nat → Int → Int} (h : Deq n D D1) (s x y : Int) : Deq n (Dput D s x y) (Dput D1 s x y) := (h.set 0 s x).set 1 s y
theorem Deq.swap {n : Int} {D D1 : Nat → Int → Int} (h : Deq n D D1) {s t : Int} (hs : 0 ≤ s ∧ s < n) (ht : 0 ≤ t ∧ t < n) : Deq n (Dswap D s t) (Dswap D1 s t) := by
  unfold Dswap
  rw [h 0 t (by decide) ht.1 ht.2, h 1 t (by decide) ht.1 ht.2, h 0 s (by decide) hs.1 hs.2, h 1 s (by decide) hs.1 hs.2]
  exact (h.put _ _ _).put _ _ _
theorem Fsm_congr {fa fb : Int → Int → Int → Prop} {S F : Int → Int} {i j : Int} (h : ∀ s : Int, fa i j s ↔ fb i j s) : Fsm fa S F i j = Fsm fb S F i j := sm_congr (fun t _ _ => cif_congr (h (S t)))
theorem Prc_congr {fa fb : Int → Int → Int → Prop} {la lb S F F1 : Int → Int} {i j : Int} (h : ∀ s : Int, fa i j s ↔ fb i j s) (hl : la i = lb i) : Prc fa la S F F1 i j = Prc fb lb S F F1 i j := by
  unfold Prc
  rw [Fsm_congr h, Fsm_congr h, hl]
section
variable {D D1 : Nat → Int → Int} {n gone w : Int} {S F F1 : Int → Int}
theorem Deq.keeps (h : Deq n D D1) {i j dx dy t k : Int} (hi : 0 ≤ i ∧ i < n) (hj : 0 ≤ j ∧ j < n) (hk : 0 ≤ k ∧ k < n) : Keeps D1 i j dx dy t k ↔ Keeps D i j dx dy t k := by
  unfold Keeps
  rw [h 0 j (by decide) hj.1 hj.2, h 0 k (by decide) hk.1 hk.2, h 1 j (by decide) hj.1 hj.2, h 1 k (by decide) hk.1 hk.2, h 2 i (by decide) hi.1 hi.2, h 2 k (by decide) hk.1 hk.2, h 3 k (by decide) hk.1 hk.2]
theorem Deq.kept (h : Deq n D D1) {i j dx dy t : Int} (hi : 0 ≤ i ∧ i < n) (hj : 0 ≤ j ∧ j < n) : Kept D1 n gone i j dx dy t ↔ Kept D n gone i j dx dy t := by
  unfold Kept
  constructor
  · rintro ⟨k, a, b, c, e, g, q⟩; exact ⟨k, a, b, c, e, g, (h.keeps hi hj ⟨a, b⟩).mp q⟩
  · rintro ⟨k, a, b, c, e, g, q⟩; exact ⟨k, a, b, c, e, g, (h.keeps hi hj ⟨a, b⟩).mpr q⟩
theorem Deq.falls (h : Deq n D D1) {i j s : Int} (hi : 0 ≤ i ∧ i < n) (hj : 0 ≤ j ∧ j < n) : Falls D1 n gone w i j s ↔ Falls D n gone w i j s := by
  unfold Falls
  rw [h 0 j (by decide) hj.1 hj.2, h 0 i (by decide) hi.1 hi.2, h 1 j (by decide) hj.1 hj.2, h 1 i (by decide) hi.1 hi.2, h 2 i (by decide) hi.1 hi.2]
  constructor
  · rintro ⟨a, t, b, c, e, g, q, r⟩; exact ⟨a, t, b, c, e, g, q, fun z => r ((h.kept hi hj).mpr z)⟩
  · rintro ⟨a, t, b, c, e, g, q, r⟩; exact ⟨a, t, b, c, e, g, q, fun z => r ((h.kept hi hj).mp z)⟩
theorem Deq.prc (h : Deq n D D1) {i j : Int} (hi : 0 ≤ i ∧ i < n) (hj : 0 ≤ j ∧ j < n) : Prc (Falls D1 n gone w) (D1 6) S F F1 i j = Prc (Falls D n gone w) (D 6) S F F1 i j := Prc_congr (fun _ => h.falls hi hj) (h 6 i (by decide) hi.1 hi.2)
theorem Deq.due (h : Deq n D D1) : DueD D1 n gone w S F F1 = DueD D n gone w S F F1 := by
  unfold DueD Tot
  refine sm_congr (fun i i0 i1 => sm_congr (fun j j0 j1 => ?_))
  rw [h.prc (by omega) (by omega)]
/-- what a stall gains -/
noncomputable def GainD (D : Nat → Int → Int) (n gone w : Int) (S F F1 : Int → Int) (s : Int) : Int := sm (fun k => Prc (Falls D n gone w) (D 6) S F F1 k s - Prc (Falls D n gone w) (D 6) S F F1 s k) n.toNat
theorem Deq.gain (h : Deq n D D1) {s : Int} (hs : 0 ≤ s ∧ s < n) : GainD D1 n gone w S F F1 s = GainD D n gone w S F F1 s := by
  unfold GainD
  refine sm_congr (fun i i0 i1 => ?_)
  rw [h.prc (by omega) hs, h.prc hs (by omega)]
theorem GainD_bd (h9 : n ≤ 9) (hF : F9 F) (hF1 : F9 F1) (s : Int) : -233280 ≤ GainD D n gone w S F F1 s ∧ GainD D n gone w S F F1 s ≤ 233280 := by
  have := sm_bd (n := n.toNat) (lo := -25920) (hi := 25920) (f := fun k => Prc (Falls D n gone w) (D 6) S F F1 k s - Prc (Falls D n gone w) (D 6) S F F1 s k) (fun t _ _ => by
    have a := Prc_bd (fa := Falls D n gone w) (la := D 6) (S := S) (i := t) (j := s) hF hF1
    have b := Prc_bd (fa := Falls D n gone w) (la := D 6) (S := S) (i := s) (j := t) hF hF1
    show -25920 ≤ Prc (Falls D n gone w) (D 6) S F F1 t s - Prc (Falls D n gone w) (D 6) S F F1 s t ∧ Prc (Falls D n gone w) (D 6) S F F1 t s - Prc (Falls D n gone w) (D 6) S F F1 s t ≤ 25920
    omega)
  unfold GainD
  omega
theorem DueD_bd (h9 : n ≤ 9) (hF : F9 F) (hF1 : F9 F1) : 0 ≤ DueD D n gone w S F F1 ∧ DueD D n gone w S F F1 ≤ 2099520 := Tot_bd h9 hF hF1
theorem Deq.stb (h : Deq n D D1) (hS : StB D n) : StB D1 n := by
  refine ⟨hS.1, fun i i0 i1 => ?_⟩
  rw [h 0 i (by decide) i0 i1, h 1 i (by decide) i0 i1, h 2 i (by decide) i0 i1, h 3 i (by decide) i0 i1, h 6 i (by decide) i0 i1]
  exact hS.2 i i0 i1
theorem Deq.at (h : Deq n D D1) {x y k : Int} : At D1 n x y k ↔ At D n x y k := by
  unfold At
  constructor
  · rintro ⟨a, b, c, e⟩; rw [h 0 k (by decide) a b] at c; rw [h 1 k (by decide) a b] at e; exact ⟨a, b, c, e⟩
  · rintro ⟨a, b, c, e⟩; rw [← h 0 k (by decide) a b] at c; rw [← h 1 k (by decide) a b] at e; exact ⟨a, b, c, e⟩
theorem Dset_ne {D : Nat → Int → Int} {f0 : Nat} {s v : Int} {f : Nat} {i : Int} (h : ¬ (f = f0 ∧ i.toNat = s.toNat)) : Dset D f0 s v f i = D f i := if_neg h
theorem Dset_eq {D : Nat → Int → Int} {f0 : Nat} {s v i : Int} (h : i.toNat = s.toNat) : Dset D f0 s v f0 i = v := if_pos ⟨rfl, h⟩
theorem Dset_set {D : Nat → Int → Int} {f0 : Nat} {s v x : Int} : Dset (Dset D f0 s x) f0 s v = Dset D f0 s v := by
  funext f i
  unfold Dset
  by_cases e : f = f0 ∧ i.toNat = s.toNat
  · rw [if_pos e, if_pos e]
  · rw [if_neg e, if_neg e, if_neg e]
theorem Dput_s {D : Nat → Int → Int} {s x y : Int} {i : Int} (h : i.toNat = s.toNat) : Dput D s x y 0 i = x ∧ Dput D s x y 1 i = y := ⟨(Dset_ne (by omega)).trans (Dset_eq h), Dset_eq h⟩
theorem Dput_ne {D : Nat → Int → Int} {s x y : Int} {f : Nat} {i : Int} (h : ¬ (f ≤ 1 ∧ i.toNat = s.toNat)) : Dput D s x y f i = D f i := (Dset_ne (by omega)).trans (Dset_ne (by omega))
theorem StB.put {s x y : Int} (hS : StB D n) (hx : 0 ≤ x ∧ x ≤ 8) (hy : 0 ≤ y ∧ y ≤ 8) : StB (Dput D s x y) n := by
  refine ⟨hS.1, fun i i0 i1 => ?_⟩
  obtain ⟨a, b, c⟩ := hS.2 i i0 i1
  rw [Dput_ne (f := 2) (by omega), Dput_ne (f := 3) (by omega), Dput_ne (f := 6) (by omega)]
  by_cases e : i.toNat = s.toNat
  · rw [(Dput_s e).1, (Dput_s e).2]; exact ⟨hx, hy, c⟩
  · rw [Dput_ne (f := 0) (by omega), Dput_ne (f := 1) (by omega)]; exact ⟨a, b, c⟩
theorem StB.set2 {s v : Int} (hS : StB D n) (hv : 0 ≤ v ∧ v ≤ 60) : StB (Dset D 2 s v) n := by
  refine ⟨hS.1, fun i i0 i1 => ?_⟩
  obtain ⟨a, b, c, e, g⟩ := hS.2 i i0 i1
  rw [Dset_ne (f := 0) (by omega), Dset_ne (f := 1) (by omega), Dset_ne (f := 3) (by omega), Dset_ne (f := 6) (by omega)]
  by_cases q : i.toNat = s.toNat
  · rw [Dset_eq q]; exact ⟨a, b, hv, e, g⟩
  · rw [Dset_ne (f := 2) (by omega)]; exact ⟨a, b, c, e, g⟩
theorem StB.set3 {s v : Int} (hS : StB D n) (hv : 0 ≤ v ∧ v ≤ 3) : StB (Dset D 3 s v) n := by
  refine ⟨hS.1, fun i i0 i1 => ?_⟩
  obtain ⟨a, b, c, e, g⟩ := hS.2 i i0 i1
  rw [Dset_ne (f := 0) (by omega), Dset_ne (f := 1) (by omega), Dset_ne (f := 2) (by omega), Dset_ne (f := 6) (by omega)]
  by_cases q : i.toNat = s.toNat
  · rw [Dset_eq q]; exact ⟨a, b, c, hv, g⟩
  · rw [Dset_ne (f := 3) (by omega)]; exact ⟨a, b, c, e, g⟩
end
/-- all but the cell of s is the same -/
def DpEx (s : Int) (D D1 : Nat → Int → Int) : Prop := ∀ (f : Nat) (i : Int), ¬ (f ≤ 1 ∧ i.toNat = s.toNat) → D1 f i = D f i
theorem DpEx.refl (s : Int) (D : Nat → Int → Int) : DpEx s D D := fun _ _ _ => rfl
theorem DpEx.put {s : Int} {D D1 : Nat → Int → Int} (h : DpEx s D D1) (x y : Int) : Dput D1 s x y = Dput D s x y := by
  funext f i
  by_cases c : f ≤ 1 ∧ i.toNat = s.toNat
  · by_cases e : f = 0
    · subst e; rw [(Dput_s c.2).1, (Dput_s c.2).1]
    · have : f = 1 := by omega
      subst this; rw [(Dput_s c.2).2, (Dput_s c.2).2]
  · rw [Dput_ne c, Dput_ne c]; exact h f i c
theorem DpEx.of {s x y : Int} {D : Nat → Int → Int} : DpEx s D (Dput D s x y) := fun _ _ c => Dput_ne c
theorem DpEx.trans {s : Int} {D D1 D2 : Nat → Int → Int} (h : DpEx s D D1) (k : DpEx s D1 D2) : DpEx s D D2 := fun f i c => (k f i c).trans (h f i c)
theorem rI_tn (σ : aH) (a : Nat) (i : Int) : rI σ a i = rI σ a (i.toNat : Int) := by
  unfold rI
  rw [Int.toNat_natCast]
theorem Dc_tn (σ : aH) (u f : Nat) (i : Int) : Dc (rI σ) u f i = Dc (rI σ) u f (i.toNat : Int) := by
  by_cases h : f ≤ 7
  · rw [Dc_eq h, Dc_eq h]; exact rI_tn _ _ _
  · rw [Dc_0 (by omega), Dc_0 (by omega)]
section
variable {σ τ : aH} {u : Nat} {n : Int} {S F F1 : Int → Int}
/-- the questions' ground stays, where the market's rows do -/
theorem Cx.fr {A : Nat → Int → Prop} (h : Cx σ u n S F F1) (hF : Fr A σ τ) (h1 : ¬ A (u + 1) 8) (h2 : ¬ A u 9) (h3 : ∀ i : Int, ¬ A 29 i) (h4 : ∀ i : Int, ¬ A 30 i) (hB : StB (Dc (rI τ) u) n) : Cx τ u n S F F1 := by
  obtain ⟨hG, hSh, hW, r⟩ := h
  refine ⟨hF.g hG, ⟨(hF.rw (by omega) h1).trans hSh.1, hSh.2.1, hB, ?_⟩, hW.fr hF (fun a i q => ?_), r⟩
  · rw [hF.rw (by omega) h2]; exact hSh.2.2.2
  · rcases q with rfl | rfl
    · exact h3 i
    · exact h4 i
theorem Cx.n9 (h : Cx σ u n S F F1) : 0 ≤ n ∧ n ≤ 9 := ⟨h.2.1.2.1, h.2.1.2.2.1.1⟩
theorem Cx.mk (h : Cx σ u n S F F1) : u = 39 ∨ u = 60 := h.1.2.2.2.2
end
theorem BestS.exi {Cand : Int → Prop} {V : Int → Int} {bd : Int} (K : Nat) (h : ∀ c, Cand c → 0 ≤ c ∧ c < K) : ∃ val code : Int, BestS Cand V bd val code := by
  have key : ∀ k : Nat, ∃ val code : Int, BestS (fun c => Cand c ∧ c < k) V bd val code := by
    intro k
    induction k with
    | zero => exact ⟨bd, -1, BestS.start (fun c hc => (h c hc).1)⟩
    | succ k ih =>
      obtain ⟨val, code, hb⟩ := ih
      by_cases hc : Cand k ∧ V k < val
      · exact ⟨V k, k, hb.take hc.1 hc.2⟩
      · refine ⟨val, code, hb.ext (by omega) (fun c q1 q2 q3 => ?_)⟩
        have e : c = k := by omega
        subst e
        by_cases g : V (k : Int) < val
        · exact absurd ⟨q1, g⟩ hc
        · omega
  obtain ⟨val, code, hb⟩ := key K
  exact ⟨val, code, hb.done (fun c hc => (h c hc).2)⟩
