/-! PLANS: stalls set otherwise. -/
def Dset (D : Nat → Int → Int) (f0 : Nat) (s v : Int) : Nat → Int → Int := fun f i => if f = f0 ∧ i.toNat = s.toNat then v else D f i
def Dput (D : Nat → Int → Int) (s x y : Int) : Nat → Int → Int := Dset (Dset D 0 s x) 1 s y
def Dswap (D : Nat → Int → Int) (s t : Int) : Nat → Int → Int := Dput (Dput D s (D 0 t) (D 1 t)) t (D 0 s) (D 1 s)
theorem Dc_eq {m : Nat → Int → Int} {u f : Nat} {i : Int} (h : f ≤ 7) : Dc m u f i = m (u + 2 + f) i := by
  match f, h with
  | 0, _ => rfl
  | 1, _ => rfl
  | 2, _ => rfl
  | 3, _ => rfl
  | 4, _ => rfl
  | 5, _ => rfl
  | 6, _ => rfl
  | 7, _ => rfl
theorem Dc_0 {m : Nat → Int → Int} {u f : Nat} {i : Int} (h : 8 ≤ f) : Dc m u f i = 0 := by
  obtain ⟨k, rfl⟩ : ∃ k, f = k + 8 := ⟨f - 8, by omega⟩
  rfl
theorem Dc_w {σ : aH} {u f0 : Nat} {s v : Int} (hf : f0 ≤ 7) (hv : inR v) : Dc (rI (wI σ (u + 2 + f0) s v)) u = Dset (Dc (rI σ) u) f0 s v := by
  funext f i
  unfold Dset
  by_cases h : f ≤ 7
  · rw [Dc_eq h, rI_w hv, Dc_eq h]
    by_cases c : f = f0 ∧ i.toNat = s.toNat
    · rw [if_pos c, if_pos ⟨by rw [c.1], c.2⟩]
    · rw [if_neg c, if_neg (fun q => c ⟨by omega, q.2⟩)]
  · rw [Dc_0 (by omega), if_neg (by omega), Dc_0 (by omega)]
theorem Dc_wa {σ : aH} {u a : Nat} {s v : Int} (f0 : Nat) (ha : a = u + 2 + f0) (hf : f0 ≤ 7) (hv : inR v) : Dc (rI (wI σ a s v)) u = Dset (Dc (rI σ) u) f0 s v := by
  subst ha; exact Dc_w hf hv
theorem Dc_o {σ : aH} {u a : Nat} {s v : Int} (h : a < u + 2 ∨ u + 9 < a) : Dc (rI (wI σ a s v)) u = Dc (rI σ) u := Dc_congr (fun b h1 h2 => by funext i; exact rI_wa (by omega))
noncomputable def DueD (D : Nat → Int → Int) (n gone w : Int) (S F F1 : Int → Int) : Int := Tot (Falls D n gone w) (D 6) S F F1 n gone
/-- the cells of the first n stalls -/
def At (D : Nat → Int → Int) (n x y k : Int) : Prop := 0 ≤ k ∧ k < n ∧ D 0 k = x ∧ D 1 k = y
/-- all that the questions take of the class: market u with n stalls, its costs weighed -/
def Cx (σ : aH) (u : Nat) (n : Int) (S F F1 : Int → Int) : Prop := G σ u ∧ Sh σ u n ∧ WtS (rI σ) 28 S F F1 ∧ SB S ∧ F9 F ∧ F9 F1
section
variable {sc : Nat × (Nat → Int32)} {d : Nat} {σ : aH} {u v w : Nat} {n : Int} {S F F1 : Int → Int}
theorem s_whoIsAt {x y : Int} (hG : G σ u) (hv : IsMk v) (hn : rI σ (v + 1) 8 = n) (h9 : n ≤ 9) (h0 : 0 ≤ n) (rx : inR x) (ry : inR y) : TI sc (d + 1) mX7_whoIsAt [.ref (v + 1), .int (nZ x), .int (nZ y)] σ (fun r σ1 => σ1 = σ ∧ ((r = -1 ∧ ∀ k : Int, ¬ At (Dc (rI σ) v) n x y k) ∨ (At (Dc (rI σ) v) n x y r ∧ ∀ k : Int, k < r → ¬ At (Dc (rI σ) v) n x y k))) := by
  apply T.int
  apply t_X7_whoIsAt hG hv rx ry
  have loop : ∀ (f : Nat) (i : Int), (n - i).toNat = f → 0 ≤ i → i ≤ n → (∀ k : Int, k < i → ¬ At (Dc (rI σ) v) n x y k) → L_X7_whoIsAt_2 (Ev sc d) sc (QI (fun r σ1 => σ1 = σ ∧ ((r = -1 ∧ ∀ k : Int, ¬ At (Dc (rI σ) v) n x y k) ∨ (At (Dc (rI σ) v) n x y r ∧ ∀ k : Int, k < r → ¬ At (Dc (rI σ) v) n x y k)))) v x y i σ := by
    intro f
    induction f with
    | zero =>
      intro i hf i0 i1 h
      apply v_X7_whoIsAt_2 hG hv rx ry (by omega)
      refine ⟨fun g => ⟨-1, rfl, by decide, rfl, Or.inl ⟨rfl, fun k hk => ?_⟩⟩, fun g => by omega⟩
      have := hk.2.1
      exact h k (by omega) hk
    | succ f ih =>
      intro i hf i0 i1 h
      apply v_X7_whoIsAt_2 hG hv rx ry (by omega)
      have nx : ¬ At (Dc (rI σ) v) n x y i → L_X7_whoIsAt_2 (Ev sc d) sc (QI (fun r σ1 => σ1 = σ ∧ ((r = -1 ∧ ∀ k : Int, ¬ At (Dc (rI σ) v) n x y k) ∨ (At (Dc (rI σ) v) n x y r ∧ ∀ k : Int, k < r → ¬ At (Dc (rI σ) v) n x y k)))) v x y (i + 1) σ := by
        intro hno
        refine ih (i + 1) (by omega) (by omega) (by omega) (fun k hk => ?_)
        by_cases e : k = i
        · rw [e]; exact hno
        · exact h k (by omega)
      refine ⟨fun g => by omega, fun g => ⟨by omega, fun g1 => ⟨by omega, nx (fun q => g1 q.2.2.1)⟩, fun g1 => ⟨by omega, fun g2 => ⟨by omega, nx (fun q => g2 q.2.2.2)⟩, fun g2 => ⟨i, rfl, by omega, rfl, Or.inr ⟨⟨i0, by omega, g1, g2⟩, h⟩⟩⟩⟩⟩
  exact loop _ 0 rfl (by omega) h0 (fun k hk q => by have := q.1; omega)
/-- only cells of market v's stalls may have changed -/
abbrev AC (v : Nat) : Nat → Int → Prop := fun a _ => a = v + 2 ∨ a = v + 3
theorem s_put {s x y : Int} (hG : G σ u) (hv : IsMk v) (hs : 0 ≤ s ∧ s < 9) (rx : inR x) (ry : inR y) : TV sc (d + 1) mX7_put [.ref (v + 1), .int (nZ s), .int (nZ x), .int (nZ y)] σ (fun σ1 => Fr (AC v) σ σ1 ∧ Dc (rI σ1) v = Dput (Dc (rI σ) v) s x y) := by
  apply T.void
  apply t_X7_put hG hv (by omega) rx ry
  refine ⟨hs, fun σ1 e1 => ⟨hs, fun σ2 e2 => ⟨rfl, ?_, ?_⟩⟩⟩
  · subst e1 e2
    exact (Fr.w hs.1 (Or.inl rfl)).trans (Fr.w hs.1 (Or.inr rfl))
  · subst e1 e2
    have e1 : Dc (rI (wI (wI σ (v + 2) s x) (v + 3) s y)) v = Dset (Dc (rI (wI σ (v + 2) s x)) v) 1 s y := Dc_wa 1 rfl (by decide) ry
    have e2 : Dc (rI (wI σ (v + 2) s x)) v = Dset (Dc (rI σ) v) 0 s x := Dc_wa 0 rfl (by decide) rx
    rw [e1, e2]; rfl
theorem s_swapCells {s t : Int} (hG : G σ u) (hv : IsMk v) (hs : 0 ≤ s ∧ s < 9) (ht : 0 ≤ t ∧ t < 9) : TV sc (d + 2) mX7_swapCells [.ref (v + 1), .int (nZ s), .int (nZ t)] σ (fun σ1 => Fr (AC v) σ σ1 ∧ Dc (rI σ1) v = Dswap (Dc (rI σ) v) s t) := by
  apply T.void
  apply t_X7_swapCells hG hv (by omega) (by omega)
  refine ⟨hs, fun z1 e1 => ⟨hs, fun z4 e4 => ⟨ht, ht, ?_⟩⟩⟩
  obtain ⟨σ1, he1, hF1, hD1⟩ := s_put (sc := sc) (d := d) hG hv hs (rI_R σ (v + 2) t) (rI_R σ (v + 3) t)
  refine ⟨σ1, he1, hF1.g hG, ?_⟩
  obtain ⟨σ2, he2, hF2, hD2⟩ := s_put (sc := sc) (d := d) (x := z1) (y := z4) (hF1.g hG) hv ht (by rw [e1]; exact rI_R _ _ _) (by rw [e4]; exact rI_R _ _ _)
  refine ⟨σ2, he2, hF2.g (hF1.g hG), rfl, hF1.trans hF2, ?_⟩
  rw [hD2, hD1, e1, e4]; rfl
theorem s_isFreeFor {who one other : Int} (hG : G σ u) (r0 : inR who) (r1 : inR one) (r2 : inR other) : TI sc (d + 1) mX4_isFreeFor [.int (nZ who), .int (nZ one), .int (nZ other)] σ (fun r σ1 => σ1 = σ ∧ ((r = 1 ∧ (who = -1 ∨ who = one ∨ who = other)) ∨ (r = 0 ∧ ¬ (who = -1 ∨ who = one ∨ who = other)))) := by
  apply T.int
  apply t_X4_isFreeFor hG r0 r1 r2
  repeat' (first | intro _ | apply And.intro)
  all_goals exact ⟨_, rfl, by omega, rfl, by omega⟩
theorem s_stalls (hG : G σ u) : Ev sc (d + 1) mX4_stalls [.ref 26] σ (.inl (some (.ref (u + 1)))) σ := by
  apply T.ev
  apply t_X4_stalls hG
  exact ⟨rfl, rfl⟩
theorem s_isFreeBut {s x y : Int} (hG : G σ u) (hn : rI σ (u + 1) 8 = n) (h9 : n ≤ 9) (h0 : 0 ≤ n) (rs : inR s) (rx : inR x) (ry : inR y) : TI sc (d + 2) mX4_isFreeBut [.ref 26, .int (nZ s), .int (nZ x), .int (nZ y)] σ (fun r σ1 => σ1 = σ ∧ ((r = 1 ∧ ∀ k : Int, k ≠ s → ¬ At (Dc (rI σ) u) n x y k) ∨ (r = 0 ∧ ¬ ∀ k : Int, k ≠ s → ¬ At (Dc (rI σ) u) n x y k))) := by
  apply T.int
  apply t_X4_isFreeBut hG rs rx ry
  refine ⟨σ, s_stalls hG, hG, ?_⟩
  have loop : ∀ (f : Nat) (i : Int), (n - i).toNat = f → 0 ≤ i → i ≤ n → (∀ k : Int, k < i → k ≠ s → ¬ At (Dc (rI σ) u) n x y k) → L_X4_isFreeBut_9 (Ev sc (d + 1)) sc (QI (fun r σ1 => σ1 = σ ∧ ((r = 1 ∧ ∀ k : Int, k ≠ s → ¬ At (Dc (rI σ) u) n x y k) ∨ (r = 0 ∧ ¬ ∀ k : Int, k ≠ s → ¬ At (Dc (rI σ) u) n x y k)))) u s x y i σ := by
    intro f
    induction f with
    | zero =>
      intro i hf i0 i1 h
      apply v_X4_isFreeBut_9 hG rs rx ry (by omega)
      refine ⟨fun g => ⟨1, rfl, by decide, rfl, Or.inl ⟨rfl, fun k hks hk => ?_⟩⟩, fun g => by omega⟩
      have := hk.2.1
      exact h k (by omega) hks hk
    | succ f ih =>
      intro i hf i0 i1 h
      apply v_X4_isFreeBut_9 hG rs rx ry (by omega)
      have nx : (i = s ∨ ¬ At (Dc (rI σ) u) n x y i) → L_X4_isFreeBut_9 (Ev sc (d + 1)) sc (QI (fun r σ1 => σ1 = σ ∧ ((r = 1 ∧ ∀ k : Int, k ≠ s → ¬ At (Dc (rI σ) u) n x y k) ∨ (r = 0 ∧ ¬ ∀ k : Int, k ≠ s → ¬ At (Dc (rI σ) u) n x y k)))) u s x y (i + 1) σ := by
        intro hno
        refine ih (i + 1) (by omega) (by omega) (by omega) (fun k hk hks => ?_)
        by_cases e : k = i
        · subst e; rcases hno with hno | hno
          · exact absurd hno hks
          · exact hno
        · exact h k (by omega) hks
      refine ⟨fun g => by omega, fun g => ⟨fun g0 => ⟨by omega, nx (Or.inl g0)⟩, fun g0 => ⟨by omega, fun g1 => ⟨by omega, nx (Or.inr (fun q => g1 q.2.2.1))⟩, fun g1 => ⟨by omega, fun g2 => ⟨by omega, nx (Or.inr (fun q => g2 q.2.2.2))⟩, fun g2 => ⟨0, rfl, by decide, rfl, Or.inr ⟨rfl, fun q => q i g0 ⟨i0, by omega, g1, g2⟩⟩⟩⟩⟩⟩⟩
  exact loop _ 0 rfl (by omega) h0 (fun k hk _ q => by have := q.1; omega)
theorem s_keepCells (hG : G σ u) : TV sc (d + 2) mX4_keepCells [.ref 26] σ (fun σ1 => Fr (fun a _ => a = 55 ∨ a = 56) σ σ1 ∧ ∀ i : Int, 0 ≤ i → i < 9 → rI σ1 55 i = rI σ (u + 2) i ∧ rI σ1 56 i = rI σ (u + 3) i) := by
  have hm := hG.2.2.2.2
  unfold IsMk at hm
  apply T.void
  apply t_X4_keepCells hG
  refine ⟨σ, s_stalls hG, hG, fun σ1 e1 => ?_⟩
  have hF1 : Fr (fun a _ => a = 55 ∨ a = 56) σ σ1 := by
    subst e1
    exact ⟨Sm.c, fun a i _ hn => by rw [rI_c, if_neg (fun q => hn (Or.inl q.1))]⟩
  refine ⟨σ1, s_stalls (hF1.g hG), hF1.g hG, fun σ2 e2 => ⟨rfl, ?_, fun i i0 i1 => ?_⟩⟩
  · subst e2
    exact hF1.trans ⟨Sm.c, fun a i _ hn => by rw [rI_c, if_neg (fun q => hn (Or.inr q.1))]⟩
  · subst e1 e2
    rw [rI_c, if_neg (by omega), rI_c, if_pos (by omega), rI_c, if_pos (by omega), rI_c, if_neg (by omega)]
    exact ⟨rfl, rfl⟩
theorem s_putCellsBack (hG : G σ u) : TV sc (d + 2) mX4_putCellsBack [.ref 26] σ (fun σ1 => Fr (AC u) σ σ1 ∧ ∀ i : Int, 0 ≤ i → rI σ1 (u + 2) i = (if i < 9 then rI σ 55 i else rI σ (u + 2) i) ∧ rI σ1 (u + 3) i = (if i < 9 then rI σ 56 i else rI σ (u + 3) i)) := by
  have hm := hG.2.2.2.2
  unfold IsMk at hm
  apply T.void
  apply t_X4_putCellsBack hG
  refine ⟨σ, s_stalls hG, hG, fun σ1 e1 => ?_⟩
  have hF1 : Fr (AC u) σ σ1 := by
    subst e1
    exact ⟨Sm.c, fun a i _ hn => by rw [rI_c, if_neg (fun q => hn (Or.inl q.1))]⟩
  refine ⟨σ1, s_stalls (hF1.g hG), hF1.g hG, fun σ2 e2 => ⟨rfl, ?_, fun i i0 => ?_⟩⟩
  · subst e2
    exact hF1.trans ⟨Sm.c, fun a i _ hn => by rw [rI_c, if_neg (fun q => hn (Or.inr q.1))]⟩
  · subst e1 e2
    by_cases c : i < 9
    · rw [if_pos c, if_pos c, rI_c, if_neg (by omega), rI_c, if_pos (by omega), rI_c, if_pos (by omega), rI_c, if_neg (by omega)]
      exact ⟨rfl, rfl⟩
    · rw [if_neg c, if_neg c, rI_c, if_neg (by omega), rI_c, if_neg (by omega), rI_c, if_neg (by omega), rI_c, if_neg (by omega)]
      exact ⟨rfl, rfl⟩
/-- the fields bestDue and bestCells -/
abbrev AB : Nat → Int → Prop := fun a i => a = 26 ∧ (i = 6 ∨ i = 7)
theorem s_startSearch (hG : G σ u) : TV sc (d + 1) mX4_startSearch [.ref 26] σ (fun σ1 => Fr AB σ σ1 ∧ rI σ1 26 6 = 1000000000 ∧ rI σ1 26 7 = -1) := by
  apply T.void
  apply t_X4_startSearch hG
  intro σ1 e1 σ2 e2
  subst e1 e2
  refine ⟨rfl, (Fr.w (by omega) ⟨rfl, Or.inl rfl⟩).trans (Fr.w (by omega) ⟨rfl, Or.inr rfl⟩), ?_, rI_ww (by decide)⟩
  rw [rI_wi (by decide), rI_ww (by decide)]
theorem s_weighWay {x : Int} (hC : Cx σ u n S F F1) (rx : inR x) : TV sc (d + 4) mX4_weighWay [.ref 26, .int (nZ x)] σ (fun σ1 => Fr AB σ σ1 ∧ ((DueD (Dc (rI σ) u) n (rI σ (u + 1) 9) (1 + rI σ u 9) S F F1 < rI σ 26 6 ∧ rI σ1 26 6 = DueD (Dc (rI σ) u) n (rI σ (u + 1) 9) (1 + rI σ u 9) S F F1 ∧ rI σ1 26 7 = x) ∨ (rI σ 26 6 ≤ DueD (Dc (rI σ) u) n (rI σ (u + 1) 9) (1 + rI σ u 9) S F F1 ∧ σ1 = σ))) := by
  obtain ⟨hG, hSh, hW, hS, hF, hF1⟩ := hC
  apply T.void
  apply t_X4_weighWay hG rx
  obtain ⟨r5, σ1, he, hr, rfl, h0, h1, h2⟩ := s_total (sc := sc) (d := d) hG hSh (show IsWt 28 from Or.inl rfl) hW hS hF hF1 (rI_R σ 26 6)
  have eD : Tot (FaC (rI σ1) u n) (rI σ1 (u + 8)) S F F1 n (rI σ1 (u + 1) 9) = DueD (Dc (rI σ1) u) n (rI σ1 (u + 1) 9) (1 + rI σ1 u 9) S F F1 := rfl
  rw [eD] at h1 h2
  refine ⟨r5, σ1, he, hG, hr, fun g => ⟨rfl, Fr.refl _ _, Or.inr ⟨by omega, rfl⟩⟩, fun g σ2 e2 σ3 e3 => ?_⟩
  subst e2 e3
  refine ⟨rfl, (Fr.w (by omega) ⟨rfl, Or.inl rfl⟩).trans (Fr.w (by omega) ⟨rfl, Or.inr rfl⟩), Or.inl ⟨by omega, ?_, rI_ww rx⟩⟩
  rw [rI_wi (by decide), rI_ww hr]; omega
end
/-- the least value below a bound, and of alike ones the least code -/
def BestS (Cand : Int → Prop) (V : Int → Int) (bd val code : Int) : Prop := (code = -1 ∧ val = bd ∧ ∀ c, Cand c → bd ≤ V c) ∨ (Cand code ∧ val = V code ∧ val < bd ∧ ∀ c, Cand c → val ≤ V c ∧ (c < code → val < V c))
theorem BestS.ext {Cand : Int → Prop} {V : Int → Int} {bd val code k l : Int} (h : BestS (fun c => Cand c ∧ c < k) V bd val code) (hkl : k ≤ l) (hx : ∀ c, Cand c → k ≤ c → c < l → val ≤ V c) : BestS (fun c => Cand c ∧ c < l) V bd val code := by
  rcases h with ⟨h1, h2, h3⟩ | ⟨h1, h2, h3, h4⟩
  · refine Or.inl ⟨h1, h2, fun c hc => ?_⟩
    by_cases e : c < k
    · exact h3 c ⟨hc.1, e⟩
    · rw [← h2]; exact hx c hc.1 (by omega) hc.2
  · have hk := h1.2
    refine Or.inr ⟨⟨h1.1, by omega⟩, h2, h3, fun c hc => ?_⟩
    by_cases e : c < k
    · exact h4 c ⟨hc.1, e⟩
    · exact ⟨hx c hc.1 (by omega) hc.2, fun q => by omega⟩
theorem BestS.take {Cand : Int → Prop} {V : Int → Int} {bd val code k : Int} (h : BestS (fun c => Cand c ∧ c < k) V bd val code) (hc : Cand k) (hv : V k < val) : BestS (fun c => Cand c ∧ c < k + 1) V bd (V k) k := by
  refine Or.inr ⟨⟨hc, by omega⟩, rfl, ?_, fun c q => ?_⟩
  · rcases h with ⟨h1, h2, h3⟩ | ⟨h1, h2, h3, h4⟩ <;> omega
  · by_cases e : c = k
    · subst e; omega
    · have hl : val ≤ V c := by
        rcases h with ⟨h1, h2, h3⟩ | ⟨h1, h2, h3, h4⟩
        · rw [h2]; exact h3 c ⟨q.1, by omega⟩
        · exact (h4 c ⟨q.1, by omega⟩).1
      omega
theorem BestS.start {Cand : Int → Prop} {V : Int → Int} {bd k : Int} (h : ∀ c, Cand c → k ≤ c) : BestS (fun c => Cand c ∧ c < k) V bd bd (-1) := Or.inl ⟨rfl, rfl, fun c q => by have := h c q.1; omega⟩
theorem BestS.done {Cand : Int → Prop} {V : Int → Int} {bd val code k : Int} (h : BestS (fun c => Cand c ∧ c < k) V bd val code) (hk : ∀ c, Cand c → c < k) : BestS Cand V bd val code := by
  rcases h with ⟨h1, h2, h3⟩ | ⟨h1, h2, h3, h4⟩
  · exact Or.inl ⟨h1, h2, fun c q => h3 c ⟨q, hk c q⟩⟩
  · exact Or.inr ⟨h1.1, h2, h3, fun c q => h4 c ⟨q, hk c q⟩⟩
theorem BestS.uniq {Cand : Int → Prop} {V : Int → Int} {bd v1 c1 v2 c2 : Int} (h : BestS Cand V bd v1 c1) (k : BestS Cand V bd v2 c2) : v1 = v2 ∧ c1 = c2 := by
  rcases h with ⟨h1, h2, h3⟩ | ⟨h1, h2, h3, h4⟩ <;> rcases k with ⟨k1, k2, k3⟩ | ⟨k1, k2, k3, k4⟩
  · omega
  · have := h3 c2 k1; omega
  · have := k3 c1 h1; omega
  · have a := h4 c2 k1
    have b := k4 c1 h1
    omega
theorem BestS.congr {C1 C2 : Int → Prop} {V1 V2 : Int → Int} {bd val code : Int} (h : BestS C1 V1 bd val code) (hc : ∀ c, C1 c ↔ C2 c) (hv : ∀ c, C1 c → V1 c = V2 c) : BestS C2 V2 bd val code := by
  rcases h with ⟨h1, h2, h3⟩ | ⟨h1, h2, h3, h4⟩
  · exact Or.inl ⟨h1, h2, fun c q => by have q1 := (hc c).mpr q; rw [← hv c q1]; exact h3 c q1⟩
  · exact Or.inr ⟨(hc code).mp h1, by rw [← hv code h1]; exact h2, h3, fun c q => by have q1 := (hc c).mpr q; rw [← hv c q1]; exact h4 c q1⟩
