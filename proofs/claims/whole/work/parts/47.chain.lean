/-! EXCHANGES one behind the other: the chain ends, for ways are few. -/
def arr : Nat → List Nat → List (List Nat)
  | 0, _ => [[]]
  | k + 1, c => c.flatMap (fun a => (arr k (c.erase a)).map (fun l => a :: l))
theorem arr_mem : ∀ (k : Nat) (c l : List Nat), l.length = k → l.Nodup → (∀ x, x ∈ l → x ∈ c) → l ∈ arr k c
  | 0, c, l, h, _, _ => by
    rw [List.length_eq_zero_iff.mp h]
    exact List.mem_singleton.mpr rfl
  | k + 1, c, [], h, _, _ => by simp at h
  | k + 1, c, a :: l, h, hn, hc => by
    have hn' := List.nodup_cons.mp hn
    refine List.mem_flatMap.mpr ⟨a, hc a (List.mem_cons_self ..), List.mem_map.mpr ⟨l, arr_mem k _ l (by simpa using h) hn'.2 (fun x hx => ?_), rfl⟩⟩
    have hne : x ≠ a := fun e => hn'.1 (e ▸ hx)
    exact (List.mem_erase_of_ne hne).mpr (hc x (List.mem_cons_of_mem _ hx))
def fc : Nat → Nat → Nat
  | 0, _ => 1
  | k + 1, m => m * fc k (m - 1)
theorem flat_len {g : Nat → List (List Nat)} {m : Nat} : ∀ (l : List Nat), (∀ a, a ∈ l → (g a).length = m) → (l.flatMap g).length = l.length * m
  | [], _ => by simp
  | a :: l, h => by
    rw [List.flatMap_cons, List.length_append, h a (List.mem_cons_self ..), flat_len l (fun b hb => h b (List.mem_cons_of_mem _ hb)), List.length_cons, Nat.add_mul, Nat.one_mul, Nat.add_comm]
theorem arr_len : ∀ (k : Nat) (c : List Nat), (arr k c).length = fc k c.length
  | 0, c => rfl
  | k + 1, c => by
    show (c.flatMap _).length = c.length * fc k (c.length - 1)
    refine flat_len c (fun a ha => ?_)
    rw [List.length_map, arr_len k, List.length_erase_of_mem ha]
def cnt (V : List Nat → Int) (v : Int) (L : List (List Nat)) : Nat := L.countP (fun l => decide (V l < v))
theorem cnt_le {V : List Nat → Int} {v v1 : Int} (h : v1 ≤ v) : ∀ L : List (List Nat), cnt V v1 L ≤ cnt V v L
  | [] => Nat.le_refl _
  | a :: L => by
    have ih := cnt_le (V := V) h L
    unfold cnt at ih ⊢
    rw [List.countP_cons, List.countP_cons]
    by_cases c : V a < v1
    · have c2 : V a < v := by omega
      simp only [c, c2, decide_true, if_true]; omega
    · simp only [c, decide_false]
      split
      · rename_i q; simp at q
      · omega
theorem cnt_lt {V : List Nat → Int} {v v1 : Int} (h : v1 < v) {l0 : List Nat} (e : V l0 = v1) : ∀ L : List (List Nat), l0 ∈ L → cnt V v1 L < cnt V v L
  | [], hm => by simp at hm
  | a :: L, hm => by
    have i1 := cnt_le (V := V) (Int.le_of_lt h) L
    unfold cnt at i1 ⊢
    rw [List.countP_cons, List.countP_cons]
    rcases List.mem_cons.mp hm with rfl | hm
    · have c1 : ¬ V l0 < v1 := by omega
      have c2 : V l0 < v := by omega
      simp only [c1, c2, decide_true, if_true, decide_false]
      split
      · rename_i q; simp at q
      · omega
    · have i2 := cnt_lt (V := V) h e L hm
      unfold cnt at i2
      by_cases c : V a < v1
      · have c2 : V a < v := by omega
        simp only [c, c2, decide_true, if_true]; omega
      · simp only [c, decide_false]
        split
        · rename_i q; simp at q
        · omega
/-- k exchanges, and no more: v is due then -/
def Imp (n gone w : Int) (S F F1 : Int → Int) : Nat → (Nat → Int → Int) → Int → Prop
  | 0, D, v => ExS D n gone w S F F1 v (-1)
  | k + 1, D, v => ∃ p v1 : Int, p ≠ -1 ∧ ExS D n gone w S F F1 v1 p ∧ Imp n gone w S F F1 k (Dswap D (p / 10) (p % 10)) v
section
variable {n gone w : Int} {S F F1 : Int → Int}
theorem ExS.in {D : Nat → Int → Int} {v p : Int} (h : ExS D n gone w S F F1 v p) (hp : p ≠ -1) : ExC n p ∧ v = ExV D n gone w S F F1 p ∧ v < DueD D n gone w S F F1 := by
  rcases h with h | h
  · exact absurd h.1 hp
  · exact ⟨h.1, h.2.1, h.2.2.1⟩
theorem ExS.congr {D D1 : Nat → Int → Int} {v p : Int} (hD : Deq n D D1) (h : ExS D n gone w S F F1 v p) : ExS D1 n gone w S F F1 v p := by
  unfold ExS at h ⊢
  rw [hD.due]
  refine BestS.congr h (fun c => Iff.rfl) (fun c hc => ?_)
  obtain ⟨a, b, e⟩ := hc
  unfold ExV
  exact (hD.swap (by omega) (by omega)).due.symm
theorem Imp.congr : ∀ {k : Nat} {D D1 : Nat → Int → Int} {v : Int}, Deq n D D1 → Imp n gone w S F F1 k D v → Imp n gone w S F F1 k D1 v
  | 0, _, _, _, hD, h => ExS.congr hD h
  | k + 1, D, D1, v, hD, h => by
    obtain ⟨p, v1, hp, h1, h2⟩ := h
    obtain ⟨a, b, e⟩ := (h1.in hp).1
    exact ⟨p, v1, hp, h1.congr hD, Imp.congr (hD.swap (by omega) (by omega)) h2⟩
theorem Imp.uniq : ∀ {k l : Nat} {D : Nat → Int → Int} {v v1 : Int}, Imp n gone w S F F1 k D v → Imp n gone w S F F1 l D v1 → k = l ∧ v = v1
  | 0, 0, _, _, _, h, g => ⟨rfl, (BestS.uniq h g).1⟩
  | 0, l + 1, _, _, _, h, g => by
    obtain ⟨p, v1, hp, h1, h2⟩ := g
    exact absurd (BestS.uniq h h1).2.symm hp
  | k + 1, 0, _, _, _, h, g => by
    obtain ⟨p, v1, hp, h1, h2⟩ := h
    exact absurd (BestS.uniq g h1).2.symm hp
  | k + 1, l + 1, D, v, v1, h, g => by
    obtain ⟨p, w1, hp, h1, h2⟩ := h
    obtain ⟨q, w2, hq, g1, g2⟩ := g
    have e := (BestS.uniq h1 g1).2
    subst e
    have := Imp.uniq h2 g2
    exact ⟨by omega, this.2⟩
def PD (D : Nat → Int → Int) (p : Nat → Nat) : Nat → Int → Int := fun f i => if f ≤ 1 then D f ((p i.toNat : Nat) : Int) else D f i
def trn (s t : Nat) (i : Nat) : Nat := if i = s then t else if i = t then s else i
theorem trn_inj {s t i j : Nat} (h : trn s t i = trn s t j) : i = j := by
  unfold trn at h
  by_cases a : i = s <;> by_cases b : i = t <;> by_cases c : j = s <;> by_cases e : j = t <;> simp only [a, b, c, e, if_true, if_false] at h <;> (try simp only [ite_self] at h) <;> (try split at h) <;> omega
theorem PD_swap {D : Nat → Int → Int} {p : Nat → Nat} {s t : Int} (hs : 0 ≤ s ∧ s < n) (ht : 0 ≤ t ∧ t < n) (hne : s ≠ t) : Deq n (Dswap (PD D p) s t) (PD D (fun i => p (trn s.toNat t.toNat i))) := by
  intro f i f6 i0 i1
  by_cases hf : f ≤ 1
  · have e0 : ∀ (q : Nat → Nat) (j : Int), PD D q f j = D f ((q j.toNat : Nat) : Int) := fun q j => if_pos hf
    rw [e0]
    unfold trn
    by_cases c1 : i.toNat = s.toNat
    · rw [if_pos c1]
      have hfc : f = 0 ∨ f = 1 := by omega
      rcases hfc with rfl | rfl
      · rw [(Dswap_s c1 (by omega)).1, e0]
      · rw [(Dswap_s c1 (by omega)).2, e0]
    · rw [if_neg c1]
      by_cases c2 : i.toNat = t.toNat
      · rw [if_pos c2]
        have hfc : f = 0 ∨ f = 1 := by omega
        rcases hfc with rfl | rfl
        · rw [(Dswap_t c2).1, e0]
        · rw [(Dswap_t c2).2, e0]
      · rw [if_neg c2, Dswap_ne (by omega), e0]
  · rw [Dswap_ne (by omega)]
    unfold PD
    rw [if_neg hf, if_neg hf]
theorem imp_ex0 (D : Nat → Int → Int) (hn : 0 ≤ n ∧ n ≤ 9) : ∀ (k : Nat) (p : Nat → Nat), (∀ i, i < n.toNat → p i < n.toNat) → (∀ i j, i < n.toNat → j < n.toNat → p i = p j → i = j) → cnt (fun l => DueD (PD D (fun i => l.getD i 0)) n gone w S F F1) (DueD (PD D p) n gone w S F F1) (arr n.toNat (List.range n.toNat)) ≤ k → ∃ (j : Nat) (v : Int), j ≤ k ∧ Imp n gone w S F F1 j (PD D p) v := by
  intro k
  induction k with
  | zero =>
    intro p hp hi hk
    obtain ⟨v, c, hx⟩ := BestS.exi (Cand := ExC n) (V := ExV (PD D p) n gone w S F F1) (bd := DueD (PD D p) n gone w S F F1) 100 (fun c hc => by obtain ⟨a, b, e⟩ := hc; omega)
    by_cases ec : c = -1
    · subst ec; exact ⟨0, v, Nat.le_refl _, hx⟩
    · exfalso
      obtain ⟨⟨a, b, e⟩, h2, h3⟩ := ExS.in hx ec
      obtain ⟨p', hp'⟩ : ∃ p' : Nat → Nat, p' = fun i => p (trn (c / 10).toNat (c % 10).toNat i) := ⟨_, rfl⟩
      have hb : ∀ i, i < n.toNat → trn (c / 10).toNat (c % 10).toNat i < n.toNat := by
        intro i hi; unfold trn; split
        · omega
        · split <;> omega
      have hinj : ∀ i j, i < n.toNat → j < n.toNat → p' i = p' j → i = j := by
        intro i j h1 h2 h3
        rw [hp'] at h3
        have h4 := hi _ _ (hb i h1) (hb j h2) h3
        exact trn_inj h4
      have hv : v = DueD (PD D (fun i => ((List.range n.toNat).map p').getD i 0)) n gone w S F F1 := by
        have e1 := (PD_swap (D := D) (p := p) (n := n) (s := c / 10) (t := c % 10) (by omega) (by omega) (by omega)).due (gone := gone) (w := w) (S := S) (F := F) (F1 := F1)
        rw [h2]
        unfold ExV
        rw [← e1, ← hp']
        refine (Deq.due (D := PD D p') (D1 := PD D (fun i => ((List.range n.toNat).map p').getD i 0)) ?_).symm
        intro f i f6 i0 i1
        unfold PD
        by_cases hf : f ≤ 1
        · rw [if_pos hf, if_pos hf]
          have : ((List.range n.toNat).map p').getD i.toNat 0 = p' i.toNat := by
            rw [List.getD_eq_getElem?_getD, List.getElem?_map, List.getElem?_range (by omega)]; rfl
          exact congrArg (fun q : Nat => D f (q : Int)) this
        · rw [if_neg hf, if_neg hf]
      have hmem : (List.range n.toNat).map p' ∈ arr n.toNat (List.range n.toNat) := by
        refine arr_mem _ _ _ (by rw [List.length_map, List.length_range]) ?_ (fun x hx => ?_)
        · refine List.pairwise_map.mpr (List.Pairwise.imp_of_mem ?_ List.nodup_range)
          intro x y hx hy hne h
          exact hne (hinj x y (List.mem_range.mp hx) (List.mem_range.mp hy) h)
        · obtain ⟨y, hy, rfl⟩ := List.mem_map.mp hx
          rw [hp']
          exact List.mem_range.mpr (hp _ (hb y (List.mem_range.mp hy)))
      have := cnt_lt (V := fun l => DueD (PD D (fun i => l.getD i 0)) n gone w S F F1) h3 hv.symm _ hmem
      omega
  | succ k ih =>
    intro p hp hi hk
    obtain ⟨v, c, hx⟩ := BestS.exi (Cand := ExC n) (V := ExV (PD D p) n gone w S F F1) (bd := DueD (PD D p) n gone w S F F1) 100 (fun c hc => by obtain ⟨a, b, e⟩ := hc; omega)
    by_cases ec : c = -1
    · subst ec; exact ⟨0, v, Nat.zero_le _, hx⟩
    · obtain ⟨⟨a, b, e⟩, h2, h3⟩ := ExS.in hx ec
      obtain ⟨p', hp'⟩ : ∃ p' : Nat → Nat, p' = fun i => p (trn (c / 10).toNat (c % 10).toNat i) := ⟨_, rfl⟩
      have hb : ∀ i, i < n.toNat → trn (c / 10).toNat (c % 10).toNat i < n.toNat := by
        intro i hi; unfold trn; split
        · omega
        · split <;> omega
      have hinj : ∀ i j, i < n.toNat → j < n.toNat → p' i = p' j → i = j := by
        intro i j h1 h2 h3
        rw [hp'] at h3
        have h4 := hi _ _ (hb i h1) (hb j h2) h3
        exact trn_inj h4
      have hsw := PD_swap (D := D) (p := p) (n := n) (s := c / 10) (t := c % 10) (by omega) (by omega) (by omega)
      rw [← hp'] at hsw
      have hv0 : v = DueD (PD D p') n gone w S F F1 := by
        rw [h2]; unfold ExV; exact hsw.due.symm
      have hv : v = DueD (PD D (fun i => ((List.range n.toNat).map p').getD i 0)) n gone w S F F1 := by
        rw [hv0]
        refine (Deq.due (D := PD D p') (D1 := PD D (fun i => ((List.range n.toNat).map p').getD i 0)) ?_).symm
        intro f i f6 i0 i1
        unfold PD
        by_cases hf : f ≤ 1
        · rw [if_pos hf, if_pos hf]
          have : ((List.range n.toNat).map p').getD i.toNat 0 = p' i.toNat := by
            rw [List.getD_eq_getElem?_getD, List.getElem?_map, List.getElem?_range (by omega)]; rfl
          exact congrArg (fun q : Nat => D f (q : Int)) this
        · rw [if_neg hf, if_neg hf]
      have hmem : (List.range n.toNat).map p' ∈ arr n.toNat (List.range n.toNat) := by
        refine arr_mem _ _ _ (by rw [List.length_map, List.length_range]) ?_ (fun x hx => ?_)
        · refine List.pairwise_map.mpr (List.Pairwise.imp_of_mem ?_ List.nodup_range)
          intro x y hx hy hne h
          exact hne (hinj x y (List.mem_range.mp hx) (List.mem_range.mp hy) h)
        · obtain ⟨y, hy, rfl⟩ := List.mem_map.mp hx
          rw [hp']
          exact List.mem_range.mpr (hp _ (hb y (List.mem_range.mp hy)))
      have hlt := cnt_lt (V := fun l => DueD (PD D (fun i => l.getD i 0)) n gone w S F F1) h3 hv.symm _ hmem
      obtain ⟨j, v2, hj, hI⟩ := ih p' (fun i hi => by rw [hp']; exact hp _ (hb i hi)) hinj (by rw [← hv0]; omega)
      exact ⟨j + 1, v2, by omega, c, v, ec, hx, hI.congr hsw.symm⟩
theorem imp_ex (D : Nat → Int → Int) (hn : 0 ≤ n ∧ n ≤ 8) : ∃ (j : Nat) (v : Int), j ≤ 40320 ∧ Imp n gone w S F F1 j D v := by
  have hlen : (arr n.toNat (List.range n.toNat)).length ≤ 40320 := by
    rw [arr_len, List.length_range]
    have hk : ∀ k : Nat, k < 9 → fc k k ≤ 40320 := by decide
    exact hk _ (by omega)
  obtain ⟨j, v, hj, hI⟩ := imp_ex0 (gone := gone) (w := w) (S := S) (F := F) (F1 := F1) D (n := n) (by omega) 40320 (fun i => i) (fun i h => h) (fun i j _ _ h => h) (Nat.le_trans List.countP_le_length hlen)
  refine ⟨j, v, hj, hI.congr ?_⟩
  intro f i f6 i0 i1
  unfold PD
  by_cases hf : f ≤ 1
  · rw [if_pos hf, Int.toNat_of_nonneg i0]
  · rw [if_neg hf]
end
section
variable {sc : Nat × (Nat → Int32)} {d : Nat} {σ : aH} {u : Nat} {n : Int} {S F F1 : Int → Int}
theorem s_exchangeOn (hC : Cx σ u n S F F1) (h8 : n ≤ 8) : TI sc (d + 5) mX4_exchangeOn [.ref 26] σ (fun r σ1 => Fr (AQ u) σ σ1 ∧ Dc (rI σ1) u = Dc (rI σ) u ∧ ∃ k : Nat, r = (k : Int) ∧ Imp n (rI σ (u + 1) 9) (1 + rI σ u 9) S F F1 k (Dc (rI σ) u) (rI σ1 26 6)) := by
  have hm := hC.mk
  have hn9 := hC.n9
  have hSt := hC.2.1.2.2.1
  apply T.int
  apply t_X4_exchangeOn hC.1
  obtain ⟨σ1, he1, hF1, hK1⟩ := s_keepCells (sc := sc) (d := d + 2) hC.1
  refine ⟨σ1, he1, hF1.g hC.1, ?_⟩
  have hF01 : Fr (AQ u) σ σ1 := hF1.weak (fun a i z => Or.inr z)
  have hAQ : ∀ (a : Nat) (i : Int), (u ≤ a ∧ a ≤ u + 1) ∨ (u + 4 ≤ a ∧ a ≤ u + 15) ∨ a = 29 ∨ a = 30 → ¬ AQ u a i := fun a i q => by show ¬ (((a = u + 2 ∨ a = u + 3) ∨ (a = 26 ∧ _)) ∨ a = 55 ∨ a = 56); omega
  have hD1 : Dc (rI σ1) u = Dc (rI σ) u := Dc_congr (fun a p q => hF1.row (fun i => by show ¬ (a = 55 ∨ a = 56); omega))
  have hK : ∀ i : Int, 0 ≤ i → i < 9 → rI σ1 55 i = rI σ1 (u + 2) i ∧ rI σ1 56 i = rI σ1 (u + 3) i := by
    intro i i0 i9
    have q1 : ∀ a : Nat, a = u + 2 ∨ a = u + 3 → rI σ1 a i = rI σ a i := fun a ha => hF1.rw i0 (by show ¬ (a = 55 ∨ a = 56); omega)
    rw [q1 _ (Or.inl rfl), q1 _ (Or.inr rfl)]
    exact hK1 i i0 i9
  have hst1 : Stay σ σ1 u := ⟨hF01.rw (by omega) (hAQ _ _ (by omega)), hF01.rw (by omega) (hAQ _ _ (by omega)), hF01.rw (by omega) (hAQ _ _ (by omega)), hF01.rw (by omega) (hAQ _ _ (by omega))⟩
  have hC1 : Cx σ1 u n S F F1 := hC.fr hF01 (hAQ _ _ (by omega)) (hAQ _ _ (by omega)) (fun i => hAQ _ _ (by omega)) (fun i => hAQ _ _ (by omega)) (by rw [hD1]; exact hSt)
  obtain ⟨j, v, hj, hI⟩ := imp_ex (gone := rI σ (u + 1) 9) (w := 1 + rI σ u 9) (S := S) (F := F) (F1 := F1) (Dc (rI σ) u) (n := n) (by omega)
  obtain ⟨P, hP⟩ : ∃ P : aO → aH → Prop, P = QI (fun r σ1 => Fr (AQ u) σ σ1 ∧ Dc (rI σ1) u = Dc (rI σ) u ∧ ∃ k : Nat, r = (k : Int) ∧ Imp n (rI σ (u + 1) 9) (1 + rI σ u 9) S F F1 k (Dc (rI σ) u) (rI σ1 26 6)) := ⟨_, rfl⟩
  rw [← hP]
  have loop : ∀ (k : Nat) (x1 x2 x3 val : Int) (τ : aH), x1 = (j : Int) - k → x3 = x1 → k ≤ j → inR x2 → Fr (AP u) σ1 τ → (∀ (f : Nat) (i : Int), 9 ≤ i → Dc (rI τ) u f i = Dc (rI σ1) u f i) → StB (Dc (rI τ) u) n → rI τ 26 6 = val → ExS (Dc (rI τ) u) n (rI σ (u + 1) 9) (1 + rI σ u 9) S F F1 val x2 → Imp n (rI σ (u + 1) 9) (1 + rI σ u 9) S F F1 k (Dc (rI τ) u) v → L_X4_exchangeOn_13 (Ev sc (d + 4)) sc P x1 x2 x3 τ := by
    intro k
    induction k with
    | zero =>
      intro x1 x2 x3 val τ e1 e3 hk hr hF hfar hB hval hx hi
      have hq := BestS.uniq hx hi
      have hG := hF.g hC1.1
      obtain ⟨σ9, he9, hF9, hD9, f6, f7⟩ := s_back (sc := sc) (d := d + 2) hC1.1 hF hK (fun i i9 => ⟨hfar 0 i i9, hfar 1 i i9⟩)
      have fin : P (.inl (some (.int (nZ x1)))) σ9 := by
        rw [hP]
        refine ⟨x1, rfl, by omega, hF01.trans (hF9.weak (fun a i z => Or.inl z)), hD9.trans hD1, j, by omega, ?_⟩
        rw [f6, hval, hq.1]; exact hI
      apply v_X4_exchangeOn_13 hG (by omega) hr (by omega)
      exact ⟨fun _ => ⟨σ9, he9, hF9.g hC1.1, fin⟩, fun _ => ⟨fun _ => ⟨σ9, he9, hF9.g hC1.1, fin⟩, fun q => absurd hq.2 q⟩⟩
    | succ k ih =>
      intro x1 x2 x3 val τ e1 e3 hk hr hF hfar hB hval hx hi
      obtain ⟨p, v1, hp, h1, h2⟩ := hi
      have hq := BestS.uniq hx h1
      have hp2 : x2 = p := hq.2
      subst hp2
      obtain ⟨⟨a, b, e⟩, -, -⟩ := h1.in hp
      have hG := hF.g hC1.1
      apply v_X4_exchangeOn_13 hG (by omega) hr (by omega)
      refine ⟨fun q => by omega, fun _ => ⟨fun q => absurd q hp, fun _ => ?_⟩⟩
      refine ⟨τ, s_stalls hG, hG, ⟨a, by decide⟩, by omega, ⟨a, by decide⟩, by omega, ?_⟩
      obtain ⟨σ2, he2, hF2, hD2⟩ := s_swapCells (sc := sc) (d := d + 2) (s := x2 / 10) (t := x2 % 10) hG hC.1.2.2.2.2 (by omega) (by omega)
      have hF2' : Fr (AP u) σ1 σ2 := hF.trans (hF2.weak (fun a i z => Or.inl z))
      have hB2 : StB (Dc (rI σ2) u) n := by rw [hD2]; exact hB.swap (by omega) (by omega)
      have hC2 : Cx σ2 u n S F F1 := hC1.ap hF2' hB2
      have hst2 := hF2'.stay hm
      refine ⟨σ2, he2, hF2'.g hC1.1, by omega, ?_⟩
      obtain ⟨r24, σ3, he3, hr3, hF3, hD3, hx3⟩ := s_bestExchange (sc := sc) (d := d) hC2
      have hF3' : Fr (AP u) σ1 σ3 := hF2'.trans hF3
      refine ⟨r24, σ3, he3, hF3'.g hC1.1, hr3, by omega, ?_⟩
      refine ih (x1 + 1) r24 (x3 + 1) _ σ3 (by omega) (by omega) (by omega) hr3 hF3' (fun f i i9 => ?_) (by rw [hD3]; exact hB2) rfl ?_ ?_
      · rw [hD3, hD2, Dswap_ne (by omega)]; exact hfar f i i9
      · rw [hD3, ← hst1.2.2.2, ← hst1.2.2.1, ← hst2.2.2.2, ← hst2.2.2.1]; exact hx3
      · rw [hD3, hD2]; exact h2
  obtain ⟨r9, σ5, he5, hr5, hF5, hD5, hx5⟩ := s_bestExchange (sc := sc) (d := d) hC1
  refine ⟨r9, σ5, he5, hF5.g hC1.1, hr5, ?_⟩
  refine loop j 0 r9 0 _ σ5 (by omega) rfl (Nat.le_refl _) hr5 hF5 (fun f i _ => by rw [hD5]) (by rw [hD5, hD1]; exact hSt) rfl ?_ ?_
  · rw [hD5, ← hst1.2.2.2, ← hst1.2.2.1]; exact hx5
  · rw [hD5, hD1]; exact hI
end
