/-! THE REFERENCE: pieces of a day. -/
def RepU (fr va : Int → Int) (K : Int) (E : Nat → Option Int) : Prop := (0 ≤ K ∧ K ≤ 20) ∧ (∀ i : Int, 0 ≤ i → i < K → 0 ≤ fr i ∧ fr i < 1440 ∧ E (fr i).toNat = some (va i)) ∧ (∀ i j : Int, 0 ≤ i → i < K → 0 ≤ j → j < K → fr i = fr j → i = j) ∧ (∀ (t : Nat) (v : Int), E t = some v → ∃ i : Int, 0 ≤ i ∧ i < K ∧ fr i = t)
/-- r is the latest that begins at t or ahead of it -/
def LstS (fr : Int → Int) (K t r : Int) : Prop := (r = -1 ∧ ∀ i : Int, 0 ≤ i → i < K → t < fr i) ∨ ((0 ≤ r ∧ r < K) ∧ fr r ≤ t ∧ ∀ i : Int, 0 ≤ i → i < K → fr i ≤ t → fr i ≤ fr r)
theorem att_last {E : Nat → Option Int} {a v : Int} {p t : Nat} (hp : p ≤ t) (hE : E p = some v) (hno : ∀ s : Nat, p < s → s ≤ t → E s = none) : att E a t = v := (att_keep hp hno).trans (att_some hE)
theorem LstS.at {fr va : Int → Int} {K t r : Int} {E : Nat → Option Int} (h : LstS fr K t r) (hU : RepU fr va K E) (t0 : 0 ≤ t) (hd : Int) : (r = -1 ∧ aT E hd t = hd ∧ lat E t = -1) ∨ ((0 ≤ r ∧ r < K) ∧ aT E hd t = va r ∧ lat E t = fr r) := by
  obtain ⟨-, u1, -, u2⟩ := hU
  rcases h with ⟨a, b⟩ | ⟨a, b, c⟩
  · refine Or.inl ⟨a, ?_, ?_⟩
    · refine att_none (fun s hs => ?_)
      cases he : E s with
      | none => rfl
      | some v => obtain ⟨i, i0, i1, i2⟩ := u2 s v he
                  have := b i i0 i1
                  omega
    · refine att_none (fun s hs => ?_)
      unfold sE
      cases he : E s with
      | none => exact if_pos rfl
      | some v => obtain ⟨i, i0, i1, i2⟩ := u2 s v he
                  have := b i i0 i1
                  omega
  · have hr := u1 r a.1 a.2
    have no : ∀ s : Nat, (fr r).toNat < s → s ≤ t.toNat → E s = none := by
      intro s h1 h2
      cases he : E s with
      | none => rfl
      | some v => obtain ⟨i, i0, i1, i2⟩ := u2 s v he
                  have := c i i0 i1 (by omega)
                  omega
    refine Or.inr ⟨a, ?_, ?_⟩
    · exact att_last (p := (fr r).toNat) (by omega) hr.2.2 no
    · refine att_last (p := (fr r).toNat) (by omega) ?_ (fun s h1 h2 => ?_)
      · unfold sE; rw [hr.2.2, if_neg (by simp)]; congr 1; omega
      · unfold sE; rw [no s h1 h2]; exact if_pos rfl
theorem LstS.stay {fr : Int → Int} {K t r s T : Int} (h : LstS fr K t r) (hT : ∀ i : Int, 0 ≤ i → i < K → t < fr i → T ≤ fr i) (h1 : t ≤ s) (h2 : s < T) : LstS fr K s r := by
  rcases h with ⟨a, b⟩ | ⟨a, b, c⟩
  · exact Or.inl ⟨a, fun i i0 i1 => by have := hT i i0 i1 (b i i0 i1); omega⟩
  · refine Or.inr ⟨a, by omega, fun i i0 i1 i2 => ?_⟩
    by_cases z : fr i ≤ t
    · exact c i i0 i1 z
    · have := hT i i0 i1 (by omega); omega
def InS (fr : Int → Int) (K x : Int) : Prop := ∃ i : Int, 0 ≤ i ∧ i < K ∧ fr i = x
/-- the next change behind t -/
def ChgS (fr fq : Int → Int) (K Kq du t r : Int) : Prop := (t < r ∧ r ≤ t / 60 * 60 + 60) ∧ (∀ i : Int, 0 ≤ i → i < K → t < fr i → r ≤ fr i) ∧ (∀ i : Int, 0 ≤ i → i < Kq → t < fq i → r ≤ fq i) ∧ (t < du → r ≤ du) ∧ (r = t / 60 * 60 + 60 ∨ InS fr K r ∨ InS fq Kq r ∨ r = du)
theorem sm_drop {f h : Int → Int} {i : Int} : ∀ {n : Nat}, (∀ t : Int, h t ≤ f t) → 0 ≤ i → i < n → h i + 1 ≤ f i → sm h n + 1 ≤ sm f n
  | 0, _, i0, i1, _ => by omega
  | n + 1, hh, i0, i1, hi => by
    rw [sm_succ, sm_succ]
    by_cases c : i = n
    · have := sm_mono (f := h) (g := f) (n := n) (fun t _ _ => hh t)
      rw [c] at hi; omega
    · have := sm_drop (f := f) (h := h) (i := i) (n := n) hh i0 (by omega) hi
      have := hh n
      omega
/-- how many changes are left -/
noncomputable def lft (fr fq : Int → Int) (K Kq du t : Int) : Int := (23 - t / 60) + sm (fun i => cif (t < fr i) 1 0) K.toNat + sm (fun i => cif (t < fq i) 1 0) Kq.toNat + cif (t < du) 1 0
theorem lft_drop {fr fq : Int → Int} {K Kq du t r : Int} (h0 : 0 ≤ t) (h : ChgS fr fq K Kq du t r) (hr : r < 1440) : lft fr fq K Kq du r + 1 ≤ lft fr fq K Kq du t := by
  obtain ⟨h1, h2, h3, h4, h5⟩ := h
  have m1 : ∀ x : Int, cif (r < x) 1 0 ≤ cif (t < x) 1 0 := by
    intro x
    by_cases c : r < x
    · rw [cif_pos c, cif_pos (by omega)]; exact Int.le_refl _
    · rw [cif_neg c]; exact (cif_bd (lo := 0) (hi := 1) (by omega) (by omega)).1
  have a1 := sm_mono (f := fun i => cif (r < fr i) 1 0) (g := fun i => cif (t < fr i) 1 0) (n := K.toNat) (fun i _ _ => m1 (fr i))
  have a2 := sm_mono (f := fun i => cif (r < fq i) 1 0) (g := fun i => cif (t < fq i) 1 0) (n := Kq.toNat) (fun i _ _ => m1 (fq i))
  have a3 := m1 du
  have a4 : 23 - r / 60 ≤ 23 - t / 60 := by omega
  unfold lft
  rcases h5 with z | ⟨i, i0, i1, i2⟩ | ⟨i, i0, i1, i2⟩ | z
  · have : 23 - r / 60 + 1 ≤ 23 - t / 60 := by omega
    omega
  · have := sm_drop (f := fun i => cif (t < fr i) 1 0) (h := fun i => cif (r < fr i) 1 0) (i := i) (n := K.toNat) (fun t => m1 (fr t)) i0 (by omega) (by
      show cif (r < fr i) 1 0 + 1 ≤ cif (t < fr i) 1 0
      rw [cif_neg (by omega), cif_pos (by omega)]; decide)
    omega
  · have := sm_drop (f := fun i => cif (t < fq i) 1 0) (h := fun i => cif (r < fq i) 1 0) (i := i) (n := Kq.toNat) (fun t => m1 (fq t)) i0 (by omega) (by
      show cif (r < fq i) 1 0 + 1 ≤ cif (t < fq i) 1 0
      rw [cif_neg (by omega), cif_pos (by omega)]; decide)
    omega
  · have : cif (r < du) 1 0 + 1 ≤ cif (t < du) 1 0 := by rw [cif_neg (by omega), cif_pos (by omega)]; decide
    omega
theorem lft_bd {fr fq : Int → Int} {K Kq du t : Int} (hK : 0 ≤ K ∧ K ≤ 20) (hKq : 0 ≤ Kq ∧ Kq ≤ 20) (h : 0 ≤ t ∧ t < 1440) : 0 ≤ lft fr fq K Kq du t ∧ lft fr fq K Kq du t ≤ 64 := by
  have a1 := sm_bd (f := fun i => cif (t < fr i) 1 0) (lo := 0) (hi := 1) (n := K.toNat) (fun i _ _ => cif_bd (by omega) (by omega))
  have a2 := sm_bd (f := fun i => cif (t < fq i) 1 0) (lo := 0) (hi := 1) (n := Kq.toNat) (fun i _ _ => cif_bd (by omega) (by omega))
  have a3 := cif_bd (p := t < du) (a := 1) (b := 0) (lo := 0) (hi := 1) (by omega) (by omega)
  unfold lft
  omega
/-- the first np pieces, up to minute fin -/
def PcP (m : Nat → Int → Int) (np fin : Int) (fr : Int → Int) (K du : Int) (Er : Nat → Option Int) : Prop := ∀ q : Int, 0 ≤ q → q < np → ((0 ≤ m (190 + q.toNat) 0 ∧ m (190 + q.toNat) 0 < m (190 + q.toNat) 1) ∧ (m (190 + q.toNat) 1 ≤ 1440 ∧ m (190 + q.toNat) 1 ≤ m (190 + q.toNat) 0 / 60 * 60 + 60)) ∧ (q = 0 → m (190 + q.toNat) 0 = 0) ∧ (q + 1 < np → m (190 + (q + 1).toNat) 0 = m (190 + q.toNat) 1) ∧ (q + 1 = np → m (190 + q.toNat) 1 = fin) ∧ ∀ t : Int, m (190 + q.toNat) 0 ≤ t → t < m (190 + q.toNat) 1 → LstS fr K t (m (190 + q.toNat) 2) ∧ aT Er 1 t = m (190 + q.toNat) 3 ∧ (du ≤ t ↔ du ≤ m (190 + q.toNat) 0)
section
variable {sc : Nat × (Nat → Int32)} {d : Nat} {σ : aH} {u : Nat}
theorem m_sunAt {fr : Int → Int} {K t : Int} (hG : G σ u) (hK : rI σ 80 6 = K) (hb : 0 ≤ K ∧ K ≤ 20) (hfr : ∀ i : Int, 0 ≤ i → i < K → rI σ (122 + i.toNat) 0 = fr i) (rt : inR t) : TI sc (d + 1) mX10_sunAt [.ref 76, .int (nZ t)] σ (fun r σ1 => σ1 = σ ∧ LstS fr K t r ∧ (-1 ≤ r ∧ r < 20)) := by
  apply T.int
  apply t_X10_sunAt hG rt
  obtain ⟨P, hP⟩ : ∃ P : aO → aH → Prop, P = QI (fun r σ1 => σ1 = σ ∧ LstS fr K t r ∧ (-1 ≤ r ∧ r < 20)) := ⟨_, rfl⟩
  rw [← hP]
  have loop : ∀ (f : Nat) (i r : Int), (K - i).toNat = f → 0 ≤ i → i ≤ K → LstS fr i t r → (-1 ≤ r ∧ r < 20) → L_X10_sunAt_4 (Ev sc d) sc P t r i σ := by
    intro f
    induction f with
    | zero =>
      intro i r hf i0 i1 hl hr
      apply v_X10_sunAt_4 hG rt (by omega) (by omega)
      refine ⟨fun _ => ?_, fun q => by omega⟩
      rw [hP]
      have e : i = K := by omega
      rw [e] at hl
      exact ⟨r, rfl, by omega, rfl, hl, hr⟩
    | succ f ih =>
      intro i r hf i0 i1 hl hr
      apply v_X10_sunAt_4 hG rt (by omega) (by omega)
      rw [hfr i i0 (by omega)]
      refine ⟨fun q => by omega, fun _ => ⟨by omega, fun q => ⟨by omega, ih (i + 1) r (by omega) (by omega) (by omega) ?_ hr⟩, fun q => ⟨fun q1 => ⟨by omega, ih (i + 1) i (by omega) (by omega) (by omega) ?_ (by omega)⟩, fun q1 => ⟨by omega, ?_⟩⟩⟩⟩
      · rcases hl with ⟨a, b⟩ | ⟨a, b, c⟩
        · refine Or.inl ⟨a, fun j j0 j1 => ?_⟩
          by_cases z : j = i
          · rw [z]; exact q
          · exact b j j0 (by omega)
        · refine Or.inr ⟨by omega, b, fun j j0 j1 j2 => ?_⟩
          by_cases z : j = i
          · rw [z] at j2; omega
          · exact c j j0 (by omega) j2
      · refine Or.inr ⟨by omega, by omega, fun j j0 j1 j2 => ?_⟩
        rcases hl with ⟨a, b⟩ | ⟨a, b, c⟩
        · by_cases z : j = i
          · rw [z]; exact Int.le_refl _
          · have := b j j0 (by omega); omega
        · omega
      · rcases hl with ⟨a, b⟩ | ⟨a, b, c⟩
        · omega
        · rw [hfr r a.1 (by omega)]
          refine ⟨by omega, fun q2 => ⟨by omega, ih (i + 1) r (by omega) (by omega) (by omega) (Or.inr ⟨by omega, b, fun j j0 j1 j2 => ?_⟩) hr⟩, fun q2 => ⟨by omega, ih (i + 1) i (by omega) (by omega) (by omega) (Or.inr ⟨by omega, by omega, fun j j0 j1 j2 => ?_⟩) (by omega)⟩⟩
          · by_cases z : j = i
            · rw [z]; exact q2
            · exact c j j0 (by omega) j2
          · by_cases z : j = i
            · rw [z]; exact Int.le_refl _
            · have := c j j0 (by omega) j2; omega
  exact loop _ 0 (-1) rfl (by omega) (by omega) (Or.inl ⟨rfl, fun i a b => by omega⟩) (by omega)
theorem m_rateAt {fr : Int → Int} {K t : Int} (hG : G σ u) (hK : rI σ 80 7 = K) (hb : 0 ≤ K ∧ K ≤ 20) (hfr : ∀ i : Int, 0 ≤ i → i < K → rI σ (164 + i.toNat) 0 = fr i) (rt : inR t) : TI sc (d + 1) mX10_rateAt [.ref 76, .int (nZ t)] σ (fun r σ1 => σ1 = σ ∧ ∃ q : Int, LstS fr K t q ∧ (q = -1 → r = 1) ∧ (q ≠ -1 → r = rI σ (164 + q.toNat) 1)) := by
  apply T.int
  apply t_X10_rateAt hG rt
  obtain ⟨P, hP⟩ : ∃ P : aO → aH → Prop, P = QI (fun r σ1 => σ1 = σ ∧ ∃ q : Int, LstS fr K t q ∧ (q = -1 → r = 1) ∧ (q ≠ -1 → r = rI σ (164 + q.toNat) 1)) := ⟨_, rfl⟩
  rw [← hP]
  have loop : ∀ (f : Nat) (i r : Int), (K - i).toNat = f → 0 ≤ i → i ≤ K → LstS fr i t r → (-1 ≤ r ∧ r < 20) → L_X10_rateAt_4 (Ev sc d) sc P t r i σ := by
    intro f
    induction f with
    | zero =>
      intro i r hf i0 i1 hl hr
      apply v_X10_rateAt_4 hG rt (by omega) (by omega)
      have e : i = K := by omega
      rw [e] at hl
      refine ⟨fun _ => ⟨fun q => ⟨by omega, ?_⟩, fun q => ?_⟩, fun q => by omega⟩
      · rw [hP]
        exact ⟨_, rfl, rI_R _ _ _, rfl, r, hl, fun z => absurd z q, fun _ => rfl⟩
      · rw [hP]
        exact ⟨1, rfl, by decide, rfl, r, hl, fun _ => rfl, fun z => absurd q z⟩
    | succ f ih =>
      intro i r hf i0 i1 hl hr
      apply v_X10_rateAt_4 hG rt (by omega) (by omega)
      rw [hfr i i0 (by omega)]
      refine ⟨fun q => by omega, fun _ => ⟨by omega, fun q => ⟨by omega, ih (i + 1) r (by omega) (by omega) (by omega) ?_ hr⟩, fun q => ⟨fun q1 => ⟨by omega, ih (i + 1) i (by omega) (by omega) (by omega) ?_ (by omega)⟩, fun q1 => ⟨by omega, ?_⟩⟩⟩⟩
      · rcases hl with ⟨a, b⟩ | ⟨a, b, c⟩
        · refine Or.inl ⟨a, fun j j0 j1 => ?_⟩
          by_cases z : j = i
          · rw [z]; exact q
          · exact b j j0 (by omega)
        · refine Or.inr ⟨by omega, b, fun j j0 j1 j2 => ?_⟩
          by_cases z : j = i
          · rw [z] at j2; omega
          · exact c j j0 (by omega) j2
      · refine Or.inr ⟨by omega, by omega, fun j j0 j1 j2 => ?_⟩
        rcases hl with ⟨a, b⟩ | ⟨a, b, c⟩
        · by_cases z : j = i
          · rw [z]; exact Int.le_refl _
          · have := b j j0 (by omega); omega
        · omega
      · rcases hl with ⟨a, b⟩ | ⟨a, b, c⟩
        · omega
        · rw [hfr r a.1 (by omega)]
          refine ⟨by omega, fun q2 => ⟨by omega, ih (i + 1) r (by omega) (by omega) (by omega) (Or.inr ⟨by omega, b, fun j j0 j1 j2 => ?_⟩) hr⟩, fun q2 => ⟨by omega, ih (i + 1) i (by omega) (by omega) (by omega) (Or.inr ⟨by omega, by omega, fun j j0 j1 j2 => ?_⟩) (by omega)⟩⟩
          · by_cases z : j = i
            · rw [z]; exact q2
            · exact c j j0 (by omega) j2
          · by_cases z : j = i
            · rw [z]; exact Int.le_refl _
            · have := c j j0 (by omega) j2; omega
  exact loop _ 0 (-1) rfl (by omega) (by omega) (Or.inl ⟨rfl, fun i a b => by omega⟩) (by omega)
theorem m_change {fr fq : Int → Int} {K Kq du t : Int} (hG : G σ u) (hK : rI σ 80 6 = K) (hb : 0 ≤ K ∧ K ≤ 20) (hfr : ∀ i : Int, 0 ≤ i → i < K → rI σ (122 + i.toNat) 0 = fr i) (hKq : rI σ 80 7 = Kq) (hbq : 0 ≤ Kq ∧ Kq ≤ 20) (hfq : ∀ i : Int, 0 ≤ i → i < Kq → rI σ (164 + i.toNat) 0 = fq i) (hdu : rI σ 80 4 = du) (rt : 0 ≤ t ∧ t < 1440) : TI sc (d + 1) mX10_change [.ref 76, .int (nZ t)] σ (fun r σ1 => σ1 = σ ∧ ChgS fr fq K Kq du t r) := by
  apply T.int
  apply t_X10_change hG (by omega)
  refine ⟨⟨by omega, by omega⟩, by omega, by omega, by omega, fun z4 e4 => ?_⟩
  obtain ⟨P, hP⟩ : ∃ P : aO → aH → Prop, P = QI (fun r σ1 => σ1 = σ ∧ ChgS fr fq K Kq du t r) := ⟨_, rfl⟩
  rw [← hP]
  have l2 : ∀ (f : Nat) (i x : Int), (Kq - i).toNat = f → 0 ≤ i → i ≤ Kq → (t < x ∧ x ≤ t / 60 * 60 + 60) → (∀ j : Int, 0 ≤ j → j < K → t < fr j → x ≤ fr j) → (∀ j : Int, 0 ≤ j → j < i → t < fq j → x ≤ fq j) → (x = t / 60 * 60 + 60 ∨ InS fr K x ∨ InS fq Kq x) → L_X10_change_69 (Ev sc d) sc P t x i σ := by
    intro f
    induction f with
    | zero =>
      intro i x hf i0 i1 hx h1 h2 h3
      have e : i = Kq := by omega
      rw [e] at h2
      apply v_X10_change_69 hG (by omega) (by omega) (by omega)
      rw [hdu]
      refine ⟨fun _ => ⟨fun q => ?_, fun q => ⟨fun q1 => ?_, fun q1 => ?_⟩⟩, fun q => by omega⟩
      · rw [hP]
        exact ⟨x, rfl, by omega, rfl, hx, h1, h2, fun z => by omega, h3.elim Or.inl (fun z => Or.inr (z.elim Or.inl (fun z => Or.inr (Or.inl z))))⟩
      · rw [hP]
        exact ⟨x, rfl, by omega, rfl, hx, h1, h2, fun z => by omega, h3.elim Or.inl (fun z => Or.inr (z.elim Or.inl (fun z => Or.inr (Or.inl z))))⟩
      · rw [hP]
        exact ⟨du, rfl, by omega, rfl, by omega, fun j j0 j1 j2 => by have := h1 j j0 j1 j2; omega, fun j j0 j1 j2 => by have := h2 j j0 j1 j2; omega, fun _ => Int.le_refl _, Or.inr (Or.inr (Or.inr rfl))⟩
    | succ f ih =>
      intro i x hf i0 i1 hx h1 h2 h3
      apply v_X10_change_69 hG (by omega) (by omega) (by omega)
      rw [hfq i i0 (by omega)]
      refine ⟨fun q => by omega, fun _ => ⟨by omega, fun q => ⟨by omega, ih (i + 1) x (by omega) (by omega) (by omega) hx h1 (fun j j0 j1 j2 => ?_) h3⟩, fun q => ⟨by omega, fun q1 => ⟨by omega, ih (i + 1) x (by omega) (by omega) (by omega) hx h1 (fun j j0 j1 j2 => ?_) h3⟩, fun q1 => ⟨by omega, fun z6 e6 => ⟨by omega, ?_⟩⟩⟩⟩⟩
      · by_cases z : j = i
        · rw [z] at j2; omega
        · exact h2 j j0 (by omega) j2
      · by_cases z : j = i
        · rw [z]; exact q1
        · exact h2 j j0 (by omega) j2
      · rw [e6]
        refine ih (i + 1) (fq i) (by omega) (by omega) (by omega) (by omega) (fun j j0 j1 j2 => by have := h1 j j0 j1 j2; omega) (fun j j0 j1 j2 => ?_) (Or.inr (Or.inr ⟨i, i0, by omega, rfl⟩))
        by_cases z : j = i
        · rw [z]; exact Int.le_refl _
        · have := h2 j j0 (by omega) j2; omega
  have l1 : ∀ (f : Nat) (i x : Int), (K - i).toNat = f → 0 ≤ i → i ≤ K → (t < x ∧ x ≤ t / 60 * 60 + 60) → (∀ j : Int, 0 ≤ j → j < i → t < fr j → x ≤ fr j) → (x = t / 60 * 60 + 60 ∨ InS fr K x) → L_X10_change_13 (Ev sc d) sc P t x i σ := by
    intro f
    induction f with
    | zero =>
      intro i x hf i0 i1 hx h1 h3
      have e : i = K := by omega
      rw [e] at h1
      apply v_X10_change_13 hG (by omega) (by omega) (by omega)
      exact ⟨fun _ => l2 _ 0 x rfl (by omega) (by omega) hx h1 (fun j a b => by omega) (h3.elim Or.inl (fun z => Or.inr (Or.inl z))), fun q => by omega⟩
    | succ f ih =>
      intro i x hf i0 i1 hx h1 h3
      apply v_X10_change_13 hG (by omega) (by omega) (by omega)
      rw [hfr i i0 (by omega)]
      refine ⟨fun q => by omega, fun _ => ⟨by omega, fun q => ⟨by omega, ih (i + 1) x (by omega) (by omega) (by omega) hx (fun j j0 j1 j2 => ?_) h3⟩, fun q => ⟨by omega, fun q1 => ⟨by omega, ih (i + 1) x (by omega) (by omega) (by omega) hx (fun j j0 j1 j2 => ?_) h3⟩, fun q1 => ⟨by omega, fun z6 e6 => ⟨by omega, ?_⟩⟩⟩⟩⟩
      · by_cases z : j = i
        · rw [z] at j2; omega
        · exact h1 j j0 (by omega) j2
      · by_cases z : j = i
        · rw [z]; exact q1
        · exact h1 j j0 (by omega) j2
      · rw [e6]
        refine ih (i + 1) (fr i) (by omega) (by omega) (by omega) (by omega) (fun j j0 j1 j2 => ?_) (Or.inr ⟨i, i0, by omega, rfl⟩)
        by_cases z : j = i
        · rw [z]; exact Int.le_refl _
        · have := h1 j j0 (by omega) j2; omega
  exact l1 _ 0 z4 rfl (by omega) (by omega) (by omega) (fun j a b => by omega) (Or.inl e4)
theorem ChgS.uniq {fr fq : Int → Int} {K Kq du t r q : Int} (h : ChgS fr fq K Kq du t r) (k : ChgS fr fq K Kq du t q) : r = q := by
  have key : ∀ {r q : Int}, ChgS fr fq K Kq du t r → ChgS fr fq K Kq du t q → r ≤ q := by
    intro r q h k
    obtain ⟨h1, h2, h3, h4, h5⟩ := h
    obtain ⟨k1, k2, k3, k4, k5⟩ := k
    rcases k5 with z | ⟨i, i0, i1, i2⟩ | ⟨i, i0, i1, i2⟩ | z
    · omega
    · rw [← i2]; exact h2 i i0 i1 (by omega)
    · rw [← i2]; exact h3 i i0 i1 (by omega)
    · rw [z]; exact h4 (by omega)
  have a := key h k
  have b := key k h
  omega
/-- what laying the pieces changes -/
abbrev AL : Nat → Int → Prop := fun a i => (a = 76 ∧ i = 25) ∨ (190 ≤ a ∧ a ≤ 259)
theorem m_laysPieces {fr fq va : Int → Int} {K Kq du : Int} {Er : Nat → Option Int} (hG : G σ u) (hK : rI σ 80 6 = K) (hb : 0 ≤ K ∧ K ≤ 20) (hfr : ∀ i : Int, 0 ≤ i → i < K → rI σ (122 + i.toNat) 0 = fr i) (hKq : rI σ 80 7 = Kq) (hfq : ∀ i : Int, 0 ≤ i → i < Kq → rI σ (164 + i.toNat) 0 = fq i ∧ rI σ (164 + i.toNat) 1 = va i) (hU : RepU fq va Kq Er) (hdu : rI σ 80 4 = du) : TV sc (d + 2) mX10_laysPieces [.ref 76] σ (fun σ1 => Fr AL σ σ1 ∧ (1 ≤ rI σ1 76 25 ∧ rI σ1 76 25 ≤ 65) ∧ PcP (rI σ1) (rI σ1 76 25) 1440 fr K du Er) := by
  have hbq := hU.1
  apply T.void
  apply t_X10_laysPieces hG
  intro σ1 e1
  obtain ⟨P, hP⟩ : ∃ P : aO → aH → Prop, P = QV (fun σ1 => Fr AL σ σ1 ∧ (1 ≤ rI σ1 76 25 ∧ rI σ1 76 25 ≤ 65) ∧ PcP (rI σ1) (rI σ1 76 25) 1440 fr K du Er) := ⟨_, rfl⟩
  rw [← hP]
  have nA : ∀ (a : Nat) (i : Int), a < 190 → a ≠ 76 → ¬ AL a i := fun a i p q => by show ¬ ((a = 76 ∧ i = 25) ∨ (190 ≤ a ∧ a ≤ 259)); omega
  have keep : ∀ τ : aH, Fr AL σ τ → rI τ 80 6 = K ∧ (∀ i : Int, 0 ≤ i → i < K → rI τ (122 + i.toNat) 0 = fr i) ∧ rI τ 80 7 = Kq ∧ (∀ i : Int, 0 ≤ i → i < Kq → rI τ (164 + i.toNat) 0 = fq i ∧ rI τ (164 + i.toNat) 1 = va i) ∧ rI τ 80 4 = du := by
    intro τ hF
    refine ⟨(hF.rw (by omega) (nA _ _ (by omega) (by omega))).trans hK, fun i i0 i1 => (hF.rw (by omega) (nA _ _ (by omega) (by omega))).trans (hfr i i0 i1), (hF.rw (by omega) (nA _ _ (by omega) (by omega))).trans hKq, fun i i0 i1 => ?_, (hF.rw (by omega) (nA _ _ (by omega) (by omega))).trans hdu⟩
    rw [hF.rw (by omega) (nA _ _ (by omega) (by omega)), hF.rw (by omega) (nA _ _ (by omega) (by omega))]
    exact hfq i i0 i1
  have loop : ∀ (f : Nat) (t : Int) (τ : aH), (1440 - t).toNat = f → 0 ≤ t → t ≤ 1440 → Fr AL σ τ → 0 ≤ rI τ 76 25 → (t < 1440 → rI τ 76 25 + lft fr fq K Kq du t ≤ 64) → (t = 1440 → 1 ≤ rI τ 76 25 ∧ rI τ 76 25 ≤ 65) → (rI τ 76 25 = 0 → t = 0) → PcP (rI τ) (rI τ 76 25) t fr K du Er → L_X10_laysPieces_7 (Ev sc (d + 1)) sc P t τ := by
    intro f
    induction f using Nat.strongRecOn with
    | ind f ih =>
      intro t τ hf t0 t1 hF hp0 hp1 hp2 hp3 hPc
      have hG1 := hF.g hG
      apply v_X10_laysPieces_7 hG1 (by omega)
      by_cases c : 1440 ≤ t
      · refine ⟨fun _ => ?_, fun q => absurd c q⟩
        have e : t = 1440 := by omega
        rw [e] at hPc
        rw [hP]
        exact ⟨rfl, hF, hp2 e, hPc⟩
      · refine ⟨fun q => absurd q c, fun _ => ?_⟩
        have hl := lft_bd (fr := fr) (fq := fq) (du := du) hb hbq ⟨t0, show t < 1440 by omega⟩
        have hp := hp1 (by omega)
        obtain ⟨p, ep⟩ : ∃ p : Int, p = rI τ 76 25 := ⟨_, rfl⟩
        rw [← ep] at hp0 hp hp3 hPc hp2 ⊢
        have row : ∀ i : Int, AL (190 + p.toNat) i := fun i => Or.inr ⟨by omega, by omega⟩
        refine ⟨by omega, fun σ2 e2 => ?_⟩
        have hF2 : Fr AL σ σ2 := by rw [← e2]; exact hF.trans (Fr.w (by omega) (row _))
        have p2 : rI σ2 76 25 = p := by rw [← e2, rI_wa (by omega)]; exact ep.symm
        rw [p2]
        obtain ⟨a1, a2, a3, a4, a5⟩ := keep σ2 hF2
        obtain ⟨r10, σ6, he6, hr6, e6, h6⟩ := m_change (sc := sc) (d := d) (t := t) (hF2.g hG) a1 hb a2 a3 hbq (fun i i0 i1 => (a4 i i0 i1).1) a5 ⟨t0, by omega⟩
        subst e6
        refine ⟨by omega, r10, σ6, he6, hF2.g hG, hr6, fun σ11 e11 => ?_⟩
        have hF11 : Fr AL σ σ11 := by rw [← e11]; exact hF2.trans (Fr.w (by omega) (row _))
        have p11 : rI σ11 76 25 = p := by rw [← e11, rI_wa (by omega)]; exact p2
        rw [p11]
        obtain ⟨b1, b2, b3, b4, b5⟩ := keep σ11 hF11
        obtain ⟨r19, σ15, he15, hr15, e15, h15, hb15⟩ := m_sunAt (sc := sc) (d := d) (t := t) (hF11.g hG) b1 hb b2 (by omega)
        subst e15
        refine ⟨by omega, r19, σ15, he15, hF11.g hG, hr15, fun σ20 e20 => ?_⟩
        have hF20 : Fr AL σ σ20 := by rw [← e20]; exact hF11.trans (Fr.w (by omega) (row _))
        have p20 : rI σ20 76 25 = p := by rw [← e20, rI_wa (by omega)]; exact p11
        rw [p20]
        obtain ⟨c1, c2, c3, c4, c5⟩ := keep σ20 hF20
        obtain ⟨r28, σ24, he24, hr24, e24, qq, hq1, hq2, hq3⟩ := m_rateAt (sc := sc) (d := d) (t := t) (hF20.g hG) c3 hbq (fun i i0 i1 => (c4 i i0 i1).1) (by omega)
        subst e24
        have hrate : ∀ s : Int, t ≤ s → s < r10 → aT Er 1 s = r28 := by
          intro s s0 s1
          have hls := hq1.stay h6.2.2.1 s0 s1
          rcases hls.at hU (by omega) 1 with ⟨z1, z2, -⟩ | ⟨z1, z2, -⟩
          · rw [z2, hq2 z1]
          · rw [z2, hq3 (by omega)]; exact (c4 qq z1.1 z1.2).2.symm
        refine ⟨by omega, r28, σ24, he24, hF20.g hG, hr24, fun σ29 e29 => ?_⟩
        have hF29 : Fr AL σ σ29 := by rw [← e29]; exact hF20.trans (Fr.w (by omega) (row _))
        have p29 : rI σ29 76 25 = p := by rw [← e29, rI_wa (by omega)]; exact p20
        rw [p29]
        refine ⟨by omega, fun σ33 e33 => ?_⟩
        have hF33 : Fr AL σ σ33 := by rw [← e33]; exact hF29.trans (Fr.w (by omega) (Or.inl ⟨rfl, rfl⟩))
        have p33 : rI σ33 76 25 = p + 1 := by rw [← e33]; exact rI_ww (by omega)
        obtain ⟨d1, d2, d3, d4, d5⟩ := keep σ33 hF33
        obtain ⟨r40, σ36, he36, hr36, e36, h36⟩ := m_change (sc := sc) (d := d) (t := t) (hF33.g hG) d1 hb d2 d3 hbq (fun i i0 i1 => (d4 i i0 i1).1) d5 ⟨t0, by omega⟩
        subst e36
        have er : r40 = r10 := h36.uniq h6
        refine ⟨r40, σ36, he36, hF33.g hG, hr36, ?_⟩
        rw [er]
        have h61 := h6.1
        -- the new row and the old ones
        have f0 : rI σ36 (190 + p.toNat) 0 = t := by rw [← e33, rI_wa (by omega), ← e29, rI_wi (by decide), ← e20, rI_wi (by decide), ← e11, rI_wi (by decide), ← e2]; exact rI_ww (by omega)
        have f1 : rI σ36 (190 + p.toNat) 1 = r10 := by rw [← e33, rI_wa (by omega), ← e29, rI_wi (by decide), ← e20, rI_wi (by decide), ← e11]; exact rI_ww hr6
        have f2 : rI σ36 (190 + p.toNat) 2 = r19 := by rw [← e33, rI_wa (by omega), ← e29, rI_wi (by decide), ← e20]; exact rI_ww hr15
        have f3 : rI σ36 (190 + p.toNat) 3 = r28 := by rw [← e33, rI_wa (by omega), ← e29]; exact rI_ww hr24
        have fo : ∀ (q : Int) (i : Int), 0 ≤ q → q < p → rI σ36 (190 + q.toNat) i = rI τ (190 + q.toNat) i := fun q i q0 q1 => by
          rw [← e33, rI_wa (by omega), ← e29, rI_wa (by omega), ← e20, rI_wa (by omega), ← e11, rI_wa (by omega), ← e2, rI_wa (by omega)]
        refine ih (1440 - r10).toNat (by omega) r10 σ36 rfl (by omega) (by omega) hF33 (by omega) (fun z => ?_) (fun z => by omega) (fun z => by omega) ?_
        · have := lft_drop (fr := fr) (fq := fq) (K := K) (Kq := Kq) (du := du) t0 h6 z
          omega
        · rw [p33]
          intro q q0 q1
          by_cases z : q = p
          · rw [z, f0, f1, f2, f3]
            refine ⟨⟨⟨by omega, by omega⟩, by omega, by omega⟩, fun z1 => hp3 z1, fun z1 => by omega, fun _ => rfl, fun s s0 s1 => ⟨h15.stay h6.2.1 s0 s1, hrate s s0 s1, ?_⟩⟩
            have := h6.2.2.2.1
            omega
          · have old := hPc q q0 (by omega)
            rw [fo q 0 q0 (by omega), fo q 1 q0 (by omega), fo q 2 q0 (by omega), fo q 3 q0 (by omega)]
            refine ⟨old.1, old.2.1, fun z1 => ?_, fun z1 => by omega, old.2.2.2.2⟩
            by_cases z2 : q + 1 = p
            · rw [z2, f0]; exact (old.2.2.2.1 z2).symm
            · rw [fo (q + 1) 0 (by omega) (by omega)]; exact old.2.2.1 (by omega)
  have hl := lft_bd (fr := fr) (fq := fq) (du := du) (t := 0) hb hbq (by omega)
  have p1 : rI σ1 76 25 = 0 := by rw [← e1]; exact rI_ww (by decide)
  refine loop _ 0 σ1 rfl (by omega) (by omega) (by rw [← e1]; exact Fr.w (by omega) (Or.inl ⟨rfl, rfl⟩)) (by omega) (fun _ => by omega) (fun z => by omega) (fun _ => rfl) ?_
  rw [p1]
  exact fun q a b => by omega
end
