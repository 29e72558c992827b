/-! TEXT: what the reader does, as pure functions. -/
def scn (c : Int → Int) (p : Int → Bool) : Nat → Int → Int
  | 0, k => k
  | f + 1, k => if p (c k) then scn c p f (k + 1) else k
def scF (c : Int → Int) (p : Int → Bool) (k : Int) : Int := scn c p 601 k
def isB (x : Int) : Bool := decide (x = 32)
def isDg (x : Int) : Bool := decide (48 ≤ x ∧ x ≤ 57)
def isLt (x : Int) : Bool := decide (97 ≤ x ∧ x ≤ 122)
/-- a text of e bytes; -1 behind it -/
def TxS (c : Int → Int) (e : Int) : Prop := (0 ≤ e ∧ e ≤ 600) ∧ (∀ k : Int, e ≤ k → c k = -1) ∧ (∀ k : Int, 0 ≤ k → k < e → 0 ≤ c k ∧ c k ≤ 255)
theorem scn_fuel {c : Int → Int} {p : Int → Bool} {e : Int} (hc : ∀ k : Int, e ≤ k → p (c k) = false) : ∀ (f : Nat) (k : Int), (e - k).toNat ≤ f → scn c p (f + 1) k = scn c p f k
  | 0, k, h => by
    show (if p (c k) then _ else k) = k
    rw [hc k (by omega)]; rfl
  | f + 1, k, h => by
    show (if p (c k) then scn c p (f + 1) (k + 1) else k) = (if p (c k) then scn c p f (k + 1) else k)
    by_cases q : p (c k) = true
    · rw [if_pos q, if_pos q]
      exact scn_fuel hc f (k + 1) (by omega)
    · rw [if_neg q, if_neg q]
theorem scF_step {c : Int → Int} {p : Int → Bool} {e k : Int} (he : e ≤ 600) (hc : ∀ k : Int, e ≤ k → p (c k) = false) (k0 : 0 ≤ k) : scF c p k = if p (c k) then scF c p (k + 1) else k := by
  show (if p (c k) then scn c p 600 (k + 1) else k) = _
  unfold scF
  rw [scn_fuel hc 600 (k + 1) (by omega)]
theorem scn_bd {c : Int → Int} {p : Int → Bool} {e : Int} (hc : ∀ k : Int, e ≤ k → p (c k) = false) : ∀ (f : Nat) (k : Int), k ≤ scn c p f k ∧ (k ≤ e → scn c p f k ≤ e)
  | 0, k => ⟨Int.le_refl k, fun h => h⟩
  | f + 1, k => by
    show k ≤ (if p (c k) then scn c p f (k + 1) else k) ∧ (k ≤ e → (if p (c k) then scn c p f (k + 1) else k) ≤ e)
    by_cases q : p (c k) = true
    · rw [if_pos q]
      have ih := scn_bd hc f (k + 1)
      refine ⟨by omega, fun h => ih.2 ?_⟩
      by_cases z : e ≤ k
      · rw [hc k z] at q; exact absurd q (by decide)
      · omega
    · rw [if_neg q]; exact ⟨Int.le_refl k, fun h => h⟩
theorem scF_bd {c : Int → Int} {p : Int → Bool} {e : Int} (hc : ∀ k : Int, e ≤ k → p (c k) = false) (k : Int) : k ≤ scF c p k ∧ (k ≤ e → scF c p k ≤ e) := scn_bd hc 601 k
theorem TxS.b {c : Int → Int} {e : Int} (h : TxS c e) : ∀ k : Int, e ≤ k → isB (c k) = false := fun k hk => by rw [h.2.1 k hk]; rfl
theorem TxS.d {c : Int → Int} {e : Int} (h : TxS c e) : ∀ k : Int, e ≤ k → isDg (c k) = false := fun k hk => by rw [h.2.1 k hk]; rfl
theorem TxS.l {c : Int → Int} {e : Int} (h : TxS c e) : ∀ k : Int, e ≤ k → isLt (c k) = false := fun k hk => by rw [h.2.1 k hk]; rfl
/-- the value of j digits from k on, cut at 100000 -/
def nv (c : Int → Int) (k : Int) : Nat → Int
  | 0 => 0
  | j + 1 => min 100000 (10 * nv c k j + c (k + j) - 48)
/-! the state of a reading: 0 W, 1 H, 2 stalls, 3 fold, 4 dusk, 5 cloud, 6 clauses, 7 suns, 8 rates, 9 the fault, 10 its place, 11 where; the rows; suns and rates -/
abbrev PS : Type := (Nat → Int) × (Nat → Int → Int) × (Nat → Nat → Option Int)
def kset (K : Nat → Int) (i : Nat) (v : Int) : Nat → Int := fun j => if j = i then v else K j
def flt (K : Nat → Int) (a b : Int) : Nat → Int := if K 9 = 0 then kset (kset K 9 a) 10 b else K
def numE (c : Int → Int) (K : Nat → Int) : Int × Int × Int := (scF c isB (K 11), scF c isDg (scF c isB (K 11)), nv c (scF c isB (K 11)) (scF c isDg (scF c isB (K 11)) - scF c isB (K 11)).toNat)
def numK (c : Int → Int) (lo hi : Int) (K : Nat → Int) : Nat → Int :=
  if (numE c K).2.1 = (numE c K).1 then flt (kset K 11 (numE c K).2.1) 1 (numE c K).1
  else if (numE c K).2.2 < lo ∨ hi < (numE c K).2.2 then flt (kset K 11 (numE c K).2.1) 2 (numE c K).1
  else kset K 11 (numE c K).2.1
def numV (c : Int → Int) (lo hi : Int) (K : Nat → Int) : Int := if numK c lo hi K 9 = 0 then (numE c K).2.2 else 0
def skK (c : Int → Int) (K : Nat → Int) : Nat → Int := kset K 11 (scF c isB (K 11))
def enK (c : Int → Int) (K : Nat → Int) : Nat → Int := if c (skK c K 11) = 59 then kset (skK c K) 11 (skK c K 11 + 1) else flt (skK c K) 1 (skK c K 11)
/-- which word stands from k to r -/
def isW (c : Int → Int) (k r : Int) (j : Nat) : Prop := r - k = ((wdLen.getD j 0 : Nat) : Int) ∧ ∀ i : Int, 0 ≤ i → i < r - k → c (k + i) = ((wdByt.getD j []).getD i.toNat 0).toInt
def WkS (c : Int → Int) (k r w : Int) : Prop := (w = -1 ∧ ∀ j : Nat, j < 10 → ¬ isW c k r j) ∨ (0 ≤ w ∧ w < 10 ∧ isW c k r w.toNat)
noncomputable def wkF (c : Int → Int) (k r : Int) : Int := Classical.epsilon (WkS c k r)
theorem wd_ne : ∀ i : Nat, i < 10 → ∀ j : Nat, j < 10 → i ≠ j → (wdLen.getD i 0 ≠ wdLen.getD j 0 ∨ ((wdByt.getD i []).getD 0 0).toInt ≠ ((wdByt.getD j []).getD 0 0).toInt ∨ ((wdByt.getD i []).getD 1 0).toInt ≠ ((wdByt.getD j []).getD 1 0).toInt ∨ ((wdByt.getD i []).getD 2 0).toInt ≠ ((wdByt.getD j []).getD 2 0).toInt) := by decide +kernel
theorem wd_3 : ∀ i : Nat, i < 10 → 3 ≤ wdLen.getD i 0 := by decide +kernel
theorem isW.uniq {c : Int → Int} {k r : Int} {i j : Nat} (hi : i < 10) (hj : j < 10) (h : isW c k r i) (g : isW c k r j) : i = j := by
  by_cases e : i = j
  · exact e
  · exfalso
    have l3 := wd_3 i hi
    have e0 : ∀ q : Nat, q < 3 → ((wdByt.getD i []).getD q 0).toInt = ((wdByt.getD j []).getD q 0).toInt := by
      intro q hq
      have a := h.2 q (by omega) (by rw [h.1]; omega)
      have b := g.2 q (by omega) (by rw [h.1]; omega)
      rw [a] at b
      exact b
    rcases wd_ne i hi j hj e with z | z | z | z
    · have := h.1; have := g.1; omega
    · exact z (e0 0 (by omega))
    · exact z (e0 1 (by omega))
    · exact z (e0 2 (by omega))
theorem WkS.uniq {c : Int → Int} {k r w x : Int} (h : WkS c k r w) (g : WkS c k r x) : w = x := by
  rcases h with ⟨a, b⟩ | ⟨a, b, e⟩ <;> rcases g with ⟨a1, b1⟩ | ⟨a1, b1, e1⟩
  · omega
  · exact absurd e1 (b x.toNat (by omega))
  · exact absurd e (b1 w.toNat (by omega))
  · have := e.uniq (by omega) (by omega) e1; omega
theorem WkS.eq {c : Int → Int} {k r w : Int} (h : WkS c k r w) : w = wkF c k r := h.uniq (Classical.epsilon_spec (p := WkS c k r) ⟨w, h⟩)
theorem WkS.exi (c : Int → Int) (k r : Int) : WkS c k r (wkF c k r) := by
  refine Classical.epsilon_spec (p := WkS c k r) ?_
  by_cases h : ∃ j : Nat, j < 10 ∧ isW c k r j
  · obtain ⟨j, a, b⟩ := h
    exact ⟨(j : Int), Or.inr ⟨by omega, by omega, b⟩⟩
  · exact ⟨-1, Or.inl ⟨rfl, fun j a b => h ⟨j, a, b⟩⟩⟩
noncomputable def kif (p : Prop) (A B : Nat → Int) : Nat → Int := @ite (Nat → Int) p (Classical.propDecidable p) A B
theorem kif_pos {p : Prop} {A B : Nat → Int} (h : p) : kif p A B = A := by unfold kif; exact if_pos h
theorem kif_neg {p : Prop} {A B : Nat → Int} (h : ¬ p) : kif p A B = B := by unfold kif; exact if_neg h
def tellE (E : Nat → Nat → Option Int) (w : Nat) (m x : Int) : Nat → Nat → Option Int := fun z t => if z = w ∧ t = m.toNat then some x else E z t
/-! a stall's clause, step by step -/
def stK1 (c : Int → Int) (K : Nat → Int) : Nat → Int := numK c 0 (K 0 - 1) K
def stX (c : Int → Int) (K : Nat → Int) : Int := numV c 0 (K 0 - 1) K
def stK2 (c : Int → Int) (K : Nat → Int) : Nat → Int := skK c (stK1 c K)
def stK3 (c : Int → Int) (K : Nat → Int) : Nat → Int := numK c 0 (stK2 c K 1 - 1) (stK2 c K)
def stY (c : Int → Int) (K : Nat → Int) : Int := numV c 0 (stK2 c K 1 - 1) (stK2 c K)
noncomputable def stK4 (c : Int → Int) (K : Nat → Int) (D : Nat → Int → Int) : Nat → Int := kif (∃ k : Int, At D (K 2) (stX c K) (stY c K) k) (flt (stK3 c K) 2 (stK2 c K 11)) (stK3 c K)
noncomputable def stK5 (c : Int → Int) (K : Nat → Int) (D : Nat → Int → Int) : Nat → Int := numK c 0 40 (stK4 c K D)
noncomputable def stH (c : Int → Int) (K : Nat → Int) (D : Nat → Int → Int) : Int := numV c 0 40 (stK4 c K D)
noncomputable def stF (c : Int → Int) (P : PS) : PS := (kset (stK5 c P.1 P.2.1) 2 (P.1 2 + 1), Dadd P.2.1 (P.1 2) (stX c P.1) (stY c P.1) (stH c P.1 P.2.1), P.2.2)
def suK1 (c : Int → Int) (K : Nat → Int) : Nat → Int := kset K 7 (K 7 + 1)
def suK2 (c : Int → Int) (K : Nat → Int) : Nat → Int := numK c 0 1439 (suK1 c K)
def suK3 (c : Int → Int) (K : Nat → Int) : Nat → Int := numK c 0 2 (suK2 c K)
def suK4 (c : Int → Int) (K : Nat → Int) : Nat → Int := numK c 0 2 (suK3 c K)
def suK5 (c : Int → Int) (K : Nat → Int) : Nat → Int := numK c 0 9 (suK4 c K)
def suM (c : Int → Int) (K : Nat → Int) : Int := numV c 0 1439 (suK1 c K)
def suI (c : Int → Int) (K : Nat → Int) : Int := numV c 0 2 (suK2 c K)
def suJ (c : Int → Int) (K : Nat → Int) : Int := numV c 0 2 (suK3 c K)
def suN (c : Int → Int) (K : Nat → Int) : Int := numV c 0 9 (suK4 c K)
def suF (c : Int → Int) (P : PS) : PS := (suK5 c P.1, P.2.1, tellE P.2.2 0 (suM c P.1) (10 * (suI c P.1 + 3 * suJ c P.1) + suN c P.1))
def raK1 (c : Int → Int) (K : Nat → Int) : Nat → Int := kset K 8 (K 8 + 1)
def raF (c : Int → Int) (P : PS) : PS := (numK c 0 9 (numK c 0 1439 (raK1 c P.1)), P.2.1, tellE P.2.2 1 (numV c 0 1439 (raK1 c P.1)) (numV c 0 9 (numK c 0 1439 (raK1 c P.1))))
def ofK1 (c : Int → Int) (K : Nat → Int) : Nat → Int := numK c 0 (K 2 - 1) K
def ofS (c : Int → Int) (K : Nat → Int) : Int := numV c 0 (K 2 - 1) K
def ofF (c : Int → Int) (w : Int) (P : PS) : PS :=
  if ofS c P.1 < P.1 2 then
    (if w = 2 then (numK c 0 3 (ofK1 c P.1), Dset P.2.1 3 (ofS c P.1) (numV c 0 3 (ofK1 c P.1)), P.2.2)
     else if w = 3 then (numK c 0 60 (numK c 0 5 (ofK1 c P.1)), Dset (Dset P.2.1 4 (ofS c P.1) (numV c 0 5 (ofK1 c P.1))) 5 (ofS c P.1) (numV c 0 60 (numK c 0 5 (ofK1 c P.1))), P.2.2)
     else (ofK1 c P.1, Dset P.2.1 6 (ofS c P.1) 1, P.2.2))
  else (ofK1 c P.1, P.2.1, P.2.2)
def fiF (c : Int → Int) (P : PS) : PS := (kset (numK c 2 9 (kset (numK c 2 9 P.1) 0 (numV c 2 9 P.1))) 1 (numV c 2 9 (kset (numK c 2 9 P.1) 0 (numV c 2 9 P.1))), P.2)
def oneF (c : Int → Int) (i : Nat) (hi : Int) (P : PS) : PS := (kset (numK c 0 hi P.1) i (numV c 0 hi P.1), P.2)
noncomputable def nbF (c : Int → Int) (w : Int) (P : PS) : PS := if w = 0 then fiF c P else if w = 1 then stF c P else if w = 4 then suF c P else if w = 5 then raF c P else if w = 6 then oneF c 3 1440 P else if w = 8 then oneF c 4 1440 P else if w = 9 then oneF c 5 8 P else ofF c w P
def fullK (w : Int) (K : Nat → Int) : Prop := (w = 1 ∧ 8 ≤ K 2) ∨ (w = 4 ∧ 20 ≤ K 7) ∨ (w = 5 ∧ 20 ≤ K 8)
def lwK (c : Int → Int) (K : Nat → Int) : Nat → Int := kset K 11 (scF c isLt (K 11))
noncomputable def clW (c : Int → Int) (K : Nat → Int) : Int := wkF c (K 11) (scF c isLt (K 11))
noncomputable def pif (p : Prop) (A B : PS) : PS := @ite PS p (Classical.propDecidable p) A B
theorem pif_pos {p : Prop} {A B : PS} (h : p) : pif p A B = A := by unfold pif; exact if_pos h
theorem pif_neg {p : Prop} {A B : PS} (h : ¬ p) : pif p A B = B := by unfold pif; exact if_neg h
/-- the end of a clause -/
def ceF (c : Int → Int) (P : PS) : PS := (kset (enK c P.1) 6 (enK c P.1 6 + 1), P.2)
noncomputable def clF (c : Int → Int) (P : PS) : PS :=
  pif (clW c P.1 = -1) (flt (lwK c P.1) 1 (P.1 11), P.2)
   (pif (60 ≤ P.1 6 ∨ fullK (clW c P.1) P.1) (flt (lwK c P.1) 3 (P.1 11), P.2)
    (pif (clW c P.1 = 0 ∧ 0 < P.1 6) (flt (lwK c P.1) 4 (P.1 11), P.2)
     (ceF c (nbF c (clW c P.1) (lwK c P.1, P.2)))))
noncomputable def rdF (c : Int → Int) (e : Int) : Nat → PS → PS
  | 0, P => P
  | f + 1, P => if P.1 11 < e ∧ P.1 9 = 0 then rdF c e f (skK c (clF c P).1, (clF c P).2) else P
/-! what the numbers are -/
theorem kset_eq {K : Nat → Int} {i : Nat} {v : Int} : kset K i v i = v := if_pos rfl
theorem kset_ne {K : Nat → Int} {i j : Nat} {v : Int} (h : j ≠ i) : kset K i v j = K j := if_neg h
theorem flt_0 {K : Nat → Int} {a b : Int} (h : K 9 = 0) : flt K a b = kset (kset K 9 a) 10 b := if_pos h
theorem flt_1 {K : Nat → Int} {a b : Int} (h : K 9 ≠ 0) : flt K a b = K := if_neg h
theorem flt_ne {K : Nat → Int} {a b : Int} {j : Nat} (h9 : j ≠ 9) (h10 : j ≠ 10) : flt K a b j = K j := by
  unfold flt; split
  · rw [kset_ne h10, kset_ne h9]
  · rfl
theorem numK_ne {c : Int → Int} {lo hi : Int} {K : Nat → Int} {j : Nat} (h9 : j ≠ 9) (h10 : j ≠ 10) (h11 : j ≠ 11) : numK c lo hi K j = K j := by
  unfold numK
  split
  · rw [flt_ne h9 h10, kset_ne h11]
  · split
    · rw [flt_ne h9 h10, kset_ne h11]
    · rw [kset_ne h11]
theorem numK_11 {c : Int → Int} {lo hi : Int} {K : Nat → Int} : numK c lo hi K 11 = (numE c K).2.1 := by
  unfold numK
  split
  · rw [flt_ne (by decide) (by decide), kset_eq]
  · split
    · rw [flt_ne (by decide) (by decide), kset_eq]
    · rw [kset_eq]
theorem nv_bd {c : Int → Int} {k : Int} : ∀ {j : Nat}, (∀ i : Nat, i < j → 48 ≤ c (k + i)) → 0 ≤ nv c k j ∧ nv c k j ≤ 100000
  | 0, _ => ⟨Int.le_refl 0, by show (0 : Int) ≤ 100000; decide⟩
  | j + 1, h => by
    have ih := nv_bd (c := c) (k := k) (j := j) (fun i hi => h i (by omega))
    have := h j (by omega)
    show 0 ≤ min 100000 (10 * nv c k j + c (k + j) - 48) ∧ min 100000 (10 * nv c k j + c (k + j) - 48) ≤ 100000
    omega
theorem numV_bd {c : Int → Int} {lo hi : Int} {K : Nat → Int} : (numV c lo hi K = 0 ∨ (lo ≤ numV c lo hi K ∧ numV c lo hi K ≤ hi)) ∧ (numK c lo hi K 9 = 0 → lo ≤ numV c lo hi K ∧ numV c lo hi K ≤ hi) := by
  have key : numK c lo hi K 9 = 0 → lo ≤ (numE c K).2.2 ∧ (numE c K).2.2 ≤ hi := by
    intro h
    unfold numK at h
    by_cases c1 : (numE c K).2.1 = (numE c K).1
    · rw [if_pos c1] at h
      exfalso
      unfold flt at h
      split at h
      · rw [kset_ne (by decide), kset_eq] at h; exact absurd h (by decide)
      · rename_i z; exact z h
    · rw [if_neg c1] at h
      by_cases c2 : (numE c K).2.2 < lo ∨ hi < (numE c K).2.2
      · rw [if_pos c2] at h
        exfalso
        unfold flt at h
        split at h
        · rw [kset_ne (by decide), kset_eq] at h; exact absurd h (by decide)
        · rename_i z; exact z h
      · omega
  unfold numV
  by_cases c9 : numK c lo hi K 9 = 0
  · rw [if_pos c9]; have := key c9; exact ⟨Or.inr this, fun _ => this⟩
  · rw [if_neg c9]; exact ⟨Or.inl rfl, fun h => absurd h c9⟩
