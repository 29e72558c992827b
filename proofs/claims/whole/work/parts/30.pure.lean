/-! PURE: Hoare's forms, frames, sums. -/
def QI (Q : Int → aH → Prop) : aO → aH → Prop := fun o σ1 => ∃ r : Int, o = .inl (some (.int (nZ r))) ∧ inR r ∧ Q r σ1
def QV (Q : aH → Prop) : aO → aH → Prop := fun o σ1 => o = .inl none ∧ Q σ1
def TI (sc : Nat × (Nat → Int32)) (d : Nat) (q : aM) (args : List Value) (σ : aH) (Q : Int → aH → Prop) : Prop := ∃ (r : Int) (σ1 : aH), Ev sc d q args σ (.inl (some (.int (nZ r)))) σ1 ∧ inR r ∧ Q r σ1
def TV (sc : Nat × (Nat → Int32)) (d : Nat) (q : aM) (args : List Value) (σ : aH) (Q : aH → Prop) : Prop := ∃ σ1 : aH, Ev sc d q args σ (.inl none) σ1 ∧ Q σ1
theorem T.int {sc : Nat × (Nat → Int32)} {d : Nat} {q : aM} {args : List Value} {σ : aH} {Q : Int → aH → Prop} (h : T sc d q args σ (QI Q)) : TI sc d q args σ Q := by
  obtain ⟨o, σ1, he, r, rfl, hr, hq⟩ := h
  exact ⟨r, σ1, he, hr, hq⟩
theorem T.void {sc : Nat × (Nat → Int32)} {d : Nat} {q : aM} {args : List Value} {σ : aH} {Q : aH → Prop} (h : T sc d q args σ (QV Q)) : TV sc d q args σ Q := by
  obtain ⟨o, σ1, he, rfl, hq⟩ := h
  exact ⟨σ1, he, hq⟩
/-- all but the ints is the same -/
def Sm (σ σ1 : aH) : Prop := σ1.1 = σ.1 ∧ σ1.2.1 = σ.2.1 ∧ σ1.2.2.2 = σ.2.2.2
theorem Sm.refl (σ : aH) : Sm σ σ := ⟨rfl, rfl, rfl⟩
theorem Sm.trans {σ σ1 σ2 : aH} (h : Sm σ σ1) (k : Sm σ1 σ2) : Sm σ σ2 := ⟨k.1.trans h.1, k.2.1.trans h.2.1, k.2.2.trans h.2.2⟩
theorem Sm.w {σ : aH} {a : Nat} {i x : Int} : Sm σ (wI σ a i x) := ⟨rfl, rfl, rfl⟩
theorem Sm.c {σ : aH} {a b : Nat} : Sm σ (wC σ a b) := ⟨rfl, rfl, rfl⟩
theorem G.sm {σ σ1 : aH} {u : Nat} (h : G σ u) (k : Sm σ σ1) : G σ1 u := by
  obtain ⟨h1, h2, h3, h4, h5⟩ := h
  obtain ⟨k1, k2, k3⟩ := k
  refine ⟨k1.trans h1, ?_, ?_, ?_, h5⟩
  · unfold gN at h2 ⊢; rw [k3]; exact h2
  · unfold gM at h3 ⊢; rw [k2]; exact h3
  · unfold gM at h4 ⊢; rw [k2]; exact h4
/-- only the cells of A may have changed -/
def Fr (A : Nat → Int → Prop) (σ σ1 : aH) : Prop := Sm σ σ1 ∧ ∀ (a : Nat) (i : Int), 0 ≤ i → ¬ A a i → rI σ1 a i = rI σ a i
theorem Fr.refl (A : Nat → Int → Prop) (σ : aH) : Fr A σ σ := ⟨Sm.refl σ, fun _ _ _ _ => rfl⟩
theorem Fr.trans {A : Nat → Int → Prop} {σ σ1 σ2 : aH} (h : Fr A σ σ1) (k : Fr A σ1 σ2) : Fr A σ σ2 := ⟨h.1.trans k.1, fun a i h0 hn => (k.2 a i h0 hn).trans (h.2 a i h0 hn)⟩
theorem Fr.weak {A B : Nat → Int → Prop} {σ σ1 : aH} (h : Fr A σ σ1) (k : ∀ a i, A a i → B a i) : Fr B σ σ1 := ⟨h.1, fun a i h0 hn => h.2 a i h0 (fun q => hn (k a i q))⟩
theorem rI_ww {σ : aH} {a : Nat} {i x : Int} (h : inR x) : rI (wI σ a i x) a i = x := by rw [rI_w h]; simp
theorem rI_wa {σ : aH} {a b : Nat} {i x j : Int} (h : b ≠ a) : rI (wI σ a i x) b j = rI σ b j := by
  unfold rI wI gI sI va_up
  simp [h]
theorem rI_wi {σ : aH} {a b : Nat} {i x j : Int} (h : j.toNat ≠ i.toNat) : rI (wI σ a i x) b j = rI σ b j := by
  unfold rI wI gI sI va_up upd
  by_cases hb : b = a
  · subst hb; simp [h]
  · simp [hb]
theorem Fr.w {A : Nat → Int → Prop} {σ : aH} {a : Nat} {i x : Int} (h0 : 0 ≤ i) (h : A a i) : Fr A σ (wI σ a i x) := by
  refine ⟨Sm.w, fun b j hj hn => ?_⟩
  by_cases hb : b = a
  · subst hb
    by_cases e : j = i
    · subst e; exact absurd h hn
    · exact rI_wi (by omega)
  · exact rI_wa hb
theorem Fr.g {A : Nat → Int → Prop} {σ σ1 : aH} {u : Nat} (h : Fr A σ σ1) (hG : G σ u) : G σ1 u := hG.sm h.1
theorem Fr.rw {A : Nat → Int → Prop} {σ σ1 : aH} {a : Nat} {i : Int} (h : Fr A σ σ1) (h0 : 0 ≤ i) (hn : ¬ A a i) : rI σ1 a i = rI σ a i := h.2 a i h0 hn
/-! a choice without a decision -/
noncomputable def cif (p : Prop) (a b : Int) : Int := @ite Int p (Classical.propDecidable p) a b
theorem cif_pos {p : Prop} {a b : Int} (h : p) : cif p a b = a := by unfold cif; exact if_pos h
theorem cif_neg {p : Prop} {a b : Int} (h : ¬ p) : cif p a b = b := by unfold cif; exact if_neg h
theorem cif_congr {p q : Prop} {a b : Int} (h : p ↔ q) : cif p a b = cif q a b := by rw [propext h]
theorem cif_bd {p : Prop} {a b lo hi : Int} (h1 : lo ≤ a ∧ a ≤ hi) (h2 : lo ≤ b ∧ b ≤ hi) : lo ≤ cif p a b ∧ cif p a b ≤ hi := by
  by_cases h : p
  · rw [cif_pos h]; exact h1
  · rw [cif_neg h]; exact h2
/-! sums -/
def sm (f : Int → Int) (n : Nat) : Int := if n = 0 then 0 else sm f (n - 1) + f ((n - 1 : Nat) : Int)
termination_by n
decreasing_by omega
theorem sm_0 (f : Int → Int) : sm f 0 = 0 := by rw [sm]; exact if_pos rfl
theorem sm_succ (f : Int → Int) (n : Nat) : sm f (n + 1) = sm f n + f n := by
  rw [sm, if_neg (by omega)]; rfl
theorem sm_congr {f g : Int → Int} : ∀ {n : Nat}, (∀ t : Int, 0 ≤ t → t < (n : Int) → f t = g t) → sm f n = sm g n
  | 0, _ => by rw [sm_0, sm_0]
  | n + 1, h => by
    rw [sm_succ, sm_succ, sm_congr (n := n) (fun t h0 h1 => h t h0 (by omega)), h n (by omega) (by omega)]
theorem sm_add (f g : Int → Int) : ∀ n : Nat, sm (fun t => f t + g t) n = sm f n + sm g n
  | 0 => by rw [sm_0, sm_0, sm_0]; rfl
  | n + 1 => by
    rw [sm_succ, sm_succ, sm_succ, sm_add f g n]; omega
theorem sm_sub (f g : Int → Int) : ∀ n : Nat, sm (fun t => f t - g t) n = sm f n - sm g n
  | 0 => by rw [sm_0, sm_0, sm_0]; rfl
  | n + 1 => by
    rw [sm_succ, sm_succ, sm_succ, sm_sub f g n]; omega
theorem sm_zero : ∀ n : Nat, sm (fun _ => 0) n = 0
  | 0 => sm_0 _
  | n + 1 => by rw [sm_succ, sm_zero n]; rfl
theorem sm_eq0 {f : Int → Int} {n : Nat} (h : ∀ t : Int, 0 ≤ t → t < (n : Int) → f t = 0) : sm f n = 0 := (sm_congr (g := fun _ => 0) h).trans (sm_zero n)
theorem sm_comm (f : Int → Int → Int) (m : Nat) : ∀ n : Nat, sm (fun i => sm (fun j => f i j) m) n = sm (fun j => sm (fun i => f i j) n) m
  | 0 => by rw [sm_0]; exact (sm_eq0 (fun t _ _ => sm_0 _)).symm
  | n + 1 => by
    rw [sm_succ, sm_comm f m n, ← sm_add]
    exact sm_congr (fun t _ _ => (sm_succ _ _).symm)
theorem sm_bd {f : Int → Int} {lo hi : Int} : ∀ {n : Nat}, (∀ t : Int, 0 ≤ t → t < (n : Int) → lo ≤ f t ∧ f t ≤ hi) → lo * n ≤ sm f n ∧ sm f n ≤ hi * n
  | 0, _ => by rw [sm_0]; show lo * 0 ≤ 0 ∧ 0 ≤ hi * 0; omega
  | n + 1, h => by
    rw [sm_succ]
    show lo * ((n : Int) + 1) ≤ sm f n + f n ∧ sm f n + f n ≤ hi * ((n : Int) + 1)
    have h1 := sm_bd (n := n) (lo := lo) (hi := hi) (f := f) (fun t h0 h1 => h t h0 (by omega))
    have h2 := h n (by omega) (by omega)
    rw [Int.mul_add, Int.mul_add]; omega
theorem sm_mono {f g : Int → Int} : ∀ {n : Nat}, (∀ t : Int, 0 ≤ t → t < (n : Int) → f t ≤ g t) → sm f n ≤ sm g n
  | 0, _ => by rw [sm_0, sm_0]; exact Int.le_refl _
  | n + 1, h => by
    rw [sm_succ, sm_succ]
    have h1 := sm_mono (n := n) (f := f) (g := g) (fun t h0 h1 => h t h0 (by omega))
    have h2 := h n (by omega) (by omega)
    omega
theorem sm_toNat (f : Int → Int) {i : Int} (h : 0 ≤ i) : sm f (i + 1).toNat = sm f i.toNat + f i := by
  have e : (i + 1).toNat = i.toNat + 1 := by omega
  rw [e, sm_succ]; congr 2; omega
