/-! THE REFERENCE: what has been read stands. -/
section
variable {C : aM → List Value → aH → aO → aH → Prop} {sc : Nat × (Nat → Int32)} {P : aO → aH → Prop} {d : Nat} {σ : aH} {u : Nat} {n : Int}
theorem m_stT (hG : G σ u) (next : ∀ τ : aH, Fr (fun a _ => a = 80) σ τ → (∀ i : Int, 0 ≤ i → i < 8 → rI τ 80 i = rI σ 79 i) → L_X10_stands_28 C sc P 0 τ) : L_X10_stands_2 C sc P 0 σ := by
  have loop : ∀ (f : Nat) (k : Int) (τ : aH), (8 - k).toNat = f → 0 ≤ k → k ≤ 8 → Fr (fun a _ => a = 80) σ τ → (∀ i : Int, 0 ≤ i → i < k → rI τ 80 i = rI σ 79 i) → L_X10_stands_2 C sc P k τ := by
    intro f
    induction f with
    | zero =>
      intro k τ hf k0 k8 hF hk
      apply v_X10_stands_2 (hF.g hG) (by omega)
      exact ⟨fun _ => next τ hF (fun i a b => hk i a (by omega)), fun q => by omega⟩
    | succ f ih =>
      intro k τ hf k0 k8 hF hk
      apply v_X10_stands_2 (hF.g hG) (by omega)
      refine ⟨fun q => by omega, fun _ => ⟨by omega, by omega, fun σ1 e1 => ⟨by omega, ih (k + 1) σ1 (by omega) (by omega) (by omega) ?_ (fun i i0 i1 => ?_)⟩⟩⟩
      · rw [← e1]; exact hF.trans (Fr.w k0 rfl)
      · rw [← e1]
        by_cases c : i = k
        · rw [c, rI_ww (rI_R _ _ _)]; exact hF.rw k0 (by show ¬ 79 = 80; decide)
        · rw [rI_wi (by omega)]; exact hk i i0 (by omega)
  exact loop _ 0 σ rfl (by decide) (by decide) (Fr.refl _ _) (fun i a b => by omega)
theorem m_stA (hG : G σ u) (hn : rI σ 80 2 = n) (h9 : 0 ≤ n ∧ n ≤ 8) (next : ∀ τ : aH, Fr (fun a _ => 91 ≤ a ∧ a ≤ 98) σ τ → (∀ q f : Int, 0 ≤ q → q < n → 0 ≤ f → f < 7 → rI τ (91 + q.toNat) f = rI σ (82 + q.toNat) f) → L_X10_stands_76 C sc P 0 τ) : L_X10_stands_28 C sc P 0 σ := by
  have outer : ∀ (g : Nat) (s : Int) (τ : aH), (n - s).toNat = g → 0 ≤ s → s ≤ n → Fr (fun a _ => 91 ≤ a ∧ a ≤ 98) σ τ → (∀ q f : Int, 0 ≤ q → q < s → 0 ≤ f → f < 7 → rI τ (91 + q.toNat) f = rI σ (82 + q.toNat) f) → L_X10_stands_28 C sc P s τ := by
    intro g
    induction g with
    | zero =>
      intro s τ hg s0 s1 hF hq
      have e80 : rI τ 80 2 = n := (hF.rw (by decide) (by show ¬ (91 ≤ 80 ∧ 80 ≤ 98); omega)).trans hn
      apply v_X10_stands_28 (hF.g hG) (by omega)
      rw [e80]
      exact ⟨fun _ => next τ hF (fun q f a b => hq q f a (by omega)), fun z => by omega⟩
    | succ g ih =>
      intro s τ hg s0 s1 hF hq
      have e80 : rI τ 80 2 = n := (hF.rw (by decide) (by show ¬ (91 ≤ 80 ∧ 80 ≤ 98); omega)).trans hn
      apply v_X10_stands_28 (hF.g hG) (by omega)
      rw [e80]
      refine ⟨fun z => by omega, fun _ => ?_⟩
      have inner : ∀ (g2 : Nat) (i : Int) (ρ : aH), (7 - i).toNat = g2 → 0 ≤ i → i ≤ 7 → Fr (fun a _ => 91 ≤ a ∧ a ≤ 98) σ ρ → (∀ q f : Int, 0 ≤ q → 0 ≤ f → f < 7 → (q < s ∨ (q = s ∧ f < i)) → rI ρ (91 + q.toNat) f = rI σ (82 + q.toNat) f) → L_X10_stands_40 C sc P s i ρ := by
        intro g2
        induction g2 with
        | zero =>
          intro i ρ hg2 i0 i1 hR hr
          apply v_X10_stands_40 (hR.g hG) (by omega) (by omega)
          exact ⟨fun _ => ⟨by omega, ih (s + 1) ρ (by omega) (by omega) (by omega) hR (fun q f a b c e => hr q f a c e (by omega))⟩, fun z => by omega⟩
        | succ g2 ih2 =>
          intro i ρ hg2 i0 i1 hR hr
          apply v_X10_stands_40 (hR.g hG) (by omega) (by omega)
          refine ⟨fun z => by omega, fun _ => ⟨by omega, by omega, by omega, by omega, fun σ4 e4 => ⟨by omega, ih2 (i + 1) σ4 (by omega) (by omega) (by omega) ?_ (fun q f q0 f0 f1 hc => ?_)⟩⟩⟩
          · rw [← e4]; exact hR.trans (Fr.w i0 (by show 91 ≤ 91 + s.toNat ∧ 91 + s.toNat ≤ 98; omega))
          · rw [← e4]
            by_cases c : q = s ∧ f = i
            · rw [c.1, c.2, rI_ww (rI_R _ _ _)]
              exact hR.rw i0 (by show ¬ (91 ≤ 82 + s.toNat ∧ 82 + s.toNat ≤ 98); omega)
            · rw [rI_w (rI_R _ _ _), if_neg (by omega)]
              exact hr q f q0 f0 f1 (by omega)
      exact inner _ 0 τ rfl (by decide) (by decide) hF (fun q f a b c e => hq q f a (by omega) b c)
  exact outer _ 0 σ rfl (by decide) h9.1 (Fr.refl _ _) (fun q f a b => by omega)
theorem m_stB (hG : G σ u) (hn : rI σ 80 6 = n) (h9 : 0 ≤ n ∧ n ≤ 20) (next : ∀ τ : aH, Fr (fun a _ => 122 ≤ a ∧ a ≤ 141) σ τ → (∀ q f : Int, 0 ≤ q → q < n → 0 ≤ f → f < 4 → rI τ (122 + q.toNat) f = rI σ (101 + q.toNat) f) → L_X10_stands_124 C sc P 0 τ) : L_X10_stands_76 C sc P 0 σ := by
  have outer : ∀ (g : Nat) (s : Int) (τ : aH), (n - s).toNat = g → 0 ≤ s → s ≤ n → Fr (fun a _ => 122 ≤ a ∧ a ≤ 141) σ τ → (∀ q f : Int, 0 ≤ q → q < s → 0 ≤ f → f < 4 → rI τ (122 + q.toNat) f = rI σ (101 + q.toNat) f) → L_X10_stands_76 C sc P s τ := by
    intro g
    induction g with
    | zero =>
      intro s τ hg s0 s1 hF hq
      have e80 : rI τ 80 6 = n := (hF.rw (by decide) (by show ¬ (122 ≤ 80 ∧ 80 ≤ 141); omega)).trans hn
      apply v_X10_stands_76 (hF.g hG) (by omega)
      rw [e80]
      exact ⟨fun _ => next τ hF (fun q f a b => hq q f a (by omega)), fun z => by omega⟩
    | succ g ih =>
      intro s τ hg s0 s1 hF hq
      have e80 : rI τ 80 6 = n := (hF.rw (by decide) (by show ¬ (122 ≤ 80 ∧ 80 ≤ 141); omega)).trans hn
      apply v_X10_stands_76 (hF.g hG) (by omega)
      rw [e80]
      refine ⟨fun z => by omega, fun _ => ?_⟩
      have inner : ∀ (g2 : Nat) (i : Int) (ρ : aH), (4 - i).toNat = g2 → 0 ≤ i → i ≤ 4 → Fr (fun a _ => 122 ≤ a ∧ a ≤ 141) σ ρ → (∀ q f : Int, 0 ≤ q → 0 ≤ f → f < 4 → (q < s ∨ (q = s ∧ f < i)) → rI ρ (122 + q.toNat) f = rI σ (101 + q.toNat) f) → L_X10_stands_89 C sc P s i ρ := by
        intro g2
        induction g2 with
        | zero =>
          intro i ρ hg2 i0 i1 hR hr
          apply v_X10_stands_89 (hR.g hG) (by omega) (by omega)
          exact ⟨fun _ => ⟨by omega, ih (s + 1) ρ (by omega) (by omega) (by omega) hR (fun q f a b c e => hr q f a c e (by omega))⟩, fun z => by omega⟩
        | succ g2 ih2 =>
          intro i ρ hg2 i0 i1 hR hr
          apply v_X10_stands_89 (hR.g hG) (by omega) (by omega)
          refine ⟨fun z => by omega, fun _ => ⟨by omega, by omega, by omega, by omega, fun σ4 e4 => ⟨by omega, ih2 (i + 1) σ4 (by omega) (by omega) (by omega) ?_ (fun q f q0 f0 f1 hc => ?_)⟩⟩⟩
          · rw [← e4]; exact hR.trans (Fr.w i0 (by show 122 ≤ 122 + s.toNat ∧ 122 + s.toNat ≤ 141; omega))
          · rw [← e4]
            by_cases c : q = s ∧ f = i
            · rw [c.1, c.2, rI_ww (rI_R _ _ _)]
              exact hR.rw i0 (by show ¬ (122 ≤ 101 + s.toNat ∧ 101 + s.toNat ≤ 141); omega)
            · rw [rI_w (rI_R _ _ _), if_neg (by omega)]
              exact hr q f q0 f0 f1 (by omega)
      exact inner _ 0 τ rfl (by decide) (by decide) hF (fun q f a b c e => hq q f a (by omega) b c)
  exact outer _ 0 σ rfl (by decide) h9.1 (Fr.refl _ _) (fun q f a b => by omega)
theorem m_stC (hG : G σ u) (hn : rI σ 80 7 = n) (h9 : 0 ≤ n ∧ n ≤ 20) (next : ∀ τ : aH, Fr (fun a _ => 164 ≤ a ∧ a ≤ 183) σ τ → (∀ q f : Int, 0 ≤ q → q < n → 0 ≤ f → f < 2 → rI τ (164 + q.toNat) f = rI σ (143 + q.toNat) f) → L_X10_stands_172 C sc P 0 τ) : L_X10_stands_124 C sc P 0 σ := by
  have outer : ∀ (g : Nat) (s : Int) (τ : aH), (n - s).toNat = g → 0 ≤ s → s ≤ n → Fr (fun a _ => 164 ≤ a ∧ a ≤ 183) σ τ → (∀ q f : Int, 0 ≤ q → q < s → 0 ≤ f → f < 2 → rI τ (164 + q.toNat) f = rI σ (143 + q.toNat) f) → L_X10_stands_124 C sc P s τ := by
    intro g
    induction g with
    | zero =>
      intro s τ hg s0 s1 hF hq
      have e80 : rI τ 80 7 = n := (hF.rw (by decide) (by show ¬ (164 ≤ 80 ∧ 80 ≤ 183); omega)).trans hn
      apply v_X10_stands_124 (hF.g hG) (by omega)
      rw [e80]
      exact ⟨fun _ => next τ hF (fun q f a b => hq q f a (by omega)), fun z => by omega⟩
    | succ g ih =>
      intro s τ hg s0 s1 hF hq
      have e80 : rI τ 80 7 = n := (hF.rw (by decide) (by show ¬ (164 ≤ 80 ∧ 80 ≤ 183); omega)).trans hn
      apply v_X10_stands_124 (hF.g hG) (by omega)
      rw [e80]
      refine ⟨fun z => by omega, fun _ => ?_⟩
      have inner : ∀ (g2 : Nat) (i : Int) (ρ : aH), (2 - i).toNat = g2 → 0 ≤ i → i ≤ 2 → Fr (fun a _ => 164 ≤ a ∧ a ≤ 183) σ ρ → (∀ q f : Int, 0 ≤ q → 0 ≤ f → f < 2 → (q < s ∨ (q = s ∧ f < i)) → rI ρ (164 + q.toNat) f = rI σ (143 + q.toNat) f) → L_X10_stands_137 C sc P s i ρ := by
        intro g2
        induction g2 with
        | zero =>
          intro i ρ hg2 i0 i1 hR hr
          apply v_X10_stands_137 (hR.g hG) (by omega) (by omega)
          exact ⟨fun _ => ⟨by omega, ih (s + 1) ρ (by omega) (by omega) (by omega) hR (fun q f a b c e => hr q f a c e (by omega))⟩, fun z => by omega⟩
        | succ g2 ih2 =>
          intro i ρ hg2 i0 i1 hR hr
          apply v_X10_stands_137 (hR.g hG) (by omega) (by omega)
          refine ⟨fun z => by omega, fun _ => ⟨by omega, by omega, by omega, by omega, fun σ4 e4 => ⟨by omega, ih2 (i + 1) σ4 (by omega) (by omega) (by omega) ?_ (fun q f q0 f0 f1 hc => ?_)⟩⟩⟩
          · rw [← e4]; exact hR.trans (Fr.w i0 (by show 164 ≤ 164 + s.toNat ∧ 164 + s.toNat ≤ 183; omega))
          · rw [← e4]
            by_cases c : q = s ∧ f = i
            · rw [c.1, c.2, rI_ww (rI_R _ _ _)]
              exact hR.rw i0 (by show ¬ (164 ≤ 143 + s.toNat ∧ 143 + s.toNat ≤ 183); omega)
            · rw [rI_w (rI_R _ _ _), if_neg (by omega)]
              exact hr q f q0 f0 f1 (by omega)
      exact inner _ 0 τ rfl (by decide) (by decide) hF (fun q f a b c e => hq q f a (by omega) b c)
  exact outer _ 0 σ rfl (by decide) h9.1 (Fr.refl _ _) (fun q f a b => by omega)
theorem m_stD (hG : G σ u) (next : ∀ τ : aH, Fr (fun a _ => a = 184) σ τ → (∀ i : Int, 0 ≤ i → i < 8 → rI τ 184 i = -1) → L_X10_stands_172 C sc P 8 τ) : L_X10_stands_172 C sc P 0 σ := by
  have loop : ∀ (f : Nat) (k : Int) (τ : aH), (8 - k).toNat = f → 0 ≤ k → k ≤ 8 → Fr (fun a _ => a = 184) σ τ → (∀ i : Int, 0 ≤ i → i < k → rI τ 184 i = -1) → L_X10_stands_172 C sc P k τ := by
    intro f
    induction f with
    | zero =>
      intro k τ hf k0 k8 hF hk
      rw [show k = 8 by omega]
      exact next τ hF (fun i a b => hk i a (by omega))
    | succ f ih =>
      intro k τ hf k0 k8 hF hk
      apply v_X10_stands_172 (hF.g hG) (by omega)
      refine ⟨fun q => by omega, fun _ => ⟨by omega, fun σ1 e1 => ⟨by omega, ih (k + 1) σ1 (by omega) (by omega) (by omega) ?_ (fun i i0 i1 => ?_)⟩⟩⟩
      · rw [← e1]; exact hF.trans (Fr.w k0 rfl)
      · rw [← e1]
        by_cases c : i = k
        · rw [c, rI_ww (by decide)]
        · rw [rI_wi (by omega)]; exact hk i i0 (by omega)
  exact loop _ 0 σ rfl (by decide) (by decide) (Fr.refl _ _) (fun i a b => by omega)
/-- what standing changes -/
abbrev ASd : Nat → Int → Prop := fun a i => a = 80 ∨ (91 ≤ a ∧ a ≤ 98) ∨ (122 ≤ a ∧ a ≤ 141) ∨ (164 ≤ a ∧ a ≤ 184) ∨ (190 ≤ a ∧ a ≤ 259) ∨ (a = 76 ∧ (i = 18 ∨ i = 19 ∨ i = 20 ∨ i = 21 ∨ i = 25 ∨ i = 27 ∨ i = 28))
def SdS (m m1 : Nat → Int → Int) (n : Int) (Es Er : Nat → Option Int) : Prop := (∀ i : Int, 0 ≤ i → i < 8 → m1 80 i = m 79 i) ∧ (∀ s f : Int, 0 ≤ s → s < n → 0 ≤ f → f < 7 → m1 (91 + s.toNat) f = m (82 + s.toNat) f) ∧ (∀ i : Int, 0 ≤ i → i < 8 → m1 184 i = -1) ∧ (m1 76 18 = 0 ∧ m1 76 19 = 0 ∧ m1 76 20 = 0 ∧ m1 76 21 = 0 ∧ m1 76 27 = 0 ∧ m1 76 28 = n) ∧ SunR m1 122 80 Es ∧ RatR m1 164 80 Er ∧ (1 ≤ m1 76 25 ∧ m1 76 25 ≤ 65) ∧ PcP m1 (m1 76 25) 1440 (fun k => m1 (122 + k.toNat) 0) (m1 80 6) (m1 80 4) Er
theorem m_stands {Es Er : Nat → Option Int} (hG : G σ u) (hn : rI σ 79 2 = n) (h8 : 0 ≤ n ∧ n ≤ 8) (hS : SunR (rI σ) 101 79 Es) (hR : RatR (rI σ) 143 79 Er) : TV sc (d + 3) mX10_stands [.ref 76] σ (fun σ1 => Fr ASd σ σ1 ∧ SdS (rI σ) (rI σ1) n Es Er) := by
  apply T.void
  apply t_X10_stands hG
  obtain ⟨P, hP⟩ : ∃ P : aO → aH → Prop, P = QV (fun σ1 => Fr ASd σ σ1 ∧ SdS (rI σ) (rI σ1) n Es Er) := ⟨_, rfl⟩
  rw [← hP]
  have b6 := hS.1.1
  have b7 := hR.1.1
  refine m_stT hG (fun τ1 F1 q1 => ?_)
  have G1 := F1.g hG
  refine m_stA G1 ((q1 2 (by decide) (by decide)).trans hn) h8 (fun τ2 F2 q2 => ?_)
  have G2 := F2.g G1
  have r2 : ∀ i : Int, 0 ≤ i → i < 8 → rI τ2 80 i = rI σ 79 i := fun i a b => (F2.rw a (by show ¬ (91 ≤ 80 ∧ 80 ≤ 98); omega)).trans (q1 i a b)
  refine m_stB G2 (r2 6 (by decide) (by decide)) b6 (fun τ3 F3 q3 => ?_)
  have G3 := F3.g G2
  have r3 : ∀ i : Int, 0 ≤ i → i < 8 → rI τ3 80 i = rI σ 79 i := fun i a b => (F3.rw a (by show ¬ (122 ≤ 80 ∧ 80 ≤ 141); omega)).trans (r2 i a b)
  refine m_stC G3 (r3 7 (by decide) (by decide)) b7 (fun τ4 F4 q4 => ?_)
  have G4 := F4.g G3
  refine m_stD G4 (fun τ5 F5 q5 => ?_)
  have G5 := F5.g G4
  -- all before the end
  have W1 : Fr ASd σ τ1 := F1.weak (fun a i z => Or.inl z)
  have W2 : Fr ASd σ τ2 := W1.trans (F2.weak (fun a i z => Or.inr (Or.inl z)))
  have W3 : Fr ASd σ τ3 := W2.trans (F3.weak (fun a i z => Or.inr (Or.inr (Or.inl z))))
  have W4 : Fr ASd σ τ4 := W3.trans (F4.weak (fun a i z => Or.inr (Or.inr (Or.inr (Or.inl ⟨z.1, by have := z.2; omega⟩)))))
  have W5 : Fr ASd σ τ5 := W4.trans (F5.weak (fun a i z => Or.inr (Or.inr (Or.inr (Or.inl (by have z2 : a = 184 := z; omega))))))
  have k80 : ∀ i : Int, 0 ≤ i → i < 8 → rI τ5 80 i = rI σ 79 i := fun i a b => (F5.rw a (by show ¬ 80 = 184; decide)).trans ((F4.rw a (by show ¬ (164 ≤ 80 ∧ 80 ≤ 183); omega)).trans (r3 i a b))
  have kA : ∀ s f : Int, 0 ≤ s → s < n → 0 ≤ f → f < 7 → rI τ5 (91 + s.toNat) f = rI σ (82 + s.toNat) f := fun s f s0 s1 f0 f1 => by
    rw [F5.rw f0 (by show ¬ 91 + s.toNat = 184; omega), F4.rw f0 (by show ¬ (164 ≤ 91 + s.toNat ∧ 91 + s.toNat ≤ 183); omega), F3.rw f0 (by show ¬ (122 ≤ 91 + s.toNat ∧ 91 + s.toNat ≤ 141); omega), q2 s f s0 s1 f0 f1]
    exact F1.rw f0 (by show ¬ 82 + s.toNat = 80; omega)
  have kB : ∀ s f : Int, 0 ≤ s → s < rI σ 79 6 → 0 ≤ f → f < 4 → rI τ5 (122 + s.toNat) f = rI σ (101 + s.toNat) f := fun s f s0 s1 f0 f1 => by
    rw [F5.rw f0 (by show ¬ 122 + s.toNat = 184; omega), F4.rw f0 (by show ¬ (164 ≤ 122 + s.toNat ∧ 122 + s.toNat ≤ 183); omega), q3 s f s0 s1 f0 f1, F2.rw f0 (by show ¬ (91 ≤ 101 + s.toNat ∧ 101 + s.toNat ≤ 98); omega)]
    exact F1.rw f0 (by show ¬ 101 + s.toNat = 80; omega)
  have kC : ∀ s f : Int, 0 ≤ s → s < rI σ 79 7 → 0 ≤ f → f < 2 → rI τ5 (164 + s.toNat) f = rI σ (143 + s.toNat) f := fun s f s0 s1 f0 f1 => by
    rw [F5.rw f0 (by show ¬ 164 + s.toNat = 184; omega), q4 s f s0 s1 f0 f1, F3.rw f0 (by show ¬ (122 ≤ 143 + s.toNat ∧ 143 + s.toNat ≤ 141); omega), F2.rw f0 (by show ¬ (91 ≤ 143 + s.toNat ∧ 143 + s.toNat ≤ 98); omega)]
    exact F1.rw f0 (by show ¬ 143 + s.toNat = 80; omega)
  apply v_X10_stands_172 G5 (by decide)
  refine ⟨fun _ => ?_, fun q => absurd (show (8 : Int) ≤ 8 by decide) q⟩
  intro σ1 e1 σ4 e4 σ7 e7 σ10 e10 σ13 e13 σ16 e16
  have m76 : ∀ i : Int, (i = 18 ∨ i = 19 ∨ i = 20 ∨ i = 21 ∨ i = 25 ∨ i = 27 ∨ i = 28) → ASd 76 i := fun i z => Or.inr (Or.inr (Or.inr (Or.inr (Or.inr ⟨rfl, z⟩))))
  have F16 : Fr (fun a i => a = 76 ∧ (i = 18 ∨ i = 19 ∨ i = 20 ∨ i = 21 ∨ i = 27 ∨ i = 28)) τ5 σ16 := by
    rw [← e16, ← e13, ← e10, ← e7, ← e4, ← e1]
    exact (((((Fr.w (by decide) ⟨rfl, by omega⟩).trans (Fr.w (by decide) ⟨rfl, by omega⟩)).trans (Fr.w (by decide) ⟨rfl, by omega⟩)).trans (Fr.w (by decide) ⟨rfl, by omega⟩)).trans (Fr.w (by decide) ⟨rfl, by omega⟩)).trans (Fr.w (by decide) ⟨rfl, by omega⟩)
  have a80 : rI σ13 80 2 = n := by
    rw [← e13, rI_wa (by decide), ← e10, rI_wa (by decide), ← e7, rI_wa (by decide), ← e4, rI_wa (by decide), ← e1, rI_wa (by decide), k80 2 (by decide) (by decide)]; exact hn
  rw [a80] at e16
  have v16 : rI σ16 76 18 = 0 ∧ rI σ16 76 19 = 0 ∧ rI σ16 76 20 = 0 ∧ rI σ16 76 21 = 0 ∧ rI σ16 76 27 = 0 ∧ rI σ16 76 28 = n := by
    rw [← e16, ← e13, ← e10, ← e7, ← e4, ← e1]
    refine ⟨?_, ?_, ?_, ?_, ?_, ?_⟩
    all_goals repeat (first | rw [rI_ww (by first | decide | omega)] | rw [rI_wi (by decide)])
  have G16 := F16.g G5
  have o16 : ∀ (a : Nat) (i : Int), 0 ≤ i → a ≠ 76 → rI σ16 a i = rI τ5 a i := fun a i p z => F16.rw p (fun w => z w.1)
  obtain ⟨σ19, he19, F19, p1, p2⟩ := m_laysPieces (sc := sc) (d := d) (fr := fun k => rI σ (101 + k.toNat) 0) (fq := fun k => rI σ (143 + k.toNat) 0) (va := fun k => rI σ (143 + k.toNat) 1) (K := rI σ 79 6) (Kq := rI σ 79 7) (du := rI σ 79 4) (Er := Er) G16 ((o16 80 6 (by decide) (by decide)).trans (k80 6 (by decide) (by decide))) b6 (fun i i0 i1 => (o16 _ _ (by decide) (by omega)).trans (kB i 0 i0 i1 (by decide) (by decide))) ((o16 80 7 (by decide) (by decide)).trans (k80 7 (by decide) (by decide))) (fun i i0 i1 => ⟨(o16 _ _ (by decide) (by omega)).trans (kC i 0 i0 i1 (by decide) (by decide)), (o16 _ _ (by decide) (by omega)).trans (kC i 1 i0 i1 (by decide) (by decide))⟩) hR.1 ((o16 80 4 (by decide) (by decide)).trans (k80 4 (by decide) (by decide)))
  refine ⟨σ19, he19, F19.g G16, ?_⟩
  rw [hP]
  have o19 : ∀ (a : Nat) (i : Int), 0 ≤ i → a ≠ 76 → (a < 190 ∨ 259 < a) → rI σ19 a i = rI τ5 a i := fun a i p z z2 => (F19.rw p (by show ¬ ((a = 76 ∧ i = 25) ∨ (190 ≤ a ∧ a ≤ 259)); omega)).trans (o16 a i p z)
  have t19 : ∀ i : Int, 0 ≤ i → i ≠ 25 → rI σ19 76 i = rI σ16 76 i := fun i p z => F19.rw p (by show ¬ ((76 = 76 ∧ i = 25) ∨ (190 ≤ 76 ∧ 76 ≤ 259)); omega)
  have m80 : ∀ i : Int, 0 ≤ i → i < 8 → rI σ19 80 i = rI σ 79 i := fun i a b => (o19 80 i a (by decide) (by decide)).trans (k80 i a b)
  have mB : ∀ s f : Int, 0 ≤ s → s < rI σ 79 6 → 0 ≤ f → f < 4 → rI σ19 (122 + s.toNat) f = rI σ (101 + s.toNat) f := fun s f s0 s1 f0 f1 => (o19 _ _ f0 (by omega) (by omega)).trans (kB s f s0 s1 f0 f1)
  have mC : ∀ s f : Int, 0 ≤ s → s < rI σ 79 7 → 0 ≤ f → f < 2 → rI σ19 (164 + s.toNat) f = rI σ (143 + s.toNat) f := fun s f s0 s1 f0 f1 => (o19 _ _ f0 (by omega) (by omega)).trans (kC s f s0 s1 f0 f1)
  refine ⟨rfl, ?_, m80, fun s f s0 s1 f0 f1 => (o19 _ _ f0 (by omega) (by omega)).trans (kA s f s0 s1 f0 f1), fun i i0 i1 => (o19 184 i i0 (by decide) (by decide)).trans (q5 i i0 i1), ?_, ?_, ?_, p1, ?_⟩
  · refine (W5.trans (F16.weak (fun a i z => ?_))).trans (F19.weak (fun a i z => ?_))
    · have z1 := z.1
      subst z1
      exact m76 i (by have := z.2; omega)
    · rcases z with z | z
      · have z1 := z.1
        subst z1
        exact m76 i (by have := z.2; omega)
      · exact Or.inr (Or.inr (Or.inr (Or.inr (Or.inl z))))
  · obtain ⟨x1, x2, x3, x4, x5, x6⟩ := v16
    exact ⟨(t19 _ (by decide) (by decide)).trans x1, (t19 _ (by decide) (by decide)).trans x2, (t19 _ (by decide) (by decide)).trans x3, (t19 _ (by decide) (by decide)).trans x4, (t19 _ (by decide) (by decide)).trans x5, (t19 _ (by decide) (by decide)).trans x6⟩
  · unfold SunR
    rw [m80 6 (by decide) (by decide)]
    refine ⟨hS.1.cg (fun i i0 i1 => ?_), fun k k0 k1 => ?_⟩
    · unfold sunV
      rw [mB i 0 i0 i1 (by decide) (by decide), mB i 1 i0 i1 (by decide) (by decide), mB i 2 i0 i1 (by decide) (by decide), mB i 3 i0 i1 (by decide) (by decide)]
      exact ⟨rfl, rfl⟩
    · rw [mB k 1 k0 k1 (by decide) (by decide), mB k 2 k0 k1 (by decide) (by decide), mB k 3 k0 k1 (by decide) (by decide)]
      exact hS.2 k k0 k1
  · unfold RatR
    rw [m80 7 (by decide) (by decide)]
    refine ⟨hR.1.cg (fun i i0 i1 => ?_), fun k k0 k1 => ?_⟩
    · rw [mC i 0 i0 i1 (by decide) (by decide), mC i 1 i0 i1 (by decide) (by decide)]
      exact ⟨rfl, rfl⟩
    · rw [mC k 1 k0 k1 (by decide) (by decide)]
      exact hR.2 k k0 k1
  · rw [m80 6 (by decide) (by decide), m80 4 (by decide) (by decide)]
    intro q q0 q1
    obtain ⟨y1, y2, y3, y4, y5⟩ := p2 q q0 q1
    refine ⟨y1, y2, y3, y4, fun t t0 t1 => ?_⟩
    obtain ⟨z1, z2⟩ := y5 t t0 t1
    refine ⟨?_, z2⟩
    rcases z1 with ⟨r1, r2⟩ | ⟨r1, r2, r3⟩
    · exact Or.inl ⟨r1, fun i i0 i1 => by dsimp only; rw [mB i 0 i0 i1 (by decide) (by decide)]; exact r2 i i0 i1⟩
    · refine Or.inr ⟨r1, ?_, fun i i0 i1 => ?_⟩
      · dsimp only
        rw [mB _ 0 r1.1 r1.2 (by decide) (by decide)]; exact r2
      · dsimp only
        rw [mB i 0 i0 i1 (by decide) (by decide), mB _ 0 r1.1 r1.2 (by decide) (by decide)]
        exact r3 i i0 i1
end
