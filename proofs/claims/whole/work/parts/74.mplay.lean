/-! THE REFERENCE: play. -/
section
variable {sc : Nat × (Nat → Int32)} {d : Nat} {σ : aH} {u : Nat} {n W H : Int} {D : Nat → Int → Int} {Es Er : Nat → Option Int} {K : Int} {fr va : Int → Int} {du fo g : Int}
theorem m_play (hG : G σ u) (hM : Mf σ n (-1) W H D Es Er K fr va du fo) (h8 : n ≤ 8) (h2 : rI σ 80 2 = n) (hg : Hg D n) : TI sc (d + 8) mX10_play [.ref 76] σ (fun r σ1 => Fr AWn σ σ1 ∧ rI σ1 76 0 = 0 ∧ ∃ m : Nat, rI σ1 76 20 = m ∧ Dm (rI σ1) = PlD n (-1) (1 + rI σ 76 19) (sT Es fo) (CF Er) (CF1 Er du) D m ∧ StB (Dm (rI σ1)) n ∧ PlayS (PlD n (-1) (1 + rI σ 76 19) (sT Es fo) (CF Er) (CF1 Er du) D) n r m) := by
  have h9 := hM.1.1.2.1
  have hSt := hM.1.2.2.1
  apply T.int
  apply t_X10_play hG
  intro σ1 e1
  obtain ⟨hG1, t1, hF1, hM1, o1⟩ := m_pre hG hM e1
  obtain ⟨w, hwe⟩ : ∃ w : Int, w = 1 + rI σ 76 19 := ⟨_, rfl⟩
  rw [← hwe]
  obtain ⟨R, hR⟩ : ∃ R : Nat → (Nat → Int → Int), R = PlD n (-1) w (sT Es fo) (CF Er) (CF1 Er du) D := ⟨_, rfl⟩
  have hR0 : R 0 = D := by rw [hR]; rfl
  have hRs : ∀ k : Nat, R (k + 1) = RnD n (-1) w (sT Es fo) (CF Er) (CF1 Er du) (R k) n.toNat := fun k => by rw [hR]; rfl
  rw [← hR]
  obtain ⟨P, hP⟩ : ∃ P : aO → aH → Prop, P = QI (fun r σ1 => Fr AWn σ σ1 ∧ rI σ1 76 0 = 0 ∧ ∃ m : Nat, rI σ1 76 20 = m ∧ Dm (rI σ1) = R m ∧ StB (Dm (rI σ1)) n ∧ PlayS R n r m) := ⟨_, rfl⟩
  rw [← hP]
  have hRf : ∀ (k f : Nat) (i : Int), f ≠ 2 → R k f i = D f i := by
    intro k
    induction k with
    | zero => intro f i _; rw [hR0]
    | succ k ih => intro f i hf; rw [hRs, RnD_ne n.toNat (by omega)]; exact ih f i hf
  have keep : ∀ τ : aH, Fr AWn σ τ → G τ u ∧ rI τ 80 2 = n ∧ 1 + rI τ 76 19 = w := fun τ hF => ⟨hF.g hG, (hF.rw (by omega) (AWn1 _ _ (by omega))).trans h2, by rw [hF.rw (by omega) (AWn2 _ (by omega)), hwe]⟩
  have nN : ∀ (k : Int) (a : Nat) (i : Int), a < 321 → ¬ (fun (a : Nat) (_ : Int) => a = 321 + k.toNat) a i := fun k a i z => by show ¬ (a = 321 + k.toNat); omega
  have hiS : ∀ (k : Nat) (τ : aH), k < 21 → Fr AWn σ τ → (∀ s : Int, 0 ≤ s → s < 8 → rI τ (321 + k) s = R k 2 s) → ∀ m : Nat, Dm (rI τ) = R m → TI sc (d + 7) mX10_isAs [.ref 76, .int (nZ (k : Int))] τ (fun r σ1 => σ1 = τ ∧ ((r = 1 ∧ Heq n (R m) (R k)) ∨ (r = 0 ∧ ¬ Heq n (R m) (R k)))) := by
    intro k τ hk hF hn m hDt
    obtain ⟨k1, k2, k3⟩ := keep τ hF
    obtain ⟨r, σ2, he, hr, e, hx⟩ := m_isAs (sc := sc) (d := d + 6) (k := (k : Int)) (n := n) k1 (by omega) k2 (by omega)
    refine ⟨r, σ2, he, hr, e, ?_⟩
    rw [hDt] at hx
    have eq : (∀ s : Int, 0 ≤ s → s < n → rI τ (321 + (k : Int).toNat) s = R m 2 s) ↔ Heq n (R m) (R k) := by
      constructor
      · intro h i a b; rw [← hn i a (by omega)]; exact h i a b
      · intro h i a b; rw [show (k : Int).toNat = k by omega, hn i a (by omega)]; exact h i a b
    rw [eq] at hx
    exact hx
  have loop : ∀ (f k : Nat) (τ : aH), 20 - k = f → k ≤ 20 → Fr AWn σ τ → rI τ 76 0 = 0 → Dm (rI τ) = R k → StB (R k) n → rI τ 76 20 = (k : Int) + 1 → (∀ q : Nat, q ≤ k → ∀ s : Int, 0 ≤ s → s < 8 → rI τ (321 + q) s = R q 2 s) → (∀ q : Nat, 1 ≤ q → q ≤ k → ∀ p : Nat, p < q → ¬ Heq n (R q) (R p)) → L_X10_play_15 (Ev sc (d + 7)) sc P τ := by
    intro f
    induction f with
    | zero =>
      intro k τ hf hk hF ht hDt hB hrd hN hno
      have e : k = 20 := by omega
      obtain ⟨k1, k2, k3⟩ := keep τ hF
      apply v_X10_play_15 k1
      rw [hrd]
      refine ⟨fun _ σ2 e2 => ?_, fun q => by omega⟩
      rw [hP]
      have hD2 : Dm (rI σ2) = R 20 := by rw [← e2, Dm_o (by omega), hDt, e]
      refine ⟨0, rfl, by decide, ?_, ?_, 20, ?_, hD2, by rw [hD2, ← e]; exact hB, ⟨by omega, by omega⟩, fun q a b => hno q a (by omega), Or.inl rfl, Or.inr ⟨rfl, hno 20 (by omega) (by omega) 19 (by omega)⟩⟩
      · rw [← e2]; exact hF.trans (Fr.w (by omega) (Or.inr (Or.inr ⟨rfl, Or.inr rfl⟩)))
      · rw [← e2, rI_wi (by decide)]; exact ht
      · rw [← e2, rI_ww (by decide)]; rfl
    | succ f ih =>
      intro k τ hf hk hF ht hDt hB hrd hN hno
      obtain ⟨T, hT⟩ : ∃ T : Nat → (Nat → Int → Int), T = RnD n (-1) w (sT Es fo) (CF Er) (CF1 Er du) (R k) := ⟨_, rfl⟩
      have hTs : ∀ l : Nat, T (l + 1) = Dset (T l) 2 l (wishV n (-1) w (sT Es fo) (CF Er) (CF1 Er du) (T l) l) := fun l => by rw [hT]; rfl
      have hTf : ∀ (l f : Nat) (i : Int), f ≠ 2 → T l f i = D f i := fun l f i hf => by rw [hT, RnD_ne l (by omega)]; exact hRf k f i hf
      have hT1 : T n.toNat = R (k + 1) := by rw [hRs, hT]
      -- the end of the round
      have fin : ∀ τ2 : aH, Fr AWn σ τ2 → rI τ2 76 0 = 0 → Dm (rI τ2) = R (k + 1) → StB (R (k + 1)) n → rI τ2 76 20 = (k : Int) + 1 → (∀ q : Nat, q ≤ k → ∀ s : Int, 0 ≤ s → s < 8 → rI τ2 (321 + q) s = R q 2 s) → ∀ r : Int, inR r → (∃ p : Nat, p < k + 1 ∧ Heq n (R (k + 1)) (R p)) → ((r = 1 ∧ Heq n (R (k + 1)) (R k)) ∨ (r = 0 ∧ ¬ Heq n (R (k + 1)) (R k))) → P (.inl (some (.int (nZ r)))) τ2 := by
        intro τ2 hF2 ht2 hD2 hB2 hr2 hN2 r hr hp hx
        rw [hP]
        exact ⟨r, rfl, hr, hF2, ht2, k + 1, by omega, hD2, by rw [hD2]; exact hB2, ⟨by omega, by omega⟩, fun q a b => hno q a (by omega), Or.inr hp, hx⟩
      have seen : ∀ (f2 l : Nat) (τ2 : aH), k - l = f2 → l ≤ k → Fr AWn σ τ2 → rI τ2 76 0 = 0 → Dm (rI τ2) = R (k + 1) → StB (R (k + 1)) n → rI τ2 76 20 = (k : Int) + 1 → (∀ q : Nat, q ≤ k → ∀ s : Int, 0 ≤ s → s < 8 → rI τ2 (321 + q) s = R q 2 s) → ¬ Heq n (R (k + 1)) (R k) → (∀ p : Nat, p < l → ¬ Heq n (R (k + 1)) (R p)) → L_X10_play_72 (Ev sc (d + 7)) sc P (l : Int) τ2 := by
        intro f2
        induction f2 with
        | zero =>
          intro l τ2 hf2 hl hF2 ht2 hD2 hB2 hr2 hN2 hk2 hp2
          obtain ⟨k1, k2, k3⟩ := keep τ2 hF2
          have el : l = k := by omega
          obtain ⟨σ3, he3, hF3, hn3⟩ := m_notes (sc := sc) (d := d + 6) (k := (k : Int) + 1) k1 (by omega)
          have hF03 : Fr AWn σ σ3 := hF2.trans (hF3.weak (fun a i z => by have z' : a = 321 + ((k : Int) + 1).toNat := z; exact Or.inr (Or.inl ⟨by omega, by omega⟩)))
          have r3 : rI σ3 76 20 = (k : Int) + 1 := (hF3.rw (by omega) (nN _ 76 20 (by omega))).trans hr2
          apply v_X10_play_72 k1 (by omega)
          rw [hr2]
          refine ⟨by omega, fun _ => ⟨σ3, he3, hF03.g hG, ?_⟩, fun q => by omega⟩
          rw [r3]
          refine ⟨by omega, fun σ7 e7 => ?_⟩
          refine ih (k + 1) σ7 (by omega) (by omega) ?_ ?_ ?_ hB2 ?_ (fun q hq s a b => ?_) (fun q a b p c => ?_)
          · rw [← e7]; exact hF03.trans (Fr.w (by omega) (Or.inr (Or.inr ⟨rfl, Or.inr rfl⟩)))
          · rw [← e7, rI_wi (by decide), hF3.rw (by omega) (nN _ 76 0 (by omega))]; exact ht2
          · rw [← e7, Dm_o (by omega), Dm_fr hF3 (fun a i p q => nN _ a i (by omega)), hD2]
          · rw [← e7, rI_ww (by omega)]; omega
          · rw [← e7, rI_wa (by omega)]
            by_cases c : q = k + 1
            · have := hn3 s a b
              rw [hD2, show ((k : Int) + 1).toNat = k + 1 by omega] at this
              rw [c]; exact this
            · rw [hF3.rw a (by show ¬ (321 + q = 321 + ((k : Int) + 1).toNat); omega)]
              exact hN2 q (by omega) s a b
          · by_cases e : q = k + 1
            · rw [e]
              by_cases e3 : p = k
              · rw [e3]; exact hk2
              · exact hp2 p (by omega)
            · exact hno q a (by omega) p c
        | succ f2 ih2 =>
          intro l τ2 hf2 hl hF2 ht2 hD2 hB2 hr2 hN2 hk2 hp2
          obtain ⟨k1, k2, k3⟩ := keep τ2 hF2
          obtain ⟨r, σ3, he, hr, e, hx⟩ := hiS l τ2 (by omega) hF2 (hN2 l (by omega)) (k + 1) hD2
          subst e
          apply v_X10_play_72 k1 (by omega)
          rw [hr2]
          refine ⟨by omega, fun q => by omega, fun _ => ⟨r, σ3, he, k1, hr, fun q => ⟨by omega, ?_⟩, fun q => ?_⟩⟩
          · have hl2 : ¬ Heq n (R (k + 1)) (R l) := by
              rcases hx with ⟨a, b⟩ | ⟨a, b⟩
              · omega
              · exact b
            have := ih2 (l + 1) σ3 (by omega) (by omega) hF2 ht2 hD2 hB2 hr2 hN2 hk2 (fun p c => by
              by_cases e3 : p = l
              · rw [e3]; exact hl2
              · exact hp2 p (by omega))
            exact this
          · have hl2 : Heq n (R (k + 1)) (R l) := by
              rcases hx with ⟨a, b⟩ | ⟨a, b⟩
              · exact b
              · exact absurd a q
            exact fin σ3 hF2 ht2 hD2 hB2 hr2 hN2 0 (by decide) ⟨l, by omega, hl2⟩ (Or.inr ⟨rfl, hk2⟩)
      have wish : ∀ (f2 l : Nat) (τ2 : aH), n.toNat - l = f2 → (l : Int) ≤ n → Fr AWn σ τ2 → rI τ2 76 0 = 0 → Dm (rI τ2) = T l → StB (T l) n → rI τ2 76 20 = (k : Int) + 1 → (∀ q : Nat, q ≤ k → ∀ s : Int, 0 ≤ s → s < 8 → rI τ2 (321 + q) s = R q 2 s) → L_X10_play_26 (Ev sc (d + 7)) sc P (l : Int) τ2 := by
        intro f2
        induction f2 with
        | zero =>
          intro l τ2 hf2 hl hF2 ht2 hD2 hB2 hr2 hN2
          obtain ⟨k1, k2, k3⟩ := keep τ2 hF2
          have el : l = n.toNat := by omega
          rw [el, hT1] at hD2 hB2
          obtain ⟨r, σ3, he, hr, e, hx⟩ := hiS k τ2 (by omega) hF2 (hN2 k (by omega)) (k + 1) hD2
          subst e
          apply v_X10_play_26 k1 (by omega)
          rw [hr2, show (k : Int) + 1 - 1 = k by omega]
          refine ⟨fun _ => ⟨by omega, r, σ3, he, k1, hr, fun q => ?_, fun q => ?_⟩, fun q => by omega⟩
          · have hk2 : ¬ Heq n (R (k + 1)) (R k) := by
              rcases hx with ⟨a, b⟩ | ⟨a, b⟩
              · omega
              · exact b
            exact seen _ 0 σ3 rfl (by omega) hF2 ht2 hD2 hB2 hr2 hN2 hk2 (fun p c => by omega)
          · have hk2 : Heq n (R (k + 1)) (R k) := by
              rcases hx with ⟨a, b⟩ | ⟨a, b⟩
              · exact b
              · exact absurd a q
            exact fin σ3 hF2 ht2 hD2 hB2 hr2 hN2 1 (by decide) ⟨k, by omega, hk2⟩ (Or.inl ⟨rfl, hk2⟩)
        | succ f2 ih2 =>
          intro l τ2 hf2 hl hF2 ht2 hD2 hB2 hr2 hN2
          obtain ⟨k1, k2, k3⟩ := keep τ2 hF2
          have hMt := hM.wn hF2 hD2 hB2 (fun i a b => ⟨hTf l 0 i (by omega), hTf l 1 i (by omega)⟩)
          obtain ⟨r, σ3, he, hr, hF3, hD3, hrb, hWs⟩ := m_wishOf (sc := sc) (d := d) (s := (l : Int)) k1 hMt ⟨by omega, by omega⟩ (by rw [hTf l 5 _ (by omega)]; exact (hg l (by omega) (by omega)).2)
          rw [k3] at hWs
          have ew := hWs.eq
          have hF03 : Fr AWn σ σ3 := hF2.trans (hF3.weak (fun a i z => Or.inl z))
          have nP : ∀ (a : Nat) (i : Int), ((a = 76 ∧ (i = 0 ∨ i = 20)) ∨ (321 ≤ a ∧ a ≤ 341)) → ¬ AMp a i := fun a i z => by show ¬ ((91 ≤ a ∧ a ≤ 99) ∨ (261 ≤ a ∧ a ≤ 313) ∨ (a = 76 ∧ (i = 36 ∨ i = 37))); omega
          apply v_X10_play_26 k1 (by omega)
          refine ⟨fun q => by omega, fun _ => ⟨by omega, r, σ3, he, hF03.g hG, hr, fun σ13 e13 => ⟨by omega, ?_⟩⟩⟩
          have := ih2 (l + 1) σ13 (by omega) (by omega) ?_ ?_ ?_ ?_ ?_ ?_
          · exact this
          · rw [← e13]; exact hF03.trans (Fr.w (by omega) (Or.inl (Or.inl ⟨by omega, by omega⟩)))
          · rw [← e13, rI_wa (by omega), hF3.rw (by omega) (nP _ _ (by omega))]; exact ht2
          · rw [hTs, ← ew, ← hD3, ← e13]; exact Dm_w (f := 2) (s := (l : Int)) (by omega) hr
          · rw [hTs, ← ew]; exact hB2.set2 hrb
          · rw [← e13, rI_wa (by omega), hF3.rw (by omega) (nP _ _ (by omega))]; exact hr2
          · intro q hq s a b
            rw [← e13, rI_wa (by omega), hF3.rw a (nP _ _ (by omega))]; exact hN2 q hq s a b
      obtain ⟨k1, k2, k3⟩ := keep τ hF
      apply v_X10_play_15 k1
      rw [hrd]
      refine ⟨fun q => by omega, fun _ => ?_⟩
      exact wish _ 0 τ rfl (by omega) hF ht (by rw [hDt, hT]; rfl) (by rw [hT]; exact hB) hrd hN
  obtain ⟨σ4, he4, hF4, hn4⟩ := m_notes (sc := sc) (d := d + 6) (k := 0) hG1 (by omega)
  rw [← hM1.1.2.1] at hn4
  have hF04 : Fr AWn σ σ4 := (hF1.weak (fun a i z => Or.inr (Or.inr ⟨z.1, Or.inl z.2⟩))).trans (hF4.weak (fun a i z => by have z' : a = 321 + (0 : Int).toNat := z; exact Or.inr (Or.inl ⟨by omega, by omega⟩)))
  refine ⟨σ4, he4, hF04.g hG, fun σ8 e8 => ?_⟩
  refine loop _ 0 σ8 rfl (by omega) ?_ ?_ ?_ (by rw [hR0]; exact hSt) ?_ (fun q hq s a b => ?_) (fun q a b => by omega)
  · rw [← e8]; exact hF04.trans (Fr.w (by omega) (Or.inr (Or.inr ⟨rfl, Or.inr rfl⟩)))
  · rw [← e8, rI_wi (by decide), hF4.rw (by omega) (nN _ 76 0 (by omega))]; exact t1
  · rw [← e8, Dm_o (by omega), Dm_fr hF4 (fun a i p q => nN _ a i (by omega)), ← hM1.1.2.1, hR0]
  · rw [← e8, rI_ww (by decide)]; rfl
  · have eq : q = 0 := by omega
    rw [eq, ← e8, rI_wa (by omega), hR0]
    exact hn4 s a b
end
