/-! THE REFERENCE: what stood there. -/
section
variable {sc : Nat × (Nat → Int32)} {d : Nat} {σ : aH} {u : Nat} {n g W H : Int} {D : Nat → Int → Int} {Es Er : Nat → Option Int} {K : Int} {fr va : Int → Int} {du fo : Int}
theorem ChT_eq {w j : Int} {S : Int → Int} (hj : 0 ≤ j) : ChT (FaM D n (-1) w) n S j = ChD D n (-1) w S j := by
  refine sm_congr (fun t _ _ => ?_)
  show cif (Any (FaM D n (-1) w) n j (-1) (S t)) 1 0 = _
  refine cif_congr ⟨fun ⟨k, a, b, c, e⟩ => ⟨k, a, b, c, e.2.2⟩, fun ⟨k, a, b, c, e⟩ => ⟨k, a, b, c, (FaM_iff a hj).mpr e⟩⟩
theorem m_explains {co : Int → Int} {D1 : Nat → Int → Int} {x y h : Int} (hG : G σ u) (hM : Mf σ (n + 1) (-1) W H D1 Es Er K fr va du fo) (hn : 0 ≤ n ∧ n ≤ 8) (h2 : rI σ 80 2 = n) (hD : Deq (n + 1) (Dadd D n x y h) D1) (hco : ∀ i : Int, 0 ≤ i → i < n → rI σ 184 i = co i) (has : ∀ i : Int, 0 ≤ i → i < n → rI σ 342 i = ChD D n (-1) (1 + rI σ 76 19) (sT Es fo) i) : TI sc (d + 6) mX10_explains [.ref 76] σ (fun r σ1 => Fr AGo σ σ1 ∧ ((r = 1 ∧ Expl D co n (-1) (1 + rI σ 76 19) (sT Es fo) x y h) ∨ (r = 0 ∧ ¬ Expl D co n (-1) (1 + rI σ 76 19) (sT Es fo) x y h))) := by
  apply T.int
  apply t_X10_explains hG
  obtain ⟨r5, σ1, he1, hr1, hF1, hD1, -⟩ := m_dueNow (sc := sc) (d := d) hG hM
  refine ⟨r5, σ1, he1, hF1.g hG, hr1, ?_⟩
  obtain ⟨w, hw⟩ : ∃ w : Int, w = 1 + rI σ 76 19 := ⟨_, rfl⟩
  rw [← hw] at hD1 has ⊢
  have nA : ∀ (a : Nat) (i : Int), ¬ (261 ≤ a ∧ a ≤ 313) → a ≠ 76 → ¬ AGo a i := fun a i p q => by show ¬ ((261 ≤ a ∧ a ≤ 313) ∨ (a = 76 ∧ (i = 36 ∨ i = 37))); omega
  have k2 : rI σ1 80 2 = n := (hF1.rw (by omega) (nA _ _ (by omega) (by omega))).trans h2
  have kco : ∀ i : Int, 0 ≤ i → i < n → rI σ1 184 i = co i := fun i a b => (hF1.rw a (nA _ _ (by omega) (by omega))).trans (hco i a b)
  have kas : ∀ i : Int, 0 ≤ i → i < n → rI σ1 342 i = ChD D n (-1) w (sT Es fo) i := fun i a b => (hF1.rw a (nA _ _ (by omega) (by omega))).trans (has i a b)
  have kch : ∀ i : Int, 0 ≤ i → i < n → rI σ1 311 i = ChD (Dadd D n x y h) (n + 1) (-1) w (sT Es fo) i := fun i a b => by
    rw [hD1.2.2.1 i a (by omega), ChT_eq a, hD.ch ⟨a, by omega⟩]
  obtain ⟨P, hP⟩ : ∃ P : aO → aH → Prop, P = QI (fun r σ1 => Fr AGo σ σ1 ∧ ((r = 1 ∧ Expl D co n (-1) w (sT Es fo) x y h) ∨ (r = 0 ∧ ¬ Expl D co n (-1) w (sT Es fo) x y h))) := ⟨_, rfl⟩
  rw [← hP]
  have loop : ∀ (f : Nat) (k : Int), (n - k).toNat = f → 0 ≤ k → k ≤ n → (∀ i : Int, 0 ≤ i → i < k → co i ≠ -1 → ChD (Dadd D n x y h) (n + 1) (-1) w (sT Es fo) i - ChD D n (-1) w (sT Es fo) i = co i) → L_X10_explains_7 (Ev sc (d + 5)) sc P k σ1 := by
    intro f
    induction f with
    | zero =>
      intro k hf k0 k1 hq
      apply v_X10_explains_7 (hF1.g hG) (by omega)
      refine ⟨fun _ => ?_, fun q => by omega⟩
      rw [hP]; exact ⟨1, rfl, by decide, hF1, Or.inl ⟨rfl, fun i i0 i1 => hq i i0 (by omega)⟩⟩
    | succ f ih =>
      intro k hf k0 k1 hq
      have b1 := ChD_bd (D := Dadd D n x y h) (n := n + 1) (gone := -1) (w := w) (S := sT Es fo) (j := k)
      have b2 := ChD_bd (D := D) (n := n) (gone := -1) (w := w) (S := sT Es fo) (j := k)
      have nx : (co k ≠ -1 → ChD (Dadd D n x y h) (n + 1) (-1) w (sT Es fo) k - ChD D n (-1) w (sT Es fo) k = co k) → L_X10_explains_7 (Ev sc (d + 5)) sc P (k + 1) σ1 := by
        intro hk
        refine ih (k + 1) (by omega) (by omega) (by omega) (fun i i0 i1 i2 => ?_)
        by_cases c : i = k
        · rw [c] at i2 ⊢; exact hk i2
        · exact hq i i0 (by omega) i2
      apply v_X10_explains_7 (hF1.g hG) (by omega)
      rw [kco k k0 (by omega), kas k k0 (by omega), kch k k0 (by omega)]
      refine ⟨fun q => by omega, fun _ => ⟨by omega, fun q => ⟨by omega, nx (fun z => absurd q z)⟩, fun q => ⟨by omega, by omega, by omega, by omega, fun q1 => ⟨by omega, nx (fun _ => q1)⟩, fun q1 => ?_⟩⟩⟩
      rw [hP]
      exact ⟨0, rfl, by decide, hF1, Or.inr ⟨rfl, fun e => q1 (e k k0 (by omega) q)⟩⟩
  exact loop _ 0 rfl (by omega) (by omega) (fun i a b => by omega)
/-- what the search changes -/
abbrev AMw : Nat → Int → Prop := fun a i => AMq a i ∨ a = 342
theorem m_what {co : Int → Int} {wh : Int} (hG : G σ u) (hM : Mf σ n (-1) W H D Es Er K fr va du fo) (h8 : n ≤ 8) (h2 : rI σ 80 2 = n) (hco : ∀ i : Int, 0 ≤ i → i < n → rI σ 184 i = co i) (hw : wh = 0 ∨ wh = 1) : TI sc (d + 7) mX10_what [.ref 76, .int (nZ wh)] σ (fun r σ1 => Fr (fun a i => AMw a i ∨ (a = 76 ∧ i = 0)) σ σ1 ∧ rI σ1 76 0 = 0 ∧ rI σ1 76 28 = n ∧ Deq n D (Dm (rI σ1)) ∧ ∃ cnt fst : Int, WhS (WhC D co n (-1) (1 + rI σ 76 19) W H (sT Es fo)) 5400 cnt fst ∧ r = if wh = 0 then cnt else fst) := by
  have h9 := hM.1.1.2.1
  have hDm : D = Dm (rI σ) := hM.1.2.1
  have hWH := hM.1.2.2.2.2.2.2.1
  apply T.int
  apply t_X10_what hG (by omega)
  intro σ1 e1
  obtain ⟨A, hA⟩ : ∃ A : Nat → Int → Prop, A = fun a i => AMw a i ∨ (a = 76 ∧ i = 0) := ⟨_, rfl⟩
  rw [← hA]
  have hF1 : Fr A σ σ1 := by rw [← e1, hA]; exact Fr.w (by omega) (Or.inr ⟨rfl, rfl⟩)
  have t1 : rI σ1 76 0 = 0 := by rw [← e1]; exact rI_ww (by decide)
  have hG1 := hF1.g hG
  have nA0 : ∀ (a : Nat) (i : Int), (80 ≤ a ∧ a ≤ 259) ∨ (a = 76 ∧ i ≠ 0) → ¬ (fun (a : Nat) (i : Int) => a = 76 ∧ i = 0) a i := fun a i z => by show ¬ (a = 76 ∧ i = 0); omega
  have hF01 : Fr (fun a i => a = 76 ∧ i = 0) σ σ1 := by rw [← e1]; exact Fr.w (by omega) ⟨rfl, rfl⟩
  have hM1 : Mf σ1 n (-1) W H D Es Er K fr va du fo := hM.frm hF01 (fun a i z => nA0 a i (by omega)) (fun i z => nA0 76 i (by omega))
  have w1 : rI σ1 76 19 = rI σ 76 19 := hF01.rw (by omega) (nA0 _ _ (by omega))
  obtain ⟨w, hwe⟩ : ∃ w : Int, w = 1 + rI σ 76 19 := ⟨_, rfl⟩
  rw [← hwe]
  obtain ⟨C, hC⟩ : ∃ C : Int → Prop, C = WhC D co n (-1) w W H (sT Es fo) := ⟨_, rfl⟩
  rw [← hC]
  obtain ⟨P, hP⟩ : ∃ P : aO → aH → Prop, P = QI (fun r σ1 => Fr A σ σ1 ∧ rI σ1 76 0 = 0 ∧ rI σ1 76 28 = n ∧ Deq n D (Dm (rI σ1)) ∧ ∃ cnt fst : Int, WhS C 5400 cnt fst ∧ r = if wh = 0 then cnt else fst) := ⟨_, rfl⟩
  rw [← hP]
  have nW : ∀ (a : Nat) (i : Int), (a = 80 ∨ a = 184 ∨ (122 ≤ a ∧ a ≤ 141) ∨ (190 ≤ a ∧ a ≤ 259)) → ¬ AMw a i := fun a i z => by show ¬ (((91 ≤ a ∧ a ≤ 99) ∨ (261 ≤ a ∧ a ≤ 313) ∨ (a = 76 ∧ (i = 28 ∨ i = 36 ∨ i = 37))) ∨ a = 342); omega
  have nW2 : ∀ i : Int, (i = 0 ∨ i = 19 ∨ i = 25 ∨ i = 27) → ¬ AMw 76 i := fun i z => by show ¬ (((91 ≤ 76 ∧ 76 ≤ 99) ∨ (261 ≤ 76 ∧ 76 ≤ 313) ∨ (76 = 76 ∧ (i = 28 ∨ i = 36 ∨ i = 37))) ∨ 76 = 342); omega
  have keep : ∀ τ : aH, Fr AMw σ1 τ → Fr A σ τ ∧ G τ u ∧ rI τ 80 0 = W ∧ rI τ 80 1 = H ∧ rI τ 76 0 = 0 ∧ 1 + rI τ 76 19 = w ∧ rI τ 76 27 = gm (-1) ∧ rI τ 80 2 = n ∧ (∀ i : Int, 0 ≤ i → i < n → rI τ 184 i = co i) := fun τ hF => ⟨hF1.trans (hF.weak (fun a i z => by rw [hA]; exact Or.inl z)), hF.g hG1, (hF.rw (by omega) (nW _ _ (by omega))).trans hM1.1.2.2.2.2.2.1.1, (hF.rw (by omega) (nW _ _ (by omega))).trans hM1.1.2.2.2.2.2.1.2, (hF.rw (by omega) (nW2 _ (by omega))).trans t1, by rw [hF.rw (by omega) (nW2 _ (by omega)), w1, hwe], (hF.rw (by omega) (nW2 _ (by omega))).trans hM1.1.1.2.2.1, (hF.rw (by omega) (nW _ _ (by omega))).trans ((hF01.rw (by omega) (nA0 _ _ (by omega))).trans h2), fun i a b => (hF.rw a (nW _ _ (by omega))).trans ((hF01.rw a (nA0 _ _ (by omega))).trans (hco i a b))⟩
  -- back to AMq for the steps: 342 does not matter to the market
  have mk : ∀ (τ : aH), Fr AMw σ1 τ → rI τ 76 28 = n → Deq n D (Dm (rI τ)) → Mf τ n (-1) W H (Dm (rI τ)) Es Er K fr va du fo := fun τ hF hn hD => hM1.re hF (fun a i z => nW a i (by omega)) (fun i z => nW2 i (by omega)) ⟨hn, h9, (keep τ hF).2.2.2.2.2.2.1, by omega⟩ rfl (hD.stb hM1.1.2.2.1) (hM1.1.2.2.2.1.of (fun i i0 i1 => ⟨hD 0 i (by omega) i0 i1, hD 1 i (by omega) i0 i1⟩)) (Fld.of hM1.1.2.2.2.2.1 (fun i i0 i1 => ⟨hD 0 i (by omega) i0 i1, hD 1 i (by omega) i0 i1⟩))
  obtain ⟨As, hAs⟩ : ∃ As : aH → Prop, As = fun τ => ∀ i : Int, 0 ≤ i → i < n → rI τ 342 i = ChD D n (-1) w (sT Es fo) i := ⟨_, rfl⟩
  -- heights over one cell
  have hts : ∀ (row col : Int), 0 ≤ row → row < H → 0 ≤ col → col < W → (∀ k : Int, ¬ At D n col row k) → (∀ (cnt fst : Int) (τ : aH), Fr AMw σ1 τ → rI τ 76 28 = n → Deq n D (Dm (rI τ)) → As τ → WhS C (60 * (col + 10 * row) + 60) cnt fst → L_X10_what_90 (Ev sc (d + 6)) sc P wh cnt fst row (col + 1) τ) → ∀ (f : Nat) (k cnt fst : Int) (τ : aH), (61 - k).toNat = f → 1 ≤ k → k ≤ 61 → Fr AMw σ1 τ → rI τ 76 28 = n → Deq n D (Dm (rI τ)) → As τ → WhS C (60 * (col + 10 * row) + (k - 1)) cnt fst → L_X10_what_119 (Ev sc (d + 6)) sc P wh cnt fst row col k τ := by
    intro row col r0 r1 c0 c1 hfree next f
    induction f with
    | zero =>
      intro k cnt fst τ hf k0 k1 hF hn hDt has hWt
      obtain ⟨k1', k2, k3, k4, k5, k6, k7, k8, k9⟩ := keep τ hF
      have bd := hWt.bd (by omega)
      apply v_X10_what_119 k2 (by omega) (by omega) (by omega) (by omega) (by omega) (by omega)
      refine ⟨fun _ => ⟨by omega, next cnt fst τ hF hn hDt has ?_⟩, fun q => by omega⟩
      rw [show 60 * (col + 10 * row) + 60 = 60 * (col + 10 * row) + (k - 1) by omega]; exact hWt
    | succ f ih =>
      intro k cnt fst τ hf k0 k1 hF hn hDt has hWt
      obtain ⟨k1', k2, k3, k4, k5, k6, k7, k8, k9⟩ := keep τ hF
      have bd := hWt.bd (by omega)
      obtain ⟨τ1, he2, hF2, hF2', hn2, hD2, hM2⟩ := m_addD (sc := sc) (d := d + 5) (σ := τ) (D := Dm (rI τ)) (x := col) (y := row) (h := k) k2 (mk τ hF hn hDt) (by omega) (Fr.refl _ _) hn (Deq.refl _ _) (by omega) (by omega) (by omega) (fun q hq => hfree q (hDt.at.mp hq))
      have hFa : Fr AMw σ1 τ1 := hF.trans (hF2.weak (fun a i z => Or.inl z))
      obtain ⟨l1, l2, l3, l4, l5, l6, l7, l8, l9⟩ := keep τ1 hFa
      have has' := has
      rw [hAs] at has'
      have hDadd : Deq (n + 1) (Dadd D n col row k) (Dm (rI τ1)) := (hDt.add h9.1 col row k).trans hD2
      have has1 : ∀ i : Int, 0 ≤ i → i < n → rI τ1 342 i = ChD D n (-1) w (sT Es fo) i := fun i a b => (hF2'.rw a (by show ¬ ((91 ≤ 342 ∧ 342 ≤ 99) ∨ (342 = 76 ∧ _)); omega)).trans (has' i a b)
      obtain ⟨r10, σ6, he6, hr6, hF6, h6⟩ := m_explains (sc := sc) (d := d) (co := co) (D := D) (x := col) (y := row) (h := k) l2 hM2 ⟨h9.1, h8⟩ l8 hDadd l9 (by rw [l6]; exact has1)
      rw [l6] at h6
      have hF6' : Fr AMw σ1 σ6 := hFa.trans (hF6.weak (fun a i z => Or.inl (AGo_AMq a i z)))
      have n6 : rI σ6 76 28 = n + 1 := (hF6.rw (by omega) (by show ¬ ((261 ≤ 76 ∧ 76 ≤ 313) ∨ (76 = 76 ∧ ((28 : Int) = 36 ∨ (28 : Int) = 37))); omega)).trans hn2
      have hD6 : Deq (n + 1) (Dadd D n col row k) (Dm (rI σ6)) := by rw [Dm_go hF6]; exact hDadd
      apply v_X10_what_119 k2 (by omega) (by omega) (by omega) (by omega) (by omega) (by omega)
      refine ⟨fun q => by omega, fun _ => ⟨τ1, he2, l2, r10, σ6, he6, hF6'.g hG1, hr6, ?_⟩⟩
      rw [n6, show n + 1 - 1 = n by omega]
      refine ⟨by omega, fun σ12 e12 => ?_⟩
      have hF12 : Fr AMw σ1 σ12 := by rw [← e12]; exact hF6'.trans (Fr.w (by omega) (Or.inl (Or.inr (Or.inr ⟨rfl, Or.inl rfl⟩))))
      have n12 : rI σ12 76 28 = n := by rw [← e12]; exact rI_ww (by omega)
      have hD12 := m_subD (n := n) hD6 (by omega) e12
      have has12 : As σ12 := by
        rw [hAs]
        intro i a b
        rw [← e12, rI_wa (by omega), hF6.rw a (by show ¬ ((261 ≤ 342 ∧ 342 ≤ 313) ∨ (342 = 76 ∧ _)); omega)]; exact has1 i a b
      obtain ⟨q, hq⟩ : ∃ q : Int, q = 60 * (col + 10 * row) + (k - 1) := ⟨_, rfl⟩
      have q1 : q / 60 = col + 10 * row := by omega
      have q2 : q % 60 + 1 = k := by omega
      have hWq : C q ↔ Expl D co n (-1) w (sT Es fo) col row k := by
        rw [hC]; unfold WhC; rw [q1, q2, show (col + 10 * row) % 10 = col by omega, show (col + 10 * row) / 10 = row by omega]
        refine ⟨fun a => a.2, fun a => ⟨⟨by omega, by omega, by omega, ?_⟩, a⟩⟩
        rw [show (col + 10 * row) % 10 = col by omega, show (col + 10 * row) / 10 = row by omega]; exact hfree
      rw [← hq] at hWt bd
      have nx : ∀ cnt fst : Int, WhS C (q + 1) cnt fst → L_X10_what_119 (Ev sc (d + 6)) sc P wh cnt fst row col (k + 1) σ12 := fun cnt fst hx => ih (k + 1) cnt fst σ12 (by omega) (by omega) (by omega) hF12 n12 hD12 has12 (by rw [show 60 * (col + 10 * row) + (k + 1 - 1) = q + 1 by omega]; exact hx)
      have good : r10 ≠ 0 → C q := fun z => by
        rw [hWq]
        rcases h6 with h6 | h6
        · exact h6.2
        · exact absurd h6.1 z
      refine ⟨fun z => ⟨fun z1 => ⟨by omega, by omega, nx _ _ ?_⟩, fun z1 => ⟨by omega, by omega, by omega, by omega, fun z21 e21 => ⟨by omega, by omega, nx _ _ ?_⟩⟩⟩, fun z => ⟨by omega, nx _ _ (hWt.skip (by omega) (by omega) (fun p p0 p1 => ?_))⟩⟩
      · have tk := hWt.take (by omega) (good z)
        rw [if_neg z1] at tk; exact tk
      · have tk := hWt.take (by omega) (good z)
        rw [if_pos z1, q2, q1] at tk
        rw [e21, show 100 * k + col + 10 * row = 100 * k + (col + 10 * row) by omega]; exact tk
      · have : p = q := by omega
        rw [this, hWq]
        rcases h6 with h6 | h6
        · omega
        · exact h6.2
  have rows : ∀ (f : Nat) (row cnt fst : Int) (τ : aH), (H - row).toNat = f → 0 ≤ row → row ≤ H → Fr AMw σ1 τ → rI τ 76 28 = n → Deq n D (Dm (rI τ)) → As τ → WhS C (600 * row) cnt fst → L_X10_what_76 (Ev sc (d + 6)) sc P wh cnt fst row τ := by
    intro f
    induction f with
    | zero =>
      intro row cnt fst τ hf r0 r1 hF hn hDt has hWt
      obtain ⟨k1', k2, k3, k4, k5, k6, k7, k8, k9⟩ := keep τ hF
      have bd := hWt.bd (by omega)
      have hend : WhS C 5400 cnt fst := hWt.skip (by omega) (by omega) (fun q q0 q1 z => by
        rw [hC] at z
        obtain ⟨⟨z1, z2, z3, -⟩, -⟩ := z
        omega)
      apply v_X10_what_76 k2 (by omega) (by omega) (by omega) (by omega)
      rw [hP]
      exact ⟨fun _ => ⟨fun z => ⟨fst, rfl, by omega, k1', k5, hn, hDt, cnt, fst, hend, by rw [if_neg z]⟩, fun z => ⟨cnt, rfl, by omega, k1', k5, hn, hDt, cnt, fst, hend, by rw [if_pos z]⟩⟩, fun q => by omega⟩
    | succ f ih =>
      intro row cnt fst τ hf r0 r1 hF hn hDt has hWt
      obtain ⟨k1', k2, k3, k4, k5, k6, k7, k8, k9⟩ := keep τ hF
      have bd := hWt.bd (by omega)
      have cols : ∀ (m : Nat) (col cnt fst : Int) (τ : aH), (W - col).toNat = m → 0 ≤ col → col ≤ W → Fr AMw σ1 τ → rI τ 76 28 = n → Deq n D (Dm (rI τ)) → As τ → WhS C (60 * (col + 10 * row)) cnt fst → L_X10_what_90 (Ev sc (d + 6)) sc P wh cnt fst row col τ := by
        intro m
        induction m with
        | zero =>
          intro col cnt fst τ hm c0 c1 hF hn hDt has hWt
          obtain ⟨k1', k2, k3, k4, k5, k6, k7, k8, k9⟩ := keep τ hF
          have bd := hWt.bd (by omega)
          apply v_X10_what_90 k2 (by omega) (by omega) (by omega) (by omega) (by omega)
          refine ⟨fun _ => ⟨by omega, ih (row + 1) cnt fst τ (by omega) (by omega) (by omega) hF hn hDt has (hWt.skip (by omega) (by omega) (fun q q0 q1 z => ?_))⟩, fun q => by omega⟩
          rw [hC] at z
          obtain ⟨⟨z1, z2, z3, -⟩, -⟩ := z
          omega
        | succ m ihm =>
          intro col cnt fst τ hm c0 c1 hF hn hDt has hWt
          obtain ⟨k1', k2, k3, k4, k5, k6, k7, k8, k9⟩ := keep τ hF
          have bd := hWt.bd (by omega)
          obtain ⟨r6, σ2, he2, hr2, e2, h2'⟩ := m_stallOn (sc := sc) (d := d + 4) (n := n) (g := -1) (x := col) (y := row) k2 ⟨hn, h9, k7, by omega⟩ (by omega) (by omega)
          subst e2
          have hAt : ∀ k : Int, At (Dm (rI σ2)) n col row k ↔ At D n col row k := fun k => hDt.at
          apply v_X10_what_90 k2 (by omega) (by omega) (by omega) (by omega) (by omega)
          refine ⟨fun q => by omega, fun _ => ⟨r6, σ2, he2, k2, hr2, fun q1 => ?_, fun q1 => ⟨by omega, ?_⟩⟩⟩
          · have hfree : ∀ k : Int, ¬ At D n col row k := fun k hk => by
              rcases h2' with h2' | h2'
              · exact h2'.2 k (by have := hk.1; omega) ((hAt k).mpr hk)
              · have := h2'.1.1.1; omega
            refine hts row col r0 (by omega) c0 (by omega) hfree (fun cnt fst τ a b c e f => ihm (col + 1) cnt fst τ (by omega) (by omega) (by omega) a b c e (by rw [show 60 * (col + 1 + 10 * row) = 60 * (col + 10 * row) + 60 by omega]; exact f)) _ 1 cnt fst σ2 rfl (by omega) (by omega) hF hn hDt has ?_
            rw [show 60 * (col + 10 * row) + (1 - 1) = 60 * (col + 10 * row) by omega]; exact hWt
          · refine ihm (col + 1) cnt fst σ2 (by omega) (by omega) (by omega) hF hn hDt has (hWt.skip (by omega) (by omega) (fun q p1 p2 z => ?_))
            rw [hC] at z
            obtain ⟨⟨-, -, -, z4⟩, -⟩ := z
            rw [show q / 60 = col + 10 * row by omega, show (col + 10 * row) % 10 = col by omega, show (col + 10 * row) / 10 = row by omega] at z4
            rcases h2' with h2' | h2'
            · exact q1 h2'.1
            · exact z4 r6 ((hAt r6).mp h2'.1.1)
      apply v_X10_what_76 k2 (by omega) (by omega) (by omega) (by omega)
      refine ⟨fun q => by omega, fun _ => cols _ 0 cnt fst τ rfl (by omega) (by omega) hF hn hDt has ?_⟩
      rw [show 60 * (0 + 10 * row) = 600 * row by omega]; exact hWt
  -- as it is now
  obtain ⟨r10, σ6, he6, hr6, hF6, hD6, -⟩ := m_dueNow (sc := sc) (d := d + 1) hG1 hM1
  rw [w1, ← hwe] at hD6
  have l42 : ∀ (f : Nat) (k : Int) (τ : aH), (n - k).toNat = f → 0 ≤ k → k ≤ n → Fr AMw σ1 τ → rI τ 76 28 = n → Deq n D (Dm (rI τ)) → (∀ i : Int, 0 ≤ i → i < n → rI τ 311 i = ChD D n (-1) w (sT Es fo) i) → (∀ i : Int, 0 ≤ i → i < k → rI τ 342 i = ChD D n (-1) w (sT Es fo) i) → L_X10_what_42 (Ev sc (d + 6)) sc P wh 0 (-1) k τ := by
    intro f
    induction f with
    | zero =>
      intro k τ hf k0 k1 hF hn hDt h311 h342
      obtain ⟨k1', k2, k3, k4, k5, k6, k7, k8, k9⟩ := keep τ hF
      apply v_X10_what_42 k2 (by omega) (by omega) (by omega) (by omega)
      refine ⟨fun _ => rows _ 0 0 (-1) τ rfl (by omega) (by omega) hF hn hDt ?_ (WhS.start _), fun q => by omega⟩
      rw [hAs]; exact fun i a b => h342 i a (by omega)
    | succ f ih =>
      intro k τ hf k0 k1 hF hn hDt h311 h342
      obtain ⟨k1', k2, k3, k4, k5, k6, k7, k8, k9⟩ := keep τ hF
      apply v_X10_what_42 k2 (by omega) (by omega) (by omega) (by omega)
      refine ⟨fun q => by omega, fun _ => ⟨by omega, by omega, fun σ3 e3 => ⟨by omega, ih (k + 1) σ3 (by omega) (by omega) (by omega) (by rw [← e3]; exact hF.trans (Fr.w k0 (Or.inr rfl))) (by rw [← e3, rI_wa (by omega)]; exact hn) (by rw [← e3, Dm_o (by omega)]; exact hDt) (fun i a b => by rw [← e3, rI_wa (by omega)]; exact h311 i a b) (fun i a b => ?_)⟩⟩⟩
      rw [← e3]
      by_cases c : i = k
      · rw [c, rI_ww (rI_R _ _ _)]; exact h311 k k0 (by omega)
      · rw [rI_wi (by omega)]; exact h342 i a (by omega)
  have hFa : Fr AMw σ1 σ6 := hF6.weak (fun a i z => Or.inl (AGo_AMq a i z))
  have n6 : rI σ6 76 28 = n := (hF6.rw (by omega) (by show ¬ ((261 ≤ 76 ∧ 76 ≤ 313) ∨ (76 = 76 ∧ ((28 : Int) = 36 ∨ (28 : Int) = 37))); omega)).trans hM1.1.1.1
  have go : L_X10_what_42 (Ev sc (d + 6)) sc P wh 0 (-1) 0 σ6 := l42 _ 0 σ6 rfl (by omega) (by omega) hFa n6 (by rw [Dm_go hF6, ← hM1.1.2.1]; exact Deq.refl _ _) (fun i a b => (hD6.2.2.1 i a b).trans (ChT_eq a)) (fun i a b => by omega)
  obtain ⟨r8, σ4, he4, hr4, e4, h4⟩ := m_in (sc := sc) (d := d + 5) (x := wh) (lo := 0) (hi := 1) hG1 (by omega) (by decide) (by decide)
  subst e4
  refine ⟨r8, σ4, he4, hG1, hr4, fun _ => ?_, fun z => by omega⟩
  apply v_X10_what_20 hG1 (by omega) (by decide)
  exact ⟨0, σ4, m_bad0 hG1 t1 (by decide) (by decide), hG1, by decide, fun _ => ⟨r10, σ6, he6, hFa.g hG1, hr6, go⟩, fun z => absurd rfl z⟩
end
