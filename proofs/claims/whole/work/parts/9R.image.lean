/-! BOTH SIDES: images taken and given back. -/
section
variable {sc : Nat × (Nat → Int32)} {d : Nat} {σ σ1 σ2 τ : aH} {u v : Nat} {n W H : Int} {D D2 : Nat → Int → Int} {Es Er : Nat → Option Int} {du fo N w cl K : Int} {fr va : Int → Int}
theorem J.ref91 (hJ : J σ u v n W H D Es Er du fo N) {i : Int} {f : Nat} (hf : f ≤ 6) (h0 : 0 ≤ i) (h1 : i < n) : rI σ (91 + i.toNat) f = D f i := by
  have h8 := hJ.2.2.1.2.2.1
  have := hJ.md f i hf h0 h1
  rw [Dm_at (by omega)] at this
  exact this
theorem J.cells (hJ : J σ u v n W H D Es Er du fo N) (i : Int) : rI σ (u + 2) i = D 0 i ∧ rI σ (u + 3) i = D 1 i ∧ rI σ (u + 4) i = D 2 i ∧ rI σ (u + 9) i = D 7 i := by
  rw [hJ.2.2.1.1]; exact ⟨rfl, rfl, rfl, rfl⟩
theorem AI_lo {m : Int} {a : Nat} {i : Int} (hb : 0 ≤ m ∧ m < 3) (h : AI m a i) : 3 ≤ a ∧ a ≤ 21 := by
  have h1 : (a = 3 ∧ i = 6) ∨ ((a = 4 ∨ a = 5) ∧ i = m) ∨ a = 7 + m.toNat ∨ a = 11 + m.toNat ∨ a = 15 + m.toNat ∨ a = 19 + m.toNat := h
  omega
theorem AI_k {m k : Int} {a : Nat} {i : Int} (hb : 0 ≤ m ∧ m < 3) (hk : 0 ≤ k ∧ k < m) (h : AI m a i) (z : ((a = 4 ∨ a = 5) ∧ i = k) ∨ a = 7 + k.toNat ∨ a = 11 + k.toNat ∨ a = 15 + k.toNat ∨ a = 19 + k.toNat ∨ a = 186 + k.toNat) : False := by
  have h1 : (a = 3 ∧ i = 6) ∨ ((a = 4 ∨ a = 5) ∧ i = m) ∨ a = 7 + m.toNat ∨ a = 11 + m.toNat ∨ a = 15 + m.toNat ∨ a = 19 + m.toNat := h
  rcases h1 with h1 | h1 | h1 | h1 | h1 | h1 <;> rcases z with z | z | z | z | z | z <;> omega
theorem j_image (hJ : J σ u v n W H D Es Er du fo N) (hN : 0 ≤ N ∧ N ≤ 1000) : JD sc (d + 12) mX9_image mX10_image [] σ N := by
  have hC := hJ.2.2.1
  have hmk : u = 39 ∨ u = 60 := hJ.mk
  have hvk := hJ.vk
  have h8 := hC.2.2.1
  have hS := hJ.2.2.2.2.1
  have hm := hS.2.2.2.2.1
  obtain ⟨m, em⟩ : ∃ m : Int, m = rI σ 3 6 := ⟨_, rfl⟩
  have hb : 0 ≤ m ∧ m ≤ 3 := by rw [em]; exact hm.2
  refine JD.gen (CP := fun r σ1 => (3 ≤ m → r = -1 ∧ σ1 = σ) ∧ (m < 3 → r = m + 1 ∧ Fr (AI m) σ σ1 ∧ rI σ1 3 6 = m + 1 ∧ rI σ1 4 m = rI σ u 8 ∧ rI σ1 5 m = rI σ u 9 ∧ ∀ i : Int, 0 ≤ i → i < 9 → rI σ1 (7 + m.toNat) i = rI σ (u + 2) i ∧ rI σ1 (11 + m.toNat) i = rI σ (u + 3) i ∧ rI σ1 (15 + m.toNat) i = rI σ (u + 4) i ∧ rI σ1 (19 + m.toNat) i = rI σ (u + 9) i)) (RP := fun τ r σ2 => (m = 3 → r = -1 ∧ Fr A0 τ σ2) ∧ (m < 3 → r = m + 1 ∧ Fr (fun a i => a = 186 + m.toNat ∨ (a = 76 ∧ (i = 0 ∨ i = 21 ∨ i = 22))) τ σ2 ∧ rI σ2 76 21 = m + 1 ∧ ∀ p : Int, 0 ≤ p → p < 34 → rI σ2 (186 + m.toNat) p = KV (rI τ) p) ∧ rI σ2 76 0 = 0) hJ hN ?_ (fun r σ1 z => ?_) (fun τ hR hτ => ?_) (fun r r2 σ1 σ2 cp rp => ?_)
  · apply T.int
    apply t_X9_image hJ.1
    obtain ⟨r, σ1, he, rr, z⟩ := s_take (sc := sc) (d := d + 10) hJ.1 hJ.mk em.symm hb.1
    refine ⟨r, σ1, he, ?_, rr, r, rfl, rr, z⟩
    by_cases q : m < 3
    · exact (z.2 q).2.1.g hJ.1
    · rw [(z.1 (by omega)).2]; exact hJ.1
  · by_cases q : m < 3
    · refine ⟨AI m, (z.2 q).2.1, fun x i p y => ?_⟩
      have y1 : (x = 3 ∧ i = 6) ∨ ((x = 4 ∨ x = 5) ∧ i = m) ∨ x = 7 + m.toNat ∨ x = 11 + m.toNat ∨ x = 15 + m.toNat ∨ x = 19 + m.toNat := y
      omega
    · rw [(z.1 (by omega)).2]; exact ⟨fun _ _ => False, Fr.refl _ _, fun _ _ _ y => y⟩
  · exact m_image (sc := sc) (d := d + 9) hR.1 (by rw [hτ 76 21 (by decide) (by decide), hm.1, em]) hb
  · obtain ⟨c1, c2⟩ := cp
    obtain ⟨r1, r3, r0⟩ := rp
    by_cases q3 : m < 3
    · obtain ⟨er, h1, t1, t4, t5, o1⟩ := c2 q3
      obtain ⟨er2, h2, t2, o2⟩ := r3 q3
      have hF := h1.over0 h2
      have no : ∀ (a : Nat) (i : Int), (a < 3 ∨ 21 < a) ∧ (a < 186 ∨ 188 < a) ∧ (a ≠ 76 ∨ (i ≠ 0 ∧ i ≠ 21 ∧ i ≠ 22)) → ¬ (AI m a i ∨ (a = 186 + m.toNat ∨ (a = 76 ∧ (i = 0 ∨ i = 21 ∨ i = 22)))) := fun a i z q => by
        rcases q with q | q
        · have := AI_lo ⟨hb.1, q3⟩ q; omega
        · omega
      have e : ∀ (a : Nat) (i : Int), 0 ≤ i → (a < 3 ∨ 21 < a) ∧ (a < 186 ∨ 188 < a) ∧ (a ≠ 76 ∨ (i ≠ 0 ∧ i ≠ 21 ∧ i ≠ 22)) → rI (ov σ σ2) a i = rI σ a i := fun a i p z => hF.rw p (no a i z)
      have l2 : ∀ (a : Nat) (i : Int), 0 ≤ i → a < 76 → rI (ov σ σ2) a i = rI σ1 a i := fun a i p z => h2.rw p (by show ¬ (a = 186 + m.toNat ∨ (a = 76 ∧ (i = 0 ∨ i = 21 ∨ i = 22))); omega)
      have l1 : ∀ (a : Nat) (i : Int), 0 ≤ i → 76 ≤ a → rI σ1 a i = rI σ a i := fun a i p z => h1.rw p (by show ¬ ((a = 3 ∧ i = 6) ∨ ((a = 4 ∨ a = 5) ∧ i = m) ∨ a = 7 + m.toNat ∨ a = 11 + m.toNat ∨ a = 15 + m.toNat ∨ a = 19 + m.toNat); omega)
      have k1 : rI (ov σ σ2) 3 6 = m + 1 := (l2 3 6 (by decide) (by decide)).trans t1
      have k2 : rI (ov σ σ2) 76 21 = m + 1 := t2
      have o3 : ∀ p : Int, 0 ≤ p → p < 34 → rI (ov σ σ2) (186 + m.toNat) p = KV (rI σ1) p := o2
      refine ⟨by omega, ⟨_, h2⟩, _, hJ.upd0 hF (fun a i z => no a i (by omega)) (fun a i z => no a i (by omega)) (by rw [e u 9 (by decide) (by omega)]; exact hC.2.1.2.2.2) ?_ ?_⟩
      · obtain ⟨s1, s2, s3, s4, s5, s6, s7, s8, s9, s10⟩ := hS
        unfold SC
        rw [k1, k2]
        rw [e 80 5 (by decide) (by omega), e u 7 (by decide) (by omega), e u 8 (by decide) (by omega), e u 9 (by decide) (by omega), e 76 18 (by decide) (by omega), e 76 19 (by decide) (by omega), e 76 20 (by decide) (by omega), e 76 1 (by decide) (by omega), e 76 3 (by decide) (by omega), e 26 12 (by decide) (by omega), e 1 1 (by decide) (by omega), e 1 5 (by decide) (by omega), e 78 0 (by decide) (by omega), e 78 1 (by decide) (by omega), e 0 7 (by decide) (by omega), e 0 8 (by decide) (by omega)]
        refine ⟨s1, s2, s3, s4, ⟨rfl, by omega, by omega⟩, s6, s7, fun k k0 k3 => ?_, by omega, by omega⟩
        rw [e 77 k k0 (by omega), e 2 k k0 (by omega)]; exact s8 k k0 k3
      · intro k k0 k3
        rw [k1] at k3
        by_cases ck : k < m
        · exact (hJ.2.2.2.2.2 k k0 (by omega)).congr k0 (by omega) (fun a i i0 z => hF.rw i0 (fun q => by
            rcases q with q | q
            · exact AI_k ⟨hb.1, q3⟩ ⟨k0, ck⟩ q z
            · clear h1 h2 hF o1 o2 o3 no e l1 l2; omega))
        · have ek : k = m := by omega
          subst ek
          have d18 := hS.2.1
          have d19 := hS.2.2.1
          have w9 := hC.2.1.2.2.2
          have a4 : rI (ov σ σ2) 4 k = rI σ u 8 := (l2 4 k k0 (by decide)).trans t4
          have a5 : rI (ov σ σ2) 5 k = rI σ u 9 := (l2 5 k k0 (by decide)).trans t5
          have hcl := fun i => hJ.cells i
          have b : ∀ i : Int, 0 ≤ i → i < n → rI (ov σ σ2) (7 + k.toNat) i = D 0 i ∧ rI (ov σ σ2) (11 + k.toNat) i = D 1 i ∧ rI (ov σ σ2) (15 + k.toNat) i = D 2 i ∧ rI (ov σ σ2) (19 + k.toNat) i = D 7 i := fun i i0 i1 => by
            obtain ⟨x1, x2, x3, x4⟩ := o1 i i0 (by omega)
            obtain ⟨y1, y2, y3, y4⟩ := hcl i
            exact ⟨(l2 _ _ i0 (by omega)).trans (x1.trans y1), (l2 _ _ i0 (by omega)).trans (x2.trans y2), (l2 _ _ i0 (by omega)).trans (x3.trans y3), (l2 _ _ i0 (by omega)).trans (x4.trans y4)⟩
          refine ⟨⟨?_, ?_⟩, ⟨?_, ?_⟩, fun i i0 i1 => ⟨?_, ?_⟩, fun i j i0 i1 j0 j1 h1 h2 => ?_⟩
          · rw [o3 0 (by decide) (by decide), a4]
            show rI σ1 76 18 = _
            rw [l1 76 18 (by decide) (by decide)]; exact d18.1
          · rw [a4]; exact d18.2
          · rw [o3 1 (by decide) (by decide), a5]
            show rI σ1 76 19 = _
            rw [l1 76 19 (by decide) (by decide)]; exact d19
          · rw [a5]; exact w9
          · obtain ⟨x1, x2, x3, x4⟩ := b i i0 i1
            rw [x1, x2, x3, x4, o3 (2 + 4 * i) (by omega) (by omega), o3 (3 + 4 * i) (by omega) (by omega), o3 (4 + 4 * i) (by omega) (by omega), o3 (5 + 4 * i) (by omega) (by omega), show 2 + 4 * i = 2 + 0 + 4 * i by omega, show 3 + 4 * i = 2 + 1 + 4 * i by omega, show 4 + 4 * i = 2 + 2 + 4 * i by omega, KV_f i0 (by decide), KV_f i0 (by decide), KV_f i0 (by decide), KV_c i0, l1 _ 0 (by decide) (by omega), l1 _ 1 (by decide) (by omega), l1 _ 2 (by decide) (by omega), l1 184 i i0 (by decide)]
            exact ⟨hJ.ref91 (f := 0) (by decide) i0 i1, hJ.ref91 (f := 1) (by decide) i0 i1, hJ.ref91 (f := 2) (by decide) i0 i1, hJ.co i i0 i1⟩
          · obtain ⟨x1, x2, x3, x4⟩ := b i i0 i1
            rw [x1, x2, x3]
            have y := hJ.stb.2 i i0 i1
            have z := hC.2.2.2.2.2.1 i i0 i1
            omega
          · rw [(b i i0 i1).1, (b j j0 j1).1] at h1
            rw [(b i i0 i1).2.1, (b j j0 j1).2.1] at h2
            exact hC.2.2.2.2.1 (D 0 i) (D 1 i) i j ⟨i0, i1, rfl, rfl⟩ ⟨j0, j1, h1.symm, h2.symm⟩
    · obtain ⟨er, h1⟩ := c1 (by omega)
      obtain ⟨er2, h2⟩ := r1 (by omega)
      subst h1
      have h3 : Fr (fun x i => x = 76 ∧ i = 0) σ1 (ov σ1 σ2) := ⟨⟨rfl, rfl, rfl⟩, h2.2⟩
      have e : ∀ (x : Nat) (i : Int), 0 ≤ i → ¬ (x = 76 ∧ i = 0) → rI (ov σ1 σ2) x i = rI σ1 x i := fun x i p z => h3.rw p z
      refine ⟨by omega, ⟨_, h2⟩, _, hJ.upd0 h3 (fun x i z => by omega) (fun x i z => by omega) (by rw [e u 9 (by decide) (by omega)]; exact hC.2.1.2.2.2) ((hS.congr (fun x i p z => e x i p (by omega))).more (by omega)) (hJ.2.2.2.2.2.congr hS.2.2.2.2.1.2.2 (fun x i p z => e x i p (by omega)))⟩
theorem j_restore (hJ : J σ u v n W H D Es Er du fo N) (hN : 0 ≤ N ∧ N ≤ 1000) : JD sc (d + 12) mX9_restore mX10_restore [] σ N := by
  have hC := hJ.2.2.1
  have hmk : u = 39 ∨ u = 60 := hJ.mk
  have hvk := hJ.vk
  have h8 := hC.2.2.1
  have hS := hJ.2.2.2.2.1
  have hm := hS.2.2.2.2.1
  obtain ⟨m, em⟩ : ∃ m : Int, m = rI σ 3 6 := ⟨_, rfl⟩
  have hb : 0 ≤ m ∧ m ≤ 3 := by rw [em]; exact hm.2
  refine JD.gen (CP := fun r σ1 => (m ≤ 0 → r = -1 ∧ σ1 = σ) ∧ (0 < m → r = m - 1 ∧ Fr (AG u) σ σ1 ∧ rI σ1 3 6 = m - 1 ∧ rI σ1 u 8 = rI σ 4 (m - 1) ∧ rI σ1 u 9 = rI σ 5 (m - 1) ∧ ∀ i : Int, 0 ≤ i → i < 9 → rI σ1 (u + 2) i = rI σ (7 + (m - 1).toNat) i ∧ rI σ1 (u + 3) i = rI σ (11 + (m - 1).toNat) i ∧ rI σ1 (u + 4) i = rI σ (15 + (m - 1).toNat) i ∧ rI σ1 (u + 9) i = rI σ (19 + (m - 1).toNat) i)) (RP := fun τ r σ2 => (m = 0 → r = -1 ∧ Fr A0 τ σ2) ∧ (0 < m → r = m - 1 ∧ Fr (fun a i => ARm a i ∨ (a = 76 ∧ (i = 0 ∨ i = 21))) τ σ2 ∧ rI σ2 76 21 = m - 1 ∧ ∀ p : Int, 0 ≤ p → p < 34 → KV (rI σ2) p = rI τ (186 + (m - 1).toNat) p) ∧ rI σ2 76 0 = 0) hJ hN ?_ (fun r σ1 z => ?_) (fun τ hR hτ => ?_) (fun r r2 σ1 σ2 cp rp => ?_)
  · apply T.int
    apply t_X9_restore hJ.1
    obtain ⟨r, σ1, he, rr, z⟩ := s_giveBack (sc := sc) (d := d + 10) hJ.1 hJ.mk em.symm hb.2
    refine ⟨r, σ1, he, ?_, rr, r, rfl, rr, z⟩
    by_cases q : 0 < m
    · exact (z.2 q).2.1.g hJ.1
    · rw [(z.1 (by omega)).2]; exact hJ.1
  · by_cases q : 0 < m
    · refine ⟨AG u, (z.2 q).2.1, fun x i p y => ?_⟩
      have y1 : (x = 3 ∧ i = 6) ∨ (x = u ∧ (i = 8 ∨ i = 9)) ∨ x = u + 2 ∨ x = u + 3 ∨ x = u + 4 ∨ x = u + 9 := y
      omega
    · rw [(z.1 (by omega)).2]; exact ⟨fun _ _ => False, Fr.refl _ _, fun _ _ _ y => y⟩
  · exact m_restore (sc := sc) (d := d + 9) hR.1 (by rw [hτ 76 21 (by decide) (by decide), hm.1, em]) hb
  · obtain ⟨c1, c2⟩ := cp
    obtain ⟨r1, r3, r0⟩ := rp
    by_cases q : 0 < m
    · obtain ⟨er, h1, t1, t4, t5, o1⟩ := c2 q
      obtain ⟨er2, h2, t2, o2⟩ := r3 q
      have hF := h1.over0 h2
      have noL : ∀ (a : Nat) (i : Int), a < 76 → (a ≠ 3 ∨ i ≠ 6) ∧ (a ≠ u ∨ i < 8) ∧ (a < u + 2 ∨ u + 9 < a ∨ (u + 4 < a ∧ a < u + 9)) → ¬ (AG u a i ∨ (ARm a i ∨ (a = 76 ∧ (i = 0 ∨ i = 21)))) := fun a i l z q => by
        rcases q with q | q | q
        · have q1 : (a = 3 ∧ i = 6) ∨ (a = u ∧ (i = 8 ∨ i = 9)) ∨ a = u + 2 ∨ a = u + 3 ∨ a = u + 4 ∨ a = u + 9 := q
          omega
        · have q1 : (a = 76 ∧ (i = 18 ∨ i = 19 ∨ i = 22)) ∨ ((91 ≤ a ∧ a ≤ 98) ∧ 0 ≤ i ∧ i ≤ 2) ∨ a = 184 := q
          omega
        · omega
      have noH : ∀ (a : Nat) (i : Int), 76 ≤ a → (a ≠ 76 ∨ (i ≠ 0 ∧ (i < 18 ∨ 22 < i ∨ i = 20))) ∧ (a < 91 ∨ 98 < a ∨ 2 < i) ∧ a ≠ 184 → ¬ (AG u a i ∨ (ARm a i ∨ (a = 76 ∧ (i = 0 ∨ i = 21)))) := fun a i l z q => by
        rcases q with q | q | q
        · have q1 : (a = 3 ∧ i = 6) ∨ (a = u ∧ (i = 8 ∨ i = 9)) ∨ a = u + 2 ∨ a = u + 3 ∨ a = u + 4 ∨ a = u + 9 := q
          omega
        · have q1 : (a = 76 ∧ (i = 18 ∨ i = 19 ∨ i = 22)) ∨ ((91 ≤ a ∧ a ≤ 98) ∧ 0 ≤ i ∧ i ≤ 2) ∨ a = 184 := q
          omega
        · omega
      have eL : ∀ (a : Nat) (i : Int), 0 ≤ i → a < 76 → (a ≠ 3 ∨ i ≠ 6) ∧ (a ≠ u ∨ i < 8) ∧ (a < u + 2 ∨ u + 9 < a ∨ (u + 4 < a ∧ a < u + 9)) → rI (ov σ σ2) a i = rI σ a i := fun a i p l z => hF.rw p (noL a i l z)
      have eH : ∀ (a : Nat) (i : Int), 0 ≤ i → 76 ≤ a → (a ≠ 76 ∨ (i ≠ 0 ∧ (i < 18 ∨ 22 < i ∨ i = 20))) ∧ (a < 91 ∨ 98 < a ∨ 2 < i) ∧ a ≠ 184 → rI (ov σ σ2) a i = rI σ a i := fun a i p l z => hF.rw p (noH a i l z)
      have l2 : ∀ (a : Nat) (i : Int), 0 ≤ i → a < 76 → rI (ov σ σ2) a i = rI σ1 a i := fun a i p z => h2.rw p (by show ¬ (((a = 76 ∧ (i = 18 ∨ i = 19 ∨ i = 22)) ∨ ((91 ≤ a ∧ a ≤ 98) ∧ 0 ≤ i ∧ i ≤ 2) ∨ a = 184) ∨ (a = 76 ∧ (i = 0 ∨ i = 21))); omega)
      have l1 : ∀ (a : Nat) (i : Int), 0 ≤ i → 76 ≤ a → rI σ1 a i = rI σ a i := fun a i p z => h1.rw p (by show ¬ ((a = 3 ∧ i = 6) ∨ (a = u ∧ (i = 8 ∨ i = 9)) ∨ a = u + 2 ∨ a = u + 3 ∨ a = u + 4 ∨ a = u + 9); omega)
      have k1 : rI (ov σ σ2) 3 6 = m - 1 := (l2 3 6 (by decide) (by decide)).trans t1
      have k2 : rI (ov σ σ2) 76 21 = m - 1 := t2
      have o3 : ∀ p : Int, 0 ≤ p → p < 34 → KV (rI (ov σ σ2)) p = rI σ (186 + (m - 1).toNat) p := fun p p0 p1 => (o2 p p0 p1).trans (l1 _ _ p0 (by omega))
      obtain ⟨⟨i1, i1b⟩, ⟨i2, i2b⟩, i3, i4⟩ := hJ.2.2.2.2.2 (m - 1) (by omega) (by omega)
      have k8 : rI (ov σ σ2) u 8 = rI σ 4 (m - 1) := (l2 u 8 (by decide) (by omega)).trans t4
      have k9 : rI (ov σ σ2) u 9 = rI σ 5 (m - 1) := (l2 u 9 (by decide) (by omega)).trans t5
      have k18 : rI (ov σ σ2) 76 18 = rI σ 4 (m - 1) := (o3 0 (by decide) (by decide)).trans i1
      have k19 : rI (ov σ σ2) 76 19 = rI σ 5 (m - 1) := (o3 1 (by decide) (by decide)).trans i2
      have cD : ∀ i : Int, 0 ≤ i → i < n → Dc (rI (ov σ σ2)) u 0 i = rI σ (7 + (m - 1).toNat) i ∧ Dc (rI (ov σ σ2)) u 1 i = rI σ (11 + (m - 1).toNat) i ∧ Dc (rI (ov σ σ2)) u 2 i = rI σ (15 + (m - 1).toNat) i ∧ Dc (rI (ov σ σ2)) u 7 i = rI σ (19 + (m - 1).toNat) i := fun i i0 i1 => by
        obtain ⟨x1, x2, x3, x4⟩ := o1 i i0 (by omega)
        exact ⟨(l2 (u + 2) i i0 (by omega)).trans x1, (l2 (u + 3) i i0 (by omega)).trans x2, (l2 (u + 4) i i0 (by omega)).trans x3, (l2 (u + 9) i i0 (by omega)).trans x4⟩
      have cO : ∀ i : Int, 0 ≤ i → i < n → Dc (rI (ov σ σ2)) u 3 i = D 3 i ∧ Dc (rI (ov σ σ2)) u 4 i = D 4 i ∧ Dc (rI (ov σ σ2)) u 5 i = D 5 i ∧ Dc (rI (ov σ σ2)) u 6 i = D 6 i := fun i i0 i1 => by
        rw [hC.1]
        exact ⟨eL (u + 5) i i0 (by omega) (by omega), eL (u + 6) i i0 (by omega) (by omega), eL (u + 7) i i0 (by omega) (by omega), eL (u + 8) i i0 (by omega) (by omega)⟩
      have rD : ∀ i : Int, 0 ≤ i → i < n → rI (ov σ σ2) (91 + i.toNat) 0 = rI σ (7 + (m - 1).toNat) i ∧ rI (ov σ σ2) (91 + i.toNat) 1 = rI σ (11 + (m - 1).toNat) i ∧ rI (ov σ σ2) (91 + i.toNat) 2 = rI σ (15 + (m - 1).toNat) i ∧ rI (ov σ σ2) 184 i = rI σ (19 + (m - 1).toNat) i := fun i i0 i1 => by
        obtain ⟨⟨x1, x2, x3, x4⟩, _⟩ := i3 i i0 i1
        rw [← KV_f (m := rI (ov σ σ2)) (f := 0) i0 (by decide), ← KV_f (m := rI (ov σ σ2)) (f := 1) i0 (by decide), ← KV_f (m := rI (ov σ σ2)) (f := 2) i0 (by decide), ← KV_c (m := rI (ov σ σ2)) i0, o3 _ (by omega) (by omega), o3 _ (by omega) (by omega), o3 _ (by omega) (by omega), o3 _ (by omega) (by omega), show 2 + 0 + 4 * i = 2 + 4 * i by omega, show 2 + 1 + 4 * i = 3 + 4 * i by omega, show 2 + 2 + 4 * i = 4 + 4 * i by omega]
        exact ⟨x1, x2, x3, x4⟩
      refine ⟨by omega, ⟨_, h2⟩, _, hJ.upd hF (fun a i z => noL a i (by omega) (by omega)) (fun a i z => noH a i (by omega) (by omega)) (by rw [k9]; exact i2b) ?_ ?_ ?_ ?_ ?_ (fun i i0 i1 => ?_) ?_ ?_⟩
      · intro f i hf i0 i1
        rw [Dm_at (by omega)]
        obtain ⟨x0, x1, x2, x7⟩ := cD i i0 i1
        obtain ⟨y0, y1, y2, y7⟩ := rD i i0 i1
        obtain ⟨z3, z4, z5, z6⟩ := cO i i0 i1
        have o : ∀ g : Nat, 3 ≤ g → g ≤ 6 → rI (ov σ σ2) (91 + i.toNat) g = D g i := fun g g0 g1 => (eH _ _ (by omega) (by omega) (by omega)).trans (hJ.ref91 g1 i0 i1)
        by_cases f0 : f = 0
        · subst f0; rw [x0]; exact y0
        · by_cases f1 : f = 1
          · subst f1; rw [x1]; exact y1
          · by_cases f2 : f = 2
            · subst f2; rw [x2]; exact y2
            · rw [o f (by omega) hf]
              by_cases f3 : f = 3
              · subst f3; rw [z3]
              · by_cases f4 : f = 4
                · subst f4; rw [z4]
                · by_cases f5 : f = 5
                  · subst f5; rw [z5]
                  · have f6 : f = 6 := by omega
                    subst f6; rw [z6]
      · refine ⟨by omega, fun i i0 i1 => ?_⟩
        obtain ⟨x0, x1, x2, x7⟩ := cD i i0 i1
        obtain ⟨z3, z4, z5, z6⟩ := cO i i0 i1
        rw [x0, x1, x2, z3, z6]
        have y := hJ.stb.2 i i0 i1
        have z := (i3 i i0 i1).2
        have w := hC.2.2.2.2.2.2.2.1
        omega
      · intro i i0 i1
        obtain ⟨z3, z4, z5, z6⟩ := cO i i0 i1
        rw [z4, z5]; exact hC.2.2.2.1 i i0 i1
      · intro x y i j hi hj
        obtain ⟨a0, a1, a2, a3⟩ := hi
        obtain ⟨b0, b1, b2, b3⟩ := hj
        rw [(cD i a0 a1).1] at a2
        rw [(cD i a0 a1).2.1] at a3
        rw [(cD j b0 b1).1] at b2
        rw [(cD j b0 b1).2.1] at b3
        exact i4 i j a0 a1 b0 b1 (a2.trans b2.symm) (a3.trans b3.symm)
      · intro i i0 i1
        rw [(cD i i0 i1).1, (cD i i0 i1).2.1]
        have z := (i3 i i0 i1).2
        omega
      · rw [(rD i i0 i1).2.2.2, (cD i i0 i1).2.2.2]
      · obtain ⟨s1, s2, s3, s4, s5, s6, s7, s8, s9, s10⟩ := hS
        unfold SC
        rw [k1, k2, k8, k9, k18, k19]
        rw [eH 80 5 (by decide) (by omega) (by omega), eL u 7 (by decide) (by omega) (by omega), eH 76 20 (by decide) (by omega) (by omega), eH 76 1 (by decide) (by omega) (by omega), eH 76 3 (by decide) (by omega) (by omega), eL 26 12 (by decide) (by omega) (by omega), eL 1 1 (by decide) (by omega) (by omega), eL 1 5 (by decide) (by omega) (by omega), eH 78 0 (by decide) (by omega) (by omega), eH 78 1 (by decide) (by omega) (by omega), eL 0 7 (by decide) (by omega) (by omega), eL 0 8 (by decide) (by omega) (by omega)]
        refine ⟨s1, ⟨rfl, i1b⟩, rfl, s4, ⟨rfl, by omega, by omega⟩, s6, s7, fun k k0 k3 => ?_, by omega, by omega⟩
        rw [eH 77 k k0 (by decide) (by omega), eL 2 k k0 (by decide) (by omega)]; exact s8 k k0 k3
      · intro k k0 k3
        rw [k1] at k3
        have ee : ∀ (a : Nat) (i : Int), 0 ≤ i → (4 ≤ a ∧ a ≤ 21) ∨ (186 ≤ a ∧ a ≤ 188) → rI (ov σ σ2) a i = rI σ a i := fun a i i0 z => by
          rcases z with z | z
          · exact eL a i i0 (by omega) (by omega)
          · exact eH a i i0 (by omega) (by omega)
        exact (hJ.2.2.2.2.2 k k0 (by omega)).congr k0 (by omega) (fun a i i0 z => ee a i i0 (by clear noL noH eL eH l1 l2 o1 o2 o3 cD cO rD ee hF h1 h2; omega))
    · obtain ⟨er, h1⟩ := c1 (by omega)
      obtain ⟨er2, h2⟩ := r1 (by omega)
      subst h1
      have h3 : Fr (fun x i => x = 76 ∧ i = 0) σ1 (ov σ1 σ2) := ⟨⟨rfl, rfl, rfl⟩, h2.2⟩
      have e : ∀ (x : Nat) (i : Int), 0 ≤ i → ¬ (x = 76 ∧ i = 0) → rI (ov σ1 σ2) x i = rI σ1 x i := fun x i p z => h3.rw p z
      refine ⟨by omega, ⟨_, h2⟩, _, hJ.upd0 h3 (fun x i z => by omega) (fun x i z => by omega) (by rw [e u 9 (by decide) (by omega)]; exact hC.2.1.2.2.2) ((hS.congr (fun x i p z => e x i p (by omega))).more (by omega)) (hJ.2.2.2.2.2.congr hS.2.2.2.2.1.2.2 (fun x i p z => e x i p (by omega)))⟩
end
