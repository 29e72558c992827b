/-! THE REFERENCE: tall, cold, told, stall, move. -/
section
variable {sc : Nat × (Nat → Int32)} {d : Nat} {σ : aH} {u : Nat} {n W H : Int} {D : Nat → Int → Int} {Es Er : Nat → Option Int} {K : Int} {fr va : Int → Int} {du fo g : Int}
theorem m_pre0 {σ1 : aH} (hG : G σ u) (e1 : wI σ 76 0 0 = σ1) : G σ1 u ∧ rI σ1 76 0 = 0 ∧ Fr A0 σ σ1 ∧ Dm (rI σ1) = Dm (rI σ) ∧ (∀ (a : Nat) (i : Int), a ≠ 76 ∨ 0 < i → rI σ1 a i = rI σ a i) := by
  have hF : Fr A0 σ σ1 := by rw [← e1]; exact Fr.w (by omega) ⟨rfl, rfl⟩
  refine ⟨hF.g hG, by rw [← e1]; exact rI_ww (by decide), hF, by rw [← e1]; exact Dm_o (by omega), fun a i z => ?_⟩
  rw [← e1]
  by_cases c : a = 76
  · exact rI_wi (by omega)
  · exact rI_wa c
theorem m_tall {x h : Int} (hG : G σ u) (hD : D = Dm (rI σ)) (h2 : rI σ 80 2 = n) (h9 : 0 ≤ n ∧ n ≤ 9) (rx : inR x) (rh : inR h) (hc : Rc σ) : TI sc (d + 3) mX10_tall [.ref 76, .int (nZ x), .int (nZ h)] σ (OB2 σ (0 ≤ x ∧ x < n) 1 0 (0 ≤ h ∧ h ≤ 60) 2 1 (fun r σ1 => Fr (fun a i => (91 ≤ a ∧ a ≤ 99) ∨ (a = 76 ∧ i = 0)) σ σ1 ∧ rI σ1 76 0 = 0 ∧ Dm (rI σ1) = Dset D 2 x h ∧ r = D 2 x)) := by
  apply T.int
  apply t_X10_tall hG rx rh
  intro σ1 e1
  obtain ⟨hG1, t1, hF1, hD1, o1⟩ := m_pre0 hG e1
  obtain ⟨r4, σ4, he4, hr4, e4, hx⟩ := m_isStall (sc := sc) (d := d) (x := x) hG1 ((o1 80 2 (by omega)).trans h2) h9 rx
  subst e4
  obtain ⟨σ3, he3, hm3⟩ := m_bad1 (sc := sc) (d := d + 1) (w := 1) (q := 0) hG1 t1 (by omega) (by omega) ((hc.pre e1) 0 (by omega))
  obtain ⟨σ5, he5, hm5⟩ := m_bad1 (sc := sc) (d := d + 1) (w := 2) (q := 1) hG1 t1 (by omega) (by omega) ((hc.pre e1) 1 (by omega))
  obtain ⟨r6, σ6, he6, hr6, e6, hx6⟩ := m_in (sc := sc) (d := d + 1) (x := h) (lo := 0) (hi := 60) hG1 rh (by decide) (by decide)
  subst e6
  refine ⟨r4, σ6, he4, hG1, hr4, fun q => ?_, fun q => ?_⟩
  · apply v_X10_tall_19 hG1 rx rh (by decide)
    refine ⟨0, σ6, m_bad0 hG1 t1 (by decide) (by decide), hG1, by decide, fun z => absurd rfl z, fun _ => ⟨r6, σ6, he6, hG1, hr6, fun q1 => ?_, fun q1 => ?_⟩⟩
    · apply v_X10_tall_43 hG1 rx rh (by decide)
      refine ⟨0, σ6, m_bad0 hG1 t1 (by decide) (by decide), hG1, by decide, fun _ => ⟨by omega, fun z7 e7 => ⟨by omega, fun σ11 e11 => ⟨z7, rfl, by rw [e7]; exact rI_R _ _ _, Or.inl ⟨by omega, Or.inl ⟨by omega, ?_, ?_, ?_, ?_⟩⟩⟩⟩⟩, fun z => absurd rfl z⟩
      · rw [← e11]; exact (hF1.weak (fun a i z => Or.inr z)).trans (Fr.w (by omega) (Or.inl ⟨by omega, by omega⟩))
      · rw [← e11, rI_wa (by omega)]; exact t1
      · rw [hD, ← hD1, ← e11]; exact Dm_w (f := 2) (by omega) rh
      · rw [e7, hD, ← hD1]; exact (Dm_at (by omega)).symm
    · apply v_X10_tall_43 hG1 rx rh (by decide)
      exact ⟨1, σ5, he5, hm5.g hG1, by decide, fun z => absurd z (by decide), fun _ => ⟨0, rfl, by decide, Or.inl ⟨by omega, Or.inr ⟨by omega, rfl, hm5.pre e1⟩⟩⟩⟩
  · apply v_X10_tall_19 hG1 rx rh (by decide)
    exact ⟨1, σ3, he3, hm3.g hG1, by decide, fun _ => ⟨0, rfl, by decide, Or.inr ⟨by omega, rfl, hm3.pre e1⟩⟩, fun z => absurd z (by decide)⟩
theorem m_cold {x h : Int} (hG : G σ u) (h2 : rI σ 80 2 = n) (h9 : 0 ≤ n ∧ n ≤ 8) (rx : inR x) (rh : inR h) (hc : Rc σ) : TI sc (d + 3) mX10_cold [.ref 76, .int (nZ x), .int (nZ h)] σ (OB2 σ (0 ≤ x ∧ x < n) 1 0 (-1 ≤ h ∧ h ≤ 1440) 2 1 (fun r σ1 => Fr (fun a i => (a = 184 ∧ i = x) ∨ (a = 76 ∧ i = 0)) σ σ1 ∧ rI σ1 76 0 = 0 ∧ rI σ1 184 x = h ∧ r = rI σ 184 x)) := by
  apply T.int
  apply t_X10_cold hG rx rh
  intro σ1 e1
  obtain ⟨hG1, t1, hF1, hD1, o1⟩ := m_pre0 hG e1
  obtain ⟨r4, σ4, he4, hr4, e4, hx⟩ := m_isStall (sc := sc) (d := d) (x := x) hG1 ((o1 80 2 (by omega)).trans h2) (by omega) rx
  subst e4
  obtain ⟨σ3, he3, hm3⟩ := m_bad1 (sc := sc) (d := d + 1) (w := 1) (q := 0) hG1 t1 (by omega) (by omega) ((hc.pre e1) 0 (by omega))
  obtain ⟨σ5, he5, hm5⟩ := m_bad1 (sc := sc) (d := d + 1) (w := 2) (q := 1) hG1 t1 (by omega) (by omega) ((hc.pre e1) 1 (by omega))
  obtain ⟨r6, σ6, he6, hr6, e6, hx6⟩ := m_in (sc := sc) (d := d + 1) (x := h) (lo := -1) (hi := 1440) hG1 rh (by decide) (by decide)
  subst e6
  refine ⟨r4, σ6, he4, hG1, hr4, fun q => ?_, fun q => ?_⟩
  · apply v_X10_cold_19 hG1 rx rh (by decide)
    refine ⟨0, σ6, m_bad0 hG1 t1 (by decide) (by decide), hG1, by decide, fun z => absurd rfl z, fun _ => ⟨r6, σ6, he6, hG1, hr6, fun q1 => ?_, fun q1 => ?_⟩⟩
    · apply v_X10_cold_44 hG1 rx rh (by decide)
      refine ⟨0, σ6, m_bad0 hG1 t1 (by decide) (by decide), hG1, by decide, fun _ => ⟨by omega, fun z7 e7 => ⟨by omega, fun σ11 e11 => ⟨z7, rfl, by rw [e7]; exact rI_R _ _ _, Or.inl ⟨by omega, Or.inl ⟨by omega, ?_, ?_, ?_, ?_⟩⟩⟩⟩⟩, fun z => absurd rfl z⟩
      · rw [← e11]; exact (hF1.weak (fun a i z => Or.inr z)).trans (Fr.w (by omega) (Or.inl ⟨rfl, rfl⟩))
      · rw [← e11, rI_wa (by omega)]; exact t1
      · rw [← e11]; exact rI_ww rh
      · rw [e7]; exact o1 184 x (by omega)
    · apply v_X10_cold_44 hG1 rx rh (by decide)
      exact ⟨1, σ5, he5, hm5.g hG1, by decide, fun z => absurd z (by decide), fun _ => ⟨0, rfl, by decide, Or.inl ⟨by omega, Or.inr ⟨by omega, rfl, hm5.pre e1⟩⟩⟩⟩
  · apply v_X10_cold_19 hG1 rx rh (by decide)
    exact ⟨1, σ3, he3, hm3.g hG1, by decide, fun _ => ⟨0, rfl, by decide, Or.inr ⟨by omega, rfl, hm3.pre e1⟩⟩, fun z => absurd z (by decide)⟩
def toldV (m : Nat → Int → Int) (x : Int) : Int := if x < 3 then m 80 x else if x = 3 then m 76 18 else if x = 4 then m 76 19 else m 80 (x - 2)
theorem m_told {x : Int} (hG : G σ u) (rx : inR x) (hc : Rc σ) : TI sc (d + 2) mX10_told [.ref 76, .int (nZ x)] σ (OB σ (0 ≤ x ∧ x ≤ 7) 1 1 (fun r σ1 => Fr A0 σ σ1 ∧ rI σ1 76 0 = 0 ∧ r = toldV (rI σ) x)) := by
  apply T.int
  apply t_X10_told hG rx
  intro σ1 e1
  obtain ⟨hG1, t1, hF1, hD1, o1⟩ := m_pre0 hG e1
  obtain ⟨r6, σ6, he6, hr6, e6, hx6⟩ := m_in (sc := sc) (d := d) (x := x) (lo := 0) (hi := 7) hG1 rx (by decide) (by decide)
  subst e6
  obtain ⟨σ5, he5, hm5⟩ := m_bad1 (sc := sc) (d := d) (w := 1) (q := 1) hG1 t1 (by omega) (by omega) ((hc.pre e1) 1 (by omega))
  refine ⟨r6, σ6, he6, hG1, hr6, fun q => ?_, fun q => ?_⟩
  · apply v_X10_told_21 hG1 rx (by decide)
    refine ⟨0, σ6, m_bad0 hG1 t1 (by decide) (by decide), hG1, by decide, fun _ => ⟨fun q1 => ⟨fun q2 => ⟨fun q3 => ⟨by omega, by omega, _, rfl, rI_R _ _ _, Or.inl ⟨by omega, hF1, t1, ?_⟩⟩, fun q3 => ⟨_, rfl, rI_R _ _ _, Or.inl ⟨by omega, hF1, t1, ?_⟩⟩⟩, fun q2 => ⟨_, rfl, rI_R _ _ _, Or.inl ⟨by omega, hF1, t1, ?_⟩⟩⟩, fun q1 => ⟨by omega, _, rfl, rI_R _ _ _, Or.inl ⟨by omega, hF1, t1, ?_⟩⟩⟩, fun z => absurd rfl z⟩
    · unfold toldV; rw [if_neg (by omega), if_neg q2, if_neg q3]; exact o1 _ _ (by omega)
    · unfold toldV; rw [if_neg (by omega), if_neg q2, if_pos q3]; exact o1 _ _ (by omega)
    · unfold toldV; rw [if_neg (by omega), if_pos q2]; exact o1 _ _ (by omega)
    · unfold toldV; rw [if_pos (by omega)]; exact o1 _ _ (by omega)
  · apply v_X10_told_21 hG1 rx (by decide)
    exact ⟨1, σ5, he5, hm5.g hG1, by decide, fun z => absurd z (by decide), fun _ => ⟨0, rfl, by decide, Or.inr ⟨by omega, rfl, hm5.pre e1⟩⟩⟩
theorem m_stall {x f : Int} (hG : G σ u) (hD : D = Dm (rI σ)) (h2 : rI σ 80 2 = n) (h9 : 0 ≤ n ∧ n ≤ 9) (rx : inR x) (rf : inR f) (hc : Rc σ) : TI sc (d + 3) mX10_stall [.ref 76, .int (nZ x), .int (nZ f)] σ (OB2 σ (0 ≤ x ∧ x < n) 1 0 (0 ≤ f ∧ f ≤ 6) 2 1 (fun r σ1 => Fr A0 σ σ1 ∧ rI σ1 76 0 = 0 ∧ r = D f.toNat x)) := by
  apply T.int
  apply t_X10_stall hG rx rf
  intro σ1 e1
  obtain ⟨hG1, t1, hF1, hD1, o1⟩ := m_pre0 hG e1
  obtain ⟨r4, σ4, he4, hr4, e4, hx⟩ := m_isStall (sc := sc) (d := d) (x := x) hG1 ((o1 80 2 (by omega)).trans h2) h9 rx
  subst e4
  obtain ⟨σ3, he3, hm3⟩ := m_bad1 (sc := sc) (d := d + 1) (w := 1) (q := 0) hG1 t1 (by omega) (by omega) ((hc.pre e1) 0 (by omega))
  obtain ⟨σ5, he5, hm5⟩ := m_bad1 (sc := sc) (d := d + 1) (w := 2) (q := 1) hG1 t1 (by omega) (by omega) ((hc.pre e1) 1 (by omega))
  obtain ⟨r6, σ6, he6, hr6, e6, hx6⟩ := m_in (sc := sc) (d := d + 1) (x := f) (lo := 0) (hi := 6) hG1 rf (by decide) (by decide)
  subst e6
  refine ⟨r4, σ6, he4, hG1, hr4, fun q => ?_, fun q => ?_⟩
  · apply v_X10_stall_19 hG1 rx rf (by decide)
    refine ⟨0, σ6, m_bad0 hG1 t1 (by decide) (by decide), hG1, by decide, fun z => absurd rfl z, fun _ => ⟨r6, σ6, he6, hG1, hr6, fun q1 => ⟨0, σ6, m_bad0 hG1 t1 (by decide) (by decide), hG1, by decide, fun _ => ⟨by omega, by omega, _, rfl, rI_R _ _ _, Or.inl ⟨by omega, Or.inl ⟨by omega, hF1, t1, ?_⟩⟩⟩, fun z => absurd rfl z⟩, fun q1 => ⟨1, σ5, he5, hm5.g hG1, by decide, fun z => absurd z (by decide), fun _ => ⟨0, rfl, by decide, Or.inl ⟨by omega, Or.inr ⟨by omega, rfl, hm5.pre e1⟩⟩⟩⟩⟩⟩
    rw [hD, ← hD1, Dm_at (by omega), show ((f.toNat : Nat) : Int) = f by omega]
  · apply v_X10_stall_19 hG1 rx rf (by decide)
    exact ⟨1, σ3, he3, hm3.g hG1, by decide, fun _ => ⟨0, rfl, by decide, Or.inr ⟨by omega, rfl, hm3.pre e1⟩⟩, fun z => absurd z (by decide)⟩
theorem m_move {s x y : Int} (hG : G σ u) (hM : Mf σ n (-1) W H D Es Er K fr va du fo) (h2 : rI σ 80 2 = n) (rs : inR s) (rx : inR x) (ry : inR y) (hc : Rc σ) : TI sc (d + 3) mX10_move [.ref 76, .int (nZ s), .int (nZ x), .int (nZ y)] σ (OB2 σ (0 ≤ s ∧ s < n) 1 0 ((0 ≤ x ∧ x < W) ∧ (0 ≤ y ∧ y < H)) 2 1 (fun r σ1 => Fr (fun a i => (91 ≤ a ∧ a ≤ 99) ∨ (a = 76 ∧ i = 0)) σ σ1 ∧ rI σ1 76 0 = 0 ∧ ((r = 0 ∧ (∃ k : Int, At D n x y k) ∧ Dm (rI σ1) = D) ∨ (r = 1 ∧ (∀ k : Int, ¬ At D n x y k) ∧ Dm (rI σ1) = Dput D s x y)))) := by
  have h9 := hM.1.1.2.1
  have hWH := hM.1.2.2.2.2.2.2.1
  apply T.int
  apply t_X10_move hG rs rx ry
  intro σ1 e1
  obtain ⟨hG1, t1, hF1, hM1, o1⟩ := m_pre hG hM e1
  have hW1 := hM1.1.2.2.2.2.2.1.1
  have hH1 := hM1.1.2.2.2.2.2.1.2
  obtain ⟨r4, σ4, he4, hr4, e4, hx⟩ := m_isStall (sc := sc) (d := d) (x := s) hG1 ((o1 80 2 (by omega)).trans h2) h9 rs
  subst e4
  obtain ⟨σ3, he3, hm3⟩ := m_bad1 (sc := sc) (d := d + 1) (w := 1) (q := 0) hG1 t1 (by omega) (by omega) ((hc.pre e1) 0 (by omega))
  obtain ⟨σ5, he5, hm5⟩ := m_bad1 (sc := sc) (d := d + 1) (w := 2) (q := 1) hG1 t1 (by omega) (by omega) ((hc.pre e1) 1 (by omega))
  obtain ⟨r6, σ6, he6, hr6, e6, hx6⟩ := m_in (sc := sc) (d := d + 1) (x := x) (lo := 0) (hi := W - 1) hG1 rx (by decide) (by omega)
  subst e6
  obtain ⟨r7, σ7, he7, hr7, e7, hx7⟩ := m_in (sc := sc) (d := d + 1) (x := y) (lo := 0) (hi := H - 1) hG1 ry (by decide) (by omega)
  subst e7
  obtain ⟨P, hP⟩ : ∃ P : aO → aH → Prop, P = QI (OB2 σ (0 ≤ s ∧ s < n) 1 0 ((0 ≤ x ∧ x < W) ∧ (0 ≤ y ∧ y < H)) 2 1 (fun r σ1 => Fr (fun a i => (91 ≤ a ∧ a ≤ 99) ∨ (a = 76 ∧ i = 0)) σ σ1 ∧ rI σ1 76 0 = 0 ∧ ((r = 0 ∧ (∃ k : Int, At D n x y k) ∧ Dm (rI σ1) = D) ∨ (r = 1 ∧ (∀ k : Int, ¬ At D n x y k) ∧ Dm (rI σ1) = Dput D s x y)))) := ⟨_, rfl⟩
  rw [← hP]
  have bad : (0 ≤ s ∧ s < n) → ¬ ((0 ≤ x ∧ x < W) ∧ (0 ≤ y ∧ y < H)) → L_X10_move_65 (Ev sc (d + 2)) sc P s x y 1 σ7 := by
    intro ok nok
    apply v_X10_move_65 hG1 rs rx ry (by decide)
    rw [hP]
    exact ⟨1, σ5, he5, hm5.g hG1, by decide, fun z => absurd z (by decide), fun _ => ⟨0, rfl, by decide, Or.inl ⟨ok, Or.inr ⟨nok, rfl, hm5.pre e1⟩⟩⟩⟩
  refine ⟨r4, σ7, he4, hG1, hr4, fun q => ?_, fun q => ?_⟩
  · apply v_X10_move_19 hG1 rs rx ry (by decide)
    refine ⟨0, σ7, m_bad0 hG1 t1 (by decide) (by decide), hG1, by decide, fun z => absurd rfl z, fun _ => ?_⟩
    rw [hW1]
    refine ⟨by omega, r6, σ7, he6, hG1, hr6, fun q1 => bad (by omega) (by omega), fun q1 => ?_⟩
    rw [hH1]
    refine ⟨by omega, r7, σ7, he7, hG1, hr7, fun q2 => ?_, fun q2 => bad (by omega) (by omega)⟩
    obtain ⟨r8, σ8, he8, hr8, e8, hx8⟩ := m_stallOn (sc := sc) (d := d) (x := x) (y := y) hG1 hM1.1.1 rx ry
    subst e8
    rw [← hM1.1.2.1] at hx8
    apply v_X10_move_65 hG1 rs rx ry (by decide)
    refine ⟨0, σ8, m_bad0 hG1 t1 (by decide) (by decide), hG1, by decide, fun _ => ⟨r8, σ8, he8, hG1, hr8, fun q3 => ⟨by omega, fun σ12 e12 => ⟨by omega, fun σ16 e16 => ?_⟩⟩, fun q3 => ?_⟩, fun z => absurd rfl z⟩
    · rw [hP]
      refine ⟨1, rfl, by decide, Or.inl ⟨by omega, Or.inl ⟨by omega, ?_, ?_, Or.inr ⟨rfl, fun k hk => ?_, ?_⟩⟩⟩⟩
      · rw [← e16, ← e12]; exact ((hF1.weak (fun a i z => Or.inr z)).trans (Fr.w (by omega) (Or.inl ⟨by omega, by omega⟩))).trans (Fr.w (by omega) (Or.inl ⟨by omega, by omega⟩))
      · rw [← e16, ← e12, rI_wa (by omega), rI_wa (by omega)]; exact t1
      · rcases hx8 with ⟨_, b⟩ | ⟨⟨a, _⟩, _⟩
        · exact b k (by have := hk.1; omega) hk
        · have := a.1; omega
      · have a1 : Dm (rI σ12) = Dset D 0 s x := by rw [hM1.1.2.1, ← e12]; exact Dm_w (f := 0) (by omega) rx
        have a2 : Dm (rI σ16) = Dset (Dm (rI σ12)) 1 s y := by rw [← e16]; exact Dm_w (f := 1) (by omega) ry
        rw [a2, a1]; rfl
    · rw [hP]
      refine ⟨0, rfl, by decide, Or.inl ⟨by omega, Or.inl ⟨by omega, hF1.weak (fun a i z => Or.inr z), t1, Or.inl ⟨rfl, ?_, hM1.1.2.1.symm⟩⟩⟩⟩
      rcases hx8 with ⟨a, _⟩ | ⟨⟨a, _⟩, _⟩
      · exact absurd a q3
      · exact ⟨r8, a⟩
  · apply v_X10_move_19 hG1 rs rx ry (by decide)
    rw [hP]
    exact ⟨1, σ3, he3, hm3.g hG1, by decide, fun _ => ⟨0, rfl, by decide, Or.inr ⟨by omega, rfl, hm3.pre e1⟩⟩, fun z => absurd z (by decide)⟩
end
