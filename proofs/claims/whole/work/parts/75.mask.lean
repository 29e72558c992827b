/-! THE REFERENCE: asked aright or refused; the plain questions. -/
abbrev AGz : Nat → Int → Prop := fun a i => AGo a i ∨ (a = 76 ∧ i = 0)
theorem AGz_no (a : Nat) (i : Int) (h : a < 76 ∨ (76 < a ∧ a < 261) ∨ 313 < a ∨ (a = 76 ∧ 0 < i ∧ i < 36)) : ¬ AGz a i := by
  show ¬ (((261 ≤ a ∧ a ≤ 313) ∨ (a = 76 ∧ (i = 36 ∨ i = 37))) ∨ (a = 76 ∧ i = 0)); omega
def Rc (σ : aH) : Prop := ∀ q : Int, (q = 0 ∨ q = 1) → 0 ≤ rI σ 78 q ∧ rI σ 78 q ≤ 1000000
theorem Rc.pre {σ σ1 : aH} (h : Rc σ) (e : wI σ 76 0 0 = σ1) : Rc σ1 := fun q z => by rw [← e, rI_wa (by decide)]; exact h q z
/-- asked aright, or refused -/
def OB (σ : aH) (ok : Prop) (w q : Int) (Good : Int → aH → Prop) (r : Int) (σ1 : aH) : Prop := (ok ∧ Good r σ1) ∨ (¬ ok ∧ r = 0 ∧ MRef σ σ1 w q)
def OB2 (σ : aH) (o1 : Prop) (w1 q1 : Int) (o2 : Prop) (w2 q2 : Int) (Good : Int → aH → Prop) (r : Int) (σ1 : aH) : Prop := OB σ o1 w1 q1 (OB σ o2 w2 q2 Good) r σ1
theorem MRef.pre {σ σ1 σ2 : aH} {w q : Int} (h : MRef σ1 σ2 w q) (e : wI σ 76 0 0 = σ1) : MRef σ σ2 w q := by
  refine ⟨?_, h.2.1, ?_⟩
  · refine Fr.trans ?_ h.1
    rw [← e]; exact Fr.w (by omega) (Or.inl ⟨rfl, rfl⟩)
  · rw [h.2.2, ← e, rI_wa (by decide)]
theorem MRef.g {σ σ1 : aH} {w q : Int} {u : Nat} (h : MRef σ σ1 w q) (hG : G σ u) : G σ1 u := h.1.g hG
theorem Tot_fa {fa fb : Int → Int → Int → Prop} {la S F F1 : Int → Int} {n g : Int} (h : ∀ i j s : Int, 0 ≤ i → i < n → 0 ≤ j → j < n → (fa i j s ↔ fb i j s)) : Tot fa la S F F1 n g = Tot fb la S F F1 n g :=
  sm_congr (fun i i0 i1 => sm_congr (fun j j0 j1 => by rw [Prc_congr (fun s => h i j s i0 (by omega) j0 (by omega)) rfl]))
theorem GoS.fa {σ : aH} {fa fb : Int → Int → Int → Prop} {la S R : Int → Int} {du n : Int} {fr : Int → Int} {K : Int} {Es : Nat → Option Int} (h : ∀ i j s : Int, 0 ≤ i → i < n → 0 ≤ j → j < n → (fa i j s ↔ fb i j s)) (hg : GoS σ fa la S R du n fr K Es) : GoS σ fb la S R du n fr K Es := by
  have hA : ∀ j b s : Int, 0 ≤ j → j < n → (Any fa n j b s ↔ Any fb n j b s) := fun j b s j0 j1 => ⟨fun ⟨k, a, b, c, e⟩ => ⟨k, a, b, c, (h k j s a b j0 j1).mp e⟩, fun ⟨k, a, b, c, e⟩ => ⟨k, a, b, c, (h k j s a b j0 j1).mpr e⟩⟩
  obtain ⟨h1, h2, h3, h4, h5, h6⟩ := hg
  refine ⟨fun i j i0 i1 j0 j1 => ?_, fun j j0 j1 => ?_, ?_, ?_, fun k k0 k1 => ?_, fun k k0 k1 => ?_⟩
  · obtain ⟨a, b, c⟩ := h1 i j i0 i1 j0 j1
    refine ⟨a.trans (Prc_congr (fun s => h i j s i0 i1 j0 j1) rfl), b.trans (Fsm_congr (fun s => h i j s i0 i1 j0 j1)), c.trans ?_⟩
    exact sm_congr (fun t _ _ => cif_congr (and_congr (h i j _ i0 i1 j0 j1) (not_congr (hA j i _ j0 j1))))
  · exact (h2 j j0 j1).trans (sm_congr (fun t _ _ => cif_congr (hA j _ _ j0 j1)))
  · exact h3.trans (Tot_fa h)
  · exact h4.trans (sm_congr (fun i i0 i1 => sm_congr (fun j j0 j1 => by rw [Fsm_congr (fun s => h i j s i0 (by omega) j0 (by omega))])))
  · exact (h5 k k0 k1).trans (Tot_fa h)
  · exact (h6 k k0 k1).trans (Tot_fa h)
section
variable {sc : Nat × (Nat → Int32)} {d : Nat} {σ : aH} {u : Nat} {n W H : Int} {D : Nat → Int → Int} {Es Er : Nat → Option Int} {K : Int} {fr va : Int → Int} {du fo g : Int}
theorem m_bad {s w q : Int} (hG : G σ u) (h : rI σ 76 0 = 0) (hs : s = 0 ∨ s = 1) (hw : w = 1 ∨ w = 2) (hq : q = 0 ∨ q = 1) (hc : Rc σ) : TI sc (d + 1) mX10_bad [.ref 76, .int (nZ s), .int (nZ w), .int (nZ q)] σ (fun r σ1 => r = s ∧ ((s = 0 ∧ σ1 = σ) ∨ (s = 1 ∧ MRef σ σ1 w q))) := by
  rcases hs with e | e
  · subst e
    exact ⟨0, σ, m_bad0 hG h (by omega) (by omega), by decide, rfl, Or.inl ⟨rfl, rfl⟩⟩
  · subst e
    obtain ⟨σ1, he, hm⟩ := m_bad1 (sc := sc) (d := d) hG h hw hq (hc q hq)
    exact ⟨1, σ1, he, by decide, rfl, Or.inr ⟨rfl, hm⟩⟩
theorem m_isStall {x : Int} (hG : G σ u) (h2 : rI σ 80 2 = n) (h9 : 0 ≤ n ∧ n ≤ 9) (rx : inR x) : TI sc (d + 2) mX10_isStall [.ref 76, .int (nZ x)] σ (fun r σ1 => σ1 = σ ∧ ((r = 1 ∧ (0 ≤ x ∧ x < n)) ∨ (r = 0 ∧ ¬ (0 ≤ x ∧ x < n)))) := by
  obtain ⟨r, σ1, he, hr, e, hx⟩ := m_in (sc := sc) (d := d) (x := x) (lo := 0) (hi := n - 1) hG rx (by decide) (by omega)
  subst e
  apply T.int
  apply t_X10_isStall hG rx
  rw [h2]
  exact ⟨by omega, r, σ1, he, hG, hr, by omega, r, rfl, hr, rfl, by omega⟩
theorem m_isTill {x : Int} (hG : G σ u) (rx : inR x) : TI sc (d + 2) mX10_isTill [.int (nZ x)] σ (fun r σ1 => σ1 = σ ∧ ((r = 1 ∧ (0 ≤ x ∧ x ≤ 1440)) ∨ (r = 0 ∧ ¬ (0 ≤ x ∧ x ≤ 1440)))) := by
  obtain ⟨r, σ1, he, hr, e, hx⟩ := m_in (sc := sc) (d := d) (x := x) (lo := 0) (hi := 1440) hG rx (by decide) (by decide)
  subst e
  apply T.int
  apply t_X10_isTill hG rx
  exact ⟨r, σ1, he, hG, hr, by omega, r, rfl, hr, rfl, hx⟩
theorem m_isMinute {x : Int} (hG : G σ u) (rx : inR x) : TI sc (d + 2) mX10_isMinute [.int (nZ x)] σ (fun r σ1 => σ1 = σ ∧ ((r = 1 ∧ (0 ≤ x ∧ x < 1440)) ∨ (r = 0 ∧ ¬ (0 ≤ x ∧ x < 1440)))) := by
  obtain ⟨r, σ1, he, hr, e, hx⟩ := m_in (sc := sc) (d := d) (x := x) (lo := 0) (hi := 1439) hG rx (by decide) (by decide)
  subst e
  apply T.int
  apply t_X10_isMinute hG rx
  exact ⟨r, σ1, he, hG, hr, by omega, r, rfl, hr, rfl, by omega⟩
theorem m_badTwo {x y : Int} (hG : G σ u) (h : rI σ 76 0 = 0) (h2 : rI σ 80 2 = n) (h9 : 0 ≤ n ∧ n ≤ 9) (rx : inR x) (ry : inR y) (hc : Rc σ) : TI sc (d + 3) mX10_badTwo [.ref 76, .int (nZ x), .int (nZ y)] σ (fun r σ1 => (r = 0 ∧ ((0 ≤ x ∧ x < n) ∧ (0 ≤ y ∧ y < n)) ∧ σ1 = σ) ∨ (r = 1 ∧ ¬ ((0 ≤ x ∧ x < n) ∧ (0 ≤ y ∧ y < n)) ∧ MRef σ σ1 1 0)) := by
  obtain ⟨r1, σ1, he1, hr1, e1, hx1⟩ := m_isStall (sc := sc) (d := d) (x := x) hG h2 h9 rx
  subst e1
  obtain ⟨r2, σ2, he2, hr2, e2, hx2⟩ := m_isStall (sc := sc) (d := d) (x := y) hG h2 h9 ry
  subst e2
  obtain ⟨σ3, he3, hm3⟩ := m_bad1 (sc := sc) (d := d + 1) (w := 1) (q := 0) hG h (by omega) (by omega) (hc 0 (by omega))
  have b0 := m_bad0 (sc := sc) (d := d + 1) (w := 1) (q := 0) hG h (by decide) (by decide)
  apply T.int
  apply t_X10_badTwo hG rx ry
  refine ⟨r1, σ2, he1, hG, hr1, fun q => ⟨1, σ3, he3, hm3.g hG, by decide, by omega, 1, rfl, by decide, Or.inr ⟨rfl, by omega, hm3⟩⟩, fun q => ⟨r2, σ2, he2, hG, hr2, fun q1 => ⟨0, σ2, b0, hG, by decide, by omega, 0, rfl, by decide, Or.inl ⟨rfl, by omega, rfl⟩⟩, fun q1 => ⟨1, σ3, he3, hm3.g hG, by decide, by omega, 1, rfl, by decide, Or.inr ⟨rfl, by omega, hm3⟩⟩⟩⟩
/-- the day gone over anew, from a state with no refusal -/
theorem m_goD {σ1 : aH} (hG : G σ u) (hM : Mf σ n (-1) W H D Es Er K fr va du fo) (e1 : wI σ 76 0 0 = σ1) : TI sc (d + 5) mX10_dueNow [.ref 76] σ1 (fun r σ2 => Fr AGz σ σ2 ∧ rI σ2 76 0 = 0 ∧ GoS σ2 (Falls D n (-1) (1 + rI σ 76 19)) (D 6) (sT Es fo) (aT Er 1) du n fr K Es ∧ OnS σ2 (FaM D n (-1) (1 + rI σ 76 19)) n K va ∧ r = DueD D n (-1) (1 + rI σ 76 19) (sT Es fo) (CF Er) (CF1 Er du)) := by
  obtain ⟨hG1, t1, hF1, hM1, o1⟩ := m_pre hG hM e1
  obtain ⟨r, σ2, he, hr, hF2, hD2, h2⟩ := m_dueNow (sc := sc) (d := d) hG1 hM1
  rw [o1 76 19 (by omega)] at hD2 h2
  refine ⟨r, σ2, he, hr, (hF1.weak (fun a i z => Or.inr z)).trans (hF2.weak (fun a i z => Or.inl z)), ?_, hD2.2.fa (fun i j s i0 i1 j0 j1 => FaM_iff i0 j0), hD2.1, h2⟩
  rw [hF2.rw (by omega) (by show ¬ ((261 ≤ 76 ∧ 76 ≤ 313) ∨ (76 = 76 ∧ ((0 : Int) = 36 ∨ (0 : Int) = 37))); omega)]; exact t1
theorem m_due (hG : G σ u) (hM : Mf σ n (-1) W H D Es Er K fr va du fo) : TI sc (d + 6) mX10_due [.ref 76] σ (fun r σ1 => Fr AGz σ σ1 ∧ rI σ1 76 0 = 0 ∧ r = DueD D n (-1) (1 + rI σ 76 19) (sT Es fo) (CF Er) (CF1 Er du)) := by
  apply T.int
  apply t_X10_due hG
  intro σ1 e1
  obtain ⟨r, σ2, he, hr, hF, ht, -, -, h⟩ := m_goD (sc := sc) (d := d) hG hM e1
  exact ⟨r, σ2, he, hF.g hG, hr, r, rfl, hr, hF, ht, h⟩
theorem m_lights (hG : G σ u) (hM : Mf σ n (-1) W H D Es Er K fr va du fo) : TI sc (d + 6) mX10_lights [.ref 76] σ (fun r σ1 => Fr AGz σ σ1 ∧ rI σ1 76 0 = 0 ∧ r = LanT (Falls D n (-1) (1 + rI σ 76 19)) (D 6) (sT Es fo) (CF1 Er du) n) := by
  apply T.int
  apply t_X10_lights hG
  intro σ1 e1
  obtain ⟨r, σ2, he, hr, hF, ht, hg, -, h⟩ := m_goD (sc := sc) (d := d) hG hM e1
  refine ⟨r, σ2, he, hF.g hG, hr, _, rfl, rI_R _ _ _, hF, ht, ?_⟩
  rw [hg.2.2.2.1]
  refine sm_congr (fun i i0 i1 => sm_congr (fun j j0 j1 => ?_))
  have : Fsm (Falls D n (-1) (1 + rI σ 76 19)) (sT Es fo) (fun t => cif (du ≤ t) (aT Er 1 t) 0) i j = Fsm (Falls D n (-1) (1 + rI σ 76 19)) (sT Es fo) (CF1 Er du) i j := sm_congr (fun t t0 t1 => by rw [CF1_t t0 t1])
  rw [this]
theorem m_exchange (hG : G σ u) (hM : Mf σ n (-1) W H D Es Er K fr va du fo) : TI sc (d + 7) mX10_exchange [.ref 76] σ (fun r σ1 => Fr (fun a i => AMp a i ∨ (a = 76 ∧ i = 0)) σ σ1 ∧ rI σ1 76 0 = 0 ∧ Dm (rI σ1) = D ∧ ∃ val : Int, ExS D n (-1) (1 + rI σ 76 19) (sT Es fo) (CF Er) (CF1 Er du) val r) := by
  apply T.int
  apply t_X10_exchange hG
  intro σ1 e1
  obtain ⟨hG1, t1, hF1, hM1, o1⟩ := m_pre hG hM e1
  obtain ⟨r, σ2, he, hr, hF2, hD2, h2⟩ := m_exchangeNow (sc := sc) (d := d) hG1 hM1
  rw [o1 76 19 (by omega)] at h2
  refine ⟨r, σ2, he, hF2.g hG1, hr, r, rfl, hr, (hF1.weak (fun a i z => Or.inr z)).trans (hF2.weak (fun a i z => Or.inl z)), ?_, hD2, h2⟩
  rw [hF2.rw (by omega) (by show ¬ ((91 ≤ 76 ∧ 76 ≤ 99) ∨ (261 ≤ 76 ∧ 76 ≤ 313) ∨ (76 = 76 ∧ ((0 : Int) = 36 ∨ (0 : Int) = 37))); omega)]; exact t1
theorem m_fault (hG : G σ u) : TI sc (d + 1) mX10_fault [.ref 76] σ (fun r σ1 => Fr A0 σ σ1 ∧ rI σ1 76 0 = 0 ∧ r = rI σ 76 3) := by
  apply T.int
  apply t_X10_fault hG
  intro σ1 e1
  exact ⟨_, rfl, rI_R _ _ _, by rw [← e1]; exact Fr.w (by omega) ⟨rfl, rfl⟩, by rw [← e1]; exact rI_ww (by decide), by rw [← e1]; exact rI_wi (by decide)⟩
theorem m_rounds (hG : G σ u) : TI sc (d + 1) mX10_rounds [.ref 76] σ (fun r σ1 => Fr A0 σ σ1 ∧ rI σ1 76 0 = 0 ∧ r = rI σ 76 20) := by
  apply T.int
  apply t_X10_rounds hG
  intro σ1 e1
  exact ⟨_, rfl, rI_R _ _ _, by rw [← e1]; exact Fr.w (by omega) ⟨rfl, rfl⟩, by rw [← e1]; exact rI_ww (by decide), by rw [← e1]; exact rI_wi (by decide)⟩
theorem m_count {x : Int} (hG : G σ u) (rx : inR x) : TI sc (d + 1) mX10_count [.ref 76, .int (nZ x)] σ (fun r σ1 => Fr A0 σ σ1 ∧ rI σ1 76 0 = 0 ∧ r = if x = 0 then rI σ 76 21 else if x = 1 then rI σ 76 1 else -1) := by
  apply T.int
  apply t_X10_count hG rx
  intro σ1 e1
  have hF : Fr A0 σ σ1 := by rw [← e1]; exact Fr.w (by omega) ⟨rfl, rfl⟩
  have t1 : rI σ1 76 0 = 0 := by rw [← e1]; exact rI_ww (by decide)
  have o : ∀ i : Int, 0 < i → rI σ1 76 i = rI σ 76 i := fun i z => by rw [← e1]; exact rI_wi (by omega)
  refine ⟨fun q => ⟨fun q1 => ⟨_, rfl, by decide, hF, t1, ?_⟩, fun q1 => ⟨_, rfl, rI_R _ _ _, hF, t1, ?_⟩⟩, fun q => ⟨_, rfl, rI_R _ _ _, hF, t1, ?_⟩⟩
  · rw [if_neg q, if_neg q1]
  · rw [if_neg q, if_pos q1]; exact o 1 (by decide)
  · rw [if_pos q]; exact o 21 (by decide)
theorem m_status {x : Int} (hG : G σ u) (rx : inR x) : TI sc (d + 2) mX10_status [.ref 76, .int (nZ x)] σ (fun r σ1 => Fr A0 σ σ1 ∧ rI σ1 76 0 = 0 ∧ r = if 0 ≤ x ∧ x ≤ 1 then rI σ 78 x else -1) := by
  apply T.int
  apply t_X10_status hG rx
  intro σ1 e1
  have hF : Fr A0 σ σ1 := by rw [← e1]; exact Fr.w (by omega) ⟨rfl, rfl⟩
  have t1 : rI σ1 76 0 = 0 := by rw [← e1]; exact rI_ww (by decide)
  obtain ⟨r, σ2, he, hr, e, hx⟩ := m_in (sc := sc) (d := d) (x := x) (lo := 0) (hi := 1) (hF.g hG) rx (by decide) (by decide)
  subst e
  refine ⟨r, σ2, he, hF.g hG, hr, fun q => ⟨_, rfl, by decide, hF, t1, ?_⟩, fun q => ⟨by omega, _, rfl, rI_R _ _ _, hF, t1, ?_⟩⟩
  · rw [if_neg (by omega)]
  · rw [if_pos (by omega), ← e1, rI_wa (by decide)]
theorem m_winter {x : Int} (hG : G σ u) (rx : inR x) (hc : Rc σ) : TI sc (d + 2) mX10_winter [.ref 76, .int (nZ x)] σ (OB σ (0 ≤ x ∧ x ≤ 1) 1 1 (fun r σ1 => Fr (fun a i => a = 76 ∧ (i = 0 ∨ i = 19)) σ σ1 ∧ rI σ1 76 0 = 0 ∧ rI σ1 76 19 = x ∧ r = rI σ 76 19)) := by
  apply T.int
  apply t_X10_winter hG rx
  intro σ1 e1
  have hF : Fr A0 σ σ1 := by rw [← e1]; exact Fr.w (by omega) ⟨rfl, rfl⟩
  have t1 : rI σ1 76 0 = 0 := by rw [← e1]; exact rI_ww (by decide)
  obtain ⟨r, σ2, he, hr, e, hx⟩ := m_in (sc := sc) (d := d) (x := x) (lo := 0) (hi := 1) (hF.g hG) rx (by decide) (by decide)
  subst e
  obtain ⟨σ3, he3, hm3⟩ := m_bad1 (sc := sc) (d := d) (w := 1) (q := 1) (hF.g hG) t1 (by omega) (by omega) ((hc.pre e1) 1 (by omega))
  refine ⟨r, σ2, he, hF.g hG, hr, fun q => ⟨0, σ2, m_bad0 (hF.g hG) t1 (by decide) (by decide), hF.g hG, by decide, fun _ z ez σ17 e17 => ⟨z, rfl, ?_, Or.inl ⟨by omega, ?_, ?_, ?_, ?_⟩⟩, fun z => absurd rfl z⟩, fun q => ⟨1, σ3, he3, hm3.g (hF.g hG), by decide, fun z => absurd z (by decide), fun _ => ⟨0, rfl, by decide, Or.inr ⟨by omega, rfl, hm3.pre e1⟩⟩⟩⟩
  · rw [ez]; exact rI_R _ _ _
  · rw [← e17]; exact (hF.weak (fun a i z => ⟨z.1, Or.inl z.2⟩)).trans (Fr.w (by omega) ⟨rfl, Or.inr rfl⟩)
  · rw [← e17, rI_wi (by decide)]; exact t1
  · rw [← e17]; exact rI_ww rx
  · rw [ez, ← e1]; exact rI_wi (by decide)
end
