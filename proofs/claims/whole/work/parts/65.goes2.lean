/-! THE REFERENCE: a day goes by, walked. -/
section
variable {sc : Nat × (Nat → Int32)} {d : Nat} {σ : aH} {u : Nat} {n g W H : Int} {D : Nat → Int → Int} {Es Er : Nat → Option Int} {K : Int} {fr va : Int → Int} {du : Int}
theorem Any_no {fa : Int → Int → Int → Prop} {j but : Int} (h : ∀ i j : Int, ¬ fa i j (-1)) : ¬ Any fa n j but (-1) := fun ⟨k, _, _, _, q⟩ => h k j q
/-- by the slots of sun k, who is on whom -/
def OnS (σ : aH) (fa : Int → Int → Int → Prop) (n K : Int) (va : Int → Int) : Prop := ∀ k j : Int, 0 ≤ k → k < K → 0 ≤ j → j < n → rI σ (261 + k.toNat) j = bs (fun i => fa i j (va k)) n.toNat
theorem m_goes {un fo cl : Int} (hG : G σ u) (hM : Mo σ n g W H D Es Er K fr va du) (hu : 0 ≤ un ∧ un ≤ 1440) (hf : 0 ≤ fo ∧ fo ≤ 1440) (hc : 0 ≤ cl ∧ cl ≤ 16777215) : TV sc (d + 4) mX10_goes [.ref 76, .int (nZ un), .int (nZ fo), .int (nZ cl)] σ (fun σ1 => Fr AGo σ σ1 ∧ OnS σ1 (FaM D n g (1 + rI σ 76 19)) n K va ∧ GoS σ1 (FaM D n g (1 + rI σ 76 19)) (D 6) (Sg Es (min un fo) cl) (aT Er 1) du n fr K Es) := by
  obtain ⟨fa, hfa⟩ : ∃ fa : Int → Int → Int → Prop, fa = FaM D n g (1 + rI σ 76 19) := ⟨_, rfl⟩
  obtain ⟨en, hen⟩ : ∃ en : Int, en = min un fo := ⟨_, rfl⟩
  obtain ⟨S, hS⟩ : ∃ S : Int → Int, S = Sg Es en cl := ⟨_, rfl⟩
  obtain ⟨R, hR⟩ : ∃ R : Int → Int, R = aT Er 1 := ⟨_, rfl⟩
  have hM0 := hM
  obtain ⟨a1, a2, a3, a4, a5, a6, a7, a8, a9, a10, a11, a12, a13, a14, a15⟩ := hM0
  have hn := a1.1
  have h9 := a1.2.1
  have hK := a11.1
  have hR9 : F9 R := by rw [hR]; exact rate9 a15
  have fno : ∀ i j : Int, ¬ fa i j (-1) := fun i j q => by rw [hfa] at q; exact falls_neg (by omega) q.2.2
  rw [← hfa, ← hen, ← hS, ← hR]
  obtain ⟨P, hP⟩ : ∃ P : aO → aH → Prop, P = QV (fun σ1 => Fr AGo σ σ1 ∧ OnS σ1 fa n K va ∧ GoS σ1 fa (D 6) S R du n fr K Es) := ⟨_, rfl⟩
  apply T.void
  apply t_X10_goes hG (by omega) (by omega) (by omega)
  rw [← hP]
  have nA : ∀ (a : Nat) (i : Int), ¬ (261 ≤ a ∧ a ≤ 313) → (a = 76 → i ≠ 36 ∧ i ≠ 37) → ¬ AGo a i := fun a i p q => by show ¬ ((261 ≤ a ∧ a ≤ 313) ∨ (a = 76 ∧ (i = 36 ∨ i = 37))); omega
  have keep : ∀ τ : aH, Fr AGo σ τ → G τ u ∧ Mo τ n g W H D Es Er K fr va du ∧ rI τ 76 19 = rI σ 76 19 := fun τ hF => ⟨hF.g hG, hM.fr hF (fun a i p => nA a i (by omega) (by omega)) (fun i p => nA 76 i (by omega) (by omega)), hF.rw (by omega) (nA _ _ (by omega) (by omega))⟩
  have Ssun : ∀ t : Int, (¬ t < en → S t = -1) ∧ (bt cl (t / 60) ≠ 0 → S t = -1) ∧ (t < en → bt cl (t / 60) = 0 → S t = aT Es (-1) t) := fun t => by
    rw [hS]; unfold Sg
    exact ⟨fun z => if_neg (fun q => z q.1), fun z => if_neg (fun q => z q.2), fun z1 z2 => if_pos ⟨z1, z2⟩⟩
  -- pieces, one behind the other
  have l161 : ∀ (f : Nat) (p : Int) (τ : aH), (rI σ 76 25 - p).toNat = f → 0 ≤ p → p ≤ rI σ 76 25 → Fr AGo σ τ → OnS τ fa n K va → (∀ x : Int, (p < rI σ 76 25 → x = rI σ (190 + p.toNat) 0) → (p = rI σ 76 25 → x = 1440) → GoS τ fa (D 6) (Sx S x) R du n fr K Es) → L_X10_goes_161 (Ev sc (d + 3)) sc P un fo cl en p τ := by
    intro f
    induction f with
    | zero =>
      intro p τ hf0 p0 p1 hF hon hgo
      obtain ⟨kG, kM, kw⟩ := keep τ hF
      have k25 : rI τ 76 25 = rI σ 76 25 := hF.rw (by omega) (nA _ _ (by omega) (by omega))
      apply v_X10_goes_161 kG (by omega) (by omega) (by omega) (by omega) (by omega)
      refine ⟨fun _ => ?_, fun q => by omega⟩
      rw [hP]
      exact ⟨rfl, hF, hon, GoS_S (fun t t0 t1 => if_pos t1) (hgo 1440 (fun z => by omega) (fun _ => rfl))⟩
    | succ f ih =>
      intro p τ hf0 p0 p1 hF hon hgo
      obtain ⟨kG, kM, kw⟩ := keep τ hF
      have k25 : rI τ 76 25 = rI σ 76 25 := hF.rw (by omega) (nA _ _ (by omega) (by omega))
      have rp : ∀ i : Int, 0 ≤ i → rI τ (190 + p.toNat) i = rI σ (190 + p.toNat) i := fun i i0 => hF.rw i0 (nA _ _ (by omega) (by omega))
      have hpc := a14 p p0 (by omega)
      obtain ⟨fm, hfm⟩ : ∃ fm : Int, fm = rI σ (190 + p.toNat) 0 := ⟨_, rfl⟩
      obtain ⟨to, hto⟩ : ∃ to : Int, to = rI σ (190 + p.toNat) 1 := ⟨_, rfl⟩
      obtain ⟨kk, hkk⟩ : ∃ kk : Int, kk = rI σ (190 + p.toNat) 2 := ⟨_, rfl⟩
      obtain ⟨rr, hrr⟩ : ∃ rr : Int, rr = rI σ (190 + p.toNat) 3 := ⟨_, rfl⟩
      rw [← hfm, ← hto, ← hkk, ← hrr] at hpc
      obtain ⟨c1, -, c3, c4, c5⟩ := hpc
      have hgo1 := hgo fm (fun _ => hfm) (fun z => by omega)
      have hlst := (c5 fm (by omega) (by omega)).1
      have hrate := (c5 fm (by omega) (by omega)).2.1
      have brr : 0 ≤ rr ∧ rr ≤ 9 := by rw [← hrate]; have := hR9 fm; rw [hR] at this; exact this
      -- what is next
      have nextx : ∀ τ1 : aH, Fr AGo σ τ1 → OnS τ1 fa n K va → GoS τ1 fa (D 6) (Sx S to) R du n fr K Es → L_X10_goes_161 (Ev sc (d + 3)) sc P un fo cl en (p + 1) τ1 := by
        intro τ1 hF1 hon1 hg1
        refine ih (p + 1) τ1 (by omega) (by omega) (by omega) hF1 hon1 (fun x hx1 hx2 => ?_)
        have ex : x = to := by
          by_cases z : p + 1 < rI σ 76 25
          · rw [hx1 z]; exact c3 z
          · rw [hx2 (by omega)]; exact (c4 (by omega)).symm
        rw [ex]; exact hg1
      apply v_X10_goes_161 kG (by omega) (by omega) (by omega) (by omega) (by omega)
      rw [rp 0 (by omega), rp 1 (by omega), ← hfm, ← hto]
      refine ⟨fun q => by omega, fun _ => ⟨by omega, fun q => ?_, fun q => ⟨by omega, ?_⟩⟩⟩
      · rw [hP]
        refine ⟨rfl, hF, hon, GoS_S (fun t t0 t1 => ?_) hgo1⟩
        unfold Sx
        by_cases z : t < fm
        · rw [if_pos z]
        · rw [if_neg z]; exact ((Ssun t).1 (by omega)).symm
      -- the piece itself
      have at212 : ∀ m : Int, m = min to en → L_X10_goes_212 (Ev sc (d + 3)) sc P un fo cl en p m τ := by
        intro m hm
        apply v_X10_goes_212 kG (by omega) (by omega) (by omega) (by omega) (by omega) (by omega)
        rw [rp 0 (by omega), rp 2 (by omega), ← hfm, ← hkk]
        have hsame : ∀ (hno : ∀ t : Int, fm ≤ t → t < to → S t = -1), GoS τ fa (D 6) (Sx S to) R du n fr K Es := by
          intro hno
          refine GoS_S (fun t t0 t1 => ?_) hgo1
          unfold Sx
          by_cases z : t < fm
          · rw [if_pos z, if_pos (by omega)]
          · rw [if_neg z]
            by_cases z2 : t < to
            · rw [if_pos z2, hno t (by omega) z2]
            · rw [if_neg z2]
        have hhr : ∀ t : Int, fm ≤ t → t < to → t / 60 = fm / 60 := fun t t0 t1 => by omega
        refine ⟨by omega, by omega, fun z3 e3 => ⟨by omega, fun q1 => ⟨by omega, nextx τ hF hon (hsame (fun t t0 t1 => ?_))⟩, fun q1 => ⟨by omega, ⟨by omega, by omega⟩, by omega, ?_⟩⟩⟩
        · -- no sun
          have hl := (c5 t t0 t1).1
          rcases hl.at a11 (by omega) (-1) with ⟨z1, z2, -⟩ | ⟨z1, -, -⟩
          · by_cases y : t < en
            · by_cases y2 : bt cl (t / 60) = 0
              · rw [(Ssun t).2.2 y y2]; exact z2
              · exact (Ssun t).2.1 y2
            · exact (Ssun t).1 y
          · omega
        · rw [z_bt (by omega) (by omega) (by omega)]
          refine ⟨fun q2 => ⟨by omega, nextx τ hF hon (hsame (fun t t0 t1 => ?_))⟩, fun q2 => ⟨by omega, ?_⟩⟩
          · exact (Ssun t).2.1 (by rw [hhr t t0 t1]; exact q2)
          · -- it is counted
            have hk0 : (0 ≤ kk ∧ kk < K) ∧ aT Es (-1) fm = va kk ∧ lat Es fm = fr kk := by
              rcases hlst.at a11 (by omega) (-1) with ⟨z1, -, -⟩ | z1
              · exact absurd z1 q1
              · exact z1
            obtain ⟨⟨kk0, kk1⟩, -, -⟩ := hk0
            have hst : ∀ t : Int, fm ≤ t → t < to → aT Es (-1) t = va kk ∧ lat Es t = fr kk := by
              intro t t0 t1
              rcases (c5 t t0 t1).1.at a11 (by omega) (-1) with ⟨z1, -, -⟩ | ⟨-, z1, z2⟩
              · exact absurd z1 q1
              · exact ⟨z1, z2⟩
            obtain ⟨F1, hF1⟩ : ∃ F1 : Int → Int, F1 = fun t => cif (du ≤ t) (R t) 0 := ⟨_, rfl⟩
            have hF19 : F9 F1 := by rw [hF1]; exact F9_cif hR9 _
            have hRt : ∀ t : Int, fm ≤ t → t < to → R t = rr := fun t t0 t1 => by rw [hR]; exact (c5 t t0 t1).2.1
            have hdt : ∀ t : Int, fm ≤ t → t < to → (du ≤ t ↔ du ≤ fm) := fun t t0 t1 => (c5 t t0 t1).2.2
            have hSt : ∀ t : Int, fm ≤ t → t < m → S t = va kk := fun t t0 t1 => by
              rw [(Ssun t).2.2 (by omega) (by rw [hhr t t0 (by omega)]; exact q2)]; exact (hst t t0 (by omega)).1
            have hSe : ∀ t : Int, m ≤ t → t < to → S t = -1 := fun t t0 t1 => (Ssun t).1 (by omega)
            obtain ⟨x, hx⟩ : ∃ x : Int, x = m - fm := ⟨_, rfl⟩
            have bx : 0 ≤ x ∧ x ≤ 60 := by omega
            obtain ⟨dd, hdd⟩ : ∃ dd : Int → Int, dd = fun i => x * rr * (if D 6 i = 1 ∧ du ≤ fm then 2 else 1) := ⟨_, rfl⟩
            obtain ⟨d1, hd1⟩ : ∃ d1 : Int → Int, d1 = fun i => if D 6 i = 1 ∧ du ≤ fm then x * rr else 0 := ⟨_, rfl⟩
            obtain ⟨b, hb⟩ : ∃ b : Int → Int → Prop, b = fun j i => fa i j (va kk) := ⟨_, rfl⟩
            obtain ⟨g1, g2, g3, g4, g5, g6⟩ := hgo1
            rw [← hF1] at g1 g3 g4
            obtain ⟨su, hsu⟩ : ∃ su : Int → Int, su = fun q => rI τ 313 q := ⟨_, rfl⟩
            have hAcc : Acc τ n (fun i j => Prc fa (D 6) (Sx S fm) R F1 i j) (fun j i => Fsm fa (Sx S fm) one i j) (fun j i => LedT fa n (Sx S fm) j i) (fun j => ChT fa n (Sx S fm) j) (Tot fa (D 6) (Sx S fm) R F1 n (-1)) (LanT fa (D 6) (Sx S fm) F1 n) (fun h => Tot fa (D 6) (Sx S fm) (fun t => cif (t / 60 = h) (R t) 0) (fun t => cif (t / 60 = h ∧ du ≤ t) (R t) 0) n (-1)) su := ⟨g1, g2, g3, g4, g5, fun q _ _ => by rw [hsu]⟩
            have hAccB : AccB n (fun i j => Prc fa (D 6) (Sx S fm) R F1 i j) (fun j i => Fsm fa (Sx S fm) one i j) (fun j i => LedT fa n (Sx S fm) j i) (fun j => ChT fa n (Sx S fm) j) (Tot fa (D 6) (Sx S fm) R F1 n (-1)) (LanT fa (D 6) (Sx S fm) F1 n) (fun h => Tot fa (D 6) (Sx S fm) (fun t => cif (t / 60 = h) (R t) 0) (fun t => cif (t / 60 = h ∧ du ≤ t) (R t) 0) n (-1)) su kk := by
              refine ⟨fun i j _ _ _ _ => ⟨?_, ?_, ?_⟩, fun j _ _ => ?_, ?_, ?_, fun h => ?_, ?_⟩
              · have := Prc_bd (fa := fa) (la := D 6) (S := Sx S fm) (i := i) (j := j) hR9 hF19; exact ⟨this.1, Int.le_trans this.2 (by decide)⟩
              · have := Fsm_bd (fa := fa) (S := Sx S fm) (i := i) (j := j) F9_one; exact ⟨this.1, Int.le_trans this.2 (by decide)⟩
              · have := Gs_bd1 (Q := fun s => fa i j s ∧ ¬ Any fa n j i s) (S := Sx S fm); exact ⟨this.1, Int.le_trans this.2 (by decide)⟩
              · have := Gs_bd1 (Q := fun s => Any fa n j (-1) s) (S := Sx S fm); exact ⟨this.1, Int.le_trans this.2 (by decide)⟩
              · have := Tot_bd (fa := fa) (la := D 6) (S := Sx S fm) (gone := -1) h9.2 hR9 hF19; exact ⟨this.1, Int.le_trans this.2 (by decide)⟩
              · have := LanT_bd (fa := fa) (la := D 6) (S := Sx S fm) h9.2 hF19; exact ⟨this.1, Int.le_trans this.2 (by decide)⟩
              · have := Tot_bd (fa := fa) (la := D 6) (S := Sx S fm) (gone := -1) h9.2 (F9_cif hR9 (fun t => t / 60 = h)) (F9_cif hR9 (fun t => t / 60 = h ∧ du ≤ t)); exact ⟨this.1, Int.le_trans this.2 (by decide)⟩
              · rw [hsu]
                have e := g6 kk kk0 kk1
                have := Tot_bd (fa := fa) (la := D 6) (S := Sx S fm) (gone := -1) h9.2 (F9_cif hR9 (fun t => lat Es t = fr kk)) (F9_cif hR9 (fun t => lat Es t = fr kk ∧ du ≤ t))
                show inB (rI τ 313 kk)
                rw [e]; exact ⟨this.1, Int.le_trans this.2 (by decide)⟩
            have hla : ∀ i : Int, 0 ≤ i → i < n → rI τ (91 + i.toNat) 6 = D 6 i := fun i i0 i1 => by rw [kM.2.1]; exact (Dm_at (by omega)).symm
            obtain ⟨σ12, he12, hF12, hA12⟩ := m_counts (sc := sc) (d := d + 1) (p := p.toNat) (x := x) (fm := fm) (k := kk) (r := rr) (du := du) (b := b) (la := D 6) (dd := dd) (d1 := d1) kG (by omega) kM.1.1 h9 bx ((rp 0 (by omega)).trans hfm.symm) (by omega) ((rp 2 (by omega)).trans hkk.symm) (by omega) ((rp 3 (by omega)).trans hrr.symm) brr (fun j j0 j1 => by rw [hb]; exact hon kk j kk0 kk1 j0 j1) hla kM.2.2.2.2.2.2.2.2.2.2.2.1.1 hAcc hAccB hdd hd1
            rw [e3, ← hx]
            have hF12' : Fr AGo σ σ12 := hF.trans (hF12.weak (fun a i z => by
              have z' : (282 ≤ a ∧ a ≤ 313) ∨ (a = 76 ∧ (i = 36 ∨ i = 37)) := z
              show (261 ≤ a ∧ a ≤ 313) ∨ (a = 76 ∧ (i = 36 ∨ i = 37)); omega))
            have hon12 : OnS σ12 fa n K va := fun k' j' k0 k1 j0 j1 => (hF12.rw j0 (by show ¬ ((282 ≤ 261 + k'.toNat ∧ 261 + k'.toNat ≤ 313) ∨ (261 + k'.toNat = 76 ∧ _)); omega)).trans (hon k' j' k0 k1 j0 j1)
            refine ⟨σ12, he12, hF12'.g hG, by omega, nextx σ12 hF12' hon12 ?_⟩
            obtain ⟨q1', q2', q3', q4', q5', q6'⟩ := hA12
            dsimp only at q1' q2' q3' q4' q5' q6'
            have X : (0 ≤ fm ∧ fm ≤ m) ∧ (m ≤ to ∧ to ≤ 1440) := by omega
            have f1c : ∀ t : Int, fm ≤ t → t < m → F1 t = if du ≤ fm then rr else 0 := fun t t0 t1 => by
              rw [hF1]
              show cif (du ≤ t) (R t) 0 = _
              by_cases y : du ≤ fm
              · rw [cif_pos ((hdt t t0 (by omega)).mpr y), if_pos y]; exact hRt t t0 (by omega)
              · rw [cif_neg (fun z => y ((hdt t t0 (by omega)).mp z)), if_neg y]
            have edd : dd = fun i => (m - fm) * rr + (if D 6 i = 1 then (m - fm) * (if du ≤ fm then rr else 0) else 0) := by
              rw [hdd, hx]
              funext i
              by_cases y1 : D 6 i = 1 <;> by_cases y2 : du ≤ fm
              · rw [if_pos ⟨y1, y2⟩, if_pos y1, if_pos y2]; omega
              · rw [if_neg (fun z => y2 z.2), if_pos y1, if_neg y2]; omega
              · rw [if_neg (fun z => y1 z.1), if_neg y1]; omega
              · rw [if_neg (fun z => y1 z.1), if_neg y1]; omega
            have ed1 : d1 = fun i => if D 6 i = 1 then (m - fm) * (if du ≤ fm then rr else 0) else 0 := by
              rw [hd1, hx]
              funext i
              by_cases y1 : D 6 i = 1 <;> by_cases y2 : du ≤ fm
              · rw [if_pos ⟨y1, y2⟩, if_pos y1, if_pos y2]
              · rw [if_neg (fun z => y2 z.2), if_pos y1, if_neg y2, Int.mul_zero]
              · rw [if_neg (fun z => y1 z.1), if_neg y1]
              · rw [if_neg (fun z => y1 z.1), if_neg y1]
            have tstep : ∀ (F F2 : Int → Int) (f f2 : Int), (∀ t : Int, fm ≤ t → t < m → F t = f ∧ F2 t = f2) → Tot fa (D 6) (Sx S to) F F2 n (-1) = Tot fa (D 6) (Sx S fm) F F2 n (-1) + SS b n (fun i => (m - fm) * f + (if D 6 i = 1 then (m - fm) * f2 else 0)) n 0 := by
              intro F F2 f f2 hc'
              rw [hb]
              exact Tot_step h9.1 fno X.1.1 X.1.2 X.2.1 X.2.2 (fun t t0 t1 => ⟨hSt t t0 t1, hc' t t0 t1⟩) hSe
            have sz : SS b n (fun i => (m - fm) * 0 + (if D 6 i = 1 then (m - fm) * 0 else 0)) n 0 = 0 := by
              have e9 : (fun i : Int => (m - fm) * 0 + (if D 6 i = 1 then (m - fm) * 0 else 0)) = fun _ => 0 := by
                funext i; split <;> omega
              rw [e9]
              unfold SS
              have z1 : ∀ c : Int, sm (fun a => cif (b c a) 0 0) n.toNat = 0 := fun c => sm_eq0 (fun t _ _ => by by_cases y : b c t; rw [cif_pos y]; rw [cif_neg y])
              have z2 : sm (fun a => cif (b n a) 0 0) (0 : Int).toNat = 0 := sm_0 _
              rw [z2, sm_eq0 (fun t _ _ => z1 t)]; rfl
            refine ⟨fun i j i0 i1 j0 j1 => ?_, fun j j0 j1 => ?_, ?_, ?_, fun h h0 h1 => ?_, fun k' k0 k1 => ?_⟩
            · have q := q1' i j i0 i1 j0 j1
              rw [← hF1]
              refine ⟨q.1.trans ?_, q.2.1.trans ?_, q.2.2.trans ?_⟩
              · rw [Prc_step (x1 := fm) (x2 := to) (s0 := va kk) (f := rr) (f1 := if du ≤ fm then rr else 0) fno X.1.1 X.1.2 X.2.1 X.2.2 (fun t t0 t1 => ⟨hSt t t0 t1, hRt t t0 (by omega), f1c t t0 t1⟩) hSe i j, hb, edd]
              · rw [Fsm_Gs, Fsm_Gs, Gs_step (x1 := fm) (x2 := to) (m := m) (s0 := va kk) (v := 1) X.1.1 X.1.2 X.2.1 X.2.2 (fun t t0 t1 => ⟨hSt t t0 t1, rfl⟩) hSe (fno i j), hb, Int.mul_one, hx]
              · unfold LedT
                rw [Gs_step (x1 := fm) (x2 := to) (m := m) (s0 := va kk) (v := 1) X.1.1 X.1.2 X.2.1 X.2.2 (fun t t0 t1 => ⟨hSt t t0 t1, rfl⟩) hSe (fun z => fno i j z.1), Int.mul_one, hx]
                congr 1
                refine cif_congr ?_
                rw [hb]
                constructor
                · rintro ⟨y1, y2⟩
                  exact ⟨y1, fun ⟨q', w0, w1, w2, w3⟩ => y2 q' w0 w1 w2 w3⟩
                · rintro ⟨y1, y2⟩
                  exact ⟨y1, fun q' w0 w1 w2 w3 => y2 ⟨q', w0, w1, w2, w3⟩⟩
            · refine (q2' j j0 j1).trans ?_
              unfold ChT
              rw [Gs_step (x1 := fm) (x2 := to) (m := m) (s0 := va kk) (v := 1) X.1.1 X.1.2 X.2.1 X.2.2 (fun t t0 t1 => ⟨hSt t t0 t1, rfl⟩) hSe (Any_no fno), Int.mul_one, hx]
              congr 1
              refine cif_congr ?_
              rw [hb]
              constructor
              · rintro ⟨q', w0, w1, w2⟩; exact ⟨q', w0, w1, by omega, w2⟩
              · rintro ⟨q', w0, w1, -, w2⟩; exact ⟨q', w0, w1, w2⟩
            · rw [← hF1]
              refine q3'.trans ?_
              rw [tstep R F1 rr (if du ≤ fm then rr else 0) (fun t t0 t1 => ⟨hRt t t0 (by omega), f1c t t0 t1⟩), edd]
            · rw [← hF1]
              refine q4'.trans ?_
              rw [LanT_step (x1 := fm) (x2 := to) (m := m) (s0 := va kk) (f1 := if du ≤ fm then rr else 0) h9.1 fno X.1.1 X.1.2 X.2.1 X.2.2 (fun t t0 t1 => ⟨hSt t t0 t1, f1c t t0 t1⟩) hSe, hb, ed1]
            · refine (q5' h h0 h1).trans ?_
              by_cases y : h = fm / 60
              · rw [if_pos y, tstep _ _ rr (if du ≤ fm then rr else 0) (fun t t0 t1 => ⟨?_, ?_⟩), edd]
                · show cif (t / 60 = h) (R t) 0 = rr
                  rw [cif_pos (by rw [y]; exact hhr t t0 (by omega))]; exact hRt t t0 (by omega)
                · show cif (t / 60 = h ∧ du ≤ t) (R t) 0 = _
                  have hh : t / 60 = h := by rw [y]; exact hhr t t0 (by omega)
                  by_cases y2 : du ≤ fm
                  · rw [cif_pos ⟨hh, (hdt t t0 (by omega)).mpr y2⟩, if_pos y2]; exact hRt t t0 (by omega)
                  · rw [cif_neg (fun z => y2 ((hdt t t0 (by omega)).mp z.2)), if_neg y2]
              · rw [if_neg y, tstep _ _ 0 0 (fun t t0 t1 => ⟨?_, ?_⟩), sz]
                · show cif (t / 60 = h) (R t) 0 = 0
                  exact cif_neg (fun z => y (by rw [← z]; exact hhr t t0 (by omega)))
                · show cif (t / 60 = h ∧ du ≤ t) (R t) 0 = 0
                  exact cif_neg (fun z => y (by rw [← z.1]; exact hhr t t0 (by omega)))
            · refine (q6' k' k0 (by omega)).trans ?_
              have e0 : su k' = SunV fa (D 6) (Sx S fm) R du n (-1) Es (fr k') := by rw [hsu]; exact g6 k' k0 k1
              rw [e0]
              unfold SunV
              by_cases y : k' = kk
              · rw [if_pos y, tstep _ _ rr (if du ≤ fm then rr else 0) (fun t t0 t1 => ⟨?_, ?_⟩), edd]
                · show cif (lat Es t = fr k') (R t) 0 = rr
                  rw [cif_pos (by rw [y]; exact (hst t t0 (by omega)).2)]; exact hRt t t0 (by omega)
                · show cif (lat Es t = fr k' ∧ du ≤ t) (R t) 0 = _
                  have hh : lat Es t = fr k' := by rw [y]; exact (hst t t0 (by omega)).2
                  by_cases y2 : du ≤ fm
                  · rw [cif_pos ⟨hh, (hdt t t0 (by omega)).mpr y2⟩, if_pos y2]; exact hRt t t0 (by omega)
                  · rw [cif_neg (fun z => y2 ((hdt t t0 (by omega)).mp z.2)), if_neg y2]
              · have hne : ∀ t : Int, fm ≤ t → t < m → lat Es t ≠ fr k' := fun t t0 t1 z => by
                  rw [(hst t t0 (by omega)).2] at z
                  exact y (a11.2.2.1 k' kk k0 k1 kk0 kk1 z.symm)
                rw [if_neg y, tstep _ _ 0 0 (fun t t0 t1 => ⟨?_, ?_⟩), sz]
                · exact cif_neg (hne t t0 t1)
                · exact cif_neg (fun z => hne t t0 t1 z.1)
      refine ⟨fun q1 => at212 en (by omega), fun q1 => ⟨by omega, at212 to (by omega)⟩⟩
  -- before the first piece nothing is counted
  have zeroS : ∀ τ : aH, (∀ i j : Int, 0 ≤ i → i < n → 0 ≤ j → j < n → rI τ (282 + i.toNat) j = 0 ∧ rI τ (292 + j.toNat) i = 0 ∧ rI τ (302 + j.toNat) i = 0) → (∀ j : Int, 0 ≤ j → j < n → rI τ 311 j = 0) → rI τ 76 36 = 0 → rI τ 76 37 = 0 → (∀ h : Int, 0 ≤ h → h < 24 → rI τ 312 h = 0) → (∀ k : Int, 0 ≤ k → k < K → rI τ 313 k = 0) → GoS τ fa (D 6) (Sx S 0) R du n fr K Es := by
    intro τ z1 z2 z3 z4 z5 z6
    have s0 : ∀ t : Int, 0 ≤ t → Sx S 0 t = -1 := fun t t0 => if_neg (by omega)
    have gz : ∀ (Q : Int → Prop) (V : Int → Int), ¬ Q (-1) → Gs Q V (Sx S 0) = 0 := fun Q V hQ => sm_eq0 (fun t t0 t1 => cif_neg (by rw [s0 t t0]; exact hQ))
    have pz : ∀ (F F1 : Int → Int) (i j : Int), Prc fa (D 6) (Sx S 0) F F1 i j = 0 := fun F F1 i j => by
      unfold Prc; rw [Fsm_Gs, Fsm_Gs, gz _ _ (fno i j), gz _ _ (fno i j)]; split <;> rfl
    have tz : ∀ F F1 : Int → Int, Tot fa (D 6) (Sx S 0) F F1 n (-1) = 0 := fun F F1 => sm_eq0 (fun i _ _ => sm_eq0 (fun j _ _ => by
      by_cases c : i ≠ -1 ∧ j ≠ -1
      · rw [cif_pos c, pz]
      · rw [cif_neg c]))
    refine ⟨fun i j i0 i1 j0 j1 => ?_, fun j j0 j1 => ?_, z3.trans (tz _ _).symm, z4.trans ?_, fun h h0 h1 => (z5 h h0 h1).trans (tz _ _).symm, fun k k0 k1 => (z6 k k0 k1).trans (tz _ _).symm⟩
    · have := z1 i j i0 i1 j0 j1
      exact ⟨this.1.trans (pz _ _ _ _).symm, this.2.1.trans (gz _ _ (fno i j)).symm, this.2.2.trans (gz _ _ (fun z => fno i j z.1)).symm⟩
    · exact (z2 j j0 j1).trans (gz _ _ (Any_no fno)).symm
    · refine (sm_eq0 (fun i _ _ => sm_eq0 (fun j _ _ => ?_))).symm
      by_cases c : D 6 i = 1
      · rw [cif_pos c, Fsm_Gs, gz _ _ (fno i j)]
      · rw [cif_neg c]
  obtain ⟨Z1, hZ1⟩ : ∃ Z1 : aH → Prop, Z1 = fun τ => (∀ i j : Int, 0 ≤ i → i < n → 0 ≤ j → j < n → rI τ (282 + i.toNat) j = 0 ∧ rI τ (292 + j.toNat) i = 0 ∧ rI τ (302 + j.toNat) i = 0) ∧ (∀ j : Int, 0 ≤ j → j < n → rI τ 311 j = 0) ∧ rI τ 76 36 = 0 ∧ rI τ 76 37 = 0 := ⟨_, rfl⟩
  have Z1_fr : ∀ (A : Nat → Int → Prop) (τ τ1 : aH), Fr A τ τ1 → (∀ (a : Nat) (i : Int), (282 ≤ a ∧ a ≤ 311) ∨ a = 76 → ¬ A a i) → Z1 τ → Z1 τ1 := by
    intro A τ τ1 hF hA hz
    rw [hZ1] at hz ⊢
    refine ⟨fun i j i0 i1 j0 j1 => ?_, fun j j0 j1 => (hF.rw j0 (hA _ _ (by omega))).trans (hz.2.1 j j0 j1), (hF.rw (by omega) (hA _ _ (by omega))).trans hz.2.2.1, (hF.rw (by omega) (hA _ _ (by omega))).trans hz.2.2.2⟩
    rw [hF.rw j0 (hA _ _ (by omega)), hF.rw i0 (hA _ _ (by omega)), hF.rw i0 (hA _ _ (by omega))]
    exact hz.1 i j i0 i1 j0 j1
  -- suns
  have l126 : ∀ (f : Nat) (k : Int) (τ : aH), (K - k).toNat = f → 0 ≤ k → k ≤ K → Fr AGo σ τ → Z1 τ → (∀ h : Int, 0 ≤ h → h < 24 → rI τ 312 h = 0) → (∀ q : Int, 0 ≤ q → q < k → rI τ 313 q = 0) → OnS τ fa n k va → L_X10_goes_126 (Ev sc (d + 3)) sc P un fo cl en k τ := by
    intro f
    induction f with
    | zero =>
      intro k τ hf0 k0 k1 hF hz hh hs hon
      obtain ⟨kG, kM, kw⟩ := keep τ hF
      have k6 : rI τ 80 6 = K := kM.2.2.2.2.2.2.2.2.1
      have ek : k = K := by omega
      rw [ek] at hs hon
      apply v_X10_goes_126 kG (by omega) (by omega) (by omega) (by omega) (by omega)
      refine ⟨fun _ => l161 _ 0 τ rfl (by omega) (by omega) hF hon (fun x hx1 hx2 => ?_), fun q => by omega⟩
      have ex : x = 0 := by rw [hx1 (by omega)]; exact (a14 0 (by omega) (by omega)).2.1 rfl
      rw [ex]
      rw [hZ1] at hz
      exact zeroS τ hz.1 hz.2.1 hz.2.2.1 hz.2.2.2 hh hs
    | succ f ih =>
      intro k τ hf0 k0 k1 hF hz hh hs hon
      obtain ⟨kG, kM, kw⟩ := keep τ hF
      have k6 : rI τ 80 6 = K := kM.2.2.2.2.2.2.2.2.1
      apply v_X10_goes_126 kG (by omega) (by omega) (by omega) (by omega) (by omega)
      refine ⟨fun q => by omega, fun _ => ⟨by omega, fun σ1 e1 => ?_⟩⟩
      have hF1 : Fr AGo σ σ1 := by rw [← e1]; exact hF.trans (Fr.w k0 (Or.inl (by omega)))
      obtain ⟨kG1, kM1, kw1⟩ := keep σ1 hF1
      obtain ⟨m1, m2, m3, m4, m5, m6, m7, m8, m9, m10, m11, m12⟩ := kM1
      have hsun := m10 k k0 (by omega)
      obtain ⟨σ4, he4, hF4, h4⟩ := m_throwsBy (sc := sc) (d := d) (k := k) (D := D) kG1 m1 m2 m3 m4 m5 m6.1 m6.2 m7 m8 (by omega) rfl rfl rfl (by omega) (by omega) hsun.2.2.2.1
      rw [← hsun.2.2.2.2, kw1, ← hfa] at h4
      have hF4' : Fr AGo σ σ4 := hF1.trans (hF4.weak (fun a i z => by have z' : a = 261 + k.toNat := z; exact Or.inl (by omega)))
      have hz1 : Z1 σ1 := Z1_fr (fun a _ => a = 313) τ σ1 (by rw [← e1]; exact Fr.w k0 rfl) (fun a i z => by show ¬ (a = 313); omega) hz
      refine ⟨σ4, he4, hF4'.g hG, by omega, ih (k + 1) σ4 (by omega) (by omega) (by omega) hF4' (Z1_fr _ σ1 σ4 hF4 (fun a i z => by show ¬ (a = 261 + k.toNat); omega) hz1) (fun h h0 h1 => ?_) (fun q q0 q1 => ?_) (fun q j q0 q1 j0 j1 => ?_)⟩
      · rw [hF4.rw h0 (by show ¬ (312 = 261 + k.toNat); omega), ← e1, rI_wa (by omega)]; exact hh h h0 h1
      · rw [hF4.rw q0 (by show ¬ (313 = 261 + k.toNat); omega), ← e1]
        by_cases z : q = k
        · rw [z]; exact rI_ww (by decide)
        · rw [rI_wi (by omega)]; exact hs q q0 (by omega)
      · by_cases z : q = k
        · rw [z]; exact h4 j j0 j1
        · rw [hF4.rw j0 (by show ¬ (261 + q.toNat = 261 + k.toNat); omega), ← e1, rI_wa (by omega)]; exact hon q j q0 (by omega) j0 j1
  -- hours
  have l102 : ∀ (f : Nat) (h : Int) (τ : aH), (24 - h).toNat = f → 0 ≤ h → h ≤ 24 → Fr AGo σ τ → Z1 τ → (∀ q : Int, 0 ≤ q → q < h → rI τ 312 q = 0) → L_X10_goes_102 (Ev sc (d + 3)) sc P un fo cl en h τ := by
    intro f
    induction f with
    | zero =>
      intro h τ hf0 h0 h1 hF hz hh
      apply v_X10_goes_102 (hF.g hG) (by omega) (by omega) (by omega) (by omega) (by omega)
      exact ⟨fun _ => l126 _ 0 τ rfl (by omega) (by omega) hF hz (fun q q0 q1 => hh q q0 (by omega)) (fun q a b => by omega) (fun q j a b => by omega), fun q => by omega⟩
    | succ f ih =>
      intro h τ hf0 h0 h1 hF hz hh
      apply v_X10_goes_102 (hF.g hG) (by omega) (by omega) (by omega) (by omega) (by omega)
      refine ⟨fun q => by omega, fun _ => ⟨by omega, fun σ1 e1 => ⟨by omega, ih (h + 1) σ1 (by omega) (by omega) (by omega) (by rw [← e1]; exact hF.trans (Fr.w h0 (Or.inl (by omega)))) (Z1_fr (fun a _ => a = 312) τ σ1 (by rw [← e1]; exact Fr.w h0 rfl) (fun a i z => by show ¬ (a = 312); omega) hz) (fun q q0 q1 => ?_)⟩⟩⟩
      rw [← e1]
      by_cases z : q = h
      · rw [z]; exact rI_ww (by decide)
      · rw [rI_wi (by omega)]; exact hh q q0 (by omega)
  -- tables
  have l25 : ∀ (f : Nat) (i : Int) (τ : aH), (n - i).toNat = f → 0 ≤ i → i ≤ n → Fr AGo σ τ → (∀ a : Int, 0 ≤ a → a < i → rI τ 311 a = 0 ∧ ∀ c : Int, 0 ≤ c → c < n → rI τ (282 + a.toNat) c = 0 ∧ rI τ (292 + a.toNat) c = 0 ∧ rI τ (302 + a.toNat) c = 0) → rI τ 76 36 = 0 → rI τ 76 37 = 0 → L_X10_goes_25 (Ev sc (d + 3)) sc P un fo cl en i τ := by
    intro f
    induction f with
    | zero =>
      intro i τ hf0 i0 i1 hF ht h36 h37
      obtain ⟨kG, kM, kw⟩ := keep τ hF
      have kn := kM.1.1
      apply v_X10_goes_25 kG (by omega) (by omega) (by omega) (by omega) (by omega)
      refine ⟨fun _ => l102 _ 0 τ rfl (by omega) (by omega) hF ?_ (fun q a b => by omega), fun q => by omega⟩
      rw [hZ1]
      exact ⟨fun a c a0 a1 c0 c1 => ⟨((ht a a0 (by omega)).2 c c0 c1).1, ((ht c c0 (by omega)).2 a a0 a1).2.1, ((ht c c0 (by omega)).2 a a0 a1).2.2⟩, fun c c0 c1 => (ht c c0 (by omega)).1, h36, h37⟩
    | succ f ih =>
      intro i τ hf0 i0 i1 hF ht h36 h37
      obtain ⟨kG, kM, kw⟩ := keep τ hF
      have kn := kM.1.1
      have l45 : ∀ (m : Nat) (c : Int) (τ1 : aH), (n - c).toNat = m → 0 ≤ c → c ≤ n → Fr AGo σ τ1 → (∀ a : Int, 0 ≤ a → a < i + 1 → rI τ1 311 a = 0) → (∀ a e : Int, 0 ≤ a → (a < i ∨ (a = i ∧ e < c)) → 0 ≤ e → e < n → rI τ1 (282 + a.toNat) e = 0 ∧ rI τ1 (292 + a.toNat) e = 0 ∧ rI τ1 (302 + a.toNat) e = 0) → rI τ1 76 36 = 0 → rI τ1 76 37 = 0 → L_X10_goes_45 (Ev sc (d + 3)) sc P un fo cl en i c τ1 := by
        intro m
        induction m with
        | zero =>
          intro c τ1 hm c0 c1 hF1 h311 htab g36 g37
          obtain ⟨lG, lM, lw⟩ := keep τ1 hF1
          have ln := lM.1.1
          apply v_X10_goes_45 lG (by omega) (by omega) (by omega) (by omega) (by omega) (by omega)
          exact ⟨fun _ => ⟨by omega, ih (i + 1) τ1 (by omega) (by omega) (by omega) hF1 (fun a a0 a1 => ⟨h311 a a0 a1, fun e e0 e1 => htab a e a0 (by omega) e0 e1⟩) g36 g37⟩, fun q => by omega⟩
        | succ m ihm =>
          intro c τ1 hm c0 c1 hF1 h311 htab g36 g37
          obtain ⟨lG, lM, lw⟩ := keep τ1 hF1
          have ln := lM.1.1
          apply v_X10_goes_45 lG (by omega) (by omega) (by omega) (by omega) (by omega) (by omega)
          refine ⟨fun q => by omega, fun _ => ⟨by omega, by omega, fun σ3 e3 => ⟨by omega, by omega, fun σ7 e7 => ⟨by omega, by omega, fun σ11 e11 => ⟨by omega, ihm (c + 1) σ11 (by omega) (by omega) (by omega) ?_ (fun a a0 a1 => ?_) (fun a e a0 a1 e0 e1 => ?_) ?_ ?_⟩⟩⟩⟩⟩
          · rw [← e11, ← e7, ← e3]
            exact ((hF1.trans (Fr.w c0 (Or.inl (by omega)))).trans (Fr.w c0 (Or.inl (by omega)))).trans (Fr.w c0 (Or.inl (by omega)))
          · rw [← e11, rI_wa (by omega), ← e7, rI_wa (by omega), ← e3, rI_wa (by omega)]; exact h311 a a0 a1
          · by_cases z : a = i ∧ e = c
            · rw [z.1, z.2]
              refine ⟨?_, ?_, ?_⟩
              · rw [← e11, rI_wa (by omega), ← e7, rI_wa (by omega), ← e3]; exact rI_ww (by decide)
              · rw [← e11, rI_wa (by omega), ← e7]; exact rI_ww (by decide)
              · rw [← e11]; exact rI_ww (by decide)
            · have old := htab a e a0 (by omega) e0 e1
              refine ⟨?_, ?_, ?_⟩
              · rw [← e11, rI_wa (by omega), ← e7, rI_wa (by omega), ← e3, rI_w (by decide), if_neg (by omega)]; exact old.1
              · rw [← e11, rI_wa (by omega), ← e7, rI_w (by decide), if_neg (by omega), ← e3, rI_wa (by omega)]; exact old.2.1
              · rw [← e11, rI_w (by decide), if_neg (by omega), ← e7, rI_wa (by omega), ← e3, rI_wa (by omega)]; exact old.2.2
          · rw [← e11, rI_wa (by omega), ← e7, rI_wa (by omega), ← e3, rI_wa (by omega)]; exact g36
          · rw [← e11, rI_wa (by omega), ← e7, rI_wa (by omega), ← e3, rI_wa (by omega)]; exact g37
      apply v_X10_goes_25 kG (by omega) (by omega) (by omega) (by omega) (by omega)
      refine ⟨fun q => by omega, fun _ => ⟨by omega, fun σ1 e1 => l45 _ 0 σ1 rfl (by omega) (by omega) (by rw [← e1]; exact hF.trans (Fr.w i0 (Or.inl (by omega)))) (fun a a0 a1 => ?_) (fun a e a0 a1 e0 e1' => ?_) ?_ ?_⟩⟩
      · rw [← e1]
        by_cases z : a = i
        · rw [z]; exact rI_ww (by decide)
        · rw [rI_wi (by omega)]; exact (ht a a0 (by omega)).1
      · rw [← e1, rI_wa (by omega), rI_wa (by omega), rI_wa (by omega)]; exact (ht a a0 (by omega)).2 e e0 e1'
      · rw [← e1, rI_wa (by omega)]; exact h36
      · rw [← e1, rI_wa (by omega)]; exact h37
  have start : ∀ σ1 σ4 : aH, wI σ 76 36 0 = σ1 → wI σ1 76 37 0 = σ4 → L_X10_goes_25 (Ev sc (d + 3)) sc P un fo cl en 0 σ4 := by
    intro σ1 σ4 e1 e4
    refine l25 _ 0 σ4 rfl (by omega) (by omega) ?_ (fun a p q => by omega) ?_ ?_
    · rw [← e4, ← e1]; exact (Fr.w (by omega) (Or.inr ⟨rfl, Or.inl rfl⟩)).trans (Fr.w (by omega) (Or.inr ⟨rfl, Or.inr rfl⟩))
    · rw [← e4, rI_wi (by decide), ← e1]; exact rI_ww (by decide)
    · rw [← e4]; exact rI_ww (by decide)
  refine ⟨fun q σ1 e1 σ4 e4 => ?_, fun q σ1 e1 σ4 e4 => ?_⟩
  · have e : fo = en := by omega
    have := start σ1 σ4 e1 e4
    rw [← e] at this
    exact this
  · have e : un = en := by omega
    have := start σ1 σ4 e1 e4
    rw [← e] at this
    exact this
end
