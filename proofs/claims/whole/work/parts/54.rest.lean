/-! The dearest sun; clouds drawn; images. -/
theorem Fr.c {A : Nat → Int → Prop} {σ : aH} {a b : Nat} (h : ∀ i : Int, A b i) : Fr A σ (wC σ a b) := ⟨Sm.c, fun e i _ hn => by rw [rI_c, if_neg (fun q => hn (by rw [q.1]; exact h i))]⟩
theorem rI_cb {σ : aH} {a b : Nat} {j : Int} (h0 : 0 ≤ j) (h9 : j < 9) : rI (wC σ a b) b j = rI σ a j := by rw [rI_c, if_pos ⟨rfl, by omega⟩]
theorem rI_co {σ : aH} {a b e : Nat} {j : Int} (h : e ≠ b) : rI (wC σ a b) e j = rI σ e j := by rw [rI_c, if_neg (fun q => h q.1)]
/-- the minute from which the sun of minute t counts -/
def sE (E : Nat → Option Int) : Nat → Option Int := fun t => if E t = none then none else some (t : Int)
def lat (E : Nat → Option Int) (t : Int) : Int := aT (sE E) (-1) t
theorem RepC.starts {m : Nat → Int → Int} {a : Nat} {E : Nat → Option Int} (h : RepC m a E) : RepC (fun b i => if b = a + 2 then m (a + 1) i else m b i) a (sE E) := by
  obtain ⟨h1, h2, h3, h4, h5⟩ := h
  have e0 : (if a = a + 2 then m (a + 1) 2 else m a 2) = m a 2 := if_neg (by omega)
  have e1 : ∀ i : Int, (if a + 1 = a + 2 then m (a + 1) i else m (a + 1) i) = m (a + 1) i := fun i => if_neg (by omega)
  have e2 : ∀ i : Int, (if a + 2 = a + 2 then m (a + 1) i else m (a + 2) i) = m (a + 1) i := fun i => if_pos rfl
  refine ⟨by show 0 ≤ (if a = a + 2 then m (a + 1) 2 else m a 2); rw [e0]; exact h1, by show (if a = a + 2 then m (a + 1) 2 else m a 2) ≤ 20; rw [e0]; exact h2, ?_, ?_, ?_⟩
  · intro i i0 i1
    have i1' : i < (if a = a + 2 then m (a + 1) 2 else m a 2) := i1
    rw [e0] at i1'
    show 0 ≤ (if a + 1 = a + 2 then m (a + 1) i else m (a + 1) i) ∧ (if a + 1 = a + 2 then m (a + 1) i else m (a + 1) i) < 1440 ∧ sE E (if a + 1 = a + 2 then m (a + 1) i else m (a + 1) i).toNat = some (if a + 2 = a + 2 then m (a + 1) i else m (a + 2) i)
    rw [e1, e2]
    obtain ⟨p, q, r⟩ := h3 i i0 i1'
    refine ⟨p, q, ?_⟩
    unfold sE
    rw [r, if_neg (by simp)]
    congr 1; omega
  · intro i j i0 i1 i2
    show (if a + 1 = a + 2 then m (a + 1) i else m (a + 1) i) < (if a + 1 = a + 2 then m (a + 1) j else m (a + 1) j)
    rw [e1, e1]
    have i2' : j < (if a = a + 2 then m (a + 1) 2 else m a 2) := i2
    rw [e0] at i2'
    exact h4 i j i0 i1 i2'
  · intro t v hv
    unfold sE at hv
    by_cases c : E t = none
    · rw [if_pos c] at hv; exact absurd hv (by simp)
    · obtain ⟨x, hx⟩ := Option.ne_none_iff_exists'.mp c
      obtain ⟨i, p, q, r⟩ := h5 t x hx
      refine ⟨i, p, ?_, ?_⟩
      · show i < (if a = a + 2 then m (a + 1) 2 else m a 2)
        rw [e0]; exact q
      · show (if a + 1 = a + 2 then m (a + 1) i else m (a + 1) i) = t
        rw [e1]; exact r
theorem lat_in {m : Nat → Int → Int} {a : Nat} {E : Nat → Option Int} (h : RepC m a E) {i t : Int} (i0 : 0 ≤ i) (i1 : i < m a 2) (ht : m (a + 1) i ≤ t) (hn : i + 1 < m a 2 → t < m (a + 1) (i + 1)) : lat E t = m (a + 1) i := by
  have e0 : (if a = a + 2 then m (a + 1) 2 else m a 2) = m a 2 := if_neg (by omega)
  have e1 : ∀ i : Int, (if a + 1 = a + 2 then m (a + 1) i else m (a + 1) i) = m (a + 1) i := fun i => if_neg (by omega)
  have := h.starts.in (-1) (i := i) (t := t) i0 (by show i < (if a = a + 2 then m (a + 1) 2 else m a 2); rw [e0]; exact i1) (by show (if a + 1 = a + 2 then m (a + 1) i else m (a + 1) i) ≤ t; rw [e1]; exact ht) (fun q => by
    show t < (if a + 1 = a + 2 then m (a + 1) (i + 1) else m (a + 1) (i + 1))
    rw [e1]; exact hn (by have q2 : i + 1 < (if a = a + 2 then m (a + 1) 2 else m a 2) := q
                          rw [e0] at q2; exact q2))
  exact this.trans (if_pos rfl)
theorem lat_ahead {m : Nat → Int → Int} {a : Nat} {E : Nat → Option Int} (h : RepC m a E) {t : Int} (t0 : 0 ≤ t) (ht : 0 < m a 2 → t < m (a + 1) 0) : lat E t = -1 := by
  have e0 : (if a = a + 2 then m (a + 1) 2 else m a 2) = m a 2 := if_neg (by omega)
  have e1 : ∀ i : Int, (if a + 1 = a + 2 then m (a + 1) i else m (a + 1) i) = m (a + 1) i := fun i => if_neg (by omega)
  exact h.starts.first (-1) t0 (fun q => by
    show t < (if a + 1 = a + 2 then m (a + 1) 0 else m (a + 1) 0)
    rw [e1]; exact ht (by have q2 : 0 < (if a = a + 2 then m (a + 1) 2 else m a 2) := q
                          rw [e0] at q2; exact q2))
/-- within the span of sun i, and nowhere else, its minute is the latest -/
theorem lat_iff {m : Nat → Int → Int} {a : Nat} {E : Nat → Option Int} (h : RepC m a E) {i t e : Int} (i0 : 0 ≤ i) (i1 : i < m a 2) (t0 : 0 ≤ t) (t1 : t < 1440) (he : (i + 1 < m a 2 → e = m (a + 1) (i + 1)) ∧ (m a 2 ≤ i + 1 → e = 1440)) : lat E t = m (a + 1) i ↔ m (a + 1) i ≤ t ∧ t < e := by
  have hs : ∀ p q : Int, 0 ≤ p → p < q → q < m a 2 → m (a + 1) p < m (a + 1) q := h.2.2.2.1
  constructor
  · intro hl
    by_cases c : m (a + 1) i ≤ t
    · refine ⟨c, ?_⟩
      by_cases c2 : t < e
      · exact c2
      · exfalso
        by_cases c3 : i + 1 < m a 2
        · have e1 := he.1 c3
          have key : ∀ (g : Nat) (k : Int), (m a 2 - k).toNat = g → i < k → k < m a 2 → m (a + 1) k ≤ t → ∃ k2 : Int, i < k2 ∧ k2 < m a 2 ∧ m (a + 1) k2 ≤ t ∧ (k2 + 1 < m a 2 → t < m (a + 1) (k2 + 1)) := by
            intro g
            induction g with
            | zero => intro k hg h1 h2 h3; omega
            | succ g ih =>
              intro k hg h1 h2 h3
              by_cases c4 : k + 1 < m a 2
              · by_cases c5 : t < m (a + 1) (k + 1)
                · exact ⟨k, h1, h2, h3, fun _ => c5⟩
                · exact ih (k + 1) (by omega) (by omega) c4 (by omega)
              · exact ⟨k, h1, h2, h3, fun q => absurd q c4⟩
          obtain ⟨k2, p1, p2, p3, p4⟩ := key _ (i + 1) rfl (by omega) c3 (by omega)
          have := lat_in h (i := k2) (by omega) p2 p3 p4
          have := hs i k2 i0 p1 p2
          omega
        · have := he.2 (by omega); omega
    · exfalso
      by_cases c2 : 0 < m a 2 → t < m (a + 1) 0
      · have := lat_ahead h t0 c2
        have := (h.2.2.1 i i0 i1).1
        omega
      · have c3 : m (a + 1) 0 ≤ t := by
          by_cases z : t < m (a + 1) 0
          · exact absurd (fun _ => z) c2
          · omega
        have key : ∀ (g : Nat) (k : Int), (i - k).toNat = g → 0 ≤ k → k < i → m (a + 1) k ≤ t → ∃ k2 : Int, 0 ≤ k2 ∧ k2 < i ∧ m (a + 1) k2 ≤ t ∧ t < m (a + 1) (k2 + 1) := by
          intro g
          induction g with
          | zero => intro k hg h1 h2 h3; omega
          | succ g ih =>
            intro k hg h1 h2 h3
            by_cases c5 : t < m (a + 1) (k + 1)
            · exact ⟨k, h1, h2, h3, c5⟩
            · by_cases c6 : k + 1 < i
              · exact ih (k + 1) (by omega) (by omega) c6 (by omega)
              · have e7 : k + 1 = i := by omega
                rw [e7] at c5; omega
        have c4 : 0 < i := by
          by_cases z : i = 0
          · rw [z] at c; exact absurd c3 c
          · omega
        obtain ⟨k2, p1, p2, p3, p4⟩ := key _ 0 rfl (by omega) c4 c3
        have := lat_in h (i := k2) p1 (by omega) p3 (fun _ => p4)
        have := hs k2 i p1 p2 i1
        omega
  · rintro ⟨a1, a2⟩
    exact lat_in h i0 i1 a1 (fun q => by have := he.1 q; omega)
theorem Fsm_F {fa : Int → Int → Int → Prop} {S F F2 : Int → Int} {i j : Int} (h : ∀ t : Int, 0 ≤ t → t < 1440 → F t = F2 t) : Fsm fa S F i j = Fsm fa S F2 i j := sm_congr (fun t a b => by rw [h t a b])
theorem Tot_F {fa : Int → Int → Int → Prop} {la S F F1 F2 F3 : Int → Int} {n gone : Int} (h : ∀ t : Int, 0 ≤ t → t < 1440 → F t = F2 t) (h1 : ∀ t : Int, 0 ≤ t → t < 1440 → F1 t = F3 t) : Tot fa la S F F1 n gone = Tot fa la S F2 F3 n gone := by
  refine sm_congr (fun i _ _ => sm_congr (fun j _ _ => ?_))
  have e : Prc fa la S F F1 i j = Prc fa la S F2 F3 i j := by unfold Prc; rw [Fsm_F h, Fsm_F h1]
  rw [e]
/-- all that is due by the sun of minute m -/
noncomputable def SunV (fa : Int → Int → Int → Prop) (la S R : Int → Int) (du n gone : Int) (E : Nat → Option Int) (m : Int) : Int := Tot fa la S (fun t => cif (lat E t = m) (R t) 0) (fun t => cif (lat E t = m ∧ du ≤ t) (R t) 0) n gone
def SunC (E : Nat → Option Int) (m : Int) : Prop := 0 ≤ m ∧ m < 1440 ∧ E m.toNat ≠ none
def SunS (fa : Int → Int → Int → Prop) (la S R : Int → Int) (du n gone : Int) (E : Nat → Option Int) (r : Int) : Prop := ∃ val : Int, BestS (SunC E) (fun m => -(SunV fa la S R du n gone E m)) 0 val r
/-! the draws -/
def sd (seed : Int) : Nat → Int
  | 0 => seed
  | k + 1 => wr (wr (sd seed k * 1103515245) + 12345)
def drw (seed : Int) (k : Nat) : Int := sd seed (k + 1) / 65536 % 8
noncomputable def CldB (seed c : Int) : Int := bs (fun h => drw seed h.toNat < c) 24
theorem drw_u (seed : Int) (k : Nat) : zAnd (zUsr (sd seed (k + 1)) 16) 7 = drw seed k := by
  rw [zAnd_7, zUsr_eq (Or.inl (by omega)) (by omega)]
  show sd seed (k + 1) % 4294967296 / 65536 % 8 = sd seed (k + 1) / 65536 % 8
  omega
theorem drw_s (seed : Int) (k : Nat) : zAnd (zShr (sd seed (k + 1)) 16) 7 = drw seed k := by
  have h : inR (sd seed (k + 1)) := wr_R _
  rw [zAnd_7, zShr_eq h (by omega) (by omega)]; rfl
theorem CldB_bd (seed c : Int) : 0 ≤ CldB seed c ∧ CldB seed c ≤ 16777215 := by
  have := bs_lt (fun h => drw seed h.toNat < c) 24
  unfold CldB
  have e : (2 : Int) ^ 24 = 16777216 := by decide
  omega
section
variable {sc : Nat × (Nat → Int32)} {d : Nat} {σ : aH} {u v : Nat} {n : Int} {Es Er : Nat → Option Int}
theorem s_cloudsDrawn {seed : Int} (hG : G σ u) (hv : IsMk v) (rs : inR seed) : TI sc (d + 1) mX2_cloudsDrawn [.ref v, .int (nZ seed)] σ (fun r σ1 => σ1 = σ ∧ r = CldB seed (rI σ v 7)) := by
  apply T.int
  apply t_X2_cloudsDrawn hG hv rs
  obtain ⟨P, hP⟩ : ∃ P : aO → aH → Prop, P = QI (fun r σ1 => σ1 = σ ∧ r = CldB seed (rI σ v 7)) := ⟨_, rfl⟩
  rw [← hP]
  have rsd : ∀ k : Nat, inR (sd seed k) := by
    intro k
    cases k with
    | zero => exact rs
    | succ k => exact wr_R _
  have loop : ∀ (g k : Nat), 24 - k = g → k ≤ 24 → L_X2_cloudsDrawn_7 (Ev sc d) sc P v seed (bs (fun h => drw seed h.toNat < rI σ v 7) k) (sd seed k) (k : Int) σ := by
    intro g
    induction g with
    | zero =>
      intro k hg hk
      have e : k = 24 := by omega
      apply v_X2_cloudsDrawn_7 hG hv rs (bs_30 _ (by omega)) (rsd k) (by omega)
      refine ⟨fun _ => ?_, fun q => by omega⟩
      rw [hP, e]
      exact ⟨_, rfl, bs_30 _ (by omega), rfl, rfl⟩
    | succ g ih =>
      intro k hg hk
      apply v_X2_cloudsDrawn_7 hG hv rs (bs_30 _ (by omega)) (rsd k) (by omega)
      refine ⟨fun q => by omega, fun _ z1 e1 => ?_⟩
      have e1' : z1 = sd seed (k + 1) := e1
      rw [e1', drw_u]
      have es : bs (fun h => drw seed h.toNat < rI σ v 7) (k + 1) = bs (fun h => drw seed h.toNat < rI σ v 7) k + cif (drw seed k < rI σ v 7) (2 ^ k) 0 := sm_succ _ _
      have := ih (k + 1) (by omega) (by omega)
      refine ⟨fun c => ⟨by omega, ?_⟩, fun c z5 e5 => ⟨by omega, ?_⟩⟩
      · rw [es, cif_neg (by omega), Int.add_zero] at this
        exact this
      · rw [es, cif_pos (by omega)] at this
        have eb := bs_step (fun h => drw seed h.toNat < rI σ v 7) (k := (k : Int)) (by omega) (by omega)
        rw [e5, show ((k : Int)).toNat = k from rfl] at *
        rw [eb]; exact this
  have e0 : bs (fun h => drw seed h.toNat < rI σ v 7) 0 = 0 := sm_0 _
  have := loop _ 0 rfl (by omega)
  rw [e0] at this
  exact this
theorem s_dearestSun (hG : G σ u) (hSh : Sh σ u n) (hM : MkT (rI σ) u Es Er) : TI sc (d + 4) mX6_dearestSun [.ref 27] σ (fun r σ1 => Fr A34 σ σ1 ∧ SunS (FaC (rI σ) u n) (rI σ (u + 8)) (sT Es (rI σ u 5)) (aT Er 1) (rI σ u 6) n (rI σ (u + 1) 9) Es r) := by
  have hm : u = 39 ∨ u = 60 := hG.2.2.2.2
  apply T.int
  apply t_X6_dearestSun hG
  have hR := hM.1
  obtain ⟨V, hV⟩ : ∃ V : Int → Int, V = fun m => -(SunV (FaC (rI σ) u n) (rI σ (u + 8)) (sT Es (rI σ u 5)) (aT Er 1) (rI σ u 6) n (rI σ (u + 1) 9) Es m) := ⟨_, rfl⟩
  obtain ⟨P, hP⟩ : ∃ P : aO → aH → Prop, P = QI (fun r σ1 => Fr A34 σ σ1 ∧ SunS (FaC (rI σ) u n) (rI σ (u + 8)) (sT Es (rI σ u 5)) (aT Er 1) (rI σ u 6) n (rI σ (u + 1) 9) Es r) := ⟨_, rfl⟩
  rw [← hP]
  have hK : rI σ (u + 10) 2 ≤ 20 := hR.2.1
  have frm : ∀ (i : Int), 0 ≤ i → i < rI σ (u + 10) 2 → 0 ≤ rI σ (u + 11) i ∧ rI σ (u + 11) i < 1440 ∧ Es (rI σ (u + 11) i).toNat = some (rI σ (u + 12) i) := hR.2.2.1
  have srt : ∀ p q : Int, 0 ≤ p → p < q → q < rI σ (u + 10) 2 → rI σ (u + 11) p < rI σ (u + 11) q := hR.2.2.2.1
  have all : ∀ (t : Nat) (x : Int), Es t = some x → ∃ i : Int, 0 ≤ i ∧ i < rI σ (u + 10) 2 ∧ rI σ (u + 11) i = t := hR.2.2.2.2
  have loop : ∀ (g : Nat) (k best r : Int) (τ : aH), (rI σ (u + 10) 2 - k).toNat = g → 0 ≤ k → k ≤ rI σ (u + 10) 2 → Fr A34 σ τ → (inR best ∧ inR r) → BestS (fun m => SunC Es m ∧ m < beg (rI σ) (u + 10) k) V 0 (-best) r → L_X6_dearestSun_15 (Ev sc (d + 3)) sc P u best r k τ := by
    intro g
    induction g with
    | zero =>
      intro k best r τ hg k0 k1 hF hr hb
      have e2 : rI τ (u + 10) 2 = rI σ (u + 10) 2 := hF.rw (by omega) (by show ¬ (u + 10 = 35 ∨ u + 10 = 36); omega)
      apply v_X6_dearestSun_15 (hF.g hG) hr.1 hr.2 (by omega)
      refine ⟨fun _ => ?_, fun q => by omega⟩
      rw [hP]
      refine ⟨r, rfl, hr.2, hF, -best, ?_⟩
      rw [← hV]
      have eb : beg (rI σ) (u + 10) k = 1440 := if_neg (by omega)
      rw [eb] at hb
      exact hb.done (fun c hc => hc.2.1)
    | succ g ih =>
      intro k best r τ hg k0 k1 hF hr hb
      have e2 : rI τ (u + 10) 2 = rI σ (u + 10) 2 := hF.rw (by omega) (by show ¬ (u + 10 = 35 ∨ u + 10 = 36); omega)
      have rows : ∀ a : Nat, a ≠ 35 → a ≠ 36 → rI τ a = rI σ a := fun a p q => hF.row (fun i => by show ¬ (a = 35 ∨ a = 36); omega)
      have hfk := frm k k0 (by omega)
      obtain ⟨r5, σ1, he1, hr1, e1, h1⟩ := s_endOf (sc := sc) (d := d + 2) (a := u + 10) (i := k) (hF.g hG) (IsMk.ch hG.2.2.2.2).1 (by omega) ⟨k0, by omega⟩
      subst e1
      have h11 : rI σ1 (u + 11) = rI σ (u + 11) := rows _ (by omega) (by omega)
      have h1' : (k + 1 < rI σ (u + 10) 2 → r5 = rI σ (u + 11) (k + 1)) ∧ (rI σ (u + 10) 2 ≤ k + 1 → r5 = 1440) := by
        rw [e2] at h1
        exact ⟨fun q => (h1.1 q).trans (congrFun h11 (k + 1)), h1.2⟩
      have hr5 : 0 ≤ r5 ∧ r5 ≤ 1440 := by
        by_cases c : k + 1 < rI σ (u + 10) 2
        · rw [h1'.1 c]; have := frm (k + 1) (by omega) c; omega
        · rw [h1'.2 (by omega)]; omega
      have hSht : Sh σ1 u n := hSh.congr (fun a p q => rows a (by omega) (by omega)) (by rw [rows _ (by omega) (by omega)]) (by rw [rows _ (by omega) (by omega)])
      have hMt : MkT (rI σ1) u Es Er := hM.fr hF (fun a i z => by show ¬ (a = 35 ∨ a = 36); omega)
      obtain ⟨σ6, r14, he6, hF6, he14, hr14, h14⟩ := s_totAB (sc := sc) (d := d) (a := rI σ (u + 11) k) (b := r5) (hF.g hG) hSht hMt (by omega) hr5
      have eV : V (rI σ (u + 11) k) = -r14 := by
        rw [hV, h14]
        show -(SunV _ _ _ _ _ _ _ _ _) = -(TotAB _ _ _ _ _ _ _ _ _)
        congr 1
        unfold SunV TotAB
        have ef : FaC (rI σ1) u n = FaC (rI σ) u n := FaC_congr (fun a p q => rows a (by omega) (by omega)) (by rw [rows _ (by omega) (by omega)]) (by rw [rows _ (by omega) (by omega)])
        rw [ef, rows (u + 8) (by omega) (by omega), rows u (by omega) (by omega), rows (u + 1) (by omega) (by omega)]
        refine Tot_F (fun t t0 t1 => ?_) (fun t t0 t1 => ?_)
        · exact cif_congr (lat_iff hR k0 (by omega) t0 t1 h1')
        · refine cif_congr ?_
          have hl : lat Es t = rI σ (u + 11) k ↔ rI σ (u + 11) k ≤ t ∧ t < r5 := lat_iff hR k0 (by omega) t0 t1 h1'
          rw [hl]
          show _ ↔ (max (rI σ (u + 11) k) (rI σ u 6) ≤ t ∧ t < r5)
          omega
      have eK : rI σ1 (u + 11) k = rI σ (u + 11) k := congrFun h11 k
      have hF6' : Fr A34 σ σ6 := hF.trans hF6
      have ebk : beg (rI σ) (u + 10) k = rI σ (u + 11) k := if_pos (by omega)
      have ebk1 : beg (rI σ) (u + 10) (k + 1) = r5 := by
        by_cases c : k + 1 < rI σ (u + 10) 2
        · rw [h1'.1 c]; exact if_pos c
        · rw [h1'.2 (by omega)]; exact if_neg c
      have only : ∀ c : Int, SunC Es c → rI σ (u + 11) k ≤ c → c < r5 → c = rI σ (u + 11) k := by
        intro c hc c1 c2
        obtain ⟨x, hx⟩ := Option.ne_none_iff_exists'.mp hc.2.2
        obtain ⟨i, p, q, s⟩ := all _ _ hx
        have hc0 := hc.1
        have s' : rI σ (u + 11) i = c := by rw [s]; omega
        by_cases z : i = k
        · rw [← s', z]
        · by_cases z1 : i < k
          · have := srt i k p z1 (by omega); omega
          · have z2 : k + 1 < rI σ (u + 10) 2 := by omega
            have := h1'.1 z2
            by_cases z3 : i = k + 1
            · rw [z3] at s'; omega
            · have := srt (k + 1) i (by omega) (by omega) q; omega
      have hlt : rI σ (u + 11) k < r5 := by
        by_cases c : k + 1 < rI σ (u + 10) 2
        · rw [h1'.1 c]; exact srt k (k + 1) k0 (by omega) c
        · rw [h1'.2 (by omega)]; exact hfk.2.1
      rw [ebk] at hb
      apply v_X6_dearestSun_15 (hF.g hG) hr.1 hr.2 (by omega)
      refine ⟨fun q => by omega, fun _ => ⟨by omega, r5, σ1, he1, hF.g hG, hr1, ?_⟩⟩
      rw [eK]
      refine ⟨σ6, he6, hF6'.g hG, r14, σ6, he14, hF6'.g hG, hr14, fun c => ⟨by omega, ?_⟩, fun c => ⟨by omega, fun z16 e16 => ⟨by omega, ?_⟩⟩⟩
      · refine ih (k + 1) best r σ6 (by omega) (by omega) (by omega) hF6' hr ?_
        rw [ebk1]
        refine hb.ext (by omega) (fun c p1 p2 p3 => ?_)
        rw [only c p1 p2 p3, eV]; omega
      · have e16' : z16 = rI σ (u + 11) k := by
          rw [e16]; exact hF6'.rw k0 (by show ¬ (u + 11 = 35 ∨ u + 11 = 36); omega)
        rw [e16']
        refine ih (k + 1) r14 (rI σ (u + 11) k) σ6 (by omega) (by omega) (by omega) hF6' ⟨hr14, rI_R _ _ _⟩ ?_
        rw [ebk1, ← eV]
        have hc : SunC Es (rI σ (u + 11) k) := ⟨hfk.1, hfk.2.1, by rw [hfk.2.2]; simp⟩
        have := hb.take hc (by rw [eV]; omega)
        refine this.ext (by omega) (fun c p1 p2 p3 => ?_)
        have := only c p1 (by omega) p3
        omega
  refine loop _ 0 0 (-1) σ rfl (by omega) hR.1 (Fr.refl _ _) (by decide) ?_
  refine BestS.start (fun c hc => ?_)
  obtain ⟨x, hx⟩ := Option.ne_none_iff_exists'.mp hc.2.2
  obtain ⟨i, p, q, s⟩ := all _ _ hx
  have hc0 := hc.1
  have s' : rI σ (u + 11) i = c := by rw [s]; omega
  have eb0 : beg (rI σ) (u + 10) 0 = rI σ (u + 11) 0 := if_pos (by omega)
  rw [eb0]
  by_cases z : i = 0
  · rw [z] at s'; omega
  · have := srt 0 i (by omega) (by omega) q; omega
/-- what taking an image changes -/
abbrev AI (m : Int) : Nat → Int → Prop := fun a i => (a = 3 ∧ i = 6) ∨ ((a = 4 ∨ a = 5) ∧ i = m) ∨ a = 7 + m.toNat ∨ a = 11 + m.toNat ∨ a = 15 + m.toNat ∨ a = 19 + m.toNat
theorem s_take {m : Int} (hG : G σ u) (hv : IsMk v) (hm : rI σ 3 6 = m) (m0 : 0 ≤ m) : TI sc (d + 1) mX1_take [.ref 3, .ref v] σ (fun r σ1 => (3 ≤ m → r = -1 ∧ σ1 = σ) ∧ (m < 3 → r = m + 1 ∧ Fr (AI m) σ σ1 ∧ rI σ1 3 6 = m + 1 ∧ rI σ1 4 m = rI σ v 8 ∧ rI σ1 5 m = rI σ v 9 ∧ ∀ i : Int, 0 ≤ i → i < 9 → rI σ1 (7 + m.toNat) i = rI σ (v + 2) i ∧ rI σ1 (11 + m.toNat) i = rI σ (v + 3) i ∧ rI σ1 (15 + m.toNat) i = rI σ (v + 4) i ∧ rI σ1 (19 + m.toNat) i = rI σ (v + 9) i)) := by
  have hmv : v = 39 ∨ v = 60 := hv
  apply T.int
  apply t_X1_take hG hv
  rw [hm]
  refine ⟨fun c => ⟨by omega, fun σ1 e1 => ?_⟩, fun c => ⟨-1, rfl, by decide, fun _ => ⟨rfl, rfl⟩, fun q => by omega⟩⟩
  have h1 : rI σ1 3 6 = m := by rw [← e1, rI_wa (by decide)]; exact hm
  rw [h1]; refine ⟨by omega, fun σ4 e4 => ?_⟩
  have h4 : rI σ4 3 6 = m := by rw [← e4, rI_wa (by decide)]; exact h1
  rw [h4]; refine ⟨by omega, fun σ8 e8 => ?_⟩
  have h8 : rI σ8 3 6 = m := by rw [← e8, rI_co (by omega)]; exact h4
  rw [h8]; refine ⟨by omega, fun σ12 e12 => ?_⟩
  have h12 : rI σ12 3 6 = m := by rw [← e12, rI_co (by omega)]; exact h8
  rw [h12]; refine ⟨by omega, fun σ16 e16 => ?_⟩
  have h16 : rI σ16 3 6 = m := by rw [← e16, rI_co (by omega)]; exact h12
  rw [h16]; refine ⟨by omega, fun σ20 e20 => ?_⟩
  have h20 : rI σ20 3 6 = m := by rw [← e20, rI_co (by omega)]; exact h16
  rw [h20]; refine ⟨by omega, fun σ24 e24 => ?_⟩
  have h24 : rI σ24 3 6 = m + 1 := by rw [← e24]; exact rI_ww (by omega)
  refine ⟨_, rfl, by rw [h24]; omega, fun q => by omega, fun _ => ⟨h24, ?_, h24, ?_, ?_, fun i i0 i9 => ⟨?_, ?_, ?_, ?_⟩⟩⟩
  · rw [← e24, ← e20, ← e16, ← e12, ← e8, ← e4, ← e1]
    exact ((((((Fr.w m0 (Or.inr (Or.inl ⟨Or.inl rfl, rfl⟩))).trans (Fr.w m0 (Or.inr (Or.inl ⟨Or.inr rfl, rfl⟩)))).trans (Fr.c (fun i => Or.inr (Or.inr (Or.inl rfl))))).trans (Fr.c (fun i => Or.inr (Or.inr (Or.inr (Or.inl rfl)))))).trans (Fr.c (fun i => Or.inr (Or.inr (Or.inr (Or.inr (Or.inl rfl))))))).trans (Fr.c (fun i => Or.inr (Or.inr (Or.inr (Or.inr (Or.inr rfl))))))).trans (Fr.w (by omega) (Or.inl ⟨rfl, rfl⟩))
  · rw [← e24, rI_wa (by omega), ← e20, rI_co (by omega), ← e16, rI_co (by omega), ← e12, rI_co (by omega), ← e8, rI_co (by omega), ← e4, rI_wa (by omega), ← e1]; exact rI_ww (rI_R _ _ _)
  · rw [← e24, rI_wa (by omega), ← e20, rI_co (by omega), ← e16, rI_co (by omega), ← e12, rI_co (by omega), ← e8, rI_co (by omega), ← e4, rI_ww (rI_R _ _ _), ← e1, rI_wa (by omega)]
  · rw [← e24, rI_wa (by omega), ← e20, rI_co (by omega), ← e16, rI_co (by omega), ← e12, rI_co (by omega), ← e8, rI_cb i0 i9, ← e4, rI_wa (by omega), ← e1, rI_wa (by omega)]
  · rw [← e24, rI_wa (by omega), ← e20, rI_co (by omega), ← e16, rI_co (by omega), ← e12, rI_cb i0 i9, ← e8, rI_co (by omega), ← e4, rI_wa (by omega), ← e1, rI_wa (by omega)]
  · rw [← e24, rI_wa (by omega), ← e20, rI_co (by omega), ← e16, rI_cb i0 i9, ← e12, rI_co (by omega), ← e8, rI_co (by omega), ← e4, rI_wa (by omega), ← e1, rI_wa (by omega)]
  · rw [← e24, rI_wa (by omega), ← e20, rI_cb i0 i9, ← e16, rI_co (by omega), ← e12, rI_co (by omega), ← e8, rI_co (by omega), ← e4, rI_wa (by omega), ← e1, rI_wa (by omega)]
/-- what giving an image back changes -/
abbrev AG (v : Nat) : Nat → Int → Prop := fun a i => (a = 3 ∧ i = 6) ∨ (a = v ∧ (i = 8 ∨ i = 9)) ∨ a = v + 2 ∨ a = v + 3 ∨ a = v + 4 ∨ a = v + 9
theorem s_giveBack {m : Int} (hG : G σ u) (hv : IsMk v) (hm : rI σ 3 6 = m) (m3 : m ≤ 3) : TI sc (d + 1) mX1_giveBack [.ref 3, .ref v] σ (fun r σ1 => (m ≤ 0 → r = -1 ∧ σ1 = σ) ∧ (0 < m → r = m - 1 ∧ Fr (AG v) σ σ1 ∧ rI σ1 3 6 = m - 1 ∧ rI σ1 v 8 = rI σ 4 (m - 1) ∧ rI σ1 v 9 = rI σ 5 (m - 1) ∧ ∀ i : Int, 0 ≤ i → i < 9 → rI σ1 (v + 2) i = rI σ (7 + (m - 1).toNat) i ∧ rI σ1 (v + 3) i = rI σ (11 + (m - 1).toNat) i ∧ rI σ1 (v + 4) i = rI σ (15 + (m - 1).toNat) i ∧ rI σ1 (v + 9) i = rI σ (19 + (m - 1).toNat) i)) := by
  have hmv : v = 39 ∨ v = 60 := hv
  apply T.int
  apply t_X1_giveBack hG hv
  rw [hm]
  refine ⟨fun c => ⟨by omega, fun σ2 e2 => ?_⟩, fun c => ⟨-1, rfl, by decide, fun _ => ⟨rfl, rfl⟩, fun q => by omega⟩⟩
  have h2 : rI σ2 3 6 = m - 1 := by rw [← e2]; exact rI_ww (by omega)
  rw [h2]; refine ⟨by omega, fun σ5 e5 => ?_⟩
  have h5 : rI σ5 3 6 = m - 1 := by rw [← e5, rI_wa (by omega)]; exact h2
  rw [h5]; refine ⟨by omega, fun σ8 e8 => ?_⟩
  have h8 : rI σ8 3 6 = m - 1 := by rw [← e8, rI_wa (by omega)]; exact h5
  rw [h8]; refine ⟨by omega, fun σ12 e12 => ?_⟩
  have h12 : rI σ12 3 6 = m - 1 := by rw [← e12, rI_co (by omega)]; exact h8
  rw [h12]; refine ⟨by omega, fun σ16 e16 => ?_⟩
  have h16 : rI σ16 3 6 = m - 1 := by rw [← e16, rI_co (by omega)]; exact h12
  rw [h16]; refine ⟨by omega, fun σ20 e20 => ?_⟩
  have h20 : rI σ20 3 6 = m - 1 := by rw [← e20, rI_co (by omega)]; exact h16
  rw [h20]; refine ⟨by omega, fun σ24 e24 => ?_⟩
  have h24 : rI σ24 3 6 = m - 1 := by rw [← e24, rI_co (by omega)]; exact h20
  refine ⟨_, rfl, by rw [h24]; omega, fun q => by omega, fun _ => ⟨h24, ?_, h24, ?_, ?_, fun i i0 i9 => ⟨?_, ?_, ?_, ?_⟩⟩⟩
  · rw [← e24, ← e20, ← e16, ← e12, ← e8, ← e5, ← e2]
    exact ((((((Fr.w (by omega) (Or.inl ⟨rfl, rfl⟩)).trans (Fr.w (by omega) (Or.inr (Or.inl ⟨rfl, Or.inl rfl⟩)))).trans (Fr.w (by omega) (Or.inr (Or.inl ⟨rfl, Or.inr rfl⟩)))).trans (Fr.c (fun i => Or.inr (Or.inr (Or.inl rfl))))).trans (Fr.c (fun i => Or.inr (Or.inr (Or.inr (Or.inl rfl)))))).trans (Fr.c (fun i => Or.inr (Or.inr (Or.inr (Or.inr (Or.inl rfl))))))).trans (Fr.c (fun i => Or.inr (Or.inr (Or.inr (Or.inr (Or.inr rfl))))))
  · rw [← e24, rI_co (by omega), ← e20, rI_co (by omega), ← e16, rI_co (by omega), ← e12, rI_co (by omega), ← e8, rI_wi (by decide), ← e5, rI_ww (rI_R _ _ _), ← e2, rI_wa (by omega)]
  · rw [← e24, rI_co (by omega), ← e20, rI_co (by omega), ← e16, rI_co (by omega), ← e12, rI_co (by omega), ← e8, rI_ww (rI_R _ _ _), ← e5, rI_wa (by omega), ← e2, rI_wa (by omega)]
  · rw [← e24, rI_co (by omega), ← e20, rI_co (by omega), ← e16, rI_co (by omega), ← e12, rI_cb i0 i9, ← e8, rI_wa (by omega), ← e5, rI_wa (by omega), ← e2, rI_wa (by omega)]
  · rw [← e24, rI_co (by omega), ← e20, rI_co (by omega), ← e16, rI_cb i0 i9, ← e12, rI_co (by omega), ← e8, rI_wa (by omega), ← e5, rI_wa (by omega), ← e2, rI_wa (by omega)]
  · rw [← e24, rI_co (by omega), ← e20, rI_cb i0 i9, ← e16, rI_co (by omega), ← e12, rI_co (by omega), ← e8, rI_wa (by omega), ← e5, rI_wa (by omega), ← e2, rI_wa (by omega)]
  · rw [← e24, rI_cb i0 i9, ← e20, rI_co (by omega), ← e16, rI_co (by omega), ← e12, rI_co (by omega), ← e8, rI_wa (by omega), ← e5, rI_wa (by omega), ← e2, rI_wa (by omega)]
end
