/-! BOTH SIDES: questions about one stall. -/
section
variable {sc : Nat × (Nat → Int32)} {d : Nat} {σ σ1 σ2 τ : aH} {u v : Nat} {n W H : Int} {D D2 : Nat → Int → Int} {Es Er : Nat → Option Int} {du fo N w cl K : Int} {fr va : Int → Int}
theorem OB.map {σ : aH} {ok : Prop} {w q : Int} {P Q : Int → aH → Prop} {r : Int} {σ1 : aH} (h : OB σ ok w q P r σ1) (f : ok → P r σ1 → Q r σ1) : OB σ ok w q Q r σ1 := by
  rcases h with ⟨a, b⟩ | b
  · exact Or.inl ⟨a, f a b⟩
  · exact Or.inr b
theorem TI.map {q : aM} {args : List Value} {P Q : Int → aH → Prop} (h : TI sc d q args σ P) (f : ∀ (r : Int) (σ1 : aH), P r σ1 → Q r σ1) : TI sc d q args σ Q := by
  obtain ⟨r, σ1, he, hr, hp⟩ := h
  exact ⟨r, σ1, he, hr, f r σ1 hp⟩
theorem j_chill {x : Int} (hJ : J σ u v n W H D Es Er du fo N) (hN : 0 ≤ N ∧ N ≤ 1000) (hg : gN σ ≤ 100000) (rx : inR x) : JQ sc (d + 12) mX9_chill mX10_chill [.int (nZ x)] (kq 0) σ N := by
  have hC := hJ.2.2.1
  refine JQ.one (q := 0) (ok := 0 ≤ x ∧ x < n) (Sp := fun r => r = ChD D n (-1) (1 + rI σ u 9) (sT Es fo) x) hJ hN hg (Or.inl rfl) (fun rm => ?_) (fun τ hR hτ => ?_)
  · apply t_X9_chill hJ.1 rx
    refine rqS hJ.1 rm rx hC.2.1.1 (fun σ1 z hk => Or.inr ⟨z, rfl, hk⟩) (fun ok => ?_)
    obtain ⟨r, σ1, he, hr, hF, e2⟩ := s_chill (sc := sc) (d := d + 7) (hC.cm hJ.1) ok
    rw [hC.go, ← hC.1] at e2
    exact ⟨r, σ1, he, hF.g hJ.1, hr, Or.inl ⟨ok, r, rfl, hr, e2, CG.scr hJ.1 hC hF (fun a i z => by have z' : a = 37 := z; omega)⟩⟩
  · obtain ⟨gτ, ⟨K, fr, va, D2, hm, hd, h2, hco⟩, rc, ew, ecl, hg, n8⟩ := hR
    refine (m_chill (sc := sc) (d := d + 6) gτ hm h2 rx rc).map (fun r σ2 ob => ob.map (fun ok z => ⟨fun r0 z0 => ?_, RG.low hm z.1 AGz_in z.2.1⟩))
    rw [z0, z.2.2, ew]; exact hd.ch ok
theorem j_wish {x : Int} (hJ : J σ u v n W H D Es Er du fo N) (hN : 0 ≤ N ∧ N ≤ 1000) (hg : gN σ ≤ 100000) (rx : inR x) : JQ sc (d + 12) mX9_wish mX10_wish [.int (nZ x)] (kq 0) σ N := by
  have hC := hJ.2.2.1
  refine JQ.one (q := 0) (ok := 0 ≤ x ∧ x < n) (Sp := fun r => WishS D n (-1) (1 + rI σ u 9) (sT Es fo) (CF Er) (CF1 Er du) x r) hJ hN hg (Or.inl rfl) (fun rm => ?_) (fun τ hR hτ => ?_)
  · apply t_X9_wish hJ.1 rx
    refine rqS hJ.1 rm rx hC.2.1.1 (fun σ1 z hk => Or.inr ⟨z, rfl, hk⟩) (fun ok => ?_)
    have h5 := (hC.2.2.2.1 x ok.1 ok.2).2
    rw [hC.1] at h5
    obtain ⟨r, σ1, he, hr, hF, hD, _, e2⟩ := s_wishOf (sc := sc) (d := d + 7) (hC.cx hJ.1) ok h5
    rw [hC.go, ← hC.1] at e2
    exact ⟨r, σ1, he, hF.g hJ.1, hr, Or.inl ⟨ok, r, rfl, hr, e2, CG.back hJ.1 hC hF (fun a i z => by have z' : a = u + 4 ∧ i = x := z; omega) hD⟩⟩
  · obtain ⟨gτ, ⟨K, fr, va, D2, hm, hd, h2, hco⟩, rc, ew, ecl, hg, n8⟩ := hR
    have hg2 : Hg D2 n := fun i i0 i1 => by rw [hd 4 i (by decide) i0 i1, hd 5 i (by decide) i0 i1]; exact hg i i0 i1
    refine (m_wish (sc := sc) (d := d + 4) gτ hm h2 hg2 rx rc).map (fun r σ2 ob => ob.map (fun ok z => ⟨fun r0 z0 => ?_, RG.mid hm z.1 AMz_in z.2.1 z.2.2.1⟩))
    have e := z.2.2.2
    rw [ew] at e
    exact e.uniq (z0.congr hd ok)
theorem HarmS.congr {gone : Int} {S : Int → Int} {s : Int} (hd : Deq n D D2) (hs : 0 ≤ s ∧ s < n) : HarmS D2 n gone w S s ↔ HarmS D n gone w S s := by
  constructor
  · intro h k k0 k1
    rw [← h k k0 k1]; exact (Fsm_congr (fun q => hd.falls hs ⟨k0, k1⟩)).symm
  · intro h k k0 k1
    rw [← h k k0 k1]; exact Fsm_congr (fun q => hd.falls hs ⟨k0, k1⟩)
theorem HlessS.congr {gone : Int} {S : Int → Int} {s r : Int} (hd : Deq n D D2) (hs : 0 ≤ s ∧ s < n) (h : HlessS D n gone w S s r) : HlessS D2 n gone w S s r := by
  have e : ∀ h : Int, HarmS (Dset D2 2 s h) n gone w S s ↔ HarmS (Dset D 2 s h) n gone w S s := fun h => HarmS.congr (hd.set 2 s h) hs
  rcases h with ⟨a, b⟩ | ⟨a, b, c⟩
  · exact Or.inl ⟨a, fun h p q z => b h p q ((e h).mp z)⟩
  · exact Or.inr ⟨a, (e r).mpr b, fun h p q z => c h p q ((e h).mp z)⟩
theorem j_harmless {x : Int} (hJ : J σ u v n W H D Es Er du fo N) (hN : 0 ≤ N ∧ N ≤ 1000) (hg : gN σ ≤ 100000) (rx : inR x) : JQ sc (d + 12) mX9_harmless mX10_harmless [.int (nZ x)] (kq 0) σ N := by
  have hC := hJ.2.2.1
  refine JQ.one (q := 0) (ok := 0 ≤ x ∧ x < n) (Sp := fun r => HlessS D n (-1) (1 + rI σ u 9) (sT Es fo) x r) hJ hN hg (Or.inl rfl) (fun rm => ?_) (fun τ hR hτ => ?_)
  · apply t_X9_harmless hJ.1 rx
    refine rqS hJ.1 rm rx hC.2.1.1 (fun σ1 z hk => Or.inr ⟨z, rfl, hk⟩) (fun ok => ?_)
    obtain ⟨r, σ1, he, hr, hF, hD, e2⟩ := s_greatestHarmless (sc := sc) (d := d + 7) (hC.cm hJ.1) ok
    rw [hC.go, ← hC.1] at e2
    exact ⟨r, σ1, he, hF.g hJ.1, hr, Or.inl ⟨ok, r, rfl, hr, e2, CG.back hJ.1 hC hF (fun a i z => by have z' : a = u + 4 ∧ i = x := z; omega) hD⟩⟩
  · obtain ⟨gτ, ⟨K, fr, va, D2, hm, hd, h2, hco⟩, rc, ew, ecl, hg, n8⟩ := hR
    refine (m_harmless (sc := sc) (d := d + 6) gτ hm h2 rx rc).map (fun r σ2 ob => ob.map (fun ok z => ⟨fun r0 z0 => ?_, RG.mid hm z.1 AMz_in z.2.1 z.2.2.1⟩))
    have e := z.2.2.2
    rw [ew] at e
    exact e.uniq (z0.congr hd ok)
theorem j_out {x : Int} (hJ : J σ u v n W H D Es Er du fo N) (hN : 0 ≤ N ∧ N ≤ 1000) (hg : gN σ ≤ 100000) (rx : inR x) : JQ sc (d + 12) mX9_out mX10_out [.int (nZ x)] (kq 0) σ N := by
  have hC := hJ.2.2.1
  have hx := hC.cx hJ.1
  have hmk : u = 39 ∨ u = 60 := hJ.mk
  refine JQ.one (q := 0) (ok := 0 ≤ x ∧ x < n) (Sp := fun r => r = DueD D n x (1 + rI σ u 9) (sT Es fo) (CF Er) (CF1 Er du)) hJ hN hg (Or.inl rfl) (fun rm => ?_) (fun τ hR hτ => ?_)
  · apply t_X9_out hJ.1 rx
    refine rqS hJ.1 rm rx hC.2.1.1 (fun σ1 z hk => Or.inr ⟨z, rfl, hk⟩) (fun ok => ?_)
    intro σ5 e5
    have F5 : Fr (fun a i => a = u + 1 ∧ i = 9) σ σ5 := by rw [← e5]; exact Fr.w (by decide) ⟨rfl, rfl⟩
    have hD5 : Dc (rI σ5) u = Dc (rI σ) u := Dc_congr (fun a p q => F5.row (fun i => by show ¬ (a = u + 1 ∧ i = 9); omega))
    have S5 : Sh σ5 u n := ⟨(F5.rw (by decide) (by show ¬ (u + 1 = u + 1 ∧ (8 : Int) = 9); omega)).trans hC.2.1.1, hC.2.1.2.1, by rw [hD5]; exact hC.2.1.2.2.1, by rw [F5.rw (by decide) (by show ¬ (u = u + 1 ∧ (9 : Int) = 9); omega)]; exact hC.2.1.2.2.2⟩
    have W5 : WtS (rI σ5) 28 (sT Es fo) (CF Er) (CF1 Er du) := hx.2.2.1.fr F5 (fun a i z => by show ¬ (a = u + 1 ∧ i = 9); omega)
    obtain ⟨r, σ8, he, hr, e1, e2⟩ := s_due (sc := sc) (d := d + 8) (w := 28) (F5.g hJ.1) S5 (Or.inl rfl) W5 hx.2.2.2.1 hx.2.2.2.2.1 hx.2.2.2.2.2
    subst e1
    refine ⟨r, σ8, he, F5.g hJ.1, hr, fun σ13 e13 => ?_⟩
    have F13 : Fr (fun a i => a = u + 1 ∧ i = 9) σ σ13 := F5.trans (by rw [← e13]; exact Fr.w (by decide) ⟨rfl, rfl⟩)
    have g5 : rI σ8 (u + 1) 9 = x := by rw [← e5]; exact rI_ww rx
    have w5 : rI σ8 u 9 = rI σ u 9 := F5.rw (by decide) (by show ¬ (u = u + 1 ∧ (9 : Int) = 9); omega)
    have l5 : rI σ8 (u + 8) = rI σ (u + 8) := F5.row (fun i => by show ¬ (u + 8 = u + 1 ∧ i = 9); omega)
    refine Or.inl ⟨ok, r, rfl, hr, ?_, ?_⟩
    · rw [e2, l5, hC.la]
      unfold FaC
      rw [hD5, ← hC.1, g5, w5]; rfl
    · refine ⟨F13.weak (fun a i z => Or.inr (Or.inl ⟨z.1, Or.inr z.2⟩)), ?_, (F13.rw (by decide) (by show ¬ (u + 1 = u + 1 ∧ (8 : Int) = 9); omega)).trans hC.2.1.1, by rw [← e13]; exact rI_ww (by decide)⟩
      rw [Dc_congr (fun a p q => F13.row (fun i => by show ¬ (a = u + 1 ∧ i = 9); omega)), ← hC.1]
      exact De8.refl _ _
  · obtain ⟨gτ, ⟨K, fr, va, D2, hm, hd, h2, hco⟩, rc, ew, ecl, hg, n8⟩ := hR
    refine (m_out (sc := sc) (d := d + 6) gτ hm h2 rx rc).map (fun r σ2 ob => ob.map (fun ok z => ⟨fun r0 z0 => ?_, ?_⟩))
    · rw [z0, z.2.2.2, ew]; exact hd.due
    · refine ⟨z.1.weak (fun a i y => ?_), z.2.1, ?_, z.2.2.1, ?_⟩
      · have y' : (((261 ≤ a ∧ a ≤ 313) ∨ (a = 76 ∧ (i = 36 ∨ i = 37))) ∨ (a = 76 ∧ i = 0)) ∨ (a = 76 ∧ i = 27) := y
        show (a = 76 ∧ (i = 0 ∨ i = 2 ∨ (4 ≤ i ∧ i ≤ 7) ∨ i = 22 ∨ i = 27 ∨ i = 28 ∨ (36 ≤ i ∧ i ≤ 43))) ∨ (91 ≤ a ∧ a ≤ 99) ∨ (261 ≤ a ∧ a ≤ 343)
        omega
      · rw [Dm_fr z.1 (fun a i p q y => by
          have y' : (((261 ≤ a ∧ a ≤ 313) ∨ (a = 76 ∧ (i = 36 ∨ i = 37))) ∨ (a = 76 ∧ i = 0)) ∨ (a = 76 ∧ i = 27) := y
          omega)]
        exact Deq.refl _ _
      · rw [z.1.rw (by decide) (by show ¬ ((((261 ≤ 76 ∧ 76 ≤ 313) ∨ (76 = 76 ∧ ((28 : Int) = 36 ∨ (28 : Int) = 37))) ∨ (76 = 76 ∧ (28 : Int) = 0)) ∨ (76 = 76 ∧ (28 : Int) = 27)); omega)]
        exact hm.1.1.1
theorem Deq.led {gone j i : Int} {S : Int → Int} (h : Deq n D D2) (hj : 0 ≤ j ∧ j < n) (hi : 0 ≤ i ∧ i < n) : LedT (Falls D2 n gone w) n S j i = LedT (Falls D n gone w) n S j i :=
  sm_congr (fun t _ _ => cif_congr (and_congr (h.falls hi hj) (not_congr (h.any hj))))
/-- nobody shades itself -/
theorem Falls_self {gone i s : Int} : ¬ Falls D n gone w i i s := fun ⟨_, t, h0, h1, h2, h3, _⟩ => by
  have a : (s / 10 % 3 - 1) * t = 0 := by omega
  have b : (s / 30 - 1) * t = 0 := by omega
  rcases Int.mul_eq_zero.mp a with a | a
  · rcases Int.mul_eq_zero.mp b with b | b
    · exact h0 ⟨a, b⟩
    · omega
  · omega
theorem LedT_self {gone j : Int} {S : Int → Int} : LedT (Falls D n gone w) n S j j = 0 := by
  have : LedT (Falls D n gone w) n S j j = sm (fun _ => 0) 1440 := sm_congr (fun t _ _ => cif_neg (fun z => Falls_self z.1))
  rw [this]
  have b := sm_bd (f := fun _ => (0 : Int)) (lo := 0) (hi := 0) (n := 1440) (fun _ _ _ => by omega)
  omega
theorem j_whose {x : Int} (hJ : J σ u v n W H D Es Er du fo N) (hN : 0 ≤ N ∧ N ≤ 1000) (hg : gN σ ≤ 100000) (rx : inR x) : JQ sc (d + 12) mX9_whose mX10_whose [.int (nZ x)] (kq 0) σ N := by
  have hC := hJ.2.2.1
  have hmk : u = 39 ∨ u = 60 := hJ.mk
  have h8 := hC.2.2.1
  have h0 := hC.2.1.2.1
  obtain ⟨V, hV⟩ : ∃ V : Int → Int, V = fun k => LedT (Falls D n (-1) (1 + rI σ u 9)) n (sT Es fo) x k := ⟨_, rfl⟩
  have bV : ∀ k : Int, 0 ≤ V k ∧ V k ≤ 1440 := fun k => by rw [hV]; exact LedT_bd
  refine JQ.one (q := 0) (ok := 0 ≤ x ∧ x < n) (Sp := fun r => ∃ val : Int, BestS (fun k => 0 ≤ k ∧ k < n) (fun k => -(V k)) 0 val r) hJ hN hg (Or.inl rfl) (fun rm => ?_) (fun τ hR hτ => ?_)
  · apply t_X9_whose hJ.1 rx
    refine rqS hJ.1 rm rx hC.2.1.1 (fun σ1 z hk => Or.inr ⟨z, rfl, hk⟩) (fun ok => ?_)
    obtain ⟨Q, hQ⟩ : ∃ Q : aO → aH → Prop, Q = CQ1 σ (0 ≤ x ∧ x < n) 0 (fun r σ1 => (∃ val : Int, BestS (fun k => 0 ≤ k ∧ k < n) (fun k => -(V k)) 0 val r) ∧ CG σ σ1 u n D) := ⟨_, rfl⟩
    rw [← hQ]
    have loop : ∀ (f : Nat) (k val code : Int) (τ : aH), (n - k).toNat = f → 0 ≤ k → k ≤ n → Fr (fun a _ => a = 37) σ τ → BestS (fun c => (0 ≤ c ∧ c < n) ∧ c < k) (fun k => -(V k)) 0 val code → (-1 ≤ code ∧ code < 9) → (0 ≤ -val ∧ -val ≤ 1440) → L_X9_whose_12 (Ev sc (d + 11)) sc Q x (-val) code k τ := by
      intro f
      induction f with
      | zero =>
        intro k val code τ hf k0 k1 hF hB hc hv
        have e8 : rI τ (u + 1) 8 = n := (hF.rw (by decide) (by show ¬ u + 1 = 37; omega)).trans hC.2.1.1
        apply v_X9_whose_12 (hF.g hJ.1) rx (by omega) (by omega) (by omega)
        rw [e8]
        refine ⟨fun _ => ?_, fun z => by omega⟩
        rw [hQ]
        exact Or.inl ⟨ok, code, rfl, by omega, ⟨val, hB.done (fun c hc => by omega)⟩, CG.scr hJ.1 hC hF (fun a i z => by have z' : a = 37 := z; omega)⟩
      | succ f ih =>
        intro k val code τ hf k0 k1 hF hB hc hv
        have e8 : rI τ (u + 1) 8 = n := (hF.rw (by decide) (by show ¬ u + 1 = 37; omega)).trans hC.2.1.1
        have bk := bV k
        apply v_X9_whose_12 (hF.g hJ.1) rx (by omega) (by omega) (by omega)
        rw [e8]
        refine ⟨fun z => by omega, fun _ => ⟨fun z => ?_, fun z => ?_⟩⟩
        · have hDτ : ∀ a : Nat, u + 2 ≤ a → a ≤ u + 9 → rI τ a = rI σ a := fun a p q => hF.row (fun i => by show ¬ a = 37; omega)
          have w9 : rI τ u 9 = rI σ u 9 := hF.rw (by decide) (by show ¬ u = 37; omega)
          have Sτ : Sh τ u n := hC.2.1.congr hDτ (hF.rw (by decide) (by show ¬ u + 1 = 37; omega)) w9
          have Wτ : WtS (rI τ) 31 (sT Es fo) one (fun _ => 0) := (hC.cm hJ.1).2.2.1.fr hF (fun a i y => by show ¬ a = 37; omega)
          obtain ⟨r, τ1, he, hr, hF1, e2⟩ := s_ledTo (sc := sc) (d := d + 7) (j := x) (by_ := k) (hF.g hJ.1) Sτ Wτ hC.sb ok ⟨k0, by omega⟩
          have eF : FaC (rI τ) u n = Falls D n (-1) (1 + rI σ u 9) := by
            unfold FaC
            rw [Dc_congr hDτ, ← hC.1, hF.rw (by decide) (by show ¬ u + 1 = 37; omega), hC.go, w9]
          have er : r = V k := by rw [e2, eF, hV]; rfl
          have hF1' : Fr (fun a _ => a = 37) σ τ1 := hF.trans hF1
          refine ⟨r, τ1, he, hF1'.g hJ.1, hr, fun y => ⟨by omega, ?_⟩, fun y => ⟨by omega, ?_⟩⟩
          · exact ih (k + 1) val code τ1 (by omega) (by omega) (by omega) hF1' (hB.ext (by omega) (fun c cc c1 c2 => by
              have : c = k := by omega
              rw [this]; show val ≤ -(V k); omega)) hc hv
          · have hT := hB.take (k := k) ⟨k0, by omega⟩ (show -(V k) < val by omega)
            have := ih (k + 1) (-(V k)) k τ1 (by omega) (by omega) (by omega) hF1' hT (by omega) (by omega)
            rw [Int.neg_neg, ← er] at this
            exact this
        · have e0 : V k = 0 := by rw [hV, z]; exact LedT_self
          refine ⟨fun y => ⟨by omega, ?_⟩, fun y => by omega⟩
          exact ih (k + 1) val code τ (by omega) (by omega) (by omega) hF (hB.ext (by omega) (fun c cc c1 c2 => by
              have : c = k := by omega
              rw [this]; show val ≤ -(V k); omega)) hc hv
    have := loop _ 0 0 (-1) σ rfl (by decide) h0 (Fr.refl _ _) (BestS.start (fun c hc => hc.1)) (by decide) (by decide)
    exact this
  · obtain ⟨gτ, ⟨K, fr, va, D2, hm, hd, h2, hco⟩, rc, ew, ecl, hg, n8⟩ := hR
    refine (m_whose (sc := sc) (d := d + 6) gτ hm h2 rx rc).map (fun r σ2 ob => ob.map (fun ok z => ⟨fun r0 z0 => ?_, RG.low hm z.1 AGz_in z.2.1⟩))
    obtain ⟨val, e⟩ := z.2.2
    obtain ⟨val0, z0⟩ := z0
    rw [ew] at e
    exact (BestS.uniq e (z0.congr (fun c => Iff.rfl) (fun c hc => by rw [hV]; show -(LedT _ _ _ _ _) = -(LedT _ _ _ _ _); rw [hd.led ok hc]))).2
end
