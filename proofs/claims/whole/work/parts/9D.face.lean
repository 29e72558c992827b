/-! THE CLASS'S FACE: what it refuses; a question answered by both. -/
/-- the class has thrown: q = 0, no such stall; q = 1, no such argument -/
def KO (σ σ1 : aH) (q : Nat) : Prop := σ1 = sSkip (wI σ 0 (7 + (q : Int)) (rI σ 0 (7 + (q : Int)) + 1)) 1 6
/-- room for refusals -/
def RmC (σ : aH) : Prop := gN σ + 1 ≤ 1000000 ∧ (-1 ≤ rI σ 0 7 ∧ rI σ 0 7 ≤ 1000000) ∧ (-1 ≤ rI σ 0 8 ∧ rI σ 0 8 ≤ 1000000)
section
variable {sc : Nat × (Nat → Int32)} {d : Nat} {σ : aH} {u : Nat} {n : Int}
theorem s_require1 {x : Int} (hG : G σ u) (rx : inR x) (h : x ≠ 0) : Ev sc (d + 1) mX9_require [.ref 0, .int (nZ x)] σ (.inl none) σ := by
  obtain ⟨o, σ1, he, hq⟩ := t_X9_require (sc := sc) (d := d) (Q := fun o σ1 => o = .inl none ∧ σ1 = σ) hG rx ⟨fun _ => ⟨rfl, rfl⟩, fun z => absurd z h⟩
  rw [hq.1, hq.2] at he; exact he
theorem s_require0 (hG : G σ u) (hr : RmC σ) : ∃ σ1 : aH, Ev sc (d + 1) mX9_require [.ref 0, .int (nZ 0)] σ (.inr 1) σ1 ∧ KO σ σ1 1 := by
  obtain ⟨o, σ1, he, hq⟩ := t_X9_require (sc := sc) (d := d) (Q := fun o σ1 => o = .inr 1 ∧ KO σ σ1 1) (x1 := 0) hG (by decide) ⟨fun z => absurd rfl z, fun _ => ⟨by have := hr.2.2; omega, fun σ2 e2 => ⟨by rw [← e2]; exact hr.1, rfl, by rw [← e2]; rfl⟩⟩⟩
  rw [hq.1] at he; exact ⟨σ1, he, hq.2⟩
theorem s_requireStall1 {x : Int} (hG : G σ u) (rx : inR x) (hn : rI σ (u + 1) 8 = n) (h : 0 ≤ x ∧ x < n) : Ev sc (d + 1) mX9_requireStall [.ref 0, .int (nZ x)] σ (.inl none) σ := by
  obtain ⟨o, σ1, he, hq⟩ := t_X9_requireStall (sc := sc) (d := d) (Q := fun o σ1 => o = .inl none ∧ σ1 = σ) hG rx ⟨fun z => by omega, fun _ => ⟨fun _ => ⟨rfl, rfl⟩, fun z => by omega⟩⟩
  rw [hq.1, hq.2] at he; exact he
theorem s_requireStall0 {x : Int} (hG : G σ u) (rx : inR x) (hn : rI σ (u + 1) 8 = n) (hr : RmC σ) (h : ¬ (0 ≤ x ∧ x < n)) : ∃ σ1 : aH, Ev sc (d + 1) mX9_requireStall [.ref 0, .int (nZ x)] σ (.inr 0) σ1 ∧ KO σ σ1 0 := by
  have b : inR (rI σ 0 7 + 1) := by have := hr.2.1; omega
  obtain ⟨o, σ1, he, hq⟩ := t_X9_requireStall (sc := sc) (d := d) (Q := fun o σ1 => o = .inr 0 ∧ KO σ σ1 0) hG rx ⟨fun _ => ⟨b, fun σ2 e2 => ⟨by rw [← e2]; exact hr.1, rfl, by rw [← e2]; rfl⟩⟩, fun z => ⟨fun z1 => by omega, fun _ => ⟨b, fun σ2 e2 => ⟨by rw [← e2]; exact hr.1, rfl, by rw [← e2]; rfl⟩⟩⟩⟩
  rw [hq.1] at he; exact ⟨σ1, he, hq.2⟩
theorem s_requireTwo1 {x y : Int} (hG : G σ u) (rx : inR x) (ry : inR y) (hn : rI σ (u + 1) 8 = n) (hx : 0 ≤ x ∧ x < n) (hy : 0 ≤ y ∧ y < n) (h : x ≠ y) : Ev sc (d + 2) mX9_requireTwo [.ref 0, .int (nZ x), .int (nZ y)] σ (.inl none) σ := by
  obtain ⟨o, σ1, he, hq⟩ := t_X9_requireTwo (sc := sc) (d := d + 1) (Q := fun o σ1 => o = .inl none ∧ σ1 = σ) hG rx ry (Or.inr ⟨σ, s_requireStall1 hG rx hn hx, hG, Or.inr ⟨σ, s_requireStall1 hG ry hn hy, hG, fun z => absurd z h, fun _ => Or.inr ⟨σ, s_require1 hG (by decide) (by decide), hG, rfl, rfl⟩⟩⟩)
  rw [hq.1, hq.2] at he; exact he
theorem s_requireTwo0 {x y : Int} (hG : G σ u) (rx : inR x) (ry : inR y) (hn : rI σ (u + 1) 8 = n) (hr : RmC σ) (h : ¬ ((0 ≤ x ∧ x < n) ∧ (0 ≤ y ∧ y < n))) : ∃ σ1 : aH, Ev sc (d + 2) mX9_requireTwo [.ref 0, .int (nZ x), .int (nZ y)] σ (.inr 0) σ1 ∧ KO σ σ1 0 := by
  have key : T sc (d + 2) mX9_requireTwo [.ref 0, .int (nZ x), .int (nZ y)] σ (fun o σ1 => o = .inr 0 ∧ KO σ σ1 0) := by
    apply t_X9_requireTwo hG rx ry
    by_cases hx : 0 ≤ x ∧ x < n
    · obtain ⟨σ1, he, hk⟩ := s_requireStall0 (sc := sc) (d := d) (x := y) hG ry hn hr (fun z => h ⟨hx, z⟩)
      exact Or.inr ⟨σ, s_requireStall1 hG rx hn hx, hG, Or.inl ⟨0, σ1, he, rfl, hk⟩⟩
    · obtain ⟨σ1, he, hk⟩ := s_requireStall0 (sc := sc) (d := d) (x := x) hG rx hn hr hx
      exact Or.inl ⟨0, σ1, he, rfl, hk⟩
  obtain ⟨o, σ1, he, hq⟩ := key
  rw [hq.1] at he; exact ⟨σ1, he, hq.2⟩
theorem s_requireTwo2 {x : Int} (hG : G σ u) (rx : inR x) (hn : rI σ (u + 1) 8 = n) (hr : RmC σ) (hx : 0 ≤ x ∧ x < n) : ∃ σ1 : aH, Ev sc (d + 2) mX9_requireTwo [.ref 0, .int (nZ x), .int (nZ x)] σ (.inr 1) σ1 ∧ KO σ σ1 1 := by
  obtain ⟨σ2, he2, hk2⟩ := s_require0 (sc := sc) (d := d) hG hr
  obtain ⟨o, σ1, he, hq⟩ := t_X9_requireTwo (sc := sc) (d := d + 1) (Q := fun o σ1 => o = .inr 1 ∧ KO σ σ1 1) hG rx rx (Or.inr ⟨σ, s_requireStall1 hG rx hn hx, hG, Or.inr ⟨σ, s_requireStall1 hG rx hn hx, hG, fun _ => Or.inl ⟨1, σ2, he2, rfl, hk2⟩, fun z => absurd rfl z⟩⟩)
  rw [hq.1] at he; exact ⟨σ1, he, hq.2⟩
theorem s_isMinute {x : Int} (hG : G σ u) (rx : inR x) : TI sc (d + 1) mX9_isMinute [.int (nZ x)] σ (fun r σ1 => σ1 = σ ∧ ((r = 1 ∧ (0 ≤ x ∧ x < 1440)) ∨ (r = 0 ∧ ¬ (0 ≤ x ∧ x < 1440)))) := by
  apply T.int
  apply t_X9_isMinute hG rx
  exact ⟨fun q => ⟨0, rfl, by decide, rfl, Or.inr ⟨rfl, by omega⟩⟩, fun q => ⟨fun q1 => ⟨0, rfl, by decide, rfl, Or.inr ⟨rfl, by omega⟩⟩, fun q1 => ⟨1, rfl, by decide, rfl, Or.inl ⟨rfl, by omega⟩⟩⟩⟩
theorem s_isEnd {x : Int} (hG : G σ u) (rx : inR x) : TI sc (d + 1) mX9_isEnd [.int (nZ x)] σ (fun r σ1 => σ1 = σ ∧ ((r = 1 ∧ (0 ≤ x ∧ x ≤ 1440)) ∨ (r = 0 ∧ ¬ (0 ≤ x ∧ x ≤ 1440)))) := by
  apply T.int
  apply t_X9_isEnd hG rx
  repeat' (first | intro _ | apply And.intro)
  all_goals first | exact ⟨1, rfl, by decide, rfl, Or.inl ⟨rfl, by omega⟩⟩ | exact ⟨0, rfl, by decide, rfl, Or.inr ⟨rfl, by omega⟩⟩
theorem s_isBit {x : Int} (hG : G σ u) (rx : inR x) : TI sc (d + 1) mX9_isBit [.int (nZ x)] σ (fun r σ1 => σ1 = σ ∧ ((r = 1 ∧ (0 ≤ x ∧ x ≤ 1)) ∨ (r = 0 ∧ ¬ (0 ≤ x ∧ x ≤ 1)))) := by
  apply T.int
  apply t_X9_isBit hG rx
  repeat' (first | intro _ | apply And.intro)
  all_goals first | exact ⟨1, rfl, by decide, rfl, Or.inl ⟨rfl, by omega⟩⟩ | exact ⟨0, rfl, by decide, rfl, Or.inr ⟨rfl, by omega⟩⟩
theorem s_isHeight {x : Int} (hG : G σ u) (rx : inR x) : TI sc (d + 1) mX9_isHeight [.int (nZ x)] σ (fun r σ1 => σ1 = σ ∧ ((r = 1 ∧ (0 ≤ x ∧ x ≤ 60)) ∨ (r = 0 ∧ ¬ (0 ≤ x ∧ x ≤ 60)))) := by
  apply T.int
  apply t_X9_isHeight hG rx
  repeat' (first | intro _ | apply And.intro)
  all_goals first | exact ⟨1, rfl, by decide, rfl, Or.inl ⟨rfl, by omega⟩⟩ | exact ⟨0, rfl, by decide, rfl, Or.inr ⟨rfl, by omega⟩⟩
theorem s_isDue {x : Int} (hG : G σ u) (rx : inR x) : TI sc (d + 1) mX9_isDue [.int (nZ x)] σ (fun r σ1 => σ1 = σ ∧ ((r = 1 ∧ (0 ≤ x ∧ x ≤ 99999)) ∨ (r = 0 ∧ ¬ (0 ≤ x ∧ x ≤ 99999)))) := by
  apply T.int
  apply t_X9_isDue hG rx
  repeat' (first | intro _ | apply And.intro)
  all_goals first | exact ⟨1, rfl, by decide, rfl, Or.inl ⟨rfl, by omega⟩⟩ | exact ⟨0, rfl, by decide, rfl, Or.inr ⟨rfl, by omega⟩⟩
end
/-! outcomes of the class -/
def CQ1 (σ : aH) (ok : Prop) (q : Nat) (Good : Int → aH → Prop) : aO → aH → Prop := fun o σ1 => (ok ∧ ∃ r : Int, o = .inl (some (.int (nZ r))) ∧ inR r ∧ Good r σ1) ∨ (¬ ok ∧ o = .inr q ∧ KO σ σ1 q)
def CQ2 (σ : aH) (o1 o2 : Prop) (Good : Int → aH → Prop) : aO → aH → Prop := fun o σ1 => (o1 ∧ o2 ∧ ∃ r : Int, o = .inl (some (.int (nZ r))) ∧ inR r ∧ Good r σ1) ∨ (¬ o1 ∧ o = .inr 0 ∧ KO σ σ1 0) ∨ (o1 ∧ ¬ o2 ∧ o = .inr 1 ∧ KO σ σ1 1)
section
variable {sc : Nat × (Nat → Int32)} {d : Nat} {σ : aH} {u : Nat} {n : Int}
/-- `require`, in a tree -/
theorem rq {x : Int} {ok : Prop} {Q : aO → aH → Prop} (hG : G σ u) (hr : RmC σ) (hx : (x = 1 ∧ ok) ∨ (x = 0 ∧ ¬ ok)) (bad : ∀ σ1 : aH, ¬ ok → KO σ σ1 1 → Q (.inr 1) σ1) {Z : aH → Prop} (good : ok → Z σ) : (∃ (e9 : Nat) (σ1 : aH), Ev sc (d + 1) mX9_require [.ref 0, .int (nZ x)] σ (.inr e9) σ1 ∧ Q (.inr e9) σ1) ∨ (∃ σ1 : aH, Ev sc (d + 1) mX9_require [.ref 0, .int (nZ x)] σ (.inl none) σ1 ∧ G σ1 u ∧ Z σ1) := by
  rcases hx with ⟨e, h⟩ | ⟨e, h⟩
  · rw [e]; exact Or.inr ⟨σ, s_require1 hG (by decide) (by decide), hG, good h⟩
  · rw [e]
    obtain ⟨σ1, he, hk⟩ := s_require0 (sc := sc) (d := d) hG hr
    exact Or.inl ⟨1, σ1, he, bad σ1 h hk⟩
/-- `requireStall`, in a tree -/
theorem rqS {x : Int} {Q : aO → aH → Prop} (hG : G σ u) (hr : RmC σ) (rx : inR x) (hn : rI σ (u + 1) 8 = n) (bad : ∀ σ1 : aH, ¬ (0 ≤ x ∧ x < n) → KO σ σ1 0 → Q (.inr 0) σ1) {Z : aH → Prop} (good : (0 ≤ x ∧ x < n) → Z σ) : (∃ (e9 : Nat) (σ1 : aH), Ev sc (d + 1) mX9_requireStall [.ref 0, .int (nZ x)] σ (.inr e9) σ1 ∧ Q (.inr e9) σ1) ∨ (∃ σ1 : aH, Ev sc (d + 1) mX9_requireStall [.ref 0, .int (nZ x)] σ (.inl none) σ1 ∧ G σ1 u ∧ Z σ1) := by
  by_cases h : 0 ≤ x ∧ x < n
  · exact Or.inr ⟨σ, s_requireStall1 hG rx hn h, hG, good h⟩
  · obtain ⟨σ1, he, hk⟩ := s_requireStall0 (sc := sc) (d := d) hG rx hn hr h
    exact Or.inl ⟨0, σ1, he, bad σ1 h hk⟩
/-- `requireTwo`, in a tree -/
theorem rqT {x y : Int} {Q : aO → aH → Prop} (hG : G σ u) (hr : RmC σ) (rx : inR x) (ry : inR y) (hn : rI σ (u + 1) 8 = n) (bad0 : ∀ σ1 : aH, ¬ ((0 ≤ x ∧ x < n) ∧ (0 ≤ y ∧ y < n)) → KO σ σ1 0 → Q (.inr 0) σ1) (bad1 : ∀ σ1 : aH, ((0 ≤ x ∧ x < n) ∧ (0 ≤ y ∧ y < n)) → x = y → KO σ σ1 1 → Q (.inr 1) σ1) {Z : aH → Prop} (good : ((0 ≤ x ∧ x < n) ∧ (0 ≤ y ∧ y < n)) → x ≠ y → Z σ) : (∃ (e9 : Nat) (σ1 : aH), Ev sc (d + 2) mX9_requireTwo [.ref 0, .int (nZ x), .int (nZ y)] σ (.inr e9) σ1 ∧ Q (.inr e9) σ1) ∨ (∃ σ1 : aH, Ev sc (d + 2) mX9_requireTwo [.ref 0, .int (nZ x), .int (nZ y)] σ (.inl none) σ1 ∧ G σ1 u ∧ Z σ1) := by
  by_cases h : (0 ≤ x ∧ x < n) ∧ (0 ≤ y ∧ y < n)
  · by_cases e : x = y
    · obtain ⟨σ1, he, hk⟩ := s_requireTwo2 (sc := sc) (d := d) hG rx hn hr h.1
      rw [← e] at bad1 ⊢
      exact Or.inl ⟨1, σ1, he, bad1 σ1 ⟨h.1, h.1⟩ rfl hk⟩
    · exact Or.inr ⟨σ, s_requireTwo1 hG rx ry hn h.1 h.2 e, hG, good h e⟩
  · obtain ⟨σ1, he, hk⟩ := s_requireTwo0 (sc := sc) (d := d) hG rx ry hn hr h
    exact Or.inl ⟨0, σ1, he, bad0 σ1 h hk⟩
end
