/-! THE LAW: what a case takes. -/
def xs (sc : Nat × (Nat → Int32)) (k : Int) : Int := (sc.2 k.toNat).toInt
theorem xs_R (sc : Nat × (Nat → Int32)) (k : Int) : inR (xs sc k) := tR _
section
variable {C : aM → List Value → aH → aO → aH → Prop} {c : Nat} {code : ByteArray} {mL : Nat} {rt : Option FieldType} {ini : Bool} {hs : List (Nat × Nat × Nat × Nat)} {sc : Nat × (Nat → Int32)} {P : aO → aH → Prop} {pc : Nat} {l : aL} {st : List Value} {σ : aH}
theorem i_isld {i : Int} (d : decode code pc = .ok (.iaload, 1)) (ri : inR i) (hi : 0 ≤ i ∧ i < (sc.1 : Int)) (k0 : wp C c code mL rt ini hs sc P (pc + 1) l (.int (nZ (xs sc i)) :: st) σ) : wp C c code mL rt ini hs sc P pc l (.int (nZ i) :: .ref 1000000 :: st) σ := w_isld d (nZ_in hi ri) (by unfold xs at k0; rw [nZ_of] at k0; rw [nZ_clamp ri]; exact k0)
end
/-- a call through a wrapper, and the reference's -/
def JW (sc : Nat × (Nat → Int32)) (d : Nat) (qw qr : aM) (args : List Value) (σ : aH) (N : Int) (B : Int → Prop) : Prop :=
  ∃ (k r : Int) (σ1 σ2 : aH) (u1 u2 : Nat), Ev sc d qw (.ref 0 :: (args ++ [.ref 344])) σ (.inl (some (.int (nZ k)))) σ1 ∧ inR k ∧ G σ1 u1 ∧ Ev sc d qr (.ref 76 :: args) σ1 (.inl (some (.int (nZ r)))) σ2 ∧ inR r ∧ G σ2 u2 ∧ rI σ2 76 0 = k ∧ (k = 0 → rJ σ2 344 0 = r ∧ B r) ∧ JE σ σ2 N
theorem s_thrown {sc : Nat × (Nat → Int32)} {d : Nat} {σ : aH} {u : Nat} (hG : G σ u) : Ev sc (d + 1) mX10_thrown [.ref 76] σ (.inl (some (.int (nZ (rI σ 76 0))))) σ := by
  obtain ⟨o, σ1, he, hq⟩ := t_X10_thrown (sc := sc) (d := d) (Q := fun o σ1 => o = .inl (some (.int (nZ (rI σ 76 0)))) ∧ σ1 = σ) hG ⟨rfl, rfl⟩
  rw [hq.1, hq.2] at he; exact he
theorem JE.g {σ σ2 : aH} {N : Int} (h : JE σ σ2 N) : ∃ u : Nat, G σ2 u := by
  obtain ⟨⟨u, v, n, W, H, D, Es, Er, du, fo, hJ⟩, _⟩ := h
  exact ⟨u, hJ.1⟩
theorem jw_market {sc : Nat × (Nat → Int32)} {d : Nat} {σ : aH} {u : Nat} {N : Int} {x1 : Int} (hG : G σ u) (h : JQ sc d mX9_market mX10_market [.int (nZ x1)] (kq 1) σ N) : JW sc (d + 1) mL_market mX10_market [.int (nZ x1)] σ N (fun _ => True) := by
  rcases h with ⟨r, σ1, σ2, e1, rr, ⟨u1, g1⟩, e2, t0, tj, je, hb⟩ | ⟨e, r, σ1, σ2, e1, he, hk, ⟨u1, g1⟩, e2, rr, t0, je⟩
  · obtain ⟨u2, g2⟩ := je.g
    exact ⟨0, r, wJ σ1 344 0 r, σ2, u1, u2, wr_market hG g1 rr e1, by decide, G.wJ g1, Ev.mono _ _ _ _ _ _ e2, rr, g2, t0, fun _ => ⟨tj, hb⟩, je⟩
  · obtain ⟨u2, g2⟩ := je.g
    rcases he with rfl | rfl
    · exact absurd (show kq 1 0 = 0 by decide) hk
    · exact ⟨1, r, σ1, σ2, u1, u2, wr_market_1 (u1 := u1) hG e1, by decide, g1, Ev.mono _ _ _ _ _ _ e2, rr, g2, t0.trans (by decide), fun z => absurd z (by decide), je⟩
theorem jw_told {sc : Nat × (Nat → Int32)} {d : Nat} {σ : aH} {u : Nat} {N : Int} {x1 : Int} (hG : G σ u) (h : JQ sc d mX9_told mX10_told [.int (nZ x1)] (kq 1) σ N) : JW sc (d + 1) mL_told mX10_told [.int (nZ x1)] σ N (fun _ => True) := by
  rcases h with ⟨r, σ1, σ2, e1, rr, ⟨u1, g1⟩, e2, t0, tj, je, hb⟩ | ⟨e, r, σ1, σ2, e1, he, hk, ⟨u1, g1⟩, e2, rr, t0, je⟩
  · obtain ⟨u2, g2⟩ := je.g
    exact ⟨0, r, wJ σ1 344 0 r, σ2, u1, u2, wr_told hG g1 rr e1, by decide, G.wJ g1, Ev.mono _ _ _ _ _ _ e2, rr, g2, t0, fun _ => ⟨tj, hb⟩, je⟩
  · obtain ⟨u2, g2⟩ := je.g
    rcases he with rfl | rfl
    · exact absurd (show kq 1 0 = 0 by decide) hk
    · exact ⟨1, r, σ1, σ2, u1, u2, wr_told_1 (u1 := u1) hG e1, by decide, g1, Ev.mono _ _ _ _ _ _ e2, rr, g2, t0.trans (by decide), fun z => absurd z (by decide), je⟩
theorem jw_stall {sc : Nat × (Nat → Int32)} {d : Nat} {σ : aH} {u : Nat} {N : Int} {x1 : Int} {x2 : Int} (hG : G σ u) (h : JQ sc d mX9_stall mX10_stall [.int (nZ x1), .int (nZ x2)] k12 σ N) : JW sc (d + 1) mL_stall mX10_stall [.int (nZ x1), .int (nZ x2)] σ N (fun _ => True) := by
  rcases h with ⟨r, σ1, σ2, e1, rr, ⟨u1, g1⟩, e2, t0, tj, je, hb⟩ | ⟨e, r, σ1, σ2, e1, he, hk, ⟨u1, g1⟩, e2, rr, t0, je⟩
  · obtain ⟨u2, g2⟩ := je.g
    exact ⟨0, r, wJ σ1 344 0 r, σ2, u1, u2, wr_stall hG g1 rr e1, by decide, G.wJ g1, Ev.mono _ _ _ _ _ _ e2, rr, g2, t0, fun _ => ⟨tj, hb⟩, je⟩
  · obtain ⟨u2, g2⟩ := je.g
    rcases he with rfl | rfl
    · exact ⟨1, r, σ1, σ2, u1, u2, wr_stall_0 (u1 := u1) hG e1, by decide, g1, Ev.mono _ _ _ _ _ _ e2, rr, g2, t0.trans (by decide), fun z => absurd z (by decide), je⟩
    · exact ⟨2, r, σ1, σ2, u1, u2, wr_stall_1 (u1 := u1) hG e1, by decide, g1, Ev.mono _ _ _ _ _ _ e2, rr, g2, t0.trans (by decide), fun z => absurd z (by decide), je⟩
theorem jw_length {sc : Nat × (Nat → Int32)} {d : Nat} {σ : aH} {u : Nat} {N : Int} {x1 : Int} {x2 : Int} (hG : G σ u) (h : JQ sc d mX9_length mX10_length [.int (nZ x1), .int (nZ x2)] k12 σ N) : JW sc (d + 1) mL_length mX10_length [.int (nZ x1), .int (nZ x2)] σ N (fun _ => True) := by
  rcases h with ⟨r, σ1, σ2, e1, rr, ⟨u1, g1⟩, e2, t0, tj, je, hb⟩ | ⟨e, r, σ1, σ2, e1, he, hk, ⟨u1, g1⟩, e2, rr, t0, je⟩
  · obtain ⟨u2, g2⟩ := je.g
    exact ⟨0, r, wJ σ1 344 0 r, σ2, u1, u2, wr_length hG g1 rr e1, by decide, G.wJ g1, Ev.mono _ _ _ _ _ _ e2, rr, g2, t0, fun _ => ⟨tj, hb⟩, je⟩
  · obtain ⟨u2, g2⟩ := je.g
    rcases he with rfl | rfl
    · exact ⟨1, r, σ1, σ2, u1, u2, wr_length_0 (u1 := u1) hG e1, by decide, g1, Ev.mono _ _ _ _ _ _ e2, rr, g2, t0.trans (by decide), fun z => absurd z (by decide), je⟩
    · exact ⟨2, r, σ1, σ2, u1, u2, wr_length_1 (u1 := u1) hG e1, by decide, g1, Ev.mono _ _ _ _ _ _ e2, rr, g2, t0.trans (by decide), fun z => absurd z (by decide), je⟩
theorem jw_shades {sc : Nat × (Nat → Int32)} {d : Nat} {σ : aH} {u : Nat} {N : Int} {x1 : Int} {x2 : Int} {x3 : Int} (hG : G σ u) (h : JQB sc d mX9_shades mX10_shades [.int (nZ x1), .int (nZ x2), .int (nZ x3)] k12 σ N (fun r => r = 0 ∨ r = 1)) : JW sc (d + 1) mL_shades mX10_shades [.int (nZ x1), .int (nZ x2), .int (nZ x3)] σ N (fun r => r = 0 ∨ r = 1) := by
  rcases h with ⟨r, σ1, σ2, e1, rr, ⟨u1, g1⟩, e2, t0, tj, je, hb⟩ | ⟨e, r, σ1, σ2, e1, he, hk, ⟨u1, g1⟩, e2, rr, t0, je⟩
  · obtain ⟨u2, g2⟩ := je.g
    exact ⟨0, r, wJ σ1 344 0 r, σ2, u1, u2, wr_shades hG g1 rr hb e1, by decide, G.wJ g1, Ev.mono _ _ _ _ _ _ e2, rr, g2, t0, fun _ => ⟨tj, hb⟩, je⟩
  · obtain ⟨u2, g2⟩ := je.g
    rcases he with rfl | rfl
    · exact ⟨1, r, σ1, σ2, u1, u2, wr_shades_0 (u1 := u1) hG e1, by decide, g1, Ev.mono _ _ _ _ _ _ e2, rr, g2, t0.trans (by decide), fun z => absurd z (by decide), je⟩
    · exact ⟨2, r, σ1, σ2, u1, u2, wr_shades_1 (u1 := u1) hG e1, by decide, g1, Ev.mono _ _ _ _ _ _ e2, rr, g2, t0.trans (by decide), fun z => absurd z (by decide), je⟩
theorem jw_under {sc : Nat × (Nat → Int32)} {d : Nat} {σ : aH} {u : Nat} {N : Int} {x1 : Int} {x2 : Int} (hG : G σ u) (h : JQ sc d mX9_under mX10_under [.int (nZ x1), .int (nZ x2)] k12 σ N) : JW sc (d + 1) mL_under mX10_under [.int (nZ x1), .int (nZ x2)] σ N (fun _ => True) := by
  rcases h with ⟨r, σ1, σ2, e1, rr, ⟨u1, g1⟩, e2, t0, tj, je, hb⟩ | ⟨e, r, σ1, σ2, e1, he, hk, ⟨u1, g1⟩, e2, rr, t0, je⟩
  · obtain ⟨u2, g2⟩ := je.g
    exact ⟨0, r, wJ σ1 344 0 r, σ2, u1, u2, wr_under hG g1 rr e1, by decide, G.wJ g1, Ev.mono _ _ _ _ _ _ e2, rr, g2, t0, fun _ => ⟨tj, hb⟩, je⟩
  · obtain ⟨u2, g2⟩ := je.g
    rcases he with rfl | rfl
    · exact ⟨1, r, σ1, σ2, u1, u2, wr_under_0 (u1 := u1) hG e1, by decide, g1, Ev.mono _ _ _ _ _ _ e2, rr, g2, t0.trans (by decide), fun z => absurd z (by decide), je⟩
    · exact ⟨2, r, σ1, σ2, u1, u2, wr_under_1 (u1 := u1) hG e1, by decide, g1, Ev.mono _ _ _ _ _ _ e2, rr, g2, t0.trans (by decide), fun z => absurd z (by decide), je⟩
theorem jw_minutes {sc : Nat × (Nat → Int32)} {d : Nat} {σ : aH} {u : Nat} {N : Int} {x1 : Int} {x2 : Int} (hG : G σ u) (h : JQ sc d mX9_minutes mX10_minutes [.int (nZ x1), .int (nZ x2)] k12 σ N) : JW sc (d + 1) mL_minutes mX10_minutes [.int (nZ x1), .int (nZ x2)] σ N (fun _ => True) := by
  rcases h with ⟨r, σ1, σ2, e1, rr, ⟨u1, g1⟩, e2, t0, tj, je, hb⟩ | ⟨e, r, σ1, σ2, e1, he, hk, ⟨u1, g1⟩, e2, rr, t0, je⟩
  · obtain ⟨u2, g2⟩ := je.g
    exact ⟨0, r, wJ σ1 344 0 r, σ2, u1, u2, wr_minutes hG g1 rr e1, by decide, G.wJ g1, Ev.mono _ _ _ _ _ _ e2, rr, g2, t0, fun _ => ⟨tj, hb⟩, je⟩
  · obtain ⟨u2, g2⟩ := je.g
    rcases he with rfl | rfl
    · exact ⟨1, r, σ1, σ2, u1, u2, wr_minutes_0 (u1 := u1) hG e1, by decide, g1, Ev.mono _ _ _ _ _ _ e2, rr, g2, t0.trans (by decide), fun z => absurd z (by decide), je⟩
    · exact ⟨2, r, σ1, σ2, u1, u2, wr_minutes_1 (u1 := u1) hG e1, by decide, g1, Ev.mono _ _ _ _ _ _ e2, rr, g2, t0.trans (by decide), fun z => absurd z (by decide), je⟩
theorem jw_chill {sc : Nat × (Nat → Int32)} {d : Nat} {σ : aH} {u : Nat} {N : Int} {x1 : Int} (hG : G σ u) (h : JQ sc d mX9_chill mX10_chill [.int (nZ x1)] (kq 0) σ N) : JW sc (d + 1) mL_chill mX10_chill [.int (nZ x1)] σ N (fun _ => True) := by
  rcases h with ⟨r, σ1, σ2, e1, rr, ⟨u1, g1⟩, e2, t0, tj, je, hb⟩ | ⟨e, r, σ1, σ2, e1, he, hk, ⟨u1, g1⟩, e2, rr, t0, je⟩
  · obtain ⟨u2, g2⟩ := je.g
    exact ⟨0, r, wJ σ1 344 0 r, σ2, u1, u2, wr_chill hG g1 rr e1, by decide, G.wJ g1, Ev.mono _ _ _ _ _ _ e2, rr, g2, t0, fun _ => ⟨tj, hb⟩, je⟩
  · obtain ⟨u2, g2⟩ := je.g
    rcases he with rfl | rfl
    · exact ⟨1, r, σ1, σ2, u1, u2, wr_chill_0 (u1 := u1) hG e1, by decide, g1, Ev.mono _ _ _ _ _ _ e2, rr, g2, t0.trans (by decide), fun z => absurd z (by decide), je⟩
    · exact absurd (show kq 0 1 = 0 by decide) hk
theorem jw_owes {sc : Nat × (Nat → Int32)} {d : Nat} {σ : aH} {u : Nat} {N : Int} {x1 : Int} {x2 : Int} {x3 : Int} (hG : G σ u) (h : JQ sc d mX9_owes mX10_owes [.int (nZ x1), .int (nZ x2), .int (nZ x3)] k12 σ N) : JW sc (d + 1) mL_owes mX10_owes [.int (nZ x1), .int (nZ x2), .int (nZ x3)] σ N (fun _ => True) := by
  rcases h with ⟨r, σ1, σ2, e1, rr, ⟨u1, g1⟩, e2, t0, tj, je, hb⟩ | ⟨e, r, σ1, σ2, e1, he, hk, ⟨u1, g1⟩, e2, rr, t0, je⟩
  · obtain ⟨u2, g2⟩ := je.g
    exact ⟨0, r, wJ σ1 344 0 r, σ2, u1, u2, wr_owes hG g1 rr e1, by decide, G.wJ g1, Ev.mono _ _ _ _ _ _ e2, rr, g2, t0, fun _ => ⟨tj, hb⟩, je⟩
  · obtain ⟨u2, g2⟩ := je.g
    rcases he with rfl | rfl
    · exact ⟨1, r, σ1, σ2, u1, u2, wr_owes_0 (u1 := u1) hG e1, by decide, g1, Ev.mono _ _ _ _ _ _ e2, rr, g2, t0.trans (by decide), fun z => absurd z (by decide), je⟩
    · exact ⟨2, r, σ1, σ2, u1, u2, wr_owes_1 (u1 := u1) hG e1, by decide, g1, Ev.mono _ _ _ _ _ _ e2, rr, g2, t0.trans (by decide), fun z => absurd z (by decide), je⟩
theorem jw_net {sc : Nat × (Nat → Int32)} {d : Nat} {σ : aH} {u : Nat} {N : Int} {x1 : Int} {x2 : Int} (hG : G σ u) (h : JQ sc d mX9_net mX10_net [.int (nZ x1), .int (nZ x2)] k12 σ N) : JW sc (d + 1) mL_net mX10_net [.int (nZ x1), .int (nZ x2)] σ N (fun _ => True) := by
  rcases h with ⟨r, σ1, σ2, e1, rr, ⟨u1, g1⟩, e2, t0, tj, je, hb⟩ | ⟨e, r, σ1, σ2, e1, he, hk, ⟨u1, g1⟩, e2, rr, t0, je⟩
  · obtain ⟨u2, g2⟩ := je.g
    exact ⟨0, r, wJ σ1 344 0 r, σ2, u1, u2, wr_net hG g1 rr e1, by decide, G.wJ g1, Ev.mono _ _ _ _ _ _ e2, rr, g2, t0, fun _ => ⟨tj, hb⟩, je⟩
  · obtain ⟨u2, g2⟩ := je.g
    rcases he with rfl | rfl
    · exact ⟨1, r, σ1, σ2, u1, u2, wr_net_0 (u1 := u1) hG e1, by decide, g1, Ev.mono _ _ _ _ _ _ e2, rr, g2, t0.trans (by decide), fun z => absurd z (by decide), je⟩
    · exact ⟨2, r, σ1, σ2, u1, u2, wr_net_1 (u1 := u1) hG e1, by decide, g1, Ev.mono _ _ _ _ _ _ e2, rr, g2, t0.trans (by decide), fun z => absurd z (by decide), je⟩
theorem jw_payments {sc : Nat × (Nat → Int32)} {d : Nat} {σ : aH} {u : Nat} {N : Int} {x1 : Int} (hG : G σ u) (h : JQ sc d mX9_payments mX10_payments [.int (nZ x1)] (kq 1) σ N) : JW sc (d + 1) mL_payments mX10_payments [.int (nZ x1)] σ N (fun _ => True) := by
  rcases h with ⟨r, σ1, σ2, e1, rr, ⟨u1, g1⟩, e2, t0, tj, je, hb⟩ | ⟨e, r, σ1, σ2, e1, he, hk, ⟨u1, g1⟩, e2, rr, t0, je⟩
  · obtain ⟨u2, g2⟩ := je.g
    exact ⟨0, r, wJ σ1 344 0 r, σ2, u1, u2, wr_payments hG g1 rr e1, by decide, G.wJ g1, Ev.mono _ _ _ _ _ _ e2, rr, g2, t0, fun _ => ⟨tj, hb⟩, je⟩
  · obtain ⟨u2, g2⟩ := je.g
    rcases he with rfl | rfl
    · exact absurd (show kq 1 0 = 0 by decide) hk
    · exact ⟨1, r, σ1, σ2, u1, u2, wr_payments_1 (u1 := u1) hG e1, by decide, g1, Ev.mono _ _ _ _ _ _ e2, rr, g2, t0.trans (by decide), fun z => absurd z (by decide), je⟩
theorem jw_first {sc : Nat × (Nat → Int32)} {d : Nat} {σ : aH} {u : Nat} {N : Int} {x1 : Int} (hG : G σ u) (h : JQ sc d mX9_first mX10_first [.int (nZ x1)] (kq 1) σ N) : JW sc (d + 1) mL_first mX10_first [.int (nZ x1)] σ N (fun _ => True) := by
  rcases h with ⟨r, σ1, σ2, e1, rr, ⟨u1, g1⟩, e2, t0, tj, je, hb⟩ | ⟨e, r, σ1, σ2, e1, he, hk, ⟨u1, g1⟩, e2, rr, t0, je⟩
  · obtain ⟨u2, g2⟩ := je.g
    exact ⟨0, r, wJ σ1 344 0 r, σ2, u1, u2, wr_first hG g1 rr e1, by decide, G.wJ g1, Ev.mono _ _ _ _ _ _ e2, rr, g2, t0, fun _ => ⟨tj, hb⟩, je⟩
  · obtain ⟨u2, g2⟩ := je.g
    rcases he with rfl | rfl
    · exact absurd (show kq 1 0 = 0 by decide) hk
    · exact ⟨1, r, σ1, σ2, u1, u2, wr_first_1 (u1 := u1) hG e1, by decide, g1, Ev.mono _ _ _ _ _ _ e2, rr, g2, t0.trans (by decide), fun z => absurd z (by decide), je⟩
theorem jw_winter {sc : Nat × (Nat → Int32)} {d : Nat} {σ : aH} {u : Nat} {N : Int} {x1 : Int} (hG : G σ u) (h : JQ sc d mX9_winter mX10_winter [.int (nZ x1)] (kq 1) σ N) : JW sc (d + 1) mL_winter mX10_winter [.int (nZ x1)] σ N (fun _ => True) := by
  rcases h with ⟨r, σ1, σ2, e1, rr, ⟨u1, g1⟩, e2, t0, tj, je, hb⟩ | ⟨e, r, σ1, σ2, e1, he, hk, ⟨u1, g1⟩, e2, rr, t0, je⟩
  · obtain ⟨u2, g2⟩ := je.g
    exact ⟨0, r, wJ σ1 344 0 r, σ2, u1, u2, wr_winter hG g1 rr e1, by decide, G.wJ g1, Ev.mono _ _ _ _ _ _ e2, rr, g2, t0, fun _ => ⟨tj, hb⟩, je⟩
  · obtain ⟨u2, g2⟩ := je.g
    rcases he with rfl | rfl
    · exact absurd (show kq 1 0 = 0 by decide) hk
    · exact ⟨1, r, σ1, σ2, u1, u2, wr_winter_1 (u1 := u1) hG e1, by decide, g1, Ev.mono _ _ _ _ _ _ e2, rr, g2, t0.trans (by decide), fun z => absurd z (by decide), je⟩
theorem jw_move {sc : Nat × (Nat → Int32)} {d : Nat} {σ : aH} {u : Nat} {N : Int} {x1 : Int} {x2 : Int} {x3 : Int} (hG : G σ u) (h : JQ sc d mX9_move mX10_move [.int (nZ x1), .int (nZ x2), .int (nZ x3)] k12 σ N) : JW sc (d + 1) mL_move mX10_move [.int (nZ x1), .int (nZ x2), .int (nZ x3)] σ N (fun _ => True) := by
  rcases h with ⟨r, σ1, σ2, e1, rr, ⟨u1, g1⟩, e2, t0, tj, je, hb⟩ | ⟨e, r, σ1, σ2, e1, he, hk, ⟨u1, g1⟩, e2, rr, t0, je⟩
  · obtain ⟨u2, g2⟩ := je.g
    exact ⟨0, r, wJ σ1 344 0 r, σ2, u1, u2, wr_move hG g1 rr e1, by decide, G.wJ g1, Ev.mono _ _ _ _ _ _ e2, rr, g2, t0, fun _ => ⟨tj, hb⟩, je⟩
  · obtain ⟨u2, g2⟩ := je.g
    rcases he with rfl | rfl
    · exact ⟨1, r, σ1, σ2, u1, u2, wr_move_0 (u1 := u1) hG e1, by decide, g1, Ev.mono _ _ _ _ _ _ e2, rr, g2, t0.trans (by decide), fun z => absurd z (by decide), je⟩
    · exact ⟨2, r, σ1, σ2, u1, u2, wr_move_1 (u1 := u1) hG e1, by decide, g1, Ev.mono _ _ _ _ _ _ e2, rr, g2, t0.trans (by decide), fun z => absurd z (by decide), je⟩
theorem jw_tall {sc : Nat × (Nat → Int32)} {d : Nat} {σ : aH} {u : Nat} {N : Int} {x1 : Int} {x2 : Int} (hG : G σ u) (h : JQ sc d mX9_tall mX10_tall [.int (nZ x1), .int (nZ x2)] k12 σ N) : JW sc (d + 1) mL_tall mX10_tall [.int (nZ x1), .int (nZ x2)] σ N (fun _ => True) := by
  rcases h with ⟨r, σ1, σ2, e1, rr, ⟨u1, g1⟩, e2, t0, tj, je, hb⟩ | ⟨e, r, σ1, σ2, e1, he, hk, ⟨u1, g1⟩, e2, rr, t0, je⟩
  · obtain ⟨u2, g2⟩ := je.g
    exact ⟨0, r, wJ σ1 344 0 r, σ2, u1, u2, wr_tall hG g1 rr e1, by decide, G.wJ g1, Ev.mono _ _ _ _ _ _ e2, rr, g2, t0, fun _ => ⟨tj, hb⟩, je⟩
  · obtain ⟨u2, g2⟩ := je.g
    rcases he with rfl | rfl
    · exact ⟨1, r, σ1, σ2, u1, u2, wr_tall_0 (u1 := u1) hG e1, by decide, g1, Ev.mono _ _ _ _ _ _ e2, rr, g2, t0.trans (by decide), fun z => absurd z (by decide), je⟩
    · exact ⟨2, r, σ1, σ2, u1, u2, wr_tall_1 (u1 := u1) hG e1, by decide, g1, Ev.mono _ _ _ _ _ _ e2, rr, g2, t0.trans (by decide), fun z => absurd z (by decide), je⟩
theorem jw_set {sc : Nat × (Nat → Int32)} {d : Nat} {σ : aH} {u : Nat} {N : Int} {x1 : Int} {x2 : Int} (hG : G σ u) (h : JQ sc d mX9_set mX10_set [.int (nZ x1), .int (nZ x2)] (kq 1) σ N) : JW sc (d + 1) mL_set mX10_set [.int (nZ x1), .int (nZ x2)] σ N (fun _ => True) := by
  rcases h with ⟨r, σ1, σ2, e1, rr, ⟨u1, g1⟩, e2, t0, tj, je, hb⟩ | ⟨e, r, σ1, σ2, e1, he, hk, ⟨u1, g1⟩, e2, rr, t0, je⟩
  · obtain ⟨u2, g2⟩ := je.g
    exact ⟨0, r, wJ σ1 344 0 r, σ2, u1, u2, wr_set hG g1 rr e1, by decide, G.wJ g1, Ev.mono _ _ _ _ _ _ e2, rr, g2, t0, fun _ => ⟨tj, hb⟩, je⟩
  · obtain ⟨u2, g2⟩ := je.g
    rcases he with rfl | rfl
    · exact absurd (show kq 1 0 = 0 by decide) hk
    · exact ⟨1, r, σ1, σ2, u1, u2, wr_set_1 (u1 := u1) hG e1, by decide, g1, Ev.mono _ _ _ _ _ _ e2, rr, g2, t0.trans (by decide), fun z => absurd z (by decide), je⟩
theorem jw_pole {sc : Nat × (Nat → Int32)} {d : Nat} {σ : aH} {u : Nat} {N : Int} {x1 : Int} {x2 : Int} (hG : G σ u) (h : JQ sc d mX9_pole mX10_pole [.int (nZ x1), .int (nZ x2)] (kq 1) σ N) : JW sc (d + 1) mL_pole mX10_pole [.int (nZ x1), .int (nZ x2)] σ N (fun _ => True) := by
  rcases h with ⟨r, σ1, σ2, e1, rr, ⟨u1, g1⟩, e2, t0, tj, je, hb⟩ | ⟨e, r, σ1, σ2, e1, he, hk, ⟨u1, g1⟩, e2, rr, t0, je⟩
  · obtain ⟨u2, g2⟩ := je.g
    exact ⟨0, r, wJ σ1 344 0 r, σ2, u1, u2, wr_pole hG g1 rr e1, by decide, G.wJ g1, Ev.mono _ _ _ _ _ _ e2, rr, g2, t0, fun _ => ⟨tj, hb⟩, je⟩
  · obtain ⟨u2, g2⟩ := je.g
    rcases he with rfl | rfl
    · exact absurd (show kq 1 0 = 0 by decide) hk
    · exact ⟨1, r, σ1, σ2, u1, u2, wr_pole_1 (u1 := u1) hG e1, by decide, g1, Ev.mono _ _ _ _ _ _ e2, rr, g2, t0.trans (by decide), fun z => absurd z (by decide), je⟩
theorem jw_wish {sc : Nat × (Nat → Int32)} {d : Nat} {σ : aH} {u : Nat} {N : Int} {x1 : Int} (hG : G σ u) (h : JQ sc d mX9_wish mX10_wish [.int (nZ x1)] (kq 0) σ N) : JW sc (d + 1) mL_wish mX10_wish [.int (nZ x1)] σ N (fun _ => True) := by
  rcases h with ⟨r, σ1, σ2, e1, rr, ⟨u1, g1⟩, e2, t0, tj, je, hb⟩ | ⟨e, r, σ1, σ2, e1, he, hk, ⟨u1, g1⟩, e2, rr, t0, je⟩
  · obtain ⟨u2, g2⟩ := je.g
    exact ⟨0, r, wJ σ1 344 0 r, σ2, u1, u2, wr_wish hG g1 rr e1, by decide, G.wJ g1, Ev.mono _ _ _ _ _ _ e2, rr, g2, t0, fun _ => ⟨tj, hb⟩, je⟩
  · obtain ⟨u2, g2⟩ := je.g
    rcases he with rfl | rfl
    · exact ⟨1, r, σ1, σ2, u1, u2, wr_wish_0 (u1 := u1) hG e1, by decide, g1, Ev.mono _ _ _ _ _ _ e2, rr, g2, t0.trans (by decide), fun z => absurd z (by decide), je⟩
    · exact absurd (show kq 0 1 = 0 by decide) hk
theorem jw_cold {sc : Nat × (Nat → Int32)} {d : Nat} {σ : aH} {u : Nat} {N : Int} {x1 : Int} {x2 : Int} (hG : G σ u) (h : JQ sc d mX9_cold mX10_cold [.int (nZ x1), .int (nZ x2)] k12 σ N) : JW sc (d + 1) mL_cold mX10_cold [.int (nZ x1), .int (nZ x2)] σ N (fun _ => True) := by
  rcases h with ⟨r, σ1, σ2, e1, rr, ⟨u1, g1⟩, e2, t0, tj, je, hb⟩ | ⟨e, r, σ1, σ2, e1, he, hk, ⟨u1, g1⟩, e2, rr, t0, je⟩
  · obtain ⟨u2, g2⟩ := je.g
    exact ⟨0, r, wJ σ1 344 0 r, σ2, u1, u2, wr_cold hG g1 rr e1, by decide, G.wJ g1, Ev.mono _ _ _ _ _ _ e2, rr, g2, t0, fun _ => ⟨tj, hb⟩, je⟩
  · obtain ⟨u2, g2⟩ := je.g
    rcases he with rfl | rfl
    · exact ⟨1, r, σ1, σ2, u1, u2, wr_cold_0 (u1 := u1) hG e1, by decide, g1, Ev.mono _ _ _ _ _ _ e2, rr, g2, t0.trans (by decide), fun z => absurd z (by decide), je⟩
    · exact ⟨2, r, σ1, σ2, u1, u2, wr_cold_1 (u1 := u1) hG e1, by decide, g1, Ev.mono _ _ _ _ _ _ e2, rr, g2, t0.trans (by decide), fun z => absurd z (by decide), je⟩
theorem jw_what {sc : Nat × (Nat → Int32)} {d : Nat} {σ : aH} {u : Nat} {N : Int} {x1 : Int} (hG : G σ u) (h : JQ sc d mX9_what mX10_what [.int (nZ x1)] (kq 1) σ N) : JW sc (d + 1) mL_what mX10_what [.int (nZ x1)] σ N (fun _ => True) := by
  rcases h with ⟨r, σ1, σ2, e1, rr, ⟨u1, g1⟩, e2, t0, tj, je, hb⟩ | ⟨e, r, σ1, σ2, e1, he, hk, ⟨u1, g1⟩, e2, rr, t0, je⟩
  · obtain ⟨u2, g2⟩ := je.g
    exact ⟨0, r, wJ σ1 344 0 r, σ2, u1, u2, wr_what hG g1 rr e1, by decide, G.wJ g1, Ev.mono _ _ _ _ _ _ e2, rr, g2, t0, fun _ => ⟨tj, hb⟩, je⟩
  · obtain ⟨u2, g2⟩ := je.g
    rcases he with rfl | rfl
    · exact absurd (show kq 1 0 = 0 by decide) hk
    · exact ⟨1, r, σ1, σ2, u1, u2, wr_what_1 (u1 := u1) hG e1, by decide, g1, Ev.mono _ _ _ _ _ _ e2, rr, g2, t0.trans (by decide), fun z => absurd z (by decide), je⟩
theorem jw_days {sc : Nat × (Nat → Int32)} {d : Nat} {σ : aH} {u : Nat} {N : Int} {x1 : Int} (hG : G σ u) (h : JQ sc d mX9_days mX10_days [.int (nZ x1)] (kq 1) σ N) : JW sc (d + 1) mL_days mX10_days [.int (nZ x1)] σ N (fun _ => True) := by
  rcases h with ⟨r, σ1, σ2, e1, rr, ⟨u1, g1⟩, e2, t0, tj, je, hb⟩ | ⟨e, r, σ1, σ2, e1, he, hk, ⟨u1, g1⟩, e2, rr, t0, je⟩
  · obtain ⟨u2, g2⟩ := je.g
    exact ⟨0, r, wJ σ1 344 0 r, σ2, u1, u2, wr_days hG g1 rr e1, by decide, G.wJ g1, Ev.mono _ _ _ _ _ _ e2, rr, g2, t0, fun _ => ⟨tj, hb⟩, je⟩
  · obtain ⟨u2, g2⟩ := je.g
    rcases he with rfl | rfl
    · exact absurd (show kq 1 0 = 0 by decide) hk
    · exact ⟨1, r, σ1, σ2, u1, u2, wr_days_1 (u1 := u1) hG e1, by decide, g1, Ev.mono _ _ _ _ _ _ e2, rr, g2, t0.trans (by decide), fun z => absurd z (by decide), je⟩
theorem jw_when {sc : Nat × (Nat → Int32)} {d : Nat} {σ : aH} {u : Nat} {N : Int} {x1 : Int} (hG : G σ u) (h : JQ sc d mX9_when mX10_when [.int (nZ x1)] (kq 1) σ N) : JW sc (d + 1) mL_when mX10_when [.int (nZ x1)] σ N (fun _ => True) := by
  rcases h with ⟨r, σ1, σ2, e1, rr, ⟨u1, g1⟩, e2, t0, tj, je, hb⟩ | ⟨e, r, σ1, σ2, e1, he, hk, ⟨u1, g1⟩, e2, rr, t0, je⟩
  · obtain ⟨u2, g2⟩ := je.g
    exact ⟨0, r, wJ σ1 344 0 r, σ2, u1, u2, wr_when hG g1 rr e1, by decide, G.wJ g1, Ev.mono _ _ _ _ _ _ e2, rr, g2, t0, fun _ => ⟨tj, hb⟩, je⟩
  · obtain ⟨u2, g2⟩ := je.g
    rcases he with rfl | rfl
    · exact absurd (show kq 1 0 = 0 by decide) hk
    · exact ⟨1, r, σ1, σ2, u1, u2, wr_when_1 (u1 := u1) hG e1, by decide, g1, Ev.mono _ _ _ _ _ _ e2, rr, g2, t0.trans (by decide), fun z => absurd z (by decide), je⟩
theorem jw_clouds {sc : Nat × (Nat → Int32)} {d : Nat} {σ : aH} {u : Nat} {N : Int} {x1 : Int} {x2 : Int} (hG : G σ u) (h : JQ sc d mX9_clouds mX10_clouds [.int (nZ x1), .int (nZ x2)] (kq 1) σ N) : JW sc (d + 1) mL_clouds mX10_clouds [.int (nZ x1), .int (nZ x2)] σ N (fun _ => True) := by
  rcases h with ⟨r, σ1, σ2, e1, rr, ⟨u1, g1⟩, e2, t0, tj, je, hb⟩ | ⟨e, r, σ1, σ2, e1, he, hk, ⟨u1, g1⟩, e2, rr, t0, je⟩
  · obtain ⟨u2, g2⟩ := je.g
    exact ⟨0, r, wJ σ1 344 0 r, σ2, u1, u2, wr_clouds hG g1 rr e1, by decide, G.wJ g1, Ev.mono _ _ _ _ _ _ e2, rr, g2, t0, fun _ => ⟨tj, hb⟩, je⟩
  · obtain ⟨u2, g2⟩ := je.g
    rcases he with rfl | rfl
    · exact absurd (show kq 1 0 = 0 by decide) hk
    · exact ⟨1, r, σ1, σ2, u1, u2, wr_clouds_1 (u1 := u1) hG e1, by decide, g1, Ev.mono _ _ _ _ _ _ e2, rr, g2, t0.trans (by decide), fun z => absurd z (by decide), je⟩
theorem jw_span {sc : Nat × (Nat → Int32)} {d : Nat} {σ : aH} {u : Nat} {N : Int} {x1 : Int} {x2 : Int} {x3 : Int} (hG : G σ u) (h : JQ sc d mX9_span mX10_span [.int (nZ x1), .int (nZ x2), .int (nZ x3)] (kq 1) σ N) : JW sc (d + 1) mL_span mX10_span [.int (nZ x1), .int (nZ x2), .int (nZ x3)] σ N (fun _ => True) := by
  rcases h with ⟨r, σ1, σ2, e1, rr, ⟨u1, g1⟩, e2, t0, tj, je, hb⟩ | ⟨e, r, σ1, σ2, e1, he, hk, ⟨u1, g1⟩, e2, rr, t0, je⟩
  · obtain ⟨u2, g2⟩ := je.g
    exact ⟨0, r, wJ σ1 344 0 r, σ2, u1, u2, wr_span hG g1 rr e1, by decide, G.wJ g1, Ev.mono _ _ _ _ _ _ e2, rr, g2, t0, fun _ => ⟨tj, hb⟩, je⟩
  · obtain ⟨u2, g2⟩ := je.g
    rcases he with rfl | rfl
    · exact absurd (show kq 1 0 = 0 by decide) hk
    · exact ⟨1, r, σ1, σ2, u1, u2, wr_span_1 (u1 := u1) hG e1, by decide, g1, Ev.mono _ _ _ _ _ _ e2, rr, g2, t0.trans (by decide), fun z => absurd z (by decide), je⟩
theorem jw_led {sc : Nat × (Nat → Int32)} {d : Nat} {σ : aH} {u : Nat} {N : Int} {x1 : Int} {x2 : Int} (hG : G σ u) (h : JQ sc d mX9_led mX10_led [.int (nZ x1), .int (nZ x2)] k12 σ N) : JW sc (d + 1) mL_led mX10_led [.int (nZ x1), .int (nZ x2)] σ N (fun _ => True) := by
  rcases h with ⟨r, σ1, σ2, e1, rr, ⟨u1, g1⟩, e2, t0, tj, je, hb⟩ | ⟨e, r, σ1, σ2, e1, he, hk, ⟨u1, g1⟩, e2, rr, t0, je⟩
  · obtain ⟨u2, g2⟩ := je.g
    exact ⟨0, r, wJ σ1 344 0 r, σ2, u1, u2, wr_led hG g1 rr e1, by decide, G.wJ g1, Ev.mono _ _ _ _ _ _ e2, rr, g2, t0, fun _ => ⟨tj, hb⟩, je⟩
  · obtain ⟨u2, g2⟩ := je.g
    rcases he with rfl | rfl
    · exact ⟨1, r, σ1, σ2, u1, u2, wr_led_0 (u1 := u1) hG e1, by decide, g1, Ev.mono _ _ _ _ _ _ e2, rr, g2, t0.trans (by decide), fun z => absurd z (by decide), je⟩
    · exact ⟨2, r, σ1, σ2, u1, u2, wr_led_1 (u1 := u1) hG e1, by decide, g1, Ev.mono _ _ _ _ _ _ e2, rr, g2, t0.trans (by decide), fun z => absurd z (by decide), je⟩
theorem jw_whose {sc : Nat × (Nat → Int32)} {d : Nat} {σ : aH} {u : Nat} {N : Int} {x1 : Int} (hG : G σ u) (h : JQ sc d mX9_whose mX10_whose [.int (nZ x1)] (kq 0) σ N) : JW sc (d + 1) mL_whose mX10_whose [.int (nZ x1)] σ N (fun _ => True) := by
  rcases h with ⟨r, σ1, σ2, e1, rr, ⟨u1, g1⟩, e2, t0, tj, je, hb⟩ | ⟨e, r, σ1, σ2, e1, he, hk, ⟨u1, g1⟩, e2, rr, t0, je⟩
  · obtain ⟨u2, g2⟩ := je.g
    exact ⟨0, r, wJ σ1 344 0 r, σ2, u1, u2, wr_whose hG g1 rr e1, by decide, G.wJ g1, Ev.mono _ _ _ _ _ _ e2, rr, g2, t0, fun _ => ⟨tj, hb⟩, je⟩
  · obtain ⟨u2, g2⟩ := je.g
    rcases he with rfl | rfl
    · exact ⟨1, r, σ1, σ2, u1, u2, wr_whose_0 (u1 := u1) hG e1, by decide, g1, Ev.mono _ _ _ _ _ _ e2, rr, g2, t0.trans (by decide), fun z => absurd z (by decide), je⟩
    · exact absurd (show kq 0 1 = 0 by decide) hk
theorem jw_harmless {sc : Nat × (Nat → Int32)} {d : Nat} {σ : aH} {u : Nat} {N : Int} {x1 : Int} (hG : G σ u) (h : JQ sc d mX9_harmless mX10_harmless [.int (nZ x1)] (kq 0) σ N) : JW sc (d + 1) mL_harmless mX10_harmless [.int (nZ x1)] σ N (fun _ => True) := by
  rcases h with ⟨r, σ1, σ2, e1, rr, ⟨u1, g1⟩, e2, t0, tj, je, hb⟩ | ⟨e, r, σ1, σ2, e1, he, hk, ⟨u1, g1⟩, e2, rr, t0, je⟩
  · obtain ⟨u2, g2⟩ := je.g
    exact ⟨0, r, wJ σ1 344 0 r, σ2, u1, u2, wr_harmless hG g1 rr e1, by decide, G.wJ g1, Ev.mono _ _ _ _ _ _ e2, rr, g2, t0, fun _ => ⟨tj, hb⟩, je⟩
  · obtain ⟨u2, g2⟩ := je.g
    rcases he with rfl | rfl
    · exact ⟨1, r, σ1, σ2, u1, u2, wr_harmless_0 (u1 := u1) hG e1, by decide, g1, Ev.mono _ _ _ _ _ _ e2, rr, g2, t0.trans (by decide), fun z => absurd z (by decide), je⟩
    · exact absurd (show kq 0 1 = 0 by decide) hk
theorem jw_folded {sc : Nat × (Nat → Int32)} {d : Nat} {σ : aH} {u : Nat} {N : Int} {x1 : Int} (hG : G σ u) (h : JQ sc d mX9_folded mX10_folded [.int (nZ x1)] (kq 1) σ N) : JW sc (d + 1) mL_folded mX10_folded [.int (nZ x1)] σ N (fun _ => True) := by
  rcases h with ⟨r, σ1, σ2, e1, rr, ⟨u1, g1⟩, e2, t0, tj, je, hb⟩ | ⟨e, r, σ1, σ2, e1, he, hk, ⟨u1, g1⟩, e2, rr, t0, je⟩
  · obtain ⟨u2, g2⟩ := je.g
    exact ⟨0, r, wJ σ1 344 0 r, σ2, u1, u2, wr_folded hG g1 rr e1, by decide, G.wJ g1, Ev.mono _ _ _ _ _ _ e2, rr, g2, t0, fun _ => ⟨tj, hb⟩, je⟩
  · obtain ⟨u2, g2⟩ := je.g
    rcases he with rfl | rfl
    · exact absurd (show kq 1 0 = 0 by decide) hk
    · exact ⟨1, r, σ1, σ2, u1, u2, wr_folded_1 (u1 := u1) hG e1, by decide, g1, Ev.mono _ _ _ _ _ _ e2, rr, g2, t0.trans (by decide), fun z => absurd z (by decide), je⟩
theorem jw_awned {sc : Nat × (Nat → Int32)} {d : Nat} {σ : aH} {u : Nat} {N : Int} {x1 : Int} {x2 : Int} (hG : G σ u) (h : JQ sc d mX9_awned mX10_awned [.int (nZ x1), .int (nZ x2)] k12 σ N) : JW sc (d + 1) mL_awned mX10_awned [.int (nZ x1), .int (nZ x2)] σ N (fun _ => True) := by
  rcases h with ⟨r, σ1, σ2, e1, rr, ⟨u1, g1⟩, e2, t0, tj, je, hb⟩ | ⟨e, r, σ1, σ2, e1, he, hk, ⟨u1, g1⟩, e2, rr, t0, je⟩
  · obtain ⟨u2, g2⟩ := je.g
    exact ⟨0, r, wJ σ1 344 0 r, σ2, u1, u2, wr_awned hG g1 rr e1, by decide, G.wJ g1, Ev.mono _ _ _ _ _ _ e2, rr, g2, t0, fun _ => ⟨tj, hb⟩, je⟩
  · obtain ⟨u2, g2⟩ := je.g
    rcases he with rfl | rfl
    · exact ⟨1, r, σ1, σ2, u1, u2, wr_awned_0 (u1 := u1) hG e1, by decide, g1, Ev.mono _ _ _ _ _ _ e2, rr, g2, t0.trans (by decide), fun z => absurd z (by decide), je⟩
    · exact ⟨2, r, σ1, σ2, u1, u2, wr_awned_1 (u1 := u1) hG e1, by decide, g1, Ev.mono _ _ _ _ _ _ e2, rr, g2, t0.trans (by decide), fun z => absurd z (by decide), je⟩
theorem jw_hour {sc : Nat × (Nat → Int32)} {d : Nat} {σ : aH} {u : Nat} {N : Int} {x1 : Int} (hG : G σ u) (h : JQ sc d mX9_hour mX10_hour [.int (nZ x1)] (kq 1) σ N) : JW sc (d + 1) mL_hour mX10_hour [.int (nZ x1)] σ N (fun _ => True) := by
  rcases h with ⟨r, σ1, σ2, e1, rr, ⟨u1, g1⟩, e2, t0, tj, je, hb⟩ | ⟨e, r, σ1, σ2, e1, he, hk, ⟨u1, g1⟩, e2, rr, t0, je⟩
  · obtain ⟨u2, g2⟩ := je.g
    exact ⟨0, r, wJ σ1 344 0 r, σ2, u1, u2, wr_hour hG g1 rr e1, by decide, G.wJ g1, Ev.mono _ _ _ _ _ _ e2, rr, g2, t0, fun _ => ⟨tj, hb⟩, je⟩
  · obtain ⟨u2, g2⟩ := je.g
    rcases he with rfl | rfl
    · exact absurd (show kq 1 0 = 0 by decide) hk
    · exact ⟨1, r, σ1, σ2, u1, u2, wr_hour_1 (u1 := u1) hG e1, by decide, g1, Ev.mono _ _ _ _ _ _ e2, rr, g2, t0.trans (by decide), fun z => absurd z (by decide), je⟩
theorem jw_improved {sc : Nat × (Nat → Int32)} {d : Nat} {σ : aH} {u : Nat} {N : Int} {x1 : Int} (hG : G σ u) (h : JQ sc d mX9_improved mX10_improved [.int (nZ x1)] (kq 1) σ N) : JW sc (d + 1) mL_improved mX10_improved [.int (nZ x1)] σ N (fun _ => True) := by
  rcases h with ⟨r, σ1, σ2, e1, rr, ⟨u1, g1⟩, e2, t0, tj, je, hb⟩ | ⟨e, r, σ1, σ2, e1, he, hk, ⟨u1, g1⟩, e2, rr, t0, je⟩
  · obtain ⟨u2, g2⟩ := je.g
    exact ⟨0, r, wJ σ1 344 0 r, σ2, u1, u2, wr_improved hG g1 rr e1, by decide, G.wJ g1, Ev.mono _ _ _ _ _ _ e2, rr, g2, t0, fun _ => ⟨tj, hb⟩, je⟩
  · obtain ⟨u2, g2⟩ := je.g
    rcases he with rfl | rfl
    · exact absurd (show kq 1 0 = 0 by decide) hk
    · exact ⟨1, r, σ1, σ2, u1, u2, wr_improved_1 (u1 := u1) hG e1, by decide, g1, Ev.mono _ _ _ _ _ _ e2, rr, g2, t0.trans (by decide), fun z => absurd z (by decide), je⟩
theorem jw_out {sc : Nat × (Nat → Int32)} {d : Nat} {σ : aH} {u : Nat} {N : Int} {x1 : Int} (hG : G σ u) (h : JQ sc d mX9_out mX10_out [.int (nZ x1)] (kq 0) σ N) : JW sc (d + 1) mL_out mX10_out [.int (nZ x1)] σ N (fun _ => True) := by
  rcases h with ⟨r, σ1, σ2, e1, rr, ⟨u1, g1⟩, e2, t0, tj, je, hb⟩ | ⟨e, r, σ1, σ2, e1, he, hk, ⟨u1, g1⟩, e2, rr, t0, je⟩
  · obtain ⟨u2, g2⟩ := je.g
    exact ⟨0, r, wJ σ1 344 0 r, σ2, u1, u2, wr_out hG g1 rr e1, by decide, G.wJ g1, Ev.mono _ _ _ _ _ _ e2, rr, g2, t0, fun _ => ⟨tj, hb⟩, je⟩
  · obtain ⟨u2, g2⟩ := je.g
    rcases he with rfl | rfl
    · exact ⟨1, r, σ1, σ2, u1, u2, wr_out_0 (u1 := u1) hG e1, by decide, g1, Ev.mono _ _ _ _ _ _ e2, rr, g2, t0.trans (by decide), fun z => absurd z (by decide), je⟩
    · exact absurd (show kq 0 1 = 0 by decide) hk
