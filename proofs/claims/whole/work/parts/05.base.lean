/-! HOW THE ABSTRACT MEMORY STANDS FOR THE HEAP: the cell a lies at B + a; what is numbered from 1000000 on lies elsewhere (the script, texts). -/
abbrev aC : Type := va_G × ClassId × ClassId × ClassId × ClassId
def rho (B : Nat) (ext : Nat → Nat) (a : Nat) : Nat := if a < 1000000 then B + a else ext a
def vmv (ρ : Nat → Nat) : Value → Value
  | .ref a => .ref (ρ a)
  | v => v
theorem vmv_cat (ρ : Nat → Nat) (v : Value) : (vmv ρ v).category = v.category := by cases v <;> rfl
def lmv (ρ : Nat → Nat) (l : aL) : aL := l.map (fun q => (q.1, vmv ρ q.2))
theorem lmv_mem {ρ : Nat → Nat} {l : aL} {i : Nat} {v : Value} (h : (i, v) ∈ l) : (i, vmv ρ v) ∈ lmv ρ l := List.mem_map.mpr ⟨(i, v), h, rfl⟩
theorem lmv_filter (ρ : Nat → Nat) (l : aL) (P : Nat → Nat → Bool) : (lmv ρ l).filter (fun q => P q.1 q.2.category) = lmv ρ (l.filter (fun q => P q.1 q.2.category)) := by
  unfold lmv
  rw [List.filter_map]
  congr 1
  apply List.filter_congr
  intro q _
  show P q.1 (vmv ρ q.2).category = P q.1 q.2.category
  rw [vmv_cat]
theorem cat_map (ρ : Nat → Nat) (st : List Value) : ((st.map (vmv ρ)).map fun v => v.category).sum = catsum st := by
  unfold catsum
  rw [List.map_map]
  congr 1
  apply List.map_congr_left
  intro v _
  exact vmv_cat ρ v
def fv (ρ : Nat → Nat) (σ : aH) (T : u_T) (a k : Nat) : Value := if fkd T k = 0 then .int (gI σ a k) else if fkd T k = 1 then va_rf ((rf σ a k).map ρ) else va_rf ((gM σ a k).map ρ)
def cellAt (K : aC) (ρ : Nat → Nat) (σ : aH) (a : Nat) (H : Heap) : Prop :=
  (tg σ a = 101 → H[ρ a]? = some (arrV K.2.1 (ln σ a) (fun j => .int (gI σ a j)))) ∧
  (tg σ a = 102 → H[ρ a]? = some (arrV K.2.2.1 (ln σ a) (fun j => .int (gI σ a j)))) ∧
  (tg σ a = 103 → H[ρ a]? = some (arrV K.2.2.2.1 (ln σ a) (fun j => .long (gJ σ a j)))) ∧
  (tg σ a = 104 → H[ρ a]? = some (arrV K.2.2.2.2 (ln σ a) (fun j => va_rf ((rf σ a j).map ρ)))) ∧
  (∀ ci, ci < 11 → tg σ a = ci + 1 → t_OB (ρ a) (K.1.1 ci) (cN ci) (K.1.2 ci) H (fv ρ σ (cT ci) a))
def Rel (K : aC) (B : Nat) (ext : Nat → Nat) (σ : aH) (H : Heap) : Prop := H.size = B + gN σ ∧ gN σ ≤ 1000000 ∧ (∀ a, a < gN σ → cellAt K (rho B ext) σ a H) ∧ ∀ a, gN σ ≤ a → tg σ a = 0
theorem sameC_tg {σ σ' : aH} {a : Nat} (h : σ'.1 a = σ.1 a) : tg σ' a = tg σ a := by unfold tg; rw [h]
theorem rho_lt {B : Nat} {ext : Nat → Nat} {a : Nat} (h : a < 1000000) : rho B ext a = B + a := if_pos h
theorem cellAt.kept {K : aC} {ρ : Nat → Nat} {σ : aH} {a : Nat} {H H1 : Heap} (h : cellAt K ρ σ a H) (e : H1[ρ a]? = H[ρ a]?) : cellAt K ρ σ a H1 :=
  ⟨fun t => e.trans (h.1 t), fun t => e.trans (h.2.1 t), fun t => e.trans (h.2.2.1 t), fun t => e.trans (h.2.2.2.1 t), fun ci hc t => (h.2.2.2.2 ci hc t).kept e⟩
/-- the cell is the same in both memories -/
def sameC (σ σ' : aH) (a : Nat) : Prop := σ'.1 a = σ.1 a ∧ gM σ' a = gM σ a ∧ gI σ' a = gI σ a ∧ gJ σ' a = gJ σ a
theorem cellAt.same {K : aC} {ρ : Nat → Nat} {σ σ' : aH} {a : Nat} {H : Heap} (h : cellAt K ρ σ a H) (e : sameC σ σ' a) : cellAt K ρ σ' a H := by
  obtain ⟨e1, e2, e3, e4⟩ := e
  have ht : tg σ' a = tg σ a := by unfold tg; rw [e1]
  have hl : ln σ' a = ln σ a := by unfold ln; rw [e1]
  have hr : rf σ' a = rf σ a := by unfold rf; rw [e1]
  have hf : ∀ T, fv ρ σ' T a = fv ρ σ T a := fun T => by funext k; unfold fv; rw [e2, e3, hr]
  refine ⟨fun t => ?_, fun t => ?_, fun t => ?_, fun t => ?_, fun ci hc t => ?_⟩
  · rw [hl, e3]; exact h.1 (ht ▸ t)
  · rw [hl, e3]; exact h.2.1 (ht ▸ t)
  · rw [hl, e4]; exact h.2.2.1 (ht ▸ t)
  · rw [hl, hr]; exact h.2.2.2.1 (ht ▸ t)
  · rw [hf]; exact h.2.2.2.2 ci hc (ht ▸ t)
theorem rho_inj {B : Nat} {ext : Nat → Nat} {a b : Nat} (ha : a < 1000000) (hb : b < 1000000) (h : a ≠ b) : rho B ext a ≠ rho B ext b := by
  rw [rho_lt ha, rho_lt hb]; omega
/-- one cell changed -/
theorem Rel.one {K : aC} {B : Nat} {ext : Nat → Nat} {σ σ' : aH} {H H1 : Heap} {a : Nat} (h : Rel K B ext σ H) (hn : gN σ' = gN σ) (ha : a < gN σ) (hz : H1.size = H.size) (ho : ∀ q, q ≠ rho B ext a → H1[q]? = H[q]?) (hs : ∀ b, b ≠ a → sameC σ σ' b) (hc : cellAt K (rho B ext) σ' a H1) : Rel K B ext σ' H1 := by
  obtain ⟨h1, h2, h3, h4⟩ := h
  refine ⟨by rw [hz, h1, hn], by rw [hn]; exact h2, fun b hb => ?_, fun b hb => ?_⟩
  · rw [hn] at hb
    by_cases e : b = a
    · rw [e]; exact hc
    · exact ((h3 b hb).same (hs b e)).kept (ho _ (rho_inj (by omega) (by omega) e))
  · rw [hn] at hb
    rw [sameC_tg (hs b (by omega)).1]; exact h4 b hb
/-- cells more -/
theorem Rel.more {K : aC} {B : Nat} {ext : Nat → Nat} {σ σ' : aH} {H H1 : Heap} {k : Nat} (h : Rel K B ext σ H) (hn : gN σ' = gN σ + k) (hb : gN σ + k ≤ 1000000) (hz : H1.size = H.size + k) (ho : ∀ q, q < H.size → H1[q]? = H[q]?) (hs : ∀ b, b < gN σ → sameC σ σ' b) (ht : ∀ b, gN σ + k ≤ b → tg σ' b = tg σ b) (hc : ∀ b, gN σ ≤ b → b < gN σ + k → cellAt K (rho B ext) σ' b H1) : Rel K B ext σ' H1 := by
  obtain ⟨h1, h2, h3, h4⟩ := h
  refine ⟨by rw [hz, h1, hn]; omega, by rw [hn]; exact hb, fun b hb' => ?_, fun b hb' => ?_⟩
  · by_cases e : b < gN σ
    · exact ((h3 b e).same (hs b e)).kept (ho _ (by rw [rho_lt (by omega), h1]; omega))
    · exact hc b (by omega) (by omega)
  · rw [hn] at hb'
    rw [ht b hb']; exact h4 b (by omega)
/-- a cell told no more, or one more that isn't told -/
theorem Rel.drop {K : aC} {B : Nat} {ext : Nat → Nat} {σ : aH} {H : Heap} (h : Rel K B ext σ H) (a : Nat) : Rel K B ext (sDrop σ a) H := by
  obtain ⟨h1, h2, h3, h4⟩ := h
  have ht : ∀ b, b = a → tg (sDrop σ a) b = 0 := fun b e => by subst e; unfold tg sDrop; show (va_up σ.1 b _ b).1 = 0; rw [va_up_self]
  have hs : ∀ b, b ≠ a → (sDrop σ a).1 b = σ.1 b := fun b e => by show va_up σ.1 a _ b = σ.1 b; rw [va_up_ne _ _ e]
  refine ⟨h1, h2, fun b hb => ?_, fun b hb => ?_⟩
  · by_cases e : b = a
    · have ht := ht b e
      refine ⟨fun t => ?_, fun t => ?_, fun t => ?_, fun t => ?_, fun ci hc t => ?_⟩ <;> rw [ht] at t <;> omega
    · exact (h3 b hb).same ⟨hs b e, rfl, rfl, rfl⟩
  · by_cases e : b = a
    · exact ht b e
    · rw [sameC_tg (hs b e)]; exact h4 b hb
/-! what stands outside the memory, and stays -/
def nestW : Cond → Bool
  | .fieldLinkNest .. => true
  | .methodLinkNest .. => true
  | .declares .. => true
  | .castable .. => true
  | _ => false
abbrev tysOf (K : aC) : List (ClassId × FieldType) := [(K.2.1, .int), (K.2.2.1, .byte), (K.2.2.2.1, .long), (K.2.2.2.2, .array .int)]
def aoA (U : State) : Prop := (Cond.arrayOver (.array .int)).before #[] U = true
theorem aoA.moved {u U : State} (hvm : u.vm.Alike U.vm) (h : aoA u) : aoA U := by
  obtain ⟨comp, c, k, h1, h2, h3, h4, h5⟩ := arrayOverA_spec h
  obtain ⟨k', hk', he⟩ := hvm.2.2 _ _ h3
  have hi : (U.vm.classes.findIdx? fun (x : Class) => match x.kind with | .array component _ => component == comp | _ => false) = some c := by
    have e1 := va_idx_bare U.vm comp
    have e2 := va_idx_bare u.vm comp
    have b : U.vm.bare = u.vm.bare := by first | exact hvm.bare_eq | exact hvm.bare_eq.symm
    rw [b] at e1
    exact e1.symm.trans (e2.trans h2)
  have hkind : k'.kind = .array comp (.array .int) := by rw [he]; exact h4
  have f1 : U.vm.findClass (FieldType.array .int).toString = some comp := by rw [hvm.findClass]; exact h1
  have f2 : U.vm.findClass ("[" ++ (FieldType.array .int).toString) = some c := by rw [hvm.findClass]; exact h5
  unfold aoA Cond.before Cond.holds
  simp only [Cond.value]
  rw [f1, Option.bind_some]
  refine (congrArg (fun o : Option Nat => (o.bind (fun c => (U.vm.classes[c]?).map fun (k : Class) => match k.kind with | .array _ ty => decide (ty = FieldType.array .int) && decide (U.vm.findClass ("[" ++ (FieldType.array .int).toString) = some c) | _ => false) == some true)) hi).trans ?_
  simp [hk', hkind, f2]
def EnvA (K : aC) (B : Nat) (ext : Nat → Nat) (sc : Nat × (Nat → Int32)) (U : State) : Prop :=
  va_K K.1 vwCl (tysOf K) U ∧ (∀ w ∈ lw_tbl, nestW w = true → va_Nw w U) ∧ (va_X (ext 1000000) sc.1 sc.2 U U.heap ∧ ext 1000000 < B) ∧ aoA U ∧
  (vx_Zq Bundle.tN "UNASSIGNED_STACK" Bundle.steD (fun q => B ≤ q) U U.heap ∧ vx_Zq Bundle.tN "SUPPRESSED_SENTINEL" Bundle.listD (fun q => B ≤ q) U U.heap) ∧
  (∀ (q c i : Nat) (text : String), strT[q]? = some (c, i, text) → vk_R (cn c) i text (ext (1000001 + q)) U) ∧ va_Nc "java/lang/IllegalArgumentException" "java/util/NoSuchElementException" U ∧
  (∃ adV : Nat → Nat, vk_S 10 wdLen wdByt (fun i => ext (1000001 + i)) adV (fun q => B ≤ q) U U.heap ∧ va_Z "java/lang/String" "COMPACT_STRINGS" "Z" (.int 1) (fun q => B ≤ q) U U.heap ∧ va_Zq "jdk/internal/util/Preconditions" "SIOOBE_FORMATTER" "Ljava/util/function/BiFunction;" (fun q => B ≤ q) U U.heap)
theorem EnvA.kept {K : aC} {B : Nat} {ext : Nat → Nat} {sc : Nat × (Nat → Int32)} {s U : State} (h : EnvA K B ext sc s) (hW : s.WarmedH U.vm) (ho : ∀ q, q < B → U.heap[q]? = s.heap[q]?) : EnvA K B ext sc U := by
  obtain ⟨h1, h2, ⟨h3, h4⟩, h5, ⟨h6, h7⟩, h8, hnc, adV, h9⟩ := h
  have hq : ∀ a : Nat, a < s.heap.size → ¬ (fun q => B ≤ q) a → U.heap[a]? = s.heap[a]? := fun a _ hn => ho a (Nat.not_le.mp hn)
  refine ⟨va_K.moved hW.alike h1, fun w hw hn => ?_, ⟨(h3.kept (ho _ h4)).moved hW.alike, h4⟩, h5.moved hW.alike, ⟨(h6.kept hq).moved hW.alike, (h7.kept hq).moved hW.alike⟩, fun q c i text e => (h8 q c i text e).warm hW, hnc.moved hW.alike, adV, (h9.1.kept hq).moved hW.alike, va_Z.moved hW.alike (h9.2.1.kept hq), va_Zq.moved hW.alike (va_Zq.kept h9.2.2 hq)⟩
  have := h2 w hw hn
  cases w <;> first | exact va_Nw.warmF hW this | exact va_Nw.warmM hW this | exact va_Nw.warmD hW this | exact va_Nw.warmC hW this | (simp [nestW] at hn)
theorem cl_at : ∀ ci, ci < 11 → vwCl[ci]? = some (cn ci, cT ci, cN ci) := by
  intro ci h
  rcases (show ci = 0 ∨ ci = 1 ∨ ci = 2 ∨ ci = 3 ∨ ci = 4 ∨ ci = 5 ∨ ci = 6 ∨ ci = 7 ∨ ci = 8 ∨ ci = 9 ∨ ci = 10 by omega) with rfl | rfl | rfl | rfl | rfl | rfl | rfl | rfl | rfl | rfl | rfl <;> rfl
def gwl : List Cond := lw_tbl.filter goodWord
theorem gwl_mem {w : Cond} (h : w ∈ lw_tbl) (g : goodWord w = true) : w ∈ gwl := List.mem_filter.mpr ⟨h, g⟩
theorem uw_0 : ∀ w ∈ u_ws RX0 TX0 (cN 0), w ∈ lw_tbl ∧ goodWord w = true := by decide +kernel
theorem uw_1 : ∀ w ∈ u_ws RX1 TX1 (cN 1), w ∈ lw_tbl ∧ goodWord w = true := by decide +kernel
theorem uw_2 : ∀ w ∈ u_ws RX2 TX2 (cN 2), w ∈ lw_tbl ∧ goodWord w = true := by decide +kernel
theorem uw_3 : ∀ w ∈ u_ws RX3 TX3 (cN 3), w ∈ lw_tbl ∧ goodWord w = true := by decide +kernel
theorem uw_4 : ∀ w ∈ u_ws RX4 TX4 (cN 4), w ∈ lw_tbl ∧ goodWord w = true := by decide +kernel
theorem uw_5 : ∀ w ∈ u_ws RX5 TX5 (cN 5), w ∈ lw_tbl ∧ goodWord w = true := by decide +kernel
theorem uw_6 : ∀ w ∈ u_ws RX6 TX6 (cN 6), w ∈ lw_tbl ∧ goodWord w = true := by decide +kernel
theorem uw_7 : ∀ w ∈ u_ws RX7 TX7 (cN 7), w ∈ lw_tbl ∧ goodWord w = true := by decide +kernel
theorem uw_8 : ∀ w ∈ u_ws RX8 TX8 (cN 8), w ∈ lw_tbl ∧ goodWord w = true := by decide +kernel
theorem uw_9 : ∀ w ∈ u_ws RX9 TX9 (cN 9), w ∈ lw_tbl ∧ goodWord w = true := by decide +kernel
theorem uw_10 : ∀ w ∈ u_ws RX10 TX10 (cN 10), w ∈ lw_tbl ∧ goodWord w = true := by decide +kernel
theorem uw_in : ∀ ci, ci < 11 → ∀ w ∈ u_ws (cn ci) (cT ci) (cN ci), w ∈ gwl := by
  intro ci h w hw
  rcases (show ci = 0 ∨ ci = 1 ∨ ci = 2 ∨ ci = 3 ∨ ci = 4 ∨ ci = 5 ∨ ci = 6 ∨ ci = 7 ∨ ci = 8 ∨ ci = 9 ∨ ci = 10 by omega) with rfl | rfl | rfl | rfl | rfl | rfl | rfl | rfl | rfl | rfl | rfl
  · exact gwl_mem (uw_0 w hw).1 (uw_0 w hw).2
  · exact gwl_mem (uw_1 w hw).1 (uw_1 w hw).2
  · exact gwl_mem (uw_2 w hw).1 (uw_2 w hw).2
  · exact gwl_mem (uw_3 w hw).1 (uw_3 w hw).2
  · exact gwl_mem (uw_4 w hw).1 (uw_4 w hw).2
  · exact gwl_mem (uw_5 w hw).1 (uw_5 w hw).2
  · exact gwl_mem (uw_6 w hw).1 (uw_6 w hw).2
  · exact gwl_mem (uw_7 w hw).1 (uw_7 w hw).2
  · exact gwl_mem (uw_8 w hw).1 (uw_8 w hw).2
  · exact gwl_mem (uw_9 w hw).1 (uw_9 w hw).2
  · exact gwl_mem (uw_10 w hw).1 (uw_10 w hw).2
def tyC : Nat → Nat → FieldType
  | 0 => tyX0 | 1 => tyX1 | 2 => tyX2 | 3 => tyX3 | 4 => tyX4 | 5 => tyX5 | 6 => tyX6 | 7 => tyX7 | 8 => tyX8 | 9 => tyX9 | _ => tyX10
theorem ty_in : ∀ ci, ci < 11 → ∀ k, k < cN ci → parseFieldDescriptor (cT ci k).2.2.1 = some (tyC ci k) := by
  intro ci h
  rcases (show ci = 0 ∨ ci = 1 ∨ ci = 2 ∨ ci = 3 ∨ ci = 4 ∨ ci = 5 ∨ ci = 6 ∨ ci = 7 ∨ ci = 8 ∨ ci = 9 ∨ ci = 10 by omega) with rfl | rfl | rfl | rfl | rfl | rfl | rfl | rfl | rfl | rfl | rfl
  · exact tyX0_ok
  · exact tyX1_ok
  · exact tyX2_ok
  · exact tyX3_ok
  · exact tyX4_ok
  · exact tyX5_ok
  · exact tyX6_ok
  · exact tyX7_ok
  · exact tyX8_ok
  · exact tyX9_ok
  · exact tyX10_ok
theorem nm_in : ∀ ci, ci < 11 → ∀ a, a < cN ci → ∀ b, b < cN ci → a ≠ b → (cT ci a).2.1 ≠ (cT ci b).2.1 := by
  intro ci h
  rcases (show ci = 0 ∨ ci = 1 ∨ ci = 2 ∨ ci = 3 ∨ ci = 4 ∨ ci = 5 ∨ ci = 6 ∨ ci = 7 ∨ ci = 8 ∨ ci = 9 ∨ ci = 10 by omega) with rfl | rfl | rfl | rfl | rfl | rfl | rfl | rfl | rfl | rfl | rfl
  · exact nmX0
  · exact nmX1
  · exact nmX2
  · exact nmX3
  · exact nmX4
  · exact nmX5
  · exact nmX6
  · exact nmX7
  · exact nmX8
  · exact nmX9
  · exact nmX10
def isRefTy : FieldType → Bool
  | .object _ => true
  | .array _ => true
  | _ => false
theorem isRefTy_ok {t : FieldType} (h : isRefTy t = true) (a : Nat) : narrow t (.ref a) = .ref a ∧ fits t (.ref a) = true := by
  cases t <;> first | exact ⟨rfl, rfl⟩ | (simp [isRefTy] at h)
theorem fko_0 : ∀ k, k < cN 0 → (if fkd TX0 k = 0 then decide (tyX0 k = .int) && !(TX0 k).2.2.2 else isRefTy (tyX0 k) && (decide (fkd TX0 k = 1) == (TX0 k).2.2.2)) = true := by decide +kernel
theorem fko_1 : ∀ k, k < cN 1 → (if fkd TX1 k = 0 then decide (tyX1 k = .int) && !(TX1 k).2.2.2 else isRefTy (tyX1 k) && (decide (fkd TX1 k = 1) == (TX1 k).2.2.2)) = true := by decide +kernel
theorem fko_2 : ∀ k, k < cN 2 → (if fkd TX2 k = 0 then decide (tyX2 k = .int) && !(TX2 k).2.2.2 else isRefTy (tyX2 k) && (decide (fkd TX2 k = 1) == (TX2 k).2.2.2)) = true := by decide +kernel
theorem fko_3 : ∀ k, k < cN 3 → (if fkd TX3 k = 0 then decide (tyX3 k = .int) && !(TX3 k).2.2.2 else isRefTy (tyX3 k) && (decide (fkd TX3 k = 1) == (TX3 k).2.2.2)) = true := by decide +kernel
theorem fko_4 : ∀ k, k < cN 4 → (if fkd TX4 k = 0 then decide (tyX4 k = .int) && !(TX4 k).2.2.2 else isRefTy (tyX4 k) && (decide (fkd TX4 k = 1) == (TX4 k).2.2.2)) = true := by decide +kernel
theorem fko_5 : ∀ k, k < cN 5 → (if fkd TX5 k = 0 then decide (tyX5 k = .int) && !(TX5 k).2.2.2 else isRefTy (tyX5 k) && (decide (fkd TX5 k = 1) == (TX5 k).2.2.2)) = true := by decide +kernel
theorem fko_6 : ∀ k, k < cN 6 → (if fkd TX6 k = 0 then decide (tyX6 k = .int) && !(TX6 k).2.2.2 else isRefTy (tyX6 k) && (decide (fkd TX6 k = 1) == (TX6 k).2.2.2)) = true := by decide +kernel
theorem fko_7 : ∀ k, k < cN 7 → (if fkd TX7 k = 0 then decide (tyX7 k = .int) && !(TX7 k).2.2.2 else isRefTy (tyX7 k) && (decide (fkd TX7 k = 1) == (TX7 k).2.2.2)) = true := by decide +kernel
theorem fko_8 : ∀ k, k < cN 8 → (if fkd TX8 k = 0 then decide (tyX8 k = .int) && !(TX8 k).2.2.2 else isRefTy (tyX8 k) && (decide (fkd TX8 k = 1) == (TX8 k).2.2.2)) = true := by decide +kernel
theorem fko_9 : ∀ k, k < cN 9 → (if fkd TX9 k = 0 then decide (tyX9 k = .int) && !(TX9 k).2.2.2 else isRefTy (tyX9 k) && (decide (fkd TX9 k = 1) == (TX9 k).2.2.2)) = true := by decide +kernel
theorem fko_10 : ∀ k, k < cN 10 → (if fkd TX10 k = 0 then decide (tyX10 k = .int) && !(TX10 k).2.2.2 else isRefTy (tyX10 k) && (decide (fkd TX10 k = 1) == (TX10 k).2.2.2)) = true := by decide +kernel
/-- by the kind of a field: what may stand in it -/
theorem fk_ok : ∀ ci, ci < 11 → ∀ k, k < cN ci → (if fkd (cT ci) k = 0 then decide (tyC ci k = .int) && !(cT ci k).2.2.2 else isRefTy (tyC ci k) && (decide (fkd (cT ci) k = 1) == (cT ci k).2.2.2)) = true := by
  intro ci h
  rcases (show ci = 0 ∨ ci = 1 ∨ ci = 2 ∨ ci = 3 ∨ ci = 4 ∨ ci = 5 ∨ ci = 6 ∨ ci = 7 ∨ ci = 8 ∨ ci = 9 ∨ ci = 10 by omega) with rfl | rfl | rfl | rfl | rfl | rfl | rfl | rfl | rfl | rfl | rfl
  · exact fko_0
  · exact fko_1
  · exact fko_2
  · exact fko_3
  · exact fko_4
  · exact fko_5
  · exact fko_6
  · exact fko_7
  · exact fko_8
  · exact fko_9
  · exact fko_10
theorem fk_0 {ci k : Nat} (h : ci < 11) (hk : k < cN ci) (e : fkd (cT ci) k = 0) : tyC ci k = .int ∧ (cT ci k).2.2.2 = false := by
  have := fk_ok ci h k hk
  rw [if_pos e] at this
  simpa using this
theorem fk_1 {ci k : Nat} (h : ci < 11) (hk : k < cN ci) (e : fkd (cT ci) k = 1) : isRefTy (tyC ci k) = true ∧ (cT ci k).2.2.2 = true := by
  have := fk_ok ci h k hk
  rw [if_neg (by omega), e] at this
  simpa using this
theorem fk_2 {ci k : Nat} (h : ci < 11) (hk : k < cN ci) (e : fkd (cT ci) k = 2) : isRefTy (tyC ci k) = true ∧ (cT ci k).2.2.2 = false := by
  have := fk_ok ci h k hk
  rw [if_neg (by omega), e] at this
  simpa using this
