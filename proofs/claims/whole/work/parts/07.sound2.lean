/-! the rules of fields and rows -/
section
variable {K : aC} {B : Nat} {ext : Nat → Nat} {sc : Nat × (Nat → Int32)} {p : Program} {l : Launch} {e : Jvm.Env} {R : Room} {s : State} {m : MethodId} {args : Array Value} {below : List Frame} {meth : Method} {c : Code} {cno : Nat} {code : ByteArray} {mL : Nat} {rt : Option FieldType} {ini : Bool} {hs : List (Nat × Nat × Nat × Nat)} {d : Nat} {σ0 σ1 : aH} {Q : State → Prop} {C : aM → List Value → aH → aO → aH → Prop} {P : aO → aH → Prop}
theorem m_get {H : Heap} {locs : List Loc} {cells slots pc : Nat} {ls : Array Slot} {rest : List Value} (hC : CX K B ext sc p l R s m args meth c cno code mL rt ini hs d σ0 σ1) {idx ci k a : Nat} {V : Nat → Value} (hf : FLk cno idx ci k) (hO : t_OB a (K.1.1 ci) (cN ci) (K.1.2 ci) H V) (dd : decode code pc = .ok (.getfield idx, 3))
    (kk : W p l e R s m args below meth c H locs cells slots Q (F0 m (pc + 3) ls (V k :: rest))) : W p l e R s m args below meth c H locs cells slots Q (F0 m pc ls (.ref a :: rest)) := by
  obtain ⟨hx, hb, hml, hown, hts, hE, hr, hlk, hin, hRm, hB, htr, htab⟩ := hC
  obtain ⟨hci, hk, ho, hl⟩ := hf
  obtain ⟨cell, q1, q2, q3, q4⟩ := hO
  obtain ⟨hS, hfc, kC, hkC, hkind⟩ := hE.1.1 ci _ (cl_at ci hci)
  obtain ⟨cf, kf, fi, f, hi, hsl⟩ := hS k hk
  have hst := (u_facts hfc hkC (u_lays hts (uw_in ci hci) hk) hi).1
  have hi' : s.fieldFound? (cn ci) (cT ci k).2.1 (cT ci k).2.2.1 = some (cf, kf, fi, f) := by rw [← ho]; exact hi
  rcases hl with hl | ⟨host, hl⟩
  · exact W.getf hx hb hown (hts _ (gwl_mem hl rfl)) hi' hst q1 (by rw [q3]; exact fun h => by cases h) (v := V k) (by rw [hsl]; exact q4 k hk) rfl rfl dd kk
  · exact va_Wgetf hx hb hown (va_Nw.use rfl (hE.2.1 _ hl rfl)) hi' hst q1 (by rw [q3]; exact fun h => by cases h) (v := V k) (by rw [hsl]; exact q4 k hk) rfl rfl dd kk
theorem m_put {H : Heap} {locs : List Loc} {cells slots pc : Nat} {ls : Array Slot} {rest : List Value} (hC : CX K B ext sc p l R s m args meth c cno code mL rt ini hs d σ0 σ1) {idx ci k a : Nat} {V : Nat → Value} {v : Value} (hf : FLk cno idx ci k) (hO : t_OB a (K.1.1 ci) (cN ci) (K.1.2 ci) H V) (hfin : (cT ci k).2.2.2 = false ∨ ((cT ci k).2.2.2 = true ∧ ini = true ∧ cno = ci)) (hn : narrow (tyC ci k) v = v) (hfit : fits (tyC ci k) v = true) (dd : decode code pc = .ok (.putfield idx, 3))
    (kk : ∀ (H' : Heap) (j : Nat), t_OB a (K.1.1 ci) (cN ci) (K.1.2 ci) H' (updV V k v) → H'.size = H.size → (∀ q, q ≠ a → H'[q]? = H[q]?) → W p l e R s m args below meth c H' (locs ++ [⟨a, j⟩]) cells slots Q (F0 m (pc + 3) ls rest)) : W p l e R s m args below meth c H locs cells slots Q (F0 m pc ls (v :: .ref a :: rest)) := by
  obtain ⟨hx, hb, hml, hown, hts, hE, hr, hlk, hin, hRm, hB, htr, htab⟩ := hC
  obtain ⟨hci, hk, ho, hl⟩ := hf
  have hap := va_apart (own := cn cno) hts (uw_in ci hci) (tyC ci) (ty_in ci hci) (nm_in ci hci) hE.1 (cl_at ci hci)
  obtain ⟨cell, q1, q2, q3, q4⟩ := hO
  obtain ⟨hS, hfc, kC, hkC, hkind⟩ := hE.1.1 ci _ (cl_at ci hci)
  obtain ⟨cf, kf, fi, f, hi, hsl⟩ := hS k hk
  have hst := (u_facts hfc hkC (u_lays hts (uw_in ci hci) hk) hi).1
  have hi' : s.fieldFound? (cn ci) (cT ci k).2.1 (cT ci k).2.2.1 = some (cf, kf, fi, f) := by rw [← ho]; exact hi
  have hd := ty_in ci hci k hk
  have hlay := hts _ (uw_in ci hci _ (u_in_lay hk))
  have hlt : f.slot < cell.slots.size := by rw [hsl]; exact k2_hasslot (q4 k hk)
  have fin : ∀ H' : Heap, H'[a]? = some (cell.setSlot f.slot v) → H'.size = H.size → (∀ q, q ≠ a → H'[q]? = H[q]?) → W p l e R s m args below meth c H' (locs ++ [⟨a, f.slot⟩]) cells slots Q (F0 m (pc + 3) ls rest) := by
    intro H' e1 e2 e3
    rw [hsl] at e1
    exact kk H' f.slot ⟨_, e1, q2, q3, t_set q4 hap hk v⟩ e2 e3
  rcases hfin with hfin | ⟨hfin, hini, hcc⟩
  · unfold u_lay at hlay
    rw [if_neg (by rw [hfin]; decide)] at hlay
    have h6 := u_store hfc hkC hkind hlay hi hd hn hfit
    rcases hl with hl | ⟨host, hl⟩
    · exact W.putK hx hb (f := f) ⟨hown, hts _ (gwl_mem hl rfl), ⟨_, _, _, hi'⟩, hst⟩ (by rw [q2]; exact h6) q1 q3 hlt rfl rfl dd fin
    · exact va_WputK hx hb (f := f) hown (va_Nw.use rfl (hE.2.1 _ hl rfl)) hi' hst (by rw [q2]; exact h6) q1 q3 hlt rfl rfl dd fin
  · unfold u_lay at hlay
    rw [if_pos hfin] at hlay
    have hcf : m.cls = cf := by
      obtain ⟨_, _, c', _, _, _, -, -, hf', -, -, -, hown2, -⟩ := Cond.laysFinal_spec hlay
      have e1 : c' = cf := by have := hi.symm.trans hf'; simp at this; exact this.1.symm
      rw [ho] at hown2
      rw [hcc] at hown
      rw [← e1]; exact Option.some.inj (hown.symm.trans hown2)
    have h6 := u_fits hfc hkC hkind (Or.inr hlay) hi hd hn hfit
    rcases hl with hl | ⟨host, hl⟩
    · exact W.putFinK hx hb hown (hts _ (gwl_mem hl rfl)) hi' hst hcf (hin hini) (by rw [q2]; exact h6) q1 q3 hlt rfl rfl dd fin
    · refine va_Wputf hx hb hown (va_Nw.use rfl (hE.2.1 _ hl rfl)) hi' hst (Or.inr ⟨hcf, hin hini⟩) q1 (by rw [q3]; exact fun h => by cases h) hlt h6.1 (by rw [q3, q2]; exact h6.2) rfl rfl dd ?_
      have ha : a < H.size := (Array.getElem?_eq_some_iff.mp q1).1
      refine fin _ ?_ ?_ ?_
      · simp [Array.getElem?_setIfInBounds, ha]
      · simp
      · intro q hq
        simp [Array.getElem?_setIfInBounds, Ne.symm hq]
theorem sI_other {σ : aH} {a k b : Nat} {v : Int32} (h : b ≠ a) : sameC σ (sI σ a k v) b := ⟨rfl, rfl, va_up_ne _ _ h, rfl⟩
theorem sJ_other {σ : aH} {a k b : Nat} {v : Int64} (h : b ≠ a) : sameC σ (sJ σ a k v) b := ⟨rfl, rfl, rfl, va_up_ne _ _ h⟩
theorem sM_other {σ : aH} {a k b : Nat} {v : Option Nat} (h : b ≠ a) : sameC σ (sM σ a k v) b := ⟨rfl, va_up_ne _ _ h, rfl, rfl⟩
theorem sR_other {σ : aH} {a k b : Nat} {v : Option Nat} (h : b ≠ a) : sameC σ (sR σ a k v) b := ⟨va_up_ne _ _ h, rfl, rfl, rfl⟩
theorem sRow_other {σ : aH} {a b : Nat} {f : Nat → Int32} (h : b ≠ a) : sameC σ (sRow σ a f) b := ⟨rfl, rfl, va_up_ne _ _ h, rfl⟩
theorem gI_sI (σ : aH) (a k : Nat) (v : Int32) : gI (sI σ a k v) a = upd (gI σ a) k v := va_up_self _ _ _
theorem gJ_sJ (σ : aH) (a k : Nat) (v : Int64) : gJ (sJ σ a k v) a = vp_updL (gJ σ a) k v := va_up_self _ _ _
theorem gM_sM (σ : aH) (a k : Nat) (v : Option Nat) : gM (sM σ a k v) a = va_up (gM σ a) k v := va_up_self _ _ _
theorem rf_sR (σ : aH) (a k : Nat) (v : Option Nat) : rf (sR σ a k v) a = va_up (rf σ a) k v := by
  unfold rf sR
  show (va_up σ.1 a _ a).2.2 = _
  rw [va_up_self]
theorem tg_sR (σ : aH) (a k : Nat) (v : Option Nat) (b : Nat) : tg (sR σ a k v) b = tg σ b := by
  unfold tg sR
  show (va_up σ.1 a _ b).1 = _
  by_cases h : b = a
  · rw [h, va_up_self]
  · rw [va_up_ne _ _ h]
theorem fv_sI {ρ : Nat → Nat} {σ : aH} {T : u_T} {a k : Nat} (h : fkd T k = 0) (x : Int32) (j : Nat) : updV (fv ρ σ T a) k (.int x) j = fv ρ (sI σ a k x) T a j := by
  by_cases e : j = k
  · subst e
    simp [updV, fv, h, gI_sI, upd]
  · have e1 : gI (sI σ a k x) a j = gI σ a j := by rw [gI_sI]; simp [upd, e]
    have e2 : gM (sI σ a k x) a j = gM σ a j := rfl
    have e3 : rf (sI σ a k x) a j = rf σ a j := rfl
    simp [updV, e, fv, e1, e2, e3]
theorem fv_sM {ρ : Nat → Nat} {σ : aH} {T : u_T} {a k : Nat} (h : fkd T k = 2) (x : Option Nat) (j : Nat) : updV (fv ρ σ T a) k (va_rf (x.map ρ)) j = fv ρ (sM σ a k x) T a j := by
  by_cases e : j = k
  · subst e
    simp [updV, fv, h, gM_sM, va_up]
  · have e1 : gM (sM σ a k x) a j = gM σ a j := by rw [gM_sM]; simp [va_up, e]
    have e2 : gI (sM σ a k x) a j = gI σ a j := rfl
    have e3 : rf (sM σ a k x) a j = rf σ a j := rfl
    simp [updV, e, fv, e1, e2, e3]
theorem fv_sR {ρ : Nat → Nat} {σ : aH} {T : u_T} {a k : Nat} (h : fkd T k = 1) (x : Option Nat) (j : Nat) : updV (fv ρ σ T a) k (va_rf (x.map ρ)) j = fv ρ (sR σ a k x) T a j := by
  by_cases e : j = k
  · subst e
    simp [updV, fv, h, rf_sR, va_up]
  · have e1 : rf (sR σ a k x) a j = rf σ a j := by rw [rf_sR]; simp [va_up, e]
    have e2 : gI (sR σ a k x) a j = gI σ a j := rfl
    have e3 : gM (sR σ a k x) a j = gM σ a j := rfl
    simp [updV, e, fv, e1, e2, e3]
/-- an object's cell, out of its fields -/
theorem cellAt.obj {ρ : Nat → Nat} {σ : aH} {a ci : Nat} {H : Heap} (hc : ci < 11) (ht : tg σ a = ci + 1) (h : t_OB (ρ a) (K.1.1 ci) (cN ci) (K.1.2 ci) H (fv ρ σ (cT ci) a)) : cellAt K ρ σ a H := by
  refine ⟨fun t => ?_, fun t => ?_, fun t => ?_, fun t => ?_, fun cj hj t => ?_⟩
  · omega
  · omega
  · omega
  · omega
  · have : cj = ci := by omega
    rw [this]; exact h
theorem n_getI (hC : CX K B ext sc p l R s m args meth c cno code mL rt ini hs d σ0 σ1) : q_getI C cno code mL rt ini hs sc P (XX K B ext p l e R s m args below meth c mL Q σ0 σ1) := by
  intro pc lv st σ i ci k a dd hf hk ha k0
  refine ⟨k0.1, fun g1 g2 H locs ls hR hS hl => m_get hC hf ((hR.2.2.1 a ha.2).2.2.2.2 ci hf.1 ha.1) dd ?_⟩
  have := k0.2 g1 g2 H locs ls hR hS hl
  simpa [fv, hk, vmv] using this
theorem n_getR (hC : CX K B ext sc p l R s m args meth c cno code mL rt ini hs d σ0 σ1) : q_getR C cno code mL rt ini hs sc P (XX K B ext p l e R s m args below meth c mL Q σ0 σ1) := by
  intro pc lv st σ i ci k a b dd hf hk ha hb' k0
  refine ⟨k0.1, fun g1 g2 H locs ls hR hS hl => m_get hC hf ((hR.2.2.1 a ha.2).2.2.2.2 ci hf.1 ha.1) dd ?_⟩
  have := k0.2 g1 g2 H locs ls hR hS hl
  simpa [fv, hk, hb', va_rf, vmv] using this
theorem n_getM (hC : CX K B ext sc p l R s m args meth c cno code mL rt ini hs d σ0 σ1) : q_getM C cno code mL rt ini hs sc P (XX K B ext p l e R s m args below meth c mL Q σ0 σ1) := by
  intro pc lv st σ i ci k a b dd hf hk ha hb' k0
  refine ⟨k0.1, fun g1 g2 H locs ls hR hS hl => m_get hC hf ((hR.2.2.1 a ha.2).2.2.2.2 ci hf.1 ha.1) dd ?_⟩
  have := k0.2 g1 g2 H locs ls hR hS hl
  simpa [fv, hk, hb', va_rf, vmv] using this
theorem inA {a : Nat} {σ : aH} {H : Heap} (hR : Rel K B ext σ H) (h : a < gN σ) : B ≤ rho B ext a := by rw [rho_lt (Nat.lt_of_lt_of_le h hR.2.1)]; omega
theorem n_putI (hC : CX K B ext sc p l R s m args meth c cno code mL rt ini hs d σ0 σ1) : q_putI C cno code mL rt ini hs sc P (XX K B ext p l e R s m args below meth c mL Q σ0 σ1) := by
  intro pc lv st σ i ci k a x dd hf hk ha k0
  refine ⟨k0.1, fun g1 g2 H locs ls hR hS hl => m_put hC hf ((hR.2.2.1 a ha.2).2.2.2.2 ci hf.1 ha.1) (Or.inl (fk_0 hf.1 hf.2.1 hk).2) ?_ ?_ dd (fun H' j hO hz ho => k0.2 g1 g2 H' _ ls ?_ (hS.put hz ho (inA hR ha.2)) hl)⟩
  · rw [(fk_0 hf.1 hf.2.1 hk).1]; rfl
  · rw [(fk_0 hf.1 hf.2.1 hk).1]; rfl
  · exact hR.one rfl ha.2 hz ho (fun b hb => sI_other hb) (cellAt.obj hf.1 ha.1 (hO.to (fun j _ => fv_sI hk x j)))
theorem n_putM (hC : CX K B ext sc p l R s m args meth c cno code mL rt ini hs d σ0 σ1) : q_putM C cno code mL rt ini hs sc P (XX K B ext p l e R s m args below meth c mL Q σ0 σ1) := by
  intro pc lv st σ i ci k a b dd hf hk ha k0
  refine ⟨k0.1, fun g1 g2 H locs ls hR hS hl => m_put hC hf ((hR.2.2.1 a ha.2).2.2.2.2 ci hf.1 ha.1) (Or.inl (fk_2 hf.1 hf.2.1 hk).2) ?_ ?_ dd (fun H' j hO hz ho => k0.2 g1 g2 H' _ ls ?_ (hS.put hz ho (inA hR ha.2)) hl)⟩
  · exact (isRefTy_ok (fk_2 hf.1 hf.2.1 hk).1 _).1
  · exact (isRefTy_ok (fk_2 hf.1 hf.2.1 hk).1 _).2
  · exact hR.one rfl ha.2 hz ho (fun b hb => sM_other hb) (cellAt.obj hf.1 ha.1 (hO.to (fun j _ => fv_sM hk (some b) j)))
theorem n_putR (hC : CX K B ext sc p l R s m args meth c cno code mL rt ini hs d σ0 σ1) : q_putR C cno code mL rt ini hs sc P (XX K B ext p l e R s m args below meth c mL Q σ0 σ1) := by
  intro pc lv st σ i ci k a b dd hf hk hii ha k0
  refine ⟨k0.1, fun g1 g2 H locs ls hR hS hl => m_put hC hf ((hR.2.2.1 a ha.2).2.2.2.2 ci hf.1 ha.1) (Or.inr ⟨(fk_1 hf.1 hf.2.1 hk).2, hii.1, hii.2⟩) ?_ ?_ dd (fun H' j hO hz ho => k0.2 g1 g2 H' _ ls ?_ (hS.put hz ho (inA hR ha.2)) hl)⟩
  · exact (isRefTy_ok (fk_1 hf.1 hf.2.1 hk).1 _).1
  · exact (isRefTy_ok (fk_1 hf.1 hf.2.1 hk).1 _).2
  · exact hR.one rfl ha.2 hz ho (fun b hb => sR_other hb) (cellAt.obj hf.1 (by rw [tg_sR]; exact ha.1) (hO.to (fun j _ => fv_sR hk (some b) j)))
theorem vin_lt {i : Int32} {n : Nat} (h : vp_in i n) : i.toNatClampNeg < n := Nat.not_le.mp fun q => h (Or.inr q)
theorem vin_arr {i : Int32} {n : Nat} {cA : ClassId} {F : Nat → Value} (h : vp_in i n) : ¬ (i < 0 ∨ (arrV cA n F).slots.size ≤ i.toNatClampNeg) := by rw [arrV_size]; exact h
theorem n_iald (hC : CX K B ext sc p l R s m args meth c cno code mL rt ini hs d σ0 σ1) : q_iald C cno code mL rt ini hs sc P (XX K B ext p l e R s m args below meth c mL Q σ0 σ1) := by
  intro pc lv st σ a i dd ha hi k0
  refine ⟨k0.1, fun g1 g2 H locs ls hR hS hl => W.iald (v := .int (gI σ a i.toNatClampNeg)) hC.1 hC.2.1 ((hR.2.2.1 a ha.2).1 ha.1) ((hC.2.2.2.2.2.1.1.2 0 _ rfl).1 _ _) (fun q => by cases q) (vin_arr hi) (arrV_read _ _ (vin_lt hi)) rfl rfl dd (k0.2 g1 g2 H locs ls hR hS hl)⟩
theorem n_bald (hC : CX K B ext sc p l R s m args meth c cno code mL rt ini hs d σ0 σ1) : q_bald C cno code mL rt ini hs sc P (XX K B ext p l e R s m args below meth c mL Q σ0 σ1) := by
  intro pc lv st σ a i dd ha hi k0
  refine ⟨k0.1, fun g1 g2 H locs ls hR hS hl => W.bald (v := .int (gI σ a i.toNatClampNeg)) hC.1 hC.2.1 ((hR.2.2.1 a ha.2).2.1 ha.1) ((hC.2.2.2.2.2.1.1.2 1 _ rfl).1 _ _) (fun q => by cases q) (vin_arr hi) (arrV_read _ _ (vin_lt hi)) rfl rfl dd (k0.2 g1 g2 H locs ls hR hS hl)⟩
theorem n_lald (hC : CX K B ext sc p l R s m args meth c cno code mL rt ini hs d σ0 σ1) : q_lald C cno code mL rt ini hs sc P (XX K B ext p l e R s m args below meth c mL Q σ0 σ1) := by
  intro pc lv st σ a i dd ha hi k0
  refine ⟨k0.1, fun g1 g2 H locs ls hR hS hl => W.lald (v := .long (gJ σ a i.toNatClampNeg)) hC.1 hC.2.1 ((hR.2.2.1 a ha.2).2.2.1 ha.1) ((hC.2.2.2.2.2.1.1.2 2 _ rfl).1 _ _) (fun q => by cases q) (vin_arr hi) (arrV_read _ _ (vin_lt hi)) rfl rfl dd (k0.2 g1 g2 H locs ls hR hS hl)⟩
theorem n_aald (hC : CX K B ext sc p l R s m args meth c cno code mL rt ini hs d σ0 σ1) : q_aald C cno code mL rt ini hs sc P (XX K B ext p l e R s m args below meth c mL Q σ0 σ1) := by
  intro pc lv st σ a b i dd ha hi hb k0
  refine ⟨k0.1, fun g1 g2 H locs ls hR hS hl => W.aald (v := .ref (rho B ext b)) (ty := .array .int) hC.1 hC.2.1 ((hR.2.2.1 a ha.2).2.2.2.1 ha.1) ((hC.2.2.2.2.2.1.1.2 3 _ rfl).1 _ _) rfl (fun q => by cases q) (vin_arr hi) ((arrV_read _ _ (vin_lt hi)).trans (by rw [hb]; rfl)) rfl rfl dd (k0.2 g1 g2 H locs ls hR hS hl)⟩
theorem n_isld (hC : CX K B ext sc p l R s m args meth c cno code mL rt ini hs d σ0 σ1) : q_isld C cno code mL rt ini hs sc P (XX K B ext p l e R s m args below meth c mL Q σ0 σ1) := by
  intro pc lv st σ i dd hi k0
  obtain ⟨hx, hb, hml, hown, hts, hE, hr, hlk, hin, hRm, hB, htr, htab⟩ := hC
  refine ⟨k0.1, fun g1 g2 H locs ls hR hS hl => ?_⟩
  exact va_sld (A := fun q => B ≤ q) hx hb hE.2.2.1.1 (Nat.lt_of_lt_of_le hE.2.2.1.2 hB) (Nat.not_le.mpr hE.2.2.1.2) hS hi dd (k0.2 g1 g2 H locs ls hR hS hl)
theorem n_slen (hC : CX K B ext sc p l R s m args meth c cno code mL rt ini hs d σ0 σ1) : q_slen C cno code mL rt ini hs sc P (XX K B ext p l e R s m args below meth c mL Q σ0 σ1) := by
  intro pc lv st σ dd k0
  obtain ⟨hx, hb, hml, hown, hts, hE, hr, hlk, hin, hRm, hB, htr, htab⟩ := hC
  refine ⟨k0.1, fun g1 g2 H locs ls hR hS hl => ?_⟩
  exact va_slen (A := fun q => B ≤ q) hx hb hE.2.2.1.1 (Nat.lt_of_lt_of_le hE.2.2.1.2 hB) (Nat.not_le.mpr hE.2.2.1.2) hS dd (k0.2 g1 g2 H locs ls hR hS hl)
theorem updV_i {f : Nat → Int32} {k : Nat} {x : Int32} : updV (fun j => Value.int (f j)) k (.int x) = fun j => Value.int (upd f k x j) := by
  funext j
  by_cases h : j = k
  · simp [updV, upd, h]
  · simp [updV, upd, h]
theorem updV_l {f : Nat → Int64} {k : Nat} {x : Int64} : updV (fun j => Value.long (f j)) k (.long x) = fun j => Value.long (vp_updL f k x j) := by
  funext j
  by_cases h : j = k
  · simp [updV, vp_updL, h]
  · simp [updV, vp_updL, h]
theorem n_iast (hC : CX K B ext sc p l R s m args meth c cno code mL rt ini hs d σ0 σ1) : q_iast C cno code mL rt ini hs sc P (XX K B ext p l e R s m args below meth c mL Q σ0 σ1) := by
  intro pc lv st σ a i x dd ha hi k0
  refine ⟨k0.1, fun g1 g2 H locs ls hR hS hl => W.iast hC.1 hC.2.1 ((hR.2.2.1 a ha.2).1 ha.1) ((hC.2.2.2.2.2.1.1.2 0 _ rfl).1 _ _) (fun q => by cases q) (vin_arr hi) rfl rfl dd (fun H' e1 hz ho => k0.2 g1 g2 H' _ ls ?_ (hS.put hz ho (inA hR ha.2)) hl)⟩
  refine hR.one rfl ha.2 hz ho (fun b hb => sI_other hb) ?_
  have ht : tg (sI σ a i.toNatClampNeg x) a = 101 := ha.1
  refine ⟨fun _ => ?_, fun t => ?_, fun t => ?_, fun t => ?_, fun cj hj t => ?_⟩
  · rw [e1, arrV_store, updV_i, gI_sI]; rfl
  · omega
  · omega
  · omega
  · omega
theorem n_bast (hC : CX K B ext sc p l R s m args meth c cno code mL rt ini hs d σ0 σ1) : q_bast C cno code mL rt ini hs sc P (XX K B ext p l e R s m args below meth c mL Q σ0 σ1) := by
  intro pc lv st σ a i x dd ha hi k0
  refine ⟨k0.1, fun g1 g2 H locs ls hR hS hl => W.bast hC.1 hC.2.1 ((hR.2.2.1 a ha.2).2.1 ha.1) ((hC.2.2.2.2.2.1.1.2 1 _ rfl).1 _ _) (fun q => by cases q) (vin_arr hi) rfl rfl dd (fun H' e1 hz ho => k0.2 g1 g2 H' _ ls ?_ (hS.put hz ho (inA hR ha.2)) hl)⟩
  refine hR.one rfl ha.2 hz ho (fun b hb => sI_other hb) ?_
  have ht : tg (sI σ a i.toNatClampNeg x.toInt8.toInt32) a = 102 := ha.1
  refine ⟨fun t => ?_, fun _ => ?_, fun t => ?_, fun t => ?_, fun cj hj t => ?_⟩
  · omega
  · rw [e1, arrV_store, show narrow .byte (.int x) = .int x.toInt8.toInt32 from rfl, updV_i, gI_sI]; rfl
  · omega
  · omega
  · omega
theorem n_last (hC : CX K B ext sc p l R s m args meth c cno code mL rt ini hs d σ0 σ1) : q_last C cno code mL rt ini hs sc P (XX K B ext p l e R s m args below meth c mL Q σ0 σ1) := by
  intro pc lv st σ a i x dd ha hi k0
  refine ⟨k0.1, fun g1 g2 H locs ls hR hS hl => W.last hC.1 hC.2.1 ((hR.2.2.1 a ha.2).2.2.1 ha.1) ((hC.2.2.2.2.2.1.1.2 2 _ rfl).1 _ _) (fun q => by cases q) (vin_arr hi) rfl rfl dd (fun H' e1 hz ho => k0.2 g1 g2 H' _ ls ?_ (hS.put hz ho (inA hR ha.2)) hl)⟩
  refine hR.one rfl ha.2 hz ho (fun b hb => sJ_other hb) ?_
  have ht : tg (sJ σ a i.toNatClampNeg x) a = 103 := ha.1
  refine ⟨fun t => ?_, fun t => ?_, fun _ => ?_, fun t => ?_, fun cj hj t => ?_⟩
  · omega
  · omega
  · rw [e1, arrV_store, updV_l, gJ_sJ]; rfl
  · omega
  · omega
theorem n_weak (hC : CX K B ext sc p l R s m args meth c cno code mL rt ini hs d σ0 σ1) : q_weak C cno code mL rt ini hs sc P (XX K B ext p l e R s m args below meth c mL Q σ0 σ1) := by
  intro pc lv st σ l' hl' k0
  refine ⟨k0.1, fun g1 g2 H locs ls hR hS hl => k0.2 g1 g2 H locs ls hR hS ⟨hl.1, hl.2.1, fun q hq => ?_⟩⟩
  obtain ⟨z, hz, rfl⟩ := List.mem_map.mp hq
  exact hl.2.2 _ (List.mem_map.mpr ⟨z, hl' z hz, rfl⟩)
theorem n_drop (hC : CX K B ext sc p l R s m args meth c cno code mL rt ini hs d σ0 σ1) : q_drop C cno code mL rt ini hs sc P (XX K B ext p l e R s m args below meth c mL Q σ0 σ1) := by
  intro pc lv st σ a k0
  exact ⟨k0.1, fun g1 g2 H locs ls hR hS hl => k0.2 g1 g2 H locs ls (hR.drop a) hS hl⟩
end
