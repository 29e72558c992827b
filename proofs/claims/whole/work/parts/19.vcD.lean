theorem dX4_stalls_0 : decode cX4_stalls 0 = .ok (.aload_n 0, 1) := by decide +kernel
theorem dX4_stalls_1 : decode cX4_stalls 1 = .ok (.getfield 12, 3) := by decide +kernel
theorem dX4_stalls_4 : decode cX4_stalls 4 = .ok (.getfield 57, 3) := by decide +kernel
theorem dX4_stalls_7 : decode cX4_stalls 7 = .ok (.getfield 61, 3) := by decide +kernel
theorem dX4_stalls_10 : decode cX4_stalls 10 = .ok (.areturn, 1) := by decide +kernel
set_option maxRecDepth 10000 in
theorem t_X4_stalls {sc : Nat × (Nat → Int32)} {d : Nat} {Q : aO → aH → Prop} {σ : aH} {u : Nat}   (hG : G σ u) 
    (h : Q (.inl (some (.ref (u + 1)))) σ) :
    T sc (d + 1) mX4_stalls [.ref 26] σ Q := by
  refine T.of (c := 4) (code := cX4_stalls) (mL := 1) (rt := (some (.object "ShadeLedger$Stalls"))) (ini := false) (l := [(0, .ref 26)]) rfl rfl rfl rfl (by decide) hs_X4_stalls rfl rfl ?_
  refine w_aload_n dX4_stalls_0 rfl (List.Mem.head _) ?_
  refine w_getR (ci := 4) (k := 0) (b := 27) dX4_stalls_1 fl_4_12 (by decide) (gT hG rfl (lt_of rfl)) (gR hG (b := 27) rfl) ?_
  refine w_getM (ci := 6) (k := 5) (b := u) dX4_stalls_4 fl_4_57 (by decide) (gT hG rfl (lt_of rfl)) hG.2.2.2.1 ?_
  refine w_getR (ci := 2) (k := 0) (b := (u + 1)) dX4_stalls_7 fl_4_61 (by decide) (gT hG (IsMk_t0 hG.2.2.2.2) (IsMk_lt hG.2.2.2.2 (k := 0) (by decide))) (gR hG (IsMk_r0_0 hG.2.2.2.2)) ?_
  exact w_aret dX4_stalls_10 rfl h
theorem dX4_keepCells_0 : decode cX4_keepCells 0 = .ok (.aload_n 0, 1) := by decide +kernel
theorem dX4_keepCells_1 : decode cX4_keepCells 1 = .ok (.invokevirtual 67, 3) := by decide +kernel
theorem dX4_keepCells_4 : decode cX4_keepCells 4 = .ok (.getfield 70, 3) := by decide +kernel
theorem dX4_keepCells_7 : decode cX4_keepCells 7 = .ok (.iconst 0, 1) := by decide +kernel
theorem dX4_keepCells_8 : decode cX4_keepCells 8 = .ok (.aload_n 0, 1) := by decide +kernel
theorem dX4_keepCells_9 : decode cX4_keepCells 9 = .ok (.getfield 18, 3) := by decide +kernel
theorem dX4_keepCells_12 : decode cX4_keepCells 12 = .ok (.iconst 0, 1) := by decide +kernel
theorem dX4_keepCells_13 : decode cX4_keepCells 13 = .ok (.bipush 9, 2) := by decide +kernel
theorem dX4_keepCells_15 : decode cX4_keepCells 15 = .ok (.invokestatic 75, 3) := by decide +kernel
theorem dX4_keepCells_18 : decode cX4_keepCells 18 = .ok (.aload_n 0, 1) := by decide +kernel
theorem dX4_keepCells_19 : decode cX4_keepCells 19 = .ok (.invokevirtual 67, 3) := by decide +kernel
theorem dX4_keepCells_22 : decode cX4_keepCells 22 = .ok (.getfield 81, 3) := by decide +kernel
theorem dX4_keepCells_25 : decode cX4_keepCells 25 = .ok (.iconst 0, 1) := by decide +kernel
theorem dX4_keepCells_26 : decode cX4_keepCells 26 = .ok (.aload_n 0, 1) := by decide +kernel
theorem dX4_keepCells_27 : decode cX4_keepCells 27 = .ok (.getfield 22, 3) := by decide +kernel
theorem dX4_keepCells_30 : decode cX4_keepCells 30 = .ok (.iconst 0, 1) := by decide +kernel
theorem dX4_keepCells_31 : decode cX4_keepCells 31 = .ok (.bipush 9, 2) := by decide +kernel
theorem dX4_keepCells_33 : decode cX4_keepCells 33 = .ok (.invokestatic 75, 3) := by decide +kernel
theorem dX4_keepCells_36 : decode cX4_keepCells 36 = .ok (.return_, 1) := by decide +kernel
set_option maxRecDepth 10000 in
theorem t_X4_keepCells {sc : Nat × (Nat → Int32)} {d : Nat} {Q : aO → aH → Prop} {σ : aH} {u : Nat}   (hG : G σ u) 
    (h : (∃ σ1 : aH, Ev sc d mX4_stalls [.ref 26] σ (.inl (some (.ref (u + 1)))) σ1 ∧ G σ1 u ∧ (∀ σ5 : aH, wC σ1 (u + 2) 55 = σ5 → (∃ σ8 : aH, Ev sc d mX4_stalls [.ref 26] σ5 (.inl (some (.ref (u + 1)))) σ8 ∧ G σ8 u ∧ (∀ σ12 : aH, wC σ8 (u + 3) 56 = σ12 → Q (.inl none) σ12))))) :
    T sc (d + 1) mX4_keepCells [.ref 26] σ Q := by
  refine T.of (c := 4) (code := cX4_keepCells) (mL := 1) (rt := none) (ini := false) (l := [(0, .ref 26)]) rfl rfl rfl rfl (by decide) hs_X4_keepCells rfl rfl ?_
  refine w_aload_n dX4_keepCells_0 rfl (List.Mem.head _) ?_
  obtain ⟨σ1, hc3, hG2, h⟩ := h
  refine w_callV dX4_keepCells_1 ml_4_67 ⟨ok_X4_stalls, vi_X4_stalls⟩ hs_X4_stalls (As := []) rfl rfl (gT hG rfl (lt_of rfl)) (Nat.le_of_ble_eq_true rfl) hc3 ?_
  show wp (Ev sc d) 4 cX4_keepCells 1 none false [] sc Q 4 [(0, .ref 26)] [.ref (u + 1)] σ1
  refine w_getR (ci := 7) (k := 0) (b := (u + 2)) dX4_keepCells_4 fl_4_70 (by decide) (gT hG2 (IsMk_t1 hG.2.2.2.2) (IsMk_lt hG.2.2.2.2 (k := 1) (by decide))) (gR hG2 (IsMk_r1_0 hG.2.2.2.2)) ?_
  refine w_iconst (v := nZ 0) dX4_keepCells_7 (by decide) ?_
  refine w_aload_n dX4_keepCells_8 rfl (List.Mem.head _) ?_
  refine w_getR (ci := 4) (k := 1) (b := 55) dX4_keepCells_9 fl_4_18 (by decide) (gT hG2 rfl (lt_of rfl)) (gR hG2 (b := 55) rfl) ?_
  refine w_iconst (v := nZ 0) dX4_keepCells_12 (by decide) ?_
  refine w_bipush (v := nZ 9) dX4_keepCells_13 (by decide) ?_
  refine i_copy dX4_keepCells_15 lk_4_75 (Nat.le_of_ble_eq_true rfl) (gT hG2 (IsMk_t2 hG.2.2.2.2) (IsMk_lt hG.2.2.2.2 (k := 2) (by decide))) (gT hG2 rfl (lt_of rfl)) (gL hG2 (IsMk_n2 hG.2.2.2.2)) (gL hG2 rfl) (by decide) (fun σ5 eσ6 => ?_)
  replace h := h σ5 eσ6
  have hG7 : G σ5 u := eσ6 ▸ G.wC hG2
  refine w_aload_n dX4_keepCells_18 rfl (List.Mem.head _) ?_
  obtain ⟨σ8, hc10, hG9, h⟩ := h
  refine w_callV dX4_keepCells_19 ml_4_67 ⟨ok_X4_stalls, vi_X4_stalls⟩ hs_X4_stalls (As := []) rfl rfl (gT hG7 rfl (lt_of rfl)) (Nat.le_of_ble_eq_true rfl) hc10 ?_
  show wp (Ev sc d) 4 cX4_keepCells 1 none false [] sc Q 22 [(0, .ref 26)] [.ref (u + 1)] σ8
  refine w_getR (ci := 7) (k := 1) (b := (u + 3)) dX4_keepCells_22 fl_4_81 (by decide) (gT hG9 (IsMk_t1 hG.2.2.2.2) (IsMk_lt hG.2.2.2.2 (k := 1) (by decide))) (gR hG9 (IsMk_r1_1 hG.2.2.2.2)) ?_
  refine w_iconst (v := nZ 0) dX4_keepCells_25 (by decide) ?_
  refine w_aload_n dX4_keepCells_26 rfl (List.Mem.head _) ?_
  refine w_getR (ci := 4) (k := 2) (b := 56) dX4_keepCells_27 fl_4_22 (by decide) (gT hG9 rfl (lt_of rfl)) (gR hG9 (b := 56) rfl) ?_
  refine w_iconst (v := nZ 0) dX4_keepCells_30 (by decide) ?_
  refine w_bipush (v := nZ 9) dX4_keepCells_31 (by decide) ?_
  refine i_copy dX4_keepCells_33 lk_4_75 (Nat.le_of_ble_eq_true rfl) (gT hG9 (IsMk_t3 hG.2.2.2.2) (IsMk_lt hG.2.2.2.2 (k := 3) (by decide))) (gT hG9 rfl (lt_of rfl)) (gL hG9 (IsMk_n3 hG.2.2.2.2)) (gL hG9 rfl) (by decide) (fun σ12 eσ13 => ?_)
  replace h := h σ12 eσ13
  have hG14 : G σ12 u := eσ13 ▸ G.wC hG9
  exact w_vret dX4_keepCells_36 rfl h
theorem dX4_putCellsBack_0 : decode cX4_putCellsBack 0 = .ok (.aload_n 0, 1) := by decide +kernel
theorem dX4_putCellsBack_1 : decode cX4_putCellsBack 1 = .ok (.getfield 18, 3) := by decide +kernel
theorem dX4_putCellsBack_4 : decode cX4_putCellsBack 4 = .ok (.iconst 0, 1) := by decide +kernel
theorem dX4_putCellsBack_5 : decode cX4_putCellsBack 5 = .ok (.aload_n 0, 1) := by decide +kernel
theorem dX4_putCellsBack_6 : decode cX4_putCellsBack 6 = .ok (.invokevirtual 67, 3) := by decide +kernel
theorem dX4_putCellsBack_9 : decode cX4_putCellsBack 9 = .ok (.getfield 70, 3) := by decide +kernel
theorem dX4_putCellsBack_12 : decode cX4_putCellsBack 12 = .ok (.iconst 0, 1) := by decide +kernel
theorem dX4_putCellsBack_13 : decode cX4_putCellsBack 13 = .ok (.bipush 9, 2) := by decide +kernel
theorem dX4_putCellsBack_15 : decode cX4_putCellsBack 15 = .ok (.invokestatic 75, 3) := by decide +kernel
theorem dX4_putCellsBack_18 : decode cX4_putCellsBack 18 = .ok (.aload_n 0, 1) := by decide +kernel
theorem dX4_putCellsBack_19 : decode cX4_putCellsBack 19 = .ok (.getfield 22, 3) := by decide +kernel
theorem dX4_putCellsBack_22 : decode cX4_putCellsBack 22 = .ok (.iconst 0, 1) := by decide +kernel
theorem dX4_putCellsBack_23 : decode cX4_putCellsBack 23 = .ok (.aload_n 0, 1) := by decide +kernel
theorem dX4_putCellsBack_24 : decode cX4_putCellsBack 24 = .ok (.invokevirtual 67, 3) := by decide +kernel
theorem dX4_putCellsBack_27 : decode cX4_putCellsBack 27 = .ok (.getfield 81, 3) := by decide +kernel
theorem dX4_putCellsBack_30 : decode cX4_putCellsBack 30 = .ok (.iconst 0, 1) := by decide +kernel
theorem dX4_putCellsBack_31 : decode cX4_putCellsBack 31 = .ok (.bipush 9, 2) := by decide +kernel
theorem dX4_putCellsBack_33 : decode cX4_putCellsBack 33 = .ok (.invokestatic 75, 3) := by decide +kernel
theorem dX4_putCellsBack_36 : decode cX4_putCellsBack 36 = .ok (.return_, 1) := by decide +kernel
set_option maxRecDepth 10000 in
theorem t_X4_putCellsBack {sc : Nat × (Nat → Int32)} {d : Nat} {Q : aO → aH → Prop} {σ : aH} {u : Nat}   (hG : G σ u) 
    (h : (∃ σ1 : aH, Ev sc d mX4_stalls [.ref 26] σ (.inl (some (.ref (u + 1)))) σ1 ∧ G σ1 u ∧ (∀ σ5 : aH, wC σ1 55 (u + 2) = σ5 → (∃ σ8 : aH, Ev sc d mX4_stalls [.ref 26] σ5 (.inl (some (.ref (u + 1)))) σ8 ∧ G σ8 u ∧ (∀ σ12 : aH, wC σ8 56 (u + 3) = σ12 → Q (.inl none) σ12))))) :
    T sc (d + 1) mX4_putCellsBack [.ref 26] σ Q := by
  refine T.of (c := 4) (code := cX4_putCellsBack) (mL := 1) (rt := none) (ini := false) (l := [(0, .ref 26)]) rfl rfl rfl rfl (by decide) hs_X4_putCellsBack rfl rfl ?_
  refine w_aload_n dX4_putCellsBack_0 rfl (List.Mem.head _) ?_
  refine w_getR (ci := 4) (k := 1) (b := 55) dX4_putCellsBack_1 fl_4_18 (by decide) (gT hG rfl (lt_of rfl)) (gR hG (b := 55) rfl) ?_
  refine w_iconst (v := nZ 0) dX4_putCellsBack_4 (by decide) ?_
  refine w_aload_n dX4_putCellsBack_5 rfl (List.Mem.head _) ?_
  obtain ⟨σ1, hc3, hG2, h⟩ := h
  refine w_callV dX4_putCellsBack_6 ml_4_67 ⟨ok_X4_stalls, vi_X4_stalls⟩ hs_X4_stalls (As := []) rfl rfl (gT hG rfl (lt_of rfl)) (Nat.le_of_ble_eq_true rfl) hc3 ?_
  show wp (Ev sc d) 4 cX4_putCellsBack 1 none false [] sc Q 9 [(0, .ref 26)] [.ref (u + 1), .int (nZ 0), .ref 55] σ1
  refine w_getR (ci := 7) (k := 0) (b := (u + 2)) dX4_putCellsBack_9 fl_4_70 (by decide) (gT hG2 (IsMk_t1 hG.2.2.2.2) (IsMk_lt hG.2.2.2.2 (k := 1) (by decide))) (gR hG2 (IsMk_r1_0 hG.2.2.2.2)) ?_
  refine w_iconst (v := nZ 0) dX4_putCellsBack_12 (by decide) ?_
  refine w_bipush (v := nZ 9) dX4_putCellsBack_13 (by decide) ?_
  refine i_copy dX4_putCellsBack_15 lk_4_75 (Nat.le_of_ble_eq_true rfl) (gT hG2 rfl (lt_of rfl)) (gT hG2 (IsMk_t2 hG.2.2.2.2) (IsMk_lt hG.2.2.2.2 (k := 2) (by decide))) (gL hG2 rfl) (gL hG2 (IsMk_n2 hG.2.2.2.2)) (by decide) (fun σ5 eσ6 => ?_)
  replace h := h σ5 eσ6
  have hG7 : G σ5 u := eσ6 ▸ G.wC hG2
  refine w_aload_n dX4_putCellsBack_18 rfl (List.Mem.head _) ?_
  refine w_getR (ci := 4) (k := 2) (b := 56) dX4_putCellsBack_19 fl_4_22 (by decide) (gT hG7 rfl (lt_of rfl)) (gR hG7 (b := 56) rfl) ?_
  refine w_iconst (v := nZ 0) dX4_putCellsBack_22 (by decide) ?_
  refine w_aload_n dX4_putCellsBack_23 rfl (List.Mem.head _) ?_
  obtain ⟨σ8, hc10, hG9, h⟩ := h
  refine w_callV dX4_putCellsBack_24 ml_4_67 ⟨ok_X4_stalls, vi_X4_stalls⟩ hs_X4_stalls (As := []) rfl rfl (gT hG7 rfl (lt_of rfl)) (Nat.le_of_ble_eq_true rfl) hc10 ?_
  show wp (Ev sc d) 4 cX4_putCellsBack 1 none false [] sc Q 27 [(0, .ref 26)] [.ref (u + 1), .int (nZ 0), .ref 56] σ8
  refine w_getR (ci := 7) (k := 1) (b := (u + 3)) dX4_putCellsBack_27 fl_4_81 (by decide) (gT hG9 (IsMk_t1 hG.2.2.2.2) (IsMk_lt hG.2.2.2.2 (k := 1) (by decide))) (gR hG9 (IsMk_r1_1 hG.2.2.2.2)) ?_
  refine w_iconst (v := nZ 0) dX4_putCellsBack_30 (by decide) ?_
  refine w_bipush (v := nZ 9) dX4_putCellsBack_31 (by decide) ?_
  refine i_copy dX4_putCellsBack_33 lk_4_75 (Nat.le_of_ble_eq_true rfl) (gT hG9 rfl (lt_of rfl)) (gT hG9 (IsMk_t3 hG.2.2.2.2) (IsMk_lt hG.2.2.2.2 (k := 3) (by decide))) (gL hG9 rfl) (gL hG9 (IsMk_n3 hG.2.2.2.2)) (by decide) (fun σ12 eσ13 => ?_)
  replace h := h σ12 eσ13
  have hG14 : G σ12 u := eσ13 ▸ G.wC hG9
  exact w_vret dX4_putCellsBack_36 rfl h
theorem dX4_startSearch_0 : decode cX4_startSearch 0 = .ok (.aload_n 0, 1) := by decide +kernel
theorem dX4_startSearch_1 : decode cX4_startSearch 1 = .ok (.ldc 84, 2) := by decide +kernel
theorem dX4_startSearch_3 : decode cX4_startSearch 3 = .ok (.putfield 35, 3) := by decide +kernel
theorem dX4_startSearch_6 : decode cX4_startSearch 6 = .ok (.aload_n 0, 1) := by decide +kernel
theorem dX4_startSearch_7 : decode cX4_startSearch 7 = .ok (.iconst (-1), 1) := by decide +kernel
theorem dX4_startSearch_8 : decode cX4_startSearch 8 = .ok (.putfield 39, 3) := by decide +kernel
theorem dX4_startSearch_11 : decode cX4_startSearch 11 = .ok (.return_, 1) := by decide +kernel
set_option maxRecDepth 10000 in
theorem t_X4_startSearch {sc : Nat × (Nat → Int32)} {d : Nat} {Q : aO → aH → Prop} {σ : aH} {u : Nat}   (hG : G σ u) 
    (h : (∀ σ1 : aH, wI σ 26 6 1000000000 = σ1 → (∀ σ4 : aH, wI σ1 26 7 (-1) = σ4 → Q (.inl none) σ4))) :
    T sc (d + 1) mX4_startSearch [.ref 26] σ Q := by
  refine T.of (c := 4) (code := cX4_startSearch) (mL := 1) (rt := none) (ini := false) (l := [(0, .ref 26)]) rfl rfl rfl rfl (by decide) hs_X4_startSearch rfl rfl ?_
  refine w_aload_n dX4_startSearch_0 rfl (List.Mem.head _) ?_
  refine i_ldc (x := 1000000000) dX4_startSearch_1 kc_4_84 (by decide) ?_
  refine i_putI (ci := 4) 6 rfl dX4_startSearch_3 fl_4_35 (by decide) (gT hG rfl (lt_of rfl)) (fun σ1 eσ2 => ?_)
  replace h := h σ1 eσ2
  have hG3 : G σ1 u := eσ2 ▸ G.wI hG
  refine w_aload_n dX4_startSearch_6 rfl (List.Mem.head _) ?_
  refine w_iconst (v := nZ (-1)) dX4_startSearch_7 (by decide) ?_
  refine i_putI (ci := 4) 7 rfl dX4_startSearch_8 fl_4_39 (by decide) (gT hG3 rfl (lt_of rfl)) (fun σ4 eσ5 => ?_)
  replace h := h σ4 eσ5
  have hG6 : G σ4 u := eσ5 ▸ G.wI hG3
  exact w_vret dX4_startSearch_11 rfl h
theorem dX4_weighWay_0 : decode cX4_weighWay 0 = .ok (.aload_n 0, 1) := by decide +kernel
theorem dX4_weighWay_1 : decode cX4_weighWay 1 = .ok (.getfield 12, 3) := by decide +kernel
theorem dX4_weighWay_4 : decode cX4_weighWay 4 = .ok (.aload_n 0, 1) := by decide +kernel
theorem dX4_weighWay_5 : decode cX4_weighWay 5 = .ok (.getfield 12, 3) := by decide +kernel
theorem dX4_weighWay_8 : decode cX4_weighWay 8 = .ok (.getfield 85, 3) := by decide +kernel
theorem dX4_weighWay_11 : decode cX4_weighWay 11 = .ok (.aload_n 0, 1) := by decide +kernel
theorem dX4_weighWay_12 : decode cX4_weighWay 12 = .ok (.getfield 35, 3) := by decide +kernel
theorem dX4_weighWay_15 : decode cX4_weighWay 15 = .ok (.invokevirtual 89, 3) := by decide +kernel
theorem dX4_weighWay_18 : decode cX4_weighWay 18 = .ok (.istore_n 2, 1) := by decide +kernel
theorem dX4_weighWay_19 : decode cX4_weighWay 19 = .ok (.iload_n 2, 1) := by decide +kernel
theorem dX4_weighWay_20 : decode cX4_weighWay 20 = .ok (.aload_n 0, 1) := by decide +kernel
theorem dX4_weighWay_21 : decode cX4_weighWay 21 = .ok (.getfield 35, 3) := by decide +kernel
theorem dX4_weighWay_24 : decode cX4_weighWay 24 = .ok (.if_icmp .ge 13, 3) := by decide +kernel
theorem dX4_weighWay_27 : decode cX4_weighWay 27 = .ok (.aload_n 0, 1) := by decide +kernel
theorem dX4_weighWay_28 : decode cX4_weighWay 28 = .ok (.iload_n 2, 1) := by decide +kernel
theorem dX4_weighWay_29 : decode cX4_weighWay 29 = .ok (.putfield 35, 3) := by decide +kernel
theorem dX4_weighWay_32 : decode cX4_weighWay 32 = .ok (.aload_n 0, 1) := by decide +kernel
theorem dX4_weighWay_33 : decode cX4_weighWay 33 = .ok (.iload_n 1, 1) := by decide +kernel
theorem dX4_weighWay_34 : decode cX4_weighWay 34 = .ok (.putfield 39, 3) := by decide +kernel
theorem dX4_weighWay_37 : decode cX4_weighWay 37 = .ok (.return_, 1) := by decide +kernel
set_option maxRecDepth 10000 in
theorem t_X4_weighWay {sc : Nat × (Nat → Int32)} {d : Nat} {Q : aO → aH → Prop} {σ : aH} {u : Nat}  {x1 : Int} (hG : G σ u) (rx1 : inR x1)
    (h : (∃ (r5 : Int) (σ1 : aH), Ev sc d mX6_total [.ref 27, .ref 28, .int (nZ (rI σ 26 6))] σ (.inl (some (.int (nZ r5)))) σ1 ∧ G σ1 u ∧ inR r5 ∧ (((rI σ1 26 6) ≤ r5 → Q (.inl none) σ1) ∧ (¬ ((rI σ1 26 6) ≤ r5) → (∀ σ6 : aH, wI σ1 26 6 r5 = σ6 → (∀ σ9 : aH, wI σ6 26 7 x1 = σ9 → Q (.inl none) σ9)))))) :
    T sc (d + 1) mX4_weighWay [.ref 26, .int (nZ x1)] σ Q := by
  refine T.of (c := 4) (code := cX4_weighWay) (mL := 3) (rt := none) (ini := false) (l := [(0, .ref 26), (1, .int (nZ x1))]) rfl rfl rfl rfl (by decide) hs_X4_weighWay rfl rfl ?_
  refine w_aload_n dX4_weighWay_0 rfl (List.Mem.head _) ?_
  refine w_getR (ci := 4) (k := 0) (b := 27) dX4_weighWay_1 fl_4_12 (by decide) (gT hG rfl (lt_of rfl)) (gR hG (b := 27) rfl) ?_
  refine w_aload_n dX4_weighWay_4 rfl (List.Mem.head _) ?_
  refine w_getR (ci := 4) (k := 0) (b := 27) dX4_weighWay_5 fl_4_12 (by decide) (gT hG rfl (lt_of rfl)) (gR hG (b := 27) rfl) ?_
  refine w_getR (ci := 6) (k := 0) (b := 28) dX4_weighWay_8 fl_4_85 (by decide) (gT hG rfl (lt_of rfl)) (gR hG (b := 28) rfl) ?_
  refine w_aload_n dX4_weighWay_11 rfl (List.Mem.head _) ?_
  refine i_getI (ci := 4) 6 rfl dX4_weighWay_12 fl_4_35 (by decide) (gT hG rfl (lt_of rfl)) ?_
  obtain ⟨r5, σ1, hc3, hG2, rr4, h⟩ := h
  refine w_callV dX4_weighWay_15 ml_4_89 ⟨ok_X6_total, vi_X6_total⟩ hs_X6_total (As := [.ref 28, .int (nZ (rI σ 26 6))]) rfl rfl (gT hG rfl (lt_of rfl)) (Nat.le_of_ble_eq_true rfl) hc3 ?_
  show wp (Ev sc d) 4 cX4_weighWay 3 none false [] sc Q 18 [(0, .ref 26), (1, .int (nZ x1))] [.int (nZ r5)] σ1
  refine w_istore_n (l' := [(2, .int (nZ r5)), (0, .ref 26), (1, .int (nZ x1))]) dX4_weighWay_18 rfl (by decide) rfl ?_
  refine w_iload_n dX4_weighWay_19 rfl (List.Mem.head _) ?_
  refine w_aload_n dX4_weighWay_20 rfl (List.Mem.tail _ (List.Mem.head _)) ?_
  refine i_getI (ci := 4) 6 rfl dX4_weighWay_21 fl_4_35 (by decide) (gT hG2 rfl (lt_of rfl)) ?_
  refine i_cmp_ge (tgt := 37) dX4_weighWay_24 rfl rr4 (rI_R _ _ _) (fun c9 => ?_) (fun c9 => ?_)
  · replace h := h.1 c9
    exact w_vret dX4_weighWay_37 rfl h
  · replace h := h.2 c9
    refine w_aload_n dX4_weighWay_27 rfl (List.Mem.tail _ (List.Mem.head _)) ?_
    refine w_iload_n dX4_weighWay_28 rfl (List.Mem.head _) ?_
    refine i_putI (ci := 4) 6 rfl dX4_weighWay_29 fl_4_35 (by decide) (gT hG2 rfl (lt_of rfl)) (fun σ6 eσ7 => ?_)
    replace h := h σ6 eσ7
    have hG8 : G σ6 u := eσ7 ▸ G.wI hG2
    refine w_aload_n dX4_weighWay_32 rfl (List.Mem.tail _ (List.Mem.head _)) ?_
    refine w_iload_n dX4_weighWay_33 rfl (List.Mem.tail _ (List.Mem.tail _ (List.Mem.head _))) ?_
    refine i_putI (ci := 4) 7 rfl dX4_weighWay_34 fl_4_39 (by decide) (gT hG8 rfl (lt_of rfl)) (fun σ9 eσ10 => ?_)
    replace h := h σ9 eσ10
    have hG11 : G σ9 u := eσ10 ▸ G.wI hG8
    exact w_vret dX4_weighWay_37 rfl h
theorem dX4_placeAnew_0 : decode cX4_placeAnew 0 = .ok (.aload_n 0, 1) := by decide +kernel
theorem dX4_placeAnew_1 : decode cX4_placeAnew 1 = .ok (.invokevirtual 93, 3) := by decide +kernel
theorem dX4_placeAnew_4 : decode cX4_placeAnew 4 = .ok (.aload_n 0, 1) := by decide +kernel
theorem dX4_placeAnew_5 : decode cX4_placeAnew 5 = .ok (.invokevirtual 96, 3) := by decide +kernel
theorem dX4_placeAnew_8 : decode cX4_placeAnew 8 = .ok (.aload_n 0, 1) := by decide +kernel
theorem dX4_placeAnew_9 : decode cX4_placeAnew 9 = .ok (.getfield 12, 3) := by decide +kernel
theorem dX4_placeAnew_12 : decode cX4_placeAnew 12 = .ok (.getfield 57, 3) := by decide +kernel
theorem dX4_placeAnew_15 : decode cX4_placeAnew 15 = .ok (.astore_n 3, 1) := by decide +kernel
theorem dX4_placeAnew_16 : decode cX4_placeAnew 16 = .ok (.iconst 0, 1) := by decide +kernel
theorem dX4_placeAnew_17 : decode cX4_placeAnew 17 = .ok (.istore 4, 2) := by decide +kernel
theorem dX4_placeAnew_19 : decode cX4_placeAnew 19 = .ok (.iload 4, 2) := by decide +kernel
theorem dX4_placeAnew_21 : decode cX4_placeAnew 21 = .ok (.aload_n 3, 1) := by decide +kernel
theorem dX4_placeAnew_22 : decode cX4_placeAnew 22 = .ok (.getfield 99, 3) := by decide +kernel
theorem dX4_placeAnew_25 : decode cX4_placeAnew 25 = .ok (.if_icmp .ge 86, 3) := by decide +kernel
theorem dX4_placeAnew_28 : decode cX4_placeAnew 28 = .ok (.iconst 0, 1) := by decide +kernel
theorem dX4_placeAnew_29 : decode cX4_placeAnew 29 = .ok (.istore 5, 2) := by decide +kernel
theorem dX4_placeAnew_31 : decode cX4_placeAnew 31 = .ok (.iload 5, 2) := by decide +kernel
theorem dX4_placeAnew_33 : decode cX4_placeAnew 33 = .ok (.aload_n 3, 1) := by decide +kernel
theorem dX4_placeAnew_34 : decode cX4_placeAnew 34 = .ok (.getfield 102, 3) := by decide +kernel
theorem dX4_placeAnew_37 : decode cX4_placeAnew 37 = .ok (.if_icmp .ge 68, 3) := by decide +kernel
theorem dX4_placeAnew_40 : decode cX4_placeAnew 40 = .ok (.aload_n 0, 1) := by decide +kernel
theorem dX4_placeAnew_41 : decode cX4_placeAnew 41 = .ok (.getfield 35, 3) := by decide +kernel
theorem dX4_placeAnew_44 : decode cX4_placeAnew 44 = .ok (.ifCond .le 61, 3) := by decide +kernel
theorem dX4_placeAnew_47 : decode cX4_placeAnew 47 = .ok (.aload_n 0, 1) := by decide +kernel
theorem dX4_placeAnew_48 : decode cX4_placeAnew 48 = .ok (.invokevirtual 67, 3) := by decide +kernel
theorem dX4_placeAnew_51 : decode cX4_placeAnew 51 = .ok (.iload 5, 2) := by decide +kernel
theorem dX4_placeAnew_53 : decode cX4_placeAnew 53 = .ok (.iload 4, 2) := by decide +kernel
theorem dX4_placeAnew_55 : decode cX4_placeAnew 55 = .ok (.invokevirtual 105, 3) := by decide +kernel
theorem dX4_placeAnew_58 : decode cX4_placeAnew 58 = .ok (.istore 6, 2) := by decide +kernel
theorem dX4_placeAnew_60 : decode cX4_placeAnew 60 = .ok (.iload 6, 2) := by decide +kernel
theorem dX4_placeAnew_62 : decode cX4_placeAnew 62 = .ok (.iload_n 1, 1) := by decide +kernel
theorem dX4_placeAnew_63 : decode cX4_placeAnew 63 = .ok (.iload_n 2, 1) := by decide +kernel
theorem dX4_placeAnew_64 : decode cX4_placeAnew 64 = .ok (.invokestatic 109, 3) := by decide +kernel
theorem dX4_placeAnew_67 : decode cX4_placeAnew 67 = .ok (.ifCond .eq 28, 3) := by decide +kernel
theorem dX4_placeAnew_70 : decode cX4_placeAnew 70 = .ok (.aload_n 0, 1) := by decide +kernel
theorem dX4_placeAnew_71 : decode cX4_placeAnew 71 = .ok (.invokevirtual 67, 3) := by decide +kernel
theorem dX4_placeAnew_74 : decode cX4_placeAnew 74 = .ok (.iload_n 1, 1) := by decide +kernel
theorem dX4_placeAnew_75 : decode cX4_placeAnew 75 = .ok (.iload 5, 2) := by decide +kernel
theorem dX4_placeAnew_77 : decode cX4_placeAnew 77 = .ok (.iload 4, 2) := by decide +kernel
theorem dX4_placeAnew_79 : decode cX4_placeAnew 79 = .ok (.invokevirtual 113, 3) := by decide +kernel
theorem dX4_placeAnew_82 : decode cX4_placeAnew 82 = .ok (.aload_n 0, 1) := by decide +kernel
theorem dX4_placeAnew_83 : decode cX4_placeAnew 83 = .ok (.iload_n 2, 1) := by decide +kernel
theorem dX4_placeAnew_84 : decode cX4_placeAnew 84 = .ok (.iload 5, 2) := by decide +kernel
theorem dX4_placeAnew_86 : decode cX4_placeAnew 86 = .ok (.bipush 10, 2) := by decide +kernel
theorem dX4_placeAnew_88 : decode cX4_placeAnew 88 = .ok (.iload 4, 2) := by decide +kernel
theorem dX4_placeAnew_90 : decode cX4_placeAnew 90 = .ok (.imul, 1) := by decide +kernel
theorem dX4_placeAnew_91 : decode cX4_placeAnew 91 = .ok (.iadd, 1) := by decide +kernel
theorem dX4_placeAnew_92 : decode cX4_placeAnew 92 = .ok (.invokevirtual 117, 3) := by decide +kernel
theorem dX4_placeAnew_95 : decode cX4_placeAnew 95 = .ok (.aload_n 0, 1) := by decide +kernel
theorem dX4_placeAnew_96 : decode cX4_placeAnew 96 = .ok (.invokevirtual 121, 3) := by decide +kernel
theorem dX4_placeAnew_99 : decode cX4_placeAnew 99 = .ok (.iinc 5 1, 3) := by decide +kernel
theorem dX4_placeAnew_102 : decode cX4_placeAnew 102 = .ok (.goto (-71), 3) := by decide +kernel
theorem dX4_placeAnew_105 : decode cX4_placeAnew 105 = .ok (.iinc 4 1, 3) := by decide +kernel
theorem dX4_placeAnew_108 : decode cX4_placeAnew 108 = .ok (.goto (-89), 3) := by decide +kernel
theorem dX4_placeAnew_111 : decode cX4_placeAnew 111 = .ok (.return_, 1) := by decide +kernel
def L_X4_placeAnew_19 (C : aM → List Value → aH → aO → aH → Prop) (sc : Nat × (Nat → Int32)) (P : aO → aH → Prop) (u : Nat) (x1 : Int) (x2 : Int) (x4 : Int) (σ : aH) : Prop :=
    wp C 4 cX4_placeAnew 7 none false [] sc P 19 [(0, .ref 26), (1, .int (nZ x1)), (2, .int (nZ x2)), (3, .ref u), (4, .int (nZ x4))] [] σ
def L_X4_placeAnew_31 (C : aM → List Value → aH → aO → aH → Prop) (sc : Nat × (Nat → Int32)) (P : aO → aH → Prop) (u : Nat) (x1 : Int) (x2 : Int) (x4 : Int) (x5 : Int) (σ : aH) : Prop :=
    wp C 4 cX4_placeAnew 7 none false [] sc P 31 [(0, .ref 26), (1, .int (nZ x1)), (2, .int (nZ x2)), (3, .ref u), (4, .int (nZ x4)), (5, .int (nZ x5))] [] σ
set_option maxRecDepth 10000 in
theorem t_X4_placeAnew {sc : Nat × (Nat → Int32)} {d : Nat} {Q : aO → aH → Prop} {σ : aH} {u : Nat}  {x1 : Int} {x2 : Int} (hG : G σ u) (rx1 : inR x1) (rx2 : inR x2)
    (h : (∃ σ1 : aH, Ev sc d mX4_keepCells [.ref 26] σ (.inl none) σ1 ∧ G σ1 u ∧ (∃ σ5 : aH, Ev sc d mX4_startSearch [.ref 26] σ1 (.inl none) σ5 ∧ G σ5 u ∧ L_X4_placeAnew_19 (Ev sc d) sc Q u x1 x2 0 σ5))) :
    T sc (d + 1) mX4_placeAnew [.ref 26, .int (nZ x1), .int (nZ x2)] σ Q := by
  refine T.of (c := 4) (code := cX4_placeAnew) (mL := 7) (rt := none) (ini := false) (l := [(0, .ref 26), (1, .int (nZ x1)), (2, .int (nZ x2))]) rfl rfl rfl rfl (by decide) hs_X4_placeAnew rfl rfl ?_
  refine w_aload_n dX4_placeAnew_0 rfl (List.Mem.head _) ?_
  obtain ⟨σ1, hc3, hG2, h⟩ := h
  refine w_callV dX4_placeAnew_1 ml_4_93 ⟨ok_X4_keepCells, vi_X4_keepCells⟩ hs_X4_keepCells (As := []) rfl rfl (gT hG rfl (lt_of rfl)) (Nat.le_of_ble_eq_true rfl) hc3 ?_
  show wp (Ev sc d) 4 cX4_placeAnew 7 none false [] sc Q 4 [(0, .ref 26), (1, .int (nZ x1)), (2, .int (nZ x2))] [] σ1
  refine w_aload_n dX4_placeAnew_4 rfl (List.Mem.head _) ?_
  obtain ⟨σ5, hc7, hG6, h⟩ := h
  refine w_callV dX4_placeAnew_5 ml_4_96 ⟨ok_X4_startSearch, vi_X4_startSearch⟩ hs_X4_startSearch (As := []) rfl rfl (gT hG2 rfl (lt_of rfl)) (Nat.le_of_ble_eq_true rfl) hc7 ?_
  show wp (Ev sc d) 4 cX4_placeAnew 7 none false [] sc Q 8 [(0, .ref 26), (1, .int (nZ x1)), (2, .int (nZ x2))] [] σ5
  refine w_aload_n dX4_placeAnew_8 rfl (List.Mem.head _) ?_
  refine w_getR (ci := 4) (k := 0) (b := 27) dX4_placeAnew_9 fl_4_12 (by decide) (gT hG6 rfl (lt_of rfl)) (gR hG6 (b := 27) rfl) ?_
  refine w_getM (ci := 6) (k := 5) (b := u) dX4_placeAnew_12 fl_4_57 (by decide) (gT hG6 rfl (lt_of rfl)) hG6.2.2.2.1 ?_
  refine w_astore_n (l' := [(3, .ref u), (0, .ref 26), (1, .int (nZ x1)), (2, .int (nZ x2))]) dX4_placeAnew_15 rfl (by decide) rfl ?_
  refine w_iconst (v := nZ 0) dX4_placeAnew_16 (by decide) ?_
  refine w_istore (l' := [(4, .int (nZ 0)), (3, .ref u), (0, .ref 26), (1, .int (nZ x1)), (2, .int (nZ x2))]) dX4_placeAnew_17 (by decide) rfl ?_
  exact w_weak (l' := [(0, .ref 26), (1, .int (nZ x1)), (2, .int (nZ x2)), (3, .ref u), (4, .int (nZ 0))]) (by intro q hq; simp only [List.mem_cons, List.not_mem_nil, or_false] at hq ⊢; rcases hq with rfl | rfl | rfl | rfl | rfl <;> simp) h
set_option maxRecDepth 10000 in
theorem v_X4_placeAnew_19 {C : aM → List Value → aH → aO → aH → Prop} {sc : Nat × (Nat → Int32)} {P : aO → aH → Prop} {σ : aH} {u : Nat}  {x1 : Int} {x2 : Int} {x4 : Int} (hG : G σ u) (rx1 : inR x1) (rx2 : inR x2) (rx4 : inR x4)
    (h : (((rI σ u 4) ≤ x4 → P (.inl none) σ) ∧ (¬ ((rI σ u 4) ≤ x4) → L_X4_placeAnew_31 C sc P u x1 x2 x4 0 σ))) :
    L_X4_placeAnew_19 C sc P u x1 x2 x4 σ := by
  unfold L_X4_placeAnew_19
  refine w_iload dX4_placeAnew_19 (List.Mem.tail _ (List.Mem.tail _ (List.Mem.tail _ (List.Mem.tail _ (List.Mem.head _))))) ?_
  refine w_aload_n dX4_placeAnew_21 rfl (List.Mem.tail _ (List.Mem.tail _ (List.Mem.tail _ (List.Mem.head _)))) ?_
  refine i_getI (ci := 2) 4 rfl dX4_placeAnew_22 fl_4_99 (by decide) (gT hG (IsMk_t0 hG.2.2.2.2) (IsMk_lt hG.2.2.2.2 (k := 0) (by decide))) ?_
  refine i_cmp_ge (tgt := 111) dX4_placeAnew_25 rfl rx4 (rI_R _ _ _) (fun c9 => ?_) (fun c9 => ?_)
  · replace h := h.1 c9
    exact w_vret dX4_placeAnew_111 rfl h
  · replace h := h.2 c9
    refine w_iconst (v := nZ 0) dX4_placeAnew_28 (by decide) ?_
    refine w_istore (l' := [(5, .int (nZ 0)), (0, .ref 26), (1, .int (nZ x1)), (2, .int (nZ x2)), (3, .ref u), (4, .int (nZ x4))]) dX4_placeAnew_29 (by decide) rfl ?_
    exact w_weak (l' := [(0, .ref 26), (1, .int (nZ x1)), (2, .int (nZ x2)), (3, .ref u), (4, .int (nZ x4)), (5, .int (nZ 0))]) (by intro q hq; simp only [List.mem_cons, List.not_mem_nil, or_false] at hq ⊢; rcases hq with rfl | rfl | rfl | rfl | rfl | rfl <;> simp) h
set_option maxRecDepth 10000 in
theorem v_X4_placeAnew_31 {C : aM → List Value → aH → aO → aH → Prop} {sc : Nat × (Nat → Int32)} {P : aO → aH → Prop} {σ : aH} {u : Nat}  {x1 : Int} {x2 : Int} {x4 : Int} {x5 : Int} (hG : G σ u) (rx1 : inR x1) (rx2 : inR x2) (rx4 : inR x4) (rx5 : inR x5)
    (h : (((rI σ u 3) ≤ x5 → (inR (x4 + 1) ∧ L_X4_placeAnew_19 C sc P u x1 x2 (x4 + 1) σ)) ∧ (¬ ((rI σ u 3) ≤ x5) → (((rI σ 26 6) ≤ 0 → (inR (x4 + 1) ∧ L_X4_placeAnew_19 C sc P u x1 x2 (x4 + 1) σ)) ∧ (¬ ((rI σ 26 6) ≤ 0) → (∃ σ3 : aH, C mX4_stalls [.ref 26] σ (.inl (some (.ref (u + 1)))) σ3 ∧ G σ3 u ∧ (∃ (r11 : Int) (σ7 : aH), C mX7_whoIsAt [.ref (u + 1), .int (nZ x5), .int (nZ x4)] σ3 (.inl (some (.int (nZ r11)))) σ7 ∧ G σ7 u ∧ inR r11 ∧ (∃ (r16 : Int) (σ12 : aH), C mX4_isFreeFor [.int (nZ r11), .int (nZ x1), .int (nZ x2)] σ7 (.inl (some (.int (nZ r16)))) σ12 ∧ G σ12 u ∧ inR r16 ∧ ((r16 = 0 → (∃ σ17 : aH, C mX4_putCellsBack [.ref 26] σ12 (.inl none) σ17 ∧ G σ17 u ∧ (inR (x5 + 1) ∧ L_X4_placeAnew_31 C sc P u x1 x2 x4 (x5 + 1) σ17))) ∧ (¬ (r16 = 0) → (∃ σ22 : aH, C mX4_stalls [.ref 26] σ12 (.inl (some (.ref (u + 1)))) σ22 ∧ G σ22 u ∧ (∃ σ26 : aH, C mX7_put [.ref (u + 1), .int (nZ x1), .int (nZ x5), .int (nZ x4)] σ22 (.inl none) σ26 ∧ G σ26 u ∧ (inR (10 * x4) ∧ (inR (x5 + (10 * x4)) ∧ (∃ σ32 : aH, C mX4_placeOther [.ref 26, .int (nZ x2), .int (nZ (x5 + (10 * x4)))] σ26 (.inl none) σ32 ∧ G σ32 u ∧ (∃ σ36 : aH, C mX4_putCellsBack [.ref 26] σ32 (.inl none) σ36 ∧ G σ36 u ∧ (inR (x5 + 1) ∧ L_X4_placeAnew_31 C sc P u x1 x2 x4 (x5 + 1) σ36))))))))))))))))) :
    L_X4_placeAnew_31 C sc P u x1 x2 x4 x5 σ := by
  unfold L_X4_placeAnew_31
  refine w_iload dX4_placeAnew_31 (List.Mem.tail _ (List.Mem.tail _ (List.Mem.tail _ (List.Mem.tail _ (List.Mem.tail _ (List.Mem.head _)))))) ?_
  refine w_aload_n dX4_placeAnew_33 rfl (List.Mem.tail _ (List.Mem.tail _ (List.Mem.tail _ (List.Mem.head _)))) ?_
  refine i_getI (ci := 2) 3 rfl dX4_placeAnew_34 fl_4_102 (by decide) (gT hG (IsMk_t0 hG.2.2.2.2) (IsMk_lt hG.2.2.2.2 (k := 0) (by decide))) ?_
  refine i_cmp_ge (tgt := 105) dX4_placeAnew_37 rfl rx5 (rI_R _ _ _) (fun c9 => ?_) (fun c9 => ?_)
  · replace h := h.1 c9
    obtain ⟨q1, h⟩ := h
    refine w_iinc (v := nZ (x4 + 1)) (l' := [(4, .int (nZ (x4 + 1))), (0, .ref 26), (1, .int (nZ x1)), (2, .int (nZ x2)), (3, .ref u), (5, .int (nZ x5))]) dX4_placeAnew_105 (List.Mem.tail _ (List.Mem.tail _ (List.Mem.tail _ (List.Mem.tail _ (List.Mem.head _))))) (nZ_add _ _) (by decide) rfl ?_
    refine w_goto (tgt := 19) dX4_placeAnew_108 rfl ?_
    exact w_weak (l' := [(0, .ref 26), (1, .int (nZ x1)), (2, .int (nZ x2)), (3, .ref u), (4, .int (nZ (x4 + 1)))]) (by intro q hq; simp only [List.mem_cons, List.not_mem_nil, or_false] at hq ⊢; rcases hq with rfl | rfl | rfl | rfl | rfl <;> simp) h
  · replace h := h.2 c9
    refine w_aload_n dX4_placeAnew_40 rfl (List.Mem.head _) ?_
    refine i_getI (ci := 4) 6 rfl dX4_placeAnew_41 fl_4_35 (by decide) (gT hG rfl (lt_of rfl)) ?_
    refine i_if_le (tgt := 105) dX4_placeAnew_44 rfl (rI_R _ _ _) (fun c9 => ?_) (fun c9 => ?_)
    · replace h := h.1 c9
      obtain ⟨q2, h⟩ := h
      refine w_iinc (v := nZ (x4 + 1)) (l' := [(4, .int (nZ (x4 + 1))), (0, .ref 26), (1, .int (nZ x1)), (2, .int (nZ x2)), (3, .ref u), (5, .int (nZ x5))]) dX4_placeAnew_105 (List.Mem.tail _ (List.Mem.tail _ (List.Mem.tail _ (List.Mem.tail _ (List.Mem.head _))))) (nZ_add _ _) (by decide) rfl ?_
      refine w_goto (tgt := 19) dX4_placeAnew_108 rfl ?_
      exact w_weak (l' := [(0, .ref 26), (1, .int (nZ x1)), (2, .int (nZ x2)), (3, .ref u), (4, .int (nZ (x4 + 1)))]) (by intro q hq; simp only [List.mem_cons, List.not_mem_nil, or_false] at hq ⊢; rcases hq with rfl | rfl | rfl | rfl | rfl <;> simp) h
    · replace h := h.2 c9
      refine w_aload_n dX4_placeAnew_47 rfl (List.Mem.head _) ?_
      obtain ⟨σ3, hc5, hG4, h⟩ := h
      refine w_callV dX4_placeAnew_48 ml_4_67 ⟨ok_X4_stalls, vi_X4_stalls⟩ hs_X4_stalls (As := []) rfl rfl (gT hG rfl (lt_of rfl)) (Nat.le_of_ble_eq_true rfl) hc5 ?_
      show wp C 4 cX4_placeAnew 7 none false [] sc P 51 [(0, .ref 26), (1, .int (nZ x1)), (2, .int (nZ x2)), (3, .ref u), (4, .int (nZ x4)), (5, .int (nZ x5))] [.ref (u + 1)] σ3
      refine w_iload dX4_placeAnew_51 (List.Mem.tail _ (List.Mem.tail _ (List.Mem.tail _ (List.Mem.tail _ (List.Mem.tail _ (List.Mem.head _)))))) ?_
      refine w_iload dX4_placeAnew_53 (List.Mem.tail _ (List.Mem.tail _ (List.Mem.tail _ (List.Mem.tail _ (List.Mem.head _))))) ?_
      obtain ⟨r11, σ7, hc9, hG8, rr10, h⟩ := h
      refine w_callV dX4_placeAnew_55 ml_4_105 ⟨ok_X7_whoIsAt, vi_X7_whoIsAt⟩ hs_X7_whoIsAt (As := [.int (nZ x5), .int (nZ x4)]) rfl rfl (gT hG4 (IsMk_t1 hG.2.2.2.2) (IsMk_lt hG.2.2.2.2 (k := 1) (by decide))) (Nat.le_of_ble_eq_true rfl) hc9 ?_
      show wp C 4 cX4_placeAnew 7 none false [] sc P 58 [(0, .ref 26), (1, .int (nZ x1)), (2, .int (nZ x2)), (3, .ref u), (4, .int (nZ x4)), (5, .int (nZ x5))] [.int (nZ r11)] σ7
      refine w_istore (l' := [(6, .int (nZ r11)), (0, .ref 26), (1, .int (nZ x1)), (2, .int (nZ x2)), (3, .ref u), (4, .int (nZ x4)), (5, .int (nZ x5))]) dX4_placeAnew_58 (by decide) rfl ?_
      refine w_iload dX4_placeAnew_60 (List.Mem.head _) ?_
      refine w_iload_n dX4_placeAnew_62 rfl (List.Mem.tail _ (List.Mem.tail _ (List.Mem.head _))) ?_
      refine w_iload_n dX4_placeAnew_63 rfl (List.Mem.tail _ (List.Mem.tail _ (List.Mem.tail _ (List.Mem.head _)))) ?_
      obtain ⟨r16, σ12, hc14, hG13, rr15, h⟩ := h
      refine w_callS dX4_placeAnew_64 ml_4_109 ⟨ok_X4_isFreeFor, st_X4_isFreeFor⟩ hs_X4_isFreeFor (As := [.int (nZ r11), .int (nZ x1), .int (nZ x2)]) rfl rfl (Nat.le_of_ble_eq_true rfl) hc14 ?_
      show wp C 4 cX4_placeAnew 7 none false [] sc P 67 [(6, .int (nZ r11)), (0, .ref 26), (1, .int (nZ x1)), (2, .int (nZ x2)), (3, .ref u), (4, .int (nZ x4)), (5, .int (nZ x5))] [.int (nZ r16)] σ12
      refine i_if_eq (tgt := 95) dX4_placeAnew_67 rfl rr15 (fun c9 => ?_) (fun c9 => ?_)
      · replace h := h.1 c9
        refine w_aload_n dX4_placeAnew_95 rfl (List.Mem.tail _ (List.Mem.head _)) ?_
        obtain ⟨σ17, hc19, hG18, h⟩ := h
        refine w_callV dX4_placeAnew_96 ml_4_121 ⟨ok_X4_putCellsBack, vi_X4_putCellsBack⟩ hs_X4_putCellsBack (As := []) rfl rfl (gT hG13 rfl (lt_of rfl)) (Nat.le_of_ble_eq_true rfl) hc19 ?_
        show wp C 4 cX4_placeAnew 7 none false [] sc P 99 [(6, .int (nZ r11)), (0, .ref 26), (1, .int (nZ x1)), (2, .int (nZ x2)), (3, .ref u), (4, .int (nZ x4)), (5, .int (nZ x5))] [] σ17
        obtain ⟨q21, h⟩ := h
        refine w_iinc (v := nZ (x5 + 1)) (l' := [(5, .int (nZ (x5 + 1))), (6, .int (nZ r11)), (0, .ref 26), (1, .int (nZ x1)), (2, .int (nZ x2)), (3, .ref u), (4, .int (nZ x4))]) dX4_placeAnew_99 (List.Mem.tail _ (List.Mem.tail _ (List.Mem.tail _ (List.Mem.tail _ (List.Mem.tail _ (List.Mem.tail _ (List.Mem.head _))))))) (nZ_add _ _) (by decide) rfl ?_
        refine w_goto (tgt := 31) dX4_placeAnew_102 rfl ?_
        exact w_weak (l' := [(0, .ref 26), (1, .int (nZ x1)), (2, .int (nZ x2)), (3, .ref u), (4, .int (nZ x4)), (5, .int (nZ (x5 + 1)))]) (by intro q hq; simp only [List.mem_cons, List.not_mem_nil, or_false] at hq ⊢; rcases hq with rfl | rfl | rfl | rfl | rfl | rfl <;> simp) h
      · replace h := h.2 c9
        refine w_aload_n dX4_placeAnew_70 rfl (List.Mem.tail _ (List.Mem.head _)) ?_
        obtain ⟨σ22, hc24, hG23, h⟩ := h
        refine w_callV dX4_placeAnew_71 ml_4_67 ⟨ok_X4_stalls, vi_X4_stalls⟩ hs_X4_stalls (As := []) rfl rfl (gT hG13 rfl (lt_of rfl)) (Nat.le_of_ble_eq_true rfl) hc24 ?_
        show wp C 4 cX4_placeAnew 7 none false [] sc P 74 [(6, .int (nZ r11)), (0, .ref 26), (1, .int (nZ x1)), (2, .int (nZ x2)), (3, .ref u), (4, .int (nZ x4)), (5, .int (nZ x5))] [.ref (u + 1)] σ22
        refine w_iload_n dX4_placeAnew_74 rfl (List.Mem.tail _ (List.Mem.tail _ (List.Mem.head _))) ?_
        refine w_iload dX4_placeAnew_75 (List.Mem.tail _ (List.Mem.tail _ (List.Mem.tail _ (List.Mem.tail _ (List.Mem.tail _ (List.Mem.tail _ (List.Mem.head _))))))) ?_
        refine w_iload dX4_placeAnew_77 (List.Mem.tail _ (List.Mem.tail _ (List.Mem.tail _ (List.Mem.tail _ (List.Mem.tail _ (List.Mem.head _)))))) ?_
        obtain ⟨σ26, hc28, hG27, h⟩ := h
        refine w_callV dX4_placeAnew_79 ml_4_113 ⟨ok_X7_put, vi_X7_put⟩ hs_X7_put (As := [.int (nZ x1), .int (nZ x5), .int (nZ x4)]) rfl rfl (gT hG23 (IsMk_t1 hG.2.2.2.2) (IsMk_lt hG.2.2.2.2 (k := 1) (by decide))) (Nat.le_of_ble_eq_true rfl) hc28 ?_
        show wp C 4 cX4_placeAnew 7 none false [] sc P 82 [(6, .int (nZ r11)), (0, .ref 26), (1, .int (nZ x1)), (2, .int (nZ x2)), (3, .ref u), (4, .int (nZ x4)), (5, .int (nZ x5))] [] σ26
        refine w_aload_n dX4_placeAnew_82 rfl (List.Mem.tail _ (List.Mem.head _)) ?_
        refine w_iload_n dX4_placeAnew_83 rfl (List.Mem.tail _ (List.Mem.tail _ (List.Mem.tail _ (List.Mem.head _)))) ?_
        refine w_iload dX4_placeAnew_84 (List.Mem.tail _ (List.Mem.tail _ (List.Mem.tail _ (List.Mem.tail _ (List.Mem.tail _ (List.Mem.tail _ (List.Mem.head _))))))) ?_
        refine w_bipush (v := nZ 10) dX4_placeAnew_86 (by decide) ?_
        refine w_iload dX4_placeAnew_88 (List.Mem.tail _ (List.Mem.tail _ (List.Mem.tail _ (List.Mem.tail _ (List.Mem.tail _ (List.Mem.head _)))))) ?_
        obtain ⟨q30, h⟩ := h
        refine i_mul dX4_placeAnew_90 ?_
        obtain ⟨q31, h⟩ := h
        refine i_add dX4_placeAnew_91 ?_
        obtain ⟨σ32, hc34, hG33, h⟩ := h
        refine w_callV dX4_placeAnew_92 ml_4_117 ⟨ok_X4_placeOther, vi_X4_placeOther⟩ hs_X4_placeOther (As := [.int (nZ x2), .int (nZ (x5 + (10 * x4)))]) rfl rfl (gT hG27 rfl (lt_of rfl)) (Nat.le_of_ble_eq_true rfl) hc34 ?_
        show wp C 4 cX4_placeAnew 7 none false [] sc P 95 [(6, .int (nZ r11)), (0, .ref 26), (1, .int (nZ x1)), (2, .int (nZ x2)), (3, .ref u), (4, .int (nZ x4)), (5, .int (nZ x5))] [] σ32
        refine w_aload_n dX4_placeAnew_95 rfl (List.Mem.tail _ (List.Mem.head _)) ?_
        obtain ⟨σ36, hc38, hG37, h⟩ := h
        refine w_callV dX4_placeAnew_96 ml_4_121 ⟨ok_X4_putCellsBack, vi_X4_putCellsBack⟩ hs_X4_putCellsBack (As := []) rfl rfl (gT hG33 rfl (lt_of rfl)) (Nat.le_of_ble_eq_true rfl) hc38 ?_
        show wp C 4 cX4_placeAnew 7 none false [] sc P 99 [(6, .int (nZ r11)), (0, .ref 26), (1, .int (nZ x1)), (2, .int (nZ x2)), (3, .ref u), (4, .int (nZ x4)), (5, .int (nZ x5))] [] σ36
        obtain ⟨q40, h⟩ := h
        refine w_iinc (v := nZ (x5 + 1)) (l' := [(5, .int (nZ (x5 + 1))), (6, .int (nZ r11)), (0, .ref 26), (1, .int (nZ x1)), (2, .int (nZ x2)), (3, .ref u), (4, .int (nZ x4))]) dX4_placeAnew_99 (List.Mem.tail _ (List.Mem.tail _ (List.Mem.tail _ (List.Mem.tail _ (List.Mem.tail _ (List.Mem.tail _ (List.Mem.head _))))))) (nZ_add _ _) (by decide) rfl ?_
        refine w_goto (tgt := 31) dX4_placeAnew_102 rfl ?_
        exact w_weak (l' := [(0, .ref 26), (1, .int (nZ x1)), (2, .int (nZ x2)), (3, .ref u), (4, .int (nZ x4)), (5, .int (nZ (x5 + 1)))]) (by intro q hq; simp only [List.mem_cons, List.not_mem_nil, or_false] at hq ⊢; rcases hq with rfl | rfl | rfl | rfl | rfl | rfl <;> simp) h
theorem dX4_isFreeFor_0 : decode cX4_isFreeFor 0 = .ok (.iload_n 0, 1) := by decide +kernel
theorem dX4_isFreeFor_1 : decode cX4_isFreeFor 1 = .ok (.iconst (-1), 1) := by decide +kernel
theorem dX4_isFreeFor_2 : decode cX4_isFreeFor 2 = .ok (.if_icmp .eq 13, 3) := by decide +kernel
theorem dX4_isFreeFor_5 : decode cX4_isFreeFor 5 = .ok (.iload_n 0, 1) := by decide +kernel
theorem dX4_isFreeFor_6 : decode cX4_isFreeFor 6 = .ok (.iload_n 1, 1) := by decide +kernel
theorem dX4_isFreeFor_7 : decode cX4_isFreeFor 7 = .ok (.if_icmp .eq 8, 3) := by decide +kernel
theorem dX4_isFreeFor_10 : decode cX4_isFreeFor 10 = .ok (.iload_n 0, 1) := by decide +kernel
theorem dX4_isFreeFor_11 : decode cX4_isFreeFor 11 = .ok (.iload_n 2, 1) := by decide +kernel
theorem dX4_isFreeFor_12 : decode cX4_isFreeFor 12 = .ok (.if_icmp .ne 7, 3) := by decide +kernel
theorem dX4_isFreeFor_15 : decode cX4_isFreeFor 15 = .ok (.iconst 1, 1) := by decide +kernel
theorem dX4_isFreeFor_16 : decode cX4_isFreeFor 16 = .ok (.goto 4, 3) := by decide +kernel
theorem dX4_isFreeFor_19 : decode cX4_isFreeFor 19 = .ok (.iconst 0, 1) := by decide +kernel
theorem dX4_isFreeFor_20 : decode cX4_isFreeFor 20 = .ok (.ireturn, 1) := by decide +kernel
set_option maxRecDepth 10000 in
theorem t_X4_isFreeFor {sc : Nat × (Nat → Int32)} {d : Nat} {Q : aO → aH → Prop} {σ : aH} {u : Nat}  {x0 : Int} {x1 : Int} {x2 : Int} (hG : G σ u) (rx0 : inR x0) (rx1 : inR x1) (rx2 : inR x2)
    (h : ((x0 = (-1) → Q (.inl (some (.int (nZ 1)))) σ) ∧ (¬ (x0 = (-1)) → ((x0 = x1 → Q (.inl (some (.int (nZ 1)))) σ) ∧ (¬ (x0 = x1) → ((¬ x0 = x2 → Q (.inl (some (.int (nZ 0)))) σ) ∧ (x0 = x2 → Q (.inl (some (.int (nZ 1)))) σ))))))) :
    T sc (d + 1) mX4_isFreeFor [.int (nZ x0), .int (nZ x1), .int (nZ x2)] σ Q := by
  refine T.of (c := 4) (code := cX4_isFreeFor) (mL := 3) (rt := (some .boolean)) (ini := false) (l := [(0, .int (nZ x0)), (1, .int (nZ x1)), (2, .int (nZ x2))]) rfl rfl rfl rfl (by decide) hs_X4_isFreeFor rfl rfl ?_
  refine w_iload_n dX4_isFreeFor_0 rfl (List.Mem.head _) ?_
  refine w_iconst (v := nZ (-1)) dX4_isFreeFor_1 (by decide) ?_
  refine i_cmp_eq (tgt := 15) dX4_isFreeFor_2 rfl rx0 (by decide) (fun c9 => ?_) (fun c9 => ?_)
  · replace h := h.1 c9
    refine w_iconst (v := nZ 1) dX4_isFreeFor_15 (by decide) ?_
    refine w_goto (tgt := 20) dX4_isFreeFor_16 rfl ?_
    exact i_zret dX4_isFreeFor_20 rfl (by decide) h
  · replace h := h.2 c9
    refine w_iload_n dX4_isFreeFor_5 rfl (List.Mem.head _) ?_
    refine w_iload_n dX4_isFreeFor_6 rfl (List.Mem.tail _ (List.Mem.head _)) ?_
    refine i_cmp_eq (tgt := 15) dX4_isFreeFor_7 rfl rx0 rx1 (fun c9 => ?_) (fun c9 => ?_)
    · replace h := h.1 c9
      refine w_iconst (v := nZ 1) dX4_isFreeFor_15 (by decide) ?_
      refine w_goto (tgt := 20) dX4_isFreeFor_16 rfl ?_
      exact i_zret dX4_isFreeFor_20 rfl (by decide) h
    · replace h := h.2 c9
      refine w_iload_n dX4_isFreeFor_10 rfl (List.Mem.head _) ?_
      refine w_iload_n dX4_isFreeFor_11 rfl (List.Mem.tail _ (List.Mem.tail _ (List.Mem.head _))) ?_
      refine i_cmp_ne (tgt := 19) dX4_isFreeFor_12 rfl rx0 rx2 (fun c9 => ?_) (fun c9 => ?_)
      · replace h := h.1 c9
        refine w_iconst (v := nZ 0) dX4_isFreeFor_19 (by decide) ?_
        exact i_zret dX4_isFreeFor_20 rfl (by decide) h
      · replace h := h.2 c9
        refine w_iconst (v := nZ 1) dX4_isFreeFor_15 (by decide) ?_
        refine w_goto (tgt := 20) dX4_isFreeFor_16 rfl ?_
        exact i_zret dX4_isFreeFor_20 rfl (by decide) h
theorem dX4_placeOther_0 : decode cX4_placeOther 0 = .ok (.iload_n 1, 1) := by decide +kernel
theorem dX4_placeOther_1 : decode cX4_placeOther 1 = .ok (.iconst (-1), 1) := by decide +kernel
theorem dX4_placeOther_2 : decode cX4_placeOther 2 = .ok (.if_icmp .ne 9, 3) := by decide +kernel
theorem dX4_placeOther_5 : decode cX4_placeOther 5 = .ok (.aload_n 0, 1) := by decide +kernel
theorem dX4_placeOther_6 : decode cX4_placeOther 6 = .ok (.iload_n 2, 1) := by decide +kernel
theorem dX4_placeOther_7 : decode cX4_placeOther 7 = .ok (.invokevirtual 124, 3) := by decide +kernel
theorem dX4_placeOther_10 : decode cX4_placeOther 10 = .ok (.return_, 1) := by decide +kernel
theorem dX4_placeOther_11 : decode cX4_placeOther 11 = .ok (.aload_n 0, 1) := by decide +kernel
theorem dX4_placeOther_12 : decode cX4_placeOther 12 = .ok (.getfield 12, 3) := by decide +kernel
theorem dX4_placeOther_15 : decode cX4_placeOther 15 = .ok (.getfield 57, 3) := by decide +kernel
theorem dX4_placeOther_18 : decode cX4_placeOther 18 = .ok (.astore_n 3, 1) := by decide +kernel
theorem dX4_placeOther_19 : decode cX4_placeOther 19 = .ok (.iconst 0, 1) := by decide +kernel
theorem dX4_placeOther_20 : decode cX4_placeOther 20 = .ok (.istore 4, 2) := by decide +kernel
theorem dX4_placeOther_22 : decode cX4_placeOther 22 = .ok (.iload 4, 2) := by decide +kernel
theorem dX4_placeOther_24 : decode cX4_placeOther 24 = .ok (.aload_n 3, 1) := by decide +kernel
theorem dX4_placeOther_25 : decode cX4_placeOther 25 = .ok (.getfield 99, 3) := by decide +kernel
theorem dX4_placeOther_28 : decode cX4_placeOther 28 = .ok (.if_icmp .ge 75, 3) := by decide +kernel
theorem dX4_placeOther_31 : decode cX4_placeOther 31 = .ok (.iconst 0, 1) := by decide +kernel
theorem dX4_placeOther_32 : decode cX4_placeOther 32 = .ok (.istore 5, 2) := by decide +kernel
theorem dX4_placeOther_34 : decode cX4_placeOther 34 = .ok (.iload 5, 2) := by decide +kernel
theorem dX4_placeOther_36 : decode cX4_placeOther 36 = .ok (.aload_n 3, 1) := by decide +kernel
theorem dX4_placeOther_37 : decode cX4_placeOther 37 = .ok (.getfield 102, 3) := by decide +kernel
theorem dX4_placeOther_40 : decode cX4_placeOther 40 = .ok (.if_icmp .ge 57, 3) := by decide +kernel
theorem dX4_placeOther_43 : decode cX4_placeOther 43 = .ok (.aload_n 0, 1) := by decide +kernel
theorem dX4_placeOther_44 : decode cX4_placeOther 44 = .ok (.getfield 35, 3) := by decide +kernel
theorem dX4_placeOther_47 : decode cX4_placeOther 47 = .ok (.ifCond .le 50, 3) := by decide +kernel
theorem dX4_placeOther_50 : decode cX4_placeOther 50 = .ok (.aload_n 0, 1) := by decide +kernel
theorem dX4_placeOther_51 : decode cX4_placeOther 51 = .ok (.iload_n 1, 1) := by decide +kernel
theorem dX4_placeOther_52 : decode cX4_placeOther 52 = .ok (.iload 5, 2) := by decide +kernel
theorem dX4_placeOther_54 : decode cX4_placeOther 54 = .ok (.iload 4, 2) := by decide +kernel
theorem dX4_placeOther_56 : decode cX4_placeOther 56 = .ok (.invokevirtual 128, 3) := by decide +kernel
theorem dX4_placeOther_59 : decode cX4_placeOther 59 = .ok (.ifCond .eq 32, 3) := by decide +kernel
theorem dX4_placeOther_62 : decode cX4_placeOther 62 = .ok (.aload_n 0, 1) := by decide +kernel
theorem dX4_placeOther_63 : decode cX4_placeOther 63 = .ok (.invokevirtual 67, 3) := by decide +kernel
theorem dX4_placeOther_66 : decode cX4_placeOther 66 = .ok (.iload_n 1, 1) := by decide +kernel
theorem dX4_placeOther_67 : decode cX4_placeOther 67 = .ok (.iload 5, 2) := by decide +kernel
theorem dX4_placeOther_69 : decode cX4_placeOther 69 = .ok (.iload 4, 2) := by decide +kernel
theorem dX4_placeOther_71 : decode cX4_placeOther 71 = .ok (.invokevirtual 113, 3) := by decide +kernel
theorem dX4_placeOther_74 : decode cX4_placeOther 74 = .ok (.aload_n 0, 1) := by decide +kernel
theorem dX4_placeOther_75 : decode cX4_placeOther 75 = .ok (.bipush 100, 2) := by decide +kernel
theorem dX4_placeOther_77 : decode cX4_placeOther 77 = .ok (.iload_n 2, 1) := by decide +kernel
theorem dX4_placeOther_78 : decode cX4_placeOther 78 = .ok (.imul, 1) := by decide +kernel
theorem dX4_placeOther_79 : decode cX4_placeOther 79 = .ok (.iload 5, 2) := by decide +kernel
theorem dX4_placeOther_81 : decode cX4_placeOther 81 = .ok (.iadd, 1) := by decide +kernel
theorem dX4_placeOther_82 : decode cX4_placeOther 82 = .ok (.bipush 10, 2) := by decide +kernel
theorem dX4_placeOther_84 : decode cX4_placeOther 84 = .ok (.iload 4, 2) := by decide +kernel
theorem dX4_placeOther_86 : decode cX4_placeOther 86 = .ok (.imul, 1) := by decide +kernel
theorem dX4_placeOther_87 : decode cX4_placeOther 87 = .ok (.iadd, 1) := by decide +kernel
theorem dX4_placeOther_88 : decode cX4_placeOther 88 = .ok (.invokevirtual 124, 3) := by decide +kernel
theorem dX4_placeOther_91 : decode cX4_placeOther 91 = .ok (.iinc 5 1, 3) := by decide +kernel
theorem dX4_placeOther_94 : decode cX4_placeOther 94 = .ok (.goto (-60), 3) := by decide +kernel
theorem dX4_placeOther_97 : decode cX4_placeOther 97 = .ok (.iinc 4 1, 3) := by decide +kernel
theorem dX4_placeOther_100 : decode cX4_placeOther 100 = .ok (.goto (-78), 3) := by decide +kernel
theorem dX4_placeOther_103 : decode cX4_placeOther 103 = .ok (.return_, 1) := by decide +kernel
def L_X4_placeOther_22 (C : aM → List Value → aH → aO → aH → Prop) (sc : Nat × (Nat → Int32)) (P : aO → aH → Prop) (u : Nat) (x1 : Int) (x2 : Int) (x4 : Int) (σ : aH) : Prop :=
    wp C 4 cX4_placeOther 6 none false [] sc P 22 [(0, .ref 26), (1, .int (nZ x1)), (2, .int (nZ x2)), (3, .ref u), (4, .int (nZ x4))] [] σ
def L_X4_placeOther_34 (C : aM → List Value → aH → aO → aH → Prop) (sc : Nat × (Nat → Int32)) (P : aO → aH → Prop) (u : Nat) (x1 : Int) (x2 : Int) (x4 : Int) (x5 : Int) (σ : aH) : Prop :=
    wp C 4 cX4_placeOther 6 none false [] sc P 34 [(0, .ref 26), (1, .int (nZ x1)), (2, .int (nZ x2)), (3, .ref u), (4, .int (nZ x4)), (5, .int (nZ x5))] [] σ
set_option maxRecDepth 10000 in
theorem t_X4_placeOther {sc : Nat × (Nat → Int32)} {d : Nat} {Q : aO → aH → Prop} {σ : aH} {u : Nat}  {x1 : Int} {x2 : Int} (hG : G σ u) (rx1 : inR x1) (rx2 : inR x2)
    (h : ((¬ x1 = (-1) → L_X4_placeOther_22 (Ev sc d) sc Q u x1 x2 0 σ) ∧ (x1 = (-1) → (∃ σ1 : aH, Ev sc d mX4_weighWay [.ref 26, .int (nZ x2)] σ (.inl none) σ1 ∧ G σ1 u ∧ Q (.inl none) σ1)))) :
    T sc (d + 1) mX4_placeOther [.ref 26, .int (nZ x1), .int (nZ x2)] σ Q := by
  refine T.of (c := 4) (code := cX4_placeOther) (mL := 6) (rt := none) (ini := false) (l := [(0, .ref 26), (1, .int (nZ x1)), (2, .int (nZ x2))]) rfl rfl rfl rfl (by decide) hs_X4_placeOther rfl rfl ?_
  refine w_iload_n dX4_placeOther_0 rfl (List.Mem.tail _ (List.Mem.head _)) ?_
  refine w_iconst (v := nZ (-1)) dX4_placeOther_1 (by decide) ?_
  refine i_cmp_ne (tgt := 11) dX4_placeOther_2 rfl rx1 (by decide) (fun c9 => ?_) (fun c9 => ?_)
  · replace h := h.1 c9
    refine w_aload_n dX4_placeOther_11 rfl (List.Mem.head _) ?_
    refine w_getR (ci := 4) (k := 0) (b := 27) dX4_placeOther_12 fl_4_12 (by decide) (gT hG rfl (lt_of rfl)) (gR hG (b := 27) rfl) ?_
    refine w_getM (ci := 6) (k := 5) (b := u) dX4_placeOther_15 fl_4_57 (by decide) (gT hG rfl (lt_of rfl)) hG.2.2.2.1 ?_
    refine w_astore_n (l' := [(3, .ref u), (0, .ref 26), (1, .int (nZ x1)), (2, .int (nZ x2))]) dX4_placeOther_18 rfl (by decide) rfl ?_
    refine w_iconst (v := nZ 0) dX4_placeOther_19 (by decide) ?_
    refine w_istore (l' := [(4, .int (nZ 0)), (3, .ref u), (0, .ref 26), (1, .int (nZ x1)), (2, .int (nZ x2))]) dX4_placeOther_20 (by decide) rfl ?_
    exact w_weak (l' := [(0, .ref 26), (1, .int (nZ x1)), (2, .int (nZ x2)), (3, .ref u), (4, .int (nZ 0))]) (by intro q hq; simp only [List.mem_cons, List.not_mem_nil, or_false] at hq ⊢; rcases hq with rfl | rfl | rfl | rfl | rfl <;> simp) h
  · replace h := h.2 c9
    refine w_aload_n dX4_placeOther_5 rfl (List.Mem.head _) ?_
    refine w_iload_n dX4_placeOther_6 rfl (List.Mem.tail _ (List.Mem.tail _ (List.Mem.head _))) ?_
    obtain ⟨σ1, hc3, hG2, h⟩ := h
    refine w_callV dX4_placeOther_7 ml_4_124 ⟨ok_X4_weighWay, vi_X4_weighWay⟩ hs_X4_weighWay (As := [.int (nZ x2)]) rfl rfl (gT hG rfl (lt_of rfl)) (Nat.le_of_ble_eq_true rfl) hc3 ?_
    show wp (Ev sc d) 4 cX4_placeOther 6 none false [] sc Q 10 [(0, .ref 26), (1, .int (nZ x1)), (2, .int (nZ x2))] [] σ1
    exact w_vret dX4_placeOther_10 rfl h
set_option maxRecDepth 10000 in
theorem v_X4_placeOther_22 {C : aM → List Value → aH → aO → aH → Prop} {sc : Nat × (Nat → Int32)} {P : aO → aH → Prop} {σ : aH} {u : Nat}  {x1 : Int} {x2 : Int} {x4 : Int} (hG : G σ u) (rx1 : inR x1) (rx2 : inR x2) (rx4 : inR x4)
    (h : (((rI σ u 4) ≤ x4 → P (.inl none) σ) ∧ (¬ ((rI σ u 4) ≤ x4) → L_X4_placeOther_34 C sc P u x1 x2 x4 0 σ))) :
    L_X4_placeOther_22 C sc P u x1 x2 x4 σ := by
  unfold L_X4_placeOther_22
  refine w_iload dX4_placeOther_22 (List.Mem.tail _ (List.Mem.tail _ (List.Mem.tail _ (List.Mem.tail _ (List.Mem.head _))))) ?_
  refine w_aload_n dX4_placeOther_24 rfl (List.Mem.tail _ (List.Mem.tail _ (List.Mem.tail _ (List.Mem.head _)))) ?_
  refine i_getI (ci := 2) 4 rfl dX4_placeOther_25 fl_4_99 (by decide) (gT hG (IsMk_t0 hG.2.2.2.2) (IsMk_lt hG.2.2.2.2 (k := 0) (by decide))) ?_
  refine i_cmp_ge (tgt := 103) dX4_placeOther_28 rfl rx4 (rI_R _ _ _) (fun c9 => ?_) (fun c9 => ?_)
  · replace h := h.1 c9
    exact w_vret dX4_placeOther_103 rfl h
  · replace h := h.2 c9
    refine w_iconst (v := nZ 0) dX4_placeOther_31 (by decide) ?_
    refine w_istore (l' := [(5, .int (nZ 0)), (0, .ref 26), (1, .int (nZ x1)), (2, .int (nZ x2)), (3, .ref u), (4, .int (nZ x4))]) dX4_placeOther_32 (by decide) rfl ?_
    exact w_weak (l' := [(0, .ref 26), (1, .int (nZ x1)), (2, .int (nZ x2)), (3, .ref u), (4, .int (nZ x4)), (5, .int (nZ 0))]) (by intro q hq; simp only [List.mem_cons, List.not_mem_nil, or_false] at hq ⊢; rcases hq with rfl | rfl | rfl | rfl | rfl | rfl <;> simp) h
set_option maxRecDepth 10000 in
theorem v_X4_placeOther_34 {C : aM → List Value → aH → aO → aH → Prop} {sc : Nat × (Nat → Int32)} {P : aO → aH → Prop} {σ : aH} {u : Nat}  {x1 : Int} {x2 : Int} {x4 : Int} {x5 : Int} (hG : G σ u) (rx1 : inR x1) (rx2 : inR x2) (rx4 : inR x4) (rx5 : inR x5)
    (h : (((rI σ u 3) ≤ x5 → (inR (x4 + 1) ∧ L_X4_placeOther_22 C sc P u x1 x2 (x4 + 1) σ)) ∧ (¬ ((rI σ u 3) ≤ x5) → (((rI σ 26 6) ≤ 0 → (inR (x4 + 1) ∧ L_X4_placeOther_22 C sc P u x1 x2 (x4 + 1) σ)) ∧ (¬ ((rI σ 26 6) ≤ 0) → (∃ (r7 : Int) (σ3 : aH), C mX4_isFreeBut [.ref 26, .int (nZ x1), .int (nZ x5), .int (nZ x4)] σ (.inl (some (.int (nZ r7)))) σ3 ∧ G σ3 u ∧ inR r7 ∧ ((r7 = 0 → (inR (x5 + 1) ∧ L_X4_placeOther_34 C sc P u x1 x2 x4 (x5 + 1) σ3)) ∧ (¬ (r7 = 0) → (∃ σ9 : aH, C mX4_stalls [.ref 26] σ3 (.inl (some (.ref (u + 1)))) σ9 ∧ G σ9 u ∧ (∃ σ13 : aH, C mX7_put [.ref (u + 1), .int (nZ x1), .int (nZ x5), .int (nZ x4)] σ9 (.inl none) σ13 ∧ G σ13 u ∧ (inR (100 * x2) ∧ (inR ((100 * x2) + x5) ∧ (inR (10 * x4) ∧ (inR (((100 * x2) + x5) + (10 * x4)) ∧ (∃ σ21 : aH, C mX4_weighWay [.ref 26, .int (nZ (((100 * x2) + x5) + (10 * x4)))] σ13 (.inl none) σ21 ∧ G σ21 u ∧ (inR (x5 + 1) ∧ L_X4_placeOther_34 C sc P u x1 x2 x4 (x5 + 1) σ21)))))))))))))))) :
    L_X4_placeOther_34 C sc P u x1 x2 x4 x5 σ := by
  unfold L_X4_placeOther_34
  refine w_iload dX4_placeOther_34 (List.Mem.tail _ (List.Mem.tail _ (List.Mem.tail _ (List.Mem.tail _ (List.Mem.tail _ (List.Mem.head _)))))) ?_
  refine w_aload_n dX4_placeOther_36 rfl (List.Mem.tail _ (List.Mem.tail _ (List.Mem.tail _ (List.Mem.head _)))) ?_
  refine i_getI (ci := 2) 3 rfl dX4_placeOther_37 fl_4_102 (by decide) (gT hG (IsMk_t0 hG.2.2.2.2) (IsMk_lt hG.2.2.2.2 (k := 0) (by decide))) ?_
  refine i_cmp_ge (tgt := 97) dX4_placeOther_40 rfl rx5 (rI_R _ _ _) (fun c9 => ?_) (fun c9 => ?_)
  · replace h := h.1 c9
    obtain ⟨q1, h⟩ := h
    refine w_iinc (v := nZ (x4 + 1)) (l' := [(4, .int (nZ (x4 + 1))), (0, .ref 26), (1, .int (nZ x1)), (2, .int (nZ x2)), (3, .ref u), (5, .int (nZ x5))]) dX4_placeOther_97 (List.Mem.tail _ (List.Mem.tail _ (List.Mem.tail _ (List.Mem.tail _ (List.Mem.head _))))) (nZ_add _ _) (by decide) rfl ?_
    refine w_goto (tgt := 22) dX4_placeOther_100 rfl ?_
    exact w_weak (l' := [(0, .ref 26), (1, .int (nZ x1)), (2, .int (nZ x2)), (3, .ref u), (4, .int (nZ (x4 + 1)))]) (by intro q hq; simp only [List.mem_cons, List.not_mem_nil, or_false] at hq ⊢; rcases hq with rfl | rfl | rfl | rfl | rfl <;> simp) h
  · replace h := h.2 c9
    refine w_aload_n dX4_placeOther_43 rfl (List.Mem.head _) ?_
    refine i_getI (ci := 4) 6 rfl dX4_placeOther_44 fl_4_35 (by decide) (gT hG rfl (lt_of rfl)) ?_
    refine i_if_le (tgt := 97) dX4_placeOther_47 rfl (rI_R _ _ _) (fun c9 => ?_) (fun c9 => ?_)
    · replace h := h.1 c9
      obtain ⟨q2, h⟩ := h
      refine w_iinc (v := nZ (x4 + 1)) (l' := [(4, .int (nZ (x4 + 1))), (0, .ref 26), (1, .int (nZ x1)), (2, .int (nZ x2)), (3, .ref u), (5, .int (nZ x5))]) dX4_placeOther_97 (List.Mem.tail _ (List.Mem.tail _ (List.Mem.tail _ (List.Mem.tail _ (List.Mem.head _))))) (nZ_add _ _) (by decide) rfl ?_
      refine w_goto (tgt := 22) dX4_placeOther_100 rfl ?_
      exact w_weak (l' := [(0, .ref 26), (1, .int (nZ x1)), (2, .int (nZ x2)), (3, .ref u), (4, .int (nZ (x4 + 1)))]) (by intro q hq; simp only [List.mem_cons, List.not_mem_nil, or_false] at hq ⊢; rcases hq with rfl | rfl | rfl | rfl | rfl <;> simp) h
    · replace h := h.2 c9
      refine w_aload_n dX4_placeOther_50 rfl (List.Mem.head _) ?_
      refine w_iload_n dX4_placeOther_51 rfl (List.Mem.tail _ (List.Mem.head _)) ?_
      refine w_iload dX4_placeOther_52 (List.Mem.tail _ (List.Mem.tail _ (List.Mem.tail _ (List.Mem.tail _ (List.Mem.tail _ (List.Mem.head _)))))) ?_
      refine w_iload dX4_placeOther_54 (List.Mem.tail _ (List.Mem.tail _ (List.Mem.tail _ (List.Mem.tail _ (List.Mem.head _))))) ?_
      obtain ⟨r7, σ3, hc5, hG4, rr6, h⟩ := h
      refine w_callV dX4_placeOther_56 ml_4_128 ⟨ok_X4_isFreeBut, vi_X4_isFreeBut⟩ hs_X4_isFreeBut (As := [.int (nZ x1), .int (nZ x5), .int (nZ x4)]) rfl rfl (gT hG rfl (lt_of rfl)) (Nat.le_of_ble_eq_true rfl) hc5 ?_
      show wp C 4 cX4_placeOther 6 none false [] sc P 59 [(0, .ref 26), (1, .int (nZ x1)), (2, .int (nZ x2)), (3, .ref u), (4, .int (nZ x4)), (5, .int (nZ x5))] [.int (nZ r7)] σ3
      refine i_if_eq (tgt := 91) dX4_placeOther_59 rfl rr6 (fun c9 => ?_) (fun c9 => ?_)
      · replace h := h.1 c9
        obtain ⟨q8, h⟩ := h
        refine w_iinc (v := nZ (x5 + 1)) (l' := [(5, .int (nZ (x5 + 1))), (0, .ref 26), (1, .int (nZ x1)), (2, .int (nZ x2)), (3, .ref u), (4, .int (nZ x4))]) dX4_placeOther_91 (List.Mem.tail _ (List.Mem.tail _ (List.Mem.tail _ (List.Mem.tail _ (List.Mem.tail _ (List.Mem.head _)))))) (nZ_add _ _) (by decide) rfl ?_
        refine w_goto (tgt := 34) dX4_placeOther_94 rfl ?_
        exact w_weak (l' := [(0, .ref 26), (1, .int (nZ x1)), (2, .int (nZ x2)), (3, .ref u), (4, .int (nZ x4)), (5, .int (nZ (x5 + 1)))]) (by intro q hq; simp only [List.mem_cons, List.not_mem_nil, or_false] at hq ⊢; rcases hq with rfl | rfl | rfl | rfl | rfl | rfl <;> simp) h
      · replace h := h.2 c9
        refine w_aload_n dX4_placeOther_62 rfl (List.Mem.head _) ?_
        obtain ⟨σ9, hc11, hG10, h⟩ := h
        refine w_callV dX4_placeOther_63 ml_4_67 ⟨ok_X4_stalls, vi_X4_stalls⟩ hs_X4_stalls (As := []) rfl rfl (gT hG4 rfl (lt_of rfl)) (Nat.le_of_ble_eq_true rfl) hc11 ?_
        show wp C 4 cX4_placeOther 6 none false [] sc P 66 [(0, .ref 26), (1, .int (nZ x1)), (2, .int (nZ x2)), (3, .ref u), (4, .int (nZ x4)), (5, .int (nZ x5))] [.ref (u + 1)] σ9
        refine w_iload_n dX4_placeOther_66 rfl (List.Mem.tail _ (List.Mem.head _)) ?_
        refine w_iload dX4_placeOther_67 (List.Mem.tail _ (List.Mem.tail _ (List.Mem.tail _ (List.Mem.tail _ (List.Mem.tail _ (List.Mem.head _)))))) ?_
        refine w_iload dX4_placeOther_69 (List.Mem.tail _ (List.Mem.tail _ (List.Mem.tail _ (List.Mem.tail _ (List.Mem.head _))))) ?_
        obtain ⟨σ13, hc15, hG14, h⟩ := h
        refine w_callV dX4_placeOther_71 ml_4_113 ⟨ok_X7_put, vi_X7_put⟩ hs_X7_put (As := [.int (nZ x1), .int (nZ x5), .int (nZ x4)]) rfl rfl (gT hG10 (IsMk_t1 hG.2.2.2.2) (IsMk_lt hG.2.2.2.2 (k := 1) (by decide))) (Nat.le_of_ble_eq_true rfl) hc15 ?_
        show wp C 4 cX4_placeOther 6 none false [] sc P 74 [(0, .ref 26), (1, .int (nZ x1)), (2, .int (nZ x2)), (3, .ref u), (4, .int (nZ x4)), (5, .int (nZ x5))] [] σ13
        refine w_aload_n dX4_placeOther_74 rfl (List.Mem.head _) ?_
        refine w_bipush (v := nZ 100) dX4_placeOther_75 (by decide) ?_
        refine w_iload_n dX4_placeOther_77 rfl (List.Mem.tail _ (List.Mem.tail _ (List.Mem.head _))) ?_
        obtain ⟨q17, h⟩ := h
        refine i_mul dX4_placeOther_78 ?_
        refine w_iload dX4_placeOther_79 (List.Mem.tail _ (List.Mem.tail _ (List.Mem.tail _ (List.Mem.tail _ (List.Mem.tail _ (List.Mem.head _)))))) ?_
        obtain ⟨q18, h⟩ := h
        refine i_add dX4_placeOther_81 ?_
        refine w_bipush (v := nZ 10) dX4_placeOther_82 (by decide) ?_
        refine w_iload dX4_placeOther_84 (List.Mem.tail _ (List.Mem.tail _ (List.Mem.tail _ (List.Mem.tail _ (List.Mem.head _))))) ?_
        obtain ⟨q19, h⟩ := h
        refine i_mul dX4_placeOther_86 ?_
        obtain ⟨q20, h⟩ := h
        refine i_add dX4_placeOther_87 ?_
        obtain ⟨σ21, hc23, hG22, h⟩ := h
        refine w_callV dX4_placeOther_88 ml_4_124 ⟨ok_X4_weighWay, vi_X4_weighWay⟩ hs_X4_weighWay (As := [.int (nZ (((100 * x2) + x5) + (10 * x4)))]) rfl rfl (gT hG14 rfl (lt_of rfl)) (Nat.le_of_ble_eq_true rfl) hc23 ?_
        show wp C 4 cX4_placeOther 6 none false [] sc P 91 [(0, .ref 26), (1, .int (nZ x1)), (2, .int (nZ x2)), (3, .ref u), (4, .int (nZ x4)), (5, .int (nZ x5))] [] σ21
        obtain ⟨q25, h⟩ := h
        refine w_iinc (v := nZ (x5 + 1)) (l' := [(5, .int (nZ (x5 + 1))), (0, .ref 26), (1, .int (nZ x1)), (2, .int (nZ x2)), (3, .ref u), (4, .int (nZ x4))]) dX4_placeOther_91 (List.Mem.tail _ (List.Mem.tail _ (List.Mem.tail _ (List.Mem.tail _ (List.Mem.tail _ (List.Mem.head _)))))) (nZ_add _ _) (by decide) rfl ?_
        refine w_goto (tgt := 34) dX4_placeOther_94 rfl ?_
        exact w_weak (l' := [(0, .ref 26), (1, .int (nZ x1)), (2, .int (nZ x2)), (3, .ref u), (4, .int (nZ x4)), (5, .int (nZ (x5 + 1)))]) (by intro q hq; simp only [List.mem_cons, List.not_mem_nil, or_false] at hq ⊢; rcases hq with rfl | rfl | rfl | rfl | rfl | rfl <;> simp) h
theorem dX4_isFreeBut_0 : decode cX4_isFreeBut 0 = .ok (.aload_n 0, 1) := by decide +kernel
theorem dX4_isFreeBut_1 : decode cX4_isFreeBut 1 = .ok (.invokevirtual 67, 3) := by decide +kernel
theorem dX4_isFreeBut_4 : decode cX4_isFreeBut 4 = .ok (.astore 4, 2) := by decide +kernel
theorem dX4_isFreeBut_6 : decode cX4_isFreeBut 6 = .ok (.iconst 0, 1) := by decide +kernel
theorem dX4_isFreeBut_7 : decode cX4_isFreeBut 7 = .ok (.istore 5, 2) := by decide +kernel
theorem dX4_isFreeBut_9 : decode cX4_isFreeBut 9 = .ok (.iload 5, 2) := by decide +kernel
theorem dX4_isFreeBut_11 : decode cX4_isFreeBut 11 = .ok (.aload 4, 2) := by decide +kernel
theorem dX4_isFreeBut_13 : decode cX4_isFreeBut 13 = .ok (.getfield 131, 3) := by decide +kernel
theorem dX4_isFreeBut_16 : decode cX4_isFreeBut 16 = .ok (.if_icmp .ge 41, 3) := by decide +kernel
theorem dX4_isFreeBut_19 : decode cX4_isFreeBut 19 = .ok (.iload 5, 2) := by decide +kernel
theorem dX4_isFreeBut_21 : decode cX4_isFreeBut 21 = .ok (.iload_n 1, 1) := by decide +kernel
theorem dX4_isFreeBut_22 : decode cX4_isFreeBut 22 = .ok (.if_icmp .eq 29, 3) := by decide +kernel
theorem dX4_isFreeBut_25 : decode cX4_isFreeBut 25 = .ok (.aload 4, 2) := by decide +kernel
theorem dX4_isFreeBut_27 : decode cX4_isFreeBut 27 = .ok (.getfield 70, 3) := by decide +kernel
theorem dX4_isFreeBut_30 : decode cX4_isFreeBut 30 = .ok (.iload 5, 2) := by decide +kernel
theorem dX4_isFreeBut_32 : decode cX4_isFreeBut 32 = .ok (.iaload, 1) := by decide +kernel
theorem dX4_isFreeBut_33 : decode cX4_isFreeBut 33 = .ok (.iload_n 2, 1) := by decide +kernel
theorem dX4_isFreeBut_34 : decode cX4_isFreeBut 34 = .ok (.if_icmp .ne 17, 3) := by decide +kernel
theorem dX4_isFreeBut_37 : decode cX4_isFreeBut 37 = .ok (.aload 4, 2) := by decide +kernel
theorem dX4_isFreeBut_39 : decode cX4_isFreeBut 39 = .ok (.getfield 81, 3) := by decide +kernel
theorem dX4_isFreeBut_42 : decode cX4_isFreeBut 42 = .ok (.iload 5, 2) := by decide +kernel
theorem dX4_isFreeBut_44 : decode cX4_isFreeBut 44 = .ok (.iaload, 1) := by decide +kernel
theorem dX4_isFreeBut_45 : decode cX4_isFreeBut 45 = .ok (.iload_n 3, 1) := by decide +kernel
theorem dX4_isFreeBut_46 : decode cX4_isFreeBut 46 = .ok (.if_icmp .ne 5, 3) := by decide +kernel
theorem dX4_isFreeBut_49 : decode cX4_isFreeBut 49 = .ok (.iconst 0, 1) := by decide +kernel
theorem dX4_isFreeBut_50 : decode cX4_isFreeBut 50 = .ok (.ireturn, 1) := by decide +kernel
theorem dX4_isFreeBut_51 : decode cX4_isFreeBut 51 = .ok (.iinc 5 1, 3) := by decide +kernel
theorem dX4_isFreeBut_54 : decode cX4_isFreeBut 54 = .ok (.goto (-45), 3) := by decide +kernel
theorem dX4_isFreeBut_57 : decode cX4_isFreeBut 57 = .ok (.iconst 1, 1) := by decide +kernel
theorem dX4_isFreeBut_58 : decode cX4_isFreeBut 58 = .ok (.ireturn, 1) := by decide +kernel
def L_X4_isFreeBut_9 (C : aM → List Value → aH → aO → aH → Prop) (sc : Nat × (Nat → Int32)) (P : aO → aH → Prop) (u : Nat) (x1 : Int) (x2 : Int) (x3 : Int) (x5 : Int) (σ : aH) : Prop :=
    wp C 4 cX4_isFreeBut 6 (some .boolean) false [] sc P 9 [(0, .ref 26), (1, .int (nZ x1)), (2, .int (nZ x2)), (3, .int (nZ x3)), (4, .ref (u + 1)), (5, .int (nZ x5))] [] σ
set_option maxRecDepth 10000 in
theorem t_X4_isFreeBut {sc : Nat × (Nat → Int32)} {d : Nat} {Q : aO → aH → Prop} {σ : aH} {u : Nat}  {x1 : Int} {x2 : Int} {x3 : Int} (hG : G σ u) (rx1 : inR x1) (rx2 : inR x2) (rx3 : inR x3)
    (h : (∃ σ1 : aH, Ev sc d mX4_stalls [.ref 26] σ (.inl (some (.ref (u + 1)))) σ1 ∧ G σ1 u ∧ L_X4_isFreeBut_9 (Ev sc d) sc Q u x1 x2 x3 0 σ1)) :
    T sc (d + 1) mX4_isFreeBut [.ref 26, .int (nZ x1), .int (nZ x2), .int (nZ x3)] σ Q := by
  refine T.of (c := 4) (code := cX4_isFreeBut) (mL := 6) (rt := (some .boolean)) (ini := false) (l := [(0, .ref 26), (1, .int (nZ x1)), (2, .int (nZ x2)), (3, .int (nZ x3))]) rfl rfl rfl rfl (by decide) hs_X4_isFreeBut rfl rfl ?_
  refine w_aload_n dX4_isFreeBut_0 rfl (List.Mem.head _) ?_
  obtain ⟨σ1, hc3, hG2, h⟩ := h
  refine w_callV dX4_isFreeBut_1 ml_4_67 ⟨ok_X4_stalls, vi_X4_stalls⟩ hs_X4_stalls (As := []) rfl rfl (gT hG rfl (lt_of rfl)) (Nat.le_of_ble_eq_true rfl) hc3 ?_
  show wp (Ev sc d) 4 cX4_isFreeBut 6 (some .boolean) false [] sc Q 4 [(0, .ref 26), (1, .int (nZ x1)), (2, .int (nZ x2)), (3, .int (nZ x3))] [.ref (u + 1)] σ1
  refine w_astore (l' := [(4, .ref (u + 1)), (0, .ref 26), (1, .int (nZ x1)), (2, .int (nZ x2)), (3, .int (nZ x3))]) dX4_isFreeBut_4 (by decide) rfl ?_
  refine w_iconst (v := nZ 0) dX4_isFreeBut_6 (by decide) ?_
  refine w_istore (l' := [(5, .int (nZ 0)), (4, .ref (u + 1)), (0, .ref 26), (1, .int (nZ x1)), (2, .int (nZ x2)), (3, .int (nZ x3))]) dX4_isFreeBut_7 (by decide) rfl ?_
  exact w_weak (l' := [(0, .ref 26), (1, .int (nZ x1)), (2, .int (nZ x2)), (3, .int (nZ x3)), (4, .ref (u + 1)), (5, .int (nZ 0))]) (by intro q hq; simp only [List.mem_cons, List.not_mem_nil, or_false] at hq ⊢; rcases hq with rfl | rfl | rfl | rfl | rfl | rfl <;> simp) h
set_option maxRecDepth 10000 in
theorem v_X4_isFreeBut_9 {C : aM → List Value → aH → aO → aH → Prop} {sc : Nat × (Nat → Int32)} {P : aO → aH → Prop} {σ : aH} {u : Nat}  {x1 : Int} {x2 : Int} {x3 : Int} {x5 : Int} (hG : G σ u) (rx1 : inR x1) (rx2 : inR x2) (rx3 : inR x3) (rx5 : inR x5)
    (h : (((rI σ (u + 1) 8) ≤ x5 → P (.inl (some (.int (nZ 1)))) σ) ∧ (¬ ((rI σ (u + 1) 8) ≤ x5) → ((x5 = x1 → (inR (x5 + 1) ∧ L_X4_isFreeBut_9 C sc P u x1 x2 x3 (x5 + 1) σ)) ∧ (¬ (x5 = x1) → ((0 ≤ x5 ∧ x5 < 9) ∧ ((¬ (rI σ (u + 2) x5) = x2 → (inR (x5 + 1) ∧ L_X4_isFreeBut_9 C sc P u x1 x2 x3 (x5 + 1) σ)) ∧ ((rI σ (u + 2) x5) = x2 → ((0 ≤ x5 ∧ x5 < 9) ∧ ((¬ (rI σ (u + 3) x5) = x3 → (inR (x5 + 1) ∧ L_X4_isFreeBut_9 C sc P u x1 x2 x3 (x5 + 1) σ)) ∧ ((rI σ (u + 3) x5) = x3 → P (.inl (some (.int (nZ 0)))) σ))))))))))) :
    L_X4_isFreeBut_9 C sc P u x1 x2 x3 x5 σ := by
  unfold L_X4_isFreeBut_9
  refine w_iload dX4_isFreeBut_9 (List.Mem.tail _ (List.Mem.tail _ (List.Mem.tail _ (List.Mem.tail _ (List.Mem.tail _ (List.Mem.head _)))))) ?_
  refine w_aload dX4_isFreeBut_11 (List.Mem.tail _ (List.Mem.tail _ (List.Mem.tail _ (List.Mem.tail _ (List.Mem.head _))))) ?_
  refine i_getI (ci := 7) 8 rfl dX4_isFreeBut_13 fl_4_131 (by decide) (gT hG (IsMk_t1 hG.2.2.2.2) (IsMk_lt hG.2.2.2.2 (k := 1) (by decide))) ?_
  refine i_cmp_ge (tgt := 57) dX4_isFreeBut_16 rfl rx5 (rI_R _ _ _) (fun c9 => ?_) (fun c9 => ?_)
  · replace h := h.1 c9
    refine w_iconst (v := nZ 1) dX4_isFreeBut_57 (by decide) ?_
    exact i_zret dX4_isFreeBut_58 rfl (by decide) h
  · replace h := h.2 c9
    refine w_iload dX4_isFreeBut_19 (List.Mem.tail _ (List.Mem.tail _ (List.Mem.tail _ (List.Mem.tail _ (List.Mem.tail _ (List.Mem.head _)))))) ?_
    refine w_iload_n dX4_isFreeBut_21 rfl (List.Mem.tail _ (List.Mem.head _)) ?_
    refine i_cmp_eq (tgt := 51) dX4_isFreeBut_22 rfl rx5 rx1 (fun c9 => ?_) (fun c9 => ?_)
    · replace h := h.1 c9
      obtain ⟨q1, h⟩ := h
      refine w_iinc (v := nZ (x5 + 1)) (l' := [(5, .int (nZ (x5 + 1))), (0, .ref 26), (1, .int (nZ x1)), (2, .int (nZ x2)), (3, .int (nZ x3)), (4, .ref (u + 1))]) dX4_isFreeBut_51 (List.Mem.tail _ (List.Mem.tail _ (List.Mem.tail _ (List.Mem.tail _ (List.Mem.tail _ (List.Mem.head _)))))) (nZ_add _ _) (by decide) rfl ?_
      refine w_goto (tgt := 9) dX4_isFreeBut_54 rfl ?_
      exact w_weak (l' := [(0, .ref 26), (1, .int (nZ x1)), (2, .int (nZ x2)), (3, .int (nZ x3)), (4, .ref (u + 1)), (5, .int (nZ (x5 + 1)))]) (by intro q hq; simp only [List.mem_cons, List.not_mem_nil, or_false] at hq ⊢; rcases hq with rfl | rfl | rfl | rfl | rfl | rfl <;> simp) h
    · replace h := h.2 c9
      refine w_aload dX4_isFreeBut_25 (List.Mem.tail _ (List.Mem.tail _ (List.Mem.tail _ (List.Mem.tail _ (List.Mem.head _))))) ?_
      refine w_getR (ci := 7) (k := 0) (b := (u + 2)) dX4_isFreeBut_27 fl_4_70 (by decide) (gT hG (IsMk_t1 hG.2.2.2.2) (IsMk_lt hG.2.2.2.2 (k := 1) (by decide))) (gR hG (IsMk_r1_0 hG.2.2.2.2)) ?_
      refine w_iload dX4_isFreeBut_30 (List.Mem.tail _ (List.Mem.tail _ (List.Mem.tail _ (List.Mem.tail _ (List.Mem.tail _ (List.Mem.head _)))))) ?_
      obtain ⟨h9, h⟩ := h
      refine i_iald (n := 9) dX4_isFreeBut_32 (gT hG (IsMk_t2 hG.2.2.2.2) (IsMk_lt hG.2.2.2.2 (k := 2) (by decide))) (gL hG (IsMk_n2 hG.2.2.2.2)) rx5 h9 ?_
      refine w_iload_n dX4_isFreeBut_33 rfl (List.Mem.tail _ (List.Mem.tail _ (List.Mem.head _))) ?_
      refine i_cmp_ne (tgt := 51) dX4_isFreeBut_34 rfl (rI_R _ _ _) rx2 (fun c9 => ?_) (fun c9 => ?_)
      · replace h := h.1 c9
        obtain ⟨q2, h⟩ := h
        refine w_iinc (v := nZ (x5 + 1)) (l' := [(5, .int (nZ (x5 + 1))), (0, .ref 26), (1, .int (nZ x1)), (2, .int (nZ x2)), (3, .int (nZ x3)), (4, .ref (u + 1))]) dX4_isFreeBut_51 (List.Mem.tail _ (List.Mem.tail _ (List.Mem.tail _ (List.Mem.tail _ (List.Mem.tail _ (List.Mem.head _)))))) (nZ_add _ _) (by decide) rfl ?_
        refine w_goto (tgt := 9) dX4_isFreeBut_54 rfl ?_
        exact w_weak (l' := [(0, .ref 26), (1, .int (nZ x1)), (2, .int (nZ x2)), (3, .int (nZ x3)), (4, .ref (u + 1)), (5, .int (nZ (x5 + 1)))]) (by intro q hq; simp only [List.mem_cons, List.not_mem_nil, or_false] at hq ⊢; rcases hq with rfl | rfl | rfl | rfl | rfl | rfl <;> simp) h
      · replace h := h.2 c9
        refine w_aload dX4_isFreeBut_37 (List.Mem.tail _ (List.Mem.tail _ (List.Mem.tail _ (List.Mem.tail _ (List.Mem.head _))))) ?_
        refine w_getR (ci := 7) (k := 1) (b := (u + 3)) dX4_isFreeBut_39 fl_4_81 (by decide) (gT hG (IsMk_t1 hG.2.2.2.2) (IsMk_lt hG.2.2.2.2 (k := 1) (by decide))) (gR hG (IsMk_r1_1 hG.2.2.2.2)) ?_
        refine w_iload dX4_isFreeBut_42 (List.Mem.tail _ (List.Mem.tail _ (List.Mem.tail _ (List.Mem.tail _ (List.Mem.tail _ (List.Mem.head _)))))) ?_
        obtain ⟨h9, h⟩ := h
        refine i_iald (n := 9) dX4_isFreeBut_44 (gT hG (IsMk_t3 hG.2.2.2.2) (IsMk_lt hG.2.2.2.2 (k := 3) (by decide))) (gL hG (IsMk_n3 hG.2.2.2.2)) rx5 h9 ?_
        refine w_iload_n dX4_isFreeBut_45 rfl (List.Mem.tail _ (List.Mem.tail _ (List.Mem.tail _ (List.Mem.head _)))) ?_
        refine i_cmp_ne (tgt := 51) dX4_isFreeBut_46 rfl (rI_R _ _ _) rx3 (fun c9 => ?_) (fun c9 => ?_)
        · replace h := h.1 c9
          obtain ⟨q3, h⟩ := h
          refine w_iinc (v := nZ (x5 + 1)) (l' := [(5, .int (nZ (x5 + 1))), (0, .ref 26), (1, .int (nZ x1)), (2, .int (nZ x2)), (3, .int (nZ x3)), (4, .ref (u + 1))]) dX4_isFreeBut_51 (List.Mem.tail _ (List.Mem.tail _ (List.Mem.tail _ (List.Mem.tail _ (List.Mem.tail _ (List.Mem.head _)))))) (nZ_add _ _) (by decide) rfl ?_
          refine w_goto (tgt := 9) dX4_isFreeBut_54 rfl ?_
          exact w_weak (l' := [(0, .ref 26), (1, .int (nZ x1)), (2, .int (nZ x2)), (3, .int (nZ x3)), (4, .ref (u + 1)), (5, .int (nZ (x5 + 1)))]) (by intro q hq; simp only [List.mem_cons, List.not_mem_nil, or_false] at hq ⊢; rcases hq with rfl | rfl | rfl | rfl | rfl | rfl <;> simp) h
        · replace h := h.2 c9
          refine w_iconst (v := nZ 0) dX4_isFreeBut_49 (by decide) ?_
          exact i_zret dX4_isFreeBut_50 rfl (by decide) h
theorem dX4_bestExchange_0 : decode cX4_bestExchange 0 = .ok (.aload_n 0, 1) := by decide +kernel
theorem dX4_bestExchange_1 : decode cX4_bestExchange 1 = .ok (.invokevirtual 67, 3) := by decide +kernel
theorem dX4_bestExchange_4 : decode cX4_bestExchange 4 = .ok (.astore_n 1, 1) := by decide +kernel
theorem dX4_bestExchange_5 : decode cX4_bestExchange 5 = .ok (.iconst (-1), 1) := by decide +kernel
theorem dX4_bestExchange_6 : decode cX4_bestExchange 6 = .ok (.istore_n 2, 1) := by decide +kernel
theorem dX4_bestExchange_7 : decode cX4_bestExchange 7 = .ok (.aload_n 0, 1) := by decide +kernel
theorem dX4_bestExchange_8 : decode cX4_bestExchange 8 = .ok (.aload_n 0, 1) := by decide +kernel
theorem dX4_bestExchange_9 : decode cX4_bestExchange 9 = .ok (.getfield 12, 3) := by decide +kernel
theorem dX4_bestExchange_12 : decode cX4_bestExchange 12 = .ok (.aload_n 0, 1) := by decide +kernel
theorem dX4_bestExchange_13 : decode cX4_bestExchange 13 = .ok (.getfield 12, 3) := by decide +kernel
theorem dX4_bestExchange_16 : decode cX4_bestExchange 16 = .ok (.getfield 85, 3) := by decide +kernel
theorem dX4_bestExchange_19 : decode cX4_bestExchange 19 = .ok (.ldc 84, 2) := by decide +kernel
theorem dX4_bestExchange_21 : decode cX4_bestExchange 21 = .ok (.invokevirtual 89, 3) := by decide +kernel
theorem dX4_bestExchange_24 : decode cX4_bestExchange 24 = .ok (.putfield 35, 3) := by decide +kernel
theorem dX4_bestExchange_27 : decode cX4_bestExchange 27 = .ok (.iconst 0, 1) := by decide +kernel
theorem dX4_bestExchange_28 : decode cX4_bestExchange 28 = .ok (.istore_n 3, 1) := by decide +kernel
theorem dX4_bestExchange_29 : decode cX4_bestExchange 29 = .ok (.iload_n 3, 1) := by decide +kernel
theorem dX4_bestExchange_30 : decode cX4_bestExchange 30 = .ok (.aload_n 1, 1) := by decide +kernel
theorem dX4_bestExchange_31 : decode cX4_bestExchange 31 = .ok (.getfield 131, 3) := by decide +kernel
theorem dX4_bestExchange_34 : decode cX4_bestExchange 34 = .ok (.if_icmp .ge 86, 3) := by decide +kernel
theorem dX4_bestExchange_37 : decode cX4_bestExchange 37 = .ok (.iload_n 3, 1) := by decide +kernel
theorem dX4_bestExchange_38 : decode cX4_bestExchange 38 = .ok (.iconst 1, 1) := by decide +kernel
theorem dX4_bestExchange_39 : decode cX4_bestExchange 39 = .ok (.iadd, 1) := by decide +kernel
theorem dX4_bestExchange_40 : decode cX4_bestExchange 40 = .ok (.istore 4, 2) := by decide +kernel
theorem dX4_bestExchange_42 : decode cX4_bestExchange 42 = .ok (.iload 4, 2) := by decide +kernel
theorem dX4_bestExchange_44 : decode cX4_bestExchange 44 = .ok (.aload_n 1, 1) := by decide +kernel
theorem dX4_bestExchange_45 : decode cX4_bestExchange 45 = .ok (.getfield 131, 3) := by decide +kernel
theorem dX4_bestExchange_48 : decode cX4_bestExchange 48 = .ok (.if_icmp .ge 66, 3) := by decide +kernel
theorem dX4_bestExchange_51 : decode cX4_bestExchange 51 = .ok (.aload_n 1, 1) := by decide +kernel
theorem dX4_bestExchange_52 : decode cX4_bestExchange 52 = .ok (.iload_n 3, 1) := by decide +kernel
theorem dX4_bestExchange_53 : decode cX4_bestExchange 53 = .ok (.iload 4, 2) := by decide +kernel
theorem dX4_bestExchange_55 : decode cX4_bestExchange 55 = .ok (.invokevirtual 134, 3) := by decide +kernel
theorem dX4_bestExchange_58 : decode cX4_bestExchange 58 = .ok (.aload_n 0, 1) := by decide +kernel
theorem dX4_bestExchange_59 : decode cX4_bestExchange 59 = .ok (.getfield 12, 3) := by decide +kernel
theorem dX4_bestExchange_62 : decode cX4_bestExchange 62 = .ok (.aload_n 0, 1) := by decide +kernel
theorem dX4_bestExchange_63 : decode cX4_bestExchange 63 = .ok (.getfield 12, 3) := by decide +kernel
theorem dX4_bestExchange_66 : decode cX4_bestExchange 66 = .ok (.getfield 85, 3) := by decide +kernel
theorem dX4_bestExchange_69 : decode cX4_bestExchange 69 = .ok (.aload_n 0, 1) := by decide +kernel
theorem dX4_bestExchange_70 : decode cX4_bestExchange 70 = .ok (.getfield 35, 3) := by decide +kernel
theorem dX4_bestExchange_73 : decode cX4_bestExchange 73 = .ok (.invokevirtual 89, 3) := by decide +kernel
theorem dX4_bestExchange_76 : decode cX4_bestExchange 76 = .ok (.istore 5, 2) := by decide +kernel
theorem dX4_bestExchange_78 : decode cX4_bestExchange 78 = .ok (.aload_n 1, 1) := by decide +kernel
theorem dX4_bestExchange_79 : decode cX4_bestExchange 79 = .ok (.iload_n 3, 1) := by decide +kernel
theorem dX4_bestExchange_80 : decode cX4_bestExchange 80 = .ok (.iload 4, 2) := by decide +kernel
theorem dX4_bestExchange_82 : decode cX4_bestExchange 82 = .ok (.invokevirtual 134, 3) := by decide +kernel
theorem dX4_bestExchange_85 : decode cX4_bestExchange 85 = .ok (.iload 5, 2) := by decide +kernel
theorem dX4_bestExchange_87 : decode cX4_bestExchange 87 = .ok (.aload_n 0, 1) := by decide +kernel
theorem dX4_bestExchange_88 : decode cX4_bestExchange 88 = .ok (.getfield 35, 3) := by decide +kernel
theorem dX4_bestExchange_91 : decode cX4_bestExchange 91 = .ok (.if_icmp .ge 17, 3) := by decide +kernel
theorem dX4_bestExchange_94 : decode cX4_bestExchange 94 = .ok (.aload_n 0, 1) := by decide +kernel
theorem dX4_bestExchange_95 : decode cX4_bestExchange 95 = .ok (.iload 5, 2) := by decide +kernel
theorem dX4_bestExchange_97 : decode cX4_bestExchange 97 = .ok (.putfield 35, 3) := by decide +kernel
theorem dX4_bestExchange_100 : decode cX4_bestExchange 100 = .ok (.bipush 10, 2) := by decide +kernel
theorem dX4_bestExchange_102 : decode cX4_bestExchange 102 = .ok (.iload_n 3, 1) := by decide +kernel
theorem dX4_bestExchange_103 : decode cX4_bestExchange 103 = .ok (.imul, 1) := by decide +kernel
theorem dX4_bestExchange_104 : decode cX4_bestExchange 104 = .ok (.iload 4, 2) := by decide +kernel
theorem dX4_bestExchange_106 : decode cX4_bestExchange 106 = .ok (.iadd, 1) := by decide +kernel
theorem dX4_bestExchange_107 : decode cX4_bestExchange 107 = .ok (.istore_n 2, 1) := by decide +kernel
theorem dX4_bestExchange_108 : decode cX4_bestExchange 108 = .ok (.iinc 4 1, 3) := by decide +kernel
theorem dX4_bestExchange_111 : decode cX4_bestExchange 111 = .ok (.goto (-69), 3) := by decide +kernel
theorem dX4_bestExchange_114 : decode cX4_bestExchange 114 = .ok (.iinc 3 1, 3) := by decide +kernel
theorem dX4_bestExchange_117 : decode cX4_bestExchange 117 = .ok (.goto (-88), 3) := by decide +kernel
theorem dX4_bestExchange_120 : decode cX4_bestExchange 120 = .ok (.iload_n 2, 1) := by decide +kernel
theorem dX4_bestExchange_121 : decode cX4_bestExchange 121 = .ok (.ireturn, 1) := by decide +kernel
def L_X4_bestExchange_29 (C : aM → List Value → aH → aO → aH → Prop) (sc : Nat × (Nat → Int32)) (P : aO → aH → Prop) (u : Nat) (x2 : Int) (x3 : Int) (σ : aH) : Prop :=
    wp C 4 cX4_bestExchange 6 (some .int) false [] sc P 29 [(0, .ref 26), (1, .ref (u + 1)), (2, .int (nZ x2)), (3, .int (nZ x3))] [] σ
def L_X4_bestExchange_42 (C : aM → List Value → aH → aO → aH → Prop) (sc : Nat × (Nat → Int32)) (P : aO → aH → Prop) (u : Nat) (x2 : Int) (x3 : Int) (x4 : Int) (σ : aH) : Prop :=
    wp C 4 cX4_bestExchange 6 (some .int) false [] sc P 42 [(0, .ref 26), (1, .ref (u + 1)), (2, .int (nZ x2)), (3, .int (nZ x3)), (4, .int (nZ x4))] [] σ
set_option maxRecDepth 10000 in
theorem t_X4_bestExchange {sc : Nat × (Nat → Int32)} {d : Nat} {Q : aO → aH → Prop} {σ : aH} {u : Nat}   (hG : G σ u) 
    (h : (∃ σ1 : aH, Ev sc d mX4_stalls [.ref 26] σ (.inl (some (.ref (u + 1)))) σ1 ∧ G σ1 u ∧ (∃ (r9 : Int) (σ5 : aH), Ev sc d mX6_total [.ref 27, .ref 28, .int (nZ 1000000000)] σ1 (.inl (some (.int (nZ r9)))) σ5 ∧ G σ5 u ∧ inR r9 ∧ (∀ σ10 : aH, wI σ5 26 6 r9 = σ10 → L_X4_bestExchange_29 (Ev sc d) sc Q u (-1) 0 σ10)))) :
    T sc (d + 1) mX4_bestExchange [.ref 26] σ Q := by
  refine T.of (c := 4) (code := cX4_bestExchange) (mL := 6) (rt := (some .int)) (ini := false) (l := [(0, .ref 26)]) rfl rfl rfl rfl (by decide) hs_X4_bestExchange rfl rfl ?_
  refine w_aload_n dX4_bestExchange_0 rfl (List.Mem.head _) ?_
  obtain ⟨σ1, hc3, hG2, h⟩ := h
  refine w_callV dX4_bestExchange_1 ml_4_67 ⟨ok_X4_stalls, vi_X4_stalls⟩ hs_X4_stalls (As := []) rfl rfl (gT hG rfl (lt_of rfl)) (Nat.le_of_ble_eq_true rfl) hc3 ?_
  show wp (Ev sc d) 4 cX4_bestExchange 6 (some .int) false [] sc Q 4 [(0, .ref 26)] [.ref (u + 1)] σ1
  refine w_astore_n (l' := [(1, .ref (u + 1)), (0, .ref 26)]) dX4_bestExchange_4 rfl (by decide) rfl ?_
  refine w_iconst (v := nZ (-1)) dX4_bestExchange_5 (by decide) ?_
  refine w_istore_n (l' := [(2, .int (nZ (-1))), (1, .ref (u + 1)), (0, .ref 26)]) dX4_bestExchange_6 rfl (by decide) rfl ?_
  refine w_aload_n dX4_bestExchange_7 rfl (List.Mem.tail _ (List.Mem.tail _ (List.Mem.head _))) ?_
  refine w_aload_n dX4_bestExchange_8 rfl (List.Mem.tail _ (List.Mem.tail _ (List.Mem.head _))) ?_
  refine w_getR (ci := 4) (k := 0) (b := 27) dX4_bestExchange_9 fl_4_12 (by decide) (gT hG2 rfl (lt_of rfl)) (gR hG2 (b := 27) rfl) ?_
  refine w_aload_n dX4_bestExchange_12 rfl (List.Mem.tail _ (List.Mem.tail _ (List.Mem.head _))) ?_
  refine w_getR (ci := 4) (k := 0) (b := 27) dX4_bestExchange_13 fl_4_12 (by decide) (gT hG2 rfl (lt_of rfl)) (gR hG2 (b := 27) rfl) ?_
  refine w_getR (ci := 6) (k := 0) (b := 28) dX4_bestExchange_16 fl_4_85 (by decide) (gT hG2 rfl (lt_of rfl)) (gR hG2 (b := 28) rfl) ?_
  refine i_ldc (x := 1000000000) dX4_bestExchange_19 kc_4_84 (by decide) ?_
  obtain ⟨r9, σ5, hc7, hG6, rr8, h⟩ := h
  refine w_callV dX4_bestExchange_21 ml_4_89 ⟨ok_X6_total, vi_X6_total⟩ hs_X6_total (As := [.ref 28, .int (nZ 1000000000)]) rfl rfl (gT hG2 rfl (lt_of rfl)) (Nat.le_of_ble_eq_true rfl) hc7 ?_
  show wp (Ev sc d) 4 cX4_bestExchange 6 (some .int) false [] sc Q 24 [(2, .int (nZ (-1))), (1, .ref (u + 1)), (0, .ref 26)] [.int (nZ r9), .ref 26] σ5
  refine i_putI (ci := 4) 6 rfl dX4_bestExchange_24 fl_4_35 (by decide) (gT hG6 rfl (lt_of rfl)) (fun σ10 eσ11 => ?_)
  replace h := h σ10 eσ11
  have hG12 : G σ10 u := eσ11 ▸ G.wI hG6
  refine w_iconst (v := nZ 0) dX4_bestExchange_27 (by decide) ?_
  refine w_istore_n (l' := [(3, .int (nZ 0)), (2, .int (nZ (-1))), (1, .ref (u + 1)), (0, .ref 26)]) dX4_bestExchange_28 rfl (by decide) rfl ?_
  exact w_weak (l' := [(0, .ref 26), (1, .ref (u + 1)), (2, .int (nZ (-1))), (3, .int (nZ 0))]) (by intro q hq; simp only [List.mem_cons, List.not_mem_nil, or_false] at hq ⊢; rcases hq with rfl | rfl | rfl | rfl <;> simp) h
set_option maxRecDepth 10000 in
theorem v_X4_bestExchange_29 {C : aM → List Value → aH → aO → aH → Prop} {sc : Nat × (Nat → Int32)} {P : aO → aH → Prop} {σ : aH} {u : Nat}  {x2 : Int} {x3 : Int} (hG : G σ u) (rx2 : inR x2) (rx3 : inR x3)
    (h : (((rI σ (u + 1) 8) ≤ x3 → P (.inl (some (.int (nZ x2)))) σ) ∧ (¬ ((rI σ (u + 1) 8) ≤ x3) → (inR (x3 + 1) ∧ (∀ z2 : Int, z2 = (x3 + 1) → L_X4_bestExchange_42 C sc P u x2 x3 z2 σ))))) :
    L_X4_bestExchange_29 C sc P u x2 x3 σ := by
  unfold L_X4_bestExchange_29
  refine w_iload_n dX4_bestExchange_29 rfl (List.Mem.tail _ (List.Mem.tail _ (List.Mem.tail _ (List.Mem.head _)))) ?_
  refine w_aload_n dX4_bestExchange_30 rfl (List.Mem.tail _ (List.Mem.head _)) ?_
  refine i_getI (ci := 7) 8 rfl dX4_bestExchange_31 fl_4_131 (by decide) (gT hG (IsMk_t1 hG.2.2.2.2) (IsMk_lt hG.2.2.2.2 (k := 1) (by decide))) ?_
  refine i_cmp_ge (tgt := 120) dX4_bestExchange_34 rfl rx3 (rI_R _ _ _) (fun c9 => ?_) (fun c9 => ?_)
  · replace h := h.1 c9
    refine w_iload_n dX4_bestExchange_120 rfl (List.Mem.tail _ (List.Mem.tail _ (List.Mem.head _))) ?_
    exact w_iret dX4_bestExchange_121 rfl h
  · replace h := h.2 c9
    refine w_iload_n dX4_bestExchange_37 rfl (List.Mem.tail _ (List.Mem.tail _ (List.Mem.tail _ (List.Mem.head _)))) ?_
    refine w_iconst (v := nZ 1) dX4_bestExchange_38 (by decide) ?_
    obtain ⟨q1, h⟩ := h
    refine i_add dX4_bestExchange_39 ?_
    refine top_i (fun z2 ez3 => ?_)
    have rz4 : inR z2 := ez3 ▸ q1
    replace h := h z2 ez3
    refine w_istore (l' := [(4, .int (nZ z2)), (0, .ref 26), (1, .ref (u + 1)), (2, .int (nZ x2)), (3, .int (nZ x3))]) dX4_bestExchange_40 (by decide) rfl ?_
    exact w_weak (l' := [(0, .ref 26), (1, .ref (u + 1)), (2, .int (nZ x2)), (3, .int (nZ x3)), (4, .int (nZ z2))]) (by intro q hq; simp only [List.mem_cons, List.not_mem_nil, or_false] at hq ⊢; rcases hq with rfl | rfl | rfl | rfl | rfl <;> simp) h
set_option maxRecDepth 10000 in
theorem v_X4_bestExchange_42 {C : aM → List Value → aH → aO → aH → Prop} {sc : Nat × (Nat → Int32)} {P : aO → aH → Prop} {σ : aH} {u : Nat}  {x2 : Int} {x3 : Int} {x4 : Int} (hG : G σ u) (rx2 : inR x2) (rx3 : inR x3) (rx4 : inR x4)
    (h : (((rI σ (u + 1) 8) ≤ x4 → (inR (x3 + 1) ∧ L_X4_bestExchange_29 C sc P u x2 (x3 + 1) σ)) ∧ (¬ ((rI σ (u + 1) 8) ≤ x4) → (∃ σ2 : aH, C mX7_swapCells [.ref (u + 1), .int (nZ x3), .int (nZ x4)] σ (.inl none) σ2 ∧ G σ2 u ∧ (∃ (r10 : Int) (σ6 : aH), C mX6_total [.ref 27, .ref 28, .int (nZ (rI σ2 26 6))] σ2 (.inl (some (.int (nZ r10)))) σ6 ∧ G σ6 u ∧ inR r10 ∧ (∃ σ11 : aH, C mX7_swapCells [.ref (u + 1), .int (nZ x3), .int (nZ x4)] σ6 (.inl none) σ11 ∧ G σ11 u ∧ (((rI σ11 26 6) ≤ r10 → (inR (x4 + 1) ∧ L_X4_bestExchange_42 C sc P u x2 x3 (x4 + 1) σ11)) ∧ (¬ ((rI σ11 26 6) ≤ r10) → (∀ σ16 : aH, wI σ11 26 6 r10 = σ16 → (inR (10 * x3) ∧ (inR ((10 * x3) + x4) ∧ (∀ z21 : Int, z21 = ((10 * x3) + x4) → (inR (x4 + 1) ∧ L_X4_bestExchange_42 C sc P u z21 x3 (x4 + 1) σ16))))))))))))) :
    L_X4_bestExchange_42 C sc P u x2 x3 x4 σ := by
  unfold L_X4_bestExchange_42
  refine w_iload dX4_bestExchange_42 (List.Mem.tail _ (List.Mem.tail _ (List.Mem.tail _ (List.Mem.tail _ (List.Mem.head _))))) ?_
  refine w_aload_n dX4_bestExchange_44 rfl (List.Mem.tail _ (List.Mem.head _)) ?_
  refine i_getI (ci := 7) 8 rfl dX4_bestExchange_45 fl_4_131 (by decide) (gT hG (IsMk_t1 hG.2.2.2.2) (IsMk_lt hG.2.2.2.2 (k := 1) (by decide))) ?_
  refine i_cmp_ge (tgt := 114) dX4_bestExchange_48 rfl rx4 (rI_R _ _ _) (fun c9 => ?_) (fun c9 => ?_)
  · replace h := h.1 c9
    obtain ⟨q1, h⟩ := h
    refine w_iinc (v := nZ (x3 + 1)) (l' := [(3, .int (nZ (x3 + 1))), (0, .ref 26), (1, .ref (u + 1)), (2, .int (nZ x2)), (4, .int (nZ x4))]) dX4_bestExchange_114 (List.Mem.tail _ (List.Mem.tail _ (List.Mem.tail _ (List.Mem.head _)))) (nZ_add _ _) (by decide) rfl ?_
    refine w_goto (tgt := 29) dX4_bestExchange_117 rfl ?_
    exact w_weak (l' := [(0, .ref 26), (1, .ref (u + 1)), (2, .int (nZ x2)), (3, .int (nZ (x3 + 1)))]) (by intro q hq; simp only [List.mem_cons, List.not_mem_nil, or_false] at hq ⊢; rcases hq with rfl | rfl | rfl | rfl <;> simp) h
  · replace h := h.2 c9
    refine w_aload_n dX4_bestExchange_51 rfl (List.Mem.tail _ (List.Mem.head _)) ?_
    refine w_iload_n dX4_bestExchange_52 rfl (List.Mem.tail _ (List.Mem.tail _ (List.Mem.tail _ (List.Mem.head _)))) ?_
    refine w_iload dX4_bestExchange_53 (List.Mem.tail _ (List.Mem.tail _ (List.Mem.tail _ (List.Mem.tail _ (List.Mem.head _))))) ?_
    obtain ⟨σ2, hc4, hG3, h⟩ := h
    refine w_callV dX4_bestExchange_55 ml_4_134 ⟨ok_X7_swapCells, vi_X7_swapCells⟩ hs_X7_swapCells (As := [.int (nZ x3), .int (nZ x4)]) rfl rfl (gT hG (IsMk_t1 hG.2.2.2.2) (IsMk_lt hG.2.2.2.2 (k := 1) (by decide))) (Nat.le_of_ble_eq_true rfl) hc4 ?_
    show wp C 4 cX4_bestExchange 6 (some .int) false [] sc P 58 [(0, .ref 26), (1, .ref (u + 1)), (2, .int (nZ x2)), (3, .int (nZ x3)), (4, .int (nZ x4))] [] σ2
    refine w_aload_n dX4_bestExchange_58 rfl (List.Mem.head _) ?_
    refine w_getR (ci := 4) (k := 0) (b := 27) dX4_bestExchange_59 fl_4_12 (by decide) (gT hG3 rfl (lt_of rfl)) (gR hG3 (b := 27) rfl) ?_
    refine w_aload_n dX4_bestExchange_62 rfl (List.Mem.head _) ?_
    refine w_getR (ci := 4) (k := 0) (b := 27) dX4_bestExchange_63 fl_4_12 (by decide) (gT hG3 rfl (lt_of rfl)) (gR hG3 (b := 27) rfl) ?_
    refine w_getR (ci := 6) (k := 0) (b := 28) dX4_bestExchange_66 fl_4_85 (by decide) (gT hG3 rfl (lt_of rfl)) (gR hG3 (b := 28) rfl) ?_
    refine w_aload_n dX4_bestExchange_69 rfl (List.Mem.head _) ?_
    refine i_getI (ci := 4) 6 rfl dX4_bestExchange_70 fl_4_35 (by decide) (gT hG3 rfl (lt_of rfl)) ?_
    obtain ⟨r10, σ6, hc8, hG7, rr9, h⟩ := h
    refine w_callV dX4_bestExchange_73 ml_4_89 ⟨ok_X6_total, vi_X6_total⟩ hs_X6_total (As := [.ref 28, .int (nZ (rI σ2 26 6))]) rfl rfl (gT hG3 rfl (lt_of rfl)) (Nat.le_of_ble_eq_true rfl) hc8 ?_
    show wp C 4 cX4_bestExchange 6 (some .int) false [] sc P 76 [(0, .ref 26), (1, .ref (u + 1)), (2, .int (nZ x2)), (3, .int (nZ x3)), (4, .int (nZ x4))] [.int (nZ r10)] σ6
    refine w_istore (l' := [(5, .int (nZ r10)), (0, .ref 26), (1, .ref (u + 1)), (2, .int (nZ x2)), (3, .int (nZ x3)), (4, .int (nZ x4))]) dX4_bestExchange_76 (by decide) rfl ?_
    refine w_aload_n dX4_bestExchange_78 rfl (List.Mem.tail _ (List.Mem.tail _ (List.Mem.head _))) ?_
    refine w_iload_n dX4_bestExchange_79 rfl (List.Mem.tail _ (List.Mem.tail _ (List.Mem.tail _ (List.Mem.tail _ (List.Mem.head _))))) ?_
    refine w_iload dX4_bestExchange_80 (List.Mem.tail _ (List.Mem.tail _ (List.Mem.tail _ (List.Mem.tail _ (List.Mem.tail _ (List.Mem.head _)))))) ?_
    obtain ⟨σ11, hc13, hG12, h⟩ := h
    refine w_callV dX4_bestExchange_82 ml_4_134 ⟨ok_X7_swapCells, vi_X7_swapCells⟩ hs_X7_swapCells (As := [.int (nZ x3), .int (nZ x4)]) rfl rfl (gT hG7 (IsMk_t1 hG.2.2.2.2) (IsMk_lt hG.2.2.2.2 (k := 1) (by decide))) (Nat.le_of_ble_eq_true rfl) hc13 ?_
    show wp C 4 cX4_bestExchange 6 (some .int) false [] sc P 85 [(5, .int (nZ r10)), (0, .ref 26), (1, .ref (u + 1)), (2, .int (nZ x2)), (3, .int (nZ x3)), (4, .int (nZ x4))] [] σ11
    refine w_iload dX4_bestExchange_85 (List.Mem.head _) ?_
    refine w_aload_n dX4_bestExchange_87 rfl (List.Mem.tail _ (List.Mem.head _)) ?_
    refine i_getI (ci := 4) 6 rfl dX4_bestExchange_88 fl_4_35 (by decide) (gT hG12 rfl (lt_of rfl)) ?_
    refine i_cmp_ge (tgt := 108) dX4_bestExchange_91 rfl rr9 (rI_R _ _ _) (fun c9 => ?_) (fun c9 => ?_)
    · replace h := h.1 c9
      obtain ⟨q15, h⟩ := h
      refine w_iinc (v := nZ (x4 + 1)) (l' := [(4, .int (nZ (x4 + 1))), (5, .int (nZ r10)), (0, .ref 26), (1, .ref (u + 1)), (2, .int (nZ x2)), (3, .int (nZ x3))]) dX4_bestExchange_108 (List.Mem.tail _ (List.Mem.tail _ (List.Mem.tail _ (List.Mem.tail _ (List.Mem.tail _ (List.Mem.head _)))))) (nZ_add _ _) (by decide) rfl ?_
      refine w_goto (tgt := 42) dX4_bestExchange_111 rfl ?_
      exact w_weak (l' := [(0, .ref 26), (1, .ref (u + 1)), (2, .int (nZ x2)), (3, .int (nZ x3)), (4, .int (nZ (x4 + 1)))]) (by intro q hq; simp only [List.mem_cons, List.not_mem_nil, or_false] at hq ⊢; rcases hq with rfl | rfl | rfl | rfl | rfl <;> simp) h
    · replace h := h.2 c9
      refine w_aload_n dX4_bestExchange_94 rfl (List.Mem.tail _ (List.Mem.head _)) ?_
      refine w_iload dX4_bestExchange_95 (List.Mem.head _) ?_
      refine i_putI (ci := 4) 6 rfl dX4_bestExchange_97 fl_4_35 (by decide) (gT hG12 rfl (lt_of rfl)) (fun σ16 eσ17 => ?_)
      replace h := h σ16 eσ17
      have hG18 : G σ16 u := eσ17 ▸ G.wI hG12
      refine w_bipush (v := nZ 10) dX4_bestExchange_100 (by decide) ?_
      refine w_iload_n dX4_bestExchange_102 rfl (List.Mem.tail _ (List.Mem.tail _ (List.Mem.tail _ (List.Mem.tail _ (List.Mem.head _))))) ?_
      obtain ⟨q19, h⟩ := h
      refine i_mul dX4_bestExchange_103 ?_
      refine w_iload dX4_bestExchange_104 (List.Mem.tail _ (List.Mem.tail _ (List.Mem.tail _ (List.Mem.tail _ (List.Mem.tail _ (List.Mem.head _)))))) ?_
      obtain ⟨q20, h⟩ := h
      refine i_add dX4_bestExchange_106 ?_
      refine top_i (fun z21 ez22 => ?_)
      have rz23 : inR z21 := ez22 ▸ q20
      replace h := h z21 ez22
      refine w_istore_n (l' := [(2, .int (nZ z21)), (5, .int (nZ r10)), (0, .ref 26), (1, .ref (u + 1)), (3, .int (nZ x3)), (4, .int (nZ x4))]) dX4_bestExchange_107 rfl (by decide) rfl ?_
      obtain ⟨q24, h⟩ := h
      refine w_iinc (v := nZ (x4 + 1)) (l' := [(4, .int (nZ (x4 + 1))), (2, .int (nZ z21)), (5, .int (nZ r10)), (0, .ref 26), (1, .ref (u + 1)), (3, .int (nZ x3))]) dX4_bestExchange_108 (List.Mem.tail _ (List.Mem.tail _ (List.Mem.tail _ (List.Mem.tail _ (List.Mem.tail _ (List.Mem.head _)))))) (nZ_add _ _) (by decide) rfl ?_
      refine w_goto (tgt := 42) dX4_bestExchange_111 rfl ?_
      exact w_weak (l' := [(0, .ref 26), (1, .ref (u + 1)), (2, .int (nZ z21)), (3, .int (nZ x3)), (4, .int (nZ (x4 + 1)))]) (by intro q hq; simp only [List.mem_cons, List.not_mem_nil, or_false] at hq ⊢; rcases hq with rfl | rfl | rfl | rfl | rfl <;> simp) h
theorem dX4_exchangeOn_0 : decode cX4_exchangeOn 0 = .ok (.aload_n 0, 1) := by decide +kernel
theorem dX4_exchangeOn_1 : decode cX4_exchangeOn 1 = .ok (.invokevirtual 93, 3) := by decide +kernel
theorem dX4_exchangeOn_4 : decode cX4_exchangeOn 4 = .ok (.iconst 0, 1) := by decide +kernel
theorem dX4_exchangeOn_5 : decode cX4_exchangeOn 5 = .ok (.istore_n 1, 1) := by decide +kernel
theorem dX4_exchangeOn_6 : decode cX4_exchangeOn 6 = .ok (.aload_n 0, 1) := by decide +kernel
theorem dX4_exchangeOn_7 : decode cX4_exchangeOn 7 = .ok (.invokevirtual 137, 3) := by decide +kernel
theorem dX4_exchangeOn_10 : decode cX4_exchangeOn 10 = .ok (.istore_n 2, 1) := by decide +kernel
theorem dX4_exchangeOn_11 : decode cX4_exchangeOn 11 = .ok (.iconst 0, 1) := by decide +kernel
theorem dX4_exchangeOn_12 : decode cX4_exchangeOn 12 = .ok (.istore_n 3, 1) := by decide +kernel
theorem dX4_exchangeOn_13 : decode cX4_exchangeOn 13 = .ok (.iload_n 3, 1) := by decide +kernel
theorem dX4_exchangeOn_14 : decode cX4_exchangeOn 14 = .ok (.ldc 141, 2) := by decide +kernel
theorem dX4_exchangeOn_16 : decode cX4_exchangeOn 16 = .ok (.if_icmp .ge 37, 3) := by decide +kernel
theorem dX4_exchangeOn_19 : decode cX4_exchangeOn 19 = .ok (.iload_n 2, 1) := by decide +kernel
theorem dX4_exchangeOn_20 : decode cX4_exchangeOn 20 = .ok (.iconst (-1), 1) := by decide +kernel
theorem dX4_exchangeOn_21 : decode cX4_exchangeOn 21 = .ok (.if_icmp .eq 32, 3) := by decide +kernel
theorem dX4_exchangeOn_24 : decode cX4_exchangeOn 24 = .ok (.aload_n 0, 1) := by decide +kernel
theorem dX4_exchangeOn_25 : decode cX4_exchangeOn 25 = .ok (.invokevirtual 67, 3) := by decide +kernel
theorem dX4_exchangeOn_28 : decode cX4_exchangeOn 28 = .ok (.iload_n 2, 1) := by decide +kernel
theorem dX4_exchangeOn_29 : decode cX4_exchangeOn 29 = .ok (.bipush 10, 2) := by decide +kernel
theorem dX4_exchangeOn_31 : decode cX4_exchangeOn 31 = .ok (.idiv, 1) := by decide +kernel
theorem dX4_exchangeOn_32 : decode cX4_exchangeOn 32 = .ok (.iload_n 2, 1) := by decide +kernel
theorem dX4_exchangeOn_33 : decode cX4_exchangeOn 33 = .ok (.bipush 10, 2) := by decide +kernel
theorem dX4_exchangeOn_35 : decode cX4_exchangeOn 35 = .ok (.irem, 1) := by decide +kernel
theorem dX4_exchangeOn_36 : decode cX4_exchangeOn 36 = .ok (.invokevirtual 134, 3) := by decide +kernel
theorem dX4_exchangeOn_39 : decode cX4_exchangeOn 39 = .ok (.iinc 1 1, 3) := by decide +kernel
theorem dX4_exchangeOn_42 : decode cX4_exchangeOn 42 = .ok (.aload_n 0, 1) := by decide +kernel
theorem dX4_exchangeOn_43 : decode cX4_exchangeOn 43 = .ok (.invokevirtual 137, 3) := by decide +kernel
theorem dX4_exchangeOn_46 : decode cX4_exchangeOn 46 = .ok (.istore_n 2, 1) := by decide +kernel
theorem dX4_exchangeOn_47 : decode cX4_exchangeOn 47 = .ok (.iinc 3 1, 3) := by decide +kernel
theorem dX4_exchangeOn_50 : decode cX4_exchangeOn 50 = .ok (.goto (-37), 3) := by decide +kernel
theorem dX4_exchangeOn_53 : decode cX4_exchangeOn 53 = .ok (.aload_n 0, 1) := by decide +kernel
theorem dX4_exchangeOn_54 : decode cX4_exchangeOn 54 = .ok (.invokevirtual 121, 3) := by decide +kernel
theorem dX4_exchangeOn_57 : decode cX4_exchangeOn 57 = .ok (.iload_n 1, 1) := by decide +kernel
theorem dX4_exchangeOn_58 : decode cX4_exchangeOn 58 = .ok (.ireturn, 1) := by decide +kernel
def L_X4_exchangeOn_13 (C : aM → List Value → aH → aO → aH → Prop) (sc : Nat × (Nat → Int32)) (P : aO → aH → Prop) (x1 : Int) (x2 : Int) (x3 : Int) (σ : aH) : Prop :=
    wp C 4 cX4_exchangeOn 4 (some .int) false [] sc P 13 [(0, .ref 26), (1, .int (nZ x1)), (2, .int (nZ x2)), (3, .int (nZ x3))] [] σ
set_option maxRecDepth 10000 in
theorem t_X4_exchangeOn {sc : Nat × (Nat → Int32)} {d : Nat} {Q : aO → aH → Prop} {σ : aH} {u : Nat}   (hG : G σ u) 
    (h : (∃ σ1 : aH, Ev sc d mX4_keepCells [.ref 26] σ (.inl none) σ1 ∧ G σ1 u ∧ (∃ (r9 : Int) (σ5 : aH), Ev sc d mX4_bestExchange [.ref 26] σ1 (.inl (some (.int (nZ r9)))) σ5 ∧ G σ5 u ∧ inR r9 ∧ L_X4_exchangeOn_13 (Ev sc d) sc Q 0 r9 0 σ5))) :
    T sc (d + 1) mX4_exchangeOn [.ref 26] σ Q := by
  refine T.of (c := 4) (code := cX4_exchangeOn) (mL := 4) (rt := (some .int)) (ini := false) (l := [(0, .ref 26)]) rfl rfl rfl rfl (by decide) hs_X4_exchangeOn rfl rfl ?_
  refine w_aload_n dX4_exchangeOn_0 rfl (List.Mem.head _) ?_
  obtain ⟨σ1, hc3, hG2, h⟩ := h
  refine w_callV dX4_exchangeOn_1 ml_4_93 ⟨ok_X4_keepCells, vi_X4_keepCells⟩ hs_X4_keepCells (As := []) rfl rfl (gT hG rfl (lt_of rfl)) (Nat.le_of_ble_eq_true rfl) hc3 ?_
  show wp (Ev sc d) 4 cX4_exchangeOn 4 (some .int) false [] sc Q 4 [(0, .ref 26)] [] σ1
  refine w_iconst (v := nZ 0) dX4_exchangeOn_4 (by decide) ?_
  refine w_istore_n (l' := [(1, .int (nZ 0)), (0, .ref 26)]) dX4_exchangeOn_5 rfl (by decide) rfl ?_
  refine w_aload_n dX4_exchangeOn_6 rfl (List.Mem.tail _ (List.Mem.head _)) ?_
  obtain ⟨r9, σ5, hc7, hG6, rr8, h⟩ := h
  refine w_callV dX4_exchangeOn_7 ml_4_137 ⟨ok_X4_bestExchange, vi_X4_bestExchange⟩ hs_X4_bestExchange (As := []) rfl rfl (gT hG2 rfl (lt_of rfl)) (Nat.le_of_ble_eq_true rfl) hc7 ?_
  show wp (Ev sc d) 4 cX4_exchangeOn 4 (some .int) false [] sc Q 10 [(1, .int (nZ 0)), (0, .ref 26)] [.int (nZ r9)] σ5
  refine w_istore_n (l' := [(2, .int (nZ r9)), (1, .int (nZ 0)), (0, .ref 26)]) dX4_exchangeOn_10 rfl (by decide) rfl ?_
  refine w_iconst (v := nZ 0) dX4_exchangeOn_11 (by decide) ?_
  refine w_istore_n (l' := [(3, .int (nZ 0)), (2, .int (nZ r9)), (1, .int (nZ 0)), (0, .ref 26)]) dX4_exchangeOn_12 rfl (by decide) rfl ?_
  exact w_weak (l' := [(0, .ref 26), (1, .int (nZ 0)), (2, .int (nZ r9)), (3, .int (nZ 0))]) (by intro q hq; simp only [List.mem_cons, List.not_mem_nil, or_false] at hq ⊢; rcases hq with rfl | rfl | rfl | rfl <;> simp) h
set_option maxRecDepth 10000 in
theorem v_X4_exchangeOn_13 {C : aM → List Value → aH → aO → aH → Prop} {sc : Nat × (Nat → Int32)} {P : aO → aH → Prop} {σ : aH} {u : Nat}  {x1 : Int} {x2 : Int} {x3 : Int} (hG : G σ u) (rx1 : inR x1) (rx2 : inR x2) (rx3 : inR x3)
    (h : ((100000 ≤ x3 → (∃ σ1 : aH, C mX4_putCellsBack [.ref 26] σ (.inl none) σ1 ∧ G σ1 u ∧ P (.inl (some (.int (nZ x1)))) σ1)) ∧ (¬ (100000 ≤ x3) → ((x2 = (-1) → (∃ σ5 : aH, C mX4_putCellsBack [.ref 26] σ (.inl none) σ5 ∧ G σ5 u ∧ P (.inl (some (.int (nZ x1)))) σ5)) ∧ (¬ (x2 = (-1)) → (∃ σ9 : aH, C mX4_stalls [.ref 26] σ (.inl (some (.ref (u + 1)))) σ9 ∧ G σ9 u ∧ ((0 ≤ x2 ∧ (0 : Int) < 10) ∧ inR (x2 / 10) ∧ ((0 ≤ x2 ∧ (0 : Int) < 10) ∧ inR (x2 % 10) ∧ (∃ σ15 : aH, C mX7_swapCells [.ref (u + 1), .int (nZ (x2 / 10)), .int (nZ (x2 % 10))] σ9 (.inl none) σ15 ∧ G σ15 u ∧ (inR (x1 + 1) ∧ (∃ (r24 : Int) (σ20 : aH), C mX4_bestExchange [.ref 26] σ15 (.inl (some (.int (nZ r24)))) σ20 ∧ G σ20 u ∧ inR r24 ∧ (inR (x3 + 1) ∧ L_X4_exchangeOn_13 C sc P (x1 + 1) r24 (x3 + 1) σ20)))))))))))) :
    L_X4_exchangeOn_13 C sc P x1 x2 x3 σ := by
  unfold L_X4_exchangeOn_13
  refine w_iload_n dX4_exchangeOn_13 rfl (List.Mem.tail _ (List.Mem.tail _ (List.Mem.tail _ (List.Mem.head _)))) ?_
  refine i_ldc (x := 100000) dX4_exchangeOn_14 kc_4_141 (by decide) ?_
  refine i_cmp_ge (tgt := 53) dX4_exchangeOn_16 rfl rx3 (by decide) (fun c9 => ?_) (fun c9 => ?_)
  · replace h := h.1 c9
    refine w_aload_n dX4_exchangeOn_53 rfl (List.Mem.head _) ?_
    obtain ⟨σ1, hc3, hG2, h⟩ := h
    refine w_callV dX4_exchangeOn_54 ml_4_121 ⟨ok_X4_putCellsBack, vi_X4_putCellsBack⟩ hs_X4_putCellsBack (As := []) rfl rfl (gT hG rfl (lt_of rfl)) (Nat.le_of_ble_eq_true rfl) hc3 ?_
    show wp C 4 cX4_exchangeOn 4 (some .int) false [] sc P 57 [(0, .ref 26), (1, .int (nZ x1)), (2, .int (nZ x2)), (3, .int (nZ x3))] [] σ1
    refine w_iload_n dX4_exchangeOn_57 rfl (List.Mem.tail _ (List.Mem.head _)) ?_
    exact w_iret dX4_exchangeOn_58 rfl h
  · replace h := h.2 c9
    refine w_iload_n dX4_exchangeOn_19 rfl (List.Mem.tail _ (List.Mem.tail _ (List.Mem.head _))) ?_
    refine w_iconst (v := nZ (-1)) dX4_exchangeOn_20 (by decide) ?_
    refine i_cmp_eq (tgt := 53) dX4_exchangeOn_21 rfl rx2 (by decide) (fun c9 => ?_) (fun c9 => ?_)
    · replace h := h.1 c9
      refine w_aload_n dX4_exchangeOn_53 rfl (List.Mem.head _) ?_
      obtain ⟨σ5, hc7, hG6, h⟩ := h
      refine w_callV dX4_exchangeOn_54 ml_4_121 ⟨ok_X4_putCellsBack, vi_X4_putCellsBack⟩ hs_X4_putCellsBack (As := []) rfl rfl (gT hG rfl (lt_of rfl)) (Nat.le_of_ble_eq_true rfl) hc7 ?_
      show wp C 4 cX4_exchangeOn 4 (some .int) false [] sc P 57 [(0, .ref 26), (1, .int (nZ x1)), (2, .int (nZ x2)), (3, .int (nZ x3))] [] σ5
      refine w_iload_n dX4_exchangeOn_57 rfl (List.Mem.tail _ (List.Mem.head _)) ?_
      exact w_iret dX4_exchangeOn_58 rfl h
    · replace h := h.2 c9
      refine w_aload_n dX4_exchangeOn_24 rfl (List.Mem.head _) ?_
      obtain ⟨σ9, hc11, hG10, h⟩ := h
      refine w_callV dX4_exchangeOn_25 ml_4_67 ⟨ok_X4_stalls, vi_X4_stalls⟩ hs_X4_stalls (As := []) rfl rfl (gT hG rfl (lt_of rfl)) (Nat.le_of_ble_eq_true rfl) hc11 ?_
      show wp C 4 cX4_exchangeOn 4 (some .int) false [] sc P 28 [(0, .ref 26), (1, .int (nZ x1)), (2, .int (nZ x2)), (3, .int (nZ x3))] [.ref (u + 1)] σ9
      refine w_iload_n dX4_exchangeOn_28 rfl (List.Mem.tail _ (List.Mem.tail _ (List.Mem.head _))) ?_
      refine w_bipush (v := nZ 10) dX4_exchangeOn_29 (by decide) ?_
      obtain ⟨h9, q13, h⟩ := h
      refine i_div dX4_exchangeOn_31 rx2 (by decide) h9 ?_
      refine w_iload_n dX4_exchangeOn_32 rfl (List.Mem.tail _ (List.Mem.tail _ (List.Mem.head _))) ?_
      refine w_bipush (v := nZ 10) dX4_exchangeOn_33 (by decide) ?_
      obtain ⟨h9, q14, h⟩ := h
      refine i_rem dX4_exchangeOn_35 rx2 (by decide) h9 ?_
      obtain ⟨σ15, hc17, hG16, h⟩ := h
      refine w_callV dX4_exchangeOn_36 ml_4_134 ⟨ok_X7_swapCells, vi_X7_swapCells⟩ hs_X7_swapCells (As := [.int (nZ (x2 / 10)), .int (nZ (x2 % 10))]) rfl rfl (gT hG10 (IsMk_t1 hG.2.2.2.2) (IsMk_lt hG.2.2.2.2 (k := 1) (by decide))) (Nat.le_of_ble_eq_true rfl) hc17 ?_
      show wp C 4 cX4_exchangeOn 4 (some .int) false [] sc P 39 [(0, .ref 26), (1, .int (nZ x1)), (2, .int (nZ x2)), (3, .int (nZ x3))] [] σ15
      obtain ⟨q19, h⟩ := h
      refine w_iinc (v := nZ (x1 + 1)) (l' := [(1, .int (nZ (x1 + 1))), (0, .ref 26), (2, .int (nZ x2)), (3, .int (nZ x3))]) dX4_exchangeOn_39 (List.Mem.tail _ (List.Mem.head _)) (nZ_add _ _) (by decide) rfl ?_
      refine w_aload_n dX4_exchangeOn_42 rfl (List.Mem.tail _ (List.Mem.head _)) ?_
      obtain ⟨r24, σ20, hc22, hG21, rr23, h⟩ := h
      refine w_callV dX4_exchangeOn_43 ml_4_137 ⟨ok_X4_bestExchange, vi_X4_bestExchange⟩ hs_X4_bestExchange (As := []) rfl rfl (gT hG16 rfl (lt_of rfl)) (Nat.le_of_ble_eq_true rfl) hc22 ?_
      show wp C 4 cX4_exchangeOn 4 (some .int) false [] sc P 46 [(1, .int (nZ (x1 + 1))), (0, .ref 26), (2, .int (nZ x2)), (3, .int (nZ x3))] [.int (nZ r24)] σ20
      refine w_istore_n (l' := [(2, .int (nZ r24)), (1, .int (nZ (x1 + 1))), (0, .ref 26), (3, .int (nZ x3))]) dX4_exchangeOn_46 rfl (by decide) rfl ?_
      obtain ⟨q25, h⟩ := h
      refine w_iinc (v := nZ (x3 + 1)) (l' := [(3, .int (nZ (x3 + 1))), (2, .int (nZ r24)), (1, .int (nZ (x1 + 1))), (0, .ref 26)]) dX4_exchangeOn_47 (List.Mem.tail _ (List.Mem.tail _ (List.Mem.tail _ (List.Mem.head _)))) (nZ_add _ _) (by decide) rfl ?_
      refine w_goto (tgt := 13) dX4_exchangeOn_50 rfl ?_
      exact w_weak (l' := [(0, .ref 26), (1, .int (nZ (x1 + 1))), (2, .int (nZ r24)), (3, .int (nZ (x3 + 1)))]) (by intro q hq; simp only [List.mem_cons, List.not_mem_nil, or_false] at hq ⊢; rcases hq with rfl | rfl | rfl | rfl <;> simp) h
theorem dX4_placePole_0 : decode cX4_placePole 0 = .ok (.aload_n 0, 1) := by decide +kernel
theorem dX4_placePole_1 : decode cX4_placePole 1 = .ok (.invokevirtual 96, 3) := by decide +kernel
theorem dX4_placePole_4 : decode cX4_placePole 4 = .ok (.aload_n 0, 1) := by decide +kernel
theorem dX4_placePole_5 : decode cX4_placePole 5 = .ok (.getfield 12, 3) := by decide +kernel
theorem dX4_placePole_8 : decode cX4_placePole 8 = .ok (.getfield 57, 3) := by decide +kernel
theorem dX4_placePole_11 : decode cX4_placePole 11 = .ok (.astore_n 2, 1) := by decide +kernel
theorem dX4_placePole_12 : decode cX4_placePole 12 = .ok (.aload_n 0, 1) := by decide +kernel
theorem dX4_placePole_13 : decode cX4_placePole 13 = .ok (.invokevirtual 67, 3) := by decide +kernel
theorem dX4_placePole_16 : decode cX4_placePole 16 = .ok (.astore_n 3, 1) := by decide +kernel
theorem dX4_placePole_17 : decode cX4_placePole 17 = .ok (.aload_n 3, 1) := by decide +kernel
theorem dX4_placePole_18 : decode cX4_placePole 18 = .ok (.getfield 131, 3) := by decide +kernel
theorem dX4_placePole_21 : decode cX4_placePole 21 = .ok (.bipush 8, 2) := by decide +kernel
theorem dX4_placePole_23 : decode cX4_placePole 23 = .ok (.if_icmp .lt 4, 3) := by decide +kernel
theorem dX4_placePole_26 : decode cX4_placePole 26 = .ok (.return_, 1) := by decide +kernel
theorem dX4_placePole_27 : decode cX4_placePole 27 = .ok (.iconst 0, 1) := by decide +kernel
theorem dX4_placePole_28 : decode cX4_placePole 28 = .ok (.istore 4, 2) := by decide +kernel
theorem dX4_placePole_30 : decode cX4_placePole 30 = .ok (.iload 4, 2) := by decide +kernel
theorem dX4_placePole_32 : decode cX4_placePole 32 = .ok (.aload_n 2, 1) := by decide +kernel
theorem dX4_placePole_33 : decode cX4_placePole 33 = .ok (.getfield 99, 3) := by decide +kernel
theorem dX4_placePole_36 : decode cX4_placePole 36 = .ok (.if_icmp .ge 70, 3) := by decide +kernel
theorem dX4_placePole_39 : decode cX4_placePole 39 = .ok (.iconst 0, 1) := by decide +kernel
theorem dX4_placePole_40 : decode cX4_placePole 40 = .ok (.istore 5, 2) := by decide +kernel
theorem dX4_placePole_42 : decode cX4_placePole 42 = .ok (.iload 5, 2) := by decide +kernel
theorem dX4_placePole_44 : decode cX4_placePole 44 = .ok (.aload_n 2, 1) := by decide +kernel
theorem dX4_placePole_45 : decode cX4_placePole 45 = .ok (.getfield 102, 3) := by decide +kernel
theorem dX4_placePole_48 : decode cX4_placePole 48 = .ok (.if_icmp .ge 52, 3) := by decide +kernel
theorem dX4_placePole_51 : decode cX4_placePole 51 = .ok (.aload_n 3, 1) := by decide +kernel
theorem dX4_placePole_52 : decode cX4_placePole 52 = .ok (.iload 5, 2) := by decide +kernel
theorem dX4_placePole_54 : decode cX4_placePole 54 = .ok (.iload 4, 2) := by decide +kernel
theorem dX4_placePole_56 : decode cX4_placePole 56 = .ok (.invokevirtual 105, 3) := by decide +kernel
theorem dX4_placePole_59 : decode cX4_placePole 59 = .ok (.iconst (-1), 1) := by decide +kernel
theorem dX4_placePole_60 : decode cX4_placePole 60 = .ok (.if_icmp .ne 34, 3) := by decide +kernel
theorem dX4_placePole_63 : decode cX4_placePole 63 = .ok (.aload_n 3, 1) := by decide +kernel
theorem dX4_placePole_64 : decode cX4_placePole 64 = .ok (.iload 5, 2) := by decide +kernel
theorem dX4_placePole_66 : decode cX4_placePole 66 = .ok (.iload 4, 2) := by decide +kernel
theorem dX4_placePole_68 : decode cX4_placePole 68 = .ok (.iload_n 1, 1) := by decide +kernel
theorem dX4_placePole_69 : decode cX4_placePole 69 = .ok (.invokevirtual 142, 3) := by decide +kernel
theorem dX4_placePole_72 : decode cX4_placePole 72 = .ok (.aload_n 0, 1) := by decide +kernel
theorem dX4_placePole_73 : decode cX4_placePole 73 = .ok (.iload 5, 2) := by decide +kernel
theorem dX4_placePole_75 : decode cX4_placePole 75 = .ok (.bipush 10, 2) := by decide +kernel
theorem dX4_placePole_77 : decode cX4_placePole 77 = .ok (.iload 4, 2) := by decide +kernel
theorem dX4_placePole_79 : decode cX4_placePole 79 = .ok (.imul, 1) := by decide +kernel
theorem dX4_placePole_80 : decode cX4_placePole 80 = .ok (.iadd, 1) := by decide +kernel
theorem dX4_placePole_81 : decode cX4_placePole 81 = .ok (.invokevirtual 124, 3) := by decide +kernel
theorem dX4_placePole_84 : decode cX4_placePole 84 = .ok (.aload_n 3, 1) := by decide +kernel
theorem dX4_placePole_85 : decode cX4_placePole 85 = .ok (.dup, 1) := by decide +kernel
theorem dX4_placePole_86 : decode cX4_placePole 86 = .ok (.getfield 131, 3) := by decide +kernel
theorem dX4_placePole_89 : decode cX4_placePole 89 = .ok (.iconst 1, 1) := by decide +kernel
theorem dX4_placePole_90 : decode cX4_placePole 90 = .ok (.isub, 1) := by decide +kernel
theorem dX4_placePole_91 : decode cX4_placePole 91 = .ok (.putfield 131, 3) := by decide +kernel
theorem dX4_placePole_94 : decode cX4_placePole 94 = .ok (.iinc 5 1, 3) := by decide +kernel
theorem dX4_placePole_97 : decode cX4_placePole 97 = .ok (.goto (-55), 3) := by decide +kernel
theorem dX4_placePole_100 : decode cX4_placePole 100 = .ok (.iinc 4 1, 3) := by decide +kernel
theorem dX4_placePole_103 : decode cX4_placePole 103 = .ok (.goto (-73), 3) := by decide +kernel
theorem dX4_placePole_106 : decode cX4_placePole 106 = .ok (.return_, 1) := by decide +kernel
def L_X4_placePole_30 (C : aM → List Value → aH → aO → aH → Prop) (sc : Nat × (Nat → Int32)) (P : aO → aH → Prop) (u : Nat) (x1 : Int) (x4 : Int) (σ : aH) : Prop :=
    wp C 4 cX4_placePole 6 none false [] sc P 30 [(0, .ref 26), (1, .int (nZ x1)), (2, .ref u), (3, .ref (u + 1)), (4, .int (nZ x4))] [] σ
def L_X4_placePole_42 (C : aM → List Value → aH → aO → aH → Prop) (sc : Nat × (Nat → Int32)) (P : aO → aH → Prop) (u : Nat) (x1 : Int) (x4 : Int) (x5 : Int) (σ : aH) : Prop :=
    wp C 4 cX4_placePole 6 none false [] sc P 42 [(0, .ref 26), (1, .int (nZ x1)), (2, .ref u), (3, .ref (u + 1)), (4, .int (nZ x4)), (5, .int (nZ x5))] [] σ
set_option maxRecDepth 10000 in
theorem t_X4_placePole {sc : Nat × (Nat → Int32)} {d : Nat} {Q : aO → aH → Prop} {σ : aH} {u : Nat}  {x1 : Int} (hG : G σ u) (rx1 : inR x1)
    (h : (∃ σ1 : aH, Ev sc d mX4_startSearch [.ref 26] σ (.inl none) σ1 ∧ G σ1 u ∧ (∃ σ5 : aH, Ev sc d mX4_stalls [.ref 26] σ1 (.inl (some (.ref (u + 1)))) σ5 ∧ G σ5 u ∧ (((rI σ5 (u + 1) 8) < 8 → L_X4_placePole_30 (Ev sc d) sc Q u x1 0 σ5) ∧ (¬ ((rI σ5 (u + 1) 8) < 8) → Q (.inl none) σ5))))) :
    T sc (d + 1) mX4_placePole [.ref 26, .int (nZ x1)] σ Q := by
  refine T.of (c := 4) (code := cX4_placePole) (mL := 6) (rt := none) (ini := false) (l := [(0, .ref 26), (1, .int (nZ x1))]) rfl rfl rfl rfl (by decide) hs_X4_placePole rfl rfl ?_
  refine w_aload_n dX4_placePole_0 rfl (List.Mem.head _) ?_
  obtain ⟨σ1, hc3, hG2, h⟩ := h
  refine w_callV dX4_placePole_1 ml_4_96 ⟨ok_X4_startSearch, vi_X4_startSearch⟩ hs_X4_startSearch (As := []) rfl rfl (gT hG rfl (lt_of rfl)) (Nat.le_of_ble_eq_true rfl) hc3 ?_
  show wp (Ev sc d) 4 cX4_placePole 6 none false [] sc Q 4 [(0, .ref 26), (1, .int (nZ x1))] [] σ1
  refine w_aload_n dX4_placePole_4 rfl (List.Mem.head _) ?_
  refine w_getR (ci := 4) (k := 0) (b := 27) dX4_placePole_5 fl_4_12 (by decide) (gT hG2 rfl (lt_of rfl)) (gR hG2 (b := 27) rfl) ?_
  refine w_getM (ci := 6) (k := 5) (b := u) dX4_placePole_8 fl_4_57 (by decide) (gT hG2 rfl (lt_of rfl)) hG2.2.2.2.1 ?_
  refine w_astore_n (l' := [(2, .ref u), (0, .ref 26), (1, .int (nZ x1))]) dX4_placePole_11 rfl (by decide) rfl ?_
  refine w_aload_n dX4_placePole_12 rfl (List.Mem.tail _ (List.Mem.head _)) ?_
  obtain ⟨σ5, hc7, hG6, h⟩ := h
  refine w_callV dX4_placePole_13 ml_4_67 ⟨ok_X4_stalls, vi_X4_stalls⟩ hs_X4_stalls (As := []) rfl rfl (gT hG2 rfl (lt_of rfl)) (Nat.le_of_ble_eq_true rfl) hc7 ?_
  show wp (Ev sc d) 4 cX4_placePole 6 none false [] sc Q 16 [(2, .ref u), (0, .ref 26), (1, .int (nZ x1))] [.ref (u + 1)] σ5
  refine w_astore_n (l' := [(3, .ref (u + 1)), (2, .ref u), (0, .ref 26), (1, .int (nZ x1))]) dX4_placePole_16 rfl (by decide) rfl ?_
  refine w_aload_n dX4_placePole_17 rfl (List.Mem.head _) ?_
  refine i_getI (ci := 7) 8 rfl dX4_placePole_18 fl_4_131 (by decide) (gT hG6 (IsMk_t1 hG.2.2.2.2) (IsMk_lt hG.2.2.2.2 (k := 1) (by decide))) ?_
  refine w_bipush (v := nZ 8) dX4_placePole_21 (by decide) ?_
  refine i_cmp_lt (tgt := 27) dX4_placePole_23 rfl (rI_R _ _ _) (by decide) (fun c9 => ?_) (fun c9 => ?_)
  · replace h := h.1 c9
    refine w_iconst (v := nZ 0) dX4_placePole_27 (by decide) ?_
    refine w_istore (l' := [(4, .int (nZ 0)), (3, .ref (u + 1)), (2, .ref u), (0, .ref 26), (1, .int (nZ x1))]) dX4_placePole_28 (by decide) rfl ?_
    exact w_weak (l' := [(0, .ref 26), (1, .int (nZ x1)), (2, .ref u), (3, .ref (u + 1)), (4, .int (nZ 0))]) (by intro q hq; simp only [List.mem_cons, List.not_mem_nil, or_false] at hq ⊢; rcases hq with rfl | rfl | rfl | rfl | rfl <;> simp) h
  · replace h := h.2 c9
    exact w_vret dX4_placePole_26 rfl h
set_option maxRecDepth 10000 in
theorem v_X4_placePole_30 {C : aM → List Value → aH → aO → aH → Prop} {sc : Nat × (Nat → Int32)} {P : aO → aH → Prop} {σ : aH} {u : Nat}  {x1 : Int} {x4 : Int} (hG : G σ u) (rx1 : inR x1) (rx4 : inR x4)
    (h : (((rI σ u 4) ≤ x4 → P (.inl none) σ) ∧ (¬ ((rI σ u 4) ≤ x4) → L_X4_placePole_42 C sc P u x1 x4 0 σ))) :
    L_X4_placePole_30 C sc P u x1 x4 σ := by
  unfold L_X4_placePole_30
  refine w_iload dX4_placePole_30 (List.Mem.tail _ (List.Mem.tail _ (List.Mem.tail _ (List.Mem.tail _ (List.Mem.head _))))) ?_
  refine w_aload_n dX4_placePole_32 rfl (List.Mem.tail _ (List.Mem.tail _ (List.Mem.head _))) ?_
  refine i_getI (ci := 2) 4 rfl dX4_placePole_33 fl_4_99 (by decide) (gT hG (IsMk_t0 hG.2.2.2.2) (IsMk_lt hG.2.2.2.2 (k := 0) (by decide))) ?_
  refine i_cmp_ge (tgt := 106) dX4_placePole_36 rfl rx4 (rI_R _ _ _) (fun c9 => ?_) (fun c9 => ?_)
  · replace h := h.1 c9
    exact w_vret dX4_placePole_106 rfl h
  · replace h := h.2 c9
    refine w_iconst (v := nZ 0) dX4_placePole_39 (by decide) ?_
    refine w_istore (l' := [(5, .int (nZ 0)), (0, .ref 26), (1, .int (nZ x1)), (2, .ref u), (3, .ref (u + 1)), (4, .int (nZ x4))]) dX4_placePole_40 (by decide) rfl ?_
    exact w_weak (l' := [(0, .ref 26), (1, .int (nZ x1)), (2, .ref u), (3, .ref (u + 1)), (4, .int (nZ x4)), (5, .int (nZ 0))]) (by intro q hq; simp only [List.mem_cons, List.not_mem_nil, or_false] at hq ⊢; rcases hq with rfl | rfl | rfl | rfl | rfl | rfl <;> simp) h
set_option maxRecDepth 10000 in
theorem v_X4_placePole_42 {C : aM → List Value → aH → aO → aH → Prop} {sc : Nat × (Nat → Int32)} {P : aO → aH → Prop} {σ : aH} {u : Nat}  {x1 : Int} {x4 : Int} {x5 : Int} (hG : G σ u) (rx1 : inR x1) (rx4 : inR x4) (rx5 : inR x5)
    (h : (((rI σ u 3) ≤ x5 → (inR (x4 + 1) ∧ L_X4_placePole_30 C sc P u x1 (x4 + 1) σ)) ∧ (¬ ((rI σ u 3) ≤ x5) → (∃ (r6 : Int) (σ2 : aH), C mX7_whoIsAt [.ref (u + 1), .int (nZ x5), .int (nZ x4)] σ (.inl (some (.int (nZ r6)))) σ2 ∧ G σ2 u ∧ inR r6 ∧ ((¬ r6 = (-1) → (inR (x5 + 1) ∧ L_X4_placePole_42 C sc P u x1 x4 (x5 + 1) σ2)) ∧ (r6 = (-1) → (∃ σ8 : aH, C mX7_add [.ref (u + 1), .int (nZ x5), .int (nZ x4), .int (nZ x1)] σ2 (.inl none) σ8 ∧ G σ8 u ∧ (inR (10 * x4) ∧ (inR (x5 + (10 * x4)) ∧ (∃ σ14 : aH, C mX4_weighWay [.ref 26, .int (nZ (x5 + (10 * x4)))] σ8 (.inl none) σ14 ∧ G σ14 u ∧ (inR ((rI σ14 (u + 1) 8) - 1) ∧ (∀ σ19 : aH, wI σ14 (u + 1) 8 ((rI σ14 (u + 1) 8) - 1) = σ19 → (inR (x5 + 1) ∧ L_X4_placePole_42 C sc P u x1 x4 (x5 + 1) σ19))))))))))))) :
    L_X4_placePole_42 C sc P u x1 x4 x5 σ := by
  unfold L_X4_placePole_42
  refine w_iload dX4_placePole_42 (List.Mem.tail _ (List.Mem.tail _ (List.Mem.tail _ (List.Mem.tail _ (List.Mem.tail _ (List.Mem.head _)))))) ?_
  refine w_aload_n dX4_placePole_44 rfl (List.Mem.tail _ (List.Mem.tail _ (List.Mem.head _))) ?_
  refine i_getI (ci := 2) 3 rfl dX4_placePole_45 fl_4_102 (by decide) (gT hG (IsMk_t0 hG.2.2.2.2) (IsMk_lt hG.2.2.2.2 (k := 0) (by decide))) ?_
  refine i_cmp_ge (tgt := 100) dX4_placePole_48 rfl rx5 (rI_R _ _ _) (fun c9 => ?_) (fun c9 => ?_)
  · replace h := h.1 c9
    obtain ⟨q1, h⟩ := h
    refine w_iinc (v := nZ (x4 + 1)) (l' := [(4, .int (nZ (x4 + 1))), (0, .ref 26), (1, .int (nZ x1)), (2, .ref u), (3, .ref (u + 1)), (5, .int (nZ x5))]) dX4_placePole_100 (List.Mem.tail _ (List.Mem.tail _ (List.Mem.tail _ (List.Mem.tail _ (List.Mem.head _))))) (nZ_add _ _) (by decide) rfl ?_
    refine w_goto (tgt := 30) dX4_placePole_103 rfl ?_
    exact w_weak (l' := [(0, .ref 26), (1, .int (nZ x1)), (2, .ref u), (3, .ref (u + 1)), (4, .int (nZ (x4 + 1)))]) (by intro q hq; simp only [List.mem_cons, List.not_mem_nil, or_false] at hq ⊢; rcases hq with rfl | rfl | rfl | rfl | rfl <;> simp) h
  · replace h := h.2 c9
    refine w_aload_n dX4_placePole_51 rfl (List.Mem.tail _ (List.Mem.tail _ (List.Mem.tail _ (List.Mem.head _)))) ?_
    refine w_iload dX4_placePole_52 (List.Mem.tail _ (List.Mem.tail _ (List.Mem.tail _ (List.Mem.tail _ (List.Mem.tail _ (List.Mem.head _)))))) ?_
    refine w_iload dX4_placePole_54 (List.Mem.tail _ (List.Mem.tail _ (List.Mem.tail _ (List.Mem.tail _ (List.Mem.head _))))) ?_
    obtain ⟨r6, σ2, hc4, hG3, rr5, h⟩ := h
    refine w_callV dX4_placePole_56 ml_4_105 ⟨ok_X7_whoIsAt, vi_X7_whoIsAt⟩ hs_X7_whoIsAt (As := [.int (nZ x5), .int (nZ x4)]) rfl rfl (gT hG (IsMk_t1 hG.2.2.2.2) (IsMk_lt hG.2.2.2.2 (k := 1) (by decide))) (Nat.le_of_ble_eq_true rfl) hc4 ?_
    show wp C 4 cX4_placePole 6 none false [] sc P 59 [(0, .ref 26), (1, .int (nZ x1)), (2, .ref u), (3, .ref (u + 1)), (4, .int (nZ x4)), (5, .int (nZ x5))] [.int (nZ r6)] σ2
    refine w_iconst (v := nZ (-1)) dX4_placePole_59 (by decide) ?_
    refine i_cmp_ne (tgt := 94) dX4_placePole_60 rfl rr5 (by decide) (fun c9 => ?_) (fun c9 => ?_)
    · replace h := h.1 c9
      obtain ⟨q7, h⟩ := h
      refine w_iinc (v := nZ (x5 + 1)) (l' := [(5, .int (nZ (x5 + 1))), (0, .ref 26), (1, .int (nZ x1)), (2, .ref u), (3, .ref (u + 1)), (4, .int (nZ x4))]) dX4_placePole_94 (List.Mem.tail _ (List.Mem.tail _ (List.Mem.tail _ (List.Mem.tail _ (List.Mem.tail _ (List.Mem.head _)))))) (nZ_add _ _) (by decide) rfl ?_
      refine w_goto (tgt := 42) dX4_placePole_97 rfl ?_
      exact w_weak (l' := [(0, .ref 26), (1, .int (nZ x1)), (2, .ref u), (3, .ref (u + 1)), (4, .int (nZ x4)), (5, .int (nZ (x5 + 1)))]) (by intro q hq; simp only [List.mem_cons, List.not_mem_nil, or_false] at hq ⊢; rcases hq with rfl | rfl | rfl | rfl | rfl | rfl <;> simp) h
    · replace h := h.2 c9
      refine w_aload_n dX4_placePole_63 rfl (List.Mem.tail _ (List.Mem.tail _ (List.Mem.tail _ (List.Mem.head _)))) ?_
      refine w_iload dX4_placePole_64 (List.Mem.tail _ (List.Mem.tail _ (List.Mem.tail _ (List.Mem.tail _ (List.Mem.tail _ (List.Mem.head _)))))) ?_
      refine w_iload dX4_placePole_66 (List.Mem.tail _ (List.Mem.tail _ (List.Mem.tail _ (List.Mem.tail _ (List.Mem.head _))))) ?_
      refine w_iload_n dX4_placePole_68 rfl (List.Mem.tail _ (List.Mem.head _)) ?_
      obtain ⟨σ8, hc10, hG9, h⟩ := h
      refine w_callV dX4_placePole_69 ml_4_142 ⟨ok_X7_add, vi_X7_add⟩ hs_X7_add (As := [.int (nZ x5), .int (nZ x4), .int (nZ x1)]) rfl rfl (gT hG3 (IsMk_t1 hG.2.2.2.2) (IsMk_lt hG.2.2.2.2 (k := 1) (by decide))) (Nat.le_of_ble_eq_true rfl) hc10 ?_
      show wp C 4 cX4_placePole 6 none false [] sc P 72 [(0, .ref 26), (1, .int (nZ x1)), (2, .ref u), (3, .ref (u + 1)), (4, .int (nZ x4)), (5, .int (nZ x5))] [] σ8
      refine w_aload_n dX4_placePole_72 rfl (List.Mem.head _) ?_
      refine w_iload dX4_placePole_73 (List.Mem.tail _ (List.Mem.tail _ (List.Mem.tail _ (List.Mem.tail _ (List.Mem.tail _ (List.Mem.head _)))))) ?_
      refine w_bipush (v := nZ 10) dX4_placePole_75 (by decide) ?_
      refine w_iload dX4_placePole_77 (List.Mem.tail _ (List.Mem.tail _ (List.Mem.tail _ (List.Mem.tail _ (List.Mem.head _))))) ?_
      obtain ⟨q12, h⟩ := h
      refine i_mul dX4_placePole_79 ?_
      obtain ⟨q13, h⟩ := h
      refine i_add dX4_placePole_80 ?_
      obtain ⟨σ14, hc16, hG15, h⟩ := h
      refine w_callV dX4_placePole_81 ml_4_124 ⟨ok_X4_weighWay, vi_X4_weighWay⟩ hs_X4_weighWay (As := [.int (nZ (x5 + (10 * x4)))]) rfl rfl (gT hG9 rfl (lt_of rfl)) (Nat.le_of_ble_eq_true rfl) hc16 ?_
      show wp C 4 cX4_placePole 6 none false [] sc P 84 [(0, .ref 26), (1, .int (nZ x1)), (2, .ref u), (3, .ref (u + 1)), (4, .int (nZ x4)), (5, .int (nZ x5))] [] σ14
      refine w_aload_n dX4_placePole_84 rfl (List.Mem.tail _ (List.Mem.tail _ (List.Mem.tail _ (List.Mem.head _)))) ?_
      refine w_dup dX4_placePole_85 rfl ?_
      refine i_getI (ci := 7) 8 rfl dX4_placePole_86 fl_4_131 (by decide) (gT hG15 (IsMk_t1 hG.2.2.2.2) (IsMk_lt hG.2.2.2.2 (k := 1) (by decide))) ?_
      refine w_iconst (v := nZ 1) dX4_placePole_89 (by decide) ?_
      obtain ⟨q18, h⟩ := h
      refine i_sub dX4_placePole_90 ?_
      refine i_putI (ci := 7) 8 rfl dX4_placePole_91 fl_4_131 (by decide) (gT hG15 (IsMk_t1 hG.2.2.2.2) (IsMk_lt hG.2.2.2.2 (k := 1) (by decide))) (fun σ19 eσ20 => ?_)
      replace h := h σ19 eσ20
      have hG21 : G σ19 u := eσ20 ▸ G.wI hG15
      obtain ⟨q22, h⟩ := h
      refine w_iinc (v := nZ (x5 + 1)) (l' := [(5, .int (nZ (x5 + 1))), (0, .ref 26), (1, .int (nZ x1)), (2, .ref u), (3, .ref (u + 1)), (4, .int (nZ x4))]) dX4_placePole_94 (List.Mem.tail _ (List.Mem.tail _ (List.Mem.tail _ (List.Mem.tail _ (List.Mem.tail _ (List.Mem.head _)))))) (nZ_add _ _) (by decide) rfl ?_
      refine w_goto (tgt := 42) dX4_placePole_97 rfl ?_
      exact w_weak (l' := [(0, .ref 26), (1, .int (nZ x1)), (2, .ref u), (3, .ref (u + 1)), (4, .int (nZ x4)), (5, .int (nZ (x5 + 1)))]) (by intro q hq; simp only [List.mem_cons, List.not_mem_nil, or_false] at hq ⊢; rcases hq with rfl | rfl | rfl | rfl | rfl | rfl <;> simp) h
theorem dX4_wishOf_0 : decode cX4_wishOf 0 = .ok (.aload_n 0, 1) := by decide +kernel
theorem dX4_wishOf_1 : decode cX4_wishOf 1 = .ok (.invokevirtual 67, 3) := by decide +kernel
theorem dX4_wishOf_4 : decode cX4_wishOf 4 = .ok (.astore_n 2, 1) := by decide +kernel
theorem dX4_wishOf_5 : decode cX4_wishOf 5 = .ok (.aload_n 2, 1) := by decide +kernel
theorem dX4_wishOf_6 : decode cX4_wishOf 6 = .ok (.getfield 145, 3) := by decide +kernel
theorem dX4_wishOf_9 : decode cX4_wishOf 9 = .ok (.iload_n 1, 1) := by decide +kernel
theorem dX4_wishOf_10 : decode cX4_wishOf 10 = .ok (.iaload, 1) := by decide +kernel
theorem dX4_wishOf_11 : decode cX4_wishOf 11 = .ok (.istore_n 3, 1) := by decide +kernel
theorem dX4_wishOf_12 : decode cX4_wishOf 12 = .ok (.aload_n 2, 1) := by decide +kernel
theorem dX4_wishOf_13 : decode cX4_wishOf 13 = .ok (.getfield 148, 3) := by decide +kernel
theorem dX4_wishOf_16 : decode cX4_wishOf 16 = .ok (.iload_n 1, 1) := by decide +kernel
theorem dX4_wishOf_17 : decode cX4_wishOf 17 = .ok (.iaload, 1) := by decide +kernel
theorem dX4_wishOf_18 : decode cX4_wishOf 18 = .ok (.ifCond .ne 7, 3) := by decide +kernel
theorem dX4_wishOf_21 : decode cX4_wishOf 21 = .ok (.iload_n 3, 1) := by decide +kernel
theorem dX4_wishOf_22 : decode cX4_wishOf 22 = .ok (.goto 9, 3) := by decide +kernel
theorem dX4_wishOf_25 : decode cX4_wishOf 25 = .ok (.aload_n 2, 1) := by decide +kernel
theorem dX4_wishOf_26 : decode cX4_wishOf 26 = .ok (.getfield 148, 3) := by decide +kernel
theorem dX4_wishOf_29 : decode cX4_wishOf 29 = .ok (.iload_n 1, 1) := by decide +kernel
theorem dX4_wishOf_30 : decode cX4_wishOf 30 = .ok (.iaload, 1) := by decide +kernel
theorem dX4_wishOf_31 : decode cX4_wishOf 31 = .ok (.istore 4, 2) := by decide +kernel
theorem dX4_wishOf_33 : decode cX4_wishOf 33 = .ok (.iconst 0, 1) := by decide +kernel
theorem dX4_wishOf_34 : decode cX4_wishOf 34 = .ok (.istore 5, 2) := by decide +kernel
theorem dX4_wishOf_36 : decode cX4_wishOf 36 = .ok (.iconst 0, 1) := by decide +kernel
theorem dX4_wishOf_37 : decode cX4_wishOf 37 = .ok (.istore 6, 2) := by decide +kernel
theorem dX4_wishOf_39 : decode cX4_wishOf 39 = .ok (.iconst 0, 1) := by decide +kernel
theorem dX4_wishOf_40 : decode cX4_wishOf 40 = .ok (.istore 7, 2) := by decide +kernel
theorem dX4_wishOf_42 : decode cX4_wishOf 42 = .ok (.iload 7, 2) := by decide +kernel
theorem dX4_wishOf_44 : decode cX4_wishOf 44 = .ok (.iload 4, 2) := by decide +kernel
theorem dX4_wishOf_46 : decode cX4_wishOf 46 = .ok (.if_icmp .gt 57, 3) := by decide +kernel
theorem dX4_wishOf_49 : decode cX4_wishOf 49 = .ok (.aload_n 2, 1) := by decide +kernel
theorem dX4_wishOf_50 : decode cX4_wishOf 50 = .ok (.getfield 145, 3) := by decide +kernel
theorem dX4_wishOf_53 : decode cX4_wishOf 53 = .ok (.iload_n 1, 1) := by decide +kernel
theorem dX4_wishOf_54 : decode cX4_wishOf 54 = .ok (.iload 7, 2) := by decide +kernel
theorem dX4_wishOf_56 : decode cX4_wishOf 56 = .ok (.iastore, 1) := by decide +kernel
theorem dX4_wishOf_57 : decode cX4_wishOf 57 = .ok (.aload_n 0, 1) := by decide +kernel
theorem dX4_wishOf_58 : decode cX4_wishOf 58 = .ok (.getfield 12, 3) := by decide +kernel
theorem dX4_wishOf_61 : decode cX4_wishOf 61 = .ok (.aload_n 0, 1) := by decide +kernel
theorem dX4_wishOf_62 : decode cX4_wishOf 62 = .ok (.getfield 12, 3) := by decide +kernel
theorem dX4_wishOf_65 : decode cX4_wishOf 65 = .ok (.getfield 85, 3) := by decide +kernel
theorem dX4_wishOf_68 : decode cX4_wishOf 68 = .ok (.iload_n 1, 1) := by decide +kernel
theorem dX4_wishOf_69 : decode cX4_wishOf 69 = .ok (.invokevirtual 151, 3) := by decide +kernel
theorem dX4_wishOf_72 : decode cX4_wishOf 72 = .ok (.iload 7, 2) := by decide +kernel
theorem dX4_wishOf_74 : decode cX4_wishOf 74 = .ok (.iadd, 1) := by decide +kernel
theorem dX4_wishOf_75 : decode cX4_wishOf 75 = .ok (.istore 8, 2) := by decide +kernel
theorem dX4_wishOf_77 : decode cX4_wishOf 77 = .ok (.iload 7, 2) := by decide +kernel
theorem dX4_wishOf_79 : decode cX4_wishOf 79 = .ok (.ifCond .eq 10, 3) := by decide +kernel
theorem dX4_wishOf_82 : decode cX4_wishOf 82 = .ok (.iload 8, 2) := by decide +kernel
theorem dX4_wishOf_84 : decode cX4_wishOf 84 = .ok (.iload 6, 2) := by decide +kernel
theorem dX4_wishOf_86 : decode cX4_wishOf 86 = .ok (.if_icmp .le 11, 3) := by decide +kernel
theorem dX4_wishOf_89 : decode cX4_wishOf 89 = .ok (.iload 8, 2) := by decide +kernel
theorem dX4_wishOf_91 : decode cX4_wishOf 91 = .ok (.istore 6, 2) := by decide +kernel
theorem dX4_wishOf_93 : decode cX4_wishOf 93 = .ok (.iload 7, 2) := by decide +kernel
theorem dX4_wishOf_95 : decode cX4_wishOf 95 = .ok (.istore 5, 2) := by decide +kernel
theorem dX4_wishOf_97 : decode cX4_wishOf 97 = .ok (.iinc 7 1, 3) := by decide +kernel
theorem dX4_wishOf_100 : decode cX4_wishOf 100 = .ok (.goto (-58), 3) := by decide +kernel
theorem dX4_wishOf_103 : decode cX4_wishOf 103 = .ok (.aload_n 2, 1) := by decide +kernel
theorem dX4_wishOf_104 : decode cX4_wishOf 104 = .ok (.getfield 145, 3) := by decide +kernel
theorem dX4_wishOf_107 : decode cX4_wishOf 107 = .ok (.iload_n 1, 1) := by decide +kernel
theorem dX4_wishOf_108 : decode cX4_wishOf 108 = .ok (.iload_n 3, 1) := by decide +kernel
theorem dX4_wishOf_109 : decode cX4_wishOf 109 = .ok (.iastore, 1) := by decide +kernel
theorem dX4_wishOf_110 : decode cX4_wishOf 110 = .ok (.iload 5, 2) := by decide +kernel
theorem dX4_wishOf_112 : decode cX4_wishOf 112 = .ok (.ireturn, 1) := by decide +kernel
def L_X4_wishOf_42 (C : aM → List Value → aH → aO → aH → Prop) (sc : Nat × (Nat → Int32)) (P : aO → aH → Prop) (u : Nat) (x1 : Int) (x3 : Int) (x4 : Int) (x5 : Int) (x6 : Int) (x7 : Int) (σ : aH) : Prop :=
    wp C 4 cX4_wishOf 9 (some .int) false [] sc P 42 [(0, .ref 26), (1, .int (nZ x1)), (2, .ref (u + 1)), (3, .int (nZ x3)), (4, .int (nZ x4)), (5, .int (nZ x5)), (6, .int (nZ x6)), (7, .int (nZ x7))] [] σ
set_option maxRecDepth 10000 in
theorem t_X4_wishOf {sc : Nat × (Nat → Int32)} {d : Nat} {Q : aO → aH → Prop} {σ : aH} {u : Nat}  {x1 : Int} (hG : G σ u) (rx1 : inR x1)
    (h : (∃ σ1 : aH, Ev sc d mX4_stalls [.ref 26] σ (.inl (some (.ref (u + 1)))) σ1 ∧ G σ1 u ∧ ((0 ≤ x1 ∧ x1 < 9) ∧ (∀ z5 : Int, z5 = (rI σ1 (u + 4) x1) → ((0 ≤ x1 ∧ x1 < 9) ∧ ((¬ (rI σ1 (u + 7) x1) = 0 → ((0 ≤ x1 ∧ x1 < 9) ∧ (∀ z8 : Int, z8 = (rI σ1 (u + 7) x1) → L_X4_wishOf_42 (Ev sc d) sc Q u x1 z5 z8 0 0 0 σ1))) ∧ ((rI σ1 (u + 7) x1) = 0 → L_X4_wishOf_42 (Ev sc d) sc Q u x1 z5 z5 0 0 0 σ1))))))) :
    T sc (d + 1) mX4_wishOf [.ref 26, .int (nZ x1)] σ Q := by
  refine T.of (c := 4) (code := cX4_wishOf) (mL := 9) (rt := (some .int)) (ini := false) (l := [(0, .ref 26), (1, .int (nZ x1))]) rfl rfl rfl rfl (by decide) hs_X4_wishOf rfl rfl ?_
  refine w_aload_n dX4_wishOf_0 rfl (List.Mem.head _) ?_
  obtain ⟨σ1, hc3, hG2, h⟩ := h
  refine w_callV dX4_wishOf_1 ml_4_67 ⟨ok_X4_stalls, vi_X4_stalls⟩ hs_X4_stalls (As := []) rfl rfl (gT hG rfl (lt_of rfl)) (Nat.le_of_ble_eq_true rfl) hc3 ?_
  show wp (Ev sc d) 4 cX4_wishOf 9 (some .int) false [] sc Q 4 [(0, .ref 26), (1, .int (nZ x1))] [.ref (u + 1)] σ1
  refine w_astore_n (l' := [(2, .ref (u + 1)), (0, .ref 26), (1, .int (nZ x1))]) dX4_wishOf_4 rfl (by decide) rfl ?_
  refine w_aload_n dX4_wishOf_5 rfl (List.Mem.head _) ?_
  refine w_getR (ci := 7) (k := 2) (b := (u + 4)) dX4_wishOf_6 fl_4_145 (by decide) (gT hG2 (IsMk_t1 hG.2.2.2.2) (IsMk_lt hG.2.2.2.2 (k := 1) (by decide))) (gR hG2 (IsMk_r1_2 hG.2.2.2.2)) ?_
  refine w_iload_n dX4_wishOf_9 rfl (List.Mem.tail _ (List.Mem.tail _ (List.Mem.head _))) ?_
  obtain ⟨h9, h⟩ := h
  refine i_iald (n := 9) dX4_wishOf_10 (gT hG2 (IsMk_t4 hG.2.2.2.2) (IsMk_lt hG.2.2.2.2 (k := 4) (by decide))) (gL hG2 (IsMk_n4 hG.2.2.2.2)) rx1 h9 ?_
  refine top_i (fun z5 ez6 => ?_)
  have rz7 : inR z5 := ez6 ▸ (rI_R _ _ _)
  replace h := h z5 ez6
  refine w_istore_n (l' := [(3, .int (nZ z5)), (2, .ref (u + 1)), (0, .ref 26), (1, .int (nZ x1))]) dX4_wishOf_11 rfl (by decide) rfl ?_
  refine w_aload_n dX4_wishOf_12 rfl (List.Mem.tail _ (List.Mem.head _)) ?_
  refine w_getR (ci := 7) (k := 5) (b := (u + 7)) dX4_wishOf_13 fl_4_148 (by decide) (gT hG2 (IsMk_t1 hG.2.2.2.2) (IsMk_lt hG.2.2.2.2 (k := 1) (by decide))) (gR hG2 (IsMk_r1_5 hG.2.2.2.2)) ?_
  refine w_iload_n dX4_wishOf_16 rfl (List.Mem.tail _ (List.Mem.tail _ (List.Mem.tail _ (List.Mem.head _)))) ?_
  obtain ⟨h9, h⟩ := h
  refine i_iald (n := 9) dX4_wishOf_17 (gT hG2 (IsMk_t7 hG.2.2.2.2) (IsMk_lt hG.2.2.2.2 (k := 7) (by decide))) (gL hG2 (IsMk_n7 hG.2.2.2.2)) rx1 h9 ?_
  refine i_if_ne (tgt := 25) dX4_wishOf_18 rfl (rI_R _ _ _) (fun c9 => ?_) (fun c9 => ?_)
  · replace h := h.1 c9
    refine w_aload_n dX4_wishOf_25 rfl (List.Mem.tail _ (List.Mem.head _)) ?_
    refine w_getR (ci := 7) (k := 5) (b := (u + 7)) dX4_wishOf_26 fl_4_148 (by decide) (gT hG2 (IsMk_t1 hG.2.2.2.2) (IsMk_lt hG.2.2.2.2 (k := 1) (by decide))) (gR hG2 (IsMk_r1_5 hG.2.2.2.2)) ?_
    refine w_iload_n dX4_wishOf_29 rfl (List.Mem.tail _ (List.Mem.tail _ (List.Mem.tail _ (List.Mem.head _)))) ?_
    obtain ⟨h9, h⟩ := h
    refine i_iald (n := 9) dX4_wishOf_30 (gT hG2 (IsMk_t7 hG.2.2.2.2) (IsMk_lt hG.2.2.2.2 (k := 7) (by decide))) (gL hG2 (IsMk_n7 hG.2.2.2.2)) rx1 h9 ?_
    refine top_i (fun z8 ez9 => ?_)
    have rz10 : inR z8 := ez9 ▸ (rI_R _ _ _)
    replace h := h z8 ez9
    refine w_istore (l' := [(4, .int (nZ z8)), (3, .int (nZ z5)), (2, .ref (u + 1)), (0, .ref 26), (1, .int (nZ x1))]) dX4_wishOf_31 (by decide) rfl ?_
    refine w_iconst (v := nZ 0) dX4_wishOf_33 (by decide) ?_
    refine w_istore (l' := [(5, .int (nZ 0)), (4, .int (nZ z8)), (3, .int (nZ z5)), (2, .ref (u + 1)), (0, .ref 26), (1, .int (nZ x1))]) dX4_wishOf_34 (by decide) rfl ?_
    refine w_iconst (v := nZ 0) dX4_wishOf_36 (by decide) ?_
    refine w_istore (l' := [(6, .int (nZ 0)), (5, .int (nZ 0)), (4, .int (nZ z8)), (3, .int (nZ z5)), (2, .ref (u + 1)), (0, .ref 26), (1, .int (nZ x1))]) dX4_wishOf_37 (by decide) rfl ?_
    refine w_iconst (v := nZ 0) dX4_wishOf_39 (by decide) ?_
    refine w_istore (l' := [(7, .int (nZ 0)), (6, .int (nZ 0)), (5, .int (nZ 0)), (4, .int (nZ z8)), (3, .int (nZ z5)), (2, .ref (u + 1)), (0, .ref 26), (1, .int (nZ x1))]) dX4_wishOf_40 (by decide) rfl ?_
    exact w_weak (l' := [(0, .ref 26), (1, .int (nZ x1)), (2, .ref (u + 1)), (3, .int (nZ z5)), (4, .int (nZ z8)), (5, .int (nZ 0)), (6, .int (nZ 0)), (7, .int (nZ 0))]) (by intro q hq; simp only [List.mem_cons, List.not_mem_nil, or_false] at hq ⊢; rcases hq with rfl | rfl | rfl | rfl | rfl | rfl | rfl | rfl <;> simp) h
  · replace h := h.2 c9
    refine w_iload_n dX4_wishOf_21 rfl (List.Mem.head _) ?_
    refine w_goto (tgt := 31) dX4_wishOf_22 rfl ?_
    refine w_istore (l' := [(4, .int (nZ z5)), (3, .int (nZ z5)), (2, .ref (u + 1)), (0, .ref 26), (1, .int (nZ x1))]) dX4_wishOf_31 (by decide) rfl ?_
    refine w_iconst (v := nZ 0) dX4_wishOf_33 (by decide) ?_
    refine w_istore (l' := [(5, .int (nZ 0)), (4, .int (nZ z5)), (3, .int (nZ z5)), (2, .ref (u + 1)), (0, .ref 26), (1, .int (nZ x1))]) dX4_wishOf_34 (by decide) rfl ?_
    refine w_iconst (v := nZ 0) dX4_wishOf_36 (by decide) ?_
    refine w_istore (l' := [(6, .int (nZ 0)), (5, .int (nZ 0)), (4, .int (nZ z5)), (3, .int (nZ z5)), (2, .ref (u + 1)), (0, .ref 26), (1, .int (nZ x1))]) dX4_wishOf_37 (by decide) rfl ?_
    refine w_iconst (v := nZ 0) dX4_wishOf_39 (by decide) ?_
    refine w_istore (l' := [(7, .int (nZ 0)), (6, .int (nZ 0)), (5, .int (nZ 0)), (4, .int (nZ z5)), (3, .int (nZ z5)), (2, .ref (u + 1)), (0, .ref 26), (1, .int (nZ x1))]) dX4_wishOf_40 (by decide) rfl ?_
    exact w_weak (l' := [(0, .ref 26), (1, .int (nZ x1)), (2, .ref (u + 1)), (3, .int (nZ z5)), (4, .int (nZ z5)), (5, .int (nZ 0)), (6, .int (nZ 0)), (7, .int (nZ 0))]) (by intro q hq; simp only [List.mem_cons, List.not_mem_nil, or_false] at hq ⊢; rcases hq with rfl | rfl | rfl | rfl | rfl | rfl | rfl | rfl <;> simp) h
set_option maxRecDepth 10000 in
theorem v_X4_wishOf_42 {C : aM → List Value → aH → aO → aH → Prop} {sc : Nat × (Nat → Int32)} {P : aO → aH → Prop} {σ : aH} {u : Nat}  {x1 : Int} {x3 : Int} {x4 : Int} {x5 : Int} {x6 : Int} {x7 : Int} (hG : G σ u) (rx1 : inR x1) (rx3 : inR x3) (rx4 : inR x4) (rx5 : inR x5) (rx6 : inR x6) (rx7 : inR x7)
    (h : ((x4 < x7 → ((0 ≤ x1 ∧ x1 < 9) ∧ (∀ σ1 : aH, wI σ (u + 4) x1 x3 = σ1 → P (.inl (some (.int (nZ x5)))) σ1))) ∧ (¬ (x4 < x7) → ((0 ≤ x1 ∧ x1 < 9) ∧ (∀ σ4 : aH, wI σ (u + 4) x1 x7 = σ4 → (∃ (r11 : Int) (σ7 : aH), C mX6_gain [.ref 27, .ref 28, .int (nZ x1)] σ4 (.inl (some (.int (nZ r11)))) σ7 ∧ G σ7 u ∧ inR r11 ∧ (inR (r11 + x7) ∧ (∀ z13 : Int, z13 = (r11 + x7) → ((x7 = 0 → (inR (x7 + 1) ∧ L_X4_wishOf_42 C sc P u x1 x3 x4 x7 z13 (x7 + 1) σ7)) ∧ (¬ (x7 = 0) → ((z13 ≤ x6 → (inR (x7 + 1) ∧ L_X4_wishOf_42 C sc P u x1 x3 x4 x5 x6 (x7 + 1) σ7)) ∧ (¬ (z13 ≤ x6) → (inR (x7 + 1) ∧ L_X4_wishOf_42 C sc P u x1 x3 x4 x7 z13 (x7 + 1) σ7))))))))))))) :
    L_X4_wishOf_42 C sc P u x1 x3 x4 x5 x6 x7 σ := by
  unfold L_X4_wishOf_42
  refine w_iload dX4_wishOf_42 (List.Mem.tail _ (List.Mem.tail _ (List.Mem.tail _ (List.Mem.tail _ (List.Mem.tail _ (List.Mem.tail _ (List.Mem.tail _ (List.Mem.head _)))))))) ?_
  refine w_iload dX4_wishOf_44 (List.Mem.tail _ (List.Mem.tail _ (List.Mem.tail _ (List.Mem.tail _ (List.Mem.head _))))) ?_
  refine i_cmp_gt (tgt := 103) dX4_wishOf_46 rfl rx7 rx4 (fun c9 => ?_) (fun c9 => ?_)
  · replace h := h.1 c9
    refine w_aload_n dX4_wishOf_103 rfl (List.Mem.tail _ (List.Mem.tail _ (List.Mem.head _))) ?_
    refine w_getR (ci := 7) (k := 2) (b := (u + 4)) dX4_wishOf_104 fl_4_145 (by decide) (gT hG (IsMk_t1 hG.2.2.2.2) (IsMk_lt hG.2.2.2.2 (k := 1) (by decide))) (gR hG (IsMk_r1_2 hG.2.2.2.2)) ?_
    refine w_iload_n dX4_wishOf_107 rfl (List.Mem.tail _ (List.Mem.head _)) ?_
    refine w_iload_n dX4_wishOf_108 rfl (List.Mem.tail _ (List.Mem.tail _ (List.Mem.tail _ (List.Mem.head _)))) ?_
    obtain ⟨h9, h⟩ := h
    refine i_iast (n := 9) dX4_wishOf_109 (gT hG (IsMk_t4 hG.2.2.2.2) (IsMk_lt hG.2.2.2.2 (k := 4) (by decide))) (gL hG (IsMk_n4 hG.2.2.2.2)) rx1 h9 (fun σ1 eσ2 => ?_)
    replace h := h σ1 eσ2
    have hG3 : G σ1 u := eσ2 ▸ G.wI hG
    refine w_iload dX4_wishOf_110 (List.Mem.tail _ (List.Mem.tail _ (List.Mem.tail _ (List.Mem.tail _ (List.Mem.tail _ (List.Mem.head _)))))) ?_
    exact w_iret dX4_wishOf_112 rfl h
  · replace h := h.2 c9
    refine w_aload_n dX4_wishOf_49 rfl (List.Mem.tail _ (List.Mem.tail _ (List.Mem.head _))) ?_
    refine w_getR (ci := 7) (k := 2) (b := (u + 4)) dX4_wishOf_50 fl_4_145 (by decide) (gT hG (IsMk_t1 hG.2.2.2.2) (IsMk_lt hG.2.2.2.2 (k := 1) (by decide))) (gR hG (IsMk_r1_2 hG.2.2.2.2)) ?_
    refine w_iload_n dX4_wishOf_53 rfl (List.Mem.tail _ (List.Mem.head _)) ?_
    refine w_iload dX4_wishOf_54 (List.Mem.tail _ (List.Mem.tail _ (List.Mem.tail _ (List.Mem.tail _ (List.Mem.tail _ (List.Mem.tail _ (List.Mem.tail _ (List.Mem.head _)))))))) ?_
    obtain ⟨h9, h⟩ := h
    refine i_iast (n := 9) dX4_wishOf_56 (gT hG (IsMk_t4 hG.2.2.2.2) (IsMk_lt hG.2.2.2.2 (k := 4) (by decide))) (gL hG (IsMk_n4 hG.2.2.2.2)) rx1 h9 (fun σ4 eσ5 => ?_)
    replace h := h σ4 eσ5
    have hG6 : G σ4 u := eσ5 ▸ G.wI hG
    refine w_aload_n dX4_wishOf_57 rfl (List.Mem.head _) ?_
    refine w_getR (ci := 4) (k := 0) (b := 27) dX4_wishOf_58 fl_4_12 (by decide) (gT hG6 rfl (lt_of rfl)) (gR hG6 (b := 27) rfl) ?_
    refine w_aload_n dX4_wishOf_61 rfl (List.Mem.head _) ?_
    refine w_getR (ci := 4) (k := 0) (b := 27) dX4_wishOf_62 fl_4_12 (by decide) (gT hG6 rfl (lt_of rfl)) (gR hG6 (b := 27) rfl) ?_
    refine w_getR (ci := 6) (k := 0) (b := 28) dX4_wishOf_65 fl_4_85 (by decide) (gT hG6 rfl (lt_of rfl)) (gR hG6 (b := 28) rfl) ?_
    refine w_iload_n dX4_wishOf_68 rfl (List.Mem.tail _ (List.Mem.head _)) ?_
    obtain ⟨r11, σ7, hc9, hG8, rr10, h⟩ := h
    refine w_callV dX4_wishOf_69 ml_4_151 ⟨ok_X6_gain, vi_X6_gain⟩ hs_X6_gain (As := [.ref 28, .int (nZ x1)]) rfl rfl (gT hG6 rfl (lt_of rfl)) (Nat.le_of_ble_eq_true rfl) hc9 ?_
    show wp C 4 cX4_wishOf 9 (some .int) false [] sc P 72 [(0, .ref 26), (1, .int (nZ x1)), (2, .ref (u + 1)), (3, .int (nZ x3)), (4, .int (nZ x4)), (5, .int (nZ x5)), (6, .int (nZ x6)), (7, .int (nZ x7))] [.int (nZ r11)] σ7
    refine w_iload dX4_wishOf_72 (List.Mem.tail _ (List.Mem.tail _ (List.Mem.tail _ (List.Mem.tail _ (List.Mem.tail _ (List.Mem.tail _ (List.Mem.tail _ (List.Mem.head _)))))))) ?_
    obtain ⟨q12, h⟩ := h
    refine i_add dX4_wishOf_74 ?_
    refine top_i (fun z13 ez14 => ?_)
    have rz15 : inR z13 := ez14 ▸ q12
    replace h := h z13 ez14
    refine w_istore (l' := [(8, .int (nZ z13)), (0, .ref 26), (1, .int (nZ x1)), (2, .ref (u + 1)), (3, .int (nZ x3)), (4, .int (nZ x4)), (5, .int (nZ x5)), (6, .int (nZ x6)), (7, .int (nZ x7))]) dX4_wishOf_75 (by decide) rfl ?_
    refine w_iload dX4_wishOf_77 (List.Mem.tail _ (List.Mem.tail _ (List.Mem.tail _ (List.Mem.tail _ (List.Mem.tail _ (List.Mem.tail _ (List.Mem.tail _ (List.Mem.tail _ (List.Mem.head _))))))))) ?_
    refine i_if_eq (tgt := 89) dX4_wishOf_79 rfl rx7 (fun c9 => ?_) (fun c9 => ?_)
    · replace h := h.1 c9
      refine w_iload dX4_wishOf_89 (List.Mem.head _) ?_
      refine w_istore (l' := [(6, .int (nZ z13)), (8, .int (nZ z13)), (0, .ref 26), (1, .int (nZ x1)), (2, .ref (u + 1)), (3, .int (nZ x3)), (4, .int (nZ x4)), (5, .int (nZ x5)), (7, .int (nZ x7))]) dX4_wishOf_91 (by decide) rfl ?_
      refine w_iload dX4_wishOf_93 (List.Mem.tail _ (List.Mem.tail _ (List.Mem.tail _ (List.Mem.tail _ (List.Mem.tail _ (List.Mem.tail _ (List.Mem.tail _ (List.Mem.tail _ (List.Mem.head _))))))))) ?_
      refine w_istore (l' := [(5, .int (nZ x7)), (6, .int (nZ z13)), (8, .int (nZ z13)), (0, .ref 26), (1, .int (nZ x1)), (2, .ref (u + 1)), (3, .int (nZ x3)), (4, .int (nZ x4)), (7, .int (nZ x7))]) dX4_wishOf_95 (by decide) rfl ?_
      obtain ⟨q16, h⟩ := h
      refine w_iinc (v := nZ (x7 + 1)) (l' := [(7, .int (nZ (x7 + 1))), (5, .int (nZ x7)), (6, .int (nZ z13)), (8, .int (nZ z13)), (0, .ref 26), (1, .int (nZ x1)), (2, .ref (u + 1)), (3, .int (nZ x3)), (4, .int (nZ x4))]) dX4_wishOf_97 (List.Mem.tail _ (List.Mem.tail _ (List.Mem.tail _ (List.Mem.tail _ (List.Mem.tail _ (List.Mem.tail _ (List.Mem.tail _ (List.Mem.tail _ (List.Mem.head _))))))))) (nZ_add _ _) (by decide) rfl ?_
      refine w_goto (tgt := 42) dX4_wishOf_100 rfl ?_
      exact w_weak (l' := [(0, .ref 26), (1, .int (nZ x1)), (2, .ref (u + 1)), (3, .int (nZ x3)), (4, .int (nZ x4)), (5, .int (nZ x7)), (6, .int (nZ z13)), (7, .int (nZ (x7 + 1)))]) (by intro q hq; simp only [List.mem_cons, List.not_mem_nil, or_false] at hq ⊢; rcases hq with rfl | rfl | rfl | rfl | rfl | rfl | rfl | rfl <;> simp) h
    · replace h := h.2 c9
      refine w_iload dX4_wishOf_82 (List.Mem.head _) ?_
      refine w_iload dX4_wishOf_84 (List.Mem.tail _ (List.Mem.tail _ (List.Mem.tail _ (List.Mem.tail _ (List.Mem.tail _ (List.Mem.tail _ (List.Mem.tail _ (List.Mem.head _)))))))) ?_
      refine i_cmp_le (tgt := 97) dX4_wishOf_86 rfl rz15 rx6 (fun c9 => ?_) (fun c9 => ?_)
      · replace h := h.1 c9
        obtain ⟨q17, h⟩ := h
        refine w_iinc (v := nZ (x7 + 1)) (l' := [(7, .int (nZ (x7 + 1))), (8, .int (nZ z13)), (0, .ref 26), (1, .int (nZ x1)), (2, .ref (u + 1)), (3, .int (nZ x3)), (4, .int (nZ x4)), (5, .int (nZ x5)), (6, .int (nZ x6))]) dX4_wishOf_97 (List.Mem.tail _ (List.Mem.tail _ (List.Mem.tail _ (List.Mem.tail _ (List.Mem.tail _ (List.Mem.tail _ (List.Mem.tail _ (List.Mem.tail _ (List.Mem.head _))))))))) (nZ_add _ _) (by decide) rfl ?_
        refine w_goto (tgt := 42) dX4_wishOf_100 rfl ?_
        exact w_weak (l' := [(0, .ref 26), (1, .int (nZ x1)), (2, .ref (u + 1)), (3, .int (nZ x3)), (4, .int (nZ x4)), (5, .int (nZ x5)), (6, .int (nZ x6)), (7, .int (nZ (x7 + 1)))]) (by intro q hq; simp only [List.mem_cons, List.not_mem_nil, or_false] at hq ⊢; rcases hq with rfl | rfl | rfl | rfl | rfl | rfl | rfl | rfl <;> simp) h
      · replace h := h.2 c9
        refine w_iload dX4_wishOf_89 (List.Mem.head _) ?_
        refine w_istore (l' := [(6, .int (nZ z13)), (8, .int (nZ z13)), (0, .ref 26), (1, .int (nZ x1)), (2, .ref (u + 1)), (3, .int (nZ x3)), (4, .int (nZ x4)), (5, .int (nZ x5)), (7, .int (nZ x7))]) dX4_wishOf_91 (by decide) rfl ?_
        refine w_iload dX4_wishOf_93 (List.Mem.tail _ (List.Mem.tail _ (List.Mem.tail _ (List.Mem.tail _ (List.Mem.tail _ (List.Mem.tail _ (List.Mem.tail _ (List.Mem.tail _ (List.Mem.head _))))))))) ?_
        refine w_istore (l' := [(5, .int (nZ x7)), (6, .int (nZ z13)), (8, .int (nZ z13)), (0, .ref 26), (1, .int (nZ x1)), (2, .ref (u + 1)), (3, .int (nZ x3)), (4, .int (nZ x4)), (7, .int (nZ x7))]) dX4_wishOf_95 (by decide) rfl ?_
        obtain ⟨q18, h⟩ := h
        refine w_iinc (v := nZ (x7 + 1)) (l' := [(7, .int (nZ (x7 + 1))), (5, .int (nZ x7)), (6, .int (nZ z13)), (8, .int (nZ z13)), (0, .ref 26), (1, .int (nZ x1)), (2, .ref (u + 1)), (3, .int (nZ x3)), (4, .int (nZ x4))]) dX4_wishOf_97 (List.Mem.tail _ (List.Mem.tail _ (List.Mem.tail _ (List.Mem.tail _ (List.Mem.tail _ (List.Mem.tail _ (List.Mem.tail _ (List.Mem.tail _ (List.Mem.head _))))))))) (nZ_add _ _) (by decide) rfl ?_
        refine w_goto (tgt := 42) dX4_wishOf_100 rfl ?_
        exact w_weak (l' := [(0, .ref 26), (1, .int (nZ x1)), (2, .ref (u + 1)), (3, .int (nZ x3)), (4, .int (nZ x4)), (5, .int (nZ x7)), (6, .int (nZ z13)), (7, .int (nZ (x7 + 1)))]) (by intro q hq; simp only [List.mem_cons, List.not_mem_nil, or_false] at hq ⊢; rcases hq with rfl | rfl | rfl | rfl | rfl | rfl | rfl | rfl <;> simp) h
theorem dX4_playOut_0 : decode cX4_playOut 0 = .ok (.aload_n 0, 1) := by decide +kernel
theorem dX4_playOut_1 : decode cX4_playOut 1 = .ok (.getfield 31, 3) := by decide +kernel
theorem dX4_playOut_4 : decode cX4_playOut 4 = .ok (.iconst 0, 1) := by decide +kernel
theorem dX4_playOut_5 : decode cX4_playOut 5 = .ok (.aload_n 0, 1) := by decide +kernel
theorem dX4_playOut_6 : decode cX4_playOut 6 = .ok (.invokevirtual 154, 3) := by decide +kernel
theorem dX4_playOut_9 : decode cX4_playOut 9 = .ok (.lastore, 1) := by decide +kernel
theorem dX4_playOut_10 : decode cX4_playOut 10 = .ok (.iconst 1, 1) := by decide +kernel
theorem dX4_playOut_11 : decode cX4_playOut 11 = .ok (.istore_n 1, 1) := by decide +kernel
theorem dX4_playOut_12 : decode cX4_playOut 12 = .ok (.iload_n 1, 1) := by decide +kernel
theorem dX4_playOut_13 : decode cX4_playOut 13 = .ok (.bipush 20, 2) := by decide +kernel
theorem dX4_playOut_15 : decode cX4_playOut 15 = .ok (.if_icmp .gt 43, 3) := by decide +kernel
theorem dX4_playOut_18 : decode cX4_playOut 18 = .ok (.aload_n 0, 1) := by decide +kernel
theorem dX4_playOut_19 : decode cX4_playOut 19 = .ok (.iload_n 1, 1) := by decide +kernel
theorem dX4_playOut_20 : decode cX4_playOut 20 = .ok (.putfield 54, 3) := by decide +kernel
theorem dX4_playOut_23 : decode cX4_playOut 23 = .ok (.aload_n 0, 1) := by decide +kernel
theorem dX4_playOut_24 : decode cX4_playOut 24 = .ok (.invokevirtual 158, 3) := by decide +kernel
theorem dX4_playOut_27 : decode cX4_playOut 27 = .ok (.ifCond .ne 5, 3) := by decide +kernel
theorem dX4_playOut_30 : decode cX4_playOut 30 = .ok (.iconst 1, 1) := by decide +kernel
theorem dX4_playOut_31 : decode cX4_playOut 31 = .ok (.ireturn, 1) := by decide +kernel
theorem dX4_playOut_32 : decode cX4_playOut 32 = .ok (.aload_n 0, 1) := by decide +kernel
theorem dX4_playOut_33 : decode cX4_playOut 33 = .ok (.getfield 31, 3) := by decide +kernel
theorem dX4_playOut_36 : decode cX4_playOut 36 = .ok (.iload_n 1, 1) := by decide +kernel
theorem dX4_playOut_37 : decode cX4_playOut 37 = .ok (.aload_n 0, 1) := by decide +kernel
theorem dX4_playOut_38 : decode cX4_playOut 38 = .ok (.invokevirtual 154, 3) := by decide +kernel
theorem dX4_playOut_41 : decode cX4_playOut 41 = .ok (.lastore, 1) := by decide +kernel
theorem dX4_playOut_42 : decode cX4_playOut 42 = .ok (.aload_n 0, 1) := by decide +kernel
theorem dX4_playOut_43 : decode cX4_playOut 43 = .ok (.iload_n 1, 1) := by decide +kernel
theorem dX4_playOut_44 : decode cX4_playOut 44 = .ok (.invokevirtual 162, 3) := by decide +kernel
theorem dX4_playOut_47 : decode cX4_playOut 47 = .ok (.ifCond .eq 5, 3) := by decide +kernel
theorem dX4_playOut_50 : decode cX4_playOut 50 = .ok (.iconst 0, 1) := by decide +kernel
theorem dX4_playOut_51 : decode cX4_playOut 51 = .ok (.ireturn, 1) := by decide +kernel
theorem dX4_playOut_52 : decode cX4_playOut 52 = .ok (.iinc 1 1, 3) := by decide +kernel
theorem dX4_playOut_55 : decode cX4_playOut 55 = .ok (.goto (-43), 3) := by decide +kernel
theorem dX4_playOut_58 : decode cX4_playOut 58 = .ok (.iconst 0, 1) := by decide +kernel
theorem dX4_playOut_59 : decode cX4_playOut 59 = .ok (.ireturn, 1) := by decide +kernel
def L_X4_playOut_12 (C : aM → List Value → aH → aO → aH → Prop) (sc : Nat × (Nat → Int32)) (P : aO → aH → Prop) (x1 : Int) (σ : aH) : Prop :=
    wp C 4 cX4_playOut 2 (some .boolean) false [] sc P 12 [(0, .ref 26), (1, .int (nZ x1))] [] σ
set_option maxRecDepth 10000 in
theorem t_X4_playOut {sc : Nat × (Nat → Int32)} {d : Nat} {Q : aO → aH → Prop} {σ : aH} {u : Nat}   (hG : G σ u) 
    (h : (∃ (r5 : Int) (σ1 : aH), Ev sc d mX4_heights [.ref 26] σ (.inl (some (.long (nJ r5)))) σ1 ∧ G σ1 u ∧ inJ r5 ∧ (∀ σ6 : aH, wJ σ1 59 0 r5 = σ6 → L_X4_playOut_12 (Ev sc d) sc Q 1 σ6))) :
    T sc (d + 1) mX4_playOut [.ref 26] σ Q := by
  refine T.of (c := 4) (code := cX4_playOut) (mL := 2) (rt := (some .boolean)) (ini := false) (l := [(0, .ref 26)]) rfl rfl rfl rfl (by decide) hs_X4_playOut rfl rfl ?_
  refine w_aload_n dX4_playOut_0 rfl (List.Mem.head _) ?_
  refine w_getR (ci := 4) (k := 5) (b := 59) dX4_playOut_1 fl_4_31 (by decide) (gT hG rfl (lt_of rfl)) (gR hG (b := 59) rfl) ?_
  refine w_iconst (v := nZ 0) dX4_playOut_4 (by decide) ?_
  refine w_aload_n dX4_playOut_5 rfl (List.Mem.head _) ?_
  obtain ⟨r5, σ1, hc3, hG2, rr4, h⟩ := h
  refine w_callV dX4_playOut_6 ml_4_154 ⟨ok_X4_heights, vi_X4_heights⟩ hs_X4_heights (As := []) rfl rfl (gT hG rfl (lt_of rfl)) (Nat.le_of_ble_eq_true rfl) hc3 ?_
  show wp (Ev sc d) 4 cX4_playOut 2 (some .boolean) false [] sc Q 9 [(0, .ref 26)] [.long (nJ r5), .int (nZ 0), .ref 59] σ1
  refine i_last (n := 21) dX4_playOut_9 (gT hG2 rfl (lt_of rfl)) (gL hG2 rfl) (by decide) (by decide) (fun σ6 eσ7 => ?_)
  replace h := h σ6 eσ7
  have hG8 : G σ6 u := eσ7 ▸ G.wJ hG2
  refine w_iconst (v := nZ 1) dX4_playOut_10 (by decide) ?_
  refine w_istore_n (l' := [(1, .int (nZ 1)), (0, .ref 26)]) dX4_playOut_11 rfl (by decide) rfl ?_
  exact w_weak (l' := [(0, .ref 26), (1, .int (nZ 1))]) (by intro q hq; simp only [List.mem_cons, List.not_mem_nil, or_false] at hq ⊢; rcases hq with rfl | rfl <;> simp) h
set_option maxRecDepth 10000 in
theorem v_X4_playOut_12 {C : aM → List Value → aH → aO → aH → Prop} {sc : Nat × (Nat → Int32)} {P : aO → aH → Prop} {σ : aH} {u : Nat}  {x1 : Int} (hG : G σ u) (rx1 : inR x1)
    (h : ((20 < x1 → P (.inl (some (.int (nZ 0)))) σ) ∧ (¬ (20 < x1) → (∀ σ1 : aH, wI σ 26 12 x1 = σ1 → (∃ (r8 : Int) (σ4 : aH), C mX4_playRound [.ref 26] σ1 (.inl (some (.int (nZ r8)))) σ4 ∧ G σ4 u ∧ inR r8 ∧ ((¬ r8 = 0 → (∃ (r13 : Int) (σ9 : aH), C mX4_heights [.ref 26] σ4 (.inl (some (.long (nJ r13)))) σ9 ∧ G σ9 u ∧ inJ r13 ∧ ((0 ≤ x1 ∧ x1 < 21) ∧ (∀ σ14 : aH, wJ σ9 59 x1 r13 = σ14 → (∃ (r21 : Int) (σ17 : aH), C mX4_isSeenBefore [.ref 26, .int (nZ x1)] σ14 (.inl (some (.int (nZ r21)))) σ17 ∧ G σ17 u ∧ inR r21 ∧ ((r21 = 0 → (inR (x1 + 1) ∧ L_X4_playOut_12 C sc P (x1 + 1) σ17)) ∧ (¬ (r21 = 0) → P (.inl (some (.int (nZ 0)))) σ17))))))) ∧ (r8 = 0 → P (.inl (some (.int (nZ 1)))) σ4))))))) :
    L_X4_playOut_12 C sc P x1 σ := by
  unfold L_X4_playOut_12
  refine w_iload_n dX4_playOut_12 rfl (List.Mem.tail _ (List.Mem.head _)) ?_
  refine w_bipush (v := nZ 20) dX4_playOut_13 (by decide) ?_
  refine i_cmp_gt (tgt := 58) dX4_playOut_15 rfl rx1 (by decide) (fun c9 => ?_) (fun c9 => ?_)
  · replace h := h.1 c9
    refine w_iconst (v := nZ 0) dX4_playOut_58 (by decide) ?_
    exact i_zret dX4_playOut_59 rfl (by decide) h
  · replace h := h.2 c9
    refine w_aload_n dX4_playOut_18 rfl (List.Mem.head _) ?_
    refine w_iload_n dX4_playOut_19 rfl (List.Mem.tail _ (List.Mem.head _)) ?_
    refine i_putI (ci := 4) 12 rfl dX4_playOut_20 fl_4_54 (by decide) (gT hG rfl (lt_of rfl)) (fun σ1 eσ2 => ?_)
    replace h := h σ1 eσ2
    have hG3 : G σ1 u := eσ2 ▸ G.wI hG
    refine w_aload_n dX4_playOut_23 rfl (List.Mem.head _) ?_
    obtain ⟨r8, σ4, hc6, hG5, rr7, h⟩ := h
    refine w_callV dX4_playOut_24 ml_4_158 ⟨ok_X4_playRound, vi_X4_playRound⟩ hs_X4_playRound (As := []) rfl rfl (gT hG3 rfl (lt_of rfl)) (Nat.le_of_ble_eq_true rfl) hc6 ?_
    show wp C 4 cX4_playOut 2 (some .boolean) false [] sc P 27 [(0, .ref 26), (1, .int (nZ x1))] [.int (nZ r8)] σ4
    refine i_if_ne (tgt := 32) dX4_playOut_27 rfl rr7 (fun c9 => ?_) (fun c9 => ?_)
    · replace h := h.1 c9
      refine w_aload_n dX4_playOut_32 rfl (List.Mem.head _) ?_
      refine w_getR (ci := 4) (k := 5) (b := 59) dX4_playOut_33 fl_4_31 (by decide) (gT hG5 rfl (lt_of rfl)) (gR hG5 (b := 59) rfl) ?_
      refine w_iload_n dX4_playOut_36 rfl (List.Mem.tail _ (List.Mem.head _)) ?_
      refine w_aload_n dX4_playOut_37 rfl (List.Mem.head _) ?_
      obtain ⟨r13, σ9, hc11, hG10, rr12, h⟩ := h
      refine w_callV dX4_playOut_38 ml_4_154 ⟨ok_X4_heights, vi_X4_heights⟩ hs_X4_heights (As := []) rfl rfl (gT hG5 rfl (lt_of rfl)) (Nat.le_of_ble_eq_true rfl) hc11 ?_
      show wp C 4 cX4_playOut 2 (some .boolean) false [] sc P 41 [(0, .ref 26), (1, .int (nZ x1))] [.long (nJ r13), .int (nZ x1), .ref 59] σ9
      obtain ⟨h9, h⟩ := h
      refine i_last (n := 21) dX4_playOut_41 (gT hG10 rfl (lt_of rfl)) (gL hG10 rfl) rx1 h9 (fun σ14 eσ15 => ?_)
      replace h := h σ14 eσ15
      have hG16 : G σ14 u := eσ15 ▸ G.wJ hG10
      refine w_aload_n dX4_playOut_42 rfl (List.Mem.head _) ?_
      refine w_iload_n dX4_playOut_43 rfl (List.Mem.tail _ (List.Mem.head _)) ?_
      obtain ⟨r21, σ17, hc19, hG18, rr20, h⟩ := h
      refine w_callV dX4_playOut_44 ml_4_162 ⟨ok_X4_isSeenBefore, vi_X4_isSeenBefore⟩ hs_X4_isSeenBefore (As := [.int (nZ x1)]) rfl rfl (gT hG16 rfl (lt_of rfl)) (Nat.le_of_ble_eq_true rfl) hc19 ?_
      show wp C 4 cX4_playOut 2 (some .boolean) false [] sc P 47 [(0, .ref 26), (1, .int (nZ x1))] [.int (nZ r21)] σ17
      refine i_if_eq (tgt := 52) dX4_playOut_47 rfl rr20 (fun c9 => ?_) (fun c9 => ?_)
      · replace h := h.1 c9
        obtain ⟨q22, h⟩ := h
        refine w_iinc (v := nZ (x1 + 1)) (l' := [(1, .int (nZ (x1 + 1))), (0, .ref 26)]) dX4_playOut_52 (List.Mem.tail _ (List.Mem.head _)) (nZ_add _ _) (by decide) rfl ?_
        refine w_goto (tgt := 12) dX4_playOut_55 rfl ?_
        exact w_weak (l' := [(0, .ref 26), (1, .int (nZ (x1 + 1)))]) (by intro q hq; simp only [List.mem_cons, List.not_mem_nil, or_false] at hq ⊢; rcases hq with rfl | rfl <;> simp) h
      · replace h := h.2 c9
        refine w_iconst (v := nZ 0) dX4_playOut_50 (by decide) ?_
        exact i_zret dX4_playOut_51 rfl (by decide) h
    · replace h := h.2 c9
      refine w_iconst (v := nZ 1) dX4_playOut_30 (by decide) ?_
      exact i_zret dX4_playOut_31 rfl (by decide) h
theorem dX4_playRound_0 : decode cX4_playRound 0 = .ok (.aload_n 0, 1) := by decide +kernel
theorem dX4_playRound_1 : decode cX4_playRound 1 = .ok (.invokevirtual 67, 3) := by decide +kernel
theorem dX4_playRound_4 : decode cX4_playRound 4 = .ok (.astore_n 1, 1) := by decide +kernel
theorem dX4_playRound_5 : decode cX4_playRound 5 = .ok (.iconst 0, 1) := by decide +kernel
theorem dX4_playRound_6 : decode cX4_playRound 6 = .ok (.istore_n 2, 1) := by decide +kernel
theorem dX4_playRound_7 : decode cX4_playRound 7 = .ok (.iconst 0, 1) := by decide +kernel
theorem dX4_playRound_8 : decode cX4_playRound 8 = .ok (.istore_n 3, 1) := by decide +kernel
theorem dX4_playRound_9 : decode cX4_playRound 9 = .ok (.iload_n 3, 1) := by decide +kernel
theorem dX4_playRound_10 : decode cX4_playRound 10 = .ok (.aload_n 1, 1) := by decide +kernel
theorem dX4_playRound_11 : decode cX4_playRound 11 = .ok (.getfield 131, 3) := by decide +kernel
theorem dX4_playRound_14 : decode cX4_playRound 14 = .ok (.if_icmp .ge 37, 3) := by decide +kernel
theorem dX4_playRound_17 : decode cX4_playRound 17 = .ok (.aload_n 0, 1) := by decide +kernel
theorem dX4_playRound_18 : decode cX4_playRound 18 = .ok (.iload_n 3, 1) := by decide +kernel
theorem dX4_playRound_19 : decode cX4_playRound 19 = .ok (.invokevirtual 166, 3) := by decide +kernel
theorem dX4_playRound_22 : decode cX4_playRound 22 = .ok (.istore 4, 2) := by decide +kernel
theorem dX4_playRound_24 : decode cX4_playRound 24 = .ok (.iload 4, 2) := by decide +kernel
theorem dX4_playRound_26 : decode cX4_playRound 26 = .ok (.aload_n 1, 1) := by decide +kernel
theorem dX4_playRound_27 : decode cX4_playRound 27 = .ok (.getfield 145, 3) := by decide +kernel
theorem dX4_playRound_30 : decode cX4_playRound 30 = .ok (.iload_n 3, 1) := by decide +kernel
theorem dX4_playRound_31 : decode cX4_playRound 31 = .ok (.iaload, 1) := by decide +kernel
theorem dX4_playRound_32 : decode cX4_playRound 32 = .ok (.if_icmp .eq 13, 3) := by decide +kernel
theorem dX4_playRound_35 : decode cX4_playRound 35 = .ok (.aload_n 1, 1) := by decide +kernel
theorem dX4_playRound_36 : decode cX4_playRound 36 = .ok (.getfield 145, 3) := by decide +kernel
theorem dX4_playRound_39 : decode cX4_playRound 39 = .ok (.iload_n 3, 1) := by decide +kernel
theorem dX4_playRound_40 : decode cX4_playRound 40 = .ok (.iload 4, 2) := by decide +kernel
theorem dX4_playRound_42 : decode cX4_playRound 42 = .ok (.iastore, 1) := by decide +kernel
theorem dX4_playRound_43 : decode cX4_playRound 43 = .ok (.iconst 1, 1) := by decide +kernel
theorem dX4_playRound_44 : decode cX4_playRound 44 = .ok (.istore_n 2, 1) := by decide +kernel
theorem dX4_playRound_45 : decode cX4_playRound 45 = .ok (.iinc 3 1, 3) := by decide +kernel
theorem dX4_playRound_48 : decode cX4_playRound 48 = .ok (.goto (-39), 3) := by decide +kernel
theorem dX4_playRound_51 : decode cX4_playRound 51 = .ok (.iload_n 2, 1) := by decide +kernel
theorem dX4_playRound_52 : decode cX4_playRound 52 = .ok (.ireturn, 1) := by decide +kernel
def L_X4_playRound_9 (C : aM → List Value → aH → aO → aH → Prop) (sc : Nat × (Nat → Int32)) (P : aO → aH → Prop) (u : Nat) (x2 : Int) (x3 : Int) (σ : aH) : Prop :=
    wp C 4 cX4_playRound 5 (some .boolean) false [] sc P 9 [(0, .ref 26), (1, .ref (u + 1)), (2, .int (nZ x2)), (3, .int (nZ x3))] [] σ
set_option maxRecDepth 10000 in
theorem t_X4_playRound {sc : Nat × (Nat → Int32)} {d : Nat} {Q : aO → aH → Prop} {σ : aH} {u : Nat}   (hG : G σ u) 
    (h : (∃ σ1 : aH, Ev sc d mX4_stalls [.ref 26] σ (.inl (some (.ref (u + 1)))) σ1 ∧ G σ1 u ∧ L_X4_playRound_9 (Ev sc d) sc Q u 0 0 σ1)) :
    T sc (d + 1) mX4_playRound [.ref 26] σ Q := by
  refine T.of (c := 4) (code := cX4_playRound) (mL := 5) (rt := (some .boolean)) (ini := false) (l := [(0, .ref 26)]) rfl rfl rfl rfl (by decide) hs_X4_playRound rfl rfl ?_
  refine w_aload_n dX4_playRound_0 rfl (List.Mem.head _) ?_
  obtain ⟨σ1, hc3, hG2, h⟩ := h
  refine w_callV dX4_playRound_1 ml_4_67 ⟨ok_X4_stalls, vi_X4_stalls⟩ hs_X4_stalls (As := []) rfl rfl (gT hG rfl (lt_of rfl)) (Nat.le_of_ble_eq_true rfl) hc3 ?_
  show wp (Ev sc d) 4 cX4_playRound 5 (some .boolean) false [] sc Q 4 [(0, .ref 26)] [.ref (u + 1)] σ1
  refine w_astore_n (l' := [(1, .ref (u + 1)), (0, .ref 26)]) dX4_playRound_4 rfl (by decide) rfl ?_
  refine w_iconst (v := nZ 0) dX4_playRound_5 (by decide) ?_
  refine w_istore_n (l' := [(2, .int (nZ 0)), (1, .ref (u + 1)), (0, .ref 26)]) dX4_playRound_6 rfl (by decide) rfl ?_
  refine w_iconst (v := nZ 0) dX4_playRound_7 (by decide) ?_
  refine w_istore_n (l' := [(3, .int (nZ 0)), (2, .int (nZ 0)), (1, .ref (u + 1)), (0, .ref 26)]) dX4_playRound_8 rfl (by decide) rfl ?_
  exact w_weak (l' := [(0, .ref 26), (1, .ref (u + 1)), (2, .int (nZ 0)), (3, .int (nZ 0))]) (by intro q hq; simp only [List.mem_cons, List.not_mem_nil, or_false] at hq ⊢; rcases hq with rfl | rfl | rfl | rfl <;> simp) h
set_option maxRecDepth 10000 in
theorem v_X4_playRound_9 {C : aM → List Value → aH → aO → aH → Prop} {sc : Nat × (Nat → Int32)} {P : aO → aH → Prop} {σ : aH} {u : Nat}  {x2 : Int} {x3 : Int} (hG : G σ u) (rx2 : inR x2) (rx3 : inR x3)
    (h : (((rI σ (u + 1) 8) ≤ x3 → ((x2 = 0 ∨ x2 = 1) ∧ P (.inl (some (.int (nZ x2)))) σ)) ∧ (¬ ((rI σ (u + 1) 8) ≤ x3) → (∃ (r5 : Int) (σ1 : aH), C mX4_wishOf [.ref 26, .int (nZ x3)] σ (.inl (some (.int (nZ r5)))) σ1 ∧ G σ1 u ∧ inR r5 ∧ ((0 ≤ x3 ∧ x3 < 9) ∧ ((r5 = (rI σ1 (u + 4) x3) → (inR (x3 + 1) ∧ L_X4_playRound_9 C sc P u x2 (x3 + 1) σ1)) ∧ (¬ (r5 = (rI σ1 (u + 4) x3)) → ((0 ≤ x3 ∧ x3 < 9) ∧ (∀ σ7 : aH, wI σ1 (u + 4) x3 r5 = σ7 → (inR (x3 + 1) ∧ L_X4_playRound_9 C sc P u 1 (x3 + 1) σ7)))))))))) :
    L_X4_playRound_9 C sc P u x2 x3 σ := by
  unfold L_X4_playRound_9
  refine w_iload_n dX4_playRound_9 rfl (List.Mem.tail _ (List.Mem.tail _ (List.Mem.tail _ (List.Mem.head _)))) ?_
  refine w_aload_n dX4_playRound_10 rfl (List.Mem.tail _ (List.Mem.head _)) ?_
  refine i_getI (ci := 7) 8 rfl dX4_playRound_11 fl_4_131 (by decide) (gT hG (IsMk_t1 hG.2.2.2.2) (IsMk_lt hG.2.2.2.2 (k := 1) (by decide))) ?_
  refine i_cmp_ge (tgt := 51) dX4_playRound_14 rfl rx3 (rI_R _ _ _) (fun c9 => ?_) (fun c9 => ?_)
  · replace h := h.1 c9
    refine w_iload_n dX4_playRound_51 rfl (List.Mem.tail _ (List.Mem.tail _ (List.Mem.head _))) ?_
    exact i_zret dX4_playRound_52 rfl h.1 h.2
  · replace h := h.2 c9
    refine w_aload_n dX4_playRound_17 rfl (List.Mem.head _) ?_
    refine w_iload_n dX4_playRound_18 rfl (List.Mem.tail _ (List.Mem.tail _ (List.Mem.tail _ (List.Mem.head _)))) ?_
    obtain ⟨r5, σ1, hc3, hG2, rr4, h⟩ := h
    refine w_callV dX4_playRound_19 ml_4_166 ⟨ok_X4_wishOf, vi_X4_wishOf⟩ hs_X4_wishOf (As := [.int (nZ x3)]) rfl rfl (gT hG rfl (lt_of rfl)) (Nat.le_of_ble_eq_true rfl) hc3 ?_
    show wp C 4 cX4_playRound 5 (some .boolean) false [] sc P 22 [(0, .ref 26), (1, .ref (u + 1)), (2, .int (nZ x2)), (3, .int (nZ x3))] [.int (nZ r5)] σ1
    refine w_istore (l' := [(4, .int (nZ r5)), (0, .ref 26), (1, .ref (u + 1)), (2, .int (nZ x2)), (3, .int (nZ x3))]) dX4_playRound_22 (by decide) rfl ?_
    refine w_iload dX4_playRound_24 (List.Mem.head _) ?_
    refine w_aload_n dX4_playRound_26 rfl (List.Mem.tail _ (List.Mem.tail _ (List.Mem.head _))) ?_
    refine w_getR (ci := 7) (k := 2) (b := (u + 4)) dX4_playRound_27 fl_4_145 (by decide) (gT hG2 (IsMk_t1 hG.2.2.2.2) (IsMk_lt hG.2.2.2.2 (k := 1) (by decide))) (gR hG2 (IsMk_r1_2 hG.2.2.2.2)) ?_
    refine w_iload_n dX4_playRound_30 rfl (List.Mem.tail _ (List.Mem.tail _ (List.Mem.tail _ (List.Mem.tail _ (List.Mem.head _))))) ?_
    obtain ⟨h9, h⟩ := h
    refine i_iald (n := 9) dX4_playRound_31 (gT hG2 (IsMk_t4 hG.2.2.2.2) (IsMk_lt hG.2.2.2.2 (k := 4) (by decide))) (gL hG2 (IsMk_n4 hG.2.2.2.2)) rx3 h9 ?_
    refine i_cmp_eq (tgt := 45) dX4_playRound_32 rfl rr4 (rI_R _ _ _) (fun c9 => ?_) (fun c9 => ?_)
    · replace h := h.1 c9
      obtain ⟨q6, h⟩ := h
      refine w_iinc (v := nZ (x3 + 1)) (l' := [(3, .int (nZ (x3 + 1))), (4, .int (nZ r5)), (0, .ref 26), (1, .ref (u + 1)), (2, .int (nZ x2))]) dX4_playRound_45 (List.Mem.tail _ (List.Mem.tail _ (List.Mem.tail _ (List.Mem.tail _ (List.Mem.head _))))) (nZ_add _ _) (by decide) rfl ?_
      refine w_goto (tgt := 9) dX4_playRound_48 rfl ?_
      exact w_weak (l' := [(0, .ref 26), (1, .ref (u + 1)), (2, .int (nZ x2)), (3, .int (nZ (x3 + 1)))]) (by intro q hq; simp only [List.mem_cons, List.not_mem_nil, or_false] at hq ⊢; rcases hq with rfl | rfl | rfl | rfl <;> simp) h
    · replace h := h.2 c9
      refine w_aload_n dX4_playRound_35 rfl (List.Mem.tail _ (List.Mem.tail _ (List.Mem.head _))) ?_
      refine w_getR (ci := 7) (k := 2) (b := (u + 4)) dX4_playRound_36 fl_4_145 (by decide) (gT hG2 (IsMk_t1 hG.2.2.2.2) (IsMk_lt hG.2.2.2.2 (k := 1) (by decide))) (gR hG2 (IsMk_r1_2 hG.2.2.2.2)) ?_
      refine w_iload_n dX4_playRound_39 rfl (List.Mem.tail _ (List.Mem.tail _ (List.Mem.tail _ (List.Mem.tail _ (List.Mem.head _))))) ?_
      refine w_iload dX4_playRound_40 (List.Mem.head _) ?_
      obtain ⟨h9, h⟩ := h
      refine i_iast (n := 9) dX4_playRound_42 (gT hG2 (IsMk_t4 hG.2.2.2.2) (IsMk_lt hG.2.2.2.2 (k := 4) (by decide))) (gL hG2 (IsMk_n4 hG.2.2.2.2)) rx3 h9 (fun σ7 eσ8 => ?_)
      replace h := h σ7 eσ8
      have hG9 : G σ7 u := eσ8 ▸ G.wI hG2
      refine w_iconst (v := nZ 1) dX4_playRound_43 (by decide) ?_
      refine w_istore_n (l' := [(2, .int (nZ 1)), (4, .int (nZ r5)), (0, .ref 26), (1, .ref (u + 1)), (3, .int (nZ x3))]) dX4_playRound_44 rfl (by decide) rfl ?_
      obtain ⟨q10, h⟩ := h
      refine w_iinc (v := nZ (x3 + 1)) (l' := [(3, .int (nZ (x3 + 1))), (2, .int (nZ 1)), (4, .int (nZ r5)), (0, .ref 26), (1, .ref (u + 1))]) dX4_playRound_45 (List.Mem.tail _ (List.Mem.tail _ (List.Mem.tail _ (List.Mem.tail _ (List.Mem.head _))))) (nZ_add _ _) (by decide) rfl ?_
      refine w_goto (tgt := 9) dX4_playRound_48 rfl ?_
      exact w_weak (l' := [(0, .ref 26), (1, .ref (u + 1)), (2, .int (nZ 1)), (3, .int (nZ (x3 + 1)))]) (by intro q hq; simp only [List.mem_cons, List.not_mem_nil, or_false] at hq ⊢; rcases hq with rfl | rfl | rfl | rfl <;> simp) h
theorem dX4_isSeenBefore_0 : decode cX4_isSeenBefore 0 = .ok (.iconst 0, 1) := by decide +kernel
theorem dX4_isSeenBefore_1 : decode cX4_isSeenBefore 1 = .ok (.istore_n 2, 1) := by decide +kernel
theorem dX4_isSeenBefore_2 : decode cX4_isSeenBefore 2 = .ok (.iload_n 2, 1) := by decide +kernel
theorem dX4_isSeenBefore_3 : decode cX4_isSeenBefore 3 = .ok (.iload_n 1, 1) := by decide +kernel
theorem dX4_isSeenBefore_4 : decode cX4_isSeenBefore 4 = .ok (.if_icmp .ge 27, 3) := by decide +kernel
theorem dX4_isSeenBefore_7 : decode cX4_isSeenBefore 7 = .ok (.aload_n 0, 1) := by decide +kernel
theorem dX4_isSeenBefore_8 : decode cX4_isSeenBefore 8 = .ok (.getfield 31, 3) := by decide +kernel
theorem dX4_isSeenBefore_11 : decode cX4_isSeenBefore 11 = .ok (.iload_n 2, 1) := by decide +kernel
theorem dX4_isSeenBefore_12 : decode cX4_isSeenBefore 12 = .ok (.laload, 1) := by decide +kernel
theorem dX4_isSeenBefore_13 : decode cX4_isSeenBefore 13 = .ok (.aload_n 0, 1) := by decide +kernel
theorem dX4_isSeenBefore_14 : decode cX4_isSeenBefore 14 = .ok (.getfield 31, 3) := by decide +kernel
theorem dX4_isSeenBefore_17 : decode cX4_isSeenBefore 17 = .ok (.iload_n 1, 1) := by decide +kernel
theorem dX4_isSeenBefore_18 : decode cX4_isSeenBefore 18 = .ok (.laload, 1) := by decide +kernel
theorem dX4_isSeenBefore_19 : decode cX4_isSeenBefore 19 = .ok (.lcmp, 1) := by decide +kernel
theorem dX4_isSeenBefore_20 : decode cX4_isSeenBefore 20 = .ok (.ifCond .ne 5, 3) := by decide +kernel
theorem dX4_isSeenBefore_23 : decode cX4_isSeenBefore 23 = .ok (.iconst 1, 1) := by decide +kernel
theorem dX4_isSeenBefore_24 : decode cX4_isSeenBefore 24 = .ok (.ireturn, 1) := by decide +kernel
theorem dX4_isSeenBefore_25 : decode cX4_isSeenBefore 25 = .ok (.iinc 2 1, 3) := by decide +kernel
theorem dX4_isSeenBefore_28 : decode cX4_isSeenBefore 28 = .ok (.goto (-26), 3) := by decide +kernel
theorem dX4_isSeenBefore_31 : decode cX4_isSeenBefore 31 = .ok (.iconst 0, 1) := by decide +kernel
theorem dX4_isSeenBefore_32 : decode cX4_isSeenBefore 32 = .ok (.ireturn, 1) := by decide +kernel
def L_X4_isSeenBefore_2 (C : aM → List Value → aH → aO → aH → Prop) (sc : Nat × (Nat → Int32)) (P : aO → aH → Prop) (x1 : Int) (x2 : Int) (σ : aH) : Prop :=
    wp C 4 cX4_isSeenBefore 3 (some .boolean) false [] sc P 2 [(0, .ref 26), (1, .int (nZ x1)), (2, .int (nZ x2))] [] σ
set_option maxRecDepth 10000 in
theorem t_X4_isSeenBefore {sc : Nat × (Nat → Int32)} {d : Nat} {Q : aO → aH → Prop} {σ : aH} {u : Nat}  {x1 : Int} (hG : G σ u) (rx1 : inR x1)
    (h : L_X4_isSeenBefore_2 (Ev sc d) sc Q x1 0 σ) :
    T sc (d + 1) mX4_isSeenBefore [.ref 26, .int (nZ x1)] σ Q := by
  refine T.of (c := 4) (code := cX4_isSeenBefore) (mL := 3) (rt := (some .boolean)) (ini := false) (l := [(0, .ref 26), (1, .int (nZ x1))]) rfl rfl rfl rfl (by decide) hs_X4_isSeenBefore rfl rfl ?_
  refine w_iconst (v := nZ 0) dX4_isSeenBefore_0 (by decide) ?_
  refine w_istore_n (l' := [(2, .int (nZ 0)), (0, .ref 26), (1, .int (nZ x1))]) dX4_isSeenBefore_1 rfl (by decide) rfl ?_
  exact w_weak (l' := [(0, .ref 26), (1, .int (nZ x1)), (2, .int (nZ 0))]) (by intro q hq; simp only [List.mem_cons, List.not_mem_nil, or_false] at hq ⊢; rcases hq with rfl | rfl | rfl <;> simp) h
set_option maxRecDepth 10000 in
theorem v_X4_isSeenBefore_2 {C : aM → List Value → aH → aO → aH → Prop} {sc : Nat × (Nat → Int32)} {P : aO → aH → Prop} {σ : aH} {u : Nat}  {x1 : Int} {x2 : Int} (hG : G σ u) (rx1 : inR x1) (rx2 : inR x2)
    (h : ((x1 ≤ x2 → P (.inl (some (.int (nZ 0)))) σ) ∧ (¬ (x1 ≤ x2) → ((0 ≤ x2 ∧ x2 < 21) ∧ ((0 ≤ x1 ∧ x1 < 21) ∧ ((¬ (if (rJ σ 59 x1) < (rJ σ 59 x2) then 1 else if (rJ σ 59 x2) = (rJ σ 59 x1) then 0 else (-1)) = 0 → (inR (x2 + 1) ∧ L_X4_isSeenBefore_2 C sc P x1 (x2 + 1) σ)) ∧ ((if (rJ σ 59 x1) < (rJ σ 59 x2) then 1 else if (rJ σ 59 x2) = (rJ σ 59 x1) then 0 else (-1)) = 0 → P (.inl (some (.int (nZ 1)))) σ))))))) :
    L_X4_isSeenBefore_2 C sc P x1 x2 σ := by
  unfold L_X4_isSeenBefore_2
  refine w_iload_n dX4_isSeenBefore_2 rfl (List.Mem.tail _ (List.Mem.tail _ (List.Mem.head _))) ?_
  refine w_iload_n dX4_isSeenBefore_3 rfl (List.Mem.tail _ (List.Mem.head _)) ?_
  refine i_cmp_ge (tgt := 31) dX4_isSeenBefore_4 rfl rx2 rx1 (fun c9 => ?_) (fun c9 => ?_)
  · replace h := h.1 c9
    refine w_iconst (v := nZ 0) dX4_isSeenBefore_31 (by decide) ?_
    exact i_zret dX4_isSeenBefore_32 rfl (by decide) h
  · replace h := h.2 c9
    refine w_aload_n dX4_isSeenBefore_7 rfl (List.Mem.head _) ?_
    refine w_getR (ci := 4) (k := 5) (b := 59) dX4_isSeenBefore_8 fl_4_31 (by decide) (gT hG rfl (lt_of rfl)) (gR hG (b := 59) rfl) ?_
    refine w_iload_n dX4_isSeenBefore_11 rfl (List.Mem.tail _ (List.Mem.tail _ (List.Mem.head _))) ?_
    obtain ⟨h9, h⟩ := h
    refine i_lald (n := 21) dX4_isSeenBefore_12 (gT hG rfl (lt_of rfl)) (gL hG rfl) rx2 h9 ?_
    refine w_aload_n dX4_isSeenBefore_13 rfl (List.Mem.head _) ?_
    refine w_getR (ci := 4) (k := 5) (b := 59) dX4_isSeenBefore_14 fl_4_31 (by decide) (gT hG rfl (lt_of rfl)) (gR hG (b := 59) rfl) ?_
    refine w_iload_n dX4_isSeenBefore_17 rfl (List.Mem.tail _ (List.Mem.head _)) ?_
    obtain ⟨h9, h⟩ := h
    refine i_lald (n := 21) dX4_isSeenBefore_18 (gT hG rfl (lt_of rfl)) (gL hG rfl) rx1 h9 ?_
    refine j_cmp dX4_isSeenBefore_19 (rJ_R _ _ _) (rJ_R _ _ _) ?_
    refine i_if_ne (tgt := 25) dX4_isSeenBefore_20 rfl (by omega) (fun c9 => ?_) (fun c9 => ?_)
    · replace h := h.1 c9
      obtain ⟨q1, h⟩ := h
      refine w_iinc (v := nZ (x2 + 1)) (l' := [(2, .int (nZ (x2 + 1))), (0, .ref 26), (1, .int (nZ x1))]) dX4_isSeenBefore_25 (List.Mem.tail _ (List.Mem.tail _ (List.Mem.head _))) (nZ_add _ _) (by decide) rfl ?_
      refine w_goto (tgt := 2) dX4_isSeenBefore_28 rfl ?_
      exact w_weak (l' := [(0, .ref 26), (1, .int (nZ x1)), (2, .int (nZ (x2 + 1)))]) (by intro q hq; simp only [List.mem_cons, List.not_mem_nil, or_false] at hq ⊢; rcases hq with rfl | rfl | rfl <;> simp) h
    · replace h := h.2 c9
      refine w_iconst (v := nZ 1) dX4_isSeenBefore_23 (by decide) ?_
      exact i_zret dX4_isSeenBefore_24 rfl (by decide) h
theorem dX4_heights_0 : decode cX4_heights 0 = .ok (.aload_n 0, 1) := by decide +kernel
theorem dX4_heights_1 : decode cX4_heights 1 = .ok (.invokevirtual 67, 3) := by decide +kernel
theorem dX4_heights_4 : decode cX4_heights 4 = .ok (.astore_n 1, 1) := by decide +kernel
theorem dX4_heights_5 : decode cX4_heights 5 = .ok (.lconst 0, 1) := by decide +kernel
theorem dX4_heights_6 : decode cX4_heights 6 = .ok (.lstore_n 2, 1) := by decide +kernel
theorem dX4_heights_7 : decode cX4_heights 7 = .ok (.iconst 0, 1) := by decide +kernel
theorem dX4_heights_8 : decode cX4_heights 8 = .ok (.istore 4, 2) := by decide +kernel
theorem dX4_heights_10 : decode cX4_heights 10 = .ok (.iload 4, 2) := by decide +kernel
theorem dX4_heights_12 : decode cX4_heights 12 = .ok (.aload_n 1, 1) := by decide +kernel
theorem dX4_heights_13 : decode cX4_heights 13 = .ok (.getfield 131, 3) := by decide +kernel
theorem dX4_heights_16 : decode cX4_heights 16 = .ok (.if_icmp .ge 23, 3) := by decide +kernel
theorem dX4_heights_19 : decode cX4_heights 19 = .ok (.lload_n 2, 1) := by decide +kernel
theorem dX4_heights_20 : decode cX4_heights 20 = .ok (.bipush 6, 2) := by decide +kernel
theorem dX4_heights_22 : decode cX4_heights 22 = .ok (.lshl, 1) := by decide +kernel
theorem dX4_heights_23 : decode cX4_heights 23 = .ok (.aload_n 1, 1) := by decide +kernel
theorem dX4_heights_24 : decode cX4_heights 24 = .ok (.getfield 145, 3) := by decide +kernel
theorem dX4_heights_27 : decode cX4_heights 27 = .ok (.iload 4, 2) := by decide +kernel
theorem dX4_heights_29 : decode cX4_heights 29 = .ok (.iaload, 1) := by decide +kernel
theorem dX4_heights_30 : decode cX4_heights 30 = .ok (.i2l, 1) := by decide +kernel
theorem dX4_heights_31 : decode cX4_heights 31 = .ok (.lor, 1) := by decide +kernel
theorem dX4_heights_32 : decode cX4_heights 32 = .ok (.lstore_n 2, 1) := by decide +kernel
theorem dX4_heights_33 : decode cX4_heights 33 = .ok (.iinc 4 1, 3) := by decide +kernel
theorem dX4_heights_36 : decode cX4_heights 36 = .ok (.goto (-26), 3) := by decide +kernel
theorem dX4_heights_39 : decode cX4_heights 39 = .ok (.lload_n 2, 1) := by decide +kernel
theorem dX4_heights_40 : decode cX4_heights 40 = .ok (.lreturn, 1) := by decide +kernel
def L_X4_heights_10 (C : aM → List Value → aH → aO → aH → Prop) (sc : Nat × (Nat → Int32)) (P : aO → aH → Prop) (u : Nat) (y2 : Int) (x4 : Int) (σ : aH) : Prop :=
    wp C 4 cX4_heights 5 (some .long) false [] sc P 10 [(0, .ref 26), (1, .ref (u + 1)), (2, .long (nJ y2)), (4, .int (nZ x4))] [] σ
set_option maxRecDepth 10000 in
theorem t_X4_heights {sc : Nat × (Nat → Int32)} {d : Nat} {Q : aO → aH → Prop} {σ : aH} {u : Nat}   (hG : G σ u) 
    (h : (∃ σ1 : aH, Ev sc d mX4_stalls [.ref 26] σ (.inl (some (.ref (u + 1)))) σ1 ∧ G σ1 u ∧ L_X4_heights_10 (Ev sc d) sc Q u 0 0 σ1)) :
    T sc (d + 1) mX4_heights [.ref 26] σ Q := by
  refine T.of (c := 4) (code := cX4_heights) (mL := 5) (rt := (some .long)) (ini := false) (l := [(0, .ref 26)]) rfl rfl rfl rfl (by decide) hs_X4_heights rfl rfl ?_
  refine w_aload_n dX4_heights_0 rfl (List.Mem.head _) ?_
  obtain ⟨σ1, hc3, hG2, h⟩ := h
  refine w_callV dX4_heights_1 ml_4_67 ⟨ok_X4_stalls, vi_X4_stalls⟩ hs_X4_stalls (As := []) rfl rfl (gT hG rfl (lt_of rfl)) (Nat.le_of_ble_eq_true rfl) hc3 ?_
  show wp (Ev sc d) 4 cX4_heights 5 (some .long) false [] sc Q 4 [(0, .ref 26)] [.ref (u + 1)] σ1
  refine w_astore_n (l' := [(1, .ref (u + 1)), (0, .ref 26)]) dX4_heights_4 rfl (by decide) rfl ?_
  refine w_lconst (v := nJ 0) dX4_heights_5 (by decide) ?_
  refine w_lstore_n (l' := [(2, .long (nJ 0)), (1, .ref (u + 1)), (0, .ref 26)]) dX4_heights_6 rfl (by decide) rfl ?_
  refine w_iconst (v := nZ 0) dX4_heights_7 (by decide) ?_
  refine w_istore (l' := [(4, .int (nZ 0)), (2, .long (nJ 0)), (1, .ref (u + 1)), (0, .ref 26)]) dX4_heights_8 (by decide) rfl ?_
  exact w_weak (l' := [(0, .ref 26), (1, .ref (u + 1)), (2, .long (nJ 0)), (4, .int (nZ 0))]) (by intro q hq; simp only [List.mem_cons, List.not_mem_nil, or_false] at hq ⊢; rcases hq with rfl | rfl | rfl | rfl <;> simp) h
set_option maxRecDepth 10000 in
theorem v_X4_heights_10 {C : aM → List Value → aH → aO → aH → Prop} {sc : Nat × (Nat → Int32)} {P : aO → aH → Prop} {σ : aH} {u : Nat}  {y2 : Int} {x4 : Int} (hG : G σ u) (ry2 : inJ y2) (rx4 : inR x4)
    (h : (((rI σ (u + 1) 8) ≤ x4 → P (.inl (some (.long (nJ y2)))) σ) ∧ (¬ ((rI σ (u + 1) 8) ≤ x4) → ((0 ≤ x4 ∧ x4 < 9) ∧ (∀ z1 : Int, z1 = (zLor (zLsh y2 6) (rI σ (u + 4) x4)) → (inR (x4 + 1) ∧ L_X4_heights_10 C sc P u z1 (x4 + 1) σ)))))) :
    L_X4_heights_10 C sc P u y2 x4 σ := by
  unfold L_X4_heights_10
  refine w_iload dX4_heights_10 (List.Mem.tail _ (List.Mem.tail _ (List.Mem.tail _ (List.Mem.head _)))) ?_
  refine w_aload_n dX4_heights_12 rfl (List.Mem.tail _ (List.Mem.head _)) ?_
  refine i_getI (ci := 7) 8 rfl dX4_heights_13 fl_4_131 (by decide) (gT hG (IsMk_t1 hG.2.2.2.2) (IsMk_lt hG.2.2.2.2 (k := 1) (by decide))) ?_
  refine i_cmp_ge (tgt := 39) dX4_heights_16 rfl rx4 (rI_R _ _ _) (fun c9 => ?_) (fun c9 => ?_)
  · replace h := h.1 c9
    refine w_lload_n dX4_heights_39 rfl (List.Mem.tail _ (List.Mem.tail _ (List.Mem.head _))) ?_
    exact w_lret dX4_heights_40 rfl h
  · replace h := h.2 c9
    refine w_lload_n dX4_heights_19 rfl (List.Mem.tail _ (List.Mem.tail _ (List.Mem.head _))) ?_
    refine w_bipush (v := nZ 6) dX4_heights_20 (by decide) ?_
    refine j_shl dX4_heights_22 ?_
    refine w_aload_n dX4_heights_23 rfl (List.Mem.tail _ (List.Mem.head _)) ?_
    refine w_getR (ci := 7) (k := 2) (b := (u + 4)) dX4_heights_24 fl_4_145 (by decide) (gT hG (IsMk_t1 hG.2.2.2.2) (IsMk_lt hG.2.2.2.2 (k := 1) (by decide))) (gR hG (IsMk_r1_2 hG.2.2.2.2)) ?_
    refine w_iload dX4_heights_27 (List.Mem.tail _ (List.Mem.tail _ (List.Mem.tail _ (List.Mem.head _)))) ?_
    obtain ⟨h9, h⟩ := h
    refine i_iald (n := 9) dX4_heights_29 (gT hG (IsMk_t4 hG.2.2.2.2) (IsMk_lt hG.2.2.2.2 (k := 4) (by decide))) (gL hG (IsMk_n4 hG.2.2.2.2)) rx4 h9 ?_
    refine i_2l dX4_heights_30 (rI_R _ _ _) ?_
    refine j_or dX4_heights_31 ?_
    refine top_j (fun z1 ez2 => ?_)
    have rz3 : inJ z1 := ez2 ▸ (zLor_J _ _)
    replace h := h z1 ez2
    refine w_lstore_n (l' := [(2, .long (nJ z1)), (0, .ref 26), (1, .ref (u + 1)), (4, .int (nZ x4))]) dX4_heights_32 rfl (by decide) rfl ?_
    obtain ⟨q4, h⟩ := h
    refine w_iinc (v := nZ (x4 + 1)) (l' := [(4, .int (nZ (x4 + 1))), (2, .long (nJ z1)), (0, .ref 26), (1, .ref (u + 1))]) dX4_heights_33 (List.Mem.tail _ (List.Mem.tail _ (List.Mem.tail _ (List.Mem.head _)))) (nZ_add _ _) (by decide) rfl ?_
    refine w_goto (tgt := 10) dX4_heights_36 rfl ?_
    exact w_weak (l' := [(0, .ref 26), (1, .ref (u + 1)), (2, .long (nJ z1)), (4, .int (nZ (x4 + 1)))]) (by intro q hq; simp only [List.mem_cons, List.not_mem_nil, or_false] at hq ⊢; rcases hq with rfl | rfl | rfl | rfl <;> simp) h
theorem dX4_explain_0 : decode cX4_explain 0 = .ok (.aload_n 0, 1) := by decide +kernel
theorem dX4_explain_1 : decode cX4_explain 1 = .ok (.getfield 12, 3) := by decide +kernel
theorem dX4_explain_4 : decode cX4_explain 4 = .ok (.getfield 57, 3) := by decide +kernel
theorem dX4_explain_7 : decode cX4_explain 7 = .ok (.astore_n 1, 1) := by decide +kernel
theorem dX4_explain_8 : decode cX4_explain 8 = .ok (.aload_n 0, 1) := by decide +kernel
theorem dX4_explain_9 : decode cX4_explain 9 = .ok (.invokevirtual 67, 3) := by decide +kernel
theorem dX4_explain_12 : decode cX4_explain 12 = .ok (.astore_n 2, 1) := by decide +kernel
theorem dX4_explain_13 : decode cX4_explain 13 = .ok (.aload_n 0, 1) := by decide +kernel
theorem dX4_explain_14 : decode cX4_explain 14 = .ok (.iconst 0, 1) := by decide +kernel
theorem dX4_explain_15 : decode cX4_explain 15 = .ok (.putfield 48, 3) := by decide +kernel
theorem dX4_explain_18 : decode cX4_explain 18 = .ok (.aload_n 0, 1) := by decide +kernel
theorem dX4_explain_19 : decode cX4_explain 19 = .ok (.iconst (-1), 1) := by decide +kernel
theorem dX4_explain_20 : decode cX4_explain 20 = .ok (.putfield 51, 3) := by decide +kernel
theorem dX4_explain_23 : decode cX4_explain 23 = .ok (.iconst 0, 1) := by decide +kernel
theorem dX4_explain_24 : decode cX4_explain 24 = .ok (.istore_n 3, 1) := by decide +kernel
theorem dX4_explain_25 : decode cX4_explain 25 = .ok (.iload_n 3, 1) := by decide +kernel
theorem dX4_explain_26 : decode cX4_explain 26 = .ok (.aload_n 2, 1) := by decide +kernel
theorem dX4_explain_27 : decode cX4_explain 27 = .ok (.getfield 131, 3) := by decide +kernel
theorem dX4_explain_30 : decode cX4_explain 30 = .ok (.if_icmp .ge 23, 3) := by decide +kernel
theorem dX4_explain_33 : decode cX4_explain 33 = .ok (.aload_n 0, 1) := by decide +kernel
theorem dX4_explain_34 : decode cX4_explain 34 = .ok (.getfield 28, 3) := by decide +kernel
theorem dX4_explain_37 : decode cX4_explain 37 = .ok (.iload_n 3, 1) := by decide +kernel
theorem dX4_explain_38 : decode cX4_explain 38 = .ok (.aload_n 0, 1) := by decide +kernel
theorem dX4_explain_39 : decode cX4_explain 39 = .ok (.getfield 12, 3) := by decide +kernel
theorem dX4_explain_42 : decode cX4_explain 42 = .ok (.iload_n 3, 1) := by decide +kernel
theorem dX4_explain_43 : decode cX4_explain 43 = .ok (.invokevirtual 170, 3) := by decide +kernel
theorem dX4_explain_46 : decode cX4_explain 46 = .ok (.iastore, 1) := by decide +kernel
theorem dX4_explain_47 : decode cX4_explain 47 = .ok (.iinc 3 1, 3) := by decide +kernel
theorem dX4_explain_50 : decode cX4_explain 50 = .ok (.goto (-25), 3) := by decide +kernel
theorem dX4_explain_53 : decode cX4_explain 53 = .ok (.iconst 0, 1) := by decide +kernel
theorem dX4_explain_54 : decode cX4_explain 54 = .ok (.istore_n 3, 1) := by decide +kernel
theorem dX4_explain_55 : decode cX4_explain 55 = .ok (.iload_n 3, 1) := by decide +kernel
theorem dX4_explain_56 : decode cX4_explain 56 = .ok (.aload_n 1, 1) := by decide +kernel
theorem dX4_explain_57 : decode cX4_explain 57 = .ok (.getfield 99, 3) := by decide +kernel
theorem dX4_explain_60 : decode cX4_explain 60 = .ok (.if_icmp .ge 45, 3) := by decide +kernel
theorem dX4_explain_63 : decode cX4_explain 63 = .ok (.iconst 0, 1) := by decide +kernel
theorem dX4_explain_64 : decode cX4_explain 64 = .ok (.istore 4, 2) := by decide +kernel
theorem dX4_explain_66 : decode cX4_explain 66 = .ok (.iload 4, 2) := by decide +kernel
theorem dX4_explain_68 : decode cX4_explain 68 = .ok (.aload_n 1, 1) := by decide +kernel
theorem dX4_explain_69 : decode cX4_explain 69 = .ok (.getfield 102, 3) := by decide +kernel
theorem dX4_explain_72 : decode cX4_explain 72 = .ok (.if_icmp .ge 27, 3) := by decide +kernel
theorem dX4_explain_75 : decode cX4_explain 75 = .ok (.aload_n 2, 1) := by decide +kernel
theorem dX4_explain_76 : decode cX4_explain 76 = .ok (.iload 4, 2) := by decide +kernel
theorem dX4_explain_78 : decode cX4_explain 78 = .ok (.iload_n 3, 1) := by decide +kernel
theorem dX4_explain_79 : decode cX4_explain 79 = .ok (.invokevirtual 105, 3) := by decide +kernel
theorem dX4_explain_82 : decode cX4_explain 82 = .ok (.iconst (-1), 1) := by decide +kernel
theorem dX4_explain_83 : decode cX4_explain 83 = .ok (.if_icmp .ne 10, 3) := by decide +kernel
theorem dX4_explain_86 : decode cX4_explain 86 = .ok (.aload_n 0, 1) := by decide +kernel
theorem dX4_explain_87 : decode cX4_explain 87 = .ok (.iload 4, 2) := by decide +kernel
theorem dX4_explain_89 : decode cX4_explain 89 = .ok (.iload_n 3, 1) := by decide +kernel
theorem dX4_explain_90 : decode cX4_explain 90 = .ok (.invokevirtual 173, 3) := by decide +kernel
theorem dX4_explain_93 : decode cX4_explain 93 = .ok (.iinc 4 1, 3) := by decide +kernel
theorem dX4_explain_96 : decode cX4_explain 96 = .ok (.goto (-30), 3) := by decide +kernel
theorem dX4_explain_99 : decode cX4_explain 99 = .ok (.iinc 3 1, 3) := by decide +kernel
theorem dX4_explain_102 : decode cX4_explain 102 = .ok (.goto (-47), 3) := by decide +kernel
theorem dX4_explain_105 : decode cX4_explain 105 = .ok (.return_, 1) := by decide +kernel
def L_X4_explain_25 (C : aM → List Value → aH → aO → aH → Prop) (sc : Nat × (Nat → Int32)) (P : aO → aH → Prop) (u : Nat) (x3 : Int) (σ : aH) : Prop :=
    wp C 4 cX4_explain 5 none false [] sc P 25 [(0, .ref 26), (1, .ref u), (2, .ref (u + 1)), (3, .int (nZ x3))] [] σ
def L_X4_explain_55 (C : aM → List Value → aH → aO → aH → Prop) (sc : Nat × (Nat → Int32)) (P : aO → aH → Prop) (u : Nat) (x3 : Int) (σ : aH) : Prop :=
    wp C 4 cX4_explain 5 none false [] sc P 55 [(0, .ref 26), (1, .ref u), (2, .ref (u + 1)), (3, .int (nZ x3))] [] σ
def L_X4_explain_66 (C : aM → List Value → aH → aO → aH → Prop) (sc : Nat × (Nat → Int32)) (P : aO → aH → Prop) (u : Nat) (x3 : Int) (x4 : Int) (σ : aH) : Prop :=
    wp C 4 cX4_explain 5 none false [] sc P 66 [(0, .ref 26), (1, .ref u), (2, .ref (u + 1)), (3, .int (nZ x3)), (4, .int (nZ x4))] [] σ
set_option maxRecDepth 10000 in
theorem t_X4_explain {sc : Nat × (Nat → Int32)} {d : Nat} {Q : aO → aH → Prop} {σ : aH} {u : Nat}   (hG : G σ u) 
    (h : (∃ σ1 : aH, Ev sc d mX4_stalls [.ref 26] σ (.inl (some (.ref (u + 1)))) σ1 ∧ G σ1 u ∧ (∀ σ5 : aH, wI σ1 26 10 0 = σ5 → (∀ σ8 : aH, wI σ5 26 11 (-1) = σ8 → L_X4_explain_25 (Ev sc d) sc Q u 0 σ8)))) :
    T sc (d + 1) mX4_explain [.ref 26] σ Q := by
  refine T.of (c := 4) (code := cX4_explain) (mL := 5) (rt := none) (ini := false) (l := [(0, .ref 26)]) rfl rfl rfl rfl (by decide) hs_X4_explain rfl rfl ?_
  refine w_aload_n dX4_explain_0 rfl (List.Mem.head _) ?_
  refine w_getR (ci := 4) (k := 0) (b := 27) dX4_explain_1 fl_4_12 (by decide) (gT hG rfl (lt_of rfl)) (gR hG (b := 27) rfl) ?_
  refine w_getM (ci := 6) (k := 5) (b := u) dX4_explain_4 fl_4_57 (by decide) (gT hG rfl (lt_of rfl)) hG.2.2.2.1 ?_
  refine w_astore_n (l' := [(1, .ref u), (0, .ref 26)]) dX4_explain_7 rfl (by decide) rfl ?_
  refine w_aload_n dX4_explain_8 rfl (List.Mem.tail _ (List.Mem.head _)) ?_
  obtain ⟨σ1, hc3, hG2, h⟩ := h
  refine w_callV dX4_explain_9 ml_4_67 ⟨ok_X4_stalls, vi_X4_stalls⟩ hs_X4_stalls (As := []) rfl rfl (gT hG rfl (lt_of rfl)) (Nat.le_of_ble_eq_true rfl) hc3 ?_
  show wp (Ev sc d) 4 cX4_explain 5 none false [] sc Q 12 [(1, .ref u), (0, .ref 26)] [.ref (u + 1)] σ1
  refine w_astore_n (l' := [(2, .ref (u + 1)), (1, .ref u), (0, .ref 26)]) dX4_explain_12 rfl (by decide) rfl ?_
  refine w_aload_n dX4_explain_13 rfl (List.Mem.tail _ (List.Mem.tail _ (List.Mem.head _))) ?_
  refine w_iconst (v := nZ 0) dX4_explain_14 (by decide) ?_
  refine i_putI (ci := 4) 10 rfl dX4_explain_15 fl_4_48 (by decide) (gT hG2 rfl (lt_of rfl)) (fun σ5 eσ6 => ?_)
  replace h := h σ5 eσ6
  have hG7 : G σ5 u := eσ6 ▸ G.wI hG2
  refine w_aload_n dX4_explain_18 rfl (List.Mem.tail _ (List.Mem.tail _ (List.Mem.head _))) ?_
  refine w_iconst (v := nZ (-1)) dX4_explain_19 (by decide) ?_
  refine i_putI (ci := 4) 11 rfl dX4_explain_20 fl_4_51 (by decide) (gT hG7 rfl (lt_of rfl)) (fun σ8 eσ9 => ?_)
  replace h := h σ8 eσ9
  have hG10 : G σ8 u := eσ9 ▸ G.wI hG7
  refine w_iconst (v := nZ 0) dX4_explain_23 (by decide) ?_
  refine w_istore_n (l' := [(3, .int (nZ 0)), (2, .ref (u + 1)), (1, .ref u), (0, .ref 26)]) dX4_explain_24 rfl (by decide) rfl ?_
  exact w_weak (l' := [(0, .ref 26), (1, .ref u), (2, .ref (u + 1)), (3, .int (nZ 0))]) (by intro q hq; simp only [List.mem_cons, List.not_mem_nil, or_false] at hq ⊢; rcases hq with rfl | rfl | rfl | rfl <;> simp) h
set_option maxRecDepth 10000 in
theorem v_X4_explain_25 {C : aM → List Value → aH → aO → aH → Prop} {sc : Nat × (Nat → Int32)} {P : aO → aH → Prop} {σ : aH} {u : Nat}  {x3 : Int} (hG : G σ u) (rx3 : inR x3)
    (h : (((rI σ (u + 1) 8) ≤ x3 → L_X4_explain_55 C sc P u 0 σ) ∧ (¬ ((rI σ (u + 1) 8) ≤ x3) → (∃ (r5 : Int) (σ1 : aH), C mX6_chillOf [.ref 27, .int (nZ x3)] σ (.inl (some (.int (nZ r5)))) σ1 ∧ G σ1 u ∧ inR r5 ∧ ((0 ≤ x3 ∧ x3 < 9) ∧ (∀ σ6 : aH, wI σ1 58 x3 r5 = σ6 → (inR (x3 + 1) ∧ L_X4_explain_25 C sc P u (x3 + 1) σ6))))))) :
    L_X4_explain_25 C sc P u x3 σ := by
  unfold L_X4_explain_25
  refine w_iload_n dX4_explain_25 rfl (List.Mem.tail _ (List.Mem.tail _ (List.Mem.tail _ (List.Mem.head _)))) ?_
  refine w_aload_n dX4_explain_26 rfl (List.Mem.tail _ (List.Mem.tail _ (List.Mem.head _))) ?_
  refine i_getI (ci := 7) 8 rfl dX4_explain_27 fl_4_131 (by decide) (gT hG (IsMk_t1 hG.2.2.2.2) (IsMk_lt hG.2.2.2.2 (k := 1) (by decide))) ?_
  refine i_cmp_ge (tgt := 53) dX4_explain_30 rfl rx3 (rI_R _ _ _) (fun c9 => ?_) (fun c9 => ?_)
  · replace h := h.1 c9
    refine w_iconst (v := nZ 0) dX4_explain_53 (by decide) ?_
    refine w_istore_n (l' := [(3, .int (nZ 0)), (0, .ref 26), (1, .ref u), (2, .ref (u + 1))]) dX4_explain_54 rfl (by decide) rfl ?_
    exact w_weak (l' := [(0, .ref 26), (1, .ref u), (2, .ref (u + 1)), (3, .int (nZ 0))]) (by intro q hq; simp only [List.mem_cons, List.not_mem_nil, or_false] at hq ⊢; rcases hq with rfl | rfl | rfl | rfl <;> simp) h
  · replace h := h.2 c9
    refine w_aload_n dX4_explain_33 rfl (List.Mem.head _) ?_
    refine w_getR (ci := 4) (k := 4) (b := 58) dX4_explain_34 fl_4_28 (by decide) (gT hG rfl (lt_of rfl)) (gR hG (b := 58) rfl) ?_
    refine w_iload_n dX4_explain_37 rfl (List.Mem.tail _ (List.Mem.tail _ (List.Mem.tail _ (List.Mem.head _)))) ?_
    refine w_aload_n dX4_explain_38 rfl (List.Mem.head _) ?_
    refine w_getR (ci := 4) (k := 0) (b := 27) dX4_explain_39 fl_4_12 (by decide) (gT hG rfl (lt_of rfl)) (gR hG (b := 27) rfl) ?_
    refine w_iload_n dX4_explain_42 rfl (List.Mem.tail _ (List.Mem.tail _ (List.Mem.tail _ (List.Mem.head _)))) ?_
    obtain ⟨r5, σ1, hc3, hG2, rr4, h⟩ := h
    refine w_callV dX4_explain_43 ml_4_170 ⟨ok_X6_chillOf, vi_X6_chillOf⟩ hs_X6_chillOf (As := [.int (nZ x3)]) rfl rfl (gT hG rfl (lt_of rfl)) (Nat.le_of_ble_eq_true rfl) hc3 ?_
    show wp C 4 cX4_explain 5 none false [] sc P 46 [(0, .ref 26), (1, .ref u), (2, .ref (u + 1)), (3, .int (nZ x3))] [.int (nZ r5), .int (nZ x3), .ref 58] σ1
    obtain ⟨h9, h⟩ := h
    refine i_iast (n := 9) dX4_explain_46 (gT hG2 rfl (lt_of rfl)) (gL hG2 rfl) rx3 h9 (fun σ6 eσ7 => ?_)
    replace h := h σ6 eσ7
    have hG8 : G σ6 u := eσ7 ▸ G.wI hG2
    obtain ⟨q9, h⟩ := h
    refine w_iinc (v := nZ (x3 + 1)) (l' := [(3, .int (nZ (x3 + 1))), (0, .ref 26), (1, .ref u), (2, .ref (u + 1))]) dX4_explain_47 (List.Mem.tail _ (List.Mem.tail _ (List.Mem.tail _ (List.Mem.head _)))) (nZ_add _ _) (by decide) rfl ?_
    refine w_goto (tgt := 25) dX4_explain_50 rfl ?_
    exact w_weak (l' := [(0, .ref 26), (1, .ref u), (2, .ref (u + 1)), (3, .int (nZ (x3 + 1)))]) (by intro q hq; simp only [List.mem_cons, List.not_mem_nil, or_false] at hq ⊢; rcases hq with rfl | rfl | rfl | rfl <;> simp) h
set_option maxRecDepth 10000 in
theorem v_X4_explain_55 {C : aM → List Value → aH → aO → aH → Prop} {sc : Nat × (Nat → Int32)} {P : aO → aH → Prop} {σ : aH} {u : Nat}  {x3 : Int} (hG : G σ u) (rx3 : inR x3)
    (h : (((rI σ u 4) ≤ x3 → P (.inl none) σ) ∧ (¬ ((rI σ u 4) ≤ x3) → L_X4_explain_66 C sc P u x3 0 σ))) :
    L_X4_explain_55 C sc P u x3 σ := by
  unfold L_X4_explain_55
  refine w_iload_n dX4_explain_55 rfl (List.Mem.tail _ (List.Mem.tail _ (List.Mem.tail _ (List.Mem.head _)))) ?_
  refine w_aload_n dX4_explain_56 rfl (List.Mem.tail _ (List.Mem.head _)) ?_
  refine i_getI (ci := 2) 4 rfl dX4_explain_57 fl_4_99 (by decide) (gT hG (IsMk_t0 hG.2.2.2.2) (IsMk_lt hG.2.2.2.2 (k := 0) (by decide))) ?_
  refine i_cmp_ge (tgt := 105) dX4_explain_60 rfl rx3 (rI_R _ _ _) (fun c9 => ?_) (fun c9 => ?_)
  · replace h := h.1 c9
    exact w_vret dX4_explain_105 rfl h
  · replace h := h.2 c9
    refine w_iconst (v := nZ 0) dX4_explain_63 (by decide) ?_
    refine w_istore (l' := [(4, .int (nZ 0)), (0, .ref 26), (1, .ref u), (2, .ref (u + 1)), (3, .int (nZ x3))]) dX4_explain_64 (by decide) rfl ?_
    exact w_weak (l' := [(0, .ref 26), (1, .ref u), (2, .ref (u + 1)), (3, .int (nZ x3)), (4, .int (nZ 0))]) (by intro q hq; simp only [List.mem_cons, List.not_mem_nil, or_false] at hq ⊢; rcases hq with rfl | rfl | rfl | rfl | rfl <;> simp) h
set_option maxRecDepth 10000 in
theorem v_X4_explain_66 {C : aM → List Value → aH → aO → aH → Prop} {sc : Nat × (Nat → Int32)} {P : aO → aH → Prop} {σ : aH} {u : Nat}  {x3 : Int} {x4 : Int} (hG : G σ u) (rx3 : inR x3) (rx4 : inR x4)
    (h : (((rI σ u 3) ≤ x4 → (inR (x3 + 1) ∧ L_X4_explain_55 C sc P u (x3 + 1) σ)) ∧ (¬ ((rI σ u 3) ≤ x4) → (∃ (r6 : Int) (σ2 : aH), C mX7_whoIsAt [.ref (u + 1), .int (nZ x4), .int (nZ x3)] σ (.inl (some (.int (nZ r6)))) σ2 ∧ G σ2 u ∧ inR r6 ∧ ((¬ r6 = (-1) → (inR (x4 + 1) ∧ L_X4_explain_66 C sc P u x3 (x4 + 1) σ2)) ∧ (r6 = (-1) → (∃ σ8 : aH, C mX4_explainBy [.ref 26, .int (nZ x4), .int (nZ x3)] σ2 (.inl none) σ8 ∧ G σ8 u ∧ (inR (x4 + 1) ∧ L_X4_explain_66 C sc P u x3 (x4 + 1) σ8)))))))) :
    L_X4_explain_66 C sc P u x3 x4 σ := by
  unfold L_X4_explain_66
  refine w_iload dX4_explain_66 (List.Mem.tail _ (List.Mem.tail _ (List.Mem.tail _ (List.Mem.tail _ (List.Mem.head _))))) ?_
  refine w_aload_n dX4_explain_68 rfl (List.Mem.tail _ (List.Mem.head _)) ?_
  refine i_getI (ci := 2) 3 rfl dX4_explain_69 fl_4_102 (by decide) (gT hG (IsMk_t0 hG.2.2.2.2) (IsMk_lt hG.2.2.2.2 (k := 0) (by decide))) ?_
  refine i_cmp_ge (tgt := 99) dX4_explain_72 rfl rx4 (rI_R _ _ _) (fun c9 => ?_) (fun c9 => ?_)
  · replace h := h.1 c9
    obtain ⟨q1, h⟩ := h
    refine w_iinc (v := nZ (x3 + 1)) (l' := [(3, .int (nZ (x3 + 1))), (0, .ref 26), (1, .ref u), (2, .ref (u + 1)), (4, .int (nZ x4))]) dX4_explain_99 (List.Mem.tail _ (List.Mem.tail _ (List.Mem.tail _ (List.Mem.head _)))) (nZ_add _ _) (by decide) rfl ?_
    refine w_goto (tgt := 55) dX4_explain_102 rfl ?_
    exact w_weak (l' := [(0, .ref 26), (1, .ref u), (2, .ref (u + 1)), (3, .int (nZ (x3 + 1)))]) (by intro q hq; simp only [List.mem_cons, List.not_mem_nil, or_false] at hq ⊢; rcases hq with rfl | rfl | rfl | rfl <;> simp) h
  · replace h := h.2 c9
    refine w_aload_n dX4_explain_75 rfl (List.Mem.tail _ (List.Mem.tail _ (List.Mem.head _))) ?_
    refine w_iload dX4_explain_76 (List.Mem.tail _ (List.Mem.tail _ (List.Mem.tail _ (List.Mem.tail _ (List.Mem.head _))))) ?_
    refine w_iload_n dX4_explain_78 rfl (List.Mem.tail _ (List.Mem.tail _ (List.Mem.tail _ (List.Mem.head _)))) ?_
    obtain ⟨r6, σ2, hc4, hG3, rr5, h⟩ := h
    refine w_callV dX4_explain_79 ml_4_105 ⟨ok_X7_whoIsAt, vi_X7_whoIsAt⟩ hs_X7_whoIsAt (As := [.int (nZ x4), .int (nZ x3)]) rfl rfl (gT hG (IsMk_t1 hG.2.2.2.2) (IsMk_lt hG.2.2.2.2 (k := 1) (by decide))) (Nat.le_of_ble_eq_true rfl) hc4 ?_
    show wp C 4 cX4_explain 5 none false [] sc P 82 [(0, .ref 26), (1, .ref u), (2, .ref (u + 1)), (3, .int (nZ x3)), (4, .int (nZ x4))] [.int (nZ r6)] σ2
    refine w_iconst (v := nZ (-1)) dX4_explain_82 (by decide) ?_
    refine i_cmp_ne (tgt := 93) dX4_explain_83 rfl rr5 (by decide) (fun c9 => ?_) (fun c9 => ?_)
    · replace h := h.1 c9
      obtain ⟨q7, h⟩ := h
      refine w_iinc (v := nZ (x4 + 1)) (l' := [(4, .int (nZ (x4 + 1))), (0, .ref 26), (1, .ref u), (2, .ref (u + 1)), (3, .int (nZ x3))]) dX4_explain_93 (List.Mem.tail _ (List.Mem.tail _ (List.Mem.tail _ (List.Mem.tail _ (List.Mem.head _))))) (nZ_add _ _) (by decide) rfl ?_
      refine w_goto (tgt := 66) dX4_explain_96 rfl ?_
      exact w_weak (l' := [(0, .ref 26), (1, .ref u), (2, .ref (u + 1)), (3, .int (nZ x3)), (4, .int (nZ (x4 + 1)))]) (by intro q hq; simp only [List.mem_cons, List.not_mem_nil, or_false] at hq ⊢; rcases hq with rfl | rfl | rfl | rfl | rfl <;> simp) h
    · replace h := h.2 c9
      refine w_aload_n dX4_explain_86 rfl (List.Mem.head _) ?_
      refine w_iload dX4_explain_87 (List.Mem.tail _ (List.Mem.tail _ (List.Mem.tail _ (List.Mem.tail _ (List.Mem.head _))))) ?_
      refine w_iload_n dX4_explain_89 rfl (List.Mem.tail _ (List.Mem.tail _ (List.Mem.tail _ (List.Mem.head _)))) ?_
      obtain ⟨σ8, hc10, hG9, h⟩ := h
      refine w_callV dX4_explain_90 ml_4_173 ⟨ok_X4_explainBy, vi_X4_explainBy⟩ hs_X4_explainBy (As := [.int (nZ x4), .int (nZ x3)]) rfl rfl (gT hG3 rfl (lt_of rfl)) (Nat.le_of_ble_eq_true rfl) hc10 ?_
      show wp C 4 cX4_explain 5 none false [] sc P 93 [(0, .ref 26), (1, .ref u), (2, .ref (u + 1)), (3, .int (nZ x3)), (4, .int (nZ x4))] [] σ8
      obtain ⟨q12, h⟩ := h
      refine w_iinc (v := nZ (x4 + 1)) (l' := [(4, .int (nZ (x4 + 1))), (0, .ref 26), (1, .ref u), (2, .ref (u + 1)), (3, .int (nZ x3))]) dX4_explain_93 (List.Mem.tail _ (List.Mem.tail _ (List.Mem.tail _ (List.Mem.tail _ (List.Mem.head _))))) (nZ_add _ _) (by decide) rfl ?_
      refine w_goto (tgt := 66) dX4_explain_96 rfl ?_
      exact w_weak (l' := [(0, .ref 26), (1, .ref u), (2, .ref (u + 1)), (3, .int (nZ x3)), (4, .int (nZ (x4 + 1)))]) (by intro q hq; simp only [List.mem_cons, List.not_mem_nil, or_false] at hq ⊢; rcases hq with rfl | rfl | rfl | rfl | rfl <;> simp) h
theorem dX4_explainBy_0 : decode cX4_explainBy 0 = .ok (.aload_n 0, 1) := by decide +kernel
theorem dX4_explainBy_1 : decode cX4_explainBy 1 = .ok (.invokevirtual 67, 3) := by decide +kernel
theorem dX4_explainBy_4 : decode cX4_explainBy 4 = .ok (.astore_n 3, 1) := by decide +kernel
theorem dX4_explainBy_5 : decode cX4_explainBy 5 = .ok (.iconst 1, 1) := by decide +kernel
theorem dX4_explainBy_6 : decode cX4_explainBy 6 = .ok (.istore 4, 2) := by decide +kernel
theorem dX4_explainBy_8 : decode cX4_explainBy 8 = .ok (.iload 4, 2) := by decide +kernel
theorem dX4_explainBy_10 : decode cX4_explainBy 10 = .ok (.bipush 60, 2) := by decide +kernel
theorem dX4_explainBy_12 : decode cX4_explainBy 12 = .ok (.if_icmp .gt 83, 3) := by decide +kernel
theorem dX4_explainBy_15 : decode cX4_explainBy 15 = .ok (.aload_n 3, 1) := by decide +kernel
theorem dX4_explainBy_16 : decode cX4_explainBy 16 = .ok (.iload_n 1, 1) := by decide +kernel
theorem dX4_explainBy_17 : decode cX4_explainBy 17 = .ok (.iload_n 2, 1) := by decide +kernel
theorem dX4_explainBy_18 : decode cX4_explainBy 18 = .ok (.iload 4, 2) := by decide +kernel
theorem dX4_explainBy_20 : decode cX4_explainBy 20 = .ok (.invokevirtual 142, 3) := by decide +kernel
theorem dX4_explainBy_23 : decode cX4_explainBy 23 = .ok (.aload_n 0, 1) := by decide +kernel
theorem dX4_explainBy_24 : decode cX4_explainBy 24 = .ok (.aload_n 3, 1) := by decide +kernel
theorem dX4_explainBy_25 : decode cX4_explainBy 25 = .ok (.getfield 131, 3) := by decide +kernel
theorem dX4_explainBy_28 : decode cX4_explainBy 28 = .ok (.iconst 1, 1) := by decide +kernel
theorem dX4_explainBy_29 : decode cX4_explainBy 29 = .ok (.isub, 1) := by decide +kernel
theorem dX4_explainBy_30 : decode cX4_explainBy 30 = .ok (.invokevirtual 176, 3) := by decide +kernel
theorem dX4_explainBy_33 : decode cX4_explainBy 33 = .ok (.istore 5, 2) := by decide +kernel
theorem dX4_explainBy_35 : decode cX4_explainBy 35 = .ok (.aload_n 3, 1) := by decide +kernel
theorem dX4_explainBy_36 : decode cX4_explainBy 36 = .ok (.dup, 1) := by decide +kernel
theorem dX4_explainBy_37 : decode cX4_explainBy 37 = .ok (.getfield 131, 3) := by decide +kernel
theorem dX4_explainBy_40 : decode cX4_explainBy 40 = .ok (.iconst 1, 1) := by decide +kernel
theorem dX4_explainBy_41 : decode cX4_explainBy 41 = .ok (.isub, 1) := by decide +kernel
theorem dX4_explainBy_42 : decode cX4_explainBy 42 = .ok (.putfield 131, 3) := by decide +kernel
theorem dX4_explainBy_45 : decode cX4_explainBy 45 = .ok (.iload 5, 2) := by decide +kernel
theorem dX4_explainBy_47 : decode cX4_explainBy 47 = .ok (.ifCond .eq 13, 3) := by decide +kernel
theorem dX4_explainBy_50 : decode cX4_explainBy 50 = .ok (.aload_n 0, 1) := by decide +kernel
theorem dX4_explainBy_51 : decode cX4_explainBy 51 = .ok (.dup, 1) := by decide +kernel
theorem dX4_explainBy_52 : decode cX4_explainBy 52 = .ok (.getfield 48, 3) := by decide +kernel
theorem dX4_explainBy_55 : decode cX4_explainBy 55 = .ok (.iconst 1, 1) := by decide +kernel
theorem dX4_explainBy_56 : decode cX4_explainBy 56 = .ok (.iadd, 1) := by decide +kernel
theorem dX4_explainBy_57 : decode cX4_explainBy 57 = .ok (.putfield 48, 3) := by decide +kernel
theorem dX4_explainBy_60 : decode cX4_explainBy 60 = .ok (.iload 5, 2) := by decide +kernel
theorem dX4_explainBy_62 : decode cX4_explainBy 62 = .ok (.ifCond .eq 27, 3) := by decide +kernel
theorem dX4_explainBy_65 : decode cX4_explainBy 65 = .ok (.aload_n 0, 1) := by decide +kernel
theorem dX4_explainBy_66 : decode cX4_explainBy 66 = .ok (.getfield 51, 3) := by decide +kernel
theorem dX4_explainBy_69 : decode cX4_explainBy 69 = .ok (.iconst (-1), 1) := by decide +kernel
theorem dX4_explainBy_70 : decode cX4_explainBy 70 = .ok (.if_icmp .ne 19, 3) := by decide +kernel
theorem dX4_explainBy_73 : decode cX4_explainBy 73 = .ok (.aload_n 0, 1) := by decide +kernel
theorem dX4_explainBy_74 : decode cX4_explainBy 74 = .ok (.bipush 100, 2) := by decide +kernel
theorem dX4_explainBy_76 : decode cX4_explainBy 76 = .ok (.iload 4, 2) := by decide +kernel
theorem dX4_explainBy_78 : decode cX4_explainBy 78 = .ok (.imul, 1) := by decide +kernel
theorem dX4_explainBy_79 : decode cX4_explainBy 79 = .ok (.iload_n 1, 1) := by decide +kernel
theorem dX4_explainBy_80 : decode cX4_explainBy 80 = .ok (.iadd, 1) := by decide +kernel
theorem dX4_explainBy_81 : decode cX4_explainBy 81 = .ok (.bipush 10, 2) := by decide +kernel
theorem dX4_explainBy_83 : decode cX4_explainBy 83 = .ok (.iload_n 2, 1) := by decide +kernel
theorem dX4_explainBy_84 : decode cX4_explainBy 84 = .ok (.imul, 1) := by decide +kernel
theorem dX4_explainBy_85 : decode cX4_explainBy 85 = .ok (.iadd, 1) := by decide +kernel
theorem dX4_explainBy_86 : decode cX4_explainBy 86 = .ok (.putfield 51, 3) := by decide +kernel
theorem dX4_explainBy_89 : decode cX4_explainBy 89 = .ok (.iinc 4 1, 3) := by decide +kernel
theorem dX4_explainBy_92 : decode cX4_explainBy 92 = .ok (.goto (-84), 3) := by decide +kernel
theorem dX4_explainBy_95 : decode cX4_explainBy 95 = .ok (.return_, 1) := by decide +kernel
def L_X4_explainBy_8 (C : aM → List Value → aH → aO → aH → Prop) (sc : Nat × (Nat → Int32)) (P : aO → aH → Prop) (u : Nat) (x1 : Int) (x2 : Int) (x4 : Int) (σ : aH) : Prop :=
    wp C 4 cX4_explainBy 6 none false [] sc P 8 [(0, .ref 26), (1, .int (nZ x1)), (2, .int (nZ x2)), (3, .ref (u + 1)), (4, .int (nZ x4))] [] σ
def L_X4_explainBy_60 (C : aM → List Value → aH → aO → aH → Prop) (sc : Nat × (Nat → Int32)) (P : aO → aH → Prop) (u : Nat) (x1 : Int) (x2 : Int) (x4 : Int) (x5 : Int) (σ : aH) : Prop :=
    wp C 4 cX4_explainBy 6 none false [] sc P 60 [(0, .ref 26), (1, .int (nZ x1)), (2, .int (nZ x2)), (3, .ref (u + 1)), (4, .int (nZ x4)), (5, .int (nZ x5))] [] σ
set_option maxRecDepth 10000 in
theorem t_X4_explainBy {sc : Nat × (Nat → Int32)} {d : Nat} {Q : aO → aH → Prop} {σ : aH} {u : Nat}  {x1 : Int} {x2 : Int} (hG : G σ u) (rx1 : inR x1) (rx2 : inR x2)
    (h : (∃ σ1 : aH, Ev sc d mX4_stalls [.ref 26] σ (.inl (some (.ref (u + 1)))) σ1 ∧ G σ1 u ∧ L_X4_explainBy_8 (Ev sc d) sc Q u x1 x2 1 σ1)) :
    T sc (d + 1) mX4_explainBy [.ref 26, .int (nZ x1), .int (nZ x2)] σ Q := by
  refine T.of (c := 4) (code := cX4_explainBy) (mL := 6) (rt := none) (ini := false) (l := [(0, .ref 26), (1, .int (nZ x1)), (2, .int (nZ x2))]) rfl rfl rfl rfl (by decide) hs_X4_explainBy rfl rfl ?_
  refine w_aload_n dX4_explainBy_0 rfl (List.Mem.head _) ?_
  obtain ⟨σ1, hc3, hG2, h⟩ := h
  refine w_callV dX4_explainBy_1 ml_4_67 ⟨ok_X4_stalls, vi_X4_stalls⟩ hs_X4_stalls (As := []) rfl rfl (gT hG rfl (lt_of rfl)) (Nat.le_of_ble_eq_true rfl) hc3 ?_
  show wp (Ev sc d) 4 cX4_explainBy 6 none false [] sc Q 4 [(0, .ref 26), (1, .int (nZ x1)), (2, .int (nZ x2))] [.ref (u + 1)] σ1
  refine w_astore_n (l' := [(3, .ref (u + 1)), (0, .ref 26), (1, .int (nZ x1)), (2, .int (nZ x2))]) dX4_explainBy_4 rfl (by decide) rfl ?_
  refine w_iconst (v := nZ 1) dX4_explainBy_5 (by decide) ?_
  refine w_istore (l' := [(4, .int (nZ 1)), (3, .ref (u + 1)), (0, .ref 26), (1, .int (nZ x1)), (2, .int (nZ x2))]) dX4_explainBy_6 (by decide) rfl ?_
  exact w_weak (l' := [(0, .ref 26), (1, .int (nZ x1)), (2, .int (nZ x2)), (3, .ref (u + 1)), (4, .int (nZ 1))]) (by intro q hq; simp only [List.mem_cons, List.not_mem_nil, or_false] at hq ⊢; rcases hq with rfl | rfl | rfl | rfl | rfl <;> simp) h
set_option maxRecDepth 10000 in
theorem v_X4_explainBy_8 {C : aM → List Value → aH → aO → aH → Prop} {sc : Nat × (Nat → Int32)} {P : aO → aH → Prop} {σ : aH} {u : Nat}  {x1 : Int} {x2 : Int} {x4 : Int} (hG : G σ u) (rx1 : inR x1) (rx2 : inR x2) (rx4 : inR x4)
    (h : ((60 < x4 → P (.inl none) σ) ∧ (¬ (60 < x4) → (∃ σ1 : aH, C mX7_add [.ref (u + 1), .int (nZ x1), .int (nZ x2), .int (nZ x4)] σ (.inl none) σ1 ∧ G σ1 u ∧ (inR ((rI σ1 (u + 1) 8) - 1) ∧ (∃ (r10 : Int) (σ6 : aH), C mX4_isAsTold [.ref 26, .int (nZ ((rI σ1 (u + 1) 8) - 1))] σ1 (.inl (some (.int (nZ r10)))) σ6 ∧ G σ6 u ∧ inR r10 ∧ (inR ((rI σ6 (u + 1) 8) - 1) ∧ (∀ σ12 : aH, wI σ6 (u + 1) 8 ((rI σ6 (u + 1) 8) - 1) = σ12 → ((r10 = 0 → L_X4_explainBy_60 C sc P u x1 x2 x4 r10 σ12) ∧ (¬ (r10 = 0) → (inR ((rI σ12 26 10) + 1) ∧ (∀ σ16 : aH, wI σ12 26 10 ((rI σ12 26 10) + 1) = σ16 → L_X4_explainBy_60 C sc P u x1 x2 x4 r10 σ16)))))))))))) :
    L_X4_explainBy_8 C sc P u x1 x2 x4 σ := by
  unfold L_X4_explainBy_8
  refine w_iload dX4_explainBy_8 (List.Mem.tail _ (List.Mem.tail _ (List.Mem.tail _ (List.Mem.tail _ (List.Mem.head _))))) ?_
  refine w_bipush (v := nZ 60) dX4_explainBy_10 (by decide) ?_
  refine i_cmp_gt (tgt := 95) dX4_explainBy_12 rfl rx4 (by decide) (fun c9 => ?_) (fun c9 => ?_)
  · replace h := h.1 c9
    exact w_vret dX4_explainBy_95 rfl h
  · replace h := h.2 c9
    refine w_aload_n dX4_explainBy_15 rfl (List.Mem.tail _ (List.Mem.tail _ (List.Mem.tail _ (List.Mem.head _)))) ?_
    refine w_iload_n dX4_explainBy_16 rfl (List.Mem.tail _ (List.Mem.head _)) ?_
    refine w_iload_n dX4_explainBy_17 rfl (List.Mem.tail _ (List.Mem.tail _ (List.Mem.head _))) ?_
    refine w_iload dX4_explainBy_18 (List.Mem.tail _ (List.Mem.tail _ (List.Mem.tail _ (List.Mem.tail _ (List.Mem.head _))))) ?_
    obtain ⟨σ1, hc3, hG2, h⟩ := h
    refine w_callV dX4_explainBy_20 ml_4_142 ⟨ok_X7_add, vi_X7_add⟩ hs_X7_add (As := [.int (nZ x1), .int (nZ x2), .int (nZ x4)]) rfl rfl (gT hG (IsMk_t1 hG.2.2.2.2) (IsMk_lt hG.2.2.2.2 (k := 1) (by decide))) (Nat.le_of_ble_eq_true rfl) hc3 ?_
    show wp C 4 cX4_explainBy 6 none false [] sc P 23 [(0, .ref 26), (1, .int (nZ x1)), (2, .int (nZ x2)), (3, .ref (u + 1)), (4, .int (nZ x4))] [] σ1
    refine w_aload_n dX4_explainBy_23 rfl (List.Mem.head _) ?_
    refine w_aload_n dX4_explainBy_24 rfl (List.Mem.tail _ (List.Mem.tail _ (List.Mem.tail _ (List.Mem.head _)))) ?_
    refine i_getI (ci := 7) 8 rfl dX4_explainBy_25 fl_4_131 (by decide) (gT hG2 (IsMk_t1 hG.2.2.2.2) (IsMk_lt hG.2.2.2.2 (k := 1) (by decide))) ?_
    refine w_iconst (v := nZ 1) dX4_explainBy_28 (by decide) ?_
    obtain ⟨q5, h⟩ := h
    refine i_sub dX4_explainBy_29 ?_
    obtain ⟨r10, σ6, hc8, hG7, rr9, h⟩ := h
    refine w_callV dX4_explainBy_30 ml_4_176 ⟨ok_X4_isAsTold, vi_X4_isAsTold⟩ hs_X4_isAsTold (As := [.int (nZ ((rI σ1 (u + 1) 8) - 1))]) rfl rfl (gT hG2 rfl (lt_of rfl)) (Nat.le_of_ble_eq_true rfl) hc8 ?_
    show wp C 4 cX4_explainBy 6 none false [] sc P 33 [(0, .ref 26), (1, .int (nZ x1)), (2, .int (nZ x2)), (3, .ref (u + 1)), (4, .int (nZ x4))] [.int (nZ r10)] σ6
    refine w_istore (l' := [(5, .int (nZ r10)), (0, .ref 26), (1, .int (nZ x1)), (2, .int (nZ x2)), (3, .ref (u + 1)), (4, .int (nZ x4))]) dX4_explainBy_33 (by decide) rfl ?_
    refine w_aload_n dX4_explainBy_35 rfl (List.Mem.tail _ (List.Mem.tail _ (List.Mem.tail _ (List.Mem.tail _ (List.Mem.head _))))) ?_
    refine w_dup dX4_explainBy_36 rfl ?_
    refine i_getI (ci := 7) 8 rfl dX4_explainBy_37 fl_4_131 (by decide) (gT hG7 (IsMk_t1 hG.2.2.2.2) (IsMk_lt hG.2.2.2.2 (k := 1) (by decide))) ?_
    refine w_iconst (v := nZ 1) dX4_explainBy_40 (by decide) ?_
    obtain ⟨q11, h⟩ := h
    refine i_sub dX4_explainBy_41 ?_
    refine i_putI (ci := 7) 8 rfl dX4_explainBy_42 fl_4_131 (by decide) (gT hG7 (IsMk_t1 hG.2.2.2.2) (IsMk_lt hG.2.2.2.2 (k := 1) (by decide))) (fun σ12 eσ13 => ?_)
    replace h := h σ12 eσ13
    have hG14 : G σ12 u := eσ13 ▸ G.wI hG7
    refine w_iload dX4_explainBy_45 (List.Mem.head _) ?_
    refine i_if_eq (tgt := 60) dX4_explainBy_47 rfl rr9 (fun c9 => ?_) (fun c9 => ?_)
    · replace h := h.1 c9
      exact w_weak (l' := [(0, .ref 26), (1, .int (nZ x1)), (2, .int (nZ x2)), (3, .ref (u + 1)), (4, .int (nZ x4)), (5, .int (nZ r10))]) (by intro q hq; simp only [List.mem_cons, List.not_mem_nil, or_false] at hq ⊢; rcases hq with rfl | rfl | rfl | rfl | rfl | rfl <;> simp) h
    · replace h := h.2 c9
      refine w_aload_n dX4_explainBy_50 rfl (List.Mem.tail _ (List.Mem.head _)) ?_
      refine w_dup dX4_explainBy_51 rfl ?_
      refine i_getI (ci := 4) 10 rfl dX4_explainBy_52 fl_4_48 (by decide) (gT hG14 rfl (lt_of rfl)) ?_
      refine w_iconst (v := nZ 1) dX4_explainBy_55 (by decide) ?_
      obtain ⟨q15, h⟩ := h
      refine i_add dX4_explainBy_56 ?_
      refine i_putI (ci := 4) 10 rfl dX4_explainBy_57 fl_4_48 (by decide) (gT hG14 rfl (lt_of rfl)) (fun σ16 eσ17 => ?_)
      replace h := h σ16 eσ17
      have hG18 : G σ16 u := eσ17 ▸ G.wI hG14
      exact w_weak (l' := [(0, .ref 26), (1, .int (nZ x1)), (2, .int (nZ x2)), (3, .ref (u + 1)), (4, .int (nZ x4)), (5, .int (nZ r10))]) (by intro q hq; simp only [List.mem_cons, List.not_mem_nil, or_false] at hq ⊢; rcases hq with rfl | rfl | rfl | rfl | rfl | rfl <;> simp) h
set_option maxRecDepth 10000 in
theorem v_X4_explainBy_60 {C : aM → List Value → aH → aO → aH → Prop} {sc : Nat × (Nat → Int32)} {P : aO → aH → Prop} {σ : aH} {u : Nat}  {x1 : Int} {x2 : Int} {x4 : Int} {x5 : Int} (hG : G σ u) (rx1 : inR x1) (rx2 : inR x2) (rx4 : inR x4) (rx5 : inR x5)
    (h : ((x5 = 0 → (inR (x4 + 1) ∧ L_X4_explainBy_8 C sc P u x1 x2 (x4 + 1) σ)) ∧ (¬ (x5 = 0) → ((¬ (rI σ 26 11) = (-1) → (inR (x4 + 1) ∧ L_X4_explainBy_8 C sc P u x1 x2 (x4 + 1) σ)) ∧ ((rI σ 26 11) = (-1) → (inR (100 * x4) ∧ (inR ((100 * x4) + x1) ∧ (inR (10 * x2) ∧ (inR (((100 * x4) + x1) + (10 * x2)) ∧ (∀ σ7 : aH, wI σ 26 11 (((100 * x4) + x1) + (10 * x2)) = σ7 → (inR (x4 + 1) ∧ L_X4_explainBy_8 C sc P u x1 x2 (x4 + 1) σ7))))))))))) :
    L_X4_explainBy_60 C sc P u x1 x2 x4 x5 σ := by
  unfold L_X4_explainBy_60
  refine w_iload dX4_explainBy_60 (List.Mem.tail _ (List.Mem.tail _ (List.Mem.tail _ (List.Mem.tail _ (List.Mem.tail _ (List.Mem.head _)))))) ?_
  refine i_if_eq (tgt := 89) dX4_explainBy_62 rfl rx5 (fun c9 => ?_) (fun c9 => ?_)
  · replace h := h.1 c9
    obtain ⟨q1, h⟩ := h
    refine w_iinc (v := nZ (x4 + 1)) (l' := [(4, .int (nZ (x4 + 1))), (0, .ref 26), (1, .int (nZ x1)), (2, .int (nZ x2)), (3, .ref (u + 1)), (5, .int (nZ x5))]) dX4_explainBy_89 (List.Mem.tail _ (List.Mem.tail _ (List.Mem.tail _ (List.Mem.tail _ (List.Mem.head _))))) (nZ_add _ _) (by decide) rfl ?_
    refine w_goto (tgt := 8) dX4_explainBy_92 rfl ?_
    exact w_weak (l' := [(0, .ref 26), (1, .int (nZ x1)), (2, .int (nZ x2)), (3, .ref (u + 1)), (4, .int (nZ (x4 + 1)))]) (by intro q hq; simp only [List.mem_cons, List.not_mem_nil, or_false] at hq ⊢; rcases hq with rfl | rfl | rfl | rfl | rfl <;> simp) h
  · replace h := h.2 c9
    refine w_aload_n dX4_explainBy_65 rfl (List.Mem.head _) ?_
    refine i_getI (ci := 4) 11 rfl dX4_explainBy_66 fl_4_51 (by decide) (gT hG rfl (lt_of rfl)) ?_
    refine w_iconst (v := nZ (-1)) dX4_explainBy_69 (by decide) ?_
    refine i_cmp_ne (tgt := 89) dX4_explainBy_70 rfl (rI_R _ _ _) (by decide) (fun c9 => ?_) (fun c9 => ?_)
    · replace h := h.1 c9
      obtain ⟨q2, h⟩ := h
      refine w_iinc (v := nZ (x4 + 1)) (l' := [(4, .int (nZ (x4 + 1))), (0, .ref 26), (1, .int (nZ x1)), (2, .int (nZ x2)), (3, .ref (u + 1)), (5, .int (nZ x5))]) dX4_explainBy_89 (List.Mem.tail _ (List.Mem.tail _ (List.Mem.tail _ (List.Mem.tail _ (List.Mem.head _))))) (nZ_add _ _) (by decide) rfl ?_
      refine w_goto (tgt := 8) dX4_explainBy_92 rfl ?_
      exact w_weak (l' := [(0, .ref 26), (1, .int (nZ x1)), (2, .int (nZ x2)), (3, .ref (u + 1)), (4, .int (nZ (x4 + 1)))]) (by intro q hq; simp only [List.mem_cons, List.not_mem_nil, or_false] at hq ⊢; rcases hq with rfl | rfl | rfl | rfl | rfl <;> simp) h
    · replace h := h.2 c9
      refine w_aload_n dX4_explainBy_73 rfl (List.Mem.head _) ?_
      refine w_bipush (v := nZ 100) dX4_explainBy_74 (by decide) ?_
      refine w_iload dX4_explainBy_76 (List.Mem.tail _ (List.Mem.tail _ (List.Mem.tail _ (List.Mem.tail _ (List.Mem.head _))))) ?_
      obtain ⟨q3, h⟩ := h
      refine i_mul dX4_explainBy_78 ?_
      refine w_iload_n dX4_explainBy_79 rfl (List.Mem.tail _ (List.Mem.head _)) ?_
      obtain ⟨q4, h⟩ := h
      refine i_add dX4_explainBy_80 ?_
      refine w_bipush (v := nZ 10) dX4_explainBy_81 (by decide) ?_
      refine w_iload_n dX4_explainBy_83 rfl (List.Mem.tail _ (List.Mem.tail _ (List.Mem.head _))) ?_
      obtain ⟨q5, h⟩ := h
      refine i_mul dX4_explainBy_84 ?_
      obtain ⟨q6, h⟩ := h
      refine i_add dX4_explainBy_85 ?_
      refine i_putI (ci := 4) 11 rfl dX4_explainBy_86 fl_4_51 (by decide) (gT hG rfl (lt_of rfl)) (fun σ7 eσ8 => ?_)
      replace h := h σ7 eσ8
      have hG9 : G σ7 u := eσ8 ▸ G.wI hG
      obtain ⟨q10, h⟩ := h
      refine w_iinc (v := nZ (x4 + 1)) (l' := [(4, .int (nZ (x4 + 1))), (0, .ref 26), (1, .int (nZ x1)), (2, .int (nZ x2)), (3, .ref (u + 1)), (5, .int (nZ x5))]) dX4_explainBy_89 (List.Mem.tail _ (List.Mem.tail _ (List.Mem.tail _ (List.Mem.tail _ (List.Mem.head _))))) (nZ_add _ _) (by decide) rfl ?_
      refine w_goto (tgt := 8) dX4_explainBy_92 rfl ?_
      exact w_weak (l' := [(0, .ref 26), (1, .int (nZ x1)), (2, .int (nZ x2)), (3, .ref (u + 1)), (4, .int (nZ (x4 + 1)))]) (by intro q hq; simp only [List.mem_cons, List.not_mem_nil, or_false] at hq ⊢; rcases hq with rfl | rfl | rfl | rfl | rfl <;> simp) h
theorem dX4_isAsTold_0 : decode cX4_isAsTold 0 = .ok (.aload_n 0, 1) := by decide +kernel
theorem dX4_isAsTold_1 : decode cX4_isAsTold 1 = .ok (.invokevirtual 67, 3) := by decide +kernel
theorem dX4_isAsTold_4 : decode cX4_isAsTold 4 = .ok (.getfield 179, 3) := by decide +kernel
theorem dX4_isAsTold_7 : decode cX4_isAsTold 7 = .ok (.astore_n 2, 1) := by decide +kernel
theorem dX4_isAsTold_8 : decode cX4_isAsTold 8 = .ok (.iconst 0, 1) := by decide +kernel
theorem dX4_isAsTold_9 : decode cX4_isAsTold 9 = .ok (.istore_n 3, 1) := by decide +kernel
theorem dX4_isAsTold_10 : decode cX4_isAsTold 10 = .ok (.iload_n 3, 1) := by decide +kernel
theorem dX4_isAsTold_11 : decode cX4_isAsTold 11 = .ok (.iload_n 1, 1) := by decide +kernel
theorem dX4_isAsTold_12 : decode cX4_isAsTold 12 = .ok (.if_icmp .ge 59, 3) := by decide +kernel
theorem dX4_isAsTold_15 : decode cX4_isAsTold 15 = .ok (.aload_n 2, 1) := by decide +kernel
theorem dX4_isAsTold_16 : decode cX4_isAsTold 16 = .ok (.iload_n 3, 1) := by decide +kernel
theorem dX4_isAsTold_17 : decode cX4_isAsTold 17 = .ok (.iaload, 1) := by decide +kernel
theorem dX4_isAsTold_18 : decode cX4_isAsTold 18 = .ok (.iconst (-1), 1) := by decide +kernel
theorem dX4_isAsTold_19 : decode cX4_isAsTold 19 = .ok (.if_icmp .eq 46, 3) := by decide +kernel
theorem dX4_isAsTold_22 : decode cX4_isAsTold 22 = .ok (.aload_n 0, 1) := by decide +kernel
theorem dX4_isAsTold_23 : decode cX4_isAsTold 23 = .ok (.getfield 12, 3) := by decide +kernel
theorem dX4_isAsTold_26 : decode cX4_isAsTold 26 = .ok (.iload_n 1, 1) := by decide +kernel
theorem dX4_isAsTold_27 : decode cX4_isAsTold 27 = .ok (.iload_n 3, 1) := by decide +kernel
theorem dX4_isAsTold_28 : decode cX4_isAsTold 28 = .ok (.invokevirtual 182, 3) := by decide +kernel
theorem dX4_isAsTold_31 : decode cX4_isAsTold 31 = .ok (.ifCond .eq 21, 3) := by decide +kernel
theorem dX4_isAsTold_34 : decode cX4_isAsTold 34 = .ok (.aload_n 0, 1) := by decide +kernel
theorem dX4_isAsTold_35 : decode cX4_isAsTold 35 = .ok (.getfield 12, 3) := by decide +kernel
theorem dX4_isAsTold_38 : decode cX4_isAsTold 38 = .ok (.iload_n 3, 1) := by decide +kernel
theorem dX4_isAsTold_39 : decode cX4_isAsTold 39 = .ok (.invokevirtual 170, 3) := by decide +kernel
theorem dX4_isAsTold_42 : decode cX4_isAsTold 42 = .ok (.aload_n 0, 1) := by decide +kernel
theorem dX4_isAsTold_43 : decode cX4_isAsTold 43 = .ok (.getfield 28, 3) := by decide +kernel
theorem dX4_isAsTold_46 : decode cX4_isAsTold 46 = .ok (.iload_n 3, 1) := by decide +kernel
theorem dX4_isAsTold_47 : decode cX4_isAsTold 47 = .ok (.iaload, 1) := by decide +kernel
theorem dX4_isAsTold_48 : decode cX4_isAsTold 48 = .ok (.isub, 1) := by decide +kernel
theorem dX4_isAsTold_49 : decode cX4_isAsTold 49 = .ok (.goto 4, 3) := by decide +kernel
theorem dX4_isAsTold_52 : decode cX4_isAsTold 52 = .ok (.iconst 0, 1) := by decide +kernel
theorem dX4_isAsTold_53 : decode cX4_isAsTold 53 = .ok (.istore 4, 2) := by decide +kernel
theorem dX4_isAsTold_55 : decode cX4_isAsTold 55 = .ok (.iload 4, 2) := by decide +kernel
theorem dX4_isAsTold_57 : decode cX4_isAsTold 57 = .ok (.aload_n 2, 1) := by decide +kernel
theorem dX4_isAsTold_58 : decode cX4_isAsTold 58 = .ok (.iload_n 3, 1) := by decide +kernel
theorem dX4_isAsTold_59 : decode cX4_isAsTold 59 = .ok (.iaload, 1) := by decide +kernel
theorem dX4_isAsTold_60 : decode cX4_isAsTold 60 = .ok (.if_icmp .eq 5, 3) := by decide +kernel
theorem dX4_isAsTold_63 : decode cX4_isAsTold 63 = .ok (.iconst 0, 1) := by decide +kernel
theorem dX4_isAsTold_64 : decode cX4_isAsTold 64 = .ok (.ireturn, 1) := by decide +kernel
theorem dX4_isAsTold_65 : decode cX4_isAsTold 65 = .ok (.iinc 3 1, 3) := by decide +kernel
theorem dX4_isAsTold_68 : decode cX4_isAsTold 68 = .ok (.goto (-58), 3) := by decide +kernel
theorem dX4_isAsTold_71 : decode cX4_isAsTold 71 = .ok (.iconst 1, 1) := by decide +kernel
theorem dX4_isAsTold_72 : decode cX4_isAsTold 72 = .ok (.ireturn, 1) := by decide +kernel
def L_X4_isAsTold_10 (C : aM → List Value → aH → aO → aH → Prop) (sc : Nat × (Nat → Int32)) (P : aO → aH → Prop) (u : Nat) (x1 : Int) (x3 : Int) (σ : aH) : Prop :=
    wp C 4 cX4_isAsTold 5 (some .boolean) false [] sc P 10 [(0, .ref 26), (1, .int (nZ x1)), (2, .ref (u + 9)), (3, .int (nZ x3))] [] σ
set_option maxRecDepth 10000 in
theorem t_X4_isAsTold {sc : Nat × (Nat → Int32)} {d : Nat} {Q : aO → aH → Prop} {σ : aH} {u : Nat}  {x1 : Int} (hG : G σ u) (rx1 : inR x1)
    (h : (∃ σ1 : aH, Ev sc d mX4_stalls [.ref 26] σ (.inl (some (.ref (u + 1)))) σ1 ∧ G σ1 u ∧ L_X4_isAsTold_10 (Ev sc d) sc Q u x1 0 σ1)) :
    T sc (d + 1) mX4_isAsTold [.ref 26, .int (nZ x1)] σ Q := by
  refine T.of (c := 4) (code := cX4_isAsTold) (mL := 5) (rt := (some .boolean)) (ini := false) (l := [(0, .ref 26), (1, .int (nZ x1))]) rfl rfl rfl rfl (by decide) hs_X4_isAsTold rfl rfl ?_
  refine w_aload_n dX4_isAsTold_0 rfl (List.Mem.head _) ?_
  obtain ⟨σ1, hc3, hG2, h⟩ := h
  refine w_callV dX4_isAsTold_1 ml_4_67 ⟨ok_X4_stalls, vi_X4_stalls⟩ hs_X4_stalls (As := []) rfl rfl (gT hG rfl (lt_of rfl)) (Nat.le_of_ble_eq_true rfl) hc3 ?_
  show wp (Ev sc d) 4 cX4_isAsTold 5 (some .boolean) false [] sc Q 4 [(0, .ref 26), (1, .int (nZ x1))] [.ref (u + 1)] σ1
  refine w_getR (ci := 7) (k := 7) (b := (u + 9)) dX4_isAsTold_4 fl_4_179 (by decide) (gT hG2 (IsMk_t1 hG.2.2.2.2) (IsMk_lt hG.2.2.2.2 (k := 1) (by decide))) (gR hG2 (IsMk_r1_7 hG.2.2.2.2)) ?_
  refine w_astore_n (l' := [(2, .ref (u + 9)), (0, .ref 26), (1, .int (nZ x1))]) dX4_isAsTold_7 rfl (by decide) rfl ?_
  refine w_iconst (v := nZ 0) dX4_isAsTold_8 (by decide) ?_
  refine w_istore_n (l' := [(3, .int (nZ 0)), (2, .ref (u + 9)), (0, .ref 26), (1, .int (nZ x1))]) dX4_isAsTold_9 rfl (by decide) rfl ?_
  exact w_weak (l' := [(0, .ref 26), (1, .int (nZ x1)), (2, .ref (u + 9)), (3, .int (nZ 0))]) (by intro q hq; simp only [List.mem_cons, List.not_mem_nil, or_false] at hq ⊢; rcases hq with rfl | rfl | rfl | rfl <;> simp) h
set_option maxRecDepth 10000 in
theorem v_X4_isAsTold_10 {C : aM → List Value → aH → aO → aH → Prop} {sc : Nat × (Nat → Int32)} {P : aO → aH → Prop} {σ : aH} {u : Nat}  {x1 : Int} {x3 : Int} (hG : G σ u) (rx1 : inR x1) (rx3 : inR x3)
    (h : ((x1 ≤ x3 → P (.inl (some (.int (nZ 1)))) σ) ∧ (¬ (x1 ≤ x3) → ((0 ≤ x3 ∧ x3 < 9) ∧ (((rI σ (u + 9) x3) = (-1) → (inR (x3 + 1) ∧ L_X4_isAsTold_10 C sc P u x1 (x3 + 1) σ)) ∧ (¬ ((rI σ (u + 9) x3) = (-1)) → (∃ (r6 : Int) (σ2 : aH), C mX6_isInLine [.ref 27, .int (nZ x1), .int (nZ x3)] σ (.inl (some (.int (nZ r6)))) σ2 ∧ G σ2 u ∧ inR r6 ∧ ((r6 = 0 → ((0 ≤ x3 ∧ x3 < 9) ∧ ((0 = (rI σ2 (u + 9) x3) → (inR (x3 + 1) ∧ L_X4_isAsTold_10 C sc P u x1 (x3 + 1) σ2)) ∧ (¬ (0 = (rI σ2 (u + 9) x3)) → P (.inl (some (.int (nZ 0)))) σ2)))) ∧ (¬ (r6 = 0) → (∃ (r12 : Int) (σ8 : aH), C mX6_chillOf [.ref 27, .int (nZ x3)] σ2 (.inl (some (.int (nZ r12)))) σ8 ∧ G σ8 u ∧ inR r12 ∧ ((0 ≤ x3 ∧ x3 < 9) ∧ (inR (r12 - (rI σ8 58 x3)) ∧ (∀ z14 : Int, z14 = (r12 - (rI σ8 58 x3)) → ((0 ≤ x3 ∧ x3 < 9) ∧ ((z14 = (rI σ8 (u + 9) x3) → (inR (x3 + 1) ∧ L_X4_isAsTold_10 C sc P u x1 (x3 + 1) σ8)) ∧ (¬ (z14 = (rI σ8 (u + 9) x3)) → P (.inl (some (.int (nZ 0)))) σ8)))))))))))))))) :
    L_X4_isAsTold_10 C sc P u x1 x3 σ := by
  unfold L_X4_isAsTold_10
  refine w_iload_n dX4_isAsTold_10 rfl (List.Mem.tail _ (List.Mem.tail _ (List.Mem.tail _ (List.Mem.head _)))) ?_
  refine w_iload_n dX4_isAsTold_11 rfl (List.Mem.tail _ (List.Mem.head _)) ?_
  refine i_cmp_ge (tgt := 71) dX4_isAsTold_12 rfl rx3 rx1 (fun c9 => ?_) (fun c9 => ?_)
  · replace h := h.1 c9
    refine w_iconst (v := nZ 1) dX4_isAsTold_71 (by decide) ?_
    exact i_zret dX4_isAsTold_72 rfl (by decide) h
  · replace h := h.2 c9
    refine w_aload_n dX4_isAsTold_15 rfl (List.Mem.tail _ (List.Mem.tail _ (List.Mem.head _))) ?_
    refine w_iload_n dX4_isAsTold_16 rfl (List.Mem.tail _ (List.Mem.tail _ (List.Mem.tail _ (List.Mem.head _)))) ?_
    obtain ⟨h9, h⟩ := h
    refine i_iald (n := 9) dX4_isAsTold_17 (gT hG (IsMk_t9 hG.2.2.2.2) (IsMk_lt hG.2.2.2.2 (k := 9) (by decide))) (gL hG (IsMk_n9 hG.2.2.2.2)) rx3 h9 ?_
    refine w_iconst (v := nZ (-1)) dX4_isAsTold_18 (by decide) ?_
    refine i_cmp_eq (tgt := 65) dX4_isAsTold_19 rfl (rI_R _ _ _) (by decide) (fun c9 => ?_) (fun c9 => ?_)
    · replace h := h.1 c9
      obtain ⟨q1, h⟩ := h
      refine w_iinc (v := nZ (x3 + 1)) (l' := [(3, .int (nZ (x3 + 1))), (0, .ref 26), (1, .int (nZ x1)), (2, .ref (u + 9))]) dX4_isAsTold_65 (List.Mem.tail _ (List.Mem.tail _ (List.Mem.tail _ (List.Mem.head _)))) (nZ_add _ _) (by decide) rfl ?_
      refine w_goto (tgt := 10) dX4_isAsTold_68 rfl ?_
      exact w_weak (l' := [(0, .ref 26), (1, .int (nZ x1)), (2, .ref (u + 9)), (3, .int (nZ (x3 + 1)))]) (by intro q hq; simp only [List.mem_cons, List.not_mem_nil, or_false] at hq ⊢; rcases hq with rfl | rfl | rfl | rfl <;> simp) h
    · replace h := h.2 c9
      refine w_aload_n dX4_isAsTold_22 rfl (List.Mem.head _) ?_
      refine w_getR (ci := 4) (k := 0) (b := 27) dX4_isAsTold_23 fl_4_12 (by decide) (gT hG rfl (lt_of rfl)) (gR hG (b := 27) rfl) ?_
      refine w_iload_n dX4_isAsTold_26 rfl (List.Mem.tail _ (List.Mem.head _)) ?_
      refine w_iload_n dX4_isAsTold_27 rfl (List.Mem.tail _ (List.Mem.tail _ (List.Mem.tail _ (List.Mem.head _)))) ?_
      obtain ⟨r6, σ2, hc4, hG3, rr5, h⟩ := h
      refine w_callV dX4_isAsTold_28 ml_4_182 ⟨ok_X6_isInLine, vi_X6_isInLine⟩ hs_X6_isInLine (As := [.int (nZ x1), .int (nZ x3)]) rfl rfl (gT hG rfl (lt_of rfl)) (Nat.le_of_ble_eq_true rfl) hc4 ?_
      show wp C 4 cX4_isAsTold 5 (some .boolean) false [] sc P 31 [(0, .ref 26), (1, .int (nZ x1)), (2, .ref (u + 9)), (3, .int (nZ x3))] [.int (nZ r6)] σ2
      refine i_if_eq (tgt := 52) dX4_isAsTold_31 rfl rr5 (fun c9 => ?_) (fun c9 => ?_)
      · replace h := h.1 c9
        refine w_iconst (v := nZ 0) dX4_isAsTold_52 (by decide) ?_
        refine w_istore (l' := [(4, .int (nZ 0)), (0, .ref 26), (1, .int (nZ x1)), (2, .ref (u + 9)), (3, .int (nZ x3))]) dX4_isAsTold_53 (by decide) rfl ?_
        refine w_iload dX4_isAsTold_55 (List.Mem.head _) ?_
        refine w_aload_n dX4_isAsTold_57 rfl (List.Mem.tail _ (List.Mem.tail _ (List.Mem.tail _ (List.Mem.head _)))) ?_
        refine w_iload_n dX4_isAsTold_58 rfl (List.Mem.tail _ (List.Mem.tail _ (List.Mem.tail _ (List.Mem.tail _ (List.Mem.head _))))) ?_
        obtain ⟨h9, h⟩ := h
        refine i_iald (n := 9) dX4_isAsTold_59 (gT hG3 (IsMk_t9 hG.2.2.2.2) (IsMk_lt hG.2.2.2.2 (k := 9) (by decide))) (gL hG3 (IsMk_n9 hG.2.2.2.2)) rx3 h9 ?_
        refine i_cmp_eq (tgt := 65) dX4_isAsTold_60 rfl (by decide) (rI_R _ _ _) (fun c9 => ?_) (fun c9 => ?_)
        · replace h := h.1 c9
          obtain ⟨q7, h⟩ := h
          refine w_iinc (v := nZ (x3 + 1)) (l' := [(3, .int (nZ (x3 + 1))), (4, .int (nZ 0)), (0, .ref 26), (1, .int (nZ x1)), (2, .ref (u + 9))]) dX4_isAsTold_65 (List.Mem.tail _ (List.Mem.tail _ (List.Mem.tail _ (List.Mem.tail _ (List.Mem.head _))))) (nZ_add _ _) (by decide) rfl ?_
          refine w_goto (tgt := 10) dX4_isAsTold_68 rfl ?_
          exact w_weak (l' := [(0, .ref 26), (1, .int (nZ x1)), (2, .ref (u + 9)), (3, .int (nZ (x3 + 1)))]) (by intro q hq; simp only [List.mem_cons, List.not_mem_nil, or_false] at hq ⊢; rcases hq with rfl | rfl | rfl | rfl <;> simp) h
        · replace h := h.2 c9
          refine w_iconst (v := nZ 0) dX4_isAsTold_63 (by decide) ?_
          exact i_zret dX4_isAsTold_64 rfl (by decide) h
      · replace h := h.2 c9
        refine w_aload_n dX4_isAsTold_34 rfl (List.Mem.head _) ?_
        refine w_getR (ci := 4) (k := 0) (b := 27) dX4_isAsTold_35 fl_4_12 (by decide) (gT hG3 rfl (lt_of rfl)) (gR hG3 (b := 27) rfl) ?_
        refine w_iload_n dX4_isAsTold_38 rfl (List.Mem.tail _ (List.Mem.tail _ (List.Mem.tail _ (List.Mem.head _)))) ?_
        obtain ⟨r12, σ8, hc10, hG9, rr11, h⟩ := h
        refine w_callV dX4_isAsTold_39 ml_4_170 ⟨ok_X6_chillOf, vi_X6_chillOf⟩ hs_X6_chillOf (As := [.int (nZ x3)]) rfl rfl (gT hG3 rfl (lt_of rfl)) (Nat.le_of_ble_eq_true rfl) hc10 ?_
        show wp C 4 cX4_isAsTold 5 (some .boolean) false [] sc P 42 [(0, .ref 26), (1, .int (nZ x1)), (2, .ref (u + 9)), (3, .int (nZ x3))] [.int (nZ r12)] σ8
        refine w_aload_n dX4_isAsTold_42 rfl (List.Mem.head _) ?_
        refine w_getR (ci := 4) (k := 4) (b := 58) dX4_isAsTold_43 fl_4_28 (by decide) (gT hG9 rfl (lt_of rfl)) (gR hG9 (b := 58) rfl) ?_
        refine w_iload_n dX4_isAsTold_46 rfl (List.Mem.tail _ (List.Mem.tail _ (List.Mem.tail _ (List.Mem.head _)))) ?_
        obtain ⟨h9, h⟩ := h
        refine i_iald (n := 9) dX4_isAsTold_47 (gT hG9 rfl (lt_of rfl)) (gL hG9 rfl) rx3 h9 ?_
        obtain ⟨q13, h⟩ := h
        refine i_sub dX4_isAsTold_48 ?_
        refine w_goto (tgt := 53) dX4_isAsTold_49 rfl ?_
        refine top_i (fun z14 ez15 => ?_)
        have rz16 : inR z14 := ez15 ▸ q13
        replace h := h z14 ez15
        refine w_istore (l' := [(4, .int (nZ z14)), (0, .ref 26), (1, .int (nZ x1)), (2, .ref (u + 9)), (3, .int (nZ x3))]) dX4_isAsTold_53 (by decide) rfl ?_
        refine w_iload dX4_isAsTold_55 (List.Mem.head _) ?_
        refine w_aload_n dX4_isAsTold_57 rfl (List.Mem.tail _ (List.Mem.tail _ (List.Mem.tail _ (List.Mem.head _)))) ?_
        refine w_iload_n dX4_isAsTold_58 rfl (List.Mem.tail _ (List.Mem.tail _ (List.Mem.tail _ (List.Mem.tail _ (List.Mem.head _))))) ?_
        obtain ⟨h9, h⟩ := h
        refine i_iald (n := 9) dX4_isAsTold_59 (gT hG9 (IsMk_t9 hG.2.2.2.2) (IsMk_lt hG.2.2.2.2 (k := 9) (by decide))) (gL hG9 (IsMk_n9 hG.2.2.2.2)) rx3 h9 ?_
        refine i_cmp_eq (tgt := 65) dX4_isAsTold_60 rfl rz16 (rI_R _ _ _) (fun c9 => ?_) (fun c9 => ?_)
        · replace h := h.1 c9
          obtain ⟨q17, h⟩ := h
          refine w_iinc (v := nZ (x3 + 1)) (l' := [(3, .int (nZ (x3 + 1))), (4, .int (nZ z14)), (0, .ref 26), (1, .int (nZ x1)), (2, .ref (u + 9))]) dX4_isAsTold_65 (List.Mem.tail _ (List.Mem.tail _ (List.Mem.tail _ (List.Mem.tail _ (List.Mem.head _))))) (nZ_add _ _) (by decide) rfl ?_
          refine w_goto (tgt := 10) dX4_isAsTold_68 rfl ?_
          exact w_weak (l' := [(0, .ref 26), (1, .int (nZ x1)), (2, .ref (u + 9)), (3, .int (nZ (x3 + 1)))]) (by intro q hq; simp only [List.mem_cons, List.not_mem_nil, or_false] at hq ⊢; rcases hq with rfl | rfl | rfl | rfl <;> simp) h
        · replace h := h.2 c9
          refine w_iconst (v := nZ 0) dX4_isAsTold_63 (by decide) ?_
          exact i_zret dX4_isAsTold_64 rfl (by decide) h
theorem dX4_daysTillAbove_0 : decode cX4_daysTillAbove 0 = .ok (.aload_n 0, 1) := by decide +kernel
theorem dX4_daysTillAbove_1 : decode cX4_daysTillAbove 1 = .ok (.invokevirtual 67, 3) := by decide +kernel
theorem dX4_daysTillAbove_4 : decode cX4_daysTillAbove 4 = .ok (.astore_n 2, 1) := by decide +kernel
theorem dX4_daysTillAbove_5 : decode cX4_daysTillAbove 5 = .ok (.aload_n 2, 1) := by decide +kernel
theorem dX4_daysTillAbove_6 : decode cX4_daysTillAbove 6 = .ok (.getfield 145, 3) := by decide +kernel
theorem dX4_daysTillAbove_9 : decode cX4_daysTillAbove 9 = .ok (.iconst 0, 1) := by decide +kernel
theorem dX4_daysTillAbove_10 : decode cX4_daysTillAbove 10 = .ok (.aload_n 0, 1) := by decide +kernel
theorem dX4_daysTillAbove_11 : decode cX4_daysTillAbove 11 = .ok (.getfield 25, 3) := by decide +kernel
theorem dX4_daysTillAbove_14 : decode cX4_daysTillAbove 14 = .ok (.iconst 0, 1) := by decide +kernel
theorem dX4_daysTillAbove_15 : decode cX4_daysTillAbove 15 = .ok (.bipush 9, 2) := by decide +kernel
theorem dX4_daysTillAbove_17 : decode cX4_daysTillAbove 17 = .ok (.invokestatic 75, 3) := by decide +kernel
theorem dX4_daysTillAbove_20 : decode cX4_daysTillAbove 20 = .ok (.iconst (-1), 1) := by decide +kernel
theorem dX4_daysTillAbove_21 : decode cX4_daysTillAbove 21 = .ok (.istore_n 3, 1) := by decide +kernel
theorem dX4_daysTillAbove_22 : decode cX4_daysTillAbove 22 = .ok (.iconst 0, 1) := by decide +kernel
theorem dX4_daysTillAbove_23 : decode cX4_daysTillAbove 23 = .ok (.istore 4, 2) := by decide +kernel
theorem dX4_daysTillAbove_25 : decode cX4_daysTillAbove 25 = .ok (.iload 4, 2) := by decide +kernel
theorem dX4_daysTillAbove_27 : decode cX4_daysTillAbove 27 = .ok (.bipush 99, 2) := by decide +kernel
theorem dX4_daysTillAbove_29 : decode cX4_daysTillAbove 29 = .ok (.if_icmp .gt 41, 3) := by decide +kernel
theorem dX4_daysTillAbove_32 : decode cX4_daysTillAbove 32 = .ok (.iload_n 3, 1) := by decide +kernel
theorem dX4_daysTillAbove_33 : decode cX4_daysTillAbove 33 = .ok (.iconst (-1), 1) := by decide +kernel
theorem dX4_daysTillAbove_34 : decode cX4_daysTillAbove 34 = .ok (.if_icmp .ne 36, 3) := by decide +kernel
theorem dX4_daysTillAbove_37 : decode cX4_daysTillAbove 37 = .ok (.aload_n 0, 1) := by decide +kernel
theorem dX4_daysTillAbove_38 : decode cX4_daysTillAbove 38 = .ok (.getfield 12, 3) := by decide +kernel
theorem dX4_daysTillAbove_41 : decode cX4_daysTillAbove 41 = .ok (.aload_n 0, 1) := by decide +kernel
theorem dX4_daysTillAbove_42 : decode cX4_daysTillAbove 42 = .ok (.getfield 12, 3) := by decide +kernel
theorem dX4_daysTillAbove_45 : decode cX4_daysTillAbove 45 = .ok (.getfield 85, 3) := by decide +kernel
theorem dX4_daysTillAbove_48 : decode cX4_daysTillAbove 48 = .ok (.ldc 84, 2) := by decide +kernel
theorem dX4_daysTillAbove_50 : decode cX4_daysTillAbove 50 = .ok (.invokevirtual 89, 3) := by decide +kernel
theorem dX4_daysTillAbove_53 : decode cX4_daysTillAbove 53 = .ok (.iload_n 1, 1) := by decide +kernel
theorem dX4_daysTillAbove_54 : decode cX4_daysTillAbove 54 = .ok (.if_icmp .le 6, 3) := by decide +kernel
theorem dX4_daysTillAbove_57 : decode cX4_daysTillAbove 57 = .ok (.iload 4, 2) := by decide +kernel
theorem dX4_daysTillAbove_59 : decode cX4_daysTillAbove 59 = .ok (.istore_n 3, 1) := by decide +kernel
theorem dX4_daysTillAbove_60 : decode cX4_daysTillAbove 60 = .ok (.aload_n 2, 1) := by decide +kernel
theorem dX4_daysTillAbove_61 : decode cX4_daysTillAbove 61 = .ok (.invokevirtual 186, 3) := by decide +kernel
theorem dX4_daysTillAbove_64 : decode cX4_daysTillAbove 64 = .ok (.iinc 4 1, 3) := by decide +kernel
theorem dX4_daysTillAbove_67 : decode cX4_daysTillAbove 67 = .ok (.goto (-42), 3) := by decide +kernel
theorem dX4_daysTillAbove_70 : decode cX4_daysTillAbove 70 = .ok (.aload_n 0, 1) := by decide +kernel
theorem dX4_daysTillAbove_71 : decode cX4_daysTillAbove 71 = .ok (.getfield 25, 3) := by decide +kernel
theorem dX4_daysTillAbove_74 : decode cX4_daysTillAbove 74 = .ok (.iconst 0, 1) := by decide +kernel
theorem dX4_daysTillAbove_75 : decode cX4_daysTillAbove 75 = .ok (.aload_n 2, 1) := by decide +kernel
theorem dX4_daysTillAbove_76 : decode cX4_daysTillAbove 76 = .ok (.getfield 145, 3) := by decide +kernel
theorem dX4_daysTillAbove_79 : decode cX4_daysTillAbove 79 = .ok (.iconst 0, 1) := by decide +kernel
theorem dX4_daysTillAbove_80 : decode cX4_daysTillAbove 80 = .ok (.bipush 9, 2) := by decide +kernel
theorem dX4_daysTillAbove_82 : decode cX4_daysTillAbove 82 = .ok (.invokestatic 75, 3) := by decide +kernel
theorem dX4_daysTillAbove_85 : decode cX4_daysTillAbove 85 = .ok (.iload_n 3, 1) := by decide +kernel
theorem dX4_daysTillAbove_86 : decode cX4_daysTillAbove 86 = .ok (.ireturn, 1) := by decide +kernel
def L_X4_daysTillAbove_25 (C : aM → List Value → aH → aO → aH → Prop) (sc : Nat × (Nat → Int32)) (P : aO → aH → Prop) (u : Nat) (x1 : Int) (x3 : Int) (x4 : Int) (σ : aH) : Prop :=
    wp C 4 cX4_daysTillAbove 5 (some .int) false [] sc P 25 [(0, .ref 26), (1, .int (nZ x1)), (2, .ref (u + 1)), (3, .int (nZ x3)), (4, .int (nZ x4))] [] σ
set_option maxRecDepth 10000 in
theorem t_X4_daysTillAbove {sc : Nat × (Nat → Int32)} {d : Nat} {Q : aO → aH → Prop} {σ : aH} {u : Nat}  {x1 : Int} (hG : G σ u) (rx1 : inR x1)
    (h : (∃ σ1 : aH, Ev sc d mX4_stalls [.ref 26] σ (.inl (some (.ref (u + 1)))) σ1 ∧ G σ1 u ∧ (∀ σ5 : aH, wC σ1 (u + 4) 57 = σ5 → L_X4_daysTillAbove_25 (Ev sc d) sc Q u x1 (-1) 0 σ5))) :
    T sc (d + 1) mX4_daysTillAbove [.ref 26, .int (nZ x1)] σ Q := by
  refine T.of (c := 4) (code := cX4_daysTillAbove) (mL := 5) (rt := (some .int)) (ini := false) (l := [(0, .ref 26), (1, .int (nZ x1))]) rfl rfl rfl rfl (by decide) hs_X4_daysTillAbove rfl rfl ?_
  refine w_aload_n dX4_daysTillAbove_0 rfl (List.Mem.head _) ?_
  obtain ⟨σ1, hc3, hG2, h⟩ := h
  refine w_callV dX4_daysTillAbove_1 ml_4_67 ⟨ok_X4_stalls, vi_X4_stalls⟩ hs_X4_stalls (As := []) rfl rfl (gT hG rfl (lt_of rfl)) (Nat.le_of_ble_eq_true rfl) hc3 ?_
  show wp (Ev sc d) 4 cX4_daysTillAbove 5 (some .int) false [] sc Q 4 [(0, .ref 26), (1, .int (nZ x1))] [.ref (u + 1)] σ1
  refine w_astore_n (l' := [(2, .ref (u + 1)), (0, .ref 26), (1, .int (nZ x1))]) dX4_daysTillAbove_4 rfl (by decide) rfl ?_
  refine w_aload_n dX4_daysTillAbove_5 rfl (List.Mem.head _) ?_
  refine w_getR (ci := 7) (k := 2) (b := (u + 4)) dX4_daysTillAbove_6 fl_4_145 (by decide) (gT hG2 (IsMk_t1 hG.2.2.2.2) (IsMk_lt hG.2.2.2.2 (k := 1) (by decide))) (gR hG2 (IsMk_r1_2 hG.2.2.2.2)) ?_
  refine w_iconst (v := nZ 0) dX4_daysTillAbove_9 (by decide) ?_
  refine w_aload_n dX4_daysTillAbove_10 rfl (List.Mem.tail _ (List.Mem.head _)) ?_
  refine w_getR (ci := 4) (k := 3) (b := 57) dX4_daysTillAbove_11 fl_4_25 (by decide) (gT hG2 rfl (lt_of rfl)) (gR hG2 (b := 57) rfl) ?_
  refine w_iconst (v := nZ 0) dX4_daysTillAbove_14 (by decide) ?_
  refine w_bipush (v := nZ 9) dX4_daysTillAbove_15 (by decide) ?_
  refine i_copy dX4_daysTillAbove_17 lk_4_75 (Nat.le_of_ble_eq_true rfl) (gT hG2 (IsMk_t4 hG.2.2.2.2) (IsMk_lt hG.2.2.2.2 (k := 4) (by decide))) (gT hG2 rfl (lt_of rfl)) (gL hG2 (IsMk_n4 hG.2.2.2.2)) (gL hG2 rfl) (by decide) (fun σ5 eσ6 => ?_)
  replace h := h σ5 eσ6
  have hG7 : G σ5 u := eσ6 ▸ G.wC hG2
  refine w_iconst (v := nZ (-1)) dX4_daysTillAbove_20 (by decide) ?_
  refine w_istore_n (l' := [(3, .int (nZ (-1))), (2, .ref (u + 1)), (0, .ref 26), (1, .int (nZ x1))]) dX4_daysTillAbove_21 rfl (by decide) rfl ?_
  refine w_iconst (v := nZ 0) dX4_daysTillAbove_22 (by decide) ?_
  refine w_istore (l' := [(4, .int (nZ 0)), (3, .int (nZ (-1))), (2, .ref (u + 1)), (0, .ref 26), (1, .int (nZ x1))]) dX4_daysTillAbove_23 (by decide) rfl ?_
  exact w_weak (l' := [(0, .ref 26), (1, .int (nZ x1)), (2, .ref (u + 1)), (3, .int (nZ (-1))), (4, .int (nZ 0))]) (by intro q hq; simp only [List.mem_cons, List.not_mem_nil, or_false] at hq ⊢; rcases hq with rfl | rfl | rfl | rfl | rfl <;> simp) h
set_option maxRecDepth 10000 in
theorem v_X4_daysTillAbove_25 {C : aM → List Value → aH → aO → aH → Prop} {sc : Nat × (Nat → Int32)} {P : aO → aH → Prop} {σ : aH} {u : Nat}  {x1 : Int} {x3 : Int} {x4 : Int} (hG : G σ u) (rx1 : inR x1) (rx3 : inR x3) (rx4 : inR x4)
    (h : ((99 < x4 → (∀ σ1 : aH, wC σ 57 (u + 4) = σ1 → P (.inl (some (.int (nZ x3)))) σ1)) ∧ (¬ (99 < x4) → ((¬ x3 = (-1) → (∀ σ4 : aH, wC σ 57 (u + 4) = σ4 → P (.inl (some (.int (nZ x3)))) σ4)) ∧ (x3 = (-1) → (∃ (r11 : Int) (σ7 : aH), C mX6_total [.ref 27, .ref 28, .int (nZ 1000000000)] σ (.inl (some (.int (nZ r11)))) σ7 ∧ G σ7 u ∧ inR r11 ∧ ((r11 ≤ x1 → (∃ σ12 : aH, C mX7_grow [.ref (u + 1)] σ7 (.inl none) σ12 ∧ G σ12 u ∧ (inR (x4 + 1) ∧ L_X4_daysTillAbove_25 C sc P u x1 x3 (x4 + 1) σ12))) ∧ (¬ (r11 ≤ x1) → (∃ σ17 : aH, C mX7_grow [.ref (u + 1)] σ7 (.inl none) σ17 ∧ G σ17 u ∧ (inR (x4 + 1) ∧ L_X4_daysTillAbove_25 C sc P u x1 x4 (x4 + 1) σ17)))))))))) :
    L_X4_daysTillAbove_25 C sc P u x1 x3 x4 σ := by
  unfold L_X4_daysTillAbove_25
  refine w_iload dX4_daysTillAbove_25 (List.Mem.tail _ (List.Mem.tail _ (List.Mem.tail _ (List.Mem.tail _ (List.Mem.head _))))) ?_
  refine w_bipush (v := nZ 99) dX4_daysTillAbove_27 (by decide) ?_
  refine i_cmp_gt (tgt := 70) dX4_daysTillAbove_29 rfl rx4 (by decide) (fun c9 => ?_) (fun c9 => ?_)
  · replace h := h.1 c9
    refine w_aload_n dX4_daysTillAbove_70 rfl (List.Mem.head _) ?_
    refine w_getR (ci := 4) (k := 3) (b := 57) dX4_daysTillAbove_71 fl_4_25 (by decide) (gT hG rfl (lt_of rfl)) (gR hG (b := 57) rfl) ?_
    refine w_iconst (v := nZ 0) dX4_daysTillAbove_74 (by decide) ?_
    refine w_aload_n dX4_daysTillAbove_75 rfl (List.Mem.tail _ (List.Mem.tail _ (List.Mem.head _))) ?_
    refine w_getR (ci := 7) (k := 2) (b := (u + 4)) dX4_daysTillAbove_76 fl_4_145 (by decide) (gT hG (IsMk_t1 hG.2.2.2.2) (IsMk_lt hG.2.2.2.2 (k := 1) (by decide))) (gR hG (IsMk_r1_2 hG.2.2.2.2)) ?_
    refine w_iconst (v := nZ 0) dX4_daysTillAbove_79 (by decide) ?_
    refine w_bipush (v := nZ 9) dX4_daysTillAbove_80 (by decide) ?_
    refine i_copy dX4_daysTillAbove_82 lk_4_75 (Nat.le_of_ble_eq_true rfl) (gT hG rfl (lt_of rfl)) (gT hG (IsMk_t4 hG.2.2.2.2) (IsMk_lt hG.2.2.2.2 (k := 4) (by decide))) (gL hG rfl) (gL hG (IsMk_n4 hG.2.2.2.2)) (by decide) (fun σ1 eσ2 => ?_)
    replace h := h σ1 eσ2
    have hG3 : G σ1 u := eσ2 ▸ G.wC hG
    refine w_iload_n dX4_daysTillAbove_85 rfl (List.Mem.tail _ (List.Mem.tail _ (List.Mem.tail _ (List.Mem.head _)))) ?_
    exact w_iret dX4_daysTillAbove_86 rfl h
  · replace h := h.2 c9
    refine w_iload_n dX4_daysTillAbove_32 rfl (List.Mem.tail _ (List.Mem.tail _ (List.Mem.tail _ (List.Mem.head _)))) ?_
    refine w_iconst (v := nZ (-1)) dX4_daysTillAbove_33 (by decide) ?_
    refine i_cmp_ne (tgt := 70) dX4_daysTillAbove_34 rfl rx3 (by decide) (fun c9 => ?_) (fun c9 => ?_)
    · replace h := h.1 c9
      refine w_aload_n dX4_daysTillAbove_70 rfl (List.Mem.head _) ?_
      refine w_getR (ci := 4) (k := 3) (b := 57) dX4_daysTillAbove_71 fl_4_25 (by decide) (gT hG rfl (lt_of rfl)) (gR hG (b := 57) rfl) ?_
      refine w_iconst (v := nZ 0) dX4_daysTillAbove_74 (by decide) ?_
      refine w_aload_n dX4_daysTillAbove_75 rfl (List.Mem.tail _ (List.Mem.tail _ (List.Mem.head _))) ?_
      refine w_getR (ci := 7) (k := 2) (b := (u + 4)) dX4_daysTillAbove_76 fl_4_145 (by decide) (gT hG (IsMk_t1 hG.2.2.2.2) (IsMk_lt hG.2.2.2.2 (k := 1) (by decide))) (gR hG (IsMk_r1_2 hG.2.2.2.2)) ?_
      refine w_iconst (v := nZ 0) dX4_daysTillAbove_79 (by decide) ?_
      refine w_bipush (v := nZ 9) dX4_daysTillAbove_80 (by decide) ?_
      refine i_copy dX4_daysTillAbove_82 lk_4_75 (Nat.le_of_ble_eq_true rfl) (gT hG rfl (lt_of rfl)) (gT hG (IsMk_t4 hG.2.2.2.2) (IsMk_lt hG.2.2.2.2 (k := 4) (by decide))) (gL hG rfl) (gL hG (IsMk_n4 hG.2.2.2.2)) (by decide) (fun σ4 eσ5 => ?_)
      replace h := h σ4 eσ5
      have hG6 : G σ4 u := eσ5 ▸ G.wC hG
      refine w_iload_n dX4_daysTillAbove_85 rfl (List.Mem.tail _ (List.Mem.tail _ (List.Mem.tail _ (List.Mem.head _)))) ?_
      exact w_iret dX4_daysTillAbove_86 rfl h
    · replace h := h.2 c9
      refine w_aload_n dX4_daysTillAbove_37 rfl (List.Mem.head _) ?_
      refine w_getR (ci := 4) (k := 0) (b := 27) dX4_daysTillAbove_38 fl_4_12 (by decide) (gT hG rfl (lt_of rfl)) (gR hG (b := 27) rfl) ?_
      refine w_aload_n dX4_daysTillAbove_41 rfl (List.Mem.head _) ?_
      refine w_getR (ci := 4) (k := 0) (b := 27) dX4_daysTillAbove_42 fl_4_12 (by decide) (gT hG rfl (lt_of rfl)) (gR hG (b := 27) rfl) ?_
      refine w_getR (ci := 6) (k := 0) (b := 28) dX4_daysTillAbove_45 fl_4_85 (by decide) (gT hG rfl (lt_of rfl)) (gR hG (b := 28) rfl) ?_
      refine i_ldc (x := 1000000000) dX4_daysTillAbove_48 kc_4_84 (by decide) ?_
      obtain ⟨r11, σ7, hc9, hG8, rr10, h⟩ := h
      refine w_callV dX4_daysTillAbove_50 ml_4_89 ⟨ok_X6_total, vi_X6_total⟩ hs_X6_total (As := [.ref 28, .int (nZ 1000000000)]) rfl rfl (gT hG rfl (lt_of rfl)) (Nat.le_of_ble_eq_true rfl) hc9 ?_
      show wp C 4 cX4_daysTillAbove 5 (some .int) false [] sc P 53 [(0, .ref 26), (1, .int (nZ x1)), (2, .ref (u + 1)), (3, .int (nZ x3)), (4, .int (nZ x4))] [.int (nZ r11)] σ7
      refine w_iload_n dX4_daysTillAbove_53 rfl (List.Mem.tail _ (List.Mem.head _)) ?_
      refine i_cmp_le (tgt := 60) dX4_daysTillAbove_54 rfl rr10 rx1 (fun c9 => ?_) (fun c9 => ?_)
      · replace h := h.1 c9
        refine w_aload_n dX4_daysTillAbove_60 rfl (List.Mem.tail _ (List.Mem.tail _ (List.Mem.head _))) ?_
        obtain ⟨σ12, hc14, hG13, h⟩ := h
        refine w_callV dX4_daysTillAbove_61 ml_4_186 ⟨ok_X7_grow, vi_X7_grow⟩ hs_X7_grow (As := []) rfl rfl (gT hG8 (IsMk_t1 hG.2.2.2.2) (IsMk_lt hG.2.2.2.2 (k := 1) (by decide))) (Nat.le_of_ble_eq_true rfl) hc14 ?_
        show wp C 4 cX4_daysTillAbove 5 (some .int) false [] sc P 64 [(0, .ref 26), (1, .int (nZ x1)), (2, .ref (u + 1)), (3, .int (nZ x3)), (4, .int (nZ x4))] [] σ12
        obtain ⟨q16, h⟩ := h
        refine w_iinc (v := nZ (x4 + 1)) (l' := [(4, .int (nZ (x4 + 1))), (0, .ref 26), (1, .int (nZ x1)), (2, .ref (u + 1)), (3, .int (nZ x3))]) dX4_daysTillAbove_64 (List.Mem.tail _ (List.Mem.tail _ (List.Mem.tail _ (List.Mem.tail _ (List.Mem.head _))))) (nZ_add _ _) (by decide) rfl ?_
        refine w_goto (tgt := 25) dX4_daysTillAbove_67 rfl ?_
        exact w_weak (l' := [(0, .ref 26), (1, .int (nZ x1)), (2, .ref (u + 1)), (3, .int (nZ x3)), (4, .int (nZ (x4 + 1)))]) (by intro q hq; simp only [List.mem_cons, List.not_mem_nil, or_false] at hq ⊢; rcases hq with rfl | rfl | rfl | rfl | rfl <;> simp) h
      · replace h := h.2 c9
        refine w_iload dX4_daysTillAbove_57 (List.Mem.tail _ (List.Mem.tail _ (List.Mem.tail _ (List.Mem.tail _ (List.Mem.head _))))) ?_
        refine w_istore_n (l' := [(3, .int (nZ x4)), (0, .ref 26), (1, .int (nZ x1)), (2, .ref (u + 1)), (4, .int (nZ x4))]) dX4_daysTillAbove_59 rfl (by decide) rfl ?_
        refine w_aload_n dX4_daysTillAbove_60 rfl (List.Mem.tail _ (List.Mem.tail _ (List.Mem.tail _ (List.Mem.head _)))) ?_
        obtain ⟨σ17, hc19, hG18, h⟩ := h
        refine w_callV dX4_daysTillAbove_61 ml_4_186 ⟨ok_X7_grow, vi_X7_grow⟩ hs_X7_grow (As := []) rfl rfl (gT hG8 (IsMk_t1 hG.2.2.2.2) (IsMk_lt hG.2.2.2.2 (k := 1) (by decide))) (Nat.le_of_ble_eq_true rfl) hc19 ?_
        show wp C 4 cX4_daysTillAbove 5 (some .int) false [] sc P 64 [(3, .int (nZ x4)), (0, .ref 26), (1, .int (nZ x1)), (2, .ref (u + 1)), (4, .int (nZ x4))] [] σ17
        obtain ⟨q21, h⟩ := h
        refine w_iinc (v := nZ (x4 + 1)) (l' := [(4, .int (nZ (x4 + 1))), (3, .int (nZ x4)), (0, .ref 26), (1, .int (nZ x1)), (2, .ref (u + 1))]) dX4_daysTillAbove_64 (List.Mem.tail _ (List.Mem.tail _ (List.Mem.tail _ (List.Mem.tail _ (List.Mem.head _))))) (nZ_add _ _) (by decide) rfl ?_
        refine w_goto (tgt := 25) dX4_daysTillAbove_67 rfl ?_
        exact w_weak (l' := [(0, .ref 26), (1, .int (nZ x1)), (2, .ref (u + 1)), (3, .int (nZ x4)), (4, .int (nZ (x4 + 1)))]) (by intro q hq; simp only [List.mem_cons, List.not_mem_nil, or_false] at hq ⊢; rcases hq with rfl | rfl | rfl | rfl | rfl <;> simp) h
theorem dX4_greatestHarmless_0 : decode cX4_greatestHarmless 0 = .ok (.aload_n 0, 1) := by decide +kernel
theorem dX4_greatestHarmless_1 : decode cX4_greatestHarmless 1 = .ok (.invokevirtual 67, 3) := by decide +kernel
theorem dX4_greatestHarmless_4 : decode cX4_greatestHarmless 4 = .ok (.astore_n 2, 1) := by decide +kernel
theorem dX4_greatestHarmless_5 : decode cX4_greatestHarmless 5 = .ok (.aload_n 2, 1) := by decide +kernel
theorem dX4_greatestHarmless_6 : decode cX4_greatestHarmless 6 = .ok (.getfield 145, 3) := by decide +kernel
theorem dX4_greatestHarmless_9 : decode cX4_greatestHarmless 9 = .ok (.iload_n 1, 1) := by decide +kernel
theorem dX4_greatestHarmless_10 : decode cX4_greatestHarmless 10 = .ok (.iaload, 1) := by decide +kernel
theorem dX4_greatestHarmless_11 : decode cX4_greatestHarmless 11 = .ok (.istore_n 3, 1) := by decide +kernel
theorem dX4_greatestHarmless_12 : decode cX4_greatestHarmless 12 = .ok (.iconst (-1), 1) := by decide +kernel
theorem dX4_greatestHarmless_13 : decode cX4_greatestHarmless 13 = .ok (.istore 4, 2) := by decide +kernel
theorem dX4_greatestHarmless_15 : decode cX4_greatestHarmless 15 = .ok (.bipush 60, 2) := by decide +kernel
theorem dX4_greatestHarmless_17 : decode cX4_greatestHarmless 17 = .ok (.istore 5, 2) := by decide +kernel
theorem dX4_greatestHarmless_19 : decode cX4_greatestHarmless 19 = .ok (.iload 5, 2) := by decide +kernel
theorem dX4_greatestHarmless_21 : decode cX4_greatestHarmless 21 = .ok (.ifCond .lt 38, 3) := by decide +kernel
theorem dX4_greatestHarmless_24 : decode cX4_greatestHarmless 24 = .ok (.iload 4, 2) := by decide +kernel
theorem dX4_greatestHarmless_26 : decode cX4_greatestHarmless 26 = .ok (.iconst (-1), 1) := by decide +kernel
theorem dX4_greatestHarmless_27 : decode cX4_greatestHarmless 27 = .ok (.if_icmp .ne 32, 3) := by decide +kernel
theorem dX4_greatestHarmless_30 : decode cX4_greatestHarmless 30 = .ok (.aload_n 2, 1) := by decide +kernel
theorem dX4_greatestHarmless_31 : decode cX4_greatestHarmless 31 = .ok (.getfield 145, 3) := by decide +kernel
theorem dX4_greatestHarmless_34 : decode cX4_greatestHarmless 34 = .ok (.iload_n 1, 1) := by decide +kernel
theorem dX4_greatestHarmless_35 : decode cX4_greatestHarmless 35 = .ok (.iload 5, 2) := by decide +kernel
theorem dX4_greatestHarmless_37 : decode cX4_greatestHarmless 37 = .ok (.iastore, 1) := by decide +kernel
theorem dX4_greatestHarmless_38 : decode cX4_greatestHarmless 38 = .ok (.aload_n 0, 1) := by decide +kernel
theorem dX4_greatestHarmless_39 : decode cX4_greatestHarmless 39 = .ok (.getfield 12, 3) := by decide +kernel
theorem dX4_greatestHarmless_42 : decode cX4_greatestHarmless 42 = .ok (.iload_n 1, 1) := by decide +kernel
theorem dX4_greatestHarmless_43 : decode cX4_greatestHarmless 43 = .ok (.invokevirtual 189, 3) := by decide +kernel
theorem dX4_greatestHarmless_46 : decode cX4_greatestHarmless 46 = .ok (.ifCond .ne 7, 3) := by decide +kernel
theorem dX4_greatestHarmless_49 : decode cX4_greatestHarmless 49 = .ok (.iload 5, 2) := by decide +kernel
theorem dX4_greatestHarmless_51 : decode cX4_greatestHarmless 51 = .ok (.istore 4, 2) := by decide +kernel
theorem dX4_greatestHarmless_53 : decode cX4_greatestHarmless 53 = .ok (.iinc 5 (-1), 3) := by decide +kernel
theorem dX4_greatestHarmless_56 : decode cX4_greatestHarmless 56 = .ok (.goto (-37), 3) := by decide +kernel
theorem dX4_greatestHarmless_59 : decode cX4_greatestHarmless 59 = .ok (.aload_n 2, 1) := by decide +kernel
theorem dX4_greatestHarmless_60 : decode cX4_greatestHarmless 60 = .ok (.getfield 145, 3) := by decide +kernel
theorem dX4_greatestHarmless_63 : decode cX4_greatestHarmless 63 = .ok (.iload_n 1, 1) := by decide +kernel
theorem dX4_greatestHarmless_64 : decode cX4_greatestHarmless 64 = .ok (.iload_n 3, 1) := by decide +kernel
theorem dX4_greatestHarmless_65 : decode cX4_greatestHarmless 65 = .ok (.iastore, 1) := by decide +kernel
theorem dX4_greatestHarmless_66 : decode cX4_greatestHarmless 66 = .ok (.iload 4, 2) := by decide +kernel
theorem dX4_greatestHarmless_68 : decode cX4_greatestHarmless 68 = .ok (.ireturn, 1) := by decide +kernel
def L_X4_greatestHarmless_19 (C : aM → List Value → aH → aO → aH → Prop) (sc : Nat × (Nat → Int32)) (P : aO → aH → Prop) (u : Nat) (x1 : Int) (x3 : Int) (x4 : Int) (x5 : Int) (σ : aH) : Prop :=
    wp C 4 cX4_greatestHarmless 6 (some .int) false [] sc P 19 [(0, .ref 26), (1, .int (nZ x1)), (2, .ref (u + 1)), (3, .int (nZ x3)), (4, .int (nZ x4)), (5, .int (nZ x5))] [] σ
set_option maxRecDepth 10000 in
theorem t_X4_greatestHarmless {sc : Nat × (Nat → Int32)} {d : Nat} {Q : aO → aH → Prop} {σ : aH} {u : Nat}  {x1 : Int} (hG : G σ u) (rx1 : inR x1)
    (h : (∃ σ1 : aH, Ev sc d mX4_stalls [.ref 26] σ (.inl (some (.ref (u + 1)))) σ1 ∧ G σ1 u ∧ ((0 ≤ x1 ∧ x1 < 9) ∧ (∀ z5 : Int, z5 = (rI σ1 (u + 4) x1) → L_X4_greatestHarmless_19 (Ev sc d) sc Q u x1 z5 (-1) 60 σ1)))) :
    T sc (d + 1) mX4_greatestHarmless [.ref 26, .int (nZ x1)] σ Q := by
  refine T.of (c := 4) (code := cX4_greatestHarmless) (mL := 6) (rt := (some .int)) (ini := false) (l := [(0, .ref 26), (1, .int (nZ x1))]) rfl rfl rfl rfl (by decide) hs_X4_greatestHarmless rfl rfl ?_
  refine w_aload_n dX4_greatestHarmless_0 rfl (List.Mem.head _) ?_
  obtain ⟨σ1, hc3, hG2, h⟩ := h
  refine w_callV dX4_greatestHarmless_1 ml_4_67 ⟨ok_X4_stalls, vi_X4_stalls⟩ hs_X4_stalls (As := []) rfl rfl (gT hG rfl (lt_of rfl)) (Nat.le_of_ble_eq_true rfl) hc3 ?_
  show wp (Ev sc d) 4 cX4_greatestHarmless 6 (some .int) false [] sc Q 4 [(0, .ref 26), (1, .int (nZ x1))] [.ref (u + 1)] σ1
  refine w_astore_n (l' := [(2, .ref (u + 1)), (0, .ref 26), (1, .int (nZ x1))]) dX4_greatestHarmless_4 rfl (by decide) rfl ?_
  refine w_aload_n dX4_greatestHarmless_5 rfl (List.Mem.head _) ?_
  refine w_getR (ci := 7) (k := 2) (b := (u + 4)) dX4_greatestHarmless_6 fl_4_145 (by decide) (gT hG2 (IsMk_t1 hG.2.2.2.2) (IsMk_lt hG.2.2.2.2 (k := 1) (by decide))) (gR hG2 (IsMk_r1_2 hG.2.2.2.2)) ?_
  refine w_iload_n dX4_greatestHarmless_9 rfl (List.Mem.tail _ (List.Mem.tail _ (List.Mem.head _))) ?_
  obtain ⟨h9, h⟩ := h
  refine i_iald (n := 9) dX4_greatestHarmless_10 (gT hG2 (IsMk_t4 hG.2.2.2.2) (IsMk_lt hG.2.2.2.2 (k := 4) (by decide))) (gL hG2 (IsMk_n4 hG.2.2.2.2)) rx1 h9 ?_
  refine top_i (fun z5 ez6 => ?_)
  have rz7 : inR z5 := ez6 ▸ (rI_R _ _ _)
  replace h := h z5 ez6
  refine w_istore_n (l' := [(3, .int (nZ z5)), (2, .ref (u + 1)), (0, .ref 26), (1, .int (nZ x1))]) dX4_greatestHarmless_11 rfl (by decide) rfl ?_
  refine w_iconst (v := nZ (-1)) dX4_greatestHarmless_12 (by decide) ?_
  refine w_istore (l' := [(4, .int (nZ (-1))), (3, .int (nZ z5)), (2, .ref (u + 1)), (0, .ref 26), (1, .int (nZ x1))]) dX4_greatestHarmless_13 (by decide) rfl ?_
  refine w_bipush (v := nZ 60) dX4_greatestHarmless_15 (by decide) ?_
  refine w_istore (l' := [(5, .int (nZ 60)), (4, .int (nZ (-1))), (3, .int (nZ z5)), (2, .ref (u + 1)), (0, .ref 26), (1, .int (nZ x1))]) dX4_greatestHarmless_17 (by decide) rfl ?_
  exact w_weak (l' := [(0, .ref 26), (1, .int (nZ x1)), (2, .ref (u + 1)), (3, .int (nZ z5)), (4, .int (nZ (-1))), (5, .int (nZ 60))]) (by intro q hq; simp only [List.mem_cons, List.not_mem_nil, or_false] at hq ⊢; rcases hq with rfl | rfl | rfl | rfl | rfl | rfl <;> simp) h
set_option maxRecDepth 10000 in
theorem v_X4_greatestHarmless_19 {C : aM → List Value → aH → aO → aH → Prop} {sc : Nat × (Nat → Int32)} {P : aO → aH → Prop} {σ : aH} {u : Nat}  {x1 : Int} {x3 : Int} {x4 : Int} {x5 : Int} (hG : G σ u) (rx1 : inR x1) (rx3 : inR x3) (rx4 : inR x4) (rx5 : inR x5)
    (h : ((x5 < 0 → ((0 ≤ x1 ∧ x1 < 9) ∧ (∀ σ1 : aH, wI σ (u + 4) x1 x3 = σ1 → P (.inl (some (.int (nZ x4)))) σ1))) ∧ (¬ (x5 < 0) → ((¬ x4 = (-1) → ((0 ≤ x1 ∧ x1 < 9) ∧ (∀ σ4 : aH, wI σ (u + 4) x1 x3 = σ4 → P (.inl (some (.int (nZ x4)))) σ4))) ∧ (x4 = (-1) → ((0 ≤ x1 ∧ x1 < 9) ∧ (∀ σ7 : aH, wI σ (u + 4) x1 x5 = σ7 → (∃ (r14 : Int) (σ10 : aH), C mX6_harms [.ref 27, .int (nZ x1)] σ7 (.inl (some (.int (nZ r14)))) σ10 ∧ G σ10 u ∧ inR r14 ∧ ((¬ r14 = 0 → (inR (x5 + (-1)) ∧ L_X4_greatestHarmless_19 C sc P u x1 x3 x4 (x5 + (-1)) σ10)) ∧ (r14 = 0 → (inR (x5 + (-1)) ∧ L_X4_greatestHarmless_19 C sc P u x1 x3 x5 (x5 + (-1)) σ10))))))))))) :
    L_X4_greatestHarmless_19 C sc P u x1 x3 x4 x5 σ := by
  unfold L_X4_greatestHarmless_19
  refine w_iload dX4_greatestHarmless_19 (List.Mem.tail _ (List.Mem.tail _ (List.Mem.tail _ (List.Mem.tail _ (List.Mem.tail _ (List.Mem.head _)))))) ?_
  refine i_if_lt (tgt := 59) dX4_greatestHarmless_21 rfl rx5 (fun c9 => ?_) (fun c9 => ?_)
  · replace h := h.1 c9
    refine w_aload_n dX4_greatestHarmless_59 rfl (List.Mem.tail _ (List.Mem.tail _ (List.Mem.head _))) ?_
    refine w_getR (ci := 7) (k := 2) (b := (u + 4)) dX4_greatestHarmless_60 fl_4_145 (by decide) (gT hG (IsMk_t1 hG.2.2.2.2) (IsMk_lt hG.2.2.2.2 (k := 1) (by decide))) (gR hG (IsMk_r1_2 hG.2.2.2.2)) ?_
    refine w_iload_n dX4_greatestHarmless_63 rfl (List.Mem.tail _ (List.Mem.head _)) ?_
    refine w_iload_n dX4_greatestHarmless_64 rfl (List.Mem.tail _ (List.Mem.tail _ (List.Mem.tail _ (List.Mem.head _)))) ?_
    obtain ⟨h9, h⟩ := h
    refine i_iast (n := 9) dX4_greatestHarmless_65 (gT hG (IsMk_t4 hG.2.2.2.2) (IsMk_lt hG.2.2.2.2 (k := 4) (by decide))) (gL hG (IsMk_n4 hG.2.2.2.2)) rx1 h9 (fun σ1 eσ2 => ?_)
    replace h := h σ1 eσ2
    have hG3 : G σ1 u := eσ2 ▸ G.wI hG
    refine w_iload dX4_greatestHarmless_66 (List.Mem.tail _ (List.Mem.tail _ (List.Mem.tail _ (List.Mem.tail _ (List.Mem.head _))))) ?_
    exact w_iret dX4_greatestHarmless_68 rfl h
  · replace h := h.2 c9
    refine w_iload dX4_greatestHarmless_24 (List.Mem.tail _ (List.Mem.tail _ (List.Mem.tail _ (List.Mem.tail _ (List.Mem.head _))))) ?_
    refine w_iconst (v := nZ (-1)) dX4_greatestHarmless_26 (by decide) ?_
    refine i_cmp_ne (tgt := 59) dX4_greatestHarmless_27 rfl rx4 (by decide) (fun c9 => ?_) (fun c9 => ?_)
    · replace h := h.1 c9
      refine w_aload_n dX4_greatestHarmless_59 rfl (List.Mem.tail _ (List.Mem.tail _ (List.Mem.head _))) ?_
      refine w_getR (ci := 7) (k := 2) (b := (u + 4)) dX4_greatestHarmless_60 fl_4_145 (by decide) (gT hG (IsMk_t1 hG.2.2.2.2) (IsMk_lt hG.2.2.2.2 (k := 1) (by decide))) (gR hG (IsMk_r1_2 hG.2.2.2.2)) ?_
      refine w_iload_n dX4_greatestHarmless_63 rfl (List.Mem.tail _ (List.Mem.head _)) ?_
      refine w_iload_n dX4_greatestHarmless_64 rfl (List.Mem.tail _ (List.Mem.tail _ (List.Mem.tail _ (List.Mem.head _)))) ?_
      obtain ⟨h9, h⟩ := h
      refine i_iast (n := 9) dX4_greatestHarmless_65 (gT hG (IsMk_t4 hG.2.2.2.2) (IsMk_lt hG.2.2.2.2 (k := 4) (by decide))) (gL hG (IsMk_n4 hG.2.2.2.2)) rx1 h9 (fun σ4 eσ5 => ?_)
      replace h := h σ4 eσ5
      have hG6 : G σ4 u := eσ5 ▸ G.wI hG
      refine w_iload dX4_greatestHarmless_66 (List.Mem.tail _ (List.Mem.tail _ (List.Mem.tail _ (List.Mem.tail _ (List.Mem.head _))))) ?_
      exact w_iret dX4_greatestHarmless_68 rfl h
    · replace h := h.2 c9
      refine w_aload_n dX4_greatestHarmless_30 rfl (List.Mem.tail _ (List.Mem.tail _ (List.Mem.head _))) ?_
      refine w_getR (ci := 7) (k := 2) (b := (u + 4)) dX4_greatestHarmless_31 fl_4_145 (by decide) (gT hG (IsMk_t1 hG.2.2.2.2) (IsMk_lt hG.2.2.2.2 (k := 1) (by decide))) (gR hG (IsMk_r1_2 hG.2.2.2.2)) ?_
      refine w_iload_n dX4_greatestHarmless_34 rfl (List.Mem.tail _ (List.Mem.head _)) ?_
      refine w_iload dX4_greatestHarmless_35 (List.Mem.tail _ (List.Mem.tail _ (List.Mem.tail _ (List.Mem.tail _ (List.Mem.tail _ (List.Mem.head _)))))) ?_
      obtain ⟨h9, h⟩ := h
      refine i_iast (n := 9) dX4_greatestHarmless_37 (gT hG (IsMk_t4 hG.2.2.2.2) (IsMk_lt hG.2.2.2.2 (k := 4) (by decide))) (gL hG (IsMk_n4 hG.2.2.2.2)) rx1 h9 (fun σ7 eσ8 => ?_)
      replace h := h σ7 eσ8
      have hG9 : G σ7 u := eσ8 ▸ G.wI hG
      refine w_aload_n dX4_greatestHarmless_38 rfl (List.Mem.head _) ?_
      refine w_getR (ci := 4) (k := 0) (b := 27) dX4_greatestHarmless_39 fl_4_12 (by decide) (gT hG9 rfl (lt_of rfl)) (gR hG9 (b := 27) rfl) ?_
      refine w_iload_n dX4_greatestHarmless_42 rfl (List.Mem.tail _ (List.Mem.head _)) ?_
      obtain ⟨r14, σ10, hc12, hG11, rr13, h⟩ := h
      refine w_callV dX4_greatestHarmless_43 ml_4_189 ⟨ok_X6_harms, vi_X6_harms⟩ hs_X6_harms (As := [.int (nZ x1)]) rfl rfl (gT hG9 rfl (lt_of rfl)) (Nat.le_of_ble_eq_true rfl) hc12 ?_
      show wp C 4 cX4_greatestHarmless 6 (some .int) false [] sc P 46 [(0, .ref 26), (1, .int (nZ x1)), (2, .ref (u + 1)), (3, .int (nZ x3)), (4, .int (nZ x4)), (5, .int (nZ x5))] [.int (nZ r14)] σ10
      refine i_if_ne (tgt := 53) dX4_greatestHarmless_46 rfl rr13 (fun c9 => ?_) (fun c9 => ?_)
      · replace h := h.1 c9
        obtain ⟨q15, h⟩ := h
        refine w_iinc (v := nZ (x5 + (-1))) (l' := [(5, .int (nZ (x5 + (-1)))), (0, .ref 26), (1, .int (nZ x1)), (2, .ref (u + 1)), (3, .int (nZ x3)), (4, .int (nZ x4))]) dX4_greatestHarmless_53 (List.Mem.tail _ (List.Mem.tail _ (List.Mem.tail _ (List.Mem.tail _ (List.Mem.tail _ (List.Mem.head _)))))) (nZ_add _ _) (by decide) rfl ?_
        refine w_goto (tgt := 19) dX4_greatestHarmless_56 rfl ?_
        exact w_weak (l' := [(0, .ref 26), (1, .int (nZ x1)), (2, .ref (u + 1)), (3, .int (nZ x3)), (4, .int (nZ x4)), (5, .int (nZ (x5 + (-1))))]) (by intro q hq; simp only [List.mem_cons, List.not_mem_nil, or_false] at hq ⊢; rcases hq with rfl | rfl | rfl | rfl | rfl | rfl <;> simp) h
      · replace h := h.2 c9
        refine w_iload dX4_greatestHarmless_49 (List.Mem.tail _ (List.Mem.tail _ (List.Mem.tail _ (List.Mem.tail _ (List.Mem.tail _ (List.Mem.head _)))))) ?_
        refine w_istore (l' := [(4, .int (nZ x5)), (0, .ref 26), (1, .int (nZ x1)), (2, .ref (u + 1)), (3, .int (nZ x3)), (5, .int (nZ x5))]) dX4_greatestHarmless_51 (by decide) rfl ?_
        obtain ⟨q16, h⟩ := h
        refine w_iinc (v := nZ (x5 + (-1))) (l' := [(5, .int (nZ (x5 + (-1)))), (4, .int (nZ x5)), (0, .ref 26), (1, .int (nZ x1)), (2, .ref (u + 1)), (3, .int (nZ x3))]) dX4_greatestHarmless_53 (List.Mem.tail _ (List.Mem.tail _ (List.Mem.tail _ (List.Mem.tail _ (List.Mem.tail _ (List.Mem.head _)))))) (nZ_add _ _) (by decide) rfl ?_
        refine w_goto (tgt := 19) dX4_greatestHarmless_56 rfl ?_
        exact w_weak (l' := [(0, .ref 26), (1, .int (nZ x1)), (2, .ref (u + 1)), (3, .int (nZ x3)), (4, .int (nZ x5)), (5, .int (nZ (x5 + (-1))))]) (by intro q hq; simp only [List.mem_cons, List.not_mem_nil, or_false] at hq ⊢; rcases hq with rfl | rfl | rfl | rfl | rfl | rfl <;> simp) h
theorem dX4_tryAwnings_0 : decode cX4_tryAwnings 0 = .ok (.aload_n 0, 1) := by decide +kernel
theorem dX4_tryAwnings_1 : decode cX4_tryAwnings 1 = .ok (.invokevirtual 67, 3) := by decide +kernel
theorem dX4_tryAwnings_4 : decode cX4_tryAwnings 4 = .ok (.astore_n 2, 1) := by decide +kernel
theorem dX4_tryAwnings_5 : decode cX4_tryAwnings 5 = .ok (.aload_n 2, 1) := by decide +kernel
theorem dX4_tryAwnings_6 : decode cX4_tryAwnings 6 = .ok (.getfield 192, 3) := by decide +kernel
theorem dX4_tryAwnings_9 : decode cX4_tryAwnings 9 = .ok (.iload_n 1, 1) := by decide +kernel
theorem dX4_tryAwnings_10 : decode cX4_tryAwnings 10 = .ok (.iaload, 1) := by decide +kernel
theorem dX4_tryAwnings_11 : decode cX4_tryAwnings 11 = .ok (.istore_n 3, 1) := by decide +kernel
theorem dX4_tryAwnings_12 : decode cX4_tryAwnings 12 = .ok (.iconst 0, 1) := by decide +kernel
theorem dX4_tryAwnings_13 : decode cX4_tryAwnings 13 = .ok (.istore 4, 2) := by decide +kernel
theorem dX4_tryAwnings_15 : decode cX4_tryAwnings 15 = .ok (.iload 4, 2) := by decide +kernel
theorem dX4_tryAwnings_17 : decode cX4_tryAwnings 17 = .ok (.iconst 3, 1) := by decide +kernel
theorem dX4_tryAwnings_18 : decode cX4_tryAwnings 18 = .ok (.if_icmp .gt 60, 3) := by decide +kernel
theorem dX4_tryAwnings_21 : decode cX4_tryAwnings 21 = .ok (.aload_n 2, 1) := by decide +kernel
theorem dX4_tryAwnings_22 : decode cX4_tryAwnings 22 = .ok (.getfield 192, 3) := by decide +kernel
theorem dX4_tryAwnings_25 : decode cX4_tryAwnings 25 = .ok (.iload_n 1, 1) := by decide +kernel
theorem dX4_tryAwnings_26 : decode cX4_tryAwnings 26 = .ok (.iload 4, 2) := by decide +kernel
theorem dX4_tryAwnings_28 : decode cX4_tryAwnings 28 = .ok (.iastore, 1) := by decide +kernel
theorem dX4_tryAwnings_29 : decode cX4_tryAwnings 29 = .ok (.aload_n 0, 1) := by decide +kernel
theorem dX4_tryAwnings_30 : decode cX4_tryAwnings 30 = .ok (.getfield 12, 3) := by decide +kernel
theorem dX4_tryAwnings_33 : decode cX4_tryAwnings 33 = .ok (.aload_n 0, 1) := by decide +kernel
theorem dX4_tryAwnings_34 : decode cX4_tryAwnings 34 = .ok (.getfield 12, 3) := by decide +kernel
theorem dX4_tryAwnings_37 : decode cX4_tryAwnings 37 = .ok (.getfield 85, 3) := by decide +kernel
theorem dX4_tryAwnings_40 : decode cX4_tryAwnings 40 = .ok (.iload_n 1, 1) := by decide +kernel
theorem dX4_tryAwnings_41 : decode cX4_tryAwnings 41 = .ok (.invokevirtual 151, 3) := by decide +kernel
theorem dX4_tryAwnings_44 : decode cX4_tryAwnings 44 = .ok (.istore 5, 2) := by decide +kernel
theorem dX4_tryAwnings_46 : decode cX4_tryAwnings 46 = .ok (.iload 4, 2) := by decide +kernel
theorem dX4_tryAwnings_48 : decode cX4_tryAwnings 48 = .ok (.ifCond .eq 12, 3) := by decide +kernel
theorem dX4_tryAwnings_51 : decode cX4_tryAwnings 51 = .ok (.iload 5, 2) := by decide +kernel
theorem dX4_tryAwnings_53 : decode cX4_tryAwnings 53 = .ok (.aload_n 0, 1) := by decide +kernel
theorem dX4_tryAwnings_54 : decode cX4_tryAwnings 54 = .ok (.getfield 45, 3) := by decide +kernel
theorem dX4_tryAwnings_57 : decode cX4_tryAwnings 57 = .ok (.if_icmp .le 15, 3) := by decide +kernel
theorem dX4_tryAwnings_60 : decode cX4_tryAwnings 60 = .ok (.aload_n 0, 1) := by decide +kernel
theorem dX4_tryAwnings_61 : decode cX4_tryAwnings 61 = .ok (.iload 5, 2) := by decide +kernel
theorem dX4_tryAwnings_63 : decode cX4_tryAwnings 63 = .ok (.putfield 45, 3) := by decide +kernel
theorem dX4_tryAwnings_66 : decode cX4_tryAwnings 66 = .ok (.aload_n 0, 1) := by decide +kernel
theorem dX4_tryAwnings_67 : decode cX4_tryAwnings 67 = .ok (.iload 4, 2) := by decide +kernel
theorem dX4_tryAwnings_69 : decode cX4_tryAwnings 69 = .ok (.putfield 42, 3) := by decide +kernel
theorem dX4_tryAwnings_72 : decode cX4_tryAwnings 72 = .ok (.iinc 4 1, 3) := by decide +kernel
theorem dX4_tryAwnings_75 : decode cX4_tryAwnings 75 = .ok (.goto (-60), 3) := by decide +kernel
theorem dX4_tryAwnings_78 : decode cX4_tryAwnings 78 = .ok (.aload_n 2, 1) := by decide +kernel
theorem dX4_tryAwnings_79 : decode cX4_tryAwnings 79 = .ok (.getfield 192, 3) := by decide +kernel
theorem dX4_tryAwnings_82 : decode cX4_tryAwnings 82 = .ok (.iload_n 1, 1) := by decide +kernel
theorem dX4_tryAwnings_83 : decode cX4_tryAwnings 83 = .ok (.iload_n 3, 1) := by decide +kernel
theorem dX4_tryAwnings_84 : decode cX4_tryAwnings 84 = .ok (.iastore, 1) := by decide +kernel
theorem dX4_tryAwnings_85 : decode cX4_tryAwnings 85 = .ok (.return_, 1) := by decide +kernel
def L_X4_tryAwnings_15 (C : aM → List Value → aH → aO → aH → Prop) (sc : Nat × (Nat → Int32)) (P : aO → aH → Prop) (u : Nat) (x1 : Int) (x3 : Int) (x4 : Int) (σ : aH) : Prop :=
    wp C 4 cX4_tryAwnings 6 none false [] sc P 15 [(0, .ref 26), (1, .int (nZ x1)), (2, .ref (u + 1)), (3, .int (nZ x3)), (4, .int (nZ x4))] [] σ
set_option maxRecDepth 10000 in
theorem t_X4_tryAwnings {sc : Nat × (Nat → Int32)} {d : Nat} {Q : aO → aH → Prop} {σ : aH} {u : Nat}  {x1 : Int} (hG : G σ u) (rx1 : inR x1)
    (h : (∃ σ1 : aH, Ev sc d mX4_stalls [.ref 26] σ (.inl (some (.ref (u + 1)))) σ1 ∧ G σ1 u ∧ ((0 ≤ x1 ∧ x1 < 9) ∧ (∀ z5 : Int, z5 = (rI σ1 (u + 5) x1) → L_X4_tryAwnings_15 (Ev sc d) sc Q u x1 z5 0 σ1)))) :
    T sc (d + 1) mX4_tryAwnings [.ref 26, .int (nZ x1)] σ Q := by
  refine T.of (c := 4) (code := cX4_tryAwnings) (mL := 6) (rt := none) (ini := false) (l := [(0, .ref 26), (1, .int (nZ x1))]) rfl rfl rfl rfl (by decide) hs_X4_tryAwnings rfl rfl ?_
  refine w_aload_n dX4_tryAwnings_0 rfl (List.Mem.head _) ?_
  obtain ⟨σ1, hc3, hG2, h⟩ := h
  refine w_callV dX4_tryAwnings_1 ml_4_67 ⟨ok_X4_stalls, vi_X4_stalls⟩ hs_X4_stalls (As := []) rfl rfl (gT hG rfl (lt_of rfl)) (Nat.le_of_ble_eq_true rfl) hc3 ?_
  show wp (Ev sc d) 4 cX4_tryAwnings 6 none false [] sc Q 4 [(0, .ref 26), (1, .int (nZ x1))] [.ref (u + 1)] σ1
  refine w_astore_n (l' := [(2, .ref (u + 1)), (0, .ref 26), (1, .int (nZ x1))]) dX4_tryAwnings_4 rfl (by decide) rfl ?_
  refine w_aload_n dX4_tryAwnings_5 rfl (List.Mem.head _) ?_
  refine w_getR (ci := 7) (k := 3) (b := (u + 5)) dX4_tryAwnings_6 fl_4_192 (by decide) (gT hG2 (IsMk_t1 hG.2.2.2.2) (IsMk_lt hG.2.2.2.2 (k := 1) (by decide))) (gR hG2 (IsMk_r1_3 hG.2.2.2.2)) ?_
  refine w_iload_n dX4_tryAwnings_9 rfl (List.Mem.tail _ (List.Mem.tail _ (List.Mem.head _))) ?_
  obtain ⟨h9, h⟩ := h
  refine i_iald (n := 9) dX4_tryAwnings_10 (gT hG2 (IsMk_t5 hG.2.2.2.2) (IsMk_lt hG.2.2.2.2 (k := 5) (by decide))) (gL hG2 (IsMk_n5 hG.2.2.2.2)) rx1 h9 ?_
  refine top_i (fun z5 ez6 => ?_)
  have rz7 : inR z5 := ez6 ▸ (rI_R _ _ _)
  replace h := h z5 ez6
  refine w_istore_n (l' := [(3, .int (nZ z5)), (2, .ref (u + 1)), (0, .ref 26), (1, .int (nZ x1))]) dX4_tryAwnings_11 rfl (by decide) rfl ?_
  refine w_iconst (v := nZ 0) dX4_tryAwnings_12 (by decide) ?_
  refine w_istore (l' := [(4, .int (nZ 0)), (3, .int (nZ z5)), (2, .ref (u + 1)), (0, .ref 26), (1, .int (nZ x1))]) dX4_tryAwnings_13 (by decide) rfl ?_
  exact w_weak (l' := [(0, .ref 26), (1, .int (nZ x1)), (2, .ref (u + 1)), (3, .int (nZ z5)), (4, .int (nZ 0))]) (by intro q hq; simp only [List.mem_cons, List.not_mem_nil, or_false] at hq ⊢; rcases hq with rfl | rfl | rfl | rfl | rfl <;> simp) h
set_option maxRecDepth 10000 in
theorem v_X4_tryAwnings_15 {C : aM → List Value → aH → aO → aH → Prop} {sc : Nat × (Nat → Int32)} {P : aO → aH → Prop} {σ : aH} {u : Nat}  {x1 : Int} {x3 : Int} {x4 : Int} (hG : G σ u) (rx1 : inR x1) (rx3 : inR x3) (rx4 : inR x4)
    (h : ((3 < x4 → ((0 ≤ x1 ∧ x1 < 9) ∧ (∀ σ1 : aH, wI σ (u + 5) x1 x3 = σ1 → P (.inl none) σ1))) ∧ (¬ (3 < x4) → ((0 ≤ x1 ∧ x1 < 9) ∧ (∀ σ4 : aH, wI σ (u + 5) x1 x4 = σ4 → (∃ (r11 : Int) (σ7 : aH), C mX6_gain [.ref 27, .ref 28, .int (nZ x1)] σ4 (.inl (some (.int (nZ r11)))) σ7 ∧ G σ7 u ∧ inR r11 ∧ ((x4 = 0 → (∀ σ12 : aH, wI σ7 26 9 r11 = σ12 → (∀ σ15 : aH, wI σ12 26 8 x4 = σ15 → (inR (x4 + 1) ∧ L_X4_tryAwnings_15 C sc P u x1 x3 (x4 + 1) σ15)))) ∧ (¬ (x4 = 0) → ((r11 ≤ (rI σ7 26 9) → (inR (x4 + 1) ∧ L_X4_tryAwnings_15 C sc P u x1 x3 (x4 + 1) σ7)) ∧ (¬ (r11 ≤ (rI σ7 26 9)) → (∀ σ20 : aH, wI σ7 26 9 r11 = σ20 → (∀ σ23 : aH, wI σ20 26 8 x4 = σ23 → (inR (x4 + 1) ∧ L_X4_tryAwnings_15 C sc P u x1 x3 (x4 + 1) σ23))))))))))))) :
    L_X4_tryAwnings_15 C sc P u x1 x3 x4 σ := by
  unfold L_X4_tryAwnings_15
  refine w_iload dX4_tryAwnings_15 (List.Mem.tail _ (List.Mem.tail _ (List.Mem.tail _ (List.Mem.tail _ (List.Mem.head _))))) ?_
  refine w_iconst (v := nZ 3) dX4_tryAwnings_17 (by decide) ?_
  refine i_cmp_gt (tgt := 78) dX4_tryAwnings_18 rfl rx4 (by decide) (fun c9 => ?_) (fun c9 => ?_)
  · replace h := h.1 c9
    refine w_aload_n dX4_tryAwnings_78 rfl (List.Mem.tail _ (List.Mem.tail _ (List.Mem.head _))) ?_
    refine w_getR (ci := 7) (k := 3) (b := (u + 5)) dX4_tryAwnings_79 fl_4_192 (by decide) (gT hG (IsMk_t1 hG.2.2.2.2) (IsMk_lt hG.2.2.2.2 (k := 1) (by decide))) (gR hG (IsMk_r1_3 hG.2.2.2.2)) ?_
    refine w_iload_n dX4_tryAwnings_82 rfl (List.Mem.tail _ (List.Mem.head _)) ?_
    refine w_iload_n dX4_tryAwnings_83 rfl (List.Mem.tail _ (List.Mem.tail _ (List.Mem.tail _ (List.Mem.head _)))) ?_
    obtain ⟨h9, h⟩ := h
    refine i_iast (n := 9) dX4_tryAwnings_84 (gT hG (IsMk_t5 hG.2.2.2.2) (IsMk_lt hG.2.2.2.2 (k := 5) (by decide))) (gL hG (IsMk_n5 hG.2.2.2.2)) rx1 h9 (fun σ1 eσ2 => ?_)
    replace h := h σ1 eσ2
    have hG3 : G σ1 u := eσ2 ▸ G.wI hG
    exact w_vret dX4_tryAwnings_85 rfl h
  · replace h := h.2 c9
    refine w_aload_n dX4_tryAwnings_21 rfl (List.Mem.tail _ (List.Mem.tail _ (List.Mem.head _))) ?_
    refine w_getR (ci := 7) (k := 3) (b := (u + 5)) dX4_tryAwnings_22 fl_4_192 (by decide) (gT hG (IsMk_t1 hG.2.2.2.2) (IsMk_lt hG.2.2.2.2 (k := 1) (by decide))) (gR hG (IsMk_r1_3 hG.2.2.2.2)) ?_
    refine w_iload_n dX4_tryAwnings_25 rfl (List.Mem.tail _ (List.Mem.head _)) ?_
    refine w_iload dX4_tryAwnings_26 (List.Mem.tail _ (List.Mem.tail _ (List.Mem.tail _ (List.Mem.tail _ (List.Mem.head _))))) ?_
    obtain ⟨h9, h⟩ := h
    refine i_iast (n := 9) dX4_tryAwnings_28 (gT hG (IsMk_t5 hG.2.2.2.2) (IsMk_lt hG.2.2.2.2 (k := 5) (by decide))) (gL hG (IsMk_n5 hG.2.2.2.2)) rx1 h9 (fun σ4 eσ5 => ?_)
    replace h := h σ4 eσ5
    have hG6 : G σ4 u := eσ5 ▸ G.wI hG
    refine w_aload_n dX4_tryAwnings_29 rfl (List.Mem.head _) ?_
    refine w_getR (ci := 4) (k := 0) (b := 27) dX4_tryAwnings_30 fl_4_12 (by decide) (gT hG6 rfl (lt_of rfl)) (gR hG6 (b := 27) rfl) ?_
    refine w_aload_n dX4_tryAwnings_33 rfl (List.Mem.head _) ?_
    refine w_getR (ci := 4) (k := 0) (b := 27) dX4_tryAwnings_34 fl_4_12 (by decide) (gT hG6 rfl (lt_of rfl)) (gR hG6 (b := 27) rfl) ?_
    refine w_getR (ci := 6) (k := 0) (b := 28) dX4_tryAwnings_37 fl_4_85 (by decide) (gT hG6 rfl (lt_of rfl)) (gR hG6 (b := 28) rfl) ?_
    refine w_iload_n dX4_tryAwnings_40 rfl (List.Mem.tail _ (List.Mem.head _)) ?_
    obtain ⟨r11, σ7, hc9, hG8, rr10, h⟩ := h
    refine w_callV dX4_tryAwnings_41 ml_4_151 ⟨ok_X6_gain, vi_X6_gain⟩ hs_X6_gain (As := [.ref 28, .int (nZ x1)]) rfl rfl (gT hG6 rfl (lt_of rfl)) (Nat.le_of_ble_eq_true rfl) hc9 ?_
    show wp C 4 cX4_tryAwnings 6 none false [] sc P 44 [(0, .ref 26), (1, .int (nZ x1)), (2, .ref (u + 1)), (3, .int (nZ x3)), (4, .int (nZ x4))] [.int (nZ r11)] σ7
    refine w_istore (l' := [(5, .int (nZ r11)), (0, .ref 26), (1, .int (nZ x1)), (2, .ref (u + 1)), (3, .int (nZ x3)), (4, .int (nZ x4))]) dX4_tryAwnings_44 (by decide) rfl ?_
    refine w_iload dX4_tryAwnings_46 (List.Mem.tail _ (List.Mem.tail _ (List.Mem.tail _ (List.Mem.tail _ (List.Mem.tail _ (List.Mem.head _)))))) ?_
    refine i_if_eq (tgt := 60) dX4_tryAwnings_48 rfl rx4 (fun c9 => ?_) (fun c9 => ?_)
    · replace h := h.1 c9
      refine w_aload_n dX4_tryAwnings_60 rfl (List.Mem.tail _ (List.Mem.head _)) ?_
      refine w_iload dX4_tryAwnings_61 (List.Mem.head _) ?_
      refine i_putI (ci := 4) 9 rfl dX4_tryAwnings_63 fl_4_45 (by decide) (gT hG8 rfl (lt_of rfl)) (fun σ12 eσ13 => ?_)
      replace h := h σ12 eσ13
      have hG14 : G σ12 u := eσ13 ▸ G.wI hG8
      refine w_aload_n dX4_tryAwnings_66 rfl (List.Mem.tail _ (List.Mem.head _)) ?_
      refine w_iload dX4_tryAwnings_67 (List.Mem.tail _ (List.Mem.tail _ (List.Mem.tail _ (List.Mem.tail _ (List.Mem.tail _ (List.Mem.head _)))))) ?_
      refine i_putI (ci := 4) 8 rfl dX4_tryAwnings_69 fl_4_42 (by decide) (gT hG14 rfl (lt_of rfl)) (fun σ15 eσ16 => ?_)
      replace h := h σ15 eσ16
      have hG17 : G σ15 u := eσ16 ▸ G.wI hG14
      obtain ⟨q18, h⟩ := h
      refine w_iinc (v := nZ (x4 + 1)) (l' := [(4, .int (nZ (x4 + 1))), (5, .int (nZ r11)), (0, .ref 26), (1, .int (nZ x1)), (2, .ref (u + 1)), (3, .int (nZ x3))]) dX4_tryAwnings_72 (List.Mem.tail _ (List.Mem.tail _ (List.Mem.tail _ (List.Mem.tail _ (List.Mem.tail _ (List.Mem.head _)))))) (nZ_add _ _) (by decide) rfl ?_
      refine w_goto (tgt := 15) dX4_tryAwnings_75 rfl ?_
      exact w_weak (l' := [(0, .ref 26), (1, .int (nZ x1)), (2, .ref (u + 1)), (3, .int (nZ x3)), (4, .int (nZ (x4 + 1)))]) (by intro q hq; simp only [List.mem_cons, List.not_mem_nil, or_false] at hq ⊢; rcases hq with rfl | rfl | rfl | rfl | rfl <;> simp) h
    · replace h := h.2 c9
      refine w_iload dX4_tryAwnings_51 (List.Mem.head _) ?_
      refine w_aload_n dX4_tryAwnings_53 rfl (List.Mem.tail _ (List.Mem.head _)) ?_
      refine i_getI (ci := 4) 9 rfl dX4_tryAwnings_54 fl_4_45 (by decide) (gT hG8 rfl (lt_of rfl)) ?_
      refine i_cmp_le (tgt := 72) dX4_tryAwnings_57 rfl rr10 (rI_R _ _ _) (fun c9 => ?_) (fun c9 => ?_)
      · replace h := h.1 c9
        obtain ⟨q19, h⟩ := h
        refine w_iinc (v := nZ (x4 + 1)) (l' := [(4, .int (nZ (x4 + 1))), (5, .int (nZ r11)), (0, .ref 26), (1, .int (nZ x1)), (2, .ref (u + 1)), (3, .int (nZ x3))]) dX4_tryAwnings_72 (List.Mem.tail _ (List.Mem.tail _ (List.Mem.tail _ (List.Mem.tail _ (List.Mem.tail _ (List.Mem.head _)))))) (nZ_add _ _) (by decide) rfl ?_
        refine w_goto (tgt := 15) dX4_tryAwnings_75 rfl ?_
        exact w_weak (l' := [(0, .ref 26), (1, .int (nZ x1)), (2, .ref (u + 1)), (3, .int (nZ x3)), (4, .int (nZ (x4 + 1)))]) (by intro q hq; simp only [List.mem_cons, List.not_mem_nil, or_false] at hq ⊢; rcases hq with rfl | rfl | rfl | rfl | rfl <;> simp) h
      · replace h := h.2 c9
        refine w_aload_n dX4_tryAwnings_60 rfl (List.Mem.tail _ (List.Mem.head _)) ?_
        refine w_iload dX4_tryAwnings_61 (List.Mem.head _) ?_
        refine i_putI (ci := 4) 9 rfl dX4_tryAwnings_63 fl_4_45 (by decide) (gT hG8 rfl (lt_of rfl)) (fun σ20 eσ21 => ?_)
        replace h := h σ20 eσ21
        have hG22 : G σ20 u := eσ21 ▸ G.wI hG8
        refine w_aload_n dX4_tryAwnings_66 rfl (List.Mem.tail _ (List.Mem.head _)) ?_
        refine w_iload dX4_tryAwnings_67 (List.Mem.tail _ (List.Mem.tail _ (List.Mem.tail _ (List.Mem.tail _ (List.Mem.tail _ (List.Mem.head _)))))) ?_
        refine i_putI (ci := 4) 8 rfl dX4_tryAwnings_69 fl_4_42 (by decide) (gT hG22 rfl (lt_of rfl)) (fun σ23 eσ24 => ?_)
        replace h := h σ23 eσ24
        have hG25 : G σ23 u := eσ24 ▸ G.wI hG22
        obtain ⟨q26, h⟩ := h
        refine w_iinc (v := nZ (x4 + 1)) (l' := [(4, .int (nZ (x4 + 1))), (5, .int (nZ r11)), (0, .ref 26), (1, .int (nZ x1)), (2, .ref (u + 1)), (3, .int (nZ x3))]) dX4_tryAwnings_72 (List.Mem.tail _ (List.Mem.tail _ (List.Mem.tail _ (List.Mem.tail _ (List.Mem.tail _ (List.Mem.head _)))))) (nZ_add _ _) (by decide) rfl ?_
        refine w_goto (tgt := 15) dX4_tryAwnings_75 rfl ?_
        exact w_weak (l' := [(0, .ref 26), (1, .int (nZ x1)), (2, .ref (u + 1)), (3, .int (nZ x3)), (4, .int (nZ (x4 + 1)))]) (by intro q hq; simp only [List.mem_cons, List.not_mem_nil, or_false] at hq ⊢; rcases hq with rfl | rfl | rfl | rfl | rfl <;> simp) h
