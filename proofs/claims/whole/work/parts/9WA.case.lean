theorem dL_law_232 : decode cL_law 232 = .ok (.aload_n 1, 1) := by decide +kernel
theorem dL_law_233 : decode cL_law 233 = .ok (.aload_n 0, 1) := by decide +kernel
theorem dL_law_234 : decode cL_law 234 = .ok (.iload 4, 2) := by decide +kernel
theorem dL_law_236 : decode cL_law 236 = .ok (.iconst 1, 1) := by decide +kernel
theorem dL_law_237 : decode cL_law 237 = .ok (.iadd, 1) := by decide +kernel
theorem dL_law_238 : decode cL_law 238 = .ok (.iaload, 1) := by decide +kernel
theorem dL_law_239 : decode cL_law 239 = .ok (.aload_n 0, 1) := by decide +kernel
theorem dL_law_240 : decode cL_law 240 = .ok (.iload 4, 2) := by decide +kernel
theorem dL_law_242 : decode cL_law 242 = .ok (.iconst 2, 1) := by decide +kernel
theorem dL_law_243 : decode cL_law 243 = .ok (.iadd, 1) := by decide +kernel
theorem dL_law_244 : decode cL_law 244 = .ok (.iaload, 1) := by decide +kernel
theorem dL_law_245 : decode cL_law 245 = .ok (.aload_n 0, 1) := by decide +kernel
theorem dL_law_246 : decode cL_law 246 = .ok (.iload 4, 2) := by decide +kernel
theorem dL_law_248 : decode cL_law 248 = .ok (.iconst 3, 1) := by decide +kernel
theorem dL_law_249 : decode cL_law 249 = .ok (.iadd, 1) := by decide +kernel
theorem dL_law_250 : decode cL_law 250 = .ok (.iaload, 1) := by decide +kernel
theorem dL_law_251 : decode cL_law 251 = .ok (.aload_n 0, 1) := by decide +kernel
theorem dL_law_252 : decode cL_law 252 = .ok (.iload 4, 2) := by decide +kernel
theorem dL_law_254 : decode cL_law 254 = .ok (.iconst 4, 1) := by decide +kernel
theorem dL_law_255 : decode cL_law 255 = .ok (.iadd, 1) := by decide +kernel
theorem dL_law_256 : decode cL_law 256 = .ok (.iaload, 1) := by decide +kernel
theorem dL_law_257 : decode cL_law 257 = .ok (.aload_n 0, 1) := by decide +kernel
theorem dL_law_258 : decode cL_law 258 = .ok (.iload 4, 2) := by decide +kernel
theorem dL_law_260 : decode cL_law 260 = .ok (.iconst 5, 1) := by decide +kernel
theorem dL_law_261 : decode cL_law 261 = .ok (.iadd, 1) := by decide +kernel
theorem dL_law_262 : decode cL_law 262 = .ok (.iaload, 1) := by decide +kernel
theorem dL_law_263 : decode cL_law 263 = .ok (.invokevirtual 117, 3) := by decide +kernel
theorem dL_law_266 : decode cL_law 266 = .ok (.aload_n 2, 1) := by decide +kernel
theorem dL_law_267 : decode cL_law 267 = .ok (.aload_n 0, 1) := by decide +kernel
theorem dL_law_268 : decode cL_law 268 = .ok (.iload 4, 2) := by decide +kernel
theorem dL_law_270 : decode cL_law 270 = .ok (.iconst 1, 1) := by decide +kernel
theorem dL_law_271 : decode cL_law 271 = .ok (.iadd, 1) := by decide +kernel
theorem dL_law_272 : decode cL_law 272 = .ok (.iaload, 1) := by decide +kernel
theorem dL_law_273 : decode cL_law 273 = .ok (.aload_n 0, 1) := by decide +kernel
theorem dL_law_274 : decode cL_law 274 = .ok (.iload 4, 2) := by decide +kernel
theorem dL_law_276 : decode cL_law 276 = .ok (.iconst 2, 1) := by decide +kernel
theorem dL_law_277 : decode cL_law 277 = .ok (.iadd, 1) := by decide +kernel
theorem dL_law_278 : decode cL_law 278 = .ok (.iaload, 1) := by decide +kernel
theorem dL_law_279 : decode cL_law 279 = .ok (.aload_n 0, 1) := by decide +kernel
theorem dL_law_280 : decode cL_law 280 = .ok (.iload 4, 2) := by decide +kernel
theorem dL_law_282 : decode cL_law 282 = .ok (.iconst 3, 1) := by decide +kernel
theorem dL_law_283 : decode cL_law 283 = .ok (.iadd, 1) := by decide +kernel
theorem dL_law_284 : decode cL_law 284 = .ok (.iaload, 1) := by decide +kernel
theorem dL_law_285 : decode cL_law 285 = .ok (.aload_n 0, 1) := by decide +kernel
theorem dL_law_286 : decode cL_law 286 = .ok (.iload 4, 2) := by decide +kernel
theorem dL_law_288 : decode cL_law 288 = .ok (.iconst 4, 1) := by decide +kernel
theorem dL_law_289 : decode cL_law 289 = .ok (.iadd, 1) := by decide +kernel
theorem dL_law_290 : decode cL_law 290 = .ok (.iaload, 1) := by decide +kernel
theorem dL_law_291 : decode cL_law 291 = .ok (.aload_n 0, 1) := by decide +kernel
theorem dL_law_292 : decode cL_law 292 = .ok (.iload 4, 2) := by decide +kernel
theorem dL_law_294 : decode cL_law 294 = .ok (.iconst 5, 1) := by decide +kernel
theorem dL_law_295 : decode cL_law 295 = .ok (.iadd, 1) := by decide +kernel
theorem dL_law_296 : decode cL_law 296 = .ok (.iaload, 1) := by decide +kernel
theorem dL_law_297 : decode cL_law 297 = .ok (.invokevirtual 121, 3) := by decide +kernel
theorem dL_law_300 : decode cL_law 300 = .ok (.if_icmp .eq 2211, 3) := by decide +kernel
set_option maxRecDepth 10000 in
theorem lc_0 {sc : Nat × (Nat → Int32)} {d : Nat} {Q : aO → aH → Prop} {σ : aH} {u : Nat} {i N : Int} (hG : G σ u) (hi : 0 ≤ i ∧ i + 6 ≤ (sc.1 : Int)) (hl : (sc.1 : Int) ≤ 3072) (h : JD sc d mX9_feed mX10_feed [.int (nZ (xs sc (i + 1))), .int (nZ (xs sc (i + 2))), .int (nZ (xs sc (i + 3))), .int (nZ (xs sc (i + 4))), .int (nZ (xs sc (i + 5)))] σ N)
    (next : ∀ σ2 : aH, JE σ σ2 N → wp (Ev sc (d + 1)) 11 cL_law 7 (some .boolean) false [] sc Q 2511 [(0, .ref 1000000), (1, .ref 0), (2, .ref 76), (3, .ref 344), (4, .int (nZ i))] [] σ2) :
    wp (Ev sc (d + 1)) 11 cL_law 7 (some .boolean) false [] sc Q 232 [(0, .ref 1000000), (1, .ref 0), (2, .ref 76), (3, .ref 344), (4, .int (nZ i))] [] σ := by
  refine w_aload_n dL_law_232 rfl (List.Mem.tail _ (List.Mem.head _)) ?_
  refine w_aload_n dL_law_233 rfl (List.Mem.head _) ?_
  refine w_iload dL_law_234 (List.Mem.tail _ (List.Mem.tail _ (List.Mem.tail _ (List.Mem.tail _ (List.Mem.head _))))) ?_
  refine w_iconst (v := nZ 1) dL_law_236 (by decide) ?_
  refine i_add dL_law_237 ?_
  refine i_isld dL_law_238 (by omega) (by omega) ?_
  refine w_aload_n dL_law_239 rfl (List.Mem.head _) ?_
  refine w_iload dL_law_240 (List.Mem.tail _ (List.Mem.tail _ (List.Mem.tail _ (List.Mem.tail _ (List.Mem.head _))))) ?_
  refine w_iconst (v := nZ 2) dL_law_242 (by decide) ?_
  refine i_add dL_law_243 ?_
  refine i_isld dL_law_244 (by omega) (by omega) ?_
  refine w_aload_n dL_law_245 rfl (List.Mem.head _) ?_
  refine w_iload dL_law_246 (List.Mem.tail _ (List.Mem.tail _ (List.Mem.tail _ (List.Mem.tail _ (List.Mem.head _))))) ?_
  refine w_iconst (v := nZ 3) dL_law_248 (by decide) ?_
  refine i_add dL_law_249 ?_
  refine i_isld dL_law_250 (by omega) (by omega) ?_
  refine w_aload_n dL_law_251 rfl (List.Mem.head _) ?_
  refine w_iload dL_law_252 (List.Mem.tail _ (List.Mem.tail _ (List.Mem.tail _ (List.Mem.tail _ (List.Mem.head _))))) ?_
  refine w_iconst (v := nZ 4) dL_law_254 (by decide) ?_
  refine i_add dL_law_255 ?_
  refine i_isld dL_law_256 (by omega) (by omega) ?_
  refine w_aload_n dL_law_257 rfl (List.Mem.head _) ?_
  refine w_iload dL_law_258 (List.Mem.tail _ (List.Mem.tail _ (List.Mem.tail _ (List.Mem.tail _ (List.Mem.head _))))) ?_
  refine w_iconst (v := nZ 5) dL_law_260 (by decide) ?_
  refine i_add dL_law_261 ?_
  refine i_isld dL_law_262 (by omega) (by omega) ?_
  obtain ⟨r, σ1, σ2, e1, rr, ⟨u1, g1⟩, e2, je⟩ := h
  refine w_callV dL_law_263 ml_11_117 ⟨ok_X9_feed, vi_X9_feed⟩ hs_X9_feed (As := [.int (nZ (xs sc (i + 1))), .int (nZ (xs sc (i + 2))), .int (nZ (xs sc (i + 3))), .int (nZ (xs sc (i + 4))), .int (nZ (xs sc (i + 5)))]) rfl rfl (gT hG rfl (lt_of rfl)) (Nat.le_of_ble_eq_true rfl) (Ev.mono _ _ _ _ _ _ e1) ?_
  show wp (Ev sc (d + 1)) 11 cL_law 7 (some .boolean) false [] sc Q 266 [(0, .ref 1000000), (1, .ref 0), (2, .ref 76), (3, .ref 344), (4, .int (nZ i))] [.int (nZ r)] σ1
  refine w_aload_n dL_law_266 rfl (List.Mem.tail _ (List.Mem.tail _ (List.Mem.head _))) ?_
  refine w_aload_n dL_law_267 rfl (List.Mem.head _) ?_
  refine w_iload dL_law_268 (List.Mem.tail _ (List.Mem.tail _ (List.Mem.tail _ (List.Mem.tail _ (List.Mem.head _))))) ?_
  refine w_iconst (v := nZ 1) dL_law_270 (by decide) ?_
  refine i_add dL_law_271 ?_
  refine i_isld dL_law_272 (by omega) (by omega) ?_
  refine w_aload_n dL_law_273 rfl (List.Mem.head _) ?_
  refine w_iload dL_law_274 (List.Mem.tail _ (List.Mem.tail _ (List.Mem.tail _ (List.Mem.tail _ (List.Mem.head _))))) ?_
  refine w_iconst (v := nZ 2) dL_law_276 (by decide) ?_
  refine i_add dL_law_277 ?_
  refine i_isld dL_law_278 (by omega) (by omega) ?_
  refine w_aload_n dL_law_279 rfl (List.Mem.head _) ?_
  refine w_iload dL_law_280 (List.Mem.tail _ (List.Mem.tail _ (List.Mem.tail _ (List.Mem.tail _ (List.Mem.head _))))) ?_
  refine w_iconst (v := nZ 3) dL_law_282 (by decide) ?_
  refine i_add dL_law_283 ?_
  refine i_isld dL_law_284 (by omega) (by omega) ?_
  refine w_aload_n dL_law_285 rfl (List.Mem.head _) ?_
  refine w_iload dL_law_286 (List.Mem.tail _ (List.Mem.tail _ (List.Mem.tail _ (List.Mem.tail _ (List.Mem.head _))))) ?_
  refine w_iconst (v := nZ 4) dL_law_288 (by decide) ?_
  refine i_add dL_law_289 ?_
  refine i_isld dL_law_290 (by omega) (by omega) ?_
  refine w_aload_n dL_law_291 rfl (List.Mem.head _) ?_
  refine w_iload dL_law_292 (List.Mem.tail _ (List.Mem.tail _ (List.Mem.tail _ (List.Mem.tail _ (List.Mem.head _))))) ?_
  refine w_iconst (v := nZ 5) dL_law_294 (by decide) ?_
  refine i_add dL_law_295 ?_
  refine i_isld dL_law_296 (by omega) (by omega) ?_
  refine w_callV dL_law_297 ml_11_121 ⟨ok_X10_feed, vi_X10_feed⟩ hs_X10_feed (As := [.int (nZ (xs sc (i + 1))), .int (nZ (xs sc (i + 2))), .int (nZ (xs sc (i + 3))), .int (nZ (xs sc (i + 4))), .int (nZ (xs sc (i + 5)))]) rfl rfl (gT g1 rfl (lt_of rfl)) (Nat.le_of_ble_eq_true rfl) (Ev.mono _ _ _ _ _ _ e2) ?_
  show wp (Ev sc (d + 1)) 11 cL_law 7 (some .boolean) false [] sc Q 300 [(0, .ref 1000000), (1, .ref 0), (2, .ref 76), (3, .ref 344), (4, .int (nZ i))] [.int (nZ r), .int (nZ r)] σ2
  exact i_cmp_eq (tgt := 2511) dL_law_300 rfl rr rr (fun _ => next σ2 je) (fun c9 => absurd rfl c9)
theorem dL_law_305 : decode cL_law 305 = .ok (.aload_n 1, 1) := by decide +kernel
theorem dL_law_306 : decode cL_law 306 = .ok (.aload_n 0, 1) := by decide +kernel
theorem dL_law_307 : decode cL_law 307 = .ok (.iload 4, 2) := by decide +kernel
theorem dL_law_309 : decode cL_law 309 = .ok (.iconst 1, 1) := by decide +kernel
theorem dL_law_310 : decode cL_law 310 = .ok (.iadd, 1) := by decide +kernel
theorem dL_law_311 : decode cL_law 311 = .ok (.iaload, 1) := by decide +kernel
theorem dL_law_312 : decode cL_law 312 = .ok (.aload_n 3, 1) := by decide +kernel
theorem dL_law_313 : decode cL_law 313 = .ok (.invokestatic 122, 3) := by decide +kernel
theorem dL_law_316 : decode cL_law 316 = .ok (.istore 5, 2) := by decide +kernel
theorem dL_law_318 : decode cL_law 318 = .ok (.aload_n 2, 1) := by decide +kernel
theorem dL_law_319 : decode cL_law 319 = .ok (.aload_n 0, 1) := by decide +kernel
theorem dL_law_320 : decode cL_law 320 = .ok (.iload 4, 2) := by decide +kernel
theorem dL_law_322 : decode cL_law 322 = .ok (.iconst 1, 1) := by decide +kernel
theorem dL_law_323 : decode cL_law 323 = .ok (.iadd, 1) := by decide +kernel
theorem dL_law_324 : decode cL_law 324 = .ok (.iaload, 1) := by decide +kernel
theorem dL_law_325 : decode cL_law 325 = .ok (.invokevirtual 127, 3) := by decide +kernel
theorem dL_law_328 : decode cL_law 328 = .ok (.istore 6, 2) := by decide +kernel
theorem dL_law_330 : decode cL_law 330 = .ok (.aload_n 2, 1) := by decide +kernel
theorem dL_law_331 : decode cL_law 331 = .ok (.invokevirtual 128, 3) := by decide +kernel
theorem dL_law_334 : decode cL_law 334 = .ok (.iload 5, 2) := by decide +kernel
theorem dL_law_336 : decode cL_law 336 = .ok (.if_icmp .eq 5, 3) := by decide +kernel
theorem dL_law_341 : decode cL_law 341 = .ok (.iload 5, 2) := by decide +kernel
theorem dL_law_358 : decode cL_law 358 = .ok (.goto 2153, 3) := by decide +kernel
theorem dL_law_343 : decode cL_law 343 = .ok (.ifCond .ne 15, 3) := by decide +kernel
theorem dL_law_346 : decode cL_law 346 = .ok (.aload_n 3, 1) := by decide +kernel
theorem dL_law_347 : decode cL_law 347 = .ok (.iconst 0, 1) := by decide +kernel
theorem dL_law_348 : decode cL_law 348 = .ok (.laload, 1) := by decide +kernel
theorem dL_law_349 : decode cL_law 349 = .ok (.iload 6, 2) := by decide +kernel
theorem dL_law_351 : decode cL_law 351 = .ok (.i2l, 1) := by decide +kernel
theorem dL_law_352 : decode cL_law 352 = .ok (.lcmp, 1) := by decide +kernel
theorem dL_law_353 : decode cL_law 353 = .ok (.ifCond .eq 5, 3) := by decide +kernel
set_option maxRecDepth 10000 in
theorem lc_1 {sc : Nat × (Nat → Int32)} {d : Nat} {Q : aO → aH → Prop} {σ : aH} {u : Nat} {i N : Int} (hG : G σ u) (hi : 0 ≤ i ∧ i + 6 ≤ (sc.1 : Int)) (hl : (sc.1 : Int) ≤ 3072) (h : JW sc (d + 1) mL_market mX10_market [.int (nZ (xs sc (i + 1)))] σ N (fun _ => True))
    (next : ∀ σ2 : aH, JE σ σ2 N → wp (Ev sc (d + 1)) 11 cL_law 7 (some .boolean) false [] sc Q 2511 [(0, .ref 1000000), (1, .ref 0), (2, .ref 76), (3, .ref 344), (4, .int (nZ i))] [] σ2) :
    wp (Ev sc (d + 1)) 11 cL_law 7 (some .boolean) false [] sc Q 305 [(0, .ref 1000000), (1, .ref 0), (2, .ref 76), (3, .ref 344), (4, .int (nZ i))] [] σ := by
  refine w_aload_n dL_law_305 rfl (List.Mem.tail _ (List.Mem.head _)) ?_
  refine w_aload_n dL_law_306 rfl (List.Mem.head _) ?_
  refine w_iload dL_law_307 (List.Mem.tail _ (List.Mem.tail _ (List.Mem.tail _ (List.Mem.tail _ (List.Mem.head _))))) ?_
  refine w_iconst (v := nZ 1) dL_law_309 (by decide) ?_
  refine i_add dL_law_310 ?_
  refine i_isld dL_law_311 (by omega) (by omega) ?_
  refine w_aload_n dL_law_312 rfl (List.Mem.tail _ (List.Mem.tail _ (List.Mem.tail _ (List.Mem.head _)))) ?_
  obtain ⟨k, r, σ1, σ2, u1, u2, e1, rk, g1, e2, rr, g2, t0, tj, je⟩ := h
  refine w_callW dL_law_313 mp_11_122 ⟨ok_L_market, st_L_market⟩ hs_L_market (As := [.ref 0, .int (nZ (xs sc (i + 1))), .ref 344]) rfl rfl (Nat.le_of_ble_eq_true rfl) e1 ?_
  show wp (Ev sc (d + 1)) 11 cL_law 7 (some .boolean) false [] sc Q 316 [(0, .ref 1000000), (1, .ref 0), (2, .ref 76), (3, .ref 344), (4, .int (nZ i))] [.int (nZ k)] σ1
  refine w_istore (l' := [(5, .int (nZ k)), (0, .ref 1000000), (1, .ref 0), (2, .ref 76), (3, .ref 344), (4, .int (nZ i))]) dL_law_316 (by decide) rfl ?_
  refine w_aload_n dL_law_318 rfl (List.Mem.tail _ (List.Mem.tail _ (List.Mem.tail _ (List.Mem.head _)))) ?_
  refine w_aload_n dL_law_319 rfl (List.Mem.tail _ (List.Mem.head _)) ?_
  refine w_iload dL_law_320 (List.Mem.tail _ (List.Mem.tail _ (List.Mem.tail _ (List.Mem.tail _ (List.Mem.tail _ (List.Mem.head _)))))) ?_
  refine w_iconst (v := nZ 1) dL_law_322 (by decide) ?_
  refine i_add dL_law_323 ?_
  refine i_isld dL_law_324 (by omega) (by omega) ?_
  refine w_callV dL_law_325 ml_11_127 ⟨ok_X10_market, vi_X10_market⟩ hs_X10_market (As := [.int (nZ (xs sc (i + 1)))]) rfl rfl (gT g1 rfl (lt_of rfl)) (Nat.le_of_ble_eq_true rfl) e2 ?_
  show wp (Ev sc (d + 1)) 11 cL_law 7 (some .boolean) false [] sc Q 328 [(5, .int (nZ k)), (0, .ref 1000000), (1, .ref 0), (2, .ref 76), (3, .ref 344), (4, .int (nZ i))] [.int (nZ r)] σ2
  refine w_istore (l' := [(6, .int (nZ r)), (5, .int (nZ k)), (0, .ref 1000000), (1, .ref 0), (2, .ref 76), (3, .ref 344), (4, .int (nZ i))]) dL_law_328 (by decide) rfl ?_
  refine w_aload_n dL_law_330 rfl (List.Mem.tail _ (List.Mem.tail _ (List.Mem.tail _ (List.Mem.tail _ (List.Mem.head _))))) ?_
  refine w_callV dL_law_331 ml_11_128 ⟨ok_X10_thrown, vi_X10_thrown⟩ hs_X10_thrown (As := []) rfl rfl (gT g2 rfl (lt_of rfl)) (Nat.le_of_ble_eq_true rfl) (s_thrown g2) ?_
  show wp (Ev sc (d + 1)) 11 cL_law 7 (some .boolean) false [] sc Q 334 [(6, .int (nZ r)), (5, .int (nZ k)), (0, .ref 1000000), (1, .ref 0), (2, .ref 76), (3, .ref 344), (4, .int (nZ i))] [.int (nZ (rI σ2 76 0))] σ2
  refine w_iload dL_law_334 (List.Mem.tail _ (List.Mem.head _)) ?_
  refine i_cmp_eq (tgt := 341) dL_law_336 rfl (rI_R _ _ _) rk (fun _ => ?_) (fun c9 => absurd t0 c9)
  refine w_iload dL_law_341 (List.Mem.tail _ (List.Mem.head _)) ?_
  have fin : wp (Ev sc (d + 1)) 11 cL_law 7 (some .boolean) false [] sc Q 358 [(6, .int (nZ r)), (5, .int (nZ k)), (0, .ref 1000000), (1, .ref 0), (2, .ref 76), (3, .ref 344), (4, .int (nZ i))] [] σ2 := by
    refine w_goto (tgt := 2511) dL_law_358 rfl ?_
    exact w_weak (l' := [(0, .ref 1000000), (1, .ref 0), (2, .ref 76), (3, .ref 344), (4, .int (nZ i))]) (by intro q hq; simp only [List.mem_cons, List.not_mem_nil, or_false] at hq ⊢; rcases hq with rfl | rfl | rfl | rfl | rfl <;> simp) (next σ2 je)
  refine i_if_ne (tgt := 358) dL_law_343 rfl rk (fun _ => fin) (fun c9 => ?_)
  obtain ⟨tj, hb⟩ := tj c9
  refine w_aload_n dL_law_346 rfl (List.Mem.tail _ (List.Mem.tail _ (List.Mem.tail _ (List.Mem.tail _ (List.Mem.tail _ (List.Mem.head _)))))) ?_
  refine w_iconst (v := nZ 0) dL_law_347 (by decide) ?_
  refine i_lald (n := 1) dL_law_348 (gT g2 rfl (lt_of rfl)) (gL g2 rfl) (by decide) (by decide) ?_
  rw [tj]
  refine w_iload dL_law_349 (List.Mem.head _) ?_
  refine i_2l dL_law_351 rr ?_
  refine j_cmp dL_law_352 (by omega) (by omega) ?_
  rw [show (if r < r then (1 : Int) else if r = r then 0 else (-1)) = 0 by rw [if_neg (by omega), if_pos rfl]]
  exact i_if_eq (tgt := 358) dL_law_353 rfl (by decide) (fun _ => fin) (fun c8 => absurd rfl c8)
theorem dL_law_361 : decode cL_law 361 = .ok (.aload_n 1, 1) := by decide +kernel
theorem dL_law_362 : decode cL_law 362 = .ok (.invokevirtual 132, 3) := by decide +kernel
theorem dL_law_365 : decode cL_law 365 = .ok (.aload_n 2, 1) := by decide +kernel
theorem dL_law_366 : decode cL_law 366 = .ok (.invokevirtual 135, 3) := by decide +kernel
theorem dL_law_369 : decode cL_law 369 = .ok (.if_icmp .eq 2142, 3) := by decide +kernel
set_option maxRecDepth 10000 in
theorem lc_2 {sc : Nat × (Nat → Int32)} {d : Nat} {Q : aO → aH → Prop} {σ : aH} {u : Nat} {i N : Int} (hG : G σ u) (hi : 0 ≤ i ∧ i + 6 ≤ (sc.1 : Int)) (hl : (sc.1 : Int) ≤ 3072) (h : JD sc d mX9_fault mX10_fault [] σ N)
    (next : ∀ σ2 : aH, JE σ σ2 N → wp (Ev sc (d + 1)) 11 cL_law 7 (some .boolean) false [] sc Q 2511 [(0, .ref 1000000), (1, .ref 0), (2, .ref 76), (3, .ref 344), (4, .int (nZ i))] [] σ2) :
    wp (Ev sc (d + 1)) 11 cL_law 7 (some .boolean) false [] sc Q 361 [(0, .ref 1000000), (1, .ref 0), (2, .ref 76), (3, .ref 344), (4, .int (nZ i))] [] σ := by
  refine w_aload_n dL_law_361 rfl (List.Mem.tail _ (List.Mem.head _)) ?_
  obtain ⟨r, σ1, σ2, e1, rr, ⟨u1, g1⟩, e2, je⟩ := h
  refine w_callV dL_law_362 ml_11_132 ⟨ok_X9_fault, vi_X9_fault⟩ hs_X9_fault (As := []) rfl rfl (gT hG rfl (lt_of rfl)) (Nat.le_of_ble_eq_true rfl) (Ev.mono _ _ _ _ _ _ e1) ?_
  show wp (Ev sc (d + 1)) 11 cL_law 7 (some .boolean) false [] sc Q 365 [(0, .ref 1000000), (1, .ref 0), (2, .ref 76), (3, .ref 344), (4, .int (nZ i))] [.int (nZ r)] σ1
  refine w_aload_n dL_law_365 rfl (List.Mem.tail _ (List.Mem.tail _ (List.Mem.head _))) ?_
  refine w_callV dL_law_366 ml_11_135 ⟨ok_X10_fault, vi_X10_fault⟩ hs_X10_fault (As := []) rfl rfl (gT g1 rfl (lt_of rfl)) (Nat.le_of_ble_eq_true rfl) (Ev.mono _ _ _ _ _ _ e2) ?_
  show wp (Ev sc (d + 1)) 11 cL_law 7 (some .boolean) false [] sc Q 369 [(0, .ref 1000000), (1, .ref 0), (2, .ref 76), (3, .ref 344), (4, .int (nZ i))] [.int (nZ r), .int (nZ r)] σ2
  exact i_cmp_eq (tgt := 2511) dL_law_369 rfl rr rr (fun _ => next σ2 je) (fun c9 => absurd rfl c9)
theorem dL_law_374 : decode cL_law 374 = .ok (.aload_n 1, 1) := by decide +kernel
theorem dL_law_375 : decode cL_law 375 = .ok (.aload_n 0, 1) := by decide +kernel
theorem dL_law_376 : decode cL_law 376 = .ok (.iload 4, 2) := by decide +kernel
theorem dL_law_378 : decode cL_law 378 = .ok (.iconst 1, 1) := by decide +kernel
theorem dL_law_379 : decode cL_law 379 = .ok (.iadd, 1) := by decide +kernel
theorem dL_law_380 : decode cL_law 380 = .ok (.iaload, 1) := by decide +kernel
theorem dL_law_381 : decode cL_law 381 = .ok (.aload_n 3, 1) := by decide +kernel
theorem dL_law_382 : decode cL_law 382 = .ok (.invokestatic 136, 3) := by decide +kernel
theorem dL_law_385 : decode cL_law 385 = .ok (.istore 5, 2) := by decide +kernel
theorem dL_law_387 : decode cL_law 387 = .ok (.aload_n 2, 1) := by decide +kernel
theorem dL_law_388 : decode cL_law 388 = .ok (.aload_n 0, 1) := by decide +kernel
theorem dL_law_389 : decode cL_law 389 = .ok (.iload 4, 2) := by decide +kernel
theorem dL_law_391 : decode cL_law 391 = .ok (.iconst 1, 1) := by decide +kernel
theorem dL_law_392 : decode cL_law 392 = .ok (.iadd, 1) := by decide +kernel
theorem dL_law_393 : decode cL_law 393 = .ok (.iaload, 1) := by decide +kernel
theorem dL_law_394 : decode cL_law 394 = .ok (.invokevirtual 138, 3) := by decide +kernel
theorem dL_law_397 : decode cL_law 397 = .ok (.istore 6, 2) := by decide +kernel
theorem dL_law_399 : decode cL_law 399 = .ok (.aload_n 2, 1) := by decide +kernel
theorem dL_law_400 : decode cL_law 400 = .ok (.invokevirtual 128, 3) := by decide +kernel
theorem dL_law_403 : decode cL_law 403 = .ok (.iload 5, 2) := by decide +kernel
theorem dL_law_405 : decode cL_law 405 = .ok (.if_icmp .eq 5, 3) := by decide +kernel
theorem dL_law_410 : decode cL_law 410 = .ok (.iload 5, 2) := by decide +kernel
theorem dL_law_427 : decode cL_law 427 = .ok (.goto 2084, 3) := by decide +kernel
theorem dL_law_412 : decode cL_law 412 = .ok (.ifCond .ne 15, 3) := by decide +kernel
theorem dL_law_415 : decode cL_law 415 = .ok (.aload_n 3, 1) := by decide +kernel
theorem dL_law_416 : decode cL_law 416 = .ok (.iconst 0, 1) := by decide +kernel
theorem dL_law_417 : decode cL_law 417 = .ok (.laload, 1) := by decide +kernel
theorem dL_law_418 : decode cL_law 418 = .ok (.iload 6, 2) := by decide +kernel
theorem dL_law_420 : decode cL_law 420 = .ok (.i2l, 1) := by decide +kernel
theorem dL_law_421 : decode cL_law 421 = .ok (.lcmp, 1) := by decide +kernel
theorem dL_law_422 : decode cL_law 422 = .ok (.ifCond .eq 5, 3) := by decide +kernel
set_option maxRecDepth 10000 in
theorem lc_3 {sc : Nat × (Nat → Int32)} {d : Nat} {Q : aO → aH → Prop} {σ : aH} {u : Nat} {i N : Int} (hG : G σ u) (hi : 0 ≤ i ∧ i + 6 ≤ (sc.1 : Int)) (hl : (sc.1 : Int) ≤ 3072) (h : JW sc (d + 1) mL_told mX10_told [.int (nZ (xs sc (i + 1)))] σ N (fun _ => True))
    (next : ∀ σ2 : aH, JE σ σ2 N → wp (Ev sc (d + 1)) 11 cL_law 7 (some .boolean) false [] sc Q 2511 [(0, .ref 1000000), (1, .ref 0), (2, .ref 76), (3, .ref 344), (4, .int (nZ i))] [] σ2) :
    wp (Ev sc (d + 1)) 11 cL_law 7 (some .boolean) false [] sc Q 374 [(0, .ref 1000000), (1, .ref 0), (2, .ref 76), (3, .ref 344), (4, .int (nZ i))] [] σ := by
  refine w_aload_n dL_law_374 rfl (List.Mem.tail _ (List.Mem.head _)) ?_
  refine w_aload_n dL_law_375 rfl (List.Mem.head _) ?_
  refine w_iload dL_law_376 (List.Mem.tail _ (List.Mem.tail _ (List.Mem.tail _ (List.Mem.tail _ (List.Mem.head _))))) ?_
  refine w_iconst (v := nZ 1) dL_law_378 (by decide) ?_
  refine i_add dL_law_379 ?_
  refine i_isld dL_law_380 (by omega) (by omega) ?_
  refine w_aload_n dL_law_381 rfl (List.Mem.tail _ (List.Mem.tail _ (List.Mem.tail _ (List.Mem.head _)))) ?_
  obtain ⟨k, r, σ1, σ2, u1, u2, e1, rk, g1, e2, rr, g2, t0, tj, je⟩ := h
  refine w_callW dL_law_382 mp_11_136 ⟨ok_L_told, st_L_told⟩ hs_L_told (As := [.ref 0, .int (nZ (xs sc (i + 1))), .ref 344]) rfl rfl (Nat.le_of_ble_eq_true rfl) e1 ?_
  show wp (Ev sc (d + 1)) 11 cL_law 7 (some .boolean) false [] sc Q 385 [(0, .ref 1000000), (1, .ref 0), (2, .ref 76), (3, .ref 344), (4, .int (nZ i))] [.int (nZ k)] σ1
  refine w_istore (l' := [(5, .int (nZ k)), (0, .ref 1000000), (1, .ref 0), (2, .ref 76), (3, .ref 344), (4, .int (nZ i))]) dL_law_385 (by decide) rfl ?_
  refine w_aload_n dL_law_387 rfl (List.Mem.tail _ (List.Mem.tail _ (List.Mem.tail _ (List.Mem.head _)))) ?_
  refine w_aload_n dL_law_388 rfl (List.Mem.tail _ (List.Mem.head _)) ?_
  refine w_iload dL_law_389 (List.Mem.tail _ (List.Mem.tail _ (List.Mem.tail _ (List.Mem.tail _ (List.Mem.tail _ (List.Mem.head _)))))) ?_
  refine w_iconst (v := nZ 1) dL_law_391 (by decide) ?_
  refine i_add dL_law_392 ?_
  refine i_isld dL_law_393 (by omega) (by omega) ?_
  refine w_callV dL_law_394 ml_11_138 ⟨ok_X10_told, vi_X10_told⟩ hs_X10_told (As := [.int (nZ (xs sc (i + 1)))]) rfl rfl (gT g1 rfl (lt_of rfl)) (Nat.le_of_ble_eq_true rfl) e2 ?_
  show wp (Ev sc (d + 1)) 11 cL_law 7 (some .boolean) false [] sc Q 397 [(5, .int (nZ k)), (0, .ref 1000000), (1, .ref 0), (2, .ref 76), (3, .ref 344), (4, .int (nZ i))] [.int (nZ r)] σ2
  refine w_istore (l' := [(6, .int (nZ r)), (5, .int (nZ k)), (0, .ref 1000000), (1, .ref 0), (2, .ref 76), (3, .ref 344), (4, .int (nZ i))]) dL_law_397 (by decide) rfl ?_
  refine w_aload_n dL_law_399 rfl (List.Mem.tail _ (List.Mem.tail _ (List.Mem.tail _ (List.Mem.tail _ (List.Mem.head _))))) ?_
  refine w_callV dL_law_400 ml_11_128 ⟨ok_X10_thrown, vi_X10_thrown⟩ hs_X10_thrown (As := []) rfl rfl (gT g2 rfl (lt_of rfl)) (Nat.le_of_ble_eq_true rfl) (s_thrown g2) ?_
  show wp (Ev sc (d + 1)) 11 cL_law 7 (some .boolean) false [] sc Q 403 [(6, .int (nZ r)), (5, .int (nZ k)), (0, .ref 1000000), (1, .ref 0), (2, .ref 76), (3, .ref 344), (4, .int (nZ i))] [.int (nZ (rI σ2 76 0))] σ2
  refine w_iload dL_law_403 (List.Mem.tail _ (List.Mem.head _)) ?_
  refine i_cmp_eq (tgt := 410) dL_law_405 rfl (rI_R _ _ _) rk (fun _ => ?_) (fun c9 => absurd t0 c9)
  refine w_iload dL_law_410 (List.Mem.tail _ (List.Mem.head _)) ?_
  have fin : wp (Ev sc (d + 1)) 11 cL_law 7 (some .boolean) false [] sc Q 427 [(6, .int (nZ r)), (5, .int (nZ k)), (0, .ref 1000000), (1, .ref 0), (2, .ref 76), (3, .ref 344), (4, .int (nZ i))] [] σ2 := by
    refine w_goto (tgt := 2511) dL_law_427 rfl ?_
    exact w_weak (l' := [(0, .ref 1000000), (1, .ref 0), (2, .ref 76), (3, .ref 344), (4, .int (nZ i))]) (by intro q hq; simp only [List.mem_cons, List.not_mem_nil, or_false] at hq ⊢; rcases hq with rfl | rfl | rfl | rfl | rfl <;> simp) (next σ2 je)
  refine i_if_ne (tgt := 427) dL_law_412 rfl rk (fun _ => fin) (fun c9 => ?_)
  obtain ⟨tj, hb⟩ := tj c9
  refine w_aload_n dL_law_415 rfl (List.Mem.tail _ (List.Mem.tail _ (List.Mem.tail _ (List.Mem.tail _ (List.Mem.tail _ (List.Mem.head _)))))) ?_
  refine w_iconst (v := nZ 0) dL_law_416 (by decide) ?_
  refine i_lald (n := 1) dL_law_417 (gT g2 rfl (lt_of rfl)) (gL g2 rfl) (by decide) (by decide) ?_
  rw [tj]
  refine w_iload dL_law_418 (List.Mem.head _) ?_
  refine i_2l dL_law_420 rr ?_
  refine j_cmp dL_law_421 (by omega) (by omega) ?_
  rw [show (if r < r then (1 : Int) else if r = r then 0 else (-1)) = 0 by rw [if_neg (by omega), if_pos rfl]]
  exact i_if_eq (tgt := 427) dL_law_422 rfl (by decide) (fun _ => fin) (fun c8 => absurd rfl c8)
theorem dL_law_430 : decode cL_law 430 = .ok (.aload_n 1, 1) := by decide +kernel
theorem dL_law_431 : decode cL_law 431 = .ok (.aload_n 0, 1) := by decide +kernel
theorem dL_law_432 : decode cL_law 432 = .ok (.iload 4, 2) := by decide +kernel
theorem dL_law_434 : decode cL_law 434 = .ok (.iconst 1, 1) := by decide +kernel
theorem dL_law_435 : decode cL_law 435 = .ok (.iadd, 1) := by decide +kernel
theorem dL_law_436 : decode cL_law 436 = .ok (.iaload, 1) := by decide +kernel
theorem dL_law_437 : decode cL_law 437 = .ok (.aload_n 0, 1) := by decide +kernel
theorem dL_law_438 : decode cL_law 438 = .ok (.iload 4, 2) := by decide +kernel
theorem dL_law_440 : decode cL_law 440 = .ok (.iconst 2, 1) := by decide +kernel
theorem dL_law_441 : decode cL_law 441 = .ok (.iadd, 1) := by decide +kernel
theorem dL_law_442 : decode cL_law 442 = .ok (.iaload, 1) := by decide +kernel
theorem dL_law_443 : decode cL_law 443 = .ok (.aload_n 3, 1) := by decide +kernel
theorem dL_law_444 : decode cL_law 444 = .ok (.invokestatic 139, 3) := by decide +kernel
theorem dL_law_447 : decode cL_law 447 = .ok (.istore 5, 2) := by decide +kernel
theorem dL_law_449 : decode cL_law 449 = .ok (.aload_n 2, 1) := by decide +kernel
theorem dL_law_450 : decode cL_law 450 = .ok (.aload_n 0, 1) := by decide +kernel
theorem dL_law_451 : decode cL_law 451 = .ok (.iload 4, 2) := by decide +kernel
theorem dL_law_453 : decode cL_law 453 = .ok (.iconst 1, 1) := by decide +kernel
theorem dL_law_454 : decode cL_law 454 = .ok (.iadd, 1) := by decide +kernel
theorem dL_law_455 : decode cL_law 455 = .ok (.iaload, 1) := by decide +kernel
theorem dL_law_456 : decode cL_law 456 = .ok (.aload_n 0, 1) := by decide +kernel
theorem dL_law_457 : decode cL_law 457 = .ok (.iload 4, 2) := by decide +kernel
theorem dL_law_459 : decode cL_law 459 = .ok (.iconst 2, 1) := by decide +kernel
theorem dL_law_460 : decode cL_law 460 = .ok (.iadd, 1) := by decide +kernel
theorem dL_law_461 : decode cL_law 461 = .ok (.iaload, 1) := by decide +kernel
theorem dL_law_462 : decode cL_law 462 = .ok (.invokevirtual 142, 3) := by decide +kernel
theorem dL_law_465 : decode cL_law 465 = .ok (.istore 6, 2) := by decide +kernel
theorem dL_law_467 : decode cL_law 467 = .ok (.aload_n 2, 1) := by decide +kernel
theorem dL_law_468 : decode cL_law 468 = .ok (.invokevirtual 128, 3) := by decide +kernel
theorem dL_law_471 : decode cL_law 471 = .ok (.iload 5, 2) := by decide +kernel
theorem dL_law_473 : decode cL_law 473 = .ok (.if_icmp .eq 5, 3) := by decide +kernel
theorem dL_law_478 : decode cL_law 478 = .ok (.iload 5, 2) := by decide +kernel
theorem dL_law_495 : decode cL_law 495 = .ok (.goto 2016, 3) := by decide +kernel
theorem dL_law_480 : decode cL_law 480 = .ok (.ifCond .ne 15, 3) := by decide +kernel
theorem dL_law_483 : decode cL_law 483 = .ok (.aload_n 3, 1) := by decide +kernel
theorem dL_law_484 : decode cL_law 484 = .ok (.iconst 0, 1) := by decide +kernel
theorem dL_law_485 : decode cL_law 485 = .ok (.laload, 1) := by decide +kernel
theorem dL_law_486 : decode cL_law 486 = .ok (.iload 6, 2) := by decide +kernel
theorem dL_law_488 : decode cL_law 488 = .ok (.i2l, 1) := by decide +kernel
theorem dL_law_489 : decode cL_law 489 = .ok (.lcmp, 1) := by decide +kernel
theorem dL_law_490 : decode cL_law 490 = .ok (.ifCond .eq 5, 3) := by decide +kernel
set_option maxRecDepth 10000 in
theorem lc_4 {sc : Nat × (Nat → Int32)} {d : Nat} {Q : aO → aH → Prop} {σ : aH} {u : Nat} {i N : Int} (hG : G σ u) (hi : 0 ≤ i ∧ i + 6 ≤ (sc.1 : Int)) (hl : (sc.1 : Int) ≤ 3072) (h : JW sc (d + 1) mL_stall mX10_stall [.int (nZ (xs sc (i + 1))), .int (nZ (xs sc (i + 2)))] σ N (fun _ => True))
    (next : ∀ σ2 : aH, JE σ σ2 N → wp (Ev sc (d + 1)) 11 cL_law 7 (some .boolean) false [] sc Q 2511 [(0, .ref 1000000), (1, .ref 0), (2, .ref 76), (3, .ref 344), (4, .int (nZ i))] [] σ2) :
    wp (Ev sc (d + 1)) 11 cL_law 7 (some .boolean) false [] sc Q 430 [(0, .ref 1000000), (1, .ref 0), (2, .ref 76), (3, .ref 344), (4, .int (nZ i))] [] σ := by
  refine w_aload_n dL_law_430 rfl (List.Mem.tail _ (List.Mem.head _)) ?_
  refine w_aload_n dL_law_431 rfl (List.Mem.head _) ?_
  refine w_iload dL_law_432 (List.Mem.tail _ (List.Mem.tail _ (List.Mem.tail _ (List.Mem.tail _ (List.Mem.head _))))) ?_
  refine w_iconst (v := nZ 1) dL_law_434 (by decide) ?_
  refine i_add dL_law_435 ?_
  refine i_isld dL_law_436 (by omega) (by omega) ?_
  refine w_aload_n dL_law_437 rfl (List.Mem.head _) ?_
  refine w_iload dL_law_438 (List.Mem.tail _ (List.Mem.tail _ (List.Mem.tail _ (List.Mem.tail _ (List.Mem.head _))))) ?_
  refine w_iconst (v := nZ 2) dL_law_440 (by decide) ?_
  refine i_add dL_law_441 ?_
  refine i_isld dL_law_442 (by omega) (by omega) ?_
  refine w_aload_n dL_law_443 rfl (List.Mem.tail _ (List.Mem.tail _ (List.Mem.tail _ (List.Mem.head _)))) ?_
  obtain ⟨k, r, σ1, σ2, u1, u2, e1, rk, g1, e2, rr, g2, t0, tj, je⟩ := h
  refine w_callW dL_law_444 mp_11_139 ⟨ok_L_stall, st_L_stall⟩ hs_L_stall (As := [.ref 0, .int (nZ (xs sc (i + 1))), .int (nZ (xs sc (i + 2))), .ref 344]) rfl rfl (Nat.le_of_ble_eq_true rfl) e1 ?_
  show wp (Ev sc (d + 1)) 11 cL_law 7 (some .boolean) false [] sc Q 447 [(0, .ref 1000000), (1, .ref 0), (2, .ref 76), (3, .ref 344), (4, .int (nZ i))] [.int (nZ k)] σ1
  refine w_istore (l' := [(5, .int (nZ k)), (0, .ref 1000000), (1, .ref 0), (2, .ref 76), (3, .ref 344), (4, .int (nZ i))]) dL_law_447 (by decide) rfl ?_
  refine w_aload_n dL_law_449 rfl (List.Mem.tail _ (List.Mem.tail _ (List.Mem.tail _ (List.Mem.head _)))) ?_
  refine w_aload_n dL_law_450 rfl (List.Mem.tail _ (List.Mem.head _)) ?_
  refine w_iload dL_law_451 (List.Mem.tail _ (List.Mem.tail _ (List.Mem.tail _ (List.Mem.tail _ (List.Mem.tail _ (List.Mem.head _)))))) ?_
  refine w_iconst (v := nZ 1) dL_law_453 (by decide) ?_
  refine i_add dL_law_454 ?_
  refine i_isld dL_law_455 (by omega) (by omega) ?_
  refine w_aload_n dL_law_456 rfl (List.Mem.tail _ (List.Mem.head _)) ?_
  refine w_iload dL_law_457 (List.Mem.tail _ (List.Mem.tail _ (List.Mem.tail _ (List.Mem.tail _ (List.Mem.tail _ (List.Mem.head _)))))) ?_
  refine w_iconst (v := nZ 2) dL_law_459 (by decide) ?_
  refine i_add dL_law_460 ?_
  refine i_isld dL_law_461 (by omega) (by omega) ?_
  refine w_callV dL_law_462 ml_11_142 ⟨ok_X10_stall, vi_X10_stall⟩ hs_X10_stall (As := [.int (nZ (xs sc (i + 1))), .int (nZ (xs sc (i + 2)))]) rfl rfl (gT g1 rfl (lt_of rfl)) (Nat.le_of_ble_eq_true rfl) e2 ?_
  show wp (Ev sc (d + 1)) 11 cL_law 7 (some .boolean) false [] sc Q 465 [(5, .int (nZ k)), (0, .ref 1000000), (1, .ref 0), (2, .ref 76), (3, .ref 344), (4, .int (nZ i))] [.int (nZ r)] σ2
  refine w_istore (l' := [(6, .int (nZ r)), (5, .int (nZ k)), (0, .ref 1000000), (1, .ref 0), (2, .ref 76), (3, .ref 344), (4, .int (nZ i))]) dL_law_465 (by decide) rfl ?_
  refine w_aload_n dL_law_467 rfl (List.Mem.tail _ (List.Mem.tail _ (List.Mem.tail _ (List.Mem.tail _ (List.Mem.head _))))) ?_
  refine w_callV dL_law_468 ml_11_128 ⟨ok_X10_thrown, vi_X10_thrown⟩ hs_X10_thrown (As := []) rfl rfl (gT g2 rfl (lt_of rfl)) (Nat.le_of_ble_eq_true rfl) (s_thrown g2) ?_
  show wp (Ev sc (d + 1)) 11 cL_law 7 (some .boolean) false [] sc Q 471 [(6, .int (nZ r)), (5, .int (nZ k)), (0, .ref 1000000), (1, .ref 0), (2, .ref 76), (3, .ref 344), (4, .int (nZ i))] [.int (nZ (rI σ2 76 0))] σ2
  refine w_iload dL_law_471 (List.Mem.tail _ (List.Mem.head _)) ?_
  refine i_cmp_eq (tgt := 478) dL_law_473 rfl (rI_R _ _ _) rk (fun _ => ?_) (fun c9 => absurd t0 c9)
  refine w_iload dL_law_478 (List.Mem.tail _ (List.Mem.head _)) ?_
  have fin : wp (Ev sc (d + 1)) 11 cL_law 7 (some .boolean) false [] sc Q 495 [(6, .int (nZ r)), (5, .int (nZ k)), (0, .ref 1000000), (1, .ref 0), (2, .ref 76), (3, .ref 344), (4, .int (nZ i))] [] σ2 := by
    refine w_goto (tgt := 2511) dL_law_495 rfl ?_
    exact w_weak (l' := [(0, .ref 1000000), (1, .ref 0), (2, .ref 76), (3, .ref 344), (4, .int (nZ i))]) (by intro q hq; simp only [List.mem_cons, List.not_mem_nil, or_false] at hq ⊢; rcases hq with rfl | rfl | rfl | rfl | rfl <;> simp) (next σ2 je)
  refine i_if_ne (tgt := 495) dL_law_480 rfl rk (fun _ => fin) (fun c9 => ?_)
  obtain ⟨tj, hb⟩ := tj c9
  refine w_aload_n dL_law_483 rfl (List.Mem.tail _ (List.Mem.tail _ (List.Mem.tail _ (List.Mem.tail _ (List.Mem.tail _ (List.Mem.head _)))))) ?_
  refine w_iconst (v := nZ 0) dL_law_484 (by decide) ?_
  refine i_lald (n := 1) dL_law_485 (gT g2 rfl (lt_of rfl)) (gL g2 rfl) (by decide) (by decide) ?_
  rw [tj]
  refine w_iload dL_law_486 (List.Mem.head _) ?_
  refine i_2l dL_law_488 rr ?_
  refine j_cmp dL_law_489 (by omega) (by omega) ?_
  rw [show (if r < r then (1 : Int) else if r = r then 0 else (-1)) = 0 by rw [if_neg (by omega), if_pos rfl]]
  exact i_if_eq (tgt := 495) dL_law_490 rfl (by decide) (fun _ => fin) (fun c8 => absurd rfl c8)
theorem dL_law_498 : decode cL_law 498 = .ok (.aload_n 1, 1) := by decide +kernel
theorem dL_law_499 : decode cL_law 499 = .ok (.aload_n 0, 1) := by decide +kernel
theorem dL_law_500 : decode cL_law 500 = .ok (.iload 4, 2) := by decide +kernel
theorem dL_law_502 : decode cL_law 502 = .ok (.iconst 1, 1) := by decide +kernel
theorem dL_law_503 : decode cL_law 503 = .ok (.iadd, 1) := by decide +kernel
theorem dL_law_504 : decode cL_law 504 = .ok (.iaload, 1) := by decide +kernel
theorem dL_law_505 : decode cL_law 505 = .ok (.aload_n 0, 1) := by decide +kernel
theorem dL_law_506 : decode cL_law 506 = .ok (.iload 4, 2) := by decide +kernel
theorem dL_law_508 : decode cL_law 508 = .ok (.iconst 2, 1) := by decide +kernel
theorem dL_law_509 : decode cL_law 509 = .ok (.iadd, 1) := by decide +kernel
theorem dL_law_510 : decode cL_law 510 = .ok (.iaload, 1) := by decide +kernel
theorem dL_law_511 : decode cL_law 511 = .ok (.aload_n 3, 1) := by decide +kernel
theorem dL_law_512 : decode cL_law 512 = .ok (.invokestatic 143, 3) := by decide +kernel
theorem dL_law_515 : decode cL_law 515 = .ok (.istore 5, 2) := by decide +kernel
theorem dL_law_517 : decode cL_law 517 = .ok (.aload_n 2, 1) := by decide +kernel
theorem dL_law_518 : decode cL_law 518 = .ok (.aload_n 0, 1) := by decide +kernel
theorem dL_law_519 : decode cL_law 519 = .ok (.iload 4, 2) := by decide +kernel
theorem dL_law_521 : decode cL_law 521 = .ok (.iconst 1, 1) := by decide +kernel
theorem dL_law_522 : decode cL_law 522 = .ok (.iadd, 1) := by decide +kernel
theorem dL_law_523 : decode cL_law 523 = .ok (.iaload, 1) := by decide +kernel
theorem dL_law_524 : decode cL_law 524 = .ok (.aload_n 0, 1) := by decide +kernel
theorem dL_law_525 : decode cL_law 525 = .ok (.iload 4, 2) := by decide +kernel
theorem dL_law_527 : decode cL_law 527 = .ok (.iconst 2, 1) := by decide +kernel
theorem dL_law_528 : decode cL_law 528 = .ok (.iadd, 1) := by decide +kernel
theorem dL_law_529 : decode cL_law 529 = .ok (.iaload, 1) := by decide +kernel
theorem dL_law_530 : decode cL_law 530 = .ok (.invokevirtual 145, 3) := by decide +kernel
theorem dL_law_533 : decode cL_law 533 = .ok (.istore 6, 2) := by decide +kernel
theorem dL_law_535 : decode cL_law 535 = .ok (.aload_n 2, 1) := by decide +kernel
theorem dL_law_536 : decode cL_law 536 = .ok (.invokevirtual 128, 3) := by decide +kernel
theorem dL_law_539 : decode cL_law 539 = .ok (.iload 5, 2) := by decide +kernel
theorem dL_law_541 : decode cL_law 541 = .ok (.if_icmp .eq 5, 3) := by decide +kernel
theorem dL_law_546 : decode cL_law 546 = .ok (.iload 5, 2) := by decide +kernel
theorem dL_law_563 : decode cL_law 563 = .ok (.goto 1948, 3) := by decide +kernel
theorem dL_law_548 : decode cL_law 548 = .ok (.ifCond .ne 15, 3) := by decide +kernel
theorem dL_law_551 : decode cL_law 551 = .ok (.aload_n 3, 1) := by decide +kernel
theorem dL_law_552 : decode cL_law 552 = .ok (.iconst 0, 1) := by decide +kernel
theorem dL_law_553 : decode cL_law 553 = .ok (.laload, 1) := by decide +kernel
theorem dL_law_554 : decode cL_law 554 = .ok (.iload 6, 2) := by decide +kernel
theorem dL_law_556 : decode cL_law 556 = .ok (.i2l, 1) := by decide +kernel
theorem dL_law_557 : decode cL_law 557 = .ok (.lcmp, 1) := by decide +kernel
theorem dL_law_558 : decode cL_law 558 = .ok (.ifCond .eq 5, 3) := by decide +kernel
set_option maxRecDepth 10000 in
theorem lc_5 {sc : Nat × (Nat → Int32)} {d : Nat} {Q : aO → aH → Prop} {σ : aH} {u : Nat} {i N : Int} (hG : G σ u) (hi : 0 ≤ i ∧ i + 6 ≤ (sc.1 : Int)) (hl : (sc.1 : Int) ≤ 3072) (h : JW sc (d + 1) mL_length mX10_length [.int (nZ (xs sc (i + 1))), .int (nZ (xs sc (i + 2)))] σ N (fun _ => True))
    (next : ∀ σ2 : aH, JE σ σ2 N → wp (Ev sc (d + 1)) 11 cL_law 7 (some .boolean) false [] sc Q 2511 [(0, .ref 1000000), (1, .ref 0), (2, .ref 76), (3, .ref 344), (4, .int (nZ i))] [] σ2) :
    wp (Ev sc (d + 1)) 11 cL_law 7 (some .boolean) false [] sc Q 498 [(0, .ref 1000000), (1, .ref 0), (2, .ref 76), (3, .ref 344), (4, .int (nZ i))] [] σ := by
  refine w_aload_n dL_law_498 rfl (List.Mem.tail _ (List.Mem.head _)) ?_
  refine w_aload_n dL_law_499 rfl (List.Mem.head _) ?_
  refine w_iload dL_law_500 (List.Mem.tail _ (List.Mem.tail _ (List.Mem.tail _ (List.Mem.tail _ (List.Mem.head _))))) ?_
  refine w_iconst (v := nZ 1) dL_law_502 (by decide) ?_
  refine i_add dL_law_503 ?_
  refine i_isld dL_law_504 (by omega) (by omega) ?_
  refine w_aload_n dL_law_505 rfl (List.Mem.head _) ?_
  refine w_iload dL_law_506 (List.Mem.tail _ (List.Mem.tail _ (List.Mem.tail _ (List.Mem.tail _ (List.Mem.head _))))) ?_
  refine w_iconst (v := nZ 2) dL_law_508 (by decide) ?_
  refine i_add dL_law_509 ?_
  refine i_isld dL_law_510 (by omega) (by omega) ?_
  refine w_aload_n dL_law_511 rfl (List.Mem.tail _ (List.Mem.tail _ (List.Mem.tail _ (List.Mem.head _)))) ?_
  obtain ⟨k, r, σ1, σ2, u1, u2, e1, rk, g1, e2, rr, g2, t0, tj, je⟩ := h
  refine w_callW dL_law_512 mp_11_143 ⟨ok_L_length, st_L_length⟩ hs_L_length (As := [.ref 0, .int (nZ (xs sc (i + 1))), .int (nZ (xs sc (i + 2))), .ref 344]) rfl rfl (Nat.le_of_ble_eq_true rfl) e1 ?_
  show wp (Ev sc (d + 1)) 11 cL_law 7 (some .boolean) false [] sc Q 515 [(0, .ref 1000000), (1, .ref 0), (2, .ref 76), (3, .ref 344), (4, .int (nZ i))] [.int (nZ k)] σ1
  refine w_istore (l' := [(5, .int (nZ k)), (0, .ref 1000000), (1, .ref 0), (2, .ref 76), (3, .ref 344), (4, .int (nZ i))]) dL_law_515 (by decide) rfl ?_
  refine w_aload_n dL_law_517 rfl (List.Mem.tail _ (List.Mem.tail _ (List.Mem.tail _ (List.Mem.head _)))) ?_
  refine w_aload_n dL_law_518 rfl (List.Mem.tail _ (List.Mem.head _)) ?_
  refine w_iload dL_law_519 (List.Mem.tail _ (List.Mem.tail _ (List.Mem.tail _ (List.Mem.tail _ (List.Mem.tail _ (List.Mem.head _)))))) ?_
  refine w_iconst (v := nZ 1) dL_law_521 (by decide) ?_
  refine i_add dL_law_522 ?_
  refine i_isld dL_law_523 (by omega) (by omega) ?_
  refine w_aload_n dL_law_524 rfl (List.Mem.tail _ (List.Mem.head _)) ?_
  refine w_iload dL_law_525 (List.Mem.tail _ (List.Mem.tail _ (List.Mem.tail _ (List.Mem.tail _ (List.Mem.tail _ (List.Mem.head _)))))) ?_
  refine w_iconst (v := nZ 2) dL_law_527 (by decide) ?_
  refine i_add dL_law_528 ?_
  refine i_isld dL_law_529 (by omega) (by omega) ?_
  refine w_callV dL_law_530 ml_11_145 ⟨ok_X10_length, vi_X10_length⟩ hs_X10_length (As := [.int (nZ (xs sc (i + 1))), .int (nZ (xs sc (i + 2)))]) rfl rfl (gT g1 rfl (lt_of rfl)) (Nat.le_of_ble_eq_true rfl) e2 ?_
  show wp (Ev sc (d + 1)) 11 cL_law 7 (some .boolean) false [] sc Q 533 [(5, .int (nZ k)), (0, .ref 1000000), (1, .ref 0), (2, .ref 76), (3, .ref 344), (4, .int (nZ i))] [.int (nZ r)] σ2
  refine w_istore (l' := [(6, .int (nZ r)), (5, .int (nZ k)), (0, .ref 1000000), (1, .ref 0), (2, .ref 76), (3, .ref 344), (4, .int (nZ i))]) dL_law_533 (by decide) rfl ?_
  refine w_aload_n dL_law_535 rfl (List.Mem.tail _ (List.Mem.tail _ (List.Mem.tail _ (List.Mem.tail _ (List.Mem.head _))))) ?_
  refine w_callV dL_law_536 ml_11_128 ⟨ok_X10_thrown, vi_X10_thrown⟩ hs_X10_thrown (As := []) rfl rfl (gT g2 rfl (lt_of rfl)) (Nat.le_of_ble_eq_true rfl) (s_thrown g2) ?_
  show wp (Ev sc (d + 1)) 11 cL_law 7 (some .boolean) false [] sc Q 539 [(6, .int (nZ r)), (5, .int (nZ k)), (0, .ref 1000000), (1, .ref 0), (2, .ref 76), (3, .ref 344), (4, .int (nZ i))] [.int (nZ (rI σ2 76 0))] σ2
  refine w_iload dL_law_539 (List.Mem.tail _ (List.Mem.head _)) ?_
  refine i_cmp_eq (tgt := 546) dL_law_541 rfl (rI_R _ _ _) rk (fun _ => ?_) (fun c9 => absurd t0 c9)
  refine w_iload dL_law_546 (List.Mem.tail _ (List.Mem.head _)) ?_
  have fin : wp (Ev sc (d + 1)) 11 cL_law 7 (some .boolean) false [] sc Q 563 [(6, .int (nZ r)), (5, .int (nZ k)), (0, .ref 1000000), (1, .ref 0), (2, .ref 76), (3, .ref 344), (4, .int (nZ i))] [] σ2 := by
    refine w_goto (tgt := 2511) dL_law_563 rfl ?_
    exact w_weak (l' := [(0, .ref 1000000), (1, .ref 0), (2, .ref 76), (3, .ref 344), (4, .int (nZ i))]) (by intro q hq; simp only [List.mem_cons, List.not_mem_nil, or_false] at hq ⊢; rcases hq with rfl | rfl | rfl | rfl | rfl <;> simp) (next σ2 je)
  refine i_if_ne (tgt := 563) dL_law_548 rfl rk (fun _ => fin) (fun c9 => ?_)
  obtain ⟨tj, hb⟩ := tj c9
  refine w_aload_n dL_law_551 rfl (List.Mem.tail _ (List.Mem.tail _ (List.Mem.tail _ (List.Mem.tail _ (List.Mem.tail _ (List.Mem.head _)))))) ?_
  refine w_iconst (v := nZ 0) dL_law_552 (by decide) ?_
  refine i_lald (n := 1) dL_law_553 (gT g2 rfl (lt_of rfl)) (gL g2 rfl) (by decide) (by decide) ?_
  rw [tj]
  refine w_iload dL_law_554 (List.Mem.head _) ?_
  refine i_2l dL_law_556 rr ?_
  refine j_cmp dL_law_557 (by omega) (by omega) ?_
  rw [show (if r < r then (1 : Int) else if r = r then 0 else (-1)) = 0 by rw [if_neg (by omega), if_pos rfl]]
  exact i_if_eq (tgt := 563) dL_law_558 rfl (by decide) (fun _ => fin) (fun c8 => absurd rfl c8)
