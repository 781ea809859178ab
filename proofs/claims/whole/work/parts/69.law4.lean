/-! THE LAW: its cases, first part -/
section LAWC
variable {p : Program} {l : Launch} {e : Env} {s : State} {m : MethodId} {args : Array Value} {below : List Frame} {meth : Method} {c : Code} {H : Heap} {locs : List Loc} {cells slots : Nat} {Q : State → Prop}
variable {g : Gg} {B0 : Nat} {ret : Option FieldType} {ls : Array Slot} {b L : Nat} {xs : Nat → Int32}
set_option maxHeartbeats 4000000 in
set_option maxRecDepth 100000 in
theorem cs_setOutside (hl9 : l.stackTraces = false) (hC : Cx p s m args meth c RL cL_law 9 ret g B0) (hX : va_X b L xs s s.heap) (hbl : b < s.heap.size) (hbA : ¬ B0 ≤ b) (hL : L ≤ 2560) {x0 m0 o0 d0 k : Nat} (hk4 : k + 4 < L) {C9 S9 : Nat} (hc : cells + 50 ≤ C9) (hs : slots + 400 ≤ S9) (hc9 : C9 ≤ room_1.cells) (hs9 : S9 ≤ room_1.slots) (K : ∀ (H : Heap) (locs : List Loc) (ls : Array Slot), lwS g B0 x0 m0 o0 d0 s H locs → lv_has ls 9 (lv5 b x0 m0 o0 d0 (nI k)) → W p l e room_1 s m args below meth c H locs C9 S9 Q (F0 m 1635 ls [])) (hLS : lwS g B0 x0 m0 o0 d0 s H locs) (hl : lv_has ls 9 (lv5 b x0 m0 o0 d0 (nI k))) : W p l e room_1 s m args below meth c H locs cells slots Q (F0 m 156 ls []) := by
  have hx := hC.1.1
  have hb := hC.1.2.1
  have hts := hC.1.2.2.2.2
  obtain ⟨kd0, ad, σ, pd, pl, sc, o, od, hI, h3, -, rfl, rfl, rfl, rfl⟩ := hLS
  have hIv := h3.1
  have hT := h3.2.1
  have hB := h3.2.2
  have hok := hIv.1
  have hI := hI.cast fMC
  refine lv_aload_n hx hb dL_law_156 rfl (lv_at hl 1 rfl) ?_
  refine lawArg hC hX hbl hbA hL hI hl (i0 := 0) (i5 := 5) rfl rfl 1 rfl (by omega) dL_law_157 dL_law_158 dL_law_160 dL_law_161 dL_law_162 ?_
  refine lawArg hC hX hbl hbA hL hI hl (i0 := 0) (i5 := 5) rfl rfl 2 rfl (by omega) dL_law_163 dL_law_164 dL_law_166 dL_law_167 dL_law_168 ?_
  refine lv_aload_n hx hb dL_law_169 rfl (lv_at hl 3 rfl) ?_
  refine r_callSH (rest := []) hl9 hC hI hl.1 (tL_setOutside l g B0 ad σ pd pl sc (fM g ad σ pd kd0 (hO g o od)) o rfl (xs (k + 1)) (xs (k + 2)) hT hIv) (vx_cwSW 4 hts (goodSH wd_ml_L_86 wd_st_yL_setOutside wd_in_RL wd_co_yL_setOutside) rfl rfl rfl (by decide +kernel) ⟨(Nat.le_of_ble_eq_true rfl), (Nat.le_of_ble_eq_true rfl)⟩) rfl rfl (Nat.le_of_ble_eq_true rfl) dL_law_170 ⟨by omega, by omega⟩ (fun v a9 w H locs hR hI => ?_) (fun _ _ _ _ _ _ _ z => z.elim)
  obtain ⟨rfl, hA, τ, qd, pl9, sc9, o9, hH, rfl⟩ := hR
  have hI := hI.cast (f' := fM g a9 σ pd kd0 (fC g a9 τ qd pl9 sc9 (hO g o9 od))) (by rw [fM_h (k := 50) (by decide), hO_50, fMC, fM_ad hA])
  refine W.eq (g2 := F0 m 173 ls [.int (kdSO (xs (k + 1)) (xs (k + 2)))]) rfl ?_
  refine lv_istore (lv' := (6, .int (kdSO (xs (k + 1)) (xs (k + 2)))) :: lv5 b (ad 0 0) (ad 20 0) (ad 50 0) (ad 51 0) (nI k)) hx hb dL_law_173 hl (by decide) rfl (fun ls hl => ?_)
  refine lv_aload_n hx hb dL_law_175 rfl (lv_at hl 3 rfl) ?_
  refine lawArg hC hX hbl hbA hL hI hl (i0 := 1) (i5 := 6) rfl rfl 1 rfl (by omega) dL_law_176 dL_law_177 dL_law_179 dL_law_180 dL_law_181 ?_
  refine lawArg hC hX hbl hbA hL hI hl (i0 := 1) (i5 := 6) rfl rfl 2 rfl (by omega) dL_law_182 dL_law_183 dL_law_185 dL_law_186 dL_law_187 ?_
  refine r_callV (kk := 20) (ii := 0) (rest := []) hl9 hC hI hl.1 (tX7_setOutside l g B0 a9 σ pd kd0 (fC g a9 τ qd pl9 sc9 (hO g o9 od)) hT (xs (k + 1)) (xs (k + 2))) (cw_L_91 hts rfl rfl ⟨(Nat.le_of_ble_eq_true rfl), (Nat.le_of_ble_eq_true rfl)⟩) fM_o rfl rfl rfl (by rw [hA 20 0 (Or.inr (by decide))]; rfl) (Nat.le_of_ble_eq_true rfl) dL_law_188 ⟨by omega, by omega⟩ (fun v a2 w H locs hM hI => ?_) (fun _ _ _ _ _ _ _ z => z.elim)
  obtain ⟨bb, rfl, hLT⟩ := law_mid (σ' := stSO σ (xs (k + 1)) (xs (k + 2))) (pd' := pd) h3 (fun hk pl9 hP => k3_SO h3 hk hP) hH hA hM hI
  refine W.eq (g2 := F0 m 191 ls [.int bb]) rfl ?_
  exact lawT hl9 hC K hLT hl (by omega) (by omega) hc9 hs9 (P := 191) (by decide) dL_law_191 dL_law_193 dL_law_194 dL_law_197 dL_law_199 dL_law_204 dL_law_206 dL_law_209 dL_law_210 dL_law_211 dL_law_212 dL_law_214 dL_law_215 dL_law_216 dL_law_221
set_option maxHeartbeats 4000000 in
set_option maxRecDepth 100000 in
theorem cs_outside (hl9 : l.stackTraces = false) (hC : Cx p s m args meth c RL cL_law 9 ret g B0) (hX : va_X b L xs s s.heap) (hbl : b < s.heap.size) (hbA : ¬ B0 ≤ b) (hL : L ≤ 2560) {x0 m0 o0 d0 k : Nat} (hk4 : k + 4 < L) {C9 S9 : Nat} (hc : cells + 50 ≤ C9) (hs : slots + 400 ≤ S9) (hc9 : C9 ≤ room_1.cells) (hs9 : S9 ≤ room_1.slots) (K : ∀ (H : Heap) (locs : List Loc) (ls : Array Slot), lwS g B0 x0 m0 o0 d0 s H locs → lv_has ls 9 (lv5 b x0 m0 o0 d0 (nI k)) → W p l e room_1 s m args below meth c H locs C9 S9 Q (F0 m 1635 ls [])) (hLS : lwS g B0 x0 m0 o0 d0 s H locs) (hl : lv_has ls 9 (lv5 b x0 m0 o0 d0 (nI k))) : W p l e room_1 s m args below meth c H locs cells slots Q (F0 m 224 ls []) := by
  have hx := hC.1.1
  have hb := hC.1.2.1
  have hts := hC.1.2.2.2.2
  obtain ⟨kd0, ad, σ, pd, pl, sc, o, od, hI, h3, -, rfl, rfl, rfl, rfl⟩ := hLS
  have hIv := h3.1
  have hT := h3.2.1
  have hB := h3.2.2
  have hok := hIv.1
  have hI := hI.cast fMC
  refine lv_aload_n hx hb dL_law_224 rfl (lv_at hl 1 rfl) ?_
  refine lawArg hC hX hbl hbA hL hI hl (i0 := 0) (i5 := 5) rfl rfl 1 rfl (by omega) dL_law_225 dL_law_226 dL_law_228 dL_law_229 dL_law_230 ?_
  refine lv_aload_n hx hb dL_law_231 rfl (lv_at hl 3 rfl) ?_
  refine r_callSH (rest := []) hl9 hC hI hl.1 (tL_outside l g B0 ad σ pd pl sc (fM g ad σ pd kd0 (hO g o od)) o rfl (xs (k + 1)) hIv) (vx_cwSW 3 hts (goodSH wd_ml_L_96 wd_st_yL_outside wd_in_RL wd_co_yL_outside) rfl rfl rfl (by decide +kernel) ⟨(Nat.le_of_ble_eq_true rfl), (Nat.le_of_ble_eq_true rfl)⟩) rfl rfl (Nat.le_of_ble_eq_true rfl) dL_law_232 ⟨by omega, by omega⟩ (fun v a9 w H locs hR hI => ?_) (fun _ _ _ _ _ _ _ z => z.elim)
  obtain ⟨rfl, hA, τ, qd, pl9, sc9, o9, hH, rfl⟩ := hR
  have hI := hI.cast (f' := fM g a9 σ pd kd0 (fC g a9 τ qd pl9 sc9 (hO g o9 od))) (by rw [fM_h (k := 50) (by decide), hO_50, fMC, fM_ad hA])
  refine W.eq (g2 := F0 m 235 ls [.int (kdOU (xs (k + 1)))]) rfl ?_
  refine lv_istore (lv' := (6, .int (kdOU (xs (k + 1)))) :: lv5 b (ad 0 0) (ad 20 0) (ad 50 0) (ad 51 0) (nI k)) hx hb dL_law_235 hl (by decide) rfl (fun ls hl => ?_)
  refine lv_aload_n hx hb dL_law_237 rfl (lv_at hl 3 rfl) ?_
  refine lawArg hC hX hbl hbA hL hI hl (i0 := 1) (i5 := 6) rfl rfl 1 rfl (by omega) dL_law_238 dL_law_239 dL_law_241 dL_law_242 dL_law_243 ?_
  refine r_callV (kk := 20) (ii := 0) (rest := []) hl9 hC hI hl.1 (tX7_outside l g B0 a9 σ pd kd0 (fC g a9 τ qd pl9 sc9 (hO g o9 od))  (xs (k + 1))) (cw_L_99 hts rfl rfl ⟨(Nat.le_of_ble_eq_true rfl), (Nat.le_of_ble_eq_true rfl)⟩) fM_o rfl rfl rfl (by rw [hA 20 0 (Or.inr (by decide))]; rfl) (Nat.le_of_ble_eq_true rfl) dL_law_244 ⟨by omega, by omega⟩ (fun v a2 w H locs hM hI => ?_) (fun _ _ _ _ _ _ _ z => z.elim)
  obtain ⟨bb, rfl, hLT⟩ := law_mid (σ' := σ) (pd' := pd) h3 (fun hk pl9 hP => k3_same h3 hP) hH hA hM hI
  refine W.eq (g2 := F0 m 247 ls [.int bb]) rfl ?_
  exact lawT hl9 hC K hLT hl (by omega) (by omega) hc9 hs9 (P := 247) (by decide) dL_law_247 dL_law_249 dL_law_250 dL_law_253 dL_law_255 dL_law_260 dL_law_262 dL_law_265 dL_law_266 dL_law_267 dL_law_268 dL_law_270 dL_law_271 dL_law_272 dL_law_277
set_option maxHeartbeats 4000000 in
set_option maxRecDepth 100000 in
theorem cs_setPrice (hl9 : l.stackTraces = false) (hC : Cx p s m args meth c RL cL_law 9 ret g B0) (hX : va_X b L xs s s.heap) (hbl : b < s.heap.size) (hbA : ¬ B0 ≤ b) (hL : L ≤ 2560) {x0 m0 o0 d0 k : Nat} (hk4 : k + 4 < L) {C9 S9 : Nat} (hc : cells + 50 ≤ C9) (hs : slots + 400 ≤ S9) (hc9 : C9 ≤ room_1.cells) (hs9 : S9 ≤ room_1.slots) (K : ∀ (H : Heap) (locs : List Loc) (ls : Array Slot), lwS g B0 x0 m0 o0 d0 s H locs → lv_has ls 9 (lv5 b x0 m0 o0 d0 (nI k)) → W p l e room_1 s m args below meth c H locs C9 S9 Q (F0 m 1635 ls [])) (hLS : lwS g B0 x0 m0 o0 d0 s H locs) (hl : lv_has ls 9 (lv5 b x0 m0 o0 d0 (nI k))) : W p l e room_1 s m args below meth c H locs cells slots Q (F0 m 280 ls []) := by
  have hx := hC.1.1
  have hb := hC.1.2.1
  have hts := hC.1.2.2.2.2
  obtain ⟨kd0, ad, σ, pd, pl, sc, o, od, hI, h3, -, rfl, rfl, rfl, rfl⟩ := hLS
  have hIv := h3.1
  have hT := h3.2.1
  have hB := h3.2.2
  have hok := hIv.1
  have hI := hI.cast fMC
  refine lv_aload_n hx hb dL_law_280 rfl (lv_at hl 1 rfl) ?_
  refine lawArg hC hX hbl hbA hL hI hl (i0 := 0) (i5 := 5) rfl rfl 1 rfl (by omega) dL_law_281 dL_law_282 dL_law_284 dL_law_285 dL_law_286 ?_
  refine lawArg hC hX hbl hbA hL hI hl (i0 := 0) (i5 := 5) rfl rfl 2 rfl (by omega) dL_law_287 dL_law_288 dL_law_290 dL_law_291 dL_law_292 ?_
  refine lawArg hC hX hbl hbA hL hI hl (i0 := 0) (i5 := 5) rfl rfl 3 rfl (by omega) dL_law_293 dL_law_294 dL_law_296 dL_law_297 dL_law_298 ?_
  refine lv_aload_n hx hb dL_law_299 rfl (lv_at hl 3 rfl) ?_
  refine r_callSH (rest := []) hl9 hC hI hl.1 (tL_setPrice l g B0 ad σ pd pl sc (fM g ad σ pd kd0 (hO g o od)) o rfl (xs (k + 1)) (xs (k + 2)) (xs (k + 3)) hIv) (vx_cwSW 5 hts (goodSH wd_ml_L_100 wd_st_yL_setPrice wd_in_RL wd_co_yL_setPrice) rfl rfl rfl (by decide +kernel) ⟨(Nat.le_of_ble_eq_true rfl), (Nat.le_of_ble_eq_true rfl)⟩) rfl rfl (Nat.le_of_ble_eq_true rfl) dL_law_300 ⟨by omega, by omega⟩ (fun v a9 w H locs hR hI => ?_) (fun _ _ _ _ _ _ _ z => z.elim)
  obtain ⟨rfl, hA, τ, qd, pl9, sc9, o9, hH, rfl⟩ := hR
  have hI := hI.cast (f' := fM g a9 σ pd kd0 (fC g a9 τ qd pl9 sc9 (hO g o9 od))) (by rw [fM_h (k := 50) (by decide), hO_50, fMC, fM_ad hA])
  refine W.eq (g2 := F0 m 303 ls [.int (kdSP (xs (k + 1)) (xs (k + 2)) (xs (k + 3)))]) rfl ?_
  refine lv_istore (lv' := (6, .int (kdSP (xs (k + 1)) (xs (k + 2)) (xs (k + 3)))) :: lv5 b (ad 0 0) (ad 20 0) (ad 50 0) (ad 51 0) (nI k)) hx hb dL_law_303 hl (by decide) rfl (fun ls hl => ?_)
  refine lv_aload_n hx hb dL_law_305 rfl (lv_at hl 3 rfl) ?_
  refine lawArg hC hX hbl hbA hL hI hl (i0 := 1) (i5 := 6) rfl rfl 1 rfl (by omega) dL_law_306 dL_law_307 dL_law_309 dL_law_310 dL_law_311 ?_
  refine lawArg hC hX hbl hbA hL hI hl (i0 := 1) (i5 := 6) rfl rfl 2 rfl (by omega) dL_law_312 dL_law_313 dL_law_315 dL_law_316 dL_law_317 ?_
  refine lawArg hC hX hbl hbA hL hI hl (i0 := 1) (i5 := 6) rfl rfl 3 rfl (by omega) dL_law_318 dL_law_319 dL_law_321 dL_law_322 dL_law_323 ?_
  refine r_callV (kk := 20) (ii := 0) (rest := []) hl9 hC hI hl.1 (tX7_setPrice l g B0 a9 σ pd kd0 (fC g a9 τ qd pl9 sc9 (hO g o9 od))  (xs (k + 1)) (xs (k + 2)) (xs (k + 3))) (cw_L_103 hts rfl rfl ⟨(Nat.le_of_ble_eq_true rfl), (Nat.le_of_ble_eq_true rfl)⟩) fM_o rfl rfl rfl (by rw [hA 20 0 (Or.inr (by decide))]; rfl) (Nat.le_of_ble_eq_true rfl) dL_law_324 ⟨by omega, by omega⟩ (fun v a2 w H locs hM hI => ?_) (fun _ _ _ _ _ _ _ z => z.elim)
  obtain ⟨bb, rfl, hLT⟩ := law_mid (σ' := stSP σ (xs (k + 1)) (xs (k + 2)) (xs (k + 3))) (pd' := pd) h3 (fun hk pl9 hP => k3_SP h3 hk hP) hH hA hM hI
  refine W.eq (g2 := F0 m 327 ls [.int bb]) rfl ?_
  exact lawT hl9 hC K hLT hl (by omega) (by omega) hc9 hs9 (P := 327) (by decide) dL_law_327 dL_law_329 dL_law_330 dL_law_333 dL_law_335 dL_law_340 dL_law_342 dL_law_345 dL_law_346 dL_law_347 dL_law_348 dL_law_350 dL_law_351 dL_law_352 dL_law_357
set_option maxHeartbeats 4000000 in
set_option maxRecDepth 100000 in
theorem cs_addProduct (hl9 : l.stackTraces = false) (hC : Cx p s m args meth c RL cL_law 9 ret g B0) (hX : va_X b L xs s s.heap) (hbl : b < s.heap.size) (hbA : ¬ B0 ≤ b) (hL : L ≤ 2560) {x0 m0 o0 d0 k : Nat} (hk4 : k + 4 < L) {C9 S9 : Nat} (hc : cells + 50 ≤ C9) (hs : slots + 400 ≤ S9) (hc9 : C9 ≤ room_1.cells) (hs9 : S9 ≤ room_1.slots) (K : ∀ (H : Heap) (locs : List Loc) (ls : Array Slot), lwS g B0 x0 m0 o0 d0 s H locs → lv_has ls 9 (lv5 b x0 m0 o0 d0 (nI k)) → W p l e room_1 s m args below meth c H locs C9 S9 Q (F0 m 1635 ls [])) (hLS : lwS g B0 x0 m0 o0 d0 s H locs) (hl : lv_has ls 9 (lv5 b x0 m0 o0 d0 (nI k))) : W p l e room_1 s m args below meth c H locs cells slots Q (F0 m 360 ls []) := by
  have hx := hC.1.1
  have hb := hC.1.2.1
  have hts := hC.1.2.2.2.2
  obtain ⟨kd0, ad, σ, pd, pl, sc, o, od, hI, h3, -, rfl, rfl, rfl, rfl⟩ := hLS
  have hIv := h3.1
  have hT := h3.2.1
  have hB := h3.2.2
  have hok := hIv.1
  have hI := hI.cast fMC
  refine lv_aload_n hx hb dL_law_360 rfl (lv_at hl 1 rfl) ?_
  refine lawArg hC hX hbl hbA hL hI hl (i0 := 0) (i5 := 5) rfl rfl 1 rfl (by omega) dL_law_361 dL_law_362 dL_law_364 dL_law_365 dL_law_366 ?_
  refine lawArg hC hX hbl hbA hL hI hl (i0 := 0) (i5 := 5) rfl rfl 2 rfl (by omega) dL_law_367 dL_law_368 dL_law_370 dL_law_371 dL_law_372 ?_
  refine lawArg hC hX hbl hbA hL hI hl (i0 := 0) (i5 := 5) rfl rfl 3 rfl (by omega) dL_law_373 dL_law_374 dL_law_376 dL_law_377 dL_law_378 ?_
  refine lawArg hC hX hbl hbA hL hI hl (i0 := 0) (i5 := 5) rfl rfl 4 rfl (by omega) dL_law_379 dL_law_380 dL_law_382 dL_law_383 dL_law_384 ?_
  refine lv_aload_n hx hb dL_law_385 rfl (lv_at hl 3 rfl) ?_
  refine r_callSH (rest := []) hl9 hC hI hl.1 (tL_addProduct l g B0 ad σ pd pl sc (fM g ad σ pd kd0 (hO g o od)) o rfl (xs (k + 1)) (xs (k + 2)) (xs (k + 3)) (xs (k + 4)) hIv) (vx_cwSW 6 hts (goodSH wd_ml_L_104 wd_st_yL_addProduct wd_in_RL wd_co_yL_addProduct) rfl rfl rfl (by decide +kernel) ⟨(Nat.le_of_ble_eq_true rfl), (Nat.le_of_ble_eq_true rfl)⟩) rfl rfl (Nat.le_of_ble_eq_true rfl) dL_law_386 ⟨by omega, by omega⟩ (fun v a9 w H locs hR hI => ?_) (fun _ _ _ _ _ _ _ z => z.elim)
  obtain ⟨rfl, hA, τ, qd, pl9, sc9, o9, hH, rfl⟩ := hR
  have hI := hI.cast (f' := fM g a9 σ pd kd0 (fC g a9 τ qd pl9 sc9 (hO g o9 od))) (by rw [fM_h (k := 50) (by decide), hO_50, fMC, fM_ad hA])
  refine W.eq (g2 := F0 m 389 ls [.int (kdAP σ (xs (k + 1)) (xs (k + 2)) (xs (k + 3)) (xs (k + 4)))]) rfl ?_
  refine lv_istore (lv' := (6, .int (kdAP σ (xs (k + 1)) (xs (k + 2)) (xs (k + 3)) (xs (k + 4)))) :: lv5 b (ad 0 0) (ad 20 0) (ad 50 0) (ad 51 0) (nI k)) hx hb dL_law_389 hl (by decide) rfl (fun ls hl => ?_)
  refine lv_aload_n hx hb dL_law_391 rfl (lv_at hl 3 rfl) ?_
  refine lawArg hC hX hbl hbA hL hI hl (i0 := 1) (i5 := 6) rfl rfl 1 rfl (by omega) dL_law_392 dL_law_393 dL_law_395 dL_law_396 dL_law_397 ?_
  refine lawArg hC hX hbl hbA hL hI hl (i0 := 1) (i5 := 6) rfl rfl 2 rfl (by omega) dL_law_398 dL_law_399 dL_law_401 dL_law_402 dL_law_403 ?_
  refine lawArg hC hX hbl hbA hL hI hl (i0 := 1) (i5 := 6) rfl rfl 3 rfl (by omega) dL_law_404 dL_law_405 dL_law_407 dL_law_408 dL_law_409 ?_
  refine lawArg hC hX hbl hbA hL hI hl (i0 := 1) (i5 := 6) rfl rfl 4 rfl (by omega) dL_law_410 dL_law_411 dL_law_413 dL_law_414 dL_law_415 ?_
  refine r_callV (kk := 20) (ii := 0) (rest := []) hl9 hC hI hl.1 (tX7_addProduct l g B0 a9 σ pd kd0 (fC g a9 τ qd pl9 sc9 (hO g o9 od)) hok (xs (k + 1)) (xs (k + 2)) (xs (k + 3)) (xs (k + 4))) (cw_L_107 hts rfl rfl ⟨(Nat.le_of_ble_eq_true rfl), (Nat.le_of_ble_eq_true rfl)⟩) fM_o rfl rfl rfl (by rw [hA 20 0 (Or.inr (by decide))]; rfl) (Nat.le_of_ble_eq_true rfl) dL_law_416 ⟨by omega, by omega⟩ (fun v a2 w H locs hM hI => ?_) (fun _ _ _ _ _ _ _ z => z.elim)
  obtain ⟨bb, rfl, hLT⟩ := law_mid (σ' := stAP σ (xs (k + 1)) (xs (k + 2)) (xs (k + 3)) (xs (k + 4))) (pd' := pd) h3 (fun hk pl9 hP => k3_AP h3 hk hP) hH hA hM hI
  refine W.eq (g2 := F0 m 419 ls [.int bb]) rfl ?_
  exact lawT hl9 hC K hLT hl (by omega) (by omega) hc9 hs9 (P := 419) (by decide) dL_law_419 dL_law_421 dL_law_422 dL_law_425 dL_law_427 dL_law_432 dL_law_434 dL_law_437 dL_law_438 dL_law_439 dL_law_440 dL_law_442 dL_law_443 dL_law_444 dL_law_449
set_option maxHeartbeats 4000000 in
set_option maxRecDepth 100000 in
theorem cs_addRoom (hl9 : l.stackTraces = false) (hC : Cx p s m args meth c RL cL_law 9 ret g B0) (hX : va_X b L xs s s.heap) (hbl : b < s.heap.size) (hbA : ¬ B0 ≤ b) (hL : L ≤ 2560) {x0 m0 o0 d0 k : Nat} (hk4 : k + 4 < L) {C9 S9 : Nat} (hc : cells + 50 ≤ C9) (hs : slots + 400 ≤ S9) (hc9 : C9 ≤ room_1.cells) (hs9 : S9 ≤ room_1.slots) (K : ∀ (H : Heap) (locs : List Loc) (ls : Array Slot), lwS g B0 x0 m0 o0 d0 s H locs → lv_has ls 9 (lv5 b x0 m0 o0 d0 (nI k)) → W p l e room_1 s m args below meth c H locs C9 S9 Q (F0 m 1635 ls [])) (hLS : lwS g B0 x0 m0 o0 d0 s H locs) (hl : lv_has ls 9 (lv5 b x0 m0 o0 d0 (nI k))) : W p l e room_1 s m args below meth c H locs cells slots Q (F0 m 452 ls []) := by
  have hx := hC.1.1
  have hb := hC.1.2.1
  have hts := hC.1.2.2.2.2
  obtain ⟨kd0, ad, σ, pd, pl, sc, o, od, hI, h3, -, rfl, rfl, rfl, rfl⟩ := hLS
  have hIv := h3.1
  have hT := h3.2.1
  have hB := h3.2.2
  have hok := hIv.1
  have hI := hI.cast fMC
  refine lv_aload_n hx hb dL_law_452 rfl (lv_at hl 1 rfl) ?_
  refine lawArg hC hX hbl hbA hL hI hl (i0 := 0) (i5 := 5) rfl rfl 1 rfl (by omega) dL_law_453 dL_law_454 dL_law_456 dL_law_457 dL_law_458 ?_
  refine lawArg hC hX hbl hbA hL hI hl (i0 := 0) (i5 := 5) rfl rfl 2 rfl (by omega) dL_law_459 dL_law_460 dL_law_462 dL_law_463 dL_law_464 ?_
  refine lawArg hC hX hbl hbA hL hI hl (i0 := 0) (i5 := 5) rfl rfl 3 rfl (by omega) dL_law_465 dL_law_466 dL_law_468 dL_law_469 dL_law_470 ?_
  refine lawArg hC hX hbl hbA hL hI hl (i0 := 0) (i5 := 5) rfl rfl 4 rfl (by omega) dL_law_471 dL_law_472 dL_law_474 dL_law_475 dL_law_476 ?_
  refine lv_aload_n hx hb dL_law_477 rfl (lv_at hl 3 rfl) ?_
  refine r_callSH (rest := []) hl9 hC hI hl.1 (tL_addRoom l g B0 ad σ pd pl sc (fM g ad σ pd kd0 (hO g o od)) o rfl (xs (k + 1)) (xs (k + 2)) (xs (k + 3)) (xs (k + 4)) hIv) (vx_cwSW 6 hts (goodSH wd_ml_L_108 wd_st_yL_addRoom wd_in_RL wd_co_yL_addRoom) rfl rfl rfl (by decide +kernel) ⟨(Nat.le_of_ble_eq_true rfl), (Nat.le_of_ble_eq_true rfl)⟩) rfl rfl (Nat.le_of_ble_eq_true rfl) dL_law_478 ⟨by omega, by omega⟩ (fun v a9 w H locs hR hI => ?_) (fun _ _ _ _ _ _ _ z => z.elim)
  obtain ⟨rfl, hA, τ, qd, pl9, sc9, o9, hH, rfl⟩ := hR
  have hI := hI.cast (f' := fM g a9 σ pd kd0 (fC g a9 τ qd pl9 sc9 (hO g o9 od))) (by rw [fM_h (k := 50) (by decide), hO_50, fMC, fM_ad hA])
  refine W.eq (g2 := F0 m 481 ls [.int (kdAR σ (xs (k + 1)) (xs (k + 2)) (xs (k + 3)) (xs (k + 4)))]) rfl ?_
  refine lv_istore (lv' := (6, .int (kdAR σ (xs (k + 1)) (xs (k + 2)) (xs (k + 3)) (xs (k + 4)))) :: lv5 b (ad 0 0) (ad 20 0) (ad 50 0) (ad 51 0) (nI k)) hx hb dL_law_481 hl (by decide) rfl (fun ls hl => ?_)
  refine lv_aload_n hx hb dL_law_483 rfl (lv_at hl 3 rfl) ?_
  refine lawArg hC hX hbl hbA hL hI hl (i0 := 1) (i5 := 6) rfl rfl 1 rfl (by omega) dL_law_484 dL_law_485 dL_law_487 dL_law_488 dL_law_489 ?_
  refine lawArg hC hX hbl hbA hL hI hl (i0 := 1) (i5 := 6) rfl rfl 2 rfl (by omega) dL_law_490 dL_law_491 dL_law_493 dL_law_494 dL_law_495 ?_
  refine lawArg hC hX hbl hbA hL hI hl (i0 := 1) (i5 := 6) rfl rfl 3 rfl (by omega) dL_law_496 dL_law_497 dL_law_499 dL_law_500 dL_law_501 ?_
  refine lawArg hC hX hbl hbA hL hI hl (i0 := 1) (i5 := 6) rfl rfl 4 rfl (by omega) dL_law_502 dL_law_503 dL_law_505 dL_law_506 dL_law_507 ?_
  refine r_callV (kk := 20) (ii := 0) (rest := []) hl9 hC hI hl.1 (tX7_addRoom l g B0 a9 σ pd kd0 (fC g a9 τ qd pl9 sc9 (hO g o9 od)) hok (xs (k + 1)) (xs (k + 2)) (xs (k + 3)) (xs (k + 4))) (cw_L_110 hts rfl rfl ⟨(Nat.le_of_ble_eq_true rfl), (Nat.le_of_ble_eq_true rfl)⟩) fM_o rfl rfl rfl (by rw [hA 20 0 (Or.inr (by decide))]; rfl) (Nat.le_of_ble_eq_true rfl) dL_law_508 ⟨by omega, by omega⟩ (fun v a2 w H locs hM hI => ?_) (fun _ _ _ _ _ _ _ z => z.elim)
  obtain ⟨bb, rfl, hLT⟩ := law_mid (σ' := stAR σ (xs (k + 1)) (xs (k + 2)) (xs (k + 3)) (xs (k + 4))) (pd' := pd) h3 (fun hk pl9 hP => k3_AR h3 hk hP) hH hA hM hI
  refine W.eq (g2 := F0 m 511 ls [.int bb]) rfl ?_
  exact lawT hl9 hC K hLT hl (by omega) (by omega) hc9 hs9 (P := 511) (by decide) dL_law_511 dL_law_513 dL_law_514 dL_law_517 dL_law_519 dL_law_524 dL_law_526 dL_law_529 dL_law_530 dL_law_531 dL_law_532 dL_law_534 dL_law_535 dL_law_536 dL_law_541
set_option maxHeartbeats 4000000 in
set_option maxRecDepth 100000 in
theorem cs_setRoom (hl9 : l.stackTraces = false) (hC : Cx p s m args meth c RL cL_law 9 ret g B0) (hX : va_X b L xs s s.heap) (hbl : b < s.heap.size) (hbA : ¬ B0 ≤ b) (hL : L ≤ 2560) {x0 m0 o0 d0 k : Nat} (hk4 : k + 4 < L) {C9 S9 : Nat} (hc : cells + 50 ≤ C9) (hs : slots + 400 ≤ S9) (hc9 : C9 ≤ room_1.cells) (hs9 : S9 ≤ room_1.slots) (K : ∀ (H : Heap) (locs : List Loc) (ls : Array Slot), lwS g B0 x0 m0 o0 d0 s H locs → lv_has ls 9 (lv5 b x0 m0 o0 d0 (nI k)) → W p l e room_1 s m args below meth c H locs C9 S9 Q (F0 m 1635 ls [])) (hLS : lwS g B0 x0 m0 o0 d0 s H locs) (hl : lv_has ls 9 (lv5 b x0 m0 o0 d0 (nI k))) : W p l e room_1 s m args below meth c H locs cells slots Q (F0 m 544 ls []) := by
  have hx := hC.1.1
  have hb := hC.1.2.1
  have hts := hC.1.2.2.2.2
  obtain ⟨kd0, ad, σ, pd, pl, sc, o, od, hI, h3, -, rfl, rfl, rfl, rfl⟩ := hLS
  have hIv := h3.1
  have hT := h3.2.1
  have hB := h3.2.2
  have hok := hIv.1
  have hI := hI.cast fMC
  refine lv_aload_n hx hb dL_law_544 rfl (lv_at hl 1 rfl) ?_
  refine lawArg hC hX hbl hbA hL hI hl (i0 := 0) (i5 := 5) rfl rfl 1 rfl (by omega) dL_law_545 dL_law_546 dL_law_548 dL_law_549 dL_law_550 ?_
  refine lawArg hC hX hbl hbA hL hI hl (i0 := 0) (i5 := 5) rfl rfl 2 rfl (by omega) dL_law_551 dL_law_552 dL_law_554 dL_law_555 dL_law_556 ?_
  refine lawArg hC hX hbl hbA hL hI hl (i0 := 0) (i5 := 5) rfl rfl 3 rfl (by omega) dL_law_557 dL_law_558 dL_law_560 dL_law_561 dL_law_562 ?_
  refine lawBool hC dL_law_563 dL_law_566 dL_law_567 dL_law_570 ?_
  refine lv_aload_n hx hb dL_law_571 rfl (lv_at hl 3 rfl) ?_
  refine r_callSH (rest := []) hl9 hC hI hl.1 (tL_setRoom l g B0 ad σ pd pl sc (fM g ad σ pd kd0 (hO g o od)) o rfl (xs (k + 1)) (xs (k + 2)) (bi (¬ xs (k + 3) = 0)) bi_nar bi_fit hIv) (vx_cwSW 5 hts (goodSH wd_ml_L_111 wd_st_yL_setRoom wd_in_RL wd_co_yL_setRoom) rfl rfl rfl (by decide +kernel) ⟨(Nat.le_of_ble_eq_true rfl), (Nat.le_of_ble_eq_true rfl)⟩) rfl rfl (Nat.le_of_ble_eq_true rfl) dL_law_572 ⟨by omega, by omega⟩ (fun v a9 w H locs hR hI => ?_) (fun _ _ _ _ _ _ _ z => z.elim)
  obtain ⟨rfl, hA, τ, qd, pl9, sc9, o9, hH, rfl⟩ := hR
  have hI := hI.cast (f' := fM g a9 σ pd kd0 (fC g a9 τ qd pl9 sc9 (hO g o9 od))) (by rw [fM_h (k := 50) (by decide), hO_50, fMC, fM_ad hA])
  refine W.eq (g2 := F0 m 575 ls [.int (kdSR σ (xs (k + 1)) (xs (k + 2)))]) rfl ?_
  refine lv_istore (lv' := (6, .int (kdSR σ (xs (k + 1)) (xs (k + 2)))) :: lv5 b (ad 0 0) (ad 20 0) (ad 50 0) (ad 51 0) (nI k)) hx hb dL_law_575 hl (by decide) rfl (fun ls hl => ?_)
  refine lv_aload_n hx hb dL_law_577 rfl (lv_at hl 3 rfl) ?_
  refine lawArg hC hX hbl hbA hL hI hl (i0 := 1) (i5 := 6) rfl rfl 1 rfl (by omega) dL_law_578 dL_law_579 dL_law_581 dL_law_582 dL_law_583 ?_
  refine lawArg hC hX hbl hbA hL hI hl (i0 := 1) (i5 := 6) rfl rfl 2 rfl (by omega) dL_law_584 dL_law_585 dL_law_587 dL_law_588 dL_law_589 ?_
  refine lawArg hC hX hbl hbA hL hI hl (i0 := 1) (i5 := 6) rfl rfl 3 rfl (by omega) dL_law_590 dL_law_591 dL_law_593 dL_law_594 dL_law_595 ?_
  refine lawBool hC dL_law_596 dL_law_599 dL_law_600 dL_law_603 ?_
  refine r_callV (kk := 20) (ii := 0) (rest := []) hl9 hC hI hl.1 (tX7_setRoom l g B0 a9 σ pd kd0 (fC g a9 τ qd pl9 sc9 (hO g o9 od)) hok (xs (k + 1)) (xs (k + 2)) (bi (¬ xs (k + 3) = 0)) bi_nar) (cw_L_114 hts rfl rfl ⟨(Nat.le_of_ble_eq_true rfl), (Nat.le_of_ble_eq_true rfl)⟩) fM_o rfl rfl rfl (by rw [hA 20 0 (Or.inr (by decide))]; rfl) (Nat.le_of_ble_eq_true rfl) dL_law_604 ⟨by omega, by omega⟩ (fun v a2 w H locs hM hI => ?_) (fun _ _ _ _ _ _ _ z => z.elim)
  obtain ⟨bb, rfl, hLT⟩ := law_mid (σ' := stSR σ (xs (k + 1)) (xs (k + 2)) (bi (¬ xs (k + 3) = 0))) (pd' := pd) h3 (fun hk pl9 hP => k3_SR bi_01 h3 hk hP) hH hA hM hI
  refine W.eq (g2 := F0 m 607 ls [.int bb]) rfl ?_
  exact lawT hl9 hC K hLT hl (by omega) (by omega) hc9 hs9 (P := 607) (by decide) dL_law_607 dL_law_609 dL_law_610 dL_law_613 dL_law_615 dL_law_620 dL_law_622 dL_law_625 dL_law_626 dL_law_627 dL_law_628 dL_law_630 dL_law_631 dL_law_632 dL_law_637
set_option maxHeartbeats 4000000 in
set_option maxRecDepth 100000 in
theorem cs_defrost (hl9 : l.stackTraces = false) (hC : Cx p s m args meth c RL cL_law 9 ret g B0) (hX : va_X b L xs s s.heap) (hbl : b < s.heap.size) (hbA : ¬ B0 ≤ b) (hL : L ≤ 2560) {x0 m0 o0 d0 k : Nat} (hk4 : k + 4 < L) {C9 S9 : Nat} (hc : cells + 50 ≤ C9) (hs : slots + 400 ≤ S9) (hc9 : C9 ≤ room_1.cells) (hs9 : S9 ≤ room_1.slots) (K : ∀ (H : Heap) (locs : List Loc) (ls : Array Slot), lwS g B0 x0 m0 o0 d0 s H locs → lv_has ls 9 (lv5 b x0 m0 o0 d0 (nI k)) → W p l e room_1 s m args below meth c H locs C9 S9 Q (F0 m 1635 ls [])) (hLS : lwS g B0 x0 m0 o0 d0 s H locs) (hl : lv_has ls 9 (lv5 b x0 m0 o0 d0 (nI k))) : W p l e room_1 s m args below meth c H locs cells slots Q (F0 m 640 ls []) := by
  have hx := hC.1.1
  have hb := hC.1.2.1
  have hts := hC.1.2.2.2.2
  obtain ⟨kd0, ad, σ, pd, pl, sc, o, od, hI, h3, -, rfl, rfl, rfl, rfl⟩ := hLS
  have hIv := h3.1
  have hT := h3.2.1
  have hB := h3.2.2
  have hok := hIv.1
  have hI := hI.cast fMC
  refine lv_aload_n hx hb dL_law_640 rfl (lv_at hl 1 rfl) ?_
  refine lawArg hC hX hbl hbA hL hI hl (i0 := 0) (i5 := 5) rfl rfl 1 rfl (by omega) dL_law_641 dL_law_642 dL_law_644 dL_law_645 dL_law_646 ?_
  refine lv_aload_n hx hb dL_law_647 rfl (lv_at hl 3 rfl) ?_
  refine r_callSH (rest := []) hl9 hC hI hl.1 (tL_defrost l g B0 ad σ pd pl sc (fM g ad σ pd kd0 (hO g o od)) o rfl (xs (k + 1)) hIv) (vx_cwSW 3 hts (goodSH wd_ml_L_115 wd_st_yL_defrost wd_in_RL wd_co_yL_defrost) rfl rfl rfl (by decide +kernel) ⟨(Nat.le_of_ble_eq_true rfl), (Nat.le_of_ble_eq_true rfl)⟩) rfl rfl (Nat.le_of_ble_eq_true rfl) dL_law_648 ⟨by omega, by omega⟩ (fun v a9 w H locs hR hI => ?_) (fun _ _ _ _ _ _ _ z => z.elim)
  obtain ⟨rfl, hA, τ, qd, pl9, sc9, o9, hH, rfl⟩ := hR
  have hI := hI.cast (f' := fM g a9 σ pd kd0 (fC g a9 τ qd pl9 sc9 (hO g o9 od))) (by rw [fM_h (k := 50) (by decide), hO_50, fMC, fM_ad hA])
  refine W.eq (g2 := F0 m 651 ls [.int (kdDF σ (xs (k + 1)))]) rfl ?_
  refine lv_istore (lv' := (6, .int (kdDF σ (xs (k + 1)))) :: lv5 b (ad 0 0) (ad 20 0) (ad 50 0) (ad 51 0) (nI k)) hx hb dL_law_651 hl (by decide) rfl (fun ls hl => ?_)
  refine lv_aload_n hx hb dL_law_653 rfl (lv_at hl 3 rfl) ?_
  refine lawArg hC hX hbl hbA hL hI hl (i0 := 1) (i5 := 6) rfl rfl 1 rfl (by omega) dL_law_654 dL_law_655 dL_law_657 dL_law_658 dL_law_659 ?_
  refine r_callV (kk := 20) (ii := 0) (rest := []) hl9 hC hI hl.1 (tX7_defrost l g B0 a9 σ pd kd0 (fC g a9 τ qd pl9 sc9 (hO g o9 od)) hok (xs (k + 1))) (cw_L_117 hts rfl rfl ⟨(Nat.le_of_ble_eq_true rfl), (Nat.le_of_ble_eq_true rfl)⟩) fM_o rfl rfl rfl (by rw [hA 20 0 (Or.inr (by decide))]; rfl) (Nat.le_of_ble_eq_true rfl) dL_law_660 ⟨by omega, by omega⟩ (fun v a2 w H locs hM hI => ?_) (fun _ _ _ _ _ _ _ z => z.elim)
  obtain ⟨bb, rfl, hLT⟩ := law_mid (σ' := stDF σ (xs (k + 1))) (pd' := pd) h3 (fun hk pl9 hP => k3_DF h3 hk hP) hH hA hM hI
  refine W.eq (g2 := F0 m 663 ls [.int bb]) rfl ?_
  exact lawT hl9 hC K hLT hl (by omega) (by omega) hc9 hs9 (P := 663) (by decide) dL_law_663 dL_law_665 dL_law_666 dL_law_669 dL_law_671 dL_law_676 dL_law_678 dL_law_681 dL_law_682 dL_law_683 dL_law_684 dL_law_686 dL_law_687 dL_law_688 dL_law_693
set_option maxHeartbeats 4000000 in
set_option maxRecDepth 100000 in
theorem cs_room (hl9 : l.stackTraces = false) (hC : Cx p s m args meth c RL cL_law 9 ret g B0) (hX : va_X b L xs s s.heap) (hbl : b < s.heap.size) (hbA : ¬ B0 ≤ b) (hL : L ≤ 2560) {x0 m0 o0 d0 k : Nat} (hk4 : k + 4 < L) {C9 S9 : Nat} (hc : cells + 50 ≤ C9) (hs : slots + 400 ≤ S9) (hc9 : C9 ≤ room_1.cells) (hs9 : S9 ≤ room_1.slots) (K : ∀ (H : Heap) (locs : List Loc) (ls : Array Slot), lwS g B0 x0 m0 o0 d0 s H locs → lv_has ls 9 (lv5 b x0 m0 o0 d0 (nI k)) → W p l e room_1 s m args below meth c H locs C9 S9 Q (F0 m 1635 ls [])) (hLS : lwS g B0 x0 m0 o0 d0 s H locs) (hl : lv_has ls 9 (lv5 b x0 m0 o0 d0 (nI k))) : W p l e room_1 s m args below meth c H locs cells slots Q (F0 m 696 ls []) := by
  have hx := hC.1.1
  have hb := hC.1.2.1
  have hts := hC.1.2.2.2.2
  obtain ⟨kd0, ad, σ, pd, pl, sc, o, od, hI, h3, -, rfl, rfl, rfl, rfl⟩ := hLS
  have hIv := h3.1
  have hT := h3.2.1
  have hB := h3.2.2
  have hok := hIv.1
  have hI := hI.cast fMC
  refine lv_aload_n hx hb dL_law_696 rfl (lv_at hl 1 rfl) ?_
  refine lawArg hC hX hbl hbA hL hI hl (i0 := 0) (i5 := 5) rfl rfl 1 rfl (by omega) dL_law_697 dL_law_698 dL_law_700 dL_law_701 dL_law_702 ?_
  refine lawArg hC hX hbl hbA hL hI hl (i0 := 0) (i5 := 5) rfl rfl 2 rfl (by omega) dL_law_703 dL_law_704 dL_law_706 dL_law_707 dL_law_708 ?_
  refine lv_aload_n hx hb dL_law_709 rfl (lv_at hl 3 rfl) ?_
  refine r_callSH (rest := []) hl9 hC hI hl.1 (tL_room l g B0 ad σ pd pl sc (fM g ad σ pd kd0 (hO g o od)) o rfl (xs (k + 1)) (xs (k + 2)) hIv) (vx_cwSW 4 hts (goodSH wd_ml_L_118 wd_st_yL_room wd_in_RL wd_co_yL_room) rfl rfl rfl (by decide +kernel) ⟨(Nat.le_of_ble_eq_true rfl), (Nat.le_of_ble_eq_true rfl)⟩) rfl rfl (Nat.le_of_ble_eq_true rfl) dL_law_710 ⟨by omega, by omega⟩ (fun v a9 w H locs hR hI => ?_) (fun _ _ _ _ _ _ _ z => z.elim)
  obtain ⟨rfl, hA, τ, qd, pl9, sc9, o9, hH, rfl⟩ := hR
  have hI := hI.cast (f' := fM g a9 σ pd kd0 (fC g a9 τ qd pl9 sc9 (hO g o9 od))) (by rw [fM_h (k := 50) (by decide), hO_50, fMC, fM_ad hA])
  refine W.eq (g2 := F0 m 713 ls [.int (kdRO σ (xs (k + 1)) (xs (k + 2)))]) rfl ?_
  refine lv_istore (lv' := (6, .int (kdRO σ (xs (k + 1)) (xs (k + 2)))) :: lv5 b (ad 0 0) (ad 20 0) (ad 50 0) (ad 51 0) (nI k)) hx hb dL_law_713 hl (by decide) rfl (fun ls hl => ?_)
  refine lv_aload_n hx hb dL_law_715 rfl (lv_at hl 3 rfl) ?_
  refine lawArg hC hX hbl hbA hL hI hl (i0 := 1) (i5 := 6) rfl rfl 1 rfl (by omega) dL_law_716 dL_law_717 dL_law_719 dL_law_720 dL_law_721 ?_
  refine lawArg hC hX hbl hbA hL hI hl (i0 := 1) (i5 := 6) rfl rfl 2 rfl (by omega) dL_law_722 dL_law_723 dL_law_725 dL_law_726 dL_law_727 ?_
  refine r_callV (kk := 20) (ii := 0) (rest := []) hl9 hC hI hl.1 (tX7_room l g B0 a9 σ pd kd0 (fC g a9 τ qd pl9 sc9 (hO g o9 od)) hok (hO_60 0) (xs (k + 1)) (xs (k + 2))) (cw_L_120 hts rfl rfl ⟨(Nat.le_of_ble_eq_true rfl), (Nat.le_of_ble_eq_true rfl)⟩) fM_o rfl rfl rfl (by rw [hA 20 0 (Or.inr (by decide))]; rfl) (Nat.le_of_ble_eq_true rfl) dL_law_728 ⟨by omega, by omega⟩ (fun v a2 w H locs hM hI => ?_) (fun _ _ _ _ _ _ _ z => z.elim)
  obtain ⟨bb, rfl, hLT⟩ := law_mid (σ' := σ) (pd' := pd) h3 (fun hk pl9 hP => k3_same h3 hP) hH hA hM hI
  refine W.eq (g2 := F0 m 731 ls [.int bb]) rfl ?_
  exact lawT hl9 hC K hLT hl (by omega) (by omega) hc9 hs9 (P := 731) (by decide) dL_law_731 dL_law_733 dL_law_734 dL_law_737 dL_law_739 dL_law_744 dL_law_746 dL_law_749 dL_law_750 dL_law_751 dL_law_752 dL_law_754 dL_law_755 dL_law_756 dL_law_761
set_option maxHeartbeats 4000000 in
set_option maxRecDepth 100000 in
theorem cs_reason (hl9 : l.stackTraces = false) (hC : Cx p s m args meth c RL cL_law 9 ret g B0) (hX : va_X b L xs s s.heap) (hbl : b < s.heap.size) (hbA : ¬ B0 ≤ b) (hL : L ≤ 2560) {x0 m0 o0 d0 k : Nat} (hk4 : k + 4 < L) {C9 S9 : Nat} (hc : cells + 50 ≤ C9) (hs : slots + 400 ≤ S9) (hc9 : C9 ≤ room_1.cells) (hs9 : S9 ≤ room_1.slots) (K : ∀ (H : Heap) (locs : List Loc) (ls : Array Slot), lwS g B0 x0 m0 o0 d0 s H locs → lv_has ls 9 (lv5 b x0 m0 o0 d0 (nI k)) → W p l e room_1 s m args below meth c H locs C9 S9 Q (F0 m 1635 ls [])) (hLS : lwS g B0 x0 m0 o0 d0 s H locs) (hl : lv_has ls 9 (lv5 b x0 m0 o0 d0 (nI k))) : W p l e room_1 s m args below meth c H locs cells slots Q (F0 m 764 ls []) := by
  have hx := hC.1.1
  have hb := hC.1.2.1
  have hts := hC.1.2.2.2.2
  obtain ⟨kd0, ad, σ, pd, pl, sc, o, od, hI, h3, -, rfl, rfl, rfl, rfl⟩ := hLS
  have hIv := h3.1
  have hT := h3.2.1
  have hB := h3.2.2
  have hok := hIv.1
  have hI := hI.cast fMC
  refine lv_aload_n hx hb dL_law_764 rfl (lv_at hl 1 rfl) ?_
  refine lawArg hC hX hbl hbA hL hI hl (i0 := 0) (i5 := 5) rfl rfl 1 rfl (by omega) dL_law_765 dL_law_766 dL_law_768 dL_law_769 dL_law_770 ?_
  refine lawArg hC hX hbl hbA hL hI hl (i0 := 0) (i5 := 5) rfl rfl 2 rfl (by omega) dL_law_771 dL_law_772 dL_law_774 dL_law_775 dL_law_776 ?_
  refine lv_aload_n hx hb dL_law_777 rfl (lv_at hl 3 rfl) ?_
  refine r_callSH (rest := []) hl9 hC hI hl.1 (tL_reason l g B0 ad σ pd pl sc (fM g ad σ pd kd0 (hO g o od)) o rfl (xs (k + 1)) (xs (k + 2)) hIv) (vx_cwSW 4 hts (goodSH wd_ml_L_121 wd_st_yL_reason wd_in_RL wd_co_yL_reason) rfl rfl rfl (by decide +kernel) ⟨(Nat.le_of_ble_eq_true rfl), (Nat.le_of_ble_eq_true rfl)⟩) rfl rfl (Nat.le_of_ble_eq_true rfl) dL_law_778 ⟨by omega, by omega⟩ (fun v a9 w H locs hR hI => ?_) (fun _ _ _ _ _ _ _ z => z.elim)
  obtain ⟨rfl, hA, τ, qd, pl9, sc9, o9, hH, rfl⟩ := hR
  have hI := hI.cast (f' := fM g a9 σ pd kd0 (fC g a9 τ qd pl9 sc9 (hO g o9 od))) (by rw [fM_h (k := 50) (by decide), hO_50, fMC, fM_ad hA])
  refine W.eq (g2 := F0 m 781 ls [.int (kdRE σ (xs (k + 1)) (xs (k + 2)))]) rfl ?_
  refine lv_istore (lv' := (6, .int (kdRE σ (xs (k + 1)) (xs (k + 2)))) :: lv5 b (ad 0 0) (ad 20 0) (ad 50 0) (ad 51 0) (nI k)) hx hb dL_law_781 hl (by decide) rfl (fun ls hl => ?_)
  refine lv_aload_n hx hb dL_law_783 rfl (lv_at hl 3 rfl) ?_
  refine lawArg hC hX hbl hbA hL hI hl (i0 := 1) (i5 := 6) rfl rfl 1 rfl (by omega) dL_law_784 dL_law_785 dL_law_787 dL_law_788 dL_law_789 ?_
  refine lawArg hC hX hbl hbA hL hI hl (i0 := 1) (i5 := 6) rfl rfl 2 rfl (by omega) dL_law_790 dL_law_791 dL_law_793 dL_law_794 dL_law_795 ?_
  refine r_callV (kk := 20) (ii := 0) (rest := []) hl9 hC hI hl.1 (tX7_reason l g B0 a9 σ pd kd0 (fC g a9 τ qd pl9 sc9 (hO g o9 od)) hok (xs (k + 1)) (xs (k + 2))) (cw_L_123 hts rfl rfl ⟨(Nat.le_of_ble_eq_true rfl), (Nat.le_of_ble_eq_true rfl)⟩) fM_o rfl rfl rfl (by rw [hA 20 0 (Or.inr (by decide))]; rfl) (Nat.le_of_ble_eq_true rfl) dL_law_796 ⟨by omega, by omega⟩ (fun v a2 w H locs hM hI => ?_) (fun _ _ _ _ _ _ _ z => z.elim)
  obtain ⟨bb, rfl, hLT⟩ := law_mid (σ' := σ) (pd' := pd) h3 (fun hk pl9 hP => k3_same h3 hP) hH hA hM hI
  refine W.eq (g2 := F0 m 799 ls [.int bb]) rfl ?_
  exact lawT hl9 hC K hLT hl (by omega) (by omega) hc9 hs9 (P := 799) (by decide) dL_law_799 dL_law_801 dL_law_802 dL_law_805 dL_law_807 dL_law_812 dL_law_814 dL_law_817 dL_law_818 dL_law_819 dL_law_820 dL_law_822 dL_law_823 dL_law_824 dL_law_829
set_option maxHeartbeats 4000000 in
set_option maxRecDepth 100000 in
theorem cs_arrive (hl9 : l.stackTraces = false) (hC : Cx p s m args meth c RL cL_law 9 ret g B0) (hX : va_X b L xs s s.heap) (hbl : b < s.heap.size) (hbA : ¬ B0 ≤ b) (hL : L ≤ 2560) {x0 m0 o0 d0 k : Nat} (hk4 : k + 4 < L) {C9 S9 : Nat} (hc : cells + 50 ≤ C9) (hs : slots + 400 ≤ S9) (hc9 : C9 ≤ room_1.cells) (hs9 : S9 ≤ room_1.slots) (K : ∀ (H : Heap) (locs : List Loc) (ls : Array Slot), lwS g B0 x0 m0 o0 d0 s H locs → lv_has ls 9 (lv5 b x0 m0 o0 d0 (nI k)) → W p l e room_1 s m args below meth c H locs C9 S9 Q (F0 m 1635 ls [])) (hLS : lwS g B0 x0 m0 o0 d0 s H locs) (hl : lv_has ls 9 (lv5 b x0 m0 o0 d0 (nI k))) : W p l e room_1 s m args below meth c H locs cells slots Q (F0 m 832 ls []) := by
  have hx := hC.1.1
  have hb := hC.1.2.1
  have hts := hC.1.2.2.2.2
  obtain ⟨kd0, ad, σ, pd, pl, sc, o, od, hI, h3, -, rfl, rfl, rfl, rfl⟩ := hLS
  have hIv := h3.1
  have hT := h3.2.1
  have hB := h3.2.2
  have hok := hIv.1
  have hI := hI.cast fMC
  refine lv_aload_n hx hb dL_law_832 rfl (lv_at hl 1 rfl) ?_
  refine lawArg hC hX hbl hbA hL hI hl (i0 := 0) (i5 := 5) rfl rfl 1 rfl (by omega) dL_law_833 dL_law_834 dL_law_836 dL_law_837 dL_law_838 ?_
  refine lawArg hC hX hbl hbA hL hI hl (i0 := 0) (i5 := 5) rfl rfl 2 rfl (by omega) dL_law_839 dL_law_840 dL_law_842 dL_law_843 dL_law_844 ?_
  refine lawArg hC hX hbl hbA hL hI hl (i0 := 0) (i5 := 5) rfl rfl 3 rfl (by omega) dL_law_845 dL_law_846 dL_law_848 dL_law_849 dL_law_850 ?_
  refine lv_aload_n hx hb dL_law_851 rfl (lv_at hl 3 rfl) ?_
  refine r_callSH (rest := []) hl9 hC hI hl.1 (tL_arrive l g B0 ad σ pd pl sc (fM g ad σ pd kd0 (hO g o od)) o rfl (xs (k + 1)) (xs (k + 2)) (xs (k + 3)) hIv) (vx_cwSW 5 hts (goodSH wd_ml_L_124 wd_st_yL_arrive wd_in_RL wd_co_yL_arrive) rfl rfl rfl (by decide +kernel) ⟨(Nat.le_of_ble_eq_true rfl), (Nat.le_of_ble_eq_true rfl)⟩) rfl rfl (Nat.le_of_ble_eq_true rfl) dL_law_852 ⟨by omega, by omega⟩ (fun v a9 w H locs hR hI => ?_) (fun _ _ _ _ _ _ _ z => z.elim)
  obtain ⟨rfl, hA, τ, qd, pl9, sc9, o9, hH, rfl⟩ := hR
  have hI := hI.cast (f' := fM g a9 σ pd kd0 (fC g a9 τ qd pl9 sc9 (hO g o9 od))) (by rw [fM_h (k := 50) (by decide), hO_50, fMC, fM_ad hA])
  refine W.eq (g2 := F0 m 855 ls [.int (kdAV σ (xs (k + 1)) (xs (k + 2)) (xs (k + 3)))]) rfl ?_
  refine lv_istore (lv' := (6, .int (kdAV σ (xs (k + 1)) (xs (k + 2)) (xs (k + 3)))) :: lv5 b (ad 0 0) (ad 20 0) (ad 50 0) (ad 51 0) (nI k)) hx hb dL_law_855 hl (by decide) rfl (fun ls hl => ?_)
  refine lv_aload_n hx hb dL_law_857 rfl (lv_at hl 3 rfl) ?_
  refine lawArg hC hX hbl hbA hL hI hl (i0 := 1) (i5 := 6) rfl rfl 1 rfl (by omega) dL_law_858 dL_law_859 dL_law_861 dL_law_862 dL_law_863 ?_
  refine lawArg hC hX hbl hbA hL hI hl (i0 := 1) (i5 := 6) rfl rfl 2 rfl (by omega) dL_law_864 dL_law_865 dL_law_867 dL_law_868 dL_law_869 ?_
  refine lawArg hC hX hbl hbA hL hI hl (i0 := 1) (i5 := 6) rfl rfl 3 rfl (by omega) dL_law_870 dL_law_871 dL_law_873 dL_law_874 dL_law_875 ?_
  refine r_callV (kk := 20) (ii := 0) (rest := []) hl9 hC hI hl.1 (tX7_arrive l g B0 a9 σ pd kd0 (fC g a9 τ qd pl9 sc9 (hO g o9 od)) hok (xs (k + 1)) (xs (k + 2)) (xs (k + 3))) (cw_L_126 hts rfl rfl ⟨(Nat.le_of_ble_eq_true rfl), (Nat.le_of_ble_eq_true rfl)⟩) fM_o rfl rfl rfl (by rw [hA 20 0 (Or.inr (by decide))]; rfl) (Nat.le_of_ble_eq_true rfl) dL_law_876 ⟨by omega, by omega⟩ (fun v a2 w H locs hM hI => ?_) (fun _ _ _ _ _ _ _ z => z.elim)
  obtain ⟨bb, rfl, hLT⟩ := law_mid (σ' := stAV σ (xs (k + 1)) (xs (k + 2)) (xs (k + 3))) (pd' := pd) h3 (fun hk pl9 hP => k3_AV h3 hk hP) hH hA hM hI
  refine W.eq (g2 := F0 m 879 ls [.int bb]) rfl ?_
  exact lawT hl9 hC K hLT hl (by omega) (by omega) hc9 hs9 (P := 879) (by decide) dL_law_879 dL_law_881 dL_law_882 dL_law_885 dL_law_887 dL_law_892 dL_law_894 dL_law_897 dL_law_898 dL_law_899 dL_law_900 dL_law_902 dL_law_903 dL_law_904 dL_law_909
set_option maxHeartbeats 4000000 in
set_option maxRecDepth 100000 in
theorem cs_move (hl9 : l.stackTraces = false) (hC : Cx p s m args meth c RL cL_law 9 ret g B0) (hX : va_X b L xs s s.heap) (hbl : b < s.heap.size) (hbA : ¬ B0 ≤ b) (hL : L ≤ 2560) {x0 m0 o0 d0 k : Nat} (hk4 : k + 4 < L) {C9 S9 : Nat} (hc : cells + 50 ≤ C9) (hs : slots + 400 ≤ S9) (hc9 : C9 ≤ room_1.cells) (hs9 : S9 ≤ room_1.slots) (K : ∀ (H : Heap) (locs : List Loc) (ls : Array Slot), lwS g B0 x0 m0 o0 d0 s H locs → lv_has ls 9 (lv5 b x0 m0 o0 d0 (nI k)) → W p l e room_1 s m args below meth c H locs C9 S9 Q (F0 m 1635 ls [])) (hLS : lwS g B0 x0 m0 o0 d0 s H locs) (hl : lv_has ls 9 (lv5 b x0 m0 o0 d0 (nI k))) : W p l e room_1 s m args below meth c H locs cells slots Q (F0 m 912 ls []) := by
  have hx := hC.1.1
  have hb := hC.1.2.1
  have hts := hC.1.2.2.2.2
  obtain ⟨kd0, ad, σ, pd, pl, sc, o, od, hI, h3, -, rfl, rfl, rfl, rfl⟩ := hLS
  have hIv := h3.1
  have hT := h3.2.1
  have hB := h3.2.2
  have hok := hIv.1
  have hI := hI.cast fMC
  refine lv_aload_n hx hb dL_law_912 rfl (lv_at hl 1 rfl) ?_
  refine lawArg hC hX hbl hbA hL hI hl (i0 := 0) (i5 := 5) rfl rfl 1 rfl (by omega) dL_law_913 dL_law_914 dL_law_916 dL_law_917 dL_law_918 ?_
  refine lawArg hC hX hbl hbA hL hI hl (i0 := 0) (i5 := 5) rfl rfl 2 rfl (by omega) dL_law_919 dL_law_920 dL_law_922 dL_law_923 dL_law_924 ?_
  refine lv_aload_n hx hb dL_law_925 rfl (lv_at hl 3 rfl) ?_
  refine r_callSH (rest := []) hl9 hC hI hl.1 (tL_move l g B0 ad σ pd pl sc (fM g ad σ pd kd0 (hO g o od)) o rfl (xs (k + 1)) (xs (k + 2)) hIv) (vx_cwSW 4 hts (goodSH wd_ml_L_127 wd_st_yL_move wd_in_RL wd_co_yL_move) rfl rfl rfl (by decide +kernel) ⟨(Nat.le_of_ble_eq_true rfl), (Nat.le_of_ble_eq_true rfl)⟩) rfl rfl (Nat.le_of_ble_eq_true rfl) dL_law_926 ⟨by omega, by omega⟩ (fun v a9 w H locs hR hI => ?_) (fun _ _ _ _ _ _ _ z => z.elim)
  obtain ⟨rfl, hA, τ, qd, pl9, sc9, o9, hH, rfl⟩ := hR
  have hI := hI.cast (f' := fM g a9 σ pd kd0 (fC g a9 τ qd pl9 sc9 (hO g o9 od))) (by rw [fM_h (k := 50) (by decide), hO_50, fMC, fM_ad hA])
  refine W.eq (g2 := F0 m 929 ls [.int (kdMV σ (xs (k + 1)) (xs (k + 2)))]) rfl ?_
  refine lv_istore (lv' := (6, .int (kdMV σ (xs (k + 1)) (xs (k + 2)))) :: lv5 b (ad 0 0) (ad 20 0) (ad 50 0) (ad 51 0) (nI k)) hx hb dL_law_929 hl (by decide) rfl (fun ls hl => ?_)
  refine lv_aload_n hx hb dL_law_931 rfl (lv_at hl 3 rfl) ?_
  refine lawArg hC hX hbl hbA hL hI hl (i0 := 1) (i5 := 6) rfl rfl 1 rfl (by omega) dL_law_932 dL_law_933 dL_law_935 dL_law_936 dL_law_937 ?_
  refine lawArg hC hX hbl hbA hL hI hl (i0 := 1) (i5 := 6) rfl rfl 2 rfl (by omega) dL_law_938 dL_law_939 dL_law_941 dL_law_942 dL_law_943 ?_
  refine r_callV (kk := 20) (ii := 0) (rest := []) hl9 hC hI hl.1 (tX7_move l g B0 a9 σ pd kd0 (fC g a9 τ qd pl9 sc9 (hO g o9 od)) hok (xs (k + 1)) (xs (k + 2))) (cw_L_129 hts rfl rfl ⟨(Nat.le_of_ble_eq_true rfl), (Nat.le_of_ble_eq_true rfl)⟩) fM_o rfl rfl rfl (by rw [hA 20 0 (Or.inr (by decide))]; rfl) (Nat.le_of_ble_eq_true rfl) dL_law_944 ⟨by omega, by omega⟩ (fun v a2 w H locs hM hI => ?_) (fun _ _ _ _ _ _ _ z => z.elim)
  obtain ⟨bb, rfl, hLT⟩ := law_mid (σ' := stMV σ (xs (k + 1)) (xs (k + 2))) (pd' := pd) h3 (fun hk pl9 hP => k3_MV h3 hk hP) hH hA hM hI
  refine W.eq (g2 := F0 m 947 ls [.int bb]) rfl ?_
  exact lawT hl9 hC K hLT hl (by omega) (by omega) hc9 hs9 (P := 947) (by decide) dL_law_947 dL_law_949 dL_law_950 dL_law_953 dL_law_955 dL_law_960 dL_law_962 dL_law_965 dL_law_966 dL_law_967 dL_law_968 dL_law_970 dL_law_971 dL_law_972 dL_law_977
set_option maxHeartbeats 4000000 in
set_option maxRecDepth 100000 in
theorem cs_pallet (hl9 : l.stackTraces = false) (hC : Cx p s m args meth c RL cL_law 9 ret g B0) (hX : va_X b L xs s s.heap) (hbl : b < s.heap.size) (hbA : ¬ B0 ≤ b) (hL : L ≤ 2560) {x0 m0 o0 d0 k : Nat} (hk4 : k + 4 < L) {C9 S9 : Nat} (hc : cells + 50 ≤ C9) (hs : slots + 400 ≤ S9) (hc9 : C9 ≤ room_1.cells) (hs9 : S9 ≤ room_1.slots) (K : ∀ (H : Heap) (locs : List Loc) (ls : Array Slot), lwS g B0 x0 m0 o0 d0 s H locs → lv_has ls 9 (lv5 b x0 m0 o0 d0 (nI k)) → W p l e room_1 s m args below meth c H locs C9 S9 Q (F0 m 1635 ls [])) (hLS : lwS g B0 x0 m0 o0 d0 s H locs) (hl : lv_has ls 9 (lv5 b x0 m0 o0 d0 (nI k))) : W p l e room_1 s m args below meth c H locs cells slots Q (F0 m 980 ls []) := by
  have hx := hC.1.1
  have hb := hC.1.2.1
  have hts := hC.1.2.2.2.2
  obtain ⟨kd0, ad, σ, pd, pl, sc, o, od, hI, h3, -, rfl, rfl, rfl, rfl⟩ := hLS
  have hIv := h3.1
  have hT := h3.2.1
  have hB := h3.2.2
  have hok := hIv.1
  have hI := hI.cast fMC
  refine lv_aload_n hx hb dL_law_980 rfl (lv_at hl 1 rfl) ?_
  refine lawArg hC hX hbl hbA hL hI hl (i0 := 0) (i5 := 5) rfl rfl 1 rfl (by omega) dL_law_981 dL_law_982 dL_law_984 dL_law_985 dL_law_986 ?_
  refine lawArg hC hX hbl hbA hL hI hl (i0 := 0) (i5 := 5) rfl rfl 2 rfl (by omega) dL_law_987 dL_law_988 dL_law_990 dL_law_991 dL_law_992 ?_
  refine lv_aload_n hx hb dL_law_993 rfl (lv_at hl 3 rfl) ?_
  refine r_callSH (rest := []) hl9 hC hI hl.1 (tL_pallet l g B0 ad σ pd pl sc (fM g ad σ pd kd0 (hO g o od)) o rfl (xs (k + 1)) (xs (k + 2)) hIv) (vx_cwSW 4 hts (goodSH wd_ml_L_130 wd_st_yL_pallet wd_in_RL wd_co_yL_pallet) rfl rfl rfl (by decide +kernel) ⟨(Nat.le_of_ble_eq_true rfl), (Nat.le_of_ble_eq_true rfl)⟩) rfl rfl (Nat.le_of_ble_eq_true rfl) dL_law_994 ⟨by omega, by omega⟩ (fun v a9 w H locs hR hI => ?_) (fun _ _ _ _ _ _ _ z => z.elim)
  obtain ⟨rfl, hA, τ, qd, pl9, sc9, o9, hH, rfl⟩ := hR
  have hI := hI.cast (f' := fM g a9 σ pd kd0 (fC g a9 τ qd pl9 sc9 (hO g o9 od))) (by rw [fM_h (k := 50) (by decide), hO_50, fMC, fM_ad hA])
  refine W.eq (g2 := F0 m 997 ls [.int (kdPA σ (xs (k + 1)) (xs (k + 2)))]) rfl ?_
  refine lv_istore (lv' := (6, .int (kdPA σ (xs (k + 1)) (xs (k + 2)))) :: lv5 b (ad 0 0) (ad 20 0) (ad 50 0) (ad 51 0) (nI k)) hx hb dL_law_997 hl (by decide) rfl (fun ls hl => ?_)
  refine lv_aload_n hx hb dL_law_999 rfl (lv_at hl 3 rfl) ?_
  refine lawArg hC hX hbl hbA hL hI hl (i0 := 1) (i5 := 6) rfl rfl 1 rfl (by omega) dL_law_1000 dL_law_1001 dL_law_1003 dL_law_1004 dL_law_1005 ?_
  refine lawArg hC hX hbl hbA hL hI hl (i0 := 1) (i5 := 6) rfl rfl 2 rfl (by omega) dL_law_1006 dL_law_1007 dL_law_1009 dL_law_1010 dL_law_1011 ?_
  refine r_callV (kk := 20) (ii := 0) (rest := []) hl9 hC hI hl.1 (tX7_pallet l g B0 a9 σ pd kd0 (fC g a9 τ qd pl9 sc9 (hO g o9 od)) hok (xs (k + 1)) (xs (k + 2))) (cw_L_132 hts rfl rfl ⟨(Nat.le_of_ble_eq_true rfl), (Nat.le_of_ble_eq_true rfl)⟩) fM_o rfl rfl rfl (by rw [hA 20 0 (Or.inr (by decide))]; rfl) (Nat.le_of_ble_eq_true rfl) dL_law_1012 ⟨by omega, by omega⟩ (fun v a2 w H locs hM hI => ?_) (fun _ _ _ _ _ _ _ z => z.elim)
  obtain ⟨bb, rfl, hLT⟩ := law_mid (σ' := σ) (pd' := pd) h3 (fun hk pl9 hP => k3_same h3 hP) hH hA hM hI
  refine W.eq (g2 := F0 m 1015 ls [.int bb]) rfl ?_
  exact lawT hl9 hC K hLT hl (by omega) (by omega) hc9 hs9 (P := 1015) (by decide) dL_law_1015 dL_law_1017 dL_law_1018 dL_law_1021 dL_law_1023 dL_law_1028 dL_law_1030 dL_law_1033 dL_law_1034 dL_law_1035 dL_law_1036 dL_law_1038 dL_law_1039 dL_law_1040 dL_law_1045
end LAWC
