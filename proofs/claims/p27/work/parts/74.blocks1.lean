/-! THE LAW'S ROUND, first part: what is done -/
set_option maxHeartbeats 8000000 in
set_option maxRecDepth 100000 in
theorem blk_a {p : Program} {l : Launch} {e : Env} {s : State} {m : MethodId} {args : Array Value} {below : List Frame} {meth : Method} {c : Code} {H : Heap} {locs : List Loc} {cells slots : Nat} {Q : State → Prop} {g : Gg} {B0 x0 c0 c1 c2 c3 c4 b L : Nat} {xs : Nat → Int32} {ret : Option FieldType} {ls : Array Slot} {P R9 N now it : Nat} {fp fr fa : Nat → Int32} {σ : Sg} {pd : Int64} (hl9 : l.stackTraces = false) (hC : Cx p s m args meth c RL cL_law 21 ret g B0) (hX : va_X b L xs s s.heap) (hbB : b < B0) (hL : L ≤ 260) (hP0 : 0 < P) (hP8 : P ≤ 8) (hR0 : 0 < R9) (hR5 : R9 ≤ 5) (hcc : cells + 10 ≤ 632096) (hss : slots + 60 ≤ 7205337) (hit : it < 30) (hLw : Lw σ pd fp fr P R9 it now) (hAg : Ag σ fa) (hW : WL g B0 x0 c0 c1 c2 c3 c4 s H locs σ pd (some fp) (some fr) (some fa) none none) (hl : lv_has ls 21 [(8, .int (nI it)), (7, .int (nI now)), (6, .ref c2), (5, .ref c1), (4, .ref c0), (3, .int (nI R9)), (2, .int (nI P)), (1, .ref x0), (0, .ref b)])
    (K : ∀ (σ' : Sg) (a : Nat) (x : Int32) (H : Heap) (locs : List Loc) (ls : Array Slot), Lw σ' pd fp fr P R9 (it + 1) now → Ag σ' fa → a < P → WL g B0 x0 c0 c1 c2 c3 c4 s H locs σ' pd (some fp) (some fr) (some fa) none none → lv_has ls 21 [(10, .int (nI a)), (9, .int x), (8, .int (nI it)), (7, .int (nI now)), (6, .ref c2), (5, .ref c1), (4, .ref c0), (3, .int (nI R9)), (2, .int (nI P)), (1, .ref x0), (0, .ref b)] → W p l e room_1 s m args below meth c H locs (cells + 10) (slots + 60) Q (F0 m 220 ls [])) : W p l e room_1 s m args below meth c H locs cells slots Q (F0 m 126 ls []) := by
  have hx := hC.1.1
  have hb := hC.1.2.1
  have hts := hC.1.2.2.2.2
  obtain ⟨pl0, hok3⟩ := hW.ok
  have hok := hok3.1.1
  obtain ⟨w1, w2, w3, w4, w5, w6, w7⟩ := id hLw
  have h17 := hok.1
  refine lv_aload_n hx hb dL_law_126 rfl (lv_at hl 8 rfl) ?_
  refine lv_bipush (v := 12) hx hb dL_law_127 (by decide) ?_
  refine lv_iload hx hb dL_law_129 (lv_at hl 0 rfl) ?_
  refine lv_bipush (v := 6) hx hb dL_law_131 (by decide) ?_
  refine lv_irem hx hb dL_law_133 (by decide) ?_
  refine lv_iadd hx hb dL_law_134 ?_
  refine wl_cell hl9 hC hX hbB hL hW hl.1 (k := (12 + it % 6)) (cellI6 12 it (by omega)) (by omega) (cw_L_9 hts rfl rfl ⟨(Nat.le_of_ble_eq_true rfl), (Nat.le_of_ble_eq_true rfl)⟩) (Nat.le_of_ble_eq_true rfl) dL_law_135 ⟨show _ ≤ 632096 by omega, show _ ≤ 7205337 by omega⟩ (fun z H locs hW => ?_)
  refine lv_iload hx hb dL_law_138 (lv_at hl 0 rfl) ?_
  refine lv_bipush (v := 6) hx hb dL_law_140 (by decide) ?_
  refine lv_idiv hx hb dL_law_142 (by decide) ?_
  refine lv_iconst (v := 3) hx hb dL_law_143 (by decide) ?_
  refine lv_imul hx hb dL_law_144 ?_
  refine lv_ishr hx hb dL_law_145 ?_
  refine lv_iload hx hb dL_law_146 (lv_at hl 0 rfl) ?_
  refine lv_sipush (v := 911) hx hb dL_law_148 (by decide) ?_
  refine lv_imul hx hb dL_law_151 ?_
  refine lv_ixor hx hb dL_law_152 ?_
  refine lv_topi (fun x ex => ?_)
  refine lv_istore (lv' := [(9, .int x), (8, .int (nI it)), (7, .int (nI now)), (6, .ref c2), (5, .ref c1), (4, .ref c0), (3, .int (nI R9)), (2, .int (nI P)), (1, .ref x0), (0, .ref b)]) hx hb dL_law_153 hl (by decide) rfl (fun ls hl => ?_)
  refine lv_iload hx hb dL_law_155 (lv_at hl 0 rfl) ?_
  refine lv_iload_n hx hb dL_law_157 rfl (lv_at hl 7 rfl) ?_
  refine wl_below hl9 hC hW hl.1 (d := P) rfl (by omega) (by omega) (cw_L_15 hts rfl rfl ⟨(Nat.le_of_ble_eq_true rfl), (Nat.le_of_ble_eq_true rfl)⟩) (Nat.le_of_ble_eq_true rfl) dL_law_158 ⟨show _ ≤ 632096 by omega, show _ ≤ 7205337 by omega⟩ (fun a ha H locs hW => ?_)
  refine lv_istore (lv' := [(10, .int (nI a)), (9, .int x), (8, .int (nI it)), (7, .int (nI now)), (6, .ref c2), (5, .ref c1), (4, .ref c0), (3, .int (nI R9)), (2, .int (nI P)), (1, .ref x0), (0, .ref b)]) hx hb dL_law_161 hl (by decide) rfl (fun ls hl => ?_)
  refine lv_aload_n hx hb dL_law_163 rfl (lv_at hl 9 rfl) ?_
  refine lv_iload hx hb dL_law_164 (lv_at hl 0 rfl) ?_
  have hkb : kdPR σ (nI a) = 0 := pr_ok hok (by omega)
  refine wl_call (rest := []) hl9 hC hW hl.1 (fun ad pl sc h3 => tX6_bestRoom l g B0 ad _ _ pl sc _ (nI a) h3.1) (cw_L_48 hts rfl rfl ⟨(Nat.le_of_ble_eq_true rfl), (Nat.le_of_ble_eq_true rfl)⟩) (nx1 hkb) (fun _ _ h3 hP => k3_same h3 hP) rfl rfl (Nat.le_of_ble_eq_true rfl) dL_law_166 ⟨show _ ≤ 632096 by omega, show _ ≤ 7205337 by omega⟩ (fun H locs hW => ?_)
  refine lv_topi (fun be ebe => ?_)
  refine lv_istore (lv' := [(11, .int be), (10, .int (nI a)), (9, .int x), (8, .int (nI it)), (7, .int (nI now)), (6, .ref c2), (5, .ref c1), (4, .ref c0), (3, .int (nI R9)), (2, .int (nI P)), (1, .ref x0), (0, .ref b)]) hx hb dL_law_169 hl (by decide) rfl (fun ls hl => ?_)
  rw [cN_nI (by omega)] at ebe
  refine lv_iload hx hb dL_law_171 (lv_at hl 0 rfl) ?_
  refine lv_if_lt (tgt := 220) hx hb dL_law_173 (by decide) (fun c173 => ?_) (fun c173 => ?_)
  · refine W.widen (k := cells + 10) (n := slots + 60) (by omega) (by omega) ?_
    exact K σ a x H locs ls (hLw.mono (Nat.le_succ it)) hAg (by omega) hW (lv_sub hl [1, 2, 3, 4, 5, 6, 7, 8, 9, 10, 11] rfl)
  · obtain ⟨r, hr, hbe, hre⟩ := (best_in σ a (nr σ) (by omega)).resolve_left (fun z => c173 (by rw [ebe, z]; decide))
    obtain rfl : be = nI r := ebe.trans hbe
    refine lv_aload_n hx hb dL_law_176 rfl (lv_at hl 10 rfl) ?_
    refine lv_iconst (v := 2) hx hb dL_law_177 (by decide) ?_
    refine wl_call (rest := []) hl9 hC hW hl.1 (fun ad pl sc h3 => tX6_count l g B0 ad _ _ pl sc _ 2 h3.1) (cw_L_52 hts rfl rfl ⟨(Nat.le_of_ble_eq_true rfl), (Nat.le_of_ble_eq_true rfl)⟩) (nx1 (show kdCO 2 = 0 from rfl)) (fun _ _ h3 hP => k3_same h3 hP) rfl rfl (Nat.le_of_ble_eq_true rfl) dL_law_178 ⟨show _ ≤ 632096 by omega, show _ ≤ 7205337 by omega⟩ (fun H locs hW => ?_)
    refine lv_bipush (v := 60) hx hb dL_law_181 (by decide) ?_
    refine lv_icmp_ge (tgt := 220) hx hb dL_law_183 (by decide) (fun c183 => (absurd (ge_T (n := 60) (k := nt σ) rfl (by decide) (by omega) (by rw [← h17]; exact c183)) (by omega))) (fun c183 => ?_)
    refine lv_aload_n hx hb dL_law_186 rfl (lv_at hl 10 rfl) ?_
    refine lv_iload hx hb dL_law_187 (lv_at hl 1 rfl) ?_
    refine lv_iload hx hb dL_law_189 (lv_at hl 0 rfl) ?_
    refine lv_iload hx hb dL_law_191 (lv_at hl 2 rfl) ?_
    refine lv_iconst (v := 3) hx hb dL_law_193 (by decide) ?_
    refine lv_ishr hx hb dL_law_194 ?_
    refine lv_sipush (v := 500) hx hb dL_law_195 (by decide) ?_
    refine wl_below hl9 hC hW hl.1 (d := 500) rfl (by decide) (by decide) (cw_L_15 hts rfl rfl ⟨(Nat.le_of_ble_eq_true rfl), (Nat.le_of_ble_eq_true rfl)⟩) (Nat.le_of_ble_eq_true rfl) dL_law_198 ⟨show _ ≤ 632096 by omega, show _ ≤ 7205337 by omega⟩ (fun j1 hj1 H locs hW => ?_)
    refine lv_sipush (v := 200) hx hb dL_law_201 (by decide) ?_
    refine lv_isub hx hb dL_law_204 ?_
    refine lv_topi (fun t9 et9 => ?_)
    have hka : kdAV σ (nI a) (nI r) t9 = 0 := av_ok hok (by omega) hr hre (by omega) et9 hj1
    refine wl_call (rest := []) hl9 hC hW hl.1 (fun ad pl sc h3 => tX6_arrive l g B0 ad _ _ pl sc _ (nI a) (nI r) t9 h3.1) (cw_L_55 hts rfl rfl ⟨(Nat.le_of_ble_eq_true rfl), (Nat.le_of_ble_eq_true rfl)⟩) (nx3 hka) (fun _ _ h3 hP => k3_AV h3 hka hP) rfl rfl (Nat.le_of_ble_eq_true rfl) dL_law_205 ⟨show _ ≤ 632096 by omega, show _ ≤ 7205337 by omega⟩ (fun H locs hW => ?_)
    refine lv_aload_n hx hb dL_law_208 rfl (lv_at hl 10 rfl) ?_
    refine lv_iconst (v := 2) hx hb dL_law_209 (by decide) ?_
    refine wl_call (rest := [.int (σ 17 0)]) hl9 hC hW hl.1 (fun ad pl sc h3 => tX6_count l g B0 ad _ _ pl sc _ 2 h3.1) (cw_L_52 hts rfl rfl ⟨(Nat.le_of_ble_eq_true rfl), (Nat.le_of_ble_eq_true rfl)⟩) (nx1 (show kdCO 2 = 0 from rfl)) (fun _ _ h3 hP => k3_same h3 hP) rfl rfl (Nat.le_of_ble_eq_true rfl) dL_law_210 ⟨show _ ≤ 632096 by omega, show _ ≤ 7205337 by omega⟩ (fun H locs hW => ?_)
    refine lv_iconst (v := 1) hx hb dL_law_213 (by decide) ?_
    refine lv_isub hx hb dL_law_214 ?_
    refine lv_icmp_eq (tgt := 220) hx hb dL_law_215 (by decide) (fun c215 => ?_) (fun c215 => (absurd (show σ 17 0 = σ 17 0 + 1 - 1 from (Int32.add_sub_cancel _ _).symm) c215))
    refine W.widen (k := cells + 10) (n := slots + 60) (by omega) (by omega) ?_
    exact K _ a x H locs ls (Lw_AV hLw hok (by omega) (by omega) (by omega) hre) hAg (by omega) hW (lv_sub hl [1, 2, 3, 4, 5, 6, 7, 8, 9, 10, 11] rfl)
set_option maxHeartbeats 8000000 in
set_option maxRecDepth 100000 in
theorem blk_b {p : Program} {l : Launch} {e : Env} {s : State} {m : MethodId} {args : Array Value} {below : List Frame} {meth : Method} {c : Code} {H : Heap} {locs : List Loc} {cells slots : Nat} {Q : State → Prop} {g : Gg} {B0 x0 c0 c1 c2 c3 c4 b L : Nat} {xs : Nat → Int32} {ret : Option FieldType} {ls : Array Slot} {P R9 N now it : Nat} {fp fr fa : Nat → Int32} {σ : Sg} {pd : Int64} (hl9 : l.stackTraces = false) (hC : Cx p s m args meth c RL cL_law 21 ret g B0) (hX : va_X b L xs s s.heap) (hbB : b < B0) (hL : L ≤ 260) (hP0 : 0 < P) (hP8 : P ≤ 8) (hR0 : 0 < R9) (hR5 : R9 ≤ 5) (hcc : cells + 4 ≤ 632096) (hss : slots + 24 ≤ 7205337) {a : Nat} {x : Int32} (ha : a < P) (hLw : Lw σ pd fp fr P R9 N now) (hAg : Ag σ fa) (hW : WL g B0 x0 c0 c1 c2 c3 c4 s H locs σ pd (some fp) (some fr) (some fa) none none) (hl : lv_has ls 21 [(10, .int (nI a)), (9, .int x), (8, .int (nI it)), (7, .int (nI now)), (6, .ref c2), (5, .ref c1), (4, .ref c0), (3, .int (nI R9)), (2, .int (nI P)), (1, .ref x0), (0, .ref b)])
    (K : ∀ (σ' : Sg) (rr : Nat) (H : Heap) (locs : List Loc) (ls : Array Slot), Lw σ' pd fp fr P R9 N now → Ag σ' fa → rr < R9 → WL g B0 x0 c0 c1 c2 c3 c4 s H locs σ' pd (some fp) (some fr) (some fa) none none → lv_has ls 21 [(12, .int (nI rr)), (10, .int (nI a)), (9, .int x), (8, .int (nI it)), (7, .int (nI now)), (6, .ref c2), (5, .ref c1), (4, .ref c0), (3, .int (nI R9)), (2, .int (nI P)), (1, .ref x0), (0, .ref b)] → W p l e room_1 s m args below meth c H locs (cells + 4) (slots + 24) Q (F0 m 261 ls [])) : W p l e room_1 s m args below meth c H locs cells slots Q (F0 m 220 ls []) := by
  have hx := hC.1.1
  have hb := hC.1.2.1
  have hts := hC.1.2.2.2.2
  obtain ⟨pl0, hok3⟩ := hW.ok
  have hok := hok3.1.1
  obtain ⟨w1, w2, w3, w4, w5, w6, w7⟩ := id hLw
  have h17 := hok.1
  refine lv_iload hx hb dL_law_220 (lv_at hl 1 rfl) ?_
  refine lv_iconst (v := 5) hx hb dL_law_222 (by decide) ?_
  refine lv_ishr hx hb dL_law_223 ?_
  refine lv_iload_n hx hb dL_law_224 rfl (lv_at hl 7 rfl) ?_
  refine wl_below hl9 hC hW hl.1 (d := R9) rfl (by omega) (by omega) (cw_L_15 hts rfl rfl ⟨(Nat.le_of_ble_eq_true rfl), (Nat.le_of_ble_eq_true rfl)⟩) (Nat.le_of_ble_eq_true rfl) dL_law_225 ⟨show _ ≤ 632096 by omega, show _ ≤ 7205337 by omega⟩ (fun rr hrr H locs hW => ?_)
  refine lv_istore (lv' := [(12, .int (nI rr)), (10, .int (nI a)), (9, .int x), (8, .int (nI it)), (7, .int (nI now)), (6, .ref c2), (5, .ref c1), (4, .ref c0), (3, .int (nI R9)), (2, .int (nI P)), (1, .ref x0), (0, .ref b)]) hx hb dL_law_228 hl (by decide) rfl (fun ls hl => ?_)
  refine lv_iload hx hb dL_law_230 (lv_at hl 2 rfl) ?_
  refine lv_bipush (v := 7) hx hb dL_law_232 (by decide) ?_
  refine lv_ishr hx hb dL_law_234 ?_
  refine lv_bipush (v := 6) hx hb dL_law_235 (by decide) ?_
  refine wl_below hl9 hC hW hl.1 (d := 6) rfl (by decide) (by decide) (cw_L_15 hts rfl rfl ⟨(Nat.le_of_ble_eq_true rfl), (Nat.le_of_ble_eq_true rfl)⟩) (Nat.le_of_ble_eq_true rfl) dL_law_237 ⟨show _ ≤ 632096 by omega, show _ ≤ 7205337 by omega⟩ (fun j1 hj1 H locs hW => ?_)
  refine lv_if_ne (tgt := 261) hx hb dL_law_240 (by decide) (fun c240 => ?_) (fun c240 => ?_)
  · refine W.widen (k := cells + 4) (n := slots + 24) (by omega) (by omega) ?_
    exact K σ rr H locs ls hLw hAg (by omega) hW (lv_sub hl [0, 1, 2, 3, 4, 5, 6, 7, 8, 9, 10, 11] rfl)
  · refine lv_aload_n hx hb dL_law_243 rfl (lv_at hl 10 rfl) ?_
    refine lv_iload hx hb dL_law_244 (lv_at hl 0 rfl) ?_
    refine lv_iconst (v := 3) hx hb dL_law_246 (by decide) ?_
    have hkr : kdRO σ (nI rr) 3 = 0 := ro_ok hok (by omega) ⟨by decide, by decide⟩
    refine wl_call (rest := []) hl9 hC hW hl.1 (fun ad pl sc h3 => tX6_room l g B0 ad _ _ pl sc _ (nI rr) 3 h3.1) (cw_L_58 hts rfl rfl ⟨(Nat.le_of_ble_eq_true rfl), (Nat.le_of_ble_eq_true rfl)⟩) (nx1 hkr) (fun _ _ h3 hP => k3_same h3 hP) rfl rfl (Nat.le_of_ble_eq_true rfl) dL_law_247 ⟨show _ ≤ 632096 by omega, show _ ≤ 7205337 by omega⟩ (fun H locs hW => ?_)
    refine lv_iconst (v := 2) hx hb dL_law_250 (by decide) ?_
    refine lv_icmp_eq (tgt := 261) hx hb dL_law_251 (by decide) (fun c251 => ?_) (fun c251 => ?_)
    · refine W.widen (k := cells + 4) (n := slots + 24) (by omega) (by omega) ?_
      exact K σ rr H locs ls hLw hAg (by omega) hW (lv_sub hl [0, 1, 2, 3, 4, 5, 6, 7, 8, 9, 10, 11] rfl)
    · rw [told3 (by omega)] at c251
      have hkd : kdDF σ (nI rr) = 0 := df_ok hok (by omega) c251
      refine lv_aload_n hx hb dL_law_254 rfl (lv_at hl 10 rfl) ?_
      refine lv_iload hx hb dL_law_255 (lv_at hl 0 rfl) ?_
      refine wl_call (rest := []) hl9 hC hW hl.1 (fun ad pl sc h3 => tX6_defrost l g B0 ad _ _ pl sc _ (nI rr) h3.1) (cw_L_61 hts rfl rfl ⟨(Nat.le_of_ble_eq_true rfl), (Nat.le_of_ble_eq_true rfl)⟩) (nx2 hkd) (fun _ _ h3 hP => k3_DF h3 hkd hP) rfl rfl (Nat.le_of_ble_eq_true rfl) dL_law_257 ⟨show _ ≤ 632096 by omega, show _ ≤ 7205337 by omega⟩ (fun H locs hW => ?_)
      refine lv_pop hx hb dL_law_260 rfl ?_
      refine W.widen (k := cells + 4) (n := slots + 24) (by omega) (by omega) ?_
      exact K _ rr H locs ls (Lw_DF hLw) hAg (by omega) hW (lv_sub hl [0, 1, 2, 3, 4, 5, 6, 7, 8, 9, 10, 11] rfl)
set_option maxHeartbeats 8000000 in
set_option maxRecDepth 100000 in
theorem blk_c {p : Program} {l : Launch} {e : Env} {s : State} {m : MethodId} {args : Array Value} {below : List Frame} {meth : Method} {c : Code} {H : Heap} {locs : List Loc} {cells slots : Nat} {Q : State → Prop} {g : Gg} {B0 x0 c0 c1 c2 c3 c4 b L : Nat} {xs : Nat → Int32} {ret : Option FieldType} {ls : Array Slot} {P R9 N now it : Nat} {fp fr fa : Nat → Int32} {σ : Sg} {pd : Int64} (hl9 : l.stackTraces = false) (hC : Cx p s m args meth c RL cL_law 21 ret g B0) (hX : va_X b L xs s s.heap) (hbB : b < B0) (hL : L ≤ 260) (hP0 : 0 < P) (hP8 : P ≤ 8) (hR0 : 0 < R9) (hR5 : R9 ≤ 5) (hcc : cells + 2 ≤ 632096) (hss : slots + 12 ≤ 7205337) {a rr : Nat} {x : Int32} (hrr : rr < R9) (hLw : Lw σ pd fp fr P R9 N now) (hAg : Ag σ fa) (hW : WL g B0 x0 c0 c1 c2 c3 c4 s H locs σ pd (some fp) (some fr) (some fa) none none) (hl : lv_has ls 21 [(12, .int (nI rr)), (10, .int (nI a)), (9, .int x), (8, .int (nI it)), (7, .int (nI now)), (6, .ref c2), (5, .ref c1), (4, .ref c0), (3, .int (nI R9)), (2, .int (nI P)), (1, .ref x0), (0, .ref b)])
    (K : ∀ (σ' : Sg) (H : Heap) (locs : List Loc) (ls : Array Slot), Lw σ' pd fp fr P R9 N now → Ag σ' fa → WL g B0 x0 c0 c1 c2 c3 c4 s H locs σ' pd (some fp) (some fr) (some fa) none none → lv_has ls 21 [(10, .int (nI a)), (9, .int x), (8, .int (nI it)), (7, .int (nI now)), (6, .ref c2), (5, .ref c1), (4, .ref c0), (3, .int (nI R9)), (2, .int (nI P)), (1, .ref x0), (0, .ref b)] → W p l e room_1 s m args below meth c H locs (cells + 2) (slots + 12) Q (F0 m 312 ls [])) : W p l e room_1 s m args below meth c H locs cells slots Q (F0 m 261 ls []) := by
  have hx := hC.1.1
  have hb := hC.1.2.1
  have hts := hC.1.2.2.2.2
  obtain ⟨pl0, hok3⟩ := hW.ok
  have hok := hok3.1.1
  obtain ⟨w1, w2, w3, w4, w5, w6, w7⟩ := id hLw
  have h17 := hok.1
  refine lv_iload hx hb dL_law_261 (lv_at hl 2 rfl) ?_
  refine lv_bipush (v := 8) hx hb dL_law_263 (by decide) ?_
  refine lv_ishr hx hb dL_law_265 ?_
  refine lv_bipush (v := 6) hx hb dL_law_266 (by decide) ?_
  refine wl_below hl9 hC hW hl.1 (d := 6) rfl (by decide) (by decide) (cw_L_15 hts rfl rfl ⟨(Nat.le_of_ble_eq_true rfl), (Nat.le_of_ble_eq_true rfl)⟩) (Nat.le_of_ble_eq_true rfl) dL_law_268 ⟨show _ ≤ 632096 by omega, show _ ≤ 7205337 by omega⟩ (fun j1 hj1 H locs hW => ?_)
  refine lv_if_ne (tgt := 312) hx hb dL_law_271 (by decide) (fun c271 => ?_) (fun c271 => ?_)
  · refine W.widen (k := cells + 2) (n := slots + 12) (by omega) (by omega) ?_
    exact K σ H locs ls hLw hAg hW (lv_sub hl [1, 2, 3, 4, 5, 6, 7, 8, 9, 10, 11] rfl)
  · refine lv_aload_n hx hb dL_law_274 rfl (lv_at hl 10 rfl) ?_
    refine lv_iload hx hb dL_law_275 (lv_at hl 0 rfl) ?_
    refine lv_iload hx hb dL_law_277 (lv_at hl 2 rfl) ?_
    refine lv_iconst (v := 4) hx hb dL_law_279 (by decide) ?_
    refine lv_ishr hx hb dL_law_280 ?_
    refine lv_sipush (v := 300) hx hb dL_law_281 (by decide) ?_
    refine wl_below hl9 hC hW hl.1 (d := 300) rfl (by decide) (by decide) (cw_L_15 hts rfl rfl ⟨(Nat.le_of_ble_eq_true rfl), (Nat.le_of_ble_eq_true rfl)⟩) (Nat.le_of_ble_eq_true rfl) dL_law_284 ⟨show _ ≤ 632096 by omega, show _ ≤ 7205337 by omega⟩ (fun j2 hj2 H locs hW => ?_)
    refine lv_sipush (v := 200) hx hb dL_law_287 (by decide) ?_
    refine lv_isub hx hb dL_law_290 ?_
    refine lv_topi (fun aim eaim => ?_)
    refine lv_iload hx hb dL_law_291 (lv_at hl 2 rfl) ?_
    refine lv_bipush (v := 9) hx hb dL_law_293 (by decide) ?_
    refine lv_ishr hx hb dL_law_295 ?_
    refine lv_iconst (v := 2) hx hb dL_law_296 (by decide) ?_
    refine wl_below hl9 hC hW hl.1 (d := 2) rfl (by decide) (by decide) (cw_L_15 hts rfl rfl ⟨(Nat.le_of_ble_eq_true rfl), (Nat.le_of_ble_eq_true rfl)⟩) (Nat.le_of_ble_eq_true rfl) dL_law_297 ⟨show _ ≤ 632096 by omega, show _ ≤ 7205337 by omega⟩ (fun j3 hj3 H locs hW => ?_)
    refine lv_if_ne (tgt := 307) hx hb dL_law_300 (by decide) (fun c300 => ?_) (fun c300 => ?_)
    · refine lv_iconst (v := 0) hx hb dL_law_307 (by decide) ?_
      have hks : kdSR σ (nI rr) aim = 0 := sr_ok hok (by omega) eaim hj2
      refine wl_call (rest := []) hl9 hC hW hl.1 (fun ad pl sc h3 => tX6_setRoom l g B0 ad _ _ pl sc _ (nI rr) aim 0 (by decide) (by decide) h3.1) (cw_L_64 hts rfl rfl ⟨(Nat.le_of_ble_eq_true rfl), (Nat.le_of_ble_eq_true rfl)⟩) (nx2 hks) (fun _ _ h3 hP => k3_SR (by decide) h3 hks hP) rfl rfl (Nat.le_of_ble_eq_true rfl) dL_law_308 ⟨show _ ≤ 632096 by omega, show _ ≤ 7205337 by omega⟩ (fun H locs hW => ?_)
      refine lv_pop hx hb dL_law_311 rfl ?_
      refine W.widen (k := cells + 2) (n := slots + 12) (by omega) (by omega) ?_
      exact K _ H locs ls (Lw_SR hLw) hAg hW (lv_sub hl [1, 2, 3, 4, 5, 6, 7, 8, 9, 10, 11] rfl)
    · refine lv_iconst (v := 1) hx hb dL_law_303 (by decide) ?_
      refine lv_goto (tgt := 308) hx hb dL_law_304 (by decide) ?_
      have hks : kdSR σ (nI rr) aim = 0 := sr_ok hok (by omega) eaim hj2
      refine wl_call (rest := []) hl9 hC hW hl.1 (fun ad pl sc h3 => tX6_setRoom l g B0 ad _ _ pl sc _ (nI rr) aim 1 (by decide) (by decide) h3.1) (cw_L_64 hts rfl rfl ⟨(Nat.le_of_ble_eq_true rfl), (Nat.le_of_ble_eq_true rfl)⟩) (nx2 hks) (fun _ _ h3 hP => k3_SR (by decide) h3 hks hP) rfl rfl (Nat.le_of_ble_eq_true rfl) dL_law_308 ⟨show _ ≤ 632096 by omega, show _ ≤ 7205337 by omega⟩ (fun H locs hW => ?_)
      refine lv_pop hx hb dL_law_311 rfl ?_
      refine W.widen (k := cells + 2) (n := slots + 12) (by omega) (by omega) ?_
      exact K _ H locs ls (Lw_SR hLw) hAg hW (lv_sub hl [1, 2, 3, 4, 5, 6, 7, 8, 9, 10, 11] rfl)
set_option maxHeartbeats 8000000 in
set_option maxRecDepth 100000 in
theorem blk_d {p : Program} {l : Launch} {e : Env} {s : State} {m : MethodId} {args : Array Value} {below : List Frame} {meth : Method} {c : Code} {H : Heap} {locs : List Loc} {cells slots : Nat} {Q : State → Prop} {g : Gg} {B0 x0 c0 c1 c2 c3 c4 b L : Nat} {xs : Nat → Int32} {ret : Option FieldType} {ls : Array Slot} {P R9 N now it : Nat} {fp fr fa : Nat → Int32} {σ : Sg} {pd : Int64} (hl9 : l.stackTraces = false) (hC : Cx p s m args meth c RL cL_law 21 ret g B0) (hX : va_X b L xs s s.heap) (hbB : b < B0) (hL : L ≤ 260) (hP0 : 0 < P) (hP8 : P ≤ 8) (hR0 : 0 < R9) (hR5 : R9 ≤ 5) (hcc : cells + 3 ≤ 632096) (hss : slots + 18 ≤ 7205337) {a : Nat} {x : Int32} (ha : a < P) (hLw : Lw σ pd fp fr P R9 N now) (hAg : Ag σ fa) (hW : WL g B0 x0 c0 c1 c2 c3 c4 s H locs σ pd (some fp) (some fr) (some fa) none none) (hl : lv_has ls 21 [(10, .int (nI a)), (9, .int x), (8, .int (nI it)), (7, .int (nI now)), (6, .ref c2), (5, .ref c1), (4, .ref c0), (3, .int (nI R9)), (2, .int (nI P)), (1, .ref x0), (0, .ref b)])
    (K : ∀ (σ' : Sg) (H : Heap) (locs : List Loc) (ls : Array Slot), Lw σ' pd fp fr P R9 N now → Ag σ' fa → WL g B0 x0 c0 c1 c2 c3 c4 s H locs σ' pd (some fp) (some fr) (some fa) none none → lv_has ls 21 [(9, .int x), (8, .int (nI it)), (7, .int (nI now)), (6, .ref c2), (5, .ref c1), (4, .ref c0), (3, .int (nI R9)), (2, .int (nI P)), (1, .ref x0), (0, .ref b)] → W p l e room_1 s m args below meth c H locs (cells + 3) (slots + 18) Q (F0 m 342 ls [])) : W p l e room_1 s m args below meth c H locs cells slots Q (F0 m 312 ls []) := by
  have hx := hC.1.1
  have hb := hC.1.2.1
  have hts := hC.1.2.2.2.2
  obtain ⟨pl0, hok3⟩ := hW.ok
  have hok := hok3.1.1
  obtain ⟨w1, w2, w3, w4, w5, w6, w7⟩ := id hLw
  have h17 := hok.1
  refine lv_iload hx hb dL_law_312 (lv_at hl 1 rfl) ?_
  refine lv_bipush (v := 10) hx hb dL_law_314 (by decide) ?_
  refine lv_ishr hx hb dL_law_316 ?_
  refine lv_iconst (v := 5) hx hb dL_law_317 (by decide) ?_
  refine wl_below hl9 hC hW hl.1 (d := 5) rfl (by decide) (by decide) (cw_L_15 hts rfl rfl ⟨(Nat.le_of_ble_eq_true rfl), (Nat.le_of_ble_eq_true rfl)⟩) (Nat.le_of_ble_eq_true rfl) dL_law_318 ⟨show _ ≤ 632096 by omega, show _ ≤ 7205337 by omega⟩ (fun j1 hj1 H locs hW => ?_)
  refine lv_if_ne (tgt := 342) hx hb dL_law_321 (by decide) (fun c321 => ?_) (fun c321 => ?_)
  · refine W.widen (k := cells + 3) (n := slots + 18) (by omega) (by omega) ?_
    exact K σ H locs ls hLw hAg hW (lv_sub hl [1, 2, 3, 4, 5, 6, 7, 8, 9, 10] rfl)
  · refine lv_aload_n hx hb dL_law_324 rfl (lv_at hl 9 rfl) ?_
    refine lv_iload hx hb dL_law_325 (lv_at hl 0 rfl) ?_
    refine lv_iconst (v := 2) hx hb dL_law_327 (by decide) ?_
    refine lv_iload hx hb dL_law_328 (lv_at hl 1 rfl) ?_
    refine lv_bipush (v := 6) hx hb dL_law_330 (by decide) ?_
    refine lv_ishr hx hb dL_law_332 ?_
    refine lv_bipush (v := 30) hx hb dL_law_333 (by decide) ?_
    refine wl_below hl9 hC hW hl.1 (d := 30) rfl (by decide) (by decide) (cw_L_15 hts rfl rfl ⟨(Nat.le_of_ble_eq_true rfl), (Nat.le_of_ble_eq_true rfl)⟩) (Nat.le_of_ble_eq_true rfl) dL_law_335 ⟨show _ ≤ 632096 by omega, show _ ≤ 7205337 by omega⟩ (fun j2 hj2 H locs hW => ?_)
    have hks : kdSH σ (nI a) 2 (nI j2) = 0 := sh_ok hok (by omega) (by omega)
    refine wl_call (rest := []) hl9 hC hW hl.1 (fun ad pl sc h3 => tX6_ship l g B0 ad _ _ pl sc _ (nI a) 2 (nI j2) h3.1) (cw_L_68 hts rfl rfl ⟨(Nat.le_of_ble_eq_true rfl), (Nat.le_of_ble_eq_true rfl)⟩) (nx2 hks) (fun _ _ h3 hP => k3_SH h3 hP) rfl rfl (Nat.le_of_ble_eq_true rfl) dL_law_338 ⟨show _ ≤ 632096 by omega, show _ ≤ 7205337 by omega⟩ (fun H locs hW => ?_)
    refine lv_pop hx hb dL_law_341 rfl ?_
    refine W.widen (k := cells + 3) (n := slots + 18) (by omega) (by omega) ?_
    exact K _ H locs ls (Lw_SH hLw hok hok3.1.2.2.1 hok3.1.2.2.2) (fun q hq => by rw [SH_row hok hok3.1.2.2.1 hok3.1.2.2.2 (by decide) (by decide)]; exact hAg q hq) hW (lv_sub hl [1, 2, 3, 4, 5, 6, 7, 8, 9, 10] rfl)
set_option maxHeartbeats 8000000 in
set_option maxRecDepth 100000 in
theorem blk_e {p : Program} {l : Launch} {e : Env} {s : State} {m : MethodId} {args : Array Value} {below : List Frame} {meth : Method} {c : Code} {H : Heap} {locs : List Loc} {cells slots : Nat} {Q : State → Prop} {g : Gg} {B0 x0 c0 c1 c2 c3 c4 b L : Nat} {xs : Nat → Int32} {ret : Option FieldType} {ls : Array Slot} {P R9 N now it : Nat} {fp fr fa : Nat → Int32} {σ : Sg} {pd : Int64} (hl9 : l.stackTraces = false) (hC : Cx p s m args meth c RL cL_law 21 ret g B0) (hX : va_X b L xs s s.heap) (hbB : b < B0) (hL : L ≤ 260) (hP0 : 0 < P) (hP8 : P ≤ 8) (hR0 : 0 < R9) (hR5 : R9 ≤ 5) (hcc : cells + 0 ≤ 632096) (hss : slots + 0 ≤ 7205337) {x : Int32} (hLw : Lw σ pd fp fr P R9 N now) (hAg : Ag σ fa) (hW : WL g B0 x0 c0 c1 c2 c3 c4 s H locs σ pd (some fp) (some fr) (some fa) none none) (hl : lv_has ls 21 [(9, .int x), (8, .int (nI it)), (7, .int (nI now)), (6, .ref c2), (5, .ref c1), (4, .ref c0), (3, .int (nI R9)), (2, .int (nI P)), (1, .ref x0), (0, .ref b)])
    (K : ∀ (σ' : Sg) (H : Heap) (locs : List Loc) (ls : Array Slot), Lw σ' pd fp fr P R9 N now → Ag σ' fa → WL g B0 x0 c0 c1 c2 c3 c4 s H locs σ' pd (some fp) (some fr) (some fa) none none → lv_has ls 21 [(9, .int x), (8, .int (nI it)), (7, .int (nI now)), (6, .ref c2), (5, .ref c1), (4, .ref c0), (3, .int (nI R9)), (2, .int (nI P)), (1, .ref x0), (0, .ref b)] → W p l e room_1 s m args below meth c H locs (cells + 0) (slots + 0) Q (F0 m 360 ls [])) : W p l e room_1 s m args below meth c H locs cells slots Q (F0 m 342 ls []) := by
  have hx := hC.1.1
  have hb := hC.1.2.1
  have hts := hC.1.2.2.2.2
  obtain ⟨pl0, hok3⟩ := hW.ok
  have hok := hok3.1.1
  obtain ⟨w1, w2, w3, w4, w5, w6, w7⟩ := id hLw
  have h17 := hok.1
  refine lv_iload hx hb dL_law_342 (lv_at hl 0 rfl) ?_
  refine lv_bipush (v := 11) hx hb dL_law_344 (by decide) ?_
  refine lv_ishr hx hb dL_law_346 ?_
  refine lv_bipush (v := 8) hx hb dL_law_347 (by decide) ?_
  refine wl_below hl9 hC hW hl.1 (d := 8) rfl (by decide) (by decide) (cw_L_15 hts rfl rfl ⟨(Nat.le_of_ble_eq_true rfl), (Nat.le_of_ble_eq_true rfl)⟩) (Nat.le_of_ble_eq_true rfl) dL_law_349 ⟨show _ ≤ 632096 by omega, show _ ≤ 7205337 by omega⟩ (fun j1 hj1 H locs hW => ?_)
  refine lv_if_ne (tgt := 360) hx hb dL_law_352 (by decide) (fun c352 => ?_) (fun c352 => ?_)
  · refine W.widen (k := cells + 0) (n := slots + 0) (by omega) (by omega) ?_
    exact K σ H locs ls hLw hAg hW (lv_sub hl [0, 1, 2, 3, 4, 5, 6, 7, 8, 9] rfl)
  · refine lv_aload_n hx hb dL_law_355 rfl (lv_at hl 8 rfl) ?_
    refine wl_call0 (rest := []) hl9 hC hW hl.1 (fun ad pl sc h3 => tX6_clear l g B0 ad _ _ pl sc _ h3.1) (cw_L_71 hts rfl rfl ⟨(Nat.le_of_ble_eq_true rfl), (Nat.le_of_ble_eq_true rfl)⟩) (fun _ _ h3 hP => k3_CL h3 hP) rfl rfl (Nat.le_of_ble_eq_true rfl) dL_law_356 ⟨show _ ≤ 632096 by omega, show _ ≤ 7205337 by omega⟩ (fun H locs hW => ?_)
    refine lv_pop hx hb dL_law_359 rfl ?_
    refine W.widen (k := cells + 0) (n := slots + 0) (by omega) (by omega) ?_
    exact K _ H locs ls (Lw_CL hLw) hAg hW (lv_sub hl [0, 1, 2, 3, 4, 5, 6, 7, 8, 9] rfl)
