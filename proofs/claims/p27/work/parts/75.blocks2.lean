/-! THE LAW'S ROUND, second part: where pallets are, the hours -/
def TK (σ τ : Sg) (hw : Nat) : Prop := τ 17 = σ 17 ∧ τ 18 = σ 18 ∧ τ 19 = σ 19 ∧ AgK σ τ hw 0 ∧ (∀ q, q < nt σ → rg (σ 21 q) 0 3000000) ∧ ∀ q, nt σ ≤ q → τ 21 q = 0
theorem tick_facts {σ : Sg} {pl : Pl} {pd : Int64} {fp fr : Nat → Int32} {P R9 N now hw : Nat} (h3 : Ok3 σ pl) (hLw : Lw σ pd fp fr P R9 N now) (hn : now ≤ 300) (hw2 : hw ≤ 10) : Lw (tickAt (σ, pd) hw).1 (tickAt (σ, pd) hw).2 fp fr P R9 N (now + hw) ∧ TK σ (tickAt (σ, pd) hw).1 hw := by
  obtain ⟨w1, w2, w3, w4, w5, w6, w7⟩ := id hLw
  have hc : cN (σ 1 0) = now := by rw [w4]; exact cN_nI (by omega)
  have hB : Bn σ now := by rw [← hc]; exact h3.2.2
  obtain ⟨t1, t2⟩ := tick_7 (x := (σ, pd)) h3.1 hB w5 hw (by omega)
  obtain ⟨i1, i2⟩ := keepTI (pd := pd) h3.1 hB hw (by omega)
  have row : ∀ w, w ≠ 1 → w ≠ 16 → w ≠ 20 → w ≠ 21 → (tickAt (σ, pd) hw).1 w = σ w := fun w a b c d => tick_row (σ, pd) a b c d hw
  have r17 := row 17 (by decide) (by decide) (by decide) (by decide)
  refine ⟨⟨?_, ?_, ?_, tickAt_now (x := (σ, pd)) w4 hw, t1, fun a ha => ?_, fun r hr => ?_⟩, r17, row 18 (by decide) (by decide) (by decide) (by decide), row 19 (by decide) (by decide) (by decide) (by decide), t2, fun q hq => ?_, fun q hq => ?_⟩
  · unfold np
    rw [row 5 (by decide) (by decide) (by decide) (by decide)]
    exact w1
  · unfold nr
    rw [row 10 (by decide) (by decide) (by decide) (by decide)]
    exact w2
  · unfold nt
    rw [r17]
    exact w3
  · rw [row 8 (by decide) (by decide) (by decide) (by decide), row 9 (by decide) (by decide) (by decide) (by decide)]
    exact w6 a ha
  · rw [row 11 (by decide) (by decide) (by decide) (by decide)]
    exact w7 r hr
  · have := (hB.2 q hq).2
    constructor <;> omega
  · refine i1.2.2.2.1 q ?_
    unfold nt
    rw [r17]
    exact hq
theorem tp0 {σ : Sg} {k : Nat} (hk : k < 1000) : toldP σ (cN (nI k)) 0 = σ 18 k := by
  rw [cN_nI (show k < 2 ^ 31 by omega)]
  rfl
theorem tp2 {σ : Sg} {k : Nat} (hk : k < 1000) : toldP σ (cN (nI k)) 2 = σ 21 k := by
  rw [cN_nI (show k < 2 ^ 31 by omega)]
  rfl
theorem tp3 {σ : Sg} {k : Nat} (hk : k < 1000) : toldP σ (cN (nI k)) 3 = σ 19 k := by
  rw [cN_nI (show k < 2 ^ 31 by omega)]
  rfl
theorem tp4 {σ : Sg} {k : Nat} (hk : k < 1000) : toldP σ (cN (nI k)) 4 = leftS σ k := by
  rw [cN_nI (show k < 2 ^ 31 by omega)]
  rfl
set_option maxHeartbeats 8000000 in
set_option maxRecDepth 100000 in
theorem blk_f {p : Program} {l : Launch} {e : Env} {s : State} {m : MethodId} {args : Array Value} {below : List Frame} {meth : Method} {c : Code} {H : Heap} {locs : List Loc} {cells slots : Nat} {Q : State → Prop} {g : Gg} {B0 x0 c0 c1 c2 c3 c4 b L : Nat} {xs : Nat → Int32} {ret : Option FieldType} {ls : Array Slot} {P R9 N now it : Nat} {fp fr fa : Nat → Int32} {σ : Sg} {pd : Int64} (hl9 : l.stackTraces = false) (hC : Cx p s m args meth c RL cL_law 21 ret g B0) (hX : va_X b L xs s s.heap) (hbB : b < B0) (hL : L ≤ 260) (hP0 : 0 < P) (hP8 : P ≤ 8) (hR0 : 0 < R9) (hR5 : R9 ≤ 5) (hcc : cells + 1 ≤ 632096) (hss : slots + 60 ≤ 7205337) {x : Int32} (hW : WL g B0 x0 c0 c1 c2 c3 c4 s H locs σ pd (some fp) (some fr) (some fa) none none) (hl : lv_has ls 21 [(9, .int x), (8, .int (nI it)), (7, .int (nI now)), (6, .ref c2), (5, .ref c1), (4, .ref c0), (3, .int (nI R9)), (2, .int (nI P)), (1, .ref x0), (0, .ref b)])
    (K : ∀ (hw q : Nat) (H : Heap) (locs : List Loc) (ls : Array Slot), 1 ≤ hw → hw ≤ 10 → WL g B0 x0 c0 c1 c2 q c4 s H locs σ pd (some fp) (some fr) (some fa) (some (fun _ => 0)) none → lv_has ls 21 [(15, .int 0), (14, .ref q), (13, .int (nI hw)), (8, .int (nI it)), (7, .int (nI now)), (6, .ref c2), (5, .ref c1), (4, .ref c0), (3, .int (nI R9)), (2, .int (nI P)), (1, .ref x0), (0, .ref b)] → W p l e room_1 s m args below meth c H locs (cells + 1) (slots + 60) Q (F0 m 382 ls [])) : W p l e room_1 s m args below meth c H locs cells slots Q (F0 m 360 ls []) := by
  have hx := hC.1.1
  have hb := hC.1.2.1
  have hts := hC.1.2.2.2.2
  refine lv_iconst (v := 1) hx hb dL_law_360 (by decide) ?_
  refine lv_iload hx hb dL_law_361 (lv_at hl 0 rfl) ?_
  refine lv_iconst (v := 2) hx hb dL_law_363 (by decide) ?_
  refine lv_ishr hx hb dL_law_364 ?_
  refine lv_bipush (v := 10) hx hb dL_law_365 (by decide) ?_
  refine wl_below hl9 hC hW hl.1 (d := 10) rfl (by decide) (by decide) (cw_L_15 hts rfl rfl ⟨(Nat.le_of_ble_eq_true rfl), (Nat.le_of_ble_eq_true rfl)⟩) (Nat.le_of_ble_eq_true rfl) dL_law_367 ⟨show _ ≤ 632096 by omega, show _ ≤ 7205337 by omega⟩ (fun j1 hj1 H locs hW => ?_)
  refine lv_iadd hx hb dL_law_370 ?_
  refine lv_topi (fun h0 eh0 => ?_)
  obtain ⟨hw, hw1, hw2, rfl⟩ : ∃ hw : Nat, 1 ≤ hw ∧ hw ≤ 10 ∧ h0 = nI hw := ⟨1 + j1, by omega, by omega, eh0.trans (nI_p 1 j1)⟩
  refine lv_istore (lv' := [(13, .int (nI hw)), (9, .int x), (8, .int (nI it)), (7, .int (nI now)), (6, .ref c2), (5, .ref c1), (4, .ref c0), (3, .int (nI R9)), (2, .int (nI P)), (1, .ref x0), (0, .ref b)]) hx hb dL_law_371 hl (by decide) rfl (fun ls hl => ?_)
  refine lv_bipush (v := 60) hx hb dL_law_373 (by decide) ?_
  refine wl_new3 hC hW rfl (show _ ≤ 632096 by omega) (show _ ≤ 7205337 by omega) dL_law_375 (fun q3 H hW => ?_)
  refine lv_astore (lv' := [(14, .ref q3), (13, .int (nI hw)), (9, .int x), (8, .int (nI it)), (7, .int (nI now)), (6, .ref c2), (5, .ref c1), (4, .ref c0), (3, .int (nI R9)), (2, .int (nI P)), (1, .ref x0), (0, .ref b)]) hx hb dL_law_377 hl (by decide) rfl (fun ls hl => ?_)
  refine lv_iconst (v := 0) hx hb dL_law_379 (by decide) ?_
  refine lv_istore (lv' := [(15, .int 0), (14, .ref q3), (13, .int (nI hw)), (9, .int x), (8, .int (nI it)), (7, .int (nI now)), (6, .ref c2), (5, .ref c1), (4, .ref c0), (3, .int (nI R9)), (2, .int (nI P)), (1, .ref x0), (0, .ref b)]) hx hb dL_law_380 hl (by decide) rfl (fun ls hl => ?_)
  refine W.widen (k := cells + 1) (n := slots + 60) (by omega) (by omega) ?_
  exact K hw q3 H locs ls hw1 hw2 hW (lv_sub hl [0, 1, 2, 4, 5, 6, 7, 8, 9, 10, 11, 12] rfl)
set_option maxHeartbeats 8000000 in
set_option maxRecDepth 100000 in
theorem were_loop {p : Program} {l : Launch} {e : Env} {s : State} {m : MethodId} {args : Array Value} {below : List Frame} {meth : Method} {c : Code} {cells slots : Nat} {Q : State → Prop} {g : Gg} {B0 x0 c0 c1 c2 c3 c4 b L : Nat} {xs : Nat → Int32} {ret : Option FieldType} {P R9 N now it : Nat} {fp fr fa : Nat → Int32} {σ : Sg} {pd : Int64} (hl9 : l.stackTraces = false) (hC : Cx p s m args meth c RL cL_law 21 ret g B0) (hX : va_X b L xs s s.heap) (hbB : b < B0) (hL : L ≤ 260) (hP0 : 0 < P) (hP8 : P ≤ 8) (hR0 : 0 < R9) (hR5 : R9 ≤ 5) (hcc : cells + 100 ≤ 632096) (hss : slots + 600 ≤ 7205337) {hw : Nat} (hok : OkP σ) (hn : nt σ ≤ 30)
    (K : ∀ (fw : Nat → Int32) (H : Heap) (locs : List Loc) (ls : Array Slot), (∀ q, q < nt σ → fw q = σ 19 q) → WL g B0 x0 c0 c1 c2 c3 c4 s H locs σ pd (some fp) (some fr) (some fa) (some fw) none → lv_has ls 21 [(14, .ref c3), (13, .int (nI hw)), (8, .int (nI it)), (7, .int (nI now)), (6, .ref c2), (5, .ref c1), (4, .ref c0), (3, .int (nI R9)), (2, .int (nI P)), (1, .ref x0), (0, .ref b)] → W p l e room_1 s m args below meth c H locs (cells + 100) (slots + 600) Q (F0 m 410 ls [])) :
    ∀ (n k : Nat) (fw : Nat → Int32), k ≤ nt σ → nt σ + 1 ≤ k + n → (∀ q, q < k → fw q = σ 19 q) → ∀ (H : Heap) (locs : List Loc), WL g B0 x0 c0 c1 c2 c3 c4 s H locs σ pd (some fp) (some fr) (some fa) (some fw) none → ∀ (ls : Array Slot), lv_has ls 21 [(15, .int (nI k)), (14, .ref c3), (13, .int (nI hw)), (8, .int (nI it)), (7, .int (nI now)), (6, .ref c2), (5, .ref c1), (4, .ref c0), (3, .int (nI R9)), (2, .int (nI P)), (1, .ref x0), (0, .ref b)] → W p l e room_1 s m args below meth c H locs (cells + 3 * k) (slots + 18 * k) Q (F0 m 382 ls []) := by
  have hx := hC.1.1
  have hb := hC.1.2.1
  have hts := hC.1.2.2.2.2
  have h17 := hok.1
  intro n
  induction n with
  | zero =>
    intro k fw hk hfu
    exact absurd hfu (by omega)
  | succ n ih =>
    intro k fw hk hfu hfw H locs hW ls hl
    refine lv_iload hx hb dL_law_382 (lv_at hl 0 rfl) ?_
    refine lv_aload_n hx hb dL_law_384 rfl (lv_at hl 10 rfl) ?_
    refine lv_iconst (v := 2) hx hb dL_law_385 (by decide) ?_
    refine wl_call (rest := [.int (nI k)]) hl9 hC hW hl.1 (fun ad pl sc h3 => tX6_count l g B0 ad _ _ pl sc _ 2 h3.1) (cw_L_52 hts rfl rfl ⟨(Nat.le_of_ble_eq_true rfl), (Nat.le_of_ble_eq_true rfl)⟩) (nx1 (show kdCO 2 = 0 from rfl)) (fun _ _ h3 hP => k3_same h3 hP) rfl rfl (Nat.le_of_ble_eq_true rfl) dL_law_386 ⟨show _ ≤ 632096 by omega, show _ ≤ 7205337 by omega⟩ (fun H locs hW => ?_)
    refine lv_icmp_ge (tgt := 410) hx hb dL_law_389 (by decide) (fun c389 => ?_) (fun c389 => ?_)
    · have hk2 : nt σ ≤ k := ge_T (show cntS σ 2 = nI (nt σ) from h17) (by omega) (by omega) c389
      refine W.widen (k := cells + 100) (n := slots + 600) (by omega) (by omega) ?_
      exact K fw H locs ls (fun q hq => hfw q (by omega)) hW (lv_sub hl [1, 2, 3, 4, 5, 6, 7, 8, 9, 10, 11] rfl)
    · have hk2 : k < nt σ := ge_F (show cntS σ 2 = nI (nt σ) from h17) (by omega) (by omega) c389
      have hkp : kdPA σ (nI k) 3 = 0 := pa_ok hok hk2 ⟨by decide, by decide⟩
      refine lv_aload hx hb dL_law_392 (lv_at hl 1 rfl) ?_
      refine lv_iload hx hb dL_law_394 (lv_at hl 0 rfl) ?_
      refine lv_aload_n hx hb dL_law_396 rfl (lv_at hl 10 rfl) ?_
      refine lv_iload hx hb dL_law_397 (lv_at hl 0 rfl) ?_
      refine lv_iconst (v := 3) hx hb dL_law_399 (by decide) ?_
      refine wl_call (rest := [.int (nI k), .ref c3]) hl9 hC hW hl.1 (fun ad pl sc h3 => tX6_pallet l g B0 ad _ _ pl sc _ (nI k) 3 h3.1) (cw_L_75 hts rfl rfl ⟨(Nat.le_of_ble_eq_true rfl), (Nat.le_of_ble_eq_true rfl)⟩) (nx1 hkp) (fun _ _ h3 hP => k3_same h3 hP) rfl rfl (Nat.le_of_ble_eq_true rfl) dL_law_400 ⟨show _ ≤ 632096 by omega, show _ ≤ 7205337 by omega⟩ (fun H locs hW => ?_)
      rw [tp3 (by omega)]
      refine wl_put3 hC hW (j := k) rfl (by omega) dL_law_403 (fun H locs hW => ?_)
      refine lv_iinc (v := nI (k + 1)) (lv' := [(15, .int (nI (k + 1))), (14, .ref c3), (13, .int (nI hw)), (8, .int (nI it)), (7, .int (nI now)), (6, .ref c2), (5, .ref c1), (4, .ref c0), (3, .int (nI R9)), (2, .int (nI P)), (1, .ref x0), (0, .ref b)]) hx hb dL_law_404 hl (k := 0) rfl (nI_1 _) (by decide) rfl (fun ls hl => ?_)
      refine lv_goto (tgt := 382) hx hb dL_law_407 (by decide) ?_
      refine W.widen (k := cells + 3 * (k + 1)) (n := slots + 18 * (k + 1)) (by omega) (by omega) ?_
      refine ih (k + 1) _ (by omega) (by omega) (fun q hq => ?_) _ _ hW ls (lv_sub hl [0, 1, 2, 3, 4, 5, 6, 7, 8, 9, 10, 11] rfl)
      by_cases hqk : q = k
      · subst hqk
        exact upd_s _ _ _
      · exact (upd_n _ _ hqk).trans (hfw q (by omega))
set_option maxHeartbeats 8000000 in
set_option maxRecDepth 100000 in
theorem blk_h {p : Program} {l : Launch} {e : Env} {s : State} {m : MethodId} {args : Array Value} {below : List Frame} {meth : Method} {c : Code} {H : Heap} {locs : List Loc} {cells slots : Nat} {Q : State → Prop} {g : Gg} {B0 x0 c0 c1 c2 c3 c4 b L : Nat} {xs : Nat → Int32} {ret : Option FieldType} {ls : Array Slot} {P R9 N now it : Nat} {fp fr fa : Nat → Int32} {σ : Sg} {pd : Int64} (hl9 : l.stackTraces = false) (hC : Cx p s m args meth c RL cL_law 21 ret g B0) (hX : va_X b L xs s s.heap) (hbB : b < B0) (hL : L ≤ 260) (hP0 : 0 < P) (hP8 : P ≤ 8) (hR0 : 0 < R9) (hR5 : R9 ≤ 5) (hcc : cells + 1 ≤ 632096) (hss : slots + 6 ≤ 7205337) {hw : Nat} {fw : Nat → Int32} (hw1 : 1 ≤ hw) (hw2 : hw ≤ 10) (hnow : now ≤ 290) (hLw : Lw σ pd fp fr P R9 N now) (hW : WL g B0 x0 c0 c1 c2 c3 c4 s H locs σ pd (some fp) (some fr) (some fa) (some fw) none) (hl : lv_has ls 21 [(14, .ref c3), (13, .int (nI hw)), (8, .int (nI it)), (7, .int (nI now)), (6, .ref c2), (5, .ref c1), (4, .ref c0), (3, .int (nI R9)), (2, .int (nI P)), (1, .ref x0), (0, .ref b)])
    (K : ∀ (τ : Sg) (pd' : Int64) (H : Heap) (locs : List Loc) (ls : Array Slot), Lw τ pd' fp fr P R9 N (now + hw) → TK σ τ hw → WL g B0 x0 c0 c1 c2 c3 c4 s H locs τ pd' (some fp) (some fr) (some fa) (some fw) none → lv_has ls 21 [(16, .int 0), (15, .int 0), (14, .ref c3), (13, .int (nI hw)), (8, .int (nI it)), (7, .int (nI (now + hw))), (6, .ref c2), (5, .ref c1), (4, .ref c0), (3, .int (nI R9)), (2, .int (nI P)), (1, .ref x0), (0, .ref b)] → W p l e room_1 s m args below meth c H locs (cells + 1) (slots + 6) Q (F0 m 430 ls [])) : W p l e room_1 s m args below meth c H locs cells slots Q (F0 m 410 ls []) := by
  have hx := hC.1.1
  have hb := hC.1.2.1
  have hts := hC.1.2.2.2.2
  refine lv_aload_n hx hb dL_law_410 rfl (lv_at hl 9 rfl) ?_
  refine lv_iload hx hb dL_law_411 (lv_at hl 1 rfl) ?_
  obtain ⟨pl0, hok3⟩ := hW.ok
  have hkt : kdTI σ (nI hw) = 0 := ti_ok hLw.2.2.2.1 (by omega) hw1 (by omega)
  refine wl_call (rest := []) hl9 hC hW hl.1 (fun ad pl sc h3 => tX6_tick l g B0 ad _ _ pl sc _ (nI hw) h3.2.1 h3.2.2 h3.1) (cw_L_78 hts rfl rfl ⟨(Nat.le_of_ble_eq_true rfl), (Nat.le_of_ble_eq_true rfl)⟩) (nx1 hkt) (fun _ _ h3 hP => k3_TI h3 hkt hP) rfl rfl (Nat.le_of_ble_eq_true rfl) dL_law_413 ⟨show _ ≤ 632096 by omega, show _ ≤ 7205337 by omega⟩ (fun H locs hW => ?_)
  rw [cN_nI (show hw < 2 ^ 31 by omega)] at hW
  obtain ⟨f1, f2⟩ := tick_facts hok3 hLw (by omega) hw2
  refine lv_pop hx hb dL_law_416 rfl ?_
  refine lv_iload hx hb dL_law_417 (lv_at hl 3 rfl) ?_
  refine lv_iload hx hb dL_law_419 (lv_at hl 1 rfl) ?_
  refine lv_iadd hx hb dL_law_421 ?_
  rw [nI_p]
  refine lv_istore (lv' := [(7, .int (nI (now + hw))), (14, .ref c3), (13, .int (nI hw)), (8, .int (nI it)), (6, .ref c2), (5, .ref c1), (4, .ref c0), (3, .int (nI R9)), (2, .int (nI P)), (1, .ref x0), (0, .ref b)]) hx hb dL_law_422 hl (by decide) rfl (fun ls hl => ?_)
  refine lv_iconst (v := 0) hx hb dL_law_424 (by decide) ?_
  refine lv_istore (lv' := [(15, .int 0), (7, .int (nI (now + hw))), (14, .ref c3), (13, .int (nI hw)), (8, .int (nI it)), (6, .ref c2), (5, .ref c1), (4, .ref c0), (3, .int (nI R9)), (2, .int (nI P)), (1, .ref x0), (0, .ref b)]) hx hb dL_law_425 hl (by decide) rfl (fun ls hl => ?_)
  refine lv_iconst (v := 0) hx hb dL_law_427 (by decide) ?_
  refine lv_istore (lv' := [(16, .int 0), (15, .int 0), (7, .int (nI (now + hw))), (14, .ref c3), (13, .int (nI hw)), (8, .int (nI it)), (6, .ref c2), (5, .ref c1), (4, .ref c0), (3, .int (nI R9)), (2, .int (nI P)), (1, .ref x0), (0, .ref b)]) hx hb dL_law_428 hl (by decide) rfl (fun ls hl => ?_)
  refine W.widen (k := cells + 1) (n := slots + 6) (by omega) (by omega) ?_
  exact K _ _ H locs ls f1 f2 hW (lv_sub hl [0, 1, 3, 4, 5, 2, 6, 7, 8, 9, 10, 11, 12] rfl)
