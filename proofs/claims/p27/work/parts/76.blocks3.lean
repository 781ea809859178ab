/-! THE LAW'S ROUND, third part: each pallet's age, and with whom it stands -/
theorem neg_m1 {σ : Sg} {k : Nat} (hok : OkP σ) (hk : k < nt σ) (h : σ 19 k < 0) : σ 19 k = -1 := by
  by_cases c : σ 19 k = -1
  · exact c
  · obtain ⟨e, hr⟩ := hok.2.2.2.2.2.2.2 k hk c
    have h6 := hok.2.2.2.1
    rw [e] at h
    exact absurd (nI_nn (show rmo σ k < 2 ^ 31 by omega)) (Int32.not_le.mpr h)
theorem pos_m1 {σ : Sg} {k : Nat} (h : ¬ σ 19 k < 0) : ¬ σ 19 k = -1 := fun z => h (by rw [z]; decide)
set_option maxHeartbeats 8000000 in
set_option maxRecDepth 100000 in
theorem blk_i {p : Program} {l : Launch} {e : Env} {s : State} {m : MethodId} {args : Array Value} {below : List Frame} {meth : Method} {c : Code} {H : Heap} {locs : List Loc} {cells slots : Nat} {Q : State → Prop} {g : Gg} {B0 x0 c0 c1 c2 c3 c4 b L : Nat} {xs : Nat → Int32} {ret : Option FieldType} {ls : Array Slot} {P R9 N now it : Nat} {fp fr fa : Nat → Int32} {σ : Sg} {pd : Int64} (hl9 : l.stackTraces = false) (hC : Cx p s m args meth c RL cL_law 21 ret g B0) (hX : va_X b L xs s s.heap) (hbB : b < B0) (hL : L ≤ 260) (hP0 : 0 < P) (hP8 : P ≤ 8) (hR0 : 0 < R9) (hR5 : R9 ≤ 5) (hcc : cells + 4 ≤ 632096) (hss : slots + 24 ≤ 7205337) {k hw : Nat} {hr : Int32} {fw : Nat → Int32} (hn : nt σ ≤ 30) (hk : k < nt σ) (hw2 : hw ≤ 10) (hfw : fw k = σ 19 k) (hra : rg (fa k) 0 3000000) (hgo : σ 19 k = -1 → σ 21 k = fa k) (hup : σ 19 k ≠ -1 → (fa k).toInt + (hw : Int) ≤ (σ 21 k).toInt) (hW : WL g B0 x0 c0 c1 c2 c3 c4 s H locs σ pd (some fp) (some fr) (some fa) (some fw) none) (hl : lv_has ls 21 [(16, .int (nI k)), (15, .int hr), (14, .ref c3), (13, .int (nI hw)), (8, .int (nI it)), (7, .int (nI now)), (6, .ref c2), (5, .ref c1), (4, .ref c0), (3, .int (nI R9)), (2, .int (nI P)), (1, .ref x0), (0, .ref b)])
    (K : ∀ (H : Heap) (locs : List Loc) (ls : Array Slot), WL g B0 x0 c0 c1 c2 c3 c4 s H locs σ pd (some fp) (some fr) (some fa) (some fw) none → lv_has ls 21 [(17, .int (σ 21 k)), (16, .int (nI k)), (15, .int hr), (14, .ref c3), (13, .int (nI hw)), (8, .int (nI it)), (7, .int (nI now)), (6, .ref c2), (5, .ref c1), (4, .ref c0), (3, .int (nI R9)), (2, .int (nI P)), (1, .ref x0), (0, .ref b)] → W p l e room_1 s m args below meth c H locs (cells + 4) (slots + 24) Q (F0 m 503 ls [])) : W p l e room_1 s m args below meth c H locs cells slots Q (F0 m 440 ls []) := by
  have hx := hC.1.1
  have hb := hC.1.2.1
  have hts := hC.1.2.2.2.2
  obtain ⟨pl0, hok3⟩ := hW.ok
  have hok := hok3.1.1
  have hk2 : kdPA σ (nI k) 2 = 0 := pa_ok hok hk ⟨by decide, by decide⟩
  have hk3 : kdPA σ (nI k) 3 = 0 := pa_ok hok hk ⟨by decide, by decide⟩
  refine lv_aload_n hx hb dL_law_440 rfl (lv_at hl 11 rfl) ?_
  refine lv_iload hx hb dL_law_441 (lv_at hl 0 rfl) ?_
  refine lv_iconst (v := 2) hx hb dL_law_443 (by decide) ?_
  refine wl_call (rest := []) hl9 hC hW hl.1 (fun ad pl sc h3 => tX6_pallet l g B0 ad _ _ pl sc _ (nI k) 2 h3.1) (cw_L_75 hts rfl rfl ⟨(Nat.le_of_ble_eq_true rfl), (Nat.le_of_ble_eq_true rfl)⟩) (nx1 hk2) (fun _ _ h3 hP => k3_same h3 hP) rfl rfl (Nat.le_of_ble_eq_true rfl) dL_law_444 ⟨show _ ≤ 632096 by omega, show _ ≤ 7205337 by omega⟩ (fun H locs hW => ?_)
  rw [tp2 (by omega)]
  refine lv_istore (lv' := [(17, .int (σ 21 k)), (16, .int (nI k)), (15, .int hr), (14, .ref c3), (13, .int (nI hw)), (8, .int (nI it)), (7, .int (nI now)), (6, .ref c2), (5, .ref c1), (4, .ref c0), (3, .int (nI R9)), (2, .int (nI P)), (1, .ref x0), (0, .ref b)]) hx hb dL_law_447 hl (by decide) rfl (fun ls hl => ?_)
  refine lv_aload_n hx hb dL_law_449 rfl (lv_at hl 12 rfl) ?_
  refine lv_iload hx hb dL_law_450 (lv_at hl 1 rfl) ?_
  refine lv_iconst (v := 3) hx hb dL_law_452 (by decide) ?_
  refine wl_call (rest := []) hl9 hC hW hl.1 (fun ad pl sc h3 => tX6_pallet l g B0 ad _ _ pl sc _ (nI k) 3 h3.1) (cw_L_75 hts rfl rfl ⟨(Nat.le_of_ble_eq_true rfl), (Nat.le_of_ble_eq_true rfl)⟩) (nx1 hk3) (fun _ _ h3 hP => k3_same h3 hP) rfl rfl (Nat.le_of_ble_eq_true rfl) dL_law_453 ⟨show _ ≤ 632096 by omega, show _ ≤ 7205337 by omega⟩ (fun H locs hW => ?_)
  rw [tp3 (by omega)]
  refine lv_aload hx hb dL_law_456 (lv_at hl 3 rfl) ?_
  refine lv_iload hx hb dL_law_458 (lv_at hl 1 rfl) ?_
  refine wl_get3 hC hW (j := k) (v := σ 19 k) rfl (by omega) hfw dL_law_460 ?_
  refine lv_icmp_ne (tgt := 530) hx hb dL_law_461 (by decide) (fun c461 => (absurd rfl c461)) (fun c461 => ?_)
  refine lv_aload hx hb dL_law_464 (lv_at hl 3 rfl) ?_
  refine lv_iload hx hb dL_law_466 (lv_at hl 1 rfl) ?_
  refine wl_get3 hC hW (j := k) (v := σ 19 k) rfl (by omega) hfw dL_law_468 ?_
  refine lv_if_lt (tgt := 485) hx hb dL_law_469 (by decide) (fun c469 => ?_) (fun c469 => ?_)
  · have hm := neg_m1 hok hk c469
    refine lv_aload hx hb dL_law_485 (lv_at hl 3 rfl) ?_
    refine lv_iload hx hb dL_law_487 (lv_at hl 1 rfl) ?_
    refine wl_get3 hC hW (j := k) (v := σ 19 k) rfl (by omega) hfw dL_law_489 ?_
    refine lv_if_ge (tgt := 503) hx hb dL_law_490 (by decide) (fun c490 => (absurd c490 (Int32.not_le.mpr c469))) (fun c490 => ?_)
    refine lv_iload hx hb dL_law_493 (lv_at hl 0 rfl) ?_
    refine lv_aload hx hb dL_law_495 (lv_at hl 7 rfl) ?_
    refine lv_iload hx hb dL_law_497 (lv_at hl 1 rfl) ?_
    refine wl_get2 hC hW (j := k) (v := fa k) rfl (by omega) rfl dL_law_499 ?_
    refine lv_icmp_ne (tgt := 530) hx hb dL_law_500 (by decide) (fun c500 => (absurd (hgo hm) c500)) (fun c500 => ?_)
    refine W.widen (k := cells + 4) (n := slots + 24) (by omega) (by omega) ?_
    exact K H locs ls hW (lv_sub hl [0, 1, 2, 3, 4, 5, 6, 7, 8, 9, 10, 11, 12, 13] rfl)
  · have hm := pos_m1 c469
    have hu := hup hm
    have i1 : (fa k + nI hw).toInt = (fa k).toInt + (hw : Int) := by
      have := nI_toInt (n := hw) (by omega)
      rw [add_i (by omega) (by omega), this]
    refine lv_iload hx hb dL_law_472 (lv_at hl 0 rfl) ?_
    refine lv_aload hx hb dL_law_474 (lv_at hl 7 rfl) ?_
    refine lv_iload hx hb dL_law_476 (lv_at hl 1 rfl) ?_
    refine wl_get2 hC hW (j := k) (v := fa k) rfl (by omega) rfl dL_law_478 ?_
    refine lv_iload hx hb dL_law_479 (lv_at hl 4 rfl) ?_
    refine lv_iadd hx hb dL_law_481 ?_
    refine lv_icmp_lt (tgt := 530) hx hb dL_law_482 (by decide) (fun c482 => (absurd (Int32.lt_iff_toInt_lt.mp c482) (by omega))) (fun c482 => ?_)
    refine lv_aload hx hb dL_law_485 (lv_at hl 3 rfl) ?_
    refine lv_iload hx hb dL_law_487 (lv_at hl 1 rfl) ?_
    refine wl_get3 hC hW (j := k) (v := σ 19 k) rfl (by omega) hfw dL_law_489 ?_
    refine lv_if_ge (tgt := 503) hx hb dL_law_490 (by decide) (fun c490 => ?_) (fun c490 => (absurd (Int32.not_lt.mp c469) c490))
    refine W.widen (k := cells + 4) (n := slots + 24) (by omega) (by omega) ?_
    exact K H locs ls hW (lv_sub hl [0, 1, 2, 3, 4, 5, 6, 7, 8, 9, 10, 11, 12, 13] rfl)
set_option maxHeartbeats 8000000 in
set_option maxRecDepth 100000 in
theorem blk_j {p : Program} {l : Launch} {e : Env} {s : State} {m : MethodId} {args : Array Value} {below : List Frame} {meth : Method} {c : Code} {H : Heap} {locs : List Loc} {cells slots : Nat} {Q : State → Prop} {g : Gg} {B0 x0 c0 c1 c2 c3 c4 b L : Nat} {xs : Nat → Int32} {ret : Option FieldType} {ls : Array Slot} {P R9 N now it : Nat} {fp fr fa : Nat → Int32} {σ : Sg} {pd : Int64} (hl9 : l.stackTraces = false) (hC : Cx p s m args meth c RL cL_law 21 ret g B0) (hX : va_X b L xs s s.heap) (hbB : b < B0) (hL : L ≤ 260) (hP0 : 0 < P) (hP8 : P ≤ 8) (hR0 : 0 < R9) (hR5 : R9 ≤ 5) (hcc : cells + 4 ≤ 632096) (hss : slots + 24 ≤ 7205337) {k hw : Nat} {fw : Nat → Int32} (hn : nt σ ≤ 30) (hk : k < nt σ) (hfw : fw k = σ 19 k) (hLw : Lw σ pd fp fr P R9 N now) (hW : WL g B0 x0 c0 c1 c2 c3 c4 s H locs σ pd (some fp) (some fr) (some fa) (some fw) none) (hl : lv_has ls 21 [(17, .int (σ 21 k)), (16, .int (nI k)), (15, .int (cntP (nt σ) (fun q => ¬ σ 19 q = -1) k)), (14, .ref c3), (13, .int (nI hw)), (8, .int (nI it)), (7, .int (nI now)), (6, .ref c2), (5, .ref c1), (4, .ref c0), (3, .int (nI R9)), (2, .int (nI P)), (1, .ref x0), (0, .ref b)])
    (K : ∀ (H : Heap) (locs : List Loc) (ls : Array Slot), WL g B0 x0 c0 c1 c2 c3 c4 s H locs σ pd (some fp) (some fr) (some (upd fa k (σ 21 k))) (some fw) none → lv_has ls 21 [(18, .int 0), (16, .int (nI k)), (15, .int (cntP (nt σ) (fun q => ¬ σ 19 q = -1) (k + 1))), (14, .ref c3), (13, .int (nI hw)), (8, .int (nI it)), (7, .int (nI now)), (6, .ref c2), (5, .ref c1), (4, .ref c0), (3, .int (nI R9)), (2, .int (nI P)), (1, .ref x0), (0, .ref b)] → W p l e room_1 s m args below meth c H locs (cells + 4) (slots + 24) Q (F0 m 560 ls [])) : W p l e room_1 s m args below meth c H locs cells slots Q (F0 m 503 ls []) := by
  have hx := hC.1.1
  have hb := hC.1.2.1
  have hts := hC.1.2.2.2.2
  obtain ⟨pl0, hok3⟩ := hW.ok
  have hok := hok3.1.1
  obtain ⟨w1, w2, w3, w4, w5, w6, w7⟩ := id hLw
  have h17 := hok.1
  have hk4 : kdPA σ (nI k) 4 = 0 := pa_ok hok hk ⟨by decide, by decide⟩
  have hk0 : kdPA σ (nI k) 0 = 0 := pa_ok hok hk ⟨by decide, by decide⟩
  obtain ⟨hp1, hp2⟩ := hok.2.2.2.2.2.2.1 k hk
  refine lv_aload_n hx hb dL_law_503 rfl (lv_at hl 12 rfl) ?_
  refine lv_iload hx hb dL_law_504 (lv_at hl 1 rfl) ?_
  refine lv_iconst (v := 4) hx hb dL_law_506 (by decide) ?_
  refine wl_call (rest := []) hl9 hC hW hl.1 (fun ad pl sc h3 => tX6_pallet l g B0 ad _ _ pl sc _ (nI k) 4 h3.1) (cw_L_75 hts rfl rfl ⟨(Nat.le_of_ble_eq_true rfl), (Nat.le_of_ble_eq_true rfl)⟩) (nx1 hk4) (fun _ _ h3 hP => k3_same h3 hP) rfl rfl (Nat.le_of_ble_eq_true rfl) dL_law_507 ⟨show _ ≤ 632096 by omega, show _ ≤ 7205337 by omega⟩ (fun H locs hW => ?_)
  rw [tp4 (by omega)]
  refine lv_aload hx hb dL_law_510 (lv_at hl 9 rfl) ?_
  refine lv_iconst (v := 4) hx hb dL_law_512 (by decide) ?_
  refine lv_aload_n hx hb dL_law_513 rfl (lv_at hl 12 rfl) ?_
  refine lv_iload hx hb dL_law_514 (lv_at hl 1 rfl) ?_
  refine lv_iconst (v := 0) hx hb dL_law_516 (by decide) ?_
  refine wl_call (rest := [.int 4, .ref c0, .int (leftS σ k)]) hl9 hC hW hl.1 (fun ad pl sc h3 => tX6_pallet l g B0 ad _ _ pl sc _ (nI k) 0 h3.1) (cw_L_75 hts rfl rfl ⟨(Nat.le_of_ble_eq_true rfl), (Nat.le_of_ble_eq_true rfl)⟩) (nx1 hk0) (fun _ _ h3 hP => k3_same h3 hP) rfl rfl (Nat.le_of_ble_eq_true rfl) dL_law_517 ⟨show _ ≤ 632096 by omega, show _ ≤ 7205337 by omega⟩ (fun H locs hW => ?_)
  rw [tp0 (by omega), hp1]
  refine lv_imul hx hb dL_law_520 ?_
  refine lv_iconst (v := 2) hx hb dL_law_521 (by decide) ?_
  refine lv_iadd hx hb dL_law_522 ?_
  refine wl_get0 hC hW (j := (4 * (prd σ k) + 2)) (v := σ 8 (prd σ k)) (ix4 (prd σ k) 2) (by omega) (w6 _ (by omega)).1 dL_law_523 ?_
  refine lv_iload hx hb dL_law_524 (lv_at hl 0 rfl) ?_
  refine lv_isub hx hb dL_law_526 ?_
  refine lv_icmp_eq (tgt := 532) hx hb dL_law_527 (by decide) (fun c527 => ?_) (fun c527 => (absurd rfl c527))
  refine lv_aload hx hb dL_law_532 (lv_at hl 7 rfl) ?_
  refine lv_iload hx hb dL_law_534 (lv_at hl 1 rfl) ?_
  refine lv_iload hx hb dL_law_536 (lv_at hl 0 rfl) ?_
  refine wl_put2 hC hW (j := k) rfl (by omega) dL_law_538 (fun H locs hW => ?_)
  refine lv_iload hx hb dL_law_539 (lv_at hl 2 rfl) ?_
  refine lv_aload hx hb dL_law_541 (lv_at hl 3 rfl) ?_
  refine lv_iload hx hb dL_law_543 (lv_at hl 1 rfl) ?_
  refine wl_get3 hC hW (j := k) (v := σ 19 k) rfl (by omega) hfw dL_law_545 ?_
  refine lv_if_lt (tgt := 553) hx hb dL_law_546 (by decide) (fun c546 => ?_) (fun c546 => ?_)
  · refine lv_iconst (v := 0) hx hb dL_law_553 (by decide) ?_
    refine lv_iadd hx hb dL_law_554 ?_
    rw [show cntP (nt σ) (fun q => ¬ σ 19 q = -1) k + 0 = cntP (nt σ) (fun q => ¬ σ 19 q = -1) (k + 1) from (Int32.add_zero _).trans (cntP_F (P := fun q => ¬ σ 19 q = -1) (fun z => z.2 (neg_m1 hok hk c546))).symm]
    refine lv_istore (lv' := [(15, .int (cntP (nt σ) (fun q => ¬ σ 19 q = -1) (k + 1))), (17, .int (σ 21 k)), (16, .int (nI k)), (14, .ref c3), (13, .int (nI hw)), (8, .int (nI it)), (7, .int (nI now)), (6, .ref c2), (5, .ref c1), (4, .ref c0), (3, .int (nI R9)), (2, .int (nI P)), (1, .ref x0), (0, .ref b)]) hx hb dL_law_555 hl (by decide) rfl (fun ls hl => ?_)
    refine lv_iconst (v := 0) hx hb dL_law_557 (by decide) ?_
    refine lv_istore (lv' := [(18, .int 0), (15, .int (cntP (nt σ) (fun q => ¬ σ 19 q = -1) (k + 1))), (17, .int (σ 21 k)), (16, .int (nI k)), (14, .ref c3), (13, .int (nI hw)), (8, .int (nI it)), (7, .int (nI now)), (6, .ref c2), (5, .ref c1), (4, .ref c0), (3, .int (nI R9)), (2, .int (nI P)), (1, .ref x0), (0, .ref b)]) hx hb dL_law_558 hl (by decide) rfl (fun ls hl => ?_)
    refine W.widen (k := cells + 4) (n := slots + 24) (by omega) (by omega) ?_
    exact K H locs ls hW (lv_sub hl [0, 3, 1, 4, 5, 6, 7, 8, 9, 10, 11, 12, 13, 14] rfl)
  · refine lv_iconst (v := 1) hx hb dL_law_549 (by decide) ?_
    refine lv_goto (tgt := 554) hx hb dL_law_550 (by decide) ?_
    refine lv_iadd hx hb dL_law_554 ?_
    rw [show cntP (nt σ) (fun q => ¬ σ 19 q = -1) k + 1 = cntP (nt σ) (fun q => ¬ σ 19 q = -1) (k + 1) from (cntP_T (P := fun q => ¬ σ 19 q = -1) ⟨hk, pos_m1 c546⟩).symm]
    refine lv_istore (lv' := [(15, .int (cntP (nt σ) (fun q => ¬ σ 19 q = -1) (k + 1))), (17, .int (σ 21 k)), (16, .int (nI k)), (14, .ref c3), (13, .int (nI hw)), (8, .int (nI it)), (7, .int (nI now)), (6, .ref c2), (5, .ref c1), (4, .ref c0), (3, .int (nI R9)), (2, .int (nI P)), (1, .ref x0), (0, .ref b)]) hx hb dL_law_555 hl (by decide) rfl (fun ls hl => ?_)
    refine lv_iconst (v := 0) hx hb dL_law_557 (by decide) ?_
    refine lv_istore (lv' := [(18, .int 0), (15, .int (cntP (nt σ) (fun q => ¬ σ 19 q = -1) (k + 1))), (17, .int (σ 21 k)), (16, .int (nI k)), (14, .ref c3), (13, .int (nI hw)), (8, .int (nI it)), (7, .int (nI now)), (6, .ref c2), (5, .ref c1), (4, .ref c0), (3, .int (nI R9)), (2, .int (nI P)), (1, .ref x0), (0, .ref b)]) hx hb dL_law_558 hl (by decide) rfl (fun ls hl => ?_)
    refine W.widen (k := cells + 4) (n := slots + 24) (by omega) (by omega) ?_
    exact K H locs ls hW (lv_sub hl [0, 3, 1, 4, 5, 6, 7, 8, 9, 10, 11, 12, 13, 14] rfl)
set_option maxHeartbeats 8000000 in
set_option maxRecDepth 100000 in
theorem go_loop {p : Program} {l : Launch} {e : Env} {s : State} {m : MethodId} {args : Array Value} {below : List Frame} {meth : Method} {c : Code} {cells slots : Nat} {Q : State → Prop} {g : Gg} {B0 x0 c0 c1 c2 c3 c4 b L : Nat} {xs : Nat → Int32} {ret : Option FieldType} {P R9 N now it : Nat} {fp fr fa : Nat → Int32} {σ : Sg} {pd : Int64} (hl9 : l.stackTraces = false) (hC : Cx p s m args meth c RL cL_law 21 ret g B0) (hX : va_X b L xs s s.heap) (hbB : b < B0) (hL : L ≤ 260) (hP0 : 0 < P) (hP8 : P ≤ 8) (hR0 : 0 < R9) (hR5 : R9 ≤ 5) (hcc : cells + 120 ≤ 632096) (hss : slots + 720 ≤ 7205337) {k hw : Nat} {hr : Int32} {fw : Nat → Int32} (hn : nt σ ≤ 30) (hk : k < nt σ) (hfw : ∀ q, q < nt σ → fw q = σ 19 q) (hLw : Lw σ pd fp fr P R9 N now)
    (K : ∀ (H : Heap) (locs : List Loc) (ls : Array Slot), WL g B0 x0 c0 c1 c2 c3 c4 s H locs σ pd (some fp) (some fr) (some fa) (some fw) none → lv_has ls 21 [(16, .int (nI k)), (15, .int hr), (14, .ref c3), (13, .int (nI hw)), (8, .int (nI it)), (7, .int (nI now)), (6, .ref c2), (5, .ref c1), (4, .ref c0), (3, .int (nI R9)), (2, .int (nI P)), (1, .ref x0), (0, .ref b)] → W p l e room_1 s m args below meth c H locs (cells + 120) (slots + 720) Q (F0 m 618 ls [])) :
    ∀ (n i : Nat), i ≤ k → k + 1 ≤ i + n → ∀ (H : Heap) (locs : List Loc), WL g B0 x0 c0 c1 c2 c3 c4 s H locs σ pd (some fp) (some fr) (some fa) (some fw) none → ∀ (ls : Array Slot), lv_has ls 21 [(18, .int (nI i)), (16, .int (nI k)), (15, .int hr), (14, .ref c3), (13, .int (nI hw)), (8, .int (nI it)), (7, .int (nI now)), (6, .ref c2), (5, .ref c1), (4, .ref c0), (3, .int (nI R9)), (2, .int (nI P)), (1, .ref x0), (0, .ref b)] → W p l e room_1 s m args below meth c H locs (cells + 4 * i) (slots + 24 * i) Q (F0 m 560 ls []) := by
  have hx := hC.1.1
  have hb := hC.1.2.1
  have hts := hC.1.2.2.2.2
  intro n
  induction n with
  | zero =>
    intro i hi hfu
    exact absurd hfu (by omega)
  | succ n ih =>
    intro i hi hfu H locs hW ls hl
    obtain ⟨pl0, hok3⟩ := hW.ok
    have hok := hok3.1.1
    obtain ⟨w1, w2, w3, w4, w5, w6, w7⟩ := id hLw
    have h17 := hok.1
    refine lv_iload hx hb dL_law_560 (lv_at hl 0 rfl) ?_
    refine lv_iload hx hb dL_law_562 (lv_at hl 1 rfl) ?_
    refine lv_icmp_ge (tgt := 618) hx hb dL_law_564 (by decide) (fun c564 => ?_) (fun c564 => ?_)
    · have hk2 : k ≤ i := ge_T rfl (by omega) (by omega) c564
      refine W.widen (k := cells + 120) (n := slots + 720) (by omega) (by omega) ?_
      exact K H locs ls hW (lv_sub hl [1, 2, 3, 4, 5, 6, 7, 8, 9, 10, 11, 12, 13] rfl)
    · have hk2 : i < k := ge_F rfl (by omega) (by omega) c564
      refine lv_aload hx hb dL_law_567 (lv_at hl 3 rfl) ?_
      refine lv_iload hx hb dL_law_569 (lv_at hl 1 rfl) ?_
      refine wl_get3 hC hW (j := k) (v := σ 19 k) rfl (by omega) (hfw k hk) dL_law_571 ?_
      refine lv_if_lt (tgt := 612) hx hb dL_law_572 (by decide) (fun c572 => ?_) (fun c572 => ?_)
      · refine lv_iinc (v := nI (i + 1)) (lv' := [(18, .int (nI (i + 1))), (16, .int (nI k)), (15, .int hr), (14, .ref c3), (13, .int (nI hw)), (8, .int (nI it)), (7, .int (nI now)), (6, .ref c2), (5, .ref c1), (4, .ref c0), (3, .int (nI R9)), (2, .int (nI P)), (1, .ref x0), (0, .ref b)]) hx hb dL_law_612 hl (k := 0) rfl (nI_1 _) (by decide) rfl (fun ls hl => ?_)
        refine lv_goto (tgt := 560) hx hb dL_law_615 (by decide) ?_
        refine W.widen (k := cells + 4 * (i + 1)) (n := slots + 24 * (i + 1)) (by omega) (by omega) ?_
        exact ih (i + 1) (by omega) (by omega) _ _ hW ls (lv_sub hl [0, 1, 2, 3, 4, 5, 6, 7, 8, 9, 10, 11, 12, 13] rfl)
      · have hm := pos_m1 c572
        refine lv_aload hx hb dL_law_575 (lv_at hl 3 rfl) ?_
        refine lv_iload hx hb dL_law_577 (lv_at hl 0 rfl) ?_
        refine wl_get3 hC hW (j := i) (v := σ 19 i) rfl (by omega) (hfw i (by omega)) dL_law_579 ?_
        refine lv_aload hx hb dL_law_580 (lv_at hl 3 rfl) ?_
        refine lv_iload hx hb dL_law_582 (lv_at hl 1 rfl) ?_
        refine wl_get3 hC hW (j := k) (v := σ 19 k) rfl (by omega) (hfw k hk) dL_law_584 ?_
        refine lv_icmp_ne (tgt := 612) hx hb dL_law_585 (by decide) (fun c585 => ?_) (fun c585 => ?_)
        · refine lv_iinc (v := nI (i + 1)) (lv' := [(18, .int (nI (i + 1))), (16, .int (nI k)), (15, .int hr), (14, .ref c3), (13, .int (nI hw)), (8, .int (nI it)), (7, .int (nI now)), (6, .ref c2), (5, .ref c1), (4, .ref c0), (3, .int (nI R9)), (2, .int (nI P)), (1, .ref x0), (0, .ref b)]) hx hb dL_law_612 hl (k := 0) rfl (nI_1 _) (by decide) rfl (fun ls hl => ?_)
          refine lv_goto (tgt := 560) hx hb dL_law_615 (by decide) ?_
          refine W.widen (k := cells + 4 * (i + 1)) (n := slots + 24 * (i + 1)) (by omega) (by omega) ?_
          exact ih (i + 1) (by omega) (by omega) _ _ hW ls (lv_sub hl [0, 1, 2, 3, 4, 5, 6, 7, 8, 9, 10, 11, 12, 13] rfl)
        · have hki : kdPA σ (nI i) 0 = 0 := pa_ok hok (by omega) ⟨by decide, by decide⟩
          have hkk : kdPA σ (nI k) 0 = 0 := pa_ok hok hk ⟨by decide, by decide⟩
          obtain ⟨hi1, hi2⟩ := hok.2.2.2.2.2.2.1 i (by omega)
          obtain ⟨hp1, hp2⟩ := hok.2.2.2.2.2.2.1 k hk
          have hgo := w5.2.2.2.2 i k (by omega) hk (fun z => hm (c585.symm.trans z)) c585
          rw [goS, ← (w6 (prd σ i) (by omega)).2, ← (w6 (prd σ k) (by omega)).2] at hgo
          refine lv_aload hx hb dL_law_588 (lv_at hl 9 rfl) ?_
          refine lv_aload_n hx hb dL_law_590 rfl (lv_at hl 12 rfl) ?_
          refine lv_iload hx hb dL_law_591 (lv_at hl 0 rfl) ?_
          refine lv_iconst (v := 0) hx hb dL_law_593 (by decide) ?_
          refine wl_call (rest := [.ref c0]) hl9 hC hW hl.1 (fun ad pl sc h3 => tX6_pallet l g B0 ad _ _ pl sc _ (nI i) 0 h3.1) (cw_L_75 hts rfl rfl ⟨(Nat.le_of_ble_eq_true rfl), (Nat.le_of_ble_eq_true rfl)⟩) (nx1 hki) (fun _ _ h3 hP => k3_same h3 hP) rfl rfl (Nat.le_of_ble_eq_true rfl) dL_law_594 ⟨show _ ≤ 632096 by omega, show _ ≤ 7205337 by omega⟩ (fun H locs hW => ?_)
          rw [tp0 (by omega), hi1]
          refine lv_aload_n hx hb dL_law_597 rfl (lv_at hl 12 rfl) ?_
          refine lv_iload hx hb dL_law_598 (lv_at hl 1 rfl) ?_
          refine lv_iconst (v := 0) hx hb dL_law_600 (by decide) ?_
          refine wl_call (rest := [.int (nI (prd σ i)), .ref c0]) hl9 hC hW hl.1 (fun ad pl sc h3 => tX6_pallet l g B0 ad _ _ pl sc _ (nI k) 0 h3.1) (cw_L_75 hts rfl rfl ⟨(Nat.le_of_ble_eq_true rfl), (Nat.le_of_ble_eq_true rfl)⟩) (nx1 hkk) (fun _ _ h3 hP => k3_same h3 hP) rfl rfl (Nat.le_of_ble_eq_true rfl) dL_law_601 ⟨show _ ≤ 632096 by omega, show _ ≤ 7205337 by omega⟩ (fun H locs hW => ?_)
          rw [tp0 (by omega), hp1]
          refine wl_go (rest := []) hl9 hC hW hl.1 (a := prd σ i) (b := prd σ k) rfl rfl (by omega) (by omega) hgo (cw_L_81 hts rfl rfl ⟨(Nat.le_of_ble_eq_true rfl), (Nat.le_of_ble_eq_true rfl)⟩) (Nat.le_of_ble_eq_true rfl) dL_law_604 ⟨show _ ≤ 632096 by omega, show _ ≤ 7205337 by omega⟩ (fun H locs hW => ?_)
          refine lv_if_ne (tgt := 612) hx hb dL_law_607 (by decide) (fun c607 => ?_) (fun c607 => (absurd c607 (by decide)))
          refine lv_iinc (v := nI (i + 1)) (lv' := [(18, .int (nI (i + 1))), (16, .int (nI k)), (15, .int hr), (14, .ref c3), (13, .int (nI hw)), (8, .int (nI it)), (7, .int (nI now)), (6, .ref c2), (5, .ref c1), (4, .ref c0), (3, .int (nI R9)), (2, .int (nI P)), (1, .ref x0), (0, .ref b)]) hx hb dL_law_612 hl (k := 0) rfl (nI_1 _) (by decide) rfl (fun ls hl => ?_)
          refine lv_goto (tgt := 560) hx hb dL_law_615 (by decide) ?_
          refine W.widen (k := cells + 4 * (i + 1)) (n := slots + 24 * (i + 1)) (by omega) (by omega) ?_
          exact ih (i + 1) (by omega) (by omega) _ _ hW ls (lv_sub hl [0, 1, 2, 3, 4, 5, 6, 7, 8, 9, 10, 11, 12, 13] rfl)
set_option maxHeartbeats 8000000 in
set_option maxRecDepth 100000 in
theorem ages_loop {p : Program} {l : Launch} {e : Env} {s : State} {m : MethodId} {args : Array Value} {below : List Frame} {meth : Method} {c : Code} {cells slots : Nat} {Q : State → Prop} {g : Gg} {B0 x0 c0 c1 c2 c3 c4 b L : Nat} {xs : Nat → Int32} {ret : Option FieldType} {P R9 N now it : Nat} {fp fr fa : Nat → Int32} {σ : Sg} {pd : Int64} (hl9 : l.stackTraces = false) (hC : Cx p s m args meth c RL cL_law 21 ret g B0) (hX : va_X b L xs s s.heap) (hbB : b < B0) (hL : L ≤ 260) (hP0 : 0 < P) (hP8 : P ≤ 8) (hR0 : 0 < R9) (hR5 : R9 ≤ 5) (hcc : cells + 3910 ≤ 632096) (hss : slots + 23460 ≤ 7205337) {hw : Nat} {fw : Nat → Int32} (hn : nt σ ≤ 30) (hw2 : hw ≤ 10) (hfw : ∀ q, q < nt σ → fw q = σ 19 q) (hLw : Lw σ pd fp fr P R9 N now) (hag : ∀ q, q < nt σ → rg (fa q) 0 3000000 ∧ (σ 19 q = -1 → σ 21 q = fa q) ∧ (σ 19 q ≠ -1 → (fa q).toInt + (hw : Int) ≤ (σ 21 q).toInt)) (hrest : ∀ q, nt σ ≤ q → q < 60 → fa q = σ 21 q)
    (K : ∀ (fq : Nat → Int32) (H : Heap) (locs : List Loc) (ls : Array Slot), Ag σ fq → WL g B0 x0 c0 c1 c2 c3 c4 s H locs σ pd (some fp) (some fr) (some fq) (some fw) none → lv_has ls 21 [(15, .int (cntP (nt σ) (fun q => ¬ σ 19 q = -1) (nt σ))), (8, .int (nI it)), (7, .int (nI now)), (6, .ref c2), (5, .ref c1), (4, .ref c0), (3, .int (nI R9)), (2, .int (nI P)), (1, .ref x0), (0, .ref b)] → W p l e room_1 s m args below meth c H locs (cells + 3910) (slots + 23460) Q (F0 m 624 ls [])) :
    ∀ (n k : Nat) (fq : Nat → Int32), k ≤ nt σ → nt σ + 1 ≤ k + n → (∀ q, q < k → fq q = σ 21 q) → (∀ q, k ≤ q → fq q = fa q) → ∀ (H : Heap) (locs : List Loc), WL g B0 x0 c0 c1 c2 c3 c4 s H locs σ pd (some fp) (some fr) (some fq) (some fw) none → ∀ (ls : Array Slot), lv_has ls 21 [(16, .int (nI k)), (15, .int (cntP (nt σ) (fun q => ¬ σ 19 q = -1) k)), (14, .ref c3), (13, .int (nI hw)), (8, .int (nI it)), (7, .int (nI now)), (6, .ref c2), (5, .ref c1), (4, .ref c0), (3, .int (nI R9)), (2, .int (nI P)), (1, .ref x0), (0, .ref b)] → W p l e room_1 s m args below meth c H locs (cells + 130 * k) (slots + 780 * k) Q (F0 m 430 ls []) := by
  have hx := hC.1.1
  have hb := hC.1.2.1
  have hts := hC.1.2.2.2.2
  intro n
  induction n with
  | zero =>
    intro k fq hk hfu
    exact absurd hfu (by omega)
  | succ n ih =>
    intro k fq hk hfu hq1 hq2 H locs hW ls hl
    obtain ⟨pl0, hok3⟩ := hW.ok
    have hok := hok3.1.1
    obtain ⟨w1, w2, w3, w4, w5, w6, w7⟩ := id hLw
    have h17 := hok.1
    refine lv_iload hx hb dL_law_430 (lv_at hl 0 rfl) ?_
    refine lv_aload_n hx hb dL_law_432 rfl (lv_at hl 11 rfl) ?_
    refine lv_iconst (v := 2) hx hb dL_law_433 (by decide) ?_
    refine wl_call (rest := [.int (nI k)]) hl9 hC hW hl.1 (fun ad pl sc h3 => tX6_count l g B0 ad _ _ pl sc _ 2 h3.1) (cw_L_52 hts rfl rfl ⟨(Nat.le_of_ble_eq_true rfl), (Nat.le_of_ble_eq_true rfl)⟩) (nx1 (show kdCO 2 = 0 from rfl)) (fun _ _ h3 hP => k3_same h3 hP) rfl rfl (Nat.le_of_ble_eq_true rfl) dL_law_434 ⟨show _ ≤ 632096 by omega, show _ ≤ 7205337 by omega⟩ (fun H locs hW => ?_)
    refine lv_icmp_ge (tgt := 624) hx hb dL_law_437 (by decide) (fun c437 => ?_) (fun c437 => ?_)
    · have hk2 : nt σ ≤ k := ge_T (show cntS σ 2 = nI (nt σ) from h17) (by omega) (by omega) c437
      have ek : k = nt σ := by omega
      rw [ek] at hl
      have hA : Ag σ fq := fun q hq => by
        by_cases c : q < k
        · exact hq1 q c
        · exact (hq2 q (by omega)).trans (hrest q (by omega) hq)
      refine W.widen (k := cells + 3910) (n := slots + 23460) (by omega) (by omega) ?_
      exact K fq H locs ls hA hW (lv_sub hl [1, 4, 5, 6, 7, 8, 9, 10, 11, 12] rfl)
    · have hk2 : k < nt σ := ge_F (show cntS σ 2 = nI (nt σ) from h17) (by omega) (by omega) c437
      obtain ⟨g1, g2, g3⟩ := hag k hk2
      have efk := hq2 k (Nat.le_refl k)
      refine blk_i (N := N) hl9 hC hX hbB hL hP0 hP8 hR0 hR5 (by omega) (by omega) hn hk2 hw2 (hfw k hk2) (by rw [efk]; exact g1) (by rw [efk]; exact g2) (by rw [efk]; exact g3) hW hl (fun H locs ls hW hl => ?_)
      refine blk_j (N := N) hl9 hC hX hbB hL hP0 hP8 hR0 hR5 (by omega) (by omega) hn hk2 (hfw k hk2) hLw hW hl (fun H locs ls hW hl => ?_)
      refine go_loop (N := N) hl9 hC hX hbB hL hP0 hP8 hR0 hR5 (cells := cells + 130 * k + 1 + 4 + 4) (slots := slots + 780 * k + 6 + 24 + 24) (by omega) (by omega) hn hk2 hfw hLw (fun H locs ls hW hl => ?_) (k + 1) 0 (Nat.zero_le k) (by omega) H locs hW ls hl
      refine lv_iinc (v := nI (k + 1)) (lv' := [(16, .int (nI (k + 1))), (15, .int (cntP (nt σ) (fun q => ¬ σ 19 q = -1) (k + 1))), (14, .ref c3), (13, .int (nI hw)), (8, .int (nI it)), (7, .int (nI now)), (6, .ref c2), (5, .ref c1), (4, .ref c0), (3, .int (nI R9)), (2, .int (nI P)), (1, .ref x0), (0, .ref b)]) hx hb dL_law_618 hl (k := 0) rfl (nI_1 _) (by decide) rfl (fun ls hl => ?_)
      refine lv_goto (tgt := 430) hx hb dL_law_621 (by decide) ?_
      refine W.widen (k := cells + 130 * (k + 1)) (n := slots + 780 * (k + 1)) (by omega) (by omega) ?_
      refine ih (k + 1) _ (by omega) (by omega) (fun q hq => ?_) (fun q hq => ?_) H locs hW ls hl
      · by_cases c : q = k
        · subst c
          exact upd_s _ _ _
        · exact (upd_n _ _ c).trans (hq1 q (by omega))
      · exact (upd_n _ _ (by omega)).trans (hq2 q (by omega))
