/-! THE LAW: its loop -/
section LAWL
variable {p : Program} {l : Launch} {e : Env} {s : State} {m : MethodId} {args : Array Value} {below : List Frame} {meth : Method} {c : Code} {Q : State → Prop}
variable {g : Gg} {B0 : Nat} {ret : Option FieldType} {b L : Nat} {xs : Nat → Int32}
set_option maxHeartbeats 4000000 in
set_option maxRecDepth 100000 in
theorem law_loop (hl9 : l.stackTraces = false) (hC : Cx p s m args meth c RL cL_law 9 ret g B0) (hX : va_X b L xs s s.heap) (hbl : b < s.heap.size) (hbA : ¬ B0 ≤ b) (hL : L ≤ 2560) {x0 m0 o0 d0 : Nat}
    (fin : ∀ (H : Heap) (locs : List Loc) (ls : Array Slot), va_S (fun q => B0 ≤ q) s.heap H locs → W p l e room_1 s m args below meth c H locs 601024 7293034 Q (F0 m 1641 ls [])) : ∀ (r k : Nat), k ≤ L → L < k + 5 * r → ∀ (H : Heap) (locs : List Loc) (ls : Array Slot), lwS g B0 x0 m0 o0 d0 s H locs → lv_has ls 9 (lv5 b x0 m0 o0 d0 (nI k)) → W p l e room_1 s m args below meth c H locs (100 + 10 * k) (1000 + 80 * k) Q (F0 m 28 ls []) := by
  have hx := hC.1.1
  have hb := hC.1.2.1
  intro r
  induction r with
  | zero =>
    intro k h1 h2
    exact absurd h2 (by omega)
  | succ r ih =>
    intro k h1 h2 H locs ls hLS hl
    have hS : va_S (fun q => B0 ≤ q) s.heap H locs := by
      obtain ⟨kd0, ad, σ, pd, pl, sc, o, od, hI, -⟩ := id hLS
      exact hI.2.2
    refine lv_iload hx hb dL_law_28 (lv_at hl 5 rfl) ?_
    refine lv_aload_n hx hb dL_law_30 rfl (lv_at hl 0 rfl) ?_
    refine va_slen (A := fun q => B0 ≤ q) hx hb hX hbl hbA hS dL_law_31 ?_
    refine lv_iconst (v := 5) hx hb dL_law_32 (by decide) ?_
    refine lv_isub hx hb dL_law_33 ?_
    have eL : (Int32.ofNat L).toInt = L := nI_toInt (n := L) (by omega)
    have e5 : (5 : Int32).toInt = 5 := rfl
    have eS : (Int32.ofNat L - 5).toInt = (L : Int) - 5 := by rw [sub_i (by omega) (by omega), eL, e5]
    have eK : (nI k).toInt = k := nI_toInt (by omega)
    refine lv_icmp_gt (tgt := 1641) hx hb dL_law_34 (by decide) (fun c34 => ?_) (fun c34 => ?_)
    · refine W.widen (k := 601024) (n := 7293034) (by omega) (by omega) ?_
      exact fin H locs ls hS
    · have hk4 : k + 4 < L := by
        rw [Int32.lt_iff_toInt_lt] at c34
        omega
      refine lv_aload_n hx hb dL_law_37 rfl (lv_at hl 0 rfl) ?_
      refine lv_iload hx hb dL_law_38 (lv_at hl 5 rfl) ?_
      refine va_sld (A := fun q => B0 ≤ q) hx hb hX hbl hbA hS (vp_in_nI (show k < L by omega) (by omega)) dL_law_40 ?_
      refine lv_bipush (v := 31) hx hb dL_law_41 (by decide) ?_
      refine lv_iand hx hb dL_law_43 ?_
      obtain ⟨j, hj, ej⟩ := pk_andE (xs (nI k).toNatClampNeg) (m := 31) 5 (by decide)
      rw [ej]
      have K : ∀ (H : Heap) (locs : List Loc) (ls : Array Slot), lwS g B0 x0 m0 o0 d0 s H locs → lv_has ls 9 (lv5 b x0 m0 o0 d0 (nI k)) → W p l e room_1 s m args below meth c H locs (100 + 10 * (k + 5)) (1000 + 80 * (k + 5)) Q (F0 m 1635 ls []) := by
        intro H locs ls hLS hl
        refine lv_iinc (v := nI (k + 5)) (lv' := (5, .int (nI (k + 5))) :: [(0, .ref b), (1, .ref x0), (2, .ref m0), (3, .ref o0), (4, .ref d0)]) hx hb dL_law_1635 hl (k := 5) rfl (nI_add _ 5) (by decide) rfl (fun ls hl => ?_)
        refine lv_goto (tgt := 28) hx hb dL_law_1638 (by decide) ?_
        exact ih (k + 5) (by omega) (by omega) H locs ls hLS (lv_sub hl [1, 2, 3, 4, 5, 0] rfl)
      have hc : 100 + 10 * k + 50 ≤ 100 + 10 * (k + 5) := by omega
      have hs : 1000 + 80 * k + 400 ≤ 1000 + 80 * (k + 5) := by omega
      have hc9 : 100 + 10 * (k + 5) ≤ room_1.cells := Nat.le_trans (show 100 + 10 * (k + 5) ≤ 25700 by omega) (Nat.le_of_ble_eq_true rfl)
      have hs9 : 1000 + 80 * (k + 5) ≤ room_1.slots := Nat.le_trans (show 1000 + 80 * (k + 5) ≤ 206000 by omega) (Nat.le_of_ble_eq_true rfl)
      by_cases hj24 : j < 24
      · match j, hj24 with
        | 0, _ => exact lv_tableIn (off := 112) (tgt := 156) hx hb dL_law_44 (by decide) (by decide) rfl (by decide) (cs_setOutside hl9 hC hX hbl hbA hL hk4 hc hs hc9 hs9 K hLS hl)
        | 1, _ => exact lv_tableIn (off := 180) (tgt := 224) hx hb dL_law_44 (by decide) (by decide) rfl (by decide) (cs_outside hl9 hC hX hbl hbA hL hk4 hc hs hc9 hs9 K hLS hl)
        | 2, _ => exact lv_tableIn (off := 236) (tgt := 280) hx hb dL_law_44 (by decide) (by decide) rfl (by decide) (cs_setPrice hl9 hC hX hbl hbA hL hk4 hc hs hc9 hs9 K hLS hl)
        | 3, _ => exact lv_tableIn (off := 316) (tgt := 360) hx hb dL_law_44 (by decide) (by decide) rfl (by decide) (cs_addProduct hl9 hC hX hbl hbA hL hk4 hc hs hc9 hs9 K hLS hl)
        | 4, _ => exact lv_tableIn (off := 408) (tgt := 452) hx hb dL_law_44 (by decide) (by decide) rfl (by decide) (cs_addRoom hl9 hC hX hbl hbA hL hk4 hc hs hc9 hs9 K hLS hl)
        | 5, _ => exact lv_tableIn (off := 500) (tgt := 544) hx hb dL_law_44 (by decide) (by decide) rfl (by decide) (cs_setRoom hl9 hC hX hbl hbA hL hk4 hc hs hc9 hs9 K hLS hl)
        | 6, _ => exact lv_tableIn (off := 596) (tgt := 640) hx hb dL_law_44 (by decide) (by decide) rfl (by decide) (cs_defrost hl9 hC hX hbl hbA hL hk4 hc hs hc9 hs9 K hLS hl)
        | 7, _ => exact lv_tableIn (off := 652) (tgt := 696) hx hb dL_law_44 (by decide) (by decide) rfl (by decide) (cs_room hl9 hC hX hbl hbA hL hk4 hc hs hc9 hs9 K hLS hl)
        | 8, _ => exact lv_tableIn (off := 720) (tgt := 764) hx hb dL_law_44 (by decide) (by decide) rfl (by decide) (cs_reason hl9 hC hX hbl hbA hL hk4 hc hs hc9 hs9 K hLS hl)
        | 9, _ => exact lv_tableIn (off := 788) (tgt := 832) hx hb dL_law_44 (by decide) (by decide) rfl (by decide) (cs_arrive hl9 hC hX hbl hbA hL hk4 hc hs hc9 hs9 K hLS hl)
        | 10, _ => exact lv_tableIn (off := 868) (tgt := 912) hx hb dL_law_44 (by decide) (by decide) rfl (by decide) (cs_move hl9 hC hX hbl hbA hL hk4 hc hs hc9 hs9 K hLS hl)
        | 11, _ => exact lv_tableIn (off := 936) (tgt := 980) hx hb dL_law_44 (by decide) (by decide) rfl (by decide) (cs_pallet hl9 hC hX hbl hbA hL hk4 hc hs hc9 hs9 K hLS hl)
        | 12, _ => exact lv_tableIn (off := 1004) (tgt := 1048) hx hb dL_law_44 (by decide) (by decide) rfl (by decide) (cs_bestRoom hl9 hC hX hbl hbA hL hk4 hc hs hc9 hs9 K hLS hl)
        | 13, _ => exact lv_tableIn (off := 1060) (tgt := 1104) hx hb dL_law_44 (by decide) (by decide) rfl (by decide) (cs_ship hl9 hC hX hbl hbA hL hk4 hc hs hc9 hs9 K hLS hl)
        | 14, _ => exact lv_tableIn (off := 1140) (tgt := 1184) hx hb dL_law_44 (by decide) (by decide) rfl (by decide) (cs_clear hl9 hC hX hbl hbA hL hk4 hc hs hc9 hs9 K hLS hl)
        | 15, _ => exact lv_tableIn (off := 1153) (tgt := 1197) hx hb dL_law_44 (by decide) (by decide) rfl (by decide) (cs_stock hl9 hC hX hbl hbA hL hk4 hc hs hc9 hs9 K hLS hl)
        | 16, _ => exact lv_tableIn (off := 1237) (tgt := 1281) hx hb dL_law_44 (by decide) (by decide) rfl (by decide) (cs_count hl9 hC hX hbl hbA hL hk4 hc hs hc9 hs9 K hLS hl)
        | 17, _ => exact lv_tableIn (off := 1293) (tgt := 1337) hx hb dL_law_44 (by decide) (by decide) rfl (by decide) (cs_tick hl9 hC hX hbl hbA hL hk4 hc hs hc9 hs9 K hLS hl)
        | 18, _ => exact lv_tableIn (off := 1349) (tgt := 1393) hx hb dL_law_44 (by decide) (by decide) rfl (by decide) (cs_foretell hl9 hC hX hbl hbA hL hk4 hc hs hc9 hs9 K hLS hl)
        | 19, _ => exact lv_tableIn (off := 1417) (tgt := 1461) hx hb dL_law_44 (by decide) (by decide) rfl (by decide) (cs_lasts hl9 hC hX hbl hbA hL hk4 hc hs hc9 hs9 K hLS hl)
        | 20, _ => exact lv_tableIn (off := 1473) (tgt := 1517) hx hb dL_law_44 (by decide) (by decide) rfl (by decide) (cs_now hl9 hC hX hbl hbA hL hk4 hc hs hc9 hs9 K hLS hl)
        | 21, _ => exact lv_tableIn (off := 1486) (tgt := 1530) hx hb dL_law_44 (by decide) (by decide) rfl (by decide) (cs_paid hl9 hC hX hbl hbA hL hk4 hc hs hc9 hs9 K hLS hl)
        | 22, _ => exact lv_tableIn (off := 1500) (tgt := 1544) hx hb dL_law_44 (by decide) (by decide) rfl (by decide) (cs_freshness hl9 hC hX hbl hbA hL hk4 hc hs hc9 hs9 K hLS hl)
        | 23, _ => exact lv_tableIn (off := 1577) (tgt := 1621) hx hb dL_law_44 (by decide) (by decide) rfl (by decide) (cs_digest hl9 hC hX hbl hbA hL hk4 hc hs hc9 hs9 K hLS hl)
        | j + 24, h24 => exact absurd h24 (by omega)
      · have e1 : (nI j).toInt = j := nI_toInt (by omega)
        refine lv_tableOut (tgt := 1635) hx hb dL_law_44 (Or.inr (by rw [e1]; omega)) (by decide) ?_
        refine W.widen (k := 100 + 10 * (k + 5)) (n := 1000 + 80 * (k + 5)) (by omega) (by omega) ?_
        exact K H locs ls hLS hl
end LAWL
