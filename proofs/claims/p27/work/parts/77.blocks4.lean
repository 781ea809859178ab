/-! THE LAW'S ROUND, fourth part: the rooms, and what is paid -/
def enL (σ : Sg) : Nat → Int64
  | 0 => 0
  | k + 1 => enL σ k + (σ 16 (6 * k + 4)).toInt64
theorem enL_i {σ : Sg} {y : Int} (hy : y ≤ 1000000) : ∀ k : Nat, k ≤ 6 → (∀ r, r < k → 0 ≤ eS σ r ∧ eS σ r ≤ y) → (enL σ k).toInt = eSum σ k
  | 0, _, _ => rfl
  | k + 1, hk, h => by
    have ih := enL_i hy k (by omega) (fun r hr => h r (by omega))
    have hb := eSum_rg (σ := σ) (y := 1000000) k (fun r hr => by have := h r (by omega); constructor <;> omega)
    have h1 := h k (by omega)
    have hb2 : (k : Int) * 1000000 ≤ 6000000 := by omega
    show (enL σ k + (σ 16 (6 * k + 4)).toInt64).toInt = eSum σ k + eS σ k
    rw [Int64.toInt_add, Int32.toInt_toInt64, ih]
    unfold eS at h1 ⊢
    rw [Int.bmod_eq_of_le (by omega) (by omega)]
theorem mulL_i {c x : Int64} {a y : Int} (hc : c.toInt = a) (ha : 0 ≤ a ∧ a ≤ 100) (hx : x.toInt = y) (hy : 0 ≤ y ∧ y ≤ 10000000) : (c * x).toInt = a * y := by
  have h1 : a * y ≤ 100 * 10000000 := Int.mul_le_mul ha.2 hy.2 hy.1 (by decide)
  have h2 : 0 ≤ a * y := Int.mul_nonneg ha.1 hy.1
  obtain ⟨z, hz⟩ : ∃ z, z = a * y := ⟨_, rfl⟩
  rw [← hz] at h1 h2 ⊢
  rw [Int64.toInt_mul, hc, hx, ← hz]
  exact Int.bmod_eq_of_le (by omega) (by omega)
theorem cmp_ge {x y : Int64} (h : y.toInt ≤ x.toInt) : ¬ lg_cmp x y < 0 := Int32.not_lt.mpr ((lg_cmp_ge x y).mpr (Int64.le_iff_toInt_le.mpr h))
theorem cmp_le {x y : Int64} (h : x.toInt ≤ y.toInt) : ¬ 0 < lg_cmp x y := by
  unfold lg_cmp
  rw [if_neg (fun z : x > y => by have := Int64.lt_iff_toInt_lt.mp z; omega)]
  split <;> decide
theorem fpC_in (pl : Pl) (r : Nat) : ∀ n : Nat, ∃ j : Nat, j ≤ n ∧ fpC pl r n = nI j
  | 0 => ⟨0, Nat.le_refl 0, rfl⟩
  | n + 1 => by
    obtain ⟨j, h1, h2⟩ := fpC_in pl r n
    cases hq : pl r n with
    | none => exact ⟨j + 1, by omega, by rw [fpC_N hq, h2, nI_1]⟩
    | some q => exact ⟨j, by omega, by rw [fpC_S hq, h2]⟩
theorem free_in {σ : Sg} {pl : Pl} (hok : OkP σ) (hP : PlOk σ pl) (hR : Rg σ) {r : Nat} (hr : r < nr σ) : ¬ freeS σ r < 0 ∧ ¬ σ 11 r < freeS σ r := by
  have h1 := (hR.2.1 r hr).1
  obtain ⟨e11, h20⟩ := rg_nI (x := σ 11 r) (n := 20) ⟨by omega, by omega⟩ (by decide)
  obtain ⟨j, hj, ej⟩ := fpC_in pl r (cN (σ 11 r))
  have ef := hP.free hr (by have := hok.2.2.2.1; omega) e11
  rw [ej] at ef
  rw [← ef]
  refine ⟨Int32.not_lt.mpr (nI_nn (by omega)), Int32.not_lt.mpr ?_⟩
  rw [e11]
  exact (nI_leI (by omega) (by omega)).mpr hj
theorem here_sum {σ : Sg} : ∀ n : Nat, n ≤ nt σ → sumJ (fun q => if ¬ σ 19 q = -1 then 1 else 0) n = cntP (nt σ) (fun q => ¬ σ 19 q = -1) n
  | 0, _ => rfl
  | n + 1, hn => by
    show sumJ (fun q => if ¬ σ 19 q = -1 then 1 else 0) n + (if ¬ σ 19 n = -1 then 1 else 0) = _
    rw [here_sum n (by omega)]
    by_cases c : σ 19 n = -1
    · rw [if_neg (fun z => z c), cntP_F (P := fun q => ¬ σ 19 q = -1) (fun z => z.2 c), Int32.add_zero]
    · rw [if_pos c, cntP_T (P := fun q => ¬ σ 19 q = -1) ⟨by omega, c⟩]
theorem free_sum {σ : Sg} (hok : OkP σ) : sumJ (σ 11) (nr σ) - sumJ (fun r => freeS σ r) (nr σ) = cntP (nt σ) (fun q => ¬ σ 19 q = -1) (nt σ) := by
  have h6 := hok.2.2.2.1
  have e1 : sumJ (fun r => freeS σ r) (nr σ) + sumJ (fun r => sumJ (fun q => if σ 19 q = nI r then 1 else 0) (nt σ)) (nr σ) = sumJ (σ 11) (nr σ) := by
    rw [← sumJ_add]
    refine sumJ_congr _ (fun r _ => ?_)
    show freeAt σ r (nt σ) + _ = σ 11 r
    rw [freeAt_sum]
    exact Int32.sub_add_cancel _ _
  rw [← e1, Int32.add_comm, Int32.add_sub_cancel, sumJ_comm (fun r q => if σ 19 q = nI r then 1 else 0) (nt σ) (nr σ), ← here_sum (nt σ) (Nat.le_refl _)]
  refine sumJ_congr _ (fun q hq => ?_)
  by_cases c : σ 19 q = -1
  · rw [if_neg (fun z => z c)]
    refine (sumJ_congr (G := fun _ => 0) (nr σ) (fun r hr => if_neg (fun z => ?_))).trans (sumJ_zero (nr σ))
    exact nI6_ne (r := r) (by omega) (z.symm.trans c)
  · obtain ⟨e, hr⟩ := hok.2.2.2.2.2.2.2 q hq c
    rw [if_pos c, sumJ_one (i := rmo σ q) (nr σ) hr (fun r hr2 hne => if_neg (fun z => hne ((nI_eq (by omega) (by omega)).mp (z.symm.trans e)))), if_pos e]
theorem tr2 {σ : Sg} {k : Nat} (hk : k < 1000) : toldR σ (cN (nI k)) (cN 2) = σ 16 (6 * k + 1) := by
  rw [cN_nI (show k < 2 ^ 31 by omega)]
  rfl
theorem tr4 {σ : Sg} {k : Nat} (hk : k < 1000) : toldR σ (cN (nI k)) (cN 4) = freeS σ k := by
  rw [cN_nI (show k < 2 ^ 31 by omega)]
  rfl
theorem tr5 {σ : Sg} {k : Nat} (hk : k < 1000) : toldR σ (cN (nI k)) (cN 5) = σ 16 (6 * k + 4) := by
  rw [cN_nI (show k < 2 ^ 31 by omega)]
  rfl
theorem tr6 {σ : Sg} {k : Nat} (hk : k < 1000) : toldR σ (cN (nI k)) (cN 6) = σ 16 (6 * k + 5) := by
  rw [cN_nI (show k < 2 ^ 31 by omega)]
  rfl
set_option maxHeartbeats 8000000 in
set_option maxRecDepth 100000 in
theorem rooms7_loop {p : Program} {l : Launch} {e : Env} {s : State} {m : MethodId} {args : Array Value} {below : List Frame} {meth : Method} {c : Code} {cells slots : Nat} {Q : State → Prop} {g : Gg} {B0 x0 c0 c1 c2 c3 c4 b L : Nat} {xs : Nat → Int32} {ret : Option FieldType} {P R9 N now it : Nat} {fp fr fa : Nat → Int32} {σ : Sg} {pd : Int64} (hl9 : l.stackTraces = false) (hC : Cx p s m args meth c RL cL_law 21 ret g B0) (hX : va_X b L xs s s.heap) (hbB : b < B0) (hL : L ≤ 260) (hP0 : 0 < P) (hP8 : P ≤ 8) (hR0 : 0 < R9) (hR5 : R9 ≤ 5) (hcc : cells + 70 ≤ 632096) (hss : slots + 420 ≤ 7205337) {fw : Nat → Int32} (hnow : now ≤ 400) (hLw : Lw σ pd fp fr P R9 N now)
    (K : ∀ (H : Heap) (locs : List Loc) (ls : Array Slot), WL g B0 x0 c0 c1 c2 c3 c4 s H locs σ pd (some fp) (some fr) (some fa) (some fw) none → lv_has ls 21 [(19, .int (sumJ (σ 11) R9)), (18, .int (sumJ (fun r => freeS σ r) R9)), (16, .long (enL σ R9)), (15, .int (cntP (nt σ) (fun q => ¬ σ 19 q = -1) (nt σ))), (8, .int (nI it)), (7, .int (nI now)), (6, .ref c2), (5, .ref c1), (4, .ref c0), (3, .int (nI R9)), (2, .int (nI P)), (1, .ref x0), (0, .ref b)] → W p l e room_1 s m args below meth c H locs (cells + 70) (slots + 420) Q (F0 m 749 ls [])) :
    ∀ (n k : Nat), k ≤ R9 → R9 + 1 ≤ k + n → ∀ (H : Heap) (locs : List Loc), WL g B0 x0 c0 c1 c2 c3 c4 s H locs σ pd (some fp) (some fr) (some fa) (some fw) none → ∀ (ls : Array Slot), lv_has ls 21 [(20, .int (nI k)), (19, .int (sumJ (σ 11) k)), (18, .int (sumJ (fun r => freeS σ r) k)), (16, .long (enL σ k)), (15, .int (cntP (nt σ) (fun q => ¬ σ 19 q = -1) (nt σ))), (8, .int (nI it)), (7, .int (nI now)), (6, .ref c2), (5, .ref c1), (4, .ref c0), (3, .int (nI R9)), (2, .int (nI P)), (1, .ref x0), (0, .ref b)] → W p l e room_1 s m args below meth c H locs (cells + 14 * k) (slots + 84 * k) Q (F0 m 636 ls []) := by
  have hx := hC.1.1
  have hb := hC.1.2.1
  have hts := hC.1.2.2.2.2
  intro n
  induction n with
  | zero =>
    intro k hk hfu
    exact absurd hfu (by omega)
  | succ n ih =>
    intro k hk hfu H locs hW ls hl
    obtain ⟨pl0, hok3⟩ := hW.ok
    have hok := hok3.1.1
    obtain ⟨w1, w2, w3, w4, w5, w6, w7⟩ := id hLw
    have h17 := hok.1
    refine lv_iload hx hb dL_law_636 (lv_at hl 0 rfl) ?_
    refine lv_iload_n hx hb dL_law_638 rfl (lv_at hl 10 rfl) ?_
    refine lv_icmp_ge (tgt := 749) hx hb dL_law_639 (by decide) (fun c639 => ?_) (fun c639 => ?_)
    · have hk2 : R9 ≤ k := ge_T rfl (by omega) (by omega) c639
      obtain rfl : k = R9 := by omega
      refine W.widen (k := cells + 70) (n := slots + 420) (by omega) (by omega) ?_
      exact K H locs ls hW (lv_sub hl [1, 2, 3, 4, 5, 6, 7, 8, 9, 10, 11, 12, 13] rfl)
    · have hk2 : k < R9 := ge_F rfl (by omega) (by omega) c639
      have hk4 : kdRO σ (nI k) 4 = 0 := ro_ok hok (by omega) ⟨by decide, by decide⟩
      have hk2x : kdRO σ (nI k) 2 = 0 := ro_ok hok (by omega) ⟨by decide, by decide⟩
      have hk6 : kdRO σ (nI k) 6 = 0 := ro_ok hok (by omega) ⟨by decide, by decide⟩
      have hk5 : kdRO σ (nI k) 5 = 0 := ro_ok hok (by omega) ⟨by decide, by decide⟩
      obtain ⟨hf1, hf2⟩ := free_in hok hok3.1.2.1 hok3.1.2.2.1 (show k < nr σ by omega)
      have hfro := (hok3.1.2.2.1.2.1 k (by omega)).2.2.2.2.2
      have hwa := w5.2.1 k (by omega)
      rw [if_neg (Nat.not_lt_zero k)] at hwa
      have z90 : (90 : Int32).toInt = 90 := rfl
      have z0 : (0 : Int32).toInt = 0 := rfl
      have zn : (nI now).toInt = (now : Int) := nI_toInt (by omega)
      refine lv_aload_n hx hb dL_law_642 rfl (lv_at hl 12 rfl) ?_
      refine lv_iload hx hb dL_law_643 (lv_at hl 0 rfl) ?_
      refine lv_iconst (v := 4) hx hb dL_law_645 (by decide) ?_
      refine wl_call (rest := []) hl9 hC hW hl.1 (fun ad pl sc h3 => tX6_room l g B0 ad _ _ pl sc _ (nI k) 4 h3.1) (cw_L_58 hts rfl rfl ⟨(Nat.le_of_ble_eq_true rfl), (Nat.le_of_ble_eq_true rfl)⟩) (nx1 hk4) (fun _ _ h3 hP => k3_same h3 hP) rfl rfl (Nat.le_of_ble_eq_true rfl) dL_law_646 ⟨show _ ≤ 632096 by omega, show _ ≤ 7205337 by omega⟩ (fun H locs hW => ?_)
      rw [tr4 (by omega)]
      refine lv_if_lt (tgt := 704) hx hb dL_law_649 (by decide) (fun c649 => (absurd c649 hf1)) (fun c649 => ?_)
      refine lv_aload_n hx hb dL_law_652 rfl (lv_at hl 12 rfl) ?_
      refine lv_iload hx hb dL_law_653 (lv_at hl 0 rfl) ?_
      refine lv_iconst (v := 4) hx hb dL_law_655 (by decide) ?_
      refine wl_call (rest := []) hl9 hC hW hl.1 (fun ad pl sc h3 => tX6_room l g B0 ad _ _ pl sc _ (nI k) 4 h3.1) (cw_L_58 hts rfl rfl ⟨(Nat.le_of_ble_eq_true rfl), (Nat.le_of_ble_eq_true rfl)⟩) (nx1 hk4) (fun _ _ h3 hP => k3_same h3 hP) rfl rfl (Nat.le_of_ble_eq_true rfl) dL_law_656 ⟨show _ ≤ 632096 by omega, show _ ≤ 7205337 by omega⟩ (fun H locs hW => ?_)
      rw [tr4 (by omega)]
      refine lv_aload hx hb dL_law_659 (lv_at hl 8 rfl) ?_
      refine lv_iconst (v := 4) hx hb dL_law_661 (by decide) ?_
      refine lv_iload hx hb dL_law_662 (lv_at hl 0 rfl) ?_
      refine lv_imul hx hb dL_law_664 ?_
      refine wl_get1 hC hW (j := (4 * k)) (v := σ 11 k) (pk_mul 4 k) (by omega) (w7 k (by omega)) dL_law_665 ?_
      refine lv_icmp_gt (tgt := 704) hx hb dL_law_666 (by decide) (fun c666 => (absurd c666 hf2)) (fun c666 => ?_)
      refine lv_aload_n hx hb dL_law_669 rfl (lv_at hl 12 rfl) ?_
      refine lv_iload hx hb dL_law_670 (lv_at hl 0 rfl) ?_
      refine lv_iconst (v := 2) hx hb dL_law_672 (by decide) ?_
      refine wl_call (rest := []) hl9 hC hW hl.1 (fun ad pl sc h3 => tX6_room l g B0 ad _ _ pl sc _ (nI k) 2 h3.1) (cw_L_58 hts rfl rfl ⟨(Nat.le_of_ble_eq_true rfl), (Nat.le_of_ble_eq_true rfl)⟩) (nx1 hk2x) (fun _ _ h3 hP => k3_same h3 hP) rfl rfl (Nat.le_of_ble_eq_true rfl) dL_law_673 ⟨show _ ≤ 632096 by omega, show _ ≤ 7205337 by omega⟩ (fun H locs hW => ?_)
      rw [tr2 (by omega)]
      refine lv_if_lt (tgt := 704) hx hb dL_law_676 (by decide) (fun c676 => (absurd (Int32.lt_iff_toInt_lt.mp c676) (by omega))) (fun c676 => ?_)
      refine lv_aload_n hx hb dL_law_679 rfl (lv_at hl 12 rfl) ?_
      refine lv_iload hx hb dL_law_680 (lv_at hl 0 rfl) ?_
      refine lv_iconst (v := 2) hx hb dL_law_682 (by decide) ?_
      refine wl_call (rest := []) hl9 hC hW hl.1 (fun ad pl sc h3 => tX6_room l g B0 ad _ _ pl sc _ (nI k) 2 h3.1) (cw_L_58 hts rfl rfl ⟨(Nat.le_of_ble_eq_true rfl), (Nat.le_of_ble_eq_true rfl)⟩) (nx1 hk2x) (fun _ _ h3 hP => k3_same h3 hP) rfl rfl (Nat.le_of_ble_eq_true rfl) dL_law_683 ⟨show _ ≤ 632096 by omega, show _ ≤ 7205337 by omega⟩ (fun H locs hW => ?_)
      rw [tr2 (by omega)]
      refine lv_bipush (v := 90) hx hb dL_law_686 (by decide) ?_
      refine lv_icmp_gt (tgt := 704) hx hb dL_law_688 (by decide) (fun c688 => (absurd (Int32.lt_iff_toInt_lt.mp c688) (by omega))) (fun c688 => ?_)
      refine lv_aload_n hx hb dL_law_691 rfl (lv_at hl 12 rfl) ?_
      refine lv_iload hx hb dL_law_692 (lv_at hl 0 rfl) ?_
      refine lv_bipush (v := 6) hx hb dL_law_694 (by decide) ?_
      refine wl_call (rest := []) hl9 hC hW hl.1 (fun ad pl sc h3 => tX6_room l g B0 ad _ _ pl sc _ (nI k) 6 h3.1) (cw_L_58 hts rfl rfl ⟨(Nat.le_of_ble_eq_true rfl), (Nat.le_of_ble_eq_true rfl)⟩) (nx1 hk6) (fun _ _ h3 hP => k3_same h3 hP) rfl rfl (Nat.le_of_ble_eq_true rfl) dL_law_696 ⟨show _ ≤ 632096 by omega, show _ ≤ 7205337 by omega⟩ (fun H locs hW => ?_)
      rw [tr6 (by omega)]
      refine lv_iload hx hb dL_law_699 (lv_at hl 6 rfl) ?_
      refine lv_icmp_le (tgt := 706) hx hb dL_law_701 (by decide) (fun c701 => ?_) (fun c701 => (absurd (Int32.le_iff_toInt_le.mpr (by omega)) c701))
      refine lv_iload hx hb dL_law_706 (lv_at hl 2 rfl) ?_
      refine lv_aload_n hx hb dL_law_708 rfl (lv_at hl 12 rfl) ?_
      refine lv_iload hx hb dL_law_709 (lv_at hl 0 rfl) ?_
      refine lv_iconst (v := 4) hx hb dL_law_711 (by decide) ?_
      refine wl_call (rest := [.int (sumJ (fun r => freeS σ r) k)]) hl9 hC hW hl.1 (fun ad pl sc h3 => tX6_room l g B0 ad _ _ pl sc _ (nI k) 4 h3.1) (cw_L_58 hts rfl rfl ⟨(Nat.le_of_ble_eq_true rfl), (Nat.le_of_ble_eq_true rfl)⟩) (nx1 hk4) (fun _ _ h3 hP => k3_same h3 hP) rfl rfl (Nat.le_of_ble_eq_true rfl) dL_law_712 ⟨show _ ≤ 632096 by omega, show _ ≤ 7205337 by omega⟩ (fun H locs hW => ?_)
      rw [tr4 (by omega)]
      refine lv_iadd hx hb dL_law_715 ?_
      refine lv_istore (lv' := [(18, .int (sumJ (fun r => freeS σ r) (k + 1))), (20, .int (nI k)), (19, .int (sumJ (σ 11) k)), (16, .long (enL σ k)), (15, .int (cntP (nt σ) (fun q => ¬ σ 19 q = -1) (nt σ))), (8, .int (nI it)), (7, .int (nI now)), (6, .ref c2), (5, .ref c1), (4, .ref c0), (3, .int (nI R9)), (2, .int (nI P)), (1, .ref x0), (0, .ref b)]) hx hb dL_law_716 hl (by decide) rfl (fun ls hl => ?_)
      refine lv_iload hx hb dL_law_718 (lv_at hl 2 rfl) ?_
      refine lv_aload hx hb dL_law_720 (lv_at hl 8 rfl) ?_
      refine lv_iconst (v := 4) hx hb dL_law_722 (by decide) ?_
      refine lv_iload hx hb dL_law_723 (lv_at hl 1 rfl) ?_
      refine lv_imul hx hb dL_law_725 ?_
      refine wl_get1 hC hW (j := (4 * k)) (v := σ 11 k) (pk_mul 4 k) (by omega) (w7 k (by omega)) dL_law_726 ?_
      refine lv_iadd hx hb dL_law_727 ?_
      refine lv_istore (lv' := [(19, .int (sumJ (σ 11) (k + 1))), (18, .int (sumJ (fun r => freeS σ r) (k + 1))), (20, .int (nI k)), (16, .long (enL σ k)), (15, .int (cntP (nt σ) (fun q => ¬ σ 19 q = -1) (nt σ))), (8, .int (nI it)), (7, .int (nI now)), (6, .ref c2), (5, .ref c1), (4, .ref c0), (3, .int (nI R9)), (2, .int (nI P)), (1, .ref x0), (0, .ref b)]) hx hb dL_law_728 hl (by decide) rfl (fun ls hl => ?_)
      refine lv_lload hx hb dL_law_730 (lv_at hl 3 rfl) ?_
      refine lv_aload_n hx hb dL_law_732 rfl (lv_at hl 12 rfl) ?_
      refine lv_iload hx hb dL_law_733 (lv_at hl 2 rfl) ?_
      refine lv_iconst (v := 5) hx hb dL_law_735 (by decide) ?_
      refine wl_call (rest := [.long (enL σ k)]) hl9 hC hW hl.1 (fun ad pl sc h3 => tX6_room l g B0 ad _ _ pl sc _ (nI k) 5 h3.1) (cw_L_58 hts rfl rfl ⟨(Nat.le_of_ble_eq_true rfl), (Nat.le_of_ble_eq_true rfl)⟩) (nx1 hk5) (fun _ _ h3 hP => k3_same h3 hP) rfl rfl (Nat.le_of_ble_eq_true rfl) dL_law_736 ⟨show _ ≤ 632096 by omega, show _ ≤ 7205337 by omega⟩ (fun H locs hW => ?_)
      rw [tr5 (by omega)]
      refine lv_i2l hx hb dL_law_739 rfl ?_
      refine lv_ladd hx hb dL_law_740 ?_
      refine lv_lstore (lv' := [(16, .long (enL σ (k + 1))), (19, .int (sumJ (σ 11) (k + 1))), (18, .int (sumJ (fun r => freeS σ r) (k + 1))), (20, .int (nI k)), (15, .int (cntP (nt σ) (fun q => ¬ σ 19 q = -1) (nt σ))), (8, .int (nI it)), (7, .int (nI now)), (6, .ref c2), (5, .ref c1), (4, .ref c0), (3, .int (nI R9)), (2, .int (nI P)), (1, .ref x0), (0, .ref b)]) hx hb dL_law_741 hl (by decide) rfl (fun ls hl => ?_)
      refine lv_iinc (v := nI (k + 1)) (lv' := [(20, .int (nI (k + 1))), (16, .long (enL σ (k + 1))), (19, .int (sumJ (σ 11) (k + 1))), (18, .int (sumJ (fun r => freeS σ r) (k + 1))), (15, .int (cntP (nt σ) (fun q => ¬ σ 19 q = -1) (nt σ))), (8, .int (nI it)), (7, .int (nI now)), (6, .ref c2), (5, .ref c1), (4, .ref c0), (3, .int (nI R9)), (2, .int (nI P)), (1, .ref x0), (0, .ref b)]) hx hb dL_law_743 hl (k := 3) rfl (nI_1 _) (by decide) rfl (fun ls hl => ?_)
      refine lv_goto (tgt := 636) hx hb dL_law_746 (by decide) ?_
      refine W.widen (k := cells + 14 * (k + 1)) (n := slots + 84 * (k + 1)) (by omega) (by omega) ?_
      exact ih (k + 1) (by omega) (by omega) _ _ hW ls (lv_sub hl [0, 2, 3, 1, 4, 5, 6, 7, 8, 9, 10, 11, 12, 13] rfl)
set_option maxHeartbeats 8000000 in
set_option maxRecDepth 100000 in
theorem blk_n {p : Program} {l : Launch} {e : Env} {s : State} {m : MethodId} {args : Array Value} {below : List Frame} {meth : Method} {c : Code} {H : Heap} {locs : List Loc} {cells slots : Nat} {Q : State → Prop} {g : Gg} {B0 x0 c0 c1 c2 c3 c4 b L : Nat} {xs : Nat → Int32} {ret : Option FieldType} {ls : Array Slot} {P R9 N now it : Nat} {fp fr fa : Nat → Int32} {σ : Sg} {pd : Int64} (hl9 : l.stackTraces = false) (hC : Cx p s m args meth c RL cL_law 21 ret g B0) (hX : va_X b L xs s s.heap) (hbB : b < B0) (hL : L ≤ 260) (hP0 : 0 < P) (hP8 : P ≤ 8) (hR0 : 0 < R9) (hR5 : R9 ≤ 5) (hcc : cells + 71 ≤ 632096) (hss : slots + 426 ≤ 7205337) {fw : Nat → Int32} (hnow : now ≤ 400) (hLw : Lw σ pd fp fr P R9 N now) (hW : WL g B0 x0 c0 c1 c2 c3 c4 s H locs σ pd (some fp) (some fr) (some fa) (some fw) none) (hl : lv_has ls 21 [(15, .int (cntP (nt σ) (fun q => ¬ σ 19 q = -1) (nt σ))), (8, .int (nI it)), (7, .int (nI now)), (6, .ref c2), (5, .ref c1), (4, .ref c0), (3, .int (nI R9)), (2, .int (nI P)), (1, .ref x0), (0, .ref b)])
    (K : ∀ (H : Heap) (locs : List Loc) (ls : Array Slot), WL g B0 x0 c0 c1 c2 c3 c4 s H locs σ pd (some fp) (some fr) (some fa) none none → lv_has ls 21 [(8, .int (nI it)), (7, .int (nI now)), (6, .ref c2), (5, .ref c1), (4, .ref c0), (3, .int (nI R9)), (2, .int (nI P)), (1, .ref x0), (0, .ref b)] → W p l e room_1 s m args below meth c H locs (cells + 71) (slots + 426) Q (F0 m 808 ls [])) : W p l e room_1 s m args below meth c H locs cells slots Q (F0 m 624 ls []) := by
  have hx := hC.1.1
  have hb := hC.1.2.1
  have hts := hC.1.2.2.2.2
  refine lv_lconst (v := 0) hx hb dL_law_624 (by decide) ?_
  refine lv_lstore (lv' := [(16, .long 0), (15, .int (cntP (nt σ) (fun q => ¬ σ 19 q = -1) (nt σ))), (8, .int (nI it)), (7, .int (nI now)), (6, .ref c2), (5, .ref c1), (4, .ref c0), (3, .int (nI R9)), (2, .int (nI P)), (1, .ref x0), (0, .ref b)]) hx hb dL_law_625 hl (by decide) rfl (fun ls hl => ?_)
  refine lv_iconst (v := 0) hx hb dL_law_627 (by decide) ?_
  refine lv_istore (lv' := [(18, .int 0), (16, .long 0), (15, .int (cntP (nt σ) (fun q => ¬ σ 19 q = -1) (nt σ))), (8, .int (nI it)), (7, .int (nI now)), (6, .ref c2), (5, .ref c1), (4, .ref c0), (3, .int (nI R9)), (2, .int (nI P)), (1, .ref x0), (0, .ref b)]) hx hb dL_law_628 hl (by decide) rfl (fun ls hl => ?_)
  refine lv_iconst (v := 0) hx hb dL_law_630 (by decide) ?_
  refine lv_istore (lv' := [(19, .int 0), (18, .int 0), (16, .long 0), (15, .int (cntP (nt σ) (fun q => ¬ σ 19 q = -1) (nt σ))), (8, .int (nI it)), (7, .int (nI now)), (6, .ref c2), (5, .ref c1), (4, .ref c0), (3, .int (nI R9)), (2, .int (nI P)), (1, .ref x0), (0, .ref b)]) hx hb dL_law_631 hl (by decide) rfl (fun ls hl => ?_)
  refine lv_iconst (v := 0) hx hb dL_law_633 (by decide) ?_
  refine lv_istore (lv' := [(20, .int 0), (19, .int 0), (18, .int 0), (16, .long 0), (15, .int (cntP (nt σ) (fun q => ¬ σ 19 q = -1) (nt σ))), (8, .int (nI it)), (7, .int (nI now)), (6, .ref c2), (5, .ref c1), (4, .ref c0), (3, .int (nI R9)), (2, .int (nI P)), (1, .ref x0), (0, .ref b)]) hx hb dL_law_634 hl (by decide) rfl (fun ls hl => ?_)
  refine rooms7_loop (N := N) hl9 hC hX hbB hL hP0 hP8 hR0 hR5 (by omega) (by omega) hnow hLw (fun H locs ls hW hl => ?_) (R9 + 1) 0 (Nat.zero_le R9) (by omega) H locs hW ls (lv_sub hl [0, 1, 2, 3, 4, 5, 6, 7, 8, 9, 10, 11, 12, 13] rfl)
  obtain ⟨pl0, hok3⟩ := hW.ok
  have hok := hok3.1.1
  obtain ⟨w1, w2, w3, w4, w5, w6, w7⟩ := id hLw
  have h17 := hok.1
  have hs7 : sumJ (σ 11) R9 - sumJ (fun r => freeS σ r) R9 = cntP (nt σ) (fun q => ¬ σ 19 q = -1) (nt σ) := by rw [← w2]; exact free_sum hok
  have hc3 : cntS σ 3 = cntP (nt σ) (fun q => ¬ σ 19 q = -1) (nt σ) := by
    show thereS σ (-1) 0 + thereS σ (-1) 1 = _
    rw [← there_2 hok.2.1, cntP_60 hok.2.1]
  have hlim : ∀ r, r < R9 → 0 ≤ eS σ r ∧ eS σ r ≤ 80000 := fun r hr => by
    have := w5.1 r (by omega)
    rw [if_neg (Nat.not_lt_zero r)] at this
    unfold eS
    constructor <;> omega
  have hen := enL_i (σ := σ) (y := 80000) (by omega) R9 (by omega) hlim
  have heb := eSum_rg (σ := σ) (y := 80000) R9 hlim
  have hr9 : (R9 : Int) * 80000 ≤ 400000 := by omega
  have hpay := w5.2.2.1
  rw [w2] at hpay
  have m10 : (10 * enL σ R9).toInt = 10 * eSum σ R9 := mulL_i (c := 10) rfl ⟨by decide, by decide⟩ hen ⟨heb.1, by omega⟩
  have m25 : (25 * enL σ R9).toInt = 25 * eSum σ R9 := mulL_i (c := 25) rfl ⟨by decide, by decide⟩ hen ⟨heb.1, by omega⟩
  refine lv_iload hx hb dL_law_749 (lv_at hl 0 rfl) ?_
  refine lv_iload hx hb dL_law_751 (lv_at hl 1 rfl) ?_
  refine lv_isub hx hb dL_law_753 ?_
  refine lv_iload hx hb dL_law_754 (lv_at hl 3 rfl) ?_
  refine lv_icmp_ne (tgt := 806) hx hb dL_law_756 (by decide) (fun c756 => (absurd hs7 c756)) (fun c756 => ?_)
  refine lv_aload_n hx hb dL_law_759 rfl (lv_at hl 11 rfl) ?_
  refine lv_iconst (v := 3) hx hb dL_law_760 (by decide) ?_
  refine wl_call (rest := []) hl9 hC hW hl.1 (fun ad pl sc h3 => tX6_count l g B0 ad _ _ pl sc _ 3 h3.1) (cw_L_52 hts rfl rfl ⟨(Nat.le_of_ble_eq_true rfl), (Nat.le_of_ble_eq_true rfl)⟩) (nx1 (show kdCO 3 = 0 from rfl)) (fun _ _ h3 hP => k3_same h3 hP) rfl rfl (Nat.le_of_ble_eq_true rfl) dL_law_761 ⟨show _ ≤ 632096 by omega, show _ ≤ 7205337 by omega⟩ (fun H locs hW => ?_)
  refine lv_iload hx hb dL_law_764 (lv_at hl 3 rfl) ?_
  refine lv_icmp_ne (tgt := 806) hx hb dL_law_766 (by decide) (fun c766 => (absurd hc3 c766)) (fun c766 => ?_)
  refine lv_aload_n hx hb dL_law_769 rfl (lv_at hl 11 rfl) ?_
  refine wl_callL (rest := []) hl9 hC hW hl.1 (fun ad pl sc => tX6_paid l g B0 ad _ _ pl sc _) (cw_L_85 hts rfl rfl ⟨(Nat.le_of_ble_eq_true rfl), (Nat.le_of_ble_eq_true rfl)⟩) rfl (Nat.le_of_ble_eq_true rfl) dL_law_770 ⟨show _ ≤ 632096 by omega, show _ ≤ 7205337 by omega⟩ (fun H locs hW => ?_)
  refine lv_ldc2 hx hb hC.1.2.2.2.1 (hts _ wd_k_L_89) dL_law_773 ?_
  refine lv_lload hx hb dL_law_776 (lv_at hl 2 rfl) ?_
  refine lv_lmul hx hb dL_law_778 ?_
  refine W.lcmp hx hb dL_law_779 ?_
  refine lv_if_lt (tgt := 806) hx hb dL_law_780 (by decide) (fun c780 => (absurd c780 (cmp_ge (by rw [m10]; exact hpay.1)))) (fun c780 => ?_)
  refine lv_aload_n hx hb dL_law_783 rfl (lv_at hl 11 rfl) ?_
  refine wl_callL (rest := []) hl9 hC hW hl.1 (fun ad pl sc => tX6_paid l g B0 ad _ _ pl sc _) (cw_L_85 hts rfl rfl ⟨(Nat.le_of_ble_eq_true rfl), (Nat.le_of_ble_eq_true rfl)⟩) rfl (Nat.le_of_ble_eq_true rfl) dL_law_784 ⟨show _ ≤ 632096 by omega, show _ ≤ 7205337 by omega⟩ (fun H locs hW => ?_)
  refine lv_ldc2 hx hb hC.1.2.2.2.1 (hts _ wd_k_L_91) dL_law_787 ?_
  refine lv_lload hx hb dL_law_790 (lv_at hl 2 rfl) ?_
  refine lv_lmul hx hb dL_law_792 ?_
  refine W.lcmp hx hb dL_law_793 ?_
  refine lv_if_gt (tgt := 806) hx hb dL_law_794 (by decide) (fun c794 => (absurd c794 (cmp_le (by rw [m25]; exact hpay.2)))) (fun c794 => ?_)
  refine lv_aload_n hx hb dL_law_797 rfl (lv_at hl 11 rfl) ?_
  refine wl_callI (rest := []) hl9 hC hW hl.1 (fun ad pl sc => tX6_now l g B0 ad _ _ pl sc _) (cw_L_93 hts rfl rfl ⟨(Nat.le_of_ble_eq_true rfl), (Nat.le_of_ble_eq_true rfl)⟩) rfl (Nat.le_of_ble_eq_true rfl) dL_law_798 ⟨show _ ≤ 632096 by omega, show _ ≤ 7205337 by omega⟩ (fun H locs hW => ?_)
  refine lv_iload hx hb dL_law_801 (lv_at hl 5 rfl) ?_
  refine lv_icmp_eq (tgt := 808) hx hb dL_law_803 (by decide) (fun c803 => ?_) (fun c803 => (absurd w4 c803))
  refine W.widen (k := cells + 71) (n := slots + 426) (by omega) (by omega) ?_
  exact K H locs ls hW.drop3 (lv_sub hl [4, 5, 6, 7, 8, 9, 10, 11, 12] rfl)
