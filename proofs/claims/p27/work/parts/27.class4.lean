/-! THE CLASS'S ROOM: which is better; a pallet comes, goes; what is told -/
theorem sub_i {a b : Int32} (h1 : -2 ^ 31 ≤ a.toInt - b.toInt) (h2 : a.toInt - b.toInt < 2 ^ 31) : (a - b).toInt = a.toInt - b.toInt := by
  rw [Int32.toInt_sub, Int.bmod_eq_of_le (by omega) (by omega)]
theorem add_i {a b : Int32} (h1 : -2 ^ 31 ≤ a.toInt + b.toInt) (h2 : a.toInt + b.toInt < 2 ^ 31) : (a + b).toInt = a.toInt + b.toInt := by
  rw [Int32.toInt_add, Int.bmod_eq_of_le (by omega) (by omega)]
theorem mx_i (x y : Int32) : (mx x y).toInt = max x.toInt y.toInt := by
  unfold mx
  by_cases h : x < y
  · rw [if_pos h]
    have := Int32.lt_iff_toInt_lt.mp h
    omega
  · rw [if_neg h]
    have := Int32.le_iff_toInt_le.mp (Int32.not_lt.mp h)
    omega
theorem mn_i (x y : Int32) : (mn x y).toInt = min x.toInt y.toInt := by
  unfold mn
  by_cases h : y < x
  · rw [if_pos h]
    have := Int32.lt_iff_toInt_lt.mp h
    omega
  · rw [if_neg h]
    have := Int32.le_iff_toInt_le.mp (Int32.not_lt.mp h)
    omega
theorem dist_i {lo hi t : Int32} (h1 : rg lo (-300) 200) (h2 : rg hi (-300) 200) (h3 : lo.toInt ≤ hi.toInt) (h4 : rg t (-100000000) 100000000) : (distS lo hi t).toInt = max 0 (max (lo.toInt - t.toInt) (t.toInt - hi.toInt)) := by
  unfold distS
  by_cases h : t < lo
  · have := Int32.lt_iff_toInt_lt.mp h
    rw [if_pos h, sub_i (by omega) (by omega)]
    omega
  · have := Int32.le_iff_toInt_le.mp (Int32.not_lt.mp h)
    rw [if_neg h]
    by_cases h' : hi < t
    · have := Int32.lt_iff_toInt_lt.mp h'
      rw [if_pos h', sub_i (by omega) (by omega)]
      omega
    · have := Int32.le_iff_toInt_le.mp (Int32.not_lt.mp h')
      rw [if_neg h']
      show (0 : Int) = _
      omega
theorem off_dist {σ : Sg} (hR : Rg σ) {a : Nat} (ha : a < np σ) {t : Int32} (ht : rg t (-100000000) 100000000) : offS σ a t = distS (σ 6 a) (σ 7 a) t := by
  obtain ⟨-, h2, h3, h4, -⟩ := hR.1 a ha
  refine Int32.toInt_inj.mp ?_
  rw [dist_i h2 h3 h4 ht]
  unfold offS
  rw [mx_i, mx_i, sub_i (by omega) (by omega), sub_i (by omega) (by omega)]
  rfl
theorem off_i {σ : Sg} (hR : Rg σ) {a : Nat} (ha : a < np σ) {t : Int32} {b : Int} (hb : 300 ≤ b) (hb2 : b ≤ 100000000) (ht : rg t (-b) b) : rg (offS σ a t) 0 (b + 300) := by
  obtain ⟨-, h2, h3, h4, -⟩ := hR.1 a ha
  have ht2 : rg t (-100000000) 100000000 := ⟨by omega, by omega⟩
  rw [off_dist hR ha ht2]
  have := dist_i h2 h3 h4 ht2
  exact ⟨by omega, by omega⟩
theorem lt_sub {x y : Int32} (hx : rg x 0 200000000) (hy : rg y 0 200000000) : (x - y < 0 ↔ x < y) ∧ (x - y = 0 ↔ x = y) := by
  have e := sub_i (a := x) (b := y) (by omega) (by omega)
  refine ⟨?_, ?_⟩
  · rw [Int32.lt_iff_toInt_lt, Int32.lt_iff_toInt_lt, e]
    show x.toInt - y.toInt < 0 ↔ _
    omega
  · rw [← Int32.toInt_inj, ← Int32.toInt_inj, e]
    show x.toInt - y.toInt = 0 ↔ _
    omega
abbrev betP (σ : Sg) (a r r2 : Nat) : Prop := offS σ a (σ 14 r) - offS σ a (σ 14 r2) < 0 ∨ (offS σ a (σ 14 r) - offS σ a (σ 14 r2) = 0 ∧ freeS σ r2 < freeS σ r)
theorem bet_iff {σ : Sg} (hR : Rg σ) {a r r2 : Nat} (ha : a < np σ) (hr : r < nr σ) (hr2 : r2 < nr σ) : betP σ a r r2 ↔ (distS (σ 6 a) (σ 7 a) (σ 14 r) < distS (σ 6 a) (σ 7 a) (σ 14 r2) ∨ (distS (σ 6 a) (σ 7 a) (σ 14 r) = distS (σ 6 a) (σ 7 a) (σ 14 r2) ∧ freeS σ r2 < freeS σ r)) := by
  obtain ⟨-, -, -, k1, -⟩ := hR.2.1 r hr
  obtain ⟨-, -, -, k2, -⟩ := hR.2.1 r2 hr2
  have a1 := off_i hR ha (t := σ 14 r) (b := 300) (by omega) (by omega) ⟨by omega, by omega⟩
  have a2 := off_i hR ha (t := σ 14 r2) (b := 300) (by omega) (by omega) ⟨by omega, by omega⟩
  obtain ⟨e1, e2⟩ := lt_sub (x := offS σ a (σ 14 r)) (y := offS σ a (σ 14 r2)) ⟨by omega, by omega⟩ ⟨by omega, by omega⟩
  unfold betP
  rw [e1, e2, off_dist hR ha ⟨by omega, by omega⟩, off_dist hR ha ⟨by omega, by omega⟩]
def toldI (σ : Sg) (r : Nat) (w : Int32) : Int32 := if w = 0 then σ 16 (6 * r) else if w = 1 then σ 14 r else if w = 2 then σ 16 (6 * r + 1) else if w = 3 then σ 16 (6 * r + 2) else if w = 4 then freeS σ r else if w = 5 then σ 16 (6 * r + 4) else σ 16 (6 * r + 5)
theorem told_eq (σ : Sg) (r : Nat) : ∀ w : Nat, w < 7 → toldI σ r (nI w) = toldR σ r w
  | 0, _ => rfl
  | 1, _ => rfl
  | 2, _ => rfl
  | 3, _ => rfl
  | 4, _ => rfl
  | 5, _ => rfl
  | 6, _ => rfl
  | n + 7, h => absurd h (by omega)

set_option maxHeartbeats 4000000 in
set_option maxRecDepth 100000 in
theorem tX4_isBetterFor (l : Launch) (g : Gg) (B0 : Nat) (ad : Ad) (σ : Sg) (pd : Int64) (pl : Pl) (sc : Sg) (h : Wd) (r : Nat) (hr : r < nr σ) (r2 : Nat) (hr2 : r2 < nr σ) (a : Nat) (ha : a < np σ) (hok : OkP σ) (hP : PlOk σ pl) (hR : Rg σ) : MM l g B0 yX4_isBetterFor (wsM yX4_isBetterFor cX4_isBetterFor 5 (some .boolean)) ({ frames := 1, cells := 0, slots := 0, locals := 25 } : Room) [.ref (ad 8 r), .ref (ad 7 a), .ref (ad 8 r2)] ad (fC g ad σ pd pl sc h) (dI (bi (betP σ a r r2)) ad (fC g ad σ pd pl sc h)) (noX) 0 0 := by
  refine MM.start (by decide) (Nat.le_of_ble_eq_true rfl) ?_
  intro hl9 p e s m below meth c ls hC hno hI hl0
  have hx := hC.1.1
  have hb := hC.1.2.1
  have hts := hC.1.2.2.2.2
  have hl : lv_has ls 5 [(0, .ref (ad 8 r)), (1, .ref (ad 7 a)), (2, .ref (ad 8 r2))] := hl0
  obtain ⟨H, hH⟩ : ∃ H, H = s.heap := ⟨_, rfl⟩
  obtain ⟨locs, hLo⟩ : ∃ L : List Loc, L = [] := ⟨_, rfl⟩
  rw [← hH, ← hLo] at hI ⊢
  clear hH hLo hl0
  obtain ⟨h17, h60, h10, h6, h5, h12, hpr, hrm⟩ := id hok
  have h20 := (hR.pl hr).2
  have hr6 : r < 6 := by omega
  have hfr := hP.free hr hr6 (hR.pl hr).1
  have h20r2 := (hR.pl hr2).2
  have hr62 : r2 < 6 := by omega
  have hfr2 := hP.free hr2 hr62 (hR.pl hr2).1
  have hB := bet_iff hR ha hr hr2
  refine lv_aload_n hx hb dX4_isBetterFor_0 rfl (lv_at hl 1 rfl) ?_
  refine lv_aload_n hx hb dX4_isBetterFor_1 rfl (lv_at hl 0 rfl) ?_
  refine gf_X4_50 hC hI (fC_8 hr) rfl dX4_isBetterFor_2 ?_
  refine c_Vi (rest := []) hl9 hC hI hl.1 (tX3_distanceFromSuiting l g B0 ad _ a _ _ _ _ _ (σ 14 r) (fC_7 ha)) (cw_X4_80 hts rfl rfl ⟨(Nat.le_of_ble_eq_true rfl), (Nat.le_of_ble_eq_true rfl)⟩) (fC_7 ha) rfl rfl rfl rfl (Nat.le_of_ble_eq_true rfl) dX4_isBetterFor_5 ⟨(Nat.le_of_ble_eq_true rfl), (Nat.le_of_ble_eq_true rfl)⟩ (fun H locs hI => ?_)
  refine lv_istore_n (lv' := [(3, .int (distS (σ 6 a) (σ 7 a) (σ 14 r))), (0, .ref (ad 8 r)), (1, .ref (ad 7 a)), (2, .ref (ad 8 r2))]) hx hb dX4_isBetterFor_8 rfl hl (by decide) rfl (fun ls hl => ?_)
  refine lv_aload_n hx hb dX4_isBetterFor_9 rfl (lv_at hl 2 rfl) ?_
  refine lv_aload_n hx hb dX4_isBetterFor_10 rfl (lv_at hl 3 rfl) ?_
  refine gf_X4_50 hC hI (fC_8 hr2) rfl dX4_isBetterFor_11 ?_
  refine c_Vi (rest := []) hl9 hC hI hl.1 (tX3_distanceFromSuiting l g B0 ad _ a _ _ _ _ _ (σ 14 r2) (fC_7 ha)) (cw_X4_80 hts rfl rfl ⟨(Nat.le_of_ble_eq_true rfl), (Nat.le_of_ble_eq_true rfl)⟩) (fC_7 ha) rfl rfl rfl rfl (Nat.le_of_ble_eq_true rfl) dX4_isBetterFor_14 ⟨(Nat.le_of_ble_eq_true rfl), (Nat.le_of_ble_eq_true rfl)⟩ (fun H locs hI => ?_)
  refine lv_istore (lv' := [(4, .int (distS (σ 6 a) (σ 7 a) (σ 14 r2))), (3, .int (distS (σ 6 a) (σ 7 a) (σ 14 r))), (0, .ref (ad 8 r)), (1, .ref (ad 7 a)), (2, .ref (ad 8 r2))]) hx hb dX4_isBetterFor_17 hl (by decide) rfl (fun ls hl => ?_)
  refine lv_iload_n hx hb dX4_isBetterFor_19 rfl (lv_at hl 1 rfl) ?_
  refine lv_iload hx hb dX4_isBetterFor_20 (lv_at hl 0 rfl) ?_
  refine lv_icmp_eq (tgt := 37) hx hb dX4_isBetterFor_22 (by decide) (fun c22 => ?_) (fun c22 => ?_)
  · refine lv_aload_n hx hb dX4_isBetterFor_37 rfl (lv_at hl 2 rfl) ?_
    refine c_Vi (rest := []) hl9 hC hI hl.1 (tX4_freePlaces l g B0 ad σ pd pl sc h r hr h20) (cw_X4_59 hts rfl rfl ⟨(Nat.le_of_ble_eq_true rfl), (Nat.le_of_ble_eq_true rfl)⟩) (fC_8 hr) rfl rfl rfl rfl (Nat.le_of_ble_eq_true rfl) dX4_isBetterFor_38 ⟨(Nat.le_of_ble_eq_true rfl), (Nat.le_of_ble_eq_true rfl)⟩ (fun H locs hI => ?_)
    refine lv_aload_n hx hb dX4_isBetterFor_41 rfl (lv_at hl 4 rfl) ?_
    refine c_Vi (rest := [.int (fpC pl r (cN (σ 11 r)))]) hl9 hC hI hl.1 (tX4_freePlaces l g B0 ad σ pd pl sc h r2 hr2 h20r2) (cw_X4_59 hts rfl rfl ⟨(Nat.le_of_ble_eq_true rfl), (Nat.le_of_ble_eq_true rfl)⟩) (fC_8 hr2) rfl rfl rfl rfl (Nat.le_of_ble_eq_true rfl) dX4_isBetterFor_42 ⟨(Nat.le_of_ble_eq_true rfl), (Nat.le_of_ble_eq_true rfl)⟩ (fun H locs hI => ?_)
    refine lv_icmp_le (tgt := 52) hx hb dX4_isBetterFor_45 (by decide) (fun c45 => ?_) (fun c45 => ?_)
    · refine lv_iconst (v := 0) hx hb dX4_isBetterFor_52 (by decide) ?_
      exact e_bool hC hI (by decide) (rI (bi_f (fun z => (hB.mp z).elim (fun z => by rw [c22] at z; exact Int32.lt_irrefl z) (fun z => absurd z.2 (Int32.not_lt.mpr (by rw [← hfr, ← hfr2]; exact c45))))).symm) (Nat.le_of_ble_eq_true rfl) (Nat.le_of_ble_eq_true rfl) dX4_isBetterFor_53
    · refine lv_iconst (v := 1) hx hb dX4_isBetterFor_48 (by decide) ?_
      refine lv_goto (tgt := 53) hx hb dX4_isBetterFor_49 (by decide) ?_
      exact e_bool hC hI (by decide) (rI (bi_t (hB.mpr (Or.inr ⟨c22, by rw [← hfr, ← hfr2]; exact Int32.not_le.mp c45⟩))).symm) (Nat.le_of_ble_eq_true rfl) (Nat.le_of_ble_eq_true rfl) dX4_isBetterFor_53
  · refine lv_iload_n hx hb dX4_isBetterFor_25 rfl (lv_at hl 1 rfl) ?_
    refine lv_iload hx hb dX4_isBetterFor_26 (lv_at hl 0 rfl) ?_
    refine lv_icmp_ge (tgt := 35) hx hb dX4_isBetterFor_28 (by decide) (fun c28 => ?_) (fun c28 => ?_)
    · refine lv_iconst (v := 0) hx hb dX4_isBetterFor_35 (by decide) ?_
      exact e_bool hC hI (by decide) (rI (bi_f (fun z => (hB.mp z).elim (fun z => absurd z (Int32.not_lt.mpr c28)) (fun z => c22 z.1))).symm) (Nat.le_of_ble_eq_true rfl) (Nat.le_of_ble_eq_true rfl) dX4_isBetterFor_36
    · refine lv_iconst (v := 1) hx hb dX4_isBetterFor_31 (by decide) ?_
      refine lv_goto (tgt := 36) hx hb dX4_isBetterFor_32 (by decide) ?_
      exact e_bool hC hI (by decide) (rI (bi_t (hB.mpr (Or.inl (Int32.not_le.mp c28)))).symm) (Nat.le_of_ble_eq_true rfl) (Nat.le_of_ble_eq_true rfl) dX4_isBetterFor_36
set_option maxHeartbeats 4000000 in
set_option maxRecDepth 100000 in
theorem tX4_fact (l : Launch) (g : Gg) (B0 : Nat) (ad : Ad) (σ : Sg) (pd : Int64) (pl : Pl) (sc : Sg) (h : Wd) (r : Nat) (hr : r < nr σ) (w : Int32) (hok : OkP σ) (hP : PlOk σ pl) (hR : Rg σ) : MM l g B0 yX4_fact (wsM yX4_fact cX4_fact 2 (some .int)) ({ frames := 1, cells := 0, slots := 0, locals := 25 } : Room) [.ref (ad 8 r), .int w] ad (fC g ad σ pd pl sc h) (dI (toldI σ r w) ad (fC g ad σ pd pl sc h)) (noX) 0 0 := by
  refine MM.start (by decide) (Nat.le_of_ble_eq_true rfl) ?_
  intro hl9 p e s m below meth c ls hC hno hI hl0
  have hx := hC.1.1
  have hb := hC.1.2.1
  have hts := hC.1.2.2.2.2
  have hl : lv_has ls 2 [(0, .ref (ad 8 r)), (1, .int w)] := hl0
  obtain ⟨H, hH⟩ : ∃ H, H = s.heap := ⟨_, rfl⟩
  obtain ⟨locs, hLo⟩ : ∃ L : List Loc, L = [] := ⟨_, rfl⟩
  rw [← hH, ← hLo] at hI ⊢
  clear hH hLo hl0
  obtain ⟨h17, h60, h10, h6, h5, h12, hpr, hrm⟩ := id hok
  have h20 := (hR.pl hr).2
  have hr6 : r < 6 := by omega
  have hfr := hP.free hr hr6 (hR.pl hr).1
  refine lv_iload_n hx hb dX4_fact_0 rfl (lv_at hl 1 rfl) ?_
  by_cases s0 : w = 0
  · subst s0
    refine lv_tableIn (tgt := 40) hx hb dX4_fact_1 (by decide) (by decide) rfl (by decide) ?_
    refine lv_aload_n hx hb dX4_fact_40 rfl (lv_at hl 0 rfl) ?_
    refine gf_X4_13 hC hI (fC_8 hr) rfl dX4_fact_41 ?_
    exact e_int hC hI (rI rfl) (Nat.le_of_ble_eq_true rfl) (Nat.le_of_ble_eq_true rfl) dX4_fact_44
  by_cases s1 : w = 1
  · subst s1
    refine lv_tableIn (tgt := 45) hx hb dX4_fact_1 (by decide) (by decide) rfl (by decide) ?_
    refine lv_aload_n hx hb dX4_fact_45 rfl (lv_at hl 0 rfl) ?_
    refine gf_X4_50 hC hI (fC_8 hr) rfl dX4_fact_46 ?_
    exact e_int hC hI (rI rfl) (Nat.le_of_ble_eq_true rfl) (Nat.le_of_ble_eq_true rfl) dX4_fact_49
  by_cases s2 : w = 2
  · subst s2
    refine lv_tableIn (tgt := 50) hx hb dX4_fact_1 (by decide) (by decide) rfl (by decide) ?_
    refine lv_aload_n hx hb dX4_fact_50 rfl (lv_at hl 0 rfl) ?_
    refine gf_X4_43 hC hI (fC_8 hr) rfl dX4_fact_51 ?_
    refine gf_X4_53 hC hI (fC_9 hr) rfl dX4_fact_54 ?_
    exact e_int hC hI (rI rfl) (Nat.le_of_ble_eq_true rfl) (Nat.le_of_ble_eq_true rfl) dX4_fact_57
  by_cases s3 : w = 3
  · subst s3
    refine lv_tableIn (tgt := 58) hx hb dX4_fact_1 (by decide) (by decide) rfl (by decide) ?_
    refine lv_aload_n hx hb dX4_fact_58 rfl (lv_at hl 0 rfl) ?_
    refine gf_X4_43 hC hI (fC_8 hr) rfl dX4_fact_59 ?_
    refine gf_X4_56 hC hI (fC_9 hr) rfl dX4_fact_62 ?_
    exact e_int hC hI (rI rfl) (Nat.le_of_ble_eq_true rfl) (Nat.le_of_ble_eq_true rfl) dX4_fact_65
  by_cases s4 : w = 4
  · subst s4
    refine lv_tableIn (tgt := 66) hx hb dX4_fact_1 (by decide) (by decide) rfl (by decide) ?_
    refine lv_aload_n hx hb dX4_fact_66 rfl (lv_at hl 0 rfl) ?_
    refine c_Vi (rest := []) hl9 hC hI hl.1 (tX4_freePlaces l g B0 ad σ pd pl sc h r hr h20) (cw_X4_59 hts rfl rfl ⟨(Nat.le_of_ble_eq_true rfl), (Nat.le_of_ble_eq_true rfl)⟩) (fC_8 hr) rfl rfl rfl rfl (Nat.le_of_ble_eq_true rfl) dX4_fact_67 ⟨(Nat.le_of_ble_eq_true rfl), (Nat.le_of_ble_eq_true rfl)⟩ (fun H locs hI => ?_)
    rw [hfr]
    exact e_int hC hI (rI rfl) (Nat.le_of_ble_eq_true rfl) (Nat.le_of_ble_eq_true rfl) dX4_fact_70
  by_cases s5 : w = 5
  · subst s5
    refine lv_tableIn (tgt := 71) hx hb dX4_fact_1 (by decide) (by decide) rfl (by decide) ?_
    refine lv_aload_n hx hb dX4_fact_71 rfl (lv_at hl 0 rfl) ?_
    refine gf_X4_43 hC hI (fC_8 hr) rfl dX4_fact_72 ?_
    refine gf_X4_63 hC hI (fC_9 hr) rfl dX4_fact_75 ?_
    exact e_int hC hI (rI rfl) (Nat.le_of_ble_eq_true rfl) (Nat.le_of_ble_eq_true rfl) dX4_fact_78
  refine lv_tableOut (tgt := 79) hx hb dX4_fact_1 (by have := sw_n (z := 0) (by decide) s0; have := sw_n (z := 1) (by decide) s1; have := sw_n (z := 2) (by decide) s2; have := sw_n (z := 3) (by decide) s3; have := sw_n (z := 4) (by decide) s4; have := sw_n (z := 5) (by decide) s5; omega) (by decide) ?_
  refine lv_aload_n hx hb dX4_fact_79 rfl (lv_at hl 0 rfl) ?_
  refine gf_X4_17 hC hI (fC_8 hr) rfl dX4_fact_80 ?_
  exact e_int hC hI (rI (by unfold toldI; rw [if_neg s0, if_neg s1, if_neg s2, if_neg s3, if_neg s4, if_neg s5])) (Nat.le_of_ble_eq_true rfl) (Nat.le_of_ble_eq_true rfl) dX4_fact_83
set_option maxHeartbeats 4000000 in
set_option maxRecDepth 100000 in
theorem tX4_warmthOfPallets (l : Launch) (g : Gg) (B0 : Nat) (ad : Ad) (σ : Sg) (pd : Int64) (pl : Pl) (sc : Sg) (h : Wd) (r : Nat) (hr : r < nr σ) (hok : OkP σ) (hP : PlOk σ pl) (hR : Rg σ) : MM l g B0 yX4_warmthOfPallets (wsM yX4_warmthOfPallets cX4_warmthOfPallets 6 (some .int)) ({ frames := 0, cells := 0, slots := 0, locals := 0 } : Room) [.ref (ad 8 r)] ad (fC g ad σ pd pl sc h) (dI (sumJ (fun j => atP (fun q => (σ 20 q - σ 16 (6 * r)) / 40) (pl r j)) (cN (σ 11 r))) ad (fC g ad σ pd pl sc h)) (noX) 0 0 := by
  refine MM.start (by decide) (Nat.le_of_ble_eq_true rfl) ?_
  intro hl9 p e s m below meth c ls hC hno hI hl0
  have hx := hC.1.1
  have hb := hC.1.2.1
  have hts := hC.1.2.2.2.2
  have hl : lv_has ls 6 [(0, .ref (ad 8 r))] := hl0
  obtain ⟨H, hH⟩ : ∃ H, H = s.heap := ⟨_, rfl⟩
  obtain ⟨locs, hLo⟩ : ∃ L : List Loc, L = [] := ⟨_, rfl⟩
  rw [← hH, ← hLo] at hI ⊢
  clear hH hLo hl0
  obtain ⟨h17, h60, h10, h6, h5, h12, hpr, hrm⟩ := id hok
  have h20 := (hR.pl hr).2
  have hr6 : r < 6 := by omega
  have hfr := hP.free hr hr6 (hR.pl hr).1
  refine lv_iconst (v := 0) hx hb dX4_warmthOfPallets_0 (by decide) ?_
  refine lv_istore_n (lv' := [(1, .int (sumJ (fun j => atP (fun q => (σ 20 q - σ 16 (6 * r)) / 40) (pl r j)) 0)), (0, .ref (ad 8 r))]) hx hb dX4_warmthOfPallets_1 rfl hl (by decide) rfl (fun ls hl => ?_)
  refine lv_aload_n hx hb dX4_warmthOfPallets_2 rfl (lv_at hl 1 rfl) ?_
  refine gf_X4_31 hC hI (fC_8 hr) rfl dX4_warmthOfPallets_3 ?_
  refine lv_astore_n (lv' := [(2, .ref (ad 11 r)), (1, .int (sumJ (fun j => atP (fun q => (σ 20 q - σ 16 (6 * r)) / 40) (pl r j)) 0)), (0, .ref (ad 8 r))]) hx hb dX4_warmthOfPallets_6 rfl hl (by decide) rfl (fun ls hl => ?_)
  refine lv_aload_n hx hb dX4_warmthOfPallets_7 rfl (lv_at hl 0 rfl) ?_
  refine r_alen hC hI (fC_11 hr) 2 rfl (v := nI (cN (σ 11 r))) rfl dX4_warmthOfPallets_8 ?_
  refine lv_istore_n (lv' := [(3, .int (nI (cN (σ 11 r)))), (2, .ref (ad 11 r)), (1, .int (sumJ (fun j => atP (fun q => (σ 20 q - σ 16 (6 * r)) / 40) (pl r j)) 0)), (0, .ref (ad 8 r))]) hx hb dX4_warmthOfPallets_9 rfl hl (by decide) rfl (fun ls hl => ?_)
  refine lv_iconst (v := 0) hx hb dX4_warmthOfPallets_10 (by decide) ?_
  refine lv_istore (lv' := [(4, .int (nI 0)), (3, .int (nI (cN (σ 11 r)))), (2, .ref (ad 11 r)), (1, .int (sumJ (fun j => atP (fun q => (σ 20 q - σ 16 (6 * r)) / 40) (pl r j)) 0)), (0, .ref (ad 8 r))]) hx hb dX4_warmthOfPallets_11 hl (by decide) rfl (fun ls hl => ?_)
  have L13 : ∀ (n : Nat) (k : Nat), k ≤ cN (σ 11 r) → cN (σ 11 r) + 1 ≤ k + n → ∀ (H : Heap) (locs : List Loc), WI g ad B0 (fC g ad σ pd pl sc h) s H locs → ∀ (ls : Array Slot), lv_has ls 6 [(4, .int (nI k)), (3, .int (nI (cN (σ 11 r)))), (2, .ref (ad 11 r)), (1, .int (sumJ (fun j => atP (fun q => (σ 20 q - σ 16 (6 * r)) / 40) (pl r j)) k)), (0, .ref (ad 8 r))] → W p l e ({ frames := 0, cells := 0, slots := 0, locals := 0 } : Room) s m ([.ref (ad 8 r)] : List Value).toArray below meth c H locs 0 0 (vx_MQ below (QI g B0 (dI (sumJ (fun j => atP (fun q => (σ 20 q - σ 16 (6 * r)) / 40) (pl r j)) (cN (σ 11 r))) ad (fC g ad σ pd pl sc h))) (XI g B0 (noX)) ([.ref (ad 8 r)] : List Value).toArray s 0 0 (fun q => B0 ≤ q)) (F0 m 13 ls []) := by
    intro n
    induction n with
    | zero =>
      intro k hk hfu
      exact absurd hfu (by omega)
    | succ n ih13 =>
      intro k hk hfu H locs hI ls hl
      refine lv_iload hx hb dX4_warmthOfPallets_13 (lv_at hl 0 rfl) ?_
      refine lv_iload_n hx hb dX4_warmthOfPallets_15 rfl (lv_at hl 1 rfl) ?_
      refine lv_icmp_ge (tgt := 52) hx hb dX4_warmthOfPallets_16 (by decide) (fun c16 => ?_) (fun c16 => ?_)
      · have hk2 : cN (σ 11 r) ≤ k := ge_T rfl (by omega) (by omega) c16
        refine lv_iload_n hx hb dX4_warmthOfPallets_52 rfl (lv_at hl 3 rfl) ?_
        exact e_int hC hI (rI (by rw [show k = cN (σ 11 r) by omega])) (Nat.le_of_ble_eq_true rfl) (Nat.le_of_ble_eq_true rfl) dX4_warmthOfPallets_53
      · have hk2 : k < cN (σ 11 r) := ge_F rfl (by omega) (by omega) c16
        refine lv_aload_n hx hb dX4_warmthOfPallets_19 rfl (lv_at hl 2 rfl) ?_
        refine lv_iload hx hb dX4_warmthOfPallets_20 (lv_at hl 0 rfl) ?_
        refine r_aald hC hI (fC_11 hr) 2 rfl (j := k) rfl hk2 (by omega) dX4_warmthOfPallets_22 ?_
        refine lv_topo (fun e22 => ?_) (fun q22 e22 => ?_)
        · have hp := Option.map_eq_none_iff.mp e22
          have hl : lv_has ls 6 [(4, .int (nI k)), (3, .int (nI (cN (σ 11 r)))), (2, .ref (ad 11 r)), (1, .int (sumJ (fun j => atP (fun q => (σ 20 q - σ 16 (6 * r)) / 40) (pl r j)) (k + 1))), (0, .ref (ad 8 r))] := by rw [show sumJ (fun j => atP (fun q => (σ 20 q - σ 16 (6 * r)) / 40) (pl r j)) (k + 1) = sumJ (fun j => atP (fun q => (σ 20 q - σ 16 (6 * r)) / 40) (pl r j)) k from (by show _ + atP _ (pl r k) = _; rw [hp]; exact Int32.add_zero _)]; exact hl
          refine lv_astoreN (lv' := [(5, .null), (4, .int (nI k)), (3, .int (nI (cN (σ 11 r)))), (2, .ref (ad 11 r)), (1, .int (sumJ (fun j => atP (fun q => (σ 20 q - σ 16 (6 * r)) / 40) (pl r j)) (k + 1))), (0, .ref (ad 8 r))]) hx hb dX4_warmthOfPallets_23 hl (by decide) rfl (fun ls hl => ?_)
          refine lv_aloadN hx hb dX4_warmthOfPallets_25 (lv_at hl 0 rfl) ?_
          refine lv_ifnullN (tgt := 46) hx hb dX4_warmthOfPallets_27 (by decide) ?_
          refine lv_iinc (v := nI (k + 1)) (lv' := [(4, .int (nI (k + 1))), (5, .null), (3, .int (nI (cN (σ 11 r)))), (2, .ref (ad 11 r)), (1, .int (sumJ (fun j => atP (fun q => (σ 20 q - σ 16 (6 * r)) / 40) (pl r j)) (k + 1))), (0, .ref (ad 8 r))]) hx hb dX4_warmthOfPallets_46 hl (k := 1) rfl (nI_1 _) (by decide) rfl (fun ls hl => ?_)
          refine lv_goto (tgt := 13) hx hb dX4_warmthOfPallets_49 (by decide) ?_
          exact ih13 (k + 1) (by omega) (by omega) _ _ hI ls (lv_sub hl [0, 2, 3, 4, 5] rfl)
        · obtain ⟨q0, hp, rfl⟩ := Option.map_eq_some_iff.mp e22
          have hq0 := (hP.on r k q0 hr hk2 hp).1
          have hpq := (hpr q0 hq0).2
          refine lv_astore (lv' := [(5, .ref (ad 12 q0)), (4, .int (nI k)), (3, .int (nI (cN (σ 11 r)))), (2, .ref (ad 11 r)), (1, .int (sumJ (fun j => atP (fun q => (σ 20 q - σ 16 (6 * r)) / 40) (pl r j)) k)), (0, .ref (ad 8 r))]) hx hb dX4_warmthOfPallets_23 hl (by decide) rfl (fun ls hl => ?_)
          refine lv_aload hx hb dX4_warmthOfPallets_25 (lv_at hl 0 rfl) ?_
          refine lv_ifnull hx hb dX4_warmthOfPallets_27 ?_
          refine lv_iload_n hx hb dX4_warmthOfPallets_30 rfl (lv_at hl 4 rfl) ?_
          refine lv_aload hx hb dX4_warmthOfPallets_31 (lv_at hl 0 rfl) ?_
          refine gf_X4_104 hC hI (fC_12 hq0) rfl dX4_warmthOfPallets_33 ?_
          refine lv_aload_n hx hb dX4_warmthOfPallets_36 rfl (lv_at hl 5 rfl) ?_
          refine gf_X4_13 hC hI (fC_8 hr) rfl dX4_warmthOfPallets_37 ?_
          refine lv_isub hx hb dX4_warmthOfPallets_40 ?_
          refine lv_bipush (v := 40) hx hb dX4_warmthOfPallets_41 (by decide) ?_
          refine lv_idiv hx hb dX4_warmthOfPallets_43 (by decide) ?_
          refine lv_iadd hx hb dX4_warmthOfPallets_44 ?_
          rw [show sumJ (fun j => atP (fun q => (σ 20 q - σ 16 (6 * r)) / 40) (pl r j)) k + (σ 20 q0 - σ 16 (6 * r)) / 40 = sumJ (fun j => atP (fun q => (σ 20 q - σ 16 (6 * r)) / 40) (pl r j)) (k + 1) from by show _ = _ + atP _ (pl r k); rw [hp]; rfl]
          refine lv_istore_n (lv' := [(1, .int (sumJ (fun j => atP (fun q => (σ 20 q - σ 16 (6 * r)) / 40) (pl r j)) (k + 1))), (5, .ref (ad 12 q0)), (4, .int (nI k)), (3, .int (nI (cN (σ 11 r)))), (2, .ref (ad 11 r)), (0, .ref (ad 8 r))]) hx hb dX4_warmthOfPallets_45 rfl hl (by decide) rfl (fun ls hl => ?_)
          refine lv_iinc (v := nI (k + 1)) (lv' := [(4, .int (nI (k + 1))), (1, .int (sumJ (fun j => atP (fun q => (σ 20 q - σ 16 (6 * r)) / 40) (pl r j)) (k + 1))), (5, .ref (ad 12 q0)), (3, .int (nI (cN (σ 11 r)))), (2, .ref (ad 11 r)), (0, .ref (ad 8 r))]) hx hb dX4_warmthOfPallets_46 hl (k := 2) rfl (nI_1 _) (by decide) rfl (fun ls hl => ?_)
          refine lv_goto (tgt := 13) hx hb dX4_warmthOfPallets_49 (by decide) ?_
          exact ih13 (k + 1) (by omega) (by omega) _ _ hI ls (lv_sub hl [0, 3, 4, 1, 5] rfl)
  exact L13 (cN (σ 11 r) + 1) 0 (by omega) (by omega) _ _ hI ls (lv_sub hl [0, 1, 2, 3, 4] rfl)
