/-! THE COLD STORE'S CALLS, first part -/
abbrev rC (g : Gg) (ad : Ad) (kd r : Int32) (σ' : Sg) (pd' : Int64) (h : Wd) : Option Value → Ad → Wd → Prop := fun v a w => kd = 0 ∧ v = some (.int r) ∧ (∀ k i, k = 0 ∨ 13 ≤ k → a k i = ad k i) ∧ ∃ pl' sc', PlOk σ' pl' ∧ w = fC g a σ' pd' pl' sc' h
theorem fact_n {v : Int32} {n : Nat} (hn : n < 1000) : (0 ≤ v ∧ v < nI n) ↔ ∃ i : Nat, i < n ∧ v = nI i := by
  constructor
  · rintro ⟨h1, h2⟩
    obtain ⟨e, he⟩ := nn_nI (Int32.not_lt.mpr h1)
    rw [e] at h2
    exact ⟨cN v, (nI_ltI (by omega) (by omega)).mp h2, e⟩
  · rintro ⟨i, hi, rfl⟩
    exact ⟨nI_nn (by omega), (nI_ltI (by omega) (by omega)).mpr hi⟩
theorem le_lt1 {v : Int32} (n m : Int32) (h : m.toInt = n.toInt + 1) : v ≤ n ↔ v < m := by
  rw [Int32.le_iff_toInt_le, Int32.lt_iff_toInt_lt]
  omega
theorem fC_df {g : Gg} {ad : Ad} {σ : Sg} {pd : Int64} {pl : Pl} {sc : Sg} {h : Wd} {r : Nat} (hr : r < nr σ) : up2 (fC g ad σ pd pl sc h) 9 r (.inr (1, [.int (σ 13 r), .int 2, .int 3, .int (σ 16 (6 * r + 1)), .int (σ 16 (6 * r + 4))])) = fC g ad (s1 (s1 σ 16 (6 * r + 2) 2) 16 (6 * r + 3) 3) pd pl sc h := by
  have n_ : ∀ (τ : Sg) (i j : Nat) (x : Int32), i ≠ j → (s1 τ 16 j x) 16 i = τ 16 i := fun τ i j x h => upd_n _ _ h
  have e := fC_M (g := g) (ad := ad) (pd := pd) (pl := pl) (sc := sc) (h := h) hr (fn := (s1 (s1 σ 16 (6 * r + 2) 2) 16 (6 * r + 3) 3) 16) (a := 2) (b := 3) (c := σ 16 (6 * r + 1)) (d := σ 16 (6 * r + 4)) ((n_ _ _ _ _ (by omega)).trans (upd_s _ _ _)) (upd_s _ _ _) ((n_ _ _ _ _ (by omega)).trans (n_ _ _ _ _ (by omega))) ((n_ _ _ _ _ (by omega)).trans (n_ _ _ _ _ (by omega))) (fun j hj => (n_ _ _ _ _ (by omega)).trans (n_ _ _ _ _ (by omega)))
  rw [su_self (fun k hk => (su_n _ _ hk).trans (su_n _ _ hk))] at e
  exact e

set_option maxHeartbeats 4000000 in
set_option maxRecDepth 100000 in
theorem tX6_setOutside (l : Launch) (g : Gg) (B0 : Nat) (ad : Ad) (σ : Sg) (pd : Int64) (pl : Pl) (sc : Sg) (h : Wd) (b s9 : Int32) (hT : OkT σ) (hIv : Iv σ pl)  : MM l g B0 yX6_setOutside (wsM yX6_setOutside cX6_setOutside 3 (some .int)) ({ frames := 7, cells := 2, slots := 12, locals := 112 } : Room) [.ref (ad 0 0), .int b, .int s9] ad (fC g ad σ pd pl sc h) (rC g ad (kdSO b s9) (rsSO σ b s9) (stSO σ b s9) (pd) h) (xE (fun E => (kdSO b s9 = 1 ∧ E = nIA)) ad (fC g ad σ pd pl sc h)) 2 12 := by
  refine MM.start (by decide) (Nat.le_of_ble_eq_true rfl) ?_
  intro hl9 p e s m below meth c ls hC hno hI hl0
  have hx := hC.1.1
  have hb := hC.1.2.1
  have hts := hC.1.2.2.2.2
  have hl : lv_has ls 3 [(0, .ref (ad 0 0)), (1, .int b), (2, .int s9)] := hl0
  obtain ⟨H, hH⟩ : ∃ H, H = s.heap := ⟨_, rfl⟩
  obtain ⟨locs, hLo⟩ : ∃ L : List Loc, L = [] := ⟨_, rfl⟩
  rw [← hH, ← hLo] at hI ⊢
  clear hH hLo hl0
  obtain ⟨hok, hP, hR, hF⟩ := id hIv
  obtain ⟨h17, h60, h10, h6, h5, h12, hpr, hrm⟩ := id hok
  have hT2 := hT.2
  refine lv_iload_n hx hb dX6_setOutside_0 rfl (lv_at hl 1 rfl) ?_
  refine lv_sipush (v := (-300)) hx hb dX6_setOutside_1 (by decide) ?_
  refine lv_sipush (v := 400) hx hb dX6_setOutside_4 (by decide) ?_
  refine x_S (rest := []) hl9 hC hI hl.1 (tX6_requireWithin l g B0 ad _ b (-300) 400) (cw_X6_61 hts rfl rfl ⟨(Nat.le_of_ble_eq_true rfl), (Nat.le_of_ble_eq_true rfl)⟩) rfl rfl (Nat.le_of_ble_eq_true rfl) dX6_setOutside_7 ⟨(Nat.le_of_ble_eq_true rfl), (Nat.le_of_ble_eq_true rfl)⟩ hno (Nat.le_of_ble_eq_true rfl) (Nat.le_of_ble_eq_true rfl) (fun E a w hx => ⟨⟨if_neg (fun z => hx.1.2 z.1), hx.1.1⟩, hx.2.1, hx.2.2⟩) (fun v ad1 w H locs hR hI => ?_)
  obtain ⟨hq1, rfl, ha9, rfl⟩ := hR; obtain rfl := ha9.symm
  refine lv_iload_n hx hb dX6_setOutside_10 rfl (lv_at hl 2 rfl) ?_
  refine lv_iconst (v := 0) hx hb dX6_setOutside_11 (by decide) ?_
  refine lv_sipush (v := 200) hx hb dX6_setOutside_12 (by decide) ?_
  refine x_S (rest := []) hl9 hC hI hl.1 (tX6_requireWithin l g B0 ad _ s9 0 200) (cw_X6_61 hts rfl rfl ⟨(Nat.le_of_ble_eq_true rfl), (Nat.le_of_ble_eq_true rfl)⟩) rfl rfl (Nat.le_of_ble_eq_true rfl) dX6_setOutside_15 ⟨(Nat.le_of_ble_eq_true rfl), (Nat.le_of_ble_eq_true rfl)⟩ hno (Nat.le_of_ble_eq_true rfl) (Nat.le_of_ble_eq_true rfl) (fun E a w hx => ⟨⟨if_neg (fun z => hx.1.2 z.2), hx.1.1⟩, hx.2.1, hx.2.2⟩) (fun v ad1 w H locs hR hI => ?_)
  obtain ⟨hq2, rfl, ha9, rfl⟩ := hR; obtain rfl := ha9.symm
  refine lv_aload_n hx hb dX6_setOutside_18 rfl (lv_at hl 0 rfl) ?_
  refine gf_X6_10 hC hI fC_0 rfl dX6_setOutside_19 ?_
  refine lv_iload_n hx hb dX6_setOutside_22 rfl (lv_at hl 1 rfl) ?_
  refine pf_X6_65 hC hI fC_1 (Nat.le_of_ble_eq_true rfl) dX6_setOutside_23 (fun H locs hI => ?_)
  have hI : WI g ad B0 (up2 (fC g ad σ pd pl sc h) 1 0 (.inr (0, [.int b, .int (σ 3 0)]))) s H locs := hI.cast (rfl)
  refine lv_aload_n hx hb dX6_setOutside_26 rfl (lv_at hl 0 rfl) ?_
  refine gf_X6_10 hC hI ((up2_n _ _ (by omega)).trans fC_0) rfl dX6_setOutside_27 ?_
  refine lv_iload_n hx hb dX6_setOutside_30 rfl (lv_at hl 2 rfl) ?_
  refine pf_X6_68 hC hI (up2_s _ _ _ _) (Nat.le_of_ble_eq_true rfl) dX6_setOutside_31 (fun H locs hI => ?_)
  have hI : WI g ad B0 (up2 (fC g ad σ pd pl sc h) 1 0 (.inr (0, [.int b, .int s9]))) s H locs := hI.cast (up2_up2 _ _ _ _ _)
  have hI : WI g ad B0 (fC g ad (ss (ss σ 2 b) 3 s9) pd pl sc h) s H locs := hI.cast (fC_air)
  refine lv_aload_n hx hb dX6_setOutside_34 rfl (lv_at hl 0 rfl) ?_
  refine gf_X6_10 hC hI fC_0 rfl dX6_setOutside_35 ?_
  refine lv_aload_n hx hb dX6_setOutside_38 rfl (lv_at hl 0 rfl) ?_
  refine gf_X6_54 hC hI fC_0 rfl dX6_setOutside_39 ?_
  rw [show (ss (ss σ 2 b) 3 s9) 1 0 = nI (cN (σ 1 0)) from hT.1]
  refine c_Vi (rest := []) hl9 hC hI hl.1 (tX0_temperatureAt l g B0 ad _ ((ss (ss σ 2 b) 3 s9) 2 0) ((ss (ss σ 2 b) 3 s9) 3 0) (cN (σ 1 0)) (by omega) fC_1) (cw_X6_71 hts rfl rfl ⟨(Nat.le_of_ble_eq_true rfl), (Nat.le_of_ble_eq_true rfl)⟩) fC_1 rfl rfl rfl rfl (Nat.le_of_ble_eq_true rfl) dX6_setOutside_42 ⟨(Nat.le_of_ble_eq_true rfl), (Nat.le_of_ble_eq_true rfl)⟩ (fun H locs hI => ?_)
  rw [outA_S]
  exact e_int hC hI ⟨if_pos ⟨hq1, hq2⟩, rfl, fun _ _ _ => rfl, pl, sc, PlOk_congr hP rfl rfl rfl rfl, rfl⟩ (Nat.le_of_ble_eq_true rfl) (Nat.le_of_ble_eq_true rfl) dX6_setOutside_45
set_option maxHeartbeats 4000000 in
set_option maxRecDepth 100000 in
theorem tX6_room (l : Launch) (g : Gg) (B0 : Nat) (ad : Ad) (σ : Sg) (pd : Int64) (pl : Pl) (sc : Sg) (h : Wd) (v w : Int32) (hIv : Iv σ pl)  : MM l g B0 yX6_room (wsM yX6_room cX6_room 4 (some .int)) ({ frames := 7, cells := 2, slots := 12, locals := 112 } : Room) [.ref (ad 0 0), .int v, .int w] ad (fC g ad σ pd pl sc h) (rC g ad (kdRO σ v w) (toldR σ (cN v) (cN w)) (σ) (pd) h) (xE (fun E => (kdRO σ v w = 1 ∧ E = nIO)) ad (fC g ad σ pd pl sc h)) 2 12 := by
  refine MM.start (by decide) (Nat.le_of_ble_eq_true rfl) ?_
  intro hl9 p e s m below meth c ls hC hno hI hl0
  have hx := hC.1.1
  have hb := hC.1.2.1
  have hts := hC.1.2.2.2.2
  have hl : lv_has ls 4 [(0, .ref (ad 0 0)), (1, .int v), (2, .int w)] := hl0
  obtain ⟨H, hH⟩ : ∃ H, H = s.heap := ⟨_, rfl⟩
  obtain ⟨locs, hLo⟩ : ∃ L : List Loc, L = [] := ⟨_, rfl⟩
  rw [← hH, ← hLo] at hI ⊢
  clear hH hLo hl0
  obtain ⟨hok, hP, hR, hF⟩ := id hIv
  obtain ⟨h17, h60, h10, h6, h5, h12, hpr, hrm⟩ := id hok
  refine lv_aload_n hx hb dX6_room_0 rfl (lv_at hl 0 rfl) ?_
  refine lv_iload_n hx hb dX6_room_1 rfl (lv_at hl 1 rfl) ?_
  refine x_V (rest := []) hl9 hC hI hl.1 (tX6_existingRoom l g B0 ad σ pd pl sc h v hok) (cw_X6_94 hts rfl rfl ⟨(Nat.le_of_ble_eq_true rfl), (Nat.le_of_ble_eq_true rfl)⟩) fC_0 rfl rfl rfl rfl (Nat.le_of_ble_eq_true rfl) dX6_room_2 ⟨(Nat.le_of_ble_eq_true rfl), (Nat.le_of_ble_eq_true rfl)⟩ hno (Nat.le_of_ble_eq_true rfl) (Nat.le_of_ble_eq_true rfl) (fun E a w hx => ⟨⟨if_neg (fun z => hx.1.2 z.1), hx.1.1⟩, hx.2.1, hx.2.2⟩) (fun v ad1 w H locs hR hI => ?_)
  obtain ⟨hin, rfl, ha9, rfl⟩ := hR; obtain rfl := ha9.symm
  obtain ⟨r, hr, rfl⟩ := (in_cnt h10 (by omega)).mp (id hin)
  rw [show cN (nI r) = r from cN_nI (by omega)]
  have hcr : cN (nI r) = r := cN_nI (by omega)
  refine lv_astore_n (lv' := [(3, .ref (ad 8 r)), (0, .ref (ad 0 0)), (1, .int (nI r)), (2, .int w)]) hx hb dX6_room_5 rfl hl (by decide) rfl (fun ls hl => ?_)
  refine lv_iload_n hx hb dX6_room_6 rfl (lv_at hl 3 rfl) ?_
  refine lv_bipush (v := 7) hx hb dX6_room_7 (by decide) ?_
  refine x_S (rest := []) hl9 hC hI hl.1 (tX6_requireFact l g B0 ad _ w 7) (cw_X6_122 hts rfl rfl ⟨(Nat.le_of_ble_eq_true rfl), (Nat.le_of_ble_eq_true rfl)⟩) rfl rfl (Nat.le_of_ble_eq_true rfl) dX6_room_9 ⟨(Nat.le_of_ble_eq_true rfl), (Nat.le_of_ble_eq_true rfl)⟩ hno (Nat.le_of_ble_eq_true rfl) (Nat.le_of_ble_eq_true rfl) (fun E a w hx => ⟨⟨if_neg (fun z => hx.1.2 ⟨z.2.1, (le_lt1 6 7 rfl).mp z.2.2⟩), hx.1.1⟩, hx.2.1, hx.2.2⟩) (fun v ad1 w H locs hR hI => ?_)
  obtain ⟨hq1, rfl, ha9, rfl⟩ := hR; obtain rfl := ha9.symm
  obtain ⟨i, hi, rfl⟩ := (fact_n (n := 7) (by decide)).mp hq1
  have hci : cN (nI i) = i := cN_nI (by omega)
  refine lv_aload_n hx hb dX6_room_12 rfl (lv_at hl 0 rfl) ?_
  refine lv_iload_n hx hb dX6_room_13 rfl (lv_at hl 3 rfl) ?_
  refine c_Vi (rest := []) hl9 hC hI hl.1 (tX4_fact l g B0 ad σ pd pl sc h r hr (nI i) hok hP hR) (cw_X6_126 hts rfl rfl ⟨(Nat.le_of_ble_eq_true rfl), (Nat.le_of_ble_eq_true rfl)⟩) (fC_8 hr) rfl rfl rfl rfl (Nat.le_of_ble_eq_true rfl) dX6_room_14 ⟨(Nat.le_of_ble_eq_true rfl), (Nat.le_of_ble_eq_true rfl)⟩ (fun H locs hI => ?_)
  exact e_int hC hI ⟨if_pos ⟨hin, hq1.1, (le_lt1 6 7 rfl).mpr hq1.2⟩, by rw [hci, ← told_eq σ r i hi], fun _ _ _ => rfl, pl, sc, hP, rfl⟩ (Nat.le_of_ble_eq_true rfl) (Nat.le_of_ble_eq_true rfl) dX6_room_17
set_option maxHeartbeats 4000000 in
set_option maxRecDepth 100000 in
theorem tX6_pallet (l : Launch) (g : Gg) (B0 : Nat) (ad : Ad) (σ : Sg) (pd : Int64) (pl : Pl) (sc : Sg) (h : Wd) (u w : Int32) (hIv : Iv σ pl)  : MM l g B0 yX6_pallet (wsM yX6_pallet cX6_pallet 4 (some .int)) ({ frames := 7, cells := 2, slots := 12, locals := 112 } : Room) [.ref (ad 0 0), .int u, .int w] ad (fC g ad σ pd pl sc h) (rC g ad (kdPA σ u w) (toldP σ (cN u) w) (σ) (pd) h) (xE (fun E => (kdPA σ u w = 1 ∧ E = nIO)) ad (fC g ad σ pd pl sc h)) 2 12 := by
  refine MM.start (by decide) (Nat.le_of_ble_eq_true rfl) ?_
  intro hl9 p e s m below meth c ls hC hno hI hl0
  have hx := hC.1.1
  have hb := hC.1.2.1
  have hts := hC.1.2.2.2.2
  have hl : lv_has ls 4 [(0, .ref (ad 0 0)), (1, .int u), (2, .int w)] := hl0
  obtain ⟨H, hH⟩ : ∃ H, H = s.heap := ⟨_, rfl⟩
  obtain ⟨locs, hLo⟩ : ∃ L : List Loc, L = [] := ⟨_, rfl⟩
  rw [← hH, ← hLo] at hI ⊢
  clear hH hLo hl0
  obtain ⟨hok, hP, hR, hF⟩ := id hIv
  obtain ⟨h17, h60, h10, h6, h5, h12, hpr, hrm⟩ := id hok
  refine lv_aload_n hx hb dX6_pallet_0 rfl (lv_at hl 0 rfl) ?_
  refine lv_iload_n hx hb dX6_pallet_1 rfl (lv_at hl 1 rfl) ?_
  refine x_V (rest := []) hl9 hC hI hl.1 (tX6_existingPallet l g B0 ad σ pd pl sc h u hok) (cw_X6_150 hts rfl rfl ⟨(Nat.le_of_ble_eq_true rfl), (Nat.le_of_ble_eq_true rfl)⟩) fC_0 rfl rfl rfl rfl (Nat.le_of_ble_eq_true rfl) dX6_pallet_2 ⟨(Nat.le_of_ble_eq_true rfl), (Nat.le_of_ble_eq_true rfl)⟩ hno (Nat.le_of_ble_eq_true rfl) (Nat.le_of_ble_eq_true rfl) (fun E a w hx => ⟨⟨if_neg (fun z => hx.1.2 z.1), hx.1.1⟩, hx.2.1, hx.2.2⟩) (fun v ad1 w H locs hR hI => ?_)
  obtain ⟨hin, rfl, ha9, rfl⟩ := hR; obtain rfl := ha9.symm
  obtain ⟨q, hq, rfl⟩ := (in_cnt h17 (by omega)).mp (id hin)
  rw [show cN (nI q) = q from cN_nI (by omega)]
  have hcq : cN (nI q) = q := cN_nI (by omega)
  refine lv_astore_n (lv' := [(3, .ref (ad 12 q)), (0, .ref (ad 0 0)), (1, .int (nI q)), (2, .int w)]) hx hb dX6_pallet_5 rfl hl (by decide) rfl (fun ls hl => ?_)
  refine lv_iload_n hx hb dX6_pallet_6 rfl (lv_at hl 3 rfl) ?_
  refine lv_iconst (v := 5) hx hb dX6_pallet_7 (by decide) ?_
  refine x_S (rest := []) hl9 hC hI hl.1 (tX6_requireFact l g B0 ad _ w 5) (cw_X6_122 hts rfl rfl ⟨(Nat.le_of_ble_eq_true rfl), (Nat.le_of_ble_eq_true rfl)⟩) rfl rfl (Nat.le_of_ble_eq_true rfl) dX6_pallet_8 ⟨(Nat.le_of_ble_eq_true rfl), (Nat.le_of_ble_eq_true rfl)⟩ hno (Nat.le_of_ble_eq_true rfl) (Nat.le_of_ble_eq_true rfl) (fun E a w hx => ⟨⟨if_neg (fun z => hx.1.2 ⟨z.2.1, (le_lt1 4 5 rfl).mp z.2.2⟩), hx.1.1⟩, hx.2.1, hx.2.2⟩) (fun v ad1 w H locs hR hI => ?_)
  obtain ⟨hq1, rfl, ha9, rfl⟩ := hR; obtain rfl := ha9.symm
  refine lv_aload_n hx hb dX6_pallet_11 rfl (lv_at hl 0 rfl) ?_
  refine lv_iload_n hx hb dX6_pallet_12 rfl (lv_at hl 3 rfl) ?_
  refine c_Vi (rest := []) hl9 hC hI hl.1 (tX2_fact l g B0 ad σ pd pl sc h q w hok hq) (cw_X6_170 hts rfl rfl ⟨(Nat.le_of_ble_eq_true rfl), (Nat.le_of_ble_eq_true rfl)⟩) (fC_12 hq) rfl rfl rfl rfl (Nat.le_of_ble_eq_true rfl) dX6_pallet_13 ⟨(Nat.le_of_ble_eq_true rfl), (Nat.le_of_ble_eq_true rfl)⟩ (fun H locs hI => ?_)
  exact e_int hC hI ⟨if_pos ⟨hin, hq1.1, (le_lt1 4 5 rfl).mpr hq1.2⟩, rfl, fun _ _ _ => rfl, pl, sc, hP, rfl⟩ (Nat.le_of_ble_eq_true rfl) (Nat.le_of_ble_eq_true rfl) dX6_pallet_16
set_option maxHeartbeats 4000000 in
set_option maxRecDepth 100000 in
theorem tX6_count (l : Launch) (g : Gg) (B0 : Nat) (ad : Ad) (σ : Sg) (pd : Int64) (pl : Pl) (sc : Sg) (h : Wd) (w : Int32) (hIv : Iv σ pl)  : MM l g B0 yX6_count (wsM yX6_count cX6_count 2 (some .int)) ({ frames := 7, cells := 1, slots := 6, locals := 111 } : Room) [.ref (ad 0 0), .int w] ad (fC g ad σ pd pl sc h) (rC g ad (kdCO w) (cntS σ w) (σ) (pd) h) (xE (fun E => (kdCO w = 1 ∧ E = nIO)) ad (fC g ad σ pd pl sc h)) 1 6 := by
  refine MM.start (by decide) (Nat.le_of_ble_eq_true rfl) ?_
  intro hl9 p e s m below meth c ls hC hno hI hl0
  have hx := hC.1.1
  have hb := hC.1.2.1
  have hts := hC.1.2.2.2.2
  have hl : lv_has ls 2 [(0, .ref (ad 0 0)), (1, .int w)] := hl0
  obtain ⟨H, hH⟩ : ∃ H, H = s.heap := ⟨_, rfl⟩
  obtain ⟨locs, hLo⟩ : ∃ L : List Loc, L = [] := ⟨_, rfl⟩
  rw [← hH, ← hLo] at hI ⊢
  clear hH hLo hl0
  obtain ⟨hok, hP, hR, hF⟩ := id hIv
  obtain ⟨h17, h60, h10, h6, h5, h12, hpr, hrm⟩ := id hok
  refine lv_iload_n hx hb dX6_count_0 rfl (lv_at hl 1 rfl) ?_
  refine lv_iconst (v := 5) hx hb dX6_count_1 (by decide) ?_
  refine x_S (rest := []) hl9 hC hI hl.1 (tX6_requireFact l g B0 ad _ w 5) (cw_X6_122 hts rfl rfl ⟨(Nat.le_of_ble_eq_true rfl), (Nat.le_of_ble_eq_true rfl)⟩) rfl rfl (Nat.le_of_ble_eq_true rfl) dX6_count_2 ⟨(Nat.le_of_ble_eq_true rfl), (Nat.le_of_ble_eq_true rfl)⟩ hno (Nat.le_of_ble_eq_true rfl) (Nat.le_of_ble_eq_true rfl) (fun E a w hx => ⟨⟨if_neg (fun z => hx.1.2 ⟨z.1, (le_lt1 4 5 rfl).mp z.2⟩), hx.1.1⟩, hx.2.1, hx.2.2⟩) (fun v ad1 w H locs hR hI => ?_)
  obtain ⟨hq1, rfl, ha9, rfl⟩ := hR; obtain rfl := ha9.symm
  refine lv_aload_n hx hb dX6_count_5 rfl (lv_at hl 0 rfl) ?_
  refine lv_iload_n hx hb dX6_count_6 rfl (lv_at hl 1 rfl) ?_
  refine c_Vi (rest := []) hl9 hC hI hl.1 (tX6_countOf l g B0 ad σ pd pl sc h w hok) (cw_X6_197 hts rfl rfl ⟨(Nat.le_of_ble_eq_true rfl), (Nat.le_of_ble_eq_true rfl)⟩) fC_0 rfl rfl rfl rfl (Nat.le_of_ble_eq_true rfl) dX6_count_7 ⟨(Nat.le_of_ble_eq_true rfl), (Nat.le_of_ble_eq_true rfl)⟩ (fun H locs hI => ?_)
  exact e_int hC hI ⟨if_pos ⟨hq1.1, (le_lt1 4 5 rfl).mpr hq1.2⟩, rfl, fun _ _ _ => rfl, pl, sc, hP, rfl⟩ (Nat.le_of_ble_eq_true rfl) (Nat.le_of_ble_eq_true rfl) dX6_count_10
set_option maxHeartbeats 4000000 in
set_option maxRecDepth 100000 in
theorem tX6_now (l : Launch) (g : Gg) (B0 : Nat) (ad : Ad) (σ : Sg) (pd : Int64) (pl : Pl) (sc : Sg) (h : Wd)  : MM l g B0 yX6_now (wsM yX6_now cX6_now 1 (some .int)) ({ frames := 0, cells := 0, slots := 0, locals := 0 } : Room) [.ref (ad 0 0)] ad (fC g ad σ pd pl sc h) (dI (σ 1 0) ad (fC g ad σ pd pl sc h)) (noX) 0 0 := by
  refine MM.start (by decide) (Nat.le_of_ble_eq_true rfl) ?_
  intro hl9 p e s m below meth c ls hC hno hI hl0
  have hx := hC.1.1
  have hb := hC.1.2.1
  have hts := hC.1.2.2.2.2
  have hl : lv_has ls 1 [(0, .ref (ad 0 0))] := hl0
  obtain ⟨H, hH⟩ : ∃ H, H = s.heap := ⟨_, rfl⟩
  obtain ⟨locs, hLo⟩ : ∃ L : List Loc, L = [] := ⟨_, rfl⟩
  rw [← hH, ← hLo] at hI ⊢
  clear hH hLo hl0
  refine lv_aload_n hx hb dX6_now_0 rfl (lv_at hl 0 rfl) ?_
  refine gf_X6_54 hC hI fC_0 rfl dX6_now_1 ?_
  exact e_int hC hI ⟨rfl, rfl, rfl⟩ (Nat.le_of_ble_eq_true rfl) (Nat.le_of_ble_eq_true rfl) dX6_now_4
set_option maxHeartbeats 4000000 in
set_option maxRecDepth 100000 in
theorem tX6_paid (l : Launch) (g : Gg) (B0 : Nat) (ad : Ad) (σ : Sg) (pd : Int64) (pl : Pl) (sc : Sg) (h : Wd)  : MM l g B0 yX6_paid (wsM yX6_paid cX6_paid 1 (some .long)) ({ frames := 0, cells := 0, slots := 0, locals := 0 } : Room) [.ref (ad 0 0)] ad (fC g ad σ pd pl sc h) (dL pd ad (fC g ad σ pd pl sc h)) (noX) 0 0 := by
  refine MM.start (by decide) (Nat.le_of_ble_eq_true rfl) ?_
  intro hl9 p e s m below meth c ls hC hno hI hl0
  have hx := hC.1.1
  have hb := hC.1.2.1
  have hts := hC.1.2.2.2.2
  have hl : lv_has ls 1 [(0, .ref (ad 0 0))] := hl0
  obtain ⟨H, hH⟩ : ∃ H, H = s.heap := ⟨_, rfl⟩
  obtain ⟨locs, hLo⟩ : ∃ L : List Loc, L = [] := ⟨_, rfl⟩
  rw [← hH, ← hLo] at hI ⊢
  clear hH hLo hl0
  refine lv_aload_n hx hb dX6_paid_0 rfl (lv_at hl 0 rfl) ?_
  refine gf_X6_57 hC hI fC_0 rfl dX6_paid_1 ?_
  exact e_long hC hI (rL rfl) (Nat.le_of_ble_eq_true rfl) (Nat.le_of_ble_eq_true rfl) dX6_paid_4
set_option maxHeartbeats 4000000 in
set_option maxRecDepth 100000 in
theorem tX6_setRoom (l : Launch) (g : Gg) (B0 : Nat) (ad : Ad) (σ : Sg) (pd : Int64) (pl : Pl) (sc : Sg) (h : Wd) (v aim b : Int32) (hb9 : narrow .boolean (.int b) = .int b) (hb8 : fits .boolean (.int b) = true) (hIv : Iv σ pl)  : MM l g B0 yX6_setRoom (wsM yX6_setRoom cX6_setRoom 6 (some .int)) ({ frames := 7, cells := 2, slots := 12, locals := 112 } : Room) [.ref (ad 0 0), .int v, .int aim, .int b] ad (fC g ad σ pd pl sc h) (rC g ad (kdSR σ v aim) (σ 14 (cN v)) (stSR σ v aim b) (pd) h) (xE (fun E => (kdSR σ v aim = 1 ∧ E = nIO) ∨ (kdSR σ v aim = 2 ∧ E = nIA)) ad (fC g ad σ pd pl sc h)) 2 12 := by
  refine MM.start (by decide) (Nat.le_of_ble_eq_true rfl) ?_
  intro hl9 p e s m below meth c ls hC hno hI hl0
  have hx := hC.1.1
  have hb := hC.1.2.1
  have hts := hC.1.2.2.2.2
  have hl : lv_has ls 6 [(0, .ref (ad 0 0)), (1, .int v), (2, .int aim), (3, .int b)] := hl0
  obtain ⟨H, hH⟩ : ∃ H, H = s.heap := ⟨_, rfl⟩
  obtain ⟨locs, hLo⟩ : ∃ L : List Loc, L = [] := ⟨_, rfl⟩
  rw [← hH, ← hLo] at hI ⊢
  clear hH hLo hl0
  obtain ⟨hok, hP, hR, hF⟩ := id hIv
  obtain ⟨h17, h60, h10, h6, h5, h12, hpr, hrm⟩ := id hok
  refine lv_aload_n hx hb dX6_setRoom_0 rfl (lv_at hl 0 rfl) ?_
  refine lv_iload_n hx hb dX6_setRoom_1 rfl (lv_at hl 1 rfl) ?_
  refine x_V (rest := []) hl9 hC hI hl.1 (tX6_existingRoom l g B0 ad σ pd pl sc h v hok) (cw_X6_94 hts rfl rfl ⟨(Nat.le_of_ble_eq_true rfl), (Nat.le_of_ble_eq_true rfl)⟩) fC_0 rfl rfl rfl rfl (Nat.le_of_ble_eq_true rfl) dX6_setRoom_2 ⟨(Nat.le_of_ble_eq_true rfl), (Nat.le_of_ble_eq_true rfl)⟩ hno (Nat.le_of_ble_eq_true rfl) (Nat.le_of_ble_eq_true rfl) (fun E a w hx => ⟨Or.inl ⟨if_neg hx.1.2, hx.1.1⟩, hx.2.1, hx.2.2⟩) (fun v ad1 w H locs hR hI => ?_)
  obtain ⟨hin, rfl, ha9, rfl⟩ := hR; obtain rfl := ha9.symm
  obtain ⟨r, hr, rfl⟩ := (in_cnt h10 (by omega)).mp (id hin)
  rw [show cN (nI r) = r from cN_nI (by omega)]
  have hcr : cN (nI r) = r := cN_nI (by omega)
  refine lv_astore (lv' := [(4, .ref (ad 8 r)), (0, .ref (ad 0 0)), (1, .int (nI r)), (2, .int aim), (3, .int b)]) hx hb dX6_setRoom_5 hl (by decide) rfl (fun ls hl => ?_)
  refine lv_iload_n hx hb dX6_setRoom_7 rfl (lv_at hl 3 rfl) ?_
  refine lv_sipush (v := (-300)) hx hb dX6_setRoom_8 (by decide) ?_
  refine lv_sipush (v := 150) hx hb dX6_setRoom_11 (by decide) ?_
  refine x_S (rest := []) hl9 hC hI hl.1 (tX6_requireWithin l g B0 ad _ aim (-300) 150) (cw_X6_61 hts rfl rfl ⟨(Nat.le_of_ble_eq_true rfl), (Nat.le_of_ble_eq_true rfl)⟩) rfl rfl (Nat.le_of_ble_eq_true rfl) dX6_setRoom_14 ⟨(Nat.le_of_ble_eq_true rfl), (Nat.le_of_ble_eq_true rfl)⟩ hno (Nat.le_of_ble_eq_true rfl) (Nat.le_of_ble_eq_true rfl) (fun E a w hx => ⟨Or.inr ⟨(if_pos hin).trans (if_neg hx.1.2), hx.1.1⟩, hx.2.1, hx.2.2⟩) (fun v ad1 w H locs hR hI => ?_)
  obtain ⟨hq1, rfl, ha9, rfl⟩ := hR; obtain rfl := ha9.symm
  refine lv_aload hx hb dX6_setRoom_17 (lv_at hl 0 rfl) ?_
  refine gf_X6_98 hC hI (fC_8 hr) rfl dX6_setRoom_19 ?_
  refine lv_istore (lv' := [(5, .int (σ 14 r)), (4, .ref (ad 8 r)), (0, .ref (ad 0 0)), (1, .int (nI r)), (2, .int aim), (3, .int b)]) hx hb dX6_setRoom_22 hl (by decide) rfl (fun ls hl => ?_)
  refine lv_aload hx hb dX6_setRoom_24 (lv_at hl 1 rfl) ?_
  refine lv_iload_n hx hb dX6_setRoom_26 rfl (lv_at hl 4 rfl) ?_
  refine pf_X6_98 hC hI (fC_8 hr) (Nat.le_of_ble_eq_true rfl) dX6_setRoom_27 (fun H locs hI => ?_)
  have hI : WI g ad B0 (up2 (fC g ad σ pd pl sc h) 8 r (.inr (4, [.int (nI r), .int (σ 12 r), .ref (ad 9 r), .ref (ad 11 r), .int aim, .int (σ 15 r), .int (σ 16 (6 * r)), .int (σ 16 (6 * r + 5)), .ref (ad 10 r), .int (sc 0 r), .int (sc 1 r)]))) s H locs := hI.cast (rfl)
  refine lv_aload hx hb dX6_setRoom_30 (lv_at hl 1 rfl) ?_
  refine lv_iload_n hx hb dX6_setRoom_32 rfl (lv_at hl 5 rfl) ?_
  refine pf_X6_101 hC hI (up2_s _ _ _ _) hb9 hb8 (Nat.le_of_ble_eq_true rfl) dX6_setRoom_33 (fun H locs hI => ?_)
  have hI : WI g ad B0 (up2 (fC g ad σ pd pl sc h) 8 r (.inr (4, [.int (nI r), .int (σ 12 r), .ref (ad 9 r), .ref (ad 11 r), .int aim, .int b, .int (σ 16 (6 * r)), .int (σ 16 (6 * r + 5)), .ref (ad 10 r), .int (sc 0 r), .int (sc 1 r)]))) s H locs := hI.cast (up2_up2 _ _ _ _ _)
  have hI : WI g ad B0 (fC g ad (s1 (s1 σ 14 r aim) 15 r b) pd pl sc h) s H locs := hI.cast (fC_aim hr)
  refine lv_iload hx hb dX6_setRoom_36 (lv_at hl 0 rfl) ?_
  exact e_int hC hI ⟨(if_pos hin).trans (if_pos hq1), rfl, fun _ _ _ => rfl, pl, sc, PlOk_congr hP rfl rfl rfl rfl, by unfold stSR; rw [hcr]⟩ (Nat.le_of_ble_eq_true rfl) (Nat.le_of_ble_eq_true rfl) dX6_setRoom_38
set_option maxHeartbeats 4000000 in
set_option maxRecDepth 100000 in
theorem tX6_defrost (l : Launch) (g : Gg) (B0 : Nat) (ad : Ad) (σ : Sg) (pd : Int64) (pl : Pl) (sc : Sg) (h : Wd) (v : Int32) (hIv : Iv σ pl)  : MM l g B0 yX6_defrost (wsM yX6_defrost cX6_defrost 3 (some .int)) ({ frames := 7, cells := 2, slots := 12, locals := 112 } : Room) [.ref (ad 0 0), .int v] ad (fC g ad σ pd pl sc h) (rC g ad (kdDF σ v) (σ 16 (6 * cN v + 1)) (stDF σ v) (pd) h) (xE (fun E => (kdDF σ v = 1 ∧ E = nIO) ∨ (kdDF σ v = 2 ∧ E = nIS)) ad (fC g ad σ pd pl sc h)) 2 12 := by
  refine MM.start (by decide) (Nat.le_of_ble_eq_true rfl) ?_
  intro hl9 p e s m below meth c ls hC hno hI hl0
  have hx := hC.1.1
  have hb := hC.1.2.1
  have hts := hC.1.2.2.2.2
  have hl : lv_has ls 3 [(0, .ref (ad 0 0)), (1, .int v)] := hl0
  obtain ⟨H, hH⟩ : ∃ H, H = s.heap := ⟨_, rfl⟩
  obtain ⟨locs, hLo⟩ : ∃ L : List Loc, L = [] := ⟨_, rfl⟩
  rw [← hH, ← hLo] at hI ⊢
  clear hH hLo hl0
  obtain ⟨hok, hP, hR, hF⟩ := id hIv
  obtain ⟨h17, h60, h10, h6, h5, h12, hpr, hrm⟩ := id hok
  refine lv_aload_n hx hb dX6_defrost_0 rfl (lv_at hl 0 rfl) ?_
  refine lv_iload_n hx hb dX6_defrost_1 rfl (lv_at hl 1 rfl) ?_
  refine x_V (rest := []) hl9 hC hI hl.1 (tX6_existingRoom l g B0 ad σ pd pl sc h v hok) (cw_X6_94 hts rfl rfl ⟨(Nat.le_of_ble_eq_true rfl), (Nat.le_of_ble_eq_true rfl)⟩) fC_0 rfl rfl rfl rfl (Nat.le_of_ble_eq_true rfl) dX6_defrost_2 ⟨(Nat.le_of_ble_eq_true rfl), (Nat.le_of_ble_eq_true rfl)⟩ hno (Nat.le_of_ble_eq_true rfl) (Nat.le_of_ble_eq_true rfl) (fun E a w hx => ⟨Or.inl ⟨if_neg hx.1.2, hx.1.1⟩, hx.2.1, hx.2.2⟩) (fun v ad1 w H locs hR hI => ?_)
  obtain ⟨hin, rfl, ha9, rfl⟩ := hR; obtain rfl := ha9.symm
  obtain ⟨r, hr, rfl⟩ := (in_cnt h10 (by omega)).mp (id hin)
  rw [show cN (nI r) = r from cN_nI (by omega)]
  have hcr : cN (nI r) = r := cN_nI (by omega)
  refine gf_X6_105 hC hI (fC_8 hr) rfl dX6_defrost_5 ?_
  refine lv_astore_n (lv' := [(2, .ref (ad 9 r)), (0, .ref (ad 0 0)), (1, .int (nI r))]) hx hb dX6_defrost_8 rfl hl (by decide) rfl (fun ls hl => ?_)
  refine lv_aload_n hx hb dX6_defrost_9 rfl (lv_at hl 0 rfl) ?_
  refine gf_X6_109 hC hI (fC_9 hr) rfl dX6_defrost_10 ?_
  refine lv_iconst (v := 2) hx hb dX6_defrost_13 (by decide) ?_
  refine lv_icmp_ne (tgt := 27) hx hb dX6_defrost_14 (by decide) (fun c14 => ?_) (fun c14 => ?_)
  · refine lv_aload_n hx hb dX6_defrost_27 rfl (lv_at hl 0 rfl) ?_
    refine c_Vv (rest := []) hl9 hC hI hl.1 (tX1_beginDefrosting l g B0 ad _ 9 r _ _ _ _ _ (fC_9 hr)) (cw_X6_116 hts rfl rfl ⟨(Nat.le_of_ble_eq_true rfl), (Nat.le_of_ble_eq_true rfl)⟩) (fC_9 hr) rfl rfl rfl rfl (Nat.le_of_ble_eq_true rfl) dX6_defrost_28 ⟨(Nat.le_of_ble_eq_true rfl), (Nat.le_of_ble_eq_true rfl)⟩ (fun H locs hI => ?_)
    have hI : WI g ad B0 (fC g ad (s1 (s1 σ 16 (6 * r + 2) 2) 16 (6 * r + 3) 3) pd pl sc h) s H locs := hI.cast (fC_df hr)
    refine lv_aload_n hx hb dX6_defrost_31 rfl (lv_at hl 0 rfl) ?_
    refine gf_X6_119 hC hI (fC_9 hr) rfl dX6_defrost_32 ?_
    rw [show (s1 (s1 σ 16 (6 * r + 2) 2) 16 (6 * r + 3) 3) 16 (6 * r + 1) = σ 16 (6 * r + 1) from (r16 (σ := s1 σ 16 (6 * r + 2) 2) (by omega)).trans (r16 (by omega))]
    exact e_int hC hI ⟨by unfold kdDF; rw [if_pos hin, hcr, if_neg c14], rfl, fun _ _ _ => rfl, pl, sc, PlOk_congr hP rfl rfl rfl rfl, by unfold stDF; rw [hcr]⟩ (Nat.le_of_ble_eq_true rfl) (Nat.le_of_ble_eq_true rfl) dX6_defrost_35
  · exact r_throw (E := nIS) (by decide) xIS_t xIS_b xIS_o wd_cl_X6_81 wd_in_java_lang_IllegalStateException (List.mem_of_getElem? (i := 4) rfl) hl9 hno hC hC.2.2.2.2.2.1.2.1.2.1 hI hl.1 ⟨Or.inr ⟨by unfold kdDF; rw [if_pos hin, hcr, if_pos c14], rfl⟩, rfl, rfl⟩ dX6_defrost_17 dX6_defrost_20 dX6_defrost_21 dX6_defrost_23 dX6_defrost_26 (Nat.le_of_ble_eq_true rfl) (Nat.le_of_ble_eq_true rfl) (Nat.le_of_ble_eq_true rfl) (Nat.le_of_ble_eq_true rfl) (Nat.le_of_ble_eq_true rfl) (Nat.le_of_ble_eq_true rfl)
