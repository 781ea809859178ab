/-! THE COLD STORE'S CALLS, second part -/
theorem mn_le (x y : Int32) : (mn x y).toInt ≤ x.toInt ∧ (mn x y).toInt ≤ y.toInt := by
  have := mn_i x y
  omega
theorem mn_or (x y : Int32) : mn x y = x ∨ mn x y = y := by
  unfold mn
  by_cases h : y < x
  · exact Or.inr (if_pos h)
  · exact Or.inl (if_neg h)
theorem lowAt_le (τ : Sg) : ∀ n j : Nat, j < n → (lowAt τ n).toInt ≤ (τ 4 j).toInt
  | 0, _, h => absurd h (Nat.not_lt_zero _)
  | n + 1, j, h => by
    show (mn (lowAt τ n) (τ 4 n)).toInt ≤ _
    have h1 := mn_le (lowAt τ n) (τ 4 n)
    by_cases hj : j = n
    · subst hj
      exact h1.2
    · exact Int.le_trans h1.1 (lowAt_le τ n j (by omega))
theorem lowAt_ex (τ : Sg) : ∀ n : Nat, ∃ j, j < n + 1 ∧ lowAt τ n = τ 4 j
  | 0 => ⟨0, by omega, rfl⟩
  | n + 1 => by
    obtain ⟨j, h1, h2⟩ := lowAt_ex τ n
    rcases mn_or (lowAt τ n) (τ 4 n) with e | e
    · exact ⟨j, by omega, e.trans h2⟩
    · exact ⟨n, by omega, e⟩
theorem lowAt_ex24 (τ : Sg) : ∃ j, j < 24 ∧ lowAt τ 24 = τ 4 j := by
  obtain ⟨j, h1, h2⟩ := lowAt_ex τ 23
  rcases mn_or (lowAt τ 23) (τ 4 23) with e | e
  · exact ⟨j, by omega, e.trans h2⟩
  · exact ⟨23, by omega, e⟩
theorem chF_at {fn : Nat → Int32} {F T : Nat} {p : Int32} {k : Nat} (hk : k < 24) : chF fn F T p (k + 1) k = chF fn F T p 24 k := by
  unfold chF
  by_cases h : F ≤ k ∧ k ≤ T
  · rw [if_pos ⟨h, by omega⟩, if_pos ⟨h, by omega⟩]
  · rw [if_neg (fun z => h z.1), if_neg (fun z => h z.1)]
theorem chL_le {fn : Nat → Int32} {F T : Nat} {p : Int32} : ∀ n j : Nat, n ≤ 24 → j < n → (chL fn F T p n).toInt ≤ (chF fn F T p 24 j).toInt
  | 0, _, _, h => absurd h (Nat.not_lt_zero _)
  | n + 1, j, hn, h => by
    show (mn (chL fn F T p n) (chF fn F T p (n + 1) n)).toInt ≤ _
    have h1 := mn_le (chL fn F T p n) (chF fn F T p (n + 1) n)
    by_cases hj : j = n
    · subst hj
      rw [← chF_at (by omega)]
      exact h1.2
    · exact Int.le_trans h1.1 (chL_le n j (by omega) (by omega))
theorem chL_ex {fn : Nat → Int32} {F T : Nat} {p : Int32} : ∀ n : Nat, n ≤ 24 → chL fn F T p n = p ∨ ∃ j, j < n ∧ chL fn F T p n = chF fn F T p 24 j
  | 0, _ => Or.inl rfl
  | n + 1, hn => by
    rcases mn_or (chL fn F T p n) (chF fn F T p (n + 1) n) with e | e
    · rcases chL_ex (fn := fn) (F := F) (T := T) (p := p) n (by omega) with h | ⟨j, h1, h2⟩
      · exact Or.inl (e.trans h)
      · exact Or.inr ⟨j, by omega, e.trans h2⟩
    · exact Or.inr ⟨n, by omega, e.trans (chF_at (by omega))⟩
theorem chL_low {σ : Sg} {F T : Nat} {p : Int32} (hF : F ≤ T) (hT : T < 24) : chL (σ 4) F T p 24 = lowS (su σ 4 (chF (σ 4) F T p 24)) := by
  have ep : p = chF (σ 4) F T p 24 F := (if_pos ⟨⟨Nat.le_refl _, hF⟩, by omega⟩).symm
  have e1 : ∃ j, j < 24 ∧ chL (σ 4) F T p 24 = chF (σ 4) F T p 24 j := by
    rcases chL_ex (fn := σ 4) (F := F) (T := T) (p := p) 24 (by omega) with h | h
    · exact ⟨F, by omega, h.trans ep⟩
    · exact h
  obtain ⟨j, h1, h2⟩ := e1
  obtain ⟨i, h3, h4⟩ := lowAt_ex24 (su σ 4 (chF (σ 4) F T p 24))
  have q1 := lowAt_le (su σ 4 (chF (σ 4) F T p 24)) 24 j h1
  have q2 := chL_le (fn := σ 4) (F := F) (T := T) (p := p) 24 i (by omega) h3
  have r4 : ∀ x, su σ 4 (chF (σ 4) F T p 24) 4 x = chF (σ 4) F T p 24 x := fun x => congrFun (su_s _ _ _) x
  rw [r4] at h4 q1
  refine Int32.toInt_inj.mp ?_
  show _ = (lowAt (su σ 4 (chF (σ 4) F T p 24)) 24).toInt
  have z1 := congrArg Int32.toInt h2
  have z2 := congrArg Int32.toInt h4
  omega
theorem chF_sp {σ : Sg} {F T : Nat} {p : Int32} (hT : T < 24) : chF (σ 4) F T p 24 = spF σ F p (T + 1) := by
  funext j
  unfold chF spF
  by_cases h : F ≤ j ∧ j < T + 1
  · rw [if_pos h, if_pos ⟨⟨h.1, by omega⟩, by omega⟩]
  · rw [if_neg h, if_neg (fun z => h ⟨z.1.1, by omega⟩)]
theorem kdSP_0 {f t p : Int32} (h1 : 0 ≤ f ∧ f ≤ t) (h2 : f ≤ t ∧ t ≤ 23) (h3 : 1 ≤ p ∧ p ≤ 100) : kdSP f t p = 0 := if_pos ⟨h1.1, h1.2, (le_lt1 23 24 rfl).mp h2.2, h3⟩
theorem tick_in {σ : Sg} {v : Int32} (hT : OkT σ) : (1 ≤ v ∧ v ≤ mn 200 (2000 - σ 1 0)) ↔ ((1 ≤ v ∧ v ≤ 200) ∧ σ 1 0 + v ≤ 2000) := by
  obtain ⟨h1, h2⟩ := hT
  have e1 : (σ 1 0).toInt = (cN (σ 1 0) : Nat) := by
    conv => lhs; rw [h1]
    exact nI_toInt (by omega)
  have z1 : (1 : Int32).toInt = 1 := rfl
  have z2 : (200 : Int32).toInt = 200 := rfl
  have z3 : (2000 : Int32).toInt = 2000 := rfl
  have e2 : (2000 - σ 1 0).toInt = 2000 - (σ 1 0).toInt := sub_i (a := 2000) (by omega) (by omega)
  have e3 := mn_i 200 (2000 - σ 1 0)
  rw [Int32.le_iff_toInt_le, Int32.le_iff_toInt_le, Int32.le_iff_toInt_le]
  constructor
  · rintro ⟨q1, q2⟩
    have e4 : (σ 1 0 + v).toInt = (σ 1 0).toInt + v.toInt := add_i (by omega) (by omega)
    exact ⟨⟨q1, by omega⟩, by rw [Int32.le_iff_toInt_le]; omega⟩
  · rintro ⟨⟨q1, q2⟩, q3⟩
    have e4 : (σ 1 0 + v).toInt = (σ 1 0).toInt + v.toInt := add_i (by omega) (by omega)
    rw [Int32.le_iff_toInt_le] at q3
    exact ⟨q1, by omega⟩
theorem tick_keep {x : Sg × Int64} {pl : Pl} {n : Nat} (h : Iv x.1 pl) (hB : Bn x.1 n) : ∀ k : Nat, n + k ≤ 2001 → Iv (tickAt x k).1 pl ∧ Bn (tickAt x k).1 (n + k)
  | 0, _ => ⟨h, hB⟩
  | k + 1, hk => by
    obtain ⟨h1, h2⟩ := tick_keep h hB k (by omega)
    exact oneHr_keep h1 h2 (show n + k ≤ 2000 by omega)
theorem tick_t {x : Sg × Int64} {t : Nat} (h : x.1 1 0 = nI t) : ∀ k : Nat, (tickAt x k).1 1 0 = nI (t + k)
  | 0 => h
  | k + 1 => by
    show (oneHr (tickAt x k)).1 1 0 = nI (t + (k + 1))
    show (tickAt x k).1 1 0 + 1 = _
    rw [tick_t h k, nI_1]
    rfl

set_option maxHeartbeats 4000000 in
set_option maxRecDepth 100000 in
theorem tX6_setPrice (l : Launch) (g : Gg) (B0 : Nat) (ad : Ad) (σ : Sg) (pd : Int64) (pl : Pl) (sc : Sg) (h : Wd) (a b c9 : Int32) (hIv : Iv σ pl)  : MM l g B0 yX6_setPrice (wsM yX6_setPrice cX6_setPrice 4 (some .int)) ({ frames := 7, cells := 3, slots := 18, locals := 112 } : Room) [.ref (ad 0 0), .int a, .int b, .int c9] ad (fC g ad σ pd pl sc h) (rC g ad (kdSP a b c9) (lowS (stSP σ a b c9)) (stSP σ a b c9) (pd) h) (xE (fun E => (kdSP a b c9 = 1 ∧ E = nIA)) ad (fC g ad σ pd pl sc h)) 3 18 := by
  refine MM.start (by decide) (Nat.le_of_ble_eq_true rfl) ?_
  intro hl9 p e s m below meth c ls hC hno hI hl0
  have hx := hC.1.1
  have hb := hC.1.2.1
  have hts := hC.1.2.2.2.2
  have hl : lv_has ls 4 [(0, .ref (ad 0 0)), (1, .int a), (2, .int b), (3, .int c9)] := hl0
  obtain ⟨H, hH⟩ : ∃ H, H = s.heap := ⟨_, rfl⟩
  obtain ⟨locs, hLo⟩ : ∃ L : List Loc, L = [] := ⟨_, rfl⟩
  rw [← hH, ← hLo] at hI ⊢
  clear hH hLo hl0
  obtain ⟨hok, hP, hR, hF⟩ := id hIv
  obtain ⟨h17, h60, h10, h6, h5, h12, hpr, hrm⟩ := id hok
  refine lv_iload_n hx hb dX6_setPrice_0 rfl (lv_at hl 1 rfl) ?_
  refine lv_iconst (v := 0) hx hb dX6_setPrice_1 (by decide) ?_
  refine lv_iload_n hx hb dX6_setPrice_2 rfl (lv_at hl 2 rfl) ?_
  refine x_S (rest := []) hl9 hC hI hl.1 (tX6_requireWithin l g B0 ad _ a 0 b) (cw_X6_61 hts rfl rfl ⟨(Nat.le_of_ble_eq_true rfl), (Nat.le_of_ble_eq_true rfl)⟩) rfl rfl (Nat.le_of_ble_eq_true rfl) dX6_setPrice_3 ⟨(Nat.le_of_ble_eq_true rfl), (Nat.le_of_ble_eq_true rfl)⟩ hno (Nat.le_of_ble_eq_true rfl) (Nat.le_of_ble_eq_true rfl) (fun E a w hx => ⟨⟨if_neg (fun z => hx.1.2 ⟨z.1, z.2.1⟩), hx.1.1⟩, hx.2.1, hx.2.2⟩) (fun v ad1 w H locs hR hI => ?_)
  obtain ⟨hq1, rfl, ha9, rfl⟩ := hR; obtain rfl := ha9.symm
  refine lv_iload_n hx hb dX6_setPrice_6 rfl (lv_at hl 2 rfl) ?_
  refine lv_iload_n hx hb dX6_setPrice_7 rfl (lv_at hl 1 rfl) ?_
  refine lv_bipush (v := 23) hx hb dX6_setPrice_8 (by decide) ?_
  refine x_S (rest := []) hl9 hC hI hl.1 (tX6_requireWithin l g B0 ad _ b a 23) (cw_X6_61 hts rfl rfl ⟨(Nat.le_of_ble_eq_true rfl), (Nat.le_of_ble_eq_true rfl)⟩) rfl rfl (Nat.le_of_ble_eq_true rfl) dX6_setPrice_10 ⟨(Nat.le_of_ble_eq_true rfl), (Nat.le_of_ble_eq_true rfl)⟩ hno (Nat.le_of_ble_eq_true rfl) (Nat.le_of_ble_eq_true rfl) (fun E a w hx => ⟨⟨if_neg (fun z => hx.1.2 ⟨z.2.1, (le_lt1 23 24 rfl).mpr z.2.2.1⟩), hx.1.1⟩, hx.2.1, hx.2.2⟩) (fun v ad1 w H locs hR hI => ?_)
  obtain ⟨hq2, rfl, ha9, rfl⟩ := hR; obtain rfl := ha9.symm
  refine lv_iload_n hx hb dX6_setPrice_13 rfl (lv_at hl 3 rfl) ?_
  refine lv_iconst (v := 1) hx hb dX6_setPrice_14 (by decide) ?_
  refine lv_bipush (v := 100) hx hb dX6_setPrice_15 (by decide) ?_
  refine x_S (rest := []) hl9 hC hI hl.1 (tX6_requireWithin l g B0 ad _ c9 1 100) (cw_X6_61 hts rfl rfl ⟨(Nat.le_of_ble_eq_true rfl), (Nat.le_of_ble_eq_true rfl)⟩) rfl rfl (Nat.le_of_ble_eq_true rfl) dX6_setPrice_17 ⟨(Nat.le_of_ble_eq_true rfl), (Nat.le_of_ble_eq_true rfl)⟩ hno (Nat.le_of_ble_eq_true rfl) (Nat.le_of_ble_eq_true rfl) (fun E a w hx => ⟨⟨if_neg (fun z => hx.1.2 z.2.2.2), hx.1.1⟩, hx.2.1, hx.2.2⟩) (fun v ad1 w H locs hR hI => ?_)
  obtain ⟨hq3, rfl, ha9, rfl⟩ := hR; obtain rfl := ha9.symm
  have hk0 := kdSP_0 hq1 hq2 hq3
  obtain ⟨T, hT, rfl⟩ := (fact_n (n := 24) (by decide)).mp ⟨(Int32.le_trans hq1.1 hq1.2), (le_lt1 23 24 rfl).mp hq2.2⟩
  obtain ⟨F, hF0, rfl⟩ := (fact_n (n := 24) (by decide)).mp ⟨hq1.1, (le_lt1 23 24 rfl).mp (Int32.le_trans hq1.2 hq2.2)⟩
  have hF : F ≤ T := (nI_leI (by omega) (by omega)).mp hq1.2
  refine lv_aload_n hx hb dX6_setPrice_20 rfl (lv_at hl 0 rfl) ?_
  refine gf_X6_19 hC hI fC_0 rfl dX6_setPrice_21 ?_
  refine lv_iload_n hx hb dX6_setPrice_24 rfl (lv_at hl 1 rfl) ?_
  refine lv_iload_n hx hb dX6_setPrice_25 rfl (lv_at hl 2 rfl) ?_
  refine lv_iload_n hx hb dX6_setPrice_26 rfl (lv_at hl 3 rfl) ?_
  refine c_Vv (rest := []) hl9 hC hI hl.1 (tX5_charge l g B0 ad _ (σ 4) (lowS σ) c9 F T hF hT fC_2 fC_3) (cw_X6_75 hts rfl rfl ⟨(Nat.le_of_ble_eq_true rfl), (Nat.le_of_ble_eq_true rfl)⟩) fC_2 rfl rfl rfl rfl (Nat.le_of_ble_eq_true rfl) dX6_setPrice_27 ⟨(Nat.le_of_ble_eq_true rfl), (Nat.le_of_ble_eq_true rfl)⟩ (fun H locs hI => ?_)
  have hI : WI g ad B0 (fC g ad (su σ 4 (chF (σ 4) F T c9 24)) pd pl sc h) s H locs := hI.cast (fC_tar (chL_low hF hT))
  refine lv_aload_n hx hb dX6_setPrice_30 rfl (lv_at hl 0 rfl) ?_
  refine gf_X6_19 hC hI fC_0 rfl dX6_setPrice_31 ?_
  refine gf_X6_78 hC hI fC_2 rfl dX6_setPrice_34 ?_
  exact e_int hC hI ⟨hk0, by unfold stSP; rw [cN_nI (show F < 2 ^ 31 by omega), cN_nI (show T < 2 ^ 31 by omega), chF_sp hT], fun _ _ _ => rfl, pl, sc, PlOk_congr hP rfl rfl rfl rfl, by unfold stSP; rw [cN_nI (show F < 2 ^ 31 by omega), cN_nI (show T < 2 ^ 31 by omega), chF_sp hT]⟩ (Nat.le_of_ble_eq_true rfl) (Nat.le_of_ble_eq_true rfl) dX6_setPrice_37
set_option maxHeartbeats 4000000 in
set_option maxRecDepth 100000 in
theorem tX6_tick (l : Launch) (g : Gg) (B0 : Nat) (ad : Ad) (σ : Sg) (pd : Int64) (pl : Pl) (sc : Sg) (h : Wd) (v : Int32) (hT : OkT σ) (hB : Bn σ (cN (σ 1 0))) (hIv : Iv σ pl)  : MM l g B0 yX6_tick (wsM yX6_tick cX6_tick 4 (some .int)) ({ frames := 7, cells := 1, slots := 6, locals := 118 } : Room) [.ref (ad 0 0), .int v] ad (fC g ad σ pd pl sc h) (rC g ad (kdTI σ v) (thereS (tickAt (σ, pd) (cN v)).1 (-1) 1 - thereS σ (-1) 1) ((tickAt (σ, pd) (cN v)).1) ((tickAt (σ, pd) (cN v)).2) h) (xE (fun E => (kdTI σ v = 1 ∧ E = nIA)) ad (fC g ad σ pd pl sc h)) 1 6 := by
  refine MM.start (by decide) (Nat.le_of_ble_eq_true rfl) ?_
  intro hl9 p e s m below meth c ls hC hno hI hl0
  have hx := hC.1.1
  have hb := hC.1.2.1
  have hts := hC.1.2.2.2.2
  have hl : lv_has ls 4 [(0, .ref (ad 0 0)), (1, .int v)] := hl0
  obtain ⟨H, hH⟩ : ∃ H, H = s.heap := ⟨_, rfl⟩
  obtain ⟨locs, hLo⟩ : ∃ L : List Loc, L = [] := ⟨_, rfl⟩
  rw [← hH, ← hLo] at hI ⊢
  clear hH hLo hl0
  obtain ⟨hok, hP, hR, hF⟩ := id hIv
  obtain ⟨h17, h60, h10, h6, h5, h12, hpr, hrm⟩ := id hok
  refine lv_iload_n hx hb dX6_tick_0 rfl (lv_at hl 1 rfl) ?_
  refine lv_iconst (v := 1) hx hb dX6_tick_1 (by decide) ?_
  refine lv_sipush (v := 200) hx hb dX6_tick_2 (by decide) ?_
  refine lv_sipush (v := 2000) hx hb dX6_tick_5 (by decide) ?_
  refine lv_aload_n hx hb dX6_tick_8 rfl (lv_at hl 0 rfl) ?_
  refine gf_X6_54 hC hI fC_0 rfl dX6_tick_9 ?_
  refine lv_isub hx hb dX6_tick_12 ?_
  refine va_mmin hx hb (hC.1.2.2.1.trans hl.1.symm) hC.1.2.2.2.1 (hts _ wd_ml_X6_200) (hts _ wd_st_yJ9_min_7cf53) (hts _ wd_in_RJ9) (hts _ wd_co_yJ9_min_7cf53) (Nat.le_of_ble_eq_true rfl) (Nat.le_of_ble_eq_true rfl) (Nat.le_of_ble_eq_true rfl) (Nat.le_of_ble_eq_true rfl) dX6_tick_13 ?_
  refine x_S (rest := []) hl9 hC hI hl.1 (tX6_requireWithin l g B0 ad _ v 1 (mn 200 (2000 - (σ 1 0)))) (cw_X6_61 hts rfl rfl ⟨(Nat.le_of_ble_eq_true rfl), (Nat.le_of_ble_eq_true rfl)⟩) rfl rfl (Nat.le_of_ble_eq_true rfl) dX6_tick_16 ⟨(Nat.le_of_ble_eq_true rfl), (Nat.le_of_ble_eq_true rfl)⟩ hno (Nat.le_of_ble_eq_true rfl) (Nat.le_of_ble_eq_true rfl) (fun E a w hx => ⟨⟨if_neg (fun z => hx.1.2 ((tick_in hT).mpr z)), hx.1.1⟩, hx.2.1, hx.2.2⟩) (fun v ad1 w H locs hR hI => ?_)
  obtain ⟨hq1, rfl, ha9, rfl⟩ := hR; obtain rfl := ha9.symm
  have hk0 := (tick_in hT).mp hq1
  obtain ⟨w, hw, rfl⟩ := (fact_n (n := 201) (by decide)).mp ⟨Int32.le_trans (by decide) hk0.1.1, (le_lt1 200 201 rfl).mp hk0.1.2⟩
  have hcw : cN (nI w) = w := cN_nI (by omega)
  have hw2 : cN (σ 1 0) + w ≤ 2000 := by
    have z := hk0.2
    rw [hT.1, nI_add] at z
    exact (nI_leI (b := 2000) (by have := hT.2; omega) (by decide)).mp z
  have hK := tick_keep (x := (σ, pd)) hIv hB
  refine lv_aload_n hx hb dX6_tick_19 rfl (lv_at hl 0 rfl) ?_
  refine c_Vi (rest := []) hl9 hC hI hl.1 (tX6_spoiledHere l g B0 ad σ pd pl sc h hok) (cw_X6_206 hts rfl rfl ⟨(Nat.le_of_ble_eq_true rfl), (Nat.le_of_ble_eq_true rfl)⟩) fC_0 rfl rfl rfl rfl (Nat.le_of_ble_eq_true rfl) dX6_tick_20 ⟨(Nat.le_of_ble_eq_true rfl), (Nat.le_of_ble_eq_true rfl)⟩ (fun H locs hI => ?_)
  refine lv_istore_n (lv' := [(2, .int (thereS σ (-1) 1)), (0, .ref (ad 0 0)), (1, .int (nI w))]) hx hb dX6_tick_23 rfl hl (by decide) rfl (fun ls hl => ?_)
  refine lv_iconst (v := 0) hx hb dX6_tick_24 (by decide) ?_
  refine lv_istore_n (lv' := [(3, .int (nI 0)), (2, .int (thereS σ (-1) 1)), (0, .ref (ad 0 0)), (1, .int (nI w))]) hx hb dX6_tick_25 rfl hl (by decide) rfl (fun ls hl => ?_)
  have L26 : ∀ (n : Nat) (k : Nat), k ≤ w → w + 1 ≤ k + n → ∀ (H : Heap) (locs : List Loc), WI g ad B0 (fC g ad (tickAt (σ, pd) k).1 (tickAt (σ, pd) k).2 pl sc h) s H locs → ∀ (ls : Array Slot), lv_has ls 4 [(3, .int (nI k)), (2, .int (thereS σ (-1) 1)), (0, .ref (ad 0 0)), (1, .int (nI w))] → W p l e ({ frames := 7, cells := 1, slots := 6, locals := 118 } : Room) s m ([.ref (ad 0 0), .int (nI w)] : List Value).toArray below meth c H locs (0 + 1) (0 + 6) (vx_MQ below (QI g B0 (rC g ad (kdTI σ (nI w)) (thereS (tickAt (σ, pd) (cN (nI w))).1 (-1) 1 - thereS σ (-1) 1) ((tickAt (σ, pd) (cN (nI w))).1) ((tickAt (σ, pd) (cN (nI w))).2) h)) (XI g B0 (xE (fun E => (kdTI σ (nI w) = 1 ∧ E = nIA)) ad (fC g ad σ pd pl sc h))) ([.ref (ad 0 0), .int (nI w)] : List Value).toArray s 1 6 (fun q => B0 ≤ q)) (F0 m 26 ls []) := by
    intro n
    induction n with
    | zero =>
      intro k hk hfu
      exact absurd hfu (by omega)
    | succ n ih26 =>
      intro k hk hfu H locs hI ls hl
      refine lv_iload_n hx hb dX6_tick_26 rfl (lv_at hl 0 rfl) ?_
      refine lv_iload_n hx hb dX6_tick_27 rfl (lv_at hl 3 rfl) ?_
      refine lv_icmp_ge (tgt := 41) hx hb dX6_tick_28 (by decide) (fun c28 => ?_) (fun c28 => ?_)
      · have hk2 : w ≤ k := ge_T rfl (by omega) (by omega) c28
        have hkw : k = w := by omega
        subst hkw
        refine lv_aload_n hx hb dX6_tick_41 rfl (lv_at hl 2 rfl) ?_
        refine c_Vi (rest := []) hl9 hC hI hl.1 (tX6_spoiledHere l g B0 ad ((tickAt (σ, pd) k).1) ((tickAt (σ, pd) k).2) pl sc h (hK k (by omega)).1.1) (cw_X6_206 hts rfl rfl ⟨(Nat.le_of_ble_eq_true rfl), (Nat.le_of_ble_eq_true rfl)⟩) fC_0 rfl rfl rfl rfl (Nat.le_of_ble_eq_true rfl) dX6_tick_42 ⟨(Nat.le_of_ble_eq_true rfl), (Nat.le_of_ble_eq_true rfl)⟩ (fun H locs hI => ?_)
        refine lv_iload_n hx hb dX6_tick_45 rfl (lv_at hl 1 rfl) ?_
        refine lv_isub hx hb dX6_tick_46 ?_
        rw [hcw]
        exact e_int hC hI ⟨if_pos hk0, rfl, fun _ _ _ => rfl, pl, sc, (hK k (by omega)).1.2.1, rfl⟩ (Nat.le_of_ble_eq_true rfl) (Nat.le_of_ble_eq_true rfl) dX6_tick_47
      · have hk2 : k < w := ge_F rfl (by omega) (by omega) c28
        obtain ⟨hI1, hI2⟩ := hK k (by omega)
        refine lv_aload_n hx hb dX6_tick_31 rfl (lv_at hl 2 rfl) ?_
        refine c_Vv (rest := []) hl9 hC hI hl.1 (tX6_passHourEverywhere l g B0 ad ((tickAt (σ, pd) k).1) ((tickAt (σ, pd) k).2) pl sc h (cN (σ 1 0) + k) (cN (σ 1 0) + k) (tick_t (x := (σ, pd)) hT.1 k) (by omega) hI2 (by omega) hI1) (cw_X6_210 hts rfl rfl ⟨(Nat.le_of_ble_eq_true rfl), (Nat.le_of_ble_eq_true rfl)⟩) fC_0 rfl rfl rfl rfl (Nat.le_of_ble_eq_true rfl) dX6_tick_32 ⟨(Nat.le_of_ble_eq_true rfl), (Nat.le_of_ble_eq_true rfl)⟩ (fun H locs hI => ?_)
        refine lv_iinc (v := nI (k + 1)) (lv' := [(3, .int (nI (k + 1))), (2, .int (thereS σ (-1) 1)), (0, .ref (ad 0 0)), (1, .int (nI w))]) hx hb dX6_tick_35 hl (k := 0) rfl (nI_1 _) (by decide) rfl (fun ls hl => ?_)
        refine lv_goto (tgt := 26) hx hb dX6_tick_38 (by decide) ?_
        refine W.widen (k := 0 + 1) (n := 0 + 6) (by omega) (by omega) ?_
        exact ih26 (k + 1) (by omega) (by omega) _ _ hI ls (lv_sub hl [0, 1, 2, 3] rfl)
  refine W.widen (k := 0 + 1) (n := 0 + 6) (by omega) (by omega) ?_
  exact L26 (w + 1) 0 (by omega) (by omega) _ _ hI ls (lv_sub hl [0, 1, 2, 3] rfl)
