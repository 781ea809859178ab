/-! THE COLD STORE: a pallet leaves; the hour of a room -/
theorem s1_self {σ : Sg} {w j : Nat} {x : Int32} (h : σ w j = x) : s1 σ w j x = σ := by
  funext a b
  by_cases ha : a = w
  · subst ha
    show su σ a (upd (σ a) j x) a b = σ a b
    rw [su_s]
    by_cases hb : b = j
    · subst hb
      rw [upd_s, h]
    · exact upd_n _ _ hb
  · exact congrFun (su_n _ _ ha) b
theorem PlOk_leave {σ : Sg} {pl : Pl} {r q j0 : Nat} (hok : OkP σ) (h : PlOk σ pl) (hr : r < nr σ) (hj0 : j0 < cN (σ 11 r)) (hp : pl r j0 = some q) (hrm : σ 19 q = nI r) : PlOk (s1 σ 19 q (-1)) (plu pl r j0 none) := by
  obtain ⟨h17, h60, h10, h6, h5, h12, hpr, hrm9⟩ := id hok
  have u_ : ∀ p, ¬ p = q → s1 σ 19 q (-1) 19 p = σ 19 p := fun p hp => upd_n _ _ hp
  have us : s1 σ 19 q (-1) 19 q = -1 := upd_s _ _ _
  refine ⟨fun i j p hi hj hpl => ?_, fun i j j' p hi hj hj' h1 h2 => ?_, fun p hp1 hp2 => ?_, fun i j hn => ?_⟩
  · by_cases hc : i = r ∧ j = j0
    · obtain ⟨rfl, rfl⟩ := hc
      rw [plu_s] at hpl
      cases hpl
    · rw [plu_n _ _ hc] at hpl
      obtain ⟨e1, e2⟩ := h.on i j p hi hj hpl
      have hne : ¬ p = q := by
        intro z
        subst z
        have hir : i = r := by
          rw [hrm] at e2
          have hi6 : i < nr σ := hi
          exact ((nI_eq (by omega) (by omega)).mp e2).symm
        subst hir
        exact hc ⟨rfl, h.inj i j j0 p hi hj hj0 hpl hp⟩
      exact ⟨e1, (u_ p hne).trans e2⟩
  · have e1 : pl i j = some p := by
      by_cases hc : i = r ∧ j = j0
      · obtain ⟨rfl, rfl⟩ := hc
        rw [plu_s] at h1
        cases h1
      · rw [plu_n _ _ hc] at h1
        exact h1
    have e2 : pl i j' = some p := by
      by_cases hc : i = r ∧ j' = j0
      · obtain ⟨rfl, rfl⟩ := hc
        rw [plu_s] at h2
        cases h2
      · rw [plu_n _ _ hc] at h2
        exact h2
    exact h.inj i j j' p hi hj hj' e1 e2
  · have hne : ¬ p = q := fun z => hp2 (by rw [z]; exact us)
    rw [u_ p hne] at hp2
    obtain ⟨j, hj, e⟩ := h.ex p hp1 hp2
    have ero : rmo (s1 σ 19 q (-1)) p = rmo σ p := congrArg cN (u_ p hne)
    rw [ero]
    refine ⟨j, hj, ?_⟩
    rw [plu_n _ _ (fun z => ?_)]
    · exact e
    · obtain ⟨z1, z2⟩ := z
      rw [z1, z2, hp] at e
      exact hne (Option.some.inj e).symm
  · by_cases hc : i = r ∧ j = j0
    · rw [hc.1, hc.2]
      exact plu_s _ _ _ _
    · rw [plu_n _ _ hc]
      exact h.out i j hn
abbrev rLv (g : Gg) (ad : Ad) (σ : Sg) (pd : Int64) (sc : Sg) (h : Wd) : Option Value → Ad → Wd → Prop := fun v a w => v = none ∧ a = ad ∧ ∃ pl', PlOk σ pl' ∧ w = fC g ad σ pd pl' sc h
theorem out_rg {σ : Sg} (hR : Rg σ) {b : Int} (hb : 600 ≤ b) (k : Nat) (hk : k < 24) : rg (outS σ (nI k)) (-b) b := by
  obtain ⟨-, -, h2, h3, -⟩ := hR
  unfold outS
  by_cases hc : 8 ≤ nI k ∧ nI k ≤ 20
  · rw [if_pos hc]
    have q1 : (8 : Int32).toInt ≤ (nI k).toInt := Int32.le_iff_toInt_le.mp hc.1
    have q2 : (nI k).toInt ≤ (20 : Int32).toInt := Int32.le_iff_toInt_le.mp hc.2
    have z8 : (8 : Int32).toInt = 8 := rfl
    have z20 : (20 : Int32).toInt = 20 := rfl
    have z14 : (14 : Int32).toInt = 14 := rfl
    have z6 : (6 : Int32).toInt = 6 := rfl
    have z0 : (0 : Int32).toInt = 0 := rfl
    have e1 : (nI k - 14).toInt = (nI k).toInt - 14 := sub_i (b := 14) (by omega) (by omega)
    have e2 : rg (ab (nI k - 14)) 0 6 := by
      unfold ab
      by_cases h0 : 0 ≤ nI k - 14
      · rw [if_pos h0]
        have := Int32.le_iff_toInt_le.mp h0
        omega
      · rw [if_neg h0]
        have := Int32.lt_iff_toInt_lt.mp (Int32.not_le.mp h0)
        have e3 := sub_i (a := 0) (b := nI k - 14) (by omega) (by omega)
        omega
    have e4 : (6 - ab (nI k - 14)).toInt = 6 - (ab (nI k - 14)).toInt := sub_i (a := 6) (by omega) (by omega)
    have m1 := mul_hi (x := (σ 3 0).toInt) (w := (6 - ab (nI k - 14)).toInt) (y := 200) (k := 6) (by omega) (by omega) (by omega) h3.2
    have m2 : 0 ≤ (σ 3 0).toInt * (6 - ab (nI k - 14)).toInt := Int.mul_nonneg h3.1 (by omega)
    have e5 := mul_i (a := σ 3 0) (b := 6 - ab (nI k - 14)) (by omega) (by omega)
    have e6 : (σ 3 0 * (6 - ab (nI k - 14)) / 6).toInt = ((σ 3 0).toInt * (6 - ab (nI k - 14)).toInt).tdiv 6 := by
      rw [div_i (by decide), e5]
      rfl
    have d1 := td_hi (x := (σ 3 0).toInt * (6 - ab (nI k - 14)).toInt) (y := 1200) (d := 6) (by omega) (by omega) (by omega)
    have d2 : 0 ≤ ((σ 3 0).toInt * (6 - ab (nI k - 14)).toInt).tdiv 6 := Int.tdiv_nonneg m2 (by omega)
    have e7 : (σ 2 0 + σ 3 0 * (6 - ab (nI k - 14)) / 6).toInt = (σ 2 0).toInt + (σ 3 0 * (6 - ab (nI k - 14)) / 6).toInt := add_i (by omega) (by omega)
    omega
  · rw [if_neg hc, Int32.add_zero]
    omega

set_option maxHeartbeats 4000000 in
set_option maxRecDepth 100000 in
theorem tX6_leave (l : Launch) (g : Gg) (B0 : Nat) (ad : Ad) (σ : Sg) (pd : Int64) (pl : Pl) (sc : Sg) (h : Wd) (q : Nat) (hq : q < nt σ) (hok : OkP σ) (hP : PlOk σ pl) (hR : Rg σ) : MM l g B0 yX6_leave (wsM yX6_leave cX6_leave 2 none) ({ frames := 1, cells := 0, slots := 0, locals := 22 } : Room) [.ref (ad 12 q)] ad (fC g ad σ pd pl sc h) (rLv g ad (s1 σ 19 q (-1)) pd sc h) (noX) 0 0 := by
  refine MM.start (by decide) (Nat.le_of_ble_eq_true rfl) ?_
  intro hl9 p e s m below meth c ls hC hno hI hl0
  have hx := hC.1.1
  have hb := hC.1.2.1
  have hts := hC.1.2.2.2.2
  have hl : lv_has ls 2 [(0, .ref (ad 12 q))] := hl0
  obtain ⟨H, hH⟩ : ∃ H, H = s.heap := ⟨_, rfl⟩
  obtain ⟨locs, hLo⟩ : ∃ L : List Loc, L = [] := ⟨_, rfl⟩
  rw [← hH, ← hLo] at hI ⊢
  clear hH hLo hl0
  obtain ⟨h17, h60, h10, h6, h5, h12, hpr, hrm⟩ := id hok
  refine lv_aload_n hx hb dX6_leave_0 rfl (lv_at hl 0 rfl) ?_
  refine gf_X6_154 hC hI (fC_12 hq) rfl dX6_leave_1 ?_
  refine lv_topo (fun e1 => ?_) (fun q1 e1 => ?_)
  · have hz : σ 19 q = -1 := rm_none.mp e1
    refine lv_astore_nN (lv' := [(1, .null), (0, .ref (ad 12 q))]) hx hb dX6_leave_4 rfl hl (by decide) rfl (fun ls hl => ?_)
    refine lv_aload_nN hx hb dX6_leave_5 rfl (lv_at hl 0 rfl) ?_
    refine lv_ifnullN (tgt := 14) hx hb dX6_leave_6 (by decide) ?_
    exact e_void hC hI ⟨rfl, rfl, pl, by rw [s1_self hz]; exact hP, by rw [s1_self hz]⟩ (Nat.le_of_ble_eq_true rfl) (Nat.le_of_ble_eq_true rfl) dX6_leave_14
  · have hz : ¬ σ 19 q = -1 := fun z => by rw [rm_none.mpr z] at e1; cases e1
    obtain rfl : q1 = ad 8 (rmo σ q) := by
      rw [rmR, if_neg hz] at e1
      exact (Option.some.inj e1).symm
    have hr := (hrm q hq hz).2
    have hrq := (hrm q hq hz).1
    obtain ⟨j0, hj0, hpj⟩ := hP.ex q hq hz
    refine lv_astore_n (lv' := [(1, .ref (ad 8 (rmo σ q))), (0, .ref (ad 12 q))]) hx hb dX6_leave_4 rfl hl (by decide) rfl (fun ls hl => ?_)
    refine lv_aload_n hx hb dX6_leave_5 rfl (lv_at hl 0 rfl) ?_
    refine lv_ifnull hx hb dX6_leave_6 ?_
    refine lv_aload_n hx hb dX6_leave_9 rfl (lv_at hl 0 rfl) ?_
    refine lv_aload_n hx hb dX6_leave_10 rfl (lv_at hl 1 rfl) ?_
    refine c_Vv (rest := []) hl9 hC hI hl.1 (tX4_release l g B0 ad σ pd pl sc h (rmo σ q) hr q hq j0 hj0 hpj hrq hok hP hR) (cw_X6_164 hts rfl rfl ⟨(Nat.le_of_ble_eq_true rfl), (Nat.le_of_ble_eq_true rfl)⟩) (fC_8 hr) rfl rfl rfl rfl (Nat.le_of_ble_eq_true rfl) dX6_leave_11 ⟨(Nat.le_of_ble_eq_true rfl), (Nat.le_of_ble_eq_true rfl)⟩ (fun H locs hI => ?_)
    exact e_void hC hI ⟨rfl, rfl, plu pl (rmo σ q) j0 none, PlOk_leave hok hP hr hj0 hpj hrq, rfl⟩ (Nat.le_of_ble_eq_true rfl) (Nat.le_of_ble_eq_true rfl) dX6_leave_14
set_option maxHeartbeats 4000000 in
set_option maxRecDepth 100000 in
theorem tX6_passHourIn (l : Launch) (g : Gg) (B0 : Nat) (ad : Ad) (σ : Sg) (pd : Int64) (pl : Pl) (sc : Sg) (h : Wd) (r : Nat) (hr : r < nr σ) (t : Nat) (ht : t < 2 ^ 31) (b : Int) (hb6 : 600 ≤ b) (hb2 : b ≤ 900000) (hT : rg (σ 16 (6 * r)) (-b) b) (hpt : ∀ q, q < nt σ → σ 19 q = nI r → rg (σ 20 q) (-b) b) (hok : OkP σ) (hP : PlOk σ pl) (hR : Rg σ) : MM l g B0 yX6_passHourIn (wsM yX6_passHourIn cX6_passHourIn 3 (some .int)) ({ frames := 3, cells := 0, slots := 0, locals := 71 } : Room) [.ref (ad 0 0), .ref (ad 8 r), .int (nI t)] ad (fC g ad σ pd pl sc h) (dI (if smS σ r (t % 24) 16 (6 * r + 2) = 1 then smS σ r (t % 24) 13 r else 0) ad (fC g ad (hourS σ r (t % 24)) pd pl sc h)) (noX) 0 0 := by
  refine MM.start (by decide) (Nat.le_of_ble_eq_true rfl) ?_
  intro hl9 p e s m below meth c ls hC hno hI hl0
  have hx := hC.1.1
  have hb := hC.1.2.1
  have hts := hC.1.2.2.2.2
  have hl : lv_has ls 3 [(0, .ref (ad 0 0)), (1, .ref (ad 8 r)), (2, .int (nI t))] := hl0
  obtain ⟨H, hH⟩ : ∃ H, H = s.heap := ⟨_, rfl⟩
  obtain ⟨locs, hLo⟩ : ∃ L : List Loc, L = [] := ⟨_, rfl⟩
  rw [← hH, ← hLo] at hI ⊢
  clear hH hLo hl0
  obtain ⟨h17, h60, h10, h6, h5, h12, hpr, hrm⟩ := id hok
  have hou := out_rg hR hb6 (t % 24) (Nat.mod_lt _ (by decide))
  refine lv_aload_n hx hb dX6_passHourIn_0 rfl (lv_at hl 1 rfl) ?_
  refine lv_aload_n hx hb dX6_passHourIn_1 rfl (lv_at hl 0 rfl) ?_
  refine gf_X6_10 hC hI fC_0 rfl dX6_passHourIn_2 ?_
  refine lv_iload_n hx hb dX6_passHourIn_5 rfl (lv_at hl 2 rfl) ?_
  refine c_Vi (rest := [.ref (ad 8 r)]) hl9 hC hI hl.1 (tX0_temperatureAt l g B0 ad _ (σ 2 0) (σ 3 0) t ht fC_1) (cw_X6_71 hts rfl rfl ⟨(Nat.le_of_ble_eq_true rfl), (Nat.le_of_ble_eq_true rfl)⟩) fC_1 rfl rfl rfl rfl (Nat.le_of_ble_eq_true rfl) dX6_passHourIn_6 ⟨(Nat.le_of_ble_eq_true rfl), (Nat.le_of_ble_eq_true rfl)⟩ (fun H locs hI => ?_)
  rw [outA_S]
  refine lv_aload_n hx hb dX6_passHourIn_9 rfl (lv_at hl 0 rfl) ?_
  refine gf_X6_19 hC hI fC_0 rfl dX6_passHourIn_10 ?_
  refine lv_iload_n hx hb dX6_passHourIn_13 rfl (lv_at hl 2 rfl) ?_
  refine c_Vi (rest := [.int (outS σ (nI (t % 24))), .ref (ad 8 r)]) hl9 hC hI hl.1 (tX5_isLowestAt l g B0 ad _ (σ 4) (lowS σ) t ht fC_2 fC_3) (cw_X6_263 hts rfl rfl ⟨(Nat.le_of_ble_eq_true rfl), (Nat.le_of_ble_eq_true rfl)⟩) fC_2 rfl rfl rfl rfl (Nat.le_of_ble_eq_true rfl) dX6_passHourIn_14 ⟨(Nat.le_of_ble_eq_true rfl), (Nat.le_of_ble_eq_true rfl)⟩ (fun H locs hI => ?_)
  refine c_Vi (rest := []) hl9 hC hI hl.1 (tX4_passHour l g B0 ad σ pd pl sc h r hr (t % 24) b hok hP hR hb6 hb2 hT hpt hou) (cw_X6_267 hts rfl rfl ⟨(Nat.le_of_ble_eq_true rfl), (Nat.le_of_ble_eq_true rfl)⟩) (fC_8 hr) rfl rfl rfl rfl (Nat.le_of_ble_eq_true rfl) dX6_passHourIn_17 ⟨(Nat.le_of_ble_eq_true rfl), (Nat.le_of_ble_eq_true rfl)⟩ (fun H locs hI => ?_)
  exact e_int hC hI ⟨rfl, rfl, rfl⟩ (Nat.le_of_ble_eq_true rfl) (Nat.le_of_ble_eq_true rfl) dX6_passHourIn_20
