/-! THE COLD STORE'S CALLS, eighth part: lasts -/

set_option maxHeartbeats 4000000 in
set_option maxRecDepth 100000 in
theorem tX6_lasts (l : Launch) (g : Gg) (B0 : Nat) (ad : Ad) (σ : Sg) (pd : Int64) (pl : Pl) (sc : Sg) (h : Wd) (u : Int32) (hT : OkT σ) (hB : Bn σ (cN (σ 1 0))) (hIv : Iv σ pl)  : MM l g B0 yX6_lasts (wsM yX6_lasts cX6_lasts 5 (some .int)) ({ frames := 7, cells := 2, slots := 12, locals := 112 } : Room) [.ref (ad 0 0), .int u] ad (fC g ad σ pd pl sc h) (rC g ad (kdLA σ u) (rsLA σ pd u) (σ) (pd) h) (xE (fun E => (kdLA σ u = 1 ∧ E = nIO) ∨ (kdLA σ u = 2 ∧ E = nIS)) ad (fC g ad σ pd pl sc h)) 2 12 := by
  refine MM.start (by decide) (Nat.le_of_ble_eq_true rfl) ?_
  intro hl9 p e s m below meth c ls hC hno hI hl0
  have hx := hC.1.1
  have hb := hC.1.2.1
  have hts := hC.1.2.2.2.2
  have hl : lv_has ls 5 [(0, .ref (ad 0 0)), (1, .int u)] := hl0
  obtain ⟨H, hH⟩ : ∃ H, H = s.heap := ⟨_, rfl⟩
  obtain ⟨locs, hLo⟩ : ∃ L : List Loc, L = [] := ⟨_, rfl⟩
  rw [← hH, ← hLo] at hI ⊢
  clear hH hLo hl0
  obtain ⟨hok, hP, hR, hF⟩ := id hIv
  obtain ⟨h17, h60, h10, h6, h5, h12, hpr, hrm⟩ := id hok
  refine lv_aload_n hx hb dX6_lasts_0 rfl (lv_at hl 0 rfl) ?_
  refine lv_iload_n hx hb dX6_lasts_1 rfl (lv_at hl 1 rfl) ?_
  refine x_V (rest := []) hl9 hC hI hl.1 (tX6_existingPallet l g B0 ad σ pd pl sc h u hok) (cw_X6_150 hts rfl rfl ⟨(Nat.le_of_ble_eq_true rfl), (Nat.le_of_ble_eq_true rfl)⟩) fC_0 rfl rfl rfl rfl (Nat.le_of_ble_eq_true rfl) dX6_lasts_2 ⟨(Nat.le_of_ble_eq_true rfl), (Nat.le_of_ble_eq_true rfl)⟩ hno (Nat.le_of_ble_eq_true rfl) (Nat.le_of_ble_eq_true rfl) (fun E a w hx => ⟨Or.inl ⟨if_neg hx.1.2, hx.1.1⟩, hx.2.1, hx.2.2⟩) (fun v ad1 w H locs hR hI => ?_)
  obtain ⟨hin, rfl, ha9, rfl⟩ := hR; obtain rfl := ha9.symm
  obtain ⟨q, hq, rfl⟩ := (in_cnt h17 (by omega)).mp (id hin)
  rw [show cN (nI q) = q from cN_nI (by omega)]
  have hcq : cN (nI q) = q := cN_nI (by omega)
  refine lv_astore_n (lv' := [(2, .ref (ad 12 q)), (0, .ref (ad 0 0)), (1, .int (nI q))]) hx hb dX6_lasts_5 rfl hl (by decide) rfl (fun ls hl => ?_)
  refine lv_aload_n hx hb dX6_lasts_6 rfl (lv_at hl 0 rfl) ?_
  refine gf_X6_154 hC hI (fC_12 hq) rfl dX6_lasts_7 ?_
  refine lv_topo (fun e7 => ?_) (fun q7 e7 => ?_)
  · have hz : σ 19 q = -1 := rm_none.mp e7
    refine lv_astore_nN (lv' := [(3, .null), (2, .ref (ad 12 q)), (0, .ref (ad 0 0)), (1, .int (nI q))]) hx hb dX6_lasts_10 rfl hl (by decide) rfl (fun ls hl => ?_)
    refine lv_aload_nN hx hb dX6_lasts_11 rfl (lv_at hl 0 rfl) ?_
    refine lv_ifnonnullN hx hb dX6_lasts_12 ?_
    exact r_throw (E := nIS) (by decide) xIS_t xIS_b xIS_o wd_cl_X6_81 wd_in_java_lang_IllegalStateException (List.mem_of_getElem? (i := 10) rfl) hl9 hno hC hC.2.2.2.2.2.1.2.1.2.1 hI hl.1 ⟨Or.inr ⟨(if_pos hin).trans (if_pos (by rw [hcq]; exact hz)), rfl⟩, rfl, rfl⟩ dX6_lasts_15 dX6_lasts_18 dX6_lasts_19 dX6_lasts_21 dX6_lasts_24 (Nat.le_of_ble_eq_true rfl) (Nat.le_of_ble_eq_true rfl) (Nat.le_of_ble_eq_true rfl) (Nat.le_of_ble_eq_true rfl) (Nat.le_of_ble_eq_true rfl) (Nat.le_of_ble_eq_true rfl)
  · have hz : ¬ σ 19 q = -1 := fun z => by rw [rm_none.mpr z] at e7; cases e7
    obtain rfl : q7 = ad 8 (rmo σ q) := by
      rw [rmR, if_neg hz] at e7
      exact (Option.some.inj e7).symm
    have hr := (hrm q hq hz).2
    have hKK := hrs_keep (t0 := cN (σ 1 0)) hIv hB hr
    refine lv_astore_n (lv' := [(3, .ref (ad 8 (rmo σ q))), (2, .ref (ad 12 q)), (0, .ref (ad 0 0)), (1, .int (nI q))]) hx hb dX6_lasts_10 rfl hl (by decide) rfl (fun ls hl => ?_)
    refine lv_aload_n hx hb dX6_lasts_11 rfl (lv_at hl 0 rfl) ?_
    refine lv_ifnonnull (tgt := 25) hx hb dX6_lasts_12 (by decide) ?_
    refine lv_aload_n hx hb dX6_lasts_25 rfl (lv_at hl 0 rfl) ?_
    refine c_Vv (rest := []) hl9 hC hI hl.1 (tX4_remember l g B0 ad σ pd pl sc h (rmo σ q) hr hok hP hR) (cw_X6_213 hts rfl rfl ⟨(Nat.le_of_ble_eq_true rfl), (Nat.le_of_ble_eq_true rfl)⟩) (fC_8 hr) rfl rfl rfl rfl (Nat.le_of_ble_eq_true rfl) dX6_lasts_26 ⟨(Nat.le_of_ble_eq_true rfl), (Nat.le_of_ble_eq_true rfl)⟩ (fun H locs hI => ?_)
    refine lv_iconst (v := 0) hx hb dX6_lasts_29 (by decide) ?_
    refine lv_istore (lv' := [(4, .int (nI 0)), (3, .ref (ad 8 (rmo σ q))), (2, .ref (ad 12 q)), (0, .ref (ad 0 0)), (1, .int (nI q))]) hx hb dX6_lasts_30 hl (by decide) rfl (fun ls hl => ?_)
    have L32 : ∀ (n : Nat) (k : Nat) (P : Int64), k ≤ 500 → 501 ≤ k + n → ahL (rmo σ q) (nI q) (cN (σ 1 0)) (500 - k) k (hrsAt σ (rmo σ q) (cN (σ 1 0)) k, P) = ahL (rmo σ q) (nI q) (cN (σ 1 0)) 500 0 (σ, pd) → ∀ (H : Heap) (locs : List Loc), WI g ad B0 (fC g ad (hrsAt σ (rmo σ q) (cN (σ 1 0)) k) pd pl (scR pl σ (rmo σ q) sc (cN (σ 11 (rmo σ q)))) h) s H locs → ∀ (ls : Array Slot), lv_has ls 5 [(4, .int (nI k)), (3, .ref (ad 8 (rmo σ q))), (2, .ref (ad 12 q)), (0, .ref (ad 0 0))] → W p l e ({ frames := 7, cells := 2, slots := 12, locals := 112 } : Room) s m ([.ref (ad 0 0), .int (nI q)] : List Value).toArray below meth c H locs (0 + 1) (0 + 6) (vx_MQ below (QI g B0 (rC g ad (kdLA σ (nI q)) (rsLA σ pd (nI q)) (σ) (pd) h)) (XI g B0 (xE (fun E => (kdLA σ (nI q) = 1 ∧ E = nIO) ∨ (kdLA σ (nI q) = 2 ∧ E = nIS)) ad (fC g ad σ pd pl sc h))) ([.ref (ad 0 0), .int (nI q)] : List Value).toArray s 2 12 (fun q => B0 ≤ q)) (F0 m 32 ls []) := by
      intro n
      induction n with
      | zero =>
        intro k P hk hfu hah
        exact absurd hfu (by omega)
      | succ n ih32 =>
        intro k P hk hfu hah H locs hI ls hl
        refine lv_iload hx hb dX6_lasts_32 (lv_at hl 0 rfl) ?_
        refine lv_sipush (v := 500) hx hb dX6_lasts_34 (by decide) ?_
        refine lv_icmp_ge (tgt := 66) hx hb dX6_lasts_37 (by decide) (fun c37 => ?_) (fun c37 => ?_)
        · have hk2 : 500 ≤ k := ge_T rfl (by decide) (by omega) c37
          have hfin : (ahL (rmo σ q) (nI q) (cN (σ 1 0)) 500 0 (σ, pd)).1 = k := by
            rw [← hah, show 500 - k = 0 by omega]
            rfl
          obtain ⟨hIk, hBk⟩ := hKK k (by have := hT.2; omega)
          have hrk : rmo σ q < nr (hrsAt σ (rmo σ q) (cN (σ 1 0)) k) := by rw [hrs_nr]; exact hr
          have hqk : q < nt (hrsAt σ (rmo σ q) (cN (σ 1 0)) k) := by rw [hrs_nt]; exact hq
          have hpk := (hIk.1.2.2.2.2.2.2.1 q hqk).2
          have hcq9 : ∀ z : Sg, leftS z (cN (nI q)) = leftS z q := fun z => by rw [hcq]
          refine lv_aload_n hx hb dX6_lasts_66 rfl (lv_at hl 1 rfl) ?_
          refine c_Vv (rest := []) hl9 hC hI hl.1 (tX4_recall l g B0 ad (hrsAt σ (rmo σ q) (cN (σ 1 0)) k) pd pl (scR pl σ (rmo σ q) sc (cN (σ 11 (rmo σ q)))) h (rmo σ q) hrk hIk.1 hIk.2.1 hIk.2.2.1) (cw_X6_223 hts rfl rfl ⟨(Nat.le_of_ble_eq_true rfl), (Nat.le_of_ble_eq_true rfl)⟩) (fC_8 hrk) rfl rfl rfl rfl (Nat.le_of_ble_eq_true rfl) dX6_lasts_67 ⟨(Nat.le_of_ble_eq_true rfl), (Nat.le_of_ble_eq_true rfl)⟩ (fun H locs hI => ?_)
          have hI : WI g ad B0 (fC g ad σ pd pl (scR pl σ (rmo σ q) sc (cN (σ 11 (rmo σ q)))) h) s H locs := hI.cast (congrArg (fun z => fC g ad z pd pl (scR pl σ (rmo σ q) sc (cN (σ 11 (rmo σ q)))) h) (hrs_back hIv hB hr (by have := hT.2; omega)))
          refine lv_iload hx hb dX6_lasts_70 (lv_at hl 0 rfl) ?_
          exact e_int hC hI ⟨(if_pos hin).trans (if_neg (by rw [hcq]; exact hz)), by unfold rsLA aheadS; rw [hcq, hfin], fun _ _ _ => rfl, pl, _, hP, rfl⟩ (Nat.le_of_ble_eq_true rfl) (Nat.le_of_ble_eq_true rfl) dX6_lasts_72
        · have hk2 : k < 500 := ge_F rfl (by decide) (by omega) c37
          obtain ⟨hIk, hBk⟩ := hKK k (by have := hT.2; omega)
          have hrk : rmo σ q < nr (hrsAt σ (rmo σ q) (cN (σ 1 0)) k) := by rw [hrs_nr]; exact hr
          have hqk : q < nt (hrsAt σ (rmo σ q) (cN (σ 1 0)) k) := by rw [hrs_nt]; exact hq
          have hpk := (hIk.1.2.2.2.2.2.2.1 q hqk).2
          have hcq9 : ∀ z : Sg, leftS z (cN (nI q)) = leftS z q := fun z => by rw [hcq]
          refine lv_aload_n hx hb dX6_lasts_40 rfl (lv_at hl 2 rfl) ?_
          refine c_Vi (rest := []) hl9 hC hI hl.1 (tX2_isSpoiled l g B0 ad _ q (prd (hrsAt σ (rmo σ q) (cN (σ 1 0)) k) q) (rmR ad (hrsAt σ (rmo σ q) (cN (σ 1 0)) k) q) _ _ _ _ _ _ _ _ _ (fC_12 hqk) (fC_7 hpk)) (cw_X6_191 hts rfl rfl ⟨(Nat.le_of_ble_eq_true rfl), (Nat.le_of_ble_eq_true rfl)⟩) (fC_12 hqk) rfl rfl rfl rfl (Nat.le_of_ble_eq_true rfl) dX6_lasts_41 ⟨(Nat.le_of_ble_eq_true rfl), (Nat.le_of_ble_eq_true rfl)⟩ (fun H locs hI => ?_)
          refine lv_if_ne (tgt := 66) hx hb dX6_lasts_44 (by decide) (fun c44 => ?_) (fun c44 => ?_)
          · have c44 := bi_1.mp c44
            have hfin : (ahL (rmo σ q) (nI q) (cN (σ 1 0)) 500 0 (σ, pd)).1 = k := by
              rw [← hah, show 500 - k = (499 - k) + 1 by omega, ahL_0 (fun z => z.elim (fun z => absurd (nI_nn (show q < 2 ^ 31 by omega)) (by rw [z]; decide)) (fun z => z (by rw [hcq9]; exact c44)))]
            refine lv_aload_n hx hb dX6_lasts_66 rfl (lv_at hl 1 rfl) ?_
            refine c_Vv (rest := []) hl9 hC hI hl.1 (tX4_recall l g B0 ad (hrsAt σ (rmo σ q) (cN (σ 1 0)) k) pd pl (scR pl σ (rmo σ q) sc (cN (σ 11 (rmo σ q)))) h (rmo σ q) hrk hIk.1 hIk.2.1 hIk.2.2.1) (cw_X6_223 hts rfl rfl ⟨(Nat.le_of_ble_eq_true rfl), (Nat.le_of_ble_eq_true rfl)⟩) (fC_8 hrk) rfl rfl rfl rfl (Nat.le_of_ble_eq_true rfl) dX6_lasts_67 ⟨(Nat.le_of_ble_eq_true rfl), (Nat.le_of_ble_eq_true rfl)⟩ (fun H locs hI => ?_)
            have hI : WI g ad B0 (fC g ad σ pd pl (scR pl σ (rmo σ q) sc (cN (σ 11 (rmo σ q)))) h) s H locs := hI.cast (congrArg (fun z => fC g ad z pd pl (scR pl σ (rmo σ q) sc (cN (σ 11 (rmo σ q)))) h) (hrs_back hIv hB hr (by have := hT.2; omega)))
            refine lv_iload hx hb dX6_lasts_70 (lv_at hl 0 rfl) ?_
            exact e_int hC hI ⟨(if_pos hin).trans (if_neg (by rw [hcq]; exact hz)), by unfold rsLA aheadS; rw [hcq, hfin], fun _ _ _ => rfl, pl, _, hP, rfl⟩ (Nat.le_of_ble_eq_true rfl) (Nat.le_of_ble_eq_true rfl) dX6_lasts_72
          · have c44 := bi_0.mp c44
            have hah2 : ahL (rmo σ q) (nI q) (cN (σ 1 0)) (500 - (k + 1)) (k + 1) (hrsAt σ (rmo σ q) (cN (σ 1 0)) (k + 1), hourP (hrsAt σ (rmo σ q) (cN (σ 1 0)) k) P (rmo σ q) ((cN (σ 1 0) + k) % 24)) = ahL (rmo σ q) (nI q) (cN (σ 1 0)) 500 0 (σ, pd) := by
              rw [← hah, show 500 - k = (500 - (k + 1)) + 1 by omega, ahL_1 (Or.inr (by rw [hcq9]; exact c44))]
              rfl
            refine lv_aload_n hx hb dX6_lasts_47 rfl (lv_at hl 3 rfl) ?_
            refine lv_aload_n hx hb dX6_lasts_48 rfl (lv_at hl 1 rfl) ?_
            refine lv_aload_n hx hb dX6_lasts_49 rfl (lv_at hl 3 rfl) ?_
            refine gf_X6_54 hC hI fC_0 rfl dX6_lasts_50 ?_
            rw [show hrsAt σ (rmo σ q) (cN (σ 1 0)) k 1 0 = nI (cN (σ 1 0)) from (congrFun (hrs_row (by decide) (by decide) (by decide) k) 0).trans hT.1]
            refine lv_iload hx hb dX6_lasts_53 (lv_at hl 0 rfl) ?_
            refine lv_iadd hx hb dX6_lasts_55 ?_
            rw [nI_add]
            refine c_Vi (rest := []) hl9 hC hI hl.1 (tX6_passHourIn l g B0 ad (hrsAt σ (rmo σ q) (cN (σ 1 0)) k) pd pl (scR pl σ (rmo σ q) sc (cN (σ 11 (rmo σ q)))) h (rmo σ q) hrk (cN (σ 1 0) + k) (by have := hT.2; omega) (600 + 20 * ((cN (σ 1 0) + k : Nat) : Int)) (by omega) (by have := hT.2; omega) (hBk.1 _ hrk) (fun q hq _ => (hBk.2 q hq).1) hIk.1 hIk.2.1 hIk.2.2.1) (cw_X6_216 hts rfl rfl ⟨(Nat.le_of_ble_eq_true rfl), (Nat.le_of_ble_eq_true rfl)⟩) fC_0 rfl rfl rfl rfl (Nat.le_of_ble_eq_true rfl) dX6_lasts_56 ⟨(Nat.le_of_ble_eq_true rfl), (Nat.le_of_ble_eq_true rfl)⟩ (fun H locs hI => ?_)
            refine lv_pop hx hb dX6_lasts_59 rfl ?_
            refine lv_iinc (v := nI (k + 1)) (lv' := [(4, .int (nI (k + 1))), (3, .ref (ad 8 (rmo σ q))), (2, .ref (ad 12 q)), (0, .ref (ad 0 0))]) hx hb dX6_lasts_60 hl (k := 0) rfl (nI_1 _) (by decide) rfl (fun ls hl => ?_)
            refine lv_goto (tgt := 32) hx hb dX6_lasts_63 (by decide) ?_
            refine W.widen (k := 0 + 1) (n := 0 + 6) (by omega) (by omega) ?_
            exact ih32 (k + 1) (hourP (hrsAt σ (rmo σ q) (cN (σ 1 0)) k) P (rmo σ q) ((cN (σ 1 0) + k) % 24)) (by omega) (by omega) hah2 _ _ hI ls (lv_sub hl [0, 1, 2, 3] rfl)
    refine W.widen (k := 0 + 1) (n := 0 + 6) (by omega) (by omega) ?_
    exact L32 501 0 pd (by omega) (by omega) rfl _ _ hI ls (lv_sub hl [0, 1, 2, 3] rfl)
