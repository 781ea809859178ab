/-! THE COLD STORE'S CALLS, sixth part: move -/
theorem s1_s1 (σ : Sg) (w j : Nat) (x y : Int32) : s1 (s1 σ w j x) w j y = s1 σ w j y := by
  funext a b
  by_cases ha : a = w
  · subst ha
    show su (su σ a (upd (σ a) j x)) a (upd (su σ a (upd (σ a) j x) a) j y) a b = su σ a (upd (σ a) j y) a b
    rw [su_s, su_s, su_s]
    by_cases hb : b = j
    · subst hb
      rw [upd_s, upd_s]
    · rw [upd_n _ _ hb, upd_n _ _ hb, upd_n _ _ hb]
  · show su (su σ w (upd (σ w) j x)) w (upd (su σ w (upd (σ w) j x) w) j y) a b = su σ w (upd (σ w) j y) a b
    rw [su_n _ _ ha, su_n _ _ ha, su_n _ _ ha]
theorem free_ex {pl : Pl} {r : Nat} : ∀ n : Nat, ¬ fpC pl r n = 0 → ∃ j, j < n ∧ pl r j = none
  | 0, h => absurd rfl h
  | n + 1, h => by
    cases hp : pl r n with
    | none => exact ⟨n, Nat.lt_succ_self _, hp⟩
    | some q =>
      rw [fpC_S hp] at h
      obtain ⟨j, h1, h2⟩ := free_ex n h
      exact ⟨j, by omega, h2⟩
theorem reason_free {σ : Sg} {a r : Nat} (h : reasonS σ a r = 0) : ¬ freeS σ r = 0 := by
  intro z
  unfold reasonS at h
  rw [if_pos z] at h
  exact absurd h (by decide)
theorem PlOk_take {σ : Sg} {pl : Pl} {r q j0 : Nat} (h : PlOk σ pl) (hr : r < nr σ) (hr6 : nr σ ≤ 6) (hq : q < nt σ) (hg : σ 19 q = -1) (hj0 : j0 < cN (σ 11 r)) (hfree : pl r j0 = none) : PlOk (s1 σ 19 q (nI r)) (plu pl r j0 (some q)) := by
  have u_ : ∀ p, ¬ p = q → s1 σ 19 q (nI r) 19 p = σ 19 p := fun p hp => upd_n _ _ hp
  have us : s1 σ 19 q (nI r) 19 q = nI r := upd_s _ _ _
  have hno : ∀ i j, i < nr σ → j < cN (σ 11 i) → ¬ pl i j = some q := fun i j hi hj z => by
    have e := (h.on i j q hi hj z).2
    rw [hg] at e
    exact absurd (nI_nn (show i < 2 ^ 31 by omega)) (by rw [← e]; decide)
  refine ⟨fun i j p hi hj hpl => ?_, fun i j j' p hi hj hj' h1 h2 => ?_, fun p hp1 hp2 => ?_, fun i j hn => ?_⟩
  · by_cases hc : i = r ∧ j = j0
    · obtain ⟨rfl, rfl⟩ := hc
      rw [plu_s] at hpl
      cases hpl
      exact ⟨hq, us⟩
    · rw [plu_n _ _ hc] at hpl
      obtain ⟨e1, e2⟩ := h.on i j p hi hj hpl
      have hne : ¬ p = q := fun z => hno i j hi hj (z ▸ hpl)
      exact ⟨e1, (u_ p hne).trans e2⟩
  · by_cases hc : i = r ∧ j = j0
    · by_cases hc' : i = r ∧ j' = j0
      · rw [hc.2, hc'.2]
      · obtain ⟨rfl, rfl⟩ := hc
        rw [plu_s] at h1
        cases h1
        rw [plu_n _ _ hc'] at h2
        exact absurd h2 (hno _ _ hi hj')
    · rw [plu_n _ _ hc] at h1
      by_cases hc' : i = r ∧ j' = j0
      · obtain ⟨rfl, rfl⟩ := hc'
        rw [plu_s] at h2
        cases h2
        exact absurd h1 (hno _ _ hi hj)
      · rw [plu_n _ _ hc'] at h2
        exact h.inj i j j' p hi hj hj' h1 h2
  · by_cases hpq : p = q
    · subst hpq
      have e : rmo (s1 σ 19 p (nI r)) p = r := by
        show cN (s1 σ 19 p (nI r) 19 p) = r
        rw [us]
        exact cN_nI (by omega)
      rw [e]
      exact ⟨j0, hj0, plu_s _ _ _ _⟩
    · rw [u_ p hpq] at hp2
      obtain ⟨j, hj, e⟩ := h.ex p hp1 hp2
      have ero : rmo (s1 σ 19 q (nI r)) p = rmo σ p := congrArg cN (u_ p hpq)
      rw [ero]
      by_cases hc : rmo σ p = r ∧ j = j0
      · rw [hc.1, hc.2, hfree] at e
        cases e
      · exact ⟨j, hj, by rw [plu_n _ _ hc]; exact e⟩
  · by_cases hc : i = r ∧ j = j0
    · obtain ⟨rfl, rfl⟩ := hc
      exact absurd ⟨hr, hj0⟩ hn
    · rw [plu_n _ _ hc]
      exact h.out i j hn

set_option maxHeartbeats 4000000 in
set_option maxRecDepth 100000 in
theorem tX6_move (l : Launch) (g : Gg) (B0 : Nat) (ad : Ad) (σ : Sg) (pd : Int64) (pl : Pl) (sc : Sg) (h : Wd) (u v : Int32) (hIv : Iv σ pl)  : MM l g B0 yX6_move (wsM yX6_move cX6_move 6 (some .int)) ({ frames := 7, cells := 3, slots := 18, locals := 112 } : Room) [.ref (ad 0 0), .int u, .int v] ad (fC g ad σ pd pl sc h) (rC g ad (kdMV σ u v) (σ 19 (cN u)) (stMV σ u v) (pd) h) (xE (fun E => (kdMV σ u v = 1 ∧ E = nIO) ∨ (kdMV σ u v = 2 ∧ E = nIS)) ad (fC g ad σ pd pl sc h)) 3 18 := by
  refine MM.start (by decide) (Nat.le_of_ble_eq_true rfl) ?_
  intro hl9 p e s m below meth c ls hC hno hI hl0
  have hx := hC.1.1
  have hb := hC.1.2.1
  have hts := hC.1.2.2.2.2
  have hl : lv_has ls 6 [(0, .ref (ad 0 0)), (1, .int u), (2, .int v)] := hl0
  obtain ⟨H, hH⟩ : ∃ H, H = s.heap := ⟨_, rfl⟩
  obtain ⟨locs, hLo⟩ : ∃ L : List Loc, L = [] := ⟨_, rfl⟩
  rw [← hH, ← hLo] at hI ⊢
  clear hH hLo hl0
  obtain ⟨hok, hP, hR, hF⟩ := id hIv
  obtain ⟨h17, h60, h10, h6, h5, h12, hpr, hrm⟩ := id hok
  refine lv_aload_n hx hb dX6_move_0 rfl (lv_at hl 0 rfl) ?_
  refine lv_iload_n hx hb dX6_move_1 rfl (lv_at hl 1 rfl) ?_
  refine x_V (rest := []) hl9 hC hI hl.1 (tX6_existingPallet l g B0 ad σ pd pl sc h u hok) (cw_X6_150 hts rfl rfl ⟨(Nat.le_of_ble_eq_true rfl), (Nat.le_of_ble_eq_true rfl)⟩) fC_0 rfl rfl rfl rfl (Nat.le_of_ble_eq_true rfl) dX6_move_2 ⟨(Nat.le_of_ble_eq_true rfl), (Nat.le_of_ble_eq_true rfl)⟩ hno (Nat.le_of_ble_eq_true rfl) (Nat.le_of_ble_eq_true rfl) (fun E a w hx => ⟨Or.inl ⟨if_neg (fun z => hx.1.2 z.1), hx.1.1⟩, hx.2.1, hx.2.2⟩) (fun v ad1 w H locs hR hI => ?_)
  obtain ⟨hin1, rfl, ha9, rfl⟩ := hR; obtain rfl := ha9.symm
  obtain ⟨q, hq, rfl⟩ := (in_cnt h17 (by omega)).mp (id hin1)
  rw [show cN (nI q) = q from cN_nI (by omega)]
  have hcq : cN (nI q) = q := cN_nI (by omega)
  refine lv_astore_n (lv' := [(3, .ref (ad 12 q)), (0, .ref (ad 0 0)), (1, .int (nI q)), (2, .int v)]) hx hb dX6_move_5 rfl hl (by decide) rfl (fun ls hl => ?_)
  refine lv_aload_n hx hb dX6_move_6 rfl (lv_at hl 1 rfl) ?_
  refine lv_iload_n hx hb dX6_move_7 rfl (lv_at hl 3 rfl) ?_
  refine x_V (rest := []) hl9 hC hI hl.1 (tX6_existingRoom l g B0 ad σ pd pl sc h v hok) (cw_X6_94 hts rfl rfl ⟨(Nat.le_of_ble_eq_true rfl), (Nat.le_of_ble_eq_true rfl)⟩) fC_0 rfl rfl rfl rfl (Nat.le_of_ble_eq_true rfl) dX6_move_8 ⟨(Nat.le_of_ble_eq_true rfl), (Nat.le_of_ble_eq_true rfl)⟩ hno (Nat.le_of_ble_eq_true rfl) (Nat.le_of_ble_eq_true rfl) (fun E a w hx => ⟨Or.inl ⟨if_neg (fun z => hx.1.2 z.2), hx.1.1⟩, hx.2.1, hx.2.2⟩) (fun v ad1 w H locs hR hI => ?_)
  obtain ⟨hin2, rfl, ha9, rfl⟩ := hR; obtain rfl := ha9.symm
  obtain ⟨r2, hr2, rfl⟩ := (in_cnt h10 (by omega)).mp (id hin2)
  rw [show cN (nI r2) = r2 from cN_nI (by omega)]
  have hcr2 : cN (nI r2) = r2 := cN_nI (by omega)
  refine lv_astore (lv' := [(4, .ref (ad 8 r2)), (3, .ref (ad 12 q)), (0, .ref (ad 0 0)), (1, .int (nI q)), (2, .int (nI r2))]) hx hb dX6_move_11 hl (by decide) rfl (fun ls hl => ?_)
  refine lv_aload_n hx hb dX6_move_13 rfl (lv_at hl 1 rfl) ?_
  refine gf_X6_154 hC hI (fC_12 hq) rfl dX6_move_14 ?_
  refine lv_topo (fun e14 => ?_) (fun q14 e14 => ?_)
  · have hz : σ 19 q = -1 := rm_none.mp e14
    refine lv_astoreN (lv' := [(5, .null), (4, .ref (ad 8 r2)), (3, .ref (ad 12 q)), (0, .ref (ad 0 0)), (1, .int (nI q)), (2, .int (nI r2))]) hx hb dX6_move_17 hl (by decide) rfl (fun ls hl => ?_)
    refine lv_aloadN hx hb dX6_move_19 (lv_at hl 0 rfl) ?_
    refine lv_ifnullN (tgt := 43) hx hb dX6_move_21 (by decide) ?_
    exact r_throw (E := nIS) (by decide) xIS_t xIS_b xIS_o wd_cl_X6_81 wd_in_java_lang_IllegalStateException (List.mem_of_getElem? (i := 9) rfl) hl9 hno hC hC.2.2.2.2.2.1.2.1.2.1 hI hl.1 ⟨Or.inr ⟨(if_pos ⟨hin1, hin2⟩).trans (if_pos (by rw [hcq, hcr2]; exact Or.inl hz)), rfl⟩, rfl, rfl⟩ dX6_move_43 dX6_move_46 dX6_move_47 dX6_move_49 dX6_move_52 (Nat.le_of_ble_eq_true rfl) (Nat.le_of_ble_eq_true rfl) (Nat.le_of_ble_eq_true rfl) (Nat.le_of_ble_eq_true rfl) (Nat.le_of_ble_eq_true rfl) (Nat.le_of_ble_eq_true rfl)
  · have hz : ¬ σ 19 q = -1 := fun z => by rw [rm_none.mpr z] at e14; cases e14
    obtain rfl : q14 = ad 8 (rmo σ q) := by
      rw [rmR, if_neg hz] at e14
      exact (Option.some.inj e14).symm
    have hr := (hrm q hq hz).2
    have hrq := (hrm q hq hz).1
    obtain ⟨j0, hj0, hpj⟩ := hP.ex q hq hz
    have hpq := (hpr q hq).2
    refine lv_astore (lv' := [(5, .ref (ad 8 (rmo σ q))), (4, .ref (ad 8 r2)), (3, .ref (ad 12 q)), (0, .ref (ad 0 0)), (1, .int (nI q)), (2, .int (nI r2))]) hx hb dX6_move_17 hl (by decide) rfl (fun ls hl => ?_)
    refine lv_aload hx hb dX6_move_19 (lv_at hl 0 rfl) ?_
    refine lv_ifnull hx hb dX6_move_21 ?_
    refine lv_aload hx hb dX6_move_24 (lv_at hl 0 rfl) ?_
    refine lv_aload hx hb dX6_move_26 (lv_at hl 1 rfl) ?_
    refine lv_acmp_eq (rx := some (ad 8 (rmo σ q))) (ry := some (ad 8 r2)) (tgt := 43) hx hb dX6_move_28 (by decide) (fun c28 => ?_) (fun c28 => ?_)
    · have hsr : rmo σ q = r2 := DI_inj hI.2.1 (fC_8 hr) (fC_8 hr2) (Option.some.inj c28)
      exact r_throw (E := nIS) (by decide) xIS_t xIS_b xIS_o wd_cl_X6_81 wd_in_java_lang_IllegalStateException (List.mem_of_getElem? (i := 9) rfl) hl9 hno hC hC.2.2.2.2.2.1.2.1.2.1 hI hl.1 ⟨Or.inr ⟨(if_pos ⟨hin1, hin2⟩).trans (if_pos (by rw [hcq, hcr2]; exact Or.inr (Or.inl (by rw [hrq, hsr])))), rfl⟩, rfl, rfl⟩ dX6_move_43 dX6_move_46 dX6_move_47 dX6_move_49 dX6_move_52 (Nat.le_of_ble_eq_true rfl) (Nat.le_of_ble_eq_true rfl) (Nat.le_of_ble_eq_true rfl) (Nat.le_of_ble_eq_true rfl) (Nat.le_of_ble_eq_true rfl) (Nat.le_of_ble_eq_true rfl)
    · have hsr : ¬ rmo σ q = r2 := fun z => c28 (by rw [z])
      refine lv_aload hx hb dX6_move_31 (lv_at hl 1 rfl) ?_
      refine lv_aload_n hx hb dX6_move_33 rfl (lv_at hl 2 rfl) ?_
      refine gf_X6_158 hC hI (fC_12 hq) rfl dX6_move_34 ?_
      refine c_Vi (rest := []) hl9 hC hI hl.1 (tX4_accepts l g B0 ad σ pd pl sc h r2 hr2 (prd σ q) hpq hok hP hR) (cw_X6_137 hts rfl rfl ⟨(Nat.le_of_ble_eq_true rfl), (Nat.le_of_ble_eq_true rfl)⟩) (fC_8 hr2) rfl rfl rfl rfl (Nat.le_of_ble_eq_true rfl) dX6_move_37 ⟨(Nat.le_of_ble_eq_true rfl), (Nat.le_of_ble_eq_true rfl)⟩ (fun H locs hI => ?_)
      refine lv_if_ne (tgt := 53) hx hb dX6_move_40 (by decide) (fun c40 => ?_) (fun c40 => ?_)
      · have c40 := bi_1.mp c40
        refine lv_aload hx hb dX6_move_53 (lv_at hl 0 rfl) ?_
        refine lv_aload_n hx hb dX6_move_55 rfl (lv_at hl 2 rfl) ?_
        refine c_Vv (rest := []) hl9 hC hI hl.1 (tX4_release l g B0 ad σ pd pl sc h (rmo σ q) hr q hq j0 hj0 hpj hrq hok hP hR) (cw_X6_164 hts rfl rfl ⟨(Nat.le_of_ble_eq_true rfl), (Nat.le_of_ble_eq_true rfl)⟩) (fC_8 hr) rfl rfl rfl rfl (Nat.le_of_ble_eq_true rfl) dX6_move_56 ⟨(Nat.le_of_ble_eq_true rfl), (Nat.le_of_ble_eq_true rfl)⟩ (fun H locs hI => ?_)
        have hP1 := PlOk_leave hok hP hr hj0 hpj hrq
        have hfr9 : ∃ j, j < cN (σ 11 r2) ∧ (fun j => ((plu pl (rmo σ q) j0 none) r2 j).map (ad 12)) j = none := by
          obtain ⟨j, hj, e⟩ := free_ex (pl := pl) (r := r2) (cN (σ 11 r2)) (by rw [hP.free hr2 (by omega) (hR.pl hr2).1]; exact reason_free c40)
          refine ⟨j, hj, ?_⟩
          show ((plu pl (rmo σ q) j0 none) r2 j).map (ad 12) = none
          rw [plu_n _ _ (fun z => hsr z.1.symm), e]
          rfl
        refine lv_aload hx hb dX6_move_59 (lv_at hl 1 rfl) ?_
        refine lv_aload_n hx hb dX6_move_61 rfl (lv_at hl 2 rfl) ?_
        refine x_V (rest := []) hl9 hC hI hl.1 (tX4_take l g B0 ad _ r2 q (cN (σ 11 r2)) _ _ _ _ _ _ _ _ _ _ _ _ _ _ _ _ (fun j => ((plu pl (rmo σ q) j0 none) r2 j).map (ad 12)) (by have := (hR.pl hr2).2; omega) (fC_11 hr2) hfr9 (fC_8 hr2) (fC_12 hq)) (cw_X6_146 hts rfl rfl ⟨(Nat.le_of_ble_eq_true rfl), (Nat.le_of_ble_eq_true rfl)⟩) (fC_8 hr2) rfl rfl rfl rfl (Nat.le_of_ble_eq_true rfl) dX6_move_62 ⟨(Nat.le_of_ble_eq_true rfl), (Nat.le_of_ble_eq_true rfl)⟩ hno (Nat.le_of_ble_eq_true rfl) (Nat.le_of_ble_eq_true rfl) (fun _ _ _ hx => hx.elim) (fun v ad1 w H locs hR hI => ?_)
        obtain ⟨rfl, ha9, j1, hj1, hn1, -, rfl⟩ := hR; obtain rfl := ha9.symm
        have hI : WI g ad B0 (fC g ad (s1 (s1 σ 19 q (-1)) 19 q (nI r2)) pd (plu (plu pl (rmo σ q) j0 none) r2 j1 (some q)) sc h) s H locs := hI.cast (fC_pl (σ := s1 σ 19 q (-1)) (v := some q) hr2 hq (o := some (ad 8 r2)) (w := nI r2) (by rw [if_neg (fun z => absurd (nI_nn (show r2 < 2 ^ 31 by omega)) (by rw [z]; decide)), cN_nI (by omega)]))
        refine lv_aload hx hb dX6_move_65 (lv_at hl 0 rfl) ?_
        refine gf_X6_167 hC hI (fC_8 hr) rfl dX6_move_67 ?_
        exact e_int hC hI ⟨(if_pos ⟨hin1, hin2⟩).trans (if_neg (by rw [hcq, hcr2]; exact fun z => z.elim hz (fun z => z.elim (fun z => hsr (by rw [hrq] at z; exact (nI_eq (by omega) (by omega)).mp z)) (fun z => z c40)))), by rw [hrq], fun _ _ _ => rfl, plu (plu pl (rmo σ q) j0 none) r2 j1 (some q), sc, by unfold stMV; rw [hcq, ← s1_s1 σ 19 q (-1)]; exact PlOk_take hP1 hr2 h6 hq (upd_s _ _ _) hj1 (Option.map_eq_none_iff.mp hn1), by unfold stMV; rw [hcq, s1_s1]⟩ (Nat.le_of_ble_eq_true rfl) (Nat.le_of_ble_eq_true rfl) dX6_move_70
      · have c40 := bi_0.mp c40
        skip
        exact r_throw (E := nIS) (by decide) xIS_t xIS_b xIS_o wd_cl_X6_81 wd_in_java_lang_IllegalStateException (List.mem_of_getElem? (i := 9) rfl) hl9 hno hC hC.2.2.2.2.2.1.2.1.2.1 hI hl.1 ⟨Or.inr ⟨(if_pos ⟨hin1, hin2⟩).trans (if_pos (by rw [hcq, hcr2]; exact Or.inr (Or.inr c40))), rfl⟩, rfl, rfl⟩ dX6_move_43 dX6_move_46 dX6_move_47 dX6_move_49 dX6_move_52 (Nat.le_of_ble_eq_true rfl) (Nat.le_of_ble_eq_true rfl) (Nat.le_of_ble_eq_true rfl) (Nat.le_of_ble_eq_true rfl) (Nat.le_of_ble_eq_true rfl) (Nat.le_of_ble_eq_true rfl)
