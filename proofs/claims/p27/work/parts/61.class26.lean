/-! THE COLD STORE'S CALLS: addRoom -/
theorem PlOk_AR {σ : Sg} {pl : Pl} {a wa po aim : Int32} (hok : OkP σ) (hP : PlOk σ pl) (hn : nr σ < 6) : PlOk (stAR σ a wa po aim) pl := by
  obtain ⟨h17, h60, h10, h6, h5, h12, hpr, hrm⟩ := id hok
  have en := nr_AR (a := a) (wa := wa) (po := po) (aim := aim) h10 hn
  have e11 : ∀ i : Nat, stAR σ a wa po aim 11 i = if i = nr σ then a else σ 11 i := fun i => rfl
  have nu : ∀ j : Nat, pl (nr σ) j = none := fun j => hP.out (nr σ) j (fun z => by omega)
  refine ⟨fun i j p hi hj hpl => ?_, fun i j j' p hi hj hj' h1 h2 => ?_, fun p hp1 hp2 => ?_, fun i j hno => ?_⟩
  · by_cases hc : i = nr σ
    · rw [hc, nu] at hpl
      cases hpl
    · rw [en] at hi
      rw [e11, if_neg hc] at hj
      exact hP.on i j p (by omega) hj hpl
  · by_cases hc : i = nr σ
    · rw [hc, nu] at h1
      cases h1
    · rw [en] at hi
      rw [e11, if_neg hc] at hj hj'
      exact hP.inj i j j' p (by omega) hj hj' h1 h2
  · obtain ⟨j, hj, e⟩ := hP.ex p hp1 hp2
    have hr := (hrm p hp1 hp2).2
    refine ⟨j, ?_, e⟩
    show j < cN (stAR σ a wa po aim 11 (rmo σ p))
    rw [e11, if_neg (by omega)]
    exact hj
  · by_cases hc : i = nr σ
    · rw [hc]
      exact nu j
    · refine hP.out i j (fun z => hno ⟨?_, ?_⟩)
      · rw [en]
        omega
      · rw [e11, if_neg hc]
        exact z.2

set_option maxHeartbeats 4000000 in
set_option maxRecDepth 100000 in
theorem tX6_addRoom (l : Launch) (g : Gg) (B0 : Nat) (ad : Ad) (σ : Sg) (pd : Int64) (pl : Pl) (sc : Sg) (h : Wd) (pl9 wa po aim : Int32) (hIv : Iv σ pl)  : MM l g B0 yX6_addRoom (wsM yX6_addRoom cX6_addRoom 5 (some .int)) ({ frames := 7, cells := 9, slots := 71, locals := 112 } : Room) [.ref (ad 0 0), .int pl9, .int wa, .int po, .int aim] ad (fC g ad σ pd pl sc h) (rC g ad (kdAR σ pl9 wa po aim) (σ 10 0) (stAR σ pl9 wa po aim) (pd) h) (xE (fun E => (kdAR σ pl9 wa po aim = 1 ∧ E = nIA) ∨ (kdAR σ pl9 wa po aim = 2 ∧ E = nIS)) ad (fC g ad σ pd pl sc h)) 9 71 := by
  refine MM.start (by decide) (Nat.le_of_ble_eq_true rfl) ?_
  intro hl9 p e s m below meth c ls hC hno hI hl0
  have hx := hC.1.1
  have hb := hC.1.2.1
  have hts := hC.1.2.2.2.2
  have hl : lv_has ls 5 [(0, .ref (ad 0 0)), (1, .int pl9), (2, .int wa), (3, .int po), (4, .int aim)] := hl0
  obtain ⟨H, hH⟩ : ∃ H, H = s.heap := ⟨_, rfl⟩
  obtain ⟨locs, hLo⟩ : ∃ L : List Loc, L = [] := ⟨_, rfl⟩
  rw [← hH, ← hLo] at hI ⊢
  clear hH hLo hl0
  obtain ⟨hok, hP, hR, hF⟩ := id hIv
  obtain ⟨h17, h60, h10, h6, h5, h12, hpr, hrm⟩ := id hok
  refine lv_iload_n hx hb dX6_addRoom_0 rfl (lv_at hl 1 rfl) ?_
  refine lv_iconst (v := 1) hx hb dX6_addRoom_1 (by decide) ?_
  refine lv_bipush (v := 20) hx hb dX6_addRoom_2 (by decide) ?_
  refine x_S (rest := []) hl9 hC hI hl.1 (tX6_requireWithin l g B0 ad _ pl9 1 20) (cw_X6_61 hts rfl rfl ⟨(Nat.le_of_ble_eq_true rfl), (Nat.le_of_ble_eq_true rfl)⟩) rfl rfl (Nat.le_of_ble_eq_true rfl) dX6_addRoom_4 ⟨(Nat.le_of_ble_eq_true rfl), (Nat.le_of_ble_eq_true rfl)⟩ hno (Nat.le_of_ble_eq_true rfl) (Nat.le_of_ble_eq_true rfl) (fun E a w hx => ⟨Or.inl ⟨if_neg (fun z => hx.1.2 z.1), hx.1.1⟩, hx.2.1, hx.2.2⟩) (fun v ad1 w H locs hR hI => ?_)
  obtain ⟨hq1, rfl, ha9, rfl⟩ := hR; obtain rfl := ha9.symm
  refine lv_iload_n hx hb dX6_addRoom_7 rfl (lv_at hl 2 rfl) ?_
  refine lv_iconst (v := 1) hx hb dX6_addRoom_8 (by decide) ?_
  refine lv_bipush (v := 20) hx hb dX6_addRoom_9 (by decide) ?_
  refine x_S (rest := []) hl9 hC hI hl.1 (tX6_requireWithin l g B0 ad _ wa 1 20) (cw_X6_61 hts rfl rfl ⟨(Nat.le_of_ble_eq_true rfl), (Nat.le_of_ble_eq_true rfl)⟩) rfl rfl (Nat.le_of_ble_eq_true rfl) dX6_addRoom_11 ⟨(Nat.le_of_ble_eq_true rfl), (Nat.le_of_ble_eq_true rfl)⟩ hno (Nat.le_of_ble_eq_true rfl) (Nat.le_of_ble_eq_true rfl) (fun E a w hx => ⟨Or.inl ⟨if_neg (fun z => hx.1.2 z.2.1), hx.1.1⟩, hx.2.1, hx.2.2⟩) (fun v ad1 w H locs hR hI => ?_)
  obtain ⟨hq2, rfl, ha9, rfl⟩ := hR; obtain rfl := ha9.symm
  refine lv_iload_n hx hb dX6_addRoom_14 rfl (lv_at hl 3 rfl) ?_
  refine lv_iconst (v := 0) hx hb dX6_addRoom_15 (by decide) ?_
  refine lv_sipush (v := 200) hx hb dX6_addRoom_16 (by decide) ?_
  refine x_S (rest := []) hl9 hC hI hl.1 (tX6_requireWithin l g B0 ad _ po 0 200) (cw_X6_61 hts rfl rfl ⟨(Nat.le_of_ble_eq_true rfl), (Nat.le_of_ble_eq_true rfl)⟩) rfl rfl (Nat.le_of_ble_eq_true rfl) dX6_addRoom_19 ⟨(Nat.le_of_ble_eq_true rfl), (Nat.le_of_ble_eq_true rfl)⟩ hno (Nat.le_of_ble_eq_true rfl) (Nat.le_of_ble_eq_true rfl) (fun E a w hx => ⟨Or.inl ⟨if_neg (fun z => hx.1.2 z.2.2.1), hx.1.1⟩, hx.2.1, hx.2.2⟩) (fun v ad1 w H locs hR hI => ?_)
  obtain ⟨hq3, rfl, ha9, rfl⟩ := hR; obtain rfl := ha9.symm
  refine lv_iload hx hb dX6_addRoom_22 (lv_at hl 4 rfl) ?_
  refine lv_sipush (v := (-300)) hx hb dX6_addRoom_24 (by decide) ?_
  refine lv_sipush (v := 150) hx hb dX6_addRoom_27 (by decide) ?_
  refine x_S (rest := []) hl9 hC hI hl.1 (tX6_requireWithin l g B0 ad _ aim (-300) 150) (cw_X6_61 hts rfl rfl ⟨(Nat.le_of_ble_eq_true rfl), (Nat.le_of_ble_eq_true rfl)⟩) rfl rfl (Nat.le_of_ble_eq_true rfl) dX6_addRoom_30 ⟨(Nat.le_of_ble_eq_true rfl), (Nat.le_of_ble_eq_true rfl)⟩ hno (Nat.le_of_ble_eq_true rfl) (Nat.le_of_ble_eq_true rfl) (fun E a w hx => ⟨Or.inl ⟨if_neg (fun z => hx.1.2 z.2.2.2), hx.1.1⟩, hx.2.1, hx.2.2⟩) (fun v ad1 w H locs hR hI => ?_)
  obtain ⟨hq4, rfl, ha9, rfl⟩ := hR; obtain rfl := ha9.symm
  have hkP : (1 ≤ pl9 ∧ pl9 ≤ 20) ∧ (1 ≤ wa ∧ wa ≤ 20) ∧ (0 ≤ po ∧ po ≤ 200) ∧ (-300 ≤ aim ∧ aim ≤ 150) := ⟨hq1, hq2, hq3, hq4⟩
  obtain ⟨n, hn21, rfl⟩ := (fact_n (n := 21) (by decide)).mp ⟨Int32.le_trans (by decide) hq1.1, (le_lt1 20 21 rfl).mp hq1.2⟩
  refine lv_aload_n hx hb dX6_addRoom_33 rfl (lv_at hl 0 rfl) ?_
  refine gf_X6_45 hC hI fC_0 rfl dX6_addRoom_34 ?_
  refine lv_aload_n hx hb dX6_addRoom_37 rfl (lv_at hl 0 rfl) ?_
  refine gf_X6_31 hC hI fC_0 rfl dX6_addRoom_38 ?_
  refine r_alen hC hI fC_5 4 rfl (v := 6) rfl dX6_addRoom_41 ?_
  refine lv_icmp_lt (tgt := 55) hx hb dX6_addRoom_42 (by decide) (fun c42 => ?_) (fun c42 => ?_)
  · have hnr : nr σ < 6 := by
      have z := c42
      rw [h10] at z
      exact (nI_ltI (b := 6) (by omega) (by decide)).mp z
    have hnf : ¬ σ 10 0 = 6 := fun z => by
      rw [z] at c42
      exact absurd c42 (by decide)
    refine lv_aload_n hx hb dX6_addRoom_55 rfl (lv_at hl 0 rfl) ?_
    refine gf_X6_31 hC hI fC_0 rfl dX6_addRoom_56 ?_
    refine lv_aload_n hx hb dX6_addRoom_59 rfl (lv_at hl 0 rfl) ?_
    refine gf_X6_45 hC hI fC_0 rfl dX6_addRoom_60 ?_
    refine r_new hC hI 8 (nr σ) (if_neg (Nat.lt_irrefl _)) inX4 tyX4 tyX4_ok wd_cl_X6_29 wd_it_RX4 wd_in_RX4 (ci := 4) rfl (fs := [.int 0, .int 0, .null, .null, .int 0, .int 0, .int 0, .int 0, .null, .int 0, .int 0]) (fun j hj => by rcases j with _ | _ | _ | _ | _ | _ | _ | _ | _ | _ | _ | j <;> first | rfl | omega) (Nat.le_of_ble_eq_true rfl) (Nat.le_of_ble_eq_true rfl) dX6_addRoom_63 (fun q H hI => ?_)
    obtain ⟨a1, ha1⟩ : ∃ z : Ad, z = adup ad 8 (nr σ) q := ⟨_, rfl⟩
    rw [← ha1] at hI
    have e0 : ad 0 0 = a1 0 0 := by rw [ha1]; rfl
    have eq9 : q = a1 8 (nr σ) := by rw [ha1, adup_s]
    rw [e0] at hl
    rw [eq9]
    refine lv_dup hx hb dX6_addRoom_66 rfl ?_
    refine lv_aload_n hx hb dX6_addRoom_67 rfl (lv_at hl 0 rfl) ?_
    refine gf_X6_45 hC hI ((up2_n _ _ (by omega)).trans fC_0) rfl dX6_addRoom_68 ?_
    refine lv_topi (fun y ey => ?_)
    rw [h10] at ey
    subst ey
    refine lv_iload_n hx hb dX6_addRoom_71 rfl (lv_at hl 1 rfl) ?_
    refine lv_iload_n hx hb dX6_addRoom_72 rfl (lv_at hl 2 rfl) ?_
    refine lv_iload_n hx hb dX6_addRoom_73 rfl (lv_at hl 3 rfl) ?_
    refine lv_iload hx hb dX6_addRoom_74 (lv_at hl 4 rfl) ?_
    refine r_callI (rest := [.ref (a1 8 (nr σ)), .int (σ 10 0), .ref (ad 5 0)]) hC hI hl.1 (tX4_init l g B0 a1 _ (nr σ) n (by omega) (nI (nr σ)) wa po aim ((up2_n _ _ (by omega)).trans (if_neg (Nat.lt_irrefl _))) ((up2_n _ _ (by omega)).trans (if_neg (Nat.lt_irrefl _))) ((up2_n _ _ (by omega)).trans (if_neg (Nat.lt_irrefl _))) (up2_s _ _ _ _)) (cw_X6_93 hts rfl rfl ⟨(Nat.le_of_ble_eq_true rfl), (Nat.le_of_ble_eq_true rfl)⟩) rfl rfl (Nat.le_of_ble_eq_true rfl) dX6_addRoom_76 ⟨(Nat.le_of_ble_eq_true rfl), (Nat.le_of_ble_eq_true rfl)⟩ (fun v a9 w H locs hR hI => ?_)
    obtain ⟨rfl, ha9, rfl⟩ := hR
    have hA : ∀ k i, ¬ ((k = 8 ∨ k = 9 ∨ k = 10 ∨ k = 11) ∧ i = nr σ) → a9 k i = ad k i := fun k i hk => (ha9 k i (by omega)).trans (by rw [ha1]; exact adup_n _ _ (by omega))
    have e8 : a1 8 (nr σ) = a9 8 (nr σ) := (ha9 8 _ (by omega)).symm
    have e0b : a1 0 0 = a9 0 0 := (ha9 0 _ (by omega)).symm
    have e5 : ad 5 0 = a9 5 0 := (hA 5 0 (by omega)).symm
    rw [e0b] at hl
    have hI : WI g a9 B0 (up2 (up2 (up2 (up2 (fC g a9 σ pd pl sc h) 8 (nr σ) (.inr (4, [.int (nI (nr σ)), .int wa, .ref (a9 9 (nr σ)), .ref (a9 11 (nr σ)), .int aim, .int 0, .int 150, .int 0, .ref (a9 10 (nr σ)), .int 0, .int 0]))) 11 (nr σ) (.inl (g.2 2, n, .inr (.inr (.inr (.inr (fun _ => none))))))) 9 (nr σ) (.inr (1, [.int po, .int 0, .int 0, .int 0, .int 0]))) 10 (nr σ) (.inr (1, [.int po, .int 0, .int 0, .int 0, .int 0]))) s H locs := hI.cast (by rw [up2_up2, fC_adR hok hA])
    refine W.eq (g2 := F0 m 79 ls [.ref (a9 8 (nr σ)), .int (σ 10 0), .ref (a9 5 0)]) (by rw [e8, e5]; rfl) ?_
    refine r_aast hC hI ((up2_n _ _ (by omega)).trans ((up2_n _ _ (by omega)).trans ((up2_n _ _ (by omega)).trans ((up2_n _ _ (by omega)).trans fC_5)))) 4 rfl ((up2_n _ _ (by omega)).trans ((up2_n _ _ (by omega)).trans ((up2_n _ _ (by omega)).trans (up2_s _ _ _ _)))) rfl (j := (nr σ)) h10 hnr (by decide) dX6_addRoom_79 (fun H locs hI => ?_)
    have hI : WI g a9 B0 (up2 (up2 (up2 (up2 (up2 (fC g a9 σ pd pl sc h) 8 (nr σ) (.inr (4, [.int (nI (nr σ)), .int wa, .ref (a9 9 (nr σ)), .ref (a9 11 (nr σ)), .int aim, .int 0, .int 150, .int 0, .ref (a9 10 (nr σ)), .int 0, .int 0]))) 11 (nr σ) (.inl (g.2 2, n, .inr (.inr (.inr (.inr (fun _ => none))))))) 9 (nr σ) (.inr (1, [.int po, .int 0, .int 0, .int 0, .int 0]))) 10 (nr σ) (.inr (1, [.int po, .int 0, .int 0, .int 0, .int 0]))) 5 0 (.inl (g.2 4, 6, .inr (.inr (.inr (.inr (va_up (fun j => if j < nr σ then some (a9 8 j) else none) (nr σ) (some (a9 8 (nr σ)))))))))) s H locs := hI.cast (rfl)
    refine lv_aload_n hx hb dX6_addRoom_80 rfl (lv_at hl 0 rfl) ?_
    refine lv_dup hx hb dX6_addRoom_81 rfl ?_
    refine gf_X6_45 hC hI ((up2_n _ _ (by omega)).trans ((up2_n _ _ (by omega)).trans ((up2_n _ _ (by omega)).trans ((up2_n _ _ (by omega)).trans ((up2_n _ _ (by omega)).trans fC_0))))) rfl dX6_addRoom_82 ?_
    refine lv_dup_x1 hx hb dX6_addRoom_85 rfl rfl ?_
    refine lv_iconst (v := 1) hx hb dX6_addRoom_86 (by decide) ?_
    refine lv_iadd hx hb dX6_addRoom_87 ?_
    refine pf_X6_45 hC hI ((up2_n _ _ (by omega)).trans ((up2_n _ _ (by omega)).trans ((up2_n _ _ (by omega)).trans ((up2_n _ _ (by omega)).trans ((up2_n _ _ (by omega)).trans fC_0))))) (Nat.le_of_ble_eq_true rfl) dX6_addRoom_88 (fun H locs hI => ?_)
    have hI : WI g a9 B0 (up2 (up2 (up2 (up2 (up2 (up2 (fC g a9 σ pd pl sc h) 8 (nr σ) (.inr (4, [.int (nI (nr σ)), .int wa, .ref (a9 9 (nr σ)), .ref (a9 11 (nr σ)), .int aim, .int 0, .int 150, .int 0, .ref (a9 10 (nr σ)), .int 0, .int 0]))) 11 (nr σ) (.inl (g.2 2, n, .inr (.inr (.inr (.inr (fun _ => none))))))) 9 (nr σ) (.inr (1, [.int po, .int 0, .int 0, .int 0, .int 0]))) 10 (nr σ) (.inr (1, [.int po, .int 0, .int 0, .int 0, .int 0]))) 5 0 (.inl (g.2 4, 6, .inr (.inr (.inr (.inr (va_up (fun j => if j < nr σ then some (a9 8 j) else none) (nr σ) (some (a9 8 (nr σ)))))))))) 0 0 (.inr (6, [.ref (a9 1 0), .ref (a9 2 0), .ref (a9 4 0), .ref (a9 5 0), .ref (a9 6 0), .int (σ 5 0), .int ((σ 10 0) + 1), .int (σ 17 0), .int (σ 22 0), .int (σ 1 0), .long pd]))) s H locs := hI.cast (rfl)
    have hI : WI g a9 B0 (fC g a9 (stAR σ (nI n) wa po aim) pd pl (scN σ sc) h) s H locs := hI.cast (fC_addR hok hP hF hnr (by omega))
    exact e_int hC hI ⟨(if_pos hkP).trans (if_neg hnf), rfl, fun k i hk => hA k i (by omega), pl, scN σ sc, PlOk_AR hok hP hnr, rfl⟩ (Nat.le_of_ble_eq_true rfl) (Nat.le_of_ble_eq_true rfl) dX6_addRoom_91
  · have hfull : σ 10 0 = 6 := by
      rw [h10] at c42 ⊢
      have z : ¬ nr σ < 6 := fun z => c42 ((nI_ltI (b := 6) (by omega) (by decide)).mpr z)
      rw [show nr σ = 6 by omega]
      rfl
    exact r_throw (E := nIS) (by decide) xIS_t xIS_b xIS_o wd_cl_X6_81 wd_in_java_lang_IllegalStateException (List.mem_of_getElem? (i := 2) rfl) hl9 hno hC hC.2.2.2.2.2.1.2.1.2.1 hI hl.1 ⟨Or.inr ⟨(if_pos hkP).trans (if_pos hfull), rfl⟩, rfl, rfl⟩ dX6_addRoom_45 dX6_addRoom_48 dX6_addRoom_49 dX6_addRoom_51 dX6_addRoom_54 (Nat.le_of_ble_eq_true rfl) (Nat.le_of_ble_eq_true rfl) (Nat.le_of_ble_eq_true rfl) (Nat.le_of_ble_eq_true rfl) (Nat.le_of_ble_eq_true rfl) (Nat.le_of_ble_eq_true rfl)
