/-! THE COLD STORE'S CALLS: addProduct -/

set_option maxHeartbeats 4000000 in
set_option maxRecDepth 100000 in
theorem tX6_addProduct (l : Launch) (g : Gg) (B0 : Nat) (ad : Ad) (σ : Sg) (pd : Int64) (pl : Pl) (sc : Sg) (h : Wd) (lo hi li sm : Int32) (hIv : Iv σ pl)  : MM l g B0 yX6_addProduct (wsM yX6_addProduct cX6_addProduct 5 (some .int)) ({ frames := 7, cells := 6, slots := 35, locals := 112 } : Room) [.ref (ad 0 0), .int lo, .int hi, .int li, .int sm] ad (fC g ad σ pd pl sc h) (rC g ad (kdAP σ lo hi li sm) (σ 5 0) (stAP σ lo hi li sm) (pd) h) (xE (fun E => (kdAP σ lo hi li sm = 1 ∧ E = nIA) ∨ (kdAP σ lo hi li sm = 2 ∧ E = nIS)) ad (fC g ad σ pd pl sc h)) 6 35 := by
  refine MM.start (by decide) (Nat.le_of_ble_eq_true rfl) ?_
  intro hl9 p e s m below meth c ls hC hno hI hl0
  have hx := hC.1.1
  have hb := hC.1.2.1
  have hts := hC.1.2.2.2.2
  have hl : lv_has ls 5 [(0, .ref (ad 0 0)), (1, .int lo), (2, .int hi), (3, .int li), (4, .int sm)] := hl0
  obtain ⟨H, hH⟩ : ∃ H, H = s.heap := ⟨_, rfl⟩
  obtain ⟨locs, hLo⟩ : ∃ L : List Loc, L = [] := ⟨_, rfl⟩
  rw [← hH, ← hLo] at hI ⊢
  clear hH hLo hl0
  obtain ⟨hok, hP, hR, hF⟩ := id hIv
  obtain ⟨h17, h60, h10, h6, h5, h12, hpr, hrm⟩ := id hok
  refine lv_iload_n hx hb dX6_addProduct_0 rfl (lv_at hl 1 rfl) ?_
  refine lv_sipush (v := (-300)) hx hb dX6_addProduct_1 (by decide) ?_
  refine lv_sipush (v := 200) hx hb dX6_addProduct_4 (by decide) ?_
  refine x_S (rest := []) hl9 hC hI hl.1 (tX6_requireWithin l g B0 ad _ lo (-300) 200) (cw_X6_61 hts rfl rfl ⟨(Nat.le_of_ble_eq_true rfl), (Nat.le_of_ble_eq_true rfl)⟩) rfl rfl (Nat.le_of_ble_eq_true rfl) dX6_addProduct_7 ⟨(Nat.le_of_ble_eq_true rfl), (Nat.le_of_ble_eq_true rfl)⟩ hno (Nat.le_of_ble_eq_true rfl) (Nat.le_of_ble_eq_true rfl) (fun E a w hx => ⟨Or.inl ⟨if_neg (fun z => hx.1.2 ⟨z.1, Int32.le_trans z.2.1 z.2.2.1⟩), hx.1.1⟩, hx.2.1, hx.2.2⟩) (fun v ad1 w H locs hR hI => ?_)
  obtain ⟨hq1, rfl, ha9, rfl⟩ := hR; obtain rfl := ha9.symm
  refine lv_iload_n hx hb dX6_addProduct_10 rfl (lv_at hl 2 rfl) ?_
  refine lv_iload_n hx hb dX6_addProduct_11 rfl (lv_at hl 1 rfl) ?_
  refine lv_sipush (v := 200) hx hb dX6_addProduct_12 (by decide) ?_
  refine x_S (rest := []) hl9 hC hI hl.1 (tX6_requireWithin l g B0 ad _ hi lo 200) (cw_X6_61 hts rfl rfl ⟨(Nat.le_of_ble_eq_true rfl), (Nat.le_of_ble_eq_true rfl)⟩) rfl rfl (Nat.le_of_ble_eq_true rfl) dX6_addProduct_15 ⟨(Nat.le_of_ble_eq_true rfl), (Nat.le_of_ble_eq_true rfl)⟩ hno (Nat.le_of_ble_eq_true rfl) (Nat.le_of_ble_eq_true rfl) (fun E a w hx => ⟨Or.inl ⟨if_neg (fun z => hx.1.2 ⟨z.2.1, z.2.2.1⟩), hx.1.1⟩, hx.2.1, hx.2.2⟩) (fun v ad1 w H locs hR hI => ?_)
  obtain ⟨hq2, rfl, ha9, rfl⟩ := hR; obtain rfl := ha9.symm
  refine lv_iload_n hx hb dX6_addProduct_18 rfl (lv_at hl 3 rfl) ?_
  refine lv_bipush (v := 10) hx hb dX6_addProduct_19 (by decide) ?_
  refine lv_sipush (v := 5000) hx hb dX6_addProduct_21 (by decide) ?_
  refine x_S (rest := []) hl9 hC hI hl.1 (tX6_requireWithin l g B0 ad _ li 10 5000) (cw_X6_61 hts rfl rfl ⟨(Nat.le_of_ble_eq_true rfl), (Nat.le_of_ble_eq_true rfl)⟩) rfl rfl (Nat.le_of_ble_eq_true rfl) dX6_addProduct_24 ⟨(Nat.le_of_ble_eq_true rfl), (Nat.le_of_ble_eq_true rfl)⟩ hno (Nat.le_of_ble_eq_true rfl) (Nat.le_of_ble_eq_true rfl) (fun E a w hx => ⟨Or.inl ⟨if_neg (fun z => hx.1.2 z.2.2.2.1), hx.1.1⟩, hx.2.1, hx.2.2⟩) (fun v ad1 w H locs hR hI => ?_)
  obtain ⟨hq3, rfl, ha9, rfl⟩ := hR; obtain rfl := ha9.symm
  refine lv_iload hx hb dX6_addProduct_27 (lv_at hl 4 rfl) ?_
  refine lv_iconst (v := 0) hx hb dX6_addProduct_29 (by decide) ?_
  refine lv_iconst (v := 3) hx hb dX6_addProduct_30 (by decide) ?_
  refine x_S (rest := []) hl9 hC hI hl.1 (tX6_requireWithin l g B0 ad _ sm 0 3) (cw_X6_61 hts rfl rfl ⟨(Nat.le_of_ble_eq_true rfl), (Nat.le_of_ble_eq_true rfl)⟩) rfl rfl (Nat.le_of_ble_eq_true rfl) dX6_addProduct_31 ⟨(Nat.le_of_ble_eq_true rfl), (Nat.le_of_ble_eq_true rfl)⟩ hno (Nat.le_of_ble_eq_true rfl) (Nat.le_of_ble_eq_true rfl) (fun E a w hx => ⟨Or.inl ⟨if_neg (fun z => hx.1.2 z.2.2.2.2), hx.1.1⟩, hx.2.1, hx.2.2⟩) (fun v ad1 w H locs hR hI => ?_)
  obtain ⟨hq4, rfl, ha9, rfl⟩ := hR; obtain rfl := ha9.symm
  have hkP : -300 ≤ lo ∧ lo ≤ hi ∧ hi ≤ 200 ∧ (10 ≤ li ∧ li ≤ 5000) ∧ (0 ≤ sm ∧ sm ≤ 3) := ⟨hq1.1, hq2.1, hq2.2, hq3, hq4⟩
  refine lv_aload_n hx hb dX6_addProduct_34 rfl (lv_at hl 0 rfl) ?_
  refine gf_X6_41 hC hI fC_0 rfl dX6_addProduct_35 ?_
  refine lv_aload_n hx hb dX6_addProduct_38 rfl (lv_at hl 0 rfl) ?_
  refine gf_X6_25 hC hI fC_0 rfl dX6_addProduct_39 ?_
  refine r_alen hC hI fC_4 3 rfl (v := 12) rfl dX6_addProduct_42 ?_
  refine lv_icmp_lt (tgt := 56) hx hb dX6_addProduct_43 (by decide) (fun c43 => ?_) (fun c43 => ?_)
  · have hnp : np σ < 12 := by
      have z := c43
      rw [h5] at z
      exact (nI_ltI (b := 12) (by omega) (by decide)).mp z
    have hnf : ¬ σ 5 0 = 12 := fun z => by
      rw [z] at c43
      exact absurd c43 (by decide)
    refine lv_aload_n hx hb dX6_addProduct_56 rfl (lv_at hl 0 rfl) ?_
    refine gf_X6_25 hC hI fC_0 rfl dX6_addProduct_57 ?_
    refine lv_aload_n hx hb dX6_addProduct_60 rfl (lv_at hl 0 rfl) ?_
    refine gf_X6_41 hC hI fC_0 rfl dX6_addProduct_61 ?_
    refine r_new hC hI 7 (np σ) (if_neg (Nat.lt_irrefl _)) inX3 tyX3 tyX3_ok wd_cl_X6_23 wd_it_RX3 wd_in_RX3 (ci := 3) rfl (fs := [.int 0, .int 0, .int 0, .int 0, .int 0]) (fun j hj => by rcases j with _ | _ | _ | _ | _ | j <;> first | rfl | omega) (Nat.le_of_ble_eq_true rfl) (Nat.le_of_ble_eq_true rfl) dX6_addProduct_64 (fun q H hI => ?_)
    obtain ⟨a9, ha9⟩ : ∃ z : Ad, z = adup ad 7 (np σ) q := ⟨_, rfl⟩
    have hI : WI g a9 B0 (up2 (fC g a9 σ pd pl sc h) 7 (np σ) (.inr (3, [.int 0, .int 0, .int 0, .int 0, .int 0]))) s H locs := by rw [ha9, ← fC_ad7 hok]; exact hI
    have e0 : ad 0 0 = a9 0 0 := by rw [ha9]; rfl
    have e4 : ad 4 0 = a9 4 0 := by rw [ha9]; rfl
    have eq9 : q = a9 7 (np σ) := by rw [ha9, adup_s]
    rw [e0] at hl
    rw [eq9, e4]
    refine lv_dup hx hb dX6_addProduct_67 rfl ?_
    refine lv_aload_n hx hb dX6_addProduct_68 rfl (lv_at hl 0 rfl) ?_
    refine gf_X6_41 hC hI ((up2_n _ _ (by omega)).trans fC_0) rfl dX6_addProduct_69 ?_
    refine lv_topi (fun y ey => ?_)
    rw [h5] at ey
    subst ey
    refine lv_iload_n hx hb dX6_addProduct_72 rfl (lv_at hl 1 rfl) ?_
    refine lv_iload_n hx hb dX6_addProduct_73 rfl (lv_at hl 2 rfl) ?_
    refine lv_iload_n hx hb dX6_addProduct_74 rfl (lv_at hl 3 rfl) ?_
    refine lv_iload hx hb dX6_addProduct_75 (lv_at hl 4 rfl) ?_
    refine r_callI (rest := [.ref (a9 7 (np σ)), .int (σ 5 0), .ref (a9 4 0)]) hC hI hl.1 (tX3_init l g B0 a9 _ (np σ) _ _ _ _ _ (nI (np σ)) lo hi li sm (up2_s _ _ _ _)) (cw_X6_88 hts rfl rfl ⟨(Nat.le_of_ble_eq_true rfl), (Nat.le_of_ble_eq_true rfl)⟩) rfl rfl (Nat.le_of_ble_eq_true rfl) dX6_addProduct_77 ⟨(Nat.le_of_ble_eq_true rfl), (Nat.le_of_ble_eq_true rfl)⟩ (fun v a8 w H locs hR hI => ?_)
    obtain ⟨rfl, ha8, rfl⟩ := hR; obtain rfl := ha8.symm
    have hI : WI g a9 B0 (up2 (fC g a9 σ pd pl sc h) 7 (np σ) (.inr (3, [.int (nI (np σ)), .int lo, .int hi, .int li, .int sm]))) s H locs := hI.cast (up2_up2 _ _ _ _ _)
    refine r_aast hC hI ((up2_n _ _ (by omega)).trans fC_4) 3 rfl (up2_s _ _ _ _) rfl (j := (np σ)) h5 hnp (by decide) dX6_addProduct_80 (fun H locs hI => ?_)
    have hI : WI g a9 B0 (up2 (up2 (fC g a9 σ pd pl sc h) 7 (np σ) (.inr (3, [.int (nI (np σ)), .int lo, .int hi, .int li, .int sm]))) 4 0 (.inl (g.2 3, 12, .inr (.inr (.inr (.inr (va_up (fun j => if j < np σ then some (a9 7 j) else none) (np σ) (some (a9 7 (np σ)))))))))) s H locs := hI.cast (rfl)
    refine lv_aload_n hx hb dX6_addProduct_81 rfl (lv_at hl 0 rfl) ?_
    refine lv_dup hx hb dX6_addProduct_82 rfl ?_
    refine gf_X6_41 hC hI ((up2_n _ _ (by omega)).trans ((up2_n _ _ (by omega)).trans fC_0)) rfl dX6_addProduct_83 ?_
    refine lv_dup_x1 hx hb dX6_addProduct_86 rfl rfl ?_
    refine lv_iconst (v := 1) hx hb dX6_addProduct_87 (by decide) ?_
    refine lv_iadd hx hb dX6_addProduct_88 ?_
    refine pf_X6_41 hC hI ((up2_n _ _ (by omega)).trans ((up2_n _ _ (by omega)).trans fC_0)) (Nat.le_of_ble_eq_true rfl) dX6_addProduct_89 (fun H locs hI => ?_)
    have hI : WI g a9 B0 (up2 (up2 (up2 (fC g a9 σ pd pl sc h) 7 (np σ) (.inr (3, [.int (nI (np σ)), .int lo, .int hi, .int li, .int sm]))) 4 0 (.inl (g.2 3, 12, .inr (.inr (.inr (.inr (va_up (fun j => if j < np σ then some (a9 7 j) else none) (np σ) (some (a9 7 (np σ)))))))))) 0 0 (.inr (6, [.ref (a9 1 0), .ref (a9 2 0), .ref (a9 4 0), .ref (a9 5 0), .ref (a9 6 0), .int ((σ 5 0) + 1), .int (σ 10 0), .int (σ 17 0), .int (σ 22 0), .int (σ 1 0), .long pd]))) s H locs := hI.cast (rfl)
    have hI : WI g a9 B0 (fC g a9 (stAP σ lo hi li sm) pd pl sc h) s H locs := hI.cast (fC_addP hok hnp)
    exact e_int hC hI ⟨(if_pos hkP).trans (if_neg hnf), rfl, fun k i hk => by rw [ha9]; exact adup_n _ _ (by omega), pl, sc, PlOk_congr hP rfl rfl rfl rfl, rfl⟩ (Nat.le_of_ble_eq_true rfl) (Nat.le_of_ble_eq_true rfl) dX6_addProduct_92
  · have hfull : σ 5 0 = 12 := by
      rw [h5] at c43 ⊢
      have z : ¬ np σ < 12 := fun z => c43 ((nI_ltI (b := 12) (by omega) (by decide)).mpr z)
      rw [show np σ = 12 by omega]
      rfl
    exact r_throw (E := nIS) (by decide) xIS_t xIS_b xIS_o wd_cl_X6_81 wd_in_java_lang_IllegalStateException (List.mem_of_getElem? (i := 1) rfl) hl9 hno hC hC.2.2.2.2.2.1.2.1.2.1 hI hl.1 ⟨Or.inr ⟨(if_pos hkP).trans (if_pos hfull), rfl⟩, rfl, rfl⟩ dX6_addProduct_46 dX6_addProduct_49 dX6_addProduct_50 dX6_addProduct_52 dX6_addProduct_55 (Nat.le_of_ble_eq_true rfl) (Nat.le_of_ble_eq_true rfl) (Nat.le_of_ble_eq_true rfl) (Nat.le_of_ble_eq_true rfl) (Nat.le_of_ble_eq_true rfl) (Nat.le_of_ble_eq_true rfl)
