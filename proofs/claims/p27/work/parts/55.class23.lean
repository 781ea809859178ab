/-! THE COLD STORE'S CALLS: arrive -/

set_option maxHeartbeats 4000000 in
set_option maxRecDepth 100000 in
theorem tX6_arrive (l : Launch) (g : Gg) (B0 : Nat) (ad : Ad) (σ : Sg) (pd : Int64) (pl : Pl) (sc : Sg) (h : Wd) (u v t9 : Int32) (hIv : Iv σ pl)  : MM l g B0 yX6_arrive (wsM yX6_arrive cX6_arrive 7 (some .int)) ({ frames := 7, cells := 5, slots := 30, locals := 112 } : Room) [.ref (ad 0 0), .int u, .int v, .int t9] ad (fC g ad σ pd pl sc h) (rC g ad (kdAV σ u v t9) (σ 17 0) (stAV σ u v t9) (pd) h) (xE (fun E => (kdAV σ u v t9 = 1 ∧ E = nIO) ∨ (kdAV σ u v t9 = 2 ∧ E = nIA) ∨ (kdAV σ u v t9 = 3 ∧ E = nIS)) ad (fC g ad σ pd pl sc h)) 5 30 := by
  refine MM.start (by decide) (Nat.le_of_ble_eq_true rfl) ?_
  intro hl9 p e s m below meth c ls hC hno hI hl0
  have hx := hC.1.1
  have hb := hC.1.2.1
  have hts := hC.1.2.2.2.2
  have hl : lv_has ls 7 [(0, .ref (ad 0 0)), (1, .int u), (2, .int v), (3, .int t9)] := hl0
  obtain ⟨H, hH⟩ : ∃ H, H = s.heap := ⟨_, rfl⟩
  obtain ⟨locs, hLo⟩ : ∃ L : List Loc, L = [] := ⟨_, rfl⟩
  rw [← hH, ← hLo] at hI ⊢
  clear hH hLo hl0
  obtain ⟨hok, hP, hR, hF⟩ := id hIv
  obtain ⟨h17, h60, h10, h6, h5, h12, hpr, hrm⟩ := id hok
  refine lv_aload_n hx hb dX6_arrive_0 rfl (lv_at hl 0 rfl) ?_
  refine lv_iload_n hx hb dX6_arrive_1 rfl (lv_at hl 1 rfl) ?_
  refine x_V (rest := []) hl9 hC hI hl.1 (tX6_existingProduct l g B0 ad σ pd pl sc h u hok) (cw_X6_129 hts rfl rfl ⟨(Nat.le_of_ble_eq_true rfl), (Nat.le_of_ble_eq_true rfl)⟩) fC_0 rfl rfl rfl rfl (Nat.le_of_ble_eq_true rfl) dX6_arrive_2 ⟨(Nat.le_of_ble_eq_true rfl), (Nat.le_of_ble_eq_true rfl)⟩ hno (Nat.le_of_ble_eq_true rfl) (Nat.le_of_ble_eq_true rfl) (fun E a w hx => ⟨Or.inl ⟨if_neg (fun z => hx.1.2 z.1), hx.1.1⟩, hx.2.1, hx.2.2⟩) (fun v ad1 w H locs hR hI => ?_)
  obtain ⟨hin1, rfl, ha9, rfl⟩ := hR; obtain rfl := ha9.symm
  obtain ⟨a, ha, rfl⟩ := (in_cnt h5 (by omega)).mp (id hin1)
  rw [show cN (nI a) = a from cN_nI (by omega)]
  have hca : cN (nI a) = a := cN_nI (by omega)
  refine lv_astore (lv' := [(4, .ref (ad 7 a)), (0, .ref (ad 0 0)), (1, .int (nI a)), (2, .int v), (3, .int t9)]) hx hb dX6_arrive_5 hl (by decide) rfl (fun ls hl => ?_)
  refine lv_aload_n hx hb dX6_arrive_7 rfl (lv_at hl 1 rfl) ?_
  refine lv_iload_n hx hb dX6_arrive_8 rfl (lv_at hl 3 rfl) ?_
  refine x_V (rest := []) hl9 hC hI hl.1 (tX6_existingRoom l g B0 ad σ pd pl sc h v hok) (cw_X6_94 hts rfl rfl ⟨(Nat.le_of_ble_eq_true rfl), (Nat.le_of_ble_eq_true rfl)⟩) fC_0 rfl rfl rfl rfl (Nat.le_of_ble_eq_true rfl) dX6_arrive_9 ⟨(Nat.le_of_ble_eq_true rfl), (Nat.le_of_ble_eq_true rfl)⟩ hno (Nat.le_of_ble_eq_true rfl) (Nat.le_of_ble_eq_true rfl) (fun E a w hx => ⟨Or.inl ⟨if_neg (fun z => hx.1.2 z.2), hx.1.1⟩, hx.2.1, hx.2.2⟩) (fun v ad1 w H locs hR hI => ?_)
  obtain ⟨hin2, rfl, ha9, rfl⟩ := hR; obtain rfl := ha9.symm
  obtain ⟨r, hr, rfl⟩ := (in_cnt h10 (by omega)).mp (id hin2)
  rw [show cN (nI r) = r from cN_nI (by omega)]
  have hcr : cN (nI r) = r := cN_nI (by omega)
  refine lv_astore (lv' := [(5, .ref (ad 8 r)), (4, .ref (ad 7 a)), (0, .ref (ad 0 0)), (1, .int (nI a)), (2, .int (nI r)), (3, .int t9)]) hx hb dX6_arrive_12 hl (by decide) rfl (fun ls hl => ?_)
  refine lv_iload_n hx hb dX6_arrive_14 rfl (lv_at hl 5 rfl) ?_
  refine lv_sipush (v := (-300)) hx hb dX6_arrive_15 (by decide) ?_
  refine lv_sipush (v := 400) hx hb dX6_arrive_18 (by decide) ?_
  refine x_S (rest := []) hl9 hC hI hl.1 (tX6_requireWithin l g B0 ad _ t9 (-300) 400) (cw_X6_61 hts rfl rfl ⟨(Nat.le_of_ble_eq_true rfl), (Nat.le_of_ble_eq_true rfl)⟩) rfl rfl (Nat.le_of_ble_eq_true rfl) dX6_arrive_21 ⟨(Nat.le_of_ble_eq_true rfl), (Nat.le_of_ble_eq_true rfl)⟩ hno (Nat.le_of_ble_eq_true rfl) (Nat.le_of_ble_eq_true rfl) (fun E a w hx => ⟨Or.inr (Or.inl ⟨(if_pos ⟨hin1, hin2⟩).trans (if_neg hx.1.2), hx.1.1⟩), hx.2.1, hx.2.2⟩) (fun v ad1 w H locs hR hI => ?_)
  obtain ⟨hq1, rfl, ha9, rfl⟩ := hR; obtain rfl := ha9.symm
  refine lv_aload hx hb dX6_arrive_24 (lv_at hl 0 rfl) ?_
  refine lv_aload hx hb dX6_arrive_26 (lv_at hl 1 rfl) ?_
  refine c_Vi (rest := []) hl9 hC hI hl.1 (tX4_accepts l g B0 ad σ pd pl sc h r hr a ha hok hP hR) (cw_X6_137 hts rfl rfl ⟨(Nat.le_of_ble_eq_true rfl), (Nat.le_of_ble_eq_true rfl)⟩) (fC_8 hr) rfl rfl rfl rfl (Nat.le_of_ble_eq_true rfl) dX6_arrive_28 ⟨(Nat.le_of_ble_eq_true rfl), (Nat.le_of_ble_eq_true rfl)⟩ (fun H locs hI => ?_)
  refine lv_if_eq (tgt := 46) hx hb dX6_arrive_31 (by decide) (fun c31 => ?_) (fun c31 => ?_)
  · have c31 := bi_0.mp c31
    exact r_throw (E := nIS) (by decide) xIS_t xIS_b xIS_o wd_cl_X6_81 wd_in_java_lang_IllegalStateException (List.mem_of_getElem? (i := 7) rfl) hl9 hno hC hC.2.2.2.2.2.1.2.1.2.1 hI hl.1 ⟨Or.inr (Or.inr ⟨(if_pos ⟨hin1, hin2⟩).trans ((if_pos hq1).trans (if_neg (by rw [hca, hcr]; exact fun z => c31 z.1))), rfl⟩), rfl, rfl⟩ dX6_arrive_46 dX6_arrive_49 dX6_arrive_50 dX6_arrive_52 dX6_arrive_55 (Nat.le_of_ble_eq_true rfl) (Nat.le_of_ble_eq_true rfl) (Nat.le_of_ble_eq_true rfl) (Nat.le_of_ble_eq_true rfl) (Nat.le_of_ble_eq_true rfl) (Nat.le_of_ble_eq_true rfl)
  · have c31 := bi_1.mp c31
    refine lv_aload_n hx hb dX6_arrive_34 rfl (lv_at hl 2 rfl) ?_
    refine gf_X6_48 hC hI fC_0 rfl dX6_arrive_35 ?_
    refine lv_aload_n hx hb dX6_arrive_38 rfl (lv_at hl 2 rfl) ?_
    refine gf_X6_37 hC hI fC_0 rfl dX6_arrive_39 ?_
    refine r_alen hC hI fC_6 2 rfl (v := 60) rfl dX6_arrive_42 ?_
    refine lv_icmp_lt (tgt := 56) hx hb dX6_arrive_43 (by decide) (fun c43 => ?_) (fun c43 => ?_)
    · have hnt : nt σ < 60 := by
        have z := c43
        rw [h17] at z
        exact (nI_ltI (b := 60) (by omega) (by decide)).mp z
      have hnf : ¬ σ 17 0 = 60 := fun z => by
        rw [z] at c43
        exact absurd c43 (by decide)
      have hfr9 : ∃ j, j < cN (σ 11 r) ∧ pl r j = none := free_ex (cN (σ 11 r)) (by rw [hP.free hr (by omega) (hR.pl hr).1]; exact reason_free c31)
      refine r_new hC hI 12 (nt σ) (if_neg (Nat.lt_irrefl _)) inX2 tyX2 tyX2_ok wd_cl_X6_35 wd_it_RX2 wd_in_RX2 (ci := 2) rfl (fs := [.null, .null, .int 0, .int 0, .int 0, .int 0]) (fun j hj => by rcases j with _ | _ | _ | _ | _ | _ | j <;> first | rfl | omega) (Nat.le_of_ble_eq_true rfl) (Nat.le_of_ble_eq_true rfl) dX6_arrive_56 (fun q H hI => ?_)
      obtain ⟨a9, ha9⟩ : ∃ z : Ad, z = adup ad 12 (nt σ) q := ⟨_, rfl⟩
      have hI : WI g a9 B0 (up2 (fC g a9 σ pd pl sc h) 12 (nt σ) (.inr (2, [.null, .null, .int 0, .int 0, .int 0, .int 0]))) s H locs := by rw [ha9, ← fC_ad12 hok hP]; exact hI
      have e0 : ad 0 0 = a9 0 0 := by rw [ha9]; rfl
      have e7 : ad 7 a = a9 7 a := by rw [ha9]; rfl
      have e8 : ad 8 r = a9 8 r := by rw [ha9]; rfl
      have eq9 : q = a9 12 (nt σ) := by rw [ha9, adup_s]
      rw [e0, e7, e8] at hl
      rw [eq9]
      refine lv_dup hx hb dX6_arrive_59 rfl ?_
      refine lv_aload hx hb dX6_arrive_60 (lv_at hl 1 rfl) ?_
      refine lv_iload_n hx hb dX6_arrive_62 rfl (lv_at hl 5 rfl) ?_
      refine r_callI (rest := [.ref (a9 12 (nt σ))]) hC hI hl.1 (tX2_init l g B0 a9 _ (nt σ) a _ _ _ _ t9 (up2_s _ _ _ _)) (cw_X6_143 hts rfl rfl ⟨(Nat.le_of_ble_eq_true rfl), (Nat.le_of_ble_eq_true rfl)⟩) rfl rfl (Nat.le_of_ble_eq_true rfl) dX6_arrive_63 ⟨(Nat.le_of_ble_eq_true rfl), (Nat.le_of_ble_eq_true rfl)⟩ (fun v a8 w H locs hR hI => ?_)
      obtain ⟨rfl, ha8, rfl⟩ := hR; obtain rfl := ha8.symm
      have hI : WI g a9 B0 (up2 (fC g a9 σ pd pl sc h) 12 (nt σ) (.inr (2, [.ref (a9 7 a), .null, .int t9, .int 0, .int 0, .int 0]))) s H locs := hI.cast (up2_up2 _ _ _ _ _)
      refine lv_astore (lv' := [(6, .ref (a9 12 (nt σ))), (5, .ref (a9 8 r)), (4, .ref (a9 7 a)), (0, .ref (a9 0 0)), (1, .int (nI a)), (2, .int (nI r)), (3, .int t9)]) hx hb dX6_arrive_66 hl (by decide) rfl (fun ls hl => ?_)
      refine lv_aload hx hb dX6_arrive_68 (lv_at hl 1 rfl) ?_
      refine lv_aload hx hb dX6_arrive_70 (lv_at hl 0 rfl) ?_
      refine x_V (rest := []) hl9 hC hI hl.1 (tX4_take l g B0 a9 _ r (nt σ) (cN (σ 11 r)) _ _ _ _ _ _ _ _ _ _ _ _ _ _ _ none (fun j => (pl r j).map (a9 12)) (by have := (hR.pl hr).2; omega) ((up2_n _ _ (by omega)).trans (fC_11 hr)) (by obtain ⟨j, hj, e⟩ := hfr9; exact ⟨j, hj, by show (pl r j).map (a9 12) = none; rw [e]; rfl⟩) ((up2_n _ _ (by omega)).trans (fC_8 hr)) (up2_s _ _ _ _)) (cw_X6_146 hts rfl rfl ⟨(Nat.le_of_ble_eq_true rfl), (Nat.le_of_ble_eq_true rfl)⟩) ((up2_n _ _ (by omega)).trans (fC_8 hr)) rfl rfl rfl rfl (Nat.le_of_ble_eq_true rfl) dX6_arrive_72 ⟨(Nat.le_of_ble_eq_true rfl), (Nat.le_of_ble_eq_true rfl)⟩ hno (Nat.le_of_ble_eq_true rfl) (Nat.le_of_ble_eq_true rfl) (fun _ _ _ hx => hx.elim) (fun v ad1 w H locs hR hI => ?_)
      obtain ⟨rfl, ha8, j1, hj1, hn1, -, rfl⟩ := hR; obtain rfl := ha8.symm
      have hI : WI g a9 B0 (up2 (up2 (fC g a9 σ pd pl sc h) 12 (nt σ) (.inr (2, [.ref (a9 7 a), .ref (a9 8 r), .int t9, .int 0, .int 0, .int 0]))) 11 r (.inl (g.2 2, cN (σ 11 r), .inr (.inr (.inr (.inr (va_up (fun j => (pl r j).map (a9 12)) j1 (some (a9 12 (nt σ)))))))))) s H locs := hI.cast (up2_mid _ _ _ _ (by omega))
      refine lv_aload_n hx hb dX6_arrive_75 rfl (lv_at hl 3 rfl) ?_
      refine gf_X6_37 hC hI ((up2_n _ _ (by omega)).trans ((up2_n _ _ (by omega)).trans fC_0)) rfl dX6_arrive_76 ?_
      refine lv_aload_n hx hb dX6_arrive_79 rfl (lv_at hl 3 rfl) ?_
      refine gf_X6_48 hC hI ((up2_n _ _ (by omega)).trans ((up2_n _ _ (by omega)).trans fC_0)) rfl dX6_arrive_80 ?_
      refine lv_aload hx hb dX6_arrive_83 (lv_at hl 0 rfl) ?_
      refine r_aast hC hI ((up2_n _ _ (by omega)).trans ((up2_n _ _ (by omega)).trans fC_6)) 2 rfl ((up2_n _ _ (by omega)).trans (up2_s _ _ _ _)) rfl (j := (nt σ)) h17 hnt (by decide) dX6_arrive_85 (fun H locs hI => ?_)
      have hI : WI g a9 B0 (up2 (up2 (up2 (fC g a9 σ pd pl sc h) 12 (nt σ) (.inr (2, [.ref (a9 7 a), .ref (a9 8 r), .int t9, .int 0, .int 0, .int 0]))) 11 r (.inl (g.2 2, cN (σ 11 r), .inr (.inr (.inr (.inr (va_up (fun j => (pl r j).map (a9 12)) j1 (some (a9 12 (nt σ)))))))))) 6 0 (.inl (g.2 2, 60, .inr (.inr (.inr (.inr (va_up (fun j => if j < nt σ then some (a9 12 j) else none) (nt σ) (some (a9 12 (nt σ)))))))))) s H locs := hI.cast (rfl)
      refine lv_aload_n hx hb dX6_arrive_86 rfl (lv_at hl 3 rfl) ?_
      refine lv_dup hx hb dX6_arrive_87 rfl ?_
      refine gf_X6_48 hC hI ((up2_n _ _ (by omega)).trans ((up2_n _ _ (by omega)).trans ((up2_n _ _ (by omega)).trans fC_0))) rfl dX6_arrive_88 ?_
      refine lv_dup_x1 hx hb dX6_arrive_91 rfl rfl ?_
      refine lv_iconst (v := 1) hx hb dX6_arrive_92 (by decide) ?_
      refine lv_iadd hx hb dX6_arrive_93 ?_
      refine pf_X6_48 hC hI ((up2_n _ _ (by omega)).trans ((up2_n _ _ (by omega)).trans ((up2_n _ _ (by omega)).trans fC_0))) (Nat.le_of_ble_eq_true rfl) dX6_arrive_94 (fun H locs hI => ?_)
      have hI : WI g a9 B0 (up2 (up2 (up2 (up2 (fC g a9 σ pd pl sc h) 12 (nt σ) (.inr (2, [.ref (a9 7 a), .ref (a9 8 r), .int t9, .int 0, .int 0, .int 0]))) 11 r (.inl (g.2 2, cN (σ 11 r), .inr (.inr (.inr (.inr (va_up (fun j => (pl r j).map (a9 12)) j1 (some (a9 12 (nt σ)))))))))) 6 0 (.inl (g.2 2, 60, .inr (.inr (.inr (.inr (va_up (fun j => if j < nt σ then some (a9 12 j) else none) (nt σ) (some (a9 12 (nt σ)))))))))) 0 0 (.inr (6, [.ref (a9 1 0), .ref (a9 2 0), .ref (a9 4 0), .ref (a9 5 0), .ref (a9 6 0), .int (σ 5 0), .int (σ 10 0), .int ((σ 17 0) + 1), .int (σ 22 0), .int (σ 1 0), .long pd]))) s H locs := hI.cast (rfl)
      have hI : WI g a9 B0 (fC g a9 (stAV σ (nI a) (nI r) t9) pd (plu pl r j1 (some (nt σ))) (s1 (s1 sc 6 (nt σ) 0) 7 (nt σ) 0) h) s H locs := hI.cast (fC_addT hok hF hr ha hnt)
      exact e_int hC hI ⟨(if_pos ⟨hin1, hin2⟩).trans ((if_pos hq1).trans (if_pos (by rw [hca, hcr]; exact ⟨c31, hnf⟩))), rfl, fun k i hk => by rw [ha9]; exact adup_n _ _ (by omega), _, _, PlOk_new hok hP hr hnt hj1 (Option.map_eq_none_iff.mp hn1), rfl⟩ (Nat.le_of_ble_eq_true rfl) (Nat.le_of_ble_eq_true rfl) dX6_arrive_97
    · have hfull : σ 17 0 = 60 := by
        have z : ¬ nt σ < 60 := fun z => c43 (by rw [h17]; exact (nI_ltI (b := 60) (by omega) (by decide)).mpr z)
        rw [h17, show nt σ = 60 by omega]
        rfl
      exact r_throw (E := nIS) (by decide) xIS_t xIS_b xIS_o wd_cl_X6_81 wd_in_java_lang_IllegalStateException (List.mem_of_getElem? (i := 7) rfl) hl9 hno hC hC.2.2.2.2.2.1.2.1.2.1 hI hl.1 ⟨Or.inr (Or.inr ⟨(if_pos ⟨hin1, hin2⟩).trans ((if_pos hq1).trans (if_neg (by rw [hca, hcr]; exact fun z => z.2 hfull))), rfl⟩), rfl, rfl⟩ dX6_arrive_46 dX6_arrive_49 dX6_arrive_50 dX6_arrive_52 dX6_arrive_55 (Nat.le_of_ble_eq_true rfl) (Nat.le_of_ble_eq_true rfl) (Nat.le_of_ble_eq_true rfl) (Nat.le_of_ble_eq_true rfl) (Nat.le_of_ble_eq_true rfl) (Nat.le_of_ble_eq_true rfl)
