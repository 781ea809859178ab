/-! THE CLASS, the constructor of the cold store -/
set_option maxHeartbeats 4000000 in
set_option maxRecDepth 100000 in
theorem tX6_init (l : Launch) (g : Gg) (B0 : Nat) (ad : Ad) (f : Wd) (h1 : f 1 0 = none) (h2 : f 2 0 = none) (h3 : f 3 0 = none) (h4 : f 4 0 = none) (h5 : f 5 0 = none) (h6 : f 6 0 = none) (he0 : f 0 0 = some (.inr (6, [.null, .null, .null, .null, .null, .int 0, .int 0, .int 0, .int 0, .int 0, .long 0]))) : MK l g B0 yX6_init (wsM yX6_init cX6_init 1 none) ({ frames := 2, cells := 6, slots := 106, locals := 41 } : Room) [.ref (ad 0 0)] ad (f) (fun v a w => v = none ∧ (∀ k i, ¬ ((1 ≤ k ∧ k ≤ 6) ∧ i = 0) → a k i = ad k i) ∧ w = up2 (up2 (up2 (up2 (up2 (up2 (up2 f 1 0 (.inr (0, [.int 150, .int 0]))) 2 0 (.inr (5, [.ref (a 3 0), .int 10]))) 3 0 (.inl (g.2 0, 24, .inl (tfF 24)))) 4 0 (.inl (g.2 3, 12, .inr (.inr (.inr (.inr (fun _ => none))))))) 5 0 (.inl (g.2 4, 6, .inr (.inr (.inr (.inr (fun _ => none))))))) 6 0 (.inl (g.2 2, 60, .inr (.inr (.inr (.inr (fun _ => none))))))) 0 0 (.inr (6, [.ref (a 1 0), .ref (a 2 0), .ref (a 4 0), .ref (a 5 0), .ref (a 6 0), .int 0, .int 0, .int 0, .int 0, .int 0, .long 0]))) 6 106 := by
  refine MK.start (by decide) rfl (Nat.le_of_ble_eq_true rfl) ?_
  intro p e s m below meth c ls hC hin hI hl0
  have hx := hC.1.1
  have hb := hC.1.2.1
  have hts := hC.1.2.2.2.2
  have hl : lv_has ls 1 [(0, .ref (ad 0 0))] := hl0
  obtain ⟨H, hH⟩ : ∃ H, H = s.heap := ⟨_, rfl⟩
  obtain ⟨locs, hLo⟩ : ∃ L : List Loc, L = [] := ⟨_, rfl⟩
  rw [← hH, ← hLo] at hI ⊢
  clear hH hLo hl0
  refine lv_aload_n hx hb dX6_init_0 rfl (lv_at hl 0 rfl) ?_
  refine W.objInit hx hb hC.1.2.2.2.1 (hts _ wd_ml_X6_1) (hts _ wd_im__java_lang_Object__init____V_) (hts _ wd_co__java_lang_Object__init____V_) rfl (by rw [hC.1.2.2.1]; exact hl.1) rfl dX6_init_1 (Nat.le_of_ble_eq_true rfl) (Nat.le_of_ble_eq_true rfl) ?_
  refine W.eq (g2 := F0 m 4 ls []) rfl ?_
  refine lv_aload_n hx hb dX6_init_4 rfl (lv_at hl 0 rfl) ?_
  refine r_new hC hI 1 0 (h1) inX0 tyX0 tyX0_ok wd_cl_X6_7 wd_it_RX0 wd_in_RX0 (ci := 0) rfl (fs := [.int 0, .int 0]) (fun j hj => by rcases j with _ | _ | j <;> first | rfl | omega) (Nat.le_of_ble_eq_true rfl) (Nat.le_of_ble_eq_true rfl) dX6_init_5 (fun q1 H hI => ?_)
  obtain ⟨a19, ha19⟩ : ∃ z : Ad, z = adup ad 1 0 q1 := ⟨_, rfl⟩
  rw [← ha19] at hI
  have e00_1 : ad 0 0 = a19 0 0 := by rw [ha19]; exact (adup_n _ _ (by omega)).symm
  try rw [e00_1] at hI
  try rw [e00_1] at hl
  have eq_1 : q1 = a19 1 0 := by rw [ha19, adup_s]
  refine W.eq (g2 := F0 m 8 ls [.ref (a19 1 0), .ref (a19 0 0)]) (by rw [eq_1, e00_1]) ?_
  have hI : WI g a19 B0 (up2 (f) 1 0 (.inr (0, [.int 0, .int 0]))) s H locs := hI
  refine lv_dup hx hb dX6_init_8 rfl ?_
  refine r_callIN (rest := [.ref (a19 1 0), .ref (a19 0 0)]) hC hI hl.1 (tX0_init l g B0 a19 _ _ _ (up2_s _ _ _ _)) (cw_air hC rfl rfl ⟨(Nat.le_of_ble_eq_true rfl), (Nat.le_of_ble_eq_true rfl)⟩) rfl rfl (Nat.le_of_ble_eq_true rfl) dX6_init_9 ⟨(Nat.le_of_ble_eq_true rfl), (Nat.le_of_ble_eq_true rfl)⟩ (fun v a8 w H locs hR hI => ?_)
  obtain ⟨rfl, ha8, rfl⟩ := hR; obtain rfl := ha8.symm
  have hI : WI g a19 B0 (up2 (f) 1 0 (.inr (0, [.int 150, .int 0]))) s H locs := hI.cast (up2_up2 _ _ _ _ _)
  refine pf_X6_10 hC hin hI ((up2_n _ _ (by omega)).trans he0) (Nat.le_of_ble_eq_true rfl) dX6_init_12 (fun H locs hI => ?_)
  have hI : WI g a19 B0 (up2 (up2 (f) 1 0 (.inr (0, [.int 150, .int 0]))) 0 0 (.inr (6, [.ref (a19 1 0), .null, .null, .null, .null, .int 0, .int 0, .int 0, .int 0, .int 0, .long 0]))) s H locs := hI.cast (rfl)
  refine lv_aload_n hx hb dX6_init_15 rfl (lv_at hl 0 rfl) ?_
  refine r_new hC hI 2 0 ((up2_n _ _ (by omega)).trans ((up2_n _ _ (by omega)).trans (h2))) inX5 tyX5 tyX5_ok wd_cl_X6_16 wd_it_RX5 wd_in_RX5 (ci := 5) rfl (fs := [.null, .int 0]) (fun j hj => by rcases j with _ | _ | j <;> first | rfl | omega) (Nat.le_of_ble_eq_true rfl) (Nat.le_of_ble_eq_true rfl) dX6_init_16 (fun q2 H hI => ?_)
  obtain ⟨a29, ha29⟩ : ∃ z : Ad, z = adup a19 2 0 q2 := ⟨_, rfl⟩
  rw [← ha29] at hI
  have e00_2 : a19 0 0 = a29 0 0 := by rw [ha29]; exact (adup_n _ _ (by omega)).symm
  try rw [e00_2] at hI
  try rw [e00_2] at hl
  have e10_2 : a19 1 0 = a29 1 0 := by rw [ha29]; exact (adup_n _ _ (by omega)).symm
  try rw [e10_2] at hI
  try rw [e10_2] at hl
  have eq_2 : q2 = a29 2 0 := by rw [ha29, adup_s]
  refine W.eq (g2 := F0 m 19 ls [.ref (a29 2 0), .ref (a29 0 0)]) (by rw [eq_2, e00_2]) ?_
  have hI : WI g a29 B0 (up2 (up2 (up2 (f) 1 0 (.inr (0, [.int 150, .int 0]))) 2 0 (.inr (5, [.null, .int 0]))) 0 0 (.inr (6, [.ref (a29 1 0), .null, .null, .null, .null, .int 0, .int 0, .int 0, .int 0, .int 0, .long 0]))) s H locs := hI.cast (up2_comm _ _ _ (by omega))
  refine lv_dup hx hb dX6_init_19 rfl ?_
  refine r_callI (rest := [.ref (a29 2 0), .ref (a29 0 0)]) hC hI hl.1 (tX5_init l g B0 a29 _ ((up2_n _ _ (by omega)).trans ((up2_n _ _ (by omega)).trans ((up2_n _ _ (by omega)).trans (h3)))) ((up2_n _ _ (by omega)).trans (up2_s _ _ _ _))) (cw_X6_18 hts rfl rfl ⟨(Nat.le_of_ble_eq_true rfl), (Nat.le_of_ble_eq_true rfl)⟩) rfl rfl (Nat.le_of_ble_eq_true rfl) dX6_init_20 ⟨(Nat.le_of_ble_eq_true rfl), (Nat.le_of_ble_eq_true rfl)⟩ (fun v a99 w H locs hR hI => ?_)
  obtain ⟨rfl, ha99, rfl⟩ := hR
  have t00 : a29 0 0 = a99 0 0 := (ha99 _ _ (by omega)).symm
  try rw [t00] at hI
  try rw [t00] at hl
  have t10 : a29 1 0 = a99 1 0 := (ha99 _ _ (by omega)).symm
  try rw [t10] at hI
  try rw [t10] at hl
  have t20 : a29 2 0 = a99 2 0 := (ha99 _ _ (by omega)).symm
  try rw [t20] at hI
  try rw [t20] at hl
  have hI : WI g a99 B0 (up2 (up2 (up2 (up2 (f) 1 0 (.inr (0, [.int 150, .int 0]))) 2 0 (.inr (5, [.ref (a99 3 0), .int 10]))) 3 0 (.inl (g.2 0, 24, .inl (tfF 24)))) 0 0 (.inr (6, [.ref (a99 1 0), .null, .null, .null, .null, .int 0, .int 0, .int 0, .int 0, .int 0, .long 0]))) s H locs := hI.cast ((up2_mid2 _ _ _ _ _ (by omega) (by omega)).trans (up2_comm _ _ _ (by omega)))
  refine W.eq (g2 := F0 m 23 ls [.ref (a99 2 0), .ref (a99 0 0)]) (by rw [t00, t20]; rfl) ?_
  refine pf_X6_19 hC hin hI (up2_s _ _ _ _) (Nat.le_of_ble_eq_true rfl) dX6_init_23 (fun H locs hI => ?_)
  have hI : WI g a99 B0 (up2 (up2 (up2 (up2 (f) 1 0 (.inr (0, [.int 150, .int 0]))) 2 0 (.inr (5, [.ref (a99 3 0), .int 10]))) 3 0 (.inl (g.2 0, 24, .inl (tfF 24)))) 0 0 (.inr (6, [.ref (a99 1 0), .ref (a99 2 0), .null, .null, .null, .int 0, .int 0, .int 0, .int 0, .int 0, .long 0]))) s H locs := hI.cast (up2_up2 _ _ _ _ _)
  refine lv_aload_n hx hb dX6_init_26 rfl (lv_at hl 0 rfl) ?_
  refine lv_bipush (v := 12) hx hb dX6_init_27 (by decide) ?_
  refine r_newq hC hI 4 0 ((up2_n _ _ (by omega)).trans ((up2_n _ _ (by omega)).trans ((up2_n _ _ (by omega)).trans ((up2_n _ _ (by omega)).trans (h4))))) wd_cl_X6_23 hC.2.2.2.2.2.1.2.2.2.2.2.2.2.1 3 rfl (n := 12) (N' := 12) (by decide) (by decide) (by decide) (Nat.le_of_ble_eq_true rfl) (Nat.le_of_ble_eq_true rfl) dX6_init_29 (fun q3 H hI => ?_)
  obtain ⟨a39, ha39⟩ : ∃ z : Ad, z = adup a99 4 0 q3 := ⟨_, rfl⟩
  rw [← ha39] at hI
  have e00_3 : a99 0 0 = a39 0 0 := by rw [ha39]; exact (adup_n _ _ (by omega)).symm
  try rw [e00_3] at hI
  try rw [e00_3] at hl
  have e10_3 : a99 1 0 = a39 1 0 := by rw [ha39]; exact (adup_n _ _ (by omega)).symm
  try rw [e10_3] at hI
  try rw [e10_3] at hl
  have e20_3 : a99 2 0 = a39 2 0 := by rw [ha39]; exact (adup_n _ _ (by omega)).symm
  try rw [e20_3] at hI
  try rw [e20_3] at hl
  have e30_3 : a99 3 0 = a39 3 0 := by rw [ha39]; exact (adup_n _ _ (by omega)).symm
  try rw [e30_3] at hI
  try rw [e30_3] at hl
  have eq_3 : q3 = a39 4 0 := by rw [ha39, adup_s]
  refine W.eq (g2 := F0 m 32 ls [.ref (a39 4 0), .ref (a39 0 0)]) (by rw [eq_3, e00_3]) ?_
  have hI : WI g a39 B0 (up2 (up2 (up2 (up2 (up2 (f) 1 0 (.inr (0, [.int 150, .int 0]))) 2 0 (.inr (5, [.ref (a39 3 0), .int 10]))) 3 0 (.inl (g.2 0, 24, .inl (tfF 24)))) 4 0 (.inl (g.2 3, 12, .inr (.inr (.inr (.inr (fun _ => none))))))) 0 0 (.inr (6, [.ref (a39 1 0), .ref (a39 2 0), .null, .null, .null, .int 0, .int 0, .int 0, .int 0, .int 0, .long 0]))) s H locs := hI.cast (up2_comm _ _ _ (by omega))
  refine pf_X6_25 hC hin hI (up2_s _ _ _ _) (Nat.le_of_ble_eq_true rfl) dX6_init_32 (fun H locs hI => ?_)
  have hI : WI g a39 B0 (up2 (up2 (up2 (up2 (up2 (f) 1 0 (.inr (0, [.int 150, .int 0]))) 2 0 (.inr (5, [.ref (a39 3 0), .int 10]))) 3 0 (.inl (g.2 0, 24, .inl (tfF 24)))) 4 0 (.inl (g.2 3, 12, .inr (.inr (.inr (.inr (fun _ => none))))))) 0 0 (.inr (6, [.ref (a39 1 0), .ref (a39 2 0), .ref (a39 4 0), .null, .null, .int 0, .int 0, .int 0, .int 0, .int 0, .long 0]))) s H locs := hI.cast (up2_up2 _ _ _ _ _)
  refine lv_aload_n hx hb dX6_init_35 rfl (lv_at hl 0 rfl) ?_
  refine lv_bipush (v := 6) hx hb dX6_init_36 (by decide) ?_
  refine r_newq hC hI 5 0 ((up2_n _ _ (by omega)).trans ((up2_n _ _ (by omega)).trans ((up2_n _ _ (by omega)).trans ((up2_n _ _ (by omega)).trans ((up2_n _ _ (by omega)).trans (h5)))))) wd_cl_X6_29 hC.2.2.2.2.2.1.2.2.2.2.2.2.2.2.1 4 rfl (n := 6) (N' := 6) (by decide) (by decide) (by decide) (Nat.le_of_ble_eq_true rfl) (Nat.le_of_ble_eq_true rfl) dX6_init_38 (fun q4 H hI => ?_)
  obtain ⟨a49, ha49⟩ : ∃ z : Ad, z = adup a39 5 0 q4 := ⟨_, rfl⟩
  rw [← ha49] at hI
  have e00_4 : a39 0 0 = a49 0 0 := by rw [ha49]; exact (adup_n _ _ (by omega)).symm
  try rw [e00_4] at hI
  try rw [e00_4] at hl
  have e10_4 : a39 1 0 = a49 1 0 := by rw [ha49]; exact (adup_n _ _ (by omega)).symm
  try rw [e10_4] at hI
  try rw [e10_4] at hl
  have e20_4 : a39 2 0 = a49 2 0 := by rw [ha49]; exact (adup_n _ _ (by omega)).symm
  try rw [e20_4] at hI
  try rw [e20_4] at hl
  have e30_4 : a39 3 0 = a49 3 0 := by rw [ha49]; exact (adup_n _ _ (by omega)).symm
  try rw [e30_4] at hI
  try rw [e30_4] at hl
  have e40_4 : a39 4 0 = a49 4 0 := by rw [ha49]; exact (adup_n _ _ (by omega)).symm
  try rw [e40_4] at hI
  try rw [e40_4] at hl
  have eq_4 : q4 = a49 5 0 := by rw [ha49, adup_s]
  refine W.eq (g2 := F0 m 41 ls [.ref (a49 5 0), .ref (a49 0 0)]) (by rw [eq_4, e00_4]) ?_
  have hI : WI g a49 B0 (up2 (up2 (up2 (up2 (up2 (up2 (f) 1 0 (.inr (0, [.int 150, .int 0]))) 2 0 (.inr (5, [.ref (a49 3 0), .int 10]))) 3 0 (.inl (g.2 0, 24, .inl (tfF 24)))) 4 0 (.inl (g.2 3, 12, .inr (.inr (.inr (.inr (fun _ => none))))))) 5 0 (.inl (g.2 4, 6, .inr (.inr (.inr (.inr (fun _ => none))))))) 0 0 (.inr (6, [.ref (a49 1 0), .ref (a49 2 0), .ref (a49 4 0), .null, .null, .int 0, .int 0, .int 0, .int 0, .int 0, .long 0]))) s H locs := hI.cast (up2_comm _ _ _ (by omega))
  refine pf_X6_31 hC hin hI (up2_s _ _ _ _) (Nat.le_of_ble_eq_true rfl) dX6_init_41 (fun H locs hI => ?_)
  have hI : WI g a49 B0 (up2 (up2 (up2 (up2 (up2 (up2 (f) 1 0 (.inr (0, [.int 150, .int 0]))) 2 0 (.inr (5, [.ref (a49 3 0), .int 10]))) 3 0 (.inl (g.2 0, 24, .inl (tfF 24)))) 4 0 (.inl (g.2 3, 12, .inr (.inr (.inr (.inr (fun _ => none))))))) 5 0 (.inl (g.2 4, 6, .inr (.inr (.inr (.inr (fun _ => none))))))) 0 0 (.inr (6, [.ref (a49 1 0), .ref (a49 2 0), .ref (a49 4 0), .ref (a49 5 0), .null, .int 0, .int 0, .int 0, .int 0, .int 0, .long 0]))) s H locs := hI.cast (up2_up2 _ _ _ _ _)
  refine lv_aload_n hx hb dX6_init_44 rfl (lv_at hl 0 rfl) ?_
  refine lv_bipush (v := 60) hx hb dX6_init_45 (by decide) ?_
  refine r_newq hC hI 6 0 ((up2_n _ _ (by omega)).trans ((up2_n _ _ (by omega)).trans ((up2_n _ _ (by omega)).trans ((up2_n _ _ (by omega)).trans ((up2_n _ _ (by omega)).trans ((up2_n _ _ (by omega)).trans (h6))))))) wd_cl_X6_35 hC.2.2.2.2.2.1.2.2.2.2.2.2.1 2 rfl (n := 60) (N' := 60) (by decide) (by decide) (by decide) (Nat.le_of_ble_eq_true rfl) (Nat.le_of_ble_eq_true rfl) dX6_init_47 (fun q5 H hI => ?_)
  obtain ⟨a59, ha59⟩ : ∃ z : Ad, z = adup a49 6 0 q5 := ⟨_, rfl⟩
  rw [← ha59] at hI
  have e00_5 : a49 0 0 = a59 0 0 := by rw [ha59]; exact (adup_n _ _ (by omega)).symm
  try rw [e00_5] at hI
  try rw [e00_5] at hl
  have e10_5 : a49 1 0 = a59 1 0 := by rw [ha59]; exact (adup_n _ _ (by omega)).symm
  try rw [e10_5] at hI
  try rw [e10_5] at hl
  have e20_5 : a49 2 0 = a59 2 0 := by rw [ha59]; exact (adup_n _ _ (by omega)).symm
  try rw [e20_5] at hI
  try rw [e20_5] at hl
  have e30_5 : a49 3 0 = a59 3 0 := by rw [ha59]; exact (adup_n _ _ (by omega)).symm
  try rw [e30_5] at hI
  try rw [e30_5] at hl
  have e40_5 : a49 4 0 = a59 4 0 := by rw [ha59]; exact (adup_n _ _ (by omega)).symm
  try rw [e40_5] at hI
  try rw [e40_5] at hl
  have e50_5 : a49 5 0 = a59 5 0 := by rw [ha59]; exact (adup_n _ _ (by omega)).symm
  try rw [e50_5] at hI
  try rw [e50_5] at hl
  have eq_5 : q5 = a59 6 0 := by rw [ha59, adup_s]
  refine W.eq (g2 := F0 m 50 ls [.ref (a59 6 0), .ref (a59 0 0)]) (by rw [eq_5, e00_5]) ?_
  have hI : WI g a59 B0 (up2 (up2 (up2 (up2 (up2 (up2 (up2 (f) 1 0 (.inr (0, [.int 150, .int 0]))) 2 0 (.inr (5, [.ref (a59 3 0), .int 10]))) 3 0 (.inl (g.2 0, 24, .inl (tfF 24)))) 4 0 (.inl (g.2 3, 12, .inr (.inr (.inr (.inr (fun _ => none))))))) 5 0 (.inl (g.2 4, 6, .inr (.inr (.inr (.inr (fun _ => none))))))) 6 0 (.inl (g.2 2, 60, .inr (.inr (.inr (.inr (fun _ => none))))))) 0 0 (.inr (6, [.ref (a59 1 0), .ref (a59 2 0), .ref (a59 4 0), .ref (a59 5 0), .null, .int 0, .int 0, .int 0, .int 0, .int 0, .long 0]))) s H locs := hI.cast (up2_comm _ _ _ (by omega))
  refine pf_X6_37 hC hin hI (up2_s _ _ _ _) (Nat.le_of_ble_eq_true rfl) dX6_init_50 (fun H locs hI => ?_)
  have hI : WI g a59 B0 (up2 (up2 (up2 (up2 (up2 (up2 (up2 (f) 1 0 (.inr (0, [.int 150, .int 0]))) 2 0 (.inr (5, [.ref (a59 3 0), .int 10]))) 3 0 (.inl (g.2 0, 24, .inl (tfF 24)))) 4 0 (.inl (g.2 3, 12, .inr (.inr (.inr (.inr (fun _ => none))))))) 5 0 (.inl (g.2 4, 6, .inr (.inr (.inr (.inr (fun _ => none))))))) 6 0 (.inl (g.2 2, 60, .inr (.inr (.inr (.inr (fun _ => none))))))) 0 0 (.inr (6, [.ref (a59 1 0), .ref (a59 2 0), .ref (a59 4 0), .ref (a59 5 0), .ref (a59 6 0), .int 0, .int 0, .int 0, .int 0, .int 0, .long 0]))) s H locs := hI.cast (up2_up2 _ _ _ _ _)
  refine lv_aload_n hx hb dX6_init_53 rfl (lv_at hl 0 rfl) ?_
  refine lv_iconst (v := 0) hx hb dX6_init_54 (by decide) ?_
  refine pf_X6_41 hC hI (up2_s _ _ _ _) (Nat.le_of_ble_eq_true rfl) dX6_init_55 (fun H locs hI => ?_)
  have hI : WI g a59 B0 (up2 (up2 (up2 (up2 (up2 (up2 (up2 (f) 1 0 (.inr (0, [.int 150, .int 0]))) 2 0 (.inr (5, [.ref (a59 3 0), .int 10]))) 3 0 (.inl (g.2 0, 24, .inl (tfF 24)))) 4 0 (.inl (g.2 3, 12, .inr (.inr (.inr (.inr (fun _ => none))))))) 5 0 (.inl (g.2 4, 6, .inr (.inr (.inr (.inr (fun _ => none))))))) 6 0 (.inl (g.2 2, 60, .inr (.inr (.inr (.inr (fun _ => none))))))) 0 0 (.inr (6, [.ref (a59 1 0), .ref (a59 2 0), .ref (a59 4 0), .ref (a59 5 0), .ref (a59 6 0), .int 0, .int 0, .int 0, .int 0, .int 0, .long 0]))) s H locs := hI.cast (up2_up2 _ _ _ _ _)
  refine lv_aload_n hx hb dX6_init_58 rfl (lv_at hl 0 rfl) ?_
  refine lv_iconst (v := 0) hx hb dX6_init_59 (by decide) ?_
  refine pf_X6_45 hC hI (up2_s _ _ _ _) (Nat.le_of_ble_eq_true rfl) dX6_init_60 (fun H locs hI => ?_)
  have hI : WI g a59 B0 (up2 (up2 (up2 (up2 (up2 (up2 (up2 (f) 1 0 (.inr (0, [.int 150, .int 0]))) 2 0 (.inr (5, [.ref (a59 3 0), .int 10]))) 3 0 (.inl (g.2 0, 24, .inl (tfF 24)))) 4 0 (.inl (g.2 3, 12, .inr (.inr (.inr (.inr (fun _ => none))))))) 5 0 (.inl (g.2 4, 6, .inr (.inr (.inr (.inr (fun _ => none))))))) 6 0 (.inl (g.2 2, 60, .inr (.inr (.inr (.inr (fun _ => none))))))) 0 0 (.inr (6, [.ref (a59 1 0), .ref (a59 2 0), .ref (a59 4 0), .ref (a59 5 0), .ref (a59 6 0), .int 0, .int 0, .int 0, .int 0, .int 0, .long 0]))) s H locs := hI.cast (up2_up2 _ _ _ _ _)
  refine lv_aload_n hx hb dX6_init_63 rfl (lv_at hl 0 rfl) ?_
  refine lv_iconst (v := 0) hx hb dX6_init_64 (by decide) ?_
  refine pf_X6_48 hC hI (up2_s _ _ _ _) (Nat.le_of_ble_eq_true rfl) dX6_init_65 (fun H locs hI => ?_)
  have hI : WI g a59 B0 (up2 (up2 (up2 (up2 (up2 (up2 (up2 (f) 1 0 (.inr (0, [.int 150, .int 0]))) 2 0 (.inr (5, [.ref (a59 3 0), .int 10]))) 3 0 (.inl (g.2 0, 24, .inl (tfF 24)))) 4 0 (.inl (g.2 3, 12, .inr (.inr (.inr (.inr (fun _ => none))))))) 5 0 (.inl (g.2 4, 6, .inr (.inr (.inr (.inr (fun _ => none))))))) 6 0 (.inl (g.2 2, 60, .inr (.inr (.inr (.inr (fun _ => none))))))) 0 0 (.inr (6, [.ref (a59 1 0), .ref (a59 2 0), .ref (a59 4 0), .ref (a59 5 0), .ref (a59 6 0), .int 0, .int 0, .int 0, .int 0, .int 0, .long 0]))) s H locs := hI.cast (up2_up2 _ _ _ _ _)
  refine lv_aload_n hx hb dX6_init_68 rfl (lv_at hl 0 rfl) ?_
  refine lv_iconst (v := 0) hx hb dX6_init_69 (by decide) ?_
  refine pf_X6_51 hC hI (up2_s _ _ _ _) (Nat.le_of_ble_eq_true rfl) dX6_init_70 (fun H locs hI => ?_)
  have hI : WI g a59 B0 (up2 (up2 (up2 (up2 (up2 (up2 (up2 (f) 1 0 (.inr (0, [.int 150, .int 0]))) 2 0 (.inr (5, [.ref (a59 3 0), .int 10]))) 3 0 (.inl (g.2 0, 24, .inl (tfF 24)))) 4 0 (.inl (g.2 3, 12, .inr (.inr (.inr (.inr (fun _ => none))))))) 5 0 (.inl (g.2 4, 6, .inr (.inr (.inr (.inr (fun _ => none))))))) 6 0 (.inl (g.2 2, 60, .inr (.inr (.inr (.inr (fun _ => none))))))) 0 0 (.inr (6, [.ref (a59 1 0), .ref (a59 2 0), .ref (a59 4 0), .ref (a59 5 0), .ref (a59 6 0), .int 0, .int 0, .int 0, .int 0, .int 0, .long 0]))) s H locs := hI.cast (up2_up2 _ _ _ _ _)
  refine lv_aload_n hx hb dX6_init_73 rfl (lv_at hl 0 rfl) ?_
  refine lv_iconst (v := 0) hx hb dX6_init_74 (by decide) ?_
  refine pf_X6_54 hC hI (up2_s _ _ _ _) (Nat.le_of_ble_eq_true rfl) dX6_init_75 (fun H locs hI => ?_)
  have hI : WI g a59 B0 (up2 (up2 (up2 (up2 (up2 (up2 (up2 (f) 1 0 (.inr (0, [.int 150, .int 0]))) 2 0 (.inr (5, [.ref (a59 3 0), .int 10]))) 3 0 (.inl (g.2 0, 24, .inl (tfF 24)))) 4 0 (.inl (g.2 3, 12, .inr (.inr (.inr (.inr (fun _ => none))))))) 5 0 (.inl (g.2 4, 6, .inr (.inr (.inr (.inr (fun _ => none))))))) 6 0 (.inl (g.2 2, 60, .inr (.inr (.inr (.inr (fun _ => none))))))) 0 0 (.inr (6, [.ref (a59 1 0), .ref (a59 2 0), .ref (a59 4 0), .ref (a59 5 0), .ref (a59 6 0), .int 0, .int 0, .int 0, .int 0, .int 0, .long 0]))) s H locs := hI.cast (up2_up2 _ _ _ _ _)
  refine lv_aload_n hx hb dX6_init_78 rfl (lv_at hl 0 rfl) ?_
  refine lv_lconst (v := 0) hx hb dX6_init_79 (by decide) ?_
  refine pf_X6_57 hC hI (up2_s _ _ _ _) (Nat.le_of_ble_eq_true rfl) dX6_init_80 (fun H locs hI => ?_)
  have hI : WI g a59 B0 (up2 (up2 (up2 (up2 (up2 (up2 (up2 (f) 1 0 (.inr (0, [.int 150, .int 0]))) 2 0 (.inr (5, [.ref (a59 3 0), .int 10]))) 3 0 (.inl (g.2 0, 24, .inl (tfF 24)))) 4 0 (.inl (g.2 3, 12, .inr (.inr (.inr (.inr (fun _ => none))))))) 5 0 (.inl (g.2 4, 6, .inr (.inr (.inr (.inr (fun _ => none))))))) 6 0 (.inl (g.2 2, 60, .inr (.inr (.inr (.inr (fun _ => none))))))) 0 0 (.inr (6, [.ref (a59 1 0), .ref (a59 2 0), .ref (a59 4 0), .ref (a59 5 0), .ref (a59 6 0), .int 0, .int 0, .int 0, .int 0, .int 0, .long 0]))) s H locs := hI.cast (up2_up2 _ _ _ _ _)
  have c1 : ∀ k i, ¬ ((1 ≤ k ∧ k ≤ 6) ∧ i = 0) → a29 k i = ad k i := fun k i hk => by rw [ha29, ha19]; exact (adup_n _ _ (by omega)).trans (adup_n _ _ (by omega))
  have c2 : ∀ k i, ¬ ((1 ≤ k ∧ k ≤ 6) ∧ i = 0) → a99 k i = ad k i := fun k i hk => (ha99 k i (by omega)).trans (c1 k i hk)
  exact e_ctor hC hI ⟨rfl, fun k i hk => by rw [ha59, ha49, ha39]; exact (adup_n _ _ (by omega)).trans ((adup_n _ _ (by omega)).trans ((adup_n _ _ (by omega)).trans (c2 k i hk))), rfl⟩ (Nat.le_of_ble_eq_true rfl) (Nat.le_of_ble_eq_true rfl) dX6_init_83
