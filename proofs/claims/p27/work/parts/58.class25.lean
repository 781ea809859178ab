/-! THE CLASS, the constructor of its rooms -/
theorem up2_comm (f : Wd) {K J K2 J2 : Nat} (e0 e2 : va_E) (h : ¬ (K2 = K ∧ J2 = J)) : up2 (up2 f K J e0) K2 J2 e2 = up2 (up2 f K2 J2 e2) K J e0 := by
  funext k i
  by_cases hk : k = K ∧ i = J
  · obtain ⟨rfl, rfl⟩ := hk
    rw [up2_s, up2_n _ _ (fun z => h ⟨z.1.symm, z.2.symm⟩), up2_s]
  · by_cases h2 : k = K2 ∧ i = J2
    · obtain ⟨rfl, rfl⟩ := h2
      rw [up2_n _ _ hk, up2_s, up2_s]
    · rw [up2_n _ _ hk, up2_n _ _ h2, up2_n _ _ h2, up2_n _ _ hk]
theorem up2_mid2 (f : Wd) {K J K2 J2 K3 J3 : Nat} (e0 e2 e3 e1 : va_E) (h2 : ¬ (K2 = K ∧ J2 = J)) (h3 : ¬ (K3 = K ∧ J3 = J)) : up2 (up2 (up2 (up2 f K J e0) K2 J2 e2) K3 J3 e3) K J e1 = up2 (up2 (up2 f K J e1) K2 J2 e2) K3 J3 e3 := by
  rw [up2_comm _ e3 e1 (fun z => h3 ⟨z.1.symm, z.2.symm⟩), up2_mid _ _ _ _ h2]
theorem up2_mid3 (f : Wd) {K J K2 J2 K3 J3 K4 J4 : Nat} (e0 e2 e3 e4 e1 : va_E) (h2 : ¬ (K2 = K ∧ J2 = J)) (h3 : ¬ (K3 = K ∧ J3 = J)) (h4 : ¬ (K4 = K ∧ J4 = J)) : up2 (up2 (up2 (up2 (up2 f K J e0) K2 J2 e2) K3 J3 e3) K4 J4 e4) K J e1 = up2 (up2 (up2 (up2 f K J e1) K2 J2 e2) K3 J3 e3) K4 J4 e4 := by
  rw [up2_comm _ e4 e1 (fun z => h4 ⟨z.1.symm, z.2.symm⟩), up2_mid2 _ _ _ _ _ h2 h3]

set_option maxHeartbeats 4000000 in
set_option maxRecDepth 100000 in
theorem tX4_init (l : Launch) (g : Gg) (B0 : Nat) (ad : Ad) (f : Wd) (r n : Nat) (hn20 : n ≤ 20) (num wa po aim : Int32) (h9 : f 9 r = none) (h10 : f 10 r = none) (h11 : f 11 r = none) (he0 : f 8 r = some (.inr (4, [.int 0, .int 0, .null, .null, .int 0, .int 0, .int 0, .int 0, .null, .int 0, .int 0]))) : MK l g B0 yX4_init (wsM yX4_init cX4_init 6 none) ({ frames := 2, cells := 3, slots := 30, locals := 41 } : Room) [.ref (ad 8 r), .int num, .int (nI n), .int wa, .int po, .int aim] ad (f) (fun v a w => v = none ∧ (∀ k i, ¬ ((k = 9 ∨ k = 10 ∨ k = 11) ∧ i = r) → a k i = ad k i) ∧ w = up2 (up2 (up2 (up2 f 8 r (.inr (4, [.int num, .int wa, .ref (a 9 r), .ref (a 11 r), .int aim, .int 0, .int 150, .int 0, .ref (a 10 r), .int 0, .int 0]))) 11 r (.inl (g.2 2, n, .inr (.inr (.inr (.inr (fun _ => none))))))) 9 r (.inr (1, [.int po, .int 0, .int 0, .int 0, .int 0]))) 10 r (.inr (1, [.int po, .int 0, .int 0, .int 0, .int 0]))) 3 30 := by
  refine MK.start (by decide) rfl (Nat.le_of_ble_eq_true rfl) ?_
  intro p e s m below meth c ls hC hin hI hl0
  have hx := hC.1.1
  have hb := hC.1.2.1
  have hts := hC.1.2.2.2.2
  have hl : lv_has ls 6 [(0, .ref (ad 8 r)), (1, .int num), (2, .int (nI n)), (3, .int wa), (4, .int po), (5, .int aim)] := hl0
  obtain ⟨H, hH⟩ : ∃ H, H = s.heap := ⟨_, rfl⟩
  obtain ⟨locs, hLo⟩ : ∃ L : List Loc, L = [] := ⟨_, rfl⟩
  rw [← hH, ← hLo] at hI ⊢
  clear hH hLo hl0
  refine lv_aload_n hx hb dX4_init_0 rfl (lv_at hl 0 rfl) ?_
  refine W.objInit hx hb hC.1.2.2.2.1 (hts _ wd_ml_X4_1) (hts _ wd_im__java_lang_Object__init____V_) (hts _ wd_co__java_lang_Object__init____V_) rfl (by rw [hC.1.2.2.1]; exact hl.1) rfl dX4_init_1 (Nat.le_of_ble_eq_true rfl) (Nat.le_of_ble_eq_true rfl) ?_
  refine W.eq (g2 := F0 m 4 ls []) rfl ?_
  refine lv_aload_n hx hb dX4_init_4 rfl (lv_at hl 0 rfl) ?_
  refine lv_iconst (v := 0) hx hb dX4_init_5 (by decide) ?_
  refine pf_X4_7 hC hI he0 rfl rfl (Nat.le_of_ble_eq_true rfl) dX4_init_6 (fun H locs hI => ?_)
  have hI : WI g ad B0 (up2 (f) 8 r (.inr (4, [.int 0, .int 0, .null, .null, .int 0, .int 0, .int 0, .int 0, .null, .int 0, .int 0]))) s H locs := hI.cast (rfl)
  refine lv_aload_n hx hb dX4_init_9 rfl (lv_at hl 0 rfl) ?_
  refine lv_sipush (v := 150) hx hb dX4_init_10 (by decide) ?_
  refine pf_X4_13 hC hI (up2_s _ _ _ _) (Nat.le_of_ble_eq_true rfl) dX4_init_13 (fun H locs hI => ?_)
  have hI : WI g ad B0 (up2 (f) 8 r (.inr (4, [.int 0, .int 0, .null, .null, .int 0, .int 0, .int 150, .int 0, .null, .int 0, .int 0]))) s H locs := hI.cast (up2_up2 _ _ _ _ _)
  refine lv_aload_n hx hb dX4_init_16 rfl (lv_at hl 0 rfl) ?_
  refine lv_iconst (v := 0) hx hb dX4_init_17 (by decide) ?_
  refine pf_X4_17 hC hI (up2_s _ _ _ _) (Nat.le_of_ble_eq_true rfl) dX4_init_18 (fun H locs hI => ?_)
  have hI : WI g ad B0 (up2 (f) 8 r (.inr (4, [.int 0, .int 0, .null, .null, .int 0, .int 0, .int 150, .int 0, .null, .int 0, .int 0]))) s H locs := hI.cast (up2_up2 _ _ _ _ _)
  refine lv_aload_n hx hb dX4_init_21 rfl (lv_at hl 0 rfl) ?_
  refine lv_iconst (v := 0) hx hb dX4_init_22 (by decide) ?_
  refine pf_X4_20 hC hI (up2_s _ _ _ _) (Nat.le_of_ble_eq_true rfl) dX4_init_23 (fun H locs hI => ?_)
  have hI : WI g ad B0 (up2 (f) 8 r (.inr (4, [.int 0, .int 0, .null, .null, .int 0, .int 0, .int 150, .int 0, .null, .int 0, .int 0]))) s H locs := hI.cast (up2_up2 _ _ _ _ _)
  refine lv_aload_n hx hb dX4_init_26 rfl (lv_at hl 0 rfl) ?_
  refine lv_iconst (v := 0) hx hb dX4_init_27 (by decide) ?_
  refine pf_X4_23 hC hI (up2_s _ _ _ _) (Nat.le_of_ble_eq_true rfl) dX4_init_28 (fun H locs hI => ?_)
  have hI : WI g ad B0 (up2 (f) 8 r (.inr (4, [.int 0, .int 0, .null, .null, .int 0, .int 0, .int 150, .int 0, .null, .int 0, .int 0]))) s H locs := hI.cast (up2_up2 _ _ _ _ _)
  refine lv_aload_n hx hb dX4_init_31 rfl (lv_at hl 0 rfl) ?_
  refine lv_iload_n hx hb dX4_init_32 rfl (lv_at hl 1 rfl) ?_
  refine pf_X4_26 hC hin hI (up2_s _ _ _ _) (Nat.le_of_ble_eq_true rfl) dX4_init_33 (fun H locs hI => ?_)
  have hI : WI g ad B0 (up2 (f) 8 r (.inr (4, [.int num, .int 0, .null, .null, .int 0, .int 0, .int 150, .int 0, .null, .int 0, .int 0]))) s H locs := hI.cast (up2_up2 _ _ _ _ _)
  refine lv_aload_n hx hb dX4_init_36 rfl (lv_at hl 0 rfl) ?_
  refine lv_iload_n hx hb dX4_init_37 rfl (lv_at hl 2 rfl) ?_
  refine lv_if_ge (tgt := 45) hx hb dX4_init_38 (by decide) (fun c38 => ?_) (fun c38 => (absurd (nI_nn (show n < 2 ^ 31 by omega)) c38))
  refine lv_iload_n hx hb dX4_init_45 rfl (lv_at hl 2 rfl) ?_
  refine r_newq hC hI 11 r ((up2_n _ _ (by omega)).trans (h11)) wd_cl_X4_29 hC.2.2.2.2.2.1.2.2.2.2.2.2.1 2 rfl (n := nI n) (N' := n) (Int32.not_lt.mpr (nI_nn (show n < 2 ^ 31 by omega))) (cN_nI (show n < 2 ^ 31 by omega)) (by omega) (Nat.le_of_ble_eq_true rfl) (show 0 + n ≤ 30 by omega) dX4_init_46 (fun q1 H hI => ?_)
  refine W.widen (k := 1) (n := 20) (by omega) (by omega) ?_
  obtain ⟨a19, ha19⟩ : ∃ z : Ad, z = adup ad 11 r q1 := ⟨_, rfl⟩
  rw [← ha19] at hI
  have e8r_1 : ad 8 r = a19 8 r := by rw [ha19]; exact (adup_n _ _ (by omega)).symm
  try rw [e8r_1] at hI
  try rw [e8r_1] at hl
  have eq_1 : q1 = a19 11 r := by rw [ha19, adup_s]
  refine W.eq (g2 := F0 m 49 ls [.ref (a19 11 r), .ref (a19 8 r)]) (by rw [eq_1, e8r_1]) ?_
  have hI : WI g a19 B0 (up2 (up2 (f) 8 r (.inr (4, [.int num, .int 0, .null, .null, .int 0, .int 0, .int 150, .int 0, .null, .int 0, .int 0]))) 11 r (.inl (g.2 2, n, .inr (.inr (.inr (.inr (fun _ => none))))))) s H locs := hI
  refine pf_X4_31 hC hin hI ((up2_n _ _ (by omega)).trans (up2_s _ _ _ _)) (Nat.le_of_ble_eq_true rfl) dX4_init_49 (fun H locs hI => ?_)
  have hI : WI g a19 B0 (up2 (up2 (f) 8 r (.inr (4, [.int num, .int 0, .null, .ref (a19 11 r), .int 0, .int 0, .int 150, .int 0, .null, .int 0, .int 0]))) 11 r (.inl (g.2 2, n, .inr (.inr (.inr (.inr (fun _ => none))))))) s H locs := hI.cast (up2_mid _ _ _ _ (by omega))
  refine lv_aload_n hx hb dX4_init_52 rfl (lv_at hl 0 rfl) ?_
  refine lv_iload_n hx hb dX4_init_53 rfl (lv_at hl 3 rfl) ?_
  refine pf_X4_35 hC hin hI ((up2_n _ _ (by omega)).trans (up2_s _ _ _ _)) (Nat.le_of_ble_eq_true rfl) dX4_init_54 (fun H locs hI => ?_)
  have hI : WI g a19 B0 (up2 (up2 (f) 8 r (.inr (4, [.int num, .int wa, .null, .ref (a19 11 r), .int 0, .int 0, .int 150, .int 0, .null, .int 0, .int 0]))) 11 r (.inl (g.2 2, n, .inr (.inr (.inr (.inr (fun _ => none))))))) s H locs := hI.cast (up2_mid _ _ _ _ (by omega))
  refine lv_aload_n hx hb dX4_init_57 rfl (lv_at hl 0 rfl) ?_
  refine r_new hC hI 9 r ((up2_n _ _ (by omega)).trans ((up2_n _ _ (by omega)).trans (h9))) inX1 tyX1 tyX1_ok wd_cl_X4_38 wd_it_RX1 wd_in_RX1 (ci := 1) rfl (fs := [.int 0, .int 0, .int 0, .int 0, .int 0]) (fun j hj => by rcases j with _ | _ | _ | _ | _ | j <;> first | rfl | omega) (Nat.le_of_ble_eq_true rfl) (Nat.le_of_ble_eq_true rfl) dX4_init_58 (fun q2 H hI => ?_)
  obtain ⟨a29, ha29⟩ : ∃ z : Ad, z = adup a19 9 r q2 := ⟨_, rfl⟩
  rw [← ha29] at hI
  have e8r_2 : a19 8 r = a29 8 r := by rw [ha29]; exact (adup_n _ _ (by omega)).symm
  try rw [e8r_2] at hI
  try rw [e8r_2] at hl
  have e11r_2 : a19 11 r = a29 11 r := by rw [ha29]; exact (adup_n _ _ (by omega)).symm
  try rw [e11r_2] at hI
  try rw [e11r_2] at hl
  have eq_2 : q2 = a29 9 r := by rw [ha29, adup_s]
  refine W.eq (g2 := F0 m 61 ls [.ref (a29 9 r), .ref (a29 8 r)]) (by rw [eq_2, e8r_2]) ?_
  have hI : WI g a29 B0 (up2 (up2 (up2 (f) 8 r (.inr (4, [.int num, .int wa, .null, .ref (a29 11 r), .int 0, .int 0, .int 150, .int 0, .null, .int 0, .int 0]))) 11 r (.inl (g.2 2, n, .inr (.inr (.inr (.inr (fun _ => none))))))) 9 r (.inr (1, [.int 0, .int 0, .int 0, .int 0, .int 0]))) s H locs := hI
  refine lv_dup hx hb dX4_init_61 rfl ?_
  refine lv_iload hx hb dX4_init_62 (lv_at hl 4 rfl) ?_
  refine r_callI (rest := [.ref (a29 9 r), .ref (a29 8 r)]) hC hI hl.1 (tX1_init l g B0 a29 _ 9 r _ _ _ _ _ po (up2_s _ _ _ _)) (cw_X4_40 hts rfl rfl ⟨(Nat.le_of_ble_eq_true rfl), (Nat.le_of_ble_eq_true rfl)⟩) rfl rfl (Nat.le_of_ble_eq_true rfl) dX4_init_64 ⟨(Nat.le_of_ble_eq_true rfl), (Nat.le_of_ble_eq_true rfl)⟩ (fun v a8 w H locs hR hI => ?_)
  obtain ⟨rfl, ha8, rfl⟩ := hR; obtain rfl := ha8.symm
  have hI : WI g a29 B0 (up2 (up2 (up2 (f) 8 r (.inr (4, [.int num, .int wa, .null, .ref (a29 11 r), .int 0, .int 0, .int 150, .int 0, .null, .int 0, .int 0]))) 11 r (.inl (g.2 2, n, .inr (.inr (.inr (.inr (fun _ => none))))))) 9 r (.inr (1, [.int po, .int 0, .int 0, .int 0, .int 0]))) s H locs := hI.cast (up2_up2 _ _ _ _ _)
  refine pf_X4_43 hC hin hI ((up2_n _ _ (by omega)).trans ((up2_n _ _ (by omega)).trans (up2_s _ _ _ _))) (Nat.le_of_ble_eq_true rfl) dX4_init_67 (fun H locs hI => ?_)
  have hI : WI g a29 B0 (up2 (up2 (up2 (f) 8 r (.inr (4, [.int num, .int wa, .ref (a29 9 r), .ref (a29 11 r), .int 0, .int 0, .int 150, .int 0, .null, .int 0, .int 0]))) 11 r (.inl (g.2 2, n, .inr (.inr (.inr (.inr (fun _ => none))))))) 9 r (.inr (1, [.int po, .int 0, .int 0, .int 0, .int 0]))) s H locs := hI.cast (up2_mid2 _ _ _ _ _ (by omega) (by omega))
  refine lv_aload_n hx hb dX4_init_70 rfl (lv_at hl 0 rfl) ?_
  refine r_new hC hI 10 r ((up2_n _ _ (by omega)).trans ((up2_n _ _ (by omega)).trans ((up2_n _ _ (by omega)).trans (h10)))) inX1 tyX1 tyX1_ok wd_cl_X4_38 wd_it_RX1 wd_in_RX1 (ci := 1) rfl (fs := [.int 0, .int 0, .int 0, .int 0, .int 0]) (fun j hj => by rcases j with _ | _ | _ | _ | _ | j <;> first | rfl | omega) (Nat.le_of_ble_eq_true rfl) (Nat.le_of_ble_eq_true rfl) dX4_init_71 (fun q3 H hI => ?_)
  obtain ⟨a39, ha39⟩ : ∃ z : Ad, z = adup a29 10 r q3 := ⟨_, rfl⟩
  rw [← ha39] at hI
  have e8r_3 : a29 8 r = a39 8 r := by rw [ha39]; exact (adup_n _ _ (by omega)).symm
  try rw [e8r_3] at hI
  try rw [e8r_3] at hl
  have e11r_3 : a29 11 r = a39 11 r := by rw [ha39]; exact (adup_n _ _ (by omega)).symm
  try rw [e11r_3] at hI
  try rw [e11r_3] at hl
  have e9r_3 : a29 9 r = a39 9 r := by rw [ha39]; exact (adup_n _ _ (by omega)).symm
  try rw [e9r_3] at hI
  try rw [e9r_3] at hl
  have eq_3 : q3 = a39 10 r := by rw [ha39, adup_s]
  refine W.eq (g2 := F0 m 74 ls [.ref (a39 10 r), .ref (a39 8 r)]) (by rw [eq_3, e8r_3]) ?_
  have hI : WI g a39 B0 (up2 (up2 (up2 (up2 (f) 8 r (.inr (4, [.int num, .int wa, .ref (a39 9 r), .ref (a39 11 r), .int 0, .int 0, .int 150, .int 0, .null, .int 0, .int 0]))) 11 r (.inl (g.2 2, n, .inr (.inr (.inr (.inr (fun _ => none))))))) 9 r (.inr (1, [.int po, .int 0, .int 0, .int 0, .int 0]))) 10 r (.inr (1, [.int 0, .int 0, .int 0, .int 0, .int 0]))) s H locs := hI
  refine lv_dup hx hb dX4_init_74 rfl ?_
  refine lv_iload hx hb dX4_init_75 (lv_at hl 4 rfl) ?_
  refine r_callI (rest := [.ref (a39 10 r), .ref (a39 8 r)]) hC hI hl.1 (tX1_init l g B0 a39 _ 10 r _ _ _ _ _ po (up2_s _ _ _ _)) (cw_X4_40 hts rfl rfl ⟨(Nat.le_of_ble_eq_true rfl), (Nat.le_of_ble_eq_true rfl)⟩) rfl rfl (Nat.le_of_ble_eq_true rfl) dX4_init_77 ⟨(Nat.le_of_ble_eq_true rfl), (Nat.le_of_ble_eq_true rfl)⟩ (fun v a8 w H locs hR hI => ?_)
  obtain ⟨rfl, ha8, rfl⟩ := hR; obtain rfl := ha8.symm
  have hI : WI g a39 B0 (up2 (up2 (up2 (up2 (f) 8 r (.inr (4, [.int num, .int wa, .ref (a39 9 r), .ref (a39 11 r), .int 0, .int 0, .int 150, .int 0, .null, .int 0, .int 0]))) 11 r (.inl (g.2 2, n, .inr (.inr (.inr (.inr (fun _ => none))))))) 9 r (.inr (1, [.int po, .int 0, .int 0, .int 0, .int 0]))) 10 r (.inr (1, [.int po, .int 0, .int 0, .int 0, .int 0]))) s H locs := hI.cast (up2_up2 _ _ _ _ _)
  refine pf_X4_47 hC hin hI ((up2_n _ _ (by omega)).trans ((up2_n _ _ (by omega)).trans ((up2_n _ _ (by omega)).trans (up2_s _ _ _ _)))) (Nat.le_of_ble_eq_true rfl) dX4_init_80 (fun H locs hI => ?_)
  have hI : WI g a39 B0 (up2 (up2 (up2 (up2 (f) 8 r (.inr (4, [.int num, .int wa, .ref (a39 9 r), .ref (a39 11 r), .int 0, .int 0, .int 150, .int 0, .ref (a39 10 r), .int 0, .int 0]))) 11 r (.inl (g.2 2, n, .inr (.inr (.inr (.inr (fun _ => none))))))) 9 r (.inr (1, [.int po, .int 0, .int 0, .int 0, .int 0]))) 10 r (.inr (1, [.int po, .int 0, .int 0, .int 0, .int 0]))) s H locs := hI.cast (up2_mid3 _ _ _ _ _ _ (by omega) (by omega) (by omega))
  refine lv_aload_n hx hb dX4_init_83 rfl (lv_at hl 0 rfl) ?_
  refine lv_iload hx hb dX4_init_84 (lv_at hl 5 rfl) ?_
  refine pf_X4_50 hC hI ((up2_n _ _ (by omega)).trans ((up2_n _ _ (by omega)).trans ((up2_n _ _ (by omega)).trans (up2_s _ _ _ _)))) (Nat.le_of_ble_eq_true rfl) dX4_init_86 (fun H locs hI => ?_)
  have hI : WI g a39 B0 (up2 (up2 (up2 (up2 (f) 8 r (.inr (4, [.int num, .int wa, .ref (a39 9 r), .ref (a39 11 r), .int aim, .int 0, .int 150, .int 0, .ref (a39 10 r), .int 0, .int 0]))) 11 r (.inl (g.2 2, n, .inr (.inr (.inr (.inr (fun _ => none))))))) 9 r (.inr (1, [.int po, .int 0, .int 0, .int 0, .int 0]))) 10 r (.inr (1, [.int po, .int 0, .int 0, .int 0, .int 0]))) s H locs := hI.cast (up2_mid3 _ _ _ _ _ _ (by omega) (by omega) (by omega))
  exact e_ctor hC hI ⟨rfl, fun k i hk => by rw [ha39, ha29, ha19]; exact (adup_n _ _ (by omega)).trans ((adup_n _ _ (by omega)).trans (adup_n _ _ (by omega))), rfl⟩ (Nat.le_of_ble_eq_true rfl) (Nat.le_of_ble_eq_true rfl) dX4_init_89
