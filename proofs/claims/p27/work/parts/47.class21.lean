/-! THE CLASS, its constructors -/

set_option maxHeartbeats 4000000 in
set_option maxRecDepth 100000 in
theorem tX3_init (l : Launch) (g : Gg) (B0 : Nat) (ad : Ad) (f : Wd) (J : Nat) (n0 lo0 hi0 li0 sm0 n lo hi li sm : Int32) (he0 : f 7 J = some (.inr (3, [.int n0, .int lo0, .int hi0, .int li0, .int sm0]))) : MK l g B0 yX3_init (wsM yX3_init cX3_init 6 none) ({ frames := 1, cells := 0, slots := 0, locals := 20 } : Room) [.ref (ad 7 J), .int n, .int lo, .int hi, .int li, .int sm] ad (f) (dV ad (up2 f 7 J (.inr (3, [.int n, .int lo, .int hi, .int li, .int sm])))) 0 0 := by
  refine MK.start (by decide) rfl (Nat.le_of_ble_eq_true rfl) ?_
  intro p e s m below meth c ls hC hin hI hl0
  have hx := hC.1.1
  have hb := hC.1.2.1
  have hts := hC.1.2.2.2.2
  have hl : lv_has ls 6 [(0, .ref (ad 7 J)), (1, .int n), (2, .int lo), (3, .int hi), (4, .int li), (5, .int sm)] := hl0
  obtain ⟨H, hH⟩ : ∃ H, H = s.heap := ⟨_, rfl⟩
  obtain ⟨locs, hLo⟩ : ∃ L : List Loc, L = [] := ⟨_, rfl⟩
  rw [← hH, ← hLo] at hI ⊢
  clear hH hLo hl0
  refine lv_aload_n hx hb dX3_init_0 rfl (lv_at hl 0 rfl) ?_
  refine W.objInit hx hb hC.1.2.2.2.1 (hts _ wd_ml_X3_1) (hts _ wd_im__java_lang_Object__init____V_) (hts _ wd_co__java_lang_Object__init____V_) rfl (by rw [hC.1.2.2.1]; exact hl.1) rfl dX3_init_1 (Nat.le_of_ble_eq_true rfl) (Nat.le_of_ble_eq_true rfl) ?_
  refine W.eq (g2 := F0 m 4 ls []) rfl ?_
  refine lv_aload_n hx hb dX3_init_4 rfl (lv_at hl 0 rfl) ?_
  refine lv_iload_n hx hb dX3_init_5 rfl (lv_at hl 1 rfl) ?_
  refine pf_X3_7 hC hin hI he0 (Nat.le_of_ble_eq_true rfl) dX3_init_6 (fun H locs hI => ?_)
  have hI : WI g ad B0 (up2 (f) 7 J (.inr (3, [.int n, .int lo0, .int hi0, .int li0, .int sm0]))) s H locs := hI.cast (rfl)
  refine lv_aload_n hx hb dX3_init_9 rfl (lv_at hl 0 rfl) ?_
  refine lv_iload_n hx hb dX3_init_10 rfl (lv_at hl 2 rfl) ?_
  refine pf_X3_13 hC hin hI (up2_s _ _ _ _) (Nat.le_of_ble_eq_true rfl) dX3_init_11 (fun H locs hI => ?_)
  have hI : WI g ad B0 (up2 (f) 7 J (.inr (3, [.int n, .int lo, .int hi0, .int li0, .int sm0]))) s H locs := hI.cast (up2_up2 _ _ _ _ _)
  refine lv_aload_n hx hb dX3_init_14 rfl (lv_at hl 0 rfl) ?_
  refine lv_iload_n hx hb dX3_init_15 rfl (lv_at hl 3 rfl) ?_
  refine pf_X3_16 hC hin hI (up2_s _ _ _ _) (Nat.le_of_ble_eq_true rfl) dX3_init_16 (fun H locs hI => ?_)
  have hI : WI g ad B0 (up2 (f) 7 J (.inr (3, [.int n, .int lo, .int hi, .int li0, .int sm0]))) s H locs := hI.cast (up2_up2 _ _ _ _ _)
  refine lv_aload_n hx hb dX3_init_19 rfl (lv_at hl 0 rfl) ?_
  refine lv_iload hx hb dX3_init_20 (lv_at hl 4 rfl) ?_
  refine pf_X3_19 hC hin hI (up2_s _ _ _ _) (Nat.le_of_ble_eq_true rfl) dX3_init_22 (fun H locs hI => ?_)
  have hI : WI g ad B0 (up2 (f) 7 J (.inr (3, [.int n, .int lo, .int hi, .int li, .int sm0]))) s H locs := hI.cast (up2_up2 _ _ _ _ _)
  refine lv_aload_n hx hb dX3_init_25 rfl (lv_at hl 0 rfl) ?_
  refine lv_iload hx hb dX3_init_26 (lv_at hl 5 rfl) ?_
  refine pf_X3_22 hC hin hI (up2_s _ _ _ _) (Nat.le_of_ble_eq_true rfl) dX3_init_28 (fun H locs hI => ?_)
  have hI : WI g ad B0 (up2 (f) 7 J (.inr (3, [.int n, .int lo, .int hi, .int li, .int sm]))) s H locs := hI.cast (up2_up2 _ _ _ _ _)
  exact e_ctor hC hI ⟨rfl, rfl, rfl⟩ (Nat.le_of_ble_eq_true rfl) (Nat.le_of_ble_eq_true rfl) dX3_init_31
set_option maxHeartbeats 4000000 in
set_option maxRecDepth 100000 in
theorem tX1_init (l : Launch) (g : Gg) (B0 : Nat) (ad : Ad) (f : Wd) (K J : Nat) (po0 st0 hw0 fr0 en0 po : Int32) (he0 : f K J = some (.inr (1, [.int po0, .int st0, .int hw0, .int fr0, .int en0]))) : MK l g B0 yX1_init (wsM yX1_init cX1_init 2 none) ({ frames := 1, cells := 0, slots := 0, locals := 20 } : Room) [.ref (ad K J), .int po] ad (f) (dV ad (up2 f K J (.inr (1, [.int po, .int 0, .int 0, .int 0, .int 0])))) 0 0 := by
  refine MK.start (by decide) rfl (Nat.le_of_ble_eq_true rfl) ?_
  intro p e s m below meth c ls hC hin hI hl0
  have hx := hC.1.1
  have hb := hC.1.2.1
  have hts := hC.1.2.2.2.2
  have hl : lv_has ls 2 [(0, .ref (ad K J)), (1, .int po)] := hl0
  obtain ⟨H, hH⟩ : ∃ H, H = s.heap := ⟨_, rfl⟩
  obtain ⟨locs, hLo⟩ : ∃ L : List Loc, L = [] := ⟨_, rfl⟩
  rw [← hH, ← hLo] at hI ⊢
  clear hH hLo hl0
  refine lv_aload_n hx hb dX1_init_0 rfl (lv_at hl 0 rfl) ?_
  refine W.objInit hx hb hC.1.2.2.2.1 (hts _ wd_ml_X1_1) (hts _ wd_im__java_lang_Object__init____V_) (hts _ wd_co__java_lang_Object__init____V_) rfl (by rw [hC.1.2.2.1]; exact hl.1) rfl dX1_init_1 (Nat.le_of_ble_eq_true rfl) (Nat.le_of_ble_eq_true rfl) ?_
  refine W.eq (g2 := F0 m 4 ls []) rfl ?_
  refine lv_aload_n hx hb dX1_init_4 rfl (lv_at hl 0 rfl) ?_
  refine lv_iconst (v := 0) hx hb dX1_init_5 (by decide) ?_
  refine pf_X1_9 hC hI he0 (Nat.le_of_ble_eq_true rfl) dX1_init_6 (fun H locs hI => ?_)
  have hI : WI g ad B0 (up2 (f) K J (.inr (1, [.int po0, .int 0, .int hw0, .int fr0, .int en0]))) s H locs := hI.cast (rfl)
  refine lv_aload_n hx hb dX1_init_9 rfl (lv_at hl 0 rfl) ?_
  refine lv_iconst (v := 0) hx hb dX1_init_10 (by decide) ?_
  refine pf_X1_13 hC hI (up2_s _ _ _ _) (Nat.le_of_ble_eq_true rfl) dX1_init_11 (fun H locs hI => ?_)
  have hI : WI g ad B0 (up2 (f) K J (.inr (1, [.int po0, .int 0, .int 0, .int fr0, .int en0]))) s H locs := hI.cast (up2_up2 _ _ _ _ _)
  refine lv_aload_n hx hb dX1_init_14 rfl (lv_at hl 0 rfl) ?_
  refine lv_iconst (v := 0) hx hb dX1_init_15 (by decide) ?_
  refine pf_X1_16 hC hI (up2_s _ _ _ _) (Nat.le_of_ble_eq_true rfl) dX1_init_16 (fun H locs hI => ?_)
  have hI : WI g ad B0 (up2 (f) K J (.inr (1, [.int po0, .int 0, .int 0, .int 0, .int en0]))) s H locs := hI.cast (up2_up2 _ _ _ _ _)
  refine lv_aload_n hx hb dX1_init_19 rfl (lv_at hl 0 rfl) ?_
  refine lv_iconst (v := 0) hx hb dX1_init_20 (by decide) ?_
  refine pf_X1_19 hC hI (up2_s _ _ _ _) (Nat.le_of_ble_eq_true rfl) dX1_init_21 (fun H locs hI => ?_)
  have hI : WI g ad B0 (up2 (f) K J (.inr (1, [.int po0, .int 0, .int 0, .int 0, .int 0]))) s H locs := hI.cast (up2_up2 _ _ _ _ _)
  refine lv_aload_n hx hb dX1_init_24 rfl (lv_at hl 0 rfl) ?_
  refine lv_iload_n hx hb dX1_init_25 rfl (lv_at hl 1 rfl) ?_
  refine pf_X1_22 hC hin hI (up2_s _ _ _ _) (Nat.le_of_ble_eq_true rfl) dX1_init_26 (fun H locs hI => ?_)
  have hI : WI g ad B0 (up2 (f) K J (.inr (1, [.int po, .int 0, .int 0, .int 0, .int 0]))) s H locs := hI.cast (up2_up2 _ _ _ _ _)
  exact e_ctor hC hI ⟨rfl, rfl, rfl⟩ (Nat.le_of_ble_eq_true rfl) (Nat.le_of_ble_eq_true rfl) dX1_init_29
set_option maxHeartbeats 4000000 in
set_option maxRecDepth 100000 in
theorem tX2_init (l : Launch) (g : Gg) (B0 : Nat) (ad : Ad) (f : Wd) (pa q : Nat) (t0 a0 rt0 ra0 t : Int32) (he0 : f 12 pa = some (.inr (2, [.null, .null, .int t0, .int a0, .int rt0, .int ra0]))) : MK l g B0 yX2_init (wsM yX2_init cX2_init 3 none) ({ frames := 1, cells := 0, slots := 0, locals := 20 } : Room) [.ref (ad 12 pa), .ref (ad 7 q), .int t] ad (f) (dV ad (up2 f 12 pa (.inr (2, [.ref (ad 7 q), .null, .int t, .int 0, .int 0, .int 0])))) 0 0 := by
  refine MK.start (by decide) rfl (Nat.le_of_ble_eq_true rfl) ?_
  intro p e s m below meth c ls hC hin hI hl0
  have hx := hC.1.1
  have hb := hC.1.2.1
  have hts := hC.1.2.2.2.2
  have hl : lv_has ls 3 [(0, .ref (ad 12 pa)), (1, .ref (ad 7 q)), (2, .int t)] := hl0
  obtain ⟨H, hH⟩ : ∃ H, H = s.heap := ⟨_, rfl⟩
  obtain ⟨locs, hLo⟩ : ∃ L : List Loc, L = [] := ⟨_, rfl⟩
  rw [← hH, ← hLo] at hI ⊢
  clear hH hLo hl0
  refine lv_aload_n hx hb dX2_init_0 rfl (lv_at hl 0 rfl) ?_
  refine W.objInit hx hb hC.1.2.2.2.1 (hts _ wd_ml_X2_1) (hts _ wd_im__java_lang_Object__init____V_) (hts _ wd_co__java_lang_Object__init____V_) rfl (by rw [hC.1.2.2.1]; exact hl.1) rfl dX2_init_1 (Nat.le_of_ble_eq_true rfl) (Nat.le_of_ble_eq_true rfl) ?_
  refine W.eq (g2 := F0 m 4 ls []) rfl ?_
  refine lv_aload_n hx hb dX2_init_4 rfl (lv_at hl 0 rfl) ?_
  refine lv_null hx hb dX2_init_5 ?_
  refine pf_X2_7N hC hI he0 (Nat.le_of_ble_eq_true rfl) dX2_init_6 (fun H locs hI => ?_)
  have hI : WI g ad B0 (up2 (f) 12 pa (.inr (2, [.null, .null, .int t0, .int a0, .int rt0, .int ra0]))) s H locs := hI.cast (rfl)
  refine lv_aload_n hx hb dX2_init_9 rfl (lv_at hl 0 rfl) ?_
  refine lv_iconst (v := 0) hx hb dX2_init_10 (by decide) ?_
  refine pf_X2_13 hC hI (up2_s _ _ _ _) (Nat.le_of_ble_eq_true rfl) dX2_init_11 (fun H locs hI => ?_)
  have hI : WI g ad B0 (up2 (f) 12 pa (.inr (2, [.null, .null, .int t0, .int 0, .int rt0, .int ra0]))) s H locs := hI.cast (up2_up2 _ _ _ _ _)
  refine lv_aload_n hx hb dX2_init_14 rfl (lv_at hl 0 rfl) ?_
  refine lv_iconst (v := 0) hx hb dX2_init_15 (by decide) ?_
  refine pf_X2_17 hC hI (up2_s _ _ _ _) (Nat.le_of_ble_eq_true rfl) dX2_init_16 (fun H locs hI => ?_)
  have hI : WI g ad B0 (up2 (f) 12 pa (.inr (2, [.null, .null, .int t0, .int 0, .int 0, .int ra0]))) s H locs := hI.cast (up2_up2 _ _ _ _ _)
  refine lv_aload_n hx hb dX2_init_19 rfl (lv_at hl 0 rfl) ?_
  refine lv_iconst (v := 0) hx hb dX2_init_20 (by decide) ?_
  refine pf_X2_20 hC hI (up2_s _ _ _ _) (Nat.le_of_ble_eq_true rfl) dX2_init_21 (fun H locs hI => ?_)
  have hI : WI g ad B0 (up2 (f) 12 pa (.inr (2, [.null, .null, .int t0, .int 0, .int 0, .int 0]))) s H locs := hI.cast (up2_up2 _ _ _ _ _)
  refine lv_aload_n hx hb dX2_init_24 rfl (lv_at hl 0 rfl) ?_
  refine lv_aload_n hx hb dX2_init_25 rfl (lv_at hl 1 rfl) ?_
  refine pf_X2_23 hC hin hI (up2_s _ _ _ _) (Nat.le_of_ble_eq_true rfl) dX2_init_26 (fun H locs hI => ?_)
  have hI : WI g ad B0 (up2 (f) 12 pa (.inr (2, [.ref (ad 7 q), .null, .int t0, .int 0, .int 0, .int 0]))) s H locs := hI.cast (up2_up2 _ _ _ _ _)
  refine lv_aload_n hx hb dX2_init_29 rfl (lv_at hl 0 rfl) ?_
  refine lv_iload_n hx hb dX2_init_30 rfl (lv_at hl 2 rfl) ?_
  refine pf_X2_27 hC hI (up2_s _ _ _ _) (Nat.le_of_ble_eq_true rfl) dX2_init_31 (fun H locs hI => ?_)
  have hI : WI g ad B0 (up2 (f) 12 pa (.inr (2, [.ref (ad 7 q), .null, .int t, .int 0, .int 0, .int 0]))) s H locs := hI.cast (up2_up2 _ _ _ _ _)
  exact e_ctor hC hI ⟨rfl, rfl, rfl⟩ (Nat.le_of_ble_eq_true rfl) (Nat.le_of_ble_eq_true rfl) dX2_init_34
