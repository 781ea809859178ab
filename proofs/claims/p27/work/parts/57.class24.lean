/-! THE CLASS, the constructor of its air -/

set_option maxHeartbeats 4000000 in
set_option maxRecDepth 100000 in
theorem tX0_init (l : Launch) (g : Gg) (B0 : Nat) (ad : Ad) (f : Wd) (b0 s0 : Int32) (he0 : f 1 0 = some (.inr (0, [.int b0, .int s0]))) : MK l g B0 yX0_init (wsM yX0_init cX0_init 1 none) ({ frames := 1, cells := 0, slots := 0, locals := 20 } : Room) [.ref (ad 1 0)] ad (f) (dV ad (up2 f 1 0 (.inr (0, [.int 150, .int 0])))) 0 0 := by
  refine MK.start (by decide) rfl (Nat.le_of_ble_eq_true rfl) ?_
  intro p e s m below meth c ls hC hin hI hl0
  have hx := hC.1.1
  have hb := hC.1.2.1
  have hts := hC.1.2.2.2.2
  have hl : lv_has ls 1 [(0, .ref (ad 1 0))] := hl0
  obtain ⟨H, hH⟩ : ∃ H, H = s.heap := ⟨_, rfl⟩
  obtain ⟨locs, hLo⟩ : ∃ L : List Loc, L = [] := ⟨_, rfl⟩
  rw [← hH, ← hLo] at hI ⊢
  clear hH hLo hl0
  refine lv_aload_n hx hb dX0_init_0 rfl (lv_at hl 0 rfl) ?_
  refine W.objInit hx hb hC.1.2.2.2.1 (hts _ wd_ml_X0_3) (hts _ wd_im__java_lang_Object__init____V_) (hts _ wd_co__java_lang_Object__init____V_) rfl (by rw [hC.1.2.2.1]; exact hl.1) rfl dX0_init_1 (Nat.le_of_ble_eq_true rfl) (Nat.le_of_ble_eq_true rfl) ?_
  refine W.eq (g2 := F0 m 4 ls []) rfl ?_
  refine lv_aload_n hx hb dX0_init_4 rfl (lv_at hl 0 rfl) ?_
  refine lv_sipush (v := 150) hx hb dX0_init_5 (by decide) ?_
  refine pf_X0_9 hC hI he0 (Nat.le_of_ble_eq_true rfl) dX0_init_8 (fun H locs hI => ?_)
  have hI : WI g ad B0 (up2 (f) 1 0 (.inr (0, [.int 150, .int s0]))) s H locs := hI.cast (rfl)
  refine lv_aload_n hx hb dX0_init_11 rfl (lv_at hl 0 rfl) ?_
  refine lv_iconst (v := 0) hx hb dX0_init_12 (by decide) ?_
  refine pf_X0_15 hC hI (up2_s _ _ _ _) (Nat.le_of_ble_eq_true rfl) dX0_init_13 (fun H locs hI => ?_)
  have hI : WI g ad B0 (up2 (f) 1 0 (.inr (0, [.int 150, .int 0]))) s H locs := hI.cast (up2_up2 _ _ _ _ _)
  exact e_ctor hC hI ⟨rfl, rfl, rfl⟩ (Nat.le_of_ble_eq_true rfl) (Nat.le_of_ble_eq_true rfl) dX0_init_16
