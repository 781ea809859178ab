/-! THE MODEL, its small methods -/
def outS (σ : Sg) (hr : Int32) : Int32 := σ 2 0 + (if 8 ≤ hr ∧ hr ≤ 20 then σ 3 0 * (6 - ab (hr - 14)) / 6 else 0)
def lowAt (σ : Sg) : Nat → Int32
  | 0 => σ 4 0
  | k + 1 => mn (lowAt σ k) (σ 4 k)
def lowS (σ : Sg) : Int32 := lowAt σ 24
def freeAt (σ : Sg) (r : Nat) : Nat → Int32
  | 0 => σ 11 r
  | k + 1 => freeAt σ r k - (if σ 19 k = nI r then 1 else 0)
def freeS (σ : Sg) (r : Nat) : Int32 := freeAt σ r (nt σ)
/-- how many pallets the state has, and what is in range -/
def OkP (σ : Sg) : Prop := σ 17 0 = nI (nt σ) ∧ nt σ ≤ 60 ∧ σ 10 0 = nI (nr σ) ∧ nr σ ≤ 6 ∧ σ 5 0 = nI (np σ) ∧ np σ ≤ 12 ∧ (∀ p, p < nt σ → σ 18 p = nI (prd σ p) ∧ prd σ p < np σ) ∧ (∀ p, p < nt σ → σ 19 p ≠ -1 → σ 19 p = nI (rmo σ p) ∧ rmo σ p < nr σ)
theorem ge_T {x : Int32} {n k : Nat} (hx : x = nI n) (hn : n < 2 ^ 31) (hk : k < 2 ^ 31) (c : x ≤ nI k) : n ≤ k := by
  rw [hx] at c
  exact (nI_leI hn hk).mp c
theorem ge_F {x : Int32} {n k : Nat} (hx : x = nI n) (hn : n < 2 ^ 31) (hk : k < 2 ^ 31) (c : ¬ x ≤ nI k) : k < n := by
  rw [hx] at c
  exact Nat.lt_of_not_le (fun z => c ((nI_leI hn hk).mpr z))

set_option maxHeartbeats 4000000 in
set_option maxRecDepth 100000 in
theorem tX7_thrown (l : Launch) (g : Gg) (B0 : Nat) (ad : Ad) (σ : Sg) (pd : Int64) (th : Int32) (h : Wd)  : MM l g B0 yX7_thrown (wsM yX7_thrown cX7_thrown 1 (some .int)) ({ frames := 0, cells := 0, slots := 0, locals := 0 } : Room) [.ref (ad 20 0)] ad (fM g ad σ pd th h) (dI th ad (fM g ad σ pd th h)) (noX) 0 0 := by
  refine MM.start (by decide) (Nat.le_of_ble_eq_true rfl) ?_
  intro hl9 p e s m below meth c ls hC hno hI hl0
  have hx := hC.1.1
  have hb := hC.1.2.1
  have hts := hC.1.2.2.2.2
  have hl : lv_has ls 1 [(0, .ref (ad 20 0))] := hl0
  obtain ⟨H, hH⟩ : ∃ H, H = s.heap := ⟨_, rfl⟩
  obtain ⟨locs, hLo⟩ : ∃ L : List Loc, L = [] := ⟨_, rfl⟩
  rw [← hH, ← hLo] at hI ⊢
  clear hH hLo hl0
  refine lv_aload_n hx hb dX7_thrown_0 rfl (lv_at hl 0 rfl) ?_
  refine gf_X7_60 hC hI fM_o rfl dX7_thrown_1 ?_
  exact e_int hC hI ⟨rfl, rfl, rfl⟩ (Nat.le_of_ble_eq_true rfl) (Nat.le_of_ble_eq_true rfl) dX7_thrown_4
set_option maxHeartbeats 4000000 in
set_option maxRecDepth 100000 in
theorem tX7_no (l : Launch) (g : Gg) (B0 : Nat) (ad : Ad) (σ : Sg) (pd : Int64) (th : Int32) (h : Wd) (k : Int32) : MM l g B0 yX7_no (wsM yX7_no cX7_no 2 (some .int)) ({ frames := 0, cells := 0, slots := 0, locals := 0 } : Room) [.ref (ad 20 0), .int k] ad (fM g ad σ pd th h) (dI 0 ad (fM g ad σ pd k h)) (noX) 0 0 := by
  refine MM.start (by decide) (Nat.le_of_ble_eq_true rfl) ?_
  intro hl9 p e s m below meth c ls hC hno hI hl0
  have hx := hC.1.1
  have hb := hC.1.2.1
  have hts := hC.1.2.2.2.2
  have hl : lv_has ls 2 [(0, .ref (ad 20 0)), (1, .int k)] := hl0
  obtain ⟨H, hH⟩ : ∃ H, H = s.heap := ⟨_, rfl⟩
  obtain ⟨locs, hLo⟩ : ∃ L : List Loc, L = [] := ⟨_, rfl⟩
  rw [← hH, ← hLo] at hI ⊢
  clear hH hLo hl0
  refine lv_aload_n hx hb dX7_no_0 rfl (lv_at hl 0 rfl) ?_
  refine lv_iload_n hx hb dX7_no_1 rfl (lv_at hl 1 rfl) ?_
  refine pf_X7_60 hC hI fM_o (Nat.le_of_ble_eq_true rfl) dX7_no_2 (fun H locs hI => ?_)
  have hI := hI.cast fM_pth
  refine lv_iconst (v := 0) hx hb dX7_no_5 (by decide) ?_
  exact e_int hC hI ⟨rfl, rfl, rfl⟩ (Nat.le_of_ble_eq_true rfl) (Nat.le_of_ble_eq_true rfl) dX7_no_6
set_option maxHeartbeats 4000000 in
set_option maxRecDepth 100000 in
theorem tX7_isIn (l : Launch) (g : Gg) (B0 : Nat) (ad : Ad) (f : Wd) (v lo hi : Int32) : MM l g B0 yX7_isIn (wsM yX7_isIn cX7_isIn 3 (some .boolean)) ({ frames := 0, cells := 0, slots := 0, locals := 0 } : Room) [.int v, .int lo, .int hi] ad (f) (dI (bi (lo ≤ v ∧ v ≤ hi)) ad f) (noX) 0 0 := by
  refine MM.start (by decide) (Nat.le_of_ble_eq_true rfl) ?_
  intro hl9 p e s m below meth c ls hC hno hI hl0
  have hx := hC.1.1
  have hb := hC.1.2.1
  have hts := hC.1.2.2.2.2
  have hl : lv_has ls 3 [(0, .int v), (1, .int lo), (2, .int hi)] := hl0
  obtain ⟨H, hH⟩ : ∃ H, H = s.heap := ⟨_, rfl⟩
  obtain ⟨locs, hLo⟩ : ∃ L : List Loc, L = [] := ⟨_, rfl⟩
  rw [← hH, ← hLo] at hI ⊢
  clear hH hLo hl0
  refine lv_iload_n hx hb dX7_isIn_0 rfl (lv_at hl 0 rfl) ?_
  refine lv_iload_n hx hb dX7_isIn_1 rfl (lv_at hl 1 rfl) ?_
  refine lv_icmp_lt (tgt := 14) hx hb dX7_isIn_2 (by decide) (fun c2 => ?_) (fun c2 => ?_)
  · refine lv_iconst (v := 0) hx hb dX7_isIn_14 (by decide) ?_
    exact e_bool hC hI (by decide) (rI (bi_f (fun z => absurd c2 (Int32.not_lt.mpr z.1))).symm) (Nat.le_of_ble_eq_true rfl) (Nat.le_of_ble_eq_true rfl) dX7_isIn_15
  · refine lv_iload_n hx hb dX7_isIn_5 rfl (lv_at hl 0 rfl) ?_
    refine lv_iload_n hx hb dX7_isIn_6 rfl (lv_at hl 2 rfl) ?_
    refine lv_icmp_gt (tgt := 14) hx hb dX7_isIn_7 (by decide) (fun c7 => ?_) (fun c7 => ?_)
    · refine lv_iconst (v := 0) hx hb dX7_isIn_14 (by decide) ?_
      exact e_bool hC hI (by decide) (rI (bi_f (fun z => absurd c7 (Int32.not_lt.mpr z.2))).symm) (Nat.le_of_ble_eq_true rfl) (Nat.le_of_ble_eq_true rfl) dX7_isIn_15
    · refine lv_iconst (v := 1) hx hb dX7_isIn_10 (by decide) ?_
      refine lv_goto (tgt := 15) hx hb dX7_isIn_11 (by decide) ?_
      exact e_bool hC hI (by decide) (rI (bi_t ⟨Int32.not_lt.mp c2, Int32.not_lt.mp c7⟩).symm) (Nat.le_of_ble_eq_true rfl) (Nat.le_of_ble_eq_true rfl) dX7_isIn_15
set_option maxHeartbeats 4000000 in
set_option maxRecDepth 100000 in
theorem tX7_isProduct (l : Launch) (g : Gg) (B0 : Nat) (ad : Ad) (σ : Sg) (pd : Int64) (th : Int32) (h : Wd) (v : Int32) : MM l g B0 yX7_isProduct (wsM yX7_isProduct cX7_isProduct 2 (some .boolean)) ({ frames := 1, cells := 0, slots := 0, locals := 22 } : Room) [.ref (ad 20 0), .int v] ad (fM g ad σ pd th h) (dI (bi (0 ≤ v ∧ v ≤ σ 5 0 - 1)) ad (fM g ad σ pd th h)) (noX) 0 0 := by
  refine MM.start (by decide) (Nat.le_of_ble_eq_true rfl) ?_
  intro hl9 p e s m below meth c ls hC hno hI hl0
  have hx := hC.1.1
  have hb := hC.1.2.1
  have hts := hC.1.2.2.2.2
  have hl : lv_has ls 2 [(0, .ref (ad 20 0)), (1, .int v)] := hl0
  obtain ⟨H, hH⟩ : ∃ H, H = s.heap := ⟨_, rfl⟩
  obtain ⟨locs, hLo⟩ : ∃ L : List Loc, L = [] := ⟨_, rfl⟩
  rw [← hH, ← hLo] at hI ⊢
  clear hH hLo hl0
  refine lv_iload_n hx hb dX7_isProduct_0 rfl (lv_at hl 1 rfl) ?_
  refine lv_iconst (v := 0) hx hb dX7_isProduct_1 (by decide) ?_
  refine lv_aload_n hx hb dX7_isProduct_2 rfl (lv_at hl 0 rfl) ?_
  refine gf_X7_63 hC hI fM_o rfl dX7_isProduct_3 ?_
  refine lv_iconst (v := 1) hx hb dX7_isProduct_6 (by decide) ?_
  refine lv_isub hx hb dX7_isProduct_7 ?_
  refine c_Si (rest := []) hl9 hC hI hl.1 (tX7_isIn l g B0 ad _ v 0 ((σ 5 0) - 1)) (cw_X7_66 hts rfl rfl ⟨(Nat.le_of_ble_eq_true rfl), (Nat.le_of_ble_eq_true rfl)⟩) rfl rfl (Nat.le_of_ble_eq_true rfl) dX7_isProduct_8 ⟨(Nat.le_of_ble_eq_true rfl), (Nat.le_of_ble_eq_true rfl)⟩ (fun H locs hI => ?_)
  exact e_bool hC hI bi_nar ⟨rfl, rfl, rfl⟩ (Nat.le_of_ble_eq_true rfl) (Nat.le_of_ble_eq_true rfl) dX7_isProduct_11
set_option maxHeartbeats 4000000 in
set_option maxRecDepth 100000 in
theorem tX7_isRoom (l : Launch) (g : Gg) (B0 : Nat) (ad : Ad) (σ : Sg) (pd : Int64) (th : Int32) (h : Wd) (v : Int32) : MM l g B0 yX7_isRoom (wsM yX7_isRoom cX7_isRoom 2 (some .boolean)) ({ frames := 1, cells := 0, slots := 0, locals := 22 } : Room) [.ref (ad 20 0), .int v] ad (fM g ad σ pd th h) (dI (bi (0 ≤ v ∧ v ≤ σ 10 0 - 1)) ad (fM g ad σ pd th h)) (noX) 0 0 := by
  refine MM.start (by decide) (Nat.le_of_ble_eq_true rfl) ?_
  intro hl9 p e s m below meth c ls hC hno hI hl0
  have hx := hC.1.1
  have hb := hC.1.2.1
  have hts := hC.1.2.2.2.2
  have hl : lv_has ls 2 [(0, .ref (ad 20 0)), (1, .int v)] := hl0
  obtain ⟨H, hH⟩ : ∃ H, H = s.heap := ⟨_, rfl⟩
  obtain ⟨locs, hLo⟩ : ∃ L : List Loc, L = [] := ⟨_, rfl⟩
  rw [← hH, ← hLo] at hI ⊢
  clear hH hLo hl0
  refine lv_iload_n hx hb dX7_isRoom_0 rfl (lv_at hl 1 rfl) ?_
  refine lv_iconst (v := 0) hx hb dX7_isRoom_1 (by decide) ?_
  refine lv_aload_n hx hb dX7_isRoom_2 rfl (lv_at hl 0 rfl) ?_
  refine gf_X7_70 hC hI fM_o rfl dX7_isRoom_3 ?_
  refine lv_iconst (v := 1) hx hb dX7_isRoom_6 (by decide) ?_
  refine lv_isub hx hb dX7_isRoom_7 ?_
  refine c_Si (rest := []) hl9 hC hI hl.1 (tX7_isIn l g B0 ad _ v 0 ((σ 10 0) - 1)) (cw_X7_66 hts rfl rfl ⟨(Nat.le_of_ble_eq_true rfl), (Nat.le_of_ble_eq_true rfl)⟩) rfl rfl (Nat.le_of_ble_eq_true rfl) dX7_isRoom_8 ⟨(Nat.le_of_ble_eq_true rfl), (Nat.le_of_ble_eq_true rfl)⟩ (fun H locs hI => ?_)
  exact e_bool hC hI bi_nar ⟨rfl, rfl, rfl⟩ (Nat.le_of_ble_eq_true rfl) (Nat.le_of_ble_eq_true rfl) dX7_isRoom_11
set_option maxHeartbeats 4000000 in
set_option maxRecDepth 100000 in
theorem tX7_isPallet (l : Launch) (g : Gg) (B0 : Nat) (ad : Ad) (σ : Sg) (pd : Int64) (th : Int32) (h : Wd) (v : Int32) : MM l g B0 yX7_isPallet (wsM yX7_isPallet cX7_isPallet 2 (some .boolean)) ({ frames := 1, cells := 0, slots := 0, locals := 22 } : Room) [.ref (ad 20 0), .int v] ad (fM g ad σ pd th h) (dI (bi (0 ≤ v ∧ v ≤ σ 17 0 - 1)) ad (fM g ad σ pd th h)) (noX) 0 0 := by
  refine MM.start (by decide) (Nat.le_of_ble_eq_true rfl) ?_
  intro hl9 p e s m below meth c ls hC hno hI hl0
  have hx := hC.1.1
  have hb := hC.1.2.1
  have hts := hC.1.2.2.2.2
  have hl : lv_has ls 2 [(0, .ref (ad 20 0)), (1, .int v)] := hl0
  obtain ⟨H, hH⟩ : ∃ H, H = s.heap := ⟨_, rfl⟩
  obtain ⟨locs, hLo⟩ : ∃ L : List Loc, L = [] := ⟨_, rfl⟩
  rw [← hH, ← hLo] at hI ⊢
  clear hH hLo hl0
  refine lv_iload_n hx hb dX7_isPallet_0 rfl (lv_at hl 1 rfl) ?_
  refine lv_iconst (v := 0) hx hb dX7_isPallet_1 (by decide) ?_
  refine lv_aload_n hx hb dX7_isPallet_2 rfl (lv_at hl 0 rfl) ?_
  refine gf_X7_73 hC hI fM_o rfl dX7_isPallet_3 ?_
  refine lv_iconst (v := 1) hx hb dX7_isPallet_6 (by decide) ?_
  refine lv_isub hx hb dX7_isPallet_7 ?_
  refine c_Si (rest := []) hl9 hC hI hl.1 (tX7_isIn l g B0 ad _ v 0 ((σ 17 0) - 1)) (cw_X7_66 hts rfl rfl ⟨(Nat.le_of_ble_eq_true rfl), (Nat.le_of_ble_eq_true rfl)⟩) rfl rfl (Nat.le_of_ble_eq_true rfl) dX7_isPallet_8 ⟨(Nat.le_of_ble_eq_true rfl), (Nat.le_of_ble_eq_true rfl)⟩ (fun H locs hI => ?_)
  exact e_bool hC hI bi_nar ⟨rfl, rfl, rfl⟩ (Nat.le_of_ble_eq_true rfl) (Nat.le_of_ble_eq_true rfl) dX7_isPallet_11
set_option maxHeartbeats 4000000 in
set_option maxRecDepth 100000 in
theorem tX7_outsideAt (l : Launch) (g : Gg) (B0 : Nat) (ad : Ad) (σ : Sg) (pd : Int64) (th : Int32) (h : Wd) (hr : Int32) : MM l g B0 yX7_outsideAt (wsM yX7_outsideAt cX7_outsideAt 2 (some .int)) ({ frames := 1, cells := 0, slots := 0, locals := 22 } : Room) [.ref (ad 20 0), .int hr] ad (fM g ad σ pd th h) (dI (outS σ hr) ad (fM g ad σ pd th h)) (noX) 0 0 := by
  refine MM.start (by decide) (Nat.le_of_ble_eq_true rfl) ?_
  intro hl9 p e s m below meth c ls hC hno hI hl0
  have hx := hC.1.1
  have hb := hC.1.2.1
  have hts := hC.1.2.2.2.2
  have hl : lv_has ls 2 [(0, .ref (ad 20 0)), (1, .int hr)] := hl0
  obtain ⟨H, hH⟩ : ∃ H, H = s.heap := ⟨_, rfl⟩
  obtain ⟨locs, hLo⟩ : ∃ L : List Loc, L = [] := ⟨_, rfl⟩
  rw [← hH, ← hLo] at hI ⊢
  clear hH hLo hl0
  refine lv_aload_n hx hb dX7_outsideAt_0 rfl (lv_at hl 0 rfl) ?_
  refine gf_X7_7 hC hI fM_o rfl dX7_outsideAt_1 ?_
  refine lv_iload_n hx hb dX7_outsideAt_4 rfl (lv_at hl 1 rfl) ?_
  refine lv_bipush (v := 8) hx hb dX7_outsideAt_5 (by decide) ?_
  refine lv_bipush (v := 20) hx hb dX7_outsideAt_7 (by decide) ?_
  refine c_Si (rest := [.int (σ 2 0)]) hl9 hC hI hl.1 (tX7_isIn l g B0 ad _ hr 8 20) (cw_X7_66 hts rfl rfl ⟨(Nat.le_of_ble_eq_true rfl), (Nat.le_of_ble_eq_true rfl)⟩) rfl rfl (Nat.le_of_ble_eq_true rfl) dX7_outsideAt_9 ⟨(Nat.le_of_ble_eq_true rfl), (Nat.le_of_ble_eq_true rfl)⟩ (fun H locs hI => ?_)
  refine lv_if_eq (tgt := 36) hx hb dX7_outsideAt_12 (by decide) (fun c12 => ?_) (fun c12 => ?_)
  · have c12 := bi_0.mp c12
    refine lv_iconst (v := 0) hx hb dX7_outsideAt_36 (by decide) ?_
    refine lv_iadd hx hb dX7_outsideAt_37 ?_
    exact e_int hC hI (rI (by unfold outS; rw [if_neg c12])) (Nat.le_of_ble_eq_true rfl) (Nat.le_of_ble_eq_true rfl) dX7_outsideAt_38
  · have c12 := bi_1.mp c12
    refine lv_aload_n hx hb dX7_outsideAt_15 rfl (lv_at hl 0 rfl) ?_
    refine gf_X7_76 hC hI fM_o rfl dX7_outsideAt_16 ?_
    refine lv_bipush (v := 6) hx hb dX7_outsideAt_19 (by decide) ?_
    refine lv_iload_n hx hb dX7_outsideAt_21 rfl (lv_at hl 1 rfl) ?_
    refine lv_bipush (v := 14) hx hb dX7_outsideAt_22 (by decide) ?_
    refine lv_isub hx hb dX7_outsideAt_24 ?_
    refine va_mabs hx hb (hC.1.2.2.1.trans hl.1.symm) hC.1.2.2.2.1 (hts _ wd_ml_X7_79) (hts _ wd_st_yJ9_abs_0f7a4) (hts _ wd_in_RJ9) (hts _ wd_co_yJ9_abs_0f7a4) (Nat.le_of_ble_eq_true rfl) (Nat.le_of_ble_eq_true rfl) (Nat.le_of_ble_eq_true rfl) (Nat.le_of_ble_eq_true rfl) dX7_outsideAt_25 ?_
    refine lv_isub hx hb dX7_outsideAt_28 ?_
    refine lv_imul hx hb dX7_outsideAt_29 ?_
    refine lv_bipush (v := 6) hx hb dX7_outsideAt_30 (by decide) ?_
    refine lv_idiv hx hb dX7_outsideAt_32 (by decide) ?_
    refine lv_goto (tgt := 37) hx hb dX7_outsideAt_33 (by decide) ?_
    refine lv_iadd hx hb dX7_outsideAt_37 ?_
    exact e_int hC hI (rI (by unfold outS; rw [if_pos c12]; rfl)) (Nat.le_of_ble_eq_true rfl) (Nat.le_of_ble_eq_true rfl) dX7_outsideAt_38
set_option maxHeartbeats 4000000 in
set_option maxRecDepth 100000 in
theorem tX7_isAim (l : Launch) (g : Gg) (B0 : Nat) (ad : Ad) (f : Wd) (v : Int32) : MM l g B0 yX7_isAim (wsM yX7_isAim cX7_isAim 1 (some .boolean)) ({ frames := 1, cells := 0, slots := 0, locals := 22 } : Room) [.int v] ad (f) (dI (bi (-300 ≤ v ∧ v ≤ 150)) ad f) (noX) 0 0 := by
  refine MM.start (by decide) (Nat.le_of_ble_eq_true rfl) ?_
  intro hl9 p e s m below meth c ls hC hno hI hl0
  have hx := hC.1.1
  have hb := hC.1.2.1
  have hts := hC.1.2.2.2.2
  have hl : lv_has ls 1 [(0, .int v)] := hl0
  obtain ⟨H, hH⟩ : ∃ H, H = s.heap := ⟨_, rfl⟩
  obtain ⟨locs, hLo⟩ : ∃ L : List Loc, L = [] := ⟨_, rfl⟩
  rw [← hH, ← hLo] at hI ⊢
  clear hH hLo hl0
  refine lv_iload_n hx hb dX7_isAim_0 rfl (lv_at hl 0 rfl) ?_
  refine lv_sipush (v := (-300)) hx hb dX7_isAim_1 (by decide) ?_
  refine lv_sipush (v := 150) hx hb dX7_isAim_4 (by decide) ?_
  refine c_Si (rest := []) hl9 hC hI hl.1 (tX7_isIn l g B0 ad _ v (-300) 150) (cw_X7_66 hts rfl rfl ⟨(Nat.le_of_ble_eq_true rfl), (Nat.le_of_ble_eq_true rfl)⟩) rfl rfl (Nat.le_of_ble_eq_true rfl) dX7_isAim_7 ⟨(Nat.le_of_ble_eq_true rfl), (Nat.le_of_ble_eq_true rfl)⟩ (fun H locs hI => ?_)
  exact e_bool hC hI bi_nar ⟨rfl, rfl, rfl⟩ (Nat.le_of_ble_eq_true rfl) (Nat.le_of_ble_eq_true rfl) dX7_isAim_10
set_option maxHeartbeats 4000000 in
set_option maxRecDepth 100000 in
theorem tX7_lowest (l : Launch) (g : Gg) (B0 : Nat) (ad : Ad) (σ : Sg) (pd : Int64) (th : Int32) (h : Wd)  : MM l g B0 yX7_lowest (wsM yX7_lowest cX7_lowest 6 (some .int)) ({ frames := 1, cells := 0, slots := 0, locals := 21 } : Room) [.ref (ad 20 0)] ad (fM g ad σ pd th h) (dI (lowS σ) ad (fM g ad σ pd th h)) (noX) 0 0 := by
  refine MM.start (by decide) (Nat.le_of_ble_eq_true rfl) ?_
  intro hl9 p e s m below meth c ls hC hno hI hl0
  have hx := hC.1.1
  have hb := hC.1.2.1
  have hts := hC.1.2.2.2.2
  have hl : lv_has ls 6 [(0, .ref (ad 20 0))] := hl0
  obtain ⟨H, hH⟩ : ∃ H, H = s.heap := ⟨_, rfl⟩
  obtain ⟨locs, hLo⟩ : ∃ L : List Loc, L = [] := ⟨_, rfl⟩
  rw [← hH, ← hLo] at hI ⊢
  clear hH hLo hl0
  refine lv_aload_n hx hb dX7_lowest_0 rfl (lv_at hl 0 rfl) ?_
  refine gf_X7_13 hC hI fM_o rfl dX7_lowest_1 ?_
  refine lv_iconst (v := 0) hx hb dX7_lowest_4 (by decide) ?_
  refine r_iald hC hI fM_4 (j := 0) rfl (by decide) (by decide) dX7_lowest_5 ?_
  refine lv_istore_n (lv' := [(1, .int (lowAt σ 0)), (0, .ref (ad 20 0))]) hx hb dX7_lowest_6 rfl hl (by decide) rfl (fun ls hl => ?_)
  refine lv_aload_n hx hb dX7_lowest_7 rfl (lv_at hl 1 rfl) ?_
  refine gf_X7_13 hC hI fM_o rfl dX7_lowest_8 ?_
  refine lv_astore_n (lv' := [(2, .ref (ad 24 0)), (1, .int (lowAt σ 0)), (0, .ref (ad 20 0))]) hx hb dX7_lowest_11 rfl hl (by decide) rfl (fun ls hl => ?_)
  refine lv_aload_n hx hb dX7_lowest_12 rfl (lv_at hl 0 rfl) ?_
  refine r_alen hC hI fM_4 0 rfl (v := 24) rfl dX7_lowest_13 ?_
  refine lv_istore_n (lv' := [(3, .int 24), (2, .ref (ad 24 0)), (1, .int (lowAt σ 0)), (0, .ref (ad 20 0))]) hx hb dX7_lowest_14 rfl hl (by decide) rfl (fun ls hl => ?_)
  refine lv_iconst (v := 0) hx hb dX7_lowest_15 (by decide) ?_
  refine lv_istore (lv' := [(4, .int (nI 0)), (3, .int 24), (2, .ref (ad 24 0)), (1, .int (lowAt σ 0)), (0, .ref (ad 20 0))]) hx hb dX7_lowest_16 hl (by decide) rfl (fun ls hl => ?_)
  have L18 : ∀ (n : Nat) (k : Nat), k ≤ 24 → 25 ≤ k + n → ∀ (H : Heap) (locs : List Loc), WI g ad B0 (fM g ad σ pd th h) s H locs → ∀ (ls : Array Slot), lv_has ls 6 [(4, .int (nI k)), (3, .int 24), (2, .ref (ad 24 0)), (1, .int (lowAt σ k)), (0, .ref (ad 20 0))] → W p l e ({ frames := 1, cells := 0, slots := 0, locals := 21 } : Room) s m ([.ref (ad 20 0)] : List Value).toArray below meth c H locs 0 0 (vx_MQ below (QI g B0 (dI (lowS σ) ad (fM g ad σ pd th h))) (XI g B0 (noX)) ([.ref (ad 20 0)] : List Value).toArray s 0 0 (fun q => B0 ≤ q)) (F0 m 18 ls []) := by
    intro n
    induction n with
    | zero =>
      intro k hk hfu
      exact absurd hfu (by omega)
    | succ n ih =>
      intro k hk hfu H locs hI ls hl
      refine lv_iload hx hb dX7_lowest_18 (lv_at hl 0 rfl) ?_
      refine lv_iload_n hx hb dX7_lowest_20 rfl (lv_at hl 1 rfl) ?_
      refine lv_icmp_ge (tgt := 43) hx hb dX7_lowest_21 (by decide) (fun c21 => ?_) (fun c21 => ?_)
      · have hk2 : 24 ≤ k := ge_T rfl (by decide) (by omega) c21
        refine lv_iload_n hx hb dX7_lowest_43 rfl (lv_at hl 3 rfl) ?_
        exact e_int hC hI (rI (by rw [show k = 24 by omega]; rfl)) (Nat.le_of_ble_eq_true rfl) (Nat.le_of_ble_eq_true rfl) dX7_lowest_44
      · have hk2 : k < 24 := ge_F rfl (by decide) (by omega) c21
        refine lv_aload_n hx hb dX7_lowest_24 rfl (lv_at hl 2 rfl) ?_
        refine lv_iload hx hb dX7_lowest_25 (lv_at hl 0 rfl) ?_
        refine r_iald hC hI fM_4 (j := k) rfl (by omega) (by decide) dX7_lowest_27 ?_
        refine lv_istore (lv' := [(5, .int (σ 4 k)), (4, .int (nI k)), (3, .int 24), (2, .ref (ad 24 0)), (1, .int (lowAt σ k)), (0, .ref (ad 20 0))]) hx hb dX7_lowest_28 hl (by decide) rfl (fun ls hl => ?_)
        refine lv_iload_n hx hb dX7_lowest_30 rfl (lv_at hl 4 rfl) ?_
        refine lv_iload hx hb dX7_lowest_31 (lv_at hl 0 rfl) ?_
        refine va_mmin hx hb (hC.1.2.2.1.trans hl.1.symm) hC.1.2.2.2.1 (hts _ wd_ml_X7_94) (hts _ wd_st_yJ9_min_7cf53) (hts _ wd_in_RJ9) (hts _ wd_co_yJ9_min_7cf53) (Nat.le_of_ble_eq_true rfl) (Nat.le_of_ble_eq_true rfl) (Nat.le_of_ble_eq_true rfl) (Nat.le_of_ble_eq_true rfl) dX7_lowest_33 ?_
        refine lv_istore_n (lv' := [(1, .int (lowAt σ (k + 1))), (5, .int (σ 4 k)), (4, .int (nI k)), (3, .int 24), (2, .ref (ad 24 0)), (0, .ref (ad 20 0))]) hx hb dX7_lowest_36 rfl hl (by decide) rfl (fun ls hl => ?_)
        refine lv_iinc (v := nI (k + 1)) (lv' := [(4, .int (nI (k + 1))), (1, .int (lowAt σ (k + 1))), (5, .int (σ 4 k)), (3, .int 24), (2, .ref (ad 24 0)), (0, .ref (ad 20 0))]) hx hb dX7_lowest_37 hl (k := 2) rfl (nI_1 _) (by decide) rfl (fun ls hl => ?_)
        refine lv_goto (tgt := 18) hx hb dX7_lowest_40 (by decide) ?_
        exact ih (k + 1) (by omega) (by omega) _ _ hI ls (lv_sub hl [0, 3, 4, 1, 5] rfl)
  exact L18 25 0 (by omega) (by omega) _ _ hI ls (lv_sub hl [0, 1, 2, 3, 4] rfl)
set_option maxHeartbeats 4000000 in
set_option maxRecDepth 100000 in
theorem tX7_free (l : Launch) (g : Gg) (B0 : Nat) (ad : Ad) (σ : Sg) (pd : Int64) (th : Int32) (h : Wd) (r : Nat) (hok : OkP σ) (hr : r < 6) : MM l g B0 yX7_free (wsM yX7_free cX7_free 4 (some .int)) ({ frames := 0, cells := 0, slots := 0, locals := 0 } : Room) [.ref (ad 20 0), .int (nI r)] ad (fM g ad σ pd th h) (dI (freeS σ r) ad (fM g ad σ pd th h)) (noX) 0 0 := by
  refine MM.start (by decide) (Nat.le_of_ble_eq_true rfl) ?_
  intro hl9 p e s m below meth c ls hC hno hI hl0
  have hx := hC.1.1
  have hb := hC.1.2.1
  have hts := hC.1.2.2.2.2
  have hl : lv_has ls 4 [(0, .ref (ad 20 0)), (1, .int (nI r))] := hl0
  obtain ⟨H, hH⟩ : ∃ H, H = s.heap := ⟨_, rfl⟩
  obtain ⟨locs, hLo⟩ : ∃ L : List Loc, L = [] := ⟨_, rfl⟩
  rw [← hH, ← hLo] at hI ⊢
  clear hH hLo hl0
  obtain ⟨hn1, hn2, -⟩ := id hok
  refine lv_aload_n hx hb dX7_free_0 rfl (lv_at hl 0 rfl) ?_
  refine gf_X7_29 hC hI fM_o rfl dX7_free_1 ?_
  refine lv_iload_n hx hb dX7_free_4 rfl (lv_at hl 1 rfl) ?_
  refine r_iald hC hI fM_11 (j := r) rfl (by omega) (by decide) dX7_free_5 ?_
  refine lv_istore_n (lv' := [(2, .int (freeAt σ r 0)), (0, .ref (ad 20 0)), (1, .int (nI r))]) hx hb dX7_free_6 rfl hl (by decide) rfl (fun ls hl => ?_)
  refine lv_iconst (v := 0) hx hb dX7_free_7 (by decide) ?_
  refine lv_istore_n (lv' := [(3, .int (nI 0)), (2, .int (freeAt σ r 0)), (0, .ref (ad 20 0)), (1, .int (nI r))]) hx hb dX7_free_8 rfl hl (by decide) rfl (fun ls hl => ?_)
  have L9 : ∀ (n : Nat) (k : Nat), k ≤ nt σ → nt σ + 1 ≤ k + n → ∀ (H : Heap) (locs : List Loc), WI g ad B0 (fM g ad σ pd th h) s H locs → ∀ (ls : Array Slot), lv_has ls 4 [(3, .int (nI k)), (2, .int (freeAt σ r k)), (0, .ref (ad 20 0)), (1, .int (nI r))] → W p l e ({ frames := 0, cells := 0, slots := 0, locals := 0 } : Room) s m ([.ref (ad 20 0), .int (nI r)] : List Value).toArray below meth c H locs 0 0 (vx_MQ below (QI g B0 (dI (freeS σ r) ad (fM g ad σ pd th h))) (XI g B0 (noX)) ([.ref (ad 20 0), .int (nI r)] : List Value).toArray s 0 0 (fun q => B0 ≤ q)) (F0 m 9 ls []) := by
    intro n
    induction n with
    | zero =>
      intro k hk hfu
      exact absurd hfu (by omega)
    | succ n ih =>
      intro k hk hfu H locs hI ls hl
      refine lv_iload_n hx hb dX7_free_9 rfl (lv_at hl 0 rfl) ?_
      refine lv_aload_n hx hb dX7_free_10 rfl (lv_at hl 2 rfl) ?_
      refine gf_X7_73 hC hI fM_o rfl dX7_free_11 ?_
      refine lv_icmp_ge (tgt := 41) hx hb dX7_free_14 (by decide) (fun c14 => ?_) (fun c14 => ?_)
      · have hk2 : nt σ ≤ k := ge_T hn1 (by omega) (by omega) c14
        refine lv_iload_n hx hb dX7_free_41 rfl (lv_at hl 1 rfl) ?_
        exact e_int hC hI (rI (by rw [show k = nt σ by omega]; rfl)) (Nat.le_of_ble_eq_true rfl) (Nat.le_of_ble_eq_true rfl) dX7_free_42
      · have hk2 : k < nt σ := ge_F hn1 (by omega) (by omega) c14
        refine lv_iload_n hx hb dX7_free_17 rfl (lv_at hl 1 rfl) ?_
        refine lv_aload_n hx hb dX7_free_18 rfl (lv_at hl 2 rfl) ?_
        refine gf_X7_51 hC hI fM_o rfl dX7_free_19 ?_
        refine lv_iload_n hx hb dX7_free_22 rfl (lv_at hl 0 rfl) ?_
        refine r_iald hC hI fM_19 (j := k) rfl (by omega) (by decide) dX7_free_23 ?_
        refine lv_iload_n hx hb dX7_free_24 rfl (lv_at hl 3 rfl) ?_
        refine lv_icmp_ne (tgt := 32) hx hb dX7_free_25 (by decide) (fun c25 => ?_) (fun c25 => ?_)
        · refine lv_iconst (v := 0) hx hb dX7_free_32 (by decide) ?_
          refine lv_isub hx hb dX7_free_33 ?_
          rw [show freeAt σ r k - 0 = freeAt σ r (k + 1) from by show _ = _ - (if _ then _ else _); rw [if_neg c25]]
          refine lv_istore_n (lv' := [(2, .int (freeAt σ r (k + 1))), (3, .int (nI k)), (0, .ref (ad 20 0)), (1, .int (nI r))]) hx hb dX7_free_34 rfl hl (by decide) rfl (fun ls hl => ?_)
          refine lv_iinc (v := nI (k + 1)) (lv' := [(3, .int (nI (k + 1))), (2, .int (freeAt σ r (k + 1))), (0, .ref (ad 20 0)), (1, .int (nI r))]) hx hb dX7_free_35 hl (k := 1) rfl (nI_1 _) (by decide) rfl (fun ls hl => ?_)
          refine lv_goto (tgt := 9) hx hb dX7_free_38 (by decide) ?_
          exact ih (k + 1) (by omega) (by omega) _ _ hI ls (lv_sub hl [0, 1, 2, 3] rfl)
        · refine lv_iconst (v := 1) hx hb dX7_free_28 (by decide) ?_
          refine lv_goto (tgt := 33) hx hb dX7_free_29 (by decide) ?_
          refine lv_isub hx hb dX7_free_33 ?_
          rw [show freeAt σ r k - 1 = freeAt σ r (k + 1) from by show _ = _ - (if _ then _ else _); rw [if_pos c25]]
          refine lv_istore_n (lv' := [(2, .int (freeAt σ r (k + 1))), (3, .int (nI k)), (0, .ref (ad 20 0)), (1, .int (nI r))]) hx hb dX7_free_34 rfl hl (by decide) rfl (fun ls hl => ?_)
          refine lv_iinc (v := nI (k + 1)) (lv' := [(3, .int (nI (k + 1))), (2, .int (freeAt σ r (k + 1))), (0, .ref (ad 20 0)), (1, .int (nI r))]) hx hb dX7_free_35 hl (k := 1) rfl (nI_1 _) (by decide) rfl (fun ls hl => ?_)
          refine lv_goto (tgt := 9) hx hb dX7_free_38 (by decide) ?_
          exact ih (k + 1) (by omega) (by omega) _ _ hI ls (lv_sub hl [0, 1, 2, 3] rfl)
  exact L9 (nt σ + 1) 0 (by omega) (by omega) _ _ hI ls (lv_sub hl [0, 1, 2, 3] rfl)
