/-! THE MODEL: setOutside .. defrost. kd: the number of what is thrown, rs: the answer, st: the state then -/
abbrev rM (g : Gg) (ad : Ad) (h : Wd) (kd r : Int32) (σ' σ : Sg) (pd' pd : Int64) : Option Value → Ad → Wd → Prop := fun v a w => a = ad ∧ ((kd = 0 ∧ v = some (.int r) ∧ w = fM g ad σ' pd' 0 h) ∨ (kd ≠ 0 ∧ v = some (.int 0) ∧ w = fM g ad σ pd kd h))
theorem rM_ok {g : Gg} {ad : Ad} {h : Wd} {kd r v : Int32} {σ' σ : Sg} {pd' pd : Int64} {w : Wd} (hk : kd = 0) (hv : v = r) (hw : w = fM g ad σ' pd' 0 h) : rM g ad h kd r σ' σ pd' pd (some (.int v)) ad w := ⟨rfl, Or.inl ⟨hk, by rw [hv], hw⟩⟩
theorem rM_no {g : Gg} {ad : Ad} {h : Wd} {kd k r : Int32} {σ' σ : Sg} {pd' pd : Int64} (hk : kd = k) (h0 : k ≠ 0) : rM g ad h kd r σ' σ pd' pd (some (.int 0)) ad (fM g ad σ pd k h) := by
  subst hk
  exact ⟨rfl, Or.inr ⟨h0, rfl, rfl⟩⟩
theorem in_cnt {x v : Int32} {n : Nat} (hx : x = nI n) (hn : n < 2 ^ 31) : (0 ≤ v ∧ v ≤ x - 1) ↔ ∃ r : Nat, r < n ∧ v = nI r := by
  subst hx
  constructor
  · rintro ⟨h1, h2⟩
    obtain ⟨j, hj, rfl⟩ := nI_of (Int32.not_lt.mpr h1)
    cases n with
    | zero =>
      have h3 : (0 : Int32) ≤ nI 0 - 1 := Int32.le_trans h1 h2
      exact absurd h3 (by decide)
    | succ n =>
      rw [nI_pred] at h2
      exact ⟨j, Nat.lt_succ_of_le ((nI_leI hj (by omega)).mp h2), rfl⟩
  · rintro ⟨r, hr, rfl⟩
    refine ⟨nI_pos' (by omega), ?_⟩
    cases n with
    | zero => omega
    | succ n =>
      rw [nI_pred]
      exact nI_le (by omega) (by omega)
def hrS (σ : Sg) : Int32 := nI (cN (σ 1 0) % 24)
def OkT (σ : Sg) : Prop := σ 1 0 = nI (cN (σ 1 0)) ∧ cN (σ 1 0) ≤ 2000
theorem hrS_eq {σ : Sg} (h : OkT σ) : σ 1 0 - σ 1 0 / 24 * 24 = hrS σ := by
  unfold hrS
  rw [← pk_rem (a := cN (σ 1 0)) (d := 24) (by have := h.2; omega) (by decide) (by decide), ← h.1]
  rfl
def kdSO (b s : Int32) : Int32 := if (-300 ≤ b ∧ b ≤ 400) ∧ (0 ≤ s ∧ s ≤ 200) then 0 else 1
def stSO (σ : Sg) (b s : Int32) : Sg := ss (ss σ 2 b) 3 s
def rsSO (σ : Sg) (b s : Int32) : Int32 := outS (stSO σ b s) (hrS σ)
def kdOU (v : Int32) : Int32 := if 0 ≤ v ∧ v ≤ 23 then 0 else 1
def kdSP (f t p : Int32) : Int32 := if 0 ≤ f ∧ f ≤ t ∧ t < 24 ∧ (1 ≤ p ∧ p ≤ 100) then 0 else 1
def spF (σ : Sg) (F : Nat) (p : Int32) (k : Nat) : Nat → Int32 := fun j => if F ≤ j ∧ j < k then p else σ 4 j
def stSP (σ : Sg) (f t p : Int32) : Sg := su σ 4 (spF σ (cN f) p (cN t + 1))
theorem spF_0 (σ : Sg) (F : Nat) (p : Int32) : su σ 4 (spF σ F p F) = σ := by
  funext k j
  by_cases hk : k = 4
  · subst hk
    rw [su_s]
    exact if_neg (by omega)
  · rw [su_n _ _ hk]
theorem spF_1 (σ : Sg) {F k : Nat} (p : Int32) (h : F ≤ k) : s1 (su σ 4 (spF σ F p k)) 4 k p = su σ 4 (spF σ F p (k + 1)) := by
  funext q j
  by_cases hk : q = 4
  · subst hk
    show su (su σ 4 (spF σ F p k)) 4 (upd (su σ 4 (spF σ F p k) 4) k p) 4 j = _
    rw [su_s, su_s, su_s]
    by_cases hj : j = k
    · subst hj
      rw [upd_s]
      exact (if_pos ⟨h, Nat.lt_succ_self _⟩).symm
    · rw [upd_n _ _ hj]
      unfold spF
      by_cases hc : F ≤ j ∧ j < k
      · rw [if_pos hc, if_pos ⟨hc.1, by omega⟩]
      · rw [if_neg hc, if_neg (by omega)]
  · show su (su σ 4 (spF σ F p k)) 4 (upd (su σ 4 (spF σ F p k) 4) k p) q j = _
    rw [su_n _ _ hk, su_n _ _ hk, su_n _ _ hk]
def kdAP (σ : Sg) (lo hi life sm : Int32) : Int32 := if -300 ≤ lo ∧ lo ≤ hi ∧ hi ≤ 200 ∧ (10 ≤ life ∧ life ≤ 5000) ∧ (0 ≤ sm ∧ sm ≤ 3) then (if σ 5 0 = 12 then 2 else 0) else 1
def stAP (σ : Sg) (lo hi life sm : Int32) : Sg := ss (s1 (s1 (s1 (s1 σ 6 (np σ) lo) 7 (np σ) hi) 8 (np σ) life) 9 (np σ) sm) 5 (σ 5 0 + 1)
def kdAR (σ : Sg) (pl wa po aim : Int32) : Int32 := if (1 ≤ pl ∧ pl ≤ 20) ∧ (1 ≤ wa ∧ wa ≤ 20) ∧ (0 ≤ po ∧ po ≤ 200) ∧ (-300 ≤ aim ∧ aim ≤ 150) then (if σ 10 0 = 6 then 2 else 0) else 1
def stAR (σ : Sg) (pl wa po aim : Int32) : Sg := ss (s1 (s1 (s1 (s1 (s1 σ 11 (nr σ) pl) 12 (nr σ) wa) 13 (nr σ) po) 14 (nr σ) aim) 16 (6 * nr σ) 150) 10 (σ 10 0 + 1)
def kdSR (σ : Sg) (v aim : Int32) : Int32 := if 0 ≤ v ∧ v ≤ σ 10 0 - 1 then (if -300 ≤ aim ∧ aim ≤ 150 then 0 else 2) else 1
def stSR (σ : Sg) (v aim b : Int32) : Sg := s1 (s1 σ 14 (cN v) aim) 15 (cN v) b
def kdDF (σ : Sg) (v : Int32) : Int32 := if 0 ≤ v ∧ v ≤ σ 10 0 - 1 then (if σ 16 (6 * cN v + 2) = 2 then 2 else 0) else 1
def stDF (σ : Sg) (v : Int32) : Sg := s1 (s1 σ 16 (6 * cN v + 2) 2) 16 (6 * cN v + 3) 3
theorem add_sub1 (x : Int32) : x + 1 - 1 = x := by
  apply Int32.toBitVec_inj.mp
  simp

set_option maxHeartbeats 4000000 in
set_option maxRecDepth 100000 in
theorem tX7_setOutside (l : Launch) (g : Gg) (B0 : Nat) (ad : Ad) (σ : Sg) (pd : Int64) (th : Int32) (h : Wd) (hT : OkT σ) (b s9 : Int32) : MM l g B0 yX7_setOutside (wsM yX7_setOutside cX7_setOutside 3 (some .int)) ({ frames := 2, cells := 0, slots := 0, locals := 43 } : Room) [.ref (ad 20 0), .int b, .int s9] ad (fM g ad σ pd th h) (rM g ad h (kdSO b s9) (rsSO σ b s9) (stSO σ b s9) σ pd pd) (noX) 0 0 := by
  refine MM.start (by decide) (Nat.le_of_ble_eq_true rfl) ?_
  intro hl9 p e s m below meth c ls hC hno hI hl0
  have hx := hC.1.1
  have hb := hC.1.2.1
  have hts := hC.1.2.2.2.2
  have hl : lv_has ls 3 [(0, .ref (ad 20 0)), (1, .int b), (2, .int s9)] := hl0
  obtain ⟨H, hH⟩ : ∃ H, H = s.heap := ⟨_, rfl⟩
  obtain ⟨locs, hLo⟩ : ∃ L : List Loc, L = [] := ⟨_, rfl⟩
  rw [← hH, ← hLo] at hI ⊢
  clear hH hLo hl0
  refine lv_aload_n hx hb dX7_setOutside_0 rfl (lv_at hl 0 rfl) ?_
  refine lv_iconst (v := 0) hx hb dX7_setOutside_1 (by decide) ?_
  refine pf_X7_60 hC hI fM_o (Nat.le_of_ble_eq_true rfl) dX7_setOutside_2 (fun H locs hI => ?_)
  have hI := hI.cast fM_pth
  refine lv_iload_n hx hb dX7_setOutside_5 rfl (lv_at hl 1 rfl) ?_
  refine lv_sipush (v := (-300)) hx hb dX7_setOutside_6 (by decide) ?_
  refine lv_sipush (v := 400) hx hb dX7_setOutside_9 (by decide) ?_
  refine c_Si (rest := []) hl9 hC hI hl.1 (tX7_isIn l g B0 ad _ b (-300) 400) (cw_X7_66 hts rfl rfl ⟨(Nat.le_of_ble_eq_true rfl), (Nat.le_of_ble_eq_true rfl)⟩) rfl rfl (Nat.le_of_ble_eq_true rfl) dX7_setOutside_12 ⟨(Nat.le_of_ble_eq_true rfl), (Nat.le_of_ble_eq_true rfl)⟩ (fun H locs hI => ?_)
  refine lv_if_eq (tgt := 29) hx hb dX7_setOutside_15 (by decide) (fun c15 => ?_) (fun c15 => ?_)
  · have c15 := bi_0.mp c15
    refine lv_aload_n hx hb dX7_setOutside_29 rfl (lv_at hl 0 rfl) ?_
    refine lv_iconst (v := 1) hx hb dX7_setOutside_30 (by decide) ?_
    refine c_Vi (rest := []) hl9 hC hI hl.1 (tX7_no l g B0 ad σ pd 0 h 1) (cw_X7_85 hts rfl rfl ⟨(Nat.le_of_ble_eq_true rfl), (Nat.le_of_ble_eq_true rfl)⟩) fM_o rfl rfl rfl rfl (Nat.le_of_ble_eq_true rfl) dX7_setOutside_31 ⟨(Nat.le_of_ble_eq_true rfl), (Nat.le_of_ble_eq_true rfl)⟩ (fun H locs hI => ?_)
    exact e_int hC hI (rM_no (if_neg (fun z => c15 z.1)) (by decide)) (Nat.le_of_ble_eq_true rfl) (Nat.le_of_ble_eq_true rfl) dX7_setOutside_34
  · have c15 := bi_1.mp c15
    refine lv_iload_n hx hb dX7_setOutside_18 rfl (lv_at hl 2 rfl) ?_
    refine lv_iconst (v := 0) hx hb dX7_setOutside_19 (by decide) ?_
    refine lv_sipush (v := 200) hx hb dX7_setOutside_20 (by decide) ?_
    refine c_Si (rest := []) hl9 hC hI hl.1 (tX7_isIn l g B0 ad _ s9 0 200) (cw_X7_66 hts rfl rfl ⟨(Nat.le_of_ble_eq_true rfl), (Nat.le_of_ble_eq_true rfl)⟩) rfl rfl (Nat.le_of_ble_eq_true rfl) dX7_setOutside_23 ⟨(Nat.le_of_ble_eq_true rfl), (Nat.le_of_ble_eq_true rfl)⟩ (fun H locs hI => ?_)
    refine lv_if_ne (tgt := 35) hx hb dX7_setOutside_26 (by decide) (fun c26 => ?_) (fun c26 => ?_)
    · have c26 := bi_1.mp c26
      have hk := And.intro c15 c26
      refine lv_aload_n hx hb dX7_setOutside_35 rfl (lv_at hl 0 rfl) ?_
      refine lv_iload_n hx hb dX7_setOutside_36 rfl (lv_at hl 1 rfl) ?_
      refine pf_X7_7 hC hI fM_o (Nat.le_of_ble_eq_true rfl) dX7_setOutside_37 (fun H locs hI => ?_)
      have hI := hI.cast fM_p2
      refine lv_aload_n hx hb dX7_setOutside_40 rfl (lv_at hl 0 rfl) ?_
      refine lv_iload_n hx hb dX7_setOutside_41 rfl (lv_at hl 2 rfl) ?_
      refine pf_X7_76 hC hI fM_o (Nat.le_of_ble_eq_true rfl) dX7_setOutside_42 (fun H locs hI => ?_)
      have hI := hI.cast fM_p3
      refine lv_aload_n hx hb dX7_setOutside_45 rfl (lv_at hl 0 rfl) ?_
      refine lv_aload_n hx hb dX7_setOutside_46 rfl (lv_at hl 0 rfl) ?_
      refine gf_X7_88 hC hI fM_o rfl dX7_setOutside_47 ?_
      refine lv_bipush (v := 24) hx hb dX7_setOutside_50 (by decide) ?_
      refine lv_irem hx hb dX7_setOutside_52 (by decide) ?_
      rw [show (ss (ss σ 2 b) 3 s9) 1 0 = σ 1 0 from rfl, hrS_eq hT]
      refine c_Vi (rest := []) hl9 hC hI hl.1 (tX7_outsideAt l g B0 ad (ss (ss σ 2 b) 3 s9) pd 0 h (hrS σ)) (cw_X7_91 hts rfl rfl ⟨(Nat.le_of_ble_eq_true rfl), (Nat.le_of_ble_eq_true rfl)⟩) fM_o rfl rfl rfl rfl (Nat.le_of_ble_eq_true rfl) dX7_setOutside_53 ⟨(Nat.le_of_ble_eq_true rfl), (Nat.le_of_ble_eq_true rfl)⟩ (fun H locs hI => ?_)
      exact e_int hC hI (rM_ok (if_pos hk) rfl rfl) (Nat.le_of_ble_eq_true rfl) (Nat.le_of_ble_eq_true rfl) dX7_setOutside_56
    · have c26 := bi_0.mp c26
      refine lv_aload_n hx hb dX7_setOutside_29 rfl (lv_at hl 0 rfl) ?_
      refine lv_iconst (v := 1) hx hb dX7_setOutside_30 (by decide) ?_
      refine c_Vi (rest := []) hl9 hC hI hl.1 (tX7_no l g B0 ad σ pd 0 h 1) (cw_X7_85 hts rfl rfl ⟨(Nat.le_of_ble_eq_true rfl), (Nat.le_of_ble_eq_true rfl)⟩) fM_o rfl rfl rfl rfl (Nat.le_of_ble_eq_true rfl) dX7_setOutside_31 ⟨(Nat.le_of_ble_eq_true rfl), (Nat.le_of_ble_eq_true rfl)⟩ (fun H locs hI => ?_)
      exact e_int hC hI (rM_no (if_neg (fun z => c26 z.2)) (by decide)) (Nat.le_of_ble_eq_true rfl) (Nat.le_of_ble_eq_true rfl) dX7_setOutside_34
set_option maxHeartbeats 4000000 in
set_option maxRecDepth 100000 in
theorem tX7_outside (l : Launch) (g : Gg) (B0 : Nat) (ad : Ad) (σ : Sg) (pd : Int64) (th : Int32) (h : Wd) (v : Int32) : MM l g B0 yX7_outside (wsM yX7_outside cX7_outside 2 (some .int)) ({ frames := 2, cells := 0, slots := 0, locals := 43 } : Room) [.ref (ad 20 0), .int v] ad (fM g ad σ pd th h) (rM g ad h (kdOU v) (outS σ v) σ σ pd pd) (noX) 0 0 := by
  refine MM.start (by decide) (Nat.le_of_ble_eq_true rfl) ?_
  intro hl9 p e s m below meth c ls hC hno hI hl0
  have hx := hC.1.1
  have hb := hC.1.2.1
  have hts := hC.1.2.2.2.2
  have hl : lv_has ls 2 [(0, .ref (ad 20 0)), (1, .int v)] := hl0
  obtain ⟨H, hH⟩ : ∃ H, H = s.heap := ⟨_, rfl⟩
  obtain ⟨locs, hLo⟩ : ∃ L : List Loc, L = [] := ⟨_, rfl⟩
  rw [← hH, ← hLo] at hI ⊢
  clear hH hLo hl0
  refine lv_aload_n hx hb dX7_outside_0 rfl (lv_at hl 0 rfl) ?_
  refine lv_iconst (v := 0) hx hb dX7_outside_1 (by decide) ?_
  refine pf_X7_60 hC hI fM_o (Nat.le_of_ble_eq_true rfl) dX7_outside_2 (fun H locs hI => ?_)
  have hI := hI.cast fM_pth
  refine lv_iload_n hx hb dX7_outside_5 rfl (lv_at hl 1 rfl) ?_
  refine lv_iconst (v := 0) hx hb dX7_outside_6 (by decide) ?_
  refine lv_bipush (v := 23) hx hb dX7_outside_7 (by decide) ?_
  refine c_Si (rest := []) hl9 hC hI hl.1 (tX7_isIn l g B0 ad _ v 0 23) (cw_X7_66 hts rfl rfl ⟨(Nat.le_of_ble_eq_true rfl), (Nat.le_of_ble_eq_true rfl)⟩) rfl rfl (Nat.le_of_ble_eq_true rfl) dX7_outside_9 ⟨(Nat.le_of_ble_eq_true rfl), (Nat.le_of_ble_eq_true rfl)⟩ (fun H locs hI => ?_)
  refine lv_if_eq (tgt := 23) hx hb dX7_outside_12 (by decide) (fun c12 => ?_) (fun c12 => ?_)
  · have c12 := bi_0.mp c12
    refine lv_aload_n hx hb dX7_outside_23 rfl (lv_at hl 0 rfl) ?_
    refine lv_iconst (v := 1) hx hb dX7_outside_24 (by decide) ?_
    refine c_Vi (rest := []) hl9 hC hI hl.1 (tX7_no l g B0 ad σ pd 0 h 1) (cw_X7_85 hts rfl rfl ⟨(Nat.le_of_ble_eq_true rfl), (Nat.le_of_ble_eq_true rfl)⟩) fM_o rfl rfl rfl rfl (Nat.le_of_ble_eq_true rfl) dX7_outside_25 ⟨(Nat.le_of_ble_eq_true rfl), (Nat.le_of_ble_eq_true rfl)⟩ (fun H locs hI => ?_)
    exact e_int hC hI (rM_no (if_neg c12) (by decide)) (Nat.le_of_ble_eq_true rfl) (Nat.le_of_ble_eq_true rfl) dX7_outside_28
  · have c12 := bi_1.mp c12
    refine lv_aload_n hx hb dX7_outside_15 rfl (lv_at hl 0 rfl) ?_
    refine lv_iload_n hx hb dX7_outside_16 rfl (lv_at hl 1 rfl) ?_
    refine c_Vi (rest := []) hl9 hC hI hl.1 (tX7_outsideAt l g B0 ad σ pd 0 h v) (cw_X7_91 hts rfl rfl ⟨(Nat.le_of_ble_eq_true rfl), (Nat.le_of_ble_eq_true rfl)⟩) fM_o rfl rfl rfl rfl (Nat.le_of_ble_eq_true rfl) dX7_outside_17 ⟨(Nat.le_of_ble_eq_true rfl), (Nat.le_of_ble_eq_true rfl)⟩ (fun H locs hI => ?_)
    refine lv_goto (tgt := 28) hx hb dX7_outside_20 (by decide) ?_
    exact e_int hC hI (rM_ok (if_pos c12) rfl rfl) (Nat.le_of_ble_eq_true rfl) (Nat.le_of_ble_eq_true rfl) dX7_outside_28
set_option maxHeartbeats 4000000 in
set_option maxRecDepth 100000 in
theorem tX7_setPrice (l : Launch) (g : Gg) (B0 : Nat) (ad : Ad) (σ : Sg) (pd : Int64) (th : Int32) (h : Wd) (a b c9 : Int32) : MM l g B0 yX7_setPrice (wsM yX7_setPrice cX7_setPrice 5 (some .int)) ({ frames := 2, cells := 0, slots := 0, locals := 46 } : Room) [.ref (ad 20 0), .int a, .int b, .int c9] ad (fM g ad σ pd th h) (rM g ad h (kdSP a b c9) (lowS (stSP σ a b c9)) (stSP σ a b c9) σ pd pd) (noX) 0 0 := by
  refine MM.start (by decide) (Nat.le_of_ble_eq_true rfl) ?_
  intro hl9 p e s m below meth c ls hC hno hI hl0
  have hx := hC.1.1
  have hb := hC.1.2.1
  have hts := hC.1.2.2.2.2
  have hl : lv_has ls 5 [(0, .ref (ad 20 0)), (1, .int a), (2, .int b), (3, .int c9)] := hl0
  obtain ⟨H, hH⟩ : ∃ H, H = s.heap := ⟨_, rfl⟩
  obtain ⟨locs, hLo⟩ : ∃ L : List Loc, L = [] := ⟨_, rfl⟩
  rw [← hH, ← hLo] at hI ⊢
  clear hH hLo hl0
  refine lv_aload_n hx hb dX7_setPrice_0 rfl (lv_at hl 0 rfl) ?_
  refine lv_iconst (v := 0) hx hb dX7_setPrice_1 (by decide) ?_
  refine pf_X7_60 hC hI fM_o (Nat.le_of_ble_eq_true rfl) dX7_setPrice_2 (fun H locs hI => ?_)
  have hI := hI.cast fM_pth
  refine lv_iload_n hx hb dX7_setPrice_5 rfl (lv_at hl 1 rfl) ?_
  refine lv_if_lt (tgt := 30) hx hb dX7_setPrice_6 (by decide) (fun c6 => ?_) (fun c6 => ?_)
  · refine lv_aload_n hx hb dX7_setPrice_30 rfl (lv_at hl 0 rfl) ?_
    refine lv_iconst (v := 1) hx hb dX7_setPrice_31 (by decide) ?_
    refine c_Vi (rest := []) hl9 hC hI hl.1 (tX7_no l g B0 ad σ pd 0 h 1) (cw_X7_85 hts rfl rfl ⟨(Nat.le_of_ble_eq_true rfl), (Nat.le_of_ble_eq_true rfl)⟩) fM_o rfl rfl rfl rfl (Nat.le_of_ble_eq_true rfl) dX7_setPrice_32 ⟨(Nat.le_of_ble_eq_true rfl), (Nat.le_of_ble_eq_true rfl)⟩ (fun H locs hI => ?_)
    exact e_int hC hI (rM_no (if_neg (fun z => absurd c6 (Int32.not_lt.mpr z.1))) (by decide)) (Nat.le_of_ble_eq_true rfl) (Nat.le_of_ble_eq_true rfl) dX7_setPrice_35
  · refine lv_iload_n hx hb dX7_setPrice_9 rfl (lv_at hl 1 rfl) ?_
    refine lv_iload_n hx hb dX7_setPrice_10 rfl (lv_at hl 2 rfl) ?_
    refine lv_icmp_gt (tgt := 30) hx hb dX7_setPrice_11 (by decide) (fun c11 => ?_) (fun c11 => ?_)
    · refine lv_aload_n hx hb dX7_setPrice_30 rfl (lv_at hl 0 rfl) ?_
      refine lv_iconst (v := 1) hx hb dX7_setPrice_31 (by decide) ?_
      refine c_Vi (rest := []) hl9 hC hI hl.1 (tX7_no l g B0 ad σ pd 0 h 1) (cw_X7_85 hts rfl rfl ⟨(Nat.le_of_ble_eq_true rfl), (Nat.le_of_ble_eq_true rfl)⟩) fM_o rfl rfl rfl rfl (Nat.le_of_ble_eq_true rfl) dX7_setPrice_32 ⟨(Nat.le_of_ble_eq_true rfl), (Nat.le_of_ble_eq_true rfl)⟩ (fun H locs hI => ?_)
      exact e_int hC hI (rM_no (if_neg (fun z => absurd c11 (Int32.not_lt.mpr z.2.1))) (by decide)) (Nat.le_of_ble_eq_true rfl) (Nat.le_of_ble_eq_true rfl) dX7_setPrice_35
    · refine lv_iload_n hx hb dX7_setPrice_14 rfl (lv_at hl 2 rfl) ?_
      refine lv_bipush (v := 24) hx hb dX7_setPrice_15 (by decide) ?_
      refine lv_icmp_ge (tgt := 30) hx hb dX7_setPrice_17 (by decide) (fun c17 => ?_) (fun c17 => ?_)
      · refine lv_aload_n hx hb dX7_setPrice_30 rfl (lv_at hl 0 rfl) ?_
        refine lv_iconst (v := 1) hx hb dX7_setPrice_31 (by decide) ?_
        refine c_Vi (rest := []) hl9 hC hI hl.1 (tX7_no l g B0 ad σ pd 0 h 1) (cw_X7_85 hts rfl rfl ⟨(Nat.le_of_ble_eq_true rfl), (Nat.le_of_ble_eq_true rfl)⟩) fM_o rfl rfl rfl rfl (Nat.le_of_ble_eq_true rfl) dX7_setPrice_32 ⟨(Nat.le_of_ble_eq_true rfl), (Nat.le_of_ble_eq_true rfl)⟩ (fun H locs hI => ?_)
        exact e_int hC hI (rM_no (if_neg (fun z => absurd z.2.2.1 (Int32.not_lt.mpr c17))) (by decide)) (Nat.le_of_ble_eq_true rfl) (Nat.le_of_ble_eq_true rfl) dX7_setPrice_35
      · refine lv_iload_n hx hb dX7_setPrice_20 rfl (lv_at hl 3 rfl) ?_
        refine lv_iconst (v := 1) hx hb dX7_setPrice_21 (by decide) ?_
        refine lv_bipush (v := 100) hx hb dX7_setPrice_22 (by decide) ?_
        refine c_Si (rest := []) hl9 hC hI hl.1 (tX7_isIn l g B0 ad _ c9 1 100) (cw_X7_66 hts rfl rfl ⟨(Nat.le_of_ble_eq_true rfl), (Nat.le_of_ble_eq_true rfl)⟩) rfl rfl (Nat.le_of_ble_eq_true rfl) dX7_setPrice_24 ⟨(Nat.le_of_ble_eq_true rfl), (Nat.le_of_ble_eq_true rfl)⟩ (fun H locs hI => ?_)
        refine lv_if_ne (tgt := 36) hx hb dX7_setPrice_27 (by decide) (fun c27 => ?_) (fun c27 => ?_)
        · have c27 := bi_1.mp c27
          have hk : kdSP a b c9 = 0 := if_pos ⟨Int32.not_lt.mp c6, Int32.not_lt.mp c11, Int32.not_le.mp c17, c27⟩
          obtain ⟨F, hF, rfl⟩ := nI_of c6
          obtain ⟨T, hT, rfl⟩ := nI_of (fun z => c6 (Int32.lt_of_le_of_lt (Int32.not_lt.mp c11) z))
          have hFT : F ≤ T := (nI_leI hF hT).mp (Int32.not_lt.mp c11)
          have hT24 : T < 24 := (nI_ltI hT (by decide)).mp (Int32.not_le.mp c17)
          have hI := hI.cast (congrArg (fun z => fM g ad z pd 0 h) (spF_0 σ F c9).symm)
          refine lv_iload_n hx hb dX7_setPrice_36 rfl (lv_at hl 1 rfl) ?_
          refine lv_istore (lv' := [(4, .int (nI F)), (0, .ref (ad 20 0)), (1, .int (nI F)), (2, .int (nI T)), (3, .int c9)]) hx hb dX7_setPrice_37 hl (by decide) rfl (fun ls hl => ?_)
          have L39 : ∀ (n : Nat) (k : Nat), F ≤ k → k ≤ T + 1 → T + 2 ≤ k + n → ∀ (H : Heap) (locs : List Loc), WI g ad B0 (fM g ad (su σ 4 (spF σ F c9 k)) pd 0 h) s H locs → ∀ (ls : Array Slot), lv_has ls 5 [(4, .int (nI k)), (0, .ref (ad 20 0)), (1, .int (nI F)), (2, .int (nI T)), (3, .int c9)] → W p l e ({ frames := 2, cells := 0, slots := 0, locals := 46 } : Room) s m ([.ref (ad 20 0), .int (nI F), .int (nI T), .int c9] : List Value).toArray below meth c H locs 0 0 (vx_MQ below (QI g B0 (rM g ad h (kdSP (nI F) (nI T) c9) (lowS (stSP σ (nI F) (nI T) c9)) (stSP σ (nI F) (nI T) c9) σ pd pd)) (XI g B0 (noX)) ([.ref (ad 20 0), .int (nI F), .int (nI T), .int c9] : List Value).toArray s 0 0 (fun q => B0 ≤ q)) (F0 m 39 ls []) := by
            intro n
            induction n with
            | zero =>
              intro k hk1 hk3 hfu
              exact absurd hfu (by omega)
            | succ n ih =>
              intro k hk1 hk3 hfu H locs hI ls hl
              refine lv_iload hx hb dX7_setPrice_39 (lv_at hl 0 rfl) ?_
              refine lv_iload_n hx hb dX7_setPrice_41 rfl (lv_at hl 3 rfl) ?_
              refine lv_icmp_gt (tgt := 59) hx hb dX7_setPrice_42 (by decide) (fun c42 => ?_) (fun c42 => ?_)
              · have hk2 : T < k := (nI_ltI (by omega) (by omega)).mp c42
                refine lv_aload_n hx hb dX7_setPrice_59 rfl (lv_at hl 1 rfl) ?_
                refine c_Vi (rest := []) hl9 hC hI hl.1 (tX7_lowest l g B0 ad (su σ 4 (spF σ F c9 k)) pd 0 h) (cw_X7_98 hts rfl rfl ⟨(Nat.le_of_ble_eq_true rfl), (Nat.le_of_ble_eq_true rfl)⟩) fM_o rfl rfl rfl rfl (Nat.le_of_ble_eq_true rfl) dX7_setPrice_60 ⟨(Nat.le_of_ble_eq_true rfl), (Nat.le_of_ble_eq_true rfl)⟩ (fun H locs hI => ?_)
                have hst : stSP σ (nI F) (nI T) c9 = su σ 4 (spF σ F c9 k) := by unfold stSP; rw [cN_nI hF, cN_nI hT, show T + 1 = k by omega]
                exact e_int hC hI (rM_ok hk (by rw [hst]) (by rw [hst])) (Nat.le_of_ble_eq_true rfl) (Nat.le_of_ble_eq_true rfl) dX7_setPrice_63
              · have hk2 : k ≤ T := (nI_leI (by omega) (by omega)).mp (Int32.not_lt.mp c42)
                refine lv_aload_n hx hb dX7_setPrice_45 rfl (lv_at hl 1 rfl) ?_
                refine gf_X7_13 hC hI fM_o rfl dX7_setPrice_46 ?_
                refine lv_iload hx hb dX7_setPrice_49 (lv_at hl 0 rfl) ?_
                refine lv_iload_n hx hb dX7_setPrice_51 rfl (lv_at hl 4 rfl) ?_
                refine r_iast hC hI fM_4 (j := k) rfl (by omega) (by decide) dX7_setPrice_52 (fun H locs hI => ?_)
                have hI := hI.cast (fM_a 4 rfl (by decide) (by decide) rfl)
                have hI := hI.cast (congrArg (fun z => fM g ad z pd 0 h) (spF_1 σ c9 hk1))
                refine lv_iinc (v := nI (k + 1)) (lv' := [(4, .int (nI (k + 1))), (0, .ref (ad 20 0)), (1, .int (nI F)), (2, .int (nI T)), (3, .int c9)]) hx hb dX7_setPrice_53 hl (k := 0) rfl (nI_1 _) (by decide) rfl (fun ls hl => ?_)
                refine lv_goto (tgt := 39) hx hb dX7_setPrice_56 (by decide) ?_
                exact ih (k + 1) (by omega) (by omega) (by omega) _ _ hI ls (lv_sub hl [0, 1, 2, 3, 4] rfl)
          exact L39 (T + 2) F (Nat.le_refl _) (by omega) (by omega) _ _ hI ls (lv_sub hl [0, 1, 2, 3, 4] rfl)
        · have c27 := bi_0.mp c27
          refine lv_aload_n hx hb dX7_setPrice_30 rfl (lv_at hl 0 rfl) ?_
          refine lv_iconst (v := 1) hx hb dX7_setPrice_31 (by decide) ?_
          refine c_Vi (rest := []) hl9 hC hI hl.1 (tX7_no l g B0 ad σ pd 0 h 1) (cw_X7_85 hts rfl rfl ⟨(Nat.le_of_ble_eq_true rfl), (Nat.le_of_ble_eq_true rfl)⟩) fM_o rfl rfl rfl rfl (Nat.le_of_ble_eq_true rfl) dX7_setPrice_32 ⟨(Nat.le_of_ble_eq_true rfl), (Nat.le_of_ble_eq_true rfl)⟩ (fun H locs hI => ?_)
          exact e_int hC hI (rM_no (if_neg (fun z => c27 z.2.2.2)) (by decide)) (Nat.le_of_ble_eq_true rfl) (Nat.le_of_ble_eq_true rfl) dX7_setPrice_35
set_option maxHeartbeats 4000000 in
set_option maxRecDepth 100000 in
theorem tX7_addProduct (l : Launch) (g : Gg) (B0 : Nat) (ad : Ad) (σ : Sg) (pd : Int64) (th : Int32) (h : Wd) (hok : OkP σ) (lo hi life sm : Int32) : MM l g B0 yX7_addProduct (wsM yX7_addProduct cX7_addProduct 5 (some .int)) ({ frames := 1, cells := 0, slots := 0, locals := 22 } : Room) [.ref (ad 20 0), .int lo, .int hi, .int life, .int sm] ad (fM g ad σ pd th h) (rM g ad h (kdAP σ lo hi life sm) (σ 5 0) (stAP σ lo hi life sm) σ pd pd) (noX) 0 0 := by
  refine MM.start (by decide) (Nat.le_of_ble_eq_true rfl) ?_
  intro hl9 p e s m below meth c ls hC hno hI hl0
  have hx := hC.1.1
  have hb := hC.1.2.1
  have hts := hC.1.2.2.2.2
  have hl : lv_has ls 5 [(0, .ref (ad 20 0)), (1, .int lo), (2, .int hi), (3, .int life), (4, .int sm)] := hl0
  obtain ⟨H, hH⟩ : ∃ H, H = s.heap := ⟨_, rfl⟩
  obtain ⟨locs, hLo⟩ : ∃ L : List Loc, L = [] := ⟨_, rfl⟩
  rw [← hH, ← hLo] at hI ⊢
  clear hH hLo hl0
  obtain ⟨-, -, -, -, h5, h12, -⟩ := id hok
  refine lv_aload_n hx hb dX7_addProduct_0 rfl (lv_at hl 0 rfl) ?_
  refine lv_iconst (v := 0) hx hb dX7_addProduct_1 (by decide) ?_
  refine pf_X7_60 hC hI fM_o (Nat.le_of_ble_eq_true rfl) dX7_addProduct_2 (fun H locs hI => ?_)
  have hI := hI.cast fM_pth
  refine lv_iload_n hx hb dX7_addProduct_5 rfl (lv_at hl 1 rfl) ?_
  refine lv_sipush (v := (-300)) hx hb dX7_addProduct_6 (by decide) ?_
  refine lv_icmp_lt (tgt := 46) hx hb dX7_addProduct_9 (by decide) (fun c9 => ?_) (fun c9 => ?_)
  · refine lv_aload_n hx hb dX7_addProduct_46 rfl (lv_at hl 0 rfl) ?_
    refine lv_iconst (v := 1) hx hb dX7_addProduct_47 (by decide) ?_
    refine c_Vi (rest := []) hl9 hC hI hl.1 (tX7_no l g B0 ad σ pd 0 h 1) (cw_X7_85 hts rfl rfl ⟨(Nat.le_of_ble_eq_true rfl), (Nat.le_of_ble_eq_true rfl)⟩) fM_o rfl rfl rfl rfl (Nat.le_of_ble_eq_true rfl) dX7_addProduct_48 ⟨(Nat.le_of_ble_eq_true rfl), (Nat.le_of_ble_eq_true rfl)⟩ (fun H locs hI => ?_)
    exact e_int hC hI (rM_no (if_neg (fun z => absurd c9 (Int32.not_lt.mpr z.1))) (by decide)) (Nat.le_of_ble_eq_true rfl) (Nat.le_of_ble_eq_true rfl) dX7_addProduct_51
  · refine lv_iload_n hx hb dX7_addProduct_12 rfl (lv_at hl 2 rfl) ?_
    refine lv_iload_n hx hb dX7_addProduct_13 rfl (lv_at hl 1 rfl) ?_
    refine lv_icmp_lt (tgt := 46) hx hb dX7_addProduct_14 (by decide) (fun c14 => ?_) (fun c14 => ?_)
    · refine lv_aload_n hx hb dX7_addProduct_46 rfl (lv_at hl 0 rfl) ?_
      refine lv_iconst (v := 1) hx hb dX7_addProduct_47 (by decide) ?_
      refine c_Vi (rest := []) hl9 hC hI hl.1 (tX7_no l g B0 ad σ pd 0 h 1) (cw_X7_85 hts rfl rfl ⟨(Nat.le_of_ble_eq_true rfl), (Nat.le_of_ble_eq_true rfl)⟩) fM_o rfl rfl rfl rfl (Nat.le_of_ble_eq_true rfl) dX7_addProduct_48 ⟨(Nat.le_of_ble_eq_true rfl), (Nat.le_of_ble_eq_true rfl)⟩ (fun H locs hI => ?_)
      exact e_int hC hI (rM_no (if_neg (fun z => absurd c14 (Int32.not_lt.mpr z.2.1))) (by decide)) (Nat.le_of_ble_eq_true rfl) (Nat.le_of_ble_eq_true rfl) dX7_addProduct_51
    · refine lv_iload_n hx hb dX7_addProduct_17 rfl (lv_at hl 2 rfl) ?_
      refine lv_sipush (v := 200) hx hb dX7_addProduct_18 (by decide) ?_
      refine lv_icmp_gt (tgt := 46) hx hb dX7_addProduct_21 (by decide) (fun c21 => ?_) (fun c21 => ?_)
      · refine lv_aload_n hx hb dX7_addProduct_46 rfl (lv_at hl 0 rfl) ?_
        refine lv_iconst (v := 1) hx hb dX7_addProduct_47 (by decide) ?_
        refine c_Vi (rest := []) hl9 hC hI hl.1 (tX7_no l g B0 ad σ pd 0 h 1) (cw_X7_85 hts rfl rfl ⟨(Nat.le_of_ble_eq_true rfl), (Nat.le_of_ble_eq_true rfl)⟩) fM_o rfl rfl rfl rfl (Nat.le_of_ble_eq_true rfl) dX7_addProduct_48 ⟨(Nat.le_of_ble_eq_true rfl), (Nat.le_of_ble_eq_true rfl)⟩ (fun H locs hI => ?_)
        exact e_int hC hI (rM_no (if_neg (fun z => absurd c21 (Int32.not_lt.mpr z.2.2.1))) (by decide)) (Nat.le_of_ble_eq_true rfl) (Nat.le_of_ble_eq_true rfl) dX7_addProduct_51
      · refine lv_iload_n hx hb dX7_addProduct_24 rfl (lv_at hl 3 rfl) ?_
        refine lv_bipush (v := 10) hx hb dX7_addProduct_25 (by decide) ?_
        refine lv_sipush (v := 5000) hx hb dX7_addProduct_27 (by decide) ?_
        refine c_Si (rest := []) hl9 hC hI hl.1 (tX7_isIn l g B0 ad _ life 10 5000) (cw_X7_66 hts rfl rfl ⟨(Nat.le_of_ble_eq_true rfl), (Nat.le_of_ble_eq_true rfl)⟩) rfl rfl (Nat.le_of_ble_eq_true rfl) dX7_addProduct_30 ⟨(Nat.le_of_ble_eq_true rfl), (Nat.le_of_ble_eq_true rfl)⟩ (fun H locs hI => ?_)
        refine lv_if_eq (tgt := 46) hx hb dX7_addProduct_33 (by decide) (fun c33 => ?_) (fun c33 => ?_)
        · have c33 := bi_0.mp c33
          refine lv_aload_n hx hb dX7_addProduct_46 rfl (lv_at hl 0 rfl) ?_
          refine lv_iconst (v := 1) hx hb dX7_addProduct_47 (by decide) ?_
          refine c_Vi (rest := []) hl9 hC hI hl.1 (tX7_no l g B0 ad σ pd 0 h 1) (cw_X7_85 hts rfl rfl ⟨(Nat.le_of_ble_eq_true rfl), (Nat.le_of_ble_eq_true rfl)⟩) fM_o rfl rfl rfl rfl (Nat.le_of_ble_eq_true rfl) dX7_addProduct_48 ⟨(Nat.le_of_ble_eq_true rfl), (Nat.le_of_ble_eq_true rfl)⟩ (fun H locs hI => ?_)
          exact e_int hC hI (rM_no (if_neg (fun z => c33 z.2.2.2.1)) (by decide)) (Nat.le_of_ble_eq_true rfl) (Nat.le_of_ble_eq_true rfl) dX7_addProduct_51
        · have c33 := bi_1.mp c33
          refine lv_iload hx hb dX7_addProduct_36 (lv_at hl 4 rfl) ?_
          refine lv_iconst (v := 0) hx hb dX7_addProduct_38 (by decide) ?_
          refine lv_iconst (v := 3) hx hb dX7_addProduct_39 (by decide) ?_
          refine c_Si (rest := []) hl9 hC hI hl.1 (tX7_isIn l g B0 ad _ sm 0 3) (cw_X7_66 hts rfl rfl ⟨(Nat.le_of_ble_eq_true rfl), (Nat.le_of_ble_eq_true rfl)⟩) rfl rfl (Nat.le_of_ble_eq_true rfl) dX7_addProduct_40 ⟨(Nat.le_of_ble_eq_true rfl), (Nat.le_of_ble_eq_true rfl)⟩ (fun H locs hI => ?_)
          refine lv_if_ne (tgt := 52) hx hb dX7_addProduct_43 (by decide) (fun c43 => ?_) (fun c43 => ?_)
          · have c43 := bi_1.mp c43
            have hk : kdAP σ lo hi life sm = (if σ 5 0 = 12 then 2 else 0) := if_pos ⟨Int32.not_lt.mp c9, Int32.not_lt.mp c14, Int32.not_lt.mp c21, c33, c43⟩
            refine lv_aload_n hx hb dX7_addProduct_52 rfl (lv_at hl 0 rfl) ?_
            refine gf_X7_63 hC hI fM_o rfl dX7_addProduct_53 ?_
            refine lv_bipush (v := 12) hx hb dX7_addProduct_56 (by decide) ?_
            refine lv_icmp_ne (tgt := 67) hx hb dX7_addProduct_58 (by decide) (fun c58 => ?_) (fun c58 => ?_)
            · have hnp : np σ < 12 := Nat.lt_of_le_of_ne h12 (fun z => c58 (by rw [h5, z]; rfl))
              have hk := hk.trans (if_neg c58)
              refine lv_aload_n hx hb dX7_addProduct_67 rfl (lv_at hl 0 rfl) ?_
              refine gf_X7_17 hC hI fM_o rfl dX7_addProduct_68 ?_
              refine lv_aload_n hx hb dX7_addProduct_71 rfl (lv_at hl 0 rfl) ?_
              refine gf_X7_63 hC hI fM_o rfl dX7_addProduct_72 ?_
              refine lv_iload_n hx hb dX7_addProduct_75 rfl (lv_at hl 1 rfl) ?_
              refine r_iast hC hI fM_6 (j := np σ) h5 hnp (by decide) dX7_addProduct_76 (fun H locs hI => ?_)
              have hI := hI.cast (fM_a 6 rfl (by decide) (by decide) rfl)
              refine lv_aload_n hx hb dX7_addProduct_77 rfl (lv_at hl 0 rfl) ?_
              refine gf_X7_20 hC hI fM_o rfl dX7_addProduct_78 ?_
              refine lv_aload_n hx hb dX7_addProduct_81 rfl (lv_at hl 0 rfl) ?_
              refine gf_X7_63 hC hI fM_o rfl dX7_addProduct_82 ?_
              refine lv_iload_n hx hb dX7_addProduct_85 rfl (lv_at hl 2 rfl) ?_
              refine r_iast hC hI fM_7 (j := np σ) h5 hnp (by decide) dX7_addProduct_86 (fun H locs hI => ?_)
              have hI := hI.cast (fM_a 7 rfl (by decide) (by decide) rfl)
              refine lv_aload_n hx hb dX7_addProduct_87 rfl (lv_at hl 0 rfl) ?_
              refine gf_X7_23 hC hI fM_o rfl dX7_addProduct_88 ?_
              refine lv_aload_n hx hb dX7_addProduct_91 rfl (lv_at hl 0 rfl) ?_
              refine gf_X7_63 hC hI fM_o rfl dX7_addProduct_92 ?_
              refine lv_iload_n hx hb dX7_addProduct_95 rfl (lv_at hl 3 rfl) ?_
              refine r_iast hC hI fM_8 (j := np σ) h5 hnp (by decide) dX7_addProduct_96 (fun H locs hI => ?_)
              have hI := hI.cast (fM_a 8 rfl (by decide) (by decide) rfl)
              refine lv_aload_n hx hb dX7_addProduct_97 rfl (lv_at hl 0 rfl) ?_
              refine gf_X7_26 hC hI fM_o rfl dX7_addProduct_98 ?_
              refine lv_aload_n hx hb dX7_addProduct_101 rfl (lv_at hl 0 rfl) ?_
              refine gf_X7_63 hC hI fM_o rfl dX7_addProduct_102 ?_
              refine lv_iload hx hb dX7_addProduct_105 (lv_at hl 4 rfl) ?_
              refine r_iast hC hI fM_9 (j := np σ) h5 hnp (by decide) dX7_addProduct_107 (fun H locs hI => ?_)
              have hI := hI.cast (fM_a 9 rfl (by decide) (by decide) rfl)
              refine lv_aload_n hx hb dX7_addProduct_108 rfl (lv_at hl 0 rfl) ?_
              refine lv_dup hx hb dX7_addProduct_109 rfl ?_
              refine gf_X7_63 hC hI fM_o rfl dX7_addProduct_110 ?_
              refine lv_iconst (v := 1) hx hb dX7_addProduct_113 (by decide) ?_
              refine lv_iadd hx hb dX7_addProduct_114 ?_
              refine pf_X7_63 hC hI fM_o (Nat.le_of_ble_eq_true rfl) dX7_addProduct_115 (fun H locs hI => ?_)
              have hI := hI.cast fM_p6
              refine lv_aload_n hx hb dX7_addProduct_118 rfl (lv_at hl 0 rfl) ?_
              refine gf_X7_63 hC hI fM_o rfl dX7_addProduct_119 ?_
              refine lv_iconst (v := 1) hx hb dX7_addProduct_122 (by decide) ?_
              refine lv_isub hx hb dX7_addProduct_123 ?_
              exact e_int hC hI (rM_ok hk (add_sub1 _) rfl) (Nat.le_of_ble_eq_true rfl) (Nat.le_of_ble_eq_true rfl) dX7_addProduct_124
            · refine lv_aload_n hx hb dX7_addProduct_61 rfl (lv_at hl 0 rfl) ?_
              refine lv_iconst (v := 2) hx hb dX7_addProduct_62 (by decide) ?_
              refine c_Vi (rest := []) hl9 hC hI hl.1 (tX7_no l g B0 ad σ pd 0 h 2) (cw_X7_85 hts rfl rfl ⟨(Nat.le_of_ble_eq_true rfl), (Nat.le_of_ble_eq_true rfl)⟩) fM_o rfl rfl rfl rfl (Nat.le_of_ble_eq_true rfl) dX7_addProduct_63 ⟨(Nat.le_of_ble_eq_true rfl), (Nat.le_of_ble_eq_true rfl)⟩ (fun H locs hI => ?_)
              exact e_int hC hI (rM_no (hk.trans (if_pos c58)) (by decide)) (Nat.le_of_ble_eq_true rfl) (Nat.le_of_ble_eq_true rfl) dX7_addProduct_66
          · have c43 := bi_0.mp c43
            refine lv_aload_n hx hb dX7_addProduct_46 rfl (lv_at hl 0 rfl) ?_
            refine lv_iconst (v := 1) hx hb dX7_addProduct_47 (by decide) ?_
            refine c_Vi (rest := []) hl9 hC hI hl.1 (tX7_no l g B0 ad σ pd 0 h 1) (cw_X7_85 hts rfl rfl ⟨(Nat.le_of_ble_eq_true rfl), (Nat.le_of_ble_eq_true rfl)⟩) fM_o rfl rfl rfl rfl (Nat.le_of_ble_eq_true rfl) dX7_addProduct_48 ⟨(Nat.le_of_ble_eq_true rfl), (Nat.le_of_ble_eq_true rfl)⟩ (fun H locs hI => ?_)
            exact e_int hC hI (rM_no (if_neg (fun z => c43 z.2.2.2.2)) (by decide)) (Nat.le_of_ble_eq_true rfl) (Nat.le_of_ble_eq_true rfl) dX7_addProduct_51
set_option maxHeartbeats 4000000 in
set_option maxRecDepth 100000 in
theorem tX7_addRoom (l : Launch) (g : Gg) (B0 : Nat) (ad : Ad) (σ : Sg) (pd : Int64) (th : Int32) (h : Wd) (hok : OkP σ) (pl wa po aim : Int32) : MM l g B0 yX7_addRoom (wsM yX7_addRoom cX7_addRoom 5 (some .int)) ({ frames := 2, cells := 0, slots := 0, locals := 42 } : Room) [.ref (ad 20 0), .int pl, .int wa, .int po, .int aim] ad (fM g ad σ pd th h) (rM g ad h (kdAR σ pl wa po aim) (σ 10 0) (stAR σ pl wa po aim) σ pd pd) (noX) 0 0 := by
  refine MM.start (by decide) (Nat.le_of_ble_eq_true rfl) ?_
  intro hl9 p e s m below meth c ls hC hno hI hl0
  have hx := hC.1.1
  have hb := hC.1.2.1
  have hts := hC.1.2.2.2.2
  have hl : lv_has ls 5 [(0, .ref (ad 20 0)), (1, .int pl), (2, .int wa), (3, .int po), (4, .int aim)] := hl0
  obtain ⟨H, hH⟩ : ∃ H, H = s.heap := ⟨_, rfl⟩
  obtain ⟨locs, hLo⟩ : ∃ L : List Loc, L = [] := ⟨_, rfl⟩
  rw [← hH, ← hLo] at hI ⊢
  clear hH hLo hl0
  obtain ⟨-, -, h5, h12, -⟩ := id hok
  refine lv_aload_n hx hb dX7_addRoom_0 rfl (lv_at hl 0 rfl) ?_
  refine lv_iconst (v := 0) hx hb dX7_addRoom_1 (by decide) ?_
  refine pf_X7_60 hC hI fM_o (Nat.le_of_ble_eq_true rfl) dX7_addRoom_2 (fun H locs hI => ?_)
  have hI := hI.cast fM_pth
  refine lv_iload_n hx hb dX7_addRoom_5 rfl (lv_at hl 1 rfl) ?_
  refine lv_iconst (v := 1) hx hb dX7_addRoom_6 (by decide) ?_
  refine lv_bipush (v := 20) hx hb dX7_addRoom_7 (by decide) ?_
  refine c_Si (rest := []) hl9 hC hI hl.1 (tX7_isIn l g B0 ad _ pl 1 20) (cw_X7_66 hts rfl rfl ⟨(Nat.le_of_ble_eq_true rfl), (Nat.le_of_ble_eq_true rfl)⟩) rfl rfl (Nat.le_of_ble_eq_true rfl) dX7_addRoom_9 ⟨(Nat.le_of_ble_eq_true rfl), (Nat.le_of_ble_eq_true rfl)⟩ (fun H locs hI => ?_)
  refine lv_if_eq (tgt := 44) hx hb dX7_addRoom_12 (by decide) (fun c12 => ?_) (fun c12 => ?_)
  · have c12 := bi_0.mp c12
    refine lv_aload_n hx hb dX7_addRoom_44 rfl (lv_at hl 0 rfl) ?_
    refine lv_iconst (v := 1) hx hb dX7_addRoom_45 (by decide) ?_
    refine c_Vi (rest := []) hl9 hC hI hl.1 (tX7_no l g B0 ad σ pd 0 h 1) (cw_X7_85 hts rfl rfl ⟨(Nat.le_of_ble_eq_true rfl), (Nat.le_of_ble_eq_true rfl)⟩) fM_o rfl rfl rfl rfl (Nat.le_of_ble_eq_true rfl) dX7_addRoom_46 ⟨(Nat.le_of_ble_eq_true rfl), (Nat.le_of_ble_eq_true rfl)⟩ (fun H locs hI => ?_)
    exact e_int hC hI (rM_no (if_neg (fun z => c12 z.1)) (by decide)) (Nat.le_of_ble_eq_true rfl) (Nat.le_of_ble_eq_true rfl) dX7_addRoom_49
  · have c12 := bi_1.mp c12
    refine lv_iload_n hx hb dX7_addRoom_15 rfl (lv_at hl 2 rfl) ?_
    refine lv_iconst (v := 1) hx hb dX7_addRoom_16 (by decide) ?_
    refine lv_bipush (v := 20) hx hb dX7_addRoom_17 (by decide) ?_
    refine c_Si (rest := []) hl9 hC hI hl.1 (tX7_isIn l g B0 ad _ wa 1 20) (cw_X7_66 hts rfl rfl ⟨(Nat.le_of_ble_eq_true rfl), (Nat.le_of_ble_eq_true rfl)⟩) rfl rfl (Nat.le_of_ble_eq_true rfl) dX7_addRoom_19 ⟨(Nat.le_of_ble_eq_true rfl), (Nat.le_of_ble_eq_true rfl)⟩ (fun H locs hI => ?_)
    refine lv_if_eq (tgt := 44) hx hb dX7_addRoom_22 (by decide) (fun c22 => ?_) (fun c22 => ?_)
    · have c22 := bi_0.mp c22
      refine lv_aload_n hx hb dX7_addRoom_44 rfl (lv_at hl 0 rfl) ?_
      refine lv_iconst (v := 1) hx hb dX7_addRoom_45 (by decide) ?_
      refine c_Vi (rest := []) hl9 hC hI hl.1 (tX7_no l g B0 ad σ pd 0 h 1) (cw_X7_85 hts rfl rfl ⟨(Nat.le_of_ble_eq_true rfl), (Nat.le_of_ble_eq_true rfl)⟩) fM_o rfl rfl rfl rfl (Nat.le_of_ble_eq_true rfl) dX7_addRoom_46 ⟨(Nat.le_of_ble_eq_true rfl), (Nat.le_of_ble_eq_true rfl)⟩ (fun H locs hI => ?_)
      exact e_int hC hI (rM_no (if_neg (fun z => c22 z.2.1)) (by decide)) (Nat.le_of_ble_eq_true rfl) (Nat.le_of_ble_eq_true rfl) dX7_addRoom_49
    · have c22 := bi_1.mp c22
      refine lv_iload_n hx hb dX7_addRoom_25 rfl (lv_at hl 3 rfl) ?_
      refine lv_iconst (v := 0) hx hb dX7_addRoom_26 (by decide) ?_
      refine lv_sipush (v := 200) hx hb dX7_addRoom_27 (by decide) ?_
      refine c_Si (rest := []) hl9 hC hI hl.1 (tX7_isIn l g B0 ad _ po 0 200) (cw_X7_66 hts rfl rfl ⟨(Nat.le_of_ble_eq_true rfl), (Nat.le_of_ble_eq_true rfl)⟩) rfl rfl (Nat.le_of_ble_eq_true rfl) dX7_addRoom_30 ⟨(Nat.le_of_ble_eq_true rfl), (Nat.le_of_ble_eq_true rfl)⟩ (fun H locs hI => ?_)
      refine lv_if_eq (tgt := 44) hx hb dX7_addRoom_33 (by decide) (fun c33 => ?_) (fun c33 => ?_)
      · have c33 := bi_0.mp c33
        refine lv_aload_n hx hb dX7_addRoom_44 rfl (lv_at hl 0 rfl) ?_
        refine lv_iconst (v := 1) hx hb dX7_addRoom_45 (by decide) ?_
        refine c_Vi (rest := []) hl9 hC hI hl.1 (tX7_no l g B0 ad σ pd 0 h 1) (cw_X7_85 hts rfl rfl ⟨(Nat.le_of_ble_eq_true rfl), (Nat.le_of_ble_eq_true rfl)⟩) fM_o rfl rfl rfl rfl (Nat.le_of_ble_eq_true rfl) dX7_addRoom_46 ⟨(Nat.le_of_ble_eq_true rfl), (Nat.le_of_ble_eq_true rfl)⟩ (fun H locs hI => ?_)
        exact e_int hC hI (rM_no (if_neg (fun z => c33 z.2.2.1)) (by decide)) (Nat.le_of_ble_eq_true rfl) (Nat.le_of_ble_eq_true rfl) dX7_addRoom_49
      · have c33 := bi_1.mp c33
        refine lv_iload hx hb dX7_addRoom_36 (lv_at hl 4 rfl) ?_
        refine c_Si (rest := []) hl9 hC hI hl.1 (tX7_isAim l g B0 ad _ aim) (cw_X7_102 hts rfl rfl ⟨(Nat.le_of_ble_eq_true rfl), (Nat.le_of_ble_eq_true rfl)⟩) rfl rfl (Nat.le_of_ble_eq_true rfl) dX7_addRoom_38 ⟨(Nat.le_of_ble_eq_true rfl), (Nat.le_of_ble_eq_true rfl)⟩ (fun H locs hI => ?_)
        refine lv_if_ne (tgt := 50) hx hb dX7_addRoom_41 (by decide) (fun c41 => ?_) (fun c41 => ?_)
        · have c41 := bi_1.mp c41
          have hk : kdAR σ pl wa po aim = (if σ 10 0 = 6 then 2 else 0) := if_pos ⟨c12, c22, c33, c41⟩
          refine lv_aload_n hx hb dX7_addRoom_50 rfl (lv_at hl 0 rfl) ?_
          refine gf_X7_70 hC hI fM_o rfl dX7_addRoom_51 ?_
          refine lv_bipush (v := 6) hx hb dX7_addRoom_54 (by decide) ?_
          refine lv_icmp_ne (tgt := 65) hx hb dX7_addRoom_56 (by decide) (fun c56 => ?_) (fun c56 => ?_)
          · have hnp : nr σ < 6 := Nat.lt_of_le_of_ne h12 (fun z => c56 (by rw [h5, z]; rfl))
            have hk := hk.trans (if_neg c56)
            refine lv_aload_n hx hb dX7_addRoom_65 rfl (lv_at hl 0 rfl) ?_
            refine gf_X7_29 hC hI fM_o rfl dX7_addRoom_66 ?_
            refine lv_aload_n hx hb dX7_addRoom_69 rfl (lv_at hl 0 rfl) ?_
            refine gf_X7_70 hC hI fM_o rfl dX7_addRoom_70 ?_
            refine lv_iload_n hx hb dX7_addRoom_73 rfl (lv_at hl 1 rfl) ?_
            refine r_iast hC hI fM_11 (j := nr σ) h5 hnp (by decide) dX7_addRoom_74 (fun H locs hI => ?_)
            have hI := hI.cast (fM_a 11 rfl (by decide) (by decide) rfl)
            refine lv_aload_n hx hb dX7_addRoom_75 rfl (lv_at hl 0 rfl) ?_
            refine gf_X7_32 hC hI fM_o rfl dX7_addRoom_76 ?_
            refine lv_aload_n hx hb dX7_addRoom_79 rfl (lv_at hl 0 rfl) ?_
            refine gf_X7_70 hC hI fM_o rfl dX7_addRoom_80 ?_
            refine lv_iload_n hx hb dX7_addRoom_83 rfl (lv_at hl 2 rfl) ?_
            refine r_iast hC hI fM_12 (j := nr σ) h5 hnp (by decide) dX7_addRoom_84 (fun H locs hI => ?_)
            have hI := hI.cast (fM_a 12 rfl (by decide) (by decide) rfl)
            refine lv_aload_n hx hb dX7_addRoom_85 rfl (lv_at hl 0 rfl) ?_
            refine gf_X7_35 hC hI fM_o rfl dX7_addRoom_86 ?_
            refine lv_aload_n hx hb dX7_addRoom_89 rfl (lv_at hl 0 rfl) ?_
            refine gf_X7_70 hC hI fM_o rfl dX7_addRoom_90 ?_
            refine lv_iload_n hx hb dX7_addRoom_93 rfl (lv_at hl 3 rfl) ?_
            refine r_iast hC hI fM_13 (j := nr σ) h5 hnp (by decide) dX7_addRoom_94 (fun H locs hI => ?_)
            have hI := hI.cast (fM_a 13 rfl (by decide) (by decide) rfl)
            refine lv_aload_n hx hb dX7_addRoom_95 rfl (lv_at hl 0 rfl) ?_
            refine gf_X7_38 hC hI fM_o rfl dX7_addRoom_96 ?_
            refine lv_aload_n hx hb dX7_addRoom_99 rfl (lv_at hl 0 rfl) ?_
            refine gf_X7_70 hC hI fM_o rfl dX7_addRoom_100 ?_
            refine lv_iload hx hb dX7_addRoom_103 (lv_at hl 4 rfl) ?_
            refine r_iast hC hI fM_14 (j := nr σ) h5 hnp (by decide) dX7_addRoom_105 (fun H locs hI => ?_)
            have hI := hI.cast (fM_a 14 rfl (by decide) (by decide) rfl)
            refine lv_aload_n hx hb dX7_addRoom_106 rfl (lv_at hl 0 rfl) ?_
            refine gf_X7_45 hC hI fM_o rfl dX7_addRoom_107 ?_
            refine lv_bipush (v := 6) hx hb dX7_addRoom_110 (by decide) ?_
            refine lv_aload_n hx hb dX7_addRoom_112 rfl (lv_at hl 0 rfl) ?_
            refine gf_X7_70 hC hI fM_o rfl dX7_addRoom_113 ?_
            refine lv_imul hx hb dX7_addRoom_116 ?_
            refine lv_iconst (v := 0) hx hb dX7_addRoom_117 (by decide) ?_
            refine lv_iadd hx hb dX7_addRoom_118 ?_
            refine lv_sipush (v := 150) hx hb dX7_addRoom_119 (by decide) ?_
            refine r_iast hC hI fM_16 (j := (6 * nr σ)) (show (6 : Int32) * σ 10 0 + 0 = nI (6 * nr σ) from by rw [h5, six_nI]; exact nI_add _ 0) (by omega) (by decide) dX7_addRoom_122 (fun H locs hI => ?_)
            have hI := hI.cast (fM_a 16 rfl (by decide) (by decide) rfl)
            refine lv_aload_n hx hb dX7_addRoom_123 rfl (lv_at hl 0 rfl) ?_
            refine lv_dup hx hb dX7_addRoom_124 rfl ?_
            refine gf_X7_70 hC hI fM_o rfl dX7_addRoom_125 ?_
            refine lv_iconst (v := 1) hx hb dX7_addRoom_128 (by decide) ?_
            refine lv_iadd hx hb dX7_addRoom_129 ?_
            refine pf_X7_70 hC hI fM_o (Nat.le_of_ble_eq_true rfl) dX7_addRoom_130 (fun H locs hI => ?_)
            have hI := hI.cast fM_p11
            refine lv_aload_n hx hb dX7_addRoom_133 rfl (lv_at hl 0 rfl) ?_
            refine gf_X7_70 hC hI fM_o rfl dX7_addRoom_134 ?_
            refine lv_iconst (v := 1) hx hb dX7_addRoom_137 (by decide) ?_
            refine lv_isub hx hb dX7_addRoom_138 ?_
            exact e_int hC hI (rM_ok hk (add_sub1 _) rfl) (Nat.le_of_ble_eq_true rfl) (Nat.le_of_ble_eq_true rfl) dX7_addRoom_139
          · refine lv_aload_n hx hb dX7_addRoom_59 rfl (lv_at hl 0 rfl) ?_
            refine lv_iconst (v := 2) hx hb dX7_addRoom_60 (by decide) ?_
            refine c_Vi (rest := []) hl9 hC hI hl.1 (tX7_no l g B0 ad σ pd 0 h 2) (cw_X7_85 hts rfl rfl ⟨(Nat.le_of_ble_eq_true rfl), (Nat.le_of_ble_eq_true rfl)⟩) fM_o rfl rfl rfl rfl (Nat.le_of_ble_eq_true rfl) dX7_addRoom_61 ⟨(Nat.le_of_ble_eq_true rfl), (Nat.le_of_ble_eq_true rfl)⟩ (fun H locs hI => ?_)
            exact e_int hC hI (rM_no (hk.trans (if_pos c56)) (by decide)) (Nat.le_of_ble_eq_true rfl) (Nat.le_of_ble_eq_true rfl) dX7_addRoom_64
        · have c41 := bi_0.mp c41
          refine lv_aload_n hx hb dX7_addRoom_44 rfl (lv_at hl 0 rfl) ?_
          refine lv_iconst (v := 1) hx hb dX7_addRoom_45 (by decide) ?_
          refine c_Vi (rest := []) hl9 hC hI hl.1 (tX7_no l g B0 ad σ pd 0 h 1) (cw_X7_85 hts rfl rfl ⟨(Nat.le_of_ble_eq_true rfl), (Nat.le_of_ble_eq_true rfl)⟩) fM_o rfl rfl rfl rfl (Nat.le_of_ble_eq_true rfl) dX7_addRoom_46 ⟨(Nat.le_of_ble_eq_true rfl), (Nat.le_of_ble_eq_true rfl)⟩ (fun H locs hI => ?_)
          exact e_int hC hI (rM_no (if_neg (fun z => c41 z.2.2.2)) (by decide)) (Nat.le_of_ble_eq_true rfl) (Nat.le_of_ble_eq_true rfl) dX7_addRoom_49
set_option maxHeartbeats 4000000 in
set_option maxRecDepth 100000 in
theorem tX7_setRoom (l : Launch) (g : Gg) (B0 : Nat) (ad : Ad) (σ : Sg) (pd : Int64) (th : Int32) (h : Wd) (hok : OkP σ) (v aim b : Int32) (hb9 : narrow .boolean (.int b) = .int b) : MM l g B0 yX7_setRoom (wsM yX7_setRoom cX7_setRoom 5 (some .int)) ({ frames := 2, cells := 0, slots := 0, locals := 43 } : Room) [.ref (ad 20 0), .int v, .int aim, .int b] ad (fM g ad σ pd th h) (rM g ad h (kdSR σ v aim) (σ 14 (cN v)) (stSR σ v aim b) σ pd pd) (noX) 0 0 := by
  refine MM.start (by decide) (Nat.le_of_ble_eq_true rfl) ?_
  intro hl9 p e s m below meth c ls hC hno hI hl0
  have hx := hC.1.1
  have hb := hC.1.2.1
  have hts := hC.1.2.2.2.2
  have hl : lv_has ls 5 [(0, .ref (ad 20 0)), (1, .int v), (2, .int aim), (3, .int b)] := hl0
  obtain ⟨H, hH⟩ : ∃ H, H = s.heap := ⟨_, rfl⟩
  obtain ⟨locs, hLo⟩ : ∃ L : List Loc, L = [] := ⟨_, rfl⟩
  rw [← hH, ← hLo] at hI ⊢
  clear hH hLo hl0
  obtain ⟨-, -, h10, h6, -⟩ := id hok
  refine lv_aload_n hx hb dX7_setRoom_0 rfl (lv_at hl 0 rfl) ?_
  refine lv_iconst (v := 0) hx hb dX7_setRoom_1 (by decide) ?_
  refine pf_X7_60 hC hI fM_o (Nat.le_of_ble_eq_true rfl) dX7_setRoom_2 (fun H locs hI => ?_)
  have hI := hI.cast fM_pth
  refine lv_aload_n hx hb dX7_setRoom_5 rfl (lv_at hl 0 rfl) ?_
  refine lv_iload_n hx hb dX7_setRoom_6 rfl (lv_at hl 1 rfl) ?_
  refine c_Vi (rest := []) hl9 hC hI hl.1 (tX7_isRoom l g B0 ad σ pd 0 h v) (cw_X7_106 hts rfl rfl ⟨(Nat.le_of_ble_eq_true rfl), (Nat.le_of_ble_eq_true rfl)⟩) fM_o rfl rfl rfl rfl (Nat.le_of_ble_eq_true rfl) dX7_setRoom_7 ⟨(Nat.le_of_ble_eq_true rfl), (Nat.le_of_ble_eq_true rfl)⟩ (fun H locs hI => ?_)
  refine lv_if_ne (tgt := 19) hx hb dX7_setRoom_10 (by decide) (fun c10 => ?_) (fun c10 => ?_)
  · have c10 := bi_1.mp c10
    have hk0 : kdSR σ v aim = (if -300 ≤ aim ∧ aim ≤ 150 then 0 else 2) := if_pos c10
    obtain ⟨r, hr, rfl⟩ := (in_cnt h10 (by omega)).mp c10
    have hcv : cN (nI r) = r := cN_nI (by omega)
    refine lv_iload_n hx hb dX7_setRoom_19 rfl (lv_at hl 2 rfl) ?_
    refine c_Si (rest := []) hl9 hC hI hl.1 (tX7_isAim l g B0 ad _ aim) (cw_X7_102 hts rfl rfl ⟨(Nat.le_of_ble_eq_true rfl), (Nat.le_of_ble_eq_true rfl)⟩) rfl rfl (Nat.le_of_ble_eq_true rfl) dX7_setRoom_20 ⟨(Nat.le_of_ble_eq_true rfl), (Nat.le_of_ble_eq_true rfl)⟩ (fun H locs hI => ?_)
    refine lv_if_ne (tgt := 32) hx hb dX7_setRoom_23 (by decide) (fun c23 => ?_) (fun c23 => ?_)
    · have c23 := bi_1.mp c23
      refine lv_aload_n hx hb dX7_setRoom_32 rfl (lv_at hl 0 rfl) ?_
      refine gf_X7_38 hC hI fM_o rfl dX7_setRoom_33 ?_
      refine lv_iload_n hx hb dX7_setRoom_36 rfl (lv_at hl 1 rfl) ?_
      refine r_iald hC hI fM_14 (j := r) rfl (by omega) (by decide) dX7_setRoom_37 ?_
      refine lv_istore (lv' := [(4, .int (σ 14 r)), (0, .ref (ad 20 0)), (1, .int (nI r)), (2, .int aim), (3, .int b)]) hx hb dX7_setRoom_38 hl (by decide) rfl (fun ls hl => ?_)
      refine lv_aload_n hx hb dX7_setRoom_40 rfl (lv_at hl 1 rfl) ?_
      refine gf_X7_38 hC hI fM_o rfl dX7_setRoom_41 ?_
      refine lv_iload_n hx hb dX7_setRoom_44 rfl (lv_at hl 2 rfl) ?_
      refine lv_iload_n hx hb dX7_setRoom_45 rfl (lv_at hl 3 rfl) ?_
      refine r_iast hC hI fM_14 (j := r) rfl (by omega) (by decide) dX7_setRoom_46 (fun H locs hI => ?_)
      have hI := hI.cast (fM_a 14 rfl (by decide) (by decide) rfl)
      refine lv_aload_n hx hb dX7_setRoom_47 rfl (lv_at hl 1 rfl) ?_
      refine gf_X7_41 hC hI fM_o rfl dX7_setRoom_48 ?_
      refine lv_iload_n hx hb dX7_setRoom_51 rfl (lv_at hl 2 rfl) ?_
      refine lv_iload_n hx hb dX7_setRoom_52 rfl (lv_at hl 4 rfl) ?_
      refine r_zast hC hI fM_15 (j := r) rfl (by omega) (by decide) hb9 dX7_setRoom_53 (fun H locs hI => ?_)
      have hI := hI.cast (fM_a 15 rfl (by decide) (by decide) rfl)
      refine lv_iload hx hb dX7_setRoom_54 (lv_at hl 0 rfl) ?_
      exact e_int hC hI (rM_ok (hk0.trans (if_pos c23)) (by rw [hcv]) (by unfold stSR; rw [hcv])) (Nat.le_of_ble_eq_true rfl) (Nat.le_of_ble_eq_true rfl) dX7_setRoom_56
    · have c23 := bi_0.mp c23
      refine lv_aload_n hx hb dX7_setRoom_26 rfl (lv_at hl 0 rfl) ?_
      refine lv_iconst (v := 2) hx hb dX7_setRoom_27 (by decide) ?_
      refine c_Vi (rest := []) hl9 hC hI hl.1 (tX7_no l g B0 ad σ pd 0 h 2) (cw_X7_85 hts rfl rfl ⟨(Nat.le_of_ble_eq_true rfl), (Nat.le_of_ble_eq_true rfl)⟩) fM_o rfl rfl rfl rfl (Nat.le_of_ble_eq_true rfl) dX7_setRoom_28 ⟨(Nat.le_of_ble_eq_true rfl), (Nat.le_of_ble_eq_true rfl)⟩ (fun H locs hI => ?_)
      exact e_int hC hI (rM_no (hk0.trans (if_neg c23)) (by decide)) (Nat.le_of_ble_eq_true rfl) (Nat.le_of_ble_eq_true rfl) dX7_setRoom_31
  · have c10 := bi_0.mp c10
    refine lv_aload_n hx hb dX7_setRoom_13 rfl (lv_at hl 0 rfl) ?_
    refine lv_iconst (v := 1) hx hb dX7_setRoom_14 (by decide) ?_
    refine c_Vi (rest := []) hl9 hC hI hl.1 (tX7_no l g B0 ad σ pd 0 h 1) (cw_X7_85 hts rfl rfl ⟨(Nat.le_of_ble_eq_true rfl), (Nat.le_of_ble_eq_true rfl)⟩) fM_o rfl rfl rfl rfl (Nat.le_of_ble_eq_true rfl) dX7_setRoom_15 ⟨(Nat.le_of_ble_eq_true rfl), (Nat.le_of_ble_eq_true rfl)⟩ (fun H locs hI => ?_)
    exact e_int hC hI (rM_no (if_neg c10) (by decide)) (Nat.le_of_ble_eq_true rfl) (Nat.le_of_ble_eq_true rfl) dX7_setRoom_18
set_option maxHeartbeats 4000000 in
set_option maxRecDepth 100000 in
theorem tX7_defrost (l : Launch) (g : Gg) (B0 : Nat) (ad : Ad) (σ : Sg) (pd : Int64) (th : Int32) (h : Wd) (hok : OkP σ) (v : Int32) : MM l g B0 yX7_defrost (wsM yX7_defrost cX7_defrost 2 (some .int)) ({ frames := 2, cells := 0, slots := 0, locals := 43 } : Room) [.ref (ad 20 0), .int v] ad (fM g ad σ pd th h) (rM g ad h (kdDF σ v) (σ 16 (6 * cN v + 1)) (stDF σ v) σ pd pd) (noX) 0 0 := by
  refine MM.start (by decide) (Nat.le_of_ble_eq_true rfl) ?_
  intro hl9 p e s m below meth c ls hC hno hI hl0
  have hx := hC.1.1
  have hb := hC.1.2.1
  have hts := hC.1.2.2.2.2
  have hl : lv_has ls 2 [(0, .ref (ad 20 0)), (1, .int v)] := hl0
  obtain ⟨H, hH⟩ : ∃ H, H = s.heap := ⟨_, rfl⟩
  obtain ⟨locs, hLo⟩ : ∃ L : List Loc, L = [] := ⟨_, rfl⟩
  rw [← hH, ← hLo] at hI ⊢
  clear hH hLo hl0
  obtain ⟨-, -, h10, h6, -⟩ := id hok
  refine lv_aload_n hx hb dX7_defrost_0 rfl (lv_at hl 0 rfl) ?_
  refine lv_iconst (v := 0) hx hb dX7_defrost_1 (by decide) ?_
  refine pf_X7_60 hC hI fM_o (Nat.le_of_ble_eq_true rfl) dX7_defrost_2 (fun H locs hI => ?_)
  have hI := hI.cast fM_pth
  refine lv_aload_n hx hb dX7_defrost_5 rfl (lv_at hl 0 rfl) ?_
  refine lv_iload_n hx hb dX7_defrost_6 rfl (lv_at hl 1 rfl) ?_
  refine c_Vi (rest := []) hl9 hC hI hl.1 (tX7_isRoom l g B0 ad σ pd 0 h v) (cw_X7_106 hts rfl rfl ⟨(Nat.le_of_ble_eq_true rfl), (Nat.le_of_ble_eq_true rfl)⟩) fM_o rfl rfl rfl rfl (Nat.le_of_ble_eq_true rfl) dX7_defrost_7 ⟨(Nat.le_of_ble_eq_true rfl), (Nat.le_of_ble_eq_true rfl)⟩ (fun H locs hI => ?_)
  refine lv_if_ne (tgt := 19) hx hb dX7_defrost_10 (by decide) (fun c10 => ?_) (fun c10 => ?_)
  · have c10 := bi_1.mp c10
    have hk0 : kdDF σ v = (if σ 16 (6 * cN v + 2) = 2 then 2 else 0) := if_pos c10
    obtain ⟨r, hr, rfl⟩ := (in_cnt h10 (by omega)).mp c10
    have hcv : cN (nI r) = r := cN_nI (by omega)
    rw [hcv] at hk0
    refine lv_aload_n hx hb dX7_defrost_19 rfl (lv_at hl 0 rfl) ?_
    refine gf_X7_45 hC hI fM_o rfl dX7_defrost_20 ?_
    refine lv_bipush (v := 6) hx hb dX7_defrost_23 (by decide) ?_
    refine lv_iload_n hx hb dX7_defrost_25 rfl (lv_at hl 1 rfl) ?_
    refine lv_imul hx hb dX7_defrost_26 ?_
    refine lv_iconst (v := 2) hx hb dX7_defrost_27 (by decide) ?_
    refine lv_iadd hx hb dX7_defrost_28 ?_
    refine r_iald hC hI fM_16 (j := (6 * r + 2)) (by rw [six_nI]; exact nI_add _ 2) (by omega) (by decide) dX7_defrost_29 ?_
    refine lv_iconst (v := 2) hx hb dX7_defrost_30 (by decide) ?_
    refine lv_icmp_ne (tgt := 40) hx hb dX7_defrost_31 (by decide) (fun c31 => ?_) (fun c31 => ?_)
    · refine lv_aload_n hx hb dX7_defrost_40 rfl (lv_at hl 0 rfl) ?_
      refine gf_X7_45 hC hI fM_o rfl dX7_defrost_41 ?_
      refine lv_bipush (v := 6) hx hb dX7_defrost_44 (by decide) ?_
      refine lv_iload_n hx hb dX7_defrost_46 rfl (lv_at hl 1 rfl) ?_
      refine lv_imul hx hb dX7_defrost_47 ?_
      refine lv_iconst (v := 2) hx hb dX7_defrost_48 (by decide) ?_
      refine lv_iadd hx hb dX7_defrost_49 ?_
      refine lv_iconst (v := 2) hx hb dX7_defrost_50 (by decide) ?_
      refine r_iast hC hI fM_16 (j := (6 * r + 2)) (by rw [six_nI]; exact nI_add _ 2) (by omega) (by decide) dX7_defrost_51 (fun H locs hI => ?_)
      have hI := hI.cast (fM_a 16 rfl (by decide) (by decide) rfl)
      refine lv_aload_n hx hb dX7_defrost_52 rfl (lv_at hl 0 rfl) ?_
      refine gf_X7_45 hC hI fM_o rfl dX7_defrost_53 ?_
      refine lv_bipush (v := 6) hx hb dX7_defrost_56 (by decide) ?_
      refine lv_iload_n hx hb dX7_defrost_58 rfl (lv_at hl 1 rfl) ?_
      refine lv_imul hx hb dX7_defrost_59 ?_
      refine lv_iconst (v := 3) hx hb dX7_defrost_60 (by decide) ?_
      refine lv_iadd hx hb dX7_defrost_61 ?_
      refine lv_iconst (v := 3) hx hb dX7_defrost_62 (by decide) ?_
      refine r_iast hC hI fM_16 (j := (6 * r + 3)) (by rw [six_nI]; exact nI_add _ 3) (by omega) (by decide) dX7_defrost_63 (fun H locs hI => ?_)
      have hI := hI.cast (fM_a 16 rfl (by decide) (by decide) rfl)
      refine lv_aload_n hx hb dX7_defrost_64 rfl (lv_at hl 0 rfl) ?_
      refine gf_X7_45 hC hI fM_o rfl dX7_defrost_65 ?_
      refine lv_bipush (v := 6) hx hb dX7_defrost_68 (by decide) ?_
      refine lv_iload_n hx hb dX7_defrost_70 rfl (lv_at hl 1 rfl) ?_
      refine lv_imul hx hb dX7_defrost_71 ?_
      refine lv_iconst (v := 1) hx hb dX7_defrost_72 (by decide) ?_
      refine lv_iadd hx hb dX7_defrost_73 ?_
      refine r_iald hC hI fM_16 (j := (6 * r + 1)) (by rw [six_nI]; exact nI_add _ 1) (by omega) (by decide) dX7_defrost_74 ?_
      exact e_int hC hI (rM_ok (hk0.trans (if_neg c31)) (by rw [hcv]; show upd (upd _ _ _) _ _ _ = _; rw [upd_n _ _ (by omega), upd_n _ _ (by omega)]) (by unfold stDF; rw [hcv])) (Nat.le_of_ble_eq_true rfl) (Nat.le_of_ble_eq_true rfl) dX7_defrost_75
    · refine lv_aload_n hx hb dX7_defrost_34 rfl (lv_at hl 0 rfl) ?_
      refine lv_iconst (v := 2) hx hb dX7_defrost_35 (by decide) ?_
      refine c_Vi (rest := []) hl9 hC hI hl.1 (tX7_no l g B0 ad σ pd 0 h 2) (cw_X7_85 hts rfl rfl ⟨(Nat.le_of_ble_eq_true rfl), (Nat.le_of_ble_eq_true rfl)⟩) fM_o rfl rfl rfl rfl (Nat.le_of_ble_eq_true rfl) dX7_defrost_36 ⟨(Nat.le_of_ble_eq_true rfl), (Nat.le_of_ble_eq_true rfl)⟩ (fun H locs hI => ?_)
      exact e_int hC hI (rM_no (hk0.trans (if_pos c31)) (by decide)) (Nat.le_of_ble_eq_true rfl) (Nat.le_of_ble_eq_true rfl) dX7_defrost_39
  · have c10 := bi_0.mp c10
    refine lv_aload_n hx hb dX7_defrost_13 rfl (lv_at hl 0 rfl) ?_
    refine lv_iconst (v := 1) hx hb dX7_defrost_14 (by decide) ?_
    refine c_Vi (rest := []) hl9 hC hI hl.1 (tX7_no l g B0 ad σ pd 0 h 1) (cw_X7_85 hts rfl rfl ⟨(Nat.le_of_ble_eq_true rfl), (Nat.le_of_ble_eq_true rfl)⟩) fM_o rfl rfl rfl rfl (Nat.le_of_ble_eq_true rfl) dX7_defrost_15 ⟨(Nat.le_of_ble_eq_true rfl), (Nat.le_of_ble_eq_true rfl)⟩ (fun H locs hI => ?_)
    exact e_int hC hI (rM_no (if_neg c10) (by decide)) (Nat.le_of_ble_eq_true rfl) (Nat.le_of_ble_eq_true rfl) dX7_defrost_18
