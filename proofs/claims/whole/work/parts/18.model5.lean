/-! THE MODEL: an hour in a room, tick -/
theorem r16 {σ : Sg} {k j j' : Nat} {x : Int32} (h : j' ≠ j) : su σ k (upd (σ k) j x) k j' = σ k j' := by rw [su_s]; exact upd_n _ _ h
theorem smS_row (σ : Sg) (r hh : Nat) {k : Nat} (hk : k ≠ 16) : smS σ r hh k = σ k := by
  have e : ∀ (τ : Sg) (j : Nat) (x : Int32), s1 τ 16 j x k = τ k := fun τ j x => su_n _ _ hk
  unfold smS
  split
  · split
    · rw [e, e, e]
    · rw [e]
  · split
    · rw [e]
    · split
      · rw [e]
      · split
        · rw [e]
        · rfl
theorem OkP_congr {σ τ : Sg} (h : OkP σ) (e5 : τ 5 = σ 5) (e10 : τ 10 = σ 10) (e17 : τ 17 = σ 17) (e18 : τ 18 = σ 18) (e19 : τ 19 = σ 19) : OkP τ := by
  have n5 : np τ = np σ := by unfold np; rw [e5]
  have n10 : nr τ = nr σ := by unfold nr; rw [e10]
  have n17 : nt τ = nt σ := by unfold nt; rw [e17]
  obtain ⟨h1, h2, h3, h4, h5, h6, h7, h8⟩ := h
  unfold OkP
  rw [n5, n10, n17, e5, e10, e17, e18, e19]
  refine ⟨h1, h2, h3, h4, h5, h6, fun p hp => ?_, fun p hp => ?_⟩
  · have := h7 p hp
    unfold prd at this ⊢
    rw [e18]
    exact this
  · have := h8 p hp
    unfold rmo at this ⊢
    rw [e19]
    exact this
def hWarm (τ : Sg) (r : Nat) (t by0 : Int32) : Nat → Int32
  | 0 => by0
  | k + 1 => if τ 19 k = nI r then hWarm τ r t by0 k + (τ 20 k - t) / 40 else hWarm τ r t by0 k
def hBy0 (τ : Sg) (r hh : Nat) : Int32 := (outS τ (nI hh) - τ 16 (6 * r)) * τ 12 r / 200
def hBy1 (τ : Sg) (r hh : Nat) : Int32 := hWarm τ r (τ 16 (6 * r)) (hBy0 τ r hh) (nt τ)
def hBy2 (τ : Sg) (r hh : Nat) : Int32 := if τ 16 (6 * r + 2) = 2 then hBy1 τ r hh + 8 else hBy1 τ r hh
def hBy3 (τ : Sg) (r hh : Nat) : Int32 := if τ 16 (6 * r + 2) = 1 then hBy2 τ r hh - τ 13 r * (100 - τ 16 (6 * r + 1)) / 1000 else hBy2 τ r hh
def hPd (τ : Sg) (pd : Int64) (r hh : Nat) : Int64 := if τ 16 (6 * r + 2) = 1 then pd + (τ 13 r).toInt64 * (τ 4 hh).toInt64 else pd
def hOn (τ : Sg) (r : Nat) : Sg := if τ 16 (6 * r + 2) = 1 then s1 (s1 τ 16 (6 * r + 4) (τ 16 (6 * r + 4) + τ 13 r)) 16 (6 * r + 1) (mn 90 (τ 16 (6 * r + 1) + 1)) else τ
def hTm (τ : Sg) (r hh : Nat) : Sg := s1 (hOn τ r) 16 (6 * r) (τ 16 (6 * r) + hBy3 τ r hh)
def hWm (υ : Sg) (r : Nat) : Sg := if υ 14 r + 20 < υ 16 (6 * r) then s1 υ 16 (6 * r + 5) (υ 16 (6 * r + 5) + 1) else υ
def nTp (υ : Sg) (r p : Nat) : Int32 := υ 20 p + (υ 16 (6 * r) - υ 20 p) / 8
def hPt (υ : Sg) (r k : Nat) : Nat → Int32 := fun p => if p < k ∧ υ 19 p = nI r then nTp υ r p else υ 20 p
def hAg (υ : Sg) (r k : Nat) : Nat → Int32 := fun p => if p < k ∧ υ 19 p = nI r then υ 21 p + (1 + offS υ (prd υ p) (nTp υ r p) / 10) else υ 21 p
def hPal (υ : Sg) (r k : Nat) : Sg := su (su υ 20 (hPt υ r k)) 21 (hAg υ r k)
def hMid (υ : Sg) (r k : Nat) : Sg := su (su υ 20 (hPt υ r (k + 1))) 21 (hAg υ r k)
def hUp (σ : Sg) (r hh : Nat) : Sg := hWm (hTm (smS σ r hh) r hh) r
def hourS (σ : Sg) (r hh : Nat) : Sg := hPal (hUp σ r hh) r (nt (hUp σ r hh))
def hourP (σ : Sg) (pd : Int64) (r hh : Nat) : Int64 := hPd (smS σ r hh) pd r hh
theorem su_id (σ : Sg) (k : Nat) {fn : Nat → Int32} (h : ∀ j, fn j = σ k j) : su σ k fn = σ := by
  funext q j
  by_cases hq : q = k
  · subst hq
    rw [su_s, h]
  · rw [su_n _ _ hq]
theorem hPal_0 (υ : Sg) (r : Nat) : hPal υ r 0 = υ := by
  unfold hPal
  rw [su_id υ 20 (show ∀ j, hPt υ r 0 j = υ 20 j from fun j => if_neg (by omega))]
  exact su_id υ 21 (show ∀ j, hAg υ r 0 j = υ 21 j from fun j => if_neg (by omega))
theorem hPal_n {υ : Sg} {r k : Nat} (h : ¬ υ 19 k = nI r) : hPal υ r k = hPal υ r (k + 1) := by
  have e1 : hPt υ r k = hPt υ r (k + 1) := by
    funext p
    unfold hPt
    by_cases hc : p < k ∧ υ 19 p = nI r
    · rw [if_pos hc, if_pos ⟨by omega, hc.2⟩]
    · rw [if_neg hc, if_neg]
      rintro ⟨z1, z2⟩
      by_cases hp : p = k
      · subst hp; exact h z2
      · exact hc ⟨by omega, z2⟩
  have e2 : hAg υ r k = hAg υ r (k + 1) := by
    funext p
    unfold hAg
    by_cases hc : p < k ∧ υ 19 p = nI r
    · rw [if_pos hc, if_pos ⟨by omega, hc.2⟩]
    · rw [if_neg hc, if_neg]
      rintro ⟨z1, z2⟩
      by_cases hp : p = k
      · subst hp; exact h z2
      · exact hc ⟨by omega, z2⟩
  unfold hPal
  rw [e1, e2]
theorem hPt_k (υ : Sg) (r k : Nat) : hPt υ r k k = υ 20 k := if_neg (by omega)
theorem hAg_k (υ : Sg) (r k : Nat) : hAg υ r k k = υ 21 k := if_neg (by omega)
theorem hPal_a {υ : Sg} {r k : Nat} (h : υ 19 k = nI r) : su (hPal υ r k) 20 (upd (hPal υ r k 20) k (hPal υ r k 20 k + (hPal υ r k 16 (6 * r) - hPal υ r k 20 k) / 8)) = hMid υ r k := by
  have e20 : hPal υ r k 20 = hPt υ r k := rfl
  have e16 : hPal υ r k 16 = υ 16 := rfl
  rw [e20, e16, hPt_k]
  have e1 : upd (hPt υ r k) k (υ 20 k + (υ 16 (6 * r) - υ 20 k) / 8) = hPt υ r (k + 1) := by
    funext p
    by_cases hp : p = k
    · subst hp
      rw [upd_s]
      exact (if_pos ⟨Nat.lt_succ_self _, h⟩).symm
    · rw [upd_n _ _ hp]
      unfold hPt
      by_cases hc : p < k ∧ υ 19 p = nI r
      · rw [if_pos hc, if_pos ⟨by omega, hc.2⟩]
      · rw [if_neg hc, if_neg (fun z => hc ⟨by omega, z.2⟩)]
  rw [e1]
  funext q j
  unfold hMid hPal
  by_cases h21 : q = 21
  · subst h21
    rfl
  · by_cases h20 : q = 20
    · subst h20
      rfl
    · rw [su_n _ _ h20, su_n _ _ h21, su_n _ _ h20, su_n _ _ h21, su_n _ _ h20]
theorem hPal_b {υ : Sg} {r k : Nat} (h : υ 19 k = nI r) : su (hMid υ r k) 21 (upd (hMid υ r k 21) k (hMid υ r k 21 k + (1 + offS (hMid υ r k) (prd υ k) (hMid υ r k 20 k) / 10))) = hPal υ r (k + 1) := by
  have e21 : hMid υ r k 21 = hAg υ r k := rfl
  have e20 : hMid υ r k 20 k = nTp υ r k := if_pos ⟨Nat.lt_succ_self _, h⟩
  have eo : offS (hMid υ r k) (prd υ k) (nTp υ r k) = offS υ (prd υ k) (nTp υ r k) := rfl
  rw [e21, e20, eo, hAg_k]
  have e1 : upd (hAg υ r k) k (υ 21 k + (1 + offS υ (prd υ k) (nTp υ r k) / 10)) = hAg υ r (k + 1) := by
    funext p
    by_cases hp : p = k
    · subst hp
      rw [upd_s]
      exact (if_pos ⟨Nat.lt_succ_self _, h⟩).symm
    · rw [upd_n _ _ hp]
      unfold hAg
      by_cases hc : p < k ∧ υ 19 p = nI r
      · rw [if_pos hc, if_pos ⟨by omega, hc.2⟩]
      · rw [if_neg hc, if_neg (fun z => hc ⟨by omega, z.2⟩)]
  rw [e1]
  funext q j
  unfold hMid hPal
  by_cases h21 : q = 21
  · subst h21
    rw [su_s, su_s]
  · rw [su_n _ _ h21, su_n _ _ h21, su_n _ _ h21]
theorem hOn_row (τ : Sg) (r : Nat) {k : Nat} (hk : k ≠ 16) : hOn τ r k = τ k := by
  unfold hOn
  split
  · exact (su_n _ _ hk).trans (su_n _ _ hk)
  · rfl
theorem hWm_row (υ : Sg) (r : Nat) {k : Nat} (hk : k ≠ 16) : hWm υ r k = υ k := by
  unfold hWm
  split
  · exact su_n _ _ hk
  · rfl
theorem hUp_row (σ : Sg) (r hh : Nat) {k : Nat} (hk : k ≠ 16) : hUp σ r hh k = σ k := by
  unfold hUp
  rw [hWm_row _ _ hk]
  unfold hTm
  exact (su_n _ _ hk).trans ((hOn_row _ _ hk).trans (smS_row _ _ _ hk))
theorem hPal_row (υ : Sg) (r k : Nat) {q : Nat} (h20 : q ≠ 20) (h21 : q ≠ 21) : hPal υ r k q = υ q := (su_n _ _ h21).trans (su_n _ _ h20)
theorem hourS_row (σ : Sg) (r hh : Nat) {k : Nat} (hk : k ≠ 16) (h20 : k ≠ 20) (h21 : k ≠ 21) : hourS σ r hh k = σ k := (hPal_row _ _ _ h20 h21).trans (hUp_row _ _ _ hk)
theorem OkP_hUp {σ : Sg} (h : OkP σ) (r hh : Nat) : OkP (hUp σ r hh) := OkP_congr h (hUp_row _ _ _ (by decide)) (hUp_row _ _ _ (by decide)) (hUp_row _ _ _ (by decide)) (hUp_row _ _ _ (by decide)) (hUp_row _ _ _ (by decide))
theorem OkP_hour {σ : Sg} (h : OkP σ) (r hh : Nat) : OkP (hourS σ r hh) := OkP_congr h (hourS_row _ _ _ (by decide) (by decide) (by decide)) (hourS_row _ _ _ (by decide) (by decide) (by decide)) (hourS_row _ _ _ (by decide) (by decide) (by decide)) (hourS_row _ _ _ (by decide) (by decide) (by decide)) (hourS_row _ _ _ (by decide) (by decide) (by decide))
def roomsAt (x : Sg × Int64) (hh : Nat) : Nat → Sg × Int64
  | 0 => x
  | r + 1 => (hourS (roomsAt x hh r).1 r hh, hourP (roomsAt x hh r).1 (roomsAt x hh r).2 r hh)
theorem roomsAt_row (x : Sg × Int64) (hh : Nat) {k : Nat} (hk : k ≠ 16) (h20 : k ≠ 20) (h21 : k ≠ 21) : ∀ n, (roomsAt x hh n).1 k = x.1 k
  | 0 => rfl
  | n + 1 => (hourS_row _ _ _ hk h20 h21).trans (roomsAt_row x hh hk h20 h21 n)
theorem roomsAt_ok {x : Sg × Int64} (h : OkP x.1) (hh n : Nat) : OkP (roomsAt x hh n).1 := OkP_congr h (roomsAt_row _ _ (by decide) (by decide) (by decide) n) (roomsAt_row _ _ (by decide) (by decide) (by decide) n) (roomsAt_row _ _ (by decide) (by decide) (by decide) n) (roomsAt_row _ _ (by decide) (by decide) (by decide) n) (roomsAt_row _ _ (by decide) (by decide) (by decide) n)
def oneHr (x : Sg × Int64) : Sg × Int64 := (ss (roomsAt x (cN (x.1 1 0) % 24) (nr x.1)).1 1 (x.1 1 0 + 1), (roomsAt x (cN (x.1 1 0) % 24) (nr x.1)).2)
def tickAt (x : Sg × Int64) : Nat → Sg × Int64
  | 0 => x
  | n + 1 => oneHr (tickAt x n)
def kdTI (σ : Sg) (v : Int32) : Int32 := if (1 ≤ v ∧ v ≤ 200) ∧ σ 1 0 + v ≤ 2000 then 0 else 1
theorem OkP_1 {σ : Sg} (h : OkP σ) (v : Int32) : OkP (ss σ 1 v) := OkP_congr h rfl rfl rfl rfl rfl
theorem oneHr_ok {x : Sg × Int64} (h : OkP x.1) : OkP (oneHr x).1 := OkP_1 (roomsAt_ok h _ _) _
theorem tickAt_ok {x : Sg × Int64} (h : OkP x.1) : ∀ n, OkP (tickAt x n).1
  | 0 => h
  | n + 1 => oneHr_ok (tickAt_ok h n)
theorem tickAt_now {x : Sg × Int64} {t : Nat} (h : x.1 1 0 = nI t) : ∀ n, (tickAt x n).1 1 0 = nI (t + n)
  | 0 => h
  | n + 1 => by
    show (tickAt x n).1 1 0 + 1 = _
    rw [tickAt_now h n]
    exact nI_1 _

set_option maxHeartbeats 8000000 in
set_option maxRecDepth 100000 in
theorem tX7_hour (l : Launch) (g : Gg) (B0 : Nat) (ad : Ad) (σ : Sg) (pd : Int64) (th : Int32) (h : Wd) (hok : OkP σ) (r hh : Nat) (hr : r < 6) (hh24 : hh < 24) : MM l g B0 yX7_hour (wsM yX7_hour cX7_hour 7 none) ({ frames := 3, cells := 0, slots := 0, locals := 71 } : Room) [.ref (ad 20 0), .int (nI r), .int (nI hh)] ad (fM g ad σ pd th h) (dV ad (fM g ad (hourS σ r hh) (hourP σ pd r hh) th h)) (noX) 0 0 := by
  refine MM.start (by decide) (Nat.le_of_ble_eq_true rfl) ?_
  intro hl9 p e s m below meth c ls hC hno hI hl0
  have hx := hC.1.1
  have hb := hC.1.2.1
  have hts := hC.1.2.2.2.2
  have hl : lv_has ls 7 [(0, .ref (ad 20 0)), (1, .int (nI r)), (2, .int (nI hh))] := hl0
  obtain ⟨H, hH⟩ : ∃ H, H = s.heap := ⟨_, rfl⟩
  obtain ⟨locs, hLo⟩ : ∃ L : List Loc, L = [] := ⟨_, rfl⟩
  rw [← hH, ← hLo] at hI ⊢
  clear hH hLo hl0
  refine lv_bipush (v := 6) hx hb dX7_hour_0 (by decide) ?_
  refine lv_iload_n hx hb dX7_hour_2 rfl (lv_at hl 1 rfl) ?_
  refine lv_imul hx hb dX7_hour_3 ?_
  rw [six_nI]
  refine lv_istore_n (lv' := [(3, .int (nI (6 * r))), (0, .ref (ad 20 0)), (1, .int (nI r)), (2, .int (nI hh))]) hx hb dX7_hour_4 rfl hl (by decide) rfl (fun ls hl => ?_)
  refine lv_aload_n hx hb dX7_hour_5 rfl (lv_at hl 1 rfl) ?_
  refine lv_iload_n hx hb dX7_hour_6 rfl (lv_at hl 2 rfl) ?_
  refine lv_iload_n hx hb dX7_hour_7 rfl (lv_at hl 3 rfl) ?_
  refine c_Vv (rest := []) hl9 hC hI hl.1 (tX7_setMachine l g B0 ad σ pd th h r hh hr hh24) (cw_X7_150 hts rfl rfl ⟨(Nat.le_of_ble_eq_true rfl), (Nat.le_of_ble_eq_true rfl)⟩) fM_o rfl rfl rfl rfl (Nat.le_of_ble_eq_true rfl) dX7_hour_8 ⟨(Nat.le_of_ble_eq_true rfl), (Nat.le_of_ble_eq_true rfl)⟩ (fun H locs hI => ?_)
  obtain ⟨τ, hτ⟩ : ∃ t, t = smS σ r hh := ⟨_, rfl⟩
  rw [← hτ] at hI
  have hokτ : OkP τ := by rw [hτ]; exact OkP_congr hok (smS_row _ _ _ (by decide)) (smS_row _ _ _ (by decide)) (smS_row _ _ _ (by decide)) (smS_row _ _ _ (by decide)) (smS_row _ _ _ (by decide))
  obtain ⟨g17, g60, g10, g6, g5, g12, gpr, grm⟩ := id hokτ
  refine lv_aload_n hx hb dX7_hour_11 rfl (lv_at hl 1 rfl) ?_
  refine gf_X7_45 hC hI fM_o rfl dX7_hour_12 ?_
  refine lv_iload_n hx hb dX7_hour_15 rfl (lv_at hl 0 rfl) ?_
  refine lv_iconst (v := 0) hx hb dX7_hour_16 (by decide) ?_
  refine lv_iadd hx hb dX7_hour_17 ?_
  refine r_iald hC hI fM_16 (j := (6 * r)) (nI_add _ 0) (by omega) (by decide) dX7_hour_18 ?_
  refine lv_istore (lv' := [(4, .int (τ 16 (6 * r))), (3, .int (nI (6 * r))), (0, .ref (ad 20 0)), (1, .int (nI r)), (2, .int (nI hh))]) hx hb dX7_hour_19 hl (by decide) rfl (fun ls hl => ?_)
  refine lv_aload_n hx hb dX7_hour_21 rfl (lv_at hl 2 rfl) ?_
  refine lv_iload_n hx hb dX7_hour_22 rfl (lv_at hl 4 rfl) ?_
  refine c_Vi (rest := []) hl9 hC hI hl.1 (tX7_outsideAt l g B0 ad τ pd th h (nI hh)) (cw_X7_91 hts rfl rfl ⟨(Nat.le_of_ble_eq_true rfl), (Nat.le_of_ble_eq_true rfl)⟩) fM_o rfl rfl rfl rfl (Nat.le_of_ble_eq_true rfl) dX7_hour_23 ⟨(Nat.le_of_ble_eq_true rfl), (Nat.le_of_ble_eq_true rfl)⟩ (fun H locs hI => ?_)
  refine lv_iload hx hb dX7_hour_26 (lv_at hl 0 rfl) ?_
  refine lv_isub hx hb dX7_hour_28 ?_
  refine lv_aload_n hx hb dX7_hour_29 rfl (lv_at hl 2 rfl) ?_
  refine gf_X7_32 hC hI fM_o rfl dX7_hour_30 ?_
  refine lv_iload_n hx hb dX7_hour_33 rfl (lv_at hl 3 rfl) ?_
  refine r_iald hC hI fM_12 (j := r) rfl (by omega) (by decide) dX7_hour_34 ?_
  refine lv_imul hx hb dX7_hour_35 ?_
  refine lv_sipush (v := 200) hx hb dX7_hour_36 (by decide) ?_
  refine lv_idiv hx hb dX7_hour_39 (by decide) ?_
  refine lv_istore (lv' := [(5, .int (hWarm τ r (τ 16 (6 * r)) (hBy0 τ r hh) 0)), (4, .int (τ 16 (6 * r))), (3, .int (nI (6 * r))), (0, .ref (ad 20 0)), (1, .int (nI r)), (2, .int (nI hh))]) hx hb dX7_hour_40 hl (by decide) rfl (fun ls hl => ?_)
  refine lv_iconst (v := 0) hx hb dX7_hour_42 (by decide) ?_
  refine lv_istore (lv' := [(6, .int (nI 0)), (5, .int (hWarm τ r (τ 16 (6 * r)) (hBy0 τ r hh) 0)), (4, .int (τ 16 (6 * r))), (3, .int (nI (6 * r))), (0, .ref (ad 20 0)), (1, .int (nI r)), (2, .int (nI hh))]) hx hb dX7_hour_43 hl (by decide) rfl (fun ls hl => ?_)
  have L45 : ∀ (n : Nat) (k : Nat), k ≤ nt τ → nt τ + 1 ≤ k + n → ∀ (H : Heap) (locs : List Loc), WI g ad B0 (fM g ad τ pd th h) s H locs → ∀ (ls : Array Slot), lv_has ls 7 [(6, .int (nI k)), (5, .int (hWarm τ r (τ 16 (6 * r)) (hBy0 τ r hh) k)), (4, .int (τ 16 (6 * r))), (3, .int (nI (6 * r))), (0, .ref (ad 20 0)), (1, .int (nI r)), (2, .int (nI hh))] → W p l e ({ frames := 3, cells := 0, slots := 0, locals := 71 } : Room) s m ([.ref (ad 20 0), .int (nI r), .int (nI hh)] : List Value).toArray below meth c H locs 0 0 (vx_MQ below (QI g B0 (dV ad (fM g ad (hourS σ r hh) (hourP σ pd r hh) th h))) (XI g B0 (noX)) ([.ref (ad 20 0), .int (nI r), .int (nI hh)] : List Value).toArray s 0 0 (fun q => B0 ≤ q)) (F0 m 45 ls []) := by
    intro n
    induction n with
    | zero =>
      intro k hk9 hfu
      exact absurd hfu (by omega)
    | succ n ih45 =>
      intro k hk9 hfu H locs hI ls hl
      refine lv_iload hx hb dX7_hour_45 (lv_at hl 0 rfl) ?_
      refine lv_aload_n hx hb dX7_hour_47 rfl (lv_at hl 4 rfl) ?_
      refine gf_X7_73 hC hI fM_o rfl dX7_hour_48 ?_
      refine lv_icmp_ge (tgt := 89) hx hb dX7_hour_51 (by decide) (fun c51 => ?_) (fun c51 => ?_)
      · have hk2 : nt τ ≤ k := ge_T g17 (by omega) (by omega) c51
        have hl : lv_has ls 7 [(6, .int (nI k)), (5, .int (hBy1 τ r hh)), (4, .int (τ 16 (6 * r))), (3, .int (nI (6 * r))), (0, .ref (ad 20 0)), (1, .int (nI r)), (2, .int (nI hh))] := by rw [show hBy1 τ r hh = hWarm τ r (τ 16 (6 * r)) (hBy0 τ r hh) k from (show hBy1 τ r hh = hWarm τ r (τ 16 (6 * r)) (hBy0 τ r hh) k from by rw [show k = nt τ by omega]; rfl)]; exact hl
        have J252 : ∀ (H : Heap) (locs : List Loc), WI g ad B0 (fM g ad (hUp σ r hh) (hourP σ pd r hh) th h) s H locs → ∀ (ls : Array Slot), lv_has ls 7 [(3, .int (nI (6 * r))), (0, .ref (ad 20 0)), (1, .int (nI r)), (2, .int (nI hh))] → W p l e ({ frames := 3, cells := 0, slots := 0, locals := 71 } : Room) s m ([.ref (ad 20 0), .int (nI r), .int (nI hh)] : List Value).toArray below meth c H locs 0 0 (vx_MQ below (QI g B0 (dV ad (fM g ad (hourS σ r hh) (hourP σ pd r hh) th h))) (XI g B0 (noX)) ([.ref (ad 20 0), .int (nI r), .int (nI hh)] : List Value).toArray s 0 0 (fun q => B0 ≤ q)) (F0 m 252 ls []) := by
          intro  H locs hI ls hl
          obtain ⟨υ, hυ⟩ : ∃ t, t = hUp σ r hh := ⟨_, rfl⟩
          rw [← hυ] at hI
          have hokυ : OkP υ := by rw [hυ]; exact OkP_hUp hok r hh
          obtain ⟨f17, f60, f10, f6, f5, f12, fpr, frm⟩ := id hokυ
          have hI := hI.cast (congrArg (fun z => fM g ad z (hourP σ pd r hh) th h) (hPal_0 υ r).symm)
          refine lv_iconst (v := 0) hx hb dX7_hour_252 (by decide) ?_
          refine lv_istore (lv' := [(6, .int (nI 0)), (3, .int (nI (6 * r))), (0, .ref (ad 20 0)), (1, .int (nI r)), (2, .int (nI hh))]) hx hb dX7_hour_253 hl (by decide) rfl (fun ls hl => ?_)
          have L255 : ∀ (n : Nat) (k : Nat), k ≤ nt υ → nt υ + 1 ≤ k + n → ∀ (H : Heap) (locs : List Loc), WI g ad B0 (fM g ad (hPal υ r k) (hourP σ pd r hh) th h) s H locs → ∀ (ls : Array Slot), lv_has ls 7 [(6, .int (nI k)), (3, .int (nI (6 * r))), (0, .ref (ad 20 0)), (1, .int (nI r)), (2, .int (nI hh))] → W p l e ({ frames := 3, cells := 0, slots := 0, locals := 71 } : Room) s m ([.ref (ad 20 0), .int (nI r), .int (nI hh)] : List Value).toArray below meth c H locs 0 0 (vx_MQ below (QI g B0 (dV ad (fM g ad (hourS σ r hh) (hourP σ pd r hh) th h))) (XI g B0 (noX)) ([.ref (ad 20 0), .int (nI r), .int (nI hh)] : List Value).toArray s 0 0 (fun q => B0 ≤ q)) (F0 m 255 ls []) := by
            intro n
            induction n with
            | zero =>
              intro k hk9 hfu
              exact absurd hfu (by omega)
            | succ n ih255 =>
              intro k hk9 hfu H locs hI ls hl
              refine lv_iload hx hb dX7_hour_255 (lv_at hl 0 rfl) ?_
              refine lv_aload_n hx hb dX7_hour_257 rfl (lv_at hl 2 rfl) ?_
              refine gf_X7_73 hC hI fM_o rfl dX7_hour_258 ?_
              refine lv_icmp_ge (tgt := 346) hx hb dX7_hour_261 (by decide) (fun c261 => ?_) (fun c261 => ?_)
              · have hk2 : nt υ ≤ k := ge_T f17 (by omega) (by omega) c261
                exact e_void hC hI (rVw (by rw [show k = nt υ by omega, hυ]; rfl)) (Nat.le_of_ble_eq_true rfl) (Nat.le_of_ble_eq_true rfl) dX7_hour_346
              · have hk2 : k < nt υ := ge_F f17 (by omega) (by omega) c261
                obtain ⟨hp1, hp2⟩ := fpr k hk2
                refine lv_aload_n hx hb dX7_hour_264 rfl (lv_at hl 2 rfl) ?_
                refine gf_X7_51 hC hI fM_o rfl dX7_hour_265 ?_
                refine lv_iload hx hb dX7_hour_268 (lv_at hl 0 rfl) ?_
                refine r_iald hC hI fM_19 (j := k) rfl (by omega) (by decide) dX7_hour_270 ?_
                refine lv_iload_n hx hb dX7_hour_271 rfl (lv_at hl 3 rfl) ?_
                refine lv_icmp_eq (tgt := 278) hx hb dX7_hour_272 (by decide) (fun c272 => ?_) (fun c272 => ?_)
                · refine lv_aload_n hx hb dX7_hour_278 rfl (lv_at hl 2 rfl) ?_
                  refine gf_X7_54 hC hI fM_o rfl dX7_hour_279 ?_
                  refine lv_iload hx hb dX7_hour_282 (lv_at hl 0 rfl) ?_
                  refine lv_dup2_11 hx hb dX7_hour_284 rfl rfl ?_
                  refine r_iald hC hI fM_20 (j := k) rfl (by omega) (by decide) dX7_hour_285 ?_
                  refine lv_aload_n hx hb dX7_hour_286 rfl (lv_at hl 2 rfl) ?_
                  refine gf_X7_45 hC hI fM_o rfl dX7_hour_287 ?_
                  refine lv_iload_n hx hb dX7_hour_290 rfl (lv_at hl 1 rfl) ?_
                  refine lv_iconst (v := 0) hx hb dX7_hour_291 (by decide) ?_
                  refine lv_iadd hx hb dX7_hour_292 ?_
                  refine r_iald hC hI fM_16 (j := (6 * r)) (nI_add _ 0) (by omega) (by decide) dX7_hour_293 ?_
                  refine lv_aload_n hx hb dX7_hour_294 rfl (lv_at hl 2 rfl) ?_
                  refine gf_X7_54 hC hI fM_o rfl dX7_hour_295 ?_
                  refine lv_iload hx hb dX7_hour_298 (lv_at hl 0 rfl) ?_
                  refine r_iald hC hI fM_20 (j := k) rfl (by omega) (by decide) dX7_hour_300 ?_
                  refine lv_isub hx hb dX7_hour_301 ?_
                  refine lv_bipush (v := 8) hx hb dX7_hour_302 (by decide) ?_
                  refine lv_idiv hx hb dX7_hour_304 (by decide) ?_
                  refine lv_iadd hx hb dX7_hour_305 ?_
                  refine r_iast hC hI fM_20 (j := k) rfl (by omega) (by decide) dX7_hour_306 (fun H locs hI => ?_)
                  have hI := hI.cast (fM_a 20 rfl (by decide) (by decide) rfl)
                  have hI := hI.cast (congrArg (fun z => fM g ad z (hourP σ pd r hh) th h) (hPal_a c272))
                  refine lv_aload_n hx hb dX7_hour_307 rfl (lv_at hl 2 rfl) ?_
                  refine gf_X7_57 hC hI fM_o rfl dX7_hour_308 ?_
                  refine lv_iload hx hb dX7_hour_311 (lv_at hl 0 rfl) ?_
                  refine lv_dup2_11 hx hb dX7_hour_313 rfl rfl ?_
                  refine r_iald hC hI fM_21 (j := k) rfl (by omega) (by decide) dX7_hour_314 ?_
                  refine lv_iconst (v := 1) hx hb dX7_hour_315 (by decide) ?_
                  refine lv_aload_n hx hb dX7_hour_316 rfl (lv_at hl 2 rfl) ?_
                  refine lv_aload_n hx hb dX7_hour_317 rfl (lv_at hl 2 rfl) ?_
                  refine gf_X7_48 hC hI fM_o rfl dX7_hour_318 ?_
                  refine lv_iload hx hb dX7_hour_321 (lv_at hl 0 rfl) ?_
                  refine r_iald hC hI fM_18 (j := k) rfl (by omega) (by decide) dX7_hour_323 ?_
                  rw [show hMid υ r k 18 k = nI (prd υ k) from hp1]
                  refine lv_aload_n hx hb dX7_hour_324 rfl (lv_at hl 2 rfl) ?_
                  refine gf_X7_54 hC hI fM_o rfl dX7_hour_325 ?_
                  refine lv_iload hx hb dX7_hour_328 (lv_at hl 0 rfl) ?_
                  refine r_iald hC hI fM_20 (j := k) rfl (by omega) (by decide) dX7_hour_330 ?_
                  refine c_Vi (rest := [.int 1, .int ((hMid υ r k) 21 k), .int (nI k), .ref (ad 41 0)]) hl9 hC hI hl.1 (tX7_off l g B0 ad (hMid υ r k) (hourP σ pd r hh) th h (prd υ k) (by omega) ((hMid υ r k) 20 k)) (cw_X7_137 hts rfl rfl ⟨(Nat.le_of_ble_eq_true rfl), (Nat.le_of_ble_eq_true rfl)⟩) fM_o rfl rfl rfl rfl (Nat.le_of_ble_eq_true rfl) dX7_hour_331 ⟨(Nat.le_of_ble_eq_true rfl), (Nat.le_of_ble_eq_true rfl)⟩ (fun H locs hI => ?_)
                  refine lv_bipush (v := 10) hx hb dX7_hour_334 (by decide) ?_
                  refine lv_idiv hx hb dX7_hour_336 (by decide) ?_
                  refine lv_iadd hx hb dX7_hour_337 ?_
                  refine lv_iadd hx hb dX7_hour_338 ?_
                  refine r_iast hC hI fM_21 (j := k) rfl (by omega) (by decide) dX7_hour_339 (fun H locs hI => ?_)
                  have hI := hI.cast (fM_a 21 rfl (by decide) (by decide) rfl)
                  have hI := hI.cast (congrArg (fun z => fM g ad z (hourP σ pd r hh) th h) (hPal_b c272))
                  refine lv_iinc (v := nI (k + 1)) (lv' := [(6, .int (nI (k + 1))), (3, .int (nI (6 * r))), (0, .ref (ad 20 0)), (1, .int (nI r)), (2, .int (nI hh))]) hx hb dX7_hour_340 hl (k := 0) rfl (nI_1 _) (by decide) rfl (fun ls hl => ?_)
                  refine lv_goto (tgt := 255) hx hb dX7_hour_343 (by decide) ?_
                  exact ih255 (k + 1) (by omega) (by omega) _ _ hI ls (lv_sub hl [0, 1, 2, 3, 4] rfl)
                · have hI := hI.cast (congrArg (fun z => fM g ad z (hourP σ pd r hh) th h) (hPal_n c272))
                  refine lv_goto (tgt := 340) hx hb dX7_hour_275 (by decide) ?_
                  refine lv_iinc (v := nI (k + 1)) (lv' := [(6, .int (nI (k + 1))), (3, .int (nI (6 * r))), (0, .ref (ad 20 0)), (1, .int (nI r)), (2, .int (nI hh))]) hx hb dX7_hour_340 hl (k := 0) rfl (nI_1 _) (by decide) rfl (fun ls hl => ?_)
                  refine lv_goto (tgt := 255) hx hb dX7_hour_343 (by decide) ?_
                  exact ih255 (k + 1) (by omega) (by omega) _ _ hI ls (lv_sub hl [0, 1, 2, 3, 4] rfl)
          exact L255 (nt υ + 1) 0 (by omega) (by omega) _ _ hI ls (lv_sub hl [0, 1, 2, 3, 4] rfl)
        have J207 : ∀ (H : Heap) (locs : List Loc), WI g ad B0 (fM g ad (hOn τ r) (hPd τ pd r hh) th h) s H locs → ∀ (ls : Array Slot), lv_has ls 7 [(5, .int (hBy3 τ r hh)), (4, .int (τ 16 (6 * r))), (3, .int (nI (6 * r))), (0, .ref (ad 20 0)), (1, .int (nI r)), (2, .int (nI hh))] → W p l e ({ frames := 3, cells := 0, slots := 0, locals := 71 } : Room) s m ([.ref (ad 20 0), .int (nI r), .int (nI hh)] : List Value).toArray below meth c H locs 0 0 (vx_MQ below (QI g B0 (dV ad (fM g ad (hourS σ r hh) (hourP σ pd r hh) th h))) (XI g B0 (noX)) ([.ref (ad 20 0), .int (nI r), .int (nI hh)] : List Value).toArray s 0 0 (fun q => B0 ≤ q)) (F0 m 207 ls []) := by
          intro  H locs hI ls hl
          refine lv_aload_n hx hb dX7_hour_207 rfl (lv_at hl 3 rfl) ?_
          refine gf_X7_45 hC hI fM_o rfl dX7_hour_208 ?_
          refine lv_iload_n hx hb dX7_hour_211 rfl (lv_at hl 2 rfl) ?_
          refine lv_iconst (v := 0) hx hb dX7_hour_212 (by decide) ?_
          refine lv_iadd hx hb dX7_hour_213 ?_
          refine lv_iload hx hb dX7_hour_214 (lv_at hl 1 rfl) ?_
          refine lv_iload hx hb dX7_hour_216 (lv_at hl 0 rfl) ?_
          refine lv_iadd hx hb dX7_hour_218 ?_
          refine r_iast hC hI fM_16 (j := (6 * r)) (nI_add _ 0) (by omega) (by decide) dX7_hour_219 (fun H locs hI => ?_)
          have hI := hI.cast (fM_a 16 rfl (by decide) (by decide) rfl)
          have hI := hI.cast (show _ = fM g ad (hTm τ r hh) (hPd τ pd r hh) th h from rfl)
          refine lv_aload_n hx hb dX7_hour_220 rfl (lv_at hl 3 rfl) ?_
          refine gf_X7_45 hC hI fM_o rfl dX7_hour_221 ?_
          refine lv_iload_n hx hb dX7_hour_224 rfl (lv_at hl 2 rfl) ?_
          refine lv_iconst (v := 0) hx hb dX7_hour_225 (by decide) ?_
          refine lv_iadd hx hb dX7_hour_226 ?_
          refine r_iald hC hI fM_16 (j := (6 * r)) (nI_add _ 0) (by omega) (by decide) dX7_hour_227 ?_
          refine lv_aload_n hx hb dX7_hour_228 rfl (lv_at hl 3 rfl) ?_
          refine gf_X7_38 hC hI fM_o rfl dX7_hour_229 ?_
          refine lv_iload_n hx hb dX7_hour_232 rfl (lv_at hl 4 rfl) ?_
          refine r_iald hC hI fM_14 (j := r) rfl (by omega) (by decide) dX7_hour_233 ?_
          refine lv_bipush (v := 20) hx hb dX7_hour_234 (by decide) ?_
          refine lv_iadd hx hb dX7_hour_236 ?_
          refine lv_icmp_le (tgt := 252) hx hb dX7_hour_237 (by decide) (fun c237 => ?_) (fun c237 => ?_)
          · have hI := hI.cast (show _ = fM g ad (hUp σ r hh) (hourP σ pd r hh) th h from by unfold hUp hourP; rw [← hτ]; unfold hWm; rw [if_neg (Int32.not_lt.mpr c237)])
            exact J252  _ _ hI ls (lv_sub hl [2, 3, 4, 5] rfl)
          · refine lv_aload_n hx hb dX7_hour_240 rfl (lv_at hl 3 rfl) ?_
            refine gf_X7_45 hC hI fM_o rfl dX7_hour_241 ?_
            refine lv_iload_n hx hb dX7_hour_244 rfl (lv_at hl 2 rfl) ?_
            refine lv_iconst (v := 5) hx hb dX7_hour_245 (by decide) ?_
            refine lv_iadd hx hb dX7_hour_246 ?_
            refine lv_dup2_11 hx hb dX7_hour_247 rfl rfl ?_
            refine r_iald hC hI fM_16 (j := (6 * r + 5)) (nI_add _ 5) (by omega) (by decide) dX7_hour_248 ?_
            refine lv_iconst (v := 1) hx hb dX7_hour_249 (by decide) ?_
            refine lv_iadd hx hb dX7_hour_250 ?_
            refine r_iast hC hI fM_16 (j := (6 * r + 5)) (nI_add _ 5) (by omega) (by decide) dX7_hour_251 (fun H locs hI => ?_)
            have hI := hI.cast (fM_a 16 rfl (by decide) (by decide) rfl)
            have hI := hI.cast (show _ = fM g ad (hUp σ r hh) (hourP σ pd r hh) th h from by unfold hUp hourP; rw [← hτ]; unfold hWm; rw [if_pos (Int32.not_le.mp c237)])
            exact J252  _ _ hI ls (lv_sub hl [2, 3, 4, 5] rfl)
        refine lv_aload_n hx hb dX7_hour_89 rfl (lv_at hl 4 rfl) ?_
        refine gf_X7_45 hC hI fM_o rfl dX7_hour_90 ?_
        refine lv_iload_n hx hb dX7_hour_93 rfl (lv_at hl 3 rfl) ?_
        refine lv_iconst (v := 2) hx hb dX7_hour_94 (by decide) ?_
        refine lv_iadd hx hb dX7_hour_95 ?_
        refine r_iald hC hI fM_16 (j := (6 * r + 2)) (nI_add _ 2) (by omega) (by decide) dX7_hour_96 ?_
        refine lv_iconst (v := 2) hx hb dX7_hour_97 (by decide) ?_
        refine lv_icmp_ne (tgt := 104) hx hb dX7_hour_98 (by decide) (fun c98 => ?_) (fun c98 => ?_)
        · have hl : lv_has ls 7 [(6, .int (nI k)), (5, .int (hBy2 τ r hh)), (4, .int (τ 16 (6 * r))), (3, .int (nI (6 * r))), (0, .ref (ad 20 0)), (1, .int (nI r)), (2, .int (nI hh))] := by rw [show hBy2 τ r hh = hBy1 τ r hh from (if_neg c98)]; exact hl
          refine lv_aload_n hx hb dX7_hour_104 rfl (lv_at hl 4 rfl) ?_
          refine gf_X7_45 hC hI fM_o rfl dX7_hour_105 ?_
          refine lv_iload_n hx hb dX7_hour_108 rfl (lv_at hl 3 rfl) ?_
          refine lv_iconst (v := 2) hx hb dX7_hour_109 (by decide) ?_
          refine lv_iadd hx hb dX7_hour_110 ?_
          refine r_iald hC hI fM_16 (j := (6 * r + 2)) (nI_add _ 2) (by omega) (by decide) dX7_hour_111 ?_
          refine lv_iconst (v := 1) hx hb dX7_hour_112 (by decide) ?_
          refine lv_icmp_ne (tgt := 207) hx hb dX7_hour_113 (by decide) (fun c113 => ?_) (fun c113 => ?_)
          · have hl : lv_has ls 7 [(6, .int (nI k)), (5, .int (hBy3 τ r hh)), (4, .int (τ 16 (6 * r))), (3, .int (nI (6 * r))), (0, .ref (ad 20 0)), (1, .int (nI r)), (2, .int (nI hh))] := by rw [show hBy3 τ r hh = hBy2 τ r hh from (if_neg c113)]; exact hl
            have hI := hI.cast (show fM g ad τ pd th h = fM g ad (hOn τ r) (hPd τ pd r hh) th h from by unfold hOn hPd; rw [if_neg c113, if_neg c113])
            exact J207  _ _ hI ls (lv_sub hl [1, 2, 3, 4, 5, 6] rfl)
          · refine lv_iload hx hb dX7_hour_116 (lv_at hl 1 rfl) ?_
            refine lv_aload_n hx hb dX7_hour_118 rfl (lv_at hl 4 rfl) ?_
            refine gf_X7_35 hC hI fM_o rfl dX7_hour_119 ?_
            refine lv_iload_n hx hb dX7_hour_122 rfl (lv_at hl 5 rfl) ?_
            refine r_iald hC hI fM_13 (j := r) rfl (by omega) (by decide) dX7_hour_123 ?_
            refine lv_bipush (v := 100) hx hb dX7_hour_124 (by decide) ?_
            refine lv_aload_n hx hb dX7_hour_126 rfl (lv_at hl 4 rfl) ?_
            refine gf_X7_45 hC hI fM_o rfl dX7_hour_127 ?_
            refine lv_iload_n hx hb dX7_hour_130 rfl (lv_at hl 3 rfl) ?_
            refine lv_iconst (v := 1) hx hb dX7_hour_131 (by decide) ?_
            refine lv_iadd hx hb dX7_hour_132 ?_
            refine r_iald hC hI fM_16 (j := (6 * r + 1)) (nI_add _ 1) (by omega) (by decide) dX7_hour_133 ?_
            refine lv_isub hx hb dX7_hour_134 ?_
            refine lv_imul hx hb dX7_hour_135 ?_
            refine lv_sipush (v := 1000) hx hb dX7_hour_136 (by decide) ?_
            refine lv_idiv hx hb dX7_hour_139 (by decide) ?_
            refine lv_isub hx hb dX7_hour_140 ?_
            rw [show hBy2 τ r hh - τ 13 r * (100 - τ 16 (6 * r + 1)) / 1000 = hBy3 τ r hh from (if_pos c113).symm]
            refine lv_istore (lv' := [(5, .int (hBy3 τ r hh)), (6, .int (nI k)), (4, .int (τ 16 (6 * r))), (3, .int (nI (6 * r))), (0, .ref (ad 20 0)), (1, .int (nI r)), (2, .int (nI hh))]) hx hb dX7_hour_141 hl (by decide) rfl (fun ls hl => ?_)
            refine lv_aload_n hx hb dX7_hour_143 rfl (lv_at hl 4 rfl) ?_
            refine lv_dup hx hb dX7_hour_144 rfl ?_
            refine gf_X7_154 hC hI fM_o rfl dX7_hour_145 ?_
            refine lv_aload_n hx hb dX7_hour_148 rfl (lv_at hl 4 rfl) ?_
            refine gf_X7_35 hC hI fM_o rfl dX7_hour_149 ?_
            refine lv_iload_n hx hb dX7_hour_152 rfl (lv_at hl 5 rfl) ?_
            refine r_iald hC hI fM_13 (j := r) rfl (by omega) (by decide) dX7_hour_153 ?_
            refine lv_i2l hx hb dX7_hour_154 rfl ?_
            refine lv_aload_n hx hb dX7_hour_155 rfl (lv_at hl 4 rfl) ?_
            refine gf_X7_13 hC hI fM_o rfl dX7_hour_156 ?_
            refine lv_iload_n hx hb dX7_hour_159 rfl (lv_at hl 6 rfl) ?_
            refine r_iald hC hI fM_4 (j := hh) rfl (by omega) (by decide) dX7_hour_160 ?_
            refine lv_i2l hx hb dX7_hour_161 rfl ?_
            refine lv_lmul hx hb dX7_hour_162 ?_
            refine lv_ladd hx hb dX7_hour_163 ?_
            refine pf_X7_154 hC hI fM_o (Nat.le_of_ble_eq_true rfl) dX7_hour_164 (fun H locs hI => ?_)
            have hI := hI.cast fM_ppd
            have hI := hI.cast (show _ = fM g ad τ (hPd τ pd r hh) th h from by unfold hPd; rw [if_pos c113])
            refine lv_aload_n hx hb dX7_hour_167 rfl (lv_at hl 4 rfl) ?_
            refine gf_X7_45 hC hI fM_o rfl dX7_hour_168 ?_
            refine lv_iload_n hx hb dX7_hour_171 rfl (lv_at hl 3 rfl) ?_
            refine lv_iconst (v := 4) hx hb dX7_hour_172 (by decide) ?_
            refine lv_iadd hx hb dX7_hour_173 ?_
            refine lv_dup2_11 hx hb dX7_hour_174 rfl rfl ?_
            refine r_iald hC hI fM_16 (j := (6 * r + 4)) (nI_add _ 4) (by omega) (by decide) dX7_hour_175 ?_
            refine lv_aload_n hx hb dX7_hour_176 rfl (lv_at hl 4 rfl) ?_
            refine gf_X7_35 hC hI fM_o rfl dX7_hour_177 ?_
            refine lv_iload_n hx hb dX7_hour_180 rfl (lv_at hl 5 rfl) ?_
            refine r_iald hC hI fM_13 (j := r) rfl (by omega) (by decide) dX7_hour_181 ?_
            refine lv_iadd hx hb dX7_hour_182 ?_
            refine r_iast hC hI fM_16 (j := (6 * r + 4)) (nI_add _ 4) (by omega) (by decide) dX7_hour_183 (fun H locs hI => ?_)
            have hI := hI.cast (fM_a 16 rfl (by decide) (by decide) rfl)
            refine lv_aload_n hx hb dX7_hour_184 rfl (lv_at hl 4 rfl) ?_
            refine gf_X7_45 hC hI fM_o rfl dX7_hour_185 ?_
            refine lv_iload_n hx hb dX7_hour_188 rfl (lv_at hl 3 rfl) ?_
            refine lv_iconst (v := 1) hx hb dX7_hour_189 (by decide) ?_
            refine lv_iadd hx hb dX7_hour_190 ?_
            refine lv_bipush (v := 90) hx hb dX7_hour_191 (by decide) ?_
            refine lv_aload_n hx hb dX7_hour_193 rfl (lv_at hl 4 rfl) ?_
            refine gf_X7_45 hC hI fM_o rfl dX7_hour_194 ?_
            refine lv_iload_n hx hb dX7_hour_197 rfl (lv_at hl 3 rfl) ?_
            refine lv_iconst (v := 1) hx hb dX7_hour_198 (by decide) ?_
            refine lv_iadd hx hb dX7_hour_199 ?_
            refine r_iald hC hI fM_16 (j := (6 * r + 1)) (nI_add _ 1) (by omega) (by decide) dX7_hour_200 ?_
            rw [r16 (show 6 * r + 1 ≠ 6 * r + 4 by omega)]
            refine lv_iconst (v := 1) hx hb dX7_hour_201 (by decide) ?_
            refine lv_iadd hx hb dX7_hour_202 ?_
            refine va_mmin hx hb (hC.1.2.2.1.trans hl.1.symm) hC.1.2.2.2.1 (hts _ wd_ml_X7_94) (hts _ wd_st_yJ9_min_7cf53) (hts _ wd_in_RJ9) (hts _ wd_co_yJ9_min_7cf53) (Nat.le_of_ble_eq_true rfl) (Nat.le_of_ble_eq_true rfl) (Nat.le_of_ble_eq_true rfl) (Nat.le_of_ble_eq_true rfl) dX7_hour_203 ?_
            refine r_iast hC hI fM_16 (j := (6 * r + 1)) (nI_add _ 1) (by omega) (by decide) dX7_hour_206 (fun H locs hI => ?_)
            have hI := hI.cast (fM_a 16 rfl (by decide) (by decide) rfl)
            have hI := hI.cast (show _ = fM g ad (hOn τ r) (hPd τ pd r hh) th h from by unfold hOn; rw [if_pos c113]; rfl)
            exact J207  _ _ hI ls (lv_sub hl [0, 2, 3, 4, 5, 6] rfl)
        · refine lv_iinc (v := (hBy1 τ r hh) + 8) (lv' := [(5, .int ((hBy1 τ r hh) + 8)), (6, .int (nI k)), (4, .int (τ 16 (6 * r))), (3, .int (nI (6 * r))), (0, .ref (ad 20 0)), (1, .int (nI r)), (2, .int (nI hh))]) hx hb dX7_hour_101 hl (k := 1) rfl rfl (by decide) rfl (fun ls hl => ?_)
          have hl : lv_has ls 7 [(5, .int (hBy2 τ r hh)), (6, .int (nI k)), (4, .int (τ 16 (6 * r))), (3, .int (nI (6 * r))), (0, .ref (ad 20 0)), (1, .int (nI r)), (2, .int (nI hh))] := by rw [show hBy2 τ r hh = (hBy1 τ r hh) + 8 from (if_pos c98)]; exact hl
          refine lv_aload_n hx hb dX7_hour_104 rfl (lv_at hl 4 rfl) ?_
          refine gf_X7_45 hC hI fM_o rfl dX7_hour_105 ?_
          refine lv_iload_n hx hb dX7_hour_108 rfl (lv_at hl 3 rfl) ?_
          refine lv_iconst (v := 2) hx hb dX7_hour_109 (by decide) ?_
          refine lv_iadd hx hb dX7_hour_110 ?_
          refine r_iald hC hI fM_16 (j := (6 * r + 2)) (nI_add _ 2) (by omega) (by decide) dX7_hour_111 ?_
          refine lv_iconst (v := 1) hx hb dX7_hour_112 (by decide) ?_
          refine lv_icmp_ne (tgt := 207) hx hb dX7_hour_113 (by decide) (fun c113 => ?_) (fun c113 => ?_)
          · have hl : lv_has ls 7 [(5, .int (hBy3 τ r hh)), (6, .int (nI k)), (4, .int (τ 16 (6 * r))), (3, .int (nI (6 * r))), (0, .ref (ad 20 0)), (1, .int (nI r)), (2, .int (nI hh))] := by rw [show hBy3 τ r hh = hBy2 τ r hh from (if_neg c113)]; exact hl
            have hI := hI.cast (show fM g ad τ pd th h = fM g ad (hOn τ r) (hPd τ pd r hh) th h from by unfold hOn hPd; rw [if_neg c113, if_neg c113])
            exact J207  _ _ hI ls (lv_sub hl [0, 2, 3, 4, 5, 6] rfl)
          · refine lv_iload hx hb dX7_hour_116 (lv_at hl 0 rfl) ?_
            refine lv_aload_n hx hb dX7_hour_118 rfl (lv_at hl 4 rfl) ?_
            refine gf_X7_35 hC hI fM_o rfl dX7_hour_119 ?_
            refine lv_iload_n hx hb dX7_hour_122 rfl (lv_at hl 5 rfl) ?_
            refine r_iald hC hI fM_13 (j := r) rfl (by omega) (by decide) dX7_hour_123 ?_
            refine lv_bipush (v := 100) hx hb dX7_hour_124 (by decide) ?_
            refine lv_aload_n hx hb dX7_hour_126 rfl (lv_at hl 4 rfl) ?_
            refine gf_X7_45 hC hI fM_o rfl dX7_hour_127 ?_
            refine lv_iload_n hx hb dX7_hour_130 rfl (lv_at hl 3 rfl) ?_
            refine lv_iconst (v := 1) hx hb dX7_hour_131 (by decide) ?_
            refine lv_iadd hx hb dX7_hour_132 ?_
            refine r_iald hC hI fM_16 (j := (6 * r + 1)) (nI_add _ 1) (by omega) (by decide) dX7_hour_133 ?_
            refine lv_isub hx hb dX7_hour_134 ?_
            refine lv_imul hx hb dX7_hour_135 ?_
            refine lv_sipush (v := 1000) hx hb dX7_hour_136 (by decide) ?_
            refine lv_idiv hx hb dX7_hour_139 (by decide) ?_
            refine lv_isub hx hb dX7_hour_140 ?_
            rw [show hBy2 τ r hh - τ 13 r * (100 - τ 16 (6 * r + 1)) / 1000 = hBy3 τ r hh from (if_pos c113).symm]
            refine lv_istore (lv' := [(5, .int (hBy3 τ r hh)), (6, .int (nI k)), (4, .int (τ 16 (6 * r))), (3, .int (nI (6 * r))), (0, .ref (ad 20 0)), (1, .int (nI r)), (2, .int (nI hh))]) hx hb dX7_hour_141 hl (by decide) rfl (fun ls hl => ?_)
            refine lv_aload_n hx hb dX7_hour_143 rfl (lv_at hl 4 rfl) ?_
            refine lv_dup hx hb dX7_hour_144 rfl ?_
            refine gf_X7_154 hC hI fM_o rfl dX7_hour_145 ?_
            refine lv_aload_n hx hb dX7_hour_148 rfl (lv_at hl 4 rfl) ?_
            refine gf_X7_35 hC hI fM_o rfl dX7_hour_149 ?_
            refine lv_iload_n hx hb dX7_hour_152 rfl (lv_at hl 5 rfl) ?_
            refine r_iald hC hI fM_13 (j := r) rfl (by omega) (by decide) dX7_hour_153 ?_
            refine lv_i2l hx hb dX7_hour_154 rfl ?_
            refine lv_aload_n hx hb dX7_hour_155 rfl (lv_at hl 4 rfl) ?_
            refine gf_X7_13 hC hI fM_o rfl dX7_hour_156 ?_
            refine lv_iload_n hx hb dX7_hour_159 rfl (lv_at hl 6 rfl) ?_
            refine r_iald hC hI fM_4 (j := hh) rfl (by omega) (by decide) dX7_hour_160 ?_
            refine lv_i2l hx hb dX7_hour_161 rfl ?_
            refine lv_lmul hx hb dX7_hour_162 ?_
            refine lv_ladd hx hb dX7_hour_163 ?_
            refine pf_X7_154 hC hI fM_o (Nat.le_of_ble_eq_true rfl) dX7_hour_164 (fun H locs hI => ?_)
            have hI := hI.cast fM_ppd
            have hI := hI.cast (show _ = fM g ad τ (hPd τ pd r hh) th h from by unfold hPd; rw [if_pos c113])
            refine lv_aload_n hx hb dX7_hour_167 rfl (lv_at hl 4 rfl) ?_
            refine gf_X7_45 hC hI fM_o rfl dX7_hour_168 ?_
            refine lv_iload_n hx hb dX7_hour_171 rfl (lv_at hl 3 rfl) ?_
            refine lv_iconst (v := 4) hx hb dX7_hour_172 (by decide) ?_
            refine lv_iadd hx hb dX7_hour_173 ?_
            refine lv_dup2_11 hx hb dX7_hour_174 rfl rfl ?_
            refine r_iald hC hI fM_16 (j := (6 * r + 4)) (nI_add _ 4) (by omega) (by decide) dX7_hour_175 ?_
            refine lv_aload_n hx hb dX7_hour_176 rfl (lv_at hl 4 rfl) ?_
            refine gf_X7_35 hC hI fM_o rfl dX7_hour_177 ?_
            refine lv_iload_n hx hb dX7_hour_180 rfl (lv_at hl 5 rfl) ?_
            refine r_iald hC hI fM_13 (j := r) rfl (by omega) (by decide) dX7_hour_181 ?_
            refine lv_iadd hx hb dX7_hour_182 ?_
            refine r_iast hC hI fM_16 (j := (6 * r + 4)) (nI_add _ 4) (by omega) (by decide) dX7_hour_183 (fun H locs hI => ?_)
            have hI := hI.cast (fM_a 16 rfl (by decide) (by decide) rfl)
            refine lv_aload_n hx hb dX7_hour_184 rfl (lv_at hl 4 rfl) ?_
            refine gf_X7_45 hC hI fM_o rfl dX7_hour_185 ?_
            refine lv_iload_n hx hb dX7_hour_188 rfl (lv_at hl 3 rfl) ?_
            refine lv_iconst (v := 1) hx hb dX7_hour_189 (by decide) ?_
            refine lv_iadd hx hb dX7_hour_190 ?_
            refine lv_bipush (v := 90) hx hb dX7_hour_191 (by decide) ?_
            refine lv_aload_n hx hb dX7_hour_193 rfl (lv_at hl 4 rfl) ?_
            refine gf_X7_45 hC hI fM_o rfl dX7_hour_194 ?_
            refine lv_iload_n hx hb dX7_hour_197 rfl (lv_at hl 3 rfl) ?_
            refine lv_iconst (v := 1) hx hb dX7_hour_198 (by decide) ?_
            refine lv_iadd hx hb dX7_hour_199 ?_
            refine r_iald hC hI fM_16 (j := (6 * r + 1)) (nI_add _ 1) (by omega) (by decide) dX7_hour_200 ?_
            rw [r16 (show 6 * r + 1 ≠ 6 * r + 4 by omega)]
            refine lv_iconst (v := 1) hx hb dX7_hour_201 (by decide) ?_
            refine lv_iadd hx hb dX7_hour_202 ?_
            refine va_mmin hx hb (hC.1.2.2.1.trans hl.1.symm) hC.1.2.2.2.1 (hts _ wd_ml_X7_94) (hts _ wd_st_yJ9_min_7cf53) (hts _ wd_in_RJ9) (hts _ wd_co_yJ9_min_7cf53) (Nat.le_of_ble_eq_true rfl) (Nat.le_of_ble_eq_true rfl) (Nat.le_of_ble_eq_true rfl) (Nat.le_of_ble_eq_true rfl) dX7_hour_203 ?_
            refine r_iast hC hI fM_16 (j := (6 * r + 1)) (nI_add _ 1) (by omega) (by decide) dX7_hour_206 (fun H locs hI => ?_)
            have hI := hI.cast (fM_a 16 rfl (by decide) (by decide) rfl)
            have hI := hI.cast (show _ = fM g ad (hOn τ r) (hPd τ pd r hh) th h from by unfold hOn; rw [if_pos c113]; rfl)
            exact J207  _ _ hI ls (lv_sub hl [0, 2, 3, 4, 5, 6] rfl)
      · have hk2 : k < nt τ := ge_F g17 (by omega) (by omega) c51
        refine lv_aload_n hx hb dX7_hour_54 rfl (lv_at hl 4 rfl) ?_
        refine gf_X7_51 hC hI fM_o rfl dX7_hour_55 ?_
        refine lv_iload hx hb dX7_hour_58 (lv_at hl 0 rfl) ?_
        refine r_iald hC hI fM_19 (j := k) rfl (by omega) (by decide) dX7_hour_60 ?_
        refine lv_iload_n hx hb dX7_hour_61 rfl (lv_at hl 5 rfl) ?_
        refine lv_icmp_ne (tgt := 83) hx hb dX7_hour_62 (by decide) (fun c62 => ?_) (fun c62 => ?_)
        · have hl : lv_has ls 7 [(6, .int (nI k)), (5, .int (hWarm τ r (τ 16 (6 * r)) (hBy0 τ r hh) (k + 1))), (4, .int (τ 16 (6 * r))), (3, .int (nI (6 * r))), (0, .ref (ad 20 0)), (1, .int (nI r)), (2, .int (nI hh))] := by rw [show hWarm τ r (τ 16 (6 * r)) (hBy0 τ r hh) (k + 1) = hWarm τ r (τ 16 (6 * r)) (hBy0 τ r hh) k from (if_neg c62)]; exact hl
          refine lv_iinc (v := nI (k + 1)) (lv' := [(6, .int (nI (k + 1))), (5, .int (hWarm τ r (τ 16 (6 * r)) (hBy0 τ r hh) (k + 1))), (4, .int (τ 16 (6 * r))), (3, .int (nI (6 * r))), (0, .ref (ad 20 0)), (1, .int (nI r)), (2, .int (nI hh))]) hx hb dX7_hour_83 hl (k := 0) rfl (nI_1 _) (by decide) rfl (fun ls hl => ?_)
          refine lv_goto (tgt := 45) hx hb dX7_hour_86 (by decide) ?_
          exact ih45 (k + 1) (by omega) (by omega) _ _ hI ls (lv_sub hl [0, 1, 2, 3, 4, 5, 6] rfl)
        · refine lv_iload hx hb dX7_hour_65 (lv_at hl 1 rfl) ?_
          refine lv_aload_n hx hb dX7_hour_67 rfl (lv_at hl 4 rfl) ?_
          refine gf_X7_54 hC hI fM_o rfl dX7_hour_68 ?_
          refine lv_iload hx hb dX7_hour_71 (lv_at hl 0 rfl) ?_
          refine r_iald hC hI fM_20 (j := k) rfl (by omega) (by decide) dX7_hour_73 ?_
          refine lv_iload hx hb dX7_hour_74 (lv_at hl 2 rfl) ?_
          refine lv_isub hx hb dX7_hour_76 ?_
          refine lv_bipush (v := 40) hx hb dX7_hour_77 (by decide) ?_
          refine lv_idiv hx hb dX7_hour_79 (by decide) ?_
          refine lv_iadd hx hb dX7_hour_80 ?_
          rw [show hWarm τ r (τ 16 (6 * r)) (hBy0 τ r hh) k + (τ 20 k - τ 16 (6 * r)) / 40 = hWarm τ r (τ 16 (6 * r)) (hBy0 τ r hh) (k + 1) from (if_pos c62).symm]
          refine lv_istore (lv' := [(5, .int (hWarm τ r (τ 16 (6 * r)) (hBy0 τ r hh) (k + 1))), (6, .int (nI k)), (4, .int (τ 16 (6 * r))), (3, .int (nI (6 * r))), (0, .ref (ad 20 0)), (1, .int (nI r)), (2, .int (nI hh))]) hx hb dX7_hour_81 hl (by decide) rfl (fun ls hl => ?_)
          refine lv_iinc (v := nI (k + 1)) (lv' := [(6, .int (nI (k + 1))), (5, .int (hWarm τ r (τ 16 (6 * r)) (hBy0 τ r hh) (k + 1))), (4, .int (τ 16 (6 * r))), (3, .int (nI (6 * r))), (0, .ref (ad 20 0)), (1, .int (nI r)), (2, .int (nI hh))]) hx hb dX7_hour_83 hl (k := 1) rfl (nI_1 _) (by decide) rfl (fun ls hl => ?_)
          refine lv_goto (tgt := 45) hx hb dX7_hour_86 (by decide) ?_
          exact ih45 (k + 1) (by omega) (by omega) _ _ hI ls (lv_sub hl [0, 1, 2, 3, 4, 5, 6] rfl)
  exact L45 (nt τ + 1) 0 (by omega) (by omega) _ _ hI ls (lv_sub hl [0, 1, 2, 3, 4, 5, 6] rfl)
set_option maxHeartbeats 4000000 in
set_option maxRecDepth 100000 in
theorem tX7_tick (l : Launch) (g : Gg) (B0 : Nat) (ad : Ad) (σ : Sg) (pd : Int64) (th : Int32) (h : Wd) (hok : OkP σ) (hT : OkT σ) (v : Int32) : MM l g B0 yX7_tick (wsM yX7_tick cX7_tick 5 (some .int)) ({ frames := 4, cells := 0, slots := 0, locals := 97 } : Room) [.ref (ad 20 0), .int v] ad (fM g ad σ pd th h) (rM g ad h (kdTI σ v) (thereS (tickAt (σ, pd) (cN v)).1 (-1) 1 - thereS σ (-1) 1) (tickAt (σ, pd) (cN v)).1 σ (tickAt (σ, pd) (cN v)).2 pd) (noX) 0 0 := by
  refine MM.start (by decide) (Nat.le_of_ble_eq_true rfl) ?_
  intro hl9 p e s m below meth c ls hC hno hI hl0
  have hx := hC.1.1
  have hb := hC.1.2.1
  have hts := hC.1.2.2.2.2
  have hl : lv_has ls 5 [(0, .ref (ad 20 0)), (1, .int v)] := hl0
  obtain ⟨H, hH⟩ : ∃ H, H = s.heap := ⟨_, rfl⟩
  obtain ⟨locs, hLo⟩ : ∃ L : List Loc, L = [] := ⟨_, rfl⟩
  rw [← hH, ← hLo] at hI ⊢
  clear hH hLo hl0
  refine lv_aload_n hx hb dX7_tick_0 rfl (lv_at hl 0 rfl) ?_
  refine lv_iconst (v := 0) hx hb dX7_tick_1 (by decide) ?_
  refine pf_X7_60 hC hI fM_o (Nat.le_of_ble_eq_true rfl) dX7_tick_2 (fun H locs hI => ?_)
  have hI := hI.cast fM_pth
  refine lv_iload_n hx hb dX7_tick_5 rfl (lv_at hl 1 rfl) ?_
  refine lv_iconst (v := 1) hx hb dX7_tick_6 (by decide) ?_
  refine lv_sipush (v := 200) hx hb dX7_tick_7 (by decide) ?_
  refine c_Si (rest := []) hl9 hC hI hl.1 (tX7_isIn l g B0 ad _ v 1 200) (cw_X7_66 hts rfl rfl ⟨(Nat.le_of_ble_eq_true rfl), (Nat.le_of_ble_eq_true rfl)⟩) rfl rfl (Nat.le_of_ble_eq_true rfl) dX7_tick_10 ⟨(Nat.le_of_ble_eq_true rfl), (Nat.le_of_ble_eq_true rfl)⟩ (fun H locs hI => ?_)
  refine lv_if_eq (tgt := 28) hx hb dX7_tick_13 (by decide) (fun c13 => ?_) (fun c13 => ?_)
  · have c13 := bi_0.mp c13
    refine lv_aload_n hx hb dX7_tick_28 rfl (lv_at hl 0 rfl) ?_
    refine lv_iconst (v := 1) hx hb dX7_tick_29 (by decide) ?_
    refine c_Vi (rest := []) hl9 hC hI hl.1 (tX7_no l g B0 ad σ pd 0 h 1) (cw_X7_85 hts rfl rfl ⟨(Nat.le_of_ble_eq_true rfl), (Nat.le_of_ble_eq_true rfl)⟩) fM_o rfl rfl rfl rfl (Nat.le_of_ble_eq_true rfl) dX7_tick_30 ⟨(Nat.le_of_ble_eq_true rfl), (Nat.le_of_ble_eq_true rfl)⟩ (fun H locs hI => ?_)
    exact e_int hC hI (rM_no (if_neg (fun z => c13 z.1)) (by decide)) (Nat.le_of_ble_eq_true rfl) (Nat.le_of_ble_eq_true rfl) dX7_tick_33
  · have c13 := bi_1.mp c13
    refine lv_aload_n hx hb dX7_tick_16 rfl (lv_at hl 0 rfl) ?_
    refine gf_X7_88 hC hI fM_o rfl dX7_tick_17 ?_
    refine lv_iload_n hx hb dX7_tick_20 rfl (lv_at hl 1 rfl) ?_
    refine lv_iadd hx hb dX7_tick_21 ?_
    refine lv_sipush (v := 2000) hx hb dX7_tick_22 (by decide) ?_
    refine lv_icmp_le (tgt := 34) hx hb dX7_tick_25 (by decide) (fun c25 => ?_) (fun c25 => ?_)
    · have hk : kdTI σ v = 0 := if_pos ⟨c13, c25⟩
      obtain ⟨N, hN, rfl⟩ := nI_of (x := v) (Int32.not_lt.mpr (Int32.le_trans (show (0 : Int32) ≤ 1 by decide) c13.1))
      have hN60 : N ≤ 200 := (nI_leI hN (b := 200) (by decide)).mp c13.2
      have hcN : cN (nI N) = N := cN_nI hN
      obtain ⟨hT1, hT2⟩ := id hT
      have hTN : cN (σ 1 0) + N ≤ 2000 := by
              rw [hT1, nI_add] at c25
              exact (nI_leI (by omega) (b := 2000) (by decide)).mp c25
      refine lv_aload_n hx hb dX7_tick_34 rfl (lv_at hl 0 rfl) ?_
      refine lv_iconst (v := (-1)) hx hb dX7_tick_35 (by decide) ?_
      refine lv_iconst (v := 1) hx hb dX7_tick_36 (by decide) ?_
      refine c_Vi (rest := []) hl9 hC hI hl.1 (tX7_there l g B0 ad σ pd 0 h hok (-1) 1) (cw_X7_143 hts rfl rfl ⟨(Nat.le_of_ble_eq_true rfl), (Nat.le_of_ble_eq_true rfl)⟩) fM_o rfl rfl rfl rfl (Nat.le_of_ble_eq_true rfl) dX7_tick_37 ⟨(Nat.le_of_ble_eq_true rfl), (Nat.le_of_ble_eq_true rfl)⟩ (fun H locs hI => ?_)
      refine lv_istore_n (lv' := [(2, .int (thereS σ (-1) 1)), (0, .ref (ad 20 0)), (1, .int (nI N))]) hx hb dX7_tick_40 rfl hl (by decide) rfl (fun ls hl => ?_)
      refine lv_iconst (v := 0) hx hb dX7_tick_41 (by decide) ?_
      refine lv_istore_n (lv' := [(3, .int (nI 0)), (2, .int (thereS σ (-1) 1)), (0, .ref (ad 20 0)), (1, .int (nI N))]) hx hb dX7_tick_42 rfl hl (by decide) rfl (fun ls hl => ?_)
      have L43 : ∀ (n : Nat) (k : Nat), k ≤ N → N + 1 ≤ k + n → ∀ (H : Heap) (locs : List Loc), WI g ad B0 (fM g ad (tickAt (σ, pd) k).1 (tickAt (σ, pd) k).2 0 h) s H locs → ∀ (ls : Array Slot), lv_has ls 5 [(3, .int (nI k)), (2, .int (thereS σ (-1) 1)), (0, .ref (ad 20 0)), (1, .int (nI N))] → W p l e ({ frames := 4, cells := 0, slots := 0, locals := 97 } : Room) s m ([.ref (ad 20 0), .int (nI N)] : List Value).toArray below meth c H locs 0 0 (vx_MQ below (QI g B0 (rM g ad h (kdTI σ (nI N)) (thereS (tickAt (σ, pd) (cN (nI N))).1 (-1) 1 - thereS σ (-1) 1) (tickAt (σ, pd) (cN (nI N))).1 σ (tickAt (σ, pd) (cN (nI N))).2 pd)) (XI g B0 (noX)) ([.ref (ad 20 0), .int (nI N)] : List Value).toArray s 0 0 (fun q => B0 ≤ q)) (F0 m 43 ls []) := by
        intro n
        induction n with
        | zero =>
          intro k hk9 hfu
          exact absurd hfu (by omega)
        | succ n ih43 =>
          intro k hk9 hfu H locs hI ls hl
          refine lv_iload_n hx hb dX7_tick_43 rfl (lv_at hl 0 rfl) ?_
          refine lv_iload_n hx hb dX7_tick_44 rfl (lv_at hl 3 rfl) ?_
          refine lv_icmp_ge (tgt := 95) hx hb dX7_tick_45 (by decide) (fun c45 => ?_) (fun c45 => ?_)
          · have hkN : k = N := Nat.le_antisymm hk9 ((nI_leI hN (by omega)).mp c45)
            refine lv_aload_n hx hb dX7_tick_95 rfl (lv_at hl 2 rfl) ?_
            refine lv_iconst (v := (-1)) hx hb dX7_tick_96 (by decide) ?_
            refine lv_iconst (v := 1) hx hb dX7_tick_97 (by decide) ?_
            refine c_Vi (rest := []) hl9 hC hI hl.1 (tX7_there l g B0 ad ((tickAt (σ, pd) k).1) ((tickAt (σ, pd) k).2) 0 h (tickAt_ok (x := (σ, pd)) hok k) (-1) 1) (cw_X7_143 hts rfl rfl ⟨(Nat.le_of_ble_eq_true rfl), (Nat.le_of_ble_eq_true rfl)⟩) fM_o rfl rfl rfl rfl (Nat.le_of_ble_eq_true rfl) dX7_tick_98 ⟨(Nat.le_of_ble_eq_true rfl), (Nat.le_of_ble_eq_true rfl)⟩ (fun H locs hI => ?_)
            refine lv_iload_n hx hb dX7_tick_101 rfl (lv_at hl 1 rfl) ?_
            refine lv_isub hx hb dX7_tick_102 ?_
            exact e_int hC hI (rM_ok hk (by rw [hcN, hkN]) (by rw [hcN, hkN])) (Nat.le_of_ble_eq_true rfl) (Nat.le_of_ble_eq_true rfl) dX7_tick_103
          · have hkN : k < N := Nat.lt_of_not_le (fun z => c45 (nI_le z (by omega)))
            obtain ⟨x9, hx9⟩ : ∃ z, z = tickAt (σ, pd) k := ⟨_, rfl⟩
            have hokx : OkP x9.1 := by rw [hx9]; exact tickAt_ok (x := (σ, pd)) hok k
            have hnow : x9.1 1 0 = nI (cN (σ 1 0) + k) := by rw [hx9]; exact tickAt_now hT1 k
            have hOT : OkT x9.1 := by unfold OkT; rw [hnow, cN_nI (by omega)]; exact ⟨rfl, by omega⟩
            rw [← hx9] at hI
            obtain ⟨g17, g60, g10, g6, g5, g12, gpr, grm⟩ := id hokx
            refine lv_iconst (v := 0) hx hb dX7_tick_48 (by decide) ?_
            refine lv_istore (lv' := [(4, .int (nI 0)), (3, .int (nI k)), (2, .int (thereS σ (-1) 1)), (0, .ref (ad 20 0)), (1, .int (nI N))]) hx hb dX7_tick_49 hl (by decide) rfl (fun ls hl => ?_)
            have L51 : ∀ (n2 : Nat) (j : Nat), j ≤ nr x9.1 → nr x9.1 + 1 ≤ j + n2 → ∀ (H : Heap) (locs : List Loc), WI g ad B0 (fM g ad (roomsAt x9 (cN (x9.1 1 0) % 24) j).1 (roomsAt x9 (cN (x9.1 1 0) % 24) j).2 0 h) s H locs → ∀ (ls : Array Slot), lv_has ls 5 [(4, .int (nI j)), (3, .int (nI k)), (2, .int (thereS σ (-1) 1)), (0, .ref (ad 20 0)), (1, .int (nI N))] → W p l e ({ frames := 4, cells := 0, slots := 0, locals := 97 } : Room) s m ([.ref (ad 20 0), .int (nI N)] : List Value).toArray below meth c H locs 0 0 (vx_MQ below (QI g B0 (rM g ad h (kdTI σ (nI N)) (thereS (tickAt (σ, pd) (cN (nI N))).1 (-1) 1 - thereS σ (-1) 1) (tickAt (σ, pd) (cN (nI N))).1 σ (tickAt (σ, pd) (cN (nI N))).2 pd)) (XI g B0 (noX)) ([.ref (ad 20 0), .int (nI N)] : List Value).toArray s 0 0 (fun q => B0 ≤ q)) (F0 m 51 ls []) := by
              intro n2
              induction n2 with
              | zero =>
                intro j hj9 hfj
                exact absurd hfj (by omega)
              | succ n2 ih51 =>
                intro j hj9 hfj H locs hI ls hl
                refine lv_iload hx hb dX7_tick_51 (lv_at hl 0 rfl) ?_
                refine lv_aload_n hx hb dX7_tick_53 rfl (lv_at hl 3 rfl) ?_
                refine gf_X7_70 hC hI fM_o rfl dX7_tick_54 ?_
                rw [show (roomsAt x9 (cN (x9.1 1 0) % 24) j).1 10 0 = x9.1 10 0 from congrFun (roomsAt_row x9 _ (by decide) (by decide) (by decide) j) 0]
                refine lv_icmp_ge (tgt := 79) hx hb dX7_tick_57 (by decide) (fun c57 => ?_) (fun c57 => ?_)
                · have hj2 : nr x9.1 ≤ j := ge_T g10 (by omega) (by omega) c57
                  have hjr : j = nr x9.1 := by omega
                  refine lv_aload_n hx hb dX7_tick_79 rfl (lv_at hl 3 rfl) ?_
                  refine lv_dup hx hb dX7_tick_80 rfl ?_
                  refine gf_X7_88 hC hI fM_o rfl dX7_tick_81 ?_
                  rw [show (roomsAt x9 (cN (x9.1 1 0) % 24) j).1 1 0 = x9.1 1 0 from congrFun (roomsAt_row x9 _ (by decide) (by decide) (by decide) j) 0]
                  refine lv_iconst (v := 1) hx hb dX7_tick_84 (by decide) ?_
                  refine lv_iadd hx hb dX7_tick_85 ?_
                  refine pf_X7_88 hC hI fM_o (Nat.le_of_ble_eq_true rfl) dX7_tick_86 (fun H locs hI => ?_)
                  have hI := hI.cast fM_p1
                  have hI := hI.cast (show _ = fM g ad (tickAt (σ, pd) (k + 1)).1 (tickAt (σ, pd) (k + 1)).2 0 h from by rw [hjr]; show _ = fM g ad (oneHr (tickAt (σ, pd) k)).1 (oneHr (tickAt (σ, pd) k)).2 0 h; rw [← hx9]; rfl)
                  refine lv_iinc (v := nI (k + 1)) (lv' := [(3, .int (nI (k + 1))), (4, .int (nI j)), (2, .int (thereS σ (-1) 1)), (0, .ref (ad 20 0)), (1, .int (nI N))]) hx hb dX7_tick_89 hl (k := 1) rfl (nI_1 _) (by decide) rfl (fun ls hl => ?_)
                  refine lv_goto (tgt := 43) hx hb dX7_tick_92 (by decide) ?_
                  exact ih43 (k + 1) (by omega) (by omega) _ _ hI ls (lv_sub hl [0, 2, 3, 4] rfl)
                · have hj2 : j < nr x9.1 := ge_F g10 (by omega) (by omega) c57
                  refine lv_aload_n hx hb dX7_tick_60 rfl (lv_at hl 3 rfl) ?_
                  refine lv_iload hx hb dX7_tick_61 (lv_at hl 0 rfl) ?_
                  refine lv_aload_n hx hb dX7_tick_63 rfl (lv_at hl 3 rfl) ?_
                  refine gf_X7_88 hC hI fM_o rfl dX7_tick_64 ?_
                  refine lv_bipush (v := 24) hx hb dX7_tick_67 (by decide) ?_
                  refine lv_irem hx hb dX7_tick_69 (by decide) ?_
                  rw [show (roomsAt x9 (cN (x9.1 1 0) % 24) j).1 1 0 = x9.1 1 0 from congrFun (roomsAt_row x9 _ (by decide) (by decide) (by decide) j) 0, hrS_eq hOT]
                  refine c_Vv (rest := []) hl9 hC hI hl.1 (tX7_hour l g B0 ad ((roomsAt x9 (cN (x9.1 1 0) % 24) j).1) ((roomsAt x9 (cN (x9.1 1 0) % 24) j).2) 0 h (roomsAt_ok hokx _ j) j (cN (x9.1 1 0) % 24) (by omega) (Nat.mod_lt _ (by decide))) (cw_X7_158 hts rfl rfl ⟨(Nat.le_of_ble_eq_true rfl), (Nat.le_of_ble_eq_true rfl)⟩) fM_o rfl rfl rfl rfl (Nat.le_of_ble_eq_true rfl) dX7_tick_70 ⟨(Nat.le_of_ble_eq_true rfl), (Nat.le_of_ble_eq_true rfl)⟩ (fun H locs hI => ?_)
                  refine lv_iinc (v := nI (j + 1)) (lv' := [(4, .int (nI (j + 1))), (3, .int (nI k)), (2, .int (thereS σ (-1) 1)), (0, .ref (ad 20 0)), (1, .int (nI N))]) hx hb dX7_tick_73 hl (k := 0) rfl (nI_1 _) (by decide) rfl (fun ls hl => ?_)
                  refine lv_goto (tgt := 51) hx hb dX7_tick_76 (by decide) ?_
                  exact ih51 (j + 1) (by omega) (by omega) _ _ hI ls (lv_sub hl [0, 1, 2, 3, 4] rfl)
            exact L51 (nr x9.1 + 1) 0 (by omega) (by omega) _ _ hI ls (lv_sub hl [0, 1, 2, 3, 4] rfl)
      exact L43 (N + 1) 0 (by omega) (by omega) _ _ hI ls (lv_sub hl [0, 1, 2, 3] rfl)
    · refine lv_aload_n hx hb dX7_tick_28 rfl (lv_at hl 0 rfl) ?_
      refine lv_iconst (v := 1) hx hb dX7_tick_29 (by decide) ?_
      refine c_Vi (rest := []) hl9 hC hI hl.1 (tX7_no l g B0 ad σ pd 0 h 1) (cw_X7_85 hts rfl rfl ⟨(Nat.le_of_ble_eq_true rfl), (Nat.le_of_ble_eq_true rfl)⟩) fM_o rfl rfl rfl rfl (Nat.le_of_ble_eq_true rfl) dX7_tick_30 ⟨(Nat.le_of_ble_eq_true rfl), (Nat.le_of_ble_eq_true rfl)⟩ (fun H locs hI => ?_)
      exact e_int hC hI (rM_no (if_neg (fun z => c25 z.2)) (by decide)) (Nat.le_of_ble_eq_true rfl) (Nat.le_of_ble_eq_true rfl) dX7_tick_33
