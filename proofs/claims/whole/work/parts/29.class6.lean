/-! THE CLASS'S ROOM: what it remembers, and recalls -/
def scB (σ : Sg) (r : Nat) (sc : Sg) : Sg := s1 (s1 (s1 (s1 (s1 (s1 sc 2 r (σ 16 (6 * r + 2))) 3 r (σ 16 (6 * r + 3))) 4 r (σ 16 (6 * r + 1))) 5 r (σ 16 (6 * r + 4))) 0 r (σ 16 (6 * r))) 1 r (σ 16 (6 * r + 5))
def scR (pl : Pl) (σ : Sg) (r : Nat) (sc : Sg) : Nat → Sg
  | 0 => scB σ r sc
  | k + 1 => match pl r k with
    | none => scR pl σ r sc k
    | some q => s1 (s1 (scR pl σ r sc k) 6 q (σ 20 q)) 7 q (σ 21 q)
theorem scR_N {pl : Pl} {σ sc : Sg} {r k : Nat} (h : pl r k = none) : scR pl σ r sc (k + 1) = scR pl σ r sc k := by
  rw [scR, h]
theorem scR_S {pl : Pl} {σ sc : Sg} {r k q : Nat} (h : pl r k = some q) : scR pl σ r sc (k + 1) = s1 (s1 (scR pl σ r sc k) 6 q (σ 20 q)) 7 q (σ 21 q) := by
  rw [scR, h]
def rcF (σ : Sg) (r : Nat) (sc : Sg) : Nat → Int32 := fun j => if j = 6 * r + 2 then sc 2 r else if j = 6 * r + 3 then sc 3 r else if j = 6 * r + 1 then sc 4 r else if j = 6 * r + 4 then sc 5 r else σ 16 j
def rcB (σ : Sg) (r : Nat) (sc : Sg) : Sg := s1 (s1 (su σ 16 (rcF σ r sc)) 16 (6 * r) (sc 0 r)) 16 (6 * r + 5) (sc 1 r)
def rcS (pl : Pl) (σ : Sg) (r : Nat) (sc : Sg) : Nat → Sg
  | 0 => rcB σ r sc
  | k + 1 => match pl r k with
    | none => rcS pl σ r sc k
    | some q => s1 (s1 (rcS pl σ r sc k) 20 q (sc 6 q)) 21 q (sc 7 q)
theorem rcS_N {pl : Pl} {σ sc : Sg} {r k : Nat} (h : pl r k = none) : rcS pl σ r sc (k + 1) = rcS pl σ r sc k := by
  rw [rcS, h]
theorem rcS_S {pl : Pl} {σ sc : Sg} {r k q : Nat} (h : pl r k = some q) : rcS pl σ r sc (k + 1) = s1 (s1 (rcS pl σ r sc k) 20 q (sc 6 q)) 21 q (sc 7 q) := by
  rw [rcS, h]
theorem rcS_row {pl : Pl} {σ sc : Sg} {r w : Nat} (h1 : w ≠ 16) (h2 : w ≠ 20) (h3 : w ≠ 21) : ∀ k : Nat, rcS pl σ r sc k w = σ w
  | 0 => by
    show rcB σ r sc w = σ w
    exact (su_n _ _ h1).trans ((su_n _ _ h1).trans (su_n _ _ h1))
  | k + 1 => by
    cases hp : pl r k with
    | none => rw [rcS_N hp]; exact rcS_row h1 h2 h3 k
    | some q => rw [rcS_S hp]; exact (su_n _ _ h3).trans ((su_n _ _ h2).trans (rcS_row h1 h2 h3 k))
theorem rcS_nr {pl : Pl} {σ sc : Sg} {r k i : Nat} (h : i < nr σ) : i < nr (rcS pl σ r sc k) := by
  show i < cN (rcS pl σ r sc k 10 0)
  rw [rcS_row (by decide) (by decide) (by decide)]
  exact h
theorem rcS_nt {pl : Pl} {σ sc : Sg} {r k i : Nat} (h : i < nt σ) : i < nt (rcS pl σ r sc k) := by
  show i < cN (rcS pl σ r sc k 17 0)
  rw [rcS_row (by decide) (by decide) (by decide)]
  exact h

set_option maxHeartbeats 4000000 in
set_option maxRecDepth 100000 in
theorem tX4_remember (l : Launch) (g : Gg) (B0 : Nat) (ad : Ad) (σ : Sg) (pd : Int64) (pl : Pl) (sc : Sg) (h : Wd) (r : Nat) (hr : r < nr σ) (hok : OkP σ) (hP : PlOk σ pl) (hR : Rg σ) : MM l g B0 yX4_remember (wsM yX4_remember cX4_remember 5 none) ({ frames := 1, cells := 0, slots := 0, locals := 21 } : Room) [.ref (ad 8 r)] ad (fC g ad σ pd pl sc h) (dV ad (fC g ad σ pd pl (scR pl σ r sc (cN (σ 11 r))) h)) (noX) 0 0 := by
  refine MM.start (by decide) (Nat.le_of_ble_eq_true rfl) ?_
  intro hl9 p e s m below meth c ls hC hno hI hl0
  have hx := hC.1.1
  have hb := hC.1.2.1
  have hts := hC.1.2.2.2.2
  have hl : lv_has ls 5 [(0, .ref (ad 8 r))] := hl0
  obtain ⟨H, hH⟩ : ∃ H, H = s.heap := ⟨_, rfl⟩
  obtain ⟨locs, hLo⟩ : ∃ L : List Loc, L = [] := ⟨_, rfl⟩
  rw [← hH, ← hLo] at hI ⊢
  clear hH hLo hl0
  obtain ⟨h17, h60, h10, h6, h5, h12, hpr, hrm⟩ := id hok
  have h20 := (hR.pl hr).2
  have hr6 : r < 6 := by omega
  have hfr := hP.free hr hr6 (hR.pl hr).1
  refine lv_aload_n hx hb dX4_remember_0 rfl (lv_at hl 0 rfl) ?_
  refine gf_X4_47 hC hI (fC_8 hr) rfl dX4_remember_1 ?_
  refine lv_aload_n hx hb dX4_remember_4 rfl (lv_at hl 0 rfl) ?_
  refine gf_X4_43 hC hI (fC_8 hr) rfl dX4_remember_5 ?_
  refine c_Vv (rest := []) hl9 hC hI hl.1 (tX1_imitate l g B0 ad _ 10 r 9 r (by omega) _ _ _ _ _ _ _ _ _ _ (fC_10 hr) (fC_9 hr)) (cw_X4_105 hts rfl rfl ⟨(Nat.le_of_ble_eq_true rfl), (Nat.le_of_ble_eq_true rfl)⟩) (fC_10 hr) rfl rfl rfl rfl (Nat.le_of_ble_eq_true rfl) dX4_remember_8 ⟨(Nat.le_of_ble_eq_true rfl), (Nat.le_of_ble_eq_true rfl)⟩ (fun H locs hI => ?_)
  have hI : WI g ad B0 (fC g ad σ pd pl (s1 (s1 (s1 (s1 sc 2 r (σ 16 (6 * r + 2))) 3 r (σ 16 (6 * r + 3))) 4 r (σ 16 (6 * r + 1))) 5 r (σ 16 (6 * r + 4))) h) s H locs := hI.cast (fC_Mr hr)
  refine lv_aload_n hx hb dX4_remember_11 rfl (lv_at hl 0 rfl) ?_
  refine lv_aload_n hx hb dX4_remember_12 rfl (lv_at hl 0 rfl) ?_
  refine gf_X4_13 hC hI (fC_8 hr) rfl dX4_remember_13 ?_
  refine pf_X4_20 hC hI (fC_8 hr) (Nat.le_of_ble_eq_true rfl) dX4_remember_16 (fun H locs hI => ?_)
  have hI : WI g ad B0 (up2 (fC g ad σ pd pl (s1 (s1 (s1 (s1 sc 2 r (σ 16 (6 * r + 2))) 3 r (σ 16 (6 * r + 3))) 4 r (σ 16 (6 * r + 1))) 5 r (σ 16 (6 * r + 4))) h) 8 r (.inr (4, [.int (nI r), .int (σ 12 r), .ref (ad 9 r), .ref (ad 11 r), .int (σ 14 r), .int (σ 15 r), .int (σ 16 (6 * r)), .int (σ 16 (6 * r + 5)), .ref (ad 10 r), .int (σ 16 (6 * r)), .int ((s1 (s1 (s1 (s1 sc 2 r (σ 16 (6 * r + 2))) 3 r (σ 16 (6 * r + 3))) 4 r (σ 16 (6 * r + 1))) 5 r (σ 16 (6 * r + 4))) 1 r)]))) s H locs := hI.cast (rfl)
  refine lv_aload_n hx hb dX4_remember_19 rfl (lv_at hl 0 rfl) ?_
  refine lv_aload_n hx hb dX4_remember_20 rfl (lv_at hl 0 rfl) ?_
  refine gf_X4_17 hC hI (up2_s _ _ _ _) rfl dX4_remember_21 ?_
  refine pf_X4_23 hC hI (up2_s _ _ _ _) (Nat.le_of_ble_eq_true rfl) dX4_remember_24 (fun H locs hI => ?_)
  have hI : WI g ad B0 (up2 (fC g ad σ pd pl (s1 (s1 (s1 (s1 sc 2 r (σ 16 (6 * r + 2))) 3 r (σ 16 (6 * r + 3))) 4 r (σ 16 (6 * r + 1))) 5 r (σ 16 (6 * r + 4))) h) 8 r (.inr (4, [.int (nI r), .int (σ 12 r), .ref (ad 9 r), .ref (ad 11 r), .int (σ 14 r), .int (σ 15 r), .int (σ 16 (6 * r)), .int (σ 16 (6 * r + 5)), .ref (ad 10 r), .int (σ 16 (6 * r)), .int (σ 16 (6 * r + 5))]))) s H locs := hI.cast (up2_up2 _ _ _ _ _)
  have hI : WI g ad B0 (fC g ad σ pd pl (scR pl σ r sc 0) h) s H locs := hI.cast ((fC_Rr hr))
  refine lv_aload_n hx hb dX4_remember_27 rfl (lv_at hl 0 rfl) ?_
  refine gf_X4_31 hC hI (fC_8 hr) rfl dX4_remember_28 ?_
  refine lv_astore_n (lv' := [(1, .ref (ad 11 r)), (0, .ref (ad 8 r))]) hx hb dX4_remember_31 rfl hl (by decide) rfl (fun ls hl => ?_)
  refine lv_aload_n hx hb dX4_remember_32 rfl (lv_at hl 0 rfl) ?_
  refine r_alen hC hI (fC_11 hr) 2 rfl (v := nI (cN (σ 11 r))) rfl dX4_remember_33 ?_
  refine lv_istore_n (lv' := [(2, .int (nI (cN (σ 11 r)))), (1, .ref (ad 11 r)), (0, .ref (ad 8 r))]) hx hb dX4_remember_34 rfl hl (by decide) rfl (fun ls hl => ?_)
  refine lv_iconst (v := 0) hx hb dX4_remember_35 (by decide) ?_
  refine lv_istore_n (lv' := [(3, .int (nI 0)), (2, .int (nI (cN (σ 11 r)))), (1, .ref (ad 11 r)), (0, .ref (ad 8 r))]) hx hb dX4_remember_36 rfl hl (by decide) rfl (fun ls hl => ?_)
  have L37 : ∀ (n : Nat) (k : Nat), k ≤ cN (σ 11 r) → cN (σ 11 r) + 1 ≤ k + n → ∀ (H : Heap) (locs : List Loc), WI g ad B0 (fC g ad σ pd pl (scR pl σ r sc k) h) s H locs → ∀ (ls : Array Slot), lv_has ls 5 [(3, .int (nI k)), (2, .int (nI (cN (σ 11 r)))), (1, .ref (ad 11 r)), (0, .ref (ad 8 r))] → W p l e ({ frames := 1, cells := 0, slots := 0, locals := 21 } : Room) s m ([.ref (ad 8 r)] : List Value).toArray below meth c H locs 0 0 (vx_MQ below (QI g B0 (dV ad (fC g ad σ pd pl (scR pl σ r sc (cN (σ 11 r))) h))) (XI g B0 (noX)) ([.ref (ad 8 r)] : List Value).toArray s 0 0 (fun q => B0 ≤ q)) (F0 m 37 ls []) := by
    intro n
    induction n with
    | zero =>
      intro k hk hfu
      exact absurd hfu (by omega)
    | succ n ih37 =>
      intro k hk hfu H locs hI ls hl
      refine lv_iload_n hx hb dX4_remember_37 rfl (lv_at hl 0 rfl) ?_
      refine lv_iload_n hx hb dX4_remember_38 rfl (lv_at hl 1 rfl) ?_
      refine lv_icmp_ge (tgt := 63) hx hb dX4_remember_39 (by decide) (fun c39 => ?_) (fun c39 => ?_)
      · have hk2 : cN (σ 11 r) ≤ k := ge_T rfl (by omega) (by omega) c39
        have hk3 : k = cN (σ 11 r) := by omega
        subst hk3
        exact e_void hC hI ⟨rfl, rfl, rfl⟩ (Nat.le_of_ble_eq_true rfl) (Nat.le_of_ble_eq_true rfl) dX4_remember_63
      · have hk2 : k < cN (σ 11 r) := ge_F rfl (by omega) (by omega) c39
        refine lv_aload_n hx hb dX4_remember_42 rfl (lv_at hl 2 rfl) ?_
        refine lv_iload_n hx hb dX4_remember_43 rfl (lv_at hl 0 rfl) ?_
        refine r_aald hC hI (fC_11 hr) 2 rfl (j := k) rfl hk2 (by omega) dX4_remember_44 ?_
        refine lv_topo (fun e44 => ?_) (fun q44 e44 => ?_)
        · have hp := Option.map_eq_none_iff.mp e44
          have hI : WI g ad B0 (fC g ad σ pd pl (scR pl σ r sc (k + 1)) h) s H locs := hI.cast (by rw [scR_N hp])
          refine lv_astoreN (lv' := [(4, .null), (3, .int (nI k)), (2, .int (nI (cN (σ 11 r)))), (1, .ref (ad 11 r)), (0, .ref (ad 8 r))]) hx hb dX4_remember_45 hl (by decide) rfl (fun ls hl => ?_)
          refine lv_aloadN hx hb dX4_remember_47 (lv_at hl 0 rfl) ?_
          refine lv_ifnullN (tgt := 57) hx hb dX4_remember_49 (by decide) ?_
          refine lv_iinc (v := nI (k + 1)) (lv' := [(3, .int (nI (k + 1))), (4, .null), (2, .int (nI (cN (σ 11 r)))), (1, .ref (ad 11 r)), (0, .ref (ad 8 r))]) hx hb dX4_remember_57 hl (k := 1) rfl (nI_1 _) (by decide) rfl (fun ls hl => ?_)
          refine lv_goto (tgt := 37) hx hb dX4_remember_60 (by decide) ?_
          exact ih37 (k + 1) (by omega) (by omega) _ _ hI ls (lv_sub hl [0, 2, 3, 4] rfl)
        · obtain ⟨q0, hp, rfl⟩ := Option.map_eq_some_iff.mp e44
          have hq0 := (hP.on r k q0 hr hk2 hp).1
          refine lv_astore (lv' := [(4, .ref (ad 12 q0)), (3, .int (nI k)), (2, .int (nI (cN (σ 11 r)))), (1, .ref (ad 11 r)), (0, .ref (ad 8 r))]) hx hb dX4_remember_45 hl (by decide) rfl (fun ls hl => ?_)
          refine lv_aload hx hb dX4_remember_47 (lv_at hl 0 rfl) ?_
          refine lv_ifnull hx hb dX4_remember_49 ?_
          refine lv_aload hx hb dX4_remember_52 (lv_at hl 0 rfl) ?_
          refine c_Vv (rest := []) hl9 hC hI hl.1 (tX2_remember l g B0 ad _ q0 (prd σ q0) _ _ _ _ _ (fC_12 hq0)) (cw_X4_109 hts rfl rfl ⟨(Nat.le_of_ble_eq_true rfl), (Nat.le_of_ble_eq_true rfl)⟩) (fC_12 hq0) rfl rfl rfl rfl (Nat.le_of_ble_eq_true rfl) dX4_remember_54 ⟨(Nat.le_of_ble_eq_true rfl), (Nat.le_of_ble_eq_true rfl)⟩ (fun H locs hI => ?_)
          have hI : WI g ad B0 (fC g ad σ pd pl (scR pl σ r sc (k + 1)) h) s H locs := hI.cast ((fC_Pr hq0).trans (by rw [scR_S hp]))
          refine lv_iinc (v := nI (k + 1)) (lv' := [(3, .int (nI (k + 1))), (4, .ref (ad 12 q0)), (2, .int (nI (cN (σ 11 r)))), (1, .ref (ad 11 r)), (0, .ref (ad 8 r))]) hx hb dX4_remember_57 hl (k := 1) rfl (nI_1 _) (by decide) rfl (fun ls hl => ?_)
          refine lv_goto (tgt := 37) hx hb dX4_remember_60 (by decide) ?_
          exact ih37 (k + 1) (by omega) (by omega) _ _ hI ls (lv_sub hl [0, 2, 3, 4] rfl)
  exact L37 (cN (σ 11 r) + 1) 0 (by omega) (by omega) _ _ hI ls (lv_sub hl [0, 1, 2, 3] rfl)
set_option maxHeartbeats 4000000 in
set_option maxRecDepth 100000 in
theorem tX4_recall (l : Launch) (g : Gg) (B0 : Nat) (ad : Ad) (σ : Sg) (pd : Int64) (pl : Pl) (sc : Sg) (h : Wd) (r : Nat) (hr : r < nr σ) (hok : OkP σ) (hP : PlOk σ pl) (hR : Rg σ) : MM l g B0 yX4_recall (wsM yX4_recall cX4_recall 5 none) ({ frames := 1, cells := 0, slots := 0, locals := 21 } : Room) [.ref (ad 8 r)] ad (fC g ad σ pd pl sc h) (dV ad (fC g ad (rcS pl σ r sc (cN (σ 11 r))) pd pl sc h)) (noX) 0 0 := by
  refine MM.start (by decide) (Nat.le_of_ble_eq_true rfl) ?_
  intro hl9 p e s m below meth c ls hC hno hI hl0
  have hx := hC.1.1
  have hb := hC.1.2.1
  have hts := hC.1.2.2.2.2
  have hl : lv_has ls 5 [(0, .ref (ad 8 r))] := hl0
  obtain ⟨H, hH⟩ : ∃ H, H = s.heap := ⟨_, rfl⟩
  obtain ⟨locs, hLo⟩ : ∃ L : List Loc, L = [] := ⟨_, rfl⟩
  rw [← hH, ← hLo] at hI ⊢
  clear hH hLo hl0
  obtain ⟨h17, h60, h10, h6, h5, h12, hpr, hrm⟩ := id hok
  have h20 := (hR.pl hr).2
  have hr6 : r < 6 := by omega
  have hfr := hP.free hr hr6 (hR.pl hr).1
  refine lv_aload_n hx hb dX4_recall_0 rfl (lv_at hl 0 rfl) ?_
  refine gf_X4_43 hC hI (fC_8 hr) rfl dX4_recall_1 ?_
  refine lv_aload_n hx hb dX4_recall_4 rfl (lv_at hl 0 rfl) ?_
  refine gf_X4_47 hC hI (fC_8 hr) rfl dX4_recall_5 ?_
  refine c_Vv (rest := []) hl9 hC hI hl.1 (tX1_imitate l g B0 ad _ 9 r 10 r (by omega) _ _ _ _ _ _ _ _ _ _ (fC_9 hr) (fC_10 hr)) (cw_X4_105 hts rfl rfl ⟨(Nat.le_of_ble_eq_true rfl), (Nat.le_of_ble_eq_true rfl)⟩) (fC_9 hr) rfl rfl rfl rfl (Nat.le_of_ble_eq_true rfl) dX4_recall_8 ⟨(Nat.le_of_ble_eq_true rfl), (Nat.le_of_ble_eq_true rfl)⟩ (fun H locs hI => ?_)
  have hI : WI g ad B0 (fC g ad (su σ 16 (rcF σ r sc)) pd pl sc h) s H locs := hI.cast (fC_M hr (by unfold rcF; rw [if_pos rfl]) (by unfold rcF; rw [if_neg (by omega), if_pos rfl]) (by unfold rcF; rw [if_neg (by omega), if_neg (by omega), if_pos rfl]) (by unfold rcF; rw [if_neg (by omega), if_neg (by omega), if_neg (by omega), if_pos rfl]) (fun j hj => by unfold rcF; rw [if_neg (by omega), if_neg (by omega), if_neg (by omega), if_neg (by omega)]))
  refine lv_aload_n hx hb dX4_recall_11 rfl (lv_at hl 0 rfl) ?_
  refine lv_aload_n hx hb dX4_recall_12 rfl (lv_at hl 0 rfl) ?_
  refine gf_X4_20 hC hI (fC_8 hr) rfl dX4_recall_13 ?_
  refine pf_X4_13 hC hI (fC_8 hr) (Nat.le_of_ble_eq_true rfl) dX4_recall_16 (fun H locs hI => ?_)
  have hI : WI g ad B0 (up2 (fC g ad (su σ 16 (rcF σ r sc)) pd pl sc h) 8 r (.inr (4, [.int (nI r), .int ((su σ 16 (rcF σ r sc)) 12 r), .ref (ad 9 r), .ref (ad 11 r), .int ((su σ 16 (rcF σ r sc)) 14 r), .int ((su σ 16 (rcF σ r sc)) 15 r), .int (sc 0 r), .int ((su σ 16 (rcF σ r sc)) 16 (6 * r + 5)), .ref (ad 10 r), .int (sc 0 r), .int (sc 1 r)]))) s H locs := hI.cast (rfl)
  have hI : WI g ad B0 (fC g ad (s1 (su σ 16 (rcF σ r sc)) 16 (6 * r) (sc 0 r)) pd pl sc h) s H locs := hI.cast (fC_T (σ := su σ 16 (rcF σ r sc)) hr)
  refine lv_aload_n hx hb dX4_recall_19 rfl (lv_at hl 0 rfl) ?_
  refine lv_aload_n hx hb dX4_recall_20 rfl (lv_at hl 0 rfl) ?_
  refine gf_X4_23 hC hI (fC_8 hr) rfl dX4_recall_21 ?_
  refine pf_X4_17 hC hI (fC_8 hr) (Nat.le_of_ble_eq_true rfl) dX4_recall_24 (fun H locs hI => ?_)
  have hI : WI g ad B0 (up2 (fC g ad (s1 (su σ 16 (rcF σ r sc)) 16 (6 * r) (sc 0 r)) pd pl sc h) 8 r (.inr (4, [.int (nI r), .int ((s1 (su σ 16 (rcF σ r sc)) 16 (6 * r) (sc 0 r)) 12 r), .ref (ad 9 r), .ref (ad 11 r), .int ((s1 (su σ 16 (rcF σ r sc)) 16 (6 * r) (sc 0 r)) 14 r), .int ((s1 (su σ 16 (rcF σ r sc)) 16 (6 * r) (sc 0 r)) 15 r), .int ((s1 (su σ 16 (rcF σ r sc)) 16 (6 * r) (sc 0 r)) 16 (6 * r)), .int (sc 1 r), .ref (ad 10 r), .int (sc 0 r), .int (sc 1 r)]))) s H locs := hI.cast (rfl)
  have hI : WI g ad B0 (fC g ad (rcS pl σ r sc 0) pd pl sc h) s H locs := hI.cast (fC_W (σ := s1 (su σ 16 (rcF σ r sc)) 16 (6 * r) (sc 0 r)) hr)
  refine lv_aload_n hx hb dX4_recall_27 rfl (lv_at hl 0 rfl) ?_
  refine gf_X4_31 hC hI (fC_8 (rcS_nr hr)) rfl dX4_recall_28 ?_
  refine lv_astore_n (lv' := [(1, .ref (ad 11 r)), (0, .ref (ad 8 r))]) hx hb dX4_recall_31 rfl hl (by decide) rfl (fun ls hl => ?_)
  refine lv_aload_n hx hb dX4_recall_32 rfl (lv_at hl 0 rfl) ?_
  refine r_alen hC hI (fC_11 (rcS_nr hr)) 2 rfl (v := nI (cN ((rcS pl σ r sc 0) 11 r))) rfl dX4_recall_33 ?_
  refine lv_istore_n (lv' := [(2, .int (nI (cN (σ 11 r)))), (1, .ref (ad 11 r)), (0, .ref (ad 8 r))]) hx hb dX4_recall_34 rfl hl (by decide) rfl (fun ls hl => ?_)
  refine lv_iconst (v := 0) hx hb dX4_recall_35 (by decide) ?_
  refine lv_istore_n (lv' := [(3, .int (nI 0)), (2, .int (nI (cN (σ 11 r)))), (1, .ref (ad 11 r)), (0, .ref (ad 8 r))]) hx hb dX4_recall_36 rfl hl (by decide) rfl (fun ls hl => ?_)
  have L37 : ∀ (n : Nat) (k : Nat), k ≤ cN (σ 11 r) → cN (σ 11 r) + 1 ≤ k + n → ∀ (H : Heap) (locs : List Loc), WI g ad B0 (fC g ad (rcS pl σ r sc k) pd pl sc h) s H locs → ∀ (ls : Array Slot), lv_has ls 5 [(3, .int (nI k)), (2, .int (nI (cN (σ 11 r)))), (1, .ref (ad 11 r)), (0, .ref (ad 8 r))] → W p l e ({ frames := 1, cells := 0, slots := 0, locals := 21 } : Room) s m ([.ref (ad 8 r)] : List Value).toArray below meth c H locs 0 0 (vx_MQ below (QI g B0 (dV ad (fC g ad (rcS pl σ r sc (cN (σ 11 r))) pd pl sc h))) (XI g B0 (noX)) ([.ref (ad 8 r)] : List Value).toArray s 0 0 (fun q => B0 ≤ q)) (F0 m 37 ls []) := by
    intro n
    induction n with
    | zero =>
      intro k hk hfu
      exact absurd hfu (by omega)
    | succ n ih37 =>
      intro k hk hfu H locs hI ls hl
      refine lv_iload_n hx hb dX4_recall_37 rfl (lv_at hl 0 rfl) ?_
      refine lv_iload_n hx hb dX4_recall_38 rfl (lv_at hl 1 rfl) ?_
      refine lv_icmp_ge (tgt := 63) hx hb dX4_recall_39 (by decide) (fun c39 => ?_) (fun c39 => ?_)
      · have hk2 : cN (σ 11 r) ≤ k := ge_T rfl (by omega) (by omega) c39
        have hk3 : k = cN (σ 11 r) := by omega
        subst hk3
        exact e_void hC hI ⟨rfl, rfl, rfl⟩ (Nat.le_of_ble_eq_true rfl) (Nat.le_of_ble_eq_true rfl) dX4_recall_63
      · have hk2 : k < cN (σ 11 r) := ge_F rfl (by omega) (by omega) c39
        refine lv_aload_n hx hb dX4_recall_42 rfl (lv_at hl 2 rfl) ?_
        refine lv_iload_n hx hb dX4_recall_43 rfl (lv_at hl 0 rfl) ?_
        refine r_aald hC hI (fC_11 (rcS_nr hr)) 2 rfl (j := k) rfl (by rw [rcS_row (by decide) (by decide) (by decide)]; exact hk2) (by rw [rcS_row (by decide) (by decide) (by decide)]; omega) dX4_recall_44 ?_
        refine lv_topo (fun e44 => ?_) (fun q44 e44 => ?_)
        · have hp := Option.map_eq_none_iff.mp e44
          have hI : WI g ad B0 (fC g ad (rcS pl σ r sc (k + 1)) pd pl sc h) s H locs := hI.cast (by rw [rcS_N hp])
          refine lv_astoreN (lv' := [(4, .null), (3, .int (nI k)), (2, .int (nI (cN (σ 11 r)))), (1, .ref (ad 11 r)), (0, .ref (ad 8 r))]) hx hb dX4_recall_45 hl (by decide) rfl (fun ls hl => ?_)
          refine lv_aloadN hx hb dX4_recall_47 (lv_at hl 0 rfl) ?_
          refine lv_ifnullN (tgt := 57) hx hb dX4_recall_49 (by decide) ?_
          refine lv_iinc (v := nI (k + 1)) (lv' := [(3, .int (nI (k + 1))), (4, .null), (2, .int (nI (cN (σ 11 r)))), (1, .ref (ad 11 r)), (0, .ref (ad 8 r))]) hx hb dX4_recall_57 hl (k := 1) rfl (nI_1 _) (by decide) rfl (fun ls hl => ?_)
          refine lv_goto (tgt := 37) hx hb dX4_recall_60 (by decide) ?_
          exact ih37 (k + 1) (by omega) (by omega) _ _ hI ls (lv_sub hl [0, 2, 3, 4] rfl)
        · obtain ⟨q0, hp, rfl⟩ := Option.map_eq_some_iff.mp e44
          have hq0 := (hP.on r k q0 hr hk2 hp).1
          have hq0k : q0 < nt (rcS pl σ r sc k) := rcS_nt hq0
          refine lv_astore (lv' := [(4, .ref (ad 12 q0)), (3, .int (nI k)), (2, .int (nI (cN (σ 11 r)))), (1, .ref (ad 11 r)), (0, .ref (ad 8 r))]) hx hb dX4_recall_45 hl (by decide) rfl (fun ls hl => ?_)
          refine lv_aload hx hb dX4_recall_47 (lv_at hl 0 rfl) ?_
          refine lv_ifnull hx hb dX4_recall_49 ?_
          refine lv_aload hx hb dX4_recall_52 (lv_at hl 0 rfl) ?_
          refine c_Vv (rest := []) hl9 hC hI hl.1 (tX2_recall l g B0 ad _ q0 (prd (rcS pl σ r sc k) q0) _ _ _ _ _ (fC_12 hq0k)) (cw_X4_112 hts rfl rfl ⟨(Nat.le_of_ble_eq_true rfl), (Nat.le_of_ble_eq_true rfl)⟩) (fC_12 hq0k) rfl rfl rfl rfl (Nat.le_of_ble_eq_true rfl) dX4_recall_54 ⟨(Nat.le_of_ble_eq_true rfl), (Nat.le_of_ble_eq_true rfl)⟩ (fun H locs hI => ?_)
          have hI : WI g ad B0 (fC g ad (rcS pl σ r sc (k + 1)) pd pl sc h) s H locs := hI.cast ((fC_P hq0k).trans (by rw [rcS_S hp]))
          refine lv_iinc (v := nI (k + 1)) (lv' := [(3, .int (nI (k + 1))), (4, .ref (ad 12 q0)), (2, .int (nI (cN (σ 11 r)))), (1, .ref (ad 11 r)), (0, .ref (ad 8 r))]) hx hb dX4_recall_57 hl (k := 1) rfl (nI_1 _) (by decide) rfl (fun ls hl => ?_)
          refine lv_goto (tgt := 37) hx hb dX4_recall_60 (by decide) ?_
          exact ih37 (k + 1) (by omega) (by omega) _ _ hI ls (lv_sub hl [0, 2, 3, 4] rfl)
  exact L37 (cN (σ 11 r) + 1) 0 (by omega) (by omega) _ _ hI ls (lv_sub hl [0, 1, 2, 3] rfl)
