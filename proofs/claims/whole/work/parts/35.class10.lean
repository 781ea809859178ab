/-! THE COLD STORE: its digest's parts, a pallet leaves, the hour of a room -/
def dgRc (σ : Sg) (d : Int64) : Nat → Int64
  | 0 => d
  | r + 1 => if r < nr σ then dgR1 σ r (dgRc σ d r) 7 * 31 + (if σ 15 r = 0 then 0 else 1) else dgRc σ d r
theorem dgRc_T {σ : Sg} {d : Int64} {r : Nat} (h : r < nr σ) : dgRc σ d (r + 1) = dgR1 σ r (dgRc σ d r) 7 * 31 + (if σ 15 r = 0 then 0 else 1) := if_pos h
theorem dgRc_F {σ : Sg} {d : Int64} {r : Nat} (h : ¬ r < nr σ) : dgRc σ d (r + 1) = dgRc σ d r := if_neg h
theorem dgRc_le {σ : Sg} {d : Int64} : ∀ n : Nat, n ≤ nr σ → dgRc σ d n = dgR σ d n
  | 0, _ => rfl
  | n + 1, h => by
    rw [dgRc_T (by omega), dgRc_le n (by omega)]
    rfl
theorem dgRc_end {σ : Sg} {d : Int64} : ∀ k : Nat, dgRc σ d (nr σ + k) = dgR σ d (nr σ)
  | 0 => dgRc_le _ (Nat.le_refl _)
  | k + 1 => (dgRc_F (r := nr σ + k) (by omega)).trans (dgRc_end k)
theorem dgRc_6 {σ : Sg} {d : Int64} (h : nr σ ≤ 6) : dgRc σ d 6 = dgR σ d (nr σ) := by
  have e := dgRc_end (σ := σ) (d := d) (6 - nr σ)
  rw [show nr σ + (6 - nr σ) = 6 by omega] at e
  exact e
def dgPc (σ : Sg) (d : Int64) : Nat → Int64
  | 0 => d
  | q + 1 => if q < nt σ then dgP1 σ q (dgPc σ d q) 5 else dgPc σ d q
theorem dgPc_T {σ : Sg} {d : Int64} {q : Nat} (h : q < nt σ) : dgPc σ d (q + 1) = dgP1 σ q (dgPc σ d q) 5 := if_pos h
theorem dgPc_F {σ : Sg} {d : Int64} {q : Nat} (h : ¬ q < nt σ) : dgPc σ d (q + 1) = dgPc σ d q := if_neg h
theorem dgPc_le {σ : Sg} {d : Int64} : ∀ n : Nat, n ≤ nt σ → dgPc σ d n = dgP σ d n
  | 0, _ => rfl
  | n + 1, h => by
    rw [dgPc_T (by omega), dgPc_le n (by omega)]
    rfl
theorem dgPc_end {σ : Sg} {d : Int64} : ∀ k : Nat, dgPc σ d (nt σ + k) = dgP σ d (nt σ)
  | 0 => dgPc_le _ (Nat.le_refl _)
  | k + 1 => (dgPc_F (q := nt σ + k) (by omega)).trans (dgPc_end k)
theorem dgPc_60 {σ : Sg} {d : Int64} (h : nt σ ≤ 60) : dgPc σ d 60 = dgP σ d (nt σ) := by
  have e := dgPc_end (σ := σ) (d := d) (60 - nt σ)
  rw [show nt σ + (60 - nt σ) = 60 by omega] at e
  exact e
theorem toldP_gone {σ : Sg} {q : Nat} {w : Int32} (hok : OkP σ) (hq : q < nt σ) (h : σ 19 q = -1) : (if w = 0 then nI (prd σ q) else if w = 1 then σ 20 q else if w = 2 then σ 21 q else if w = 3 then -1 else σ 8 (prd σ q) - σ 21 q) = toldP σ q w := by
  obtain ⟨-, -, -, -, -, -, hpr, -⟩ := hok
  unfold toldP leftS
  rw [← (hpr q hq).1, h]
theorem toldP_here {σ : Sg} {q : Nat} {w : Int32} (hok : OkP σ) (hq : q < nt σ) (h : ¬ σ 19 q = -1) : (if w = 0 then nI (prd σ q) else if w = 1 then σ 20 q else if w = 2 then σ 21 q else if w = 3 then nI (rmo σ q) else σ 8 (prd σ q) - σ 21 q) = toldP σ q w := by
  obtain ⟨-, -, -, -, -, -, hpr, hrm⟩ := hok
  unfold toldP leftS
  rw [← (hpr q hq).1, ← (hrm q hq h).1]
/-- what is told of a pallet -/
theorem tX2_fact (l : Launch) (g : Gg) (B0 : Nat) (ad : Ad) (σ : Sg) (pd : Int64) (pl : Pl) (sc : Sg) (h : Wd) (q : Nat) (w : Int32) (hok : OkP σ) (hq : q < nt σ) : MM l g B0 yX2_fact (wsM yX2_fact cX2_fact 2 (some .int)) ({ frames := 1, cells := 0, slots := 0, locals := 20 } : Room) [.ref (ad 12 q), .int w] ad (fC g ad σ pd pl sc h) (dI (toldP σ q w) ad (fC g ad σ pd pl sc h)) noX 0 0 := by
  obtain ⟨h17, h60, h10, h6, h5, h12, hpr, hrm⟩ := id hok
  by_cases hz : σ 19 q = -1
  · have e := tX2_factN l g B0 ad (fC g ad σ pd pl sc h) q (prd σ q) 0 0 (σ 20 q) (σ 21 q) (sc 6 q) (sc 7 q) (nI (prd σ q)) (σ 6 (prd σ q)) (σ 7 (prd σ q)) (σ 8 (prd σ q)) (σ 9 (prd σ q)) w (by rw [fC_12 hq, palE, rm_none.mpr hz]; rfl) (fC_7 (hpr q hq).2)
    rw [toldP_gone hok hq hz] at e
    exact e
  · have hr := (hrm q hq hz).2
    have e := tX2_factS l g B0 ad (fC g ad σ pd pl sc h) q (prd σ q) (rmo σ q) (nI (rmo σ q)) (σ 20 q) (σ 21 q) (sc 6 q) (sc 7 q) (nI (prd σ q)) (σ 6 (prd σ q)) (σ 7 (prd σ q)) (σ 8 (prd σ q)) (σ 9 (prd σ q)) w _ (fC_8 hr) (by rw [fC_12 hq, palE, rmR, if_neg hz]; rfl) (fC_7 (hpr q hq).2)
    rw [toldP_here hok hq hz] at e
    exact e

set_option maxHeartbeats 4000000 in
set_option maxRecDepth 100000 in
theorem tX6_mixRooms (l : Launch) (g : Gg) (B0 : Nat) (ad : Ad) (σ : Sg) (pd : Int64) (pl : Pl) (sc : Sg) (h : Wd) (d : Int64) (hok : OkP σ) (hP : PlOk σ pl) (hR : Rg σ) : MM l g B0 yX6_mixRooms (wsM yX6_mixRooms cX6_mixRooms 10 (some .long)) ({ frames := 2, cells := 0, slots := 0, locals := 46 } : Room) [.ref (ad 0 0), .long d] ad (fC g ad σ pd pl sc h) (dL (dgR σ d (nr σ)) ad (fC g ad σ pd pl sc h)) (noX) 0 0 := by
  refine MM.start (by decide) (Nat.le_of_ble_eq_true rfl) ?_
  intro hl9 p e s m below meth c ls hC hno hI hl0
  have hx := hC.1.1
  have hb := hC.1.2.1
  have hts := hC.1.2.2.2.2
  have hl : lv_has ls 10 [(0, .ref (ad 0 0)), (1, .long d)] := hl0
  obtain ⟨H, hH⟩ : ∃ H, H = s.heap := ⟨_, rfl⟩
  obtain ⟨locs, hLo⟩ : ∃ L : List Loc, L = [] := ⟨_, rfl⟩
  rw [← hH, ← hLo] at hI ⊢
  clear hH hLo hl0
  obtain ⟨h17, h60, h10, h6, h5, h12, hpr, hrm⟩ := id hok
  refine lv_lload_n hx hb dX6_mixRooms_0 rfl (lv_at hl 1 rfl) ?_
  refine lv_lstore_n (lv' := [(3, .long (dgRc σ d 0)), (0, .ref (ad 0 0)), (1, .long d)]) hx hb dX6_mixRooms_1 rfl hl (by decide) rfl (fun ls hl => ?_)
  refine lv_aload_n hx hb dX6_mixRooms_2 rfl (lv_at hl 1 rfl) ?_
  refine gf_X6_31 hC hI fC_0 rfl dX6_mixRooms_3 ?_
  refine lv_astore (lv' := [(5, .ref (ad 5 0)), (3, .long (dgRc σ d 0)), (0, .ref (ad 0 0)), (1, .long d)]) hx hb dX6_mixRooms_6 hl (by decide) rfl (fun ls hl => ?_)
  refine lv_aload hx hb dX6_mixRooms_8 (lv_at hl 0 rfl) ?_
  refine r_alen hC hI fC_5 4 rfl (v := 6) rfl dX6_mixRooms_10 ?_
  refine lv_istore (lv' := [(6, .int 6), (5, .ref (ad 5 0)), (3, .long (dgRc σ d 0)), (0, .ref (ad 0 0)), (1, .long d)]) hx hb dX6_mixRooms_11 hl (by decide) rfl (fun ls hl => ?_)
  refine lv_iconst (v := 0) hx hb dX6_mixRooms_13 (by decide) ?_
  refine lv_istore (lv' := [(7, .int (nI 0)), (6, .int 6), (5, .ref (ad 5 0)), (3, .long (dgRc σ d 0)), (0, .ref (ad 0 0)), (1, .long d)]) hx hb dX6_mixRooms_14 hl (by decide) rfl (fun ls hl => ?_)
  have L16 : ∀ (n : Nat) (k : Nat), k ≤ 6 → 7 ≤ k + n → ∀ (H : Heap) (locs : List Loc), WI g ad B0 (fC g ad σ pd pl sc h) s H locs → ∀ (ls : Array Slot), lv_has ls 10 [(7, .int (nI k)), (6, .int 6), (5, .ref (ad 5 0)), (3, .long (dgRc σ d k)), (0, .ref (ad 0 0))] → W p l e ({ frames := 2, cells := 0, slots := 0, locals := 46 } : Room) s m ([.ref (ad 0 0), .long d] : List Value).toArray below meth c H locs 0 0 (vx_MQ below (QI g B0 (dL (dgR σ d (nr σ)) ad (fC g ad σ pd pl sc h))) (XI g B0 (noX)) ([.ref (ad 0 0), .long d] : List Value).toArray s 0 0 (fun q => B0 ≤ q)) (F0 m 16 ls []) := by
    intro n
    induction n with
    | zero =>
      intro k hk hfu
      exact absurd hfu (by omega)
    | succ n ih16 =>
      intro k hk hfu H locs hI ls hl
      refine lv_iload hx hb dX6_mixRooms_16 (lv_at hl 0 rfl) ?_
      refine lv_iload hx hb dX6_mixRooms_18 (lv_at hl 1 rfl) ?_
      refine lv_icmp_ge (tgt := 88) hx hb dX6_mixRooms_20 (by decide) (fun c20 => ?_) (fun c20 => ?_)
      · have hk2 : 6 ≤ k := ge_T rfl (by decide) (by omega) c20
        refine lv_lload_n hx hb dX6_mixRooms_88 rfl (lv_at hl 3 rfl) ?_
        exact e_long hC hI (rL (by rw [show k = 6 by omega]; exact dgRc_6 h6)) (Nat.le_of_ble_eq_true rfl) (Nat.le_of_ble_eq_true rfl) dX6_mixRooms_89
      · have hk2 : k < 6 := ge_F rfl (by decide) (by omega) c20
        refine lv_aload hx hb dX6_mixRooms_23 (lv_at hl 2 rfl) ?_
        refine lv_iload hx hb dX6_mixRooms_25 (lv_at hl 0 rfl) ?_
        refine r_aald hC hI fC_5 4 rfl (j := k) rfl hk2 (by decide) dX6_mixRooms_27 ?_
        refine lv_topo (fun e27 => ?_) (fun q27 e27 => ?_)
        · have hlt := opt_n e27
          have hl : lv_has ls 10 [(7, .int (nI k)), (6, .int 6), (5, .ref (ad 5 0)), (3, .long (dgRc σ d (k + 1))), (0, .ref (ad 0 0))] := by rw [show dgRc σ d (k + 1) = dgRc σ d k from (dgRc_F hlt)]; exact hl
          refine lv_astoreN (lv' := [(8, .null), (7, .int (nI k)), (6, .int 6), (5, .ref (ad 5 0)), (3, .long (dgRc σ d (k + 1))), (0, .ref (ad 0 0))]) hx hb dX6_mixRooms_28 hl (by decide) rfl (fun ls hl => ?_)
          refine lv_aloadN hx hb dX6_mixRooms_30 (lv_at hl 0 rfl) ?_
          refine lv_ifnullN (tgt := 82) hx hb dX6_mixRooms_32 (by decide) ?_
          refine lv_iinc (v := nI (k + 1)) (lv' := [(7, .int (nI (k + 1))), (8, .null), (6, .int 6), (5, .ref (ad 5 0)), (3, .long (dgRc σ d (k + 1))), (0, .ref (ad 0 0))]) hx hb dX6_mixRooms_82 hl (k := 1) rfl (nI_1 _) (by decide) rfl (fun ls hl => ?_)
          refine lv_goto (tgt := 16) hx hb dX6_mixRooms_85 (by decide) ?_
          exact ih16 (k + 1) (by omega) (by omega) _ _ hI ls (lv_sub hl [0, 2, 3, 4, 5] rfl)
        · obtain ⟨hlt, rfl⟩ := opt_y e27
          refine lv_astore (lv' := [(8, .ref (ad 8 k)), (7, .int (nI k)), (6, .int 6), (5, .ref (ad 5 0)), (3, .long (dgRc σ d k)), (0, .ref (ad 0 0))]) hx hb dX6_mixRooms_28 hl (by decide) rfl (fun ls hl => ?_)
          refine lv_aload hx hb dX6_mixRooms_30 (lv_at hl 0 rfl) ?_
          refine lv_ifnull hx hb dX6_mixRooms_32 ?_
          refine lv_iconst (v := 0) hx hb dX6_mixRooms_35 (by decide) ?_
          refine lv_istore (lv' := [(9, .int (nI 0)), (8, .ref (ad 8 k)), (7, .int (nI k)), (6, .int 6), (5, .ref (ad 5 0)), (3, .long (dgRc σ d k)), (0, .ref (ad 0 0))]) hx hb dX6_mixRooms_36 hl (by decide) rfl (fun ls hl => ?_)
          have L38 : ∀ (n2 : Nat) (w : Nat), w ≤ 7 → 8 ≤ w + n2 → ∀ (H : Heap) (locs : List Loc), WI g ad B0 (fC g ad σ pd pl sc h) s H locs → ∀ (ls : Array Slot), lv_has ls 10 [(9, .int (nI w)), (8, .ref (ad 8 k)), (7, .int (nI k)), (6, .int 6), (5, .ref (ad 5 0)), (3, .long (dgR1 σ k (dgRc σ d k) w)), (0, .ref (ad 0 0))] → W p l e ({ frames := 2, cells := 0, slots := 0, locals := 46 } : Room) s m ([.ref (ad 0 0), .long d] : List Value).toArray below meth c H locs 0 0 (vx_MQ below (QI g B0 (dL (dgR σ d (nr σ)) ad (fC g ad σ pd pl sc h))) (XI g B0 (noX)) ([.ref (ad 0 0), .long d] : List Value).toArray s 0 0 (fun q => B0 ≤ q)) (F0 m 38 ls []) := by
            intro n2
            induction n2 with
            | zero =>
              intro w hw hfu2
              exact absurd hfu2 (by omega)
            | succ n2 ih38 =>
              intro w hw hfu2 H locs hI ls hl
              refine lv_iload hx hb dX6_mixRooms_38 (lv_at hl 0 rfl) ?_
              refine lv_bipush (v := 7) hx hb dX6_mixRooms_40 (by decide) ?_
              refine lv_icmp_ge (tgt := 64) hx hb dX6_mixRooms_42 (by decide) (fun c42 => ?_) (fun c42 => ?_)
              · have hw2 : 7 ≤ w := ge_T rfl (by decide) (by omega) c42
                have hw3 : w = 7 := by omega
                have hl : lv_has ls 10 [(9, .int (nI w)), (8, .ref (ad 8 k)), (7, .int (nI k)), (6, .int 6), (5, .ref (ad 5 0)), (3, .long (dgR1 σ k (dgRc σ d k) 7)), (0, .ref (ad 0 0))] := by rw [show dgR1 σ k (dgRc σ d k) 7 = dgR1 σ k (dgRc σ d k) w from (by rw [hw3])]; exact hl
                refine lv_lload_n hx hb dX6_mixRooms_64 rfl (lv_at hl 5 rfl) ?_
                refine lv_aload hx hb dX6_mixRooms_65 (lv_at hl 1 rfl) ?_
                refine gf_X6_101 hC hI (fC_8 hlt) rfl dX6_mixRooms_67 ?_
                refine lv_if_eq (tgt := 77) hx hb dX6_mixRooms_70 (by decide) (fun c70 => ?_) (fun c70 => ?_)
                · refine lv_lconst (v := 0) hx hb dX6_mixRooms_77 (by decide) ?_
                  refine c_Sl (rest := []) hl9 hC hI hl.1 (tX6_mix l g B0 ad _ (dgR1 σ k (dgRc σ d k) 7) 0) (cw_X6_233 hts rfl rfl ⟨(Nat.le_of_ble_eq_true rfl), (Nat.le_of_ble_eq_true rfl)⟩) rfl rfl (Nat.le_of_ble_eq_true rfl) dX6_mixRooms_78 ⟨(Nat.le_of_ble_eq_true rfl), (Nat.le_of_ble_eq_true rfl)⟩ (fun H locs hI => ?_)
                  rw [show dgR1 σ k (dgRc σ d k) 7 * 31 + 0 = dgRc σ d (k + 1) from by rw [dgRc_T hlt, if_pos c70]]
                  refine lv_lstore_n (lv' := [(3, .long (dgRc σ d (k + 1))), (9, .int (nI w)), (8, .ref (ad 8 k)), (7, .int (nI k)), (6, .int 6), (5, .ref (ad 5 0)), (0, .ref (ad 0 0))]) hx hb dX6_mixRooms_81 rfl hl (by decide) rfl (fun ls hl => ?_)
                  refine lv_iinc (v := nI (k + 1)) (lv' := [(7, .int (nI (k + 1))), (3, .long (dgRc σ d (k + 1))), (9, .int (nI w)), (8, .ref (ad 8 k)), (6, .int 6), (5, .ref (ad 5 0)), (0, .ref (ad 0 0))]) hx hb dX6_mixRooms_82 hl (k := 3) rfl (nI_1 _) (by decide) rfl (fun ls hl => ?_)
                  refine lv_goto (tgt := 16) hx hb dX6_mixRooms_85 (by decide) ?_
                  exact ih16 (k + 1) (by omega) (by omega) _ _ hI ls (lv_sub hl [0, 4, 5, 1, 6] rfl)
                · refine lv_lconst (v := 1) hx hb dX6_mixRooms_73 (by decide) ?_
                  refine lv_goto (tgt := 78) hx hb dX6_mixRooms_74 (by decide) ?_
                  refine c_Sl (rest := []) hl9 hC hI hl.1 (tX6_mix l g B0 ad _ (dgR1 σ k (dgRc σ d k) 7) 1) (cw_X6_233 hts rfl rfl ⟨(Nat.le_of_ble_eq_true rfl), (Nat.le_of_ble_eq_true rfl)⟩) rfl rfl (Nat.le_of_ble_eq_true rfl) dX6_mixRooms_78 ⟨(Nat.le_of_ble_eq_true rfl), (Nat.le_of_ble_eq_true rfl)⟩ (fun H locs hI => ?_)
                  rw [show dgR1 σ k (dgRc σ d k) 7 * 31 + 1 = dgRc σ d (k + 1) from by rw [dgRc_T hlt, if_neg c70]]
                  refine lv_lstore_n (lv' := [(3, .long (dgRc σ d (k + 1))), (9, .int (nI w)), (8, .ref (ad 8 k)), (7, .int (nI k)), (6, .int 6), (5, .ref (ad 5 0)), (0, .ref (ad 0 0))]) hx hb dX6_mixRooms_81 rfl hl (by decide) rfl (fun ls hl => ?_)
                  refine lv_iinc (v := nI (k + 1)) (lv' := [(7, .int (nI (k + 1))), (3, .long (dgRc σ d (k + 1))), (9, .int (nI w)), (8, .ref (ad 8 k)), (6, .int 6), (5, .ref (ad 5 0)), (0, .ref (ad 0 0))]) hx hb dX6_mixRooms_82 hl (k := 3) rfl (nI_1 _) (by decide) rfl (fun ls hl => ?_)
                  refine lv_goto (tgt := 16) hx hb dX6_mixRooms_85 (by decide) ?_
                  exact ih16 (k + 1) (by omega) (by omega) _ _ hI ls (lv_sub hl [0, 4, 5, 1, 6] rfl)
              · have hw2 : w < 7 := ge_F rfl (by decide) (by omega) c42
                refine lv_lload_n hx hb dX6_mixRooms_45 rfl (lv_at hl 5 rfl) ?_
                refine lv_aload hx hb dX6_mixRooms_46 (lv_at hl 1 rfl) ?_
                refine lv_iload hx hb dX6_mixRooms_48 (lv_at hl 0 rfl) ?_
                refine c_Vi (rest := [.long (dgR1 σ k (dgRc σ d k) w)]) hl9 hC hI hl.1 (tX4_fact l g B0 ad σ pd pl sc h k hlt (nI w) hok hP hR) (cw_X6_126 hts rfl rfl ⟨(Nat.le_of_ble_eq_true rfl), (Nat.le_of_ble_eq_true rfl)⟩) (fC_8 hlt) rfl rfl rfl rfl (Nat.le_of_ble_eq_true rfl) dX6_mixRooms_50 ⟨(Nat.le_of_ble_eq_true rfl), (Nat.le_of_ble_eq_true rfl)⟩ (fun H locs hI => ?_)
                rw [told_eq σ k w hw2]
                refine lv_i2l hx hb dX6_mixRooms_53 rfl ?_
                refine c_Sl (rest := []) hl9 hC hI hl.1 (tX6_mix l g B0 ad _ (dgR1 σ k (dgRc σ d k) w) ((toldR σ k w).toInt64)) (cw_X6_233 hts rfl rfl ⟨(Nat.le_of_ble_eq_true rfl), (Nat.le_of_ble_eq_true rfl)⟩) rfl rfl (Nat.le_of_ble_eq_true rfl) dX6_mixRooms_54 ⟨(Nat.le_of_ble_eq_true rfl), (Nat.le_of_ble_eq_true rfl)⟩ (fun H locs hI => ?_)
                refine lv_lstore_n (lv' := [(3, .long (dgR1 σ k (dgRc σ d k) (w + 1))), (9, .int (nI w)), (8, .ref (ad 8 k)), (7, .int (nI k)), (6, .int 6), (5, .ref (ad 5 0)), (0, .ref (ad 0 0))]) hx hb dX6_mixRooms_57 rfl hl (by decide) rfl (fun ls hl => ?_)
                refine lv_iinc (v := nI (w + 1)) (lv' := [(9, .int (nI (w + 1))), (3, .long (dgR1 σ k (dgRc σ d k) (w + 1))), (8, .ref (ad 8 k)), (7, .int (nI k)), (6, .int 6), (5, .ref (ad 5 0)), (0, .ref (ad 0 0))]) hx hb dX6_mixRooms_58 hl (k := 1) rfl (nI_1 _) (by decide) rfl (fun ls hl => ?_)
                refine lv_goto (tgt := 38) hx hb dX6_mixRooms_61 (by decide) ?_
                exact ih38 (w + 1) (by omega) (by omega) _ _ hI ls (lv_sub hl [0, 2, 3, 4, 5, 1, 6] rfl)
          exact L38 8 0 (by omega) (by omega) _ _ hI ls (lv_sub hl [0, 1, 2, 3, 4, 5, 6] rfl)
  exact L16 7 0 (by omega) (by omega) _ _ hI ls (lv_sub hl [0, 1, 2, 3, 4] rfl)
set_option maxHeartbeats 4000000 in
set_option maxRecDepth 100000 in
theorem tX6_mixPallets (l : Launch) (g : Gg) (B0 : Nat) (ad : Ad) (σ : Sg) (pd : Int64) (pl : Pl) (sc : Sg) (h : Wd) (d : Int64) (hok : OkP σ) (hP : PlOk σ pl) (hR : Rg σ) : MM l g B0 yX6_mixPallets (wsM yX6_mixPallets cX6_mixPallets 10 (some .long)) ({ frames := 2, cells := 0, slots := 0, locals := 41 } : Room) [.ref (ad 0 0), .long d] ad (fC g ad σ pd pl sc h) (dL (dgP σ d (nt σ)) ad (fC g ad σ pd pl sc h)) (noX) 0 0 := by
  refine MM.start (by decide) (Nat.le_of_ble_eq_true rfl) ?_
  intro hl9 p e s m below meth c ls hC hno hI hl0
  have hx := hC.1.1
  have hb := hC.1.2.1
  have hts := hC.1.2.2.2.2
  have hl : lv_has ls 10 [(0, .ref (ad 0 0)), (1, .long d)] := hl0
  obtain ⟨H, hH⟩ : ∃ H, H = s.heap := ⟨_, rfl⟩
  obtain ⟨locs, hLo⟩ : ∃ L : List Loc, L = [] := ⟨_, rfl⟩
  rw [← hH, ← hLo] at hI ⊢
  clear hH hLo hl0
  obtain ⟨h17, h60, h10, h6, h5, h12, hpr, hrm⟩ := id hok
  refine lv_lload_n hx hb dX6_mixPallets_0 rfl (lv_at hl 1 rfl) ?_
  refine lv_lstore_n (lv' := [(3, .long (dgPc σ d 0)), (0, .ref (ad 0 0)), (1, .long d)]) hx hb dX6_mixPallets_1 rfl hl (by decide) rfl (fun ls hl => ?_)
  refine lv_aload_n hx hb dX6_mixPallets_2 rfl (lv_at hl 1 rfl) ?_
  refine gf_X6_37 hC hI fC_0 rfl dX6_mixPallets_3 ?_
  refine lv_astore (lv' := [(5, .ref (ad 6 0)), (3, .long (dgPc σ d 0)), (0, .ref (ad 0 0)), (1, .long d)]) hx hb dX6_mixPallets_6 hl (by decide) rfl (fun ls hl => ?_)
  refine lv_aload hx hb dX6_mixPallets_8 (lv_at hl 0 rfl) ?_
  refine r_alen hC hI fC_6 2 rfl (v := 60) rfl dX6_mixPallets_10 ?_
  refine lv_istore (lv' := [(6, .int 60), (5, .ref (ad 6 0)), (3, .long (dgPc σ d 0)), (0, .ref (ad 0 0)), (1, .long d)]) hx hb dX6_mixPallets_11 hl (by decide) rfl (fun ls hl => ?_)
  refine lv_iconst (v := 0) hx hb dX6_mixPallets_13 (by decide) ?_
  refine lv_istore (lv' := [(7, .int (nI 0)), (6, .int 60), (5, .ref (ad 6 0)), (3, .long (dgPc σ d 0)), (0, .ref (ad 0 0)), (1, .long d)]) hx hb dX6_mixPallets_14 hl (by decide) rfl (fun ls hl => ?_)
  have L16 : ∀ (n : Nat) (k : Nat), k ≤ 60 → 61 ≤ k + n → ∀ (H : Heap) (locs : List Loc), WI g ad B0 (fC g ad σ pd pl sc h) s H locs → ∀ (ls : Array Slot), lv_has ls 10 [(7, .int (nI k)), (6, .int 60), (5, .ref (ad 6 0)), (3, .long (dgPc σ d k)), (0, .ref (ad 0 0))] → W p l e ({ frames := 2, cells := 0, slots := 0, locals := 41 } : Room) s m ([.ref (ad 0 0), .long d] : List Value).toArray below meth c H locs 0 0 (vx_MQ below (QI g B0 (dL (dgP σ d (nt σ)) ad (fC g ad σ pd pl sc h))) (XI g B0 (noX)) ([.ref (ad 0 0), .long d] : List Value).toArray s 0 0 (fun q => B0 ≤ q)) (F0 m 16 ls []) := by
    intro n
    induction n with
    | zero =>
      intro k hk hfu
      exact absurd hfu (by omega)
    | succ n ih16 =>
      intro k hk hfu H locs hI ls hl
      refine lv_iload hx hb dX6_mixPallets_16 (lv_at hl 0 rfl) ?_
      refine lv_iload hx hb dX6_mixPallets_18 (lv_at hl 1 rfl) ?_
      refine lv_icmp_ge (tgt := 69) hx hb dX6_mixPallets_20 (by decide) (fun c20 => ?_) (fun c20 => ?_)
      · have hk2 : 60 ≤ k := ge_T rfl (by decide) (by omega) c20
        refine lv_lload_n hx hb dX6_mixPallets_69 rfl (lv_at hl 3 rfl) ?_
        exact e_long hC hI (rL (by rw [show k = 60 by omega]; exact dgPc_60 h60)) (Nat.le_of_ble_eq_true rfl) (Nat.le_of_ble_eq_true rfl) dX6_mixPallets_70
      · have hk2 : k < 60 := ge_F rfl (by decide) (by omega) c20
        refine lv_aload hx hb dX6_mixPallets_23 (lv_at hl 2 rfl) ?_
        refine lv_iload hx hb dX6_mixPallets_25 (lv_at hl 0 rfl) ?_
        refine r_aald hC hI fC_6 2 rfl (j := k) rfl hk2 (by decide) dX6_mixPallets_27 ?_
        refine lv_topo (fun e27 => ?_) (fun q27 e27 => ?_)
        · have hlt := opt_n e27
          have hl : lv_has ls 10 [(7, .int (nI k)), (6, .int 60), (5, .ref (ad 6 0)), (3, .long (dgPc σ d (k + 1))), (0, .ref (ad 0 0))] := by rw [show dgPc σ d (k + 1) = dgPc σ d k from (dgPc_F hlt)]; exact hl
          refine lv_astoreN (lv' := [(8, .null), (7, .int (nI k)), (6, .int 60), (5, .ref (ad 6 0)), (3, .long (dgPc σ d (k + 1))), (0, .ref (ad 0 0))]) hx hb dX6_mixPallets_28 hl (by decide) rfl (fun ls hl => ?_)
          refine lv_aloadN hx hb dX6_mixPallets_30 (lv_at hl 0 rfl) ?_
          refine lv_ifnullN (tgt := 63) hx hb dX6_mixPallets_32 (by decide) ?_
          refine lv_iinc (v := nI (k + 1)) (lv' := [(7, .int (nI (k + 1))), (8, .null), (6, .int 60), (5, .ref (ad 6 0)), (3, .long (dgPc σ d (k + 1))), (0, .ref (ad 0 0))]) hx hb dX6_mixPallets_63 hl (k := 1) rfl (nI_1 _) (by decide) rfl (fun ls hl => ?_)
          refine lv_goto (tgt := 16) hx hb dX6_mixPallets_66 (by decide) ?_
          exact ih16 (k + 1) (by omega) (by omega) _ _ hI ls (lv_sub hl [0, 2, 3, 4, 5] rfl)
        · obtain ⟨hlt, rfl⟩ := opt_y e27
          have hpk := (hpr k hlt).2
          refine lv_astore (lv' := [(8, .ref (ad 12 k)), (7, .int (nI k)), (6, .int 60), (5, .ref (ad 6 0)), (3, .long (dgPc σ d k)), (0, .ref (ad 0 0))]) hx hb dX6_mixPallets_28 hl (by decide) rfl (fun ls hl => ?_)
          refine lv_aload hx hb dX6_mixPallets_30 (lv_at hl 0 rfl) ?_
          refine lv_ifnull hx hb dX6_mixPallets_32 ?_
          refine lv_iconst (v := 0) hx hb dX6_mixPallets_35 (by decide) ?_
          refine lv_istore (lv' := [(9, .int (nI 0)), (8, .ref (ad 12 k)), (7, .int (nI k)), (6, .int 60), (5, .ref (ad 6 0)), (3, .long (dgPc σ d k)), (0, .ref (ad 0 0))]) hx hb dX6_mixPallets_36 hl (by decide) rfl (fun ls hl => ?_)
          have L38 : ∀ (n2 : Nat) (w : Nat), w ≤ 5 → 6 ≤ w + n2 → ∀ (H : Heap) (locs : List Loc), WI g ad B0 (fC g ad σ pd pl sc h) s H locs → ∀ (ls : Array Slot), lv_has ls 10 [(9, .int (nI w)), (8, .ref (ad 12 k)), (7, .int (nI k)), (6, .int 60), (5, .ref (ad 6 0)), (3, .long (dgP1 σ k (dgPc σ d k) w)), (0, .ref (ad 0 0))] → W p l e ({ frames := 2, cells := 0, slots := 0, locals := 41 } : Room) s m ([.ref (ad 0 0), .long d] : List Value).toArray below meth c H locs 0 0 (vx_MQ below (QI g B0 (dL (dgP σ d (nt σ)) ad (fC g ad σ pd pl sc h))) (XI g B0 (noX)) ([.ref (ad 0 0), .long d] : List Value).toArray s 0 0 (fun q => B0 ≤ q)) (F0 m 38 ls []) := by
            intro n2
            induction n2 with
            | zero =>
              intro w hw hfu2
              exact absurd hfu2 (by omega)
            | succ n2 ih38 =>
              intro w hw hfu2 H locs hI ls hl
              refine lv_iload hx hb dX6_mixPallets_38 (lv_at hl 0 rfl) ?_
              refine lv_iconst (v := 5) hx hb dX6_mixPallets_40 (by decide) ?_
              refine lv_icmp_ge (tgt := 63) hx hb dX6_mixPallets_41 (by decide) (fun c41 => ?_) (fun c41 => ?_)
              · have hw2 : 5 ≤ w := ge_T rfl (by decide) (by omega) c41
                have hw3 : w = 5 := by omega
                have hl : lv_has ls 10 [(9, .int (nI w)), (8, .ref (ad 12 k)), (7, .int (nI k)), (6, .int 60), (5, .ref (ad 6 0)), (3, .long (dgPc σ d (k + 1))), (0, .ref (ad 0 0))] := by rw [show dgPc σ d (k + 1) = dgP1 σ k (dgPc σ d k) w from (by rw [hw3]; exact dgPc_T hlt)]; exact hl
                refine lv_iinc (v := nI (k + 1)) (lv' := [(7, .int (nI (k + 1))), (9, .int (nI w)), (8, .ref (ad 12 k)), (6, .int 60), (5, .ref (ad 6 0)), (3, .long (dgPc σ d (k + 1))), (0, .ref (ad 0 0))]) hx hb dX6_mixPallets_63 hl (k := 2) rfl (nI_1 _) (by decide) rfl (fun ls hl => ?_)
                refine lv_goto (tgt := 16) hx hb dX6_mixPallets_66 (by decide) ?_
                exact ih16 (k + 1) (by omega) (by omega) _ _ hI ls (lv_sub hl [0, 3, 4, 5, 6] rfl)
              · have hw2 : w < 5 := ge_F rfl (by decide) (by omega) c41
                refine lv_lload_n hx hb dX6_mixPallets_44 rfl (lv_at hl 5 rfl) ?_
                refine lv_aload hx hb dX6_mixPallets_45 (lv_at hl 1 rfl) ?_
                refine lv_iload hx hb dX6_mixPallets_47 (lv_at hl 0 rfl) ?_
                refine c_Vi (rest := [.long (dgP1 σ k (dgPc σ d k) w)]) hl9 hC hI hl.1 (tX2_fact l g B0 ad σ pd pl sc h k (nI w) hok hlt) (cw_X6_170 hts rfl rfl ⟨(Nat.le_of_ble_eq_true rfl), (Nat.le_of_ble_eq_true rfl)⟩) (fC_12 hlt) rfl rfl rfl rfl (Nat.le_of_ble_eq_true rfl) dX6_mixPallets_49 ⟨(Nat.le_of_ble_eq_true rfl), (Nat.le_of_ble_eq_true rfl)⟩ (fun H locs hI => ?_)
                refine lv_i2l hx hb dX6_mixPallets_52 rfl ?_
                refine c_Sl (rest := []) hl9 hC hI hl.1 (tX6_mix l g B0 ad _ (dgP1 σ k (dgPc σ d k) w) ((toldP σ k (nI w)).toInt64)) (cw_X6_233 hts rfl rfl ⟨(Nat.le_of_ble_eq_true rfl), (Nat.le_of_ble_eq_true rfl)⟩) rfl rfl (Nat.le_of_ble_eq_true rfl) dX6_mixPallets_53 ⟨(Nat.le_of_ble_eq_true rfl), (Nat.le_of_ble_eq_true rfl)⟩ (fun H locs hI => ?_)
                refine lv_lstore_n (lv' := [(3, .long (dgP1 σ k (dgPc σ d k) (w + 1))), (9, .int (nI w)), (8, .ref (ad 12 k)), (7, .int (nI k)), (6, .int 60), (5, .ref (ad 6 0)), (0, .ref (ad 0 0))]) hx hb dX6_mixPallets_56 rfl hl (by decide) rfl (fun ls hl => ?_)
                refine lv_iinc (v := nI (w + 1)) (lv' := [(9, .int (nI (w + 1))), (3, .long (dgP1 σ k (dgPc σ d k) (w + 1))), (8, .ref (ad 12 k)), (7, .int (nI k)), (6, .int 60), (5, .ref (ad 6 0)), (0, .ref (ad 0 0))]) hx hb dX6_mixPallets_57 hl (k := 1) rfl (nI_1 _) (by decide) rfl (fun ls hl => ?_)
                refine lv_goto (tgt := 38) hx hb dX6_mixPallets_60 (by decide) ?_
                exact ih38 (w + 1) (by omega) (by omega) _ _ hI ls (lv_sub hl [0, 2, 3, 4, 5, 1, 6] rfl)
          exact L38 6 0 (by omega) (by omega) _ _ hI ls (lv_sub hl [0, 1, 2, 3, 4, 5, 6] rfl)
  exact L16 61 0 (by omega) (by omega) _ _ hI ls (lv_sub hl [0, 1, 2, 3, 4] rfl)
