/-! THE COLD STORE: an hour everywhere -/
section FST
variable {g : Gg} {ad : Ad} {σ : Sg} {pd pd' : Int64} {pl : Pl} {sc : Sg} {h : Wd} {v : Int32}
theorem fC_paid : up2 (fC g ad σ pd pl sc h) 0 0 (.inr (6, [.ref (ad 1 0), .ref (ad 2 0), .ref (ad 4 0), .ref (ad 5 0), .ref (ad 6 0), .int (σ 5 0), .int (σ 10 0), .int (σ 17 0), .int (σ 22 0), .int (σ 1 0), .long pd'])) = fC g ad σ pd' pl sc h := by
  refine up2_to rfl (fun k i hk => ?_)
  match k, hk with
  | 0, hk => exact (if_neg (fun z => hk ⟨rfl, z⟩)).trans (if_neg (fun z => hk ⟨rfl, z⟩)).symm
  | 1, _ => rfl
  | 2, _ => rfl
  | 3, _ => rfl
  | 4, _ => rfl
  | 5, _ => rfl
  | 6, _ => rfl
  | 7, _ => rfl
  | 8, _ => rfl
  | 9, _ => rfl
  | 10, _ => rfl
  | 11, _ => rfl
  | 12, _ => rfl
  | _ + 13, _ => rfl
theorem fC_time : up2 (fC g ad σ pd pl sc h) 0 0 (.inr (6, [.ref (ad 1 0), .ref (ad 2 0), .ref (ad 4 0), .ref (ad 5 0), .ref (ad 6 0), .int (σ 5 0), .int (σ 10 0), .int (σ 17 0), .int (σ 22 0), .int v, .long pd])) = fC g ad (ss σ 1 v) pd pl sc h := by
  refine up2_to rfl (fun k i hk => ?_)
  match k, hk with
  | 0, hk => exact (if_neg (fun z => hk ⟨rfl, z⟩)).trans (if_neg (fun z => hk ⟨rfl, z⟩)).symm
  | 1, _ => rfl
  | 2, _ => rfl
  | 3, _ => rfl
  | 4, _ => rfl
  | 5, _ => rfl
  | 6, _ => rfl
  | 7, _ => rfl
  | 8, _ => rfl
  | 9, _ => rfl
  | 10, _ => rfl
  | 11, _ => rfl
  | 12, _ => rfl
  | _ + 13, _ => rfl
theorem fC_ship : up2 (fC g ad σ pd pl sc h) 0 0 (.inr (6, [.ref (ad 1 0), .ref (ad 2 0), .ref (ad 4 0), .ref (ad 5 0), .ref (ad 6 0), .int (σ 5 0), .int (σ 10 0), .int (σ 17 0), .int v, .int (σ 1 0), .long pd])) = fC g ad (ss σ 22 v) pd pl sc h := by
  refine up2_to rfl (fun k i hk => ?_)
  match k, hk with
  | 0, hk => exact (if_neg (fun z => hk ⟨rfl, z⟩)).trans (if_neg (fun z => hk ⟨rfl, z⟩)).symm
  | 1, _ => rfl
  | 2, _ => rfl
  | 3, _ => rfl
  | 4, _ => rfl
  | 5, _ => rfl
  | 6, _ => rfl
  | 7, _ => rfl
  | 8, _ => rfl
  | 9, _ => rfl
  | 10, _ => rfl
  | 11, _ => rfl
  | 12, _ => rfl
  | _ + 13, _ => rfl
end FST
theorem Bn_mono {σ : Sg} {n m : Nat} (h : Bn σ n) (hm : n ≤ m) : Bn σ m := ⟨fun r hr => by have := h.1 r hr; omega, fun q hq => by have := h.2 q hq; omega⟩
theorem rooms_nr (x : Sg × Int64) (hh k : Nat) : nr (roomsAt x hh k).1 = nr x.1 := congrArg cN (congrFun (roomsAt_row x hh (by decide) (by decide) (by decide) k) 0)
theorem rooms_nt (x : Sg × Int64) (hh k : Nat) : nt (roomsAt x hh k).1 = nt x.1 := congrArg cN (congrFun (roomsAt_row x hh (by decide) (by decide) (by decide) k) 0)
theorem rooms_keep {x : Sg × Int64} {pl : Pl} {hh n : Nat} (h : Iv x.1 pl) (hB : Bn x.1 n) (hn : n ≤ 2000) (hh24 : hh < 24) : ∀ k : Nat, k ≤ nr x.1 → Iv (roomsAt x hh k).1 pl ∧ BnK (roomsAt x hh k).1 n k
  | 0, _ => ⟨h, BnK_0 hB⟩
  | k + 1, hk => by
    obtain ⟨h1, h2⟩ := rooms_keep h hB hn hh24 k (by omega)
    have h6 := h.1.2.2.2.1
    have hkn : k < nr (roomsAt x hh k).1 := by rw [rooms_nr]; omega
    exact ⟨(hour_keep h1 (BnK_1 h2) hkn (show n + 1 ≤ 2600 by omega) hh24).1, hour_keepK h1 h2 hkn (by omega) hh24⟩
theorem pay_eq {σ : Sg} {pd : Int64} {r hh : Nat} (h4 : σ 4 = σ 4) : pd + (σ 4 hh).toInt64 * (if smS σ r hh 16 (6 * r + 2) = 1 then smS σ r hh 13 r else 0).toInt64 = hourP σ pd r hh := by
  unfold hourP hPd
  by_cases c : smS σ r hh 16 (6 * r + 2) = 1
  · rw [if_pos c, if_pos c, Int64.mul_comm, smS_row σ r hh (k := 4) (by decide)]
  · rw [if_neg c, if_neg c]
    show pd + (σ 4 hh).toInt64 * 0 = pd
    rw [Int64.mul_zero, Int64.add_zero]
theorem Iv_time {σ : Sg} {pl : Pl} {v : Int32} (h : Iv σ pl) : Iv (ss σ 1 v) pl := ⟨OkP_1 h.1 v, PlOk_congr h.2.1 rfl rfl rfl rfl, Rg_congr h.2.2.1 (fun k _ h1 _ _ _ _ _ => su_n _ _ h1) (fun r hr => (h.2.2.1.2.1 r hr).2.2.2.2.2), h.2.2.2⟩
theorem Bn_time {σ : Sg} {n : Nat} {v : Int32} (h : Bn σ n) : Bn (ss σ 1 v) n := h
theorem oneHr_keep {x : Sg × Int64} {pl : Pl} {n : Nat} (h : Iv x.1 pl) (hB : Bn x.1 n) (hn : n ≤ 2000) : Iv (oneHr x).1 pl ∧ Bn (oneHr x).1 (n + 1) := by
  have h6 := h.1.2.2.2.1
  obtain ⟨h1, h2⟩ := rooms_keep (hh := cN (x.1 1 0) % 24) h hB hn (Nat.mod_lt _ (by decide)) (nr x.1) (Nat.le_refl _)
  exact ⟨Iv_time h1, Bn_time (BnK_1 h2)⟩

set_option maxHeartbeats 4000000 in
set_option maxRecDepth 100000 in
theorem tX6_passHourEverywhere (l : Launch) (g : Gg) (B0 : Nat) (ad : Ad) (σ : Sg) (pd : Int64) (pl : Pl) (sc : Sg) (h : Wd) (t n9 : Nat) (ht : σ 1 0 = nI t) (ht2 : t ≤ 2000) (hB : Bn σ n9) (hn9 : n9 ≤ 2000) (hIv : Iv σ pl)  : MM l g B0 yX6_passHourEverywhere (wsM yX6_passHourEverywhere cX6_passHourEverywhere 6 none) ({ frames := 4, cells := 0, slots := 0, locals := 93 } : Room) [.ref (ad 0 0)] ad (fC g ad σ pd pl sc h) (dV ad (fC g ad (oneHr (σ, pd)).1 (oneHr (σ, pd)).2 pl sc h)) (noX) 0 0 := by
  refine MM.start (by decide) (Nat.le_of_ble_eq_true rfl) ?_
  intro hl9 p e s m below meth c ls hC hno hI hl0
  have hx := hC.1.1
  have hb := hC.1.2.1
  have hts := hC.1.2.2.2.2
  have hl : lv_has ls 6 [(0, .ref (ad 0 0))] := hl0
  obtain ⟨H, hH⟩ : ∃ H, H = s.heap := ⟨_, rfl⟩
  obtain ⟨locs, hLo⟩ : ∃ L : List Loc, L = [] := ⟨_, rfl⟩
  rw [← hH, ← hLo] at hI ⊢
  clear hH hLo hl0
  obtain ⟨hok, hP, hR, hF⟩ := id hIv
  obtain ⟨h17, h60, h10, h6, h5, h12, hpr, hrm⟩ := id hok
  have ect : cN (σ 1 0) = t := by rw [ht]; exact cN_nI (by omega)
  have r1 : ∀ k, (roomsAt (σ, pd) (t % 24) k).1 1 0 = nI t := fun k => (congrFun (roomsAt_row (σ, pd) (t % 24) (by decide) (by decide) (by decide) k) 0).trans ht
  have r4 : ∀ k, (roomsAt (σ, pd) (t % 24) k).1 4 = σ 4 := fun k => roomsAt_row (σ, pd) (t % 24) (by decide) (by decide) (by decide) k
  have hK := rooms_keep (x := (σ, pd)) (hh := t % 24) hIv hB hn9 (Nat.mod_lt _ (by decide))
  have hnr : ∀ k, nr (roomsAt (σ, pd) (t % 24) k).1 = nr σ := fun k => rooms_nr (σ, pd) (t % 24) k
  refine lv_aload_n hx hb dX6_passHourEverywhere_0 rfl (lv_at hl 0 rfl) ?_
  refine gf_X6_19 hC hI fC_0 rfl dX6_passHourEverywhere_1 ?_
  refine lv_aload_n hx hb dX6_passHourEverywhere_4 rfl (lv_at hl 0 rfl) ?_
  refine gf_X6_54 hC hI fC_0 rfl dX6_passHourEverywhere_5 ?_
  rw [ht]
  refine c_Vi (rest := []) hl9 hC hI hl.1 (tX5_priceAt l g B0 ad _ (σ 4) (lowS σ) t (by omega) fC_2 fC_3) (cw_X6_260 hts rfl rfl ⟨(Nat.le_of_ble_eq_true rfl), (Nat.le_of_ble_eq_true rfl)⟩) fC_2 rfl rfl rfl rfl (Nat.le_of_ble_eq_true rfl) dX6_passHourEverywhere_8 ⟨(Nat.le_of_ble_eq_true rfl), (Nat.le_of_ble_eq_true rfl)⟩ (fun H locs hI => ?_)
  refine lv_istore_n (lv' := [(1, .int (σ 4 (t % 24))), (0, .ref (ad 0 0))]) hx hb dX6_passHourEverywhere_11 rfl hl (by decide) rfl (fun ls hl => ?_)
  refine lv_aload_n hx hb dX6_passHourEverywhere_12 rfl (lv_at hl 1 rfl) ?_
  refine gf_X6_31 hC hI fC_0 rfl dX6_passHourEverywhere_13 ?_
  refine lv_astore_n (lv' := [(2, .ref (ad 5 0)), (1, .int (σ 4 (t % 24))), (0, .ref (ad 0 0))]) hx hb dX6_passHourEverywhere_16 rfl hl (by decide) rfl (fun ls hl => ?_)
  refine lv_aload_n hx hb dX6_passHourEverywhere_17 rfl (lv_at hl 0 rfl) ?_
  refine r_alen hC hI fC_5 4 rfl (v := 6) rfl dX6_passHourEverywhere_18 ?_
  refine lv_istore_n (lv' := [(3, .int 6), (2, .ref (ad 5 0)), (1, .int (σ 4 (t % 24))), (0, .ref (ad 0 0))]) hx hb dX6_passHourEverywhere_19 rfl hl (by decide) rfl (fun ls hl => ?_)
  refine lv_iconst (v := 0) hx hb dX6_passHourEverywhere_20 (by decide) ?_
  refine lv_istore (lv' := [(4, .int (nI 0)), (3, .int 6), (2, .ref (ad 5 0)), (1, .int (σ 4 (t % 24))), (0, .ref (ad 0 0))]) hx hb dX6_passHourEverywhere_21 hl (by decide) rfl (fun ls hl => ?_)
  have L23 : ∀ (n : Nat) (k : Nat), k ≤ 6 → 7 ≤ k + n → ∀ (H : Heap) (locs : List Loc), WI g ad B0 (fC g ad (roomsAt (σ, pd) (t % 24) (min k (nr σ))).1 (roomsAt (σ, pd) (t % 24) (min k (nr σ))).2 pl sc h) s H locs → ∀ (ls : Array Slot), lv_has ls 6 [(4, .int (nI k)), (3, .int 6), (2, .ref (ad 5 0)), (1, .int (σ 4 (t % 24))), (0, .ref (ad 0 0))] → W p l e ({ frames := 4, cells := 0, slots := 0, locals := 93 } : Room) s m ([.ref (ad 0 0)] : List Value).toArray below meth c H locs 0 0 (vx_MQ below (QI g B0 (dV ad (fC g ad (oneHr (σ, pd)).1 (oneHr (σ, pd)).2 pl sc h))) (XI g B0 (noX)) ([.ref (ad 0 0)] : List Value).toArray s 0 0 (fun q => B0 ≤ q)) (F0 m 23 ls []) := by
    intro n
    induction n with
    | zero =>
      intro k hk hfu
      exact absurd hfu (by omega)
    | succ n ih23 =>
      intro k hk hfu H locs hI ls hl
      refine lv_iload hx hb dX6_passHourEverywhere_23 (lv_at hl 0 rfl) ?_
      refine lv_iload_n hx hb dX6_passHourEverywhere_25 rfl (lv_at hl 1 rfl) ?_
      refine lv_icmp_ge (tgt := 69) hx hb dX6_passHourEverywhere_26 (by decide) (fun c26 => ?_) (fun c26 => ?_)
      · have hk2 : 6 ≤ k := ge_T rfl (by decide) (by omega) c26
        have hI : WI g ad B0 (fC g ad ((roomsAt (σ, pd) (t % 24) (nr σ)).1) ((roomsAt (σ, pd) (t % 24) (nr σ)).2) pl sc h) s H locs := hI.cast (by rw [show min k (nr σ) = nr σ by omega])
        refine lv_aload_n hx hb dX6_passHourEverywhere_69 rfl (lv_at hl 4 rfl) ?_
        refine lv_dup hx hb dX6_passHourEverywhere_70 rfl ?_
        refine gf_X6_54 hC hI fC_0 rfl dX6_passHourEverywhere_71 ?_
        rw [r1]
        refine lv_iconst (v := 1) hx hb dX6_passHourEverywhere_74 (by decide) ?_
        refine lv_iadd hx hb dX6_passHourEverywhere_75 ?_
        refine pf_X6_54 hC hI fC_0 (Nat.le_of_ble_eq_true rfl) dX6_passHourEverywhere_76 (fun H locs hI => ?_)
        have hI : WI g ad B0 (up2 (fC g ad ((roomsAt (σ, pd) (t % 24) (nr σ)).1) ((roomsAt (σ, pd) (t % 24) (nr σ)).2) pl sc h) 0 0 (.inr (6, [.ref (ad 1 0), .ref (ad 2 0), .ref (ad 4 0), .ref (ad 5 0), .ref (ad 6 0), .int (((roomsAt (σ, pd) (t % 24) (nr σ)).1) 5 0), .int (((roomsAt (σ, pd) (t % 24) (nr σ)).1) 10 0), .int (((roomsAt (σ, pd) (t % 24) (nr σ)).1) 17 0), .int (((roomsAt (σ, pd) (t % 24) (nr σ)).1) 22 0), .int ((nI t) + 1), .long ((roomsAt (σ, pd) (t % 24) (nr σ)).2)]))) s H locs := hI.cast (rfl)
        have hI : WI g ad B0 (fC g ad (ss (roomsAt (σ, pd) (t % 24) (nr σ)).1 1 (nI t + 1)) ((roomsAt (σ, pd) (t % 24) (nr σ)).2) pl sc h) s H locs := hI.cast (fC_time)
        exact e_void hC hI ⟨rfl, rfl, by show _ = fC g ad (ss (roomsAt (σ, pd) (cN (σ 1 0) % 24) (nr σ)).1 1 (σ 1 0 + 1)) (roomsAt (σ, pd) (cN (σ 1 0) % 24) (nr σ)).2 pl sc h; rw [ect, ht]⟩ (Nat.le_of_ble_eq_true rfl) (Nat.le_of_ble_eq_true rfl) dX6_passHourEverywhere_79
      · have hk2 : k < 6 := ge_F rfl (by decide) (by omega) c26
        refine lv_aload_n hx hb dX6_passHourEverywhere_29 rfl (lv_at hl 2 rfl) ?_
        refine lv_iload hx hb dX6_passHourEverywhere_30 (lv_at hl 0 rfl) ?_
        refine r_aald hC hI fC_5 4 rfl (j := k) rfl hk2 (by decide) dX6_passHourEverywhere_32 ?_
        refine lv_topo (fun e32 => ?_) (fun q32 e32 => ?_)
        · have hlt := opt_n e32
          rw [hnr] at hlt
          have hI : WI g ad B0 (fC g ad ((roomsAt (σ, pd) (t % 24) (min (k + 1) (nr σ))).1) ((roomsAt (σ, pd) (t % 24) (min (k + 1) (nr σ))).2) pl sc h) s H locs := hI.cast (by rw [show min (k + 1) (nr σ) = min k (nr σ) by omega])
          refine lv_astoreN (lv' := [(5, .null), (4, .int (nI k)), (3, .int 6), (2, .ref (ad 5 0)), (1, .int (σ 4 (t % 24))), (0, .ref (ad 0 0))]) hx hb dX6_passHourEverywhere_33 hl (by decide) rfl (fun ls hl => ?_)
          refine lv_aloadN hx hb dX6_passHourEverywhere_35 (lv_at hl 0 rfl) ?_
          refine lv_ifnullN (tgt := 63) hx hb dX6_passHourEverywhere_37 (by decide) ?_
          refine lv_iinc (v := nI (k + 1)) (lv' := [(4, .int (nI (k + 1))), (5, .null), (3, .int 6), (2, .ref (ad 5 0)), (1, .int (σ 4 (t % 24))), (0, .ref (ad 0 0))]) hx hb dX6_passHourEverywhere_63 hl (k := 1) rfl (nI_1 _) (by decide) rfl (fun ls hl => ?_)
          refine lv_goto (tgt := 23) hx hb dX6_passHourEverywhere_66 (by decide) ?_
          exact ih23 (k + 1) (by omega) (by omega) _ _ hI ls (lv_sub hl [0, 2, 3, 4, 5] rfl)
        · obtain ⟨hlt, rfl⟩ := opt_y e32
          rw [hnr] at hlt
          obtain ⟨hIk, hBk⟩ := hK k (show k ≤ nr σ by omega)
          have hlk : k < nr (roomsAt (σ, pd) (t % 24) k).1 := by rw [hnr]; exact hlt
          have hI : WI g ad B0 (fC g ad ((roomsAt (σ, pd) (t % 24) k).1) ((roomsAt (σ, pd) (t % 24) k).2) pl sc h) s H locs := hI.cast (by rw [show min k (nr σ) = k by omega])
          refine lv_astore (lv' := [(5, .ref (ad 8 k)), (4, .int (nI k)), (3, .int 6), (2, .ref (ad 5 0)), (1, .int (σ 4 (t % 24))), (0, .ref (ad 0 0))]) hx hb dX6_passHourEverywhere_33 hl (by decide) rfl (fun ls hl => ?_)
          refine lv_aload hx hb dX6_passHourEverywhere_35 (lv_at hl 0 rfl) ?_
          refine lv_ifnull hx hb dX6_passHourEverywhere_37 ?_
          refine lv_aload_n hx hb dX6_passHourEverywhere_40 rfl (lv_at hl 5 rfl) ?_
          refine lv_dup hx hb dX6_passHourEverywhere_41 rfl ?_
          refine gf_X6_57 hC hI fC_0 rfl dX6_passHourEverywhere_42 ?_
          refine lv_iload_n hx hb dX6_passHourEverywhere_45 rfl (lv_at hl 4 rfl) ?_
          refine lv_i2l hx hb dX6_passHourEverywhere_46 rfl ?_
          refine lv_aload_n hx hb dX6_passHourEverywhere_47 rfl (lv_at hl 5 rfl) ?_
          refine lv_aload hx hb dX6_passHourEverywhere_48 (lv_at hl 0 rfl) ?_
          refine lv_aload_n hx hb dX6_passHourEverywhere_50 rfl (lv_at hl 5 rfl) ?_
          refine gf_X6_54 hC hI fC_0 rfl dX6_passHourEverywhere_51 ?_
          rw [r1]
          refine c_Vi (rest := [.long ((σ 4 (t % 24)).toInt64), .long ((roomsAt (σ, pd) (t % 24) k).2), .ref (ad 0 0)]) hl9 hC hI hl.1 (tX6_passHourIn l g B0 ad ((roomsAt (σ, pd) (t % 24) k).1) ((roomsAt (σ, pd) (t % 24) k).2) pl sc h k hlk t (by omega) (600 + 20 * ((n9 + 1 : Nat) : Int)) (by omega) (by omega) ((BnK_1 hBk).1 k hlk) (fun q hq _ => ((BnK_1 hBk).2 q hq).1) hIk.1 hIk.2.1 hIk.2.2.1) (cw_X6_216 hts rfl rfl ⟨(Nat.le_of_ble_eq_true rfl), (Nat.le_of_ble_eq_true rfl)⟩) fC_0 rfl rfl rfl rfl (Nat.le_of_ble_eq_true rfl) dX6_passHourEverywhere_54 ⟨(Nat.le_of_ble_eq_true rfl), (Nat.le_of_ble_eq_true rfl)⟩ (fun H locs hI => ?_)
          refine lv_i2l hx hb dX6_passHourEverywhere_57 rfl ?_
          refine lv_lmul hx hb dX6_passHourEverywhere_58 ?_
          refine lv_ladd hx hb dX6_passHourEverywhere_59 ?_
          refine pf_X6_57 hC hI fC_0 (Nat.le_of_ble_eq_true rfl) dX6_passHourEverywhere_60 (fun H locs hI => ?_)
          have hI : WI g ad B0 (up2 (fC g ad (hourS ((roomsAt (σ, pd) (t % 24) k).1) k (t % 24)) ((roomsAt (σ, pd) (t % 24) k).2) pl sc h) 0 0 (.inr (6, [.ref (ad 1 0), .ref (ad 2 0), .ref (ad 4 0), .ref (ad 5 0), .ref (ad 6 0), .int ((hourS ((roomsAt (σ, pd) (t % 24) k).1) k (t % 24)) 5 0), .int ((hourS ((roomsAt (σ, pd) (t % 24) k).1) k (t % 24)) 10 0), .int ((hourS ((roomsAt (σ, pd) (t % 24) k).1) k (t % 24)) 17 0), .int ((hourS ((roomsAt (σ, pd) (t % 24) k).1) k (t % 24)) 22 0), .int ((hourS ((roomsAt (σ, pd) (t % 24) k).1) k (t % 24)) 1 0), .long (((roomsAt (σ, pd) (t % 24) k).2) + (((σ 4 (t % 24)).toInt64) * ((if smS ((roomsAt (σ, pd) (t % 24) k).1) k (t % 24) 16 (6 * k + 2) = 1 then smS ((roomsAt (σ, pd) (t % 24) k).1) k (t % 24) 13 k else 0).toInt64)))]))) s H locs := hI.cast (rfl)
          have hI : WI g ad B0 (fC g ad ((roomsAt (σ, pd) (t % 24) (min (k + 1) (nr σ))).1) ((roomsAt (σ, pd) (t % 24) (min (k + 1) (nr σ))).2) pl sc h) s H locs := hI.cast (fC_paid.trans (by rw [show min (k + 1) (nr σ) = k + 1 by omega, ← congrFun (r4 k) (t % 24), pay_eq rfl]; rfl))
          refine lv_iinc (v := nI (k + 1)) (lv' := [(4, .int (nI (k + 1))), (5, .ref (ad 8 k)), (3, .int 6), (2, .ref (ad 5 0)), (1, .int (σ 4 (t % 24))), (0, .ref (ad 0 0))]) hx hb dX6_passHourEverywhere_63 hl (k := 1) rfl (nI_1 _) (by decide) rfl (fun ls hl => ?_)
          refine lv_goto (tgt := 23) hx hb dX6_passHourEverywhere_66 (by decide) ?_
          exact ih23 (k + 1) (by omega) (by omega) _ _ hI ls (lv_sub hl [0, 2, 3, 4, 5] rfl)
  exact L23 7 0 (by omega) (by omega) _ _ (hI.cast (show fC g ad σ pd pl sc h = fC g ad (roomsAt (σ, pd) (t % 24) (min 0 (nr σ))).1 (roomsAt (σ, pd) (t % 24) (min 0 (nr σ))).2 pl sc h from by rw [Nat.zero_min]; rfl)) ls (lv_sub hl [0, 1, 2, 3, 4] rfl)
