/-! THE CLASS: the tariff and the pallet, over any world f -/
def chF (fn : Nat → Int32) (F T : Nat) (p : Int32) (k : Nat) : Nat → Int32 := fun j => if (F ≤ j ∧ j ≤ T) ∧ j < k then p else fn j
def chL (fn : Nat → Int32) (F T : Nat) (p : Int32) : Nat → Int32
  | 0 => p
  | k + 1 => mn (chL fn F T p k) (chF fn F T p (k + 1) k)
theorem chF_0 {fn : Nat → Int32} {F T : Nat} {p : Int32} : chF fn F T p 0 = fn := by
  funext j
  exact if_neg (fun z => Nat.not_lt_zero _ z.2)
theorem chF_n {fn : Nat → Int32} {F T k : Nat} {p : Int32} (h : ¬ (F ≤ k ∧ k ≤ T)) : chF fn F T p k = chF fn F T p (k + 1) := by
  funext j
  unfold chF
  by_cases hj : (F ≤ j ∧ j ≤ T) ∧ j < k
  · rw [if_pos hj, if_pos ⟨hj.1, by omega⟩]
  · rw [if_neg hj, if_neg]
    intro z
    refine hj ⟨z.1, ?_⟩
    by_cases hk : j = k
    · exact absurd (hk ▸ z.1) h
    · omega
theorem chF_y {fn : Nat → Int32} {F T k : Nat} {p : Int32} (h : F ≤ k ∧ k ≤ T) : upd (chF fn F T p k) k p = chF fn F T p (k + 1) := by
  funext j
  by_cases hj : j = k
  · subst hj
    rw [upd_s]
    exact (if_pos ⟨h, Nat.lt_succ_self _⟩).symm
  · rw [upd_n _ _ hj]
    unfold chF
    by_cases hz : (F ≤ j ∧ j ≤ T) ∧ j < k
    · rw [if_pos hz, if_pos ⟨hz.1, by omega⟩]
    · rw [if_neg hz, if_neg (fun z => hz ⟨z.1, by omega⟩)]

set_option maxHeartbeats 4000000 in
set_option maxRecDepth 100000 in
theorem tX5_priceAt (l : Launch) (g : Gg) (B0 : Nat) (ad : Ad) (f : Wd) (fn : Nat → Int32) (lw : Int32) (t : Nat) (ht : t < 2 ^ 31) (he : f 2 0 = some (.inr (5, [.ref (ad 3 0), .int lw]))) (hp : f 3 0 = some (.inl (g.2 0, 24, .inl fn))) : MM l g B0 yX5_priceAt (wsM yX5_priceAt cX5_priceAt 3 (some .int)) ({ frames := 1, cells := 0, slots := 0, locals := 22 } : Room) [.ref (ad 2 0), .int (nI t)] ad (f) (dI (fn (t % 24)) ad f) (noX) 0 0 := by
  refine MM.start (by decide) (Nat.le_of_ble_eq_true rfl) ?_
  intro hl9 p e s m below meth c ls hC hno hI hl0
  have hx := hC.1.1
  have hb := hC.1.2.1
  have hts := hC.1.2.2.2.2
  have hl : lv_has ls 3 [(0, .ref (ad 2 0)), (1, .int (nI t))] := hl0
  obtain ⟨H, hH⟩ : ∃ H, H = s.heap := ⟨_, rfl⟩
  obtain ⟨locs, hLo⟩ : ∃ L : List Loc, L = [] := ⟨_, rfl⟩
  rw [← hH, ← hLo] at hI ⊢
  clear hH hLo hl0
  refine lv_iload_n hx hb dX5_priceAt_0 rfl (lv_at hl 1 rfl) ?_
  refine lv_bipush (v := 24) hx hb dX5_priceAt_1 (by decide) ?_
  refine va_mfmod hx hb (hC.1.2.2.1.trans hl.1.symm) hC.1.2.2.2.1 (hts _ wd_ml_X5_25) (hts _ wd_st_yJ9_floorMod_7cf53) (hts _ wd_in_RJ9) (hts _ wd_co_yJ9_floorMod_7cf53) (Nat.le_of_ble_eq_true rfl) (Nat.le_of_ble_eq_true rfl) (Nat.le_of_ble_eq_true rfl) (Nat.le_of_ble_eq_true rfl) ht dX5_priceAt_3 ?_
  refine lv_istore_n (lv' := [(2, .int (nI (t % 24))), (0, .ref (ad 2 0)), (1, .int (nI t))]) hx hb dX5_priceAt_6 rfl hl (by decide) rfl (fun ls hl => ?_)
  refine lv_iload_n hx hb dX5_priceAt_7 rfl (lv_at hl 0 rfl) ?_
  refine lv_if_lt (tgt := 29) hx hb dX5_priceAt_8 (by decide) (fun c8 => (absurd (nI_nn (show t % 24 < 2 ^ 31 by omega)) (Int32.not_le.mpr c8))) (fun c8 => ?_)
  refine lv_iload_n hx hb dX5_priceAt_11 rfl (lv_at hl 0 rfl) ?_
  refine lv_aload_n hx hb dX5_priceAt_12 rfl (lv_at hl 1 rfl) ?_
  refine gf_X5_9 hC hI he rfl dX5_priceAt_13 ?_
  refine r_alen hC hI hp 0 rfl (v := 24) rfl dX5_priceAt_16 ?_
  refine lv_icmp_ge (tgt := 29) hx hb dX5_priceAt_17 (by decide) (fun c17 => (absurd (show 24 ≤ t % 24 from ge_T rfl (by decide) (by omega) c17) (by omega))) (fun c17 => ?_)
  refine lv_aload_n hx hb dX5_priceAt_20 rfl (lv_at hl 1 rfl) ?_
  refine gf_X5_9 hC hI he rfl dX5_priceAt_21 ?_
  refine lv_iload_n hx hb dX5_priceAt_24 rfl (lv_at hl 0 rfl) ?_
  refine r_iald hC hI hp (j := (t % 24)) rfl (Nat.mod_lt _ (by decide)) (by decide) dX5_priceAt_25 ?_
  refine lv_goto (tgt := 33) hx hb dX5_priceAt_26 (by decide) ?_
  exact e_int hC hI ⟨rfl, rfl, rfl⟩ (Nat.le_of_ble_eq_true rfl) (Nat.le_of_ble_eq_true rfl) dX5_priceAt_33
set_option maxHeartbeats 4000000 in
set_option maxRecDepth 100000 in
theorem tX5_isLowestAt (l : Launch) (g : Gg) (B0 : Nat) (ad : Ad) (f : Wd) (fn : Nat → Int32) (lw : Int32) (t : Nat) (ht : t < 2 ^ 31) (he : f 2 0 = some (.inr (5, [.ref (ad 3 0), .int lw]))) (hp : f 3 0 = some (.inl (g.2 0, 24, .inl fn))) : MM l g B0 yX5_isLowestAt (wsM yX5_isLowestAt cX5_isLowestAt 2 (some .boolean)) ({ frames := 2, cells := 0, slots := 0, locals := 44 } : Room) [.ref (ad 2 0), .int (nI t)] ad (f) (dI (bi (fn (t % 24) = lw)) ad f) (noX) 0 0 := by
  refine MM.start (by decide) (Nat.le_of_ble_eq_true rfl) ?_
  intro hl9 p e s m below meth c ls hC hno hI hl0
  have hx := hC.1.1
  have hb := hC.1.2.1
  have hts := hC.1.2.2.2.2
  have hl : lv_has ls 2 [(0, .ref (ad 2 0)), (1, .int (nI t))] := hl0
  obtain ⟨H, hH⟩ : ∃ H, H = s.heap := ⟨_, rfl⟩
  obtain ⟨locs, hLo⟩ : ∃ L : List Loc, L = [] := ⟨_, rfl⟩
  rw [← hH, ← hLo] at hI ⊢
  clear hH hLo hl0
  refine lv_aload_n hx hb dX5_isLowestAt_0 rfl (lv_at hl 0 rfl) ?_
  refine lv_iload_n hx hb dX5_isLowestAt_1 rfl (lv_at hl 1 rfl) ?_
  refine c_Vi (rest := []) hl9 hC hI hl.1 (tX5_priceAt l g B0 ad _ fn lw t ht he hp) (cw_X5_28 hts rfl rfl ⟨(Nat.le_of_ble_eq_true rfl), (Nat.le_of_ble_eq_true rfl)⟩) he rfl rfl rfl rfl (Nat.le_of_ble_eq_true rfl) dX5_isLowestAt_2 ⟨(Nat.le_of_ble_eq_true rfl), (Nat.le_of_ble_eq_true rfl)⟩ (fun H locs hI => ?_)
  refine lv_aload_n hx hb dX5_isLowestAt_5 rfl (lv_at hl 0 rfl) ?_
  refine gf_X5_15 hC hI he rfl dX5_isLowestAt_6 ?_
  refine lv_icmp_ne (tgt := 16) hx hb dX5_isLowestAt_9 (by decide) (fun c9 => ?_) (fun c9 => ?_)
  · refine lv_iconst (v := 0) hx hb dX5_isLowestAt_16 (by decide) ?_
    exact e_bool hC hI (by decide) (rI (bi_f c9).symm) (Nat.le_of_ble_eq_true rfl) (Nat.le_of_ble_eq_true rfl) dX5_isLowestAt_17
  · refine lv_iconst (v := 1) hx hb dX5_isLowestAt_12 (by decide) ?_
    refine lv_goto (tgt := 17) hx hb dX5_isLowestAt_13 (by decide) ?_
    exact e_bool hC hI (by decide) (rI (bi_t c9).symm) (Nat.le_of_ble_eq_true rfl) (Nat.le_of_ble_eq_true rfl) dX5_isLowestAt_17
set_option maxHeartbeats 4000000 in
set_option maxRecDepth 100000 in
theorem tX5_charge (l : Launch) (g : Gg) (B0 : Nat) (ad : Ad) (f : Wd) (fn : Nat → Int32) (lw pr : Int32) (F T : Nat) (hF : F ≤ T) (hT : T < 24) (he : f 2 0 = some (.inr (5, [.ref (ad 3 0), .int lw]))) (hp : f 3 0 = some (.inl (g.2 0, 24, .inl fn))) : MM l g B0 yX5_charge (wsM yX5_charge cX5_charge 5 none) ({ frames := 1, cells := 0, slots := 0, locals := 21 } : Room) [.ref (ad 2 0), .int (nI F), .int (nI T), .int pr] ad (f) (dV ad (up2 (up2 (f) 3 0 (.inl (g.2 0, 24, .inl (chF fn F T pr 24)))) 2 0 (.inr (5, [.ref (ad 3 0), .int (chL fn F T pr 24)])))) (noX) 0 0 := by
  refine MM.start (by decide) (Nat.le_of_ble_eq_true rfl) ?_
  intro hl9 p e s m below meth c ls hC hno hI hl0
  have hx := hC.1.1
  have hb := hC.1.2.1
  have hts := hC.1.2.2.2.2
  have hl : lv_has ls 5 [(0, .ref (ad 2 0)), (1, .int (nI F)), (2, .int (nI T)), (3, .int pr)] := hl0
  obtain ⟨H, hH⟩ : ∃ H, H = s.heap := ⟨_, rfl⟩
  obtain ⟨locs, hLo⟩ : ∃ L : List Loc, L = [] := ⟨_, rfl⟩
  rw [← hH, ← hLo] at hI ⊢
  clear hH hLo hl0
  refine lv_aload_n hx hb dX5_charge_0 rfl (lv_at hl 0 rfl) ?_
  refine lv_iload_n hx hb dX5_charge_1 rfl (lv_at hl 3 rfl) ?_
  refine pf_X5_15 hC hI he (Nat.le_of_ble_eq_true rfl) dX5_charge_2 (fun H locs hI => ?_)
  have hI : WI g ad B0 (up2 (f) 2 0 (.inr (5, [.ref (ad 3 0), .int pr]))) s H locs := hI.cast (rfl)
  refine lv_iconst (v := 0) hx hb dX5_charge_5 (by decide) ?_
  refine lv_istore (lv' := [(4, .int (nI 0)), (0, .ref (ad 2 0)), (1, .int (nI F)), (2, .int (nI T)), (3, .int pr)]) hx hb dX5_charge_6 hl (by decide) rfl (fun ls hl => ?_)
  have hI : WI g ad B0 (up2 (up2 (f) 3 0 (.inl (g.2 0, 24, .inl (chF fn F T pr 0)))) 2 0 (.inr (5, [.ref (ad 3 0), .int (chL fn F T pr 0)]))) s H locs := hI.cast (by rw [chF_0, up2_self hp]; rfl)
  have L8 : ∀ (n : Nat) (k : Nat), k ≤ 24 → 25 ≤ k + n → ∀ (H : Heap) (locs : List Loc), WI g ad B0 (up2 (up2 (f) 3 0 (.inl (g.2 0, 24, .inl (chF fn F T pr k)))) 2 0 (.inr (5, [.ref (ad 3 0), .int (chL fn F T pr k)]))) s H locs → ∀ (ls : Array Slot), lv_has ls 5 [(4, .int (nI k)), (0, .ref (ad 2 0)), (1, .int (nI F)), (2, .int (nI T)), (3, .int pr)] → W p l e ({ frames := 1, cells := 0, slots := 0, locals := 21 } : Room) s m ([.ref (ad 2 0), .int (nI F), .int (nI T), .int pr] : List Value).toArray below meth c H locs 0 0 (vx_MQ below (QI g B0 (dV ad (up2 (up2 (f) 3 0 (.inl (g.2 0, 24, .inl (chF fn F T pr 24)))) 2 0 (.inr (5, [.ref (ad 3 0), .int (chL fn F T pr 24)]))))) (XI g B0 (noX)) ([.ref (ad 2 0), .int (nI F), .int (nI T), .int pr] : List Value).toArray s 0 0 (fun q => B0 ≤ q)) (F0 m 8 ls []) := by
    intro n
    induction n with
    | zero =>
      intro k hk hfu
      exact absurd hfu (by omega)
    | succ n ih8 =>
      intro k hk hfu H locs hI ls hl
      refine lv_iload hx hb dX5_charge_8 (lv_at hl 0 rfl) ?_
      refine lv_aload_n hx hb dX5_charge_10 rfl (lv_at hl 1 rfl) ?_
      refine gf_X5_9 hC hI (up2_s _ _ _ _) rfl dX5_charge_11 ?_
      refine r_alen hC hI ((up2_n _ _ (by omega)).trans (up2_s _ _ _ _)) 0 rfl (v := 24) rfl dX5_charge_14 ?_
      refine lv_icmp_ge (tgt := 62) hx hb dX5_charge_15 (by decide) (fun c15 => ?_) (fun c15 => ?_)
      · have hk2 : 24 ≤ k := ge_T rfl (by decide) (by omega) c15
        have hk3 : k = 24 := by omega
        subst hk3
        exact e_void hC hI ⟨rfl, rfl, rfl⟩ (Nat.le_of_ble_eq_true rfl) (Nat.le_of_ble_eq_true rfl) dX5_charge_62
      · have hk2 : k < 24 := ge_F rfl (by decide) (by omega) c15
        refine lv_iload hx hb dX5_charge_18 (lv_at hl 0 rfl) ?_
        refine lv_iload_n hx hb dX5_charge_20 rfl (lv_at hl 2 rfl) ?_
        refine lv_icmp_lt (tgt := 38) hx hb dX5_charge_21 (by decide) (fun c21 => ?_) (fun c21 => ?_)
        · have hI : WI g ad B0 (up2 (up2 (f) 3 0 (.inl (g.2 0, 24, .inl (chF fn F T pr (k + 1))))) 2 0 (.inr (5, [.ref (ad 3 0), .int (chL fn F T pr k)]))) s H locs := hI.cast (by rw [chF_n (k := k) (fun z => absurd ((nI_leI (by omega) (by omega)).mpr z.1) (Int32.not_le.mpr c21))])
          refine lv_aload_n hx hb dX5_charge_38 rfl (lv_at hl 1 rfl) ?_
          refine lv_aload_n hx hb dX5_charge_39 rfl (lv_at hl 1 rfl) ?_
          refine gf_X5_15 hC hI (up2_s _ _ _ _) rfl dX5_charge_40 ?_
          refine lv_aload_n hx hb dX5_charge_43 rfl (lv_at hl 1 rfl) ?_
          refine gf_X5_9 hC hI (up2_s _ _ _ _) rfl dX5_charge_44 ?_
          refine lv_iload hx hb dX5_charge_47 (lv_at hl 0 rfl) ?_
          refine r_iald hC hI ((up2_n _ _ (by omega)).trans (up2_s _ _ _ _)) (j := k) rfl hk2 (by decide) dX5_charge_49 ?_
          refine va_mmin hx hb (hC.1.2.2.1.trans hl.1.symm) hC.1.2.2.2.1 (hts _ wd_ml_X5_19) (hts _ wd_st_yJ9_min_7cf53) (hts _ wd_in_RJ9) (hts _ wd_co_yJ9_min_7cf53) (Nat.le_of_ble_eq_true rfl) (Nat.le_of_ble_eq_true rfl) (Nat.le_of_ble_eq_true rfl) (Nat.le_of_ble_eq_true rfl) dX5_charge_50 ?_
          refine pf_X5_15 hC hI (up2_s _ _ _ _) (Nat.le_of_ble_eq_true rfl) dX5_charge_53 (fun H locs hI => ?_)
          have hI : WI g ad B0 (up2 (up2 (f) 3 0 (.inl (g.2 0, 24, .inl (chF fn F T pr (k + 1))))) 2 0 (.inr (5, [.ref (ad 3 0), .int (mn (chL fn F T pr k) (chF fn F T pr (k + 1) k))]))) s H locs := hI.cast (up2_up2 _ _ _ _ _)
          refine lv_iinc (v := nI (k + 1)) (lv' := [(4, .int (nI (k + 1))), (0, .ref (ad 2 0)), (1, .int (nI F)), (2, .int (nI T)), (3, .int pr)]) hx hb dX5_charge_56 hl (k := 0) rfl (nI_1 _) (by decide) rfl (fun ls hl => ?_)
          refine lv_goto (tgt := 8) hx hb dX5_charge_59 (by decide) ?_
          exact ih8 (k + 1) (by omega) (by omega) _ _ hI ls (lv_sub hl [0, 1, 2, 3, 4] rfl)
        · refine lv_iload hx hb dX5_charge_24 (lv_at hl 0 rfl) ?_
          refine lv_iload_n hx hb dX5_charge_26 rfl (lv_at hl 3 rfl) ?_
          refine lv_icmp_gt (tgt := 38) hx hb dX5_charge_27 (by decide) (fun c27 => ?_) (fun c27 => ?_)
          · have hI : WI g ad B0 (up2 (up2 (f) 3 0 (.inl (g.2 0, 24, .inl (chF fn F T pr (k + 1))))) 2 0 (.inr (5, [.ref (ad 3 0), .int (chL fn F T pr k)]))) s H locs := hI.cast (by rw [chF_n (k := k) (fun z => absurd ((nI_leI (by omega) (by omega)).mpr z.2) (Int32.not_le.mpr c27))])
            refine lv_aload_n hx hb dX5_charge_38 rfl (lv_at hl 1 rfl) ?_
            refine lv_aload_n hx hb dX5_charge_39 rfl (lv_at hl 1 rfl) ?_
            refine gf_X5_15 hC hI (up2_s _ _ _ _) rfl dX5_charge_40 ?_
            refine lv_aload_n hx hb dX5_charge_43 rfl (lv_at hl 1 rfl) ?_
            refine gf_X5_9 hC hI (up2_s _ _ _ _) rfl dX5_charge_44 ?_
            refine lv_iload hx hb dX5_charge_47 (lv_at hl 0 rfl) ?_
            refine r_iald hC hI ((up2_n _ _ (by omega)).trans (up2_s _ _ _ _)) (j := k) rfl hk2 (by decide) dX5_charge_49 ?_
            refine va_mmin hx hb (hC.1.2.2.1.trans hl.1.symm) hC.1.2.2.2.1 (hts _ wd_ml_X5_19) (hts _ wd_st_yJ9_min_7cf53) (hts _ wd_in_RJ9) (hts _ wd_co_yJ9_min_7cf53) (Nat.le_of_ble_eq_true rfl) (Nat.le_of_ble_eq_true rfl) (Nat.le_of_ble_eq_true rfl) (Nat.le_of_ble_eq_true rfl) dX5_charge_50 ?_
            refine pf_X5_15 hC hI (up2_s _ _ _ _) (Nat.le_of_ble_eq_true rfl) dX5_charge_53 (fun H locs hI => ?_)
            have hI : WI g ad B0 (up2 (up2 (f) 3 0 (.inl (g.2 0, 24, .inl (chF fn F T pr (k + 1))))) 2 0 (.inr (5, [.ref (ad 3 0), .int (mn (chL fn F T pr k) (chF fn F T pr (k + 1) k))]))) s H locs := hI.cast (up2_up2 _ _ _ _ _)
            refine lv_iinc (v := nI (k + 1)) (lv' := [(4, .int (nI (k + 1))), (0, .ref (ad 2 0)), (1, .int (nI F)), (2, .int (nI T)), (3, .int pr)]) hx hb dX5_charge_56 hl (k := 0) rfl (nI_1 _) (by decide) rfl (fun ls hl => ?_)
            refine lv_goto (tgt := 8) hx hb dX5_charge_59 (by decide) ?_
            exact ih8 (k + 1) (by omega) (by omega) _ _ hI ls (lv_sub hl [0, 1, 2, 3, 4] rfl)
          · have hky : F ≤ k ∧ k ≤ T := ⟨(nI_leI (by omega) (by omega)).mp (Int32.not_lt.mp c21), (nI_leI (by omega) (by omega)).mp (Int32.not_lt.mp c27)⟩
            refine lv_aload_n hx hb dX5_charge_30 rfl (lv_at hl 1 rfl) ?_
            refine gf_X5_9 hC hI (up2_s _ _ _ _) rfl dX5_charge_31 ?_
            refine lv_iload hx hb dX5_charge_34 (lv_at hl 0 rfl) ?_
            refine lv_iload_n hx hb dX5_charge_36 rfl (lv_at hl 4 rfl) ?_
            refine r_iast hC hI ((up2_n _ _ (by omega)).trans (up2_s _ _ _ _)) (j := k) rfl hk2 (by decide) dX5_charge_37 (fun H locs hI => ?_)
            have hI : WI g ad B0 (up2 (up2 (f) 3 0 (.inl (g.2 0, 24, .inl (chF fn F T pr (k + 1))))) 2 0 (.inr (5, [.ref (ad 3 0), .int (chL fn F T pr k)]))) s H locs := hI.cast (by rw [up2_mid _ _ _ _ (by omega), chF_y hky])
            refine lv_aload_n hx hb dX5_charge_38 rfl (lv_at hl 1 rfl) ?_
            refine lv_aload_n hx hb dX5_charge_39 rfl (lv_at hl 1 rfl) ?_
            refine gf_X5_15 hC hI (up2_s _ _ _ _) rfl dX5_charge_40 ?_
            refine lv_aload_n hx hb dX5_charge_43 rfl (lv_at hl 1 rfl) ?_
            refine gf_X5_9 hC hI (up2_s _ _ _ _) rfl dX5_charge_44 ?_
            refine lv_iload hx hb dX5_charge_47 (lv_at hl 0 rfl) ?_
            refine r_iald hC hI ((up2_n _ _ (by omega)).trans (up2_s _ _ _ _)) (j := k) rfl hk2 (by decide) dX5_charge_49 ?_
            refine va_mmin hx hb (hC.1.2.2.1.trans hl.1.symm) hC.1.2.2.2.1 (hts _ wd_ml_X5_19) (hts _ wd_st_yJ9_min_7cf53) (hts _ wd_in_RJ9) (hts _ wd_co_yJ9_min_7cf53) (Nat.le_of_ble_eq_true rfl) (Nat.le_of_ble_eq_true rfl) (Nat.le_of_ble_eq_true rfl) (Nat.le_of_ble_eq_true rfl) dX5_charge_50 ?_
            refine pf_X5_15 hC hI (up2_s _ _ _ _) (Nat.le_of_ble_eq_true rfl) dX5_charge_53 (fun H locs hI => ?_)
            have hI : WI g ad B0 (up2 (up2 (f) 3 0 (.inl (g.2 0, 24, .inl (chF fn F T pr (k + 1))))) 2 0 (.inr (5, [.ref (ad 3 0), .int (mn (chL fn F T pr k) (chF fn F T pr (k + 1) k))]))) s H locs := hI.cast (up2_up2 _ _ _ _ _)
            refine lv_iinc (v := nI (k + 1)) (lv' := [(4, .int (nI (k + 1))), (0, .ref (ad 2 0)), (1, .int (nI F)), (2, .int (nI T)), (3, .int pr)]) hx hb dX5_charge_56 hl (k := 0) rfl (nI_1 _) (by decide) rfl (fun ls hl => ?_)
            refine lv_goto (tgt := 8) hx hb dX5_charge_59 (by decide) ?_
            exact ih8 (k + 1) (by omega) (by omega) _ _ hI ls (lv_sub hl [0, 1, 2, 3, 4] rfl)
  exact L8 25 0 (by omega) (by omega) _ _ hI ls (lv_sub hl [0, 1, 2, 3, 4] rfl)
set_option maxHeartbeats 4000000 in
set_option maxRecDepth 100000 in
theorem tX2_left (l : Launch) (g : Gg) (B0 : Nat) (ad : Ad) (f : Wd) (pa q : Nat) (ro : Option Nat) (t a rt ra n lo hi li sm : Int32) (he0 : f 12 pa = some (.inr (2, [.ref (ad 7 q), va_rf ro, .int t, .int a, .int rt, .int ra]))) (he1 : f 7 q = some (.inr (3, [.int n, .int lo, .int hi, .int li, .int sm]))) : MM l g B0 yX2_left (wsM yX2_left cX2_left 1 (some .int)) ({ frames := 0, cells := 0, slots := 0, locals := 0 } : Room) [.ref (ad 12 pa)] ad (f) (dI (li - a) ad f) (noX) 0 0 := by
  refine MM.start (by decide) (Nat.le_of_ble_eq_true rfl) ?_
  intro hl9 p e s m below meth c ls hC hno hI hl0
  have hx := hC.1.1
  have hb := hC.1.2.1
  have hts := hC.1.2.2.2.2
  have hl : lv_has ls 1 [(0, .ref (ad 12 pa))] := hl0
  obtain ⟨H, hH⟩ : ∃ H, H = s.heap := ⟨_, rfl⟩
  obtain ⟨locs, hLo⟩ : ∃ L : List Loc, L = [] := ⟨_, rfl⟩
  rw [← hH, ← hLo] at hI ⊢
  clear hH hLo hl0
  refine lv_aload_n hx hb dX2_left_0 rfl (lv_at hl 0 rfl) ?_
  refine gf_X2_23 hC hI he0 rfl dX2_left_1 ?_
  refine gf_X2_46 hC hI he1 rfl dX2_left_4 ?_
  refine lv_aload_n hx hb dX2_left_7 rfl (lv_at hl 0 rfl) ?_
  refine gf_X2_13 hC hI he0 rfl dX2_left_8 ?_
  refine lv_isub hx hb dX2_left_11 ?_
  exact e_int hC hI ⟨rfl, rfl, rfl⟩ (Nat.le_of_ble_eq_true rfl) (Nat.le_of_ble_eq_true rfl) dX2_left_12
set_option maxHeartbeats 4000000 in
set_option maxRecDepth 100000 in
theorem tX2_isSpoiled (l : Launch) (g : Gg) (B0 : Nat) (ad : Ad) (f : Wd) (pa q : Nat) (ro : Option Nat) (t a rt ra n lo hi li sm : Int32) (he0 : f 12 pa = some (.inr (2, [.ref (ad 7 q), va_rf ro, .int t, .int a, .int rt, .int ra]))) (he1 : f 7 q = some (.inr (3, [.int n, .int lo, .int hi, .int li, .int sm]))) : MM l g B0 yX2_isSpoiled (wsM yX2_isSpoiled cX2_isSpoiled 1 (some .boolean)) ({ frames := 1, cells := 0, slots := 0, locals := 20 } : Room) [.ref (ad 12 pa)] ad (f) (dI (bi (li - a < 0)) ad f) (noX) 0 0 := by
  refine MM.start (by decide) (Nat.le_of_ble_eq_true rfl) ?_
  intro hl9 p e s m below meth c ls hC hno hI hl0
  have hx := hC.1.1
  have hb := hC.1.2.1
  have hts := hC.1.2.2.2.2
  have hl : lv_has ls 1 [(0, .ref (ad 12 pa))] := hl0
  obtain ⟨H, hH⟩ : ∃ H, H = s.heap := ⟨_, rfl⟩
  obtain ⟨locs, hLo⟩ : ∃ L : List Loc, L = [] := ⟨_, rfl⟩
  rw [← hH, ← hLo] at hI ⊢
  clear hH hLo hl0
  refine lv_aload_n hx hb dX2_isSpoiled_0 rfl (lv_at hl 0 rfl) ?_
  refine c_Vi (rest := []) hl9 hC hI hl.1 (tX2_left l g B0 ad _ pa q ro _ _ _ _ _ _ _ _ _ he0 he1) (cw_X2_38 hts rfl rfl ⟨(Nat.le_of_ble_eq_true rfl), (Nat.le_of_ble_eq_true rfl)⟩) he0 rfl rfl rfl rfl (Nat.le_of_ble_eq_true rfl) dX2_isSpoiled_1 ⟨(Nat.le_of_ble_eq_true rfl), (Nat.le_of_ble_eq_true rfl)⟩ (fun H locs hI => ?_)
  refine lv_if_ge (tgt := 11) hx hb dX2_isSpoiled_4 (by decide) (fun c4 => ?_) (fun c4 => ?_)
  · refine lv_iconst (v := 0) hx hb dX2_isSpoiled_11 (by decide) ?_
    exact e_bool hC hI (by decide) (rI (bi_f (Int32.not_lt.mpr c4)).symm) (Nat.le_of_ble_eq_true rfl) (Nat.le_of_ble_eq_true rfl) dX2_isSpoiled_12
  · refine lv_iconst (v := 1) hx hb dX2_isSpoiled_7 (by decide) ?_
    refine lv_goto (tgt := 12) hx hb dX2_isSpoiled_8 (by decide) ?_
    exact e_bool hC hI (by decide) (rI (bi_t (Int32.not_le.mp c4)).symm) (Nat.le_of_ble_eq_true rfl) (Nat.le_of_ble_eq_true rfl) dX2_isSpoiled_12
set_option maxHeartbeats 4000000 in
set_option maxRecDepth 100000 in
theorem tX2_isHere (l : Launch) (g : Gg) (B0 : Nat) (ad : Ad) (f : Wd) (pa q : Nat) (ro : Option Nat) (t a rt ra : Int32) (he0 : f 12 pa = some (.inr (2, [.ref (ad 7 q), va_rf ro, .int t, .int a, .int rt, .int ra]))) : MM l g B0 yX2_isHere (wsM yX2_isHere cX2_isHere 1 (some .boolean)) ({ frames := 0, cells := 0, slots := 0, locals := 0 } : Room) [.ref (ad 12 pa)] ad (f) (dI (bi (¬ ro = none)) ad f) (noX) 0 0 := by
  refine MM.start (by decide) (Nat.le_of_ble_eq_true rfl) ?_
  intro hl9 p e s m below meth c ls hC hno hI hl0
  have hx := hC.1.1
  have hb := hC.1.2.1
  have hts := hC.1.2.2.2.2
  have hl : lv_has ls 1 [(0, .ref (ad 12 pa))] := hl0
  obtain ⟨H, hH⟩ : ∃ H, H = s.heap := ⟨_, rfl⟩
  obtain ⟨locs, hLo⟩ : ∃ L : List Loc, L = [] := ⟨_, rfl⟩
  rw [← hH, ← hLo] at hI ⊢
  clear hH hLo hl0
  refine lv_aload_n hx hb dX2_isHere_0 rfl (lv_at hl 0 rfl) ?_
  refine gf_X2_7 hC hI he0 rfl dX2_isHere_1 ?_
  refine lv_topo (fun e1 => ?_) (fun q1 e1 => ?_)
  · refine lv_ifnullN (tgt := 11) hx hb dX2_isHere_4 (by decide) ?_
    refine lv_iconst (v := 0) hx hb dX2_isHere_11 (by decide) ?_
    exact e_bool hC hI (by decide) (rI (bi_f (fun z => z e1)).symm) (Nat.le_of_ble_eq_true rfl) (Nat.le_of_ble_eq_true rfl) dX2_isHere_12
  · refine lv_ifnull hx hb dX2_isHere_4 ?_
    refine lv_iconst (v := 1) hx hb dX2_isHere_7 (by decide) ?_
    refine lv_goto (tgt := 12) hx hb dX2_isHere_8 (by decide) ?_
    exact e_bool hC hI (by decide) (rI (bi_t (show ¬ ro = none from fun z => by rw [z] at e1; cases e1)).symm) (Nat.le_of_ble_eq_true rfl) (Nat.le_of_ble_eq_true rfl) dX2_isHere_12
set_option maxHeartbeats 4000000 in
set_option maxRecDepth 100000 in
theorem tX2_isHereWith (l : Launch) (g : Gg) (B0 : Nat) (ad : Ad) (f : Wd) (pa q q2 : Nat) (ro : Option Nat) (t a rt ra n lo hi li sm n2 lo2 hi2 li2 sm2 : Int32) (he0 : f 12 pa = some (.inr (2, [.ref (ad 7 q), va_rf ro, .int t, .int a, .int rt, .int ra]))) (he1 : f 7 q = some (.inr (3, [.int n, .int lo, .int hi, .int li, .int sm]))) (he2 : f 7 q2 = some (.inr (3, [.int n2, .int lo2, .int hi2, .int li2, .int sm2]))) : MM l g B0 yX2_isHereWith (wsM yX2_isHereWith cX2_isHereWith 2 (some .boolean)) ({ frames := 1, cells := 0, slots := 0, locals := 20 } : Room) [.ref (ad 12 pa), .ref (ad 7 q2)] ad (f) (dI (bi (¬ ro = none ∧ n = n2)) ad f) (noX) 0 0 := by
  refine MM.start (by decide) (Nat.le_of_ble_eq_true rfl) ?_
  intro hl9 p e s m below meth c ls hC hno hI hl0
  have hx := hC.1.1
  have hb := hC.1.2.1
  have hts := hC.1.2.2.2.2
  have hl : lv_has ls 2 [(0, .ref (ad 12 pa)), (1, .ref (ad 7 q2))] := hl0
  obtain ⟨H, hH⟩ : ∃ H, H = s.heap := ⟨_, rfl⟩
  obtain ⟨locs, hLo⟩ : ∃ L : List Loc, L = [] := ⟨_, rfl⟩
  rw [← hH, ← hLo] at hI ⊢
  clear hH hLo hl0
  refine lv_aload_n hx hb dX2_isHereWith_0 rfl (lv_at hl 0 rfl) ?_
  refine c_Vi (rest := []) hl9 hC hI hl.1 (tX2_isHere l g B0 ad _ pa q ro _ _ _ _ he0) (cw_X2_42 hts rfl rfl ⟨(Nat.le_of_ble_eq_true rfl), (Nat.le_of_ble_eq_true rfl)⟩) he0 rfl rfl rfl rfl (Nat.le_of_ble_eq_true rfl) dX2_isHereWith_1 ⟨(Nat.le_of_ble_eq_true rfl), (Nat.le_of_ble_eq_true rfl)⟩ (fun H locs hI => ?_)
  refine lv_if_eq (tgt := 25) hx hb dX2_isHereWith_4 (by decide) (fun c4 => ?_) (fun c4 => ?_)
  · have c4 := bi_0.mp c4
    refine lv_iconst (v := 0) hx hb dX2_isHereWith_25 (by decide) ?_
    exact e_bool hC hI (by decide) (rI (bi_f (fun z => c4 z.1)).symm) (Nat.le_of_ble_eq_true rfl) (Nat.le_of_ble_eq_true rfl) dX2_isHereWith_26
  · have c4 := bi_1.mp c4
    refine lv_aload_n hx hb dX2_isHereWith_7 rfl (lv_at hl 0 rfl) ?_
    refine gf_X2_23 hC hI he0 rfl dX2_isHereWith_8 ?_
    refine gf_X2_30 hC hI he1 rfl dX2_isHereWith_11 ?_
    refine lv_aload_n hx hb dX2_isHereWith_14 rfl (lv_at hl 1 rfl) ?_
    refine gf_X2_30 hC hI he2 rfl dX2_isHereWith_15 ?_
    refine lv_icmp_ne (tgt := 25) hx hb dX2_isHereWith_18 (by decide) (fun c18 => ?_) (fun c18 => ?_)
    · refine lv_iconst (v := 0) hx hb dX2_isHereWith_25 (by decide) ?_
      exact e_bool hC hI (by decide) (rI (bi_f (fun z => c18 z.2)).symm) (Nat.le_of_ble_eq_true rfl) (Nat.le_of_ble_eq_true rfl) dX2_isHereWith_26
    · refine lv_iconst (v := 1) hx hb dX2_isHereWith_21 (by decide) ?_
      refine lv_goto (tgt := 26) hx hb dX2_isHereWith_22 (by decide) ?_
      exact e_bool hC hI (by decide) (rI (bi_t ⟨c4, c18⟩).symm) (Nat.le_of_ble_eq_true rfl) (Nat.le_of_ble_eq_true rfl) dX2_isHereWith_26
set_option maxHeartbeats 4000000 in
set_option maxRecDepth 100000 in
theorem tX2_factN (l : Launch) (g : Gg) (B0 : Nat) (ad : Ad) (f : Wd) (pa q r : Nat) (rn t a rt ra n lo hi li sm w : Int32) (he0 : f 12 pa = some (.inr (2, [.ref (ad 7 q), .null, .int t, .int a, .int rt, .int ra]))) (he1 : f 7 q = some (.inr (3, [.int n, .int lo, .int hi, .int li, .int sm]))) : MM l g B0 yX2_fact (wsM yX2_fact cX2_fact 2 (some .int)) ({ frames := 1, cells := 0, slots := 0, locals := 20 } : Room) [.ref (ad 12 pa), .int w] ad (f) (dI (if w = 0 then n else if w = 1 then t else if w = 2 then a else if w = 3 then -1 else li - a) ad f) (noX) 0 0 := by
  refine MM.start (by decide) (Nat.le_of_ble_eq_true rfl) ?_
  intro hl9 p e s m below meth c ls hC hno hI hl0
  have hx := hC.1.1
  have hb := hC.1.2.1
  have hts := hC.1.2.2.2.2
  have hl : lv_has ls 2 [(0, .ref (ad 12 pa)), (1, .int w)] := hl0
  obtain ⟨H, hH⟩ : ∃ H, H = s.heap := ⟨_, rfl⟩
  obtain ⟨locs, hLo⟩ : ∃ L : List Loc, L = [] := ⟨_, rfl⟩
  rw [← hH, ← hLo] at hI ⊢
  clear hH hLo hl0
  refine lv_iload_n hx hb dX2_fact_0 rfl (lv_at hl 1 rfl) ?_
  by_cases s0 : w = 0
  · subst s0
    refine lv_tableIn (tgt := 32) hx hb dX2_fact_1 (by decide) (by decide) rfl (by decide) ?_
    refine lv_aload_n hx hb dX2_fact_32 rfl (lv_at hl 0 rfl) ?_
    refine gf_X2_23 hC hI he0 rfl dX2_fact_33 ?_
    refine gf_X2_30 hC hI he1 rfl dX2_fact_36 ?_
    exact e_int hC hI (rI rfl) (Nat.le_of_ble_eq_true rfl) (Nat.le_of_ble_eq_true rfl) dX2_fact_39
  by_cases s1 : w = 1
  · subst s1
    refine lv_tableIn (tgt := 40) hx hb dX2_fact_1 (by decide) (by decide) rfl (by decide) ?_
    refine lv_aload_n hx hb dX2_fact_40 rfl (lv_at hl 0 rfl) ?_
    refine gf_X2_27 hC hI he0 rfl dX2_fact_41 ?_
    exact e_int hC hI (rI rfl) (Nat.le_of_ble_eq_true rfl) (Nat.le_of_ble_eq_true rfl) dX2_fact_44
  by_cases s2 : w = 2
  · subst s2
    refine lv_tableIn (tgt := 45) hx hb dX2_fact_1 (by decide) (by decide) rfl (by decide) ?_
    refine lv_aload_n hx hb dX2_fact_45 rfl (lv_at hl 0 rfl) ?_
    refine gf_X2_13 hC hI he0 rfl dX2_fact_46 ?_
    exact e_int hC hI (rI rfl) (Nat.le_of_ble_eq_true rfl) (Nat.le_of_ble_eq_true rfl) dX2_fact_49
  by_cases s3 : w = 3
  · subst s3
    refine lv_tableIn (tgt := 50) hx hb dX2_fact_1 (by decide) (by decide) rfl (by decide) ?_
    refine lv_aload_n hx hb dX2_fact_50 rfl (lv_at hl 0 rfl) ?_
    refine gf_X2_7 hC hI he0 rfl dX2_fact_51 ?_
    refine lv_ifnonnullN hx hb dX2_fact_54 ?_
    refine lv_iconst (v := (-1)) hx hb dX2_fact_57 (by decide) ?_
    refine lv_goto (tgt := 68) hx hb dX2_fact_58 (by decide) ?_
    exact e_int hC hI (rI rfl) (Nat.le_of_ble_eq_true rfl) (Nat.le_of_ble_eq_true rfl) dX2_fact_68
  refine lv_tableOut (tgt := 69) hx hb dX2_fact_1 (by have := sw_n (z := 0) (by decide) s0; have := sw_n (z := 1) (by decide) s1; have := sw_n (z := 2) (by decide) s2; have := sw_n (z := 3) (by decide) s3; omega) (by decide) ?_
  refine lv_aload_n hx hb dX2_fact_69 rfl (lv_at hl 0 rfl) ?_
  refine c_Vi (rest := []) hl9 hC hI hl.1 (tX2_left l g B0 ad _ pa q none _ _ _ _ _ _ _ _ _ he0 he1) (cw_X2_38 hts rfl rfl ⟨(Nat.le_of_ble_eq_true rfl), (Nat.le_of_ble_eq_true rfl)⟩) he0 rfl rfl rfl rfl (Nat.le_of_ble_eq_true rfl) dX2_fact_70 ⟨(Nat.le_of_ble_eq_true rfl), (Nat.le_of_ble_eq_true rfl)⟩ (fun H locs hI => ?_)
  exact e_int hC hI (rI (by rw [if_neg s0, if_neg s1, if_neg s2, if_neg s3])) (Nat.le_of_ble_eq_true rfl) (Nat.le_of_ble_eq_true rfl) dX2_fact_73
set_option maxHeartbeats 4000000 in
set_option maxRecDepth 100000 in
theorem tX2_factS (l : Launch) (g : Gg) (B0 : Nat) (ad : Ad) (f : Wd) (pa q r : Nat) (rn t a rt ra n lo hi li sm w : Int32) (fs : List Value) (hr8 : f 8 r = some (.inr (4, .int rn :: fs))) (he0 : f 12 pa = some (.inr (2, [.ref (ad 7 q), .ref (ad 8 r), .int t, .int a, .int rt, .int ra]))) (he1 : f 7 q = some (.inr (3, [.int n, .int lo, .int hi, .int li, .int sm]))) : MM l g B0 yX2_fact (wsM yX2_fact cX2_fact 2 (some .int)) ({ frames := 1, cells := 0, slots := 0, locals := 20 } : Room) [.ref (ad 12 pa), .int w] ad (f) (dI (if w = 0 then n else if w = 1 then t else if w = 2 then a else if w = 3 then rn else li - a) ad f) (noX) 0 0 := by
  refine MM.start (by decide) (Nat.le_of_ble_eq_true rfl) ?_
  intro hl9 p e s m below meth c ls hC hno hI hl0
  have hx := hC.1.1
  have hb := hC.1.2.1
  have hts := hC.1.2.2.2.2
  have hl : lv_has ls 2 [(0, .ref (ad 12 pa)), (1, .int w)] := hl0
  obtain ⟨H, hH⟩ : ∃ H, H = s.heap := ⟨_, rfl⟩
  obtain ⟨locs, hLo⟩ : ∃ L : List Loc, L = [] := ⟨_, rfl⟩
  rw [← hH, ← hLo] at hI ⊢
  clear hH hLo hl0
  refine lv_iload_n hx hb dX2_fact_0 rfl (lv_at hl 1 rfl) ?_
  by_cases s0 : w = 0
  · subst s0
    refine lv_tableIn (tgt := 32) hx hb dX2_fact_1 (by decide) (by decide) rfl (by decide) ?_
    refine lv_aload_n hx hb dX2_fact_32 rfl (lv_at hl 0 rfl) ?_
    refine gf_X2_23 hC hI he0 rfl dX2_fact_33 ?_
    refine gf_X2_30 hC hI he1 rfl dX2_fact_36 ?_
    exact e_int hC hI (rI rfl) (Nat.le_of_ble_eq_true rfl) (Nat.le_of_ble_eq_true rfl) dX2_fact_39
  by_cases s1 : w = 1
  · subst s1
    refine lv_tableIn (tgt := 40) hx hb dX2_fact_1 (by decide) (by decide) rfl (by decide) ?_
    refine lv_aload_n hx hb dX2_fact_40 rfl (lv_at hl 0 rfl) ?_
    refine gf_X2_27 hC hI he0 rfl dX2_fact_41 ?_
    exact e_int hC hI (rI rfl) (Nat.le_of_ble_eq_true rfl) (Nat.le_of_ble_eq_true rfl) dX2_fact_44
  by_cases s2 : w = 2
  · subst s2
    refine lv_tableIn (tgt := 45) hx hb dX2_fact_1 (by decide) (by decide) rfl (by decide) ?_
    refine lv_aload_n hx hb dX2_fact_45 rfl (lv_at hl 0 rfl) ?_
    refine gf_X2_13 hC hI he0 rfl dX2_fact_46 ?_
    exact e_int hC hI (rI rfl) (Nat.le_of_ble_eq_true rfl) (Nat.le_of_ble_eq_true rfl) dX2_fact_49
  by_cases s3 : w = 3
  · subst s3
    refine lv_tableIn (tgt := 50) hx hb dX2_fact_1 (by decide) (by decide) rfl (by decide) ?_
    refine lv_aload_n hx hb dX2_fact_50 rfl (lv_at hl 0 rfl) ?_
    refine gf_X2_7 hC hI he0 rfl dX2_fact_51 ?_
    refine lv_ifnonnull (tgt := 61) hx hb dX2_fact_54 (by decide) ?_
    refine lv_aload_n hx hb dX2_fact_61 rfl (lv_at hl 0 rfl) ?_
    refine gf_X2_7 hC hI he0 rfl dX2_fact_62 ?_
    refine gf_X2_35 hC hI hr8 rfl dX2_fact_65 ?_
    exact e_int hC hI (rI rfl) (Nat.le_of_ble_eq_true rfl) (Nat.le_of_ble_eq_true rfl) dX2_fact_68
  refine lv_tableOut (tgt := 69) hx hb dX2_fact_1 (by have := sw_n (z := 0) (by decide) s0; have := sw_n (z := 1) (by decide) s1; have := sw_n (z := 2) (by decide) s2; have := sw_n (z := 3) (by decide) s3; omega) (by decide) ?_
  refine lv_aload_n hx hb dX2_fact_69 rfl (lv_at hl 0 rfl) ?_
  refine c_Vi (rest := []) hl9 hC hI hl.1 (tX2_left l g B0 ad _ pa q (some (ad 8 r)) _ _ _ _ _ _ _ _ _ he0 he1) (cw_X2_38 hts rfl rfl ⟨(Nat.le_of_ble_eq_true rfl), (Nat.le_of_ble_eq_true rfl)⟩) he0 rfl rfl rfl rfl (Nat.le_of_ble_eq_true rfl) dX2_fact_70 ⟨(Nat.le_of_ble_eq_true rfl), (Nat.le_of_ble_eq_true rfl)⟩ (fun H locs hI => ?_)
  exact e_int hC hI (rI (by rw [if_neg s0, if_neg s1, if_neg s2, if_neg s3])) (Nat.le_of_ble_eq_true rfl) (Nat.le_of_ble_eq_true rfl) dX2_fact_73
set_option maxHeartbeats 4000000 in
set_option maxRecDepth 100000 in
theorem tX2_adaptTo (l : Launch) (g : Gg) (B0 : Nat) (ad : Ad) (f : Wd) (pa q : Nat) (ro : Option Nat) (t a rt ra n lo hi li sm : Int32) (tr : Int32) (he0 : f 12 pa = some (.inr (2, [.ref (ad 7 q), va_rf ro, .int t, .int a, .int rt, .int ra]))) (he1 : f 7 q = some (.inr (3, [.int n, .int lo, .int hi, .int li, .int sm]))) : MM l g B0 yX2_adaptTo (wsM yX2_adaptTo cX2_adaptTo 2 none) ({ frames := 1, cells := 0, slots := 0, locals := 21 } : Room) [.ref (ad 12 pa), .int tr] ad (f) (dV ad (up2 f 12 pa (.inr (2, [.ref (ad 7 q), va_rf ro, .int (t + (tr - t) / 8), .int (a + (1 + distS lo hi (t + (tr - t) / 8) / 10)), .int rt, .int ra])))) (noX) 0 0 := by
  refine MM.start (by decide) (Nat.le_of_ble_eq_true rfl) ?_
  intro hl9 p e s m below meth c ls hC hno hI hl0
  have hx := hC.1.1
  have hb := hC.1.2.1
  have hts := hC.1.2.2.2.2
  have hl : lv_has ls 2 [(0, .ref (ad 12 pa)), (1, .int tr)] := hl0
  obtain ⟨H, hH⟩ : ∃ H, H = s.heap := ⟨_, rfl⟩
  obtain ⟨locs, hLo⟩ : ∃ L : List Loc, L = [] := ⟨_, rfl⟩
  rw [← hH, ← hLo] at hI ⊢
  clear hH hLo hl0
  refine lv_aload_n hx hb dX2_adaptTo_0 rfl (lv_at hl 0 rfl) ?_
  refine lv_dup hx hb dX2_adaptTo_1 rfl ?_
  refine gf_X2_27 hC hI he0 rfl dX2_adaptTo_2 ?_
  refine lv_iload_n hx hb dX2_adaptTo_5 rfl (lv_at hl 1 rfl) ?_
  refine lv_aload_n hx hb dX2_adaptTo_6 rfl (lv_at hl 0 rfl) ?_
  refine gf_X2_27 hC hI he0 rfl dX2_adaptTo_7 ?_
  refine lv_isub hx hb dX2_adaptTo_10 ?_
  refine lv_bipush (v := 8) hx hb dX2_adaptTo_11 (by decide) ?_
  refine lv_idiv hx hb dX2_adaptTo_13 (by decide) ?_
  refine lv_iadd hx hb dX2_adaptTo_14 ?_
  refine pf_X2_27 hC hI he0 (Nat.le_of_ble_eq_true rfl) dX2_adaptTo_15 (fun H locs hI => ?_)
  have hI : WI g ad B0 (up2 (f) 12 pa (.inr (2, [.ref (ad 7 q), va_rf ro, .int (t + ((tr - t) / 8)), .int a, .int rt, .int ra]))) s H locs := hI.cast (rfl)
  refine lv_aload_n hx hb dX2_adaptTo_18 rfl (lv_at hl 0 rfl) ?_
  refine lv_dup hx hb dX2_adaptTo_19 rfl ?_
  refine gf_X2_13 hC hI (up2_s _ _ _ _) rfl dX2_adaptTo_20 ?_
  refine lv_iconst (v := 1) hx hb dX2_adaptTo_23 (by decide) ?_
  refine lv_aload_n hx hb dX2_adaptTo_24 rfl (lv_at hl 0 rfl) ?_
  refine gf_X2_23 hC hI (up2_s _ _ _ _) rfl dX2_adaptTo_25 ?_
  refine lv_aload_n hx hb dX2_adaptTo_28 rfl (lv_at hl 0 rfl) ?_
  refine gf_X2_27 hC hI (up2_s _ _ _ _) rfl dX2_adaptTo_29 ?_
  refine c_Vi (rest := [.int 1, .int a, .ref (ad 12 pa)]) hl9 hC hI hl.1 (tX3_distanceFromSuiting l g B0 ad _ q _ _ _ _ _ (t + ((tr - t) / 8)) ((up2_n _ _ (by omega)).trans he1)) (cw_X2_49 hts rfl rfl ⟨(Nat.le_of_ble_eq_true rfl), (Nat.le_of_ble_eq_true rfl)⟩) ((up2_n _ _ (by omega)).trans he1) rfl rfl rfl rfl (Nat.le_of_ble_eq_true rfl) dX2_adaptTo_32 ⟨(Nat.le_of_ble_eq_true rfl), (Nat.le_of_ble_eq_true rfl)⟩ (fun H locs hI => ?_)
  refine lv_bipush (v := 10) hx hb dX2_adaptTo_35 (by decide) ?_
  refine lv_idiv hx hb dX2_adaptTo_37 (by decide) ?_
  refine lv_iadd hx hb dX2_adaptTo_38 ?_
  refine lv_iadd hx hb dX2_adaptTo_39 ?_
  refine pf_X2_13 hC hI (up2_s _ _ _ _) (Nat.le_of_ble_eq_true rfl) dX2_adaptTo_40 (fun H locs hI => ?_)
  have hI : WI g ad B0 (up2 (f) 12 pa (.inr (2, [.ref (ad 7 q), va_rf ro, .int (t + ((tr - t) / 8)), .int (a + (1 + ((distS lo hi (t + ((tr - t) / 8))) / 10))), .int rt, .int ra]))) s H locs := hI.cast (up2_up2 _ _ _ _ _)
  exact e_void hC hI ⟨rfl, rfl, rfl⟩ (Nat.le_of_ble_eq_true rfl) (Nat.le_of_ble_eq_true rfl) dX2_adaptTo_43
