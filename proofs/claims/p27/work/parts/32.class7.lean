/-! AN HOUR IN A ROOM, the class's code -/
theorem hPl_nr {pl : Pl} {υ : Sg} {r k i : Nat} (h : i < nr υ) : i < nr (hPl pl υ r k) := by
  show i < cN (hPl pl υ r k 10 0)
  rw [hPl_row (by decide) (by decide)]
  exact h
theorem hPl_nt {pl : Pl} {υ : Sg} {r k i : Nat} (h : i < nt υ) : i < nt (hPl pl υ r k) := by
  show i < cN (hPl pl υ r k 17 0)
  rw [hPl_row (by decide) (by decide)]
  exact h
theorem hPl_np {pl : Pl} {υ : Sg} {r k i : Nat} (h : i < np υ) : i < np (hPl pl υ r k) := by
  show i < cN (hPl pl υ r k 5 0)
  rw [hPl_row (by decide) (by decide)]
  exact h
section FHP
variable {g : Gg} {ad : Ad} {υ : Sg} {pd : Int64} {pl : Pl} {sc : Sg} {h : Wd} {r k q : Nat}
theorem hPl_prd : prd (hPl pl υ r k) q = prd υ q := congrArg cN (congrFun (hPl_row (by decide) (by decide) k) q)
theorem hPl_rmR : rmR ad (hPl pl υ r k) q = rmR ad υ q := by
  unfold rmR rmo
  rw [hPl_row (w := 19) (by decide) (by decide) k]
theorem fC_hp12 (hq : q < nt υ) (ho : hPl pl υ r k 20 q = υ 20 q ∧ hPl pl υ r k 21 q = υ 21 q) : fC g ad (hPl pl υ r k) pd pl sc h 12 q = some (.inr (2, [.ref (ad 7 (prd υ q)), va_rf (rmR ad υ q), .int (υ 20 q), .int (υ 21 q), .int (sc 6 q), .int (sc 7 q)])) := by
  rw [fC_12 (hPl_nt hq), palE, hPl_prd, hPl_rmR, ho.1, ho.2]
theorem fC_hp7 {a : Nat} (ha : a < np υ) : fC g ad (hPl pl υ r k) pd pl sc h 7 a = some (.inr (3, [.int (nI a), .int (υ 6 a), .int (υ 7 a), .int (υ 8 a), .int (υ 9 a)])) := by
  rw [fC_7 (hPl_np ha), prodE, hPl_row (w := 6) (by decide) (by decide) k, hPl_row (w := 7) (by decide) (by decide) k, hPl_row (w := 8) (by decide) (by decide) k, hPl_row (w := 9) (by decide) (by decide) k]
theorem fC_hp (hp : pl r k = some q) (hq : q < nt υ) (hd : offS υ (prd υ q) (nTp υ r q) = distS (υ 6 (prd υ q)) (υ 7 (prd υ q)) (nTp υ r q)) : up2 (fC g ad (hPl pl υ r k) pd pl sc h) 12 q (.inr (2, [.ref (ad 7 (prd υ q)), va_rf (rmR ad υ q), .int (υ 20 q + (υ 16 (6 * r) - υ 20 q) / 8), .int (υ 21 q + (1 + distS (υ 6 (prd υ q)) (υ 7 (prd υ q)) (υ 20 q + (υ 16 (6 * r) - υ 20 q) / 8) / 10)), .int (sc 6 q), .int (sc 7 q)])) = fC g ad (hPl pl υ r (k + 1)) pd pl sc h := by
  rw [hPl_S hp, ← fC_P (hPl_nt hq), hPl_prd, hPl_rmR, hd]
  rfl
end FHP
theorem sm_9 {g : Gg} {ad : Ad} {τ : Sg} {v : Int32} {pd : Int64} {pl : Pl} {sc : Sg} {h : Wd} {r : Nat} (hr : r < nr τ) : fC g ad (s1 τ 16 (6 * r) v) pd pl sc h 9 r = some (.inr (1, [.int (τ 13 r), .int (τ 16 (6 * r + 2)), .int (τ 16 (6 * r + 3)), .int (τ 16 (6 * r + 1)), .int (τ 16 (6 * r + 4))])) := by
  have n_ : ∀ (i j : Nat) (x : Int32), i ≠ j → (s1 τ 16 j x) 16 i = τ 16 i := fun i j x h => upd_n _ _ h
  rw [fC_9 (show r < nr (s1 τ 16 (6 * r) v) from hr), machE, n_ _ _ _ (by omega), n_ _ _ _ (by omega), n_ _ _ _ (by omega), n_ _ _ _ (by omega)]
  rfl
/-- how warm the room is after the hour, of the state -/
theorem hour_TT {σ : Sg} {pl : Pl} {r hh : Nat} {b : Int} (hP : PlOk σ pl) (hR : Rg σ) (hr : r < nr σ) (hr6 : r < 6) (hb : 600 ≤ b) (hb2 : b ≤ 1000000) (hT : rg (σ 16 (6 * r)) (-b) b) (hpt : ∀ q, q < nt σ → σ 19 q = nI r → rg (σ 20 q) (-b) b) (ho : rg (outS σ (nI hh)) (-b) b) : rg (hTm (smS σ r hh) r hh 16 (6 * r)) (-(b + 20)) (b + 20) := by
  have hT6 : rg (σ 16 (6 * r)) (-1000000) 1000000 := ⟨by omega, by omega⟩
  have row : ∀ k, k ≠ 16 → smS σ r hh k = σ k := fun k hk => smS_row σ r hh hk
  have hRT := Rg_sm (hh := hh) hR hr hT6
  have hPT : PlOk (smS σ r hh) pl := PlOk_congr hP (row _ (by decide)) (row _ (by decide)) (row _ (by decide)) (row _ (by decide))
  have hrT : r < nr (smS σ r hh) := by
    show r < cN (smS σ r hh 10 0)
    rw [row _ (by decide)]
    exact hr
  have e0 : smS σ r hh 16 (6 * r) = σ 16 (6 * r) := (smS_m (hh := hh) hT6 (hR.2.1 r hr).2.2.2.1).2.2.2 _ (by omega)
  have eo : outS (smS σ r hh) (nI hh) = outS σ (nI hh) := by
    unfold outS
    rw [row 2 (by decide), row 3 (by decide)]
  obtain ⟨k0, k1, k2, -, -, k3⟩ := hRT.2.1 r hrT
  have h20 := (hRT.pl hrT).2
  rw [hTm_T, ← hBy3_eq hPT hRT hrT hr6]
  refine hour_T hb hb2 (by rw [e0]; exact hT) (by rw [eo]; exact ho) ⟨by omega, k1.2⟩ (mWm_rg k2 k3) ?_
  refine sum40 h20 hb2 (by rw [e0]; exact hT) (fun j hj => ?_)
  show _ ≤ 40 * (atP _ (pl r j)).toInt ∧ 40 * (atP _ (pl r j)).toInt ≤ _
  cases hp : pl r j with
  | none =>
    show _ ≤ 40 * (0 : Int32).toInt ∧ 40 * (0 : Int32).toInt ≤ _
    rw [e0]
    show _ ≤ 40 * 0 ∧ 40 * 0 ≤ _
    omega
  | some q =>
    obtain ⟨hq, hq19⟩ := hPT.on r j q hrT hj hp
    rw [row 19 (by decide)] at hq19
    refine div40 hb2 ?_ (by rw [e0]; exact hT)
    rw [row 20 (by decide)]
    refine hpt q ?_ hq19
    have hq2 : q < cN (smS σ r hh 17 0) := hq
    rw [row 17 (by decide)] at hq2
    exact hq2

set_option maxHeartbeats 4000000 in
set_option maxRecDepth 100000 in
theorem tX4_passHour (l : Launch) (g : Gg) (B0 : Nat) (ad : Ad) (σ : Sg) (pd : Int64) (pl : Pl) (sc : Sg) (h : Wd) (r : Nat) (hr : r < nr σ) (hh : Nat) (b : Int) (hok : OkP σ) (hP : PlOk σ pl) (hR : Rg σ) (hb6 : 600 ≤ b) (hb2 : b ≤ 900000) (hT : rg (σ 16 (6 * r)) (-b) b) (hpt : ∀ q, q < nt σ → σ 19 q = nI r → rg (σ 20 q) (-b) b) (hou : rg (outS σ (nI hh)) (-b) b) : MM l g B0 yX4_passHour (wsM yX4_passHour cX4_passHour 10 (some .int)) ({ frames := 2, cells := 0, slots := 0, locals := 42 } : Room) [.ref (ad 8 r), .int (outS σ (nI hh)), .int (bi (σ 4 hh = lowS σ))] ad (fC g ad σ pd pl sc h) (dI (if smS σ r hh 16 (6 * r + 2) = 1 then smS σ r hh 13 r else 0) ad (fC g ad (hourS σ r hh) pd pl sc h)) (noX) 0 0 := by
  refine MM.start (by decide) (Nat.le_of_ble_eq_true rfl) ?_
  intro hl9 p e s m below meth c ls hC hno hI hl0
  have hx := hC.1.1
  have hb := hC.1.2.1
  have hts := hC.1.2.2.2.2
  have hl : lv_has ls 10 [(0, .ref (ad 8 r)), (1, .int (outS σ (nI hh))), (2, .int (bi (σ 4 hh = lowS σ)))] := hl0
  obtain ⟨H, hH⟩ : ∃ H, H = s.heap := ⟨_, rfl⟩
  obtain ⟨locs, hLo⟩ : ∃ L : List Loc, L = [] := ⟨_, rfl⟩
  rw [← hH, ← hLo] at hI ⊢
  clear hH hLo hl0
  obtain ⟨h17, h60, h10, h6, h5, h12, hpr, hrm⟩ := id hok
  have h20 := (hR.pl hr).2
  have hr6 : r < 6 := by omega
  have hfr := hP.free hr hr6 (hR.pl hr).1
  have hT6 : rg (σ 16 (6 * r)) (-1000000) 1000000 := ⟨by omega, by omega⟩
  have hai := (hR.2.1 r hr).2.2.2.1
  have row : ∀ k, k ≠ 16 → smS σ r hh k = σ k := fun k hk => smS_row σ r hh hk
  have hRT := Rg_sm (hh := hh) hR hr hT6
  have hPT : PlOk (smS σ r hh) pl := PlOk_congr hP (row _ (by decide)) (row _ (by decide)) (row _ (by decide)) (row _ (by decide))
  have hokT : OkP (smS σ r hh) := OkP_congr hok (row _ (by decide)) (row _ (by decide)) (row _ (by decide)) (row _ (by decide)) (row _ (by decide))
  have hrT : r < nr (smS σ r hh) := by
    show r < cN (smS σ r hh 10 0)
    rw [row _ (by decide)]; exact hr
  have rowU : ∀ k, k ≠ 16 → hTm (smS σ r hh) r hh k = smS σ r hh k := fun k hk => hTm_row _ r hh hk
  have hPU : PlOk (hTm (smS σ r hh) r hh) pl := PlOk_congr hPT (rowU _ (by decide)) (rowU _ (by decide)) (rowU _ (by decide)) (rowU _ (by decide))
  have hrU : r < nr (hTm (smS σ r hh) r hh) := by
    show r < cN ((hTm (smS σ r hh) r hh) 10 0)
    rw [rowU _ (by decide)]; exact hrT
  have hTU := hour_TT (hh := hh) hP hR hr hr6 hb6 (by omega) hT hpt hou
  have eo : outS (smS σ r hh) (nI hh) = outS σ (nI hh) := by
    unfold outS
    rw [row 2 (by decide), row 3 (by decide)]
  have e11 : cN ((hTm (smS σ r hh) r hh) 11 r) = cN (σ 11 r) := by rw [rowU _ (by decide), row _ (by decide)]
  have hdU : ∀ q, q < nt (hTm (smS σ r hh) r hh) → (hTm (smS σ r hh) r hh) 19 q = nI r → prd (hTm (smS σ r hh) r hh) q < np (hTm (smS σ r hh) r hh) ∧ offS (hTm (smS σ r hh) r hh) (prd (hTm (smS σ r hh) r hh) q) (nTp (hTm (smS σ r hh) r hh) r q) = distS ((hTm (smS σ r hh) r hh) 6 (prd (hTm (smS σ r hh) r hh) q)) ((hTm (smS σ r hh) r hh) 7 (prd (hTm (smS σ r hh) r hh) q)) (nTp (hTm (smS σ r hh) r hh) r q) := fun q hq hz9 => by
    have hq2 : q < nt σ := by
      have hz : q < cN ((hTm (smS σ r hh) r hh) 17 0) := hq
      rw [rowU _ (by decide), row _ (by decide)] at hz
      exact hz
    have e1 : prd (hTm (smS σ r hh) r hh) q = prd σ q := by
      show cN ((hTm (smS σ r hh) r hh) 18 q) = cN (σ 18 q)
      rw [rowU _ (by decide), row _ (by decide)]
    have h1 : prd σ q < np σ := (hpr q hq2).2
    have er : ∀ k, k ≠ 16 → (hTm (smS σ r hh) r hh) k = σ k := fun k hk => (rowU k hk).trans (row k hk)
    have h2 : prd (hTm (smS σ r hh) r hh) q < np (hTm (smS σ r hh) r hh) := by
      rw [e1]
      show prd σ q < cN ((hTm (smS σ r hh) r hh) 5 0)
      rw [er _ (by decide)]; exact h1
    refine ⟨h2, ?_⟩
    have hq19 : σ 19 q = nI r := by rw [← hz9, er 19 (by decide)]
    have ht := hour_t (t := σ 20 q) (T := (hTm (smS σ r hh) r hh) 16 (6 * r)) (b := b + 20) (by omega) (by have := hpt q hq2 hq19; omega) hTU
    have en : nTp (hTm (smS σ r hh) r hh) r q = σ 20 q + ((hTm (smS σ r hh) r hh) 16 (6 * r) - σ 20 q) / 8 := by
      unfold nTp
      rw [er 20 (by decide)]
    have e0 : offS (hTm (smS σ r hh) r hh) (prd (hTm (smS σ r hh) r hh) q) (nTp (hTm (smS σ r hh) r hh) r q) = offS σ (prd σ q) (nTp (hTm (smS σ r hh) r hh) r q) := by
      unfold offS
      rw [er 6 (by decide), er 7 (by decide), e1]
    rw [e0, e1, er 6 (by decide), er 7 (by decide)]
    refine off_dist hR h1 ?_
    rw [en]
    exact ⟨by omega, by omega⟩
  refine lv_aload_n hx hb dX4_passHour_0 rfl (lv_at hl 0 rfl) ?_
  refine gf_X4_43 hC hI (fC_8 hr) rfl dX4_passHour_1 ?_
  refine lv_aload_n hx hb dX4_passHour_4 rfl (lv_at hl 0 rfl) ?_
  refine gf_X4_13 hC hI (fC_8 hr) rfl dX4_passHour_5 ?_
  refine lv_aload_n hx hb dX4_passHour_8 rfl (lv_at hl 0 rfl) ?_
  refine gf_X4_50 hC hI (fC_8 hr) rfl dX4_passHour_9 ?_
  refine lv_isub hx hb dX4_passHour_12 ?_
  refine lv_aload_n hx hb dX4_passHour_13 rfl (lv_at hl 0 rfl) ?_
  refine gf_X4_7 hC hI (fC_8 hr) rfl dX4_passHour_14 ?_
  have J29 : ∀ (v9 : Int32), v9 = bi (coldP σ r hh) → ∀ (H : Heap) (locs : List Loc), WI g ad B0 (fC g ad σ pd pl sc h) s H locs → ∀ (ls : Array Slot), lv_has ls 10 [(2, .int (bi (σ 4 hh = lowS σ))), (1, .int (outS σ (nI hh))), (0, .ref (ad 8 r))] → W p l e ({ frames := 2, cells := 0, slots := 0, locals := 42 } : Room) s m ([.ref (ad 8 r), .int (outS σ (nI hh)), .int (bi (σ 4 hh = lowS σ))] : List Value).toArray below meth c H locs 0 0 (vx_MQ below (QI g B0 (dI (if smS σ r hh 16 (6 * r + 2) = 1 then smS σ r hh 13 r else 0) ad (fC g ad (hourS σ r hh) pd pl sc h))) (XI g B0 (noX)) ([.ref (ad 8 r), .int (outS σ (nI hh)), .int (bi (σ 4 hh = lowS σ))] : List Value).toArray s 0 0 (fun q => B0 ≤ q)) (F0 m 29 ls [.int v9, .int (σ 16 (6 * r) - σ 14 r), .ref (ad 9 r)]) := by
    intro v9 hv9 H locs hI ls hl
    subst hv9
    refine c_Vv (rest := []) hl9 hC hI hl.1 (tX1_beginHour l g B0 ad _ 9 r _ _ _ _ _ _ (coldP σ r hh) (fC_9 hr)) (cw_X4_88 hts rfl rfl ⟨(Nat.le_of_ble_eq_true rfl), (Nat.le_of_ble_eq_true rfl)⟩) (fC_9 hr) rfl rfl rfl rfl (Nat.le_of_ble_eq_true rfl) dX4_passHour_29 ⟨(Nat.le_of_ble_eq_true rfl), (Nat.le_of_ble_eq_true rfl)⟩ (fun H locs hI => ?_)
    have hI : WI g ad B0 (fC g ad (smS σ r hh) pd pl sc h) s H locs := hI.cast (fC_sm hr hT6 hai)
    have hl : lv_has ls 10 [(2, .int (bi (σ 4 hh = lowS σ))), (1, .int (outS (smS σ r hh) (nI hh))), (0, .ref (ad 8 r))] := by rw [show outS (smS σ r hh) (nI hh) = outS σ (nI hh) from eo]; exact hl
    refine lv_iload_n hx hb dX4_passHour_32 rfl (lv_at hl 1 rfl) ?_
    refine lv_aload_n hx hb dX4_passHour_33 rfl (lv_at hl 2 rfl) ?_
    refine gf_X4_13 hC hI (fC_8 hrT) rfl dX4_passHour_34 ?_
    refine lv_isub hx hb dX4_passHour_37 ?_
    refine lv_aload_n hx hb dX4_passHour_38 rfl (lv_at hl 2 rfl) ?_
    refine gf_X4_35 hC hI (fC_8 hrT) rfl dX4_passHour_39 ?_
    refine lv_imul hx hb dX4_passHour_42 ?_
    refine lv_sipush (v := 200) hx hb dX4_passHour_43 (by decide) ?_
    refine lv_idiv hx hb dX4_passHour_46 (by decide) ?_
    refine lv_istore_n (lv' := [(3, .int ((((outS (smS σ r hh) (nI hh)) - ((smS σ r hh) 16 (6 * r))) * ((smS σ r hh) 12 r)) / 200)), (2, .int (bi (σ 4 hh = lowS σ))), (1, .int (outS (smS σ r hh) (nI hh))), (0, .ref (ad 8 r))]) hx hb dX4_passHour_47 rfl hl (by decide) rfl (fun ls hl => ?_)
    refine lv_iload_n hx hb dX4_passHour_48 rfl (lv_at hl 0 rfl) ?_
    refine lv_aload_n hx hb dX4_passHour_49 rfl (lv_at hl 3 rfl) ?_
    refine c_Vi (rest := [.int ((((outS (smS σ r hh) (nI hh)) - ((smS σ r hh) 16 (6 * r))) * ((smS σ r hh) 12 r)) / 200)]) hl9 hC hI hl.1 (tX4_warmthOfPallets l g B0 ad (smS σ r hh) pd pl sc h r hrT hokT hPT hRT) (cw_X4_92 hts rfl rfl ⟨(Nat.le_of_ble_eq_true rfl), (Nat.le_of_ble_eq_true rfl)⟩) (fC_8 hrT) rfl rfl rfl rfl (Nat.le_of_ble_eq_true rfl) dX4_passHour_50 ⟨(Nat.le_of_ble_eq_true rfl), (Nat.le_of_ble_eq_true rfl)⟩ (fun H locs hI => ?_)
    refine lv_iadd hx hb dX4_passHour_53 ?_
    refine lv_aload_n hx hb dX4_passHour_54 rfl (lv_at hl 3 rfl) ?_
    refine gf_X4_43 hC hI (fC_8 hrT) rfl dX4_passHour_55 ?_
    refine c_Vi (rest := [.int (((((outS (smS σ r hh) (nI hh)) - ((smS σ r hh) 16 (6 * r))) * ((smS σ r hh) 12 r)) / 200) + (sumJ (fun j => atP (fun q => ((smS σ r hh) 20 q - (smS σ r hh) 16 (6 * r)) / 40) (pl r j)) (cN ((smS σ r hh) 11 r))))]) hl9 hC hI hl.1 (tX1_warmthOfHour l g B0 ad _ 9 r _ _ _ _ _ (fC_9 hrT)) (cw_X4_95 hts rfl rfl ⟨(Nat.le_of_ble_eq_true rfl), (Nat.le_of_ble_eq_true rfl)⟩) (fC_9 hrT) rfl rfl rfl rfl (Nat.le_of_ble_eq_true rfl) dX4_passHour_58 ⟨(Nat.le_of_ble_eq_true rfl), (Nat.le_of_ble_eq_true rfl)⟩ (fun H locs hI => ?_)
    refine lv_iadd hx hb dX4_passHour_61 ?_
    rw [hBy3_eq hPT hRT hrT hr6]
    refine lv_istore (lv' := [(4, .int (hBy3 (smS σ r hh) r hh)), (3, .int ((((outS (smS σ r hh) (nI hh)) - ((smS σ r hh) 16 (6 * r))) * ((smS σ r hh) 12 r)) / 200)), (2, .int (bi (σ 4 hh = lowS σ))), (1, .int (outS (smS σ r hh) (nI hh))), (0, .ref (ad 8 r))]) hx hb dX4_passHour_62 hl (by decide) rfl (fun ls hl => ?_)
    refine lv_aload_n hx hb dX4_passHour_64 rfl (lv_at hl 4 rfl) ?_
    refine lv_dup hx hb dX4_passHour_65 rfl ?_
    refine gf_X4_13 hC hI (fC_8 hrT) rfl dX4_passHour_66 ?_
    refine lv_iload hx hb dX4_passHour_69 (lv_at hl 0 rfl) ?_
    refine lv_iadd hx hb dX4_passHour_71 ?_
    refine pf_X4_13 hC hI (fC_8 hrT) (Nat.le_of_ble_eq_true rfl) dX4_passHour_72 (fun H locs hI => ?_)
    have hI : WI g ad B0 (up2 (fC g ad (smS σ r hh) pd pl sc h) 8 r (.inr (4, [.int (nI r), .int ((smS σ r hh) 12 r), .ref (ad 9 r), .ref (ad 11 r), .int ((smS σ r hh) 14 r), .int ((smS σ r hh) 15 r), .int (((smS σ r hh) 16 (6 * r)) + (hBy3 (smS σ r hh) r hh)), .int ((smS σ r hh) 16 (6 * r + 5)), .ref (ad 10 r), .int (sc 0 r), .int (sc 1 r)]))) s H locs := hI.cast (rfl)
    have hI : WI g ad B0 (fC g ad (s1 (smS σ r hh) 16 (6 * r) ((smS σ r hh) 16 (6 * r) + hBy3 (smS σ r hh) r hh)) pd pl sc h) s H locs := hI.cast (fC_T hrT)
    refine lv_aload_n hx hb dX4_passHour_75 rfl (lv_at hl 4 rfl) ?_
    refine gf_X4_43 hC hI (fC_8 hrT) rfl dX4_passHour_76 ?_
    refine c_Vi (rest := []) hl9 hC hI hl.1 (tX1_useEnergy l g B0 ad _ 9 r _ _ _ _ _ (sm_9 hrT)) (cw_X4_98 hts rfl rfl ⟨(Nat.le_of_ble_eq_true rfl), (Nat.le_of_ble_eq_true rfl)⟩) (sm_9 hrT) rfl rfl rfl rfl (Nat.le_of_ble_eq_true rfl) dX4_passHour_79 ⟨(Nat.le_of_ble_eq_true rfl), (Nat.le_of_ble_eq_true rfl)⟩ (fun H locs hI => ?_)
    have hI : WI g ad B0 (fC g ad (hPl pl (hTm (smS σ r hh) r hh) r 0) pd pl sc h) s H locs := hI.cast (fC_tm hrT)
    refine lv_istore (lv' := [(5, .int (if (smS σ r hh) 16 (6 * r + 2) = 1 then (smS σ r hh) 13 r else 0)), (4, .int (hBy3 (smS σ r hh) r hh)), (3, .int ((((outS (smS σ r hh) (nI hh)) - ((smS σ r hh) 16 (6 * r))) * ((smS σ r hh) 12 r)) / 200)), (2, .int (bi (σ 4 hh = lowS σ))), (1, .int (outS (smS σ r hh) (nI hh))), (0, .ref (ad 8 r))]) hx hb dX4_passHour_82 hl (by decide) rfl (fun ls hl => ?_)
    refine lv_aload_n hx hb dX4_passHour_84 rfl (lv_at hl 5 rfl) ?_
    refine gf_X4_31 hC hI (fC_8 (hPl_nr hrU)) rfl dX4_passHour_85 ?_
    refine lv_astore (lv' := [(6, .ref (ad 11 r)), (5, .int (if (smS σ r hh) 16 (6 * r + 2) = 1 then (smS σ r hh) 13 r else 0)), (4, .int (hBy3 (smS σ r hh) r hh)), (3, .int ((((outS (smS σ r hh) (nI hh)) - ((smS σ r hh) 16 (6 * r))) * ((smS σ r hh) 12 r)) / 200)), (2, .int (bi (σ 4 hh = lowS σ))), (1, .int (outS (smS σ r hh) (nI hh))), (0, .ref (ad 8 r))]) hx hb dX4_passHour_88 hl (by decide) rfl (fun ls hl => ?_)
    refine lv_aload hx hb dX4_passHour_90 (lv_at hl 0 rfl) ?_
    refine r_alen hC hI (fC_11 (hPl_nr hrU)) 2 rfl (v := nI (cN ((hPl pl (hTm (smS σ r hh) r hh) r 0) 11 r))) rfl dX4_passHour_92 ?_
    rw [show cN (hPl pl (hTm (smS σ r hh) r hh) r 0 11 r) = cN (σ 11 r) from e11]
    refine lv_istore (lv' := [(7, .int (nI (cN (σ 11 r)))), (6, .ref (ad 11 r)), (5, .int (if (smS σ r hh) 16 (6 * r + 2) = 1 then (smS σ r hh) 13 r else 0)), (4, .int (hBy3 (smS σ r hh) r hh)), (3, .int ((((outS (smS σ r hh) (nI hh)) - ((smS σ r hh) 16 (6 * r))) * ((smS σ r hh) 12 r)) / 200)), (2, .int (bi (σ 4 hh = lowS σ))), (1, .int (outS (smS σ r hh) (nI hh))), (0, .ref (ad 8 r))]) hx hb dX4_passHour_93 hl (by decide) rfl (fun ls hl => ?_)
    refine lv_iconst (v := 0) hx hb dX4_passHour_95 (by decide) ?_
    refine lv_istore (lv' := [(8, .int (nI 0)), (7, .int (nI (cN (σ 11 r)))), (6, .ref (ad 11 r)), (5, .int (if (smS σ r hh) 16 (6 * r + 2) = 1 then (smS σ r hh) 13 r else 0)), (4, .int (hBy3 (smS σ r hh) r hh)), (3, .int ((((outS (smS σ r hh) (nI hh)) - ((smS σ r hh) 16 (6 * r))) * ((smS σ r hh) 12 r)) / 200)), (2, .int (bi (σ 4 hh = lowS σ))), (1, .int (outS (smS σ r hh) (nI hh))), (0, .ref (ad 8 r))]) hx hb dX4_passHour_96 hl (by decide) rfl (fun ls hl => ?_)
    have L98 : ∀ (n : Nat) (k : Nat), k ≤ cN (σ 11 r) → cN (σ 11 r) + 1 ≤ k + n → ∀ (H : Heap) (locs : List Loc), WI g ad B0 (fC g ad (hPl pl (hTm (smS σ r hh) r hh) r k) pd pl sc h) s H locs → ∀ (ls : Array Slot), lv_has ls 10 [(8, .int (nI k)), (7, .int (nI (cN (σ 11 r)))), (6, .ref (ad 11 r)), (5, .int (if (smS σ r hh) 16 (6 * r + 2) = 1 then (smS σ r hh) 13 r else 0)), (0, .ref (ad 8 r))] → W p l e ({ frames := 2, cells := 0, slots := 0, locals := 42 } : Room) s m ([.ref (ad 8 r), .int (outS σ (nI hh)), .int (bi (σ 4 hh = lowS σ))] : List Value).toArray below meth c H locs 0 0 (vx_MQ below (QI g B0 (dI (if smS σ r hh 16 (6 * r + 2) = 1 then smS σ r hh 13 r else 0) ad (fC g ad (hourS σ r hh) pd pl sc h))) (XI g B0 (noX)) ([.ref (ad 8 r), .int (outS σ (nI hh)), .int (bi (σ 4 hh = lowS σ))] : List Value).toArray s 0 0 (fun q => B0 ≤ q)) (F0 m 98 ls []) := by
      intro n
      induction n with
      | zero =>
        intro k hk hfu
        exact absurd hfu (by omega)
      | succ n ih98 =>
        intro k hk hfu H locs hI ls hl
        refine lv_iload hx hb dX4_passHour_98 (lv_at hl 0 rfl) ?_
        refine lv_iload hx hb dX4_passHour_100 (lv_at hl 1 rfl) ?_
        refine lv_icmp_ge (tgt := 132) hx hb dX4_passHour_102 (by decide) (fun c102 => ?_) (fun c102 => ?_)
        · have hk2 : cN (σ 11 r) ≤ k := ge_T rfl (by omega) (by omega) c102
          have hk3 : k = cN ((hTm (smS σ r hh) r hh) 11 r) := by omega
          subst hk3
          have hI : WI g ad B0 (fC g ad (hPal (hTm (smS σ r hh) r hh) r (nt (hTm (smS σ r hh) r hh))) pd pl sc h) s H locs := hI.cast (congrArg (fun z => fC g ad z pd pl sc h) (hPl_hPal hPU hrU hr6))
          refine lv_aload_n hx hb dX4_passHour_132 rfl (lv_at hl 4 rfl) ?_
          refine gf_X4_13 hC hI (fC_8 hrU) rfl dX4_passHour_133 ?_
          refine lv_aload_n hx hb dX4_passHour_136 rfl (lv_at hl 4 rfl) ?_
          refine gf_X4_50 hC hI (fC_8 hrU) rfl dX4_passHour_137 ?_
          refine lv_bipush (v := 20) hx hb dX4_passHour_140 (by decide) ?_
          refine lv_iadd hx hb dX4_passHour_142 ?_
          refine lv_icmp_le (tgt := 156) hx hb dX4_passHour_143 (by decide) (fun c143 => ?_) (fun c143 => ?_)
          · refine lv_iload hx hb dX4_passHour_156 (lv_at hl 3 rfl) ?_
            exact e_int hC hI ⟨rfl, rfl, congrArg (fun z => fC g ad z pd pl sc h) ((hWm_hPal (hTm (smS σ r hh) r hh) r).trans (if_neg (fun z => absurd z (Int32.not_lt.mpr c143)))).symm⟩ (Nat.le_of_ble_eq_true rfl) (Nat.le_of_ble_eq_true rfl) dX4_passHour_158
          · refine lv_aload_n hx hb dX4_passHour_146 rfl (lv_at hl 4 rfl) ?_
            refine lv_dup hx hb dX4_passHour_147 rfl ?_
            refine gf_X4_17 hC hI (fC_8 hrU) rfl dX4_passHour_148 ?_
            refine lv_iconst (v := 1) hx hb dX4_passHour_151 (by decide) ?_
            refine lv_iadd hx hb dX4_passHour_152 ?_
            refine pf_X4_17 hC hI (fC_8 hrU) (Nat.le_of_ble_eq_true rfl) dX4_passHour_153 (fun H locs hI => ?_)
            have hI : WI g ad B0 (up2 (fC g ad (hPal (hTm (smS σ r hh) r hh) r (nt (hTm (smS σ r hh) r hh))) pd pl sc h) 8 r (.inr (4, [.int (nI r), .int ((hPal (hTm (smS σ r hh) r hh) r (nt (hTm (smS σ r hh) r hh))) 12 r), .ref (ad 9 r), .ref (ad 11 r), .int ((hPal (hTm (smS σ r hh) r hh) r (nt (hTm (smS σ r hh) r hh))) 14 r), .int ((hPal (hTm (smS σ r hh) r hh) r (nt (hTm (smS σ r hh) r hh))) 15 r), .int ((hPal (hTm (smS σ r hh) r hh) r (nt (hTm (smS σ r hh) r hh))) 16 (6 * r)), .int (((hPal (hTm (smS σ r hh) r hh) r (nt (hTm (smS σ r hh) r hh))) 16 (6 * r + 5)) + 1), .ref (ad 10 r), .int (sc 0 r), .int (sc 1 r)]))) s H locs := hI.cast (rfl)
            have hI : WI g ad B0 (fC g ad (s1 (hPal (hTm (smS σ r hh) r hh) r (nt (hTm (smS σ r hh) r hh))) 16 (6 * r + 5) (hPal (hTm (smS σ r hh) r hh) r (nt (hTm (smS σ r hh) r hh)) 16 (6 * r + 5) + 1)) pd pl sc h) s H locs := hI.cast (fC_W (σ := hPal (hTm (smS σ r hh) r hh) r (nt (hTm (smS σ r hh) r hh))) hrU)
            refine lv_iload hx hb dX4_passHour_156 (lv_at hl 3 rfl) ?_
            exact e_int hC hI ⟨rfl, rfl, congrArg (fun z => fC g ad z pd pl sc h) ((hWm_hPal (hTm (smS σ r hh) r hh) r).trans (if_pos (Int32.not_le.mp c143))).symm⟩ (Nat.le_of_ble_eq_true rfl) (Nat.le_of_ble_eq_true rfl) dX4_passHour_158
        · have hk2 : k < cN (σ 11 r) := ge_F rfl (by omega) (by omega) c102
          refine lv_aload hx hb dX4_passHour_105 (lv_at hl 2 rfl) ?_
          refine lv_iload hx hb dX4_passHour_107 (lv_at hl 0 rfl) ?_
          refine r_aald hC hI (fC_11 (hPl_nr hrU)) 2 rfl (j := k) rfl (by rw [hPl_row (w := 11) (by decide) (by decide)]; omega) (by rw [hPl_row (w := 11) (by decide) (by decide)]; omega) dX4_passHour_109 ?_
          refine lv_topo (fun e109 => ?_) (fun q109 e109 => ?_)
          · have hp := Option.map_eq_none_iff.mp e109
            have hI : WI g ad B0 (fC g ad (hPl pl (hTm (smS σ r hh) r hh) r (k + 1)) pd pl sc h) s H locs := hI.cast (by rw [hPl_N hp])
            refine lv_astoreN (lv' := [(9, .null), (8, .int (nI k)), (7, .int (nI (cN (σ 11 r)))), (6, .ref (ad 11 r)), (5, .int (if (smS σ r hh) 16 (6 * r + 2) = 1 then (smS σ r hh) 13 r else 0)), (0, .ref (ad 8 r))]) hx hb dX4_passHour_110 hl (by decide) rfl (fun ls hl => ?_)
            refine lv_aloadN hx hb dX4_passHour_112 (lv_at hl 0 rfl) ?_
            refine lv_ifnullN (tgt := 126) hx hb dX4_passHour_114 (by decide) ?_
            refine lv_iinc (v := nI (k + 1)) (lv' := [(8, .int (nI (k + 1))), (9, .null), (7, .int (nI (cN (σ 11 r)))), (6, .ref (ad 11 r)), (5, .int (if (smS σ r hh) 16 (6 * r + 2) = 1 then (smS σ r hh) 13 r else 0)), (0, .ref (ad 8 r))]) hx hb dX4_passHour_126 hl (k := 1) rfl (nI_1 _) (by decide) rfl (fun ls hl => ?_)
            refine lv_goto (tgt := 98) hx hb dX4_passHour_129 (by decide) ?_
            exact ih98 (k + 1) (by omega) (by omega) _ _ hI ls (lv_sub hl [0, 2, 3, 4, 5] rfl)
          · obtain ⟨q0, hp, rfl⟩ := Option.map_eq_some_iff.mp e109
            obtain ⟨hq0, hq9⟩ := hPU.on r k q0 hrU (by omega) hp
            have hou9 := hPl_out (pl := pl) (υ := (hTm (smS σ r hh) r hh)) (r := r) (q := q0) k (fun j hj hz => absurd (hPU.inj r j k q0 hrU (by omega) (by omega) hz hp) (by omega))
            refine lv_astore (lv' := [(9, .ref (ad 12 q0)), (8, .int (nI k)), (7, .int (nI (cN (σ 11 r)))), (6, .ref (ad 11 r)), (5, .int (if (smS σ r hh) 16 (6 * r + 2) = 1 then (smS σ r hh) 13 r else 0)), (0, .ref (ad 8 r))]) hx hb dX4_passHour_110 hl (by decide) rfl (fun ls hl => ?_)
            refine lv_aload hx hb dX4_passHour_112 (lv_at hl 0 rfl) ?_
            refine lv_ifnull hx hb dX4_passHour_114 ?_
            refine lv_aload hx hb dX4_passHour_117 (lv_at hl 0 rfl) ?_
            refine lv_aload_n hx hb dX4_passHour_119 rfl (lv_at hl 5 rfl) ?_
            refine gf_X4_13 hC hI (fC_8 (hPl_nr hrU)) rfl dX4_passHour_120 ?_
            rw [show hPl pl (hTm (smS σ r hh) r hh) r k 16 (6 * r) = (hTm (smS σ r hh) r hh) 16 (6 * r) from congrFun (hPl_row (by decide) (by decide) k) _]
            refine c_Vv (rest := []) hl9 hC hI hl.1 (tX2_adaptTo l g B0 ad _ q0 (prd (hTm (smS σ r hh) r hh) q0) _ _ _ _ _ _ _ _ _ _ ((hTm (smS σ r hh) r hh) 16 (6 * r)) (fC_hp12 hq0 hou9) (fC_hp7 (hdU q0 hq0 hq9).1)) (cw_X4_101 hts rfl rfl ⟨(Nat.le_of_ble_eq_true rfl), (Nat.le_of_ble_eq_true rfl)⟩) (fC_hp12 hq0 hou9) rfl rfl rfl rfl (Nat.le_of_ble_eq_true rfl) dX4_passHour_123 ⟨(Nat.le_of_ble_eq_true rfl), (Nat.le_of_ble_eq_true rfl)⟩ (fun H locs hI => ?_)
            have hI : WI g ad B0 (fC g ad (hPl pl (hTm (smS σ r hh) r hh) r (k + 1)) pd pl sc h) s H locs := hI.cast (fC_hp hp hq0 (hdU q0 hq0 hq9).2)
            refine lv_iinc (v := nI (k + 1)) (lv' := [(8, .int (nI (k + 1))), (9, .ref (ad 12 q0)), (7, .int (nI (cN (σ 11 r)))), (6, .ref (ad 11 r)), (5, .int (if (smS σ r hh) 16 (6 * r + 2) = 1 then (smS σ r hh) 13 r else 0)), (0, .ref (ad 8 r))]) hx hb dX4_passHour_126 hl (k := 1) rfl (nI_1 _) (by decide) rfl (fun ls hl => ?_)
            refine lv_goto (tgt := 98) hx hb dX4_passHour_129 (by decide) ?_
            exact ih98 (k + 1) (by omega) (by omega) _ _ hI ls (lv_sub hl [0, 2, 3, 4, 5] rfl)
    exact L98 (cN (σ 11 r) + 1) 0 (by omega) (by omega) _ _ hI ls (lv_sub hl [0, 1, 2, 3, 8] rfl)
  refine lv_if_eq (tgt := 28) hx hb dX4_passHour_17 (by decide) (fun c17 => ?_) (fun c17 => ?_)
  · refine lv_iconst (v := 0) hx hb dX4_passHour_28 (by decide) ?_
    exact J29 0 (bi_f (fun z => z.1 c17)).symm _ _ hI ls (lv_sub hl [2, 1, 0] rfl)
  · refine lv_iload_n hx hb dX4_passHour_20 rfl (lv_at hl 2 rfl) ?_
    refine lv_if_eq (tgt := 28) hx hb dX4_passHour_21 (by decide) (fun c21 => ?_) (fun c21 => ?_)
    · have c21 := bi_0.mp c21
      refine lv_iconst (v := 0) hx hb dX4_passHour_28 (by decide) ?_
      exact J29 0 (bi_f (fun z => c21 z.2)).symm _ _ hI ls (lv_sub hl [2, 1, 0] rfl)
    · have c21 := bi_1.mp c21
      refine lv_iconst (v := 1) hx hb dX4_passHour_24 (by decide) ?_
      refine lv_goto (tgt := 29) hx hb dX4_passHour_25 (by decide) ?_
      exact J29 1 (bi_t ⟨c17, c21⟩).symm _ _ hI ls (lv_sub hl [2, 1, 0] rfl)
