/-! THE LAW: its twenty helpers -/
set_option maxHeartbeats 4000000 in
set_option maxRecDepth 100000 in
theorem tL_setOutside (l : Launch) (g : Gg) (B0 : Nat) (ad : Ad) (σ : Sg) (pd : Int64) (pl : Pl) (sc : Sg) (h : Wd) (fo : Nat → Int64) (hout : h 50 0 = some (outE g fo)) (b s9 : Int32) (hT : OkT σ) (hIv : Iv σ pl) : MM l g B0 yL_setOutside (wsH yL_setOutside cL_setOutside 5 (some .int) [(0, 10, 13, 13)]) ({ frames := 8, cells := 2, slots := 12, locals := 134 } : Room) [.ref (ad 0 0), .int b, .int s9, .ref (ad 50 0)] ad (fC g ad σ pd pl sc h) (rH g ad (kdSO b s9) (rsSO σ b s9) (stSO σ b s9) σ pd pd pl h) noX 2 12 := by
  refine MH.start (by decide) (Nat.le_of_ble_eq_true rfl) ?_
  intro hl9 p e s m below meth c ls hC htab hI hl0
  have hx := hC.1.1
  have hb := hC.1.2.1
  have hts := hC.1.2.2.2.2
  obtain ⟨-, ⟨cIA, cIS, cIO, -⟩, -, nSA, nAO, nSO, -⟩ := id hC.2.2.2.2.2.1
  have hl : lv_has ls 5 [(0, .ref (ad 0 0)), (1, .int b), (2, .int s9), (3, .ref (ad 50 0))] := hl0
  refine lv_aload_n hx hb dL_setOutside_0 rfl (lv_at hl 3 rfl) ?_
  refine lv_iconst (v := 0) hx hb dL_setOutside_1 (by decide) ?_
  refine lv_aload_n hx hb dL_setOutside_2 rfl (lv_at hl 0 rfl) ?_
  refine lv_iload_n hx hb dL_setOutside_3 rfl (lv_at hl 1 rfl) ?_
  refine lv_iload_n hx hb dL_setOutside_4 rfl (lv_at hl 2 rfl) ?_
  refine r_callV (rest := [.int 0, .ref (ad 50 0)]) hl9 hC hI hl.1 (tX6_setOutside l g B0 ad σ pd pl sc h b s9 hT hIv) (cw_L_7 hts rfl rfl ⟨(Nat.le_of_ble_eq_true rfl), (Nat.le_of_ble_eq_true rfl)⟩) fC_0 rfl rfl rfl rfl (Nat.le_of_ble_eq_true rfl) dL_setOutside_5 ⟨(Nat.le_of_ble_eq_true rfl), (Nat.le_of_ble_eq_true rfl)⟩ (fun v a9 w H locs hR hI => ?_) (fun E ce q a9 w H locs hX hI h1 h2 h3 => ?_)
  · obtain ⟨hk, rfl, ha, pl9, sc9, hP9, rfl⟩ := hR
    refine W.eq (g2 := F0 m 8 ls [.int (rsSO σ b s9), .int 0, .ref (a9 50 0)]) (by rw [ha 50 0 (Or.inr (by decide))]; rfl) ?_
    refine lv_i2l hx hb dL_setOutside_8 rfl ?_
    refine r_last (kk := 50) (ii := 0) (n := 1) (f := fC g a9 (stSO σ b s9) (pd) pl9 sc9 h) (fn := fo) hC hI hout (j := 0) rfl (by decide) (by decide) dL_setOutside_9 (fun H locs hI => ?_)
    have hI := hI.cast (fC_up (K := 50) (by decide))
    refine lv_goto (tgt := 17) hx hb dL_setOutside_10 (by decide) ?_
    refine lv_iconst (v := 0) hx hb dL_setOutside_17 (by decide) ?_
    exact e_int hC hI ⟨by rw [hk], ha, _, _, pl9, sc9, _, Or.inl ⟨hk, rfl, rfl, hP9, if_pos rfl⟩, rfl⟩ (Nat.le_of_ble_eq_true rfl) (Nat.le_of_ble_eq_true rfl) dL_setOutside_18
  · obtain ⟨hX, ha9, rfl⟩ := hX; obtain rfl := ha9.symm
    rcases hX with ⟨hk, rfl⟩
    · refine r_catch (pre := []) (suf := []) hC htab rfl (pass0) (by decide) (by decide) wd_cl_L_13 cIA h1 h2 h3 ?_
      refine lv_astore (lv' := [(4, .ref q), (0, .ref (ad 0 0)), (1, .int b), (2, .int s9), (3, .ref (ad 50 0))]) hx hb dL_setOutside_13 hl (by decide) rfl (fun ls hl => ?_)
      refine lv_iconst (v := 1) hx hb dL_setOutside_15 (by decide) ?_
      exact e_int hC hI ⟨by rw [hk], fun _ _ _ => rfl, σ, pd, pl, sc, fo, Or.inr ⟨fun z => absurd (hk.symm.trans z) (by decide), rfl, rfl, rfl⟩, by rw [up2_same hout]⟩ (Nat.le_of_ble_eq_true rfl) (Nat.le_of_ble_eq_true rfl) dL_setOutside_16
set_option maxHeartbeats 4000000 in
set_option maxRecDepth 100000 in
theorem tL_outside (l : Launch) (g : Gg) (B0 : Nat) (ad : Ad) (σ : Sg) (pd : Int64) (pl : Pl) (sc : Sg) (h : Wd) (fo : Nat → Int64) (hout : h 50 0 = some (outE g fo)) (v9 : Int32) (hIv : Iv σ pl) : MM l g B0 yL_outside (wsH yL_outside cL_outside 4 (some .int) [(0, 9, 12, 13)]) ({ frames := 8, cells := 1, slots := 6, locals := 133 } : Room) [.ref (ad 0 0), .int v9, .ref (ad 50 0)] ad (fC g ad σ pd pl sc h) (rH g ad (kdOU v9) (outS σ v9) σ σ pd pd pl h) noX 1 6 := by
  refine MH.start (by decide) (Nat.le_of_ble_eq_true rfl) ?_
  intro hl9 p e s m below meth c ls hC htab hI hl0
  have hx := hC.1.1
  have hb := hC.1.2.1
  have hts := hC.1.2.2.2.2
  obtain ⟨-, ⟨cIA, cIS, cIO, -⟩, -, nSA, nAO, nSO, -⟩ := id hC.2.2.2.2.2.1
  have hl : lv_has ls 4 [(0, .ref (ad 0 0)), (1, .int v9), (2, .ref (ad 50 0))] := hl0
  refine lv_aload_n hx hb dL_outside_0 rfl (lv_at hl 2 rfl) ?_
  refine lv_iconst (v := 0) hx hb dL_outside_1 (by decide) ?_
  refine lv_aload_n hx hb dL_outside_2 rfl (lv_at hl 0 rfl) ?_
  refine lv_iload_n hx hb dL_outside_3 rfl (lv_at hl 1 rfl) ?_
  refine r_callV (rest := [.int 0, .ref (ad 50 0)]) hl9 hC hI hl.1 (tX6_outside l g B0 ad σ pd pl sc h v9 hIv) (cw_L_15 hts rfl rfl ⟨(Nat.le_of_ble_eq_true rfl), (Nat.le_of_ble_eq_true rfl)⟩) fC_0 rfl rfl rfl rfl (Nat.le_of_ble_eq_true rfl) dL_outside_4 ⟨(Nat.le_of_ble_eq_true rfl), (Nat.le_of_ble_eq_true rfl)⟩ (fun v a9 w H locs hR hI => ?_) (fun E ce q a9 w H locs hX hI h1 h2 h3 => ?_)
  · obtain ⟨hk, rfl, ha, pl9, sc9, hP9, rfl⟩ := hR
    refine W.eq (g2 := F0 m 7 ls [.int (outS σ v9), .int 0, .ref (a9 50 0)]) (by rw [ha 50 0 (Or.inr (by decide))]; rfl) ?_
    refine lv_i2l hx hb dL_outside_7 rfl ?_
    refine r_last (kk := 50) (ii := 0) (n := 1) (f := fC g a9 (σ) (pd) pl9 sc9 h) (fn := fo) hC hI hout (j := 0) rfl (by decide) (by decide) dL_outside_8 (fun H locs hI => ?_)
    have hI := hI.cast (fC_up (K := 50) (by decide))
    refine lv_goto (tgt := 15) hx hb dL_outside_9 (by decide) ?_
    refine lv_iconst (v := 0) hx hb dL_outside_15 (by decide) ?_
    exact e_int hC hI ⟨by rw [hk], ha, _, _, pl9, sc9, _, Or.inl ⟨hk, rfl, rfl, hP9, if_pos rfl⟩, rfl⟩ (Nat.le_of_ble_eq_true rfl) (Nat.le_of_ble_eq_true rfl) dL_outside_16
  · obtain ⟨hX, ha9, rfl⟩ := hX; obtain rfl := ha9.symm
    rcases hX with ⟨hk, rfl⟩
    · refine r_catch (pre := []) (suf := []) hC htab rfl (pass0) (by decide) (by decide) wd_cl_L_13 cIA h1 h2 h3 ?_
      refine lv_astore_n (lv' := [(3, .ref q), (0, .ref (ad 0 0)), (1, .int v9), (2, .ref (ad 50 0))]) hx hb dL_outside_12 rfl hl (by decide) rfl (fun ls hl => ?_)
      refine lv_iconst (v := 1) hx hb dL_outside_13 (by decide) ?_
      exact e_int hC hI ⟨by rw [hk], fun _ _ _ => rfl, σ, pd, pl, sc, fo, Or.inr ⟨fun z => absurd (hk.symm.trans z) (by decide), rfl, rfl, rfl⟩, by rw [up2_same hout]⟩ (Nat.le_of_ble_eq_true rfl) (Nat.le_of_ble_eq_true rfl) dL_outside_14
set_option maxHeartbeats 4000000 in
set_option maxRecDepth 100000 in
theorem tL_setPrice (l : Launch) (g : Gg) (B0 : Nat) (ad : Ad) (σ : Sg) (pd : Int64) (pl : Pl) (sc : Sg) (h : Wd) (fo : Nat → Int64) (hout : h 50 0 = some (outE g fo)) (t1 t2 t3 : Int32) (hIv : Iv σ pl) : MM l g B0 yL_setPrice (wsH yL_setPrice cL_setPrice 6 (some .int) [(0, 12, 15, 13)]) ({ frames := 8, cells := 3, slots := 18, locals := 135 } : Room) [.ref (ad 0 0), .int t1, .int t2, .int t3, .ref (ad 50 0)] ad (fC g ad σ pd pl sc h) (rH g ad (kdSP t1 t2 t3) (lowS (stSP σ t1 t2 t3)) (stSP σ t1 t2 t3) σ pd pd pl h) noX 3 18 := by
  refine MH.start (by decide) (Nat.le_of_ble_eq_true rfl) ?_
  intro hl9 p e s m below meth c ls hC htab hI hl0
  have hx := hC.1.1
  have hb := hC.1.2.1
  have hts := hC.1.2.2.2.2
  obtain ⟨-, ⟨cIA, cIS, cIO, -⟩, -, nSA, nAO, nSO, -⟩ := id hC.2.2.2.2.2.1
  have hl : lv_has ls 6 [(0, .ref (ad 0 0)), (1, .int t1), (2, .int t2), (3, .int t3), (4, .ref (ad 50 0))] := hl0
  refine lv_aload hx hb dL_setPrice_0 (lv_at hl 4 rfl) ?_
  refine lv_iconst (v := 0) hx hb dL_setPrice_2 (by decide) ?_
  refine lv_aload_n hx hb dL_setPrice_3 rfl (lv_at hl 0 rfl) ?_
  refine lv_iload_n hx hb dL_setPrice_4 rfl (lv_at hl 1 rfl) ?_
  refine lv_iload_n hx hb dL_setPrice_5 rfl (lv_at hl 2 rfl) ?_
  refine lv_iload_n hx hb dL_setPrice_6 rfl (lv_at hl 3 rfl) ?_
  refine r_callV (rest := [.int 0, .ref (ad 50 0)]) hl9 hC hI hl.1 (tX6_setPrice l g B0 ad σ pd pl sc h t1 t2 t3 hIv) (cw_L_19 hts rfl rfl ⟨(Nat.le_of_ble_eq_true rfl), (Nat.le_of_ble_eq_true rfl)⟩) fC_0 rfl rfl rfl rfl (Nat.le_of_ble_eq_true rfl) dL_setPrice_7 ⟨(Nat.le_of_ble_eq_true rfl), (Nat.le_of_ble_eq_true rfl)⟩ (fun v a9 w H locs hR hI => ?_) (fun E ce q a9 w H locs hX hI h1 h2 h3 => ?_)
  · obtain ⟨hk, rfl, ha, pl9, sc9, hP9, rfl⟩ := hR
    refine W.eq (g2 := F0 m 10 ls [.int (lowS (stSP σ t1 t2 t3)), .int 0, .ref (a9 50 0)]) (by rw [ha 50 0 (Or.inr (by decide))]; rfl) ?_
    refine lv_i2l hx hb dL_setPrice_10 rfl ?_
    refine r_last (kk := 50) (ii := 0) (n := 1) (f := fC g a9 (stSP σ t1 t2 t3) (pd) pl9 sc9 h) (fn := fo) hC hI hout (j := 0) rfl (by decide) (by decide) dL_setPrice_11 (fun H locs hI => ?_)
    have hI := hI.cast (fC_up (K := 50) (by decide))
    refine lv_goto (tgt := 19) hx hb dL_setPrice_12 (by decide) ?_
    refine lv_iconst (v := 0) hx hb dL_setPrice_19 (by decide) ?_
    exact e_int hC hI ⟨by rw [hk], ha, _, _, pl9, sc9, _, Or.inl ⟨hk, rfl, rfl, hP9, if_pos rfl⟩, rfl⟩ (Nat.le_of_ble_eq_true rfl) (Nat.le_of_ble_eq_true rfl) dL_setPrice_20
  · obtain ⟨hX, ha9, rfl⟩ := hX; obtain rfl := ha9.symm
    rcases hX with ⟨hk, rfl⟩
    · refine r_catch (pre := []) (suf := []) hC htab rfl (pass0) (by decide) (by decide) wd_cl_L_13 cIA h1 h2 h3 ?_
      refine lv_astore (lv' := [(5, .ref q), (0, .ref (ad 0 0)), (1, .int t1), (2, .int t2), (3, .int t3), (4, .ref (ad 50 0))]) hx hb dL_setPrice_15 hl (by decide) rfl (fun ls hl => ?_)
      refine lv_iconst (v := 1) hx hb dL_setPrice_17 (by decide) ?_
      exact e_int hC hI ⟨by rw [hk], fun _ _ _ => rfl, σ, pd, pl, sc, fo, Or.inr ⟨fun z => absurd (hk.symm.trans z) (by decide), rfl, rfl, rfl⟩, by rw [up2_same hout]⟩ (Nat.le_of_ble_eq_true rfl) (Nat.le_of_ble_eq_true rfl) dL_setPrice_18
set_option maxHeartbeats 4000000 in
set_option maxRecDepth 100000 in
theorem tL_addProduct (l : Launch) (g : Gg) (B0 : Nat) (ad : Ad) (σ : Sg) (pd : Int64) (pl : Pl) (sc : Sg) (h : Wd) (fo : Nat → Int64) (hout : h 50 0 = some (outE g fo)) (lo hi li sm : Int32) (hIv : Iv σ pl) : MM l g B0 yL_addProduct (wsH yL_addProduct cL_addProduct 7 (some .int) [(0, 14, 17, 13), (0, 14, 21, 27)]) ({ frames := 8, cells := 6, slots := 35, locals := 136 } : Room) [.ref (ad 0 0), .int lo, .int hi, .int li, .int sm, .ref (ad 50 0)] ad (fC g ad σ pd pl sc h) (rH g ad (kdAP σ lo hi li sm) (σ 5 0) (stAP σ lo hi li sm) σ pd pd pl h) noX 6 35 := by
  refine MH.start (by decide) (Nat.le_of_ble_eq_true rfl) ?_
  intro hl9 p e s m below meth c ls hC htab hI hl0
  have hx := hC.1.1
  have hb := hC.1.2.1
  have hts := hC.1.2.2.2.2
  obtain ⟨-, ⟨cIA, cIS, cIO, -⟩, -, nSA, nAO, nSO, -⟩ := id hC.2.2.2.2.2.1
  have hl : lv_has ls 7 [(0, .ref (ad 0 0)), (1, .int lo), (2, .int hi), (3, .int li), (4, .int sm), (5, .ref (ad 50 0))] := hl0
  refine lv_aload hx hb dL_addProduct_0 (lv_at hl 5 rfl) ?_
  refine lv_iconst (v := 0) hx hb dL_addProduct_2 (by decide) ?_
  refine lv_aload_n hx hb dL_addProduct_3 rfl (lv_at hl 0 rfl) ?_
  refine lv_iload_n hx hb dL_addProduct_4 rfl (lv_at hl 1 rfl) ?_
  refine lv_iload_n hx hb dL_addProduct_5 rfl (lv_at hl 2 rfl) ?_
  refine lv_iload_n hx hb dL_addProduct_6 rfl (lv_at hl 3 rfl) ?_
  refine lv_iload hx hb dL_addProduct_7 (lv_at hl 4 rfl) ?_
  refine r_callV (rest := [.int 0, .ref (ad 50 0)]) hl9 hC hI hl.1 (tX6_addProduct l g B0 ad σ pd pl sc h lo hi li sm hIv) (cw_L_23 hts rfl rfl ⟨(Nat.le_of_ble_eq_true rfl), (Nat.le_of_ble_eq_true rfl)⟩) fC_0 rfl rfl rfl rfl (Nat.le_of_ble_eq_true rfl) dL_addProduct_9 ⟨(Nat.le_of_ble_eq_true rfl), (Nat.le_of_ble_eq_true rfl)⟩ (fun v a9 w H locs hR hI => ?_) (fun E ce q a9 w H locs hX hI h1 h2 h3 => ?_)
  · obtain ⟨hk, rfl, ha, pl9, sc9, hP9, rfl⟩ := hR
    refine W.eq (g2 := F0 m 12 ls [.int (σ 5 0), .int 0, .ref (a9 50 0)]) (by rw [ha 50 0 (Or.inr (by decide))]; rfl) ?_
    refine lv_i2l hx hb dL_addProduct_12 rfl ?_
    refine r_last (kk := 50) (ii := 0) (n := 1) (f := fC g a9 (stAP σ lo hi li sm) (pd) pl9 sc9 h) (fn := fo) hC hI hout (j := 0) rfl (by decide) (by decide) dL_addProduct_13 (fun H locs hI => ?_)
    have hI := hI.cast (fC_up (K := 50) (by decide))
    refine lv_goto (tgt := 25) hx hb dL_addProduct_14 (by decide) ?_
    refine lv_iconst (v := 0) hx hb dL_addProduct_25 (by decide) ?_
    exact e_int hC hI ⟨by rw [hk], ha, _, _, pl9, sc9, _, Or.inl ⟨hk, rfl, rfl, hP9, if_pos rfl⟩, rfl⟩ (Nat.le_of_ble_eq_true rfl) (Nat.le_of_ble_eq_true rfl) dL_addProduct_26
  · obtain ⟨hX, ha9, rfl⟩ := hX; obtain rfl := ha9.symm
    rcases hX with ⟨hk, rfl⟩ | ⟨hk, rfl⟩
    · refine r_catch (pre := []) (suf := [(0, 14, 21, 27)]) hC htab rfl (pass0) (by decide) (by decide) wd_cl_L_13 cIA h1 h2 h3 ?_
      refine lv_astore (lv' := [(6, .ref q), (0, .ref (ad 0 0)), (1, .int lo), (2, .int hi), (3, .int li), (4, .int sm), (5, .ref (ad 50 0))]) hx hb dL_addProduct_17 hl (by decide) rfl (fun ls hl => ?_)
      refine lv_iconst (v := 1) hx hb dL_addProduct_19 (by decide) ?_
      exact e_int hC hI ⟨by rw [hk], fun _ _ _ => rfl, σ, pd, pl, sc, fo, Or.inr ⟨fun z => absurd (hk.symm.trans z) (by decide), rfl, rfl, rfl⟩, by rw [up2_same hout]⟩ (Nat.le_of_ble_eq_true rfl) (Nat.le_of_ble_eq_true rfl) dL_addProduct_20
    · refine r_catch (pre := [(0, 14, 17, 13)]) (suf := []) hC htab rfl (pass1 (by decide) wd_cl_L_13 nSA (pass0)) (by decide) (by decide) wd_cl_L_27 cIS h1 h2 h3 ?_
      refine lv_astore (lv' := [(6, .ref q), (0, .ref (ad 0 0)), (1, .int lo), (2, .int hi), (3, .int li), (4, .int sm), (5, .ref (ad 50 0))]) hx hb dL_addProduct_21 hl (by decide) rfl (fun ls hl => ?_)
      refine lv_iconst (v := 2) hx hb dL_addProduct_23 (by decide) ?_
      exact e_int hC hI ⟨by rw [hk], fun _ _ _ => rfl, σ, pd, pl, sc, fo, Or.inr ⟨fun z => absurd (hk.symm.trans z) (by decide), rfl, rfl, rfl⟩, by rw [up2_same hout]⟩ (Nat.le_of_ble_eq_true rfl) (Nat.le_of_ble_eq_true rfl) dL_addProduct_24
set_option maxHeartbeats 4000000 in
set_option maxRecDepth 100000 in
theorem tL_addRoom (l : Launch) (g : Gg) (B0 : Nat) (ad : Ad) (σ : Sg) (pd : Int64) (pl : Pl) (sc : Sg) (h : Wd) (fo : Nat → Int64) (hout : h 50 0 = some (outE g fo)) (pc9 wa po aim : Int32) (hIv : Iv σ pl) : MM l g B0 yL_addRoom (wsH yL_addRoom cL_addRoom 7 (some .int) [(0, 14, 17, 13), (0, 14, 21, 27)]) ({ frames := 8, cells := 9, slots := 71, locals := 136 } : Room) [.ref (ad 0 0), .int pc9, .int wa, .int po, .int aim, .ref (ad 50 0)] ad (fC g ad σ pd pl sc h) (rH g ad (kdAR σ pc9 wa po aim) (σ 10 0) (stAR σ pc9 wa po aim) σ pd pd pl h) noX 9 71 := by
  refine MH.start (by decide) (Nat.le_of_ble_eq_true rfl) ?_
  intro hl9 p e s m below meth c ls hC htab hI hl0
  have hx := hC.1.1
  have hb := hC.1.2.1
  have hts := hC.1.2.2.2.2
  obtain ⟨-, ⟨cIA, cIS, cIO, -⟩, -, nSA, nAO, nSO, -⟩ := id hC.2.2.2.2.2.1
  have hl : lv_has ls 7 [(0, .ref (ad 0 0)), (1, .int pc9), (2, .int wa), (3, .int po), (4, .int aim), (5, .ref (ad 50 0))] := hl0
  refine lv_aload hx hb dL_addRoom_0 (lv_at hl 5 rfl) ?_
  refine lv_iconst (v := 0) hx hb dL_addRoom_2 (by decide) ?_
  refine lv_aload_n hx hb dL_addRoom_3 rfl (lv_at hl 0 rfl) ?_
  refine lv_iload_n hx hb dL_addRoom_4 rfl (lv_at hl 1 rfl) ?_
  refine lv_iload_n hx hb dL_addRoom_5 rfl (lv_at hl 2 rfl) ?_
  refine lv_iload_n hx hb dL_addRoom_6 rfl (lv_at hl 3 rfl) ?_
  refine lv_iload hx hb dL_addRoom_7 (lv_at hl 4 rfl) ?_
  refine r_callV (rest := [.int 0, .ref (ad 50 0)]) hl9 hC hI hl.1 (tX6_addRoom l g B0 ad σ pd pl sc h pc9 wa po aim hIv) (cw_L_29 hts rfl rfl ⟨(Nat.le_of_ble_eq_true rfl), (Nat.le_of_ble_eq_true rfl)⟩) fC_0 rfl rfl rfl rfl (Nat.le_of_ble_eq_true rfl) dL_addRoom_9 ⟨(Nat.le_of_ble_eq_true rfl), (Nat.le_of_ble_eq_true rfl)⟩ (fun v a9 w H locs hR hI => ?_) (fun E ce q a9 w H locs hX hI h1 h2 h3 => ?_)
  · obtain ⟨hk, rfl, ha, pl9, sc9, hP9, rfl⟩ := hR
    refine W.eq (g2 := F0 m 12 ls [.int (σ 10 0), .int 0, .ref (a9 50 0)]) (by rw [ha 50 0 (Or.inr (by decide))]; rfl) ?_
    refine lv_i2l hx hb dL_addRoom_12 rfl ?_
    refine r_last (kk := 50) (ii := 0) (n := 1) (f := fC g a9 (stAR σ pc9 wa po aim) (pd) pl9 sc9 h) (fn := fo) hC hI hout (j := 0) rfl (by decide) (by decide) dL_addRoom_13 (fun H locs hI => ?_)
    have hI := hI.cast (fC_up (K := 50) (by decide))
    refine lv_goto (tgt := 25) hx hb dL_addRoom_14 (by decide) ?_
    refine lv_iconst (v := 0) hx hb dL_addRoom_25 (by decide) ?_
    exact e_int hC hI ⟨by rw [hk], ha, _, _, pl9, sc9, _, Or.inl ⟨hk, rfl, rfl, hP9, if_pos rfl⟩, rfl⟩ (Nat.le_of_ble_eq_true rfl) (Nat.le_of_ble_eq_true rfl) dL_addRoom_26
  · obtain ⟨hX, ha9, rfl⟩ := hX; obtain rfl := ha9.symm
    rcases hX with ⟨hk, rfl⟩ | ⟨hk, rfl⟩
    · refine r_catch (pre := []) (suf := [(0, 14, 21, 27)]) hC htab rfl (pass0) (by decide) (by decide) wd_cl_L_13 cIA h1 h2 h3 ?_
      refine lv_astore (lv' := [(6, .ref q), (0, .ref (ad 0 0)), (1, .int pc9), (2, .int wa), (3, .int po), (4, .int aim), (5, .ref (ad 50 0))]) hx hb dL_addRoom_17 hl (by decide) rfl (fun ls hl => ?_)
      refine lv_iconst (v := 1) hx hb dL_addRoom_19 (by decide) ?_
      exact e_int hC hI ⟨by rw [hk], fun _ _ _ => rfl, σ, pd, pl, sc, fo, Or.inr ⟨fun z => absurd (hk.symm.trans z) (by decide), rfl, rfl, rfl⟩, by rw [up2_same hout]⟩ (Nat.le_of_ble_eq_true rfl) (Nat.le_of_ble_eq_true rfl) dL_addRoom_20
    · refine r_catch (pre := [(0, 14, 17, 13)]) (suf := []) hC htab rfl (pass1 (by decide) wd_cl_L_13 nSA (pass0)) (by decide) (by decide) wd_cl_L_27 cIS h1 h2 h3 ?_
      refine lv_astore (lv' := [(6, .ref q), (0, .ref (ad 0 0)), (1, .int pc9), (2, .int wa), (3, .int po), (4, .int aim), (5, .ref (ad 50 0))]) hx hb dL_addRoom_21 hl (by decide) rfl (fun ls hl => ?_)
      refine lv_iconst (v := 2) hx hb dL_addRoom_23 (by decide) ?_
      exact e_int hC hI ⟨by rw [hk], fun _ _ _ => rfl, σ, pd, pl, sc, fo, Or.inr ⟨fun z => absurd (hk.symm.trans z) (by decide), rfl, rfl, rfl⟩, by rw [up2_same hout]⟩ (Nat.le_of_ble_eq_true rfl) (Nat.le_of_ble_eq_true rfl) dL_addRoom_24
set_option maxHeartbeats 4000000 in
set_option maxRecDepth 100000 in
theorem tL_setRoom (l : Launch) (g : Gg) (B0 : Nat) (ad : Ad) (σ : Sg) (pd : Int64) (pl : Pl) (sc : Sg) (h : Wd) (fo : Nat → Int64) (hout : h 50 0 = some (outE g fo)) (v9 aim b9 : Int32) (hb9 : narrow .boolean (.int b9) = .int b9) (hb8 : fits .boolean (.int b9) = true) (hIv : Iv σ pl) : MM l g B0 yL_setRoom (wsH yL_setRoom cL_setRoom 6 (some .int) [(0, 12, 15, 36), (0, 12, 19, 13)]) ({ frames := 8, cells := 2, slots := 12, locals := 137 } : Room) [.ref (ad 0 0), .int v9, .int aim, .int b9, .ref (ad 50 0)] ad (fC g ad σ pd pl sc h) (rH g ad (kdSR σ v9 aim) (σ 14 (cN v9)) (stSR σ v9 aim b9) σ pd pd pl h) noX 2 12 := by
  refine MH.start (by decide) (Nat.le_of_ble_eq_true rfl) ?_
  intro hl9 p e s m below meth c ls hC htab hI hl0
  have hx := hC.1.1
  have hb := hC.1.2.1
  have hts := hC.1.2.2.2.2
  obtain ⟨-, ⟨cIA, cIS, cIO, -⟩, -, nSA, nAO, nSO, -⟩ := id hC.2.2.2.2.2.1
  have hl : lv_has ls 6 [(0, .ref (ad 0 0)), (1, .int v9), (2, .int aim), (3, .int b9), (4, .ref (ad 50 0))] := hl0
  refine lv_aload hx hb dL_setRoom_0 (lv_at hl 4 rfl) ?_
  refine lv_iconst (v := 0) hx hb dL_setRoom_2 (by decide) ?_
  refine lv_aload_n hx hb dL_setRoom_3 rfl (lv_at hl 0 rfl) ?_
  refine lv_iload_n hx hb dL_setRoom_4 rfl (lv_at hl 1 rfl) ?_
  refine lv_iload_n hx hb dL_setRoom_5 rfl (lv_at hl 2 rfl) ?_
  refine lv_iload_n hx hb dL_setRoom_6 rfl (lv_at hl 3 rfl) ?_
  refine r_callV (rest := [.int 0, .ref (ad 50 0)]) hl9 hC hI hl.1 (tX6_setRoom l g B0 ad σ pd pl sc h v9 aim b9 hb9 hb8 hIv) (cw_L_32 hts rfl rfl ⟨(Nat.le_of_ble_eq_true rfl), (Nat.le_of_ble_eq_true rfl)⟩) fC_0 rfl rfl rfl rfl (Nat.le_of_ble_eq_true rfl) dL_setRoom_7 ⟨(Nat.le_of_ble_eq_true rfl), (Nat.le_of_ble_eq_true rfl)⟩ (fun v a9 w H locs hR hI => ?_) (fun E ce q a9 w H locs hX hI h1 h2 h3 => ?_)
  · obtain ⟨hk, rfl, ha, pl9, sc9, hP9, rfl⟩ := hR
    refine W.eq (g2 := F0 m 10 ls [.int (σ 14 (cN v9)), .int 0, .ref (a9 50 0)]) (by rw [ha 50 0 (Or.inr (by decide))]; rfl) ?_
    refine lv_i2l hx hb dL_setRoom_10 rfl ?_
    refine r_last (kk := 50) (ii := 0) (n := 1) (f := fC g a9 (stSR σ v9 aim b9) (pd) pl9 sc9 h) (fn := fo) hC hI hout (j := 0) rfl (by decide) (by decide) dL_setRoom_11 (fun H locs hI => ?_)
    have hI := hI.cast (fC_up (K := 50) (by decide))
    refine lv_goto (tgt := 23) hx hb dL_setRoom_12 (by decide) ?_
    refine lv_iconst (v := 0) hx hb dL_setRoom_23 (by decide) ?_
    exact e_int hC hI ⟨by rw [hk], ha, _, _, pl9, sc9, _, Or.inl ⟨hk, rfl, rfl, hP9, if_pos rfl⟩, rfl⟩ (Nat.le_of_ble_eq_true rfl) (Nat.le_of_ble_eq_true rfl) dL_setRoom_24
  · obtain ⟨hX, ha9, rfl⟩ := hX; obtain rfl := ha9.symm
    rcases hX with ⟨hk, rfl⟩ | ⟨hk, rfl⟩
    · refine r_catch (pre := []) (suf := [(0, 12, 19, 13)]) hC htab rfl (pass0) (by decide) (by decide) wd_cl_L_36 cIO h1 h2 h3 ?_
      refine lv_astore (lv' := [(5, .ref q), (0, .ref (ad 0 0)), (1, .int v9), (2, .int aim), (3, .int b9), (4, .ref (ad 50 0))]) hx hb dL_setRoom_15 hl (by decide) rfl (fun ls hl => ?_)
      refine lv_iconst (v := 1) hx hb dL_setRoom_17 (by decide) ?_
      exact e_int hC hI ⟨by rw [hk], fun _ _ _ => rfl, σ, pd, pl, sc, fo, Or.inr ⟨fun z => absurd (hk.symm.trans z) (by decide), rfl, rfl, rfl⟩, by rw [up2_same hout]⟩ (Nat.le_of_ble_eq_true rfl) (Nat.le_of_ble_eq_true rfl) dL_setRoom_18
    · refine r_catch (pre := [(0, 12, 15, 36)]) (suf := []) hC htab rfl (pass1 (by decide) wd_cl_L_36 nAO (pass0)) (by decide) (by decide) wd_cl_L_13 cIA h1 h2 h3 ?_
      refine lv_astore (lv' := [(5, .ref q), (0, .ref (ad 0 0)), (1, .int v9), (2, .int aim), (3, .int b9), (4, .ref (ad 50 0))]) hx hb dL_setRoom_19 hl (by decide) rfl (fun ls hl => ?_)
      refine lv_iconst (v := 2) hx hb dL_setRoom_21 (by decide) ?_
      exact e_int hC hI ⟨by rw [hk], fun _ _ _ => rfl, σ, pd, pl, sc, fo, Or.inr ⟨fun z => absurd (hk.symm.trans z) (by decide), rfl, rfl, rfl⟩, by rw [up2_same hout]⟩ (Nat.le_of_ble_eq_true rfl) (Nat.le_of_ble_eq_true rfl) dL_setRoom_22
set_option maxHeartbeats 4000000 in
set_option maxRecDepth 100000 in
theorem tL_defrost (l : Launch) (g : Gg) (B0 : Nat) (ad : Ad) (σ : Sg) (pd : Int64) (pl : Pl) (sc : Sg) (h : Wd) (fo : Nat → Int64) (hout : h 50 0 = some (outE g fo)) (v9 : Int32) (hIv : Iv σ pl) : MM l g B0 yL_defrost (wsH yL_defrost cL_defrost 4 (some .int) [(0, 9, 12, 36), (0, 9, 15, 27)]) ({ frames := 8, cells := 2, slots := 12, locals := 134 } : Room) [.ref (ad 0 0), .int v9, .ref (ad 50 0)] ad (fC g ad σ pd pl sc h) (rH g ad (kdDF σ v9) (σ 16 (6 * cN v9 + 1)) (stDF σ v9) σ pd pd pl h) noX 2 12 := by
  refine MH.start (by decide) (Nat.le_of_ble_eq_true rfl) ?_
  intro hl9 p e s m below meth c ls hC htab hI hl0
  have hx := hC.1.1
  have hb := hC.1.2.1
  have hts := hC.1.2.2.2.2
  obtain ⟨-, ⟨cIA, cIS, cIO, -⟩, -, nSA, nAO, nSO, -⟩ := id hC.2.2.2.2.2.1
  have hl : lv_has ls 4 [(0, .ref (ad 0 0)), (1, .int v9), (2, .ref (ad 50 0))] := hl0
  refine lv_aload_n hx hb dL_defrost_0 rfl (lv_at hl 2 rfl) ?_
  refine lv_iconst (v := 0) hx hb dL_defrost_1 (by decide) ?_
  refine lv_aload_n hx hb dL_defrost_2 rfl (lv_at hl 0 rfl) ?_
  refine lv_iload_n hx hb dL_defrost_3 rfl (lv_at hl 1 rfl) ?_
  refine r_callV (rest := [.int 0, .ref (ad 50 0)]) hl9 hC hI hl.1 (tX6_defrost l g B0 ad σ pd pl sc h v9 hIv) (cw_L_38 hts rfl rfl ⟨(Nat.le_of_ble_eq_true rfl), (Nat.le_of_ble_eq_true rfl)⟩) fC_0 rfl rfl rfl rfl (Nat.le_of_ble_eq_true rfl) dL_defrost_4 ⟨(Nat.le_of_ble_eq_true rfl), (Nat.le_of_ble_eq_true rfl)⟩ (fun v a9 w H locs hR hI => ?_) (fun E ce q a9 w H locs hX hI h1 h2 h3 => ?_)
  · obtain ⟨hk, rfl, ha, pl9, sc9, hP9, rfl⟩ := hR
    refine W.eq (g2 := F0 m 7 ls [.int (σ 16 (6 * cN v9 + 1)), .int 0, .ref (a9 50 0)]) (by rw [ha 50 0 (Or.inr (by decide))]; rfl) ?_
    refine lv_i2l hx hb dL_defrost_7 rfl ?_
    refine r_last (kk := 50) (ii := 0) (n := 1) (f := fC g a9 (stDF σ v9) (pd) pl9 sc9 h) (fn := fo) hC hI hout (j := 0) rfl (by decide) (by decide) dL_defrost_8 (fun H locs hI => ?_)
    have hI := hI.cast (fC_up (K := 50) (by decide))
    refine lv_goto (tgt := 18) hx hb dL_defrost_9 (by decide) ?_
    refine lv_iconst (v := 0) hx hb dL_defrost_18 (by decide) ?_
    exact e_int hC hI ⟨by rw [hk], ha, _, _, pl9, sc9, _, Or.inl ⟨hk, rfl, rfl, hP9, if_pos rfl⟩, rfl⟩ (Nat.le_of_ble_eq_true rfl) (Nat.le_of_ble_eq_true rfl) dL_defrost_19
  · obtain ⟨hX, ha9, rfl⟩ := hX; obtain rfl := ha9.symm
    rcases hX with ⟨hk, rfl⟩ | ⟨hk, rfl⟩
    · refine r_catch (pre := []) (suf := [(0, 9, 15, 27)]) hC htab rfl (pass0) (by decide) (by decide) wd_cl_L_36 cIO h1 h2 h3 ?_
      refine lv_astore_n (lv' := [(3, .ref q), (0, .ref (ad 0 0)), (1, .int v9), (2, .ref (ad 50 0))]) hx hb dL_defrost_12 rfl hl (by decide) rfl (fun ls hl => ?_)
      refine lv_iconst (v := 1) hx hb dL_defrost_13 (by decide) ?_
      exact e_int hC hI ⟨by rw [hk], fun _ _ _ => rfl, σ, pd, pl, sc, fo, Or.inr ⟨fun z => absurd (hk.symm.trans z) (by decide), rfl, rfl, rfl⟩, by rw [up2_same hout]⟩ (Nat.le_of_ble_eq_true rfl) (Nat.le_of_ble_eq_true rfl) dL_defrost_14
    · refine r_catch (pre := [(0, 9, 12, 36)]) (suf := []) hC htab rfl (pass1 (by decide) wd_cl_L_36 nSO (pass0)) (by decide) (by decide) wd_cl_L_27 cIS h1 h2 h3 ?_
      refine lv_astore_n (lv' := [(3, .ref q), (0, .ref (ad 0 0)), (1, .int v9), (2, .ref (ad 50 0))]) hx hb dL_defrost_15 rfl hl (by decide) rfl (fun ls hl => ?_)
      refine lv_iconst (v := 2) hx hb dL_defrost_16 (by decide) ?_
      exact e_int hC hI ⟨by rw [hk], fun _ _ _ => rfl, σ, pd, pl, sc, fo, Or.inr ⟨fun z => absurd (hk.symm.trans z) (by decide), rfl, rfl, rfl⟩, by rw [up2_same hout]⟩ (Nat.le_of_ble_eq_true rfl) (Nat.le_of_ble_eq_true rfl) dL_defrost_17
set_option maxHeartbeats 4000000 in
set_option maxRecDepth 100000 in
theorem tL_room (l : Launch) (g : Gg) (B0 : Nat) (ad : Ad) (σ : Sg) (pd : Int64) (pl : Pl) (sc : Sg) (h : Wd) (fo : Nat → Int64) (hout : h 50 0 = some (outE g fo)) (v9 w9 : Int32) (hIv : Iv σ pl) : MM l g B0 yL_room (wsH yL_room cL_room 5 (some .int) [(0, 10, 13, 36)]) ({ frames := 8, cells := 2, slots := 12, locals := 135 } : Room) [.ref (ad 0 0), .int v9, .int w9, .ref (ad 50 0)] ad (fC g ad σ pd pl sc h) (rH g ad (kdRO σ v9 w9) (toldR σ (cN v9) (cN w9)) σ σ pd pd pl h) noX 2 12 := by
  refine MH.start (by decide) (Nat.le_of_ble_eq_true rfl) ?_
  intro hl9 p e s m below meth c ls hC htab hI hl0
  have hx := hC.1.1
  have hb := hC.1.2.1
  have hts := hC.1.2.2.2.2
  obtain ⟨-, ⟨cIA, cIS, cIO, -⟩, -, nSA, nAO, nSO, -⟩ := id hC.2.2.2.2.2.1
  have hl : lv_has ls 5 [(0, .ref (ad 0 0)), (1, .int v9), (2, .int w9), (3, .ref (ad 50 0))] := hl0
  refine lv_aload_n hx hb dL_room_0 rfl (lv_at hl 3 rfl) ?_
  refine lv_iconst (v := 0) hx hb dL_room_1 (by decide) ?_
  refine lv_aload_n hx hb dL_room_2 rfl (lv_at hl 0 rfl) ?_
  refine lv_iload_n hx hb dL_room_3 rfl (lv_at hl 1 rfl) ?_
  refine lv_iload_n hx hb dL_room_4 rfl (lv_at hl 2 rfl) ?_
  refine r_callV (rest := [.int 0, .ref (ad 50 0)]) hl9 hC hI hl.1 (tX6_room l g B0 ad σ pd pl sc h v9 w9 hIv) (cw_L_41 hts rfl rfl ⟨(Nat.le_of_ble_eq_true rfl), (Nat.le_of_ble_eq_true rfl)⟩) fC_0 rfl rfl rfl rfl (Nat.le_of_ble_eq_true rfl) dL_room_5 ⟨(Nat.le_of_ble_eq_true rfl), (Nat.le_of_ble_eq_true rfl)⟩ (fun v a9 w H locs hR hI => ?_) (fun E ce q a9 w H locs hX hI h1 h2 h3 => ?_)
  · obtain ⟨hk, rfl, ha, pl9, sc9, hP9, rfl⟩ := hR
    refine W.eq (g2 := F0 m 8 ls [.int (toldR σ (cN v9) (cN w9)), .int 0, .ref (a9 50 0)]) (by rw [ha 50 0 (Or.inr (by decide))]; rfl) ?_
    refine lv_i2l hx hb dL_room_8 rfl ?_
    refine r_last (kk := 50) (ii := 0) (n := 1) (f := fC g a9 (σ) (pd) pl9 sc9 h) (fn := fo) hC hI hout (j := 0) rfl (by decide) (by decide) dL_room_9 (fun H locs hI => ?_)
    have hI := hI.cast (fC_up (K := 50) (by decide))
    refine lv_goto (tgt := 17) hx hb dL_room_10 (by decide) ?_
    refine lv_iconst (v := 0) hx hb dL_room_17 (by decide) ?_
    exact e_int hC hI ⟨by rw [hk], ha, _, _, pl9, sc9, _, Or.inl ⟨hk, rfl, rfl, hP9, if_pos rfl⟩, rfl⟩ (Nat.le_of_ble_eq_true rfl) (Nat.le_of_ble_eq_true rfl) dL_room_18
  · obtain ⟨hX, ha9, rfl⟩ := hX; obtain rfl := ha9.symm
    rcases hX with ⟨hk, rfl⟩
    · refine r_catch (pre := []) (suf := []) hC htab rfl (pass0) (by decide) (by decide) wd_cl_L_36 cIO h1 h2 h3 ?_
      refine lv_astore (lv' := [(4, .ref q), (0, .ref (ad 0 0)), (1, .int v9), (2, .int w9), (3, .ref (ad 50 0))]) hx hb dL_room_13 hl (by decide) rfl (fun ls hl => ?_)
      refine lv_iconst (v := 1) hx hb dL_room_15 (by decide) ?_
      exact e_int hC hI ⟨by rw [hk], fun _ _ _ => rfl, σ, pd, pl, sc, fo, Or.inr ⟨fun z => absurd (hk.symm.trans z) (by decide), rfl, rfl, rfl⟩, by rw [up2_same hout]⟩ (Nat.le_of_ble_eq_true rfl) (Nat.le_of_ble_eq_true rfl) dL_room_16
set_option maxHeartbeats 4000000 in
set_option maxRecDepth 100000 in
theorem tL_reason (l : Launch) (g : Gg) (B0 : Nat) (ad : Ad) (σ : Sg) (pd : Int64) (pl : Pl) (sc : Sg) (h : Wd) (fo : Nat → Int64) (hout : h 50 0 = some (outE g fo)) (u9 v9 : Int32) (hIv : Iv σ pl) : MM l g B0 yL_reason (wsH yL_reason cL_reason 5 (some .int) [(0, 10, 13, 36)]) ({ frames := 8, cells := 2, slots := 12, locals := 135 } : Room) [.ref (ad 0 0), .int u9, .int v9, .ref (ad 50 0)] ad (fC g ad σ pd pl sc h) (rH g ad (kdRE σ u9 v9) (reasonS σ (cN u9) (cN v9)) σ σ pd pd pl h) noX 2 12 := by
  refine MH.start (by decide) (Nat.le_of_ble_eq_true rfl) ?_
  intro hl9 p e s m below meth c ls hC htab hI hl0
  have hx := hC.1.1
  have hb := hC.1.2.1
  have hts := hC.1.2.2.2.2
  obtain ⟨-, ⟨cIA, cIS, cIO, -⟩, -, nSA, nAO, nSO, -⟩ := id hC.2.2.2.2.2.1
  have hl : lv_has ls 5 [(0, .ref (ad 0 0)), (1, .int u9), (2, .int v9), (3, .ref (ad 50 0))] := hl0
  refine lv_aload_n hx hb dL_reason_0 rfl (lv_at hl 3 rfl) ?_
  refine lv_iconst (v := 0) hx hb dL_reason_1 (by decide) ?_
  refine lv_aload_n hx hb dL_reason_2 rfl (lv_at hl 0 rfl) ?_
  refine lv_iload_n hx hb dL_reason_3 rfl (lv_at hl 1 rfl) ?_
  refine lv_iload_n hx hb dL_reason_4 rfl (lv_at hl 2 rfl) ?_
  refine r_callV (rest := [.int 0, .ref (ad 50 0)]) hl9 hC hI hl.1 (tX6_reason l g B0 ad σ pd pl sc h u9 v9 hIv) (cw_L_44 hts rfl rfl ⟨(Nat.le_of_ble_eq_true rfl), (Nat.le_of_ble_eq_true rfl)⟩) fC_0 rfl rfl rfl rfl (Nat.le_of_ble_eq_true rfl) dL_reason_5 ⟨(Nat.le_of_ble_eq_true rfl), (Nat.le_of_ble_eq_true rfl)⟩ (fun v a9 w H locs hR hI => ?_) (fun E ce q a9 w H locs hX hI h1 h2 h3 => ?_)
  · obtain ⟨hk, rfl, ha, pl9, sc9, hP9, rfl⟩ := hR
    refine W.eq (g2 := F0 m 8 ls [.int (reasonS σ (cN u9) (cN v9)), .int 0, .ref (a9 50 0)]) (by rw [ha 50 0 (Or.inr (by decide))]; rfl) ?_
    refine lv_i2l hx hb dL_reason_8 rfl ?_
    refine r_last (kk := 50) (ii := 0) (n := 1) (f := fC g a9 (σ) (pd) pl9 sc9 h) (fn := fo) hC hI hout (j := 0) rfl (by decide) (by decide) dL_reason_9 (fun H locs hI => ?_)
    have hI := hI.cast (fC_up (K := 50) (by decide))
    refine lv_goto (tgt := 17) hx hb dL_reason_10 (by decide) ?_
    refine lv_iconst (v := 0) hx hb dL_reason_17 (by decide) ?_
    exact e_int hC hI ⟨by rw [hk], ha, _, _, pl9, sc9, _, Or.inl ⟨hk, rfl, rfl, hP9, if_pos rfl⟩, rfl⟩ (Nat.le_of_ble_eq_true rfl) (Nat.le_of_ble_eq_true rfl) dL_reason_18
  · obtain ⟨hX, ha9, rfl⟩ := hX; obtain rfl := ha9.symm
    rcases hX with ⟨hk, rfl⟩
    · refine r_catch (pre := []) (suf := []) hC htab rfl (pass0) (by decide) (by decide) wd_cl_L_36 cIO h1 h2 h3 ?_
      refine lv_astore (lv' := [(4, .ref q), (0, .ref (ad 0 0)), (1, .int u9), (2, .int v9), (3, .ref (ad 50 0))]) hx hb dL_reason_13 hl (by decide) rfl (fun ls hl => ?_)
      refine lv_iconst (v := 1) hx hb dL_reason_15 (by decide) ?_
      exact e_int hC hI ⟨by rw [hk], fun _ _ _ => rfl, σ, pd, pl, sc, fo, Or.inr ⟨fun z => absurd (hk.symm.trans z) (by decide), rfl, rfl, rfl⟩, by rw [up2_same hout]⟩ (Nat.le_of_ble_eq_true rfl) (Nat.le_of_ble_eq_true rfl) dL_reason_16
set_option maxHeartbeats 4000000 in
set_option maxRecDepth 100000 in
theorem tL_arrive (l : Launch) (g : Gg) (B0 : Nat) (ad : Ad) (σ : Sg) (pd : Int64) (pl : Pl) (sc : Sg) (h : Wd) (fo : Nat → Int64) (hout : h 50 0 = some (outE g fo)) (u9 v9 t9 : Int32) (hIv : Iv σ pl) : MM l g B0 yL_arrive (wsH yL_arrive cL_arrive 6 (some .int) [(0, 12, 15, 36), (0, 12, 19, 13), (0, 12, 23, 27)]) ({ frames := 8, cells := 5, slots := 30, locals := 138 } : Room) [.ref (ad 0 0), .int u9, .int v9, .int t9, .ref (ad 50 0)] ad (fC g ad σ pd pl sc h) (rH g ad (kdAV σ u9 v9 t9) (σ 17 0) (stAV σ u9 v9 t9) σ pd pd pl h) noX 5 30 := by
  refine MH.start (by decide) (Nat.le_of_ble_eq_true rfl) ?_
  intro hl9 p e s m below meth c ls hC htab hI hl0
  have hx := hC.1.1
  have hb := hC.1.2.1
  have hts := hC.1.2.2.2.2
  obtain ⟨-, ⟨cIA, cIS, cIO, -⟩, -, nSA, nAO, nSO, -⟩ := id hC.2.2.2.2.2.1
  have hl : lv_has ls 6 [(0, .ref (ad 0 0)), (1, .int u9), (2, .int v9), (3, .int t9), (4, .ref (ad 50 0))] := hl0
  refine lv_aload hx hb dL_arrive_0 (lv_at hl 4 rfl) ?_
  refine lv_iconst (v := 0) hx hb dL_arrive_2 (by decide) ?_
  refine lv_aload_n hx hb dL_arrive_3 rfl (lv_at hl 0 rfl) ?_
  refine lv_iload_n hx hb dL_arrive_4 rfl (lv_at hl 1 rfl) ?_
  refine lv_iload_n hx hb dL_arrive_5 rfl (lv_at hl 2 rfl) ?_
  refine lv_iload_n hx hb dL_arrive_6 rfl (lv_at hl 3 rfl) ?_
  refine r_callV (rest := [.int 0, .ref (ad 50 0)]) hl9 hC hI hl.1 (tX6_arrive l g B0 ad σ pd pl sc h u9 v9 t9 hIv) (cw_L_47 hts rfl rfl ⟨(Nat.le_of_ble_eq_true rfl), (Nat.le_of_ble_eq_true rfl)⟩) fC_0 rfl rfl rfl rfl (Nat.le_of_ble_eq_true rfl) dL_arrive_7 ⟨(Nat.le_of_ble_eq_true rfl), (Nat.le_of_ble_eq_true rfl)⟩ (fun v a9 w H locs hR hI => ?_) (fun E ce q a9 w H locs hX hI h1 h2 h3 => ?_)
  · obtain ⟨hk, rfl, ha, pl9, sc9, hP9, rfl⟩ := hR
    refine W.eq (g2 := F0 m 10 ls [.int (σ 17 0), .int 0, .ref (a9 50 0)]) (by rw [ha 50 0 (Or.inr (by decide))]; rfl) ?_
    refine lv_i2l hx hb dL_arrive_10 rfl ?_
    refine r_last (kk := 50) (ii := 0) (n := 1) (f := fC g a9 (stAV σ u9 v9 t9) (pd) pl9 sc9 h) (fn := fo) hC hI hout (j := 0) rfl (by decide) (by decide) dL_arrive_11 (fun H locs hI => ?_)
    have hI := hI.cast (fC_up (K := 50) (by decide))
    refine lv_goto (tgt := 27) hx hb dL_arrive_12 (by decide) ?_
    refine lv_iconst (v := 0) hx hb dL_arrive_27 (by decide) ?_
    exact e_int hC hI ⟨by rw [hk], ha, _, _, pl9, sc9, _, Or.inl ⟨hk, rfl, rfl, hP9, if_pos rfl⟩, rfl⟩ (Nat.le_of_ble_eq_true rfl) (Nat.le_of_ble_eq_true rfl) dL_arrive_28
  · obtain ⟨hX, ha9, rfl⟩ := hX; obtain rfl := ha9.symm
    rcases hX with ⟨hk, rfl⟩ | ⟨hk, rfl⟩ | ⟨hk, rfl⟩
    · refine r_catch (pre := []) (suf := [(0, 12, 19, 13), (0, 12, 23, 27)]) hC htab rfl (pass0) (by decide) (by decide) wd_cl_L_36 cIO h1 h2 h3 ?_
      refine lv_astore (lv' := [(5, .ref q), (0, .ref (ad 0 0)), (1, .int u9), (2, .int v9), (3, .int t9), (4, .ref (ad 50 0))]) hx hb dL_arrive_15 hl (by decide) rfl (fun ls hl => ?_)
      refine lv_iconst (v := 1) hx hb dL_arrive_17 (by decide) ?_
      exact e_int hC hI ⟨by rw [hk], fun _ _ _ => rfl, σ, pd, pl, sc, fo, Or.inr ⟨fun z => absurd (hk.symm.trans z) (by decide), rfl, rfl, rfl⟩, by rw [up2_same hout]⟩ (Nat.le_of_ble_eq_true rfl) (Nat.le_of_ble_eq_true rfl) dL_arrive_18
    · refine r_catch (pre := [(0, 12, 15, 36)]) (suf := [(0, 12, 23, 27)]) hC htab rfl (pass1 (by decide) wd_cl_L_36 nAO (pass0)) (by decide) (by decide) wd_cl_L_13 cIA h1 h2 h3 ?_
      refine lv_astore (lv' := [(5, .ref q), (0, .ref (ad 0 0)), (1, .int u9), (2, .int v9), (3, .int t9), (4, .ref (ad 50 0))]) hx hb dL_arrive_19 hl (by decide) rfl (fun ls hl => ?_)
      refine lv_iconst (v := 2) hx hb dL_arrive_21 (by decide) ?_
      exact e_int hC hI ⟨by rw [hk], fun _ _ _ => rfl, σ, pd, pl, sc, fo, Or.inr ⟨fun z => absurd (hk.symm.trans z) (by decide), rfl, rfl, rfl⟩, by rw [up2_same hout]⟩ (Nat.le_of_ble_eq_true rfl) (Nat.le_of_ble_eq_true rfl) dL_arrive_22
    · refine r_catch (pre := [(0, 12, 15, 36), (0, 12, 19, 13)]) (suf := []) hC htab rfl (pass1 (by decide) wd_cl_L_36 nSO (pass1 (by decide) wd_cl_L_13 nSA (pass0))) (by decide) (by decide) wd_cl_L_27 cIS h1 h2 h3 ?_
      refine lv_astore (lv' := [(5, .ref q), (0, .ref (ad 0 0)), (1, .int u9), (2, .int v9), (3, .int t9), (4, .ref (ad 50 0))]) hx hb dL_arrive_23 hl (by decide) rfl (fun ls hl => ?_)
      refine lv_iconst (v := 3) hx hb dL_arrive_25 (by decide) ?_
      exact e_int hC hI ⟨by rw [hk], fun _ _ _ => rfl, σ, pd, pl, sc, fo, Or.inr ⟨fun z => absurd (hk.symm.trans z) (by decide), rfl, rfl, rfl⟩, by rw [up2_same hout]⟩ (Nat.le_of_ble_eq_true rfl) (Nat.le_of_ble_eq_true rfl) dL_arrive_26
set_option maxHeartbeats 4000000 in
set_option maxRecDepth 100000 in
theorem tL_move (l : Launch) (g : Gg) (B0 : Nat) (ad : Ad) (σ : Sg) (pd : Int64) (pl : Pl) (sc : Sg) (h : Wd) (fo : Nat → Int64) (hout : h 50 0 = some (outE g fo)) (u9 v9 : Int32) (hIv : Iv σ pl) : MM l g B0 yL_move (wsH yL_move cL_move 5 (some .int) [(0, 10, 13, 36), (0, 10, 17, 27)]) ({ frames := 8, cells := 3, slots := 18, locals := 137 } : Room) [.ref (ad 0 0), .int u9, .int v9, .ref (ad 50 0)] ad (fC g ad σ pd pl sc h) (rH g ad (kdMV σ u9 v9) (σ 19 (cN u9)) (stMV σ u9 v9) σ pd pd pl h) noX 3 18 := by
  refine MH.start (by decide) (Nat.le_of_ble_eq_true rfl) ?_
  intro hl9 p e s m below meth c ls hC htab hI hl0
  have hx := hC.1.1
  have hb := hC.1.2.1
  have hts := hC.1.2.2.2.2
  obtain ⟨-, ⟨cIA, cIS, cIO, -⟩, -, nSA, nAO, nSO, -⟩ := id hC.2.2.2.2.2.1
  have hl : lv_has ls 5 [(0, .ref (ad 0 0)), (1, .int u9), (2, .int v9), (3, .ref (ad 50 0))] := hl0
  refine lv_aload_n hx hb dL_move_0 rfl (lv_at hl 3 rfl) ?_
  refine lv_iconst (v := 0) hx hb dL_move_1 (by decide) ?_
  refine lv_aload_n hx hb dL_move_2 rfl (lv_at hl 0 rfl) ?_
  refine lv_iload_n hx hb dL_move_3 rfl (lv_at hl 1 rfl) ?_
  refine lv_iload_n hx hb dL_move_4 rfl (lv_at hl 2 rfl) ?_
  refine r_callV (rest := [.int 0, .ref (ad 50 0)]) hl9 hC hI hl.1 (tX6_move l g B0 ad σ pd pl sc h u9 v9 hIv) (cw_L_50 hts rfl rfl ⟨(Nat.le_of_ble_eq_true rfl), (Nat.le_of_ble_eq_true rfl)⟩) fC_0 rfl rfl rfl rfl (Nat.le_of_ble_eq_true rfl) dL_move_5 ⟨(Nat.le_of_ble_eq_true rfl), (Nat.le_of_ble_eq_true rfl)⟩ (fun v a9 w H locs hR hI => ?_) (fun E ce q a9 w H locs hX hI h1 h2 h3 => ?_)
  · obtain ⟨hk, rfl, ha, pl9, sc9, hP9, rfl⟩ := hR
    refine W.eq (g2 := F0 m 8 ls [.int (σ 19 (cN u9)), .int 0, .ref (a9 50 0)]) (by rw [ha 50 0 (Or.inr (by decide))]; rfl) ?_
    refine lv_i2l hx hb dL_move_8 rfl ?_
    refine r_last (kk := 50) (ii := 0) (n := 1) (f := fC g a9 (stMV σ u9 v9) (pd) pl9 sc9 h) (fn := fo) hC hI hout (j := 0) rfl (by decide) (by decide) dL_move_9 (fun H locs hI => ?_)
    have hI := hI.cast (fC_up (K := 50) (by decide))
    refine lv_goto (tgt := 21) hx hb dL_move_10 (by decide) ?_
    refine lv_iconst (v := 0) hx hb dL_move_21 (by decide) ?_
    exact e_int hC hI ⟨by rw [hk], ha, _, _, pl9, sc9, _, Or.inl ⟨hk, rfl, rfl, hP9, if_pos rfl⟩, rfl⟩ (Nat.le_of_ble_eq_true rfl) (Nat.le_of_ble_eq_true rfl) dL_move_22
  · obtain ⟨hX, ha9, rfl⟩ := hX; obtain rfl := ha9.symm
    rcases hX with ⟨hk, rfl⟩ | ⟨hk, rfl⟩
    · refine r_catch (pre := []) (suf := [(0, 10, 17, 27)]) hC htab rfl (pass0) (by decide) (by decide) wd_cl_L_36 cIO h1 h2 h3 ?_
      refine lv_astore (lv' := [(4, .ref q), (0, .ref (ad 0 0)), (1, .int u9), (2, .int v9), (3, .ref (ad 50 0))]) hx hb dL_move_13 hl (by decide) rfl (fun ls hl => ?_)
      refine lv_iconst (v := 1) hx hb dL_move_15 (by decide) ?_
      exact e_int hC hI ⟨by rw [hk], fun _ _ _ => rfl, σ, pd, pl, sc, fo, Or.inr ⟨fun z => absurd (hk.symm.trans z) (by decide), rfl, rfl, rfl⟩, by rw [up2_same hout]⟩ (Nat.le_of_ble_eq_true rfl) (Nat.le_of_ble_eq_true rfl) dL_move_16
    · refine r_catch (pre := [(0, 10, 13, 36)]) (suf := []) hC htab rfl (pass1 (by decide) wd_cl_L_36 nSO (pass0)) (by decide) (by decide) wd_cl_L_27 cIS h1 h2 h3 ?_
      refine lv_astore (lv' := [(4, .ref q), (0, .ref (ad 0 0)), (1, .int u9), (2, .int v9), (3, .ref (ad 50 0))]) hx hb dL_move_17 hl (by decide) rfl (fun ls hl => ?_)
      refine lv_iconst (v := 2) hx hb dL_move_19 (by decide) ?_
      exact e_int hC hI ⟨by rw [hk], fun _ _ _ => rfl, σ, pd, pl, sc, fo, Or.inr ⟨fun z => absurd (hk.symm.trans z) (by decide), rfl, rfl, rfl⟩, by rw [up2_same hout]⟩ (Nat.le_of_ble_eq_true rfl) (Nat.le_of_ble_eq_true rfl) dL_move_20
set_option maxHeartbeats 4000000 in
set_option maxRecDepth 100000 in
theorem tL_pallet (l : Launch) (g : Gg) (B0 : Nat) (ad : Ad) (σ : Sg) (pd : Int64) (pl : Pl) (sc : Sg) (h : Wd) (fo : Nat → Int64) (hout : h 50 0 = some (outE g fo)) (u9 w9 : Int32) (hIv : Iv σ pl) : MM l g B0 yL_pallet (wsH yL_pallet cL_pallet 5 (some .int) [(0, 10, 13, 36)]) ({ frames := 8, cells := 2, slots := 12, locals := 135 } : Room) [.ref (ad 0 0), .int u9, .int w9, .ref (ad 50 0)] ad (fC g ad σ pd pl sc h) (rH g ad (kdPA σ u9 w9) (toldP σ (cN u9) w9) σ σ pd pd pl h) noX 2 12 := by
  refine MH.start (by decide) (Nat.le_of_ble_eq_true rfl) ?_
  intro hl9 p e s m below meth c ls hC htab hI hl0
  have hx := hC.1.1
  have hb := hC.1.2.1
  have hts := hC.1.2.2.2.2
  obtain ⟨-, ⟨cIA, cIS, cIO, -⟩, -, nSA, nAO, nSO, -⟩ := id hC.2.2.2.2.2.1
  have hl : lv_has ls 5 [(0, .ref (ad 0 0)), (1, .int u9), (2, .int w9), (3, .ref (ad 50 0))] := hl0
  refine lv_aload_n hx hb dL_pallet_0 rfl (lv_at hl 3 rfl) ?_
  refine lv_iconst (v := 0) hx hb dL_pallet_1 (by decide) ?_
  refine lv_aload_n hx hb dL_pallet_2 rfl (lv_at hl 0 rfl) ?_
  refine lv_iload_n hx hb dL_pallet_3 rfl (lv_at hl 1 rfl) ?_
  refine lv_iload_n hx hb dL_pallet_4 rfl (lv_at hl 2 rfl) ?_
  refine r_callV (rest := [.int 0, .ref (ad 50 0)]) hl9 hC hI hl.1 (tX6_pallet l g B0 ad σ pd pl sc h u9 w9 hIv) (cw_L_53 hts rfl rfl ⟨(Nat.le_of_ble_eq_true rfl), (Nat.le_of_ble_eq_true rfl)⟩) fC_0 rfl rfl rfl rfl (Nat.le_of_ble_eq_true rfl) dL_pallet_5 ⟨(Nat.le_of_ble_eq_true rfl), (Nat.le_of_ble_eq_true rfl)⟩ (fun v a9 w H locs hR hI => ?_) (fun E ce q a9 w H locs hX hI h1 h2 h3 => ?_)
  · obtain ⟨hk, rfl, ha, pl9, sc9, hP9, rfl⟩ := hR
    refine W.eq (g2 := F0 m 8 ls [.int (toldP σ (cN u9) w9), .int 0, .ref (a9 50 0)]) (by rw [ha 50 0 (Or.inr (by decide))]; rfl) ?_
    refine lv_i2l hx hb dL_pallet_8 rfl ?_
    refine r_last (kk := 50) (ii := 0) (n := 1) (f := fC g a9 (σ) (pd) pl9 sc9 h) (fn := fo) hC hI hout (j := 0) rfl (by decide) (by decide) dL_pallet_9 (fun H locs hI => ?_)
    have hI := hI.cast (fC_up (K := 50) (by decide))
    refine lv_goto (tgt := 17) hx hb dL_pallet_10 (by decide) ?_
    refine lv_iconst (v := 0) hx hb dL_pallet_17 (by decide) ?_
    exact e_int hC hI ⟨by rw [hk], ha, _, _, pl9, sc9, _, Or.inl ⟨hk, rfl, rfl, hP9, if_pos rfl⟩, rfl⟩ (Nat.le_of_ble_eq_true rfl) (Nat.le_of_ble_eq_true rfl) dL_pallet_18
  · obtain ⟨hX, ha9, rfl⟩ := hX; obtain rfl := ha9.symm
    rcases hX with ⟨hk, rfl⟩
    · refine r_catch (pre := []) (suf := []) hC htab rfl (pass0) (by decide) (by decide) wd_cl_L_36 cIO h1 h2 h3 ?_
      refine lv_astore (lv' := [(4, .ref q), (0, .ref (ad 0 0)), (1, .int u9), (2, .int w9), (3, .ref (ad 50 0))]) hx hb dL_pallet_13 hl (by decide) rfl (fun ls hl => ?_)
      refine lv_iconst (v := 1) hx hb dL_pallet_15 (by decide) ?_
      exact e_int hC hI ⟨by rw [hk], fun _ _ _ => rfl, σ, pd, pl, sc, fo, Or.inr ⟨fun z => absurd (hk.symm.trans z) (by decide), rfl, rfl, rfl⟩, by rw [up2_same hout]⟩ (Nat.le_of_ble_eq_true rfl) (Nat.le_of_ble_eq_true rfl) dL_pallet_16
set_option maxHeartbeats 4000000 in
set_option maxRecDepth 100000 in
theorem tL_bestRoom (l : Launch) (g : Gg) (B0 : Nat) (ad : Ad) (σ : Sg) (pd : Int64) (pl : Pl) (sc : Sg) (h : Wd) (fo : Nat → Int64) (hout : h 50 0 = some (outE g fo)) (u9 : Int32) (hIv : Iv σ pl) : MM l g B0 yL_bestRoom (wsH yL_bestRoom cL_bestRoom 4 (some .int) [(0, 9, 12, 36)]) ({ frames := 8, cells := 1, slots := 6, locals := 139 } : Room) [.ref (ad 0 0), .int u9, .ref (ad 50 0)] ad (fC g ad σ pd pl sc h) (rH g ad (kdPR σ u9) (bestAt σ (cN u9) (nr σ)) σ σ pd pd pl h) noX 1 6 := by
  refine MH.start (by decide) (Nat.le_of_ble_eq_true rfl) ?_
  intro hl9 p e s m below meth c ls hC htab hI hl0
  have hx := hC.1.1
  have hb := hC.1.2.1
  have hts := hC.1.2.2.2.2
  obtain ⟨-, ⟨cIA, cIS, cIO, -⟩, -, nSA, nAO, nSO, -⟩ := id hC.2.2.2.2.2.1
  have hl : lv_has ls 4 [(0, .ref (ad 0 0)), (1, .int u9), (2, .ref (ad 50 0))] := hl0
  refine lv_aload_n hx hb dL_bestRoom_0 rfl (lv_at hl 2 rfl) ?_
  refine lv_iconst (v := 0) hx hb dL_bestRoom_1 (by decide) ?_
  refine lv_aload_n hx hb dL_bestRoom_2 rfl (lv_at hl 0 rfl) ?_
  refine lv_iload_n hx hb dL_bestRoom_3 rfl (lv_at hl 1 rfl) ?_
  refine r_callV (rest := [.int 0, .ref (ad 50 0)]) hl9 hC hI hl.1 (tX6_bestRoom l g B0 ad σ pd pl sc h u9 hIv) (cw_L_56 hts rfl rfl ⟨(Nat.le_of_ble_eq_true rfl), (Nat.le_of_ble_eq_true rfl)⟩) fC_0 rfl rfl rfl rfl (Nat.le_of_ble_eq_true rfl) dL_bestRoom_4 ⟨(Nat.le_of_ble_eq_true rfl), (Nat.le_of_ble_eq_true rfl)⟩ (fun v a9 w H locs hR hI => ?_) (fun E ce q a9 w H locs hX hI h1 h2 h3 => ?_)
  · obtain ⟨hk, rfl, ha, pl9, sc9, hP9, rfl⟩ := hR
    refine W.eq (g2 := F0 m 7 ls [.int (bestAt σ (cN u9) (nr σ)), .int 0, .ref (a9 50 0)]) (by rw [ha 50 0 (Or.inr (by decide))]; rfl) ?_
    refine lv_i2l hx hb dL_bestRoom_7 rfl ?_
    refine r_last (kk := 50) (ii := 0) (n := 1) (f := fC g a9 (σ) (pd) pl9 sc9 h) (fn := fo) hC hI hout (j := 0) rfl (by decide) (by decide) dL_bestRoom_8 (fun H locs hI => ?_)
    have hI := hI.cast (fC_up (K := 50) (by decide))
    refine lv_goto (tgt := 15) hx hb dL_bestRoom_9 (by decide) ?_
    refine lv_iconst (v := 0) hx hb dL_bestRoom_15 (by decide) ?_
    exact e_int hC hI ⟨by rw [hk], ha, _, _, pl9, sc9, _, Or.inl ⟨hk, rfl, rfl, hP9, if_pos rfl⟩, rfl⟩ (Nat.le_of_ble_eq_true rfl) (Nat.le_of_ble_eq_true rfl) dL_bestRoom_16
  · obtain ⟨hX, ha9, rfl⟩ := hX; obtain rfl := ha9.symm
    rcases hX with ⟨hk, rfl⟩
    · refine r_catch (pre := []) (suf := []) hC htab rfl (pass0) (by decide) (by decide) wd_cl_L_36 cIO h1 h2 h3 ?_
      refine lv_astore_n (lv' := [(3, .ref q), (0, .ref (ad 0 0)), (1, .int u9), (2, .ref (ad 50 0))]) hx hb dL_bestRoom_12 rfl hl (by decide) rfl (fun ls hl => ?_)
      refine lv_iconst (v := 1) hx hb dL_bestRoom_13 (by decide) ?_
      exact e_int hC hI ⟨by rw [hk], fun _ _ _ => rfl, σ, pd, pl, sc, fo, Or.inr ⟨fun z => absurd (hk.symm.trans z) (by decide), rfl, rfl, rfl⟩, by rw [up2_same hout]⟩ (Nat.le_of_ble_eq_true rfl) (Nat.le_of_ble_eq_true rfl) dL_bestRoom_14
set_option maxHeartbeats 4000000 in
set_option maxRecDepth 100000 in
theorem tL_ship (l : Launch) (g : Gg) (B0 : Nat) (ad : Ad) (σ : Sg) (pd : Int64) (pl : Pl) (sc : Sg) (h : Wd) (fo : Nat → Int64) (hout : h 50 0 = some (outE g fo)) (u9 many least : Int32) (hIv : Iv σ pl) : MM l g B0 yL_ship (wsH yL_ship cL_ship 6 (some .int) [(0, 12, 15, 36), (0, 12, 19, 13)]) ({ frames := 8, cells := 3, slots := 18, locals := 138 } : Room) [.ref (ad 0 0), .int u9, .int many, .int least, .ref (ad 50 0)] ad (fC g ad σ pd pl sc h) (rH g ad (kdSH σ u9 many least) (nI (shipL (cN u9) least (cN many) σ).1) (stSH σ u9 many least) σ pd pd pl h) noX 3 18 := by
  refine MH.start (by decide) (Nat.le_of_ble_eq_true rfl) ?_
  intro hl9 p e s m below meth c ls hC htab hI hl0
  have hx := hC.1.1
  have hb := hC.1.2.1
  have hts := hC.1.2.2.2.2
  obtain ⟨-, ⟨cIA, cIS, cIO, -⟩, -, nSA, nAO, nSO, -⟩ := id hC.2.2.2.2.2.1
  have hl : lv_has ls 6 [(0, .ref (ad 0 0)), (1, .int u9), (2, .int many), (3, .int least), (4, .ref (ad 50 0))] := hl0
  refine lv_aload hx hb dL_ship_0 (lv_at hl 4 rfl) ?_
  refine lv_iconst (v := 0) hx hb dL_ship_2 (by decide) ?_
  refine lv_aload_n hx hb dL_ship_3 rfl (lv_at hl 0 rfl) ?_
  refine lv_iload_n hx hb dL_ship_4 rfl (lv_at hl 1 rfl) ?_
  refine lv_iload_n hx hb dL_ship_5 rfl (lv_at hl 2 rfl) ?_
  refine lv_iload_n hx hb dL_ship_6 rfl (lv_at hl 3 rfl) ?_
  refine r_callV (rest := [.int 0, .ref (ad 50 0)]) hl9 hC hI hl.1 (tX6_ship l g B0 ad σ pd pl sc h u9 many least hIv) (cw_L_59 hts rfl rfl ⟨(Nat.le_of_ble_eq_true rfl), (Nat.le_of_ble_eq_true rfl)⟩) fC_0 rfl rfl rfl rfl (Nat.le_of_ble_eq_true rfl) dL_ship_7 ⟨(Nat.le_of_ble_eq_true rfl), (Nat.le_of_ble_eq_true rfl)⟩ (fun v a9 w H locs hR hI => ?_) (fun E ce q a9 w H locs hX hI h1 h2 h3 => ?_)
  · obtain ⟨hk, rfl, ha, pl9, sc9, hP9, rfl⟩ := hR
    refine W.eq (g2 := F0 m 10 ls [.int (nI (shipL (cN u9) least (cN many) σ).1), .int 0, .ref (a9 50 0)]) (by rw [ha 50 0 (Or.inr (by decide))]; rfl) ?_
    refine lv_i2l hx hb dL_ship_10 rfl ?_
    refine r_last (kk := 50) (ii := 0) (n := 1) (f := fC g a9 (stSH σ u9 many least) (pd) pl9 sc9 h) (fn := fo) hC hI hout (j := 0) rfl (by decide) (by decide) dL_ship_11 (fun H locs hI => ?_)
    have hI := hI.cast (fC_up (K := 50) (by decide))
    refine lv_goto (tgt := 23) hx hb dL_ship_12 (by decide) ?_
    refine lv_iconst (v := 0) hx hb dL_ship_23 (by decide) ?_
    exact e_int hC hI ⟨by rw [hk], ha, _, _, pl9, sc9, _, Or.inl ⟨hk, rfl, rfl, hP9, if_pos rfl⟩, rfl⟩ (Nat.le_of_ble_eq_true rfl) (Nat.le_of_ble_eq_true rfl) dL_ship_24
  · obtain ⟨hX, ha9, rfl⟩ := hX; obtain rfl := ha9.symm
    rcases hX with ⟨hk, rfl⟩ | ⟨hk, rfl⟩
    · refine r_catch (pre := []) (suf := [(0, 12, 19, 13)]) hC htab rfl (pass0) (by decide) (by decide) wd_cl_L_36 cIO h1 h2 h3 ?_
      refine lv_astore (lv' := [(5, .ref q), (0, .ref (ad 0 0)), (1, .int u9), (2, .int many), (3, .int least), (4, .ref (ad 50 0))]) hx hb dL_ship_15 hl (by decide) rfl (fun ls hl => ?_)
      refine lv_iconst (v := 1) hx hb dL_ship_17 (by decide) ?_
      exact e_int hC hI ⟨by rw [hk], fun _ _ _ => rfl, σ, pd, pl, sc, fo, Or.inr ⟨fun z => absurd (hk.symm.trans z) (by decide), rfl, rfl, rfl⟩, by rw [up2_same hout]⟩ (Nat.le_of_ble_eq_true rfl) (Nat.le_of_ble_eq_true rfl) dL_ship_18
    · refine r_catch (pre := [(0, 12, 15, 36)]) (suf := []) hC htab rfl (pass1 (by decide) wd_cl_L_36 nAO (pass0)) (by decide) (by decide) wd_cl_L_13 cIA h1 h2 h3 ?_
      refine lv_astore (lv' := [(5, .ref q), (0, .ref (ad 0 0)), (1, .int u9), (2, .int many), (3, .int least), (4, .ref (ad 50 0))]) hx hb dL_ship_19 hl (by decide) rfl (fun ls hl => ?_)
      refine lv_iconst (v := 2) hx hb dL_ship_21 (by decide) ?_
      exact e_int hC hI ⟨by rw [hk], fun _ _ _ => rfl, σ, pd, pl, sc, fo, Or.inr ⟨fun z => absurd (hk.symm.trans z) (by decide), rfl, rfl, rfl⟩, by rw [up2_same hout]⟩ (Nat.le_of_ble_eq_true rfl) (Nat.le_of_ble_eq_true rfl) dL_ship_22
set_option maxHeartbeats 4000000 in
set_option maxRecDepth 100000 in
theorem tL_stock (l : Launch) (g : Gg) (B0 : Nat) (ad : Ad) (σ : Sg) (pd : Int64) (pl : Pl) (sc : Sg) (h : Wd) (fo : Nat → Int64) (hout : h 50 0 = some (outE g fo)) (u9 b9 : Int32) (hIv : Iv σ pl) : MM l g B0 yL_stock (wsH yL_stock cL_stock 5 (some .int) [(0, 10, 13, 36)]) ({ frames := 8, cells := 1, slots := 6, locals := 140 } : Room) [.ref (ad 0 0), .int u9, .int b9, .ref (ad 50 0)] ad (fC g ad σ pd pl sc h) (rH g ad (kdST σ u9) (thereS σ u9 b9) σ σ pd pd pl h) noX 1 6 := by
  refine MH.start (by decide) (Nat.le_of_ble_eq_true rfl) ?_
  intro hl9 p e s m below meth c ls hC htab hI hl0
  have hx := hC.1.1
  have hb := hC.1.2.1
  have hts := hC.1.2.2.2.2
  obtain ⟨-, ⟨cIA, cIS, cIO, -⟩, -, nSA, nAO, nSO, -⟩ := id hC.2.2.2.2.2.1
  have hl : lv_has ls 5 [(0, .ref (ad 0 0)), (1, .int u9), (2, .int b9), (3, .ref (ad 50 0))] := hl0
  refine lv_aload_n hx hb dL_stock_0 rfl (lv_at hl 3 rfl) ?_
  refine lv_iconst (v := 0) hx hb dL_stock_1 (by decide) ?_
  refine lv_aload_n hx hb dL_stock_2 rfl (lv_at hl 0 rfl) ?_
  refine lv_iload_n hx hb dL_stock_3 rfl (lv_at hl 1 rfl) ?_
  refine lv_iload_n hx hb dL_stock_4 rfl (lv_at hl 2 rfl) ?_
  refine r_callV (rest := [.int 0, .ref (ad 50 0)]) hl9 hC hI hl.1 (tX6_stock l g B0 ad σ pd pl sc h u9 b9 hIv) (cw_L_62 hts rfl rfl ⟨(Nat.le_of_ble_eq_true rfl), (Nat.le_of_ble_eq_true rfl)⟩) fC_0 rfl rfl rfl rfl (Nat.le_of_ble_eq_true rfl) dL_stock_5 ⟨(Nat.le_of_ble_eq_true rfl), (Nat.le_of_ble_eq_true rfl)⟩ (fun v a9 w H locs hR hI => ?_) (fun E ce q a9 w H locs hX hI h1 h2 h3 => ?_)
  · obtain ⟨hk, rfl, ha, pl9, sc9, hP9, rfl⟩ := hR
    refine W.eq (g2 := F0 m 8 ls [.int (thereS σ u9 b9), .int 0, .ref (a9 50 0)]) (by rw [ha 50 0 (Or.inr (by decide))]; rfl) ?_
    refine lv_i2l hx hb dL_stock_8 rfl ?_
    refine r_last (kk := 50) (ii := 0) (n := 1) (f := fC g a9 (σ) (pd) pl9 sc9 h) (fn := fo) hC hI hout (j := 0) rfl (by decide) (by decide) dL_stock_9 (fun H locs hI => ?_)
    have hI := hI.cast (fC_up (K := 50) (by decide))
    refine lv_goto (tgt := 17) hx hb dL_stock_10 (by decide) ?_
    refine lv_iconst (v := 0) hx hb dL_stock_17 (by decide) ?_
    exact e_int hC hI ⟨by rw [hk], ha, _, _, pl9, sc9, _, Or.inl ⟨hk, rfl, rfl, hP9, if_pos rfl⟩, rfl⟩ (Nat.le_of_ble_eq_true rfl) (Nat.le_of_ble_eq_true rfl) dL_stock_18
  · obtain ⟨hX, ha9, rfl⟩ := hX; obtain rfl := ha9.symm
    rcases hX with ⟨hk, rfl⟩
    · refine r_catch (pre := []) (suf := []) hC htab rfl (pass0) (by decide) (by decide) wd_cl_L_36 cIO h1 h2 h3 ?_
      refine lv_astore (lv' := [(4, .ref q), (0, .ref (ad 0 0)), (1, .int u9), (2, .int b9), (3, .ref (ad 50 0))]) hx hb dL_stock_13 hl (by decide) rfl (fun ls hl => ?_)
      refine lv_iconst (v := 1) hx hb dL_stock_15 (by decide) ?_
      exact e_int hC hI ⟨by rw [hk], fun _ _ _ => rfl, σ, pd, pl, sc, fo, Or.inr ⟨fun z => absurd (hk.symm.trans z) (by decide), rfl, rfl, rfl⟩, by rw [up2_same hout]⟩ (Nat.le_of_ble_eq_true rfl) (Nat.le_of_ble_eq_true rfl) dL_stock_16
set_option maxHeartbeats 4000000 in
set_option maxRecDepth 100000 in
theorem tL_count (l : Launch) (g : Gg) (B0 : Nat) (ad : Ad) (σ : Sg) (pd : Int64) (pl : Pl) (sc : Sg) (h : Wd) (fo : Nat → Int64) (hout : h 50 0 = some (outE g fo)) (w9 : Int32) (hIv : Iv σ pl) : MM l g B0 yL_count (wsH yL_count cL_count 4 (some .int) [(0, 9, 12, 36)]) ({ frames := 8, cells := 1, slots := 6, locals := 132 } : Room) [.ref (ad 0 0), .int w9, .ref (ad 50 0)] ad (fC g ad σ pd pl sc h) (rH g ad (kdCO w9) (cntS σ w9) σ σ pd pd pl h) noX 1 6 := by
  refine MH.start (by decide) (Nat.le_of_ble_eq_true rfl) ?_
  intro hl9 p e s m below meth c ls hC htab hI hl0
  have hx := hC.1.1
  have hb := hC.1.2.1
  have hts := hC.1.2.2.2.2
  obtain ⟨-, ⟨cIA, cIS, cIO, -⟩, -, nSA, nAO, nSO, -⟩ := id hC.2.2.2.2.2.1
  have hl : lv_has ls 4 [(0, .ref (ad 0 0)), (1, .int w9), (2, .ref (ad 50 0))] := hl0
  refine lv_aload_n hx hb dL_count_0 rfl (lv_at hl 2 rfl) ?_
  refine lv_iconst (v := 0) hx hb dL_count_1 (by decide) ?_
  refine lv_aload_n hx hb dL_count_2 rfl (lv_at hl 0 rfl) ?_
  refine lv_iload_n hx hb dL_count_3 rfl (lv_at hl 1 rfl) ?_
  refine r_callV (rest := [.int 0, .ref (ad 50 0)]) hl9 hC hI hl.1 (tX6_count l g B0 ad σ pd pl sc h w9 hIv) (cw_L_66 hts rfl rfl ⟨(Nat.le_of_ble_eq_true rfl), (Nat.le_of_ble_eq_true rfl)⟩) fC_0 rfl rfl rfl rfl (Nat.le_of_ble_eq_true rfl) dL_count_4 ⟨(Nat.le_of_ble_eq_true rfl), (Nat.le_of_ble_eq_true rfl)⟩ (fun v a9 w H locs hR hI => ?_) (fun E ce q a9 w H locs hX hI h1 h2 h3 => ?_)
  · obtain ⟨hk, rfl, ha, pl9, sc9, hP9, rfl⟩ := hR
    refine W.eq (g2 := F0 m 7 ls [.int (cntS σ w9), .int 0, .ref (a9 50 0)]) (by rw [ha 50 0 (Or.inr (by decide))]; rfl) ?_
    refine lv_i2l hx hb dL_count_7 rfl ?_
    refine r_last (kk := 50) (ii := 0) (n := 1) (f := fC g a9 (σ) (pd) pl9 sc9 h) (fn := fo) hC hI hout (j := 0) rfl (by decide) (by decide) dL_count_8 (fun H locs hI => ?_)
    have hI := hI.cast (fC_up (K := 50) (by decide))
    refine lv_goto (tgt := 15) hx hb dL_count_9 (by decide) ?_
    refine lv_iconst (v := 0) hx hb dL_count_15 (by decide) ?_
    exact e_int hC hI ⟨by rw [hk], ha, _, _, pl9, sc9, _, Or.inl ⟨hk, rfl, rfl, hP9, if_pos rfl⟩, rfl⟩ (Nat.le_of_ble_eq_true rfl) (Nat.le_of_ble_eq_true rfl) dL_count_16
  · obtain ⟨hX, ha9, rfl⟩ := hX; obtain rfl := ha9.symm
    rcases hX with ⟨hk, rfl⟩
    · refine r_catch (pre := []) (suf := []) hC htab rfl (pass0) (by decide) (by decide) wd_cl_L_36 cIO h1 h2 h3 ?_
      refine lv_astore_n (lv' := [(3, .ref q), (0, .ref (ad 0 0)), (1, .int w9), (2, .ref (ad 50 0))]) hx hb dL_count_12 rfl hl (by decide) rfl (fun ls hl => ?_)
      refine lv_iconst (v := 1) hx hb dL_count_13 (by decide) ?_
      exact e_int hC hI ⟨by rw [hk], fun _ _ _ => rfl, σ, pd, pl, sc, fo, Or.inr ⟨fun z => absurd (hk.symm.trans z) (by decide), rfl, rfl, rfl⟩, by rw [up2_same hout]⟩ (Nat.le_of_ble_eq_true rfl) (Nat.le_of_ble_eq_true rfl) dL_count_14
set_option maxHeartbeats 4000000 in
set_option maxRecDepth 100000 in
theorem tL_tick (l : Launch) (g : Gg) (B0 : Nat) (ad : Ad) (σ : Sg) (pd : Int64) (pl : Pl) (sc : Sg) (h : Wd) (fo : Nat → Int64) (hout : h 50 0 = some (outE g fo)) (v9 : Int32) (hT : OkT σ) (hB : Bn σ (cN (σ 1 0))) (hIv : Iv σ pl) : MM l g B0 yL_tick (wsH yL_tick cL_tick 4 (some .int) [(0, 9, 12, 13)]) ({ frames := 8, cells := 1, slots := 6, locals := 141 } : Room) [.ref (ad 0 0), .int v9, .ref (ad 50 0)] ad (fC g ad σ pd pl sc h) (rH g ad (kdTI σ v9) (thereS (tickAt (σ, pd) (cN v9)).1 (-1) 1 - thereS σ (-1) 1) ((tickAt (σ, pd) (cN v9)).1) σ ((tickAt (σ, pd) (cN v9)).2) pd pl h) noX 1 6 := by
  refine MH.start (by decide) (Nat.le_of_ble_eq_true rfl) ?_
  intro hl9 p e s m below meth c ls hC htab hI hl0
  have hx := hC.1.1
  have hb := hC.1.2.1
  have hts := hC.1.2.2.2.2
  obtain ⟨-, ⟨cIA, cIS, cIO, -⟩, -, nSA, nAO, nSO, -⟩ := id hC.2.2.2.2.2.1
  have hl : lv_has ls 4 [(0, .ref (ad 0 0)), (1, .int v9), (2, .ref (ad 50 0))] := hl0
  refine lv_aload_n hx hb dL_tick_0 rfl (lv_at hl 2 rfl) ?_
  refine lv_iconst (v := 0) hx hb dL_tick_1 (by decide) ?_
  refine lv_aload_n hx hb dL_tick_2 rfl (lv_at hl 0 rfl) ?_
  refine lv_iload_n hx hb dL_tick_3 rfl (lv_at hl 1 rfl) ?_
  refine r_callV (rest := [.int 0, .ref (ad 50 0)]) hl9 hC hI hl.1 (tX6_tick l g B0 ad σ pd pl sc h v9 hT hB hIv) (cw_L_69 hts rfl rfl ⟨(Nat.le_of_ble_eq_true rfl), (Nat.le_of_ble_eq_true rfl)⟩) fC_0 rfl rfl rfl rfl (Nat.le_of_ble_eq_true rfl) dL_tick_4 ⟨(Nat.le_of_ble_eq_true rfl), (Nat.le_of_ble_eq_true rfl)⟩ (fun v a9 w H locs hR hI => ?_) (fun E ce q a9 w H locs hX hI h1 h2 h3 => ?_)
  · obtain ⟨hk, rfl, ha, pl9, sc9, hP9, rfl⟩ := hR
    refine W.eq (g2 := F0 m 7 ls [.int (thereS (tickAt (σ, pd) (cN v9)).1 (-1) 1 - thereS σ (-1) 1), .int 0, .ref (a9 50 0)]) (by rw [ha 50 0 (Or.inr (by decide))]; rfl) ?_
    refine lv_i2l hx hb dL_tick_7 rfl ?_
    refine r_last (kk := 50) (ii := 0) (n := 1) (f := fC g a9 ((tickAt (σ, pd) (cN v9)).1) ((tickAt (σ, pd) (cN v9)).2) pl9 sc9 h) (fn := fo) hC hI hout (j := 0) rfl (by decide) (by decide) dL_tick_8 (fun H locs hI => ?_)
    have hI := hI.cast (fC_up (K := 50) (by decide))
    refine lv_goto (tgt := 15) hx hb dL_tick_9 (by decide) ?_
    refine lv_iconst (v := 0) hx hb dL_tick_15 (by decide) ?_
    exact e_int hC hI ⟨by rw [hk], ha, _, _, pl9, sc9, _, Or.inl ⟨hk, rfl, rfl, hP9, if_pos rfl⟩, rfl⟩ (Nat.le_of_ble_eq_true rfl) (Nat.le_of_ble_eq_true rfl) dL_tick_16
  · obtain ⟨hX, ha9, rfl⟩ := hX; obtain rfl := ha9.symm
    rcases hX with ⟨hk, rfl⟩
    · refine r_catch (pre := []) (suf := []) hC htab rfl (pass0) (by decide) (by decide) wd_cl_L_13 cIA h1 h2 h3 ?_
      refine lv_astore_n (lv' := [(3, .ref q), (0, .ref (ad 0 0)), (1, .int v9), (2, .ref (ad 50 0))]) hx hb dL_tick_12 rfl hl (by decide) rfl (fun ls hl => ?_)
      refine lv_iconst (v := 1) hx hb dL_tick_13 (by decide) ?_
      exact e_int hC hI ⟨by rw [hk], fun _ _ _ => rfl, σ, pd, pl, sc, fo, Or.inr ⟨fun z => absurd (hk.symm.trans z) (by decide), rfl, rfl, rfl⟩, by rw [up2_same hout]⟩ (Nat.le_of_ble_eq_true rfl) (Nat.le_of_ble_eq_true rfl) dL_tick_14
set_option maxHeartbeats 4000000 in
set_option maxRecDepth 100000 in
theorem tL_foretell (l : Launch) (g : Gg) (B0 : Nat) (ad : Ad) (σ : Sg) (pd : Int64) (pl : Pl) (sc : Sg) (h : Wd) (fo : Nat → Int64) (hout : h 50 0 = some (outE g fo)) (v9 w9 : Int32) (hT : OkT σ) (hB : Bn σ (cN (σ 1 0))) (hIv : Iv σ pl) : MM l g B0 yL_foretell (wsH yL_foretell cL_foretell 5 (some .int) [(0, 10, 13, 36), (0, 10, 17, 13)]) ({ frames := 8, cells := 2, slots := 12, locals := 136 } : Room) [.ref (ad 0 0), .int v9, .int w9, .ref (ad 50 0)] ad (fC g ad σ pd pl sc h) (rH g ad (kdFO σ v9 w9) (rsFO σ pd v9 w9) σ σ pd pd pl h) noX 2 12 := by
  refine MH.start (by decide) (Nat.le_of_ble_eq_true rfl) ?_
  intro hl9 p e s m below meth c ls hC htab hI hl0
  have hx := hC.1.1
  have hb := hC.1.2.1
  have hts := hC.1.2.2.2.2
  obtain ⟨-, ⟨cIA, cIS, cIO, -⟩, -, nSA, nAO, nSO, -⟩ := id hC.2.2.2.2.2.1
  have hl : lv_has ls 5 [(0, .ref (ad 0 0)), (1, .int v9), (2, .int w9), (3, .ref (ad 50 0))] := hl0
  refine lv_aload_n hx hb dL_foretell_0 rfl (lv_at hl 3 rfl) ?_
  refine lv_iconst (v := 0) hx hb dL_foretell_1 (by decide) ?_
  refine lv_aload_n hx hb dL_foretell_2 rfl (lv_at hl 0 rfl) ?_
  refine lv_iload_n hx hb dL_foretell_3 rfl (lv_at hl 1 rfl) ?_
  refine lv_iload_n hx hb dL_foretell_4 rfl (lv_at hl 2 rfl) ?_
  refine r_callV (rest := [.int 0, .ref (ad 50 0)]) hl9 hC hI hl.1 (tX6_foretell l g B0 ad σ pd pl sc h v9 w9 hT hB hIv) (cw_L_72 hts rfl rfl ⟨(Nat.le_of_ble_eq_true rfl), (Nat.le_of_ble_eq_true rfl)⟩) fC_0 rfl rfl rfl rfl (Nat.le_of_ble_eq_true rfl) dL_foretell_5 ⟨(Nat.le_of_ble_eq_true rfl), (Nat.le_of_ble_eq_true rfl)⟩ (fun v a9 w H locs hR hI => ?_) (fun E ce q a9 w H locs hX hI h1 h2 h3 => ?_)
  · obtain ⟨hk, rfl, ha, pl9, sc9, hP9, rfl⟩ := hR
    refine W.eq (g2 := F0 m 8 ls [.int (rsFO σ pd v9 w9), .int 0, .ref (a9 50 0)]) (by rw [ha 50 0 (Or.inr (by decide))]; rfl) ?_
    refine lv_i2l hx hb dL_foretell_8 rfl ?_
    refine r_last (kk := 50) (ii := 0) (n := 1) (f := fC g a9 (σ) (pd) pl9 sc9 h) (fn := fo) hC hI hout (j := 0) rfl (by decide) (by decide) dL_foretell_9 (fun H locs hI => ?_)
    have hI := hI.cast (fC_up (K := 50) (by decide))
    refine lv_goto (tgt := 21) hx hb dL_foretell_10 (by decide) ?_
    refine lv_iconst (v := 0) hx hb dL_foretell_21 (by decide) ?_
    exact e_int hC hI ⟨by rw [hk], ha, _, _, pl9, sc9, _, Or.inl ⟨hk, rfl, rfl, hP9, if_pos rfl⟩, rfl⟩ (Nat.le_of_ble_eq_true rfl) (Nat.le_of_ble_eq_true rfl) dL_foretell_22
  · obtain ⟨hX, ha9, rfl⟩ := hX; obtain rfl := ha9.symm
    rcases hX with ⟨hk, rfl⟩ | ⟨hk, rfl⟩
    · refine r_catch (pre := []) (suf := [(0, 10, 17, 13)]) hC htab rfl (pass0) (by decide) (by decide) wd_cl_L_36 cIO h1 h2 h3 ?_
      refine lv_astore (lv' := [(4, .ref q), (0, .ref (ad 0 0)), (1, .int v9), (2, .int w9), (3, .ref (ad 50 0))]) hx hb dL_foretell_13 hl (by decide) rfl (fun ls hl => ?_)
      refine lv_iconst (v := 1) hx hb dL_foretell_15 (by decide) ?_
      exact e_int hC hI ⟨by rw [hk], fun _ _ _ => rfl, σ, pd, pl, sc, fo, Or.inr ⟨fun z => absurd (hk.symm.trans z) (by decide), rfl, rfl, rfl⟩, by rw [up2_same hout]⟩ (Nat.le_of_ble_eq_true rfl) (Nat.le_of_ble_eq_true rfl) dL_foretell_16
    · refine r_catch (pre := [(0, 10, 13, 36)]) (suf := []) hC htab rfl (pass1 (by decide) wd_cl_L_36 nAO (pass0)) (by decide) (by decide) wd_cl_L_13 cIA h1 h2 h3 ?_
      refine lv_astore (lv' := [(4, .ref q), (0, .ref (ad 0 0)), (1, .int v9), (2, .int w9), (3, .ref (ad 50 0))]) hx hb dL_foretell_17 hl (by decide) rfl (fun ls hl => ?_)
      refine lv_iconst (v := 2) hx hb dL_foretell_19 (by decide) ?_
      exact e_int hC hI ⟨by rw [hk], fun _ _ _ => rfl, σ, pd, pl, sc, fo, Or.inr ⟨fun z => absurd (hk.symm.trans z) (by decide), rfl, rfl, rfl⟩, by rw [up2_same hout]⟩ (Nat.le_of_ble_eq_true rfl) (Nat.le_of_ble_eq_true rfl) dL_foretell_20
set_option maxHeartbeats 4000000 in
set_option maxRecDepth 100000 in
theorem tL_lasts (l : Launch) (g : Gg) (B0 : Nat) (ad : Ad) (σ : Sg) (pd : Int64) (pl : Pl) (sc : Sg) (h : Wd) (fo : Nat → Int64) (hout : h 50 0 = some (outE g fo)) (u9 : Int32) (hT : OkT σ) (hB : Bn σ (cN (σ 1 0))) (hIv : Iv σ pl) : MM l g B0 yL_lasts (wsH yL_lasts cL_lasts 4 (some .int) [(0, 9, 12, 36), (0, 9, 15, 27)]) ({ frames := 8, cells := 2, slots := 12, locals := 136 } : Room) [.ref (ad 0 0), .int u9, .ref (ad 50 0)] ad (fC g ad σ pd pl sc h) (rH g ad (kdLA σ u9) (rsLA σ pd u9) σ σ pd pd pl h) noX 2 12 := by
  refine MH.start (by decide) (Nat.le_of_ble_eq_true rfl) ?_
  intro hl9 p e s m below meth c ls hC htab hI hl0
  have hx := hC.1.1
  have hb := hC.1.2.1
  have hts := hC.1.2.2.2.2
  obtain ⟨-, ⟨cIA, cIS, cIO, -⟩, -, nSA, nAO, nSO, -⟩ := id hC.2.2.2.2.2.1
  have hl : lv_has ls 4 [(0, .ref (ad 0 0)), (1, .int u9), (2, .ref (ad 50 0))] := hl0
  refine lv_aload_n hx hb dL_lasts_0 rfl (lv_at hl 2 rfl) ?_
  refine lv_iconst (v := 0) hx hb dL_lasts_1 (by decide) ?_
  refine lv_aload_n hx hb dL_lasts_2 rfl (lv_at hl 0 rfl) ?_
  refine lv_iload_n hx hb dL_lasts_3 rfl (lv_at hl 1 rfl) ?_
  refine r_callV (rest := [.int 0, .ref (ad 50 0)]) hl9 hC hI hl.1 (tX6_lasts l g B0 ad σ pd pl sc h u9 hT hB hIv) (cw_L_75 hts rfl rfl ⟨(Nat.le_of_ble_eq_true rfl), (Nat.le_of_ble_eq_true rfl)⟩) fC_0 rfl rfl rfl rfl (Nat.le_of_ble_eq_true rfl) dL_lasts_4 ⟨(Nat.le_of_ble_eq_true rfl), (Nat.le_of_ble_eq_true rfl)⟩ (fun v a9 w H locs hR hI => ?_) (fun E ce q a9 w H locs hX hI h1 h2 h3 => ?_)
  · obtain ⟨hk, rfl, ha, pl9, sc9, hP9, rfl⟩ := hR
    refine W.eq (g2 := F0 m 7 ls [.int (rsLA σ pd u9), .int 0, .ref (a9 50 0)]) (by rw [ha 50 0 (Or.inr (by decide))]; rfl) ?_
    refine lv_i2l hx hb dL_lasts_7 rfl ?_
    refine r_last (kk := 50) (ii := 0) (n := 1) (f := fC g a9 (σ) (pd) pl9 sc9 h) (fn := fo) hC hI hout (j := 0) rfl (by decide) (by decide) dL_lasts_8 (fun H locs hI => ?_)
    have hI := hI.cast (fC_up (K := 50) (by decide))
    refine lv_goto (tgt := 18) hx hb dL_lasts_9 (by decide) ?_
    refine lv_iconst (v := 0) hx hb dL_lasts_18 (by decide) ?_
    exact e_int hC hI ⟨by rw [hk], ha, _, _, pl9, sc9, _, Or.inl ⟨hk, rfl, rfl, hP9, if_pos rfl⟩, rfl⟩ (Nat.le_of_ble_eq_true rfl) (Nat.le_of_ble_eq_true rfl) dL_lasts_19
  · obtain ⟨hX, ha9, rfl⟩ := hX; obtain rfl := ha9.symm
    rcases hX with ⟨hk, rfl⟩ | ⟨hk, rfl⟩
    · refine r_catch (pre := []) (suf := [(0, 9, 15, 27)]) hC htab rfl (pass0) (by decide) (by decide) wd_cl_L_36 cIO h1 h2 h3 ?_
      refine lv_astore_n (lv' := [(3, .ref q), (0, .ref (ad 0 0)), (1, .int u9), (2, .ref (ad 50 0))]) hx hb dL_lasts_12 rfl hl (by decide) rfl (fun ls hl => ?_)
      refine lv_iconst (v := 1) hx hb dL_lasts_13 (by decide) ?_
      exact e_int hC hI ⟨by rw [hk], fun _ _ _ => rfl, σ, pd, pl, sc, fo, Or.inr ⟨fun z => absurd (hk.symm.trans z) (by decide), rfl, rfl, rfl⟩, by rw [up2_same hout]⟩ (Nat.le_of_ble_eq_true rfl) (Nat.le_of_ble_eq_true rfl) dL_lasts_14
    · refine r_catch (pre := [(0, 9, 12, 36)]) (suf := []) hC htab rfl (pass1 (by decide) wd_cl_L_36 nSO (pass0)) (by decide) (by decide) wd_cl_L_27 cIS h1 h2 h3 ?_
      refine lv_astore_n (lv' := [(3, .ref q), (0, .ref (ad 0 0)), (1, .int u9), (2, .ref (ad 50 0))]) hx hb dL_lasts_15 rfl hl (by decide) rfl (fun ls hl => ?_)
      refine lv_iconst (v := 2) hx hb dL_lasts_16 (by decide) ?_
      exact e_int hC hI ⟨by rw [hk], fun _ _ _ => rfl, σ, pd, pl, sc, fo, Or.inr ⟨fun z => absurd (hk.symm.trans z) (by decide), rfl, rfl, rfl⟩, by rw [up2_same hout]⟩ (Nat.le_of_ble_eq_true rfl) (Nat.le_of_ble_eq_true rfl) dL_lasts_17
set_option maxHeartbeats 4000000 in
set_option maxRecDepth 100000 in
theorem tL_freshness (l : Launch) (g : Gg) (B0 : Nat) (ad : Ad) (σ : Sg) (pd : Int64) (pl : Pl) (sc : Sg) (h : Wd) (fo : Nat → UInt64) (hout : h 51 0 = some (outDE g fo)) (u9 : Int32) (hT : OkT σ) (hB : Bn σ (cN (σ 1 0))) (hIv : Iv σ pl) : MM l g B0 yL_freshness (wsH yL_freshness cL_freshness 4 (some .int) [(0, 8, 11, 36)]) ({ frames := 8, cells := 1, slots := 6, locals := 141 } : Room) [.ref (ad 0 0), .int u9, .ref (ad 51 0)] ad (fC g ad σ pd pl sc h) (rHD g ad (kdPR σ u9) (rsFR σ u9) σ pd pl sc h) noX 1 6 := by
  refine MH.start (by decide) (Nat.le_of_ble_eq_true rfl) ?_
  intro hl9 p e s m below meth c ls hC htab hI hl0
  have hx := hC.1.1
  have hb := hC.1.2.1
  have hts := hC.1.2.2.2.2
  obtain ⟨-, ⟨cIA, cIS, cIO, -⟩, -, nSA, nAO, nSO, -⟩ := id hC.2.2.2.2.2.1
  have hl : lv_has ls 4 [(0, .ref (ad 0 0)), (1, .int u9), (2, .ref (ad 51 0))] := hl0
  have hn9 : cN (σ 1 0) ≤ 2600 := by have := hT.2; omega
  refine lv_aload_n hx hb dL_freshness_0 rfl (lv_at hl 2 rfl) ?_
  refine lv_iconst (v := 0) hx hb dL_freshness_1 (by decide) ?_
  refine lv_aload_n hx hb dL_freshness_2 rfl (lv_at hl 0 rfl) ?_
  refine lv_iload_n hx hb dL_freshness_3 rfl (lv_at hl 1 rfl) ?_
  refine r_callV (rest := [.int 0, .ref (ad 51 0)]) hl9 hC hI hl.1 (tX6_freshness l g B0 ad σ pd pl sc h u9 (cN (σ 1 0)) hn9 hB hIv) (cw_L_78 hts rfl rfl ⟨(Nat.le_of_ble_eq_true rfl), (Nat.le_of_ble_eq_true rfl)⟩) fC_0 rfl rfl rfl rfl (Nat.le_of_ble_eq_true rfl) dL_freshness_4 ⟨(Nat.le_of_ble_eq_true rfl), (Nat.le_of_ble_eq_true rfl)⟩ (fun v a9 w H locs hR hI => ?_) (fun E ce q a9 w H locs hX hI h1 h2 h3 => ?_)
  · obtain ⟨hk, rfl, ha9, rfl⟩ := hR; obtain rfl := ha9.symm
    refine W.eq (g2 := F0 m 7 ls [.double (rsFR σ u9), .int 0, .ref (ad 51 0)]) rfl ?_
    refine r_dast (kk := 51) (ii := 0) (n := 1) (f := fC g ad σ pd pl sc h) (fn := fo) hC hI hout (j := 0) rfl (by decide) (by decide) dL_freshness_7 (fun H locs hI => ?_)
    have hI := hI.cast (fC_up (K := 51) (by decide))
    refine lv_goto (tgt := 14) hx hb dL_freshness_8 (by decide) ?_
    refine lv_iconst (v := 0) hx hb dL_freshness_14 (by decide) ?_
    exact e_int hC hI ⟨by rw [hk], rfl, _, fun _ => if_pos rfl, rfl⟩ (Nat.le_of_ble_eq_true rfl) (Nat.le_of_ble_eq_true rfl) dL_freshness_15
  · obtain ⟨hX, ha9, rfl⟩ := hX; obtain rfl := ha9.symm
    rcases hX with ⟨hk, rfl⟩
    · refine r_catch (pre := []) (suf := []) hC htab rfl (pass0) (by decide) (by decide) wd_cl_L_36 cIO h1 h2 h3 ?_
      refine lv_astore_n (lv' := [(3, .ref q), (0, .ref (ad 0 0)), (1, .int u9), (2, .ref (ad 51 0))]) hx hb dL_freshness_11 rfl hl (by decide) rfl (fun ls hl => ?_)
      refine lv_iconst (v := 1) hx hb dL_freshness_12 (by decide) ?_
      exact e_int hC hI ⟨by rw [hk], rfl, fo, fun z => absurd (hk.symm.trans z) (by decide), by rw [up2_same hout]⟩ (Nat.le_of_ble_eq_true rfl) (Nat.le_of_ble_eq_true rfl) dL_freshness_13
