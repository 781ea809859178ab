/-! THE COLD STORE: what its calls have in common -/
theorem nn_nI {v : Int32} (h : ¬ v < 0) : v = nI (cN v) ∧ cN v ≤ 2147483647 := by
  have h1 := Int32.le_iff_toInt_le.mp (Int32.not_lt.mp h)
  have h0 : (0 : Int32).toInt = 0 := rfl
  have h2 := v.toInt_lt
  exact rg_nI (n := 2147483647) ⟨by omega, by omega⟩ (by decide)
theorem opt_y {P : Prop} [Decidable P] {x q : Nat} (h : (if P then some x else none) = some q) : P ∧ q = x := by
  by_cases hP : P
  · rw [if_pos hP] at h
    exact ⟨hP, (Option.some.inj h).symm⟩
  · rw [if_neg hP] at h
    cases h
theorem opt_n {P : Prop} [Decidable P] {x : Nat} (h : (if P then some x else none) = none) : ¬ P := by
  intro hP
  rw [if_pos hP] at h
  cases h
abbrev inP (v n : Int32) : Prop := 0 ≤ v ∧ v ≤ n - 1
theorem no_in {v x : Int32} {n K : Nat} (hx : x = nI n) (hK : n ≤ K) (hK2 : K < 1000) (h : v < 0 ∨ nI K ≤ v ∨ (v = nI (cN v) ∧ ¬ cN v < n)) : ¬ inP v x := by
  intro z
  obtain ⟨i, hi, e⟩ := (in_cnt hx (by omega)).mp z
  subst e
  rcases h with h | h | h
  · exact absurd (nI_nn (show i < 2 ^ 31 by omega)) (Int32.not_le.mpr h)
  · have := (nI_leI (by omega) (by omega)).mp h
    omega
  · have := h.2
    rw [cN_nI (by omega)] at this
    exact this hi
theorem is_in {v x : Int32} {n : Nat} (hx : x = nI n) (hn : n < 1000) (h : v = nI (cN v)) (hl : cN v < n) : inP v x := (in_cnt hx (by omega)).mpr ⟨cN v, hl, h⟩

set_option maxHeartbeats 4000000 in
set_option maxRecDepth 100000 in
theorem tX6_requireWithin (l : Launch) (g : Gg) (B0 : Nat) (ad : Ad) (f : Wd) (v lo hi : Int32) : MM l g B0 yX6_requireWithin (wsM yX6_requireWithin cX6_requireWithin 3 none) ({ frames := 6, cells := 1, slots := 6, locals := 90 } : Room) [.int v, .int lo, .int hi] ad (f) (dVc (lo ≤ v ∧ v ≤ hi) ad f) (xE (fun E => E = nIA ∧ ¬ (lo ≤ v ∧ v ≤ hi)) ad f) 1 6 := by
  refine MM.start (by decide) (Nat.le_of_ble_eq_true rfl) ?_
  intro hl9 p e s m below meth c ls hC hno hI hl0
  have hx := hC.1.1
  have hb := hC.1.2.1
  have hts := hC.1.2.2.2.2
  have hl : lv_has ls 3 [(0, .int v), (1, .int lo), (2, .int hi)] := hl0
  obtain ⟨H, hH⟩ : ∃ H, H = s.heap := ⟨_, rfl⟩
  obtain ⟨locs, hLo⟩ : ∃ L : List Loc, L = [] := ⟨_, rfl⟩
  rw [← hH, ← hLo] at hI ⊢
  clear hH hLo hl0
  refine lv_iload_n hx hb dX6_requireWithin_0 rfl (lv_at hl 0 rfl) ?_
  refine lv_iload_n hx hb dX6_requireWithin_1 rfl (lv_at hl 1 rfl) ?_
  refine lv_icmp_lt (tgt := 10) hx hb dX6_requireWithin_2 (by decide) (fun c2 => ?_) (fun c2 => ?_)
  · exact r_throw (E := nIA) (by decide) xIA_t xIA_b xIA_o wd_cl_X6_175 wd_in_java_lang_IllegalArgumentException (List.mem_of_getElem? (i := 0) rfl) hl9 hno hC hC.2.2.2.2.2.1.2.1.1 hI hl.1 ⟨⟨rfl, fun z => absurd z.1 (Int32.not_le.mpr c2)⟩, rfl, rfl⟩ dX6_requireWithin_10 dX6_requireWithin_13 dX6_requireWithin_14 dX6_requireWithin_16 dX6_requireWithin_19 (Nat.le_of_ble_eq_true rfl) (Nat.le_of_ble_eq_true rfl) (Nat.le_of_ble_eq_true rfl) (Nat.le_of_ble_eq_true rfl) (Nat.le_of_ble_eq_true rfl) (Nat.le_of_ble_eq_true rfl)
  · refine lv_iload_n hx hb dX6_requireWithin_5 rfl (lv_at hl 0 rfl) ?_
    refine lv_iload_n hx hb dX6_requireWithin_6 rfl (lv_at hl 2 rfl) ?_
    refine lv_icmp_le (tgt := 20) hx hb dX6_requireWithin_7 (by decide) (fun c7 => ?_) (fun c7 => ?_)
    · exact e_void hC hI ⟨⟨Int32.not_lt.mp c2, c7⟩, rfl, rfl, rfl⟩ (Nat.le_of_ble_eq_true rfl) (Nat.le_of_ble_eq_true rfl) dX6_requireWithin_20
    · exact r_throw (E := nIA) (by decide) xIA_t xIA_b xIA_o wd_cl_X6_175 wd_in_java_lang_IllegalArgumentException (List.mem_of_getElem? (i := 0) rfl) hl9 hno hC hC.2.2.2.2.2.1.2.1.1 hI hl.1 ⟨⟨rfl, fun z => c7 z.2⟩, rfl, rfl⟩ dX6_requireWithin_10 dX6_requireWithin_13 dX6_requireWithin_14 dX6_requireWithin_16 dX6_requireWithin_19 (Nat.le_of_ble_eq_true rfl) (Nat.le_of_ble_eq_true rfl) (Nat.le_of_ble_eq_true rfl) (Nat.le_of_ble_eq_true rfl) (Nat.le_of_ble_eq_true rfl) (Nat.le_of_ble_eq_true rfl)
set_option maxHeartbeats 4000000 in
set_option maxRecDepth 100000 in
theorem tX6_requireFact (l : Launch) (g : Gg) (B0 : Nat) (ad : Ad) (f : Wd) (v n : Int32) : MM l g B0 yX6_requireFact (wsM yX6_requireFact cX6_requireFact 2 none) ({ frames := 6, cells := 1, slots := 6, locals := 90 } : Room) [.int v, .int n] ad (f) (dVc (0 ≤ v ∧ v < n) ad f) (xE (fun E => E = nIO ∧ ¬ (0 ≤ v ∧ v < n)) ad f) 1 6 := by
  refine MM.start (by decide) (Nat.le_of_ble_eq_true rfl) ?_
  intro hl9 p e s m below meth c ls hC hno hI hl0
  have hx := hC.1.1
  have hb := hC.1.2.1
  have hts := hC.1.2.2.2.2
  have hl : lv_has ls 2 [(0, .int v), (1, .int n)] := hl0
  obtain ⟨H, hH⟩ : ∃ H, H = s.heap := ⟨_, rfl⟩
  obtain ⟨locs, hLo⟩ : ∃ L : List Loc, L = [] := ⟨_, rfl⟩
  rw [← hH, ← hLo] at hI ⊢
  clear hH hLo hl0
  refine lv_iload_n hx hb dX6_requireFact_0 rfl (lv_at hl 0 rfl) ?_
  refine lv_if_lt (tgt := 9) hx hb dX6_requireFact_1 (by decide) (fun c1 => ?_) (fun c1 => ?_)
  · exact r_throw (E := nIO) (by decide) xIO_t xIO_b xIO_o wd_cl_X6_246 wd_in_java_lang_IndexOutOfBoundsException (List.mem_of_getElem? (i := 5) rfl) hl9 hno hC hC.2.2.2.2.2.1.2.1.2.2.1 hI hl.1 ⟨⟨rfl, fun z => absurd z.1 (Int32.not_le.mpr c1)⟩, rfl, rfl⟩ dX6_requireFact_9 dX6_requireFact_12 dX6_requireFact_13 dX6_requireFact_15 dX6_requireFact_18 (Nat.le_of_ble_eq_true rfl) (Nat.le_of_ble_eq_true rfl) (Nat.le_of_ble_eq_true rfl) (Nat.le_of_ble_eq_true rfl) (Nat.le_of_ble_eq_true rfl) (Nat.le_of_ble_eq_true rfl)
  · refine lv_iload_n hx hb dX6_requireFact_4 rfl (lv_at hl 0 rfl) ?_
    refine lv_iload_n hx hb dX6_requireFact_5 rfl (lv_at hl 1 rfl) ?_
    refine lv_icmp_lt (tgt := 19) hx hb dX6_requireFact_6 (by decide) (fun c6 => ?_) (fun c6 => ?_)
    · exact e_void hC hI ⟨⟨Int32.not_lt.mp c1, c6⟩, rfl, rfl, rfl⟩ (Nat.le_of_ble_eq_true rfl) (Nat.le_of_ble_eq_true rfl) dX6_requireFact_19
    · exact r_throw (E := nIO) (by decide) xIO_t xIO_b xIO_o wd_cl_X6_246 wd_in_java_lang_IndexOutOfBoundsException (List.mem_of_getElem? (i := 5) rfl) hl9 hno hC hC.2.2.2.2.2.1.2.1.2.2.1 hI hl.1 ⟨⟨rfl, fun z => c6 z.2⟩, rfl, rfl⟩ dX6_requireFact_9 dX6_requireFact_12 dX6_requireFact_13 dX6_requireFact_15 dX6_requireFact_18 (Nat.le_of_ble_eq_true rfl) (Nat.le_of_ble_eq_true rfl) (Nat.le_of_ble_eq_true rfl) (Nat.le_of_ble_eq_true rfl) (Nat.le_of_ble_eq_true rfl) (Nat.le_of_ble_eq_true rfl)
set_option maxHeartbeats 4000000 in
set_option maxRecDepth 100000 in
theorem tX6_existingProduct (l : Launch) (g : Gg) (B0 : Nat) (ad : Ad) (σ : Sg) (pd : Int64) (pl : Pl) (sc : Sg) (h : Wd) (v : Int32) (hok : OkP σ) : MM l g B0 yX6_existingProduct (wsM yX6_existingProduct cX6_existingProduct 3 (some (.object "ColdStore$Product"))) ({ frames := 6, cells := 1, slots := 6, locals := 90 } : Room) [.ref (ad 0 0), .int v] ad (fC g ad σ pd pl sc h) (fun x a w => inP v (σ 5 0) ∧ x = some (.ref (ad 7 (cN v))) ∧ a = ad ∧ w = fC g ad σ pd pl sc h) (xE (fun E => E = nIO ∧ ¬ inP v (σ 5 0)) ad (fC g ad σ pd pl sc h)) 1 6 := by
  refine MM.start (by decide) (Nat.le_of_ble_eq_true rfl) ?_
  intro hl9 p e s m below meth c ls hC hno hI hl0
  have hx := hC.1.1
  have hb := hC.1.2.1
  have hts := hC.1.2.2.2.2
  have hl : lv_has ls 3 [(0, .ref (ad 0 0)), (1, .int v)] := hl0
  obtain ⟨H, hH⟩ : ∃ H, H = s.heap := ⟨_, rfl⟩
  obtain ⟨locs, hLo⟩ : ∃ L : List Loc, L = [] := ⟨_, rfl⟩
  rw [← hH, ← hLo] at hI ⊢
  clear hH hLo hl0
  obtain ⟨h17, h60, h10, h6, h5, h12, hpr, hrm⟩ := id hok
  refine lv_iload_n hx hb dX6_existingProduct_0 rfl (lv_at hl 1 rfl) ?_
  refine lv_if_lt (tgt := 22) hx hb dX6_existingProduct_1 (by decide) (fun c1 => ?_) (fun c1 => ?_)
  · refine lv_null hx hb dX6_existingProduct_22 ?_
    refine lv_astore_nN (lv' := [(2, .null), (0, .ref (ad 0 0)), (1, .int v)]) hx hb dX6_existingProduct_23 rfl hl (by decide) rfl (fun ls hl => ?_)
    refine lv_aload_nN hx hb dX6_existingProduct_24 rfl (lv_at hl 0 rfl) ?_
    refine lv_ifnonnullN hx hb dX6_existingProduct_25 ?_
    exact r_throw (E := nIO) (by decide) xIO_t xIO_b xIO_o wd_cl_X6_246 wd_in_java_lang_IndexOutOfBoundsException (List.mem_of_getElem? (i := 6) rfl) hl9 hno hC hC.2.2.2.2.2.1.2.1.2.2.1 hI hl.1 ⟨⟨rfl, no_in h5 h12 (by decide) (Or.inl c1)⟩, rfl, rfl⟩ dX6_existingProduct_28 dX6_existingProduct_31 dX6_existingProduct_32 dX6_existingProduct_34 dX6_existingProduct_37 (Nat.le_of_ble_eq_true rfl) (Nat.le_of_ble_eq_true rfl) (Nat.le_of_ble_eq_true rfl) (Nat.le_of_ble_eq_true rfl) (Nat.le_of_ble_eq_true rfl) (Nat.le_of_ble_eq_true rfl)
  · refine lv_iload_n hx hb dX6_existingProduct_4 rfl (lv_at hl 1 rfl) ?_
    refine lv_aload_n hx hb dX6_existingProduct_5 rfl (lv_at hl 0 rfl) ?_
    refine gf_X6_25 hC hI fC_0 rfl dX6_existingProduct_6 ?_
    refine r_alen hC hI fC_4 3 rfl (v := 12) rfl dX6_existingProduct_9 ?_
    refine lv_icmp_ge (tgt := 22) hx hb dX6_existingProduct_10 (by decide) (fun c10 => ?_) (fun c10 => ?_)
    · refine lv_null hx hb dX6_existingProduct_22 ?_
      refine lv_astore_nN (lv' := [(2, .null), (0, .ref (ad 0 0)), (1, .int v)]) hx hb dX6_existingProduct_23 rfl hl (by decide) rfl (fun ls hl => ?_)
      refine lv_aload_nN hx hb dX6_existingProduct_24 rfl (lv_at hl 0 rfl) ?_
      refine lv_ifnonnullN hx hb dX6_existingProduct_25 ?_
      exact r_throw (E := nIO) (by decide) xIO_t xIO_b xIO_o wd_cl_X6_246 wd_in_java_lang_IndexOutOfBoundsException (List.mem_of_getElem? (i := 6) rfl) hl9 hno hC hC.2.2.2.2.2.1.2.1.2.2.1 hI hl.1 ⟨⟨rfl, no_in h5 h12 (by decide) (Or.inr (Or.inl c10))⟩, rfl, rfl⟩ dX6_existingProduct_28 dX6_existingProduct_31 dX6_existingProduct_32 dX6_existingProduct_34 dX6_existingProduct_37 (Nat.le_of_ble_eq_true rfl) (Nat.le_of_ble_eq_true rfl) (Nat.le_of_ble_eq_true rfl) (Nat.le_of_ble_eq_true rfl) (Nat.le_of_ble_eq_true rfl) (Nat.le_of_ble_eq_true rfl)
    · obtain ⟨hv, hv2⟩ := nn_nI c1
      have hv3 : cN v < 12 := by
        rw [hv] at c10
        exact Nat.lt_of_not_le (fun z => c10 ((nI_leI (a := 12) (by decide) (by omega)).mpr z))
      refine lv_aload_n hx hb dX6_existingProduct_13 rfl (lv_at hl 0 rfl) ?_
      refine gf_X6_25 hC hI fC_0 rfl dX6_existingProduct_14 ?_
      refine lv_iload_n hx hb dX6_existingProduct_17 rfl (lv_at hl 1 rfl) ?_
      refine r_aald hC hI fC_4 3 rfl (j := (cN v)) hv hv3 (by decide) dX6_existingProduct_18 ?_
      refine lv_topo (fun e18 => ?_) (fun q18 e18 => ?_)
      · have hlt := opt_n e18
        refine lv_goto (tgt := 23) hx hb dX6_existingProduct_19 (by decide) ?_
        refine lv_astore_nN (lv' := [(2, .null), (0, .ref (ad 0 0)), (1, .int v)]) hx hb dX6_existingProduct_23 rfl hl (by decide) rfl (fun ls hl => ?_)
        refine lv_aload_nN hx hb dX6_existingProduct_24 rfl (lv_at hl 0 rfl) ?_
        refine lv_ifnonnullN hx hb dX6_existingProduct_25 ?_
        exact r_throw (E := nIO) (by decide) xIO_t xIO_b xIO_o wd_cl_X6_246 wd_in_java_lang_IndexOutOfBoundsException (List.mem_of_getElem? (i := 6) rfl) hl9 hno hC hC.2.2.2.2.2.1.2.1.2.2.1 hI hl.1 ⟨⟨rfl, no_in h5 h12 (by decide) (Or.inr (Or.inr ⟨hv, hlt⟩))⟩, rfl, rfl⟩ dX6_existingProduct_28 dX6_existingProduct_31 dX6_existingProduct_32 dX6_existingProduct_34 dX6_existingProduct_37 (Nat.le_of_ble_eq_true rfl) (Nat.le_of_ble_eq_true rfl) (Nat.le_of_ble_eq_true rfl) (Nat.le_of_ble_eq_true rfl) (Nat.le_of_ble_eq_true rfl) (Nat.le_of_ble_eq_true rfl)
      · obtain ⟨hlt, rfl⟩ := opt_y e18
        refine lv_goto (tgt := 23) hx hb dX6_existingProduct_19 (by decide) ?_
        refine lv_astore_n (lv' := [(2, .ref (ad 7 (cN v))), (0, .ref (ad 0 0)), (1, .int v)]) hx hb dX6_existingProduct_23 rfl hl (by decide) rfl (fun ls hl => ?_)
        refine lv_aload_n hx hb dX6_existingProduct_24 rfl (lv_at hl 0 rfl) ?_
        refine lv_ifnonnull (tgt := 38) hx hb dX6_existingProduct_25 (by decide) ?_
        refine lv_aload_n hx hb dX6_existingProduct_38 rfl (lv_at hl 0 rfl) ?_
        exact e_ref hC (Or.inl ⟨_, rfl⟩) hI (Or.inr ⟨_, rfl⟩) ⟨is_in h5 (by omega) hv hlt, rfl, rfl, rfl⟩ (Nat.le_of_ble_eq_true rfl) (Nat.le_of_ble_eq_true rfl) dX6_existingProduct_39
set_option maxHeartbeats 4000000 in
set_option maxRecDepth 100000 in
theorem tX6_existingRoom (l : Launch) (g : Gg) (B0 : Nat) (ad : Ad) (σ : Sg) (pd : Int64) (pl : Pl) (sc : Sg) (h : Wd) (v : Int32) (hok : OkP σ) : MM l g B0 yX6_existingRoom (wsM yX6_existingRoom cX6_existingRoom 3 (some (.object "ColdStore$Room"))) ({ frames := 6, cells := 1, slots := 6, locals := 90 } : Room) [.ref (ad 0 0), .int v] ad (fC g ad σ pd pl sc h) (fun x a w => inP v (σ 10 0) ∧ x = some (.ref (ad 8 (cN v))) ∧ a = ad ∧ w = fC g ad σ pd pl sc h) (xE (fun E => E = nIO ∧ ¬ inP v (σ 10 0)) ad (fC g ad σ pd pl sc h)) 1 6 := by
  refine MM.start (by decide) (Nat.le_of_ble_eq_true rfl) ?_
  intro hl9 p e s m below meth c ls hC hno hI hl0
  have hx := hC.1.1
  have hb := hC.1.2.1
  have hts := hC.1.2.2.2.2
  have hl : lv_has ls 3 [(0, .ref (ad 0 0)), (1, .int v)] := hl0
  obtain ⟨H, hH⟩ : ∃ H, H = s.heap := ⟨_, rfl⟩
  obtain ⟨locs, hLo⟩ : ∃ L : List Loc, L = [] := ⟨_, rfl⟩
  rw [← hH, ← hLo] at hI ⊢
  clear hH hLo hl0
  obtain ⟨h17, h60, h10, h6, h5, h12, hpr, hrm⟩ := id hok
  refine lv_iload_n hx hb dX6_existingRoom_0 rfl (lv_at hl 1 rfl) ?_
  refine lv_if_lt (tgt := 22) hx hb dX6_existingRoom_1 (by decide) (fun c1 => ?_) (fun c1 => ?_)
  · refine lv_null hx hb dX6_existingRoom_22 ?_
    refine lv_astore_nN (lv' := [(2, .null), (0, .ref (ad 0 0)), (1, .int v)]) hx hb dX6_existingRoom_23 rfl hl (by decide) rfl (fun ls hl => ?_)
    refine lv_aload_nN hx hb dX6_existingRoom_24 rfl (lv_at hl 0 rfl) ?_
    refine lv_ifnonnullN hx hb dX6_existingRoom_25 ?_
    exact r_throw (E := nIO) (by decide) xIO_t xIO_b xIO_o wd_cl_X6_246 wd_in_java_lang_IndexOutOfBoundsException (List.mem_of_getElem? (i := 3) rfl) hl9 hno hC hC.2.2.2.2.2.1.2.1.2.2.1 hI hl.1 ⟨⟨rfl, no_in h10 h6 (by decide) (Or.inl c1)⟩, rfl, rfl⟩ dX6_existingRoom_28 dX6_existingRoom_31 dX6_existingRoom_32 dX6_existingRoom_34 dX6_existingRoom_37 (Nat.le_of_ble_eq_true rfl) (Nat.le_of_ble_eq_true rfl) (Nat.le_of_ble_eq_true rfl) (Nat.le_of_ble_eq_true rfl) (Nat.le_of_ble_eq_true rfl) (Nat.le_of_ble_eq_true rfl)
  · refine lv_iload_n hx hb dX6_existingRoom_4 rfl (lv_at hl 1 rfl) ?_
    refine lv_aload_n hx hb dX6_existingRoom_5 rfl (lv_at hl 0 rfl) ?_
    refine gf_X6_31 hC hI fC_0 rfl dX6_existingRoom_6 ?_
    refine r_alen hC hI fC_5 4 rfl (v := 6) rfl dX6_existingRoom_9 ?_
    refine lv_icmp_ge (tgt := 22) hx hb dX6_existingRoom_10 (by decide) (fun c10 => ?_) (fun c10 => ?_)
    · refine lv_null hx hb dX6_existingRoom_22 ?_
      refine lv_astore_nN (lv' := [(2, .null), (0, .ref (ad 0 0)), (1, .int v)]) hx hb dX6_existingRoom_23 rfl hl (by decide) rfl (fun ls hl => ?_)
      refine lv_aload_nN hx hb dX6_existingRoom_24 rfl (lv_at hl 0 rfl) ?_
      refine lv_ifnonnullN hx hb dX6_existingRoom_25 ?_
      exact r_throw (E := nIO) (by decide) xIO_t xIO_b xIO_o wd_cl_X6_246 wd_in_java_lang_IndexOutOfBoundsException (List.mem_of_getElem? (i := 3) rfl) hl9 hno hC hC.2.2.2.2.2.1.2.1.2.2.1 hI hl.1 ⟨⟨rfl, no_in h10 h6 (by decide) (Or.inr (Or.inl c10))⟩, rfl, rfl⟩ dX6_existingRoom_28 dX6_existingRoom_31 dX6_existingRoom_32 dX6_existingRoom_34 dX6_existingRoom_37 (Nat.le_of_ble_eq_true rfl) (Nat.le_of_ble_eq_true rfl) (Nat.le_of_ble_eq_true rfl) (Nat.le_of_ble_eq_true rfl) (Nat.le_of_ble_eq_true rfl) (Nat.le_of_ble_eq_true rfl)
    · obtain ⟨hv, hv2⟩ := nn_nI c1
      have hv3 : cN v < 6 := by
        rw [hv] at c10
        exact Nat.lt_of_not_le (fun z => c10 ((nI_leI (a := 6) (by decide) (by omega)).mpr z))
      refine lv_aload_n hx hb dX6_existingRoom_13 rfl (lv_at hl 0 rfl) ?_
      refine gf_X6_31 hC hI fC_0 rfl dX6_existingRoom_14 ?_
      refine lv_iload_n hx hb dX6_existingRoom_17 rfl (lv_at hl 1 rfl) ?_
      refine r_aald hC hI fC_5 4 rfl (j := (cN v)) hv hv3 (by decide) dX6_existingRoom_18 ?_
      refine lv_topo (fun e18 => ?_) (fun q18 e18 => ?_)
      · have hlt := opt_n e18
        refine lv_goto (tgt := 23) hx hb dX6_existingRoom_19 (by decide) ?_
        refine lv_astore_nN (lv' := [(2, .null), (0, .ref (ad 0 0)), (1, .int v)]) hx hb dX6_existingRoom_23 rfl hl (by decide) rfl (fun ls hl => ?_)
        refine lv_aload_nN hx hb dX6_existingRoom_24 rfl (lv_at hl 0 rfl) ?_
        refine lv_ifnonnullN hx hb dX6_existingRoom_25 ?_
        exact r_throw (E := nIO) (by decide) xIO_t xIO_b xIO_o wd_cl_X6_246 wd_in_java_lang_IndexOutOfBoundsException (List.mem_of_getElem? (i := 3) rfl) hl9 hno hC hC.2.2.2.2.2.1.2.1.2.2.1 hI hl.1 ⟨⟨rfl, no_in h10 h6 (by decide) (Or.inr (Or.inr ⟨hv, hlt⟩))⟩, rfl, rfl⟩ dX6_existingRoom_28 dX6_existingRoom_31 dX6_existingRoom_32 dX6_existingRoom_34 dX6_existingRoom_37 (Nat.le_of_ble_eq_true rfl) (Nat.le_of_ble_eq_true rfl) (Nat.le_of_ble_eq_true rfl) (Nat.le_of_ble_eq_true rfl) (Nat.le_of_ble_eq_true rfl) (Nat.le_of_ble_eq_true rfl)
      · obtain ⟨hlt, rfl⟩ := opt_y e18
        refine lv_goto (tgt := 23) hx hb dX6_existingRoom_19 (by decide) ?_
        refine lv_astore_n (lv' := [(2, .ref (ad 8 (cN v))), (0, .ref (ad 0 0)), (1, .int v)]) hx hb dX6_existingRoom_23 rfl hl (by decide) rfl (fun ls hl => ?_)
        refine lv_aload_n hx hb dX6_existingRoom_24 rfl (lv_at hl 0 rfl) ?_
        refine lv_ifnonnull (tgt := 38) hx hb dX6_existingRoom_25 (by decide) ?_
        refine lv_aload_n hx hb dX6_existingRoom_38 rfl (lv_at hl 0 rfl) ?_
        exact e_ref hC (Or.inl ⟨_, rfl⟩) hI (Or.inr ⟨_, rfl⟩) ⟨is_in h10 (by omega) hv hlt, rfl, rfl, rfl⟩ (Nat.le_of_ble_eq_true rfl) (Nat.le_of_ble_eq_true rfl) dX6_existingRoom_39
set_option maxHeartbeats 4000000 in
set_option maxRecDepth 100000 in
theorem tX6_existingPallet (l : Launch) (g : Gg) (B0 : Nat) (ad : Ad) (σ : Sg) (pd : Int64) (pl : Pl) (sc : Sg) (h : Wd) (v : Int32) (hok : OkP σ) : MM l g B0 yX6_existingPallet (wsM yX6_existingPallet cX6_existingPallet 3 (some (.object "ColdStore$Pallet"))) ({ frames := 6, cells := 1, slots := 6, locals := 90 } : Room) [.ref (ad 0 0), .int v] ad (fC g ad σ pd pl sc h) (fun x a w => inP v (σ 17 0) ∧ x = some (.ref (ad 12 (cN v))) ∧ a = ad ∧ w = fC g ad σ pd pl sc h) (xE (fun E => E = nIO ∧ ¬ inP v (σ 17 0)) ad (fC g ad σ pd pl sc h)) 1 6 := by
  refine MM.start (by decide) (Nat.le_of_ble_eq_true rfl) ?_
  intro hl9 p e s m below meth c ls hC hno hI hl0
  have hx := hC.1.1
  have hb := hC.1.2.1
  have hts := hC.1.2.2.2.2
  have hl : lv_has ls 3 [(0, .ref (ad 0 0)), (1, .int v)] := hl0
  obtain ⟨H, hH⟩ : ∃ H, H = s.heap := ⟨_, rfl⟩
  obtain ⟨locs, hLo⟩ : ∃ L : List Loc, L = [] := ⟨_, rfl⟩
  rw [← hH, ← hLo] at hI ⊢
  clear hH hLo hl0
  obtain ⟨h17, h60, h10, h6, h5, h12, hpr, hrm⟩ := id hok
  refine lv_iload_n hx hb dX6_existingPallet_0 rfl (lv_at hl 1 rfl) ?_
  refine lv_if_lt (tgt := 22) hx hb dX6_existingPallet_1 (by decide) (fun c1 => ?_) (fun c1 => ?_)
  · refine lv_null hx hb dX6_existingPallet_22 ?_
    refine lv_astore_nN (lv' := [(2, .null), (0, .ref (ad 0 0)), (1, .int v)]) hx hb dX6_existingPallet_23 rfl hl (by decide) rfl (fun ls hl => ?_)
    refine lv_aload_nN hx hb dX6_existingPallet_24 rfl (lv_at hl 0 rfl) ?_
    refine lv_ifnonnullN hx hb dX6_existingPallet_25 ?_
    exact r_throw (E := nIO) (by decide) xIO_t xIO_b xIO_o wd_cl_X6_246 wd_in_java_lang_IndexOutOfBoundsException (List.mem_of_getElem? (i := 8) rfl) hl9 hno hC hC.2.2.2.2.2.1.2.1.2.2.1 hI hl.1 ⟨⟨rfl, no_in h17 h60 (by decide) (Or.inl c1)⟩, rfl, rfl⟩ dX6_existingPallet_28 dX6_existingPallet_31 dX6_existingPallet_32 dX6_existingPallet_34 dX6_existingPallet_37 (Nat.le_of_ble_eq_true rfl) (Nat.le_of_ble_eq_true rfl) (Nat.le_of_ble_eq_true rfl) (Nat.le_of_ble_eq_true rfl) (Nat.le_of_ble_eq_true rfl) (Nat.le_of_ble_eq_true rfl)
  · refine lv_iload_n hx hb dX6_existingPallet_4 rfl (lv_at hl 1 rfl) ?_
    refine lv_aload_n hx hb dX6_existingPallet_5 rfl (lv_at hl 0 rfl) ?_
    refine gf_X6_37 hC hI fC_0 rfl dX6_existingPallet_6 ?_
    refine r_alen hC hI fC_6 2 rfl (v := 60) rfl dX6_existingPallet_9 ?_
    refine lv_icmp_ge (tgt := 22) hx hb dX6_existingPallet_10 (by decide) (fun c10 => ?_) (fun c10 => ?_)
    · refine lv_null hx hb dX6_existingPallet_22 ?_
      refine lv_astore_nN (lv' := [(2, .null), (0, .ref (ad 0 0)), (1, .int v)]) hx hb dX6_existingPallet_23 rfl hl (by decide) rfl (fun ls hl => ?_)
      refine lv_aload_nN hx hb dX6_existingPallet_24 rfl (lv_at hl 0 rfl) ?_
      refine lv_ifnonnullN hx hb dX6_existingPallet_25 ?_
      exact r_throw (E := nIO) (by decide) xIO_t xIO_b xIO_o wd_cl_X6_246 wd_in_java_lang_IndexOutOfBoundsException (List.mem_of_getElem? (i := 8) rfl) hl9 hno hC hC.2.2.2.2.2.1.2.1.2.2.1 hI hl.1 ⟨⟨rfl, no_in h17 h60 (by decide) (Or.inr (Or.inl c10))⟩, rfl, rfl⟩ dX6_existingPallet_28 dX6_existingPallet_31 dX6_existingPallet_32 dX6_existingPallet_34 dX6_existingPallet_37 (Nat.le_of_ble_eq_true rfl) (Nat.le_of_ble_eq_true rfl) (Nat.le_of_ble_eq_true rfl) (Nat.le_of_ble_eq_true rfl) (Nat.le_of_ble_eq_true rfl) (Nat.le_of_ble_eq_true rfl)
    · obtain ⟨hv, hv2⟩ := nn_nI c1
      have hv3 : cN v < 60 := by
        rw [hv] at c10
        exact Nat.lt_of_not_le (fun z => c10 ((nI_leI (a := 60) (by decide) (by omega)).mpr z))
      refine lv_aload_n hx hb dX6_existingPallet_13 rfl (lv_at hl 0 rfl) ?_
      refine gf_X6_37 hC hI fC_0 rfl dX6_existingPallet_14 ?_
      refine lv_iload_n hx hb dX6_existingPallet_17 rfl (lv_at hl 1 rfl) ?_
      refine r_aald hC hI fC_6 2 rfl (j := (cN v)) hv hv3 (by decide) dX6_existingPallet_18 ?_
      refine lv_topo (fun e18 => ?_) (fun q18 e18 => ?_)
      · have hlt := opt_n e18
        refine lv_goto (tgt := 23) hx hb dX6_existingPallet_19 (by decide) ?_
        refine lv_astore_nN (lv' := [(2, .null), (0, .ref (ad 0 0)), (1, .int v)]) hx hb dX6_existingPallet_23 rfl hl (by decide) rfl (fun ls hl => ?_)
        refine lv_aload_nN hx hb dX6_existingPallet_24 rfl (lv_at hl 0 rfl) ?_
        refine lv_ifnonnullN hx hb dX6_existingPallet_25 ?_
        exact r_throw (E := nIO) (by decide) xIO_t xIO_b xIO_o wd_cl_X6_246 wd_in_java_lang_IndexOutOfBoundsException (List.mem_of_getElem? (i := 8) rfl) hl9 hno hC hC.2.2.2.2.2.1.2.1.2.2.1 hI hl.1 ⟨⟨rfl, no_in h17 h60 (by decide) (Or.inr (Or.inr ⟨hv, hlt⟩))⟩, rfl, rfl⟩ dX6_existingPallet_28 dX6_existingPallet_31 dX6_existingPallet_32 dX6_existingPallet_34 dX6_existingPallet_37 (Nat.le_of_ble_eq_true rfl) (Nat.le_of_ble_eq_true rfl) (Nat.le_of_ble_eq_true rfl) (Nat.le_of_ble_eq_true rfl) (Nat.le_of_ble_eq_true rfl) (Nat.le_of_ble_eq_true rfl)
      · obtain ⟨hlt, rfl⟩ := opt_y e18
        refine lv_goto (tgt := 23) hx hb dX6_existingPallet_19 (by decide) ?_
        refine lv_astore_n (lv' := [(2, .ref (ad 12 (cN v))), (0, .ref (ad 0 0)), (1, .int v)]) hx hb dX6_existingPallet_23 rfl hl (by decide) rfl (fun ls hl => ?_)
        refine lv_aload_n hx hb dX6_existingPallet_24 rfl (lv_at hl 0 rfl) ?_
        refine lv_ifnonnull (tgt := 38) hx hb dX6_existingPallet_25 (by decide) ?_
        refine lv_aload_n hx hb dX6_existingPallet_38 rfl (lv_at hl 0 rfl) ?_
        exact e_ref hC (Or.inl ⟨_, rfl⟩) hI (Or.inr ⟨_, rfl⟩) ⟨is_in h17 (by omega) hv hlt, rfl, rfl, rfl⟩ (Nat.le_of_ble_eq_true rfl) (Nat.le_of_ble_eq_true rfl) dX6_existingPallet_39
