/-! THE CLASS'S ROOM, what it tells -/
abbrev rg (x : Int32) (a b : Int) : Prop := a ≤ x.toInt ∧ x.toInt ≤ b
/-- what is in range for good -/
def Rg (σ : Sg) : Prop := (∀ a, a < np σ → rg (σ 9 a) 0 3 ∧ rg (σ 6 a) (-300) 200 ∧ rg (σ 7 a) (-300) 200 ∧ (σ 6 a).toInt ≤ (σ 7 a).toInt ∧ rg (σ 8 a) 10 5000) ∧ (∀ r, r < nr σ → rg (σ 11 r) 1 20 ∧ rg (σ 12 r) 1 20 ∧ rg (σ 13 r) 0 200 ∧ rg (σ 14 r) (-300) 150 ∧ (σ 15 r = 0 ∨ σ 15 r = 1) ∧ rg (σ 16 (6 * r + 1)) 0 90) ∧ rg (σ 2 0) (-300) 400 ∧ rg (σ 3 0) 0 200 ∧ ∀ j, j < 24 → rg (σ 4 j) 1 100
theorem rg_nI {x : Int32} {n : Nat} (h : rg x 0 n) (hn : n < 2 ^ 31) : x = nI (cN x) ∧ cN x ≤ n := by
  have e : x = nI x.toInt.toNat := Int32.toInt_inj.mp (by rw [nI_toInt (by omega)]; omega)
  have e2 : cN x = x.toInt.toNat := by
    conv => lhs; rw [e]
    exact cN_nI (by omega)
  rw [e2]
  exact ⟨e, by omega⟩
theorem Rg.pl {σ : Sg} (h : Rg σ) {r : Nat} (hr : r < nr σ) : σ 11 r = nI (cN (σ 11 r)) ∧ cN (σ 11 r) ≤ 20 := by
  have h1 := (h.2.1 r hr).1
  exact rg_nI (n := 20) ⟨by omega, h1.2⟩ (by decide)
theorem rg_4 {x : Int32} (h : rg x 0 3) : x = 0 ∨ x = 1 ∨ x = 2 ∨ x = 3 := by
  have e : x.toInt = 0 ∨ x.toInt = 1 ∨ x.toInt = 2 ∨ x.toInt = 3 := by omega
  rcases e with e | e | e | e
  · exact Or.inl (Int32.toInt_inj.mp (e.trans (by decide)))
  · exact Or.inr (Or.inl (Int32.toInt_inj.mp (e.trans (by decide))))
  · exact Or.inr (Or.inr (Or.inl (Int32.toInt_inj.mp (e.trans (by decide)))))
  · exact Or.inr (Or.inr (Or.inr (Int32.toInt_inj.mp (e.trans (by decide)))))
theorem sm_gw {x y : Int32} (hx : rg x 0 3) (hy : rg y 0 3) : (¬ x = 3 ∧ ¬ y = 3 ∧ ¬ x + y = 3) ↔ (¬ y = 3 ∧ ¬ x = 3 ∧ ¬ disP y x ∧ ¬ disP x y) := by
  rcases rg_4 hx with rfl | rfl | rfl | rfl <;> rcases rg_4 hy with rfl | rfl | rfl | rfl <;> decide
theorem go_gw {σ : Sg} (hR : Rg σ) {a b : Nat} (ha : a < np σ) (hb : b < np σ) (h12 : np σ ≤ 12) : goS σ a b ↔ gwP (nI b) (nI a) (σ 9 b) (σ 9 a) := by
  unfold goS gwP
  rw [nI_eq (show b < 2 ^ 31 by omega) (show a < 2 ^ 31 by omega), sm_gw (hR.1 a ha).1 (hR.1 b hb).1]
  exact or_congr_left eq_comm
theorem reason_T {σ : Sg} {pl : Pl} (hP : PlOk σ pl) (hR : Rg σ) {a r j q : Nat} (hr : r < nr σ) (hj : j < cN (σ 11 r)) (hp : pl r j = some q) (ha : a < np σ) (h12 : np σ ≤ 12) (hq : prd σ q < np σ) (hf : ¬ freeS σ r = 0) (hn : ¬ gwP (nI (prd σ q)) (nI a) (σ 9 (prd σ q)) (σ 9 a)) : reasonS σ a r = 2 := by
  unfold reasonS
  rw [if_neg hf, if_pos]
  exact (reasAt_iff σ a r _).mpr ⟨q, (hP.on r j q hr hj hp).1, (hP.on r j q hr hj hp).2, fun z => hn ((go_gw hR ha hq h12).mp z)⟩
theorem reason_F {σ : Sg} {pl : Pl} (hP : PlOk σ pl) (hR : Rg σ) {a r : Nat} (hr : r < nr σ) (hr6 : r < 6) (ha : a < np σ) (h12 : np σ ≤ 12) (hpr : ∀ q, q < nt σ → prd σ q < np σ) (hf : ¬ freeS σ r = 0) (hn : ∀ j q, j < cN (σ 11 r) → pl r j = some q → gwP (nI (prd σ q)) (nI a) (σ 9 (prd σ q)) (σ 9 a)) : reasonS σ a r = 0 := by
  unfold reasonS
  rw [if_neg hf, if_neg]
  intro z
  obtain ⟨q, h1, h2, h3⟩ := (reasAt_iff σ a r _).mp z
  obtain ⟨j, hj, hp⟩ := hP.at hr6 h1 h2
  exact h3 ((go_gw hR ha (hpr q h1) h12).mpr (hn j q hj hp))

set_option maxHeartbeats 4000000 in
set_option maxRecDepth 100000 in
theorem tX4_freePlaces (l : Launch) (g : Gg) (B0 : Nat) (ad : Ad) (σ : Sg) (pd : Int64) (pl : Pl) (sc : Sg) (h : Wd) (r : Nat) (hr : r < nr σ) (h20 : cN (σ 11 r) ≤ 20) : MM l g B0 yX4_freePlaces (wsM yX4_freePlaces cX4_freePlaces 6 (some .int)) ({ frames := 0, cells := 0, slots := 0, locals := 0 } : Room) [.ref (ad 8 r)] ad (fC g ad σ pd pl sc h) (dI (fpC pl r (cN (σ 11 r))) ad (fC g ad σ pd pl sc h)) (noX) 0 0 := by
  refine MM.start (by decide) (Nat.le_of_ble_eq_true rfl) ?_
  intro hl9 p e s m below meth c ls hC hno hI hl0
  have hx := hC.1.1
  have hb := hC.1.2.1
  have hts := hC.1.2.2.2.2
  have hl : lv_has ls 6 [(0, .ref (ad 8 r))] := hl0
  obtain ⟨H, hH⟩ : ∃ H, H = s.heap := ⟨_, rfl⟩
  obtain ⟨locs, hLo⟩ : ∃ L : List Loc, L = [] := ⟨_, rfl⟩
  rw [← hH, ← hLo] at hI ⊢
  clear hH hLo hl0
  refine lv_iconst (v := 0) hx hb dX4_freePlaces_0 (by decide) ?_
  refine lv_istore_n (lv' := [(1, .int (fpC pl r 0)), (0, .ref (ad 8 r))]) hx hb dX4_freePlaces_1 rfl hl (by decide) rfl (fun ls hl => ?_)
  refine lv_aload_n hx hb dX4_freePlaces_2 rfl (lv_at hl 1 rfl) ?_
  refine gf_X4_31 hC hI (fC_8 hr) rfl dX4_freePlaces_3 ?_
  refine lv_astore_n (lv' := [(2, .ref (ad 11 r)), (1, .int (fpC pl r 0)), (0, .ref (ad 8 r))]) hx hb dX4_freePlaces_6 rfl hl (by decide) rfl (fun ls hl => ?_)
  refine lv_aload_n hx hb dX4_freePlaces_7 rfl (lv_at hl 0 rfl) ?_
  refine r_alen hC hI (fC_11 hr) 2 rfl (v := nI (cN (σ 11 r))) rfl dX4_freePlaces_8 ?_
  refine lv_istore_n (lv' := [(3, .int (nI (cN (σ 11 r)))), (2, .ref (ad 11 r)), (1, .int (fpC pl r 0)), (0, .ref (ad 8 r))]) hx hb dX4_freePlaces_9 rfl hl (by decide) rfl (fun ls hl => ?_)
  refine lv_iconst (v := 0) hx hb dX4_freePlaces_10 (by decide) ?_
  refine lv_istore (lv' := [(4, .int (nI 0)), (3, .int (nI (cN (σ 11 r)))), (2, .ref (ad 11 r)), (1, .int (fpC pl r 0)), (0, .ref (ad 8 r))]) hx hb dX4_freePlaces_11 hl (by decide) rfl (fun ls hl => ?_)
  have L13 : ∀ (n : Nat) (k : Nat), k ≤ cN (σ 11 r) → cN (σ 11 r) + 1 ≤ k + n → ∀ (H : Heap) (locs : List Loc), WI g ad B0 (fC g ad σ pd pl sc h) s H locs → ∀ (ls : Array Slot), lv_has ls 6 [(4, .int (nI k)), (3, .int (nI (cN (σ 11 r)))), (2, .ref (ad 11 r)), (1, .int (fpC pl r k)), (0, .ref (ad 8 r))] → W p l e ({ frames := 0, cells := 0, slots := 0, locals := 0 } : Room) s m ([.ref (ad 8 r)] : List Value).toArray below meth c H locs 0 0 (vx_MQ below (QI g B0 (dI (fpC pl r (cN (σ 11 r))) ad (fC g ad σ pd pl sc h))) (XI g B0 (noX)) ([.ref (ad 8 r)] : List Value).toArray s 0 0 (fun q => B0 ≤ q)) (F0 m 13 ls []) := by
    intro n
    induction n with
    | zero =>
      intro k hk hfu
      exact absurd hfu (by omega)
    | succ n ih13 =>
      intro k hk hfu H locs hI ls hl
      refine lv_iload hx hb dX4_freePlaces_13 (lv_at hl 0 rfl) ?_
      refine lv_iload_n hx hb dX4_freePlaces_15 rfl (lv_at hl 1 rfl) ?_
      refine lv_icmp_ge (tgt := 39) hx hb dX4_freePlaces_16 (by decide) (fun c16 => ?_) (fun c16 => ?_)
      · have hk2 : cN (σ 11 r) ≤ k := ge_T rfl (by omega) (by omega) c16
        refine lv_iload_n hx hb dX4_freePlaces_39 rfl (lv_at hl 3 rfl) ?_
        exact e_int hC hI (rI (by rw [show k = cN (σ 11 r) by omega])) (Nat.le_of_ble_eq_true rfl) (Nat.le_of_ble_eq_true rfl) dX4_freePlaces_40
      · have hk2 : k < cN (σ 11 r) := ge_F rfl (by omega) (by omega) c16
        refine lv_aload_n hx hb dX4_freePlaces_19 rfl (lv_at hl 2 rfl) ?_
        refine lv_iload hx hb dX4_freePlaces_20 (lv_at hl 0 rfl) ?_
        refine r_aald hC hI (fC_11 hr) 2 rfl (j := k) rfl hk2 (by omega) dX4_freePlaces_22 ?_
        refine lv_topo (fun e22 => ?_) (fun q22 e22 => ?_)
        · have hp := Option.map_eq_none_iff.mp e22
          refine lv_astoreN (lv' := [(5, .null), (4, .int (nI k)), (3, .int (nI (cN (σ 11 r)))), (2, .ref (ad 11 r)), (1, .int (fpC pl r k)), (0, .ref (ad 8 r))]) hx hb dX4_freePlaces_23 hl (by decide) rfl (fun ls hl => ?_)
          refine lv_aloadN hx hb dX4_freePlaces_25 (lv_at hl 0 rfl) ?_
          refine lv_ifnonnullN hx hb dX4_freePlaces_27 ?_
          refine lv_iinc (v := fpC pl r (k + 1)) (lv' := [(1, .int (fpC pl r (k + 1))), (5, .null), (4, .int (nI k)), (3, .int (nI (cN (σ 11 r)))), (2, .ref (ad 11 r)), (0, .ref (ad 8 r))]) hx hb dX4_freePlaces_30 hl (k := 4) rfl (fpC_N hp).symm (by decide) rfl (fun ls hl => ?_)
          refine lv_iinc (v := nI (k + 1)) (lv' := [(4, .int (nI (k + 1))), (1, .int (fpC pl r (k + 1))), (5, .null), (3, .int (nI (cN (σ 11 r)))), (2, .ref (ad 11 r)), (0, .ref (ad 8 r))]) hx hb dX4_freePlaces_33 hl (k := 2) rfl (nI_1 _) (by decide) rfl (fun ls hl => ?_)
          refine lv_goto (tgt := 13) hx hb dX4_freePlaces_36 (by decide) ?_
          exact ih13 (k + 1) (by omega) (by omega) _ _ hI ls (lv_sub hl [0, 3, 4, 1, 5] rfl)
        · obtain ⟨q0, hp, rfl⟩ := Option.map_eq_some_iff.mp e22
          have hl : lv_has ls 6 [(4, .int (nI k)), (3, .int (nI (cN (σ 11 r)))), (2, .ref (ad 11 r)), (1, .int (fpC pl r (k + 1))), (0, .ref (ad 8 r))] := by rw [show fpC pl r (k + 1) = fpC pl r k from (fpC_S hp)]; exact hl
          refine lv_astore (lv' := [(5, .ref (ad 12 q0)), (4, .int (nI k)), (3, .int (nI (cN (σ 11 r)))), (2, .ref (ad 11 r)), (1, .int (fpC pl r (k + 1))), (0, .ref (ad 8 r))]) hx hb dX4_freePlaces_23 hl (by decide) rfl (fun ls hl => ?_)
          refine lv_aload hx hb dX4_freePlaces_25 (lv_at hl 0 rfl) ?_
          refine lv_ifnonnull (tgt := 33) hx hb dX4_freePlaces_27 (by decide) ?_
          refine lv_iinc (v := nI (k + 1)) (lv' := [(4, .int (nI (k + 1))), (5, .ref (ad 12 q0)), (3, .int (nI (cN (σ 11 r)))), (2, .ref (ad 11 r)), (1, .int (fpC pl r (k + 1))), (0, .ref (ad 8 r))]) hx hb dX4_freePlaces_33 hl (k := 1) rfl (nI_1 _) (by decide) rfl (fun ls hl => ?_)
          refine lv_goto (tgt := 13) hx hb dX4_freePlaces_36 (by decide) ?_
          exact ih13 (k + 1) (by omega) (by omega) _ _ hI ls (lv_sub hl [0, 2, 3, 4, 5] rfl)
  exact L13 (cN (σ 11 r) + 1) 0 (by omega) (by omega) _ _ hI ls (lv_sub hl [0, 1, 2, 3, 4] rfl)
set_option maxHeartbeats 4000000 in
set_option maxRecDepth 100000 in
theorem tX4_reasonAgainst (l : Launch) (g : Gg) (B0 : Nat) (ad : Ad) (σ : Sg) (pd : Int64) (pl : Pl) (sc : Sg) (h : Wd) (r : Nat) (hr : r < nr σ) (a : Nat) (ha : a < np σ) (hok : OkP σ) (hP : PlOk σ pl) (hR : Rg σ) : MM l g B0 yX4_reasonAgainst (wsM yX4_reasonAgainst cX4_reasonAgainst 6 (some .int)) ({ frames := 2, cells := 0, slots := 0, locals := 42 } : Room) [.ref (ad 8 r), .ref (ad 7 a)] ad (fC g ad σ pd pl sc h) (dI (reasonS σ a r) ad (fC g ad σ pd pl sc h)) (noX) 0 0 := by
  refine MM.start (by decide) (Nat.le_of_ble_eq_true rfl) ?_
  intro hl9 p e s m below meth c ls hC hno hI hl0
  have hx := hC.1.1
  have hb := hC.1.2.1
  have hts := hC.1.2.2.2.2
  have hl : lv_has ls 6 [(0, .ref (ad 8 r)), (1, .ref (ad 7 a))] := hl0
  obtain ⟨H, hH⟩ : ∃ H, H = s.heap := ⟨_, rfl⟩
  obtain ⟨locs, hLo⟩ : ∃ L : List Loc, L = [] := ⟨_, rfl⟩
  rw [← hH, ← hLo] at hI ⊢
  clear hH hLo hl0
  obtain ⟨h17, h60, h10, h6, h5, h12, hpr, hrm⟩ := id hok
  have h20 := (hR.pl hr).2
  have hr6 : r < 6 := by omega
  have hfr := hP.free hr hr6 (hR.pl hr).1
  refine lv_aload_n hx hb dX4_reasonAgainst_0 rfl (lv_at hl 0 rfl) ?_
  refine c_Vi (rest := []) hl9 hC hI hl.1 (tX4_freePlaces l g B0 ad σ pd pl sc h r hr h20) (cw_X4_59 hts rfl rfl ⟨(Nat.le_of_ble_eq_true rfl), (Nat.le_of_ble_eq_true rfl)⟩) (fC_8 hr) rfl rfl rfl rfl (Nat.le_of_ble_eq_true rfl) dX4_reasonAgainst_1 ⟨(Nat.le_of_ble_eq_true rfl), (Nat.le_of_ble_eq_true rfl)⟩ (fun H locs hI => ?_)
  rw [hfr]
  refine lv_if_ne (tgt := 9) hx hb dX4_reasonAgainst_4 (by decide) (fun c4 => ?_) (fun c4 => ?_)
  · refine lv_aload_n hx hb dX4_reasonAgainst_9 rfl (lv_at hl 0 rfl) ?_
    refine gf_X4_31 hC hI (fC_8 hr) rfl dX4_reasonAgainst_10 ?_
    refine lv_astore_n (lv' := [(2, .ref (ad 11 r)), (0, .ref (ad 8 r)), (1, .ref (ad 7 a))]) hx hb dX4_reasonAgainst_13 rfl hl (by decide) rfl (fun ls hl => ?_)
    refine lv_aload_n hx hb dX4_reasonAgainst_14 rfl (lv_at hl 0 rfl) ?_
    refine r_alen hC hI (fC_11 hr) 2 rfl (v := nI (cN (σ 11 r))) rfl dX4_reasonAgainst_15 ?_
    refine lv_istore_n (lv' := [(3, .int (nI (cN (σ 11 r)))), (2, .ref (ad 11 r)), (0, .ref (ad 8 r)), (1, .ref (ad 7 a))]) hx hb dX4_reasonAgainst_16 rfl hl (by decide) rfl (fun ls hl => ?_)
    refine lv_iconst (v := 0) hx hb dX4_reasonAgainst_17 (by decide) ?_
    refine lv_istore (lv' := [(4, .int (nI 0)), (3, .int (nI (cN (σ 11 r)))), (2, .ref (ad 11 r)), (0, .ref (ad 8 r)), (1, .ref (ad 7 a))]) hx hb dX4_reasonAgainst_18 hl (by decide) rfl (fun ls hl => ?_)
    have L20 : ∀ (n : Nat) (k : Nat), k ≤ cN (σ 11 r) → cN (σ 11 r) + 1 ≤ k + n → (∀ j q, j < k → pl r j = some q → gwP (nI (prd σ q)) (nI a) (σ 9 (prd σ q)) (σ 9 a)) → ∀ (H : Heap) (locs : List Loc), WI g ad B0 (fC g ad σ pd pl sc h) s H locs → ∀ (ls : Array Slot), lv_has ls 6 [(4, .int (nI k)), (3, .int (nI (cN (σ 11 r)))), (2, .ref (ad 11 r)), (0, .ref (ad 8 r)), (1, .ref (ad 7 a))] → W p l e ({ frames := 2, cells := 0, slots := 0, locals := 42 } : Room) s m ([.ref (ad 8 r), .ref (ad 7 a)] : List Value).toArray below meth c H locs 0 0 (vx_MQ below (QI g B0 (dI (reasonS σ a r) ad (fC g ad σ pd pl sc h))) (XI g B0 (noX)) ([.ref (ad 8 r), .ref (ad 7 a)] : List Value).toArray s 0 0 (fun q => B0 ≤ q)) (F0 m 20 ls []) := by
      intro n
      induction n with
      | zero =>
        intro k hk hfu hG
        exact absurd hfu (by omega)
      | succ n ih20 =>
        intro k hk hfu hG H locs hI ls hl
        refine lv_iload hx hb dX4_reasonAgainst_20 (lv_at hl 0 rfl) ?_
        refine lv_iload_n hx hb dX4_reasonAgainst_22 rfl (lv_at hl 1 rfl) ?_
        refine lv_icmp_ge (tgt := 57) hx hb dX4_reasonAgainst_23 (by decide) (fun c23 => ?_) (fun c23 => ?_)
        · have hk2 : cN (σ 11 r) ≤ k := ge_T rfl (by omega) (by omega) c23
          refine lv_iconst (v := 0) hx hb dX4_reasonAgainst_57 (by decide) ?_
          exact e_int hC hI (rI (reason_F hP hR hr hr6 ha h12 (fun q hq => (hpr q hq).2) c4 (fun j q hj hp => hG j q (by omega) hp)).symm) (Nat.le_of_ble_eq_true rfl) (Nat.le_of_ble_eq_true rfl) dX4_reasonAgainst_58
        · have hk2 : k < cN (σ 11 r) := ge_F rfl (by omega) (by omega) c23
          refine lv_aload_n hx hb dX4_reasonAgainst_26 rfl (lv_at hl 2 rfl) ?_
          refine lv_iload hx hb dX4_reasonAgainst_27 (lv_at hl 0 rfl) ?_
          refine r_aald hC hI (fC_11 hr) 2 rfl (j := k) rfl hk2 (by omega) dX4_reasonAgainst_29 ?_
          refine lv_topo (fun e29 => ?_) (fun q29 e29 => ?_)
          · have hp := Option.map_eq_none_iff.mp e29
            refine lv_astoreN (lv' := [(5, .null), (4, .int (nI k)), (3, .int (nI (cN (σ 11 r)))), (2, .ref (ad 11 r)), (0, .ref (ad 8 r)), (1, .ref (ad 7 a))]) hx hb dX4_reasonAgainst_30 hl (by decide) rfl (fun ls hl => ?_)
            refine lv_aloadN hx hb dX4_reasonAgainst_32 (lv_at hl 0 rfl) ?_
            refine lv_ifnullN (tgt := 51) hx hb dX4_reasonAgainst_34 (by decide) ?_
            refine lv_iinc (v := nI (k + 1)) (lv' := [(4, .int (nI (k + 1))), (5, .null), (3, .int (nI (cN (σ 11 r)))), (2, .ref (ad 11 r)), (0, .ref (ad 8 r)), (1, .ref (ad 7 a))]) hx hb dX4_reasonAgainst_51 hl (k := 1) rfl (nI_1 _) (by decide) rfl (fun ls hl => ?_)
            refine lv_goto (tgt := 20) hx hb dX4_reasonAgainst_54 (by decide) ?_
            have hG2 : ∀ j q, j < k + 1 → pl r j = some q → gwP (nI (prd σ q)) (nI a) (σ 9 (prd σ q)) (σ 9 a) := fun j q hj hq => by
              by_cases hjk : j = k
              · rw [hjk, hp] at hq; cases hq
              · exact hG j q (by omega) hq
            exact ih20 (k + 1) (by omega) (by omega) hG2 _ _ hI ls (lv_sub hl [0, 2, 3, 4, 5] rfl)
          · obtain ⟨q0, hp, rfl⟩ := Option.map_eq_some_iff.mp e29
            have hq0 := (hP.on r k q0 hr hk2 hp).1
            have hpq := (hpr q0 hq0).2
            refine lv_astore (lv' := [(5, .ref (ad 12 q0)), (4, .int (nI k)), (3, .int (nI (cN (σ 11 r)))), (2, .ref (ad 11 r)), (0, .ref (ad 8 r)), (1, .ref (ad 7 a))]) hx hb dX4_reasonAgainst_30 hl (by decide) rfl (fun ls hl => ?_)
            refine lv_aload hx hb dX4_reasonAgainst_32 (lv_at hl 0 rfl) ?_
            refine lv_ifnull hx hb dX4_reasonAgainst_34 ?_
            refine lv_aload hx hb dX4_reasonAgainst_37 (lv_at hl 0 rfl) ?_
            refine gf_X4_66 hC hI (fC_12 hq0) rfl dX4_reasonAgainst_39 ?_
            refine lv_aload_n hx hb dX4_reasonAgainst_42 rfl (lv_at hl 5 rfl) ?_
            refine c_Vi (rest := []) hl9 hC hI hl.1 (tX3_goesWith l g B0 ad _ (prd σ q0) a _ _ _ _ _ _ _ _ _ _ (fC_7 hpq) (fC_7 ha)) (cw_X4_70 hts rfl rfl ⟨(Nat.le_of_ble_eq_true rfl), (Nat.le_of_ble_eq_true rfl)⟩) (fC_7 hpq) rfl rfl rfl rfl (Nat.le_of_ble_eq_true rfl) dX4_reasonAgainst_43 ⟨(Nat.le_of_ble_eq_true rfl), (Nat.le_of_ble_eq_true rfl)⟩ (fun H locs hI => ?_)
            refine lv_if_ne (tgt := 51) hx hb dX4_reasonAgainst_46 (by decide) (fun c46 => ?_) (fun c46 => ?_)
            · have c46 := bi_1.mp c46
              refine lv_iinc (v := nI (k + 1)) (lv' := [(4, .int (nI (k + 1))), (5, .ref (ad 12 q0)), (3, .int (nI (cN (σ 11 r)))), (2, .ref (ad 11 r)), (0, .ref (ad 8 r)), (1, .ref (ad 7 a))]) hx hb dX4_reasonAgainst_51 hl (k := 1) rfl (nI_1 _) (by decide) rfl (fun ls hl => ?_)
              refine lv_goto (tgt := 20) hx hb dX4_reasonAgainst_54 (by decide) ?_
              have hG2 : ∀ j q, j < k + 1 → pl r j = some q → gwP (nI (prd σ q)) (nI a) (σ 9 (prd σ q)) (σ 9 a) := fun j q hj hq => by
                by_cases hjk : j = k
                · rw [hjk, hp] at hq; cases hq; exact c46
                · exact hG j q (by omega) hq
              exact ih20 (k + 1) (by omega) (by omega) hG2 _ _ hI ls (lv_sub hl [0, 2, 3, 4, 5] rfl)
            · refine lv_iconst (v := 2) hx hb dX4_reasonAgainst_49 (by decide) ?_
              exact e_int hC hI (rI (reason_T hP hR hr hk2 hp ha h12 hpq c4 (bi_0.mp c46)).symm) (Nat.le_of_ble_eq_true rfl) (Nat.le_of_ble_eq_true rfl) dX4_reasonAgainst_50
    exact L20 (cN (σ 11 r) + 1) 0 (by omega) (by omega) (fun _ _ z => absurd z (Nat.not_lt_zero _)) _ _ hI ls (lv_sub hl [0, 1, 2, 3, 4] rfl)
  · refine lv_iconst (v := 1) hx hb dX4_reasonAgainst_7 (by decide) ?_
    exact e_int hC hI (rI (show (1 : Int32) = reasonS σ a r from by unfold reasonS; rw [if_pos c4])) (Nat.le_of_ble_eq_true rfl) (Nat.le_of_ble_eq_true rfl) dX4_reasonAgainst_8
set_option maxHeartbeats 4000000 in
set_option maxRecDepth 100000 in
theorem tX4_accepts (l : Launch) (g : Gg) (B0 : Nat) (ad : Ad) (σ : Sg) (pd : Int64) (pl : Pl) (sc : Sg) (h : Wd) (r : Nat) (hr : r < nr σ) (a : Nat) (ha : a < np σ) (hok : OkP σ) (hP : PlOk σ pl) (hR : Rg σ) : MM l g B0 yX4_accepts (wsM yX4_accepts cX4_accepts 2 (some .boolean)) ({ frames := 3, cells := 0, slots := 0, locals := 67 } : Room) [.ref (ad 8 r), .ref (ad 7 a)] ad (fC g ad σ pd pl sc h) (dI (bi (reasonS σ a r = 0)) ad (fC g ad σ pd pl sc h)) (noX) 0 0 := by
  refine MM.start (by decide) (Nat.le_of_ble_eq_true rfl) ?_
  intro hl9 p e s m below meth c ls hC hno hI hl0
  have hx := hC.1.1
  have hb := hC.1.2.1
  have hts := hC.1.2.2.2.2
  have hl : lv_has ls 2 [(0, .ref (ad 8 r)), (1, .ref (ad 7 a))] := hl0
  obtain ⟨H, hH⟩ : ∃ H, H = s.heap := ⟨_, rfl⟩
  obtain ⟨locs, hLo⟩ : ∃ L : List Loc, L = [] := ⟨_, rfl⟩
  rw [← hH, ← hLo] at hI ⊢
  clear hH hLo hl0
  refine lv_aload_n hx hb dX4_accepts_0 rfl (lv_at hl 0 rfl) ?_
  refine lv_aload_n hx hb dX4_accepts_1 rfl (lv_at hl 1 rfl) ?_
  refine c_Vi (rest := []) hl9 hC hI hl.1 (tX4_reasonAgainst l g B0 ad σ pd pl sc h r hr a ha hok hP hR) (cw_X4_76 hts rfl rfl ⟨(Nat.le_of_ble_eq_true rfl), (Nat.le_of_ble_eq_true rfl)⟩) (fC_8 hr) rfl rfl rfl rfl (Nat.le_of_ble_eq_true rfl) dX4_accepts_2 ⟨(Nat.le_of_ble_eq_true rfl), (Nat.le_of_ble_eq_true rfl)⟩ (fun H locs hI => ?_)
  refine lv_if_ne (tgt := 12) hx hb dX4_accepts_5 (by decide) (fun c5 => ?_) (fun c5 => ?_)
  · refine lv_iconst (v := 0) hx hb dX4_accepts_12 (by decide) ?_
    exact e_bool hC hI (by decide) (rI (bi_f c5).symm) (Nat.le_of_ble_eq_true rfl) (Nat.le_of_ble_eq_true rfl) dX4_accepts_13
  · refine lv_iconst (v := 1) hx hb dX4_accepts_8 (by decide) ?_
    refine lv_goto (tgt := 13) hx hb dX4_accepts_9 (by decide) ?_
    exact e_bool hC hI (by decide) (rI (bi_t c5).symm) (Nat.le_of_ble_eq_true rfl) (Nat.le_of_ble_eq_true rfl) dX4_accepts_13
