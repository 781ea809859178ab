/-! THE COLD STORE'S CALLS, third part: digest, the best room -/
def bsC (σ : Sg) (a : Nat) : Nat → Int32
  | 0 => -1
  | k + 1 => if k < nr σ ∧ reasonS σ a k = 0 ∧ (bsC σ a k = -1 ∨ betP σ a k (cN (bsC σ a k))) then nI k else bsC σ a k
theorem bsC_T {σ : Sg} {a k : Nat} (h : k < nr σ ∧ reasonS σ a k = 0 ∧ (bsC σ a k = -1 ∨ betP σ a k (cN (bsC σ a k)))) : bsC σ a (k + 1) = nI k := if_pos h
theorem bsC_F {σ : Sg} {a k : Nat} (h : ¬ (k < nr σ ∧ reasonS σ a k = 0 ∧ (bsC σ a k = -1 ∨ betP σ a k (cN (bsC σ a k))))) : bsC σ a (k + 1) = bsC σ a k := if_neg h
theorem bsC_in {σ : Sg} {a : Nat} : ∀ k : Nat, bsC σ a k = -1 ∨ ∃ j, j < nr σ ∧ bsC σ a k = nI j
  | 0 => Or.inl rfl
  | k + 1 => by
    by_cases h : k < nr σ ∧ reasonS σ a k = 0 ∧ (bsC σ a k = -1 ∨ betP σ a k (cN (bsC σ a k)))
    · exact Or.inr ⟨k, h.1, bsC_T h⟩
    · rw [bsC_F h]
      exact bsC_in k
theorem bsC_le {σ : Sg} {a : Nat} : ∀ n : Nat, n ≤ nr σ → bsC σ a n = bestAt σ a n
  | 0, _ => rfl
  | n + 1, h => by
    have ih := bsC_le (σ := σ) (a := a) n (by omega)
    show bsC σ a (n + 1) = (if reasonS σ a n = 0 then (if bestAt σ a n = -1 then nI n else if betP σ a n (cN (bestAt σ a n)) then nI n else bestAt σ a n) else bestAt σ a n)
    rw [← ih]
    by_cases c1 : reasonS σ a n = 0
    · rw [if_pos c1]
      by_cases c2 : bsC σ a n = -1
      · rw [if_pos c2, bsC_T ⟨by omega, c1, Or.inl c2⟩]
      · rw [if_neg c2]
        by_cases c3 : betP σ a n (cN (bsC σ a n))
        · rw [if_pos c3, bsC_T ⟨by omega, c1, Or.inr c3⟩]
        · rw [if_neg c3, bsC_F (fun z => z.2.2.elim c2 c3)]
    · rw [if_neg c1, bsC_F (fun z => c1 z.2.1)]
theorem bsC_end {σ : Sg} {a : Nat} : ∀ k : Nat, bsC σ a (nr σ + k) = bestAt σ a (nr σ)
  | 0 => bsC_le _ (Nat.le_refl _)
  | k + 1 => (bsC_F (k := nr σ + k) (fun z => by omega)).trans (bsC_end k)
theorem bsC_6 {σ : Sg} {a : Nat} (h : nr σ ≤ 6) : bsC σ a 6 = bestAt σ a (nr σ) := by
  have e := bsC_end (σ := σ) (a := a) (6 - nr σ)
  rw [show nr σ + (6 - nr σ) = 6 by omega] at e
  exact e
/-- a room's reference from its number, or none -/
def rmO (ad : Ad) (x : Int32) : Option Nat := if x = -1 then none else some (ad 8 (cN x))
theorem rmO_N {ad : Ad} {x : Int32} (h : x = -1) : rmO ad x = none := if_pos h
theorem rmO_S {ad : Ad} {x : Int32} (h : ¬ x = -1) : rmO ad x = some (ad 8 (cN x)) := if_neg h

set_option maxHeartbeats 4000000 in
set_option maxRecDepth 100000 in
theorem tX6_bestRoom (l : Launch) (g : Gg) (B0 : Nat) (ad : Ad) (σ : Sg) (pd : Int64) (pl : Pl) (sc : Sg) (h : Wd) (u : Int32) (hIv : Iv σ pl)  : MM l g B0 yX6_bestRoom (wsM yX6_bestRoom cX6_bestRoom 8 (some .int)) ({ frames := 7, cells := 1, slots := 6, locals := 112 } : Room) [.ref (ad 0 0), .int u] ad (fC g ad σ pd pl sc h) (rC g ad (kdPR σ u) (bestAt σ (cN u) (nr σ)) (σ) (pd) h) (xE (fun E => (kdPR σ u = 1 ∧ E = nIO)) ad (fC g ad σ pd pl sc h)) 1 6 := by
  refine MM.start (by decide) (Nat.le_of_ble_eq_true rfl) ?_
  intro hl9 p e s m below meth c ls hC hno hI hl0
  have hx := hC.1.1
  have hb := hC.1.2.1
  have hts := hC.1.2.2.2.2
  have hl : lv_has ls 8 [(0, .ref (ad 0 0)), (1, .int u)] := hl0
  obtain ⟨H, hH⟩ : ∃ H, H = s.heap := ⟨_, rfl⟩
  obtain ⟨locs, hLo⟩ : ∃ L : List Loc, L = [] := ⟨_, rfl⟩
  rw [← hH, ← hLo] at hI ⊢
  clear hH hLo hl0
  obtain ⟨hok, hP, hR, hF⟩ := id hIv
  obtain ⟨h17, h60, h10, h6, h5, h12, hpr, hrm⟩ := id hok
  refine lv_aload_n hx hb dX6_bestRoom_0 rfl (lv_at hl 0 rfl) ?_
  refine lv_iload_n hx hb dX6_bestRoom_1 rfl (lv_at hl 1 rfl) ?_
  refine x_V (rest := []) hl9 hC hI hl.1 (tX6_existingProduct l g B0 ad σ pd pl sc h u hok) (cw_X6_129 hts rfl rfl ⟨(Nat.le_of_ble_eq_true rfl), (Nat.le_of_ble_eq_true rfl)⟩) fC_0 rfl rfl rfl rfl (Nat.le_of_ble_eq_true rfl) dX6_bestRoom_2 ⟨(Nat.le_of_ble_eq_true rfl), (Nat.le_of_ble_eq_true rfl)⟩ hno (Nat.le_of_ble_eq_true rfl) (Nat.le_of_ble_eq_true rfl) (fun E a w hx => ⟨⟨if_neg hx.1.2, hx.1.1⟩, hx.2.1, hx.2.2⟩) (fun v ad1 w H locs hR hI => ?_)
  obtain ⟨hin, rfl, ha9, rfl⟩ := hR; obtain rfl := ha9.symm
  obtain ⟨a, ha, rfl⟩ := (in_cnt h5 (by omega)).mp (id hin)
  rw [show cN (nI a) = a from cN_nI (by omega)]
  have hca : cN (nI a) = a := cN_nI (by omega)
  refine lv_astore_n (lv' := [(2, .ref (ad 7 a)), (0, .ref (ad 0 0)), (1, .int (nI a))]) hx hb dX6_bestRoom_5 rfl hl (by decide) rfl (fun ls hl => ?_)
  refine lv_null hx hb dX6_bestRoom_6 ?_
  refine lv_astore_nN (lv' := [(3, .null), (2, .ref (ad 7 a)), (0, .ref (ad 0 0)), (1, .int (nI a))]) hx hb dX6_bestRoom_7 rfl hl (by decide) rfl (fun ls hl => ?_)
  refine lv_aload_n hx hb dX6_bestRoom_8 rfl (lv_at hl 2 rfl) ?_
  refine gf_X6_31 hC hI fC_0 rfl dX6_bestRoom_9 ?_
  refine lv_astore (lv' := [(4, .ref (ad 5 0)), (3, .null), (2, .ref (ad 7 a)), (0, .ref (ad 0 0)), (1, .int (nI a))]) hx hb dX6_bestRoom_12 hl (by decide) rfl (fun ls hl => ?_)
  refine lv_aload hx hb dX6_bestRoom_14 (lv_at hl 0 rfl) ?_
  refine r_alen hC hI fC_5 4 rfl (v := 6) rfl dX6_bestRoom_16 ?_
  refine lv_istore (lv' := [(5, .int 6), (4, .ref (ad 5 0)), (3, .null), (2, .ref (ad 7 a)), (0, .ref (ad 0 0)), (1, .int (nI a))]) hx hb dX6_bestRoom_17 hl (by decide) rfl (fun ls hl => ?_)
  refine lv_iconst (v := 0) hx hb dX6_bestRoom_19 (by decide) ?_
  refine lv_istore (lv' := [(6, .int 0), (5, .int 6), (4, .ref (ad 5 0)), (3, .null), (2, .ref (ad 7 a)), (0, .ref (ad 0 0)), (1, .int (nI a))]) hx hb dX6_bestRoom_20 hl (by decide) rfl (fun ls hl => ?_)
  have L22 : ∀ (n : Nat) (k : Nat), k ≤ 6 → 7 ≤ k + n → ∀ (H : Heap) (locs : List Loc), WI g ad B0 (fC g ad σ pd pl sc h) s H locs → ∀ (ls : Array Slot), lv_has ls 8 [(6, .int (nI k)), (5, .int 6), (4, .ref (ad 5 0)), (3, va_rf (rmO ad (bsC σ a k))), (2, .ref (ad 7 a)), (0, .ref (ad 0 0))] → W p l e ({ frames := 7, cells := 1, slots := 6, locals := 112 } : Room) s m ([.ref (ad 0 0), .int (nI a)] : List Value).toArray below meth c H locs (0 + 1) (0 + 6) (vx_MQ below (QI g B0 (rC g ad (kdPR σ (nI a)) (bestAt σ a (nr σ)) (σ) (pd) h)) (XI g B0 (xE (fun E => (kdPR σ (nI a) = 1 ∧ E = nIO)) ad (fC g ad σ pd pl sc h))) ([.ref (ad 0 0), .int (nI a)] : List Value).toArray s 1 6 (fun q => B0 ≤ q)) (F0 m 22 ls []) := by
    intro n
    induction n with
    | zero =>
      intro k hk hfu
      exact absurd hfu (by omega)
    | succ n ih22 =>
      intro k hk hfu H locs hI ls hl
      refine lv_iload hx hb dX6_bestRoom_22 (lv_at hl 0 rfl) ?_
      refine lv_iload hx hb dX6_bestRoom_24 (lv_at hl 1 rfl) ?_
      refine lv_icmp_ge (tgt := 73) hx hb dX6_bestRoom_26 (by decide) (fun c26 => ?_) (fun c26 => ?_)
      · have hk2 : 6 ≤ k := ge_T rfl (by decide) (by omega) c26
        have hk6 : k = 6 := by omega
        by_cases hn : bsC σ a k = -1
        · have hl : lv_has ls 8 [(6, .int (nI k)), (5, .int 6), (4, .ref (ad 5 0)), (3, .null), (2, .ref (ad 7 a)), (0, .ref (ad 0 0))] := by rw [rmO_N hn] at hl; exact hl
          refine lv_aload_nN hx hb dX6_bestRoom_73 rfl (lv_at hl 3 rfl) ?_
          refine lv_ifnonnullN hx hb dX6_bestRoom_74 ?_
          refine lv_iconst (v := (-1)) hx hb dX6_bestRoom_77 (by decide) ?_
          refine lv_goto (tgt := 85) hx hb dX6_bestRoom_78 (by decide) ?_
          exact e_int hC hI ⟨if_pos hin, by rw [← bsC_6 h6, ← hk6, hn], fun _ _ _ => rfl, pl, sc, hP, rfl⟩ (Nat.le_of_ble_eq_true rfl) (Nat.le_of_ble_eq_true rfl) dX6_bestRoom_85
        · have hl : lv_has ls 8 [(6, .int (nI k)), (5, .int 6), (4, .ref (ad 5 0)), (3, .ref (ad 8 (cN (bsC σ a k)))), (2, .ref (ad 7 a)), (0, .ref (ad 0 0))] := by rw [rmO_S hn] at hl; exact hl
          have hjn : cN (bsC σ a k) < nr σ := by
            rcases bsC_in (σ := σ) (a := a) k with z | ⟨j, hj, z⟩
            · exact absurd z hn
            · rw [z, cN_nI (by omega)]; exact hj
          refine lv_aload_n hx hb dX6_bestRoom_73 rfl (lv_at hl 3 rfl) ?_
          refine lv_ifnonnull (tgt := 81) hx hb dX6_bestRoom_74 (by decide) ?_
          refine lv_aload_n hx hb dX6_bestRoom_81 rfl (lv_at hl 3 rfl) ?_
          refine gf_X6_167 hC hI (fC_8 hjn) rfl dX6_bestRoom_82 ?_
          exact e_int hC hI ⟨if_pos hin, by rw [← bsC_6 h6, ← hk6]; rcases bsC_in (σ := σ) (a := a) k with z | ⟨j, hj, z⟩; (· exact absurd z hn); (· rw [z, cN_nI (by omega)]), fun _ _ _ => rfl, pl, sc, hP, rfl⟩ (Nat.le_of_ble_eq_true rfl) (Nat.le_of_ble_eq_true rfl) dX6_bestRoom_85
      · have hk2 : k < 6 := ge_F rfl (by decide) (by omega) c26
        refine lv_aload hx hb dX6_bestRoom_29 (lv_at hl 2 rfl) ?_
        refine lv_iload hx hb dX6_bestRoom_31 (lv_at hl 0 rfl) ?_
        refine r_aald hC hI fC_5 4 rfl (j := k) rfl hk2 (by decide) dX6_bestRoom_33 ?_
        refine lv_topo (fun e33 => ?_) (fun q33 e33 => ?_)
        · have hlt := opt_n e33
          have hl : lv_has ls 8 [(6, .int (nI k)), (5, .int 6), (4, .ref (ad 5 0)), (3, va_rf (rmO ad (bsC σ a (k + 1)))), (2, .ref (ad 7 a)), (0, .ref (ad 0 0))] := by rw [bsC_F (fun z => hlt z.1)]; exact hl
          refine lv_astoreN (lv' := [(7, .null), (6, .int (nI k)), (5, .int 6), (4, .ref (ad 5 0)), (3, va_rf (rmO ad (bsC σ a (k + 1)))), (2, .ref (ad 7 a)), (0, .ref (ad 0 0))]) hx hb dX6_bestRoom_34 hl (by decide) rfl (fun ls hl => ?_)
          refine lv_aloadN hx hb dX6_bestRoom_36 (lv_at hl 0 rfl) ?_
          refine lv_ifnullN (tgt := 67) hx hb dX6_bestRoom_38 (by decide) ?_
          refine lv_iinc (v := nI (k + 1)) (lv' := [(6, .int (nI (k + 1))), (7, .null), (5, .int 6), (4, .ref (ad 5 0)), (3, va_rf (rmO ad (bsC σ a (k + 1)))), (2, .ref (ad 7 a)), (0, .ref (ad 0 0))]) hx hb dX6_bestRoom_67 hl (k := 1) rfl (nI_1 _) (by decide) rfl (fun ls hl => ?_)
          refine lv_goto (tgt := 22) hx hb dX6_bestRoom_70 (by decide) ?_
          refine W.widen (k := 0 + 1) (n := 0 + 6) (by omega) (by omega) ?_
          exact ih22 (k + 1) (by omega) (by omega) _ _ hI ls (lv_sub hl [0, 2, 3, 4, 5, 6] rfl)
        · obtain ⟨hlt, rfl⟩ := opt_y e33
          refine lv_astore (lv' := [(7, .ref (ad 8 k)), (6, .int (nI k)), (5, .int 6), (4, .ref (ad 5 0)), (3, va_rf (rmO ad (bsC σ a k))), (2, .ref (ad 7 a)), (0, .ref (ad 0 0))]) hx hb dX6_bestRoom_34 hl (by decide) rfl (fun ls hl => ?_)
          refine lv_aload hx hb dX6_bestRoom_36 (lv_at hl 0 rfl) ?_
          refine lv_ifnull hx hb dX6_bestRoom_38 ?_
          refine lv_aload hx hb dX6_bestRoom_41 (lv_at hl 0 rfl) ?_
          refine lv_aload_n hx hb dX6_bestRoom_43 rfl (lv_at hl 5 rfl) ?_
          refine c_Vi (rest := []) hl9 hC hI hl.1 (tX4_accepts l g B0 ad σ pd pl sc h k hlt a ha hok hP hR) (cw_X6_137 hts rfl rfl ⟨(Nat.le_of_ble_eq_true rfl), (Nat.le_of_ble_eq_true rfl)⟩) (fC_8 hlt) rfl rfl rfl rfl (Nat.le_of_ble_eq_true rfl) dX6_bestRoom_44 ⟨(Nat.le_of_ble_eq_true rfl), (Nat.le_of_ble_eq_true rfl)⟩ (fun H locs hI => ?_)
          refine lv_if_eq (tgt := 67) hx hb dX6_bestRoom_47 (by decide) (fun c47 => ?_) (fun c47 => ?_)
          · have c47 := bi_0.mp c47
            have hl : lv_has ls 8 [(7, .ref (ad 8 k)), (6, .int (nI k)), (5, .int 6), (4, .ref (ad 5 0)), (3, va_rf (rmO ad (bsC σ a (k + 1)))), (2, .ref (ad 7 a)), (0, .ref (ad 0 0))] := by rw [bsC_F (fun z => c47 z.2.1)]; exact hl
            refine lv_iinc (v := nI (k + 1)) (lv' := [(6, .int (nI (k + 1))), (7, .ref (ad 8 k)), (5, .int 6), (4, .ref (ad 5 0)), (3, va_rf (rmO ad (bsC σ a (k + 1)))), (2, .ref (ad 7 a)), (0, .ref (ad 0 0))]) hx hb dX6_bestRoom_67 hl (k := 1) rfl (nI_1 _) (by decide) rfl (fun ls hl => ?_)
            refine lv_goto (tgt := 22) hx hb dX6_bestRoom_70 (by decide) ?_
            refine W.widen (k := 0 + 1) (n := 0 + 6) (by omega) (by omega) ?_
            exact ih22 (k + 1) (by omega) (by omega) _ _ hI ls (lv_sub hl [0, 2, 3, 4, 5, 6] rfl)
          · have c47 := bi_1.mp c47
            by_cases hn : bsC σ a k = -1
            · have hl : lv_has ls 8 [(7, .ref (ad 8 k)), (6, .int (nI k)), (5, .int 6), (4, .ref (ad 5 0)), (3, .null), (2, .ref (ad 7 a)), (0, .ref (ad 0 0))] := by rw [rmO_N hn] at hl; exact hl
              refine lv_aload_nN hx hb dX6_bestRoom_50 rfl (lv_at hl 4 rfl) ?_
              refine lv_ifnullN (tgt := 64) hx hb dX6_bestRoom_51 (by decide) ?_
              refine lv_aload hx hb dX6_bestRoom_64 (lv_at hl 0 rfl) ?_
              refine lv_astore_n (lv' := [(3, .ref (ad 8 k)), (7, .ref (ad 8 k)), (6, .int (nI k)), (5, .int 6), (4, .ref (ad 5 0)), (2, .ref (ad 7 a)), (0, .ref (ad 0 0))]) hx hb dX6_bestRoom_66 rfl hl (by decide) rfl (fun ls hl => ?_)
              have hl : lv_has ls 8 [(3, va_rf (rmO ad (bsC σ a (k + 1)))), (7, .ref (ad 8 k)), (6, .int (nI k)), (5, .int 6), (4, .ref (ad 5 0)), (2, .ref (ad 7 a)), (0, .ref (ad 0 0))] := by rw [bsC_T ⟨hlt, c47, Or.inl hn⟩, rmO_S (show ¬ nI k = -1 from fun z => absurd (nI_nn (show k < 2 ^ 31 by omega)) (by rw [z]; decide)), cN_nI (by omega)]; exact hl
              refine lv_iinc (v := nI (k + 1)) (lv' := [(6, .int (nI (k + 1))), (3, va_rf (rmO ad (bsC σ a (k + 1)))), (7, .ref (ad 8 k)), (5, .int 6), (4, .ref (ad 5 0)), (2, .ref (ad 7 a)), (0, .ref (ad 0 0))]) hx hb dX6_bestRoom_67 hl (k := 2) rfl (nI_1 _) (by decide) rfl (fun ls hl => ?_)
              refine lv_goto (tgt := 22) hx hb dX6_bestRoom_70 (by decide) ?_
              refine W.widen (k := 0 + 1) (n := 0 + 6) (by omega) (by omega) ?_
              exact ih22 (k + 1) (by omega) (by omega) _ _ hI ls (lv_sub hl [0, 3, 4, 1, 5, 6] rfl)
            · have hl : lv_has ls 8 [(7, .ref (ad 8 k)), (6, .int (nI k)), (5, .int 6), (4, .ref (ad 5 0)), (3, .ref (ad 8 (cN (bsC σ a k)))), (2, .ref (ad 7 a)), (0, .ref (ad 0 0))] := by rw [rmO_S hn] at hl; exact hl
              have hjn : cN (bsC σ a k) < nr σ := by
                rcases bsC_in (σ := σ) (a := a) k with z | ⟨j, hj, z⟩
                · exact absurd z hn
                · rw [z, cN_nI (by omega)]; exact hj
              refine lv_aload_n hx hb dX6_bestRoom_50 rfl (lv_at hl 4 rfl) ?_
              refine lv_ifnull hx hb dX6_bestRoom_51 ?_
              refine lv_aload hx hb dX6_bestRoom_54 (lv_at hl 0 rfl) ?_
              refine lv_aload_n hx hb dX6_bestRoom_56 rfl (lv_at hl 5 rfl) ?_
              refine lv_aload_n hx hb dX6_bestRoom_57 rfl (lv_at hl 4 rfl) ?_
              refine c_Vi (rest := []) hl9 hC hI hl.1 (tX4_isBetterFor l g B0 ad σ pd pl sc h k hlt (cN (bsC σ a k)) hjn a ha hok hP hR) (cw_X6_171 hts rfl rfl ⟨(Nat.le_of_ble_eq_true rfl), (Nat.le_of_ble_eq_true rfl)⟩) (fC_8 hlt) rfl rfl rfl rfl (Nat.le_of_ble_eq_true rfl) dX6_bestRoom_58 ⟨(Nat.le_of_ble_eq_true rfl), (Nat.le_of_ble_eq_true rfl)⟩ (fun H locs hI => ?_)
              refine lv_if_eq (tgt := 67) hx hb dX6_bestRoom_61 (by decide) (fun c61 => ?_) (fun c61 => ?_)
              · have c61 := bi_0.mp c61
                have hl : lv_has ls 8 [(7, .ref (ad 8 k)), (6, .int (nI k)), (5, .int 6), (4, .ref (ad 5 0)), (3, va_rf (rmO ad (bsC σ a (k + 1)))), (2, .ref (ad 7 a)), (0, .ref (ad 0 0))] := by rw [bsC_F (fun z => z.2.2.elim hn c61), rmO_S hn]; exact hl
                refine lv_iinc (v := nI (k + 1)) (lv' := [(6, .int (nI (k + 1))), (7, .ref (ad 8 k)), (5, .int 6), (4, .ref (ad 5 0)), (3, va_rf (rmO ad (bsC σ a (k + 1)))), (2, .ref (ad 7 a)), (0, .ref (ad 0 0))]) hx hb dX6_bestRoom_67 hl (k := 1) rfl (nI_1 _) (by decide) rfl (fun ls hl => ?_)
                refine lv_goto (tgt := 22) hx hb dX6_bestRoom_70 (by decide) ?_
                refine W.widen (k := 0 + 1) (n := 0 + 6) (by omega) (by omega) ?_
                exact ih22 (k + 1) (by omega) (by omega) _ _ hI ls (lv_sub hl [0, 2, 3, 4, 5, 6] rfl)
              · have c61 := bi_1.mp c61
                refine lv_aload hx hb dX6_bestRoom_64 (lv_at hl 0 rfl) ?_
                refine lv_astore_n (lv' := [(3, .ref (ad 8 k)), (7, .ref (ad 8 k)), (6, .int (nI k)), (5, .int 6), (4, .ref (ad 5 0)), (2, .ref (ad 7 a)), (0, .ref (ad 0 0))]) hx hb dX6_bestRoom_66 rfl hl (by decide) rfl (fun ls hl => ?_)
                have hl : lv_has ls 8 [(3, va_rf (rmO ad (bsC σ a (k + 1)))), (7, .ref (ad 8 k)), (6, .int (nI k)), (5, .int 6), (4, .ref (ad 5 0)), (2, .ref (ad 7 a)), (0, .ref (ad 0 0))] := by rw [bsC_T ⟨hlt, c47, Or.inr c61⟩, rmO_S (show ¬ nI k = -1 from fun z => absurd (nI_nn (show k < 2 ^ 31 by omega)) (by rw [z]; decide)), cN_nI (by omega)]; exact hl
                refine lv_iinc (v := nI (k + 1)) (lv' := [(6, .int (nI (k + 1))), (3, va_rf (rmO ad (bsC σ a (k + 1)))), (7, .ref (ad 8 k)), (5, .int 6), (4, .ref (ad 5 0)), (2, .ref (ad 7 a)), (0, .ref (ad 0 0))]) hx hb dX6_bestRoom_67 hl (k := 2) rfl (nI_1 _) (by decide) rfl (fun ls hl => ?_)
                refine lv_goto (tgt := 22) hx hb dX6_bestRoom_70 (by decide) ?_
                refine W.widen (k := 0 + 1) (n := 0 + 6) (by omega) (by omega) ?_
                exact ih22 (k + 1) (by omega) (by omega) _ _ hI ls (lv_sub hl [0, 3, 4, 1, 5, 6] rfl)
  refine W.widen (k := 0 + 1) (n := 0 + 6) (by omega) (by omega) ?_
  exact L22 7 0 (by omega) (by omega) _ _ hI ls (lv_sub hl [0, 1, 2, 3, 4, 5] rfl)
