/-! THE COLD STORE: what it counts -/
def cntP (N : Nat) (P : Nat → Prop) [DecidablePred P] : Nat → Int32
  | 0 => 0
  | k + 1 => if k < N ∧ P k then cntP N P k + 1 else cntP N P k
theorem cntP_T {N k : Nat} {P : Nat → Prop} [DecidablePred P] (h : k < N ∧ P k) : cntP N P (k + 1) = cntP N P k + 1 := if_pos h
theorem cntP_F {N k : Nat} {P : Nat → Prop} [DecidablePred P] (h : ¬ (k < N ∧ P k)) : cntP N P (k + 1) = cntP N P k := if_neg h
theorem cntP_end {N : Nat} {P : Nat → Prop} [DecidablePred P] : ∀ d : Nat, cntP N P (N + d) = cntP N P N
  | 0 => rfl
  | d + 1 => (cntP_F (k := N + d) (fun z => by omega)).trans (cntP_end d)
theorem cntP_60 {N : Nat} {P : Nat → Prop} [DecidablePred P] (h : N ≤ 60) : cntP N P 60 = cntP N P N := by
  have e := cntP_end (N := N) (P := P) (60 - N)
  rw [show N + (60 - N) = 60 by omega] at e
  exact e
theorem thereAt_cnt {σ : Sg} {u b : Int32} {N : Nat} {P : Nat → Prop} [DecidablePred P] : ∀ n : Nat, n ≤ N → (∀ k, k < N → ((¬ σ 19 k = -1 ∧ (u = -1 ∨ σ 18 k = u) ∧ bi (leftS σ k < 0) = b) ↔ P k)) → thereAt σ u b n = cntP N P n
  | 0, _, _ => rfl
  | n + 1, hn, h => by
    show thereAt σ u b n + (if ¬ σ 19 n = -1 ∧ (u = -1 ∨ σ 18 n = u) ∧ bi (leftS σ n < 0) = b then 1 else 0) = _
    rw [thereAt_cnt n (by omega) h]
    by_cases hp : P n
    · rw [cntP_T ⟨by omega, hp⟩, if_pos ((h n (by omega)).mpr hp)]
    · rw [cntP_F (fun z => hp z.2), if_neg (fun z => hp ((h n (by omega)).mp z)), Int32.add_zero]
theorem there_cnt {σ : Sg} {u b : Int32} {P : Nat → Prop} [DecidablePred P] (h60 : nt σ ≤ 60) (h : ∀ k, k < nt σ → ((¬ σ 19 k = -1 ∧ (u = -1 ∨ σ 18 k = u) ∧ bi (leftS σ k < 0) = b) ↔ P k)) : cntP (nt σ) P 60 = thereS σ u b := by
  rw [cntP_60 h60]
  exact (thereAt_cnt (nt σ) (Nat.le_refl _) h).symm
theorem there_2 {σ : Sg} (h60 : nt σ ≤ 60) : cntP (nt σ) (fun k => ¬ σ 19 k = -1) 60 = thereS σ (-1) 0 + thereS σ (-1) 1 := by
  rw [cntP_60 h60, ← there_cnt (P := fun k => ¬ σ 19 k = -1 ∧ ¬ leftS σ k < 0) h60 (fun k _ => ⟨fun z => ⟨z.1, bi_0.mp z.2.2⟩, fun z => ⟨z.1, Or.inl rfl, bi_0.mpr z.2⟩⟩), ← there_cnt (P := fun k => ¬ σ 19 k = -1 ∧ leftS σ k < 0) h60 (fun k _ => ⟨fun z => ⟨z.1, Decidable.not_not.mp (fun y => by rw [bi_f y] at z; exact absurd z.2.2 (by decide))⟩, fun z => ⟨z.1, Or.inl rfl, bi_t z.2⟩⟩), cntP_60 h60, cntP_60 h60]
  suffices H : ∀ n : Nat, cntP (nt σ) (fun k => ¬ σ 19 k = -1) n = cntP (nt σ) (fun k => ¬ σ 19 k = -1 ∧ ¬ leftS σ k < 0) n + cntP (nt σ) (fun k => ¬ σ 19 k = -1 ∧ leftS σ k < 0) n from H _
  intro n
  induction n with
  | zero => rfl
  | succ n ih =>
    by_cases h1 : n < nt σ ∧ ¬ σ 19 n = -1
    · rw [cntP_T (P := fun k => ¬ σ 19 k = -1) h1, ih]
      by_cases h2 : leftS σ n < 0
      · rw [cntP_F (P := fun k => ¬ σ 19 k = -1 ∧ ¬ leftS σ k < 0) (fun z => z.2.2 h2), cntP_T (P := fun k => ¬ σ 19 k = -1 ∧ leftS σ k < 0) ⟨h1.1, h1.2, h2⟩, Int32.add_assoc]
      · rw [cntP_T (P := fun k => ¬ σ 19 k = -1 ∧ ¬ leftS σ k < 0) ⟨h1.1, h1.2, h2⟩, cntP_F (P := fun k => ¬ σ 19 k = -1 ∧ leftS σ k < 0) (fun z => h2 z.2.2), Int32.add_assoc, Int32.add_assoc, Int32.add_comm 1]
    · rw [cntP_F (P := fun k => ¬ σ 19 k = -1) h1, ih, cntP_F (P := fun k => ¬ σ 19 k = -1 ∧ ¬ leftS σ k < 0) (fun z => h1 ⟨z.1, z.2.1⟩), cntP_F (P := fun k => ¬ σ 19 k = -1 ∧ leftS σ k < 0) (fun z => h1 ⟨z.1, z.2.1⟩)]
theorem rm_none {ad : Ad} {σ : Sg} {i : Nat} : rmR ad σ i = none ↔ σ 19 i = -1 := by
  unfold rmR
  by_cases h : σ 19 i = -1
  · rw [if_pos h]; exact ⟨fun _ => h, fun _ => rfl⟩
  · rw [if_neg h]; exact ⟨fun z => (Option.some_ne_none _ z).elim, fun z => absurd z h⟩
theorem rm_bi {ad : Ad} {σ : Sg} {i : Nat} : bi (¬ rmR ad σ i = none) = bi (¬ σ 19 i = -1) := bi_c (not_congr rm_none)

set_option maxHeartbeats 4000000 in
set_option maxRecDepth 100000 in
theorem tX6_palletsHere (l : Launch) (g : Gg) (B0 : Nat) (ad : Ad) (σ : Sg) (pd : Int64) (pl : Pl) (sc : Sg) (h : Wd) (hok : OkP σ) : MM l g B0 yX6_palletsHere (wsM yX6_palletsHere cX6_palletsHere 6 (some .int)) ({ frames := 1, cells := 0, slots := 0, locals := 20 } : Room) [.ref (ad 0 0)] ad (fC g ad σ pd pl sc h) (dI (thereS σ (-1) 0 + thereS σ (-1) 1) ad (fC g ad σ pd pl sc h)) (noX) 0 0 := by
  refine MM.start (by decide) (Nat.le_of_ble_eq_true rfl) ?_
  intro hl9 p e s m below meth c ls hC hno hI hl0
  have hx := hC.1.1
  have hb := hC.1.2.1
  have hts := hC.1.2.2.2.2
  have hl : lv_has ls 6 [(0, .ref (ad 0 0))] := hl0
  obtain ⟨H, hH⟩ : ∃ H, H = s.heap := ⟨_, rfl⟩
  obtain ⟨locs, hLo⟩ : ∃ L : List Loc, L = [] := ⟨_, rfl⟩
  rw [← hH, ← hLo] at hI ⊢
  clear hH hLo hl0
  obtain ⟨h17, h60, h10, h6, h5, h12, hpr, hrm⟩ := id hok
  refine lv_iconst (v := 0) hx hb dX6_palletsHere_0 (by decide) ?_
  refine lv_istore_n (lv' := [(1, .int (cntP (nt σ) (fun k => ¬ σ 19 k = -1) 0)), (0, .ref (ad 0 0))]) hx hb dX6_palletsHere_1 rfl hl (by decide) rfl (fun ls hl => ?_)
  refine lv_aload_n hx hb dX6_palletsHere_2 rfl (lv_at hl 1 rfl) ?_
  refine gf_X6_37 hC hI fC_0 rfl dX6_palletsHere_3 ?_
  refine lv_astore_n (lv' := [(2, .ref (ad 6 0)), (1, .int (cntP (nt σ) (fun k => ¬ σ 19 k = -1) 0)), (0, .ref (ad 0 0))]) hx hb dX6_palletsHere_6 rfl hl (by decide) rfl (fun ls hl => ?_)
  refine lv_aload_n hx hb dX6_palletsHere_7 rfl (lv_at hl 0 rfl) ?_
  refine r_alen hC hI fC_6 2 rfl (v := 60) rfl dX6_palletsHere_8 ?_
  refine lv_istore_n (lv' := [(3, .int 60), (2, .ref (ad 6 0)), (1, .int (cntP (nt σ) (fun k => ¬ σ 19 k = -1) 0)), (0, .ref (ad 0 0))]) hx hb dX6_palletsHere_9 rfl hl (by decide) rfl (fun ls hl => ?_)
  refine lv_iconst (v := 0) hx hb dX6_palletsHere_10 (by decide) ?_
  refine lv_istore (lv' := [(4, .int (nI 0)), (3, .int 60), (2, .ref (ad 6 0)), (1, .int (cntP (nt σ) (fun k => ¬ σ 19 k = -1) 0)), (0, .ref (ad 0 0))]) hx hb dX6_palletsHere_11 hl (by decide) rfl (fun ls hl => ?_)
  have L13 : ∀ (n : Nat) (k : Nat), k ≤ 60 → 61 ≤ k + n → ∀ (H : Heap) (locs : List Loc), WI g ad B0 (fC g ad σ pd pl sc h) s H locs → ∀ (ls : Array Slot), lv_has ls 6 [(4, .int (nI k)), (3, .int 60), (2, .ref (ad 6 0)), (1, .int (cntP (nt σ) (fun k => ¬ σ 19 k = -1) k)), (0, .ref (ad 0 0))] → W p l e ({ frames := 1, cells := 0, slots := 0, locals := 20 } : Room) s m ([.ref (ad 0 0)] : List Value).toArray below meth c H locs 0 0 (vx_MQ below (QI g B0 (dI (thereS σ (-1) 0 + thereS σ (-1) 1) ad (fC g ad σ pd pl sc h))) (XI g B0 (noX)) ([.ref (ad 0 0)] : List Value).toArray s 0 0 (fun q => B0 ≤ q)) (F0 m 13 ls []) := by
    intro n
    induction n with
    | zero =>
      intro k hk hfu
      exact absurd hfu (by omega)
    | succ n ih13 =>
      intro k hk hfu H locs hI ls hl
      refine lv_iload hx hb dX6_palletsHere_13 (lv_at hl 0 rfl) ?_
      refine lv_iload_n hx hb dX6_palletsHere_15 rfl (lv_at hl 1 rfl) ?_
      refine lv_icmp_ge (tgt := 47) hx hb dX6_palletsHere_16 (by decide) (fun c16 => ?_) (fun c16 => ?_)
      · have hk2 : 60 ≤ k := ge_T rfl (by decide) (by omega) c16
        refine lv_iload_n hx hb dX6_palletsHere_47 rfl (lv_at hl 3 rfl) ?_
        exact e_int hC hI (rI (by rw [show k = 60 by omega]; exact there_2 h60)) (Nat.le_of_ble_eq_true rfl) (Nat.le_of_ble_eq_true rfl) dX6_palletsHere_48
      · have hk2 : k < 60 := ge_F rfl (by decide) (by omega) c16
        refine lv_aload_n hx hb dX6_palletsHere_19 rfl (lv_at hl 2 rfl) ?_
        refine lv_iload hx hb dX6_palletsHere_20 (lv_at hl 0 rfl) ?_
        refine r_aald hC hI fC_6 2 rfl (j := k) rfl hk2 (by decide) dX6_palletsHere_22 ?_
        refine lv_topo (fun e22 => ?_) (fun q22 e22 => ?_)
        · have hlt := opt_n e22
          have hl : lv_has ls 6 [(4, .int (nI k)), (3, .int 60), (2, .ref (ad 6 0)), (1, .int (cntP (nt σ) (fun k => ¬ σ 19 k = -1) (k + 1))), (0, .ref (ad 0 0))] := by rw [show cntP (nt σ) (fun k => ¬ σ 19 k = -1) (k + 1) = cntP (nt σ) (fun k => ¬ σ 19 k = -1) k from (cntP_F (fun z => hlt z.1))]; exact hl
          refine lv_astoreN (lv' := [(5, .null), (4, .int (nI k)), (3, .int 60), (2, .ref (ad 6 0)), (1, .int (cntP (nt σ) (fun k => ¬ σ 19 k = -1) (k + 1))), (0, .ref (ad 0 0))]) hx hb dX6_palletsHere_23 hl (by decide) rfl (fun ls hl => ?_)
          refine lv_aloadN hx hb dX6_palletsHere_25 (lv_at hl 0 rfl) ?_
          refine lv_ifnullN (tgt := 41) hx hb dX6_palletsHere_27 (by decide) ?_
          refine lv_iinc (v := nI (k + 1)) (lv' := [(4, .int (nI (k + 1))), (5, .null), (3, .int 60), (2, .ref (ad 6 0)), (1, .int (cntP (nt σ) (fun k => ¬ σ 19 k = -1) (k + 1))), (0, .ref (ad 0 0))]) hx hb dX6_palletsHere_41 hl (k := 1) rfl (nI_1 _) (by decide) rfl (fun ls hl => ?_)
          refine lv_goto (tgt := 13) hx hb dX6_palletsHere_44 (by decide) ?_
          exact ih13 (k + 1) (by omega) (by omega) _ _ hI ls (lv_sub hl [0, 2, 3, 4, 5] rfl)
        · obtain ⟨hlt, rfl⟩ := opt_y e22
          have hpk := (hpr k hlt).2
          refine lv_astore (lv' := [(5, .ref (ad 12 k)), (4, .int (nI k)), (3, .int 60), (2, .ref (ad 6 0)), (1, .int (cntP (nt σ) (fun k => ¬ σ 19 k = -1) k)), (0, .ref (ad 0 0))]) hx hb dX6_palletsHere_23 hl (by decide) rfl (fun ls hl => ?_)
          refine lv_aload hx hb dX6_palletsHere_25 (lv_at hl 0 rfl) ?_
          refine lv_ifnull hx hb dX6_palletsHere_27 ?_
          refine lv_aload hx hb dX6_palletsHere_30 (lv_at hl 0 rfl) ?_
          refine c_Vi (rest := []) hl9 hC hI hl.1 (tX2_isHere l g B0 ad _ k (prd σ k) (rmR ad σ k) _ _ _ _ (fC_12 hlt)) (cw_X6_187 hts rfl rfl ⟨(Nat.le_of_ble_eq_true rfl), (Nat.le_of_ble_eq_true rfl)⟩) (fC_12 hlt) rfl rfl rfl rfl (Nat.le_of_ble_eq_true rfl) dX6_palletsHere_32 ⟨(Nat.le_of_ble_eq_true rfl), (Nat.le_of_ble_eq_true rfl)⟩ (fun H locs hI => ?_)
          rw [rm_bi]
          refine lv_if_eq (tgt := 41) hx hb dX6_palletsHere_35 (by decide) (fun c35 => ?_) (fun c35 => ?_)
          · have c35 := bi_0.mp c35
            have hl : lv_has ls 6 [(5, .ref (ad 12 k)), (4, .int (nI k)), (3, .int 60), (2, .ref (ad 6 0)), (1, .int (cntP (nt σ) (fun k => ¬ σ 19 k = -1) (k + 1))), (0, .ref (ad 0 0))] := by rw [show cntP (nt σ) (fun k => ¬ σ 19 k = -1) (k + 1) = cntP (nt σ) (fun k => ¬ σ 19 k = -1) k from (cntP_F (fun z => c35 z.2))]; exact hl
            refine lv_iinc (v := nI (k + 1)) (lv' := [(4, .int (nI (k + 1))), (5, .ref (ad 12 k)), (3, .int 60), (2, .ref (ad 6 0)), (1, .int (cntP (nt σ) (fun k => ¬ σ 19 k = -1) (k + 1))), (0, .ref (ad 0 0))]) hx hb dX6_palletsHere_41 hl (k := 1) rfl (nI_1 _) (by decide) rfl (fun ls hl => ?_)
            refine lv_goto (tgt := 13) hx hb dX6_palletsHere_44 (by decide) ?_
            exact ih13 (k + 1) (by omega) (by omega) _ _ hI ls (lv_sub hl [0, 2, 3, 4, 5] rfl)
          · have c35 := bi_1.mp c35
            refine lv_iinc (v := cntP (nt σ) (fun k => ¬ σ 19 k = -1) (k + 1)) (lv' := [(1, .int (cntP (nt σ) (fun k => ¬ σ 19 k = -1) (k + 1))), (5, .ref (ad 12 k)), (4, .int (nI k)), (3, .int 60), (2, .ref (ad 6 0)), (0, .ref (ad 0 0))]) hx hb dX6_palletsHere_38 hl (k := 4) rfl (cntP_T ⟨hlt, c35⟩).symm (by decide) rfl (fun ls hl => ?_)
            refine lv_iinc (v := nI (k + 1)) (lv' := [(4, .int (nI (k + 1))), (1, .int (cntP (nt σ) (fun k => ¬ σ 19 k = -1) (k + 1))), (5, .ref (ad 12 k)), (3, .int 60), (2, .ref (ad 6 0)), (0, .ref (ad 0 0))]) hx hb dX6_palletsHere_41 hl (k := 2) rfl (nI_1 _) (by decide) rfl (fun ls hl => ?_)
            refine lv_goto (tgt := 13) hx hb dX6_palletsHere_44 (by decide) ?_
            exact ih13 (k + 1) (by omega) (by omega) _ _ hI ls (lv_sub hl [0, 3, 4, 1, 5] rfl)
  exact L13 61 0 (by omega) (by omega) _ _ hI ls (lv_sub hl [0, 1, 2, 3, 4] rfl)
set_option maxHeartbeats 4000000 in
set_option maxRecDepth 100000 in
theorem tX6_spoiledHere (l : Launch) (g : Gg) (B0 : Nat) (ad : Ad) (σ : Sg) (pd : Int64) (pl : Pl) (sc : Sg) (h : Wd) (hok : OkP σ) : MM l g B0 yX6_spoiledHere (wsM yX6_spoiledHere cX6_spoiledHere 6 (some .int)) ({ frames := 2, cells := 0, slots := 0, locals := 40 } : Room) [.ref (ad 0 0)] ad (fC g ad σ pd pl sc h) (dI (thereS σ (-1) 1) ad (fC g ad σ pd pl sc h)) (noX) 0 0 := by
  refine MM.start (by decide) (Nat.le_of_ble_eq_true rfl) ?_
  intro hl9 p e s m below meth c ls hC hno hI hl0
  have hx := hC.1.1
  have hb := hC.1.2.1
  have hts := hC.1.2.2.2.2
  have hl : lv_has ls 6 [(0, .ref (ad 0 0))] := hl0
  obtain ⟨H, hH⟩ : ∃ H, H = s.heap := ⟨_, rfl⟩
  obtain ⟨locs, hLo⟩ : ∃ L : List Loc, L = [] := ⟨_, rfl⟩
  rw [← hH, ← hLo] at hI ⊢
  clear hH hLo hl0
  obtain ⟨h17, h60, h10, h6, h5, h12, hpr, hrm⟩ := id hok
  refine lv_iconst (v := 0) hx hb dX6_spoiledHere_0 (by decide) ?_
  refine lv_istore_n (lv' := [(1, .int (cntP (nt σ) (fun k => ¬ σ 19 k = -1 ∧ leftS σ k < 0) 0)), (0, .ref (ad 0 0))]) hx hb dX6_spoiledHere_1 rfl hl (by decide) rfl (fun ls hl => ?_)
  refine lv_aload_n hx hb dX6_spoiledHere_2 rfl (lv_at hl 1 rfl) ?_
  refine gf_X6_37 hC hI fC_0 rfl dX6_spoiledHere_3 ?_
  refine lv_astore_n (lv' := [(2, .ref (ad 6 0)), (1, .int (cntP (nt σ) (fun k => ¬ σ 19 k = -1 ∧ leftS σ k < 0) 0)), (0, .ref (ad 0 0))]) hx hb dX6_spoiledHere_6 rfl hl (by decide) rfl (fun ls hl => ?_)
  refine lv_aload_n hx hb dX6_spoiledHere_7 rfl (lv_at hl 0 rfl) ?_
  refine r_alen hC hI fC_6 2 rfl (v := 60) rfl dX6_spoiledHere_8 ?_
  refine lv_istore_n (lv' := [(3, .int 60), (2, .ref (ad 6 0)), (1, .int (cntP (nt σ) (fun k => ¬ σ 19 k = -1 ∧ leftS σ k < 0) 0)), (0, .ref (ad 0 0))]) hx hb dX6_spoiledHere_9 rfl hl (by decide) rfl (fun ls hl => ?_)
  refine lv_iconst (v := 0) hx hb dX6_spoiledHere_10 (by decide) ?_
  refine lv_istore (lv' := [(4, .int (nI 0)), (3, .int 60), (2, .ref (ad 6 0)), (1, .int (cntP (nt σ) (fun k => ¬ σ 19 k = -1 ∧ leftS σ k < 0) 0)), (0, .ref (ad 0 0))]) hx hb dX6_spoiledHere_11 hl (by decide) rfl (fun ls hl => ?_)
  have L13 : ∀ (n : Nat) (k : Nat), k ≤ 60 → 61 ≤ k + n → ∀ (H : Heap) (locs : List Loc), WI g ad B0 (fC g ad σ pd pl sc h) s H locs → ∀ (ls : Array Slot), lv_has ls 6 [(4, .int (nI k)), (3, .int 60), (2, .ref (ad 6 0)), (1, .int (cntP (nt σ) (fun k => ¬ σ 19 k = -1 ∧ leftS σ k < 0) k)), (0, .ref (ad 0 0))] → W p l e ({ frames := 2, cells := 0, slots := 0, locals := 40 } : Room) s m ([.ref (ad 0 0)] : List Value).toArray below meth c H locs 0 0 (vx_MQ below (QI g B0 (dI (thereS σ (-1) 1) ad (fC g ad σ pd pl sc h))) (XI g B0 (noX)) ([.ref (ad 0 0)] : List Value).toArray s 0 0 (fun q => B0 ≤ q)) (F0 m 13 ls []) := by
    intro n
    induction n with
    | zero =>
      intro k hk hfu
      exact absurd hfu (by omega)
    | succ n ih13 =>
      intro k hk hfu H locs hI ls hl
      refine lv_iload hx hb dX6_spoiledHere_13 (lv_at hl 0 rfl) ?_
      refine lv_iload_n hx hb dX6_spoiledHere_15 rfl (lv_at hl 1 rfl) ?_
      refine lv_icmp_ge (tgt := 55) hx hb dX6_spoiledHere_16 (by decide) (fun c16 => ?_) (fun c16 => ?_)
      · have hk2 : 60 ≤ k := ge_T rfl (by decide) (by omega) c16
        refine lv_iload_n hx hb dX6_spoiledHere_55 rfl (lv_at hl 3 rfl) ?_
        exact e_int hC hI (rI (by rw [show k = 60 by omega]; exact there_cnt h60 (fun k _ => ⟨fun z => ⟨z.1, Decidable.not_not.mp (fun y => by rw [bi_f y] at z; exact absurd z.2.2 (by decide))⟩, fun z => ⟨z.1, Or.inl rfl, bi_t z.2⟩⟩))) (Nat.le_of_ble_eq_true rfl) (Nat.le_of_ble_eq_true rfl) dX6_spoiledHere_56
      · have hk2 : k < 60 := ge_F rfl (by decide) (by omega) c16
        refine lv_aload_n hx hb dX6_spoiledHere_19 rfl (lv_at hl 2 rfl) ?_
        refine lv_iload hx hb dX6_spoiledHere_20 (lv_at hl 0 rfl) ?_
        refine r_aald hC hI fC_6 2 rfl (j := k) rfl hk2 (by decide) dX6_spoiledHere_22 ?_
        refine lv_topo (fun e22 => ?_) (fun q22 e22 => ?_)
        · have hlt := opt_n e22
          have hl : lv_has ls 6 [(4, .int (nI k)), (3, .int 60), (2, .ref (ad 6 0)), (1, .int (cntP (nt σ) (fun k => ¬ σ 19 k = -1 ∧ leftS σ k < 0) (k + 1))), (0, .ref (ad 0 0))] := by rw [show cntP (nt σ) (fun k => ¬ σ 19 k = -1 ∧ leftS σ k < 0) (k + 1) = cntP (nt σ) (fun k => ¬ σ 19 k = -1 ∧ leftS σ k < 0) k from (cntP_F (fun z => hlt z.1))]; exact hl
          refine lv_astoreN (lv' := [(5, .null), (4, .int (nI k)), (3, .int 60), (2, .ref (ad 6 0)), (1, .int (cntP (nt σ) (fun k => ¬ σ 19 k = -1 ∧ leftS σ k < 0) (k + 1))), (0, .ref (ad 0 0))]) hx hb dX6_spoiledHere_23 hl (by decide) rfl (fun ls hl => ?_)
          refine lv_aloadN hx hb dX6_spoiledHere_25 (lv_at hl 0 rfl) ?_
          refine lv_ifnullN (tgt := 49) hx hb dX6_spoiledHere_27 (by decide) ?_
          refine lv_iinc (v := nI (k + 1)) (lv' := [(4, .int (nI (k + 1))), (5, .null), (3, .int 60), (2, .ref (ad 6 0)), (1, .int (cntP (nt σ) (fun k => ¬ σ 19 k = -1 ∧ leftS σ k < 0) (k + 1))), (0, .ref (ad 0 0))]) hx hb dX6_spoiledHere_49 hl (k := 1) rfl (nI_1 _) (by decide) rfl (fun ls hl => ?_)
          refine lv_goto (tgt := 13) hx hb dX6_spoiledHere_52 (by decide) ?_
          exact ih13 (k + 1) (by omega) (by omega) _ _ hI ls (lv_sub hl [0, 2, 3, 4, 5] rfl)
        · obtain ⟨hlt, rfl⟩ := opt_y e22
          have hpk := (hpr k hlt).2
          refine lv_astore (lv' := [(5, .ref (ad 12 k)), (4, .int (nI k)), (3, .int 60), (2, .ref (ad 6 0)), (1, .int (cntP (nt σ) (fun k => ¬ σ 19 k = -1 ∧ leftS σ k < 0) k)), (0, .ref (ad 0 0))]) hx hb dX6_spoiledHere_23 hl (by decide) rfl (fun ls hl => ?_)
          refine lv_aload hx hb dX6_spoiledHere_25 (lv_at hl 0 rfl) ?_
          refine lv_ifnull hx hb dX6_spoiledHere_27 ?_
          refine lv_aload hx hb dX6_spoiledHere_30 (lv_at hl 0 rfl) ?_
          refine c_Vi (rest := []) hl9 hC hI hl.1 (tX2_isHere l g B0 ad _ k (prd σ k) (rmR ad σ k) _ _ _ _ (fC_12 hlt)) (cw_X6_187 hts rfl rfl ⟨(Nat.le_of_ble_eq_true rfl), (Nat.le_of_ble_eq_true rfl)⟩) (fC_12 hlt) rfl rfl rfl rfl (Nat.le_of_ble_eq_true rfl) dX6_spoiledHere_32 ⟨(Nat.le_of_ble_eq_true rfl), (Nat.le_of_ble_eq_true rfl)⟩ (fun H locs hI => ?_)
          rw [rm_bi]
          refine lv_if_eq (tgt := 49) hx hb dX6_spoiledHere_35 (by decide) (fun c35 => ?_) (fun c35 => ?_)
          · have c35 := bi_0.mp c35
            have hl : lv_has ls 6 [(5, .ref (ad 12 k)), (4, .int (nI k)), (3, .int 60), (2, .ref (ad 6 0)), (1, .int (cntP (nt σ) (fun k => ¬ σ 19 k = -1 ∧ leftS σ k < 0) (k + 1))), (0, .ref (ad 0 0))] := by rw [show cntP (nt σ) (fun k => ¬ σ 19 k = -1 ∧ leftS σ k < 0) (k + 1) = cntP (nt σ) (fun k => ¬ σ 19 k = -1 ∧ leftS σ k < 0) k from (cntP_F (fun z => c35 z.2.1))]; exact hl
            refine lv_iinc (v := nI (k + 1)) (lv' := [(4, .int (nI (k + 1))), (5, .ref (ad 12 k)), (3, .int 60), (2, .ref (ad 6 0)), (1, .int (cntP (nt σ) (fun k => ¬ σ 19 k = -1 ∧ leftS σ k < 0) (k + 1))), (0, .ref (ad 0 0))]) hx hb dX6_spoiledHere_49 hl (k := 1) rfl (nI_1 _) (by decide) rfl (fun ls hl => ?_)
            refine lv_goto (tgt := 13) hx hb dX6_spoiledHere_52 (by decide) ?_
            exact ih13 (k + 1) (by omega) (by omega) _ _ hI ls (lv_sub hl [0, 2, 3, 4, 5] rfl)
          · have c35 := bi_1.mp c35
            refine lv_aload hx hb dX6_spoiledHere_38 (lv_at hl 0 rfl) ?_
            refine c_Vi (rest := []) hl9 hC hI hl.1 (tX2_isSpoiled l g B0 ad _ k (prd σ k) (rmR ad σ k) _ _ _ _ _ _ _ _ _ (fC_12 hlt) (fC_7 hpk)) (cw_X6_191 hts rfl rfl ⟨(Nat.le_of_ble_eq_true rfl), (Nat.le_of_ble_eq_true rfl)⟩) (fC_12 hlt) rfl rfl rfl rfl (Nat.le_of_ble_eq_true rfl) dX6_spoiledHere_40 ⟨(Nat.le_of_ble_eq_true rfl), (Nat.le_of_ble_eq_true rfl)⟩ (fun H locs hI => ?_)
            refine lv_if_eq (tgt := 49) hx hb dX6_spoiledHere_43 (by decide) (fun c43 => ?_) (fun c43 => ?_)
            · have c43 := bi_0.mp c43
              have hl : lv_has ls 6 [(5, .ref (ad 12 k)), (4, .int (nI k)), (3, .int 60), (2, .ref (ad 6 0)), (1, .int (cntP (nt σ) (fun k => ¬ σ 19 k = -1 ∧ leftS σ k < 0) (k + 1))), (0, .ref (ad 0 0))] := by rw [show cntP (nt σ) (fun k => ¬ σ 19 k = -1 ∧ leftS σ k < 0) (k + 1) = cntP (nt σ) (fun k => ¬ σ 19 k = -1 ∧ leftS σ k < 0) k from (cntP_F (fun z => c43 z.2.2))]; exact hl
              refine lv_iinc (v := nI (k + 1)) (lv' := [(4, .int (nI (k + 1))), (5, .ref (ad 12 k)), (3, .int 60), (2, .ref (ad 6 0)), (1, .int (cntP (nt σ) (fun k => ¬ σ 19 k = -1 ∧ leftS σ k < 0) (k + 1))), (0, .ref (ad 0 0))]) hx hb dX6_spoiledHere_49 hl (k := 1) rfl (nI_1 _) (by decide) rfl (fun ls hl => ?_)
              refine lv_goto (tgt := 13) hx hb dX6_spoiledHere_52 (by decide) ?_
              exact ih13 (k + 1) (by omega) (by omega) _ _ hI ls (lv_sub hl [0, 2, 3, 4, 5] rfl)
            · have c43 := bi_1.mp c43
              refine lv_iinc (v := cntP (nt σ) (fun k => ¬ σ 19 k = -1 ∧ leftS σ k < 0) (k + 1)) (lv' := [(1, .int (cntP (nt σ) (fun k => ¬ σ 19 k = -1 ∧ leftS σ k < 0) (k + 1))), (5, .ref (ad 12 k)), (4, .int (nI k)), (3, .int 60), (2, .ref (ad 6 0)), (0, .ref (ad 0 0))]) hx hb dX6_spoiledHere_46 hl (k := 4) rfl (cntP_T ⟨hlt, c35, c43⟩).symm (by decide) rfl (fun ls hl => ?_)
              refine lv_iinc (v := nI (k + 1)) (lv' := [(4, .int (nI (k + 1))), (1, .int (cntP (nt σ) (fun k => ¬ σ 19 k = -1 ∧ leftS σ k < 0) (k + 1))), (5, .ref (ad 12 k)), (3, .int 60), (2, .ref (ad 6 0)), (0, .ref (ad 0 0))]) hx hb dX6_spoiledHere_49 hl (k := 2) rfl (nI_1 _) (by decide) rfl (fun ls hl => ?_)
              refine lv_goto (tgt := 13) hx hb dX6_spoiledHere_52 (by decide) ?_
              exact ih13 (k + 1) (by omega) (by omega) _ _ hI ls (lv_sub hl [0, 3, 4, 1, 5] rfl)
  exact L13 61 0 (by omega) (by omega) _ _ hI ls (lv_sub hl [0, 1, 2, 3, 4] rfl)
set_option maxHeartbeats 4000000 in
set_option maxRecDepth 100000 in
theorem tX6_countOf (l : Launch) (g : Gg) (B0 : Nat) (ad : Ad) (σ : Sg) (pd : Int64) (pl : Pl) (sc : Sg) (h : Wd) (w : Int32) (hok : OkP σ) : MM l g B0 yX6_countOf (wsM yX6_countOf cX6_countOf 2 (some .int)) ({ frames := 2, cells := 0, slots := 0, locals := 45 } : Room) [.ref (ad 0 0), .int w] ad (fC g ad σ pd pl sc h) (dI (cntS σ w) ad (fC g ad σ pd pl sc h)) (noX) 0 0 := by
  refine MM.start (by decide) (Nat.le_of_ble_eq_true rfl) ?_
  intro hl9 p e s m below meth c ls hC hno hI hl0
  have hx := hC.1.1
  have hb := hC.1.2.1
  have hts := hC.1.2.2.2.2
  have hl : lv_has ls 2 [(0, .ref (ad 0 0)), (1, .int w)] := hl0
  obtain ⟨H, hH⟩ : ∃ H, H = s.heap := ⟨_, rfl⟩
  obtain ⟨locs, hLo⟩ : ∃ L : List Loc, L = [] := ⟨_, rfl⟩
  rw [← hH, ← hLo] at hI ⊢
  clear hH hLo hl0
  refine lv_iload_n hx hb dX6_countOf_0 rfl (lv_at hl 1 rfl) ?_
  by_cases s0 : w = 0
  · subst s0
    refine lv_tableIn (tgt := 32) hx hb dX6_countOf_1 (by decide) (by decide) rfl (by decide) ?_
    refine lv_aload_n hx hb dX6_countOf_32 rfl (lv_at hl 0 rfl) ?_
    refine gf_X6_41 hC hI fC_0 rfl dX6_countOf_33 ?_
    exact e_int hC hI (rI rfl) (Nat.le_of_ble_eq_true rfl) (Nat.le_of_ble_eq_true rfl) dX6_countOf_36
  by_cases s1 : w = 1
  · subst s1
    refine lv_tableIn (tgt := 37) hx hb dX6_countOf_1 (by decide) (by decide) rfl (by decide) ?_
    refine lv_aload_n hx hb dX6_countOf_37 rfl (lv_at hl 0 rfl) ?_
    refine gf_X6_45 hC hI fC_0 rfl dX6_countOf_38 ?_
    exact e_int hC hI (rI rfl) (Nat.le_of_ble_eq_true rfl) (Nat.le_of_ble_eq_true rfl) dX6_countOf_41
  by_cases s2 : w = 2
  · subst s2
    refine lv_tableIn (tgt := 42) hx hb dX6_countOf_1 (by decide) (by decide) rfl (by decide) ?_
    refine lv_aload_n hx hb dX6_countOf_42 rfl (lv_at hl 0 rfl) ?_
    refine gf_X6_48 hC hI fC_0 rfl dX6_countOf_43 ?_
    exact e_int hC hI (rI rfl) (Nat.le_of_ble_eq_true rfl) (Nat.le_of_ble_eq_true rfl) dX6_countOf_46
  by_cases s3 : w = 3
  · subst s3
    refine lv_tableIn (tgt := 47) hx hb dX6_countOf_1 (by decide) (by decide) rfl (by decide) ?_
    refine lv_aload_n hx hb dX6_countOf_47 rfl (lv_at hl 0 rfl) ?_
    refine c_Vi (rest := []) hl9 hC hI hl.1 (tX6_palletsHere l g B0 ad σ pd pl sc h hok) (cw_X6_257 hts rfl rfl ⟨(Nat.le_of_ble_eq_true rfl), (Nat.le_of_ble_eq_true rfl)⟩) fC_0 rfl rfl rfl rfl (Nat.le_of_ble_eq_true rfl) dX6_countOf_48 ⟨(Nat.le_of_ble_eq_true rfl), (Nat.le_of_ble_eq_true rfl)⟩ (fun H locs hI => ?_)
    exact e_int hC hI (rI rfl) (Nat.le_of_ble_eq_true rfl) (Nat.le_of_ble_eq_true rfl) dX6_countOf_51
  refine lv_tableOut (tgt := 52) hx hb dX6_countOf_1 (by have := sw_n (z := 0) (by decide) s0; have := sw_n (z := 1) (by decide) s1; have := sw_n (z := 2) (by decide) s2; have := sw_n (z := 3) (by decide) s3; omega) (by decide) ?_
  refine lv_aload_n hx hb dX6_countOf_52 rfl (lv_at hl 0 rfl) ?_
  refine gf_X6_51 hC hI fC_0 rfl dX6_countOf_53 ?_
  exact e_int hC hI (rI (by unfold cntS; rw [if_neg s0, if_neg s1, if_neg s2, if_neg s3])) (Nat.le_of_ble_eq_true rfl) (Nat.le_of_ble_eq_true rfl) dX6_countOf_56