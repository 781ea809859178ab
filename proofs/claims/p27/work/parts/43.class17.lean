/-! THE COLD STORE'S CALLS, fifth part: clear, ship -/
theorem Rg_19 {σ : Sg} {fn : Nat → Int32} (h : Rg σ) : Rg (su σ 19 fn) := Rg_congr h (fun k _ _ _ h19 _ _ _ => su_n _ _ h19) (fun r hr => (h.2.1 r hr).2.2.2.2.2)
theorem Fr_19 {σ : Sg} {fn : Nat → Int32} (h : Fr σ) : Fr (su σ 19 fn) := h
theorem Rg_22 {σ : Sg} {v : Int32} (h : Rg σ) : Rg (ss σ 22 v) := Rg_congr h (fun k _ _ _ _ _ _ h22 => su_n _ _ h22) (fun r hr => (h.2.1 r hr).2.2.2.2.2)
theorem clrF_g {σ : Sg} {k : Nat} (h : σ 19 k = -1) : su σ 19 (clrF σ k) = su σ 19 (clrF σ (k + 1)) := by
  congr 1
  funext j
  unfold clrF
  by_cases hj : j = k
  · subst hj
    rw [if_neg (fun z => Nat.lt_irrefl _ z.1)]
    by_cases c : leftS σ j < 0
    · rw [if_pos ⟨Nat.lt_succ_self _, c⟩, h]
    · rw [if_neg (fun z => c z.2)]
  · by_cases c : j < k ∧ leftS σ j < 0
    · rw [if_pos c, if_pos ⟨by omega, c.2⟩]
    · rw [if_neg c, if_neg (fun z => c ⟨by omega, z.2⟩)]
theorem clrF_at {σ : Sg} {k : Nat} : su σ 19 (clrF σ k) 19 k = σ 19 k := (congrFun (su_s _ _ _) k).trans (if_neg (fun z => Nat.lt_irrefl _ z.1))
section ASTO
variable {p : Program} {l : Launch} {e : Env} {R : Room} {s : State} {m : MethodId} {args : Array Value} {below : List Frame} {meth : Method} {c : Code} {H : Heap} {locs : List Loc} {cells slots : Nat} {Q : State → Prop} {pc : Nat} {ls : Array Slot} {rest : List Value} {cc : ByteArray}
theorem lv_astoreO (hexec : p.tables.exec = Jvm.exec) (hb : c.code = cc) {i nL : Nat} {o : Option Nat} {lv lv' : List (Nat × Value)} (hdg : decode cc pc = .ok (.astore i, 2)) (h : lv_has ls nL lv) (hn : i < nL) (hl : (i, va_rf o) :: lv.filter (fun q => !(q.1 == i) && !(q.1 + 1 == i && q.2.category == 2)) = lv') (k : ∀ ls', lv_has ls' nL lv' → W p l e R s m args below meth c H locs cells slots Q (F0 m (pc + 2) ls' rest)) : W p l e R s m args below meth c H locs cells slots Q (F0 m pc ls (va_rf o :: rest)) := by
  cases o with
  | none => exact lv_astoreN hexec hb hdg h hn hl k
  | some x => exact lv_astore hexec hb hdg h hn hl k
end ASTO

set_option maxHeartbeats 4000000 in
set_option maxRecDepth 100000 in
theorem tX6_clear (l : Launch) (g : Gg) (B0 : Nat) (ad : Ad) (σ : Sg) (pd : Int64) (pl : Pl) (sc : Sg) (h : Wd) (hIv : Iv σ pl)  : MM l g B0 yX6_clear (wsM yX6_clear cX6_clear 6 (some .int)) ({ frames := 2, cells := 0, slots := 0, locals := 43 } : Room) [.ref (ad 0 0)] ad (fC g ad σ pd pl sc h) (rC g ad 0 (thereS σ (-1) 1) (stCL σ) pd h) (noX) 0 0 := by
  refine MM.start (by decide) (Nat.le_of_ble_eq_true rfl) ?_
  intro hl9 p e s m below meth c ls hC hno hI hl0
  have hx := hC.1.1
  have hb := hC.1.2.1
  have hts := hC.1.2.2.2.2
  have hl : lv_has ls 6 [(0, .ref (ad 0 0))] := hl0
  obtain ⟨H, hH⟩ : ∃ H, H = s.heap := ⟨_, rfl⟩
  obtain ⟨locs, hLo⟩ : ∃ L : List Loc, L = [] := ⟨_, rfl⟩
  rw [← hH, ← hLo] at hI ⊢
  clear hH hLo hl0
  obtain ⟨hok, hP, hR, hF⟩ := id hIv
  obtain ⟨h17, h60, h10, h6, h5, h12, hpr, hrm⟩ := id hok
  refine lv_iconst (v := 0) hx hb dX6_clear_0 (by decide) ?_
  refine lv_istore_n (lv' := [(1, .int (cntP (nt σ) (fun k => ¬ σ 19 k = -1 ∧ leftS σ k < 0) 0)), (0, .ref (ad 0 0))]) hx hb dX6_clear_1 rfl hl (by decide) rfl (fun ls hl => ?_)
  refine lv_aload_n hx hb dX6_clear_2 rfl (lv_at hl 1 rfl) ?_
  refine gf_X6_37 hC hI fC_0 rfl dX6_clear_3 ?_
  refine lv_astore_n (lv' := [(2, .ref (ad 6 0)), (1, .int (cntP (nt σ) (fun k => ¬ σ 19 k = -1 ∧ leftS σ k < 0) 0)), (0, .ref (ad 0 0))]) hx hb dX6_clear_6 rfl hl (by decide) rfl (fun ls hl => ?_)
  refine lv_aload_n hx hb dX6_clear_7 rfl (lv_at hl 0 rfl) ?_
  refine r_alen hC hI fC_6 2 rfl (v := 60) rfl dX6_clear_8 ?_
  refine lv_istore_n (lv' := [(3, .int 60), (2, .ref (ad 6 0)), (1, .int (cntP (nt σ) (fun k => ¬ σ 19 k = -1 ∧ leftS σ k < 0) 0)), (0, .ref (ad 0 0))]) hx hb dX6_clear_9 rfl hl (by decide) rfl (fun ls hl => ?_)
  refine lv_iconst (v := 0) hx hb dX6_clear_10 (by decide) ?_
  refine lv_istore (lv' := [(4, .int (nI 0)), (3, .int 60), (2, .ref (ad 6 0)), (1, .int (cntP (nt σ) (fun k => ¬ σ 19 k = -1 ∧ leftS σ k < 0) 0)), (0, .ref (ad 0 0))]) hx hb dX6_clear_11 hl (by decide) rfl (fun ls hl => ?_)
  have L13 : ∀ (n : Nat) (k : Nat) (pl1 : Pl), k ≤ 60 → 61 ≤ k + n → PlOk (su σ 19 (clrF σ (min k (nt σ)))) pl1 → ∀ (H : Heap) (locs : List Loc), WI g ad B0 (fC g ad (su σ 19 (clrF σ (min k (nt σ)))) pd pl1 sc h) s H locs → ∀ (ls : Array Slot), lv_has ls 6 [(4, .int (nI k)), (3, .int 60), (2, .ref (ad 6 0)), (1, .int (cntP (nt σ) (fun k => ¬ σ 19 k = -1 ∧ leftS σ k < 0) k)), (0, .ref (ad 0 0))] → W p l e ({ frames := 2, cells := 0, slots := 0, locals := 43 } : Room) s m ([.ref (ad 0 0)] : List Value).toArray below meth c H locs 0 0 (vx_MQ below (QI g B0 (rC g ad 0 (thereS σ (-1) 1) (stCL σ) pd h)) (XI g B0 (noX)) ([.ref (ad 0 0)] : List Value).toArray s 0 0 (fun q => B0 ≤ q)) (F0 m 13 ls []) := by
    intro n
    induction n with
    | zero =>
      intro k pl1 hk hfu hP1
      exact absurd hfu (by omega)
    | succ n ih13 =>
      intro k pl1 hk hfu hP1 H locs hI ls hl
      refine lv_iload hx hb dX6_clear_13 (lv_at hl 0 rfl) ?_
      refine lv_iload_n hx hb dX6_clear_15 rfl (lv_at hl 1 rfl) ?_
      refine lv_icmp_ge (tgt := 60) hx hb dX6_clear_16 (by decide) (fun c16 => ?_) (fun c16 => ?_)
      · have hk2 : 60 ≤ k := ge_T rfl (by decide) (by omega) c16
        have hk6 : k = 60 := by omega
        refine lv_iload_n hx hb dX6_clear_60 rfl (lv_at hl 3 rfl) ?_
        exact e_int hC hI ⟨rfl, by rw [hk6, there_cnt h60 (fun k _ => ⟨fun z => ⟨z.1, Decidable.not_not.mp (fun y => by rw [bi_f y] at z; exact absurd z.2.2 (by decide))⟩, fun z => ⟨z.1, Or.inl rfl, bi_t z.2⟩⟩)], fun _ _ _ => rfl, pl1, sc, by rw [show min k (nt σ) = nt σ by omega] at hP1; exact hP1, by rw [show min k (nt σ) = nt σ by omega]; rfl⟩ (Nat.le_of_ble_eq_true rfl) (Nat.le_of_ble_eq_true rfl) dX6_clear_61
      · have hk2 : k < 60 := ge_F rfl (by decide) (by omega) c16
        refine lv_aload_n hx hb dX6_clear_19 rfl (lv_at hl 2 rfl) ?_
        refine lv_iload hx hb dX6_clear_20 (lv_at hl 0 rfl) ?_
        refine r_aald hC hI fC_6 2 rfl (j := k) rfl hk2 (by decide) dX6_clear_22 ?_
        refine lv_topo (fun e22 => ?_) (fun q22 e22 => ?_)
        · have hlt : ¬ k < nt σ := opt_n e22
          have hI : WI g ad B0 (fC g ad (su σ 19 (clrF σ (min (k + 1) (nt σ)))) pd pl1 sc h) s H locs := hI.cast (by rw [show min (k + 1) (nt σ) = min k (nt σ) by omega])
          have hl : lv_has ls 6 [(4, .int (nI k)), (3, .int 60), (2, .ref (ad 6 0)), (1, .int (cntP (nt σ) (fun k => ¬ σ 19 k = -1 ∧ leftS σ k < 0) (k + 1))), (0, .ref (ad 0 0))] := by rw [show cntP (nt σ) (fun k => ¬ σ 19 k = -1 ∧ leftS σ k < 0) (k + 1) = cntP (nt σ) (fun k => ¬ σ 19 k = -1 ∧ leftS σ k < 0) k from (cntP_F (fun z => hlt z.1))]; exact hl
          have hP9 : PlOk (su σ 19 (clrF σ (min (k + 1) (nt σ)))) pl1 := by rw [show min (k + 1) (nt σ) = min k (nt σ) by omega]; exact hP1
          refine lv_astoreN (lv' := [(5, .null), (4, .int (nI k)), (3, .int 60), (2, .ref (ad 6 0)), (1, .int (cntP (nt σ) (fun k => ¬ σ 19 k = -1 ∧ leftS σ k < 0) (k + 1))), (0, .ref (ad 0 0))]) hx hb dX6_clear_23 hl (by decide) rfl (fun ls hl => ?_)
          refine lv_aloadN hx hb dX6_clear_25 (lv_at hl 0 rfl) ?_
          refine lv_ifnullN (tgt := 54) hx hb dX6_clear_27 (by decide) ?_
          refine lv_iinc (v := nI (k + 1)) (lv' := [(4, .int (nI (k + 1))), (5, .null), (3, .int 60), (2, .ref (ad 6 0)), (1, .int (cntP (nt σ) (fun k => ¬ σ 19 k = -1 ∧ leftS σ k < 0) (k + 1))), (0, .ref (ad 0 0))]) hx hb dX6_clear_54 hl (k := 1) rfl (nI_1 _) (by decide) rfl (fun ls hl => ?_)
          refine lv_goto (tgt := 13) hx hb dX6_clear_57 (by decide) ?_
          refine W.widen (k := 0) (n := 0) (by omega) (by omega) ?_
          exact ih13 (k + 1) pl1 (by omega) (by omega) hP9 _ _ hI ls (lv_sub hl [0, 2, 3, 4, 5] rfl)
        · obtain ⟨hlt, rfl⟩ := opt_y e22
          have hlt : k < nt σ := hlt
          have hpk : prd σ k < np σ := (hpr k hlt).2
          have hI : WI g ad B0 (fC g ad (su σ 19 (clrF σ k)) pd pl1 sc h) s H locs := hI.cast (by rw [show min k (nt σ) = k by omega])
          have hP1k : PlOk (su σ 19 (clrF σ k)) pl1 := by rw [show min k (nt σ) = k by omega] at hP1; exact hP1
          refine lv_astore (lv' := [(5, .ref (ad 12 k)), (4, .int (nI k)), (3, .int 60), (2, .ref (ad 6 0)), (1, .int (cntP (nt σ) (fun k => ¬ σ 19 k = -1 ∧ leftS σ k < 0) k)), (0, .ref (ad 0 0))]) hx hb dX6_clear_23 hl (by decide) rfl (fun ls hl => ?_)
          refine lv_aload hx hb dX6_clear_25 (lv_at hl 0 rfl) ?_
          refine lv_ifnull hx hb dX6_clear_27 ?_
          refine lv_aload hx hb dX6_clear_30 (lv_at hl 0 rfl) ?_
          refine c_Vi (rest := []) hl9 hC hI hl.1 (tX2_isHere l g B0 ad _ k (prd (su σ 19 (clrF σ k)) k) (rmR ad (su σ 19 (clrF σ k)) k) _ _ _ _ (fC_12 hlt)) (cw_X6_187 hts rfl rfl ⟨(Nat.le_of_ble_eq_true rfl), (Nat.le_of_ble_eq_true rfl)⟩) (fC_12 hlt) rfl rfl rfl rfl (Nat.le_of_ble_eq_true rfl) dX6_clear_32 ⟨(Nat.le_of_ble_eq_true rfl), (Nat.le_of_ble_eq_true rfl)⟩ (fun H locs hI => ?_)
          rw [rm_bi, clrF_at]
          refine lv_if_eq (tgt := 54) hx hb dX6_clear_35 (by decide) (fun c35 => ?_) (fun c35 => ?_)
          · have c35 := bi_0.mp c35
            have hl : lv_has ls 6 [(5, .ref (ad 12 k)), (4, .int (nI k)), (3, .int 60), (2, .ref (ad 6 0)), (1, .int (cntP (nt σ) (fun k => ¬ σ 19 k = -1 ∧ leftS σ k < 0) (k + 1))), (0, .ref (ad 0 0))] := by rw [show cntP (nt σ) (fun k => ¬ σ 19 k = -1 ∧ leftS σ k < 0) (k + 1) = cntP (nt σ) (fun k => ¬ σ 19 k = -1 ∧ leftS σ k < 0) k from (cntP_F (fun z => c35 z.2.1))]; exact hl
            have hP9 : PlOk (su σ 19 (clrF σ (min (k + 1) (nt σ)))) pl1 := by rw [show min (k + 1) (nt σ) = k + 1 by omega, ← clrF_g (Decidable.not_not.mp c35)]; exact hP1k
            have hI : WI g ad B0 (fC g ad (su σ 19 (clrF σ (min (k + 1) (nt σ)))) pd pl1 sc h) s H locs := hI.cast (by rw [show min (k + 1) (nt σ) = k + 1 by omega, ← clrF_g (Decidable.not_not.mp c35)])
            refine lv_iinc (v := nI (k + 1)) (lv' := [(4, .int (nI (k + 1))), (5, .ref (ad 12 k)), (3, .int 60), (2, .ref (ad 6 0)), (1, .int (cntP (nt σ) (fun k => ¬ σ 19 k = -1 ∧ leftS σ k < 0) (k + 1))), (0, .ref (ad 0 0))]) hx hb dX6_clear_54 hl (k := 1) rfl (nI_1 _) (by decide) rfl (fun ls hl => ?_)
            refine lv_goto (tgt := 13) hx hb dX6_clear_57 (by decide) ?_
            refine W.widen (k := 0) (n := 0) (by omega) (by omega) ?_
            exact ih13 (k + 1) pl1 (by omega) (by omega) hP9 _ _ hI ls (lv_sub hl [0, 2, 3, 4, 5] rfl)
          · have c35 := bi_1.mp c35
            refine lv_aload hx hb dX6_clear_38 (lv_at hl 0 rfl) ?_
            refine c_Vi (rest := []) hl9 hC hI hl.1 (tX2_isSpoiled l g B0 ad _ k (prd (su σ 19 (clrF σ k)) k) (rmR ad (su σ 19 (clrF σ k)) k) _ _ _ _ _ _ _ _ _ (fC_12 hlt) (fC_7 hpk)) (cw_X6_191 hts rfl rfl ⟨(Nat.le_of_ble_eq_true rfl), (Nat.le_of_ble_eq_true rfl)⟩) (fC_12 hlt) rfl rfl rfl rfl (Nat.le_of_ble_eq_true rfl) dX6_clear_40 ⟨(Nat.le_of_ble_eq_true rfl), (Nat.le_of_ble_eq_true rfl)⟩ (fun H locs hI => ?_)
            refine lv_if_eq (tgt := 54) hx hb dX6_clear_43 (by decide) (fun c43 => ?_) (fun c43 => ?_)
            · have c43 := bi_0.mp c43
              have hl : lv_has ls 6 [(5, .ref (ad 12 k)), (4, .int (nI k)), (3, .int 60), (2, .ref (ad 6 0)), (1, .int (cntP (nt σ) (fun k => ¬ σ 19 k = -1 ∧ leftS σ k < 0) (k + 1))), (0, .ref (ad 0 0))] := by rw [show cntP (nt σ) (fun k => ¬ σ 19 k = -1 ∧ leftS σ k < 0) (k + 1) = cntP (nt σ) (fun k => ¬ σ 19 k = -1 ∧ leftS σ k < 0) k from (cntP_F (fun z => c43 z.2.2))]; exact hl
              have hP9 : PlOk (su σ 19 (clrF σ (min (k + 1) (nt σ)))) pl1 := by rw [show min (k + 1) (nt σ) = k + 1 by omega, ← clrF_n (show ¬ leftS σ k < 0 from c43)]; exact hP1k
              have hI : WI g ad B0 (fC g ad (su σ 19 (clrF σ (min (k + 1) (nt σ)))) pd pl1 sc h) s H locs := hI.cast (by rw [show min (k + 1) (nt σ) = k + 1 by omega, ← clrF_n (show ¬ leftS σ k < 0 from c43)])
              refine lv_iinc (v := nI (k + 1)) (lv' := [(4, .int (nI (k + 1))), (5, .ref (ad 12 k)), (3, .int 60), (2, .ref (ad 6 0)), (1, .int (cntP (nt σ) (fun k => ¬ σ 19 k = -1 ∧ leftS σ k < 0) (k + 1))), (0, .ref (ad 0 0))]) hx hb dX6_clear_54 hl (k := 1) rfl (nI_1 _) (by decide) rfl (fun ls hl => ?_)
              refine lv_goto (tgt := 13) hx hb dX6_clear_57 (by decide) ?_
              refine W.widen (k := 0) (n := 0) (by omega) (by omega) ?_
              exact ih13 (k + 1) pl1 (by omega) (by omega) hP9 _ _ hI ls (lv_sub hl [0, 2, 3, 4, 5] rfl)
            · have c43 := bi_1.mp c43
              refine lv_aload hx hb dX6_clear_46 (lv_at hl 0 rfl) ?_
              refine x_S (rest := []) hl9 hC hI hl.1 (tX6_leave l g B0 ad (su σ 19 (clrF σ k)) pd pl1 sc h k hlt (OkP_clr hok k) hP1k (Rg_19 hR)) (cw_X6_184 hts rfl rfl ⟨(Nat.le_of_ble_eq_true rfl), (Nat.le_of_ble_eq_true rfl)⟩) rfl rfl (Nat.le_of_ble_eq_true rfl) dX6_clear_48 ⟨(Nat.le_of_ble_eq_true rfl), (Nat.le_of_ble_eq_true rfl)⟩ hno (Nat.le_of_ble_eq_true rfl) (Nat.le_of_ble_eq_true rfl) (fun _ _ _ hx => hx.elim) (fun v ad1 w H locs hR hI => ?_)
              obtain ⟨rfl, ha9, pl2, hP2, rfl⟩ := hR; obtain rfl := ha9.symm
              have hP9 : PlOk (su σ 19 (clrF σ (min (k + 1) (nt σ)))) pl2 := by rw [show min (k + 1) (nt σ) = k + 1 by omega, ← clrF_s (show leftS σ k < 0 from c43)]; exact hP2
              have hI : WI g ad B0 (fC g ad (su σ 19 (clrF σ (min (k + 1) (nt σ)))) pd pl2 sc h) s H locs := hI.cast (by rw [show min (k + 1) (nt σ) = k + 1 by omega, ← clrF_s (show leftS σ k < 0 from c43)])
              refine lv_iinc (v := cntP (nt σ) (fun k => ¬ σ 19 k = -1 ∧ leftS σ k < 0) (k + 1)) (lv' := [(1, .int (cntP (nt σ) (fun k => ¬ σ 19 k = -1 ∧ leftS σ k < 0) (k + 1))), (5, .ref (ad 12 k)), (4, .int (nI k)), (3, .int 60), (2, .ref (ad 6 0)), (0, .ref (ad 0 0))]) hx hb dX6_clear_51 hl (k := 4) rfl (cntP_T ⟨hlt, c35, c43⟩).symm (by decide) rfl (fun ls hl => ?_)
              refine lv_iinc (v := nI (k + 1)) (lv' := [(4, .int (nI (k + 1))), (1, .int (cntP (nt σ) (fun k => ¬ σ 19 k = -1 ∧ leftS σ k < 0) (k + 1))), (5, .ref (ad 12 k)), (3, .int 60), (2, .ref (ad 6 0)), (0, .ref (ad 0 0))]) hx hb dX6_clear_54 hl (k := 2) rfl (nI_1 _) (by decide) rfl (fun ls hl => ?_)
              refine lv_goto (tgt := 13) hx hb dX6_clear_57 (by decide) ?_
              refine W.widen (k := 0) (n := 0) (by omega) (by omega) ?_
              exact ih13 (k + 1) pl2 (by omega) (by omega) hP9 _ _ hI ls (lv_sub hl [0, 3, 4, 1, 5] rfl)
  refine W.widen (k := 0) (n := 0) (by omega) (by omega) ?_
  exact L13 61 0 pl (by omega) (by omega) (by rw [Nat.zero_min, clrF_0]; exact hP) _ _ (hI.cast (show fC g ad σ pd pl sc h = fC g ad (su σ 19 (clrF σ (min 0 (nt σ)))) pd pl sc h from by rw [Nat.zero_min, clrF_0])) ls (lv_sub hl [0, 1, 2, 3, 4] rfl)
set_option maxHeartbeats 4000000 in
set_option maxRecDepth 100000 in
theorem tX6_ship (l : Launch) (g : Gg) (B0 : Nat) (ad : Ad) (σ : Sg) (pd : Int64) (pl : Pl) (sc : Sg) (h : Wd) (u many least : Int32) (hIv : Iv σ pl)  : MM l g B0 yX6_ship (wsM yX6_ship cX6_ship 7 (some .int)) ({ frames := 7, cells := 3, slots := 18, locals := 112 } : Room) [.ref (ad 0 0), .int u, .int many, .int least] ad (fC g ad σ pd pl sc h) (rC g ad (kdSH σ u many least) (nI (shipL (cN u) least (cN many) σ).1) (stSH σ u many least) (pd) h) (xE (fun E => (kdSH σ u many least = 1 ∧ E = nIO) ∨ (kdSH σ u many least = 2 ∧ E = nIA)) ad (fC g ad σ pd pl sc h)) 3 18 := by
  refine MM.start (by decide) (Nat.le_of_ble_eq_true rfl) ?_
  intro hl9 p e s m below meth c ls hC hno hI hl0
  have hx := hC.1.1
  have hb := hC.1.2.1
  have hts := hC.1.2.2.2.2
  have hl : lv_has ls 7 [(0, .ref (ad 0 0)), (1, .int u), (2, .int many), (3, .int least)] := hl0
  obtain ⟨H, hH⟩ : ∃ H, H = s.heap := ⟨_, rfl⟩
  obtain ⟨locs, hLo⟩ : ∃ L : List Loc, L = [] := ⟨_, rfl⟩
  rw [← hH, ← hLo] at hI ⊢
  clear hH hLo hl0
  obtain ⟨hok, hP, hR, hF⟩ := id hIv
  obtain ⟨h17, h60, h10, h6, h5, h12, hpr, hrm⟩ := id hok
  refine lv_aload_n hx hb dX6_ship_0 rfl (lv_at hl 0 rfl) ?_
  refine lv_iload_n hx hb dX6_ship_1 rfl (lv_at hl 1 rfl) ?_
  refine x_V (rest := []) hl9 hC hI hl.1 (tX6_existingProduct l g B0 ad σ pd pl sc h u hok) (cw_X6_129 hts rfl rfl ⟨(Nat.le_of_ble_eq_true rfl), (Nat.le_of_ble_eq_true rfl)⟩) fC_0 rfl rfl rfl rfl (Nat.le_of_ble_eq_true rfl) dX6_ship_2 ⟨(Nat.le_of_ble_eq_true rfl), (Nat.le_of_ble_eq_true rfl)⟩ hno (Nat.le_of_ble_eq_true rfl) (Nat.le_of_ble_eq_true rfl) (fun E a w hx => ⟨Or.inl ⟨if_neg hx.1.2, hx.1.1⟩, hx.2.1, hx.2.2⟩) (fun v ad1 w H locs hR hI => ?_)
  obtain ⟨hin, rfl, ha9, rfl⟩ := hR; obtain rfl := ha9.symm
  obtain ⟨a, ha, rfl⟩ := (in_cnt h5 (by omega)).mp (id hin)
  rw [show cN (nI a) = a from cN_nI (by omega)]
  have hca : cN (nI a) = a := cN_nI (by omega)
  refine lv_astore (lv' := [(4, .ref (ad 7 a)), (0, .ref (ad 0 0)), (1, .int (nI a)), (2, .int many), (3, .int least)]) hx hb dX6_ship_5 hl (by decide) rfl (fun ls hl => ?_)
  refine lv_iload_n hx hb dX6_ship_7 rfl (lv_at hl 3 rfl) ?_
  refine lv_iconst (v := 1) hx hb dX6_ship_8 (by decide) ?_
  refine lv_bipush (v := 60) hx hb dX6_ship_9 (by decide) ?_
  refine x_S (rest := []) hl9 hC hI hl.1 (tX6_requireWithin l g B0 ad _ many 1 60) (cw_X6_61 hts rfl rfl ⟨(Nat.le_of_ble_eq_true rfl), (Nat.le_of_ble_eq_true rfl)⟩) rfl rfl (Nat.le_of_ble_eq_true rfl) dX6_ship_11 ⟨(Nat.le_of_ble_eq_true rfl), (Nat.le_of_ble_eq_true rfl)⟩ hno (Nat.le_of_ble_eq_true rfl) (Nat.le_of_ble_eq_true rfl) (fun E a w hx => ⟨Or.inr ⟨(if_pos hin).trans (if_neg (fun z => hx.1.2 z.1)), hx.1.1⟩, hx.2.1, hx.2.2⟩) (fun v ad1 w H locs hR hI => ?_)
  obtain ⟨hq1, rfl, ha9, rfl⟩ := hR; obtain rfl := ha9.symm
  obtain ⟨w, hw, rfl⟩ := (fact_n (n := 61) (by decide)).mp ⟨Int32.le_trans (by decide) hq1.1, (le_lt1 60 61 rfl).mp hq1.2⟩
  have hcw : cN (nI w) = w := cN_nI (by omega)
  refine lv_iload_n hx hb dX6_ship_14 rfl (lv_at hl 4 rfl) ?_
  refine lv_if_ge (tgt := 28) hx hb dX6_ship_15 (by decide) (fun c15 => ?_) (fun c15 => ?_)
  · have hq2 : 0 ≤ least := c15
    refine lv_iconst (v := 0) hx hb dX6_ship_28 (by decide) ?_
    refine lv_istore (lv' := [(5, .int (nI 0)), (4, .ref (ad 7 a)), (0, .ref (ad 0 0)), (1, .int (nI a)), (2, .int (nI w)), (3, .int least)]) hx hb dX6_ship_29 hl (by decide) rfl (fun ls hl => ?_)
    refine lv_aload_n hx hb dX6_ship_31 rfl (lv_at hl 2 rfl) ?_
    refine lv_aload hx hb dX6_ship_32 (lv_at hl 1 rfl) ?_
    refine lv_iload_n hx hb dX6_ship_34 rfl (lv_at hl 5 rfl) ?_
    refine c_Vq (rest := []) hl9 hC hI hl.1 (tX6_nextToShip l g B0 ad σ pd pl sc h a ha least hIv) (cw_X6_180 hts rfl rfl ⟨(Nat.le_of_ble_eq_true rfl), (Nat.le_of_ble_eq_true rfl)⟩) fC_0 rfl rfl rfl rfl (Nat.le_of_ble_eq_true rfl) dX6_ship_35 ⟨(Nat.le_of_ble_eq_true rfl), (Nat.le_of_ble_eq_true rfl)⟩ (fun H locs hI => ?_)
    refine lv_astoreO (lv' := [(6, va_rf (paO ad (nextS σ a least))), (5, .int (nI 0)), (4, .ref (ad 7 a)), (0, .ref (ad 0 0)), (1, .int (nI a)), (2, .int (nI w)), (3, .int least)]) hx hb dX6_ship_38 hl (by decide) rfl (fun ls hl => ?_)
    have L40 : ∀ (n : Nat) (s9 : Nat) (τ : Sg) (pl1 : Pl), s9 ≤ w → w + 1 ≤ s9 + n → Iv τ pl1 → a < np τ → shipL a least w σ = ((shipL a least (w - s9) τ).1 + s9, (shipL a least (w - s9) τ).2) → ∀ (H : Heap) (locs : List Loc), WI g ad B0 (fC g ad τ pd pl1 sc h) s H locs → ∀ (ls : Array Slot), lv_has ls 7 [(6, va_rf (paO ad (nextS τ a least))), (5, .int (nI s9)), (4, .ref (ad 7 a)), (0, .ref (ad 0 0)), (2, .int (nI w)), (3, .int least)] → W p l e ({ frames := 7, cells := 3, slots := 18, locals := 112 } : Room) s m ([.ref (ad 0 0), .int (nI a), .int (nI w), .int least] : List Value).toArray below meth c H locs (0 + 1 + 1) (0 + 6 + 6) (vx_MQ below (QI g B0 (rC g ad (kdSH σ (nI a) (nI w) least) (nI (shipL a least (cN (nI w)) σ).1) (stSH σ (nI a) (nI w) least) (pd) h)) (XI g B0 (xE (fun E => (kdSH σ (nI a) (nI w) least = 1 ∧ E = nIO) ∨ (kdSH σ (nI a) (nI w) least = 2 ∧ E = nIA)) ad (fC g ad σ pd pl sc h))) ([.ref (ad 0 0), .int (nI a), .int (nI w), .int least] : List Value).toArray s 3 18 (fun q => B0 ≤ q)) (F0 m 40 ls []) := by
      intro n
      induction n with
      | zero =>
        intro s9 τ pl1 hs9 hfu hIv1 hat hsh
        exact absurd hfu (by omega)
      | succ n ih40 =>
        intro s9 τ pl1 hs9 hfu hIv1 hat hsh H locs hI ls hl
        refine lv_iload hx hb dX6_ship_40 (lv_at hl 1 rfl) ?_
        refine lv_iload_n hx hb dX6_ship_42 rfl (lv_at hl 4 rfl) ?_
        refine lv_icmp_ge (tgt := 71) hx hb dX6_ship_43 (by decide) (fun c43 => ?_) (fun c43 => ?_)
        · have hk2 : w ≤ s9 := ge_T rfl (by omega) (by omega) c43
          have hfin : shipL a least (w - s9) τ = (0, τ) := by rw [show w - s9 = 0 by omega]; rfl
          refine lv_aload_n hx hb dX6_ship_71 rfl (lv_at hl 3 rfl) ?_
          refine lv_dup hx hb dX6_ship_72 rfl ?_
          refine gf_X6_51 hC hI fC_0 rfl dX6_ship_73 ?_
          refine lv_iload hx hb dX6_ship_76 (lv_at hl 1 rfl) ?_
          refine lv_iadd hx hb dX6_ship_78 ?_
          refine pf_X6_51 hC hI fC_0 (Nat.le_of_ble_eq_true rfl) dX6_ship_79 (fun H locs hI => ?_)
          have hI : WI g ad B0 (up2 (fC g ad τ pd pl1 sc h) 0 0 (.inr (6, [.ref (ad 1 0), .ref (ad 2 0), .ref (ad 4 0), .ref (ad 5 0), .ref (ad 6 0), .int (τ 5 0), .int (τ 10 0), .int (τ 17 0), .int ((τ 22 0) + (nI s9)), .int (τ 1 0), .long pd]))) s H locs := hI.cast (rfl)
          have hI : WI g ad B0 (fC g ad (ss τ 22 (τ 22 0 + nI s9)) pd pl1 sc h) s H locs := hI.cast (fC_ship)
          refine lv_iload hx hb dX6_ship_82 (lv_at hl 1 rfl) ?_
          rw [hcw]
          have hs0 : shipL a least w σ = (s9, τ) := by rw [hsh, hfin]; exact congrArg (fun z => (z, τ)) (Nat.zero_add s9)
          exact e_int hC hI ⟨(if_pos hin).trans (if_pos ⟨hq1, hq2⟩), by rw [hs0], fun _ _ _ => rfl, pl1, sc, by unfold stSH; rw [hca, hcw, hs0]; exact PlOk_congr hIv1.2.1 rfl rfl rfl rfl, by unfold stSH; rw [hca, hcw, hs0]⟩ (Nat.le_of_ble_eq_true rfl) (Nat.le_of_ble_eq_true rfl) dX6_ship_84
        · have hk2 : s9 < w := ge_F rfl (by omega) (by omega) c43
          by_cases hn : nextS τ a least = -1
          · have hl : lv_has ls 7 [(6, .null), (5, .int (nI s9)), (4, .ref (ad 7 a)), (0, .ref (ad 0 0)), (2, .int (nI w)), (3, .int least)] := by rw [paO_N hn] at hl; exact hl
            have hfin : shipL a least (w - s9) τ = (0, τ) := by rw [show w - s9 = (w - (s9 + 1)) + 1 by omega]; exact shipL_0 hn
            refine lv_aloadN hx hb dX6_ship_46 (lv_at hl 0 rfl) ?_
            refine lv_ifnullN (tgt := 71) hx hb dX6_ship_48 (by decide) ?_
            refine lv_aload_n hx hb dX6_ship_71 rfl (lv_at hl 3 rfl) ?_
            refine lv_dup hx hb dX6_ship_72 rfl ?_
            refine gf_X6_51 hC hI fC_0 rfl dX6_ship_73 ?_
            refine lv_iload hx hb dX6_ship_76 (lv_at hl 1 rfl) ?_
            refine lv_iadd hx hb dX6_ship_78 ?_
            refine pf_X6_51 hC hI fC_0 (Nat.le_of_ble_eq_true rfl) dX6_ship_79 (fun H locs hI => ?_)
            have hI : WI g ad B0 (up2 (fC g ad τ pd pl1 sc h) 0 0 (.inr (6, [.ref (ad 1 0), .ref (ad 2 0), .ref (ad 4 0), .ref (ad 5 0), .ref (ad 6 0), .int (τ 5 0), .int (τ 10 0), .int (τ 17 0), .int ((τ 22 0) + (nI s9)), .int (τ 1 0), .long pd]))) s H locs := hI.cast (rfl)
            have hI : WI g ad B0 (fC g ad (ss τ 22 (τ 22 0 + nI s9)) pd pl1 sc h) s H locs := hI.cast (fC_ship)
            refine lv_iload hx hb dX6_ship_82 (lv_at hl 1 rfl) ?_
            rw [hcw]
            have hs0 : shipL a least w σ = (s9, τ) := by rw [hsh, hfin]; exact congrArg (fun z => (z, τ)) (Nat.zero_add s9)
            exact e_int hC hI ⟨(if_pos hin).trans (if_pos ⟨hq1, hq2⟩), by rw [hs0], fun _ _ _ => rfl, pl1, sc, by unfold stSH; rw [hca, hcw, hs0]; exact PlOk_congr hIv1.2.1 rfl rfl rfl rfl, by unfold stSH; rw [hca, hcw, hs0]⟩ (Nat.le_of_ble_eq_true rfl) (Nat.le_of_ble_eq_true rfl) dX6_ship_84
          · have hl : lv_has ls 7 [(6, .ref (ad 12 (cN (nextS τ a least)))), (5, .int (nI s9)), (4, .ref (ad 7 a)), (0, .ref (ad 0 0)), (2, .int (nI w)), (3, .int least)] := by rw [paO_S hn] at hl; exact hl
            have hjn : cN (nextS τ a least) < nt τ := by
              rcases nextAt_in τ a least (nt τ) (by have := hIv1.1.2.1; omega) with z | ⟨j, hj, z⟩
              · exact absurd z hn
              · show cN (nextAt τ a least (nt τ)) < nt τ
                rw [z, cN_nI (by have := hIv1.1.2.1; omega)]; exact hj
            refine lv_aload hx hb dX6_ship_46 (lv_at hl 0 rfl) ?_
            refine lv_ifnull hx hb dX6_ship_48 ?_
            refine lv_aload hx hb dX6_ship_51 (lv_at hl 0 rfl) ?_
            refine x_S (rest := []) hl9 hC hI hl.1 (tX6_leave l g B0 ad τ pd pl1 sc h (cN (nextS τ a least)) hjn hIv1.1 hIv1.2.1 hIv1.2.2.1) (cw_X6_184 hts rfl rfl ⟨(Nat.le_of_ble_eq_true rfl), (Nat.le_of_ble_eq_true rfl)⟩) rfl rfl (Nat.le_of_ble_eq_true rfl) dX6_ship_53 ⟨(Nat.le_of_ble_eq_true rfl), (Nat.le_of_ble_eq_true rfl)⟩ hno (Nat.le_of_ble_eq_true rfl) (Nat.le_of_ble_eq_true rfl) (fun _ _ _ hx => hx.elim) (fun v ad1 w H locs hR hI => ?_)
            obtain ⟨rfl, ha9, pl2, hP2, rfl⟩ := hR; obtain rfl := ha9.symm
            have hIv2 : Iv (s1 τ 19 (cN (nextS τ a least)) (-1)) pl2 := ⟨OkP_leave hIv1.1 _, hP2, Rg_19 hIv1.2.2.1, Fr_19 hIv1.2.2.2⟩
            refine lv_iinc (v := nI (s9 + 1)) (lv' := [(5, .int (nI (s9 + 1))), (6, .ref (ad 12 (cN (nextS τ a least)))), (4, .ref (ad 7 a)), (0, .ref (ad 0 0)), (2, .int (nI w)), (3, .int least)]) hx hb dX6_ship_56 hl (k := 1) rfl (nI_1 _) (by decide) rfl (fun ls hl => ?_)
            refine lv_aload_n hx hb dX6_ship_59 rfl (lv_at hl 3 rfl) ?_
            refine lv_aload hx hb dX6_ship_60 (lv_at hl 2 rfl) ?_
            refine lv_iload_n hx hb dX6_ship_62 rfl (lv_at hl 5 rfl) ?_
            refine c_Vq (rest := []) hl9 hC hI hl.1 (tX6_nextToShip l g B0 ad (s1 τ 19 (cN (nextS τ a least)) (-1)) pd pl2 sc h a hat least hIv2) (cw_X6_180 hts rfl rfl ⟨(Nat.le_of_ble_eq_true rfl), (Nat.le_of_ble_eq_true rfl)⟩) fC_0 rfl rfl rfl rfl (Nat.le_of_ble_eq_true rfl) dX6_ship_63 ⟨(Nat.le_of_ble_eq_true rfl), (Nat.le_of_ble_eq_true rfl)⟩ (fun H locs hI => ?_)
            refine lv_astoreO (lv' := [(6, va_rf (paO ad (nextS (s1 τ 19 (cN (nextS τ a least)) (-1)) a least))), (5, .int (nI (s9 + 1))), (4, .ref (ad 7 a)), (0, .ref (ad 0 0)), (2, .int (nI w)), (3, .int least)]) hx hb dX6_ship_66 hl (by decide) rfl (fun ls hl => ?_)
            refine lv_goto (tgt := 40) hx hb dX6_ship_68 (by decide) ?_
            have hsh2 : shipL a least w σ = ((shipL a least (w - (s9 + 1)) (s1 τ 19 (cN (nextS τ a least)) (-1))).1 + (s9 + 1), (shipL a least (w - (s9 + 1)) (s1 τ 19 (cN (nextS τ a least)) (-1))).2) := by
              rw [hsh, show w - s9 = (w - (s9 + 1)) + 1 by omega, shipL_1 hn, Nat.add_assoc, Nat.add_comm 1 s9]
            refine W.widen (k := 0 + 1 + 1) (n := 0 + 6 + 6) (by omega) (by omega) ?_
            exact ih40 (s9 + 1) (s1 τ 19 (cN (nextS τ a least)) (-1)) pl2 (by omega) (by omega) hIv2 hat hsh2 _ _ hI ls (lv_sub hl [0, 1, 2, 3, 4, 5] rfl)
    refine W.widen (k := 0 + 1 + 1) (n := 0 + 6 + 6) (by omega) (by omega) ?_
    exact L40 (w + 1) 0 σ pl (by omega) (by omega) hIv ha rfl _ _ hI ls (lv_sub hl [0, 1, 2, 3, 5, 6] rfl)
  · exact r_throw (E := nIA) (by decide) xIA_t xIA_b xIA_o wd_cl_X6_175 wd_in_java_lang_IllegalArgumentException (List.mem_of_getElem? (i := 11) rfl) hl9 hno hC hC.2.2.2.2.2.1.2.1.1 hI hl.1 ⟨Or.inr ⟨(if_pos hin).trans (if_neg (fun z => absurd z.2 (Int32.not_le.mpr (Int32.not_le.mp c15)))), rfl⟩, rfl, rfl⟩ dX6_ship_18 dX6_ship_21 dX6_ship_22 dX6_ship_24 dX6_ship_27 (Nat.le_of_ble_eq_true rfl) (Nat.le_of_ble_eq_true rfl) (Nat.le_of_ble_eq_true rfl) (Nat.le_of_ble_eq_true rfl) (Nat.le_of_ble_eq_true rfl) (Nat.le_of_ble_eq_true rfl)
