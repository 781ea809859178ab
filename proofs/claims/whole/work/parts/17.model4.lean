/-! THE MODEL: ship, there, clear, stock, count, the machine, the hour -/
def nextAt (σ : Sg) (a : Nat) (least : Int32) : Nat → Int32
  | 0 => -1
  | k + 1 => if σ 18 k = nI a ∧ ¬ σ 19 k = -1 ∧ ¬ leftS σ k < least ∧ (nextAt σ a least k = -1 ∨ leftS σ k < leftS σ (cN (nextAt σ a least k))) then nI k else nextAt σ a least k
theorem nextAt_in (σ : Sg) (a : Nat) (least : Int32) : ∀ k : Nat, k < 2 ^ 31 → nextAt σ a least k = -1 ∨ ∃ j : Nat, j < k ∧ nextAt σ a least k = nI j
  | 0, _ => Or.inl rfl
  | r + 1, hk => by
    have ih := nextAt_in σ a least r (by omega)
    unfold nextAt
    split
    · exact Or.inr ⟨r, by omega, rfl⟩
    · exact ih.imp id (fun ⟨j, h1, h2⟩ => ⟨j, by omega, h2⟩)
def nextS (σ : Sg) (a : Nat) (least : Int32) : Int32 := nextAt σ a least (nt σ)
def shipL (a : Nat) (least : Int32) : Nat → Sg → Nat × Sg
  | 0, σ => (0, σ)
  | n + 1, σ => if nextS σ a least = -1 then (0, σ) else ((shipL a least n (s1 σ 19 (cN (nextS σ a least)) (-1))).1 + 1, (shipL a least n (s1 σ 19 (cN (nextS σ a least)) (-1))).2)
theorem shipL_1 {σ : Sg} {a n : Nat} {least : Int32} (h : ¬ nextS σ a least = -1) : shipL a least (n + 1) σ = ((shipL a least n (s1 σ 19 (cN (nextS σ a least)) (-1))).1 + 1, (shipL a least n (s1 σ 19 (cN (nextS σ a least)) (-1))).2) := if_neg h
theorem shipL_0 {σ : Sg} {a n : Nat} {least : Int32} (h : nextS σ a least = -1) : shipL a least (n + 1) σ = (0, σ) := if_pos h
def kdSH (σ : Sg) (u many least : Int32) : Int32 := if 0 ≤ u ∧ u ≤ σ 5 0 - 1 then (if (1 ≤ many ∧ many ≤ 60) ∧ 0 ≤ least then 0 else 2) else 1
def stSH (σ : Sg) (u many least : Int32) : Sg := ss (shipL (cN u) least (cN many) σ).2 22 ((shipL (cN u) least (cN many) σ).2 22 0 + nI (shipL (cN u) least (cN many) σ).1)
theorem OkP_leave {σ : Sg} (h : OkP σ) (j : Nat) : OkP (s1 σ 19 j (-1)) := by
  obtain ⟨h1, h2, h3, h4, h5, h6, h7, h8⟩ := h
  refine ⟨h1, h2, h3, h4, h5, h6, h7, fun p hp hne => ?_⟩
  by_cases hj : p = j
  · subst hj
    exact absurd (upd_s _ _ _) hne
  · have e : s1 σ 19 j (-1) 19 p = σ 19 p := upd_n _ _ hj
    have e2 : rmo (s1 σ 19 j (-1)) p = rmo σ p := by unfold rmo; rw [e]
    rw [e2]
    rw [e] at hne ⊢
    exact h8 p hp hne
def thereAt (σ : Sg) (u b : Int32) : Nat → Int32
  | 0 => 0
  | k + 1 => thereAt σ u b k + (if ¬ σ 19 k = -1 ∧ (u = -1 ∨ σ 18 k = u) ∧ bi (leftS σ k < 0) = b then 1 else 0)
def thereS (σ : Sg) (u b : Int32) : Int32 := thereAt σ u b (nt σ)
def clrF (σ : Sg) (k : Nat) : Nat → Int32 := fun p => if p < k ∧ leftS σ p < 0 then -1 else σ 19 p
def stCL (σ : Sg) : Sg := su σ 19 (clrF σ (nt σ))
theorem clrF_0 (σ : Sg) : su σ 19 (clrF σ 0) = σ := by
  funext q j
  by_cases hq : q = 19
  · subst hq
    rw [su_s]
    exact if_neg (by omega)
  · rw [su_n _ _ hq]
theorem clrF_s {σ : Sg} {k : Nat} (h : leftS σ k < 0) : s1 (su σ 19 (clrF σ k)) 19 k (-1) = su σ 19 (clrF σ (k + 1)) := by
  funext q j
  show su (su σ 19 (clrF σ k)) 19 (upd (su σ 19 (clrF σ k) 19) k (-1)) q j = _
  by_cases hq : q = 19
  · subst hq
    rw [su_s, su_s, su_s]
    unfold clrF
    by_cases hj : j = k
    · subst hj
      rw [upd_s]
      exact (if_pos ⟨Nat.lt_succ_self _, h⟩).symm
    · rw [upd_n _ _ hj]
      by_cases hc : j < k ∧ leftS σ j < 0
      · rw [if_pos hc, if_pos ⟨by omega, hc.2⟩]
      · rw [if_neg hc, if_neg (fun z => hc ⟨by omega, z.2⟩)]
  · rw [su_n _ _ hq, su_n _ _ hq, su_n _ _ hq]
theorem clrF_n {σ : Sg} {k : Nat} (h : ¬ leftS σ k < 0) : su σ 19 (clrF σ k) = su σ 19 (clrF σ (k + 1)) := by
  funext q j
  by_cases hq : q = 19
  · subst hq
    rw [su_s, su_s]
    unfold clrF
    by_cases hj : j = k
    · subst hj
      rw [if_neg (fun z => absurd z.1 (by omega)), if_neg (fun z => h z.2)]
    · by_cases hc : j < k ∧ leftS σ j < 0
      · rw [if_pos hc, if_pos ⟨by omega, hc.2⟩]
      · rw [if_neg hc, if_neg (fun z => hc ⟨by omega, z.2⟩)]
  · rw [su_n _ _ hq, su_n _ _ hq]
theorem OkP_clr {σ : Sg} (h : OkP σ) (k : Nat) : OkP (su σ 19 (clrF σ k)) := by
  obtain ⟨h1, h2, h3, h4, h5, h6, h7, h8⟩ := h
  refine ⟨h1, h2, h3, h4, h5, h6, h7, fun p hp hne => ?_⟩
  have e0 : su σ 19 (clrF σ k) 19 p = clrF σ k p := by rw [su_s]
  by_cases hc : p < k ∧ leftS σ p < 0
  · exact absurd (e0.trans (if_pos hc)) hne
  · have e : su σ 19 (clrF σ k) 19 p = σ 19 p := e0.trans (if_neg hc)
    have e2 : rmo (su σ 19 (clrF σ k)) p = rmo σ p := by unfold rmo; rw [e]
    rw [e2]
    rw [e] at hne ⊢
    exact h8 p hp hne
def kdST (σ : Sg) (u : Int32) : Int32 := if 0 ≤ u ∧ u ≤ σ 5 0 - 1 then 0 else 1
def cntS (σ : Sg) (w : Int32) : Int32 := if w = 0 then σ 5 0 else if w = 1 then σ 10 0 else if w = 2 then σ 17 0 else if w = 3 then thereS σ (-1) 0 + thereS σ (-1) 1 else σ 22 0
def kdCO (w : Int32) : Int32 := if 0 ≤ w ∧ w ≤ 4 then 0 else 1
def smS (σ : Sg) (r hh : Nat) : Sg :=
  if σ 16 (6 * r + 2) = 2 then
    (if s1 σ 16 (6 * r + 3) (σ 16 (6 * r + 3) - 1) 16 (6 * r + 3) ≤ 0 then s1 (s1 (s1 σ 16 (6 * r + 3) (σ 16 (6 * r + 3) - 1)) 16 (6 * r + 1) 0) 16 (6 * r + 2) 0 else s1 σ 16 (6 * r + 3) (σ 16 (6 * r + 3) - 1))
  else if ¬ σ 15 r = 0 ∧ σ 4 hh = lowS σ then s1 σ 16 (6 * r + 2) (if σ 16 (6 * r) < σ 14 r - 25 then 0 else 1)
  else if σ 14 r + 5 < σ 16 (6 * r) then s1 σ 16 (6 * r + 2) 1
  else if σ 16 (6 * r) < σ 14 r - 5 then s1 σ 16 (6 * r + 2) 0
  else σ

set_option maxHeartbeats 4000000 in
set_option maxRecDepth 100000 in
theorem tX7_ship (l : Launch) (g : Gg) (B0 : Nat) (ad : Ad) (σ : Sg) (pd : Int64) (th : Int32) (h : Wd) (hok : OkP σ) (u many least : Int32) : MM l g B0 yX7_ship (wsM yX7_ship cX7_ship 7 (some .int)) ({ frames := 2, cells := 0, slots := 0, locals := 43 } : Room) [.ref (ad 20 0), .int u, .int many, .int least] ad (fM g ad σ pd th h) (rM g ad h (kdSH σ u many least) (nI (shipL (cN u) least (cN many) σ).1) (stSH σ u many least) σ pd pd) (noX) 0 0 := by
  refine MM.start (by decide) (Nat.le_of_ble_eq_true rfl) ?_
  intro hl9 p e s m below meth c ls hC hno hI hl0
  have hx := hC.1.1
  have hb := hC.1.2.1
  have hts := hC.1.2.2.2.2
  have hl : lv_has ls 7 [(0, .ref (ad 20 0)), (1, .int u), (2, .int many), (3, .int least)] := hl0
  obtain ⟨H, hH⟩ : ∃ H, H = s.heap := ⟨_, rfl⟩
  obtain ⟨locs, hLo⟩ : ∃ L : List Loc, L = [] := ⟨_, rfl⟩
  rw [← hH, ← hLo] at hI ⊢
  clear hH hLo hl0
  obtain ⟨h17, h60, h10, h6, h5, h12, hpr, hrm⟩ := id hok
  refine lv_aload_n hx hb dX7_ship_0 rfl (lv_at hl 0 rfl) ?_
  refine lv_iconst (v := 0) hx hb dX7_ship_1 (by decide) ?_
  refine pf_X7_60 hC hI fM_o (Nat.le_of_ble_eq_true rfl) dX7_ship_2 (fun H locs hI => ?_)
  have hI := hI.cast fM_pth
  refine lv_aload_n hx hb dX7_ship_5 rfl (lv_at hl 0 rfl) ?_
  refine lv_iload_n hx hb dX7_ship_6 rfl (lv_at hl 1 rfl) ?_
  refine c_Vi (rest := []) hl9 hC hI hl.1 (tX7_isProduct l g B0 ad σ pd 0 h u) (cw_X7_119 hts rfl rfl ⟨(Nat.le_of_ble_eq_true rfl), (Nat.le_of_ble_eq_true rfl)⟩) fM_o rfl rfl rfl rfl (Nat.le_of_ble_eq_true rfl) dX7_ship_7 ⟨(Nat.le_of_ble_eq_true rfl), (Nat.le_of_ble_eq_true rfl)⟩ (fun H locs hI => ?_)
  refine lv_if_ne (tgt := 19) hx hb dX7_ship_10 (by decide) (fun c10 => ?_) (fun c10 => ?_)
  · have c10 := bi_1.mp c10
    have hk0 : kdSH σ u many least = (if (1 ≤ many ∧ many ≤ 60) ∧ 0 ≤ least then 0 else 2) := if_pos c10
    obtain ⟨a, ha, rfl⟩ := (in_cnt h5 (by omega)).mp c10
    have hca : cN (nI a) = a := cN_nI (by omega)
    refine lv_iload_n hx hb dX7_ship_19 rfl (lv_at hl 2 rfl) ?_
    refine lv_iconst (v := 1) hx hb dX7_ship_20 (by decide) ?_
    refine lv_bipush (v := 60) hx hb dX7_ship_21 (by decide) ?_
    refine c_Si (rest := []) hl9 hC hI hl.1 (tX7_isIn l g B0 ad _ many 1 60) (cw_X7_66 hts rfl rfl ⟨(Nat.le_of_ble_eq_true rfl), (Nat.le_of_ble_eq_true rfl)⟩) rfl rfl (Nat.le_of_ble_eq_true rfl) dX7_ship_23 ⟨(Nat.le_of_ble_eq_true rfl), (Nat.le_of_ble_eq_true rfl)⟩ (fun H locs hI => ?_)
    refine lv_if_eq (tgt := 33) hx hb dX7_ship_26 (by decide) (fun c26 => ?_) (fun c26 => ?_)
    · have c26 := bi_0.mp c26
      refine lv_aload_n hx hb dX7_ship_33 rfl (lv_at hl 0 rfl) ?_
      refine lv_iconst (v := 2) hx hb dX7_ship_34 (by decide) ?_
      refine c_Vi (rest := []) hl9 hC hI hl.1 (tX7_no l g B0 ad σ pd 0 h 2) (cw_X7_85 hts rfl rfl ⟨(Nat.le_of_ble_eq_true rfl), (Nat.le_of_ble_eq_true rfl)⟩) fM_o rfl rfl rfl rfl (Nat.le_of_ble_eq_true rfl) dX7_ship_35 ⟨(Nat.le_of_ble_eq_true rfl), (Nat.le_of_ble_eq_true rfl)⟩ (fun H locs hI => ?_)
      exact e_int hC hI (rM_no (hk0.trans (if_neg (fun z => c26 z.1))) (by decide)) (Nat.le_of_ble_eq_true rfl) (Nat.le_of_ble_eq_true rfl) dX7_ship_38
    · have c26 := bi_1.mp c26
      refine lv_iload_n hx hb dX7_ship_29 rfl (lv_at hl 3 rfl) ?_
      refine lv_if_ge (tgt := 39) hx hb dX7_ship_30 (by decide) (fun c30 => ?_) (fun c30 => ?_)
      · have hk : kdSH σ (nI a) many least = 0 := hk0.trans (if_pos ⟨c26, c30⟩)
        obtain ⟨N, hN, rfl⟩ := nI_of (x := many) (Int32.not_lt.mpr (Int32.le_trans (show (0 : Int32) ≤ 1 by decide) c26.1))
        have hN60 : N ≤ 60 := (nI_leI hN (b := 60) (by decide)).mp c26.2
        have hcN : cN (nI N) = N := cN_nI hN
        refine lv_iconst (v := 0) hx hb dX7_ship_39 (by decide) ?_
        refine lv_istore (lv' := [(4, .int (nI 0)), (0, .ref (ad 20 0)), (1, .int (nI a)), (2, .int (nI N)), (3, .int least)]) hx hb dX7_ship_40 hl (by decide) rfl (fun ls hl => ?_)
        have L42 : ∀ (n : Nat) (d : Nat) (τ : Sg), d ≤ N → OkP τ → (d + (shipL a least (N - d) τ).1, (shipL a least (N - d) τ).2) = shipL a least N σ → N + 1 ≤ d + n → ∀ (H : Heap) (locs : List Loc), WI g ad B0 (fM g ad τ pd 0 h) s H locs → ∀ (ls : Array Slot), lv_has ls 7 [(4, .int (nI d)), (0, .ref (ad 20 0)), (1, .int (nI a)), (2, .int (nI N)), (3, .int least)] → W p l e ({ frames := 2, cells := 0, slots := 0, locals := 43 } : Room) s m ([.ref (ad 20 0), .int (nI a), .int (nI N), .int least] : List Value).toArray below meth c H locs 0 0 (vx_MQ below (QI g B0 (rM g ad h (kdSH σ (nI a) (nI N) least) (nI (shipL (cN (nI a)) least (cN (nI N)) σ).1) (stSH σ (nI a) (nI N) least) σ pd pd)) (XI g B0 (noX)) ([.ref (ad 20 0), .int (nI a), .int (nI N), .int least] : List Value).toArray s 0 0 (fun q => B0 ≤ q)) (F0 m 42 ls []) := by
          intro n
          induction n with
          | zero =>
            intro d τ hd hτ hE hfu
            exact absurd hfu (by omega)
          | succ n ih42 =>
            intro d τ hd hτ hE hfu H locs hI ls hl
            refine lv_iload hx hb dX7_ship_42 (lv_at hl 0 rfl) ?_
            refine lv_iload_n hx hb dX7_ship_44 rfl (lv_at hl 3 rfl) ?_
            refine lv_icmp_ge (tgt := 149) hx hb dX7_ship_45 (by decide) (fun c45 => ?_) (fun c45 => ?_)
            · have hdN : d = N := Nat.le_antisymm hd ((nI_leI hN (by omega)).mp c45)
              refine lv_aload_n hx hb dX7_ship_149 rfl (lv_at hl 1 rfl) ?_
              refine lv_dup hx hb dX7_ship_150 rfl ?_
              refine gf_X7_140 hC hI fM_o rfl dX7_ship_151 ?_
              refine lv_iload hx hb dX7_ship_154 (lv_at hl 0 rfl) ?_
              refine lv_iadd hx hb dX7_ship_156 ?_
              refine pf_X7_140 hC hI fM_o (Nat.le_of_ble_eq_true rfl) dX7_ship_157 (fun H locs hI => ?_)
              have hI := hI.cast fM_p23
              refine lv_iload hx hb dX7_ship_160 (lv_at hl 0 rfl) ?_
              rw [hdN, Nat.sub_self] at hE
              have hE2 : (N + 0, τ) = shipL a least N σ := hE
              have e1 : (shipL a least N σ).1 = N := by rw [← hE2]; rfl
              have e2 : (shipL a least N σ).2 = τ := by rw [← hE2]
              exact e_int hC hI (rM_ok hk (by rw [hcN, hca, e1, hdN]) (by unfold stSH; rw [hcN, hca, e1, e2, hdN])) (Nat.le_of_ble_eq_true rfl) (Nat.le_of_ble_eq_true rfl) dX7_ship_162
            · have hdN : d < N := Nat.lt_of_not_le (fun z => c45 (nI_le z (by omega)))
              obtain ⟨g17, g60, g10, g6, g5, g12, gpr, grm⟩ := id hτ
              have hNd : N - d = N - (d + 1) + 1 := by omega
              refine lv_iconst (v := (-1)) hx hb dX7_ship_48 (by decide) ?_
              refine lv_istore (lv' := [(5, .int (nextAt τ a least 0)), (4, .int (nI d)), (0, .ref (ad 20 0)), (1, .int (nI a)), (2, .int (nI N)), (3, .int least)]) hx hb dX7_ship_49 hl (by decide) rfl (fun ls hl => ?_)
              refine lv_iconst (v := 0) hx hb dX7_ship_51 (by decide) ?_
              refine lv_istore (lv' := [(6, .int (nI 0)), (5, .int (nextAt τ a least 0)), (4, .int (nI d)), (0, .ref (ad 20 0)), (1, .int (nI a)), (2, .int (nI N)), (3, .int least)]) hx hb dX7_ship_52 hl (by decide) rfl (fun ls hl => ?_)
              have L54 : ∀ (n2 : Nat) (k : Nat), k ≤ nt τ → nt τ + 1 ≤ k + n2 → ∀ (H : Heap) (locs : List Loc), WI g ad B0 (fM g ad τ pd 0 h) s H locs → ∀ (ls : Array Slot), lv_has ls 7 [(6, .int (nI k)), (5, .int (nextAt τ a least k)), (4, .int (nI d)), (0, .ref (ad 20 0)), (1, .int (nI a)), (2, .int (nI N)), (3, .int least)] → W p l e ({ frames := 2, cells := 0, slots := 0, locals := 43 } : Room) s m ([.ref (ad 20 0), .int (nI a), .int (nI N), .int least] : List Value).toArray below meth c H locs 0 0 (vx_MQ below (QI g B0 (rM g ad h (kdSH σ (nI a) (nI N) least) (nI (shipL (cN (nI a)) least (cN (nI N)) σ).1) (stSH σ (nI a) (nI N) least) σ pd pd)) (XI g B0 (noX)) ([.ref (ad 20 0), .int (nI a), .int (nI N), .int least] : List Value).toArray s 0 0 (fun q => B0 ≤ q)) (F0 m 54 ls []) := by
                intro n2
                induction n2 with
                | zero =>
                  intro k hk9 hfk
                  exact absurd hfk (by omega)
                | succ n2 ih54 =>
                  intro k hk9 hfk H locs hI ls hl
                  refine lv_iload hx hb dX7_ship_54 (lv_at hl 0 rfl) ?_
                  refine lv_aload_n hx hb dX7_ship_56 rfl (lv_at hl 3 rfl) ?_
                  refine gf_X7_73 hC hI fM_o rfl dX7_ship_57 ?_
                  refine lv_icmp_ge (tgt := 126) hx hb dX7_ship_60 (by decide) (fun c60 => ?_) (fun c60 => ?_)
                  · have hkt2 : nt τ ≤ k := ge_T g17 (by omega) (by omega) c60
                    have hkt : k = nt τ := by omega
                    have hnx : nextS τ a least = nextAt τ a least k := by unfold nextS; rw [← hkt]
                    refine lv_iload hx hb dX7_ship_126 (lv_at hl 1 rfl) ?_
                    refine lv_iconst (v := (-1)) hx hb dX7_ship_128 (by decide) ?_
                    refine lv_icmp_ne (tgt := 135) hx hb dX7_ship_129 (by decide) (fun c129 => ?_) (fun c129 => ?_)
                    · obtain ⟨j, hj, hbj⟩ : ∃ j : Nat, j < k ∧ nextAt τ a least k = nI j := (nextAt_in τ a least k (by omega)).resolve_left c129
                      refine lv_aload_n hx hb dX7_ship_135 rfl (lv_at hl 3 rfl) ?_
                      refine gf_X7_51 hC hI fM_o rfl dX7_ship_136 ?_
                      refine lv_iload hx hb dX7_ship_139 (lv_at hl 1 rfl) ?_
                      refine lv_iconst (v := (-1)) hx hb dX7_ship_141 (by decide) ?_
                      refine r_iast hC hI fM_19 (j := j) hbj (by omega) (by decide) dX7_ship_142 (fun H locs hI => ?_)
                      have hI := hI.cast (fM_a 19 rfl (by decide) (by decide) rfl)
                      refine lv_iinc (v := nI (d + 1)) (lv' := [(4, .int (nI (d + 1))), (6, .int (nI k)), (5, .int (nextAt τ a least k)), (0, .ref (ad 20 0)), (1, .int (nI a)), (2, .int (nI N)), (3, .int least)]) hx hb dX7_ship_143 hl (k := 2) rfl (nI_1 _) (by decide) rfl (fun ls hl => ?_)
                      refine lv_goto (tgt := 42) hx hb dX7_ship_146 (by decide) ?_
                      exact ih42 (d + 1) (s1 τ 19 j (-1)) (by omega) (OkP_leave hτ j) (by rw [← hE, hNd, shipL_1 (fun z => c129 (hnx.symm.trans z)), hnx.trans hbj, cN_nI (show j < 2 ^ 31 by omega)]; exact Prod.ext ((Nat.add_assoc d 1 _).trans (congrArg (d + ·) (Nat.add_comm 1 _))) rfl) (by omega) _ _ hI ls (lv_sub hl [0, 3, 4, 5, 6] rfl)
                    · refine lv_goto (tgt := 149) hx hb dX7_ship_132 (by decide) ?_
                      refine lv_aload_n hx hb dX7_ship_149 rfl (lv_at hl 3 rfl) ?_
                      refine lv_dup hx hb dX7_ship_150 rfl ?_
                      refine gf_X7_140 hC hI fM_o rfl dX7_ship_151 ?_
                      refine lv_iload hx hb dX7_ship_154 (lv_at hl 2 rfl) ?_
                      refine lv_iadd hx hb dX7_ship_156 ?_
                      refine pf_X7_140 hC hI fM_o (Nat.le_of_ble_eq_true rfl) dX7_ship_157 (fun H locs hI => ?_)
                      have hI := hI.cast fM_p23
                      refine lv_iload hx hb dX7_ship_160 (lv_at hl 2 rfl) ?_
                      have hE2 : (d + 0, τ) = shipL a least N σ := by
                            rw [← hE, hNd, shipL_0 (hnx.trans c129)]
                      have e1 : (shipL a least N σ).1 = d := by rw [← hE2]; rfl
                      have e2 : (shipL a least N σ).2 = τ := by rw [← hE2]
                      exact e_int hC hI (rM_ok hk (by rw [hcN, hca, e1]) (by unfold stSH; rw [hcN, hca, e1, e2])) (Nat.le_of_ble_eq_true rfl) (Nat.le_of_ble_eq_true rfl) dX7_ship_162
                  · have hkt2 : k < nt τ := ge_F g17 (by omega) (by omega) c60
                    obtain ⟨hp1, hp2⟩ := gpr k hkt2
                    refine lv_aload_n hx hb dX7_ship_63 rfl (lv_at hl 3 rfl) ?_
                    refine gf_X7_48 hC hI fM_o rfl dX7_ship_64 ?_
                    refine lv_iload hx hb dX7_ship_67 (lv_at hl 0 rfl) ?_
                    refine r_iald hC hI fM_18 (j := k) rfl (by omega) (by decide) dX7_ship_69 ?_
                    refine lv_iload_n hx hb dX7_ship_70 rfl (lv_at hl 4 rfl) ?_
                    refine lv_icmp_ne (tgt := 120) hx hb dX7_ship_71 (by decide) (fun c71 => ?_) (fun c71 => ?_)
                    · have hb9 : nextAt τ a least (k + 1) = nextAt τ a least k := by show (if _ then _ else _) = _; rw [if_neg (fun z => c71 z.1)]
                      have hl : lv_has ls 7 [(6, .int (nI k)), (5, .int (nextAt τ a least (k + 1))), (4, .int (nI d)), (0, .ref (ad 20 0)), (1, .int (nI a)), (2, .int (nI N)), (3, .int least)] := by rw [hb9]; exact hl
                      refine lv_iinc (v := nI (k + 1)) (lv' := [(6, .int (nI (k + 1))), (5, .int (nextAt τ a least (k + 1))), (4, .int (nI d)), (0, .ref (ad 20 0)), (1, .int (nI a)), (2, .int (nI N)), (3, .int least)]) hx hb dX7_ship_120 hl (k := 0) rfl (nI_1 _) (by decide) rfl (fun ls hl => ?_)
                      refine lv_goto (tgt := 54) hx hb dX7_ship_123 (by decide) ?_
                      exact ih54 (k + 1) (by omega) (by omega) _ _ hI ls (lv_sub hl [0, 1, 2, 3, 4, 5, 6] rfl)
                    · refine lv_aload_n hx hb dX7_ship_74 rfl (lv_at hl 3 rfl) ?_
                      refine gf_X7_51 hC hI fM_o rfl dX7_ship_75 ?_
                      refine lv_iload hx hb dX7_ship_78 (lv_at hl 0 rfl) ?_
                      refine r_iald hC hI fM_19 (j := k) rfl (by omega) (by decide) dX7_ship_80 ?_
                      refine lv_iconst (v := (-1)) hx hb dX7_ship_81 (by decide) ?_
                      refine lv_icmp_eq (tgt := 120) hx hb dX7_ship_82 (by decide) (fun c82 => ?_) (fun c82 => ?_)
                      · have hb9 : nextAt τ a least (k + 1) = nextAt τ a least k := by show (if _ then _ else _) = _; rw [if_neg (fun z => z.2.1 c82)]
                        have hl : lv_has ls 7 [(6, .int (nI k)), (5, .int (nextAt τ a least (k + 1))), (4, .int (nI d)), (0, .ref (ad 20 0)), (1, .int (nI a)), (2, .int (nI N)), (3, .int least)] := by rw [hb9]; exact hl
                        refine lv_iinc (v := nI (k + 1)) (lv' := [(6, .int (nI (k + 1))), (5, .int (nextAt τ a least (k + 1))), (4, .int (nI d)), (0, .ref (ad 20 0)), (1, .int (nI a)), (2, .int (nI N)), (3, .int least)]) hx hb dX7_ship_120 hl (k := 0) rfl (nI_1 _) (by decide) rfl (fun ls hl => ?_)
                        refine lv_goto (tgt := 54) hx hb dX7_ship_123 (by decide) ?_
                        exact ih54 (k + 1) (by omega) (by omega) _ _ hI ls (lv_sub hl [0, 1, 2, 3, 4, 5, 6] rfl)
                      · refine lv_aload_n hx hb dX7_ship_85 rfl (lv_at hl 3 rfl) ?_
                        refine lv_iload hx hb dX7_ship_86 (lv_at hl 0 rfl) ?_
                        refine c_Vi (rest := []) hl9 hC hI hl.1 (tX7_leftOf l g B0 ad τ pd 0 h hτ k hkt2) (cw_X7_128 hts rfl rfl ⟨(Nat.le_of_ble_eq_true rfl), (Nat.le_of_ble_eq_true rfl)⟩) fM_o rfl rfl rfl rfl (Nat.le_of_ble_eq_true rfl) dX7_ship_88 ⟨(Nat.le_of_ble_eq_true rfl), (Nat.le_of_ble_eq_true rfl)⟩ (fun H locs hI => ?_)
                        refine lv_iload_n hx hb dX7_ship_91 rfl (lv_at hl 6 rfl) ?_
                        refine lv_icmp_lt (tgt := 120) hx hb dX7_ship_92 (by decide) (fun c92 => ?_) (fun c92 => ?_)
                        · have hb9 : nextAt τ a least (k + 1) = nextAt τ a least k := by show (if _ then _ else _) = _; rw [if_neg (fun z => z.2.2.1 c92)]
                          have hl : lv_has ls 7 [(6, .int (nI k)), (5, .int (nextAt τ a least (k + 1))), (4, .int (nI d)), (0, .ref (ad 20 0)), (1, .int (nI a)), (2, .int (nI N)), (3, .int least)] := by rw [hb9]; exact hl
                          refine lv_iinc (v := nI (k + 1)) (lv' := [(6, .int (nI (k + 1))), (5, .int (nextAt τ a least (k + 1))), (4, .int (nI d)), (0, .ref (ad 20 0)), (1, .int (nI a)), (2, .int (nI N)), (3, .int least)]) hx hb dX7_ship_120 hl (k := 0) rfl (nI_1 _) (by decide) rfl (fun ls hl => ?_)
                          refine lv_goto (tgt := 54) hx hb dX7_ship_123 (by decide) ?_
                          exact ih54 (k + 1) (by omega) (by omega) _ _ hI ls (lv_sub hl [0, 1, 2, 3, 4, 5, 6] rfl)
                        · refine lv_iload hx hb dX7_ship_95 (lv_at hl 1 rfl) ?_
                          refine lv_iconst (v := (-1)) hx hb dX7_ship_97 (by decide) ?_
                          refine lv_icmp_eq (tgt := 116) hx hb dX7_ship_98 (by decide) (fun c98 => ?_) (fun c98 => ?_)
                          · have hb9 : nextAt τ a least (k + 1) = nI k := by show (if _ then _ else _) = _; rw [if_pos ⟨c71, c82, c92, Or.inl c98⟩]
                            refine lv_iload hx hb dX7_ship_116 (lv_at hl 0 rfl) ?_
                            refine lv_istore (lv' := [(5, .int (nI k)), (6, .int (nI k)), (4, .int (nI d)), (0, .ref (ad 20 0)), (1, .int (nI a)), (2, .int (nI N)), (3, .int least)]) hx hb dX7_ship_118 hl (by decide) rfl (fun ls hl => ?_)
                            have hl : lv_has ls 7 [(5, .int (nextAt τ a least (k + 1))), (6, .int (nI k)), (4, .int (nI d)), (0, .ref (ad 20 0)), (1, .int (nI a)), (2, .int (nI N)), (3, .int least)] := by rw [hb9]; exact hl
                            refine lv_iinc (v := nI (k + 1)) (lv' := [(6, .int (nI (k + 1))), (5, .int (nextAt τ a least (k + 1))), (4, .int (nI d)), (0, .ref (ad 20 0)), (1, .int (nI a)), (2, .int (nI N)), (3, .int least)]) hx hb dX7_ship_120 hl (k := 1) rfl (nI_1 _) (by decide) rfl (fun ls hl => ?_)
                            refine lv_goto (tgt := 54) hx hb dX7_ship_123 (by decide) ?_
                            exact ih54 (k + 1) (by omega) (by omega) _ _ hI ls (lv_sub hl [0, 1, 2, 3, 4, 5, 6] rfl)
                          · obtain ⟨j, hj, hbj⟩ : ∃ j : Nat, j < k ∧ nextAt τ a least k = nI j := (nextAt_in τ a least k (by omega)).resolve_left c98
                            have hcj : cN (nextAt τ a least k) = j := by rw [hbj]; exact cN_nI (by omega)
                            refine lv_aload_n hx hb dX7_ship_101 rfl (lv_at hl 3 rfl) ?_
                            refine lv_iload hx hb dX7_ship_102 (lv_at hl 0 rfl) ?_
                            refine c_Vi (rest := []) hl9 hC hI hl.1 (tX7_leftOf l g B0 ad τ pd 0 h hτ k hkt2) (cw_X7_128 hts rfl rfl ⟨(Nat.le_of_ble_eq_true rfl), (Nat.le_of_ble_eq_true rfl)⟩) fM_o rfl rfl rfl rfl (Nat.le_of_ble_eq_true rfl) dX7_ship_104 ⟨(Nat.le_of_ble_eq_true rfl), (Nat.le_of_ble_eq_true rfl)⟩ (fun H locs hI => ?_)
                            refine lv_aload_n hx hb dX7_ship_107 rfl (lv_at hl 3 rfl) ?_
                            refine lv_iload hx hb dX7_ship_108 (lv_at hl 1 rfl) ?_
                            rw [hbj]
                            refine c_Vi (rest := [.int (leftS τ k)]) hl9 hC hI hl.1 (tX7_leftOf l g B0 ad τ pd 0 h hτ j (by omega)) (cw_X7_128 hts rfl rfl ⟨(Nat.le_of_ble_eq_true rfl), (Nat.le_of_ble_eq_true rfl)⟩) fM_o rfl rfl rfl rfl (Nat.le_of_ble_eq_true rfl) dX7_ship_110 ⟨(Nat.le_of_ble_eq_true rfl), (Nat.le_of_ble_eq_true rfl)⟩ (fun H locs hI => ?_)
                            refine lv_icmp_ge (tgt := 120) hx hb dX7_ship_113 (by decide) (fun c113 => ?_) (fun c113 => ?_)
                            · have hb9 : nextAt τ a least (k + 1) = nextAt τ a least k := by show (if _ then _ else _) = _; rw [if_neg (fun z => z.2.2.2.elim c98 (fun y => absurd (by rw [← hcj]; exact y) (Int32.not_lt.mpr c113)))]
                              have hl : lv_has ls 7 [(6, .int (nI k)), (5, .int (nextAt τ a least (k + 1))), (4, .int (nI d)), (0, .ref (ad 20 0)), (1, .int (nI a)), (2, .int (nI N)), (3, .int least)] := by rw [hb9]; exact hl
                              refine lv_iinc (v := nI (k + 1)) (lv' := [(6, .int (nI (k + 1))), (5, .int (nextAt τ a least (k + 1))), (4, .int (nI d)), (0, .ref (ad 20 0)), (1, .int (nI a)), (2, .int (nI N)), (3, .int least)]) hx hb dX7_ship_120 hl (k := 0) rfl (nI_1 _) (by decide) rfl (fun ls hl => ?_)
                              refine lv_goto (tgt := 54) hx hb dX7_ship_123 (by decide) ?_
                              exact ih54 (k + 1) (by omega) (by omega) _ _ hI ls (lv_sub hl [0, 1, 2, 3, 4, 5, 6] rfl)
                            · have hb9 : nextAt τ a least (k + 1) = nI k := by show (if _ then _ else _) = _; rw [if_pos ⟨c71, c82, c92, Or.inr (by rw [hcj]; exact Int32.not_le.mp c113)⟩]
                              refine lv_iload hx hb dX7_ship_116 (lv_at hl 0 rfl) ?_
                              refine lv_istore (lv' := [(5, .int (nI k)), (6, .int (nI k)), (4, .int (nI d)), (0, .ref (ad 20 0)), (1, .int (nI a)), (2, .int (nI N)), (3, .int least)]) hx hb dX7_ship_118 hl (by decide) rfl (fun ls hl => ?_)
                              have hl : lv_has ls 7 [(5, .int (nextAt τ a least (k + 1))), (6, .int (nI k)), (4, .int (nI d)), (0, .ref (ad 20 0)), (1, .int (nI a)), (2, .int (nI N)), (3, .int least)] := by rw [hb9]; exact hl
                              refine lv_iinc (v := nI (k + 1)) (lv' := [(6, .int (nI (k + 1))), (5, .int (nextAt τ a least (k + 1))), (4, .int (nI d)), (0, .ref (ad 20 0)), (1, .int (nI a)), (2, .int (nI N)), (3, .int least)]) hx hb dX7_ship_120 hl (k := 1) rfl (nI_1 _) (by decide) rfl (fun ls hl => ?_)
                              refine lv_goto (tgt := 54) hx hb dX7_ship_123 (by decide) ?_
                              exact ih54 (k + 1) (by omega) (by omega) _ _ hI ls (lv_sub hl [0, 1, 2, 3, 4, 5, 6] rfl)
              exact L54 (nt τ + 1) 0 (by omega) (by omega) _ _ hI ls (lv_sub hl [0, 1, 2, 3, 4, 5, 6] rfl)
        exact L42 (N + 1) 0 σ (by omega) hok (by rw [Nat.zero_add]; rfl) (by omega) _ _ hI ls (lv_sub hl [0, 1, 2, 3, 4] rfl)
      · refine lv_aload_n hx hb dX7_ship_33 rfl (lv_at hl 0 rfl) ?_
        refine lv_iconst (v := 2) hx hb dX7_ship_34 (by decide) ?_
        refine c_Vi (rest := []) hl9 hC hI hl.1 (tX7_no l g B0 ad σ pd 0 h 2) (cw_X7_85 hts rfl rfl ⟨(Nat.le_of_ble_eq_true rfl), (Nat.le_of_ble_eq_true rfl)⟩) fM_o rfl rfl rfl rfl (Nat.le_of_ble_eq_true rfl) dX7_ship_35 ⟨(Nat.le_of_ble_eq_true rfl), (Nat.le_of_ble_eq_true rfl)⟩ (fun H locs hI => ?_)
        exact e_int hC hI (rM_no (hk0.trans (if_neg (fun z => c30 z.2))) (by decide)) (Nat.le_of_ble_eq_true rfl) (Nat.le_of_ble_eq_true rfl) dX7_ship_38
  · have c10 := bi_0.mp c10
    refine lv_aload_n hx hb dX7_ship_13 rfl (lv_at hl 0 rfl) ?_
    refine lv_iconst (v := 1) hx hb dX7_ship_14 (by decide) ?_
    refine c_Vi (rest := []) hl9 hC hI hl.1 (tX7_no l g B0 ad σ pd 0 h 1) (cw_X7_85 hts rfl rfl ⟨(Nat.le_of_ble_eq_true rfl), (Nat.le_of_ble_eq_true rfl)⟩) fM_o rfl rfl rfl rfl (Nat.le_of_ble_eq_true rfl) dX7_ship_15 ⟨(Nat.le_of_ble_eq_true rfl), (Nat.le_of_ble_eq_true rfl)⟩ (fun H locs hI => ?_)
    exact e_int hC hI (rM_no (if_neg c10) (by decide)) (Nat.le_of_ble_eq_true rfl) (Nat.le_of_ble_eq_true rfl) dX7_ship_18
set_option maxHeartbeats 4000000 in
set_option maxRecDepth 100000 in
theorem tX7_there (l : Launch) (g : Gg) (B0 : Nat) (ad : Ad) (σ : Sg) (pd : Int64) (th : Int32) (h : Wd) (hok : OkP σ) (u b : Int32) : MM l g B0 yX7_there (wsM yX7_there cX7_there 5 (some .int)) ({ frames := 1, cells := 0, slots := 0, locals := 21 } : Room) [.ref (ad 20 0), .int u, .int b] ad (fM g ad σ pd th h) (dI (thereS σ u b) ad (fM g ad σ pd th h)) (noX) 0 0 := by
  refine MM.start (by decide) (Nat.le_of_ble_eq_true rfl) ?_
  intro hl9 p e s m below meth c ls hC hno hI hl0
  have hx := hC.1.1
  have hb := hC.1.2.1
  have hts := hC.1.2.2.2.2
  have hl : lv_has ls 5 [(0, .ref (ad 20 0)), (1, .int u), (2, .int b)] := hl0
  obtain ⟨H, hH⟩ : ∃ H, H = s.heap := ⟨_, rfl⟩
  obtain ⟨locs, hLo⟩ : ∃ L : List Loc, L = [] := ⟨_, rfl⟩
  rw [← hH, ← hLo] at hI ⊢
  clear hH hLo hl0
  obtain ⟨h17, h60, h10, h6, h5, h12, hpr, hrm⟩ := id hok
  refine lv_iconst (v := 0) hx hb dX7_there_0 (by decide) ?_
  refine lv_istore_n (lv' := [(3, .int (thereAt σ u b 0)), (0, .ref (ad 20 0)), (1, .int u), (2, .int b)]) hx hb dX7_there_1 rfl hl (by decide) rfl (fun ls hl => ?_)
  refine lv_iconst (v := 0) hx hb dX7_there_2 (by decide) ?_
  refine lv_istore (lv' := [(4, .int (nI 0)), (3, .int (thereAt σ u b 0)), (0, .ref (ad 20 0)), (1, .int u), (2, .int b)]) hx hb dX7_there_3 hl (by decide) rfl (fun ls hl => ?_)
  have L5 : ∀ (n : Nat) (k : Nat), k ≤ nt σ → nt σ + 1 ≤ k + n → ∀ (H : Heap) (locs : List Loc), WI g ad B0 (fM g ad σ pd th h) s H locs → ∀ (ls : Array Slot), lv_has ls 5 [(4, .int (nI k)), (3, .int (thereAt σ u b k)), (0, .ref (ad 20 0)), (1, .int u), (2, .int b)] → W p l e ({ frames := 1, cells := 0, slots := 0, locals := 21 } : Room) s m ([.ref (ad 20 0), .int u, .int b] : List Value).toArray below meth c H locs 0 0 (vx_MQ below (QI g B0 (dI (thereS σ u b) ad (fM g ad σ pd th h))) (XI g B0 (noX)) ([.ref (ad 20 0), .int u, .int b] : List Value).toArray s 0 0 (fun q => B0 ≤ q)) (F0 m 5 ls []) := by
    intro n
    induction n with
    | zero =>
      intro k hk9 hfu
      exact absurd hfu (by omega)
    | succ n ih5 =>
      intro k hk9 hfu H locs hI ls hl
      refine lv_iload hx hb dX7_there_5 (lv_at hl 0 rfl) ?_
      refine lv_aload_n hx hb dX7_there_7 rfl (lv_at hl 2 rfl) ?_
      refine gf_X7_73 hC hI fM_o rfl dX7_there_8 ?_
      refine lv_icmp_ge (tgt := 73) hx hb dX7_there_11 (by decide) (fun c11 => ?_) (fun c11 => ?_)
      · have hk2 : nt σ ≤ k := ge_T h17 (by omega) (by omega) c11
        refine lv_iload_n hx hb dX7_there_73 rfl (lv_at hl 1 rfl) ?_
        exact e_int hC hI (rI (by rw [show k = nt σ by omega]; rfl)) (Nat.le_of_ble_eq_true rfl) (Nat.le_of_ble_eq_true rfl) dX7_there_74
      · have hk2 : k < nt σ := ge_F h17 (by omega) (by omega) c11
        refine lv_iload_n hx hb dX7_there_14 rfl (lv_at hl 1 rfl) ?_
        refine lv_aload_n hx hb dX7_there_15 rfl (lv_at hl 2 rfl) ?_
        refine gf_X7_51 hC hI fM_o rfl dX7_there_16 ?_
        refine lv_iload hx hb dX7_there_19 (lv_at hl 0 rfl) ?_
        refine r_iald hC hI fM_19 (j := k) rfl (by omega) (by decide) dX7_there_21 ?_
        refine lv_iconst (v := (-1)) hx hb dX7_there_22 (by decide) ?_
        refine lv_icmp_eq (tgt := 64) hx hb dX7_there_23 (by decide) (fun c23 => ?_) (fun c23 => ?_)
        · refine lv_iconst (v := 0) hx hb dX7_there_64 (by decide) ?_
          refine lv_iadd hx hb dX7_there_65 ?_
          rw [show thereAt σ u b k + 0 = thereAt σ u b (k + 1) from by show _ = _ + (if _ then _ else _); rw [if_neg (fun z => z.1 c23)]]
          refine lv_istore_n (lv' := [(3, .int (thereAt σ u b (k + 1))), (4, .int (nI k)), (0, .ref (ad 20 0)), (1, .int u), (2, .int b)]) hx hb dX7_there_66 rfl hl (by decide) rfl (fun ls hl => ?_)
          refine lv_iinc (v := nI (k + 1)) (lv' := [(4, .int (nI (k + 1))), (3, .int (thereAt σ u b (k + 1))), (0, .ref (ad 20 0)), (1, .int u), (2, .int b)]) hx hb dX7_there_67 hl (k := 1) rfl (nI_1 _) (by decide) rfl (fun ls hl => ?_)
          refine lv_goto (tgt := 5) hx hb dX7_there_70 (by decide) ?_
          exact ih5 (k + 1) (by omega) (by omega) _ _ hI ls (lv_sub hl [0, 1, 2, 3, 4] rfl)
        · refine lv_iload_n hx hb dX7_there_26 rfl (lv_at hl 3 rfl) ?_
          refine lv_iconst (v := (-1)) hx hb dX7_there_27 (by decide) ?_
          refine lv_icmp_eq (tgt := 42) hx hb dX7_there_28 (by decide) (fun c28 => ?_) (fun c28 => ?_)
          · refine lv_aload_n hx hb dX7_there_42 rfl (lv_at hl 2 rfl) ?_
            refine lv_iload hx hb dX7_there_43 (lv_at hl 0 rfl) ?_
            refine c_Vi (rest := [.int (thereAt σ u b k)]) hl9 hC hI hl.1 (tX7_leftOf l g B0 ad σ pd th h hok k hk2) (cw_X7_128 hts rfl rfl ⟨(Nat.le_of_ble_eq_true rfl), (Nat.le_of_ble_eq_true rfl)⟩) fM_o rfl rfl rfl rfl (Nat.le_of_ble_eq_true rfl) dX7_there_45 ⟨(Nat.le_of_ble_eq_true rfl), (Nat.le_of_ble_eq_true rfl)⟩ (fun H locs hI => ?_)
            refine lv_if_ge (tgt := 55) hx hb dX7_there_48 (by decide) (fun c48 => ?_) (fun c48 => ?_)
            · refine lv_iconst (v := 0) hx hb dX7_there_55 (by decide) ?_
              refine lv_iload_n hx hb dX7_there_56 rfl (lv_at hl 4 rfl) ?_
              refine lv_icmp_ne (tgt := 64) hx hb dX7_there_57 (by decide) (fun c57 => ?_) (fun c57 => ?_)
              · refine lv_iconst (v := 0) hx hb dX7_there_64 (by decide) ?_
                refine lv_iadd hx hb dX7_there_65 ?_
                rw [show thereAt σ u b k + 0 = thereAt σ u b (k + 1) from by show _ = _ + (if _ then _ else _); rw [if_neg (fun z => c57 (by rw [← z.2.2, bi_f (Int32.not_lt.mpr c48)]))]]
                refine lv_istore_n (lv' := [(3, .int (thereAt σ u b (k + 1))), (4, .int (nI k)), (0, .ref (ad 20 0)), (1, .int u), (2, .int b)]) hx hb dX7_there_66 rfl hl (by decide) rfl (fun ls hl => ?_)
                refine lv_iinc (v := nI (k + 1)) (lv' := [(4, .int (nI (k + 1))), (3, .int (thereAt σ u b (k + 1))), (0, .ref (ad 20 0)), (1, .int u), (2, .int b)]) hx hb dX7_there_67 hl (k := 1) rfl (nI_1 _) (by decide) rfl (fun ls hl => ?_)
                refine lv_goto (tgt := 5) hx hb dX7_there_70 (by decide) ?_
                exact ih5 (k + 1) (by omega) (by omega) _ _ hI ls (lv_sub hl [0, 1, 2, 3, 4] rfl)
              · refine lv_iconst (v := 1) hx hb dX7_there_60 (by decide) ?_
                refine lv_goto (tgt := 65) hx hb dX7_there_61 (by decide) ?_
                refine lv_iadd hx hb dX7_there_65 ?_
                rw [show thereAt σ u b k + 1 = thereAt σ u b (k + 1) from by show _ = _ + (if _ then _ else _); rw [if_pos (⟨c23, Or.inl c28, by rw [bi_f (Int32.not_lt.mpr c48)]; exact c57⟩)]]
                refine lv_istore_n (lv' := [(3, .int (thereAt σ u b (k + 1))), (4, .int (nI k)), (0, .ref (ad 20 0)), (1, .int u), (2, .int b)]) hx hb dX7_there_66 rfl hl (by decide) rfl (fun ls hl => ?_)
                refine lv_iinc (v := nI (k + 1)) (lv' := [(4, .int (nI (k + 1))), (3, .int (thereAt σ u b (k + 1))), (0, .ref (ad 20 0)), (1, .int u), (2, .int b)]) hx hb dX7_there_67 hl (k := 1) rfl (nI_1 _) (by decide) rfl (fun ls hl => ?_)
                refine lv_goto (tgt := 5) hx hb dX7_there_70 (by decide) ?_
                exact ih5 (k + 1) (by omega) (by omega) _ _ hI ls (lv_sub hl [0, 1, 2, 3, 4] rfl)
            · refine lv_iconst (v := 1) hx hb dX7_there_51 (by decide) ?_
              refine lv_goto (tgt := 56) hx hb dX7_there_52 (by decide) ?_
              refine lv_iload_n hx hb dX7_there_56 rfl (lv_at hl 4 rfl) ?_
              refine lv_icmp_ne (tgt := 64) hx hb dX7_there_57 (by decide) (fun c57 => ?_) (fun c57 => ?_)
              · refine lv_iconst (v := 0) hx hb dX7_there_64 (by decide) ?_
                refine lv_iadd hx hb dX7_there_65 ?_
                rw [show thereAt σ u b k + 0 = thereAt σ u b (k + 1) from by show _ = _ + (if _ then _ else _); rw [if_neg (fun z => c57 (by rw [← z.2.2, bi_t (Int32.not_le.mp c48)]))]]
                refine lv_istore_n (lv' := [(3, .int (thereAt σ u b (k + 1))), (4, .int (nI k)), (0, .ref (ad 20 0)), (1, .int u), (2, .int b)]) hx hb dX7_there_66 rfl hl (by decide) rfl (fun ls hl => ?_)
                refine lv_iinc (v := nI (k + 1)) (lv' := [(4, .int (nI (k + 1))), (3, .int (thereAt σ u b (k + 1))), (0, .ref (ad 20 0)), (1, .int u), (2, .int b)]) hx hb dX7_there_67 hl (k := 1) rfl (nI_1 _) (by decide) rfl (fun ls hl => ?_)
                refine lv_goto (tgt := 5) hx hb dX7_there_70 (by decide) ?_
                exact ih5 (k + 1) (by omega) (by omega) _ _ hI ls (lv_sub hl [0, 1, 2, 3, 4] rfl)
              · refine lv_iconst (v := 1) hx hb dX7_there_60 (by decide) ?_
                refine lv_goto (tgt := 65) hx hb dX7_there_61 (by decide) ?_
                refine lv_iadd hx hb dX7_there_65 ?_
                rw [show thereAt σ u b k + 1 = thereAt σ u b (k + 1) from by show _ = _ + (if _ then _ else _); rw [if_pos (⟨c23, Or.inl c28, by rw [bi_t (Int32.not_le.mp c48)]; exact c57⟩)]]
                refine lv_istore_n (lv' := [(3, .int (thereAt σ u b (k + 1))), (4, .int (nI k)), (0, .ref (ad 20 0)), (1, .int u), (2, .int b)]) hx hb dX7_there_66 rfl hl (by decide) rfl (fun ls hl => ?_)
                refine lv_iinc (v := nI (k + 1)) (lv' := [(4, .int (nI (k + 1))), (3, .int (thereAt σ u b (k + 1))), (0, .ref (ad 20 0)), (1, .int u), (2, .int b)]) hx hb dX7_there_67 hl (k := 1) rfl (nI_1 _) (by decide) rfl (fun ls hl => ?_)
                refine lv_goto (tgt := 5) hx hb dX7_there_70 (by decide) ?_
                exact ih5 (k + 1) (by omega) (by omega) _ _ hI ls (lv_sub hl [0, 1, 2, 3, 4] rfl)
          · refine lv_aload_n hx hb dX7_there_31 rfl (lv_at hl 2 rfl) ?_
            refine gf_X7_48 hC hI fM_o rfl dX7_there_32 ?_
            refine lv_iload hx hb dX7_there_35 (lv_at hl 0 rfl) ?_
            refine r_iald hC hI fM_18 (j := k) rfl (by omega) (by decide) dX7_there_37 ?_
            refine lv_iload_n hx hb dX7_there_38 rfl (lv_at hl 3 rfl) ?_
            refine lv_icmp_ne (tgt := 64) hx hb dX7_there_39 (by decide) (fun c39 => ?_) (fun c39 => ?_)
            · refine lv_iconst (v := 0) hx hb dX7_there_64 (by decide) ?_
              refine lv_iadd hx hb dX7_there_65 ?_
              rw [show thereAt σ u b k + 0 = thereAt σ u b (k + 1) from by show _ = _ + (if _ then _ else _); rw [if_neg (fun z => z.2.1.elim c28 c39)]]
              refine lv_istore_n (lv' := [(3, .int (thereAt σ u b (k + 1))), (4, .int (nI k)), (0, .ref (ad 20 0)), (1, .int u), (2, .int b)]) hx hb dX7_there_66 rfl hl (by decide) rfl (fun ls hl => ?_)
              refine lv_iinc (v := nI (k + 1)) (lv' := [(4, .int (nI (k + 1))), (3, .int (thereAt σ u b (k + 1))), (0, .ref (ad 20 0)), (1, .int u), (2, .int b)]) hx hb dX7_there_67 hl (k := 1) rfl (nI_1 _) (by decide) rfl (fun ls hl => ?_)
              refine lv_goto (tgt := 5) hx hb dX7_there_70 (by decide) ?_
              exact ih5 (k + 1) (by omega) (by omega) _ _ hI ls (lv_sub hl [0, 1, 2, 3, 4] rfl)
            · refine lv_aload_n hx hb dX7_there_42 rfl (lv_at hl 2 rfl) ?_
              refine lv_iload hx hb dX7_there_43 (lv_at hl 0 rfl) ?_
              refine c_Vi (rest := [.int (thereAt σ u b k)]) hl9 hC hI hl.1 (tX7_leftOf l g B0 ad σ pd th h hok k hk2) (cw_X7_128 hts rfl rfl ⟨(Nat.le_of_ble_eq_true rfl), (Nat.le_of_ble_eq_true rfl)⟩) fM_o rfl rfl rfl rfl (Nat.le_of_ble_eq_true rfl) dX7_there_45 ⟨(Nat.le_of_ble_eq_true rfl), (Nat.le_of_ble_eq_true rfl)⟩ (fun H locs hI => ?_)
              refine lv_if_ge (tgt := 55) hx hb dX7_there_48 (by decide) (fun c48 => ?_) (fun c48 => ?_)
              · refine lv_iconst (v := 0) hx hb dX7_there_55 (by decide) ?_
                refine lv_iload_n hx hb dX7_there_56 rfl (lv_at hl 4 rfl) ?_
                refine lv_icmp_ne (tgt := 64) hx hb dX7_there_57 (by decide) (fun c57 => ?_) (fun c57 => ?_)
                · refine lv_iconst (v := 0) hx hb dX7_there_64 (by decide) ?_
                  refine lv_iadd hx hb dX7_there_65 ?_
                  rw [show thereAt σ u b k + 0 = thereAt σ u b (k + 1) from by show _ = _ + (if _ then _ else _); rw [if_neg (fun z => c57 (by rw [← z.2.2, bi_f (Int32.not_lt.mpr c48)]))]]
                  refine lv_istore_n (lv' := [(3, .int (thereAt σ u b (k + 1))), (4, .int (nI k)), (0, .ref (ad 20 0)), (1, .int u), (2, .int b)]) hx hb dX7_there_66 rfl hl (by decide) rfl (fun ls hl => ?_)
                  refine lv_iinc (v := nI (k + 1)) (lv' := [(4, .int (nI (k + 1))), (3, .int (thereAt σ u b (k + 1))), (0, .ref (ad 20 0)), (1, .int u), (2, .int b)]) hx hb dX7_there_67 hl (k := 1) rfl (nI_1 _) (by decide) rfl (fun ls hl => ?_)
                  refine lv_goto (tgt := 5) hx hb dX7_there_70 (by decide) ?_
                  exact ih5 (k + 1) (by omega) (by omega) _ _ hI ls (lv_sub hl [0, 1, 2, 3, 4] rfl)
                · refine lv_iconst (v := 1) hx hb dX7_there_60 (by decide) ?_
                  refine lv_goto (tgt := 65) hx hb dX7_there_61 (by decide) ?_
                  refine lv_iadd hx hb dX7_there_65 ?_
                  rw [show thereAt σ u b k + 1 = thereAt σ u b (k + 1) from by show _ = _ + (if _ then _ else _); rw [if_pos (⟨c23, Or.inr c39, by rw [bi_f (Int32.not_lt.mpr c48)]; exact c57⟩)]]
                  refine lv_istore_n (lv' := [(3, .int (thereAt σ u b (k + 1))), (4, .int (nI k)), (0, .ref (ad 20 0)), (1, .int u), (2, .int b)]) hx hb dX7_there_66 rfl hl (by decide) rfl (fun ls hl => ?_)
                  refine lv_iinc (v := nI (k + 1)) (lv' := [(4, .int (nI (k + 1))), (3, .int (thereAt σ u b (k + 1))), (0, .ref (ad 20 0)), (1, .int u), (2, .int b)]) hx hb dX7_there_67 hl (k := 1) rfl (nI_1 _) (by decide) rfl (fun ls hl => ?_)
                  refine lv_goto (tgt := 5) hx hb dX7_there_70 (by decide) ?_
                  exact ih5 (k + 1) (by omega) (by omega) _ _ hI ls (lv_sub hl [0, 1, 2, 3, 4] rfl)
              · refine lv_iconst (v := 1) hx hb dX7_there_51 (by decide) ?_
                refine lv_goto (tgt := 56) hx hb dX7_there_52 (by decide) ?_
                refine lv_iload_n hx hb dX7_there_56 rfl (lv_at hl 4 rfl) ?_
                refine lv_icmp_ne (tgt := 64) hx hb dX7_there_57 (by decide) (fun c57 => ?_) (fun c57 => ?_)
                · refine lv_iconst (v := 0) hx hb dX7_there_64 (by decide) ?_
                  refine lv_iadd hx hb dX7_there_65 ?_
                  rw [show thereAt σ u b k + 0 = thereAt σ u b (k + 1) from by show _ = _ + (if _ then _ else _); rw [if_neg (fun z => c57 (by rw [← z.2.2, bi_t (Int32.not_le.mp c48)]))]]
                  refine lv_istore_n (lv' := [(3, .int (thereAt σ u b (k + 1))), (4, .int (nI k)), (0, .ref (ad 20 0)), (1, .int u), (2, .int b)]) hx hb dX7_there_66 rfl hl (by decide) rfl (fun ls hl => ?_)
                  refine lv_iinc (v := nI (k + 1)) (lv' := [(4, .int (nI (k + 1))), (3, .int (thereAt σ u b (k + 1))), (0, .ref (ad 20 0)), (1, .int u), (2, .int b)]) hx hb dX7_there_67 hl (k := 1) rfl (nI_1 _) (by decide) rfl (fun ls hl => ?_)
                  refine lv_goto (tgt := 5) hx hb dX7_there_70 (by decide) ?_
                  exact ih5 (k + 1) (by omega) (by omega) _ _ hI ls (lv_sub hl [0, 1, 2, 3, 4] rfl)
                · refine lv_iconst (v := 1) hx hb dX7_there_60 (by decide) ?_
                  refine lv_goto (tgt := 65) hx hb dX7_there_61 (by decide) ?_
                  refine lv_iadd hx hb dX7_there_65 ?_
                  rw [show thereAt σ u b k + 1 = thereAt σ u b (k + 1) from by show _ = _ + (if _ then _ else _); rw [if_pos (⟨c23, Or.inr c39, by rw [bi_t (Int32.not_le.mp c48)]; exact c57⟩)]]
                  refine lv_istore_n (lv' := [(3, .int (thereAt σ u b (k + 1))), (4, .int (nI k)), (0, .ref (ad 20 0)), (1, .int u), (2, .int b)]) hx hb dX7_there_66 rfl hl (by decide) rfl (fun ls hl => ?_)
                  refine lv_iinc (v := nI (k + 1)) (lv' := [(4, .int (nI (k + 1))), (3, .int (thereAt σ u b (k + 1))), (0, .ref (ad 20 0)), (1, .int u), (2, .int b)]) hx hb dX7_there_67 hl (k := 1) rfl (nI_1 _) (by decide) rfl (fun ls hl => ?_)
                  refine lv_goto (tgt := 5) hx hb dX7_there_70 (by decide) ?_
                  exact ih5 (k + 1) (by omega) (by omega) _ _ hI ls (lv_sub hl [0, 1, 2, 3, 4] rfl)
  exact L5 (nt σ + 1) 0 (by omega) (by omega) _ _ hI ls (lv_sub hl [0, 1, 2, 3, 4] rfl)
set_option maxHeartbeats 4000000 in
set_option maxRecDepth 100000 in
theorem tX7_clear (l : Launch) (g : Gg) (B0 : Nat) (ad : Ad) (σ : Sg) (pd : Int64) (th : Int32) (h : Wd) (hok : OkP σ) : MM l g B0 yX7_clear (wsM yX7_clear cX7_clear 3 (some .int)) ({ frames := 2, cells := 0, slots := 0, locals := 45 } : Room) [.ref (ad 20 0)] ad (fM g ad σ pd th h) (dI (thereS σ (-1) 1) ad (fM g ad (stCL σ) pd 0 h)) (noX) 0 0 := by
  refine MM.start (by decide) (Nat.le_of_ble_eq_true rfl) ?_
  intro hl9 p e s m below meth c ls hC hno hI hl0
  have hx := hC.1.1
  have hb := hC.1.2.1
  have hts := hC.1.2.2.2.2
  have hl : lv_has ls 3 [(0, .ref (ad 20 0))] := hl0
  obtain ⟨H, hH⟩ : ∃ H, H = s.heap := ⟨_, rfl⟩
  obtain ⟨locs, hLo⟩ : ∃ L : List Loc, L = [] := ⟨_, rfl⟩
  rw [← hH, ← hLo] at hI ⊢
  clear hH hLo hl0
  obtain ⟨h17, h60, h10, h6, h5, h12, hpr, hrm⟩ := id hok
  refine lv_aload_n hx hb dX7_clear_0 rfl (lv_at hl 0 rfl) ?_
  refine lv_iconst (v := 0) hx hb dX7_clear_1 (by decide) ?_
  refine pf_X7_60 hC hI fM_o (Nat.le_of_ble_eq_true rfl) dX7_clear_2 (fun H locs hI => ?_)
  have hI := hI.cast fM_pth
  refine lv_aload_n hx hb dX7_clear_5 rfl (lv_at hl 0 rfl) ?_
  refine lv_iconst (v := (-1)) hx hb dX7_clear_6 (by decide) ?_
  refine lv_iconst (v := 1) hx hb dX7_clear_7 (by decide) ?_
  refine c_Vi (rest := []) hl9 hC hI hl.1 (tX7_there l g B0 ad σ pd 0 h hok (-1) 1) (cw_X7_143 hts rfl rfl ⟨(Nat.le_of_ble_eq_true rfl), (Nat.le_of_ble_eq_true rfl)⟩) fM_o rfl rfl rfl rfl (Nat.le_of_ble_eq_true rfl) dX7_clear_8 ⟨(Nat.le_of_ble_eq_true rfl), (Nat.le_of_ble_eq_true rfl)⟩ (fun H locs hI => ?_)
  refine lv_istore_n (lv' := [(1, .int (thereS σ (-1) 1)), (0, .ref (ad 20 0))]) hx hb dX7_clear_11 rfl hl (by decide) rfl (fun ls hl => ?_)
  refine lv_iconst (v := 0) hx hb dX7_clear_12 (by decide) ?_
  refine lv_istore_n (lv' := [(2, .int (nI 0)), (1, .int (thereS σ (-1) 1)), (0, .ref (ad 20 0))]) hx hb dX7_clear_13 rfl hl (by decide) rfl (fun ls hl => ?_)
  have hI := hI.cast (congrArg (fun z => fM g ad z pd 0 h) (clrF_0 σ).symm)
  have L14 : ∀ (n : Nat) (k : Nat), k ≤ nt σ → nt σ + 1 ≤ k + n → ∀ (H : Heap) (locs : List Loc), WI g ad B0 (fM g ad (su σ 19 (clrF σ k)) pd 0 h) s H locs → ∀ (ls : Array Slot), lv_has ls 3 [(2, .int (nI k)), (1, .int (thereS σ (-1) 1)), (0, .ref (ad 20 0))] → W p l e ({ frames := 2, cells := 0, slots := 0, locals := 45 } : Room) s m ([.ref (ad 20 0)] : List Value).toArray below meth c H locs 0 0 (vx_MQ below (QI g B0 (dI (thereS σ (-1) 1) ad (fM g ad (stCL σ) pd 0 h))) (XI g B0 (noX)) ([.ref (ad 20 0)] : List Value).toArray s 0 0 (fun q => B0 ≤ q)) (F0 m 14 ls []) := by
    intro n
    induction n with
    | zero =>
      intro k hk9 hfu
      exact absurd hfu (by omega)
    | succ n ih14 =>
      intro k hk9 hfu H locs hI ls hl
      refine lv_iload_n hx hb dX7_clear_14 rfl (lv_at hl 0 rfl) ?_
      refine lv_aload_n hx hb dX7_clear_15 rfl (lv_at hl 2 rfl) ?_
      refine gf_X7_73 hC hI fM_o rfl dX7_clear_16 ?_
      refine lv_icmp_ge (tgt := 43) hx hb dX7_clear_19 (by decide) (fun c19 => ?_) (fun c19 => ?_)
      · have hk2 : nt σ ≤ k := ge_T h17 (by omega) (by omega) c19
        refine lv_iload_n hx hb dX7_clear_43 rfl (lv_at hl 1 rfl) ?_
        exact e_int hC hI (rIw rfl (by rw [show k = nt σ by omega]; rfl)) (Nat.le_of_ble_eq_true rfl) (Nat.le_of_ble_eq_true rfl) dX7_clear_44
      · have hk2 : k < nt σ := ge_F h17 (by omega) (by omega) c19
        refine lv_aload_n hx hb dX7_clear_22 rfl (lv_at hl 2 rfl) ?_
        refine lv_iload_n hx hb dX7_clear_23 rfl (lv_at hl 0 rfl) ?_
        refine c_Vi (rest := []) hl9 hC hI hl.1 (tX7_leftOf l g B0 ad (su σ 19 (clrF σ k)) pd 0 h (OkP_clr hok k) k hk2) (cw_X7_128 hts rfl rfl ⟨(Nat.le_of_ble_eq_true rfl), (Nat.le_of_ble_eq_true rfl)⟩) fM_o rfl rfl rfl rfl (Nat.le_of_ble_eq_true rfl) dX7_clear_24 ⟨(Nat.le_of_ble_eq_true rfl), (Nat.le_of_ble_eq_true rfl)⟩ (fun H locs hI => ?_)
        refine lv_if_ge (tgt := 37) hx hb dX7_clear_27 (by decide) (fun c27 => ?_) (fun c27 => ?_)
        · have hI := hI.cast (congrArg (fun z => fM g ad z pd 0 h) (clrF_n (Int32.not_lt.mpr c27)))
          refine lv_iinc (v := nI (k + 1)) (lv' := [(2, .int (nI (k + 1))), (1, .int (thereS σ (-1) 1)), (0, .ref (ad 20 0))]) hx hb dX7_clear_37 hl (k := 0) rfl (nI_1 _) (by decide) rfl (fun ls hl => ?_)
          refine lv_goto (tgt := 14) hx hb dX7_clear_40 (by decide) ?_
          exact ih14 (k + 1) (by omega) (by omega) _ _ hI ls (lv_sub hl [0, 1, 2] rfl)
        · refine lv_aload_n hx hb dX7_clear_30 rfl (lv_at hl 2 rfl) ?_
          refine gf_X7_51 hC hI fM_o rfl dX7_clear_31 ?_
          refine lv_iload_n hx hb dX7_clear_34 rfl (lv_at hl 0 rfl) ?_
          refine lv_iconst (v := (-1)) hx hb dX7_clear_35 (by decide) ?_
          refine r_iast hC hI fM_19 (j := k) rfl (by omega) (by decide) dX7_clear_36 (fun H locs hI => ?_)
          have hI := hI.cast (fM_a 19 rfl (by decide) (by decide) rfl)
          have hI := hI.cast (congrArg (fun z => fM g ad z pd 0 h) (clrF_s (Int32.not_le.mp c27)))
          refine lv_iinc (v := nI (k + 1)) (lv' := [(2, .int (nI (k + 1))), (1, .int (thereS σ (-1) 1)), (0, .ref (ad 20 0))]) hx hb dX7_clear_37 hl (k := 0) rfl (nI_1 _) (by decide) rfl (fun ls hl => ?_)
          refine lv_goto (tgt := 14) hx hb dX7_clear_40 (by decide) ?_
          exact ih14 (k + 1) (by omega) (by omega) _ _ hI ls (lv_sub hl [0, 1, 2] rfl)
  exact L14 (nt σ + 1) 0 (by omega) (by omega) _ _ hI ls (lv_sub hl [0, 1, 2] rfl)
set_option maxHeartbeats 4000000 in
set_option maxRecDepth 100000 in
theorem tX7_stock (l : Launch) (g : Gg) (B0 : Nat) (ad : Ad) (σ : Sg) (pd : Int64) (th : Int32) (h : Wd) (hok : OkP σ) (u b : Int32) : MM l g B0 yX7_stock (wsM yX7_stock cX7_stock 3 (some .int)) ({ frames := 2, cells := 0, slots := 0, locals := 45 } : Room) [.ref (ad 20 0), .int u, .int b] ad (fM g ad σ pd th h) (rM g ad h (kdST σ u) (thereS σ u b) σ σ pd pd) (noX) 0 0 := by
  refine MM.start (by decide) (Nat.le_of_ble_eq_true rfl) ?_
  intro hl9 p e s m below meth c ls hC hno hI hl0
  have hx := hC.1.1
  have hb := hC.1.2.1
  have hts := hC.1.2.2.2.2
  have hl : lv_has ls 3 [(0, .ref (ad 20 0)), (1, .int u), (2, .int b)] := hl0
  obtain ⟨H, hH⟩ : ∃ H, H = s.heap := ⟨_, rfl⟩
  obtain ⟨locs, hLo⟩ : ∃ L : List Loc, L = [] := ⟨_, rfl⟩
  rw [← hH, ← hLo] at hI ⊢
  clear hH hLo hl0
  refine lv_aload_n hx hb dX7_stock_0 rfl (lv_at hl 0 rfl) ?_
  refine lv_iconst (v := 0) hx hb dX7_stock_1 (by decide) ?_
  refine pf_X7_60 hC hI fM_o (Nat.le_of_ble_eq_true rfl) dX7_stock_2 (fun H locs hI => ?_)
  have hI := hI.cast fM_pth
  refine lv_aload_n hx hb dX7_stock_5 rfl (lv_at hl 0 rfl) ?_
  refine lv_iload_n hx hb dX7_stock_6 rfl (lv_at hl 1 rfl) ?_
  refine c_Vi (rest := []) hl9 hC hI hl.1 (tX7_isProduct l g B0 ad σ pd 0 h u) (cw_X7_119 hts rfl rfl ⟨(Nat.le_of_ble_eq_true rfl), (Nat.le_of_ble_eq_true rfl)⟩) fM_o rfl rfl rfl rfl (Nat.le_of_ble_eq_true rfl) dX7_stock_7 ⟨(Nat.le_of_ble_eq_true rfl), (Nat.le_of_ble_eq_true rfl)⟩ (fun H locs hI => ?_)
  refine lv_if_eq (tgt := 22) hx hb dX7_stock_10 (by decide) (fun c10 => ?_) (fun c10 => ?_)
  · have c10 := bi_0.mp c10
    refine lv_aload_n hx hb dX7_stock_22 rfl (lv_at hl 0 rfl) ?_
    refine lv_iconst (v := 1) hx hb dX7_stock_23 (by decide) ?_
    refine c_Vi (rest := []) hl9 hC hI hl.1 (tX7_no l g B0 ad σ pd 0 h 1) (cw_X7_85 hts rfl rfl ⟨(Nat.le_of_ble_eq_true rfl), (Nat.le_of_ble_eq_true rfl)⟩) fM_o rfl rfl rfl rfl (Nat.le_of_ble_eq_true rfl) dX7_stock_24 ⟨(Nat.le_of_ble_eq_true rfl), (Nat.le_of_ble_eq_true rfl)⟩ (fun H locs hI => ?_)
    exact e_int hC hI (rM_no (if_neg c10) (by decide)) (Nat.le_of_ble_eq_true rfl) (Nat.le_of_ble_eq_true rfl) dX7_stock_27
  · have c10 := bi_1.mp c10
    refine lv_aload_n hx hb dX7_stock_13 rfl (lv_at hl 0 rfl) ?_
    refine lv_iload_n hx hb dX7_stock_14 rfl (lv_at hl 1 rfl) ?_
    refine lv_iload_n hx hb dX7_stock_15 rfl (lv_at hl 2 rfl) ?_
    refine c_Vi (rest := []) hl9 hC hI hl.1 (tX7_there l g B0 ad σ pd 0 h hok u b) (cw_X7_143 hts rfl rfl ⟨(Nat.le_of_ble_eq_true rfl), (Nat.le_of_ble_eq_true rfl)⟩) fM_o rfl rfl rfl rfl (Nat.le_of_ble_eq_true rfl) dX7_stock_16 ⟨(Nat.le_of_ble_eq_true rfl), (Nat.le_of_ble_eq_true rfl)⟩ (fun H locs hI => ?_)
    refine lv_goto (tgt := 27) hx hb dX7_stock_19 (by decide) ?_
    exact e_int hC hI (rM_ok (if_pos c10) rfl rfl) (Nat.le_of_ble_eq_true rfl) (Nat.le_of_ble_eq_true rfl) dX7_stock_27
set_option maxHeartbeats 4000000 in
set_option maxRecDepth 100000 in
theorem tX7_counted (l : Launch) (g : Gg) (B0 : Nat) (ad : Ad) (σ : Sg) (pd : Int64) (th : Int32) (h : Wd) (hok : OkP σ) (w : Int32) : MM l g B0 yX7_counted (wsM yX7_counted cX7_counted 2 (some .int)) ({ frames := 2, cells := 0, slots := 0, locals := 45 } : Room) [.ref (ad 20 0), .int w] ad (fM g ad σ pd th h) (dI (cntS σ w) ad (fM g ad σ pd th h)) (noX) 0 0 := by
  refine MM.start (by decide) (Nat.le_of_ble_eq_true rfl) ?_
  intro hl9 p e s m below meth c ls hC hno hI hl0
  have hx := hC.1.1
  have hb := hC.1.2.1
  have hts := hC.1.2.2.2.2
  have hl : lv_has ls 2 [(0, .ref (ad 20 0)), (1, .int w)] := hl0
  obtain ⟨H, hH⟩ : ∃ H, H = s.heap := ⟨_, rfl⟩
  obtain ⟨locs, hLo⟩ : ∃ L : List Loc, L = [] := ⟨_, rfl⟩
  rw [← hH, ← hLo] at hI ⊢
  clear hH hLo hl0
  refine lv_iload_n hx hb dX7_counted_0 rfl (lv_at hl 1 rfl) ?_
  refine lv_if_ne (tgt := 11) hx hb dX7_counted_1 (by decide) (fun c1 => ?_) (fun c1 => ?_)
  · refine lv_iload_n hx hb dX7_counted_11 rfl (lv_at hl 1 rfl) ?_
    refine lv_iconst (v := 1) hx hb dX7_counted_12 (by decide) ?_
    refine lv_icmp_ne (tgt := 23) hx hb dX7_counted_13 (by decide) (fun c13 => ?_) (fun c13 => ?_)
    · refine lv_iload_n hx hb dX7_counted_23 rfl (lv_at hl 1 rfl) ?_
      refine lv_iconst (v := 2) hx hb dX7_counted_24 (by decide) ?_
      refine lv_icmp_ne (tgt := 35) hx hb dX7_counted_25 (by decide) (fun c25 => ?_) (fun c25 => ?_)
      · refine lv_iload_n hx hb dX7_counted_35 rfl (lv_at hl 1 rfl) ?_
        refine lv_iconst (v := 3) hx hb dX7_counted_36 (by decide) ?_
        refine lv_icmp_ne (tgt := 56) hx hb dX7_counted_37 (by decide) (fun c37 => ?_) (fun c37 => ?_)
        · refine lv_aload_n hx hb dX7_counted_56 rfl (lv_at hl 0 rfl) ?_
          refine gf_X7_140 hC hI fM_o rfl dX7_counted_57 ?_
          exact e_int hC hI (rI (by unfold cntS; rw [if_neg c1, if_neg c13, if_neg c25, if_neg c37])) (Nat.le_of_ble_eq_true rfl) (Nat.le_of_ble_eq_true rfl) dX7_counted_60
        · refine lv_aload_n hx hb dX7_counted_40 rfl (lv_at hl 0 rfl) ?_
          refine lv_iconst (v := (-1)) hx hb dX7_counted_41 (by decide) ?_
          refine lv_iconst (v := 0) hx hb dX7_counted_42 (by decide) ?_
          refine c_Vi (rest := []) hl9 hC hI hl.1 (tX7_there l g B0 ad σ pd th h hok (-1) 0) (cw_X7_143 hts rfl rfl ⟨(Nat.le_of_ble_eq_true rfl), (Nat.le_of_ble_eq_true rfl)⟩) fM_o rfl rfl rfl rfl (Nat.le_of_ble_eq_true rfl) dX7_counted_43 ⟨(Nat.le_of_ble_eq_true rfl), (Nat.le_of_ble_eq_true rfl)⟩ (fun H locs hI => ?_)
          refine lv_aload_n hx hb dX7_counted_46 rfl (lv_at hl 0 rfl) ?_
          refine lv_iconst (v := (-1)) hx hb dX7_counted_47 (by decide) ?_
          refine lv_iconst (v := 1) hx hb dX7_counted_48 (by decide) ?_
          refine c_Vi (rest := [.int (thereS σ (-1) 0)]) hl9 hC hI hl.1 (tX7_there l g B0 ad σ pd th h hok (-1) 1) (cw_X7_143 hts rfl rfl ⟨(Nat.le_of_ble_eq_true rfl), (Nat.le_of_ble_eq_true rfl)⟩) fM_o rfl rfl rfl rfl (Nat.le_of_ble_eq_true rfl) dX7_counted_49 ⟨(Nat.le_of_ble_eq_true rfl), (Nat.le_of_ble_eq_true rfl)⟩ (fun H locs hI => ?_)
          refine lv_iadd hx hb dX7_counted_52 ?_
          refine lv_goto (tgt := 60) hx hb dX7_counted_53 (by decide) ?_
          exact e_int hC hI (rI (by unfold cntS; rw [if_neg c1, if_neg c13, if_neg c25, if_pos c37])) (Nat.le_of_ble_eq_true rfl) (Nat.le_of_ble_eq_true rfl) dX7_counted_60
      · refine lv_aload_n hx hb dX7_counted_28 rfl (lv_at hl 0 rfl) ?_
        refine gf_X7_73 hC hI fM_o rfl dX7_counted_29 ?_
        refine lv_goto (tgt := 60) hx hb dX7_counted_32 (by decide) ?_
        exact e_int hC hI (rI (by unfold cntS; rw [if_neg c1, if_neg c13, if_pos c25])) (Nat.le_of_ble_eq_true rfl) (Nat.le_of_ble_eq_true rfl) dX7_counted_60
    · refine lv_aload_n hx hb dX7_counted_16 rfl (lv_at hl 0 rfl) ?_
      refine gf_X7_70 hC hI fM_o rfl dX7_counted_17 ?_
      refine lv_goto (tgt := 60) hx hb dX7_counted_20 (by decide) ?_
      exact e_int hC hI (rI (by unfold cntS; rw [if_neg c1, if_pos c13])) (Nat.le_of_ble_eq_true rfl) (Nat.le_of_ble_eq_true rfl) dX7_counted_60
  · refine lv_aload_n hx hb dX7_counted_4 rfl (lv_at hl 0 rfl) ?_
    refine gf_X7_63 hC hI fM_o rfl dX7_counted_5 ?_
    refine lv_goto (tgt := 60) hx hb dX7_counted_8 (by decide) ?_
    exact e_int hC hI (rI (if_pos c1).symm) (Nat.le_of_ble_eq_true rfl) (Nat.le_of_ble_eq_true rfl) dX7_counted_60
set_option maxHeartbeats 4000000 in
set_option maxRecDepth 100000 in
theorem tX7_count (l : Launch) (g : Gg) (B0 : Nat) (ad : Ad) (σ : Sg) (pd : Int64) (th : Int32) (h : Wd) (hok : OkP σ) (w : Int32) : MM l g B0 yX7_count (wsM yX7_count cX7_count 2 (some .int)) ({ frames := 3, cells := 0, slots := 0, locals := 66 } : Room) [.ref (ad 20 0), .int w] ad (fM g ad σ pd th h) (rM g ad h (kdCO w) (cntS σ w) σ σ pd pd) (noX) 0 0 := by
  refine MM.start (by decide) (Nat.le_of_ble_eq_true rfl) ?_
  intro hl9 p e s m below meth c ls hC hno hI hl0
  have hx := hC.1.1
  have hb := hC.1.2.1
  have hts := hC.1.2.2.2.2
  have hl : lv_has ls 2 [(0, .ref (ad 20 0)), (1, .int w)] := hl0
  obtain ⟨H, hH⟩ : ∃ H, H = s.heap := ⟨_, rfl⟩
  obtain ⟨locs, hLo⟩ : ∃ L : List Loc, L = [] := ⟨_, rfl⟩
  rw [← hH, ← hLo] at hI ⊢
  clear hH hLo hl0
  refine lv_aload_n hx hb dX7_count_0 rfl (lv_at hl 0 rfl) ?_
  refine lv_iconst (v := 0) hx hb dX7_count_1 (by decide) ?_
  refine pf_X7_60 hC hI fM_o (Nat.le_of_ble_eq_true rfl) dX7_count_2 (fun H locs hI => ?_)
  have hI := hI.cast fM_pth
  refine lv_iload_n hx hb dX7_count_5 rfl (lv_at hl 1 rfl) ?_
  refine lv_iconst (v := 0) hx hb dX7_count_6 (by decide) ?_
  refine lv_iconst (v := 4) hx hb dX7_count_7 (by decide) ?_
  refine c_Si (rest := []) hl9 hC hI hl.1 (tX7_isIn l g B0 ad _ w 0 4) (cw_X7_66 hts rfl rfl ⟨(Nat.le_of_ble_eq_true rfl), (Nat.le_of_ble_eq_true rfl)⟩) rfl rfl (Nat.le_of_ble_eq_true rfl) dX7_count_8 ⟨(Nat.le_of_ble_eq_true rfl), (Nat.le_of_ble_eq_true rfl)⟩ (fun H locs hI => ?_)
  refine lv_if_eq (tgt := 22) hx hb dX7_count_11 (by decide) (fun c11 => ?_) (fun c11 => ?_)
  · have c11 := bi_0.mp c11
    refine lv_aload_n hx hb dX7_count_22 rfl (lv_at hl 0 rfl) ?_
    refine lv_iconst (v := 1) hx hb dX7_count_23 (by decide) ?_
    refine c_Vi (rest := []) hl9 hC hI hl.1 (tX7_no l g B0 ad σ pd 0 h 1) (cw_X7_85 hts rfl rfl ⟨(Nat.le_of_ble_eq_true rfl), (Nat.le_of_ble_eq_true rfl)⟩) fM_o rfl rfl rfl rfl (Nat.le_of_ble_eq_true rfl) dX7_count_24 ⟨(Nat.le_of_ble_eq_true rfl), (Nat.le_of_ble_eq_true rfl)⟩ (fun H locs hI => ?_)
    exact e_int hC hI (rM_no (if_neg c11) (by decide)) (Nat.le_of_ble_eq_true rfl) (Nat.le_of_ble_eq_true rfl) dX7_count_27
  · have c11 := bi_1.mp c11
    refine lv_aload_n hx hb dX7_count_14 rfl (lv_at hl 0 rfl) ?_
    refine lv_iload_n hx hb dX7_count_15 rfl (lv_at hl 1 rfl) ?_
    refine c_Vi (rest := []) hl9 hC hI hl.1 (tX7_counted l g B0 ad σ pd 0 h hok w) (cw_X7_147 hts rfl rfl ⟨(Nat.le_of_ble_eq_true rfl), (Nat.le_of_ble_eq_true rfl)⟩) fM_o rfl rfl rfl rfl (Nat.le_of_ble_eq_true rfl) dX7_count_16 ⟨(Nat.le_of_ble_eq_true rfl), (Nat.le_of_ble_eq_true rfl)⟩ (fun H locs hI => ?_)
    refine lv_goto (tgt := 27) hx hb dX7_count_19 (by decide) ?_
    exact e_int hC hI (rM_ok (if_pos c11) rfl rfl) (Nat.le_of_ble_eq_true rfl) (Nat.le_of_ble_eq_true rfl) dX7_count_27
set_option maxHeartbeats 4000000 in
set_option maxRecDepth 100000 in
theorem tX7_setMachine (l : Launch) (g : Gg) (B0 : Nat) (ad : Ad) (σ : Sg) (pd : Int64) (th : Int32) (h : Wd) (r hh : Nat) (hr : r < 6) (hh24 : hh < 24) : MM l g B0 yX7_setMachine (wsM yX7_setMachine cX7_setMachine 6 none) ({ frames := 2, cells := 0, slots := 0, locals := 46 } : Room) [.ref (ad 20 0), .int (nI r), .int (nI hh)] ad (fM g ad σ pd th h) (dV ad (fM g ad (smS σ r hh) pd th h)) (noX) 0 0 := by
  refine MM.start (by decide) (Nat.le_of_ble_eq_true rfl) ?_
  intro hl9 p e s m below meth c ls hC hno hI hl0
  have hx := hC.1.1
  have hb := hC.1.2.1
  have hts := hC.1.2.2.2.2
  have hl : lv_has ls 6 [(0, .ref (ad 20 0)), (1, .int (nI r)), (2, .int (nI hh))] := hl0
  obtain ⟨H, hH⟩ : ∃ H, H = s.heap := ⟨_, rfl⟩
  obtain ⟨locs, hLo⟩ : ∃ L : List Loc, L = [] := ⟨_, rfl⟩
  rw [← hH, ← hLo] at hI ⊢
  clear hH hLo hl0
  refine lv_bipush (v := 6) hx hb dX7_setMachine_0 (by decide) ?_
  refine lv_iload_n hx hb dX7_setMachine_2 rfl (lv_at hl 1 rfl) ?_
  refine lv_imul hx hb dX7_setMachine_3 ?_
  rw [six_nI]
  refine lv_istore_n (lv' := [(3, .int (nI (6 * r))), (0, .ref (ad 20 0)), (1, .int (nI r)), (2, .int (nI hh))]) hx hb dX7_setMachine_4 rfl hl (by decide) rfl (fun ls hl => ?_)
  refine lv_aload_n hx hb dX7_setMachine_5 rfl (lv_at hl 1 rfl) ?_
  refine gf_X7_45 hC hI fM_o rfl dX7_setMachine_6 ?_
  refine lv_iload_n hx hb dX7_setMachine_9 rfl (lv_at hl 0 rfl) ?_
  refine lv_iconst (v := 0) hx hb dX7_setMachine_10 (by decide) ?_
  refine lv_iadd hx hb dX7_setMachine_11 ?_
  refine r_iald hC hI fM_16 (j := (6 * r)) (nI_add _ 0) (by omega) (by decide) dX7_setMachine_12 ?_
  refine lv_istore (lv' := [(4, .int (σ 16 (6 * r))), (3, .int (nI (6 * r))), (0, .ref (ad 20 0)), (1, .int (nI r)), (2, .int (nI hh))]) hx hb dX7_setMachine_13 hl (by decide) rfl (fun ls hl => ?_)
  refine lv_aload_n hx hb dX7_setMachine_15 rfl (lv_at hl 2 rfl) ?_
  refine gf_X7_38 hC hI fM_o rfl dX7_setMachine_16 ?_
  refine lv_iload_n hx hb dX7_setMachine_19 rfl (lv_at hl 3 rfl) ?_
  refine r_iald hC hI fM_14 (j := r) rfl (by omega) (by decide) dX7_setMachine_20 ?_
  refine lv_istore (lv' := [(5, .int (σ 14 r)), (4, .int (σ 16 (6 * r))), (3, .int (nI (6 * r))), (0, .ref (ad 20 0)), (1, .int (nI r)), (2, .int (nI hh))]) hx hb dX7_setMachine_21 hl (by decide) rfl (fun ls hl => ?_)
  refine lv_aload_n hx hb dX7_setMachine_23 rfl (lv_at hl 3 rfl) ?_
  refine gf_X7_45 hC hI fM_o rfl dX7_setMachine_24 ?_
  refine lv_iload_n hx hb dX7_setMachine_27 rfl (lv_at hl 2 rfl) ?_
  refine lv_iconst (v := 2) hx hb dX7_setMachine_28 (by decide) ?_
  refine lv_iadd hx hb dX7_setMachine_29 ?_
  refine r_iald hC hI fM_16 (j := (6 * r + 2)) (nI_add _ 2) (by omega) (by decide) dX7_setMachine_30 ?_
  refine lv_iconst (v := 2) hx hb dX7_setMachine_31 (by decide) ?_
  refine lv_icmp_ne (tgt := 80) hx hb dX7_setMachine_32 (by decide) (fun c32 => ?_) (fun c32 => ?_)
  · refine lv_aload_n hx hb dX7_setMachine_80 rfl (lv_at hl 3 rfl) ?_
    refine gf_X7_41 hC hI fM_o rfl dX7_setMachine_81 ?_
    refine lv_iload_n hx hb dX7_setMachine_84 rfl (lv_at hl 4 rfl) ?_
    refine r_zald hC hI fM_15 (j := r) rfl (by omega) (by decide) dX7_setMachine_85 ?_
    refine lv_if_eq (tgt := 128) hx hb dX7_setMachine_86 (by decide) (fun c86 => ?_) (fun c86 => ?_)
    · refine lv_iload hx hb dX7_setMachine_128 (lv_at hl 1 rfl) ?_
      refine lv_iload hx hb dX7_setMachine_130 (lv_at hl 0 rfl) ?_
      refine lv_iconst (v := 5) hx hb dX7_setMachine_132 (by decide) ?_
      refine lv_iadd hx hb dX7_setMachine_133 ?_
      refine lv_icmp_le (tgt := 149) hx hb dX7_setMachine_134 (by decide) (fun c134 => ?_) (fun c134 => ?_)
      · refine lv_iload hx hb dX7_setMachine_149 (lv_at hl 1 rfl) ?_
        refine lv_iload hx hb dX7_setMachine_151 (lv_at hl 0 rfl) ?_
        refine lv_iconst (v := 5) hx hb dX7_setMachine_153 (by decide) ?_
        refine lv_isub hx hb dX7_setMachine_154 ?_
        refine lv_icmp_ge (tgt := 167) hx hb dX7_setMachine_155 (by decide) (fun c155 => ?_) (fun c155 => ?_)
        · exact e_void hC hI (rVw (by unfold smS; rw [if_neg c32, if_neg (fun z => z.1 c86), if_neg (Int32.not_lt.mpr c134), if_neg (Int32.not_lt.mpr c155)])) (Nat.le_of_ble_eq_true rfl) (Nat.le_of_ble_eq_true rfl) dX7_setMachine_167
        · refine lv_aload_n hx hb dX7_setMachine_158 rfl (lv_at hl 3 rfl) ?_
          refine gf_X7_45 hC hI fM_o rfl dX7_setMachine_159 ?_
          refine lv_iload_n hx hb dX7_setMachine_162 rfl (lv_at hl 2 rfl) ?_
          refine lv_iconst (v := 2) hx hb dX7_setMachine_163 (by decide) ?_
          refine lv_iadd hx hb dX7_setMachine_164 ?_
          refine lv_iconst (v := 0) hx hb dX7_setMachine_165 (by decide) ?_
          refine r_iast hC hI fM_16 (j := (6 * r + 2)) (nI_add _ 2) (by omega) (by decide) dX7_setMachine_166 (fun H locs hI => ?_)
          have hI := hI.cast (fM_a 16 rfl (by decide) (by decide) rfl)
          exact e_void hC hI (rVw (by unfold smS; rw [if_neg c32, if_neg (fun z => z.1 c86), if_neg (Int32.not_lt.mpr c134), if_pos (Int32.not_le.mp c155)])) (Nat.le_of_ble_eq_true rfl) (Nat.le_of_ble_eq_true rfl) dX7_setMachine_167
      · refine lv_aload_n hx hb dX7_setMachine_137 rfl (lv_at hl 3 rfl) ?_
        refine gf_X7_45 hC hI fM_o rfl dX7_setMachine_138 ?_
        refine lv_iload_n hx hb dX7_setMachine_141 rfl (lv_at hl 2 rfl) ?_
        refine lv_iconst (v := 2) hx hb dX7_setMachine_142 (by decide) ?_
        refine lv_iadd hx hb dX7_setMachine_143 ?_
        refine lv_iconst (v := 1) hx hb dX7_setMachine_144 (by decide) ?_
        refine r_iast hC hI fM_16 (j := (6 * r + 2)) (nI_add _ 2) (by omega) (by decide) dX7_setMachine_145 (fun H locs hI => ?_)
        have hI := hI.cast (fM_a 16 rfl (by decide) (by decide) rfl)
        refine lv_goto (tgt := 167) hx hb dX7_setMachine_146 (by decide) ?_
        exact e_void hC hI (rVw (by unfold smS; rw [if_neg c32, if_neg (fun z => z.1 c86), if_pos (Int32.not_le.mp c134)])) (Nat.le_of_ble_eq_true rfl) (Nat.le_of_ble_eq_true rfl) dX7_setMachine_167
    · refine lv_aload_n hx hb dX7_setMachine_89 rfl (lv_at hl 3 rfl) ?_
      refine gf_X7_13 hC hI fM_o rfl dX7_setMachine_90 ?_
      refine lv_iload_n hx hb dX7_setMachine_93 rfl (lv_at hl 5 rfl) ?_
      refine r_iald hC hI fM_4 (j := hh) rfl (by omega) (by decide) dX7_setMachine_94 ?_
      refine lv_aload_n hx hb dX7_setMachine_95 rfl (lv_at hl 3 rfl) ?_
      refine c_Vi (rest := [.int (σ 4 hh)]) hl9 hC hI hl.1 (tX7_lowest l g B0 ad σ pd th h) (cw_X7_98 hts rfl rfl ⟨(Nat.le_of_ble_eq_true rfl), (Nat.le_of_ble_eq_true rfl)⟩) fM_o rfl rfl rfl rfl (Nat.le_of_ble_eq_true rfl) dX7_setMachine_96 ⟨(Nat.le_of_ble_eq_true rfl), (Nat.le_of_ble_eq_true rfl)⟩ (fun H locs hI => ?_)
      refine lv_icmp_ne (tgt := 128) hx hb dX7_setMachine_99 (by decide) (fun c99 => ?_) (fun c99 => ?_)
      · refine lv_iload hx hb dX7_setMachine_128 (lv_at hl 1 rfl) ?_
        refine lv_iload hx hb dX7_setMachine_130 (lv_at hl 0 rfl) ?_
        refine lv_iconst (v := 5) hx hb dX7_setMachine_132 (by decide) ?_
        refine lv_iadd hx hb dX7_setMachine_133 ?_
        refine lv_icmp_le (tgt := 149) hx hb dX7_setMachine_134 (by decide) (fun c134 => ?_) (fun c134 => ?_)
        · refine lv_iload hx hb dX7_setMachine_149 (lv_at hl 1 rfl) ?_
          refine lv_iload hx hb dX7_setMachine_151 (lv_at hl 0 rfl) ?_
          refine lv_iconst (v := 5) hx hb dX7_setMachine_153 (by decide) ?_
          refine lv_isub hx hb dX7_setMachine_154 ?_
          refine lv_icmp_ge (tgt := 167) hx hb dX7_setMachine_155 (by decide) (fun c155 => ?_) (fun c155 => ?_)
          · exact e_void hC hI (rVw (by unfold smS; rw [if_neg c32, if_neg (fun z => c99 z.2), if_neg (Int32.not_lt.mpr c134), if_neg (Int32.not_lt.mpr c155)])) (Nat.le_of_ble_eq_true rfl) (Nat.le_of_ble_eq_true rfl) dX7_setMachine_167
          · refine lv_aload_n hx hb dX7_setMachine_158 rfl (lv_at hl 3 rfl) ?_
            refine gf_X7_45 hC hI fM_o rfl dX7_setMachine_159 ?_
            refine lv_iload_n hx hb dX7_setMachine_162 rfl (lv_at hl 2 rfl) ?_
            refine lv_iconst (v := 2) hx hb dX7_setMachine_163 (by decide) ?_
            refine lv_iadd hx hb dX7_setMachine_164 ?_
            refine lv_iconst (v := 0) hx hb dX7_setMachine_165 (by decide) ?_
            refine r_iast hC hI fM_16 (j := (6 * r + 2)) (nI_add _ 2) (by omega) (by decide) dX7_setMachine_166 (fun H locs hI => ?_)
            have hI := hI.cast (fM_a 16 rfl (by decide) (by decide) rfl)
            exact e_void hC hI (rVw (by unfold smS; rw [if_neg c32, if_neg (fun z => c99 z.2), if_neg (Int32.not_lt.mpr c134), if_pos (Int32.not_le.mp c155)])) (Nat.le_of_ble_eq_true rfl) (Nat.le_of_ble_eq_true rfl) dX7_setMachine_167
        · refine lv_aload_n hx hb dX7_setMachine_137 rfl (lv_at hl 3 rfl) ?_
          refine gf_X7_45 hC hI fM_o rfl dX7_setMachine_138 ?_
          refine lv_iload_n hx hb dX7_setMachine_141 rfl (lv_at hl 2 rfl) ?_
          refine lv_iconst (v := 2) hx hb dX7_setMachine_142 (by decide) ?_
          refine lv_iadd hx hb dX7_setMachine_143 ?_
          refine lv_iconst (v := 1) hx hb dX7_setMachine_144 (by decide) ?_
          refine r_iast hC hI fM_16 (j := (6 * r + 2)) (nI_add _ 2) (by omega) (by decide) dX7_setMachine_145 (fun H locs hI => ?_)
          have hI := hI.cast (fM_a 16 rfl (by decide) (by decide) rfl)
          refine lv_goto (tgt := 167) hx hb dX7_setMachine_146 (by decide) ?_
          exact e_void hC hI (rVw (by unfold smS; rw [if_neg c32, if_neg (fun z => c99 z.2), if_pos (Int32.not_le.mp c134)])) (Nat.le_of_ble_eq_true rfl) (Nat.le_of_ble_eq_true rfl) dX7_setMachine_167
      · refine lv_aload_n hx hb dX7_setMachine_102 rfl (lv_at hl 3 rfl) ?_
        refine gf_X7_45 hC hI fM_o rfl dX7_setMachine_103 ?_
        refine lv_iload_n hx hb dX7_setMachine_106 rfl (lv_at hl 2 rfl) ?_
        refine lv_iconst (v := 2) hx hb dX7_setMachine_107 (by decide) ?_
        refine lv_iadd hx hb dX7_setMachine_108 ?_
        refine lv_iload hx hb dX7_setMachine_109 (lv_at hl 1 rfl) ?_
        refine lv_iload hx hb dX7_setMachine_111 (lv_at hl 0 rfl) ?_
        refine lv_bipush (v := 25) hx hb dX7_setMachine_113 (by decide) ?_
        refine lv_isub hx hb dX7_setMachine_115 ?_
        refine lv_icmp_ge (tgt := 123) hx hb dX7_setMachine_116 (by decide) (fun c116 => ?_) (fun c116 => ?_)
        · refine lv_iconst (v := 1) hx hb dX7_setMachine_123 (by decide) ?_
          refine r_iast hC hI fM_16 (j := (6 * r + 2)) (nI_add _ 2) (by omega) (by decide) dX7_setMachine_124 (fun H locs hI => ?_)
          have hI := hI.cast (fM_a 16 rfl (by decide) (by decide) rfl)
          refine lv_goto (tgt := 167) hx hb dX7_setMachine_125 (by decide) ?_
          exact e_void hC hI (rVw (by unfold smS; rw [if_neg c32, if_pos ⟨c86, c99⟩, if_neg (Int32.not_lt.mpr c116)])) (Nat.le_of_ble_eq_true rfl) (Nat.le_of_ble_eq_true rfl) dX7_setMachine_167
        · refine lv_iconst (v := 0) hx hb dX7_setMachine_119 (by decide) ?_
          refine lv_goto (tgt := 124) hx hb dX7_setMachine_120 (by decide) ?_
          refine r_iast hC hI fM_16 (j := (6 * r + 2)) (nI_add _ 2) (by omega) (by decide) dX7_setMachine_124 (fun H locs hI => ?_)
          have hI := hI.cast (fM_a 16 rfl (by decide) (by decide) rfl)
          refine lv_goto (tgt := 167) hx hb dX7_setMachine_125 (by decide) ?_
          exact e_void hC hI (rVw (by unfold smS; rw [if_neg c32, if_pos ⟨c86, c99⟩, if_pos (Int32.not_le.mp c116)])) (Nat.le_of_ble_eq_true rfl) (Nat.le_of_ble_eq_true rfl) dX7_setMachine_167
  · refine lv_aload_n hx hb dX7_setMachine_35 rfl (lv_at hl 3 rfl) ?_
    refine gf_X7_45 hC hI fM_o rfl dX7_setMachine_36 ?_
    refine lv_iload_n hx hb dX7_setMachine_39 rfl (lv_at hl 2 rfl) ?_
    refine lv_iconst (v := 3) hx hb dX7_setMachine_40 (by decide) ?_
    refine lv_iadd hx hb dX7_setMachine_41 ?_
    refine lv_dup2_11 hx hb dX7_setMachine_42 rfl rfl ?_
    refine r_iald hC hI fM_16 (j := (6 * r + 3)) (nI_add _ 3) (by omega) (by decide) dX7_setMachine_43 ?_
    refine lv_iconst (v := 1) hx hb dX7_setMachine_44 (by decide) ?_
    refine lv_isub hx hb dX7_setMachine_45 ?_
    refine r_iast hC hI fM_16 (j := (6 * r + 3)) (nI_add _ 3) (by omega) (by decide) dX7_setMachine_46 (fun H locs hI => ?_)
    have hI := hI.cast (fM_a 16 rfl (by decide) (by decide) rfl)
    refine lv_aload_n hx hb dX7_setMachine_47 rfl (lv_at hl 3 rfl) ?_
    refine gf_X7_45 hC hI fM_o rfl dX7_setMachine_48 ?_
    refine lv_iload_n hx hb dX7_setMachine_51 rfl (lv_at hl 2 rfl) ?_
    refine lv_iconst (v := 3) hx hb dX7_setMachine_52 (by decide) ?_
    refine lv_iadd hx hb dX7_setMachine_53 ?_
    refine r_iald hC hI fM_16 (j := (6 * r + 3)) (nI_add _ 3) (by omega) (by decide) dX7_setMachine_54 ?_
    refine lv_if_le (tgt := 59) hx hb dX7_setMachine_55 (by decide) (fun c55 => ?_) (fun c55 => ?_)
    · refine lv_aload_n hx hb dX7_setMachine_59 rfl (lv_at hl 3 rfl) ?_
      refine gf_X7_45 hC hI fM_o rfl dX7_setMachine_60 ?_
      refine lv_iload_n hx hb dX7_setMachine_63 rfl (lv_at hl 2 rfl) ?_
      refine lv_iconst (v := 1) hx hb dX7_setMachine_64 (by decide) ?_
      refine lv_iadd hx hb dX7_setMachine_65 ?_
      refine lv_iconst (v := 0) hx hb dX7_setMachine_66 (by decide) ?_
      refine r_iast hC hI fM_16 (j := (6 * r + 1)) (nI_add _ 1) (by omega) (by decide) dX7_setMachine_67 (fun H locs hI => ?_)
      have hI := hI.cast (fM_a 16 rfl (by decide) (by decide) rfl)
      refine lv_aload_n hx hb dX7_setMachine_68 rfl (lv_at hl 3 rfl) ?_
      refine gf_X7_45 hC hI fM_o rfl dX7_setMachine_69 ?_
      refine lv_iload_n hx hb dX7_setMachine_72 rfl (lv_at hl 2 rfl) ?_
      refine lv_iconst (v := 2) hx hb dX7_setMachine_73 (by decide) ?_
      refine lv_iadd hx hb dX7_setMachine_74 ?_
      refine lv_iconst (v := 0) hx hb dX7_setMachine_75 (by decide) ?_
      refine r_iast hC hI fM_16 (j := (6 * r + 2)) (nI_add _ 2) (by omega) (by decide) dX7_setMachine_76 (fun H locs hI => ?_)
      have hI := hI.cast (fM_a 16 rfl (by decide) (by decide) rfl)
      refine lv_goto (tgt := 167) hx hb dX7_setMachine_77 (by decide) ?_
      exact e_void hC hI (rVw (by unfold smS; rw [if_pos c32, if_pos c55])) (Nat.le_of_ble_eq_true rfl) (Nat.le_of_ble_eq_true rfl) dX7_setMachine_167
    · exact e_void hC hI (rVw (by unfold smS; rw [if_pos c32, if_neg c55])) (Nat.le_of_ble_eq_true rfl) (Nat.le_of_ble_eq_true rfl) dX7_setMachine_58
