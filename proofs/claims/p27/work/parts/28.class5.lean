/-! THE CLASS'S ROOM: a pallet comes, goes -/
theorem DI_inj {B0 : Nat} {ad : Ad} {f : Wd} (h : DI B0 ad f) {K i j : Nat} {e e' : va_E} (h1 : f K i = some e) (h2 : f K j = some e') (z : ad K i = ad K j) : i = j := (h.1 _ _ _ _ _ _ h1 h2 z).2
def plcA (g : Gg) (n : Nat) (fn : Nat → Option Nat) : va_E := .inl (g.2 2, n, .inr (.inr (.inr (.inr fn))))

set_option maxHeartbeats 4000000 in
set_option maxRecDepth 100000 in
theorem tX4_take (l : Launch) (g : Gg) (B0 : Nat) (ad : Ad) (f : Wd) (r q n : Nat) (num wa aim th9 te wh rt rw9 t9 a9 pt pa : Int32) (am arm aq : Nat) (ro : Option Nat) (fn : Nat → Option Nat) (hn : n < 2 ^ 31) (hpl : f 11 r = some (plcA g n fn)) (hfree : ∃ j, j < n ∧ fn j = none) (he0 : f 8 r = some (.inr (4, [.int num, .int wa, .ref am, .ref (ad 11 r), .int aim, .int th9, .int te, .int wh, .ref arm, .int rt, .int rw9]))) (he1 : f 12 q = some (.inr (2, [.ref aq, va_rf ro, .int t9, .int a9, .int pt, .int pa]))) : MM l g B0 yX4_take (wsM yX4_take cX4_take 3 none) ({ frames := 0, cells := 0, slots := 0, locals := 0 } : Room) [.ref (ad 8 r), .ref (ad 12 q)] ad (f) (fun v a w => v = none ∧ a = ad ∧ ∃ j, j < n ∧ fn j = none ∧ (∀ i, i < j → ¬ fn i = none) ∧ w = up2 (up2 f 11 r (plcA g n (va_up fn j (some (ad 12 q))))) 12 q (.inr (2, [.ref aq, .ref (ad 8 r), .int t9, .int a9, .int pt, .int pa]))) (noX) 0 0 := by
  refine MM.start (by decide) (Nat.le_of_ble_eq_true rfl) ?_
  intro hl9 p e s m below meth c ls hC hno hI hl0
  have hx := hC.1.1
  have hb := hC.1.2.1
  have hts := hC.1.2.2.2.2
  have hl : lv_has ls 3 [(0, .ref (ad 8 r)), (1, .ref (ad 12 q))] := hl0
  obtain ⟨H, hH⟩ : ∃ H, H = s.heap := ⟨_, rfl⟩
  obtain ⟨locs, hLo⟩ : ∃ L : List Loc, L = [] := ⟨_, rfl⟩
  rw [← hH, ← hLo] at hI ⊢
  clear hH hLo hl0
  refine lv_iconst (v := 0) hx hb dX4_take_0 (by decide) ?_
  refine lv_istore_n (lv' := [(2, .int (nI 0)), (0, .ref (ad 8 r)), (1, .ref (ad 12 q))]) hx hb dX4_take_1 rfl hl (by decide) rfl (fun ls hl => ?_)
  have L2 : ∀ (fu : Nat) (k : Nat), k ≤ n → n + 1 ≤ k + fu → (∀ i, i < k → ¬ fn i = none) → ∀ (H : Heap) (locs : List Loc), WI g ad B0 (f) s H locs → ∀ (ls : Array Slot), lv_has ls 3 [(2, .int (nI k)), (0, .ref (ad 8 r)), (1, .ref (ad 12 q))] → W p l e ({ frames := 0, cells := 0, slots := 0, locals := 0 } : Room) s m ([.ref (ad 8 r), .ref (ad 12 q)] : List Value).toArray below meth c H locs 0 0 (vx_MQ below (QI g B0 (fun v a w => v = none ∧ a = ad ∧ ∃ j, j < n ∧ fn j = none ∧ (∀ i, i < j → ¬ fn i = none) ∧ w = up2 (up2 f 11 r (plcA g n (va_up fn j (some (ad 12 q))))) 12 q (.inr (2, [.ref aq, .ref (ad 8 r), .int t9, .int a9, .int pt, .int pa])))) (XI g B0 (noX)) ([.ref (ad 8 r), .ref (ad 12 q)] : List Value).toArray s 0 0 (fun q => B0 ≤ q)) (F0 m 2 ls []) := by
    intro fu
    induction fu with
    | zero =>
      intro k hk hfu hG
      exact absurd hfu (by omega)
    | succ fu ih2 =>
      intro k hk hfu hG H locs hI ls hl
      refine lv_iload_n hx hb dX4_take_2 rfl (lv_at hl 0 rfl) ?_
      refine lv_aload_n hx hb dX4_take_3 rfl (lv_at hl 1 rfl) ?_
      refine gf_X4_31 hC hI he0 rfl dX4_take_4 ?_
      refine r_alen hC hI hpl 2 rfl (v := nI n) rfl dX4_take_7 ?_
      refine lv_icmp_ge (tgt := 39) hx hb dX4_take_8 (by decide) (fun c8 => ?_) (fun c8 => ?_)
      · have hk2 : n ≤ k := ge_T rfl (by omega) (by omega) c8
        obtain ⟨j, hj, hz⟩ := hfree
        exact absurd hz (hG j (by omega))
      · have hk2 : k < n := ge_F rfl (by omega) (by omega) c8
        refine lv_aload_n hx hb dX4_take_11 rfl (lv_at hl 1 rfl) ?_
        refine gf_X4_31 hC hI he0 rfl dX4_take_12 ?_
        refine lv_iload_n hx hb dX4_take_15 rfl (lv_at hl 0 rfl) ?_
        refine r_aald hC hI hpl 2 rfl (j := k) rfl hk2 (by omega) dX4_take_16 ?_
        refine lv_topo (fun e16 => ?_) (fun q16 e16 => ?_)
        · have hp : fn k = none := e16
          refine lv_ifnonnullN hx hb dX4_take_17 ?_
          refine lv_aload_n hx hb dX4_take_20 rfl (lv_at hl 1 rfl) ?_
          refine gf_X4_31 hC hI he0 rfl dX4_take_21 ?_
          refine lv_iload_n hx hb dX4_take_24 rfl (lv_at hl 0 rfl) ?_
          refine lv_aload_n hx hb dX4_take_25 rfl (lv_at hl 2 rfl) ?_
          refine r_aast hC hI hpl 2 rfl he1 rfl (j := k) rfl hk2 (by omega) dX4_take_26 (fun H locs hI => ?_)
          have hI : WI g ad B0 (up2 (f) 11 r (plcA g n (va_up fn k (some (ad 12 q))))) s H locs := hI.cast (rfl)
          refine lv_aload_n hx hb dX4_take_27 rfl (lv_at hl 2 rfl) ?_
          refine lv_aload_n hx hb dX4_take_28 rfl (lv_at hl 1 rfl) ?_
          refine pf_X4_84 hC hI ((up2_n _ _ (by omega)).trans he1) (Nat.le_of_ble_eq_true rfl) dX4_take_29 (fun H locs hI => ?_)
          have hI : WI g ad B0 (up2 (up2 (f) 11 r (plcA g n (va_up fn k (some (ad 12 q))))) 12 q (.inr (2, [.ref aq, .ref (ad 8 r), .int t9, .int a9, .int pt, .int pa]))) s H locs := hI.cast (rfl)
          exact e_void hC hI ⟨rfl, rfl, k, hk2, hp, hG, rfl⟩ (Nat.le_of_ble_eq_true rfl) (Nat.le_of_ble_eq_true rfl) dX4_take_32
        · have hp : ¬ fn k = none := fun z => by rw [z] at e16; cases e16
          refine lv_ifnonnull (tgt := 33) hx hb dX4_take_17 (by decide) ?_
          refine lv_iinc (v := nI (k + 1)) (lv' := [(2, .int (nI (k + 1))), (0, .ref (ad 8 r)), (1, .ref (ad 12 q))]) hx hb dX4_take_33 hl (k := 0) rfl (nI_1 _) (by decide) rfl (fun ls hl => ?_)
          refine lv_goto (tgt := 2) hx hb dX4_take_36 (by decide) ?_
          have hG2 : ∀ i, i < k + 1 → ¬ fn i = none := fun i hi => by
            by_cases z : i = k
            · rw [z]; exact hp
            · exact hG i (by omega)
          exact ih2 (k + 1) (by omega) (by omega) hG2 _ _ hI ls (lv_sub hl [0, 1, 2] rfl)
  exact L2 (n + 1) 0 (by omega) (by omega) (fun _ z => absurd z (Nat.not_lt_zero _)) _ _ hI ls (lv_sub hl [0, 1, 2] rfl)
set_option maxHeartbeats 4000000 in
set_option maxRecDepth 100000 in
theorem tX4_release (l : Launch) (g : Gg) (B0 : Nat) (ad : Ad) (σ : Sg) (pd : Int64) (pl : Pl) (sc : Sg) (h : Wd) (r : Nat) (hr : r < nr σ) (q : Nat) (hq : q < nt σ) (j0 : Nat) (hj0 : j0 < cN (σ 11 r)) (hpj : pl r j0 = some q) (hrm : σ 19 q = nI r) (hok : OkP σ) (hP : PlOk σ pl) (hR : Rg σ) : MM l g B0 yX4_release (wsM yX4_release cX4_release 3 none) ({ frames := 0, cells := 0, slots := 0, locals := 0 } : Room) [.ref (ad 8 r), .ref (ad 12 q)] ad (fC g ad σ pd pl sc h) (dV ad (fC g ad (s1 σ 19 q (-1)) pd (plu pl r j0 none) sc h)) (noX) 0 0 := by
  refine MM.start (by decide) (Nat.le_of_ble_eq_true rfl) ?_
  intro hl9 p e s m below meth c ls hC hno hI hl0
  have hx := hC.1.1
  have hb := hC.1.2.1
  have hts := hC.1.2.2.2.2
  have hl : lv_has ls 3 [(0, .ref (ad 8 r)), (1, .ref (ad 12 q))] := hl0
  obtain ⟨H, hH⟩ : ∃ H, H = s.heap := ⟨_, rfl⟩
  obtain ⟨locs, hLo⟩ : ∃ L : List Loc, L = [] := ⟨_, rfl⟩
  rw [← hH, ← hLo] at hI ⊢
  clear hH hLo hl0
  obtain ⟨h17, h60, h10, h6, h5, h12, hpr, hrm9⟩ := id hok
  have h20 := (hR.pl hr).2
  refine lv_iconst (v := 0) hx hb dX4_release_0 (by decide) ?_
  refine lv_istore_n (lv' := [(2, .int (nI 0)), (0, .ref (ad 8 r)), (1, .ref (ad 12 q))]) hx hb dX4_release_1 rfl hl (by decide) rfl (fun ls hl => ?_)
  have LB2 : ∀ (n : Nat) (k : Nat), k ≤ cN (σ 11 r) → j0 < k → cN (σ 11 r) + 1 ≤ k + n → ∀ (H : Heap) (locs : List Loc), WI g ad B0 (fC g ad (s1 σ 19 q (-1)) pd (plu pl r j0 none) sc h) s H locs → ∀ (ls : Array Slot), lv_has ls 3 [(2, .int (nI k)), (0, .ref (ad 8 r)), (1, .ref (ad 12 q))] → W p l e ({ frames := 0, cells := 0, slots := 0, locals := 0 } : Room) s m ([.ref (ad 8 r), .ref (ad 12 q)] : List Value).toArray below meth c H locs 0 0 (vx_MQ below (QI g B0 (dV ad (fC g ad (s1 σ 19 q (-1)) pd (plu pl r j0 none) sc h))) (XI g B0 (noX)) ([.ref (ad 8 r), .ref (ad 12 q)] : List Value).toArray s 0 0 (fun q => B0 ≤ q)) (F0 m 2 ls []) := by
    intro n
    induction n with
    | zero =>
      intro k hk hj hfu
      exact absurd hfu (by omega)
    | succ n ih2 =>
      intro k hk hj hfu H locs hI ls hl
      refine lv_iload_n hx hb dX4_release_2 rfl (lv_at hl 0 rfl) ?_
      refine lv_aload_n hx hb dX4_release_3 rfl (lv_at hl 1 rfl) ?_
      refine gf_X4_31 hC hI (fC_8 hr) rfl dX4_release_4 ?_
      refine r_alen hC hI (fC_11 hr) 2 rfl (v := nI (cN ((s1 σ 19 q (-1)) 11 r))) rfl dX4_release_7 ?_
      refine lv_icmp_ge (tgt := 39) hx hb dX4_release_8 (by decide) (fun c8 => ?_) (fun c8 => ?_)
      · have hk2 : cN (σ 11 r) ≤ k := ge_T rfl (by omega) (by omega) c8
        exact e_void hC hI ⟨rfl, rfl, rfl⟩ (Nat.le_of_ble_eq_true rfl) (Nat.le_of_ble_eq_true rfl) dX4_release_39
      · have hk2 : k < cN (σ 11 r) := ge_F rfl (by omega) (by omega) c8
        refine lv_aload_n hx hb dX4_release_11 rfl (lv_at hl 1 rfl) ?_
        refine gf_X4_31 hC hI (fC_8 hr) rfl dX4_release_12 ?_
        refine lv_iload_n hx hb dX4_release_15 rfl (lv_at hl 0 rfl) ?_
        refine r_aald hC hI (fC_11 hr) 2 rfl (j := k) rfl hk2 (show cN (σ 11 r) < 2 ^ 31 by omega) dX4_release_16 ?_
        refine lv_aload_n hx hb dX4_release_17 rfl (lv_at hl 2 rfl) ?_
        have hne : ¬ (plu pl r j0 none r k).map (ad 12) = some (ad 12 q) := fun z => by
          rw [plu_n pl none (show ¬ (r = r ∧ k = j0) by omega)] at z
          obtain ⟨q0, h1, h2⟩ := Option.map_eq_some_iff.mp z
          have h3 := (hP.on r k q0 hr hk2 h1).1
          have h4 := DI_inj hI.2.1 (fC_12 (g := g) (ad := ad) (σ := s1 σ 19 q (-1)) (pd := pd) (pl := plu pl r j0 none) (sc := sc) (h := h) h3) (fC_12 hq) h2
          exact absurd (hP.inj r k j0 q0 hr hk2 hj0 h1 (by rw [h4]; exact hpj)) (by omega)
        refine lv_acmp_ne (rx := ((plu pl r j0 none) r k).map (ad 12)) (ry := some (ad 12 q)) (tgt := 33) hx hb dX4_release_18 (by decide) (fun c18 => ?_) (fun c18 => absurd c18 hne)
        refine lv_iinc (v := nI (k + 1)) (lv' := [(2, .int (nI (k + 1))), (0, .ref (ad 8 r)), (1, .ref (ad 12 q))]) hx hb dX4_release_33 hl (k := 0) rfl (nI_1 _) (by decide) rfl (fun ls hl => ?_)
        refine lv_goto (tgt := 2) hx hb dX4_release_36 (by decide) ?_
        exact ih2 (k + 1) (by omega) (by omega) (by omega) _ _ hI ls (lv_sub hl [0, 1, 2] rfl)
  have L2 : ∀ (n : Nat) (k : Nat), k ≤ j0 → cN (σ 11 r) + 1 ≤ k + n → ∀ (H : Heap) (locs : List Loc), WI g ad B0 (fC g ad σ pd pl sc h) s H locs → ∀ (ls : Array Slot), lv_has ls 3 [(2, .int (nI k)), (0, .ref (ad 8 r)), (1, .ref (ad 12 q))] → W p l e ({ frames := 0, cells := 0, slots := 0, locals := 0 } : Room) s m ([.ref (ad 8 r), .ref (ad 12 q)] : List Value).toArray below meth c H locs 0 0 (vx_MQ below (QI g B0 (dV ad (fC g ad (s1 σ 19 q (-1)) pd (plu pl r j0 none) sc h))) (XI g B0 (noX)) ([.ref (ad 8 r), .ref (ad 12 q)] : List Value).toArray s 0 0 (fun q => B0 ≤ q)) (F0 m 2 ls []) := by
    intro n
    induction n with
    | zero =>
      intro k hk hfu
      exact absurd hfu (by omega)
    | succ n ih2 =>
      intro k hk hfu H locs hI ls hl
      refine lv_iload_n hx hb dX4_release_2 rfl (lv_at hl 0 rfl) ?_
      refine lv_aload_n hx hb dX4_release_3 rfl (lv_at hl 1 rfl) ?_
      refine gf_X4_31 hC hI (fC_8 hr) rfl dX4_release_4 ?_
      refine r_alen hC hI (fC_11 hr) 2 rfl (v := nI (cN (σ 11 r))) rfl dX4_release_7 ?_
      refine lv_icmp_ge (tgt := 39) hx hb dX4_release_8 (by decide) (fun c8 => ?_) (fun c8 => ?_)
      · exact absurd (ge_T (x := nI (cN (σ 11 r))) rfl (by omega) (by omega) c8) (by omega)
      · have hk2 : k < cN (σ 11 r) := ge_F rfl (by omega) (by omega) c8
        refine lv_aload_n hx hb dX4_release_11 rfl (lv_at hl 1 rfl) ?_
        refine gf_X4_31 hC hI (fC_8 hr) rfl dX4_release_12 ?_
        refine lv_iload_n hx hb dX4_release_15 rfl (lv_at hl 0 rfl) ?_
        refine r_aald hC hI (fC_11 hr) 2 rfl (j := k) rfl hk2 (show cN (σ 11 r) < 2 ^ 31 by omega) dX4_release_16 ?_
        refine lv_aload_n hx hb dX4_release_17 rfl (lv_at hl 2 rfl) ?_
        refine lv_acmp_ne (rx := (pl r k).map (ad 12)) (ry := some (ad 12 q)) (tgt := 33) hx hb dX4_release_18 (by decide) (fun c18 => ?_) (fun c18 => ?_)
        · have hkj : ¬ k = j0 := fun z => c18 (by rw [z, hpj]; rfl)
          refine lv_iinc (v := nI (k + 1)) (lv' := [(2, .int (nI (k + 1))), (0, .ref (ad 8 r)), (1, .ref (ad 12 q))]) hx hb dX4_release_33 hl (k := 0) rfl (nI_1 _) (by decide) rfl (fun ls hl => ?_)
          refine lv_goto (tgt := 2) hx hb dX4_release_36 (by decide) ?_
          exact ih2 (k + 1) (by omega) (by omega) _ _ hI ls (lv_sub hl [0, 1, 2] rfl)
        · have hkj : k = j0 := by
            obtain ⟨q0, h1, h2⟩ := Option.map_eq_some_iff.mp c18
            have h3 := (hP.on r k q0 hr hk2 h1).1
            have h4 := DI_inj hI.2.1 (fC_12 (g := g) (ad := ad) (σ := σ) (pd := pd) (pl := pl) (sc := sc) (h := h) h3) (fC_12 hq) h2
            exact hP.inj r k j0 q hr hk2 hj0 (h4 ▸ h1) hpj
          subst hkj
          refine lv_aload_n hx hb dX4_release_21 rfl (lv_at hl 1 rfl) ?_
          refine gf_X4_31 hC hI (fC_8 hr) rfl dX4_release_22 ?_
          refine lv_iload_n hx hb dX4_release_25 rfl (lv_at hl 0 rfl) ?_
          refine lv_null hx hb dX4_release_26 ?_
          refine r_aastN hC hI (fC_11 hr) 2 rfl (j := k) rfl hk2 (by omega) dX4_release_27 (fun H locs hI => ?_)
          have hI : WI g ad B0 (up2 (fC g ad σ pd pl sc h) 11 r (.inl (g.2 2, cN (σ 11 r), .inr (.inr (.inr (.inr (va_up (fun j => (pl r j).map (ad 12)) k none))))))) s H locs := hI.cast (rfl)
          refine lv_aload_n hx hb dX4_release_28 rfl (lv_at hl 2 rfl) ?_
          refine lv_null hx hb dX4_release_29 ?_
          refine pf_X4_84N hC hI ((up2_n _ _ (by omega)).trans (fC_12 hq)) (Nat.le_of_ble_eq_true rfl) dX4_release_30 (fun H locs hI => ?_)
          have hI : WI g ad B0 (up2 (up2 (fC g ad σ pd pl sc h) 11 r (.inl (g.2 2, cN (σ 11 r), .inr (.inr (.inr (.inr (va_up (fun j => (pl r j).map (ad 12)) k none))))))) 12 q (.inr (2, [.ref (ad 7 (prd σ q)), .null, .int (σ 20 q), .int (σ 21 q), .int (sc 6 q), .int (sc 7 q)]))) s H locs := hI.cast (rfl)
          have hI : WI g ad B0 (fC g ad (s1 σ 19 q (-1)) pd (plu pl r k none) sc h) s H locs := hI.cast (fC_pl hr hq (v := none) (o := none) (w := -1) (if_pos rfl))
          refine lv_iinc (v := nI (k + 1)) (lv' := [(2, .int (nI (k + 1))), (0, .ref (ad 8 r)), (1, .ref (ad 12 q))]) hx hb dX4_release_33 hl (k := 0) rfl (nI_1 _) (by decide) rfl (fun ls hl => ?_)
          refine lv_goto (tgt := 2) hx hb dX4_release_36 (by decide) ?_
          exact LB2 (cN (σ 11 r) + 1) (k + 1) (by omega) (by omega) (by omega) _ _ hI ls (lv_sub hl [0, 1, 2] rfl)
  exact L2 (cN (σ 11 r) + 1) 0 (by omega) (by omega) _ _ hI ls (lv_sub hl [0, 1, 2] rfl)
