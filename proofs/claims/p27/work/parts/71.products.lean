/-! THE SETTINGS: what products and rooms lay -/
def St0 (σ : Sg) (pd : Int64) (fp fr : Nat → Int32) (P R : Nat) : Prop := np σ = P ∧ nr σ = R ∧ nt σ = 0 ∧ σ 1 0 = 0 ∧ Lx σ pd 0 ∧ (∀ a, a < P → fp (4 * a + 2) = σ 8 a ∧ fp (4 * a + 3) = σ 9 a) ∧ ∀ r, r < R → fr (4 * r) = σ 11 r
abbrev rSet (g : Gg) (ad : Ad) (pd : Int64) (P R : Nat) : Option Value → Ad → Wd → Prop := fun v a w => v = none ∧ (a 0 0 = ad 0 0 ∧ a 50 0 = ad 50 0 ∧ a 51 0 = ad 51 0 ∧ a 52 0 = ad 52 0 ∧ a 53 0 = ad 53 0) ∧ ∃ (σ' : Sg) (pl' : Pl) (sc' : Sg) (fp' fr' : Nat → Int32), w = fC g a σ' pd pl' sc' (hL g (some fp') (some fr') none none none) ∧ Ok3 σ' pl' ∧ St0 σ' pd fp' fr' P R
theorem cellIx (a k : Nat) (hk : k < 2 ^ 31) : nI a + (nI k - nI k / 4 * 4) = nI (a + k % 4) := by
  rw [show nI k - nI k / 4 * 4 = nI (k % 4) from pk_rem (a := k) (d := 4) hk (by decide) (by decide), nI_p]
theorem ap_ok {σ : Sg} {lo hi9 li : Int32} {j0 j1 j3 j4 k : Nat} (hok : OkP σ) (hn : np σ = k) (hk : k < 8) (elo : lo = nI j0 - 300) (h0 : j0 < 400) (ehi : hi9 = mn 200 (lo + nI j1)) (h1 : j1 < 90) (eli : li = 10 + nI j3) (h3 : j3 < 900) (h4 : j4 < 4) : kdAP σ lo hi9 li (nI j4) = 0 := by
  have i0 : lo.toInt = (j0 : Int) - 300 := by
    rw [elo]
    exact nI_sub (k := 300) (by omega) ⟨by decide, by decide⟩
  have i1 : (lo + nI j1).toInt = (j0 : Int) - 300 + j1 := by
    rw [nI_plus (by omega) ⟨by omega, by omega⟩, i0]
  have z2 : (200 : Int32).toInt = 200 := rfl
  have i2 : hi9.toInt = min 200 ((j0 : Int) - 300 + j1) := by rw [ehi, mn_i, i1, z2]
  have i3 : li.toInt = 10 + (j3 : Int) := by
    rw [eli]
    exact nI_plus (k := 10) (by omega) ⟨by decide, by decide⟩
  have i4 : (nI j4).toInt = (j4 : Int) := nI_toInt (by omega)
  have hne : ¬ σ 5 0 = 12 := fun z => by
    have e : np σ = 12 := congrArg cN z
    omega
  unfold kdAP
  rw [if_pos ⟨le_of_i (x := -300) (a := -300) rfl i0 (by omega), le_of_i i0 i2 (by omega), le_of_i (y := 200) (b := 200) i2 rfl (by omega), ⟨le_of_i (x := 10) (a := 10) rfl i3 (by omega), le_of_i (y := 5000) (b := 5000) i3 rfl (by omega)⟩, ⟨le_of_i (x := 0) (a := 0) rfl i4 (by omega), le_of_i (y := 3) (b := 3) i4 rfl (by omega)⟩⟩, if_neg hne]
theorem St0_AP {σ : Sg} {pd : Int64} {fp fr : Nat → Int32} {k : Nat} {lo hi9 li sm : Int32} (hok : OkP σ) (h : St0 σ pd fp fr k 0) (hk : k < 8) : St0 (stAP σ lo hi9 li sm) pd (upd (upd (upd (upd fp (4 * k + 0) lo) (4 * k + 1) hi9) (4 * k + 2) li) (4 * k + 3) sm) fr (k + 1) 0 := by
  obtain ⟨h1, h2, h3, h4, h5, h6, h7⟩ := h
  have e8 : ∀ a, stAP σ lo hi9 li sm 8 a = if a = np σ then li else σ 8 a := fun a => rfl
  have e9 : ∀ a, stAP σ lo hi9 li sm 9 a = if a = np σ then sm else σ 9 a := fun a => rfl
  refine ⟨?_, h2, h3, h4, Lx_AP h5 h3, fun a ha => ?_, fun r hr => absurd hr (Nat.not_lt_zero _)⟩
  · show cN (σ 5 0 + 1) = k + 1
    rw [hok.2.2.2.2.1, h1, nI_1]
    exact cN_nI (by omega)
  · rw [e8, e9, h1]
    by_cases c : a = k
    · subst c
      rw [if_pos rfl, if_pos rfl, upd_n _ _ (show 4 * a + 2 ≠ 4 * a + 3 by omega), upd_s, upd_s]
      exact ⟨rfl, rfl⟩
    · rw [if_neg c, if_neg c]
      have n_ : ∀ j : Nat, (j = 4 * a + 2 ∨ j = 4 * a + 3) → upd (upd (upd (upd fp (4 * k + 0) lo) (4 * k + 1) hi9) (4 * k + 2) li) (4 * k + 3) sm j = fp j := fun j hj => by
        rw [upd_n _ _ (by omega), upd_n _ _ (by omega), upd_n _ _ (by omega), upd_n _ _ (by omega)]
      rw [n_ _ (Or.inl rfl), n_ _ (Or.inr rfl)]
      exact h6 a (by omega)
set_option maxHeartbeats 4000000 in
set_option maxRecDepth 100000 in
theorem products_loop {p : Program} {l : Launch} {e : Env} {s : State} {m : MethodId} {args : Array Value} {below : List Frame} {meth : Method} {c : Code} {Q : State → Prop} {g : Gg} {B0 x0 c0 c1 c2 c3 b L : Nat} {xs : Nat → Int32} {ret : Option FieldType} (hl9 : l.stackTraces = false) (hC : Cx p s m args meth c RL cL_products 10 ret g B0) (hX : va_X b L xs s s.heap) (hbB : b < B0) (hL : L ≤ 260) {P : Nat} (hP8 : P ≤ 8) {fr : Nat → Int32} {pd : Int64}
    (K : ∀ (σ : Sg) (fp : Nat → Int32) (c4 : Nat) (H : Heap) (locs : List Loc) (ls : Array Slot), WL g B0 x0 c0 c1 c2 c3 c4 s H locs σ pd (some fp) (some fr) none none none → St0 σ pd fp fr P 0 → W p l e ({ frames := 8, cells := 56, slots := 312, locals := 136 } : Room) s m args below meth c H locs (7 * P) (39 * P) Q (F0 m 175 ls [])) :
    ∀ (n k : Nat) (σ : Sg) (fp : Nat → Int32) (c4 : Nat), k ≤ P → P + 1 ≤ k + n → St0 σ pd fp fr k 0 → ∀ (H : Heap) (locs : List Loc), WL g B0 x0 c0 c1 c2 c3 c4 s H locs σ pd (some fp) (some fr) none none none → ∀ (ls : Array Slot), lv_has ls 10 [(5, .int (nI k)), (0, .ref x0), (1, .ref b), (2, .int 2), (3, .int (nI P)), (4, .ref c0)] → W p l e ({ frames := 8, cells := 56, slots := 312, locals := 136 } : Room) s m args below meth c H locs (7 * k) (39 * k) Q (F0 m 3 ls []) := by
  have hx := hC.1.1
  have hb := hC.1.2.1
  have hts := hC.1.2.2.2.2
  intro n
  induction n with
  | zero =>
    intro k σ fp c4 hk hfu
    exact absurd hfu (by omega)
  | succ n ih =>
    intro k σ fp c4 hk hfu hS H locs hW ls hl
    refine lv_iload hx hb dL_products_3 (lv_at hl 0 rfl) ?_
    refine lv_iload_n hx hb dL_products_5 rfl (lv_at hl 4 rfl) ?_
    refine lv_icmp_ge (tgt := 175) hx hb dL_products_6 (by decide) (fun c6 => ?_) (fun c6 => ?_)
    · have hkP : P ≤ k := ge_T rfl (by omega) (by omega) c6
      have ekP : k = P := by omega
      subst ekP
      exact K σ fp c4 H locs ls hW hS
    · have hkP : k < P := ge_F rfl (by omega) (by omega) c6
      obtain ⟨pl0, hok3⟩ := hW.ok
      have hok := hok3.1.1
      refine lv_aload_n hx hb dL_products_9 rfl (lv_at hl 2 rfl) ?_
      refine lv_iload_n hx hb dL_products_10 rfl (lv_at hl 3 rfl) ?_
      refine lv_iload hx hb dL_products_11 (lv_at hl 0 rfl) ?_
      refine lv_iconst (v := 4) hx hb dL_products_13 (by decide) ?_
      refine lv_irem hx hb dL_products_14 (by decide) ?_
      refine lv_iadd hx hb dL_products_15 ?_
      refine wl_cell hl9 hC hX hbB hL hW hl.1 (k := (2 + k % 4)) (cellIx 2 k (by omega)) (by omega) (cw_L_9 hts rfl rfl ⟨(Nat.le_of_ble_eq_true rfl), (Nat.le_of_ble_eq_true rfl)⟩) (Nat.le_of_ble_eq_true rfl) dL_products_16 ⟨show _ ≤ 56 by omega, show _ ≤ 312 by omega⟩ (fun z H locs hW => ?_)
      refine lv_iload hx hb dL_products_19 (lv_at hl 0 rfl) ?_
      refine lv_sipush (v := 911) hx hb dL_products_21 (by decide) ?_
      refine lv_imul hx hb dL_products_24 ?_
      refine lv_ixor hx hb dL_products_25 ?_
      refine lv_topi (fun x1 ex1 => ?_)
      refine lv_istore (lv' := [(6, .int x1), (5, .int (nI k)), (0, .ref x0), (1, .ref b), (2, .int 2), (3, .int (nI P)), (4, .ref c0)]) hx hb dL_products_26 hl (by decide) rfl (fun ls hl => ?_)
      refine lv_iload hx hb dL_products_28 (lv_at hl 0 rfl) ?_
      refine lv_sipush (v := 400) hx hb dL_products_30 (by decide) ?_
      refine wl_below hl9 hC hW hl.1 (d := 400) rfl (by decide) (by decide) (cw_L_15 hts rfl rfl ⟨(Nat.le_of_ble_eq_true rfl), (Nat.le_of_ble_eq_true rfl)⟩) (Nat.le_of_ble_eq_true rfl) dL_products_33 ⟨show _ ≤ 56 by omega, show _ ≤ 312 by omega⟩ (fun j0 hj0 H locs hW => ?_)
      refine lv_sipush (v := 300) hx hb dL_products_36 (by decide) ?_
      refine lv_isub hx hb dL_products_39 ?_
      refine lv_topi (fun lo elo => ?_)
      refine lv_istore (lv' := [(7, .int lo), (6, .int x1), (5, .int (nI k)), (0, .ref x0), (1, .ref b), (2, .int 2), (3, .int (nI P)), (4, .ref c0)]) hx hb dL_products_40 hl (by decide) rfl (fun ls hl => ?_)
      refine lv_iconst (v := 4) hx hb dL_products_42 (by decide) ?_
      refine wl_new4 hC hW rfl (show _ ≤ 56 by omega) (show _ ≤ 312 by omega) dL_products_43 (fun q4 H hW => ?_)
      refine lv_dup hx hb dL_products_45 rfl ?_
      refine lv_iconst (v := 0) hx hb dL_products_46 (by decide) ?_
      refine lv_iload hx hb dL_products_47 (lv_at hl 0 rfl) ?_
      refine wl_put4 hC hW (j := 0) rfl (by decide) dL_products_49 (fun H locs hW => ?_)
      refine lv_dup hx hb dL_products_50 rfl ?_
      refine lv_iconst (v := 1) hx hb dL_products_51 (by decide) ?_
      refine lv_sipush (v := 200) hx hb dL_products_52 (by decide) ?_
      refine lv_iload hx hb dL_products_55 (lv_at hl 0 rfl) ?_
      refine lv_iload hx hb dL_products_57 (lv_at hl 1 rfl) ?_
      refine lv_bipush (v := 8) hx hb dL_products_59 (by decide) ?_
      refine lv_ishr hx hb dL_products_61 ?_
      refine lv_bipush (v := 90) hx hb dL_products_62 (by decide) ?_
      refine wl_below hl9 hC hW hl.1 (d := 90) rfl (by decide) (by decide) (cw_L_15 hts rfl rfl ⟨(Nat.le_of_ble_eq_true rfl), (Nat.le_of_ble_eq_true rfl)⟩) (Nat.le_of_ble_eq_true rfl) dL_products_64 ⟨show _ ≤ 56 by omega, show _ ≤ 312 by omega⟩ (fun j1 hj1 H locs hW => ?_)
      refine lv_iadd hx hb dL_products_67 ?_
      refine va_mmin hx hb (hC.1.2.2.1.trans hl.1.symm) hC.1.2.2.2.1 (hts _ wd_ml_L_19) (hts _ wd_st_yJ9_min_7cf53) (hts _ wd_in_RJ9) (hts _ wd_co_yJ9_min_7cf53) (Nat.le_of_ble_eq_true rfl) (Nat.le_of_ble_eq_true rfl) (show _ ≤ 56 by omega) (show _ ≤ 312 by omega) dL_products_68 ?_
      refine lv_topi (fun hi9 ehi => ?_)
      refine wl_put4 hC hW (j := 1) rfl (by decide) dL_products_71 (fun H locs hW => ?_)
      refine lv_dup hx hb dL_products_72 rfl ?_
      refine lv_iconst (v := 2) hx hb dL_products_73 (by decide) ?_
      refine lv_bipush (v := 10) hx hb dL_products_74 (by decide) ?_
      refine lv_iload hx hb dL_products_76 (lv_at hl 1 rfl) ?_
      refine lv_iconst (v := 5) hx hb dL_products_78 (by decide) ?_
      refine lv_ishr hx hb dL_products_79 ?_
      refine lv_iload hx hb dL_products_80 (lv_at hl 1 rfl) ?_
      refine lv_iconst (v := 3) hx hb dL_products_82 (by decide) ?_
      refine lv_ishr hx hb dL_products_83 ?_
      refine lv_iconst (v := 2) hx hb dL_products_84 (by decide) ?_
      refine wl_below hl9 hC hW hl.1 (d := 2) rfl (by decide) (by decide) (cw_L_15 hts rfl rfl ⟨(Nat.le_of_ble_eq_true rfl), (Nat.le_of_ble_eq_true rfl)⟩) (Nat.le_of_ble_eq_true rfl) dL_products_85 ⟨show _ ≤ 56 by omega, show _ ≤ 312 by omega⟩ (fun j2 hj2 H locs hW => ?_)
      have J99 : ∀ d : Nat, 0 < d → d ≤ 900 → W p l e ({ frames := 8, cells := 56, slots := 312, locals := 136 } : Room) s m args below meth c H locs (7 * k + 1) (39 * k + 4) Q (F0 m 99 ls [.int (nI d), .int (x1 >>> (5 &&& 31)), .int 10, .int 2, .ref q4, .ref q4]) := by
        intro d hd0 hd9
        refine wl_below hl9 hC hW hl.1 (d := d) rfl (by omega) (by omega) (cw_L_15 hts rfl rfl ⟨(Nat.le_of_ble_eq_true rfl), (Nat.le_of_ble_eq_true rfl)⟩) (Nat.le_of_ble_eq_true rfl) dL_products_99 ⟨show _ ≤ 56 by omega, show _ ≤ 312 by omega⟩ (fun j3 hj3 H locs hW => ?_)
        refine lv_iadd hx hb dL_products_102 ?_
        refine lv_topi (fun li eli => ?_)
        refine wl_put4 hC hW (j := 2) rfl (by decide) dL_products_103 (fun H locs hW => ?_)
        refine lv_dup hx hb dL_products_104 rfl ?_
        refine lv_iconst (v := 3) hx hb dL_products_105 (by decide) ?_
        refine lv_iload hx hb dL_products_106 (lv_at hl 1 rfl) ?_
        refine lv_bipush (v := 13) hx hb dL_products_108 (by decide) ?_
        refine lv_ishr hx hb dL_products_110 ?_
        refine lv_iconst (v := 4) hx hb dL_products_111 (by decide) ?_
        refine wl_below hl9 hC hW hl.1 (d := 4) rfl (by decide) (by decide) (cw_L_15 hts rfl rfl ⟨(Nat.le_of_ble_eq_true rfl), (Nat.le_of_ble_eq_true rfl)⟩) (Nat.le_of_ble_eq_true rfl) dL_products_112 ⟨show _ ≤ 56 by omega, show _ ≤ 312 by omega⟩ (fun j4 hj4 H locs hW => ?_)
        refine wl_put4 hC hW (j := 3) rfl (by decide) dL_products_115 (fun H locs hW => ?_)
        refine lv_astore (lv' := [(8, .ref q4), (7, .int lo), (6, .int x1), (5, .int (nI k)), (0, .ref x0), (1, .ref b), (2, .int 2), (3, .int (nI P)), (4, .ref c0)]) hx hb dL_products_116 hl (by decide) rfl (fun ls hl => ?_)
        refine lv_iconst (v := 0) hx hb dL_products_118 (by decide) ?_
        refine lv_istore (lv' := [(9, .int 0), (8, .ref q4), (7, .int lo), (6, .int x1), (5, .int (nI k)), (0, .ref x0), (1, .ref b), (2, .int 2), (3, .int (nI P)), (4, .ref c0)]) hx hb dL_products_119 hl (by decide) rfl (fun ls hl => ?_)
        refine lv_iload hx hb dL_products_121 (lv_at hl 0 rfl) ?_
        refine lv_iconst (v := 4) hx hb dL_products_123 (by decide) ?_
        refine lv_icmp_ge (tgt := 148) hx hb dL_products_124 (by decide) (fun c124 => (absurd c124 (by decide))) (fun c124 => ?_)
        refine lv_aload hx hb dL_products_127 (lv_at hl 9 rfl) ?_
        refine lv_iconst (v := 4) hx hb dL_products_129 (by decide) ?_
        refine lv_iload hx hb dL_products_130 (lv_at hl 4 rfl) ?_
        refine lv_imul hx hb dL_products_132 ?_
        refine lv_iload hx hb dL_products_133 (lv_at hl 0 rfl) ?_
        refine lv_iadd hx hb dL_products_135 ?_
        refine lv_aload hx hb dL_products_136 (lv_at hl 1 rfl) ?_
        refine lv_iload hx hb dL_products_138 (lv_at hl 0 rfl) ?_
        refine wl_get4 hC hW (j := 0) (v := lo) rfl (by decide) rfl dL_products_140 ?_
        refine wl_put0 hC hW (j := (4 * k + 0)) (ix4 k 0) (by omega) dL_products_141 (fun H locs hW => ?_)
        refine lv_iinc (v := 1) (lv' := [(9, .int 1), (8, .ref q4), (7, .int lo), (6, .int x1), (5, .int (nI k)), (0, .ref x0), (1, .ref b), (2, .int 2), (3, .int (nI P)), (4, .ref c0)]) hx hb dL_products_142 hl (k := 0) rfl (by decide) (by decide) rfl (fun ls hl => ?_)
        refine lv_goto (tgt := 121) hx hb dL_products_145 (by decide) ?_
        refine lv_iload hx hb dL_products_121 (lv_at hl 0 rfl) ?_
        refine lv_iconst (v := 4) hx hb dL_products_123 (by decide) ?_
        refine lv_icmp_ge (tgt := 148) hx hb dL_products_124 (by decide) (fun c124 => (absurd c124 (by decide))) (fun c124 => ?_)
        refine lv_aload hx hb dL_products_127 (lv_at hl 9 rfl) ?_
        refine lv_iconst (v := 4) hx hb dL_products_129 (by decide) ?_
        refine lv_iload hx hb dL_products_130 (lv_at hl 4 rfl) ?_
        refine lv_imul hx hb dL_products_132 ?_
        refine lv_iload hx hb dL_products_133 (lv_at hl 0 rfl) ?_
        refine lv_iadd hx hb dL_products_135 ?_
        refine lv_aload hx hb dL_products_136 (lv_at hl 1 rfl) ?_
        refine lv_iload hx hb dL_products_138 (lv_at hl 0 rfl) ?_
        refine wl_get4 hC hW (j := 1) (v := hi9) rfl (by decide) rfl dL_products_140 ?_
        refine wl_put0 hC hW (j := (4 * k + 1)) (ix4 k 1) (by omega) dL_products_141 (fun H locs hW => ?_)
        refine lv_iinc (v := 2) (lv' := [(9, .int 2), (8, .ref q4), (7, .int lo), (6, .int x1), (5, .int (nI k)), (0, .ref x0), (1, .ref b), (2, .int 2), (3, .int (nI P)), (4, .ref c0)]) hx hb dL_products_142 hl (k := 0) rfl (by decide) (by decide) rfl (fun ls hl => ?_)
        refine lv_goto (tgt := 121) hx hb dL_products_145 (by decide) ?_
        refine lv_iload hx hb dL_products_121 (lv_at hl 0 rfl) ?_
        refine lv_iconst (v := 4) hx hb dL_products_123 (by decide) ?_
        refine lv_icmp_ge (tgt := 148) hx hb dL_products_124 (by decide) (fun c124 => (absurd c124 (by decide))) (fun c124 => ?_)
        refine lv_aload hx hb dL_products_127 (lv_at hl 9 rfl) ?_
        refine lv_iconst (v := 4) hx hb dL_products_129 (by decide) ?_
        refine lv_iload hx hb dL_products_130 (lv_at hl 4 rfl) ?_
        refine lv_imul hx hb dL_products_132 ?_
        refine lv_iload hx hb dL_products_133 (lv_at hl 0 rfl) ?_
        refine lv_iadd hx hb dL_products_135 ?_
        refine lv_aload hx hb dL_products_136 (lv_at hl 1 rfl) ?_
        refine lv_iload hx hb dL_products_138 (lv_at hl 0 rfl) ?_
        refine wl_get4 hC hW (j := 2) (v := li) rfl (by decide) rfl dL_products_140 ?_
        refine wl_put0 hC hW (j := (4 * k + 2)) (ix4 k 2) (by omega) dL_products_141 (fun H locs hW => ?_)
        refine lv_iinc (v := 3) (lv' := [(9, .int 3), (8, .ref q4), (7, .int lo), (6, .int x1), (5, .int (nI k)), (0, .ref x0), (1, .ref b), (2, .int 2), (3, .int (nI P)), (4, .ref c0)]) hx hb dL_products_142 hl (k := 0) rfl (by decide) (by decide) rfl (fun ls hl => ?_)
        refine lv_goto (tgt := 121) hx hb dL_products_145 (by decide) ?_
        refine lv_iload hx hb dL_products_121 (lv_at hl 0 rfl) ?_
        refine lv_iconst (v := 4) hx hb dL_products_123 (by decide) ?_
        refine lv_icmp_ge (tgt := 148) hx hb dL_products_124 (by decide) (fun c124 => (absurd c124 (by decide))) (fun c124 => ?_)
        refine lv_aload hx hb dL_products_127 (lv_at hl 9 rfl) ?_
        refine lv_iconst (v := 4) hx hb dL_products_129 (by decide) ?_
        refine lv_iload hx hb dL_products_130 (lv_at hl 4 rfl) ?_
        refine lv_imul hx hb dL_products_132 ?_
        refine lv_iload hx hb dL_products_133 (lv_at hl 0 rfl) ?_
        refine lv_iadd hx hb dL_products_135 ?_
        refine lv_aload hx hb dL_products_136 (lv_at hl 1 rfl) ?_
        refine lv_iload hx hb dL_products_138 (lv_at hl 0 rfl) ?_
        refine wl_get4 hC hW (j := 3) (v := nI j4) rfl (by decide) rfl dL_products_140 ?_
        refine wl_put0 hC hW (j := (4 * k + 3)) (ix4 k 3) (by omega) dL_products_141 (fun H locs hW => ?_)
        refine lv_iinc (v := 4) (lv' := [(9, .int 4), (8, .ref q4), (7, .int lo), (6, .int x1), (5, .int (nI k)), (0, .ref x0), (1, .ref b), (2, .int 2), (3, .int (nI P)), (4, .ref c0)]) hx hb dL_products_142 hl (k := 0) rfl (by decide) (by decide) rfl (fun ls hl => ?_)
        refine lv_goto (tgt := 121) hx hb dL_products_145 (by decide) ?_
        refine lv_iload hx hb dL_products_121 (lv_at hl 0 rfl) ?_
        refine lv_iconst (v := 4) hx hb dL_products_123 (by decide) ?_
        refine lv_icmp_ge (tgt := 148) hx hb dL_products_124 (by decide) (fun c124 => ?_) (fun c124 => (absurd c124 (by decide)))
        refine lv_aload_n hx hb dL_products_148 rfl (lv_at hl 5 rfl) ?_
        refine lv_aload hx hb dL_products_149 (lv_at hl 1 rfl) ?_
        refine lv_iconst (v := 0) hx hb dL_products_151 (by decide) ?_
        refine wl_get4 hC hW (j := 0) (v := lo) rfl (by decide) rfl dL_products_152 ?_
        refine lv_aload hx hb dL_products_153 (lv_at hl 1 rfl) ?_
        refine lv_iconst (v := 1) hx hb dL_products_155 (by decide) ?_
        refine wl_get4 hC hW (j := 1) (v := hi9) rfl (by decide) rfl dL_products_156 ?_
        refine lv_aload hx hb dL_products_157 (lv_at hl 1 rfl) ?_
        refine lv_iconst (v := 2) hx hb dL_products_159 (by decide) ?_
        refine wl_get4 hC hW (j := 2) (v := li) rfl (by decide) rfl dL_products_160 ?_
        refine lv_aload hx hb dL_products_161 (lv_at hl 1 rfl) ?_
        refine lv_iconst (v := 3) hx hb dL_products_163 (by decide) ?_
        refine wl_get4 hC hW (j := 3) (v := nI j4) rfl (by decide) rfl dL_products_164 ?_
        have hk0 : kdAP σ lo hi9 li (nI j4) = 0 := ap_ok hok hS.1 (by omega) elo hj0 ehi hj1 eli (by omega) hj4
        refine wl_call (rest := []) hl9 hC hW hl.1 (fun ad pl sc h3 => tX6_addProduct l g B0 ad _ _ pl sc _ lo hi9 li (nI j4) h3.1) (cw_L_24 hts rfl rfl ⟨(Nat.le_of_ble_eq_true rfl), (Nat.le_of_ble_eq_true rfl)⟩) (nx2 hk0) (fun _ _ h3 hP => k3_AP h3 hk0 hP) rfl rfl (Nat.le_of_ble_eq_true rfl) dL_products_165 ⟨show _ ≤ 56 by omega, show _ ≤ 312 by omega⟩ (fun H locs hW => ?_)
        refine lv_pop hx hb dL_products_168 rfl ?_
        refine lv_iinc (v := nI (k + 1)) (lv' := [(5, .int (nI (k + 1))), (9, .int 4), (8, .ref q4), (7, .int lo), (6, .int x1), (0, .ref x0), (1, .ref b), (2, .int 2), (3, .int (nI P)), (4, .ref c0)]) hx hb dL_products_169 hl (k := 4) rfl (nI_1 _) (by decide) rfl (fun ls hl => ?_)
        refine lv_goto (tgt := 3) hx hb dL_products_172 (by decide) ?_
        refine W.widen (k := 7 * (k + 1)) (n := 39 * (k + 1)) (by omega) (by omega) ?_
        exact ih (k + 1) _ _ _ (by omega) (by omega) (St0_AP hok hS (by omega)) _ _ hW.drop4 ls (lv_sub hl [0, 5, 6, 7, 8, 9] rfl)
      refine lv_if_ne (tgt := 96) hx hb dL_products_88 (by decide) (fun c88 => ?_) (fun c88 => ?_)
      · refine lv_sipush (v := 900) hx hb dL_products_96 (by decide) ?_
        exact J99 900 (by decide) (by decide)
      · refine lv_bipush (v := 60) hx hb dL_products_91 (by decide) ?_
        refine lv_goto (tgt := 99) hx hb dL_products_93 (by decide) ?_
        exact J99 60 (by decide) (by decide)
set_option maxHeartbeats 4000000 in
set_option maxRecDepth 100000 in
theorem tL_products (l : Launch) (g : Gg) (B0 b L : Nat) (xs : Nat → Int32) (hbB : b < B0) (hL9 : L ≤ 260) (ad : Ad) (σ : Sg) (pd : Int64) (pl : Pl) (sc : Sg) (fp fr : Nat → Int32) (P : Nat) (hP8 : P ≤ 8) (h3 : Ok3 σ pl) (hS : St0 σ pd fp fr 0 0) : MMX l g B0 b L xs yL_products (wsM yL_products cL_products 10 none) ({ frames := 8, cells := 56, slots := 312, locals := 136 } : Room) [.ref (ad 0 0), .ref b, .int 2, .int (nI P), .ref (ad 50 0)] ad (fC g ad σ pd pl sc (hL g (some fp) (some fr) none none none)) (rSet g ad pd P 0) 56 312 := by
  refine MMX.start (by decide) (Nat.le_of_ble_eq_true rfl) ?_
  intro hl9 p e s m below meth c ls hC hX hI hl0
  have hx := hC.1.1
  have hb := hC.1.2.1
  have hl : lv_has ls 10 [(0, .ref (ad 0 0)), (1, .ref b), (2, .int 2), (3, .int (nI P)), (4, .ref (ad 50 0))] := hl0
  refine lv_iconst (v := 0) hx hb dL_products_0 (by decide) ?_
  refine lv_istore (lv' := [(5, .int 0), (0, .ref (ad 0 0)), (1, .ref b), (2, .int 2), (3, .int (nI P)), (4, .ref (ad 50 0))]) hx hb dL_products_1 hl (by decide) rfl (fun ls hl => ?_)
  refine products_loop (c1 := ad 51 0) (c2 := ad 52 0) (c3 := ad 53 0) (fr := fr) (pd := pd) hl9 hC hX hbB hL9 hP8 (fun σ1 fp1 q H1 locs1 ls1 hW1 hS1 => ?_) (P + 1) 0 σ fp (ad 54 0) (by omega) (by omega) hS s.heap [] ⟨ad, pl, sc, hI, h3, rfl, rfl, rfl, rfl, rfl, rfl⟩ ls hl
  obtain ⟨a, pl1, sc1, hI1, h31, e0, e1, e2, e3, e4, -⟩ := hW1
  exact e_void hC hI1 ⟨rfl, ⟨e0, e1, e2, e3, e4⟩, σ1, pl1, sc1, fp1, fr, rfl, h31, hS1⟩ (show _ ≤ 56 by omega) (show _ ≤ 312 by omega) dL_products_175
