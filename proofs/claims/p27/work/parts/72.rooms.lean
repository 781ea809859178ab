/-! THE SETTINGS: rooms -/
theorem ar_ok {σ : Sg} {a wa aim : Int32} {j0 j1 j2 j3 k : Nat} (hok : OkP σ) (hn : nr σ = k) (hk : k < 5) (ea : a = 1 + nI j0) (h0 : j0 < 8) (ew : wa = 1 + nI j1) (h1 : j1 < 20) (h2 : j2 < 201) (eai : aim = nI j3 - 250) (h3 : j3 < 300) : kdAR σ a wa (nI j2) aim = 0 := by
  have i0 : a.toInt = 1 + (j0 : Int) := by
    rw [ea]
    exact nI_plus (k := 1) (by omega) ⟨by decide, by decide⟩
  have i1 : wa.toInt = 1 + (j1 : Int) := by
    rw [ew]
    exact nI_plus (k := 1) (by omega) ⟨by decide, by decide⟩
  have i2 : (nI j2).toInt = (j2 : Int) := nI_toInt (by omega)
  have i3 : aim.toInt = (j3 : Int) - 250 := by
    rw [eai]
    exact nI_sub (k := 250) (by omega) ⟨by decide, by decide⟩
  have hne : ¬ σ 10 0 = 6 := fun z => by
    have e : nr σ = 6 := congrArg cN z
    omega
  unfold kdAR
  rw [if_pos ⟨⟨le_of_i (x := 1) (a := 1) rfl i0 (by omega), le_of_i (y := 20) (b := 20) i0 rfl (by omega)⟩, ⟨le_of_i (x := 1) (a := 1) rfl i1 (by omega), le_of_i (y := 20) (b := 20) i1 rfl (by omega)⟩, ⟨le_of_i (x := 0) (a := 0) rfl i2 (by omega), le_of_i (y := 200) (b := 200) i2 rfl (by omega)⟩, ⟨le_of_i (x := -300) (a := -300) rfl i3 (by omega), le_of_i (y := 150) (b := 150) i3 rfl (by omega)⟩⟩, if_neg hne]
theorem St0_AR {σ : Sg} {pd : Int64} {fp fr : Nat → Int32} {P k : Nat} {a wa po aim : Int32} (hok : OkP σ) (hF : Fr σ) (h : St0 σ pd fp fr P k) (hk : k < 5) : St0 (stAR σ a wa po aim) pd fp (upd (upd (upd (upd fr (4 * k + 0) a) (4 * k + 1) wa) (4 * k + 2) po) (4 * k + 3) aim) P (k + 1) := by
  obtain ⟨h1, h2, h3, h4, h5, h6, h7⟩ := h
  have e11 : ∀ r, stAR σ a wa po aim 11 r = if r = nr σ then a else σ 11 r := fun r => rfl
  refine ⟨h1, ?_, h3, h4, Lx_AR h5 hok hF (by omega), h6, fun r hr => ?_⟩
  · rw [nr_AR hok.2.2.1 (by omega), h2]
  · rw [e11, h2]
    by_cases c : r = k
    · subst c
      rw [if_pos rfl, upd_n _ _ (show 4 * r ≠ 4 * r + 3 by omega), upd_n _ _ (show 4 * r ≠ 4 * r + 2 by omega), upd_n _ _ (show 4 * r ≠ 4 * r + 1 by omega)]
      exact upd_s _ _ _
    · rw [if_neg c, upd_n _ _ (by omega), upd_n _ _ (by omega), upd_n _ _ (by omega), upd_n _ _ (by omega)]
      exact h7 r (by omega)
set_option maxHeartbeats 4000000 in
set_option maxRecDepth 100000 in
theorem rooms_loop {p : Program} {l : Launch} {e : Env} {s : State} {m : MethodId} {args : Array Value} {below : List Frame} {meth : Method} {c : Code} {Q : State → Prop} {g : Gg} {B0 x0 c0 c1 c2 c3 b L : Nat} {xs : Nat → Int32} {ret : Option FieldType} (hl9 : l.stackTraces = false) (hC : Cx p s m args meth c RL cL_rooms 9 ret g B0) (hX : va_X b L xs s s.heap) (hbB : b < B0) (hL : L ≤ 260) {P R9 : Nat} (hR5 : R9 ≤ 5) {fp : Nat → Int32} {pd : Int64}
    (K : ∀ (σ : Sg) (fr : Nat → Int32) (c4 : Nat) (H : Heap) (locs : List Loc) (ls : Array Slot), WL g B0 x0 c0 c1 c2 c3 c4 s H locs σ pd (some fp) (some fr) none none none → St0 σ pd fp fr P R9 → W p l e ({ frames := 8, cells := 50, slots := 375, locals := 136 } : Room) s m args below meth c H locs (10 * R9) (75 * R9) Q (F0 m 150 ls [])) :
    ∀ (n k : Nat) (σ : Sg) (fr : Nat → Int32) (c4 : Nat), k ≤ R9 → R9 + 1 ≤ k + n → St0 σ pd fp fr P k → ∀ (H : Heap) (locs : List Loc), WL g B0 x0 c0 c1 c2 c3 c4 s H locs σ pd (some fp) (some fr) none none none → ∀ (ls : Array Slot), lv_has ls 9 [(5, .int (nI k)), (0, .ref x0), (1, .ref b), (2, .int 6), (3, .int (nI R9)), (4, .ref c1)] → W p l e ({ frames := 8, cells := 50, slots := 375, locals := 136 } : Room) s m args below meth c H locs (10 * k) (75 * k) Q (F0 m 3 ls []) := by
  have hx := hC.1.1
  have hb := hC.1.2.1
  have hts := hC.1.2.2.2.2
  intro n
  induction n with
  | zero =>
    intro k σ fr c4 hk hfu
    exact absurd hfu (by omega)
  | succ n ih =>
    intro k σ fr c4 hk hfu hS H locs hW ls hl
    refine lv_iload hx hb dL_rooms_3 (lv_at hl 0 rfl) ?_
    refine lv_iload_n hx hb dL_rooms_5 rfl (lv_at hl 4 rfl) ?_
    refine lv_icmp_ge (tgt := 150) hx hb dL_rooms_6 (by decide) (fun c6 => ?_) (fun c6 => ?_)
    · have hkP : R9 ≤ k := ge_T rfl (by omega) (by omega) c6
      have ekP : k = R9 := by omega
      subst ekP
      exact K σ fr c4 H locs ls hW hS
    · have hkP : k < R9 := ge_F rfl (by omega) (by omega) c6
      obtain ⟨pl0, hok3⟩ := hW.ok
      have hok := hok3.1.1
      refine lv_aload_n hx hb dL_rooms_9 rfl (lv_at hl 2 rfl) ?_
      refine lv_iload_n hx hb dL_rooms_10 rfl (lv_at hl 3 rfl) ?_
      refine lv_iload hx hb dL_rooms_11 (lv_at hl 0 rfl) ?_
      refine lv_iconst (v := 4) hx hb dL_rooms_13 (by decide) ?_
      refine lv_irem hx hb dL_rooms_14 (by decide) ?_
      refine lv_iadd hx hb dL_rooms_15 ?_
      refine wl_cell hl9 hC hX hbB hL hW hl.1 (k := (6 + k % 4)) (cellIx 6 k (by omega)) (by omega) (cw_L_9 hts rfl rfl ⟨(Nat.le_of_ble_eq_true rfl), (Nat.le_of_ble_eq_true rfl)⟩) (Nat.le_of_ble_eq_true rfl) dL_rooms_16 ⟨show _ ≤ 50 by omega, show _ ≤ 375 by omega⟩ (fun z H locs hW => ?_)
      refine lv_iconst (v := 1) hx hb dL_rooms_19 (by decide) ?_
      refine lv_ishr hx hb dL_rooms_20 ?_
      refine lv_iload hx hb dL_rooms_21 (lv_at hl 0 rfl) ?_
      refine lv_sipush (v := 3571) hx hb dL_rooms_23 (by decide) ?_
      refine lv_imul hx hb dL_rooms_26 ?_
      refine lv_ixor hx hb dL_rooms_27 ?_
      refine lv_topi (fun x1 ex1 => ?_)
      refine lv_istore (lv' := [(6, .int x1), (5, .int (nI k)), (0, .ref x0), (1, .ref b), (2, .int 6), (3, .int (nI R9)), (4, .ref c1)]) hx hb dL_rooms_28 hl (by decide) rfl (fun ls hl => ?_)
      refine lv_iconst (v := 4) hx hb dL_rooms_30 (by decide) ?_
      refine wl_new4 hC hW rfl (show _ ≤ 50 by omega) (show _ ≤ 375 by omega) dL_rooms_31 (fun q4 H hW => ?_)
      refine lv_dup hx hb dL_rooms_33 rfl ?_
      refine lv_iconst (v := 0) hx hb dL_rooms_34 (by decide) ?_
      refine lv_iconst (v := 1) hx hb dL_rooms_35 (by decide) ?_
      refine lv_iload hx hb dL_rooms_36 (lv_at hl 0 rfl) ?_
      refine lv_bipush (v := 8) hx hb dL_rooms_38 (by decide) ?_
      refine wl_below hl9 hC hW hl.1 (d := 8) rfl (by decide) (by decide) (cw_L_15 hts rfl rfl ⟨(Nat.le_of_ble_eq_true rfl), (Nat.le_of_ble_eq_true rfl)⟩) (Nat.le_of_ble_eq_true rfl) dL_rooms_40 ⟨show _ ≤ 50 by omega, show _ ≤ 375 by omega⟩ (fun j0 hj0 H locs hW => ?_)
      refine lv_iadd hx hb dL_rooms_43 ?_
      refine lv_topi (fun pl9 epl => ?_)
      refine wl_put4 hC hW (j := 0) rfl (by decide) dL_rooms_44 (fun H locs hW => ?_)
      refine lv_dup hx hb dL_rooms_45 rfl ?_
      refine lv_iconst (v := 1) hx hb dL_rooms_46 (by decide) ?_
      refine lv_iconst (v := 1) hx hb dL_rooms_47 (by decide) ?_
      refine lv_iload hx hb dL_rooms_48 (lv_at hl 0 rfl) ?_
      refine lv_iconst (v := 4) hx hb dL_rooms_50 (by decide) ?_
      refine lv_ishr hx hb dL_rooms_51 ?_
      refine lv_bipush (v := 20) hx hb dL_rooms_52 (by decide) ?_
      refine wl_below hl9 hC hW hl.1 (d := 20) rfl (by decide) (by decide) (cw_L_15 hts rfl rfl ⟨(Nat.le_of_ble_eq_true rfl), (Nat.le_of_ble_eq_true rfl)⟩) (Nat.le_of_ble_eq_true rfl) dL_rooms_54 ⟨show _ ≤ 50 by omega, show _ ≤ 375 by omega⟩ (fun j1 hj1 H locs hW => ?_)
      refine lv_iadd hx hb dL_rooms_57 ?_
      refine lv_topi (fun wa ewa => ?_)
      refine wl_put4 hC hW (j := 1) rfl (by decide) dL_rooms_58 (fun H locs hW => ?_)
      refine lv_dup hx hb dL_rooms_59 rfl ?_
      refine lv_iconst (v := 2) hx hb dL_rooms_60 (by decide) ?_
      refine lv_iload hx hb dL_rooms_61 (lv_at hl 0 rfl) ?_
      refine lv_bipush (v := 7) hx hb dL_rooms_63 (by decide) ?_
      refine lv_ishr hx hb dL_rooms_65 ?_
      refine lv_sipush (v := 201) hx hb dL_rooms_66 (by decide) ?_
      refine wl_below hl9 hC hW hl.1 (d := 201) rfl (by decide) (by decide) (cw_L_15 hts rfl rfl ⟨(Nat.le_of_ble_eq_true rfl), (Nat.le_of_ble_eq_true rfl)⟩) (Nat.le_of_ble_eq_true rfl) dL_rooms_69 ⟨show _ ≤ 50 by omega, show _ ≤ 375 by omega⟩ (fun j2 hj2 H locs hW => ?_)
      refine wl_put4 hC hW (j := 2) rfl (by decide) dL_rooms_72 (fun H locs hW => ?_)
      refine lv_dup hx hb dL_rooms_73 rfl ?_
      refine lv_iconst (v := 3) hx hb dL_rooms_74 (by decide) ?_
      refine lv_iload hx hb dL_rooms_75 (lv_at hl 0 rfl) ?_
      refine lv_bipush (v := 12) hx hb dL_rooms_77 (by decide) ?_
      refine lv_ishr hx hb dL_rooms_79 ?_
      refine lv_sipush (v := 300) hx hb dL_rooms_80 (by decide) ?_
      refine wl_below hl9 hC hW hl.1 (d := 300) rfl (by decide) (by decide) (cw_L_15 hts rfl rfl ⟨(Nat.le_of_ble_eq_true rfl), (Nat.le_of_ble_eq_true rfl)⟩) (Nat.le_of_ble_eq_true rfl) dL_rooms_83 ⟨show _ ≤ 50 by omega, show _ ≤ 375 by omega⟩ (fun j3 hj3 H locs hW => ?_)
      refine lv_sipush (v := 250) hx hb dL_rooms_86 (by decide) ?_
      refine lv_isub hx hb dL_rooms_89 ?_
      refine lv_topi (fun aim eaim => ?_)
      refine wl_put4 hC hW (j := 3) rfl (by decide) dL_rooms_90 (fun H locs hW => ?_)
      refine lv_astore (lv' := [(7, .ref q4), (6, .int x1), (5, .int (nI k)), (0, .ref x0), (1, .ref b), (2, .int 6), (3, .int (nI R9)), (4, .ref c1)]) hx hb dL_rooms_91 hl (by decide) rfl (fun ls hl => ?_)
      refine lv_iconst (v := 0) hx hb dL_rooms_93 (by decide) ?_
      refine lv_istore (lv' := [(8, .int 0), (7, .ref q4), (6, .int x1), (5, .int (nI k)), (0, .ref x0), (1, .ref b), (2, .int 6), (3, .int (nI R9)), (4, .ref c1)]) hx hb dL_rooms_94 hl (by decide) rfl (fun ls hl => ?_)
      refine lv_iload hx hb dL_rooms_96 (lv_at hl 0 rfl) ?_
      refine lv_iconst (v := 4) hx hb dL_rooms_98 (by decide) ?_
      refine lv_icmp_ge (tgt := 123) hx hb dL_rooms_99 (by decide) (fun c99 => (absurd c99 (by decide))) (fun c99 => ?_)
      refine lv_aload hx hb dL_rooms_102 (lv_at hl 8 rfl) ?_
      refine lv_iconst (v := 4) hx hb dL_rooms_104 (by decide) ?_
      refine lv_iload hx hb dL_rooms_105 (lv_at hl 3 rfl) ?_
      refine lv_imul hx hb dL_rooms_107 ?_
      refine lv_iload hx hb dL_rooms_108 (lv_at hl 0 rfl) ?_
      refine lv_iadd hx hb dL_rooms_110 ?_
      refine lv_aload hx hb dL_rooms_111 (lv_at hl 1 rfl) ?_
      refine lv_iload hx hb dL_rooms_113 (lv_at hl 0 rfl) ?_
      refine wl_get4 hC hW (j := 0) (v := pl9) rfl (by decide) rfl dL_rooms_115 ?_
      refine wl_put1 hC hW (j := (4 * k + 0)) (ix4 k 0) (by omega) dL_rooms_116 (fun H locs hW => ?_)
      refine lv_iinc (v := 1) (lv' := [(8, .int 1), (7, .ref q4), (6, .int x1), (5, .int (nI k)), (0, .ref x0), (1, .ref b), (2, .int 6), (3, .int (nI R9)), (4, .ref c1)]) hx hb dL_rooms_117 hl (k := 0) rfl (by decide) (by decide) rfl (fun ls hl => ?_)
      refine lv_goto (tgt := 96) hx hb dL_rooms_120 (by decide) ?_
      refine lv_iload hx hb dL_rooms_96 (lv_at hl 0 rfl) ?_
      refine lv_iconst (v := 4) hx hb dL_rooms_98 (by decide) ?_
      refine lv_icmp_ge (tgt := 123) hx hb dL_rooms_99 (by decide) (fun c99 => (absurd c99 (by decide))) (fun c99 => ?_)
      refine lv_aload hx hb dL_rooms_102 (lv_at hl 8 rfl) ?_
      refine lv_iconst (v := 4) hx hb dL_rooms_104 (by decide) ?_
      refine lv_iload hx hb dL_rooms_105 (lv_at hl 3 rfl) ?_
      refine lv_imul hx hb dL_rooms_107 ?_
      refine lv_iload hx hb dL_rooms_108 (lv_at hl 0 rfl) ?_
      refine lv_iadd hx hb dL_rooms_110 ?_
      refine lv_aload hx hb dL_rooms_111 (lv_at hl 1 rfl) ?_
      refine lv_iload hx hb dL_rooms_113 (lv_at hl 0 rfl) ?_
      refine wl_get4 hC hW (j := 1) (v := wa) rfl (by decide) rfl dL_rooms_115 ?_
      refine wl_put1 hC hW (j := (4 * k + 1)) (ix4 k 1) (by omega) dL_rooms_116 (fun H locs hW => ?_)
      refine lv_iinc (v := 2) (lv' := [(8, .int 2), (7, .ref q4), (6, .int x1), (5, .int (nI k)), (0, .ref x0), (1, .ref b), (2, .int 6), (3, .int (nI R9)), (4, .ref c1)]) hx hb dL_rooms_117 hl (k := 0) rfl (by decide) (by decide) rfl (fun ls hl => ?_)
      refine lv_goto (tgt := 96) hx hb dL_rooms_120 (by decide) ?_
      refine lv_iload hx hb dL_rooms_96 (lv_at hl 0 rfl) ?_
      refine lv_iconst (v := 4) hx hb dL_rooms_98 (by decide) ?_
      refine lv_icmp_ge (tgt := 123) hx hb dL_rooms_99 (by decide) (fun c99 => (absurd c99 (by decide))) (fun c99 => ?_)
      refine lv_aload hx hb dL_rooms_102 (lv_at hl 8 rfl) ?_
      refine lv_iconst (v := 4) hx hb dL_rooms_104 (by decide) ?_
      refine lv_iload hx hb dL_rooms_105 (lv_at hl 3 rfl) ?_
      refine lv_imul hx hb dL_rooms_107 ?_
      refine lv_iload hx hb dL_rooms_108 (lv_at hl 0 rfl) ?_
      refine lv_iadd hx hb dL_rooms_110 ?_
      refine lv_aload hx hb dL_rooms_111 (lv_at hl 1 rfl) ?_
      refine lv_iload hx hb dL_rooms_113 (lv_at hl 0 rfl) ?_
      refine wl_get4 hC hW (j := 2) (v := nI j2) rfl (by decide) rfl dL_rooms_115 ?_
      refine wl_put1 hC hW (j := (4 * k + 2)) (ix4 k 2) (by omega) dL_rooms_116 (fun H locs hW => ?_)
      refine lv_iinc (v := 3) (lv' := [(8, .int 3), (7, .ref q4), (6, .int x1), (5, .int (nI k)), (0, .ref x0), (1, .ref b), (2, .int 6), (3, .int (nI R9)), (4, .ref c1)]) hx hb dL_rooms_117 hl (k := 0) rfl (by decide) (by decide) rfl (fun ls hl => ?_)
      refine lv_goto (tgt := 96) hx hb dL_rooms_120 (by decide) ?_
      refine lv_iload hx hb dL_rooms_96 (lv_at hl 0 rfl) ?_
      refine lv_iconst (v := 4) hx hb dL_rooms_98 (by decide) ?_
      refine lv_icmp_ge (tgt := 123) hx hb dL_rooms_99 (by decide) (fun c99 => (absurd c99 (by decide))) (fun c99 => ?_)
      refine lv_aload hx hb dL_rooms_102 (lv_at hl 8 rfl) ?_
      refine lv_iconst (v := 4) hx hb dL_rooms_104 (by decide) ?_
      refine lv_iload hx hb dL_rooms_105 (lv_at hl 3 rfl) ?_
      refine lv_imul hx hb dL_rooms_107 ?_
      refine lv_iload hx hb dL_rooms_108 (lv_at hl 0 rfl) ?_
      refine lv_iadd hx hb dL_rooms_110 ?_
      refine lv_aload hx hb dL_rooms_111 (lv_at hl 1 rfl) ?_
      refine lv_iload hx hb dL_rooms_113 (lv_at hl 0 rfl) ?_
      refine wl_get4 hC hW (j := 3) (v := aim) rfl (by decide) rfl dL_rooms_115 ?_
      refine wl_put1 hC hW (j := (4 * k + 3)) (ix4 k 3) (by omega) dL_rooms_116 (fun H locs hW => ?_)
      refine lv_iinc (v := 4) (lv' := [(8, .int 4), (7, .ref q4), (6, .int x1), (5, .int (nI k)), (0, .ref x0), (1, .ref b), (2, .int 6), (3, .int (nI R9)), (4, .ref c1)]) hx hb dL_rooms_117 hl (k := 0) rfl (by decide) (by decide) rfl (fun ls hl => ?_)
      refine lv_goto (tgt := 96) hx hb dL_rooms_120 (by decide) ?_
      refine lv_iload hx hb dL_rooms_96 (lv_at hl 0 rfl) ?_
      refine lv_iconst (v := 4) hx hb dL_rooms_98 (by decide) ?_
      refine lv_icmp_ge (tgt := 123) hx hb dL_rooms_99 (by decide) (fun c99 => ?_) (fun c99 => (absurd c99 (by decide)))
      refine lv_aload_n hx hb dL_rooms_123 rfl (lv_at hl 4 rfl) ?_
      refine lv_aload hx hb dL_rooms_124 (lv_at hl 1 rfl) ?_
      refine lv_iconst (v := 0) hx hb dL_rooms_126 (by decide) ?_
      refine wl_get4 hC hW (j := 0) (v := pl9) rfl (by decide) rfl dL_rooms_127 ?_
      refine lv_aload hx hb dL_rooms_128 (lv_at hl 1 rfl) ?_
      refine lv_iconst (v := 1) hx hb dL_rooms_130 (by decide) ?_
      refine wl_get4 hC hW (j := 1) (v := wa) rfl (by decide) rfl dL_rooms_131 ?_
      refine lv_aload hx hb dL_rooms_132 (lv_at hl 1 rfl) ?_
      refine lv_iconst (v := 2) hx hb dL_rooms_134 (by decide) ?_
      refine wl_get4 hC hW (j := 2) (v := nI j2) rfl (by decide) rfl dL_rooms_135 ?_
      refine lv_aload hx hb dL_rooms_136 (lv_at hl 1 rfl) ?_
      refine lv_iconst (v := 3) hx hb dL_rooms_138 (by decide) ?_
      refine wl_get4 hC hW (j := 3) (v := aim) rfl (by decide) rfl dL_rooms_139 ?_
      have hk0 : kdAR σ pl9 wa (nI j2) aim = 0 := ar_ok hok hS.2.1 (by omega) epl hj0 ewa hj1 hj2 eaim hj3
      refine wl_call (rest := []) hl9 hC hW hl.1 (fun ad pl sc h3 => tX6_addRoom l g B0 ad _ _ pl sc _ pl9 wa (nI j2) aim h3.1) (cw_L_30 hts rfl rfl ⟨(Nat.le_of_ble_eq_true rfl), (Nat.le_of_ble_eq_true rfl)⟩) (nx2 hk0) (fun _ _ h3 hP => k3_AR h3 hk0 hP) rfl rfl (Nat.le_of_ble_eq_true rfl) dL_rooms_140 ⟨show _ ≤ 50 by omega, show _ ≤ 375 by omega⟩ (fun H locs hW => ?_)
      refine lv_pop hx hb dL_rooms_143 rfl ?_
      refine lv_iinc (v := nI (k + 1)) (lv' := [(5, .int (nI (k + 1))), (8, .int 4), (7, .ref q4), (6, .int x1), (0, .ref x0), (1, .ref b), (2, .int 6), (3, .int (nI R9)), (4, .ref c1)]) hx hb dL_rooms_144 hl (k := 3) rfl (nI_1 _) (by decide) rfl (fun ls hl => ?_)
      refine lv_goto (tgt := 3) hx hb dL_rooms_147 (by decide) ?_
      refine W.widen (k := 10 * (k + 1)) (n := 75 * (k + 1)) (by omega) (by omega) ?_
      exact ih (k + 1) _ _ _ (by omega) (by omega) (St0_AR hok hok3.1.2.2.2 hS (by omega)) _ _ hW.drop4 ls (lv_sub hl [0, 4, 5, 6, 7, 8] rfl)
set_option maxHeartbeats 4000000 in
set_option maxRecDepth 100000 in
theorem tL_rooms (l : Launch) (g : Gg) (B0 b L : Nat) (xs : Nat → Int32) (hbB : b < B0) (hL9 : L ≤ 260) (ad : Ad) (σ : Sg) (pd : Int64) (pl : Pl) (sc : Sg) (fp fr : Nat → Int32) (P R9 : Nat) (hR5 : R9 ≤ 5) (h3 : Ok3 σ pl) (hS : St0 σ pd fp fr P 0) : MMX l g B0 b L xs yL_rooms (wsM yL_rooms cL_rooms 9 none) ({ frames := 8, cells := 50, slots := 375, locals := 136 } : Room) [.ref (ad 0 0), .ref b, .int 6, .int (nI R9), .ref (ad 51 0)] ad (fC g ad σ pd pl sc (hL g (some fp) (some fr) none none none)) (rSet g ad pd P R9) 50 375 := by
  refine MMX.start (by decide) (Nat.le_of_ble_eq_true rfl) ?_
  intro hl9 p e s m below meth c ls hC hX hI hl0
  have hx := hC.1.1
  have hb := hC.1.2.1
  have hl : lv_has ls 9 [(0, .ref (ad 0 0)), (1, .ref b), (2, .int 6), (3, .int (nI R9)), (4, .ref (ad 51 0))] := hl0
  refine lv_iconst (v := 0) hx hb dL_rooms_0 (by decide) ?_
  refine lv_istore (lv' := [(5, .int 0), (0, .ref (ad 0 0)), (1, .ref b), (2, .int 6), (3, .int (nI R9)), (4, .ref (ad 51 0))]) hx hb dL_rooms_1 hl (by decide) rfl (fun ls hl => ?_)
  refine rooms_loop (c0 := ad 50 0) (c2 := ad 52 0) (c3 := ad 53 0) (fp := fp) (P := P) (pd := pd) hl9 hC hX hbB hL9 hR5 (fun σ1 fr1 q H1 locs1 ls1 hW1 hS1 => ?_) (R9 + 1) 0 σ fr (ad 54 0) (by omega) (by omega) hS s.heap [] ⟨ad, pl, sc, hI, h3, rfl, rfl, rfl, rfl, rfl, rfl⟩ ls hl
  obtain ⟨a, pl1, sc1, hI1, h31, e0, e1, e2, e3, e4, -⟩ := hW1
  exact e_void hC hI1 ⟨rfl, ⟨e0, e1, e2, e3, e4⟩, σ1, pl1, sc1, fp, fr1, rfl, h31, hS1⟩ (show _ ≤ 50 by omega) (show _ ≤ 375 by omega) dL_rooms_150
section WLSET
variable {p : Program} {l : Launch} {e : Env} {R : Room} {s : State} {m : MethodId} {args : Array Value} {below : List Frame} {meth : Method} {c : Code} {H : Heap} {locs : List Loc} {cells slots : Nat} {Q : State → Prop}
variable {g : Gg} {B0 x0 c0 c1 c2 c3 c4 : Nat} {own : String} {cc : ByteArray} {nL : Nat} {ret : Option FieldType}
variable {pc index : Nat} {ls : Array Slot} {rest : List Value} {σ : Sg} {pd : Int64} {fp fr : Nat → Int32} {b L : Nat} {xs : Nat → Int32}
theorem wl_products (hl9 : l.stackTraces = false) (hC : Cx p s m args meth c own cc nL ret g B0) (hX : va_X b L xs s s.heap) (hbB : b < B0) (hL9 : L ≤ 260) (hW : WL g B0 x0 c0 c1 c2 c3 c4 s H locs σ pd (some fp) (some fr) none none none) (hls : ls.size = nL) {P : Nat} (hP8 : P ≤ 8) (hS : St0 σ pd fp fr 0 0)
    (cw : CallB R s args own index yL_products cL_products 10 none (wsM yL_products cL_products 10 none) ({ frames := 8, cells := 56, slots := 312, locals := 136 } : Room) 56 312 5 ∧ (Cond.static yL_products).before args s = true) (hr : (rest.map fun v => v.category).sum ≤ 8) (hdg : decode cc pc = .ok (.invokestatic index, 3)) (hf : cells + 56 ≤ R.cells ∧ slots + 312 ≤ R.slots)
    (kont : ∀ (σ1 : Sg) (fp1 fr1 : Nat → Int32) (q : Nat) (H1 : Heap) (locs1 : List Loc), WL g B0 x0 c0 c1 c2 c3 q s H1 locs1 σ1 pd (some fp1) (some fr1) none none none → St0 σ1 pd fp1 fr1 P 0 → W p l e R s m args below meth c H1 locs1 (cells + 56) (slots + 312) Q (F0 m (pc + 3) ls rest)) : W p l e R s m args below meth c H locs cells slots Q (F0 m pc ls (.ref c0 :: .int (nI P) :: .int 2 :: .ref b :: .ref x0 :: rest)) := by
  obtain ⟨ad, pl, sc, hI, h3, rfl, rfl, rfl, rfl, rfl, rfl⟩ := hW
  refine r_callX hl9 hC hX hbB hI hls (tL_products l g B0 b L xs hbB hL9 ad σ pd pl sc fp fr P hP8 h3 hS) cw rfl rfl hr hdg hf (fun v a w H1 locs1 hR hI1 => ?_)
  obtain ⟨rfl, ⟨e0, e1, e2, e3, e4⟩, σ1, pl1, sc1, fp1, fr1, rfl, h31, hS1⟩ := hR
  exact kont σ1 fp1 fr1 (a 54 0) H1 locs1 ⟨a, pl1, sc1, hI1, h31, e0, e1, e2, e3, e4, rfl⟩ hS1
theorem wl_rooms (hl9 : l.stackTraces = false) (hC : Cx p s m args meth c own cc nL ret g B0) (hX : va_X b L xs s s.heap) (hbB : b < B0) (hL9 : L ≤ 260) (hW : WL g B0 x0 c0 c1 c2 c3 c4 s H locs σ pd (some fp) (some fr) none none none) (hls : ls.size = nL) {P R9 : Nat} (hP8 : R9 ≤ 5) (hS : St0 σ pd fp fr P 0)
    (cw : CallB R s args own index yL_rooms cL_rooms 9 none (wsM yL_rooms cL_rooms 9 none) ({ frames := 8, cells := 50, slots := 375, locals := 136 } : Room) 50 375 5 ∧ (Cond.static yL_rooms).before args s = true) (hr : (rest.map fun v => v.category).sum ≤ 8) (hdg : decode cc pc = .ok (.invokestatic index, 3)) (hf : cells + 50 ≤ R.cells ∧ slots + 375 ≤ R.slots)
    (kont : ∀ (σ1 : Sg) (fp1 fr1 : Nat → Int32) (q : Nat) (H1 : Heap) (locs1 : List Loc), WL g B0 x0 c0 c1 c2 c3 q s H1 locs1 σ1 pd (some fp1) (some fr1) none none none → St0 σ1 pd fp1 fr1 P R9 → W p l e R s m args below meth c H1 locs1 (cells + 50) (slots + 375) Q (F0 m (pc + 3) ls rest)) : W p l e R s m args below meth c H locs cells slots Q (F0 m pc ls (.ref c1 :: .int (nI R9) :: .int 6 :: .ref b :: .ref x0 :: rest)) := by
  obtain ⟨ad, pl, sc, hI, h3, rfl, rfl, rfl, rfl, rfl, rfl⟩ := hW
  refine r_callX hl9 hC hX hbB hI hls (tL_rooms l g B0 b L xs hbB hL9 ad σ pd pl sc fp fr P R9 hP8 h3 hS) cw rfl rfl hr hdg hf (fun v a w H1 locs1 hR hI1 => ?_)
  obtain ⟨rfl, ⟨e0, e1, e2, e3, e4⟩, σ1, pl1, sc1, fp1, fr1, rfl, h31, hS1⟩ := hR
  exact kont σ1 fp1 fr1 (a 54 0) H1 locs1 ⟨a, pl1, sc1, hI1, h31, e0, e1, e2, e3, e4, rfl⟩ hS1
end WLSET
