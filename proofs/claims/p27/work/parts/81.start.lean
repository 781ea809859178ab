theorem so_ok {jb js : Nat} (h1 : jb < 400) (h2 : js < 201) : kdSO (nI jb - 50) (nI js) = 0 := by
  have i0 : (nI jb - 50).toInt = (jb : Int) - 50 := nI_sub (k := 50) (by omega) ⟨by decide, by decide⟩
  have i1 : (nI js).toInt = (js : Int) := nI_toInt (by omega)
  exact if_pos ⟨⟨le_of_i (x := -300) (a := -300) rfl i0 (by omega), le_of_i (y := 400) (b := 400) i0 rfl (by omega)⟩, ⟨le_of_i (x := 0) (a := 0) rfl i1 (by omega), le_of_i (y := 200) (b := 200) i1 rfl (by omega)⟩⟩
set_option maxHeartbeats 8000000 in
set_option maxRecDepth 100000 in
/-- from the entry, for every script of at most 260 ints, the law comes to its end with true -/
theorem whole_start {p : Program} {e : Env} {s : State} {m : MethodId} {below : List Frame} {meth : Method} {c : Code} (l : Launch) (hflags : l.flags = flags0) {b L : Nat} {xs : Nat → Int32} (hL : L ≤ 260) (C0 : lw_At p s m meth c b L xs) : W p l e room_1 s m #[Value.ref b] below meth c s.heap [] 0 0 (lw_Z below #[Value.ref b] s) (entryFrame m ([Value.ref b] : List Value).toArray 21) := by
  obtain ⟨hx, hb, hr, hml, hown, hts0, hX, hbl, hlocks, hgv⟩ := id C0
  have hl9 : l.stackTraces = false := by
    unfold Launch.stackTraces
    rw [hflags]
    decide +kernel
  obtain ⟨g, hKI⟩ := KI_start hts0 hgv
  have hts : ∀ w ∈ allW, w.before #[Value.ref b] s = true := fun w h => hts0 w (allT w h)
  have hC : Cx p s m #[Value.ref b] meth c RL cL_law 21 ret g s.heap.size := ⟨⟨hx, hb, hml, hown, hts⟩, hr, hlocks, hKI⟩
  have hl := lv_entry ([.ref b]) (n := 21) (Nat.le_of_ble_eq_true rfl)
  rw [lg_entry_eq]
  generalize (lg_sl ([.ref b]) ++ List.replicate (21 - (lg_sl ([.ref b])).length) Slot.unset).toArray = ls at hl ⊢
  have hl : lv_has ls 21 [(0, .ref b)] := hl
  have hI : WI g (fun _ _ => 0) s.heap.size nW s s.heap [] := ⟨fun k i e he => (by cases he), ⟨fun k i k' i' e e' he => (by cases he), fun k i e he => (by cases he)⟩, va_S.rf⟩
  have fin : ∀ (H : Heap) (locs : List Loc) (ls : Array Slot), va_S (fun q => s.heap.size ≤ q) s.heap H locs → W p l e room_1 s m #[Value.ref b] below meth c H locs 632096 7205337 (lw_Z below #[Value.ref b] s) (F0 m 814 ls []) := fun H locs ls hS => by
    refine va_forget (fun q hq => hS.2.2 q hq) ?_
    refine lv_iconst (v := 1) hx hb dL_law_814 (by decide) ?_
    exact lw_ret hx hb hr hlocks dL_law_815
  refine r_new hC hI 0 0 rfl inX6 tyX6 tyX6_ok wd_cl_L_25 wd_it_RX6 wd_in_RX6 (ci := 6) rfl (fs := [.null, .null, .null, .null, .null, .int 0, .int 0, .int 0, .int 0, .int 0, .long 0]) (fun j hj => by rcases j with _ | _ | _ | _ | _ | _ | _ | _ | _ | _ | _ | j <;> first | rfl | omega) (Nat.le_of_ble_eq_true rfl) (Nat.le_of_ble_eq_true rfl) dL_law_0 (fun q0 H hI => ?_)
  obtain ⟨a0, ha0⟩ : ∃ z : Ad, z = adup (fun _ _ => 0) 0 0 q0 := ⟨_, rfl⟩
  rw [← ha0] at hI
  have e0 : q0 = a0 0 0 := by rw [ha0, adup_s]
  rw [e0]
  refine lv_dup hx hb dL_law_3 rfl ?_
  refine r_callI (rest := [.ref (a0 0 0)]) hC hI hl.1 (tX6_init l g s.heap.size a0 _ rfl rfl rfl rfl rfl rfl (up2_s _ _ _ _)) (cw_L_33 hts rfl rfl ⟨Nat.le_of_ble_eq_true rfl, Nat.le_of_ble_eq_true rfl⟩) rfl rfl (Nat.le_of_ble_eq_true rfl) dL_law_4 ⟨Nat.le_of_ble_eq_true rfl, Nat.le_of_ble_eq_true rfl⟩ (fun v a1 w H locs hR hI => ?_)
  obtain ⟨rfl, hA1, rfl⟩ := hR
  have hI := hI.cast fC_first
  have e1 : a0 0 0 = a1 0 0 := (hA1 0 0 (by omega)).symm
  refine W.eq (g2 := F0 m 7 ls [.ref (a1 0 0)]) (by rw [e1]; rfl) ?_
  refine lv_astore_n (lv' := [(1, .ref (a1 0 0)), (0, .ref b)]) hx hb dL_law_7 rfl hl (by decide) rfl (fun ls hl => ?_)
  have hW := WL_first hI
  have hbB := hbl
  generalize a1 0 0 = x0 at hW hl
  generalize a1 50 0 = c0 at hW
  generalize a1 51 0 = c1 at hW
  generalize a1 52 0 = c2 at hW
  generalize a1 53 0 = c3 at hW
  generalize a1 54 0 = c4 at hW
  refine lv_iconst (v := 1) hx hb dL_law_8 (by decide) ?_
  refine lv_aload_n hx hb dL_law_9 rfl (lv_at hl 1 rfl) ?_
  refine lv_iconst (v := 0) hx hb dL_law_10 (by decide) ?_
  refine wl_cell hl9 hC hX hbB hL hW hl.1 (k := 0) rfl (by decide) (cw_L_9 hts rfl rfl ⟨(Nat.le_of_ble_eq_true rfl), (Nat.le_of_ble_eq_true rfl)⟩) (Nat.le_of_ble_eq_true rfl) dL_law_11 ⟨show _ ≤ 632096 by omega, show _ ≤ 7205337 by omega⟩ (fun z0 H locs hW => ?_)
  refine lv_bipush (v := 8) hx hb dL_law_14 (by decide) ?_
  refine wl_below hl9 hC hW hl.1 (d := 8) rfl (by decide) (by decide) (cw_L_15 hts rfl rfl ⟨(Nat.le_of_ble_eq_true rfl), (Nat.le_of_ble_eq_true rfl)⟩) (Nat.le_of_ble_eq_true rfl) dL_law_16 ⟨show _ ≤ 632096 by omega, show _ ≤ 7205337 by omega⟩ (fun jP hjP H locs hW => ?_)
  refine lv_iadd hx hb dL_law_19 ?_
  refine lv_topi (fun hP ehP => ?_)
  obtain ⟨P, hP0, hP9, rfl⟩ : ∃ P : Nat, 0 < P ∧ P ≤ 8 ∧ hP = nI P := ⟨1 + jP, by omega, by omega, ehP.trans (nI_p 1 jP)⟩
  refine lv_istore_n (lv' := [(2, .int (nI P)), (1, .ref x0), (0, .ref b)]) hx hb dL_law_20 rfl hl (by decide) rfl (fun ls hl => ?_)
  refine lv_iconst (v := 1) hx hb dL_law_21 (by decide) ?_
  refine lv_aload_n hx hb dL_law_22 rfl (lv_at hl 2 rfl) ?_
  refine lv_iconst (v := 1) hx hb dL_law_23 (by decide) ?_
  refine wl_cell hl9 hC hX hbB hL hW hl.1 (k := 1) rfl (by decide) (cw_L_9 hts rfl rfl ⟨(Nat.le_of_ble_eq_true rfl), (Nat.le_of_ble_eq_true rfl)⟩) (Nat.le_of_ble_eq_true rfl) dL_law_24 ⟨show _ ≤ 632096 by omega, show _ ≤ 7205337 by omega⟩ (fun z1 H locs hW => ?_)
  refine lv_iconst (v := 5) hx hb dL_law_27 (by decide) ?_
  refine wl_below hl9 hC hW hl.1 (d := 5) rfl (by decide) (by decide) (cw_L_15 hts rfl rfl ⟨(Nat.le_of_ble_eq_true rfl), (Nat.le_of_ble_eq_true rfl)⟩) (Nat.le_of_ble_eq_true rfl) dL_law_28 ⟨show _ ≤ 632096 by omega, show _ ≤ 7205337 by omega⟩ (fun jR hjR H locs hW => ?_)
  refine lv_iadd hx hb dL_law_31 ?_
  refine lv_topi (fun hR9 ehR9 => ?_)
  obtain ⟨R9, hR90, hR99, rfl⟩ : ∃ R9 : Nat, 0 < R9 ∧ R9 ≤ 5 ∧ hR9 = nI R9 := ⟨1 + jR, by omega, by omega, ehR9.trans (nI_p 1 jR)⟩
  refine lv_istore_n (lv' := [(3, .int (nI R9)), (2, .int (nI P)), (1, .ref x0), (0, .ref b)]) hx hb dL_law_32 rfl hl (by decide) rfl (fun ls hl => ?_)
  refine lv_bipush (v := 48) hx hb dL_law_33 (by decide) ?_
  refine wl_new0 hC hW rfl (show _ ≤ 632096 by omega) (show _ ≤ 7205337 by omega) dL_law_35 (fun q0 H hW => ?_)
  refine lv_astore (lv' := [(4, .ref q0), (3, .int (nI R9)), (2, .int (nI P)), (1, .ref x0), (0, .ref b)]) hx hb dL_law_37 hl (by decide) rfl (fun ls hl => ?_)
  refine lv_bipush (v := 24) hx hb dL_law_39 (by decide) ?_
  refine wl_new1 hC hW rfl (show _ ≤ 632096 by omega) (show _ ≤ 7205337 by omega) dL_law_41 (fun q1 H hW => ?_)
  refine lv_astore (lv' := [(5, .ref q1), (4, .ref q0), (3, .int (nI R9)), (2, .int (nI P)), (1, .ref x0), (0, .ref b)]) hx hb dL_law_43 hl (by decide) rfl (fun ls hl => ?_)
  refine lv_aload_n hx hb dL_law_45 rfl (lv_at hl 4 rfl) ?_
  refine lv_aload_n hx hb dL_law_46 rfl (lv_at hl 5 rfl) ?_
  refine lv_iconst (v := 2) hx hb dL_law_47 (by decide) ?_
  refine lv_iload_n hx hb dL_law_48 rfl (lv_at hl 3 rfl) ?_
  refine lv_aload hx hb dL_law_49 (lv_at hl 1 rfl) ?_
  refine wl_products (rest := []) hl9 hC hX hbl hL hW hl.1 (P := P) (by omega) St0_I (cw_L_34 hts rfl rfl ⟨(Nat.le_of_ble_eq_true rfl), (Nat.le_of_ble_eq_true rfl)⟩) (Nat.le_of_ble_eq_true rfl) dL_law_51 ⟨show _ ≤ 632096 by omega, show _ ≤ 7205337 by omega⟩ (fun σ1 fp1 fr1 q4 H locs hW hS => ?_)
  refine lv_aload_n hx hb dL_law_54 rfl (lv_at hl 4 rfl) ?_
  refine lv_aload_n hx hb dL_law_55 rfl (lv_at hl 5 rfl) ?_
  refine lv_bipush (v := 6) hx hb dL_law_56 (by decide) ?_
  refine lv_iload_n hx hb dL_law_58 rfl (lv_at hl 2 rfl) ?_
  refine lv_aload hx hb dL_law_59 (lv_at hl 0 rfl) ?_
  refine wl_rooms (rest := []) hl9 hC hX hbl hL hW hl.1 (P := P) (R9 := R9) (by omega) hS (cw_L_38 hts rfl rfl ⟨(Nat.le_of_ble_eq_true rfl), (Nat.le_of_ble_eq_true rfl)⟩) (Nat.le_of_ble_eq_true rfl) dL_law_61 ⟨show _ ≤ 632096 by omega, show _ ≤ 7205337 by omega⟩ (fun σ2 fp2 fr2 q5 H locs hW hS => ?_)
  obtain ⟨pl2, hok3⟩ := hW.ok
  refine lv_aload_n hx hb dL_law_64 rfl (lv_at hl 4 rfl) ?_
  refine lv_aload_n hx hb dL_law_65 rfl (lv_at hl 5 rfl) ?_
  refine lv_bipush (v := 10) hx hb dL_law_66 (by decide) ?_
  refine wl_cell hl9 hC hX hbB hL hW hl.1 (k := 10) rfl (by decide) (cw_L_9 hts rfl rfl ⟨(Nat.le_of_ble_eq_true rfl), (Nat.le_of_ble_eq_true rfl)⟩) (Nat.le_of_ble_eq_true rfl) dL_law_68 ⟨show _ ≤ 632096 by omega, show _ ≤ 7205337 by omega⟩ (fun z2 H locs hW => ?_)
  refine lv_sipush (v := 400) hx hb dL_law_71 (by decide) ?_
  refine wl_below hl9 hC hW hl.1 (d := 400) rfl (by decide) (by decide) (cw_L_15 hts rfl rfl ⟨(Nat.le_of_ble_eq_true rfl), (Nat.le_of_ble_eq_true rfl)⟩) (Nat.le_of_ble_eq_true rfl) dL_law_74 ⟨show _ ≤ 632096 by omega, show _ ≤ 7205337 by omega⟩ (fun jb hjb H locs hW => ?_)
  refine lv_bipush (v := 50) hx hb dL_law_77 (by decide) ?_
  refine lv_isub hx hb dL_law_79 ?_
  refine lv_aload_n hx hb dL_law_80 rfl (lv_at hl 5 rfl) ?_
  refine lv_bipush (v := 11) hx hb dL_law_81 (by decide) ?_
  refine wl_cell hl9 hC hX hbB hL hW hl.1 (k := 11) rfl (by decide) (cw_L_9 hts rfl rfl ⟨(Nat.le_of_ble_eq_true rfl), (Nat.le_of_ble_eq_true rfl)⟩) (Nat.le_of_ble_eq_true rfl) dL_law_83 ⟨show _ ≤ 632096 by omega, show _ ≤ 7205337 by omega⟩ (fun z3 H locs hW => ?_)
  refine lv_sipush (v := 201) hx hb dL_law_86 (by decide) ?_
  refine wl_below hl9 hC hW hl.1 (d := 201) rfl (by decide) (by decide) (cw_L_15 hts rfl rfl ⟨(Nat.le_of_ble_eq_true rfl), (Nat.le_of_ble_eq_true rfl)⟩) (Nat.le_of_ble_eq_true rfl) dL_law_89 ⟨show _ ≤ 632096 by omega, show _ ≤ 7205337 by omega⟩ (fun js hjs H locs hW => ?_)
  have hk1 : kdSO (nI jb - 50) (nI js) = 0 := so_ok hjb hjs
  refine wl_call (rest := []) hl9 hC hW hl.1 (fun ad pl sc h3 => tX6_setOutside l g _ ad _ _ pl sc _ ((nI jb) - 50) (nI js) h3.2.1 h3.1) (cw_L_41 hts rfl rfl ⟨(Nat.le_of_ble_eq_true rfl), (Nat.le_of_ble_eq_true rfl)⟩) (nx1 hk1) (fun _ _ h3 hP => k3_SO h3 hk1 hP) rfl rfl (Nat.le_of_ble_eq_true rfl) dL_law_92 ⟨show _ ≤ 632096 by omega, show _ ≤ 7205337 by omega⟩ (fun H locs hW => ?_)
  refine lv_pop hx hb dL_law_95 rfl ?_
  refine lv_aload_n hx hb dL_law_96 rfl (lv_at hl 4 rfl) ?_
  refine lv_bipush (v := 6) hx hb dL_law_97 (by decide) ?_
  refine lv_bipush (v := 18) hx hb dL_law_99 (by decide) ?_
  refine lv_bipush (v := 25) hx hb dL_law_101 (by decide) ?_
  refine wl_call (rest := []) hl9 hC hW hl.1 (fun ad pl sc h3 => tX6_setPrice l g _ ad _ _ pl sc _ 6 18 25 h3.1) (cw_L_44 hts rfl rfl ⟨(Nat.le_of_ble_eq_true rfl), (Nat.le_of_ble_eq_true rfl)⟩) (nx1 (show kdSP 6 18 25 = 0 from by decide)) (fun _ _ h3 hP => k3_SP h3 (show kdSP 6 18 25 = 0 from by decide) hP) rfl rfl (Nat.le_of_ble_eq_true rfl) dL_law_103 ⟨show _ ≤ 632096 by omega, show _ ≤ 7205337 by omega⟩ (fun H locs hW => ?_)
  refine lv_pop hx hb dL_law_106 rfl ?_
  refine lv_bipush (v := 60) hx hb dL_law_107 (by decide) ?_
  refine wl_new2 hC hW rfl (show _ ≤ 632096 by omega) (show _ ≤ 7205337 by omega) dL_law_109 (fun q2 H hW => ?_)
  refine lv_astore (lv' := [(6, .ref q2), (5, .ref q1), (4, .ref q0), (3, .int (nI R9)), (2, .int (nI P)), (1, .ref x0), (0, .ref b)]) hx hb dL_law_111 hl (by decide) rfl (fun ls hl => ?_)
  refine lv_iconst (v := 0) hx hb dL_law_113 (by decide) ?_
  refine lv_istore (lv' := [(7, .int 0), (6, .ref q2), (5, .ref q1), (4, .ref q0), (3, .int (nI R9)), (2, .int (nI P)), (1, .ref x0), (0, .ref b)]) hx hb dL_law_114 hl (by decide) rfl (fun ls hl => ?_)
  refine lv_iconst (v := 0) hx hb dL_law_116 (by decide) ?_
  refine lv_istore (lv' := [(8, .int 0), (7, .int 0), (6, .ref q2), (5, .ref q1), (4, .ref q0), (3, .int (nI R9)), (2, .int (nI P)), (1, .ref x0), (0, .ref b)]) hx hb dL_law_117 hl (by decide) rfl (fun ls hl => ?_)
  refine W.widen (k := 200 + 4200 * 0) (n := 2000 + 25200 * 0) (by omega) (by omega) ?_
  exact law_loop hl9 hC hX hbl hL hP0 hP9 hR90 hR99 (fun H locs ls hS => fin H locs ls hS) 31 0 0 _ 0 (fun _ => 0) _ _ (by omega) (by omega) (by omega) (Lw_SP (Lw_SO (Lw_St0 hS)) ⟨by decide, by decide⟩) (fun q _ => (hok3.1.2.2.2.1 q (by have := hS.2.2.1; omega)).symm) H locs hW ls (lv_sub hl [0, 1, 2, 3, 4, 5, 6, 7, 8] rfl)
