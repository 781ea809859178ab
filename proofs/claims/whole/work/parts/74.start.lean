set_option maxHeartbeats 4000000 in
set_option maxRecDepth 100000 in
/-- from the entry, for every script of at most 2560 ints, the law comes to its end with true -/
theorem whole_start {p : Program} {e : Env} {s : State} {m : MethodId} {below : List Frame} {meth : Method} {c : Code} (l : Launch) (hflags : l.flags = flags0) {b L : Nat} {xs : Nat → Int32} (hL : L ≤ 2560) (C0 : lw_At p s m meth c b L xs) : W p l e room_1 s m #[Value.ref b] below meth c s.heap [] 0 0 (lw_Z below #[Value.ref b] s) (entryFrame m ([Value.ref b] : List Value).toArray 9) := by
  obtain ⟨hx, hb, hr, hml, hown, hts0, hX, hbl, hlocks, hgv⟩ := id C0
  have hl9 : l.stackTraces = false := by
    unfold Launch.stackTraces
    rw [hflags]
    decide +kernel
  obtain ⟨g, hKI⟩ := KI_start hts0 hgv
  have hts : ∀ w ∈ allW, w.before #[Value.ref b] s = true := fun w h => hts0 w (allT w h)
  have hC : Cx p s m #[Value.ref b] meth c RL cL_law 9 ret g s.heap.size := ⟨⟨hx, hb, hml, hown, hts⟩, hr, hlocks, hKI⟩
  have hbA : ¬ s.heap.size ≤ b := Nat.not_le.mpr hbl
  have hl := lv_entry ([.ref b]) (n := 9) (Nat.le_of_ble_eq_true rfl)
  rw [lg_entry_eq]
  generalize (lg_sl ([.ref b]) ++ List.replicate (9 - (lg_sl ([.ref b])).length) Slot.unset).toArray = ls at hl ⊢
  have hl : lv_has ls 9 [(0, .ref b)] := hl
  have hI : WI g (fun _ _ => 0) s.heap.size nW s s.heap [] := ⟨fun k i e he => (by cases he), ⟨fun k i k' i' e e' he => (by cases he), fun k i e he => (by cases he)⟩, va_S.rf⟩
  have fin : ∀ (H : Heap) (locs : List Loc) (ls : Array Slot), va_S (fun q => s.heap.size ≤ q) s.heap H locs → W p l e room_1 s m #[Value.ref b] below meth c H locs 601024 7293034 (lw_Z below #[Value.ref b] s) (F0 m 1641 ls []) := fun H locs ls hS => by
    refine va_forget (fun q hq => hS.2.2 q hq) ?_
    refine lv_iconst (v := 1) hx hb dL_law_1641 (by decide) ?_
    exact W.base (lw_ret (d0 := s.drawn) (Drawn.sameBut.refl s.drawn lw_cs) hx hb hr hlocks dL_law_1642)
  refine r_new hC hI 0 0 rfl inX6 tyX6 tyX6_ok wd_cl_L_8 wd_it_RX6 wd_in_RX6 (ci := 6) rfl (fs := [.null, .null, .null, .null, .null, .int 0, .int 0, .int 0, .int 0, .int 0, .long 0]) (fun j hj => by rcases j with _ | _ | _ | _ | _ | _ | _ | _ | _ | _ | _ | j <;> first | rfl | omega) (Nat.le_of_ble_eq_true rfl) (Nat.le_of_ble_eq_true rfl) dL_law_0 (fun q0 H hI => ?_)
  obtain ⟨a0, ha0⟩ : ∃ z : Ad, z = adup (fun _ _ => 0) 0 0 q0 := ⟨_, rfl⟩
  rw [← ha0] at hI
  have e0 : q0 = a0 0 0 := by rw [ha0, adup_s]
  rw [e0]
  refine lv_dup hx hb dL_law_3 rfl ?_
  refine r_callI (rest := [.ref (a0 0 0)]) hC hI hl.1 (tX6_init l g s.heap.size a0 _ rfl rfl rfl rfl rfl rfl (up2_s _ _ _ _)) (cw_L_82 hts rfl rfl ⟨Nat.le_of_ble_eq_true rfl, Nat.le_of_ble_eq_true rfl⟩) rfl rfl (Nat.le_of_ble_eq_true rfl) dL_law_4 ⟨Nat.le_of_ble_eq_true rfl, Nat.le_of_ble_eq_true rfl⟩ (fun v a1 w H locs hR hI => ?_)
  obtain ⟨rfl, hA1, rfl⟩ := hR
  have hI := hI.cast fC_first
  have e1 : a0 0 0 = a1 0 0 := (hA1 0 0 (by omega)).symm
  refine W.eq (g2 := F0 m 7 ls [.ref (a1 0 0)]) (by rw [e1]; rfl) ?_
  refine lv_astore_n (lv' := [(1, .ref (a1 0 0)), (0, .ref b)]) hx hb dL_law_7 rfl hl (by decide) rfl (fun ls hl => ?_)
  refine r_new hC hI 20 0 rfl inX7 tyX7 tyX7_ok wd_cl_L_83 wd_it_RX7 wd_in_RX7 (ci := 7) rfl (fs := newM) (fun j hj => by rcases j with _ | _ | _ | _ | _ | _ | _ | _ | _ | _ | _ | _ | _ | _ | _ | _ | _ | _ | _ | _ | _ | _ | _ | _ | j <;> first | rfl | omega) (Nat.le_of_ble_eq_true rfl) (Nat.le_of_ble_eq_true rfl) dL_law_8 (fun q2 H hI => ?_)
  have hI := hI.cast (fMt_first (g := g) (fun k i hk => by obtain ⟨j, rfl⟩ : ∃ j, k = j + 13 := ⟨k - 13, by omega⟩; rfl))
  obtain ⟨a2, ha2⟩ : ∃ z : Ad, z = adup a1 20 0 q2 := ⟨_, rfl⟩
  rw [← ha2] at hI
  have e2 : q2 = a2 20 0 := by rw [ha2, adup_s]
  rw [e2]
  refine lv_dup hx hb dL_law_11 rfl ?_
  refine r_callI (rest := [.ref (a2 20 0)]) hC hI hl.1 (tX7_init l g s.heap.size a2 _) (cw_L_85 hts rfl rfl ⟨Nat.le_of_ble_eq_true rfl, Nat.le_of_ble_eq_true rfl⟩) rfl rfl (Nat.le_of_ble_eq_true rfl) dL_law_12 ⟨Nat.le_of_ble_eq_true rfl, Nat.le_of_ble_eq_true rfl⟩ (fun v a3 w H locs hR hI => ?_)
  obtain ⟨rfl, hA3, rfl⟩ := hR
  have e3 : a2 20 0 = a3 20 0 := (hA3 20 0 (by omega)).symm
  refine W.eq (g2 := F0 m 15 ls [.ref (a3 20 0)]) (by rw [e3]; rfl) ?_
  refine lv_astore_n (lv' := [(2, .ref (a3 20 0)), (1, .ref (a1 0 0)), (0, .ref b)]) hx hb dL_law_15 rfl hl (by decide) rfl (fun ls hl => ?_)
  refine lv_iconst (v := 1) hx hb dL_law_16 (by decide) ?_
  refine r_newa hC hI 50 0 rfl (atype := .long) wd_ac_long 5 rfl (hC.2.2.2.1.2 5 _ rfl).2 (a0 := (1, .inr (.inl (fun _ => 0)))) rfl (by decide) (N' := 1) (by decide) (Nat.le_of_ble_eq_true rfl) (Nat.le_of_ble_eq_true rfl) (Nat.le_of_ble_eq_true rfl) dL_law_17 (fun q4 H hI => ?_)
  refine lv_astore_n (lv' := [(3, .ref q4), (2, .ref (a3 20 0)), (1, .ref (a1 0 0)), (0, .ref b)]) hx hb dL_law_19 rfl hl (by decide) rfl (fun ls hl => ?_)
  refine lv_iconst (v := 1) hx hb dL_law_20 (by decide) ?_
  refine r_newa hC hI 51 0 rfl (atype := .double) wd_ac_double 6 rfl (hC.2.2.2.1.2 6 _ rfl).2 (a0 := (1, .inr (.inr (.inr (.inl (fun _ => 0)))))) rfl (by decide) (N' := 1) (by decide) (Nat.le_of_ble_eq_true rfl) (Nat.le_of_ble_eq_true rfl) (Nat.le_of_ble_eq_true rfl) dL_law_21 (fun q5 H hI => ?_)
  refine lv_astore (lv' := [(4, .ref q5), (3, .ref q4), (2, .ref (a3 20 0)), (1, .ref (a1 0 0)), (0, .ref b)]) hx hb dL_law_23 hl (by decide) rfl (fun ls hl => ?_)
  refine lv_iconst (v := 0) hx hb dL_law_25 (by decide) ?_
  refine lv_istore (lv' := [(5, .int 0), (4, .ref q5), (3, .ref q4), (2, .ref (a3 20 0)), (1, .ref (a1 0 0)), (0, .ref b)]) hx hb dL_law_26 hl (by decide) rfl (fun ls hl => ?_)
  obtain ⟨a5, ha5⟩ : ∃ z : Ad, z = adup (adup a3 50 0 q4) 51 0 q5 := ⟨_, rfl⟩
  rw [← ha5] at hI
  have h5 : ∀ k i, k < 50 → a5 k i = a3 k i := fun k i hk => by rw [ha5]; exact (adup_n _ _ (by omega)).trans (adup_n _ _ (by omega))
  have h3 : ∀ k i, k < 13 → a3 k i = a1 k i := fun k i hk => (hA3 k i (by omega)).trans (by rw [ha2]; exact adup_n _ _ (by omega))
  have hI := hI.cast (f' := fM g a5 σI 0 0 (fC g a5 σI 0 (fun _ _ => none) zS (hO g (fun _ => 0) (fun _ => 0)))) (by
    rw [fM_h (k := 50) (by decide), fM_h (k := 51) (by decide), fC_up (K := 50) (by decide), fC_up (K := 51) (by decide), hO_first, fM_adE (a := a5) (ad := a3) (fun k i hk => h5 k i (by omega)), fC_adE (a := a5) (ad := a1) (fun k i hk => (h5 k i (by omega)).trans (h3 k i hk))])
  refine W.widen (k := 100 + 10 * 0) (n := 1000 + 80 * 0) (Nat.le_of_ble_eq_true rfl) (Nat.le_of_ble_eq_true rfl) ?_
  exact law_loop hl9 hC hX hbl hbA hL fin 600 0 (Nat.zero_le L) (by omega) H locs ls ⟨0, a5, σI, 0, fun _ _ => none, zS, fun _ => 0, fun _ => 0, hI, ⟨Iv_I, OkT_I, Bn_I⟩, trivial, (h5 0 0 (by decide)).trans (h3 0 0 (by decide)), h5 20 0 (by decide), by rw [ha5]; exact (adup_n _ _ (by omega)).trans (adup_s _ _ _ _), by rw [ha5]; exact adup_s _ _ _ _⟩ (lv_sub hl [5, 4, 3, 2, 1, 0] rfl)
