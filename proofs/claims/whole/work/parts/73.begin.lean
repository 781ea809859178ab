/-! HOW THE LAW BEGINS: what the statement gives of the start -/
theorem start_prim {args : Array Value} {s : State} {ty : FieldType} (hne : ∀ C, ty ≠ .object C) (h : (Cond.arrayClass ty).before args s = true) : ∃ cA, ArrOfT s cA ty ∧ va_RA s cA ty := by
  obtain ⟨c, k, comp, h1, h2, h3⟩ := Cond.arrayClass_spec h
  refine ⟨c, fun n z => ⟨(fun q hq => by cases hq), k, h2, comp, h3⟩, ?_⟩
  cases ty with
  | object C => exact absurd rfl (hne C)
  | _ => exact h1
theorem start_obj {args : Array Value} {s : State} {C : String} (h : (Cond.arrayOver (.object C)).before args s = true) : ∃ cA, ArrOfT s cA (.object C) ∧ va_RA s cA (.object C) := by
  obtain ⟨comp, c, k, h1, h2, h3, h4, h5⟩ := Cond.arrayOver_spec h
  exact ⟨c, fun n z => ⟨(fun q hq => by cases hq), k, h3, comp, h4⟩, k, comp, h3, h4, h1, h5⟩
theorem start_str {args : Array Value} {s : State} {own tx C : String} {k : Nat} (h1 : (Cond.stringRef own k tx).before args s = true) (h2 : (Cond.exactly (.string own k) C).before args s = true) : ∃ sa, vk_R own k tx sa s := by
  obtain ⟨a, c, cell, k9, he, -⟩ := Cond.exactly_spec h2
  exact ⟨a, vk_R.of h1 he⟩
theorem wt1 {w : Cond} (i : Nat) (h : tables_1_1[i]? = some w) : w ∈ lw_tbl := tt1 w (List.mem_of_getElem? h)
theorem wt2 {w : Cond} (i : Nat) (h : tables_1_2[i]? = some w) : w ∈ lw_tbl := tt2 w (List.mem_of_getElem? h)
theorem wt3 {w : Cond} (i : Nat) (h : tables_1_3[i]? = some w) : w ∈ lw_tbl := tt3 w (List.mem_of_getElem? h)
theorem wt4 {w : Cond} (i : Nat) (h : tables_1_4[i]? = some w) : w ∈ lw_tbl := tt4 w (List.mem_of_getElem? h)
set_option maxRecDepth 100000 in
theorem XS_start {args : Array Value} {s : State} (hts : ∀ w ∈ lw_tbl, w.before args s = true) (hgv : (Jvm.Cond.and given_1 narrow_1).before args s = true) : XS s := by
  have hs := flat_of_before _ hgv
  refine ⟨?_, ⟨va_Nw.of rfl (hts _ (wt1 176 rfl)), va_Nw.of rfl (hts _ (wt2 43 rfl)), va_Nw.of rfl (hts _ (wt2 175 rfl)), va_Nw.of rfl (hts _ (wt4 219 rfl))⟩, va_Nw.of rfl (hts _ (wt1 27 rfl)), va_Nc.of (hs (.not (.castable nIS nIA)) (by decide +kernel)), va_Nc.of (hs (.not (.castable nIA nIO)) (by decide +kernel)), va_Nc.of (hs (.not (.castable nIS nIO)) (by decide +kernel)), va_AO.of (hts _ (wt1 60 rfl)), va_AO.of (hts _ (wt1 56 rfl)), va_AO.of (hts _ (wt1 58 rfl)), va_Nw.of rfl (hts _ (wt1 178 rfl)), va_Nw.of rfl (hts _ (wt1 180 rfl)), va_Nw.of rfl (hts _ (wt1 182 rfl))⟩
  intro q hq
  simp only [strsX, List.mem_cons, List.not_mem_nil, or_false] at hq
  rcases hq with rfl | rfl | rfl | rfl | rfl | rfl | rfl | rfl | rfl | rfl | rfl | rfl
  · exact start_str (hts _ (wt1 215 rfl)) (hs (.exactly (.string RX6 244) "java/lang/String") (by decide +kernel))
  · exact start_str (hts _ (wt2 50 rfl)) (hs (.exactly (.string RX6 83) "java/lang/String") (by decide +kernel))
  · exact start_str (hts _ (wt2 87 rfl)) (hs (.exactly (.string RX6 91) "java/lang/String") (by decide +kernel))
  · exact start_str (hts _ (wt2 182 rfl)) (hs (.exactly (.string RX6 253) "java/lang/String") (by decide +kernel))
  · exact start_str (hts _ (wt2 196 rfl)) (hs (.exactly (.string RX6 114) "java/lang/String") (by decide +kernel))
  · exact start_str (hts _ (wt2 211 rfl)) (hs (.exactly (.string RX6 248) "java/lang/String") (by decide +kernel))
  · exact start_str (hts _ (wt2 223 rfl)) (hs (.exactly (.string RX6 251) "java/lang/String") (by decide +kernel))
  · exact start_str (hts _ (wt3 8 rfl)) (hs (.exactly (.string RX6 141) "java/lang/String") (by decide +kernel))
  · exact start_str (hts _ (wt3 53 rfl)) (hs (.exactly (.string RX6 255) "java/lang/String") (by decide +kernel))
  · exact start_str (hts _ (wt3 54 rfl)) (hs (.exactly (.string RX6 162) "java/lang/String") (by decide +kernel))
  · exact start_str (hts _ (wt3 203 rfl)) (hs (.exactly (.string RX6 226) "java/lang/String") (by decide +kernel))
  · exact start_str (hts _ (wt3 84 rfl)) (hs (.exactly (.string RX6 177) "java/lang/String") (by decide +kernel))
theorem ZS_start {args : Array Value} {s : State} (hts : ∀ w ∈ lw_tbl, w.before args s = true) (hgv : (Jvm.Cond.and given_1 narrow_1).before args s = true) : ZS s.heap.size s s.heap := by
  have hs := flat_of_before _ hgv
  have hA : ∀ a : Nat, a < s.heap.size → ¬ s.heap.size ≤ a := fun a h1 h2 => by omega
  exact ⟨vx_Zqof (hts _ (wt1 201 rfl)) (hts _ (wt1 5 rfl)) (hs (.isRef (.static Bundle.tN "UNASSIGNED_STACK" Bundle.steD)) (by decide +kernel)) hA, vx_Zqof (hts _ (wt1 203 rfl)) (hts _ (wt1 5 rfl)) (hs (.isRef (.static Bundle.tN "SUPPRESSED_SENTINEL" Bundle.listD)) (by decide +kernel)) hA⟩
theorem KI_start {args : Array Value} {s : State} (hts : ∀ w ∈ lw_tbl, w.before args s = true) (hgv : (Jvm.Cond.and given_1 narrow_1).before args s = true) : ∃ g : Gg, KI g s.heap.size s := by
  have hA : ∀ w ∈ allW, w.before args s = true := fun w h => hts w (allT w h)
  obtain ⟨c0, i0, k0⟩ := u_known (C := RX0) (T := TX0) (N := 2) (n := 2) hA inX0 (hA _ wd_it_RX0)
  obtain ⟨c1, i1, k1⟩ := u_known (C := RX1) (T := TX1) (N := 5) (n := 5) hA inX1 (hA _ wd_it_RX1)
  obtain ⟨c2, i2, k2⟩ := u_known (C := RX2) (T := TX2) (N := 6) (n := 6) hA inX2 (hA _ wd_it_RX2)
  obtain ⟨c3, i3, k3⟩ := u_known (C := RX3) (T := TX3) (N := 5) (n := 5) hA inX3 (hA _ wd_it_RX3)
  obtain ⟨c4, i4, k4⟩ := u_known (C := RX4) (T := TX4) (N := 11) (n := 11) hA inX4 (hA _ wd_it_RX4)
  obtain ⟨c5, i5, k5⟩ := u_known (C := RX5) (T := TX5) (N := 2) (n := 2) hA inX5 (hA _ wd_it_RX5)
  obtain ⟨c6, i6, k6⟩ := u_known (C := RX6) (T := TX6) (N := 11) (n := 11) hA inX6 (hA _ wd_it_RX6)
  obtain ⟨c7, i7, k7⟩ := u_known (C := RX7) (T := TX7) (N := 24) (n := 24) hA inX7 (hA _ wd_it_RX7)
  obtain ⟨a0, q0⟩ := start_prim (ty := .int) (fun C h => by cases h) (hA _ wd_ac_int)
  obtain ⟨a1, q1⟩ := start_prim (ty := .boolean) (fun C h => by cases h) (hA _ wd_ac_boolean)
  obtain ⟨a2, q2⟩ := start_obj (C := RX2) (hts _ (wt1 60 rfl))
  obtain ⟨a3, q3⟩ := start_obj (C := RX3) (hts _ (wt1 56 rfl))
  obtain ⟨a4, q4⟩ := start_obj (C := RX4) (hts _ (wt1 58 rfl))
  obtain ⟨a5, q5⟩ := start_prim (ty := .long) (fun C h => by cases h) (hA _ wd_ac_long)
  obtain ⟨a6, q6⟩ := start_prim (ty := .double) (fun C h => by cases h) (hA _ wd_ac_double)
  refine ⟨((fun k => match k with | 0 => c0 | 1 => c1 | 2 => c2 | 3 => c3 | 4 => c4 | 5 => c5 | 6 => c6 | _ => c7, fun k => match k with | 0 => i0 | 1 => i1 | 2 => i2 | 3 => i3 | 4 => i4 | 5 => i5 | 6 => i6 | _ => i7), fun k => match k with | 0 => a0 | 1 => a1 | 2 => a2 | 3 => a3 | 4 => a4 | 5 => a5 | _ => a6), ⟨?_, ?_⟩, ZS_start hts hgv, XS_start hts hgv, Nat.le_refl _⟩
  · intro k q hq
    match k, hq with
    | 0, hq => cases hq; exact k0
    | 1, hq => cases hq; exact k1
    | 2, hq => cases hq; exact k2
    | 3, hq => cases hq; exact k3
    | 4, hq => cases hq; exact k4
    | 5, hq => cases hq; exact k5
    | 6, hq => cases hq; exact k6
    | 7, hq => cases hq; exact k7
    | k + 8, hq => cases hq
  · intro k q hq
    match k, hq with
    | 0, hq => cases hq; exact q0
    | 1, hq => cases hq; exact q1
    | 2, hq => cases hq; exact q2
    | 3, hq => cases hq; exact q3
    | 4, hq => cases hq; exact q4
    | 5, hq => cases hq; exact q5
    | 6, hq => cases hq; exact q6
    | k + 7, hq => cases hq
/-! the first worlds -/
abbrev nW : Wd := fun _ _ => none
theorem fC_adE {g : Gg} {ad a : Ad} {σ : Sg} {pd : Int64} {pl : Pl} {sc : Sg} {h : Wd} (hA : ∀ k i, k < 13 → a k i = ad k i) : fC g a σ pd pl sc h = fC g ad σ pd pl sc h := by
  have f7 : a 7 = ad 7 := funext fun i => hA 7 i (by decide)
  have f8 : a 8 = ad 8 := funext fun i => hA 8 i (by decide)
  have f9 : a 9 = ad 9 := funext fun i => hA 9 i (by decide)
  have f10 : a 10 = ad 10 := funext fun i => hA 10 i (by decide)
  have f11 : a 11 = ad 11 := funext fun i => hA 11 i (by decide)
  have f12 : a 12 = ad 12 := funext fun i => hA 12 i (by decide)
  have e0 : stoE a σ pd = stoE ad σ pd := by
    unfold stoE
    rw [hA 1 0 (by decide), hA 2 0 (by decide), hA 4 0 (by decide), hA 5 0 (by decide), hA 6 0 (by decide)]
  have e2 : lowE a σ = lowE ad σ := by
    unfold lowE
    rw [hA 3 0 (by decide)]
  have e8 : roomE a σ sc = roomE ad σ sc := funext fun i => by
    unfold roomE
    rw [f9, f10, f11]
  have e11 : plcE g a σ pl = plcE g ad σ pl := funext fun i => by
    unfold plcE
    rw [f12]
  have e12 : palE a σ sc = palE ad σ sc := funext fun i => by
    unfold palE rmR
    rw [f7, f8]
  unfold fC
  rw [e0, e2, e8, e11, e12, f7, f8, f12]
theorem fM_adE {g : Gg} {ad a : Ad} {σ : Sg} {pd : Int64} {th : Int32} {h : Wd} (hA : ∀ k i, 20 < k ∧ k < 44 → a k i = ad k i) : fM g a σ pd th h = fM g ad σ pd th h := by
  have e : objM a σ pd th = objM ad σ pd th := by
    unfold objM
    rw [hA 24 0 (by decide), hA 26 0 (by decide), hA 27 0 (by decide), hA 28 0 (by decide), hA 29 0 (by decide), hA 31 0 (by decide), hA 32 0 (by decide), hA 33 0 (by decide), hA 34 0 (by decide), hA 35 0 (by decide), hA 36 0 (by decide), hA 38 0 (by decide), hA 39 0 (by decide), hA 40 0 (by decide), hA 41 0 (by decide)]
  unfold fM
  rw [e]
theorem σI_4 : σI 4 = tfF 24 := by
  funext j
  show (if 0 ≤ j ∧ j < 24 then (10 : Int32) else 0) = if j < 24 then 10 else 0
  by_cases h : j < 24
  · rw [if_pos ⟨Nat.zero_le _, h⟩, if_pos h]
  · rw [if_neg (fun z => h z.2), if_neg h]
theorem σI_low : lowS σI = 10 := by decide +kernel
/-- the store as it is made -/
theorem fC_first {g : Gg} {ad : Ad} {x : va_E} : up2 (up2 (up2 (up2 (up2 (up2 (up2 (up2 nW 0 0 x) 1 0 (.inr (0, [.int 150, .int 0]))) 2 0 (.inr (5, [.ref (ad 3 0), .int 10]))) 3 0 (.inl (g.2 0, 24, .inl (tfF 24)))) 4 0 (.inl (g.2 3, 12, .inr (.inr (.inr (.inr (fun _ => none))))))) 5 0 (.inl (g.2 4, 6, .inr (.inr (.inr (.inr (fun _ => none))))))) 6 0 (.inl (g.2 2, 60, .inr (.inr (.inr (.inr (fun _ => none))))))) 0 0 (.inr (6, [.ref (ad 1 0), .ref (ad 2 0), .ref (ad 4 0), .ref (ad 5 0), .ref (ad 6 0), .int 0, .int 0, .int 0, .int 0, .int 0, .long 0])) = fC g ad σI 0 (fun _ _ => none) zS nW := by
  funext k i
  by_cases hi : i = 0
  · subst hi
    match k with
    | 0 => rfl
    | 1 => rfl
    | 2 =>
      show some (Sum.inr (5, [Value.ref (ad 3 0), Value.int 10])) = some (lowE ad σI)
      unfold lowE
      rw [σI_low]
    | 3 =>
      show some (Sum.inl (g.2 0, 24, Sum.inl (tfF 24))) = some (Sum.inl (g.2 0, 24, Sum.inl (σI 4)))
      rw [σI_4]
    | 4 => rfl
    | 5 => rfl
    | 6 => rfl
    | 7 => rfl
    | 8 => rfl
    | 9 => rfl
    | 10 => rfl
    | 11 => rfl
    | 12 => rfl
    | k + 13 => rfl
  · have hn : ∀ (f : Wd) (K : Nat) (y : va_E), up2 f K 0 y k i = f k i := fun f K y => up2_n f y (fun z => hi z.2)
    rw [hn, hn, hn, hn, hn, hn, hn, hn]
    match k with
    | 0 => exact (if_neg hi).symm
    | 1 => exact (if_neg hi).symm
    | 2 => exact (if_neg hi).symm
    | 3 => exact (if_neg hi).symm
    | 4 => exact (if_neg hi).symm
    | 5 => exact (if_neg hi).symm
    | 6 => exact (if_neg hi).symm
    | 7 => exact (if_neg (t := some (prodE σI i)) (Nat.not_lt_zero i)).symm
    | 8 => exact (if_neg (t := some (roomE ad σI zS i)) (Nat.not_lt_zero i)).symm
    | 9 => exact (if_neg (t := some (machE σI i)) (Nat.not_lt_zero i)).symm
    | 10 => exact (if_neg (t := some (remE σI zS i)) (Nat.not_lt_zero i)).symm
    | 11 => exact (if_neg (t := some (plcE g ad σI (fun _ _ => none) i)) (Nat.not_lt_zero i)).symm
    | 12 => exact (if_neg (t := some (palE ad σI zS i)) (Nat.not_lt_zero i)).symm
    | k + 13 => rfl
/-- the model before its constructor has run -/
theorem fMt_first {g : Gg} {h : Wd} (hh : ∀ k i, 20 ≤ k ∧ k < 44 → h k i = none) : up2 h 20 0 (.inr (7, newM)) = fMt g newM zS 0 h := by
  refine up2_to rfl (fun k i hk => ?_)
  unfold fMt
  by_cases h1 : k < 20 ∨ 44 ≤ k
  · rw [if_pos h1]
  · rw [if_neg h1, hh k i (by omega)]
    by_cases h2 : i = 0
    · rw [if_pos h2, if_neg (fun z => hk ⟨z, h2⟩), if_pos (Or.inr (Nat.zero_le _))]
    · rw [if_neg h2]
theorem hO_first {g : Gg} {o : Nat → Int64} {od : Nat → UInt64} : up2 (up2 nW 50 0 (outE g o)) 51 0 (outDE g od) = hO g o od := by
  funext k i
  unfold hO
  by_cases h1 : k = 51 ∧ i = 0
  · obtain ⟨rfl, rfl⟩ := h1
    rw [up2_s, if_neg (by omega), if_pos ⟨rfl, rfl⟩]
  · rw [up2_n _ _ h1]
    by_cases h2 : k = 50 ∧ i = 0
    · obtain ⟨rfl, rfl⟩ := h2
      rw [up2_s, if_pos ⟨rfl, rfl⟩]
    · rw [up2_n _ _ h2, if_neg h2, if_neg h1]
