/-! HOW THE LAW BEGINS: what the statement gives of the start -/
theorem start_prim {args : Array Value} {s : State} {ty : FieldType} (hne : ∀ C, ty ≠ .object C) (h : (Cond.arrayClass ty).before args s = true) : ∃ cA, ArrOfT s cA ty ∧ va_RA s cA ty := by
  obtain ⟨c, k, comp, h1, h2, h3⟩ := Cond.arrayClass_spec h
  refine ⟨c, fun n z => ⟨(fun q hq => by cases hq), k, h2, comp, h3⟩, ?_⟩
  cases ty with
  | object C => exact absurd rfl (hne C)
  | _ => exact h1
theorem start_obj {args : Array Value} {s : State} {C : String} (h : (Cond.arrayOver (.object C)).before args s = true) : ∃ cA, ArrOfT s cA (.object C) ∧ va_RA s cA (.object C) := by
  obtain ⟨comp, c, k, h1, h2, h3, h4, h5⟩ := Cond.arrayOver_spec h
  exact ⟨c, fun n z => ⟨(fun q hq => by cases hq), k, h3, comp, h4⟩, k, comp, h3, h4, h1, h5⟩
theorem start_str {args : Array Value} {s : State} {own tx C : String} {k : Nat} (h1 : (Cond.stringRef own k tx).before args s = true) (h2 : (Cond.exactly (.string own k) C).before args s = true) : ∃ sa, vk_R own k tx sa s := by
  obtain ⟨a, c, cell, k9, he, -⟩ := Cond.exactly_spec h2
  exact ⟨a, vk_R.of h1 he⟩
theorem wt1 {w : Cond} (i : Nat) (h : tables_1_1[i]? = some w) : w ∈ lw_tbl := tt1 w (List.mem_of_getElem? h)
theorem wt2 {w : Cond} (i : Nat) (h : tables_1_2[i]? = some w) : w ∈ lw_tbl := tt2 w (List.mem_of_getElem? h)
theorem wt3 {w : Cond} (i : Nat) (h : tables_1_3[i]? = some w) : w ∈ lw_tbl := tt3 w (List.mem_of_getElem? h)
set_option maxRecDepth 100000 in
theorem XS_start {args : Array Value} {s : State} (hts : ∀ w ∈ lw_tbl, w.before args s = true) (hgv : (Jvm.Cond.and given_1 narrow_1).before args s = true) : XS s := by
  have hs := flat_of_before _ hgv
  refine ⟨?_, ⟨va_Nw.of rfl (hts _ (wt1 102 rfl)), va_Nw.of rfl (hts _ (wt1 219 rfl)), va_Nw.of rfl (hts _ (wt1 199 rfl)), trivial⟩, va_Nw.of rfl (hts _ (wt1 25 rfl)), trivial, trivial, trivial, va_AO.of (hts _ (wt1 58 rfl)), va_AO.of (hts _ (wt1 54 rfl)), va_AO.of (hts _ (wt1 56 rfl)), va_Nw.of rfl (hts _ (wt1 104 rfl)), va_Nw.of rfl (hts _ (wt1 106 rfl)), va_Nw.of rfl (hts _ (wt1 108 rfl))⟩
  intro q hq
  simp only [strsX, List.mem_cons, List.not_mem_nil, or_false] at hq
  rcases hq with rfl | rfl | rfl | rfl | rfl | rfl | rfl | rfl | rfl | rfl | rfl | rfl
  · exact start_str (hts _ (wt1 141 rfl)) (hs (.exactly (.string RX6 244) "java/lang/String") (by decide +kernel))
  · exact start_str (hts _ (wt2 229 rfl)) (hs (.exactly (.string RX6 83) "java/lang/String") (by decide +kernel))
  · exact start_str (hts _ (wt3 23 rfl)) (hs (.exactly (.string RX6 91) "java/lang/String") (by decide +kernel))
  · exact start_str (hts _ (wt1 206 rfl)) (hs (.exactly (.string RX6 253) "java/lang/String") (by decide +kernel))
  · exact start_str (hts _ (wt1 226 rfl)) (hs (.exactly (.string RX6 114) "java/lang/String") (by decide +kernel))
  · exact start_str (hts _ (wt2 4 rfl)) (hs (.exactly (.string RX6 248) "java/lang/String") (by decide +kernel))
  · exact start_str (hts _ (wt2 21 rfl)) (hs (.exactly (.string RX6 251) "java/lang/String") (by decide +kernel))
  · exact start_str (hts _ (wt2 38 rfl)) (hs (.exactly (.string RX6 141) "java/lang/String") (by decide +kernel))
  · exact start_str (hts _ (wt2 79 rfl)) (hs (.exactly (.string RX6 255) "java/lang/String") (by decide +kernel))
  · exact start_str (hts _ (wt1 141 rfl)) (hs (.exactly (.string RX6 244) "java/lang/String") (by decide +kernel))
  · exact start_str (hts _ (wt1 141 rfl)) (hs (.exactly (.string RX6 244) "java/lang/String") (by decide +kernel))
  · exact start_str (hts _ (wt2 104 rfl)) (hs (.exactly (.string RX6 177) "java/lang/String") (by decide +kernel))
theorem ZS_start {args : Array Value} {s : State} (hts : ∀ w ∈ lw_tbl, w.before args s = true) (hgv : (Jvm.Cond.and given_1 narrow_1).before args s = true) : ZS s.heap.size s s.heap := by
  have hs := flat_of_before _ hgv
  have hA : ∀ a : Nat, a < s.heap.size → ¬ s.heap.size ≤ a := fun a h1 h2 => by omega
  exact ⟨vx_Zqof (hts _ (wt1 127 rfl)) (hts _ (wt1 5 rfl)) (hs (.isRef (.static Bundle.tN "UNASSIGNED_STACK" Bundle.steD)) (by decide +kernel)) hA, vx_Zqof (hts _ (wt1 129 rfl)) (hts _ (wt1 5 rfl)) (hs (.isRef (.static Bundle.tN "SUPPRESSED_SENTINEL" Bundle.listD)) (by decide +kernel)) hA⟩
theorem KI_start {args : Array Value} {s : State} (hts : ∀ w ∈ lw_tbl, w.before args s = true) (hgv : (Jvm.Cond.and given_1 narrow_1).before args s = true) : ∃ g : Gg, KI g s.heap.size s := by
  have hA : ∀ w ∈ allW, w.before args s = true := fun w h => hts w (allT w h)
  obtain ⟨c0, i0, k0⟩ := u_known (C := RX0) (T := TX0) (N := 2) (n := 2) hA inX0 (hA _ wd_it_RX0)
  obtain ⟨c1, i1, k1⟩ := u_known (C := RX1) (T := TX1) (N := 5) (n := 5) hA inX1 (hA _ wd_it_RX1)
  obtain ⟨c2, i2, k2⟩ := u_known (C := RX2) (T := TX2) (N := 6) (n := 6) hA inX2 (hA _ wd_it_RX2)
  obtain ⟨c3, i3, k3⟩ := u_known (C := RX3) (T := TX3) (N := 5) (n := 5) hA inX3 (hA _ wd_it_RX3)
  obtain ⟨c4, i4, k4⟩ := u_known (C := RX4) (T := TX4) (N := 11) (n := 11) hA inX4 (hA _ wd_it_RX4)
  obtain ⟨c5, i5, k5⟩ := u_known (C := RX5) (T := TX5) (N := 2) (n := 2) hA inX5 (hA _ wd_it_RX5)
  obtain ⟨c6, i6, k6⟩ := u_known (C := RX6) (T := TX6) (N := 11) (n := 11) hA inX6 (hA _ wd_it_RX6)
  obtain ⟨a0, q0⟩ := start_prim (ty := .int) (fun C h => by cases h) (hA _ wd_ac_int)
  obtain ⟨a2, q2⟩ := start_obj (C := RX2) (hts _ (wt1 58 rfl))
  obtain ⟨a3, q3⟩ := start_obj (C := RX3) (hts _ (wt1 54 rfl))
  obtain ⟨a4, q4⟩ := start_obj (C := RX4) (hts _ (wt1 56 rfl))
  refine ⟨((fun k => match k with | 0 => c0 | 1 => c1 | 2 => c2 | 3 => c3 | 4 => c4 | 5 => c5 | _ => c6, fun k => match k with | 0 => i0 | 1 => i1 | 2 => i2 | 3 => i3 | 4 => i4 | 5 => i5 | _ => i6), fun k => match k with | 0 => a0 | 1 => a0 | 2 => a2 | 3 => a3 | 4 => a4 | _ => a0), ⟨?_, ?_⟩, ZS_start hts hgv, XS_start hts hgv, Nat.le_refl _⟩
  · intro k q hq
    match k, hq with
    | 0, hq => cases hq; exact k0
    | 1, hq => cases hq; exact k1
    | 2, hq => cases hq; exact k2
    | 3, hq => cases hq; exact k3
    | 4, hq => cases hq; exact k4
    | 5, hq => cases hq; exact k5
    | 6, hq => cases hq; exact k6
    | k + 7, hq => cases hq
  · intro k q hq
    match k, hq with
    | 0, hq => cases hq; exact q0
    | 1, hq => cases hq; exact q0
    | 2, hq => cases hq; exact q2
    | 3, hq => cases hq; exact q3
    | 4, hq => cases hq; exact q4
    | 5, hq => cases hq; exact q0
    | 6, hq => cases hq; exact q0
    | k + 7, hq => cases hq
abbrev nW : Wd := fun _ _ => none
theorem σI_4 : σI 4 = tfF 24 := by
  funext j
  show (if 0 ≤ j ∧ j < 24 then (10 : Int32) else 0) = if j < 24 then 10 else 0
  by_cases h : j < 24
  · rw [if_pos ⟨Nat.zero_le _, h⟩, if_pos h]
  · rw [if_neg (fun z => h z.2), if_neg h]
theorem σI_low : lowS σI = 10 := by decide +kernel
/-- the store as it is made -/
theorem fC_first {g : Gg} {ad : Ad} {x : va_E} : up2 (up2 (up2 (up2 (up2 (up2 (up2 (up2 nW 0 0 x) 1 0 (.inr (0, [.int 150, .int 0]))) 2 0 (.inr (5, [.ref (ad 3 0), .int 10]))) 3 0 (.inl (g.2 0, 24, .inl (tfF 24)))) 4 0 (.inl (g.2 3, 12, .inr (.inr (.inr (.inr (fun _ => none))))))) 5 0 (.inl (g.2 4, 6, .inr (.inr (.inr (.inr (fun _ => none))))))) 6 0 (.inl (g.2 2, 60, .inr (.inr (.inr (.inr (fun _ => none))))))) 0 0 (.inr (6, [.ref (ad 1 0), .ref (ad 2 0), .ref (ad 4 0), .ref (ad 5 0), .ref (ad 6 0), .int 0, .int 0, .int 0, .int 0, .int 0, .long 0])) = fC g ad σI 0 (fun _ _ => none) zS nW := by
  funext k i
  by_cases hi : i = 0
  · subst hi
    match k with
    | 0 => rfl
    | 1 => rfl
    | 2 =>
      show some (Sum.inr (5, [Value.ref (ad 3 0), Value.int 10])) = some (lowE ad σI)
      unfold lowE
      rw [σI_low]
    | 3 =>
      show some (Sum.inl (g.2 0, 24, Sum.inl (tfF 24))) = some (Sum.inl (g.2 0, 24, Sum.inl (σI 4)))
      rw [σI_4]
    | 4 => rfl
    | 5 => rfl
    | 6 => rfl
    | 7 => rfl
    | 8 => rfl
    | 9 => rfl
    | 10 => rfl
    | 11 => rfl
    | 12 => rfl
    | k + 13 => rfl
  · have hn : ∀ (f : Wd) (K : Nat) (y : va_E), up2 f K 0 y k i = f k i := fun f K y => up2_n f y (fun z => hi z.2)
    rw [hn, hn, hn, hn, hn, hn, hn, hn]
    match k with
    | 0 => exact (if_neg hi).symm
    | 1 => exact (if_neg hi).symm
    | 2 => exact (if_neg hi).symm
    | 3 => exact (if_neg hi).symm
    | 4 => exact (if_neg hi).symm
    | 5 => exact (if_neg hi).symm
    | 6 => exact (if_neg hi).symm
    | 7 => exact (if_neg (t := some (prodE σI i)) (Nat.not_lt_zero i)).symm
    | 8 => exact (if_neg (t := some (roomE ad σI zS i)) (Nat.not_lt_zero i)).symm
    | 9 => exact (if_neg (t := some (machE σI i)) (Nat.not_lt_zero i)).symm
    | 10 => exact (if_neg (t := some (remE σI zS i)) (Nat.not_lt_zero i)).symm
    | 11 => exact (if_neg (t := some (plcE g ad σI (fun _ _ => none) i)) (Nat.not_lt_zero i)).symm
    | 12 => exact (if_neg (t := some (palE ad σI zS i)) (Nat.not_lt_zero i)).symm
    | k + 13 => rfl
theorem hL_none {g : Gg} : hL g none none none none none = nW := by
  funext k i
  unfold hL
  by_cases hi : i = 0
  · rw [if_pos hi]
    simp only [Option.map_none]
    split
    · rfl
    · split
      · rfl
      · split
        · rfl
        · split
          · rfl
          · split <;> rfl
  · rw [if_neg hi]
theorem WL_first {g : Gg} {B0 : Nat} {s : State} {H : Heap} {locs : List Loc} {a1 : Ad} (hI : WI g a1 B0 (fC g a1 σI 0 (fun _ _ => none) zS nW) s H locs) : WL g B0 (a1 0 0) (a1 50 0) (a1 51 0) (a1 52 0) (a1 53 0) (a1 54 0) s H locs σI 0 none none none none none := ⟨a1, fun _ _ => none, zS, hI.cast (by rw [hL_none]), ⟨Iv_I, OkT_I, Bn_I⟩, rfl, rfl, rfl, rfl, rfl, rfl⟩
theorem St0_I {fp fr : Nat → Int32} : St0 σI 0 fp fr 0 0 := by
  refine ⟨rfl, rfl, rfl, rfl, ⟨fun r hr => absurd hr (Nat.not_lt_zero _), fun r hr => absurd hr (Nat.not_lt_zero _), ⟨by decide, by decide⟩, fun j hj => ?_, fun i k hi => absurd hi (Nat.not_lt_zero _)⟩, fun a ha => absurd ha (Nat.not_lt_zero _), fun r hr => absurd hr (Nat.not_lt_zero _)⟩
  have e : σI 4 j = 10 := by
    rw [σI_4]
    exact if_pos hj
  rw [e]
  exact ⟨by decide, by decide⟩
theorem Lw_St0 {σ : Sg} {pd : Int64} {fp fr : Nat → Int32} {P R : Nat} (h : St0 σ pd fp fr P R) : Lw σ pd fp fr P R 0 0 := ⟨h.1, h.2.1, Nat.le_of_eq h.2.2.1, h.2.2.2.1, h.2.2.2.2.1, h.2.2.2.2.2.1, h.2.2.2.2.2.2⟩
