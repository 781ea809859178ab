/-! THE LAW'S SMALL HELPERS: below, cell, go; methods that read the script -/
theorem and_nn {a b : Int32} (hb : 0 ≤ b) : 0 ≤ a &&& b := by
  rw [Int32.le_iff_toInt_le] at hb ⊢
  have e : ∀ x : Int32, (0 : Int32).toInt ≤ x.toInt ↔ x.toBitVec.msb = false := fun x => by
    rw [BitVec.msb_eq_toInt]
    show (0 : Int) ≤ x.toBitVec.toInt ↔ _
    rw [decide_eq_false_iff_not]
    omega
  rw [e] at hb ⊢
  rw [Int32.toBitVec_and, BitVec.msb_and, hb, Bool.and_false]
theorem ix4 (k i : Nat) : (4 : Int32) * nI k + nI i = nI (4 * k + i) := by
  rw [show (4 : Int32) * nI k = nI (4 * k) from pk_mul 4 k, nI_p]
set_option maxHeartbeats 4000000 in
set_option maxRecDepth 100000 in
theorem tL_below (l : Launch) (g : Gg) (B0 : Nat) (ad : Ad) (f : Wd) (v : Int32) (d : Nat) (hd : 0 < d) (hd2 : d < 2 ^ 31) : MM l g B0 yL_below (wsM yL_below cL_below 2 (some .int)) ({ frames := 0, cells := 0, slots := 0, locals := 0 } : Room) [.int v, .int (nI d)] ad f (fun x a w => (∃ j : Nat, j < d ∧ x = some (.int (nI j))) ∧ a = ad ∧ w = f) noX 0 0 := by
  refine MM.start (by decide) (Nat.le_of_ble_eq_true rfl) ?_
  intro hl9 p e s m below meth c ls hC hno hI hl0
  have hx := hC.1.1
  have hb := hC.1.2.1
  have hts := hC.1.2.2.2.2
  have hl : lv_has ls 2 [(0, .int v), (1, .int (nI d))] := hl0
  refine lv_iload_n hx hb dL_below_0 rfl (lv_at hl 0 rfl) ?_
  refine lv_ldc hx hb hC.1.2.2.2.1 (hts _ wd_k_L_7) dL_below_1 ?_
  refine lv_iand hx hb dL_below_3 ?_
  refine lv_iload_n hx hb dL_below_4 rfl (lv_at hl 1 rfl) ?_
  refine lv_irem hx hb dL_below_5 (fun z => ?_) ?_
  · have := (nI_toInt hd2).symm.trans (congrArg Int32.toInt z)
    have z0 : (0 : Int32).toInt = 0 := rfl
    omega
  obtain ⟨j, hj, ej⟩ := nI_of (Int32.not_lt.mpr (and_nn (a := v) (b := 2147483647) (by decide)))
  rw [ej, pk_rem hj hd hd2]
  exact e_int hC hI ⟨⟨j % d, Nat.mod_lt _ hd, rfl⟩, rfl, rfl⟩ (Nat.le_of_ble_eq_true rfl) (Nat.le_of_ble_eq_true rfl) dL_below_6
set_option maxHeartbeats 4000000 in
set_option maxRecDepth 100000 in
theorem tL_go (l : Launch) (g : Gg) (B0 : Nat) (ad : Ad) (f : Wd) (fn : Nat → Int32) (a b : Nat) (ha : a < 12) (hb9 : b < 12) (he : f 50 0 = some (.inl (g.2 0, 48, .inl fn))) (hgo : a = b ∨ (¬ fn (4 * a + 3) = 3 ∧ ¬ fn (4 * b + 3) = 3 ∧ ¬ fn (4 * a + 3) + fn (4 * b + 3) = 3)) : MM l g B0 yL_go (wsM yL_go cL_go 5 (some .boolean)) ({ frames := 0, cells := 0, slots := 0, locals := 0 } : Room) [.ref (ad 50 0), .int (nI a), .int (nI b)] ad f (dI 1 ad f) noX 0 0 := by
  refine MM.start (by decide) (Nat.le_of_ble_eq_true rfl) ?_
  intro hl9 p e s m below meth c ls hC hno hI hl0
  have hx := hC.1.1
  have hb := hC.1.2.1
  have hts := hC.1.2.2.2.2
  have hl : lv_has ls 5 [(0, .ref (ad 50 0)), (1, .int (nI a)), (2, .int (nI b))] := hl0
  have fin1 : ∀ ls : Array Slot, W p l e ({ frames := 0, cells := 0, slots := 0, locals := 0 } : Room) s m ([.ref (ad 50 0), .int (nI a), .int (nI b)] : List Value).toArray below meth c s.heap [] 0 0 (vx_MQ below (QI g B0 (dI 1 ad f)) (XI g B0 noX) ([.ref (ad 50 0), .int (nI a), .int (nI b)] : List Value).toArray s 0 0 (fun q => B0 ≤ q)) (F0 m 57 ls []) := fun ls => by
    refine lv_iconst (v := 1) hx hb dL_go_57 (by decide) ?_
    refine lv_goto (tgt := 62) hx hb dL_go_58 (by decide) ?_
    exact e_bool hC hI (by decide) ⟨rfl, rfl, rfl⟩ (Nat.le_of_ble_eq_true rfl) (Nat.le_of_ble_eq_true rfl) dL_go_62
  refine lv_aload_n hx hb dL_go_0 rfl (lv_at hl 0 rfl) ?_
  refine lv_iconst (v := 4) hx hb dL_go_1 (by decide) ?_
  refine lv_iload_n hx hb dL_go_2 rfl (lv_at hl 1 rfl) ?_
  refine lv_imul hx hb dL_go_3 ?_
  refine lv_iconst (v := 3) hx hb dL_go_4 (by decide) ?_
  refine lv_iadd hx hb dL_go_5 ?_
  refine r_iald hC hI he (j := 4 * a + 3) (ix4 a 3) (by omega) (by decide) dL_go_6 ?_
  refine lv_istore_n (lv' := [(3, .int (fn (4 * a + 3))), (0, .ref (ad 50 0)), (1, .int (nI a)), (2, .int (nI b))]) hx hb dL_go_7 rfl hl (by decide) rfl (fun ls hl => ?_)
  refine lv_aload_n hx hb dL_go_8 rfl (lv_at hl 1 rfl) ?_
  refine lv_iconst (v := 4) hx hb dL_go_9 (by decide) ?_
  refine lv_iload_n hx hb dL_go_10 rfl (lv_at hl 3 rfl) ?_
  refine lv_imul hx hb dL_go_11 ?_
  refine lv_iconst (v := 3) hx hb dL_go_12 (by decide) ?_
  refine lv_iadd hx hb dL_go_13 ?_
  refine r_iald hC hI he (j := 4 * b + 3) (ix4 b 3) (by omega) (by decide) dL_go_14 ?_
  refine lv_istore (lv' := [(4, .int (fn (4 * b + 3))), (3, .int (fn (4 * a + 3))), (0, .ref (ad 50 0)), (1, .int (nI a)), (2, .int (nI b))]) hx hb dL_go_15 hl (by decide) rfl (fun ls hl => ?_)
  refine lv_iload_n hx hb dL_go_17 rfl (lv_at hl 3 rfl) ?_
  refine lv_iload_n hx hb dL_go_18 rfl (lv_at hl 4 rfl) ?_
  refine lv_icmp_ne (tgt := 24) hx hb dL_go_19 (by decide) (fun cn => ?_) (fun _ => ?_)
  · have hgo := hgo.resolve_left (fun z => cn (by rw [z]))
    refine lv_iload_n hx hb dL_go_24 rfl (lv_at hl 1 rfl) ?_
    refine lv_iconst (v := 3) hx hb dL_go_25 (by decide) ?_
    refine lv_icmp_eq (tgt := 61) hx hb dL_go_26 (by decide) (fun z => absurd z hgo.1) (fun _ => ?_)
    refine lv_iload hx hb dL_go_29 (lv_at hl 0 rfl) ?_
    refine lv_iconst (v := 3) hx hb dL_go_31 (by decide) ?_
    refine lv_icmp_eq (tgt := 61) hx hb dL_go_32 (by decide) (fun z => absurd z hgo.2.1) (fun _ => ?_)
    refine lv_iload_n hx hb dL_go_35 rfl (lv_at hl 1 rfl) ?_
    refine lv_iconst (v := 1) hx hb dL_go_36 (by decide) ?_
    have J46 : W p l e ({ frames := 0, cells := 0, slots := 0, locals := 0 } : Room) s m ([.ref (ad 50 0), .int (nI a), .int (nI b)] : List Value).toArray below meth c s.heap [] 0 0 (vx_MQ below (QI g B0 (dI 1 ad f)) (XI g B0 noX) ([.ref (ad 50 0), .int (nI a), .int (nI b)] : List Value).toArray s 0 0 (fun q => B0 ≤ q)) (F0 m 46 ls []) := by
      refine lv_iload_n hx hb dL_go_46 rfl (lv_at hl 1 rfl) ?_
      refine lv_iconst (v := 2) hx hb dL_go_47 (by decide) ?_
      refine lv_icmp_ne (tgt := 57) hx hb dL_go_48 (by decide) (fun _ => fin1 ls) (fun c1 => ?_)
      refine lv_iload hx hb dL_go_51 (lv_at hl 0 rfl) ?_
      refine lv_iconst (v := 1) hx hb dL_go_53 (by decide) ?_
      refine lv_icmp_eq (tgt := 61) hx hb dL_go_54 (by decide) (fun c2 => absurd (by rw [c1, c2]; rfl) hgo.2.2) (fun _ => fin1 ls)
    refine lv_icmp_ne (tgt := 46) hx hb dL_go_37 (by decide) (fun _ => J46) (fun c1 => ?_)
    refine lv_iload hx hb dL_go_40 (lv_at hl 0 rfl) ?_
    refine lv_iconst (v := 2) hx hb dL_go_42 (by decide) ?_
    exact lv_icmp_eq (tgt := 61) hx hb dL_go_43 (by decide) (fun c2 => absurd (by rw [c1, c2]; rfl) hgo.2.2) (fun _ => J46)
  · refine lv_iconst (v := 1) hx hb dL_go_22 (by decide) ?_
    exact e_bool hC hI (by decide) ⟨rfl, rfl, rfl⟩ (Nat.le_of_ble_eq_true rfl) (Nat.le_of_ble_eq_true rfl) dL_go_23
/-! methods that get the script -/
def PcX (g : Gg) (B0 b L : Nat) (xs : Nat → Int32) (ad : Ad) (f : Wd) (As : List Value) : Array Value → State → Prop := va_Pc As (fun U => (PI g ad f U.heap ∧ KI g B0 U) ∧ va_X b L xs U U.heap)
theorem PcX_blind {g : Gg} {B0 b L : Nat} {xs : Nat → Int32} {ad : Ad} {f : Wd} {As : List Value} : FrameBlind (PcX g B0 b L xs ad f As) := fun a U j mk h => ⟨h.1, ⟨h.2.1.1, h.2.1.2.calling j mk a⟩, va_X.moved (u := U) (U := U.calling j mk a) (Vm.Alike.refl U.vm) h.2.2⟩
def MMX (l : Launch) (g : Gg) (B0 b L : Nat) (xs : Nat → Int32) (y : MethodName) (ws : List Cond) (rm : Room) (As : List Value) (ad : Ad) (f : Wd) (Rr : Option Value → Ad → Wd → Prop) (mc ms : Nat) : Prop :=
  l.stackTraces = false → DI B0 ad f → vx_Met l y ws rm (PcX g B0 b L xs ad f As) (QI g B0 Rr) (XI g B0 noX) mc ms (fun q => B0 ≤ q)
section HELPX
variable {p : Program} {l : Launch} {e : Env} {R : Room} {s : State} {m : MethodId} {args : Array Value} {below : List Frame} {meth : Method} {c : Code} {H : Heap} {locs : List Loc} {cells slots : Nat} {Q : State → Prop}
variable {g : Gg} {B0 : Nat} {ad : Ad} {f : Wd} {own : String} {cc : ByteArray} {nL : Nat} {ret : Option FieldType}
variable {pc : Nat} {ls : Array Slot} {rest st0 : List Value} {b L : Nat} {xs : Nat → Int32}
theorem MMX.start {y : MethodName} {maxL mc ms : Nat} {rm : Room} {As : List Value} {Rr : Option Value → Ad → Wd → Prop} (hy : plainName y.cls = true) (hA : (lg_sl As).length ≤ maxL)
    (body : l.stackTraces = false → ∀ (p : Program) (e : Env) (s : State) (m : MethodId) (below : List Frame) (meth : Method) (c : Code) (ls : Array Slot), Cx p s m As.toArray meth c y.cls cc maxL ret g B0 → va_X b L xs s s.heap → WI g ad B0 f s s.heap [] → lv_has ls maxL (lv_args 0 As) →
      W p l e rm s m As.toArray below meth c s.heap [] 0 0 (vx_MQ below (QI g B0 Rr) (XI g B0 noX) As.toArray s mc ms (fun q => B0 ≤ q)) (F0 m 0 ls [])) : MMX l g B0 b L xs y (wsM y cc maxL ret) rm As ad f Rr mc ms := by
  intro hl hD
  refine vx_ofW (cc := cc) (maxL := maxL) (ret := ret) hy rfl ?_
  intro p e s m args below meth c s₁ B hml hno hv
  obtain ⟨rfl, ⟨hP, hKI⟩, hX⟩ := hv
  have hts := atoms_spec (ws := wsM y cc maxL ret) B.pre
  have hown : s.vm.findClass y.cls = some m.cls := findClass_of_methodNamed B.named
  have hlv := lv_entry As (n := maxL) hA
  rw [lg_entry_eq]
  generalize (lg_sl As ++ List.replicate (maxL - (lg_sl As).length) Slot.unset).toArray = ls at hlv ⊢
  exact body hl p e s m below meth c ls ⟨⟨B.exec, B.bytes, hml, hown, fun w h => hts w (List.mem_cons_of_mem _ h)⟩, B.returns, B.notSynchronized, hKI⟩ hX ⟨hP, hD, va_S.rf⟩ hlv
theorem r_callX {mc ms n index : Nat} {y : MethodName} {bytes : ByteArray} {maxL : Nat} {rt : Option FieldType} {rm : Room} {As : List Value} {Rr : Option Value → Ad → Wd → Prop} (hl : l.stackTraces = false) (hC : Cx p s m args meth c own cc nL ret g B0) (hX : va_X b L xs s s.heap) (hbB : b < B0) (hI : WI g ad B0 f s H locs) (hls : ls.size = nL) (hM : MMX l g B0 b L xs y (wsM y bytes maxL rt) rm As ad f Rr mc ms)
    (cw : CallB R s args own index y bytes maxL rt (wsM y bytes maxL rt) rm mc ms n ∧ (Cond.static y).before args s = true) (hn : As.length = n) (hst : st0 = As.reverse ++ rest) (hW : (rest.map fun v => v.category).sum ≤ 8) (hdg : decode cc pc = .ok (.invokestatic index, 3)) (hf : cells + mc ≤ R.cells ∧ slots + ms ≤ R.slots)
    (kont : ∀ (v : Option Value) (ad' : Ad) (f' : Wd) (H1 : Heap) (locs1 : List Loc), Rr v ad' f' → WI g ad' B0 f' s H1 locs1 → W p l e R s m args below meth c H1 locs1 (cells + mc) (slots + ms) Q (F0 m (pc + 3) ls (v.toList ++ rest))) : W p l e R s m args below meth c H locs cells slots Q (F0 m pc ls st0) := by
  subst hst
  have hbl : b < s.heap.size := Nat.lt_of_lt_of_le hbB hC.2.2.2.2.2.2
  refine rn_W hI (vx_runS (As := As) (rest := rest) hC.1 (hM hl hI.2.1) cw ⟨PcX_blind, fun U hU hW => ⟨rfl, ⟨by rw [hU]; exact hI.1, hC.2.2.2.go hI.2.2 hU hW⟩, by rw [hU]; exact (hX.kept (hI.2.2.2.1 b hbl (Nat.not_le.mpr hbB))).moved hW.alike⟩⟩ rfl hn hls rfl (lv_room hW) hdg hf) kont (fun _ _ _ _ _ _ _ h => h.elim)
end HELPX
set_option maxHeartbeats 4000000 in
set_option maxRecDepth 100000 in
theorem tL_cell (l : Launch) (g : Gg) (B0 b L : Nat) (xs : Nat → Int32) (hbB : b < B0) (hL : L ≤ 260) (ad : Ad) (f : Wd) (k : Nat) (hk : k < 1000) : MMX l g B0 b L xs yL_cell (wsM yL_cell cL_cell 2 (some .int)) ({ frames := 0, cells := 0, slots := 0, locals := 0 } : Room) [.ref b, .int (nI k)] ad f (fun x a w => (∃ z : Int32, x = some (.int z)) ∧ a = ad ∧ w = f) 0 0 := by
  refine MMX.start (by decide) (Nat.le_of_ble_eq_true rfl) ?_
  intro hl9 p e s m below meth c ls hC hX hI hl0
  have hx := hC.1.1
  have hb := hC.1.2.1
  have hts := hC.1.2.2.2.2
  have hbA : ¬ B0 ≤ b := Nat.not_le.mpr hbB
  have hbl : b < s.heap.size := Nat.lt_of_lt_of_le hbB hC.2.2.2.2.2.2
  have hl : lv_has ls 2 [(0, .ref b), (1, .int (nI k))] := hl0
  refine lv_iload_n hx hb dL_cell_0 rfl (lv_at hl 1 rfl) ?_
  refine lv_aload_n hx hb dL_cell_1 rfl (lv_at hl 0 rfl) ?_
  refine va_slen (A := fun q => B0 ≤ q) hx hb hX hbl hbA hI.2.2 dL_cell_2 ?_
  refine lv_icmp_ge (tgt := 12) hx hb dL_cell_3 (by decide) (fun cg => ?_) (fun cg => ?_)
  · refine lv_ldc hx hb hC.1.2.2.2.1 (hts _ wd_k_L_8) dL_cell_12 ?_
    refine lv_iload_n hx hb dL_cell_14 rfl (lv_at hl 1 rfl) ?_
    refine lv_iconst (v := 3) hx hb dL_cell_15 (by decide) ?_
    refine lv_iadd hx hb dL_cell_16 ?_
    refine lv_imul hx hb dL_cell_17 ?_
    exact e_int hC hI ⟨⟨_, rfl⟩, rfl, rfl⟩ (Nat.le_of_ble_eq_true rfl) (Nat.le_of_ble_eq_true rfl) dL_cell_18
  · have hkL : k < L := ge_F (x := Int32.ofNat L) (n := L) rfl (by omega) (by omega) cg
    refine lv_aload_n hx hb dL_cell_6 rfl (lv_at hl 0 rfl) ?_
    refine lv_iload_n hx hb dL_cell_7 rfl (lv_at hl 1 rfl) ?_
    refine va_sld (A := fun q => B0 ≤ q) hx hb hX hbl hbA hI.2.2 (vp_in_nI hkL (by omega)) dL_cell_8 ?_
    refine lv_goto (tgt := 18) hx hb dL_cell_9 (by decide) ?_
    exact e_int hC hI ⟨⟨_, rfl⟩, rfl, rfl⟩ (Nat.le_of_ble_eq_true rfl) (Nat.le_of_ble_eq_true rfl) dL_cell_18
