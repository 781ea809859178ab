/-! THE CLASS, its leaves: over any world f in which their cells stand -/
theorem up2_mid (f : Wd) {K J K2 J2 : Nat} (e0 e2 e1 : va_E) (h : ¬ (K2 = K ∧ J2 = J)) : up2 (up2 (up2 f K J e0) K2 J2 e2) K J e1 = up2 (up2 f K J e1) K2 J2 e2 := by
  funext k i
  by_cases hk : k = K ∧ i = J
  · obtain ⟨rfl, rfl⟩ := hk
    rw [up2_s, up2_n _ _ (fun z => h ⟨z.1.symm, z.2.symm⟩), up2_s]
  · by_cases h2 : k = K2 ∧ i = J2
    · obtain ⟨rfl, rfl⟩ := h2
      rw [up2_n _ _ hk, up2_s, up2_s]
    · rw [up2_n _ _ hk, up2_n _ _ h2, up2_n _ _ h2, up2_n _ _ hk, up2_n _ _ hk]
theorem sw_n {x k : Int32} {z : Int} (hk : k.toInt = z) (h : ¬ x = k) : ¬ x.toInt = z := fun e => h (Int32.toInt_inj.mp (e.trans hk.symm))
section TOPO
variable {p : Program} {l : Launch} {e : Env} {R : Room} {s : State} {m : MethodId} {args : Array Value} {below : List Frame} {meth : Method} {c : Code} {H : Heap} {locs : List Loc} {cells slots : Nat} {Q : State → Prop} {pc : Nat} {ls : Array Slot} {rest : List Value}
theorem lv_topo {o : Option Nat} (kN : o = none → W p l e R s m args below meth c H locs cells slots Q (F0 m pc ls (.null :: rest))) (kS : ∀ q, o = some q → W p l e R s m args below meth c H locs cells slots Q (F0 m pc ls (.ref q :: rest))) : W p l e R s m args below meth c H locs cells slots Q (F0 m pc ls (va_rf o :: rest)) := by
  cases o with
  | none => exact kN rfl
  | some q => exact kS q rfl
end TOPO
theorem xor_nn {a b : Int32} (ha : 0 ≤ a) (hb : 0 ≤ b) : 0 ≤ a ^^^ b := by
  rw [Int32.le_iff_toInt_le] at ha hb ⊢
  have e : ∀ x : Int32, (0 : Int32).toInt ≤ x.toInt ↔ x.toBitVec.msb = false := fun x => by
    rw [BitVec.msb_eq_toInt]
    show (0 : Int) ≤ x.toBitVec.toInt ↔ _
    rw [decide_eq_false_iff_not]
    omega
  rw [e] at ha hb ⊢
  rw [Int32.toBitVec_xor, BitVec.msb_xor, ha, hb]
  rfl
def outA (b s hr : Int32) : Int32 := if 8 ≤ hr ∧ hr ≤ 20 then b + s * (6 - ab (hr - 14)) / 6 else b
theorem outA_S (σ : Sg) (hr : Int32) : outA (σ 2 0) (σ 3 0) hr = outS σ hr := by
  unfold outA outS
  by_cases h : 8 ≤ hr ∧ hr ≤ 20
  · rw [if_pos h, if_pos h]
  · rw [if_neg h, if_neg h, Int32.add_zero]
def distS (lo hi t : Int32) : Int32 := if t < lo then lo - t else if hi < t then t - hi else 0
abbrev disP (a b : Int32) : Prop := a = 1 ∧ b = 2
abbrev gwP (n1 n2 a b : Int32) : Prop := n1 = n2 ∨ (¬ a = 3 ∧ ¬ b = 3 ∧ ¬ disP a b ∧ ¬ disP b a)
/-- the machine at the hour's beginning -/
def mSt (st hw ab : Int32) (cold : Prop) [Decidable cold] : Int32 := if st = 2 then (if 0 < hw - 1 then 2 else 0) else if cold then (if ab < -25 then 0 else 1) else if 5 < ab then 1 else if ab < -5 then 0 else st
def mHl (st hw : Int32) : Int32 := if st = 2 then hw - 1 else hw
def mFr (st hw fr : Int32) : Int32 := if st = 2 then (if 0 < hw - 1 then fr else 0) else fr
def mWm (po st fr : Int32) : Int32 := if st = 1 then -po * (100 - fr) / 1000 else if st = 2 then 8 else 0
theorem nI_nn {t : Nat} (ht : t < 2 ^ 31) : (0 : Int32) ≤ nI t := (nI_leI (a := 0) (by omega) ht).mpr (Nat.zero_le t)
theorem rem24 {t : Nat} (ht : t < 2 ^ 31) : nI t - nI t / 24 * 24 = nI (t % 24) := by
  rw [← pk_rem (a := t) (d := 24) ht (by decide) (by decide)]
  rfl
def fmP (t : Nat) (args : Array Value) (_ : State) : Prop := args = #[.int (nI t), .int 24] ∧ t < 2 ^ 31
theorem fm_law (l : Launch) (t : Nat) : XT.Law l yJ9_floorMod_7cf53 2 2 0 0 cJ9_floorMod_7cf53 3 (some .int) [] (fmP t) (XT.PureE (some (.int (nI (t % 24))))) [] 0 0 := by
  refine XT.Law.of_walk (JP.mathPlain rfl (by decide +kernel)) (by decide +kernel) (by decide +kernel) (by decide) (fun _ _ h => by rw [h.1]; rfl) (fun _ _ _ _ _ h => h) XT.PureE.mv ?_
  intro p e s m args below meth c s₁ X0 hexec hbytes hml hret hlk hnm hown hh0 W hP
  obtain ⟨rfl, ht⟩ := hP
  have hnn : ¬ (nI t ^^^ 24) < 0 := Int32.not_lt.mpr (xor_nn (nI_nn ht) (by decide))
  have c1 : Steps p.tables e below (s₁.setTop (entryFrame m #[.int (nI t), .int 24] 3)) (s₁.setTop (mkF m 0 #[.val (.int (nI t)), .val (.int 24), .unset] [])) := XT.entry rfl
  have c2 : Steps p.tables e below (s₁.setTop (entryFrame m #[.int (nI t), .int 24] 3)) (s₁.setTop (mkF m 19 #[.val (.int (nI t)), .val (.int 24), .val (.int (nI t - nI t / 24 * 24))] [.int (nI t - nI t / 24 * 24)])) := c1.trans (by
    refine XS.iloadN X0.here hexec rfl (Jvm.hb hbytes dJ9_floorMod_7cf53_0) rfl ?_
    refine XS.iloadN X0.here hexec rfl (Jvm.hb hbytes dJ9_floorMod_7cf53_1) rfl ?_
    refine XS.irem X0.here hexec rfl (Jvm.hb hbytes dJ9_floorMod_7cf53_2) rfl (by decide) ?_
    refine XS.istoreN X0.here hexec rfl (Jvm.hb hbytes dJ9_floorMod_7cf53_3) rfl rfl ?_
    refine XS.iloadN X0.here hexec rfl (Jvm.hb hbytes dJ9_floorMod_7cf53_4) rfl ?_
    refine XS.iloadN X0.here hexec rfl (Jvm.hb hbytes dJ9_floorMod_7cf53_5) rfl ?_
    refine XT.ixor X0.here hexec rfl (Jvm.hb hbytes dJ9_floorMod_7cf53_6) rfl ?_
    refine XS.ifYes X0.here hexec rfl (pc0 := 7) rfl (Jvm.hb hbytes dJ9_floorMod_7cf53_7) rfl (XT.i0_ge_t hnn) (by decide) rfl ?_
    refine XS.iloadN X0.here hexec rfl (Jvm.hb hbytes dJ9_floorMod_7cf53_18) rfl ?_
    exact Steps.refl _)
  exact ⟨s₁, some (.int (nI t - nI t / 24 * 24)), _, _, _, X0, rfl, rfl, rfl, (fun h => by cases h), ⟨by rw [rem24 ht], hh0⟩, fun fs hl => c2.trans (X0.ireturnOut hexec hret rfl (Or.inl rfl) (Jvm.hb hbytes dJ9_floorMod_7cf53_19) hl)⟩
section FMW
variable {p : Program} {l : Launch} {e : Env} {R : Room} {s : State} {m : MethodId} {args : Array Value} {below : List Frame} {meth : Method} {c : Code} {H : Heap} {locs : List Loc} {cells slots : Nat} {Q : State → Prop} {pc : Nat} {ls : Array Slot} {rest : List Value}
theorem va_mfmod {cc : ByteArray} (hexec : p.tables.exec = Jvm.exec) (hb : c.code = cc) (hml : c.maxLocals = ls.size) {own : String} {index : Nat} (hown : s.vm.findClass own = some m.cls) (hlink : (Cond.methodLink own index yJ9_floorMod_7cf53).before args s = true) (hstat : (Cond.static yJ9_floorMod_7cf53).before args s = true) (hini : (Cond.initialized "java/lang/Math").before args s = true) (hcode : (Cond.code yJ9_floorMod_7cf53 cJ9_floorMod_7cf53 3 (some .int)).before args s = true)
    (hframes : 1 ≤ R.frames) (hlocals : (rest.map fun v => v.category).sum + 14 ≤ R.locals) (hc : cells ≤ R.cells) (hs : slots ≤ R.slots) {t : Nat} (ht : t < 2 ^ 31) (hdg : decode cc pc = .ok (.invokestatic index, 3))
    (kk : W p l e R s m args below meth c H locs cells slots Q (F0 m (pc + 3) ls (.int (nI (t % 24)) :: rest))) : W p l e R s m args below meth c H locs cells slots Q (F0 m pc ls (.int 24 :: .int (nI t) :: rest)) := by
  intro T hT X
  obtain ⟨v, T', X', ⟨rfl, hh⟩, st⟩ := X.callS hexec (fm_law l t) hown (fun w hw => by
      simp only [Jvm.Free.XT.staticW, List.mem_cons, List.not_mem_nil, or_false] at hw
      rcases hw with rfl | rfl
      · exact hlink
      · exact hstat) (Jvm.Free.XT.unparts hcode (fun w hw => by
      simp only [List.mem_cons, List.not_mem_nil, or_false] at hw
      subst hw
      exact hini)) (W := (rest.map fun v => v.category).sum) (by omega) (by omega) (by omega) (by omega) (g := F0 m pc ls (.int 24 :: .int (nI t) :: rest)) rfl (by rw [hml]) (Steps.refl _) (argsL := [.int (nI t), .int 24]) (rest := rest) rfl rfl (by show 2 * 0 + _ ≤ _; omega) (by rw [hb]; exact hdg) ⟨rfl, ht⟩
  obtain ⟨t9, a1, b1⟩ := kk T' (hh.trans hT) (by simpa using X')
  exact ⟨t9, st.trans a1, b1⟩
end FMW
theorem up2_self {f : Wd} {K J : Nat} {e : va_E} (h : f K J = some e) : up2 f K J e = f := up2_to h (fun _ _ _ => rfl)

set_option maxHeartbeats 4000000 in
set_option maxRecDepth 100000 in
theorem tX0_temperatureAt (l : Launch) (g : Gg) (B0 : Nat) (ad : Ad) (f : Wd) (b s9 : Int32) (t : Nat) (ht : t < 2 ^ 31) (he0 : f 1 0 = some (.inr (0, [.int b, .int s9]))) : MM l g B0 yX0_temperatureAt (wsM yX0_temperatureAt cX0_temperatureAt 3 (some .int)) ({ frames := 1, cells := 0, slots := 0, locals := 22 } : Room) [.ref (ad 1 0), .int (nI t)] ad (f) (dI (outA b s9 (nI (t % 24))) ad f) (noX) 0 0 := by
  refine MM.start (by decide) (Nat.le_of_ble_eq_true rfl) ?_
  intro hl9 p e s m below meth c ls hC hno hI hl0
  have hx := hC.1.1
  have hb := hC.1.2.1
  have hts := hC.1.2.2.2.2
  have hl : lv_has ls 3 [(0, .ref (ad 1 0)), (1, .int (nI t))] := hl0
  obtain ⟨H, hH⟩ : ∃ H, H = s.heap := ⟨_, rfl⟩
  obtain ⟨locs, hLo⟩ : ∃ L : List Loc, L = [] := ⟨_, rfl⟩
  rw [← hH, ← hLo] at hI ⊢
  clear hH hLo hl0
  refine lv_iload_n hx hb dX0_temperatureAt_0 rfl (lv_at hl 1 rfl) ?_
  refine lv_bipush (v := 24) hx hb dX0_temperatureAt_1 (by decide) ?_
  refine va_mfmod hx hb (hC.1.2.2.1.trans hl.1.symm) hC.1.2.2.2.1 (hts _ wd_ml_X0_18) (hts _ wd_st_yJ9_floorMod_7cf53) (hts _ wd_in_RJ9) (hts _ wd_co_yJ9_floorMod_7cf53) (Nat.le_of_ble_eq_true rfl) (Nat.le_of_ble_eq_true rfl) (Nat.le_of_ble_eq_true rfl) (Nat.le_of_ble_eq_true rfl) ht dX0_temperatureAt_3 ?_
  refine lv_istore_n (lv' := [(2, .int (nI (t % 24))), (0, .ref (ad 1 0)), (1, .int (nI t))]) hx hb dX0_temperatureAt_6 rfl hl (by decide) rfl (fun ls hl => ?_)
  refine lv_iload_n hx hb dX0_temperatureAt_7 rfl (lv_at hl 0 rfl) ?_
  refine lv_bipush (v := 8) hx hb dX0_temperatureAt_8 (by decide) ?_
  refine lv_icmp_lt (tgt := 19) hx hb dX0_temperatureAt_10 (by decide) (fun c10 => ?_) (fun c10 => ?_)
  · refine lv_aload_n hx hb dX0_temperatureAt_19 rfl (lv_at hl 1 rfl) ?_
    refine gf_X0_9 hC hI he0 rfl dX0_temperatureAt_20 ?_
    exact e_int hC hI (rI (if_neg (fun z => absurd c10 (Int32.not_lt.mpr z.1))).symm) (Nat.le_of_ble_eq_true rfl) (Nat.le_of_ble_eq_true rfl) dX0_temperatureAt_23
  · refine lv_iload_n hx hb dX0_temperatureAt_13 rfl (lv_at hl 0 rfl) ?_
    refine lv_bipush (v := 20) hx hb dX0_temperatureAt_14 (by decide) ?_
    refine lv_icmp_le (tgt := 24) hx hb dX0_temperatureAt_16 (by decide) (fun c16 => ?_) (fun c16 => ?_)
    · refine lv_aload_n hx hb dX0_temperatureAt_24 rfl (lv_at hl 1 rfl) ?_
      refine gf_X0_9 hC hI he0 rfl dX0_temperatureAt_25 ?_
      refine lv_aload_n hx hb dX0_temperatureAt_28 rfl (lv_at hl 1 rfl) ?_
      refine gf_X0_15 hC hI he0 rfl dX0_temperatureAt_29 ?_
      refine lv_bipush (v := 6) hx hb dX0_temperatureAt_32 (by decide) ?_
      refine lv_iload_n hx hb dX0_temperatureAt_34 rfl (lv_at hl 0 rfl) ?_
      refine lv_bipush (v := 14) hx hb dX0_temperatureAt_35 (by decide) ?_
      refine lv_isub hx hb dX0_temperatureAt_37 ?_
      refine va_mabs hx hb (hC.1.2.2.1.trans hl.1.symm) hC.1.2.2.2.1 (hts _ wd_ml_X0_24) (hts _ wd_st_yJ9_abs_0f7a4) (hts _ wd_in_RJ9) (hts _ wd_co_yJ9_abs_0f7a4) (Nat.le_of_ble_eq_true rfl) (Nat.le_of_ble_eq_true rfl) (Nat.le_of_ble_eq_true rfl) (Nat.le_of_ble_eq_true rfl) dX0_temperatureAt_38 ?_
      refine lv_isub hx hb dX0_temperatureAt_41 ?_
      refine lv_imul hx hb dX0_temperatureAt_42 ?_
      refine lv_bipush (v := 6) hx hb dX0_temperatureAt_43 (by decide) ?_
      refine lv_idiv hx hb dX0_temperatureAt_45 (by decide) ?_
      refine lv_iadd hx hb dX0_temperatureAt_46 ?_
      exact e_int hC hI (rI (if_pos ⟨Int32.not_lt.mp c10, c16⟩).symm) (Nat.le_of_ble_eq_true rfl) (Nat.le_of_ble_eq_true rfl) dX0_temperatureAt_47
    · refine lv_aload_n hx hb dX0_temperatureAt_19 rfl (lv_at hl 1 rfl) ?_
      refine gf_X0_9 hC hI he0 rfl dX0_temperatureAt_20 ?_
      exact e_int hC hI (rI (if_neg (fun z => c16 z.2)).symm) (Nat.le_of_ble_eq_true rfl) (Nat.le_of_ble_eq_true rfl) dX0_temperatureAt_23
set_option maxHeartbeats 4000000 in
set_option maxRecDepth 100000 in
theorem tX3_distanceFromSuiting (l : Launch) (g : Gg) (B0 : Nat) (ad : Ad) (f : Wd) (q : Nat) (n lo hi li sm t : Int32) (he0 : f 7 q = some (.inr (3, [.int n, .int lo, .int hi, .int li, .int sm]))) : MM l g B0 yX3_distanceFromSuiting (wsM yX3_distanceFromSuiting cX3_distanceFromSuiting 2 (some .int)) ({ frames := 0, cells := 0, slots := 0, locals := 0 } : Room) [.ref (ad 7 q), .int t] ad (f) (dI (distS lo hi t) ad f) (noX) 0 0 := by
  refine MM.start (by decide) (Nat.le_of_ble_eq_true rfl) ?_
  intro hl9 p e s m below meth c ls hC hno hI hl0
  have hx := hC.1.1
  have hb := hC.1.2.1
  have hts := hC.1.2.2.2.2
  have hl : lv_has ls 2 [(0, .ref (ad 7 q)), (1, .int t)] := hl0
  obtain ⟨H, hH⟩ : ∃ H, H = s.heap := ⟨_, rfl⟩
  obtain ⟨locs, hLo⟩ : ∃ L : List Loc, L = [] := ⟨_, rfl⟩
  rw [← hH, ← hLo] at hI ⊢
  clear hH hLo hl0
  refine lv_iload_n hx hb dX3_distanceFromSuiting_0 rfl (lv_at hl 1 rfl) ?_
  refine lv_aload_n hx hb dX3_distanceFromSuiting_1 rfl (lv_at hl 0 rfl) ?_
  refine gf_X3_13 hC hI he0 rfl dX3_distanceFromSuiting_2 ?_
  refine lv_icmp_ge (tgt := 15) hx hb dX3_distanceFromSuiting_5 (by decide) (fun c5 => ?_) (fun c5 => ?_)
  · refine lv_iload_n hx hb dX3_distanceFromSuiting_15 rfl (lv_at hl 1 rfl) ?_
    refine lv_aload_n hx hb dX3_distanceFromSuiting_16 rfl (lv_at hl 0 rfl) ?_
    refine gf_X3_16 hC hI he0 rfl dX3_distanceFromSuiting_17 ?_
    refine lv_icmp_le (tgt := 32) hx hb dX3_distanceFromSuiting_20 (by decide) (fun c20 => ?_) (fun c20 => ?_)
    · refine lv_iconst (v := 0) hx hb dX3_distanceFromSuiting_32 (by decide) ?_
      exact e_int hC hI (rI ((if_neg (Int32.not_lt.mpr c5)).trans (if_neg (Int32.not_lt.mpr c20))).symm) (Nat.le_of_ble_eq_true rfl) (Nat.le_of_ble_eq_true rfl) dX3_distanceFromSuiting_33
    · refine lv_iload_n hx hb dX3_distanceFromSuiting_23 rfl (lv_at hl 1 rfl) ?_
      refine lv_aload_n hx hb dX3_distanceFromSuiting_24 rfl (lv_at hl 0 rfl) ?_
      refine gf_X3_16 hC hI he0 rfl dX3_distanceFromSuiting_25 ?_
      refine lv_isub hx hb dX3_distanceFromSuiting_28 ?_
      refine lv_goto (tgt := 33) hx hb dX3_distanceFromSuiting_29 (by decide) ?_
      exact e_int hC hI (rI ((if_neg (Int32.not_lt.mpr c5)).trans (if_pos (Int32.not_le.mp c20))).symm) (Nat.le_of_ble_eq_true rfl) (Nat.le_of_ble_eq_true rfl) dX3_distanceFromSuiting_33
  · refine lv_aload_n hx hb dX3_distanceFromSuiting_8 rfl (lv_at hl 0 rfl) ?_
    refine gf_X3_13 hC hI he0 rfl dX3_distanceFromSuiting_9 ?_
    refine lv_iload_n hx hb dX3_distanceFromSuiting_12 rfl (lv_at hl 1 rfl) ?_
    refine lv_isub hx hb dX3_distanceFromSuiting_13 ?_
    exact e_int hC hI (rI (if_pos (Int32.not_le.mp c5)).symm) (Nat.le_of_ble_eq_true rfl) (Nat.le_of_ble_eq_true rfl) dX3_distanceFromSuiting_14
set_option maxHeartbeats 4000000 in
set_option maxRecDepth 100000 in
theorem tX3_disturbs (l : Launch) (g : Gg) (B0 : Nat) (ad : Ad) (f : Wd) (q q2 : Nat) (n lo hi li sm n2 lo2 hi2 li2 sm2 : Int32) (he0 : f 7 q = some (.inr (3, [.int n, .int lo, .int hi, .int li, .int sm]))) (he1 : f 7 q2 = some (.inr (3, [.int n2, .int lo2, .int hi2, .int li2, .int sm2]))) : MM l g B0 yX3_disturbs (wsM yX3_disturbs cX3_disturbs 2 (some .boolean)) ({ frames := 0, cells := 0, slots := 0, locals := 0 } : Room) [.ref (ad 7 q), .ref (ad 7 q2)] ad (f) (dI (bi (disP sm sm2)) ad f) (noX) 0 0 := by
  refine MM.start (by decide) (Nat.le_of_ble_eq_true rfl) ?_
  intro hl9 p e s m below meth c ls hC hno hI hl0
  have hx := hC.1.1
  have hb := hC.1.2.1
  have hts := hC.1.2.2.2.2
  have hl : lv_has ls 2 [(0, .ref (ad 7 q)), (1, .ref (ad 7 q2))] := hl0
  obtain ⟨H, hH⟩ : ∃ H, H = s.heap := ⟨_, rfl⟩
  obtain ⟨locs, hLo⟩ : ∃ L : List Loc, L = [] := ⟨_, rfl⟩
  rw [← hH, ← hLo] at hI ⊢
  clear hH hLo hl0
  refine lv_aload_n hx hb dX3_disturbs_0 rfl (lv_at hl 0 rfl) ?_
  refine gf_X3_22 hC hI he0 rfl dX3_disturbs_1 ?_
  refine lv_iconst (v := 1) hx hb dX3_disturbs_4 (by decide) ?_
  refine lv_icmp_ne (tgt := 20) hx hb dX3_disturbs_5 (by decide) (fun c5 => ?_) (fun c5 => ?_)
  · refine lv_iconst (v := 0) hx hb dX3_disturbs_20 (by decide) ?_
    exact e_bool hC hI (by decide) (rI (bi_f (fun z => c5 z.1)).symm) (Nat.le_of_ble_eq_true rfl) (Nat.le_of_ble_eq_true rfl) dX3_disturbs_21
  · refine lv_aload_n hx hb dX3_disturbs_8 rfl (lv_at hl 1 rfl) ?_
    refine gf_X3_22 hC hI he1 rfl dX3_disturbs_9 ?_
    refine lv_iconst (v := 2) hx hb dX3_disturbs_12 (by decide) ?_
    refine lv_icmp_ne (tgt := 20) hx hb dX3_disturbs_13 (by decide) (fun c13 => ?_) (fun c13 => ?_)
    · refine lv_iconst (v := 0) hx hb dX3_disturbs_20 (by decide) ?_
      exact e_bool hC hI (by decide) (rI (bi_f (fun z => c13 z.2)).symm) (Nat.le_of_ble_eq_true rfl) (Nat.le_of_ble_eq_true rfl) dX3_disturbs_21
    · refine lv_iconst (v := 1) hx hb dX3_disturbs_16 (by decide) ?_
      refine lv_goto (tgt := 21) hx hb dX3_disturbs_17 (by decide) ?_
      exact e_bool hC hI (by decide) (rI (bi_t ⟨c5, c13⟩).symm) (Nat.le_of_ble_eq_true rfl) (Nat.le_of_ble_eq_true rfl) dX3_disturbs_21
set_option maxHeartbeats 4000000 in
set_option maxRecDepth 100000 in
theorem tX3_goesWith (l : Launch) (g : Gg) (B0 : Nat) (ad : Ad) (f : Wd) (q q2 : Nat) (n lo hi li sm n2 lo2 hi2 li2 sm2 : Int32) (he0 : f 7 q = some (.inr (3, [.int n, .int lo, .int hi, .int li, .int sm]))) (he1 : f 7 q2 = some (.inr (3, [.int n2, .int lo2, .int hi2, .int li2, .int sm2]))) : MM l g B0 yX3_goesWith (wsM yX3_goesWith cX3_goesWith 2 (some .boolean)) ({ frames := 1, cells := 0, slots := 0, locals := 21 } : Room) [.ref (ad 7 q), .ref (ad 7 q2)] ad (f) (dI (bi (gwP n n2 sm sm2)) ad f) (noX) 0 0 := by
  refine MM.start (by decide) (Nat.le_of_ble_eq_true rfl) ?_
  intro hl9 p e s m below meth c ls hC hno hI hl0
  have hx := hC.1.1
  have hb := hC.1.2.1
  have hts := hC.1.2.2.2.2
  have hl : lv_has ls 2 [(0, .ref (ad 7 q)), (1, .ref (ad 7 q2))] := hl0
  obtain ⟨H, hH⟩ : ∃ H, H = s.heap := ⟨_, rfl⟩
  obtain ⟨locs, hLo⟩ : ∃ L : List Loc, L = [] := ⟨_, rfl⟩
  rw [← hH, ← hLo] at hI ⊢
  clear hH hLo hl0
  refine lv_aload_n hx hb dX3_goesWith_0 rfl (lv_at hl 0 rfl) ?_
  refine gf_X3_7 hC hI he0 rfl dX3_goesWith_1 ?_
  refine lv_aload_n hx hb dX3_goesWith_4 rfl (lv_at hl 1 rfl) ?_
  refine gf_X3_7 hC hI he1 rfl dX3_goesWith_5 ?_
  refine lv_icmp_ne (tgt := 13) hx hb dX3_goesWith_8 (by decide) (fun c8 => ?_) (fun c8 => ?_)
  · refine lv_aload_n hx hb dX3_goesWith_13 rfl (lv_at hl 0 rfl) ?_
    refine gf_X3_22 hC hI he0 rfl dX3_goesWith_14 ?_
    refine lv_iconst (v := 3) hx hb dX3_goesWith_17 (by decide) ?_
    refine lv_icmp_eq (tgt := 29) hx hb dX3_goesWith_18 (by decide) (fun c18 => ?_) (fun c18 => ?_)
    · refine lv_iconst (v := 0) hx hb dX3_goesWith_29 (by decide) ?_
      exact e_bool hC hI (by decide) (rI (bi_f (fun z => z.elim c8 (fun z => z.1 c18))).symm) (Nat.le_of_ble_eq_true rfl) (Nat.le_of_ble_eq_true rfl) dX3_goesWith_30
    · refine lv_aload_n hx hb dX3_goesWith_21 rfl (lv_at hl 1 rfl) ?_
      refine gf_X3_22 hC hI he1 rfl dX3_goesWith_22 ?_
      refine lv_iconst (v := 3) hx hb dX3_goesWith_25 (by decide) ?_
      refine lv_icmp_ne (tgt := 31) hx hb dX3_goesWith_26 (by decide) (fun c26 => ?_) (fun c26 => ?_)
      · refine lv_aload_n hx hb dX3_goesWith_31 rfl (lv_at hl 0 rfl) ?_
        refine lv_aload_n hx hb dX3_goesWith_32 rfl (lv_at hl 1 rfl) ?_
        refine c_Vi (rest := []) hl9 hC hI hl.1 (tX3_disturbs l g B0 ad _ q q2 _ _ _ _ _ _ _ _ _ _  he0 he1) (cw_X3_25 hts rfl rfl ⟨(Nat.le_of_ble_eq_true rfl), (Nat.le_of_ble_eq_true rfl)⟩) he0 rfl rfl rfl rfl (Nat.le_of_ble_eq_true rfl) dX3_goesWith_33 ⟨(Nat.le_of_ble_eq_true rfl), (Nat.le_of_ble_eq_true rfl)⟩ (fun H locs hI => ?_)
        refine lv_if_ne (tgt := 51) hx hb dX3_goesWith_36 (by decide) (fun c36 => ?_) (fun c36 => ?_)
        · have c36 := bi_1.mp c36
          refine lv_iconst (v := 0) hx hb dX3_goesWith_51 (by decide) ?_
          exact e_bool hC hI (by decide) (rI (bi_f (fun z => z.elim c8 (fun z => z.2.2.1 c36))).symm) (Nat.le_of_ble_eq_true rfl) (Nat.le_of_ble_eq_true rfl) dX3_goesWith_52
        · have c36 := bi_0.mp c36
          refine lv_aload_n hx hb dX3_goesWith_39 rfl (lv_at hl 1 rfl) ?_
          refine lv_aload_n hx hb dX3_goesWith_40 rfl (lv_at hl 0 rfl) ?_
          refine c_Vi (rest := []) hl9 hC hI hl.1 (tX3_disturbs l g B0 ad _ q2 q _ _ _ _ _ _ _ _ _ _  he1 he0) (cw_X3_25 hts rfl rfl ⟨(Nat.le_of_ble_eq_true rfl), (Nat.le_of_ble_eq_true rfl)⟩) he1 rfl rfl rfl rfl (Nat.le_of_ble_eq_true rfl) dX3_goesWith_41 ⟨(Nat.le_of_ble_eq_true rfl), (Nat.le_of_ble_eq_true rfl)⟩ (fun H locs hI => ?_)
          refine lv_if_ne (tgt := 51) hx hb dX3_goesWith_44 (by decide) (fun c44 => ?_) (fun c44 => ?_)
          · have c44 := bi_1.mp c44
            refine lv_iconst (v := 0) hx hb dX3_goesWith_51 (by decide) ?_
            exact e_bool hC hI (by decide) (rI (bi_f (fun z => z.elim c8 (fun z => z.2.2.2 c44))).symm) (Nat.le_of_ble_eq_true rfl) (Nat.le_of_ble_eq_true rfl) dX3_goesWith_52
          · have c44 := bi_0.mp c44
            refine lv_iconst (v := 1) hx hb dX3_goesWith_47 (by decide) ?_
            refine lv_goto (tgt := 52) hx hb dX3_goesWith_48 (by decide) ?_
            exact e_bool hC hI (by decide) (rI (bi_t (Or.inr ⟨c18, c26, c36, c44⟩)).symm) (Nat.le_of_ble_eq_true rfl) (Nat.le_of_ble_eq_true rfl) dX3_goesWith_52
      · refine lv_iconst (v := 0) hx hb dX3_goesWith_29 (by decide) ?_
        exact e_bool hC hI (by decide) (rI (bi_f (fun z => z.elim c8 (fun z => z.2.1 (c26)))).symm) (Nat.le_of_ble_eq_true rfl) (Nat.le_of_ble_eq_true rfl) dX3_goesWith_30
  · refine lv_iconst (v := 1) hx hb dX3_goesWith_11 (by decide) ?_
    exact e_bool hC hI (by decide) (rI (bi_t (Or.inl (c8))).symm) (Nat.le_of_ble_eq_true rfl) (Nat.le_of_ble_eq_true rfl) dX3_goesWith_12
set_option maxHeartbeats 4000000 in
set_option maxRecDepth 100000 in
theorem tX1_beginDefrosting (l : Launch) (g : Gg) (B0 : Nat) (ad : Ad) (f : Wd) (K J : Nat) (po st hw fr en : Int32) (he0 : f K J = some (.inr (1, [.int po, .int st, .int hw, .int fr, .int en]))) : MM l g B0 yX1_beginDefrosting (wsM yX1_beginDefrosting cX1_beginDefrosting 1 none) ({ frames := 0, cells := 0, slots := 0, locals := 0 } : Room) [.ref (ad K J)] ad (f) (dV ad (up2 f K J (.inr (1, [.int po, .int 2, .int 3, .int fr, .int en])))) (noX) 0 0 := by
  refine MM.start (by decide) (Nat.le_of_ble_eq_true rfl) ?_
  intro hl9 p e s m below meth c ls hC hno hI hl0
  have hx := hC.1.1
  have hb := hC.1.2.1
  have hts := hC.1.2.2.2.2
  have hl : lv_has ls 1 [(0, .ref (ad K J))] := hl0
  obtain ⟨H, hH⟩ : ∃ H, H = s.heap := ⟨_, rfl⟩
  obtain ⟨locs, hLo⟩ : ∃ L : List Loc, L = [] := ⟨_, rfl⟩
  rw [← hH, ← hLo] at hI ⊢
  clear hH hLo hl0
  refine lv_aload_n hx hb dX1_beginDefrosting_0 rfl (lv_at hl 0 rfl) ?_
  refine lv_iconst (v := 2) hx hb dX1_beginDefrosting_1 (by decide) ?_
  refine pf_X1_9 hC hI he0 (Nat.le_of_ble_eq_true rfl) dX1_beginDefrosting_2 (fun H locs hI => ?_)
  have hI : WI g ad B0 (up2 (f) K J (.inr (1, [.int po, .int 2, .int hw, .int fr, .int en]))) s H locs := hI.cast (rfl)
  refine lv_aload_n hx hb dX1_beginDefrosting_5 rfl (lv_at hl 0 rfl) ?_
  refine lv_iconst (v := 3) hx hb dX1_beginDefrosting_6 (by decide) ?_
  refine pf_X1_13 hC hI (up2_s _ _ _ _) (Nat.le_of_ble_eq_true rfl) dX1_beginDefrosting_7 (fun H locs hI => ?_)
  have hI : WI g ad B0 (up2 (f) K J (.inr (1, [.int po, .int 2, .int 3, .int fr, .int en]))) s H locs := hI.cast (up2_up2 _ _ _ _ _)
  exact e_void hC hI ⟨rfl, rfl, rfl⟩ (Nat.le_of_ble_eq_true rfl) (Nat.le_of_ble_eq_true rfl) dX1_beginDefrosting_10
set_option maxHeartbeats 4000000 in
set_option maxRecDepth 100000 in
theorem tX1_defrostOneHour (l : Launch) (g : Gg) (B0 : Nat) (ad : Ad) (f : Wd) (K J : Nat) (po st hw fr en : Int32) (he0 : f K J = some (.inr (1, [.int po, .int st, .int hw, .int fr, .int en]))) : MM l g B0 yX1_defrostOneHour (wsM yX1_defrostOneHour cX1_defrostOneHour 1 none) ({ frames := 0, cells := 0, slots := 0, locals := 0 } : Room) [.ref (ad K J)] ad (f) (dV ad (up2 f K J (.inr (1, [.int po, .int (if 0 < hw - 1 then st else 0), .int (hw - 1), .int (if 0 < hw - 1 then fr else 0), .int en])))) (noX) 0 0 := by
  refine MM.start (by decide) (Nat.le_of_ble_eq_true rfl) ?_
  intro hl9 p e s m below meth c ls hC hno hI hl0
  have hx := hC.1.1
  have hb := hC.1.2.1
  have hts := hC.1.2.2.2.2
  have hl : lv_has ls 1 [(0, .ref (ad K J))] := hl0
  obtain ⟨H, hH⟩ : ∃ H, H = s.heap := ⟨_, rfl⟩
  obtain ⟨locs, hLo⟩ : ∃ L : List Loc, L = [] := ⟨_, rfl⟩
  rw [← hH, ← hLo] at hI ⊢
  clear hH hLo hl0
  refine lv_aload_n hx hb dX1_defrostOneHour_0 rfl (lv_at hl 0 rfl) ?_
  refine lv_dup hx hb dX1_defrostOneHour_1 rfl ?_
  refine gf_X1_13 hC hI he0 rfl dX1_defrostOneHour_2 ?_
  refine lv_iconst (v := 1) hx hb dX1_defrostOneHour_5 (by decide) ?_
  refine lv_isub hx hb dX1_defrostOneHour_6 ?_
  refine pf_X1_13 hC hI he0 (Nat.le_of_ble_eq_true rfl) dX1_defrostOneHour_7 (fun H locs hI => ?_)
  have hI : WI g ad B0 (up2 (f) K J (.inr (1, [.int po, .int st, .int (hw - 1), .int fr, .int en]))) s H locs := hI.cast (rfl)
  refine lv_aload_n hx hb dX1_defrostOneHour_10 rfl (lv_at hl 0 rfl) ?_
  refine gf_X1_13 hC hI (up2_s _ _ _ _) rfl dX1_defrostOneHour_11 ?_
  refine lv_if_gt (tgt := 27) hx hb dX1_defrostOneHour_14 (by decide) (fun c14 => ?_) (fun c14 => ?_)
  · exact e_void hC hI ⟨rfl, rfl, by rw [if_pos c14, if_pos c14]⟩ (Nat.le_of_ble_eq_true rfl) (Nat.le_of_ble_eq_true rfl) dX1_defrostOneHour_27
  · refine lv_aload_n hx hb dX1_defrostOneHour_17 rfl (lv_at hl 0 rfl) ?_
    refine lv_iconst (v := 0) hx hb dX1_defrostOneHour_18 (by decide) ?_
    refine pf_X1_16 hC hI (up2_s _ _ _ _) (Nat.le_of_ble_eq_true rfl) dX1_defrostOneHour_19 (fun H locs hI => ?_)
    have hI : WI g ad B0 (up2 (f) K J (.inr (1, [.int po, .int st, .int (hw - 1), .int 0, .int en]))) s H locs := hI.cast (up2_up2 _ _ _ _ _)
    refine lv_aload_n hx hb dX1_defrostOneHour_22 rfl (lv_at hl 0 rfl) ?_
    refine lv_iconst (v := 0) hx hb dX1_defrostOneHour_23 (by decide) ?_
    refine pf_X1_9 hC hI (up2_s _ _ _ _) (Nat.le_of_ble_eq_true rfl) dX1_defrostOneHour_24 (fun H locs hI => ?_)
    have hI : WI g ad B0 (up2 (f) K J (.inr (1, [.int po, .int 0, .int (hw - 1), .int 0, .int en]))) s H locs := hI.cast (up2_up2 _ _ _ _ _)
    exact e_void hC hI ⟨rfl, rfl, by rw [if_neg c14, if_neg c14]⟩ (Nat.le_of_ble_eq_true rfl) (Nat.le_of_ble_eq_true rfl) dX1_defrostOneHour_27
set_option maxHeartbeats 4000000 in
set_option maxRecDepth 100000 in
theorem tX1_beginHour (l : Launch) (g : Gg) (B0 : Nat) (ad : Ad) (f : Wd) (K J : Nat) (po st hw fr en ab0 : Int32) (cold : Prop) [Decidable cold] (he0 : f K J = some (.inr (1, [.int po, .int st, .int hw, .int fr, .int en]))) : MM l g B0 yX1_beginHour (wsM yX1_beginHour cX1_beginHour 3 none) ({ frames := 1, cells := 0, slots := 0, locals := 20 } : Room) [.ref (ad K J), .int ab0, .int (bi cold)] ad (f) (dV ad (up2 f K J (.inr (1, [.int po, .int (mSt st hw ab0 cold), .int (mHl st hw), .int (mFr st hw fr), .int en])))) (noX) 0 0 := by
  refine MM.start (by decide) (Nat.le_of_ble_eq_true rfl) ?_
  intro hl9 p e s m below meth c ls hC hno hI hl0
  have hx := hC.1.1
  have hb := hC.1.2.1
  have hts := hC.1.2.2.2.2
  have hl : lv_has ls 3 [(0, .ref (ad K J)), (1, .int ab0), (2, .int (bi cold))] := hl0
  obtain ⟨H, hH⟩ : ∃ H, H = s.heap := ⟨_, rfl⟩
  obtain ⟨locs, hLo⟩ : ∃ L : List Loc, L = [] := ⟨_, rfl⟩
  rw [← hH, ← hLo] at hI ⊢
  clear hH hLo hl0
  refine lv_aload_n hx hb dX1_beginHour_0 rfl (lv_at hl 0 rfl) ?_
  refine gf_X1_9 hC hI he0 rfl dX1_beginHour_1 ?_
  refine lv_iconst (v := 2) hx hb dX1_beginHour_4 (by decide) ?_
  refine lv_icmp_ne (tgt := 15) hx hb dX1_beginHour_5 (by decide) (fun c5 => ?_) (fun c5 => ?_)
  · refine lv_iload_n hx hb dX1_beginHour_15 rfl (lv_at hl 2 rfl) ?_
    refine lv_if_eq (tgt := 37) hx hb dX1_beginHour_16 (by decide) (fun c16 => ?_) (fun c16 => ?_)
    · have c16 := bi_0.mp c16
      refine lv_iload_n hx hb dX1_beginHour_37 rfl (lv_at hl 1 rfl) ?_
      refine lv_iconst (v := 5) hx hb dX1_beginHour_38 (by decide) ?_
      refine lv_icmp_le (tgt := 50) hx hb dX1_beginHour_39 (by decide) (fun c39 => ?_) (fun c39 => ?_)
      · refine lv_iload_n hx hb dX1_beginHour_50 rfl (lv_at hl 1 rfl) ?_
        refine lv_bipush (v := (-5)) hx hb dX1_beginHour_51 (by decide) ?_
        refine lv_icmp_ge (tgt := 61) hx hb dX1_beginHour_53 (by decide) (fun c53 => ?_) (fun c53 => ?_)
        · exact e_void hC hI ⟨rfl, rfl, by unfold mSt mHl mFr; rw [if_neg c5, if_neg c5, if_neg c5, if_neg c16, if_neg (Int32.not_lt.mpr c39), if_neg (Int32.not_lt.mpr c53), up2_self he0]⟩ (Nat.le_of_ble_eq_true rfl) (Nat.le_of_ble_eq_true rfl) dX1_beginHour_61
        · refine lv_aload_n hx hb dX1_beginHour_56 rfl (lv_at hl 0 rfl) ?_
          refine lv_iconst (v := 0) hx hb dX1_beginHour_57 (by decide) ?_
          refine pf_X1_9 hC hI he0 (Nat.le_of_ble_eq_true rfl) dX1_beginHour_58 (fun H locs hI => ?_)
          have hI : WI g ad B0 (up2 (f) K J (.inr (1, [.int po, .int 0, .int hw, .int fr, .int en]))) s H locs := hI.cast (rfl)
          exact e_void hC hI ⟨rfl, rfl, by unfold mSt mHl mFr; rw [if_neg c5, if_neg c5, if_neg c5, if_neg c16, if_neg (Int32.not_lt.mpr c39), if_pos (Int32.not_le.mp c53)]⟩ (Nat.le_of_ble_eq_true rfl) (Nat.le_of_ble_eq_true rfl) dX1_beginHour_61
      · refine lv_aload_n hx hb dX1_beginHour_42 rfl (lv_at hl 0 rfl) ?_
        refine lv_iconst (v := 1) hx hb dX1_beginHour_43 (by decide) ?_
        refine pf_X1_9 hC hI he0 (Nat.le_of_ble_eq_true rfl) dX1_beginHour_44 (fun H locs hI => ?_)
        have hI : WI g ad B0 (up2 (f) K J (.inr (1, [.int po, .int 1, .int hw, .int fr, .int en]))) s H locs := hI.cast (rfl)
        refine lv_goto (tgt := 61) hx hb dX1_beginHour_47 (by decide) ?_
        exact e_void hC hI ⟨rfl, rfl, by unfold mSt mHl mFr; rw [if_neg c5, if_neg c5, if_neg c5, if_neg c16, if_pos (Int32.not_le.mp c39)]⟩ (Nat.le_of_ble_eq_true rfl) (Nat.le_of_ble_eq_true rfl) dX1_beginHour_61
    · have c16 := bi_1.mp c16
      refine lv_aload_n hx hb dX1_beginHour_19 rfl (lv_at hl 0 rfl) ?_
      refine lv_iload_n hx hb dX1_beginHour_20 rfl (lv_at hl 1 rfl) ?_
      refine lv_bipush (v := (-25)) hx hb dX1_beginHour_21 (by decide) ?_
      refine lv_icmp_ge (tgt := 30) hx hb dX1_beginHour_23 (by decide) (fun c23 => ?_) (fun c23 => ?_)
      · refine lv_iconst (v := 1) hx hb dX1_beginHour_30 (by decide) ?_
        refine pf_X1_9 hC hI he0 (Nat.le_of_ble_eq_true rfl) dX1_beginHour_31 (fun H locs hI => ?_)
        have hI : WI g ad B0 (up2 (f) K J (.inr (1, [.int po, .int 1, .int hw, .int fr, .int en]))) s H locs := hI.cast (rfl)
        refine lv_goto (tgt := 61) hx hb dX1_beginHour_34 (by decide) ?_
        exact e_void hC hI ⟨rfl, rfl, by unfold mSt mHl mFr; rw [if_neg c5, if_neg c5, if_neg c5, if_pos c16, if_neg (Int32.not_lt.mpr c23)]⟩ (Nat.le_of_ble_eq_true rfl) (Nat.le_of_ble_eq_true rfl) dX1_beginHour_61
      · refine lv_iconst (v := 0) hx hb dX1_beginHour_26 (by decide) ?_
        refine lv_goto (tgt := 31) hx hb dX1_beginHour_27 (by decide) ?_
        refine pf_X1_9 hC hI he0 (Nat.le_of_ble_eq_true rfl) dX1_beginHour_31 (fun H locs hI => ?_)
        have hI : WI g ad B0 (up2 (f) K J (.inr (1, [.int po, .int 0, .int hw, .int fr, .int en]))) s H locs := hI.cast (rfl)
        refine lv_goto (tgt := 61) hx hb dX1_beginHour_34 (by decide) ?_
        exact e_void hC hI ⟨rfl, rfl, by unfold mSt mHl mFr; rw [if_neg c5, if_neg c5, if_neg c5, if_pos c16, if_pos (Int32.not_le.mp c23)]⟩ (Nat.le_of_ble_eq_true rfl) (Nat.le_of_ble_eq_true rfl) dX1_beginHour_61
  · refine lv_aload_n hx hb dX1_beginHour_8 rfl (lv_at hl 0 rfl) ?_
    refine c_Vv (rest := []) hl9 hC hI hl.1 (tX1_defrostOneHour l g B0 ad _ K J _ _ _ _ _ he0) (cw_X1_25 hts rfl rfl ⟨(Nat.le_of_ble_eq_true rfl), (Nat.le_of_ble_eq_true rfl)⟩) he0 rfl rfl rfl rfl (Nat.le_of_ble_eq_true rfl) dX1_beginHour_9 ⟨(Nat.le_of_ble_eq_true rfl), (Nat.le_of_ble_eq_true rfl)⟩ (fun H locs hI => ?_)
    refine lv_goto (tgt := 61) hx hb dX1_beginHour_12 (by decide) ?_
    exact e_void hC hI ⟨rfl, rfl, by unfold mSt mHl mFr; rw [if_pos c5, if_pos c5, if_pos c5, c5]⟩ (Nat.le_of_ble_eq_true rfl) (Nat.le_of_ble_eq_true rfl) dX1_beginHour_61
set_option maxHeartbeats 4000000 in
set_option maxRecDepth 100000 in
theorem tX1_warmthOfHour (l : Launch) (g : Gg) (B0 : Nat) (ad : Ad) (f : Wd) (K J : Nat) (po st hw fr en : Int32) (he0 : f K J = some (.inr (1, [.int po, .int st, .int hw, .int fr, .int en]))) : MM l g B0 yX1_warmthOfHour (wsM yX1_warmthOfHour cX1_warmthOfHour 1 (some .int)) ({ frames := 0, cells := 0, slots := 0, locals := 0 } : Room) [.ref (ad K J)] ad (f) (dI (mWm po st fr) ad f) (noX) 0 0 := by
  refine MM.start (by decide) (Nat.le_of_ble_eq_true rfl) ?_
  intro hl9 p e s m below meth c ls hC hno hI hl0
  have hx := hC.1.1
  have hb := hC.1.2.1
  have hts := hC.1.2.2.2.2
  have hl : lv_has ls 1 [(0, .ref (ad K J))] := hl0
  obtain ⟨H, hH⟩ : ∃ H, H = s.heap := ⟨_, rfl⟩
  obtain ⟨locs, hLo⟩ : ∃ L : List Loc, L = [] := ⟨_, rfl⟩
  rw [← hH, ← hLo] at hI ⊢
  clear hH hLo hl0
  refine lv_aload_n hx hb dX1_warmthOfHour_0 rfl (lv_at hl 0 rfl) ?_
  refine gf_X1_9 hC hI he0 rfl dX1_warmthOfHour_1 ?_
  by_cases s1 : st = 1
  · refine lv_lookup (off := 28) (tgt := 32) hx hb dX1_warmthOfHour_4 (by decide) (by rw [s1]; decide) (by decide) ?_
    refine lv_aload_n hx hb dX1_warmthOfHour_32 rfl (lv_at hl 0 rfl) ?_
    refine gf_X1_22 hC hI he0 rfl dX1_warmthOfHour_33 ?_
    refine lv_ineg hx hb dX1_warmthOfHour_36 ?_
    refine lv_bipush (v := 100) hx hb dX1_warmthOfHour_37 (by decide) ?_
    refine lv_aload_n hx hb dX1_warmthOfHour_39 rfl (lv_at hl 0 rfl) ?_
    refine gf_X1_16 hC hI he0 rfl dX1_warmthOfHour_40 ?_
    refine lv_isub hx hb dX1_warmthOfHour_43 ?_
    refine lv_imul hx hb dX1_warmthOfHour_44 ?_
    refine lv_sipush (v := 1000) hx hb dX1_warmthOfHour_45 (by decide) ?_
    refine lv_idiv hx hb dX1_warmthOfHour_48 (by decide) ?_
    exact e_int hC hI (rI (if_pos s1).symm) (Nat.le_of_ble_eq_true rfl) (Nat.le_of_ble_eq_true rfl) dX1_warmthOfHour_49
  by_cases s2 : st = 2
  · refine lv_lookup (off := 46) (tgt := 50) hx hb dX1_warmthOfHour_4 (by decide) (by rw [s2]; decide) (by decide) ?_
    refine lv_bipush (v := 8) hx hb dX1_warmthOfHour_50 (by decide) ?_
    exact e_int hC hI (rI ((if_neg s1).trans (if_pos s2)).symm) (Nat.le_of_ble_eq_true rfl) (Nat.le_of_ble_eq_true rfl) dX1_warmthOfHour_52
  refine lv_lookup (off := 49) (tgt := 53) hx hb dX1_warmthOfHour_4 (by decide) (by have h1 := sw_n (z := 1) (by decide) s1; have h101 := Ne.symm h1; have h2 := sw_n (z := 2) (by decide) s2; have h102 := Ne.symm h2; simp [Op.lookupswitch.offset_cons, Op.lookupswitch.offset_nil, *]) (by decide) ?_
  refine lv_iconst (v := 0) hx hb dX1_warmthOfHour_53 (by decide) ?_
  exact e_int hC hI (rI ((if_neg s1).trans (if_neg s2)).symm) (Nat.le_of_ble_eq_true rfl) (Nat.le_of_ble_eq_true rfl) dX1_warmthOfHour_54
set_option maxHeartbeats 4000000 in
set_option maxRecDepth 100000 in
theorem tX1_useEnergy (l : Launch) (g : Gg) (B0 : Nat) (ad : Ad) (f : Wd) (K J : Nat) (po st hw fr en : Int32) (he0 : f K J = some (.inr (1, [.int po, .int st, .int hw, .int fr, .int en]))) : MM l g B0 yX1_useEnergy (wsM yX1_useEnergy cX1_useEnergy 1 (some .int)) ({ frames := 1, cells := 0, slots := 0, locals := 21 } : Room) [.ref (ad K J)] ad (f) (dI (if st = 1 then po else 0) ad (up2 f K J (.inr (1, [.int po, .int st, .int hw, .int (if st = 1 then mn (fr + 1) 90 else fr), .int (if st = 1 then en + po else en)])))) (noX) 0 0 := by
  refine MM.start (by decide) (Nat.le_of_ble_eq_true rfl) ?_
  intro hl9 p e s m below meth c ls hC hno hI hl0
  have hx := hC.1.1
  have hb := hC.1.2.1
  have hts := hC.1.2.2.2.2
  have hl : lv_has ls 1 [(0, .ref (ad K J))] := hl0
  obtain ⟨H, hH⟩ : ∃ H, H = s.heap := ⟨_, rfl⟩
  obtain ⟨locs, hLo⟩ : ∃ L : List Loc, L = [] := ⟨_, rfl⟩
  rw [← hH, ← hLo] at hI ⊢
  clear hH hLo hl0
  refine lv_aload_n hx hb dX1_useEnergy_0 rfl (lv_at hl 0 rfl) ?_
  refine gf_X1_9 hC hI he0 rfl dX1_useEnergy_1 ?_
  refine lv_iconst (v := 1) hx hb dX1_useEnergy_4 (by decide) ?_
  refine lv_icmp_eq (tgt := 10) hx hb dX1_useEnergy_5 (by decide) (fun c5 => ?_) (fun c5 => ?_)
  · refine lv_aload_n hx hb dX1_useEnergy_10 rfl (lv_at hl 0 rfl) ?_
    refine lv_dup hx hb dX1_useEnergy_11 rfl ?_
    refine gf_X1_19 hC hI he0 rfl dX1_useEnergy_12 ?_
    refine lv_aload_n hx hb dX1_useEnergy_15 rfl (lv_at hl 0 rfl) ?_
    refine gf_X1_22 hC hI he0 rfl dX1_useEnergy_16 ?_
    refine lv_iadd hx hb dX1_useEnergy_19 ?_
    refine pf_X1_19 hC hI he0 (Nat.le_of_ble_eq_true rfl) dX1_useEnergy_20 (fun H locs hI => ?_)
    have hI : WI g ad B0 (up2 (f) K J (.inr (1, [.int po, .int st, .int hw, .int fr, .int (en + po)]))) s H locs := hI.cast (rfl)
    refine lv_aload_n hx hb dX1_useEnergy_23 rfl (lv_at hl 0 rfl) ?_
    refine lv_aload_n hx hb dX1_useEnergy_24 rfl (lv_at hl 0 rfl) ?_
    refine gf_X1_16 hC hI (up2_s _ _ _ _) rfl dX1_useEnergy_25 ?_
    refine lv_iconst (v := 1) hx hb dX1_useEnergy_28 (by decide) ?_
    refine lv_iadd hx hb dX1_useEnergy_29 ?_
    refine lv_bipush (v := 90) hx hb dX1_useEnergy_30 (by decide) ?_
    refine va_mmin hx hb (hC.1.2.2.1.trans hl.1.symm) hC.1.2.2.2.1 (hts _ wd_ml_X1_28) (hts _ wd_st_yJ9_min_7cf53) (hts _ wd_in_RJ9) (hts _ wd_co_yJ9_min_7cf53) (Nat.le_of_ble_eq_true rfl) (Nat.le_of_ble_eq_true rfl) (Nat.le_of_ble_eq_true rfl) (Nat.le_of_ble_eq_true rfl) dX1_useEnergy_32 ?_
    refine pf_X1_16 hC hI (up2_s _ _ _ _) (Nat.le_of_ble_eq_true rfl) dX1_useEnergy_35 (fun H locs hI => ?_)
    have hI : WI g ad B0 (up2 (f) K J (.inr (1, [.int po, .int st, .int hw, .int (mn (fr + 1) 90), .int (en + po)]))) s H locs := hI.cast (up2_up2 _ _ _ _ _)
    refine lv_aload_n hx hb dX1_useEnergy_38 rfl (lv_at hl 0 rfl) ?_
    refine gf_X1_22 hC hI (up2_s _ _ _ _) rfl dX1_useEnergy_39 ?_
    exact e_int hC hI ⟨by rw [if_pos c5], rfl, by rw [if_pos c5, if_pos c5]⟩ (Nat.le_of_ble_eq_true rfl) (Nat.le_of_ble_eq_true rfl) dX1_useEnergy_42
  · refine lv_iconst (v := 0) hx hb dX1_useEnergy_8 (by decide) ?_
    exact e_int hC hI ⟨by rw [if_neg c5], rfl, by rw [if_neg c5, if_neg c5, up2_self he0]⟩ (Nat.le_of_ble_eq_true rfl) (Nat.le_of_ble_eq_true rfl) dX1_useEnergy_9