/-! THE MODEL: foretell .. digest, and how it begins -/
section CG
variable {p : Program} {l : Launch} {e : Env} {R : Room} {s : State} {m : MethodId} {args : Array Value} {below : List Frame} {meth : Method} {c : Code} {H : Heap} {locs : List Loc} {cells slots : Nat} {Q : State → Prop}
variable {g : Gg} {B0 : Nat} {ad : Ad} {f : Wd} {own : String} {cc : ByteArray} {nL : Nat} {ret : Option FieldType}
variable {pc : Nat} {ls : Array Slot} {rest st0 : List Value} {kk ii : Nat}
variable {mc ms n index : Nat} {C : String} {y : MethodName} {bytes : ByteArray} {maxL : Nat} {rt : Option FieldType} {rm : Room} {As : List Value} {ci : Nat} {q : vw_C} {fs : List Value}
theorem c_Vg {Rr : Option Value → Ad → Wd → Prop} (hl : l.stackTraces = false) (hC : Cx p s m args meth c own cc nL ret g B0) (hI : WI g ad B0 f s H locs) (hls : ls.size = nL) (hM : MM l g B0 y (wsM y bytes maxL rt) rm (.ref (ad kk ii) :: As) ad f Rr noX mc ms) (cw : CallW R s args own C index y bytes maxL rt (wsM y bytes maxL rt) rm mc ms n) (hrecv : f kk ii = some (.inr (ci, fs))) (hq : vwCl[ci]? = some q) (hqC : q.1 = C) (hn : As.length = n) (hst : st0 = As.reverse ++ .ref (ad kk ii) :: rest) (hW : (rest.map fun v => v.category).sum ≤ 8) (hdg : decode cc pc = .ok (.invokevirtual index, 3)) (hf : cells + mc ≤ R.cells ∧ slots + ms ≤ R.slots)
    (kont : ∀ (v : Option Value) (a : Ad) (w : Wd) (H1 : Heap) (locs1 : List Loc), Rr v a w → WI g a B0 w s H1 locs1 → W p l e R s m args below meth c H1 locs1 (cells + mc) (slots + ms) Q (F0 m (pc + 3) ls (v.toList ++ rest))) : W p l e R s m args below meth c H locs cells slots Q (F0 m pc ls st0) :=
  r_callV hl hC hI hls hM cw hrecv hq hqC hn hst hW hdg hf kont (fun _ _ _ _ _ _ _ h => h.elim)
theorem c_Sg {Rr : Option Value → Ad → Wd → Prop} (hl : l.stackTraces = false) (hC : Cx p s m args meth c own cc nL ret g B0) (hI : WI g ad B0 f s H locs) (hls : ls.size = nL) (hM : MM l g B0 y (wsM y bytes maxL rt) rm As ad f Rr noX mc ms) (cw : CallB R s args own index y bytes maxL rt (wsM y bytes maxL rt) rm mc ms n ∧ (Cond.static y).before args s = true) (hn : As.length = n) (hst : st0 = As.reverse ++ rest) (hW : (rest.map fun v => v.category).sum ≤ 8) (hdg : decode cc pc = .ok (.invokestatic index, 3)) (hf : cells + mc ≤ R.cells ∧ slots + ms ≤ R.slots)
    (kont : ∀ (v : Option Value) (a : Ad) (w : Wd) (H1 : Heap) (locs1 : List Loc), Rr v a w → WI g a B0 w s H1 locs1 → W p l e R s m args below meth c H1 locs1 (cells + mc) (slots + ms) Q (F0 m (pc + 3) ls (v.toList ++ rest))) : W p l e R s m args below meth c H locs cells slots Q (F0 m pc ls st0) :=
  r_callS hl hC hI hls hM cw hn hst hW hdg hf kont (fun _ _ _ _ _ _ _ h => h.elim)
end CG
theorem objM_k {a ad : Ad} {σ : Sg} {pd : Int64} {th : Int32} (ha : ∀ k i, ¬ k = 60 → a k i = ad k i) : objM a σ pd th = objM ad σ pd th := by
  unfold objM
  rw [ha 24 0 (by decide), ha 26 0 (by decide), ha 27 0 (by decide), ha 28 0 (by decide), ha 29 0 (by decide), ha 31 0 (by decide), ha 32 0 (by decide), ha 33 0 (by decide), ha 34 0 (by decide), ha 35 0 (by decide), ha 36 0 (by decide), ha 38 0 (by decide), ha 39 0 (by decide), ha 40 0 (by decide), ha 41 0 (by decide)]
theorem fM_back2 {g : Gg} {a ad : Ad} {σ : Sg} {pd : Int64} {th : Int32} {h : Wd} {x : va_E} (ha : ∀ k i, ¬ k = 60 → a k i = ad k i) (hh : ∀ i, h 60 i = none) : ∀ k i e, fM g ad σ pd th h k i = some e → fM g a σ pd th (up2 h 60 3 x) k i = some e ∧ ad k i = a k i := by
  intro k i e he
  have h60 : ¬ k = 60 := by
    rintro rfl
    unfold fM at he
    rw [if_pos (Or.inr (by decide)), hh i] at he
    cases he
  refine ⟨?_, (ha k i h60).symm⟩
  unfold fM at he ⊢
  rw [objM_k ha, up2_n _ _ (fun z => h60 z.1)]
  exact he
def frC (σ : Sg) (u : Int32) (k : Nat) : Prop := σ 18 k = u ∧ ¬ σ 19 k = -1
theorem frC_dec (σ : Sg) (u : Int32) (k : Nat) : Nonempty (Decidable (frC σ u k)) := ⟨inferInstanceAs (Decidable (_ ∧ _))⟩
def frSum (σ : Sg) (u : Int32) : Nat → Int32
  | 0 => 0
  | k + 1 => if σ 18 k = u ∧ ¬ σ 19 k = -1 then frSum σ u k + leftS σ k else frSum σ u k
def frCnt (σ : Sg) (u : Int32) : Nat → Nat
  | 0 => 0
  | k + 1 => if σ 18 k = u ∧ ¬ σ 19 k = -1 then frCnt σ u k + 1 else frCnt σ u k
theorem frCnt_le (σ : Sg) (u : Int32) : ∀ k, frCnt σ u k ≤ k
  | 0 => Nat.le_refl _
  | k + 1 => by
    have := frCnt_le σ u k
    unfold frCnt
    split <;> omega
def rsFR (σ : Sg) (u : Int32) : UInt64 := if frCnt σ u (nt σ) = 0 then FP.dconst0 else FP.ddiv (FP.i2d (frSum σ u (nt σ))) (FP.i2d (nI (frCnt σ u (nt σ))))
theorem ddiv_ok (x : Int32) {n : Nat} (h0 : n ≠ 0) (hn : n < 2 ^ 31) : vf_n64 (FP.ddiv (FP.i2d x) (FP.i2d (nI n))) := by
  have hne : nI n ≠ 0 := nI_ne0 (by omega) hn
  have hz : ¬ FP.Core.DZero (FP.i2d (nI n)) := by
    rw [FP.Core.zero_bits2]
    exact FP.Core.i2d_ne_zero hne
  have h1 : FP.Core.dIsNaN (FP.ddiv (FP.i2d x) (FP.i2d (nI n))) = false := FP.Core.ddiv_out (FP.Core.i2d_fin x).notNaN (FP.Core.i2d_fin _) hz
  have h2 : ¬ (9218868437227405312 < (FP.ddiv (FP.i2d x) (FP.i2d (nI n))).toNat % 2 ^ 63) := fun z => by
    rw [(FP.Core.isNaN_bits _).mpr z] at h1
    cases h1
  unfold vf_n64
  rw [UInt64.le_iff_toNat_le, UInt64.toNat_and]
  show _ &&& 9223372036854775807 ≤ 9218868437227405312
  rw [show (9223372036854775807 : Nat) = 2 ^ 63 - 1 by decide, Nat.and_two_pow_sub_one_eq_mod]
  exact Nat.not_lt.mp h2
abbrev rD (g : Gg) (ad : Ad) (h : Wd) (kd : Int32) (r : UInt64) (σ : Sg) (pd : Int64) : Option Value → Ad → Wd → Prop := fun v a w => a = ad ∧ ((kd = 0 ∧ v = some (.double r) ∧ w = fM g ad σ pd 0 h) ∨ (kd ≠ 0 ∧ (∃ z, v = some (.double z)) ∧ w = fM g ad σ pd kd h))
def dgC (σ : Sg) (d : Int64) : Nat → Int64
  | 0 => d
  | w + 1 => dgC σ d w * 31 + (cntS σ (nI w)).toInt64
def dgR1 (σ : Sg) (r : Nat) (d : Int64) : Nat → Int64
  | 0 => d
  | w + 1 => dgR1 σ r d w * 31 + (toldR σ r w).toInt64
def dgR (σ : Sg) (d : Int64) : Nat → Int64
  | 0 => d
  | r + 1 => dgR1 σ r (dgR σ d r) 7 * 31 + (if σ 15 r = 0 then 0 else 1)
theorem dgR_0 {σ : Sg} {d : Int64} {r : Nat} (h : σ 15 r = 0) : dgR1 σ r (dgR σ d r) 7 * 31 + 0 = dgR σ d (r + 1) := by
  show _ = dgR1 σ r (dgR σ d r) 7 * 31 + (if σ 15 r = 0 then 0 else 1)
  rw [if_pos h]
theorem dgR_1 {σ : Sg} {d : Int64} {r : Nat} (h : ¬ σ 15 r = 0) : dgR1 σ r (dgR σ d r) 7 * 31 + 1 = dgR σ d (r + 1) := by
  show _ = dgR1 σ r (dgR σ d r) 7 * 31 + (if σ 15 r = 0 then 0 else 1)
  rw [if_neg h]
def dgP1 (σ : Sg) (p : Nat) (d : Int64) : Nat → Int64
  | 0 => d
  | w + 1 => dgP1 σ p d w * 31 + (toldP σ p (nI w)).toInt64
def dgP (σ : Sg) (d : Int64) : Nat → Int64
  | 0 => d
  | p + 1 => dgP1 σ p (dgP σ d p) 5
def dgS (σ : Sg) (pd : Int64) : Int64 := dgP σ (dgR σ (dgC σ (10819 + (σ 1 0).toInt64) 5) (nr σ)) (nt σ) * 31 + pd
theorem rL {r v : Int64} {a : Ad} {w : Wd} (h : v = r) : dL r a w (some (.long v)) a w := ⟨by rw [h], rfl, rfl⟩

set_option maxHeartbeats 4000000 in
set_option maxRecDepth 100000 in
theorem tX7_foretell (l : Launch) (g : Gg) (B0 : Nat) (ad : Ad) (σ : Sg) (pd : Int64) (th : Int32) (h : Wd) (hok : OkP σ) (hT : OkT σ) (hh : ∀ i, h 60 i = none) (v w : Int32) : MM l g B0 yX7_foretell (wsM yX7_foretell cX7_foretell 3 (some .int)) ({ frames := 5, cells := 4, slots := 158, locals := 127 } : Room) [.ref (ad 20 0), .int v, .int w] ad (fM g ad σ pd th h) (rM g ad h (kdFO σ v w) (rsFO σ pd v w) σ σ pd pd) (noX) 4 158 := by
  refine MM.start (by decide) (Nat.le_of_ble_eq_true rfl) ?_
  intro hl9 p e s m below meth c ls hC hno hI hl0
  have hx := hC.1.1
  have hb := hC.1.2.1
  have hts := hC.1.2.2.2.2
  have hl : lv_has ls 3 [(0, .ref (ad 20 0)), (1, .int v), (2, .int w)] := hl0
  obtain ⟨H, hH⟩ : ∃ H, H = s.heap := ⟨_, rfl⟩
  obtain ⟨locs, hLo⟩ : ∃ L : List Loc, L = [] := ⟨_, rfl⟩
  rw [← hH, ← hLo] at hI ⊢
  clear hH hLo hl0
  obtain ⟨h17, h60, h10, h6, h5, h12, hpr, hrm⟩ := id hok
  refine lv_aload_n hx hb dX7_foretell_0 rfl (lv_at hl 0 rfl) ?_
  refine lv_iconst (v := 0) hx hb dX7_foretell_1 (by decide) ?_
  refine pf_X7_60 hC hI fM_o (Nat.le_of_ble_eq_true rfl) dX7_foretell_2 (fun H locs hI => ?_)
  have hI := hI.cast fM_pth
  refine lv_aload_n hx hb dX7_foretell_5 rfl (lv_at hl 0 rfl) ?_
  refine lv_iload_n hx hb dX7_foretell_6 rfl (lv_at hl 1 rfl) ?_
  refine c_Vi (rest := []) hl9 hC hI hl.1 (tX7_isRoom l g B0 ad σ pd 0 h v) (cw_X7_106 hts rfl rfl ⟨(Nat.le_of_ble_eq_true rfl), (Nat.le_of_ble_eq_true rfl)⟩) fM_o rfl rfl rfl rfl (Nat.le_of_ble_eq_true rfl) dX7_foretell_7 ⟨(Nat.le_of_ble_eq_true rfl), (Nat.le_of_ble_eq_true rfl)⟩ (fun H locs hI => ?_)
  refine lv_if_ne (tgt := 19) hx hb dX7_foretell_10 (by decide) (fun c10 => ?_) (fun c10 => ?_)
  · have c10 := bi_1.mp c10
    have hk0 : kdFO σ v w = (if 0 ≤ w ∧ w ≤ 100 then 0 else 2) := if_pos c10
    obtain ⟨r, hr, rfl⟩ := (in_cnt h10 (by omega)).mp c10
    have hcr : cN (nI r) = r := cN_nI (by omega)
    refine lv_iload_n hx hb dX7_foretell_19 rfl (lv_at hl 2 rfl) ?_
    refine lv_iconst (v := 0) hx hb dX7_foretell_20 (by decide) ?_
    refine lv_bipush (v := 100) hx hb dX7_foretell_21 (by decide) ?_
    refine c_Si (rest := []) hl9 hC hI hl.1 (tX7_isIn l g B0 ad _ w 0 100) (cw_X7_66 hts rfl rfl ⟨(Nat.le_of_ble_eq_true rfl), (Nat.le_of_ble_eq_true rfl)⟩) rfl rfl (Nat.le_of_ble_eq_true rfl) dX7_foretell_23 ⟨(Nat.le_of_ble_eq_true rfl), (Nat.le_of_ble_eq_true rfl)⟩ (fun H locs hI => ?_)
    refine lv_if_eq (tgt := 41) hx hb dX7_foretell_26 (by decide) (fun c26 => ?_) (fun c26 => ?_)
    · have c26 := bi_0.mp c26
      refine lv_aload_n hx hb dX7_foretell_41 rfl (lv_at hl 0 rfl) ?_
      refine lv_iconst (v := 2) hx hb dX7_foretell_42 (by decide) ?_
      refine c_Vi (rest := []) hl9 hC hI hl.1 (tX7_no l g B0 ad σ pd 0 h 2) (cw_X7_85 hts rfl rfl ⟨(Nat.le_of_ble_eq_true rfl), (Nat.le_of_ble_eq_true rfl)⟩) fM_o rfl rfl rfl rfl (Nat.le_of_ble_eq_true rfl) dX7_foretell_43 ⟨(Nat.le_of_ble_eq_true rfl), (Nat.le_of_ble_eq_true rfl)⟩ (fun H locs hI => ?_)
      exact e_int hC hI (rM_no (hk0.trans (if_neg c26)) (by decide)) (Nat.le_of_ble_eq_true rfl) (Nat.le_of_ble_eq_true rfl) dX7_foretell_46
    · have c26 := bi_1.mp c26
      obtain ⟨M, hM, rfl⟩ := nI_of (x := w) (Int32.not_lt.mpr c26.1)
      have hM100 : M ≤ 100 := (nI_leI hM (b := 100) (by decide)).mp c26.2
      have hcM : cN (nI M) = M := cN_nI hM
      refine lv_aload_n hx hb dX7_foretell_29 rfl (lv_at hl 0 rfl) ?_
      refine lv_iload_n hx hb dX7_foretell_30 rfl (lv_at hl 1 rfl) ?_
      refine lv_iload_n hx hb dX7_foretell_31 rfl (lv_at hl 2 rfl) ?_
      refine lv_iconst (v := (-1)) hx hb dX7_foretell_32 (by decide) ?_
      refine c_Vg (rest := []) hl9 hC hI hl.1 (tX7_ahead l g B0 ad σ pd 0 h hok hT hh r M (by omega) (by omega) (-1) (Or.inl rfl)) (cw_X7_172 hts rfl rfl ⟨(Nat.le_of_ble_eq_true rfl), (Nat.le_of_ble_eq_true rfl)⟩) fM_o rfl rfl rfl rfl (Nat.le_of_ble_eq_true rfl) dX7_foretell_33 ⟨(Nat.le_of_ble_eq_true rfl), (Nat.le_of_ble_eq_true rfl)⟩ (fun v a w H locs hR hI => ?_)
      obtain ⟨ha5, rfl, rfl⟩ := hR
      refine lv_iconst (v := 1) hx hb dX7_foretell_36 (by decide) ?_
      refine r_iald hC hI (kk := 60) (ii := 3) (fM_hi (by decide)) (j := 1) rfl (by decide) (by decide) dX7_foretell_37 ?_
      have hI := hI.sub (ad' := ad) (f' := fM g ad σ pd 0 h) (fM_back2 ha5 hh)
      refine lv_goto (tgt := 46) hx hb dX7_foretell_38 (by decide) ?_
      exact e_int hC hI (rM_ok (hk0.trans (if_pos c26)) (by unfold rsFO; rw [hcr, hcM]; rfl) rfl) (Nat.le_of_ble_eq_true rfl) (Nat.le_of_ble_eq_true rfl) dX7_foretell_46
  · have c10 := bi_0.mp c10
    refine lv_aload_n hx hb dX7_foretell_13 rfl (lv_at hl 0 rfl) ?_
    refine lv_iconst (v := 1) hx hb dX7_foretell_14 (by decide) ?_
    refine c_Vi (rest := []) hl9 hC hI hl.1 (tX7_no l g B0 ad σ pd 0 h 1) (cw_X7_85 hts rfl rfl ⟨(Nat.le_of_ble_eq_true rfl), (Nat.le_of_ble_eq_true rfl)⟩) fM_o rfl rfl rfl rfl (Nat.le_of_ble_eq_true rfl) dX7_foretell_15 ⟨(Nat.le_of_ble_eq_true rfl), (Nat.le_of_ble_eq_true rfl)⟩ (fun H locs hI => ?_)
    exact e_int hC hI (rM_no (if_neg c10) (by decide)) (Nat.le_of_ble_eq_true rfl) (Nat.le_of_ble_eq_true rfl) dX7_foretell_18
set_option maxHeartbeats 4000000 in
set_option maxRecDepth 100000 in
theorem tX7_lasts (l : Launch) (g : Gg) (B0 : Nat) (ad : Ad) (σ : Sg) (pd : Int64) (th : Int32) (h : Wd) (hok : OkP σ) (hT : OkT σ) (hh : ∀ i, h 60 i = none) (u : Int32) : MM l g B0 yX7_lasts (wsM yX7_lasts cX7_lasts 2 (some .int)) ({ frames := 5, cells := 4, slots := 158, locals := 127 } : Room) [.ref (ad 20 0), .int u] ad (fM g ad σ pd th h) (rM g ad h (kdLA σ u) (rsLA σ pd u) σ σ pd pd) (noX) 4 158 := by
  refine MM.start (by decide) (Nat.le_of_ble_eq_true rfl) ?_
  intro hl9 p e s m below meth c ls hC hno hI hl0
  have hx := hC.1.1
  have hb := hC.1.2.1
  have hts := hC.1.2.2.2.2
  have hl : lv_has ls 2 [(0, .ref (ad 20 0)), (1, .int u)] := hl0
  obtain ⟨H, hH⟩ : ∃ H, H = s.heap := ⟨_, rfl⟩
  obtain ⟨locs, hLo⟩ : ∃ L : List Loc, L = [] := ⟨_, rfl⟩
  rw [← hH, ← hLo] at hI ⊢
  clear hH hLo hl0
  obtain ⟨h17, h60, h10, h6, h5, h12, hpr, hrm⟩ := id hok
  refine lv_aload_n hx hb dX7_lasts_0 rfl (lv_at hl 0 rfl) ?_
  refine lv_iconst (v := 0) hx hb dX7_lasts_1 (by decide) ?_
  refine pf_X7_60 hC hI fM_o (Nat.le_of_ble_eq_true rfl) dX7_lasts_2 (fun H locs hI => ?_)
  have hI := hI.cast fM_pth
  refine lv_aload_n hx hb dX7_lasts_5 rfl (lv_at hl 0 rfl) ?_
  refine lv_iload_n hx hb dX7_lasts_6 rfl (lv_at hl 1 rfl) ?_
  refine c_Vi (rest := []) hl9 hC hI hl.1 (tX7_isPallet l g B0 ad σ pd 0 h u) (cw_X7_125 hts rfl rfl ⟨(Nat.le_of_ble_eq_true rfl), (Nat.le_of_ble_eq_true rfl)⟩) fM_o rfl rfl rfl rfl (Nat.le_of_ble_eq_true rfl) dX7_lasts_7 ⟨(Nat.le_of_ble_eq_true rfl), (Nat.le_of_ble_eq_true rfl)⟩ (fun H locs hI => ?_)
  refine lv_if_ne (tgt := 19) hx hb dX7_lasts_10 (by decide) (fun c10 => ?_) (fun c10 => ?_)
  · have c10 := bi_1.mp c10
    have hk0 : kdLA σ u = (if σ 19 (cN u) = -1 then 2 else 0) := if_pos c10
    obtain ⟨a9, ha9, rfl⟩ := (in_cnt h17 (by omega)).mp c10
    have hca9 : cN (nI a9) = a9 := cN_nI (by omega)
    rw [hca9] at hk0
    refine lv_aload_n hx hb dX7_lasts_19 rfl (lv_at hl 0 rfl) ?_
    refine gf_X7_51 hC hI fM_o rfl dX7_lasts_20 ?_
    refine lv_iload_n hx hb dX7_lasts_23 rfl (lv_at hl 1 rfl) ?_
    refine r_iald hC hI fM_19 (j := a9) rfl (by omega) (by decide) dX7_lasts_24 ?_
    refine lv_iconst (v := (-1)) hx hb dX7_lasts_25 (by decide) ?_
    refine lv_icmp_ne (tgt := 37) hx hb dX7_lasts_26 (by decide) (fun c26 => ?_) (fun c26 => ?_)
    · obtain ⟨hm1, hm2⟩ := hrm a9 ha9 c26
      refine lv_aload_n hx hb dX7_lasts_37 rfl (lv_at hl 0 rfl) ?_
      refine lv_aload_n hx hb dX7_lasts_38 rfl (lv_at hl 0 rfl) ?_
      refine gf_X7_51 hC hI fM_o rfl dX7_lasts_39 ?_
      refine lv_iload_n hx hb dX7_lasts_42 rfl (lv_at hl 1 rfl) ?_
      refine r_iald hC hI fM_19 (j := a9) rfl (by omega) (by decide) dX7_lasts_43 ?_
      rw [hm1]
      refine lv_sipush (v := 500) hx hb dX7_lasts_44 (by decide) ?_
      refine lv_iload_n hx hb dX7_lasts_47 rfl (lv_at hl 1 rfl) ?_
      refine c_Vg (rest := []) hl9 hC hI hl.1 (tX7_ahead l g B0 ad σ pd 0 h hok hT hh (rmo σ a9) 500 (by omega) (by omega) (nI a9) (Or.inr ⟨a9, ha9, rfl⟩)) (cw_X7_172 hts rfl rfl ⟨(Nat.le_of_ble_eq_true rfl), (Nat.le_of_ble_eq_true rfl)⟩) fM_o rfl rfl rfl rfl (Nat.le_of_ble_eq_true rfl) dX7_lasts_48 ⟨(Nat.le_of_ble_eq_true rfl), (Nat.le_of_ble_eq_true rfl)⟩ (fun v a w H locs hR hI => ?_)
      obtain ⟨ha5, rfl, rfl⟩ := hR
      refine lv_iconst (v := 0) hx hb dX7_lasts_51 (by decide) ?_
      refine r_iald hC hI (kk := 60) (ii := 3) (fM_hi (by decide)) (j := 0) rfl (by decide) (by decide) dX7_lasts_52 ?_
      have hI := hI.sub (ad' := ad) (f' := fM g ad σ pd 0 h) (fM_back2 ha5 hh)
      exact e_int hC hI (rM_ok (hk0.trans (if_neg c26)) (by unfold rsLA; rw [hca9]; rfl) rfl) (Nat.le_of_ble_eq_true rfl) (Nat.le_of_ble_eq_true rfl) dX7_lasts_53
    · refine lv_aload_n hx hb dX7_lasts_29 rfl (lv_at hl 0 rfl) ?_
      refine lv_iconst (v := 2) hx hb dX7_lasts_30 (by decide) ?_
      refine c_Vi (rest := []) hl9 hC hI hl.1 (tX7_no l g B0 ad σ pd 0 h 2) (cw_X7_85 hts rfl rfl ⟨(Nat.le_of_ble_eq_true rfl), (Nat.le_of_ble_eq_true rfl)⟩) fM_o rfl rfl rfl rfl (Nat.le_of_ble_eq_true rfl) dX7_lasts_31 ⟨(Nat.le_of_ble_eq_true rfl), (Nat.le_of_ble_eq_true rfl)⟩ (fun H locs hI => ?_)
      refine lv_goto (tgt := 53) hx hb dX7_lasts_34 (by decide) ?_
      exact e_int hC hI (rM_no (hk0.trans (if_pos c26)) (by decide)) (Nat.le_of_ble_eq_true rfl) (Nat.le_of_ble_eq_true rfl) dX7_lasts_53
  · have c10 := bi_0.mp c10
    refine lv_aload_n hx hb dX7_lasts_13 rfl (lv_at hl 0 rfl) ?_
    refine lv_iconst (v := 1) hx hb dX7_lasts_14 (by decide) ?_
    refine c_Vi (rest := []) hl9 hC hI hl.1 (tX7_no l g B0 ad σ pd 0 h 1) (cw_X7_85 hts rfl rfl ⟨(Nat.le_of_ble_eq_true rfl), (Nat.le_of_ble_eq_true rfl)⟩) fM_o rfl rfl rfl rfl (Nat.le_of_ble_eq_true rfl) dX7_lasts_15 ⟨(Nat.le_of_ble_eq_true rfl), (Nat.le_of_ble_eq_true rfl)⟩ (fun H locs hI => ?_)
    exact e_int hC hI (rM_no (if_neg c10) (by decide)) (Nat.le_of_ble_eq_true rfl) (Nat.le_of_ble_eq_true rfl) dX7_lasts_18
set_option maxHeartbeats 4000000 in
set_option maxRecDepth 100000 in
theorem tX7_now (l : Launch) (g : Gg) (B0 : Nat) (ad : Ad) (σ : Sg) (pd : Int64) (th : Int32) (h : Wd)  : MM l g B0 yX7_now (wsM yX7_now cX7_now 1 (some .int)) ({ frames := 0, cells := 0, slots := 0, locals := 0 } : Room) [.ref (ad 20 0)] ad (fM g ad σ pd th h) (dI (σ 1 0) ad (fM g ad σ pd 0 h)) (noX) 0 0 := by
  refine MM.start (by decide) (Nat.le_of_ble_eq_true rfl) ?_
  intro hl9 p e s m below meth c ls hC hno hI hl0
  have hx := hC.1.1
  have hb := hC.1.2.1
  have hts := hC.1.2.2.2.2
  have hl : lv_has ls 1 [(0, .ref (ad 20 0))] := hl0
  obtain ⟨H, hH⟩ : ∃ H, H = s.heap := ⟨_, rfl⟩
  obtain ⟨locs, hLo⟩ : ∃ L : List Loc, L = [] := ⟨_, rfl⟩
  rw [← hH, ← hLo] at hI ⊢
  clear hH hLo hl0
  refine lv_aload_n hx hb dX7_now_0 rfl (lv_at hl 0 rfl) ?_
  refine lv_iconst (v := 0) hx hb dX7_now_1 (by decide) ?_
  refine pf_X7_60 hC hI fM_o (Nat.le_of_ble_eq_true rfl) dX7_now_2 (fun H locs hI => ?_)
  have hI := hI.cast fM_pth
  refine lv_aload_n hx hb dX7_now_5 rfl (lv_at hl 0 rfl) ?_
  refine gf_X7_88 hC hI fM_o rfl dX7_now_6 ?_
  exact e_int hC hI ⟨rfl, rfl, rfl⟩ (Nat.le_of_ble_eq_true rfl) (Nat.le_of_ble_eq_true rfl) dX7_now_9
set_option maxHeartbeats 4000000 in
set_option maxRecDepth 100000 in
theorem tX7_paid (l : Launch) (g : Gg) (B0 : Nat) (ad : Ad) (σ : Sg) (pd : Int64) (th : Int32) (h : Wd)  : MM l g B0 yX7_paid (wsM yX7_paid cX7_paid 1 (some .long)) ({ frames := 0, cells := 0, slots := 0, locals := 0 } : Room) [.ref (ad 20 0)] ad (fM g ad σ pd th h) (dL pd ad (fM g ad σ pd 0 h)) (noX) 0 0 := by
  refine MM.start (by decide) (Nat.le_of_ble_eq_true rfl) ?_
  intro hl9 p e s m below meth c ls hC hno hI hl0
  have hx := hC.1.1
  have hb := hC.1.2.1
  have hts := hC.1.2.2.2.2
  have hl : lv_has ls 1 [(0, .ref (ad 20 0))] := hl0
  obtain ⟨H, hH⟩ : ∃ H, H = s.heap := ⟨_, rfl⟩
  obtain ⟨locs, hLo⟩ : ∃ L : List Loc, L = [] := ⟨_, rfl⟩
  rw [← hH, ← hLo] at hI ⊢
  clear hH hLo hl0
  refine lv_aload_n hx hb dX7_paid_0 rfl (lv_at hl 0 rfl) ?_
  refine lv_iconst (v := 0) hx hb dX7_paid_1 (by decide) ?_
  refine pf_X7_60 hC hI fM_o (Nat.le_of_ble_eq_true rfl) dX7_paid_2 (fun H locs hI => ?_)
  have hI := hI.cast fM_pth
  refine lv_aload_n hx hb dX7_paid_5 rfl (lv_at hl 0 rfl) ?_
  refine gf_X7_154 hC hI fM_o rfl dX7_paid_6 ?_
  exact e_long hC hI ⟨rfl, rfl, rfl⟩ (Nat.le_of_ble_eq_true rfl) (Nat.le_of_ble_eq_true rfl) dX7_paid_9
set_option maxHeartbeats 8000000 in
set_option maxRecDepth 100000 in
theorem tX7_freshness (l : Launch) (g : Gg) (B0 : Nat) (ad : Ad) (σ : Sg) (pd : Int64) (th : Int32) (h : Wd) (hok : OkP σ) (u : Int32) : MM l g B0 yX7_freshness (wsM yX7_freshness cX7_freshness 5 (some .double)) ({ frames := 2, cells := 0, slots := 0, locals := 43 } : Room) [.ref (ad 20 0), .int u] ad (fM g ad σ pd th h) (rD g ad h (kdPR σ u) (rsFR σ u) σ pd) (noX) 0 0 := by
  refine MM.start (by decide) (Nat.le_of_ble_eq_true rfl) ?_
  intro hl9 p e s m below meth c ls hC hno hI hl0
  have hx := hC.1.1
  have hb := hC.1.2.1
  have hts := hC.1.2.2.2.2
  have hl : lv_has ls 5 [(0, .ref (ad 20 0)), (1, .int u)] := hl0
  obtain ⟨H, hH⟩ : ∃ H, H = s.heap := ⟨_, rfl⟩
  obtain ⟨locs, hLo⟩ : ∃ L : List Loc, L = [] := ⟨_, rfl⟩
  rw [← hH, ← hLo] at hI ⊢
  clear hH hLo hl0
  obtain ⟨h17, h60, h10, h6, h5, h12, hpr, hrm⟩ := id hok
  refine lv_aload_n hx hb dX7_freshness_0 rfl (lv_at hl 0 rfl) ?_
  refine lv_aload_n hx hb dX7_freshness_1 rfl (lv_at hl 0 rfl) ?_
  refine lv_iload_n hx hb dX7_freshness_2 rfl (lv_at hl 1 rfl) ?_
  refine c_Vi (rest := [.ref (ad 20 0)]) hl9 hC hI hl.1 (tX7_isProduct l g B0 ad σ pd th h u) (cw_X7_119 hts rfl rfl ⟨(Nat.le_of_ble_eq_true rfl), (Nat.le_of_ble_eq_true rfl)⟩) fM_o rfl rfl rfl rfl (Nat.le_of_ble_eq_true rfl) dX7_freshness_3 ⟨(Nat.le_of_ble_eq_true rfl), (Nat.le_of_ble_eq_true rfl)⟩ (fun H locs hI => ?_)
  refine lv_if_eq (tgt := 13) hx hb dX7_freshness_6 (by decide) (fun c6 => ?_) (fun c6 => ?_)
  · have c6 := bi_0.mp c6
    have hk : kdPR σ u = 1 := if_neg c6
    refine lv_iconst (v := 1) hx hb dX7_freshness_13 (by decide) ?_
    refine pf_X7_60 hC hI fM_o (Nat.le_of_ble_eq_true rfl) dX7_freshness_14 (fun H locs hI => ?_)
    have hI := hI.cast fM_pth
    refine lv_aload_n hx hb dX7_freshness_17 rfl (lv_at hl 0 rfl) ?_
    refine gf_X7_60 hC hI fM_o rfl dX7_freshness_18 ?_
    refine lv_if_eq (tgt := 26) hx hb dX7_freshness_21 (by decide) (fun c21 => (absurd c21 (by decide))) (fun c21 => ?_)
    refine lv_dconst0 hx hb dX7_freshness_24 ?_
    exact e_dbl hC hI ⟨rfl, Or.inr ⟨by rw [hk]; decide, ⟨_, rfl⟩, by rw [hk]⟩⟩ (Nat.le_of_ble_eq_true rfl) (Nat.le_of_ble_eq_true rfl) dX7_freshness_25
  · have c6 := bi_1.mp c6
    have hk : kdPR σ u = 0 := if_pos c6
    refine lv_iconst (v := 0) hx hb dX7_freshness_9 (by decide) ?_
    refine lv_goto (tgt := 14) hx hb dX7_freshness_10 (by decide) ?_
    refine pf_X7_60 hC hI fM_o (Nat.le_of_ble_eq_true rfl) dX7_freshness_14 (fun H locs hI => ?_)
    have hI := hI.cast fM_pth
    refine lv_aload_n hx hb dX7_freshness_17 rfl (lv_at hl 0 rfl) ?_
    refine gf_X7_60 hC hI fM_o rfl dX7_freshness_18 ?_
    refine lv_if_eq (tgt := 26) hx hb dX7_freshness_21 (by decide) (fun c21 => ?_) (fun c21 => (absurd rfl c21))
    refine lv_iconst (v := 0) hx hb dX7_freshness_26 (by decide) ?_
    refine lv_istore_n (lv' := [(2, .int (frSum σ u 0)), (0, .ref (ad 20 0)), (1, .int u)]) hx hb dX7_freshness_27 rfl hl (by decide) rfl (fun ls hl => ?_)
    refine lv_iconst (v := 0) hx hb dX7_freshness_28 (by decide) ?_
    refine lv_istore_n (lv' := [(3, .int (nI (frCnt σ u 0))), (2, .int (frSum σ u 0)), (0, .ref (ad 20 0)), (1, .int u)]) hx hb dX7_freshness_29 rfl hl (by decide) rfl (fun ls hl => ?_)
    refine lv_iconst (v := 0) hx hb dX7_freshness_30 (by decide) ?_
    refine lv_istore (lv' := [(4, .int (nI 0)), (3, .int (nI (frCnt σ u 0))), (2, .int (frSum σ u 0)), (0, .ref (ad 20 0)), (1, .int u)]) hx hb dX7_freshness_31 hl (by decide) rfl (fun ls hl => ?_)
    have L33 : ∀ (n : Nat) (k : Nat), k ≤ nt σ → nt σ + 1 ≤ k + n → ∀ (H : Heap) (locs : List Loc), WI g ad B0 (fM g ad σ pd 0 h) s H locs → ∀ (ls : Array Slot), lv_has ls 5 [(4, .int (nI k)), (3, .int (nI (frCnt σ u k))), (2, .int (frSum σ u k)), (0, .ref (ad 20 0)), (1, .int u)] → W p l e ({ frames := 2, cells := 0, slots := 0, locals := 43 } : Room) s m ([.ref (ad 20 0), .int u] : List Value).toArray below meth c H locs 0 0 (vx_MQ below (QI g B0 (rD g ad h (kdPR σ u) (rsFR σ u) σ pd)) (XI g B0 (noX)) ([.ref (ad 20 0), .int u] : List Value).toArray s 0 0 (fun q => B0 ≤ q)) (F0 m 33 ls []) := by
      intro n
      induction n with
      | zero =>
        intro k hk9 hfu
        exact absurd hfu (by omega)
      | succ n ih33 =>
        intro k hk9 hfu H locs hI ls hl
        refine lv_iload hx hb dX7_freshness_33 (lv_at hl 0 rfl) ?_
        refine lv_aload_n hx hb dX7_freshness_35 rfl (lv_at hl 3 rfl) ?_
        refine gf_X7_73 hC hI fM_o rfl dX7_freshness_36 ?_
        refine lv_icmp_ge (tgt := 85) hx hb dX7_freshness_39 (by decide) (fun c39 => ?_) (fun c39 => ?_)
        · have hk2 : nt σ ≤ k := ge_T h17 (by omega) (by omega) c39
          have hkn : k = nt σ := by omega
          have hcl := frCnt_le σ u k
          refine lv_iload_n hx hb dX7_freshness_85 rfl (lv_at hl 1 rfl) ?_
          refine lv_if_ne (tgt := 93) hx hb dX7_freshness_86 (by decide) (fun c86 => ?_) (fun c86 => ?_)
          · have hc0 : ¬ frCnt σ u (nt σ) = 0 := by rw [← hkn]; exact fun z => c86 (by rw [z]; rfl)
            refine lv_iload_n hx hb dX7_freshness_93 rfl (lv_at hl 2 rfl) ?_
            refine lv_i2d hx hb dX7_freshness_94 ?_
            refine lv_iload_n hx hb dX7_freshness_95 rfl (lv_at hl 1 rfl) ?_
            refine lv_i2d hx hb dX7_freshness_96 ?_
            refine lv_ddiv hx hb dX7_freshness_97 (ddiv_ok _ (by rw [hkn]; exact hc0) (by omega)) ?_
            exact e_dbl hC hI ⟨rfl, Or.inl ⟨hk, by unfold rsFR; rw [if_neg hc0, hkn], rfl⟩⟩ (Nat.le_of_ble_eq_true rfl) (Nat.le_of_ble_eq_true rfl) dX7_freshness_98
          · have hc0 : frCnt σ u (nt σ) = 0 := by rw [← hkn]; exact (nI_eq (by omega) (b := 0) (by decide)).mp c86
            refine lv_dconst0 hx hb dX7_freshness_89 ?_
            refine lv_goto (tgt := 98) hx hb dX7_freshness_90 (by decide) ?_
            exact e_dbl hC hI ⟨rfl, Or.inl ⟨hk, by unfold rsFR; rw [if_pos hc0], rfl⟩⟩ (Nat.le_of_ble_eq_true rfl) (Nat.le_of_ble_eq_true rfl) dX7_freshness_98
        · have hk2 : k < nt σ := ge_F h17 (by omega) (by omega) c39
          refine lv_aload_n hx hb dX7_freshness_42 rfl (lv_at hl 3 rfl) ?_
          refine gf_X7_48 hC hI fM_o rfl dX7_freshness_43 ?_
          refine lv_iload hx hb dX7_freshness_46 (lv_at hl 0 rfl) ?_
          refine r_iald hC hI fM_18 (j := k) rfl (by omega) (by decide) dX7_freshness_48 ?_
          refine lv_iload_n hx hb dX7_freshness_49 rfl (lv_at hl 4 rfl) ?_
          refine lv_icmp_ne (tgt := 79) hx hb dX7_freshness_50 (by decide) (fun c50 => ?_) (fun c50 => ?_)
          · have hl : lv_has ls 5 [(4, .int (nI k)), (3, .int (nI (frCnt σ u (k + 1)))), (2, .int (frSum σ u k)), (0, .ref (ad 20 0)), (1, .int u)] := by rw [show nI (frCnt σ u (k + 1)) = nI (frCnt σ u k) from (congrArg nI (if_neg (fun z => c50 z.1)))]; exact hl
            have hl : lv_has ls 5 [(4, .int (nI k)), (3, .int (nI (frCnt σ u (k + 1)))), (2, .int (frSum σ u (k + 1))), (0, .ref (ad 20 0)), (1, .int u)] := by rw [show frSum σ u (k + 1) = frSum σ u k from (if_neg (fun z => c50 z.1))]; exact hl
            refine lv_iinc (v := nI (k + 1)) (lv' := [(4, .int (nI (k + 1))), (3, .int (nI (frCnt σ u (k + 1)))), (2, .int (frSum σ u (k + 1))), (0, .ref (ad 20 0)), (1, .int u)]) hx hb dX7_freshness_79 hl (k := 0) rfl (nI_1 _) (by decide) rfl (fun ls hl => ?_)
            refine lv_goto (tgt := 33) hx hb dX7_freshness_82 (by decide) ?_
            exact ih33 (k + 1) (by omega) (by omega) _ _ hI ls (lv_sub hl [0, 1, 2, 3, 4] rfl)
          · refine lv_aload_n hx hb dX7_freshness_53 rfl (lv_at hl 3 rfl) ?_
            refine gf_X7_51 hC hI fM_o rfl dX7_freshness_54 ?_
            refine lv_iload hx hb dX7_freshness_57 (lv_at hl 0 rfl) ?_
            refine r_iald hC hI fM_19 (j := k) rfl (by omega) (by decide) dX7_freshness_59 ?_
            refine lv_iconst (v := (-1)) hx hb dX7_freshness_60 (by decide) ?_
            refine lv_icmp_ne (tgt := 67) hx hb dX7_freshness_61 (by decide) (fun c61 => ?_) (fun c61 => ?_)
            · refine lv_iload_n hx hb dX7_freshness_67 rfl (lv_at hl 2 rfl) ?_
              refine lv_aload_n hx hb dX7_freshness_68 rfl (lv_at hl 3 rfl) ?_
              refine lv_iload hx hb dX7_freshness_69 (lv_at hl 0 rfl) ?_
              refine c_Vi (rest := [.int (frSum σ u k)]) hl9 hC hI hl.1 (tX7_leftOf l g B0 ad σ pd 0 h hok k hk2) (cw_X7_128 hts rfl rfl ⟨(Nat.le_of_ble_eq_true rfl), (Nat.le_of_ble_eq_true rfl)⟩) fM_o rfl rfl rfl rfl (Nat.le_of_ble_eq_true rfl) dX7_freshness_71 ⟨(Nat.le_of_ble_eq_true rfl), (Nat.le_of_ble_eq_true rfl)⟩ (fun H locs hI => ?_)
              refine lv_iadd hx hb dX7_freshness_74 ?_
              rw [show frSum σ u k + leftS σ k = frSum σ u (k + 1) from (if_pos ⟨c50, c61⟩).symm]
              refine lv_istore_n (lv' := [(2, .int (frSum σ u (k + 1))), (4, .int (nI k)), (3, .int (nI (frCnt σ u k))), (0, .ref (ad 20 0)), (1, .int u)]) hx hb dX7_freshness_75 rfl hl (by decide) rfl (fun ls hl => ?_)
              refine lv_iinc (v := nI (frCnt σ u (k + 1))) (lv' := [(3, .int (nI (frCnt σ u (k + 1)))), (2, .int (frSum σ u (k + 1))), (4, .int (nI k)), (0, .ref (ad 20 0)), (1, .int u)]) hx hb dX7_freshness_76 hl (k := 2) rfl (by rw [show frCnt σ u (k + 1) = frCnt σ u k + 1 from if_pos ⟨c50, c61⟩]; exact nI_1 _) (by decide) rfl (fun ls hl => ?_)
              refine lv_iinc (v := nI (k + 1)) (lv' := [(4, .int (nI (k + 1))), (3, .int (nI (frCnt σ u (k + 1)))), (2, .int (frSum σ u (k + 1))), (0, .ref (ad 20 0)), (1, .int u)]) hx hb dX7_freshness_79 hl (k := 2) rfl (nI_1 _) (by decide) rfl (fun ls hl => ?_)
              refine lv_goto (tgt := 33) hx hb dX7_freshness_82 (by decide) ?_
              exact ih33 (k + 1) (by omega) (by omega) _ _ hI ls (lv_sub hl [0, 1, 2, 3, 4] rfl)
            · have hl : lv_has ls 5 [(4, .int (nI k)), (3, .int (nI (frCnt σ u (k + 1)))), (2, .int (frSum σ u k)), (0, .ref (ad 20 0)), (1, .int u)] := by rw [show nI (frCnt σ u (k + 1)) = nI (frCnt σ u k) from (congrArg nI (if_neg (fun z => z.2 c61)))]; exact hl
              have hl : lv_has ls 5 [(4, .int (nI k)), (3, .int (nI (frCnt σ u (k + 1)))), (2, .int (frSum σ u (k + 1))), (0, .ref (ad 20 0)), (1, .int u)] := by rw [show frSum σ u (k + 1) = frSum σ u k from (if_neg (fun z => z.2 c61))]; exact hl
              refine lv_goto (tgt := 79) hx hb dX7_freshness_64 (by decide) ?_
              refine lv_iinc (v := nI (k + 1)) (lv' := [(4, .int (nI (k + 1))), (3, .int (nI (frCnt σ u (k + 1)))), (2, .int (frSum σ u (k + 1))), (0, .ref (ad 20 0)), (1, .int u)]) hx hb dX7_freshness_79 hl (k := 0) rfl (nI_1 _) (by decide) rfl (fun ls hl => ?_)
              refine lv_goto (tgt := 33) hx hb dX7_freshness_82 (by decide) ?_
              exact ih33 (k + 1) (by omega) (by omega) _ _ hI ls (lv_sub hl [0, 1, 2, 3, 4] rfl)
    exact L33 (nt σ + 1) 0 (by omega) (by omega) _ _ hI ls (lv_sub hl [0, 1, 2, 3, 4] rfl)
set_option maxHeartbeats 8000000 in
set_option maxRecDepth 100000 in
theorem tX7_digest (l : Launch) (g : Gg) (B0 : Nat) (ad : Ad) (σ : Sg) (pd : Int64) (th : Int32) (h : Wd) (hok : OkP σ) (hh : h 60 0 = none) : MM l g B0 yX7_digest (wsM yX7_digest cX7_digest 5 (some .long)) ({ frames := 3, cells := 42, slots := 294, locals := 66 } : Room) [.ref (ad 20 0)] ad (fM g ad σ pd th h) (dL (dgS σ pd) ad (fM g ad σ pd 0 h)) (noX) 42 294 := by
  refine MM.start (by decide) (Nat.le_of_ble_eq_true rfl) ?_
  intro hl9 p e s m below meth c ls hC hno hI hl0
  have hx := hC.1.1
  have hb := hC.1.2.1
  have hts := hC.1.2.2.2.2
  have hl : lv_has ls 5 [(0, .ref (ad 20 0))] := hl0
  obtain ⟨H, hH⟩ : ∃ H, H = s.heap := ⟨_, rfl⟩
  obtain ⟨locs, hLo⟩ : ∃ L : List Loc, L = [] := ⟨_, rfl⟩
  rw [← hH, ← hLo] at hI ⊢
  clear hH hLo hl0
  obtain ⟨h17, h60, h10, h6, h5, h12, hpr, hrm⟩ := id hok
  refine lv_aload_n hx hb dX7_digest_0 rfl (lv_at hl 0 rfl) ?_
  refine lv_iconst (v := 0) hx hb dX7_digest_1 (by decide) ?_
  refine pf_X7_60 hC hI fM_o (Nat.le_of_ble_eq_true rfl) dX7_digest_2 (fun H locs hI => ?_)
  have hI := hI.cast fM_pth
  refine lv_ldc2 hx hb hC.1.2.2.2.1 (hts _ wd_k_X7_176) dX7_digest_5 ?_
  refine lv_aload_n hx hb dX7_digest_8 rfl (lv_at hl 0 rfl) ?_
  refine gf_X7_88 hC hI fM_o rfl dX7_digest_9 ?_
  refine lv_i2l hx hb dX7_digest_12 rfl ?_
  refine lv_ladd hx hb dX7_digest_13 ?_
  refine lv_lstore_n (lv' := [(1, .long (dgC σ (10819 + (σ 1 0).toInt64) 0)), (0, .ref (ad 20 0))]) hx hb dX7_digest_14 rfl hl (by decide) rfl (fun ls hl => ?_)
  refine lv_iconst (v := 0) hx hb dX7_digest_15 (by decide) ?_
  refine lv_istore_n (lv' := [(3, .int (nI 0)), (1, .long (dgC σ (10819 + (σ 1 0).toInt64) 0)), (0, .ref (ad 20 0))]) hx hb dX7_digest_16 rfl hl (by decide) rfl (fun ls hl => ?_)
  have L17 : ∀ (n : Nat) (k : Nat), k ≤ 5 → 6 ≤ k + n → ∀ (H : Heap) (locs : List Loc), WI g ad B0 (fM g ad σ pd 0 h) s H locs → ∀ (ls : Array Slot), lv_has ls 5 [(3, .int (nI k)), (1, .long (dgC σ (10819 + (σ 1 0).toInt64) k)), (0, .ref (ad 20 0))] → W p l e ({ frames := 3, cells := 42, slots := 294, locals := 66 } : Room) s m ([.ref (ad 20 0)] : List Value).toArray below meth c H locs 0 0 (vx_MQ below (QI g B0 (dL (dgS σ pd) ad (fM g ad σ pd 0 h))) (XI g B0 (noX)) ([.ref (ad 20 0)] : List Value).toArray s 42 294 (fun q => B0 ≤ q)) (F0 m 17 ls []) := by
    intro n
    induction n with
    | zero =>
      intro k hk9 hfu
      exact absurd hfu (by omega)
    | succ n ih17 =>
      intro k hk9 hfu H locs hI ls hl
      refine lv_iload_n hx hb dX7_digest_17 rfl (lv_at hl 0 rfl) ?_
      refine lv_iconst (v := 5) hx hb dX7_digest_18 (by decide) ?_
      refine lv_icmp_ge (tgt := 41) hx hb dX7_digest_19 (by decide) (fun c19 => ?_) (fun c19 => ?_)
      · have hk2 : 5 ≤ k := ge_T rfl (by decide) (by omega) c19
        refine lv_iconst (v := 0) hx hb dX7_digest_41 (by decide) ?_
        refine lv_istore_n (lv' := [(3, .int (nI 0)), (1, .long (dgC σ (10819 + (σ 1 0).toInt64) k)), (0, .ref (ad 20 0))]) hx hb dX7_digest_42 rfl hl (by decide) rfl (fun ls hl => ?_)
        have hk5 : k = 5 := by omega
        obtain ⟨d0, hd0⟩ : ∃ z, z = dgC σ (10819 + (σ 1 0).toInt64) k := ⟨_, rfl⟩
        rw [← hd0] at hl
        have L43 : ∀ (n2 : Nat) (j : Nat), j ≤ nr σ → nr σ + 1 ≤ j + n2 → ∀ (H : Heap) (locs : List Loc), WI g ad B0 (fM g ad σ pd 0 h) s H locs → ∀ (ls : Array Slot), lv_has ls 5 [(3, .int (nI j)), (1, .long (dgR σ d0 j)), (0, .ref (ad 20 0))] → W p l e ({ frames := 3, cells := 42, slots := 294, locals := 66 } : Room) s m ([.ref (ad 20 0)] : List Value).toArray below meth c H locs (7 * j) (49 * j) (vx_MQ below (QI g B0 (dL (dgS σ pd) ad (fM g ad σ pd 0 h))) (XI g B0 (noX)) ([.ref (ad 20 0)] : List Value).toArray s 42 294 (fun q => B0 ≤ q)) (F0 m 43 ls []) := by
          intro n2
          induction n2 with
          | zero =>
            intro j hj9 hfj
            exact absurd hfj (by omega)
          | succ n2 ih43 =>
            intro j hj9 hfj H locs hI ls hl
            refine lv_iload_n hx hb dX7_digest_43 rfl (lv_at hl 0 rfl) ?_
            refine lv_aload_n hx hb dX7_digest_44 rfl (lv_at hl 2 rfl) ?_
            refine gf_X7_70 hC hI fM_o rfl dX7_digest_45 ?_
            refine lv_icmp_ge (tgt := 109) hx hb dX7_digest_48 (by decide) (fun c48 => ?_) (fun c48 => ?_)
            · have hk2 : nr σ ≤ j := ge_T h10 (by omega) (by omega) c48
              have hjn : j = nr σ := by omega
              refine lv_iconst (v := 0) hx hb dX7_digest_109 (by decide) ?_
              refine lv_istore_n (lv' := [(3, .int (nI 0)), (1, .long (dgR σ d0 j)), (0, .ref (ad 20 0))]) hx hb dX7_digest_110 rfl hl (by decide) rfl (fun ls hl => ?_)
              obtain ⟨d1, hd1⟩ : ∃ z, z = dgR σ d0 j := ⟨_, rfl⟩
              rw [← hd1] at hl
              have L111 : ∀ (n4 : Nat) (q : Nat), q ≤ nt σ → nt σ + 1 ≤ q + n4 → ∀ (H : Heap) (locs : List Loc), WI g ad B0 (fM g ad σ pd 0 h) s H locs → ∀ (ls : Array Slot), lv_has ls 5 [(3, .int (nI q)), (1, .long (dgP σ d1 q)), (0, .ref (ad 20 0))] → W p l e ({ frames := 3, cells := 42, slots := 294, locals := 66 } : Room) s m ([.ref (ad 20 0)] : List Value).toArray below meth c H locs (7 * j) (49 * j) (vx_MQ below (QI g B0 (dL (dgS σ pd) ad (fM g ad σ pd 0 h))) (XI g B0 (noX)) ([.ref (ad 20 0)] : List Value).toArray s 42 294 (fun q => B0 ≤ q)) (F0 m 111 ls []) := by
                intro n4
                induction n4 with
                | zero =>
                  intro q hq9 hfq
                  exact absurd hfq (by omega)
                | succ n4 ih111 =>
                  intro q hq9 hfq H locs hI ls hl
                  refine lv_iload_n hx hb dX7_digest_111 rfl (lv_at hl 0 rfl) ?_
                  refine lv_aload_n hx hb dX7_digest_112 rfl (lv_at hl 2 rfl) ?_
                  refine gf_X7_73 hC hI fM_o rfl dX7_digest_113 ?_
                  refine lv_icmp_ge (tgt := 155) hx hb dX7_digest_116 (by decide) (fun c116 => ?_) (fun c116 => ?_)
                  · have hk2 : nt σ ≤ q := ge_T h17 (by omega) (by omega) c116
                    have hqn : q = nt σ := by omega
                    refine lv_lload_n hx hb dX7_digest_155 rfl (lv_at hl 1 rfl) ?_
                    refine lv_ldc2 hx hb hC.1.2.2.2.1 (hts _ wd_k_X7_178) dX7_digest_156 ?_
                    refine lv_lmul hx hb dX7_digest_159 ?_
                    refine lv_aload_n hx hb dX7_digest_160 rfl (lv_at hl 2 rfl) ?_
                    refine gf_X7_154 hC hI fM_o rfl dX7_digest_161 ?_
                    refine lv_ladd hx hb dX7_digest_164 ?_
                    exact e_long hC hI (rL (by unfold dgS; rw [← hqn, ← hjn, hd1, hd0, hk5])) (by omega) (by omega) dX7_digest_165
                  · have hk2 : q < nt σ := ge_F h17 (by omega) (by omega) c116
                    refine lv_iconst (v := 0) hx hb dX7_digest_119 (by decide) ?_
                    refine lv_istore (lv' := [(4, .int (nI 0)), (3, .int (nI q)), (1, .long (dgP1 σ q (dgP σ d1 q) 0)), (0, .ref (ad 20 0))]) hx hb dX7_digest_120 hl (by decide) rfl (fun ls hl => ?_)
                    have L122 : ∀ (n5 : Nat) (w : Nat), w ≤ 5 → 6 ≤ w + n5 → ∀ (H : Heap) (locs : List Loc), WI g ad B0 (fM g ad σ pd 0 h) s H locs → ∀ (ls : Array Slot), lv_has ls 5 [(4, .int (nI w)), (3, .int (nI q)), (1, .long (dgP1 σ q (dgP σ d1 q) w)), (0, .ref (ad 20 0))] → W p l e ({ frames := 3, cells := 42, slots := 294, locals := 66 } : Room) s m ([.ref (ad 20 0)] : List Value).toArray below meth c H locs (7 * j) (49 * j) (vx_MQ below (QI g B0 (dL (dgS σ pd) ad (fM g ad σ pd 0 h))) (XI g B0 (noX)) ([.ref (ad 20 0)] : List Value).toArray s 42 294 (fun q => B0 ≤ q)) (F0 m 122 ls []) := by
                      intro n5
                      induction n5 with
                      | zero =>
                        intro w hw9 hfw
                        exact absurd hfw (by omega)
                      | succ n5 ih122 =>
                        intro w hw9 hfw H locs hI ls hl
                        refine lv_iload hx hb dX7_digest_122 (lv_at hl 0 rfl) ?_
                        refine lv_iconst (v := 5) hx hb dX7_digest_124 (by decide) ?_
                        refine lv_icmp_ge (tgt := 149) hx hb dX7_digest_125 (by decide) (fun c125 => ?_) (fun c125 => ?_)
                        · have hw2 : 5 ≤ w := ge_T rfl (by decide) (by omega) c125
                          have hw5 : w = 5 := by omega
                          have hl : lv_has ls 5 [(4, .int (nI w)), (3, .int (nI q)), (1, .long (dgP σ d1 (q + 1))), (0, .ref (ad 20 0))] := by rw [show dgP σ d1 (q + 1) = dgP1 σ q (dgP σ d1 q) w from (show dgP σ d1 (q + 1) = dgP1 σ q (dgP σ d1 q) w from by rw [hw5]; rfl)]; exact hl
                          refine lv_iinc (v := nI (q + 1)) (lv' := [(3, .int (nI (q + 1))), (4, .int (nI w)), (1, .long (dgP σ d1 (q + 1))), (0, .ref (ad 20 0))]) hx hb dX7_digest_149 hl (k := 1) rfl (nI_1 _) (by decide) rfl (fun ls hl => ?_)
                          refine lv_goto (tgt := 111) hx hb dX7_digest_152 (by decide) ?_
                          exact ih111 (q + 1) (by omega) (by omega) _ _ hI ls (lv_sub hl [0, 2, 3] rfl)
                        · have hw2 : w < 5 := ge_F rfl (by decide) (by omega) c125
                          refine lv_lload_n hx hb dX7_digest_128 rfl (lv_at hl 2 rfl) ?_
                          refine lv_ldc2 hx hb hC.1.2.2.2.1 (hts _ wd_k_X7_178) dX7_digest_129 ?_
                          refine lv_lmul hx hb dX7_digest_132 ?_
                          refine lv_aload_n hx hb dX7_digest_133 rfl (lv_at hl 3 rfl) ?_
                          refine lv_iload_n hx hb dX7_digest_134 rfl (lv_at hl 1 rfl) ?_
                          refine lv_iload hx hb dX7_digest_135 (lv_at hl 0 rfl) ?_
                          refine c_Vi (rest := [.long ((dgP1 σ q (dgP σ d1 q) w) * 31)]) hl9 hC hI hl.1 (tX7_toldOfPallet l g B0 ad σ pd 0 h hok q hk2 (nI w)) (cw_X7_131 hts rfl rfl ⟨(Nat.le_of_ble_eq_true rfl), (Nat.le_of_ble_eq_true rfl)⟩) fM_o rfl rfl rfl rfl (Nat.le_of_ble_eq_true rfl) dX7_digest_137 ⟨by show 7 * j + 0 ≤ 42; omega, by show 49 * j + 0 ≤ 294; omega⟩ (fun H locs hI => ?_)
                          refine lv_i2l hx hb dX7_digest_140 rfl ?_
                          refine lv_ladd hx hb dX7_digest_141 ?_
                          refine lv_lstore_n (lv' := [(1, .long (dgP1 σ q (dgP σ d1 q) (w + 1))), (4, .int (nI w)), (3, .int (nI q)), (0, .ref (ad 20 0))]) hx hb dX7_digest_142 rfl hl (by decide) rfl (fun ls hl => ?_)
                          refine lv_iinc (v := nI (w + 1)) (lv' := [(4, .int (nI (w + 1))), (1, .long (dgP1 σ q (dgP σ d1 q) (w + 1))), (3, .int (nI q)), (0, .ref (ad 20 0))]) hx hb dX7_digest_143 hl (k := 1) rfl (nI_1 _) (by decide) rfl (fun ls hl => ?_)
                          refine lv_goto (tgt := 122) hx hb dX7_digest_146 (by decide) ?_
                          exact ih122 (w + 1) (by omega) (by omega) _ _ hI ls (lv_sub hl [0, 2, 1, 3] rfl)
                    exact L122 6 0 (by omega) (by omega) _ _ hI ls (lv_sub hl [0, 1, 2, 3] rfl)
              exact L111 (nt σ + 1) 0 (by omega) (by omega) _ _ hI ls (lv_sub hl [0, 1, 2] rfl)
            · have hk2 : j < nr σ := ge_F h10 (by omega) (by omega) c48
              refine lv_iconst (v := 0) hx hb dX7_digest_51 (by decide) ?_
              refine lv_istore (lv' := [(4, .int (nI 0)), (3, .int (nI j)), (1, .long (dgR1 σ j (dgR σ d0 j) 0)), (0, .ref (ad 20 0))]) hx hb dX7_digest_52 hl (by decide) rfl (fun ls hl => ?_)
              have L54 : ∀ (n3 : Nat) (w : Nat), w ≤ 7 → 8 ≤ w + n3 → ∀ (H : Heap) (locs : List Loc), WI g ad B0 (fM g ad σ pd 0 h) s H locs → ∀ (ls : Array Slot), lv_has ls 5 [(4, .int (nI w)), (3, .int (nI j)), (1, .long (dgR1 σ j (dgR σ d0 j) w)), (0, .ref (ad 20 0))] → W p l e ({ frames := 3, cells := 42, slots := 294, locals := 66 } : Room) s m ([.ref (ad 20 0)] : List Value).toArray below meth c H locs (7 * j + w) (49 * j + 7 * w) (vx_MQ below (QI g B0 (dL (dgS σ pd) ad (fM g ad σ pd 0 h))) (XI g B0 (noX)) ([.ref (ad 20 0)] : List Value).toArray s 42 294 (fun q => B0 ≤ q)) (F0 m 54 ls []) := by
                intro n3
                induction n3 with
                | zero =>
                  intro w hw9 hfw
                  exact absurd hfw (by omega)
                | succ n3 ih54 =>
                  intro w hw9 hfw H locs hI ls hl
                  refine lv_iload hx hb dX7_digest_54 (lv_at hl 0 rfl) ?_
                  refine lv_bipush (v := 7) hx hb dX7_digest_56 (by decide) ?_
                  refine lv_icmp_ge (tgt := 82) hx hb dX7_digest_58 (by decide) (fun c58 => ?_) (fun c58 => ?_)
                  · have hw2 : 7 ≤ w := ge_T rfl (by decide) (by omega) c58
                    refine lv_lload_n hx hb dX7_digest_82 rfl (lv_at hl 2 rfl) ?_
                    refine lv_ldc2 hx hb hC.1.2.2.2.1 (hts _ wd_k_X7_178) dX7_digest_83 ?_
                    refine lv_lmul hx hb dX7_digest_86 ?_
                    refine lv_aload_n hx hb dX7_digest_87 rfl (lv_at hl 3 rfl) ?_
                    refine gf_X7_41 hC hI fM_o rfl dX7_digest_88 ?_
                    refine lv_iload_n hx hb dX7_digest_91 rfl (lv_at hl 1 rfl) ?_
                    refine r_zald hC hI fM_15 (j := j) rfl (by omega) (by decide) dX7_digest_92 ?_
                    refine lv_if_eq (tgt := 100) hx hb dX7_digest_93 (by decide) (fun c93 => ?_) (fun c93 => ?_)
                    · refine lv_lconst (v := 0) hx hb dX7_digest_100 (by decide) ?_
                      refine lv_ladd hx hb dX7_digest_101 ?_
                      rw [show dgR1 σ j (dgR σ d0 j) w * 31 + 0 = dgR σ d0 (j + 1) from by rw [show w = 7 by omega]; exact dgR_0 c93]
                      refine lv_lstore_n (lv' := [(1, .long (dgR σ d0 (j + 1))), (4, .int (nI w)), (3, .int (nI j)), (0, .ref (ad 20 0))]) hx hb dX7_digest_102 rfl hl (by decide) rfl (fun ls hl => ?_)
                      refine lv_iinc (v := nI (j + 1)) (lv' := [(3, .int (nI (j + 1))), (1, .long (dgR σ d0 (j + 1))), (4, .int (nI w)), (0, .ref (ad 20 0))]) hx hb dX7_digest_103 hl (k := 2) rfl (nI_1 _) (by decide) rfl (fun ls hl => ?_)
                      refine lv_goto (tgt := 43) hx hb dX7_digest_106 (by decide) ?_
                      refine W.widen (k := 7 * (j + 1)) (n := 49 * (j + 1)) (by omega) (by omega) ?_
                      exact ih43 (j + 1) (by omega) (by omega) _ _ hI ls (lv_sub hl [0, 1, 3] rfl)
                    · refine lv_lconst (v := 1) hx hb dX7_digest_96 (by decide) ?_
                      refine lv_goto (tgt := 101) hx hb dX7_digest_97 (by decide) ?_
                      refine lv_ladd hx hb dX7_digest_101 ?_
                      rw [show dgR1 σ j (dgR σ d0 j) w * 31 + 1 = dgR σ d0 (j + 1) from by rw [show w = 7 by omega]; exact dgR_1 c93]
                      refine lv_lstore_n (lv' := [(1, .long (dgR σ d0 (j + 1))), (4, .int (nI w)), (3, .int (nI j)), (0, .ref (ad 20 0))]) hx hb dX7_digest_102 rfl hl (by decide) rfl (fun ls hl => ?_)
                      refine lv_iinc (v := nI (j + 1)) (lv' := [(3, .int (nI (j + 1))), (1, .long (dgR σ d0 (j + 1))), (4, .int (nI w)), (0, .ref (ad 20 0))]) hx hb dX7_digest_103 hl (k := 2) rfl (nI_1 _) (by decide) rfl (fun ls hl => ?_)
                      refine lv_goto (tgt := 43) hx hb dX7_digest_106 (by decide) ?_
                      refine W.widen (k := 7 * (j + 1)) (n := 49 * (j + 1)) (by omega) (by omega) ?_
                      exact ih43 (j + 1) (by omega) (by omega) _ _ hI ls (lv_sub hl [0, 1, 3] rfl)
                  · have hw2 : w < 7 := ge_F rfl (by decide) (by omega) c58
                    refine lv_lload_n hx hb dX7_digest_61 rfl (lv_at hl 2 rfl) ?_
                    refine lv_ldc2 hx hb hC.1.2.2.2.1 (hts _ wd_k_X7_178) dX7_digest_62 ?_
                    refine lv_lmul hx hb dX7_digest_65 ?_
                    refine lv_aload_n hx hb dX7_digest_66 rfl (lv_at hl 3 rfl) ?_
                    refine lv_iload_n hx hb dX7_digest_67 rfl (lv_at hl 1 rfl) ?_
                    refine lv_iload hx hb dX7_digest_68 (lv_at hl 0 rfl) ?_
                    refine c_Vim (rest := [.long ((dgR1 σ j (dgR σ d0 j) w) * 31)]) hl9 hC hI hl.1 (tX7_toldOfRoom l g B0 ad σ pd 0 h hok hh j w (by omega) hw2) (cw_X7_112 hts rfl rfl ⟨(Nat.le_of_ble_eq_true rfl), (Nat.le_of_ble_eq_true rfl)⟩) fM_o rfl rfl rfl rfl (Nat.le_of_ble_eq_true rfl) dX7_digest_70 ⟨by show 7 * j + w + 1 ≤ 42; omega, by show 49 * j + 7 * w + 7 ≤ 294; omega⟩ (fun H locs hI => ?_)
                    refine lv_i2l hx hb dX7_digest_73 rfl ?_
                    refine lv_ladd hx hb dX7_digest_74 ?_
                    refine lv_lstore_n (lv' := [(1, .long (dgR1 σ j (dgR σ d0 j) (w + 1))), (4, .int (nI w)), (3, .int (nI j)), (0, .ref (ad 20 0))]) hx hb dX7_digest_75 rfl hl (by decide) rfl (fun ls hl => ?_)
                    refine lv_iinc (v := nI (w + 1)) (lv' := [(4, .int (nI (w + 1))), (1, .long (dgR1 σ j (dgR σ d0 j) (w + 1))), (3, .int (nI j)), (0, .ref (ad 20 0))]) hx hb dX7_digest_76 hl (k := 1) rfl (nI_1 _) (by decide) rfl (fun ls hl => ?_)
                    refine lv_goto (tgt := 54) hx hb dX7_digest_79 (by decide) ?_
                    refine W.widen (k := 7 * j + (w + 1)) (n := 49 * j + 7 * (w + 1)) (by omega) (by omega) ?_
                    exact ih54 (w + 1) (by omega) (by omega) _ _ hI ls (lv_sub hl [0, 2, 1, 3] rfl)
              refine W.widen (k := 7 * j + 0) (n := 49 * j + 7 * 0) (by omega) (by omega) ?_
              exact L54 8 0 (by omega) (by omega) _ _ hI ls (lv_sub hl [0, 1, 2, 3] rfl)
        refine W.widen (k := 7 * 0) (n := 49 * 0) (by omega) (by omega) ?_
        exact L43 (nr σ + 1) 0 (by omega) (by omega) _ _ hI ls (lv_sub hl [0, 1, 2] rfl)
      · have hk2 : k < 5 := ge_F rfl (by decide) (by omega) c19
        refine lv_lload_n hx hb dX7_digest_22 rfl (lv_at hl 1 rfl) ?_
        refine lv_ldc2 hx hb hC.1.2.2.2.1 (hts _ wd_k_X7_178) dX7_digest_23 ?_
        refine lv_lmul hx hb dX7_digest_26 ?_
        refine lv_aload_n hx hb dX7_digest_27 rfl (lv_at hl 2 rfl) ?_
        refine lv_iload_n hx hb dX7_digest_28 rfl (lv_at hl 0 rfl) ?_
        refine c_Vi (rest := [.long ((dgC σ (10819 + (σ 1 0).toInt64) k) * 31)]) hl9 hC hI hl.1 (tX7_counted l g B0 ad σ pd 0 h hok (nI k)) (cw_X7_147 hts rfl rfl ⟨(Nat.le_of_ble_eq_true rfl), (Nat.le_of_ble_eq_true rfl)⟩) fM_o rfl rfl rfl rfl (Nat.le_of_ble_eq_true rfl) dX7_digest_29 ⟨(Nat.le_of_ble_eq_true rfl), (Nat.le_of_ble_eq_true rfl)⟩ (fun H locs hI => ?_)
        refine lv_i2l hx hb dX7_digest_32 rfl ?_
        refine lv_ladd hx hb dX7_digest_33 ?_
        refine lv_lstore_n (lv' := [(1, .long (dgC σ (10819 + (σ 1 0).toInt64) (k + 1))), (3, .int (nI k)), (0, .ref (ad 20 0))]) hx hb dX7_digest_34 rfl hl (by decide) rfl (fun ls hl => ?_)
        refine lv_iinc (v := nI (k + 1)) (lv' := [(3, .int (nI (k + 1))), (1, .long (dgC σ (10819 + (σ 1 0).toInt64) (k + 1))), (0, .ref (ad 20 0))]) hx hb dX7_digest_35 hl (k := 1) rfl (nI_1 _) (by decide) rfl (fun ls hl => ?_)
        refine lv_goto (tgt := 17) hx hb dX7_digest_38 (by decide) ?_
        exact ih17 (k + 1) (by omega) (by omega) _ _ hI ls (lv_sub hl [0, 1, 2] rfl)
  exact L17 6 0 (by omega) (by omega) _ _ hI ls (lv_sub hl [0, 1, 2] rfl)
