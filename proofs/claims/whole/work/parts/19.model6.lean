/-! THE MODEL: clones and copies; foretelling -/
theorem WI.put2 {g : Gg} {ad : Ad} {B0 : Nat} {f : Wd} {s : State} {H H1 : Heap} {locs L : List Loc} (h : WI g ad B0 f s H locs) {k i : Nat} {e0 e : va_E} (h0 : f k i = some e0) (he : va_at g.1 vwCl (ad k i, e) H1) (z : H1.size = H.size) (oq : ∀ q : Nat, q ≠ ad k i → H1[q]? = H[q]?) (hL : ∀ x ∈ L, x.base = ad k i) : WI g ad B0 (up2 f k i e) s H1 (locs ++ L) := by
  obtain ⟨w1, w2, w3, w4, w5⟩ := h.put (n := 0) h0 he z oq
  refine ⟨w1, w2, w3, w4, fun x hx => ?_⟩
  rcases List.mem_append.mp hx with hx | hx
  · exact w5 x (List.mem_append_left _ hx)
  · rw [hL x hx]
    exact h.2.1.2 _ _ _ h0
section CLN
variable {p : Program} {l : Launch} {e : Env} {R : Room} {s : State} {m : MethodId} {args : Array Value} {below : List Frame} {meth : Method} {c : Code} {H : Heap} {locs : List Loc} {cells slots : Nat} {Q : State → Prop}
variable {g : Gg} {B0 : Nat} {ad : Ad} {f : Wd} {own : String} {cc : ByteArray} {nL : Nat} {ret : Option FieldType}
variable {pc : Nat} {ls : Array Slot} {rest : List Value} {kk ii : Nat}
theorem r_clone (hC : Cx p s m args meth c RX7 cc nL ret g B0) (hI : WI g ad B0 f s H locs) (hls : ls.size = nL) (k2 i2 : Nat) (h0 : f k2 i2 = none) {n : Nat} {fn : Nat → Int32} (he : f kk ii = some (.inl (g.2 0, n, .inl fn))) (hframes : 1 ≤ R.frames) (hlocals : (rest.map fun v => v.category).sum + 14 ≤ R.locals) (hcells : cells + 1 ≤ R.cells) (hslots : slots + n ≤ R.slots) (hdg : decode cc pc = .ok (.invokevirtual 161, 3))
    (kont : ∀ (q : Nat) (H1 : Heap), WI g (adup ad k2 i2 q) B0 (up2 f k2 i2 (.inl (g.2 0, n, .inl fn))) s H1 locs → W p l e R s m args below meth c H1 locs (cells + 1) (slots + n) Q (F0 m (pc + 3) ls (.ref q :: rest))) : W p l e R s m args below meth c H locs cells slots Q (F0 m pc ls (.ref (ad kk ii) :: rest)) := by
  obtain ⟨⟨hexec, hb, hml, hown, hts⟩, -, -, hKI⟩ := hC
  have hK := hKI.1
  have hml : c.maxLocals = ls.size := hml.trans hls.symm
  have hcl : va_Nw (.castable "[I" "java/lang/Cloneable") s := hKI.2.2.1.2.1.2.2.2
  have ht : (tysG g)[0]? = some (g.2 0, FieldType.int) := rfl
  have hnm : s.vm.findClass "[I" = some (g.2 0) := va_nm_int (hK.2 0 _ ht).2
  have hsz : (vp_cell (g.2 0) (n, .inl fn)).slots.size = n := arrV_size _ _ _
  have hvm0 : (vp_cell (g.2 0) (n, .inl fn)).vm = .none := rfl
  have hcl0 : (vp_cell (g.2 0) (n, .inl fn)).cls = g.2 0 := rfl
  have hcellE : ({ cls := (vp_cell (g.2 0) (n, .inl fn)).cls, slots := (vp_cell (g.2 0) (n, .inl fn)).slots } : Cell) = vp_cell (g.2 0) (n, .inl fn) := rfl
  obtain ⟨c0, t0', f1, f2, f3⟩ := Cond.castable_spec (va_Nw.use (A := args) rfl hcl)
  cases hnm.symm.trans f1
  intro T hT X
  have hcellT : T.heap[ad kk ii]? = some (vp_cell (g.2 0) (n, .inl fn)) := by rw [hT]; exact hI.1 _ _ _ he
  obtain ⟨-, kA, hkA, comp, hkind⟩ := State.isArrayOf_alike X.warmed.alike ((hK.2 0 _ ht).1 0 (fun _ => .null))
  obtain ⟨-, kS, hkS, compS, hkindS⟩ := (hK.2 0 _ ht).1 0 (fun _ => .null)
  obtain ⟨vm', X', st⟩ := X.cloneArray hexec hown (hts _ wd_ml_X7_161) (hts _ wd_sm___I___java_lang_Object___clone_____Ljava_lang_Object__) (hts _ wd_na__java_lang_Object_clone___Ljava_lang_Object__) (hts _ wd_im__java_lang_Object_clone___Ljava_lang_Object__) (hts _ wd_se___I_clone___Ljava_lang_Object__) (a := ad kk ii) (cell := vp_cell (g.2 0) (n, .inl fn)) hcellT (fun k h => by rw [hvm0] at h; cases h) (by rw [hvm0]; exact fun h => by cases h) (by rw [hcl0]; exact hnm) f2 (by rw [hcl0]; exact f3)
    (fun i v hv => by
      rw [hcl0]
      have hk' : T.vm.classes[g.2 0]? = some kA := hkA
      simpa [State.fitsSlot, State.slotType?, hk', hkind] using va_fit (ty := .int) (fun j _ => rfl) i v hv)
    (g := F0 m pc ls (.ref (ad kk ii) :: rest)) rfl (by rw [hml]) rfl (by rw [hb]; exact hdg) hframes (by show 2 * 0 + _ + 14 ≤ _; omega) hcells (by rw [hsz]; exact hslots) (hloader := by rw [hcl0]; exact Vm.clonesLoader_of_array hkS hkindS)
  rw [hcellE, hsz] at X'
  generalize hH1 : H.push (vp_cell (g.2 0) (n, .inl fn)) = H1
  have z1 : H1.size = H.size + 1 := by rw [← hH1, Array.size_push]
  have e1 : H1[H.size]? = some (vp_cell (g.2 0) (n, .inl fn)) := by rw [← hH1, Array.getElem?_push_size]
  have o1 : ∀ q : Nat, q < H.size → H1[q]? = H[q]? := fun q hq => by rw [← hH1, Array.getElem?_push, if_neg (Nat.ne_of_lt hq)]
  obtain ⟨t, b1, b2⟩ := kont H.size H1 (hI.new h0 hKI.2.2.2 e1 z1 o1) ((T.setVm vm').pushCell (vp_cell (g.2 0) (n, .inl fn))) (by rw [← hH1, ← hT]; rfl) X'
  refine ⟨t, st t ?_, b2⟩
  rw [hcellE, hT]
  exact b1
theorem r_castI (hC : Cx p s m args meth c RX7 cc nL ret g B0) (hI : WI g ad B0 f s H locs) {n : Nat} {fn : Nat → Int32} (he : f kk ii = some (.inl (g.2 0, n, .inl fn))) (hdg : decode cc pc = .ok (.checkcast 162, 3))
    (kont : W p l e R s m args below meth c H locs cells slots Q (F0 m (pc + 3) ls (.ref (ad kk ii) :: rest))) : W p l e R s m args below meth c H locs cells slots Q (F0 m pc ls (.ref (ad kk ii) :: rest)) :=
  va_castA hC.1.1 hC.1.2.1 hC.1.2.2.2.1 (hC.1.2.2.2.2 _ wd_cl_X7_162) (hI.1.one he) 0 rfl (va_nm_int (hC.2.2.2.1.2 0 _ rfl).2) hdg kont
theorem r_copy (hC : Cx p s m args meth c RX7 cc nL ret g B0) (hI : WI g ad B0 f s H locs) (hls : ls.size = nL) {k1 i1 k2 i2 n0 n1 : Nat} {f0 f1 : Nat → Int32} (he0 : f k1 i1 = some (.inl (g.2 0, n0, .inl f0))) (he1 : f k2 i2 = some (.inl (g.2 0, n1, .inl f1))) {n : Int32} {N : Nat} (hn : n = nI N) (h4 : N ≤ n0) (h5 : N ≤ n1) (hN : N < 2 ^ 31) (hframes : 1 ≤ R.frames) (hlocals : (rest.map fun v => v.category).sum + 18 ≤ R.locals) (hdg : decode cc pc = .ok (.invokestatic 166, 3))
    (kont : ∀ (H1 : Heap) (locs1 : List Loc), WI g ad B0 (up2 f k2 i2 (.inl (g.2 0, n1, .inl (va_cpy f0 f1 0 0 N)))) s H1 locs1 → W p l e R s m args below meth c H1 locs1 cells slots Q (F0 m (pc + 3) ls rest)) : W p l e R s m args below meth c H locs cells slots Q (F0 m pc ls (.int n :: .int 0 :: .ref (ad k2 i2) :: .int 0 :: .ref (ad k1 i1) :: rest)) := by
  obtain ⟨⟨hexec, hb, hml, hown, hts⟩, -, -, hKI⟩ := hC
  have hK := hKI.1
  have hml : c.maxLocals = ls.size := hml.trans hls.symm
  subst hn
  have ht : (tysG g)[0]? = some (g.2 0, FieldType.int) := rfl
  have hz : (0 : Int32).toNatClampNeg = 0 := by decide
  have hc : (nI N).toNatClampNeg = N := nI_clamp hN
  have hi : (nI N).toInt = (N : Int) := nI_toInt hN
  intro T hT X
  have hc0 : H[ad k1 i1]? = some (vp_cell (g.2 0) (n0, .inl f0)) := hI.1 _ _ _ he0
  have hc1 : H[ad k2 i2]? = some (vp_cell (g.2 0) (n1, .inl f1)) := hI.1 _ _ _ he1
  obtain ⟨-, k0, hk0, cm0, hkk0⟩ := (hK.2 0 _ ht).1 n0 (fun j => .int (f0 j))
  obtain ⟨vm', X', step⟩ := X.arraycopy hexec hown (hts _ wd_ml_X7_166) (hts _ wd_na__java_lang_System_arraycopy__Ljava_lang_Object_ILjava_lang_Object_II_V_) (hts _ wd_st__java_lang_System_arraycopy__Ljava_lang_Object_ILjava_lang_Object_II_V_) (hts _ wd_in_RJ10) (src := ad k1 i1) (dst := ad k2 i2) (cs := vp_cell (g.2 0) (n0, .inl f0)) (cd := vp_cell (g.2 0) (n1, .inl f1)) (srcPos := 0) (destPos := 0) (n := nI N) (by rw [hT]; exact hc0) (by rw [hT]; exact hc1)
    (fun _ h => by cases h) (fun _ h => by cases h) (fun h => by cases h) (fun h => by cases h) hk0 hk0 hkk0 hkk0 rfl (by decide) (by decide) (nI_pos hN)
    (by rw [hi]; show ¬ _ > ((arrV (g.2 0) n0 (fun j => .int (f0 j))).slots.size : Int); rw [arrV_size]; have : (0 : Int32).toInt = 0 := rfl; omega)
    (by rw [hi]; show ¬ _ > ((arrV (g.2 0) n1 (fun j => .int (f1 j))).slots.size : Int); rw [arrV_size]; have : (0 : Int32).toInt = 0 := rfl; omega)
    (fun vm₁ _ i hi => by
      rw [hc] at hi
      have e : (vp_cell (g.2 0) (n0, .inl f0)).slots.getD ((0 : Int32).toNatClampNeg + i) .null = .int (f0 ((0 : Int32).toNatClampNeg + i)) := by
        show (arrV (g.2 0) n0 (fun j => .int (f0 j))).slots.getD _ _ = _
        rw [Array.getD_eq_getD_getElem?, arrV_read _ _ (by rw [hz]; omega)]
        rfl
      refine ⟨?_, ?_⟩
      · rw [e]
        rfl
      · rw [e]
        exact trivial)
    (g := F0 m pc ls (.int (nI N) :: .int 0 :: .ref (ad k2 i2) :: .int 0 :: .ref (ad k1 i1) :: rest)) rfl (by rw [hml]) (rest := rest) rfl (by rw [hb]; exact hdg) hframes (by show 2 * 0 + _ + 18 ≤ _; omega)
  have e1 : copied (vp_cell (g.2 0) (n0, .inl f0)) (vp_cell (g.2 0) (n1, .inl f1)) 0 0 (nI N) = vp_cell (g.2 0) (n1, .inl (va_cpy f0 f1 0 0 N)) := by
    have e : copied (vp_cell (g.2 0) (n0, .inl f0)) (vp_cell (g.2 0) (n1, .inl f1)) 0 0 (nI N) = vp_cell (g.2 0) (n1, .inl (va_cpy f0 f1 (0 : Int32).toNatClampNeg (0 : Int32).toNatClampNeg (nI N).toNatClampNeg)) := va_copied (fun z => .int z) (g.2 0) (g.2 0) f0 f1 (show (0 : Int32).toNatClampNeg + (nI N).toNatClampNeg ≤ n0 by rw [hz, hc]; omega)
    rw [hc, hz] at e
    exact e
  rw [e1] at X' step
  have hl : ad k2 i2 < H.size := (Array.getElem?_eq_some_iff.mp hc1).1
  have hheap : ((T.setVm vm').setCell (ad k2 i2) (vp_cell (g.2 0) (n1, .inl (va_cpy f0 f1 0 0 N)))).heap = H.setIfInBounds (ad k2 i2) (vp_cell (g.2 0) (n1, .inl (va_cpy f0 f1 0 0 N))) := by rw [← hT]; rfl
  obtain ⟨t, a1, b1⟩ := kont _ _ (hI.put2 he1 (show (H.setIfInBounds (ad k2 i2) _)[ad k2 i2]? = some _ by simp [Array.getElem?_setIfInBounds, hl]) (by simp) (fun q hq => by simp [Array.getElem?_setIfInBounds, Ne.symm hq]) (fun x hx => by
      obtain ⟨z, -, hz⟩ := List.mem_map.mp hx
      rw [← hz])) _ hheap X'
  exact ⟨t, step t a1, b1⟩
end CLN
/-- the hours ahead: how many of n pass (k have passed) until the pallet is spoiled -/
def ahL (r : Nat) (pal : Int32) (t0 : Nat) : Nat → Nat → Sg × Int64 → Nat × (Sg × Int64)
  | 0, k, x => (k, x)
  | n + 1, k, x => if pal = -1 ∨ ¬ leftS x.1 (cN pal) < 0 then ahL r pal t0 n (k + 1) (hourS x.1 r ((t0 + k) % 24), hourP x.1 x.2 r ((t0 + k) % 24)) else (k, x)
theorem ahL_1 {r t0 n k : Nat} {pal : Int32} {x : Sg × Int64} (h : pal = -1 ∨ ¬ leftS x.1 (cN pal) < 0) : ahL r pal t0 (n + 1) k x = ahL r pal t0 n (k + 1) (hourS x.1 r ((t0 + k) % 24), hourP x.1 x.2 r ((t0 + k) % 24)) := if_pos h
theorem ahL_0 {r t0 n k : Nat} {pal : Int32} {x : Sg × Int64} (h : ¬ (pal = -1 ∨ ¬ leftS x.1 (cN pal) < 0)) : ahL r pal t0 (n + 1) k x = (k, x) := if_neg h
def aheadS (σ : Sg) (pd : Int64) (r M : Nat) (pal : Int32) : Nat × (Sg × Int64) := ahL r pal (cN (σ 1 0)) M 0 (σ, pd)
def ahI (σ x : Sg) : Prop := (∀ q : Nat, q ≠ 16 → q ≠ 20 → q ≠ 21 → x q = σ q) ∧ (∀ j : Nat, 36 ≤ j → x 16 j = σ 16 j) ∧ (∀ j : Nat, 60 ≤ j → x 20 j = σ 20 j) ∧ ∀ j : Nat, 60 ≤ j → x 21 j = σ 21 j
theorem ahI_ok {σ x : Sg} (h : ahI σ x) (hok : OkP σ) : OkP x := OkP_congr hok (h.1 5 (by decide) (by decide) (by decide)) (h.1 10 (by decide) (by decide) (by decide)) (h.1 17 (by decide) (by decide) (by decide)) (h.1 18 (by decide) (by decide) (by decide)) (h.1 19 (by decide) (by decide) (by decide))
theorem hUp_16 (σ : Sg) {r : Nat} (hr : r < 6) (hh : Nat) {j : Nat} (hj : 36 ≤ j) : hUp σ r hh 16 j = σ 16 j := by
  have e : ∀ (τ : Sg) (q : Nat) (x : Int32), q < 36 → s1 τ 16 q x 16 j = τ 16 j := fun τ q x hq => r16 (by omega)
  have h1 : smS σ r hh 16 j = σ 16 j := by
    unfold smS
    split
    · split
      · rw [e _ _ _ (by omega), e _ _ _ (by omega), e _ _ _ (by omega)]
      · rw [e _ _ _ (by omega)]
    · split
      · rw [e _ _ _ (by omega)]
      · split
        · rw [e _ _ _ (by omega)]
        · split
          · rw [e _ _ _ (by omega)]
          · rfl
  have h2 : hOn (smS σ r hh) r 16 j = smS σ r hh 16 j := by
    unfold hOn
    split
    · rw [e _ _ _ (by omega), e _ _ _ (by omega)]
    · rfl
  unfold hUp hWm
  split
  · rw [e _ _ _ (by omega)]
    unfold hTm
    rw [e _ _ _ (by omega), h2, h1]
  · unfold hTm
    rw [e _ _ _ (by omega), h2, h1]
theorem ahI_hour {σ x : Sg} (h : ahI σ x) (hok : OkP σ) {r : Nat} (hr : r < 6) (hh : Nat) : ahI σ (hourS x r hh) := by
  have hokx := OkP_hUp (ahI_ok h hok) r hh
  have h60 : nt (hUp x r hh) ≤ 60 := hokx.2.1
  obtain ⟨h1, h2, h3, h4⟩ := h
  refine ⟨fun q a b c => (hourS_row x r hh a b c).trans (h1 q a b c), fun j hj => (hUp_16 x hr hh hj).trans (h2 j hj), fun j hj => ?_, fun j hj => ?_⟩
  · have e : hourS x r hh 20 j = hUp x r hh 20 j := if_neg (fun z => absurd z.1 (by omega))
    rw [e, hUp_row _ _ _ (by decide)]
    exact h3 j hj
  · have e : hourS x r hh 21 j = hUp x r hh 21 j := if_neg (fun z => absurd z.1 (by omega))
    rw [e, hUp_row _ _ _ (by decide)]
    exact h4 j hj
theorem cpy_n {f0 f1 : Nat → Int32} {N : Nat} (h : ∀ j, N ≤ j → f1 j = f0 j) : va_cpy f0 f1 0 0 N = f0 := by
  funext j
  unfold va_cpy
  by_cases hj : 0 ≤ j ∧ j < 0 + N
  · rw [if_pos hj]
    congr 1
    omega
  · rw [if_neg hj]
    exact h j (by omega)
theorem ah_back {σ x : Sg} (h : ahI σ x) : su (su (su x 16 (va_cpy (σ 16) (x 16) 0 0 36)) 20 (va_cpy (σ 20) (x 20) 0 0 60)) 21 (va_cpy (σ 21) (x 21) 0 0 60) = σ := by
  rw [cpy_n (h.2.1), cpy_n (h.2.2.1), cpy_n (h.2.2.2)]
  funext q j
  by_cases h21 : q = 21
  · subst h21
    rw [su_s]
  · rw [su_n _ _ h21]
    by_cases h20 : q = 20
    · subst h20
      rw [su_s]
    · rw [su_n _ _ h20]
      by_cases h16 : q = 16
      · subst h16
        rw [su_s]
      · rw [su_n _ _ h16, h.1 q h16 h20 h21]
def kdFO (σ : Sg) (v w : Int32) : Int32 := if 0 ≤ v ∧ v ≤ σ 10 0 - 1 then (if 0 ≤ w ∧ w ≤ 100 then 0 else 2) else 1
def rsFO (σ : Sg) (pd : Int64) (v w : Int32) : Int32 := (aheadS σ pd (cN v) (cN w) (-1)).2.1 16 (6 * cN v)
def kdLA (σ : Sg) (u : Int32) : Int32 := if 0 ≤ u ∧ u ≤ σ 17 0 - 1 then (if σ 19 (cN u) = -1 then 2 else 0) else 1
def rsLA (σ : Sg) (pd : Int64) (u : Int32) : Int32 := nI (aheadS σ pd (rmo σ (cN u)) 500 u).1
abbrev rAh (g : Gg) (ad : Ad) (h : Wd) (σ : Sg) (pd : Int64) (th x0 x1 : Int32) : Option Value → Ad → Wd → Prop := fun v a w => (∀ k i, ¬ k = 60 → a k i = ad k i) ∧ v = some (.ref (a 60 3)) ∧ w = fM g a σ pd th (up2 h 60 3 (.inl (g.2 0, 2, .inl (upd (upd (fun _ => 0) 0 x0) 1 x1))))
theorem fM_hup {g : Gg} {ad : Ad} {σ : Sg} {pd : Int64} {th : Int32} {h : Wd} {k i k2 i2 : Nat} {e e2 : va_E} (hk : 44 ≤ k) (hne : ¬ (k = k2 ∧ i = i2)) (he : fM g ad σ pd th h k i = some e) : fM g ad σ pd th (up2 h k2 i2 e2) k i = some e := by
  unfold fM at he ⊢
  rw [if_pos (Or.inr hk)] at he ⊢
  rw [up2_n _ _ hne]
  exact he
theorem fM_none {g : Gg} {ad : Ad} {σ : Sg} {pd : Int64} {th : Int32} {h : Wd} {k i : Nat} (hk : 44 ≤ k) (he : h k i = none) : fM g ad σ pd th h k i = none := by
  unfold fM
  rw [if_pos (Or.inr hk)]
  exact he
theorem fM_drop {g : Gg} {ad : Ad} {σ : Sg} {pd : Int64} {th : Int32} {h h3 : Wd} {A B C x : va_E} (hh : ∀ i, h 60 i = none) (hh3 : h3 = up2 (up2 (up2 h 60 0 A) 60 1 B) 60 2 C) {k i : Nat} {e : va_E} (he : fM g ad σ pd th (up2 h 60 3 x) k i = some e) : fM g ad σ pd th (up2 h3 60 3 x) k i = some e := by
  unfold fM at he ⊢
  by_cases hk : k < 20 ∨ 44 ≤ k
  · rw [if_pos hk] at he ⊢
    by_cases hc : k = 60 ∧ i = 3
    · obtain ⟨rfl, rfl⟩ := hc
      rw [up2_s] at he ⊢
      exact he
    · rw [up2_n _ _ hc] at he ⊢
      have h60 : ¬ k = 60 := by
        rintro rfl
        rw [hh i] at he
        cases he
      rw [hh3, up2_n _ _ (fun z => h60 z.1), up2_n _ _ (fun z => h60 z.1), up2_n _ _ (fun z => h60 z.1)]
      exact he
  · rw [if_neg hk] at he ⊢
    exact he

set_option maxHeartbeats 8000000 in
set_option maxRecDepth 100000 in
theorem tX7_ahead (l : Launch) (g : Gg) (B0 : Nat) (ad : Ad) (σ : Sg) (pd : Int64) (th : Int32) (h : Wd) (hok : OkP σ) (hT : OkT σ) (hh : ∀ i, h 60 i = none) (r M : Nat) (hr : r < 6) (hM : M ≤ 500) (pal : Int32) (hpal : pal = -1 ∨ ∃ j : Nat, j < nt σ ∧ pal = nI j) : MM l g B0 yX7_ahead (wsM yX7_ahead cX7_ahead 11 (some (.array .int))) ({ frames := 4, cells := 4, slots := 158, locals := 97 } : Room) [.ref (ad 20 0), .int (nI r), .int (nI M), .int pal] ad (fM g ad σ pd th h) (rAh g ad h σ pd th (nI (aheadS σ pd r M pal).1) ((aheadS σ pd r M pal).2.1 16 (6 * r))) (noX) 4 158 := by
  refine MM.start (by decide) (Nat.le_of_ble_eq_true rfl) ?_
  intro hl9 p e s m below meth c ls hC hno hI hl0
  have hx := hC.1.1
  have hb := hC.1.2.1
  have hts := hC.1.2.2.2.2
  have hl : lv_has ls 11 [(0, .ref (ad 20 0)), (1, .int (nI r)), (2, .int (nI M)), (3, .int pal)] := hl0
  obtain ⟨H, hH⟩ : ∃ H, H = s.heap := ⟨_, rfl⟩
  obtain ⟨locs, hLo⟩ : ∃ L : List Loc, L = [] := ⟨_, rfl⟩
  rw [← hH, ← hLo] at hI ⊢
  clear hH hLo hl0
  obtain ⟨hT1, hT2⟩ := id hT
  refine lv_aload_n hx hb dX7_ahead_0 rfl (lv_at hl 0 rfl) ?_
  refine gf_X7_45 hC hI fM_o rfl dX7_ahead_1 ?_
  refine r_clone hC hI hl.1 60 0 (fM_none (by decide) (hh 0)) fM_16 (Nat.le_of_ble_eq_true rfl) (Nat.le_of_ble_eq_true rfl) (Nat.le_of_ble_eq_true rfl) (Nat.le_of_ble_eq_true rfl) dX7_ahead_4 (fun q H hI => ?_)
  have hI := hI.cast (fM_tmp (q := q) (by decide))
  obtain ⟨ad2, had2⟩ : ∃ a2, a2 = adup ad 60 0 q := ⟨_, rfl⟩
  rw [← had2] at hI
  have e20 : ad 20 0 = ad2 20 0 := by rw [had2]; rfl
  have e60 : q = ad2 60 0 := by rw [had2]; exact (adup_s _ _ _ _).symm
  rw [e20] at hl
  rw [e60]
  refine r_castI hC hI (fM_hi (by decide)) dX7_ahead_7 ?_
  refine lv_astore (lv' := [(4, .ref (ad2 60 0)), (0, .ref (ad2 20 0)), (1, .int (nI r)), (2, .int (nI M)), (3, .int pal)]) hx hb dX7_ahead_10 hl (by decide) rfl (fun ls hl => ?_)
  refine lv_aload_n hx hb dX7_ahead_12 rfl (lv_at hl 1 rfl) ?_
  refine gf_X7_54 hC hI fM_o rfl dX7_ahead_13 ?_
  refine r_clone hC hI hl.1 60 1 (fM_none (by decide) (by rw [up2_n _ _ (by decide)]; exact hh 1)) fM_20 (Nat.le_of_ble_eq_true rfl) (Nat.le_of_ble_eq_true rfl) (Nat.le_of_ble_eq_true rfl) (Nat.le_of_ble_eq_true rfl) dX7_ahead_16 (fun q H hI => ?_)
  have hI := hI.cast (fM_tmp (q := q) (by decide))
  obtain ⟨ad3, had3⟩ : ∃ a2, a2 = adup ad2 60 1 q := ⟨_, rfl⟩
  rw [← had3] at hI
  have e20 : ad2 20 0 = ad3 20 0 := by rw [had3]; rfl
  have e60 : q = ad3 60 1 := by rw [had3]; exact (adup_s _ _ _ _).symm
  have e61 : ad2 60 0 = ad3 60 0 := by rw [had3]; rfl
  rw [e20, e61] at hl
  rw [e60]
  refine r_castI hC hI (fM_hi (by decide)) dX7_ahead_19 ?_
  refine lv_astore (lv' := [(5, .ref (ad3 60 1)), (4, .ref (ad3 60 0)), (0, .ref (ad3 20 0)), (1, .int (nI r)), (2, .int (nI M)), (3, .int pal)]) hx hb dX7_ahead_22 hl (by decide) rfl (fun ls hl => ?_)
  refine lv_aload_n hx hb dX7_ahead_24 rfl (lv_at hl 2 rfl) ?_
  refine gf_X7_57 hC hI fM_o rfl dX7_ahead_25 ?_
  refine r_clone hC hI hl.1 60 2 (fM_none (by decide) (by rw [up2_n _ _ (by decide), up2_n _ _ (by decide)]; exact hh 2)) fM_21 (Nat.le_of_ble_eq_true rfl) (Nat.le_of_ble_eq_true rfl) (Nat.le_of_ble_eq_true rfl) (Nat.le_of_ble_eq_true rfl) dX7_ahead_28 (fun q H hI => ?_)
  have hI := hI.cast (fM_tmp (q := q) (by decide))
  obtain ⟨ad4, had4⟩ : ∃ a2, a2 = adup ad3 60 2 q := ⟨_, rfl⟩
  rw [← had4] at hI
  have e20 : ad3 20 0 = ad4 20 0 := by rw [had4]; rfl
  have e60 : q = ad4 60 2 := by rw [had4]; exact (adup_s _ _ _ _).symm
  have e61 : ad3 60 0 = ad4 60 0 := by rw [had4]; rfl
  have e62 : ad3 60 1 = ad4 60 1 := by rw [had4]; rfl
  rw [e20, e61, e62] at hl
  rw [e60]
  refine r_castI hC hI (fM_hi (by decide)) dX7_ahead_31 ?_
  refine lv_astore (lv' := [(6, .ref (ad4 60 2)), (5, .ref (ad4 60 1)), (4, .ref (ad4 60 0)), (0, .ref (ad4 20 0)), (1, .int (nI r)), (2, .int (nI M)), (3, .int pal)]) hx hb dX7_ahead_34 hl (by decide) rfl (fun ls hl => ?_)
  obtain ⟨h3, hh3⟩ : ∃ z, z = (up2 (up2 (up2 h 60 0 (.inl (g.2 0, 36, .inl (σ 16)))) 60 1 (.inl (g.2 0, 60, .inl (σ 20)))) 60 2 (.inl (g.2 0, 60, .inl (σ 21)))) := ⟨_, rfl⟩
  rw [← hh3] at hI
  have hdum3 : True := trivial
  have hc0 : ∀ (τ : Sg) (pd : Int64), fM g ad4 τ pd th h3 60 0 = some (.inl (g.2 0, 36, .inl (σ 16))) := fun τ pd => by rw [hh3]; exact fM_hup (by decide) (by decide) (fM_hup (by decide) (by decide) (fM_hi (by decide)))
  have hc1 : ∀ (τ : Sg) (pd : Int64), fM g ad4 τ pd th h3 60 1 = some (.inl (g.2 0, 60, .inl (σ 20))) := fun τ pd => by rw [hh3]; exact fM_hup (by decide) (by decide) (fM_hi (by decide))
  have hc2 : ∀ (τ : Sg) (pd : Int64), fM g ad4 τ pd th h3 60 2 = some (.inl (g.2 0, 60, .inl (σ 21))) := fun τ pd => by rw [hh3]; exact fM_hi (by decide)
  have hn3 : h3 60 3 = none := by rw [hh3, up2_n _ _ (by decide), up2_n _ _ (by decide), up2_n _ _ (by decide)]; exact hh 3
  refine lv_aload_n hx hb dX7_ahead_36 rfl (lv_at hl 3 rfl) ?_
  refine gf_X7_154 hC hI fM_o rfl dX7_ahead_37 ?_
  refine lv_lstore (lv' := [(7, .long pd), (6, .ref (ad4 60 2)), (5, .ref (ad4 60 1)), (4, .ref (ad4 60 0)), (0, .ref (ad4 20 0)), (1, .int (nI r)), (2, .int (nI M)), (3, .int pal)]) hx hb dX7_ahead_40 hl (by decide) rfl (fun ls hl => ?_)
  refine lv_iconst (v := 0) hx hb dX7_ahead_42 (by decide) ?_
  refine lv_istore (lv' := [(9, .int (nI 0)), (7, .long pd), (6, .ref (ad4 60 2)), (5, .ref (ad4 60 1)), (4, .ref (ad4 60 0)), (0, .ref (ad4 20 0)), (1, .int (nI r)), (2, .int (nI M)), (3, .int pal)]) hx hb dX7_ahead_43 hl (by decide) rfl (fun ls hl => ?_)
  have J85 : ∀ (k : Nat) (x9 : Sg × Int64), ahI σ x9.1 → (k, x9) = aheadS σ pd r M pal → ∀ (H : Heap) (locs : List Loc), WI g ad4 B0 (fM g ad4 x9.1 x9.2 th h3) s H locs → ∀ (ls : Array Slot), lv_has ls 11 [(9, .int (nI k)), (7, .long pd), (6, .ref (ad4 60 2)), (5, .ref (ad4 60 1)), (4, .ref (ad4 60 0)), (0, .ref (ad4 20 0)), (1, .int (nI r)), (2, .int (nI M)), (3, .int pal)] → W p l e ({ frames := 4, cells := 4, slots := 158, locals := 97 } : Room) s m ([.ref (ad 20 0), .int (nI r), .int (nI M), .int pal] : List Value).toArray below meth c H locs (0 + 1 + 1 + 1) (0 + 36 + 60 + 60) (vx_MQ below (QI g B0 (rAh g ad h σ pd th (nI (aheadS σ pd r M pal).1) ((aheadS σ pd r M pal).2.1 16 (6 * r)))) (XI g B0 (noX)) ([.ref (ad 20 0), .int (nI r), .int (nI M), .int pal] : List Value).toArray s 4 158 (fun q => B0 ≤ q)) (F0 m 85 ls []) := by
    intro k x9 hA hE H locs hI ls hl
    refine lv_iconst (v := 2) hx hb dX7_ahead_85 (by decide) ?_
    refine r_newa hC hI 60 3 (fM_none (by decide) hn3) (atype := .int) wd_ac_int 0 rfl (hC.2.2.2.1.2 0 _ rfl).2 (a0 := (2, .inl (fun _ => 0))) rfl (by decide) (N' := 2) (by decide) (by decide) (Nat.le_of_ble_eq_true rfl) (Nat.le_of_ble_eq_true rfl) dX7_ahead_86 (fun q H hI => ?_)
    have hI := hI.cast (fM_tmp (q := q) (by decide))
    obtain ⟨ad5, had5⟩ : ∃ a2, a2 = adup ad4 60 3 q := ⟨_, rfl⟩
    rw [← had5] at hI
    have e20 : ad4 20 0 = ad5 20 0 := by rw [had5]; rfl
    have e60 : q = ad5 60 3 := by rw [had5]; exact (adup_s _ _ _ _).symm
    have e61 : ad4 60 0 = ad5 60 0 := by rw [had5]; rfl
    have e62 : ad4 60 1 = ad5 60 1 := by rw [had5]; rfl
    have e63 : ad4 60 2 = ad5 60 2 := by rw [had5]; rfl
    rw [e20, e61, e62, e63] at hl
    rw [e60]
    refine lv_dup hx hb dX7_ahead_88 rfl ?_
    refine lv_iconst (v := 0) hx hb dX7_ahead_89 (by decide) ?_
    refine lv_iload hx hb dX7_ahead_90 (lv_at hl 0 rfl) ?_
    refine r_iast hC hI (kk := 60) (ii := 3) (fM_hi (by decide)) (j := 0) rfl (by decide) (by decide) dX7_ahead_92 (fun H locs hI => ?_)
    have hI := hI.cast ((fM_h (by decide)).trans (congrArg _ (up2_up2 _ _ _ _ _)))
    refine lv_dup hx hb dX7_ahead_93 rfl ?_
    refine lv_iconst (v := 1) hx hb dX7_ahead_94 (by decide) ?_
    refine lv_aload_n hx hb dX7_ahead_95 rfl (lv_at hl 5 rfl) ?_
    refine gf_X7_45 hC hI fM_o rfl dX7_ahead_96 ?_
    refine lv_bipush (v := 6) hx hb dX7_ahead_99 (by decide) ?_
    refine lv_iload_n hx hb dX7_ahead_101 rfl (lv_at hl 6 rfl) ?_
    refine lv_imul hx hb dX7_ahead_102 ?_
    refine lv_iconst (v := 0) hx hb dX7_ahead_103 (by decide) ?_
    refine lv_iadd hx hb dX7_ahead_104 ?_
    refine r_iald hC hI fM_16 (j := (6 * r)) (by rw [six_nI]; exact nI_add _ 0) (by omega) (by decide) dX7_ahead_105 ?_
    refine r_iast hC hI (kk := 60) (ii := 3) (fM_hi (by decide)) (j := 1) rfl (by decide) (by decide) dX7_ahead_106 (fun H locs hI => ?_)
    have hI := hI.cast ((fM_h (by decide)).trans (congrArg _ (up2_up2 _ _ _ _ _)))
    refine lv_astore (lv' := [(10, .ref (ad5 60 3)), (9, .int (nI k)), (7, .long pd), (6, .ref (ad5 60 2)), (5, .ref (ad5 60 1)), (4, .ref (ad5 60 0)), (0, .ref (ad5 20 0)), (1, .int (nI r)), (2, .int (nI M)), (3, .int pal)]) hx hb dX7_ahead_107 hl (by decide) rfl (fun ls hl => ?_)
    refine lv_aload hx hb dX7_ahead_109 (lv_at hl 5 rfl) ?_
    refine lv_iconst (v := 0) hx hb dX7_ahead_111 (by decide) ?_
    refine lv_aload_n hx hb dX7_ahead_112 rfl (lv_at hl 6 rfl) ?_
    refine gf_X7_45 hC hI fM_o rfl dX7_ahead_113 ?_
    refine lv_iconst (v := 0) hx hb dX7_ahead_116 (by decide) ?_
    refine lv_aload_n hx hb dX7_ahead_117 rfl (lv_at hl 6 rfl) ?_
    refine gf_X7_45 hC hI fM_o rfl dX7_ahead_118 ?_
    refine r_alen hC hI fM_16 0 rfl (v := 36) rfl dX7_ahead_121 ?_
    refine r_copy hC hI hl.1 (fM_hup (by decide) (by decide) (by have z := hc0 (x9.1) (x9.2); unfold fM at z ⊢; rw [if_pos (Or.inr (by decide))] at z ⊢; exact z)) fM_16 (N := 36) rfl (by decide) (by decide) (by decide) (Nat.le_of_ble_eq_true rfl) (Nat.le_of_ble_eq_true rfl) dX7_ahead_122 (fun H locs hI => ?_)
    have hI := hI.cast (fM_a 16 rfl (by decide) (by decide) rfl)
    refine lv_aload hx hb dX7_ahead_125 (lv_at hl 4 rfl) ?_
    refine lv_iconst (v := 0) hx hb dX7_ahead_127 (by decide) ?_
    refine lv_aload_n hx hb dX7_ahead_128 rfl (lv_at hl 6 rfl) ?_
    refine gf_X7_54 hC hI fM_o rfl dX7_ahead_129 ?_
    refine lv_iconst (v := 0) hx hb dX7_ahead_132 (by decide) ?_
    refine lv_bipush (v := 60) hx hb dX7_ahead_133 (by decide) ?_
    refine r_copy hC hI hl.1 (fM_hup (by decide) (by decide) (by have z := hc1 (su (x9.1) 16 (va_cpy (σ 16) (x9.1 16) 0 0 36)) (x9.2); unfold fM at z ⊢; rw [if_pos (Or.inr (by decide))] at z ⊢; exact z)) fM_20 (N := 60) rfl (by decide) (by decide) (by decide) (Nat.le_of_ble_eq_true rfl) (Nat.le_of_ble_eq_true rfl) dX7_ahead_135 (fun H locs hI => ?_)
    have hI := hI.cast (fM_a 20 rfl (by decide) (by decide) rfl)
    refine lv_aload hx hb dX7_ahead_138 (lv_at hl 3 rfl) ?_
    refine lv_iconst (v := 0) hx hb dX7_ahead_140 (by decide) ?_
    refine lv_aload_n hx hb dX7_ahead_141 rfl (lv_at hl 6 rfl) ?_
    refine gf_X7_57 hC hI fM_o rfl dX7_ahead_142 ?_
    refine lv_iconst (v := 0) hx hb dX7_ahead_145 (by decide) ?_
    refine lv_bipush (v := 60) hx hb dX7_ahead_146 (by decide) ?_
    refine r_copy hC hI hl.1 (fM_hup (by decide) (by decide) (by have z := hc2 (su (su (x9.1) 16 (va_cpy (σ 16) (x9.1 16) 0 0 36)) 20 (va_cpy (σ 20) (x9.1 20) 0 0 60)) (x9.2); unfold fM at z ⊢; rw [if_pos (Or.inr (by decide))] at z ⊢; exact z)) fM_21 (N := 60) rfl (by decide) (by decide) (by decide) (Nat.le_of_ble_eq_true rfl) (Nat.le_of_ble_eq_true rfl) dX7_ahead_148 (fun H locs hI => ?_)
    have hI := hI.cast (fM_a 21 rfl (by decide) (by decide) rfl)
    refine lv_aload_n hx hb dX7_ahead_151 rfl (lv_at hl 6 rfl) ?_
    refine lv_lload hx hb dX7_ahead_152 (lv_at hl 2 rfl) ?_
    refine pf_X7_154 hC hI fM_o (Nat.le_of_ble_eq_true rfl) dX7_ahead_154 (fun H locs hI => ?_)
    have hI := hI.cast fM_ppd
    have hI := hI.cast (congrArg (fun z => fM g ad5 z pd th (up2 h3 60 3 (.inl (g.2 0, 2, .inl (upd (upd (fun _ => 0) 0 (nI k)) 1 (x9.1 16 (6 * r))))))) (ah_back hA))
    refine lv_aload hx hb dX7_ahead_157 (lv_at hl 0 rfl) ?_
    have hE1 : (aheadS σ pd r M pal).1 = k := by rw [← hE]
    have hE2 : (aheadS σ pd r M pal).2.1 = x9.1 := by rw [← hE]
    have ha5 : ∀ k i, ¬ k = 60 → ad5 k i = ad k i := fun k i hk => by rw [had5, adup_n _ _ (fun z => hk z.1), had4, adup_n _ _ (fun z => hk z.1), had3, adup_n _ _ (fun z => hk z.1), had2, adup_n _ _ (fun z => hk z.1)]
    have hI := hI.sub (ad' := ad5) (f' := fM g ad5 σ pd th (up2 h 60 3 (.inl (g.2 0, 2, .inl (upd (upd (fun _ => 0) 0 (nI k)) 1 (x9.1 16 (6 * r))))))) (fun k i e he => ⟨fM_drop hh hh3 he, rfl⟩)
    exact e_ref hC (Or.inr ⟨_, rfl⟩) hI (Or.inr ⟨_, rfl⟩) ⟨ha5, rfl, by rw [hE1, hE2]⟩ (Nat.le_of_ble_eq_true rfl) (Nat.le_of_ble_eq_true rfl) dX7_ahead_159
  have L45 : ∀ (n : Nat) (k : Nat) (x9 : Sg × Int64), k ≤ M → ahI σ x9.1 → ahL r pal (cN (σ 1 0)) (M - k) k x9 = aheadS σ pd r M pal → M + 1 ≤ k + n → ∀ (H : Heap) (locs : List Loc), WI g ad4 B0 (fM g ad4 x9.1 x9.2 th h3) s H locs → ∀ (ls : Array Slot), lv_has ls 11 [(9, .int (nI k)), (7, .long pd), (6, .ref (ad4 60 2)), (5, .ref (ad4 60 1)), (4, .ref (ad4 60 0)), (0, .ref (ad4 20 0)), (1, .int (nI r)), (2, .int (nI M)), (3, .int pal)] → W p l e ({ frames := 4, cells := 4, slots := 158, locals := 97 } : Room) s m ([.ref (ad 20 0), .int (nI r), .int (nI M), .int pal] : List Value).toArray below meth c H locs (0 + 1 + 1 + 1) (0 + 36 + 60 + 60) (vx_MQ below (QI g B0 (rAh g ad h σ pd th (nI (aheadS σ pd r M pal).1) ((aheadS σ pd r M pal).2.1 16 (6 * r)))) (XI g B0 (noX)) ([.ref (ad 20 0), .int (nI r), .int (nI M), .int pal] : List Value).toArray s 4 158 (fun q => B0 ≤ q)) (F0 m 45 ls []) := by
    intro n
    induction n with
    | zero =>
      intro k x9 hk9 hA hE hfu
      exact absurd hfu (by omega)
    | succ n ih45 =>
      intro k x9 hk9 hA hE hfu H locs hI ls hl
      refine lv_iload hx hb dX7_ahead_45 (lv_at hl 0 rfl) ?_
      refine lv_iload_n hx hb dX7_ahead_47 rfl (lv_at hl 7 rfl) ?_
      refine lv_icmp_ge (tgt := 85) hx hb dX7_ahead_48 (by decide) (fun c48 => ?_) (fun c48 => ?_)
      · have hkM : k = M := Nat.le_antisymm hk9 ((nI_leI (by omega) (by omega)).mp c48)
        exact J85 k x9 hA (by rw [← hE, hkM, Nat.sub_self]; rfl) _ _ hI ls (lv_sub hl [0, 1, 2, 3, 4, 5, 6, 7, 8] rfl)
      · have hkM : k < M := Nat.lt_of_not_le (fun z => c48 (nI_le z (by omega)))
        have hMk : M - k = M - (k + 1) + 1 := by omega
        have hokx : OkP x9.1 := ahI_ok hA hok
        have e17 : nt x9.1 = nt σ := by unfold nt; rw [hA.1 17 (by decide) (by decide) (by decide)]
        refine lv_iload_n hx hb dX7_ahead_51 rfl (lv_at hl 8 rfl) ?_
        refine lv_iconst (v := (-1)) hx hb dX7_ahead_52 (by decide) ?_
        refine lv_icmp_eq (tgt := 64) hx hb dX7_ahead_53 (by decide) (fun c53 => ?_) (fun c53 => ?_)
        · have hcnd : pal = -1 ∨ ¬ leftS x9.1 (cN pal) < 0 := Or.inl c53
          refine lv_aload_n hx hb dX7_ahead_64 rfl (lv_at hl 5 rfl) ?_
          refine lv_iload_n hx hb dX7_ahead_65 rfl (lv_at hl 6 rfl) ?_
          refine lv_aload_n hx hb dX7_ahead_66 rfl (lv_at hl 5 rfl) ?_
          refine gf_X7_88 hC hI fM_o rfl dX7_ahead_67 ?_
          refine lv_iload hx hb dX7_ahead_70 (lv_at hl 0 rfl) ?_
          refine lv_iadd hx hb dX7_ahead_72 ?_
          refine lv_bipush (v := 24) hx hb dX7_ahead_73 (by decide) ?_
          refine lv_irem hx hb dX7_ahead_75 (by decide) ?_
          rw [show x9.1 1 0 = nI (cN (σ 1 0)) from (congrFun (hA.1 1 (by decide) (by decide) (by decide)) 0).trans hT1, nI_add, show nI (cN (σ 1 0) + k) - nI (cN (σ 1 0) + k) / 24 * 24 = nI ((cN (σ 1 0) + k) % 24) from pk_rem (by omega) (d := 24) (by decide) (by decide)]
          refine c_Vv (rest := []) hl9 hC hI hl.1 (tX7_hour l g B0 ad4 x9.1 x9.2 th h3 hokx r ((cN (σ 1 0) + k) % 24) hr (Nat.mod_lt _ (by decide))) (cw_X7_158 hts rfl rfl ⟨(Nat.le_of_ble_eq_true rfl), (Nat.le_of_ble_eq_true rfl)⟩) fM_o rfl rfl rfl rfl (Nat.le_of_ble_eq_true rfl) dX7_ahead_76 ⟨(Nat.le_of_ble_eq_true rfl), (Nat.le_of_ble_eq_true rfl)⟩ (fun H locs hI => ?_)
          refine lv_iinc (v := nI (k + 1)) (lv' := [(9, .int (nI (k + 1))), (7, .long pd), (6, .ref (ad4 60 2)), (5, .ref (ad4 60 1)), (4, .ref (ad4 60 0)), (0, .ref (ad4 20 0)), (1, .int (nI r)), (2, .int (nI M)), (3, .int pal)]) hx hb dX7_ahead_79 hl (k := 0) rfl (nI_1 _) (by decide) rfl (fun ls hl => ?_)
          refine lv_goto (tgt := 45) hx hb dX7_ahead_82 (by decide) ?_
          exact ih45 (k + 1) (hourS x9.1 r ((cN (σ 1 0) + k) % 24), hourP x9.1 x9.2 r ((cN (σ 1 0) + k) % 24)) (by omega) (ahI_hour hA hok hr _) (by rw [← hE, hMk, ahL_1 hcnd]) (by omega) _ _ hI ls (lv_sub hl [0, 1, 2, 3, 4, 5, 6, 7, 8] rfl)
        · obtain ⟨j, hj, hpj⟩ := hpal.resolve_left c53
          have h60 := hok.2.1
          have hcj : cN pal = j := by rw [hpj]; exact cN_nI (by omega)
          refine lv_aload_n hx hb dX7_ahead_56 rfl (lv_at hl 5 rfl) ?_
          refine lv_iload_n hx hb dX7_ahead_57 rfl (lv_at hl 8 rfl) ?_
          refine lv_topi (fun y58 ey58 => ?_)
          rw [hpj] at ey58
          subst ey58
          refine c_Vi (rest := []) hl9 hC hI hl.1 (tX7_leftOf l g B0 ad4 x9.1 x9.2 th h3 hokx j (by omega)) (cw_X7_128 hts rfl rfl ⟨(Nat.le_of_ble_eq_true rfl), (Nat.le_of_ble_eq_true rfl)⟩) fM_o rfl rfl rfl rfl (Nat.le_of_ble_eq_true rfl) dX7_ahead_58 ⟨(Nat.le_of_ble_eq_true rfl), (Nat.le_of_ble_eq_true rfl)⟩ (fun H locs hI => ?_)
          refine lv_if_lt (tgt := 85) hx hb dX7_ahead_61 (by decide) (fun c61 => ?_) (fun c61 => ?_)
          · exact J85 k x9 hA (by rw [← hE, hMk, ahL_0 (fun z => z.elim c53 (fun y => y (by rw [hcj]; exact c61)))]) _ _ hI ls (lv_sub hl [0, 1, 2, 3, 4, 5, 6, 7, 8] rfl)
          · have hcnd : pal = -1 ∨ ¬ leftS x9.1 (cN pal) < 0 := Or.inr (by rw [hcj]; exact c61)
            refine lv_aload_n hx hb dX7_ahead_64 rfl (lv_at hl 5 rfl) ?_
            refine lv_iload_n hx hb dX7_ahead_65 rfl (lv_at hl 6 rfl) ?_
            refine lv_aload_n hx hb dX7_ahead_66 rfl (lv_at hl 5 rfl) ?_
            refine gf_X7_88 hC hI fM_o rfl dX7_ahead_67 ?_
            refine lv_iload hx hb dX7_ahead_70 (lv_at hl 0 rfl) ?_
            refine lv_iadd hx hb dX7_ahead_72 ?_
            refine lv_bipush (v := 24) hx hb dX7_ahead_73 (by decide) ?_
            refine lv_irem hx hb dX7_ahead_75 (by decide) ?_
            rw [show x9.1 1 0 = nI (cN (σ 1 0)) from (congrFun (hA.1 1 (by decide) (by decide) (by decide)) 0).trans hT1, nI_add, show nI (cN (σ 1 0) + k) - nI (cN (σ 1 0) + k) / 24 * 24 = nI ((cN (σ 1 0) + k) % 24) from pk_rem (by omega) (d := 24) (by decide) (by decide)]
            refine c_Vv (rest := []) hl9 hC hI hl.1 (tX7_hour l g B0 ad4 x9.1 x9.2 th h3 hokx r ((cN (σ 1 0) + k) % 24) hr (Nat.mod_lt _ (by decide))) (cw_X7_158 hts rfl rfl ⟨(Nat.le_of_ble_eq_true rfl), (Nat.le_of_ble_eq_true rfl)⟩) fM_o rfl rfl rfl rfl (Nat.le_of_ble_eq_true rfl) dX7_ahead_76 ⟨(Nat.le_of_ble_eq_true rfl), (Nat.le_of_ble_eq_true rfl)⟩ (fun H locs hI => ?_)
            refine lv_iinc (v := nI (k + 1)) (lv' := [(9, .int (nI (k + 1))), (7, .long pd), (6, .ref (ad4 60 2)), (5, .ref (ad4 60 1)), (4, .ref (ad4 60 0)), (0, .ref (ad4 20 0)), (1, .int (nI r)), (2, .int (nI M)), (3, .int pal)]) hx hb dX7_ahead_79 hl (k := 0) rfl (nI_1 _) (by decide) rfl (fun ls hl => ?_)
            refine lv_goto (tgt := 45) hx hb dX7_ahead_82 (by decide) ?_
            exact ih45 (k + 1) (hourS x9.1 r ((cN (σ 1 0) + k) % 24), hourP x9.1 x9.2 r ((cN (σ 1 0) + k) % 24)) (by omega) (ahI_hour hA hok hr _) (by rw [← hE, hMk, ahL_1 hcnd]) (by omega) _ _ hI ls (lv_sub hl [0, 1, 2, 3, 4, 5, 6, 7, 8] rfl)
  exact L45 (M + 1) 0 (σ, pd) (by omega) ⟨fun _ _ _ _ => rfl, fun _ _ => rfl, fun _ _ => rfl, fun _ _ => rfl⟩ rfl (by omega) _ _ hI ls (lv_sub hl [0, 1, 2, 3, 4, 5, 6, 7, 8] rfl)
