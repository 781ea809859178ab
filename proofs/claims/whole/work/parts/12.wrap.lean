/-! results known beforehand, and the calls by them -/
abbrev dI (r : Int32) (a0 : Ad) (f0 : Wd) : Option Value → Ad → Wd → Prop := fun v a w => v = some (.int r) ∧ a = a0 ∧ w = f0
abbrev dL (r : Int64) (a0 : Ad) (f0 : Wd) : Option Value → Ad → Wd → Prop := fun v a w => v = some (.long r) ∧ a = a0 ∧ w = f0
abbrev dD (r : UInt64) (a0 : Ad) (f0 : Wd) : Option Value → Ad → Wd → Prop := fun v a w => v = some (.double r) ∧ a = a0 ∧ w = f0
abbrev dQ (r : Option Nat) (a0 : Ad) (f0 : Wd) : Option Value → Ad → Wd → Prop := fun v a w => v = some (va_rf r) ∧ a = a0 ∧ w = f0
abbrev dV (a0 : Ad) (f0 : Wd) : Option Value → Ad → Wd → Prop := fun v a w => v = none ∧ a = a0 ∧ w = f0
/-- .. or only if C holds -/
abbrev dIc (C : Prop) (r : Int32) (a0 : Ad) (f0 : Wd) : Option Value → Ad → Wd → Prop := fun v a w => C ∧ v = some (.int r) ∧ a = a0 ∧ w = f0
abbrev dVc (C : Prop) (a0 : Ad) (f0 : Wd) : Option Value → Ad → Wd → Prop := fun v a w => C ∧ v = none ∧ a = a0 ∧ w = f0
/-- a throw that leaves the world as it was -/
abbrev xE (P : String → Prop) (a0 : Ad) (f0 : Wd) : String → Ad → Wd → Prop := fun E a w => P E ∧ a = a0 ∧ w = f0
section WRAP
variable {p : Program} {l : Launch} {e : Env} {R : Room} {s : State} {m : MethodId} {args : Array Value} {below : List Frame} {meth : Method} {c : Code} {H : Heap} {locs : List Loc} {cells slots : Nat} {Q : State → Prop}
variable {g : Gg} {B0 : Nat} {ad : Ad} {f : Wd} {own : String} {cc : ByteArray} {nL : Nat} {ret : Option FieldType}
variable {pc : Nat} {ls : Array Slot} {rest st0 : List Value} {kk ii : Nat}
variable {mc ms n index : Nat} {C : String} {y : MethodName} {bytes : ByteArray} {maxL : Nat} {rt : Option FieldType} {rm : Room} {As : List Value} {ci : Nat} {q : vw_C} {fs : List Value} {ad' : Ad} {f' : Wd}
theorem c_Vi {r : Int32} (hl : l.stackTraces = false) (hC : Cx p s m args meth c own cc nL ret g B0) (hI : WI g ad B0 f s H locs) (hls : ls.size = nL) (hM : MM l g B0 y (wsM y bytes maxL rt) rm (.ref (ad kk ii) :: As) ad f (dI r ad' f') (noX) 0 0) (cw : CallW R s args own C index y bytes maxL rt (wsM y bytes maxL rt) rm 0 0 n) (hrecv : f kk ii = some (.inr (ci, fs))) (hq : vwCl[ci]? = some q) (hqC : q.1 = C) (hn : As.length = n) (hst : st0 = As.reverse ++ .ref (ad kk ii) :: rest) (hW : (rest.map fun v => v.category).sum ≤ 8) (hdg : decode cc pc = .ok (.invokevirtual index, 3)) (hf : cells + 0 ≤ R.cells ∧ slots + 0 ≤ R.slots) (kont : ∀ (H1 : Heap) (locs1 : List Loc), WI g ad' B0 f' s H1 locs1 → W p l e R s m args below meth c H1 locs1 cells slots Q (F0 m (pc + 3) ls (.int r :: rest))) : W p l e R s m args below meth c H locs cells slots Q (F0 m pc ls st0) := by
  refine r_callV hl hC hI hls hM cw hrecv hq hqC hn hst hW hdg hf (fun v a w H1 locs1 hR hI1 => ?_) (fun _ _ _ _ _ _ _ h => h.elim)
  obtain ⟨rfl, rfl, rfl⟩ := hR
  exact kont H1 locs1 hI1
theorem c_Si {r : Int32} (hl : l.stackTraces = false) (hC : Cx p s m args meth c own cc nL ret g B0) (hI : WI g ad B0 f s H locs) (hls : ls.size = nL) (hM : MM l g B0 y (wsM y bytes maxL rt) rm As ad f (dI r ad' f') (noX) 0 0) (cw : CallB R s args own index y bytes maxL rt (wsM y bytes maxL rt) rm 0 0 n ∧ (Cond.static y).before args s = true) (hn : As.length = n) (hst : st0 = As.reverse ++ rest) (hW : (rest.map fun v => v.category).sum ≤ 8) (hdg : decode cc pc = .ok (.invokestatic index, 3)) (hf : cells + 0 ≤ R.cells ∧ slots + 0 ≤ R.slots) (kont : ∀ (H1 : Heap) (locs1 : List Loc), WI g ad' B0 f' s H1 locs1 → W p l e R s m args below meth c H1 locs1 cells slots Q (F0 m (pc + 3) ls (.int r :: rest))) : W p l e R s m args below meth c H locs cells slots Q (F0 m pc ls st0) := by
  refine r_callS hl hC hI hls hM cw hn hst hW hdg hf (fun v a w H1 locs1 hR hI1 => ?_) (fun _ _ _ _ _ _ _ h => h.elim)
  obtain ⟨rfl, rfl, rfl⟩ := hR
  exact kont H1 locs1 hI1
theorem c_Vl {r : Int64} (hl : l.stackTraces = false) (hC : Cx p s m args meth c own cc nL ret g B0) (hI : WI g ad B0 f s H locs) (hls : ls.size = nL) (hM : MM l g B0 y (wsM y bytes maxL rt) rm (.ref (ad kk ii) :: As) ad f (dL r ad' f') (noX) 0 0) (cw : CallW R s args own C index y bytes maxL rt (wsM y bytes maxL rt) rm 0 0 n) (hrecv : f kk ii = some (.inr (ci, fs))) (hq : vwCl[ci]? = some q) (hqC : q.1 = C) (hn : As.length = n) (hst : st0 = As.reverse ++ .ref (ad kk ii) :: rest) (hW : (rest.map fun v => v.category).sum ≤ 8) (hdg : decode cc pc = .ok (.invokevirtual index, 3)) (hf : cells + 0 ≤ R.cells ∧ slots + 0 ≤ R.slots) (kont : ∀ (H1 : Heap) (locs1 : List Loc), WI g ad' B0 f' s H1 locs1 → W p l e R s m args below meth c H1 locs1 cells slots Q (F0 m (pc + 3) ls (.long r :: rest))) : W p l e R s m args below meth c H locs cells slots Q (F0 m pc ls st0) := by
  refine r_callV hl hC hI hls hM cw hrecv hq hqC hn hst hW hdg hf (fun v a w H1 locs1 hR hI1 => ?_) (fun _ _ _ _ _ _ _ h => h.elim)
  obtain ⟨rfl, rfl, rfl⟩ := hR
  exact kont H1 locs1 hI1
theorem c_Sl {r : Int64} (hl : l.stackTraces = false) (hC : Cx p s m args meth c own cc nL ret g B0) (hI : WI g ad B0 f s H locs) (hls : ls.size = nL) (hM : MM l g B0 y (wsM y bytes maxL rt) rm As ad f (dL r ad' f') (noX) 0 0) (cw : CallB R s args own index y bytes maxL rt (wsM y bytes maxL rt) rm 0 0 n ∧ (Cond.static y).before args s = true) (hn : As.length = n) (hst : st0 = As.reverse ++ rest) (hW : (rest.map fun v => v.category).sum ≤ 8) (hdg : decode cc pc = .ok (.invokestatic index, 3)) (hf : cells + 0 ≤ R.cells ∧ slots + 0 ≤ R.slots) (kont : ∀ (H1 : Heap) (locs1 : List Loc), WI g ad' B0 f' s H1 locs1 → W p l e R s m args below meth c H1 locs1 cells slots Q (F0 m (pc + 3) ls (.long r :: rest))) : W p l e R s m args below meth c H locs cells slots Q (F0 m pc ls st0) := by
  refine r_callS hl hC hI hls hM cw hn hst hW hdg hf (fun v a w H1 locs1 hR hI1 => ?_) (fun _ _ _ _ _ _ _ h => h.elim)
  obtain ⟨rfl, rfl, rfl⟩ := hR
  exact kont H1 locs1 hI1
theorem c_Vd {r : UInt64} (hl : l.stackTraces = false) (hC : Cx p s m args meth c own cc nL ret g B0) (hI : WI g ad B0 f s H locs) (hls : ls.size = nL) (hM : MM l g B0 y (wsM y bytes maxL rt) rm (.ref (ad kk ii) :: As) ad f (dD r ad' f') (noX) 0 0) (cw : CallW R s args own C index y bytes maxL rt (wsM y bytes maxL rt) rm 0 0 n) (hrecv : f kk ii = some (.inr (ci, fs))) (hq : vwCl[ci]? = some q) (hqC : q.1 = C) (hn : As.length = n) (hst : st0 = As.reverse ++ .ref (ad kk ii) :: rest) (hW : (rest.map fun v => v.category).sum ≤ 8) (hdg : decode cc pc = .ok (.invokevirtual index, 3)) (hf : cells + 0 ≤ R.cells ∧ slots + 0 ≤ R.slots) (kont : ∀ (H1 : Heap) (locs1 : List Loc), WI g ad' B0 f' s H1 locs1 → W p l e R s m args below meth c H1 locs1 cells slots Q (F0 m (pc + 3) ls (.double r :: rest))) : W p l e R s m args below meth c H locs cells slots Q (F0 m pc ls st0) := by
  refine r_callV hl hC hI hls hM cw hrecv hq hqC hn hst hW hdg hf (fun v a w H1 locs1 hR hI1 => ?_) (fun _ _ _ _ _ _ _ h => h.elim)
  obtain ⟨rfl, rfl, rfl⟩ := hR
  exact kont H1 locs1 hI1
theorem c_Sd {r : UInt64} (hl : l.stackTraces = false) (hC : Cx p s m args meth c own cc nL ret g B0) (hI : WI g ad B0 f s H locs) (hls : ls.size = nL) (hM : MM l g B0 y (wsM y bytes maxL rt) rm As ad f (dD r ad' f') (noX) 0 0) (cw : CallB R s args own index y bytes maxL rt (wsM y bytes maxL rt) rm 0 0 n ∧ (Cond.static y).before args s = true) (hn : As.length = n) (hst : st0 = As.reverse ++ rest) (hW : (rest.map fun v => v.category).sum ≤ 8) (hdg : decode cc pc = .ok (.invokestatic index, 3)) (hf : cells + 0 ≤ R.cells ∧ slots + 0 ≤ R.slots) (kont : ∀ (H1 : Heap) (locs1 : List Loc), WI g ad' B0 f' s H1 locs1 → W p l e R s m args below meth c H1 locs1 cells slots Q (F0 m (pc + 3) ls (.double r :: rest))) : W p l e R s m args below meth c H locs cells slots Q (F0 m pc ls st0) := by
  refine r_callS hl hC hI hls hM cw hn hst hW hdg hf (fun v a w H1 locs1 hR hI1 => ?_) (fun _ _ _ _ _ _ _ h => h.elim)
  obtain ⟨rfl, rfl, rfl⟩ := hR
  exact kont H1 locs1 hI1
theorem c_Vq {r : Option Nat} (hl : l.stackTraces = false) (hC : Cx p s m args meth c own cc nL ret g B0) (hI : WI g ad B0 f s H locs) (hls : ls.size = nL) (hM : MM l g B0 y (wsM y bytes maxL rt) rm (.ref (ad kk ii) :: As) ad f (dQ r ad' f') (noX) 0 0) (cw : CallW R s args own C index y bytes maxL rt (wsM y bytes maxL rt) rm 0 0 n) (hrecv : f kk ii = some (.inr (ci, fs))) (hq : vwCl[ci]? = some q) (hqC : q.1 = C) (hn : As.length = n) (hst : st0 = As.reverse ++ .ref (ad kk ii) :: rest) (hW : (rest.map fun v => v.category).sum ≤ 8) (hdg : decode cc pc = .ok (.invokevirtual index, 3)) (hf : cells + 0 ≤ R.cells ∧ slots + 0 ≤ R.slots) (kont : ∀ (H1 : Heap) (locs1 : List Loc), WI g ad' B0 f' s H1 locs1 → W p l e R s m args below meth c H1 locs1 cells slots Q (F0 m (pc + 3) ls (va_rf r :: rest))) : W p l e R s m args below meth c H locs cells slots Q (F0 m pc ls st0) := by
  refine r_callV hl hC hI hls hM cw hrecv hq hqC hn hst hW hdg hf (fun v a w H1 locs1 hR hI1 => ?_) (fun _ _ _ _ _ _ _ h => h.elim)
  obtain ⟨rfl, rfl, rfl⟩ := hR
  exact kont H1 locs1 hI1
theorem c_Sq {r : Option Nat} (hl : l.stackTraces = false) (hC : Cx p s m args meth c own cc nL ret g B0) (hI : WI g ad B0 f s H locs) (hls : ls.size = nL) (hM : MM l g B0 y (wsM y bytes maxL rt) rm As ad f (dQ r ad' f') (noX) 0 0) (cw : CallB R s args own index y bytes maxL rt (wsM y bytes maxL rt) rm 0 0 n ∧ (Cond.static y).before args s = true) (hn : As.length = n) (hst : st0 = As.reverse ++ rest) (hW : (rest.map fun v => v.category).sum ≤ 8) (hdg : decode cc pc = .ok (.invokestatic index, 3)) (hf : cells + 0 ≤ R.cells ∧ slots + 0 ≤ R.slots) (kont : ∀ (H1 : Heap) (locs1 : List Loc), WI g ad' B0 f' s H1 locs1 → W p l e R s m args below meth c H1 locs1 cells slots Q (F0 m (pc + 3) ls (va_rf r :: rest))) : W p l e R s m args below meth c H locs cells slots Q (F0 m pc ls st0) := by
  refine r_callS hl hC hI hls hM cw hn hst hW hdg hf (fun v a w H1 locs1 hR hI1 => ?_) (fun _ _ _ _ _ _ _ h => h.elim)
  obtain ⟨rfl, rfl, rfl⟩ := hR
  exact kont H1 locs1 hI1
theorem c_Vv  (hl : l.stackTraces = false) (hC : Cx p s m args meth c own cc nL ret g B0) (hI : WI g ad B0 f s H locs) (hls : ls.size = nL) (hM : MM l g B0 y (wsM y bytes maxL rt) rm (.ref (ad kk ii) :: As) ad f (dV ad' f') (noX) 0 0) (cw : CallW R s args own C index y bytes maxL rt (wsM y bytes maxL rt) rm 0 0 n) (hrecv : f kk ii = some (.inr (ci, fs))) (hq : vwCl[ci]? = some q) (hqC : q.1 = C) (hn : As.length = n) (hst : st0 = As.reverse ++ .ref (ad kk ii) :: rest) (hW : (rest.map fun v => v.category).sum ≤ 8) (hdg : decode cc pc = .ok (.invokevirtual index, 3)) (hf : cells + 0 ≤ R.cells ∧ slots + 0 ≤ R.slots) (kont : ∀ (H1 : Heap) (locs1 : List Loc), WI g ad' B0 f' s H1 locs1 → W p l e R s m args below meth c H1 locs1 cells slots Q (F0 m (pc + 3) ls rest)) : W p l e R s m args below meth c H locs cells slots Q (F0 m pc ls st0) := by
  refine r_callV hl hC hI hls hM cw hrecv hq hqC hn hst hW hdg hf (fun v a w H1 locs1 hR hI1 => ?_) (fun _ _ _ _ _ _ _ h => h.elim)
  obtain ⟨rfl, rfl, rfl⟩ := hR
  exact kont H1 locs1 hI1
theorem c_Sv  (hl : l.stackTraces = false) (hC : Cx p s m args meth c own cc nL ret g B0) (hI : WI g ad B0 f s H locs) (hls : ls.size = nL) (hM : MM l g B0 y (wsM y bytes maxL rt) rm As ad f (dV ad' f') (noX) 0 0) (cw : CallB R s args own index y bytes maxL rt (wsM y bytes maxL rt) rm 0 0 n ∧ (Cond.static y).before args s = true) (hn : As.length = n) (hst : st0 = As.reverse ++ rest) (hW : (rest.map fun v => v.category).sum ≤ 8) (hdg : decode cc pc = .ok (.invokestatic index, 3)) (hf : cells + 0 ≤ R.cells ∧ slots + 0 ≤ R.slots) (kont : ∀ (H1 : Heap) (locs1 : List Loc), WI g ad' B0 f' s H1 locs1 → W p l e R s m args below meth c H1 locs1 cells slots Q (F0 m (pc + 3) ls rest)) : W p l e R s m args below meth c H locs cells slots Q (F0 m pc ls st0) := by
  refine r_callS hl hC hI hls hM cw hn hst hW hdg hf (fun v a w H1 locs1 hR hI1 => ?_) (fun _ _ _ _ _ _ _ h => h.elim)
  obtain ⟨rfl, rfl, rfl⟩ := hR
  exact kont H1 locs1 hI1
theorem x_V {Rr : Option Value → Ad → Wd → Prop} {RX RXo : String → Ad → Wd → Prop} {Qc : Array Value → State → Outcome → State → Prop} {mc0 ms0 : Nat} (hl : l.stackTraces = false) (hC : Cx p s m args meth c own cc nL ret g B0) (hI : WI g ad B0 f s H locs) (hls : ls.size = nL) (hM : MM l g B0 y (wsM y bytes maxL rt) rm (.ref (ad kk ii) :: As) ad f (Rr) (RX) mc ms) (cw : CallW R s args own C index y bytes maxL rt (wsM y bytes maxL rt) rm mc ms n) (hrecv : f kk ii = some (.inr (ci, fs))) (hq : vwCl[ci]? = some q) (hqC : q.1 = C) (hn : As.length = n) (hst : st0 = As.reverse ++ .ref (ad kk ii) :: rest) (hW : (rest.map fun v => v.category).sum ≤ 8) (hdg : decode cc pc = .ok (.invokevirtual index, 3)) (hf : cells + mc ≤ R.cells ∧ slots + ms ≤ R.slots) (hno : Cn c) (hR0 : cells + mc ≤ mc0) (hR1 : slots + ms ≤ ms0) (hprop : ∀ E a w, RX E a w → RXo E a w) (kont : ∀ (v : Option Value) (a : Ad) (w : Wd) (H1 : Heap) (locs1 : List Loc), Rr v a w → WI g a B0 w s H1 locs1 → W p l e R s m args below meth c H1 locs1 (cells + mc) (slots + ms) (vx_MQ below Qc (XI g B0 RXo) args s mc0 ms0 (fun q => B0 ≤ q)) (F0 m (pc + 3) ls (v.toList ++ rest))) : W p l e R s m args below meth c H locs cells slots (vx_MQ below Qc (XI g B0 RXo) args s mc0 ms0 (fun q => B0 ≤ q)) (F0 m pc ls st0) :=
  r_callV hl hC hI hls hM cw hrecv hq hqC hn hst hW hdg hf kont (fun _ _ _ _ _ _ _ hx hI1 h1 h2 h3 => x_out hno hC hI1 (hprop _ _ _ hx) h1 h2 h3 hR0 hR1)
theorem x_S {Rr : Option Value → Ad → Wd → Prop} {RX RXo : String → Ad → Wd → Prop} {Qc : Array Value → State → Outcome → State → Prop} {mc0 ms0 : Nat} (hl : l.stackTraces = false) (hC : Cx p s m args meth c own cc nL ret g B0) (hI : WI g ad B0 f s H locs) (hls : ls.size = nL) (hM : MM l g B0 y (wsM y bytes maxL rt) rm As ad f (Rr) (RX) mc ms) (cw : CallB R s args own index y bytes maxL rt (wsM y bytes maxL rt) rm mc ms n ∧ (Cond.static y).before args s = true) (hn : As.length = n) (hst : st0 = As.reverse ++ rest) (hW : (rest.map fun v => v.category).sum ≤ 8) (hdg : decode cc pc = .ok (.invokestatic index, 3)) (hf : cells + mc ≤ R.cells ∧ slots + ms ≤ R.slots) (hno : Cn c) (hR0 : cells + mc ≤ mc0) (hR1 : slots + ms ≤ ms0) (hprop : ∀ E a w, RX E a w → RXo E a w) (kont : ∀ (v : Option Value) (a : Ad) (w : Wd) (H1 : Heap) (locs1 : List Loc), Rr v a w → WI g a B0 w s H1 locs1 → W p l e R s m args below meth c H1 locs1 (cells + mc) (slots + ms) (vx_MQ below Qc (XI g B0 RXo) args s mc0 ms0 (fun q => B0 ≤ q)) (F0 m (pc + 3) ls (v.toList ++ rest))) : W p l e R s m args below meth c H locs cells slots (vx_MQ below Qc (XI g B0 RXo) args s mc0 ms0 (fun q => B0 ≤ q)) (F0 m pc ls st0) :=
  r_callS hl hC hI hls hM cw hn hst hW hdg hf kont (fun _ _ _ _ _ _ _ hx hI1 h1 h2 h3 => x_out hno hC hI1 (hprop _ _ _ hx) h1 h2 h3 hR0 hR1)
end WRAP
/-- a truth as an int -/
def bi (P : Prop) [Decidable P] : Int32 := if P then 1 else 0
theorem bi_0 {P : Prop} [Decidable P] : bi P = 0 ↔ ¬ P := by
  unfold bi
  split <;> simp_all
theorem bi_1 {P : Prop} [Decidable P] : ¬ bi P = 0 ↔ P := by rw [bi_0]; exact Decidable.not_not
theorem bi_t {P : Prop} [Decidable P] (h : P) : bi P = 1 := if_pos h
theorem bi_f {P : Prop} [Decidable P] (h : ¬ P) : bi P = 0 := if_neg h
theorem bi_nar {P : Prop} [Decidable P] : narrow .boolean (.int (bi P)) = .int (bi P) := by
  unfold bi
  split <;> rfl
theorem bi_fit {P : Prop} [Decidable P] : fits .boolean (.int (bi P)) = true := by
  unfold bi
  split <;> rfl
theorem bi_c {P P' : Prop} [Decidable P] [Decidable P'] (h : P ↔ P') : bi P = bi P' := by
  unfold bi
  by_cases hp : P
  · rw [if_pos hp, if_pos (h.mp hp)]
  · rw [if_neg hp, if_neg (fun z => hp (h.mpr z))]
