/-! rows over a world: arrays, objects and arrays that are made, calls, throws, ends. The rows r_clone, r_copy and the news follow the kit's own rows (va_clone, va_copyi, va_new, va_newa, va_newq), with the frame kept in hand. -/
section ROWS
variable {p : Program} {l : Launch} {e : Env} {R : Room} {s : State} {m : MethodId} {args : Array Value} {below : List Frame} {meth : Method} {c : Code} {H : Heap} {locs : List Loc} {cells slots : Nat} {Q : State → Prop}
variable {g : Gg} {B0 : Nat} {ad : Ad} {f : Wd} {own : String} {cc : ByteArray} {nL : Nat} {ret : Option FieldType}
variable {pc : Nat} {ls : Array Slot} {rest st0 : List Value} {kk ii : Nat}
theorem r_alen (hC : Cx p s m args meth c own cc nL ret g B0) (hI : WI g ad B0 f s H locs) {cA : ClassId} {x : vp_A} (he : f kk ii = some (.inl (cA, x))) (t0 : Nat) {ty : FieldType} (ht : (tysG g)[t0]? = some (cA, ty)) {v : Int32} (hv : nI x.1 = v) (hdg : decode cc pc = .ok (.arraylength, 1))
    (kont : W p l e R s m args below meth c H locs cells slots Q (F0 m (pc + 1) ls (.int v :: rest))) : W p l e R s m args below meth c H locs cells slots Q (F0 m pc ls (.ref (ad kk ii) :: rest)) :=
  va_alen hC.1.1 hC.1.2.1 hC.2.2.2.1 (hI.1.one he) 0 t0 rfl ht hv hdg kont
theorem r_iald (hC : Cx p s m args meth c own cc nL ret g B0) (hI : WI g ad B0 f s H locs) {n : Nat} {fn : Nat → Int32} (he : f kk ii = some (.inl (g.2 0, n, .inl fn))) {i : Int32} {j : Nat} (hi : i = nI j) (hj : j < n) (hn : n < 2 ^ 31) (hdg : decode cc pc = .ok (.iaload, 1))
    (kont : W p l e R s m args below meth c H locs cells slots Q (F0 m (pc + 1) ls (.int (fn j) :: rest))) : W p l e R s m args below meth c H locs cells slots Q (F0 m pc ls (.int i :: .ref (ad kk ii) :: rest)) := by
  subst hi
  have h2 : (nI j).toNatClampNeg = j := nI_clamp (by omega)
  exact va_iald hC.1.1 hC.1.2.1 hC.2.2.2.1 (hI.1.one he) 0 0 rfl rfl (vp_in_nI hj hn) hdg (by rw [h2]; exact kont)
theorem r_aald (hC : Cx p s m args meth c own cc nL ret g B0) (hI : WI g ad B0 f s H locs) {cA : ClassId} {C : String} {n : Nat} {fn : Nat → Option Nat} (he : f kk ii = some (.inl (cA, n, .inr (.inr (.inr (.inr fn)))))) (t0 : Nat) (ht : (tysG g)[t0]? = some (cA, .object C)) {i : Int32} {j : Nat} (hi : i = nI j) (hj : j < n) (hn : n < 2 ^ 31) (hdg : decode cc pc = .ok (.aaload, 1))
    (kont : W p l e R s m args below meth c H locs cells slots Q (F0 m (pc + 1) ls (va_rf (fn j) :: rest))) : W p l e R s m args below meth c H locs cells slots Q (F0 m pc ls (.int i :: .ref (ad kk ii) :: rest)) := by
  subst hi
  have h2 : (nI j).toNatClampNeg = j := nI_clamp (by omega)
  exact va_aldq hC.1.1 hC.1.2.1 hC.2.2.2.1 (hI.1.one he) 0 t0 rfl ht (vp_in_nI hj hn) hdg (by rw [h2]; exact kont)
theorem r_iast (hC : Cx p s m args meth c own cc nL ret g B0) (hI : WI g ad B0 f s H locs) {n : Nat} {fn : Nat → Int32} (he : f kk ii = some (.inl (g.2 0, n, .inl fn))) {i x : Int32} {j : Nat} (hi : i = nI j) (hj : j < n) (hn : n < 2 ^ 31) (hdg : decode cc pc = .ok (.iastore, 1))
    (kont : ∀ (H1 : Heap) (locs1 : List Loc), WI g ad B0 (up2 f kk ii (.inl (g.2 0, n, .inl (upd fn j x)))) s H1 locs1 → W p l e R s m args below meth c H1 locs1 cells slots Q (F0 m (pc + 1) ls rest)) : W p l e R s m args below meth c H locs cells slots Q (F0 m pc ls (.int x :: .int i :: .ref (ad kk ii) :: rest)) := by
  subst hi
  have h2 : (nI j).toNatClampNeg = j := nI_clamp (by omega)
  have h1 := vp_in_nI hj hn
  refine W.iast hC.1.1 hC.1.2.1 (hI.1 _ _ _ he) ((hC.2.2.2.1.2 0 _ rfl).1 n (fun j => .int (fn j))) (fun q => by cases q) (by show ¬ (_ ∨ (arrV _ _ _).slots.size ≤ _); rw [arrV_size]; exact h1) rfl rfl hdg fun H1 e z oq => ?_
  refine kont H1 _ (hI.put he ?_ z oq)
  show H1[_]? = some (vp_cell _ _)
  rw [e, h2]
  rw [vp_cell_i, vp_cell_i, arrV_store]
  congr 2
  funext q
  by_cases hq : q = j
  · subst hq
    simp [updV, upd]
  · simp [updV, upd, hq]
theorem r_aast (hC : Cx p s m args meth c own cc nL ret g B0) (hI : WI g ad B0 f s H locs) {cA : ClassId} {r : vw_C} {n k2 i2 ci : Nat} {vs : List Value} {fn : Nat → Option Nat} (he : f kk ii = some (.inl (cA, n, .inr (.inr (.inr (.inr fn)))))) (t0 : Nat) (ht : (tysG g)[t0]? = some (cA, .object r.1)) (hv : f k2 i2 = some (.inr (ci, vs))) (hc : vwCl[ci]? = some r) {i : Int32} {j : Nat} (hi : i = nI j) (hj : j < n) (hn : n < 2 ^ 31) (hdg : decode cc pc = .ok (.aastore, 1))
    (kont : ∀ (H1 : Heap) (locs1 : List Loc), WI g ad B0 (up2 f kk ii (.inl (cA, n, .inr (.inr (.inr (.inr (va_up fn j (some (ad k2 i2))))))))) s H1 locs1 → W p l e R s m args below meth c H1 locs1 cells slots Q (F0 m (pc + 1) ls rest)) : W p l e R s m args below meth c H locs cells slots Q (F0 m pc ls (.ref (ad k2 i2) :: .int i :: .ref (ad kk ii) :: rest)) := by
  subst hi
  have h2 : (nI j).toNatClampNeg = j := nI_clamp (by omega)
  have hin := vp_in_nI hj hn
  have hK := hC.2.2.2.1
  have hlt : (nI j).toNatClampNeg < n := Nat.not_le.mp fun q => hin (Or.inr q)
  have h0 : ¬ nI j < 0 := fun q => hin (Or.inl q)
  obtain ⟨r', hr', cellV, g1, g2, g3, -⟩ := hI.1 _ _ _ hv
  have hcls := (hK.1 ci r hc).2
  obtain ⟨kA, comp, k1, k2, k3, -⟩ := (hK.2 t0 _ ht).2
  have hcomp : comp = g.1.1 ci := Option.some.inj (k3.symm.trans hcls.1)
  subst hcomp
  obtain ⟨kC, hkC, -⟩ := hcls.2
  refine W.aast hC.1.1 hC.1.2.1 (hI.1 _ _ _ he) (fun q h => by cases h) (fun h => by cases h) k1 k2 rfl hkC ⟨h0, by show _ < (arrV _ _ _).slots.size; rw [arrV_size]; exact hlt⟩ g1 (fun q h => by rw [g3] at h; cases h) (by rw [g2]; exact hkC) (by rw [g2]; exact va_assign hcls) rfl rfl hdg fun H1 e z oq => ?_
  refine kont H1 _ (hI.put he ?_ z oq)
  show H1[_]? = some (vp_cell _ _)
  rw [e, h2]
  rw [vp_cell_q, vp_cell_q, arrV_store]
  congr 2
  funext q
  by_cases hq : q = j
  · subst hq
    simp [updV, va_up, va_rf]
  · simp [updV, va_up, hq]
theorem r_aastN (hC : Cx p s m args meth c own cc nL ret g B0) (hI : WI g ad B0 f s H locs) {cA : ClassId} {C : String} {n : Nat} {fn : Nat → Option Nat} (he : f kk ii = some (.inl (cA, n, .inr (.inr (.inr (.inr fn)))))) (t0 : Nat) (ht : (tysG g)[t0]? = some (cA, .object C)) {i : Int32} {j : Nat} (hi : i = nI j) (hj : j < n) (hn : n < 2 ^ 31) (hdg : decode cc pc = .ok (.aastore, 1))
    (kont : ∀ (H1 : Heap) (locs1 : List Loc), WI g ad B0 (up2 f kk ii (.inl (cA, n, .inr (.inr (.inr (.inr (va_up fn j none))))))) s H1 locs1 → W p l e R s m args below meth c H1 locs1 cells slots Q (F0 m (pc + 1) ls rest)) : W p l e R s m args below meth c H locs cells slots Q (F0 m pc ls (.null :: .int i :: .ref (ad kk ii) :: rest)) := by
  subst hi
  have h2 : (nI j).toNatClampNeg = j := nI_clamp (by omega)
  have hin := vp_in_nI hj hn
  refine va_WaastN (C := C) hC.1.1 hC.1.2.1 (hI.1 _ _ _ he) ((hC.2.2.2.1.2 t0 _ ht).1 n (fun j => va_rf (fn j))) (fun h => by cases h) (by show ¬ (_ ∨ (arrV _ _ _).slots.size ≤ _); rw [arrV_size]; exact hin) rfl rfl hdg fun H1 e z oq => ?_
  refine kont H1 _ (hI.put he ?_ z oq)
  show H1[_]? = some (vp_cell _ _)
  rw [e, h2]
  rw [vp_cell_q, vp_cell_q, arrV_store]
  congr 2
  funext q
  by_cases hq : q = j
  · subst hq
    simp [updV, va_up, va_rf]
  · simp [updV, va_up, hq]
/-- new: the object's cell is of the kind kk, number ii, which the world does not have -/
theorem r_new (hC : Cx p s m args meth c own cc nL ret g B0) (hI : WI g ad B0 f s H locs) (kk ii : Nat) (h0 : f kk ii = none) {C : String} {T : u_T} {N ci index : Nat} (hin : ∀ w ∈ u_ws C T N, w ∈ allW) (ty : Nat → FieldType) (hty : ∀ k, k < N → parseFieldDescriptor (T k).2.2.1 = some (ty k)) (hcl : Cond.classLink own index C ∈ allW) (hinst : Cond.instantiable C N ∈ allW) (hini : Cond.initialized C ∈ allW) (hc : vwCl[ci]? = some (C, T, N)) {fs : List Value} (hfs : ∀ j, j < N → defaultValue (ty j) = vp_V fs j) (hcells : cells + 1 ≤ R.cells) (hslots : slots + N ≤ R.slots) (hdg : decode cc pc = .ok (.new index, 3))
    (kont : ∀ (q : Nat) (H1 : Heap), WI g (adup ad kk ii q) B0 (up2 f kk ii (.inr (ci, fs))) s H1 locs → W p l e R s m args below meth c H1 locs (cells + 1) (slots + N) Q (F0 m (pc + 3) ls (.ref q :: rest))) : W p l e R s m args below meth c H locs cells slots Q (F0 m pc ls rest) := by
  obtain ⟨⟨hx, hb, hml, hown, hts⟩, -, -, hKI⟩ := hC
  have hKn := hKI.1.1 ci _ hc
  refine W.newcK hx hb hown (hts _ hcl) (hts _ hinst) (hts _ hini) rfl hdg hcells hslots hKn.2.1 rfl fun H1 kC hkC e1 z1 o1 => ?_
  exact kont H.size H1 (hI.new h0 hKI.2.2.2 ⟨_, hc, (u_born ty hts hin hKn hkC e1 hty).to hfs⟩ z1 o1)
/-- an array of numbers -/
theorem r_newa (hC : Cx p s m args meth c own cc nL ret g B0) (hI : WI g ad B0 f s H locs) (kk ii : Nat) (h0 : f kk ii = none) {atype : ArrayType} (harr : Cond.arrayClass (newarray.typeOf atype) ∈ allW) (t0 : Nat) {cA : ClassId} (ht : (tysG g)[t0]? = some (cA, newarray.typeOf atype)) (hnm : s.vm.findClass ("[" ++ (newarray.typeOf atype).toString) = some cA) {n : Int32} {N' : Nat} {a0 : vp_A} (ha : vp_cell cA a0 = arrV cA N' (fun _ => defaultValue (newarray.typeOf atype))) (hn : ¬ n < 0) (hN : n.toNatClampNeg = N') (hbytes : N' * componentBytes (newarray.typeOf atype) ≤ 536870912) (hcells : cells + 1 ≤ R.cells) (hslots : slots + N' ≤ R.slots) (hdg : decode cc pc = .ok (.newarray atype, 2))
    (kont : ∀ (q : Nat) (H1 : Heap), WI g (adup ad kk ii q) B0 (up2 f kk ii (.inl (cA, a0))) s H1 locs → W p l e R s m args below meth c H1 locs (cells + 1) (slots + N') Q (F0 m (pc + 2) ls (.ref q :: rest))) : W p l e R s m args below meth c H locs cells slots Q (F0 m pc ls (.int n :: rest)) := by
  obtain ⟨⟨hx, hb, hml, hown, hts⟩, -, -, hKI⟩ := hC
  refine va_newaK hx hb (hts _ harr) rfl hdg rfl hn hN hbytes hcells hslots rfl fun H1 cB e1 z1 o1 hAr hNm => ?_
  cases hnm.symm.trans hNm
  exact kont H.size H1 (hI.new h0 hKI.2.2.2 (by show H1[_]? = some (vp_cell _ _); rw [ha]; exact e1) z1 o1)
/-- an array of references -/
theorem r_newq (hC : Cx p s m args meth c own cc nL ret g B0) (hI : WI g ad B0 f s H locs) (kk ii : Nat) (h0 : f kk ii = none) {C : String} {index : Nat} (hclink : Cond.classLink own index C ∈ allW) (hover : va_AO C s) (t0 : Nat) {cA : ClassId} (ht : (tysG g)[t0]? = some (cA, .object C)) {n : Int32} {N' : Nat} (hn : ¬ n < 0) (hN : n.toNatClampNeg = N') (hbytes : N' * 4 ≤ 536870912) (hcells : cells + 1 ≤ R.cells) (hslots : slots + N' ≤ R.slots) (hdg : decode cc pc = .ok (.anewarray index, 3))
    (kont : ∀ (q : Nat) (H1 : Heap), WI g (adup ad kk ii q) B0 (up2 f kk ii (.inl (cA, N', .inr (.inr (.inr (.inr (fun _ => none))))))) s H1 locs → W p l e R s m args below meth c H1 locs (cells + 1) (slots + N') Q (F0 m (pc + 3) ls (.ref q :: rest))) : W p l e R s m args below meth c H locs cells slots Q (F0 m pc ls (.int n :: rest)) := by
  obtain ⟨⟨hx, hb, hml, hown, hts⟩, -, -, hKI⟩ := hC
  subst hN
  obtain ⟨kA, comp, g1, g2, g3, g4⟩ := (hKI.1.2 t0 _ ht).2
  refine W.anew hx hb hown (hts _ hclink) (va_AO.use hover) rfl hdg rfl hn hbytes hcells hslots fun cB kB comp2 f1 f2 f3 f4 => ?_
  cases g4.symm.trans f1
  generalize hH1 : H.push ({ cls := cA, slots := Array.replicate n.toNatClampNeg .null, vm := .none } : Cell) = H1
  have z1 : H1.size = H.size + 1 := by rw [← hH1, Array.size_push]
  have e1 : H1[H.size]? = some (arrV cA n.toNatClampNeg (fun _ => .null)) := by rw [← hH1, Array.getElem?_push_size, ← arrV_new]
  have o1 : ∀ q : Nat, q < H.size → H1[q]? = H[q]? := fun q hq => by rw [← hH1, Array.getElem?_push, if_neg (Nat.ne_of_lt hq)]
  exact kont H.size H1 (hI.new h0 hKI.2.2.2 (by show H1[_]? = some (vp_cell _ _); rw [vp_cell_q]; exact e1) z1 o1)
/-- behind a call that may throw -/
theorem rn_W {mc ms : Nat} {a : Array Value} {Rr : Option Value → Ad → Wd → Prop} {RX : String → Ad → Wd → Prop} (hI : WI g ad B0 f s H locs) (hr : vx_Run p l e R s m args below meth c H locs cells slots mc ms (F0 m pc ls st0) rest (QI g B0 Rr a) (XI g B0 RX) (fun q => B0 ≤ q))
    (kont : ∀ (v : Option Value) (ad' : Ad) (f' : Wd) (H1 : Heap) (locs1 : List Loc), Rr v ad' f' → WI g ad' B0 f' s H1 locs1 → W p l e R s m args below meth c H1 locs1 (cells + mc) (slots + ms) Q (F0 m (pc + 3) ls (v.toList ++ rest)))
    (kx : ∀ (E : String) (ce : Cell) (q : Addr) (ad' : Ad) (f' : Wd) (H1 : Heap) (locs1 : List Loc), RX E ad' f' → WI g ad' B0 f' s H1 locs1 → H1[q]? = some ce → ce.vm = .none → s.vm.findClass E = some ce.cls → vx_W p l e R s m args below meth c H1 locs1 (cells + mc) (slots + ms) Q (F0 m pc ls rest) q) : W p l e R s m args below meth c H locs cells slots Q (F0 m pc ls st0) := by
  intro T hT X
  rcases hr T hT X with ⟨v, st₀, t, T', L, h0, X', hL, e1, e2, ⟨⟨v', ad', f', hv, hp, hd, hb⟩, hF⟩, st⟩ | ⟨q, st₀, t, T', L, E, ce, h0, X', hL, e1, e2, ⟨⟨ad', f', hp, hd, hb⟩, hF⟩, hce, hcv, hcl, st⟩
  · cases hv
    obtain ⟨k1, k2, k3⟩ := vx_keep h0 e1 hI.2.2 (fun _ _ h => h) (fun _ h => h) hL hF
    obtain ⟨t2, a1, b1⟩ := kont v ad' f' T'.heap (locs ++ L) hp ⟨by rw [e1]; exact hb, hd, k3⟩ T' rfl X'
    exact ⟨t2, st t2 a1, b1⟩
  · obtain ⟨k1, k2, k3⟩ := vx_keep h0 e1 hI.2.2 (fun _ _ h => h) (fun _ h => h) hL hF
    obtain ⟨t2, a1, b1⟩ := kx E ce q ad' f' T'.heap (locs ++ L) hp ⟨by rw [e1]; exact hb, hd, k3⟩ (by rw [e1]; exact hce) hcv hcl T' rfl X'
    exact ⟨t2, st.trans a1, b1⟩
theorem rn_K {mc ms : Nat} {a : Array Value} {Rr : Option Value → Ad → Wd → Prop} (hI : WI g ad B0 f s H locs) (hr : va_Run p l e R s m args below meth c H locs cells slots mc ms (F0 m pc ls st0) rest (QI g B0 Rr a) (fun q => B0 ≤ q))
    (kont : ∀ (v : Option Value) (ad' : Ad) (f' : Wd) (H1 : Heap) (locs1 : List Loc), Rr v ad' f' → WI g ad' B0 f' s H1 locs1 → W p l e R s m args below meth c H1 locs1 (cells + mc) (slots + ms) Q (F0 m (pc + 3) ls (v.toList ++ rest))) : W p l e R s m args below meth c H locs cells slots Q (F0 m pc ls st0) := by
  intro T hT X
  obtain ⟨v, st₀, t, T', L, h0, X', hL, e1, e2, ⟨⟨v', ad', f', hv, hp, hd, hb⟩, hF⟩, st⟩ := hr T hT X
  cases hv
  obtain ⟨k1, k2, k3⟩ := vx_keep h0 e1 hI.2.2 (fun _ _ h => h) (fun _ h => h) hL hF
  obtain ⟨t2, a1, b1⟩ := kont v ad' f' T'.heap (locs ++ L) hp ⟨by rw [e1]; exact hb, hd, k3⟩ T' rfl X'
  exact ⟨t2, st t2 a1, b1⟩
/-- the words of a call -/
theorem goodV {index : Nat} {C : String} {y : MethodName} {bytes : ByteArray} {maxL : Nat} {rt : Option FieldType} (h1 : Cond.methodLink own index y ∈ allW) (h2 : Cond.instanceMethod y ∈ allW) (h3 : Cond.selects C y y ∈ allW) (h4 : Cond.initialized C ∈ allW) (h5 : Cond.code y bytes maxL rt ∈ allW) : GoodIn allW (wsV own index C y (wsM y bytes maxL rt)) := by
  intro w hw
  refine allG w ?_
  rcases List.mem_append.mp hw with h | h
  · simp only [List.mem_cons, List.not_mem_nil, or_false] at h
    rcases h with rfl | rfl | rfl | rfl <;> assumption
  · rcases List.mem_cons.mp h with rfl | h
    · exact h5
    · exact h
theorem goodS {index : Nat} {y : MethodName} {bytes : ByteArray} {maxL : Nat} {rt : Option FieldType} (h1 : Cond.methodLink own index y ∈ allW) (h2 : Cond.static y ∈ allW) (h4 : Cond.initialized own ∈ allW) (h5 : Cond.code y bytes maxL rt ∈ allW) : GoodIn allW (wsS own index y (wsM y bytes maxL rt)) := by
  intro w hw
  refine allG w ?_
  rcases List.mem_append.mp hw with h | h
  · simp only [List.mem_cons, List.not_mem_nil, or_false] at h
    rcases h with rfl | rfl | rfl <;> assumption
  · rcases List.mem_cons.mp h with rfl | h
    · exact h5
    · exact h
theorem goodI {y : MethodName} {bytes : ByteArray} {maxL : Nat} {rt : Option FieldType} (h5 : Cond.code y bytes maxL rt ∈ allW) : GoodIn allW (wsM y bytes maxL rt) := by
  intro w hw
  refine allG w ?_
  rcases List.mem_cons.mp hw with rfl | h
  · exact h5
  · exact h
/-- a virtual call (a private method of the same class too) -/
theorem r_callV {mc ms n index : Nat} {C : String} {y : MethodName} {bytes : ByteArray} {maxL : Nat} {rt : Option FieldType} {rm : Room} {As : List Value} {Rr : Option Value → Ad → Wd → Prop} {RX : String → Ad → Wd → Prop} {ci : Nat} {q : vw_C} {fs : List Value} (hl : l.stackTraces = false) (hC : Cx p s m args meth c own cc nL ret g B0) (hI : WI g ad B0 f s H locs) (hls : ls.size = nL) (hM : MM l g B0 y (wsM y bytes maxL rt) rm (.ref (ad kk ii) :: As) ad f Rr RX mc ms)
    (cw : CallW R s args own C index y bytes maxL rt (wsM y bytes maxL rt) rm mc ms n) (hrecv : f kk ii = some (.inr (ci, fs))) (hq : vwCl[ci]? = some q) (hqC : q.1 = C) (hn : As.length = n) (hst : st0 = As.reverse ++ .ref (ad kk ii) :: rest) (hW : (rest.map fun v => v.category).sum ≤ 8) (hdg : decode cc pc = .ok (.invokevirtual index, 3)) (hf : cells + mc ≤ R.cells ∧ slots + ms ≤ R.slots)
    (kont : ∀ (v : Option Value) (ad' : Ad) (f' : Wd) (H1 : Heap) (locs1 : List Loc), Rr v ad' f' → WI g ad' B0 f' s H1 locs1 → W p l e R s m args below meth c H1 locs1 (cells + mc) (slots + ms) Q (F0 m (pc + 3) ls (v.toList ++ rest)))
    (kx : ∀ (E : String) (ce : Cell) (q : Addr) (ad' : Ad) (f' : Wd) (H1 : Heap) (locs1 : List Loc), RX E ad' f' → WI g ad' B0 f' s H1 locs1 → H1[q]? = some ce → ce.vm = .none → s.vm.findClass E = some ce.cls → vx_W p l e R s m args below meth c H1 locs1 (cells + mc) (slots + ms) Q (F0 m pc ls rest) q) : W p l e R s m args below meth c H locs cells slots Q (F0 m pc ls st0) := by
  subst hst
  subst hqC
  refine rn_W hI (vx_runV (As := As) (rest := rest) hC.1 (hM hl hI.2.1) cw ⟨PcI_blind, va_recv hC.2.2.2.1 (hI.1.one hrecv) hq (q0 := 0) rfl, fun U hU hW => ⟨rfl, by rw [hU]; exact hI.1, hC.2.2.2.go hI.2.2 hU hW⟩⟩ rfl hn hls rfl (lv_room hW) hdg hf) kont kx
/-- a static call -/
theorem r_callS {mc ms n index : Nat} {y : MethodName} {bytes : ByteArray} {maxL : Nat} {rt : Option FieldType} {rm : Room} {As : List Value} {Rr : Option Value → Ad → Wd → Prop} {RX : String → Ad → Wd → Prop} (hl : l.stackTraces = false) (hC : Cx p s m args meth c own cc nL ret g B0) (hI : WI g ad B0 f s H locs) (hls : ls.size = nL) (hM : MM l g B0 y (wsM y bytes maxL rt) rm As ad f Rr RX mc ms)
    (cw : CallB R s args own index y bytes maxL rt (wsM y bytes maxL rt) rm mc ms n ∧ (Cond.static y).before args s = true) (hn : As.length = n) (hst : st0 = As.reverse ++ rest) (hW : (rest.map fun v => v.category).sum ≤ 8) (hdg : decode cc pc = .ok (.invokestatic index, 3)) (hf : cells + mc ≤ R.cells ∧ slots + ms ≤ R.slots)
    (kont : ∀ (v : Option Value) (ad' : Ad) (f' : Wd) (H1 : Heap) (locs1 : List Loc), Rr v ad' f' → WI g ad' B0 f' s H1 locs1 → W p l e R s m args below meth c H1 locs1 (cells + mc) (slots + ms) Q (F0 m (pc + 3) ls (v.toList ++ rest)))
    (kx : ∀ (E : String) (ce : Cell) (q : Addr) (ad' : Ad) (f' : Wd) (H1 : Heap) (locs1 : List Loc), RX E ad' f' → WI g ad' B0 f' s H1 locs1 → H1[q]? = some ce → ce.vm = .none → s.vm.findClass E = some ce.cls → vx_W p l e R s m args below meth c H1 locs1 (cells + mc) (slots + ms) Q (F0 m pc ls rest) q) : W p l e R s m args below meth c H locs cells slots Q (F0 m pc ls st0) := by
  subst hst
  refine rn_W hI (vx_runS (As := As) (rest := rest) hC.1 (hM hl hI.2.1) cw ⟨PcI_blind, fun U hU hW => ⟨rfl, by rw [hU]; exact hI.1, hC.2.2.2.go hI.2.2 hU hW⟩⟩ rfl hn hls rfl (lv_room hW) hdg hf) kont kx
/-- a constructor -/
theorem r_callI {mc ms n index : Nat} {y : MethodName} {bytes : ByteArray} {maxL : Nat} {rm : Room} {As : List Value} {Rr : Option Value → Ad → Wd → Prop} {b : Nat} (hC : Cx p s m args meth c own cc nL ret g B0) (hI : WI g ad B0 f s H locs) (hls : ls.size = nL) (hM : MK l g B0 y (wsM y bytes maxL none) rm (.ref b :: As) ad f Rr mc ms)
    (cw : CallB R s args own index y bytes maxL none (wsM y bytes maxL none) rm mc ms n ∧ y.name = "<init>" ∧ (Cond.instanceMethod y).before args s = true) (hn : As.length = n) (hst : st0 = As.reverse ++ .ref b :: rest) (hW : (rest.map fun v => v.category).sum ≤ 8) (hdg : decode cc pc = .ok (.invokespecial index, 3)) (hf : cells + mc ≤ R.cells ∧ slots + ms ≤ R.slots)
    (kont : ∀ (v : Option Value) (ad' : Ad) (f' : Wd) (H1 : Heap) (locs1 : List Loc), Rr v ad' f' → WI g ad' B0 f' s H1 locs1 → W p l e R s m args below meth c H1 locs1 (cells + mc) (slots + ms) Q (F0 m (pc + 3) ls (v.toList ++ rest))) : W p l e R s m args below meth c H locs cells slots Q (F0 m pc ls st0) := by
  subst hst
  refine rn_K hI (va_runI (As := As) (rest := rest) hC.1 (hM hI.2.1) cw ⟨PcI_blind, fun U hU hW => ⟨rfl, by rw [hU]; exact hI.1, hC.2.2.2.go hI.2.2 hU hW⟩⟩ rfl hn hls rfl (lv_room hW) hdg hf) kont
/-- what a callee throws goes on to the caller -/
theorem x_out {Qc : Array Value → State → Outcome → State → Prop} {RX : String → Ad → Wd → Prop} {mc ms : Nat} (hno : Cn c) (hC : Cx p s m args meth c own cc nL ret g B0) {E : String} {ce : Cell} {q : Addr} (hI : WI g ad B0 f s H locs) (hx : RX E ad f) (h1 : H[q]? = some ce) (h2 : ce.vm = .none) (h3 : s.vm.findClass E = some ce.cls) (hc : cells ≤ mc) (hs : slots ≤ ms) : vx_W p l e R s m args below meth c H locs cells slots (vx_MQ below Qc (XI g B0 RX) args s mc ms (fun q => B0 ≤ q)) (F0 m pc ls rest) q :=
  vx_out (fun x hx => (hno x hx).elim) hC.2.2.1 h1 h2 h3 (fun t ht _ => ⟨⟨ad, f, hx, hI.2.1, by rw [ht]; exact hI.1⟩, hI.2.2.F ht⟩) hI.2.2.2.2 hc hs
/-- the ends -/
theorem e_int {Rr : Option Value → Ad → Wd → Prop} {RX : String → Ad → Wd → Prop} {mc ms : Nat} (hC : Cx p s m args meth c own cc nL (some .int) g B0) (hI : WI g ad B0 f s H locs) {v : Int32} (hR : Rr (some (.int v)) ad f) (hc : cells ≤ mc) (hs : slots ≤ ms) (hdg : decode cc pc = .ok (.ireturn, 1)) : W p l e R s m args below meth c H locs cells slots (vx_MQ below (QI g B0 Rr) (XI g B0 RX) args s mc ms (fun q => B0 ≤ q)) (F0 m pc ls [.int v]) :=
  W.widen hc hs (vx_ret (W.iret hC.1.1 hC.1.2.1 hC.2.1 (fun t ht _ => ⟨⟨_, ad, f, rfl, hR, hI.2.1, by rw [ht]; exact hI.1⟩, hI.2.2.F ht⟩) hI.2.2.2.2 hdg hC.2.2.1))
theorem e_bool {Rr : Option Value → Ad → Wd → Prop} {RX : String → Ad → Wd → Prop} {mc ms : Nat} (hC : Cx p s m args meth c own cc nL (some .boolean) g B0) (hI : WI g ad B0 f s H locs) {v : Int32} (hn : narrow .boolean (.int v) = .int v) (hR : Rr (some (.int v)) ad f) (hc : cells ≤ mc) (hs : slots ≤ ms) (hdg : decode cc pc = .ok (.ireturn, 1)) : W p l e R s m args below meth c H locs cells slots (vx_MQ below (QI g B0 Rr) (XI g B0 RX) args s mc ms (fun q => B0 ≤ q)) (F0 m pc ls [.int v]) :=
  W.widen hc hs (vx_ret (W.zret hC.1.1 hC.1.2.1 hC.2.1 hn (fun t ht _ => ⟨⟨_, ad, f, rfl, hR, hI.2.1, by rw [ht]; exact hI.1⟩, hI.2.2.F ht⟩) hI.2.2.2.2 hdg hC.2.2.1))
theorem e_long {Rr : Option Value → Ad → Wd → Prop} {RX : String → Ad → Wd → Prop} {mc ms : Nat} (hC : Cx p s m args meth c own cc nL (some .long) g B0) (hI : WI g ad B0 f s H locs) {v : Int64} (hR : Rr (some (.long v)) ad f) (hc : cells ≤ mc) (hs : slots ≤ ms) (hdg : decode cc pc = .ok (.lreturn, 1)) : W p l e R s m args below meth c H locs cells slots (vx_MQ below (QI g B0 Rr) (XI g B0 RX) args s mc ms (fun q => B0 ≤ q)) (F0 m pc ls [.long v]) :=
  W.widen hc hs (vx_ret (W.lret hC.1.1 hC.1.2.1 hC.2.1 (fun t ht _ => ⟨⟨_, ad, f, rfl, hR, hI.2.1, by rw [ht]; exact hI.1⟩, hI.2.2.F ht⟩) hI.2.2.2.2 hdg hC.2.2.1))
theorem e_dbl {Rr : Option Value → Ad → Wd → Prop} {RX : String → Ad → Wd → Prop} {mc ms : Nat} (hC : Cx p s m args meth c own cc nL (some .double) g B0) (hI : WI g ad B0 f s H locs) {v : UInt64} (hR : Rr (some (.double v)) ad f) (hc : cells ≤ mc) (hs : slots ≤ ms) (hdg : decode cc pc = .ok (.dreturn, 1)) : W p l e R s m args below meth c H locs cells slots (vx_MQ below (QI g B0 Rr) (XI g B0 RX) args s mc ms (fun q => B0 ≤ q)) (F0 m pc ls [.double v]) :=
  W.widen hc hs (vx_ret (W.dret hC.1.1 hC.1.2.1 hC.2.1 (fun t ht _ => ⟨⟨_, ad, f, rfl, hR, hI.2.1, by rw [ht]; exact hI.1⟩, hI.2.2.F ht⟩) hI.2.2.2.2 hdg hC.2.2.1))
theorem e_ref {Rr : Option Value → Ad → Wd → Prop} {RX : String → Ad → Wd → Prop} {mc ms : Nat} {rt : FieldType} (hC : Cx p s m args meth c own cc nL (some rt) g B0) (hrt : (∃ n, rt = .object n) ∨ ∃ t, rt = .array t) (hI : WI g ad B0 f s H locs) {v : Value} (hv : v = .null ∨ ∃ a, v = .ref a) (hR : Rr (some v) ad f) (hc : cells ≤ mc) (hs : slots ≤ ms) (hdg : decode cc pc = .ok (.areturn, 1)) : W p l e R s m args below meth c H locs cells slots (vx_MQ below (QI g B0 Rr) (XI g B0 RX) args s mc ms (fun q => B0 ≤ q)) (F0 m pc ls [v]) :=
  W.widen hc hs (vx_ret (W.aret hC.1.1 hC.1.2.1 hC.2.1 hrt hv (fun t ht _ => ⟨⟨_, ad, f, rfl, hR, hI.2.1, by rw [ht]; exact hI.1⟩, hI.2.2.F ht⟩) hI.2.2.2.2 hdg hC.2.2.1))
theorem e_void {Rr : Option Value → Ad → Wd → Prop} {RX : String → Ad → Wd → Prop} {mc ms : Nat} (hC : Cx p s m args meth c own cc nL none g B0) (hI : WI g ad B0 f s H locs) (hR : Rr none ad f) (hc : cells ≤ mc) (hs : slots ≤ ms) (hdg : decode cc pc = .ok (.return_, 1)) : W p l e R s m args below meth c H locs cells slots (vx_MQ below (QI g B0 Rr) (XI g B0 RX) args s mc ms (fun q => B0 ≤ q)) (F0 m pc ls []) :=
  W.widen hc hs (vx_ret (W.vret hC.1.1 hC.1.2.1 hC.2.1 (fun t ht _ => ⟨⟨_, ad, f, rfl, hR, hI.2.1, by rw [ht]; exact hI.1⟩, hI.2.2.F ht⟩) hI.2.2.2.2 hdg hC.2.2.1))
theorem e_ctor {Rr : Option Value → Ad → Wd → Prop} {mc ms : Nat} (hC : Cx p s m args meth c own cc nL none g B0) (hI : WI g ad B0 f s H locs) (hR : Rr none ad f) (hc : cells ≤ mc) (hs : slots ≤ ms) (hdg : decode cc pc = .ok (.return_, 1)) : W p l e R s m args below meth c H locs cells slots (MQ below (QI g B0 Rr) args s mc ms (fun q => B0 ≤ q)) (F0 m pc ls []) :=
  W.widen hc hs (W.vret hC.1.1 hC.1.2.1 hC.2.1 (fun t ht _ => ⟨⟨_, ad, f, rfl, hR, hI.2.1, by rw [ht]; exact hI.1⟩, hI.2.2.F ht⟩) hI.2.2.2.2 hdg hC.2.2.1)
end ROWS
