/-! THE LAYER OF THIS CLAIM: a world is a function from (kind, number) to what the cell holds; ad gives the addresses. Every cell of both systems has an address of at least B0 (the heap's size at the law's entry). -/
abbrev Wd : Type := Nat → Nat → Option va_E
abbrev Ad : Type := Nat → Nat → Nat
abbrev Gg : Type := va_G × (Nat → ClassId)
abbrev tysG (g : Gg) : List (ClassId × FieldType) := [(g.2 0, .int), (g.2 1, .int), (g.2 2, .object RX2), (g.2 3, .object RX3), (g.2 4, .object RX4), (g.2 5, .int), (g.2 6, .int)]
def up2 (f : Wd) (k i : Nat) (e : va_E) : Wd := fun k' i' => if k' = k ∧ i' = i then some e else f k' i'
def adup (ad : Ad) (k i q : Nat) : Ad := fun k' i' => if k' = k ∧ i' = i then q else ad k' i'
theorem up2_s (f : Wd) (k i : Nat) (e : va_E) : up2 f k i e k i = some e := by simp [up2]
theorem up2_n (f : Wd) {k i k' i' : Nat} (e : va_E) (h : ¬ (k' = k ∧ i' = i)) : up2 f k i e k' i' = f k' i' := if_neg h
theorem up2_up2 (f : Wd) (k i : Nat) (e e' : va_E) : up2 (up2 f k i e) k i e' = up2 f k i e' := by
  funext k' i'
  simp only [up2]
  split <;> rfl
theorem adup_s (ad : Ad) (k i q : Nat) : adup ad k i q k i = q := by simp [adup]
theorem adup_n (ad : Ad) {k i k' i' : Nat} (q : Nat) (h : ¬ (k' = k ∧ i' = i)) : adup ad k i q k' i' = ad k' i' := if_neg h
def PI (g : Gg) (ad : Ad) (f : Wd) (H : Heap) : Prop := ∀ k i e, f k i = some e → va_at g.1 vwCl (ad k i, e) H
def DI (B0 : Nat) (ad : Ad) (f : Wd) : Prop := (∀ k i k' i' e e', f k i = some e → f k' i' = some e' → ad k i = ad k' i' → k = k' ∧ i = i') ∧ ∀ k i e, f k i = some e → B0 ≤ ad k i
def WI (g : Gg) (ad : Ad) (B0 : Nat) (f : Wd) (s : State) (H : Heap) (locs : List Loc) : Prop := PI g ad f H ∧ DI B0 ad f ∧ va_S (fun q => B0 ≤ q) s.heap H locs
theorem WI.put {g : Gg} {ad : Ad} {B0 : Nat} {f : Wd} {s : State} {H H1 : Heap} {locs : List Loc} (h : WI g ad B0 f s H locs) {k i n : Nat} {e0 e : va_E} (h0 : f k i = some e0) (he : va_at g.1 vwCl (ad k i, e) H1) (z : H1.size = H.size) (oq : ∀ q : Nat, q ≠ ad k i → H1[q]? = H[q]?) : WI g ad B0 (up2 f k i e) s H1 (locs ++ [⟨ad k i, n⟩]) := by
  obtain ⟨hP, hD, hS⟩ := h
  have key : ∀ a b x, up2 f k i e a b = some x → ∃ y, f a b = some y := by
    intro a b x hx
    by_cases hc : a = k ∧ b = i
    · obtain ⟨rfl, rfl⟩ := hc
      exact ⟨_, h0⟩
    · rw [up2_n f e hc] at hx
      exact ⟨_, hx⟩
  refine ⟨fun k' i' e' h' => ?_, ⟨fun k1 i1 k2 i2 e1 e2 h1 h2 hq => ?_, fun k' i' e' h' => ?_⟩, hS.put z oq (hD.2 _ _ _ h0)⟩
  · by_cases hc : k' = k ∧ i' = i
    · obtain ⟨rfl, rfl⟩ := hc
      rw [up2_s] at h'
      cases h'
      exact he
    · rw [up2_n f e hc] at h'
      exact (hP _ _ _ h').kept (oq _ (fun hq => hc (hD.1 _ _ _ _ _ _ h' h0 hq)))
  · obtain ⟨y1, g1⟩ := key _ _ _ h1
    obtain ⟨y2, g2⟩ := key _ _ _ h2
    exact hD.1 _ _ _ _ _ _ g1 g2 hq
  · obtain ⟨y1, g1⟩ := key _ _ _ h'
    exact hD.2 _ _ _ g1
theorem PI.lt {g : Gg} {ad : Ad} {f : Wd} {H : Heap} (h : PI g ad f H) {k i : Nat} {e : va_E} (he : f k i = some e) : ad k i < H.size := (h k i e he).lt
theorem WI.new {g : Gg} {ad : Ad} {B0 : Nat} {f : Wd} {s : State} {H H1 : Heap} {locs : List Loc} (h : WI g ad B0 f s H locs) {k i : Nat} {e : va_E} (h0 : f k i = none) (hB : B0 ≤ s.heap.size) (he : va_at g.1 vwCl (H.size, e) H1) (z : H1.size = H.size + 1) (oq : ∀ q : Nat, q < H.size → H1[q]? = H[q]?) : WI g (adup ad k i H.size) B0 (up2 f k i e) s H1 locs := by
  obtain ⟨hP, hD, hS⟩ := h
  have key : ∀ a b x, up2 f k i e a b = some x → (a = k ∧ b = i ∧ adup ad k i H.size a b = H.size ∧ x = e) ∨ (¬ (a = k ∧ b = i) ∧ f a b = some x ∧ adup ad k i H.size a b = ad a b ∧ ad a b < H.size) := by
    intro a b x hx
    by_cases hc : a = k ∧ b = i
    · obtain ⟨rfl, rfl⟩ := hc
      rw [up2_s] at hx
      cases hx
      exact Or.inl ⟨rfl, rfl, adup_s _ _ _ _, rfl⟩
    · rw [up2_n f e hc] at hx
      exact Or.inr ⟨hc, hx, adup_n _ _ hc, hP.lt hx⟩
  refine ⟨fun k' i' e' h' => ?_, ⟨fun k1 i1 k2 i2 e1 e2 h1 h2 hq => ?_, fun k' i' e' h' => ?_⟩, ⟨Nat.le_trans hS.1 (by omega), fun q h1 h2 => (oq q (Nat.lt_of_lt_of_le h1 hS.1)).trans (hS.2.1 q h1 h2), hS.2.2⟩⟩
  · rcases key _ _ _ h' with ⟨rfl, rfl, ha, rfl⟩ | ⟨hc, hf, ha, hl⟩
    · rw [ha]; exact he
    · rw [ha]; exact (hP _ _ _ hf).kept (oq _ hl)
  · rcases key _ _ _ h1 with ⟨rfl, rfl, ha, rfl⟩ | ⟨hc, hf, ha, hl⟩ <;> rcases key _ _ _ h2 with ⟨rfl, rfl, ha2, rfl⟩ | ⟨hc2, hf2, ha2, hl2⟩
    · exact ⟨rfl, rfl⟩
    · rw [ha, ha2] at hq; omega
    · rw [ha, ha2] at hq; omega
    · rw [ha, ha2] at hq
      exact hD.1 _ _ _ _ _ _ hf hf2 hq
  · rcases key _ _ _ h' with ⟨rfl, rfl, ha, rfl⟩ | ⟨hc, hf, ha, hl⟩
    · rw [ha]; exact Nat.le_trans hB hS.1
    · rw [ha]; exact hD.2 _ _ _ hf
/-- fewer cells, the addresses of these as before -/
theorem WI.sub {g : Gg} {ad ad' : Ad} {B0 : Nat} {f f' : Wd} {s : State} {H : Heap} {locs : List Loc} (h : WI g ad B0 f s H locs) (hs : ∀ k i e, f' k i = some e → f k i = some e ∧ ad' k i = ad k i) : WI g ad' B0 f' s H locs := by
  obtain ⟨hP, hD, hS⟩ := h
  refine ⟨fun k i e he => ?_, ⟨fun k1 i1 k2 i2 e1 e2 h1 h2 hq => ?_, fun k i e he => ?_⟩, hS⟩
  · obtain ⟨h1, h2⟩ := hs k i e he
    rw [h2]
    exact hP _ _ _ h1
  · obtain ⟨g1, g2⟩ := hs _ _ _ h1
    obtain ⟨g3, g4⟩ := hs _ _ _ h2
    rw [g2, g4] at hq
    exact hD.1 _ _ _ _ _ _ g1 g3 hq
  · obtain ⟨h1, h2⟩ := hs k i e he
    rw [h2]
    exact hD.2 _ _ _ h1
theorem WI.cast {g : Gg} {ad : Ad} {B0 : Nat} {f f' : Wd} {s : State} {H : Heap} {locs : List Loc} (h : WI g ad B0 f s H locs) (e : f = f') : WI g ad B0 f' s H locs := e ▸ h
/-- what stays of the start: the statics of Throwable, the texts of the throws, what can be cast -/
def strsX : List (Nat × String) := [(244, "out of range"), (83, "no more products"), (91, "no more rooms"), (253, "no such room"), (114, "it defrosts already"), (248, "no such fact"), (251, "no such product"), (141, "the pallet cannot be put there"), (255, "no such pallet"), (244, "out of range"), (244, "out of range"), (177, "less than nothing")]
def ZS (B0 : Nat) (U : State) (H : Heap) : Prop := vx_Zq Bundle.tN "UNASSIGNED_STACK" Bundle.steD (fun q => B0 ≤ q) U H ∧ vx_Zq Bundle.tN "SUPPRESSED_SENTINEL" Bundle.listD (fun q => B0 ≤ q) U H
abbrev nIA : String := "java/lang/IllegalArgumentException"
abbrev nIS : String := "java/lang/IllegalStateException"
abbrev nIO : String := "java/lang/IndexOutOfBoundsException"
def XS (U : State) : Prop := (∀ q ∈ strsX, ∃ sa, vk_R RX6 q.1 q.2 sa U) ∧ (va_Nw (.castable nIA nIA) U ∧ va_Nw (.castable nIS nIS) U ∧ va_Nw (.castable nIO nIO) U ∧ True) ∧ va_Nw (.methodLinkNest RX6 9 yX0_init RX6) U ∧ True ∧ True ∧ True ∧ va_AO RX2 U ∧ va_AO RX3 U ∧ va_AO RX4 U ∧ va_Nw (.declares (Bundle.initS "java/lang/RuntimeException")) U ∧ va_Nw (.declares (Bundle.initS "java/lang/Exception")) U ∧ va_Nw (.declares (Bundle.initS Bundle.tN)) U
theorem XS.same {u U : State} (h : u.vm = U.vm) (hX : XS u) : XS U := by
  obtain ⟨h1, ⟨c1, c2, c3, -⟩, h3, -, -, -, a1, a2, a3, d1, d2, d3⟩ := hX
  have ha : u.vm.Alike U.vm := by rw [h]; exact Vm.Alike.refl _
  exact ⟨fun q hq => by obtain ⟨sa, hs⟩ := h1 q hq; exact ⟨sa, hs.same h.symm⟩, ⟨c1.same rfl h, c2.same rfl h, c3.same rfl h, trivial⟩, h3.same rfl h, trivial, trivial, trivial, a1.moved ha, a2.moved ha, a3.moved ha, d1.same rfl h, d2.same rfl h, d3.same rfl h⟩
theorem XS.warm {s U : State} (hW : s.WarmedH U.vm) (hX : XS s) : XS U := by
  obtain ⟨h1, ⟨c1, c2, c3, -⟩, h3, -, -, -, a1, a2, a3, d1, d2, d3⟩ := hX
  exact ⟨fun q hq => by obtain ⟨sa, hs⟩ := h1 q hq; exact ⟨sa, hs.warm hW⟩, ⟨c1.warmC hW, c2.warmC hW, c3.warmC hW, trivial⟩, h3.warmM hW, trivial, trivial, trivial, a1.moved hW.alike, a2.moved hW.alike, a3.moved hW.alike, d1.warmD hW, d2.warmD hW, d3.warmD hW⟩
def KI (g : Gg) (B0 : Nat) (U : State) : Prop := va_K g.1 vwCl (tysG g) U ∧ ZS B0 U U.heap ∧ XS U ∧ B0 ≤ U.heap.size
theorem KI.calling {g : Gg} {B0 : Nat} {U : State} (h : KI g B0 U) (j : JFrame) (mk : MethodId) (a : Array Value) : KI g B0 (U.calling j mk a) :=
  ⟨va_K.moved (u := U) (U := U.calling j mk a) (Vm.Alike.refl U.vm) h.1, ⟨vx_Zq.moved (u := U) (U := U.calling j mk a) (Vm.Alike.refl U.vm) h.2.1.1, vx_Zq.moved (u := U) (U := U.calling j mk a) (Vm.Alike.refl U.vm) h.2.1.2⟩, XS.same (u := U) (U := U.calling j mk a) rfl h.2.2.1, h.2.2.2⟩
theorem KI.go {g : Gg} {B0 : Nat} {s U : State} {H : Heap} {locs : List Loc} (h : KI g B0 s) (hS : va_S (fun q => B0 ≤ q) s.heap H locs) (hU : U.heap = H) (hW : s.WarmedH U.vm) : KI g B0 U := by
  obtain ⟨h1, ⟨h2, h3⟩, h4, h5⟩ := h
  subst hU
  exact ⟨va_K.moved hW.alike h1, ⟨vx_Zq.moved hW.alike (h2.kept hS.2.1), vx_Zq.moved hW.alike (h3.kept hS.2.1)⟩, h4.warm hW, Nat.le_trans h5 hS.1⟩
def PcI (g : Gg) (B0 : Nat) (ad : Ad) (f : Wd) (As : List Value) : Array Value → State → Prop := va_Pc As (fun U => PI g ad f U.heap ∧ KI g B0 U)
theorem PcI_blind {g : Gg} {B0 : Nat} {ad : Ad} {f : Wd} {As : List Value} : FrameBlind (PcI g B0 ad f As) := fun a _ j mk h => ⟨h.1, h.2.1, h.2.2.calling j mk a⟩
def QI (g : Gg) (B0 : Nat) (Rr : Option Value → Ad → Wd → Prop) : Array Value → State → Outcome → State → Prop := fun _ st oc t => (∃ (v : Option Value) (ad' : Ad) (f' : Wd), oc = .returned v ∧ Rr v ad' f' ∧ DI B0 ad' f' ∧ PI g ad' f' t.heap) ∧ va_F (fun q => B0 ≤ q) st t
def XI (g : Gg) (B0 : Nat) (RX : String → Ad → Wd → Prop) : String → State → State → Prop := fun E st t => (∃ (ad' : Ad) (f' : Wd), RX E ad' f' ∧ DI B0 ad' f' ∧ PI g ad' f' t.heap) ∧ va_F (fun q => B0 ≤ q) st t
def wsM (y : MethodName) (b : ByteArray) (n : Nat) (r : Option FieldType) : List Cond := Cond.code y b n r :: allW
/-- A METHOD: from the world f at the addresses ad it comes back with (v, ad', f') in Rr, or throws an E with (E, ad', f') in RX -/
def MM (l : Launch) (g : Gg) (B0 : Nat) (y : MethodName) (ws : List Cond) (rm : Room) (As : List Value) (ad : Ad) (f : Wd) (Rr : Option Value → Ad → Wd → Prop) (RX : String → Ad → Wd → Prop) (mc ms : Nat) : Prop :=
  l.stackTraces = false → DI B0 ad f → vx_Met l y ws rm (PcI g B0 ad f As) (QI g B0 Rr) (XI g B0 RX) mc ms (fun q => B0 ≤ q)
/-- a constructor: it throws nothing -/
def MK (l : Launch) (g : Gg) (B0 : Nat) (y : MethodName) (ws : List Cond) (rm : Room) (As : List Value) (ad : Ad) (f : Wd) (Rr : Option Value → Ad → Wd → Prop) (mc ms : Nat) : Prop :=
  DI B0 ad f → Met l y ws rm (PcI g B0 ad f As) (QI g B0 Rr) mc ms (fun q => B0 ≤ q)
abbrev noX : String → Ad → Wd → Prop := fun _ _ _ => False
/-- in a method: what its rows stand on -/
def Cx (p : Program) (s : State) (m : MethodId) (args : Array Value) (meth : Method) (c : Code) (own : String) (cc : ByteArray) (nL : Nat) (ret : Option FieldType) (g : Gg) (B0 : Nat) : Prop :=
  CallFix p m c cc nL s args allW own ∧ meth.sig.returnType = ret ∧ meth.locks = false ∧ KI g B0 s
/-- a method without a table of its own -/
def Cn (c : Code) : Prop := ∀ x ∈ c.exceptionTable.toList, False
section CORE
variable {p : Program} {l : Launch} {e : Env} {R : Room} {s : State} {m : MethodId} {args : Array Value} {below : List Frame} {meth : Method} {c : Code} {H : Heap} {locs : List Loc} {cells slots : Nat} {Q : State → Prop}
variable {g : Gg} {B0 : Nat} {ad : Ad} {f : Wd} {own : String} {cc : ByteArray} {nL : Nat} {ret : Option FieldType}
theorem MM.start {y : MethodName} {maxL mc ms : Nat} {rm : Room} {As : List Value} {Rr : Option Value → Ad → Wd → Prop} {RX : String → Ad → Wd → Prop} (hy : plainName y.cls = true) (hA : (lg_sl As).length ≤ maxL)
    (body : l.stackTraces = false → ∀ (p : Program) (e : Env) (s : State) (m : MethodId) (below : List Frame) (meth : Method) (c : Code) (ls : Array Slot), Cx p s m As.toArray meth c y.cls cc maxL ret g B0 → Cn c → WI g ad B0 f s s.heap [] → lv_has ls maxL (lv_args 0 As) →
      W p l e rm s m As.toArray below meth c s.heap [] 0 0 (vx_MQ below (QI g B0 Rr) (XI g B0 RX) As.toArray s mc ms (fun q => B0 ≤ q)) (F0 m 0 ls [])) : MM l g B0 y (wsM y cc maxL ret) rm As ad f Rr RX mc ms := by
  intro hl hD
  refine vx_ofW (cc := cc) (maxL := maxL) (ret := ret) hy rfl ?_
  intro p e s m args below meth c s₁ B hml hno hv
  obtain ⟨rfl, hP, hKI⟩ := hv
  have hts := atoms_spec (ws := wsM y cc maxL ret) B.pre
  have hown : s.vm.findClass y.cls = some m.cls := findClass_of_methodNamed B.named
  have hlv := lv_entry As (n := maxL) hA
  rw [lg_entry_eq]
  generalize (lg_sl As ++ List.replicate (maxL - (lg_sl As).length) Slot.unset).toArray = ls at hlv ⊢
  exact body hl p e s m below meth c ls ⟨⟨B.exec, B.bytes, hml, hown, fun w h => hts w (List.mem_cons_of_mem _ h)⟩, B.returns, B.notSynchronized, hKI⟩ hno ⟨hP, hD, va_S.rf⟩ hlv
theorem MK.start {y : MethodName} {maxL mc ms : Nat} {rm : Room} {As : List Value} {Rr : Option Value → Ad → Wd → Prop} (hy : plainName y.cls = true) (hin : y.name = "<init>") (hA : (lg_sl As).length ≤ maxL)
    (body : ∀ (p : Program) (e : Env) (s : State) (m : MethodId) (below : List Frame) (meth : Method) (c : Code) (ls : Array Slot), Cx p s m As.toArray meth c y.cls cc maxL ret g B0 → meth.name = "<init>" → WI g ad B0 f s s.heap [] → lv_has ls maxL (lv_args 0 As) →
      W p l e rm s m As.toArray below meth c s.heap [] 0 0 (MQ below (QI g B0 Rr) As.toArray s mc ms (fun q => B0 ≤ q)) (F0 m 0 ls [])) : MK l g B0 y (wsM y cc maxL ret) rm As ad f Rr mc ms := by
  intro hD
  refine Met.ofW (cc := cc) (maxL := maxL) (ret := ret) hy rfl ?_
  intro p e s m args below meth c s₁ B hml hv
  obtain ⟨rfl, hP, hKI⟩ := hv
  have hts := atoms_spec (ws := wsM y cc maxL ret) B.pre
  have hown : s.vm.findClass y.cls = some m.cls := findClass_of_methodNamed B.named
  have hname : meth.name = "<init>" := (name_of_methodNamed B.named B.method).1.trans hin
  have hlv := lv_entry As (n := maxL) hA
  rw [lg_entry_eq]
  generalize (lg_sl As ++ List.replicate (maxL - (lg_sl As).length) Slot.unset).toArray = ls at hlv ⊢
  exact body p e s m below meth c ls ⟨⟨B.exec, B.bytes, hml, hown, fun w h => hts w (List.mem_cons_of_mem _ h)⟩, B.returns, B.notSynchronized, hKI⟩ hname ⟨hP, hD, va_S.rf⟩ hlv
variable {pc : Nat} {ls : Array Slot} {rest st0 : List Value}
theorem PI.one (h : PI g ad f H) {k i : Nat} {e : va_E} (he : f k i = some e) : va_P g.1 vwCl [(ad k i, e)] H := fun n q hq => by
  have hz : n < 1 := (List.getElem?_eq_some_iff.mp hq).1
  rw [show n = 0 by omega] at hq
  cases hq
  exact h _ _ _ he
theorem r_get (hC : Cx p s m args meth c own cc nL ret g B0) (hI : WI g ad B0 f s H locs) {ref C : String} {T : u_T} {N ci index : Nat} (hin : ∀ w ∈ u_ws C T N, w ∈ allW) (hc : vwCl[ci]? = some (C, T, N)) (k : Nat) (hk : k < N) (hl : Cond.fieldLink own index ref (T k).2.1 (T k).2.2.1 ∈ allW) (hr : (T k).1 = ref) {kk ii : Nat} {fs : List Value} (he : f kk ii = some (.inr (ci, fs))) {v : Value} (hv : fs[k]? = some v)
    (hdg : decode cc pc = .ok (.getfield index, 3)) (kont : W p l e R s m args below meth c H locs cells slots Q (F0 m (pc + 3) ls (v :: rest))) : W p l e R s m args below meth c H locs cells slots Q (F0 m pc ls (.ref (ad kk ii) :: rest)) := by
  obtain ⟨⟨hx, hb, hml, hown, hts⟩, -, -, hKI⟩ := hC
  subst hr
  exact va_get hx hb hts hin hown hKI.1 (hI.1.one he) 0 rfl hc k hk (hts _ hl) (fun _ h => h) hv hdg kont
theorem r_put (hC : Cx p s m args meth c own cc nL ret g B0) (hI : WI g ad B0 f s H locs) {ref C : String} {T : u_T} {N ci index : Nat} (hin : ∀ w ∈ u_ws C T N, w ∈ allW) (hc : vwCl[ci]? = some (C, T, N)) (ty0 : Nat → FieldType) (hty : ∀ k, k < N → parseFieldDescriptor (T k).2.2.1 = some (ty0 k)) (hnm : ∀ a, a < N → ∀ b, b < N → a ≠ b → (T a).2.1 ≠ (T b).2.1) (k : Nat) (hk : k < N) (hl : Cond.fieldLink own index ref (T k).2.1 (T k).2.2.1 ∈ allW) (hr : (T k).1 = ref) (hfin : (T k).2.2.2 = false) {ty : FieldType} (hd : parseFieldDescriptor (T k).2.2.1 = some ty) {kk ii : Nat} {fs : List Value} (he : f kk ii = some (.inr (ci, fs))) {v : Value} (hn : narrow ty v = v) (hfit : fits ty v = true) (hlen : k < fs.length)
    (hdg : decode cc pc = .ok (.putfield index, 3)) (kont : ∀ (H1 : Heap) (locs1 : List Loc), WI g ad B0 (up2 f kk ii (.inr (ci, fs.set k v))) s H1 locs1 → W p l e R s m args below meth c H1 locs1 cells slots Q (F0 m (pc + 3) ls rest)) : W p l e R s m args below meth c H locs cells slots Q (F0 m pc ls (v :: .ref (ad kk ii) :: rest)) := by
  obtain ⟨⟨hx, hb, hml, hown, hts⟩, -, -, hKI⟩ := hC
  subst hr
  have hK := hKI.1
  have hap := va_apart (own := own) hts hin ty0 hty hnm hK hc
  obtain ⟨r, h1, cell, q1, q2, q3, q4⟩ := hI.1 _ _ _ he
  have hr : r = (C, T, N) := Option.some.inj (h1.symm.trans hc)
  subst hr
  obtain ⟨hS, hfc, kC, hkC, hkind⟩ := hK.1 ci _ hc
  obtain ⟨cf, kf, fi, fd, hi, hsl⟩ := hS k hk
  have hlay := hts _ (hin _ (u_in_lay hk))
  unfold u_lay at hlay
  rw [if_neg (by rw [hfin]; decide)] at hlay
  have hst := (u_facts hfc hkC (u_lays hts hin hk) hi).1
  have h6 := u_store hfc hkC hkind hlay hi hd hn hfit
  refine W.putK hx hb (f := fd) ⟨hown, hts _ hl, ⟨_, _, _, hi⟩, hst⟩ (by rw [q2]; exact h6) q1 q3 (by rw [hsl]; exact k2_hasslot (q4 k hk)) rfl rfl hdg fun H' e1 e2 e3 => ?_
  rw [hsl] at e1 ⊢
  exact kont H' _ (hI.put he ⟨_, hc, t_OB.to (V := updV (vp_V fs) k v) ⟨_, e1, q2, q3, t_set q4 hap hk v⟩ (fun j _ => vp_updV_set hlen v j)⟩ e2 e3)
theorem r_putF (hC : Cx p s m args meth c own cc nL ret g B0) (hin2 : meth.name = "<init>") (hI : WI g ad B0 f s H locs) {ref C : String} {T : u_T} {N ci index : Nat} (hin : ∀ w ∈ u_ws C T N, w ∈ allW) (hc : vwCl[ci]? = some (C, T, N)) (ty0 : Nat → FieldType) (hty : ∀ k, k < N → parseFieldDescriptor (T k).2.2.1 = some (ty0 k)) (hnm : ∀ a, a < N → ∀ b, b < N → a ≠ b → (T a).2.1 ≠ (T b).2.1) (k : Nat) (hk : k < N) (hl : Cond.fieldLink own index ref (T k).2.1 (T k).2.2.1 ∈ allW) (hr : (T k).1 = ref) (hfin : (T k).2.2.2 = true) (hdecl : (T k).1 = own) {ty : FieldType} (hd : parseFieldDescriptor (T k).2.2.1 = some ty) {kk ii : Nat} {fs : List Value} (he : f kk ii = some (.inr (ci, fs))) {v : Value} (hn : narrow ty v = v) (hfit : fits ty v = true) (hlen : k < fs.length)
    (hdg : decode cc pc = .ok (.putfield index, 3)) (kont : ∀ (H1 : Heap) (locs1 : List Loc), WI g ad B0 (up2 f kk ii (.inr (ci, fs.set k v))) s H1 locs1 → W p l e R s m args below meth c H1 locs1 cells slots Q (F0 m (pc + 3) ls rest)) : W p l e R s m args below meth c H locs cells slots Q (F0 m pc ls (v :: .ref (ad kk ii) :: rest)) := by
  obtain ⟨⟨hx, hb, hml, hown, hts⟩, -, -, hKI⟩ := hC
  subst hr
  have hK := hKI.1
  have hap := va_apart (own := own) hts hin ty0 hty hnm hK hc
  obtain ⟨r, h1, cell, q1, q2, q3, q4⟩ := hI.1 _ _ _ he
  have hr : r = (C, T, N) := Option.some.inj (h1.symm.trans hc)
  subst hr
  obtain ⟨hS, hfc, kC, hkC, hkind⟩ := hK.1 ci _ hc
  obtain ⟨cf, kf, fi, fd, hi, hsl⟩ := hS k hk
  have hlay := hts _ (hin _ (u_in_lay hk))
  unfold u_lay at hlay
  rw [if_pos hfin] at hlay
  have hst := (u_facts hfc hkC (u_lays hts hin hk) hi).1
  have hcf : m.cls = cf := by
    obtain ⟨_, _, c', _, _, _, -, -, hf', -, -, -, hown2, -⟩ := Cond.laysFinal_spec hlay
    have e1 : c' = cf := by have := hi.symm.trans hf'; simp at this; exact this.1.symm
    rw [hdecl] at hown2
    rw [← e1]; exact Option.some.inj (hown.symm.trans hown2)
  have h6 := u_fits hfc hkC hkind (Or.inr hlay) hi hd hn hfit
  refine W.putFinK hx hb hown (hts _ hl) hi hst hcf hin2 (by rw [q2]; exact h6) q1 q3 (by rw [hsl]; exact k2_hasslot (q4 k hk)) rfl rfl hdg fun H' e1 e2 e3 => ?_
  rw [hsl] at e1 ⊢
  exact kont H' _ (hI.put he ⟨_, hc, t_OB.to (V := updV (vp_V fs) k v) ⟨_, e1, q2, q3, t_set q4 hap hk v⟩ (fun j _ => vp_updV_set hlen v j)⟩ e2 e3)
end CORE
