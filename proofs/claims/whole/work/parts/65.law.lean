/-! THE LAW: its helpers have handlers of their own -/
abbrev wsH (y : MethodName) (b : ByteArray) (n : Nat) (r : Option FieldType) (hh : List (Nat × Nat × Nat × Nat)) : List Cond := Cond.codeWith y b n r hh :: allW
theorem goodSH {own : String} {index : Nat} {y : MethodName} {bytes : ByteArray} {maxL : Nat} {rt : Option FieldType} {hh : List (Nat × Nat × Nat × Nat)} (h1 : Cond.methodLink own index y ∈ allW) (h2 : Cond.static y ∈ allW) (h4 : Cond.initialized y.cls ∈ allW) (h5 : Cond.codeWith y bytes maxL rt hh ∈ allW) : GoodIn allW (va_wsS own index y (wsH y bytes maxL rt hh)) := by
  intro w hw
  refine allG w ?_
  rcases List.mem_append.mp hw with h | h
  · simp only [List.mem_cons, List.not_mem_nil, or_false] at h
    rcases h with rfl | rfl | rfl <;> assumption
  · rcases List.mem_cons.mp h with rfl | h
    · exact h5
    · exact h
section LAWR
variable {p : Program} {l : Launch} {e : Env} {R : Room} {s : State} {m : MethodId} {args : Array Value} {below : List Frame} {meth : Method} {c : Code} {H : Heap} {locs : List Loc} {cells slots : Nat} {Q : State → Prop}
variable {g : Gg} {B0 : Nat} {ad : Ad} {f : Wd} {own : String} {cc : ByteArray} {nL : Nat} {ret : Option FieldType}
variable {pc : Nat} {ls : Array Slot} {rest st0 : List Value} {kk ii : Nat} {hh : List (Nat × Nat × Nat × Nat)}
theorem r_callSH {mc ms n index : Nat} {y : MethodName} {bytes : ByteArray} {maxL : Nat} {rt : Option FieldType} {rm : Room} {As : List Value} {Rr : Option Value → Ad → Wd → Prop} {RX : String → Ad → Wd → Prop} (hl : l.stackTraces = false) (hC : Cx p s m args meth c own cc nL ret g B0) (hI : WI g ad B0 f s H locs) (hls : ls.size = nL) (hM : MM l g B0 y (wsH y bytes maxL rt hh) rm As ad f Rr RX mc ms)
    (cw : vx_CSW R s args own index y bytes maxL rt hh (wsH y bytes maxL rt hh) rm mc ms n) (hn : As.length = n) (hst : st0 = As.reverse ++ rest) (hW : (rest.map fun v => v.category).sum ≤ 8) (hdg : decode cc pc = .ok (.invokestatic index, 3)) (hf : cells + mc ≤ R.cells ∧ slots + ms ≤ R.slots)
    (kont : ∀ (v : Option Value) (ad' : Ad) (f' : Wd) (H1 : Heap) (locs1 : List Loc), Rr v ad' f' → WI g ad' B0 f' s H1 locs1 → W p l e R s m args below meth c H1 locs1 (cells + mc) (slots + ms) Q (F0 m (pc + 3) ls (v.toList ++ rest)))
    (kx : ∀ (E : String) (ce : Cell) (q : Addr) (ad' : Ad) (f' : Wd) (H1 : Heap) (locs1 : List Loc), RX E ad' f' → WI g ad' B0 f' s H1 locs1 → H1[q]? = some ce → ce.vm = .none → s.vm.findClass E = some ce.cls → vx_W p l e R s m args below meth c H1 locs1 (cells + mc) (slots + ms) Q (F0 m pc ls rest) q) : W p l e R s m args below meth c H locs cells slots Q (F0 m pc ls st0) := by
  subst hst
  refine rn_W hI (vx_runSX (As := As) (rest := rest) hC.1 (hM hl hI.2.1) cw ⟨PcI_blind, fun U hU hW => ⟨rfl, by rw [hU]; exact hI.1, hC.2.2.2.go hI.2.2 hU hW⟩⟩ rfl hn hls rfl (lv_room hW) hdg hf) kont kx
theorem MH.start {y : MethodName} {maxL mc ms : Nat} {rm : Room} {As : List Value} {Rr : Option Value → Ad → Wd → Prop} {RX : String → Ad → Wd → Prop} (hy : plainName y.cls = true) (hA : (lg_sl As).length ≤ maxL)
    (body : l.stackTraces = false → ∀ (p : Program) (e : Env) (s : State) (m : MethodId) (below : List Frame) (meth : Method) (c : Code) (ls : Array Slot), Cx p s m As.toArray meth c y.cls cc maxL ret g B0 → c.exceptionTable.toList = tableOf hh → WI g ad B0 f s s.heap [] → lv_has ls maxL (lv_args 0 As) →
      W p l e rm s m As.toArray below meth c s.heap [] 0 0 (vx_MQ below (QI g B0 Rr) (XI g B0 RX) As.toArray s mc ms (fun q => B0 ≤ q)) (F0 m 0 ls [])) : MM l g B0 y (wsH y cc maxL ret hh) rm As ad f Rr RX mc ms := by
  intro hl hD
  refine vx_ofWH (cc := cc) (maxL := maxL) (ret := ret) (hh := hh) hy rfl ?_
  intro p e s m args below meth c s₁ B hml hv
  obtain ⟨rfl, hP, hKI⟩ := hv
  have hts := atoms_spec (ws := wsH y cc maxL ret hh) B.pre
  have hown : s.vm.findClass y.cls = some m.cls := findClass_of_methodNamed B.named
  have htab := vx_table (x := y) B (hts _ List.mem_cons_self)
  have hlv := lv_entry As (n := maxL) hA
  rw [lg_entry_eq]
  generalize (lg_sl As ++ List.replicate (maxL - (lg_sl As).length) Slot.unset).toArray = ls at hlv ⊢
  exact body hl p e s m below meth c ls ⟨⟨B.exec, B.bytes, hml, hown, fun w h => hts w (List.mem_cons_of_mem _ h)⟩, B.returns, B.notSynchronized, hKI⟩ htab ⟨hP, hD, va_S.rf⟩ hlv
/-- caught here: by the row behind pre, whose rows name other classes -/
theorem r_catch {pre suf : List (Nat × Nat × Nat × Nat)} {a b h k : Nat} {E : String} {ce : Cell} {q : Addr} (hC : Cx p s m args meth c own cc nL ret g B0) (htab : c.exceptionTable.toList = tableOf hh) (hsp : hh = pre ++ (a, b, h, k) :: suf) (hpass : ∀ z ∈ pre, z.2.2.2 ≠ 0 ∧ ∃ nm : String, Cond.classLink own z.2.2.2 nm ∈ allW ∧ va_Nc E nm s) (hx : a ≤ pc ∧ pc < b) (h0 : k ≠ 0) (hlink : Cond.classLink own k E ∈ allW) (hcast : va_Nw (.castable E E) s) (h1 : H[q]? = some ce) (h2 : ce.vm = .none) (h3 : s.vm.findClass E = some ce.cls)
    (kont : W p l e R s m args below meth c H locs cells slots Q (F0 m h ls [.ref q])) : vx_W p l e R s m args below meth c H locs cells slots Q (F0 m pc ls rest) q := by
  have hts := hC.1.2.2.2.2
  refine vx_catch hC.1.2.2.2.1 (tableOf pre) ⟨a, b, h, k⟩ (tableOf suf) ?_ ?_ ?_ h0 (hts _ hlink) (hcast.use rfl) h1 h2 h3 kont
  · rw [htab, hsp]
    unfold tableOf
    rw [List.map_append]
    rfl
  · intro z hz
    obtain ⟨y, hy, rfl⟩ := List.mem_map.mp hz
    obtain ⟨g1, nm, g2, g3⟩ := hpass y hy
    exact Or.inr ⟨g1, nm, hts _ g2, g3⟩
  · show (decide (a ≤ pc) && decide (pc < b)) = true
    rw [decide_eq_true hx.1, decide_eq_true hx.2]
    rfl
end LAWR
theorem pass0 {own E : String} {s : State} : ∀ z ∈ ([] : List (Nat × Nat × Nat × Nat)), z.2.2.2 ≠ 0 ∧ ∃ nm : String, Cond.classLink own z.2.2.2 nm ∈ allW ∧ va_Nc E nm s := fun _ h => nomatch h
theorem pass1 {own E nm : String} {s : State} {x : Nat × Nat × Nat × Nat} {t : List (Nat × Nat × Nat × Nat)} (h0 : x.2.2.2 ≠ 0) (h1 : Cond.classLink own x.2.2.2 nm ∈ allW) (h2 : va_Nc E nm s) (h : ∀ z ∈ t, z.2.2.2 ≠ 0 ∧ ∃ nm : String, Cond.classLink own z.2.2.2 nm ∈ allW ∧ va_Nc E nm s) : ∀ z ∈ x :: t, z.2.2.2 ≠ 0 ∧ ∃ nm : String, Cond.classLink own z.2.2.2 nm ∈ allW ∧ va_Nc E nm s := fun z hz => by
  rcases List.mem_cons.mp hz with rfl | hz
  · exact ⟨h0, nm, h1, h2⟩
  · exact h z hz
/-! what a helper answers -/
abbrev outE (g : Gg) (o : Nat → Int64) : va_E := .inl (g.2 5, 1, .inr (.inl o))
abbrev outDE (g : Gg) (o : Nat → UInt64) : va_E := .inl (g.2 6, 1, .inr (.inr (.inr (.inl o))))
abbrev rH (g : Gg) (ad : Ad) (kd r : Int32) (σ' σ : Sg) (pd' pd : Int64) (pl : Pl) (h : Wd) : Option Value → Ad → Wd → Prop := fun v a w => v = some (.int kd) ∧ (∀ k i, k = 0 ∨ 13 ≤ k → a k i = ad k i) ∧ ∃ (τ : Sg) (qd : Int64) (pl' : Pl) (sc' : Sg) (o' : Nat → Int64), ((kd = 0 ∧ τ = σ' ∧ qd = pd' ∧ PlOk σ' pl' ∧ o' 0 = r.toInt64) ∨ (kd ≠ 0 ∧ τ = σ ∧ qd = pd ∧ pl' = pl)) ∧ w = fC g a τ qd pl' sc' (up2 h 50 0 (outE g o'))
abbrev rHD (g : Gg) (ad : Ad) (kd : Int32) (r : UInt64) (σ : Sg) (pd : Int64) (pl : Pl) (sc : Sg) (h : Wd) : Option Value → Ad → Wd → Prop := fun v a w => v = some (.int kd) ∧ a = ad ∧ ∃ (o' : Nat → UInt64), (kd = 0 → o' 0 = r) ∧ w = fC g ad σ pd pl sc (up2 h 51 0 (outDE g o'))
theorem fC_up {g : Gg} {ad : Ad} {σ : Sg} {pd : Int64} {pl : Pl} {sc : Sg} {h : Wd} {K : Nat} {x : va_E} (hK : 13 ≤ K) : up2 (fC g ad σ pd pl sc h) K 0 x = fC g ad σ pd pl sc (up2 h K 0 x) := by
  refine up2_to ?_ (fun k i hk => ?_)
  · obtain ⟨j, rfl⟩ : ∃ j, K = j + 13 := ⟨K - 13, by omega⟩
    exact up2_s _ _ _ _
  · match k, hk with
    | 0, _ => rfl
    | 1, _ => rfl
    | 2, _ => rfl
    | 3, _ => rfl
    | 4, _ => rfl
    | 5, _ => rfl
    | 6, _ => rfl
    | 7, _ => rfl
    | 8, _ => rfl
    | 9, _ => rfl
    | 10, _ => rfl
    | 11, _ => rfl
    | 12, _ => rfl
    | k + 13, hk => exact (up2_n h x hk).symm
theorem up2_same {h : Wd} {K : Nat} {x : va_E} (hx : h K 0 = some x) : up2 h K 0 x = h := up2_to hx (fun _ _ _ => rfl)
