/-! throws, and calls whose throw goes on -/
abbrev nmsX : List String := ["java/lang/RuntimeException", "java/lang/Exception"]
def badX (E : String) : List Cond := [.declares (Bundle.initS "java/lang/RuntimeException"), .declares (Bundle.initS "java/lang/Exception"), .declares (Bundle.initS Bundle.tN), .castable E E]
theorem xIA_t : ∀ w ∈ (vx_atS RX6 179 nIA nmsX).filter goodWord, w ∈ lw_tbl := by decide +kernel
theorem xIS_t : ∀ w ∈ (vx_atS RX6 85 nIS nmsX).filter goodWord, w ∈ lw_tbl := by decide +kernel
theorem xIO_t : ∀ w ∈ (vx_atS RX6 250 nIO nmsX).filter goodWord, w ∈ lw_tbl := by decide +kernel
theorem xin {ws : List Cond} (h : ∀ w ∈ ws.filter goodWord, w ∈ lw_tbl) : ∀ w ∈ ws.filter goodWord, w ∈ allW := fun w hw => List.mem_filter.mpr ⟨h w hw, (List.mem_filter.mp hw).2⟩
theorem xIA_b : ∀ w ∈ (vx_atS RX6 179 nIA nmsX).filter (fun w => !goodWord w), w ∈ badX nIA := by decide +kernel
theorem xIS_b : ∀ w ∈ (vx_atS RX6 85 nIS nmsX).filter (fun w => !goodWord w), w ∈ badX nIS := by decide +kernel
theorem xIO_b : ∀ w ∈ (vx_atS RX6 250 nIO nmsX).filter (fun w => !goodWord w), w ∈ badX nIO := by decide +kernel
theorem xIA_o : ∀ w ∈ vx_atS RX6 179 nIA nmsX, vx_ot w = true := by decide +kernel
theorem xIS_o : ∀ w ∈ vx_atS RX6 85 nIS nmsX, vx_ot w = true := by decide +kernel
theorem xIO_o : ∀ w ∈ vx_atS RX6 250 nIO nmsX, vx_ot w = true := by decide +kernel
section THROWS
variable {p : Program} {l : Launch} {e : Env} {R : Room} {s : State} {m : MethodId} {args : Array Value} {below : List Frame} {meth : Method} {c : Code} {H : Heap} {locs : List Loc} {cells slots : Nat} {Q : State → Prop}
variable {g : Gg} {B0 : Nat} {ad : Ad} {f : Wd} {cc : ByteArray} {nL : Nat} {ret : Option FieldType}
variable {pc : Nat} {ls : Array Slot} {rest st0 : List Value} {kk ii : Nat}
theorem PI.grow {H1 : Heap} (h : PI g ad f H) (hk : ∀ q : Nat, q < H.size → H1[q]? = H[q]?) : PI g ad f H1 := fun k i e he => (h k i e he).kept (hk _ (h.lt he))
theorem badX_h {E : String} (hKI : KI g B0 s) (hE : va_Nw (.castable E E) s) : ∀ w ∈ badX E, w.before args s = true := by
  obtain ⟨-, -, ⟨-, -, -, -, -, -, -, -, -, d1, d2, d3⟩, -⟩ := hKI
  intro w hw
  simp only [badX, List.mem_cons, List.not_mem_nil, or_false] at hw
  rcases hw with rfl | rfl | rfl | rfl
  · exact d1.use rfl
  · exact d2.use rfl
  · exact d3.use rfl
  · exact hE.use rfl
theorem r_throw {Qc : Array Value → State → Outcome → State → Prop} {RX : String → Ad → Wd → Prop} {E text : String} {ik is ic mc ms : Nat} (hfit : Bundle.fit E = true) (hE1 : ∀ w ∈ (vx_atS RX6 ic E nmsX).filter goodWord, w ∈ lw_tbl) (hE2 : ∀ w ∈ (vx_atS RX6 ic E nmsX).filter (fun w => !goodWord w), w ∈ badX E) (hE3 : ∀ w ∈ vx_atS RX6 ic E nmsX, vx_ot w = true) (hk : Cond.classLink RX6 ik E ∈ allW) (hini : Cond.initialized E ∈ allW) (hstr : (is, text) ∈ strsX) (hl : l.stackTraces = false) (hno : Cn c) (hC : Cx p s m args meth c RX6 cc nL ret g B0) (hcast : va_Nw (.castable E E) s) (hI : WI g ad B0 f s H locs) (hls : ls.size = nL) (hx : RX E ad f)
    (d0 : decode cc pc = .ok (.new ik, 3)) (d3 : decode cc (pc + 3) = .ok (.dup, 1)) (d4 : decode cc (pc + 4) = .ok (.ldc is, 2)) (d6 : decode cc (pc + 6) = .ok (.invokespecial ic, 3)) (d9 : decode cc (pc + 9) = .ok (.athrow, 1))
    (hRf : 5 < R.frames) (hRl : (rest.map fun v => v.category).sum + 82 ≤ R.locals) (hRc : cells + 1 ≤ R.cells) (hRs : slots + 6 ≤ R.slots) (hc : cells + 1 ≤ mc) (hs : slots + 6 ≤ ms) :
    W p l e R s m args below meth c H locs cells slots (vx_MQ below Qc (XI g B0 RX) args s mc ms (fun q => B0 ≤ q)) (F0 m pc ls rest) := by
  obtain ⟨⟨hxx, hb, hml, hown, hts⟩, -, hlocks, hKI⟩ := hC
  obtain ⟨sa, hsa⟩ := hKI.2.2.1.1 _ hstr
  refine vx_throwS (names := nmsX) (A := fun q => B0 ≤ q) hxx hb hl hown hfit (by decide) (hts _ hk) (hts _ hini) hsa (vx_hat (B := badX E) (fun w hw => hts _ (xin hE1 w hw)) hE2 (badX_h hKI hcast)) ?_ hKI.2.1.1 hKI.2.1.2 hI.2.2 (hls.trans hml.symm) d0 d3 d4 d6 d9 (fun x hx => (hno x hx).elim) hRf hRl hRc hRs hlocks (fun t ht hz hq => ⟨⟨ad, f, hx, hI.2.1, hI.1.grow hq⟩, ⟨Nat.le_trans hI.2.2.1 hz, fun q h1 h2 => (hq q (Nat.lt_of_lt_of_le h1 hI.2.2.1)).trans (hI.2.2.2.1 q h1 h2)⟩⟩) hI.2.2.2.2 hc hs
  intro w hw
  rcases List.mem_cons.mp hw with rfl | hw
  · rfl
  · rcases List.mem_cons.mp hw with rfl | hw
    · rfl
    · exact hE3 w hw
theorem r_throwW {Qc : Array Value → State → Outcome → State → Prop} {RX : String → Ad → Wd → Prop} {E text : String} {ik is ic mc ms : Nat} (hfit : Bundle.fit E = true) (hE1 : ∀ w ∈ (vx_atS RX6 ic E nmsX).filter goodWord, w ∈ lw_tbl) (hE2 : ∀ w ∈ (vx_atS RX6 ic E nmsX).filter (fun w => !goodWord w), w ∈ badX E) (hE3 : ∀ w ∈ vx_atS RX6 ic E nmsX, vx_ot w = true) (hk : Cond.classLink RX6 ik E ∈ allW) (hini : Cond.initialized E ∈ allW) (hstr : (is, text) ∈ strsX) (hl : l.stackTraces = false) (hno : Cn c) (hC : Cx p s m args meth c RX6 cc nL ret g B0) (hcast : va_Nw (.castable E E) s) (hI : WI g ad B0 f s H locs) (hls : ls.size = nL) (hx : RX E ad f)
    (d0 : decode cc pc = .ok (.new ik, 3)) (d3 : decode cc (pc + 3) = .ok (.dup, 1)) (d4 : decode cc (pc + 4) = .ok (.ldc_w is, 3)) (d6 : decode cc (pc + 7) = .ok (.invokespecial ic, 3)) (d9 : decode cc (pc + 10) = .ok (.athrow, 1))
    (hRf : 5 < R.frames) (hRl : (rest.map fun v => v.category).sum + 82 ≤ R.locals) (hRc : cells + 1 ≤ R.cells) (hRs : slots + 6 ≤ R.slots) (hc : cells + 1 ≤ mc) (hs : slots + 6 ≤ ms) :
    W p l e R s m args below meth c H locs cells slots (vx_MQ below Qc (XI g B0 RX) args s mc ms (fun q => B0 ≤ q)) (F0 m pc ls rest) := by
  obtain ⟨⟨hxx, hb, hml, hown, hts⟩, -, hlocks, hKI⟩ := hC
  obtain ⟨sa, hsa⟩ := hKI.2.2.1.1 _ hstr
  refine vx_throwSW (names := nmsX) (A := fun q => B0 ≤ q) hxx hb hl hown hfit (by decide) (hts _ hk) (hts _ hini) hsa (vx_hat (B := badX E) (fun w hw => hts _ (xin hE1 w hw)) hE2 (badX_h hKI hcast)) ?_ hKI.2.1.1 hKI.2.1.2 hI.2.2 (hls.trans hml.symm) d0 d3 d4 d6 d9 (fun x hx => (hno x hx).elim) hRf hRl hRc hRs hlocks (fun t ht hz hq => ⟨⟨ad, f, hx, hI.2.1, hI.1.grow hq⟩, ⟨Nat.le_trans hI.2.2.1 hz, fun q h1 h2 => (hq q (Nat.lt_of_lt_of_le h1 hI.2.2.1)).trans (hI.2.2.2.1 q h1 h2)⟩⟩) hI.2.2.2.2 hc hs
  intro w hw
  rcases List.mem_cons.mp hw with rfl | hw
  · rfl
  · rcases List.mem_cons.mp hw with rfl | hw
    · rfl
    · exact hE3 w hw
end THROWS
