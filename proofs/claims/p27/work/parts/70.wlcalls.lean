/-! the helpers' calls in the law's world -/
section WLH
variable {p : Program} {l : Launch} {e : Env} {R : Room} {s : State} {m : MethodId} {args : Array Value} {below : List Frame} {meth : Method} {c : Code} {H : Heap} {locs : List Loc} {cells slots : Nat} {Q : State → Prop}
variable {g : Gg} {B0 x0 c0 c1 c2 c3 c4 : Nat} {own : String} {cc : ByteArray} {nL : Nat} {ret : Option FieldType}
variable {pc index : Nat} {ls : Array Slot} {rest : List Value} {σ : Sg} {pd : Int64} {o0 o1 o2 o3 o4 : Option (Nat → Int32)} {b L : Nat} {xs : Nat → Int32}
theorem wl_below (hl9 : l.stackTraces = false) (hC : Cx p s m args meth c own cc nL ret g B0) (hW : WL g B0 x0 c0 c1 c2 c3 c4 s H locs σ pd o0 o1 o2 o3 o4) (hls : ls.size = nL) {v x : Int32} {d : Nat} (hxd : x = nI d) (hd : 0 < d) (hd2 : d < 2 ^ 31) (cw : CallB R s args own index yL_below cL_below 2 (some .int) (wsM yL_below cL_below 2 (some .int)) ({ frames := 0, cells := 0, slots := 0, locals := 0 } : Room) 0 0 2 ∧ (Cond.static yL_below).before args s = true) (hr : (rest.map fun v => v.category).sum ≤ 8) (hdg : decode cc pc = .ok (.invokestatic index, 3)) (hf : cells ≤ R.cells ∧ slots ≤ R.slots) (kont : ∀ j : Nat, j < d → ∀ (H1 : Heap) (locs1 : List Loc), WL g B0 x0 c0 c1 c2 c3 c4 s H1 locs1 σ pd o0 o1 o2 o3 o4 → W p l e R s m args below meth c H1 locs1 cells slots Q (F0 m (pc + 3) ls (.int (nI j) :: rest))) : W p l e R s m args below meth c H locs cells slots Q (F0 m pc ls (.int x :: .int v :: rest)) := by
  subst hxd
  obtain ⟨ad, pl, sc, hI, h3, rfl, rfl, rfl, rfl, rfl, rfl⟩ := hW
  refine r_callS hl9 hC hI hls (tL_below l g B0 ad _ v d hd hd2) cw rfl rfl hr hdg hf (fun v a w H1 locs1 hR hI1 => ?_) (fun _ _ _ _ _ _ _ h => h.elim)
  obtain ⟨⟨j, hj, rfl⟩, ha, rfl⟩ := hR
  rw [ha] at hI1
  exact kont j hj H1 locs1 ⟨ad, pl, sc, hI1, h3, rfl, rfl, rfl, rfl, rfl, rfl⟩
theorem wl_cell (hl9 : l.stackTraces = false) (hC : Cx p s m args meth c own cc nL ret g B0) (hX : va_X b L xs s s.heap) (hbB : b < B0) (hL : L ≤ 260) (hW : WL g B0 x0 c0 c1 c2 c3 c4 s H locs σ pd o0 o1 o2 o3 o4) (hls : ls.size = nL) {x : Int32} {k : Nat} (hxk : x = nI k) (hk : k < 1000) (cw : CallB R s args own index yL_cell cL_cell 2 (some .int) (wsM yL_cell cL_cell 2 (some .int)) ({ frames := 0, cells := 0, slots := 0, locals := 0 } : Room) 0 0 2 ∧ (Cond.static yL_cell).before args s = true) (hr : (rest.map fun v => v.category).sum ≤ 8) (hdg : decode cc pc = .ok (.invokestatic index, 3)) (hf : cells ≤ R.cells ∧ slots ≤ R.slots) (kont : ∀ (z : Int32) (H1 : Heap) (locs1 : List Loc), WL g B0 x0 c0 c1 c2 c3 c4 s H1 locs1 σ pd o0 o1 o2 o3 o4 → W p l e R s m args below meth c H1 locs1 cells slots Q (F0 m (pc + 3) ls (.int z :: rest))) : W p l e R s m args below meth c H locs cells slots Q (F0 m pc ls (.int x :: .ref b :: rest)) := by
  subst hxk
  obtain ⟨ad, pl, sc, hI, h3, rfl, rfl, rfl, rfl, rfl, rfl⟩ := hW
  refine r_callX hl9 hC hX hbB hI hls (tL_cell l g B0 b L xs hbB hL ad _ k hk) cw rfl rfl hr hdg hf (fun v a w H1 locs1 hR hI1 => ?_)
  obtain ⟨⟨z, rfl⟩, ha, rfl⟩ := hR
  rw [ha] at hI1
  exact kont z H1 locs1 ⟨ad, pl, sc, hI1, h3, rfl, rfl, rfl, rfl, rfl, rfl⟩
theorem wl_go (hl9 : l.stackTraces = false) (hC : Cx p s m args meth c own cc nL ret g B0) {fn : Nat → Int32} (hW : WL g B0 x0 c0 c1 c2 c3 c4 s H locs σ pd (some fn) o1 o2 o3 o4) (hls : ls.size = nL) {x y : Int32} {a b : Nat} (hxa : x = nI a) (hyb : y = nI b) (ha : a < 12) (hb9 : b < 12) (hgo : a = b ∨ (¬ fn (4 * a + 3) = 3 ∧ ¬ fn (4 * b + 3) = 3 ∧ ¬ fn (4 * a + 3) + fn (4 * b + 3) = 3)) (cw : CallB R s args own index yL_go cL_go 5 (some .boolean) (wsM yL_go cL_go 5 (some .boolean)) ({ frames := 0, cells := 0, slots := 0, locals := 0 } : Room) 0 0 3 ∧ (Cond.static yL_go).before args s = true) (hr : (rest.map fun v => v.category).sum ≤ 8) (hdg : decode cc pc = .ok (.invokestatic index, 3)) (hf : cells ≤ R.cells ∧ slots ≤ R.slots) (kont : ∀ (H1 : Heap) (locs1 : List Loc), WL g B0 x0 c0 c1 c2 c3 c4 s H1 locs1 σ pd (some fn) o1 o2 o3 o4 → W p l e R s m args below meth c H1 locs1 cells slots Q (F0 m (pc + 3) ls (.int 1 :: rest))) : W p l e R s m args below meth c H locs cells slots Q (F0 m pc ls (.int y :: .int x :: .ref c0 :: rest)) := by
  subst hxa
  subst hyb
  obtain ⟨ad, pl, sc, hI, h3, rfl, rfl, rfl, rfl, rfl, rfl⟩ := hW
  refine r_callS hl9 hC hI hls (tL_go l g B0 ad _ fn a b ha hb9 rfl hgo) cw rfl rfl hr hdg hf (fun v a w H1 locs1 hR hI1 => ?_) (fun _ _ _ _ _ _ _ h => h.elim)
  obtain ⟨rfl, ha, rfl⟩ := hR
  rw [ha] at hI1
  exact kont H1 locs1 ⟨ad, pl, sc, hI1, h3, rfl, rfl, rfl, rfl, rfl, rfl⟩
end WLH
theorem nx1 {kd : Int32} {a : String} (h : kd = 0) : ∀ E : String, ¬ (kd = 1 ∧ E = a) := fun E z => by
  rw [h] at z
  exact absurd z.1 (by decide)
theorem nx2 {kd : Int32} {a b : String} (h : kd = 0) : ∀ E : String, ¬ ((kd = 1 ∧ E = a) ∨ (kd = 2 ∧ E = b)) := fun E z => by
  rw [h] at z
  rcases z with z | z
  · exact absurd z.1 (by decide)
  · exact absurd z.1 (by decide)
theorem nx3 {kd : Int32} {a b c : String} (h : kd = 0) : ∀ E : String, ¬ ((kd = 1 ∧ E = a) ∨ (kd = 2 ∧ E = b) ∨ (kd = 3 ∧ E = c)) := fun E z => by
  rw [h] at z
  rcases z with z | z | z
  · exact absurd z.1 (by decide)
  · exact absurd z.1 (by decide)
  · exact absurd z.1 (by decide)
theorem nI_sub {a : Nat} {k : Int32} (ha : a < 1000000) (hk : 0 ≤ k.toInt ∧ k.toInt ≤ 1000000) : (nI a - k).toInt = (a : Int) - k.toInt := by
  have := nI_toInt (n := a) (by omega)
  rw [sub_i (by omega) (by omega), this]
theorem nI_plus {a : Nat} {k : Int32} (ha : a < 1000000) (hk : -1000000 ≤ k.toInt ∧ k.toInt ≤ 1000000) : (k + nI a).toInt = k.toInt + (a : Int) := by
  have := nI_toInt (n := a) (by omega)
  rw [add_i (by omega) (by omega), this]
theorem le_of_i {x y : Int32} {a b : Int} (hx : x.toInt = a) (hy : y.toInt = b) (h : a ≤ b) : x ≤ y := Int32.le_iff_toInt_le.mpr (by omega)
