/-! THE LAW'S WORLD: the model's cells over the class's over the two answers' arrays -/
def hO (g : Gg) (o : Nat → Int64) (od : Nat → UInt64) : Wd := fun k i => if k = 50 ∧ i = 0 then some (outE g o) else if k = 51 ∧ i = 0 then some (outDE g od) else none
theorem hO_50 {g : Gg} {o o' : Nat → Int64} {od : Nat → UInt64} : up2 (hO g o od) 50 0 (outE g o') = hO g o' od := by
  refine up2_to (if_pos ⟨rfl, rfl⟩) (fun k i hk => ?_)
  unfold hO
  rw [if_neg hk, if_neg hk]
theorem hO_51 {g : Gg} {o : Nat → Int64} {od od' : Nat → UInt64} : up2 (hO g o od) 51 0 (outDE g od') = hO g o od' := by
  refine up2_to ((if_neg (by omega)).trans (if_pos ⟨rfl, rfl⟩)) (fun k i hk => ?_)
  unfold hO
  rw [if_neg hk, if_neg hk]
theorem fMC {g : Gg} {ad a : Ad} {σ τ : Sg} {pd qd : Int64} {th : Int32} {pl : Pl} {sc : Sg} {h : Wd} : fM g ad σ pd th (fC g a τ qd pl sc h) = fC g a τ qd pl sc (fM g ad σ pd th h) := by
  funext k i
  match k with
  | 0 => rfl
  | 1 => rfl
  | 2 => rfl
  | 3 => rfl
  | 4 => rfl
  | 5 => rfl
  | 6 => rfl
  | 7 => rfl
  | 8 => rfl
  | 9 => rfl
  | 10 => rfl
  | 11 => rfl
  | 12 => rfl
  | k + 13 => rfl
theorem fM_ad {g : Gg} {ad a : Ad} {σ : Sg} {pd : Int64} {th : Int32} {h : Wd} (hA : ∀ k i, k = 0 ∨ 13 ≤ k → a k i = ad k i) : fM g a σ pd th h = fM g ad σ pd th h := by
  have e : objM a σ pd th = objM ad σ pd th := by
    unfold objM
    rw [hA 24 0 (by omega), hA 26 0 (by omega), hA 27 0 (by omega), hA 28 0 (by omega), hA 29 0 (by omega), hA 31 0 (by omega), hA 32 0 (by omega), hA 33 0 (by omega), hA 34 0 (by omega), hA 35 0 (by omega), hA 36 0 (by omega), hA 38 0 (by omega), hA 39 0 (by omega), hA 40 0 (by omega), hA 41 0 (by omega)]
  unfold fM
  rw [e]
/-- what holds between the calls -/
def Ok3 (σ : Sg) (pl : Pl) : Prop := Iv σ pl ∧ OkT σ ∧ Bn σ (cN (σ 1 0))
theorem Ok3.pl {σ : Sg} {pl pl' : Pl} (h : Ok3 σ pl) (hP : PlOk σ pl') : Ok3 σ pl' := ⟨⟨h.1.1, hP, h.1.2.2⟩, h.2⟩
def lwT (g : Gg) (B0 x0 m0 o0 d0 : Nat) (kd : Int32) (P : (Nat → Int64) → (Nat → UInt64) → Prop) (s : State) (H : Heap) (locs : List Loc) : Prop := ∃ (ad : Ad) (σ : Sg) (pd : Int64) (pl : Pl) (sc : Sg) (o : Nat → Int64) (od : Nat → UInt64), WI g ad B0 (fM g ad σ pd kd (fC g ad σ pd pl sc (hO g o od))) s H locs ∧ Ok3 σ pl ∧ P o od ∧ ad 0 0 = x0 ∧ ad 20 0 = m0 ∧ ad 50 0 = o0 ∧ ad 51 0 = d0
def lwS (g : Gg) (B0 x0 m0 o0 d0 : Nat) (s : State) (H : Heap) (locs : List Loc) : Prop := ∃ kd : Int32, lwT g B0 x0 m0 o0 d0 kd (fun _ _ => True) s H locs
theorem lwT.ls {g : Gg} {B0 x0 m0 o0 d0 : Nat} {kd : Int32} {P : (Nat → Int64) → (Nat → UInt64) → Prop} {s : State} {H : Heap} {locs : List Loc} (h : lwT g B0 x0 m0 o0 d0 kd P s H locs) : lwS g B0 x0 m0 o0 d0 s H locs := by
  obtain ⟨ad, σ, pd, pl, sc, o, od, h1, h2, -, h4⟩ := h
  exact ⟨kd, ad, σ, pd, pl, sc, o, od, h1, h2, trivial, h4⟩
theorem law_mid {g : Gg} {B0 : Nat} {s : State} {H : Heap} {locs : List Loc} {ad a a2 : Ad} {σ σ' τ : Sg} {pd pd' qd : Int64} {kd r : Int32} {pl pl' : Pl} {sc' : Sg} {o' : Nat → Int64} {od : Nat → UInt64} {v : Option Value} {w : Wd}
    (h0 : Ok3 σ pl) (hk : kd = 0 → ∀ pl', PlOk σ' pl' → Ok3 σ' pl') (hH : (kd = 0 ∧ τ = σ' ∧ qd = pd' ∧ PlOk σ' pl' ∧ o' 0 = r.toInt64) ∨ (kd ≠ 0 ∧ τ = σ ∧ qd = pd ∧ pl' = pl)) (hA : ∀ k i, k = 0 ∨ 13 ≤ k → a k i = ad k i)
    (hM : rM g a (fC g a τ qd pl' sc' (hO g o' od)) kd r σ' σ pd' pd v a2 w) (hI : WI g a2 B0 w s H locs) : ∃ bb : Int32, v = some (.int bb) ∧ lwT g B0 (ad 0 0) (ad 20 0) (ad 50 0) (ad 51 0) kd (fun o _ => kd = 0 → o 0 = bb.toInt64) s H locs := by
  obtain ⟨ha2, hM⟩ := hM
  obtain rfl := ha2.symm
  have e1 := hA 0 0 (by omega)
  have e2 := hA 20 0 (by omega)
  have e3 := hA 50 0 (by omega)
  have e4 := hA 51 0 (by omega)
  rcases hH with ⟨k0, rfl, rfl, hP, ho⟩ | ⟨k0, rfl, rfl, rfl⟩
  · rcases hM with ⟨-, rfl, rfl⟩ | ⟨k1, -⟩
    · refine ⟨r, rfl, a, τ, qd, pl', sc', o', od, ?_, hk k0 _ hP, fun _ => ho, e1, e2, e3, e4⟩
      rw [k0]
      exact hI
    · exact absurd k0 k1
  · rcases hM with ⟨k1, -⟩ | ⟨-, rfl, rfl⟩
    · exact absurd k1 k0
    · exact ⟨0, rfl, a, τ, qd, pl', sc', o', od, hI, h0, fun z => absurd z k0, e1, e2, e3, e4⟩
theorem hO_60 {g : Gg} {a : Ad} {τ : Sg} {qd : Int64} {pl : Pl} {sc : Sg} {o : Nat → Int64} {od : Nat → UInt64} : ∀ i, fC g a τ qd pl sc (hO g o od) 60 i = none := fun i => by
  show hO g o od 60 i = none
  unfold hO
  rw [if_neg (by omega), if_neg (by omega)]
theorem fC_hO50 {g : Gg} {a ad : Ad} {σ τ : Sg} {pd qd : Int64} {th : Int32} {pl : Pl} {sc : Sg} {o : Nat → Int64} {od : Nat → UInt64} : fM g a σ pd th (fC g ad τ qd pl sc (hO g o od)) 50 0 = some (outE g o) := rfl
theorem fC_hO51 {g : Gg} {a ad : Ad} {σ τ : Sg} {pd qd : Int64} {th : Int32} {pl : Pl} {sc : Sg} {o : Nat → Int64} {od : Nat → UInt64} : fM g a σ pd th (fC g ad τ qd pl sc (hO g o od)) 51 0 = some (outDE g od) := rfl
abbrev lv5 (b x0 m0 o0 d0 : Nat) (i : Int32) : List (Nat × Value) := [(0, .ref b), (1, .ref x0), (2, .ref m0), (3, .ref o0), (4, .ref d0), (5, .int i)]
section LAWP
variable {p : Program} {l : Launch} {e : Env} {s : State} {m : MethodId} {args : Array Value} {below : List Frame} {meth : Method} {c : Code} {H : Heap} {locs : List Loc} {cells slots : Nat} {Q : State → Prop}
variable {g : Gg} {B0 : Nat} {ad : Ad} {f : Wd} {ret : Option FieldType} {ls : Array Slot} {rest : List Value} {b L : Nat} {xs : Nat → Int32}
theorem lawArg (hC : Cx p s m args meth c RL cL_law 9 ret g B0) (hX : va_X b L xs s s.heap) (hbl : b < s.heap.size) (hbA : ¬ B0 ≤ b) (hL : L ≤ 2560) (hI : WI g ad B0 f s H locs) {lv : List (Nat × Value)} (hl : lv_has ls 9 lv) {i0 i5 : Nat} (h0 : lv[i0]? = some (0, .ref b)) {k : Nat} (h5 : lv[i5]? = some (5, .int (nI k))) {P : Nat} {jz : Int} (j : Nat) (hj : Int32.ofInt jz = nI j) (hkj : k + j < L)
    (d0 : decode cL_law P = .ok (.aload_n 0, 1)) (d1 : decode cL_law (P + 1) = .ok (.iload 5, 2)) (d3 : decode cL_law (P + 3) = .ok (.iconst jz, 1)) (d4 : decode cL_law (P + 4) = .ok (.iadd, 1)) (d5 : decode cL_law (P + 5) = .ok (.iaload, 1))
    (kont : W p l e room_1 s m args below meth c H locs cells slots Q (F0 m (P + 6) ls (.int (xs (k + j)) :: rest))) : W p l e room_1 s m args below meth c H locs cells slots Q (F0 m P ls rest) := by
  have hx := hC.1.1
  have hb := hC.1.2.1
  refine lv_aload_n hx hb d0 rfl (lv_at hl i0 h0) ?_
  refine lv_iload hx hb d1 (lv_at hl i5 h5) ?_
  refine lv_iconst (v := nI j) hx hb d3 hj ?_
  refine lv_iadd hx hb d4 ?_
  rw [nI_p]
  refine va_sld (A := fun q => B0 ≤ q) hx hb hX hbl hbA hI.2.2 (vp_in_nI hkj (by omega)) d5 ?_
  rw [nI_clamp (by omega)]
  exact kont
theorem lawBool (hC : Cx p s m args meth c RL cL_law 9 ret g B0) {P : Nat} {x : Int32} (d0 : decode cL_law P = .ok (.ifCond .eq 7, 3)) (d3 : decode cL_law (P + 3) = .ok (.iconst 1, 1)) (d4 : decode cL_law (P + 4) = .ok (.goto 4, 3)) (d7 : decode cL_law (P + 7) = .ok (.iconst 0, 1))
    (kont : W p l e room_1 s m args below meth c H locs cells slots Q (F0 m (P + 8) ls (.int (bi (¬ x = 0)) :: rest))) : W p l e room_1 s m args below meth c H locs cells slots Q (F0 m P ls (.int x :: rest)) := by
  have hx := hC.1.1
  have hb := hC.1.2.1
  refine lv_if_eq (tgt := P + 7) hx hb d0 (by omega) (fun hz => ?_) (fun hz => ?_)
  · rw [bi_f (fun z => z hz)] at kont
    refine lv_iconst (v := 0) hx hb d7 (by decide) ?_
    exact kont
  · rw [bi_t hz] at kont
    refine lv_iconst (v := 1) hx hb d3 (by decide) ?_
    refine lv_goto (tgt := P + 8) hx hb d4 (by omega) ?_
    exact kont
theorem lcmp_same (x : Int64) : lg_cmp x x = 0 := by
  unfold lg_cmp
  rw [if_neg (Int64.lt_irrefl), if_pos rfl]
/-- from the model's answer on: the two answers are held against each other -/
theorem lawT (hl9 : l.stackTraces = false) (hC : Cx p s m args meth c RL cL_law 9 ret g B0) {x0 m0 o0 d0 : Nat} {i kd bb : Int32} {C9 S9 : Nat}
    (K : ∀ (H : Heap) (locs : List Loc) (ls : Array Slot), lwS g B0 x0 m0 o0 d0 s H locs → lv_has ls 9 (lv5 b x0 m0 o0 d0 i) → W p l e room_1 s m args below meth c H locs C9 S9 Q (F0 m 1635 ls []))
    (hLT : lwT g B0 x0 m0 o0 d0 kd (fun o _ => kd = 0 → o 0 = bb.toInt64) s H locs) (hl : lv_has ls 9 ((6, .int kd) :: lv5 b x0 m0 o0 d0 i)) (hc : cells ≤ C9) (hs : slots ≤ S9) (hc9 : C9 ≤ room_1.cells) (hs9 : S9 ≤ room_1.slots) {P : Nat} {off : Int} (hoff : ((P + 30 : Nat) : Int) + off = 1635)
    (e0 : decode cL_law P = .ok (.istore 7, 2)) (e2 : decode cL_law (P + 2) = .ok (.aload_n 2, 1)) (e3 : decode cL_law (P + 3) = .ok (.invokevirtual 92, 3)) (e6 : decode cL_law (P + 6) = .ok (.iload 6, 2)) (e8 : decode cL_law (P + 8) = .ok (.if_icmp .eq 5, 3)) (e13 : decode cL_law (P + 13) = .ok (.iload 6, 2)) (e15 : decode cL_law (P + 15) = .ok (.ifCond .ne 15, 3)) (e18 : decode cL_law (P + 18) = .ok (.aload_n 3, 1)) (e19 : decode cL_law (P + 19) = .ok (.iconst 0, 1)) (e20 : decode cL_law (P + 20) = .ok (.laload, 1)) (e21 : decode cL_law (P + 21) = .ok (.iload 7, 2)) (e23 : decode cL_law (P + 23) = .ok (.i2l, 1)) (e24 : decode cL_law (P + 24) = .ok (.lcmp, 1)) (e25 : decode cL_law (P + 25) = .ok (.ifCond .eq 5, 3)) (e30 : decode cL_law (P + 30) = .ok (.goto off, 3)) :
    W p l e room_1 s m args below meth c H locs cells slots Q (F0 m P ls [.int bb]) := by
  have hx := hC.1.1
  have hb := hC.1.2.1
  have hts := hC.1.2.2.2.2
  refine lv_istore (lv' := (7, .int bb) :: (6, .int kd) :: lv5 b x0 m0 o0 d0 i) hx hb e0 hl (by decide) rfl (fun ls hl => ?_)
  obtain ⟨ad, σ, pd, pl, sc, o, od, hI, h3, hbb, rfl, rfl, rfl, rfl⟩ := hLT
  refine lv_aload_n hx hb e2 rfl (lv_at hl 4 rfl) ?_
  refine c_Vi (rest := []) hl9 hC hI hl.1 (tX7_thrown l g B0 ad σ pd kd _) (cw_L_92 hts rfl rfl ⟨Nat.le_of_ble_eq_true rfl, Nat.le_of_ble_eq_true rfl⟩) fM_o rfl rfl rfl rfl (Nat.le_of_ble_eq_true rfl) e3 ⟨by omega, by omega⟩ (fun H locs hI => ?_)
  refine lv_iload hx hb e6 (lv_at hl 1 rfl) ?_
  refine lv_icmp_eq (tgt := P + 13) hx hb e8 (by omega) (fun _ => ?_) (fun z => absurd rfl z)
  refine lv_iload hx hb e13 (lv_at hl 1 rfl) ?_
  have J : ∀ ls : Array Slot, lv_has ls 9 ((7, .int bb) :: (6, .int kd) :: lv5 b (ad 0 0) (ad 20 0) (ad 50 0) (ad 51 0) i) → W p l e room_1 s m args below meth c H locs cells slots Q (F0 m (P + 30) ls []) := fun ls hl => by
    refine lv_goto (tgt := 1635) hx hb e30 hoff ?_
    refine W.widen (k := C9) (n := S9) hc hs ?_
    exact K H locs ls ⟨kd, ad, σ, pd, pl, sc, o, od, hI, h3, trivial, rfl, rfl, rfl, rfl⟩ (lv_sub hl [2, 3, 4, 5, 6, 7] rfl)
  refine lv_if_ne (tgt := P + 30) hx hb e15 (by omega) (fun _ => J ls hl) (fun hk => ?_)
  have hk0 : kd = 0 := hk
  refine lv_aload_n hx hb e18 rfl (lv_at hl 5 rfl) ?_
  refine lv_iconst (v := 0) hx hb e19 (by decide) ?_
  refine r_lald (kk := 50) (ii := 0) (n := 1) (fn := o) hC hI fC_hO50 (j := 0) rfl (by decide) (by decide) e20 ?_
  refine lv_iload hx hb e21 (lv_at hl 0 rfl) ?_
  refine lv_i2l hx hb e23 rfl ?_
  refine W.lcmp hx hb e24 ?_
  rw [hbb hk0, lcmp_same]
  exact lv_if_eq (tgt := P + 30) hx hb e25 (by omega) (fun _ => J ls hl) (fun z => absurd rfl z)
end LAWP
