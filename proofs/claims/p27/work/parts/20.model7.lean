/-! THE MODEL: foretell .. digest, and how it begins -/
section CG
variable {p : Program} {l : Launch} {e : Env} {R : Room} {s : State} {m : MethodId} {args : Array Value} {below : List Frame} {meth : Method} {c : Code} {H : Heap} {locs : List Loc} {cells slots : Nat} {Q : State → Prop}
variable {g : Gg} {B0 : Nat} {ad : Ad} {f : Wd} {own : String} {cc : ByteArray} {nL : Nat} {ret : Option FieldType}
variable {pc : Nat} {ls : Array Slot} {rest st0 : List Value} {kk ii : Nat}
variable {mc ms n index : Nat} {C : String} {y : MethodName} {bytes : ByteArray} {maxL : Nat} {rt : Option FieldType} {rm : Room} {As : List Value} {ci : Nat} {q : vw_C} {fs : List Value}
theorem c_Vg {Rr : Option Value → Ad → Wd → Prop} (hl : l.stackTraces = false) (hC : Cx p s m args meth c own cc nL ret g B0) (hI : WI g ad B0 f s H locs) (hls : ls.size = nL) (hM : MM l g B0 y (wsM y bytes maxL rt) rm (.ref (ad kk ii) :: As) ad f Rr noX mc ms) (cw : CallW R s args own C index y bytes maxL rt (wsM y bytes maxL rt) rm mc ms n) (hrecv : f kk ii = some (.inr (ci, fs))) (hq : vwCl[ci]? = some q) (hqC : q.1 = C) (hn : As.length = n) (hst : st0 = As.reverse ++ .ref (ad kk ii) :: rest) (hW : (rest.map fun v => v.category).sum ≤ 8) (hdg : decode cc pc = .ok (.invokevirtual index, 3)) (hf : cells + mc ≤ R.cells ∧ slots + ms ≤ R.slots)
    (kont : ∀ (v : Option Value) (a : Ad) (w : Wd) (H1 : Heap) (locs1 : List Loc), Rr v a w → WI g a B0 w s H1 locs1 → W p l e R s m args below meth c H1 locs1 (cells + mc) (slots + ms) Q (F0 m (pc + 3) ls (v.toList ++ rest))) : W p l e R s m args below meth c H locs cells slots Q (F0 m pc ls st0) :=
  r_callV hl hC hI hls hM cw hrecv hq hqC hn hst hW hdg hf kont (fun _ _ _ _ _ _ _ h => h.elim)
theorem c_Sg {Rr : Option Value → Ad → Wd → Prop} (hl : l.stackTraces = false) (hC : Cx p s m args meth c own cc nL ret g B0) (hI : WI g ad B0 f s H locs) (hls : ls.size = nL) (hM : MM l g B0 y (wsM y bytes maxL rt) rm As ad f Rr noX mc ms) (cw : CallB R s args own index y bytes maxL rt (wsM y bytes maxL rt) rm mc ms n ∧ (Cond.static y).before args s = true) (hn : As.length = n) (hst : st0 = As.reverse ++ rest) (hW : (rest.map fun v => v.category).sum ≤ 8) (hdg : decode cc pc = .ok (.invokestatic index, 3)) (hf : cells + mc ≤ R.cells ∧ slots + ms ≤ R.slots)
    (kont : ∀ (v : Option Value) (a : Ad) (w : Wd) (H1 : Heap) (locs1 : List Loc), Rr v a w → WI g a B0 w s H1 locs1 → W p l e R s m args below meth c H1 locs1 (cells + mc) (slots + ms) Q (F0 m (pc + 3) ls (v.toList ++ rest))) : W p l e R s m args below meth c H locs cells slots Q (F0 m pc ls st0) :=
  r_callS hl hC hI hls hM cw hn hst hW hdg hf kont (fun _ _ _ _ _ _ _ h => h.elim)
end CG
theorem objM_k {a ad : Ad} {σ : Sg} {pd : Int64} {th : Int32} (ha : ∀ k i, ¬ k = 60 → a k i = ad k i) : objM a σ pd th = objM ad σ pd th := by
  unfold objM
  rw [ha 24 0 (by decide), ha 26 0 (by decide), ha 27 0 (by decide), ha 28 0 (by decide), ha 29 0 (by decide), ha 31 0 (by decide), ha 32 0 (by decide), ha 33 0 (by decide), ha 34 0 (by decide), ha 35 0 (by decide), ha 36 0 (by decide), ha 38 0 (by decide), ha 39 0 (by decide), ha 40 0 (by decide), ha 41 0 (by decide)]
theorem fM_back2 {g : Gg} {a ad : Ad} {σ : Sg} {pd : Int64} {th : Int32} {h : Wd} {x : va_E} (ha : ∀ k i, ¬ k = 60 → a k i = ad k i) (hh : ∀ i, h 60 i = none) : ∀ k i e, fM g ad σ pd th h k i = some e → fM g a σ pd th (up2 h 60 3 x) k i = some e ∧ ad k i = a k i := by
  intro k i e he
  have h60 : ¬ k = 60 := by
    rintro rfl
    unfold fM at he
    rw [if_pos (Or.inr (by decide)), hh i] at he
    cases he
  refine ⟨?_, (ha k i h60).symm⟩
  unfold fM at he ⊢
  rw [objM_k ha, up2_n _ _ (fun z => h60 z.1)]
  exact he
def frC (σ : Sg) (u : Int32) (k : Nat) : Prop := σ 18 k = u ∧ ¬ σ 19 k = -1
theorem frC_dec (σ : Sg) (u : Int32) (k : Nat) : Nonempty (Decidable (frC σ u k)) := ⟨inferInstanceAs (Decidable (_ ∧ _))⟩
def frSum (σ : Sg) (u : Int32) : Nat → Int32
  | 0 => 0
  | k + 1 => if σ 18 k = u ∧ ¬ σ 19 k = -1 then frSum σ u k + leftS σ k else frSum σ u k
def frCnt (σ : Sg) (u : Int32) : Nat → Nat
  | 0 => 0
  | k + 1 => if σ 18 k = u ∧ ¬ σ 19 k = -1 then frCnt σ u k + 1 else frCnt σ u k
theorem frCnt_le (σ : Sg) (u : Int32) : ∀ k, frCnt σ u k ≤ k
  | 0 => Nat.le_refl _
  | k + 1 => by
    have := frCnt_le σ u k
    unfold frCnt
    split <;> omega
def rsFR (σ : Sg) (u : Int32) : UInt64 := if frCnt σ u (nt σ) = 0 then FP.dconst0 else FP.ddiv (FP.i2d (frSum σ u (nt σ))) (FP.i2d (nI (frCnt σ u (nt σ))))
theorem ddiv_ok (x : Int32) {n : Nat} (h0 : n ≠ 0) (hn : n < 2 ^ 31) : vf_n64 (FP.ddiv (FP.i2d x) (FP.i2d (nI n))) := by
  have hne : nI n ≠ 0 := nI_ne0 (by omega) hn
  have hz : ¬ FP.Core.DZero (FP.i2d (nI n)) := by
    rw [FP.Core.zero_bits2]
    exact FP.Core.i2d_ne_zero hne
  have h1 : FP.Core.dIsNaN (FP.ddiv (FP.i2d x) (FP.i2d (nI n))) = false := FP.Core.ddiv_out (FP.Core.i2d_fin x).notNaN (FP.Core.i2d_fin _) hz
  have h2 : ¬ (9218868437227405312 < (FP.ddiv (FP.i2d x) (FP.i2d (nI n))).toNat % 2 ^ 63) := fun z => by
    rw [(FP.Core.isNaN_bits _).mpr z] at h1
    cases h1
  unfold vf_n64
  rw [UInt64.le_iff_toNat_le, UInt64.toNat_and]
  show _ &&& 9223372036854775807 ≤ 9218868437227405312
  rw [show (9223372036854775807 : Nat) = 2 ^ 63 - 1 by decide, Nat.and_two_pow_sub_one_eq_mod]
  exact Nat.not_lt.mp h2
abbrev rD (g : Gg) (ad : Ad) (h : Wd) (kd : Int32) (r : UInt64) (σ : Sg) (pd : Int64) : Option Value → Ad → Wd → Prop := fun v a w => a = ad ∧ ((kd = 0 ∧ v = some (.double r) ∧ w = fM g ad σ pd 0 h) ∨ (kd ≠ 0 ∧ (∃ z, v = some (.double z)) ∧ w = fM g ad σ pd kd h))
def dgC (σ : Sg) (d : Int64) : Nat → Int64
  | 0 => d
  | w + 1 => dgC σ d w * 31 + (cntS σ (nI w)).toInt64
def dgR1 (σ : Sg) (r : Nat) (d : Int64) : Nat → Int64
  | 0 => d
  | w + 1 => dgR1 σ r d w * 31 + (toldR σ r w).toInt64
def dgR (σ : Sg) (d : Int64) : Nat → Int64
  | 0 => d
  | r + 1 => dgR1 σ r (dgR σ d r) 7 * 31 + (if σ 15 r = 0 then 0 else 1)
theorem dgR_0 {σ : Sg} {d : Int64} {r : Nat} (h : σ 15 r = 0) : dgR1 σ r (dgR σ d r) 7 * 31 + 0 = dgR σ d (r + 1) := by
  show _ = dgR1 σ r (dgR σ d r) 7 * 31 + (if σ 15 r = 0 then 0 else 1)
  rw [if_pos h]
theorem dgR_1 {σ : Sg} {d : Int64} {r : Nat} (h : ¬ σ 15 r = 0) : dgR1 σ r (dgR σ d r) 7 * 31 + 1 = dgR σ d (r + 1) := by
  show _ = dgR1 σ r (dgR σ d r) 7 * 31 + (if σ 15 r = 0 then 0 else 1)
  rw [if_neg h]
def dgP1 (σ : Sg) (p : Nat) (d : Int64) : Nat → Int64
  | 0 => d
  | w + 1 => dgP1 σ p d w * 31 + (toldP σ p (nI w)).toInt64
def dgP (σ : Sg) (d : Int64) : Nat → Int64
  | 0 => d
  | p + 1 => dgP1 σ p (dgP σ d p) 5
def dgS (σ : Sg) (pd : Int64) : Int64 := dgP σ (dgR σ (dgC σ (10819 + (σ 1 0).toInt64) 5) (nr σ)) (nt σ) * 31 + pd
theorem rL {r v : Int64} {a : Ad} {w : Wd} (h : v = r) : dL r a w (some (.long v)) a w := ⟨by rw [h], rfl, rfl⟩
