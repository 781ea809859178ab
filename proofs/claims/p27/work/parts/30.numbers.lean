/-! NUMBERS: how warm it can get in an hour -/
theorem div_i {a k : Int32} (hk : k ≠ -1) : (a / k).toInt = a.toInt.tdiv k.toInt := Int32.toInt_div_of_ne_right a k hk
theorem mul_i {a b : Int32} (h1 : -2 ^ 31 ≤ a.toInt * b.toInt) (h2 : a.toInt * b.toInt < 2 ^ 31) : (a * b).toInt = a.toInt * b.toInt := by
  rw [Int32.toInt_mul, Int.bmod_eq_of_le (by omega) (by omega)]
theorem td_hi {x y d : Int} (hd : 0 < d) (hy : 0 ≤ y) (h : x ≤ y) : d * x.tdiv d ≤ y := by
  by_cases hx : 0 ≤ x
  · rw [Int.tdiv_eq_ediv_of_nonneg hx]
    have := Int.mul_ediv_self_le (x := x) (k := d) (by omega)
    omega
  · have h1 : 0 ≤ (-x).tdiv d := Int.tdiv_nonneg (by omega) (by omega)
    rw [Int.neg_tdiv] at h1
    have h2 : 0 ≤ d * -(x.tdiv d) := Int.mul_nonneg (by omega) h1
    rw [Int.mul_neg] at h2
    omega
theorem td_lo {x y d : Int} (hd : 0 < d) (hy : 0 ≤ y) (h : -y ≤ x) : -y ≤ d * x.tdiv d := by
  have h1 := td_hi (x := -x) hd hy (by omega)
  rw [Int.neg_tdiv, Int.mul_neg] at h1
  omega
theorem mul_hi {x w y k : Int} (h0 : 0 ≤ w) (hk : w ≤ k) (hy : 0 ≤ y) (h : x ≤ y) : x * w ≤ y * k := Int.le_trans (Int.mul_le_mul_of_nonneg_right h h0) (Int.mul_le_mul_of_nonneg_left hk hy)
theorem mul_lo {x w y k : Int} (h0 : 0 ≤ w) (hk : w ≤ k) (hy : 0 ≤ y) (h : -y ≤ x) : -(y * k) ≤ x * w := by
  have h1 := mul_hi (x := -x) h0 hk hy (by omega)
  rw [Int.neg_mul] at h1
  omega
theorem sumJ_rg {F : Nat → Int32} {y z : Int} (hy0 : 0 ≤ y) (hy : y ≤ 10000000) (hz0 : 0 ≤ z) (hz : z ≤ 10000000) : ∀ n : Nat, n ≤ 20 → (∀ j, j < n → -z ≤ (F j).toInt ∧ (F j).toInt ≤ y) → -((n : Int) * z) ≤ (sumJ F n).toInt ∧ (sumJ F n).toInt ≤ (n : Int) * y
  | 0, _, _ => by
    show -((0 : Int) * z) ≤ 0 ∧ 0 ≤ (0 : Int) * y
    omega
  | n + 1, hn, h => by
    obtain ⟨h1, h2⟩ := sumJ_rg hy0 hy hz0 hz n (by omega) (fun j hj => h j (by omega))
    obtain ⟨h3, h4⟩ := h n (by omega)
    have e1 : ((n + 1 : Nat) : Int) * y = (n : Int) * y + y := by rw [Int.natCast_add, Int.add_mul]; omega
    have e2 : ((n + 1 : Nat) : Int) * z = (n : Int) * z + z := by rw [Int.natCast_add, Int.add_mul]; omega
    have b1 : (n : Int) * y ≤ 20 * 10000000 := by
      have := mul_hi (x := (n : Int)) (w := y) (y := 20) (k := 10000000) hy0 hy (by omega) (by omega)
      omega
    have b2 : (n : Int) * z ≤ 20 * 10000000 := by
      have := mul_hi (x := (n : Int)) (w := z) (y := 20) (k := 10000000) hz0 hz (by omega) (by omega)
      omega
    have e3 : (sumJ F (n + 1)).toInt = (sumJ F n).toInt + (F n).toInt := add_i (by omega) (by omega)
    rw [e3, e1, e2]
    omega
/-- the machine's warmth -/
theorem mWm_P {po fr : Int32} (hp : rg po 0 200) (hf : rg fr 0 90) : (po * (100 - fr)).toInt = po.toInt * (100 - fr.toInt) ∧ 0 ≤ po.toInt * (100 - fr.toInt) ∧ po.toInt * (100 - fr.toInt) ≤ 20000 := by
  have e1 : (100 - fr).toInt = 100 - fr.toInt := sub_i (a := 100) (by show -2 ^ 31 ≤ 100 - fr.toInt; omega) (by show 100 - fr.toInt < 2 ^ 31; omega)
  have h1 : 0 ≤ po.toInt * (100 - fr.toInt) := Int.mul_nonneg hp.1 (by omega)
  have h2 := mul_hi (x := po.toInt) (w := 100 - fr.toInt) (y := 200) (k := 100) (by omega) (by omega) (by omega) hp.2
  refine ⟨?_, h1, by omega⟩
  rw [mul_i (by rw [e1]; omega) (by rw [e1]; omega), e1]
theorem neg_i {x : Int32} (h : -2147483647 ≤ x.toInt) : (-x).toInt = -x.toInt := by
  have e := sub_i (a := 0) (b := x) (by show -2 ^ 31 ≤ 0 - x.toInt; have := x.toInt_lt; omega) (by show 0 - x.toInt < 2 ^ 31; omega)
  rw [Int32.zero_sub] at e
  rw [e]
  show 0 - x.toInt = _
  omega
theorem mWm_1 {po fr : Int32} (hp : rg po 0 200) (hf : rg fr 0 90) : -po * (100 - fr) / 1000 = -(po * (100 - fr) / 1000) ∧ rg (-(po * (100 - fr) / 1000)) (-20) 0 := by
  obtain ⟨e, h1, h2⟩ := mWm_P hp hf
  have e3 : (po * (100 - fr) / 1000).toInt = (po.toInt * (100 - fr.toInt)).tdiv 1000 := by
    rw [div_i (by decide), e]
    rfl
  have b1 := td_hi (x := po.toInt * (100 - fr.toInt)) (y := 20000) (d := 1000) (by omega) (by omega) h2
  have b2 : 0 ≤ (po.toInt * (100 - fr.toInt)).tdiv 1000 := Int.tdiv_nonneg h1 (by omega)
  have e4 := neg_i (x := po * (100 - fr) / 1000) (by omega)
  refine ⟨Int32.toInt_inj.mp ?_, by omega, by omega⟩
  rw [e4, e3, Int32.neg_mul, div_i (by decide), neg_i (by omega), e, ← Int.neg_tdiv]
  rfl
theorem mWm_rg {po st fr : Int32} (hp : rg po 0 200) (hf : rg fr 0 90) : rg (mWm po st fr) (-20) 8 := by
  unfold mWm
  by_cases h1 : st = 1
  · rw [if_pos h1, (mWm_1 hp hf).1]
    have := (mWm_1 hp hf).2
    omega
  · rw [if_neg h1]
    by_cases h2 : st = 2
    · rw [if_pos h2]
      exact ⟨by decide, by decide⟩
    · rw [if_neg h2]
      exact ⟨by decide, by decide⟩
/-- how warm a room is after the hour -/
theorem hour_T {T out wall w S : Int32} {b : Int} (hb : 600 ≤ b) (hb2 : b ≤ 1000000) (hT : rg T (-b) b) (ho : rg out (-b) b) (hw : rg wall 0 20) (hm : rg w (-20) 8) (hS : -(b + T.toInt) ≤ 2 * S.toInt ∧ 2 * S.toInt ≤ b - T.toInt) : rg (T + ((out - T) * wall / 200 + S + w)) (-(b + 20)) (b + 20) := by
  have e1 : (out - T).toInt = out.toInt - T.toInt := sub_i (by omega) (by omega)
  have m1 := mul_hi (x := out.toInt - T.toInt) (w := wall.toInt) (y := b - T.toInt) (k := 20) hw.1 hw.2 (by omega) (by omega)
  have m2 := mul_lo (x := out.toInt - T.toInt) (w := wall.toInt) (y := b + T.toInt) (k := 20) hw.1 hw.2 (by omega) (by omega)
  have e2 : ((out - T) * wall).toInt = (out.toInt - T.toInt) * wall.toInt := by
    rw [mul_i (by rw [e1]; omega) (by rw [e1]; omega), e1]
  have e3 : ((out - T) * wall / 200).toInt = ((out.toInt - T.toInt) * wall.toInt).tdiv 200 := by
    rw [div_i (by decide), e2]
    rfl
  have d1 := td_hi (d := 200) (by omega) (show 0 ≤ (b - T.toInt) * 20 by omega) m1
  have d2 := td_lo (d := 200) (by omega) (show 0 ≤ (b + T.toInt) * 20 by omega) m2
  have e4 : ((out - T) * wall / 200 + S).toInt = ((out - T) * wall / 200).toInt + S.toInt := add_i (by omega) (by omega)
  have e5 : ((out - T) * wall / 200 + S + w).toInt = ((out - T) * wall / 200 + S).toInt + w.toInt := add_i (by omega) (by omega)
  have e6 : (T + ((out - T) * wall / 200 + S + w)).toInt = T.toInt + ((out - T) * wall / 200 + S + w).toInt := add_i (by omega) (by omega)
  exact ⟨by omega, by omega⟩
/-- how warm a pallet is after the hour -/
theorem hour_t {t T : Int32} {b : Int} (hb2 : b ≤ 1000000) (ht : rg t (-b) b) (hT : rg T (-b) b) : rg (t + (T - t) / 8) (-b) b := by
  have e1 : (T - t).toInt = T.toInt - t.toInt := sub_i (by omega) (by omega)
  have e2 : ((T - t) / 8).toInt = (T.toInt - t.toInt).tdiv 8 := by
    rw [div_i (by decide), e1]
    rfl
  have d1 := td_hi (x := T.toInt - t.toInt) (y := b - t.toInt) (d := 8) (by omega) (by omega) (by omega)
  have d2 := td_lo (x := T.toInt - t.toInt) (y := b + t.toInt) (d := 8) (by omega) (by omega) (by omega)
  have e3 : (t + (T - t) / 8).toInt = t.toInt + ((T - t) / 8).toInt := add_i (by omega) (by omega)
  exact ⟨by omega, by omega⟩
theorem div40 {t T : Int32} {b : Int} (hb2 : b ≤ 1000000) (ht : rg t (-b) b) (hT : rg T (-b) b) : -(b + T.toInt) ≤ 40 * ((t - T) / 40).toInt ∧ 40 * ((t - T) / 40).toInt ≤ b - T.toInt := by
  have e1 : (t - T).toInt = t.toInt - T.toInt := sub_i (by omega) (by omega)
  have e2 : ((t - T) / 40).toInt = (t.toInt - T.toInt).tdiv 40 := by
    rw [div_i (by decide), e1]
    rfl
  have d1 := td_hi (x := t.toInt - T.toInt) (y := b - T.toInt) (d := 40) (by omega) (by omega) (by omega)
  have d2 := td_lo (x := t.toInt - T.toInt) (y := b + T.toInt) (d := 40) (by omega) (by omega) (by omega)
  exact ⟨by omega, by omega⟩
theorem sum40 {F : Nat → Int32} {T : Int32} {b : Int} {n : Nat} (hn : n ≤ 20) (hb2 : b ≤ 1000000) (hT : rg T (-b) b) (h : ∀ j, j < n → -(b + T.toInt) ≤ 40 * (F j).toInt ∧ 40 * (F j).toInt ≤ b - T.toInt) : -(b + T.toInt) ≤ 2 * (sumJ F n).toInt ∧ 2 * (sumJ F n).toInt ≤ b - T.toInt := by
  obtain ⟨h1, h2⟩ := sumJ_rg (F := F) (y := (b - T.toInt) / 40) (z := (b + T.toInt) / 40) (by omega) (by omega) (by omega) (by omega) n hn (fun j hj => by have := h j hj; omega)
  have b1 := mul_hi (x := (n : Int)) (w := (b - T.toInt) / 40) (y := 20) (k := (b - T.toInt) / 40) (by omega) (by omega) (by omega) (by omega)
  have b2 := mul_hi (x := (n : Int)) (w := (b + T.toInt) / 40) (y := 20) (k := (b + T.toInt) / 40) (by omega) (by omega) (by omega) (by omega)
  omega
