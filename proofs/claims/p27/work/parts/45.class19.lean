/-! THE COLD STORE'S CALLS, seventh part: foretell, lasts -/
def hrsAt (σ : Sg) (r t0 : Nat) : Nat → Sg
  | 0 => σ
  | k + 1 => hourS (hrsAt σ r t0 k) r ((t0 + k) % 24)
theorem hrs_row {σ : Sg} {r t0 w : Nat} (h1 : w ≠ 16) (h2 : w ≠ 20) (h3 : w ≠ 21) : ∀ k : Nat, hrsAt σ r t0 k w = σ w
  | 0 => rfl
  | k + 1 => (hourS_row _ r _ h1 h2 h3).trans (hrs_row h1 h2 h3 k)
theorem hrs_nr {σ : Sg} {r t0 k : Nat} : nr (hrsAt σ r t0 k) = nr σ := congrArg cN (congrFun (hrs_row (by decide) (by decide) (by decide) k) 0)
theorem hrs_nt {σ : Sg} {r t0 k : Nat} : nt (hrsAt σ r t0 k) = nt σ := congrArg cN (congrFun (hrs_row (by decide) (by decide) (by decide) k) 0)
theorem hrs_keep {σ : Sg} {pl : Pl} {r t0 n : Nat} (h : Iv σ pl) (hB : Bn σ n) (hr : r < nr σ) : ∀ k : Nat, n + k ≤ 2600 → Iv (hrsAt σ r t0 k) pl ∧ Bn (hrsAt σ r t0 k) (n + k)
  | 0, _ => ⟨h, hB⟩
  | k + 1, hk => by
    obtain ⟨h1, h2⟩ := hrs_keep (t0 := t0) h hB hr k (by omega)
    exact hour_keep h1 h2 (by rw [hrs_nr]; exact hr) (show n + k ≤ 2600 by omega) (Nat.mod_lt _ (by decide))
theorem hrs_same {σ : Sg} {pl : Pl} {r t0 n : Nat} (h : Iv σ pl) (hB : Bn σ n) (hr : r < nr σ) : ∀ k : Nat, n + k ≤ 2600 → (∀ j, j < 6 * r ∨ 6 * r + 6 ≤ j → hrsAt σ r t0 k 16 j = σ 16 j) ∧ ∀ q, ¬ (q < nt σ ∧ σ 19 q = nI r) → hrsAt σ r t0 k 20 q = σ 20 q ∧ hrsAt σ r t0 k 21 q = σ 21 q
  | 0, _ => ⟨fun _ _ => rfl, fun _ _ => ⟨rfl, rfl⟩⟩
  | k + 1, hk => by
    obtain ⟨i1, i2⟩ := hrs_same (t0 := t0) h hB hr k (by omega)
    obtain ⟨h1, h2⟩ := hrs_keep (t0 := t0) h hB hr k (by omega)
    have hrk : r < nr (hrsAt σ r t0 k) := by rw [hrs_nr]; exact hr
    have hT := h2.1 r hrk
    refine ⟨fun j hj => ?_, fun q hq => ?_⟩
    · show hourS (hrsAt σ r t0 k) r ((t0 + k) % 24) 16 j = _
      rw [hour_out h1.2.2.1 hrk ⟨by omega, by omega⟩ hj]
      exact i1 j hj
    · have hq2 : ¬ (q < nt (hrsAt σ r t0 k) ∧ hrsAt σ r t0 k 19 q = nI r) := by
        rw [hrs_nt, hrs_row (by decide) (by decide) (by decide)]
        exact hq
      show hourS (hrsAt σ r t0 k) r ((t0 + k) % 24) 20 q = _ ∧ hourS (hrsAt σ r t0 k) r ((t0 + k) % 24) 21 q = _
      rw [hour_20, hour_21, if_neg hq2, if_neg hq2]
      exact i2 q hq
theorem scR_row {pl : Pl} {σ sc : Sg} {r w : Nat} (h6 : w ≠ 6) (h7 : w ≠ 7) : ∀ k : Nat, scR pl σ r sc k w = scB σ r sc w
  | 0 => rfl
  | k + 1 => by
    cases hp : pl r k with
    | none => rw [scR_N hp]; exact scR_row h6 h7 k
    | some q => rw [scR_S hp]; exact (su_n _ _ h7).trans ((su_n _ _ h6).trans (scR_row h6 h7 k))
theorem scR_in {pl : Pl} {σ sc : Sg} {r q j : Nat} : ∀ k : Nat, j < k → pl r j = some q → scR pl σ r sc k 6 q = σ 20 q ∧ scR pl σ r sc k 7 q = σ 21 q
  | 0, h, _ => absurd h (Nat.not_lt_zero _)
  | k + 1, h, hj => by
    cases hp : pl r k with
    | none =>
      rw [scR_N hp]
      by_cases hk : j = k
      · rw [hk, hp] at hj
        cases hj
      · exact scR_in k (by omega) hj
    | some q' =>
      rw [scR_S hp]
      show (if q = q' then σ 20 q' else scR pl σ r sc k 6 q) = _ ∧ (if q = q' then σ 21 q' else scR pl σ r sc k 7 q) = _
      by_cases hq : q = q'
      · rw [if_pos hq, if_pos hq, hq]
        exact ⟨rfl, rfl⟩
      · rw [if_neg hq, if_neg hq]
        have hk : ¬ j = k := fun z => by
          rw [z, hp] at hj
          exact hq (Option.some.inj hj).symm
        exact scR_in k (by omega) hj
theorem rcS_16 {pl : Pl} {τ sc : Sg} {r : Nat} : ∀ k : Nat, rcS pl τ r sc k 16 = rcB τ r sc 16
  | 0 => rfl
  | k + 1 => by
    cases hp : pl r k with
    | none => rw [rcS_N hp]; exact rcS_16 k
    | some q => rw [rcS_S hp]; exact rcS_16 k
theorem rcS_out {pl : Pl} {τ sc : Sg} {r q : Nat} : ∀ k : Nat, (∀ j, j < k → ¬ pl r j = some q) → rcS pl τ r sc k 20 q = τ 20 q ∧ rcS pl τ r sc k 21 q = τ 21 q
  | 0, _ => ⟨rfl, rfl⟩
  | k + 1, h => by
    obtain ⟨i1, i2⟩ := rcS_out (τ := τ) (sc := sc) k (fun j hj => h j (by omega))
    cases hp : pl r k with
    | none => rw [rcS_N hp]; exact ⟨i1, i2⟩
    | some q' =>
      have hne : ¬ q = q' := fun z => h k (by omega) (by rw [hp, z])
      rw [rcS_S hp, s2_20, s2_21, if_neg hne, if_neg hne]
      exact ⟨i1, i2⟩
theorem rcS_in {pl : Pl} {τ sc : Sg} {r q j : Nat} : ∀ k : Nat, j < k → pl r j = some q → rcS pl τ r sc k 20 q = sc 6 q ∧ rcS pl τ r sc k 21 q = sc 7 q
  | 0, h, _ => absurd h (Nat.not_lt_zero _)
  | k + 1, h, hj => by
    cases hp : pl r k with
    | none =>
      rw [rcS_N hp]
      by_cases hk : j = k
      · rw [hk, hp] at hj
        cases hj
      · exact rcS_in k (by omega) hj
    | some q' =>
      rw [rcS_S hp, s2_20, s2_21]
      by_cases hq : q = q'
      · rw [if_pos hq, if_pos hq, hq]
        exact ⟨rfl, rfl⟩
      · rw [if_neg hq, if_neg hq]
        have hk : ¬ j = k := fun z => by
          rw [z, hp] at hj
          exact hq (Option.some.inj hj).symm
        exact rcS_in k (by omega) hj
/-- what was played through is taken back -/
theorem rc_back {σ τ sc : Sg} {pl : Pl} {r : Nat} (hP : PlOk σ pl) (hr : r < nr σ) (hr6 : r < 6) (hrow : ∀ w, w ≠ 16 → w ≠ 20 → w ≠ 21 → τ w = σ w) (h16 : ∀ j, j < 6 * r ∨ 6 * r + 6 ≤ j → τ 16 j = σ 16 j) (h20 : ∀ q, ¬ (q < nt σ ∧ σ 19 q = nI r) → τ 20 q = σ 20 q ∧ τ 21 q = σ 21 q) : rcS pl τ r (scR pl σ r sc (cN (σ 11 r))) (cN (σ 11 r)) = σ := by
  have b0 : scB σ r sc 0 r = σ 16 (6 * r) := upd_s _ _ _
  have b1 : scB σ r sc 1 r = σ 16 (6 * r + 5) := upd_s _ _ _
  have b2 : scB σ r sc 2 r = σ 16 (6 * r + 2) := upd_s _ _ _
  have b3 : scB σ r sc 3 r = σ 16 (6 * r + 3) := upd_s _ _ _
  have b4 : scB σ r sc 4 r = σ 16 (6 * r + 1) := upd_s _ _ _
  have b5 : scB σ r sc 5 r = σ 16 (6 * r + 4) := upd_s _ _ _
  funext w
  by_cases w16 : w = 16
  · subst w16
    rw [rcS_16]
    funext j
    show (if j = 6 * r + 5 then scR pl σ r sc (cN (σ 11 r)) 1 r else if j = 6 * r then scR pl σ r sc (cN (σ 11 r)) 0 r else rcF τ r (scR pl σ r sc (cN (σ 11 r))) j) = σ 16 j
    unfold rcF
    rw [scR_row (w := 0) (by decide) (by decide), scR_row (w := 1) (by decide) (by decide), scR_row (w := 2) (by decide) (by decide), scR_row (w := 3) (by decide) (by decide), scR_row (w := 4) (by decide) (by decide), scR_row (w := 5) (by decide) (by decide), b0, b1, b2, b3, b4, b5]
    by_cases c5 : j = 6 * r + 5
    · rw [if_pos c5, c5]
    · rw [if_neg c5]
      by_cases c0 : j = 6 * r
      · rw [if_pos c0, c0]
      · rw [if_neg c0]
        by_cases c2 : j = 6 * r + 2
        · rw [if_pos c2, c2]
        · rw [if_neg c2]
          by_cases c3 : j = 6 * r + 3
          · rw [if_pos c3, c3]
          · rw [if_neg c3]
            by_cases c1 : j = 6 * r + 1
            · rw [if_pos c1, c1]
            · rw [if_neg c1]
              by_cases c4 : j = 6 * r + 4
              · rw [if_pos c4, c4]
              · rw [if_neg c4]
                exact h16 j (by omega)
  · have key : ∀ q, rcS pl τ r (scR pl σ r sc (cN (σ 11 r))) (cN (σ 11 r)) 20 q = σ 20 q ∧ rcS pl τ r (scR pl σ r sc (cN (σ 11 r))) (cN (σ 11 r)) 21 q = σ 21 q := fun q => by
      by_cases hz : q < nt σ ∧ σ 19 q = nI r
      · obtain ⟨j, hj, hp⟩ := hP.at hr6 hz.1 hz.2
        obtain ⟨e1, e2⟩ := rcS_in (τ := τ) (sc := scR pl σ r sc (cN (σ 11 r))) (cN (σ 11 r)) hj hp
        obtain ⟨e3, e4⟩ := scR_in (σ := σ) (sc := sc) (cN (σ 11 r)) hj hp
        exact ⟨e1.trans e3, e2.trans e4⟩
      · obtain ⟨e1, e2⟩ := rcS_out (τ := τ) (sc := scR pl σ r sc (cN (σ 11 r))) (cN (σ 11 r)) (fun j hj hp => hz (hP.on r j q hr hj hp))
        obtain ⟨e3, e4⟩ := h20 q hz
        exact ⟨e1.trans e3, e2.trans e4⟩
    by_cases w20 : w = 20
    · subst w20
      funext q
      exact (key q).1
    · by_cases w21 : w = 21
      · subst w21
        funext q
        exact (key q).2
      · rw [rcS_row w16 w20 w21]
        exact hrow w w16 w20 w21
theorem hrs_back {σ sc : Sg} {pl : Pl} {r t0 n k : Nat} (h : Iv σ pl) (hB : Bn σ n) (hr : r < nr σ) (hk : n + k ≤ 2600) : rcS pl (hrsAt σ r t0 k) r (scR pl σ r sc (cN (σ 11 r))) (cN (hrsAt σ r t0 k 11 r)) = σ := by
  rw [hrs_row (w := 11) (by decide) (by decide) (by decide)]
  obtain ⟨h1, h2⟩ := hrs_same (t0 := t0) h hB hr k hk
  exact rc_back h.2.1 hr (by have := h.1.2.2.2.1; omega) (fun w a b c => hrs_row a b c k) h1 h2
theorem ahL_hrs {σ : Sg} {r t0 : Nat} : ∀ (n k : Nat) (x : Sg × Int64), x.1 = hrsAt σ r t0 k → (ahL r (-1) t0 n k x).2.1 = hrsAt σ r t0 (k + n)
  | 0, k, x, h => h
  | n + 1, k, x, h => by
    rw [ahL_1 (Or.inl rfl), ahL_hrs n (k + 1) _ (by show hourS x.1 r ((t0 + k) % 24) = hrsAt σ r t0 (k + 1); rw [h]; rfl)]
    rw [show k + 1 + n = k + (n + 1) by omega]
theorem rsFO_eq {σ : Sg} {pd : Int64} {r w : Nat} : (aheadS σ pd r w (-1)).2.1 = hrsAt σ r (cN (σ 1 0)) w := by
  unfold aheadS
  rw [ahL_hrs w 0 _ rfl, Nat.zero_add]
