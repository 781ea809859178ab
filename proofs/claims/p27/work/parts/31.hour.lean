/-! AN HOUR IN A ROOM: the class's way to the reference's state -/
theorem su_self {σ τ : Sg} {w : Nat} (h : ∀ k, k ≠ w → τ k = σ k) : su σ w (τ w) = τ := by
  funext k
  by_cases hk : k = w
  · subst hk
    exact su_s _ _ _
  · rw [su_n _ _ hk, h k hk]
theorem PlOk_congr {σ τ : Sg} {pl : Pl} (h : PlOk σ pl) (e10 : τ 10 = σ 10) (e11 : τ 11 = σ 11) (e17 : τ 17 = σ 17) (e19 : τ 19 = σ 19) : PlOk τ pl := by
  unfold PlOk nr nt rmo at *
  rw [e10, e11, e17, e19]
  exact h
theorem Rg_congr {σ τ : Sg} (h : Rg σ) (e : ∀ k, k ≠ 16 → k ≠ 1 → k ≠ 18 → k ≠ 19 → k ≠ 20 → k ≠ 21 → k ≠ 22 → τ k = σ k) (h16 : ∀ r, r < nr σ → rg (τ 16 (6 * r + 1)) 0 90) : Rg τ := by
  unfold Rg np nr at *
  rw [e 5 (by decide) (by decide) (by decide) (by decide) (by decide) (by decide) (by decide), e 6 (by decide) (by decide) (by decide) (by decide) (by decide) (by decide) (by decide), e 7 (by decide) (by decide) (by decide) (by decide) (by decide) (by decide) (by decide), e 8 (by decide) (by decide) (by decide) (by decide) (by decide) (by decide) (by decide), e 9 (by decide) (by decide) (by decide) (by decide) (by decide) (by decide) (by decide), e 10 (by decide) (by decide) (by decide) (by decide) (by decide) (by decide) (by decide), e 11 (by decide) (by decide) (by decide) (by decide) (by decide) (by decide) (by decide), e 12 (by decide) (by decide) (by decide) (by decide) (by decide) (by decide) (by decide), e 13 (by decide) (by decide) (by decide) (by decide) (by decide) (by decide) (by decide), e 14 (by decide) (by decide) (by decide) (by decide) (by decide) (by decide) (by decide), e 15 (by decide) (by decide) (by decide) (by decide) (by decide) (by decide) (by decide), e 2 (by decide) (by decide) (by decide) (by decide) (by decide) (by decide) (by decide), e 3 (by decide) (by decide) (by decide) (by decide) (by decide) (by decide) (by decide), e 4 (by decide) (by decide) (by decide) (by decide) (by decide) (by decide) (by decide)]
  exact ⟨h.1, fun r hr => ⟨(h.2.1 r hr).1, (h.2.1 r hr).2.1, (h.2.1 r hr).2.2.1, (h.2.1 r hr).2.2.2.1, (h.2.1 r hr).2.2.2.2.1, h16 r hr⟩, h.2.2⟩
abbrev coldP (σ : Sg) (r hh : Nat) : Prop := ¬ σ 15 r = 0 ∧ σ 4 hh = lowS σ
theorem cmp_25 {T aim : Int32} (hT : rg T (-1000000) 1000000) (ha : rg aim (-300) 150) : (T - aim < -25 ↔ T < aim - 25) ∧ (5 < T - aim ↔ aim + 5 < T) ∧ (T - aim < -5 ↔ T < aim - 5) := by
  have e1 : (T - aim).toInt = T.toInt - aim.toInt := sub_i (by omega) (by omega)
  have e2 : (aim - 25).toInt = aim.toInt - 25 := sub_i (b := 25) (by show -2 ^ 31 ≤ aim.toInt - 25; omega) (by show aim.toInt - 25 < 2 ^ 31; omega)
  have e3 : (aim + 5).toInt = aim.toInt + 5 := add_i (b := 5) (by show -2 ^ 31 ≤ aim.toInt + 5; omega) (by show aim.toInt + 5 < 2 ^ 31; omega)
  have e4 : (aim - 5).toInt = aim.toInt - 5 := sub_i (b := 5) (by show -2 ^ 31 ≤ aim.toInt - 5; omega) (by show aim.toInt - 5 < 2 ^ 31; omega)
  refine ⟨?_, ?_, ?_⟩
  · rw [Int32.lt_iff_toInt_lt, Int32.lt_iff_toInt_lt, e1, e2]
    show T.toInt - aim.toInt < -25 ↔ _
    omega
  · rw [Int32.lt_iff_toInt_lt, Int32.lt_iff_toInt_lt, e1, e3]
    show 5 < T.toInt - aim.toInt ↔ _
    omega
  · rw [Int32.lt_iff_toInt_lt, Int32.lt_iff_toInt_lt, e1, e4]
    show T.toInt - aim.toInt < -5 ↔ _
    omega
theorem smS_m {σ : Sg} {r hh : Nat} (hT : rg (σ 16 (6 * r)) (-1000000) 1000000) (ha : rg (σ 14 r) (-300) 150) : smS σ r hh 16 (6 * r + 2) = mSt (σ 16 (6 * r + 2)) (σ 16 (6 * r + 3)) (σ 16 (6 * r) - σ 14 r) (coldP σ r hh) ∧ smS σ r hh 16 (6 * r + 3) = mHl (σ 16 (6 * r + 2)) (σ 16 (6 * r + 3)) ∧ smS σ r hh 16 (6 * r + 1) = mFr (σ 16 (6 * r + 2)) (σ 16 (6 * r + 3)) (σ 16 (6 * r + 1)) ∧ ∀ j, ¬ (6 * r < j ∧ j < 6 * r + 4) → smS σ r hh 16 j = σ 16 j := by
  obtain ⟨q1, q2, q3⟩ := cmp_25 hT ha
  have u_ : ∀ (τ : Sg) (j : Nat) (x : Int32), (s1 τ 16 j x) 16 j = x := fun τ j x => upd_s _ _ _
  have n_ : ∀ (τ : Sg) (i j : Nat) (x : Int32), i ≠ j → (s1 τ 16 j x) 16 i = τ 16 i := fun τ i j x h => upd_n _ _ h
  unfold smS mSt mHl mFr
  by_cases c1 : σ 16 (6 * r + 2) = 2
  · simp only [if_pos c1, u_]
    by_cases c2 : σ 16 (6 * r + 3) - 1 ≤ 0
    · have c3 := Int32.not_lt.mpr c2
      simp only [if_pos c2, if_neg c3]
      refine ⟨u_ _ _ _, ?_, ?_, fun j hj => ?_⟩
      · rw [n_ _ _ _ _ (by omega), n_ _ _ _ _ (by omega), u_]
      · rw [n_ _ _ _ _ (by omega), u_]
      · rw [n_ _ _ _ _ (by omega), n_ _ _ _ _ (by omega), n_ _ _ _ _ (by omega)]
    · have c3 := Int32.not_le.mp c2
      simp only [if_neg c2, if_pos c3]
      refine ⟨?_, u_ _ _ _, ?_, fun j hj => ?_⟩
      · rw [n_ _ _ _ _ (by omega), c1]
      · rw [n_ _ _ _ _ (by omega)]
      · rw [n_ _ _ _ _ (by omega)]
  · simp only [if_neg c1, q1, q2, q3]
    by_cases c2 : ¬ σ 15 r = 0 ∧ σ 4 hh = lowS σ
    · simp only [if_pos c2]
      exact ⟨u_ _ _ _, n_ _ _ _ _ (by omega), n_ _ _ _ _ (by omega), fun j hj => n_ _ _ _ _ (by omega)⟩
    · simp only [if_neg c2]
      by_cases c3 : σ 14 r + 5 < σ 16 (6 * r)
      · simp only [if_pos c3]
        exact ⟨u_ _ _ _, n_ _ _ _ _ (by omega), n_ _ _ _ _ (by omega), fun j hj => n_ _ _ _ _ (by omega)⟩
      · simp only [if_neg c3]
        by_cases c4 : σ 16 (6 * r) < σ 14 r - 5
        · simp only [if_pos c4]
          exact ⟨u_ _ _ _, n_ _ _ _ _ (by omega), n_ _ _ _ _ (by omega), fun j hj => n_ _ _ _ _ (by omega)⟩
        · simp only [if_neg c4]
          exact ⟨trivial, trivial, trivial, fun _ _ => trivial⟩
theorem fC_sm {g : Gg} {ad : Ad} {σ : Sg} {pd : Int64} {pl : Pl} {sc : Sg} {h : Wd} {r hh : Nat} (hr : r < nr σ) (hT : rg (σ 16 (6 * r)) (-1000000) 1000000) (ha : rg (σ 14 r) (-300) 150) : up2 (fC g ad σ pd pl sc h) 9 r (.inr (1, [.int (σ 13 r), .int (mSt (σ 16 (6 * r + 2)) (σ 16 (6 * r + 3)) (σ 16 (6 * r) - σ 14 r) (coldP σ r hh)), .int (mHl (σ 16 (6 * r + 2)) (σ 16 (6 * r + 3))), .int (mFr (σ 16 (6 * r + 2)) (σ 16 (6 * r + 3)) (σ 16 (6 * r + 1))), .int (σ 16 (6 * r + 4))])) = fC g ad (smS σ r hh) pd pl sc h := by
  obtain ⟨m1, m2, m3, m4⟩ := smS_m (hh := hh) hT ha
  have e := fC_M (g := g) (ad := ad) (pd := pd) (pl := pl) (sc := sc) (h := h) hr (fn := smS σ r hh 16) m1 m2 m3 (m4 _ (by omega)) (fun j hj => m4 j (by omega))
  rw [su_self (fun k hk => smS_row σ r hh hk)] at e
  exact e
theorem Rg_sm {σ : Sg} {r hh : Nat} (h : Rg σ) (hr : r < nr σ) (hT : rg (σ 16 (6 * r)) (-1000000) 1000000) : Rg (smS σ r hh) := by
  obtain ⟨m1, m2, m3, m4⟩ := smS_m (hh := hh) hT (h.2.1 r hr).2.2.2.1
  refine Rg_congr h (fun k hk _ _ _ _ _ _ => smS_row σ r hh hk) (fun i hi => ?_)
  have h9 := (h.2.1 i hi).2.2.2.2.2
  by_cases hir : i = r
  · subst hir
    rw [m3]
    unfold mFr
    by_cases c1 : σ 16 (6 * i + 2) = 2
    · rw [if_pos c1]
      by_cases c2 : 0 < σ 16 (6 * i + 3) - 1
      · rw [if_pos c2]; exact h9
      · rw [if_neg c2]; exact ⟨by decide, by decide⟩
    · rw [if_neg c1]; exact h9
  · rw [m4 _ (by omega)]
    exact h9
theorem hBy3_eq {τ : Sg} {pl : Pl} {r hh : Nat} (hP : PlOk τ pl) (hR : Rg τ) (hr : r < nr τ) (hr6 : r < 6) : (outS τ (nI hh) - τ 16 (6 * r)) * τ 12 r / 200 + sumJ (fun j => atP (fun q => (τ 20 q - τ 16 (6 * r)) / 40) (pl r j)) (cN (τ 11 r)) + mWm (τ 13 r) (τ 16 (6 * r + 2)) (τ 16 (6 * r + 1)) = hBy3 τ r hh := by
  have e1 : hBy1 τ r hh = (outS τ (nI hh) - τ 16 (6 * r)) * τ 12 r / 200 + sumJ (fun j => atP (fun q => (τ 20 q - τ 16 (6 * r)) / 40) (pl r j)) (cN (τ 11 r)) := by
    unfold hBy1 hBy0
    rw [hWarm_sum, hP.sum hr hr6]
  rw [← e1]
  obtain ⟨-, -, k1, -, -, k2⟩ := hR.2.1 r hr
  unfold hBy3 hBy2 mWm
  by_cases c1 : τ 16 (6 * r + 2) = 1
  · rw [if_pos c1, if_pos c1, if_neg (by rw [c1]; decide), (mWm_1 k1 k2).1, ← Int32.sub_eq_add_neg]
  · rw [if_neg c1, if_neg c1]
    by_cases c2 : τ 16 (6 * r + 2) = 2
    · rw [if_pos c2, if_pos c2]
    · rw [if_neg c2, if_neg c2, Int32.add_zero]
theorem mn_comm (x y : Int32) : mn x y = mn y x := Int32.toInt_inj.mp (by rw [mn_i, mn_i]; omega)
theorem hOn_m (τ : Sg) (r : Nat) : hOn τ r 16 (6 * r + 2) = τ 16 (6 * r + 2) ∧ hOn τ r 16 (6 * r + 3) = τ 16 (6 * r + 3) ∧ hOn τ r 16 (6 * r + 1) = (if τ 16 (6 * r + 2) = 1 then mn (τ 16 (6 * r + 1) + 1) 90 else τ 16 (6 * r + 1)) ∧ hOn τ r 16 (6 * r + 4) = (if τ 16 (6 * r + 2) = 1 then τ 16 (6 * r + 4) + τ 13 r else τ 16 (6 * r + 4)) ∧ ∀ j, ¬ (6 * r < j ∧ j < 6 * r + 5) → hOn τ r 16 j = τ 16 j := by
  have u_ : ∀ (τ : Sg) (j : Nat) (x : Int32), (s1 τ 16 j x) 16 j = x := fun τ j x => upd_s _ _ _
  have n_ : ∀ (τ : Sg) (i j : Nat) (x : Int32), i ≠ j → (s1 τ 16 j x) 16 i = τ 16 i := fun τ i j x h => upd_n _ _ h
  unfold hOn
  by_cases c1 : τ 16 (6 * r + 2) = 1
  · simp only [if_pos c1]
    refine ⟨?_, ?_, ?_, ?_, fun j hj => ?_⟩
    · rw [n_ _ _ _ _ (by omega), n_ _ _ _ _ (by omega)]
    · rw [n_ _ _ _ _ (by omega), n_ _ _ _ _ (by omega)]
    · rw [u_, mn_comm]
    · rw [n_ _ _ _ _ (by omega), u_]
    · rw [n_ _ _ _ _ (by omega), n_ _ _ _ _ (by omega)]
  · simp only [if_neg c1]
    exact ⟨trivial, trivial, trivial, trivial, fun _ _ => trivial⟩
theorem hTm_row (τ : Sg) (r hh : Nat) {k : Nat} (hk : k ≠ 16) : hTm τ r hh k = τ k := (su_n _ _ hk).trans (hOn_row τ r hk)
theorem hTm_T (τ : Sg) (r hh : Nat) : hTm τ r hh 16 (6 * r) = τ 16 (6 * r) + hBy3 τ r hh := upd_s _ _ _
theorem hTm_n (τ : Sg) (r hh : Nat) {j : Nat} (hj : j ≠ 6 * r) : hTm τ r hh 16 j = hOn τ r 16 j := upd_n _ _ hj
theorem fC_tm {g : Gg} {ad : Ad} {τ : Sg} {pd : Int64} {pl : Pl} {sc : Sg} {h : Wd} {r hh : Nat} (hr : r < nr τ) : up2 (fC g ad (s1 τ 16 (6 * r) (τ 16 (6 * r) + hBy3 τ r hh)) pd pl sc h) 9 r (.inr (1, [.int (τ 13 r), .int (τ 16 (6 * r + 2)), .int (τ 16 (6 * r + 3)), .int (if τ 16 (6 * r + 2) = 1 then mn (τ 16 (6 * r + 1) + 1) 90 else τ 16 (6 * r + 1)), .int (if τ 16 (6 * r + 2) = 1 then τ 16 (6 * r + 4) + τ 13 r else τ 16 (6 * r + 4))])) = fC g ad (hTm τ r hh) pd pl sc h := by
  obtain ⟨m1, m2, m3, m4, m5⟩ := hOn_m τ r
  have e := fC_M (g := g) (ad := ad) (pd := pd) (pl := pl) (sc := sc) (h := h) (σ := s1 τ 16 (6 * r) (τ 16 (6 * r) + hBy3 τ r hh)) hr (fn := hTm τ r hh 16) ((hTm_n τ r hh (by omega)).trans m1) ((hTm_n τ r hh (by omega)).trans m2) ((hTm_n τ r hh (by omega)).trans m3) ((hTm_n τ r hh (by omega)).trans m4) (fun j hj => by
    by_cases hj0 : j = 6 * r
    · subst hj0
      rw [hTm_T]
      exact (upd_s _ _ _).symm
    · rw [hTm_n τ r hh hj0, m5 j hj]
      exact (upd_n _ _ hj0).symm)
  rw [su_self (fun k hk => (hTm_row τ r hh hk).trans (su_n _ _ hk).symm)] at e
  exact e
/-- the pallets of the first k places, warmed and aged -/
def hPl (pl : Pl) (υ : Sg) (r : Nat) : Nat → Sg
  | 0 => υ
  | k + 1 => match pl r k with
    | none => hPl pl υ r k
    | some q => s1 (s1 (hPl pl υ r k) 20 q (nTp υ r q)) 21 q (υ 21 q + (1 + offS υ (prd υ q) (nTp υ r q) / 10))
theorem hPl_N {pl : Pl} {υ : Sg} {r k : Nat} (h : pl r k = none) : hPl pl υ r (k + 1) = hPl pl υ r k := by
  rw [hPl, h]
theorem hPl_S {pl : Pl} {υ : Sg} {r k q : Nat} (h : pl r k = some q) : hPl pl υ r (k + 1) = s1 (s1 (hPl pl υ r k) 20 q (nTp υ r q)) 21 q (υ 21 q + (1 + offS υ (prd υ q) (nTp υ r q) / 10)) := by
  rw [hPl, h]
theorem hPl_row {pl : Pl} {υ : Sg} {r w : Nat} (h2 : w ≠ 20) (h3 : w ≠ 21) : ∀ k : Nat, hPl pl υ r k w = υ w
  | 0 => rfl
  | k + 1 => by
    cases hp : pl r k with
    | none => rw [hPl_N hp]; exact hPl_row h2 h3 k
    | some q => rw [hPl_S hp]; exact (su_n _ _ h3).trans ((su_n _ _ h2).trans (hPl_row h2 h3 k))
theorem s2_20 (τ : Sg) (q i : Nat) (x y : Int32) : s1 (s1 τ 20 q x) 21 q y 20 i = if i = q then x else τ 20 i := rfl
theorem s2_21 (τ : Sg) (q i : Nat) (x y : Int32) : s1 (s1 τ 20 q x) 21 q y 21 i = if i = q then y else τ 21 i := rfl
theorem hPl_out {pl : Pl} {υ : Sg} {r q : Nat} : ∀ k : Nat, (∀ j, j < k → ¬ pl r j = some q) → hPl pl υ r k 20 q = υ 20 q ∧ hPl pl υ r k 21 q = υ 21 q
  | 0, _ => ⟨rfl, rfl⟩
  | k + 1, h => by
    obtain ⟨i1, i2⟩ := hPl_out k (fun j hj => h j (by omega))
    cases hp : pl r k with
    | none => rw [hPl_N hp]; exact ⟨i1, i2⟩
    | some q' =>
      have hne : ¬ q = q' := fun z => h k (by omega) (by rw [hp, z])
      rw [hPl_S hp, s2_20, s2_21, if_neg hne, if_neg hne]
      exact ⟨i1, i2⟩
theorem hPl_in {pl : Pl} {υ : Sg} {r q j : Nat} : ∀ k : Nat, j < k → pl r j = some q → (∀ i, i < k → pl r i = some q → i = j) → hPl pl υ r k 20 q = nTp υ r q ∧ hPl pl υ r k 21 q = υ 21 q + (1 + offS υ (prd υ q) (nTp υ r q) / 10)
  | 0, h, _, _ => absurd h (Nat.not_lt_zero _)
  | k + 1, h, hj, hi => by
    by_cases hk : k = j
    · subst hk
      rw [hPl_S hj, s2_20, s2_21, if_pos rfl, if_pos rfl]
      exact ⟨rfl, rfl⟩
    · obtain ⟨i1, i2⟩ := hPl_in k (by omega) hj (fun i hik => hi i (by omega))
      cases hp : pl r k with
      | none => rw [hPl_N hp]; exact ⟨i1, i2⟩
      | some q' =>
        have hne : ¬ q = q' := fun z => hk (hi k (by omega) (by rw [hp, z]))
        rw [hPl_S hp, s2_20, s2_21, if_neg hne, if_neg hne]
        exact ⟨i1, i2⟩
theorem hPl_hPal {pl : Pl} {υ : Sg} {r : Nat} (hP : PlOk υ pl) (hr : r < nr υ) (hr6 : r < 6) : hPl pl υ r (cN (υ 11 r)) = hPal υ r (nt υ) := by
  funext w
  by_cases h20 : w = 20
  · subst h20
    funext q
    show _ = hPt υ r (nt υ) q
    unfold hPt
    by_cases hz : q < nt υ ∧ υ 19 q = nI r
    · obtain ⟨j, hj, hp⟩ := hP.at hr6 hz.1 hz.2
      rw [if_pos hz]
      exact (hPl_in _ hj hp (fun i hi hpi => hP.inj r i j q hr hi hj hpi hp)).1
    · rw [if_neg hz]
      exact (hPl_out _ (fun j hj hp => hz (hP.on r j q hr hj hp))).1
  · by_cases h21 : w = 21
    · subst h21
      funext q
      show _ = hAg υ r (nt υ) q
      unfold hAg
      by_cases hz : q < nt υ ∧ υ 19 q = nI r
      · obtain ⟨j, hj, hp⟩ := hP.at hr6 hz.1 hz.2
        rw [if_pos hz]
        exact (hPl_in _ hj hp (fun i hi hpi => hP.inj r i j q hr hi hj hpi hp)).2
      · rw [if_neg hz]
        exact (hPl_out _ (fun j hj hp => hz (hP.on r j q hr hj hp))).2
    · rw [hPl_row h20 h21, hPal_row _ _ _ h20 h21]
theorem hWm_hPal (υ : Sg) (r : Nat) : hPal (hWm υ r) r (nt (hWm υ r)) = if υ 14 r + 20 < υ 16 (6 * r) then s1 (hPal υ r (nt υ)) 16 (6 * r + 5) (υ 16 (6 * r + 5) + 1) else hPal υ r (nt υ) := by
  have ent : nt (hWm υ r) = nt υ := by
    show cN (hWm υ r 17 0) = cN (υ 17 0)
    rw [hWm_row _ _ (by decide)]
  rw [ent]
  by_cases c : υ 14 r + 20 < υ 16 (6 * r)
  · rw [if_pos c]
    have e : hWm υ r = s1 υ 16 (6 * r + 5) (υ 16 (6 * r + 5) + 1) := if_pos c
    rw [e]
    have eT : ∀ q, nTp (s1 υ 16 (6 * r + 5) (υ 16 (6 * r + 5) + 1)) r q = nTp υ r q := fun q => by
      unfold nTp
      rw [show (s1 υ 16 (6 * r + 5) (υ 16 (6 * r + 5) + 1)) 16 (6 * r) = υ 16 (6 * r) from upd_n _ _ (by omega)]
      rfl
    funext w
    by_cases h20 : w = 20
    · subst h20
      funext q
      show hPt _ r (nt υ) q = hPt υ r (nt υ) q
      unfold hPt
      rw [eT]
      rfl
    · by_cases h21 : w = 21
      · subst h21
        funext q
        show hAg _ r (nt υ) q = hAg υ r (nt υ) q
        unfold hAg
        rw [eT]
        rfl
      · rw [hPal_row _ _ _ h20 h21]
        by_cases h16 : w = 16
        · subst h16
          rfl
        · exact (su_n _ _ h16).trans ((hPal_row υ r (nt υ) h20 h21).symm.trans (su_n _ _ h16).symm)
  · rw [if_neg c, show hWm υ r = υ from if_neg c]
