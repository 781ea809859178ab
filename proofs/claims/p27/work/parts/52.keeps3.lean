/-! WHAT EACH CALL KEEPS, third part: a new room, a new pallet -/
section KEEPS3
variable {σ : Sg} {pl pl' : Pl}
theorem nr_AR {a wa po aim : Int32} (h10 : σ 10 0 = nI (nr σ)) (h6 : nr σ < 6) : nr (stAR σ a wa po aim) = nr σ + 1 := by
  show cN (σ 10 0 + 1) = nr σ + 1
  conv => lhs; rw [h10, nI_1]
  exact cN_nI (by omega)
theorem keepAR {a wa po aim : Int32} {n : Nat} (h : Iv σ pl) (hB : Bn σ n) (hk : kdAR σ a wa po aim = 0) (hP : PlOk (stAR σ a wa po aim) pl') : Iv (stAR σ a wa po aim) pl' ∧ Bn (stAR σ a wa po aim) n := by
  obtain ⟨⟨q1, q2, q3, q4⟩, q6⟩ := kd_2 hk
  obtain ⟨hok, -, hR, hF⟩ := h
  obtain ⟨h17, h60, h10, h6, h5, h12, hpr, hrm⟩ := id hok
  have hn : nr σ < 6 := by
    by_cases c : nr σ = 6
    · exact absurd (by rw [h10, c]; rfl) q6
    · omega
  have en := nr_AR (a := a) (wa := wa) (po := po) (aim := aim) h10 hn
  have e16 : ∀ j : Nat, stAR σ a wa po aim 16 j = if j = 6 * nr σ then 150 else σ 16 j := fun j => rfl
  obtain ⟨f1, f2⟩ := hF.2 (nr σ) (Nat.le_refl _)
  refine ⟨⟨⟨h17, h60, ?_, by rw [en]; omega, h5, h12, hpr, fun q hq hne => ?_⟩, hP, ⟨hR.1, fun r hr => ?_, hR.2.2⟩, ⟨hF.1, fun r hr => ?_⟩⟩, ⟨fun r hr => ?_, hB.2⟩⟩
  · rw [en]
    show σ 10 0 + 1 = nI (nr σ + 1)
    conv => lhs; rw [h10, nI_1]
  · have := hrm q hq hne
    rw [en]
    exact ⟨this.1, Nat.lt_succ_of_lt this.2⟩
  · rw [en] at hr
    rw [e16, if_neg (by omega)]
    show rg (if r = nr σ then a else σ 11 r) 1 20 ∧ rg (if r = nr σ then wa else σ 12 r) 1 20 ∧ rg (if r = nr σ then po else σ 13 r) 0 200 ∧ rg (if r = nr σ then aim else σ 14 r) (-300) 150 ∧ (σ 15 r = 0 ∨ σ 15 r = 1) ∧ rg (σ 16 (6 * r + 1)) 0 90
    by_cases c : r = nr σ
    · rw [if_pos c, if_pos c, if_pos c, if_pos c, c]
      refine ⟨rg_of (lo := 1) (hi := 20) rfl rfl q1, rg_of (lo := 1) (hi := 20) rfl rfl q2, rg_of (lo := 0) (hi := 200) rfl rfl q3, rg_of (lo := -300) (hi := 150) rfl rfl q4, Or.inl f1, ?_⟩
      rw [f2 1 (by omega) (by omega)]
      exact ⟨by decide, by decide⟩
    · rw [if_neg c, if_neg c, if_neg c, if_neg c]
      exact hR.2.1 r (by omega)
  · rw [en] at hr
    refine ⟨(hF.2 r (by omega)).1, fun j h1 h2 => ?_⟩
    rw [e16, if_neg (by omega)]
    exact (hF.2 r (by omega)).2 j h1 h2
  · rw [en] at hr
    rw [e16]
    by_cases c : r = nr σ
    · rw [if_pos (by omega)]
      have z : (150 : Int32).toInt = 150 := rfl
      omega
    · rw [if_neg (by omega)]
      exact hB.1 r (by omega)
theorem nt_AV {u v t9 : Int32} (h17 : σ 17 0 = nI (nt σ)) (h60 : nt σ < 60) : nt (stAV σ u v t9) = nt σ + 1 := by
  show cN (σ 17 0 + 1) = nt σ + 1
  conv => lhs; rw [h17, nI_1]
  exact cN_nI (by omega)
theorem kd_AV {u v t9 : Int32} (hk : kdAV σ u v t9 = 0) : ((0 ≤ u ∧ u ≤ σ 5 0 - 1) ∧ (0 ≤ v ∧ v ≤ σ 10 0 - 1)) ∧ (-300 ≤ t9 ∧ t9 ≤ 400) ∧ reasonS σ (cN u) (cN v) = 0 ∧ ¬ σ 17 0 = 60 := by
  unfold kdAV at hk
  by_cases c1 : (0 ≤ u ∧ u ≤ σ 5 0 - 1) ∧ (0 ≤ v ∧ v ≤ σ 10 0 - 1)
  · rw [if_pos c1] at hk
    by_cases c2 : -300 ≤ t9 ∧ t9 ≤ 400
    · rw [if_pos c2] at hk
      by_cases c3 : reasonS σ (cN u) (cN v) = 0 ∧ ¬ σ 17 0 = 60
      · exact ⟨c1, c2, c3⟩
      · rw [if_neg c3] at hk
        exact absurd hk (by decide)
    · rw [if_neg c2] at hk
      exact absurd hk (by decide)
  · rw [if_neg c1] at hk
    exact absurd hk (by decide)
theorem keepAV {u v t9 : Int32} {n : Nat} (h : Iv σ pl) (hB : Bn σ n) (hk : kdAV σ u v t9 = 0) (hP : PlOk (stAV σ u v t9) pl') : Iv (stAV σ u v t9) pl' ∧ Bn (stAV σ u v t9) n := by
  obtain ⟨⟨q1, q2⟩, q3, -, q6⟩ := kd_AV hk
  obtain ⟨hok, -, hR, hF⟩ := h
  obtain ⟨h17, h60, h10, h6, h5, h12, hpr, hrm⟩ := id hok
  have hn : nt σ < 60 := by
    by_cases c : nt σ = 60
    · exact absurd (by rw [h17, c]; rfl) q6
    · omega
  have en := nt_AV (u := u) (v := v) (t9 := t9) h17 hn
  obtain ⟨i, hi, rfl⟩ := (in_cnt h5 (by omega)).mp q1
  obtain ⟨r, hr, rfl⟩ := (in_cnt h10 (by omega)).mp q2
  have e18 : ∀ q : Nat, stAV σ (nI i) (nI r) t9 18 q = if q = nt σ then nI i else σ 18 q := fun q => rfl
  have e19 : ∀ q : Nat, stAV σ (nI i) (nI r) t9 19 q = if q = nt σ then nI r else σ 19 q := fun q => rfl
  have e20 : ∀ q : Nat, stAV σ (nI i) (nI r) t9 20 q = if q = nt σ then t9 else σ 20 q := fun q => rfl
  refine ⟨⟨⟨?_, by rw [en]; omega, h10, h6, h5, h12, fun q hq => ?_, fun q hq hne => ?_⟩, hP, hR, ⟨fun q hq => ?_, hF.2⟩⟩, ⟨hB.1, fun q hq => ?_⟩⟩
  · rw [en]
    show σ 17 0 + 1 = nI (nt σ + 1)
    conv => lhs; rw [h17, nI_1]
  · rw [en] at hq
    show stAV σ (nI i) (nI r) t9 18 q = nI (cN (stAV σ (nI i) (nI r) t9 18 q)) ∧ cN (stAV σ (nI i) (nI r) t9 18 q) < np σ
    rw [e18]
    by_cases c : q = nt σ
    · rw [if_pos c, cN_nI (by omega)]
      exact ⟨rfl, hi⟩
    · rw [if_neg c]
      exact hpr q (by omega)
  · rw [en] at hq
    rw [e19] at hne
    show stAV σ (nI i) (nI r) t9 19 q = nI (cN (stAV σ (nI i) (nI r) t9 19 q)) ∧ cN (stAV σ (nI i) (nI r) t9 19 q) < nr σ
    rw [e19]
    by_cases c : q = nt σ
    · rw [if_pos c, cN_nI (by omega)]
      exact ⟨rfl, hr⟩
    · rw [if_neg c] at hne ⊢
      exact hrm q (by omega) hne
  · rw [en] at hq
    exact hF.1 q (by omega)
  · rw [en] at hq
    rw [e20]
    show _ ∧ rg (σ 21 q) 0 _
    by_cases c : q = nt σ
    · rw [if_pos c, c, hF.1 (nt σ) (Nat.le_refl _)]
      have : rg t9 (-300) 400 := rg_of (lo := -300) (hi := 400) rfl rfl q3
      have z : (0 : Int32).toInt = 0 := rfl
      omega
    · rw [if_neg c]
      exact hB.2 q (by omega)
end KEEPS3
