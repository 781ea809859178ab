/-! WHAT STAYS over an hour -/
def Bn (σ : Sg) (n : Nat) : Prop := (∀ r, r < nr σ → rg (σ 16 (6 * r)) (-(600 + 20 * (n : Int))) (600 + 20 * (n : Int))) ∧ ∀ q, q < nt σ → rg (σ 20 q) (-(600 + 20 * (n : Int))) (600 + 20 * (n : Int)) ∧ rg (σ 21 q) 0 (6000 * (n : Int))
/-- rows that nothing has touched yet -/
def Fr (σ : Sg) : Prop := (∀ q, nt σ ≤ q → σ 21 q = 0) ∧ ∀ r, nr σ ≤ r → σ 15 r = 0 ∧ ∀ i, 1 ≤ i → i < 6 → σ 16 (6 * r + i) = 0
def Iv (σ : Sg) (pl : Pl) : Prop := OkP σ ∧ PlOk σ pl ∧ Rg σ ∧ Fr σ
section KEEP
variable {σ : Sg} {pl : Pl} {r hh n : Nat}
theorem hUp_e (σ : Sg) (r hh : Nat) : hUp σ r hh = hWm (hTm (smS σ r hh) r hh) r := rfl
theorem hWm_16 (υ : Sg) (r : Nat) {j : Nat} (hj : j ≠ 6 * r + 5) : hWm υ r 16 j = υ 16 j := by
  unfold hWm
  by_cases c : υ 14 r + 20 < υ 16 (6 * r)
  · rw [if_pos c]
    exact upd_n _ _ hj
  · rw [if_neg c]
theorem hour_16 (σ : Sg) (r hh : Nat) {j : Nat} (hj : j ≠ 6 * r + 5) : hourS σ r hh 16 j = hTm (smS σ r hh) r hh 16 j := by
  unfold hourS
  rw [hPal_row _ _ _ (by decide) (by decide), hUp_e, hWm_16 _ _ hj]
theorem hour_out (hR : Rg σ) (hr : r < nr σ) (hT : rg (σ 16 (6 * r)) (-1000000) 1000000) {j : Nat} (hj : j < 6 * r ∨ 6 * r + 6 ≤ j) : hourS σ r hh 16 j = σ 16 j := by
  rw [hour_16 σ r hh (by omega), hTm_n _ _ _ (by omega), (hOn_m _ r).2.2.2.2 j (by omega), (smS_m hT (hR.2.1 r hr).2.2.2.1).2.2.2 j (by omega)]
theorem hour_nt : nt (hourS σ r hh) = nt σ := congrArg cN (congrFun (hourS_row σ r hh (by decide) (by decide) (by decide)) 0)
theorem hour_nr : nr (hourS σ r hh) = nr σ := congrArg cN (congrFun (hourS_row σ r hh (by decide) (by decide) (by decide)) 0)
theorem hUp_nt : nt (hUp σ r hh) = nt σ := congrArg cN (congrFun (hUp_row σ r hh (by decide)) 0)
theorem hUp_T : hUp σ r hh 16 (6 * r) = hTm (smS σ r hh) r hh 16 (6 * r) := by
  rw [hUp_e, hWm_16 _ _ (by omega)]
theorem hour_20 (q : Nat) : hourS σ r hh 20 q = if q < nt σ ∧ σ 19 q = nI r then σ 20 q + (hTm (smS σ r hh) r hh 16 (6 * r) - σ 20 q) / 8 else σ 20 q := by
  show hPt (hUp σ r hh) r (nt (hUp σ r hh)) q = _
  unfold hPt nTp
  rw [hUp_nt, hUp_row σ r hh (k := 19) (by decide), hUp_row σ r hh (k := 20) (by decide), hUp_T]
theorem hour_21 (q : Nat) : hourS σ r hh 21 q = if q < nt σ ∧ σ 19 q = nI r then σ 21 q + (1 + offS σ (prd σ q) (σ 20 q + (hTm (smS σ r hh) r hh 16 (6 * r) - σ 20 q) / 8) / 10) else σ 21 q := by
  show hAg (hUp σ r hh) r (nt (hUp σ r hh)) q = _
  unfold hAg nTp offS prd
  rw [hUp_nt, hUp_row σ r hh (k := 19) (by decide), hUp_row σ r hh (k := 20) (by decide), hUp_row σ r hh (k := 21) (by decide), hUp_row σ r hh (k := 18) (by decide), hUp_row σ r hh (k := 6) (by decide), hUp_row σ r hh (k := 7) (by decide), hUp_T]
theorem age_i {x o : Int32} {n : Nat} (hn : n ≤ 2600) (hx : rg x 0 (6000 * (n : Int))) (ho : rg o 0 54000) : rg (x + (1 + o / 10)) 0 (6000 * ((n + 1 : Nat) : Int)) := by
  have e1 : (o / 10).toInt = o.toInt.tdiv 10 := by
    rw [div_i (by decide)]
    rfl
  have d1 := td_hi (x := o.toInt) (y := 54000) (d := 10) (by omega) (by omega) ho.2
  have d2 : 0 ≤ o.toInt.tdiv 10 := Int.tdiv_nonneg ho.1 (by omega)
  have z1 : (1 : Int32).toInt = 1 := rfl
  have e2 : (1 + o / 10).toInt = 1 + (o / 10).toInt := add_i (a := 1) (by omega) (by omega)
  have e3 : (x + (1 + o / 10)).toInt = x.toInt + (1 + o / 10).toInt := add_i (by omega) (by omega)
  omega
theorem hour_keep (h : Iv σ pl) (hB : Bn σ n) (hr : r < nr σ) (hn : n ≤ 2600) (hh24 : hh < 24) : Iv (hourS σ r hh) pl ∧ Bn (hourS σ r hh) (n + 1) := by
  obtain ⟨hok, hP, hR, hF⟩ := h
  obtain ⟨h17, h60, h10, h6, h5, h12, hpr, hrm⟩ := id hok
  have row : ∀ k, k ≠ 16 → k ≠ 20 → k ≠ 21 → hourS σ r hh k = σ k := fun k h1 h2 h3 => hourS_row σ r hh h1 h2 h3
  have hT := hB.1 r hr
  have hT6 : rg (σ 16 (6 * r)) (-1000000) 1000000 := ⟨by omega, by omega⟩
  have hou := out_rg hR (b := 600 + 20 * (n : Int)) (by omega) hh hh24
  have hTU := hour_TT (hh := hh) hP hR hr (by omega) (b := 600 + 20 * (n : Int)) (by omega) (by omega) hT (fun q hq _ => (hB.2 q hq).1) hou
  have hRT := Rg_sm (hh := hh) hR hr hT6
  have hrT : r < nr (smS σ r hh) := by
    show r < cN (smS σ r hh 10 0)
    rw [smS_row σ r hh (by decide)]
    exact hr
  refine ⟨⟨OkP_hour hok r hh, PlOk_congr hP (row _ (by decide) (by decide) (by decide)) (row _ (by decide) (by decide) (by decide)) (row _ (by decide) (by decide) (by decide)) (row _ (by decide) (by decide) (by decide)), ?_, ?_⟩, ?_, ?_⟩
  · refine Rg_congr hR (fun k h1 _ _ _ h4 h5 _ => row k h1 h4 h5) (fun i hi => ?_)
    by_cases hir : i = r
    · subst hir
      have h9 := (hRT.2.1 i hrT).2.2.2.2.2
      rw [hour_16 _ _ _ (by omega), hTm_n _ _ _ (by omega), (hOn_m _ i).2.2.1]
      by_cases c : smS σ i hh 16 (6 * i + 2) = 1
      · rw [if_pos c]
        have z1 : (1 : Int32).toInt = 1 := rfl
        have z9 : (90 : Int32).toInt = 90 := rfl
        have e1 : (smS σ i hh 16 (6 * i + 1) + 1).toInt = (smS σ i hh 16 (6 * i + 1)).toInt + 1 := add_i (b := 1) (by omega) (by omega)
        have e2 := mn_i (smS σ i hh 16 (6 * i + 1) + 1) 90
        omega
      · rw [if_neg c]
        exact h9
    · rw [hour_out hR hr hT6 (by omega)]
      exact (hR.2.1 i hi).2.2.2.2.2
  · refine ⟨fun q hq => ?_, fun i hi => ?_⟩
    · rw [hour_nt] at hq
      rw [hour_21, if_neg (fun z => by omega)]
      exact hF.1 q hq
    · rw [hour_nr] at hi
      refine ⟨?_, fun j h1 h2 => ?_⟩
      · rw [row 15 (by decide) (by decide) (by decide)]
        exact (hF.2 i hi).1
      · rw [hour_out hR hr hT6 (by omega)]
        exact (hF.2 i hi).2 j h1 h2
  · intro i hi
    rw [hour_nr] at hi
    by_cases hir : i = r
    · subst hir
      rw [hour_16 _ _ _ (by omega)]
      omega
    · rw [hour_out hR hr hT6 (by omega)]
      have := hB.1 i hi
      omega
  · intro q hq
    rw [hour_nt] at hq
    have hq1 := hB.2 q hq
    have ht := hour_t (t := σ 20 q) (T := hTm (smS σ r hh) r hh 16 (6 * r)) (b := 600 + 20 * (n : Int) + 20) (by omega) (by omega) hTU
    rw [hour_20, hour_21]
    by_cases c : q < nt σ ∧ σ 19 q = nI r
    · rw [if_pos c, if_pos c]
      refine ⟨by omega, age_i hn hq1.2 ?_⟩
      have := off_i hR (hpr q hq).2 (b := 600 + 20 * (n : Int) + 20) (by omega) (by omega) ht
      omega
    · rw [if_neg c, if_neg c]
      omega
/-- in the midst of an hour: the first k rooms have had it -/
def hd (k : Nat) (σ : Sg) (q : Nat) : Nat := if σ 19 q = -1 ∨ rmo σ q < k then 1 else 0
def BnK (σ : Sg) (n k : Nat) : Prop := (∀ r, r < nr σ → rg (σ 16 (6 * r)) (-(600 + 20 * ((n + if r < k then 1 else 0 : Nat) : Int))) (600 + 20 * ((n + if r < k then 1 else 0 : Nat) : Int))) ∧ ∀ q, q < nt σ → rg (σ 20 q) (-(600 + 20 * ((n + hd k σ q : Nat) : Int))) (600 + 20 * ((n + hd k σ q : Nat) : Int)) ∧ rg (σ 21 q) 0 (6000 * ((n + hd k σ q : Nat) : Int))
theorem BnK_0 (h : Bn σ n) : BnK σ n 0 := ⟨fun r hr => by
    have := h.1 r hr
    rw [if_neg (Nat.not_lt_zero _)]
    exact this, fun q hq => by
    have := h.2 q hq
    omega⟩
theorem hd_1 (k : Nat) (σ : Sg) (q : Nat) : hd k σ q ≤ 1 := by
  unfold hd
  by_cases h : σ 19 q = -1 ∨ rmo σ q < k
  · rw [if_pos h]; exact Nat.le_refl _
  · rw [if_neg h]; exact Nat.zero_le _
theorem BnK_1 {k : Nat} (h : BnK σ n k) : Bn σ (n + 1) := ⟨fun r hr => by
    have := h.1 r hr
    by_cases c : r < k
    · rw [if_pos c] at this
      exact this
    · rw [if_neg c] at this
      omega, fun q hq => by
    have := h.2 q hq
    have := hd_1 k σ q
    omega⟩
theorem hour_keepK (h : Iv σ pl) (hB : BnK σ n r) (hr : r < nr σ) (hn : n ≤ 2600) (hh24 : hh < 24) : BnK (hourS σ r hh) n (r + 1) := by
  obtain ⟨hok, hP, hR, hF⟩ := h
  obtain ⟨h17, h60, h10, h6, h5, h12, hpr, hrm⟩ := id hok
  have hT := hB.1 r hr
  rw [if_neg (Nat.lt_irrefl r)] at hT
  have hT6 : rg (σ 16 (6 * r)) (-1000000) 1000000 := ⟨by omega, by omega⟩
  have hou := out_rg hR (b := 600 + 20 * (n : Int)) (by omega) hh hh24
  have hz : ∀ q, q < nt σ → σ 19 q = nI r → hd r σ q = 0 := fun q hq e => by
    refine if_neg (fun z => ?_)
    rcases z with z | z
    · rw [e] at z
      exact absurd (nI_nn (show r < 2 ^ 31 by omega)) (by rw [z]; decide)
    · have : rmo σ q = r := by
        show cN (σ 19 q) = r
        rw [e]
        exact cN_nI (by omega)
      omega
  have hTU := hour_TT (hh := hh) hP hR hr (by omega) (b := 600 + 20 * (n : Int)) (by omega) (by omega) hT (fun q hq e => by
    have := (hB.2 q hq).1
    rw [hz q hq e] at this
    exact this) hou
  have e19 : ∀ q, hourS σ r hh 19 q = σ 19 q := fun q => congrFun (hourS_row σ r hh (by decide) (by decide) (by decide)) q
  refine ⟨fun i hi => ?_, fun q hq => ?_⟩
  · rw [hour_nr] at hi
    by_cases hir : i = r
    · subst hir
      rw [hour_16 _ _ _ (by omega), if_pos (Nat.lt_succ_self _)]
      omega
    · rw [hour_out hR hr hT6 (by omega)]
      have := hB.1 i hi
      by_cases c : i < r
      · rw [if_pos c] at this
        rw [if_pos (by omega)]
        exact this
      · rw [if_neg c] at this
        rw [if_neg (by omega)]
        exact this
  · rw [hour_nt] at hq
    have hq1 := hB.2 q hq
    rw [hour_20, hour_21]
    by_cases c : q < nt σ ∧ σ 19 q = nI r
    · rw [if_pos c, if_pos c]
      rw [hz q hq c.2] at hq1
      have e1 : hd (r + 1) (hourS σ r hh) q = 1 := by
        refine if_pos (Or.inr ?_)
        show cN (hourS σ r hh 19 q) < r + 1
        rw [e19, c.2, cN_nI (by omega)]
        exact Nat.lt_succ_self _
      rw [e1]
      have ht := hour_t (t := σ 20 q) (T := hTm (smS σ r hh) r hh 16 (6 * r)) (b := 600 + 20 * (n : Int) + 20) (by omega) (by omega) hTU
      refine ⟨by omega, age_i hn hq1.2 ?_⟩
      have := off_i hR (hpr q hq).2 (b := 600 + 20 * (n : Int) + 20) (by omega) (by omega) ht
      omega
    · rw [if_neg c, if_neg c]
      have e2 : hd r σ q ≤ hd (r + 1) (hourS σ r hh) q := by
        unfold hd
        by_cases z : σ 19 q = -1 ∨ rmo σ q < r
        · rw [if_pos z, if_pos]
          · exact Nat.le_refl _
          · show hourS σ r hh 19 q = -1 ∨ cN (hourS σ r hh 19 q) < r + 1
            rw [e19]
            exact z.imp id (fun z => Nat.lt_succ_of_lt z)
        · rw [if_neg z]
          exact Nat.zero_le _
      omega
end KEEP
