/-! WHAT EACH CALL KEEPS -/
theorem kd_1 {P : Prop} [Decidable P] (h : (if P then (0 : Int32) else 1) = 0) : P := by
  by_cases hP : P
  · exact hP
  · rw [if_neg hP] at h
    exact absurd h (by decide)
theorem kd_2 {P Q : Prop} [Decidable P] [Decidable Q] (h : (if P then (if Q then (2 : Int32) else 0) else 1) = 0) : P ∧ ¬ Q := by
  by_cases hP : P
  · rw [if_pos hP] at h
    by_cases hQ : Q
    · rw [if_pos hQ] at h
      exact absurd h (by decide)
    · exact ⟨hP, hQ⟩
  · rw [if_neg hP] at h
    exact absurd h (by decide)
theorem kd_3 {P Q : Prop} [Decidable P] [Decidable Q] (h : (if P then (if Q then (0 : Int32) else 2) else 1) = 0) : P ∧ Q := by
  by_cases hP : P
  · rw [if_pos hP] at h
    by_cases hQ : Q
    · exact ⟨hP, hQ⟩
    · rw [if_neg hQ] at h
      exact absurd h (by decide)
  · rw [if_neg hP] at h
    exact absurd h (by decide)
theorem rg_of {x lo hi : Int32} {a b : Int} (ha : lo.toInt = a) (hb : hi.toInt = b) (h : lo ≤ x ∧ x ≤ hi) : rg x a b := by
  have h1 := Int32.le_iff_toInt_le.mp h.1
  have h2 := Int32.le_iff_toInt_le.mp h.2
  omega
section KEEPS
variable {σ : Sg} {pl pl' : Pl}
theorem keepSO {b s9 : Int32} (h : Iv σ pl) (hk : kdSO b s9 = 0) (hP : PlOk (stSO σ b s9) pl') : Iv (stSO σ b s9) pl' := by
  obtain ⟨h1, h2⟩ := kd_1 hk
  exact ⟨OkP_congr h.1 rfl rfl rfl rfl rfl, hP, ⟨h.2.2.1.1, h.2.2.1.2.1, rg_of (lo := -300) (hi := 400) rfl rfl h1, rg_of (lo := 0) (hi := 200) rfl rfl h2, h.2.2.1.2.2.2.2⟩, h.2.2.2⟩
theorem keepSP {f t c9 : Int32} (h : Iv σ pl) (hk : kdSP f t c9 = 0) (hP : PlOk (stSP σ f t c9) pl') : Iv (stSP σ f t c9) pl' := by
  obtain ⟨-, -, -, h1⟩ := kd_1 hk
  refine ⟨OkP_congr h.1 rfl rfl rfl rfl rfl, hP, ⟨h.2.2.1.1, h.2.2.1.2.1, h.2.2.1.2.2.1, h.2.2.1.2.2.2.1, fun j hj => ?_⟩, h.2.2.2⟩
  show rg (spF σ (cN f) c9 (cN t + 1) j) 1 100
  unfold spF
  by_cases c : cN f ≤ j ∧ j < cN t + 1
  · rw [if_pos c]
    exact rg_of (lo := 1) (hi := 100) rfl rfl h1
  · rw [if_neg c]
    exact h.2.2.1.2.2.2.2 j hj
theorem keepSR {v aim b : Int32} (h : Iv σ pl) (hb : b = 0 ∨ b = 1) (hk : kdSR σ v aim = 0) (hP : PlOk (stSR σ v aim b) pl') : Iv (stSR σ v aim b) pl' := by
  obtain ⟨h1, h2⟩ := kd_3 hk
  obtain ⟨hok, -, hR, hF⟩ := h
  have h10 := hok.2.2.1
  have h6 := hok.2.2.2.1
  obtain ⟨i, hi, rfl⟩ := (in_cnt h10 (by omega)).mp h1
  have ei : cN (nI i) = i := cN_nI (by omega)
  refine ⟨OkP_congr hok rfl rfl rfl rfl rfl, hP, ⟨hR.1, fun r hr => ?_, hR.2.2⟩, ⟨hF.1, fun r hr => ⟨?_, (hF.2 r hr).2⟩⟩⟩
  · obtain ⟨q1, q2, q3, q4, q5, q6⟩ := hR.2.1 r hr
    refine ⟨q1, q2, q3, ?_, ?_, q6⟩
    · show rg (if r = cN (nI i) then aim else σ 14 r) (-300) 150
      by_cases c : r = cN (nI i)
      · rw [if_pos c]
        exact rg_of (lo := -300) (hi := 150) rfl rfl h2
      · rw [if_neg c]
        exact q4
    · show (if r = cN (nI i) then b else σ 15 r) = 0 ∨ (if r = cN (nI i) then b else σ 15 r) = 1
      by_cases c : r = cN (nI i)
      · rw [if_pos c]
        exact hb
      · rw [if_neg c]
        exact q5
  · show (if r = cN (nI i) then b else σ 15 r) = 0
    have hr2 : nr σ ≤ r := hr
    rw [if_neg (by omega)]
    exact (hF.2 r hr).1
theorem keepMV {u v : Int32} (h : Iv σ pl) (hk : kdMV σ u v = 0) (hP : PlOk (stMV σ u v) pl') : Iv (stMV σ u v) pl' := by
  have hz : (0 ≤ u ∧ u ≤ σ 17 0 - 1) ∧ (0 ≤ v ∧ v ≤ σ 10 0 - 1) := (kd_2 hk).1
  obtain ⟨hok, -, hR, hF⟩ := h
  obtain ⟨h17, h60, h10, h6, h5, h12, hpr, hrm⟩ := id hok
  obtain ⟨i, hi, rfl⟩ := (in_cnt h10 (by omega)).mp hz.2
  refine ⟨⟨h17, h60, h10, h6, h5, h12, hpr, fun q hq hne => ?_⟩, hP, Rg_19 hR, hF⟩
  have e : ∀ x, stMV σ u (nI i) 19 x = if x = cN u then nI i else σ 19 x := fun x => rfl
  show stMV σ u (nI i) 19 q = nI (cN (stMV σ u (nI i) 19 q)) ∧ cN (stMV σ u (nI i) 19 q) < nr σ
  have hne2 : stMV σ u (nI i) 19 q ≠ -1 := hne
  rw [e] at hne2 ⊢
  by_cases c : q = cN u
  · rw [if_pos c, cN_nI (by omega)]
    exact ⟨rfl, hi⟩
  · rw [if_neg c] at hne2 ⊢
    exact hrm q hq hne2
theorem keepCL (h : Iv σ pl) (hP : PlOk (stCL σ) pl') : Iv (stCL σ) pl' := ⟨OkP_clr h.1 _, hP, Rg_19 h.2.2.1, h.2.2.2⟩
theorem keepTI {pd : Int64} {n : Nat} (h : Iv σ pl) (hB : Bn σ n) (k : Nat) (hk : n + k ≤ 2001) : Iv (tickAt (σ, pd) k).1 pl ∧ Bn (tickAt (σ, pd) k).1 (n + k) := tick_keep (x := (σ, pd)) h hB k hk
end KEEPS
