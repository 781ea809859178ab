/-! WHAT EACH CALL KEEPS, second part -/
section KEEPS2
variable {σ : Sg} {pl pl' : Pl}
theorem keepAP {lo hi li sm : Int32} (h : Iv σ pl) (hk : kdAP σ lo hi li sm = 0) (hP : PlOk (stAP σ lo hi li sm) pl') : Iv (stAP σ lo hi li sm) pl' := by
  obtain ⟨⟨q1, q2, q3, q4, q5⟩, q6⟩ := kd_2 hk
  obtain ⟨hok, -, hR, hF⟩ := h
  obtain ⟨h17, h60, h10, h6, h5, h12, hpr, hrm⟩ := id hok
  have hn : np σ < 12 := by
    by_cases c : np σ = 12
    · exact absurd (by rw [h5, c]; rfl) q6
    · omega
  have en := np_AP (lo := lo) (hi := hi) (life := li) (sm := sm) h5 hn
  have z1 := Int32.le_iff_toInt_le.mp q1
  have z2 := Int32.le_iff_toInt_le.mp q2
  have z3 := Int32.le_iff_toInt_le.mp q3
  have y1 : (-300 : Int32).toInt = -300 := rfl
  have y2 : (200 : Int32).toInt = 200 := rfl
  refine ⟨⟨h17, h60, h10, h6, ?_, by rw [en]; omega, fun q hq => ?_, hrm⟩, hP, ⟨fun a ha => ?_, hR.2⟩, hF⟩
  · rw [en]
    show σ 5 0 + 1 = nI (np σ + 1)
    conv => lhs; rw [h5, nI_1]
  · have := hpr q hq
    rw [en]
    exact ⟨this.1, Nat.lt_succ_of_lt this.2⟩
  · rw [en] at ha
    show rg (if a = np σ then sm else σ 9 a) 0 3 ∧ rg (if a = np σ then lo else σ 6 a) (-300) 200 ∧ rg (if a = np σ then hi else σ 7 a) (-300) 200 ∧ (if a = np σ then lo else σ 6 a).toInt ≤ (if a = np σ then hi else σ 7 a).toInt ∧ rg (if a = np σ then li else σ 8 a) 10 5000
    by_cases c : a = np σ
    · rw [if_pos c, if_pos c, if_pos c, if_pos c]
      exact ⟨rg_of (lo := 0) (hi := 3) rfl rfl q5, by omega, by omega, z2, rg_of (lo := 10) (hi := 5000) rfl rfl q4⟩
    · rw [if_neg c, if_neg c, if_neg c, if_neg c]
      exact hR.1 a (by omega)
theorem keepDF {v : Int32} {n : Nat} (h : Iv σ pl) (hB : Bn σ n) (hk : kdDF σ v = 0) (hP : PlOk (stDF σ v) pl') : Iv (stDF σ v) pl' ∧ Bn (stDF σ v) n := by
  obtain ⟨hok, -, hR, hF⟩ := h
  have h10 := hok.2.2.1
  have h6 := hok.2.2.2.1
  have hz : 0 ≤ v ∧ v ≤ σ 10 0 - 1 := by
    by_cases c : 0 ≤ v ∧ v ≤ σ 10 0 - 1
    · exact c
    · unfold kdDF at hk
      rw [if_neg c] at hk
      exact absurd hk (by decide)
  obtain ⟨i, hi, rfl⟩ := (in_cnt h10 (by omega)).mp hz
  have ei : cN (nI i) = i := cN_nI (by omega)
  have n_ : ∀ j : Nat, j ≠ 6 * i + 2 → j ≠ 6 * i + 3 → stDF σ (nI i) 16 j = σ 16 j := fun j h2 h3 => by
    unfold stDF
    rw [ei]
    exact (upd_n _ _ h3).trans (upd_n _ _ h2)
  refine ⟨⟨OkP_congr hok rfl rfl rfl rfl rfl, hP, Rg_congr hR (fun k h16 _ _ _ _ _ _ => (su_n _ _ h16).trans (su_n _ _ h16)) (fun r hr => ?_), ⟨hF.1, fun r hr => ⟨(hF.2 r hr).1, fun j h1 h2 => ?_⟩⟩⟩, ⟨fun r hr => ?_, hB.2⟩⟩
  · rw [n_ _ (by omega) (by omega)]
    exact (hR.2.1 r hr).2.2.2.2.2
  · have hr2 : nr σ ≤ r := hr
    rw [n_ _ (by omega) (by omega)]
    exact (hF.2 r hr).2 j h1 h2
  · rw [n_ _ (by omega) (by omega)]
    exact hB.1 r hr
theorem shipL_keep {a : Nat} {least : Int32} : ∀ (n : Nat) (τ : Sg), OkP τ → Rg τ → Fr τ → OkP (shipL a least n τ).2 ∧ Rg (shipL a least n τ).2 ∧ Fr (shipL a least n τ).2 ∧ ∀ w, w ≠ 19 → (shipL a least n τ).2 w = τ w
  | 0, τ, h1, h2, h3 => ⟨h1, h2, h3, fun _ _ => rfl⟩
  | n + 1, τ, h1, h2, h3 => by
    by_cases c : nextS τ a least = -1
    · rw [shipL_0 c]
      exact ⟨h1, h2, h3, fun _ _ => rfl⟩
    · rw [shipL_1 c]
      obtain ⟨i1, i2, i3, i4⟩ := shipL_keep n (s1 τ 19 (cN (nextS τ a least)) (-1)) (OkP_leave h1 _) (Rg_19 h2) h3
      exact ⟨i1, i2, i3, fun w hw => (i4 w hw).trans (su_n _ _ hw)⟩
theorem keepSH {u many least : Int32} {n : Nat} (h : Iv σ pl) (hB : Bn σ n) (hP : PlOk (stSH σ u many least) pl') : Iv (stSH σ u many least) pl' ∧ Bn (stSH σ u many least) n := by
  obtain ⟨i1, i2, i3, i4⟩ := shipL_keep (a := cN u) (least := least) (cN many) σ h.1 h.2.2.1 h.2.2.2
  refine ⟨⟨OkP_congr i1 rfl rfl rfl rfl rfl, hP, Rg_22 i2, i3⟩, ?_⟩
  have e : ∀ w, w ≠ 19 → w ≠ 22 → stSH σ u many least w = σ w := fun w h1 h2 => (su_n _ _ h2).trans (i4 w h1)
  unfold Bn nr nt
  rw [e 10 (by decide) (by decide), e 16 (by decide) (by decide), e 17 (by decide) (by decide), e 20 (by decide) (by decide), e 21 (by decide) (by decide)]
  exact hB
end KEEPS2
