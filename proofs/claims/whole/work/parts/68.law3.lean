/-! THE LAW: what each call leaves holds again -/
section KEEP3
variable {σ : Sg} {pl pl' : Pl}
theorem k3_same (h : Ok3 σ pl) (hP : PlOk σ pl') : Ok3 σ pl' := h.pl hP
theorem k3_SO {u9 v9 : Int32} (h : Ok3 σ pl) (hk : kdSO u9 v9 = 0) (hP : PlOk (stSO σ u9 v9) pl') : Ok3 (stSO σ u9 v9) pl' := ⟨keepSO h.1 hk hP, h.2.1, h.2.2⟩
theorem k3_SP {t1 t2 t3 : Int32} (h : Ok3 σ pl) (hk : kdSP t1 t2 t3 = 0) (hP : PlOk (stSP σ t1 t2 t3) pl') : Ok3 (stSP σ t1 t2 t3) pl' := ⟨keepSP h.1 hk hP, h.2.1, h.2.2⟩
theorem k3_SR {v9 aim b9 : Int32} (hb : b9 = 0 ∨ b9 = 1) (h : Ok3 σ pl) (hk : kdSR σ v9 aim = 0) (hP : PlOk (stSR σ v9 aim b9) pl') : Ok3 (stSR σ v9 aim b9) pl' := ⟨keepSR h.1 hb hk hP, h.2.1, h.2.2⟩
theorem k3_MV {u9 v9 : Int32} (h : Ok3 σ pl) (hk : kdMV σ u9 v9 = 0) (hP : PlOk (stMV σ u9 v9) pl') : Ok3 (stMV σ u9 v9) pl' := ⟨keepMV h.1 hk hP, h.2.1, h.2.2⟩
theorem k3_CL (h : Ok3 σ pl) (hP : PlOk (stCL σ) pl') : Ok3 (stCL σ) pl' := ⟨keepCL h.1 hP, h.2.1, h.2.2⟩
theorem k3_AP {lo hi li sm : Int32} (h : Ok3 σ pl) (hk : kdAP σ lo hi li sm = 0) (hP : PlOk (stAP σ lo hi li sm) pl') : Ok3 (stAP σ lo hi li sm) pl' := ⟨keepAP h.1 hk hP, h.2.1, h.2.2⟩
theorem k3_DF {v9 : Int32} (h : Ok3 σ pl) (hk : kdDF σ v9 = 0) (hP : PlOk (stDF σ v9) pl') : Ok3 (stDF σ v9) pl' := by
  obtain ⟨i1, i2⟩ := keepDF h.1 h.2.2 hk hP
  exact ⟨i1, h.2.1, i2⟩
theorem k3_SH {u9 many least : Int32} (h : Ok3 σ pl) (hP : PlOk (stSH σ u9 many least) pl') : Ok3 (stSH σ u9 many least) pl' := by
  obtain ⟨i1, i2⟩ := keepSH h.1 h.2.2 hP
  have e : stSH σ u9 many least 1 = σ 1 := (su_n _ _ (by decide)).trans ((shipL_keep (a := cN u9) (least := least) (cN many) σ h.1.1 h.1.2.2.1 h.1.2.2.2).2.2.2 1 (by decide))
  refine ⟨i1, ?_, ?_⟩
  · unfold OkT
    rw [e]
    exact h.2.1
  · rw [e]
    exact i2
theorem k3_AR {pc9 wa po aim : Int32} (h : Ok3 σ pl) (hk : kdAR σ pc9 wa po aim = 0) (hP : PlOk (stAR σ pc9 wa po aim) pl') : Ok3 (stAR σ pc9 wa po aim) pl' := by
  obtain ⟨i1, i2⟩ := keepAR h.1 h.2.2 hk hP
  exact ⟨i1, h.2.1, i2⟩
theorem k3_AV {u9 v9 t9 : Int32} (h : Ok3 σ pl) (hk : kdAV σ u9 v9 t9 = 0) (hP : PlOk (stAV σ u9 v9 t9) pl') : Ok3 (stAV σ u9 v9 t9) pl' := by
  obtain ⟨i1, i2⟩ := keepAV h.1 h.2.2 hk hP
  exact ⟨i1, h.2.1, i2⟩
theorem k3_TI {v9 : Int32} {pd : Int64} (h : Ok3 σ pl) (hk : kdTI σ v9 = 0) (hP : PlOk (tickAt (σ, pd) (cN v9)).1 pl') : Ok3 (tickAt (σ, pd) (cN v9)).1 pl' := by
  obtain ⟨⟨h1, h2⟩, h3⟩ := kd_1 hk
  obtain ⟨w, hw, rfl⟩ := nI_of (x := v9) (Int32.not_lt.mpr (Int32.le_trans (show (0 : Int32) ≤ 1 by decide) h1))
  have hw2 : w ≤ 200 := (nI_leI hw (b := 200) (by decide)).mp h2
  obtain ⟨hT1, hT2⟩ := id h.2.1
  obtain ⟨t, ht⟩ : ∃ t, t = cN (σ 1 0) := ⟨_, rfl⟩
  have e1 : σ 1 0 = nI t := by rw [ht]; exact hT1
  rw [e1, nI_p] at h3
  have h4 : t + w ≤ 2000 := (nI_leI (by omega) (b := 2000) (by decide)).mp h3
  rw [cN_nI hw] at hP ⊢
  have en : (tickAt (σ, pd) w).1 1 0 = nI (t + w) := tickAt_now (x := (σ, pd)) e1 w
  have ec : cN ((tickAt (σ, pd) w).1 1 0) = t + w := by rw [en]; exact cN_nI (by omega)
  obtain ⟨i1, i2⟩ := keepTI (pd := pd) h.1 h.2.2 w (by omega)
  refine ⟨⟨i1.1, hP, i1.2.2⟩, ⟨by rw [ec]; exact en, by rw [ec]; omega⟩, ?_⟩
  rw [ec, ht]
  exact i2
theorem bi_01 {P : Prop} [Decidable P] : bi P = 0 ∨ bi P = 1 := by
  unfold bi
  split
  · exact Or.inr rfl
  · exact Or.inl rfl
end KEEP3
