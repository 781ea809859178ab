/-! WHAT THE CALLS DO TO WHAT THE LAW ASKS -/
section KEEP7
variable {σ τ : Sg} {pl : Pl} {pd : Int64} {n : Nat}
theorem eSum_to {y : Nat} (h : 10 * eSum σ (nr σ) ≤ pd.toInt ∧ pd.toInt ≤ 25 * eSum σ (nr σ)) (e : τ 16 = σ 16) (en : y = nr σ) : 10 * eSum τ y ≤ pd.toInt ∧ pd.toInt ≤ 25 * eSum τ y := by
  rw [en, eSum_congr (σ := σ) (nr σ) (fun r _ => by unfold eS; rw [e])]
  exact h
theorem Lx_SO {b s9 : Int32} (h : Lx σ pd n) : Lx (stSO σ b s9) pd n := LxK_congr h rfl rfl rfl rfl rfl rfl (fun _ _ => ⟨rfl, rfl⟩)
theorem Lx_SP {f t c9 : Int32} (h : Lx σ pd n) (hc : rg c9 10 25) : Lx (stSP σ f t c9) pd n := by
  obtain ⟨h1, h2, h3, h4, h5⟩ := h
  refine ⟨h1, h2, eSum_to h3 rfl rfl, fun j hj => ?_, h5⟩
  show rg (spF σ (cN f) c9 (cN t + 1) j) 10 25
  unfold spF
  by_cases c : cN f ≤ j ∧ j < cN t + 1
  · rw [if_pos c]
    exact hc
  · rw [if_neg c]
    exact h4 j hj
theorem Lx_SR {v aim b9 : Int32} (h : Lx σ pd n) : Lx (stSR σ v aim b9) pd n := LxK_congr h rfl rfl rfl rfl rfl rfl (fun _ _ => ⟨rfl, rfl⟩)
theorem Lx_DF {v : Int32} (h : Lx σ pd n) : Lx (stDF σ v) pd n := by
  have e : ∀ j : Nat, j ≠ 6 * cN v + 2 → j ≠ 6 * cN v + 3 → stDF σ v 16 j = σ 16 j := fun j h1 h2 => (upd_n _ _ h2).trans (upd_n _ _ h1)
  exact LxK_congr h rfl rfl rfl rfl rfl rfl (fun r _ => ⟨e _ (by omega) (by omega), e _ (by omega) (by omega)⟩)
theorem Lx_AP {lo hi li sm : Int32} (h : Lx σ pd n) (ht : nt σ = 0) : Lx (stAP σ lo hi li sm) pd n := by
  obtain ⟨h1, h2, h3, h4, h5⟩ := h
  refine ⟨h1, h2, eSum_to h3 rfl rfl, h4, fun i k hi => ?_⟩
  have hi2 : i < nt σ := hi
  omega
theorem Lx_AR {a wa po aim : Int32} (h : Lx σ pd n) (hok : OkP σ) (hF : Fr σ) (h6 : nr σ < 6) : Lx (stAR σ a wa po aim) pd n := by
  obtain ⟨h1, h2, h3, h4, h5⟩ := h
  have en : nr (stAR σ a wa po aim) = nr σ + 1 := nr_AR hok.2.2.1 h6
  have e : ∀ j : Nat, j ≠ 6 * nr σ → stAR σ a wa po aim 16 j = σ 16 j := fun j hj => upd_n _ _ hj
  have z0 : (0 : Int32).toInt = 0 := rfl
  have f4 := (hF.2 (nr σ) (Nat.le_refl _)).2 4 (by omega) (by omega)
  have f5 := (hF.2 (nr σ) (Nat.le_refl _)).2 5 (by omega) (by omega)
  refine ⟨fun r hr => ?_, fun r hr => ?_, ?_, h4, h5⟩
  · rw [en] at hr
    rw [e _ (by omega)]
    by_cases c : r = nr σ
    · rw [c, f4]
      constructor <;> omega
    · exact h1 r (by omega)
  · rw [en] at hr
    rw [e _ (by omega)]
    by_cases c : r = nr σ
    · rw [c, f5]
      constructor <;> omega
    · exact h2 r (by omega)
  · rw [en]
    show 10 * (eSum (stAR σ a wa po aim) (nr σ) + eS (stAR σ a wa po aim) (nr σ)) ≤ pd.toInt ∧ pd.toInt ≤ 25 * (eSum (stAR σ a wa po aim) (nr σ) + eS (stAR σ a wa po aim) (nr σ))
    rw [eSum_congr (nr σ) (fun r hr => by unfold eS; rw [e _ (by omega)])]
    have : eS (stAR σ a wa po aim) (nr σ) = 0 := by
      unfold eS
      rw [e _ (by omega), f4]
      rfl
    rw [this, Int.add_zero]
    exact h3
/-- pallets leave -/
theorem Lx_gone (h : Lx σ pd n) (e : ∀ w, w ≠ 19 → w ≠ 22 → τ w = σ w) (e19 : ∀ q, τ 19 q = σ 19 q ∨ τ 19 q = -1) : Lx τ pd n := by
  have h' : Lx (su τ 19 (σ 19)) pd n := LxK_congr h ((su_n _ _ (by decide)).trans (e 4 (by decide) (by decide))) ((su_n _ _ (by decide)).trans (e 9 (by decide) (by decide))) ((su_n _ _ (by decide)).trans (e 10 (by decide) (by decide))) ((su_n _ _ (by decide)).trans (e 17 (by decide) (by decide))) ((su_n _ _ (by decide)).trans (e 18 (by decide) (by decide))) (su_s _ _ _) (fun r _ => by
    have := (su_n τ (σ 19) (show 16 ≠ 19 by decide)).trans (e 16 (by decide) (by decide))
    exact ⟨congrFun this _, congrFun this _⟩)
  obtain ⟨h1, h2, h3, h4, h5⟩ := h'
  have h3' : 10 * eSum τ (nr τ) ≤ pd.toInt ∧ pd.toInt ≤ 25 * eSum τ (nr τ) := by
    rw [← eSum_congr (σ := τ) (τ := su τ 19 (σ 19)) (nr τ) (fun r _ => rfl)]
    exact h3
  refine ⟨h1, h2, h3', h4, fun i k hi hk hne he => ?_⟩
  have n1 : τ 19 i = σ 19 i := (e19 i).resolve_right hne
  have n2 : τ 19 k = σ 19 k := (e19 k).resolve_right (fun z => hne (he.trans z))
  exact h5 i k hi hk (by rw [su_s, ← n1]; exact hne) (by rw [su_s, ← n1, ← n2]; exact he)
theorem ship_19 {a : Nat} {least : Int32} : ∀ (k : Nat) (σ : Sg) (q : Nat), (shipL a least k σ).2 19 q = σ 19 q ∨ (shipL a least k σ).2 19 q = -1
  | 0, _, _ => Or.inl rfl
  | k + 1, σ, q => by
    by_cases c : nextS σ a least = -1
    · rw [shipL_0 c]
      exact Or.inl rfl
    · rw [shipL_1 c]
      rcases ship_19 k (s1 σ 19 (cN (nextS σ a least)) (-1)) q with h | h
      · by_cases hq : q = cN (nextS σ a least)
        · refine Or.inr (h.trans ?_)
          rw [hq]
          exact upd_s _ _ _
        · exact Or.inl (h.trans (upd_n _ _ hq))
      · exact Or.inr h
theorem Lx_SH {u many least : Int32} (h : Lx σ pd n) (hok : OkP σ) (hR : Rg σ) (hF : Fr σ) : Lx (stSH σ u many least) pd n := by
  have k4 := (shipL_keep (a := cN u) (least := least) (cN many) σ hok hR hF).2.2.2
  refine Lx_gone h (fun w h1 h2 => (su_n _ _ h2).trans (k4 w h1)) (fun q => ?_)
  have : stSH σ u many least 19 = (shipL (cN u) least (cN many) σ).2 19 := su_n _ _ (by decide)
  rw [this]
  exact ship_19 _ _ _
theorem Lx_CL (h : Lx σ pd n) : Lx (stCL σ) pd n := Lx_gone h (fun w h1 _ => su_n _ _ h1) (fun q => by
  have : stCL σ 19 = clrF σ (nt σ) := su_s _ _ _
  rw [this]
  unfold clrF
  split
  · exact Or.inr rfl
  · exact Or.inl rfl)
theorem Lx_AV {a r : Nat} {t9 : Int32} (h : Lx σ pd n) (hok : OkP σ) (hn : nt σ < 60) (ha : a < 12) (hr : r < 6) (hre : reasonS σ a r = 0) : Lx (stAV σ (nI a) (nI r) t9) pd n := by
  obtain ⟨h1, h2, h3, h4, h5⟩ := h
  have h17 := hok.1
  have en := nt_AV (u := nI a) (v := nI r) (t9 := t9) h17 hn
  have e18 : ∀ q : Nat, stAV σ (nI a) (nI r) t9 18 q = if q = nt σ then nI a else σ 18 q := fun q => rfl
  have e19 : ∀ q : Nat, stAV σ (nI a) (nI r) t9 19 q = if q = nt σ then nI r else σ 19 q := fun q => rfl
  have hgo : ∀ q, q < nt σ → σ 19 q = nI r → goS σ a (prd σ q) := fun q hq he => by
    unfold reasonS at hre
    by_cases c1 : freeS σ r = 0
    · rw [if_pos c1] at hre
      exact absurd hre (by decide)
    · rw [if_neg c1] at hre
      by_cases c2 : reasAt σ a r (nt σ) = true
      · rw [if_pos c2] at hre
        exact absurd hre (by decide)
      · by_cases c3 : goS σ a (prd σ q)
        · exact c3
        · exact absurd ((reasAt_iff σ a r (nt σ)).mpr ⟨q, hq, he, c3⟩) c2
  refine ⟨h1, h2, eSum_to h3 rfl rfl, h4, fun i k hi hk hne he => ?_⟩
  rw [en] at hi hk
  unfold prd
  rw [e19] at hne
  rw [e19, e19] at he
  rw [e18, e18]
  have hc : cN (nI a) = a := cN_nI (by omega)
  by_cases ci : i = nt σ
  · rw [if_pos ci] at he
    rw [if_pos ci]
    by_cases ck : k = nt σ
    · rw [if_pos ck]
      exact Or.inl rfl
    · rw [if_neg ck] at he
      rw [if_neg ck, hc]
      exact hgo k (by omega) he.symm
  · rw [if_neg ci] at he hne
    rw [if_neg ci]
    by_cases ck : k = nt σ
    · rw [if_pos ck] at he
      rw [if_pos ck, hc]
      exact goS_comm (σ := σ) (hgo i (by omega) he)
    · rw [if_neg ck] at he
      rw [if_neg ck]
      exact h5 i k (by omega) (by omega) hne he
theorem best_in (σ : Sg) (a : Nat) : ∀ k : Nat, k ≤ 6 → bestAt σ a k = -1 ∨ ∃ r, r < k ∧ bestAt σ a k = nI r ∧ reasonS σ a r = 0
  | 0, _ => Or.inl rfl
  | k + 1, hk => by
    have ih : bestAt σ a k = -1 ∨ ∃ r, r < k + 1 ∧ bestAt σ a k = nI r ∧ reasonS σ a r = 0 := (best_in σ a k (by omega)).imp id (fun ⟨j, h1, h2⟩ => ⟨j, by omega, h2⟩)
    by_cases c : reasonS σ a k = 0
    · have hr : nI k = -1 ∨ ∃ r, r < k + 1 ∧ nI k = nI r ∧ reasonS σ a r = 0 := Or.inr ⟨k, by omega, rfl, c⟩
      unfold bestAt
      rw [if_pos c]
      split
      · exact hr
      · split
        · exact hr
        · exact ih
    · unfold bestAt
      rw [if_neg c]
      exact ih
end KEEP7
