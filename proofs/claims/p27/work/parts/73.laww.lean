/-! WHAT HOLDS BETWEEN THE LAW'S CALLS -/
def Lw (σ : Sg) (pd : Int64) (fp fr : Nat → Int32) (P R N now : Nat) : Prop := np σ = P ∧ nr σ = R ∧ nt σ ≤ N ∧ σ 1 0 = nI now ∧ Lx σ pd now ∧ (∀ a, a < P → fp (4 * a + 2) = σ 8 a ∧ fp (4 * a + 3) = σ 9 a) ∧ ∀ r, r < R → fr (4 * r) = σ 11 r
abbrev Ag (σ : Sg) (fa : Nat → Int32) : Prop := ∀ q, q < 60 → fa q = σ 21 q
section LAWW
variable {σ τ : Sg} {pd : Int64} {fp fr fa : Nat → Int32} {P R9 N now : Nat}
theorem Lw_to (h : Lw σ pd fp fr P R9 N now) (hL : Lx τ pd now) (e : ∀ w, w = 1 ∨ w = 5 ∨ w = 8 ∨ w = 9 ∨ w = 10 ∨ w = 11 ∨ w = 17 → τ w = σ w) : Lw τ pd fp fr P R9 N now := by
  obtain ⟨h1, h2, h3, h4, -, h6, h7⟩ := h
  refine ⟨?_, ?_, ?_, ?_, hL, fun a ha => ?_, fun r hr => ?_⟩
  · unfold np
    rw [e 5 (by omega)]
    exact h1
  · unfold nr
    rw [e 10 (by omega)]
    exact h2
  · unfold nt
    rw [e 17 (by omega)]
    exact h3
  · rw [e 1 (by omega)]
    exact h4
  · rw [e 8 (by omega), e 9 (by omega)]
    exact h6 a ha
  · rw [e 11 (by omega)]
    exact h7 r hr
theorem Lw.mono {N' : Nat} (h : Lw σ pd fp fr P R9 N now) (hN : N ≤ N') : Lw σ pd fp fr P R9 N' now := ⟨h.1, h.2.1, Nat.le_trans h.2.2.1 hN, h.2.2.2⟩
theorem Lw_DF {v : Int32} (h : Lw σ pd fp fr P R9 N now) : Lw (stDF σ v) pd fp fr P R9 N now := Lw_to h (Lx_DF h.2.2.2.2.1) (fun w hw => by
  have e : w ≠ 16 := by omega
  exact (su_n _ _ e).trans (su_n _ _ e))
theorem Lw_SR {v aim b9 : Int32} (h : Lw σ pd fp fr P R9 N now) : Lw (stSR σ v aim b9) pd fp fr P R9 N now := Lw_to h (Lx_SR h.2.2.2.2.1) (fun w hw => (su_n _ _ (show w ≠ 15 by omega)).trans (su_n _ _ (show w ≠ 14 by omega)))
theorem Lw_CL (h : Lw σ pd fp fr P R9 N now) : Lw (stCL σ) pd fp fr P R9 N now := Lw_to h (Lx_CL h.2.2.2.2.1) (fun w hw => su_n _ _ (show w ≠ 19 by omega))
theorem SH_row {u many least : Int32} (hok : OkP σ) (hR : Rg σ) (hF : Fr σ) {w : Nat} (h1 : w ≠ 19) (h2 : w ≠ 22) : stSH σ u many least w = σ w := (su_n _ _ h2).trans ((shipL_keep (a := cN u) (least := least) (cN many) σ hok hR hF).2.2.2 w h1)
theorem Lw_SH {u many least : Int32} (h : Lw σ pd fp fr P R9 N now) (hok : OkP σ) (hR : Rg σ) (hF : Fr σ) : Lw (stSH σ u many least) pd fp fr P R9 N now := Lw_to h (Lx_SH h.2.2.2.2.1 hok hR hF) (fun w hw => SH_row hok hR hF (by omega) (by omega))
theorem Lw_AV {a r : Nat} {t9 : Int32} (h : Lw σ pd fp fr P R9 N now) (hok : OkP σ) (hn : nt σ < 60) (ha : a < 12) (hr : r < 6) (hre : reasonS σ a r = 0) : Lw (stAV σ (nI a) (nI r) t9) pd fp fr P R9 (N + 1) now := by
  obtain ⟨h1, h2, h3, h4, h5, h6, h7⟩ := h
  refine ⟨h1, h2, ?_, h4, Lx_AV h5 hok hn ha hr hre, h6, h7⟩
  rw [nt_AV hok.1 hn]
  omega
theorem Lw_SP {f t c9 : Int32} (h : Lw σ pd fp fr P R9 N now) (hc : rg c9 10 25) : Lw (stSP σ f t c9) pd fp fr P R9 N now := Lw_to h (Lx_SP h.2.2.2.2.1 hc) (fun w hw => su_n _ _ (show w ≠ 4 by omega))
theorem Lw_SO {b s9 : Int32} (h : Lw σ pd fp fr P R9 N now) : Lw (stSO σ b s9) pd fp fr P R9 N now := Lw_to h (Lx_SO h.2.2.2.2.1) (fun w hw => (su_n _ _ (show w ≠ 3 by omega)).trans (su_n _ _ (show w ≠ 2 by omega)))
/-! each call's condition -/
theorem pr_ok {a : Nat} (hok : OkP σ) (ha : a < np σ) : kdPR σ (nI a) = 0 := if_pos ((in_cnt hok.2.2.2.2.1 (by have := hok.2.2.2.2.2.1; omega)).mpr ⟨a, ha, rfl⟩)
theorem av_ok {a r j : Nat} {t9 : Int32} (hok : OkP σ) (ha : a < np σ) (hr : r < nr σ) (hre : reasonS σ a r = 0) (hn : nt σ < 60) (et : t9 = nI j - 200) (hj : j < 500) : kdAV σ (nI a) (nI r) t9 = 0 := by
  have i0 : t9.toInt = (j : Int) - 200 := by
    rw [et]
    exact nI_sub (k := 200) (by omega) ⟨by decide, by decide⟩
  have h12 := hok.2.2.2.2.2.1
  have h6 := hok.2.2.2.1
  have hne : ¬ σ 17 0 = 60 := fun z => by
    have e : nt σ = 60 := congrArg cN z
    omega
  unfold kdAV
  rw [cN_nI (show a < 2 ^ 31 by omega), cN_nI (show r < 2 ^ 31 by omega)]
  rw [if_pos ⟨(in_cnt hok.2.2.2.2.1 (by omega)).mpr ⟨a, ha, rfl⟩, (in_cnt hok.2.2.1 (by omega)).mpr ⟨r, hr, rfl⟩⟩, if_pos ⟨le_of_i (x := -300) (a := -300) rfl i0 (by omega), le_of_i (y := 400) (b := 400) i0 rfl (by omega)⟩, if_pos ⟨hre, hne⟩]
theorem ro_ok {r : Nat} {w : Int32} (hok : OkP σ) (hr : r < nr σ) (hw : 0 ≤ w ∧ w ≤ 6) : kdRO σ (nI r) w = 0 := if_pos ⟨(in_cnt hok.2.2.1 (by have := hok.2.2.2.1; omega)).mpr ⟨r, hr, rfl⟩, hw⟩
theorem df_ok {r : Nat} (hok : OkP σ) (hr : r < nr σ) (h2 : ¬ σ 16 (6 * r + 2) = 2) : kdDF σ (nI r) = 0 := by
  unfold kdDF
  rw [if_pos ((in_cnt hok.2.2.1 (by have := hok.2.2.2.1; omega)).mpr ⟨r, hr, rfl⟩), cN_nI (by have := hok.2.2.2.1; omega), if_neg h2]
theorem sr_ok {r j : Nat} {aim : Int32} (hok : OkP σ) (hr : r < nr σ) (ea : aim = nI j - 200) (hj : j < 300) : kdSR σ (nI r) aim = 0 := by
  have i0 : aim.toInt = (j : Int) - 200 := by
    rw [ea]
    exact nI_sub (k := 200) (by omega) ⟨by decide, by decide⟩
  unfold kdSR
  rw [if_pos ((in_cnt hok.2.2.1 (by have := hok.2.2.2.1; omega)).mpr ⟨r, hr, rfl⟩), if_pos ⟨le_of_i (x := -300) (a := -300) rfl i0 (by omega), le_of_i (y := 150) (b := 150) i0 rfl (by omega)⟩]
theorem sh_ok {a j : Nat} (hok : OkP σ) (ha : a < np σ) (hj : j < 1000) : kdSH σ (nI a) 2 (nI j) = 0 := by
  unfold kdSH
  rw [if_pos ((in_cnt hok.2.2.2.2.1 (by have := hok.2.2.2.2.2.1; omega)).mpr ⟨a, ha, rfl⟩), if_pos ⟨⟨by decide, by decide⟩, nI_nn (by omega)⟩]
theorem pa_ok {q : Nat} {w : Int32} (hok : OkP σ) (hq : q < nt σ) (hw : 0 ≤ w ∧ w ≤ 4) : kdPA σ (nI q) w = 0 := if_pos ⟨(in_cnt hok.1 (by have := hok.2.1; omega)).mpr ⟨q, hq, rfl⟩, hw⟩
theorem ti_ok {w : Nat} (ht : σ 1 0 = nI now) (hn : now ≤ 400) (h1 : 1 ≤ w) (h2 : w ≤ 100) : kdTI σ (nI w) = 0 := by
  unfold kdTI
  rw [ht, nI_p]
  exact if_pos ⟨⟨(nI_leI (a := 1) (by decide) (by omega)).mpr h1, (nI_leI (b := 200) (by omega) (by decide)).mpr (by omega)⟩, (nI_leI (b := 2000) (by omega) (by decide)).mpr (by omega)⟩
theorem cellI6 (a k : Nat) (hk : k < 2 ^ 31) : nI a + (nI k - nI k / 6 * 6) = nI (a + k % 6) := by
  rw [show nI k - nI k / 6 * 6 = nI (k % 6) from pk_rem (a := k) (d := 6) hk (by decide) (by decide), nI_p]
theorem told3 {r : Nat} (hr : r < 1000) : toldR σ (cN (nI r)) (cN 3) = σ 16 (6 * r + 2) := by
  rw [cN_nI (show r < 2 ^ 31 by omega)]
  rfl
end LAWW
