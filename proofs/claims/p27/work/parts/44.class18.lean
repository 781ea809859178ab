/-! THE COLD STORE'S CALLS, sixth part: move -/
theorem s1_s1 (σ : Sg) (w j : Nat) (x y : Int32) : s1 (s1 σ w j x) w j y = s1 σ w j y := by
  funext a b
  by_cases ha : a = w
  · subst ha
    show su (su σ a (upd (σ a) j x)) a (upd (su σ a (upd (σ a) j x) a) j y) a b = su σ a (upd (σ a) j y) a b
    rw [su_s, su_s, su_s]
    by_cases hb : b = j
    · subst hb
      rw [upd_s, upd_s]
    · rw [upd_n _ _ hb, upd_n _ _ hb, upd_n _ _ hb]
  · show su (su σ w (upd (σ w) j x)) w (upd (su σ w (upd (σ w) j x) w) j y) a b = su σ w (upd (σ w) j y) a b
    rw [su_n _ _ ha, su_n _ _ ha, su_n _ _ ha]
theorem free_ex {pl : Pl} {r : Nat} : ∀ n : Nat, ¬ fpC pl r n = 0 → ∃ j, j < n ∧ pl r j = none
  | 0, h => absurd rfl h
  | n + 1, h => by
    cases hp : pl r n with
    | none => exact ⟨n, Nat.lt_succ_self _, hp⟩
    | some q =>
      rw [fpC_S hp] at h
      obtain ⟨j, h1, h2⟩ := free_ex n h
      exact ⟨j, by omega, h2⟩
theorem reason_free {σ : Sg} {a r : Nat} (h : reasonS σ a r = 0) : ¬ freeS σ r = 0 := by
  intro z
  unfold reasonS at h
  rw [if_pos z] at h
  exact absurd h (by decide)
theorem PlOk_take {σ : Sg} {pl : Pl} {r q j0 : Nat} (h : PlOk σ pl) (hr : r < nr σ) (hr6 : nr σ ≤ 6) (hq : q < nt σ) (hg : σ 19 q = -1) (hj0 : j0 < cN (σ 11 r)) (hfree : pl r j0 = none) : PlOk (s1 σ 19 q (nI r)) (plu pl r j0 (some q)) := by
  have u_ : ∀ p, ¬ p = q → s1 σ 19 q (nI r) 19 p = σ 19 p := fun p hp => upd_n _ _ hp
  have us : s1 σ 19 q (nI r) 19 q = nI r := upd_s _ _ _
  have hno : ∀ i j, i < nr σ → j < cN (σ 11 i) → ¬ pl i j = some q := fun i j hi hj z => by
    have e := (h.on i j q hi hj z).2
    rw [hg] at e
    exact absurd (nI_nn (show i < 2 ^ 31 by omega)) (by rw [← e]; decide)
  refine ⟨fun i j p hi hj hpl => ?_, fun i j j' p hi hj hj' h1 h2 => ?_, fun p hp1 hp2 => ?_, fun i j hn => ?_⟩
  · by_cases hc : i = r ∧ j = j0
    · obtain ⟨rfl, rfl⟩ := hc
      rw [plu_s] at hpl
      cases hpl
      exact ⟨hq, us⟩
    · rw [plu_n _ _ hc] at hpl
      obtain ⟨e1, e2⟩ := h.on i j p hi hj hpl
      have hne : ¬ p = q := fun z => hno i j hi hj (z ▸ hpl)
      exact ⟨e1, (u_ p hne).trans e2⟩
  · by_cases hc : i = r ∧ j = j0
    · by_cases hc' : i = r ∧ j' = j0
      · rw [hc.2, hc'.2]
      · obtain ⟨rfl, rfl⟩ := hc
        rw [plu_s] at h1
        cases h1
        rw [plu_n _ _ hc'] at h2
        exact absurd h2 (hno _ _ hi hj')
    · rw [plu_n _ _ hc] at h1
      by_cases hc' : i = r ∧ j' = j0
      · obtain ⟨rfl, rfl⟩ := hc'
        rw [plu_s] at h2
        cases h2
        exact absurd h1 (hno _ _ hi hj)
      · rw [plu_n _ _ hc'] at h2
        exact h.inj i j j' p hi hj hj' h1 h2
  · by_cases hpq : p = q
    · subst hpq
      have e : rmo (s1 σ 19 p (nI r)) p = r := by
        show cN (s1 σ 19 p (nI r) 19 p) = r
        rw [us]
        exact cN_nI (by omega)
      rw [e]
      exact ⟨j0, hj0, plu_s _ _ _ _⟩
    · rw [u_ p hpq] at hp2
      obtain ⟨j, hj, e⟩ := h.ex p hp1 hp2
      have ero : rmo (s1 σ 19 q (nI r)) p = rmo σ p := congrArg cN (u_ p hpq)
      rw [ero]
      by_cases hc : rmo σ p = r ∧ j = j0
      · rw [hc.1, hc.2, hfree] at e
        cases e
      · exact ⟨j, hj, by rw [plu_n _ _ hc]; exact e⟩
  · by_cases hc : i = r ∧ j = j0
    · obtain ⟨rfl, rfl⟩ := hc
      exact absurd ⟨hr, hj0⟩ hn
    · rw [plu_n _ _ hc]
      exact h.out i j hn
