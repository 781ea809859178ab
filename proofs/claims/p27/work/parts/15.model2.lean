/-! THE MODEL: setOutside .. defrost. kd: the number of what is thrown, rs: the answer, st: the state then -/
abbrev rM (g : Gg) (ad : Ad) (h : Wd) (kd r : Int32) (σ' σ : Sg) (pd' pd : Int64) : Option Value → Ad → Wd → Prop := fun v a w => a = ad ∧ ((kd = 0 ∧ v = some (.int r) ∧ w = fM g ad σ' pd' 0 h) ∨ (kd ≠ 0 ∧ v = some (.int 0) ∧ w = fM g ad σ pd kd h))
theorem rM_ok {g : Gg} {ad : Ad} {h : Wd} {kd r v : Int32} {σ' σ : Sg} {pd' pd : Int64} {w : Wd} (hk : kd = 0) (hv : v = r) (hw : w = fM g ad σ' pd' 0 h) : rM g ad h kd r σ' σ pd' pd (some (.int v)) ad w := ⟨rfl, Or.inl ⟨hk, by rw [hv], hw⟩⟩
theorem rM_no {g : Gg} {ad : Ad} {h : Wd} {kd k r : Int32} {σ' σ : Sg} {pd' pd : Int64} (hk : kd = k) (h0 : k ≠ 0) : rM g ad h kd r σ' σ pd' pd (some (.int 0)) ad (fM g ad σ pd k h) := by
  subst hk
  exact ⟨rfl, Or.inr ⟨h0, rfl, rfl⟩⟩
theorem in_cnt {x v : Int32} {n : Nat} (hx : x = nI n) (hn : n < 2 ^ 31) : (0 ≤ v ∧ v ≤ x - 1) ↔ ∃ r : Nat, r < n ∧ v = nI r := by
  subst hx
  constructor
  · rintro ⟨h1, h2⟩
    obtain ⟨j, hj, rfl⟩ := nI_of (Int32.not_lt.mpr h1)
    cases n with
    | zero =>
      have h3 : (0 : Int32) ≤ nI 0 - 1 := Int32.le_trans h1 h2
      exact absurd h3 (by decide)
    | succ n =>
      rw [nI_pred] at h2
      exact ⟨j, Nat.lt_succ_of_le ((nI_leI hj (by omega)).mp h2), rfl⟩
  · rintro ⟨r, hr, rfl⟩
    refine ⟨nI_pos' (by omega), ?_⟩
    cases n with
    | zero => omega
    | succ n =>
      rw [nI_pred]
      exact nI_le (by omega) (by omega)
def hrS (σ : Sg) : Int32 := nI (cN (σ 1 0) % 24)
def OkT (σ : Sg) : Prop := σ 1 0 = nI (cN (σ 1 0)) ∧ cN (σ 1 0) ≤ 2000
theorem hrS_eq {σ : Sg} (h : OkT σ) : σ 1 0 - σ 1 0 / 24 * 24 = hrS σ := by
  unfold hrS
  rw [← pk_rem (a := cN (σ 1 0)) (d := 24) (by have := h.2; omega) (by decide) (by decide), ← h.1]
  rfl
def kdSO (b s : Int32) : Int32 := if (-300 ≤ b ∧ b ≤ 400) ∧ (0 ≤ s ∧ s ≤ 200) then 0 else 1
def stSO (σ : Sg) (b s : Int32) : Sg := ss (ss σ 2 b) 3 s
def rsSO (σ : Sg) (b s : Int32) : Int32 := outS (stSO σ b s) (hrS σ)
def kdOU (v : Int32) : Int32 := if 0 ≤ v ∧ v ≤ 23 then 0 else 1
def kdSP (f t p : Int32) : Int32 := if 0 ≤ f ∧ f ≤ t ∧ t < 24 ∧ (1 ≤ p ∧ p ≤ 100) then 0 else 1
def spF (σ : Sg) (F : Nat) (p : Int32) (k : Nat) : Nat → Int32 := fun j => if F ≤ j ∧ j < k then p else σ 4 j
def stSP (σ : Sg) (f t p : Int32) : Sg := su σ 4 (spF σ (cN f) p (cN t + 1))
theorem spF_0 (σ : Sg) (F : Nat) (p : Int32) : su σ 4 (spF σ F p F) = σ := by
  funext k j
  by_cases hk : k = 4
  · subst hk
    rw [su_s]
    exact if_neg (by omega)
  · rw [su_n _ _ hk]
theorem spF_1 (σ : Sg) {F k : Nat} (p : Int32) (h : F ≤ k) : s1 (su σ 4 (spF σ F p k)) 4 k p = su σ 4 (spF σ F p (k + 1)) := by
  funext q j
  by_cases hk : q = 4
  · subst hk
    show su (su σ 4 (spF σ F p k)) 4 (upd (su σ 4 (spF σ F p k) 4) k p) 4 j = _
    rw [su_s, su_s, su_s]
    by_cases hj : j = k
    · subst hj
      rw [upd_s]
      exact (if_pos ⟨h, Nat.lt_succ_self _⟩).symm
    · rw [upd_n _ _ hj]
      unfold spF
      by_cases hc : F ≤ j ∧ j < k
      · rw [if_pos hc, if_pos ⟨hc.1, by omega⟩]
      · rw [if_neg hc, if_neg (by omega)]
  · show su (su σ 4 (spF σ F p k)) 4 (upd (su σ 4 (spF σ F p k) 4) k p) q j = _
    rw [su_n _ _ hk, su_n _ _ hk, su_n _ _ hk]
def kdAP (σ : Sg) (lo hi life sm : Int32) : Int32 := if -300 ≤ lo ∧ lo ≤ hi ∧ hi ≤ 200 ∧ (10 ≤ life ∧ life ≤ 5000) ∧ (0 ≤ sm ∧ sm ≤ 3) then (if σ 5 0 = 12 then 2 else 0) else 1
def stAP (σ : Sg) (lo hi life sm : Int32) : Sg := ss (s1 (s1 (s1 (s1 σ 6 (np σ) lo) 7 (np σ) hi) 8 (np σ) life) 9 (np σ) sm) 5 (σ 5 0 + 1)
def kdAR (σ : Sg) (pl wa po aim : Int32) : Int32 := if (1 ≤ pl ∧ pl ≤ 20) ∧ (1 ≤ wa ∧ wa ≤ 20) ∧ (0 ≤ po ∧ po ≤ 200) ∧ (-300 ≤ aim ∧ aim ≤ 150) then (if σ 10 0 = 6 then 2 else 0) else 1
def stAR (σ : Sg) (pl wa po aim : Int32) : Sg := ss (s1 (s1 (s1 (s1 (s1 σ 11 (nr σ) pl) 12 (nr σ) wa) 13 (nr σ) po) 14 (nr σ) aim) 16 (6 * nr σ) 150) 10 (σ 10 0 + 1)
def kdSR (σ : Sg) (v aim : Int32) : Int32 := if 0 ≤ v ∧ v ≤ σ 10 0 - 1 then (if -300 ≤ aim ∧ aim ≤ 150 then 0 else 2) else 1
def stSR (σ : Sg) (v aim b : Int32) : Sg := s1 (s1 σ 14 (cN v) aim) 15 (cN v) b
def kdDF (σ : Sg) (v : Int32) : Int32 := if 0 ≤ v ∧ v ≤ σ 10 0 - 1 then (if σ 16 (6 * cN v + 2) = 2 then 2 else 0) else 1
def stDF (σ : Sg) (v : Int32) : Sg := s1 (s1 σ 16 (6 * cN v + 2) 2) 16 (6 * cN v + 3) 3
theorem add_sub1 (x : Int32) : x + 1 - 1 = x := by
  apply Int32.toBitVec_inj.mp
  simp
