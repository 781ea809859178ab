/-! THE MODEL: ship, there, clear, stock, count, the machine, the hour -/
def nextAt (σ : Sg) (a : Nat) (least : Int32) : Nat → Int32
  | 0 => -1
  | k + 1 => if σ 18 k = nI a ∧ ¬ σ 19 k = -1 ∧ ¬ leftS σ k < least ∧ (nextAt σ a least k = -1 ∨ leftS σ k < leftS σ (cN (nextAt σ a least k))) then nI k else nextAt σ a least k
theorem nextAt_in (σ : Sg) (a : Nat) (least : Int32) : ∀ k : Nat, k < 2 ^ 31 → nextAt σ a least k = -1 ∨ ∃ j : Nat, j < k ∧ nextAt σ a least k = nI j
  | 0, _ => Or.inl rfl
  | r + 1, hk => by
    have ih := nextAt_in σ a least r (by omega)
    unfold nextAt
    split
    · exact Or.inr ⟨r, by omega, rfl⟩
    · exact ih.imp id (fun ⟨j, h1, h2⟩ => ⟨j, by omega, h2⟩)
def nextS (σ : Sg) (a : Nat) (least : Int32) : Int32 := nextAt σ a least (nt σ)
def shipL (a : Nat) (least : Int32) : Nat → Sg → Nat × Sg
  | 0, σ => (0, σ)
  | n + 1, σ => if nextS σ a least = -1 then (0, σ) else ((shipL a least n (s1 σ 19 (cN (nextS σ a least)) (-1))).1 + 1, (shipL a least n (s1 σ 19 (cN (nextS σ a least)) (-1))).2)
theorem shipL_1 {σ : Sg} {a n : Nat} {least : Int32} (h : ¬ nextS σ a least = -1) : shipL a least (n + 1) σ = ((shipL a least n (s1 σ 19 (cN (nextS σ a least)) (-1))).1 + 1, (shipL a least n (s1 σ 19 (cN (nextS σ a least)) (-1))).2) := if_neg h
theorem shipL_0 {σ : Sg} {a n : Nat} {least : Int32} (h : nextS σ a least = -1) : shipL a least (n + 1) σ = (0, σ) := if_pos h
def kdSH (σ : Sg) (u many least : Int32) : Int32 := if 0 ≤ u ∧ u ≤ σ 5 0 - 1 then (if (1 ≤ many ∧ many ≤ 60) ∧ 0 ≤ least then 0 else 2) else 1
def stSH (σ : Sg) (u many least : Int32) : Sg := ss (shipL (cN u) least (cN many) σ).2 22 ((shipL (cN u) least (cN many) σ).2 22 0 + nI (shipL (cN u) least (cN many) σ).1)
theorem OkP_leave {σ : Sg} (h : OkP σ) (j : Nat) : OkP (s1 σ 19 j (-1)) := by
  obtain ⟨h1, h2, h3, h4, h5, h6, h7, h8⟩ := h
  refine ⟨h1, h2, h3, h4, h5, h6, h7, fun p hp hne => ?_⟩
  by_cases hj : p = j
  · subst hj
    exact absurd (upd_s _ _ _) hne
  · have e : s1 σ 19 j (-1) 19 p = σ 19 p := upd_n _ _ hj
    have e2 : rmo (s1 σ 19 j (-1)) p = rmo σ p := by unfold rmo; rw [e]
    rw [e2]
    rw [e] at hne ⊢
    exact h8 p hp hne
def thereAt (σ : Sg) (u b : Int32) : Nat → Int32
  | 0 => 0
  | k + 1 => thereAt σ u b k + (if ¬ σ 19 k = -1 ∧ (u = -1 ∨ σ 18 k = u) ∧ bi (leftS σ k < 0) = b then 1 else 0)
def thereS (σ : Sg) (u b : Int32) : Int32 := thereAt σ u b (nt σ)
def clrF (σ : Sg) (k : Nat) : Nat → Int32 := fun p => if p < k ∧ leftS σ p < 0 then -1 else σ 19 p
def stCL (σ : Sg) : Sg := su σ 19 (clrF σ (nt σ))
theorem clrF_0 (σ : Sg) : su σ 19 (clrF σ 0) = σ := by
  funext q j
  by_cases hq : q = 19
  · subst hq
    rw [su_s]
    exact if_neg (by omega)
  · rw [su_n _ _ hq]
theorem clrF_s {σ : Sg} {k : Nat} (h : leftS σ k < 0) : s1 (su σ 19 (clrF σ k)) 19 k (-1) = su σ 19 (clrF σ (k + 1)) := by
  funext q j
  show su (su σ 19 (clrF σ k)) 19 (upd (su σ 19 (clrF σ k) 19) k (-1)) q j = _
  by_cases hq : q = 19
  · subst hq
    rw [su_s, su_s, su_s]
    unfold clrF
    by_cases hj : j = k
    · subst hj
      rw [upd_s]
      exact (if_pos ⟨Nat.lt_succ_self _, h⟩).symm
    · rw [upd_n _ _ hj]
      by_cases hc : j < k ∧ leftS σ j < 0
      · rw [if_pos hc, if_pos ⟨by omega, hc.2⟩]
      · rw [if_neg hc, if_neg (fun z => hc ⟨by omega, z.2⟩)]
  · rw [su_n _ _ hq, su_n _ _ hq, su_n _ _ hq]
theorem clrF_n {σ : Sg} {k : Nat} (h : ¬ leftS σ k < 0) : su σ 19 (clrF σ k) = su σ 19 (clrF σ (k + 1)) := by
  funext q j
  by_cases hq : q = 19
  · subst hq
    rw [su_s, su_s]
    unfold clrF
    by_cases hj : j = k
    · subst hj
      rw [if_neg (fun z => absurd z.1 (by omega)), if_neg (fun z => h z.2)]
    · by_cases hc : j < k ∧ leftS σ j < 0
      · rw [if_pos hc, if_pos ⟨by omega, hc.2⟩]
      · rw [if_neg hc, if_neg (fun z => hc ⟨by omega, z.2⟩)]
  · rw [su_n _ _ hq, su_n _ _ hq]
theorem OkP_clr {σ : Sg} (h : OkP σ) (k : Nat) : OkP (su σ 19 (clrF σ k)) := by
  obtain ⟨h1, h2, h3, h4, h5, h6, h7, h8⟩ := h
  refine ⟨h1, h2, h3, h4, h5, h6, h7, fun p hp hne => ?_⟩
  have e0 : su σ 19 (clrF σ k) 19 p = clrF σ k p := by rw [su_s]
  by_cases hc : p < k ∧ leftS σ p < 0
  · exact absurd (e0.trans (if_pos hc)) hne
  · have e : su σ 19 (clrF σ k) 19 p = σ 19 p := e0.trans (if_neg hc)
    have e2 : rmo (su σ 19 (clrF σ k)) p = rmo σ p := by unfold rmo; rw [e]
    rw [e2]
    rw [e] at hne ⊢
    exact h8 p hp hne
def kdST (σ : Sg) (u : Int32) : Int32 := if 0 ≤ u ∧ u ≤ σ 5 0 - 1 then 0 else 1
def cntS (σ : Sg) (w : Int32) : Int32 := if w = 0 then σ 5 0 else if w = 1 then σ 10 0 else if w = 2 then σ 17 0 else if w = 3 then thereS σ (-1) 0 + thereS σ (-1) 1 else σ 22 0
def kdCO (w : Int32) : Int32 := if 0 ≤ w ∧ w ≤ 4 then 0 else 1
def smS (σ : Sg) (r hh : Nat) : Sg :=
  if σ 16 (6 * r + 2) = 2 then
    (if s1 σ 16 (6 * r + 3) (σ 16 (6 * r + 3) - 1) 16 (6 * r + 3) ≤ 0 then s1 (s1 (s1 σ 16 (6 * r + 3) (σ 16 (6 * r + 3) - 1)) 16 (6 * r + 1) 0) 16 (6 * r + 2) 0 else s1 σ 16 (6 * r + 3) (σ 16 (6 * r + 3) - 1))
  else if ¬ σ 15 r = 0 ∧ σ 4 hh = lowS σ then s1 σ 16 (6 * r + 2) (if σ 16 (6 * r) < σ 14 r - 25 then 0 else 1)
  else if σ 14 r + 5 < σ 16 (6 * r) then s1 σ 16 (6 * r + 2) 1
  else if σ 16 (6 * r) < σ 14 r - 5 then s1 σ 16 (6 * r + 2) 0
  else σ
