/-! THE MODEL: how it begins -/
def zS : Sg := fun _ _ => 0
def σB : Sg := ss zS 2 150
def σI : Sg := su σB 4 (spF σB 0 10 24)
def fMt (g : Gg) (L : List Value) (σ : Sg) (m : Nat) (h : Wd) : Wd := fun k i => if k < 20 ∨ 44 ≤ k then h k i else if i = 0 then (if k = 20 then some (.inr (7, L)) else if arrM (k - 20) = 0 ∨ m ≤ k - 20 then none else some (.inl ((if k = 35 then g.2 1 else g.2 0), arrM (k - 20), .inl (σ (k - 20))))) else none
section FMT
variable {g : Gg} {ad : Ad} {σ : Sg} {pd : Int64} {th : Int32} {h : Wd} {L L' : List Value} {m : Nat}
theorem zS_σB : ∀ q, arrM q ≠ 0 → zS q = σB q := fun q hq => (su_n zS (fun _ => (150 : Int32)) (show q ≠ 2 from fun z => hq (by rw [z]; rfl))).symm
theorem fMt_o : fMt g L σ m h 20 0 = some (.inr (7, L)) := rfl
theorem fMt_p : up2 (fMt g L σ m h) 20 0 (.inr (7, L')) = fMt g L' σ m h := by
  funext k i
  by_cases hk : k = 20 ∧ i = 0
  · obtain ⟨rfl, rfl⟩ := hk
    rw [up2_s]
    rfl
  · rw [up2_n _ _ hk]
    unfold fMt
    by_cases h1 : k < 20 ∨ 44 ≤ k
    · rw [if_pos h1, if_pos h1]
    · rw [if_neg h1, if_neg h1]
      by_cases h2 : i = 0
      · subst h2
        have h20 : ¬ k = 20 := fun z => hk ⟨z, rfl⟩
        simp only [if_neg h20, ↓reduceIte]
      · rw [if_neg h2, if_neg h2]
theorem fMt_n (r : Nat) (hr : r < 24) (h0 : r ≠ 0) (hm : m ≤ r) : fMt g L σ m h (20 + r) 0 = none := by
  unfold fMt
  rw [if_neg (by omega), if_pos rfl, if_neg (by omega), if_pos (Or.inr (by omega))]
theorem fMt_a (r : Nat) {n : Nat} {cA : ClassId} (hn : arrM r = n) (h0 : n ≠ 0) (hr : r < 24) (hr0 : r ≠ 0) (hc : (if 20 + r = 35 then g.2 1 else g.2 0) = cA) (hm : m ≤ r) (hg : ∀ q, q < r → m ≤ q → arrM q = 0) : up2 (fMt g L σ m h) (20 + r) 0 (.inl (cA, n, .inl (σ r))) = fMt g L σ (r + 1) h := by
  subst hn
  funext k i
  by_cases hk : k = 20 + r ∧ i = 0
  · obtain ⟨rfl, rfl⟩ := hk
    rw [up2_s]
    unfold fMt
    rw [if_neg (by omega), if_pos rfl, if_neg (by omega), show 20 + r - 20 = r by omega, if_neg (fun z => z.elim h0 (by omega)), hc]
  · rw [up2_n _ _ hk]
    unfold fMt
    by_cases h1 : k < 20 ∨ 44 ≤ k
    · rw [if_pos h1, if_pos h1]
    · rw [if_neg h1, if_neg h1]
      by_cases h2 : i = 0
      · subst h2
        by_cases h20 : k = 20
        · simp only [if_pos h20, ↓reduceIte]
        · simp only [if_neg h20, ↓reduceIte]
          by_cases h3 : arrM (k - 20) = 0 ∨ m ≤ k - 20
          · rw [if_pos h3, if_pos]
            rcases h3 with h3 | h3
            · exact Or.inl h3
            · by_cases h4 : k - 20 < r
              · exact Or.inl (hg _ h4 h3)
              · exact Or.inr (by omega)
          · rw [if_neg h3, if_neg (show ¬ (arrM (k - 20) = 0 ∨ r + 1 ≤ k - 20) from fun z => z.elim (fun z => h3 (Or.inl z)) (fun z => h3 (Or.inr (by omega))))]
      · rw [if_neg h2, if_neg h2]
theorem fMt_f {τ : Sg} (hL : L = objM ad σ pd th) (hτ : ∀ q, arrM q ≠ 0 → τ q = σ q) (hm : 22 ≤ m) : fMt g L τ m h = fM g ad σ pd th h := by
  subst hL
  funext k i
  unfold fMt fM
  by_cases h1 : k < 20 ∨ 44 ≤ k
  · rw [if_pos h1, if_pos h1]
  · rw [if_neg h1, if_neg h1]
    by_cases h2 : i = 0
    · subst h2
      by_cases h20 : k = 20
      · simp only [if_pos h20, ↓reduceIte]
      · simp only [if_neg h20, ↓reduceIte]
        by_cases h3 : arrM (k - 20) = 0
        · rw [if_pos (Or.inl h3), if_pos h3]
        · rw [if_neg, if_neg h3, hτ _ h3]
          rintro (z | z)
          · exact h3 z
          · have h4 : k - 20 = 22 ∨ k - 20 = 23 := by omega
            rcases h4 with h4 | h4 <;> rw [h4] at h3 <;> exact h3 rfl
    · rw [if_neg h2, if_neg h2]
end FMT
abbrev newM : List Value := [.int 0, .int 0, .int 0, .int 0, .null, .long 0, .int 0, .null, .null, .null, .null, .int 0, .null, .null, .null, .null, .null, .null, .int 0, .null, .null, .null, .null, .int 0]
