/-! THE MODEL, its small methods -/
def outS (σ : Sg) (hr : Int32) : Int32 := σ 2 0 + (if 8 ≤ hr ∧ hr ≤ 20 then σ 3 0 * (6 - ab (hr - 14)) / 6 else 0)
def lowAt (σ : Sg) : Nat → Int32
  | 0 => σ 4 0
  | k + 1 => mn (lowAt σ k) (σ 4 k)
def lowS (σ : Sg) : Int32 := lowAt σ 24
def freeAt (σ : Sg) (r : Nat) : Nat → Int32
  | 0 => σ 11 r
  | k + 1 => freeAt σ r k - (if σ 19 k = nI r then 1 else 0)
def freeS (σ : Sg) (r : Nat) : Int32 := freeAt σ r (nt σ)
/-- how many pallets the state has, and what is in range -/
def OkP (σ : Sg) : Prop := σ 17 0 = nI (nt σ) ∧ nt σ ≤ 60 ∧ σ 10 0 = nI (nr σ) ∧ nr σ ≤ 6 ∧ σ 5 0 = nI (np σ) ∧ np σ ≤ 12 ∧ (∀ p, p < nt σ → σ 18 p = nI (prd σ p) ∧ prd σ p < np σ) ∧ (∀ p, p < nt σ → σ 19 p ≠ -1 → σ 19 p = nI (rmo σ p) ∧ rmo σ p < nr σ)
theorem ge_T {x : Int32} {n k : Nat} (hx : x = nI n) (hn : n < 2 ^ 31) (hk : k < 2 ^ 31) (c : x ≤ nI k) : n ≤ k := by
  rw [hx] at c
  exact (nI_leI hn hk).mp c
theorem ge_F {x : Int32} {n k : Nat} (hx : x = nI n) (hn : n < 2 ^ 31) (hk : k < 2 ^ 31) (c : ¬ x ≤ nI k) : k < n := by
  rw [hx] at c
  exact Nat.lt_of_not_le (fun z => c ((nI_leI hn hk).mpr z))
