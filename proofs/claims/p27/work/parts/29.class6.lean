/-! THE CLASS'S ROOM: what it remembers, and recalls -/
def scB (σ : Sg) (r : Nat) (sc : Sg) : Sg := s1 (s1 (s1 (s1 (s1 (s1 sc 2 r (σ 16 (6 * r + 2))) 3 r (σ 16 (6 * r + 3))) 4 r (σ 16 (6 * r + 1))) 5 r (σ 16 (6 * r + 4))) 0 r (σ 16 (6 * r))) 1 r (σ 16 (6 * r + 5))
def scR (pl : Pl) (σ : Sg) (r : Nat) (sc : Sg) : Nat → Sg
  | 0 => scB σ r sc
  | k + 1 => match pl r k with
    | none => scR pl σ r sc k
    | some q => s1 (s1 (scR pl σ r sc k) 6 q (σ 20 q)) 7 q (σ 21 q)
theorem scR_N {pl : Pl} {σ sc : Sg} {r k : Nat} (h : pl r k = none) : scR pl σ r sc (k + 1) = scR pl σ r sc k := by
  rw [scR, h]
theorem scR_S {pl : Pl} {σ sc : Sg} {r k q : Nat} (h : pl r k = some q) : scR pl σ r sc (k + 1) = s1 (s1 (scR pl σ r sc k) 6 q (σ 20 q)) 7 q (σ 21 q) := by
  rw [scR, h]
def rcF (σ : Sg) (r : Nat) (sc : Sg) : Nat → Int32 := fun j => if j = 6 * r + 2 then sc 2 r else if j = 6 * r + 3 then sc 3 r else if j = 6 * r + 1 then sc 4 r else if j = 6 * r + 4 then sc 5 r else σ 16 j
def rcB (σ : Sg) (r : Nat) (sc : Sg) : Sg := s1 (s1 (su σ 16 (rcF σ r sc)) 16 (6 * r) (sc 0 r)) 16 (6 * r + 5) (sc 1 r)
def rcS (pl : Pl) (σ : Sg) (r : Nat) (sc : Sg) : Nat → Sg
  | 0 => rcB σ r sc
  | k + 1 => match pl r k with
    | none => rcS pl σ r sc k
    | some q => s1 (s1 (rcS pl σ r sc k) 20 q (sc 6 q)) 21 q (sc 7 q)
theorem rcS_N {pl : Pl} {σ sc : Sg} {r k : Nat} (h : pl r k = none) : rcS pl σ r sc (k + 1) = rcS pl σ r sc k := by
  rw [rcS, h]
theorem rcS_S {pl : Pl} {σ sc : Sg} {r k q : Nat} (h : pl r k = some q) : rcS pl σ r sc (k + 1) = s1 (s1 (rcS pl σ r sc k) 20 q (sc 6 q)) 21 q (sc 7 q) := by
  rw [rcS, h]
theorem rcS_row {pl : Pl} {σ sc : Sg} {r w : Nat} (h1 : w ≠ 16) (h2 : w ≠ 20) (h3 : w ≠ 21) : ∀ k : Nat, rcS pl σ r sc k w = σ w
  | 0 => by
    show rcB σ r sc w = σ w
    exact (su_n _ _ h1).trans ((su_n _ _ h1).trans (su_n _ _ h1))
  | k + 1 => by
    cases hp : pl r k with
    | none => rw [rcS_N hp]; exact rcS_row h1 h2 h3 k
    | some q => rw [rcS_S hp]; exact (su_n _ _ h3).trans ((su_n _ _ h2).trans (rcS_row h1 h2 h3 k))
theorem rcS_nr {pl : Pl} {σ sc : Sg} {r k i : Nat} (h : i < nr σ) : i < nr (rcS pl σ r sc k) := by
  show i < cN (rcS pl σ r sc k 10 0)
  rw [rcS_row (by decide) (by decide) (by decide)]
  exact h
theorem rcS_nt {pl : Pl} {σ sc : Sg} {r k i : Nat} (h : i < nt σ) : i < nt (rcS pl σ r sc k) := by
  show i < cN (rcS pl σ r sc k 17 0)
  rw [rcS_row (by decide) (by decide) (by decide)]
  exact h
