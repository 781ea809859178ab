/-! THE COLD STORE: its digest's parts, a pallet leaves, the hour of a room -/
def dgRc (σ : Sg) (d : Int64) : Nat → Int64
  | 0 => d
  | r + 1 => if r < nr σ then dgR1 σ r (dgRc σ d r) 7 * 31 + (if σ 15 r = 0 then 0 else 1) else dgRc σ d r
theorem dgRc_T {σ : Sg} {d : Int64} {r : Nat} (h : r < nr σ) : dgRc σ d (r + 1) = dgR1 σ r (dgRc σ d r) 7 * 31 + (if σ 15 r = 0 then 0 else 1) := if_pos h
theorem dgRc_F {σ : Sg} {d : Int64} {r : Nat} (h : ¬ r < nr σ) : dgRc σ d (r + 1) = dgRc σ d r := if_neg h
theorem dgRc_le {σ : Sg} {d : Int64} : ∀ n : Nat, n ≤ nr σ → dgRc σ d n = dgR σ d n
  | 0, _ => rfl
  | n + 1, h => by
    rw [dgRc_T (by omega), dgRc_le n (by omega)]
    rfl
theorem dgRc_end {σ : Sg} {d : Int64} : ∀ k : Nat, dgRc σ d (nr σ + k) = dgR σ d (nr σ)
  | 0 => dgRc_le _ (Nat.le_refl _)
  | k + 1 => (dgRc_F (r := nr σ + k) (by omega)).trans (dgRc_end k)
theorem dgRc_6 {σ : Sg} {d : Int64} (h : nr σ ≤ 6) : dgRc σ d 6 = dgR σ d (nr σ) := by
  have e := dgRc_end (σ := σ) (d := d) (6 - nr σ)
  rw [show nr σ + (6 - nr σ) = 6 by omega] at e
  exact e
def dgPc (σ : Sg) (d : Int64) : Nat → Int64
  | 0 => d
  | q + 1 => if q < nt σ then dgP1 σ q (dgPc σ d q) 5 else dgPc σ d q
theorem dgPc_T {σ : Sg} {d : Int64} {q : Nat} (h : q < nt σ) : dgPc σ d (q + 1) = dgP1 σ q (dgPc σ d q) 5 := if_pos h
theorem dgPc_F {σ : Sg} {d : Int64} {q : Nat} (h : ¬ q < nt σ) : dgPc σ d (q + 1) = dgPc σ d q := if_neg h
theorem dgPc_le {σ : Sg} {d : Int64} : ∀ n : Nat, n ≤ nt σ → dgPc σ d n = dgP σ d n
  | 0, _ => rfl
  | n + 1, h => by
    rw [dgPc_T (by omega), dgPc_le n (by omega)]
    rfl
theorem dgPc_end {σ : Sg} {d : Int64} : ∀ k : Nat, dgPc σ d (nt σ + k) = dgP σ d (nt σ)
  | 0 => dgPc_le _ (Nat.le_refl _)
  | k + 1 => (dgPc_F (q := nt σ + k) (by omega)).trans (dgPc_end k)
theorem dgPc_60 {σ : Sg} {d : Int64} (h : nt σ ≤ 60) : dgPc σ d 60 = dgP σ d (nt σ) := by
  have e := dgPc_end (σ := σ) (d := d) (60 - nt σ)
  rw [show nt σ + (60 - nt σ) = 60 by omega] at e
  exact e
theorem toldP_gone {σ : Sg} {q : Nat} {w : Int32} (hok : OkP σ) (hq : q < nt σ) (h : σ 19 q = -1) : (if w = 0 then nI (prd σ q) else if w = 1 then σ 20 q else if w = 2 then σ 21 q else if w = 3 then -1 else σ 8 (prd σ q) - σ 21 q) = toldP σ q w := by
  obtain ⟨-, -, -, -, -, -, hpr, -⟩ := hok
  unfold toldP leftS
  rw [← (hpr q hq).1, h]
theorem toldP_here {σ : Sg} {q : Nat} {w : Int32} (hok : OkP σ) (hq : q < nt σ) (h : ¬ σ 19 q = -1) : (if w = 0 then nI (prd σ q) else if w = 1 then σ 20 q else if w = 2 then σ 21 q else if w = 3 then nI (rmo σ q) else σ 8 (prd σ q) - σ 21 q) = toldP σ q w := by
  obtain ⟨-, -, -, -, -, -, hpr, hrm⟩ := hok
  unfold toldP leftS
  rw [← (hpr q hq).1, ← (hrm q hq h).1]
/-- what is told of a pallet -/
theorem tX2_fact (l : Launch) (g : Gg) (B0 : Nat) (ad : Ad) (σ : Sg) (pd : Int64) (pl : Pl) (sc : Sg) (h : Wd) (q : Nat) (w : Int32) (hok : OkP σ) (hq : q < nt σ) : MM l g B0 yX2_fact (wsM yX2_fact cX2_fact 2 (some .int)) ({ frames := 1, cells := 0, slots := 0, locals := 20 } : Room) [.ref (ad 12 q), .int w] ad (fC g ad σ pd pl sc h) (dI (toldP σ q w) ad (fC g ad σ pd pl sc h)) noX 0 0 := by
  obtain ⟨h17, h60, h10, h6, h5, h12, hpr, hrm⟩ := id hok
  by_cases hz : σ 19 q = -1
  · have e := tX2_factN l g B0 ad (fC g ad σ pd pl sc h) q (prd σ q) 0 0 (σ 20 q) (σ 21 q) (sc 6 q) (sc 7 q) (nI (prd σ q)) (σ 6 (prd σ q)) (σ 7 (prd σ q)) (σ 8 (prd σ q)) (σ 9 (prd σ q)) w (by rw [fC_12 hq, palE, rm_none.mpr hz]; rfl) (fC_7 (hpr q hq).2)
    rw [toldP_gone hok hq hz] at e
    exact e
  · have hr := (hrm q hq hz).2
    have e := tX2_factS l g B0 ad (fC g ad σ pd pl sc h) q (prd σ q) (rmo σ q) (nI (rmo σ q)) (σ 20 q) (σ 21 q) (sc 6 q) (sc 7 q) (nI (prd σ q)) (σ 6 (prd σ q)) (σ 7 (prd σ q)) (σ 8 (prd σ q)) (σ 9 (prd σ q)) w _ (fC_8 hr) (by rw [fC_12 hq, palE, rmR, if_neg hz]; rfl) (fC_7 (hpr q hq).2)
    rw [toldP_here hok hq hz] at e
    exact e
