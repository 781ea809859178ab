/-! THE PLACES: which pallet stands where, and sums over places and over pallets -/
def sumJ (F : Nat → Int32) : Nat → Int32
  | 0 => 0
  | k + 1 => sumJ F k + F k
theorem sumJ_congr {F G : Nat → Int32} : ∀ n : Nat, (∀ j, j < n → F j = G j) → sumJ F n = sumJ G n
  | 0, _ => rfl
  | n + 1, h => by
    show sumJ F n + F n = sumJ G n + G n
    rw [sumJ_congr n (fun j hj => h j (by omega)), h n (by omega)]
theorem sumJ_zero : ∀ n : Nat, sumJ (fun _ => 0) n = 0
  | 0 => rfl
  | n + 1 => by
    show sumJ (fun _ => 0) n + 0 = 0
    rw [sumJ_zero n]
    rfl
theorem sumJ_add (F G : Nat → Int32) : ∀ n : Nat, sumJ (fun j => F j + G j) n = sumJ F n + sumJ G n
  | 0 => rfl
  | n + 1 => by
    show sumJ (fun j => F j + G j) n + (F n + G n) = (sumJ F n + F n) + (sumJ G n + G n)
    rw [sumJ_add F G n, Int32.add_assoc, Int32.add_assoc, ← Int32.add_assoc (sumJ G n), Int32.add_comm (sumJ G n) (F n), Int32.add_assoc]
theorem sumJ_comm (A : Nat → Nat → Int32) (m : Nat) : ∀ n : Nat, sumJ (fun j => sumJ (fun q => A j q) m) n = sumJ (fun q => sumJ (fun j => A j q) n) m
  | 0 => (sumJ_zero m).symm
  | n + 1 => by
    show sumJ (fun j => sumJ (fun q => A j q) m) n + sumJ (fun q => A n q) m = sumJ (fun q => sumJ (fun j => A j q) n + A n q) m
    rw [sumJ_comm A m n, sumJ_add]
theorem sumJ_one {F : Nat → Int32} {i : Nat} : ∀ n : Nat, i < n → (∀ j, j < n → j ≠ i → F j = 0) → sumJ F n = F i
  | 0, h, _ => absurd h (Nat.not_lt_zero _)
  | n + 1, h, h0 => by
    show sumJ F n + F n = F i
    by_cases hn : n = i
    · subst hn
      rw [sumJ_congr n (G := fun _ => 0) (fun j hj => h0 j (by omega) (by omega)), sumJ_zero, Int32.zero_add]
    · rw [sumJ_one n (by omega) (fun j hj => h0 j (by omega)), h0 n (by omega) hn, Int32.add_zero]
/-- the places agree with what is said of each pallet -/
def PlOk (σ : Sg) (pl : Pl) : Prop := (∀ r j q, r < nr σ → j < cN (σ 11 r) → pl r j = some q → q < nt σ ∧ σ 19 q = nI r) ∧ (∀ r j j' q, r < nr σ → j < cN (σ 11 r) → j' < cN (σ 11 r) → pl r j = some q → pl r j' = some q → j = j') ∧ (∀ q, q < nt σ → σ 19 q ≠ -1 → (∃ j, j < cN (σ 11 (rmo σ q)) ∧ pl (rmo σ q) j = some q)) ∧ ∀ r j, ¬ (r < nr σ ∧ j < cN (σ 11 r)) → pl r j = none
theorem PlOk.on {σ : Sg} {pl : Pl} (h : PlOk σ pl) : ∀ r j q, r < nr σ → j < cN (σ 11 r) → pl r j = some q → q < nt σ ∧ σ 19 q = nI r := h.1
theorem PlOk.inj {σ : Sg} {pl : Pl} (h : PlOk σ pl) : ∀ r j j' q, r < nr σ → j < cN (σ 11 r) → j' < cN (σ 11 r) → pl r j = some q → pl r j' = some q → j = j' := h.2.1
theorem PlOk.ex {σ : Sg} {pl : Pl} (h : PlOk σ pl) : ∀ q, q < nt σ → σ 19 q ≠ -1 → ∃ j, j < cN (σ 11 (rmo σ q)) ∧ pl (rmo σ q) j = some q := h.2.2.1
theorem PlOk.out {σ : Sg} {pl : Pl} (h : PlOk σ pl) : ∀ r j, ¬ (r < nr σ ∧ j < cN (σ 11 r)) → pl r j = none := h.2.2.2
theorem PlOk.at {σ : Sg} {pl : Pl} (h : PlOk σ pl) {r q : Nat} (hr6 : r < 6) (hq : q < nt σ) (e : σ 19 q = nI r) : ∃ j, j < cN (σ 11 r) ∧ pl r j = some q := by
  have h1 : rmo σ q = r := by
    show cN (σ 19 q) = r
    rw [e]
    exact cN_nI (by omega)
  obtain ⟨j, hj⟩ := h.ex q hq (fun z => by
    rw [e] at z
    exact absurd (nI_nn (show r < 2 ^ 31 by omega)) (by rw [z]; decide))
  rw [h1] at hj
  exact ⟨j, hj⟩
def atP (G : Nat → Int32) (o : Option Nat) : Int32 := match o with
  | none => 0
  | some q => G q
theorem PlOk.sum {σ : Sg} {pl : Pl} (h : PlOk σ pl) {r : Nat} (hr : r < nr σ) (hr6 : r < 6) (G : Nat → Int32) : sumJ (fun j => atP G (pl r j)) (cN (σ 11 r)) = sumJ (fun q => if σ 19 q = nI r then G q else 0) (nt σ) := by
  have e1 : sumJ (fun j => atP G (pl r j)) (cN (σ 11 r)) = sumJ (fun j => sumJ (fun q => if pl r j = some q then G q else 0) (nt σ)) (cN (σ 11 r)) := by
    refine sumJ_congr _ (fun j hj => ?_)
    cases hq : pl r j with
    | none =>
      rw [sumJ_congr (nt σ) (G := fun _ => 0) (fun q _ => if_neg (fun z => by cases z)), sumJ_zero]
      rfl
    | some q0 =>
      rw [sumJ_one (i := q0) (nt σ) (h.on r j q0 hr hj hq).1 (fun q _ hne => if_neg (fun z => hne (Option.some.inj z).symm)), if_pos rfl]
      rfl
  rw [e1, sumJ_comm]
  refine sumJ_congr _ (fun q hq => ?_)
  by_cases hz : σ 19 q = nI r
  · obtain ⟨j, hj, hp⟩ := h.at hr6 hq hz
    rw [if_pos hz, sumJ_one (i := j) (cN (σ 11 r)) hj (fun j' hj' hne => if_neg (fun z => hne (h.inj r j' j q hr hj' hj z hp))), if_pos hp]
  · rw [if_neg hz, sumJ_congr (cN (σ 11 r)) (G := fun _ => 0) (fun j hj => if_neg (fun z => hz (h.on r j q hr hj z).2)), sumJ_zero]
/-- how many places are free -/
def fpC (pl : Pl) (r : Nat) : Nat → Int32
  | 0 => 0
  | k + 1 => if pl r k = none then fpC pl r k + 1 else fpC pl r k
theorem fpC_N {pl : Pl} {r k : Nat} (h : pl r k = none) : fpC pl r (k + 1) = fpC pl r k + 1 := if_pos h
theorem fpC_S {pl : Pl} {r k q : Nat} (h : pl r k = some q) : fpC pl r (k + 1) = fpC pl r k := if_neg (by rw [h]; exact fun z => by cases z)
theorem fpC_sum (pl : Pl) (r : Nat) : ∀ n : Nat, fpC pl r n = nI n - sumJ (fun j => atP (fun _ => 1) (pl r j)) n
  | 0 => by
    show (0 : Int32) = nI 0 - 0
    decide
  | n + 1 => by
    show fpC pl r (n + 1) = nI (n + 1) - (sumJ (fun j => atP (fun _ => 1) (pl r j)) n + atP (fun _ => 1) (pl r n))
    rw [← nI_1]
    cases hq : pl r n with
    | none =>
      rw [fpC_N hq, fpC_sum pl r n]
      show _ = _ - (_ + 0)
      rw [Int32.add_zero, Int32.sub_eq_add_neg, Int32.sub_eq_add_neg, Int32.add_assoc, Int32.add_comm (-_) 1, ← Int32.add_assoc]
    | some q =>
      rw [fpC_S hq, fpC_sum pl r n]
      show _ = _ - (_ + 1)
      rw [Int32.sub_eq_add_neg, Int32.sub_eq_add_neg, Int32.neg_add, Int32.sub_eq_add_neg, ← Int32.add_assoc, Int32.add_assoc (nI n) 1, Int32.add_comm 1, ← Int32.add_assoc (nI n), Int32.add_assoc (nI n + _) 1 (-1)]
      exact (Int32.add_zero _).symm
theorem freeAt_sum (σ : Sg) (r : Nat) : ∀ n : Nat, freeAt σ r n = σ 11 r - sumJ (fun q => if σ 19 q = nI r then 1 else 0) n
  | 0 => (Int32.sub_zero _).symm
  | n + 1 => by
    show freeAt σ r n - (if σ 19 n = nI r then 1 else 0) = σ 11 r - (sumJ (fun q => if σ 19 q = nI r then 1 else 0) n + (if σ 19 n = nI r then 1 else 0))
    rw [freeAt_sum σ r n, Int32.sub_eq_add_neg, Int32.sub_eq_add_neg, Int32.sub_eq_add_neg, Int32.neg_add, Int32.sub_eq_add_neg, Int32.add_assoc]
theorem PlOk.free {σ : Sg} {pl : Pl} (h : PlOk σ pl) {r : Nat} (hr : r < nr σ) (hr6 : r < 6) (h11 : σ 11 r = nI (cN (σ 11 r))) : fpC pl r (cN (σ 11 r)) = freeS σ r := by
  unfold freeS
  rw [fpC_sum, freeAt_sum, h.sum hr hr6, ← h11]
theorem hWarm_sum (τ : Sg) (r : Nat) (t by0 : Int32) : ∀ n : Nat, hWarm τ r t by0 n = by0 + sumJ (fun q => if τ 19 q = nI r then (τ 20 q - t) / 40 else 0) n
  | 0 => (Int32.add_zero _).symm
  | n + 1 => by
    show (if τ 19 n = nI r then hWarm τ r t by0 n + (τ 20 n - t) / 40 else hWarm τ r t by0 n) = by0 + (sumJ (fun q => if τ 19 q = nI r then (τ 20 q - t) / 40 else 0) n + (if τ 19 n = nI r then (τ 20 n - t) / 40 else 0))
    rw [hWarm_sum τ r t by0 n]
    by_cases hz : τ 19 n = nI r
    · rw [if_pos hz, if_pos hz, Int32.add_assoc]
    · rw [if_neg hz, if_neg hz, Int32.add_zero]
theorem reasAt_iff (σ : Sg) (a r : Nat) : ∀ n : Nat, reasAt σ a r n = true ↔ ∃ q, q < n ∧ σ 19 q = nI r ∧ ¬ goS σ a (prd σ q)
  | 0 => ⟨fun h => (Bool.false_ne_true h).elim, fun h => by
      obtain ⟨_, h, _⟩ := h
      exact absurd h (Nat.not_lt_zero _)⟩
  | n + 1 => by
    show (reasAt σ a r n || (decide (σ 19 n = nI r) && !decide (goS σ a (prd σ n)))) = true ↔ _
    rw [Bool.or_eq_true, reasAt_iff σ a r n, Bool.and_eq_true, decide_eq_true_eq, Bool.not_eq_true', decide_eq_false_iff_not]
    constructor
    · rintro (⟨q, h1, h2⟩ | h)
      · exact ⟨q, by omega, h2⟩
      · exact ⟨n, by omega, h⟩
    · rintro ⟨q, h1, h2⟩
      by_cases hq : q = n
      · subst hq
        exact Or.inr h2
      · exact Or.inl ⟨q, by omega, h2⟩
