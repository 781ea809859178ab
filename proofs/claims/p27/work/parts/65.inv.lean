/-! WHAT THE LAW ASKS OF THE STATE: each room's energy and warm hours by the time, what is paid between all energy at 10 and at 25, prices, what stands together goes together -/
def eS (σ : Sg) (r : Nat) : Int := (σ 16 (6 * r + 4)).toInt
def eSum (σ : Sg) : Nat → Int
  | 0 => 0
  | k + 1 => eSum σ k + eS σ k
theorem eSum_congr {σ τ : Sg} : ∀ k : Nat, (∀ r, r < k → eS τ r = eS σ r) → eSum τ k = eSum σ k
  | 0, _ => rfl
  | k + 1, h => by
    show eSum τ k + eS τ k = eSum σ k + eS σ k
    rw [eSum_congr k (fun r hr => h r (by omega)), h k (by omega)]
theorem eSum_rg {σ : Sg} {y : Int} : ∀ k : Nat, (∀ r, r < k → 0 ≤ eS σ r ∧ eS σ r ≤ y) → 0 ≤ eSum σ k ∧ eSum σ k ≤ (k : Int) * y
  | 0, _ => ⟨Int.le_refl 0, by show (0 : Int) ≤ ((0 : Nat) : Int) * y; rw [show ((0 : Nat) : Int) = 0 from rfl, Int.zero_mul]; exact Int.le_refl 0⟩
  | k + 1, h => by
    have ih := eSum_rg k (fun r hr => h r (by omega))
    have h1 := h k (by omega)
    show 0 ≤ eSum σ k + eS σ k ∧ eSum σ k + eS σ k ≤ ((k + 1 : Nat) : Int) * y
    rw [show ((k + 1 : Nat) : Int) = (k : Int) + 1 by omega, Int.add_mul, Int.one_mul]
    omega
theorem eSum_upd {σ τ : Sg} {r : Nat} : ∀ k : Nat, r < k → (∀ i, i < k → i ≠ r → eS τ i = eS σ i) → eSum τ k = eSum σ k + (eS τ r - eS σ r)
  | 0, h, _ => absurd h (Nat.not_lt_zero _)
  | k + 1, hr, h => by
    show eSum τ k + eS τ k = eSum σ k + eS σ k + (eS τ r - eS σ r)
    by_cases c : r = k
    · subst c
      rw [eSum_congr r (fun i hi => h i (by omega) (by omega))]
      omega
    · rw [eSum_upd k (by omega) (fun i hi hne => h i (by omega) hne), h k (by omega) (fun z => c z.symm)]
      omega
/-- all this: n hours have passed, in the first k rooms one more -/
def LxK (σ : Sg) (pd : Int64) (n k : Nat) : Prop :=
  (∀ r, r < nr σ → rg (σ 16 (6 * r + 4)) 0 (200 * ((n + if r < k then 1 else 0 : Nat) : Int))) ∧ (∀ r, r < nr σ → rg (σ 16 (6 * r + 5)) 0 ((n + if r < k then 1 else 0 : Nat) : Int)) ∧ (10 * eSum σ (nr σ) ≤ pd.toInt ∧ pd.toInt ≤ 25 * eSum σ (nr σ)) ∧ (∀ j, j < 24 → rg (σ 4 j) 10 25) ∧ ∀ i k, i < nt σ → k < nt σ → σ 19 i ≠ -1 → σ 19 i = σ 19 k → goS σ (prd σ i) (prd σ k)
abbrev Lx (σ : Sg) (pd : Int64) (n : Nat) : Prop := LxK σ pd n 0
theorem LxK_end {σ : Sg} {pd : Int64} {n : Nat} (h : LxK σ pd n (nr σ)) : Lx σ pd (n + 1) := by
  refine ⟨fun r hr => ?_, fun r hr => ?_, h.2.2⟩
  · have := h.1 r hr
    rw [if_pos hr] at this
    rw [if_neg (Nat.not_lt_zero r)]
    exact this
  · have := h.2.1 r hr
    rw [if_pos hr] at this
    rw [if_neg (Nat.not_lt_zero r)]
    exact this
theorem goS_comm {σ : Sg} {a b : Nat} (h : goS σ a b) : goS σ b a := by
  rcases h with h | ⟨h1, h2, h3⟩
  · exact Or.inl h.symm
  · exact Or.inr ⟨h2, h1, fun z => h3 (by rw [Int32.add_comm]; exact z)⟩
theorem goS_congr {σ τ : Sg} (h9 : τ 9 = σ 9) {a b : Nat} (h : goS σ a b) : goS τ a b := by
  unfold goS
  rw [h9]
  exact h
theorem LxK_congr {σ τ : Sg} {pd : Int64} {n k : Nat} (h : LxK σ pd n k) (e4 : τ 4 = σ 4) (e9 : τ 9 = σ 9) (e10 : τ 10 = σ 10) (e17 : τ 17 = σ 17) (e18 : τ 18 = σ 18) (e19 : τ 19 = σ 19) (e16 : ∀ r, r < nr σ → τ 16 (6 * r + 4) = σ 16 (6 * r + 4) ∧ τ 16 (6 * r + 5) = σ 16 (6 * r + 5)) : LxK τ pd n k := by
  have er : nr τ = nr σ := by unfold nr; rw [e10]
  have et : nt τ = nt σ := by unfold nt; rw [e17]
  have es : eSum τ (nr σ) = eSum σ (nr σ) := eSum_congr _ (fun r hr => by unfold eS; rw [(e16 r hr).1])
  obtain ⟨h1, h2, h3, h4, h5⟩ := h
  refine ⟨fun r hr => ?_, fun r hr => ?_, ?_, fun j hj => ?_, fun i q hi hq hne he => ?_⟩
  · rw [er] at hr
    rw [(e16 r hr).1]
    exact h1 r hr
  · rw [er] at hr
    rw [(e16 r hr).2]
    exact h2 r hr
  · rw [er, es]
    exact h3
  · rw [e4]
    exact h4 j hj
  · rw [et] at hi hq
    rw [e19] at hne he
    have := h5 i q hi hq hne he
    unfold prd goS
    rw [e18, e9]
    exact this
/-- the ages since τ0: m hours more for what is here, in the first k rooms one more -/
def AgK (σ0 τ : Sg) (m k : Nat) : Prop := ∀ q, q < nt σ0 → (σ0 19 q = -1 → τ 21 q = σ0 21 q) ∧ (σ0 19 q ≠ -1 → (σ0 21 q).toInt + ((m + if rmo σ0 q < k then 1 else 0 : Nat) : Int) ≤ (τ 21 q).toInt)
theorem AgK_0 (σ : Sg) : AgK σ σ 0 0 := fun q _ => ⟨fun _ => rfl, fun _ => by
  rw [if_neg (Nat.not_lt_zero _)]
  show _ + ((0 : Nat) : Int) ≤ _
  omega⟩
theorem AgK_end {σ0 τ : Sg} {m N : Nat} (hok : OkP σ0) (hN : N = nr σ0) (h : AgK σ0 τ m N) : AgK σ0 τ (m + 1) 0 := fun q hq => ⟨(h q hq).1, fun hne => by
  have h1 := (h q hq).2 hne
  have h2 := (hok.2.2.2.2.2.2.2 q hq hne).2
  rw [if_pos (by omega)] at h1
  rw [if_neg (Nat.not_lt_zero _)]
  omega⟩
theorem AgK_congr {σ0 τ υ : Sg} {m k : Nat} (h : AgK σ0 τ m k) (e : υ 21 = τ 21) : AgK σ0 υ m k := fun q hq => by
  rw [e]
  exact h q hq
/-! an hour in a room -/
theorem hour_e {σ : Sg} {r hh : Nat} (hT : rg (σ 16 (6 * r)) (-1000000) 1000000) (ha : rg (σ 14 r) (-300) 150) : hourS σ r hh 16 (6 * r + 4) = if smS σ r hh 16 (6 * r + 2) = 1 then σ 16 (6 * r + 4) + σ 13 r else σ 16 (6 * r + 4) := by
  obtain ⟨-, -, -, m4⟩ := smS_m (hh := hh) hT ha
  rw [hour_16 σ r hh (by omega), hTm_n _ _ _ (by omega), (hOn_m (smS σ r hh) r).2.2.2.1, m4 (6 * r + 4) (by omega), smS_row σ r hh (k := 13) (by decide)]
theorem hour_w {σ : Sg} {r hh : Nat} (hT : rg (σ 16 (6 * r)) (-1000000) 1000000) (ha : rg (σ 14 r) (-300) 150) : hourS σ r hh 16 (6 * r + 5) = σ 16 (6 * r + 5) ∨ hourS σ r hh 16 (6 * r + 5) = σ 16 (6 * r + 5) + 1 := by
  obtain ⟨-, -, -, m4⟩ := smS_m (hh := hh) hT ha
  have e1 : hourS σ r hh 16 (6 * r + 5) = hUp σ r hh 16 (6 * r + 5) := congrFun (hPal_row (hUp σ r hh) r (nt (hUp σ r hh)) (by decide) (by decide)) _
  have e2 : hTm (smS σ r hh) r hh 16 (6 * r + 5) = σ 16 (6 * r + 5) := by
    rw [hTm_n _ _ _ (by omega), (hOn_m (smS σ r hh) r).2.2.2.2 _ (by omega), m4 _ (by omega)]
  rw [e1, hUp_e]
  unfold hWm
  split
  · refine Or.inr ?_
    show upd (hTm (smS σ r hh) r hh 16) (6 * r + 5) (hTm (smS σ r hh) r hh 16 (6 * r + 5) + 1) (6 * r + 5) = _
    rw [upd_s, e2]
  · exact Or.inl e2
theorem hour_p (σ : Sg) (pd : Int64) (r hh : Nat) : hourP σ pd r hh = if smS σ r hh 16 (6 * r + 2) = 1 then pd + (σ 13 r).toInt64 * (σ 4 hh).toInt64 else pd := by
  unfold hourP hPd
  rw [smS_row σ r hh (k := 13) (by decide), smS_row σ r hh (k := 4) (by decide)]
theorem pay_i {pd : Int64} {a b : Int32} {y : Int} (hp : 0 ≤ pd.toInt) (hy : pd.toInt ≤ y) (hy2 : y ≤ 1000000000) (ha : rg a 0 200) (hb : rg b 10 25) : (pd + a.toInt64 * b.toInt64).toInt = pd.toInt + a.toInt * b.toInt ∧ 10 * a.toInt ≤ a.toInt * b.toInt ∧ a.toInt * b.toInt ≤ 25 * a.toInt := by
  have h1 : 10 * a.toInt ≤ a.toInt * b.toInt := by
    rw [Int.mul_comm 10]
    exact Int.mul_le_mul_of_nonneg_left hb.1 ha.1
  have h2 : a.toInt * b.toInt ≤ 25 * a.toInt := by
    rw [Int.mul_comm 25]
    exact Int.mul_le_mul_of_nonneg_left hb.2 ha.1
  refine ⟨?_, h1, h2⟩
  obtain ⟨z, hz⟩ : ∃ z, z = a.toInt * b.toInt := ⟨_, rfl⟩
  have ha1 := ha.1
  have ha2 := ha.2
  rw [← hz] at h1 h2 ⊢
  rw [Int64.toInt_add, Int64.toInt_mul, Int32.toInt_toInt64, Int32.toInt_toInt64, ← hz]
  rw [Int.bmod_eq_of_le (n := z) (by omega) (by omega), Int.bmod_eq_of_le (by omega) (by omega)]

