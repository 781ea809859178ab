/-! A NEW ROOM: the addresses of its cells -/
section ADR
variable {g : Gg} {ad a : Ad} {σ : Sg} {pd : Int64} {pl : Pl} {sc : Sg} {h : Wd}
theorem fC_adR (hok : OkP σ) (ha : ∀ k i, ¬ ((k = 8 ∨ k = 9 ∨ k = 10 ∨ k = 11) ∧ i = nr σ) → a k i = ad k i) : fC g ad σ pd pl sc h = fC g a σ pd pl sc h := by
  obtain ⟨h17, h60, h10, h6, h5, h12, hpr, hrm⟩ := hok
  have e12 : a 12 = ad 12 := funext fun i => ha 12 i (by omega)
  have e7 : a 7 = ad 7 := funext fun i => ha 7 i (by omega)
  funext k i
  match k with
  | 0 =>
    show (if i = 0 then some (stoE ad σ pd) else none) = (if i = 0 then some (stoE a σ pd) else none)
    unfold stoE
    rw [ha 1 0 (by omega), ha 2 0 (by omega), ha 4 0 (by omega), ha 5 0 (by omega), ha 6 0 (by omega)]
  | 1 => rfl
  | 2 =>
    show (if i = 0 then some (lowE ad σ) else none) = (if i = 0 then some (lowE a σ) else none)
    unfold lowE
    rw [ha 3 0 (by omega)]
  | 3 => rfl
  | 4 =>
    show (if i = 0 then some (Sum.inl (g.2 3, 12, Sum.inr (Sum.inr (Sum.inr (Sum.inr (fun j => if j < np σ then some (ad 7 j) else none)))))) else none) = (if i = 0 then some (Sum.inl (g.2 3, 12, Sum.inr (Sum.inr (Sum.inr (Sum.inr (fun j => if j < np σ then some (a 7 j) else none)))))) else none)
    rw [e7]
  | 5 =>
    show (if i = 0 then some (Sum.inl (g.2 4, 6, Sum.inr (Sum.inr (Sum.inr (Sum.inr (fun j => if j < nr σ then some (ad 8 j) else none)))))) else none) = (if i = 0 then some (Sum.inl (g.2 4, 6, Sum.inr (Sum.inr (Sum.inr (Sum.inr (fun j => if j < nr σ then some (a 8 j) else none)))))) else none)
    have e : (fun j => if j < nr σ then some (ad 8 j) else none) = (fun j => if j < nr σ then some (a 8 j) else none) := by
      funext j
      by_cases hj : j < nr σ
      · rw [if_pos hj, if_pos hj, ha 8 j (by omega)]
      · rw [if_neg hj, if_neg hj]
    rw [e]
  | 6 =>
    show (if i = 0 then some (Sum.inl (g.2 2, 60, Sum.inr (Sum.inr (Sum.inr (Sum.inr (fun j => if j < nt σ then some (ad 12 j) else none)))))) else none) = (if i = 0 then some (Sum.inl (g.2 2, 60, Sum.inr (Sum.inr (Sum.inr (Sum.inr (fun j => if j < nt σ then some (a 12 j) else none)))))) else none)
    rw [e12]
  | 7 => rfl
  | 8 =>
    show (if i < nr σ then some (roomE ad σ sc i) else none) = (if i < nr σ then some (roomE a σ sc i) else none)
    by_cases hi : i < nr σ
    · rw [if_pos hi, if_pos hi]
      unfold roomE
      rw [ha 9 i (by omega), ha 10 i (by omega), ha 11 i (by omega)]
    · rw [if_neg hi, if_neg hi]
  | 9 => rfl
  | 10 => rfl
  | 11 =>
    show (if i < nr σ then some (plcE g ad σ pl i) else none) = (if i < nr σ then some (plcE g a σ pl i) else none)
    unfold plcE
    rw [e12]
  | 12 =>
    show (if i < nt σ then some (palE ad σ sc i) else none) = (if i < nt σ then some (palE a σ sc i) else none)
    by_cases hi : i < nt σ
    · rw [if_pos hi, if_pos hi]
      unfold palE rmR
      rw [e7]
      by_cases hz : σ 19 i = -1
      · rw [if_pos hz, if_pos hz]
      · have := (hrm i hi hz).2
        rw [if_neg hz, if_neg hz, ha 8 _ (by omega)]
    · rw [if_neg hi, if_neg hi]
  | k + 13 => rfl
end ADR
