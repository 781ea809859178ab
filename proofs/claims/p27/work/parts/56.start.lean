/-! HOW IT BEGINS: what holds of the first state -/
theorem cN_0 : cN 0 = 0 := rfl
theorem σI_5 : np σI = 0 := rfl
theorem σI_10 : nr σI = 0 := rfl
theorem σI_17 : nt σI = 0 := rfl
theorem Iv_I : Iv σI (fun _ _ => none) := by
  refine ⟨⟨rfl, Nat.zero_le _, rfl, Nat.zero_le _, rfl, Nat.zero_le _, fun q hq => absurd hq (Nat.not_lt_zero _), fun q hq => absurd hq (Nat.not_lt_zero _)⟩, ⟨fun r j q hr => absurd hr (Nat.not_lt_zero _), fun r j j' q hr => absurd hr (Nat.not_lt_zero _), fun q hq => absurd hq (Nat.not_lt_zero _), fun _ _ _ => rfl⟩, ⟨fun a ha => absurd ha (Nat.not_lt_zero _), fun r hr => absurd hr (Nat.not_lt_zero _), ?_, ?_, fun j hj => ?_⟩, ⟨fun q _ => rfl, fun r _ => ⟨rfl, fun i _ _ => rfl⟩⟩⟩
  · show rg (150 : Int32) (-300) 400
    exact ⟨by decide, by decide⟩
  · show rg (0 : Int32) 0 200
    exact ⟨by decide, by decide⟩
  · show rg (if 0 ≤ j ∧ j < 24 then (10 : Int32) else σB 4 j) 1 100
    rw [if_pos ⟨Nat.zero_le _, hj⟩]
    exact ⟨by decide, by decide⟩
theorem Bn_I : Bn σI 0 := ⟨fun r hr => absurd hr (Nat.not_lt_zero _), fun q hq => absurd hq (Nat.not_lt_zero _)⟩
theorem OkT_I : OkT σI := ⟨rfl, Nat.zero_le _⟩
