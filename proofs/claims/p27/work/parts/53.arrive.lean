/-! A NEW PALLET: its address, its place -/
section ARR
variable {g : Gg} {ad : Ad} {σ : Sg} {pd : Int64} {pl : Pl} {sc : Sg} {h : Wd}
theorem fC_ad12 (hok : OkP σ) (hP : PlOk σ pl) {q : Nat} : fC g ad σ pd pl sc h = fC g (adup ad 12 (nt σ) q) σ pd pl sc h := by
  have e12 : ∀ j, j < nt σ → adup ad 12 (nt σ) q 12 j = ad 12 j := fun j hj => adup_n _ _ (fun z => by omega)
  funext k i
  match k with
  | 0 => rfl
  | 1 => rfl
  | 2 => rfl
  | 3 => rfl
  | 4 => rfl
  | 5 => rfl
  | 6 =>
    show (if i = 0 then _ else _) = (if i = 0 then _ else _)
    by_cases hi : i = 0
    · rw [if_pos hi, if_pos hi]
      have e : (fun j => if j < nt σ then some (ad 12 j) else none) = (fun j => if j < nt σ then some (adup ad 12 (nt σ) q 12 j) else none) := by
        funext j
        by_cases hj : j < nt σ
        · rw [if_pos hj, if_pos hj, e12 j hj]
        · rw [if_neg hj, if_neg hj]
      rw [e]
    · rw [if_neg hi, if_neg hi]
  | 7 => rfl
  | 8 => rfl
  | 9 => rfl
  | 10 => rfl
  | 11 =>
    show (if i < nr σ then _ else _) = (if i < nr σ then _ else _)
    by_cases hi : i < nr σ
    · rw [if_pos hi, if_pos hi]
      unfold plcE
      have e : (fun j => (pl i j).map (ad 12)) = (fun j => (pl i j).map (adup ad 12 (nt σ) q 12)) := by
        funext j
        cases hp : pl i j with
        | none => rfl
        | some p =>
          have hj : j < cN (σ 11 i) := Nat.lt_of_not_le (fun z => by
            rw [hP.out i j (fun y => by omega)] at hp
            cases hp)
          show some (ad 12 p) = some (adup ad 12 (nt σ) q 12 p)
          rw [e12 p (hP.on i j p hi hj hp).1]
      rw [e]
    · rw [if_neg hi, if_neg hi]
  | 12 => rfl
  | k + 13 => rfl
/-- the new pallet's place -/
theorem PlOk_new {u t9 : Int32} {r j0 : Nat} (hok : OkP σ) (hP : PlOk σ pl) (hr : r < nr σ) (hn : nt σ < 60) (hj0 : j0 < cN (σ 11 r)) (hfree : pl r j0 = none) : PlOk (stAV σ u (nI r) t9) (plu pl r j0 (some (nt σ))) := by
  obtain ⟨h17, h60, h10, h6, h5, h12, hpr, hrm⟩ := id hok
  have en := nt_AV (u := u) (v := nI r) (t9 := t9) h17 hn
  have e19 : ∀ q : Nat, stAV σ u (nI r) t9 19 q = if q = nt σ then nI r else σ 19 q := fun q => rfl
  have old : ∀ i j p, ¬ (i = r ∧ j = j0) → i < nr σ → j < cN (σ 11 i) → plu pl r j0 (some (nt σ)) i j = some p → p < nt σ ∧ σ 19 p = nI i := fun i j p hc hi hj hpl => by
    rw [plu_n _ _ hc] at hpl
    exact hP.on i j p hi hj hpl
  refine ⟨fun i j p hi hj hpl => ?_, fun i j j' p hi hj hj' h1 h2 => ?_, fun p hp1 hp2 => ?_, fun i j hno => ?_⟩
  · rw [en, e19]
    by_cases hc : i = r ∧ j = j0
    · obtain ⟨rfl, rfl⟩ := hc
      rw [plu_s] at hpl
      cases hpl
      exact ⟨Nat.lt_succ_self _, if_pos rfl⟩
    · obtain ⟨e1, e2⟩ := old i j p hc hi hj hpl
      rw [if_neg (by omega)]
      exact ⟨by omega, e2⟩
  · by_cases hc : i = r ∧ j = j0
    · by_cases hc' : i = r ∧ j' = j0
      · rw [hc.2, hc'.2]
      · have e1 := (old i j' p hc' hi hj' h2).1
        obtain ⟨rfl, rfl⟩ := hc
        rw [plu_s] at h1
        cases h1
        omega
    · by_cases hc' : i = r ∧ j' = j0
      · have e1 := (old i j p hc hi hj h1).1
        obtain ⟨rfl, rfl⟩ := hc'
        rw [plu_s] at h2
        cases h2
        omega
      · rw [plu_n _ _ hc] at h1
        rw [plu_n _ _ hc'] at h2
        exact hP.inj i j j' p hi hj hj' h1 h2
  · rw [en] at hp1
    rw [e19] at hp2
    show ∃ j, j < cN (σ 11 (cN (stAV σ u (nI r) t9 19 p))) ∧ plu pl r j0 (some (nt σ)) (cN (stAV σ u (nI r) t9 19 p)) j = some p
    rw [e19]
    by_cases c : p = nt σ
    · rw [if_pos c, cN_nI (by omega), c]
      exact ⟨j0, hj0, plu_s _ _ _ _⟩
    · rw [if_neg c] at hp2 ⊢
      obtain ⟨j, hj, e⟩ := hP.ex p (by omega) hp2
      refine ⟨j, hj, ?_⟩
      rw [plu_n _ _ (fun z => by
        have e' : pl (rmo σ p) j = some p := e
        rw [show rmo σ p = r from z.1, z.2, hfree] at e'
        cases e')]
      exact e
  · by_cases hc : i = r ∧ j = j0
    · obtain ⟨rfl, rfl⟩ := hc
      exact absurd ⟨hr, hj0⟩ hno
    · rw [plu_n _ _ hc]
      exact hP.out i j hno
end ARR
