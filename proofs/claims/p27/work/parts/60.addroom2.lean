/-! A NEW ROOM: the world with it -/
section ADR2
variable {g : Gg} {ad : Ad} {σ : Sg} {pd : Int64} {pl : Pl} {sc : Sg} {h : Wd}
def scN (σ sc : Sg) : Sg := (s1 (s1 (s1 (s1 (s1 (s1 sc 0 (nr σ) 0) 1 (nr σ) 0) 2 (nr σ) 0) 3 (nr σ) 0) 4 (nr σ) 0) 5 (nr σ) 0)
theorem scN_i (σ sc : Sg) (w i : Nat) (hw : w < 6) : scN σ sc w i = if i = nr σ then 0 else sc w i := by
  match w, hw with
  | 0, _ => rfl
  | 1, _ => rfl
  | 2, _ => rfl
  | 3, _ => rfl
  | 4, _ => rfl
  | 5, _ => rfl
  | w + 6, hw => exact absurd hw (by omega)
theorem fC_addR {n : Nat} {wa po aim : Int32} (hok : OkP σ) (hP : PlOk σ pl) (hF : Fr σ) (hn : nr σ < 6) (hn20 : n ≤ 20) : up2 (up2 (up2 (up2 (up2 (up2 (fC g ad σ pd pl sc h) 8 (nr σ) (.inr (4, [.int (nI (nr σ)), .int wa, .ref (ad 9 (nr σ)), .ref (ad 11 (nr σ)), .int aim, .int 0, .int 150, .int 0, .ref (ad 10 (nr σ)), .int 0, .int 0]))) 11 (nr σ) (.inl (g.2 2, n, .inr (.inr (.inr (.inr (fun _ => none))))))) 9 (nr σ) (.inr (1, [.int po, .int 0, .int 0, .int 0, .int 0]))) 10 (nr σ) (.inr (1, [.int po, .int 0, .int 0, .int 0, .int 0]))) 5 0 (.inl (g.2 4, 6, .inr (.inr (.inr (.inr (va_up (fun j => if j < nr σ then some (ad 8 j) else none) (nr σ) (some (ad 8 (nr σ)))))))))) 0 0 (.inr (6, [.ref (ad 1 0), .ref (ad 2 0), .ref (ad 4 0), .ref (ad 5 0), .ref (ad 6 0), .int (σ 5 0), .int (σ 10 0 + 1), .int (σ 17 0), .int (σ 22 0), .int (σ 1 0), .long pd])) = fC g ad (stAR σ (nI n) wa po aim) pd pl (scN σ sc) h := by
  obtain ⟨h17, h60, h10, h6, h5, h12, hpr, hrm⟩ := id hok
  have en := nr_AR (a := nI n) (wa := wa) (po := po) (aim := aim) h10 hn
  obtain ⟨f1, f2⟩ := hF.2 (nr σ) (Nat.le_refl _)
  have e11 : ∀ i : Nat, stAR σ (nI n) wa po aim 11 i = if i = nr σ then nI n else σ 11 i := fun i => rfl
  have e12 : ∀ i : Nat, stAR σ (nI n) wa po aim 12 i = if i = nr σ then wa else σ 12 i := fun i => rfl
  have e13 : ∀ i : Nat, stAR σ (nI n) wa po aim 13 i = if i = nr σ then po else σ 13 i := fun i => rfl
  have e14 : ∀ i : Nat, stAR σ (nI n) wa po aim 14 i = if i = nr σ then aim else σ 14 i := fun i => rfl
  have e15 : ∀ i : Nat, stAR σ (nI n) wa po aim 15 i = σ 15 i := fun i => rfl
  have e16 : ∀ j : Nat, stAR σ (nI n) wa po aim 16 j = if j = 6 * nr σ then 150 else σ 16 j := fun j => rfl
  refine up2_to rfl (fun k i hk => ?_)
  match k, hk with
  | 0, hk =>
    rw [up2_n _ _ (by omega), up2_n _ _ (by omega), up2_n _ _ (by omega), up2_n _ _ (by omega), up2_n _ _ (by omega)]
    exact (if_neg (fun z => hk ⟨rfl, z⟩)).trans (if_neg (fun z => hk ⟨rfl, z⟩)).symm
  | 1, _ => rw [up2_n _ _ (by omega), up2_n _ _ (by omega), up2_n _ _ (by omega), up2_n _ _ (by omega), up2_n _ _ (by omega)]; rfl
  | 2, _ => rw [up2_n _ _ (by omega), up2_n _ _ (by omega), up2_n _ _ (by omega), up2_n _ _ (by omega), up2_n _ _ (by omega)]; rfl
  | 3, _ => rw [up2_n _ _ (by omega), up2_n _ _ (by omega), up2_n _ _ (by omega), up2_n _ _ (by omega), up2_n _ _ (by omega)]; rfl
  | 4, _ => rw [up2_n _ _ (by omega), up2_n _ _ (by omega), up2_n _ _ (by omega), up2_n _ _ (by omega), up2_n _ _ (by omega)]; rfl
  | 6, _ => rw [up2_n _ _ (by omega), up2_n _ _ (by omega), up2_n _ _ (by omega), up2_n _ _ (by omega), up2_n _ _ (by omega)]; rfl
  | 7, _ => rw [up2_n _ _ (by omega), up2_n _ _ (by omega), up2_n _ _ (by omega), up2_n _ _ (by omega), up2_n _ _ (by omega)]; rfl
  | 12, _ => rw [up2_n _ _ (by omega), up2_n _ _ (by omega), up2_n _ _ (by omega), up2_n _ _ (by omega), up2_n _ _ (by omega)]; rfl
  | 5, _ =>
    by_cases hc : i = 0
    · subst hc
      rw [up2_s, fC_5, en]
      have e : va_up (fun j => if j < nr σ then some (ad 8 j) else none) (nr σ) (some (ad 8 (nr σ))) = (fun j => if j < nr σ + 1 then some (ad 8 j) else none) := by
        funext j
        unfold va_up
        by_cases hj : j = nr σ
        · rw [if_pos hj, if_pos (by omega), hj]
        · rw [if_neg hj]
          show (if j < nr σ then some (ad 8 j) else none) = _
          by_cases hj2 : j < nr σ
          · rw [if_pos hj2, if_pos (by omega)]
          · rw [if_neg hj2, if_neg (by omega)]
      rw [e]
    · rw [up2_n _ _ (by omega), up2_n _ _ (by omega), up2_n _ _ (by omega), up2_n _ _ (by omega), up2_n _ _ (by omega)]
      exact (if_neg hc).trans (if_neg hc).symm
  | 8, _ =>
    rw [up2_n _ _ (by omega), up2_n _ _ (by omega), up2_n _ _ (by omega), up2_n _ _ (by omega)]
    show _ = (if i < nr (stAR σ (nI n) wa po aim) then some (roomE ad (stAR σ (nI n) wa po aim) (scN σ sc) i) else none)
    rw [en]
    by_cases hc : i = nr σ
    · subst hc
      rw [up2_s, if_pos (Nat.lt_succ_self _)]
      unfold roomE
      rw [e12, e14, e15, e16, e16, scN_i _ _ _ _ (by omega), scN_i _ _ _ _ (by omega), if_pos rfl, if_pos rfl, if_pos rfl, if_neg (by omega), if_pos rfl, if_pos rfl, f1, f2 5 (by omega) (by omega)]
    · rw [up2_n _ _ (fun z => hc z.2)]
      show (if i < nr σ then some (roomE ad σ sc i) else none) = _
      by_cases hi : i < nr σ
      · rw [if_pos hi, if_pos (by omega)]
        unfold roomE
        rw [e12, e14, e15, e16, e16, scN_i _ _ _ _ (by omega), scN_i _ _ _ _ (by omega), if_neg hc, if_neg hc, if_neg (by omega), if_neg (by omega), if_neg hc, if_neg hc]
      · rw [if_neg hi, if_neg (by omega)]
  | 9, _ =>
    rw [up2_n _ _ (by omega), up2_n _ _ (by omega)]
    show _ = (if i < nr (stAR σ (nI n) wa po aim) then some (machE (stAR σ (nI n) wa po aim) i) else none)
    rw [en]
    by_cases hc : i = nr σ
    · subst hc
      rw [up2_s, if_pos (Nat.lt_succ_self _)]
      unfold machE
      rw [e13, e16, e16, e16, e16, if_pos rfl, if_neg (by omega), if_neg (by omega), if_neg (by omega), if_neg (by omega), f2 1 (by omega) (by omega), f2 2 (by omega) (by omega), f2 3 (by omega) (by omega), f2 4 (by omega) (by omega)]
    · rw [up2_n _ _ (fun z => hc z.2), up2_n _ _ (by omega), up2_n _ _ (by omega)]
      show (if i < nr σ then some (machE σ i) else none) = _
      by_cases hi : i < nr σ
      · rw [if_pos hi, if_pos (by omega)]
        unfold machE
        rw [e13, e16, e16, e16, e16, if_neg hc, if_neg (by omega), if_neg (by omega), if_neg (by omega), if_neg (by omega)]
      · rw [if_neg hi, if_neg (by omega)]
  | 10, _ =>
    rw [up2_n _ _ (by omega)]
    show _ = (if i < nr (stAR σ (nI n) wa po aim) then some (remE (stAR σ (nI n) wa po aim) (scN σ sc) i) else none)
    rw [en]
    by_cases hc : i = nr σ
    · subst hc
      rw [up2_s, if_pos (Nat.lt_succ_self _)]
      unfold remE
      rw [e13, scN_i _ _ _ _ (by omega), scN_i _ _ _ _ (by omega), scN_i _ _ _ _ (by omega), scN_i _ _ _ _ (by omega), if_pos rfl, if_pos rfl, if_pos rfl, if_pos rfl, if_pos rfl]
    · rw [up2_n _ _ (fun z => hc z.2), up2_n _ _ (by omega), up2_n _ _ (by omega), up2_n _ _ (by omega)]
      show (if i < nr σ then some (remE σ sc i) else none) = _
      by_cases hi : i < nr σ
      · rw [if_pos hi, if_pos (by omega)]
        unfold remE
        rw [e13, scN_i _ _ _ _ (by omega), scN_i _ _ _ _ (by omega), scN_i _ _ _ _ (by omega), scN_i _ _ _ _ (by omega), if_neg hc, if_neg hc, if_neg hc, if_neg hc, if_neg hc]
      · rw [if_neg hi, if_neg (by omega)]
  | 11, _ =>
    rw [up2_n _ _ (by omega), up2_n _ _ (by omega), up2_n _ _ (by omega)]
    show _ = (if i < nr (stAR σ (nI n) wa po aim) then some (plcE g ad (stAR σ (nI n) wa po aim) pl i) else none)
    rw [en]
    by_cases hc : i = nr σ
    · subst hc
      rw [up2_s, if_pos (Nat.lt_succ_self _)]
      unfold plcE
      rw [e11, if_pos rfl, cN_nI (show n < 2 ^ 31 by omega)]
      have e : (fun j => (pl (nr σ) j).map (ad 12)) = fun _ => none := by
        funext j
        rw [hP.out (nr σ) j (fun z => by omega)]
        rfl
      rw [e]
    · rw [up2_n _ _ (fun z => hc z.2), up2_n _ _ (by omega)]
      show (if i < nr σ then some (plcE g ad σ pl i) else none) = _
      by_cases hi : i < nr σ
      · rw [if_pos hi, if_pos (by omega)]
        unfold plcE
        rw [e11, if_neg hc]
      · rw [if_neg hi, if_neg (by omega)]
  | _ + 13, _ => rw [up2_n _ _ (by omega), up2_n _ _ (by omega), up2_n _ _ (by omega), up2_n _ _ (by omega), up2_n _ _ (by omega)]; rfl
end ADR2
