/-! THE COLD STORE'S CALLS: a new product -/
section ADP
variable {g : Gg} {ad : Ad} {σ : Sg} {pd : Int64} {pl : Pl} {sc : Sg} {h : Wd}
/-- addresses of cells that are not there don't matter -/
theorem fC_ad7 (hok : OkP σ) {q : Nat} : fC g ad σ pd pl sc h = fC g (adup ad 7 (np σ) q) σ pd pl sc h := by
  obtain ⟨h17, h60, h10, h6, h5, h12, hpr, hrm⟩ := hok
  have e7 : ∀ j, j < np σ → adup ad 7 (np σ) q 7 j = ad 7 j := fun j hj => adup_n _ _ (fun z => by omega)
  funext k i
  match k with
  | 0 => rfl
  | 1 => rfl
  | 2 => rfl
  | 3 => rfl
  | 4 =>
    show (if i = 0 then _ else _) = (if i = 0 then _ else _)
    by_cases hi : i = 0
    · rw [if_pos hi, if_pos hi]
      have e : (fun j => if j < np σ then some (ad 7 j) else none) = (fun j => if j < np σ then some (adup ad 7 (np σ) q 7 j) else none) := by
        funext j
        by_cases hj : j < np σ
        · rw [if_pos hj, if_pos hj, e7 j hj]
        · rw [if_neg hj, if_neg hj]
      rw [e]
    · rw [if_neg hi, if_neg hi]
  | 5 => rfl
  | 6 => rfl
  | 7 => rfl
  | 8 => rfl
  | 9 => rfl
  | 10 => rfl
  | 11 => rfl
  | 12 =>
    show (if i < nt σ then _ else _) = (if i < nt σ then _ else _)
    by_cases hi : i < nt σ
    · rw [if_pos hi, if_pos hi]
      unfold palE
      rw [e7 _ (hpr i hi).2]
      rfl
    · rw [if_neg hi, if_neg hi]
  | k + 13 => rfl
theorem np_AP {lo hi life sm : Int32} (h5 : σ 5 0 = nI (np σ)) (h12 : np σ < 12) : np (stAP σ lo hi life sm) = np σ + 1 := by
  show cN (σ 5 0 + 1) = np σ + 1
  conv => lhs; rw [h5, nI_1]
  exact cN_nI (by omega)
theorem fC_addP {lo hi life sm : Int32} (hok : OkP σ) (h12 : np σ < 12) : up2 (up2 (up2 (fC g ad σ pd pl sc h) 7 (np σ) (.inr (3, [.int (nI (np σ)), .int lo, .int hi, .int life, .int sm]))) 4 0 (.inl (g.2 3, 12, .inr (.inr (.inr (.inr (va_up (fun j => if j < np σ then some (ad 7 j) else none) (np σ) (some (ad 7 (np σ))))))))))  0 0 (.inr (6, [.ref (ad 1 0), .ref (ad 2 0), .ref (ad 4 0), .ref (ad 5 0), .ref (ad 6 0), .int (σ 5 0 + 1), .int (σ 10 0), .int (σ 17 0), .int (σ 22 0), .int (σ 1 0), .long pd])) = fC g ad (stAP σ lo hi life sm) pd pl sc h := by
  obtain ⟨h17, h60, h10, h6, h5, h12', hpr, hrm⟩ := hok
  have en := np_AP (lo := lo) (hi := hi) (life := life) (sm := sm) h5 h12
  refine up2_to rfl (fun k i hk => ?_)
  match k, hk with
  | 0, hk =>
    rw [up2_n _ _ (by omega), up2_n _ _ (by omega)]
    exact (if_neg (fun z => hk ⟨rfl, z⟩)).trans (if_neg (fun z => hk ⟨rfl, z⟩)).symm
  | 1, _ => rw [up2_n _ _ (by omega), up2_n _ _ (by omega)]; rfl
  | 2, _ => rw [up2_n _ _ (by omega), up2_n _ _ (by omega)]; rfl
  | 3, _ => rw [up2_n _ _ (by omega), up2_n _ _ (by omega)]; rfl
  | 4, _ =>
    by_cases hc : i = 0
    · subst hc
      rw [up2_s]
      rw [fC_4]
      rw [en]
      have e : va_up (fun j => if j < np σ then some (ad 7 j) else none) (np σ) (some (ad 7 (np σ))) = (fun j => if j < np σ + 1 then some (ad 7 j) else none) := by
        funext j
        unfold va_up
        by_cases hj : j = np σ
        · rw [if_pos hj, if_pos (by omega), hj]
        · rw [if_neg hj]
          show (if j < np σ then some (ad 7 j) else none) = _
          by_cases hj2 : j < np σ
          · rw [if_pos hj2, if_pos (by omega)]
          · rw [if_neg hj2, if_neg (by omega)]
      rw [e]
    · rw [up2_n _ _ (by omega), up2_n _ _ (by omega)]
      exact (if_neg hc).trans (if_neg hc).symm
  | 5, _ => rw [up2_n _ _ (by omega), up2_n _ _ (by omega)]; rfl
  | 6, _ => rw [up2_n _ _ (by omega), up2_n _ _ (by omega)]; rfl
  | 7, _ =>
    rw [up2_n _ _ (by omega)]
    show _ = (if i < np (stAP σ lo hi life sm) then some (prodE (stAP σ lo hi life sm) i) else none)
    rw [en]
    by_cases hc : i = np σ
    · subst hc
      rw [up2_s, if_pos (Nat.lt_succ_self _)]
      unfold prodE
      rw [show (stAP σ lo hi life sm) 6 (np σ) = lo from upd_s _ _ _, show (stAP σ lo hi life sm) 7 (np σ) = hi from upd_s _ _ _, show (stAP σ lo hi life sm) 8 (np σ) = life from upd_s _ _ _, show (stAP σ lo hi life sm) 9 (np σ) = sm from upd_s _ _ _]
    · rw [up2_n _ _ (by omega)]
      show (if i < np σ then some (prodE σ i) else none) = _
      by_cases hi2 : i < np σ
      · rw [if_pos hi2, if_pos (by omega)]
        unfold prodE
        rw [show (stAP σ lo hi life sm) 6 i = σ 6 i from upd_n _ _ hc, show (stAP σ lo hi life sm) 7 i = σ 7 i from upd_n _ _ hc, show (stAP σ lo hi life sm) 8 i = σ 8 i from upd_n _ _ hc, show (stAP σ lo hi life sm) 9 i = σ 9 i from upd_n _ _ hc]
      · rw [if_neg hi2, if_neg (by omega)]
  | 8, _ => rw [up2_n _ _ (by omega), up2_n _ _ (by omega)]; rfl
  | 9, _ => rw [up2_n _ _ (by omega), up2_n _ _ (by omega)]; rfl
  | 10, _ => rw [up2_n _ _ (by omega), up2_n _ _ (by omega)]; rfl
  | 11, _ => rw [up2_n _ _ (by omega), up2_n _ _ (by omega)]; rfl
  | 12, _ => rw [up2_n _ _ (by omega), up2_n _ _ (by omega)]; rfl
  | _ + 13, _ => rw [up2_n _ _ (by omega), up2_n _ _ (by omega)]; rfl
end ADP
