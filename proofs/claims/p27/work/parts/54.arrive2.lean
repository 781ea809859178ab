/-! A NEW PALLET: the world with it -/
section ARR2
variable {g : Gg} {ad : Ad} {σ : Sg} {pd : Int64} {pl : Pl} {sc : Sg} {h : Wd}
theorem fC_addT {a r j0 : Nat} {t9 : Int32} (hok : OkP σ) (hF : Fr σ) (hr : r < nr σ) (ha : a < np σ) (hn : nt σ < 60) : up2 (up2 (up2 (up2 (fC g ad σ pd pl sc h) 12 (nt σ) (.inr (2, [.ref (ad 7 a), .ref (ad 8 r), .int t9, .int 0, .int 0, .int 0]))) 11 r (.inl (g.2 2, cN (σ 11 r), .inr (.inr (.inr (.inr (va_up (fun j => (pl r j).map (ad 12)) j0 (some (ad 12 (nt σ)))))))))) 6 0 (.inl (g.2 2, 60, .inr (.inr (.inr (.inr (va_up (fun j => if j < nt σ then some (ad 12 j) else none) (nt σ) (some (ad 12 (nt σ)))))))))) 0 0 (.inr (6, [.ref (ad 1 0), .ref (ad 2 0), .ref (ad 4 0), .ref (ad 5 0), .ref (ad 6 0), .int (σ 5 0), .int (σ 10 0), .int (σ 17 0 + 1), .int (σ 22 0), .int (σ 1 0), .long pd])) = fC g ad (stAV σ (nI a) (nI r) t9) pd (plu pl r j0 (some (nt σ))) (s1 (s1 sc 6 (nt σ) 0) 7 (nt σ) 0) h := by
  obtain ⟨h17, h60, h10, h6, h5, h12, hpr, hrm⟩ := id hok
  have en := nt_AV (u := nI a) (v := nI r) (t9 := t9) h17 hn
  refine up2_to rfl (fun k i hk => ?_)
  match k, hk with
  | 0, hk =>
    rw [up2_n _ _ (by omega), up2_n _ _ (by omega), up2_n _ _ (by omega)]
    exact (if_neg (fun z => hk ⟨rfl, z⟩)).trans (if_neg (fun z => hk ⟨rfl, z⟩)).symm
  | 1, _ => rw [up2_n _ _ (by omega), up2_n _ _ (by omega), up2_n _ _ (by omega)]; rfl
  | 2, _ => rw [up2_n _ _ (by omega), up2_n _ _ (by omega), up2_n _ _ (by omega)]; rfl
  | 3, _ => rw [up2_n _ _ (by omega), up2_n _ _ (by omega), up2_n _ _ (by omega)]; rfl
  | 4, _ => rw [up2_n _ _ (by omega), up2_n _ _ (by omega), up2_n _ _ (by omega)]; rfl
  | 5, _ => rw [up2_n _ _ (by omega), up2_n _ _ (by omega), up2_n _ _ (by omega)]; rfl
  | 7, _ => rw [up2_n _ _ (by omega), up2_n _ _ (by omega), up2_n _ _ (by omega)]; rfl
  | 8, _ => rw [up2_n _ _ (by omega), up2_n _ _ (by omega), up2_n _ _ (by omega)]; rfl
  | 9, _ => rw [up2_n _ _ (by omega), up2_n _ _ (by omega), up2_n _ _ (by omega)]; rfl
  | 10, _ => rw [up2_n _ _ (by omega), up2_n _ _ (by omega), up2_n _ _ (by omega)]; rfl
  | 6, _ =>
    by_cases hc : i = 0
    · subst hc
      rw [up2_s, fC_6, en]
      have e : va_up (fun j => if j < nt σ then some (ad 12 j) else none) (nt σ) (some (ad 12 (nt σ))) = (fun j => if j < nt σ + 1 then some (ad 12 j) else none) := by
        funext j
        unfold va_up
        by_cases hj : j = nt σ
        · rw [if_pos hj, if_pos (by omega), hj]
        · rw [if_neg hj]
          show (if j < nt σ then some (ad 12 j) else none) = _
          by_cases hj2 : j < nt σ
          · rw [if_pos hj2, if_pos (by omega)]
          · rw [if_neg hj2, if_neg (by omega)]
      rw [e]
    · rw [up2_n _ _ (by omega), up2_n _ _ (by omega), up2_n _ _ (by omega)]
      exact (if_neg hc).trans (if_neg hc).symm
  | 11, _ =>
    rw [up2_n _ _ (by omega)]
    by_cases hc : i = r
    · subst hc
      rw [up2_s, fC_11 (show i < nr (stAV σ (nI a) (nI i) t9) from hr)]
      unfold plcE
      have e : va_up (fun j => (pl i j).map (ad 12)) j0 (some (ad 12 (nt σ))) = fun j' => (plu pl i j0 (some (nt σ)) i j').map (ad 12) := by
        funext q
        unfold va_up plu
        by_cases hq : q = j0
        · rw [if_pos hq, if_pos ⟨rfl, hq⟩]
          rfl
        · rw [if_neg hq, if_neg (fun z => hq z.2)]
      rw [e]
      rfl
    · rw [up2_n _ _ (fun z => hc z.2), up2_n _ _ (by omega)]
      show (if i < nr σ then some (plcE g ad σ pl i) else none) = (if i < nr σ then some (plcE g ad (stAV σ (nI a) (nI r) t9) (plu pl r j0 (some (nt σ))) i) else none)
      unfold plcE
      have e : (fun j' => (plu pl r j0 (some (nt σ)) i j').map (ad 12)) = fun j' => (pl i j').map (ad 12) := by
        funext q
        rw [plu_n _ _ (fun z => hc z.1)]
      rw [e]
      rfl
  | 12, _ =>
    rw [up2_n _ _ (by omega), up2_n _ _ (by omega)]
    show _ = (if i < nt (stAV σ (nI a) (nI r) t9) then some (palE ad (stAV σ (nI a) (nI r) t9) (s1 (s1 sc 6 (nt σ) 0) 7 (nt σ) 0) i) else none)
    rw [en]
    have e18 : ∀ q : Nat, stAV σ (nI a) (nI r) t9 18 q = if q = nt σ then nI a else σ 18 q := fun q => rfl
    have e19 : ∀ q : Nat, stAV σ (nI a) (nI r) t9 19 q = if q = nt σ then nI r else σ 19 q := fun q => rfl
    have e20 : ∀ q : Nat, stAV σ (nI a) (nI r) t9 20 q = if q = nt σ then t9 else σ 20 q := fun q => rfl
    have e21 : ∀ q : Nat, stAV σ (nI a) (nI r) t9 21 q = σ 21 q := fun q => rfl
    have s6 : ∀ q : Nat, (s1 (s1 sc 6 (nt σ) 0) 7 (nt σ) 0) 6 q = if q = nt σ then 0 else sc 6 q := fun q => rfl
    have s7 : ∀ q : Nat, (s1 (s1 sc 6 (nt σ) 0) 7 (nt σ) 0) 7 q = if q = nt σ then 0 else sc 7 q := fun q => rfl
    by_cases hc : i = nt σ
    · subst hc
      rw [up2_s, if_pos (Nat.lt_succ_self _)]
      unfold palE rmR rmo prd
      rw [e18, e19, e20, e21, s6, s7, if_pos rfl, if_pos rfl, if_pos rfl, if_pos rfl, if_pos rfl, hF.1 _ (Nat.le_refl _), cN_nI (show a < 2 ^ 31 by omega), cN_nI (show r < 2 ^ 31 by omega), if_neg (fun z => absurd (nI_nn (show r < 2 ^ 31 by omega)) (by rw [z]; decide))]
      rfl
    · rw [up2_n _ _ (fun z => hc z.2)]
      show (if i < nt σ then some (palE ad σ sc i) else none) = _
      by_cases hi2 : i < nt σ
      · rw [if_pos hi2, if_pos (by omega)]
        unfold palE rmR rmo prd
        rw [e18, e19, e20, e21, s6, s7, if_neg hc, if_neg hc, if_neg hc, if_neg hc, if_neg hc]
      · rw [if_neg hi2, if_neg (by omega)]
  | _ + 13, _ => rw [up2_n _ _ (by omega), up2_n _ _ (by omega), up2_n _ _ (by omega)]; rfl
end ARR2
