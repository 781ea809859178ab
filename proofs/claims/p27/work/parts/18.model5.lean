/-! THE MODEL: an hour in a room, tick -/
theorem r16 {σ : Sg} {k j j' : Nat} {x : Int32} (h : j' ≠ j) : su σ k (upd (σ k) j x) k j' = σ k j' := by rw [su_s]; exact upd_n _ _ h
theorem smS_row (σ : Sg) (r hh : Nat) {k : Nat} (hk : k ≠ 16) : smS σ r hh k = σ k := by
  have e : ∀ (τ : Sg) (j : Nat) (x : Int32), s1 τ 16 j x k = τ k := fun τ j x => su_n _ _ hk
  unfold smS
  split
  · split
    · rw [e, e, e]
    · rw [e]
  · split
    · rw [e]
    · split
      · rw [e]
      · split
        · rw [e]
        · rfl
theorem OkP_congr {σ τ : Sg} (h : OkP σ) (e5 : τ 5 = σ 5) (e10 : τ 10 = σ 10) (e17 : τ 17 = σ 17) (e18 : τ 18 = σ 18) (e19 : τ 19 = σ 19) : OkP τ := by
  have n5 : np τ = np σ := by unfold np; rw [e5]
  have n10 : nr τ = nr σ := by unfold nr; rw [e10]
  have n17 : nt τ = nt σ := by unfold nt; rw [e17]
  obtain ⟨h1, h2, h3, h4, h5, h6, h7, h8⟩ := h
  unfold OkP
  rw [n5, n10, n17, e5, e10, e17, e18, e19]
  refine ⟨h1, h2, h3, h4, h5, h6, fun p hp => ?_, fun p hp => ?_⟩
  · have := h7 p hp
    unfold prd at this ⊢
    rw [e18]
    exact this
  · have := h8 p hp
    unfold rmo at this ⊢
    rw [e19]
    exact this
def hWarm (τ : Sg) (r : Nat) (t by0 : Int32) : Nat → Int32
  | 0 => by0
  | k + 1 => if τ 19 k = nI r then hWarm τ r t by0 k + (τ 20 k - t) / 40 else hWarm τ r t by0 k
def hBy0 (τ : Sg) (r hh : Nat) : Int32 := (outS τ (nI hh) - τ 16 (6 * r)) * τ 12 r / 200
def hBy1 (τ : Sg) (r hh : Nat) : Int32 := hWarm τ r (τ 16 (6 * r)) (hBy0 τ r hh) (nt τ)
def hBy2 (τ : Sg) (r hh : Nat) : Int32 := if τ 16 (6 * r + 2) = 2 then hBy1 τ r hh + 8 else hBy1 τ r hh
def hBy3 (τ : Sg) (r hh : Nat) : Int32 := if τ 16 (6 * r + 2) = 1 then hBy2 τ r hh - τ 13 r * (100 - τ 16 (6 * r + 1)) / 1000 else hBy2 τ r hh
def hPd (τ : Sg) (pd : Int64) (r hh : Nat) : Int64 := if τ 16 (6 * r + 2) = 1 then pd + (τ 13 r).toInt64 * (τ 4 hh).toInt64 else pd
def hOn (τ : Sg) (r : Nat) : Sg := if τ 16 (6 * r + 2) = 1 then s1 (s1 τ 16 (6 * r + 4) (τ 16 (6 * r + 4) + τ 13 r)) 16 (6 * r + 1) (mn 90 (τ 16 (6 * r + 1) + 1)) else τ
def hTm (τ : Sg) (r hh : Nat) : Sg := s1 (hOn τ r) 16 (6 * r) (τ 16 (6 * r) + hBy3 τ r hh)
def hWm (υ : Sg) (r : Nat) : Sg := if υ 14 r + 20 < υ 16 (6 * r) then s1 υ 16 (6 * r + 5) (υ 16 (6 * r + 5) + 1) else υ
def nTp (υ : Sg) (r p : Nat) : Int32 := υ 20 p + (υ 16 (6 * r) - υ 20 p) / 8
def hPt (υ : Sg) (r k : Nat) : Nat → Int32 := fun p => if p < k ∧ υ 19 p = nI r then nTp υ r p else υ 20 p
def hAg (υ : Sg) (r k : Nat) : Nat → Int32 := fun p => if p < k ∧ υ 19 p = nI r then υ 21 p + (1 + offS υ (prd υ p) (nTp υ r p) / 10) else υ 21 p
def hPal (υ : Sg) (r k : Nat) : Sg := su (su υ 20 (hPt υ r k)) 21 (hAg υ r k)
def hMid (υ : Sg) (r k : Nat) : Sg := su (su υ 20 (hPt υ r (k + 1))) 21 (hAg υ r k)
def hUp (σ : Sg) (r hh : Nat) : Sg := hWm (hTm (smS σ r hh) r hh) r
def hourS (σ : Sg) (r hh : Nat) : Sg := hPal (hUp σ r hh) r (nt (hUp σ r hh))
def hourP (σ : Sg) (pd : Int64) (r hh : Nat) : Int64 := hPd (smS σ r hh) pd r hh
theorem su_id (σ : Sg) (k : Nat) {fn : Nat → Int32} (h : ∀ j, fn j = σ k j) : su σ k fn = σ := by
  funext q j
  by_cases hq : q = k
  · subst hq
    rw [su_s, h]
  · rw [su_n _ _ hq]
theorem hPal_0 (υ : Sg) (r : Nat) : hPal υ r 0 = υ := by
  unfold hPal
  rw [su_id υ 20 (show ∀ j, hPt υ r 0 j = υ 20 j from fun j => if_neg (by omega))]
  exact su_id υ 21 (show ∀ j, hAg υ r 0 j = υ 21 j from fun j => if_neg (by omega))
theorem hPal_n {υ : Sg} {r k : Nat} (h : ¬ υ 19 k = nI r) : hPal υ r k = hPal υ r (k + 1) := by
  have e1 : hPt υ r k = hPt υ r (k + 1) := by
    funext p
    unfold hPt
    by_cases hc : p < k ∧ υ 19 p = nI r
    · rw [if_pos hc, if_pos ⟨by omega, hc.2⟩]
    · rw [if_neg hc, if_neg]
      rintro ⟨z1, z2⟩
      by_cases hp : p = k
      · subst hp; exact h z2
      · exact hc ⟨by omega, z2⟩
  have e2 : hAg υ r k = hAg υ r (k + 1) := by
    funext p
    unfold hAg
    by_cases hc : p < k ∧ υ 19 p = nI r
    · rw [if_pos hc, if_pos ⟨by omega, hc.2⟩]
    · rw [if_neg hc, if_neg]
      rintro ⟨z1, z2⟩
      by_cases hp : p = k
      · subst hp; exact h z2
      · exact hc ⟨by omega, z2⟩
  unfold hPal
  rw [e1, e2]
theorem hPt_k (υ : Sg) (r k : Nat) : hPt υ r k k = υ 20 k := if_neg (by omega)
theorem hAg_k (υ : Sg) (r k : Nat) : hAg υ r k k = υ 21 k := if_neg (by omega)
theorem hPal_a {υ : Sg} {r k : Nat} (h : υ 19 k = nI r) : su (hPal υ r k) 20 (upd (hPal υ r k 20) k (hPal υ r k 20 k + (hPal υ r k 16 (6 * r) - hPal υ r k 20 k) / 8)) = hMid υ r k := by
  have e20 : hPal υ r k 20 = hPt υ r k := rfl
  have e16 : hPal υ r k 16 = υ 16 := rfl
  rw [e20, e16, hPt_k]
  have e1 : upd (hPt υ r k) k (υ 20 k + (υ 16 (6 * r) - υ 20 k) / 8) = hPt υ r (k + 1) := by
    funext p
    by_cases hp : p = k
    · subst hp
      rw [upd_s]
      exact (if_pos ⟨Nat.lt_succ_self _, h⟩).symm
    · rw [upd_n _ _ hp]
      unfold hPt
      by_cases hc : p < k ∧ υ 19 p = nI r
      · rw [if_pos hc, if_pos ⟨by omega, hc.2⟩]
      · rw [if_neg hc, if_neg (fun z => hc ⟨by omega, z.2⟩)]
  rw [e1]
  funext q j
  unfold hMid hPal
  by_cases h21 : q = 21
  · subst h21
    rfl
  · by_cases h20 : q = 20
    · subst h20
      rfl
    · rw [su_n _ _ h20, su_n _ _ h21, su_n _ _ h20, su_n _ _ h21, su_n _ _ h20]
theorem hPal_b {υ : Sg} {r k : Nat} (h : υ 19 k = nI r) : su (hMid υ r k) 21 (upd (hMid υ r k 21) k (hMid υ r k 21 k + (1 + offS (hMid υ r k) (prd υ k) (hMid υ r k 20 k) / 10))) = hPal υ r (k + 1) := by
  have e21 : hMid υ r k 21 = hAg υ r k := rfl
  have e20 : hMid υ r k 20 k = nTp υ r k := if_pos ⟨Nat.lt_succ_self _, h⟩
  have eo : offS (hMid υ r k) (prd υ k) (nTp υ r k) = offS υ (prd υ k) (nTp υ r k) := rfl
  rw [e21, e20, eo, hAg_k]
  have e1 : upd (hAg υ r k) k (υ 21 k + (1 + offS υ (prd υ k) (nTp υ r k) / 10)) = hAg υ r (k + 1) := by
    funext p
    by_cases hp : p = k
    · subst hp
      rw [upd_s]
      exact (if_pos ⟨Nat.lt_succ_self _, h⟩).symm
    · rw [upd_n _ _ hp]
      unfold hAg
      by_cases hc : p < k ∧ υ 19 p = nI r
      · rw [if_pos hc, if_pos ⟨by omega, hc.2⟩]
      · rw [if_neg hc, if_neg (fun z => hc ⟨by omega, z.2⟩)]
  rw [e1]
  funext q j
  unfold hMid hPal
  by_cases h21 : q = 21
  · subst h21
    rw [su_s, su_s]
  · rw [su_n _ _ h21, su_n _ _ h21, su_n _ _ h21]
theorem hOn_row (τ : Sg) (r : Nat) {k : Nat} (hk : k ≠ 16) : hOn τ r k = τ k := by
  unfold hOn
  split
  · exact (su_n _ _ hk).trans (su_n _ _ hk)
  · rfl
theorem hWm_row (υ : Sg) (r : Nat) {k : Nat} (hk : k ≠ 16) : hWm υ r k = υ k := by
  unfold hWm
  split
  · exact su_n _ _ hk
  · rfl
theorem hUp_row (σ : Sg) (r hh : Nat) {k : Nat} (hk : k ≠ 16) : hUp σ r hh k = σ k := by
  unfold hUp
  rw [hWm_row _ _ hk]
  unfold hTm
  exact (su_n _ _ hk).trans ((hOn_row _ _ hk).trans (smS_row _ _ _ hk))
theorem hPal_row (υ : Sg) (r k : Nat) {q : Nat} (h20 : q ≠ 20) (h21 : q ≠ 21) : hPal υ r k q = υ q := (su_n _ _ h21).trans (su_n _ _ h20)
theorem hourS_row (σ : Sg) (r hh : Nat) {k : Nat} (hk : k ≠ 16) (h20 : k ≠ 20) (h21 : k ≠ 21) : hourS σ r hh k = σ k := (hPal_row _ _ _ h20 h21).trans (hUp_row _ _ _ hk)
theorem OkP_hUp {σ : Sg} (h : OkP σ) (r hh : Nat) : OkP (hUp σ r hh) := OkP_congr h (hUp_row _ _ _ (by decide)) (hUp_row _ _ _ (by decide)) (hUp_row _ _ _ (by decide)) (hUp_row _ _ _ (by decide)) (hUp_row _ _ _ (by decide))
theorem OkP_hour {σ : Sg} (h : OkP σ) (r hh : Nat) : OkP (hourS σ r hh) := OkP_congr h (hourS_row _ _ _ (by decide) (by decide) (by decide)) (hourS_row _ _ _ (by decide) (by decide) (by decide)) (hourS_row _ _ _ (by decide) (by decide) (by decide)) (hourS_row _ _ _ (by decide) (by decide) (by decide)) (hourS_row _ _ _ (by decide) (by decide) (by decide))
def roomsAt (x : Sg × Int64) (hh : Nat) : Nat → Sg × Int64
  | 0 => x
  | r + 1 => (hourS (roomsAt x hh r).1 r hh, hourP (roomsAt x hh r).1 (roomsAt x hh r).2 r hh)
theorem roomsAt_row (x : Sg × Int64) (hh : Nat) {k : Nat} (hk : k ≠ 16) (h20 : k ≠ 20) (h21 : k ≠ 21) : ∀ n, (roomsAt x hh n).1 k = x.1 k
  | 0 => rfl
  | n + 1 => (hourS_row _ _ _ hk h20 h21).trans (roomsAt_row x hh hk h20 h21 n)
theorem roomsAt_ok {x : Sg × Int64} (h : OkP x.1) (hh n : Nat) : OkP (roomsAt x hh n).1 := OkP_congr h (roomsAt_row _ _ (by decide) (by decide) (by decide) n) (roomsAt_row _ _ (by decide) (by decide) (by decide) n) (roomsAt_row _ _ (by decide) (by decide) (by decide) n) (roomsAt_row _ _ (by decide) (by decide) (by decide) n) (roomsAt_row _ _ (by decide) (by decide) (by decide) n)
def oneHr (x : Sg × Int64) : Sg × Int64 := (ss (roomsAt x (cN (x.1 1 0) % 24) (nr x.1)).1 1 (x.1 1 0 + 1), (roomsAt x (cN (x.1 1 0) % 24) (nr x.1)).2)
def tickAt (x : Sg × Int64) : Nat → Sg × Int64
  | 0 => x
  | n + 1 => oneHr (tickAt x n)
def kdTI (σ : Sg) (v : Int32) : Int32 := if (1 ≤ v ∧ v ≤ 200) ∧ σ 1 0 + v ≤ 2000 then 0 else 1
theorem OkP_1 {σ : Sg} (h : OkP σ) (v : Int32) : OkP (ss σ 1 v) := OkP_congr h rfl rfl rfl rfl rfl
theorem oneHr_ok {x : Sg × Int64} (h : OkP x.1) : OkP (oneHr x).1 := OkP_1 (roomsAt_ok h _ _) _
theorem tickAt_ok {x : Sg × Int64} (h : OkP x.1) : ∀ n, OkP (tickAt x n).1
  | 0 => h
  | n + 1 => oneHr_ok (tickAt_ok h n)
theorem tickAt_now {x : Sg × Int64} {t : Nat} (h : x.1 1 0 = nI t) : ∀ n, (tickAt x n).1 1 0 = nI (t + n)
  | 0 => h
  | n + 1 => by
    show (tickAt x n).1 1 0 + 1 = _
    rw [tickAt_now h n]
    exact nI_1 _
