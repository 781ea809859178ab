/-! THE MODEL: told .. ship -/
section FMH
variable {g : Gg} {ad : Ad} {σ : Sg} {pd : Int64} {th : Int32} {h : Wd}
theorem objM_ad {k i q : Nat} (hk : 44 ≤ k) : objM (adup ad k i q) σ pd th = objM ad σ pd th := by
  have e : ∀ a : Nat, a < 44 → adup ad k i q a 0 = ad a 0 := fun a ha => adup_n ad q (fun z => by omega)
  unfold objM
  rw [e 24 (by decide), e 26 (by decide), e 27 (by decide), e 28 (by decide), e 29 (by decide), e 31 (by decide), e 32 (by decide), e 33 (by decide), e 34 (by decide), e 35 (by decide), e 36 (by decide), e 38 (by decide), e 39 (by decide), e 40 (by decide), e 41 (by decide)]
theorem fM_h {k i : Nat} {e : va_E} (hk : 44 ≤ k) : up2 (fM g ad σ pd th h) k i e = fM g ad σ pd th (up2 h k i e) := by
  funext k' i'
  by_cases hc : k' = k ∧ i' = i
  · obtain ⟨rfl, rfl⟩ := hc
    rw [up2_s]
    unfold fM
    rw [if_pos (Or.inr hk), up2_s]
  · rw [up2_n _ _ hc]
    unfold fM
    rw [up2_n _ _ hc]
theorem fM_hi {k i : Nat} {e : va_E} (hk : 44 ≤ k) : fM g ad σ pd th (up2 h k i e) k i = some e := by
  unfold fM
  rw [if_pos (Or.inr hk), up2_s]
theorem fM_tmp {k i q : Nat} {e : va_E} (hk : 44 ≤ k) : up2 (fM g ad σ pd th h) k i e = fM g (adup ad k i q) σ pd th (up2 h k i e) := by
  rw [fM_h hk]
  unfold fM
  rw [objM_ad hk]
theorem fM_back {ad2 : Ad} {k i q : Nat} {x : va_E} (had : ad2 = adup ad k i q) (hk : 44 ≤ k) (hh : h k i = none) : ∀ k' i' e, fM g ad σ pd th h k' i' = some e → fM g ad2 σ pd th (up2 h k i x) k' i' = some e ∧ ad k' i' = ad2 k' i' := by
  subst had
  intro k' i' e he
  have hc : ¬ (k' = k ∧ i' = i) := by
    rintro ⟨rfl, rfl⟩
    unfold fM at he
    rw [if_pos (Or.inr hk), hh] at he
    cases he
  refine ⟨?_, (adup_n ad q hc).symm⟩
  unfold fM at he ⊢
  rw [objM_ad hk, up2_n _ _ hc]
  exact he
end FMH
def leftS (σ : Sg) (p : Nat) : Int32 := σ 8 (prd σ p) - σ 21 p
abbrev goS (σ : Sg) (a b : Nat) : Prop := a = b ∨ (¬ σ 9 a = 3 ∧ ¬ σ 9 b = 3 ∧ ¬ σ 9 a + σ 9 b = 3)
def reasAt (σ : Sg) (a r : Nat) : Nat → Bool
  | 0 => false
  | k + 1 => reasAt σ a r k || (decide (σ 19 k = nI r) && !decide (goS σ a (prd σ k)))
theorem reasAt_up {σ : Sg} {a r : Nat} {k n : Nat} (h : reasAt σ a r k = true) (hn : k ≤ n) : reasAt σ a r n = true := by
  induction hn with
  | refl => exact h
  | step _ ih => simp [reasAt, ih]
def reasonS (σ : Sg) (a r : Nat) : Int32 := if freeS σ r = 0 then 1 else if reasAt σ a r (nt σ) = true then 2 else 0
def toldR (σ : Sg) (r w : Nat) : Int32 := match w with
  | 0 => σ 16 (6 * r)
  | 1 => σ 14 r
  | 2 => σ 16 (6 * r + 1)
  | 3 => σ 16 (6 * r + 2)
  | 4 => freeS σ r
  | 5 => σ 16 (6 * r + 4)
  | _ => σ 16 (6 * r + 5)
def toldP (σ : Sg) (p : Nat) (w : Int32) : Int32 := if w = 0 then σ 18 p else if w = 1 then σ 20 p else if w = 2 then σ 21 p else if w = 3 then σ 19 p else leftS σ p
def offS (σ : Sg) (a : Nat) (t : Int32) : Int32 := mx 0 (mx (σ 6 a - t) (t - σ 7 a))
def bestAt (σ : Sg) (a : Nat) : Nat → Int32
  | 0 => -1
  | r + 1 => if reasonS σ a r = 0 then (if bestAt σ a r = -1 then nI r else if offS σ a (σ 14 r) - offS σ a (σ 14 (cN (bestAt σ a r))) < 0 ∨ (offS σ a (σ 14 r) - offS σ a (σ 14 (cN (bestAt σ a r))) = 0 ∧ freeS σ (cN (bestAt σ a r)) < freeS σ r) then nI r else bestAt σ a r) else bestAt σ a r
theorem bestAt_in (σ : Sg) (a : Nat) : ∀ k : Nat, k < 2 ^ 31 → bestAt σ a k = -1 ∨ ∃ j : Nat, j < k ∧ bestAt σ a k = nI j
  | 0, _ => Or.inl rfl
  | r + 1, hk => by
    have ih := bestAt_in σ a r (by omega)
    have ih2 : bestAt σ a r = -1 ∨ ∃ j : Nat, j < r + 1 ∧ bestAt σ a r = nI j := ih.imp id (fun ⟨j, h1, h2⟩ => ⟨j, by omega, h2⟩)
    have hr : nI r = -1 ∨ ∃ j : Nat, j < r + 1 ∧ nI r = nI j := Or.inr ⟨r, by omega, rfl⟩
    unfold bestAt
    split
    · split
      · exact hr
      · split
        · exact hr
        · exact ih2
    · exact ih2
def kdRO (σ : Sg) (v w : Int32) : Int32 := if (0 ≤ v ∧ v ≤ σ 10 0 - 1) ∧ (0 ≤ w ∧ w ≤ 6) then 0 else 1
def kdRE (σ : Sg) (u v : Int32) : Int32 := if (0 ≤ u ∧ u ≤ σ 5 0 - 1) ∧ (0 ≤ v ∧ v ≤ σ 10 0 - 1) then 0 else 1
def kdAV (σ : Sg) (u v t : Int32) : Int32 := if (0 ≤ u ∧ u ≤ σ 5 0 - 1) ∧ (0 ≤ v ∧ v ≤ σ 10 0 - 1) then (if -300 ≤ t ∧ t ≤ 400 then (if reasonS σ (cN u) (cN v) = 0 ∧ ¬ σ 17 0 = 60 then 0 else 3) else 2) else 1
def stAV (σ : Sg) (u v t : Int32) : Sg := ss (s1 (s1 (s1 σ 18 (nt σ) u) 19 (nt σ) v) 20 (nt σ) t) 17 (σ 17 0 + 1)
def kdMV (σ : Sg) (u v : Int32) : Int32 := if (0 ≤ u ∧ u ≤ σ 17 0 - 1) ∧ (0 ≤ v ∧ v ≤ σ 10 0 - 1) then (if σ 19 (cN u) = -1 ∨ σ 19 (cN u) = v ∨ ¬ reasonS σ (prd σ (cN u)) (cN v) = 0 then 2 else 0) else 1
def stMV (σ : Sg) (u v : Int32) : Sg := s1 σ 19 (cN u) v
def kdPA (σ : Sg) (u w : Int32) : Int32 := if (0 ≤ u ∧ u ≤ σ 17 0 - 1) ∧ (0 ≤ w ∧ w ≤ 4) then 0 else 1
def kdPR (σ : Sg) (u : Int32) : Int32 := if 0 ≤ u ∧ u ≤ σ 5 0 - 1 then 0 else 1
def up7 (x0 x1 x2 x3 x4 x5 x6 : Int32) : Nat → Int32 := upd (upd (upd (upd (upd (upd (upd (fun _ => 0) 0 x0) 1 x1) 2 x2) 3 x3) 4 x4) 5 x5) 6 x6
theorem up7_told (σ : Sg) (r w : Nat) (hw : w < 7) : up7 (σ 16 (6 * r)) (σ 14 r) (σ 16 (6 * r + 1)) (σ 16 (6 * r + 2)) (freeS σ r) (σ 16 (6 * r + 4)) (σ 16 (6 * r + 5)) w = toldR σ r w := by
  match w, hw with
  | 0, _ => rfl
  | 1, _ => rfl
  | 2, _ => rfl
  | 3, _ => rfl
  | 4, _ => rfl
  | 5, _ => rfl
  | 6, _ => rfl
  | k + 7, h => exact absurd h (by omega)
