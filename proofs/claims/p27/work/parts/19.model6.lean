/-! THE MODEL: clones and copies; foretelling -/
theorem WI.put2 {g : Gg} {ad : Ad} {B0 : Nat} {f : Wd} {s : State} {H H1 : Heap} {locs L : List Loc} (h : WI g ad B0 f s H locs) {k i : Nat} {e0 e : va_E} (h0 : f k i = some e0) (he : va_at g.1 vwCl (ad k i, e) H1) (z : H1.size = H.size) (oq : ∀ q : Nat, q ≠ ad k i → H1[q]? = H[q]?) (hL : ∀ x ∈ L, x.base = ad k i) : WI g ad B0 (up2 f k i e) s H1 (locs ++ L) := by
  obtain ⟨w1, w2, w3, w4, w5⟩ := h.put (n := 0) h0 he z oq
  refine ⟨w1, w2, w3, w4, fun x hx => ?_⟩
  rcases List.mem_append.mp hx with hx | hx
  · exact w5 x (List.mem_append_left _ hx)
  · rw [hL x hx]
    exact h.2.1.2 _ _ _ h0
section CLN
variable {p : Program} {l : Launch} {e : Env} {R : Room} {s : State} {m : MethodId} {args : Array Value} {below : List Frame} {meth : Method} {c : Code} {H : Heap} {locs : List Loc} {cells slots : Nat} {Q : State → Prop}
variable {g : Gg} {B0 : Nat} {ad : Ad} {f : Wd} {own : String} {cc : ByteArray} {nL : Nat} {ret : Option FieldType}
variable {pc : Nat} {ls : Array Slot} {rest : List Value} {kk ii : Nat}
end CLN
/-- the hours ahead: how many of n pass (k have passed) until the pallet is spoiled -/
def ahL (r : Nat) (pal : Int32) (t0 : Nat) : Nat → Nat → Sg × Int64 → Nat × (Sg × Int64)
  | 0, k, x => (k, x)
  | n + 1, k, x => if pal = -1 ∨ ¬ leftS x.1 (cN pal) < 0 then ahL r pal t0 n (k + 1) (hourS x.1 r ((t0 + k) % 24), hourP x.1 x.2 r ((t0 + k) % 24)) else (k, x)
theorem ahL_1 {r t0 n k : Nat} {pal : Int32} {x : Sg × Int64} (h : pal = -1 ∨ ¬ leftS x.1 (cN pal) < 0) : ahL r pal t0 (n + 1) k x = ahL r pal t0 n (k + 1) (hourS x.1 r ((t0 + k) % 24), hourP x.1 x.2 r ((t0 + k) % 24)) := if_pos h
theorem ahL_0 {r t0 n k : Nat} {pal : Int32} {x : Sg × Int64} (h : ¬ (pal = -1 ∨ ¬ leftS x.1 (cN pal) < 0)) : ahL r pal t0 (n + 1) k x = (k, x) := if_neg h
def aheadS (σ : Sg) (pd : Int64) (r M : Nat) (pal : Int32) : Nat × (Sg × Int64) := ahL r pal (cN (σ 1 0)) M 0 (σ, pd)
def ahI (σ x : Sg) : Prop := (∀ q : Nat, q ≠ 16 → q ≠ 20 → q ≠ 21 → x q = σ q) ∧ (∀ j : Nat, 36 ≤ j → x 16 j = σ 16 j) ∧ (∀ j : Nat, 60 ≤ j → x 20 j = σ 20 j) ∧ ∀ j : Nat, 60 ≤ j → x 21 j = σ 21 j
theorem ahI_ok {σ x : Sg} (h : ahI σ x) (hok : OkP σ) : OkP x := OkP_congr hok (h.1 5 (by decide) (by decide) (by decide)) (h.1 10 (by decide) (by decide) (by decide)) (h.1 17 (by decide) (by decide) (by decide)) (h.1 18 (by decide) (by decide) (by decide)) (h.1 19 (by decide) (by decide) (by decide))
theorem hUp_16 (σ : Sg) {r : Nat} (hr : r < 6) (hh : Nat) {j : Nat} (hj : 36 ≤ j) : hUp σ r hh 16 j = σ 16 j := by
  have e : ∀ (τ : Sg) (q : Nat) (x : Int32), q < 36 → s1 τ 16 q x 16 j = τ 16 j := fun τ q x hq => r16 (by omega)
  have h1 : smS σ r hh 16 j = σ 16 j := by
    unfold smS
    split
    · split
      · rw [e _ _ _ (by omega), e _ _ _ (by omega), e _ _ _ (by omega)]
      · rw [e _ _ _ (by omega)]
    · split
      · rw [e _ _ _ (by omega)]
      · split
        · rw [e _ _ _ (by omega)]
        · split
          · rw [e _ _ _ (by omega)]
          · rfl
  have h2 : hOn (smS σ r hh) r 16 j = smS σ r hh 16 j := by
    unfold hOn
    split
    · rw [e _ _ _ (by omega), e _ _ _ (by omega)]
    · rfl
  unfold hUp hWm
  split
  · rw [e _ _ _ (by omega)]
    unfold hTm
    rw [e _ _ _ (by omega), h2, h1]
  · unfold hTm
    rw [e _ _ _ (by omega), h2, h1]
theorem ahI_hour {σ x : Sg} (h : ahI σ x) (hok : OkP σ) {r : Nat} (hr : r < 6) (hh : Nat) : ahI σ (hourS x r hh) := by
  have hokx := OkP_hUp (ahI_ok h hok) r hh
  have h60 : nt (hUp x r hh) ≤ 60 := hokx.2.1
  obtain ⟨h1, h2, h3, h4⟩ := h
  refine ⟨fun q a b c => (hourS_row x r hh a b c).trans (h1 q a b c), fun j hj => (hUp_16 x hr hh hj).trans (h2 j hj), fun j hj => ?_, fun j hj => ?_⟩
  · have e : hourS x r hh 20 j = hUp x r hh 20 j := if_neg (fun z => absurd z.1 (by omega))
    rw [e, hUp_row _ _ _ (by decide)]
    exact h3 j hj
  · have e : hourS x r hh 21 j = hUp x r hh 21 j := if_neg (fun z => absurd z.1 (by omega))
    rw [e, hUp_row _ _ _ (by decide)]
    exact h4 j hj
theorem cpy_n {f0 f1 : Nat → Int32} {N : Nat} (h : ∀ j, N ≤ j → f1 j = f0 j) : va_cpy f0 f1 0 0 N = f0 := by
  funext j
  unfold va_cpy
  by_cases hj : 0 ≤ j ∧ j < 0 + N
  · rw [if_pos hj]
    congr 1
    omega
  · rw [if_neg hj]
    exact h j (by omega)
theorem ah_back {σ x : Sg} (h : ahI σ x) : su (su (su x 16 (va_cpy (σ 16) (x 16) 0 0 36)) 20 (va_cpy (σ 20) (x 20) 0 0 60)) 21 (va_cpy (σ 21) (x 21) 0 0 60) = σ := by
  rw [cpy_n (h.2.1), cpy_n (h.2.2.1), cpy_n (h.2.2.2)]
  funext q j
  by_cases h21 : q = 21
  · subst h21
    rw [su_s]
  · rw [su_n _ _ h21]
    by_cases h20 : q = 20
    · subst h20
      rw [su_s]
    · rw [su_n _ _ h20]
      by_cases h16 : q = 16
      · subst h16
        rw [su_s]
      · rw [su_n _ _ h16, h.1 q h16 h20 h21]
def kdFO (σ : Sg) (v w : Int32) : Int32 := if 0 ≤ v ∧ v ≤ σ 10 0 - 1 then (if 0 ≤ w ∧ w ≤ 100 then 0 else 2) else 1
def rsFO (σ : Sg) (pd : Int64) (v w : Int32) : Int32 := (aheadS σ pd (cN v) (cN w) (-1)).2.1 16 (6 * cN v)
def kdLA (σ : Sg) (u : Int32) : Int32 := if 0 ≤ u ∧ u ≤ σ 17 0 - 1 then (if σ 19 (cN u) = -1 then 2 else 0) else 1
def rsLA (σ : Sg) (pd : Int64) (u : Int32) : Int32 := nI (aheadS σ pd (rmo σ (cN u)) 500 u).1
abbrev rAh (g : Gg) (ad : Ad) (h : Wd) (σ : Sg) (pd : Int64) (th x0 x1 : Int32) : Option Value → Ad → Wd → Prop := fun v a w => (∀ k i, ¬ k = 60 → a k i = ad k i) ∧ v = some (.ref (a 60 3)) ∧ w = fM g a σ pd th (up2 h 60 3 (.inl (g.2 0, 2, .inl (upd (upd (fun _ => 0) 0 x0) 1 x1))))
theorem fM_hup {g : Gg} {ad : Ad} {σ : Sg} {pd : Int64} {th : Int32} {h : Wd} {k i k2 i2 : Nat} {e e2 : va_E} (hk : 44 ≤ k) (hne : ¬ (k = k2 ∧ i = i2)) (he : fM g ad σ pd th h k i = some e) : fM g ad σ pd th (up2 h k2 i2 e2) k i = some e := by
  unfold fM at he ⊢
  rw [if_pos (Or.inr hk)] at he ⊢
  rw [up2_n _ _ hne]
  exact he
theorem fM_none {g : Gg} {ad : Ad} {σ : Sg} {pd : Int64} {th : Int32} {h : Wd} {k i : Nat} (hk : 44 ≤ k) (he : h k i = none) : fM g ad σ pd th h k i = none := by
  unfold fM
  rw [if_pos (Or.inr hk)]
  exact he
theorem fM_drop {g : Gg} {ad : Ad} {σ : Sg} {pd : Int64} {th : Int32} {h h3 : Wd} {A B C x : va_E} (hh : ∀ i, h 60 i = none) (hh3 : h3 = up2 (up2 (up2 h 60 0 A) 60 1 B) 60 2 C) {k i : Nat} {e : va_E} (he : fM g ad σ pd th (up2 h 60 3 x) k i = some e) : fM g ad σ pd th (up2 h3 60 3 x) k i = some e := by
  unfold fM at he ⊢
  by_cases hk : k < 20 ∨ 44 ≤ k
  · rw [if_pos hk] at he ⊢
    by_cases hc : k = 60 ∧ i = 3
    · obtain ⟨rfl, rfl⟩ := hc
      rw [up2_s] at he ⊢
      exact he
    · rw [up2_n _ _ hc] at he ⊢
      have h60 : ¬ k = 60 := by
        rintro rfl
        rw [hh i] at he
        cases he
      rw [hh3, up2_n _ _ (fun z => h60 z.1), up2_n _ _ (fun z => h60 z.1), up2_n _ _ (fun z => h60 z.1)]
      exact he
  · rw [if_neg hk] at he ⊢
    exact he
