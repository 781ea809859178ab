/-! THE STATE, in rows: 1 the time, 2 the base, 3 the swing, 4 the prices, 5 how many products, 6 lowest, 7 highest, 8 life, 9 smell, 10 how many rooms, 11 places, 12 wall, 13 power, 14 aim, 15 thrifty, 16 six of each room (T, frost, machine, left, used, warm), 17 how many pallets, 18 product, 19 room, 20 temperature, 21 age, 22 shipped -/
abbrev Sg : Type := Nat → Nat → Int32
def su (σ : Sg) (k : Nat) (fn : Nat → Int32) : Sg := fun k' => if k' = k then fn else σ k'
abbrev ss (σ : Sg) (k : Nat) (v : Int32) : Sg := su σ k (fun _ => v)
abbrev s1 (σ : Sg) (k j : Nat) (v : Int32) : Sg := su σ k (upd (σ k) j v)
theorem su_s (σ : Sg) (k : Nat) (fn : Nat → Int32) : su σ k fn k = fn := if_pos rfl
theorem su_n (σ : Sg) {k k' : Nat} (fn : Nat → Int32) (h : k' ≠ k) : su σ k fn k' = σ k' := if_neg h
theorem upd_s (fn : Nat → Int32) (j : Nat) (x : Int32) : upd fn j x j = x := pk_us
theorem upd_n (fn : Nat → Int32) {j k : Nat} (x : Int32) (h : k ≠ j) : upd fn j x k = fn k := pk_un h
def cN (x : Int32) : Nat := x.toNatClampNeg
theorem cN_nI {n : Nat} (h : n < 2 ^ 31) : cN (nI n) = n := nI_clamp h
abbrev np (σ : Sg) : Nat := cN (σ 5 0)
abbrev nr (σ : Sg) : Nat := cN (σ 10 0)
abbrev nt (σ : Sg) : Nat := cN (σ 17 0)
abbrev prd (σ : Sg) (p : Nat) : Nat := cN (σ 18 p)
abbrev rmo (σ : Sg) (p : Nat) : Nat := cN (σ 19 p)
/-! THE MODEL'S WORLD: its object is of the kind 20, the array of row r of the kind 20 + r -/
def arrM (r : Nat) : Nat := match r with
  | 4 => 24 | 6 => 12 | 7 => 12 | 8 => 12 | 9 => 12 | 11 => 6 | 12 => 6 | 13 => 6 | 14 => 6 | 15 => 6 | 16 => 36 | 18 => 60 | 19 => 60 | 20 => 60 | 21 => 60 | _ => 0
def objM (ad : Ad) (σ : Sg) (pd : Int64) (th : Int32) : List Value := [.int th, .int (σ 1 0), .int (σ 2 0), .int (σ 3 0), .ref (ad 24 0), .long pd, .int (σ 5 0), .ref (ad 26 0), .ref (ad 27 0), .ref (ad 28 0), .ref (ad 29 0), .int (σ 10 0), .ref (ad 31 0), .ref (ad 32 0), .ref (ad 33 0), .ref (ad 34 0), .ref (ad 35 0), .ref (ad 36 0), .int (σ 17 0), .ref (ad 38 0), .ref (ad 39 0), .ref (ad 40 0), .ref (ad 41 0), .int (σ 22 0)]
def fM (g : Gg) (ad : Ad) (σ : Sg) (pd : Int64) (th : Int32) (h : Wd) : Wd := fun k i => if k < 20 ∨ 44 ≤ k then h k i else if i = 0 then (if k = 20 then some (.inr (7, objM ad σ pd th)) else if arrM (k - 20) = 0 then none else some (.inl ((if k = 35 then g.2 1 else g.2 0), arrM (k - 20), .inl (σ (k - 20))))) else none
section FM
variable {g : Gg} {ad : Ad} {σ : Sg} {pd : Int64} {th : Int32} {h : Wd}
theorem fM_o : fM g ad σ pd th h 20 0 = some (.inr (7, objM ad σ pd th)) := rfl
theorem fM_4 : fM g ad σ pd th h 24 0 = some (.inl (g.2 0, 24, .inl (σ 4))) := rfl
theorem fM_6 : fM g ad σ pd th h 26 0 = some (.inl (g.2 0, 12, .inl (σ 6))) := rfl
theorem fM_7 : fM g ad σ pd th h 27 0 = some (.inl (g.2 0, 12, .inl (σ 7))) := rfl
theorem fM_8 : fM g ad σ pd th h 28 0 = some (.inl (g.2 0, 12, .inl (σ 8))) := rfl
theorem fM_9 : fM g ad σ pd th h 29 0 = some (.inl (g.2 0, 12, .inl (σ 9))) := rfl
theorem fM_11 : fM g ad σ pd th h 31 0 = some (.inl (g.2 0, 6, .inl (σ 11))) := rfl
theorem fM_12 : fM g ad σ pd th h 32 0 = some (.inl (g.2 0, 6, .inl (σ 12))) := rfl
theorem fM_13 : fM g ad σ pd th h 33 0 = some (.inl (g.2 0, 6, .inl (σ 13))) := rfl
theorem fM_14 : fM g ad σ pd th h 34 0 = some (.inl (g.2 0, 6, .inl (σ 14))) := rfl
theorem fM_15 : fM g ad σ pd th h 35 0 = some (.inl (g.2 1, 6, .inl (σ 15))) := rfl
theorem fM_16 : fM g ad σ pd th h 36 0 = some (.inl (g.2 0, 36, .inl (σ 16))) := rfl
theorem fM_18 : fM g ad σ pd th h 38 0 = some (.inl (g.2 0, 60, .inl (σ 18))) := rfl
theorem fM_19 : fM g ad σ pd th h 39 0 = some (.inl (g.2 0, 60, .inl (σ 19))) := rfl
theorem fM_20 : fM g ad σ pd th h 40 0 = some (.inl (g.2 0, 60, .inl (σ 20))) := rfl
theorem fM_21 : fM g ad σ pd th h 41 0 = some (.inl (g.2 0, 60, .inl (σ 21))) := rfl
/-- an array's row is written -/
theorem fM_a (r : Nat) {n : Nat} {cA : ClassId} {fn : Nat → Int32} (hn : arrM r = n) (h0 : n ≠ 0) (hr : r < 24) (hc : (if 20 + r = 35 then g.2 1 else g.2 0) = cA) : up2 (fM g ad σ pd th h) (20 + r) 0 (.inl (cA, n, .inl fn)) = fM g ad (su σ r fn) pd th h := by
  subst hn
  have hs : objM ad (su σ r fn) pd th = objM ad σ pd th := by
    have e : ∀ q : Nat, arrM q = 0 → su σ r fn q = σ q := fun q hq => su_n σ fn (fun z => h0 (by rw [← z]; exact hq))
    unfold objM
    rw [e 1 rfl, e 2 rfl, e 3 rfl, e 5 rfl, e 10 rfl, e 17 rfl, e 22 rfl]
  funext k i
  by_cases hk : k = 20 + r ∧ i = 0
  · obtain ⟨rfl, rfl⟩ := hk
    rw [up2_s]
    unfold fM
    rw [if_neg (by omega), if_pos rfl, if_neg (by intro z; apply h0; rw [show r = 0 by omega]; rfl), show 20 + r - 20 = r by omega, if_neg h0, hc, su_s]
  · rw [up2_n _ _ hk]
    unfold fM
    rw [hs]
    by_cases h1 : k < 20 ∨ 44 ≤ k
    · rw [if_pos h1, if_pos h1]
    · rw [if_neg h1, if_neg h1]
      by_cases h2 : i = 0
      · subst h2
        rw [su_n σ fn (show k - 20 ≠ r by omega)]
      · rw [if_neg h2, if_neg h2]
/-- a number of the object is written -/
theorem fM_s (r q : Nat) {x : Int32} {fn : Nat → Int32} (hr : arrM r = 0) (hq : (objM ad σ pd th).set q (.int x) = objM ad (su σ r fn) pd th) : up2 (fM g ad σ pd th h) 20 0 (.inr (7, (objM ad σ pd th).set q (.int x))) = fM g ad (su σ r fn) pd th h := by
  funext k i
  by_cases hk : k = 20 ∧ i = 0
  · obtain ⟨rfl, rfl⟩ := hk
    rw [up2_s, hq]
    rfl
  · rw [up2_n _ _ hk]
    unfold fM
    by_cases h1 : k < 20 ∨ 44 ≤ k
    · rw [if_pos h1, if_pos h1]
    · rw [if_neg h1, if_neg h1]
      by_cases h2 : i = 0
      · subst h2
        have h20 : ¬ k = 20 := fun z => hk ⟨z, rfl⟩
        simp only [if_neg h20, ↓reduceIte]
        by_cases h3 : arrM (k - 20) = 0
        · rw [if_pos h3, if_pos h3]
        · rw [if_neg h3, if_neg h3, su_n σ fn (fun z => h3 (by rw [z]; exact hr))]
      · rw [if_neg h2, if_neg h2]
theorem fM_pth {v : Int32} : up2 (fM g ad σ pd th h) 20 0 (.inr (7, (objM ad σ pd th).set 0 (.int v))) = fM g ad σ pd v h := by
  funext k i
  by_cases hk : k = 20 ∧ i = 0
  · obtain ⟨rfl, rfl⟩ := hk
    rw [up2_s]
    rfl
  · rw [up2_n _ _ hk]
    unfold fM
    by_cases h1 : k < 20 ∨ 44 ≤ k
    · rw [if_pos h1, if_pos h1]
    · rw [if_neg h1, if_neg h1]
      by_cases h2 : i = 0
      · subst h2
        have h20 : ¬ k = 20 := fun z => hk ⟨z, rfl⟩
        simp only [if_neg h20, ↓reduceIte]
      · rw [if_neg h2, if_neg h2]
theorem fM_ppd {v : Int64} : up2 (fM g ad σ pd th h) 20 0 (.inr (7, (objM ad σ pd th).set 5 (.long v))) = fM g ad σ v th h := by
  funext k i
  by_cases hk : k = 20 ∧ i = 0
  · obtain ⟨rfl, rfl⟩ := hk
    rw [up2_s]
    rfl
  · rw [up2_n _ _ hk]
    unfold fM
    by_cases h1 : k < 20 ∨ 44 ≤ k
    · rw [if_pos h1, if_pos h1]
    · rw [if_neg h1, if_neg h1]
      by_cases h2 : i = 0
      · subst h2
        have h20 : ¬ k = 20 := fun z => hk ⟨z, rfl⟩
        simp only [if_neg h20, ↓reduceIte]
      · rw [if_neg h2, if_neg h2]
theorem fM_p1 {v : Int32} : up2 (fM g ad σ pd th h) 20 0 (.inr (7, (objM ad σ pd th).set 1 (.int v))) = fM g ad (ss σ 1 v) pd th h := fM_s 1 1 rfl rfl
theorem fM_p2 {v : Int32} : up2 (fM g ad σ pd th h) 20 0 (.inr (7, (objM ad σ pd th).set 2 (.int v))) = fM g ad (ss σ 2 v) pd th h := fM_s 2 2 rfl rfl
theorem fM_p3 {v : Int32} : up2 (fM g ad σ pd th h) 20 0 (.inr (7, (objM ad σ pd th).set 3 (.int v))) = fM g ad (ss σ 3 v) pd th h := fM_s 3 3 rfl rfl
theorem fM_p6 {v : Int32} : up2 (fM g ad σ pd th h) 20 0 (.inr (7, (objM ad σ pd th).set 6 (.int v))) = fM g ad (ss σ 5 v) pd th h := fM_s 5 6 rfl rfl
theorem fM_p11 {v : Int32} : up2 (fM g ad σ pd th h) 20 0 (.inr (7, (objM ad σ pd th).set 11 (.int v))) = fM g ad (ss σ 10 v) pd th h := fM_s 10 11 rfl rfl
theorem fM_p18 {v : Int32} : up2 (fM g ad σ pd th h) 20 0 (.inr (7, (objM ad σ pd th).set 18 (.int v))) = fM g ad (ss σ 17 v) pd th h := fM_s 17 18 rfl rfl
theorem fM_p23 {v : Int32} : up2 (fM g ad σ pd th h) 20 0 (.inr (7, (objM ad σ pd th).set 23 (.int v))) = fM g ad (ss σ 22 v) pd th h := fM_s 22 23 rfl rfl
end FM
/-! small facts of numbers -/
theorem six_nI (r : Nat) : (6 : Int32) * nI r = nI (6 * r) := pk_mul 6 r
theorem nI_p (a c : Nat) : nI a + nI c = nI (a + c) := nI_add a c
theorem rI {r v : Int32} {a : Ad} {w : Wd} (h : v = r) : dI r a w (some (.int v)) a w := ⟨by rw [h], rfl, rfl⟩
theorem rIw {r v : Int32} {a : Ad} {w w' : Wd} (h : v = r) (hw : w = w') : dI r a w' (some (.int v)) a w := ⟨by rw [h], rfl, hw⟩
theorem rVw {a : Ad} {w w' : Wd} (hw : w = w') : dV a w' none a w := ⟨rfl, rfl, hw⟩
theorem nI_cN {x : Int32} (h : ¬ x < 0) : x = nI (cN x) := by
  obtain ⟨j, hj, rfl⟩ := nI_of h
  rw [cN_nI hj]
def mx (x y : Int32) : Int32 := if x < y then y else x
def mn (x y : Int32) : Int32 := if y < x then y else x
def ab (x : Int32) : Int32 := if 0 ≤ x then x else 0 - x
