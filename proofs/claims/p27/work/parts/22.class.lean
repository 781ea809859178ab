/-! THE CLASS'S WORLD over the same rows: kinds 0 the store, 1 its air, 2 its tariff, 3 the tariff's prices, 4 5 6 its arrays of products, rooms, pallets, 7 a product, 8 a room, 9 its machine, 10 its remembered machine, 11 its places, 12 a pallet; pl: which pallet stands on which place; sc: what is remembered -/
abbrev Pl : Type := Nat → Nat → Option Nat
def stoE (ad : Ad) (σ : Sg) (pd : Int64) : va_E := .inr (6, [.ref (ad 1 0), .ref (ad 2 0), .ref (ad 4 0), .ref (ad 5 0), .ref (ad 6 0), .int (σ 5 0), .int (σ 10 0), .int (σ 17 0), .int (σ 22 0), .int (σ 1 0), .long pd])
def prodE (σ : Sg) (i : Nat) : va_E := .inr (3, [.int (nI i), .int (σ 6 i), .int (σ 7 i), .int (σ 8 i), .int (σ 9 i)])
def roomE (ad : Ad) (σ sc : Sg) (i : Nat) : va_E := .inr (4, [.int (nI i), .int (σ 12 i), .ref (ad 9 i), .ref (ad 11 i), .int (σ 14 i), .int (σ 15 i), .int (σ 16 (6 * i)), .int (σ 16 (6 * i + 5)), .ref (ad 10 i), .int (sc 0 i), .int (sc 1 i)])
def machE (σ : Sg) (i : Nat) : va_E := .inr (1, [.int (σ 13 i), .int (σ 16 (6 * i + 2)), .int (σ 16 (6 * i + 3)), .int (σ 16 (6 * i + 1)), .int (σ 16 (6 * i + 4))])
def remE (σ sc : Sg) (i : Nat) : va_E := .inr (1, [.int (σ 13 i), .int (sc 2 i), .int (sc 3 i), .int (sc 4 i), .int (sc 5 i)])
def plcE (g : Gg) (ad : Ad) (σ : Sg) (pl : Pl) (i : Nat) : va_E := .inl (g.2 2, cN (σ 11 i), .inr (.inr (.inr (.inr (fun j => (pl i j).map (ad 12))))))
def rmR (ad : Ad) (σ : Sg) (i : Nat) : Option Nat := if σ 19 i = -1 then none else some (ad 8 (rmo σ i))
def palE (ad : Ad) (σ sc : Sg) (i : Nat) : va_E := .inr (2, [.ref (ad 7 (prd σ i)), va_rf (rmR ad σ i), .int (σ 20 i), .int (σ 21 i), .int (sc 6 i), .int (sc 7 i)])
def lowE (ad : Ad) (σ : Sg) : va_E := .inr (5, [.ref (ad 3 0), .int (lowS σ)])
def fC (g : Gg) (ad : Ad) (σ : Sg) (pd : Int64) (pl : Pl) (sc : Sg) (h : Wd) : Wd := fun k i => match k with
  | 0 => if i = 0 then some (stoE ad σ pd) else none
  | 1 => if i = 0 then some (.inr (0, [.int (σ 2 0), .int (σ 3 0)])) else none
  | 2 => if i = 0 then some (lowE ad σ) else none
  | 3 => if i = 0 then some (.inl (g.2 0, 24, .inl (σ 4))) else none
  | 4 => if i = 0 then some (.inl (g.2 3, 12, .inr (.inr (.inr (.inr (fun j => if j < np σ then some (ad 7 j) else none)))))) else none
  | 5 => if i = 0 then some (.inl (g.2 4, 6, .inr (.inr (.inr (.inr (fun j => if j < nr σ then some (ad 8 j) else none)))))) else none
  | 6 => if i = 0 then some (.inl (g.2 2, 60, .inr (.inr (.inr (.inr (fun j => if j < nt σ then some (ad 12 j) else none)))))) else none
  | 7 => if i < np σ then some (prodE σ i) else none
  | 8 => if i < nr σ then some (roomE ad σ sc i) else none
  | 9 => if i < nr σ then some (machE σ i) else none
  | 10 => if i < nr σ then some (remE σ sc i) else none
  | 11 => if i < nr σ then some (plcE g ad σ pl i) else none
  | 12 => if i < nt σ then some (palE ad σ sc i) else none
  | k + 13 => h (k + 13) i
section FC
variable {g : Gg} {ad : Ad} {σ σ' : Sg} {pd pd' : Int64} {pl pl' : Pl} {sc sc' : Sg} {h : Wd}
theorem fC_0 : fC g ad σ pd pl sc h 0 0 = some (stoE ad σ pd) := rfl
theorem fC_1 : fC g ad σ pd pl sc h 1 0 = some (.inr (0, [.int (σ 2 0), .int (σ 3 0)])) := rfl
theorem fC_2 : fC g ad σ pd pl sc h 2 0 = some (lowE ad σ) := rfl
theorem fC_3 : fC g ad σ pd pl sc h 3 0 = some (.inl (g.2 0, 24, .inl (σ 4))) := rfl
theorem fC_4 : fC g ad σ pd pl sc h 4 0 = some (.inl (g.2 3, 12, .inr (.inr (.inr (.inr (fun j => if j < np σ then some (ad 7 j) else none)))))) := rfl
theorem fC_5 : fC g ad σ pd pl sc h 5 0 = some (.inl (g.2 4, 6, .inr (.inr (.inr (.inr (fun j => if j < nr σ then some (ad 8 j) else none)))))) := rfl
theorem fC_6 : fC g ad σ pd pl sc h 6 0 = some (.inl (g.2 2, 60, .inr (.inr (.inr (.inr (fun j => if j < nt σ then some (ad 12 j) else none)))))) := rfl
theorem fC_7 {i : Nat} (hi : i < np σ) : fC g ad σ pd pl sc h 7 i = some (prodE σ i) := if_pos hi
theorem fC_8 {i : Nat} (hi : i < nr σ) : fC g ad σ pd pl sc h 8 i = some (roomE ad σ sc i) := if_pos hi
theorem fC_9 {i : Nat} (hi : i < nr σ) : fC g ad σ pd pl sc h 9 i = some (machE σ i) := if_pos hi
theorem fC_10 {i : Nat} (hi : i < nr σ) : fC g ad σ pd pl sc h 10 i = some (remE σ sc i) := if_pos hi
theorem fC_11 {i : Nat} (hi : i < nr σ) : fC g ad σ pd pl sc h 11 i = some (plcE g ad σ pl i) := if_pos hi
theorem fC_12 {i : Nat} (hi : i < nt σ) : fC g ad σ pd pl sc h 12 i = some (palE ad σ sc i) := if_pos hi
theorem up2_to {f f' : Wd} {K J : Nat} {e : va_E} (h1 : f' K J = some e) (h2 : ∀ k i, ¬ (k = K ∧ i = J) → f k i = f' k i) : up2 f K J e = f' := by
  funext k i
  by_cases hk : k = K ∧ i = J
  · obtain ⟨rfl, rfl⟩ := hk
    rw [up2_s, h1]
  · rw [up2_n _ _ hk]
    exact h2 k i hk
/-- the cells that row 16 reaches -/
theorem fC_r16 {fn : Nat → Int32} {k i : Nat} (h8 : k = 8 → i < nr σ → roomE ad (su σ 16 fn) sc i = roomE ad σ sc i) (h9 : k = 9 → i < nr σ → machE (su σ 16 fn) i = machE σ i) : fC g ad σ pd pl sc h k i = fC g ad (su σ 16 fn) pd pl sc h k i := by
  match k, h8, h9 with
  | 0, _, _ => rfl
  | 1, _, _ => rfl
  | 2, _, _ => rfl
  | 3, _, _ => rfl
  | 4, _, _ => rfl
  | 5, _, _ => rfl
  | 6, _, _ => rfl
  | 7, _, _ => rfl
  | 8, h8, _ =>
    show (if i < nr σ then some (roomE ad σ sc i) else none) = (if i < nr σ then some (roomE ad (su σ 16 fn) sc i) else none)
    by_cases hi : i < nr σ
    · rw [if_pos hi, if_pos hi, h8 rfl hi]
    · rw [if_neg hi, if_neg hi]
  | 9, _, h9 =>
    show (if i < nr σ then some (machE σ i) else none) = (if i < nr σ then some (machE (su σ 16 fn) i) else none)
    by_cases hi : i < nr σ
    · rw [if_pos hi, if_pos hi, h9 rfl hi]
    · rw [if_neg hi, if_neg hi]
  | 10, _, _ => rfl
  | 11, _, _ => rfl
  | 12, _, _ => rfl
  | _ + 13, _, _ => rfl
theorem fC_T {r : Nat} (hr : r < nr σ) {v : Int32} : up2 (fC g ad σ pd pl sc h) 8 r (.inr (4, [.int (nI r), .int (σ 12 r), .ref (ad 9 r), .ref (ad 11 r), .int (σ 14 r), .int (σ 15 r), .int v, .int (σ 16 (6 * r + 5)), .ref (ad 10 r), .int (sc 0 r), .int (sc 1 r)])) = fC g ad (s1 σ 16 (6 * r) v) pd pl sc h := by
  refine up2_to ?_ (fun k i hk => fC_r16 (fun h8 hi => ?_) (fun h9 hi => ?_))
  · rw [fC_8 (show r < nr (s1 σ 16 (6 * r) v) from hr)]
    unfold roomE
    rw [show (s1 σ 16 (6 * r) v) 16 (6 * r + 5) = σ 16 (6 * r + 5) from r16 (by omega), show (s1 σ 16 (6 * r) v) 16 (6 * r) = v from upd_s _ _ _]
    rfl
  · have hne : i ≠ r := fun z => hk ⟨h8, z⟩
    unfold roomE
    rw [r16 (show 6 * i + 5 ≠ 6 * r by omega), r16 (show 6 * i ≠ 6 * r by omega)]
    rfl
  · unfold machE
    rw [r16 (show 6 * i + 2 ≠ 6 * r by omega), r16 (show 6 * i + 3 ≠ 6 * r by omega), r16 (show 6 * i + 1 ≠ 6 * r by omega), r16 (show 6 * i + 4 ≠ 6 * r by omega)]
    rfl
theorem fC_W {r : Nat} (hr : r < nr σ) {v : Int32} : up2 (fC g ad σ pd pl sc h) 8 r (.inr (4, [.int (nI r), .int (σ 12 r), .ref (ad 9 r), .ref (ad 11 r), .int (σ 14 r), .int (σ 15 r), .int (σ 16 (6 * r)), .int v, .ref (ad 10 r), .int (sc 0 r), .int (sc 1 r)])) = fC g ad (s1 σ 16 (6 * r + 5) v) pd pl sc h := by
  refine up2_to ?_ (fun k i hk => fC_r16 (fun h8 hi => ?_) (fun h9 hi => ?_))
  · rw [fC_8 (show r < nr (s1 σ 16 (6 * r + 5) v) from hr)]
    unfold roomE
    rw [show (s1 σ 16 (6 * r + 5) v) 16 (6 * r) = σ 16 (6 * r) from r16 (by omega), show (s1 σ 16 (6 * r + 5) v) 16 (6 * r + 5) = v from upd_s _ _ _]
    rfl
  · have hne : i ≠ r := fun z => hk ⟨h8, z⟩
    unfold roomE
    rw [r16 (show 6 * i + 5 ≠ 6 * r + 5 by omega), r16 (show 6 * i ≠ 6 * r + 5 by omega)]
    rfl
  · unfold machE
    rw [r16 (show 6 * i + 2 ≠ 6 * r + 5 by omega), r16 (show 6 * i + 3 ≠ 6 * r + 5 by omega), r16 (show 6 * i + 1 ≠ 6 * r + 5 by omega), r16 (show 6 * i + 4 ≠ 6 * r + 5 by omega)]
    rfl
/-- the machine's four numbers: the new state is any that agrees -/
theorem fC_M {r : Nat} (hr : r < nr σ) {fn : Nat → Int32} {a b c d : Int32} (ha : fn (6 * r + 2) = a) (hb : fn (6 * r + 3) = b) (hc : fn (6 * r + 1) = c) (hd : fn (6 * r + 4) = d) (ho : ∀ j, ¬ (6 * r < j ∧ j < 6 * r + 5) → fn j = σ 16 j) : up2 (fC g ad σ pd pl sc h) 9 r (.inr (1, [.int (σ 13 r), .int a, .int b, .int c, .int d])) = fC g ad (su σ 16 fn) pd pl sc h := by
  refine up2_to ?_ (fun k i hk => fC_r16 (fun h8 hi => ?_) (fun h9 hi => ?_))
  · rw [fC_9 (show r < nr (su σ 16 fn) from hr)]
    unfold machE
    rw [su_s, ha, hb, hc, hd]
    rfl
  · unfold roomE
    rw [su_s, ho _ (by omega), ho _ (by omega)]
    rfl
  · have hne : i ≠ r := fun z => hk ⟨h9, z⟩
    unfold machE
    rw [su_s, ho _ (by omega), ho _ (by omega), ho _ (by omega), ho _ (by omega)]
    rfl
/-- a pallet's temperature and age -/
theorem fC_P {p : Nat} (hp : p < nt σ) {t a : Int32} : up2 (fC g ad σ pd pl sc h) 12 p (.inr (2, [.ref (ad 7 (prd σ p)), va_rf (rmR ad σ p), .int t, .int a, .int (sc 6 p), .int (sc 7 p)])) = fC g ad (s1 (s1 σ 20 p t) 21 p a) pd pl sc h := by
  refine up2_to ?_ (fun k i hk => ?_)
  · rw [fC_12 (show p < nt (s1 (s1 σ 20 p t) 21 p a) from hp)]
    unfold palE
    rw [show (s1 (s1 σ 20 p t) 21 p a) 20 p = t from upd_s _ _ _, show (s1 (s1 σ 20 p t) 21 p a) 21 p = a from upd_s _ _ _]
    rfl
  · match k, hk with
    | 0, _ => rfl
    | 1, _ => rfl
    | 2, _ => rfl
    | 3, _ => rfl
    | 4, _ => rfl
    | 5, _ => rfl
    | 6, _ => rfl
    | 7, _ => rfl
    | 8, _ => rfl
    | 9, _ => rfl
    | 10, _ => rfl
    | 11, _ => rfl
    | 12, hk =>
      have hne : i ≠ p := fun z => hk ⟨rfl, z⟩
      show (if i < nt σ then some (palE ad σ sc i) else none) = (if i < nt σ then some (palE ad (s1 (s1 σ 20 p t) 21 p a) sc i) else none)
      unfold palE
      rw [show (s1 (s1 σ 20 p t) 21 p a) 20 i = σ 20 i from upd_n _ _ hne, show (s1 (s1 σ 20 p t) 21 p a) 21 i = σ 21 i from upd_n _ _ hne]
      rfl
    | _ + 13, _ => rfl
/-- what is remembered of a pallet -/
theorem fC_Pr {p : Nat} (hp : p < nt σ) {t a : Int32} : up2 (fC g ad σ pd pl sc h) 12 p (.inr (2, [.ref (ad 7 (prd σ p)), va_rf (rmR ad σ p), .int (σ 20 p), .int (σ 21 p), .int t, .int a])) = fC g ad σ pd pl (s1 (s1 sc 6 p t) 7 p a) h := by
  refine up2_to ?_ (fun k i hk => ?_)
  · rw [fC_12 hp]
    unfold palE
    rw [show (s1 (s1 sc 6 p t) 7 p a) 6 p = t from upd_s _ _ _, show (s1 (s1 sc 6 p t) 7 p a) 7 p = a from upd_s _ _ _]
  · match k, hk with
    | 0, _ => rfl
    | 1, _ => rfl
    | 2, _ => rfl
    | 3, _ => rfl
    | 4, _ => rfl
    | 5, _ => rfl
    | 6, _ => rfl
    | 7, _ => rfl
    | 8, _ => rfl
    | 9, _ => rfl
    | 10, _ => rfl
    | 11, _ => rfl
    | 12, hk =>
      have hne : i ≠ p := fun z => hk ⟨rfl, z⟩
      show (if i < nt σ then some (palE ad σ sc i) else none) = (if i < nt σ then some (palE ad σ (s1 (s1 sc 6 p t) 7 p a) i) else none)
      unfold palE
      rw [show (s1 (s1 sc 6 p t) 7 p a) 6 i = sc 6 i from upd_n _ _ hne, show (s1 (s1 sc 6 p t) 7 p a) 7 i = sc 7 i from upd_n _ _ hne]
    | _ + 13, _ => rfl
/-- what is remembered of a room, of its machine -/
theorem fC_Rr {r : Nat} (hr : r < nr σ) {t a : Int32} : up2 (fC g ad σ pd pl sc h) 8 r (.inr (4, [.int (nI r), .int (σ 12 r), .ref (ad 9 r), .ref (ad 11 r), .int (σ 14 r), .int (σ 15 r), .int (σ 16 (6 * r)), .int (σ 16 (6 * r + 5)), .ref (ad 10 r), .int t, .int a])) = fC g ad σ pd pl (s1 (s1 sc 0 r t) 1 r a) h := by
  refine up2_to ?_ (fun k i hk => ?_)
  · rw [fC_8 hr]
    unfold roomE
    rw [show (s1 (s1 sc 0 r t) 1 r a) 0 r = t from upd_s _ _ _, show (s1 (s1 sc 0 r t) 1 r a) 1 r = a from upd_s _ _ _]
  · match k, hk with
    | 0, _ => rfl
    | 1, _ => rfl
    | 2, _ => rfl
    | 3, _ => rfl
    | 4, _ => rfl
    | 5, _ => rfl
    | 6, _ => rfl
    | 7, _ => rfl
    | 8, hk =>
      have hne : i ≠ r := fun z => hk ⟨rfl, z⟩
      show (if i < nr σ then some (roomE ad σ sc i) else none) = (if i < nr σ then some (roomE ad σ (s1 (s1 sc 0 r t) 1 r a) i) else none)
      unfold roomE
      rw [show (s1 (s1 sc 0 r t) 1 r a) 0 i = sc 0 i from upd_n _ _ hne, show (s1 (s1 sc 0 r t) 1 r a) 1 i = sc 1 i from upd_n _ _ hne]
    | 9, _ => rfl
    | 10, _ => rfl
    | 11, _ => rfl
    | 12, _ => rfl
    | _ + 13, _ => rfl
theorem fC_Mr {r : Nat} (hr : r < nr σ) {a b c d : Int32} : up2 (fC g ad σ pd pl sc h) 10 r (.inr (1, [.int (σ 13 r), .int a, .int b, .int c, .int d])) = fC g ad σ pd pl (s1 (s1 (s1 (s1 sc 2 r a) 3 r b) 4 r c) 5 r d) h := by
  refine up2_to ?_ (fun k i hk => ?_)
  · rw [fC_10 hr]
    unfold remE
    rw [show (s1 (s1 (s1 (s1 sc 2 r a) 3 r b) 4 r c) 5 r d) 2 r = a from upd_s _ _ _, show (s1 (s1 (s1 (s1 sc 2 r a) 3 r b) 4 r c) 5 r d) 3 r = b from upd_s _ _ _, show (s1 (s1 (s1 (s1 sc 2 r a) 3 r b) 4 r c) 5 r d) 4 r = c from upd_s _ _ _, show (s1 (s1 (s1 (s1 sc 2 r a) 3 r b) 4 r c) 5 r d) 5 r = d from upd_s _ _ _]
  · match k, hk with
    | 0, _ => rfl
    | 1, _ => rfl
    | 2, _ => rfl
    | 3, _ => rfl
    | 4, _ => rfl
    | 5, _ => rfl
    | 6, _ => rfl
    | 7, _ => rfl
    | 8, _ => rfl
    | 9, _ => rfl
    | 10, hk =>
      have hne : i ≠ r := fun z => hk ⟨rfl, z⟩
      show (if i < nr σ then some (remE σ sc i) else none) = (if i < nr σ then some (remE σ (s1 (s1 (s1 (s1 sc 2 r a) 3 r b) 4 r c) 5 r d) i) else none)
      unfold remE
      rw [show (s1 (s1 (s1 (s1 sc 2 r a) 3 r b) 4 r c) 5 r d) 2 i = sc 2 i from upd_n _ _ hne, show (s1 (s1 (s1 (s1 sc 2 r a) 3 r b) 4 r c) 5 r d) 3 i = sc 3 i from upd_n _ _ hne, show (s1 (s1 (s1 (s1 sc 2 r a) 3 r b) 4 r c) 5 r d) 4 i = sc 4 i from upd_n _ _ hne, show (s1 (s1 (s1 (s1 sc 2 r a) 3 r b) 4 r c) 5 r d) 5 i = sc 5 i from upd_n _ _ hne]
    | 11, _ => rfl
    | 12, _ => rfl
    | _ + 13, _ => rfl
/-- the air, the store's own numbers -/
theorem fC_air {b s9 : Int32} : up2 (fC g ad σ pd pl sc h) 1 0 (.inr (0, [.int b, .int s9])) = fC g ad (ss (ss σ 2 b) 3 s9) pd pl sc h := by
  refine up2_to rfl (fun k i hk => ?_)
  match k, hk with
  | 0, _ => rfl
  | 1, hk => exact (if_neg (fun z => hk ⟨rfl, z⟩)).trans (if_neg (fun z => hk ⟨rfl, z⟩)).symm
  | 2, _ => rfl
  | 3, _ => rfl
  | 4, _ => rfl
  | 5, _ => rfl
  | 6, _ => rfl
  | 7, _ => rfl
  | 8, _ => rfl
  | 9, _ => rfl
  | 10, _ => rfl
  | 11, _ => rfl
  | 12, _ => rfl
  | _ + 13, _ => rfl
theorem fC_sto {v22 v1 : Int32} {pd' : Int64} : up2 (fC g ad σ pd pl sc h) 0 0 (.inr (6, [.ref (ad 1 0), .ref (ad 2 0), .ref (ad 4 0), .ref (ad 5 0), .ref (ad 6 0), .int (σ 5 0), .int (σ 10 0), .int (σ 17 0), .int v22, .int v1, .long pd'])) = fC g ad (ss (ss σ 22 v22) 1 v1) pd' pl sc h := by
  refine up2_to rfl (fun k i hk => ?_)
  match k, hk with
  | 0, hk => exact (if_neg (fun z => hk ⟨rfl, z⟩)).trans (if_neg (fun z => hk ⟨rfl, z⟩)).symm
  | 1, _ => rfl
  | 2, _ => rfl
  | 3, _ => rfl
  | 4, _ => rfl
  | 5, _ => rfl
  | 6, _ => rfl
  | 7, _ => rfl
  | 8, _ => rfl
  | 9, _ => rfl
  | 10, _ => rfl
  | 11, _ => rfl
  | 12, _ => rfl
  | _ + 13, _ => rfl
/-- a room's aim and whether it is thrifty -/
theorem fC_aim {r : Nat} (hr : r < nr σ) {a b : Int32} : up2 (fC g ad σ pd pl sc h) 8 r (.inr (4, [.int (nI r), .int (σ 12 r), .ref (ad 9 r), .ref (ad 11 r), .int a, .int b, .int (σ 16 (6 * r)), .int (σ 16 (6 * r + 5)), .ref (ad 10 r), .int (sc 0 r), .int (sc 1 r)])) = fC g ad (s1 (s1 σ 14 r a) 15 r b) pd pl sc h := by
  refine up2_to ?_ (fun k i hk => ?_)
  · rw [fC_8 (show r < nr (s1 (s1 σ 14 r a) 15 r b) from hr)]
    unfold roomE
    rw [show (s1 (s1 σ 14 r a) 15 r b) 14 r = a from upd_s _ _ _, show (s1 (s1 σ 14 r a) 15 r b) 15 r = b from upd_s _ _ _]
    rfl
  · match k, hk with
    | 0, _ => rfl
    | 1, _ => rfl
    | 2, _ => rfl
    | 3, _ => rfl
    | 4, _ => rfl
    | 5, _ => rfl
    | 6, _ => rfl
    | 7, _ => rfl
    | 8, hk =>
      have hne : i ≠ r := fun z => hk ⟨rfl, z⟩
      show (if i < nr σ then some (roomE ad σ sc i) else none) = (if i < nr σ then some (roomE ad (s1 (s1 σ 14 r a) 15 r b) sc i) else none)
      unfold roomE
      rw [show (s1 (s1 σ 14 r a) 15 r b) 14 i = σ 14 i from upd_n _ _ hne, show (s1 (s1 σ 14 r a) 15 r b) 15 i = σ 15 i from upd_n _ _ hne]
      rfl
    | 9, _ => rfl
    | 10, _ => rfl
    | 11, _ => rfl
    | 12, _ => rfl
    | _ + 13, _ => rfl
/-- the tariff's prices and the lowest of them -/
theorem fC_tar {fn : Nat → Int32} {v : Int32} (hv : v = lowS (su σ 4 fn)) : up2 (up2 (fC g ad σ pd pl sc h) 3 0 (.inl (g.2 0, 24, .inl fn))) 2 0 (.inr (5, [.ref (ad 3 0), .int v])) = fC g ad (su σ 4 fn) pd pl sc h := by
  refine up2_to (by rw [fC_2, lowE, hv]) (fun k i hk => ?_)
  match k, hk with
  | 0, _ => exact up2_n _ _ (by omega)
  | 1, _ => exact up2_n _ _ (by omega)
  | 2, hk => exact (up2_n _ _ (by omega)).trans ((if_neg (fun z => hk ⟨rfl, z⟩)).trans (if_neg (fun z => hk ⟨rfl, z⟩)).symm)
  | 3, _ =>
    by_cases hi : i = 0
    · subst hi
      exact up2_s _ _ _ _
    · exact (up2_n _ _ (by omega)).trans ((if_neg hi).trans (if_neg hi).symm)
  | 4, _ => exact up2_n _ _ (by omega)
  | 5, _ => exact up2_n _ _ (by omega)
  | 6, _ => exact up2_n _ _ (by omega)
  | 7, _ => exact up2_n _ _ (by omega)
  | 8, _ => exact up2_n _ _ (by omega)
  | 9, _ => exact up2_n _ _ (by omega)
  | 10, _ => exact up2_n _ _ (by omega)
  | 11, _ => exact up2_n _ _ (by omega)
  | 12, _ => exact up2_n _ _ (by omega)
  | _ + 13, _ => exact up2_n _ _ (by omega)
def plu (pl : Pl) (r j : Nat) (v : Option Nat) : Pl := fun r' j' => if r' = r ∧ j' = j then v else pl r' j'
theorem plu_s (pl : Pl) (r j : Nat) (v : Option Nat) : plu pl r j v r j = v := if_pos ⟨rfl, rfl⟩
theorem plu_n (pl : Pl) {r j r' j' : Nat} (v : Option Nat) (hn : ¬ (r' = r ∧ j' = j)) : plu pl r j v r' j' = pl r' j' := if_neg hn
/-- a place gets a pallet or loses it, and the pallet's room is another: the world of another state whose row 19 says so -/
theorem fC_pl {r j p : Nat} (hr : r < nr σ) (hp : p < nt σ) {v : Option Nat} {w : Int32} {o : Option Nat} (ho : (if w = -1 then none else some (ad 8 (cN w))) = o) : up2 (up2 (fC g ad σ pd pl sc h) 11 r (.inl (g.2 2, cN (σ 11 r), .inr (.inr (.inr (.inr (va_up (fun j => (pl r j).map (ad 12)) j (v.map (ad 12))))))))) 12 p (.inr (2, [.ref (ad 7 (prd σ p)), va_rf o, .int (σ 20 p), .int (σ 21 p), .int (sc 6 p), .int (sc 7 p)])) = fC g ad (s1 σ 19 p w) pd (plu pl r j v) sc h := by
  refine up2_to ?_ (fun k i hk => ?_)
  · rw [fC_12 (show p < nt (s1 σ 19 p w) from hp)]
    unfold palE rmR rmo
    rw [show (s1 σ 19 p w) 19 p = w from upd_s _ _ _, ho]
    rfl
  · match k, hk with
    | 0, _ => exact up2_n _ _ (by omega)
    | 1, _ => exact up2_n _ _ (by omega)
    | 2, _ => exact up2_n _ _ (by omega)
    | 3, _ => exact up2_n _ _ (by omega)
    | 4, _ => exact up2_n _ _ (by omega)
    | 5, _ => exact up2_n _ _ (by omega)
    | 6, _ => exact up2_n _ _ (by omega)
    | 7, _ => exact up2_n _ _ (by omega)
    | 8, _ => exact up2_n _ _ (by omega)
    | 9, _ => exact up2_n _ _ (by omega)
    | 10, _ => exact up2_n _ _ (by omega)
    | 11, _ =>
      by_cases hi : i = r
      · subst hi
        rw [up2_s, fC_11 (show i < nr (s1 σ 19 p w) from hr)]
        unfold plcE
        have e : va_up (fun j => (pl i j).map (ad 12)) j (v.map (ad 12)) = fun j' => (plu pl i j v i j').map (ad 12) := by
          funext q
          unfold va_up plu
          by_cases hq : q = j
          · rw [if_pos hq, if_pos ⟨rfl, hq⟩]
          · rw [if_neg hq, if_neg (fun z => hq z.2)]
        rw [e]
        rfl
      · rw [up2_n _ _ (fun z => hi z.2)]
        show (if i < nr σ then some (plcE g ad σ pl i) else none) = (if i < nr σ then some (plcE g ad (s1 σ 19 p w) (plu pl r j v) i) else none)
        unfold plcE
        have e : (fun j' => (plu pl r j v i j').map (ad 12)) = fun j' => (pl i j').map (ad 12) := by
          funext q
          rw [plu_n _ _ (fun z => hi z.1)]
        rw [e]
        rfl
    | 12, hk =>
      have hne : i ≠ p := fun z => hk ⟨rfl, z⟩
      rw [up2_n _ _ (by omega)]
      show (if i < nt σ then some (palE ad σ sc i) else none) = (if i < nt σ then some (palE ad (s1 σ 19 p w) sc i) else none)
      unfold palE rmR rmo
      rw [show (s1 σ 19 p w) 19 i = σ 19 i from upd_n _ _ hne]
      rfl
    | _ + 13, _ => exact up2_n _ _ (by omega)
end FC
