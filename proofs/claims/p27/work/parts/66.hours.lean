/-! THE HOURS: what the law asks of them -/
section HOURS7
variable {σ σ0 : Sg} {pl : Pl} {pd : Int64} {n m r hh : Nat}
theorem nI6_ne {r : Nat} (h : r < 1000) : nI r ≠ -1 := fun z => absurd (nI_nn (show r < 2 ^ 31 by omega)) (by rw [z]; decide)
theorem LxK_hour (h : Iv σ pl) (hT : rg (σ 16 (6 * r)) (-1000000) 1000000) (hr : r < nr σ) (hn : n ≤ 400) (hh24 : hh < 24) (hL : LxK σ pd n r) : LxK (hourS σ r hh) (hourP σ pd r hh) n (r + 1) := by
  obtain ⟨hok, hP, hR, hF⟩ := h
  obtain ⟨h1, h2, h3, h4, h5⟩ := hL
  obtain ⟨h17, h60, h10, h6, -⟩ := id hok
  have hRr := hR.2.1 r hr
  have row : ∀ k, k ≠ 16 → k ≠ 20 → k ≠ 21 → hourS σ r hh k = σ k := fun k h1 h2 h3 => hourS_row σ r hh h1 h2 h3
  have out : ∀ j, j < 6 * r ∨ 6 * r + 6 ≤ j → hourS σ r hh 16 j = σ 16 j := fun j hj => hour_out hR hr hT hj
  have er1 := h1 r hr
  have er2 := h2 r hr
  rw [if_neg (Nat.lt_irrefl r)] at er1 er2
  have hpo := hRr.2.2.1
  have add1 : (σ 16 (6 * r + 4) + σ 13 r).toInt = (σ 16 (6 * r + 4)).toInt + (σ 13 r).toInt := add_i (by omega) (by omega)
  refine ⟨fun i hi => ?_, fun i hi => ?_, ?_, fun j hj => ?_, fun i k hi hk hne he => ?_⟩
  · rw [hour_nr] at hi
    by_cases c : i = r
    · subst c
      rw [hour_e hT hRr.2.2.2.1, if_pos (Nat.lt_succ_self _)]
      split
      · constructor <;> omega
      · constructor <;> omega
    · rw [out _ (by omega)]
      have := h1 i hi
      by_cases c2 : i < r
      · rw [if_pos c2] at this
        rw [if_pos (by omega)]
        exact this
      · rw [if_neg c2] at this
        rw [if_neg (by omega)]
        exact this
  · rw [hour_nr] at hi
    by_cases c : i = r
    · subst c
      rw [if_pos (Nat.lt_succ_self _)]
      rcases hour_w (hh := hh) hT hRr.2.2.2.1 with e | e
      · rw [e]
        constructor <;> omega
      · have z1 : (1 : Int32).toInt = 1 := rfl
        have : (σ 16 (6 * i + 5) + 1).toInt = (σ 16 (6 * i + 5)).toInt + (1 : Int32).toInt := add_i (by omega) (by omega)
        rw [e]
        constructor <;> omega
    · rw [out _ (by omega)]
      have := h2 i hi
      by_cases c2 : i < r
      · rw [if_pos c2] at this
        rw [if_pos (by omega)]
        exact this
      · rw [if_neg c2] at this
        rw [if_neg (by omega)]
        exact this
  · rw [hour_nr, eSum_upd (σ := σ) (nr σ) hr (fun i hi hne => by unfold eS; rw [out _ (by omega)])]
    have hb := eSum_rg (σ := σ) (y := 80200) (nr σ) (fun i hi => by
      have := h1 i hi
      unfold eS
      split at this
      · constructor <;> omega
      · constructor <;> omega)
    have hb2 : (nr σ : Int) * 80200 ≤ 481200 := by omega
    obtain ⟨E, hE⟩ : ∃ E, E = eSum σ (nr σ) := ⟨_, rfl⟩
    rw [← hE] at h3 hb ⊢
    unfold eS
    rw [hour_e hT hRr.2.2.2.1, hour_p]
    by_cases c : smS σ r hh 16 (6 * r + 2) = 1
    · rw [if_pos c, if_pos c, add1]
      obtain ⟨p1, p2, p3⟩ := pay_i (pd := pd) (y := 25 * E) (by omega) h3.2 (by omega) hpo (h4 hh hh24)
      obtain ⟨z, hz⟩ : ∃ z, z = (σ 13 r).toInt * (σ 4 hh).toInt := ⟨_, rfl⟩
      rw [← hz] at p1 p2 p3
      rw [p1]
      constructor <;> omega
    · rw [if_neg c, if_neg c]
      constructor <;> omega
  · rw [row 4 (by decide) (by decide) (by decide)]
    exact h4 j hj
  · rw [hour_nt] at hi hk
    rw [row 19 (by decide) (by decide) (by decide)] at hne he
    have := h5 i k hi hk hne he
    unfold prd
    rw [row 18 (by decide) (by decide) (by decide)]
    exact goS_congr (row 9 (by decide) (by decide) (by decide)) this
theorem age_up {x o : Int32} (hx : rg x 0 20000000) (ho : 0 ≤ o.toInt) : x.toInt + 1 ≤ (x + (1 + o / 10)).toInt := by
  have e1 : (o / 10).toInt = o.toInt.tdiv 10 := by
    rw [div_i (by decide)]
    rfl
  have hlt := o.toInt_lt
  have d1 := td_hi (x := o.toInt) (y := 2147483648) (d := 10) (by omega) (by omega) (by omega)
  have d2 : 0 ≤ o.toInt.tdiv 10 := Int.tdiv_nonneg ho (by omega)
  have z1 : (1 : Int32).toInt = 1 := rfl
  have e2 : (1 + o / 10).toInt = 1 + (o / 10).toInt := add_i (a := 1) (by omega) (by omega)
  have e3 : (x + (1 + o / 10)).toInt = x.toInt + (1 + o / 10).toInt := add_i (by omega) (by omega)
  omega
theorem off_nn (σ : Sg) (a : Nat) (t : Int32) : 0 ≤ (offS σ a t).toInt := by
  unfold offS
  rw [mx_i]
  have z : (0 : Int32).toInt = 0 := rfl
  omega
theorem AgK_hour (hok0 : OkP σ0) (e17 : σ 17 = σ0 17) (e19 : σ 19 = σ0 19) (hA : ∀ q, q < nt σ → rg (σ 21 q) 0 20000000) (h : AgK σ0 σ m r) (hr6 : r < 6) : AgK σ0 (hourS σ r hh) m (r + 1) := fun q hq => by
  have ht : q < nt σ := by unfold nt; rw [e17]; exact hq
  obtain ⟨a1, a2⟩ := h q hq
  rw [hour_21, e19]
  refine ⟨fun hz => ?_, fun hz => ?_⟩
  · rw [if_neg (fun z => nI6_ne (r := r) (by omega) (z.2.symm.trans hz))]
    exact a1 hz
  · obtain ⟨g1, g2⟩ := hok0.2.2.2.2.2.2.2 q hq hz
    have h6 := hok0.2.2.2.1
    have b := a2 hz
    by_cases c : σ0 19 q = nI r
    · have er : rmo σ0 q = r := by
        show cN (σ0 19 q) = r
        rw [c]
        exact cN_nI (by omega)
      rw [if_pos (show rmo σ0 q < r + 1 by omega), if_pos ⟨ht, c⟩]
      rw [if_neg (by omega)] at b
      have := age_up (x := σ 21 q) (o := offS σ (prd σ q) (σ 20 q + (hTm (smS σ r hh) r hh 16 (6 * r) - σ 20 q) / 8)) (hA q ht) (off_nn _ _ _)
      omega
    · have er : rmo σ0 q ≠ r := fun z => c (by rw [g1, z])
      rw [if_neg (show ¬ (q < nt σ ∧ σ0 19 q = nI r) from fun z => c z.2)]
      by_cases c2 : rmo σ0 q < r
      · rw [if_pos c2] at b
        rw [if_pos (show rmo σ0 q < r + 1 by omega)]
        exact b
      · rw [if_neg c2] at b
        rw [if_neg (show ¬ rmo σ0 q < r + 1 by omega)]
        exact b
theorem rooms_7 {x : Sg × Int64} (hok0 : OkP σ0) (e17 : x.1 17 = σ0 17) (e19 : x.1 19 = σ0 19) (h : Iv x.1 pl) (hB : Bn x.1 n) (hn : n ≤ 400) (hh24 : hh < 24) (hL : Lx x.1 x.2 n) (hA : AgK σ0 x.1 m 0) : ∀ k : Nat, k ≤ nr x.1 → LxK (roomsAt x hh k).1 (roomsAt x hh k).2 n k ∧ AgK σ0 (roomsAt x hh k).1 m k
  | 0, _ => ⟨hL, hA⟩
  | k + 1, hk => by
    obtain ⟨h1, h2⟩ := rooms_7 hok0 e17 e19 h hB hn hh24 hL hA k (by omega)
    obtain ⟨i1, i2⟩ := rooms_keep (hh := hh) h hB (by omega) hh24 k (by omega)
    have i3 := BnK_1 i2
    have h6 := h.1.2.2.2.1
    have hkn : k < nr (roomsAt x hh k).1 := by rw [rooms_nr]; omega
    have hT := i3.1 k hkn
    have row : ∀ w, w ≠ 16 → w ≠ 20 → w ≠ 21 → (roomsAt x hh k).1 w = x.1 w := fun w a b c => roomsAt_row x hh a b c k
    exact ⟨LxK_hour i1 ⟨by omega, by omega⟩ hkn hn hh24 h1, AgK_hour hok0 ((row 17 (by decide) (by decide) (by decide)).trans e17) ((row 19 (by decide) (by decide) (by decide)).trans e19) (fun q hq => by
      have := (i3.2 q hq).2
      constructor <;> omega) h2 (by omega)⟩
theorem Lx_time {v : Int32} (h : Lx σ pd n) : Lx (ss σ 1 v) pd n := LxK_congr h rfl rfl rfl rfl rfl rfl (fun _ _ => ⟨rfl, rfl⟩)
theorem tick_row (x : Sg × Int64) {w : Nat} (h1 : w ≠ 1) (h16 : w ≠ 16) (h20 : w ≠ 20) (h21 : w ≠ 21) : ∀ k : Nat, (tickAt x k).1 w = x.1 w
  | 0 => rfl
  | k + 1 => (su_n (roomsAt (tickAt x k) (cN ((tickAt x k).1 1 0) % 24) (nr (tickAt x k).1)).1 _ h1).trans ((roomsAt_row _ _ h16 h20 h21 _).trans (tick_row x h1 h16 h20 h21 k))
theorem tick_7 {x : Sg × Int64} (h : Iv x.1 pl) (hB : Bn x.1 n) (hL : Lx x.1 x.2 n) : ∀ k : Nat, n + k ≤ 400 → Lx (tickAt x k).1 (tickAt x k).2 (n + k) ∧ AgK x.1 (tickAt x k).1 k 0
  | 0, _ => ⟨hL, AgK_0 _⟩
  | k + 1, hk => by
    obtain ⟨h1, h2⟩ := tick_7 h hB hL k (by omega)
    obtain ⟨i1, i2⟩ := tick_keep h hB k (by omega)
    have t17 := tick_row x (w := 17) (by decide) (by decide) (by decide) (by decide) k
    have t19 := tick_row x (w := 19) (by decide) (by decide) (by decide) (by decide) k
    obtain ⟨j1, j2⟩ := rooms_7 (hh := cN ((tickAt x k).1 1 0) % 24) h.1 t17 t19 i1 i2 (by omega) (Nat.mod_lt _ (by decide)) h1 h2 (nr (tickAt x k).1) (Nat.le_refl _)
    have er : nr (tickAt x k).1 = nr x.1 := congrArg cN (congrFun (tick_row x (w := 10) (by decide) (by decide) (by decide) (by decide) k) 0)
    refine ⟨Lx_time (LxK_end (by rw [rooms_nr]; exact j1)), AgK_congr (AgK_end h.1 er j2) (su_n (roomsAt (tickAt x k) (cN ((tickAt x k).1 1 0) % 24) (nr (tickAt x k).1)).1 (fun _ => (tickAt x k).1 1 0 + 1) (show 21 ≠ 1 by decide))⟩
end HOURS7
