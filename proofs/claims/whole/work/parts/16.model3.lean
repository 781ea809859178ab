/-! THE MODEL: told .. ship -/
section FMH
variable {g : Gg} {ad : Ad} {σ : Sg} {pd : Int64} {th : Int32} {h : Wd}
theorem objM_ad {k i q : Nat} (hk : 44 ≤ k) : objM (adup ad k i q) σ pd th = objM ad σ pd th := by
  have e : ∀ a : Nat, a < 44 → adup ad k i q a 0 = ad a 0 := fun a ha => adup_n ad q (fun z => by omega)
  unfold objM
  rw [e 24 (by decide), e 26 (by decide), e 27 (by decide), e 28 (by decide), e 29 (by decide), e 31 (by decide), e 32 (by decide), e 33 (by decide), e 34 (by decide), e 35 (by decide), e 36 (by decide), e 38 (by decide), e 39 (by decide), e 40 (by decide), e 41 (by decide)]
theorem fM_h {k i : Nat} {e : va_E} (hk : 44 ≤ k) : up2 (fM g ad σ pd th h) k i e = fM g ad σ pd th (up2 h k i e) := by
  funext k' i'
  by_cases hc : k' = k ∧ i' = i
  · obtain ⟨rfl, rfl⟩ := hc
    rw [up2_s]
    unfold fM
    rw [if_pos (Or.inr hk), up2_s]
  · rw [up2_n _ _ hc]
    unfold fM
    rw [up2_n _ _ hc]
theorem fM_hi {k i : Nat} {e : va_E} (hk : 44 ≤ k) : fM g ad σ pd th (up2 h k i e) k i = some e := by
  unfold fM
  rw [if_pos (Or.inr hk), up2_s]
theorem fM_tmp {k i q : Nat} {e : va_E} (hk : 44 ≤ k) : up2 (fM g ad σ pd th h) k i e = fM g (adup ad k i q) σ pd th (up2 h k i e) := by
  rw [fM_h hk]
  unfold fM
  rw [objM_ad hk]
theorem fM_back {ad2 : Ad} {k i q : Nat} {x : va_E} (had : ad2 = adup ad k i q) (hk : 44 ≤ k) (hh : h k i = none) : ∀ k' i' e, fM g ad σ pd th h k' i' = some e → fM g ad2 σ pd th (up2 h k i x) k' i' = some e ∧ ad k' i' = ad2 k' i' := by
  subst had
  intro k' i' e he
  have hc : ¬ (k' = k ∧ i' = i) := by
    rintro ⟨rfl, rfl⟩
    unfold fM at he
    rw [if_pos (Or.inr hk), hh] at he
    cases he
  refine ⟨?_, (adup_n ad q hc).symm⟩
  unfold fM at he ⊢
  rw [objM_ad hk, up2_n _ _ hc]
  exact he
end FMH
def leftS (σ : Sg) (p : Nat) : Int32 := σ 8 (prd σ p) - σ 21 p
abbrev goS (σ : Sg) (a b : Nat) : Prop := a = b ∨ (¬ σ 9 a = 3 ∧ ¬ σ 9 b = 3 ∧ ¬ σ 9 a + σ 9 b = 3)
def reasAt (σ : Sg) (a r : Nat) : Nat → Bool
  | 0 => false
  | k + 1 => reasAt σ a r k || (decide (σ 19 k = nI r) && !decide (goS σ a (prd σ k)))
theorem reasAt_up {σ : Sg} {a r : Nat} {k n : Nat} (h : reasAt σ a r k = true) (hn : k ≤ n) : reasAt σ a r n = true := by
  induction hn with
  | refl => exact h
  | step _ ih => simp [reasAt, ih]
def reasonS (σ : Sg) (a r : Nat) : Int32 := if freeS σ r = 0 then 1 else if reasAt σ a r (nt σ) = true then 2 else 0
def toldR (σ : Sg) (r w : Nat) : Int32 := match w with
  | 0 => σ 16 (6 * r)
  | 1 => σ 14 r
  | 2 => σ 16 (6 * r + 1)
  | 3 => σ 16 (6 * r + 2)
  | 4 => freeS σ r
  | 5 => σ 16 (6 * r + 4)
  | _ => σ 16 (6 * r + 5)
def toldP (σ : Sg) (p : Nat) (w : Int32) : Int32 := if w = 0 then σ 18 p else if w = 1 then σ 20 p else if w = 2 then σ 21 p else if w = 3 then σ 19 p else leftS σ p
def offS (σ : Sg) (a : Nat) (t : Int32) : Int32 := mx 0 (mx (σ 6 a - t) (t - σ 7 a))
def bestAt (σ : Sg) (a : Nat) : Nat → Int32
  | 0 => -1
  | r + 1 => if reasonS σ a r = 0 then (if bestAt σ a r = -1 then nI r else if offS σ a (σ 14 r) - offS σ a (σ 14 (cN (bestAt σ a r))) < 0 ∨ (offS σ a (σ 14 r) - offS σ a (σ 14 (cN (bestAt σ a r))) = 0 ∧ freeS σ (cN (bestAt σ a r)) < freeS σ r) then nI r else bestAt σ a r) else bestAt σ a r
theorem bestAt_in (σ : Sg) (a : Nat) : ∀ k : Nat, k < 2 ^ 31 → bestAt σ a k = -1 ∨ ∃ j : Nat, j < k ∧ bestAt σ a k = nI j
  | 0, _ => Or.inl rfl
  | r + 1, hk => by
    have ih := bestAt_in σ a r (by omega)
    have ih2 : bestAt σ a r = -1 ∨ ∃ j : Nat, j < r + 1 ∧ bestAt σ a r = nI j := ih.imp id (fun ⟨j, h1, h2⟩ => ⟨j, by omega, h2⟩)
    have hr : nI r = -1 ∨ ∃ j : Nat, j < r + 1 ∧ nI r = nI j := Or.inr ⟨r, by omega, rfl⟩
    unfold bestAt
    split
    · split
      · exact hr
      · split
        · exact hr
        · exact ih2
    · exact ih2
def kdRO (σ : Sg) (v w : Int32) : Int32 := if (0 ≤ v ∧ v ≤ σ 10 0 - 1) ∧ (0 ≤ w ∧ w ≤ 6) then 0 else 1
def kdRE (σ : Sg) (u v : Int32) : Int32 := if (0 ≤ u ∧ u ≤ σ 5 0 - 1) ∧ (0 ≤ v ∧ v ≤ σ 10 0 - 1) then 0 else 1
def kdAV (σ : Sg) (u v t : Int32) : Int32 := if (0 ≤ u ∧ u ≤ σ 5 0 - 1) ∧ (0 ≤ v ∧ v ≤ σ 10 0 - 1) then (if -300 ≤ t ∧ t ≤ 400 then (if reasonS σ (cN u) (cN v) = 0 ∧ ¬ σ 17 0 = 60 then 0 else 3) else 2) else 1
def stAV (σ : Sg) (u v t : Int32) : Sg := ss (s1 (s1 (s1 σ 18 (nt σ) u) 19 (nt σ) v) 20 (nt σ) t) 17 (σ 17 0 + 1)
def kdMV (σ : Sg) (u v : Int32) : Int32 := if (0 ≤ u ∧ u ≤ σ 17 0 - 1) ∧ (0 ≤ v ∧ v ≤ σ 10 0 - 1) then (if σ 19 (cN u) = -1 ∨ σ 19 (cN u) = v ∨ ¬ reasonS σ (prd σ (cN u)) (cN v) = 0 then 2 else 0) else 1
def stMV (σ : Sg) (u v : Int32) : Sg := s1 σ 19 (cN u) v
def kdPA (σ : Sg) (u w : Int32) : Int32 := if (0 ≤ u ∧ u ≤ σ 17 0 - 1) ∧ (0 ≤ w ∧ w ≤ 4) then 0 else 1
def kdPR (σ : Sg) (u : Int32) : Int32 := if 0 ≤ u ∧ u ≤ σ 5 0 - 1 then 0 else 1
def up7 (x0 x1 x2 x3 x4 x5 x6 : Int32) : Nat → Int32 := upd (upd (upd (upd (upd (upd (upd (fun _ => 0) 0 x0) 1 x1) 2 x2) 3 x3) 4 x4) 5 x5) 6 x6
theorem up7_told (σ : Sg) (r w : Nat) (hw : w < 7) : up7 (σ 16 (6 * r)) (σ 14 r) (σ 16 (6 * r + 1)) (σ 16 (6 * r + 2)) (freeS σ r) (σ 16 (6 * r + 4)) (σ 16 (6 * r + 5)) w = toldR σ r w := by
  match w, hw with
  | 0, _ => rfl
  | 1, _ => rfl
  | 2, _ => rfl
  | 3, _ => rfl
  | 4, _ => rfl
  | 5, _ => rfl
  | 6, _ => rfl
  | k + 7, h => exact absurd h (by omega)

set_option maxHeartbeats 4000000 in
set_option maxRecDepth 100000 in
theorem tX7_toldOfRoom (l : Launch) (g : Gg) (B0 : Nat) (ad : Ad) (σ : Sg) (pd : Int64) (th : Int32) (h : Wd) (hok : OkP σ) (hh : h 60 0 = none) (r w : Nat) (hr : r < 6) (hw : w < 7) : MM l g B0 yX7_toldOfRoom (wsM yX7_toldOfRoom cX7_toldOfRoom 5 (some .int)) ({ frames := 1, cells := 1, slots := 7, locals := 23 } : Room) [.ref (ad 20 0), .int (nI r), .int (nI w)] ad (fM g ad σ pd th h) (dI (toldR σ r w) ad (fM g ad σ pd th h)) (noX) 1 7 := by
  refine MM.start (by decide) (Nat.le_of_ble_eq_true rfl) ?_
  intro hl9 p e s m below meth c ls hC hno hI hl0
  have hx := hC.1.1
  have hb := hC.1.2.1
  have hts := hC.1.2.2.2.2
  have hl : lv_has ls 5 [(0, .ref (ad 20 0)), (1, .int (nI r)), (2, .int (nI w))] := hl0
  obtain ⟨H, hH⟩ : ∃ H, H = s.heap := ⟨_, rfl⟩
  obtain ⟨locs, hLo⟩ : ∃ L : List Loc, L = [] := ⟨_, rfl⟩
  rw [← hH, ← hLo] at hI ⊢
  clear hH hLo hl0
  refine lv_bipush (v := 6) hx hb dX7_toldOfRoom_0 (by decide) ?_
  refine lv_iload_n hx hb dX7_toldOfRoom_2 rfl (lv_at hl 1 rfl) ?_
  refine lv_imul hx hb dX7_toldOfRoom_3 ?_
  rw [six_nI]
  refine lv_istore_n (lv' := [(3, .int (nI (6 * r))), (0, .ref (ad 20 0)), (1, .int (nI r)), (2, .int (nI w))]) hx hb dX7_toldOfRoom_4 rfl hl (by decide) rfl (fun ls hl => ?_)
  refine lv_bipush (v := 7) hx hb dX7_toldOfRoom_5 (by decide) ?_
  refine r_newa hC hI 60 0 hh (atype := .int) wd_ac_int 0 rfl (hC.2.2.2.1.2 0 _ rfl).2 (a0 := (7, .inl (fun _ => 0))) rfl (by decide) (N' := 7) (by decide) (by decide) (Nat.le_of_ble_eq_true rfl) (Nat.le_of_ble_eq_true rfl) dX7_toldOfRoom_7 (fun q H hI => ?_)
  have hI := hI.cast (fM_tmp (q := q) (by decide))
  obtain ⟨ad2, had⟩ : ∃ a2, a2 = adup ad 60 0 q := ⟨_, rfl⟩
  rw [← had] at hI
  have e20 : ad 20 0 = ad2 20 0 := by rw [had]; rfl
  have e60 : q = ad2 60 0 := by rw [had]; exact (adup_s _ _ _ _).symm
  rw [e20] at hl
  rw [e60]
  refine lv_dup hx hb dX7_toldOfRoom_9 rfl ?_
  refine lv_iconst (v := 0) hx hb dX7_toldOfRoom_10 (by decide) ?_
  refine lv_aload_n hx hb dX7_toldOfRoom_11 rfl (lv_at hl 1 rfl) ?_
  refine gf_X7_45 hC hI fM_o rfl dX7_toldOfRoom_12 ?_
  refine lv_iload_n hx hb dX7_toldOfRoom_15 rfl (lv_at hl 0 rfl) ?_
  refine lv_iconst (v := 0) hx hb dX7_toldOfRoom_16 (by decide) ?_
  refine lv_iadd hx hb dX7_toldOfRoom_17 ?_
  refine r_iald hC hI fM_16 (j := (6 * r)) (nI_add _ 0) (by omega) (by decide) dX7_toldOfRoom_18 ?_
  refine r_iast hC hI (kk := 60) (ii := 0) (fM_hi (by decide)) (j := 0) rfl (by decide) (by decide) dX7_toldOfRoom_19 (fun H locs hI => ?_)
  have hI := hI.cast ((fM_h (by decide)).trans (congrArg _ (up2_up2 _ _ _ _ _)))
  refine lv_dup hx hb dX7_toldOfRoom_20 rfl ?_
  refine lv_iconst (v := 1) hx hb dX7_toldOfRoom_21 (by decide) ?_
  refine lv_aload_n hx hb dX7_toldOfRoom_22 rfl (lv_at hl 1 rfl) ?_
  refine gf_X7_38 hC hI fM_o rfl dX7_toldOfRoom_23 ?_
  refine lv_iload_n hx hb dX7_toldOfRoom_26 rfl (lv_at hl 2 rfl) ?_
  refine r_iald hC hI fM_14 (j := r) rfl (by omega) (by decide) dX7_toldOfRoom_27 ?_
  refine r_iast hC hI (kk := 60) (ii := 0) (fM_hi (by decide)) (j := 1) rfl (by decide) (by decide) dX7_toldOfRoom_28 (fun H locs hI => ?_)
  have hI := hI.cast ((fM_h (by decide)).trans (congrArg _ (up2_up2 _ _ _ _ _)))
  refine lv_dup hx hb dX7_toldOfRoom_29 rfl ?_
  refine lv_iconst (v := 2) hx hb dX7_toldOfRoom_30 (by decide) ?_
  refine lv_aload_n hx hb dX7_toldOfRoom_31 rfl (lv_at hl 1 rfl) ?_
  refine gf_X7_45 hC hI fM_o rfl dX7_toldOfRoom_32 ?_
  refine lv_iload_n hx hb dX7_toldOfRoom_35 rfl (lv_at hl 0 rfl) ?_
  refine lv_iconst (v := 1) hx hb dX7_toldOfRoom_36 (by decide) ?_
  refine lv_iadd hx hb dX7_toldOfRoom_37 ?_
  refine r_iald hC hI fM_16 (j := (6 * r + 1)) (nI_add _ 1) (by omega) (by decide) dX7_toldOfRoom_38 ?_
  refine r_iast hC hI (kk := 60) (ii := 0) (fM_hi (by decide)) (j := 2) rfl (by decide) (by decide) dX7_toldOfRoom_39 (fun H locs hI => ?_)
  have hI := hI.cast ((fM_h (by decide)).trans (congrArg _ (up2_up2 _ _ _ _ _)))
  refine lv_dup hx hb dX7_toldOfRoom_40 rfl ?_
  refine lv_iconst (v := 3) hx hb dX7_toldOfRoom_41 (by decide) ?_
  refine lv_aload_n hx hb dX7_toldOfRoom_42 rfl (lv_at hl 1 rfl) ?_
  refine gf_X7_45 hC hI fM_o rfl dX7_toldOfRoom_43 ?_
  refine lv_iload_n hx hb dX7_toldOfRoom_46 rfl (lv_at hl 0 rfl) ?_
  refine lv_iconst (v := 2) hx hb dX7_toldOfRoom_47 (by decide) ?_
  refine lv_iadd hx hb dX7_toldOfRoom_48 ?_
  refine r_iald hC hI fM_16 (j := (6 * r + 2)) (nI_add _ 2) (by omega) (by decide) dX7_toldOfRoom_49 ?_
  refine r_iast hC hI (kk := 60) (ii := 0) (fM_hi (by decide)) (j := 3) rfl (by decide) (by decide) dX7_toldOfRoom_50 (fun H locs hI => ?_)
  have hI := hI.cast ((fM_h (by decide)).trans (congrArg _ (up2_up2 _ _ _ _ _)))
  refine lv_dup hx hb dX7_toldOfRoom_51 rfl ?_
  refine lv_iconst (v := 4) hx hb dX7_toldOfRoom_52 (by decide) ?_
  refine lv_aload_n hx hb dX7_toldOfRoom_53 rfl (lv_at hl 1 rfl) ?_
  refine lv_iload_n hx hb dX7_toldOfRoom_54 rfl (lv_at hl 2 rfl) ?_
  refine c_Vi (rest := [.int 4, .ref (ad2 60 0), .ref (ad2 60 0)]) hl9 hC hI hl.1 (tX7_free l g B0 ad2 σ pd th (up2 h 60 0 (.inl (g.2 0, 7, .inl (upd (upd (upd (upd (fun _ => 0) 0 (σ 16 (6 * r))) 1 (σ 14 r)) 2 (σ 16 (6 * r + 1))) 3 (σ 16 (6 * r + 2)))))) r hok (by omega)) (cw_X7_109 hts rfl rfl ⟨(Nat.le_of_ble_eq_true rfl), (Nat.le_of_ble_eq_true rfl)⟩) fM_o rfl rfl rfl rfl (Nat.le_of_ble_eq_true rfl) dX7_toldOfRoom_55 ⟨(Nat.le_of_ble_eq_true rfl), (Nat.le_of_ble_eq_true rfl)⟩ (fun H locs hI => ?_)
  refine r_iast hC hI (kk := 60) (ii := 0) (fM_hi (by decide)) (j := 4) rfl (by decide) (by decide) dX7_toldOfRoom_58 (fun H locs hI => ?_)
  have hI := hI.cast ((fM_h (by decide)).trans (congrArg _ (up2_up2 _ _ _ _ _)))
  refine lv_dup hx hb dX7_toldOfRoom_59 rfl ?_
  refine lv_iconst (v := 5) hx hb dX7_toldOfRoom_60 (by decide) ?_
  refine lv_aload_n hx hb dX7_toldOfRoom_61 rfl (lv_at hl 1 rfl) ?_
  refine gf_X7_45 hC hI fM_o rfl dX7_toldOfRoom_62 ?_
  refine lv_iload_n hx hb dX7_toldOfRoom_65 rfl (lv_at hl 0 rfl) ?_
  refine lv_iconst (v := 4) hx hb dX7_toldOfRoom_66 (by decide) ?_
  refine lv_iadd hx hb dX7_toldOfRoom_67 ?_
  refine r_iald hC hI fM_16 (j := (6 * r + 4)) (nI_add _ 4) (by omega) (by decide) dX7_toldOfRoom_68 ?_
  refine r_iast hC hI (kk := 60) (ii := 0) (fM_hi (by decide)) (j := 5) rfl (by decide) (by decide) dX7_toldOfRoom_69 (fun H locs hI => ?_)
  have hI := hI.cast ((fM_h (by decide)).trans (congrArg _ (up2_up2 _ _ _ _ _)))
  refine lv_dup hx hb dX7_toldOfRoom_70 rfl ?_
  refine lv_bipush (v := 6) hx hb dX7_toldOfRoom_71 (by decide) ?_
  refine lv_aload_n hx hb dX7_toldOfRoom_73 rfl (lv_at hl 1 rfl) ?_
  refine gf_X7_45 hC hI fM_o rfl dX7_toldOfRoom_74 ?_
  refine lv_iload_n hx hb dX7_toldOfRoom_77 rfl (lv_at hl 0 rfl) ?_
  refine lv_iconst (v := 5) hx hb dX7_toldOfRoom_78 (by decide) ?_
  refine lv_iadd hx hb dX7_toldOfRoom_79 ?_
  refine r_iald hC hI fM_16 (j := (6 * r + 5)) (nI_add _ 5) (by omega) (by decide) dX7_toldOfRoom_80 ?_
  refine r_iast hC hI (kk := 60) (ii := 0) (fM_hi (by decide)) (j := 6) rfl (by decide) (by decide) dX7_toldOfRoom_81 (fun H locs hI => ?_)
  have hI := hI.cast ((fM_h (by decide)).trans (congrArg _ (up2_up2 _ _ _ _ _)))
  refine lv_astore (lv' := [(4, .ref (ad2 60 0)), (3, .int (nI (6 * r))), (0, .ref (ad2 20 0)), (1, .int (nI r)), (2, .int (nI w))]) hx hb dX7_toldOfRoom_82 hl (by decide) rfl (fun ls hl => ?_)
  refine lv_aload hx hb dX7_toldOfRoom_84 (lv_at hl 0 rfl) ?_
  refine lv_iload_n hx hb dX7_toldOfRoom_86 rfl (lv_at hl 4 rfl) ?_
  refine r_iald hC hI (kk := 60) (ii := 0) (fM_hi (by decide)) (j := w) rfl hw (by decide) dX7_toldOfRoom_87 ?_
  have hI := hI.sub (ad' := ad) (f' := fM g ad σ pd th h) (fM_back had (by decide) hh)
  exact e_int hC hI (rI (up7_told σ r w hw)) (Nat.le_of_ble_eq_true rfl) (Nat.le_of_ble_eq_true rfl) dX7_toldOfRoom_88
set_option maxHeartbeats 4000000 in
set_option maxRecDepth 100000 in
theorem tX7_room (l : Launch) (g : Gg) (B0 : Nat) (ad : Ad) (σ : Sg) (pd : Int64) (th : Int32) (h : Wd) (hok : OkP σ) (hh : h 60 0 = none) (v w : Int32) : MM l g B0 yX7_room (wsM yX7_room cX7_room 3 (some .int)) ({ frames := 2, cells := 1, slots := 7, locals := 47 } : Room) [.ref (ad 20 0), .int v, .int w] ad (fM g ad σ pd th h) (rM g ad h (kdRO σ v w) (toldR σ (cN v) (cN w)) σ σ pd pd) (noX) 1 7 := by
  refine MM.start (by decide) (Nat.le_of_ble_eq_true rfl) ?_
  intro hl9 p e s m below meth c ls hC hno hI hl0
  have hx := hC.1.1
  have hb := hC.1.2.1
  have hts := hC.1.2.2.2.2
  have hl : lv_has ls 3 [(0, .ref (ad 20 0)), (1, .int v), (2, .int w)] := hl0
  obtain ⟨H, hH⟩ : ∃ H, H = s.heap := ⟨_, rfl⟩
  obtain ⟨locs, hLo⟩ : ∃ L : List Loc, L = [] := ⟨_, rfl⟩
  rw [← hH, ← hLo] at hI ⊢
  clear hH hLo hl0
  obtain ⟨h17, h60, h10, h6, h5, h12, hpr, hrm⟩ := id hok
  refine lv_aload_n hx hb dX7_room_0 rfl (lv_at hl 0 rfl) ?_
  refine lv_iconst (v := 0) hx hb dX7_room_1 (by decide) ?_
  refine pf_X7_60 hC hI fM_o (Nat.le_of_ble_eq_true rfl) dX7_room_2 (fun H locs hI => ?_)
  have hI := hI.cast fM_pth
  refine lv_aload_n hx hb dX7_room_5 rfl (lv_at hl 0 rfl) ?_
  refine lv_iload_n hx hb dX7_room_6 rfl (lv_at hl 1 rfl) ?_
  refine c_Vi (rest := []) hl9 hC hI hl.1 (tX7_isRoom l g B0 ad σ pd 0 h v) (cw_X7_106 hts rfl rfl ⟨(Nat.le_of_ble_eq_true rfl), (Nat.le_of_ble_eq_true rfl)⟩) fM_o rfl rfl rfl rfl (Nat.le_of_ble_eq_true rfl) dX7_room_7 ⟨(Nat.le_of_ble_eq_true rfl), (Nat.le_of_ble_eq_true rfl)⟩ (fun H locs hI => ?_)
  refine lv_if_eq (tgt := 32) hx hb dX7_room_10 (by decide) (fun c10 => ?_) (fun c10 => ?_)
  · have c10 := bi_0.mp c10
    refine lv_aload_n hx hb dX7_room_32 rfl (lv_at hl 0 rfl) ?_
    refine lv_iconst (v := 1) hx hb dX7_room_33 (by decide) ?_
    refine c_Vi (rest := []) hl9 hC hI hl.1 (tX7_no l g B0 ad σ pd 0 h 1) (cw_X7_85 hts rfl rfl ⟨(Nat.le_of_ble_eq_true rfl), (Nat.le_of_ble_eq_true rfl)⟩) fM_o rfl rfl rfl rfl (Nat.le_of_ble_eq_true rfl) dX7_room_34 ⟨(Nat.le_of_ble_eq_true rfl), (Nat.le_of_ble_eq_true rfl)⟩ (fun H locs hI => ?_)
    exact e_int hC hI (rM_no (if_neg (fun z => c10 z.1)) (by decide)) (Nat.le_of_ble_eq_true rfl) (Nat.le_of_ble_eq_true rfl) dX7_room_37
  · have c10 := bi_1.mp c10
    refine lv_iload_n hx hb dX7_room_13 rfl (lv_at hl 2 rfl) ?_
    refine lv_iconst (v := 0) hx hb dX7_room_14 (by decide) ?_
    refine lv_bipush (v := 6) hx hb dX7_room_15 (by decide) ?_
    refine c_Si (rest := []) hl9 hC hI hl.1 (tX7_isIn l g B0 ad _ w 0 6) (cw_X7_66 hts rfl rfl ⟨(Nat.le_of_ble_eq_true rfl), (Nat.le_of_ble_eq_true rfl)⟩) rfl rfl (Nat.le_of_ble_eq_true rfl) dX7_room_17 ⟨(Nat.le_of_ble_eq_true rfl), (Nat.le_of_ble_eq_true rfl)⟩ (fun H locs hI => ?_)
    refine lv_if_eq (tgt := 32) hx hb dX7_room_20 (by decide) (fun c20 => ?_) (fun c20 => ?_)
    · have c20 := bi_0.mp c20
      refine lv_aload_n hx hb dX7_room_32 rfl (lv_at hl 0 rfl) ?_
      refine lv_iconst (v := 1) hx hb dX7_room_33 (by decide) ?_
      refine c_Vi (rest := []) hl9 hC hI hl.1 (tX7_no l g B0 ad σ pd 0 h 1) (cw_X7_85 hts rfl rfl ⟨(Nat.le_of_ble_eq_true rfl), (Nat.le_of_ble_eq_true rfl)⟩) fM_o rfl rfl rfl rfl (Nat.le_of_ble_eq_true rfl) dX7_room_34 ⟨(Nat.le_of_ble_eq_true rfl), (Nat.le_of_ble_eq_true rfl)⟩ (fun H locs hI => ?_)
      exact e_int hC hI (rM_no (if_neg (fun z => c20 z.2)) (by decide)) (Nat.le_of_ble_eq_true rfl) (Nat.le_of_ble_eq_true rfl) dX7_room_37
    · have c20 := bi_1.mp c20
      have hk : kdRO σ v w = 0 := if_pos ⟨c10, c20⟩
      obtain ⟨r, hr, rfl⟩ := (in_cnt h10 (by omega)).mp c10
      have hcr : cN (nI r) = r := cN_nI (by omega)
      obtain ⟨w9, hw9, rfl⟩ : ∃ w9 : Nat, w9 < 7 ∧ w = nI w9 := by
                  obtain ⟨j, hj, rfl⟩ := nI_of (Int32.not_lt.mpr c20.1)
                  exact ⟨j, Nat.lt_succ_of_le ((nI_leI hj (b := 6) (by decide)).mp c20.2), rfl⟩
      have hcw : cN (nI w9) = w9 := cN_nI (by omega)
      refine lv_aload_n hx hb dX7_room_23 rfl (lv_at hl 0 rfl) ?_
      refine lv_iload_n hx hb dX7_room_24 rfl (lv_at hl 1 rfl) ?_
      refine lv_iload_n hx hb dX7_room_25 rfl (lv_at hl 2 rfl) ?_
      refine c_Vim (rest := []) hl9 hC hI hl.1 (tX7_toldOfRoom l g B0 ad σ pd 0 h hok hh r w9 (by omega) hw9) (cw_X7_112 hts rfl rfl ⟨(Nat.le_of_ble_eq_true rfl), (Nat.le_of_ble_eq_true rfl)⟩) fM_o rfl rfl rfl rfl (Nat.le_of_ble_eq_true rfl) dX7_room_26 ⟨(Nat.le_of_ble_eq_true rfl), (Nat.le_of_ble_eq_true rfl)⟩ (fun H locs hI => ?_)
      refine lv_goto (tgt := 37) hx hb dX7_room_29 (by decide) ?_
      exact e_int hC hI (rM_ok hk (by rw [hcr, hcw]) rfl) (Nat.le_of_ble_eq_true rfl) (Nat.le_of_ble_eq_true rfl) dX7_room_37
set_option maxHeartbeats 4000000 in
set_option maxRecDepth 100000 in
theorem tX7_goTogether (l : Launch) (g : Gg) (B0 : Nat) (ad : Ad) (σ : Sg) (pd : Int64) (th : Int32) (h : Wd) (a b : Nat) (ha : a < 12) (hb9 : b < 12) : MM l g B0 yX7_goTogether (wsM yX7_goTogether cX7_goTogether 3 (some .boolean)) ({ frames := 0, cells := 0, slots := 0, locals := 0 } : Room) [.ref (ad 20 0), .int (nI a), .int (nI b)] ad (fM g ad σ pd th h) (dI (bi (goS σ a b)) ad (fM g ad σ pd th h)) (noX) 0 0 := by
  refine MM.start (by decide) (Nat.le_of_ble_eq_true rfl) ?_
  intro hl9 p e s m below meth c ls hC hno hI hl0
  have hx := hC.1.1
  have hb := hC.1.2.1
  have hts := hC.1.2.2.2.2
  have hl : lv_has ls 3 [(0, .ref (ad 20 0)), (1, .int (nI a)), (2, .int (nI b))] := hl0
  obtain ⟨H, hH⟩ : ∃ H, H = s.heap := ⟨_, rfl⟩
  obtain ⟨locs, hLo⟩ : ∃ L : List Loc, L = [] := ⟨_, rfl⟩
  rw [← hH, ← hLo] at hI ⊢
  clear hH hLo hl0
  refine lv_iload_n hx hb dX7_goTogether_0 rfl (lv_at hl 1 rfl) ?_
  refine lv_iload_n hx hb dX7_goTogether_1 rfl (lv_at hl 2 rfl) ?_
  refine lv_icmp_ne (tgt := 7) hx hb dX7_goTogether_2 (by decide) (fun c2 => ?_) (fun c2 => ?_)
  · have hab : ¬ a = b := fun z => c2 (by rw [z])
    refine lv_aload_n hx hb dX7_goTogether_7 rfl (lv_at hl 0 rfl) ?_
    refine gf_X7_26 hC hI fM_o rfl dX7_goTogether_8 ?_
    refine lv_iload_n hx hb dX7_goTogether_11 rfl (lv_at hl 1 rfl) ?_
    refine r_iald hC hI fM_9 (j := a) rfl (by omega) (by decide) dX7_goTogether_12 ?_
    refine lv_iconst (v := 3) hx hb dX7_goTogether_13 (by decide) ?_
    refine lv_icmp_eq (tgt := 27) hx hb dX7_goTogether_14 (by decide) (fun c14 => ?_) (fun c14 => ?_)
    · refine lv_iconst (v := 0) hx hb dX7_goTogether_27 (by decide) ?_
      exact e_bool hC hI (by decide) (rI (bi_f (fun z => z.elim hab (fun y => y.1 c14))).symm) (Nat.le_of_ble_eq_true rfl) (Nat.le_of_ble_eq_true rfl) dX7_goTogether_28
    · refine lv_aload_n hx hb dX7_goTogether_17 rfl (lv_at hl 0 rfl) ?_
      refine gf_X7_26 hC hI fM_o rfl dX7_goTogether_18 ?_
      refine lv_iload_n hx hb dX7_goTogether_21 rfl (lv_at hl 2 rfl) ?_
      refine r_iald hC hI fM_9 (j := b) rfl (by omega) (by decide) dX7_goTogether_22 ?_
      refine lv_iconst (v := 3) hx hb dX7_goTogether_23 (by decide) ?_
      refine lv_icmp_ne (tgt := 29) hx hb dX7_goTogether_24 (by decide) (fun c24 => ?_) (fun c24 => ?_)
      · refine lv_aload_n hx hb dX7_goTogether_29 rfl (lv_at hl 0 rfl) ?_
        refine gf_X7_26 hC hI fM_o rfl dX7_goTogether_30 ?_
        refine lv_iload_n hx hb dX7_goTogether_33 rfl (lv_at hl 1 rfl) ?_
        refine r_iald hC hI fM_9 (j := a) rfl (by omega) (by decide) dX7_goTogether_34 ?_
        refine lv_aload_n hx hb dX7_goTogether_35 rfl (lv_at hl 0 rfl) ?_
        refine gf_X7_26 hC hI fM_o rfl dX7_goTogether_36 ?_
        refine lv_iload_n hx hb dX7_goTogether_39 rfl (lv_at hl 2 rfl) ?_
        refine r_iald hC hI fM_9 (j := b) rfl (by omega) (by decide) dX7_goTogether_40 ?_
        refine lv_iadd hx hb dX7_goTogether_41 ?_
        refine lv_iconst (v := 3) hx hb dX7_goTogether_42 (by decide) ?_
        refine lv_icmp_eq (tgt := 50) hx hb dX7_goTogether_43 (by decide) (fun c43 => ?_) (fun c43 => ?_)
        · refine lv_iconst (v := 0) hx hb dX7_goTogether_50 (by decide) ?_
          exact e_bool hC hI (by decide) (rI (bi_f (fun z => z.elim hab (fun y => y.2.2 c43))).symm) (Nat.le_of_ble_eq_true rfl) (Nat.le_of_ble_eq_true rfl) dX7_goTogether_51
        · refine lv_iconst (v := 1) hx hb dX7_goTogether_46 (by decide) ?_
          refine lv_goto (tgt := 51) hx hb dX7_goTogether_47 (by decide) ?_
          exact e_bool hC hI (by decide) (rI (bi_t (Or.inr ⟨c14, c24, c43⟩)).symm) (Nat.le_of_ble_eq_true rfl) (Nat.le_of_ble_eq_true rfl) dX7_goTogether_51
      · refine lv_iconst (v := 0) hx hb dX7_goTogether_27 (by decide) ?_
        exact e_bool hC hI (by decide) (rI (bi_f (fun z => z.elim hab (fun y => y.2.1 c24))).symm) (Nat.le_of_ble_eq_true rfl) (Nat.le_of_ble_eq_true rfl) dX7_goTogether_28
  · have hab : a = b := (nI_eq (by omega) (by omega)).mp c2
    refine lv_iconst (v := 1) hx hb dX7_goTogether_5 (by decide) ?_
    exact e_bool hC hI (by decide) (rI (bi_t (Or.inl hab)).symm) (Nat.le_of_ble_eq_true rfl) (Nat.le_of_ble_eq_true rfl) dX7_goTogether_6
set_option maxHeartbeats 4000000 in
set_option maxRecDepth 100000 in
theorem tX7_reasonFor (l : Launch) (g : Gg) (B0 : Nat) (ad : Ad) (σ : Sg) (pd : Int64) (th : Int32) (h : Wd) (hok : OkP σ) (a r : Nat) (ha : a < 12) (hr : r < 6) : MM l g B0 yX7_reasonFor (wsM yX7_reasonFor cX7_reasonFor 4 (some .int)) ({ frames := 1, cells := 0, slots := 0, locals := 23 } : Room) [.ref (ad 20 0), .int (nI a), .int (nI r)] ad (fM g ad σ pd th h) (dI (reasonS σ a r) ad (fM g ad σ pd th h)) (noX) 0 0 := by
  refine MM.start (by decide) (Nat.le_of_ble_eq_true rfl) ?_
  intro hl9 p e s m below meth c ls hC hno hI hl0
  have hx := hC.1.1
  have hb := hC.1.2.1
  have hts := hC.1.2.2.2.2
  have hl : lv_has ls 4 [(0, .ref (ad 20 0)), (1, .int (nI a)), (2, .int (nI r))] := hl0
  obtain ⟨H, hH⟩ : ∃ H, H = s.heap := ⟨_, rfl⟩
  obtain ⟨locs, hLo⟩ : ∃ L : List Loc, L = [] := ⟨_, rfl⟩
  rw [← hH, ← hLo] at hI ⊢
  clear hH hLo hl0
  obtain ⟨h17, h60, h10, h6, h5, h12, hpr, hrm⟩ := id hok
  refine lv_aload_n hx hb dX7_reasonFor_0 rfl (lv_at hl 0 rfl) ?_
  refine lv_iload_n hx hb dX7_reasonFor_1 rfl (lv_at hl 2 rfl) ?_
  refine c_Vi (rest := []) hl9 hC hI hl.1 (tX7_free l g B0 ad σ pd th h r hok (by omega)) (cw_X7_109 hts rfl rfl ⟨(Nat.le_of_ble_eq_true rfl), (Nat.le_of_ble_eq_true rfl)⟩) fM_o rfl rfl rfl rfl (Nat.le_of_ble_eq_true rfl) dX7_reasonFor_2 ⟨(Nat.le_of_ble_eq_true rfl), (Nat.le_of_ble_eq_true rfl)⟩ (fun H locs hI => ?_)
  refine lv_if_ne (tgt := 10) hx hb dX7_reasonFor_5 (by decide) (fun c5 => ?_) (fun c5 => ?_)
  · refine lv_iconst (v := 0) hx hb dX7_reasonFor_10 (by decide) ?_
    refine lv_istore_n (lv' := [(3, .int (nI 0)), (0, .ref (ad 20 0)), (1, .int (nI a)), (2, .int (nI r))]) hx hb dX7_reasonFor_11 rfl hl (by decide) rfl (fun ls hl => ?_)
    have L12 : ∀ (n : Nat) (k : Nat), k ≤ nt σ → reasAt σ a r k = false → nt σ + 1 ≤ k + n → ∀ (H : Heap) (locs : List Loc), WI g ad B0 (fM g ad σ pd th h) s H locs → ∀ (ls : Array Slot), lv_has ls 4 [(3, .int (nI k)), (0, .ref (ad 20 0)), (1, .int (nI a)), (2, .int (nI r))] → W p l e ({ frames := 1, cells := 0, slots := 0, locals := 23 } : Room) s m ([.ref (ad 20 0), .int (nI a), .int (nI r)] : List Value).toArray below meth c H locs 0 0 (vx_MQ below (QI g B0 (dI (reasonS σ a r) ad (fM g ad σ pd th h))) (XI g B0 (noX)) ([.ref (ad 20 0), .int (nI a), .int (nI r)] : List Value).toArray s 0 0 (fun q => B0 ≤ q)) (F0 m 12 ls []) := by
      intro n
      induction n with
      | zero =>
        intro k hk hq hfu
        exact absurd hfu (by omega)
      | succ n ih =>
        intro k hk hq hfu H locs hI ls hl
        refine lv_iload_n hx hb dX7_reasonFor_12 rfl (lv_at hl 0 rfl) ?_
        refine lv_aload_n hx hb dX7_reasonFor_13 rfl (lv_at hl 1 rfl) ?_
        refine gf_X7_73 hC hI fM_o rfl dX7_reasonFor_14 ?_
        refine lv_icmp_ge (tgt := 52) hx hb dX7_reasonFor_17 (by decide) (fun c17 => ?_) (fun c17 => ?_)
        · have hk2 : nt σ ≤ k := ge_T h17 (by omega) (by omega) c17
          refine lv_iconst (v := 0) hx hb dX7_reasonFor_52 (by decide) ?_
          exact e_int hC hI (rI (by unfold reasonS; rw [if_neg c5, ← show k = nt σ by omega, hq]; rfl)) (Nat.le_of_ble_eq_true rfl) (Nat.le_of_ble_eq_true rfl) dX7_reasonFor_53
        · have hk2 : k < nt σ := ge_F h17 (by omega) (by omega) c17
          obtain ⟨hp1, hp2⟩ := hpr k hk2
          refine lv_aload_n hx hb dX7_reasonFor_20 rfl (lv_at hl 1 rfl) ?_
          refine gf_X7_51 hC hI fM_o rfl dX7_reasonFor_21 ?_
          refine lv_iload_n hx hb dX7_reasonFor_24 rfl (lv_at hl 0 rfl) ?_
          refine r_iald hC hI fM_19 (j := k) rfl (by omega) (by decide) dX7_reasonFor_25 ?_
          refine lv_iload_n hx hb dX7_reasonFor_26 rfl (lv_at hl 3 rfl) ?_
          refine lv_icmp_ne (tgt := 46) hx hb dX7_reasonFor_27 (by decide) (fun c27 => ?_) (fun c27 => ?_)
          · refine lv_iinc (v := nI (k + 1)) (lv' := [(3, .int (nI (k + 1))), (0, .ref (ad 20 0)), (1, .int (nI a)), (2, .int (nI r))]) hx hb dX7_reasonFor_46 hl (k := 0) rfl (nI_1 _) (by decide) rfl (fun ls hl => ?_)
            refine lv_goto (tgt := 12) hx hb dX7_reasonFor_49 (by decide) ?_
            exact ih (k + 1) (by omega) (by simp [reasAt, hq, c27]) (by omega) _ _ hI ls (lv_sub hl [0, 1, 2, 3] rfl)
          · refine lv_aload_n hx hb dX7_reasonFor_30 rfl (lv_at hl 1 rfl) ?_
            refine lv_iload_n hx hb dX7_reasonFor_31 rfl (lv_at hl 2 rfl) ?_
            refine lv_aload_n hx hb dX7_reasonFor_32 rfl (lv_at hl 1 rfl) ?_
            refine gf_X7_48 hC hI fM_o rfl dX7_reasonFor_33 ?_
            refine lv_iload_n hx hb dX7_reasonFor_36 rfl (lv_at hl 0 rfl) ?_
            refine r_iald hC hI fM_18 (j := k) rfl (by omega) (by decide) dX7_reasonFor_37 ?_
            rw [hp1]
            refine c_Vi (rest := []) hl9 hC hI hl.1 (tX7_goTogether l g B0 ad σ pd th h a (prd σ k) (by omega) (by omega)) (cw_X7_115 hts rfl rfl ⟨(Nat.le_of_ble_eq_true rfl), (Nat.le_of_ble_eq_true rfl)⟩) fM_o rfl rfl rfl rfl (Nat.le_of_ble_eq_true rfl) dX7_reasonFor_38 ⟨(Nat.le_of_ble_eq_true rfl), (Nat.le_of_ble_eq_true rfl)⟩ (fun H locs hI => ?_)
            refine lv_if_ne (tgt := 46) hx hb dX7_reasonFor_41 (by decide) (fun c41 => ?_) (fun c41 => ?_)
            · have c41 := bi_1.mp c41
              refine lv_iinc (v := nI (k + 1)) (lv' := [(3, .int (nI (k + 1))), (0, .ref (ad 20 0)), (1, .int (nI a)), (2, .int (nI r))]) hx hb dX7_reasonFor_46 hl (k := 0) rfl (nI_1 _) (by decide) rfl (fun ls hl => ?_)
              refine lv_goto (tgt := 12) hx hb dX7_reasonFor_49 (by decide) ?_
              exact ih (k + 1) (by omega) (by simp only [reasAt, hq, decide_eq_true c41]; simp) (by omega) _ _ hI ls (lv_sub hl [0, 1, 2, 3] rfl)
            · have c41 := bi_0.mp c41
              refine lv_iconst (v := 2) hx hb dX7_reasonFor_44 (by decide) ?_
              have hq2 : reasAt σ a r (k + 1) = true := by simp only [reasAt, decide_eq_true c27, decide_eq_false c41]; simp
              exact e_int hC hI (rI (by unfold reasonS; rw [if_neg c5, if_pos (reasAt_up hq2 (by omega))])) (Nat.le_of_ble_eq_true rfl) (Nat.le_of_ble_eq_true rfl) dX7_reasonFor_45
    exact L12 (nt σ + 1) 0 (by omega) rfl (by omega) _ _ hI ls (lv_sub hl [0, 1, 2, 3] rfl)
  · refine lv_iconst (v := 1) hx hb dX7_reasonFor_8 (by decide) ?_
    exact e_int hC hI (rI (if_pos c5).symm) (Nat.le_of_ble_eq_true rfl) (Nat.le_of_ble_eq_true rfl) dX7_reasonFor_9
set_option maxHeartbeats 4000000 in
set_option maxRecDepth 100000 in
theorem tX7_reason (l : Launch) (g : Gg) (B0 : Nat) (ad : Ad) (σ : Sg) (pd : Int64) (th : Int32) (h : Wd) (hok : OkP σ) (u v : Int32) : MM l g B0 yX7_reason (wsM yX7_reason cX7_reason 3 (some .int)) ({ frames := 2, cells := 0, slots := 0, locals := 46 } : Room) [.ref (ad 20 0), .int u, .int v] ad (fM g ad σ pd th h) (rM g ad h (kdRE σ u v) (reasonS σ (cN u) (cN v)) σ σ pd pd) (noX) 0 0 := by
  refine MM.start (by decide) (Nat.le_of_ble_eq_true rfl) ?_
  intro hl9 p e s m below meth c ls hC hno hI hl0
  have hx := hC.1.1
  have hb := hC.1.2.1
  have hts := hC.1.2.2.2.2
  have hl : lv_has ls 3 [(0, .ref (ad 20 0)), (1, .int u), (2, .int v)] := hl0
  obtain ⟨H, hH⟩ : ∃ H, H = s.heap := ⟨_, rfl⟩
  obtain ⟨locs, hLo⟩ : ∃ L : List Loc, L = [] := ⟨_, rfl⟩
  rw [← hH, ← hLo] at hI ⊢
  clear hH hLo hl0
  obtain ⟨h17, h60, h10, h6, h5, h12, hpr, hrm⟩ := id hok
  refine lv_aload_n hx hb dX7_reason_0 rfl (lv_at hl 0 rfl) ?_
  refine lv_iconst (v := 0) hx hb dX7_reason_1 (by decide) ?_
  refine pf_X7_60 hC hI fM_o (Nat.le_of_ble_eq_true rfl) dX7_reason_2 (fun H locs hI => ?_)
  have hI := hI.cast fM_pth
  refine lv_aload_n hx hb dX7_reason_5 rfl (lv_at hl 0 rfl) ?_
  refine lv_iload_n hx hb dX7_reason_6 rfl (lv_at hl 1 rfl) ?_
  refine c_Vi (rest := []) hl9 hC hI hl.1 (tX7_isProduct l g B0 ad σ pd 0 h u) (cw_X7_119 hts rfl rfl ⟨(Nat.le_of_ble_eq_true rfl), (Nat.le_of_ble_eq_true rfl)⟩) fM_o rfl rfl rfl rfl (Nat.le_of_ble_eq_true rfl) dX7_reason_7 ⟨(Nat.le_of_ble_eq_true rfl), (Nat.le_of_ble_eq_true rfl)⟩ (fun H locs hI => ?_)
  refine lv_if_eq (tgt := 30) hx hb dX7_reason_10 (by decide) (fun c10 => ?_) (fun c10 => ?_)
  · have c10 := bi_0.mp c10
    refine lv_aload_n hx hb dX7_reason_30 rfl (lv_at hl 0 rfl) ?_
    refine lv_iconst (v := 1) hx hb dX7_reason_31 (by decide) ?_
    refine c_Vi (rest := []) hl9 hC hI hl.1 (tX7_no l g B0 ad σ pd 0 h 1) (cw_X7_85 hts rfl rfl ⟨(Nat.le_of_ble_eq_true rfl), (Nat.le_of_ble_eq_true rfl)⟩) fM_o rfl rfl rfl rfl (Nat.le_of_ble_eq_true rfl) dX7_reason_32 ⟨(Nat.le_of_ble_eq_true rfl), (Nat.le_of_ble_eq_true rfl)⟩ (fun H locs hI => ?_)
    exact e_int hC hI (rM_no (if_neg (fun z => c10 z.1)) (by decide)) (Nat.le_of_ble_eq_true rfl) (Nat.le_of_ble_eq_true rfl) dX7_reason_35
  · have c10 := bi_1.mp c10
    refine lv_aload_n hx hb dX7_reason_13 rfl (lv_at hl 0 rfl) ?_
    refine lv_iload_n hx hb dX7_reason_14 rfl (lv_at hl 2 rfl) ?_
    refine c_Vi (rest := []) hl9 hC hI hl.1 (tX7_isRoom l g B0 ad σ pd 0 h v) (cw_X7_106 hts rfl rfl ⟨(Nat.le_of_ble_eq_true rfl), (Nat.le_of_ble_eq_true rfl)⟩) fM_o rfl rfl rfl rfl (Nat.le_of_ble_eq_true rfl) dX7_reason_15 ⟨(Nat.le_of_ble_eq_true rfl), (Nat.le_of_ble_eq_true rfl)⟩ (fun H locs hI => ?_)
    refine lv_if_eq (tgt := 30) hx hb dX7_reason_18 (by decide) (fun c18 => ?_) (fun c18 => ?_)
    · have c18 := bi_0.mp c18
      refine lv_aload_n hx hb dX7_reason_30 rfl (lv_at hl 0 rfl) ?_
      refine lv_iconst (v := 1) hx hb dX7_reason_31 (by decide) ?_
      refine c_Vi (rest := []) hl9 hC hI hl.1 (tX7_no l g B0 ad σ pd 0 h 1) (cw_X7_85 hts rfl rfl ⟨(Nat.le_of_ble_eq_true rfl), (Nat.le_of_ble_eq_true rfl)⟩) fM_o rfl rfl rfl rfl (Nat.le_of_ble_eq_true rfl) dX7_reason_32 ⟨(Nat.le_of_ble_eq_true rfl), (Nat.le_of_ble_eq_true rfl)⟩ (fun H locs hI => ?_)
      exact e_int hC hI (rM_no (if_neg (fun z => c18 z.2)) (by decide)) (Nat.le_of_ble_eq_true rfl) (Nat.le_of_ble_eq_true rfl) dX7_reason_35
    · have c18 := bi_1.mp c18
      have hk : kdRE σ u v = 0 := if_pos ⟨c10, c18⟩
      obtain ⟨a, ha, rfl⟩ := (in_cnt h5 (by omega)).mp c10
      have hca : cN (nI a) = a := cN_nI (by omega)
      obtain ⟨r, hr, rfl⟩ := (in_cnt h10 (by omega)).mp c18
      have hcr : cN (nI r) = r := cN_nI (by omega)
      refine lv_aload_n hx hb dX7_reason_21 rfl (lv_at hl 0 rfl) ?_
      refine lv_iload_n hx hb dX7_reason_22 rfl (lv_at hl 1 rfl) ?_
      refine lv_iload_n hx hb dX7_reason_23 rfl (lv_at hl 2 rfl) ?_
      refine c_Vi (rest := []) hl9 hC hI hl.1 (tX7_reasonFor l g B0 ad σ pd 0 h hok a r (by omega) (by omega)) (cw_X7_122 hts rfl rfl ⟨(Nat.le_of_ble_eq_true rfl), (Nat.le_of_ble_eq_true rfl)⟩) fM_o rfl rfl rfl rfl (Nat.le_of_ble_eq_true rfl) dX7_reason_24 ⟨(Nat.le_of_ble_eq_true rfl), (Nat.le_of_ble_eq_true rfl)⟩ (fun H locs hI => ?_)
      refine lv_goto (tgt := 35) hx hb dX7_reason_27 (by decide) ?_
      exact e_int hC hI (rM_ok hk (by rw [hca, hcr]) rfl) (Nat.le_of_ble_eq_true rfl) (Nat.le_of_ble_eq_true rfl) dX7_reason_35
set_option maxHeartbeats 4000000 in
set_option maxRecDepth 100000 in
theorem tX7_arrive (l : Launch) (g : Gg) (B0 : Nat) (ad : Ad) (σ : Sg) (pd : Int64) (th : Int32) (h : Wd) (hok : OkP σ) (u v t9 : Int32) : MM l g B0 yX7_arrive (wsM yX7_arrive cX7_arrive 4 (some .int)) ({ frames := 2, cells := 0, slots := 0, locals := 46 } : Room) [.ref (ad 20 0), .int u, .int v, .int t9] ad (fM g ad σ pd th h) (rM g ad h (kdAV σ u v t9) (σ 17 0) (stAV σ u v t9) σ pd pd) (noX) 0 0 := by
  refine MM.start (by decide) (Nat.le_of_ble_eq_true rfl) ?_
  intro hl9 p e s m below meth c ls hC hno hI hl0
  have hx := hC.1.1
  have hb := hC.1.2.1
  have hts := hC.1.2.2.2.2
  have hl : lv_has ls 4 [(0, .ref (ad 20 0)), (1, .int u), (2, .int v), (3, .int t9)] := hl0
  obtain ⟨H, hH⟩ : ∃ H, H = s.heap := ⟨_, rfl⟩
  obtain ⟨locs, hLo⟩ : ∃ L : List Loc, L = [] := ⟨_, rfl⟩
  rw [← hH, ← hLo] at hI ⊢
  clear hH hLo hl0
  obtain ⟨h17, h60, h10, h6, h5, h12, hpr, hrm⟩ := id hok
  refine lv_aload_n hx hb dX7_arrive_0 rfl (lv_at hl 0 rfl) ?_
  refine lv_iconst (v := 0) hx hb dX7_arrive_1 (by decide) ?_
  refine pf_X7_60 hC hI fM_o (Nat.le_of_ble_eq_true rfl) dX7_arrive_2 (fun H locs hI => ?_)
  have hI := hI.cast fM_pth
  refine lv_aload_n hx hb dX7_arrive_5 rfl (lv_at hl 0 rfl) ?_
  refine lv_iload_n hx hb dX7_arrive_6 rfl (lv_at hl 1 rfl) ?_
  refine c_Vi (rest := []) hl9 hC hI hl.1 (tX7_isProduct l g B0 ad σ pd 0 h u) (cw_X7_119 hts rfl rfl ⟨(Nat.le_of_ble_eq_true rfl), (Nat.le_of_ble_eq_true rfl)⟩) fM_o rfl rfl rfl rfl (Nat.le_of_ble_eq_true rfl) dX7_arrive_7 ⟨(Nat.le_of_ble_eq_true rfl), (Nat.le_of_ble_eq_true rfl)⟩ (fun H locs hI => ?_)
  refine lv_if_eq (tgt := 21) hx hb dX7_arrive_10 (by decide) (fun c10 => ?_) (fun c10 => ?_)
  · have c10 := bi_0.mp c10
    refine lv_aload_n hx hb dX7_arrive_21 rfl (lv_at hl 0 rfl) ?_
    refine lv_iconst (v := 1) hx hb dX7_arrive_22 (by decide) ?_
    refine c_Vi (rest := []) hl9 hC hI hl.1 (tX7_no l g B0 ad σ pd 0 h 1) (cw_X7_85 hts rfl rfl ⟨(Nat.le_of_ble_eq_true rfl), (Nat.le_of_ble_eq_true rfl)⟩) fM_o rfl rfl rfl rfl (Nat.le_of_ble_eq_true rfl) dX7_arrive_23 ⟨(Nat.le_of_ble_eq_true rfl), (Nat.le_of_ble_eq_true rfl)⟩ (fun H locs hI => ?_)
    exact e_int hC hI (rM_no (if_neg (fun z => c10 z.1)) (by decide)) (Nat.le_of_ble_eq_true rfl) (Nat.le_of_ble_eq_true rfl) dX7_arrive_26
  · have c10 := bi_1.mp c10
    refine lv_aload_n hx hb dX7_arrive_13 rfl (lv_at hl 0 rfl) ?_
    refine lv_iload_n hx hb dX7_arrive_14 rfl (lv_at hl 2 rfl) ?_
    refine c_Vi (rest := []) hl9 hC hI hl.1 (tX7_isRoom l g B0 ad σ pd 0 h v) (cw_X7_106 hts rfl rfl ⟨(Nat.le_of_ble_eq_true rfl), (Nat.le_of_ble_eq_true rfl)⟩) fM_o rfl rfl rfl rfl (Nat.le_of_ble_eq_true rfl) dX7_arrive_15 ⟨(Nat.le_of_ble_eq_true rfl), (Nat.le_of_ble_eq_true rfl)⟩ (fun H locs hI => ?_)
    refine lv_if_ne (tgt := 27) hx hb dX7_arrive_18 (by decide) (fun c18 => ?_) (fun c18 => ?_)
    · have c18 := bi_1.mp c18
      have hk0 : kdAV σ u v t9 = (if -300 ≤ t9 ∧ t9 ≤ 400 then (if reasonS σ (cN u) (cN v) = 0 ∧ ¬ σ 17 0 = 60 then 0 else 3) else 2) := if_pos ⟨c10, c18⟩
      obtain ⟨a, ha, rfl⟩ := (in_cnt h5 (by omega)).mp c10
      have hca : cN (nI a) = a := cN_nI (by omega)
      obtain ⟨r, hr, rfl⟩ := (in_cnt h10 (by omega)).mp c18
      have hcr : cN (nI r) = r := cN_nI (by omega)
      rw [hca, hcr] at hk0
      refine lv_iload_n hx hb dX7_arrive_27 rfl (lv_at hl 3 rfl) ?_
      refine lv_sipush (v := (-300)) hx hb dX7_arrive_28 (by decide) ?_
      refine lv_sipush (v := 400) hx hb dX7_arrive_31 (by decide) ?_
      refine c_Si (rest := []) hl9 hC hI hl.1 (tX7_isIn l g B0 ad _ t9 (-300) 400) (cw_X7_66 hts rfl rfl ⟨(Nat.le_of_ble_eq_true rfl), (Nat.le_of_ble_eq_true rfl)⟩) rfl rfl (Nat.le_of_ble_eq_true rfl) dX7_arrive_34 ⟨(Nat.le_of_ble_eq_true rfl), (Nat.le_of_ble_eq_true rfl)⟩ (fun H locs hI => ?_)
      refine lv_if_ne (tgt := 46) hx hb dX7_arrive_37 (by decide) (fun c37 => ?_) (fun c37 => ?_)
      · have c37 := bi_1.mp c37
        have hk1 := hk0.trans (if_pos c37)
        refine lv_aload_n hx hb dX7_arrive_46 rfl (lv_at hl 0 rfl) ?_
        refine lv_iload_n hx hb dX7_arrive_47 rfl (lv_at hl 1 rfl) ?_
        refine lv_iload_n hx hb dX7_arrive_48 rfl (lv_at hl 2 rfl) ?_
        refine c_Vi (rest := []) hl9 hC hI hl.1 (tX7_reasonFor l g B0 ad σ pd 0 h hok a r (by omega) (by omega)) (cw_X7_122 hts rfl rfl ⟨(Nat.le_of_ble_eq_true rfl), (Nat.le_of_ble_eq_true rfl)⟩) fM_o rfl rfl rfl rfl (Nat.le_of_ble_eq_true rfl) dX7_arrive_49 ⟨(Nat.le_of_ble_eq_true rfl), (Nat.le_of_ble_eq_true rfl)⟩ (fun H locs hI => ?_)
        refine lv_if_ne (tgt := 64) hx hb dX7_arrive_52 (by decide) (fun c52 => ?_) (fun c52 => ?_)
        · refine lv_aload_n hx hb dX7_arrive_64 rfl (lv_at hl 0 rfl) ?_
          refine lv_iconst (v := 3) hx hb dX7_arrive_65 (by decide) ?_
          refine c_Vi (rest := []) hl9 hC hI hl.1 (tX7_no l g B0 ad σ pd 0 h 3) (cw_X7_85 hts rfl rfl ⟨(Nat.le_of_ble_eq_true rfl), (Nat.le_of_ble_eq_true rfl)⟩) fM_o rfl rfl rfl rfl (Nat.le_of_ble_eq_true rfl) dX7_arrive_66 ⟨(Nat.le_of_ble_eq_true rfl), (Nat.le_of_ble_eq_true rfl)⟩ (fun H locs hI => ?_)
          exact e_int hC hI (rM_no (hk1.trans (if_neg (fun z => c52 z.1))) (by decide)) (Nat.le_of_ble_eq_true rfl) (Nat.le_of_ble_eq_true rfl) dX7_arrive_69
        · refine lv_aload_n hx hb dX7_arrive_55 rfl (lv_at hl 0 rfl) ?_
          refine gf_X7_73 hC hI fM_o rfl dX7_arrive_56 ?_
          refine lv_bipush (v := 60) hx hb dX7_arrive_59 (by decide) ?_
          refine lv_icmp_ne (tgt := 70) hx hb dX7_arrive_61 (by decide) (fun c61 => ?_) (fun c61 => ?_)
          · have hnp : nt σ < 60 := Nat.lt_of_le_of_ne h60 (fun z => c61 (by rw [h17, z]; rfl))
            refine lv_aload_n hx hb dX7_arrive_70 rfl (lv_at hl 0 rfl) ?_
            refine gf_X7_48 hC hI fM_o rfl dX7_arrive_71 ?_
            refine lv_aload_n hx hb dX7_arrive_74 rfl (lv_at hl 0 rfl) ?_
            refine gf_X7_73 hC hI fM_o rfl dX7_arrive_75 ?_
            refine lv_iload_n hx hb dX7_arrive_78 rfl (lv_at hl 1 rfl) ?_
            refine r_iast hC hI fM_18 (j := nt σ) h17 hnp (by decide) dX7_arrive_79 (fun H locs hI => ?_)
            have hI := hI.cast (fM_a 18 rfl (by decide) (by decide) rfl)
            refine lv_aload_n hx hb dX7_arrive_80 rfl (lv_at hl 0 rfl) ?_
            refine gf_X7_51 hC hI fM_o rfl dX7_arrive_81 ?_
            refine lv_aload_n hx hb dX7_arrive_84 rfl (lv_at hl 0 rfl) ?_
            refine gf_X7_73 hC hI fM_o rfl dX7_arrive_85 ?_
            refine lv_iload_n hx hb dX7_arrive_88 rfl (lv_at hl 2 rfl) ?_
            refine r_iast hC hI fM_19 (j := nt σ) h17 hnp (by decide) dX7_arrive_89 (fun H locs hI => ?_)
            have hI := hI.cast (fM_a 19 rfl (by decide) (by decide) rfl)
            refine lv_aload_n hx hb dX7_arrive_90 rfl (lv_at hl 0 rfl) ?_
            refine gf_X7_54 hC hI fM_o rfl dX7_arrive_91 ?_
            refine lv_aload_n hx hb dX7_arrive_94 rfl (lv_at hl 0 rfl) ?_
            refine gf_X7_73 hC hI fM_o rfl dX7_arrive_95 ?_
            refine lv_iload_n hx hb dX7_arrive_98 rfl (lv_at hl 3 rfl) ?_
            refine r_iast hC hI fM_20 (j := nt σ) h17 hnp (by decide) dX7_arrive_99 (fun H locs hI => ?_)
            have hI := hI.cast (fM_a 20 rfl (by decide) (by decide) rfl)
            refine lv_aload_n hx hb dX7_arrive_100 rfl (lv_at hl 0 rfl) ?_
            refine lv_dup hx hb dX7_arrive_101 rfl ?_
            refine gf_X7_73 hC hI fM_o rfl dX7_arrive_102 ?_
            refine lv_iconst (v := 1) hx hb dX7_arrive_105 (by decide) ?_
            refine lv_iadd hx hb dX7_arrive_106 ?_
            refine pf_X7_73 hC hI fM_o (Nat.le_of_ble_eq_true rfl) dX7_arrive_107 (fun H locs hI => ?_)
            have hI := hI.cast fM_p18
            refine lv_aload_n hx hb dX7_arrive_110 rfl (lv_at hl 0 rfl) ?_
            refine gf_X7_73 hC hI fM_o rfl dX7_arrive_111 ?_
            refine lv_iconst (v := 1) hx hb dX7_arrive_114 (by decide) ?_
            refine lv_isub hx hb dX7_arrive_115 ?_
            exact e_int hC hI (rM_ok (hk1.trans (if_pos ⟨c52, c61⟩)) (add_sub1 _) rfl) (Nat.le_of_ble_eq_true rfl) (Nat.le_of_ble_eq_true rfl) dX7_arrive_116
          · refine lv_aload_n hx hb dX7_arrive_64 rfl (lv_at hl 0 rfl) ?_
            refine lv_iconst (v := 3) hx hb dX7_arrive_65 (by decide) ?_
            refine c_Vi (rest := []) hl9 hC hI hl.1 (tX7_no l g B0 ad σ pd 0 h 3) (cw_X7_85 hts rfl rfl ⟨(Nat.le_of_ble_eq_true rfl), (Nat.le_of_ble_eq_true rfl)⟩) fM_o rfl rfl rfl rfl (Nat.le_of_ble_eq_true rfl) dX7_arrive_66 ⟨(Nat.le_of_ble_eq_true rfl), (Nat.le_of_ble_eq_true rfl)⟩ (fun H locs hI => ?_)
            exact e_int hC hI (rM_no (hk1.trans (if_neg (fun z => z.2 c61))) (by decide)) (Nat.le_of_ble_eq_true rfl) (Nat.le_of_ble_eq_true rfl) dX7_arrive_69
      · have c37 := bi_0.mp c37
        refine lv_aload_n hx hb dX7_arrive_40 rfl (lv_at hl 0 rfl) ?_
        refine lv_iconst (v := 2) hx hb dX7_arrive_41 (by decide) ?_
        refine c_Vi (rest := []) hl9 hC hI hl.1 (tX7_no l g B0 ad σ pd 0 h 2) (cw_X7_85 hts rfl rfl ⟨(Nat.le_of_ble_eq_true rfl), (Nat.le_of_ble_eq_true rfl)⟩) fM_o rfl rfl rfl rfl (Nat.le_of_ble_eq_true rfl) dX7_arrive_42 ⟨(Nat.le_of_ble_eq_true rfl), (Nat.le_of_ble_eq_true rfl)⟩ (fun H locs hI => ?_)
        exact e_int hC hI (rM_no (hk0.trans (if_neg c37)) (by decide)) (Nat.le_of_ble_eq_true rfl) (Nat.le_of_ble_eq_true rfl) dX7_arrive_45
    · have c18 := bi_0.mp c18
      refine lv_aload_n hx hb dX7_arrive_21 rfl (lv_at hl 0 rfl) ?_
      refine lv_iconst (v := 1) hx hb dX7_arrive_22 (by decide) ?_
      refine c_Vi (rest := []) hl9 hC hI hl.1 (tX7_no l g B0 ad σ pd 0 h 1) (cw_X7_85 hts rfl rfl ⟨(Nat.le_of_ble_eq_true rfl), (Nat.le_of_ble_eq_true rfl)⟩) fM_o rfl rfl rfl rfl (Nat.le_of_ble_eq_true rfl) dX7_arrive_23 ⟨(Nat.le_of_ble_eq_true rfl), (Nat.le_of_ble_eq_true rfl)⟩ (fun H locs hI => ?_)
      exact e_int hC hI (rM_no (if_neg (fun z => c18 z.2)) (by decide)) (Nat.le_of_ble_eq_true rfl) (Nat.le_of_ble_eq_true rfl) dX7_arrive_26
set_option maxHeartbeats 4000000 in
set_option maxRecDepth 100000 in
theorem tX7_move (l : Launch) (g : Gg) (B0 : Nat) (ad : Ad) (σ : Sg) (pd : Int64) (th : Int32) (h : Wd) (hok : OkP σ) (u v : Int32) : MM l g B0 yX7_move (wsM yX7_move cX7_move 4 (some .int)) ({ frames := 2, cells := 0, slots := 0, locals := 46 } : Room) [.ref (ad 20 0), .int u, .int v] ad (fM g ad σ pd th h) (rM g ad h (kdMV σ u v) (σ 19 (cN u)) (stMV σ u v) σ pd pd) (noX) 0 0 := by
  refine MM.start (by decide) (Nat.le_of_ble_eq_true rfl) ?_
  intro hl9 p e s m below meth c ls hC hno hI hl0
  have hx := hC.1.1
  have hb := hC.1.2.1
  have hts := hC.1.2.2.2.2
  have hl : lv_has ls 4 [(0, .ref (ad 20 0)), (1, .int u), (2, .int v)] := hl0
  obtain ⟨H, hH⟩ : ∃ H, H = s.heap := ⟨_, rfl⟩
  obtain ⟨locs, hLo⟩ : ∃ L : List Loc, L = [] := ⟨_, rfl⟩
  rw [← hH, ← hLo] at hI ⊢
  clear hH hLo hl0
  obtain ⟨h17, h60, h10, h6, h5, h12, hpr, hrm⟩ := id hok
  refine lv_aload_n hx hb dX7_move_0 rfl (lv_at hl 0 rfl) ?_
  refine lv_iconst (v := 0) hx hb dX7_move_1 (by decide) ?_
  refine pf_X7_60 hC hI fM_o (Nat.le_of_ble_eq_true rfl) dX7_move_2 (fun H locs hI => ?_)
  have hI := hI.cast fM_pth
  refine lv_aload_n hx hb dX7_move_5 rfl (lv_at hl 0 rfl) ?_
  refine lv_iload_n hx hb dX7_move_6 rfl (lv_at hl 1 rfl) ?_
  refine c_Vi (rest := []) hl9 hC hI hl.1 (tX7_isPallet l g B0 ad σ pd 0 h u) (cw_X7_125 hts rfl rfl ⟨(Nat.le_of_ble_eq_true rfl), (Nat.le_of_ble_eq_true rfl)⟩) fM_o rfl rfl rfl rfl (Nat.le_of_ble_eq_true rfl) dX7_move_7 ⟨(Nat.le_of_ble_eq_true rfl), (Nat.le_of_ble_eq_true rfl)⟩ (fun H locs hI => ?_)
  refine lv_if_eq (tgt := 21) hx hb dX7_move_10 (by decide) (fun c10 => ?_) (fun c10 => ?_)
  · have c10 := bi_0.mp c10
    refine lv_aload_n hx hb dX7_move_21 rfl (lv_at hl 0 rfl) ?_
    refine lv_iconst (v := 1) hx hb dX7_move_22 (by decide) ?_
    refine c_Vi (rest := []) hl9 hC hI hl.1 (tX7_no l g B0 ad σ pd 0 h 1) (cw_X7_85 hts rfl rfl ⟨(Nat.le_of_ble_eq_true rfl), (Nat.le_of_ble_eq_true rfl)⟩) fM_o rfl rfl rfl rfl (Nat.le_of_ble_eq_true rfl) dX7_move_23 ⟨(Nat.le_of_ble_eq_true rfl), (Nat.le_of_ble_eq_true rfl)⟩ (fun H locs hI => ?_)
    exact e_int hC hI (rM_no (if_neg (fun z => c10 z.1)) (by decide)) (Nat.le_of_ble_eq_true rfl) (Nat.le_of_ble_eq_true rfl) dX7_move_26
  · have c10 := bi_1.mp c10
    refine lv_aload_n hx hb dX7_move_13 rfl (lv_at hl 0 rfl) ?_
    refine lv_iload_n hx hb dX7_move_14 rfl (lv_at hl 2 rfl) ?_
    refine c_Vi (rest := []) hl9 hC hI hl.1 (tX7_isRoom l g B0 ad σ pd 0 h v) (cw_X7_106 hts rfl rfl ⟨(Nat.le_of_ble_eq_true rfl), (Nat.le_of_ble_eq_true rfl)⟩) fM_o rfl rfl rfl rfl (Nat.le_of_ble_eq_true rfl) dX7_move_15 ⟨(Nat.le_of_ble_eq_true rfl), (Nat.le_of_ble_eq_true rfl)⟩ (fun H locs hI => ?_)
    refine lv_if_ne (tgt := 27) hx hb dX7_move_18 (by decide) (fun c18 => ?_) (fun c18 => ?_)
    · have c18 := bi_1.mp c18
      have hk0 : kdMV σ u v = (if σ 19 (cN u) = -1 ∨ σ 19 (cN u) = v ∨ ¬ reasonS σ (prd σ (cN u)) (cN v) = 0 then 2 else 0) := if_pos ⟨c10, c18⟩
      obtain ⟨a, ha, rfl⟩ := (in_cnt h17 (by omega)).mp c10
      have hca : cN (nI a) = a := cN_nI (by omega)
      obtain ⟨r, hr, rfl⟩ := (in_cnt h10 (by omega)).mp c18
      have hcr : cN (nI r) = r := cN_nI (by omega)
      rw [hca, hcr] at hk0
      obtain ⟨hp1, hp2⟩ := hpr a ha
      refine lv_aload_n hx hb dX7_move_27 rfl (lv_at hl 0 rfl) ?_
      refine gf_X7_51 hC hI fM_o rfl dX7_move_28 ?_
      refine lv_iload_n hx hb dX7_move_31 rfl (lv_at hl 1 rfl) ?_
      refine r_iald hC hI fM_19 (j := a) rfl (by omega) (by decide) dX7_move_32 ?_
      refine lv_istore_n (lv' := [(3, .int (σ 19 a)), (0, .ref (ad 20 0)), (1, .int (nI a)), (2, .int (nI r))]) hx hb dX7_move_33 rfl hl (by decide) rfl (fun ls hl => ?_)
      refine lv_iload_n hx hb dX7_move_34 rfl (lv_at hl 0 rfl) ?_
      refine lv_iconst (v := (-1)) hx hb dX7_move_35 (by decide) ?_
      refine lv_icmp_eq (tgt := 58) hx hb dX7_move_36 (by decide) (fun c36 => ?_) (fun c36 => ?_)
      · refine lv_aload_n hx hb dX7_move_58 rfl (lv_at hl 1 rfl) ?_
        refine lv_iconst (v := 2) hx hb dX7_move_59 (by decide) ?_
        refine c_Vi (rest := []) hl9 hC hI hl.1 (tX7_no l g B0 ad σ pd 0 h 2) (cw_X7_85 hts rfl rfl ⟨(Nat.le_of_ble_eq_true rfl), (Nat.le_of_ble_eq_true rfl)⟩) fM_o rfl rfl rfl rfl (Nat.le_of_ble_eq_true rfl) dX7_move_60 ⟨(Nat.le_of_ble_eq_true rfl), (Nat.le_of_ble_eq_true rfl)⟩ (fun H locs hI => ?_)
        exact e_int hC hI (rM_no (hk0.trans (if_pos (Or.inl c36))) (by decide)) (Nat.le_of_ble_eq_true rfl) (Nat.le_of_ble_eq_true rfl) dX7_move_63
      · refine lv_iload_n hx hb dX7_move_39 rfl (lv_at hl 0 rfl) ?_
        refine lv_iload_n hx hb dX7_move_40 rfl (lv_at hl 3 rfl) ?_
        refine lv_icmp_eq (tgt := 58) hx hb dX7_move_41 (by decide) (fun c41 => ?_) (fun c41 => ?_)
        · refine lv_aload_n hx hb dX7_move_58 rfl (lv_at hl 1 rfl) ?_
          refine lv_iconst (v := 2) hx hb dX7_move_59 (by decide) ?_
          refine c_Vi (rest := []) hl9 hC hI hl.1 (tX7_no l g B0 ad σ pd 0 h 2) (cw_X7_85 hts rfl rfl ⟨(Nat.le_of_ble_eq_true rfl), (Nat.le_of_ble_eq_true rfl)⟩) fM_o rfl rfl rfl rfl (Nat.le_of_ble_eq_true rfl) dX7_move_60 ⟨(Nat.le_of_ble_eq_true rfl), (Nat.le_of_ble_eq_true rfl)⟩ (fun H locs hI => ?_)
          exact e_int hC hI (rM_no (hk0.trans (if_pos (Or.inr (Or.inl c41)))) (by decide)) (Nat.le_of_ble_eq_true rfl) (Nat.le_of_ble_eq_true rfl) dX7_move_63
        · refine lv_aload_n hx hb dX7_move_44 rfl (lv_at hl 1 rfl) ?_
          refine lv_aload_n hx hb dX7_move_45 rfl (lv_at hl 1 rfl) ?_
          refine gf_X7_48 hC hI fM_o rfl dX7_move_46 ?_
          refine lv_iload_n hx hb dX7_move_49 rfl (lv_at hl 2 rfl) ?_
          refine r_iald hC hI fM_18 (j := a) rfl (by omega) (by decide) dX7_move_50 ?_
          rw [hp1]
          refine lv_iload_n hx hb dX7_move_51 rfl (lv_at hl 3 rfl) ?_
          refine c_Vi (rest := []) hl9 hC hI hl.1 (tX7_reasonFor l g B0 ad σ pd 0 h hok (prd σ a) r (by omega) (by omega)) (cw_X7_122 hts rfl rfl ⟨(Nat.le_of_ble_eq_true rfl), (Nat.le_of_ble_eq_true rfl)⟩) fM_o rfl rfl rfl rfl (Nat.le_of_ble_eq_true rfl) dX7_move_52 ⟨(Nat.le_of_ble_eq_true rfl), (Nat.le_of_ble_eq_true rfl)⟩ (fun H locs hI => ?_)
          refine lv_if_eq (tgt := 64) hx hb dX7_move_55 (by decide) (fun c55 => ?_) (fun c55 => ?_)
          · refine lv_aload_n hx hb dX7_move_64 rfl (lv_at hl 1 rfl) ?_
            refine gf_X7_51 hC hI fM_o rfl dX7_move_65 ?_
            refine lv_iload_n hx hb dX7_move_68 rfl (lv_at hl 2 rfl) ?_
            refine lv_iload_n hx hb dX7_move_69 rfl (lv_at hl 3 rfl) ?_
            refine r_iast hC hI fM_19 (j := a) rfl (by omega) (by decide) dX7_move_70 (fun H locs hI => ?_)
            have hI := hI.cast (fM_a 19 rfl (by decide) (by decide) rfl)
            refine lv_iload_n hx hb dX7_move_71 rfl (lv_at hl 0 rfl) ?_
            exact e_int hC hI (rM_ok (hk0.trans (if_neg (fun z => z.elim c36 (fun z => z.elim c41 (fun z => z c55))))) (by rw [hca]) (by unfold stMV; rw [hca])) (Nat.le_of_ble_eq_true rfl) (Nat.le_of_ble_eq_true rfl) dX7_move_72
          · refine lv_aload_n hx hb dX7_move_58 rfl (lv_at hl 1 rfl) ?_
            refine lv_iconst (v := 2) hx hb dX7_move_59 (by decide) ?_
            refine c_Vi (rest := []) hl9 hC hI hl.1 (tX7_no l g B0 ad σ pd 0 h 2) (cw_X7_85 hts rfl rfl ⟨(Nat.le_of_ble_eq_true rfl), (Nat.le_of_ble_eq_true rfl)⟩) fM_o rfl rfl rfl rfl (Nat.le_of_ble_eq_true rfl) dX7_move_60 ⟨(Nat.le_of_ble_eq_true rfl), (Nat.le_of_ble_eq_true rfl)⟩ (fun H locs hI => ?_)
            exact e_int hC hI (rM_no (hk0.trans (if_pos (Or.inr (Or.inr c55)))) (by decide)) (Nat.le_of_ble_eq_true rfl) (Nat.le_of_ble_eq_true rfl) dX7_move_63
    · have c18 := bi_0.mp c18
      refine lv_aload_n hx hb dX7_move_21 rfl (lv_at hl 0 rfl) ?_
      refine lv_iconst (v := 1) hx hb dX7_move_22 (by decide) ?_
      refine c_Vi (rest := []) hl9 hC hI hl.1 (tX7_no l g B0 ad σ pd 0 h 1) (cw_X7_85 hts rfl rfl ⟨(Nat.le_of_ble_eq_true rfl), (Nat.le_of_ble_eq_true rfl)⟩) fM_o rfl rfl rfl rfl (Nat.le_of_ble_eq_true rfl) dX7_move_23 ⟨(Nat.le_of_ble_eq_true rfl), (Nat.le_of_ble_eq_true rfl)⟩ (fun H locs hI => ?_)
      exact e_int hC hI (rM_no (if_neg (fun z => c18 z.2)) (by decide)) (Nat.le_of_ble_eq_true rfl) (Nat.le_of_ble_eq_true rfl) dX7_move_26
set_option maxHeartbeats 4000000 in
set_option maxRecDepth 100000 in
theorem tX7_leftOf (l : Launch) (g : Gg) (B0 : Nat) (ad : Ad) (σ : Sg) (pd : Int64) (th : Int32) (h : Wd) (hok : OkP σ) (p9 : Nat) (hp : p9 < nt σ) : MM l g B0 yX7_leftOf (wsM yX7_leftOf cX7_leftOf 2 (some .int)) ({ frames := 0, cells := 0, slots := 0, locals := 0 } : Room) [.ref (ad 20 0), .int (nI p9)] ad (fM g ad σ pd th h) (dI (leftS σ p9) ad (fM g ad σ pd th h)) (noX) 0 0 := by
  refine MM.start (by decide) (Nat.le_of_ble_eq_true rfl) ?_
  intro hl9 p e s m below meth c ls hC hno hI hl0
  have hx := hC.1.1
  have hb := hC.1.2.1
  have hts := hC.1.2.2.2.2
  have hl : lv_has ls 2 [(0, .ref (ad 20 0)), (1, .int (nI p9))] := hl0
  obtain ⟨H, hH⟩ : ∃ H, H = s.heap := ⟨_, rfl⟩
  obtain ⟨locs, hLo⟩ : ∃ L : List Loc, L = [] := ⟨_, rfl⟩
  rw [← hH, ← hLo] at hI ⊢
  clear hH hLo hl0
  obtain ⟨h17, h60, h10, h6, h5, h12, hpr, hrm⟩ := id hok
  obtain ⟨hp1, hp2⟩ := hpr p9 hp
  refine lv_aload_n hx hb dX7_leftOf_0 rfl (lv_at hl 0 rfl) ?_
  refine gf_X7_23 hC hI fM_o rfl dX7_leftOf_1 ?_
  refine lv_aload_n hx hb dX7_leftOf_4 rfl (lv_at hl 0 rfl) ?_
  refine gf_X7_48 hC hI fM_o rfl dX7_leftOf_5 ?_
  refine lv_iload_n hx hb dX7_leftOf_8 rfl (lv_at hl 1 rfl) ?_
  refine r_iald hC hI fM_18 (j := p9) rfl (by omega) (by decide) dX7_leftOf_9 ?_
  refine r_iald hC hI fM_8 (j := prd σ p9) hp1 (by omega) (by decide) dX7_leftOf_10 ?_
  refine lv_aload_n hx hb dX7_leftOf_11 rfl (lv_at hl 0 rfl) ?_
  refine gf_X7_57 hC hI fM_o rfl dX7_leftOf_12 ?_
  refine lv_iload_n hx hb dX7_leftOf_15 rfl (lv_at hl 1 rfl) ?_
  refine r_iald hC hI fM_21 (j := p9) rfl (by omega) (by decide) dX7_leftOf_16 ?_
  refine lv_isub hx hb dX7_leftOf_17 ?_
  exact e_int hC hI ⟨rfl, rfl, rfl⟩ (Nat.le_of_ble_eq_true rfl) (Nat.le_of_ble_eq_true rfl) dX7_leftOf_18
set_option maxHeartbeats 4000000 in
set_option maxRecDepth 100000 in
theorem tX7_toldOfPallet (l : Launch) (g : Gg) (B0 : Nat) (ad : Ad) (σ : Sg) (pd : Int64) (th : Int32) (h : Wd) (hok : OkP σ) (p9 : Nat) (hp : p9 < nt σ) (w : Int32) : MM l g B0 yX7_toldOfPallet (wsM yX7_toldOfPallet cX7_toldOfPallet 3 (some .int)) ({ frames := 1, cells := 0, slots := 0, locals := 21 } : Room) [.ref (ad 20 0), .int (nI p9), .int w] ad (fM g ad σ pd th h) (dI (toldP σ p9 w) ad (fM g ad σ pd th h)) (noX) 0 0 := by
  refine MM.start (by decide) (Nat.le_of_ble_eq_true rfl) ?_
  intro hl9 p e s m below meth c ls hC hno hI hl0
  have hx := hC.1.1
  have hb := hC.1.2.1
  have hts := hC.1.2.2.2.2
  have hl : lv_has ls 3 [(0, .ref (ad 20 0)), (1, .int (nI p9)), (2, .int w)] := hl0
  obtain ⟨H, hH⟩ : ∃ H, H = s.heap := ⟨_, rfl⟩
  obtain ⟨locs, hLo⟩ : ∃ L : List Loc, L = [] := ⟨_, rfl⟩
  rw [← hH, ← hLo] at hI ⊢
  clear hH hLo hl0
  obtain ⟨h17, h60, h10, h6, h5, h12, hpr, hrm⟩ := id hok
  refine lv_iload_n hx hb dX7_toldOfPallet_0 rfl (lv_at hl 2 rfl) ?_
  refine lv_if_ne (tgt := 13) hx hb dX7_toldOfPallet_1 (by decide) (fun c1 => ?_) (fun c1 => ?_)
  · refine lv_iload_n hx hb dX7_toldOfPallet_13 rfl (lv_at hl 2 rfl) ?_
    refine lv_iconst (v := 1) hx hb dX7_toldOfPallet_14 (by decide) ?_
    refine lv_icmp_ne (tgt := 27) hx hb dX7_toldOfPallet_15 (by decide) (fun c15 => ?_) (fun c15 => ?_)
    · refine lv_iload_n hx hb dX7_toldOfPallet_27 rfl (lv_at hl 2 rfl) ?_
      refine lv_iconst (v := 2) hx hb dX7_toldOfPallet_28 (by decide) ?_
      refine lv_icmp_ne (tgt := 41) hx hb dX7_toldOfPallet_29 (by decide) (fun c29 => ?_) (fun c29 => ?_)
      · refine lv_iload_n hx hb dX7_toldOfPallet_41 rfl (lv_at hl 2 rfl) ?_
        refine lv_iconst (v := 3) hx hb dX7_toldOfPallet_42 (by decide) ?_
        refine lv_icmp_ne (tgt := 55) hx hb dX7_toldOfPallet_43 (by decide) (fun c43 => ?_) (fun c43 => ?_)
        · refine lv_aload_n hx hb dX7_toldOfPallet_55 rfl (lv_at hl 0 rfl) ?_
          refine lv_iload_n hx hb dX7_toldOfPallet_56 rfl (lv_at hl 1 rfl) ?_
          refine c_Vi (rest := []) hl9 hC hI hl.1 (tX7_leftOf l g B0 ad σ pd th h hok p9 (by omega)) (cw_X7_128 hts rfl rfl ⟨(Nat.le_of_ble_eq_true rfl), (Nat.le_of_ble_eq_true rfl)⟩) fM_o rfl rfl rfl rfl (Nat.le_of_ble_eq_true rfl) dX7_toldOfPallet_57 ⟨(Nat.le_of_ble_eq_true rfl), (Nat.le_of_ble_eq_true rfl)⟩ (fun H locs hI => ?_)
          exact e_int hC hI (rI (by unfold toldP; rw [if_neg c1, if_neg c15, if_neg c29, if_neg c43])) (Nat.le_of_ble_eq_true rfl) (Nat.le_of_ble_eq_true rfl) dX7_toldOfPallet_60
        · refine lv_aload_n hx hb dX7_toldOfPallet_46 rfl (lv_at hl 0 rfl) ?_
          refine gf_X7_51 hC hI fM_o rfl dX7_toldOfPallet_47 ?_
          refine lv_iload_n hx hb dX7_toldOfPallet_50 rfl (lv_at hl 1 rfl) ?_
          refine r_iald hC hI fM_19 (j := p9) rfl (by omega) (by decide) dX7_toldOfPallet_51 ?_
          refine lv_goto (tgt := 60) hx hb dX7_toldOfPallet_52 (by decide) ?_
          exact e_int hC hI (rI (by unfold toldP; rw [if_neg c1, if_neg c15, if_neg c29, if_pos c43])) (Nat.le_of_ble_eq_true rfl) (Nat.le_of_ble_eq_true rfl) dX7_toldOfPallet_60
      · refine lv_aload_n hx hb dX7_toldOfPallet_32 rfl (lv_at hl 0 rfl) ?_
        refine gf_X7_57 hC hI fM_o rfl dX7_toldOfPallet_33 ?_
        refine lv_iload_n hx hb dX7_toldOfPallet_36 rfl (lv_at hl 1 rfl) ?_
        refine r_iald hC hI fM_21 (j := p9) rfl (by omega) (by decide) dX7_toldOfPallet_37 ?_
        refine lv_goto (tgt := 60) hx hb dX7_toldOfPallet_38 (by decide) ?_
        exact e_int hC hI (rI (by unfold toldP; rw [if_neg c1, if_neg c15, if_pos c29])) (Nat.le_of_ble_eq_true rfl) (Nat.le_of_ble_eq_true rfl) dX7_toldOfPallet_60
    · refine lv_aload_n hx hb dX7_toldOfPallet_18 rfl (lv_at hl 0 rfl) ?_
      refine gf_X7_54 hC hI fM_o rfl dX7_toldOfPallet_19 ?_
      refine lv_iload_n hx hb dX7_toldOfPallet_22 rfl (lv_at hl 1 rfl) ?_
      refine r_iald hC hI fM_20 (j := p9) rfl (by omega) (by decide) dX7_toldOfPallet_23 ?_
      refine lv_goto (tgt := 60) hx hb dX7_toldOfPallet_24 (by decide) ?_
      exact e_int hC hI (rI (by unfold toldP; rw [if_neg c1, if_pos c15])) (Nat.le_of_ble_eq_true rfl) (Nat.le_of_ble_eq_true rfl) dX7_toldOfPallet_60
  · refine lv_aload_n hx hb dX7_toldOfPallet_4 rfl (lv_at hl 0 rfl) ?_
    refine gf_X7_48 hC hI fM_o rfl dX7_toldOfPallet_5 ?_
    refine lv_iload_n hx hb dX7_toldOfPallet_8 rfl (lv_at hl 1 rfl) ?_
    refine r_iald hC hI fM_18 (j := p9) rfl (by omega) (by decide) dX7_toldOfPallet_9 ?_
    refine lv_goto (tgt := 60) hx hb dX7_toldOfPallet_10 (by decide) ?_
    exact e_int hC hI (rI (if_pos c1).symm) (Nat.le_of_ble_eq_true rfl) (Nat.le_of_ble_eq_true rfl) dX7_toldOfPallet_60
set_option maxHeartbeats 4000000 in
set_option maxRecDepth 100000 in
theorem tX7_pallet (l : Launch) (g : Gg) (B0 : Nat) (ad : Ad) (σ : Sg) (pd : Int64) (th : Int32) (h : Wd) (hok : OkP σ) (u w : Int32) : MM l g B0 yX7_pallet (wsM yX7_pallet cX7_pallet 3 (some .int)) ({ frames := 2, cells := 0, slots := 0, locals := 43 } : Room) [.ref (ad 20 0), .int u, .int w] ad (fM g ad σ pd th h) (rM g ad h (kdPA σ u w) (toldP σ (cN u) w) σ σ pd pd) (noX) 0 0 := by
  refine MM.start (by decide) (Nat.le_of_ble_eq_true rfl) ?_
  intro hl9 p e s m below meth c ls hC hno hI hl0
  have hx := hC.1.1
  have hb := hC.1.2.1
  have hts := hC.1.2.2.2.2
  have hl : lv_has ls 3 [(0, .ref (ad 20 0)), (1, .int u), (2, .int w)] := hl0
  obtain ⟨H, hH⟩ : ∃ H, H = s.heap := ⟨_, rfl⟩
  obtain ⟨locs, hLo⟩ : ∃ L : List Loc, L = [] := ⟨_, rfl⟩
  rw [← hH, ← hLo] at hI ⊢
  clear hH hLo hl0
  obtain ⟨h17, h60, h10, h6, h5, h12, hpr, hrm⟩ := id hok
  refine lv_aload_n hx hb dX7_pallet_0 rfl (lv_at hl 0 rfl) ?_
  refine lv_iconst (v := 0) hx hb dX7_pallet_1 (by decide) ?_
  refine pf_X7_60 hC hI fM_o (Nat.le_of_ble_eq_true rfl) dX7_pallet_2 (fun H locs hI => ?_)
  have hI := hI.cast fM_pth
  refine lv_aload_n hx hb dX7_pallet_5 rfl (lv_at hl 0 rfl) ?_
  refine lv_iload_n hx hb dX7_pallet_6 rfl (lv_at hl 1 rfl) ?_
  refine c_Vi (rest := []) hl9 hC hI hl.1 (tX7_isPallet l g B0 ad σ pd 0 h u) (cw_X7_125 hts rfl rfl ⟨(Nat.le_of_ble_eq_true rfl), (Nat.le_of_ble_eq_true rfl)⟩) fM_o rfl rfl rfl rfl (Nat.le_of_ble_eq_true rfl) dX7_pallet_7 ⟨(Nat.le_of_ble_eq_true rfl), (Nat.le_of_ble_eq_true rfl)⟩ (fun H locs hI => ?_)
  refine lv_if_eq (tgt := 31) hx hb dX7_pallet_10 (by decide) (fun c10 => ?_) (fun c10 => ?_)
  · have c10 := bi_0.mp c10
    refine lv_aload_n hx hb dX7_pallet_31 rfl (lv_at hl 0 rfl) ?_
    refine lv_iconst (v := 1) hx hb dX7_pallet_32 (by decide) ?_
    refine c_Vi (rest := []) hl9 hC hI hl.1 (tX7_no l g B0 ad σ pd 0 h 1) (cw_X7_85 hts rfl rfl ⟨(Nat.le_of_ble_eq_true rfl), (Nat.le_of_ble_eq_true rfl)⟩) fM_o rfl rfl rfl rfl (Nat.le_of_ble_eq_true rfl) dX7_pallet_33 ⟨(Nat.le_of_ble_eq_true rfl), (Nat.le_of_ble_eq_true rfl)⟩ (fun H locs hI => ?_)
    exact e_int hC hI (rM_no (if_neg (fun z => c10 z.1)) (by decide)) (Nat.le_of_ble_eq_true rfl) (Nat.le_of_ble_eq_true rfl) dX7_pallet_36
  · have c10 := bi_1.mp c10
    refine lv_iload_n hx hb dX7_pallet_13 rfl (lv_at hl 2 rfl) ?_
    refine lv_iconst (v := 0) hx hb dX7_pallet_14 (by decide) ?_
    refine lv_iconst (v := 4) hx hb dX7_pallet_15 (by decide) ?_
    refine c_Si (rest := []) hl9 hC hI hl.1 (tX7_isIn l g B0 ad _ w 0 4) (cw_X7_66 hts rfl rfl ⟨(Nat.le_of_ble_eq_true rfl), (Nat.le_of_ble_eq_true rfl)⟩) rfl rfl (Nat.le_of_ble_eq_true rfl) dX7_pallet_16 ⟨(Nat.le_of_ble_eq_true rfl), (Nat.le_of_ble_eq_true rfl)⟩ (fun H locs hI => ?_)
    refine lv_if_eq (tgt := 31) hx hb dX7_pallet_19 (by decide) (fun c19 => ?_) (fun c19 => ?_)
    · have c19 := bi_0.mp c19
      refine lv_aload_n hx hb dX7_pallet_31 rfl (lv_at hl 0 rfl) ?_
      refine lv_iconst (v := 1) hx hb dX7_pallet_32 (by decide) ?_
      refine c_Vi (rest := []) hl9 hC hI hl.1 (tX7_no l g B0 ad σ pd 0 h 1) (cw_X7_85 hts rfl rfl ⟨(Nat.le_of_ble_eq_true rfl), (Nat.le_of_ble_eq_true rfl)⟩) fM_o rfl rfl rfl rfl (Nat.le_of_ble_eq_true rfl) dX7_pallet_33 ⟨(Nat.le_of_ble_eq_true rfl), (Nat.le_of_ble_eq_true rfl)⟩ (fun H locs hI => ?_)
      exact e_int hC hI (rM_no (if_neg (fun z => c19 z.2)) (by decide)) (Nat.le_of_ble_eq_true rfl) (Nat.le_of_ble_eq_true rfl) dX7_pallet_36
    · have c19 := bi_1.mp c19
      have hk : kdPA σ u w = 0 := if_pos ⟨c10, c19⟩
      obtain ⟨a, ha, rfl⟩ := (in_cnt h17 (by omega)).mp c10
      have hca : cN (nI a) = a := cN_nI (by omega)
      refine lv_aload_n hx hb dX7_pallet_22 rfl (lv_at hl 0 rfl) ?_
      refine lv_iload_n hx hb dX7_pallet_23 rfl (lv_at hl 1 rfl) ?_
      refine lv_iload_n hx hb dX7_pallet_24 rfl (lv_at hl 2 rfl) ?_
      refine c_Vi (rest := []) hl9 hC hI hl.1 (tX7_toldOfPallet l g B0 ad σ pd 0 h hok a ha w) (cw_X7_131 hts rfl rfl ⟨(Nat.le_of_ble_eq_true rfl), (Nat.le_of_ble_eq_true rfl)⟩) fM_o rfl rfl rfl rfl (Nat.le_of_ble_eq_true rfl) dX7_pallet_25 ⟨(Nat.le_of_ble_eq_true rfl), (Nat.le_of_ble_eq_true rfl)⟩ (fun H locs hI => ?_)
      refine lv_goto (tgt := 36) hx hb dX7_pallet_28 (by decide) ?_
      exact e_int hC hI (rM_ok hk (by rw [hca]) rfl) (Nat.le_of_ble_eq_true rfl) (Nat.le_of_ble_eq_true rfl) dX7_pallet_36
set_option maxHeartbeats 4000000 in
set_option maxRecDepth 100000 in
theorem tX7_off (l : Launch) (g : Gg) (B0 : Nat) (ad : Ad) (σ : Sg) (pd : Int64) (th : Int32) (h : Wd) (a : Nat) (ha : a < 12) (t9 : Int32) : MM l g B0 yX7_off (wsM yX7_off cX7_off 3 (some .int)) ({ frames := 1, cells := 0, slots := 0, locals := 21 } : Room) [.ref (ad 20 0), .int (nI a), .int t9] ad (fM g ad σ pd th h) (dI (offS σ a t9) ad (fM g ad σ pd th h)) (noX) 0 0 := by
  refine MM.start (by decide) (Nat.le_of_ble_eq_true rfl) ?_
  intro hl9 p e s m below meth c ls hC hno hI hl0
  have hx := hC.1.1
  have hb := hC.1.2.1
  have hts := hC.1.2.2.2.2
  have hl : lv_has ls 3 [(0, .ref (ad 20 0)), (1, .int (nI a)), (2, .int t9)] := hl0
  obtain ⟨H, hH⟩ : ∃ H, H = s.heap := ⟨_, rfl⟩
  obtain ⟨locs, hLo⟩ : ∃ L : List Loc, L = [] := ⟨_, rfl⟩
  rw [← hH, ← hLo] at hI ⊢
  clear hH hLo hl0
  refine lv_iconst (v := 0) hx hb dX7_off_0 (by decide) ?_
  refine lv_aload_n hx hb dX7_off_1 rfl (lv_at hl 0 rfl) ?_
  refine gf_X7_17 hC hI fM_o rfl dX7_off_2 ?_
  refine lv_iload_n hx hb dX7_off_5 rfl (lv_at hl 1 rfl) ?_
  refine r_iald hC hI fM_6 (j := a) rfl (by omega) (by decide) dX7_off_6 ?_
  refine lv_iload_n hx hb dX7_off_7 rfl (lv_at hl 2 rfl) ?_
  refine lv_isub hx hb dX7_off_8 ?_
  refine lv_iload_n hx hb dX7_off_9 rfl (lv_at hl 2 rfl) ?_
  refine lv_aload_n hx hb dX7_off_10 rfl (lv_at hl 0 rfl) ?_
  refine gf_X7_20 hC hI fM_o rfl dX7_off_11 ?_
  refine lv_iload_n hx hb dX7_off_14 rfl (lv_at hl 1 rfl) ?_
  refine r_iald hC hI fM_7 (j := a) rfl (by omega) (by decide) dX7_off_15 ?_
  refine lv_isub hx hb dX7_off_16 ?_
  refine va_mmax hx hb (hC.1.2.2.1.trans hl.1.symm) hC.1.2.2.2.1 (hts _ wd_ml_X7_134) (hts _ wd_st_yJ9_max_7cf53) (hts _ wd_in_RJ9) (hts _ wd_co_yJ9_max_7cf53) (Nat.le_of_ble_eq_true rfl) (Nat.le_of_ble_eq_true rfl) (Nat.le_of_ble_eq_true rfl) (Nat.le_of_ble_eq_true rfl) dX7_off_17 ?_
  refine va_mmax hx hb (hC.1.2.2.1.trans hl.1.symm) hC.1.2.2.2.1 (hts _ wd_ml_X7_134) (hts _ wd_st_yJ9_max_7cf53) (hts _ wd_in_RJ9) (hts _ wd_co_yJ9_max_7cf53) (Nat.le_of_ble_eq_true rfl) (Nat.le_of_ble_eq_true rfl) (Nat.le_of_ble_eq_true rfl) (Nat.le_of_ble_eq_true rfl) dX7_off_20 ?_
  exact e_int hC hI ⟨rfl, rfl, rfl⟩ (Nat.le_of_ble_eq_true rfl) (Nat.le_of_ble_eq_true rfl) dX7_off_23
set_option maxHeartbeats 4000000 in
set_option maxRecDepth 100000 in
theorem tX7_bestRoom (l : Launch) (g : Gg) (B0 : Nat) (ad : Ad) (σ : Sg) (pd : Int64) (th : Int32) (h : Wd) (hok : OkP σ) (u : Int32) : MM l g B0 yX7_bestRoom (wsM yX7_bestRoom cX7_bestRoom 5 (some .int)) ({ frames := 2, cells := 0, slots := 0, locals := 46 } : Room) [.ref (ad 20 0), .int u] ad (fM g ad σ pd th h) (rM g ad h (kdPR σ u) (bestAt σ (cN u) (nr σ)) σ σ pd pd) (noX) 0 0 := by
  refine MM.start (by decide) (Nat.le_of_ble_eq_true rfl) ?_
  intro hl9 p e s m below meth c ls hC hno hI hl0
  have hx := hC.1.1
  have hb := hC.1.2.1
  have hts := hC.1.2.2.2.2
  have hl : lv_has ls 5 [(0, .ref (ad 20 0)), (1, .int u)] := hl0
  obtain ⟨H, hH⟩ : ∃ H, H = s.heap := ⟨_, rfl⟩
  obtain ⟨locs, hLo⟩ : ∃ L : List Loc, L = [] := ⟨_, rfl⟩
  rw [← hH, ← hLo] at hI ⊢
  clear hH hLo hl0
  obtain ⟨h17, h60, h10, h6, h5, h12, hpr, hrm⟩ := id hok
  refine lv_aload_n hx hb dX7_bestRoom_0 rfl (lv_at hl 0 rfl) ?_
  refine lv_iconst (v := 0) hx hb dX7_bestRoom_1 (by decide) ?_
  refine pf_X7_60 hC hI fM_o (Nat.le_of_ble_eq_true rfl) dX7_bestRoom_2 (fun H locs hI => ?_)
  have hI := hI.cast fM_pth
  refine lv_aload_n hx hb dX7_bestRoom_5 rfl (lv_at hl 0 rfl) ?_
  refine lv_iload_n hx hb dX7_bestRoom_6 rfl (lv_at hl 1 rfl) ?_
  refine c_Vi (rest := []) hl9 hC hI hl.1 (tX7_isProduct l g B0 ad σ pd 0 h u) (cw_X7_119 hts rfl rfl ⟨(Nat.le_of_ble_eq_true rfl), (Nat.le_of_ble_eq_true rfl)⟩) fM_o rfl rfl rfl rfl (Nat.le_of_ble_eq_true rfl) dX7_bestRoom_7 ⟨(Nat.le_of_ble_eq_true rfl), (Nat.le_of_ble_eq_true rfl)⟩ (fun H locs hI => ?_)
  refine lv_if_ne (tgt := 19) hx hb dX7_bestRoom_10 (by decide) (fun c10 => ?_) (fun c10 => ?_)
  · have c10 := bi_1.mp c10
    have hk : kdPR σ u = 0 := if_pos c10
    obtain ⟨a, ha, rfl⟩ := (in_cnt h5 (by omega)).mp c10
    have hca : cN (nI a) = a := cN_nI (by omega)
    refine lv_iconst (v := (-1)) hx hb dX7_bestRoom_19 (by decide) ?_
    refine lv_istore_n (lv' := [(2, .int (bestAt σ a 0)), (0, .ref (ad 20 0)), (1, .int (nI a))]) hx hb dX7_bestRoom_20 rfl hl (by decide) rfl (fun ls hl => ?_)
    refine lv_iconst (v := 0) hx hb dX7_bestRoom_21 (by decide) ?_
    refine lv_istore_n (lv' := [(3, .int (nI 0)), (2, .int (bestAt σ a 0)), (0, .ref (ad 20 0)), (1, .int (nI a))]) hx hb dX7_bestRoom_22 rfl hl (by decide) rfl (fun ls hl => ?_)
    have L23 : ∀ (n : Nat) (k : Nat), k ≤ nr σ → nr σ + 1 ≤ k + n → ∀ (H : Heap) (locs : List Loc), WI g ad B0 (fM g ad σ pd 0 h) s H locs → ∀ (ls : Array Slot), lv_has ls 5 [(3, .int (nI k)), (2, .int (bestAt σ a k)), (0, .ref (ad 20 0)), (1, .int (nI a))] → W p l e ({ frames := 2, cells := 0, slots := 0, locals := 46 } : Room) s m ([.ref (ad 20 0), .int (nI a)] : List Value).toArray below meth c H locs 0 0 (vx_MQ below (QI g B0 (rM g ad h (kdPR σ (nI a)) (bestAt σ (cN (nI a)) (nr σ)) σ σ pd pd)) (XI g B0 (noX)) ([.ref (ad 20 0), .int (nI a)] : List Value).toArray s 0 0 (fun q => B0 ≤ q)) (F0 m 23 ls []) := by
      intro n
      induction n with
      | zero =>
        intro k hk9 hfu
        exact absurd hfu (by omega)
      | succ n ih =>
        intro k hk9 hfu H locs hI ls hl
        refine lv_iload_n hx hb dX7_bestRoom_23 rfl (lv_at hl 0 rfl) ?_
        refine lv_aload_n hx hb dX7_bestRoom_24 rfl (lv_at hl 2 rfl) ?_
        refine gf_X7_70 hC hI fM_o rfl dX7_bestRoom_25 ?_
        refine lv_icmp_ge (tgt := 108) hx hb dX7_bestRoom_28 (by decide) (fun c28 => ?_) (fun c28 => ?_)
        · have hk2 : nr σ ≤ k := ge_T h10 (by omega) (by omega) c28
          refine lv_iload_n hx hb dX7_bestRoom_108 rfl (lv_at hl 1 rfl) ?_
          exact e_int hC hI (rM_ok hk (by rw [show k = nr σ by omega, hca]) rfl) (Nat.le_of_ble_eq_true rfl) (Nat.le_of_ble_eq_true rfl) dX7_bestRoom_109
        · have hk2 : k < nr σ := ge_F h10 (by omega) (by omega) c28
          refine lv_aload_n hx hb dX7_bestRoom_31 rfl (lv_at hl 2 rfl) ?_
          refine lv_iload_n hx hb dX7_bestRoom_32 rfl (lv_at hl 3 rfl) ?_
          refine lv_iload_n hx hb dX7_bestRoom_33 rfl (lv_at hl 0 rfl) ?_
          refine c_Vi (rest := []) hl9 hC hI hl.1 (tX7_reasonFor l g B0 ad σ pd 0 h hok a k (by omega) (by omega)) (cw_X7_122 hts rfl rfl ⟨(Nat.le_of_ble_eq_true rfl), (Nat.le_of_ble_eq_true rfl)⟩) fM_o rfl rfl rfl rfl (Nat.le_of_ble_eq_true rfl) dX7_bestRoom_34 ⟨(Nat.le_of_ble_eq_true rfl), (Nat.le_of_ble_eq_true rfl)⟩ (fun H locs hI => ?_)
          refine lv_if_eq (tgt := 43) hx hb dX7_bestRoom_37 (by decide) (fun c37 => ?_) (fun c37 => ?_)
          · refine lv_iload_n hx hb dX7_bestRoom_43 rfl (lv_at hl 1 rfl) ?_
            refine lv_iconst (v := (-1)) hx hb dX7_bestRoom_44 (by decide) ?_
            refine lv_icmp_ne (tgt := 52) hx hb dX7_bestRoom_45 (by decide) (fun c45 => ?_) (fun c45 => ?_)
            · obtain ⟨j, hj, hbj⟩ : ∃ j : Nat, j < k ∧ bestAt σ a k = nI j := (bestAt_in σ a k (by omega)).resolve_left c45
              have hcj : cN (bestAt σ a k) = j := by rw [hbj]; exact cN_nI (by omega)
              refine lv_aload_n hx hb dX7_bestRoom_52 rfl (lv_at hl 2 rfl) ?_
              refine lv_iload_n hx hb dX7_bestRoom_53 rfl (lv_at hl 3 rfl) ?_
              refine lv_aload_n hx hb dX7_bestRoom_54 rfl (lv_at hl 2 rfl) ?_
              refine gf_X7_38 hC hI fM_o rfl dX7_bestRoom_55 ?_
              refine lv_iload_n hx hb dX7_bestRoom_58 rfl (lv_at hl 0 rfl) ?_
              refine r_iald hC hI fM_14 (j := k) rfl (by omega) (by decide) dX7_bestRoom_59 ?_
              refine c_Vi (rest := []) hl9 hC hI hl.1 (tX7_off l g B0 ad σ pd 0 h a (by omega) (σ 14 k)) (cw_X7_137 hts rfl rfl ⟨(Nat.le_of_ble_eq_true rfl), (Nat.le_of_ble_eq_true rfl)⟩) fM_o rfl rfl rfl rfl (Nat.le_of_ble_eq_true rfl) dX7_bestRoom_60 ⟨(Nat.le_of_ble_eq_true rfl), (Nat.le_of_ble_eq_true rfl)⟩ (fun H locs hI => ?_)
              refine lv_aload_n hx hb dX7_bestRoom_63 rfl (lv_at hl 2 rfl) ?_
              refine lv_iload_n hx hb dX7_bestRoom_64 rfl (lv_at hl 3 rfl) ?_
              refine lv_aload_n hx hb dX7_bestRoom_65 rfl (lv_at hl 2 rfl) ?_
              refine gf_X7_38 hC hI fM_o rfl dX7_bestRoom_66 ?_
              refine lv_iload_n hx hb dX7_bestRoom_69 rfl (lv_at hl 1 rfl) ?_
              refine r_iald hC hI fM_14 (j := j) hbj (by omega) (by decide) dX7_bestRoom_70 ?_
              refine c_Vi (rest := [.int (offS σ a (σ 14 k))]) hl9 hC hI hl.1 (tX7_off l g B0 ad σ pd 0 h a (by omega) (σ 14 j)) (cw_X7_137 hts rfl rfl ⟨(Nat.le_of_ble_eq_true rfl), (Nat.le_of_ble_eq_true rfl)⟩) fM_o rfl rfl rfl rfl (Nat.le_of_ble_eq_true rfl) dX7_bestRoom_71 ⟨(Nat.le_of_ble_eq_true rfl), (Nat.le_of_ble_eq_true rfl)⟩ (fun H locs hI => ?_)
              refine lv_isub hx hb dX7_bestRoom_74 ?_
              refine lv_topi (fun x75 ex75 => ?_)
              refine lv_istore (lv' := [(4, .int x75), (3, .int (nI k)), (2, .int (bestAt σ a k)), (0, .ref (ad 20 0)), (1, .int (nI a))]) hx hb dX7_bestRoom_75 hl (by decide) rfl (fun ls hl => ?_)
              refine lv_iload hx hb dX7_bestRoom_77 (lv_at hl 0 rfl) ?_
              refine lv_if_lt (tgt := 100) hx hb dX7_bestRoom_79 (by decide) (fun c79 => ?_) (fun c79 => ?_)
              · have hb9 : bestAt σ a (k + 1) = nI k := by show (if _ then _ else _) = _; rw [if_pos c37, if_neg c45, hcj, if_pos (Or.inl (by rw [← ex75]; exact c79))]
                refine lv_iload_n hx hb dX7_bestRoom_100 rfl (lv_at hl 1 rfl) ?_
                refine lv_istore_n (lv' := [(2, .int (nI k)), (4, .int x75), (3, .int (nI k)), (0, .ref (ad 20 0)), (1, .int (nI a))]) hx hb dX7_bestRoom_101 rfl hl (by decide) rfl (fun ls hl => ?_)
                have hl : lv_has ls 5 [(2, .int (bestAt σ a (k + 1))), (4, .int x75), (3, .int (nI k)), (0, .ref (ad 20 0)), (1, .int (nI a))] := by rw [hb9]; exact hl
                refine lv_iinc (v := nI (k + 1)) (lv' := [(3, .int (nI (k + 1))), (2, .int (bestAt σ a (k + 1))), (4, .int x75), (0, .ref (ad 20 0)), (1, .int (nI a))]) hx hb dX7_bestRoom_102 hl (k := 2) rfl (nI_1 _) (by decide) rfl (fun ls hl => ?_)
                refine lv_goto (tgt := 23) hx hb dX7_bestRoom_105 (by decide) ?_
                exact ih (k + 1) (by omega) (by omega) _ _ hI ls (lv_sub hl [0, 1, 3, 4] rfl)
              · refine lv_iload hx hb dX7_bestRoom_82 (lv_at hl 0 rfl) ?_
                refine lv_if_ne (tgt := 102) hx hb dX7_bestRoom_84 (by decide) (fun c84 => ?_) (fun c84 => ?_)
                · have hb9 : bestAt σ a (k + 1) = bestAt σ a k := by show (if _ then _ else _) = _; rw [if_pos c37, if_neg c45, hcj, if_neg (fun z => z.elim (fun y => c79 (by rw [ex75]; exact y)) (fun y => c84 (by rw [ex75]; exact y.1)))]
                  have hl : lv_has ls 5 [(4, .int x75), (3, .int (nI k)), (2, .int (bestAt σ a (k + 1))), (0, .ref (ad 20 0)), (1, .int (nI a))] := by rw [hb9]; exact hl
                  refine lv_iinc (v := nI (k + 1)) (lv' := [(3, .int (nI (k + 1))), (4, .int x75), (2, .int (bestAt σ a (k + 1))), (0, .ref (ad 20 0)), (1, .int (nI a))]) hx hb dX7_bestRoom_102 hl (k := 1) rfl (nI_1 _) (by decide) rfl (fun ls hl => ?_)
                  refine lv_goto (tgt := 23) hx hb dX7_bestRoom_105 (by decide) ?_
                  exact ih (k + 1) (by omega) (by omega) _ _ hI ls (lv_sub hl [0, 2, 3, 4] rfl)
                · refine lv_aload_n hx hb dX7_bestRoom_87 rfl (lv_at hl 3 rfl) ?_
                  refine lv_iload_n hx hb dX7_bestRoom_88 rfl (lv_at hl 1 rfl) ?_
                  refine c_Vi (rest := []) hl9 hC hI hl.1 (tX7_free l g B0 ad σ pd 0 h k hok (by omega)) (cw_X7_109 hts rfl rfl ⟨(Nat.le_of_ble_eq_true rfl), (Nat.le_of_ble_eq_true rfl)⟩) fM_o rfl rfl rfl rfl (Nat.le_of_ble_eq_true rfl) dX7_bestRoom_89 ⟨(Nat.le_of_ble_eq_true rfl), (Nat.le_of_ble_eq_true rfl)⟩ (fun H locs hI => ?_)
                  refine lv_aload_n hx hb dX7_bestRoom_92 rfl (lv_at hl 3 rfl) ?_
                  refine lv_iload_n hx hb dX7_bestRoom_93 rfl (lv_at hl 2 rfl) ?_
                  rw [hbj]
                  refine c_Vi (rest := [.int (freeS σ k)]) hl9 hC hI hl.1 (tX7_free l g B0 ad σ pd 0 h j hok (by omega)) (cw_X7_109 hts rfl rfl ⟨(Nat.le_of_ble_eq_true rfl), (Nat.le_of_ble_eq_true rfl)⟩) fM_o rfl rfl rfl rfl (Nat.le_of_ble_eq_true rfl) dX7_bestRoom_94 ⟨(Nat.le_of_ble_eq_true rfl), (Nat.le_of_ble_eq_true rfl)⟩ (fun H locs hI => ?_)
                  refine lv_icmp_le (tgt := 102) hx hb dX7_bestRoom_97 (by decide) (fun c97 => ?_) (fun c97 => ?_)
                  · have hb9 : bestAt σ a (k + 1) = bestAt σ a k := by show (if _ then _ else _) = _; rw [if_pos c37, if_neg c45, hcj, if_neg (fun z => z.elim (fun y => c79 (by rw [ex75]; exact y)) (fun y => absurd y.2 (Int32.not_lt.mpr c97)))]
                    have hl : lv_has ls 5 [(4, .int x75), (3, .int (nI k)), (2, .int (bestAt σ a (k + 1))), (0, .ref (ad 20 0)), (1, .int (nI a))] := by rw [hb9]; exact hl
                    refine lv_iinc (v := nI (k + 1)) (lv' := [(3, .int (nI (k + 1))), (4, .int x75), (2, .int (bestAt σ a (k + 1))), (0, .ref (ad 20 0)), (1, .int (nI a))]) hx hb dX7_bestRoom_102 hl (k := 1) rfl (nI_1 _) (by decide) rfl (fun ls hl => ?_)
                    refine lv_goto (tgt := 23) hx hb dX7_bestRoom_105 (by decide) ?_
                    exact ih (k + 1) (by omega) (by omega) _ _ hI ls (lv_sub hl [0, 2, 3, 4] rfl)
                  · have hb9 : bestAt σ a (k + 1) = nI k := by show (if _ then _ else _) = _; rw [if_pos c37, if_neg c45, hcj, if_pos (Or.inr ⟨by rw [← ex75]; exact c84, Int32.not_le.mp c97⟩)]
                    refine lv_iload_n hx hb dX7_bestRoom_100 rfl (lv_at hl 1 rfl) ?_
                    refine lv_istore_n (lv' := [(2, .int (nI k)), (4, .int x75), (3, .int (nI k)), (0, .ref (ad 20 0)), (1, .int (nI a))]) hx hb dX7_bestRoom_101 rfl hl (by decide) rfl (fun ls hl => ?_)
                    have hl : lv_has ls 5 [(2, .int (bestAt σ a (k + 1))), (4, .int x75), (3, .int (nI k)), (0, .ref (ad 20 0)), (1, .int (nI a))] := by rw [hb9]; exact hl
                    refine lv_iinc (v := nI (k + 1)) (lv' := [(3, .int (nI (k + 1))), (2, .int (bestAt σ a (k + 1))), (4, .int x75), (0, .ref (ad 20 0)), (1, .int (nI a))]) hx hb dX7_bestRoom_102 hl (k := 2) rfl (nI_1 _) (by decide) rfl (fun ls hl => ?_)
                    refine lv_goto (tgt := 23) hx hb dX7_bestRoom_105 (by decide) ?_
                    exact ih (k + 1) (by omega) (by omega) _ _ hI ls (lv_sub hl [0, 1, 3, 4] rfl)
            · have hb9 : bestAt σ a (k + 1) = nI k := by show (if _ then _ else _) = _; rw [if_pos c37, if_pos c45]
              refine lv_iconst (v := (-1)) hx hb dX7_bestRoom_48 (by decide) ?_
              refine lv_goto (tgt := 75) hx hb dX7_bestRoom_49 (by decide) ?_
              refine lv_topi (fun x75 ex75 => ?_)
              refine lv_istore (lv' := [(4, .int x75), (3, .int (nI k)), (2, .int (bestAt σ a k)), (0, .ref (ad 20 0)), (1, .int (nI a))]) hx hb dX7_bestRoom_75 hl (by decide) rfl (fun ls hl => ?_)
              refine lv_iload hx hb dX7_bestRoom_77 (lv_at hl 0 rfl) ?_
              refine lv_if_lt (tgt := 100) hx hb dX7_bestRoom_79 (by decide) (fun c79 => ?_) (fun c79 => (absurd (show x75 < 0 from by rw [ex75]; decide) c79))
              refine lv_iload_n hx hb dX7_bestRoom_100 rfl (lv_at hl 1 rfl) ?_
              refine lv_istore_n (lv' := [(2, .int (nI k)), (4, .int x75), (3, .int (nI k)), (0, .ref (ad 20 0)), (1, .int (nI a))]) hx hb dX7_bestRoom_101 rfl hl (by decide) rfl (fun ls hl => ?_)
              have hl : lv_has ls 5 [(2, .int (bestAt σ a (k + 1))), (4, .int x75), (3, .int (nI k)), (0, .ref (ad 20 0)), (1, .int (nI a))] := by rw [hb9]; exact hl
              refine lv_iinc (v := nI (k + 1)) (lv' := [(3, .int (nI (k + 1))), (2, .int (bestAt σ a (k + 1))), (4, .int x75), (0, .ref (ad 20 0)), (1, .int (nI a))]) hx hb dX7_bestRoom_102 hl (k := 2) rfl (nI_1 _) (by decide) rfl (fun ls hl => ?_)
              refine lv_goto (tgt := 23) hx hb dX7_bestRoom_105 (by decide) ?_
              exact ih (k + 1) (by omega) (by omega) _ _ hI ls (lv_sub hl [0, 1, 3, 4] rfl)
          · have hb9 : bestAt σ a (k + 1) = bestAt σ a k := by show (if _ then _ else _) = _; rw [if_neg c37]
            refine lv_goto (tgt := 102) hx hb dX7_bestRoom_40 (by decide) ?_
            have hl : lv_has ls 5 [(3, .int (nI k)), (2, .int (bestAt σ a (k + 1))), (0, .ref (ad 20 0)), (1, .int (nI a))] := by rw [hb9]; exact hl
            refine lv_iinc (v := nI (k + 1)) (lv' := [(3, .int (nI (k + 1))), (2, .int (bestAt σ a (k + 1))), (0, .ref (ad 20 0)), (1, .int (nI a))]) hx hb dX7_bestRoom_102 hl (k := 0) rfl (nI_1 _) (by decide) rfl (fun ls hl => ?_)
            refine lv_goto (tgt := 23) hx hb dX7_bestRoom_105 (by decide) ?_
            exact ih (k + 1) (by omega) (by omega) _ _ hI ls (lv_sub hl [0, 1, 2, 3] rfl)
    exact L23 (nr σ + 1) 0 (by omega) (by omega) _ _ hI ls (lv_sub hl [0, 1, 2, 3] rfl)
  · have c10 := bi_0.mp c10
    refine lv_aload_n hx hb dX7_bestRoom_13 rfl (lv_at hl 0 rfl) ?_
    refine lv_iconst (v := 1) hx hb dX7_bestRoom_14 (by decide) ?_
    refine c_Vi (rest := []) hl9 hC hI hl.1 (tX7_no l g B0 ad σ pd 0 h 1) (cw_X7_85 hts rfl rfl ⟨(Nat.le_of_ble_eq_true rfl), (Nat.le_of_ble_eq_true rfl)⟩) fM_o rfl rfl rfl rfl (Nat.le_of_ble_eq_true rfl) dX7_bestRoom_15 ⟨(Nat.le_of_ble_eq_true rfl), (Nat.le_of_ble_eq_true rfl)⟩ (fun H locs hI => ?_)
    exact e_int hC hI (rM_no (if_neg c10) (by decide)) (Nat.le_of_ble_eq_true rfl) (Nat.le_of_ble_eq_true rfl) dX7_bestRoom_18
