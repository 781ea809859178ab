/-! THE MODEL: how it begins -/
def zS : Sg := fun _ _ => 0
def σB : Sg := ss zS 2 150
def σI : Sg := su σB 4 (spF σB 0 10 24)
def fMt (g : Gg) (L : List Value) (σ : Sg) (m : Nat) (h : Wd) : Wd := fun k i => if k < 20 ∨ 44 ≤ k then h k i else if i = 0 then (if k = 20 then some (.inr (7, L)) else if arrM (k - 20) = 0 ∨ m ≤ k - 20 then none else some (.inl ((if k = 35 then g.2 1 else g.2 0), arrM (k - 20), .inl (σ (k - 20))))) else none
section FMT
variable {g : Gg} {ad : Ad} {σ : Sg} {pd : Int64} {th : Int32} {h : Wd} {L L' : List Value} {m : Nat}
theorem zS_σB : ∀ q, arrM q ≠ 0 → zS q = σB q := fun q hq => (su_n zS (fun _ => (150 : Int32)) (show q ≠ 2 from fun z => hq (by rw [z]; rfl))).symm
theorem fMt_o : fMt g L σ m h 20 0 = some (.inr (7, L)) := rfl
theorem fMt_p : up2 (fMt g L σ m h) 20 0 (.inr (7, L')) = fMt g L' σ m h := by
  funext k i
  by_cases hk : k = 20 ∧ i = 0
  · obtain ⟨rfl, rfl⟩ := hk
    rw [up2_s]
    rfl
  · rw [up2_n _ _ hk]
    unfold fMt
    by_cases h1 : k < 20 ∨ 44 ≤ k
    · rw [if_pos h1, if_pos h1]
    · rw [if_neg h1, if_neg h1]
      by_cases h2 : i = 0
      · subst h2
        have h20 : ¬ k = 20 := fun z => hk ⟨z, rfl⟩
        simp only [if_neg h20, ↓reduceIte]
      · rw [if_neg h2, if_neg h2]
theorem fMt_n (r : Nat) (hr : r < 24) (h0 : r ≠ 0) (hm : m ≤ r) : fMt g L σ m h (20 + r) 0 = none := by
  unfold fMt
  rw [if_neg (by omega), if_pos rfl, if_neg (by omega), if_pos (Or.inr (by omega))]
theorem fMt_a (r : Nat) {n : Nat} {cA : ClassId} (hn : arrM r = n) (h0 : n ≠ 0) (hr : r < 24) (hr0 : r ≠ 0) (hc : (if 20 + r = 35 then g.2 1 else g.2 0) = cA) (hm : m ≤ r) (hg : ∀ q, q < r → m ≤ q → arrM q = 0) : up2 (fMt g L σ m h) (20 + r) 0 (.inl (cA, n, .inl (σ r))) = fMt g L σ (r + 1) h := by
  subst hn
  funext k i
  by_cases hk : k = 20 + r ∧ i = 0
  · obtain ⟨rfl, rfl⟩ := hk
    rw [up2_s]
    unfold fMt
    rw [if_neg (by omega), if_pos rfl, if_neg (by omega), show 20 + r - 20 = r by omega, if_neg (fun z => z.elim h0 (by omega)), hc]
  · rw [up2_n _ _ hk]
    unfold fMt
    by_cases h1 : k < 20 ∨ 44 ≤ k
    · rw [if_pos h1, if_pos h1]
    · rw [if_neg h1, if_neg h1]
      by_cases h2 : i = 0
      · subst h2
        by_cases h20 : k = 20
        · simp only [if_pos h20, ↓reduceIte]
        · simp only [if_neg h20, ↓reduceIte]
          by_cases h3 : arrM (k - 20) = 0 ∨ m ≤ k - 20
          · rw [if_pos h3, if_pos]
            rcases h3 with h3 | h3
            · exact Or.inl h3
            · by_cases h4 : k - 20 < r
              · exact Or.inl (hg _ h4 h3)
              · exact Or.inr (by omega)
          · rw [if_neg h3, if_neg (show ¬ (arrM (k - 20) = 0 ∨ r + 1 ≤ k - 20) from fun z => z.elim (fun z => h3 (Or.inl z)) (fun z => h3 (Or.inr (by omega))))]
      · rw [if_neg h2, if_neg h2]
theorem fMt_f {τ : Sg} (hL : L = objM ad σ pd th) (hτ : ∀ q, arrM q ≠ 0 → τ q = σ q) (hm : 22 ≤ m) : fMt g L τ m h = fM g ad σ pd th h := by
  subst hL
  funext k i
  unfold fMt fM
  by_cases h1 : k < 20 ∨ 44 ≤ k
  · rw [if_pos h1, if_pos h1]
  · rw [if_neg h1, if_neg h1]
    by_cases h2 : i = 0
    · subst h2
      by_cases h20 : k = 20
      · simp only [if_pos h20, ↓reduceIte]
      · simp only [if_neg h20, ↓reduceIte]
        by_cases h3 : arrM (k - 20) = 0
        · rw [if_pos (Or.inl h3), if_pos h3]
        · rw [if_neg, if_neg h3, hτ _ h3]
          rintro (z | z)
          · exact h3 z
          · have h4 : k - 20 = 22 ∨ k - 20 = 23 := by omega
            rcases h4 with h4 | h4 <;> rw [h4] at h3 <;> exact h3 rfl
    · rw [if_neg h2, if_neg h2]
end FMT
abbrev newM : List Value := [.int 0, .int 0, .int 0, .int 0, .null, .long 0, .int 0, .null, .null, .null, .null, .int 0, .null, .null, .null, .null, .null, .null, .int 0, .null, .null, .null, .null, .int 0]

set_option maxHeartbeats 16000000 in
set_option maxRecDepth 100000 in
theorem tX7_init (l : Launch) (g : Gg) (B0 : Nat) (ad : Ad) (h : Wd) : MK l g B0 yX7_init (wsM yX7_init cX7_init 2 none) ({ frames := 1, cells := 15, slots := 378, locals := 20 } : Room) [.ref (ad 20 0)] ad (fMt g newM zS 0 h) (fun v a w => v = none ∧ (∀ k i, ¬ (20 < k ∧ k < 44) → a k i = ad k i) ∧ w = fM g a σI 0 0 h) 15 378 := by
  refine MK.start (by decide) rfl (Nat.le_of_ble_eq_true rfl) ?_
  intro p e s m below meth c ls hC hin hI hl0
  have hx := hC.1.1
  have hb := hC.1.2.1
  have hts := hC.1.2.2.2.2
  have hl : lv_has ls 2 [(0, .ref (ad 20 0))] := hl0
  obtain ⟨H, hH⟩ : ∃ H, H = s.heap := ⟨_, rfl⟩
  obtain ⟨locs, hLo⟩ : ∃ L : List Loc, L = [] := ⟨_, rfl⟩
  rw [← hH, ← hLo] at hI ⊢
  clear hH hLo hl0
  refine lv_aload_n hx hb dX7_init_0 rfl (lv_at hl 0 rfl) ?_
  refine W.objInit hx hb hC.1.2.2.2.1 (hts _ wd_ml_X7_1) (hts _ wd_im__java_lang_Object__init____V_) (hts _ wd_co__java_lang_Object__init____V_) rfl (by rw [hC.1.2.2.1]; exact hl.1) rfl dX7_init_1 (Nat.le_of_ble_eq_true rfl) (Nat.le_of_ble_eq_true rfl) ?_
  refine W.eq (g2 := F0 m 4 ls []) rfl ?_
  refine lv_aload_n hx hb dX7_init_4 rfl (lv_at hl 0 rfl) ?_
  refine lv_sipush (v := 150) hx hb dX7_init_5 (by decide) ?_
  refine pf_X7_7 hC hI (kk := 20) (ii := 0) fMt_o (Nat.le_of_ble_eq_true rfl) dX7_init_8 (fun H locs hI => ?_)
  have hI : WI g ad B0 (fMt g [.int 0, .int 0, .int 150, .int 0, .null, .long 0, .int 0, .null, .null, .null, .null, .int 0, .null, .null, .null, .null, .null, .null, .int 0, .null, .null, .null, .null, .int 0] zS 0 h) s H locs := hI.cast fMt_p
  refine lv_aload_n hx hb dX7_init_11 rfl (lv_at hl 0 rfl) ?_
  refine lv_bipush (v := 24) hx hb dX7_init_12 (by decide) ?_
  refine r_newa hC hI 24 0 (fMt_n 4 (by decide) (by decide) (by decide)) (atype := .int) wd_ac_int 0 rfl (hC.2.2.2.1.2 0 _ rfl).2 (a0 := (24, .inl (fun _ => 0))) rfl (by decide) (N' := 24) (by decide) (by decide) (Nat.le_of_ble_eq_true rfl) (Nat.le_of_ble_eq_true rfl) dX7_init_14 (fun q4 H hI => ?_)
  have hI := hI.cast (fMt_a (σ := zS) 4 rfl (by decide) (by decide) (by decide) rfl (by decide) (by decide))
  refine pf_X7_13 hC hin hI (kk := 20) (ii := 0) fMt_o (Nat.le_of_ble_eq_true rfl) dX7_init_16 (fun H locs hI => ?_)
  have hI : WI g (adup ad 24 0 q4) B0 (fMt g [.int 0, .int 0, .int 150, .int 0, .ref q4, .long 0, .int 0, .null, .null, .null, .null, .int 0, .null, .null, .null, .null, .null, .null, .int 0, .null, .null, .null, .null, .int 0] zS 5 h) s H locs := hI.cast fMt_p
  refine lv_aload_n hx hb dX7_init_19 rfl (lv_at hl 0 rfl) ?_
  refine lv_bipush (v := 12) hx hb dX7_init_20 (by decide) ?_
  refine r_newa hC hI 26 0 (fMt_n 6 (by decide) (by decide) (by decide)) (atype := .int) wd_ac_int 0 rfl (hC.2.2.2.1.2 0 _ rfl).2 (a0 := (12, .inl (fun _ => 0))) rfl (by decide) (N' := 12) (by decide) (by decide) (Nat.le_of_ble_eq_true rfl) (Nat.le_of_ble_eq_true rfl) dX7_init_22 (fun q6 H hI => ?_)
  have hI := hI.cast (fMt_a (σ := zS) 6 rfl (by decide) (by decide) (by decide) rfl (by decide) (by decide))
  refine pf_X7_17 hC hin hI (kk := 20) (ii := 0) fMt_o (Nat.le_of_ble_eq_true rfl) dX7_init_24 (fun H locs hI => ?_)
  have hI : WI g (adup (adup ad 24 0 q4) 26 0 q6) B0 (fMt g [.int 0, .int 0, .int 150, .int 0, .ref q4, .long 0, .int 0, .ref q6, .null, .null, .null, .int 0, .null, .null, .null, .null, .null, .null, .int 0, .null, .null, .null, .null, .int 0] zS 7 h) s H locs := hI.cast fMt_p
  refine lv_aload_n hx hb dX7_init_27 rfl (lv_at hl 0 rfl) ?_
  refine lv_bipush (v := 12) hx hb dX7_init_28 (by decide) ?_
  refine r_newa hC hI 27 0 (fMt_n 7 (by decide) (by decide) (by decide)) (atype := .int) wd_ac_int 0 rfl (hC.2.2.2.1.2 0 _ rfl).2 (a0 := (12, .inl (fun _ => 0))) rfl (by decide) (N' := 12) (by decide) (by decide) (Nat.le_of_ble_eq_true rfl) (Nat.le_of_ble_eq_true rfl) dX7_init_30 (fun q7 H hI => ?_)
  have hI := hI.cast (fMt_a (σ := zS) 7 rfl (by decide) (by decide) (by decide) rfl (by decide) (by decide))
  refine pf_X7_20 hC hin hI (kk := 20) (ii := 0) fMt_o (Nat.le_of_ble_eq_true rfl) dX7_init_32 (fun H locs hI => ?_)
  have hI : WI g (adup (adup (adup ad 24 0 q4) 26 0 q6) 27 0 q7) B0 (fMt g [.int 0, .int 0, .int 150, .int 0, .ref q4, .long 0, .int 0, .ref q6, .ref q7, .null, .null, .int 0, .null, .null, .null, .null, .null, .null, .int 0, .null, .null, .null, .null, .int 0] zS 8 h) s H locs := hI.cast fMt_p
  refine lv_aload_n hx hb dX7_init_35 rfl (lv_at hl 0 rfl) ?_
  refine lv_bipush (v := 12) hx hb dX7_init_36 (by decide) ?_
  refine r_newa hC hI 28 0 (fMt_n 8 (by decide) (by decide) (by decide)) (atype := .int) wd_ac_int 0 rfl (hC.2.2.2.1.2 0 _ rfl).2 (a0 := (12, .inl (fun _ => 0))) rfl (by decide) (N' := 12) (by decide) (by decide) (Nat.le_of_ble_eq_true rfl) (Nat.le_of_ble_eq_true rfl) dX7_init_38 (fun q8 H hI => ?_)
  have hI := hI.cast (fMt_a (σ := zS) 8 rfl (by decide) (by decide) (by decide) rfl (by decide) (by decide))
  refine pf_X7_23 hC hin hI (kk := 20) (ii := 0) fMt_o (Nat.le_of_ble_eq_true rfl) dX7_init_40 (fun H locs hI => ?_)
  have hI : WI g (adup (adup (adup (adup ad 24 0 q4) 26 0 q6) 27 0 q7) 28 0 q8) B0 (fMt g [.int 0, .int 0, .int 150, .int 0, .ref q4, .long 0, .int 0, .ref q6, .ref q7, .ref q8, .null, .int 0, .null, .null, .null, .null, .null, .null, .int 0, .null, .null, .null, .null, .int 0] zS 9 h) s H locs := hI.cast fMt_p
  refine lv_aload_n hx hb dX7_init_43 rfl (lv_at hl 0 rfl) ?_
  refine lv_bipush (v := 12) hx hb dX7_init_44 (by decide) ?_
  refine r_newa hC hI 29 0 (fMt_n 9 (by decide) (by decide) (by decide)) (atype := .int) wd_ac_int 0 rfl (hC.2.2.2.1.2 0 _ rfl).2 (a0 := (12, .inl (fun _ => 0))) rfl (by decide) (N' := 12) (by decide) (by decide) (Nat.le_of_ble_eq_true rfl) (Nat.le_of_ble_eq_true rfl) dX7_init_46 (fun q9 H hI => ?_)
  have hI := hI.cast (fMt_a (σ := zS) 9 rfl (by decide) (by decide) (by decide) rfl (by decide) (by decide))
  refine pf_X7_26 hC hin hI (kk := 20) (ii := 0) fMt_o (Nat.le_of_ble_eq_true rfl) dX7_init_48 (fun H locs hI => ?_)
  have hI : WI g (adup (adup (adup (adup (adup ad 24 0 q4) 26 0 q6) 27 0 q7) 28 0 q8) 29 0 q9) B0 (fMt g [.int 0, .int 0, .int 150, .int 0, .ref q4, .long 0, .int 0, .ref q6, .ref q7, .ref q8, .ref q9, .int 0, .null, .null, .null, .null, .null, .null, .int 0, .null, .null, .null, .null, .int 0] zS 10 h) s H locs := hI.cast fMt_p
  refine lv_aload_n hx hb dX7_init_51 rfl (lv_at hl 0 rfl) ?_
  refine lv_bipush (v := 6) hx hb dX7_init_52 (by decide) ?_
  refine r_newa hC hI 31 0 (fMt_n 11 (by decide) (by decide) (by decide)) (atype := .int) wd_ac_int 0 rfl (hC.2.2.2.1.2 0 _ rfl).2 (a0 := (6, .inl (fun _ => 0))) rfl (by decide) (N' := 6) (by decide) (by decide) (Nat.le_of_ble_eq_true rfl) (Nat.le_of_ble_eq_true rfl) dX7_init_54 (fun q11 H hI => ?_)
  have hI := hI.cast (fMt_a (σ := zS) 11 rfl (by decide) (by decide) (by decide) rfl (by decide) (by decide))
  refine pf_X7_29 hC hin hI (kk := 20) (ii := 0) fMt_o (Nat.le_of_ble_eq_true rfl) dX7_init_56 (fun H locs hI => ?_)
  have hI : WI g (adup (adup (adup (adup (adup (adup ad 24 0 q4) 26 0 q6) 27 0 q7) 28 0 q8) 29 0 q9) 31 0 q11) B0 (fMt g [.int 0, .int 0, .int 150, .int 0, .ref q4, .long 0, .int 0, .ref q6, .ref q7, .ref q8, .ref q9, .int 0, .ref q11, .null, .null, .null, .null, .null, .int 0, .null, .null, .null, .null, .int 0] zS 12 h) s H locs := hI.cast fMt_p
  refine lv_aload_n hx hb dX7_init_59 rfl (lv_at hl 0 rfl) ?_
  refine lv_bipush (v := 6) hx hb dX7_init_60 (by decide) ?_
  refine r_newa hC hI 32 0 (fMt_n 12 (by decide) (by decide) (by decide)) (atype := .int) wd_ac_int 0 rfl (hC.2.2.2.1.2 0 _ rfl).2 (a0 := (6, .inl (fun _ => 0))) rfl (by decide) (N' := 6) (by decide) (by decide) (Nat.le_of_ble_eq_true rfl) (Nat.le_of_ble_eq_true rfl) dX7_init_62 (fun q12 H hI => ?_)
  have hI := hI.cast (fMt_a (σ := zS) 12 rfl (by decide) (by decide) (by decide) rfl (by decide) (by decide))
  refine pf_X7_32 hC hin hI (kk := 20) (ii := 0) fMt_o (Nat.le_of_ble_eq_true rfl) dX7_init_64 (fun H locs hI => ?_)
  have hI : WI g (adup (adup (adup (adup (adup (adup (adup ad 24 0 q4) 26 0 q6) 27 0 q7) 28 0 q8) 29 0 q9) 31 0 q11) 32 0 q12) B0 (fMt g [.int 0, .int 0, .int 150, .int 0, .ref q4, .long 0, .int 0, .ref q6, .ref q7, .ref q8, .ref q9, .int 0, .ref q11, .ref q12, .null, .null, .null, .null, .int 0, .null, .null, .null, .null, .int 0] zS 13 h) s H locs := hI.cast fMt_p
  refine lv_aload_n hx hb dX7_init_67 rfl (lv_at hl 0 rfl) ?_
  refine lv_bipush (v := 6) hx hb dX7_init_68 (by decide) ?_
  refine r_newa hC hI 33 0 (fMt_n 13 (by decide) (by decide) (by decide)) (atype := .int) wd_ac_int 0 rfl (hC.2.2.2.1.2 0 _ rfl).2 (a0 := (6, .inl (fun _ => 0))) rfl (by decide) (N' := 6) (by decide) (by decide) (Nat.le_of_ble_eq_true rfl) (Nat.le_of_ble_eq_true rfl) dX7_init_70 (fun q13 H hI => ?_)
  have hI := hI.cast (fMt_a (σ := zS) 13 rfl (by decide) (by decide) (by decide) rfl (by decide) (by decide))
  refine pf_X7_35 hC hin hI (kk := 20) (ii := 0) fMt_o (Nat.le_of_ble_eq_true rfl) dX7_init_72 (fun H locs hI => ?_)
  have hI : WI g (adup (adup (adup (adup (adup (adup (adup (adup ad 24 0 q4) 26 0 q6) 27 0 q7) 28 0 q8) 29 0 q9) 31 0 q11) 32 0 q12) 33 0 q13) B0 (fMt g [.int 0, .int 0, .int 150, .int 0, .ref q4, .long 0, .int 0, .ref q6, .ref q7, .ref q8, .ref q9, .int 0, .ref q11, .ref q12, .ref q13, .null, .null, .null, .int 0, .null, .null, .null, .null, .int 0] zS 14 h) s H locs := hI.cast fMt_p
  refine lv_aload_n hx hb dX7_init_75 rfl (lv_at hl 0 rfl) ?_
  refine lv_bipush (v := 6) hx hb dX7_init_76 (by decide) ?_
  refine r_newa hC hI 34 0 (fMt_n 14 (by decide) (by decide) (by decide)) (atype := .int) wd_ac_int 0 rfl (hC.2.2.2.1.2 0 _ rfl).2 (a0 := (6, .inl (fun _ => 0))) rfl (by decide) (N' := 6) (by decide) (by decide) (Nat.le_of_ble_eq_true rfl) (Nat.le_of_ble_eq_true rfl) dX7_init_78 (fun q14 H hI => ?_)
  have hI := hI.cast (fMt_a (σ := zS) 14 rfl (by decide) (by decide) (by decide) rfl (by decide) (by decide))
  refine pf_X7_38 hC hin hI (kk := 20) (ii := 0) fMt_o (Nat.le_of_ble_eq_true rfl) dX7_init_80 (fun H locs hI => ?_)
  have hI : WI g (adup (adup (adup (adup (adup (adup (adup (adup (adup ad 24 0 q4) 26 0 q6) 27 0 q7) 28 0 q8) 29 0 q9) 31 0 q11) 32 0 q12) 33 0 q13) 34 0 q14) B0 (fMt g [.int 0, .int 0, .int 150, .int 0, .ref q4, .long 0, .int 0, .ref q6, .ref q7, .ref q8, .ref q9, .int 0, .ref q11, .ref q12, .ref q13, .ref q14, .null, .null, .int 0, .null, .null, .null, .null, .int 0] zS 15 h) s H locs := hI.cast fMt_p
  refine lv_aload_n hx hb dX7_init_83 rfl (lv_at hl 0 rfl) ?_
  refine lv_bipush (v := 6) hx hb dX7_init_84 (by decide) ?_
  refine r_newa hC hI 35 0 (fMt_n 15 (by decide) (by decide) (by decide)) (atype := .boolean) wd_ac_boolean 1 rfl (hC.2.2.2.1.2 1 _ rfl).2 (a0 := (6, .inl (fun _ => 0))) rfl (by decide) (N' := 6) (by decide) (by decide) (Nat.le_of_ble_eq_true rfl) (Nat.le_of_ble_eq_true rfl) dX7_init_86 (fun q15 H hI => ?_)
  have hI := hI.cast (fMt_a (σ := zS) 15 rfl (by decide) (by decide) (by decide) rfl (by decide) (by decide))
  refine pf_X7_41 hC hin hI (kk := 20) (ii := 0) fMt_o (Nat.le_of_ble_eq_true rfl) dX7_init_88 (fun H locs hI => ?_)
  have hI : WI g (adup (adup (adup (adup (adup (adup (adup (adup (adup (adup ad 24 0 q4) 26 0 q6) 27 0 q7) 28 0 q8) 29 0 q9) 31 0 q11) 32 0 q12) 33 0 q13) 34 0 q14) 35 0 q15) B0 (fMt g [.int 0, .int 0, .int 150, .int 0, .ref q4, .long 0, .int 0, .ref q6, .ref q7, .ref q8, .ref q9, .int 0, .ref q11, .ref q12, .ref q13, .ref q14, .ref q15, .null, .int 0, .null, .null, .null, .null, .int 0] zS 16 h) s H locs := hI.cast fMt_p
  refine lv_aload_n hx hb dX7_init_91 rfl (lv_at hl 0 rfl) ?_
  refine lv_bipush (v := 36) hx hb dX7_init_92 (by decide) ?_
  refine r_newa hC hI 36 0 (fMt_n 16 (by decide) (by decide) (by decide)) (atype := .int) wd_ac_int 0 rfl (hC.2.2.2.1.2 0 _ rfl).2 (a0 := (36, .inl (fun _ => 0))) rfl (by decide) (N' := 36) (by decide) (by decide) (Nat.le_of_ble_eq_true rfl) (Nat.le_of_ble_eq_true rfl) dX7_init_94 (fun q16 H hI => ?_)
  have hI := hI.cast (fMt_a (σ := zS) 16 rfl (by decide) (by decide) (by decide) rfl (by decide) (by decide))
  refine pf_X7_45 hC hin hI (kk := 20) (ii := 0) fMt_o (Nat.le_of_ble_eq_true rfl) dX7_init_96 (fun H locs hI => ?_)
  have hI : WI g (adup (adup (adup (adup (adup (adup (adup (adup (adup (adup (adup ad 24 0 q4) 26 0 q6) 27 0 q7) 28 0 q8) 29 0 q9) 31 0 q11) 32 0 q12) 33 0 q13) 34 0 q14) 35 0 q15) 36 0 q16) B0 (fMt g [.int 0, .int 0, .int 150, .int 0, .ref q4, .long 0, .int 0, .ref q6, .ref q7, .ref q8, .ref q9, .int 0, .ref q11, .ref q12, .ref q13, .ref q14, .ref q15, .ref q16, .int 0, .null, .null, .null, .null, .int 0] zS 17 h) s H locs := hI.cast fMt_p
  refine lv_aload_n hx hb dX7_init_99 rfl (lv_at hl 0 rfl) ?_
  refine lv_bipush (v := 60) hx hb dX7_init_100 (by decide) ?_
  refine r_newa hC hI 38 0 (fMt_n 18 (by decide) (by decide) (by decide)) (atype := .int) wd_ac_int 0 rfl (hC.2.2.2.1.2 0 _ rfl).2 (a0 := (60, .inl (fun _ => 0))) rfl (by decide) (N' := 60) (by decide) (by decide) (Nat.le_of_ble_eq_true rfl) (Nat.le_of_ble_eq_true rfl) dX7_init_102 (fun q18 H hI => ?_)
  have hI := hI.cast (fMt_a (σ := zS) 18 rfl (by decide) (by decide) (by decide) rfl (by decide) (by decide))
  refine pf_X7_48 hC hin hI (kk := 20) (ii := 0) fMt_o (Nat.le_of_ble_eq_true rfl) dX7_init_104 (fun H locs hI => ?_)
  have hI : WI g (adup (adup (adup (adup (adup (adup (adup (adup (adup (adup (adup (adup ad 24 0 q4) 26 0 q6) 27 0 q7) 28 0 q8) 29 0 q9) 31 0 q11) 32 0 q12) 33 0 q13) 34 0 q14) 35 0 q15) 36 0 q16) 38 0 q18) B0 (fMt g [.int 0, .int 0, .int 150, .int 0, .ref q4, .long 0, .int 0, .ref q6, .ref q7, .ref q8, .ref q9, .int 0, .ref q11, .ref q12, .ref q13, .ref q14, .ref q15, .ref q16, .int 0, .ref q18, .null, .null, .null, .int 0] zS 19 h) s H locs := hI.cast fMt_p
  refine lv_aload_n hx hb dX7_init_107 rfl (lv_at hl 0 rfl) ?_
  refine lv_bipush (v := 60) hx hb dX7_init_108 (by decide) ?_
  refine r_newa hC hI 39 0 (fMt_n 19 (by decide) (by decide) (by decide)) (atype := .int) wd_ac_int 0 rfl (hC.2.2.2.1.2 0 _ rfl).2 (a0 := (60, .inl (fun _ => 0))) rfl (by decide) (N' := 60) (by decide) (by decide) (Nat.le_of_ble_eq_true rfl) (Nat.le_of_ble_eq_true rfl) dX7_init_110 (fun q19 H hI => ?_)
  have hI := hI.cast (fMt_a (σ := zS) 19 rfl (by decide) (by decide) (by decide) rfl (by decide) (by decide))
  refine pf_X7_51 hC hin hI (kk := 20) (ii := 0) fMt_o (Nat.le_of_ble_eq_true rfl) dX7_init_112 (fun H locs hI => ?_)
  have hI : WI g (adup (adup (adup (adup (adup (adup (adup (adup (adup (adup (adup (adup (adup ad 24 0 q4) 26 0 q6) 27 0 q7) 28 0 q8) 29 0 q9) 31 0 q11) 32 0 q12) 33 0 q13) 34 0 q14) 35 0 q15) 36 0 q16) 38 0 q18) 39 0 q19) B0 (fMt g [.int 0, .int 0, .int 150, .int 0, .ref q4, .long 0, .int 0, .ref q6, .ref q7, .ref q8, .ref q9, .int 0, .ref q11, .ref q12, .ref q13, .ref q14, .ref q15, .ref q16, .int 0, .ref q18, .ref q19, .null, .null, .int 0] zS 20 h) s H locs := hI.cast fMt_p
  refine lv_aload_n hx hb dX7_init_115 rfl (lv_at hl 0 rfl) ?_
  refine lv_bipush (v := 60) hx hb dX7_init_116 (by decide) ?_
  refine r_newa hC hI 40 0 (fMt_n 20 (by decide) (by decide) (by decide)) (atype := .int) wd_ac_int 0 rfl (hC.2.2.2.1.2 0 _ rfl).2 (a0 := (60, .inl (fun _ => 0))) rfl (by decide) (N' := 60) (by decide) (by decide) (Nat.le_of_ble_eq_true rfl) (Nat.le_of_ble_eq_true rfl) dX7_init_118 (fun q20 H hI => ?_)
  have hI := hI.cast (fMt_a (σ := zS) 20 rfl (by decide) (by decide) (by decide) rfl (by decide) (by decide))
  refine pf_X7_54 hC hin hI (kk := 20) (ii := 0) fMt_o (Nat.le_of_ble_eq_true rfl) dX7_init_120 (fun H locs hI => ?_)
  have hI : WI g (adup (adup (adup (adup (adup (adup (adup (adup (adup (adup (adup (adup (adup (adup ad 24 0 q4) 26 0 q6) 27 0 q7) 28 0 q8) 29 0 q9) 31 0 q11) 32 0 q12) 33 0 q13) 34 0 q14) 35 0 q15) 36 0 q16) 38 0 q18) 39 0 q19) 40 0 q20) B0 (fMt g [.int 0, .int 0, .int 150, .int 0, .ref q4, .long 0, .int 0, .ref q6, .ref q7, .ref q8, .ref q9, .int 0, .ref q11, .ref q12, .ref q13, .ref q14, .ref q15, .ref q16, .int 0, .ref q18, .ref q19, .ref q20, .null, .int 0] zS 21 h) s H locs := hI.cast fMt_p
  refine lv_aload_n hx hb dX7_init_123 rfl (lv_at hl 0 rfl) ?_
  refine lv_bipush (v := 60) hx hb dX7_init_124 (by decide) ?_
  refine r_newa hC hI 41 0 (fMt_n 21 (by decide) (by decide) (by decide)) (atype := .int) wd_ac_int 0 rfl (hC.2.2.2.1.2 0 _ rfl).2 (a0 := (60, .inl (fun _ => 0))) rfl (by decide) (N' := 60) (by decide) (by decide) (Nat.le_of_ble_eq_true rfl) (Nat.le_of_ble_eq_true rfl) dX7_init_126 (fun q21 H hI => ?_)
  have hI := hI.cast (fMt_a (σ := zS) 21 rfl (by decide) (by decide) (by decide) rfl (by decide) (by decide))
  refine pf_X7_57 hC hin hI (kk := 20) (ii := 0) fMt_o (Nat.le_of_ble_eq_true rfl) dX7_init_128 (fun H locs hI => ?_)
  have hI : WI g (adup (adup (adup (adup (adup (adup (adup (adup (adup (adup (adup (adup (adup (adup (adup ad 24 0 q4) 26 0 q6) 27 0 q7) 28 0 q8) 29 0 q9) 31 0 q11) 32 0 q12) 33 0 q13) 34 0 q14) 35 0 q15) 36 0 q16) 38 0 q18) 39 0 q19) 40 0 q20) 41 0 q21) B0 (fMt g [.int 0, .int 0, .int 150, .int 0, .ref q4, .long 0, .int 0, .ref q6, .ref q7, .ref q8, .ref q9, .int 0, .ref q11, .ref q12, .ref q13, .ref q14, .ref q15, .ref q16, .int 0, .ref q18, .ref q19, .ref q20, .ref q21, .int 0] zS 22 h) s H locs := hI.cast fMt_p
  refine lv_iconst (v := 0) hx hb dX7_init_131 (by decide) ?_
  refine lv_istore_n (lv' := [(1, .int (nI 0)), (0, .ref (ad 20 0))]) hx hb dX7_init_132 rfl hl (by decide) rfl (fun ls hl => ?_)
  obtain ⟨a9, ha9⟩ : ∃ z : Ad, z = (adup (adup (adup (adup (adup (adup (adup (adup (adup (adup (adup (adup (adup (adup (adup ad 24 0 q4) 26 0 q6) 27 0 q7) 28 0 q8) 29 0 q9) 31 0 q11) 32 0 q12) 33 0 q13) 34 0 q14) 35 0 q15) 36 0 q16) 38 0 q18) 39 0 q19) 40 0 q20) 41 0 q21) := ⟨_, rfl⟩
  rw [← ha9] at hI
  have hq4 : q4 = a9 24 0 := by rw [ha9]; rfl
  have hq6 : q6 = a9 26 0 := by rw [ha9]; rfl
  have hq7 : q7 = a9 27 0 := by rw [ha9]; rfl
  have hq8 : q8 = a9 28 0 := by rw [ha9]; rfl
  have hq9 : q9 = a9 29 0 := by rw [ha9]; rfl
  have hq11 : q11 = a9 31 0 := by rw [ha9]; rfl
  have hq12 : q12 = a9 32 0 := by rw [ha9]; rfl
  have hq13 : q13 = a9 33 0 := by rw [ha9]; rfl
  have hq14 : q14 = a9 34 0 := by rw [ha9]; rfl
  have hq15 : q15 = a9 35 0 := by rw [ha9]; rfl
  have hq16 : q16 = a9 36 0 := by rw [ha9]; rfl
  have hq18 : q18 = a9 38 0 := by rw [ha9]; rfl
  have hq19 : q19 = a9 39 0 := by rw [ha9]; rfl
  have hq20 : q20 = a9 40 0 := by rw [ha9]; rfl
  have hq21 : q21 = a9 41 0 := by rw [ha9]; rfl
  have e20 : ad 20 0 = a9 20 0 := by rw [ha9]; rfl
  have hoth : ∀ k i, ¬ (20 < k ∧ k < 44) → a9 k i = ad k i := by
    intro k i hki
    rw [ha9]
    simp only [adup]
    rw [if_neg (by omega), if_neg (by omega), if_neg (by omega), if_neg (by omega), if_neg (by omega), if_neg (by omega), if_neg (by omega), if_neg (by omega), if_neg (by omega), if_neg (by omega), if_neg (by omega), if_neg (by omega), if_neg (by omega), if_neg (by omega), if_neg (by omega)]
  have hI := hI.cast (fMt_f (ad := a9) (σ := σB) (pd := 0) (th := 0) (by rw [hq4, hq6, hq7, hq8, hq9, hq11, hq12, hq13, hq14, hq15, hq16, hq18, hq19, hq20, hq21]; rfl) zS_σB (by decide))
  have hI := hI.cast (congrArg (fun z => fM g a9 z 0 0 h) (spF_0 σB 0 10).symm)
  rw [e20] at hl
  have L133 : ∀ (n : Nat) (k : Nat), k ≤ 24 → 25 ≤ k + n → ∀ (H : Heap) (locs : List Loc), WI g a9 B0 (fM g a9 (su σB 4 (spF σB 0 10 k)) 0 0 h) s H locs → ∀ (ls : Array Slot), lv_has ls 2 [(1, .int (nI k)), (0, .ref (a9 20 0))] → W p l e ({ frames := 1, cells := 15, slots := 378, locals := 20 } : Room) s m ([.ref (ad 20 0)] : List Value).toArray below meth c H locs (0 + 1 + 1 + 1 + 1 + 1 + 1 + 1 + 1 + 1 + 1 + 1 + 1 + 1 + 1 + 1) (0 + 24 + 12 + 12 + 12 + 12 + 6 + 6 + 6 + 6 + 6 + 36 + 60 + 60 + 60 + 60) (MQ below (QI g B0 (fun v a w => v = none ∧ (∀ k i, ¬ (20 < k ∧ k < 44) → a k i = ad k i) ∧ w = fM g a σI 0 0 h)) ([.ref (ad 20 0)] : List Value).toArray s 15 378 (fun q => B0 ≤ q)) (F0 m 133 ls []) := by
    intro n
    induction n with
    | zero =>
      intro k hk9 hfu
      exact absurd hfu (by omega)
    | succ n ih133 =>
      intro k hk9 hfu H locs hI ls hl
      refine lv_iload_n hx hb dX7_init_133 rfl (lv_at hl 0 rfl) ?_
      refine lv_bipush (v := 24) hx hb dX7_init_134 (by decide) ?_
      refine lv_icmp_ge (tgt := 153) hx hb dX7_init_136 (by decide) (fun c136 => ?_) (fun c136 => ?_)
      · have hk2 : 24 ≤ k := ge_T rfl (by decide) (by omega) c136
        exact e_ctor hC hI ⟨rfl, hoth, by rw [show k = 24 by omega]; rfl⟩ (Nat.le_of_ble_eq_true rfl) (Nat.le_of_ble_eq_true rfl) dX7_init_153
      · have hk2 : k < 24 := ge_F rfl (by decide) (by omega) c136
        refine lv_aload_n hx hb dX7_init_139 rfl (lv_at hl 1 rfl) ?_
        refine gf_X7_13 hC hI fM_o rfl dX7_init_140 ?_
        refine lv_iload_n hx hb dX7_init_143 rfl (lv_at hl 0 rfl) ?_
        refine lv_bipush (v := 10) hx hb dX7_init_144 (by decide) ?_
        refine r_iast hC hI fM_4 (j := k) rfl hk2 (by decide) dX7_init_146 (fun H locs hI => ?_)
        have hI := hI.cast (fM_a 4 rfl (by decide) (by decide) rfl)
        have hI := hI.cast (congrArg (fun z => fM g a9 z 0 0 h) (spF_1 σB 10 (Nat.zero_le k)))
        refine lv_iinc (v := nI (k + 1)) (lv' := [(1, .int (nI (k + 1))), (0, .ref (a9 20 0))]) hx hb dX7_init_147 hl (k := 0) rfl (nI_1 _) (by decide) rfl (fun ls hl => ?_)
        refine lv_goto (tgt := 133) hx hb dX7_init_150 (by decide) ?_
        exact ih133 (k + 1) (by omega) (by omega) _ _ hI ls (lv_sub hl [0, 1] rfl)
  exact L133 25 0 (by omega) (by omega) _ _ hI ls (lv_sub hl [0, 1] rfl)
