/-! THE CLASS, the constructor of its tariff -/
def tfF (k : Nat) : Nat → Int32 := fun j => if j < k then 10 else 0
theorem tfF_0 : tfF 0 = fun _ => 0 := funext fun j => if_neg (Nat.not_lt_zero j)
theorem tfF_1 (k : Nat) : upd (tfF k) k 10 = tfF (k + 1) := by
  funext j
  by_cases hj : j = k
  · subst hj
    rw [upd_s]
    exact (if_pos (Nat.lt_succ_self _)).symm
  · rw [upd_n _ _ hj]
    unfold tfF
    by_cases h : j < k
    · rw [if_pos h, if_pos (by omega)]
    · rw [if_neg h, if_neg (by omega)]

set_option maxHeartbeats 4000000 in
set_option maxRecDepth 100000 in
theorem tX5_init (l : Launch) (g : Gg) (B0 : Nat) (ad : Ad) (f : Wd) (h3 : f 3 0 = none) (he0 : f 2 0 = some (.inr (5, [.null, .int 0]))) : MK l g B0 yX5_init (wsM yX5_init cX5_init 2 none) ({ frames := 1, cells := 1, slots := 24, locals := 20 } : Room) [.ref (ad 2 0)] ad (f) (fun v a w => v = none ∧ (∀ k i, ¬ (k = 3 ∧ i = 0) → a k i = ad k i) ∧ w = up2 (up2 f 3 0 (.inl (g.2 0, 24, .inl (tfF 24)))) 2 0 (.inr (5, [.ref (a 3 0), .int 10]))) 1 24 := by
  refine MK.start (by decide) rfl (Nat.le_of_ble_eq_true rfl) ?_
  intro p e s m below meth c ls hC hin hI hl0
  have hx := hC.1.1
  have hb := hC.1.2.1
  have hts := hC.1.2.2.2.2
  have hl : lv_has ls 2 [(0, .ref (ad 2 0))] := hl0
  obtain ⟨H, hH⟩ : ∃ H, H = s.heap := ⟨_, rfl⟩
  obtain ⟨locs, hLo⟩ : ∃ L : List Loc, L = [] := ⟨_, rfl⟩
  rw [← hH, ← hLo] at hI ⊢
  clear hH hLo hl0
  refine lv_aload_n hx hb dX5_init_0 rfl (lv_at hl 0 rfl) ?_
  refine W.objInit hx hb hC.1.2.2.2.1 (hts _ wd_ml_X5_3) (hts _ wd_im__java_lang_Object__init____V_) (hts _ wd_co__java_lang_Object__init____V_) rfl (by rw [hC.1.2.2.1]; exact hl.1) rfl dX5_init_1 (Nat.le_of_ble_eq_true rfl) (Nat.le_of_ble_eq_true rfl) ?_
  refine W.eq (g2 := F0 m 4 ls []) rfl ?_
  refine lv_aload_n hx hb dX5_init_4 rfl (lv_at hl 0 rfl) ?_
  refine lv_bipush (v := 24) hx hb dX5_init_5 (by decide) ?_
  refine r_newa hC hI 3 0 h3 (atype := .int) wd_ac_int 0 rfl (hC.2.2.2.1.2 0 _ rfl).2 (a0 := (24, .inl (fun _ => 0))) rfl (by decide) (N' := 24) (by decide) (by decide) (Nat.le_of_ble_eq_true rfl) (Nat.le_of_ble_eq_true rfl) dX5_init_7 (fun q H hI => ?_)
  obtain ⟨a1, ha1⟩ : ∃ z : Ad, z = adup ad 3 0 q := ⟨_, rfl⟩
  rw [← ha1] at hI
  have e2 : ad 2 0 = a1 2 0 := by rw [ha1]; rfl
  have eq9 : q = a1 3 0 := by rw [ha1, adup_s]
  rw [e2] at hl
  refine W.eq (g2 := F0 m 9 ls [.ref (a1 3 0), .ref (a1 2 0)]) (by rw [eq9, e2]) ?_
  have hI : WI g a1 B0 (up2 f 3 0 (.inl (g.2 0, 24, .inl (tfF 0)))) s H locs := hI.cast (by rw [tfF_0])
  refine pf_X5_9 hC hin hI ((up2_n _ _ (by omega)).trans he0) (Nat.le_of_ble_eq_true rfl) dX5_init_9 (fun H locs hI => ?_)
  have hI : WI g a1 B0 (up2 (up2 f 3 0 (.inl (g.2 0, 24, .inl (tfF 0)))) 2 0 (.inr (5, [.ref (a1 3 0), .int 0]))) s H locs := hI.cast (rfl)
  refine lv_aload_n hx hb dX5_init_12 rfl (lv_at hl 0 rfl) ?_
  refine lv_bipush (v := 10) hx hb dX5_init_13 (by decide) ?_
  refine pf_X5_15 hC hI (up2_s _ _ _ _) (Nat.le_of_ble_eq_true rfl) dX5_init_15 (fun H locs hI => ?_)
  have hI : WI g a1 B0 (up2 (up2 f 3 0 (.inl (g.2 0, 24, .inl (tfF 0)))) 2 0 (.inr (5, [.ref (a1 3 0), .int 10]))) s H locs := hI.cast (up2_up2 _ _ _ _ _)
  refine lv_iconst (v := 0) hx hb dX5_init_18 (by decide) ?_
  refine lv_istore_n (lv' := [(1, .int (nI 0)), (0, .ref (a1 2 0))]) hx hb dX5_init_19 rfl hl (by decide) rfl (fun ls hl => ?_)
  have L20 : ∀ (n : Nat) (k : Nat), k ≤ 24 → 25 ≤ k + n → ∀ (H : Heap) (locs : List Loc), WI g a1 B0 (up2 (up2 f 3 0 (.inl (g.2 0, 24, .inl (tfF k)))) 2 0 (.inr (5, [.ref (a1 3 0), .int 10]))) s H locs → ∀ (ls : Array Slot), lv_has ls 2 [(1, .int (nI k)), (0, .ref (a1 2 0))] → W p l e ({ frames := 1, cells := 1, slots := 24, locals := 20 } : Room) s m ([.ref (ad 2 0)] : List Value).toArray below meth c H locs (0 + 1) (0 + 24) (MQ below (QI g B0 (fun v a w => v = none ∧ (∀ k i, ¬ (k = 3 ∧ i = 0) → a k i = ad k i) ∧ w = up2 (up2 f 3 0 (.inl (g.2 0, 24, .inl (tfF 24)))) 2 0 (.inr (5, [.ref (a 3 0), .int 10])))) ([.ref (ad 2 0)] : List Value).toArray s 1 24 (fun q => B0 ≤ q)) (F0 m 20 ls []) := by
    intro n
    induction n with
    | zero =>
      intro k hk hfu
      exact absurd hfu (by omega)
    | succ n ih20 =>
      intro k hk hfu H locs hI ls hl
      refine lv_iload_n hx hb dX5_init_20 rfl (lv_at hl 0 rfl) ?_
      refine lv_aload_n hx hb dX5_init_21 rfl (lv_at hl 1 rfl) ?_
      refine gf_X5_9 hC hI (up2_s _ _ _ _) rfl dX5_init_22 ?_
      refine r_alen hC hI ((up2_n _ _ (by omega)).trans (up2_s _ _ _ _)) 0 rfl (v := 24) rfl dX5_init_25 ?_
      refine lv_icmp_ge (tgt := 45) hx hb dX5_init_26 (by decide) (fun c26 => ?_) (fun c26 => ?_)
      · have hk2 : 24 ≤ k := ge_T rfl (by decide) (by omega) c26
        have hk6 : k = 24 := by omega
        subst hk6
        exact e_ctor hC hI ⟨rfl, fun k i hk => by rw [ha1]; exact adup_n _ _ hk, rfl⟩ (Nat.le_of_ble_eq_true rfl) (Nat.le_of_ble_eq_true rfl) dX5_init_45
      · have hk2 : k < 24 := ge_F rfl (by decide) (by omega) c26
        refine lv_aload_n hx hb dX5_init_29 rfl (lv_at hl 1 rfl) ?_
        refine gf_X5_9 hC hI (up2_s _ _ _ _) rfl dX5_init_30 ?_
        refine lv_iload_n hx hb dX5_init_33 rfl (lv_at hl 0 rfl) ?_
        refine lv_aload_n hx hb dX5_init_34 rfl (lv_at hl 1 rfl) ?_
        refine gf_X5_15 hC hI (up2_s _ _ _ _) rfl dX5_init_35 ?_
        refine r_iast hC hI ((up2_n _ _ (by omega)).trans (up2_s _ _ _ _)) (j := k) rfl hk2 (by decide) dX5_init_38 (fun H locs hI => ?_)
        have hI : WI g a1 B0 (up2 (up2 f 3 0 (.inl (g.2 0, 24, .inl (tfF (k + 1))))) 2 0 (.inr (5, [.ref (a1 3 0), .int 10]))) s H locs := hI.cast (by rw [up2_mid _ _ _ _ (by omega), tfF_1])
        refine lv_iinc (v := nI (k + 1)) (lv' := [(1, .int (nI (k + 1))), (0, .ref (a1 2 0))]) hx hb dX5_init_39 hl (k := 0) rfl (nI_1 _) (by decide) rfl (fun ls hl => ?_)
        refine lv_goto (tgt := 20) hx hb dX5_init_42 (by decide) ?_
        exact ih20 (k + 1) (by omega) (by omega) _ _ hI ls (lv_sub hl [0, 1] rfl)
  exact L20 25 0 (by omega) (by omega) _ _ hI ls (lv_sub hl [0, 1] rfl)
