/-! THE LAW'S WORLD: five arrays of its own (0 what the products are, 1 what the rooms are, 2 ages, 3 where pallets were, 4 what is just made) at the kinds 50 to 54 over the class's world -/
theorem fC_up {g : Gg} {ad : Ad} {σ : Sg} {pd : Int64} {pl : Pl} {sc : Sg} {h : Wd} {K : Nat} {x : va_E} (hK : 13 ≤ K) : up2 (fC g ad σ pd pl sc h) K 0 x = fC g ad σ pd pl sc (up2 h K 0 x) := by
  refine up2_to ?_ (fun k i hk => ?_)
  · obtain ⟨j, rfl⟩ : ∃ j, K = j + 13 := ⟨K - 13, by omega⟩
    exact up2_s _ _ _ _
  · match k, hk with
    | 0, _ => rfl
    | 1, _ => rfl
    | 2, _ => rfl
    | 3, _ => rfl
    | 4, _ => rfl
    | 5, _ => rfl
    | 6, _ => rfl
    | 7, _ => rfl
    | 8, _ => rfl
    | 9, _ => rfl
    | 10, _ => rfl
    | 11, _ => rfl
    | 12, _ => rfl
    | k + 13, hk => exact (up2_n h x hk).symm
/-- what holds between the calls -/
def Ok3 (σ : Sg) (pl : Pl) : Prop := Iv σ pl ∧ OkT σ ∧ Bn σ (cN (σ 1 0))
theorem Ok3.pl {σ : Sg} {pl pl' : Pl} (h : Ok3 σ pl) (hP : PlOk σ pl') : Ok3 σ pl' := ⟨⟨h.1.1, hP, h.1.2.2⟩, h.2⟩
theorem fC_adE {g : Gg} {ad a : Ad} {σ : Sg} {pd : Int64} {pl : Pl} {sc : Sg} {h : Wd} (hA : ∀ k i, k < 13 → a k i = ad k i) : fC g a σ pd pl sc h = fC g ad σ pd pl sc h := by
  have f7 : a 7 = ad 7 := funext fun i => hA 7 i (by decide)
  have f8 : a 8 = ad 8 := funext fun i => hA 8 i (by decide)
  have f9 : a 9 = ad 9 := funext fun i => hA 9 i (by decide)
  have f10 : a 10 = ad 10 := funext fun i => hA 10 i (by decide)
  have f11 : a 11 = ad 11 := funext fun i => hA 11 i (by decide)
  have f12 : a 12 = ad 12 := funext fun i => hA 12 i (by decide)
  have e0 : stoE a σ pd = stoE ad σ pd := by
    unfold stoE
    rw [hA 1 0 (by decide), hA 2 0 (by decide), hA 4 0 (by decide), hA 5 0 (by decide), hA 6 0 (by decide)]
  have e2 : lowE a σ = lowE ad σ := by
    unfold lowE
    rw [hA 3 0 (by decide)]
  have e8 : roomE a σ sc = roomE ad σ sc := funext fun i => by
    unfold roomE
    rw [f9, f10, f11]
  have e11 : plcE g a σ pl = plcE g ad σ pl := funext fun i => by
    unfold plcE
    rw [f12]
  have e12 : palE a σ sc = palE ad σ sc := funext fun i => by
    unfold palE rmR
    rw [f7, f8]
  unfold fC
  rw [e0, e2, e8, e11, e12, f7, f8, f12]
section KEEP3
variable {σ : Sg} {pl pl' : Pl}
theorem k3_same (h : Ok3 σ pl) (hP : PlOk σ pl') : Ok3 σ pl' := h.pl hP
theorem k3_SO {u9 v9 : Int32} (h : Ok3 σ pl) (hk : kdSO u9 v9 = 0) (hP : PlOk (stSO σ u9 v9) pl') : Ok3 (stSO σ u9 v9) pl' := ⟨keepSO h.1 hk hP, h.2.1, h.2.2⟩
theorem k3_SP {t1 t2 t3 : Int32} (h : Ok3 σ pl) (hk : kdSP t1 t2 t3 = 0) (hP : PlOk (stSP σ t1 t2 t3) pl') : Ok3 (stSP σ t1 t2 t3) pl' := ⟨keepSP h.1 hk hP, h.2.1, h.2.2⟩
theorem k3_SR {v9 aim b9 : Int32} (hb : b9 = 0 ∨ b9 = 1) (h : Ok3 σ pl) (hk : kdSR σ v9 aim = 0) (hP : PlOk (stSR σ v9 aim b9) pl') : Ok3 (stSR σ v9 aim b9) pl' := ⟨keepSR h.1 hb hk hP, h.2.1, h.2.2⟩
theorem k3_CL (h : Ok3 σ pl) (hP : PlOk (stCL σ) pl') : Ok3 (stCL σ) pl' := ⟨keepCL h.1 hP, h.2.1, h.2.2⟩
theorem k3_AP {lo hi li sm : Int32} (h : Ok3 σ pl) (hk : kdAP σ lo hi li sm = 0) (hP : PlOk (stAP σ lo hi li sm) pl') : Ok3 (stAP σ lo hi li sm) pl' := ⟨keepAP h.1 hk hP, h.2.1, h.2.2⟩
theorem k3_DF {v9 : Int32} (h : Ok3 σ pl) (hk : kdDF σ v9 = 0) (hP : PlOk (stDF σ v9) pl') : Ok3 (stDF σ v9) pl' := by
  obtain ⟨i1, i2⟩ := keepDF h.1 h.2.2 hk hP
  exact ⟨i1, h.2.1, i2⟩
theorem k3_SH {u9 many least : Int32} (h : Ok3 σ pl) (hP : PlOk (stSH σ u9 many least) pl') : Ok3 (stSH σ u9 many least) pl' := by
  obtain ⟨i1, i2⟩ := keepSH h.1 h.2.2 hP
  have e : stSH σ u9 many least 1 = σ 1 := (su_n _ _ (by decide)).trans ((shipL_keep (a := cN u9) (least := least) (cN many) σ h.1.1 h.1.2.2.1 h.1.2.2.2).2.2.2 1 (by decide))
  refine ⟨i1, ?_, ?_⟩
  · unfold OkT
    rw [e]
    exact h.2.1
  · rw [e]
    exact i2
theorem k3_AR {pc9 wa po aim : Int32} (h : Ok3 σ pl) (hk : kdAR σ pc9 wa po aim = 0) (hP : PlOk (stAR σ pc9 wa po aim) pl') : Ok3 (stAR σ pc9 wa po aim) pl' := by
  obtain ⟨i1, i2⟩ := keepAR h.1 h.2.2 hk hP
  exact ⟨i1, h.2.1, i2⟩
theorem k3_AV {u9 v9 t9 : Int32} (h : Ok3 σ pl) (hk : kdAV σ u9 v9 t9 = 0) (hP : PlOk (stAV σ u9 v9 t9) pl') : Ok3 (stAV σ u9 v9 t9) pl' := by
  obtain ⟨i1, i2⟩ := keepAV h.1 h.2.2 hk hP
  exact ⟨i1, h.2.1, i2⟩
theorem k3_TI {v9 : Int32} {pd : Int64} (h : Ok3 σ pl) (hk : kdTI σ v9 = 0) (hP : PlOk (tickAt (σ, pd) (cN v9)).1 pl') : Ok3 (tickAt (σ, pd) (cN v9)).1 pl' := by
  obtain ⟨⟨h1, h2⟩, h3⟩ := kd_1 hk
  obtain ⟨w, hw, rfl⟩ := nI_of (x := v9) (Int32.not_lt.mpr (Int32.le_trans (show (0 : Int32) ≤ 1 by decide) h1))
  have hw2 : w ≤ 200 := (nI_leI hw (b := 200) (by decide)).mp h2
  obtain ⟨hT1, hT2⟩ := id h.2.1
  obtain ⟨t, ht⟩ : ∃ t, t = cN (σ 1 0) := ⟨_, rfl⟩
  have e1 : σ 1 0 = nI t := by rw [ht]; exact hT1
  rw [e1, nI_p] at h3
  have h4 : t + w ≤ 2000 := (nI_leI (by omega) (b := 2000) (by decide)).mp h3
  rw [cN_nI hw] at hP ⊢
  have en : (tickAt (σ, pd) w).1 1 0 = nI (t + w) := tickAt_now (x := (σ, pd)) e1 w
  have ec : cN ((tickAt (σ, pd) w).1 1 0) = t + w := by rw [en]; exact cN_nI (by omega)
  obtain ⟨i1, i2⟩ := keepTI (pd := pd) h.1 h.2.2 w (by omega)
  refine ⟨⟨i1.1, hP, i1.2.2⟩, ⟨by rw [ec]; exact en, by rw [ec]; omega⟩, ?_⟩
  rw [ec, ht]
  exact i2
end KEEP3
theorem bi_01 {P : Prop} [Decidable P] : bi P = 0 ∨ bi P = 1 := by
  unfold bi
  split
  · exact Or.inr rfl
  · exact Or.inl rfl
def hL (g : Gg) (o0 o1 o2 o3 o4 : Option (Nat → Int32)) : Wd := fun k i => if i = 0 then (if k = 50 then o0.map (fun z => .inl (g.2 0, 48, .inl z)) else if k = 51 then o1.map (fun z => .inl (g.2 0, 24, .inl z)) else if k = 52 then o2.map (fun z => .inl (g.2 0, 60, .inl z)) else if k = 53 then o3.map (fun z => .inl (g.2 0, 60, .inl z)) else if k = 54 then o4.map (fun z => .inl (g.2 0, 4, .inl z)) else none) else none
theorem hL_0 {g : Gg} {o0 o1 o2 o3 o4 : Option (Nat → Int32)} {fn : Nat → Int32} : up2 (hL g o0 o1 o2 o3 o4) 50 0 (.inl (g.2 0, 48, .inl fn)) = hL g (some fn) o1 o2 o3 o4 := by
  refine up2_to rfl (fun k i hk => ?_)
  unfold hL
  by_cases hi : i = 0
  · have hne : ¬ k = 50 := fun z => hk ⟨z, hi⟩
    rw [if_pos hi, if_pos hi]
    simp only [if_neg hne]
  · rw [if_neg hi, if_neg hi]
theorem hL_sub0 {g : Gg} {o0 o1 o2 o3 o4 : Option (Nat → Int32)} {k i : Nat} {e : va_E} (h : hL g none o1 o2 o3 o4 k i = some e) : hL g o0 o1 o2 o3 o4 k i = some e := by
  unfold hL at h ⊢
  by_cases hi : i = 0
  · rw [if_pos hi] at h ⊢
    by_cases hk : k = 50
    · subst hk
      exact absurd h (by simp)
    · simp only [if_neg hk] at h ⊢
      exact h
  · rw [if_neg hi] at h
    cases h
theorem hL_1 {g : Gg} {o0 o1 o2 o3 o4 : Option (Nat → Int32)} {fn : Nat → Int32} : up2 (hL g o0 o1 o2 o3 o4) 51 0 (.inl (g.2 0, 24, .inl fn)) = hL g o0 (some fn) o2 o3 o4 := by
  refine up2_to rfl (fun k i hk => ?_)
  unfold hL
  by_cases hi : i = 0
  · have hne : ¬ k = 51 := fun z => hk ⟨z, hi⟩
    rw [if_pos hi, if_pos hi]
    simp only [if_neg hne]
  · rw [if_neg hi, if_neg hi]
theorem hL_sub1 {g : Gg} {o0 o1 o2 o3 o4 : Option (Nat → Int32)} {k i : Nat} {e : va_E} (h : hL g o0 none o2 o3 o4 k i = some e) : hL g o0 o1 o2 o3 o4 k i = some e := by
  unfold hL at h ⊢
  by_cases hi : i = 0
  · rw [if_pos hi] at h ⊢
    by_cases hk : k = 51
    · subst hk
      exact absurd h (by simp)
    · simp only [if_neg hk] at h ⊢
      exact h
  · rw [if_neg hi] at h
    cases h
theorem hL_2 {g : Gg} {o0 o1 o2 o3 o4 : Option (Nat → Int32)} {fn : Nat → Int32} : up2 (hL g o0 o1 o2 o3 o4) 52 0 (.inl (g.2 0, 60, .inl fn)) = hL g o0 o1 (some fn) o3 o4 := by
  refine up2_to rfl (fun k i hk => ?_)
  unfold hL
  by_cases hi : i = 0
  · have hne : ¬ k = 52 := fun z => hk ⟨z, hi⟩
    rw [if_pos hi, if_pos hi]
    simp only [if_neg hne]
  · rw [if_neg hi, if_neg hi]
theorem hL_sub2 {g : Gg} {o0 o1 o2 o3 o4 : Option (Nat → Int32)} {k i : Nat} {e : va_E} (h : hL g o0 o1 none o3 o4 k i = some e) : hL g o0 o1 o2 o3 o4 k i = some e := by
  unfold hL at h ⊢
  by_cases hi : i = 0
  · rw [if_pos hi] at h ⊢
    by_cases hk : k = 52
    · subst hk
      exact absurd h (by simp)
    · simp only [if_neg hk] at h ⊢
      exact h
  · rw [if_neg hi] at h
    cases h
theorem hL_3 {g : Gg} {o0 o1 o2 o3 o4 : Option (Nat → Int32)} {fn : Nat → Int32} : up2 (hL g o0 o1 o2 o3 o4) 53 0 (.inl (g.2 0, 60, .inl fn)) = hL g o0 o1 o2 (some fn) o4 := by
  refine up2_to rfl (fun k i hk => ?_)
  unfold hL
  by_cases hi : i = 0
  · have hne : ¬ k = 53 := fun z => hk ⟨z, hi⟩
    rw [if_pos hi, if_pos hi]
    simp only [if_neg hne]
  · rw [if_neg hi, if_neg hi]
theorem hL_sub3 {g : Gg} {o0 o1 o2 o3 o4 : Option (Nat → Int32)} {k i : Nat} {e : va_E} (h : hL g o0 o1 o2 none o4 k i = some e) : hL g o0 o1 o2 o3 o4 k i = some e := by
  unfold hL at h ⊢
  by_cases hi : i = 0
  · rw [if_pos hi] at h ⊢
    by_cases hk : k = 53
    · subst hk
      exact absurd h (by simp)
    · simp only [if_neg hk] at h ⊢
      exact h
  · rw [if_neg hi] at h
    cases h
theorem hL_4 {g : Gg} {o0 o1 o2 o3 o4 : Option (Nat → Int32)} {fn : Nat → Int32} : up2 (hL g o0 o1 o2 o3 o4) 54 0 (.inl (g.2 0, 4, .inl fn)) = hL g o0 o1 o2 o3 (some fn) := by
  refine up2_to rfl (fun k i hk => ?_)
  unfold hL
  by_cases hi : i = 0
  · have hne : ¬ k = 54 := fun z => hk ⟨z, hi⟩
    rw [if_pos hi, if_pos hi]
    simp only [if_neg hne]
  · rw [if_neg hi, if_neg hi]
theorem hL_sub4 {g : Gg} {o0 o1 o2 o3 o4 : Option (Nat → Int32)} {k i : Nat} {e : va_E} (h : hL g o0 o1 o2 o3 none k i = some e) : hL g o0 o1 o2 o3 o4 k i = some e := by
  unfold hL at h ⊢
  by_cases hi : i = 0
  · rw [if_pos hi] at h ⊢
    by_cases hk : k = 54
    · subst hk
      exact absurd h (by simp)
    · simp only [if_neg hk] at h ⊢
      exact h
  · rw [if_neg hi] at h
    cases h
theorem fC_sub {g : Gg} {ad : Ad} {σ : Sg} {pd : Int64} {pl : Pl} {sc : Sg} {h h' : Wd} (hs : ∀ k i e, h' k i = some e → h k i = some e) : ∀ k i e, fC g ad σ pd pl sc h' k i = some e → fC g ad σ pd pl sc h k i = some e := fun k i e he => by
  match k, he with
  | 0, he => exact he
  | 1, he => exact he
  | 2, he => exact he
  | 3, he => exact he
  | 4, he => exact he
  | 5, he => exact he
  | 6, he => exact he
  | 7, he => exact he
  | 8, he => exact he
  | 9, he => exact he
  | 10, he => exact he
  | 11, he => exact he
  | 12, he => exact he
  | k + 13, he => exact hs _ _ _ he
/-- the world in the law: the class's object at x0, its five arrays at c0 .. c4 -/
def WL (g : Gg) (B0 x0 c0 c1 c2 c3 c4 : Nat) (s : State) (H : Heap) (locs : List Loc) (σ : Sg) (pd : Int64) (o0 o1 o2 o3 o4 : Option (Nat → Int32)) : Prop := ∃ (ad : Ad) (pl : Pl) (sc : Sg), WI g ad B0 (fC g ad σ pd pl sc (hL g o0 o1 o2 o3 o4)) s H locs ∧ Ok3 σ pl ∧ ad 0 0 = x0 ∧ ad 50 0 = c0 ∧ ad 51 0 = c1 ∧ ad 52 0 = c2 ∧ ad 53 0 = c3 ∧ ad 54 0 = c4
section WLS
variable {p : Program} {l : Launch} {e : Env} {R : Room} {s : State} {m : MethodId} {args : Array Value} {below : List Frame} {meth : Method} {c : Code} {H : Heap} {locs : List Loc} {cells slots : Nat} {Q : State → Prop}
variable {g : Gg} {B0 x0 c0 c1 c2 c3 c4 : Nat} {own : String} {cc : ByteArray} {nL : Nat} {ret : Option FieldType}
variable {pc : Nat} {ls : Array Slot} {rest st0 : List Value} {σ σ' : Sg} {pd pd' : Int64} {o0 o1 o2 o3 o4 : Option (Nat → Int32)}
theorem WL.ok (h : WL g B0 x0 c0 c1 c2 c3 c4 s H locs σ pd o0 o1 o2 o3 o4) : ∃ pl, Ok3 σ pl := by
  obtain ⟨ad, pl, sc, -, h3, -⟩ := h
  exact ⟨pl, h3⟩
theorem wl_call {mc ms n index : Nat} {y : MethodName} {bytes : ByteArray} {maxL : Nat} {rt : Option FieldType} {rm : Room} {As : List Value} {kd r : Int32} {PX : String → Prop} (hl9 : l.stackTraces = false) (hC : Cx p s m args meth c own cc nL ret g B0) (hW : WL g B0 x0 c0 c1 c2 c3 c4 s H locs σ pd o0 o1 o2 o3 o4) (hls : ls.size = nL)
    (hM : ∀ (ad : Ad) (pl : Pl) (sc : Sg), Ok3 σ pl → MM l g B0 y (wsM y bytes maxL rt) rm (.ref (ad 0 0) :: As) ad (fC g ad σ pd pl sc (hL g o0 o1 o2 o3 o4)) (rC g ad kd r σ' pd' (hL g o0 o1 o2 o3 o4)) (xE PX ad (fC g ad σ pd pl sc (hL g o0 o1 o2 o3 o4))) mc ms)
    (cw : CallW R s args own RX6 index y bytes maxL rt (wsM y bytes maxL rt) rm mc ms n) (hx : ∀ E, ¬ PX E) (hk : ∀ pl pl', Ok3 σ pl → PlOk σ' pl' → Ok3 σ' pl') (hn : As.length = n) (hst : st0 = As.reverse ++ .ref x0 :: rest) (hr : (rest.map fun v => v.category).sum ≤ 8) (hdg : decode cc pc = .ok (.invokevirtual index, 3)) (hf : cells + mc ≤ R.cells ∧ slots + ms ≤ R.slots)
    (kont : ∀ (H1 : Heap) (locs1 : List Loc), WL g B0 x0 c0 c1 c2 c3 c4 s H1 locs1 σ' pd' o0 o1 o2 o3 o4 → W p l e R s m args below meth c H1 locs1 (cells + mc) (slots + ms) Q (F0 m (pc + 3) ls (.int r :: rest))) : W p l e R s m args below meth c H locs cells slots Q (F0 m pc ls st0) := by
  obtain ⟨ad, pl, sc, hI, h3, rfl, rfl, rfl, rfl, rfl, rfl⟩ := hW
  refine r_callV hl9 hC hI hls (hM ad pl sc h3) cw fC_0 rfl rfl hn hst hr hdg hf (fun v a w H1 locs1 hR hI1 => ?_) (fun E _ _ _ _ _ _ hX => absurd hX.1 (hx E))
  obtain ⟨-, rfl, hA, pl', sc', hP, rfl⟩ := hR
  exact kont H1 locs1 ⟨a, pl', sc', hI1, hk pl pl' h3 hP, hA 0 0 (by omega), hA 50 0 (by omega), hA 51 0 (by omega), hA 52 0 (by omega), hA 53 0 (by omega), hA 54 0 (by omega)⟩
theorem wl_call0 {mc ms n index : Nat} {y : MethodName} {bytes : ByteArray} {maxL : Nat} {rt : Option FieldType} {rm : Room} {As : List Value} {kd r : Int32} (hl9 : l.stackTraces = false) (hC : Cx p s m args meth c own cc nL ret g B0) (hW : WL g B0 x0 c0 c1 c2 c3 c4 s H locs σ pd o0 o1 o2 o3 o4) (hls : ls.size = nL)
    (hM : ∀ (ad : Ad) (pl : Pl) (sc : Sg), Ok3 σ pl → MM l g B0 y (wsM y bytes maxL rt) rm (.ref (ad 0 0) :: As) ad (fC g ad σ pd pl sc (hL g o0 o1 o2 o3 o4)) (rC g ad kd r σ' pd' (hL g o0 o1 o2 o3 o4)) noX mc ms)
    (cw : CallW R s args own RX6 index y bytes maxL rt (wsM y bytes maxL rt) rm mc ms n) (hk : ∀ pl pl', Ok3 σ pl → PlOk σ' pl' → Ok3 σ' pl') (hn : As.length = n) (hst : st0 = As.reverse ++ .ref x0 :: rest) (hr : (rest.map fun v => v.category).sum ≤ 8) (hdg : decode cc pc = .ok (.invokevirtual index, 3)) (hf : cells + mc ≤ R.cells ∧ slots + ms ≤ R.slots)
    (kont : ∀ (H1 : Heap) (locs1 : List Loc), WL g B0 x0 c0 c1 c2 c3 c4 s H1 locs1 σ' pd' o0 o1 o2 o3 o4 → W p l e R s m args below meth c H1 locs1 (cells + mc) (slots + ms) Q (F0 m (pc + 3) ls (.int r :: rest))) : W p l e R s m args below meth c H locs cells slots Q (F0 m pc ls st0) := by
  obtain ⟨ad, pl, sc, hI, h3, rfl, rfl, rfl, rfl, rfl, rfl⟩ := hW
  refine r_callV hl9 hC hI hls (hM ad pl sc h3) cw fC_0 rfl rfl hn hst hr hdg hf (fun v a w H1 locs1 hR hI1 => ?_) (fun _ _ _ _ _ _ _ hX => hX.elim)
  obtain ⟨-, rfl, hA, pl', sc', hP, rfl⟩ := hR
  exact kont H1 locs1 ⟨a, pl', sc', hI1, hk pl pl' h3 hP, hA 0 0 (by omega), hA 50 0 (by omega), hA 51 0 (by omega), hA 52 0 (by omega), hA 53 0 (by omega), hA 54 0 (by omega)⟩
theorem wl_callL {index : Nat} {y : MethodName} {bytes : ByteArray} {rm : Room} {r : Int64} (hl9 : l.stackTraces = false) (hC : Cx p s m args meth c own cc nL ret g B0) (hW : WL g B0 x0 c0 c1 c2 c3 c4 s H locs σ pd o0 o1 o2 o3 o4) (hls : ls.size = nL)
    (hM : ∀ (ad : Ad) (pl : Pl) (sc : Sg), MM l g B0 y (wsM y bytes 1 (some .long)) rm [.ref (ad 0 0)] ad (fC g ad σ pd pl sc (hL g o0 o1 o2 o3 o4)) (dL r ad (fC g ad σ pd pl sc (hL g o0 o1 o2 o3 o4))) noX 0 0)
    (cw : CallW R s args own RX6 index y bytes 1 (some .long) (wsM y bytes 1 (some .long)) rm 0 0 0) (hst : st0 = .ref x0 :: rest) (hr : (rest.map fun v => v.category).sum ≤ 8) (hdg : decode cc pc = .ok (.invokevirtual index, 3)) (hf : cells ≤ R.cells ∧ slots ≤ R.slots)
    (kont : ∀ (H1 : Heap) (locs1 : List Loc), WL g B0 x0 c0 c1 c2 c3 c4 s H1 locs1 σ pd o0 o1 o2 o3 o4 → W p l e R s m args below meth c H1 locs1 cells slots Q (F0 m (pc + 3) ls (.long r :: rest))) : W p l e R s m args below meth c H locs cells slots Q (F0 m pc ls st0) := by
  obtain ⟨ad, pl, sc, hI, h3, rfl, rfl, rfl, rfl, rfl, rfl⟩ := hW
  exact c_Vl hl9 hC hI hls (hM ad pl sc) cw fC_0 rfl rfl rfl hst hr hdg hf (fun H1 locs1 hI1 => kont H1 locs1 ⟨ad, pl, sc, hI1, h3, rfl, rfl, rfl, rfl, rfl, rfl⟩)
theorem wl_callI {index : Nat} {y : MethodName} {bytes : ByteArray} {rm : Room} {r : Int32} (hl9 : l.stackTraces = false) (hC : Cx p s m args meth c own cc nL ret g B0) (hW : WL g B0 x0 c0 c1 c2 c3 c4 s H locs σ pd o0 o1 o2 o3 o4) (hls : ls.size = nL)
    (hM : ∀ (ad : Ad) (pl : Pl) (sc : Sg), MM l g B0 y (wsM y bytes 1 (some .int)) rm [.ref (ad 0 0)] ad (fC g ad σ pd pl sc (hL g o0 o1 o2 o3 o4)) (dI r ad (fC g ad σ pd pl sc (hL g o0 o1 o2 o3 o4))) noX 0 0)
    (cw : CallW R s args own RX6 index y bytes 1 (some .int) (wsM y bytes 1 (some .int)) rm 0 0 0) (hst : st0 = .ref x0 :: rest) (hr : (rest.map fun v => v.category).sum ≤ 8) (hdg : decode cc pc = .ok (.invokevirtual index, 3)) (hf : cells ≤ R.cells ∧ slots ≤ R.slots)
    (kont : ∀ (H1 : Heap) (locs1 : List Loc), WL g B0 x0 c0 c1 c2 c3 c4 s H1 locs1 σ pd o0 o1 o2 o3 o4 → W p l e R s m args below meth c H1 locs1 cells slots Q (F0 m (pc + 3) ls (.int r :: rest))) : W p l e R s m args below meth c H locs cells slots Q (F0 m pc ls st0) := by
  obtain ⟨ad, pl, sc, hI, h3, rfl, rfl, rfl, rfl, rfl, rfl⟩ := hW
  exact c_Vi hl9 hC hI hls (hM ad pl sc) cw fC_0 rfl rfl rfl hst hr hdg hf (fun H1 locs1 hI1 => kont H1 locs1 ⟨ad, pl, sc, hI1, h3, rfl, rfl, rfl, rfl, rfl, rfl⟩)
theorem wl_get0 (hC : Cx p s m args meth c own cc nL ret g B0) {fn : Nat → Int32} (hW : WL g B0 x0 c0 c1 c2 c3 c4 s H locs σ pd (some fn) o1 o2 o3 o4) {i v : Int32} {j : Nat} (hi : i = nI j) (hj : j < 48) (hv : fn j = v) (hdg : decode cc pc = .ok (.iaload, 1)) (kont : W p l e R s m args below meth c H locs cells slots Q (F0 m (pc + 1) ls (.int v :: rest))) : W p l e R s m args below meth c H locs cells slots Q (F0 m pc ls (.int i :: .ref c0 :: rest)) := by
  subst hv
  obtain ⟨ad, pl, sc, hI, h3, rfl, rfl, rfl, rfl, rfl, rfl⟩ := hW
  exact r_iald (kk := 50) (ii := 0) (n := 48) (fn := fn) hC hI rfl (j := j) hi hj (by decide) hdg kont
theorem wl_put0 (hC : Cx p s m args meth c own cc nL ret g B0) {fn : Nat → Int32} (hW : WL g B0 x0 c0 c1 c2 c3 c4 s H locs σ pd (some fn) o1 o2 o3 o4) {i v : Int32} {j : Nat} (hi : i = nI j) (hj : j < 48) (hdg : decode cc pc = .ok (.iastore, 1)) (kont : ∀ (H1 : Heap) (locs1 : List Loc), WL g B0 x0 c0 c1 c2 c3 c4 s H1 locs1 σ pd (some (upd fn j v)) o1 o2 o3 o4 → W p l e R s m args below meth c H1 locs1 cells slots Q (F0 m (pc + 1) ls rest)) : W p l e R s m args below meth c H locs cells slots Q (F0 m pc ls (.int v :: .int i :: .ref c0 :: rest)) := by
  obtain ⟨ad, pl, sc, hI, h3, rfl, rfl, rfl, rfl, rfl, rfl⟩ := hW
  refine r_iast (kk := 50) (ii := 0) (n := 48) (fn := fn) hC hI rfl (j := j) hi hj (by decide) hdg (fun H1 locs1 hI1 => ?_)
  exact kont H1 locs1 ⟨ad, pl, sc, hI1.cast (by rw [fC_up (K := 50) (by decide), hL_0]), h3, rfl, rfl, rfl, rfl, rfl, rfl⟩
theorem WL.drop0 (hW : WL g B0 x0 c0 c1 c2 c3 c4 s H locs σ pd o0 o1 o2 o3 o4) : WL g B0 x0 c0 c1 c2 c3 c4 s H locs σ pd none o1 o2 o3 o4 := by
  obtain ⟨ad, pl, sc, hI, h3⟩ := hW
  exact ⟨ad, pl, sc, hI.sub (fun k i e he => ⟨fC_sub (fun _ _ _ z => hL_sub0 z) k i e he, rfl⟩), h3⟩
theorem wl_new0 (hC : Cx p s m args meth c own cc nL ret g B0) (hW : WL g B0 x0 c0 c1 c2 c3 c4 s H locs σ pd none o1 o2 o3 o4) {x : Int32} (hx : x = 48) (hc : cells + 1 ≤ R.cells) (hs : slots + 48 ≤ R.slots) (hdg : decode cc pc = .ok (.newarray .int, 2)) (kont : ∀ (q : Nat) (H1 : Heap), WL g B0 x0 q c1 c2 c3 c4 s H1 locs σ pd (some (fun _ => 0)) o1 o2 o3 o4 → W p l e R s m args below meth c H1 locs (cells + 1) (slots + 48) Q (F0 m (pc + 2) ls (.ref q :: rest))) : W p l e R s m args below meth c H locs cells slots Q (F0 m pc ls (.int x :: rest)) := by
  subst hx
  obtain ⟨ad, pl, sc, hI, h3, rfl, rfl, rfl, rfl, rfl, rfl⟩ := hW
  refine r_newa hC hI 50 0 rfl (atype := .int) wd_ac_int 0 rfl (hC.2.2.2.1.2 0 _ rfl).2 (a0 := (48, .inl (fun _ => 0))) rfl (by decide) (N' := 48) (by decide) (by decide) hc hs hdg (fun q H1 hI1 => ?_)
  refine kont q H1 ⟨adup ad 50 0 q, pl, sc, hI1.cast ?_, h3, ?_⟩
  · rw [fC_up (K := 50) (by decide), hL_0, fC_adE (a := adup ad 50 0 q) (ad := ad) (fun k i hk => adup_n _ _ (by omega))]
  · exact ⟨adup_n _ _ (by omega), adup_s _ _ _ _, adup_n _ _ (by omega), adup_n _ _ (by omega), adup_n _ _ (by omega), adup_n _ _ (by omega)⟩
theorem wl_get1 (hC : Cx p s m args meth c own cc nL ret g B0) {fn : Nat → Int32} (hW : WL g B0 x0 c0 c1 c2 c3 c4 s H locs σ pd o0 (some fn) o2 o3 o4) {i v : Int32} {j : Nat} (hi : i = nI j) (hj : j < 24) (hv : fn j = v) (hdg : decode cc pc = .ok (.iaload, 1)) (kont : W p l e R s m args below meth c H locs cells slots Q (F0 m (pc + 1) ls (.int v :: rest))) : W p l e R s m args below meth c H locs cells slots Q (F0 m pc ls (.int i :: .ref c1 :: rest)) := by
  subst hv
  obtain ⟨ad, pl, sc, hI, h3, rfl, rfl, rfl, rfl, rfl, rfl⟩ := hW
  exact r_iald (kk := 51) (ii := 0) (n := 24) (fn := fn) hC hI rfl (j := j) hi hj (by decide) hdg kont
theorem wl_put1 (hC : Cx p s m args meth c own cc nL ret g B0) {fn : Nat → Int32} (hW : WL g B0 x0 c0 c1 c2 c3 c4 s H locs σ pd o0 (some fn) o2 o3 o4) {i v : Int32} {j : Nat} (hi : i = nI j) (hj : j < 24) (hdg : decode cc pc = .ok (.iastore, 1)) (kont : ∀ (H1 : Heap) (locs1 : List Loc), WL g B0 x0 c0 c1 c2 c3 c4 s H1 locs1 σ pd o0 (some (upd fn j v)) o2 o3 o4 → W p l e R s m args below meth c H1 locs1 cells slots Q (F0 m (pc + 1) ls rest)) : W p l e R s m args below meth c H locs cells slots Q (F0 m pc ls (.int v :: .int i :: .ref c1 :: rest)) := by
  obtain ⟨ad, pl, sc, hI, h3, rfl, rfl, rfl, rfl, rfl, rfl⟩ := hW
  refine r_iast (kk := 51) (ii := 0) (n := 24) (fn := fn) hC hI rfl (j := j) hi hj (by decide) hdg (fun H1 locs1 hI1 => ?_)
  exact kont H1 locs1 ⟨ad, pl, sc, hI1.cast (by rw [fC_up (K := 51) (by decide), hL_1]), h3, rfl, rfl, rfl, rfl, rfl, rfl⟩
theorem WL.drop1 (hW : WL g B0 x0 c0 c1 c2 c3 c4 s H locs σ pd o0 o1 o2 o3 o4) : WL g B0 x0 c0 c1 c2 c3 c4 s H locs σ pd o0 none o2 o3 o4 := by
  obtain ⟨ad, pl, sc, hI, h3⟩ := hW
  exact ⟨ad, pl, sc, hI.sub (fun k i e he => ⟨fC_sub (fun _ _ _ z => hL_sub1 z) k i e he, rfl⟩), h3⟩
theorem wl_new1 (hC : Cx p s m args meth c own cc nL ret g B0) (hW : WL g B0 x0 c0 c1 c2 c3 c4 s H locs σ pd o0 none o2 o3 o4) {x : Int32} (hx : x = 24) (hc : cells + 1 ≤ R.cells) (hs : slots + 24 ≤ R.slots) (hdg : decode cc pc = .ok (.newarray .int, 2)) (kont : ∀ (q : Nat) (H1 : Heap), WL g B0 x0 c0 q c2 c3 c4 s H1 locs σ pd o0 (some (fun _ => 0)) o2 o3 o4 → W p l e R s m args below meth c H1 locs (cells + 1) (slots + 24) Q (F0 m (pc + 2) ls (.ref q :: rest))) : W p l e R s m args below meth c H locs cells slots Q (F0 m pc ls (.int x :: rest)) := by
  subst hx
  obtain ⟨ad, pl, sc, hI, h3, rfl, rfl, rfl, rfl, rfl, rfl⟩ := hW
  refine r_newa hC hI 51 0 rfl (atype := .int) wd_ac_int 0 rfl (hC.2.2.2.1.2 0 _ rfl).2 (a0 := (24, .inl (fun _ => 0))) rfl (by decide) (N' := 24) (by decide) (by decide) hc hs hdg (fun q H1 hI1 => ?_)
  refine kont q H1 ⟨adup ad 51 0 q, pl, sc, hI1.cast ?_, h3, ?_⟩
  · rw [fC_up (K := 51) (by decide), hL_1, fC_adE (a := adup ad 51 0 q) (ad := ad) (fun k i hk => adup_n _ _ (by omega))]
  · exact ⟨adup_n _ _ (by omega), adup_n _ _ (by omega), adup_s _ _ _ _, adup_n _ _ (by omega), adup_n _ _ (by omega), adup_n _ _ (by omega)⟩
theorem wl_get2 (hC : Cx p s m args meth c own cc nL ret g B0) {fn : Nat → Int32} (hW : WL g B0 x0 c0 c1 c2 c3 c4 s H locs σ pd o0 o1 (some fn) o3 o4) {i v : Int32} {j : Nat} (hi : i = nI j) (hj : j < 60) (hv : fn j = v) (hdg : decode cc pc = .ok (.iaload, 1)) (kont : W p l e R s m args below meth c H locs cells slots Q (F0 m (pc + 1) ls (.int v :: rest))) : W p l e R s m args below meth c H locs cells slots Q (F0 m pc ls (.int i :: .ref c2 :: rest)) := by
  subst hv
  obtain ⟨ad, pl, sc, hI, h3, rfl, rfl, rfl, rfl, rfl, rfl⟩ := hW
  exact r_iald (kk := 52) (ii := 0) (n := 60) (fn := fn) hC hI rfl (j := j) hi hj (by decide) hdg kont
theorem wl_put2 (hC : Cx p s m args meth c own cc nL ret g B0) {fn : Nat → Int32} (hW : WL g B0 x0 c0 c1 c2 c3 c4 s H locs σ pd o0 o1 (some fn) o3 o4) {i v : Int32} {j : Nat} (hi : i = nI j) (hj : j < 60) (hdg : decode cc pc = .ok (.iastore, 1)) (kont : ∀ (H1 : Heap) (locs1 : List Loc), WL g B0 x0 c0 c1 c2 c3 c4 s H1 locs1 σ pd o0 o1 (some (upd fn j v)) o3 o4 → W p l e R s m args below meth c H1 locs1 cells slots Q (F0 m (pc + 1) ls rest)) : W p l e R s m args below meth c H locs cells slots Q (F0 m pc ls (.int v :: .int i :: .ref c2 :: rest)) := by
  obtain ⟨ad, pl, sc, hI, h3, rfl, rfl, rfl, rfl, rfl, rfl⟩ := hW
  refine r_iast (kk := 52) (ii := 0) (n := 60) (fn := fn) hC hI rfl (j := j) hi hj (by decide) hdg (fun H1 locs1 hI1 => ?_)
  exact kont H1 locs1 ⟨ad, pl, sc, hI1.cast (by rw [fC_up (K := 52) (by decide), hL_2]), h3, rfl, rfl, rfl, rfl, rfl, rfl⟩
theorem WL.drop2 (hW : WL g B0 x0 c0 c1 c2 c3 c4 s H locs σ pd o0 o1 o2 o3 o4) : WL g B0 x0 c0 c1 c2 c3 c4 s H locs σ pd o0 o1 none o3 o4 := by
  obtain ⟨ad, pl, sc, hI, h3⟩ := hW
  exact ⟨ad, pl, sc, hI.sub (fun k i e he => ⟨fC_sub (fun _ _ _ z => hL_sub2 z) k i e he, rfl⟩), h3⟩
theorem wl_new2 (hC : Cx p s m args meth c own cc nL ret g B0) (hW : WL g B0 x0 c0 c1 c2 c3 c4 s H locs σ pd o0 o1 none o3 o4) {x : Int32} (hx : x = 60) (hc : cells + 1 ≤ R.cells) (hs : slots + 60 ≤ R.slots) (hdg : decode cc pc = .ok (.newarray .int, 2)) (kont : ∀ (q : Nat) (H1 : Heap), WL g B0 x0 c0 c1 q c3 c4 s H1 locs σ pd o0 o1 (some (fun _ => 0)) o3 o4 → W p l e R s m args below meth c H1 locs (cells + 1) (slots + 60) Q (F0 m (pc + 2) ls (.ref q :: rest))) : W p l e R s m args below meth c H locs cells slots Q (F0 m pc ls (.int x :: rest)) := by
  subst hx
  obtain ⟨ad, pl, sc, hI, h3, rfl, rfl, rfl, rfl, rfl, rfl⟩ := hW
  refine r_newa hC hI 52 0 rfl (atype := .int) wd_ac_int 0 rfl (hC.2.2.2.1.2 0 _ rfl).2 (a0 := (60, .inl (fun _ => 0))) rfl (by decide) (N' := 60) (by decide) (by decide) hc hs hdg (fun q H1 hI1 => ?_)
  refine kont q H1 ⟨adup ad 52 0 q, pl, sc, hI1.cast ?_, h3, ?_⟩
  · rw [fC_up (K := 52) (by decide), hL_2, fC_adE (a := adup ad 52 0 q) (ad := ad) (fun k i hk => adup_n _ _ (by omega))]
  · exact ⟨adup_n _ _ (by omega), adup_n _ _ (by omega), adup_n _ _ (by omega), adup_s _ _ _ _, adup_n _ _ (by omega), adup_n _ _ (by omega)⟩
theorem wl_get3 (hC : Cx p s m args meth c own cc nL ret g B0) {fn : Nat → Int32} (hW : WL g B0 x0 c0 c1 c2 c3 c4 s H locs σ pd o0 o1 o2 (some fn) o4) {i v : Int32} {j : Nat} (hi : i = nI j) (hj : j < 60) (hv : fn j = v) (hdg : decode cc pc = .ok (.iaload, 1)) (kont : W p l e R s m args below meth c H locs cells slots Q (F0 m (pc + 1) ls (.int v :: rest))) : W p l e R s m args below meth c H locs cells slots Q (F0 m pc ls (.int i :: .ref c3 :: rest)) := by
  subst hv
  obtain ⟨ad, pl, sc, hI, h3, rfl, rfl, rfl, rfl, rfl, rfl⟩ := hW
  exact r_iald (kk := 53) (ii := 0) (n := 60) (fn := fn) hC hI rfl (j := j) hi hj (by decide) hdg kont
theorem wl_put3 (hC : Cx p s m args meth c own cc nL ret g B0) {fn : Nat → Int32} (hW : WL g B0 x0 c0 c1 c2 c3 c4 s H locs σ pd o0 o1 o2 (some fn) o4) {i v : Int32} {j : Nat} (hi : i = nI j) (hj : j < 60) (hdg : decode cc pc = .ok (.iastore, 1)) (kont : ∀ (H1 : Heap) (locs1 : List Loc), WL g B0 x0 c0 c1 c2 c3 c4 s H1 locs1 σ pd o0 o1 o2 (some (upd fn j v)) o4 → W p l e R s m args below meth c H1 locs1 cells slots Q (F0 m (pc + 1) ls rest)) : W p l e R s m args below meth c H locs cells slots Q (F0 m pc ls (.int v :: .int i :: .ref c3 :: rest)) := by
  obtain ⟨ad, pl, sc, hI, h3, rfl, rfl, rfl, rfl, rfl, rfl⟩ := hW
  refine r_iast (kk := 53) (ii := 0) (n := 60) (fn := fn) hC hI rfl (j := j) hi hj (by decide) hdg (fun H1 locs1 hI1 => ?_)
  exact kont H1 locs1 ⟨ad, pl, sc, hI1.cast (by rw [fC_up (K := 53) (by decide), hL_3]), h3, rfl, rfl, rfl, rfl, rfl, rfl⟩
theorem WL.drop3 (hW : WL g B0 x0 c0 c1 c2 c3 c4 s H locs σ pd o0 o1 o2 o3 o4) : WL g B0 x0 c0 c1 c2 c3 c4 s H locs σ pd o0 o1 o2 none o4 := by
  obtain ⟨ad, pl, sc, hI, h3⟩ := hW
  exact ⟨ad, pl, sc, hI.sub (fun k i e he => ⟨fC_sub (fun _ _ _ z => hL_sub3 z) k i e he, rfl⟩), h3⟩
theorem wl_new3 (hC : Cx p s m args meth c own cc nL ret g B0) (hW : WL g B0 x0 c0 c1 c2 c3 c4 s H locs σ pd o0 o1 o2 none o4) {x : Int32} (hx : x = 60) (hc : cells + 1 ≤ R.cells) (hs : slots + 60 ≤ R.slots) (hdg : decode cc pc = .ok (.newarray .int, 2)) (kont : ∀ (q : Nat) (H1 : Heap), WL g B0 x0 c0 c1 c2 q c4 s H1 locs σ pd o0 o1 o2 (some (fun _ => 0)) o4 → W p l e R s m args below meth c H1 locs (cells + 1) (slots + 60) Q (F0 m (pc + 2) ls (.ref q :: rest))) : W p l e R s m args below meth c H locs cells slots Q (F0 m pc ls (.int x :: rest)) := by
  subst hx
  obtain ⟨ad, pl, sc, hI, h3, rfl, rfl, rfl, rfl, rfl, rfl⟩ := hW
  refine r_newa hC hI 53 0 rfl (atype := .int) wd_ac_int 0 rfl (hC.2.2.2.1.2 0 _ rfl).2 (a0 := (60, .inl (fun _ => 0))) rfl (by decide) (N' := 60) (by decide) (by decide) hc hs hdg (fun q H1 hI1 => ?_)
  refine kont q H1 ⟨adup ad 53 0 q, pl, sc, hI1.cast ?_, h3, ?_⟩
  · rw [fC_up (K := 53) (by decide), hL_3, fC_adE (a := adup ad 53 0 q) (ad := ad) (fun k i hk => adup_n _ _ (by omega))]
  · exact ⟨adup_n _ _ (by omega), adup_n _ _ (by omega), adup_n _ _ (by omega), adup_n _ _ (by omega), adup_s _ _ _ _, adup_n _ _ (by omega)⟩
theorem wl_get4 (hC : Cx p s m args meth c own cc nL ret g B0) {fn : Nat → Int32} (hW : WL g B0 x0 c0 c1 c2 c3 c4 s H locs σ pd o0 o1 o2 o3 (some fn)) {i v : Int32} {j : Nat} (hi : i = nI j) (hj : j < 4) (hv : fn j = v) (hdg : decode cc pc = .ok (.iaload, 1)) (kont : W p l e R s m args below meth c H locs cells slots Q (F0 m (pc + 1) ls (.int v :: rest))) : W p l e R s m args below meth c H locs cells slots Q (F0 m pc ls (.int i :: .ref c4 :: rest)) := by
  subst hv
  obtain ⟨ad, pl, sc, hI, h3, rfl, rfl, rfl, rfl, rfl, rfl⟩ := hW
  exact r_iald (kk := 54) (ii := 0) (n := 4) (fn := fn) hC hI rfl (j := j) hi hj (by decide) hdg kont
theorem wl_put4 (hC : Cx p s m args meth c own cc nL ret g B0) {fn : Nat → Int32} (hW : WL g B0 x0 c0 c1 c2 c3 c4 s H locs σ pd o0 o1 o2 o3 (some fn)) {i v : Int32} {j : Nat} (hi : i = nI j) (hj : j < 4) (hdg : decode cc pc = .ok (.iastore, 1)) (kont : ∀ (H1 : Heap) (locs1 : List Loc), WL g B0 x0 c0 c1 c2 c3 c4 s H1 locs1 σ pd o0 o1 o2 o3 (some (upd fn j v)) → W p l e R s m args below meth c H1 locs1 cells slots Q (F0 m (pc + 1) ls rest)) : W p l e R s m args below meth c H locs cells slots Q (F0 m pc ls (.int v :: .int i :: .ref c4 :: rest)) := by
  obtain ⟨ad, pl, sc, hI, h3, rfl, rfl, rfl, rfl, rfl, rfl⟩ := hW
  refine r_iast (kk := 54) (ii := 0) (n := 4) (fn := fn) hC hI rfl (j := j) hi hj (by decide) hdg (fun H1 locs1 hI1 => ?_)
  exact kont H1 locs1 ⟨ad, pl, sc, hI1.cast (by rw [fC_up (K := 54) (by decide), hL_4]), h3, rfl, rfl, rfl, rfl, rfl, rfl⟩
theorem WL.drop4 (hW : WL g B0 x0 c0 c1 c2 c3 c4 s H locs σ pd o0 o1 o2 o3 o4) : WL g B0 x0 c0 c1 c2 c3 c4 s H locs σ pd o0 o1 o2 o3 none := by
  obtain ⟨ad, pl, sc, hI, h3⟩ := hW
  exact ⟨ad, pl, sc, hI.sub (fun k i e he => ⟨fC_sub (fun _ _ _ z => hL_sub4 z) k i e he, rfl⟩), h3⟩
theorem wl_new4 (hC : Cx p s m args meth c own cc nL ret g B0) (hW : WL g B0 x0 c0 c1 c2 c3 c4 s H locs σ pd o0 o1 o2 o3 none) {x : Int32} (hx : x = 4) (hc : cells + 1 ≤ R.cells) (hs : slots + 4 ≤ R.slots) (hdg : decode cc pc = .ok (.newarray .int, 2)) (kont : ∀ (q : Nat) (H1 : Heap), WL g B0 x0 c0 c1 c2 c3 q s H1 locs σ pd o0 o1 o2 o3 (some (fun _ => 0)) → W p l e R s m args below meth c H1 locs (cells + 1) (slots + 4) Q (F0 m (pc + 2) ls (.ref q :: rest))) : W p l e R s m args below meth c H locs cells slots Q (F0 m pc ls (.int x :: rest)) := by
  subst hx
  obtain ⟨ad, pl, sc, hI, h3, rfl, rfl, rfl, rfl, rfl, rfl⟩ := hW
  refine r_newa hC hI 54 0 rfl (atype := .int) wd_ac_int 0 rfl (hC.2.2.2.1.2 0 _ rfl).2 (a0 := (4, .inl (fun _ => 0))) rfl (by decide) (N' := 4) (by decide) (by decide) hc hs hdg (fun q H1 hI1 => ?_)
  refine kont q H1 ⟨adup ad 54 0 q, pl, sc, hI1.cast ?_, h3, ?_⟩
  · rw [fC_up (K := 54) (by decide), hL_4, fC_adE (a := adup ad 54 0 q) (ad := ad) (fun k i hk => adup_n _ _ (by omega))]
  · exact ⟨adup_n _ _ (by omega), adup_n _ _ (by omega), adup_n _ _ (by omega), adup_n _ _ (by omega), adup_n _ _ (by omega), adup_s _ _ _ _⟩
end WLS
