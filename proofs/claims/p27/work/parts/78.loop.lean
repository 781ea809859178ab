/-! THE LAW'S LOOP -/
theorem WL.S {s : State} {H : Heap} {locs : List Loc} {g : Gg} {B0 x0 c0 c1 c2 c3 c4 : Nat} {σ : Sg} {pd : Int64} {o0 o1 o2 o3 o4 : Option (Nat → Int32)} (h : WL g B0 x0 c0 c1 c2 c3 c4 s H locs σ pd o0 o1 o2 o3 o4) : va_S (fun q => B0 ≤ q) s.heap H locs := by
  obtain ⟨ad, pl, sc, hI, -⟩ := h
  exact hI.2.2
set_option maxHeartbeats 8000000 in
set_option maxRecDepth 100000 in
theorem law_loop {p : Program} {l : Launch} {e : Env} {s : State} {m : MethodId} {args : Array Value} {below : List Frame} {meth : Method} {c : Code} {Q : State → Prop} {g : Gg} {B0 x0 c0 c1 c2 b L : Nat} {xs : Nat → Int32} {ret : Option FieldType} {P R9 : Nat} {fp fr : Nat → Int32} (hl9 : l.stackTraces = false) (hC : Cx p s m args meth c RL cL_law 21 ret g B0) (hX : va_X b L xs s s.heap) (hbB : b < B0) (hL : L ≤ 260) (hP0 : 0 < P) (hP8 : P ≤ 8) (hR0 : 0 < R9) (hR5 : R9 ≤ 5)
    (K : ∀ (H : Heap) (locs : List Loc) (ls : Array Slot), va_S (fun q => B0 ≤ q) s.heap H locs → W p l e room_1 s m args below meth c H locs 632096 7205337 Q (F0 m 814 ls [])) :
    ∀ (n it now : Nat) (σ : Sg) (pd : Int64) (fa : Nat → Int32) (c3 c4 : Nat), it ≤ 30 → 31 ≤ it + n → now ≤ 10 * it → Lw σ pd fp fr P R9 it now → Ag σ fa → ∀ (H : Heap) (locs : List Loc), WL g B0 x0 c0 c1 c2 c3 c4 s H locs σ pd (some fp) (some fr) (some fa) none none → ∀ (ls : Array Slot), lv_has ls 21 [(8, .int (nI it)), (7, .int (nI now)), (6, .ref c2), (5, .ref c1), (4, .ref c0), (3, .int (nI R9)), (2, .int (nI P)), (1, .ref x0), (0, .ref b)] → W p l e room_1 s m args below meth c H locs (200 + 4200 * it) (2000 + 25200 * it) Q (F0 m 119 ls []) := by
  have hx := hC.1.1
  have hb := hC.1.2.1
  have hts := hC.1.2.2.2.2
  intro n
  induction n with
  | zero =>
    intro it now σ pd fa c3 c4 hit hfu
    exact absurd hfu (by omega)
  | succ n ih =>
    intro it now σ pd fa c3 c4 hit hfu hnow hLw hAg H locs hW ls hl
    refine lv_iload hx hb dL_law_119 (lv_at hl 0 rfl) ?_
    refine lv_bipush (v := 30) hx hb dL_law_121 (by decide) ?_
    refine lv_icmp_ge (tgt := 814) hx hb dL_law_123 (by decide) (fun c123 => ?_) (fun c123 => ?_)
    · refine W.widen (k := 632096) (n := 7205337) (by omega) (by omega) ?_
      exact K H locs ls hW.S
    have hi30 : it < 30 := ge_F (n := 30) rfl (by decide) (by omega) c123
    refine blk_a (N := it) hl9 hC hX hbB hL hP0 hP8 hR0 hR5 (by omega) (by omega) hi30 hLw hAg hW hl (fun σ1 a x H locs ls hLw hAg ha hW hl => ?_)
    refine blk_b hl9 hC hX hbB hL hP0 hP8 hR0 hR5 (by omega) (by omega) ha hLw hAg hW hl (fun σ2 rr H locs ls hLw hAg hrr hW hl => ?_)
    refine blk_c hl9 hC hX hbB hL hP0 hP8 hR0 hR5 (by omega) (by omega) hrr hLw hAg hW hl (fun σ3 H locs ls hLw hAg hW hl => ?_)
    refine blk_d hl9 hC hX hbB hL hP0 hP8 hR0 hR5 (by omega) (by omega) ha hLw hAg hW hl (fun σ4 H locs ls hLw hAg hW hl => ?_)
    refine blk_e hl9 hC hX hbB hL hP0 hP8 hR0 hR5 (by omega) (by omega) hLw hAg hW hl (fun σ5 H locs ls hLw hAg hW hl => ?_)
    refine blk_f (N := it) hl9 hC hX hbB hL hP0 hP8 hR0 hR5 (by omega) (by omega) hW hl (fun hw q H locs ls hw1 hw2 hW hl => ?_)
    obtain ⟨pl0, hok3⟩ := hW.ok
    have hok := hok3.1.1
    have hF := hok3.1.2.2.2
    have hnt := hLw.2.2.1
    refine were_loop (N := it) hl9 hC hX hbB hL hP0 hP8 hR0 hR5 (by omega) (by omega) hok (by omega) (fun fw H locs ls hfw hW hl => ?_) 61 0 (fun _ => 0) (Nat.zero_le _) (by omega) (fun q hq => absurd hq (Nat.not_lt_zero q)) H locs hW ls hl
    refine blk_h hl9 hC hX hbB hL hP0 hP8 hR0 hR5 (by omega) (by omega) hw1 hw2 (by omega) hLw hW hl (fun τ pd' H locs ls hLw' hTK hW hl => ?_)
    obtain ⟨t17, t18, t19, tA, tr, t0⟩ := hTK
    have ent : nt τ = nt σ5 := by unfold nt; rw [t17]
    refine ages_loop hl9 hC hX hbB hL hP0 hP8 hR0 hR5 (by omega) (by omega) (by omega) hw2 (fun q hq => by rw [t19]; exact hfw q (by omega)) hLw' (fun q hq => ?_) (fun q hq1 hq2 => ?_) (fun fq H locs ls hAq hW hl => ?_) 61 0 fa (Nat.zero_le _) (by omega) (fun q hq => absurd hq (Nat.not_lt_zero q)) (fun q _ => rfl) H locs hW ls hl
    · obtain ⟨a1, a2⟩ := tA q (by omega)
      rw [hAg q (by omega), t19]
      refine ⟨tr q (by omega), a1, fun hne => ?_⟩
      have a3 := a2 hne
      rw [if_neg (Nat.not_lt_zero _)] at a3
      exact a3
    · rw [hAg q hq2, t0 q (by omega)]
      exact hF.1 q (by omega)
    · refine blk_n (N := it + 1) hl9 hC hX hbB hL hP0 hP8 hR0 hR5 (by omega) (by omega) (by omega) hLw' hW hl (fun H locs ls hW hl => ?_)
      refine lv_iinc (v := nI (it + 1)) (lv' := [(8, .int (nI (it + 1))), (7, .int (nI (now + hw))), (6, .ref c2), (5, .ref c1), (4, .ref c0), (3, .int (nI R9)), (2, .int (nI P)), (1, .ref x0), (0, .ref b)]) hx hb dL_law_808 hl (k := 0) rfl (nI_1 _) (by decide) rfl (fun ls hl => ?_)
      refine lv_goto (tgt := 119) hx hb dL_law_811 (by decide) ?_
      refine W.widen (k := 200 + 4200 * (it + 1)) (n := 2000 + 25200 * (it + 1)) (by omega) (by omega) ?_
      exact ih (it + 1) (now + hw) τ pd' fq q c4 (by omega) (by omega) (by omega) hLw' hAq H locs hW ls hl
