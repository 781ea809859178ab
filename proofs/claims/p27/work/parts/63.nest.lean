/-! THE CLASS: the call of its air's private constructor goes by the nest -/
section NEST
variable {p : Program} {l : Launch} {e : Env} {R : Room} {s : State} {m : MethodId} {args : Array Value} {below : List Frame} {meth : Method} {c : Code} {H : Heap} {locs : List Loc} {cells slots : Nat} {Q : State → Prop}
variable {g : Gg} {B0 : Nat} {ad : Ad} {f : Wd} {own : String} {cc : ByteArray} {nL : Nat} {ret : Option FieldType} {pc : Nat} {ls : Array Slot} {rest st0 : List Value}
theorem r_callIN {mc ms n index : Nat} {host : String} {y : MethodName} {bytes : ByteArray} {maxL : Nat} {rm : Room} {As : List Value} {Rr : Option Value → Ad → Wd → Prop} {b : Nat} (hC : Cx p s m args meth c own cc nL ret g B0) (hI : WI g ad B0 f s H locs) (hls : ls.size = nL) (hM : MK l g B0 y (wsM y bytes maxL none) rm (.ref b :: As) ad f Rr mc ms)
    (cw : va_CN R s args own index y host bytes maxL none (wsM y bytes maxL none) rm mc ms n ∧ y.name = "<init>" ∧ (Cond.instanceMethod y).before args s = true) (hn : As.length = n) (hst : st0 = As.reverse ++ .ref b :: rest) (hW : (rest.map fun v => v.category).sum ≤ 8) (hdg : decode cc pc = .ok (.invokespecial index, 3)) (hf : cells + mc ≤ R.cells ∧ slots + ms ≤ R.slots)
    (kont : ∀ (v : Option Value) (ad' : Ad) (f' : Wd) (H1 : Heap) (locs1 : List Loc), Rr v ad' f' → WI g ad' B0 f' s H1 locs1 → W p l e R s m args below meth c H1 locs1 (cells + mc) (slots + ms) Q (F0 m (pc + 3) ls (v.toList ++ rest))) : W p l e R s m args below meth c H locs cells slots Q (F0 m pc ls st0) := by
  subst hst
  refine rn_K hI (va_runIN (As := As) (rest := rest) hC.1 (hM hI.2.1) cw ⟨PcI_blind, fun U hU hW => ⟨rfl, by rw [hU]; exact hI.1, hC.2.2.2.go hI.2.2 hU hW⟩⟩ rfl hn hls rfl (lv_room hW) hdg hf) kont
theorem cw_air (hC : Cx p s m args meth c own cc nL ret g B0) {rm : Room} {mc ms : Nat} (hrc : rm.cells = mc) (hrs : rm.slots = ms) (hR : rm.frames + 1 ≤ R.frames ∧ 8 + (1 + 11) + rm.locals ≤ R.locals) : va_CN R s args RX6 9 yX0_init RX6 cX0_init 1 none (wsM yX0_init cX0_init 1 none) rm mc ms 0 ∧ yX0_init.name = "<init>" ∧ (Cond.instanceMethod yX0_init).before args s = true := by
  have hts := hC.1.2.2.2.2
  have hd : (parseMethodDescriptor yX0_init.desc).map (fun d => d.parameters.length) = some 0 := by decide +kernel
  refine ⟨⟨⟨hrc, hrs, hR.1, hR.2, pay_in hts (goodI wd_co_yX0_init), List.mem_cons_self⟩, hts _ wd_co_yX0_init, hts _ wd_in_RX0, by decide +kernel, fun sig h => ?_, ?_⟩, rfl, hts _ wd_im_yX0_init⟩
  · rw [h] at hd
    exact (Option.some.inj hd).symm
  · exact va_Nw.use rfl hC.2.2.2.2.2.1.2.2.1
end NEST
