section
-- ===== PART A: goes FIRST, ahead of the names: the tables' words, and 'selects' of the private methods out of them =====
/-- a private method of a class that the tables say can be made, by its rows of tables_1 -/
def lw_okq (q : MethodName × Nat) : Prop := (q.1.cls ≠ "java/lang/invoke/MethodHandle" ∧ q.1.cls ≠ "java/lang/invoke/VarHandle") ∧ Cond.instantiable q.1.cls q.2 ∈ tables_1 ∧ Cond.privateMethod q.1 ∈ tables_1 ∧ Cond.instanceMethod q.1 ∈ tables_1
theorem lw_p0 : lw_okq (⟨"ColdStore", "countOf", "(I)I"⟩, 11) := ⟨⟨by decide +kernel, by decide +kernel⟩, List.mem_of_getElem? (i := 18) (by decide +kernel), List.mem_of_getElem? (i := 136) (by decide +kernel), List.mem_of_getElem? (i := 137) (by decide +kernel)⟩
theorem lw_p1 : lw_okq (⟨"ColdStore", "palletsHere", "()I"⟩, 11) := ⟨⟨by decide +kernel, by decide +kernel⟩, List.mem_of_getElem? (i := 18) (by decide +kernel), List.mem_of_getElem? (i := 140) (by decide +kernel), List.mem_of_getElem? (i := 141) (by decide +kernel)⟩
theorem lw_p2 : lw_okq (⟨"ColdStore", "mixRooms", "(J)J"⟩, 11) := ⟨⟨by decide +kernel, by decide +kernel⟩, List.mem_of_getElem? (i := 18) (by decide +kernel), List.mem_of_getElem? (i := 144) (by decide +kernel), List.mem_of_getElem? (i := 145) (by decide +kernel)⟩
theorem lw_p3 : lw_okq (⟨"ColdStore", "mixPallets", "(J)J"⟩, 11) := ⟨⟨by decide +kernel, by decide +kernel⟩, List.mem_of_getElem? (i := 18) (by decide +kernel), List.mem_of_getElem? (i := 156) (by decide +kernel), List.mem_of_getElem? (i := 157) (by decide +kernel)⟩
theorem lw_p4 : lw_okq (⟨"java/lang/Throwable", "fillInStackTrace", "(I)Ljava/lang/Throwable;"⟩, 6) := ⟨⟨by decide +kernel, by decide +kernel⟩, List.mem_of_getElem? (i := 213) (by decide +kernel), List.mem_of_getElem? (i := 211) (by decide +kernel), List.mem_of_getElem? (i := 212) (by decide +kernel)⟩
theorem lw_p5 : lw_okq (⟨"ColdStore", "existingRoom", "(I)LColdStore$Room;"⟩, 11) := ⟨⟨by decide +kernel, by decide +kernel⟩, List.mem_of_getElem? (i := 18) (by decide +kernel), List.mem_of_getElem? (i := 410) (by decide +kernel), List.mem_of_getElem? (i := 411) (by decide +kernel)⟩
theorem lw_p6 : lw_okq (⟨"ColdStore", "existingProduct", "(I)LColdStore$Product;"⟩, 11) := ⟨⟨by decide +kernel, by decide +kernel⟩, List.mem_of_getElem? (i := 18) (by decide +kernel), List.mem_of_getElem? (i := 460) (by decide +kernel), List.mem_of_getElem? (i := 461) (by decide +kernel)⟩
theorem lw_p7 : lw_okq (⟨"ColdStore", "existingPallet", "(I)LColdStore$Pallet;"⟩, 11) := ⟨⟨by decide +kernel, by decide +kernel⟩, List.mem_of_getElem? (i := 18) (by decide +kernel), List.mem_of_getElem? (i := 530) (by decide +kernel), List.mem_of_getElem? (i := 531) (by decide +kernel)⟩
theorem lw_p8 : lw_okq (⟨"ColdStore", "nextToShip", "(LColdStore$Product;I)LColdStore$Pallet;"⟩, 11) := ⟨⟨by decide +kernel, by decide +kernel⟩, List.mem_of_getElem? (i := 18) (by decide +kernel), List.mem_of_getElem? (i := 566) (by decide +kernel), List.mem_of_getElem? (i := 567) (by decide +kernel)⟩
theorem lw_p9 : lw_okq (⟨"ColdStore", "spoiledHere", "()I"⟩, 11) := ⟨⟨by decide +kernel, by decide +kernel⟩, List.mem_of_getElem? (i := 18) (by decide +kernel), List.mem_of_getElem? (i := 598) (by decide +kernel), List.mem_of_getElem? (i := 599) (by decide +kernel)⟩
theorem lw_p10 : lw_okq (⟨"ColdStore", "passHourEverywhere", "()V"⟩, 11) := ⟨⟨by decide +kernel, by decide +kernel⟩, List.mem_of_getElem? (i := 18) (by decide +kernel), List.mem_of_getElem? (i := 602) (by decide +kernel), List.mem_of_getElem? (i := 603) (by decide +kernel)⟩
theorem lw_p11 : lw_okq (⟨"ColdStore", "passHourIn", "(LColdStore$Room;I)I"⟩, 11) := ⟨⟨by decide +kernel, by decide +kernel⟩, List.mem_of_getElem? (i := 18) (by decide +kernel), List.mem_of_getElem? (i := 611) (by decide +kernel), List.mem_of_getElem? (i := 612) (by decide +kernel)⟩
theorem lw_p12 : lw_okq (⟨"ColdStore$Machine", "defrostOneHour", "()V"⟩, 5) := ⟨⟨by decide +kernel, by decide +kernel⟩, List.mem_of_getElem? (i := 335) (by decide +kernel), List.mem_of_getElem? (i := 628) (by decide +kernel), List.mem_of_getElem? (i := 629) (by decide +kernel)⟩
theorem lw_p13 : lw_okq (⟨"ColdStore$Room", "warmthOfPallets", "()I"⟩, 11) := ⟨⟨by decide +kernel, by decide +kernel⟩, List.mem_of_getElem? (i := 328) (by decide +kernel), List.mem_of_getElem? (i := 632) (by decide +kernel), List.mem_of_getElem? (i := 633) (by decide +kernel)⟩
theorem lw_p14 : lw_okq (⟨"ColdStoreModel", "no", "(I)I"⟩, 24) := ⟨⟨by decide +kernel, by decide +kernel⟩, List.mem_of_getElem? (i := 692) (by decide +kernel), List.mem_of_getElem? (i := 783) (by decide +kernel), List.mem_of_getElem? (i := 784) (by decide +kernel)⟩
theorem lw_p15 : lw_okq (⟨"ColdStoreModel", "outsideAt", "(I)I"⟩, 24) := ⟨⟨by decide +kernel, by decide +kernel⟩, List.mem_of_getElem? (i := 692) (by decide +kernel), List.mem_of_getElem? (i := 787) (by decide +kernel), List.mem_of_getElem? (i := 788) (by decide +kernel)⟩
def lw_privs_1 : List (MethodName × Nat) := [(⟨"ColdStore", "countOf", "(I)I"⟩, 11), (⟨"ColdStore", "palletsHere", "()I"⟩, 11), (⟨"ColdStore", "mixRooms", "(J)J"⟩, 11), (⟨"ColdStore", "mixPallets", "(J)J"⟩, 11), (⟨"java/lang/Throwable", "fillInStackTrace", "(I)Ljava/lang/Throwable;"⟩, 6), (⟨"ColdStore", "existingRoom", "(I)LColdStore$Room;"⟩, 11), (⟨"ColdStore", "existingProduct", "(I)LColdStore$Product;"⟩, 11), (⟨"ColdStore", "existingPallet", "(I)LColdStore$Pallet;"⟩, 11), (⟨"ColdStore", "nextToShip", "(LColdStore$Product;I)LColdStore$Pallet;"⟩, 11), (⟨"ColdStore", "spoiledHere", "()I"⟩, 11), (⟨"ColdStore", "passHourEverywhere", "()V"⟩, 11), (⟨"ColdStore", "passHourIn", "(LColdStore$Room;I)I"⟩, 11), (⟨"ColdStore$Machine", "defrostOneHour", "()V"⟩, 5), (⟨"ColdStore$Room", "warmthOfPallets", "()I"⟩, 11), (⟨"ColdStoreModel", "no", "(I)I"⟩, 24), (⟨"ColdStoreModel", "outsideAt", "(I)I"⟩, 24)]
theorem lw_r1 : ∀ q ∈ lw_privs_1, lw_okq q := List.forall_mem_cons.mpr ⟨lw_p0, List.forall_mem_cons.mpr ⟨lw_p1, List.forall_mem_cons.mpr ⟨lw_p2, List.forall_mem_cons.mpr ⟨lw_p3, List.forall_mem_cons.mpr ⟨lw_p4, List.forall_mem_cons.mpr ⟨lw_p5, List.forall_mem_cons.mpr ⟨lw_p6, List.forall_mem_cons.mpr ⟨lw_p7, List.forall_mem_cons.mpr ⟨lw_p8, List.forall_mem_cons.mpr ⟨lw_p9, List.forall_mem_cons.mpr ⟨lw_p10, List.forall_mem_cons.mpr ⟨lw_p11, List.forall_mem_cons.mpr ⟨lw_p12, List.forall_mem_cons.mpr ⟨lw_p13, List.forall_mem_cons.mpr ⟨lw_p14, List.forall_mem_cons.mpr ⟨lw_p15, fun _ h => absurd h List.not_mem_nil⟩⟩⟩⟩⟩⟩⟩⟩⟩⟩⟩⟩⟩⟩⟩⟩
theorem lw_p16 : lw_okq (⟨"ColdStoreModel", "lowest", "()I"⟩, 24) := ⟨⟨by decide +kernel, by decide +kernel⟩, List.mem_of_getElem? (i := 692) (by decide +kernel), List.mem_of_getElem? (i := 800) (by decide +kernel), List.mem_of_getElem? (i := 801) (by decide +kernel)⟩
theorem lw_p17 : lw_okq (⟨"ColdStoreModel", "isRoom", "(I)Z"⟩, 24) := ⟨⟨by decide +kernel, by decide +kernel⟩, List.mem_of_getElem? (i := 692) (by decide +kernel), List.mem_of_getElem? (i := 820) (by decide +kernel), List.mem_of_getElem? (i := 821) (by decide +kernel)⟩
theorem lw_p18 : lw_okq (⟨"ColdStoreModel", "toldOfRoom", "(II)I"⟩, 24) := ⟨⟨by decide +kernel, by decide +kernel⟩, List.mem_of_getElem? (i := 692) (by decide +kernel), List.mem_of_getElem? (i := 832) (by decide +kernel), List.mem_of_getElem? (i := 833) (by decide +kernel)⟩
theorem lw_p19 : lw_okq (⟨"ColdStoreModel", "free", "(I)I"⟩, 24) := ⟨⟨by decide +kernel, by decide +kernel⟩, List.mem_of_getElem? (i := 692) (by decide +kernel), List.mem_of_getElem? (i := 836) (by decide +kernel), List.mem_of_getElem? (i := 837) (by decide +kernel)⟩
theorem lw_p20 : lw_okq (⟨"ColdStoreModel", "isProduct", "(I)Z"⟩, 24) := ⟨⟨by decide +kernel, by decide +kernel⟩, List.mem_of_getElem? (i := 692) (by decide +kernel), List.mem_of_getElem? (i := 844) (by decide +kernel), List.mem_of_getElem? (i := 845) (by decide +kernel)⟩
theorem lw_p21 : lw_okq (⟨"ColdStoreModel", "reasonFor", "(II)I"⟩, 24) := ⟨⟨by decide +kernel, by decide +kernel⟩, List.mem_of_getElem? (i := 692) (by decide +kernel), List.mem_of_getElem? (i := 848) (by decide +kernel), List.mem_of_getElem? (i := 849) (by decide +kernel)⟩
theorem lw_p22 : lw_okq (⟨"ColdStoreModel", "goTogether", "(II)Z"⟩, 24) := ⟨⟨by decide +kernel, by decide +kernel⟩, List.mem_of_getElem? (i := 692) (by decide +kernel), List.mem_of_getElem? (i := 852) (by decide +kernel), List.mem_of_getElem? (i := 853) (by decide +kernel)⟩
theorem lw_p23 : lw_okq (⟨"ColdStoreModel", "isPallet", "(I)Z"⟩, 24) := ⟨⟨by decide +kernel, by decide +kernel⟩, List.mem_of_getElem? (i := 692) (by decide +kernel), List.mem_of_getElem? (i := 864) (by decide +kernel), List.mem_of_getElem? (i := 865) (by decide +kernel)⟩
theorem lw_p24 : lw_okq (⟨"ColdStoreModel", "toldOfPallet", "(II)I"⟩, 24) := ⟨⟨by decide +kernel, by decide +kernel⟩, List.mem_of_getElem? (i := 692) (by decide +kernel), List.mem_of_getElem? (i := 872) (by decide +kernel), List.mem_of_getElem? (i := 873) (by decide +kernel)⟩
theorem lw_p25 : lw_okq (⟨"ColdStoreModel", "leftOf", "(I)I"⟩, 24) := ⟨⟨by decide +kernel, by decide +kernel⟩, List.mem_of_getElem? (i := 692) (by decide +kernel), List.mem_of_getElem? (i := 876) (by decide +kernel), List.mem_of_getElem? (i := 877) (by decide +kernel)⟩
theorem lw_p26 : lw_okq (⟨"ColdStoreModel", "off", "(II)I"⟩, 24) := ⟨⟨by decide +kernel, by decide +kernel⟩, List.mem_of_getElem? (i := 692) (by decide +kernel), List.mem_of_getElem? (i := 884) (by decide +kernel), List.mem_of_getElem? (i := 885) (by decide +kernel)⟩
theorem lw_p27 : lw_okq (⟨"ColdStoreModel", "there", "(IZ)I"⟩, 24) := ⟨⟨by decide +kernel, by decide +kernel⟩, List.mem_of_getElem? (i := 692) (by decide +kernel), List.mem_of_getElem? (i := 899) (by decide +kernel), List.mem_of_getElem? (i := 900) (by decide +kernel)⟩
theorem lw_p28 : lw_okq (⟨"ColdStoreModel", "counted", "(I)I"⟩, 24) := ⟨⟨by decide +kernel, by decide +kernel⟩, List.mem_of_getElem? (i := 692) (by decide +kernel), List.mem_of_getElem? (i := 911) (by decide +kernel), List.mem_of_getElem? (i := 912) (by decide +kernel)⟩
theorem lw_p29 : lw_okq (⟨"ColdStoreModel", "hour", "(II)V"⟩, 24) := ⟨⟨by decide +kernel, by decide +kernel⟩, List.mem_of_getElem? (i := 692) (by decide +kernel), List.mem_of_getElem? (i := 919) (by decide +kernel), List.mem_of_getElem? (i := 920) (by decide +kernel)⟩
theorem lw_p30 : lw_okq (⟨"ColdStoreModel", "setMachine", "(II)V"⟩, 24) := ⟨⟨by decide +kernel, by decide +kernel⟩, List.mem_of_getElem? (i := 692) (by decide +kernel), List.mem_of_getElem? (i := 923) (by decide +kernel), List.mem_of_getElem? (i := 924) (by decide +kernel)⟩
theorem lw_p31 : lw_okq (⟨"ColdStoreModel", "ahead", "(III)[I"⟩, 24) := ⟨⟨by decide +kernel, by decide +kernel⟩, List.mem_of_getElem? (i := 692) (by decide +kernel), List.mem_of_getElem? (i := 931) (by decide +kernel), List.mem_of_getElem? (i := 932) (by decide +kernel)⟩
def lw_privs_2 : List (MethodName × Nat) := [(⟨"ColdStoreModel", "lowest", "()I"⟩, 24), (⟨"ColdStoreModel", "isRoom", "(I)Z"⟩, 24), (⟨"ColdStoreModel", "toldOfRoom", "(II)I"⟩, 24), (⟨"ColdStoreModel", "free", "(I)I"⟩, 24), (⟨"ColdStoreModel", "isProduct", "(I)Z"⟩, 24), (⟨"ColdStoreModel", "reasonFor", "(II)I"⟩, 24), (⟨"ColdStoreModel", "goTogether", "(II)Z"⟩, 24), (⟨"ColdStoreModel", "isPallet", "(I)Z"⟩, 24), (⟨"ColdStoreModel", "toldOfPallet", "(II)I"⟩, 24), (⟨"ColdStoreModel", "leftOf", "(I)I"⟩, 24), (⟨"ColdStoreModel", "off", "(II)I"⟩, 24), (⟨"ColdStoreModel", "there", "(IZ)I"⟩, 24), (⟨"ColdStoreModel", "counted", "(I)I"⟩, 24), (⟨"ColdStoreModel", "hour", "(II)V"⟩, 24), (⟨"ColdStoreModel", "setMachine", "(II)V"⟩, 24), (⟨"ColdStoreModel", "ahead", "(III)[I"⟩, 24)]
theorem lw_r2 : ∀ q ∈ lw_privs_2, lw_okq q := List.forall_mem_cons.mpr ⟨lw_p16, List.forall_mem_cons.mpr ⟨lw_p17, List.forall_mem_cons.mpr ⟨lw_p18, List.forall_mem_cons.mpr ⟨lw_p19, List.forall_mem_cons.mpr ⟨lw_p20, List.forall_mem_cons.mpr ⟨lw_p21, List.forall_mem_cons.mpr ⟨lw_p22, List.forall_mem_cons.mpr ⟨lw_p23, List.forall_mem_cons.mpr ⟨lw_p24, List.forall_mem_cons.mpr ⟨lw_p25, List.forall_mem_cons.mpr ⟨lw_p26, List.forall_mem_cons.mpr ⟨lw_p27, List.forall_mem_cons.mpr ⟨lw_p28, List.forall_mem_cons.mpr ⟨lw_p29, List.forall_mem_cons.mpr ⟨lw_p30, List.forall_mem_cons.mpr ⟨lw_p31, fun _ h => absurd h List.not_mem_nil⟩⟩⟩⟩⟩⟩⟩⟩⟩⟩⟩⟩⟩⟩⟩⟩
def lw_privs : List (MethodName × Nat) := lw_privs_1 ++ (lw_privs_2)
def lw_tbl : List Cond := k2_sels lw_privs ++ tables_1
theorem lw_privs_ok : ∀ q ∈ lw_privs, lw_okq q := by
  show ∀ q ∈ lw_privs_1 ++ (lw_privs_2), lw_okq q
  exact List.forall_mem_append.mpr ⟨lw_r1, lw_r2⟩
/-- the streams that the claim lets the run draw from -/
abbrev lw_cs : List Choice := [Jvm.Choice.named "NaN.bits"]
theorem lw_bits : nanBits ∈ lw_cs := by first | decide | exact List.mem_cons_self | simp [lw_cs, nanBits]
end
section
/-! ===== BEGIN words of one list among another's, by their places ===== -/
theorem goodIn_r {big : List Cond} (ws : List Cond) (ps : List Nat) (hp : ws = ps.filterMap (fun i => big[i]?)) (h : ws.all goodWord = true) : GoodIn big ws := by
  intro w hw
  have h1 := List.all_eq_true.mp h w hw
  rw [hp] at hw
  obtain ⟨i, -, hi⟩ := List.mem_filterMap.mp hw
  have hm : w ∈ big := by first | exact List.mem_of_getElem? hi | exact List.getElem?_mem hi
  exact ⟨hm, good_of_word h1⟩
theorem goodIn_app {big a b : List Cond} (ha : GoodIn big a) (hb : GoodIn big b) : GoodIn big (a ++ b) := fun w h => (List.mem_append.mp h).elim (ha w) (hb w)
theorem goodIn_ca {big a b : List Cond} {c : Cond} (ha : GoodIn big (c :: a)) (hb : GoodIn big b) : GoodIn big (c :: (a ++ b)) := fun w h => (List.mem_cons.mp h).elim (fun e => ha w (List.mem_cons.mpr (Or.inl e))) (fun h => (List.mem_append.mp h).elim (fun h => ha w (List.mem_cons.mpr (Or.inr h))) (hb w))
theorem goodIn_sub {big ws : List Cond} (hm : ∀ w ∈ ws, w ∈ big) (h : ws.all goodWord = true) : GoodIn big ws := fun w hw => ⟨hm w hw, good_of_word (List.all_eq_true.mp h w hw)⟩
/-! ===== END ===== -/

/-! ===== BEGIN exceptions that leave a method, and their catching by the caller (launches without stack traces) ===== -/
section VXA
/-! The laws vx_back, vx_callV, vx_callS, vx_callSW, vx_throw0, vx_throwS follow proofs of the library, with one case more: JvmDerived/Free/Laws.lean (Back.of_free), Shelf42/LK1.lean (callV, callS), Shelf/KitTraced.lean (throwNew0V, throwNewS). -/
/-- where a method has thrown q: the class by its name, the cell, what was written, the world -/
def vx_T (XC : String → State → State → Prop) (st : State) (q : Addr) (t : State) (mc ms : Nat) (free : Addr → Prop) : Prop :=
  ∃ (E : String) (ce : Cell) (L : List Loc), XC E st t ∧ t.heap[q]? = some ce ∧ ce.vm = .none ∧ st.vm.findClass E = some ce.cls ∧ st.WarmedH t.vm ∧ st.sameButNew ({ t with vm := st.vm } : State) L mc ms ∧ ∀ z ∈ L, free z.base
def vx_Q (Qc : Array Value → State → Outcome → State → Prop) (XC : String → State → State → Prop) (mc ms : Nat) (free : Addr → Prop) : Array Value → State → Outcome → State → Prop := fun a st o t =>
  (Qc a st o t ∧ ∃ L, FrameEnd st o t L mc ms ∧ ∀ q ∈ L, free q.base) ∨ ∃ q, o = .threw q ∧ vx_T XC st q t mc ms free
/-- a callee that returns or throws -/
def vx_Met (l : Launch) (y : MethodName) (ws : List Cond) (rm : Room) (Pc : Array Value → State → Prop) (Qc : Array Value → State → Outcome → State → Prop) (XC : String → State → State → Prop) (mc ms : Nat) (free : Addr → Prop) : Prop :=
  MetFree l y (headSpec ws rm) Pc (fun _ _ _ _ _ => True) (vx_Q Qc XC mc ms free)
def vx_Post (XC : String → State → State → Prop) (mc ms : Nat) (free : Addr → Prop) : Pt → Array Value → Addr → Pt → Prop := fun A a q B =>
  ∃ (g : JFrame) (mk : MethodId) (t : State) (L : List Loc) (E : String) (ce : Cell), B.U.heap = t.heap ∧ B.U.vm = t.vm ∧ XC E (A.U.calling g mk a) t ∧ t.heap[q]? = some ce ∧ ce.vm = .none ∧ A.U.vm.findClass E = some ce.cls ∧ B.locs = A.locs ++ L ∧ (∀ z ∈ L, free z.base) ∧ B.cells = A.cells + mc ∧ B.slots = A.slots + ms
def vx_Back (l : Launch) (R : Room) (p : Program) (e : Env) (below : List Frame) (s : State) (sargs : Array Value) (y : MethodName) (len W9 : Nat)
    (Pre : Pt → Array Value → Prop) (Post : Pt → Array Value → Option Value → Pt → Prop) (PostX : Pt → Array Value → Addr → Pt → Prop) : Prop :=
  ∀ (m : MethodId) (meth : Method) (c : Code) (A : Pt) (g : JFrame) (ig : Instr) (mk : MethodId) (a : Array Value),
    Stand p l e R s m sargs below meth c A.U A.locs A.cells A.slots → g.method = m → g.locals.size = c.maxLocals → decode c.code g.pc = .ok (ig, len) →
    2 * g.monitorRoom + (g.stack.map fun v => v.category).sum ≤ W9 → A.U.methodNamed? y = some mk → Pre A a →
    (∃ (v : Option Value) (B : Pt), Stand p l e R s m sargs below meth c B.U B.locs B.cells B.slots ∧ Post A a v B ∧
      Steps p.tables e below (doInvoke e (A.U.setTop g) [] mk a).1 (B.U.setTop { g with pc := g.pc + len, stack := v.toList ++ g.stack })) ∨
    (∃ (q : Addr) (B : Pt), Stand p l e R s m sargs below meth c B.U B.locs B.cells B.slots ∧ PostX A a q B ∧
      Steps p.tables e below (doInvoke e (A.U.setTop g) [] mk a).1 ((B.U.setTop g).pushFrame (.throwing q)))
section Payer
variable {l : Launch} {R : Room} {p : Program} {e : Env} {below : List Frame} {s : State} {sargs : Array Value} {y : MethodName} {len W9 : Nat}
theorem vx_back {ws : List Cond} {rm : Room} {Pc : Array Value → State → Prop} {Qc : Array Value → State → Outcome → State → Prop} {XC : String → State → State → Prop} {mc ms : Nat} {free : Addr → Prop} {bytes : ByteArray} {maxL : Nat} {ret : Option FieldType}
    (hM : vx_Met l y ws rm Pc Qc XC mc ms free) (hblind : FrameBlind Pc) (hrc : rm.cells = mc) (hrs : rm.slots = ms)
    (hframes : rm.frames + 1 ≤ R.frames) (hlocals : W9 + (maxL + 11) + rm.locals ≤ R.locals)
    (hws : ∀ w ∈ ws, ∀ a' U, s.WarmedH U.vm → w.before a' U = true) (hcode : Cond.code y bytes maxL ret ∈ ws) (hinit : ∀ a' U, s.WarmedH U.vm → (Cond.initialized y.cls).before a' U = true) :
    vx_Back l R p e below s sargs y len W9 (PreOf R mc ms Pc) (PostOf Qc mc ms free) (vx_Post XC mc ms free) := by
  intro m meth c A g ig mk a X hg hsize hdg hW hn hp
  have h1 : (headSpec ws rm).pre.before a A.U = true := atoms_intro fun w hw => hws w hw _ _ X.warmed
  have h2 : (Cond.code y bytes maxL ret).before a A.U = true := hws _ hcode _ _ X.warmed
  have h3 : (Cond.initialized y.cls).before a A.U = true := hinit _ _ X.warmed
  have h4 : A.cells + (headSpec ws rm).room.cells ≤ R.cells := by rw [show (headSpec ws rm).room.cells = mc from hrc]; exact hp.1
  have h5 : A.slots + (headSpec ws rm).room.slots ≤ R.slots := by rw [show (headSpec ws rm).room.slots = ms from hrs]; exact hp.2.1
  have hPc : Pc a (A.U.calling g mk a) := hblind _ _ _ _ hp.2.2
  obtain ⟨U, Ls, c0, s0⟩ := A
  dsimp only [Pt.U, Pt.locs, Pt.cells, Pt.slots] at h1 h2 h3 h4 h5 X hn hPc ⊢
  obtain ⟨methY, cY, hmY, hcY, -, hlY, -, -, -, -⟩ := Cond.code_spec hn h2
  obtain ⟨kY, hkY, -⟩ := className_of_methodNamed hn
  have hinitY : kY.init = .initialized := Cond.initialized_spec (findClass_of_methodNamed hn) hkY h3
  have h : At U g.method c below := by rw [hg]; exact X.here
  have hlocals9 : W9 + (maxL + 11) + (headSpec ws rm).room.locals ≤ R.locals := hlocals
  have happ : (headSpec ws rm).appliesLoose y e.platform (U.calling g mk a) = true :=
    Spec.appliesLoose_calling (g := g) h hdg hn hkY hinitY
      (X.room_calling (g := g) (R' := (headSpec ws rm).room) hsize hmY hcY hframes (by rw [hlY]; omega) h4 h5) h1
  obtain ⟨mid, hmid⟩ := h.above
  have hfr : (U.setTop g).frames = (.java g :: mid) ++ below := by rw [State.frames_setTop' g h.top, hmid]; rfl
  obtain ⟨o, s₂, hsteps, -, hend, hq⟩ := Steps.callFree hM p X.admits X.cas X.clock (acts := []) hfr happ hPc trivial
  have hq' : vx_Q Qc XC mc ms free a (U.calling g mk a) o s₂ := hq
  rw [State.frames_setTop' g h.top] at hend
  obtain ⟨g₀, hg0⟩ := Option.isSome_iff_exists.mp h.top
  obtain ⟨r, hr⟩ := State.topJava?_eq_some.mp hg0
  have hr' : (({ U with heap := s₂.heap, slotsUsed := s₂.slotsUsed } : State).setVm s₂.vm).frames = .java g₀ :: r := hr
  rcases hq' with ⟨hqc, L, hfe, hL⟩ | ⟨q, rfl, E, ce, L, hx, hce, hcv, hcl, hW₂, hsm, hL⟩
  · obtain ⟨⟨v, rfl⟩, hW₂, e2, q2, q3, q4, q5, q6⟩ := id hfe
    have e3 : s₂ = ({ (U.calling g mk a).setFrames s₂.frames with heap := s₂.heap, slotsUsed := s₂.slotsUsed } : State).setVm s₂.vm := by
      have : s₂ = ({ s₂ with vm := (U.calling g mk a).vm } : State).setVm s₂.vm := rfl
      rw [e2] at this
      exact this
    obtain ⟨c₂, i₂, len₂, hc₂, hd₂, hf₂⟩ := hend
    have hW' : U.WarmedH s₂.vm := hW₂
    have hcc : c₂ = c := by
      have h1 : s₂.code? g.method = U.code? g.method := by
        rw [State.code?_eq, State.code?_eq, hW'.alike.method?]
      exact Option.some.inj (hc₂.symm.trans (h1.trans h.code))
    subst hcc
    have hlen : len₂ = len := by rw [hdg] at hd₂; cases hd₂; rfl
    subst hlen
    have hs₂ : s₂ = (({ U with heap := s₂.heap, slotsUsed := s₂.slotsUsed } : State).setVm s₂.vm).setTop { g with pc := g.pc + len₂, stack := v.toList ++ g.stack } := by
      refine e3.trans ?_
      rw [hf₂, State.calling_eq h.top, State.setFrames_setFrames, State.setTop_of_frames _ hr', hr]
      rfl
    have hsame : U.sameButNew ({ U with heap := s₂.heap, slotsUsed := s₂.slotsUsed } : State) L mc ms := by
      refine ⟨?_, q2, q3, q4, q5, q6⟩
      obtain ⟨t, ht, -⟩ := State.frames_cons hr
      show ({ U with heap := s₂.heap, slotsUsed := s₂.slotsUsed } : State) = { U.setFrames U.frames with heap := s₂.heap, slotsUsed := s₂.slotsUsed }
      rw [State.setFrames_self ht]
    subst hg
    refine Or.inl ⟨v, ⟨(({ U with heap := s₂.heap, slotsUsed := s₂.slotsUsed } : State).setVm s₂.vm), Ls ++ L, c0 + mc, s0 + ms⟩,
      ⟨X.admits, X.cas, X.clock, X.frames, X.room, X.hears, X.method, X.code, (X.here.setHeapUsed s₂.heap s₂.slotsUsed).setVm hW'.alike, X.tail, State.WarmedH.trans X.warmed hW', X.limits, X.bytes, X.same.trans (hsame.setVm s.vm)⟩,
      ⟨g, mk, s₂, L, rfl, rfl, hqc, rfl, hL, rfl, rfl⟩, ?_⟩
    show Steps p.tables e below _ ((({ U with heap := s₂.heap, slotsUsed := s₂.slotsUsed } : State).setVm s₂.vm).setTop { g with pc := g.pc + len₂, stack := v.toList ++ g.stack })
    rw [← hs₂]
    exact hsteps
  · obtain ⟨e2, q2, q3, q4, q5, q6⟩ := id hsm
    have e3 : s₂ = ({ (U.calling g mk a).setFrames s₂.frames with heap := s₂.heap, slotsUsed := s₂.slotsUsed } : State).setVm s₂.vm := by
      have : s₂ = ({ s₂ with vm := (U.calling g mk a).vm } : State).setVm s₂.vm := rfl
      rw [e2] at this
      exact this
    have hf₂ : s₂.frames = .throwing q :: .java g :: U.frames.tail := hend
    have hW' : U.WarmedH s₂.vm := hW₂
    have hs₂ : s₂ = ((({ U with heap := s₂.heap, slotsUsed := s₂.slotsUsed } : State).setVm s₂.vm).setTop g).pushFrame (.throwing q) := by
      refine e3.trans ?_
      rw [hf₂, State.calling_eq h.top, State.setFrames_setFrames, State.pushFrame, State.frames_setTop _ hr', State.setTop_of_frames _ hr', State.setFrames_setFrames, hr]
      rfl
    have hsame : U.sameButNew ({ U with heap := s₂.heap, slotsUsed := s₂.slotsUsed } : State) L mc ms := by
      refine ⟨?_, q2, q3, q4, q5, q6⟩
      obtain ⟨t, ht, -⟩ := State.frames_cons hr
      show ({ U with heap := s₂.heap, slotsUsed := s₂.slotsUsed } : State) = { U.setFrames U.frames with heap := s₂.heap, slotsUsed := s₂.slotsUsed }
      rw [State.setFrames_self ht]
    subst hg
    refine Or.inr ⟨q, ⟨(({ U with heap := s₂.heap, slotsUsed := s₂.slotsUsed } : State).setVm s₂.vm), Ls ++ L, c0 + mc, s0 + ms⟩,
      ⟨X.admits, X.cas, X.clock, X.frames, X.room, X.hears, X.method, X.code, (X.here.setHeapUsed s₂.heap s₂.slotsUsed).setVm hW'.alike, X.tail, State.WarmedH.trans X.warmed hW', X.limits, X.bytes, X.same.trans (hsame.setVm s.vm)⟩,
      ⟨g, mk, s₂, L, E, ce, rfl, rfl, hx, hce, hcv, hcl, rfl, hL, rfl, rfl⟩, ?_⟩
    show Steps p.tables e below _ (((({ U with heap := s₂.heap, slotsUsed := s₂.slotsUsed } : State).setVm s₂.vm).setTop g).pushFrame (.throwing q))
    rw [← hs₂]
    exact hsteps
end Payer
section Calls
variable {p : Program} {l : Launch} {e : Env} {R : Room} {s : State} {m : MethodId} {args : Array Value} {below : List Frame} {meth : Method} {c : Code} {T : State} {locs : List Loc} {cells slots : Nat}
theorem vx_callV (X : Stand p l e R s m args below meth c T locs cells slots) (hexec : p.tables.exec = Jvm.exec) {own C : String} {index : Nat} {y : MethodName} {bytes : ByteArray} {maxL : Nat} {ret : Option FieldType}
    (hown : s.vm.findClass own = some m.cls) (hlink : (Cond.methodLink own index y).before args s = true) (hinst : (Cond.instanceMethod y).before args s = true) (hsel : (Cond.selects C y y).before args s = true)
    (hcode : (Cond.code y bytes maxL ret).before args s = true) (hy : y.cls ≠ "java/lang/invoke/MethodHandle" ∧ y.cls ≠ "java/lang/invoke/VarHandle")
    {W9 : Nat} {Pre : Pt → Array Value → Prop} {Post : Pt → Array Value → Option Value → Pt → Prop} {PostX : Pt → Array Value → Addr → Pt → Prop} (hK : vx_Back l R p e below s args y 3 W9 Pre Post PostX)
    {b : Addr} {cellB : Cell} (hcell : T.heap[b]? = some cellB) (hobj : cellB.vm.isStatics = false) (hcls : s.vm.findClass C = some cellB.cls)
    {g : JFrame} (hg : g.method = m) (hsize : g.locals.size = c.maxLocals) {argsL rest : List Value} (hlen : ∀ sig, parseMethodDescriptor y.desc = some sig → argsL.length = sig.parameters.length)
    (hstack : g.stack = argsL.reverse ++ .ref b :: rest) (hW : 2 * g.monitorRoom + (rest.map fun v => v.category).sum ≤ W9) (hdg : decode c.code g.pc = .ok (.invokevirtual index, 3))
    (hpre : ∀ vm₁, s.WarmedH vm₁ → Pre ⟨T.setVm vm₁, locs, cells, slots⟩ (Value.ref b :: argsL).toArray) :
    (∃ (v : Option Value) (vm₁ : Vm) (B : Pt), s.WarmedH vm₁ ∧ Stand p l e R s m args below meth c B.U B.locs B.cells B.slots ∧ Post ⟨T.setVm vm₁, locs, cells, slots⟩ (Value.ref b :: argsL).toArray v B ∧
      ∀ target, Steps p.tables e below (B.U.setTop { g with pc := g.pc + 3, stack := v.toList ++ rest }) target → Steps p.tables e below (T.setTop g) target) ∨
    (∃ (q : Addr) (vm₁ : Vm) (B : Pt), s.WarmedH vm₁ ∧ Stand p l e R s m args below meth c B.U B.locs B.cells B.slots ∧ PostX ⟨T.setVm vm₁, locs, cells, slots⟩ (Value.ref b :: argsL).toArray q B ∧
      Steps p.tables e below (T.setTop g) ((B.U.setTop { g with stack := rest }).pushFrame (.throwing q))) := by
  obtain ⟨mk, methM, hnamed, hmethM, hstM, habM⟩ := Cond.instanceMethod_spec hinst
  obtain ⟨methM', cM, hmethM', -, -, -, -, -, -, hsigM⟩ := Cond.code_spec hnamed hcode
  cases hmethM.symm.trans hmethM'
  obtain ⟨c2, r2, m2, q1, q2, q3, q4, kP, hkP, hkPi⟩ := Cond.selects_spec hsel
  cases hcls.symm.trans q1
  cases (State.methodFound?_of_named hnamed hy).symm.trans q2
  cases hnamed.symm.trans q3
  have hselP : selectMethod e.platform s.vm cellB.cls mk = .method mk := by rw [Launch.admits_selectMethod X.admits]; exact q4
  obtain ⟨vm₁, X₁, hstep₁⟩ := X.invokevirtual hexec hown hlink hnamed hmethM hstM hkP hkPi hy (a := b) (cell := cellB) hcell
    (fun z h => by rw [h] at hobj; cases hobj) hselP hmethM habM hkP hkPi (g := g) hg (argsL := argsL) (rest := rest) (hlen _ hsigM) hstack hdg
  rcases hK m meth c ⟨T.setVm vm₁, locs, cells, slots⟩ { g with stack := rest } (.invokevirtual index) mk (Value.ref b :: argsL).toArray X₁ hg hsize hdg hW (X₁.named hnamed) (hpre vm₁ X₁.warmed) with ⟨v, B, X', hpost, hsteps⟩ | ⟨q, B, X', hpost, hsteps⟩
  · exact Or.inl ⟨v, vm₁, B, X₁.warmed, X', hpost, fun target h => hstep₁ _ fun acts => by rw [doInvoke_state]; exact hsteps.trans h⟩
  · exact Or.inr ⟨q, vm₁, B, X₁.warmed, X', hpost, hstep₁ _ fun acts => by rw [doInvoke_state]; exact hsteps⟩
theorem vx_callS (X : Stand p l e R s m args below meth c T locs cells slots) (hexec : p.tables.exec = Jvm.exec) {own : String} {index : Nat} {y : MethodName} {bytes : ByteArray} {maxL : Nat} {ret : Option FieldType}
    (hown : s.vm.findClass own = some m.cls) (hlink : (Cond.methodLink own index y).before args s = true) (hstat : (Cond.static y).before args s = true) (hinit : (Cond.initialized y.cls).before args s = true)
    (hcode : (Cond.code y bytes maxL ret).before args s = true) (hy : y.cls ≠ "java/lang/invoke/MethodHandle" ∧ y.cls ≠ "java/lang/invoke/VarHandle")
    {W9 : Nat} {Pre : Pt → Array Value → Prop} {Post : Pt → Array Value → Option Value → Pt → Prop} {PostX : Pt → Array Value → Addr → Pt → Prop} (hK : vx_Back l R p e below s args y 3 W9 Pre Post PostX)
    {g : JFrame} (hg : g.method = m) (hsize : g.locals.size = c.maxLocals) {argsL rest : List Value} (hlen : ∀ sig, parseMethodDescriptor y.desc = some sig → argsL.length = sig.parameters.length)
    (hstack : g.stack = argsL.reverse ++ rest) (hW : 2 * g.monitorRoom + (rest.map fun v => v.category).sum ≤ W9) (hdg : decode c.code g.pc = .ok (.invokestatic index, 3))
    (hpre : ∀ vm₁, s.WarmedH vm₁ → Pre ⟨T.setVm vm₁, locs, cells, slots⟩ argsL.toArray) :
    (∃ (v : Option Value) (vm₁ : Vm) (B : Pt), s.WarmedH vm₁ ∧ Stand p l e R s m args below meth c B.U B.locs B.cells B.slots ∧ Post ⟨T.setVm vm₁, locs, cells, slots⟩ argsL.toArray v B ∧
      ∀ target, Steps p.tables e below (B.U.setTop { g with pc := g.pc + 3, stack := v.toList ++ rest }) target → Steps p.tables e below (T.setTop g) target) ∨
    (∃ (q : Addr) (vm₁ : Vm) (B : Pt), s.WarmedH vm₁ ∧ Stand p l e R s m args below meth c B.U B.locs B.cells B.slots ∧ PostX ⟨T.setVm vm₁, locs, cells, slots⟩ argsL.toArray q B ∧
      Steps p.tables e below (T.setTop g) ((B.U.setTop { g with stack := rest }).pushFrame (.throwing q))) := by
  obtain ⟨mk, hnamed⟩ := Cond.code_named hcode
  obtain ⟨methM, cM, hmethM, -, -, -, -, -, -, hsigM⟩ := Cond.code_spec hnamed hcode
  have hstatic : methM.isStatic = true := Cond.static_spec hnamed hmethM hstat
  obtain ⟨kP, hkP, -⟩ := className_of_methodNamed hnamed
  have hinitP : kP.init = .initialized := Cond.initialized_spec (findClass_of_methodNamed hnamed) hkP hinit
  obtain ⟨vm₁, X₁, hstep₁⟩ := X.invokestatic hexec hown hlink hnamed hmethM hstatic hkP hinitP hy (g := g) hg (argsL := argsL) (rest := rest) (hlen _ hsigM) hstack hdg
  rcases hK m meth c ⟨T.setVm vm₁, locs, cells, slots⟩ { g with stack := rest } (.invokestatic index) mk argsL.toArray X₁ hg hsize hdg hW (X₁.named hnamed) (hpre vm₁ X₁.warmed) with ⟨v, B, X', hpost, hsteps⟩ | ⟨q, B, X', hpost, hsteps⟩
  · exact Or.inl ⟨v, vm₁, B, X₁.warmed, X', hpost, fun target h => hstep₁ _ fun acts => by rw [doInvoke_state]; exact hsteps.trans h⟩
  · exact Or.inr ⟨q, vm₁, B, X₁.warmed, X', hpost, hstep₁ _ fun acts => by rw [doInvoke_state]; exact hsteps⟩
end Calls
theorem vx_cls {s : State} {T : State} {vm₁ : Vm} {E : String} {k : ClassId} (hW : s.WarmedH vm₁) (h : (T.setVm vm₁).vm.findClass E = some k) : s.vm.findClass E = some k := by
  have h1 : vm₁.findClass E = some k := h
  rw [hW.alike.findClass] at h1
  exact h1
/-- the method's frame g, with q thrown over it -/
def vx_W (p : Program) (l : Launch) (e : Env) (R : Room) (s : State) (m : MethodId) (args : Array Value) (below : List Frame) (meth : Method) (c : Code) (H : Heap) (locs : List Loc) (cells slots : Nat) (Q : State → Prop) (g : JFrame) (q : Addr) : Prop :=
  ∀ T : State, T.heap = H → Stand p l e R s m args below meth c T locs cells slots → ∃ t, Steps p.tables e below ((T.setTop g).pushFrame (.throwing q)) t ∧ Q t
def vx_Run (p : Program) (l : Launch) (e : Env) (R : Room) (s : State) (m : MethodId) (args : Array Value) (below : List Frame) (meth : Method) (c : Code) (H : Heap) (locs : List Loc) (cells slots mc ms : Nat) (g : JFrame) (rest : List Value) (Qa : State → Outcome → State → Prop) (XC : String → State → State → Prop) (free : Addr → Prop) : Prop :=
  ∀ T : State, T.heap = H → Stand p l e R s m args below meth c T locs cells slots →
    (∃ (v : Option Value) (st₀ t T' : State) (L : List Loc), st₀.heap = H ∧ Stand p l e R s m args below meth c T' (locs ++ L) (cells + mc) (slots + ms) ∧ (∀ q ∈ L, free q.base) ∧ T'.heap = t.heap ∧ T'.vm = t.vm ∧ Qa st₀ (.returned v) t ∧
      Goes p e below T g T' { g with pc := g.pc + 3, stack := v.toList ++ rest }) ∨
    (∃ (q : Addr) (st₀ t T' : State) (L : List Loc) (E : String) (ce : Cell), st₀.heap = H ∧ Stand p l e R s m args below meth c T' (locs ++ L) (cells + mc) (slots + ms) ∧ (∀ z ∈ L, free z.base) ∧ T'.heap = t.heap ∧ T'.vm = t.vm ∧ XC E st₀ t ∧ t.heap[q]? = some ce ∧ ce.vm = .none ∧ s.vm.findClass E = some ce.cls ∧
      Steps p.tables e below (T.setTop g) ((T'.setTop { g with stack := rest }).pushFrame (.throwing q)))
def vx_X {S : Type} (px : S → Prop) (B : String → S → State → Prop) (A : Nat → Prop) : String → State → State → Prop := fun E st t => ∃ u : S, px u ∧ B E u t ∧ va_F A st t
section Runs
variable {p : Program} {l : Launch} {e : Env} {R : Room} {s : State} {m : MethodId} {args : Array Value} {below : List Frame} {meth : Method} {c : Code} {H : Heap} {locs : List Loc} {cells slots : Nat}
variable {y : MethodName} {bytes cc : ByteArray} {maxL nL mc ms n index : Nat} {ret : Option FieldType} {ws : List Cond} {rm : Room} {Pc : Array Value → State → Prop} {Qc : Array Value → State → Outcome → State → Prop} {XC : String → State → State → Prop} {free : Addr → Prop} {Ts : List Cond} {own C : String} {b : Addr} {As rest : List Value} {g : JFrame}
theorem vx_callBack (cb : CallB R s args own index y bytes maxL ret ws rm mc ms n) (hM : vx_Met l y ws rm Pc Qc XC mc ms free) (hbl : FrameBlind Pc) : vx_Back l R p e below s args y 3 8 (PreOf R mc ms Pc) (PostOf Qc mc ms free) (vx_Post XC mc ms free) := by
  obtain ⟨hrc, hrs, hfr, hlo, hws, hcw, -, hini, -⟩ := cb
  exact vx_back (bytes := bytes) (maxL := maxL) (ret := ret) hM hbl hrc hrs hfr hlo hws hcw (fun a' U hW => word_at hW (Or.inl (by first | rfl | simp [Cond.onTables, Cond.keeps, Cond.steady])) hini)
theorem vx_runV (S : CallFix p m c cc nL s args Ts own) (hM : vx_Met l y ws rm Pc Qc XC mc ms free) (cw : CallW R s args own C index y bytes maxL ret ws rm mc ms n) (hp : PreV s H C b Pc As)
    (hg : g.method = m) (hn : As.length = n) (hsize : g.locals.size = nL) (hstack : g.stack = As.reverse ++ .ref b :: rest) (hW : 2 * g.monitorRoom + (rest.map fun v => v.category).sum ≤ 8) (hdg : decode cc g.pc = .ok (.invokevirtual index, 3)) (hf : cells + mc ≤ R.cells ∧ slots + ms ≤ R.slots) :
    vx_Run p l e R s m args below meth c H locs cells slots mc ms g rest (Qc (Value.ref b :: As).toArray) XC free := by
  have hK : vx_Back l R p e below s args y 3 8 (PreOf R mc ms Pc) (PostOf Qc mc ms free) (vx_Post XC mc ms free) := vx_callBack cw.1 hM hp.1
  obtain ⟨⟨-, -, -, -, -, -, hcode, -, hy, hlen, hl⟩, hin, hse⟩ := cw
  obtain ⟨hx, hb, hml, ho, -⟩ := S
  obtain ⟨-, ⟨cellB, hcB, hoB, hclB⟩, hPc⟩ := hp
  intro T hT X
  rcases vx_callV X hx (C := C) (bytes := bytes) (maxL := maxL) (ret := ret) ho hl hin hse hcode hy hK (by rw [hT]; exact hcB) hoB hclB hg (hsize.trans hml.symm) (argsL := As) (rest := rest) (fun sig h => hn.trans (hlen sig h)) hstack hW (by rw [hb]; exact hdg)
    (fun vm₁ hW₁ => ⟨hf.1, hf.2, hPc (T.setVm vm₁) hT hW₁⟩) with ⟨v, vm₁, ⟨U', l2, c2, s2⟩, hW₁, X', ⟨g', mk, t, L, e1, e2, hq, h1, hL, h2, h3⟩, st⟩ | ⟨q, vm₁, ⟨U', l2, c2, s2⟩, hW₁, X', ⟨g', mk, t, L, E, ce, e1, e2, hq, hce, hcv, hcl, h1, hL, h2, h3⟩, st⟩
  · dsimp only [Pt.U, Pt.locs, Pt.cells, Pt.slots] at X' e1 e2 h1 h2 h3 st
    subst h1; subst h2; subst h3
    exact Or.inl ⟨v, (T.setVm vm₁).calling g' mk (Value.ref b :: As).toArray, t, U', L, hT, X', hL, e1, e2, hq, st⟩
  · dsimp only [Pt.U, Pt.locs, Pt.cells, Pt.slots] at X' e1 e2 h1 h2 h3 st hcl
    subst h1; subst h2; subst h3
    exact Or.inr ⟨q, (T.setVm vm₁).calling g' mk (Value.ref b :: As).toArray, t, U', L, E, ce, hT, X', hL, e1, e2, hq, hce, hcv, vx_cls hW₁ hcl, st⟩
theorem vx_runS (S : CallFix p m c cc nL s args Ts own) (hM : vx_Met l y ws rm Pc Qc XC mc ms free) (cw : CallB R s args own index y bytes maxL ret ws rm mc ms n ∧ (Cond.static y).before args s = true) (hp : PreS s H Pc As)
    (hg : g.method = m) (hn : As.length = n) (hsize : g.locals.size = nL) (hstack : g.stack = As.reverse ++ rest) (hW : 2 * g.monitorRoom + (rest.map fun v => v.category).sum ≤ 8) (hdg : decode cc g.pc = .ok (.invokestatic index, 3)) (hf : cells + mc ≤ R.cells ∧ slots + ms ≤ R.slots) :
    vx_Run p l e R s m args below meth c H locs cells slots mc ms g rest (Qc As.toArray) XC free := by
  have hK : vx_Back l R p e below s args y 3 8 (PreOf R mc ms Pc) (PostOf Qc mc ms free) (vx_Post XC mc ms free) := vx_callBack cw.1 hM hp.1
  obtain ⟨⟨-, -, -, -, -, -, hcode, hini, hy, hlen, hl⟩, hstt⟩ := cw
  obtain ⟨hx, hb, hml, ho, -⟩ := S
  intro T hT X
  rcases vx_callS X hx (bytes := bytes) (maxL := maxL) (ret := ret) ho hl hstt hini hcode hy hK hg (hsize.trans hml.symm) (argsL := As) (rest := rest) (fun sig h => hn.trans (hlen sig h)) hstack hW (by rw [hb]; exact hdg)
    (fun vm₁ hW₁ => ⟨hf.1, hf.2, hp.2 (T.setVm vm₁) hT hW₁⟩) with ⟨v, vm₁, ⟨U', l2, c2, s2⟩, hW₁, X', ⟨g', mk, t, L, e1, e2, hq, h1, hL, h2, h3⟩, st⟩ | ⟨q, vm₁, ⟨U', l2, c2, s2⟩, hW₁, X', ⟨g', mk, t, L, E, ce, e1, e2, hq, hce, hcv, hcl, h1, hL, h2, h3⟩, st⟩
  · dsimp only [Pt.U, Pt.locs, Pt.cells, Pt.slots] at X' e1 e2 h1 h2 h3 st
    subst h1; subst h2; subst h3
    exact Or.inl ⟨v, (T.setVm vm₁).calling g' mk As.toArray, t, U', L, hT, X', hL, e1, e2, hq, st⟩
  · dsimp only [Pt.U, Pt.locs, Pt.cells, Pt.slots] at X' e1 e2 h1 h2 h3 st hcl
    subst h1; subst h2; subst h3
    exact Or.inr ⟨q, (T.setVm vm₁).calling g' mk As.toArray, t, U', L, E, ce, hT, X', hL, e1, e2, hq, hce, hcv, vx_cls hW₁ hcl, st⟩
end Runs
section Rows
variable {p : Program} {l : Launch} {e : Env} {R : Room} {s : State} {m : MethodId} {args : Array Value} {below : List Frame} {meth : Method} {c : Code} {H : Heap} {locs : List Loc} {cells slots : Nat} {Q : State → Prop}
variable {mc ms : Nat} {free : Addr → Prop} {A0 A1 : Nat → Prop} {H0 : Heap} {a : Array Value} {pc : Nat} {ls : Array Slot} {st0 rest : List Value}
theorem vx_keep {st₀ t T' : State} {L : List Loc} (h0 : st₀.heap = H) (e1 : T'.heap = t.heap) (hS : va_S A0 H0 H locs) (hA : ∀ q, q < H.size → A1 q → A0 q) (hf : ∀ q, free q → A0 q) (hL : ∀ q ∈ L, free q.base) (hF : va_F A1 st₀ t) :
    H.size ≤ T'.heap.size ∧ (∀ q : Nat, q < H.size → ¬ A1 q → T'.heap[q]? = H[q]?) ∧ va_S A0 H0 T'.heap (locs ++ L) := by
  obtain ⟨hz, hk⟩ := hF
  rw [h0] at hz hk
  exact ⟨by rw [e1]; exact hz, fun q h1 h2 => by rw [e1]; exact hk q h1 h2,
    ⟨Nat.le_trans hS.1 (by rw [e1]; exact hz), fun q h1 h2 => by rw [e1, hk q (Nat.lt_of_lt_of_le h1 hS.1) (fun z => h2 (hA q (Nat.lt_of_lt_of_le h1 hS.1) z))]; exact hS.2.1 q h1 h2, fun q hq => by
      rcases List.mem_append.mp hq with h | h
      · exact hS.2.2 q h
      · exact hf _ (hL q h)⟩⟩
theorem vx_calli {S SX : Type} {post : Int32 → S → Prop} {px : SX → Prop} {B : S → State → Prop} {BX : String → SX → State → Prop} {AX : Nat → Prop} (hr : vx_Run p l e R s m args below meth c H locs cells slots mc ms (F0 m pc ls st0) rest (va_Qi post B A1 a) (vx_X px BX AX) free) (hS : va_S A0 H0 H locs) (hA : ∀ q, q < H.size → A1 q → A0 q) (hf : ∀ q, free q → A0 q) (hAX : ∀ q, q < H.size → AX q → A0 q)
    (kx : ∀ (E : String) (ce : Cell) (q9 : Addr) (u : SX) (t : State) (H1 : Heap) (locs1 : List Loc), t.heap = H1 → s.vm.Alike t.vm → px u → BX E u t → H.size ≤ H1.size → (∀ q : Nat, q < H.size → ¬ AX q → H1[q]? = H[q]?) → va_S A0 H0 H1 locs1 → H1[q9]? = some ce → ce.vm = .none → s.vm.findClass E = some ce.cls → vx_W p l e R s m args below meth c H1 locs1 (cells + mc) (slots + ms) Q (F0 m pc ls rest) q9)
    (kk : ∀ (r : Int32) (u : S) (t : State) (H1 : Heap) (locs1 : List Loc), t.heap = H1 → s.vm.Alike t.vm → post r u → B u t → H.size ≤ H1.size → (∀ q : Nat, q < H.size → ¬ A1 q → H1[q]? = H[q]?) → va_S A0 H0 H1 locs1 → W p l e R s m args below meth c H1 locs1 (cells + mc) (slots + ms) Q (F0 m (pc + 3) ls (.int r :: rest))) : W p l e R s m args below meth c H locs cells slots Q (F0 m pc ls st0) := by
  intro T hT X
  rcases hr T hT X with ⟨v, st₀, t, T', L, h0, X', hL, e1, e2, ⟨⟨r, u, hv, hp, hb⟩, hF⟩, st⟩ | ⟨q, st₀, t, T', L, E, ce, h0, X', hL, e1, e2, ⟨u, hp, hb, hF⟩, hce, hcv, hcl, st⟩
  · cases hv
    obtain ⟨k1, k2, k3⟩ := vx_keep h0 e1 hS hA hf hL hF
    obtain ⟨t2, a1, b1⟩ := kk r u t T'.heap (locs ++ L) e1.symm (by rw [← e2]; exact X'.warmed.alike) hp hb k1 k2 k3 T' rfl X'
    exact ⟨t2, st t2 a1, b1⟩
  · obtain ⟨k1, k2, k3⟩ := vx_keep h0 e1 hS hAX hf hL hF
    obtain ⟨t2, a1, b1⟩ := kx E ce q u t T'.heap (locs ++ L) e1.symm (by rw [← e2]; exact X'.warmed.alike) hp hb k1 k2 k3 (by rw [e1]; exact hce) hcv hcl T' rfl X'
    exact ⟨t2, st.trans a1, b1⟩
theorem vx_calll {S SX : Type} {post : Int64 → S → Prop} {px : SX → Prop} {B : S → State → Prop} {BX : String → SX → State → Prop} {AX : Nat → Prop} (hr : vx_Run p l e R s m args below meth c H locs cells slots mc ms (F0 m pc ls st0) rest (va_Ql post B A1 a) (vx_X px BX AX) free) (hS : va_S A0 H0 H locs) (hA : ∀ q, q < H.size → A1 q → A0 q) (hf : ∀ q, free q → A0 q) (hAX : ∀ q, q < H.size → AX q → A0 q)
    (kx : ∀ (E : String) (ce : Cell) (q9 : Addr) (u : SX) (t : State) (H1 : Heap) (locs1 : List Loc), t.heap = H1 → s.vm.Alike t.vm → px u → BX E u t → H.size ≤ H1.size → (∀ q : Nat, q < H.size → ¬ AX q → H1[q]? = H[q]?) → va_S A0 H0 H1 locs1 → H1[q9]? = some ce → ce.vm = .none → s.vm.findClass E = some ce.cls → vx_W p l e R s m args below meth c H1 locs1 (cells + mc) (slots + ms) Q (F0 m pc ls rest) q9)
    (kk : ∀ (r : Int64) (u : S) (t : State) (H1 : Heap) (locs1 : List Loc), t.heap = H1 → s.vm.Alike t.vm → post r u → B u t → H.size ≤ H1.size → (∀ q : Nat, q < H.size → ¬ A1 q → H1[q]? = H[q]?) → va_S A0 H0 H1 locs1 → W p l e R s m args below meth c H1 locs1 (cells + mc) (slots + ms) Q (F0 m (pc + 3) ls (.long r :: rest))) : W p l e R s m args below meth c H locs cells slots Q (F0 m pc ls st0) := by
  intro T hT X
  rcases hr T hT X with ⟨v, st₀, t, T', L, h0, X', hL, e1, e2, ⟨⟨r, u, hv, hp, hb⟩, hF⟩, st⟩ | ⟨q, st₀, t, T', L, E, ce, h0, X', hL, e1, e2, ⟨u, hp, hb, hF⟩, hce, hcv, hcl, st⟩
  · cases hv
    obtain ⟨k1, k2, k3⟩ := vx_keep h0 e1 hS hA hf hL hF
    obtain ⟨t2, a1, b1⟩ := kk r u t T'.heap (locs ++ L) e1.symm (by rw [← e2]; exact X'.warmed.alike) hp hb k1 k2 k3 T' rfl X'
    exact ⟨t2, st t2 a1, b1⟩
  · obtain ⟨k1, k2, k3⟩ := vx_keep h0 e1 hS hAX hf hL hF
    obtain ⟨t2, a1, b1⟩ := kx E ce q u t T'.heap (locs ++ L) e1.symm (by rw [← e2]; exact X'.warmed.alike) hp hb k1 k2 k3 (by rw [e1]; exact hce) hcv hcl T' rfl X'
    exact ⟨t2, st.trans a1, b1⟩
theorem vx_callf {S SX : Type} {post : UInt32 → S → Prop} {px : SX → Prop} {B : S → State → Prop} {BX : String → SX → State → Prop} {AX : Nat → Prop} (hr : vx_Run p l e R s m args below meth c H locs cells slots mc ms (F0 m pc ls st0) rest (va_Qf post B A1 a) (vx_X px BX AX) free) (hS : va_S A0 H0 H locs) (hA : ∀ q, q < H.size → A1 q → A0 q) (hf : ∀ q, free q → A0 q) (hAX : ∀ q, q < H.size → AX q → A0 q)
    (kx : ∀ (E : String) (ce : Cell) (q9 : Addr) (u : SX) (t : State) (H1 : Heap) (locs1 : List Loc), t.heap = H1 → s.vm.Alike t.vm → px u → BX E u t → H.size ≤ H1.size → (∀ q : Nat, q < H.size → ¬ AX q → H1[q]? = H[q]?) → va_S A0 H0 H1 locs1 → H1[q9]? = some ce → ce.vm = .none → s.vm.findClass E = some ce.cls → vx_W p l e R s m args below meth c H1 locs1 (cells + mc) (slots + ms) Q (F0 m pc ls rest) q9)
    (kk : ∀ (r : UInt32) (u : S) (t : State) (H1 : Heap) (locs1 : List Loc), t.heap = H1 → s.vm.Alike t.vm → post r u → B u t → H.size ≤ H1.size → (∀ q : Nat, q < H.size → ¬ A1 q → H1[q]? = H[q]?) → va_S A0 H0 H1 locs1 → W p l e R s m args below meth c H1 locs1 (cells + mc) (slots + ms) Q (F0 m (pc + 3) ls (.float r :: rest))) : W p l e R s m args below meth c H locs cells slots Q (F0 m pc ls st0) := by
  intro T hT X
  rcases hr T hT X with ⟨v, st₀, t, T', L, h0, X', hL, e1, e2, ⟨⟨r, u, hv, hp, hb⟩, hF⟩, st⟩ | ⟨q, st₀, t, T', L, E, ce, h0, X', hL, e1, e2, ⟨u, hp, hb, hF⟩, hce, hcv, hcl, st⟩
  · cases hv
    obtain ⟨k1, k2, k3⟩ := vx_keep h0 e1 hS hA hf hL hF
    obtain ⟨t2, a1, b1⟩ := kk r u t T'.heap (locs ++ L) e1.symm (by rw [← e2]; exact X'.warmed.alike) hp hb k1 k2 k3 T' rfl X'
    exact ⟨t2, st t2 a1, b1⟩
  · obtain ⟨k1, k2, k3⟩ := vx_keep h0 e1 hS hAX hf hL hF
    obtain ⟨t2, a1, b1⟩ := kx E ce q u t T'.heap (locs ++ L) e1.symm (by rw [← e2]; exact X'.warmed.alike) hp hb k1 k2 k3 (by rw [e1]; exact hce) hcv hcl T' rfl X'
    exact ⟨t2, st.trans a1, b1⟩
theorem vx_calld {S SX : Type} {post : UInt64 → S → Prop} {px : SX → Prop} {B : S → State → Prop} {BX : String → SX → State → Prop} {AX : Nat → Prop} (hr : vx_Run p l e R s m args below meth c H locs cells slots mc ms (F0 m pc ls st0) rest (va_Qd post B A1 a) (vx_X px BX AX) free) (hS : va_S A0 H0 H locs) (hA : ∀ q, q < H.size → A1 q → A0 q) (hf : ∀ q, free q → A0 q) (hAX : ∀ q, q < H.size → AX q → A0 q)
    (kx : ∀ (E : String) (ce : Cell) (q9 : Addr) (u : SX) (t : State) (H1 : Heap) (locs1 : List Loc), t.heap = H1 → s.vm.Alike t.vm → px u → BX E u t → H.size ≤ H1.size → (∀ q : Nat, q < H.size → ¬ AX q → H1[q]? = H[q]?) → va_S A0 H0 H1 locs1 → H1[q9]? = some ce → ce.vm = .none → s.vm.findClass E = some ce.cls → vx_W p l e R s m args below meth c H1 locs1 (cells + mc) (slots + ms) Q (F0 m pc ls rest) q9)
    (kk : ∀ (r : UInt64) (u : S) (t : State) (H1 : Heap) (locs1 : List Loc), t.heap = H1 → s.vm.Alike t.vm → post r u → B u t → H.size ≤ H1.size → (∀ q : Nat, q < H.size → ¬ A1 q → H1[q]? = H[q]?) → va_S A0 H0 H1 locs1 → W p l e R s m args below meth c H1 locs1 (cells + mc) (slots + ms) Q (F0 m (pc + 3) ls (.double r :: rest))) : W p l e R s m args below meth c H locs cells slots Q (F0 m pc ls st0) := by
  intro T hT X
  rcases hr T hT X with ⟨v, st₀, t, T', L, h0, X', hL, e1, e2, ⟨⟨r, u, hv, hp, hb⟩, hF⟩, st⟩ | ⟨q, st₀, t, T', L, E, ce, h0, X', hL, e1, e2, ⟨u, hp, hb, hF⟩, hce, hcv, hcl, st⟩
  · cases hv
    obtain ⟨k1, k2, k3⟩ := vx_keep h0 e1 hS hA hf hL hF
    obtain ⟨t2, a1, b1⟩ := kk r u t T'.heap (locs ++ L) e1.symm (by rw [← e2]; exact X'.warmed.alike) hp hb k1 k2 k3 T' rfl X'
    exact ⟨t2, st t2 a1, b1⟩
  · obtain ⟨k1, k2, k3⟩ := vx_keep h0 e1 hS hAX hf hL hF
    obtain ⟨t2, a1, b1⟩ := kx E ce q u t T'.heap (locs ++ L) e1.symm (by rw [← e2]; exact X'.warmed.alike) hp hb k1 k2 k3 (by rw [e1]; exact hce) hcv hcl T' rfl X'
    exact ⟨t2, st.trans a1, b1⟩
theorem vx_callv {S SX : Type} {post : S → Prop} {px : SX → Prop} {B : S → State → Prop} {BX : String → SX → State → Prop} {AX : Nat → Prop} (hr : vx_Run p l e R s m args below meth c H locs cells slots mc ms (F0 m pc ls st0) rest (va_Qv post B A1 a) (vx_X px BX AX) free) (hS : va_S A0 H0 H locs) (hA : ∀ q, q < H.size → A1 q → A0 q) (hf : ∀ q, free q → A0 q) (hAX : ∀ q, q < H.size → AX q → A0 q)
    (kx : ∀ (E : String) (ce : Cell) (q9 : Addr) (u : SX) (t : State) (H1 : Heap) (locs1 : List Loc), t.heap = H1 → s.vm.Alike t.vm → px u → BX E u t → H.size ≤ H1.size → (∀ q : Nat, q < H.size → ¬ AX q → H1[q]? = H[q]?) → va_S A0 H0 H1 locs1 → H1[q9]? = some ce → ce.vm = .none → s.vm.findClass E = some ce.cls → vx_W p l e R s m args below meth c H1 locs1 (cells + mc) (slots + ms) Q (F0 m pc ls rest) q9)
    (kk : ∀ (u : S) (t : State) (H1 : Heap) (locs1 : List Loc), t.heap = H1 → s.vm.Alike t.vm → post u → B u t → H.size ≤ H1.size → (∀ q : Nat, q < H.size → ¬ A1 q → H1[q]? = H[q]?) → va_S A0 H0 H1 locs1 → W p l e R s m args below meth c H1 locs1 (cells + mc) (slots + ms) Q (F0 m (pc + 3) ls (rest))) : W p l e R s m args below meth c H locs cells slots Q (F0 m pc ls st0) := by
  intro T hT X
  rcases hr T hT X with ⟨v, st₀, t, T', L, h0, X', hL, e1, e2, ⟨⟨u, hv, hp, hb⟩, hF⟩, st⟩ | ⟨q, st₀, t, T', L, E, ce, h0, X', hL, e1, e2, ⟨u, hp, hb, hF⟩, hce, hcv, hcl, st⟩
  · cases hv
    obtain ⟨k1, k2, k3⟩ := vx_keep h0 e1 hS hA hf hL hF
    obtain ⟨t2, a1, b1⟩ := kk u t T'.heap (locs ++ L) e1.symm (by rw [← e2]; exact X'.warmed.alike) hp hb k1 k2 k3 T' rfl X'
    exact ⟨t2, st t2 a1, b1⟩
  · obtain ⟨k1, k2, k3⟩ := vx_keep h0 e1 hS hAX hf hL hF
    obtain ⟨t2, a1, b1⟩ := kx E ce q u t T'.heap (locs ++ L) e1.symm (by rw [← e2]; exact X'.warmed.alike) hp hb k1 k2 k3 (by rw [e1]; exact hce) hcv hcl T' rfl X'
    exact ⟨t2, st.trans a1, b1⟩
/-- caught by the row x of this method's table; the rows ahead don't take it -/
theorem vx_catch {own name : String} {E : String} {ce : Cell} {q : Addr} (hown : s.vm.findClass own = some m.cls) (pre : List ExceptionTableEntry) (x : ExceptionTableEntry) (suf : List ExceptionTableEntry) (hsplit : c.exceptionTable.toList = pre ++ x :: suf)
    (hpass : ∀ z ∈ pre, covers z pc = false ∨ (z.catchType ≠ 0 ∧ ∃ nm : String, (Cond.classLink own z.catchType nm).before args s = true ∧ va_Nc E nm s)) (hx : covers x pc = true) (h0 : x.catchType ≠ 0)
    (hlink : (Cond.classLink own x.catchType name).before args s = true) (hcast : (Cond.castable E name).before args s = true) (hcell : H[q]? = some ce) (hv : ce.vm = .none) (hcl : s.vm.findClass E = some ce.cls)
    (kk : W p l e R s m args below meth c H locs cells slots Q (F0 m x.handlerPc ls [.ref q])) : vx_W p l e R s m args below meth c H locs cells slots Q (F0 m pc ls rest) q := by
  intro T hT X
  have hpl : e.platform.magicAccessors = ({} : Platform).magicAccessors := by rw [X.admits.platform]
  obtain ⟨c3, c4, hc3, hc4, hasg⟩ := Cond.castable_spec hcast
  cases Option.some.inj (hc3.symm.trans hcl)
  obtain ⟨c5, hc5, hcl5⟩ := Cond.classLink_spec hown hlink e.platform hpl
  cases Option.some.inj (hc4.symm.trans hc5)
  obtain ⟨vm', X', st⟩ := X.thenCaughtThrough q (g := F0 m pc ls rest) rfl (Steps.refl _) (by rw [hT]; exact hcell) (by rw [hv]; rfl) (by obtain ⟨k9, h9, -⟩ := Vm.findClass_spec hcl; exact ⟨k9, h9⟩) pre x suf hsplit
    (fun z hz => by
      rcases hpass z hz with h | ⟨hz0, nm, hl1, hn1⟩
      · exact Or.inl h
      · obtain ⟨c6, hc6, hcl6⟩ := Cond.classLink_spec hown hl1 e.platform hpl
        obtain ⟨a8, b8, h1, h2, h3⟩ := hn1
        cases Option.some.inj (h1.symm.trans hcl)
        cases Option.some.inj (h2.symm.trans hc6)
        exact Or.inr ⟨hz0, _, hcl6, h3⟩) hx (Or.inr ⟨h0, c4, hcl5, hasg⟩)
  obtain ⟨t, a1, b1⟩ := kk (T.setVm vm') hT X'
  exact ⟨t, st.trans a1, b1⟩
end Rows
section Ends
variable {p : Program} {l : Launch} {e : Env} {R : Room} {s : State} {m : MethodId} {args : Array Value} {below : List Frame} {meth : Method} {c : Code} {H : Heap} {locs : List Loc} {cells slots : Nat} {Q : State → Prop}
variable {mc ms : Nat} {free : Addr → Prop} {A0 A1 : Nat → Prop} {H0 : Heap} {a : Array Value} {ls : Array Slot} {st0 rest : List Value}
variable {Qc : Array Value → State → Outcome → State → Prop} {XC : String → State → State → Prop}
/-- what a body that may throw owes at its end -/
def vx_MQ (below : List Frame) (Qc : Array Value → State → Outcome → State → Prop) (XC : String → State → State → Prop) (a : Array Value) (s : State) (mc ms : Nat) (free : Addr → Prop) : State → Prop := fun t =>
  ∃ o, t.status = .running ∧ Ended t below o ∧ vx_Q Qc XC mc ms free a s o t
theorem vx_ret {g : JFrame} {mc ms : Nat} (k : W p l e R s m args below meth c H locs cells slots (MQ below Qc args s mc ms free) g) : W p l e R s m args below meth c H locs cells slots (vx_MQ below Qc XC args s mc ms free) g := by
  intro T hT X
  obtain ⟨t, a1, o, b1, b2, b3, b4⟩ := k T hT X
  exact ⟨t, a1, o, b1, b2, Or.inl ⟨b3, b4⟩⟩
/-- not caught here: it goes on to the caller -/
theorem vx_widen {g : JFrame} {q : Addr} {k n : Nat} (h1 : cells ≤ k) (h2 : slots ≤ n) (kk : vx_W p l e R s m args below meth c H locs k n Q g q) : vx_W p l e R s m args below meth c H locs cells slots Q g q := fun T hT X => kk T hT (stand_widen X h1 h2)
theorem vx_out {pc : Nat} {E : String} {ce : Cell} {q : Addr} {mc ms : Nat} (hout : ∀ x ∈ c.exceptionTable.toList, covers x pc = false) (hlocks : meth.locks = false) (hcell : H[q]? = some ce) (hv : ce.vm = .none) (hcl : s.vm.findClass E = some ce.cls)
    (hx : ∀ t : State, t.heap = H → s.vm.Alike t.vm → XC E s t) (hf : ∀ z ∈ locs, free z.base) (hc : cells ≤ mc) (hs : slots ≤ ms) :
    vx_W p l e R s m args below meth c H locs cells slots (vx_MQ below Qc XC args s mc ms free) (F0 m pc ls rest) q := by
  intro T hT X
  obtain ⟨st1, hrun, hend, hW, hsm⟩ := X.leaveThrown q (g := F0 m pc ls rest) rfl rfl rfl hout hlocks
  have hcell9 : (T.setFrames (.throwing q :: below)).heap[q]? = some ce := by
    show T.heap[q]? = some ce
    rw [hT]; exact hcell
  exact ⟨_, st1, .threw q, hrun, hend, Or.inr ⟨q, rfl, E, ce, locs, hx _ hT hW.alike, hcell9, hv, hcl, hW, hsm.mono hc hs, hf⟩⟩
theorem vx_frame {U : State} {k n : Nat} (h : s.sameButNew ({ U with vm := s.vm } : State) locs k n) : s.heap.size ≤ U.heap.size ∧ ∀ q : Nat, q < s.heap.size → (∀ z ∈ locs, z.base ≠ q) → U.heap[q]? = s.heap[q]? := by
  obtain ⟨-, h2, -, -, -, h6⟩ := h
  refine ⟨h2, fun q hq hz => ?_⟩
  obtain ⟨c9, e1, e2, e3, e4⟩ := h6 q _ (Array.getElem?_eq_getElem hq)
  have hs : c9.slots = (s.heap[q]).slots := Array.ext_getElem? fun i => e4 i fun hm => hz _ hm rfl
  have h9 : c9 = s.heap[q] := by
    rw [hs] at e2
    exact e2
  have e5 : U.heap[q]? = some c9 := e1
  rw [e5, h9, Array.getElem?_eq_getElem hq]
/-- the words of a throw but the four that speak of the heap -/
def vx_no (w : Cond) : Bool := decide (w ≠ .isRef (.static Bundle.tN "UNASSIGNED_STACK" Bundle.steD)) && decide (w ≠ .isRef (.static Bundle.tN "SUPPRESSED_SENTINEL" Bundle.listD)) && decide (w ≠ .laysStatic Bundle.tN "UNASSIGNED_STACK" Bundle.steD) && decide (w ≠ .laysStatic Bundle.tN "SUPPRESSED_SENTINEL" Bundle.listD)
def vx_at0 (own : String) (ic : Nat) (X : String) (names : List String) : List Cond := (Bundle.ownAtoms0 own ic X names).filter vx_no
def vx_atS (own : String) (ic : Nat) (X : String) (names : List String) : List Cond := (Bundle.ownAtoms own ic X names).filter vx_no
/-- a word that the tables alone decide, or a good one -/
def vx_ot (w : Cond) : Bool := w.onTables || goodWord w
theorem vx_ot_at {args a' : Array Value} {s U : State} {w : Cond} (hW : s.WarmedH U.vm) (hvm : s.vm = U.vm) (hg : vx_ot w = true) (h : w.before args s = true) : w.before a' U = true := by
  simp only [vx_ot, Bool.or_eq_true] at hg
  rcases hg with hg | hg
  · exact va_tabs hg hvm h
  · exact word_at hW (good_of_word hg) h
/-- a list's words: the good ones out of the method's own list, the others by premises of their own -/
theorem vx_hat {args : Array Value} {s : State} {L B : List Cond} (h1 : ∀ w ∈ L.filter goodWord, w.before args s = true) (h2 : ∀ w ∈ L.filter (fun w => !goodWord w), w ∈ B) (h3 : ∀ w ∈ B, w.before args s = true) : ∀ w ∈ L, w.before args s = true := by
  intro w hw
  by_cases g : goodWord w = true
  · exact h1 w (List.mem_filter.mpr ⟨hw, g⟩)
  · refine h3 w (h2 w (List.mem_filter.mpr ⟨hw, ?_⟩))
    show (!goodWord w) = true
    cases hgw : goodWord w
    · rfl
    · exact absurd hgw g
theorem vx_c {args : Array Value} {s : State} {w : Cond} {B : List Cond} (h : w.before args s = true) (t : ∀ w ∈ B, w.before args s = true) : ∀ w' ∈ w :: B, w'.before args s = true := fun w' h' => (List.mem_cons.mp h').elim (fun e => by rw [e]; exact h) (t w')
theorem vx_n {args : Array Value} {s : State} : ∀ w ∈ ([] : List Cond), w.before args s = true := fun _ h => nomatch h
theorem vx_own {args : Array Value} {s : State} {L : List Cond} (h1 : ∀ w ∈ L.filter vx_no, w.before args s = true)
    (hU : (Cond.isRef (.static Bundle.tN "UNASSIGNED_STACK" Bundle.steD)).before args s = true) (hN : (Cond.isRef (.static Bundle.tN "SUPPRESSED_SENTINEL" Bundle.listD)).before args s = true)
    (lU : (Cond.laysStatic Bundle.tN "UNASSIGNED_STACK" Bundle.steD).before args s = true) (lN : (Cond.laysStatic Bundle.tN "SUPPRESSED_SENTINEL" Bundle.listD).before args s = true) : ∀ w ∈ L, w.before args s = true := by
  intro w hw
  by_cases e1 : w = .isRef (.static Bundle.tN "UNASSIGNED_STACK" Bundle.steD)
  · rw [e1]; exact hU
  · by_cases e2 : w = .isRef (.static Bundle.tN "SUPPRESSED_SENTINEL" Bundle.listD)
    · rw [e2]; exact hN
    · by_cases e3 : w = .laysStatic Bundle.tN "UNASSIGNED_STACK" Bundle.steD
      · rw [e3]; exact lU
      · by_cases e4 : w = .laysStatic Bundle.tN "SUPPRESSED_SENTINEL" Bundle.listD
        · rw [e4]; exact lN
        · exact h1 w (List.mem_filter.mpr ⟨hw, by unfold vx_no; rw [decide_eq_true e1, decide_eq_true e2, decide_eq_true e3, decide_eq_true e4]; rfl⟩)
/-- where a static field lies, its class's statics cell in H -/
def vx_L (C n d : String) (A : Nat → Prop) (U : State) (H : Heap) : Prop := ∃ (c : ClassId) (k : Class) (i : Nat) (f : Field) (a : Nat) (cell : Cell), U.vm.findClass C = some c ∧ U.fieldFound? C n d = some (c, k, i, f) ∧ f.isStatic = true ∧ k.statics = some a ∧ H[a]? = some cell ∧ cell.vm.isStatics = true ∧ cell.cls = c ∧ f.slot < cell.slots.size ∧ k.staticTypes[f.slot]? = some f.type ∧ ¬ A a
theorem vx_L.moved {C n d : String} {A : Nat → Prop} {u U : State} {H : Heap} (hvm : u.vm.Alike U.vm) (h : vx_L C n d A u H) : vx_L C n d A U H := by
  obtain ⟨c, k, i, f, a, cell, h1, h2, h3, h4, h5, h6, h7, h8, h9, h10⟩ := h
  obtain ⟨k', hi', he⟩ := State.fieldFound?_setVm hvm h2
  exact ⟨c, k', i, f, a, cell, by rw [hvm.findClass]; exact h1, hi', h3, by rw [he]; exact h4, h5, h6, h7, h8, by rw [he]; exact h9, h10⟩
theorem vx_L.kept {C n d : String} {A : Nat → Prop} {U : State} {H H1 : Heap} (h : vx_L C n d A U H) (hq : ∀ a : Nat, a < H.size → ¬ A a → H1[a]? = H[a]?) : vx_L C n d A U H1 := by
  obtain ⟨c, k, i, f, a, cell, h1, h2, h3, h4, h5, h6, h7, h8, h9, h10⟩ := h
  exact ⟨c, k, i, f, a, cell, h1, h2, h3, h4, by rw [hq a (Array.getElem?_eq_some_iff.mp h5).1 h10]; exact h5, h6, h7, h8, h9, h10⟩
theorem vx_L.narrow {C n d : String} {A B : Nat → Prop} {U : State} {H : Heap} (h : vx_L C n d A U H) (hAB : ∀ q, B q → A q) : vx_L C n d B U H := by
  obtain ⟨c, k, i, f, a, cell, h1, h2, h3, h4, h5, h6, h7, h8, h9, h10⟩ := h
  exact ⟨c, k, i, f, a, cell, h1, h2, h3, h4, h5, h6, h7, h8, h9, fun z => h10 (hAB _ z)⟩
theorem vx_L.word {C n d : String} {A : Nat → Prop} {s : State} {args : Array Value} (h : vx_L C n d A s s.heap) : (Cond.laysStatic C n d).before args s = true := by
  obtain ⟨c, k, i, f, a, cell, h1, h2, h3, h4, h5, h6, h7, h8, h9, -⟩ := h
  show (Cond.laysStatic C n d).holds args s none s [] = true
  exact Cond.laysStatic_of h1 h2 h3 h4 h5 h6 h7 h8 h9
/-- .. and what it holds: null or some reference -/
def vx_Zq (C n d : String) (A : Nat → Prop) (U : State) (H : Heap) : Prop := va_Zq C n d A U H ∧ vx_L C n d A U H
theorem vx_Zq.moved {C n d : String} {A : Nat → Prop} {u U : State} {H : Heap} (hvm : u.vm.Alike U.vm) (h : vx_Zq C n d A u H) : vx_Zq C n d A U H := ⟨va_Zq.moved hvm h.1, vx_L.moved hvm h.2⟩
theorem vx_Zq.kept {C n d : String} {A : Nat → Prop} {U : State} {H H1 : Heap} (h : vx_Zq C n d A U H) (hq : ∀ a : Nat, a < H.size → ¬ A a → H1[a]? = H[a]?) : vx_Zq C n d A U H1 := ⟨va_Zq.kept h.1 hq, vx_L.kept h.2 hq⟩
theorem vx_Zq.narrow {C n d : String} {A B : Nat → Prop} {U : State} {H : Heap} (h : vx_Zq C n d A U H) (hAB : ∀ q, B q → A q) : vx_Zq C n d B U H := ⟨va_Zq.narrow h.1 hAB, vx_L.narrow h.2 hAB⟩
theorem vx_Zqof {args : Array Value} {s : State} {C n d : String} {A : Nat → Prop} (hl : (Cond.laysStatic C n d).before args s = true) (hini : (Cond.initialized C).before args s = true) (h : (Cond.isRef (.static C n d)).before args s = true) (hA : ∀ a : Nat, a < s.heap.size → ¬ A a) : vx_Zq C n d A s s.heap := by
  refine ⟨va_Zqof hl hini h hA, ?_⟩
  obtain ⟨c, k, i, f, a, cell, h1, h2, h3, h4, h5, h6, h7, h8, h9⟩ := Cond.laysStatic_spec hl
  exact ⟨c, k, i, f, a, cell, h1, h2, h3, h4, h5, h6, h7, h8, h9, hA a (Array.getElem?_eq_some_iff.mp h5).1⟩
theorem vx_isRef {C n d : String} {v : Value} {A : Nat → Prop} {s : State} {args : Array Value} (h : va_Z C n d v A s s.heap) (hv : v.isRef = true) : (Cond.isRef (.static C n d)).before args s = true := by
  obtain ⟨cf, kf, fi, f, a, cell, h1, h2, h3, h4, h5, h6, h7, -⟩ := h
  have he : (Term.static C n d).eval args s none [] s = some v := by
    simp [Term.eval, State.fieldNamed?, h1, h2, h4, h5, h6, h7]
  simp only [Cond.before, Cond.holds, Cond.value, he]
  cases v <;> simp_all [Value.isRef]
theorem vx_isRefq {C n d : String} {A : Nat → Prop} {s : State} {args : Array Value} (h : va_Zq C n d A s s.heap) : (Cond.isRef (.static C n d)).before args s = true := by
  rcases h with h | ⟨t, h⟩
  · exact vx_isRef h rfl
  · exact vx_isRef h rfl
/-- the same frame, seen from here: as if the method were called anew in this heap -/
theorem vx_rebase {T : State} (X : Stand p l e R s m args below meth c T locs cells slots) {R' : Room} (hf : R'.frames ≤ R.frames) (hl : R'.locals ≤ R.locals) (hc : cells + R'.cells ≤ R.cells) (hs : slots + R'.slots ≤ R.slots) :
    Stand p l e R' ((T.setVm s.vm).setFrames (.invoking m args :: below)) m args below meth c T [] 0 0 := by
  have htop : (T.setVm s.vm).topJava?.isSome := X.here.top
  have hF : ((T.setVm s.vm).setFrames (.invoking m args :: below)).frames = .invoking m args :: below := State.frames_setFrames _ (State.cur_lt_of_top htop)
  obtain ⟨g₀, hg0⟩ := Option.isSome_iff_exists.mp htop
  obtain ⟨r, hr⟩ := State.topJava?_eq_some.mp hg0
  have hl9 : e.platform.stackLimits (T.setVm s.vm).me = e.platform.stackLimits s.me := X.limits
  have hb9 : (T.setVm s.vm).me.stackBytes = s.me.stackBytes := X.bytes
  refine ⟨X.admits, X.cas, X.clock, hF, ?_, X.hears, X.method, X.code, X.here, X.tail, X.warmed, ?_, ?_, ?_⟩
  · have h := X.room
    have hU : ((T.setVm s.vm).setFrames (.invoking m args :: below)).localsInUse = s.localsInUse := by
      rw [State.localsInUse_invoking hF (meth := meth) (c := c) X.method X.code, State.localsInUse_invoking X.frames X.method X.code]
    simp only [State.hasRoom, Bool.and_eq_true, decide_eq_true_eq] at h ⊢
    obtain ⟨⟨⟨⟨h1, h2, h3, h4, h5, h6⟩, h7⟩, h8⟩, h9⟩ := h
    rw [X.frames, List.length_cons] at h2 h3
    have q1 := X.heapSize
    have q2 := X.used
    simp only [hF, hU, List.length_cons, State.stackLimits_setFrames, State.stackBytes_setFrames, hl9, hb9]
    refine ⟨⟨⟨⟨by omega, by omega, by omega, by omega, by omega, h6⟩, ?_⟩, ?_⟩, X.book⟩
    · show T.heap.size + R'.cells ≤ e.platform.maxCells
      omega
    · show T.slotsUsed + R'.slots ≤ e.platform.maxSlots
      omega
  · rw [State.stackLimits_setFrames]; rfl
  · rw [State.stackBytes_setFrames]; rfl
  · refine ⟨?_, Nat.le_refl _, Nat.le_refl _, ?_, ?_, fun a c9 h9 => ⟨c9, h9, rfl, rfl, fun _ _ => rfl⟩⟩
    · obtain ⟨t, ht, -⟩ := State.frames_cons hr
      show T.setVm s.vm = { ((T.setVm s.vm).setFrames (.invoking m args :: below)).setFrames (T.setVm s.vm).frames with heap := T.heap, slotsUsed := T.slotsUsed }
      rw [State.setFrames_setFrames, State.setFrames_self ht]
      rfl
    · show T.slotsUsed = T.slotsUsed + ((T.heap.toList.drop T.heap.size).map (·.slots.size)).sum
      rw [List.drop_eq_nil_of_le (Nat.le_of_eq Array.length_toList)]
      rfl
    · show ((T.heap.toList.drop T.heap.size).map (·.slots.size)).sum ≤ 0
      rw [List.drop_eq_nil_of_le (Nat.le_of_eq Array.length_toList)]
      exact Nat.le_refl _
/-- 'throw new E()': new; dup; invokespecial; athrow -/
theorem vx_throw0 {cc : ByteArray} {pc : Nat} (hexec : p.tables.exec = Jvm.exec) (hb : c.code = cc) (hl : l.stackTraces = false) {own cls : String} {names : List String} {ik ic mc ms : Nat} {A : Nat → Prop}
    (hown : s.vm.findClass own = some m.cls) (hcls : Bundle.fit cls = true) (hnames : ∀ n ∈ names, Bundle.fit n = true)
    (hk : (Cond.classLink own ik cls).before args s = true) (hini : (Cond.initialized cls).before args s = true) (hat : ∀ w ∈ vx_at0 own ic cls names, w.before args s = true)
    (hgood : ∀ w ∈ Cond.classLink own ik cls :: Cond.initialized cls :: vx_at0 own ic cls names, vx_ot w = true)
    (hU : vx_Zq Bundle.tN "UNASSIGNED_STACK" Bundle.steD A s s.heap) (hN : vx_Zq Bundle.tN "SUPPRESSED_SENTINEL" Bundle.listD A s s.heap) (hS : va_S A s.heap H locs) (hsize : ls.size = c.maxLocals)
    (d0 : decode cc pc = .ok (.new ik, 3)) (d3 : decode cc (pc + 3) = .ok (.dup, 1)) (d4 : decode cc (pc + 4) = .ok (.invokespecial ic, 3)) (d7 : decode cc (pc + 7) = .ok (.athrow, 1))
    (hout : ∀ x ∈ c.exceptionTable.toList, covers x (pc + 7) = false)
    (hRframes : names.length + 3 < R.frames) (hRlocals : (rest.map fun v => v.category).sum + (13 * (names.length + 1) + 42) ≤ R.locals) (hRcells : cells + 1 ≤ R.cells) (hRslots : slots + 6 ≤ R.slots) (hlocks : meth.locks = false)
    (hx : ∀ t : State, s.vm.Alike t.vm → H.size ≤ t.heap.size → (∀ q : Nat, q < H.size → t.heap[q]? = H[q]?) → XC cls s t)
    (hf : ∀ z ∈ locs, free z.base) (hc : cells + 1 ≤ mc) (hs : slots + 6 ≤ ms) :
    W p l e R s m args below meth c H locs cells slots (vx_MQ below Qc XC args s mc ms free) (F0 m pc ls rest) := by
  intro T hT X
  have htr : e.platform.stackTraces = false := (show e.platform.stackTraces = l.stackTraces by rw [X.admits.platform]).trans hl
  have Y := vx_rebase X (R' := { frames := R.frames, locals := R.locals, cells := 1, slots := 6 }) (Nat.le_refl _) (Nat.le_refl _) hRcells hRslots
  obtain ⟨s', hA⟩ : ∃ z, z = (T.setVm s.vm).setFrames (.invoking m args :: below) := ⟨_, rfl⟩
  rw [← hA] at Y
  have hvm : s'.vm = s.vm := by rw [hA]; rfl
  have hhp : s'.heap = H := by rw [hA]; exact hT
  have hW0 : s.WarmedH s'.vm := by rw [hvm]; exact State.WarmedH.refl s
  have hat' : ∀ w ∈ vx_at0 own ic cls names, w.before args s' = true := fun w hw => vx_ot_at hW0 hvm.symm (hgood w (List.mem_cons_of_mem _ (List.mem_cons_of_mem _ hw))) (hat w hw)
  have hk' : (Cond.classLink own ik cls).before args s' = true := vx_ot_at hW0 hvm.symm (hgood _ List.mem_cons_self) hk
  have hini' : (Cond.initialized cls).before args s' = true := vx_ot_at hW0 hvm.symm (hgood _ (List.mem_cons_of_mem _ List.mem_cons_self)) hini
  have hU' : vx_Zq Bundle.tN "UNASSIGNED_STACK" Bundle.steD A s' s'.heap := by rw [hhp]; exact vx_Zq.moved hW0.alike (hU.kept hS.2.1)
  have hN' : vx_Zq Bundle.tN "SUPPRESSED_SENTINEL" Bundle.listD A s' s'.heap := by rw [hhp]; exact vx_Zq.moved hW0.alike (hN.kept hS.2.1)
  have h : ∀ w ∈ Bundle.ownAtoms0 own ic cls names, w.before args s' = true := vx_own hat' (vx_isRefq hU'.1) (vx_isRefq hN'.1) hU'.2.word hN'.2.word
  have hown' : s'.vm.findClass own = some m.cls := by rw [hvm]; exact hown
  have hins : (Cond.instantiable cls 6).before args s' = true := h _ (by simp [Bundle.ownAtoms0])
  obtain ⟨vm₁, cX, kX, hfX, hkX, -, -, X₁, st1⟩ := Y.newCold hexec (own := own) (C := cls) (index := ik) (n := 6) hown' hk' hins hini'
    (g := F0 m pc ls rest) rfl (by rw [hb]; exact d0) (Nat.le_refl _) (Nat.le_refl _)
  generalize hT1 : (T.setVm vm₁).pushCell { cls := cX, slots := kX.instanceTypes.map defaultValue, vm := .none } = T1 at X₁ st1
  have hcat : (Value.ref T.heap.size).category = 1 := rfl
  have hcellA : T1.heap[T.heap.size]? = some (freshCell cX kX) := by rw [← hT1]; exact State.heap_pushCell_size _ _
  have d3' : decode c.code (pc + 3) = .ok (.dup, 1) := by rw [hb]; exact d3
  obtain ⟨U, hsteps, hrun, hend, hW, hsame, ce, hce, hO⟩ := X₁.ctorThrow0 hexec htr (own := own) (cls := cls) (names := names) (ic := ic) hown' hcls hnames h (fun x hx => nomatch hx) hfX hkX hcellA (by rw [hhp, hT]; exact Nat.le_refl _)
    (g := { method := m, pc := pc + 4, locals := ls, stack := .ref T.heap.size :: .ref T.heap.size :: rest, locked := none }) rfl hsize rfl rfl (rest := rest) rfl
    (by rw [hb]; exact d4) (by rw [hb]; exact d7) hout hRframes (by simp only [List.map_cons, List.sum_cons, hcat]; omega) hlocks
  obtain ⟨f1, f2⟩ := vx_frame hsame
  rw [hhp] at f1 f2
  have hWs : s.WarmedH U.vm := State.WarmedH.trans hW0 hW
  have hcl : s.vm.findClass cls = some ce.cls := by
    have h9 := hO.cls
    rw [hvm] at h9
    exact h9
  have hall : s.sameButNew ({ U with vm := s.vm } : State) locs mc ms := by
    subst hA
    obtain ⟨e1, e2⟩ := hsame
    rw [State.setFrames_setFrames] at e1
    have h2 : (T.setVm s.vm).sameButNew ({ U with vm := s.vm } : State) [] (0 + 1) (0 + 6) := ⟨e1, e2⟩
    have h3 := X.same.trans h2
    rw [List.append_nil] at h3
    exact h3.mono hc hs
  refine ⟨U, ?_, .threw T.heap.size, hrun, hend, Or.inr ⟨T.heap.size, rfl, cls, ce, locs, hx U hWs.alike f1 (fun q hq => f2 q hq (fun z hz => nomatch hz)), hce, hO.vm, hcl, hWs, hall, hf⟩⟩
  refine st1 _ ?_
  show Steps p.tables e below (T1.setTop { method := m, pc := pc + 3, locals := ls, stack := .ref T.heap.size :: rest, locked := none }) _
  jvm_step X₁.here [X₁.here.top, hexec, d3', Value.category]
  exact hsteps
/-- 'throw new E("text")': new; dup; ldc; invokespecial; athrow -/
theorem vx_throwS {cc : ByteArray} {pc : Nat} (hexec : p.tables.exec = Jvm.exec) (hb : c.code = cc) (hl : l.stackTraces = false) {own cls text : String} {names : List String} {ik is ic mc ms sa : Nat} {A : Nat → Prop}
    (hown : s.vm.findClass own = some m.cls) (hcls : Bundle.fit cls = true) (hnames : ∀ n ∈ names, Bundle.fit n = true)
    (hk : (Cond.classLink own ik cls).before args s = true) (hini : (Cond.initialized cls).before args s = true) (hstr : vk_R own is text sa s) (hat : ∀ w ∈ vx_atS own ic cls names, w.before args s = true)
    (hgood : ∀ w ∈ Cond.classLink own ik cls :: Cond.initialized cls :: vx_atS own ic cls names, vx_ot w = true)
    (hU : vx_Zq Bundle.tN "UNASSIGNED_STACK" Bundle.steD A s s.heap) (hN : vx_Zq Bundle.tN "SUPPRESSED_SENTINEL" Bundle.listD A s s.heap) (hS : va_S A s.heap H locs) (hsize : ls.size = c.maxLocals)
    (d0 : decode cc pc = .ok (.new ik, 3)) (d3 : decode cc (pc + 3) = .ok (.dup, 1)) (d4 : decode cc (pc + 4) = .ok (.ldc is, 2)) (d6 : decode cc (pc + 6) = .ok (.invokespecial ic, 3)) (d9 : decode cc (pc + 9) = .ok (.athrow, 1))
    (hout : ∀ x ∈ c.exceptionTable.toList, covers x (pc + 9) = false)
    (hRframes : names.length + 3 < R.frames) (hRlocals : (rest.map fun v => v.category).sum + (13 * (names.length + 1) + 43) ≤ R.locals) (hRcells : cells + 1 ≤ R.cells) (hRslots : slots + 6 ≤ R.slots) (hlocks : meth.locks = false)
    (hx : ∀ t : State, s.vm.Alike t.vm → H.size ≤ t.heap.size → (∀ q : Nat, q < H.size → t.heap[q]? = H[q]?) → XC cls s t)
    (hf : ∀ z ∈ locs, free z.base) (hc : cells + 1 ≤ mc) (hs : slots + 6 ≤ ms) :
    W p l e R s m args below meth c H locs cells slots (vx_MQ below Qc XC args s mc ms free) (F0 m pc ls rest) := by
  intro T hT X
  have htr : e.platform.stackTraces = false := (show e.platform.stackTraces = l.stackTraces by rw [X.admits.platform]).trans hl
  have Y := vx_rebase X (R' := { frames := R.frames, locals := R.locals, cells := 1, slots := 6 }) (Nat.le_refl _) (Nat.le_refl _) hRcells hRslots
  obtain ⟨s', hA⟩ : ∃ z, z = (T.setVm s.vm).setFrames (.invoking m args :: below) := ⟨_, rfl⟩
  rw [← hA] at Y
  have hvm : s'.vm = s.vm := by rw [hA]; rfl
  have hhp : s'.heap = H := by rw [hA]; exact hT
  have hW0 : s.WarmedH s'.vm := by rw [hvm]; exact State.WarmedH.refl s
  have hat' : ∀ w ∈ vx_atS own ic cls names, w.before args s' = true := fun w hw => vx_ot_at hW0 hvm.symm (hgood w (List.mem_cons_of_mem _ (List.mem_cons_of_mem _ hw))) (hat w hw)
  have hk' : (Cond.classLink own ik cls).before args s' = true := vx_ot_at hW0 hvm.symm (hgood _ List.mem_cons_self) hk
  have hini' : (Cond.initialized cls).before args s' = true := vx_ot_at hW0 hvm.symm (hgood _ (List.mem_cons_of_mem _ List.mem_cons_self)) hini
  have hU' : vx_Zq Bundle.tN "UNASSIGNED_STACK" Bundle.steD A s' s'.heap := by rw [hhp]; exact vx_Zq.moved hW0.alike (hU.kept hS.2.1)
  have hN' : vx_Zq Bundle.tN "SUPPRESSED_SENTINEL" Bundle.listD A s' s'.heap := by rw [hhp]; exact vx_Zq.moved hW0.alike (hN.kept hS.2.1)
  have h : ∀ w ∈ Bundle.ownAtoms own ic cls names, w.before args s' = true := vx_own hat' (vx_isRefq hU'.1) (vx_isRefq hN'.1) hU'.2.word hN'.2.word
  have hown' : s'.vm.findClass own = some m.cls := by rw [hvm]; exact hown
  have hins : (Cond.instantiable cls 6).before args s' = true := h _ (by simp [Bundle.ownAtoms])
  obtain ⟨vm₁, cX, kX, hfX, hkX, -, -, X₁, st1⟩ := Y.newCold hexec (own := own) (C := cls) (index := ik) (n := 6) hown' hk' hins hini'
    (g := F0 m pc ls rest) rfl (by rw [hb]; exact d0) (Nat.le_refl _) (Nat.le_refl _)
  generalize hT1 : (T.setVm vm₁).pushCell { cls := cX, slots := kX.instanceTypes.map defaultValue, vm := .none } = T1 at X₁ st1
  have hcat : (Value.ref T.heap.size).category = 1 := rfl
  have hcellA : T1.heap[T.heap.size]? = some (freshCell cX kX) := by rw [← hT1]; exact State.heap_pushCell_size _ _
  have d3' : decode c.code (pc + 3) = .ok (.dup, 1) := by rw [hb]; exact d3
  have d4' : decode c.code (pc + 4) = .ok (.ldc is, 2) := by rw [hb]; exact d4
  have hstr' : vk_R own is text sa s' := vk_R.warm hW0 hstr
  obtain ⟨U, hsteps, hrun, hend, hW, hsame, ce, hce, hO⟩ := X₁.ctorThrowS hexec htr (own := own) (cls := cls) (names := names) (ic := ic) hown' hcls hnames h (fun x hx => nomatch hx) hfX hkX hcellA (by rw [hhp, hT]; exact Nat.le_refl _) (msg := .ref sa) rfl
    (g := { method := m, pc := pc + 6, locals := ls, stack := .ref sa :: .ref T.heap.size :: .ref T.heap.size :: rest, locked := none }) rfl hsize rfl rfl (rest := rest) rfl
    (by rw [hb]; exact d6) (by rw [hb]; exact d9) hout hRframes (by simp only [List.map_cons, List.sum_cons, hcat]; omega) hlocks
  obtain ⟨f1, f2⟩ := vx_frame hsame
  rw [hhp] at f1 f2
  have hWs : s.WarmedH U.vm := State.WarmedH.trans hW0 hW
  have hcl : s.vm.findClass cls = some ce.cls := by
    have h9 := hO.cls
    rw [hvm] at h9
    exact h9
  have hall : s.sameButNew ({ U with vm := s.vm } : State) locs mc ms := by
    subst hA
    obtain ⟨e1, e2⟩ := hsame
    rw [State.setFrames_setFrames] at e1
    have h2 : (T.setVm s.vm).sameButNew ({ U with vm := s.vm } : State) [] (0 + 1) (0 + 6) := ⟨e1, e2⟩
    have h3 := X.same.trans h2
    rw [List.append_nil] at h3
    exact h3.mono hc hs
  refine ⟨U, ?_, .threw T.heap.size, hrun, hend, Or.inr ⟨T.heap.size, rfl, cls, ce, locs, hx U hWs.alike f1 (fun q hq => f2 q hq (fun z hz => nomatch hz)), hce, hO.vm, hcl, hWs, hall, hf⟩⟩
  refine st1 _ ?_
  show Steps p.tables e below (T1.setTop { method := m, pc := pc + 3, locals := ls, stack := .ref T.heap.size :: rest, locked := none }) _
  jvm_step X₁.here [X₁.here.top, hexec, d3', Value.category]
  exact X₁.ldcString hexec (own := own) (text := text) (index := is) (a := sa) hown' hstr'.1 hstr'.2
    (g := { method := m, pc := pc + 4, locals := ls, stack := .ref T.heap.size :: .ref T.heap.size :: rest, locked := none }) rfl d4' _ hsteps
/-- 'throw new E("text")', the text by a wide index -/
theorem vx_throwSW {cc : ByteArray} {pc : Nat} (hexec : p.tables.exec = Jvm.exec) (hb : c.code = cc) (hl : l.stackTraces = false) {own cls text : String} {names : List String} {ik is ic mc ms sa : Nat} {A : Nat → Prop}
    (hown : s.vm.findClass own = some m.cls) (hcls : Bundle.fit cls = true) (hnames : ∀ n ∈ names, Bundle.fit n = true)
    (hk : (Cond.classLink own ik cls).before args s = true) (hini : (Cond.initialized cls).before args s = true) (hstr : vk_R own is text sa s) (hat : ∀ w ∈ vx_atS own ic cls names, w.before args s = true)
    (hgood : ∀ w ∈ Cond.classLink own ik cls :: Cond.initialized cls :: vx_atS own ic cls names, vx_ot w = true)
    (hU : vx_Zq Bundle.tN "UNASSIGNED_STACK" Bundle.steD A s s.heap) (hN : vx_Zq Bundle.tN "SUPPRESSED_SENTINEL" Bundle.listD A s s.heap) (hS : va_S A s.heap H locs) (hsize : ls.size = c.maxLocals)
    (d0 : decode cc pc = .ok (.new ik, 3)) (d3 : decode cc (pc + 3) = .ok (.dup, 1)) (d4 : decode cc (pc + 4) = .ok (.ldc_w is, 3)) (d7 : decode cc (pc + 7) = .ok (.invokespecial ic, 3)) (d10 : decode cc (pc + 10) = .ok (.athrow, 1))
    (hout : ∀ x ∈ c.exceptionTable.toList, covers x (pc + 10) = false)
    (hRframes : names.length + 3 < R.frames) (hRlocals : (rest.map fun v => v.category).sum + (13 * (names.length + 1) + 43) ≤ R.locals) (hRcells : cells + 1 ≤ R.cells) (hRslots : slots + 6 ≤ R.slots) (hlocks : meth.locks = false)
    (hx : ∀ t : State, s.vm.Alike t.vm → H.size ≤ t.heap.size → (∀ q : Nat, q < H.size → t.heap[q]? = H[q]?) → XC cls s t)
    (hf : ∀ z ∈ locs, free z.base) (hc : cells + 1 ≤ mc) (hs : slots + 6 ≤ ms) :
    W p l e R s m args below meth c H locs cells slots (vx_MQ below Qc XC args s mc ms free) (F0 m pc ls rest) := by
  intro T hT X
  have htr : e.platform.stackTraces = false := (show e.platform.stackTraces = l.stackTraces by rw [X.admits.platform]).trans hl
  have Y := vx_rebase X (R' := { frames := R.frames, locals := R.locals, cells := 1, slots := 6 }) (Nat.le_refl _) (Nat.le_refl _) hRcells hRslots
  obtain ⟨s', hA⟩ : ∃ z, z = (T.setVm s.vm).setFrames (.invoking m args :: below) := ⟨_, rfl⟩
  rw [← hA] at Y
  have hvm : s'.vm = s.vm := by rw [hA]; rfl
  have hhp : s'.heap = H := by rw [hA]; exact hT
  have hW0 : s.WarmedH s'.vm := by rw [hvm]; exact State.WarmedH.refl s
  have hat' : ∀ w ∈ vx_atS own ic cls names, w.before args s' = true := fun w hw => vx_ot_at hW0 hvm.symm (hgood w (List.mem_cons_of_mem _ (List.mem_cons_of_mem _ hw))) (hat w hw)
  have hk' : (Cond.classLink own ik cls).before args s' = true := vx_ot_at hW0 hvm.symm (hgood _ List.mem_cons_self) hk
  have hini' : (Cond.initialized cls).before args s' = true := vx_ot_at hW0 hvm.symm (hgood _ (List.mem_cons_of_mem _ List.mem_cons_self)) hini
  have hU' : vx_Zq Bundle.tN "UNASSIGNED_STACK" Bundle.steD A s' s'.heap := by rw [hhp]; exact vx_Zq.moved hW0.alike (hU.kept hS.2.1)
  have hN' : vx_Zq Bundle.tN "SUPPRESSED_SENTINEL" Bundle.listD A s' s'.heap := by rw [hhp]; exact vx_Zq.moved hW0.alike (hN.kept hS.2.1)
  have h : ∀ w ∈ Bundle.ownAtoms own ic cls names, w.before args s' = true := vx_own hat' (vx_isRefq hU'.1) (vx_isRefq hN'.1) hU'.2.word hN'.2.word
  have hown' : s'.vm.findClass own = some m.cls := by rw [hvm]; exact hown
  have hins : (Cond.instantiable cls 6).before args s' = true := h _ (by simp [Bundle.ownAtoms])
  obtain ⟨vm₁, cX, kX, hfX, hkX, -, -, X₁, st1⟩ := Y.newCold hexec (own := own) (C := cls) (index := ik) (n := 6) hown' hk' hins hini'
    (g := F0 m pc ls rest) rfl (by rw [hb]; exact d0) (Nat.le_refl _) (Nat.le_refl _)
  generalize hT1 : (T.setVm vm₁).pushCell { cls := cX, slots := kX.instanceTypes.map defaultValue, vm := .none } = T1 at X₁ st1
  have hcat : (Value.ref T.heap.size).category = 1 := rfl
  have hcellA : T1.heap[T.heap.size]? = some (freshCell cX kX) := by rw [← hT1]; exact State.heap_pushCell_size _ _
  have d3' : decode c.code (pc + 3) = .ok (.dup, 1) := by rw [hb]; exact d3
  have d4' : decode c.code (pc + 4) = .ok (.ldc_w is, 3) := by rw [hb]; exact d4
  have hstr' : vk_R own is text sa s' := vk_R.warm hW0 hstr
  obtain ⟨U, hsteps, hrun, hend, hW, hsame, ce, hce, hO⟩ := X₁.ctorThrowS hexec htr (own := own) (cls := cls) (names := names) (ic := ic) hown' hcls hnames h (fun x hx => nomatch hx) hfX hkX hcellA (by rw [hhp, hT]; exact Nat.le_refl _) (msg := .ref sa) rfl
    (g := { method := m, pc := pc + 7, locals := ls, stack := .ref sa :: .ref T.heap.size :: .ref T.heap.size :: rest, locked := none }) rfl hsize rfl rfl (rest := rest) rfl
    (by rw [hb]; exact d7) (by rw [hb]; exact d10) hout hRframes (by simp only [List.map_cons, List.sum_cons, hcat]; omega) hlocks
  obtain ⟨f1, f2⟩ := vx_frame hsame
  rw [hhp] at f1 f2
  have hWs : s.WarmedH U.vm := State.WarmedH.trans hW0 hW
  have hcl : s.vm.findClass cls = some ce.cls := by
    have h9 := hO.cls
    rw [hvm] at h9
    exact h9
  have hall : s.sameButNew ({ U with vm := s.vm } : State) locs mc ms := by
    subst hA
    obtain ⟨e1, e2⟩ := hsame
    rw [State.setFrames_setFrames] at e1
    have h2 : (T.setVm s.vm).sameButNew ({ U with vm := s.vm } : State) [] (0 + 1) (0 + 6) := ⟨e1, e2⟩
    have h3 := X.same.trans h2
    rw [List.append_nil] at h3
    exact h3.mono hc hs
  refine ⟨U, ?_, .threw T.heap.size, hrun, hend, Or.inr ⟨T.heap.size, rfl, cls, ce, locs, hx U hWs.alike f1 (fun q hq => f2 q hq (fun z hz => nomatch hz)), hce, hO.vm, hcl, hWs, hall, hf⟩⟩
  refine st1 _ ?_
  show Steps p.tables e below (T1.setTop { method := m, pc := pc + 3, locals := ls, stack := .ref T.heap.size :: rest, locked := none }) _
  jvm_step X₁.here [X₁.here.top, hexec, d3', Value.category]
  exact X₁.ldcStringW hexec (own := own) (text := text) (index := is) (a := sa) hown' hstr'.1 hstr'.2
    (g := { method := m, pc := pc + 4, locals := ls, stack := .ref T.heap.size :: .ref T.heap.size :: rest, locked := none }) rfl d4' _ hsteps
end Ends
section Bodies
variable {l : Launch}
theorem vx_ofW {y : MethodName} {ws ws' : List Cond} {rm : Room} {Pc : Array Value → State → Prop} {Qc : Array Value → State → Outcome → State → Prop} {XC : String → State → State → Prop} {mc ms : Nat} {free : Addr → Prop} {cc : ByteArray} {maxL : Nat} {ret : Option FieldType}
    (hy : plainName y.cls = true) (hw : ws = Cond.code y cc maxL ret :: ws')
    (body : ∀ p e s m args below meth c s₁, BodyLoose p l y (headSpec ws rm) cc maxL ret e s m args below meth c s₁ → c.maxLocals = maxL → (∀ x ∈ c.exceptionTable.toList, False) → Pc args s →
      W p l e (headSpec ws rm).room s m args below meth c s.heap [] 0 0 (vx_MQ below Qc XC args s mc ms free) (entryFrame m args maxL)) : vx_Met l y ws rm Pc Qc XC mc ms free := by
  refine MetFree.of_bodyS (code := cc) (maxLocals := maxL) (ret := ret) hy ?_ ?_
  · intro args s m h hn
    obtain ⟨meth, c, h1, h2, h3, h4, h5, h6, -, -⟩ := Cond.code_spec hn (atoms_spec (ws := ws) h _ (by rw [hw]; exact List.mem_cons_self))
    exact ⟨meth, c, h1, h2, h3, h4, h5, h6⟩
  · intro p e s m args below meth c s₁ B hml hP _
    have hh0 : s₁.heap = s.heap := by rw [B.state]; rfl
    have ht : ∀ x ∈ c.exceptionTable.toList, False := by
      obtain ⟨meth9, c9, h1, h2, -, -, -, -, h7, -⟩ := Cond.code_spec B.named (atoms_spec (ws := ws) B.pre _ (by rw [hw]; exact List.mem_cons_self))
      cases Option.some.inj (h1.symm.trans B.method)
      cases Option.some.inj (h2.symm.trans (Stand.of_body B).code)
      intro x hx
      rw [Array.isEmpty_iff.mp h7] at hx
      cases hx
    obtain ⟨t, a1, o, b1, b2, b3⟩ := body p e s m args below meth c s₁ B hml ht hP s₁ hh0 (Stand.of_body B)
    exact ⟨t, o, a1, b1, b2, b3⟩
/-- the table of a body with handlers -/
theorem vx_table {p : Program} {x y : MethodName} {S : Spec} {cc bytes : ByteArray} {maxL maxL' : Nat} {ret ret' : Option FieldType} {e : Env} {s s₁ : State} {m : MethodId} {args : Array Value} {below : List Frame} {meth : Method} {c : Code} {hh : List (Nat × Nat × Nat × Nat)}
    (B : BodyLoose p l y S cc maxL ret e s m args below meth c s₁) (h : (Cond.codeWith y bytes maxL' ret' hh).before args s = true) : c.exceptionTable.toList = tableOf hh := by
  obtain ⟨m9, meth9, c9, hn9, h1, h2, -, -, h6, -⟩ := Cond.codeWith_spec h
  cases Option.some.inj (hn9.symm.trans B.named)
  cases Option.some.inj (h1.symm.trans B.method)
  cases Option.some.inj (h2.symm.trans (Stand.of_body B).code)
  rw [← h6, table_eq]
end Bodies
end VXA
/-! ===== END ===== -/
/-! ===== BEGIN a static call of a method with an exception table ===== -/
section VXS
variable {p : Program} {l : Launch} {e : Env} {R : Room} {s : State} {m : MethodId} {args : Array Value} {below : List Frame} {meth : Method} {c : Code} {T : State} {H : Heap} {locs : List Loc} {cells slots : Nat}
abbrev vx_CSW (R : Room) (s : State) (args : Array Value) (own : String) (index : Nat) (y : MethodName) (bytes : ByteArray) (maxL : Nat) (ret : Option FieldType) (hh : List (Nat × Nat × Nat × Nat)) (ws : List Cond) (rm : Room) (mc ms n : Nat) : Prop :=
  (rm.cells = mc ∧ rm.slots = ms ∧ rm.frames + 1 ≤ R.frames ∧ 8 + (maxL + 11) + rm.locals ≤ R.locals ∧ (∀ w ∈ ws, ∀ (a' : Array Value) (U : State), s.WarmedH U.vm → w.before a' U = true) ∧ Cond.codeWith y bytes maxL ret hh ∈ ws) ∧
  (Cond.codeWith y bytes maxL ret hh).before args s = true ∧ (Cond.initialized y.cls).before args s = true ∧ (y.cls ≠ "java/lang/invoke/MethodHandle" ∧ y.cls ≠ "java/lang/invoke/VarHandle") ∧
  (∀ sig, parseMethodDescriptor y.desc = some sig → n = sig.parameters.length) ∧ (Cond.methodLink own index y).before args s = true ∧ (Cond.static y).before args s = true
theorem vx_cwSW {own : String} {index maxL mc ms : Nat} {y : MethodName} {bytes : ByteArray} {ret : Option FieldType} {hh : List (Nat × Nat × Nat × Nat)} {Ts ws ws' : List Cond} {rm : Room} (n : Nat) (ht : ∀ w ∈ Ts, w.before args s = true) (hT : GoodIn Ts (va_wsS own index y ws)) (hw : ws = Cond.codeWith y bytes maxL ret hh :: ws') (hrc : rm.cells = mc) (hrs : rm.slots = ms)
    (hd : y.cls ≠ "java/lang/invoke/MethodHandle" ∧ y.cls ≠ "java/lang/invoke/VarHandle" ∧ (parseMethodDescriptor y.desc).map (fun d => d.parameters.length) = some n) (hR : rm.frames + 1 ≤ R.frames ∧ 8 + (maxL + 11) + rm.locals ≤ R.locals) :
    vx_CSW R s args own index y bytes maxL ret hh ws rm mc ms n := by
  have ok : ∀ w ∈ va_wsS own index y ws, w.before args s = true := fun w h => ht w (hT w h).1
  have hG : GoodIn Ts ws := fun w h => hT w (by unfold va_wsS; exact List.mem_append_right _ h)
  have hc : Cond.codeWith y bytes maxL ret hh ∈ ws := by rw [hw]; exact List.mem_cons_self
  refine ⟨⟨hrc, hrs, hR.1, hR.2, pay_in ht hG, hc⟩, ht _ (hG _ hc).1, ok _ (by simp [va_wsS]), ⟨hd.1, hd.2.1⟩, fun sig h => ?_, ok _ (by simp [va_wsS]), ok _ (by simp [va_wsS])⟩
  have h2 := hd.2.2
  rw [h] at h2
  exact (Option.some.inj h2).symm
theorem vx_callSW (X : Stand p l e R s m args below meth c T locs cells slots) (hexec : p.tables.exec = Jvm.exec) {own : String} {index : Nat} {y : MethodName} {bytes : ByteArray} {maxL : Nat} {ret : Option FieldType} {hh : List (Nat × Nat × Nat × Nat)}
    (hown : s.vm.findClass own = some m.cls) (hlink : (Cond.methodLink own index y).before args s = true) (hstat : (Cond.static y).before args s = true) (hinit : (Cond.initialized y.cls).before args s = true)
    (hcode : (Cond.codeWith y bytes maxL ret hh).before args s = true) (hy : y.cls ≠ "java/lang/invoke/MethodHandle" ∧ y.cls ≠ "java/lang/invoke/VarHandle")
    {W9 : Nat} {Pre : Pt → Array Value → Prop} {Post : Pt → Array Value → Option Value → Pt → Prop} (hK : Back l R p e below s args y 3 W9 Pre Post)
    {g : JFrame} (hg : g.method = m) (hsize : g.locals.size = c.maxLocals) {argsL rest : List Value} (hlen : ∀ sig, parseMethodDescriptor y.desc = some sig → argsL.length = sig.parameters.length)
    (hstack : g.stack = argsL.reverse ++ rest) (hW : 2 * g.monitorRoom + (rest.map fun v => v.category).sum ≤ W9) (hdg : decode c.code g.pc = .ok (.invokestatic index, 3))
    (hpre : ∀ vm₁, s.WarmedH vm₁ → Pre ⟨T.setVm vm₁, locs, cells, slots⟩ argsL.toArray) :
    ∃ (v : Option Value) (vm₁ : Vm) (B : Pt), s.WarmedH vm₁ ∧ Stand p l e R s m args below meth c B.U B.locs B.cells B.slots ∧ Post ⟨T.setVm vm₁, locs, cells, slots⟩ argsL.toArray v B ∧
      ∀ target, Steps p.tables e below (B.U.setTop { g with pc := g.pc + 3, stack := v.toList ++ rest }) target → Steps p.tables e below (T.setTop g) target := by
  obtain ⟨mk, methM, cM, hnamed, hmethM, -, -, -, -, -, -, hsigM⟩ := Cond.codeWith_spec hcode
  have hstatic : methM.isStatic = true := Cond.static_spec hnamed hmethM hstat
  obtain ⟨kP, hkP, -⟩ := className_of_methodNamed hnamed
  have hinitP : kP.init = .initialized := Cond.initialized_spec (findClass_of_methodNamed hnamed) hkP hinit
  obtain ⟨vm₁, X₁, hstep₁⟩ := X.invokestatic hexec hown hlink hnamed hmethM hstatic hkP hinitP hy (g := g) hg (argsL := argsL) (rest := rest) (hlen _ hsigM) hstack hdg
  obtain ⟨v, B, X', hpost, hsteps⟩ := hK m meth c ⟨T.setVm vm₁, locs, cells, slots⟩ { g with stack := rest } (.invokestatic index) mk argsL.toArray X₁ hg hsize hdg hW (X₁.named hnamed) (hpre vm₁ X₁.warmed)
  exact ⟨v, vm₁, B, X₁.warmed, X', hpost, fun target h => hstep₁ _ fun acts => by rw [doInvoke_state]; exact hsteps.trans h⟩
theorem vx_runSW {y : MethodName} {bytes cc : ByteArray} {maxL nL mc ms n index : Nat} {ret : Option FieldType} {hh : List (Nat × Nat × Nat × Nat)} {ws : List Cond} {rm : Room} {Pc : Array Value → State → Prop} {Qc : Array Value → State → Outcome → State → Prop} {free : Addr → Prop} {Ts : List Cond} {own : String} {As rest : List Value} {g : JFrame}
    (S : CallFix p m c cc nL s args Ts own) (hM : Met l y ws rm Pc Qc mc ms free) (cw : vx_CSW R s args own index y bytes maxL ret hh ws rm mc ms n) (hp : PreS s H Pc As)
    (hg : g.method = m) (hn : As.length = n) (hsize : g.locals.size = nL) (hstack : g.stack = As.reverse ++ rest) (hW : 2 * g.monitorRoom + (rest.map fun v => v.category).sum ≤ 8) (hdg : decode cc g.pc = .ok (.invokestatic index, 3)) (hf : cells + mc ≤ R.cells ∧ slots + ms ≤ R.slots) :
    va_Run p l e R s m args below meth c H locs cells slots mc ms g rest (Qc As.toArray) (free) := by
  obtain ⟨⟨hrc, hrs, hfr, hlo, hws, hcw⟩, hcode, hini, hy, hlen, hl, hstt⟩ := cw
  have hK : Back l R p e below s args y 3 8 (PreOf R mc ms Pc) (PostOf Qc mc ms free) := va_backW (hh := hh) (bytes := bytes) (maxL := maxL) (ret := ret) hM hp.1 hrc hrs hfr hlo hws hcw (fun a' U hW => word_at hW (Or.inl (by first | rfl | simp [Cond.onTables, Cond.keeps, Cond.steady])) hini)
  obtain ⟨hx, hb, hml, ho, -⟩ := S
  intro T hT X
  obtain ⟨v, vm₁, ⟨U', l2, c2, s2⟩, hW₁, X', ⟨g', mk, t, L, e1, e2, hq, h1, hL, h2, h3⟩, st⟩ := vx_callSW X hx (hh := hh) (bytes := bytes) (maxL := maxL) (ret := ret) ho hl hstt hini hcode hy hK hg (hsize.trans hml.symm) (argsL := As) (rest := rest) (fun sig h => hn.trans (hlen sig h)) hstack hW (by rw [hb]; exact hdg)
    (fun vm₁ hW₁ => ⟨hf.1, hf.2, hp.2 (T.setVm vm₁) hT hW₁⟩)
  dsimp only [Pt.U, Pt.locs, Pt.cells, Pt.slots] at X' e1 e2 h1 h2 h3 st
  subst h1; subst h2; subst h3
  exact ⟨v, (T.setVm vm₁).calling g' mk As.toArray, t, U', L, hT, X', hL, e1, e2, hq, st⟩
/-- not caught here, past rows that name other classes: it goes on to the caller -/
theorem vx_outP {p : Program} {l : Launch} {e : Env} {R : Room} {s : State} {m : MethodId} {args : Array Value} {below : List Frame} {meth : Method} {c : Code} {H : Heap} {locs : List Loc} {cells slots : Nat} {free : Addr → Prop} {ls : Array Slot} {rest : List Value} {Qc : Array Value → State → Outcome → State → Prop} {XC : String → State → State → Prop}
    {pc : Nat} {own E : String} {ce : Cell} {q : Addr} {mc ms : Nat} (hown : s.vm.findClass own = some m.cls) (hlocks : meth.locks = false)
    (hpass : ∀ z ∈ c.exceptionTable.toList, covers z pc = false ∨ (z.catchType ≠ 0 ∧ ∃ nm : String, (Cond.classLink own z.catchType nm).before args s = true ∧ va_Nc E nm s)) (hcell : H[q]? = some ce) (hv : ce.vm = .none) (hcl : s.vm.findClass E = some ce.cls)
    (hx : ∀ t : State, t.heap = H → s.vm.Alike t.vm → XC E s t) (hf : ∀ z ∈ locs, free z.base) (hc : cells ≤ mc) (hs : slots ≤ ms) :
    vx_W p l e R s m args below meth c H locs cells slots (vx_MQ below Qc XC args s mc ms free) (F0 m pc ls rest) q := by
  intro T hT X
  have hpl : e.platform.magicAccessors = ({} : Platform).magicAccessors := by rw [X.admits.platform]
  obtain ⟨vm', hW', X', st⟩ := X.outThrough hlocks q (g := F0 m pc ls rest) rfl rfl rfl (cell := ce) (by rw [hT]; exact hcell) (by rw [hv]; rfl)
    (by obtain ⟨k9, h9, -⟩ := Vm.findClass_spec hcl; exact ⟨k9, h9⟩) (fun z hz => by
      rcases hpass z hz with h | ⟨hz0, nm, hl1, hn1⟩
      · exact Or.inl h
      · obtain ⟨c6, hc6, hcl6⟩ := Cond.classLink_spec hown hl1 e.platform hpl
        obtain ⟨a8, b8, h1, h2, h3⟩ := hn1
        cases Option.some.inj (h1.symm.trans hcl)
        cases Option.some.inj (h2.symm.trans hc6)
        exact Or.inr ⟨hz0, _, hcl6, h3⟩)
  obtain ⟨g₀, hfr⟩ := X'.frames_eq
  have hcell9 : ((T.setVm vm').setFrames (.throwing q :: below)).heap[q]? = some ce := by
    show T.heap[q]? = some ce
    rw [hT]; exact hcell
  have hend : Ended ((T.setVm vm').setFrames (.throwing q :: below)) below (.threw q) := State.frames_setFrames _ (State.cur_lt_of_frames hfr)
  refine ⟨(T.setVm vm').setFrames (.throwing q :: below), ?_, .threw q, X'.here.running, hend, Or.inr ⟨q, rfl, E, ce, locs, hx _ hT (X'.ends _).1.alike, hcell9, hv, hcl, (X'.ends _).1, (X'.ends _).2.mono hc hs, hf⟩⟩
  rw [X.pushThrowing_eq]
  exact st
/-- a thing of a world lies in the heap -/
theorem vx_lt {D : va_G} {cl : List vw_C} {ws : va_W} {H1 : Heap} (h : va_P D cl ws H1) {k : Nat} {q : Nat × va_E} (hk : ws[k]? = some q) : q.1 < H1.size := (h k q hk).lt
end VXS
/-! ===== END ===== -/
/-! ===== BEGIN methods with a table of their own: called by a name, returning or throwing ===== -/
section VXH
/-! vx_backW, vx_callVX, vx_callSX, vx_callVW, vx_runVW, vx_runVX, vx_runSX, vx_ofWH follow the same proofs as their sisters above (Free/Laws.lean, Shelf42/LK1.lean); vx_outP calls Shelf42/NT130.lean (outThrough). -/
section
variable {l : Launch} {R : Room} {p : Program} {e : Env} {below : List Frame} {s : State} {sargs : Array Value} {y : MethodName} {len W9 : Nat}
theorem vx_backW {ws : List Cond} {rm : Room} {Pc : Array Value → State → Prop} {Qc : Array Value → State → Outcome → State → Prop} {XC : String → State → State → Prop} {mc ms : Nat} {free : Addr → Prop} {bytes : ByteArray} {maxL : Nat} {ret : Option FieldType} {hh : List (Nat × Nat × Nat × Nat)}
    (hM : vx_Met l y ws rm Pc Qc XC mc ms free) (hblind : FrameBlind Pc) (hrc : rm.cells = mc) (hrs : rm.slots = ms)
    (hframes : rm.frames + 1 ≤ R.frames) (hlocals : W9 + (maxL + 11) + rm.locals ≤ R.locals)
    (hws : ∀ w ∈ ws, ∀ a' U, s.WarmedH U.vm → w.before a' U = true) (hcode : Cond.codeWith y bytes maxL ret hh ∈ ws) (hinit : ∀ a' U, s.WarmedH U.vm → (Cond.initialized y.cls).before a' U = true) :
    vx_Back l R p e below s sargs y len W9 (PreOf R mc ms Pc) (PostOf Qc mc ms free) (vx_Post XC mc ms free) := by
  intro m meth c A g ig mk a X hg hsize hdg hW hn hp
  have h1 : (headSpec ws rm).pre.before a A.U = true := atoms_intro fun w hw => hws w hw _ _ X.warmed
  have h2 : (Cond.codeWith y bytes maxL ret hh).before a A.U = true := hws _ hcode _ _ X.warmed
  have h3 : (Cond.initialized y.cls).before a A.U = true := hinit _ _ X.warmed
  have h4 : A.cells + (headSpec ws rm).room.cells ≤ R.cells := by rw [show (headSpec ws rm).room.cells = mc from hrc]; exact hp.1
  have h5 : A.slots + (headSpec ws rm).room.slots ≤ R.slots := by rw [show (headSpec ws rm).room.slots = ms from hrs]; exact hp.2.1
  have hPc : Pc a (A.U.calling g mk a) := hblind _ _ _ _ hp.2.2
  obtain ⟨U, Ls, c0, s0⟩ := A
  dsimp only [Pt.U, Pt.locs, Pt.cells, Pt.slots] at h1 h2 h3 h4 h5 X hn hPc ⊢
  obtain ⟨m9, methY, cY, hn9, hmY, hcY, -, hlY, -⟩ := Cond.codeWith_spec h2
  cases Option.some.inj (hn9.symm.trans hn)
  obtain ⟨kY, hkY, -⟩ := className_of_methodNamed hn
  have hinitY : kY.init = .initialized := Cond.initialized_spec (findClass_of_methodNamed hn) hkY h3
  have h : At U g.method c below := by rw [hg]; exact X.here
  have hlocals9 : W9 + (maxL + 11) + (headSpec ws rm).room.locals ≤ R.locals := hlocals
  have happ : (headSpec ws rm).appliesLoose y e.platform (U.calling g mk a) = true :=
    Spec.appliesLoose_calling (g := g) h hdg hn hkY hinitY
      (X.room_calling (g := g) (R' := (headSpec ws rm).room) hsize hmY hcY hframes (by rw [hlY]; omega) h4 h5) h1
  obtain ⟨mid, hmid⟩ := h.above
  have hfr : (U.setTop g).frames = (.java g :: mid) ++ below := by rw [State.frames_setTop' g h.top, hmid]; rfl
  obtain ⟨o, s₂, hsteps, -, hend, hq⟩ := Steps.callFree hM p X.admits X.cas X.clock (acts := []) hfr happ hPc trivial
  have hq' : vx_Q Qc XC mc ms free a (U.calling g mk a) o s₂ := hq
  rw [State.frames_setTop' g h.top] at hend
  obtain ⟨g₀, hg0⟩ := Option.isSome_iff_exists.mp h.top
  obtain ⟨r, hr⟩ := State.topJava?_eq_some.mp hg0
  have hr' : (({ U with heap := s₂.heap, slotsUsed := s₂.slotsUsed } : State).setVm s₂.vm).frames = .java g₀ :: r := hr
  rcases hq' with ⟨hqc, L, hfe, hL⟩ | ⟨q, rfl, E, ce, L, hx, hce, hcv, hcl, hW₂, hsm, hL⟩
  · obtain ⟨⟨v, rfl⟩, hW₂, e2, q2, q3, q4, q5, q6⟩ := id hfe
    have e3 : s₂ = ({ (U.calling g mk a).setFrames s₂.frames with heap := s₂.heap, slotsUsed := s₂.slotsUsed } : State).setVm s₂.vm := by
      have : s₂ = ({ s₂ with vm := (U.calling g mk a).vm } : State).setVm s₂.vm := rfl
      rw [e2] at this
      exact this
    obtain ⟨c₂, i₂, len₂, hc₂, hd₂, hf₂⟩ := hend
    have hW' : U.WarmedH s₂.vm := hW₂
    have hcc : c₂ = c := by
      have h1 : s₂.code? g.method = U.code? g.method := by
        rw [State.code?_eq, State.code?_eq, hW'.alike.method?]
      exact Option.some.inj (hc₂.symm.trans (h1.trans h.code))
    subst hcc
    have hlen : len₂ = len := by rw [hdg] at hd₂; cases hd₂; rfl
    subst hlen
    have hs₂ : s₂ = (({ U with heap := s₂.heap, slotsUsed := s₂.slotsUsed } : State).setVm s₂.vm).setTop { g with pc := g.pc + len₂, stack := v.toList ++ g.stack } := by
      refine e3.trans ?_
      rw [hf₂, State.calling_eq h.top, State.setFrames_setFrames, State.setTop_of_frames _ hr', hr]
      rfl
    have hsame : U.sameButNew ({ U with heap := s₂.heap, slotsUsed := s₂.slotsUsed } : State) L mc ms := by
      refine ⟨?_, q2, q3, q4, q5, q6⟩
      obtain ⟨t, ht, -⟩ := State.frames_cons hr
      show ({ U with heap := s₂.heap, slotsUsed := s₂.slotsUsed } : State) = { U.setFrames U.frames with heap := s₂.heap, slotsUsed := s₂.slotsUsed }
      rw [State.setFrames_self ht]
    subst hg
    refine Or.inl ⟨v, ⟨(({ U with heap := s₂.heap, slotsUsed := s₂.slotsUsed } : State).setVm s₂.vm), Ls ++ L, c0 + mc, s0 + ms⟩,
      ⟨X.admits, X.cas, X.clock, X.frames, X.room, X.hears, X.method, X.code, (X.here.setHeapUsed s₂.heap s₂.slotsUsed).setVm hW'.alike, X.tail, State.WarmedH.trans X.warmed hW', X.limits, X.bytes, X.same.trans (hsame.setVm s.vm)⟩,
      ⟨g, mk, s₂, L, rfl, rfl, hqc, rfl, hL, rfl, rfl⟩, ?_⟩
    show Steps p.tables e below _ ((({ U with heap := s₂.heap, slotsUsed := s₂.slotsUsed } : State).setVm s₂.vm).setTop { g with pc := g.pc + len₂, stack := v.toList ++ g.stack })
    rw [← hs₂]
    exact hsteps
  · obtain ⟨e2, q2, q3, q4, q5, q6⟩ := id hsm
    have e3 : s₂ = ({ (U.calling g mk a).setFrames s₂.frames with heap := s₂.heap, slotsUsed := s₂.slotsUsed } : State).setVm s₂.vm := by
      have : s₂ = ({ s₂ with vm := (U.calling g mk a).vm } : State).setVm s₂.vm := rfl
      rw [e2] at this
      exact this
    have hf₂ : s₂.frames = .throwing q :: .java g :: U.frames.tail := hend
    have hW' : U.WarmedH s₂.vm := hW₂
    have hs₂ : s₂ = ((({ U with heap := s₂.heap, slotsUsed := s₂.slotsUsed } : State).setVm s₂.vm).setTop g).pushFrame (.throwing q) := by
      refine e3.trans ?_
      rw [hf₂, State.calling_eq h.top, State.setFrames_setFrames, State.pushFrame, State.frames_setTop _ hr', State.setTop_of_frames _ hr', State.setFrames_setFrames, hr]
      rfl
    have hsame : U.sameButNew ({ U with heap := s₂.heap, slotsUsed := s₂.slotsUsed } : State) L mc ms := by
      refine ⟨?_, q2, q3, q4, q5, q6⟩
      obtain ⟨t, ht, -⟩ := State.frames_cons hr
      show ({ U with heap := s₂.heap, slotsUsed := s₂.slotsUsed } : State) = { U.setFrames U.frames with heap := s₂.heap, slotsUsed := s₂.slotsUsed }
      rw [State.setFrames_self ht]
    subst hg
    refine Or.inr ⟨q, ⟨(({ U with heap := s₂.heap, slotsUsed := s₂.slotsUsed } : State).setVm s₂.vm), Ls ++ L, c0 + mc, s0 + ms⟩,
      ⟨X.admits, X.cas, X.clock, X.frames, X.room, X.hears, X.method, X.code, (X.here.setHeapUsed s₂.heap s₂.slotsUsed).setVm hW'.alike, X.tail, State.WarmedH.trans X.warmed hW', X.limits, X.bytes, X.same.trans (hsame.setVm s.vm)⟩,
      ⟨g, mk, s₂, L, E, ce, rfl, rfl, hx, hce, hcv, hcl, rfl, hL, rfl, rfl⟩, ?_⟩
    show Steps p.tables e below _ (((({ U with heap := s₂.heap, slotsUsed := s₂.slotsUsed } : State).setVm s₂.vm).setTop g).pushFrame (.throwing q))
    rw [← hs₂]
    exact hsteps
end
variable {p : Program} {l : Launch} {e : Env} {R : Room} {s : State} {m : MethodId} {args : Array Value} {below : List Frame} {meth : Method} {c : Code} {T : State} {H : Heap} {locs : List Loc} {cells slots : Nat}
theorem vx_callVX (X : Stand p l e R s m args below meth c T locs cells slots) (hexec : p.tables.exec = Jvm.exec) {own C : String} {index : Nat} {y : MethodName} {bytes : ByteArray} {maxL : Nat} {ret : Option FieldType} {hh : List (Nat × Nat × Nat × Nat)}
    (hown : s.vm.findClass own = some m.cls) (hlink : (Cond.methodLink own index y).before args s = true) (hinst : (Cond.instanceMethod y).before args s = true) (hsel : (Cond.selects C y y).before args s = true)
    (hcode : (Cond.codeWith y bytes maxL ret hh).before args s = true) (hy : y.cls ≠ "java/lang/invoke/MethodHandle" ∧ y.cls ≠ "java/lang/invoke/VarHandle")
    {W9 : Nat} {Pre : Pt → Array Value → Prop} {Post : Pt → Array Value → Option Value → Pt → Prop} {PostX : Pt → Array Value → Addr → Pt → Prop} (hK : vx_Back l R p e below s args y 3 W9 Pre Post PostX)
    {b : Addr} {cellB : Cell} (hcell : T.heap[b]? = some cellB) (hobj : cellB.vm.isStatics = false) (hcls : s.vm.findClass C = some cellB.cls)
    {g : JFrame} (hg : g.method = m) (hsize : g.locals.size = c.maxLocals) {argsL rest : List Value} (hlen : ∀ sig, parseMethodDescriptor y.desc = some sig → argsL.length = sig.parameters.length)
    (hstack : g.stack = argsL.reverse ++ .ref b :: rest) (hW : 2 * g.monitorRoom + (rest.map fun v => v.category).sum ≤ W9) (hdg : decode c.code g.pc = .ok (.invokevirtual index, 3))
    (hpre : ∀ vm₁, s.WarmedH vm₁ → Pre ⟨T.setVm vm₁, locs, cells, slots⟩ (Value.ref b :: argsL).toArray) :
    (∃ (v : Option Value) (vm₁ : Vm) (B : Pt), s.WarmedH vm₁ ∧ Stand p l e R s m args below meth c B.U B.locs B.cells B.slots ∧ Post ⟨T.setVm vm₁, locs, cells, slots⟩ (Value.ref b :: argsL).toArray v B ∧
      ∀ target, Steps p.tables e below (B.U.setTop { g with pc := g.pc + 3, stack := v.toList ++ rest }) target → Steps p.tables e below (T.setTop g) target) ∨
    (∃ (q : Addr) (vm₁ : Vm) (B : Pt), s.WarmedH vm₁ ∧ Stand p l e R s m args below meth c B.U B.locs B.cells B.slots ∧ PostX ⟨T.setVm vm₁, locs, cells, slots⟩ (Value.ref b :: argsL).toArray q B ∧
      Steps p.tables e below (T.setTop g) ((B.U.setTop { g with stack := rest }).pushFrame (.throwing q))) := by
  obtain ⟨mk, methM, hnamed, hmethM, hstM, habM⟩ := Cond.instanceMethod_spec hinst
  obtain ⟨m8, methM', cM, hn8, hmethM', -, -, -, -, -, -, hsigM⟩ := Cond.codeWith_spec hcode
  cases Option.some.inj (hn8.symm.trans hnamed)
  cases hmethM.symm.trans hmethM'
  obtain ⟨c2, r2, m2, q1, q2, q3, q4, kP, hkP, hkPi⟩ := Cond.selects_spec hsel
  cases hcls.symm.trans q1
  cases (State.methodFound?_of_named hnamed hy).symm.trans q2
  cases hnamed.symm.trans q3
  have hselP : selectMethod e.platform s.vm cellB.cls mk = .method mk := by rw [Launch.admits_selectMethod X.admits]; exact q4
  obtain ⟨vm₁, X₁, hstep₁⟩ := X.invokevirtual hexec hown hlink hnamed hmethM hstM hkP hkPi hy (a := b) (cell := cellB) hcell
    (fun z h => by rw [h] at hobj; cases hobj) hselP hmethM habM hkP hkPi (g := g) hg (argsL := argsL) (rest := rest) (hlen _ hsigM) hstack hdg
  rcases hK m meth c ⟨T.setVm vm₁, locs, cells, slots⟩ { g with stack := rest } (.invokevirtual index) mk (Value.ref b :: argsL).toArray X₁ hg hsize hdg hW (X₁.named hnamed) (hpre vm₁ X₁.warmed) with ⟨v, B, X', hpost, hsteps⟩ | ⟨q, B, X', hpost, hsteps⟩
  · exact Or.inl ⟨v, vm₁, B, X₁.warmed, X', hpost, fun target h => hstep₁ _ fun acts => by rw [doInvoke_state]; exact hsteps.trans h⟩
  · exact Or.inr ⟨q, vm₁, B, X₁.warmed, X', hpost, hstep₁ _ fun acts => by rw [doInvoke_state]; exact hsteps⟩
theorem vx_callSX (X : Stand p l e R s m args below meth c T locs cells slots) (hexec : p.tables.exec = Jvm.exec) {own : String} {index : Nat} {y : MethodName} {bytes : ByteArray} {maxL : Nat} {ret : Option FieldType} {hh : List (Nat × Nat × Nat × Nat)}
    (hown : s.vm.findClass own = some m.cls) (hlink : (Cond.methodLink own index y).before args s = true) (hstat : (Cond.static y).before args s = true) (hinit : (Cond.initialized y.cls).before args s = true)
    (hcode : (Cond.codeWith y bytes maxL ret hh).before args s = true) (hy : y.cls ≠ "java/lang/invoke/MethodHandle" ∧ y.cls ≠ "java/lang/invoke/VarHandle")
    {W9 : Nat} {Pre : Pt → Array Value → Prop} {Post : Pt → Array Value → Option Value → Pt → Prop} {PostX : Pt → Array Value → Addr → Pt → Prop} (hK : vx_Back l R p e below s args y 3 W9 Pre Post PostX)
    {g : JFrame} (hg : g.method = m) (hsize : g.locals.size = c.maxLocals) {argsL rest : List Value} (hlen : ∀ sig, parseMethodDescriptor y.desc = some sig → argsL.length = sig.parameters.length)
    (hstack : g.stack = argsL.reverse ++ rest) (hW : 2 * g.monitorRoom + (rest.map fun v => v.category).sum ≤ W9) (hdg : decode c.code g.pc = .ok (.invokestatic index, 3))
    (hpre : ∀ vm₁, s.WarmedH vm₁ → Pre ⟨T.setVm vm₁, locs, cells, slots⟩ argsL.toArray) :
    (∃ (v : Option Value) (vm₁ : Vm) (B : Pt), s.WarmedH vm₁ ∧ Stand p l e R s m args below meth c B.U B.locs B.cells B.slots ∧ Post ⟨T.setVm vm₁, locs, cells, slots⟩ argsL.toArray v B ∧
      ∀ target, Steps p.tables e below (B.U.setTop { g with pc := g.pc + 3, stack := v.toList ++ rest }) target → Steps p.tables e below (T.setTop g) target) ∨
    (∃ (q : Addr) (vm₁ : Vm) (B : Pt), s.WarmedH vm₁ ∧ Stand p l e R s m args below meth c B.U B.locs B.cells B.slots ∧ PostX ⟨T.setVm vm₁, locs, cells, slots⟩ argsL.toArray q B ∧
      Steps p.tables e below (T.setTop g) ((B.U.setTop { g with stack := rest }).pushFrame (.throwing q))) := by
  obtain ⟨mk, methM, cM, hnamed, hmethM, -, -, -, -, -, -, hsigM⟩ := Cond.codeWith_spec hcode
  have hstatic : methM.isStatic = true := Cond.static_spec hnamed hmethM hstat
  obtain ⟨kP, hkP, -⟩ := className_of_methodNamed hnamed
  have hinitP : kP.init = .initialized := Cond.initialized_spec (findClass_of_methodNamed hnamed) hkP hinit
  obtain ⟨vm₁, X₁, hstep₁⟩ := X.invokestatic hexec hown hlink hnamed hmethM hstatic hkP hinitP hy (g := g) hg (argsL := argsL) (rest := rest) (hlen _ hsigM) hstack hdg
  rcases hK m meth c ⟨T.setVm vm₁, locs, cells, slots⟩ { g with stack := rest } (.invokestatic index) mk argsL.toArray X₁ hg hsize hdg hW (X₁.named hnamed) (hpre vm₁ X₁.warmed) with ⟨v, B, X', hpost, hsteps⟩ | ⟨q, B, X', hpost, hsteps⟩
  · exact Or.inl ⟨v, vm₁, B, X₁.warmed, X', hpost, fun target h => hstep₁ _ fun acts => by rw [doInvoke_state]; exact hsteps.trans h⟩
  · exact Or.inr ⟨q, vm₁, B, X₁.warmed, X', hpost, hstep₁ _ fun acts => by rw [doInvoke_state]; exact hsteps⟩
theorem vx_callVW (X : Stand p l e R s m args below meth c T locs cells slots) (hexec : p.tables.exec = Jvm.exec) {own C : String} {index : Nat} {y : MethodName} {bytes : ByteArray} {maxL : Nat} {ret : Option FieldType} {hh : List (Nat × Nat × Nat × Nat)}
    (hown : s.vm.findClass own = some m.cls) (hlink : (Cond.methodLink own index y).before args s = true) (hinst : (Cond.instanceMethod y).before args s = true) (hsel : (Cond.selects C y y).before args s = true)
    (hcode : (Cond.codeWith y bytes maxL ret hh).before args s = true) (hy : y.cls ≠ "java/lang/invoke/MethodHandle" ∧ y.cls ≠ "java/lang/invoke/VarHandle")
    {W9 : Nat} {Pre : Pt → Array Value → Prop} {Post : Pt → Array Value → Option Value → Pt → Prop} (hK : Back l R p e below s args y 3 W9 Pre Post)
    {b : Addr} {cellB : Cell} (hcell : T.heap[b]? = some cellB) (hobj : cellB.vm.isStatics = false) (hcls : s.vm.findClass C = some cellB.cls)
    {g : JFrame} (hg : g.method = m) (hsize : g.locals.size = c.maxLocals) {argsL rest : List Value} (hlen : ∀ sig, parseMethodDescriptor y.desc = some sig → argsL.length = sig.parameters.length)
    (hstack : g.stack = argsL.reverse ++ .ref b :: rest) (hW : 2 * g.monitorRoom + (rest.map fun v => v.category).sum ≤ W9) (hdg : decode c.code g.pc = .ok (.invokevirtual index, 3))
    (hpre : ∀ vm₁, s.WarmedH vm₁ → Pre ⟨T.setVm vm₁, locs, cells, slots⟩ (Value.ref b :: argsL).toArray) :
    ∃ (v : Option Value) (vm₁ : Vm) (B : Pt), s.WarmedH vm₁ ∧ Stand p l e R s m args below meth c B.U B.locs B.cells B.slots ∧ Post ⟨T.setVm vm₁, locs, cells, slots⟩ (Value.ref b :: argsL).toArray v B ∧
      ∀ target, Steps p.tables e below (B.U.setTop { g with pc := g.pc + 3, stack := v.toList ++ rest }) target → Steps p.tables e below (T.setTop g) target := by
  obtain ⟨mk, methM, hnamed, hmethM, hstM, habM⟩ := Cond.instanceMethod_spec hinst
  obtain ⟨m8, methM', cM, hn8, hmethM', -, -, -, -, -, -, hsigM⟩ := Cond.codeWith_spec hcode
  cases Option.some.inj (hn8.symm.trans hnamed)
  cases hmethM.symm.trans hmethM'
  obtain ⟨c2, r2, m2, q1, q2, q3, q4, kP, hkP, hkPi⟩ := Cond.selects_spec hsel
  cases hcls.symm.trans q1
  cases (State.methodFound?_of_named hnamed hy).symm.trans q2
  cases hnamed.symm.trans q3
  have hselP : selectMethod e.platform s.vm cellB.cls mk = .method mk := by rw [Launch.admits_selectMethod X.admits]; exact q4
  obtain ⟨vm₁, X₁, hstep₁⟩ := X.invokevirtual hexec hown hlink hnamed hmethM hstM hkP hkPi hy (a := b) (cell := cellB) hcell
    (fun z h => by rw [h] at hobj; cases hobj) hselP hmethM habM hkP hkPi (g := g) hg (argsL := argsL) (rest := rest) (hlen _ hsigM) hstack hdg
  obtain ⟨v, B, X', hpost, hsteps⟩ := hK m meth c ⟨T.setVm vm₁, locs, cells, slots⟩ { g with stack := rest } (.invokevirtual index) mk (Value.ref b :: argsL).toArray X₁ hg hsize hdg hW (X₁.named hnamed) (hpre vm₁ X₁.warmed)
  exact ⟨v, vm₁, B, X₁.warmed, X', hpost, fun target h => hstep₁ _ fun acts => by rw [doInvoke_state]; exact hsteps.trans h⟩
abbrev vx_CVW (R : Room) (s : State) (args : Array Value) (own C : String) (index : Nat) (y : MethodName) (bytes : ByteArray) (maxL : Nat) (ret : Option FieldType) (hh : List (Nat × Nat × Nat × Nat)) (ws : List Cond) (rm : Room) (mc ms n : Nat) : Prop :=
  (rm.cells = mc ∧ rm.slots = ms ∧ rm.frames + 1 ≤ R.frames ∧ 8 + (maxL + 11) + rm.locals ≤ R.locals ∧ (∀ w ∈ ws, ∀ (a' : Array Value) (U : State), s.WarmedH U.vm → w.before a' U = true) ∧ Cond.codeWith y bytes maxL ret hh ∈ ws) ∧
  (Cond.codeWith y bytes maxL ret hh).before args s = true ∧ (Cond.initialized y.cls).before args s = true ∧ (y.cls ≠ "java/lang/invoke/MethodHandle" ∧ y.cls ≠ "java/lang/invoke/VarHandle") ∧
  (∀ sig, parseMethodDescriptor y.desc = some sig → n = sig.parameters.length) ∧ (Cond.methodLink own index y).before args s = true ∧ (Cond.instanceMethod y).before args s = true ∧ (Cond.selects C y y).before args s = true
theorem vx_cwVW {own C : String} {index maxL mc ms : Nat} {y : MethodName} {bytes : ByteArray} {ret : Option FieldType} {hh : List (Nat × Nat × Nat × Nat)} {Ts ws ws' : List Cond} {rm : Room} (n : Nat) (ht : ∀ w ∈ Ts, w.before args s = true) (hT : GoodIn Ts (wsV own index C y ws)) (hw : ws = Cond.codeWith y bytes maxL ret hh :: ws') (hrc : rm.cells = mc) (hrs : rm.slots = ms)
    (hd : y.cls = C ∧ y.cls ≠ "java/lang/invoke/MethodHandle" ∧ y.cls ≠ "java/lang/invoke/VarHandle" ∧ (parseMethodDescriptor y.desc).map (fun d => d.parameters.length) = some n) (hR : rm.frames + 1 ≤ R.frames ∧ 8 + (maxL + 11) + rm.locals ≤ R.locals) :
    vx_CVW R s args own C index y bytes maxL ret hh ws rm mc ms n := by
  obtain ⟨hC, hd⟩ := hd
  subst hC
  have ok : ∀ w ∈ wsV own index y.cls y ws, w.before args s = true := fun w h => ht w (hT w h).1
  have hG : GoodIn Ts ws := fun w h => hT w (by unfold wsV; exact List.mem_append_right _ h)
  have hc : Cond.codeWith y bytes maxL ret hh ∈ ws := by rw [hw]; exact List.mem_cons_self
  refine ⟨⟨hrc, hrs, hR.1, hR.2, pay_in ht hG, hc⟩, ht _ (hG _ hc).1, ok _ (by simp [wsV]), ⟨hd.1, hd.2.1⟩, fun sig h => ?_, ok _ (by simp [wsV]), ok _ (by simp [wsV]), ok _ (by simp [wsV])⟩
  have h2 := hd.2.2
  rw [h] at h2
  exact (Option.some.inj h2).symm
theorem vx_runVW {y : MethodName} {bytes cc : ByteArray} {maxL nL mc ms n index : Nat} {ret : Option FieldType} {hh : List (Nat × Nat × Nat × Nat)} {ws : List Cond} {rm : Room} {Pc : Array Value → State → Prop} {Qc : Array Value → State → Outcome → State → Prop} {free : Addr → Prop} {Ts : List Cond} {own C : String} {b : Addr} {As rest : List Value} {g : JFrame}
    (S : CallFix p m c cc nL s args Ts own) (hM : Met l y ws rm Pc Qc mc ms free) (cw : vx_CVW R s args own C index y bytes maxL ret hh ws rm mc ms n) (hp : PreV s H C b Pc As)
    (hg : g.method = m) (hn : As.length = n) (hsize : g.locals.size = nL) (hstack : g.stack = As.reverse ++ .ref b :: rest) (hW : 2 * g.monitorRoom + (rest.map fun v => v.category).sum ≤ 8) (hdg : decode cc g.pc = .ok (.invokevirtual index, 3)) (hf : cells + mc ≤ R.cells ∧ slots + ms ≤ R.slots) :
    va_Run p l e R s m args below meth c H locs cells slots mc ms g rest (Qc (Value.ref b :: As).toArray) free := by
  obtain ⟨⟨hrc, hrs, hfr, hlo, hws, hcw⟩, hcode, hini, hy, hlen, hl, hin, hse⟩ := cw
  have hK : Back l R p e below s args y 3 8 (PreOf R mc ms Pc) (PostOf Qc mc ms free) := va_backW (hh := hh) (bytes := bytes) (maxL := maxL) (ret := ret) hM hp.1 hrc hrs hfr hlo hws hcw (fun a' U hW => word_at hW (Or.inl (by first | rfl | simp [Cond.onTables, Cond.keeps, Cond.steady])) hini)
  obtain ⟨hx, hb, hml, ho, -⟩ := S
  obtain ⟨-, ⟨cellB, hcB, hoB, hclB⟩, hPc⟩ := hp
  intro T hT X
  obtain ⟨v, vm₁, ⟨U', l2, c2, s2⟩, hW₁, X', ⟨g', mk, t, L, e1, e2, hq, h1, hL, h2, h3⟩, st⟩ := vx_callVW X hx (C := C) (hh := hh) (bytes := bytes) (maxL := maxL) (ret := ret) ho hl hin hse hcode hy hK (by rw [hT]; exact hcB) hoB hclB hg (hsize.trans hml.symm) (argsL := As) (rest := rest) (fun sig h => hn.trans (hlen sig h)) hstack hW (by rw [hb]; exact hdg)
    (fun vm₁ hW₁ => ⟨hf.1, hf.2, hPc (T.setVm vm₁) hT hW₁⟩)
  dsimp only [Pt.U, Pt.locs, Pt.cells, Pt.slots] at X' e1 e2 h1 h2 h3 st
  subst h1; subst h2; subst h3
  exact ⟨v, (T.setVm vm₁).calling g' mk (Value.ref b :: As).toArray, t, U', L, hT, X', hL, e1, e2, hq, st⟩
section
variable {y : MethodName} {bytes cc : ByteArray} {maxL nL mc ms n index : Nat} {ret : Option FieldType} {ws : List Cond} {rm : Room} {Pc : Array Value → State → Prop} {Qc : Array Value → State → Outcome → State → Prop} {XC : String → State → State → Prop} {free : Addr → Prop} {Ts : List Cond} {own C : String} {b : Addr} {As rest : List Value} {g : JFrame}
theorem vx_runVX {hh : List (Nat × Nat × Nat × Nat)} (S : CallFix p m c cc nL s args Ts own) (hM : vx_Met l y ws rm Pc Qc XC mc ms free) (cw : vx_CVW R s args own C index y bytes maxL ret hh ws rm mc ms n) (hp : PreV s H C b Pc As)
    (hg : g.method = m) (hn : As.length = n) (hsize : g.locals.size = nL) (hstack : g.stack = As.reverse ++ .ref b :: rest) (hW : 2 * g.monitorRoom + (rest.map fun v => v.category).sum ≤ 8) (hdg : decode cc g.pc = .ok (.invokevirtual index, 3)) (hf : cells + mc ≤ R.cells ∧ slots + ms ≤ R.slots) :
    vx_Run p l e R s m args below meth c H locs cells slots mc ms g rest (Qc (Value.ref b :: As).toArray) XC free := by
  obtain ⟨⟨hrc, hrs, hfr, hlo, hws, hcw⟩, hcode, hini, hy, hlen, hl, hin, hse⟩ := cw
  have hK : vx_Back l R p e below s args y 3 8 (PreOf R mc ms Pc) (PostOf Qc mc ms free) (vx_Post XC mc ms free) := vx_backW (hh := hh) (bytes := bytes) (maxL := maxL) (ret := ret) hM hp.1 hrc hrs hfr hlo hws hcw (fun a' U hW => word_at hW (Or.inl (by first | rfl | simp [Cond.onTables, Cond.keeps, Cond.steady])) hini)
  obtain ⟨hx, hb, hml, ho, -⟩ := S
  obtain ⟨-, ⟨cellB, hcB, hoB, hclB⟩, hPc⟩ := hp
  intro T hT X
  rcases vx_callVX X hx (C := C) (hh := hh) (bytes := bytes) (maxL := maxL) (ret := ret) ho hl hin hse hcode hy hK (by rw [hT]; exact hcB) hoB hclB hg (hsize.trans hml.symm) (argsL := As) (rest := rest) (fun sig h => hn.trans (hlen sig h)) hstack hW (by rw [hb]; exact hdg)
    (fun vm₁ hW₁ => ⟨hf.1, hf.2, hPc (T.setVm vm₁) hT hW₁⟩) with ⟨v, vm₁, ⟨U', l2, c2, s2⟩, hW₁, X', ⟨g', mk, t, L, e1, e2, hq, h1, hL, h2, h3⟩, st⟩ | ⟨q, vm₁, ⟨U', l2, c2, s2⟩, hW₁, X', ⟨g', mk, t, L, E, ce, e1, e2, hq, hce, hcv, hcl, h1, hL, h2, h3⟩, st⟩
  · dsimp only [Pt.U, Pt.locs, Pt.cells, Pt.slots] at X' e1 e2 h1 h2 h3 st
    subst h1; subst h2; subst h3
    exact Or.inl ⟨v, (T.setVm vm₁).calling g' mk (Value.ref b :: As).toArray, t, U', L, hT, X', hL, e1, e2, hq, st⟩
  · dsimp only [Pt.U, Pt.locs, Pt.cells, Pt.slots] at X' e1 e2 h1 h2 h3 st hcl
    subst h1; subst h2; subst h3
    exact Or.inr ⟨q, (T.setVm vm₁).calling g' mk (Value.ref b :: As).toArray, t, U', L, E, ce, hT, X', hL, e1, e2, hq, hce, hcv, vx_cls hW₁ hcl, st⟩
theorem vx_runSX {hh : List (Nat × Nat × Nat × Nat)} (S : CallFix p m c cc nL s args Ts own) (hM : vx_Met l y ws rm Pc Qc XC mc ms free) (cw : vx_CSW R s args own index y bytes maxL ret hh ws rm mc ms n) (hp : PreS s H Pc As)
    (hg : g.method = m) (hn : As.length = n) (hsize : g.locals.size = nL) (hstack : g.stack = As.reverse ++ rest) (hW : 2 * g.monitorRoom + (rest.map fun v => v.category).sum ≤ 8) (hdg : decode cc g.pc = .ok (.invokestatic index, 3)) (hf : cells + mc ≤ R.cells ∧ slots + ms ≤ R.slots) :
    vx_Run p l e R s m args below meth c H locs cells slots mc ms g rest (Qc As.toArray) XC free := by
  obtain ⟨⟨hrc, hrs, hfr, hlo, hws, hcw⟩, hcode, hini, hy, hlen, hl, hstt⟩ := cw
  have hK : vx_Back l R p e below s args y 3 8 (PreOf R mc ms Pc) (PostOf Qc mc ms free) (vx_Post XC mc ms free) := vx_backW (hh := hh) (bytes := bytes) (maxL := maxL) (ret := ret) hM hp.1 hrc hrs hfr hlo hws hcw (fun a' U hW => word_at hW (Or.inl (by first | rfl | simp [Cond.onTables, Cond.keeps, Cond.steady])) hini)
  obtain ⟨hx, hb, hml, ho, -⟩ := S
  intro T hT X
  rcases vx_callSX X hx (hh := hh) (bytes := bytes) (maxL := maxL) (ret := ret) ho hl hstt hini hcode hy hK hg (hsize.trans hml.symm) (argsL := As) (rest := rest) (fun sig h => hn.trans (hlen sig h)) hstack hW (by rw [hb]; exact hdg)
    (fun vm₁ hW₁ => ⟨hf.1, hf.2, hp.2 (T.setVm vm₁) hT hW₁⟩) with ⟨v, vm₁, ⟨U', l2, c2, s2⟩, hW₁, X', ⟨g', mk, t, L, e1, e2, hq, h1, hL, h2, h3⟩, st⟩ | ⟨q, vm₁, ⟨U', l2, c2, s2⟩, hW₁, X', ⟨g', mk, t, L, E, ce, e1, e2, hq, hce, hcv, hcl, h1, hL, h2, h3⟩, st⟩
  · dsimp only [Pt.U, Pt.locs, Pt.cells, Pt.slots] at X' e1 e2 h1 h2 h3 st
    subst h1; subst h2; subst h3
    exact Or.inl ⟨v, (T.setVm vm₁).calling g' mk As.toArray, t, U', L, hT, X', hL, e1, e2, hq, st⟩
  · dsimp only [Pt.U, Pt.locs, Pt.cells, Pt.slots] at X' e1 e2 h1 h2 h3 st hcl
    subst h1; subst h2; subst h3
    exact Or.inr ⟨q, (T.setVm vm₁).calling g' mk As.toArray, t, U', L, E, ce, hT, X', hL, e1, e2, hq, hce, hcv, vx_cls hW₁ hcl, st⟩
end
end VXH
theorem vx_ofWH {l : Launch} {y : MethodName} {ws ws' : List Cond} {rm : Room} {Pc : Array Value → State → Prop} {Qc : Array Value → State → Outcome → State → Prop} {XC : String → State → State → Prop} {mc ms : Nat} {free : Addr → Prop} {cc : ByteArray} {maxL : Nat} {ret : Option FieldType} {hh : List (Nat × Nat × Nat × Nat)}
    (hy : plainName y.cls = true) (hw : ws = Cond.codeWith y cc maxL ret hh :: ws')
    (body : ∀ p e s m args below meth c s₁, BodyLoose p l y (headSpec ws rm) cc maxL ret e s m args below meth c s₁ → c.maxLocals = maxL → Pc args s →
      W p l e (headSpec ws rm).room s m args below meth c s.heap [] 0 0 (vx_MQ below Qc XC args s mc ms free) (entryFrame m args maxL)) : vx_Met l y ws rm Pc Qc XC mc ms free := by
  refine MetFree.of_bodyS (code := cc) (maxLocals := maxL) (ret := ret) hy ?_ ?_
  · intro args s m h hn
    obtain ⟨m9, meth, c, hn9, h1, h2, h3, h4, -, h5, h6, -⟩ := Cond.codeWith_spec (atoms_spec (ws := ws) h _ (by rw [hw]; exact List.mem_cons_self))
    cases hn.symm.trans hn9
    exact ⟨meth, c, h1, h2, h3, h4, h5, h6⟩
  · intro p e s m args below meth c s₁ B hml hP _
    have hh0 : s₁.heap = s.heap := by rw [B.state]; rfl
    obtain ⟨t, a1, o, b1, b2, b3⟩ := body p e s m args below meth c s₁ B hml hP s₁ hh0 (Stand.of_body B)
    exact ⟨t, o, a1, b1, b2, b3⟩
/-! ===== END ===== -/
end
section
def RX0 : String := "ColdStore$Air"
def TX0 : u_T := fun k => match k with
  | 0 => ("ColdStore$Air", "base", "I", false)
  | _ => ("ColdStore$Air", "swing", "I", false)
def tyX0 : Nat → FieldType := fun k => match k with
  | 0 => .int
  | _ => .int
abbrev wsX00 : List Cond := u_ws RX0 TX0 2
theorem nmX0 : ∀ a, a < 2 → ∀ b, b < 2 → a ≠ b → (TX0 a).2.1 ≠ (TX0 b).2.1 := by decide +kernel
theorem tyX0_ok : ∀ k, k < 2 → parseFieldDescriptor (TX0 k).2.2.1 = some (tyX0 k) := by decide +kernel
abbrev cX0_init : ByteArray := prog_2_method_1_code
def yX0_init : MethodName := ⟨RX0, "<init>", "()V"⟩
abbrev cX0_temperatureAt : ByteArray := prog_2_method_2_code
def yX0_temperatureAt : MethodName := ⟨RX0, "temperatureAt", "(I)I"⟩
def RX1 : String := "ColdStore$Machine"
def TX1 : u_T := fun k => match k with
  | 0 => ("ColdStore$Machine", "power", "I", true)
  | 1 => ("ColdStore$Machine", "state", "I", false)
  | 2 => ("ColdStore$Machine", "hoursLeft", "I", false)
  | 3 => ("ColdStore$Machine", "frost", "I", false)
  | _ => ("ColdStore$Machine", "energy", "I", false)
def tyX1 : Nat → FieldType := fun k => match k with
  | 0 => .int
  | 1 => .int
  | 2 => .int
  | 3 => .int
  | _ => .int
abbrev wsX10 : List Cond := u_ws RX1 TX1 5
theorem nmX1 : ∀ a, a < 5 → ∀ b, b < 5 → a ≠ b → (TX1 a).2.1 ≠ (TX1 b).2.1 := by decide +kernel
theorem tyX1_ok : ∀ k, k < 5 → parseFieldDescriptor (TX1 k).2.2.1 = some (tyX1 k) := by decide +kernel
abbrev cX1_init : ByteArray := prog_3_method_1_code
def yX1_init : MethodName := ⟨RX1, "<init>", "(I)V"⟩
abbrev cX1_beginDefrosting : ByteArray := prog_3_method_2_code
def yX1_beginDefrosting : MethodName := ⟨RX1, "beginDefrosting", "()V"⟩
abbrev cX1_beginHour : ByteArray := prog_3_method_3_code
def yX1_beginHour : MethodName := ⟨RX1, "beginHour", "(IZ)V"⟩
abbrev cX1_defrostOneHour : ByteArray := prog_3_method_4_code
def yX1_defrostOneHour : MethodName := ⟨RX1, "defrostOneHour", "()V"⟩
abbrev cX1_warmthOfHour : ByteArray := prog_3_method_5_code
def yX1_warmthOfHour : MethodName := ⟨RX1, "warmthOfHour", "()I"⟩
abbrev cX1_useEnergy : ByteArray := prog_3_method_6_code
def yX1_useEnergy : MethodName := ⟨RX1, "useEnergy", "()I"⟩
abbrev cX1_imitate : ByteArray := prog_3_method_7_code
def yX1_imitate : MethodName := ⟨RX1, "imitate", "(LColdStore$Machine;)V"⟩
def RX2 : String := "ColdStore$Pallet"
def TX2 : u_T := fun k => match k with
  | 0 => ("ColdStore$Pallet", "product", "LColdStore$Product;", true)
  | 1 => ("ColdStore$Pallet", "room", "LColdStore$Room;", false)
  | 2 => ("ColdStore$Pallet", "temperature", "I", false)
  | 3 => ("ColdStore$Pallet", "age", "I", false)
  | 4 => ("ColdStore$Pallet", "rememberedTemperature", "I", false)
  | _ => ("ColdStore$Pallet", "rememberedAge", "I", false)
def tyX2 : Nat → FieldType := fun k => match k with
  | 0 => .object "ColdStore$Product"
  | 1 => .object "ColdStore$Room"
  | 2 => .int
  | 3 => .int
  | 4 => .int
  | _ => .int
abbrev wsX20 : List Cond := u_ws RX2 TX2 6
theorem nmX2 : ∀ a, a < 6 → ∀ b, b < 6 → a ≠ b → (TX2 a).2.1 ≠ (TX2 b).2.1 := by decide +kernel
theorem tyX2_ok : ∀ k, k < 6 → parseFieldDescriptor (TX2 k).2.2.1 = some (tyX2 k) := by decide +kernel
abbrev cX2_init : ByteArray := prog_4_method_1_code
def yX2_init : MethodName := ⟨RX2, "<init>", "(LColdStore$Product;I)V"⟩
abbrev cX2_fact : ByteArray := prog_4_method_2_code
def yX2_fact : MethodName := ⟨RX2, "fact", "(I)I"⟩
abbrev cX2_isHere : ByteArray := prog_4_method_3_code
def yX2_isHere : MethodName := ⟨RX2, "isHere", "()Z"⟩
abbrev cX2_isHereWith : ByteArray := prog_4_method_4_code
def yX2_isHereWith : MethodName := ⟨RX2, "isHereWith", "(LColdStore$Product;)Z"⟩
abbrev cX2_left : ByteArray := prog_4_method_5_code
def yX2_left : MethodName := ⟨RX2, "left", "()I"⟩
abbrev cX2_isSpoiled : ByteArray := prog_4_method_6_code
def yX2_isSpoiled : MethodName := ⟨RX2, "isSpoiled", "()Z"⟩
abbrev cX2_adaptTo : ByteArray := prog_4_method_7_code
def yX2_adaptTo : MethodName := ⟨RX2, "adaptTo", "(I)V"⟩
abbrev cX2_remember : ByteArray := prog_4_method_8_code
def yX2_remember : MethodName := ⟨RX2, "remember", "()V"⟩
abbrev cX2_recall : ByteArray := prog_4_method_9_code
def yX2_recall : MethodName := ⟨RX2, "recall", "()V"⟩
def RX3 : String := "ColdStore$Product"
def TX3 : u_T := fun k => match k with
  | 0 => ("ColdStore$Product", "number", "I", true)
  | 1 => ("ColdStore$Product", "low", "I", true)
  | 2 => ("ColdStore$Product", "high", "I", true)
  | 3 => ("ColdStore$Product", "life", "I", true)
  | _ => ("ColdStore$Product", "smell", "I", true)
def tyX3 : Nat → FieldType := fun k => match k with
  | 0 => .int
  | 1 => .int
  | 2 => .int
  | 3 => .int
  | _ => .int
abbrev wsX30 : List Cond := u_ws RX3 TX3 5
theorem nmX3 : ∀ a, a < 5 → ∀ b, b < 5 → a ≠ b → (TX3 a).2.1 ≠ (TX3 b).2.1 := by decide +kernel
theorem tyX3_ok : ∀ k, k < 5 → parseFieldDescriptor (TX3 k).2.2.1 = some (tyX3 k) := by decide +kernel
abbrev cX3_init : ByteArray := prog_5_method_1_code
def yX3_init : MethodName := ⟨RX3, "<init>", "(IIIII)V"⟩
abbrev cX3_distanceFromSuiting : ByteArray := prog_5_method_2_code
def yX3_distanceFromSuiting : MethodName := ⟨RX3, "distanceFromSuiting", "(I)I"⟩
abbrev cX3_goesWith : ByteArray := prog_5_method_3_code
def yX3_goesWith : MethodName := ⟨RX3, "goesWith", "(LColdStore$Product;)Z"⟩
abbrev cX3_disturbs : ByteArray := prog_5_method_4_code
def yX3_disturbs : MethodName := ⟨RX3, "disturbs", "(LColdStore$Product;)Z"⟩
def RX4 : String := "ColdStore$Room"
def TX4 : u_T := fun k => match k with
  | 0 => ("ColdStore$Room", "number", "I", true)
  | 1 => ("ColdStore$Room", "wall", "I", true)
  | 2 => ("ColdStore$Room", "machine", "LColdStore$Machine;", true)
  | 3 => ("ColdStore$Room", "places", "[LColdStore$Pallet;", true)
  | 4 => ("ColdStore$Room", "aim", "I", false)
  | 5 => ("ColdStore$Room", "isThrifty", "Z", false)
  | 6 => ("ColdStore$Room", "temperature", "I", false)
  | 7 => ("ColdStore$Room", "warmHours", "I", false)
  | 8 => ("ColdStore$Room", "rememberedMachine", "LColdStore$Machine;", true)
  | 9 => ("ColdStore$Room", "rememberedTemperature", "I", false)
  | _ => ("ColdStore$Room", "rememberedWarmHours", "I", false)
def tyX4 : Nat → FieldType := fun k => match k with
  | 0 => .int
  | 1 => .int
  | 2 => .object "ColdStore$Machine"
  | 3 => .array (.object "ColdStore$Pallet")
  | 4 => .int
  | 5 => .boolean
  | 6 => .int
  | 7 => .int
  | 8 => .object "ColdStore$Machine"
  | 9 => .int
  | _ => .int
abbrev wsX40 : List Cond := u_ws RX4 TX4 11
theorem nmX4 : ∀ a, a < 11 → ∀ b, b < 11 → a ≠ b → (TX4 a).2.1 ≠ (TX4 b).2.1 := by decide +kernel
theorem tyX4_ok : ∀ k, k < 11 → parseFieldDescriptor (TX4 k).2.2.1 = some (tyX4 k) := by decide +kernel
abbrev cX4_init : ByteArray := prog_6_method_1_code
def yX4_init : MethodName := ⟨RX4, "<init>", "(IIIII)V"⟩
abbrev cX4_fact : ByteArray := prog_6_method_2_code
def yX4_fact : MethodName := ⟨RX4, "fact", "(I)I"⟩
abbrev cX4_freePlaces : ByteArray := prog_6_method_3_code
def yX4_freePlaces : MethodName := ⟨RX4, "freePlaces", "()I"⟩
abbrev cX4_reasonAgainst : ByteArray := prog_6_method_4_code
def yX4_reasonAgainst : MethodName := ⟨RX4, "reasonAgainst", "(LColdStore$Product;)I"⟩
abbrev cX4_accepts : ByteArray := prog_6_method_5_code
def yX4_accepts : MethodName := ⟨RX4, "accepts", "(LColdStore$Product;)Z"⟩
abbrev cX4_isBetterFor : ByteArray := prog_6_method_6_code
def yX4_isBetterFor : MethodName := ⟨RX4, "isBetterFor", "(LColdStore$Product;LColdStore$Room;)Z"⟩
abbrev cX4_take : ByteArray := prog_6_method_7_code
def yX4_take : MethodName := ⟨RX4, "take", "(LColdStore$Pallet;)V"⟩
abbrev cX4_release : ByteArray := prog_6_method_8_code
def yX4_release : MethodName := ⟨RX4, "release", "(LColdStore$Pallet;)V"⟩
abbrev cX4_passHour : ByteArray := prog_6_method_9_code
def yX4_passHour : MethodName := ⟨RX4, "passHour", "(IZ)I"⟩
abbrev cX4_warmthOfPallets : ByteArray := prog_6_method_10_code
def yX4_warmthOfPallets : MethodName := ⟨RX4, "warmthOfPallets", "()I"⟩
abbrev cX4_remember : ByteArray := prog_6_method_11_code
def yX4_remember : MethodName := ⟨RX4, "remember", "()V"⟩
abbrev cX4_recall : ByteArray := prog_6_method_12_code
def yX4_recall : MethodName := ⟨RX4, "recall", "()V"⟩
def RX5 : String := "ColdStore$Tariff"
def TX5 : u_T := fun k => match k with
  | 0 => ("ColdStore$Tariff", "prices", "[I", true)
  | _ => ("ColdStore$Tariff", "lowest", "I", false)
def tyX5 : Nat → FieldType := fun k => match k with
  | 0 => .array .int
  | _ => .int
abbrev wsX50 : List Cond := u_ws RX5 TX5 2
theorem nmX5 : ∀ a, a < 2 → ∀ b, b < 2 → a ≠ b → (TX5 a).2.1 ≠ (TX5 b).2.1 := by decide +kernel
theorem tyX5_ok : ∀ k, k < 2 → parseFieldDescriptor (TX5 k).2.2.1 = some (tyX5 k) := by decide +kernel
abbrev cX5_init : ByteArray := prog_7_method_1_code
def yX5_init : MethodName := ⟨RX5, "<init>", "()V"⟩
abbrev cX5_charge : ByteArray := prog_7_method_2_code
def yX5_charge : MethodName := ⟨RX5, "charge", "(III)V"⟩
abbrev cX5_priceAt : ByteArray := prog_7_method_3_code
def yX5_priceAt : MethodName := ⟨RX5, "priceAt", "(I)I"⟩
abbrev cX5_isLowestAt : ByteArray := prog_7_method_4_code
def yX5_isLowestAt : MethodName := ⟨RX5, "isLowestAt", "(I)Z"⟩
def RX6 : String := "ColdStore"
def TX6 : u_T := fun k => match k with
  | 0 => ("ColdStore", "air", "LColdStore$Air;", true)
  | 1 => ("ColdStore", "tariff", "LColdStore$Tariff;", true)
  | 2 => ("ColdStore", "products", "[LColdStore$Product;", true)
  | 3 => ("ColdStore", "rooms", "[LColdStore$Room;", true)
  | 4 => ("ColdStore", "pallets", "[LColdStore$Pallet;", true)
  | 5 => ("ColdStore", "productCount", "I", false)
  | 6 => ("ColdStore", "roomCount", "I", false)
  | 7 => ("ColdStore", "palletCount", "I", false)
  | 8 => ("ColdStore", "shippedCount", "I", false)
  | 9 => ("ColdStore", "time", "I", false)
  | _ => ("ColdStore", "paid", "J", false)
def tyX6 : Nat → FieldType := fun k => match k with
  | 0 => .object "ColdStore$Air"
  | 1 => .object "ColdStore$Tariff"
  | 2 => .array (.object "ColdStore$Product")
  | 3 => .array (.object "ColdStore$Room")
  | 4 => .array (.object "ColdStore$Pallet")
  | 5 => .int
  | 6 => .int
  | 7 => .int
  | 8 => .int
  | 9 => .int
  | _ => .long
abbrev wsX60 : List Cond := u_ws RX6 TX6 11
theorem nmX6 : ∀ a, a < 11 → ∀ b, b < 11 → a ≠ b → (TX6 a).2.1 ≠ (TX6 b).2.1 := by decide +kernel
theorem tyX6_ok : ∀ k, k < 11 → parseFieldDescriptor (TX6 k).2.2.1 = some (tyX6 k) := by decide +kernel
abbrev cX6_init : ByteArray := prog_1_method_1_code
def yX6_init : MethodName := ⟨RX6, "<init>", "()V"⟩
abbrev cX6_setOutside : ByteArray := prog_1_method_2_code
def yX6_setOutside : MethodName := ⟨RX6, "setOutside", "(II)I"⟩
abbrev cX6_outside : ByteArray := prog_1_method_3_code
def yX6_outside : MethodName := ⟨RX6, "outside", "(I)I"⟩
abbrev cX6_setPrice : ByteArray := prog_1_method_4_code
def yX6_setPrice : MethodName := ⟨RX6, "setPrice", "(III)I"⟩
abbrev cX6_addProduct : ByteArray := prog_1_method_5_code
def yX6_addProduct : MethodName := ⟨RX6, "addProduct", "(IIII)I"⟩
abbrev cX6_addRoom : ByteArray := prog_1_method_6_code
def yX6_addRoom : MethodName := ⟨RX6, "addRoom", "(IIII)I"⟩
abbrev cX6_setRoom : ByteArray := prog_1_method_7_code
def yX6_setRoom : MethodName := ⟨RX6, "setRoom", "(IIZ)I"⟩
abbrev cX6_defrost : ByteArray := prog_1_method_8_code
def yX6_defrost : MethodName := ⟨RX6, "defrost", "(I)I"⟩
abbrev cX6_room : ByteArray := prog_1_method_9_code
def yX6_room : MethodName := ⟨RX6, "room", "(II)I"⟩
abbrev cX6_reason : ByteArray := prog_1_method_10_code
def yX6_reason : MethodName := ⟨RX6, "reason", "(II)I"⟩
abbrev cX6_arrive : ByteArray := prog_1_method_11_code
def yX6_arrive : MethodName := ⟨RX6, "arrive", "(III)I"⟩
abbrev cX6_move : ByteArray := prog_1_method_12_code
def yX6_move : MethodName := ⟨RX6, "move", "(II)I"⟩
abbrev cX6_pallet : ByteArray := prog_1_method_13_code
def yX6_pallet : MethodName := ⟨RX6, "pallet", "(II)I"⟩
abbrev cX6_bestRoom : ByteArray := prog_1_method_14_code
def yX6_bestRoom : MethodName := ⟨RX6, "bestRoom", "(I)I"⟩
abbrev cX6_ship : ByteArray := prog_1_method_15_code
def yX6_ship : MethodName := ⟨RX6, "ship", "(III)I"⟩
abbrev cX6_clear : ByteArray := prog_1_method_16_code
def yX6_clear : MethodName := ⟨RX6, "clear", "()I"⟩
abbrev cX6_stock : ByteArray := prog_1_method_17_code
def yX6_stock : MethodName := ⟨RX6, "stock", "(IZ)I"⟩
abbrev cX6_count : ByteArray := prog_1_method_18_code
def yX6_count : MethodName := ⟨RX6, "count", "(I)I"⟩
abbrev cX6_tick : ByteArray := prog_1_method_19_code
def yX6_tick : MethodName := ⟨RX6, "tick", "(I)I"⟩
abbrev cX6_foretell : ByteArray := prog_1_method_20_code
def yX6_foretell : MethodName := ⟨RX6, "foretell", "(II)I"⟩
abbrev cX6_lasts : ByteArray := prog_1_method_21_code
def yX6_lasts : MethodName := ⟨RX6, "lasts", "(I)I"⟩
abbrev cX6_now : ByteArray := prog_1_method_22_code
def yX6_now : MethodName := ⟨RX6, "now", "()I"⟩
abbrev cX6_paid : ByteArray := prog_1_method_23_code
def yX6_paid : MethodName := ⟨RX6, "paid", "()J"⟩
abbrev cX6_freshness : ByteArray := prog_1_method_24_code
def yX6_freshness : MethodName := ⟨RX6, "freshness", "(I)D"⟩
abbrev cX6_digest : ByteArray := prog_1_method_25_code
def yX6_digest : MethodName := ⟨RX6, "digest", "()J"⟩
abbrev cX6_requireWithin : ByteArray := prog_1_method_26_code
def yX6_requireWithin : MethodName := ⟨RX6, "requireWithin", "(III)V"⟩
abbrev cX6_requireFact : ByteArray := prog_1_method_27_code
def yX6_requireFact : MethodName := ⟨RX6, "requireFact", "(II)V"⟩
abbrev cX6_existingProduct : ByteArray := prog_1_method_28_code
def yX6_existingProduct : MethodName := ⟨RX6, "existingProduct", "(I)LColdStore$Product;"⟩
abbrev cX6_existingRoom : ByteArray := prog_1_method_29_code
def yX6_existingRoom : MethodName := ⟨RX6, "existingRoom", "(I)LColdStore$Room;"⟩
abbrev cX6_existingPallet : ByteArray := prog_1_method_30_code
def yX6_existingPallet : MethodName := ⟨RX6, "existingPallet", "(I)LColdStore$Pallet;"⟩
abbrev cX6_countOf : ByteArray := prog_1_method_31_code
def yX6_countOf : MethodName := ⟨RX6, "countOf", "(I)I"⟩
abbrev cX6_palletsHere : ByteArray := prog_1_method_32_code
def yX6_palletsHere : MethodName := ⟨RX6, "palletsHere", "()I"⟩
abbrev cX6_spoiledHere : ByteArray := prog_1_method_33_code
def yX6_spoiledHere : MethodName := ⟨RX6, "spoiledHere", "()I"⟩
abbrev cX6_nextToShip : ByteArray := prog_1_method_34_code
def yX6_nextToShip : MethodName := ⟨RX6, "nextToShip", "(LColdStore$Product;I)LColdStore$Pallet;"⟩
abbrev cX6_leave : ByteArray := prog_1_method_35_code
def yX6_leave : MethodName := ⟨RX6, "leave", "(LColdStore$Pallet;)V"⟩
abbrev cX6_passHourEverywhere : ByteArray := prog_1_method_36_code
def yX6_passHourEverywhere : MethodName := ⟨RX6, "passHourEverywhere", "()V"⟩
abbrev cX6_passHourIn : ByteArray := prog_1_method_37_code
def yX6_passHourIn : MethodName := ⟨RX6, "passHourIn", "(LColdStore$Room;I)I"⟩
abbrev cX6_mix : ByteArray := prog_1_method_38_code
def yX6_mix : MethodName := ⟨RX6, "mix", "(JJ)J"⟩
abbrev cX6_mixRooms : ByteArray := prog_1_method_39_code
def yX6_mixRooms : MethodName := ⟨RX6, "mixRooms", "(J)J"⟩
abbrev cX6_mixPallets : ByteArray := prog_1_method_40_code
def yX6_mixPallets : MethodName := ⟨RX6, "mixPallets", "(J)J"⟩
def RX7 : String := "ColdStoreModel"
def TX7 : u_T := fun k => match k with
  | 0 => ("ColdStoreModel", "thrown", "I", false)
  | 1 => ("ColdStoreModel", "now", "I", false)
  | 2 => ("ColdStoreModel", "base", "I", false)
  | 3 => ("ColdStoreModel", "swing", "I", false)
  | 4 => ("ColdStoreModel", "prices", "[I", true)
  | 5 => ("ColdStoreModel", "paid", "J", false)
  | 6 => ("ColdStoreModel", "products", "I", false)
  | 7 => ("ColdStoreModel", "lows", "[I", true)
  | 8 => ("ColdStoreModel", "highs", "[I", true)
  | 9 => ("ColdStoreModel", "lives", "[I", true)
  | 10 => ("ColdStoreModel", "smells", "[I", true)
  | 11 => ("ColdStoreModel", "rooms", "I", false)
  | 12 => ("ColdStoreModel", "places", "[I", true)
  | 13 => ("ColdStoreModel", "walls", "[I", true)
  | 14 => ("ColdStoreModel", "powers", "[I", true)
  | 15 => ("ColdStoreModel", "aims", "[I", true)
  | 16 => ("ColdStoreModel", "areThrifty", "[Z", true)
  | 17 => ("ColdStoreModel", "states", "[I", true)
  | 18 => ("ColdStoreModel", "pallets", "I", false)
  | 19 => ("ColdStoreModel", "productOf", "[I", true)
  | 20 => ("ColdStoreModel", "roomOf", "[I", true)
  | 21 => ("ColdStoreModel", "temperatures", "[I", true)
  | 22 => ("ColdStoreModel", "ages", "[I", true)
  | _ => ("ColdStoreModel", "shipped", "I", false)
def tyX7 : Nat → FieldType := fun k => match k with
  | 0 => .int
  | 1 => .int
  | 2 => .int
  | 3 => .int
  | 4 => .array .int
  | 5 => .long
  | 6 => .int
  | 7 => .array .int
  | 8 => .array .int
  | 9 => .array .int
  | 10 => .array .int
  | 11 => .int
  | 12 => .array .int
  | 13 => .array .int
  | 14 => .array .int
  | 15 => .array .int
  | 16 => .array .boolean
  | 17 => .array .int
  | 18 => .int
  | 19 => .array .int
  | 20 => .array .int
  | 21 => .array .int
  | 22 => .array .int
  | _ => .int
abbrev wsX70 : List Cond := u_ws RX7 TX7 24
theorem nmX7 : ∀ a, a < 24 → ∀ b, b < 24 → a ≠ b → (TX7 a).2.1 ≠ (TX7 b).2.1 := by decide +kernel
theorem tyX7_ok : ∀ k, k < 24 → parseFieldDescriptor (TX7 k).2.2.1 = some (tyX7 k) := by decide +kernel
abbrev cX7_init : ByteArray := prog_9_method_1_code
def yX7_init : MethodName := ⟨RX7, "<init>", "()V"⟩
abbrev cX7_thrown : ByteArray := prog_9_method_2_code
def yX7_thrown : MethodName := ⟨RX7, "thrown", "()I"⟩
abbrev cX7_no : ByteArray := prog_9_method_3_code
def yX7_no : MethodName := ⟨RX7, "no", "(I)I"⟩
abbrev cX7_isIn : ByteArray := prog_9_method_4_code
def yX7_isIn : MethodName := ⟨RX7, "isIn", "(III)Z"⟩
abbrev cX7_isProduct : ByteArray := prog_9_method_5_code
def yX7_isProduct : MethodName := ⟨RX7, "isProduct", "(I)Z"⟩
abbrev cX7_isRoom : ByteArray := prog_9_method_6_code
def yX7_isRoom : MethodName := ⟨RX7, "isRoom", "(I)Z"⟩
abbrev cX7_isPallet : ByteArray := prog_9_method_7_code
def yX7_isPallet : MethodName := ⟨RX7, "isPallet", "(I)Z"⟩
abbrev cX7_outsideAt : ByteArray := prog_9_method_8_code
def yX7_outsideAt : MethodName := ⟨RX7, "outsideAt", "(I)I"⟩
abbrev cX7_setOutside : ByteArray := prog_9_method_9_code
def yX7_setOutside : MethodName := ⟨RX7, "setOutside", "(II)I"⟩
abbrev cX7_outside : ByteArray := prog_9_method_10_code
def yX7_outside : MethodName := ⟨RX7, "outside", "(I)I"⟩
abbrev cX7_lowest : ByteArray := prog_9_method_11_code
def yX7_lowest : MethodName := ⟨RX7, "lowest", "()I"⟩
abbrev cX7_setPrice : ByteArray := prog_9_method_12_code
def yX7_setPrice : MethodName := ⟨RX7, "setPrice", "(III)I"⟩
abbrev cX7_addProduct : ByteArray := prog_9_method_13_code
def yX7_addProduct : MethodName := ⟨RX7, "addProduct", "(IIII)I"⟩
abbrev cX7_isAim : ByteArray := prog_9_method_14_code
def yX7_isAim : MethodName := ⟨RX7, "isAim", "(I)Z"⟩
abbrev cX7_addRoom : ByteArray := prog_9_method_15_code
def yX7_addRoom : MethodName := ⟨RX7, "addRoom", "(IIII)I"⟩
abbrev cX7_setRoom : ByteArray := prog_9_method_16_code
def yX7_setRoom : MethodName := ⟨RX7, "setRoom", "(IIZ)I"⟩
abbrev cX7_defrost : ByteArray := prog_9_method_17_code
def yX7_defrost : MethodName := ⟨RX7, "defrost", "(I)I"⟩
abbrev cX7_free : ByteArray := prog_9_method_18_code
def yX7_free : MethodName := ⟨RX7, "free", "(I)I"⟩
abbrev cX7_toldOfRoom : ByteArray := prog_9_method_19_code
def yX7_toldOfRoom : MethodName := ⟨RX7, "toldOfRoom", "(II)I"⟩
abbrev cX7_room : ByteArray := prog_9_method_20_code
def yX7_room : MethodName := ⟨RX7, "room", "(II)I"⟩
abbrev cX7_goTogether : ByteArray := prog_9_method_21_code
def yX7_goTogether : MethodName := ⟨RX7, "goTogether", "(II)Z"⟩
abbrev cX7_reasonFor : ByteArray := prog_9_method_22_code
def yX7_reasonFor : MethodName := ⟨RX7, "reasonFor", "(II)I"⟩
abbrev cX7_reason : ByteArray := prog_9_method_23_code
def yX7_reason : MethodName := ⟨RX7, "reason", "(II)I"⟩
abbrev cX7_arrive : ByteArray := prog_9_method_24_code
def yX7_arrive : MethodName := ⟨RX7, "arrive", "(III)I"⟩
abbrev cX7_move : ByteArray := prog_9_method_25_code
def yX7_move : MethodName := ⟨RX7, "move", "(II)I"⟩
abbrev cX7_leftOf : ByteArray := prog_9_method_26_code
def yX7_leftOf : MethodName := ⟨RX7, "leftOf", "(I)I"⟩
abbrev cX7_toldOfPallet : ByteArray := prog_9_method_27_code
def yX7_toldOfPallet : MethodName := ⟨RX7, "toldOfPallet", "(II)I"⟩
abbrev cX7_pallet : ByteArray := prog_9_method_28_code
def yX7_pallet : MethodName := ⟨RX7, "pallet", "(II)I"⟩
abbrev cX7_off : ByteArray := prog_9_method_29_code
def yX7_off : MethodName := ⟨RX7, "off", "(II)I"⟩
abbrev cX7_bestRoom : ByteArray := prog_9_method_30_code
def yX7_bestRoom : MethodName := ⟨RX7, "bestRoom", "(I)I"⟩
abbrev cX7_ship : ByteArray := prog_9_method_31_code
def yX7_ship : MethodName := ⟨RX7, "ship", "(III)I"⟩
abbrev cX7_there : ByteArray := prog_9_method_32_code
def yX7_there : MethodName := ⟨RX7, "there", "(IZ)I"⟩
abbrev cX7_clear : ByteArray := prog_9_method_33_code
def yX7_clear : MethodName := ⟨RX7, "clear", "()I"⟩
abbrev cX7_stock : ByteArray := prog_9_method_34_code
def yX7_stock : MethodName := ⟨RX7, "stock", "(IZ)I"⟩
abbrev cX7_counted : ByteArray := prog_9_method_35_code
def yX7_counted : MethodName := ⟨RX7, "counted", "(I)I"⟩
abbrev cX7_count : ByteArray := prog_9_method_36_code
def yX7_count : MethodName := ⟨RX7, "count", "(I)I"⟩
abbrev cX7_setMachine : ByteArray := prog_9_method_37_code
def yX7_setMachine : MethodName := ⟨RX7, "setMachine", "(II)V"⟩
abbrev cX7_hour : ByteArray := prog_9_method_38_code
def yX7_hour : MethodName := ⟨RX7, "hour", "(II)V"⟩
abbrev cX7_tick : ByteArray := prog_9_method_39_code
def yX7_tick : MethodName := ⟨RX7, "tick", "(I)I"⟩
abbrev cX7_ahead : ByteArray := prog_9_method_40_code
def yX7_ahead : MethodName := ⟨RX7, "ahead", "(III)[I"⟩
abbrev cX7_foretell : ByteArray := prog_9_method_41_code
def yX7_foretell : MethodName := ⟨RX7, "foretell", "(II)I"⟩
abbrev cX7_lasts : ByteArray := prog_9_method_42_code
def yX7_lasts : MethodName := ⟨RX7, "lasts", "(I)I"⟩
abbrev cX7_now : ByteArray := prog_9_method_43_code
def yX7_now : MethodName := ⟨RX7, "now", "()I"⟩
abbrev cX7_paid : ByteArray := prog_9_method_44_code
def yX7_paid : MethodName := ⟨RX7, "paid", "()J"⟩
abbrev cX7_freshness : ByteArray := prog_9_method_45_code
def yX7_freshness : MethodName := ⟨RX7, "freshness", "(I)D"⟩
abbrev cX7_digest : ByteArray := prog_9_method_46_code
def yX7_digest : MethodName := ⟨RX7, "digest", "()J"⟩
def RJx8e188 : String := "java/lang/Cloneable"
def TJx8e188 : u_T := fun k => match k with
  | _ => ("", "", "", false)
def tyJx8e188 : Nat → FieldType := fun k => match k with
  | _ => .int
abbrev wsJx8e1880 : List Cond := u_ws RJx8e188 TJx8e188 0
theorem nmJx8e188 : ∀ a, a < 0 → ∀ b, b < 0 → a ≠ b → (TJx8e188 a).2.1 ≠ (TJx8e188 b).2.1 := by decide +kernel
theorem tyJx8e188_ok : ∀ k, k < 0 → parseFieldDescriptor (TJx8e188 k).2.2.1 = some (tyJx8e188 k) := by decide +kernel
def RJ9 : String := "java/lang/Math"
def TJ9 : u_T := fun k => match k with
  | _ => ("", "", "", false)
def tyJ9 : Nat → FieldType := fun k => match k with
  | _ => .int
abbrev wsJ90 : List Cond := u_ws RJ9 TJ9 0
theorem nmJ9 : ∀ a, a < 0 → ∀ b, b < 0 → a ≠ b → (TJ9 a).2.1 ≠ (TJ9 b).2.1 := by decide +kernel
theorem tyJ9_ok : ∀ k, k < 0 → parseFieldDescriptor (TJ9 k).2.2.1 = some (tyJ9 k) := by decide +kernel
abbrev cJ9_floorMod_7cf53 : ByteArray := prog_15_method_50_code
def yJ9_floorMod_7cf53 : MethodName := ⟨RJ9, "floorMod", "(II)I"⟩
abbrev cJ9_abs_0f7a4 : ByteArray := prog_15_method_59_code
def yJ9_abs_0f7a4 : MethodName := ⟨RJ9, "abs", "(I)I"⟩
abbrev cJ9_max_7cf53 : ByteArray := prog_15_method_65_code
def yJ9_max_7cf53 : MethodName := ⟨RJ9, "max", "(II)I"⟩
abbrev cJ9_min_7cf53 : ByteArray := prog_15_method_69_code
def yJ9_min_7cf53 : MethodName := ⟨RJ9, "min", "(II)I"⟩
def RJ0 : String := "java/lang/String"
def TJ0 : u_T := fun k => match k with
  | _ => ("", "", "", false)
def tyJ0 : Nat → FieldType := fun k => match k with
  | _ => .int
abbrev wsJ00 : List Cond := u_ws RJ0 TJ0 0
theorem nmJ0 : ∀ a, a < 0 → ∀ b, b < 0 → a ≠ b → (TJ0 a).2.1 ≠ (TJ0 b).2.1 := by decide +kernel
theorem tyJ0_ok : ∀ k, k < 0 → parseFieldDescriptor (TJ0 k).2.2.1 = some (tyJ0 k) := by decide +kernel
def RJ10 : String := "java/lang/System"
def TJ10 : u_T := fun k => match k with
  | _ => ("", "", "", false)
def tyJ10 : Nat → FieldType := fun k => match k with
  | _ => .int
abbrev wsJ100 : List Cond := u_ws RJ10 TJ10 0
theorem nmJ10 : ∀ a, a < 0 → ∀ b, b < 0 → a ≠ b → (TJ10 a).2.1 ≠ (TJ10 b).2.1 := by decide +kernel
theorem tyJ10_ok : ∀ k, k < 0 → parseFieldDescriptor (TJ10 k).2.2.1 = some (tyJ10 k) := by decide +kernel
def RL : String := "ColdStoreLaw"
abbrev cL_setOutside : ByteArray := method_3_code
def yL_setOutside : MethodName := ⟨RL, "setOutside", "(LColdStore;II[J)I"⟩
abbrev cL_outside : ByteArray := method_4_code
def yL_outside : MethodName := ⟨RL, "outside", "(LColdStore;I[J)I"⟩
abbrev cL_setPrice : ByteArray := method_5_code
def yL_setPrice : MethodName := ⟨RL, "setPrice", "(LColdStore;III[J)I"⟩
abbrev cL_addProduct : ByteArray := method_6_code
def yL_addProduct : MethodName := ⟨RL, "addProduct", "(LColdStore;IIII[J)I"⟩
abbrev cL_addRoom : ByteArray := method_7_code
def yL_addRoom : MethodName := ⟨RL, "addRoom", "(LColdStore;IIII[J)I"⟩
abbrev cL_setRoom : ByteArray := method_8_code
def yL_setRoom : MethodName := ⟨RL, "setRoom", "(LColdStore;IIZ[J)I"⟩
abbrev cL_defrost : ByteArray := method_9_code
def yL_defrost : MethodName := ⟨RL, "defrost", "(LColdStore;I[J)I"⟩
abbrev cL_room : ByteArray := method_10_code
def yL_room : MethodName := ⟨RL, "room", "(LColdStore;II[J)I"⟩
abbrev cL_reason : ByteArray := method_11_code
def yL_reason : MethodName := ⟨RL, "reason", "(LColdStore;II[J)I"⟩
abbrev cL_arrive : ByteArray := method_12_code
def yL_arrive : MethodName := ⟨RL, "arrive", "(LColdStore;III[J)I"⟩
abbrev cL_move : ByteArray := method_13_code
def yL_move : MethodName := ⟨RL, "move", "(LColdStore;II[J)I"⟩
abbrev cL_pallet : ByteArray := method_14_code
def yL_pallet : MethodName := ⟨RL, "pallet", "(LColdStore;II[J)I"⟩
abbrev cL_bestRoom : ByteArray := method_15_code
def yL_bestRoom : MethodName := ⟨RL, "bestRoom", "(LColdStore;I[J)I"⟩
abbrev cL_ship : ByteArray := method_16_code
def yL_ship : MethodName := ⟨RL, "ship", "(LColdStore;III[J)I"⟩
abbrev cL_stock : ByteArray := method_17_code
def yL_stock : MethodName := ⟨RL, "stock", "(LColdStore;IZ[J)I"⟩
abbrev cL_count : ByteArray := method_18_code
def yL_count : MethodName := ⟨RL, "count", "(LColdStore;I[J)I"⟩
abbrev cL_tick : ByteArray := method_19_code
def yL_tick : MethodName := ⟨RL, "tick", "(LColdStore;I[J)I"⟩
abbrev cL_foretell : ByteArray := method_20_code
def yL_foretell : MethodName := ⟨RL, "foretell", "(LColdStore;II[J)I"⟩
abbrev cL_lasts : ByteArray := method_21_code
def yL_lasts : MethodName := ⟨RL, "lasts", "(LColdStore;I[J)I"⟩
abbrev cL_freshness : ByteArray := method_22_code
def yL_freshness : MethodName := ⟨RL, "freshness", "(LColdStore;I[D)I"⟩
abbrev cL_law : ByteArray := code
def yL_law : MethodName := ⟨RL, "law", "([I)Z"⟩
abbrev vwCl : List vw_C := [(RX0, TX0, 2), (RX1, TX1, 5), (RX2, TX2, 6), (RX3, TX3, 5), (RX4, TX4, 11), (RX5, TX5, 2), (RX6, TX6, 11), (RX7, TX7, 24)]
end
section
/-! the words of the tables that every method may use: all good ones, in one list -/
def allW : List Cond := lw_tbl.filter goodWord
theorem allG : GoodIn allW allW := fun w h => ⟨h, good_of_word (List.mem_filter.mp h).2⟩
theorem allT : ∀ w ∈ allW, w ∈ lw_tbl := fun w h => (List.mem_filter.mp h).1
theorem tt1 : ∀ w ∈ tables_1_1, w ∈ lw_tbl := fun _ h => List.mem_append_right _ (List.mem_append_left _ h)
theorem tb1 {w : Cond} (i : Nat) (h : tables_1_1[i]? = some w) (g : goodWord w = true) : w ∈ allW := List.mem_filter.mpr ⟨tt1 w (List.mem_of_getElem? h), g⟩
theorem tt2 : ∀ w ∈ tables_1_2, w ∈ lw_tbl := fun _ h => List.mem_append_right _ (List.mem_append_right _ (List.mem_append_left _ h))
theorem tb2 {w : Cond} (i : Nat) (h : tables_1_2[i]? = some w) (g : goodWord w = true) : w ∈ allW := List.mem_filter.mpr ⟨tt2 w (List.mem_of_getElem? h), g⟩
theorem tt3 : ∀ w ∈ tables_1_3, w ∈ lw_tbl := fun _ h => List.mem_append_right _ (List.mem_append_right _ (List.mem_append_right _ (List.mem_append_left _ h)))
theorem tb3 {w : Cond} (i : Nat) (h : tables_1_3[i]? = some w) (g : goodWord w = true) : w ∈ allW := List.mem_filter.mpr ⟨tt3 w (List.mem_of_getElem? h), g⟩
theorem tt4 : ∀ w ∈ tables_1_4, w ∈ lw_tbl := fun _ h => List.mem_append_right _ (List.mem_append_right _ (List.mem_append_right _ (List.mem_append_right _ (List.mem_append_left _ h))))
theorem tb4 {w : Cond} (i : Nat) (h : tables_1_4[i]? = some w) (g : goodWord w = true) : w ∈ allW := List.mem_filter.mpr ⟨tt4 w (List.mem_of_getElem? h), g⟩
theorem tt5 : ∀ w ∈ tables_1_5, w ∈ lw_tbl := fun _ h => List.mem_append_right _ (List.mem_append_right _ (List.mem_append_right _ (List.mem_append_right _ (List.mem_append_right _ h))))
theorem tb5 {w : Cond} (i : Nat) (h : tables_1_5[i]? = some w) (g : goodWord w = true) : w ∈ allW := List.mem_filter.mpr ⟨tt5 w (List.mem_of_getElem? h), g⟩
theorem tpS (q : MethodName × Nat) (h : q ∈ lw_privs) : Cond.selects q.1.cls q.1 q.1 ∈ allW := List.mem_filter.mpr ⟨List.mem_append_left _ (List.mem_map.mpr ⟨q, h, rfl⟩), rfl⟩
theorem wd_cl_L_8 : Cond.classLink RL 8 RX6 ∈ allW := tb1 17 rfl rfl
theorem wd_it_RX6 : Cond.instantiable RX6 11 ∈ allW := tb1 18 rfl rfl
theorem wd_in_RX6 : Cond.initialized RX6 ∈ allW := tb1 1 rfl rfl
theorem wd_cl_L_83 : Cond.classLink RL 83 RX7 ∈ allW := tb3 211 rfl rfl
theorem wd_it_RX7 : Cond.instantiable RX7 24 ∈ allW := tb3 212 rfl rfl
theorem wd_in_RX7 : Cond.initialized RX7 ∈ allW := tb1 4 rfl rfl
theorem wd_ac_long : Cond.arrayClass .long ∈ allW := tb5 6 rfl rfl
theorem wd_ac_double : Cond.arrayClass .double ∈ allW := tb5 7 rfl rfl
theorem wd_ml_L_82 : Cond.methodLink RL 82 yX6_init ∈ allW := tb1 19 rfl rfl
theorem wd_im_yX6_init : Cond.instanceMethod yX6_init ∈ allW := tb1 20 rfl rfl
theorem wd_co_yX6_init : Cond.code yX6_init cX6_init 1 none ∈ allW := tb1 21 rfl rfl
theorem wd_ml_X6_1 : Cond.methodLink RX6 1 objectInit ∈ allW := tb1 22 rfl rfl
theorem wd_im__java_lang_Object__init____V_ : Cond.instanceMethod objectInit ∈ allW := tb1 23 rfl rfl
theorem wd_co__java_lang_Object__init____V_ : Cond.code objectInit ⟨#[0xb1]⟩ 1 none ∈ allW := tb1 24 rfl rfl
theorem wd_cl_X6_7 : Cond.classLink RX6 7 RX0 ∈ allW := tb1 25 rfl rfl
theorem wd_it_RX0 : Cond.instantiable RX0 2 ∈ allW := tb1 26 rfl rfl
theorem wd_in_RX0 : Cond.initialized RX0 ∈ allW := tb1 2 rfl rfl
theorem wd_fl_X6_10 : Cond.fieldLink RX6 10 "ColdStore" "air" "LColdStore$Air;" ∈ allW := tb1 61 rfl rfl
theorem wd_cl_X6_16 : Cond.classLink RX6 16 RX5 ∈ allW := tb1 40 rfl rfl
theorem wd_it_RX5 : Cond.instantiable RX5 2 ∈ allW := tb1 41 rfl rfl
theorem wd_in_RX5 : Cond.initialized RX5 ∈ allW := tb1 3 rfl rfl
theorem wd_fl_X6_19 : Cond.fieldLink RX6 19 "ColdStore" "tariff" "LColdStore$Tariff;" ∈ allW := tb1 62 rfl rfl
theorem wd_cl_X6_23 : Cond.classLink RX6 23 RX3 ∈ allW := tb1 55 rfl rfl
theorem wd_fl_X6_25 : Cond.fieldLink RX6 25 "ColdStore" "products" "[LColdStore$Product;" ∈ allW := tb1 63 rfl rfl
theorem wd_cl_X6_29 : Cond.classLink RX6 29 RX4 ∈ allW := tb1 57 rfl rfl
theorem wd_fl_X6_31 : Cond.fieldLink RX6 31 "ColdStore" "rooms" "[LColdStore$Room;" ∈ allW := tb1 64 rfl rfl
theorem wd_cl_X6_35 : Cond.classLink RX6 35 RX2 ∈ allW := tb1 59 rfl rfl
theorem wd_fl_X6_37 : Cond.fieldLink RX6 37 "ColdStore" "pallets" "[LColdStore$Pallet;" ∈ allW := tb1 65 rfl rfl
theorem wd_fl_X6_41 : Cond.fieldLink RX6 41 "ColdStore" "productCount" "I" ∈ allW := tb1 66 rfl rfl
theorem wd_fl_X6_45 : Cond.fieldLink RX6 45 "ColdStore" "roomCount" "I" ∈ allW := tb1 67 rfl rfl
theorem wd_fl_X6_48 : Cond.fieldLink RX6 48 "ColdStore" "palletCount" "I" ∈ allW := tb1 68 rfl rfl
theorem wd_fl_X6_51 : Cond.fieldLink RX6 51 "ColdStore" "shippedCount" "I" ∈ allW := tb1 69 rfl rfl
theorem wd_fl_X6_54 : Cond.fieldLink RX6 54 "ColdStore" "time" "I" ∈ allW := tb1 70 rfl rfl
theorem wd_fl_X6_57 : Cond.fieldLink RX6 57 "ColdStore" "paid" "J" ∈ allW := tb1 71 rfl rfl
theorem wd_im_yX0_init : Cond.instanceMethod yX0_init ∈ allW := tb1 28 rfl rfl
theorem wd_co_yX0_init : Cond.code yX0_init cX0_init 1 none ∈ allW := tb1 29 rfl rfl
theorem wd_ml_X0_3 : Cond.methodLink RX0 3 objectInit ∈ allW := tb1 30 rfl rfl
theorem wd_fl_X0_9 : Cond.fieldLink RX0 9 "ColdStore$Air" "base" "I" ∈ allW := tb1 31 rfl rfl
theorem wd_fl_X0_15 : Cond.fieldLink RX0 15 "ColdStore$Air" "swing" "I" ∈ allW := tb1 33 rfl rfl
theorem wd_ml_X6_18 : Cond.methodLink RX6 18 yX5_init ∈ allW := tb1 42 rfl rfl
theorem wd_im_yX5_init : Cond.instanceMethod yX5_init ∈ allW := tb1 43 rfl rfl
theorem wd_co_yX5_init : Cond.code yX5_init cX5_init 2 none ∈ allW := tb1 44 rfl rfl
theorem wd_ml_X5_3 : Cond.methodLink RX5 3 objectInit ∈ allW := tb1 45 rfl rfl
theorem wd_ac_int : Cond.arrayClass .int ∈ allW := tb1 54 rfl rfl
theorem wd_fl_X5_9 : Cond.fieldLink RX5 9 "ColdStore$Tariff" "prices" "[I" ∈ allW := tb1 46 rfl rfl
theorem wd_fl_X5_15 : Cond.fieldLink RX5 15 "ColdStore$Tariff" "lowest" "I" ∈ allW := tb1 47 rfl rfl
theorem wd_ml_L_85 : Cond.methodLink RL 85 yX7_init ∈ allW := tb3 213 rfl rfl
theorem wd_im_yX7_init : Cond.instanceMethod yX7_init ∈ allW := tb3 214 rfl rfl
theorem wd_co_yX7_init : Cond.code yX7_init cX7_init 2 none ∈ allW := tb3 215 rfl rfl
theorem wd_ml_X7_1 : Cond.methodLink RX7 1 objectInit ∈ allW := tb3 216 rfl rfl
theorem wd_fl_X7_7 : Cond.fieldLink RX7 7 "ColdStoreModel" "base" "I" ∈ allW := tb3 219 rfl rfl
theorem wd_fl_X7_13 : Cond.fieldLink RX7 13 "ColdStoreModel" "prices" "[I" ∈ allW := tb3 221 rfl rfl
theorem wd_fl_X7_17 : Cond.fieldLink RX7 17 "ColdStoreModel" "lows" "[I" ∈ allW := tb3 224 rfl rfl
theorem wd_fl_X7_20 : Cond.fieldLink RX7 20 "ColdStoreModel" "highs" "[I" ∈ allW := tb3 225 rfl rfl
theorem wd_fl_X7_23 : Cond.fieldLink RX7 23 "ColdStoreModel" "lives" "[I" ∈ allW := tb3 226 rfl rfl
theorem wd_fl_X7_26 : Cond.fieldLink RX7 26 "ColdStoreModel" "smells" "[I" ∈ allW := tb3 227 rfl rfl
theorem wd_fl_X7_29 : Cond.fieldLink RX7 29 "ColdStoreModel" "places" "[I" ∈ allW := tb3 229 rfl rfl
theorem wd_fl_X7_32 : Cond.fieldLink RX7 32 "ColdStoreModel" "walls" "[I" ∈ allW := tb3 230 rfl rfl
theorem wd_fl_X7_35 : Cond.fieldLink RX7 35 "ColdStoreModel" "powers" "[I" ∈ allW := tb3 231 rfl rfl
theorem wd_fl_X7_38 : Cond.fieldLink RX7 38 "ColdStoreModel" "aims" "[I" ∈ allW := tb3 232 rfl rfl
theorem wd_ac_boolean : Cond.arrayClass .boolean ∈ allW := tb4 50 rfl rfl
theorem wd_fl_X7_41 : Cond.fieldLink RX7 41 "ColdStoreModel" "areThrifty" "[Z" ∈ allW := tb3 233 rfl rfl
theorem wd_fl_X7_45 : Cond.fieldLink RX7 45 "ColdStoreModel" "states" "[I" ∈ allW := tb3 234 rfl rfl
theorem wd_fl_X7_48 : Cond.fieldLink RX7 48 "ColdStoreModel" "productOf" "[I" ∈ allW := tb3 236 rfl rfl
theorem wd_fl_X7_51 : Cond.fieldLink RX7 51 "ColdStoreModel" "roomOf" "[I" ∈ allW := tb3 237 rfl rfl
theorem wd_fl_X7_54 : Cond.fieldLink RX7 54 "ColdStoreModel" "temperatures" "[I" ∈ allW := tb3 238 rfl rfl
theorem wd_fl_X7_57 : Cond.fieldLink RX7 57 "ColdStoreModel" "ages" "[I" ∈ allW := tb3 239 rfl rfl
theorem wd_ml_L_86 : Cond.methodLink RL 86 yL_setOutside ∈ allW := tb1 163 rfl rfl
theorem wd_st_yL_setOutside : Cond.static yL_setOutside ∈ allW := tb1 164 rfl rfl
theorem wd_in_RL : Cond.initialized RL ∈ allW := tb1 0 rfl rfl
theorem wd_co_yL_setOutside : Cond.codeWith yL_setOutside cL_setOutside 5 (some .int) [(0, 10, 13, 13)] ∈ allW := tb1 165 rfl rfl
theorem wd_cl_L_13 : Cond.classLink RL 13 "java/lang/IllegalArgumentException" ∈ allW := tb1 166 rfl rfl
theorem wd_ml_L_7 : Cond.methodLink RL 7 yX6_setOutside ∈ allW := tb1 167 rfl rfl
theorem wd_im_yX6_setOutside : Cond.instanceMethod yX6_setOutside ∈ allW := tb1 168 rfl rfl
theorem wd_se_yX6_setOutside : Cond.selects RX6 yX6_setOutside yX6_setOutside ∈ allW := tb1 169 rfl rfl
theorem wd_co_yX6_setOutside : Cond.code yX6_setOutside cX6_setOutside 3 (some .int) ∈ allW := tb1 170 rfl rfl
theorem wd_fl_X6_65 : Cond.fieldLink RX6 65 "ColdStore$Air" "base" "I" ∈ allW := tb1 32 rfl rfl
theorem wd_fl_X6_68 : Cond.fieldLink RX6 68 "ColdStore$Air" "swing" "I" ∈ allW := tb1 34 rfl rfl
theorem wd_ml_X6_61 : Cond.methodLink RX6 61 yX6_requireWithin ∈ allW := tb1 171 rfl rfl
theorem wd_st_yX6_requireWithin : Cond.static yX6_requireWithin ∈ allW := tb1 172 rfl rfl
theorem wd_co_yX6_requireWithin : Cond.code yX6_requireWithin cX6_requireWithin 3 none ∈ allW := tb1 173 rfl rfl
theorem wd_cl_X6_242 : Cond.classLink RX6 242 "java/lang/IllegalArgumentException" ∈ allW := tb1 174 rfl rfl
theorem wd_in_java_lang_IllegalArgumentException : Cond.initialized "java/lang/IllegalArgumentException" ∈ allW := tb1 8 rfl rfl
theorem wd_ml_X6_71 : Cond.methodLink RX6 71 yX0_temperatureAt ∈ allW := tb2 2 rfl rfl
theorem wd_im_yX0_temperatureAt : Cond.instanceMethod yX0_temperatureAt ∈ allW := tb2 3 rfl rfl
theorem wd_se_yX0_temperatureAt : Cond.selects RX0 yX0_temperatureAt yX0_temperatureAt ∈ allW := tb2 4 rfl rfl
theorem wd_co_yX0_temperatureAt : Cond.code yX0_temperatureAt cX0_temperatureAt 3 (some .int) ∈ allW := tb2 5 rfl rfl
theorem wd_ml_X0_24 : Cond.methodLink RX0 24 Lib.Math.abs.name ∈ allW := tb2 9 rfl rfl
theorem wd_st_yJ9_abs_0f7a4 : Cond.static Lib.Math.abs.name ∈ allW := tb2 10 rfl rfl
theorem wd_in_RJ9 : Cond.initialized "java/lang/Math" ∈ allW := tb1 9 rfl rfl
theorem wd_co_yJ9_abs_0f7a4 : Cond.code Lib.Math.abs.name Lib.Math.abs.code 1 (some .int) ∈ allW := tb2 11 rfl rfl
theorem wd_ml_X0_18 : Cond.methodLink RX0 18 yJ9_floorMod_7cf53 ∈ allW := tb2 6 rfl rfl
theorem wd_st_yJ9_floorMod_7cf53 : Cond.static yJ9_floorMod_7cf53 ∈ allW := tb2 7 rfl rfl
theorem wd_co_yJ9_floorMod_7cf53 : Cond.code yJ9_floorMod_7cf53 cJ9_floorMod_7cf53 3 (some .int) ∈ allW := tb2 8 rfl rfl
theorem wd_ml_L_91 : Cond.methodLink RL 91 yX7_setOutside ∈ allW := tb4 55 rfl rfl
theorem wd_im_yX7_setOutside : Cond.instanceMethod yX7_setOutside ∈ allW := tb4 56 rfl rfl
theorem wd_se_yX7_setOutside : Cond.selects RX7 yX7_setOutside yX7_setOutside ∈ allW := tb4 57 rfl rfl
theorem wd_co_yX7_setOutside : Cond.code yX7_setOutside cX7_setOutside 3 (some .int) ∈ allW := tb4 58 rfl rfl
theorem wd_fl_X7_60 : Cond.fieldLink RX7 60 "ColdStoreModel" "thrown" "I" ∈ allW := tb3 217 rfl rfl
theorem wd_fl_X7_76 : Cond.fieldLink RX7 76 "ColdStoreModel" "swing" "I" ∈ allW := tb3 220 rfl rfl
theorem wd_fl_X7_88 : Cond.fieldLink RX7 88 "ColdStoreModel" "now" "I" ∈ allW := tb3 218 rfl rfl
theorem wd_ml_X7_66 : Cond.methodLink RX7 66 yX7_isIn ∈ allW := tb4 59 rfl rfl
theorem wd_st_yX7_isIn : Cond.static yX7_isIn ∈ allW := tb4 60 rfl rfl
theorem wd_co_yX7_isIn : Cond.code yX7_isIn cX7_isIn 3 (some .boolean) ∈ allW := tb4 61 rfl rfl
theorem wd_ml_X7_85 : Cond.methodLink RX7 85 yX7_no ∈ allW := tb4 62 rfl rfl
theorem wd_im_yX7_no : Cond.instanceMethod yX7_no ∈ allW := tb4 64 rfl rfl
theorem wd_se_yX7_no : Cond.selects RX7 yX7_no yX7_no ∈ allW := tpS (⟨"ColdStoreModel", "no", "(I)I"⟩, 24) (List.mem_append_left _ (List.mem_of_getElem? (i := 14) rfl))
theorem wd_co_yX7_no : Cond.code yX7_no cX7_no 2 (some .int) ∈ allW := tb4 65 rfl rfl
theorem wd_ml_X7_91 : Cond.methodLink RX7 91 yX7_outsideAt ∈ allW := tb4 66 rfl rfl
theorem wd_im_yX7_outsideAt : Cond.instanceMethod yX7_outsideAt ∈ allW := tb4 68 rfl rfl
theorem wd_se_yX7_outsideAt : Cond.selects RX7 yX7_outsideAt yX7_outsideAt ∈ allW := tpS (⟨"ColdStoreModel", "outsideAt", "(I)I"⟩, 24) (List.mem_append_left _ (List.mem_of_getElem? (i := 15) rfl))
theorem wd_co_yX7_outsideAt : Cond.code yX7_outsideAt cX7_outsideAt 2 (some .int) ∈ allW := tb4 69 rfl rfl
theorem wd_ml_X7_79 : Cond.methodLink RX7 79 Lib.Math.abs.name ∈ allW := tb4 70 rfl rfl
theorem wd_ml_L_92 : Cond.methodLink RL 92 yX7_thrown ∈ allW := tb4 51 rfl rfl
theorem wd_im_yX7_thrown : Cond.instanceMethod yX7_thrown ∈ allW := tb4 52 rfl rfl
theorem wd_se_yX7_thrown : Cond.selects RX7 yX7_thrown yX7_thrown ∈ allW := tb4 53 rfl rfl
theorem wd_co_yX7_thrown : Cond.code yX7_thrown cX7_thrown 1 (some .int) ∈ allW := tb4 54 rfl rfl
theorem wd_ml_L_96 : Cond.methodLink RL 96 yL_outside ∈ allW := tb2 12 rfl rfl
theorem wd_st_yL_outside : Cond.static yL_outside ∈ allW := tb2 13 rfl rfl
theorem wd_co_yL_outside : Cond.codeWith yL_outside cL_outside 4 (some .int) [(0, 9, 12, 13)] ∈ allW := tb2 14 rfl rfl
theorem wd_ml_L_15 : Cond.methodLink RL 15 yX6_outside ∈ allW := tb2 15 rfl rfl
theorem wd_im_yX6_outside : Cond.instanceMethod yX6_outside ∈ allW := tb2 16 rfl rfl
theorem wd_se_yX6_outside : Cond.selects RX6 yX6_outside yX6_outside ∈ allW := tb2 17 rfl rfl
theorem wd_co_yX6_outside : Cond.code yX6_outside cX6_outside 2 (some .int) ∈ allW := tb2 18 rfl rfl
theorem wd_ml_L_99 : Cond.methodLink RL 99 yX7_outside ∈ allW := tb4 71 rfl rfl
theorem wd_im_yX7_outside : Cond.instanceMethod yX7_outside ∈ allW := tb4 72 rfl rfl
theorem wd_se_yX7_outside : Cond.selects RX7 yX7_outside yX7_outside ∈ allW := tb4 73 rfl rfl
theorem wd_co_yX7_outside : Cond.code yX7_outside cX7_outside 2 (some .int) ∈ allW := tb4 74 rfl rfl
theorem wd_ml_L_100 : Cond.methodLink RL 100 yL_setPrice ∈ allW := tb2 19 rfl rfl
theorem wd_st_yL_setPrice : Cond.static yL_setPrice ∈ allW := tb2 20 rfl rfl
theorem wd_co_yL_setPrice : Cond.codeWith yL_setPrice cL_setPrice 6 (some .int) [(0, 12, 15, 13)] ∈ allW := tb2 21 rfl rfl
theorem wd_ml_L_19 : Cond.methodLink RL 19 yX6_setPrice ∈ allW := tb2 22 rfl rfl
theorem wd_im_yX6_setPrice : Cond.instanceMethod yX6_setPrice ∈ allW := tb2 23 rfl rfl
theorem wd_se_yX6_setPrice : Cond.selects RX6 yX6_setPrice yX6_setPrice ∈ allW := tb2 24 rfl rfl
theorem wd_co_yX6_setPrice : Cond.code yX6_setPrice cX6_setPrice 4 (some .int) ∈ allW := tb2 25 rfl rfl
theorem wd_fl_X6_78 : Cond.fieldLink RX6 78 "ColdStore$Tariff" "lowest" "I" ∈ allW := tb1 48 rfl rfl
theorem wd_ml_X6_75 : Cond.methodLink RX6 75 yX5_charge ∈ allW := tb2 26 rfl rfl
theorem wd_im_yX5_charge : Cond.instanceMethod yX5_charge ∈ allW := tb2 27 rfl rfl
theorem wd_se_yX5_charge : Cond.selects RX5 yX5_charge yX5_charge ∈ allW := tb2 28 rfl rfl
theorem wd_co_yX5_charge : Cond.code yX5_charge cX5_charge 5 none ∈ allW := tb2 29 rfl rfl
theorem wd_ml_X5_19 : Cond.methodLink RX5 19 Lib.Math.min.name ∈ allW := tb2 30 rfl rfl
theorem wd_st_yJ9_min_7cf53 : Cond.static Lib.Math.min.name ∈ allW := tb2 31 rfl rfl
theorem wd_co_yJ9_min_7cf53 : Cond.code Lib.Math.min.name Lib.Math.min.code 2 (some .int) ∈ allW := tb2 32 rfl rfl
theorem wd_ml_L_103 : Cond.methodLink RL 103 yX7_setPrice ∈ allW := tb4 75 rfl rfl
theorem wd_im_yX7_setPrice : Cond.instanceMethod yX7_setPrice ∈ allW := tb4 76 rfl rfl
theorem wd_se_yX7_setPrice : Cond.selects RX7 yX7_setPrice yX7_setPrice ∈ allW := tb4 77 rfl rfl
theorem wd_co_yX7_setPrice : Cond.code yX7_setPrice cX7_setPrice 5 (some .int) ∈ allW := tb4 78 rfl rfl
theorem wd_ml_X7_98 : Cond.methodLink RX7 98 yX7_lowest ∈ allW := tb4 79 rfl rfl
theorem wd_im_yX7_lowest : Cond.instanceMethod yX7_lowest ∈ allW := tb4 81 rfl rfl
theorem wd_se_yX7_lowest : Cond.selects RX7 yX7_lowest yX7_lowest ∈ allW := tpS (⟨"ColdStoreModel", "lowest", "()I"⟩, 24) (List.mem_append_right _ (List.mem_of_getElem? (i := 0) rfl))
theorem wd_co_yX7_lowest : Cond.code yX7_lowest cX7_lowest 6 (some .int) ∈ allW := tb4 82 rfl rfl
theorem wd_ml_X7_94 : Cond.methodLink RX7 94 Lib.Math.min.name ∈ allW := tb4 83 rfl rfl
theorem wd_ml_L_104 : Cond.methodLink RL 104 yL_addProduct ∈ allW := tb2 33 rfl rfl
theorem wd_st_yL_addProduct : Cond.static yL_addProduct ∈ allW := tb2 34 rfl rfl
theorem wd_co_yL_addProduct : Cond.codeWith yL_addProduct cL_addProduct 7 (some .int) [(0, 14, 17, 13), (0, 14, 21, 27)] ∈ allW := tb2 35 rfl rfl
theorem wd_cl_L_27 : Cond.classLink RL 27 "java/lang/IllegalStateException" ∈ allW := tb2 36 rfl rfl
theorem wd_ml_L_23 : Cond.methodLink RL 23 yX6_addProduct ∈ allW := tb2 37 rfl rfl
theorem wd_im_yX6_addProduct : Cond.instanceMethod yX6_addProduct ∈ allW := tb2 38 rfl rfl
theorem wd_se_yX6_addProduct : Cond.selects RX6 yX6_addProduct yX6_addProduct ∈ allW := tb2 39 rfl rfl
theorem wd_co_yX6_addProduct : Cond.code yX6_addProduct cX6_addProduct 5 (some .int) ∈ allW := tb2 40 rfl rfl
theorem wd_cl_X6_81 : Cond.classLink RX6 81 "java/lang/IllegalStateException" ∈ allW := tb2 41 rfl rfl
theorem wd_in_java_lang_IllegalStateException : Cond.initialized "java/lang/IllegalStateException" ∈ allW := tb1 10 rfl rfl
theorem wd_it_RX3 : Cond.instantiable RX3 5 ∈ allW := tb2 57 rfl rfl
theorem wd_in_RX3 : Cond.initialized RX3 ∈ allW := tb1 11 rfl rfl
theorem wd_ml_X6_88 : Cond.methodLink RX6 88 yX3_init ∈ allW := tb2 58 rfl rfl
theorem wd_im_yX3_init : Cond.instanceMethod yX3_init ∈ allW := tb2 59 rfl rfl
theorem wd_co_yX3_init : Cond.code yX3_init cX3_init 6 none ∈ allW := tb2 60 rfl rfl
theorem wd_ml_X3_1 : Cond.methodLink RX3 1 objectInit ∈ allW := tb2 61 rfl rfl
theorem wd_fl_X3_7 : Cond.fieldLink RX3 7 "ColdStore$Product" "number" "I" ∈ allW := tb2 62 rfl rfl
theorem wd_fl_X3_13 : Cond.fieldLink RX3 13 "ColdStore$Product" "low" "I" ∈ allW := tb2 64 rfl rfl
theorem wd_fl_X3_16 : Cond.fieldLink RX3 16 "ColdStore$Product" "high" "I" ∈ allW := tb2 65 rfl rfl
theorem wd_fl_X3_19 : Cond.fieldLink RX3 19 "ColdStore$Product" "life" "I" ∈ allW := tb2 66 rfl rfl
theorem wd_fl_X3_22 : Cond.fieldLink RX3 22 "ColdStore$Product" "smell" "I" ∈ allW := tb2 68 rfl rfl
theorem wd_ml_L_107 : Cond.methodLink RL 107 yX7_addProduct ∈ allW := tb4 84 rfl rfl
theorem wd_im_yX7_addProduct : Cond.instanceMethod yX7_addProduct ∈ allW := tb4 85 rfl rfl
theorem wd_se_yX7_addProduct : Cond.selects RX7 yX7_addProduct yX7_addProduct ∈ allW := tb4 86 rfl rfl
theorem wd_co_yX7_addProduct : Cond.code yX7_addProduct cX7_addProduct 5 (some .int) ∈ allW := tb4 87 rfl rfl
theorem wd_fl_X7_63 : Cond.fieldLink RX7 63 "ColdStoreModel" "products" "I" ∈ allW := tb3 223 rfl rfl
theorem wd_ml_L_108 : Cond.methodLink RL 108 yL_addRoom ∈ allW := tb2 80 rfl rfl
theorem wd_st_yL_addRoom : Cond.static yL_addRoom ∈ allW := tb2 81 rfl rfl
theorem wd_co_yL_addRoom : Cond.codeWith yL_addRoom cL_addRoom 7 (some .int) [(0, 14, 17, 13), (0, 14, 21, 27)] ∈ allW := tb2 82 rfl rfl
theorem wd_ml_L_29 : Cond.methodLink RL 29 yX6_addRoom ∈ allW := tb2 83 rfl rfl
theorem wd_im_yX6_addRoom : Cond.instanceMethod yX6_addRoom ∈ allW := tb2 84 rfl rfl
theorem wd_se_yX6_addRoom : Cond.selects RX6 yX6_addRoom yX6_addRoom ∈ allW := tb2 85 rfl rfl
theorem wd_co_yX6_addRoom : Cond.code yX6_addRoom cX6_addRoom 5 (some .int) ∈ allW := tb2 86 rfl rfl
theorem wd_it_RX4 : Cond.instantiable RX4 11 ∈ allW := tb2 88 rfl rfl
theorem wd_in_RX4 : Cond.initialized RX4 ∈ allW := tb1 12 rfl rfl
theorem wd_ml_X6_93 : Cond.methodLink RX6 93 yX4_init ∈ allW := tb2 89 rfl rfl
theorem wd_im_yX4_init : Cond.instanceMethod yX4_init ∈ allW := tb2 90 rfl rfl
theorem wd_co_yX4_init : Cond.code yX4_init cX4_init 6 none ∈ allW := tb2 91 rfl rfl
theorem wd_ml_X4_1 : Cond.methodLink RX4 1 objectInit ∈ allW := tb2 92 rfl rfl
theorem wd_fl_X4_7 : Cond.fieldLink RX4 7 "ColdStore$Room" "isThrifty" "Z" ∈ allW := tb2 130 rfl rfl
theorem wd_fl_X4_13 : Cond.fieldLink RX4 13 "ColdStore$Room" "temperature" "I" ∈ allW := tb2 132 rfl rfl
theorem wd_fl_X4_17 : Cond.fieldLink RX4 17 "ColdStore$Room" "warmHours" "I" ∈ allW := tb2 134 rfl rfl
theorem wd_fl_X4_20 : Cond.fieldLink RX4 20 "ColdStore$Room" "rememberedTemperature" "I" ∈ allW := tb2 136 rfl rfl
theorem wd_fl_X4_23 : Cond.fieldLink RX4 23 "ColdStore$Room" "rememberedWarmHours" "I" ∈ allW := tb2 137 rfl rfl
theorem wd_fl_X4_26 : Cond.fieldLink RX4 26 "ColdStore$Room" "number" "I" ∈ allW := tb2 121 rfl rfl
theorem wd_cl_X4_29 : Cond.classLink RX4 29 RX2 ∈ allW := tb2 93 rfl rfl
theorem wd_fl_X4_31 : Cond.fieldLink RX4 31 "ColdStore$Room" "places" "[LColdStore$Pallet;" ∈ allW := tb2 127 rfl rfl
theorem wd_fl_X4_35 : Cond.fieldLink RX4 35 "ColdStore$Room" "wall" "I" ∈ allW := tb2 124 rfl rfl
theorem wd_cl_X4_38 : Cond.classLink RX4 38 RX1 ∈ allW := tb2 94 rfl rfl
theorem wd_it_RX1 : Cond.instantiable RX1 5 ∈ allW := tb2 95 rfl rfl
theorem wd_in_RX1 : Cond.initialized RX1 ∈ allW := tb1 13 rfl rfl
theorem wd_fl_X4_43 : Cond.fieldLink RX4 43 "ColdStore$Room" "machine" "LColdStore$Machine;" ∈ allW := tb2 125 rfl rfl
theorem wd_fl_X4_47 : Cond.fieldLink RX4 47 "ColdStore$Room" "rememberedMachine" "LColdStore$Machine;" ∈ allW := tb2 135 rfl rfl
theorem wd_fl_X4_50 : Cond.fieldLink RX4 50 "ColdStore$Room" "aim" "I" ∈ allW := tb2 128 rfl rfl
theorem wd_ml_X4_40 : Cond.methodLink RX4 40 yX1_init ∈ allW := tb2 96 rfl rfl
theorem wd_im_yX1_init : Cond.instanceMethod yX1_init ∈ allW := tb2 97 rfl rfl
theorem wd_co_yX1_init : Cond.code yX1_init cX1_init 2 none ∈ allW := tb2 98 rfl rfl
theorem wd_ml_X1_1 : Cond.methodLink RX1 1 objectInit ∈ allW := tb2 99 rfl rfl
theorem wd_fl_X1_9 : Cond.fieldLink RX1 9 "ColdStore$Machine" "state" "I" ∈ allW := tb2 101 rfl rfl
theorem wd_fl_X1_13 : Cond.fieldLink RX1 13 "ColdStore$Machine" "hoursLeft" "I" ∈ allW := tb2 104 rfl rfl
theorem wd_fl_X1_16 : Cond.fieldLink RX1 16 "ColdStore$Machine" "frost" "I" ∈ allW := tb2 105 rfl rfl
theorem wd_fl_X1_19 : Cond.fieldLink RX1 19 "ColdStore$Machine" "energy" "I" ∈ allW := tb2 108 rfl rfl
theorem wd_fl_X1_22 : Cond.fieldLink RX1 22 "ColdStore$Machine" "power" "I" ∈ allW := tb2 100 rfl rfl
theorem wd_ml_L_110 : Cond.methodLink RL 110 yX7_addRoom ∈ allW := tb4 88 rfl rfl
theorem wd_im_yX7_addRoom : Cond.instanceMethod yX7_addRoom ∈ allW := tb4 89 rfl rfl
theorem wd_se_yX7_addRoom : Cond.selects RX7 yX7_addRoom yX7_addRoom ∈ allW := tb4 90 rfl rfl
theorem wd_co_yX7_addRoom : Cond.code yX7_addRoom cX7_addRoom 5 (some .int) ∈ allW := tb4 91 rfl rfl
theorem wd_fl_X7_70 : Cond.fieldLink RX7 70 "ColdStoreModel" "rooms" "I" ∈ allW := tb3 228 rfl rfl
theorem wd_ml_X7_102 : Cond.methodLink RX7 102 yX7_isAim ∈ allW := tb4 92 rfl rfl
theorem wd_st_yX7_isAim : Cond.static yX7_isAim ∈ allW := tb4 93 rfl rfl
theorem wd_co_yX7_isAim : Cond.code yX7_isAim cX7_isAim 1 (some .boolean) ∈ allW := tb4 94 rfl rfl
theorem wd_ml_L_111 : Cond.methodLink RL 111 yL_setRoom ∈ allW := tb2 161 rfl rfl
theorem wd_st_yL_setRoom : Cond.static yL_setRoom ∈ allW := tb2 162 rfl rfl
theorem wd_co_yL_setRoom : Cond.codeWith yL_setRoom cL_setRoom 6 (some .int) [(0, 12, 15, 36), (0, 12, 19, 13)] ∈ allW := tb2 163 rfl rfl
theorem wd_cl_L_36 : Cond.classLink RL 36 "java/lang/IndexOutOfBoundsException" ∈ allW := tb2 164 rfl rfl
theorem wd_ml_L_32 : Cond.methodLink RL 32 yX6_setRoom ∈ allW := tb2 165 rfl rfl
theorem wd_im_yX6_setRoom : Cond.instanceMethod yX6_setRoom ∈ allW := tb2 166 rfl rfl
theorem wd_se_yX6_setRoom : Cond.selects RX6 yX6_setRoom yX6_setRoom ∈ allW := tb2 167 rfl rfl
theorem wd_co_yX6_setRoom : Cond.code yX6_setRoom cX6_setRoom 6 (some .int) ∈ allW := tb2 168 rfl rfl
theorem wd_fl_X6_98 : Cond.fieldLink RX6 98 "ColdStore$Room" "aim" "I" ∈ allW := tb2 129 rfl rfl
theorem wd_fl_X6_101 : Cond.fieldLink RX6 101 "ColdStore$Room" "isThrifty" "Z" ∈ allW := tb2 131 rfl rfl
theorem wd_ml_X6_94 : Cond.methodLink RX6 94 yX6_existingRoom ∈ allW := tb2 169 rfl rfl
theorem wd_im_yX6_existingRoom : Cond.instanceMethod yX6_existingRoom ∈ allW := tb2 171 rfl rfl
theorem wd_se_yX6_existingRoom : Cond.selects RX6 yX6_existingRoom yX6_existingRoom ∈ allW := tpS (⟨"ColdStore", "existingRoom", "(I)LColdStore$Room;"⟩, 11) (List.mem_append_left _ (List.mem_of_getElem? (i := 5) rfl))
theorem wd_co_yX6_existingRoom : Cond.code yX6_existingRoom cX6_existingRoom 3 (some (.object "ColdStore$Room")) ∈ allW := tb2 172 rfl rfl
theorem wd_cl_X6_247 : Cond.classLink RX6 247 "java/lang/IndexOutOfBoundsException" ∈ allW := tb2 173 rfl rfl
theorem wd_in_java_lang_IndexOutOfBoundsException : Cond.initialized "java/lang/IndexOutOfBoundsException" ∈ allW := tb1 14 rfl rfl
theorem wd_ml_L_114 : Cond.methodLink RL 114 yX7_setRoom ∈ allW := tb4 95 rfl rfl
theorem wd_im_yX7_setRoom : Cond.instanceMethod yX7_setRoom ∈ allW := tb4 96 rfl rfl
theorem wd_se_yX7_setRoom : Cond.selects RX7 yX7_setRoom yX7_setRoom ∈ allW := tb4 97 rfl rfl
theorem wd_co_yX7_setRoom : Cond.code yX7_setRoom cX7_setRoom 5 (some .int) ∈ allW := tb4 98 rfl rfl
theorem wd_ml_X7_106 : Cond.methodLink RX7 106 yX7_isRoom ∈ allW := tb4 99 rfl rfl
theorem wd_im_yX7_isRoom : Cond.instanceMethod yX7_isRoom ∈ allW := tb4 101 rfl rfl
theorem wd_se_yX7_isRoom : Cond.selects RX7 yX7_isRoom yX7_isRoom ∈ allW := tpS (⟨"ColdStoreModel", "isRoom", "(I)Z"⟩, 24) (List.mem_append_right _ (List.mem_of_getElem? (i := 1) rfl))
theorem wd_co_yX7_isRoom : Cond.code yX7_isRoom cX7_isRoom 2 (some .boolean) ∈ allW := tb4 102 rfl rfl
theorem wd_ml_L_115 : Cond.methodLink RL 115 yL_defrost ∈ allW := tb2 189 rfl rfl
theorem wd_st_yL_defrost : Cond.static yL_defrost ∈ allW := tb2 190 rfl rfl
theorem wd_co_yL_defrost : Cond.codeWith yL_defrost cL_defrost 4 (some .int) [(0, 9, 12, 36), (0, 9, 15, 27)] ∈ allW := tb2 191 rfl rfl
theorem wd_ml_L_38 : Cond.methodLink RL 38 yX6_defrost ∈ allW := tb2 192 rfl rfl
theorem wd_im_yX6_defrost : Cond.instanceMethod yX6_defrost ∈ allW := tb2 193 rfl rfl
theorem wd_se_yX6_defrost : Cond.selects RX6 yX6_defrost yX6_defrost ∈ allW := tb2 194 rfl rfl
theorem wd_co_yX6_defrost : Cond.code yX6_defrost cX6_defrost 3 (some .int) ∈ allW := tb2 195 rfl rfl
theorem wd_fl_X6_105 : Cond.fieldLink RX6 105 "ColdStore$Room" "machine" "LColdStore$Machine;" ∈ allW := tb2 126 rfl rfl
theorem wd_fl_X6_109 : Cond.fieldLink RX6 109 "ColdStore$Machine" "state" "I" ∈ allW := tb2 103 rfl rfl
theorem wd_fl_X6_119 : Cond.fieldLink RX6 119 "ColdStore$Machine" "frost" "I" ∈ allW := tb2 107 rfl rfl
theorem wd_ml_X6_116 : Cond.methodLink RX6 116 yX1_beginDefrosting ∈ allW := tb2 197 rfl rfl
theorem wd_im_yX1_beginDefrosting : Cond.instanceMethod yX1_beginDefrosting ∈ allW := tb2 198 rfl rfl
theorem wd_se_yX1_beginDefrosting : Cond.selects RX1 yX1_beginDefrosting yX1_beginDefrosting ∈ allW := tb2 199 rfl rfl
theorem wd_co_yX1_beginDefrosting : Cond.code yX1_beginDefrosting cX1_beginDefrosting 1 none ∈ allW := tb2 200 rfl rfl
theorem wd_ml_L_117 : Cond.methodLink RL 117 yX7_defrost ∈ allW := tb4 103 rfl rfl
theorem wd_im_yX7_defrost : Cond.instanceMethod yX7_defrost ∈ allW := tb4 104 rfl rfl
theorem wd_se_yX7_defrost : Cond.selects RX7 yX7_defrost yX7_defrost ∈ allW := tb4 105 rfl rfl
theorem wd_co_yX7_defrost : Cond.code yX7_defrost cX7_defrost 2 (some .int) ∈ allW := tb4 106 rfl rfl
theorem wd_ml_L_118 : Cond.methodLink RL 118 yL_room ∈ allW := tb2 201 rfl rfl
theorem wd_st_yL_room : Cond.static yL_room ∈ allW := tb2 202 rfl rfl
theorem wd_co_yL_room : Cond.codeWith yL_room cL_room 5 (some .int) [(0, 10, 13, 36)] ∈ allW := tb2 203 rfl rfl
theorem wd_ml_L_41 : Cond.methodLink RL 41 yX6_room ∈ allW := tb2 204 rfl rfl
theorem wd_im_yX6_room : Cond.instanceMethod yX6_room ∈ allW := tb2 205 rfl rfl
theorem wd_se_yX6_room : Cond.selects RX6 yX6_room yX6_room ∈ allW := tb2 206 rfl rfl
theorem wd_co_yX6_room : Cond.code yX6_room cX6_room 4 (some .int) ∈ allW := tb2 207 rfl rfl
theorem wd_ml_X6_122 : Cond.methodLink RX6 122 yX6_requireFact ∈ allW := tb2 208 rfl rfl
theorem wd_st_yX6_requireFact : Cond.static yX6_requireFact ∈ allW := tb2 209 rfl rfl
theorem wd_co_yX6_requireFact : Cond.code yX6_requireFact cX6_requireFact 2 none ∈ allW := tb2 210 rfl rfl
theorem wd_ml_X6_126 : Cond.methodLink RX6 126 yX4_fact ∈ allW := tb1 147 rfl rfl
theorem wd_im_yX4_fact : Cond.instanceMethod yX4_fact ∈ allW := tb1 148 rfl rfl
theorem wd_se_yX4_fact : Cond.selects RX4 yX4_fact yX4_fact ∈ allW := tb1 149 rfl rfl
theorem wd_co_yX4_fact : Cond.code yX4_fact cX4_fact 2 (some .int) ∈ allW := tb1 150 rfl rfl
theorem wd_fl_X4_53 : Cond.fieldLink RX4 53 "ColdStore$Machine" "frost" "I" ∈ allW := tb2 106 rfl rfl
theorem wd_fl_X4_56 : Cond.fieldLink RX4 56 "ColdStore$Machine" "state" "I" ∈ allW := tb2 102 rfl rfl
theorem wd_fl_X4_63 : Cond.fieldLink RX4 63 "ColdStore$Machine" "energy" "I" ∈ allW := tb2 109 rfl rfl
theorem wd_ml_X4_59 : Cond.methodLink RX4 59 yX4_freePlaces ∈ allW := tb1 151 rfl rfl
theorem wd_im_yX4_freePlaces : Cond.instanceMethod yX4_freePlaces ∈ allW := tb1 152 rfl rfl
theorem wd_se_yX4_freePlaces : Cond.selects RX4 yX4_freePlaces yX4_freePlaces ∈ allW := tb1 153 rfl rfl
theorem wd_co_yX4_freePlaces : Cond.code yX4_freePlaces cX4_freePlaces 6 (some .int) ∈ allW := tb1 154 rfl rfl
theorem wd_ml_L_120 : Cond.methodLink RL 120 yX7_room ∈ allW := tb4 107 rfl rfl
theorem wd_im_yX7_room : Cond.instanceMethod yX7_room ∈ allW := tb4 108 rfl rfl
theorem wd_se_yX7_room : Cond.selects RX7 yX7_room yX7_room ∈ allW := tb4 109 rfl rfl
theorem wd_co_yX7_room : Cond.code yX7_room cX7_room 3 (some .int) ∈ allW := tb4 110 rfl rfl
theorem wd_ml_X7_112 : Cond.methodLink RX7 112 yX7_toldOfRoom ∈ allW := tb4 111 rfl rfl
theorem wd_im_yX7_toldOfRoom : Cond.instanceMethod yX7_toldOfRoom ∈ allW := tb4 113 rfl rfl
theorem wd_se_yX7_toldOfRoom : Cond.selects RX7 yX7_toldOfRoom yX7_toldOfRoom ∈ allW := tpS (⟨"ColdStoreModel", "toldOfRoom", "(II)I"⟩, 24) (List.mem_append_right _ (List.mem_of_getElem? (i := 2) rfl))
theorem wd_co_yX7_toldOfRoom : Cond.code yX7_toldOfRoom cX7_toldOfRoom 5 (some .int) ∈ allW := tb4 114 rfl rfl
theorem wd_ml_X7_109 : Cond.methodLink RX7 109 yX7_free ∈ allW := tb4 115 rfl rfl
theorem wd_im_yX7_free : Cond.instanceMethod yX7_free ∈ allW := tb4 117 rfl rfl
theorem wd_se_yX7_free : Cond.selects RX7 yX7_free yX7_free ∈ allW := tpS (⟨"ColdStoreModel", "free", "(I)I"⟩, 24) (List.mem_append_right _ (List.mem_of_getElem? (i := 3) rfl))
theorem wd_co_yX7_free : Cond.code yX7_free cX7_free 4 (some .int) ∈ allW := tb4 118 rfl rfl
theorem wd_fl_X7_73 : Cond.fieldLink RX7 73 "ColdStoreModel" "pallets" "I" ∈ allW := tb3 235 rfl rfl
theorem wd_ml_L_121 : Cond.methodLink RL 121 yL_reason ∈ allW := tb2 212 rfl rfl
theorem wd_st_yL_reason : Cond.static yL_reason ∈ allW := tb2 213 rfl rfl
theorem wd_co_yL_reason : Cond.codeWith yL_reason cL_reason 5 (some .int) [(0, 10, 13, 36)] ∈ allW := tb2 214 rfl rfl
theorem wd_ml_L_44 : Cond.methodLink RL 44 yX6_reason ∈ allW := tb2 215 rfl rfl
theorem wd_im_yX6_reason : Cond.instanceMethod yX6_reason ∈ allW := tb2 216 rfl rfl
theorem wd_se_yX6_reason : Cond.selects RX6 yX6_reason yX6_reason ∈ allW := tb2 217 rfl rfl
theorem wd_co_yX6_reason : Cond.code yX6_reason cX6_reason 4 (some .int) ∈ allW := tb2 218 rfl rfl
theorem wd_ml_X6_129 : Cond.methodLink RX6 129 yX6_existingProduct ∈ allW := tb2 219 rfl rfl
theorem wd_im_yX6_existingProduct : Cond.instanceMethod yX6_existingProduct ∈ allW := tb2 221 rfl rfl
theorem wd_se_yX6_existingProduct : Cond.selects RX6 yX6_existingProduct yX6_existingProduct ∈ allW := tpS (⟨"ColdStore", "existingProduct", "(I)LColdStore$Product;"⟩, 11) (List.mem_append_left _ (List.mem_of_getElem? (i := 6) rfl))
theorem wd_co_yX6_existingProduct : Cond.code yX6_existingProduct cX6_existingProduct 3 (some (.object "ColdStore$Product")) ∈ allW := tb2 222 rfl rfl
theorem wd_ml_X6_133 : Cond.methodLink RX6 133 yX4_reasonAgainst ∈ allW := tb2 224 rfl rfl
theorem wd_im_yX4_reasonAgainst : Cond.instanceMethod yX4_reasonAgainst ∈ allW := tb2 225 rfl rfl
theorem wd_se_yX4_reasonAgainst : Cond.selects RX4 yX4_reasonAgainst yX4_reasonAgainst ∈ allW := tb2 226 rfl rfl
theorem wd_co_yX4_reasonAgainst : Cond.code yX4_reasonAgainst cX4_reasonAgainst 6 (some .int) ∈ allW := tb2 227 rfl rfl
theorem wd_fl_X4_66 : Cond.fieldLink RX4 66 "ColdStore$Pallet" "product" "LColdStore$Product;" ∈ allW := tb3 15 rfl rfl
theorem wd_ml_X4_70 : Cond.methodLink RX4 70 yX3_goesWith ∈ allW := tb2 228 rfl rfl
theorem wd_im_yX3_goesWith : Cond.instanceMethod yX3_goesWith ∈ allW := tb2 229 rfl rfl
theorem wd_se_yX3_goesWith : Cond.selects RX3 yX3_goesWith yX3_goesWith ∈ allW := tb2 230 rfl rfl
theorem wd_co_yX3_goesWith : Cond.code yX3_goesWith cX3_goesWith 2 (some .boolean) ∈ allW := tb2 231 rfl rfl
theorem wd_ml_X3_25 : Cond.methodLink RX3 25 yX3_disturbs ∈ allW := tb2 232 rfl rfl
theorem wd_im_yX3_disturbs : Cond.instanceMethod yX3_disturbs ∈ allW := tb2 233 rfl rfl
theorem wd_se_yX3_disturbs : Cond.selects RX3 yX3_disturbs yX3_disturbs ∈ allW := tb2 234 rfl rfl
theorem wd_co_yX3_disturbs : Cond.code yX3_disturbs cX3_disturbs 2 (some .boolean) ∈ allW := tb2 235 rfl rfl
theorem wd_ml_L_123 : Cond.methodLink RL 123 yX7_reason ∈ allW := tb4 119 rfl rfl
theorem wd_im_yX7_reason : Cond.instanceMethod yX7_reason ∈ allW := tb4 120 rfl rfl
theorem wd_se_yX7_reason : Cond.selects RX7 yX7_reason yX7_reason ∈ allW := tb4 121 rfl rfl
theorem wd_co_yX7_reason : Cond.code yX7_reason cX7_reason 3 (some .int) ∈ allW := tb4 122 rfl rfl
theorem wd_ml_X7_119 : Cond.methodLink RX7 119 yX7_isProduct ∈ allW := tb4 123 rfl rfl
theorem wd_im_yX7_isProduct : Cond.instanceMethod yX7_isProduct ∈ allW := tb4 125 rfl rfl
theorem wd_se_yX7_isProduct : Cond.selects RX7 yX7_isProduct yX7_isProduct ∈ allW := tpS (⟨"ColdStoreModel", "isProduct", "(I)Z"⟩, 24) (List.mem_append_right _ (List.mem_of_getElem? (i := 4) rfl))
theorem wd_co_yX7_isProduct : Cond.code yX7_isProduct cX7_isProduct 2 (some .boolean) ∈ allW := tb4 126 rfl rfl
theorem wd_ml_X7_122 : Cond.methodLink RX7 122 yX7_reasonFor ∈ allW := tb4 127 rfl rfl
theorem wd_im_yX7_reasonFor : Cond.instanceMethod yX7_reasonFor ∈ allW := tb4 129 rfl rfl
theorem wd_se_yX7_reasonFor : Cond.selects RX7 yX7_reasonFor yX7_reasonFor ∈ allW := tpS (⟨"ColdStoreModel", "reasonFor", "(II)I"⟩, 24) (List.mem_append_right _ (List.mem_of_getElem? (i := 5) rfl))
theorem wd_co_yX7_reasonFor : Cond.code yX7_reasonFor cX7_reasonFor 4 (some .int) ∈ allW := tb4 130 rfl rfl
theorem wd_ml_X7_115 : Cond.methodLink RX7 115 yX7_goTogether ∈ allW := tb4 131 rfl rfl
theorem wd_im_yX7_goTogether : Cond.instanceMethod yX7_goTogether ∈ allW := tb4 133 rfl rfl
theorem wd_se_yX7_goTogether : Cond.selects RX7 yX7_goTogether yX7_goTogether ∈ allW := tpS (⟨"ColdStoreModel", "goTogether", "(II)Z"⟩, 24) (List.mem_append_right _ (List.mem_of_getElem? (i := 6) rfl))
theorem wd_co_yX7_goTogether : Cond.code yX7_goTogether cX7_goTogether 3 (some .boolean) ∈ allW := tb4 134 rfl rfl
theorem wd_ml_L_124 : Cond.methodLink RL 124 yL_arrive ∈ allW := tb2 236 rfl rfl
theorem wd_st_yL_arrive : Cond.static yL_arrive ∈ allW := tb2 237 rfl rfl
theorem wd_co_yL_arrive : Cond.codeWith yL_arrive cL_arrive 6 (some .int) [(0, 12, 15, 36), (0, 12, 19, 13), (0, 12, 23, 27)] ∈ allW := tb2 238 rfl rfl
theorem wd_ml_L_47 : Cond.methodLink RL 47 yX6_arrive ∈ allW := tb2 239 rfl rfl
theorem wd_im_yX6_arrive : Cond.instanceMethod yX6_arrive ∈ allW := tb3 0 rfl rfl
theorem wd_se_yX6_arrive : Cond.selects RX6 yX6_arrive yX6_arrive ∈ allW := tb3 1 rfl rfl
theorem wd_co_yX6_arrive : Cond.code yX6_arrive cX6_arrive 7 (some .int) ∈ allW := tb3 2 rfl rfl
theorem wd_it_RX2 : Cond.instantiable RX2 6 ∈ allW := tb3 9 rfl rfl
theorem wd_in_RX2 : Cond.initialized RX2 ∈ allW := tb1 15 rfl rfl
theorem wd_ml_X6_137 : Cond.methodLink RX6 137 yX4_accepts ∈ allW := tb3 3 rfl rfl
theorem wd_im_yX4_accepts : Cond.instanceMethod yX4_accepts ∈ allW := tb3 4 rfl rfl
theorem wd_se_yX4_accepts : Cond.selects RX4 yX4_accepts yX4_accepts ∈ allW := tb3 5 rfl rfl
theorem wd_co_yX4_accepts : Cond.code yX4_accepts cX4_accepts 2 (some .boolean) ∈ allW := tb3 6 rfl rfl
theorem wd_ml_X4_76 : Cond.methodLink RX4 76 yX4_reasonAgainst ∈ allW := tb3 7 rfl rfl
theorem wd_ml_X6_143 : Cond.methodLink RX6 143 yX2_init ∈ allW := tb3 10 rfl rfl
theorem wd_im_yX2_init : Cond.instanceMethod yX2_init ∈ allW := tb3 11 rfl rfl
theorem wd_co_yX2_init : Cond.code yX2_init cX2_init 3 none ∈ allW := tb3 12 rfl rfl
theorem wd_ml_X2_1 : Cond.methodLink RX2 1 objectInit ∈ allW := tb3 13 rfl rfl
theorem wd_fl_X2_7 : Cond.fieldLink RX2 7 "ColdStore$Pallet" "room" "LColdStore$Room;" ∈ allW := tb3 17 rfl rfl
theorem wd_fl_X2_13 : Cond.fieldLink RX2 13 "ColdStore$Pallet" "age" "I" ∈ allW := tb3 22 rfl rfl
theorem wd_fl_X2_17 : Cond.fieldLink RX2 17 "ColdStore$Pallet" "rememberedTemperature" "I" ∈ allW := tb3 23 rfl rfl
theorem wd_fl_X2_20 : Cond.fieldLink RX2 20 "ColdStore$Pallet" "rememberedAge" "I" ∈ allW := tb3 24 rfl rfl
theorem wd_fl_X2_23 : Cond.fieldLink RX2 23 "ColdStore$Pallet" "product" "LColdStore$Product;" ∈ allW := tb3 14 rfl rfl
theorem wd_fl_X2_27 : Cond.fieldLink RX2 27 "ColdStore$Pallet" "temperature" "I" ∈ allW := tb3 20 rfl rfl
theorem wd_ml_X6_146 : Cond.methodLink RX6 146 yX4_take ∈ allW := tb3 38 rfl rfl
theorem wd_im_yX4_take : Cond.instanceMethod yX4_take ∈ allW := tb3 39 rfl rfl
theorem wd_se_yX4_take : Cond.selects RX4 yX4_take yX4_take ∈ allW := tb3 40 rfl rfl
theorem wd_co_yX4_take : Cond.code yX4_take cX4_take 3 none ∈ allW := tb3 41 rfl rfl
theorem wd_fl_X4_84 : Cond.fieldLink RX4 84 "ColdStore$Pallet" "room" "LColdStore$Room;" ∈ allW := tb3 18 rfl rfl
theorem wd_ml_L_126 : Cond.methodLink RL 126 yX7_arrive ∈ allW := tb4 135 rfl rfl
theorem wd_im_yX7_arrive : Cond.instanceMethod yX7_arrive ∈ allW := tb4 136 rfl rfl
theorem wd_se_yX7_arrive : Cond.selects RX7 yX7_arrive yX7_arrive ∈ allW := tb4 137 rfl rfl
theorem wd_co_yX7_arrive : Cond.code yX7_arrive cX7_arrive 4 (some .int) ∈ allW := tb4 138 rfl rfl
theorem wd_ml_L_127 : Cond.methodLink RL 127 yL_move ∈ allW := tb3 42 rfl rfl
theorem wd_st_yL_move : Cond.static yL_move ∈ allW := tb3 43 rfl rfl
theorem wd_co_yL_move : Cond.codeWith yL_move cL_move 5 (some .int) [(0, 10, 13, 36), (0, 10, 17, 27)] ∈ allW := tb3 44 rfl rfl
theorem wd_ml_L_50 : Cond.methodLink RL 50 yX6_move ∈ allW := tb3 45 rfl rfl
theorem wd_im_yX6_move : Cond.instanceMethod yX6_move ∈ allW := tb3 46 rfl rfl
theorem wd_se_yX6_move : Cond.selects RX6 yX6_move yX6_move ∈ allW := tb3 47 rfl rfl
theorem wd_co_yX6_move : Cond.code yX6_move cX6_move 6 (some .int) ∈ allW := tb3 48 rfl rfl
theorem wd_fl_X6_154 : Cond.fieldLink RX6 154 "ColdStore$Pallet" "room" "LColdStore$Room;" ∈ allW := tb3 19 rfl rfl
theorem wd_fl_X6_158 : Cond.fieldLink RX6 158 "ColdStore$Pallet" "product" "LColdStore$Product;" ∈ allW := tb3 16 rfl rfl
theorem wd_fl_X6_167 : Cond.fieldLink RX6 167 "ColdStore$Room" "number" "I" ∈ allW := tb2 123 rfl rfl
theorem wd_ml_X6_150 : Cond.methodLink RX6 150 yX6_existingPallet ∈ allW := tb3 49 rfl rfl
theorem wd_im_yX6_existingPallet : Cond.instanceMethod yX6_existingPallet ∈ allW := tb3 51 rfl rfl
theorem wd_se_yX6_existingPallet : Cond.selects RX6 yX6_existingPallet yX6_existingPallet ∈ allW := tpS (⟨"ColdStore", "existingPallet", "(I)LColdStore$Pallet;"⟩, 11) (List.mem_append_left _ (List.mem_of_getElem? (i := 7) rfl))
theorem wd_co_yX6_existingPallet : Cond.code yX6_existingPallet cX6_existingPallet 3 (some (.object "ColdStore$Pallet")) ∈ allW := tb3 52 rfl rfl
theorem wd_ml_X6_164 : Cond.methodLink RX6 164 yX4_release ∈ allW := tb1 114 rfl rfl
theorem wd_im_yX4_release : Cond.instanceMethod yX4_release ∈ allW := tb1 115 rfl rfl
theorem wd_se_yX4_release : Cond.selects RX4 yX4_release yX4_release ∈ allW := tb1 116 rfl rfl
theorem wd_co_yX4_release : Cond.code yX4_release cX4_release 3 none ∈ allW := tb1 117 rfl rfl
theorem wd_ml_L_129 : Cond.methodLink RL 129 yX7_move ∈ allW := tb4 139 rfl rfl
theorem wd_im_yX7_move : Cond.instanceMethod yX7_move ∈ allW := tb4 140 rfl rfl
theorem wd_se_yX7_move : Cond.selects RX7 yX7_move yX7_move ∈ allW := tb4 141 rfl rfl
theorem wd_co_yX7_move : Cond.code yX7_move cX7_move 4 (some .int) ∈ allW := tb4 142 rfl rfl
theorem wd_ml_X7_125 : Cond.methodLink RX7 125 yX7_isPallet ∈ allW := tb4 143 rfl rfl
theorem wd_im_yX7_isPallet : Cond.instanceMethod yX7_isPallet ∈ allW := tb4 145 rfl rfl
theorem wd_se_yX7_isPallet : Cond.selects RX7 yX7_isPallet yX7_isPallet ∈ allW := tpS (⟨"ColdStoreModel", "isPallet", "(I)Z"⟩, 24) (List.mem_append_right _ (List.mem_of_getElem? (i := 7) rfl))
theorem wd_co_yX7_isPallet : Cond.code yX7_isPallet cX7_isPallet 2 (some .boolean) ∈ allW := tb4 146 rfl rfl
theorem wd_ml_L_130 : Cond.methodLink RL 130 yL_pallet ∈ allW := tb3 55 rfl rfl
theorem wd_st_yL_pallet : Cond.static yL_pallet ∈ allW := tb3 56 rfl rfl
theorem wd_co_yL_pallet : Cond.codeWith yL_pallet cL_pallet 5 (some .int) [(0, 10, 13, 36)] ∈ allW := tb3 57 rfl rfl
theorem wd_ml_L_53 : Cond.methodLink RL 53 yX6_pallet ∈ allW := tb3 58 rfl rfl
theorem wd_im_yX6_pallet : Cond.instanceMethod yX6_pallet ∈ allW := tb3 59 rfl rfl
theorem wd_se_yX6_pallet : Cond.selects RX6 yX6_pallet yX6_pallet ∈ allW := tb3 60 rfl rfl
theorem wd_co_yX6_pallet : Cond.code yX6_pallet cX6_pallet 4 (some .int) ∈ allW := tb3 61 rfl rfl
theorem wd_ml_X6_170 : Cond.methodLink RX6 170 yX2_fact ∈ allW := tb1 159 rfl rfl
theorem wd_im_yX2_fact : Cond.instanceMethod yX2_fact ∈ allW := tb1 160 rfl rfl
theorem wd_se_yX2_fact : Cond.selects RX2 yX2_fact yX2_fact ∈ allW := tb1 161 rfl rfl
theorem wd_co_yX2_fact : Cond.code yX2_fact cX2_fact 2 (some .int) ∈ allW := tb1 162 rfl rfl
theorem wd_fl_X2_30 : Cond.fieldLink RX2 30 "ColdStore$Product" "number" "I" ∈ allW := tb2 63 rfl rfl
theorem wd_fl_X2_35 : Cond.fieldLink RX2 35 "ColdStore$Room" "number" "I" ∈ allW := tb2 122 rfl rfl
theorem wd_ml_X2_38 : Cond.methodLink RX2 38 yX2_left ∈ allW := tb1 107 rfl rfl
theorem wd_im_yX2_left : Cond.instanceMethod yX2_left ∈ allW := tb1 108 rfl rfl
theorem wd_se_yX2_left : Cond.selects RX2 yX2_left yX2_left ∈ allW := tb1 109 rfl rfl
theorem wd_co_yX2_left : Cond.code yX2_left cX2_left 1 (some .int) ∈ allW := tb1 110 rfl rfl
theorem wd_fl_X2_46 : Cond.fieldLink RX2 46 "ColdStore$Product" "life" "I" ∈ allW := tb2 67 rfl rfl
theorem wd_ml_L_132 : Cond.methodLink RL 132 yX7_pallet ∈ allW := tb4 147 rfl rfl
theorem wd_im_yX7_pallet : Cond.instanceMethod yX7_pallet ∈ allW := tb4 148 rfl rfl
theorem wd_se_yX7_pallet : Cond.selects RX7 yX7_pallet yX7_pallet ∈ allW := tb4 149 rfl rfl
theorem wd_co_yX7_pallet : Cond.code yX7_pallet cX7_pallet 3 (some .int) ∈ allW := tb4 150 rfl rfl
theorem wd_ml_X7_131 : Cond.methodLink RX7 131 yX7_toldOfPallet ∈ allW := tb4 151 rfl rfl
theorem wd_im_yX7_toldOfPallet : Cond.instanceMethod yX7_toldOfPallet ∈ allW := tb4 153 rfl rfl
theorem wd_se_yX7_toldOfPallet : Cond.selects RX7 yX7_toldOfPallet yX7_toldOfPallet ∈ allW := tpS (⟨"ColdStoreModel", "toldOfPallet", "(II)I"⟩, 24) (List.mem_append_right _ (List.mem_of_getElem? (i := 8) rfl))
theorem wd_co_yX7_toldOfPallet : Cond.code yX7_toldOfPallet cX7_toldOfPallet 3 (some .int) ∈ allW := tb4 154 rfl rfl
theorem wd_ml_X7_128 : Cond.methodLink RX7 128 yX7_leftOf ∈ allW := tb4 155 rfl rfl
theorem wd_im_yX7_leftOf : Cond.instanceMethod yX7_leftOf ∈ allW := tb4 157 rfl rfl
theorem wd_se_yX7_leftOf : Cond.selects RX7 yX7_leftOf yX7_leftOf ∈ allW := tpS (⟨"ColdStoreModel", "leftOf", "(I)I"⟩, 24) (List.mem_append_right _ (List.mem_of_getElem? (i := 9) rfl))
theorem wd_co_yX7_leftOf : Cond.code yX7_leftOf cX7_leftOf 2 (some .int) ∈ allW := tb4 158 rfl rfl
theorem wd_ml_L_133 : Cond.methodLink RL 133 yL_bestRoom ∈ allW := tb3 62 rfl rfl
theorem wd_st_yL_bestRoom : Cond.static yL_bestRoom ∈ allW := tb3 63 rfl rfl
theorem wd_co_yL_bestRoom : Cond.codeWith yL_bestRoom cL_bestRoom 4 (some .int) [(0, 9, 12, 36)] ∈ allW := tb3 64 rfl rfl
theorem wd_ml_L_56 : Cond.methodLink RL 56 yX6_bestRoom ∈ allW := tb3 65 rfl rfl
theorem wd_im_yX6_bestRoom : Cond.instanceMethod yX6_bestRoom ∈ allW := tb3 66 rfl rfl
theorem wd_se_yX6_bestRoom : Cond.selects RX6 yX6_bestRoom yX6_bestRoom ∈ allW := tb3 67 rfl rfl
theorem wd_co_yX6_bestRoom : Cond.code yX6_bestRoom cX6_bestRoom 8 (some .int) ∈ allW := tb3 68 rfl rfl
theorem wd_ml_X6_171 : Cond.methodLink RX6 171 yX4_isBetterFor ∈ allW := tb3 69 rfl rfl
theorem wd_im_yX4_isBetterFor : Cond.instanceMethod yX4_isBetterFor ∈ allW := tb3 70 rfl rfl
theorem wd_se_yX4_isBetterFor : Cond.selects RX4 yX4_isBetterFor yX4_isBetterFor ∈ allW := tb3 71 rfl rfl
theorem wd_co_yX4_isBetterFor : Cond.code yX4_isBetterFor cX4_isBetterFor 5 (some .boolean) ∈ allW := tb3 72 rfl rfl
theorem wd_ml_X4_80 : Cond.methodLink RX4 80 yX3_distanceFromSuiting ∈ allW := tb3 73 rfl rfl
theorem wd_im_yX3_distanceFromSuiting : Cond.instanceMethod yX3_distanceFromSuiting ∈ allW := tb3 74 rfl rfl
theorem wd_se_yX3_distanceFromSuiting : Cond.selects RX3 yX3_distanceFromSuiting yX3_distanceFromSuiting ∈ allW := tb3 75 rfl rfl
theorem wd_co_yX3_distanceFromSuiting : Cond.code yX3_distanceFromSuiting cX3_distanceFromSuiting 2 (some .int) ∈ allW := tb3 76 rfl rfl
theorem wd_ml_L_135 : Cond.methodLink RL 135 yX7_bestRoom ∈ allW := tb4 159 rfl rfl
theorem wd_im_yX7_bestRoom : Cond.instanceMethod yX7_bestRoom ∈ allW := tb4 160 rfl rfl
theorem wd_se_yX7_bestRoom : Cond.selects RX7 yX7_bestRoom yX7_bestRoom ∈ allW := tb4 161 rfl rfl
theorem wd_co_yX7_bestRoom : Cond.code yX7_bestRoom cX7_bestRoom 5 (some .int) ∈ allW := tb4 162 rfl rfl
theorem wd_ml_X7_137 : Cond.methodLink RX7 137 yX7_off ∈ allW := tb4 163 rfl rfl
theorem wd_im_yX7_off : Cond.instanceMethod yX7_off ∈ allW := tb4 165 rfl rfl
theorem wd_se_yX7_off : Cond.selects RX7 yX7_off yX7_off ∈ allW := tpS (⟨"ColdStoreModel", "off", "(II)I"⟩, 24) (List.mem_append_right _ (List.mem_of_getElem? (i := 10) rfl))
theorem wd_co_yX7_off : Cond.code yX7_off cX7_off 3 (some .int) ∈ allW := tb4 166 rfl rfl
theorem wd_ml_X7_134 : Cond.methodLink RX7 134 Lib.Math.max.name ∈ allW := tb4 167 rfl rfl
theorem wd_st_yJ9_max_7cf53 : Cond.static Lib.Math.max.name ∈ allW := tb4 168 rfl rfl
theorem wd_co_yJ9_max_7cf53 : Cond.code Lib.Math.max.name Lib.Math.max.code 2 (some .int) ∈ allW := tb4 169 rfl rfl
theorem wd_ml_L_136 : Cond.methodLink RL 136 yL_ship ∈ allW := tb3 77 rfl rfl
theorem wd_st_yL_ship : Cond.static yL_ship ∈ allW := tb3 78 rfl rfl
theorem wd_co_yL_ship : Cond.codeWith yL_ship cL_ship 6 (some .int) [(0, 12, 15, 36), (0, 12, 19, 13)] ∈ allW := tb3 79 rfl rfl
theorem wd_ml_L_59 : Cond.methodLink RL 59 yX6_ship ∈ allW := tb3 80 rfl rfl
theorem wd_im_yX6_ship : Cond.instanceMethod yX6_ship ∈ allW := tb3 81 rfl rfl
theorem wd_se_yX6_ship : Cond.selects RX6 yX6_ship yX6_ship ∈ allW := tb3 82 rfl rfl
theorem wd_co_yX6_ship : Cond.code yX6_ship cX6_ship 7 (some .int) ∈ allW := tb3 83 rfl rfl
theorem wd_k_X6_177 : Cond.constant RX6 177 (2147483647) ∈ allW := tb3 84 rfl rfl
theorem wd_ml_X6_178 : Cond.methodLink RX6 178 yX6_nextToShip ∈ allW := tb3 85 rfl rfl
theorem wd_im_yX6_nextToShip : Cond.instanceMethod yX6_nextToShip ∈ allW := tb3 87 rfl rfl
theorem wd_se_yX6_nextToShip : Cond.selects RX6 yX6_nextToShip yX6_nextToShip ∈ allW := tpS (⟨"ColdStore", "nextToShip", "(LColdStore$Product;I)LColdStore$Pallet;"⟩, 11) (List.mem_append_left _ (List.mem_of_getElem? (i := 8) rfl))
theorem wd_co_yX6_nextToShip : Cond.code yX6_nextToShip cX6_nextToShip 8 (some (.object "ColdStore$Pallet")) ∈ allW := tb3 88 rfl rfl
theorem wd_ml_X6_192 : Cond.methodLink RX6 192 yX2_isHereWith ∈ allW := tb3 89 rfl rfl
theorem wd_im_yX2_isHereWith : Cond.instanceMethod yX2_isHereWith ∈ allW := tb3 90 rfl rfl
theorem wd_se_yX2_isHereWith : Cond.selects RX2 yX2_isHereWith yX2_isHereWith ∈ allW := tb3 91 rfl rfl
theorem wd_co_yX2_isHereWith : Cond.code yX2_isHereWith cX2_isHereWith 2 (some .boolean) ∈ allW := tb3 92 rfl rfl
theorem wd_ml_X2_42 : Cond.methodLink RX2 42 yX2_isHere ∈ allW := tb3 93 rfl rfl
theorem wd_im_yX2_isHere : Cond.instanceMethod yX2_isHere ∈ allW := tb1 100 rfl rfl
theorem wd_se_yX2_isHere : Cond.selects RX2 yX2_isHere yX2_isHere ∈ allW := tb1 101 rfl rfl
theorem wd_co_yX2_isHere : Cond.code yX2_isHere cX2_isHere 1 (some .boolean) ∈ allW := tb1 102 rfl rfl
theorem wd_ml_X6_226 : Cond.methodLink RX6 226 yX2_left ∈ allW := tb3 94 rfl rfl
theorem wd_ml_X6_182 : Cond.methodLink RX6 182 yX6_leave ∈ allW := tb1 111 rfl rfl
theorem wd_st_yX6_leave : Cond.static yX6_leave ∈ allW := tb1 112 rfl rfl
theorem wd_co_yX6_leave : Cond.code yX6_leave cX6_leave 2 none ∈ allW := tb1 113 rfl rfl
theorem wd_ml_L_138 : Cond.methodLink RL 138 yX7_ship ∈ allW := tb4 170 rfl rfl
theorem wd_im_yX7_ship : Cond.instanceMethod yX7_ship ∈ allW := tb4 171 rfl rfl
theorem wd_se_yX7_ship : Cond.selects RX7 yX7_ship yX7_ship ∈ allW := tb4 172 rfl rfl
theorem wd_co_yX7_ship : Cond.code yX7_ship cX7_ship 7 (some .int) ∈ allW := tb4 173 rfl rfl
theorem wd_fl_X7_140 : Cond.fieldLink RX7 140 "ColdStoreModel" "shipped" "I" ∈ allW := tb4 0 rfl rfl
theorem wd_ml_L_139 : Cond.methodLink RL 139 yX6_clear ∈ allW := tb1 95 rfl rfl
theorem wd_im_yX6_clear : Cond.instanceMethod yX6_clear ∈ allW := tb1 96 rfl rfl
theorem wd_se_yX6_clear : Cond.selects RX6 yX6_clear yX6_clear ∈ allW := tb1 97 rfl rfl
theorem wd_co_yX6_clear : Cond.code yX6_clear cX6_clear 6 (some .int) ∈ allW := tb1 98 rfl rfl
theorem wd_ml_X6_185 : Cond.methodLink RX6 185 yX2_isHere ∈ allW := tb1 99 rfl rfl
theorem wd_ml_X6_189 : Cond.methodLink RX6 189 yX2_isSpoiled ∈ allW := tb1 103 rfl rfl
theorem wd_im_yX2_isSpoiled : Cond.instanceMethod yX2_isSpoiled ∈ allW := tb1 104 rfl rfl
theorem wd_se_yX2_isSpoiled : Cond.selects RX2 yX2_isSpoiled yX2_isSpoiled ∈ allW := tb1 105 rfl rfl
theorem wd_co_yX2_isSpoiled : Cond.code yX2_isSpoiled cX2_isSpoiled 1 (some .boolean) ∈ allW := tb1 106 rfl rfl
theorem wd_ml_L_142 : Cond.methodLink RL 142 yX7_clear ∈ allW := tb4 174 rfl rfl
theorem wd_im_yX7_clear : Cond.instanceMethod yX7_clear ∈ allW := tb4 175 rfl rfl
theorem wd_se_yX7_clear : Cond.selects RX7 yX7_clear yX7_clear ∈ allW := tb4 176 rfl rfl
theorem wd_co_yX7_clear : Cond.code yX7_clear cX7_clear 3 (some .int) ∈ allW := tb4 177 rfl rfl
theorem wd_ml_X7_143 : Cond.methodLink RX7 143 yX7_there ∈ allW := tb4 178 rfl rfl
theorem wd_im_yX7_there : Cond.instanceMethod yX7_there ∈ allW := tb4 180 rfl rfl
theorem wd_se_yX7_there : Cond.selects RX7 yX7_there yX7_there ∈ allW := tpS (⟨"ColdStoreModel", "there", "(IZ)I"⟩, 24) (List.mem_append_right _ (List.mem_of_getElem? (i := 11) rfl))
theorem wd_co_yX7_there : Cond.code yX7_there cX7_there 5 (some .int) ∈ allW := tb4 181 rfl rfl
theorem wd_ml_L_143 : Cond.methodLink RL 143 yL_stock ∈ allW := tb3 95 rfl rfl
theorem wd_st_yL_stock : Cond.static yL_stock ∈ allW := tb3 96 rfl rfl
theorem wd_co_yL_stock : Cond.codeWith yL_stock cL_stock 5 (some .int) [(0, 10, 13, 36)] ∈ allW := tb3 97 rfl rfl
theorem wd_ml_L_62 : Cond.methodLink RL 62 yX6_stock ∈ allW := tb3 98 rfl rfl
theorem wd_im_yX6_stock : Cond.instanceMethod yX6_stock ∈ allW := tb3 99 rfl rfl
theorem wd_se_yX6_stock : Cond.selects RX6 yX6_stock yX6_stock ∈ allW := tb3 100 rfl rfl
theorem wd_co_yX6_stock : Cond.code yX6_stock cX6_stock 9 (some .int) ∈ allW := tb3 101 rfl rfl
theorem wd_ml_L_146 : Cond.methodLink RL 146 yX7_stock ∈ allW := tb4 182 rfl rfl
theorem wd_im_yX7_stock : Cond.instanceMethod yX7_stock ∈ allW := tb4 183 rfl rfl
theorem wd_se_yX7_stock : Cond.selects RX7 yX7_stock yX7_stock ∈ allW := tb4 184 rfl rfl
theorem wd_co_yX7_stock : Cond.code yX7_stock cX7_stock 3 (some .int) ∈ allW := tb4 185 rfl rfl
theorem wd_ml_L_147 : Cond.methodLink RL 147 yL_count ∈ allW := tb3 102 rfl rfl
theorem wd_st_yL_count : Cond.static yL_count ∈ allW := tb3 103 rfl rfl
theorem wd_co_yL_count : Cond.codeWith yL_count cL_count 4 (some .int) [(0, 9, 12, 36)] ∈ allW := tb3 104 rfl rfl
theorem wd_ml_L_66 : Cond.methodLink RL 66 yX6_count ∈ allW := tb3 105 rfl rfl
theorem wd_im_yX6_count : Cond.instanceMethod yX6_count ∈ allW := tb3 106 rfl rfl
theorem wd_se_yX6_count : Cond.selects RX6 yX6_count yX6_count ∈ allW := tb3 107 rfl rfl
theorem wd_co_yX6_count : Cond.code yX6_count cX6_count 2 (some .int) ∈ allW := tb3 108 rfl rfl
theorem wd_ml_X6_195 : Cond.methodLink RX6 195 yX6_countOf ∈ allW := tb1 135 rfl rfl
theorem wd_im_yX6_countOf : Cond.instanceMethod yX6_countOf ∈ allW := tb1 137 rfl rfl
theorem wd_se_yX6_countOf : Cond.selects RX6 yX6_countOf yX6_countOf ∈ allW := tpS (⟨"ColdStore", "countOf", "(I)I"⟩, 11) (List.mem_append_left _ (List.mem_of_getElem? (i := 0) rfl))
theorem wd_co_yX6_countOf : Cond.code yX6_countOf cX6_countOf 2 (some .int) ∈ allW := tb1 138 rfl rfl
theorem wd_ml_X6_258 : Cond.methodLink RX6 258 yX6_palletsHere ∈ allW := tb1 139 rfl rfl
theorem wd_im_yX6_palletsHere : Cond.instanceMethod yX6_palletsHere ∈ allW := tb1 141 rfl rfl
theorem wd_se_yX6_palletsHere : Cond.selects RX6 yX6_palletsHere yX6_palletsHere ∈ allW := tpS (⟨"ColdStore", "palletsHere", "()I"⟩, 11) (List.mem_append_left _ (List.mem_of_getElem? (i := 1) rfl))
theorem wd_co_yX6_palletsHere : Cond.code yX6_palletsHere cX6_palletsHere 6 (some .int) ∈ allW := tb1 142 rfl rfl
theorem wd_ml_L_149 : Cond.methodLink RL 149 yX7_count ∈ allW := tb4 186 rfl rfl
theorem wd_im_yX7_count : Cond.instanceMethod yX7_count ∈ allW := tb4 187 rfl rfl
theorem wd_se_yX7_count : Cond.selects RX7 yX7_count yX7_count ∈ allW := tb4 188 rfl rfl
theorem wd_co_yX7_count : Cond.code yX7_count cX7_count 2 (some .int) ∈ allW := tb4 189 rfl rfl
theorem wd_ml_X7_147 : Cond.methodLink RX7 147 yX7_counted ∈ allW := tb4 190 rfl rfl
theorem wd_im_yX7_counted : Cond.instanceMethod yX7_counted ∈ allW := tb4 192 rfl rfl
theorem wd_se_yX7_counted : Cond.selects RX7 yX7_counted yX7_counted ∈ allW := tpS (⟨"ColdStoreModel", "counted", "(I)I"⟩, 24) (List.mem_append_right _ (List.mem_of_getElem? (i := 12) rfl))
theorem wd_co_yX7_counted : Cond.code yX7_counted cX7_counted 2 (some .int) ∈ allW := tb4 193 rfl rfl
theorem wd_ml_L_150 : Cond.methodLink RL 150 yL_tick ∈ allW := tb3 109 rfl rfl
theorem wd_st_yL_tick : Cond.static yL_tick ∈ allW := tb3 110 rfl rfl
theorem wd_co_yL_tick : Cond.codeWith yL_tick cL_tick 4 (some .int) [(0, 9, 12, 13)] ∈ allW := tb3 111 rfl rfl
theorem wd_ml_L_69 : Cond.methodLink RL 69 yX6_tick ∈ allW := tb3 112 rfl rfl
theorem wd_im_yX6_tick : Cond.instanceMethod yX6_tick ∈ allW := tb3 113 rfl rfl
theorem wd_se_yX6_tick : Cond.selects RX6 yX6_tick yX6_tick ∈ allW := tb3 114 rfl rfl
theorem wd_co_yX6_tick : Cond.code yX6_tick cX6_tick 4 (some .int) ∈ allW := tb3 115 rfl rfl
theorem wd_ml_X6_198 : Cond.methodLink RX6 198 Lib.Math.min.name ∈ allW := tb3 116 rfl rfl
theorem wd_ml_X6_204 : Cond.methodLink RX6 204 yX6_spoiledHere ∈ allW := tb3 117 rfl rfl
theorem wd_im_yX6_spoiledHere : Cond.instanceMethod yX6_spoiledHere ∈ allW := tb3 119 rfl rfl
theorem wd_se_yX6_spoiledHere : Cond.selects RX6 yX6_spoiledHere yX6_spoiledHere ∈ allW := tpS (⟨"ColdStore", "spoiledHere", "()I"⟩, 11) (List.mem_append_left _ (List.mem_of_getElem? (i := 9) rfl))
theorem wd_co_yX6_spoiledHere : Cond.code yX6_spoiledHere cX6_spoiledHere 6 (some .int) ∈ allW := tb3 120 rfl rfl
theorem wd_ml_X6_208 : Cond.methodLink RX6 208 yX6_passHourEverywhere ∈ allW := tb3 121 rfl rfl
theorem wd_im_yX6_passHourEverywhere : Cond.instanceMethod yX6_passHourEverywhere ∈ allW := tb3 123 rfl rfl
theorem wd_se_yX6_passHourEverywhere : Cond.selects RX6 yX6_passHourEverywhere yX6_passHourEverywhere ∈ allW := tpS (⟨"ColdStore", "passHourEverywhere", "()V"⟩, 11) (List.mem_append_left _ (List.mem_of_getElem? (i := 10) rfl))
theorem wd_co_yX6_passHourEverywhere : Cond.code yX6_passHourEverywhere cX6_passHourEverywhere 6 none ∈ allW := tb3 124 rfl rfl
theorem wd_ml_X6_261 : Cond.methodLink RX6 261 yX5_priceAt ∈ allW := tb3 125 rfl rfl
theorem wd_im_yX5_priceAt : Cond.instanceMethod yX5_priceAt ∈ allW := tb3 126 rfl rfl
theorem wd_se_yX5_priceAt : Cond.selects RX5 yX5_priceAt yX5_priceAt ∈ allW := tb3 127 rfl rfl
theorem wd_co_yX5_priceAt : Cond.code yX5_priceAt cX5_priceAt 2 (some .int) ∈ allW := tb3 128 rfl rfl
theorem wd_ml_X5_25 : Cond.methodLink RX5 25 yJ9_floorMod_7cf53 ∈ allW := tb3 129 rfl rfl
theorem wd_ml_X6_214 : Cond.methodLink RX6 214 yX6_passHourIn ∈ allW := tb3 130 rfl rfl
theorem wd_im_yX6_passHourIn : Cond.instanceMethod yX6_passHourIn ∈ allW := tb3 132 rfl rfl
theorem wd_se_yX6_passHourIn : Cond.selects RX6 yX6_passHourIn yX6_passHourIn ∈ allW := tpS (⟨"ColdStore", "passHourIn", "(LColdStore$Room;I)I"⟩, 11) (List.mem_append_left _ (List.mem_of_getElem? (i := 11) rfl))
theorem wd_co_yX6_passHourIn : Cond.code yX6_passHourIn cX6_passHourIn 3 (some .int) ∈ allW := tb3 133 rfl rfl
theorem wd_ml_X6_264 : Cond.methodLink RX6 264 yX5_isLowestAt ∈ allW := tb3 134 rfl rfl
theorem wd_im_yX5_isLowestAt : Cond.instanceMethod yX5_isLowestAt ∈ allW := tb3 135 rfl rfl
theorem wd_se_yX5_isLowestAt : Cond.selects RX5 yX5_isLowestAt yX5_isLowestAt ∈ allW := tb3 136 rfl rfl
theorem wd_co_yX5_isLowestAt : Cond.code yX5_isLowestAt cX5_isLowestAt 2 (some .boolean) ∈ allW := tb3 137 rfl rfl
theorem wd_ml_X5_28 : Cond.methodLink RX5 28 yX5_priceAt ∈ allW := tb3 138 rfl rfl
theorem wd_ml_X6_268 : Cond.methodLink RX6 268 yX4_passHour ∈ allW := tb3 139 rfl rfl
theorem wd_im_yX4_passHour : Cond.instanceMethod yX4_passHour ∈ allW := tb3 140 rfl rfl
theorem wd_se_yX4_passHour : Cond.selects RX4 yX4_passHour yX4_passHour ∈ allW := tb3 141 rfl rfl
theorem wd_co_yX4_passHour : Cond.code yX4_passHour cX4_passHour 10 (some .int) ∈ allW := tb3 142 rfl rfl
theorem wd_ml_X4_88 : Cond.methodLink RX4 88 yX1_beginHour ∈ allW := tb3 143 rfl rfl
theorem wd_im_yX1_beginHour : Cond.instanceMethod yX1_beginHour ∈ allW := tb3 144 rfl rfl
theorem wd_se_yX1_beginHour : Cond.selects RX1 yX1_beginHour yX1_beginHour ∈ allW := tb3 145 rfl rfl
theorem wd_co_yX1_beginHour : Cond.code yX1_beginHour cX1_beginHour 3 none ∈ allW := tb3 146 rfl rfl
theorem wd_ml_X1_25 : Cond.methodLink RX1 25 yX1_defrostOneHour ∈ allW := tb3 147 rfl rfl
theorem wd_im_yX1_defrostOneHour : Cond.instanceMethod yX1_defrostOneHour ∈ allW := tb3 149 rfl rfl
theorem wd_se_yX1_defrostOneHour : Cond.selects RX1 yX1_defrostOneHour yX1_defrostOneHour ∈ allW := tpS (⟨"ColdStore$Machine", "defrostOneHour", "()V"⟩, 5) (List.mem_append_left _ (List.mem_of_getElem? (i := 12) rfl))
theorem wd_co_yX1_defrostOneHour : Cond.code yX1_defrostOneHour cX1_defrostOneHour 1 none ∈ allW := tb3 150 rfl rfl
theorem wd_ml_X4_92 : Cond.methodLink RX4 92 yX4_warmthOfPallets ∈ allW := tb3 151 rfl rfl
theorem wd_im_yX4_warmthOfPallets : Cond.instanceMethod yX4_warmthOfPallets ∈ allW := tb3 153 rfl rfl
theorem wd_se_yX4_warmthOfPallets : Cond.selects RX4 yX4_warmthOfPallets yX4_warmthOfPallets ∈ allW := tpS (⟨"ColdStore$Room", "warmthOfPallets", "()I"⟩, 11) (List.mem_append_left _ (List.mem_of_getElem? (i := 13) rfl))
theorem wd_co_yX4_warmthOfPallets : Cond.code yX4_warmthOfPallets cX4_warmthOfPallets 6 (some .int) ∈ allW := tb3 154 rfl rfl
theorem wd_fl_X4_104 : Cond.fieldLink RX4 104 "ColdStore$Pallet" "temperature" "I" ∈ allW := tb3 21 rfl rfl
theorem wd_ml_X4_95 : Cond.methodLink RX4 95 yX1_warmthOfHour ∈ allW := tb3 155 rfl rfl
theorem wd_im_yX1_warmthOfHour : Cond.instanceMethod yX1_warmthOfHour ∈ allW := tb3 156 rfl rfl
theorem wd_se_yX1_warmthOfHour : Cond.selects RX1 yX1_warmthOfHour yX1_warmthOfHour ∈ allW := tb3 157 rfl rfl
theorem wd_co_yX1_warmthOfHour : Cond.code yX1_warmthOfHour cX1_warmthOfHour 1 (some .int) ∈ allW := tb3 158 rfl rfl
theorem wd_ml_X4_98 : Cond.methodLink RX4 98 yX1_useEnergy ∈ allW := tb3 159 rfl rfl
theorem wd_im_yX1_useEnergy : Cond.instanceMethod yX1_useEnergy ∈ allW := tb3 160 rfl rfl
theorem wd_se_yX1_useEnergy : Cond.selects RX1 yX1_useEnergy yX1_useEnergy ∈ allW := tb3 161 rfl rfl
theorem wd_co_yX1_useEnergy : Cond.code yX1_useEnergy cX1_useEnergy 1 (some .int) ∈ allW := tb3 162 rfl rfl
theorem wd_ml_X1_28 : Cond.methodLink RX1 28 Lib.Math.min.name ∈ allW := tb3 163 rfl rfl
theorem wd_ml_X4_101 : Cond.methodLink RX4 101 yX2_adaptTo ∈ allW := tb3 164 rfl rfl
theorem wd_im_yX2_adaptTo : Cond.instanceMethod yX2_adaptTo ∈ allW := tb3 165 rfl rfl
theorem wd_se_yX2_adaptTo : Cond.selects RX2 yX2_adaptTo yX2_adaptTo ∈ allW := tb3 166 rfl rfl
theorem wd_co_yX2_adaptTo : Cond.code yX2_adaptTo cX2_adaptTo 2 none ∈ allW := tb3 167 rfl rfl
theorem wd_ml_X2_49 : Cond.methodLink RX2 49 yX3_distanceFromSuiting ∈ allW := tb3 168 rfl rfl
theorem wd_ml_L_152 : Cond.methodLink RL 152 yX7_tick ∈ allW := tb4 194 rfl rfl
theorem wd_im_yX7_tick : Cond.instanceMethod yX7_tick ∈ allW := tb4 195 rfl rfl
theorem wd_se_yX7_tick : Cond.selects RX7 yX7_tick yX7_tick ∈ allW := tb4 196 rfl rfl
theorem wd_co_yX7_tick : Cond.code yX7_tick cX7_tick 5 (some .int) ∈ allW := tb4 197 rfl rfl
theorem wd_ml_X7_158 : Cond.methodLink RX7 158 yX7_hour ∈ allW := tb4 198 rfl rfl
theorem wd_im_yX7_hour : Cond.instanceMethod yX7_hour ∈ allW := tb4 200 rfl rfl
theorem wd_se_yX7_hour : Cond.selects RX7 yX7_hour yX7_hour ∈ allW := tpS (⟨"ColdStoreModel", "hour", "(II)V"⟩, 24) (List.mem_append_right _ (List.mem_of_getElem? (i := 13) rfl))
theorem wd_co_yX7_hour : Cond.code yX7_hour cX7_hour 7 none ∈ allW := tb4 201 rfl rfl
theorem wd_fl_X7_154 : Cond.fieldLink RX7 154 "ColdStoreModel" "paid" "J" ∈ allW := tb3 222 rfl rfl
theorem wd_ml_X7_150 : Cond.methodLink RX7 150 yX7_setMachine ∈ allW := tb4 202 rfl rfl
theorem wd_im_yX7_setMachine : Cond.instanceMethod yX7_setMachine ∈ allW := tb4 204 rfl rfl
theorem wd_se_yX7_setMachine : Cond.selects RX7 yX7_setMachine yX7_setMachine ∈ allW := tpS (⟨"ColdStoreModel", "setMachine", "(II)V"⟩, 24) (List.mem_append_right _ (List.mem_of_getElem? (i := 14) rfl))
theorem wd_co_yX7_setMachine : Cond.code yX7_setMachine cX7_setMachine 6 none ∈ allW := tb4 205 rfl rfl
theorem wd_ml_L_153 : Cond.methodLink RL 153 yL_foretell ∈ allW := tb3 169 rfl rfl
theorem wd_st_yL_foretell : Cond.static yL_foretell ∈ allW := tb3 170 rfl rfl
theorem wd_co_yL_foretell : Cond.codeWith yL_foretell cL_foretell 5 (some .int) [(0, 10, 13, 36), (0, 10, 17, 13)] ∈ allW := tb3 171 rfl rfl
theorem wd_ml_L_72 : Cond.methodLink RL 72 yX6_foretell ∈ allW := tb3 172 rfl rfl
theorem wd_im_yX6_foretell : Cond.instanceMethod yX6_foretell ∈ allW := tb3 173 rfl rfl
theorem wd_se_yX6_foretell : Cond.selects RX6 yX6_foretell yX6_foretell ∈ allW := tb3 174 rfl rfl
theorem wd_co_yX6_foretell : Cond.code yX6_foretell cX6_foretell 5 (some .int) ∈ allW := tb3 175 rfl rfl
theorem wd_fl_X6_218 : Cond.fieldLink RX6 218 "ColdStore$Room" "temperature" "I" ∈ allW := tb2 133 rfl rfl
theorem wd_ml_X6_211 : Cond.methodLink RX6 211 yX4_remember ∈ allW := tb3 176 rfl rfl
theorem wd_im_yX4_remember : Cond.instanceMethod yX4_remember ∈ allW := tb3 177 rfl rfl
theorem wd_se_yX4_remember : Cond.selects RX4 yX4_remember yX4_remember ∈ allW := tb3 178 rfl rfl
theorem wd_co_yX4_remember : Cond.code yX4_remember cX4_remember 5 none ∈ allW := tb3 179 rfl rfl
theorem wd_ml_X4_105 : Cond.methodLink RX4 105 yX1_imitate ∈ allW := tb3 180 rfl rfl
theorem wd_im_yX1_imitate : Cond.instanceMethod yX1_imitate ∈ allW := tb3 181 rfl rfl
theorem wd_se_yX1_imitate : Cond.selects RX1 yX1_imitate yX1_imitate ∈ allW := tb3 182 rfl rfl
theorem wd_co_yX1_imitate : Cond.code yX1_imitate cX1_imitate 2 none ∈ allW := tb3 183 rfl rfl
theorem wd_ml_X4_109 : Cond.methodLink RX4 109 yX2_remember ∈ allW := tb3 184 rfl rfl
theorem wd_im_yX2_remember : Cond.instanceMethod yX2_remember ∈ allW := tb3 185 rfl rfl
theorem wd_se_yX2_remember : Cond.selects RX2 yX2_remember yX2_remember ∈ allW := tb3 186 rfl rfl
theorem wd_co_yX2_remember : Cond.code yX2_remember cX2_remember 1 none ∈ allW := tb3 187 rfl rfl
theorem wd_ml_X6_221 : Cond.methodLink RX6 221 yX4_recall ∈ allW := tb3 188 rfl rfl
theorem wd_im_yX4_recall : Cond.instanceMethod yX4_recall ∈ allW := tb3 189 rfl rfl
theorem wd_se_yX4_recall : Cond.selects RX4 yX4_recall yX4_recall ∈ allW := tb3 190 rfl rfl
theorem wd_co_yX4_recall : Cond.code yX4_recall cX4_recall 5 none ∈ allW := tb3 191 rfl rfl
theorem wd_ml_X4_112 : Cond.methodLink RX4 112 yX2_recall ∈ allW := tb3 192 rfl rfl
theorem wd_im_yX2_recall : Cond.instanceMethod yX2_recall ∈ allW := tb3 193 rfl rfl
theorem wd_se_yX2_recall : Cond.selects RX2 yX2_recall yX2_recall ∈ allW := tb3 194 rfl rfl
theorem wd_co_yX2_recall : Cond.code yX2_recall cX2_recall 1 none ∈ allW := tb3 195 rfl rfl
theorem wd_ml_L_155 : Cond.methodLink RL 155 yX7_foretell ∈ allW := tb4 206 rfl rfl
theorem wd_im_yX7_foretell : Cond.instanceMethod yX7_foretell ∈ allW := tb4 207 rfl rfl
theorem wd_se_yX7_foretell : Cond.selects RX7 yX7_foretell yX7_foretell ∈ allW := tb4 208 rfl rfl
theorem wd_co_yX7_foretell : Cond.code yX7_foretell cX7_foretell 3 (some .int) ∈ allW := tb4 209 rfl rfl
theorem wd_ml_X7_172 : Cond.methodLink RX7 172 yX7_ahead ∈ allW := tb4 210 rfl rfl
theorem wd_im_yX7_ahead : Cond.instanceMethod yX7_ahead ∈ allW := tb4 212 rfl rfl
theorem wd_se_yX7_ahead : Cond.selects RX7 yX7_ahead yX7_ahead ∈ allW := tpS (⟨"ColdStoreModel", "ahead", "(III)[I"⟩, 24) (List.mem_append_right _ (List.mem_of_getElem? (i := 15) rfl))
theorem wd_co_yX7_ahead : Cond.code yX7_ahead cX7_ahead 11 (some (.array .int)) ∈ allW := tb4 213 rfl rfl
theorem wd_ml_X7_161 : Cond.methodLink RX7 161 ⟨"[I", "clone", "()Ljava/lang/Object;"⟩ ∈ allW := tb4 214 rfl rfl
theorem wd_sm___I___java_lang_Object___clone_____Ljava_lang_Object__ : Cond.sameMethod "[I" "java/lang/Object" "clone" "()Ljava/lang/Object;" ∈ allW := tb4 215 rfl rfl
theorem wd_na__java_lang_Object_clone___Ljava_lang_Object__ : Cond.native ⟨"java/lang/Object", "clone", "()Ljava/lang/Object;"⟩ ∈ allW := tb4 216 rfl rfl
theorem wd_im__java_lang_Object_clone___Ljava_lang_Object__ : Cond.instanceMethod ⟨"java/lang/Object", "clone", "()Ljava/lang/Object;"⟩ ∈ allW := tb4 217 rfl rfl
theorem wd_se___I_clone___Ljava_lang_Object__ : Cond.selects "[I" ⟨"[I", "clone", "()Ljava/lang/Object;"⟩ ⟨"java/lang/Object", "clone", "()Ljava/lang/Object;"⟩ ∈ allW := tb4 218 rfl rfl
theorem wd_cl_X7_162 : Cond.classLink RX7 162 "[I" ∈ allW := tb4 220 rfl rfl
theorem wd_ml_X7_166 : Cond.methodLink RX7 166 arraycopyName ∈ allW := tb4 221 rfl rfl
theorem wd_na__java_lang_System_arraycopy__Ljava_lang_Object_ILjava_lang_Object_II_V_ : Cond.native arraycopyName ∈ allW := tb4 223 rfl rfl
theorem wd_st__java_lang_System_arraycopy__Ljava_lang_Object_ILjava_lang_Object_II_V_ : Cond.static arraycopyName ∈ allW := tb4 222 rfl rfl
theorem wd_in_RJ10 : Cond.initialized "java/lang/System" ∈ allW := tb1 16 rfl rfl
theorem wd_ml_L_156 : Cond.methodLink RL 156 yL_lasts ∈ allW := tb3 196 rfl rfl
theorem wd_st_yL_lasts : Cond.static yL_lasts ∈ allW := tb3 197 rfl rfl
theorem wd_co_yL_lasts : Cond.codeWith yL_lasts cL_lasts 4 (some .int) [(0, 9, 12, 36), (0, 9, 15, 27)] ∈ allW := tb3 198 rfl rfl
theorem wd_ml_L_75 : Cond.methodLink RL 75 yX6_lasts ∈ allW := tb3 199 rfl rfl
theorem wd_im_yX6_lasts : Cond.instanceMethod yX6_lasts ∈ allW := tb3 200 rfl rfl
theorem wd_se_yX6_lasts : Cond.selects RX6 yX6_lasts yX6_lasts ∈ allW := tb3 201 rfl rfl
theorem wd_co_yX6_lasts : Cond.code yX6_lasts cX6_lasts 5 (some .int) ∈ allW := tb3 202 rfl rfl
theorem wd_ml_L_158 : Cond.methodLink RL 158 yX7_lasts ∈ allW := tb4 224 rfl rfl
theorem wd_im_yX7_lasts : Cond.instanceMethod yX7_lasts ∈ allW := tb4 225 rfl rfl
theorem wd_se_yX7_lasts : Cond.selects RX7 yX7_lasts yX7_lasts ∈ allW := tb4 226 rfl rfl
theorem wd_co_yX7_lasts : Cond.code yX7_lasts cX7_lasts 2 (some .int) ∈ allW := tb4 227 rfl rfl
theorem wd_ml_L_159 : Cond.methodLink RL 159 yX6_now ∈ allW := tb1 118 rfl rfl
theorem wd_im_yX6_now : Cond.instanceMethod yX6_now ∈ allW := tb1 119 rfl rfl
theorem wd_se_yX6_now : Cond.selects RX6 yX6_now yX6_now ∈ allW := tb1 120 rfl rfl
theorem wd_co_yX6_now : Cond.code yX6_now cX6_now 1 (some .int) ∈ allW := tb1 121 rfl rfl
theorem wd_ml_L_162 : Cond.methodLink RL 162 yX7_now ∈ allW := tb4 228 rfl rfl
theorem wd_im_yX7_now : Cond.instanceMethod yX7_now ∈ allW := tb4 229 rfl rfl
theorem wd_se_yX7_now : Cond.selects RX7 yX7_now yX7_now ∈ allW := tb4 230 rfl rfl
theorem wd_co_yX7_now : Cond.code yX7_now cX7_now 1 (some .int) ∈ allW := tb4 231 rfl rfl
theorem wd_ml_L_163 : Cond.methodLink RL 163 yX6_paid ∈ allW := tb1 122 rfl rfl
theorem wd_im_yX6_paid : Cond.instanceMethod yX6_paid ∈ allW := tb1 123 rfl rfl
theorem wd_se_yX6_paid : Cond.selects RX6 yX6_paid yX6_paid ∈ allW := tb1 124 rfl rfl
theorem wd_co_yX6_paid : Cond.code yX6_paid cX6_paid 1 (some .long) ∈ allW := tb1 125 rfl rfl
theorem wd_ml_L_167 : Cond.methodLink RL 167 yX7_paid ∈ allW := tb4 232 rfl rfl
theorem wd_im_yX7_paid : Cond.instanceMethod yX7_paid ∈ allW := tb4 233 rfl rfl
theorem wd_se_yX7_paid : Cond.selects RX7 yX7_paid yX7_paid ∈ allW := tb4 234 rfl rfl
theorem wd_co_yX7_paid : Cond.code yX7_paid cX7_paid 1 (some .long) ∈ allW := tb4 235 rfl rfl
theorem wd_ml_L_168 : Cond.methodLink RL 168 yL_freshness ∈ allW := tb3 204 rfl rfl
theorem wd_st_yL_freshness : Cond.static yL_freshness ∈ allW := tb3 205 rfl rfl
theorem wd_co_yL_freshness : Cond.codeWith yL_freshness cL_freshness 4 (some .int) [(0, 8, 11, 36)] ∈ allW := tb3 206 rfl rfl
theorem wd_ml_L_78 : Cond.methodLink RL 78 yX6_freshness ∈ allW := tb3 207 rfl rfl
theorem wd_im_yX6_freshness : Cond.instanceMethod yX6_freshness ∈ allW := tb3 208 rfl rfl
theorem wd_se_yX6_freshness : Cond.selects RX6 yX6_freshness yX6_freshness ∈ allW := tb3 209 rfl rfl
theorem wd_co_yX6_freshness : Cond.code yX6_freshness cX6_freshness 10 (some .double) ∈ allW := tb3 210 rfl rfl
theorem wd_ml_L_171 : Cond.methodLink RL 171 yX7_freshness ∈ allW := tb4 236 rfl rfl
theorem wd_im_yX7_freshness : Cond.instanceMethod yX7_freshness ∈ allW := tb4 237 rfl rfl
theorem wd_se_yX7_freshness : Cond.selects RX7 yX7_freshness yX7_freshness ∈ allW := tb4 238 rfl rfl
theorem wd_co_yX7_freshness : Cond.code yX7_freshness cX7_freshness 5 (some .double) ∈ allW := tb4 239 rfl rfl
theorem wd_ml_L_172 : Cond.methodLink RL 172 yX6_digest ∈ allW := tb1 126 rfl rfl
theorem wd_im_yX6_digest : Cond.instanceMethod yX6_digest ∈ allW := tb1 127 rfl rfl
theorem wd_se_yX6_digest : Cond.selects RX6 yX6_digest yX6_digest ∈ allW := tb1 128 rfl rfl
theorem wd_co_yX6_digest : Cond.code yX6_digest cX6_digest 4 (some .long) ∈ allW := tb1 129 rfl rfl
theorem wd_k_X6_229 : Cond.constantLong RX6 229 (349) ∈ allW := tb1 130 rfl rfl
theorem wd_ml_X6_231 : Cond.methodLink RX6 231 yX6_mix ∈ allW := tb1 131 rfl rfl
theorem wd_st_yX6_mix : Cond.static yX6_mix ∈ allW := tb1 132 rfl rfl
theorem wd_co_yX6_mix : Cond.code yX6_mix cX6_mix 4 (some .long) ∈ allW := tb1 133 rfl rfl
theorem wd_k_X6_272 : Cond.constantLong RX6 272 (31) ∈ allW := tb1 134 rfl rfl
theorem wd_ml_X6_235 : Cond.methodLink RX6 235 yX6_mixRooms ∈ allW := tb1 143 rfl rfl
theorem wd_im_yX6_mixRooms : Cond.instanceMethod yX6_mixRooms ∈ allW := tb1 145 rfl rfl
theorem wd_se_yX6_mixRooms : Cond.selects RX6 yX6_mixRooms yX6_mixRooms ∈ allW := tpS (⟨"ColdStore", "mixRooms", "(J)J"⟩, 11) (List.mem_append_left _ (List.mem_of_getElem? (i := 2) rfl))
theorem wd_co_yX6_mixRooms : Cond.code yX6_mixRooms cX6_mixRooms 10 (some .long) ∈ allW := tb1 146 rfl rfl
theorem wd_ml_X6_239 : Cond.methodLink RX6 239 yX6_mixPallets ∈ allW := tb1 155 rfl rfl
theorem wd_im_yX6_mixPallets : Cond.instanceMethod yX6_mixPallets ∈ allW := tb1 157 rfl rfl
theorem wd_se_yX6_mixPallets : Cond.selects RX6 yX6_mixPallets yX6_mixPallets ∈ allW := tpS (⟨"ColdStore", "mixPallets", "(J)J"⟩, 11) (List.mem_append_left _ (List.mem_of_getElem? (i := 3) rfl))
theorem wd_co_yX6_mixPallets : Cond.code yX6_mixPallets cX6_mixPallets 10 (some .long) ∈ allW := tb1 158 rfl rfl
theorem wd_ml_L_175 : Cond.methodLink RL 175 yX7_digest ∈ allW := tb5 0 rfl rfl
theorem wd_im_yX7_digest : Cond.instanceMethod yX7_digest ∈ allW := tb5 1 rfl rfl
theorem wd_se_yX7_digest : Cond.selects RX7 yX7_digest yX7_digest ∈ allW := tb5 2 rfl rfl
theorem wd_co_yX7_digest : Cond.code yX7_digest cX7_digest 5 (some .long) ∈ allW := tb5 3 rfl rfl
theorem wd_k_X7_176 : Cond.constantLong RX7 176 (10819) ∈ allW := tb5 4 rfl rfl
theorem wd_k_X7_178 : Cond.constantLong RX7 178 (31) ∈ allW := tb5 5 rfl rfl
theorem inX0 : ∀ w ∈ wsX00, w ∈ allW := by
  intro w hw
  obtain ⟨k, hk, rfl⟩ := List.mem_map.mp hw
  have hk := List.mem_range.mp hk
  match k, hk with
  | 0, _ => exact tb1 35 rfl rfl
  | 1, _ => exact tb1 37 rfl rfl
  | k + 2, hk => exact absurd hk (by omega)
theorem inX1 : ∀ w ∈ wsX10, w ∈ allW := by
  intro w hw
  obtain ⟨k, hk, rfl⟩ := List.mem_map.mp hw
  have hk := List.mem_range.mp hk
  match k, hk with
  | 0, _ => exact tb2 110 rfl rfl
  | 1, _ => exact tb2 112 rfl rfl
  | 2, _ => exact tb2 114 rfl rfl
  | 3, _ => exact tb2 116 rfl rfl
  | 4, _ => exact tb2 118 rfl rfl
  | k + 5, hk => exact absurd hk (by omega)
theorem inX2 : ∀ w ∈ wsX20, w ∈ allW := by
  intro w hw
  obtain ⟨k, hk, rfl⟩ := List.mem_map.mp hw
  have hk := List.mem_range.mp hk
  match k, hk with
  | 0, _ => exact tb3 25 rfl rfl
  | 1, _ => exact tb3 27 rfl rfl
  | 2, _ => exact tb3 29 rfl rfl
  | 3, _ => exact tb3 31 rfl rfl
  | 4, _ => exact tb3 33 rfl rfl
  | 5, _ => exact tb3 35 rfl rfl
  | k + 6, hk => exact absurd hk (by omega)
theorem inX3 : ∀ w ∈ wsX30, w ∈ allW := by
  intro w hw
  obtain ⟨k, hk, rfl⟩ := List.mem_map.mp hw
  have hk := List.mem_range.mp hk
  match k, hk with
  | 0, _ => exact tb2 69 rfl rfl
  | 1, _ => exact tb2 71 rfl rfl
  | 2, _ => exact tb2 73 rfl rfl
  | 3, _ => exact tb2 75 rfl rfl
  | 4, _ => exact tb2 77 rfl rfl
  | k + 5, hk => exact absurd hk (by omega)
theorem inX4 : ∀ w ∈ wsX40, w ∈ allW := by
  intro w hw
  obtain ⟨k, hk, rfl⟩ := List.mem_map.mp hw
  have hk := List.mem_range.mp hk
  match k, hk with
  | 0, _ => exact tb2 138 rfl rfl
  | 1, _ => exact tb2 140 rfl rfl
  | 2, _ => exact tb2 142 rfl rfl
  | 3, _ => exact tb2 144 rfl rfl
  | 4, _ => exact tb2 146 rfl rfl
  | 5, _ => exact tb2 148 rfl rfl
  | 6, _ => exact tb2 150 rfl rfl
  | 7, _ => exact tb2 152 rfl rfl
  | 8, _ => exact tb2 154 rfl rfl
  | 9, _ => exact tb2 156 rfl rfl
  | 10, _ => exact tb2 158 rfl rfl
  | k + 11, hk => exact absurd hk (by omega)
theorem inX5 : ∀ w ∈ wsX50, w ∈ allW := by
  intro w hw
  obtain ⟨k, hk, rfl⟩ := List.mem_map.mp hw
  have hk := List.mem_range.mp hk
  match k, hk with
  | 0, _ => exact tb1 49 rfl rfl
  | 1, _ => exact tb1 51 rfl rfl
  | k + 2, hk => exact absurd hk (by omega)
theorem inX6 : ∀ w ∈ wsX60, w ∈ allW := by
  intro w hw
  obtain ⟨k, hk, rfl⟩ := List.mem_map.mp hw
  have hk := List.mem_range.mp hk
  match k, hk with
  | 0, _ => exact tb1 72 rfl rfl
  | 1, _ => exact tb1 74 rfl rfl
  | 2, _ => exact tb1 76 rfl rfl
  | 3, _ => exact tb1 78 rfl rfl
  | 4, _ => exact tb1 80 rfl rfl
  | 5, _ => exact tb1 82 rfl rfl
  | 6, _ => exact tb1 84 rfl rfl
  | 7, _ => exact tb1 86 rfl rfl
  | 8, _ => exact tb1 88 rfl rfl
  | 9, _ => exact tb1 90 rfl rfl
  | 10, _ => exact tb1 92 rfl rfl
  | k + 11, hk => exact absurd hk (by omega)
theorem inX7 : ∀ w ∈ wsX70, w ∈ allW := by
  intro w hw
  obtain ⟨k, hk, rfl⟩ := List.mem_map.mp hw
  have hk := List.mem_range.mp hk
  match k, hk with
  | 0, _ => exact tb4 1 rfl rfl
  | 1, _ => exact tb4 3 rfl rfl
  | 2, _ => exact tb4 5 rfl rfl
  | 3, _ => exact tb4 7 rfl rfl
  | 4, _ => exact tb4 9 rfl rfl
  | 5, _ => exact tb4 11 rfl rfl
  | 6, _ => exact tb4 13 rfl rfl
  | 7, _ => exact tb4 15 rfl rfl
  | 8, _ => exact tb4 17 rfl rfl
  | 9, _ => exact tb4 19 rfl rfl
  | 10, _ => exact tb4 21 rfl rfl
  | 11, _ => exact tb4 23 rfl rfl
  | 12, _ => exact tb4 25 rfl rfl
  | 13, _ => exact tb4 27 rfl rfl
  | 14, _ => exact tb4 29 rfl rfl
  | 15, _ => exact tb4 31 rfl rfl
  | 16, _ => exact tb4 33 rfl rfl
  | 17, _ => exact tb4 35 rfl rfl
  | 18, _ => exact tb4 37 rfl rfl
  | 19, _ => exact tb4 39 rfl rfl
  | 20, _ => exact tb4 41 rfl rfl
  | 21, _ => exact tb4 43 rfl rfl
  | 22, _ => exact tb4 45 rfl rfl
  | 23, _ => exact tb4 47 rfl rfl
  | k + 24, hk => exact absurd hk (by omega)
end
