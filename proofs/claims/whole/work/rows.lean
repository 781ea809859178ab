section
-- ===== PART A: goes FIRST, ahead of the names: the tables' words, and 'selects' of the private methods out of them =====
/-- a private method of a class that the tables say can be made, by its rows of tables_1 -/
def lw_okq (q : MethodName × Nat) : Prop := (q.1.cls ≠ "java/lang/invoke/MethodHandle" ∧ q.1.cls ≠ "java/lang/invoke/VarHandle") ∧ Cond.instantiable q.1.cls q.2 ∈ tables_1 ∧ Cond.privateMethod q.1 ∈ tables_1 ∧ Cond.instanceMethod q.1 ∈ tables_1
theorem lw_p0 : lw_okq (⟨"ColdStore", "countOf", "(I)I"⟩, 11) := ⟨⟨by decide +kernel, by decide +kernel⟩, List.mem_of_getElem? (i := 18) (by decide +kernel), List.mem_of_getElem? (i := 136) (by decide +kernel), List.mem_of_getElem? (i := 137) (by decide +kernel)⟩
theorem lw_p1 : lw_okq (⟨"ColdStore", "palletsHere", "()I"⟩, 11) := ⟨⟨by decide +kernel, by decide +kernel⟩, List.mem_of_getElem? (i := 18) (by decide +kernel), List.mem_of_getElem? (i := 140) (by decide +kernel), List.mem_of_getElem? (i := 141) (by decide +kernel)⟩
theorem lw_p2 : lw_okq (⟨"ColdStore", "mixRooms", "(J)J"⟩, 11) := ⟨⟨by decide +kernel, by decide +kernel⟩, List.mem_of_getElem? (i := 18) (by decide +kernel), List.mem_of_getElem? (i := 144) (by decide +kernel), List.mem_of_getElem? (i := 145) (by decide +kernel)⟩
theorem lw_p3 : lw_okq (⟨"ColdStore", "mixPallets", "(J)J"⟩, 11) := ⟨⟨by decide +kernel, by decide +kernel⟩, List.mem_of_getElem? (i := 18) (by decide +kernel), List.mem_of_getElem? (i := 156) (by decide +kernel), List.mem_of_getElem? (i := 157) (by decide +kernel)⟩
theorem lw_p4 : lw_okq (⟨"java/lang/Throwable", "fillInStackTrace", "(I)Ljava/lang/Throwable;"⟩, 6) := ⟨⟨by decide +kernel, by decide +kernel⟩, List.mem_of_getElem? (i := 213) (by decide +kernel), List.mem_of_getElem? (i := 211) (by decide +kernel), List.mem_of_getElem? (i := 212) (by decide +kernel)⟩
theorem lw_p5 : lw_okq (⟨"ColdStore", "existingRoom", "(I)LColdStore$Room;"⟩, 11) := ⟨⟨by decide +kernel, by decide +kernel⟩, List.mem_of_getElem? (i := 18) (by decide +kernel), List.mem_of_getElem? (i := 410) (by decide +kernel), List.mem_of_getElem? (i := 411) (by decide +kernel)⟩
theorem lw_p6 : lw_okq (⟨"ColdStore", "existingProduct", "(I)LColdStore$Product;"⟩, 11) := ⟨⟨by decide +kernel, by decide +kernel⟩, List.mem_of_getElem? (i := 18) (by decide +kernel), List.mem_of_getElem? (i := 460) (by decide +kernel), List.mem_of_getElem? (i := 461) (by decide +kernel)⟩
theorem lw_p7 : lw_okq (⟨"ColdStore", "existingPallet", "(I)LColdStore$Pallet;"⟩, 11) := ⟨⟨by decide +kernel, by decide +kernel⟩, List.mem_of_getElem? (i := 18) (by decide +kernel), List.mem_of_getElem? (i := 530) (by decide +kernel), List.mem_of_getElem? (i := 531) (by decide +kernel)⟩
theorem lw_p8 : lw_okq (⟨"ColdStore", "nextToShip", "(LColdStore$Product;I)LColdStore$Pallet;"⟩, 11) := ⟨⟨by decide +kernel, by decide +kernel⟩, List.mem_of_getElem? (i := 18) (by decide +kernel), List.mem_of_getElem? (i := 566) (by decide +kernel), List.mem_of_getElem? (i := 567) (by decide +kernel)⟩
theorem lw_p9 : lw_okq (⟨"ColdStore", "spoiledHere", "()I"⟩, 11) := ⟨⟨by decide +kernel, by decide +kernel⟩, List.mem_of_getElem? (i := 18) (by decide +kernel), List.mem_of_getElem? (i := 598) (by decide +kernel), List.mem_of_getElem? (i := 599) (by decide +kernel)⟩
theorem lw_p10 : lw_okq (⟨"ColdStore", "passHourEverywhere", "()V"⟩, 11) := ⟨⟨by decide +kernel, by decide +kernel⟩, List.mem_of_getElem? (i := 18) (by decide +kernel), List.mem_of_getElem? (i := 602) (by decide +kernel), List.mem_of_getElem? (i := 603) (by decide +kernel)⟩
theorem lw_p11 : lw_okq (⟨"ColdStore", "passHourIn", "(LColdStore$Room;I)I"⟩, 11) := ⟨⟨by decide +kernel, by decide +kernel⟩, List.mem_of_getElem? (i := 18) (by decide +kernel), List.mem_of_getElem? (i := 611) (by decide +kernel), List.mem_of_getElem? (i := 612) (by decide +kernel)⟩
theorem lw_p12 : lw_okq (⟨"ColdStore$Machine", "defrostOneHour", "()V"⟩, 5) := ⟨⟨by decide +kernel, by decide +kernel⟩, List.mem_of_getElem? (i := 335) (by decide +kernel), List.mem_of_getElem? (i := 628) (by decide +kernel), List.mem_of_getElem? (i := 629) (by decide +kernel)⟩
theorem lw_p13 : lw_okq (⟨"ColdStore$Room", "warmthOfPallets", "()I"⟩, 11) := ⟨⟨by decide +kernel, by decide +kernel⟩, List.mem_of_getElem? (i := 328) (by decide +kernel), List.mem_of_getElem? (i := 632) (by decide +kernel), List.mem_of_getElem? (i := 633) (by decide +kernel)⟩
theorem lw_p14 : lw_okq (⟨"ColdStoreModel", "no", "(I)I"⟩, 24) := ⟨⟨by decide +kernel, by decide +kernel⟩, List.mem_of_getElem? (i := 692) (by decide +kernel), List.mem_of_getElem? (i := 783) (by decide +kernel), List.mem_of_getElem? (i := 784) (by decide +kernel)⟩
theorem lw_p15 : lw_okq (⟨"ColdStoreModel", "outsideAt", "(I)I"⟩, 24) := ⟨⟨by decide +kernel, by decide +kernel⟩, List.mem_of_getElem? (i := 692) (by decide +kernel), List.mem_of_getElem? (i := 787) (by decide +kernel), List.mem_of_getElem? (i := 788) (by decide +kernel)⟩
def lw_privs_1 : List (MethodName × Nat) := [(⟨"ColdStore", "countOf", "(I)I"⟩, 11), (⟨"ColdStore", "palletsHere", "()I"⟩, 11), (⟨"ColdStore", "mixRooms", "(J)J"⟩, 11), (⟨"ColdStore", "mixPallets", "(J)J"⟩, 11), (⟨"java/lang/Throwable", "fillInStackTrace", "(I)Ljava/lang/Throwable;"⟩, 6), (⟨"ColdStore", "existingRoom", "(I)LColdStore$Room;"⟩, 11), (⟨"ColdStore", "existingProduct", "(I)LColdStore$Product;"⟩, 11), (⟨"ColdStore", "existingPallet", "(I)LColdStore$Pallet;"⟩, 11), (⟨"ColdStore", "nextToShip", "(LColdStore$Product;I)LColdStore$Pallet;"⟩, 11), (⟨"ColdStore", "spoiledHere", "()I"⟩, 11), (⟨"ColdStore", "passHourEverywhere", "()V"⟩, 11), (⟨"ColdStore", "passHourIn", "(LColdStore$Room;I)I"⟩, 11), (⟨"ColdStore$Machine", "defrostOneHour", "()V"⟩, 5), (⟨"ColdStore$Room", "warmthOfPallets", "()I"⟩, 11), (⟨"ColdStoreModel", "no", "(I)I"⟩, 24), (⟨"ColdStoreModel", "outsideAt", "(I)I"⟩, 24)]
theorem lw_r1 : ∀ q ∈ lw_privs_1, lw_okq q := List.forall_mem_cons.mpr ⟨lw_p0, List.forall_mem_cons.mpr ⟨lw_p1, List.forall_mem_cons.mpr ⟨lw_p2, List.forall_mem_cons.mpr ⟨lw_p3, List.forall_mem_cons.mpr ⟨lw_p4, List.forall_mem_cons.mpr ⟨lw_p5, List.forall_mem_cons.mpr ⟨lw_p6, List.forall_mem_cons.mpr ⟨lw_p7, List.forall_mem_cons.mpr ⟨lw_p8, List.forall_mem_cons.mpr ⟨lw_p9, List.forall_mem_cons.mpr ⟨lw_p10, List.forall_mem_cons.mpr ⟨lw_p11, List.forall_mem_cons.mpr ⟨lw_p12, List.forall_mem_cons.mpr ⟨lw_p13, List.forall_mem_cons.mpr ⟨lw_p14, List.forall_mem_cons.mpr ⟨lw_p15, fun _ h => absurd h List.not_mem_nil⟩⟩⟩⟩⟩⟩⟩⟩⟩⟩⟩⟩⟩⟩⟩⟩
theorem lw_p16 : lw_okq (⟨"ColdStoreModel", "lowest", "()I"⟩, 24) := ⟨⟨by decide +kernel, by decide +kernel⟩, List.mem_of_getElem? (i := 692) (by decide +kernel), List.mem_of_getElem? (i := 800) (by decide +kernel), List.mem_of_getElem? (i := 801) (by decide +kernel)⟩
theorem lw_p17 : lw_okq (⟨"ColdStoreModel", "isRoom", "(I)Z"⟩, 24) := ⟨⟨by decide +kernel, by decide +kernel⟩, List.mem_of_getElem? (i := 692) (by decide +kernel), List.mem_of_getElem? (i := 820) (by decide +kernel), List.mem_of_getElem? (i := 821) (by decide +kernel)⟩
theorem lw_p18 : lw_okq (⟨"ColdStoreModel", "toldOfRoom", "(II)I"⟩, 24) := ⟨⟨by decide +kernel, by decide +kernel⟩, List.mem_of_getElem? (i := 692) (by decide +kernel), List.mem_of_getElem? (i := 832) (by decide +kernel), List.mem_of_getElem? (i := 833) (by decide +kernel)⟩
theorem lw_p19 : lw_okq (⟨"ColdStoreModel", "free", "(I)I"⟩, 24) := ⟨⟨by decide +kernel, by decide +kernel⟩, List.mem_of_getElem? (i := 692) (by decide +kernel), List.mem_of_getElem? (i := 836) (by decide +kernel), List.mem_of_getElem? (i := 837) (by decide +kernel)⟩
theorem lw_p20 : lw_okq (⟨"ColdStoreModel", "isProduct", "(I)Z"⟩, 24) := ⟨⟨by decide +kernel, by decide +kernel⟩, List.mem_of_getElem? (i := 692) (by decide +kernel), List.mem_of_getElem? (i := 844) (by decide +kernel), List.mem_of_getElem? (i := 845) (by decide +kernel)⟩
theorem lw_p21 : lw_okq (⟨"ColdStoreModel", "reasonFor", "(II)I"⟩, 24) := ⟨⟨by decide +kernel, by decide +kernel⟩, List.mem_of_getElem? (i := 692) (by decide +kernel), List.mem_of_getElem? (i := 848) (by decide +kernel), List.mem_of_getElem? (i := 849) (by decide +kernel)⟩
theorem lw_p22 : lw_okq (⟨"ColdStoreModel", "goTogether", "(II)Z"⟩, 24) := ⟨⟨by decide +kernel, by decide +kernel⟩, List.mem_of_getElem? (i := 692) (by decide +kernel), List.mem_of_getElem? (i := 852) (by decide +kernel), List.mem_of_getElem? (i := 853) (by decide +kernel)⟩
theorem lw_p23 : lw_okq (⟨"ColdStoreModel", "isPallet", "(I)Z"⟩, 24) := ⟨⟨by decide +kernel, by decide +kernel⟩, List.mem_of_getElem? (i := 692) (by decide +kernel), List.mem_of_getElem? (i := 864) (by decide +kernel), List.mem_of_getElem? (i := 865) (by decide +kernel)⟩
theorem lw_p24 : lw_okq (⟨"ColdStoreModel", "toldOfPallet", "(II)I"⟩, 24) := ⟨⟨by decide +kernel, by decide +kernel⟩, List.mem_of_getElem? (i := 692) (by decide +kernel), List.mem_of_getElem? (i := 872) (by decide +kernel), List.mem_of_getElem? (i := 873) (by decide +kernel)⟩
theorem lw_p25 : lw_okq (⟨"ColdStoreModel", "leftOf", "(I)I"⟩, 24) := ⟨⟨by decide +kernel, by decide +kernel⟩, List.mem_of_getElem? (i := 692) (by decide +kernel), List.mem_of_getElem? (i := 876) (by decide +kernel), List.mem_of_getElem? (i := 877) (by decide +kernel)⟩
theorem lw_p26 : lw_okq (⟨"ColdStoreModel", "off", "(II)I"⟩, 24) := ⟨⟨by decide +kernel, by decide +kernel⟩, List.mem_of_getElem? (i := 692) (by decide +kernel), List.mem_of_getElem? (i := 884) (by decide +kernel), List.mem_of_getElem? (i := 885) (by decide +kernel)⟩
theorem lw_p27 : lw_okq (⟨"ColdStoreModel", "there", "(IZ)I"⟩, 24) := ⟨⟨by decide +kernel, by decide +kernel⟩, List.mem_of_getElem? (i := 692) (by decide +kernel), List.mem_of_getElem? (i := 899) (by decide +kernel), List.mem_of_getElem? (i := 900) (by decide +kernel)⟩
theorem lw_p28 : lw_okq (⟨"ColdStoreModel", "counted", "(I)I"⟩, 24) := ⟨⟨by decide +kernel, by decide +kernel⟩, List.mem_of_getElem? (i := 692) (by decide +kernel), List.mem_of_getElem? (i := 911) (by decide +kernel), List.mem_of_getElem? (i := 912) (by decide +kernel)⟩
theorem lw_p29 : lw_okq (⟨"ColdStoreModel", "hour", "(II)V"⟩, 24) := ⟨⟨by decide +kernel, by decide +kernel⟩, List.mem_of_getElem? (i := 692) (by decide +kernel), List.mem_of_getElem? (i := 919) (by decide +kernel), List.mem_of_getElem? (i := 920) (by decide +kernel)⟩
theorem lw_p30 : lw_okq (⟨"ColdStoreModel", "setMachine", "(II)V"⟩, 24) := ⟨⟨by decide +kernel, by decide +kernel⟩, List.mem_of_getElem? (i := 692) (by decide +kernel), List.mem_of_getElem? (i := 923) (by decide +kernel), List.mem_of_getElem? (i := 924) (by decide +kernel)⟩
theorem lw_p31 : lw_okq (⟨"ColdStoreModel", "ahead", "(III)[I"⟩, 24) := ⟨⟨by decide +kernel, by decide +kernel⟩, List.mem_of_getElem? (i := 692) (by decide +kernel), List.mem_of_getElem? (i := 931) (by decide +kernel), List.mem_of_getElem? (i := 932) (by decide +kernel)⟩
def lw_privs_2 : List (MethodName × Nat) := [(⟨"ColdStoreModel", "lowest", "()I"⟩, 24), (⟨"ColdStoreModel", "isRoom", "(I)Z"⟩, 24), (⟨"ColdStoreModel", "toldOfRoom", "(II)I"⟩, 24), (⟨"ColdStoreModel", "free", "(I)I"⟩, 24), (⟨"ColdStoreModel", "isProduct", "(I)Z"⟩, 24), (⟨"ColdStoreModel", "reasonFor", "(II)I"⟩, 24), (⟨"ColdStoreModel", "goTogether", "(II)Z"⟩, 24), (⟨"ColdStoreModel", "isPallet", "(I)Z"⟩, 24), (⟨"ColdStoreModel", "toldOfPallet", "(II)I"⟩, 24), (⟨"ColdStoreModel", "leftOf", "(I)I"⟩, 24), (⟨"ColdStoreModel", "off", "(II)I"⟩, 24), (⟨"ColdStoreModel", "there", "(IZ)I"⟩, 24), (⟨"ColdStoreModel", "counted", "(I)I"⟩, 24), (⟨"ColdStoreModel", "hour", "(II)V"⟩, 24), (⟨"ColdStoreModel", "setMachine", "(II)V"⟩, 24), (⟨"ColdStoreModel", "ahead", "(III)[I"⟩, 24)]
theorem lw_r2 : ∀ q ∈ lw_privs_2, lw_okq q := List.forall_mem_cons.mpr ⟨lw_p16, List.forall_mem_cons.mpr ⟨lw_p17, List.forall_mem_cons.mpr ⟨lw_p18, List.forall_mem_cons.mpr ⟨lw_p19, List.forall_mem_cons.mpr ⟨lw_p20, List.forall_mem_cons.mpr ⟨lw_p21, List.forall_mem_cons.mpr ⟨lw_p22, List.forall_mem_cons.mpr ⟨lw_p23, List.forall_mem_cons.mpr ⟨lw_p24, List.forall_mem_cons.mpr ⟨lw_p25, List.forall_mem_cons.mpr ⟨lw_p26, List.forall_mem_cons.mpr ⟨lw_p27, List.forall_mem_cons.mpr ⟨lw_p28, List.forall_mem_cons.mpr ⟨lw_p29, List.forall_mem_cons.mpr ⟨lw_p30, List.forall_mem_cons.mpr ⟨lw_p31, fun _ h => absurd h List.not_mem_nil⟩⟩⟩⟩⟩⟩⟩⟩⟩⟩⟩⟩⟩⟩⟩⟩
def lw_privs : List (MethodName × Nat) := lw_privs_1 ++ (lw_privs_2)
def lw_tbl : List Cond := k2_sels lw_privs ++ tables_1
theorem lw_privs_ok : ∀ q ∈ lw_privs, lw_okq q := by
  show ∀ q ∈ lw_privs_1 ++ (lw_privs_2), lw_okq q
  exact List.forall_mem_append.mpr ⟨lw_r1, lw_r2⟩
/-- the streams that the claim lets the run draw from -/
abbrev lw_cs : List Choice := [Jvm.Choice.named "NaN.bits"]
theorem lw_bits : nanBits ∈ lw_cs := by first | decide | exact List.mem_cons_self | simp [lw_cs, nanBits]
end
section
/-! ===== BEGIN words of one list among another's, by their places ===== -/
theorem goodIn_r {big : List Cond} (ws : List Cond) (ps : List Nat) (hp : ws = ps.filterMap (fun i => big[i]?)) (h : ws.all goodWord = true) : GoodIn big ws := by
  intro w hw
  have h1 := List.all_eq_true.mp h w hw
  rw [hp] at hw
  obtain ⟨i, -, hi⟩ := List.mem_filterMap.mp hw
  have hm : w ∈ big := by first | exact List.mem_of_getElem? hi | exact List.getElem?_mem hi
  exact ⟨hm, good_of_word h1⟩
theorem goodIn_app {big a b : List Cond} (ha : GoodIn big a) (hb : GoodIn big b) : GoodIn big (a ++ b) := fun w h => (List.mem_append.mp h).elim (ha w) (hb w)
theorem goodIn_ca {big a b : List Cond} {c : Cond} (ha : GoodIn big (c :: a)) (hb : GoodIn big b) : GoodIn big (c :: (a ++ b)) := fun w h => (List.mem_cons.mp h).elim (fun e => ha w (List.mem_cons.mpr (Or.inl e))) (fun h => (List.mem_append.mp h).elim (fun h => ha w (List.mem_cons.mpr (Or.inr h))) (hb w))
theorem goodIn_sub {big ws : List Cond} (hm : ∀ w ∈ ws, w ∈ big) (h : ws.all goodWord = true) : GoodIn big ws := fun w hw => ⟨hm w hw, good_of_word (List.all_eq_true.mp h w hw)⟩
/-! ===== END ===== -/

/-! ===== BEGIN exceptions that leave a method, and their catching by the caller (launches without stack traces) ===== -/
section VXA
/-! The laws vx_back, vx_callV, vx_callS, vx_callSW, vx_throw0, vx_throwS follow proofs of the library, with one case more: JvmDerived/Free/Laws.lean (Back.of_free), Shelf42/LK1.lean (callV, callS), Shelf/KitTraced.lean (throwNew0V, throwNewS). -/
/-- where a method has thrown q: the class by its name, the cell, what was written, the world -/
def vx_T (XC : String → State → State → Prop) (st : State) (q : Addr) (t : State) (mc ms : Nat) (free : Addr → Prop) : Prop :=
  ∃ (E : String) (ce : Cell) (L : List Loc), XC E st t ∧ t.heap[q]? = some ce ∧ ce.vm = .none ∧ st.vm.findClass E = some ce.cls ∧ st.WarmedH t.vm ∧ st.sameButNew ({ t with vm := st.vm } : State) L mc ms ∧ ∀ z ∈ L, free z.base
def vx_Q (Qc : Array Value → State → Outcome → State → Prop) (XC : String → State → State → Prop) (mc ms : Nat) (free : Addr → Prop) : Array Value → State → Outcome → State → Prop := fun a st o t =>
  (Qc a st o t ∧ ∃ L, FrameEnd st o t L mc ms ∧ ∀ q ∈ L, free q.base) ∨ ∃ q, o = .threw q ∧ vx_T XC st q t mc ms free
/-- a callee that returns or throws -/
def vx_Met (l : Launch) (y : MethodName) (ws : List Cond) (rm : Room) (Pc : Array Value → State → Prop) (Qc : Array Value → State → Outcome → State → Prop) (XC : String → State → State → Prop) (mc ms : Nat) (free : Addr → Prop) : Prop :=
  MetFree l y (headSpec ws rm) Pc (fun _ _ _ _ _ => True) (vx_Q Qc XC mc ms free)
def vx_Post (XC : String → State → State → Prop) (mc ms : Nat) (free : Addr → Prop) : Pt → Array Value → Addr → Pt → Prop := fun A a q B =>
  ∃ (g : JFrame) (mk : MethodId) (t : State) (L : List Loc) (E : String) (ce : Cell), B.U.heap = t.heap ∧ B.U.vm = t.vm ∧ XC E (A.U.calling g mk a) t ∧ t.heap[q]? = some ce ∧ ce.vm = .none ∧ A.U.vm.findClass E = some ce.cls ∧ B.locs = A.locs ++ L ∧ (∀ z ∈ L, free z.base) ∧ B.cells = A.cells + mc ∧ B.slots = A.slots + ms
def vx_Back (l : Launch) (R : Room) (p : Program) (e : Env) (below : List Frame) (s : State) (sargs : Array Value) (y : MethodName) (len W9 : Nat)
    (Pre : Pt → Array Value → Prop) (Post : Pt → Array Value → Option Value → Pt → Prop) (PostX : Pt → Array Value → Addr → Pt → Prop) : Prop :=
  ∀ (m : MethodId) (meth : Method) (c : Code) (A : Pt) (g : JFrame) (ig : Instr) (mk : MethodId) (a : Array Value),
    Stand p l e R s m sargs below meth c A.U A.locs A.cells A.slots → g.method = m → g.locals.size = c.maxLocals → decode c.code g.pc = .ok (ig, len) →
    2 * g.monitorRoom + (g.stack.map fun v => v.category).sum ≤ W9 → A.U.methodNamed? y = some mk → Pre A a →
    (∃ (v : Option Value) (B : Pt), Stand p l e R s m sargs below meth c B.U B.locs B.cells B.slots ∧ Post A a v B ∧
      Steps p.tables e below (doInvoke e (A.U.setTop g) [] mk a).1 (B.U.setTop { g with pc := g.pc + len, stack := v.toList ++ g.stack })) ∨
    (∃ (q : Addr) (B : Pt), Stand p l e R s m sargs below meth c B.U B.locs B.cells B.slots ∧ PostX A a q B ∧
      Steps p.tables e below (doInvoke e (A.U.setTop g) [] mk a).1 ((B.U.setTop g).pushFrame (.throwing q)))
section Payer
variable {l : Launch} {R : Room} {p : Program} {e : Env} {below : List Frame} {s : State} {sargs : Array Value} {y : MethodName} {len W9 : Nat}
theorem vx_back {ws : List Cond} {rm : Room} {Pc : Array Value → State → Prop} {Qc : Array Value → State → Outcome → State → Prop} {XC : String → State → State → Prop} {mc ms : Nat} {free : Addr → Prop} {bytes : ByteArray} {maxL : Nat} {ret : Option FieldType}
    (hM : vx_Met l y ws rm Pc Qc XC mc ms free) (hblind : FrameBlind Pc) (hrc : rm.cells = mc) (hrs : rm.slots = ms)
    (hframes : rm.frames + 1 ≤ R.frames) (hlocals : W9 + (maxL + 11) + rm.locals ≤ R.locals)
    (hws : ∀ w ∈ ws, ∀ a' U, s.WarmedH U.vm → w.before a' U = true) (hcode : Cond.code y bytes maxL ret ∈ ws) (hinit : ∀ a' U, s.WarmedH U.vm → (Cond.initialized y.cls).before a' U = true) :
    vx_Back l R p e below s sargs y len W9 (PreOf R mc ms Pc) (PostOf Qc mc ms free) (vx_Post XC mc ms free) := by
  intro m meth c A g ig mk a X hg hsize hdg hW hn hp
  have h1 : (headSpec ws rm).pre.before a A.U = true := atoms_intro fun w hw => hws w hw _ _ X.warmed
  have h2 : (Cond.code y bytes maxL ret).before a A.U = true := hws _ hcode _ _ X.warmed
  have h3 : (Cond.initialized y.cls).before a A.U = true := hinit _ _ X.warmed
  have h4 : A.cells + (headSpec ws rm).room.cells ≤ R.cells := by rw [show (headSpec ws rm).room.cells = mc from hrc]; exact hp.1
  have h5 : A.slots + (headSpec ws rm).room.slots ≤ R.slots := by rw [show (headSpec ws rm).room.slots = ms from hrs]; exact hp.2.1
  have hPc : Pc a (A.U.calling g mk a) := hblind _ _ _ _ hp.2.2
  obtain ⟨U, Ls, c0, s0⟩ := A
  dsimp only [Pt.U, Pt.locs, Pt.cells, Pt.slots] at h1 h2 h3 h4 h5 X hn hPc ⊢
  obtain ⟨methY, cY, hmY, hcY, -, hlY, -, -, -, -⟩ := Cond.code_spec hn h2
  obtain ⟨kY, hkY, -⟩ := className_of_methodNamed hn
  have hinitY : kY.init = .initialized := Cond.initialized_spec (findClass_of_methodNamed hn) hkY h3
  have h : At U g.method c below := by rw [hg]; exact X.here
  have hlocals9 : W9 + (maxL + 11) + (headSpec ws rm).room.locals ≤ R.locals := hlocals
  have happ : (headSpec ws rm).appliesLoose y e.platform (U.calling g mk a) = true :=
    Spec.appliesLoose_calling (g := g) h hdg hn hkY hinitY
      (X.room_calling (g := g) (R' := (headSpec ws rm).room) hsize hmY hcY hframes (by rw [hlY]; omega) h4 h5) h1
  obtain ⟨mid, hmid⟩ := h.above
  have hfr : (U.setTop g).frames = (.java g :: mid) ++ below := by rw [State.frames_setTop' g h.top, hmid]; rfl
  obtain ⟨o, s₂, hsteps, -, hend, hq⟩ := Steps.callFree hM p X.admits X.cas X.clock (acts := []) hfr happ hPc trivial
  have hq' : vx_Q Qc XC mc ms free a (U.calling g mk a) o s₂ := hq
  rw [State.frames_setTop' g h.top] at hend
  obtain ⟨g₀, hg0⟩ := Option.isSome_iff_exists.mp h.top
  obtain ⟨r, hr⟩ := State.topJava?_eq_some.mp hg0
  have hr' : (({ U with heap := s₂.heap, slotsUsed := s₂.slotsUsed } : State).setVm s₂.vm).frames = .java g₀ :: r := hr
  rcases hq' with ⟨hqc, L, hfe, hL⟩ | ⟨q, rfl, E, ce, L, hx, hce, hcv, hcl, hW₂, hsm, hL⟩
  · obtain ⟨⟨v, rfl⟩, hW₂, e2, q2, q3, q4, q5, q6⟩ := id hfe
    have e3 : s₂ = ({ (U.calling g mk a).setFrames s₂.frames with heap := s₂.heap, slotsUsed := s₂.slotsUsed } : State).setVm s₂.vm := by
      have : s₂ = ({ s₂ with vm := (U.calling g mk a).vm } : State).setVm s₂.vm := rfl
      rw [e2] at this
      exact this
    obtain ⟨c₂, i₂, len₂, hc₂, hd₂, hf₂⟩ := hend
    have hW' : U.WarmedH s₂.vm := hW₂
    have hcc : c₂ = c := by
      have h1 : s₂.code? g.method = U.code? g.method := by
        rw [State.code?_eq, State.code?_eq, hW'.alike.method?]
      exact Option.some.inj (hc₂.symm.trans (h1.trans h.code))
    subst hcc
    have hlen : len₂ = len := by rw [hdg] at hd₂; cases hd₂; rfl
    subst hlen
    have hs₂ : s₂ = (({ U with heap := s₂.heap, slotsUsed := s₂.slotsUsed } : State).setVm s₂.vm).setTop { g with pc := g.pc + len₂, stack := v.toList ++ g.stack } := by
      refine e3.trans ?_
      rw [hf₂, State.calling_eq h.top, State.setFrames_setFrames, State.setTop_of_frames _ hr', hr]
      rfl
    have hsame : U.sameButNew ({ U with heap := s₂.heap, slotsUsed := s₂.slotsUsed } : State) L mc ms := by
      refine ⟨?_, q2, q3, q4, q5, q6⟩
      obtain ⟨t, ht, -⟩ := State.frames_cons hr
      show ({ U with heap := s₂.heap, slotsUsed := s₂.slotsUsed } : State) = { U.setFrames U.frames with heap := s₂.heap, slotsUsed := s₂.slotsUsed }
      rw [State.setFrames_self ht]
    subst hg
    refine Or.inl ⟨v, ⟨(({ U with heap := s₂.heap, slotsUsed := s₂.slotsUsed } : State).setVm s₂.vm), Ls ++ L, c0 + mc, s0 + ms⟩,
      ⟨X.admits, X.cas, X.clock, X.frames, X.room, X.hears, X.method, X.code, (X.here.setHeapUsed s₂.heap s₂.slotsUsed).setVm hW'.alike, X.tail, State.WarmedH.trans X.warmed hW', X.limits, X.bytes, X.same.trans (hsame.setVm s.vm)⟩,
      ⟨g, mk, s₂, L, rfl, rfl, hqc, rfl, hL, rfl, rfl⟩, ?_⟩
    show Steps p.tables e below _ ((({ U with heap := s₂.heap, slotsUsed := s₂.slotsUsed } : State).setVm s₂.vm).setTop { g with pc := g.pc + len₂, stack := v.toList ++ g.stack })
    rw [← hs₂]
    exact hsteps
  · obtain ⟨e2, q2, q3, q4, q5, q6⟩ := id hsm
    have e3 : s₂ = ({ (U.calling g mk a).setFrames s₂.frames with heap := s₂.heap, slotsUsed := s₂.slotsUsed } : State).setVm s₂.vm := by
      have : s₂ = ({ s₂ with vm := (U.calling g mk a).vm } : State).setVm s₂.vm := rfl
      rw [e2] at this
      exact this
    have hf₂ : s₂.frames = .throwing q :: .java g :: U.frames.tail := hend
    have hW' : U.WarmedH s₂.vm := hW₂
    have hs₂ : s₂ = ((({ U with heap := s₂.heap, slotsUsed := s₂.slotsUsed } : State).setVm s₂.vm).setTop g).pushFrame (.throwing q) := by
      refine e3.trans ?_
      rw [hf₂, State.calling_eq h.top, State.setFrames_setFrames, State.pushFrame, State.frames_setTop _ hr', State.setTop_of_frames _ hr', State.setFrames_setFrames, hr]
      rfl
    have hsame : U.sameButNew ({ U with heap := s₂.heap, slotsUsed := s₂.slotsUsed } : State) L mc ms := by
      refine ⟨?_, q2, q3, q4, q5, q6⟩
      obtain ⟨t, ht, -⟩ := State.frames_cons hr
      show ({ U with heap := s₂.heap, slotsUsed := s₂.slotsUsed } : State) = { U.setFrames U.frames with heap := s₂.heap, slotsUsed := s₂.slotsUsed }
      rw [State.setFrames_self ht]
    subst hg
    refine Or.inr ⟨q, ⟨(({ U with heap := s₂.heap, slotsUsed := s₂.slotsUsed } : State).setVm s₂.vm), Ls ++ L, c0 + mc, s0 + ms⟩,
      ⟨X.admits, X.cas, X.clock, X.frames, X.room, X.hears, X.method, X.code, (X.here.setHeapUsed s₂.heap s₂.slotsUsed).setVm hW'.alike, X.tail, State.WarmedH.trans X.warmed hW', X.limits, X.bytes, X.same.trans (hsame.setVm s.vm)⟩,
      ⟨g, mk, s₂, L, E, ce, rfl, rfl, hx, hce, hcv, hcl, rfl, hL, rfl, rfl⟩, ?_⟩
    show Steps p.tables e below _ (((({ U with heap := s₂.heap, slotsUsed := s₂.slotsUsed } : State).setVm s₂.vm).setTop g).pushFrame (.throwing q))
    rw [← hs₂]
    exact hsteps
end Payer
section Calls
variable {p : Program} {l : Launch} {e : Env} {R : Room} {s : State} {m : MethodId} {args : Array Value} {below : List Frame} {meth : Method} {c : Code} {T : State} {locs : List Loc} {cells slots : Nat}
theorem vx_callV (X : Stand p l e R s m args below meth c T locs cells slots) (hexec : p.tables.exec = Jvm.exec) {own C : String} {index : Nat} {y : MethodName} {bytes : ByteArray} {maxL : Nat} {ret : Option FieldType}
    (hown : s.vm.findClass own = some m.cls) (hlink : (Cond.methodLink own index y).before args s = true) (hinst : (Cond.instanceMethod y).before args s = true) (hsel : (Cond.selects C y y).before args s = true)
    (hcode : (Cond.code y bytes maxL ret).before args s = true) (hy : y.cls ≠ "java/lang/invoke/MethodHandle" ∧ y.cls ≠ "java/lang/invoke/VarHandle")
    {W9 : Nat} {Pre : Pt → Array Value → Prop} {Post : Pt → Array Value → Option Value → Pt → Prop} {PostX : Pt → Array Value → Addr → Pt → Prop} (hK : vx_Back l R p e below s args y 3 W9 Pre Post PostX)
    {b : Addr} {cellB : Cell} (hcell : T.heap[b]? = some cellB) (hobj : cellB.vm.isStatics = false) (hcls : s.vm.findClass C = some cellB.cls)
    {g : JFrame} (hg : g.method = m) (hsize : g.locals.size = c.maxLocals) {argsL rest : List Value} (hlen : ∀ sig, parseMethodDescriptor y.desc = some sig → argsL.length = sig.parameters.length)
    (hstack : g.stack = argsL.reverse ++ .ref b :: rest) (hW : 2 * g.monitorRoom + (rest.map fun v => v.category).sum ≤ W9) (hdg : decode c.code g.pc = .ok (.invokevirtual index, 3))
    (hpre : ∀ vm₁, s.WarmedH vm₁ → Pre ⟨T.setVm vm₁, locs, cells, slots⟩ (Value.ref b :: argsL).toArray) :
    (∃ (v : Option Value) (vm₁ : Vm) (B : Pt), s.WarmedH vm₁ ∧ Stand p l e R s m args below meth c B.U B.locs B.cells B.slots ∧ Post ⟨T.setVm vm₁, locs, cells, slots⟩ (Value.ref b :: argsL).toArray v B ∧
      ∀ target, Steps p.tables e below (B.U.setTop { g with pc := g.pc + 3, stack := v.toList ++ rest }) target → Steps p.tables e below (T.setTop g) target) ∨
    (∃ (q : Addr) (vm₁ : Vm) (B : Pt), s.WarmedH vm₁ ∧ Stand p l e R s m args below meth c B.U B.locs B.cells B.slots ∧ PostX ⟨T.setVm vm₁, locs, cells, slots⟩ (Value.ref b :: argsL).toArray q B ∧
      Steps p.tables e below (T.setTop g) ((B.U.setTop { g with stack := rest }).pushFrame (.throwing q))) := by
  obtain ⟨mk, methM, hnamed, hmethM, hstM, habM⟩ := Cond.instanceMethod_spec hinst
  obtain ⟨methM', cM, hmethM', -, -, -, -, -, -, hsigM⟩ := Cond.code_spec hnamed hcode
  cases hmethM.symm.trans hmethM'
  obtain ⟨c2, r2, m2, q1, q2, q3, q4, kP, hkP, hkPi⟩ := Cond.selects_spec hsel
  cases hcls.symm.trans q1
  cases (State.methodFound?_of_named hnamed hy).symm.trans q2
  cases hnamed.symm.trans q3
  have hselP : selectMethod e.platform s.vm cellB.cls mk = .method mk := by rw [Launch.admits_selectMethod X.admits]; exact q4
  obtain ⟨vm₁, X₁, hstep₁⟩ := X.invokevirtual hexec hown hlink hnamed hmethM hstM hkP hkPi hy (a := b) (cell := cellB) hcell
    (fun z h => by rw [h] at hobj; cases hobj) hselP hmethM habM hkP hkPi (g := g) hg (argsL := argsL) (rest := rest) (hlen _ hsigM) hstack hdg
  rcases hK m meth c ⟨T.setVm vm₁, locs, cells, slots⟩ { g with stack := rest } (.invokevirtual index) mk (Value.ref b :: argsL).toArray X₁ hg hsize hdg hW (X₁.named hnamed) (hpre vm₁ X₁.warmed) with ⟨v, B, X', hpost, hsteps⟩ | ⟨q, B, X', hpost, hsteps⟩
  · exact Or.inl ⟨v, vm₁, B, X₁.warmed, X', hpost, fun target h => hstep₁ _ fun acts => by rw [doInvoke_state]; exact hsteps.trans h⟩
  · exact Or.inr ⟨q, vm₁, B, X₁.warmed, X', hpost, hstep₁ _ fun acts => by rw [doInvoke_state]; exact hsteps⟩
theorem vx_callS (X : Stand p l e R s m args below meth c T locs cells slots) (hexec : p.tables.exec = Jvm.exec) {own : String} {index : Nat} {y : MethodName} {bytes : ByteArray} {maxL : Nat} {ret : Option FieldType}
    (hown : s.vm.findClass own = some m.cls) (hlink : (Cond.methodLink own index y).before args s = true) (hstat : (Cond.static y).before args s = true) (hinit : (Cond.initialized y.cls).before args s = true)
    (hcode : (Cond.code y bytes maxL ret).before args s = true) (hy : y.cls ≠ "java/lang/invoke/MethodHandle" ∧ y.cls ≠ "java/lang/invoke/VarHandle")
    {W9 : Nat} {Pre : Pt → Array Value → Prop} {Post : Pt → Array Value → Option Value → Pt → Prop} {PostX : Pt → Array Value → Addr → Pt → Prop} (hK : vx_Back l R p e below s args y 3 W9 Pre Post PostX)
    {g : JFrame} (hg : g.method = m) (hsize : g.locals.size = c.maxLocals) {argsL rest : List Value} (hlen : ∀ sig, parseMethodDescriptor y.desc = some sig → argsL.length = sig.parameters.length)
    (hstack : g.stack = argsL.reverse ++ rest) (hW : 2 * g.monitorRoom + (rest.map fun v => v.category).sum ≤ W9) (hdg : decode c.code g.pc = .ok (.invokestatic index, 3))
    (hpre : ∀ vm₁, s.WarmedH vm₁ → Pre ⟨T.setVm vm₁, locs, cells, slots⟩ argsL.toArray) :
    (∃ (v : Option Value) (vm₁ : Vm) (B : Pt), s.WarmedH vm₁ ∧ Stand p l e R s m args below meth c B.U B.locs B.cells B.slots ∧ Post ⟨T.setVm vm₁, locs, cells, slots⟩ argsL.toArray v B ∧
      ∀ target, Steps p.tables e below (B.U.setTop { g with pc := g.pc + 3, stack := v.toList ++ rest }) target → Steps p.tables e below (T.setTop g) target) ∨
    (∃ (q : Addr) (vm₁ : Vm) (B : Pt), s.WarmedH vm₁ ∧ Stand p l e R s m args below meth c B.U B.locs B.cells B.slots ∧ PostX ⟨T.setVm vm₁, locs, cells, slots⟩ argsL.toArray q B ∧
      Steps p.tables e below (T.setTop g) ((B.U.setTop { g with stack := rest }).pushFrame (.throwing q))) := by
  obtain ⟨mk, hnamed⟩ := Cond.code_named hcode
  obtain ⟨methM, cM, hmethM, -, -, -, -, -, -, hsigM⟩ := Cond.code_spec hnamed hcode
  have hstatic : methM.isStatic = true := Cond.static_spec hnamed hmethM hstat
  obtain ⟨kP, hkP, -⟩ := className_of_methodNamed hnamed
  have hinitP : kP.init = .initialized := Cond.initialized_spec (findClass_of_methodNamed hnamed) hkP hinit
  obtain ⟨vm₁, X₁, hstep₁⟩ := X.invokestatic hexec hown hlink hnamed hmethM hstatic hkP hinitP hy (g := g) hg (argsL := argsL) (rest := rest) (hlen _ hsigM) hstack hdg
  rcases hK m meth c ⟨T.setVm vm₁, locs, cells, slots⟩ { g with stack := rest } (.invokestatic index) mk argsL.toArray X₁ hg hsize hdg hW (X₁.named hnamed) (hpre vm₁ X₁.warmed) with ⟨v, B, X', hpost, hsteps⟩ | ⟨q, B, X', hpost, hsteps⟩
  · exact Or.inl ⟨v, vm₁, B, X₁.warmed, X', hpost, fun target h => hstep₁ _ fun acts => by rw [doInvoke_state]; exact hsteps.trans h⟩
  · exact Or.inr ⟨q, vm₁, B, X₁.warmed, X', hpost, hstep₁ _ fun acts => by rw [doInvoke_state]; exact hsteps⟩
end Calls
theorem vx_cls {s : State} {T : State} {vm₁ : Vm} {E : String} {k : ClassId} (hW : s.WarmedH vm₁) (h : (T.setVm vm₁).vm.findClass E = some k) : s.vm.findClass E = some k := by
  have h1 : vm₁.findClass E = some k := h
  rw [hW.alike.findClass] at h1
  exact h1
/-- the method's frame g, with q thrown over it -/
def vx_W (p : Program) (l : Launch) (e : Env) (R : Room) (s : State) (m : MethodId) (args : Array Value) (below : List Frame) (meth : Method) (c : Code) (H : Heap) (locs : List Loc) (cells slots : Nat) (Q : State → Prop) (g : JFrame) (q : Addr) : Prop :=
  ∀ T : State, T.heap = H → Stand p l e R s m args below meth c T locs cells slots → ∃ t, Steps p.tables e below ((T.setTop g).pushFrame (.throwing q)) t ∧ Q t
def vx_Run (p : Program) (l : Launch) (e : Env) (R : Room) (s : State) (m : MethodId) (args : Array Value) (below : List Frame) (meth : Method) (c : Code) (H : Heap) (locs : List Loc) (cells slots mc ms : Nat) (g : JFrame) (rest : List Value) (Qa : State → Outcome → State → Prop) (XC : String → State → State → Prop) (free : Addr → Prop) : Prop :=
  ∀ T : State, T.heap = H → Stand p l e R s m args below meth c T locs cells slots →
    (∃ (v : Option Value) (st₀ t T' : State) (L : List Loc), st₀.heap = H ∧ Stand p l e R s m args below meth c T' (locs ++ L) (cells + mc) (slots + ms) ∧ (∀ q ∈ L, free q.base) ∧ T'.heap = t.heap ∧ T'.vm = t.vm ∧ Qa st₀ (.returned v) t ∧
      Goes p e below T g T' { g with pc := g.pc + 3, stack := v.toList ++ rest }) ∨
    (∃ (q : Addr) (st₀ t T' : State) (L : List Loc) (E : String) (ce : Cell), st₀.heap = H ∧ Stand p l e R s m args below meth c T' (locs ++ L) (cells + mc) (slots + ms) ∧ (∀ z ∈ L, free z.base) ∧ T'.heap = t.heap ∧ T'.vm = t.vm ∧ XC E st₀ t ∧ t.heap[q]? = some ce ∧ ce.vm = .none ∧ s.vm.findClass E = some ce.cls ∧
      Steps p.tables e below (T.setTop g) ((T'.setTop { g with stack := rest }).pushFrame (.throwing q)))
def vx_X {S : Type} (px : S → Prop) (B : String → S → State → Prop) (A : Nat → Prop) : String → State → State → Prop := fun E st t => ∃ u : S, px u ∧ B E u t ∧ va_F A st t
section Runs
variable {p : Program} {l : Launch} {e : Env} {R : Room} {s : State} {m : MethodId} {args : Array Value} {below : List Frame} {meth : Method} {c : Code} {H : Heap} {locs : List Loc} {cells slots : Nat}
variable {y : MethodName} {bytes cc : ByteArray} {maxL nL mc ms n index : Nat} {ret : Option FieldType} {ws : List Cond} {rm : Room} {Pc : Array Value → State → Prop} {Qc : Array Value → State → Outcome → State → Prop} {XC : String → State → State → Prop} {free : Addr → Prop} {Ts : List Cond} {own C : String} {b : Addr} {As rest : List Value} {g : JFrame}
theorem vx_callBack (cb : CallB R s args own index y bytes maxL ret ws rm mc ms n) (hM : vx_Met l y ws rm Pc Qc XC mc ms free) (hbl : FrameBlind Pc) : vx_Back l R p e below s args y 3 8 (PreOf R mc ms Pc) (PostOf Qc mc ms free) (vx_Post XC mc ms free) := by
  obtain ⟨hrc, hrs, hfr, hlo, hws, hcw, -, hini, -⟩ := cb
  exact vx_back (bytes := bytes) (maxL := maxL) (ret := ret) hM hbl hrc hrs hfr hlo hws hcw (fun a' U hW => word_at hW (Or.inl (by first | rfl | simp [Cond.onTables, Cond.keeps, Cond.steady])) hini)
theorem vx_runV (S : CallFix p m c cc nL s args Ts own) (hM : vx_Met l y ws rm Pc Qc XC mc ms free) (cw : CallW R s args own C index y bytes maxL ret ws rm mc ms n) (hp : PreV s H C b Pc As)
    (hg : g.method = m) (hn : As.length = n) (hsize : g.locals.size = nL) (hstack : g.stack = As.reverse ++ .ref b :: rest) (hW : 2 * g.monitorRoom + (rest.map fun v => v.category).sum ≤ 8) (hdg : decode cc g.pc = .ok (.invokevirtual index, 3)) (hf : cells + mc ≤ R.cells ∧ slots + ms ≤ R.slots) :
    vx_Run p l e R s m args below meth c H locs cells slots mc ms g rest (Qc (Value.ref b :: As).toArray) XC free := by
  have hK : vx_Back l R p e below s args y 3 8 (PreOf R mc ms Pc) (PostOf Qc mc ms free) (vx_Post XC mc ms free) := vx_callBack cw.1 hM hp.1
  obtain ⟨⟨-, -, -, -, -, -, hcode, -, hy, hlen, hl⟩, hin, hse⟩ := cw
  obtain ⟨hx, hb, hml, ho, -⟩ := S
  obtain ⟨-, ⟨cellB, hcB, hoB, hclB⟩, hPc⟩ := hp
  intro T hT X
  rcases vx_callV X hx (C := C) (bytes := bytes) (maxL := maxL) (ret := ret) ho hl hin hse hcode hy hK (by rw [hT]; exact hcB) hoB hclB hg (hsize.trans hml.symm) (argsL := As) (rest := rest) (fun sig h => hn.trans (hlen sig h)) hstack hW (by rw [hb]; exact hdg)
    (fun vm₁ hW₁ => ⟨hf.1, hf.2, hPc (T.setVm vm₁) hT hW₁⟩) with ⟨v, vm₁, ⟨U', l2, c2, s2⟩, hW₁, X', ⟨g', mk, t, L, e1, e2, hq, h1, hL, h2, h3⟩, st⟩ | ⟨q, vm₁, ⟨U', l2, c2, s2⟩, hW₁, X', ⟨g', mk, t, L, E, ce, e1, e2, hq, hce, hcv, hcl, h1, hL, h2, h3⟩, st⟩
  · dsimp only [Pt.U, Pt.locs, Pt.cells, Pt.slots] at X' e1 e2 h1 h2 h3 st
    subst h1; subst h2; subst h3
    exact Or.inl ⟨v, (T.setVm vm₁).calling g' mk (Value.ref b :: As).toArray, t, U', L, hT, X', hL, e1, e2, hq, st⟩
  · dsimp only [Pt.U, Pt.locs, Pt.cells, Pt.slots] at X' e1 e2 h1 h2 h3 st hcl
    subst h1; subst h2; subst h3
    exact Or.inr ⟨q, (T.setVm vm₁).calling g' mk (Value.ref b :: As).toArray, t, U', L, E, ce, hT, X', hL, e1, e2, hq, hce, hcv, vx_cls hW₁ hcl, st⟩
theorem vx_runS (S : CallFix p m c cc nL s args Ts own) (hM : vx_Met l y ws rm Pc Qc XC mc ms free) (cw : CallB R s args own index y bytes maxL ret ws rm mc ms n ∧ (Cond.static y).before args s = true) (hp : PreS s H Pc As)
    (hg : g.method = m) (hn : As.length = n) (hsize : g.locals.size = nL) (hstack : g.stack = As.reverse ++ rest) (hW : 2 * g.monitorRoom + (rest.map fun v => v.category).sum ≤ 8) (hdg : decode cc g.pc = .ok (.invokestatic index, 3)) (hf : cells + mc ≤ R.cells ∧ slots + ms ≤ R.slots) :
    vx_Run p l e R s m args below meth c H locs cells slots mc ms g rest (Qc As.toArray) XC free := by
  have hK : vx_Back l R p e below s args y 3 8 (PreOf R mc ms Pc) (PostOf Qc mc ms free) (vx_Post XC mc ms free) := vx_callBack cw.1 hM hp.1
  obtain ⟨⟨-, -, -, -, -, -, hcode, hini, hy, hlen, hl⟩, hstt⟩ := cw
  obtain ⟨hx, hb, hml, ho, -⟩ := S
  intro T hT X
  rcases vx_callS X hx (bytes := bytes) (maxL := maxL) (ret := ret) ho hl hstt hini hcode hy hK hg (hsize.trans hml.symm) (argsL := As) (rest := rest) (fun sig h => hn.trans (hlen sig h)) hstack hW (by rw [hb]; exact hdg)
    (fun vm₁ hW₁ => ⟨hf.1, hf.2, hp.2 (T.setVm vm₁) hT hW₁⟩) with ⟨v, vm₁, ⟨U', l2, c2, s2⟩, hW₁, X', ⟨g', mk, t, L, e1, e2, hq, h1, hL, h2, h3⟩, st⟩ | ⟨q, vm₁, ⟨U', l2, c2, s2⟩, hW₁, X', ⟨g', mk, t, L, E, ce, e1, e2, hq, hce, hcv, hcl, h1, hL, h2, h3⟩, st⟩
  · dsimp only [Pt.U, Pt.locs, Pt.cells, Pt.slots] at X' e1 e2 h1 h2 h3 st
    subst h1; subst h2; subst h3
    exact Or.inl ⟨v, (T.setVm vm₁).calling g' mk As.toArray, t, U', L, hT, X', hL, e1, e2, hq, st⟩
  · dsimp only [Pt.U, Pt.locs, Pt.cells, Pt.slots] at X' e1 e2 h1 h2 h3 st hcl
    subst h1; subst h2; subst h3
    exact Or.inr ⟨q, (T.setVm vm₁).calling g' mk As.toArray, t, U', L, E, ce, hT, X', hL, e1, e2, hq, hce, hcv, vx_cls hW₁ hcl, st⟩
end Runs
section Rows
variable {p : Program} {l : Launch} {e : Env} {R : Room} {s : State} {m : MethodId} {args : Array Value} {below : List Frame} {meth : Method} {c : Code} {H : Heap} {locs : List Loc} {cells slots : Nat} {Q : State → Prop}
variable {mc ms : Nat} {free : Addr → Prop} {A0 A1 : Nat → Prop} {H0 : Heap} {a : Array Value} {pc : Nat} {ls : Array Slot} {st0 rest : List Value}
theorem vx_keep {st₀ t T' : State} {L : List Loc} (h0 : st₀.heap = H) (e1 : T'.heap = t.heap) (hS : va_S A0 H0 H locs) (hA : ∀ q, q < H.size → A1 q → A0 q) (hf : ∀ q, free q → A0 q) (hL : ∀ q ∈ L, free q.base) (hF : va_F A1 st₀ t) :
    H.size ≤ T'.heap.size ∧ (∀ q : Nat, q < H.size → ¬ A1 q → T'.heap[q]? = H[q]?) ∧ va_S A0 H0 T'.heap (locs ++ L) := by
  obtain ⟨hz, hk⟩ := hF
  rw [h0] at hz hk
  exact ⟨by rw [e1]; exact hz, fun q h1 h2 => by rw [e1]; exact hk q h1 h2,
    ⟨Nat.le_trans hS.1 (by rw [e1]; exact hz), fun q h1 h2 => by rw [e1, hk q (Nat.lt_of_lt_of_le h1 hS.1) (fun z => h2 (hA q (Nat.lt_of_lt_of_le h1 hS.1) z))]; exact hS.2.1 q h1 h2, fun q hq => by
      rcases List.mem_append.mp hq with h | h
      · exact hS.2.2 q h
      · exact hf _ (hL q h)⟩⟩
theorem vx_calli {S SX : Type} {post : Int32 → S → Prop} {px : SX → Prop} {B : S → State → Prop} {BX : String → SX → State → Prop} {AX : Nat → Prop} (hr : vx_Run p l e R s m args below meth c H locs cells slots mc ms (F0 m pc ls st0) rest (va_Qi post B A1 a) (vx_X px BX AX) free) (hS : va_S A0 H0 H locs) (hA : ∀ q, q < H.size → A1 q → A0 q) (hf : ∀ q, free q → A0 q) (hAX : ∀ q, q < H.size → AX q → A0 q)
    (kx : ∀ (E : String) (ce : Cell) (q9 : Addr) (u : SX) (t : State) (H1 : Heap) (locs1 : List Loc), t.heap = H1 → s.vm.Alike t.vm → px u → BX E u t → H.size ≤ H1.size → (∀ q : Nat, q < H.size → ¬ AX q → H1[q]? = H[q]?) → va_S A0 H0 H1 locs1 → H1[q9]? = some ce → ce.vm = .none → s.vm.findClass E = some ce.cls → vx_W p l e R s m args below meth c H1 locs1 (cells + mc) (slots + ms) Q (F0 m pc ls rest) q9)
    (kk : ∀ (r : Int32) (u : S) (t : State) (H1 : Heap) (locs1 : List Loc), t.heap = H1 → s.vm.Alike t.vm → post r u → B u t → H.size ≤ H1.size → (∀ q : Nat, q < H.size → ¬ A1 q → H1[q]? = H[q]?) → va_S A0 H0 H1 locs1 → W p l e R s m args below meth c H1 locs1 (cells + mc) (slots + ms) Q (F0 m (pc + 3) ls (.int r :: rest))) : W p l e R s m args below meth c H locs cells slots Q (F0 m pc ls st0) := by
  intro T hT X
  rcases hr T hT X with ⟨v, st₀, t, T', L, h0, X', hL, e1, e2, ⟨⟨r, u, hv, hp, hb⟩, hF⟩, st⟩ | ⟨q, st₀, t, T', L, E, ce, h0, X', hL, e1, e2, ⟨u, hp, hb, hF⟩, hce, hcv, hcl, st⟩
  · cases hv
    obtain ⟨k1, k2, k3⟩ := vx_keep h0 e1 hS hA hf hL hF
    obtain ⟨t2, a1, b1⟩ := kk r u t T'.heap (locs ++ L) e1.symm (by rw [← e2]; exact X'.warmed.alike) hp hb k1 k2 k3 T' rfl X'
    exact ⟨t2, st t2 a1, b1⟩
  · obtain ⟨k1, k2, k3⟩ := vx_keep h0 e1 hS hAX hf hL hF
    obtain ⟨t2, a1, b1⟩ := kx E ce q u t T'.heap (locs ++ L) e1.symm (by rw [← e2]; exact X'.warmed.alike) hp hb k1 k2 k3 (by rw [e1]; exact hce) hcv hcl T' rfl X'
    exact ⟨t2, st.trans a1, b1⟩
theorem vx_calll {S SX : Type} {post : Int64 → S → Prop} {px : SX → Prop} {B : S → State → Prop} {BX : String → SX → State → Prop} {AX : Nat → Prop} (hr : vx_Run p l e R s m args below meth c H locs cells slots mc ms (F0 m pc ls st0) rest (va_Ql post B A1 a) (vx_X px BX AX) free) (hS : va_S A0 H0 H locs) (hA : ∀ q, q < H.size → A1 q → A0 q) (hf : ∀ q, free q → A0 q) (hAX : ∀ q, q < H.size → AX q → A0 q)
    (kx : ∀ (E : String) (ce : Cell) (q9 : Addr) (u : SX) (t : State) (H1 : Heap) (locs1 : List Loc), t.heap = H1 → s.vm.Alike t.vm → px u → BX E u t → H.size ≤ H1.size → (∀ q : Nat, q < H.size → ¬ AX q → H1[q]? = H[q]?) → va_S A0 H0 H1 locs1 → H1[q9]? = some ce → ce.vm = .none → s.vm.findClass E = some ce.cls → vx_W p l e R s m args below meth c H1 locs1 (cells + mc) (slots + ms) Q (F0 m pc ls rest) q9)
    (kk : ∀ (r : Int64) (u : S) (t : State) (H1 : Heap) (locs1 : List Loc), t.heap = H1 → s.vm.Alike t.vm → post r u → B u t → H.size ≤ H1.size → (∀ q : Nat, q < H.size → ¬ A1 q → H1[q]? = H[q]?) → va_S A0 H0 H1 locs1 → W p l e R s m args below meth c H1 locs1 (cells + mc) (slots + ms) Q (F0 m (pc + 3) ls (.long r :: rest))) : W p l e R s m args below meth c H locs cells slots Q (F0 m pc ls st0) := by
  intro T hT X
  rcases hr T hT X with ⟨v, st₀, t, T', L, h0, X', hL, e1, e2, ⟨⟨r, u, hv, hp, hb⟩, hF⟩, st⟩ | ⟨q, st₀, t, T', L, E, ce, h0, X', hL, e1, e2, ⟨u, hp, hb, hF⟩, hce, hcv, hcl, st⟩
  · cases hv
    obtain ⟨k1, k2, k3⟩ := vx_keep h0 e1 hS hA hf hL hF
    obtain ⟨t2, a1, b1⟩ := kk r u t T'.heap (locs ++ L) e1.symm (by rw [← e2]; exact X'.warmed.alike) hp hb k1 k2 k3 T' rfl X'
    exact ⟨t2, st t2 a1, b1⟩
  · obtain ⟨k1, k2, k3⟩ := vx_keep h0 e1 hS hAX hf hL hF
    obtain ⟨t2, a1, b1⟩ := kx E ce q u t T'.heap (locs ++ L) e1.symm (by rw [← e2]; exact X'.warmed.alike) hp hb k1 k2 k3 (by rw [e1]; exact hce) hcv hcl T' rfl X'
    exact ⟨t2, st.trans a1, b1⟩
theorem vx_callf {S SX : Type} {post : UInt32 → S → Prop} {px : SX → Prop} {B : S → State → Prop} {BX : String → SX → State → Prop} {AX : Nat → Prop} (hr : vx_Run p l e R s m args below meth c H locs cells slots mc ms (F0 m pc ls st0) rest (va_Qf post B A1 a) (vx_X px BX AX) free) (hS : va_S A0 H0 H locs) (hA : ∀ q, q < H.size → A1 q → A0 q) (hf : ∀ q, free q → A0 q) (hAX : ∀ q, q < H.size → AX q → A0 q)
    (kx : ∀ (E : String) (ce : Cell) (q9 : Addr) (u : SX) (t : State) (H1 : Heap) (locs1 : List Loc), t.heap = H1 → s.vm.Alike t.vm → px u → BX E u t → H.size ≤ H1.size → (∀ q : Nat, q < H.size → ¬ AX q → H1[q]? = H[q]?) → va_S A0 H0 H1 locs1 → H1[q9]? = some ce → ce.vm = .none → s.vm.findClass E = some ce.cls → vx_W p l e R s m args below meth c H1 locs1 (cells + mc) (slots + ms) Q (F0 m pc ls rest) q9)
    (kk : ∀ (r : UInt32) (u : S) (t : State) (H1 : Heap) (locs1 : List Loc), t.heap = H1 → s.vm.Alike t.vm → post r u → B u t → H.size ≤ H1.size → (∀ q : Nat, q < H.size → ¬ A1 q → H1[q]? = H[q]?) → va_S A0 H0 H1 locs1 → W p l e R s m args below meth c H1 locs1 (cells + mc) (slots + ms) Q (F0 m (pc + 3) ls (.float r :: rest))) : W p l e R s m args below meth c H locs cells slots Q (F0 m pc ls st0) := by
  intro T hT X
  rcases hr T hT X with ⟨v, st₀, t, T', L, h0, X', hL, e1, e2, ⟨⟨r, u, hv, hp, hb⟩, hF⟩, st⟩ | ⟨q, st₀, t, T', L, E, ce, h0, X', hL, e1, e2, ⟨u, hp, hb, hF⟩, hce, hcv, hcl, st⟩
  · cases hv
    obtain ⟨k1, k2, k3⟩ := vx_keep h0 e1 hS hA hf hL hF
    obtain ⟨t2, a1, b1⟩ := kk r u t T'.heap (locs ++ L) e1.symm (by rw [← e2]; exact X'.warmed.alike) hp hb k1 k2 k3 T' rfl X'
    exact ⟨t2, st t2 a1, b1⟩
  · obtain ⟨k1, k2, k3⟩ := vx_keep h0 e1 hS hAX hf hL hF
    obtain ⟨t2, a1, b1⟩ := kx E ce q u t T'.heap (locs ++ L) e1.symm (by rw [← e2]; exact X'.warmed.alike) hp hb k1 k2 k3 (by rw [e1]; exact hce) hcv hcl T' rfl X'
    exact ⟨t2, st.trans a1, b1⟩
theorem vx_calld {S SX : Type} {post : UInt64 → S → Prop} {px : SX → Prop} {B : S → State → Prop} {BX : String → SX → State → Prop} {AX : Nat → Prop} (hr : vx_Run p l e R s m args below meth c H locs cells slots mc ms (F0 m pc ls st0) rest (va_Qd post B A1 a) (vx_X px BX AX) free) (hS : va_S A0 H0 H locs) (hA : ∀ q, q < H.size → A1 q → A0 q) (hf : ∀ q, free q → A0 q) (hAX : ∀ q, q < H.size → AX q → A0 q)
    (kx : ∀ (E : String) (ce : Cell) (q9 : Addr) (u : SX) (t : State) (H1 : Heap) (locs1 : List Loc), t.heap = H1 → s.vm.Alike t.vm → px u → BX E u t → H.size ≤ H1.size → (∀ q : Nat, q < H.size → ¬ AX q → H1[q]? = H[q]?) → va_S A0 H0 H1 locs1 → H1[q9]? = some ce → ce.vm = .none → s.vm.findClass E = some ce.cls → vx_W p l e R s m args below meth c H1 locs1 (cells + mc) (slots + ms) Q (F0 m pc ls rest) q9)
    (kk : ∀ (r : UInt64) (u : S) (t : State) (H1 : Heap) (locs1 : List Loc), t.heap = H1 → s.vm.Alike t.vm → post r u → B u t → H.size ≤ H1.size → (∀ q : Nat, q < H.size → ¬ A1 q → H1[q]? = H[q]?) → va_S A0 H0 H1 locs1 → W p l e R s m args below meth c H1 locs1 (cells + mc) (slots + ms) Q (F0 m (pc + 3) ls (.double r :: rest))) : W p l e R s m args below meth c H locs cells slots Q (F0 m pc ls st0) := by
  intro T hT X
  rcases hr T hT X with ⟨v, st₀, t, T', L, h0, X', hL, e1, e2, ⟨⟨r, u, hv, hp, hb⟩, hF⟩, st⟩ | ⟨q, st₀, t, T', L, E, ce, h0, X', hL, e1, e2, ⟨u, hp, hb, hF⟩, hce, hcv, hcl, st⟩
  · cases hv
    obtain ⟨k1, k2, k3⟩ := vx_keep h0 e1 hS hA hf hL hF
    obtain ⟨t2, a1, b1⟩ := kk r u t T'.heap (locs ++ L) e1.symm (by rw [← e2]; exact X'.warmed.alike) hp hb k1 k2 k3 T' rfl X'
    exact ⟨t2, st t2 a1, b1⟩
  · obtain ⟨k1, k2, k3⟩ := vx_keep h0 e1 hS hAX hf hL hF
    obtain ⟨t2, a1, b1⟩ := kx E ce q u t T'.heap (locs ++ L) e1.symm (by rw [← e2]; exact X'.warmed.alike) hp hb k1 k2 k3 (by rw [e1]; exact hce) hcv hcl T' rfl X'
    exact ⟨t2, st.trans a1, b1⟩
theorem vx_callv {S SX : Type} {post : S → Prop} {px : SX → Prop} {B : S → State → Prop} {BX : String → SX → State → Prop} {AX : Nat → Prop} (hr : vx_Run p l e R s m args below meth c H locs cells slots mc ms (F0 m pc ls st0) rest (va_Qv post B A1 a) (vx_X px BX AX) free) (hS : va_S A0 H0 H locs) (hA : ∀ q, q < H.size → A1 q → A0 q) (hf : ∀ q, free q → A0 q) (hAX : ∀ q, q < H.size → AX q → A0 q)
    (kx : ∀ (E : String) (ce : Cell) (q9 : Addr) (u : SX) (t : State) (H1 : Heap) (locs1 : List Loc), t.heap = H1 → s.vm.Alike t.vm → px u → BX E u t → H.size ≤ H1.size → (∀ q : Nat, q < H.size → ¬ AX q → H1[q]? = H[q]?) → va_S A0 H0 H1 locs1 → H1[q9]? = some ce → ce.vm = .none → s.vm.findClass E = some ce.cls → vx_W p l e R s m args below meth c H1 locs1 (cells + mc) (slots + ms) Q (F0 m pc ls rest) q9)
    (kk : ∀ (u : S) (t : State) (H1 : Heap) (locs1 : List Loc), t.heap = H1 → s.vm.Alike t.vm → post u → B u t → H.size ≤ H1.size → (∀ q : Nat, q < H.size → ¬ A1 q → H1[q]? = H[q]?) → va_S A0 H0 H1 locs1 → W p l e R s m args below meth c H1 locs1 (cells + mc) (slots + ms) Q (F0 m (pc + 3) ls (rest))) : W p l e R s m args below meth c H locs cells slots Q (F0 m pc ls st0) := by
  intro T hT X
  rcases hr T hT X with ⟨v, st₀, t, T', L, h0, X', hL, e1, e2, ⟨⟨u, hv, hp, hb⟩, hF⟩, st⟩ | ⟨q, st₀, t, T', L, E, ce, h0, X', hL, e1, e2, ⟨u, hp, hb, hF⟩, hce, hcv, hcl, st⟩
  · cases hv
    obtain ⟨k1, k2, k3⟩ := vx_keep h0 e1 hS hA hf hL hF
    obtain ⟨t2, a1, b1⟩ := kk u t T'.heap (locs ++ L) e1.symm (by rw [← e2]; exact X'.warmed.alike) hp hb k1 k2 k3 T' rfl X'
    exact ⟨t2, st t2 a1, b1⟩
  · obtain ⟨k1, k2, k3⟩ := vx_keep h0 e1 hS hAX hf hL hF
    obtain ⟨t2, a1, b1⟩ := kx E ce q u t T'.heap (locs ++ L) e1.symm (by rw [← e2]; exact X'.warmed.alike) hp hb k1 k2 k3 (by rw [e1]; exact hce) hcv hcl T' rfl X'
    exact ⟨t2, st.trans a1, b1⟩
/-- caught by the row x of this method's table; the rows ahead don't take it -/
theorem vx_catch {own name : String} {E : String} {ce : Cell} {q : Addr} (hown : s.vm.findClass own = some m.cls) (pre : List ExceptionTableEntry) (x : ExceptionTableEntry) (suf : List ExceptionTableEntry) (hsplit : c.exceptionTable.toList = pre ++ x :: suf)
    (hpass : ∀ z ∈ pre, covers z pc = false ∨ (z.catchType ≠ 0 ∧ ∃ nm : String, (Cond.classLink own z.catchType nm).before args s = true ∧ va_Nc E nm s)) (hx : covers x pc = true) (h0 : x.catchType ≠ 0)
    (hlink : (Cond.classLink own x.catchType name).before args s = true) (hcast : (Cond.castable E name).before args s = true) (hcell : H[q]? = some ce) (hv : ce.vm = .none) (hcl : s.vm.findClass E = some ce.cls)
    (kk : W p l e R s m args below meth c H locs cells slots Q (F0 m x.handlerPc ls [.ref q])) : vx_W p l e R s m args below meth c H locs cells slots Q (F0 m pc ls rest) q := by
  intro T hT X
  have hpl : e.platform.magicAccessors = ({} : Platform).magicAccessors := by rw [X.admits.platform]
  obtain ⟨c3, c4, hc3, hc4, hasg⟩ := Cond.castable_spec hcast
  cases Option.some.inj (hc3.symm.trans hcl)
  obtain ⟨c5, hc5, hcl5⟩ := Cond.classLink_spec hown hlink e.platform hpl
  cases Option.some.inj (hc4.symm.trans hc5)
  obtain ⟨vm', X', st⟩ := X.thenCaughtThrough q (g := F0 m pc ls rest) rfl (Steps.refl _) (by rw [hT]; exact hcell) (by rw [hv]; rfl) (by obtain ⟨k9, h9, -⟩ := Vm.findClass_spec hcl; exact ⟨k9, h9⟩) pre x suf hsplit
    (fun z hz => by
      rcases hpass z hz with h | ⟨hz0, nm, hl1, hn1⟩
      · exact Or.inl h
      · obtain ⟨c6, hc6, hcl6⟩ := Cond.classLink_spec hown hl1 e.platform hpl
        obtain ⟨a8, b8, h1, h2, h3⟩ := hn1
        cases Option.some.inj (h1.symm.trans hcl)
        cases Option.some.inj (h2.symm.trans hc6)
        exact Or.inr ⟨hz0, _, hcl6, h3⟩) hx (Or.inr ⟨h0, c4, hcl5, hasg⟩)
  obtain ⟨t, a1, b1⟩ := kk (T.setVm vm') hT X'
  exact ⟨t, st.trans a1, b1⟩
end Rows
section Ends
variable {p : Program} {l : Launch} {e : Env} {R : Room} {s : State} {m : MethodId} {args : Array Value} {below : List Frame} {meth : Method} {c : Code} {H : Heap} {locs : List Loc} {cells slots : Nat} {Q : State → Prop}
variable {mc ms : Nat} {free : Addr → Prop} {A0 A1 : Nat → Prop} {H0 : Heap} {a : Array Value} {ls : Array Slot} {st0 rest : List Value}
variable {Qc : Array Value → State → Outcome → State → Prop} {XC : String → State → State → Prop}
/-- what a body that may throw owes at its end -/
def vx_MQ (below : List Frame) (Qc : Array Value → State → Outcome → State → Prop) (XC : String → State → State → Prop) (a : Array Value) (s : State) (mc ms : Nat) (free : Addr → Prop) : State → Prop := fun t =>
  ∃ o, t.status = .running ∧ Ended t below o ∧ vx_Q Qc XC mc ms free a s o t
theorem vx_ret {g : JFrame} {mc ms : Nat} (k : W p l e R s m args below meth c H locs cells slots (MQ below Qc args s mc ms free) g) : W p l e R s m args below meth c H locs cells slots (vx_MQ below Qc XC args s mc ms free) g := by
  intro T hT X
  obtain ⟨t, a1, o, b1, b2, b3, b4⟩ := k T hT X
  exact ⟨t, a1, o, b1, b2, Or.inl ⟨b3, b4⟩⟩
/-- not caught here: it goes on to the caller -/
theorem vx_widen {g : JFrame} {q : Addr} {k n : Nat} (h1 : cells ≤ k) (h2 : slots ≤ n) (kk : vx_W p l e R s m args below meth c H locs k n Q g q) : vx_W p l e R s m args below meth c H locs cells slots Q g q := fun T hT X => kk T hT (stand_widen X h1 h2)
theorem vx_out {pc : Nat} {E : String} {ce : Cell} {q : Addr} {mc ms : Nat} (hout : ∀ x ∈ c.exceptionTable.toList, covers x pc = false) (hlocks : meth.locks = false) (hcell : H[q]? = some ce) (hv : ce.vm = .none) (hcl : s.vm.findClass E = some ce.cls)
    (hx : ∀ t : State, t.heap = H → s.vm.Alike t.vm → XC E s t) (hf : ∀ z ∈ locs, free z.base) (hc : cells ≤ mc) (hs : slots ≤ ms) :
    vx_W p l e R s m args below meth c H locs cells slots (vx_MQ below Qc XC args s mc ms free) (F0 m pc ls rest) q := by
  intro T hT X
  obtain ⟨st1, hrun, hend, hW, hsm⟩ := X.leaveThrown q (g := F0 m pc ls rest) rfl rfl rfl hout hlocks
  have hcell9 : (T.setFrames (.throwing q :: below)).heap[q]? = some ce := by
    show T.heap[q]? = some ce
    rw [hT]; exact hcell
  exact ⟨_, st1, .threw q, hrun, hend, Or.inr ⟨q, rfl, E, ce, locs, hx _ hT hW.alike, hcell9, hv, hcl, hW, hsm.mono hc hs, hf⟩⟩
theorem vx_frame {U : State} {k n : Nat} (h : s.sameButNew ({ U with vm := s.vm } : State) locs k n) : s.heap.size ≤ U.heap.size ∧ ∀ q : Nat, q < s.heap.size → (∀ z ∈ locs, z.base ≠ q) → U.heap[q]? = s.heap[q]? := by
  obtain ⟨-, h2, -, -, -, h6⟩ := h
  refine ⟨h2, fun q hq hz => ?_⟩
  obtain ⟨c9, e1, e2, e3, e4⟩ := h6 q _ (Array.getElem?_eq_getElem hq)
  have hs : c9.slots = (s.heap[q]).slots := Array.ext_getElem? fun i => e4 i fun hm => hz _ hm rfl
  have h9 : c9 = s.heap[q] := by
    rw [hs] at e2
    exact e2
  have e5 : U.heap[q]? = some c9 := e1
  rw [e5, h9, Array.getElem?_eq_getElem hq]
/-- the words of a throw but the four that speak of the heap -/
def vx_no (w : Cond) : Bool := decide (w ≠ .isRef (.static Bundle.tN "UNASSIGNED_STACK" Bundle.steD)) && decide (w ≠ .isRef (.static Bundle.tN "SUPPRESSED_SENTINEL" Bundle.listD)) && decide (w ≠ .laysStatic Bundle.tN "UNASSIGNED_STACK" Bundle.steD) && decide (w ≠ .laysStatic Bundle.tN "SUPPRESSED_SENTINEL" Bundle.listD)
def vx_at0 (own : String) (ic : Nat) (X : String) (names : List String) : List Cond := (Bundle.ownAtoms0 own ic X names).filter vx_no
def vx_atS (own : String) (ic : Nat) (X : String) (names : List String) : List Cond := (Bundle.ownAtoms own ic X names).filter vx_no
/-- a word that the tables alone decide, or a good one -/
def vx_ot (w : Cond) : Bool := w.onTables || goodWord w
theorem vx_ot_at {args a' : Array Value} {s U : State} {w : Cond} (hW : s.WarmedH U.vm) (hvm : s.vm = U.vm) (hg : vx_ot w = true) (h : w.before args s = true) : w.before a' U = true := by
  simp only [vx_ot, Bool.or_eq_true] at hg
  rcases hg with hg | hg
  · exact va_tabs hg hvm h
  · exact word_at hW (good_of_word hg) h
/-- a list's words: the good ones out of the method's own list, the others by premises of their own -/
theorem vx_hat {args : Array Value} {s : State} {L B : List Cond} (h1 : ∀ w ∈ L.filter goodWord, w.before args s = true) (h2 : ∀ w ∈ L.filter (fun w => !goodWord w), w ∈ B) (h3 : ∀ w ∈ B, w.before args s = true) : ∀ w ∈ L, w.before args s = true := by
  intro w hw
  by_cases g : goodWord w = true
  · exact h1 w (List.mem_filter.mpr ⟨hw, g⟩)
  · refine h3 w (h2 w (List.mem_filter.mpr ⟨hw, ?_⟩))
    show (!goodWord w) = true
    cases hgw : goodWord w
    · rfl
    · exact absurd hgw g
theorem vx_c {args : Array Value} {s : State} {w : Cond} {B : List Cond} (h : w.before args s = true) (t : ∀ w ∈ B, w.before args s = true) : ∀ w' ∈ w :: B, w'.before args s = true := fun w' h' => (List.mem_cons.mp h').elim (fun e => by rw [e]; exact h) (t w')
theorem vx_n {args : Array Value} {s : State} : ∀ w ∈ ([] : List Cond), w.before args s = true := fun _ h => nomatch h
theorem vx_own {args : Array Value} {s : State} {L : List Cond} (h1 : ∀ w ∈ L.filter vx_no, w.before args s = true)
    (hU : (Cond.isRef (.static Bundle.tN "UNASSIGNED_STACK" Bundle.steD)).before args s = true) (hN : (Cond.isRef (.static Bundle.tN "SUPPRESSED_SENTINEL" Bundle.listD)).before args s = true)
    (lU : (Cond.laysStatic Bundle.tN "UNASSIGNED_STACK" Bundle.steD).before args s = true) (lN : (Cond.laysStatic Bundle.tN "SUPPRESSED_SENTINEL" Bundle.listD).before args s = true) : ∀ w ∈ L, w.before args s = true := by
  intro w hw
  by_cases e1 : w = .isRef (.static Bundle.tN "UNASSIGNED_STACK" Bundle.steD)
  · rw [e1]; exact hU
  · by_cases e2 : w = .isRef (.static Bundle.tN "SUPPRESSED_SENTINEL" Bundle.listD)
    · rw [e2]; exact hN
    · by_cases e3 : w = .laysStatic Bundle.tN "UNASSIGNED_STACK" Bundle.steD
      · rw [e3]; exact lU
      · by_cases e4 : w = .laysStatic Bundle.tN "SUPPRESSED_SENTINEL" Bundle.listD
        · rw [e4]; exact lN
        · exact h1 w (List.mem_filter.mpr ⟨hw, by unfold vx_no; rw [decide_eq_true e1, decide_eq_true e2, decide_eq_true e3, decide_eq_true e4]; rfl⟩)
/-- where a static field lies, its class's statics cell in H -/
def vx_L (C n d : String) (A : Nat → Prop) (U : State) (H : Heap) : Prop := ∃ (c : ClassId) (k : Class) (i : Nat) (f : Field) (a : Nat) (cell : Cell), U.vm.findClass C = some c ∧ U.fieldFound? C n d = some (c, k, i, f) ∧ f.isStatic = true ∧ k.statics = some a ∧ H[a]? = some cell ∧ cell.vm.isStatics = true ∧ cell.cls = c ∧ f.slot < cell.slots.size ∧ k.staticTypes[f.slot]? = some f.type ∧ ¬ A a
theorem vx_L.moved {C n d : String} {A : Nat → Prop} {u U : State} {H : Heap} (hvm : u.vm.Alike U.vm) (h : vx_L C n d A u H) : vx_L C n d A U H := by
  obtain ⟨c, k, i, f, a, cell, h1, h2, h3, h4, h5, h6, h7, h8, h9, h10⟩ := h
  obtain ⟨k', hi', he⟩ := State.fieldFound?_setVm hvm h2
  exact ⟨c, k', i, f, a, cell, by rw [hvm.findClass]; exact h1, hi', h3, by rw [he]; exact h4, h5, h6, h7, h8, by rw [he]; exact h9, h10⟩
theorem vx_L.kept {C n d : String} {A : Nat → Prop} {U : State} {H H1 : Heap} (h : vx_L C n d A U H) (hq : ∀ a : Nat, a < H.size → ¬ A a → H1[a]? = H[a]?) : vx_L C n d A U H1 := by
  obtain ⟨c, k, i, f, a, cell, h1, h2, h3, h4, h5, h6, h7, h8, h9, h10⟩ := h
  exact ⟨c, k, i, f, a, cell, h1, h2, h3, h4, by rw [hq a (Array.getElem?_eq_some_iff.mp h5).1 h10]; exact h5, h6, h7, h8, h9, h10⟩
theorem vx_L.narrow {C n d : String} {A B : Nat → Prop} {U : State} {H : Heap} (h : vx_L C n d A U H) (hAB : ∀ q, B q → A q) : vx_L C n d B U H := by
  obtain ⟨c, k, i, f, a, cell, h1, h2, h3, h4, h5, h6, h7, h8, h9, h10⟩ := h
  exact ⟨c, k, i, f, a, cell, h1, h2, h3, h4, h5, h6, h7, h8, h9, fun z => h10 (hAB _ z)⟩
theorem vx_L.word {C n d : String} {A : Nat → Prop} {s : State} {args : Array Value} (h : vx_L C n d A s s.heap) : (Cond.laysStatic C n d).before args s = true := by
  obtain ⟨c, k, i, f, a, cell, h1, h2, h3, h4, h5, h6, h7, h8, h9, -⟩ := h
  show (Cond.laysStatic C n d).holds args s none s [] = true
  exact Cond.laysStatic_of h1 h2 h3 h4 h5 h6 h7 h8 h9
/-- .. and what it holds: null or some reference -/
def vx_Zq (C n d : String) (A : Nat → Prop) (U : State) (H : Heap) : Prop := va_Zq C n d A U H ∧ vx_L C n d A U H
theorem vx_Zq.moved {C n d : String} {A : Nat → Prop} {u U : State} {H : Heap} (hvm : u.vm.Alike U.vm) (h : vx_Zq C n d A u H) : vx_Zq C n d A U H := ⟨va_Zq.moved hvm h.1, vx_L.moved hvm h.2⟩
theorem vx_Zq.kept {C n d : String} {A : Nat → Prop} {U : State} {H H1 : Heap} (h : vx_Zq C n d A U H) (hq : ∀ a : Nat, a < H.size → ¬ A a → H1[a]? = H[a]?) : vx_Zq C n d A U H1 := ⟨va_Zq.kept h.1 hq, vx_L.kept h.2 hq⟩
theorem vx_Zq.narrow {C n d : String} {A B : Nat → Prop} {U : State} {H : Heap} (h : vx_Zq C n d A U H) (hAB : ∀ q, B q → A q) : vx_Zq C n d B U H := ⟨va_Zq.narrow h.1 hAB, vx_L.narrow h.2 hAB⟩
theorem vx_Zqof {args : Array Value} {s : State} {C n d : String} {A : Nat → Prop} (hl : (Cond.laysStatic C n d).before args s = true) (hini : (Cond.initialized C).before args s = true) (h : (Cond.isRef (.static C n d)).before args s = true) (hA : ∀ a : Nat, a < s.heap.size → ¬ A a) : vx_Zq C n d A s s.heap := by
  refine ⟨va_Zqof hl hini h hA, ?_⟩
  obtain ⟨c, k, i, f, a, cell, h1, h2, h3, h4, h5, h6, h7, h8, h9⟩ := Cond.laysStatic_spec hl
  exact ⟨c, k, i, f, a, cell, h1, h2, h3, h4, h5, h6, h7, h8, h9, hA a (Array.getElem?_eq_some_iff.mp h5).1⟩
theorem vx_isRef {C n d : String} {v : Value} {A : Nat → Prop} {s : State} {args : Array Value} (h : va_Z C n d v A s s.heap) (hv : v.isRef = true) : (Cond.isRef (.static C n d)).before args s = true := by
  obtain ⟨cf, kf, fi, f, a, cell, h1, h2, h3, h4, h5, h6, h7, -⟩ := h
  have he : (Term.static C n d).eval args s none [] s = some v := by
    simp [Term.eval, State.fieldNamed?, h1, h2, h4, h5, h6, h7]
  simp only [Cond.before, Cond.holds, Cond.value, he]
  cases v <;> simp_all [Value.isRef]
theorem vx_isRefq {C n d : String} {A : Nat → Prop} {s : State} {args : Array Value} (h : va_Zq C n d A s s.heap) : (Cond.isRef (.static C n d)).before args s = true := by
  rcases h with h | ⟨t, h⟩
  · exact vx_isRef h rfl
  · exact vx_isRef h rfl
/-- the same frame, seen from here: as if the method were called anew in this heap -/
theorem vx_rebase {T : State} (X : Stand p l e R s m args below meth c T locs cells slots) {R' : Room} (hf : R'.frames ≤ R.frames) (hl : R'.locals ≤ R.locals) (hc : cells + R'.cells ≤ R.cells) (hs : slots + R'.slots ≤ R.slots) :
    Stand p l e R' ((T.setVm s.vm).setFrames (.invoking m args :: below)) m args below meth c T [] 0 0 := by
  have htop : (T.setVm s.vm).topJava?.isSome := X.here.top
  have hF : ((T.setVm s.vm).setFrames (.invoking m args :: below)).frames = .invoking m args :: below := State.frames_setFrames _ (State.cur_lt_of_top htop)
  obtain ⟨g₀, hg0⟩ := Option.isSome_iff_exists.mp htop
  obtain ⟨r, hr⟩ := State.topJava?_eq_some.mp hg0
  have hl9 : e.platform.stackLimits (T.setVm s.vm).me = e.platform.stackLimits s.me := X.limits
  have hb9 : (T.setVm s.vm).me.stackBytes = s.me.stackBytes := X.bytes
  refine ⟨X.admits, X.cas, X.clock, hF, ?_, X.hears, X.method, X.code, X.here, X.tail, X.warmed, ?_, ?_, ?_⟩
  · have h := X.room
    have hU : ((T.setVm s.vm).setFrames (.invoking m args :: below)).localsInUse = s.localsInUse := by
      rw [State.localsInUse_invoking hF (meth := meth) (c := c) X.method X.code, State.localsInUse_invoking X.frames X.method X.code]
    simp only [State.hasRoom, Bool.and_eq_true, decide_eq_true_eq] at h ⊢
    obtain ⟨⟨⟨⟨h1, h2, h3, h4, h5, h6⟩, h7⟩, h8⟩, h9⟩ := h
    rw [X.frames, List.length_cons] at h2 h3
    have q1 := X.heapSize
    have q2 := X.used
    simp only [hF, hU, List.length_cons, State.stackLimits_setFrames, State.stackBytes_setFrames, hl9, hb9]
    refine ⟨⟨⟨⟨by omega, by omega, by omega, by omega, by omega, h6⟩, ?_⟩, ?_⟩, X.book⟩
    · show T.heap.size + R'.cells ≤ e.platform.maxCells
      omega
    · show T.slotsUsed + R'.slots ≤ e.platform.maxSlots
      omega
  · rw [State.stackLimits_setFrames]; rfl
  · rw [State.stackBytes_setFrames]; rfl
  · refine ⟨?_, Nat.le_refl _, Nat.le_refl _, ?_, ?_, fun a c9 h9 => ⟨c9, h9, rfl, rfl, fun _ _ => rfl⟩⟩
    · obtain ⟨t, ht, -⟩ := State.frames_cons hr
      show T.setVm s.vm = { ((T.setVm s.vm).setFrames (.invoking m args :: below)).setFrames (T.setVm s.vm).frames with heap := T.heap, slotsUsed := T.slotsUsed }
      rw [State.setFrames_setFrames, State.setFrames_self ht]
      rfl
    · show T.slotsUsed = T.slotsUsed + ((T.heap.toList.drop T.heap.size).map (·.slots.size)).sum
      rw [List.drop_eq_nil_of_le (Nat.le_of_eq Array.length_toList)]
      rfl
    · show ((T.heap.toList.drop T.heap.size).map (·.slots.size)).sum ≤ 0
      rw [List.drop_eq_nil_of_le (Nat.le_of_eq Array.length_toList)]
      exact Nat.le_refl _
/-- 'throw new E()': new; dup; invokespecial; athrow -/
theorem vx_throw0 {cc : ByteArray} {pc : Nat} (hexec : p.tables.exec = Jvm.exec) (hb : c.code = cc) (hl : l.stackTraces = false) {own cls : String} {names : List String} {ik ic mc ms : Nat} {A : Nat → Prop}
    (hown : s.vm.findClass own = some m.cls) (hcls : Bundle.fit cls = true) (hnames : ∀ n ∈ names, Bundle.fit n = true)
    (hk : (Cond.classLink own ik cls).before args s = true) (hini : (Cond.initialized cls).before args s = true) (hat : ∀ w ∈ vx_at0 own ic cls names, w.before args s = true)
    (hgood : ∀ w ∈ Cond.classLink own ik cls :: Cond.initialized cls :: vx_at0 own ic cls names, vx_ot w = true)
    (hU : vx_Zq Bundle.tN "UNASSIGNED_STACK" Bundle.steD A s s.heap) (hN : vx_Zq Bundle.tN "SUPPRESSED_SENTINEL" Bundle.listD A s s.heap) (hS : va_S A s.heap H locs) (hsize : ls.size = c.maxLocals)
    (d0 : decode cc pc = .ok (.new ik, 3)) (d3 : decode cc (pc + 3) = .ok (.dup, 1)) (d4 : decode cc (pc + 4) = .ok (.invokespecial ic, 3)) (d7 : decode cc (pc + 7) = .ok (.athrow, 1))
    (hout : ∀ x ∈ c.exceptionTable.toList, covers x (pc + 7) = false)
    (hRframes : names.length + 3 < R.frames) (hRlocals : (rest.map fun v => v.category).sum + (13 * (names.length + 1) + 42) ≤ R.locals) (hRcells : cells + 1 ≤ R.cells) (hRslots : slots + 6 ≤ R.slots) (hlocks : meth.locks = false)
    (hx : ∀ t : State, s.vm.Alike t.vm → H.size ≤ t.heap.size → (∀ q : Nat, q < H.size → t.heap[q]? = H[q]?) → XC cls s t)
    (hf : ∀ z ∈ locs, free z.base) (hc : cells + 1 ≤ mc) (hs : slots + 6 ≤ ms) :
    W p l e R s m args below meth c H locs cells slots (vx_MQ below Qc XC args s mc ms free) (F0 m pc ls rest) := by
  intro T hT X
  have htr : e.platform.stackTraces = false := (show e.platform.stackTraces = l.stackTraces by rw [X.admits.platform]).trans hl
  have Y := vx_rebase X (R' := { frames := R.frames, locals := R.locals, cells := 1, slots := 6 }) (Nat.le_refl _) (Nat.le_refl _) hRcells hRslots
  obtain ⟨s', hA⟩ : ∃ z, z = (T.setVm s.vm).setFrames (.invoking m args :: below) := ⟨_, rfl⟩
  rw [← hA] at Y
  have hvm : s'.vm = s.vm := by rw [hA]; rfl
  have hhp : s'.heap = H := by rw [hA]; exact hT
  have hW0 : s.WarmedH s'.vm := by rw [hvm]; exact State.WarmedH.refl s
  have hat' : ∀ w ∈ vx_at0 own ic cls names, w.before args s' = true := fun w hw => vx_ot_at hW0 hvm.symm (hgood w (List.mem_cons_of_mem _ (List.mem_cons_of_mem _ hw))) (hat w hw)
  have hk' : (Cond.classLink own ik cls).before args s' = true := vx_ot_at hW0 hvm.symm (hgood _ List.mem_cons_self) hk
  have hini' : (Cond.initialized cls).before args s' = true := vx_ot_at hW0 hvm.symm (hgood _ (List.mem_cons_of_mem _ List.mem_cons_self)) hini
  have hU' : vx_Zq Bundle.tN "UNASSIGNED_STACK" Bundle.steD A s' s'.heap := by rw [hhp]; exact vx_Zq.moved hW0.alike (hU.kept hS.2.1)
  have hN' : vx_Zq Bundle.tN "SUPPRESSED_SENTINEL" Bundle.listD A s' s'.heap := by rw [hhp]; exact vx_Zq.moved hW0.alike (hN.kept hS.2.1)
  have h : ∀ w ∈ Bundle.ownAtoms0 own ic cls names, w.before args s' = true := vx_own hat' (vx_isRefq hU'.1) (vx_isRefq hN'.1) hU'.2.word hN'.2.word
  have hown' : s'.vm.findClass own = some m.cls := by rw [hvm]; exact hown
  have hins : (Cond.instantiable cls 6).before args s' = true := h _ (by simp [Bundle.ownAtoms0])
  obtain ⟨vm₁, cX, kX, hfX, hkX, -, -, X₁, st1⟩ := Y.newCold hexec (own := own) (C := cls) (index := ik) (n := 6) hown' hk' hins hini'
    (g := F0 m pc ls rest) rfl (by rw [hb]; exact d0) (Nat.le_refl _) (Nat.le_refl _)
  generalize hT1 : (T.setVm vm₁).pushCell { cls := cX, slots := kX.instanceTypes.map defaultValue, vm := .none } = T1 at X₁ st1
  have hcat : (Value.ref T.heap.size).category = 1 := rfl
  have hcellA : T1.heap[T.heap.size]? = some (freshCell cX kX) := by rw [← hT1]; exact State.heap_pushCell_size _ _
  have d3' : decode c.code (pc + 3) = .ok (.dup, 1) := by rw [hb]; exact d3
  obtain ⟨U, hsteps, hrun, hend, hW, hsame, ce, hce, hO⟩ := X₁.ctorThrow0 hexec htr (own := own) (cls := cls) (names := names) (ic := ic) hown' hcls hnames h (fun x hx => nomatch hx) hfX hkX hcellA (by rw [hhp, hT]; exact Nat.le_refl _)
    (g := { method := m, pc := pc + 4, locals := ls, stack := .ref T.heap.size :: .ref T.heap.size :: rest, locked := none }) rfl hsize rfl rfl (rest := rest) rfl
    (by rw [hb]; exact d4) (by rw [hb]; exact d7) hout hRframes (by simp only [List.map_cons, List.sum_cons, hcat]; omega) hlocks
  obtain ⟨f1, f2⟩ := vx_frame hsame
  rw [hhp] at f1 f2
  have hWs : s.WarmedH U.vm := State.WarmedH.trans hW0 hW
  have hcl : s.vm.findClass cls = some ce.cls := by
    have h9 := hO.cls
    rw [hvm] at h9
    exact h9
  have hall : s.sameButNew ({ U with vm := s.vm } : State) locs mc ms := by
    subst hA
    obtain ⟨e1, e2⟩ := hsame
    rw [State.setFrames_setFrames] at e1
    have h2 : (T.setVm s.vm).sameButNew ({ U with vm := s.vm } : State) [] (0 + 1) (0 + 6) := ⟨e1, e2⟩
    have h3 := X.same.trans h2
    rw [List.append_nil] at h3
    exact h3.mono hc hs
  refine ⟨U, ?_, .threw T.heap.size, hrun, hend, Or.inr ⟨T.heap.size, rfl, cls, ce, locs, hx U hWs.alike f1 (fun q hq => f2 q hq (fun z hz => nomatch hz)), hce, hO.vm, hcl, hWs, hall, hf⟩⟩
  refine st1 _ ?_
  show Steps p.tables e below (T1.setTop { method := m, pc := pc + 3, locals := ls, stack := .ref T.heap.size :: rest, locked := none }) _
  jvm_step X₁.here [X₁.here.top, hexec, d3', Value.category]
  exact hsteps
/-- 'throw new E("text")': new; dup; ldc; invokespecial; athrow -/
theorem vx_throwS {cc : ByteArray} {pc : Nat} (hexec : p.tables.exec = Jvm.exec) (hb : c.code = cc) (hl : l.stackTraces = false) {own cls text : String} {names : List String} {ik is ic mc ms sa : Nat} {A : Nat → Prop}
    (hown : s.vm.findClass own = some m.cls) (hcls : Bundle.fit cls = true) (hnames : ∀ n ∈ names, Bundle.fit n = true)
    (hk : (Cond.classLink own ik cls).before args s = true) (hini : (Cond.initialized cls).before args s = true) (hstr : vk_R own is text sa s) (hat : ∀ w ∈ vx_atS own ic cls names, w.before args s = true)
    (hgood : ∀ w ∈ Cond.classLink own ik cls :: Cond.initialized cls :: vx_atS own ic cls names, vx_ot w = true)
    (hU : vx_Zq Bundle.tN "UNASSIGNED_STACK" Bundle.steD A s s.heap) (hN : vx_Zq Bundle.tN "SUPPRESSED_SENTINEL" Bundle.listD A s s.heap) (hS : va_S A s.heap H locs) (hsize : ls.size = c.maxLocals)
    (d0 : decode cc pc = .ok (.new ik, 3)) (d3 : decode cc (pc + 3) = .ok (.dup, 1)) (d4 : decode cc (pc + 4) = .ok (.ldc is, 2)) (d6 : decode cc (pc + 6) = .ok (.invokespecial ic, 3)) (d9 : decode cc (pc + 9) = .ok (.athrow, 1))
    (hout : ∀ x ∈ c.exceptionTable.toList, covers x (pc + 9) = false)
    (hRframes : names.length + 3 < R.frames) (hRlocals : (rest.map fun v => v.category).sum + (13 * (names.length + 1) + 43) ≤ R.locals) (hRcells : cells + 1 ≤ R.cells) (hRslots : slots + 6 ≤ R.slots) (hlocks : meth.locks = false)
    (hx : ∀ t : State, s.vm.Alike t.vm → H.size ≤ t.heap.size → (∀ q : Nat, q < H.size → t.heap[q]? = H[q]?) → XC cls s t)
    (hf : ∀ z ∈ locs, free z.base) (hc : cells + 1 ≤ mc) (hs : slots + 6 ≤ ms) :
    W p l e R s m args below meth c H locs cells slots (vx_MQ below Qc XC args s mc ms free) (F0 m pc ls rest) := by
  intro T hT X
  have htr : e.platform.stackTraces = false := (show e.platform.stackTraces = l.stackTraces by rw [X.admits.platform]).trans hl
  have Y := vx_rebase X (R' := { frames := R.frames, locals := R.locals, cells := 1, slots := 6 }) (Nat.le_refl _) (Nat.le_refl _) hRcells hRslots
  obtain ⟨s', hA⟩ : ∃ z, z = (T.setVm s.vm).setFrames (.invoking m args :: below) := ⟨_, rfl⟩
  rw [← hA] at Y
  have hvm : s'.vm = s.vm := by rw [hA]; rfl
  have hhp : s'.heap = H := by rw [hA]; exact hT
  have hW0 : s.WarmedH s'.vm := by rw [hvm]; exact State.WarmedH.refl s
  have hat' : ∀ w ∈ vx_atS own ic cls names, w.before args s' = true := fun w hw => vx_ot_at hW0 hvm.symm (hgood w (List.mem_cons_of_mem _ (List.mem_cons_of_mem _ hw))) (hat w hw)
  have hk' : (Cond.classLink own ik cls).before args s' = true := vx_ot_at hW0 hvm.symm (hgood _ List.mem_cons_self) hk
  have hini' : (Cond.initialized cls).before args s' = true := vx_ot_at hW0 hvm.symm (hgood _ (List.mem_cons_of_mem _ List.mem_cons_self)) hini
  have hU' : vx_Zq Bundle.tN "UNASSIGNED_STACK" Bundle.steD A s' s'.heap := by rw [hhp]; exact vx_Zq.moved hW0.alike (hU.kept hS.2.1)
  have hN' : vx_Zq Bundle.tN "SUPPRESSED_SENTINEL" Bundle.listD A s' s'.heap := by rw [hhp]; exact vx_Zq.moved hW0.alike (hN.kept hS.2.1)
  have h : ∀ w ∈ Bundle.ownAtoms own ic cls names, w.before args s' = true := vx_own hat' (vx_isRefq hU'.1) (vx_isRefq hN'.1) hU'.2.word hN'.2.word
  have hown' : s'.vm.findClass own = some m.cls := by rw [hvm]; exact hown
  have hins : (Cond.instantiable cls 6).before args s' = true := h _ (by simp [Bundle.ownAtoms])
  obtain ⟨vm₁, cX, kX, hfX, hkX, -, -, X₁, st1⟩ := Y.newCold hexec (own := own) (C := cls) (index := ik) (n := 6) hown' hk' hins hini'
    (g := F0 m pc ls rest) rfl (by rw [hb]; exact d0) (Nat.le_refl _) (Nat.le_refl _)
  generalize hT1 : (T.setVm vm₁).pushCell { cls := cX, slots := kX.instanceTypes.map defaultValue, vm := .none } = T1 at X₁ st1
  have hcat : (Value.ref T.heap.size).category = 1 := rfl
  have hcellA : T1.heap[T.heap.size]? = some (freshCell cX kX) := by rw [← hT1]; exact State.heap_pushCell_size _ _
  have d3' : decode c.code (pc + 3) = .ok (.dup, 1) := by rw [hb]; exact d3
  have d4' : decode c.code (pc + 4) = .ok (.ldc is, 2) := by rw [hb]; exact d4
  have hstr' : vk_R own is text sa s' := vk_R.warm hW0 hstr
  obtain ⟨U, hsteps, hrun, hend, hW, hsame, ce, hce, hO⟩ := X₁.ctorThrowS hexec htr (own := own) (cls := cls) (names := names) (ic := ic) hown' hcls hnames h (fun x hx => nomatch hx) hfX hkX hcellA (by rw [hhp, hT]; exact Nat.le_refl _) (msg := .ref sa) rfl
    (g := { method := m, pc := pc + 6, locals := ls, stack := .ref sa :: .ref T.heap.size :: .ref T.heap.size :: rest, locked := none }) rfl hsize rfl rfl (rest := rest) rfl
    (by rw [hb]; exact d6) (by rw [hb]; exact d9) hout hRframes (by simp only [List.map_cons, List.sum_cons, hcat]; omega) hlocks
  obtain ⟨f1, f2⟩ := vx_frame hsame
  rw [hhp] at f1 f2
  have hWs : s.WarmedH U.vm := State.WarmedH.trans hW0 hW
  have hcl : s.vm.findClass cls = some ce.cls := by
    have h9 := hO.cls
    rw [hvm] at h9
    exact h9
  have hall : s.sameButNew ({ U with vm := s.vm } : State) locs mc ms := by
    subst hA
    obtain ⟨e1, e2⟩ := hsame
    rw [State.setFrames_setFrames] at e1
    have h2 : (T.setVm s.vm).sameButNew ({ U with vm := s.vm } : State) [] (0 + 1) (0 + 6) := ⟨e1, e2⟩
    have h3 := X.same.trans h2
    rw [List.append_nil] at h3
    exact h3.mono hc hs
  refine ⟨U, ?_, .threw T.heap.size, hrun, hend, Or.inr ⟨T.heap.size, rfl, cls, ce, locs, hx U hWs.alike f1 (fun q hq => f2 q hq (fun z hz => nomatch hz)), hce, hO.vm, hcl, hWs, hall, hf⟩⟩
  refine st1 _ ?_
  show Steps p.tables e below (T1.setTop { method := m, pc := pc + 3, locals := ls, stack := .ref T.heap.size :: rest, locked := none }) _
  jvm_step X₁.here [X₁.here.top, hexec, d3', Value.category]
  exact X₁.ldcString hexec (own := own) (text := text) (index := is) (a := sa) hown' hstr'.1 hstr'.2
    (g := { method := m, pc := pc + 4, locals := ls, stack := .ref T.heap.size :: .ref T.heap.size :: rest, locked := none }) rfl d4' _ hsteps
/-- 'throw new E("text")', the text by a wide index -/
theorem vx_throwSW {cc : ByteArray} {pc : Nat} (hexec : p.tables.exec = Jvm.exec) (hb : c.code = cc) (hl : l.stackTraces = false) {own cls text : String} {names : List String} {ik is ic mc ms sa : Nat} {A : Nat → Prop}
    (hown : s.vm.findClass own = some m.cls) (hcls : Bundle.fit cls = true) (hnames : ∀ n ∈ names, Bundle.fit n = true)
    (hk : (Cond.classLink own ik cls).before args s = true) (hini : (Cond.initialized cls).before args s = true) (hstr : vk_R own is text sa s) (hat : ∀ w ∈ vx_atS own ic cls names, w.before args s = true)
    (hgood : ∀ w ∈ Cond.classLink own ik cls :: Cond.initialized cls :: vx_atS own ic cls names, vx_ot w = true)
    (hU : vx_Zq Bundle.tN "UNASSIGNED_STACK" Bundle.steD A s s.heap) (hN : vx_Zq Bundle.tN "SUPPRESSED_SENTINEL" Bundle.listD A s s.heap) (hS : va_S A s.heap H locs) (hsize : ls.size = c.maxLocals)
    (d0 : decode cc pc = .ok (.new ik, 3)) (d3 : decode cc (pc + 3) = .ok (.dup, 1)) (d4 : decode cc (pc + 4) = .ok (.ldc_w is, 3)) (d7 : decode cc (pc + 7) = .ok (.invokespecial ic, 3)) (d10 : decode cc (pc + 10) = .ok (.athrow, 1))
    (hout : ∀ x ∈ c.exceptionTable.toList, covers x (pc + 10) = false)
    (hRframes : names.length + 3 < R.frames) (hRlocals : (rest.map fun v => v.category).sum + (13 * (names.length + 1) + 43) ≤ R.locals) (hRcells : cells + 1 ≤ R.cells) (hRslots : slots + 6 ≤ R.slots) (hlocks : meth.locks = false)
    (hx : ∀ t : State, s.vm.Alike t.vm → H.size ≤ t.heap.size → (∀ q : Nat, q < H.size → t.heap[q]? = H[q]?) → XC cls s t)
    (hf : ∀ z ∈ locs, free z.base) (hc : cells + 1 ≤ mc) (hs : slots + 6 ≤ ms) :
    W p l e R s m args below meth c H locs cells slots (vx_MQ below Qc XC args s mc ms free) (F0 m pc ls rest) := by
  intro T hT X
  have htr : e.platform.stackTraces = false := (show e.platform.stackTraces = l.stackTraces by rw [X.admits.platform]).trans hl
  have Y := vx_rebase X (R' := { frames := R.frames, locals := R.locals, cells := 1, slots := 6 }) (Nat.le_refl _) (Nat.le_refl _) hRcells hRslots
  obtain ⟨s', hA⟩ : ∃ z, z = (T.setVm s.vm).setFrames (.invoking m args :: below) := ⟨_, rfl⟩
  rw [← hA] at Y
  have hvm : s'.vm = s.vm := by rw [hA]; rfl
  have hhp : s'.heap = H := by rw [hA]; exact hT
  have hW0 : s.WarmedH s'.vm := by rw [hvm]; exact State.WarmedH.refl s
  have hat' : ∀ w ∈ vx_atS own ic cls names, w.before args s' = true := fun w hw => vx_ot_at hW0 hvm.symm (hgood w (List.mem_cons_of_mem _ (List.mem_cons_of_mem _ hw))) (hat w hw)
  have hk' : (Cond.classLink own ik cls).before args s' = true := vx_ot_at hW0 hvm.symm (hgood _ List.mem_cons_self) hk
  have hini' : (Cond.initialized cls).before args s' = true := vx_ot_at hW0 hvm.symm (hgood _ (List.mem_cons_of_mem _ List.mem_cons_self)) hini
  have hU' : vx_Zq Bundle.tN "UNASSIGNED_STACK" Bundle.steD A s' s'.heap := by rw [hhp]; exact vx_Zq.moved hW0.alike (hU.kept hS.2.1)
  have hN' : vx_Zq Bundle.tN "SUPPRESSED_SENTINEL" Bundle.listD A s' s'.heap := by rw [hhp]; exact vx_Zq.moved hW0.alike (hN.kept hS.2.1)
  have h : ∀ w ∈ Bundle.ownAtoms own ic cls names, w.before args s' = true := vx_own hat' (vx_isRefq hU'.1) (vx_isRefq hN'.1) hU'.2.word hN'.2.word
  have hown' : s'.vm.findClass own = some m.cls := by rw [hvm]; exact hown
  have hins : (Cond.instantiable cls 6).before args s' = true := h _ (by simp [Bundle.ownAtoms])
  obtain ⟨vm₁, cX, kX, hfX, hkX, -, -, X₁, st1⟩ := Y.newCold hexec (own := own) (C := cls) (index := ik) (n := 6) hown' hk' hins hini'
    (g := F0 m pc ls rest) rfl (by rw [hb]; exact d0) (Nat.le_refl _) (Nat.le_refl _)
  generalize hT1 : (T.setVm vm₁).pushCell { cls := cX, slots := kX.instanceTypes.map defaultValue, vm := .none } = T1 at X₁ st1
  have hcat : (Value.ref T.heap.size).category = 1 := rfl
  have hcellA : T1.heap[T.heap.size]? = some (freshCell cX kX) := by rw [← hT1]; exact State.heap_pushCell_size _ _
  have d3' : decode c.code (pc + 3) = .ok (.dup, 1) := by rw [hb]; exact d3
  have d4' : decode c.code (pc + 4) = .ok (.ldc_w is, 3) := by rw [hb]; exact d4
  have hstr' : vk_R own is text sa s' := vk_R.warm hW0 hstr
  obtain ⟨U, hsteps, hrun, hend, hW, hsame, ce, hce, hO⟩ := X₁.ctorThrowS hexec htr (own := own) (cls := cls) (names := names) (ic := ic) hown' hcls hnames h (fun x hx => nomatch hx) hfX hkX hcellA (by rw [hhp, hT]; exact Nat.le_refl _) (msg := .ref sa) rfl
    (g := { method := m, pc := pc + 7, locals := ls, stack := .ref sa :: .ref T.heap.size :: .ref T.heap.size :: rest, locked := none }) rfl hsize rfl rfl (rest := rest) rfl
    (by rw [hb]; exact d7) (by rw [hb]; exact d10) hout hRframes (by simp only [List.map_cons, List.sum_cons, hcat]; omega) hlocks
  obtain ⟨f1, f2⟩ := vx_frame hsame
  rw [hhp] at f1 f2
  have hWs : s.WarmedH U.vm := State.WarmedH.trans hW0 hW
  have hcl : s.vm.findClass cls = some ce.cls := by
    have h9 := hO.cls
    rw [hvm] at h9
    exact h9
  have hall : s.sameButNew ({ U with vm := s.vm } : State) locs mc ms := by
    subst hA
    obtain ⟨e1, e2⟩ := hsame
    rw [State.setFrames_setFrames] at e1
    have h2 : (T.setVm s.vm).sameButNew ({ U with vm := s.vm } : State) [] (0 + 1) (0 + 6) := ⟨e1, e2⟩
    have h3 := X.same.trans h2
    rw [List.append_nil] at h3
    exact h3.mono hc hs
  refine ⟨U, ?_, .threw T.heap.size, hrun, hend, Or.inr ⟨T.heap.size, rfl, cls, ce, locs, hx U hWs.alike f1 (fun q hq => f2 q hq (fun z hz => nomatch hz)), hce, hO.vm, hcl, hWs, hall, hf⟩⟩
  refine st1 _ ?_
  show Steps p.tables e below (T1.setTop { method := m, pc := pc + 3, locals := ls, stack := .ref T.heap.size :: rest, locked := none }) _
  jvm_step X₁.here [X₁.here.top, hexec, d3', Value.category]
  exact X₁.ldcStringW hexec (own := own) (text := text) (index := is) (a := sa) hown' hstr'.1 hstr'.2
    (g := { method := m, pc := pc + 4, locals := ls, stack := .ref T.heap.size :: .ref T.heap.size :: rest, locked := none }) rfl d4' _ hsteps
end Ends
section Bodies
variable {l : Launch}
theorem vx_ofW {y : MethodName} {ws ws' : List Cond} {rm : Room} {Pc : Array Value → State → Prop} {Qc : Array Value → State → Outcome → State → Prop} {XC : String → State → State → Prop} {mc ms : Nat} {free : Addr → Prop} {cc : ByteArray} {maxL : Nat} {ret : Option FieldType}
    (hy : plainName y.cls = true) (hw : ws = Cond.code y cc maxL ret :: ws')
    (body : ∀ p e s m args below meth c s₁, BodyLoose p l y (headSpec ws rm) cc maxL ret e s m args below meth c s₁ → c.maxLocals = maxL → (∀ x ∈ c.exceptionTable.toList, False) → Pc args s →
      W p l e (headSpec ws rm).room s m args below meth c s.heap [] 0 0 (vx_MQ below Qc XC args s mc ms free) (entryFrame m args maxL)) : vx_Met l y ws rm Pc Qc XC mc ms free := by
  refine MetFree.of_bodyS (code := cc) (maxLocals := maxL) (ret := ret) hy ?_ ?_
  · intro args s m h hn
    obtain ⟨meth, c, h1, h2, h3, h4, h5, h6, -, -⟩ := Cond.code_spec hn (atoms_spec (ws := ws) h _ (by rw [hw]; exact List.mem_cons_self))
    exact ⟨meth, c, h1, h2, h3, h4, h5, h6⟩
  · intro p e s m args below meth c s₁ B hml hP _
    have hh0 : s₁.heap = s.heap := by rw [B.state]; rfl
    have ht : ∀ x ∈ c.exceptionTable.toList, False := by
      obtain ⟨meth9, c9, h1, h2, -, -, -, -, h7, -⟩ := Cond.code_spec B.named (atoms_spec (ws := ws) B.pre _ (by rw [hw]; exact List.mem_cons_self))
      cases Option.some.inj (h1.symm.trans B.method)
      cases Option.some.inj (h2.symm.trans (Stand.of_body B).code)
      intro x hx
      rw [Array.isEmpty_iff.mp h7] at hx
      cases hx
    obtain ⟨t, a1, o, b1, b2, b3⟩ := body p e s m args below meth c s₁ B hml ht hP s₁ hh0 (Stand.of_body B)
    exact ⟨t, o, a1, b1, b2, b3⟩
/-- the table of a body with handlers -/
theorem vx_table {p : Program} {x y : MethodName} {S : Spec} {cc bytes : ByteArray} {maxL maxL' : Nat} {ret ret' : Option FieldType} {e : Env} {s s₁ : State} {m : MethodId} {args : Array Value} {below : List Frame} {meth : Method} {c : Code} {hh : List (Nat × Nat × Nat × Nat)}
    (B : BodyLoose p l y S cc maxL ret e s m args below meth c s₁) (h : (Cond.codeWith y bytes maxL' ret' hh).before args s = true) : c.exceptionTable.toList = tableOf hh := by
  obtain ⟨m9, meth9, c9, hn9, h1, h2, -, -, h6, -⟩ := Cond.codeWith_spec h
  cases Option.some.inj (hn9.symm.trans B.named)
  cases Option.some.inj (h1.symm.trans B.method)
  cases Option.some.inj (h2.symm.trans (Stand.of_body B).code)
  rw [← h6, table_eq]
end Bodies
end VXA
/-! ===== END ===== -/
/-! ===== BEGIN a static call of a method with an exception table ===== -/
section VXS
variable {p : Program} {l : Launch} {e : Env} {R : Room} {s : State} {m : MethodId} {args : Array Value} {below : List Frame} {meth : Method} {c : Code} {T : State} {H : Heap} {locs : List Loc} {cells slots : Nat}
abbrev vx_CSW (R : Room) (s : State) (args : Array Value) (own : String) (index : Nat) (y : MethodName) (bytes : ByteArray) (maxL : Nat) (ret : Option FieldType) (hh : List (Nat × Nat × Nat × Nat)) (ws : List Cond) (rm : Room) (mc ms n : Nat) : Prop :=
  (rm.cells = mc ∧ rm.slots = ms ∧ rm.frames + 1 ≤ R.frames ∧ 8 + (maxL + 11) + rm.locals ≤ R.locals ∧ (∀ w ∈ ws, ∀ (a' : Array Value) (U : State), s.WarmedH U.vm → w.before a' U = true) ∧ Cond.codeWith y bytes maxL ret hh ∈ ws) ∧
  (Cond.codeWith y bytes maxL ret hh).before args s = true ∧ (Cond.initialized y.cls).before args s = true ∧ (y.cls ≠ "java/lang/invoke/MethodHandle" ∧ y.cls ≠ "java/lang/invoke/VarHandle") ∧
  (∀ sig, parseMethodDescriptor y.desc = some sig → n = sig.parameters.length) ∧ (Cond.methodLink own index y).before args s = true ∧ (Cond.static y).before args s = true
theorem vx_cwSW {own : String} {index maxL mc ms : Nat} {y : MethodName} {bytes : ByteArray} {ret : Option FieldType} {hh : List (Nat × Nat × Nat × Nat)} {Ts ws ws' : List Cond} {rm : Room} (n : Nat) (ht : ∀ w ∈ Ts, w.before args s = true) (hT : GoodIn Ts (va_wsS own index y ws)) (hw : ws = Cond.codeWith y bytes maxL ret hh :: ws') (hrc : rm.cells = mc) (hrs : rm.slots = ms)
    (hd : y.cls ≠ "java/lang/invoke/MethodHandle" ∧ y.cls ≠ "java/lang/invoke/VarHandle" ∧ (parseMethodDescriptor y.desc).map (fun d => d.parameters.length) = some n) (hR : rm.frames + 1 ≤ R.frames ∧ 8 + (maxL + 11) + rm.locals ≤ R.locals) :
    vx_CSW R s args own index y bytes maxL ret hh ws rm mc ms n := by
  have ok : ∀ w ∈ va_wsS own index y ws, w.before args s = true := fun w h => ht w (hT w h).1
  have hG : GoodIn Ts ws := fun w h => hT w (by unfold va_wsS; exact List.mem_append_right _ h)
  have hc : Cond.codeWith y bytes maxL ret hh ∈ ws := by rw [hw]; exact List.mem_cons_self
  refine ⟨⟨hrc, hrs, hR.1, hR.2, pay_in ht hG, hc⟩, ht _ (hG _ hc).1, ok _ (by simp [va_wsS]), ⟨hd.1, hd.2.1⟩, fun sig h => ?_, ok _ (by simp [va_wsS]), ok _ (by simp [va_wsS])⟩
  have h2 := hd.2.2
  rw [h] at h2
  exact (Option.some.inj h2).symm
theorem vx_callSW (X : Stand p l e R s m args below meth c T locs cells slots) (hexec : p.tables.exec = Jvm.exec) {own : String} {index : Nat} {y : MethodName} {bytes : ByteArray} {maxL : Nat} {ret : Option FieldType} {hh : List (Nat × Nat × Nat × Nat)}
    (hown : s.vm.findClass own = some m.cls) (hlink : (Cond.methodLink own index y).before args s = true) (hstat : (Cond.static y).before args s = true) (hinit : (Cond.initialized y.cls).before args s = true)
    (hcode : (Cond.codeWith y bytes maxL ret hh).before args s = true) (hy : y.cls ≠ "java/lang/invoke/MethodHandle" ∧ y.cls ≠ "java/lang/invoke/VarHandle")
    {W9 : Nat} {Pre : Pt → Array Value → Prop} {Post : Pt → Array Value → Option Value → Pt → Prop} (hK : Back l R p e below s args y 3 W9 Pre Post)
    {g : JFrame} (hg : g.method = m) (hsize : g.locals.size = c.maxLocals) {argsL rest : List Value} (hlen : ∀ sig, parseMethodDescriptor y.desc = some sig → argsL.length = sig.parameters.length)
    (hstack : g.stack = argsL.reverse ++ rest) (hW : 2 * g.monitorRoom + (rest.map fun v => v.category).sum ≤ W9) (hdg : decode c.code g.pc = .ok (.invokestatic index, 3))
    (hpre : ∀ vm₁, s.WarmedH vm₁ → Pre ⟨T.setVm vm₁, locs, cells, slots⟩ argsL.toArray) :
    ∃ (v : Option Value) (vm₁ : Vm) (B : Pt), s.WarmedH vm₁ ∧ Stand p l e R s m args below meth c B.U B.locs B.cells B.slots ∧ Post ⟨T.setVm vm₁, locs, cells, slots⟩ argsL.toArray v B ∧
      ∀ target, Steps p.tables e below (B.U.setTop { g with pc := g.pc + 3, stack := v.toList ++ rest }) target → Steps p.tables e below (T.setTop g) target := by
  obtain ⟨mk, methM, cM, hnamed, hmethM, -, -, -, -, -, -, hsigM⟩ := Cond.codeWith_spec hcode
  have hstatic : methM.isStatic = true := Cond.static_spec hnamed hmethM hstat
  obtain ⟨kP, hkP, -⟩ := className_of_methodNamed hnamed
  have hinitP : kP.init = .initialized := Cond.initialized_spec (findClass_of_methodNamed hnamed) hkP hinit
  obtain ⟨vm₁, X₁, hstep₁⟩ := X.invokestatic hexec hown hlink hnamed hmethM hstatic hkP hinitP hy (g := g) hg (argsL := argsL) (rest := rest) (hlen _ hsigM) hstack hdg
  obtain ⟨v, B, X', hpost, hsteps⟩ := hK m meth c ⟨T.setVm vm₁, locs, cells, slots⟩ { g with stack := rest } (.invokestatic index) mk argsL.toArray X₁ hg hsize hdg hW (X₁.named hnamed) (hpre vm₁ X₁.warmed)
  exact ⟨v, vm₁, B, X₁.warmed, X', hpost, fun target h => hstep₁ _ fun acts => by rw [doInvoke_state]; exact hsteps.trans h⟩
theorem vx_runSW {y : MethodName} {bytes cc : ByteArray} {maxL nL mc ms n index : Nat} {ret : Option FieldType} {hh : List (Nat × Nat × Nat × Nat)} {ws : List Cond} {rm : Room} {Pc : Array Value → State → Prop} {Qc : Array Value → State → Outcome → State → Prop} {free : Addr → Prop} {Ts : List Cond} {own : String} {As rest : List Value} {g : JFrame}
    (S : CallFix p m c cc nL s args Ts own) (hM : Met l y ws rm Pc Qc mc ms free) (cw : vx_CSW R s args own index y bytes maxL ret hh ws rm mc ms n) (hp : PreS s H Pc As)
    (hg : g.method = m) (hn : As.length = n) (hsize : g.locals.size = nL) (hstack : g.stack = As.reverse ++ rest) (hW : 2 * g.monitorRoom + (rest.map fun v => v.category).sum ≤ 8) (hdg : decode cc g.pc = .ok (.invokestatic index, 3)) (hf : cells + mc ≤ R.cells ∧ slots + ms ≤ R.slots) :
    va_Run p l e R s m args below meth c H locs cells slots mc ms g rest (Qc As.toArray) (free) := by
  obtain ⟨⟨hrc, hrs, hfr, hlo, hws, hcw⟩, hcode, hini, hy, hlen, hl, hstt⟩ := cw
  have hK : Back l R p e below s args y 3 8 (PreOf R mc ms Pc) (PostOf Qc mc ms free) := va_backW (hh := hh) (bytes := bytes) (maxL := maxL) (ret := ret) hM hp.1 hrc hrs hfr hlo hws hcw (fun a' U hW => word_at hW (Or.inl (by first | rfl | simp [Cond.onTables, Cond.keeps, Cond.steady])) hini)
  obtain ⟨hx, hb, hml, ho, -⟩ := S
  intro T hT X
  obtain ⟨v, vm₁, ⟨U', l2, c2, s2⟩, hW₁, X', ⟨g', mk, t, L, e1, e2, hq, h1, hL, h2, h3⟩, st⟩ := vx_callSW X hx (hh := hh) (bytes := bytes) (maxL := maxL) (ret := ret) ho hl hstt hini hcode hy hK hg (hsize.trans hml.symm) (argsL := As) (rest := rest) (fun sig h => hn.trans (hlen sig h)) hstack hW (by rw [hb]; exact hdg)
    (fun vm₁ hW₁ => ⟨hf.1, hf.2, hp.2 (T.setVm vm₁) hT hW₁⟩)
  dsimp only [Pt.U, Pt.locs, Pt.cells, Pt.slots] at X' e1 e2 h1 h2 h3 st
  subst h1; subst h2; subst h3
  exact ⟨v, (T.setVm vm₁).calling g' mk As.toArray, t, U', L, hT, X', hL, e1, e2, hq, st⟩
/-- not caught here, past rows that name other classes: it goes on to the caller -/
theorem vx_outP {p : Program} {l : Launch} {e : Env} {R : Room} {s : State} {m : MethodId} {args : Array Value} {below : List Frame} {meth : Method} {c : Code} {H : Heap} {locs : List Loc} {cells slots : Nat} {free : Addr → Prop} {ls : Array Slot} {rest : List Value} {Qc : Array Value → State → Outcome → State → Prop} {XC : String → State → State → Prop}
    {pc : Nat} {own E : String} {ce : Cell} {q : Addr} {mc ms : Nat} (hown : s.vm.findClass own = some m.cls) (hlocks : meth.locks = false)
    (hpass : ∀ z ∈ c.exceptionTable.toList, covers z pc = false ∨ (z.catchType ≠ 0 ∧ ∃ nm : String, (Cond.classLink own z.catchType nm).before args s = true ∧ va_Nc E nm s)) (hcell : H[q]? = some ce) (hv : ce.vm = .none) (hcl : s.vm.findClass E = some ce.cls)
    (hx : ∀ t : State, t.heap = H → s.vm.Alike t.vm → XC E s t) (hf : ∀ z ∈ locs, free z.base) (hc : cells ≤ mc) (hs : slots ≤ ms) :
    vx_W p l e R s m args below meth c H locs cells slots (vx_MQ below Qc XC args s mc ms free) (F0 m pc ls rest) q := by
  intro T hT X
  have hpl : e.platform.magicAccessors = ({} : Platform).magicAccessors := by rw [X.admits.platform]
  obtain ⟨vm', hW', X', st⟩ := X.outThrough hlocks q (g := F0 m pc ls rest) rfl rfl rfl (cell := ce) (by rw [hT]; exact hcell) (by rw [hv]; rfl)
    (by obtain ⟨k9, h9, -⟩ := Vm.findClass_spec hcl; exact ⟨k9, h9⟩) (fun z hz => by
      rcases hpass z hz with h | ⟨hz0, nm, hl1, hn1⟩
      · exact Or.inl h
      · obtain ⟨c6, hc6, hcl6⟩ := Cond.classLink_spec hown hl1 e.platform hpl
        obtain ⟨a8, b8, h1, h2, h3⟩ := hn1
        cases Option.some.inj (h1.symm.trans hcl)
        cases Option.some.inj (h2.symm.trans hc6)
        exact Or.inr ⟨hz0, _, hcl6, h3⟩)
  obtain ⟨g₀, hfr⟩ := X'.frames_eq
  have hcell9 : ((T.setVm vm').setFrames (.throwing q :: below)).heap[q]? = some ce := by
    show T.heap[q]? = some ce
    rw [hT]; exact hcell
  have hend : Ended ((T.setVm vm').setFrames (.throwing q :: below)) below (.threw q) := State.frames_setFrames _ (State.cur_lt_of_frames hfr)
  refine ⟨(T.setVm vm').setFrames (.throwing q :: below), ?_, .threw q, X'.here.running, hend, Or.inr ⟨q, rfl, E, ce, locs, hx _ hT (X'.ends _).1.alike, hcell9, hv, hcl, (X'.ends _).1, (X'.ends _).2.mono hc hs, hf⟩⟩
  rw [X.pushThrowing_eq]
  exact st
/-- a thing of a world lies in the heap -/
theorem vx_lt {D : va_G} {cl : List vw_C} {ws : va_W} {H1 : Heap} (h : va_P D cl ws H1) {k : Nat} {q : Nat × va_E} (hk : ws[k]? = some q) : q.1 < H1.size := (h k q hk).lt
end VXS
/-! ===== END ===== -/
/-! ===== BEGIN methods with a table of their own: called by a name, returning or throwing ===== -/
section VXH
/-! vx_backW, vx_callVX, vx_callSX, vx_callVW, vx_runVW, vx_runVX, vx_runSX, vx_ofWH follow the same proofs as their sisters above (Free/Laws.lean, Shelf42/LK1.lean); vx_outP calls Shelf42/NT130.lean (outThrough). -/
section
variable {l : Launch} {R : Room} {p : Program} {e : Env} {below : List Frame} {s : State} {sargs : Array Value} {y : MethodName} {len W9 : Nat}
theorem vx_backW {ws : List Cond} {rm : Room} {Pc : Array Value → State → Prop} {Qc : Array Value → State → Outcome → State → Prop} {XC : String → State → State → Prop} {mc ms : Nat} {free : Addr → Prop} {bytes : ByteArray} {maxL : Nat} {ret : Option FieldType} {hh : List (Nat × Nat × Nat × Nat)}
    (hM : vx_Met l y ws rm Pc Qc XC mc ms free) (hblind : FrameBlind Pc) (hrc : rm.cells = mc) (hrs : rm.slots = ms)
    (hframes : rm.frames + 1 ≤ R.frames) (hlocals : W9 + (maxL + 11) + rm.locals ≤ R.locals)
    (hws : ∀ w ∈ ws, ∀ a' U, s.WarmedH U.vm → w.before a' U = true) (hcode : Cond.codeWith y bytes maxL ret hh ∈ ws) (hinit : ∀ a' U, s.WarmedH U.vm → (Cond.initialized y.cls).before a' U = true) :
    vx_Back l R p e below s sargs y len W9 (PreOf R mc ms Pc) (PostOf Qc mc ms free) (vx_Post XC mc ms free) := by
  intro m meth c A g ig mk a X hg hsize hdg hW hn hp
  have h1 : (headSpec ws rm).pre.before a A.U = true := atoms_intro fun w hw => hws w hw _ _ X.warmed
  have h2 : (Cond.codeWith y bytes maxL ret hh).before a A.U = true := hws _ hcode _ _ X.warmed
  have h3 : (Cond.initialized y.cls).before a A.U = true := hinit _ _ X.warmed
  have h4 : A.cells + (headSpec ws rm).room.cells ≤ R.cells := by rw [show (headSpec ws rm).room.cells = mc from hrc]; exact hp.1
  have h5 : A.slots + (headSpec ws rm).room.slots ≤ R.slots := by rw [show (headSpec ws rm).room.slots = ms from hrs]; exact hp.2.1
  have hPc : Pc a (A.U.calling g mk a) := hblind _ _ _ _ hp.2.2
  obtain ⟨U, Ls, c0, s0⟩ := A
  dsimp only [Pt.U, Pt.locs, Pt.cells, Pt.slots] at h1 h2 h3 h4 h5 X hn hPc ⊢
  obtain ⟨m9, methY, cY, hn9, hmY, hcY, -, hlY, -⟩ := Cond.codeWith_spec h2
  cases Option.some.inj (hn9.symm.trans hn)
  obtain ⟨kY, hkY, -⟩ := className_of_methodNamed hn
  have hinitY : kY.init = .initialized := Cond.initialized_spec (findClass_of_methodNamed hn) hkY h3
  have h : At U g.method c below := by rw [hg]; exact X.here
  have hlocals9 : W9 + (maxL + 11) + (headSpec ws rm).room.locals ≤ R.locals := hlocals
  have happ : (headSpec ws rm).appliesLoose y e.platform (U.calling g mk a) = true :=
    Spec.appliesLoose_calling (g := g) h hdg hn hkY hinitY
      (X.room_calling (g := g) (R' := (headSpec ws rm).room) hsize hmY hcY hframes (by rw [hlY]; omega) h4 h5) h1
  obtain ⟨mid, hmid⟩ := h.above
  have hfr : (U.setTop g).frames = (.java g :: mid) ++ below := by rw [State.frames_setTop' g h.top, hmid]; rfl
  obtain ⟨o, s₂, hsteps, -, hend, hq⟩ := Steps.callFree hM p X.admits X.cas X.clock (acts := []) hfr happ hPc trivial
  have hq' : vx_Q Qc XC mc ms free a (U.calling g mk a) o s₂ := hq
  rw [State.frames_setTop' g h.top] at hend
  obtain ⟨g₀, hg0⟩ := Option.isSome_iff_exists.mp h.top
  obtain ⟨r, hr⟩ := State.topJava?_eq_some.mp hg0
  have hr' : (({ U with heap := s₂.heap, slotsUsed := s₂.slotsUsed } : State).setVm s₂.vm).frames = .java g₀ :: r := hr
  rcases hq' with ⟨hqc, L, hfe, hL⟩ | ⟨q, rfl, E, ce, L, hx, hce, hcv, hcl, hW₂, hsm, hL⟩
  · obtain ⟨⟨v, rfl⟩, hW₂, e2, q2, q3, q4, q5, q6⟩ := id hfe
    have e3 : s₂ = ({ (U.calling g mk a).setFrames s₂.frames with heap := s₂.heap, slotsUsed := s₂.slotsUsed } : State).setVm s₂.vm := by
      have : s₂ = ({ s₂ with vm := (U.calling g mk a).vm } : State).setVm s₂.vm := rfl
      rw [e2] at this
      exact this
    obtain ⟨c₂, i₂, len₂, hc₂, hd₂, hf₂⟩ := hend
    have hW' : U.WarmedH s₂.vm := hW₂
    have hcc : c₂ = c := by
      have h1 : s₂.code? g.method = U.code? g.method := by
        rw [State.code?_eq, State.code?_eq, hW'.alike.method?]
      exact Option.some.inj (hc₂.symm.trans (h1.trans h.code))
    subst hcc
    have hlen : len₂ = len := by rw [hdg] at hd₂; cases hd₂; rfl
    subst hlen
    have hs₂ : s₂ = (({ U with heap := s₂.heap, slotsUsed := s₂.slotsUsed } : State).setVm s₂.vm).setTop { g with pc := g.pc + len₂, stack := v.toList ++ g.stack } := by
      refine e3.trans ?_
      rw [hf₂, State.calling_eq h.top, State.setFrames_setFrames, State.setTop_of_frames _ hr', hr]
      rfl
    have hsame : U.sameButNew ({ U with heap := s₂.heap, slotsUsed := s₂.slotsUsed } : State) L mc ms := by
      refine ⟨?_, q2, q3, q4, q5, q6⟩
      obtain ⟨t, ht, -⟩ := State.frames_cons hr
      show ({ U with heap := s₂.heap, slotsUsed := s₂.slotsUsed } : State) = { U.setFrames U.frames with heap := s₂.heap, slotsUsed := s₂.slotsUsed }
      rw [State.setFrames_self ht]
    subst hg
    refine Or.inl ⟨v, ⟨(({ U with heap := s₂.heap, slotsUsed := s₂.slotsUsed } : State).setVm s₂.vm), Ls ++ L, c0 + mc, s0 + ms⟩,
      ⟨X.admits, X.cas, X.clock, X.frames, X.room, X.hears, X.method, X.code, (X.here.setHeapUsed s₂.heap s₂.slotsUsed).setVm hW'.alike, X.tail, State.WarmedH.trans X.warmed hW', X.limits, X.bytes, X.same.trans (hsame.setVm s.vm)⟩,
      ⟨g, mk, s₂, L, rfl, rfl, hqc, rfl, hL, rfl, rfl⟩, ?_⟩
    show Steps p.tables e below _ ((({ U with heap := s₂.heap, slotsUsed := s₂.slotsUsed } : State).setVm s₂.vm).setTop { g with pc := g.pc + len₂, stack := v.toList ++ g.stack })
    rw [← hs₂]
    exact hsteps
  · obtain ⟨e2, q2, q3, q4, q5, q6⟩ := id hsm
    have e3 : s₂ = ({ (U.calling g mk a).setFrames s₂.frames with heap := s₂.heap, slotsUsed := s₂.slotsUsed } : State).setVm s₂.vm := by
      have : s₂ = ({ s₂ with vm := (U.calling g mk a).vm } : State).setVm s₂.vm := rfl
      rw [e2] at this
      exact this
    have hf₂ : s₂.frames = .throwing q :: .java g :: U.frames.tail := hend
    have hW' : U.WarmedH s₂.vm := hW₂
    have hs₂ : s₂ = ((({ U with heap := s₂.heap, slotsUsed := s₂.slotsUsed } : State).setVm s₂.vm).setTop g).pushFrame (.throwing q) := by
      refine e3.trans ?_
      rw [hf₂, State.calling_eq h.top, State.setFrames_setFrames, State.pushFrame, State.frames_setTop _ hr', State.setTop_of_frames _ hr', State.setFrames_setFrames, hr]
      rfl
    have hsame : U.sameButNew ({ U with heap := s₂.heap, slotsUsed := s₂.slotsUsed } : State) L mc ms := by
      refine ⟨?_, q2, q3, q4, q5, q6⟩
      obtain ⟨t, ht, -⟩ := State.frames_cons hr
      show ({ U with heap := s₂.heap, slotsUsed := s₂.slotsUsed } : State) = { U.setFrames U.frames with heap := s₂.heap, slotsUsed := s₂.slotsUsed }
      rw [State.setFrames_self ht]
    subst hg
    refine Or.inr ⟨q, ⟨(({ U with heap := s₂.heap, slotsUsed := s₂.slotsUsed } : State).setVm s₂.vm), Ls ++ L, c0 + mc, s0 + ms⟩,
      ⟨X.admits, X.cas, X.clock, X.frames, X.room, X.hears, X.method, X.code, (X.here.setHeapUsed s₂.heap s₂.slotsUsed).setVm hW'.alike, X.tail, State.WarmedH.trans X.warmed hW', X.limits, X.bytes, X.same.trans (hsame.setVm s.vm)⟩,
      ⟨g, mk, s₂, L, E, ce, rfl, rfl, hx, hce, hcv, hcl, rfl, hL, rfl, rfl⟩, ?_⟩
    show Steps p.tables e below _ (((({ U with heap := s₂.heap, slotsUsed := s₂.slotsUsed } : State).setVm s₂.vm).setTop g).pushFrame (.throwing q))
    rw [← hs₂]
    exact hsteps
end
variable {p : Program} {l : Launch} {e : Env} {R : Room} {s : State} {m : MethodId} {args : Array Value} {below : List Frame} {meth : Method} {c : Code} {T : State} {H : Heap} {locs : List Loc} {cells slots : Nat}
theorem vx_callVX (X : Stand p l e R s m args below meth c T locs cells slots) (hexec : p.tables.exec = Jvm.exec) {own C : String} {index : Nat} {y : MethodName} {bytes : ByteArray} {maxL : Nat} {ret : Option FieldType} {hh : List (Nat × Nat × Nat × Nat)}
    (hown : s.vm.findClass own = some m.cls) (hlink : (Cond.methodLink own index y).before args s = true) (hinst : (Cond.instanceMethod y).before args s = true) (hsel : (Cond.selects C y y).before args s = true)
    (hcode : (Cond.codeWith y bytes maxL ret hh).before args s = true) (hy : y.cls ≠ "java/lang/invoke/MethodHandle" ∧ y.cls ≠ "java/lang/invoke/VarHandle")
    {W9 : Nat} {Pre : Pt → Array Value → Prop} {Post : Pt → Array Value → Option Value → Pt → Prop} {PostX : Pt → Array Value → Addr → Pt → Prop} (hK : vx_Back l R p e below s args y 3 W9 Pre Post PostX)
    {b : Addr} {cellB : Cell} (hcell : T.heap[b]? = some cellB) (hobj : cellB.vm.isStatics = false) (hcls : s.vm.findClass C = some cellB.cls)
    {g : JFrame} (hg : g.method = m) (hsize : g.locals.size = c.maxLocals) {argsL rest : List Value} (hlen : ∀ sig, parseMethodDescriptor y.desc = some sig → argsL.length = sig.parameters.length)
    (hstack : g.stack = argsL.reverse ++ .ref b :: rest) (hW : 2 * g.monitorRoom + (rest.map fun v => v.category).sum ≤ W9) (hdg : decode c.code g.pc = .ok (.invokevirtual index, 3))
    (hpre : ∀ vm₁, s.WarmedH vm₁ → Pre ⟨T.setVm vm₁, locs, cells, slots⟩ (Value.ref b :: argsL).toArray) :
    (∃ (v : Option Value) (vm₁ : Vm) (B : Pt), s.WarmedH vm₁ ∧ Stand p l e R s m args below meth c B.U B.locs B.cells B.slots ∧ Post ⟨T.setVm vm₁, locs, cells, slots⟩ (Value.ref b :: argsL).toArray v B ∧
      ∀ target, Steps p.tables e below (B.U.setTop { g with pc := g.pc + 3, stack := v.toList ++ rest }) target → Steps p.tables e below (T.setTop g) target) ∨
    (∃ (q : Addr) (vm₁ : Vm) (B : Pt), s.WarmedH vm₁ ∧ Stand p l e R s m args below meth c B.U B.locs B.cells B.slots ∧ PostX ⟨T.setVm vm₁, locs, cells, slots⟩ (Value.ref b :: argsL).toArray q B ∧
      Steps p.tables e below (T.setTop g) ((B.U.setTop { g with stack := rest }).pushFrame (.throwing q))) := by
  obtain ⟨mk, methM, hnamed, hmethM, hstM, habM⟩ := Cond.instanceMethod_spec hinst
  obtain ⟨m8, methM', cM, hn8, hmethM', -, -, -, -, -, -, hsigM⟩ := Cond.codeWith_spec hcode
  cases Option.some.inj (hn8.symm.trans hnamed)
  cases hmethM.symm.trans hmethM'
  obtain ⟨c2, r2, m2, q1, q2, q3, q4, kP, hkP, hkPi⟩ := Cond.selects_spec hsel
  cases hcls.symm.trans q1
  cases (State.methodFound?_of_named hnamed hy).symm.trans q2
  cases hnamed.symm.trans q3
  have hselP : selectMethod e.platform s.vm cellB.cls mk = .method mk := by rw [Launch.admits_selectMethod X.admits]; exact q4
  obtain ⟨vm₁, X₁, hstep₁⟩ := X.invokevirtual hexec hown hlink hnamed hmethM hstM hkP hkPi hy (a := b) (cell := cellB) hcell
    (fun z h => by rw [h] at hobj; cases hobj) hselP hmethM habM hkP hkPi (g := g) hg (argsL := argsL) (rest := rest) (hlen _ hsigM) hstack hdg
  rcases hK m meth c ⟨T.setVm vm₁, locs, cells, slots⟩ { g with stack := rest } (.invokevirtual index) mk (Value.ref b :: argsL).toArray X₁ hg hsize hdg hW (X₁.named hnamed) (hpre vm₁ X₁.warmed) with ⟨v, B, X', hpost, hsteps⟩ | ⟨q, B, X', hpost, hsteps⟩
  · exact Or.inl ⟨v, vm₁, B, X₁.warmed, X', hpost, fun target h => hstep₁ _ fun acts => by rw [doInvoke_state]; exact hsteps.trans h⟩
  · exact Or.inr ⟨q, vm₁, B, X₁.warmed, X', hpost, hstep₁ _ fun acts => by rw [doInvoke_state]; exact hsteps⟩
theorem vx_callSX (X : Stand p l e R s m args below meth c T locs cells slots) (hexec : p.tables.exec = Jvm.exec) {own : String} {index : Nat} {y : MethodName} {bytes : ByteArray} {maxL : Nat} {ret : Option FieldType} {hh : List (Nat × Nat × Nat × Nat)}
    (hown : s.vm.findClass own = some m.cls) (hlink : (Cond.methodLink own index y).before args s = true) (hstat : (Cond.static y).before args s = true) (hinit : (Cond.initialized y.cls).before args s = true)
    (hcode : (Cond.codeWith y bytes maxL ret hh).before args s = true) (hy : y.cls ≠ "java/lang/invoke/MethodHandle" ∧ y.cls ≠ "java/lang/invoke/VarHandle")
    {W9 : Nat} {Pre : Pt → Array Value → Prop} {Post : Pt → Array Value → Option Value → Pt → Prop} {PostX : Pt → Array Value → Addr → Pt → Prop} (hK : vx_Back l R p e below s args y 3 W9 Pre Post PostX)
    {g : JFrame} (hg : g.method = m) (hsize : g.locals.size = c.maxLocals) {argsL rest : List Value} (hlen : ∀ sig, parseMethodDescriptor y.desc = some sig → argsL.length = sig.parameters.length)
    (hstack : g.stack = argsL.reverse ++ rest) (hW : 2 * g.monitorRoom + (rest.map fun v => v.category).sum ≤ W9) (hdg : decode c.code g.pc = .ok (.invokestatic index, 3))
    (hpre : ∀ vm₁, s.WarmedH vm₁ → Pre ⟨T.setVm vm₁, locs, cells, slots⟩ argsL.toArray) :
    (∃ (v : Option Value) (vm₁ : Vm) (B : Pt), s.WarmedH vm₁ ∧ Stand p l e R s m args below meth c B.U B.locs B.cells B.slots ∧ Post ⟨T.setVm vm₁, locs, cells, slots⟩ argsL.toArray v B ∧
      ∀ target, Steps p.tables e below (B.U.setTop { g with pc := g.pc + 3, stack := v.toList ++ rest }) target → Steps p.tables e below (T.setTop g) target) ∨
    (∃ (q : Addr) (vm₁ : Vm) (B : Pt), s.WarmedH vm₁ ∧ Stand p l e R s m args below meth c B.U B.locs B.cells B.slots ∧ PostX ⟨T.setVm vm₁, locs, cells, slots⟩ argsL.toArray q B ∧
      Steps p.tables e below (T.setTop g) ((B.U.setTop { g with stack := rest }).pushFrame (.throwing q))) := by
  obtain ⟨mk, methM, cM, hnamed, hmethM, -, -, -, -, -, -, hsigM⟩ := Cond.codeWith_spec hcode
  have hstatic : methM.isStatic = true := Cond.static_spec hnamed hmethM hstat
  obtain ⟨kP, hkP, -⟩ := className_of_methodNamed hnamed
  have hinitP : kP.init = .initialized := Cond.initialized_spec (findClass_of_methodNamed hnamed) hkP hinit
  obtain ⟨vm₁, X₁, hstep₁⟩ := X.invokestatic hexec hown hlink hnamed hmethM hstatic hkP hinitP hy (g := g) hg (argsL := argsL) (rest := rest) (hlen _ hsigM) hstack hdg
  rcases hK m meth c ⟨T.setVm vm₁, locs, cells, slots⟩ { g with stack := rest } (.invokestatic index) mk argsL.toArray X₁ hg hsize hdg hW (X₁.named hnamed) (hpre vm₁ X₁.warmed) with ⟨v, B, X', hpost, hsteps⟩ | ⟨q, B, X', hpost, hsteps⟩
  · exact Or.inl ⟨v, vm₁, B, X₁.warmed, X', hpost, fun target h => hstep₁ _ fun acts => by rw [doInvoke_state]; exact hsteps.trans h⟩
  · exact Or.inr ⟨q, vm₁, B, X₁.warmed, X', hpost, hstep₁ _ fun acts => by rw [doInvoke_state]; exact hsteps⟩
theorem vx_callVW (X : Stand p l e R s m args below meth c T locs cells slots) (hexec : p.tables.exec = Jvm.exec) {own C : String} {index : Nat} {y : MethodName} {bytes : ByteArray} {maxL : Nat} {ret : Option FieldType} {hh : List (Nat × Nat × Nat × Nat)}
    (hown : s.vm.findClass own = some m.cls) (hlink : (Cond.methodLink own index y).before args s = true) (hinst : (Cond.instanceMethod y).before args s = true) (hsel : (Cond.selects C y y).before args s = true)
    (hcode : (Cond.codeWith y bytes maxL ret hh).before args s = true) (hy : y.cls ≠ "java/lang/invoke/MethodHandle" ∧ y.cls ≠ "java/lang/invoke/VarHandle")
    {W9 : Nat} {Pre : Pt → Array Value → Prop} {Post : Pt → Array Value → Option Value → Pt → Prop} (hK : Back l R p e below s args y 3 W9 Pre Post)
    {b : Addr} {cellB : Cell} (hcell : T.heap[b]? = some cellB) (hobj : cellB.vm.isStatics = false) (hcls : s.vm.findClass C = some cellB.cls)
    {g : JFrame} (hg : g.method = m) (hsize : g.locals.size = c.maxLocals) {argsL rest : List Value} (hlen : ∀ sig, parseMethodDescriptor y.desc = some sig → argsL.length = sig.parameters.length)
    (hstack : g.stack = argsL.reverse ++ .ref b :: rest) (hW : 2 * g.monitorRoom + (rest.map fun v => v.category).sum ≤ W9) (hdg : decode c.code g.pc = .ok (.invokevirtual index, 3))
    (hpre : ∀ vm₁, s.WarmedH vm₁ → Pre ⟨T.setVm vm₁, locs, cells, slots⟩ (Value.ref b :: argsL).toArray) :
    ∃ (v : Option Value) (vm₁ : Vm) (B : Pt), s.WarmedH vm₁ ∧ Stand p l e R s m args below meth c B.U B.locs B.cells B.slots ∧ Post ⟨T.setVm vm₁, locs, cells, slots⟩ (Value.ref b :: argsL).toArray v B ∧
      ∀ target, Steps p.tables e below (B.U.setTop { g with pc := g.pc + 3, stack := v.toList ++ rest }) target → Steps p.tables e below (T.setTop g) target := by
  obtain ⟨mk, methM, hnamed, hmethM, hstM, habM⟩ := Cond.instanceMethod_spec hinst
  obtain ⟨m8, methM', cM, hn8, hmethM', -, -, -, -, -, -, hsigM⟩ := Cond.codeWith_spec hcode
  cases Option.some.inj (hn8.symm.trans hnamed)
  cases hmethM.symm.trans hmethM'
  obtain ⟨c2, r2, m2, q1, q2, q3, q4, kP, hkP, hkPi⟩ := Cond.selects_spec hsel
  cases hcls.symm.trans q1
  cases (State.methodFound?_of_named hnamed hy).symm.trans q2
  cases hnamed.symm.trans q3
  have hselP : selectMethod e.platform s.vm cellB.cls mk = .method mk := by rw [Launch.admits_selectMethod X.admits]; exact q4
  obtain ⟨vm₁, X₁, hstep₁⟩ := X.invokevirtual hexec hown hlink hnamed hmethM hstM hkP hkPi hy (a := b) (cell := cellB) hcell
    (fun z h => by rw [h] at hobj; cases hobj) hselP hmethM habM hkP hkPi (g := g) hg (argsL := argsL) (rest := rest) (hlen _ hsigM) hstack hdg
  obtain ⟨v, B, X', hpost, hsteps⟩ := hK m meth c ⟨T.setVm vm₁, locs, cells, slots⟩ { g with stack := rest } (.invokevirtual index) mk (Value.ref b :: argsL).toArray X₁ hg hsize hdg hW (X₁.named hnamed) (hpre vm₁ X₁.warmed)
  exact ⟨v, vm₁, B, X₁.warmed, X', hpost, fun target h => hstep₁ _ fun acts => by rw [doInvoke_state]; exact hsteps.trans h⟩
abbrev vx_CVW (R : Room) (s : State) (args : Array Value) (own C : String) (index : Nat) (y : MethodName) (bytes : ByteArray) (maxL : Nat) (ret : Option FieldType) (hh : List (Nat × Nat × Nat × Nat)) (ws : List Cond) (rm : Room) (mc ms n : Nat) : Prop :=
  (rm.cells = mc ∧ rm.slots = ms ∧ rm.frames + 1 ≤ R.frames ∧ 8 + (maxL + 11) + rm.locals ≤ R.locals ∧ (∀ w ∈ ws, ∀ (a' : Array Value) (U : State), s.WarmedH U.vm → w.before a' U = true) ∧ Cond.codeWith y bytes maxL ret hh ∈ ws) ∧
  (Cond.codeWith y bytes maxL ret hh).before args s = true ∧ (Cond.initialized y.cls).before args s = true ∧ (y.cls ≠ "java/lang/invoke/MethodHandle" ∧ y.cls ≠ "java/lang/invoke/VarHandle") ∧
  (∀ sig, parseMethodDescriptor y.desc = some sig → n = sig.parameters.length) ∧ (Cond.methodLink own index y).before args s = true ∧ (Cond.instanceMethod y).before args s = true ∧ (Cond.selects C y y).before args s = true
theorem vx_cwVW {own C : String} {index maxL mc ms : Nat} {y : MethodName} {bytes : ByteArray} {ret : Option FieldType} {hh : List (Nat × Nat × Nat × Nat)} {Ts ws ws' : List Cond} {rm : Room} (n : Nat) (ht : ∀ w ∈ Ts, w.before args s = true) (hT : GoodIn Ts (wsV own index C y ws)) (hw : ws = Cond.codeWith y bytes maxL ret hh :: ws') (hrc : rm.cells = mc) (hrs : rm.slots = ms)
    (hd : y.cls = C ∧ y.cls ≠ "java/lang/invoke/MethodHandle" ∧ y.cls ≠ "java/lang/invoke/VarHandle" ∧ (parseMethodDescriptor y.desc).map (fun d => d.parameters.length) = some n) (hR : rm.frames + 1 ≤ R.frames ∧ 8 + (maxL + 11) + rm.locals ≤ R.locals) :
    vx_CVW R s args own C index y bytes maxL ret hh ws rm mc ms n := by
  obtain ⟨hC, hd⟩ := hd
  subst hC
  have ok : ∀ w ∈ wsV own index y.cls y ws, w.before args s = true := fun w h => ht w (hT w h).1
  have hG : GoodIn Ts ws := fun w h => hT w (by unfold wsV; exact List.mem_append_right _ h)
  have hc : Cond.codeWith y bytes maxL ret hh ∈ ws := by rw [hw]; exact List.mem_cons_self
  refine ⟨⟨hrc, hrs, hR.1, hR.2, pay_in ht hG, hc⟩, ht _ (hG _ hc).1, ok _ (by simp [wsV]), ⟨hd.1, hd.2.1⟩, fun sig h => ?_, ok _ (by simp [wsV]), ok _ (by simp [wsV]), ok _ (by simp [wsV])⟩
  have h2 := hd.2.2
  rw [h] at h2
  exact (Option.some.inj h2).symm
theorem vx_runVW {y : MethodName} {bytes cc : ByteArray} {maxL nL mc ms n index : Nat} {ret : Option FieldType} {hh : List (Nat × Nat × Nat × Nat)} {ws : List Cond} {rm : Room} {Pc : Array Value → State → Prop} {Qc : Array Value → State → Outcome → State → Prop} {free : Addr → Prop} {Ts : List Cond} {own C : String} {b : Addr} {As rest : List Value} {g : JFrame}
    (S : CallFix p m c cc nL s args Ts own) (hM : Met l y ws rm Pc Qc mc ms free) (cw : vx_CVW R s args own C index y bytes maxL ret hh ws rm mc ms n) (hp : PreV s H C b Pc As)
    (hg : g.method = m) (hn : As.length = n) (hsize : g.locals.size = nL) (hstack : g.stack = As.reverse ++ .ref b :: rest) (hW : 2 * g.monitorRoom + (rest.map fun v => v.category).sum ≤ 8) (hdg : decode cc g.pc = .ok (.invokevirtual index, 3)) (hf : cells + mc ≤ R.cells ∧ slots + ms ≤ R.slots) :
    va_Run p l e R s m args below meth c H locs cells slots mc ms g rest (Qc (Value.ref b :: As).toArray) free := by
  obtain ⟨⟨hrc, hrs, hfr, hlo, hws, hcw⟩, hcode, hini, hy, hlen, hl, hin, hse⟩ := cw
  have hK : Back l R p e below s args y 3 8 (PreOf R mc ms Pc) (PostOf Qc mc ms free) := va_backW (hh := hh) (bytes := bytes) (maxL := maxL) (ret := ret) hM hp.1 hrc hrs hfr hlo hws hcw (fun a' U hW => word_at hW (Or.inl (by first | rfl | simp [Cond.onTables, Cond.keeps, Cond.steady])) hini)
  obtain ⟨hx, hb, hml, ho, -⟩ := S
  obtain ⟨-, ⟨cellB, hcB, hoB, hclB⟩, hPc⟩ := hp
  intro T hT X
  obtain ⟨v, vm₁, ⟨U', l2, c2, s2⟩, hW₁, X', ⟨g', mk, t, L, e1, e2, hq, h1, hL, h2, h3⟩, st⟩ := vx_callVW X hx (C := C) (hh := hh) (bytes := bytes) (maxL := maxL) (ret := ret) ho hl hin hse hcode hy hK (by rw [hT]; exact hcB) hoB hclB hg (hsize.trans hml.symm) (argsL := As) (rest := rest) (fun sig h => hn.trans (hlen sig h)) hstack hW (by rw [hb]; exact hdg)
    (fun vm₁ hW₁ => ⟨hf.1, hf.2, hPc (T.setVm vm₁) hT hW₁⟩)
  dsimp only [Pt.U, Pt.locs, Pt.cells, Pt.slots] at X' e1 e2 h1 h2 h3 st
  subst h1; subst h2; subst h3
  exact ⟨v, (T.setVm vm₁).calling g' mk (Value.ref b :: As).toArray, t, U', L, hT, X', hL, e1, e2, hq, st⟩
section
variable {y : MethodName} {bytes cc : ByteArray} {maxL nL mc ms n index : Nat} {ret : Option FieldType} {ws : List Cond} {rm : Room} {Pc : Array Value → State → Prop} {Qc : Array Value → State → Outcome → State → Prop} {XC : String → State → State → Prop} {free : Addr → Prop} {Ts : List Cond} {own C : String} {b : Addr} {As rest : List Value} {g : JFrame}
theorem vx_runVX {hh : List (Nat × Nat × Nat × Nat)} (S : CallFix p m c cc nL s args Ts own) (hM : vx_Met l y ws rm Pc Qc XC mc ms free) (cw : vx_CVW R s args own C index y bytes maxL ret hh ws rm mc ms n) (hp : PreV s H C b Pc As)
    (hg : g.method = m) (hn : As.length = n) (hsize : g.locals.size = nL) (hstack : g.stack = As.reverse ++ .ref b :: rest) (hW : 2 * g.monitorRoom + (rest.map fun v => v.category).sum ≤ 8) (hdg : decode cc g.pc = .ok (.invokevirtual index, 3)) (hf : cells + mc ≤ R.cells ∧ slots + ms ≤ R.slots) :
    vx_Run p l e R s m args below meth c H locs cells slots mc ms g rest (Qc (Value.ref b :: As).toArray) XC free := by
  obtain ⟨⟨hrc, hrs, hfr, hlo, hws, hcw⟩, hcode, hini, hy, hlen, hl, hin, hse⟩ := cw
  have hK : vx_Back l R p e below s args y 3 8 (PreOf R mc ms Pc) (PostOf Qc mc ms free) (vx_Post XC mc ms free) := vx_backW (hh := hh) (bytes := bytes) (maxL := maxL) (ret := ret) hM hp.1 hrc hrs hfr hlo hws hcw (fun a' U hW => word_at hW (Or.inl (by first | rfl | simp [Cond.onTables, Cond.keeps, Cond.steady])) hini)
  obtain ⟨hx, hb, hml, ho, -⟩ := S
  obtain ⟨-, ⟨cellB, hcB, hoB, hclB⟩, hPc⟩ := hp
  intro T hT X
  rcases vx_callVX X hx (C := C) (hh := hh) (bytes := bytes) (maxL := maxL) (ret := ret) ho hl hin hse hcode hy hK (by rw [hT]; exact hcB) hoB hclB hg (hsize.trans hml.symm) (argsL := As) (rest := rest) (fun sig h => hn.trans (hlen sig h)) hstack hW (by rw [hb]; exact hdg)
    (fun vm₁ hW₁ => ⟨hf.1, hf.2, hPc (T.setVm vm₁) hT hW₁⟩) with ⟨v, vm₁, ⟨U', l2, c2, s2⟩, hW₁, X', ⟨g', mk, t, L, e1, e2, hq, h1, hL, h2, h3⟩, st⟩ | ⟨q, vm₁, ⟨U', l2, c2, s2⟩, hW₁, X', ⟨g', mk, t, L, E, ce, e1, e2, hq, hce, hcv, hcl, h1, hL, h2, h3⟩, st⟩
  · dsimp only [Pt.U, Pt.locs, Pt.cells, Pt.slots] at X' e1 e2 h1 h2 h3 st
    subst h1; subst h2; subst h3
    exact Or.inl ⟨v, (T.setVm vm₁).calling g' mk (Value.ref b :: As).toArray, t, U', L, hT, X', hL, e1, e2, hq, st⟩
  · dsimp only [Pt.U, Pt.locs, Pt.cells, Pt.slots] at X' e1 e2 h1 h2 h3 st hcl
    subst h1; subst h2; subst h3
    exact Or.inr ⟨q, (T.setVm vm₁).calling g' mk (Value.ref b :: As).toArray, t, U', L, E, ce, hT, X', hL, e1, e2, hq, hce, hcv, vx_cls hW₁ hcl, st⟩
theorem vx_runSX {hh : List (Nat × Nat × Nat × Nat)} (S : CallFix p m c cc nL s args Ts own) (hM : vx_Met l y ws rm Pc Qc XC mc ms free) (cw : vx_CSW R s args own index y bytes maxL ret hh ws rm mc ms n) (hp : PreS s H Pc As)
    (hg : g.method = m) (hn : As.length = n) (hsize : g.locals.size = nL) (hstack : g.stack = As.reverse ++ rest) (hW : 2 * g.monitorRoom + (rest.map fun v => v.category).sum ≤ 8) (hdg : decode cc g.pc = .ok (.invokestatic index, 3)) (hf : cells + mc ≤ R.cells ∧ slots + ms ≤ R.slots) :
    vx_Run p l e R s m args below meth c H locs cells slots mc ms g rest (Qc As.toArray) XC free := by
  obtain ⟨⟨hrc, hrs, hfr, hlo, hws, hcw⟩, hcode, hini, hy, hlen, hl, hstt⟩ := cw
  have hK : vx_Back l R p e below s args y 3 8 (PreOf R mc ms Pc) (PostOf Qc mc ms free) (vx_Post XC mc ms free) := vx_backW (hh := hh) (bytes := bytes) (maxL := maxL) (ret := ret) hM hp.1 hrc hrs hfr hlo hws hcw (fun a' U hW => word_at hW (Or.inl (by first | rfl | simp [Cond.onTables, Cond.keeps, Cond.steady])) hini)
  obtain ⟨hx, hb, hml, ho, -⟩ := S
  intro T hT X
  rcases vx_callSX X hx (hh := hh) (bytes := bytes) (maxL := maxL) (ret := ret) ho hl hstt hini hcode hy hK hg (hsize.trans hml.symm) (argsL := As) (rest := rest) (fun sig h => hn.trans (hlen sig h)) hstack hW (by rw [hb]; exact hdg)
    (fun vm₁ hW₁ => ⟨hf.1, hf.2, hp.2 (T.setVm vm₁) hT hW₁⟩) with ⟨v, vm₁, ⟨U', l2, c2, s2⟩, hW₁, X', ⟨g', mk, t, L, e1, e2, hq, h1, hL, h2, h3⟩, st⟩ | ⟨q, vm₁, ⟨U', l2, c2, s2⟩, hW₁, X', ⟨g', mk, t, L, E, ce, e1, e2, hq, hce, hcv, hcl, h1, hL, h2, h3⟩, st⟩
  · dsimp only [Pt.U, Pt.locs, Pt.cells, Pt.slots] at X' e1 e2 h1 h2 h3 st
    subst h1; subst h2; subst h3
    exact Or.inl ⟨v, (T.setVm vm₁).calling g' mk As.toArray, t, U', L, hT, X', hL, e1, e2, hq, st⟩
  · dsimp only [Pt.U, Pt.locs, Pt.cells, Pt.slots] at X' e1 e2 h1 h2 h3 st hcl
    subst h1; subst h2; subst h3
    exact Or.inr ⟨q, (T.setVm vm₁).calling g' mk As.toArray, t, U', L, E, ce, hT, X', hL, e1, e2, hq, hce, hcv, vx_cls hW₁ hcl, st⟩
end
end VXH
theorem vx_ofWH {l : Launch} {y : MethodName} {ws ws' : List Cond} {rm : Room} {Pc : Array Value → State → Prop} {Qc : Array Value → State → Outcome → State → Prop} {XC : String → State → State → Prop} {mc ms : Nat} {free : Addr → Prop} {cc : ByteArray} {maxL : Nat} {ret : Option FieldType} {hh : List (Nat × Nat × Nat × Nat)}
    (hy : plainName y.cls = true) (hw : ws = Cond.codeWith y cc maxL ret hh :: ws')
    (body : ∀ p e s m args below meth c s₁, BodyLoose p l y (headSpec ws rm) cc maxL ret e s m args below meth c s₁ → c.maxLocals = maxL → Pc args s →
      W p l e (headSpec ws rm).room s m args below meth c s.heap [] 0 0 (vx_MQ below Qc XC args s mc ms free) (entryFrame m args maxL)) : vx_Met l y ws rm Pc Qc XC mc ms free := by
  refine MetFree.of_bodyS (code := cc) (maxLocals := maxL) (ret := ret) hy ?_ ?_
  · intro args s m h hn
    obtain ⟨m9, meth, c, hn9, h1, h2, h3, h4, -, h5, h6, -⟩ := Cond.codeWith_spec (atoms_spec (ws := ws) h _ (by rw [hw]; exact List.mem_cons_self))
    cases hn.symm.trans hn9
    exact ⟨meth, c, h1, h2, h3, h4, h5, h6⟩
  · intro p e s m args below meth c s₁ B hml hP _
    have hh0 : s₁.heap = s.heap := by rw [B.state]; rfl
    obtain ⟨t, a1, o, b1, b2, b3⟩ := body p e s m args below meth c s₁ B hml hP s₁ hh0 (Stand.of_body B)
    exact ⟨t, o, a1, b1, b2, b3⟩
/-! ===== END ===== -/
end
section
def RX0 : String := "ColdStore$Air"
def TX0 : u_T := fun k => match k with
  | 0 => ("ColdStore$Air", "base", "I", false)
  | _ => ("ColdStore$Air", "swing", "I", false)
def tyX0 : Nat → FieldType := fun k => match k with
  | 0 => .int
  | _ => .int
abbrev wsX00 : List Cond := u_ws RX0 TX0 2
theorem nmX0 : ∀ a, a < 2 → ∀ b, b < 2 → a ≠ b → (TX0 a).2.1 ≠ (TX0 b).2.1 := by decide +kernel
theorem tyX0_ok : ∀ k, k < 2 → parseFieldDescriptor (TX0 k).2.2.1 = some (tyX0 k) := by decide +kernel
abbrev cX0_init : ByteArray := prog_2_method_1_code
def yX0_init : MethodName := ⟨RX0, "<init>", "()V"⟩
abbrev cX0_temperatureAt : ByteArray := prog_2_method_2_code
def yX0_temperatureAt : MethodName := ⟨RX0, "temperatureAt", "(I)I"⟩
def RX1 : String := "ColdStore$Machine"
def TX1 : u_T := fun k => match k with
  | 0 => ("ColdStore$Machine", "power", "I", true)
  | 1 => ("ColdStore$Machine", "state", "I", false)
  | 2 => ("ColdStore$Machine", "hoursLeft", "I", false)
  | 3 => ("ColdStore$Machine", "frost", "I", false)
  | _ => ("ColdStore$Machine", "energy", "I", false)
def tyX1 : Nat → FieldType := fun k => match k with
  | 0 => .int
  | 1 => .int
  | 2 => .int
  | 3 => .int
  | _ => .int
abbrev wsX10 : List Cond := u_ws RX1 TX1 5
theorem nmX1 : ∀ a, a < 5 → ∀ b, b < 5 → a ≠ b → (TX1 a).2.1 ≠ (TX1 b).2.1 := by decide +kernel
theorem tyX1_ok : ∀ k, k < 5 → parseFieldDescriptor (TX1 k).2.2.1 = some (tyX1 k) := by decide +kernel
abbrev cX1_init : ByteArray := prog_3_method_1_code
def yX1_init : MethodName := ⟨RX1, "<init>", "(I)V"⟩
abbrev cX1_beginDefrosting : ByteArray := prog_3_method_2_code
def yX1_beginDefrosting : MethodName := ⟨RX1, "beginDefrosting", "()V"⟩
abbrev cX1_beginHour : ByteArray := prog_3_method_3_code
def yX1_beginHour : MethodName := ⟨RX1, "beginHour", "(IZ)V"⟩
abbrev cX1_defrostOneHour : ByteArray := prog_3_method_4_code
def yX1_defrostOneHour : MethodName := ⟨RX1, "defrostOneHour", "()V"⟩
abbrev cX1_warmthOfHour : ByteArray := prog_3_method_5_code
def yX1_warmthOfHour : MethodName := ⟨RX1, "warmthOfHour", "()I"⟩
abbrev cX1_useEnergy : ByteArray := prog_3_method_6_code
def yX1_useEnergy : MethodName := ⟨RX1, "useEnergy", "()I"⟩
abbrev cX1_imitate : ByteArray := prog_3_method_7_code
def yX1_imitate : MethodName := ⟨RX1, "imitate", "(LColdStore$Machine;)V"⟩
def RX2 : String := "ColdStore$Pallet"
def TX2 : u_T := fun k => match k with
  | 0 => ("ColdStore$Pallet", "product", "LColdStore$Product;", true)
  | 1 => ("ColdStore$Pallet", "room", "LColdStore$Room;", false)
  | 2 => ("ColdStore$Pallet", "temperature", "I", false)
  | 3 => ("ColdStore$Pallet", "age", "I", false)
  | 4 => ("ColdStore$Pallet", "rememberedTemperature", "I", false)
  | _ => ("ColdStore$Pallet", "rememberedAge", "I", false)
def tyX2 : Nat → FieldType := fun k => match k with
  | 0 => .object "ColdStore$Product"
  | 1 => .object "ColdStore$Room"
  | 2 => .int
  | 3 => .int
  | 4 => .int
  | _ => .int
abbrev wsX20 : List Cond := u_ws RX2 TX2 6
theorem nmX2 : ∀ a, a < 6 → ∀ b, b < 6 → a ≠ b → (TX2 a).2.1 ≠ (TX2 b).2.1 := by decide +kernel
theorem tyX2_ok : ∀ k, k < 6 → parseFieldDescriptor (TX2 k).2.2.1 = some (tyX2 k) := by decide +kernel
abbrev cX2_init : ByteArray := prog_4_method_1_code
def yX2_init : MethodName := ⟨RX2, "<init>", "(LColdStore$Product;I)V"⟩
abbrev cX2_fact : ByteArray := prog_4_method_2_code
def yX2_fact : MethodName := ⟨RX2, "fact", "(I)I"⟩
abbrev cX2_isHere : ByteArray := prog_4_method_3_code
def yX2_isHere : MethodName := ⟨RX2, "isHere", "()Z"⟩
abbrev cX2_isHereWith : ByteArray := prog_4_method_4_code
def yX2_isHereWith : MethodName := ⟨RX2, "isHereWith", "(LColdStore$Product;)Z"⟩
abbrev cX2_left : ByteArray := prog_4_method_5_code
def yX2_left : MethodName := ⟨RX2, "left", "()I"⟩
abbrev cX2_isSpoiled : ByteArray := prog_4_method_6_code
def yX2_isSpoiled : MethodName := ⟨RX2, "isSpoiled", "()Z"⟩
abbrev cX2_adaptTo : ByteArray := prog_4_method_7_code
def yX2_adaptTo : MethodName := ⟨RX2, "adaptTo", "(I)V"⟩
abbrev cX2_remember : ByteArray := prog_4_method_8_code
def yX2_remember : MethodName := ⟨RX2, "remember", "()V"⟩
abbrev cX2_recall : ByteArray := prog_4_method_9_code
def yX2_recall : MethodName := ⟨RX2, "recall", "()V"⟩
def RX3 : String := "ColdStore$Product"
def TX3 : u_T := fun k => match k with
  | 0 => ("ColdStore$Product", "number", "I", true)
  | 1 => ("ColdStore$Product", "low", "I", true)
  | 2 => ("ColdStore$Product", "high", "I", true)
  | 3 => ("ColdStore$Product", "life", "I", true)
  | _ => ("ColdStore$Product", "smell", "I", true)
def tyX3 : Nat → FieldType := fun k => match k with
  | 0 => .int
  | 1 => .int
  | 2 => .int
  | 3 => .int
  | _ => .int
abbrev wsX30 : List Cond := u_ws RX3 TX3 5
theorem nmX3 : ∀ a, a < 5 → ∀ b, b < 5 → a ≠ b → (TX3 a).2.1 ≠ (TX3 b).2.1 := by decide +kernel
theorem tyX3_ok : ∀ k, k < 5 → parseFieldDescriptor (TX3 k).2.2.1 = some (tyX3 k) := by decide +kernel
abbrev cX3_init : ByteArray := prog_5_method_1_code
def yX3_init : MethodName := ⟨RX3, "<init>", "(IIIII)V"⟩
abbrev cX3_distanceFromSuiting : ByteArray := prog_5_method_2_code
def yX3_distanceFromSuiting : MethodName := ⟨RX3, "distanceFromSuiting", "(I)I"⟩
abbrev cX3_goesWith : ByteArray := prog_5_method_3_code
def yX3_goesWith : MethodName := ⟨RX3, "goesWith", "(LColdStore$Product;)Z"⟩
abbrev cX3_disturbs : ByteArray := prog_5_method_4_code
def yX3_disturbs : MethodName := ⟨RX3, "disturbs", "(LColdStore$Product;)Z"⟩
def RX4 : String := "ColdStore$Room"
def TX4 : u_T := fun k => match k with
  | 0 => ("ColdStore$Room", "number", "I", true)
  | 1 => ("ColdStore$Room", "wall", "I", true)
  | 2 => ("ColdStore$Room", "machine", "LColdStore$Machine;", true)
  | 3 => ("ColdStore$Room", "places", "[LColdStore$Pallet;", true)
  | 4 => ("ColdStore$Room", "aim", "I", false)
  | 5 => ("ColdStore$Room", "isThrifty", "Z", false)
  | 6 => ("ColdStore$Room", "temperature", "I", false)
  | 7 => ("ColdStore$Room", "warmHours", "I", false)
  | 8 => ("ColdStore$Room", "rememberedMachine", "LColdStore$Machine;", true)
  | 9 => ("ColdStore$Room", "rememberedTemperature", "I", false)
  | _ => ("ColdStore$Room", "rememberedWarmHours", "I", false)
def tyX4 : Nat → FieldType := fun k => match k with
  | 0 => .int
  | 1 => .int
  | 2 => .object "ColdStore$Machine"
  | 3 => .array (.object "ColdStore$Pallet")
  | 4 => .int
  | 5 => .boolean
  | 6 => .int
  | 7 => .int
  | 8 => .object "ColdStore$Machine"
  | 9 => .int
  | _ => .int
abbrev wsX40 : List Cond := u_ws RX4 TX4 11
theorem nmX4 : ∀ a, a < 11 → ∀ b, b < 11 → a ≠ b → (TX4 a).2.1 ≠ (TX4 b).2.1 := by decide +kernel
theorem tyX4_ok : ∀ k, k < 11 → parseFieldDescriptor (TX4 k).2.2.1 = some (tyX4 k) := by decide +kernel
abbrev cX4_init : ByteArray := prog_6_method_1_code
def yX4_init : MethodName := ⟨RX4, "<init>", "(IIIII)V"⟩
abbrev cX4_fact : ByteArray := prog_6_method_2_code
def yX4_fact : MethodName := ⟨RX4, "fact", "(I)I"⟩
abbrev cX4_freePlaces : ByteArray := prog_6_method_3_code
def yX4_freePlaces : MethodName := ⟨RX4, "freePlaces", "()I"⟩
abbrev cX4_reasonAgainst : ByteArray := prog_6_method_4_code
def yX4_reasonAgainst : MethodName := ⟨RX4, "reasonAgainst", "(LColdStore$Product;)I"⟩
abbrev cX4_accepts : ByteArray := prog_6_method_5_code
def yX4_accepts : MethodName := ⟨RX4, "accepts", "(LColdStore$Product;)Z"⟩
abbrev cX4_isBetterFor : ByteArray := prog_6_method_6_code
def yX4_isBetterFor : MethodName := ⟨RX4, "isBetterFor", "(LColdStore$Product;LColdStore$Room;)Z"⟩
abbrev cX4_take : ByteArray := prog_6_method_7_code
def yX4_take : MethodName := ⟨RX4, "take", "(LColdStore$Pallet;)V"⟩
abbrev cX4_release : ByteArray := prog_6_method_8_code
def yX4_release : MethodName := ⟨RX4, "release", "(LColdStore$Pallet;)V"⟩
abbrev cX4_passHour : ByteArray := prog_6_method_9_code
def yX4_passHour : MethodName := ⟨RX4, "passHour", "(IZ)I"⟩
abbrev cX4_warmthOfPallets : ByteArray := prog_6_method_10_code
def yX4_warmthOfPallets : MethodName := ⟨RX4, "warmthOfPallets", "()I"⟩
abbrev cX4_remember : ByteArray := prog_6_method_11_code
def yX4_remember : MethodName := ⟨RX4, "remember", "()V"⟩
abbrev cX4_recall : ByteArray := prog_6_method_12_code
def yX4_recall : MethodName := ⟨RX4, "recall", "()V"⟩
def RX5 : String := "ColdStore$Tariff"
def TX5 : u_T := fun k => match k with
  | 0 => ("ColdStore$Tariff", "prices", "[I", true)
  | _ => ("ColdStore$Tariff", "lowest", "I", false)
def tyX5 : Nat → FieldType := fun k => match k with
  | 0 => .array .int
  | _ => .int
abbrev wsX50 : List Cond := u_ws RX5 TX5 2
theorem nmX5 : ∀ a, a < 2 → ∀ b, b < 2 → a ≠ b → (TX5 a).2.1 ≠ (TX5 b).2.1 := by decide +kernel
theorem tyX5_ok : ∀ k, k < 2 → parseFieldDescriptor (TX5 k).2.2.1 = some (tyX5 k) := by decide +kernel
abbrev cX5_init : ByteArray := prog_7_method_1_code
def yX5_init : MethodName := ⟨RX5, "<init>", "()V"⟩
abbrev cX5_charge : ByteArray := prog_7_method_2_code
def yX5_charge : MethodName := ⟨RX5, "charge", "(III)V"⟩
abbrev cX5_priceAt : ByteArray := prog_7_method_3_code
def yX5_priceAt : MethodName := ⟨RX5, "priceAt", "(I)I"⟩
abbrev cX5_isLowestAt : ByteArray := prog_7_method_4_code
def yX5_isLowestAt : MethodName := ⟨RX5, "isLowestAt", "(I)Z"⟩
def RX6 : String := "ColdStore"
def TX6 : u_T := fun k => match k with
  | 0 => ("ColdStore", "air", "LColdStore$Air;", true)
  | 1 => ("ColdStore", "tariff", "LColdStore$Tariff;", true)
  | 2 => ("ColdStore", "products", "[LColdStore$Product;", true)
  | 3 => ("ColdStore", "rooms", "[LColdStore$Room;", true)
  | 4 => ("ColdStore", "pallets", "[LColdStore$Pallet;", true)
  | 5 => ("ColdStore", "productCount", "I", false)
  | 6 => ("ColdStore", "roomCount", "I", false)
  | 7 => ("ColdStore", "palletCount", "I", false)
  | 8 => ("ColdStore", "shippedCount", "I", false)
  | 9 => ("ColdStore", "time", "I", false)
  | _ => ("ColdStore", "paid", "J", false)
def tyX6 : Nat → FieldType := fun k => match k with
  | 0 => .object "ColdStore$Air"
  | 1 => .object "ColdStore$Tariff"
  | 2 => .array (.object "ColdStore$Product")
  | 3 => .array (.object "ColdStore$Room")
  | 4 => .array (.object "ColdStore$Pallet")
  | 5 => .int
  | 6 => .int
  | 7 => .int
  | 8 => .int
  | 9 => .int
  | _ => .long
abbrev wsX60 : List Cond := u_ws RX6 TX6 11
theorem nmX6 : ∀ a, a < 11 → ∀ b, b < 11 → a ≠ b → (TX6 a).2.1 ≠ (TX6 b).2.1 := by decide +kernel
theorem tyX6_ok : ∀ k, k < 11 → parseFieldDescriptor (TX6 k).2.2.1 = some (tyX6 k) := by decide +kernel
abbrev cX6_init : ByteArray := prog_1_method_1_code
def yX6_init : MethodName := ⟨RX6, "<init>", "()V"⟩
abbrev cX6_setOutside : ByteArray := prog_1_method_2_code
def yX6_setOutside : MethodName := ⟨RX6, "setOutside", "(II)I"⟩
abbrev cX6_outside : ByteArray := prog_1_method_3_code
def yX6_outside : MethodName := ⟨RX6, "outside", "(I)I"⟩
abbrev cX6_setPrice : ByteArray := prog_1_method_4_code
def yX6_setPrice : MethodName := ⟨RX6, "setPrice", "(III)I"⟩
abbrev cX6_addProduct : ByteArray := prog_1_method_5_code
def yX6_addProduct : MethodName := ⟨RX6, "addProduct", "(IIII)I"⟩
abbrev cX6_addRoom : ByteArray := prog_1_method_6_code
def yX6_addRoom : MethodName := ⟨RX6, "addRoom", "(IIII)I"⟩
abbrev cX6_setRoom : ByteArray := prog_1_method_7_code
def yX6_setRoom : MethodName := ⟨RX6, "setRoom", "(IIZ)I"⟩
abbrev cX6_defrost : ByteArray := prog_1_method_8_code
def yX6_defrost : MethodName := ⟨RX6, "defrost", "(I)I"⟩
abbrev cX6_room : ByteArray := prog_1_method_9_code
def yX6_room : MethodName := ⟨RX6, "room", "(II)I"⟩
abbrev cX6_reason : ByteArray := prog_1_method_10_code
def yX6_reason : MethodName := ⟨RX6, "reason", "(II)I"⟩
abbrev cX6_arrive : ByteArray := prog_1_method_11_code
def yX6_arrive : MethodName := ⟨RX6, "arrive", "(III)I"⟩
abbrev cX6_move : ByteArray := prog_1_method_12_code
def yX6_move : MethodName := ⟨RX6, "move", "(II)I"⟩
abbrev cX6_pallet : ByteArray := prog_1_method_13_code
def yX6_pallet : MethodName := ⟨RX6, "pallet", "(II)I"⟩
abbrev cX6_bestRoom : ByteArray := prog_1_method_14_code
def yX6_bestRoom : MethodName := ⟨RX6, "bestRoom", "(I)I"⟩
abbrev cX6_ship : ByteArray := prog_1_method_15_code
def yX6_ship : MethodName := ⟨RX6, "ship", "(III)I"⟩
abbrev cX6_clear : ByteArray := prog_1_method_16_code
def yX6_clear : MethodName := ⟨RX6, "clear", "()I"⟩
abbrev cX6_stock : ByteArray := prog_1_method_17_code
def yX6_stock : MethodName := ⟨RX6, "stock", "(IZ)I"⟩
abbrev cX6_count : ByteArray := prog_1_method_18_code
def yX6_count : MethodName := ⟨RX6, "count", "(I)I"⟩
abbrev cX6_tick : ByteArray := prog_1_method_19_code
def yX6_tick : MethodName := ⟨RX6, "tick", "(I)I"⟩
abbrev cX6_foretell : ByteArray := prog_1_method_20_code
def yX6_foretell : MethodName := ⟨RX6, "foretell", "(II)I"⟩
abbrev cX6_lasts : ByteArray := prog_1_method_21_code
def yX6_lasts : MethodName := ⟨RX6, "lasts", "(I)I"⟩
abbrev cX6_now : ByteArray := prog_1_method_22_code
def yX6_now : MethodName := ⟨RX6, "now", "()I"⟩
abbrev cX6_paid : ByteArray := prog_1_method_23_code
def yX6_paid : MethodName := ⟨RX6, "paid", "()J"⟩
abbrev cX6_freshness : ByteArray := prog_1_method_24_code
def yX6_freshness : MethodName := ⟨RX6, "freshness", "(I)D"⟩
abbrev cX6_digest : ByteArray := prog_1_method_25_code
def yX6_digest : MethodName := ⟨RX6, "digest", "()J"⟩
abbrev cX6_requireWithin : ByteArray := prog_1_method_26_code
def yX6_requireWithin : MethodName := ⟨RX6, "requireWithin", "(III)V"⟩
abbrev cX6_requireFact : ByteArray := prog_1_method_27_code
def yX6_requireFact : MethodName := ⟨RX6, "requireFact", "(II)V"⟩
abbrev cX6_existingProduct : ByteArray := prog_1_method_28_code
def yX6_existingProduct : MethodName := ⟨RX6, "existingProduct", "(I)LColdStore$Product;"⟩
abbrev cX6_existingRoom : ByteArray := prog_1_method_29_code
def yX6_existingRoom : MethodName := ⟨RX6, "existingRoom", "(I)LColdStore$Room;"⟩
abbrev cX6_existingPallet : ByteArray := prog_1_method_30_code
def yX6_existingPallet : MethodName := ⟨RX6, "existingPallet", "(I)LColdStore$Pallet;"⟩
abbrev cX6_countOf : ByteArray := prog_1_method_31_code
def yX6_countOf : MethodName := ⟨RX6, "countOf", "(I)I"⟩
abbrev cX6_palletsHere : ByteArray := prog_1_method_32_code
def yX6_palletsHere : MethodName := ⟨RX6, "palletsHere", "()I"⟩
abbrev cX6_spoiledHere : ByteArray := prog_1_method_33_code
def yX6_spoiledHere : MethodName := ⟨RX6, "spoiledHere", "()I"⟩
abbrev cX6_nextToShip : ByteArray := prog_1_method_34_code
def yX6_nextToShip : MethodName := ⟨RX6, "nextToShip", "(LColdStore$Product;I)LColdStore$Pallet;"⟩
abbrev cX6_leave : ByteArray := prog_1_method_35_code
def yX6_leave : MethodName := ⟨RX6, "leave", "(LColdStore$Pallet;)V"⟩
abbrev cX6_passHourEverywhere : ByteArray := prog_1_method_36_code
def yX6_passHourEverywhere : MethodName := ⟨RX6, "passHourEverywhere", "()V"⟩
abbrev cX6_passHourIn : ByteArray := prog_1_method_37_code
def yX6_passHourIn : MethodName := ⟨RX6, "passHourIn", "(LColdStore$Room;I)I"⟩
abbrev cX6_mix : ByteArray := prog_1_method_38_code
def yX6_mix : MethodName := ⟨RX6, "mix", "(JJ)J"⟩
abbrev cX6_mixRooms : ByteArray := prog_1_method_39_code
def yX6_mixRooms : MethodName := ⟨RX6, "mixRooms", "(J)J"⟩
abbrev cX6_mixPallets : ByteArray := prog_1_method_40_code
def yX6_mixPallets : MethodName := ⟨RX6, "mixPallets", "(J)J"⟩
def RX7 : String := "ColdStoreModel"
def TX7 : u_T := fun k => match k with
  | 0 => ("ColdStoreModel", "thrown", "I", false)
  | 1 => ("ColdStoreModel", "now", "I", false)
  | 2 => ("ColdStoreModel", "base", "I", false)
  | 3 => ("ColdStoreModel", "swing", "I", false)
  | 4 => ("ColdStoreModel", "prices", "[I", true)
  | 5 => ("ColdStoreModel", "paid", "J", false)
  | 6 => ("ColdStoreModel", "products", "I", false)
  | 7 => ("ColdStoreModel", "lows", "[I", true)
  | 8 => ("ColdStoreModel", "highs", "[I", true)
  | 9 => ("ColdStoreModel", "lives", "[I", true)
  | 10 => ("ColdStoreModel", "smells", "[I", true)
  | 11 => ("ColdStoreModel", "rooms", "I", false)
  | 12 => ("ColdStoreModel", "places", "[I", true)
  | 13 => ("ColdStoreModel", "walls", "[I", true)
  | 14 => ("ColdStoreModel", "powers", "[I", true)
  | 15 => ("ColdStoreModel", "aims", "[I", true)
  | 16 => ("ColdStoreModel", "areThrifty", "[Z", true)
  | 17 => ("ColdStoreModel", "states", "[I", true)
  | 18 => ("ColdStoreModel", "pallets", "I", false)
  | 19 => ("ColdStoreModel", "productOf", "[I", true)
  | 20 => ("ColdStoreModel", "roomOf", "[I", true)
  | 21 => ("ColdStoreModel", "temperatures", "[I", true)
  | 22 => ("ColdStoreModel", "ages", "[I", true)
  | _ => ("ColdStoreModel", "shipped", "I", false)
def tyX7 : Nat → FieldType := fun k => match k with
  | 0 => .int
  | 1 => .int
  | 2 => .int
  | 3 => .int
  | 4 => .array .int
  | 5 => .long
  | 6 => .int
  | 7 => .array .int
  | 8 => .array .int
  | 9 => .array .int
  | 10 => .array .int
  | 11 => .int
  | 12 => .array .int
  | 13 => .array .int
  | 14 => .array .int
  | 15 => .array .int
  | 16 => .array .boolean
  | 17 => .array .int
  | 18 => .int
  | 19 => .array .int
  | 20 => .array .int
  | 21 => .array .int
  | 22 => .array .int
  | _ => .int
abbrev wsX70 : List Cond := u_ws RX7 TX7 24
theorem nmX7 : ∀ a, a < 24 → ∀ b, b < 24 → a ≠ b → (TX7 a).2.1 ≠ (TX7 b).2.1 := by decide +kernel
theorem tyX7_ok : ∀ k, k < 24 → parseFieldDescriptor (TX7 k).2.2.1 = some (tyX7 k) := by decide +kernel
abbrev cX7_init : ByteArray := prog_9_method_1_code
def yX7_init : MethodName := ⟨RX7, "<init>", "()V"⟩
abbrev cX7_thrown : ByteArray := prog_9_method_2_code
def yX7_thrown : MethodName := ⟨RX7, "thrown", "()I"⟩
abbrev cX7_no : ByteArray := prog_9_method_3_code
def yX7_no : MethodName := ⟨RX7, "no", "(I)I"⟩
abbrev cX7_isIn : ByteArray := prog_9_method_4_code
def yX7_isIn : MethodName := ⟨RX7, "isIn", "(III)Z"⟩
abbrev cX7_isProduct : ByteArray := prog_9_method_5_code
def yX7_isProduct : MethodName := ⟨RX7, "isProduct", "(I)Z"⟩
abbrev cX7_isRoom : ByteArray := prog_9_method_6_code
def yX7_isRoom : MethodName := ⟨RX7, "isRoom", "(I)Z"⟩
abbrev cX7_isPallet : ByteArray := prog_9_method_7_code
def yX7_isPallet : MethodName := ⟨RX7, "isPallet", "(I)Z"⟩
abbrev cX7_outsideAt : ByteArray := prog_9_method_8_code
def yX7_outsideAt : MethodName := ⟨RX7, "outsideAt", "(I)I"⟩
abbrev cX7_setOutside : ByteArray := prog_9_method_9_code
def yX7_setOutside : MethodName := ⟨RX7, "setOutside", "(II)I"⟩
abbrev cX7_outside : ByteArray := prog_9_method_10_code
def yX7_outside : MethodName := ⟨RX7, "outside", "(I)I"⟩
abbrev cX7_lowest : ByteArray := prog_9_method_11_code
def yX7_lowest : MethodName := ⟨RX7, "lowest", "()I"⟩
abbrev cX7_setPrice : ByteArray := prog_9_method_12_code
def yX7_setPrice : MethodName := ⟨RX7, "setPrice", "(III)I"⟩
abbrev cX7_addProduct : ByteArray := prog_9_method_13_code
def yX7_addProduct : MethodName := ⟨RX7, "addProduct", "(IIII)I"⟩
abbrev cX7_isAim : ByteArray := prog_9_method_14_code
def yX7_isAim : MethodName := ⟨RX7, "isAim", "(I)Z"⟩
abbrev cX7_addRoom : ByteArray := prog_9_method_15_code
def yX7_addRoom : MethodName := ⟨RX7, "addRoom", "(IIII)I"⟩
abbrev cX7_setRoom : ByteArray := prog_9_method_16_code
def yX7_setRoom : MethodName := ⟨RX7, "setRoom", "(IIZ)I"⟩
abbrev cX7_defrost : ByteArray := prog_9_method_17_code
def yX7_defrost : MethodName := ⟨RX7, "defrost", "(I)I"⟩
abbrev cX7_free : ByteArray := prog_9_method_18_code
def yX7_free : MethodName := ⟨RX7, "free", "(I)I"⟩
abbrev cX7_toldOfRoom : ByteArray := prog_9_method_19_code
def yX7_toldOfRoom : MethodName := ⟨RX7, "toldOfRoom", "(II)I"⟩
abbrev cX7_room : ByteArray := prog_9_method_20_code
def yX7_room : MethodName := ⟨RX7, "room", "(II)I"⟩
abbrev cX7_goTogether : ByteArray := prog_9_method_21_code
def yX7_goTogether : MethodName := ⟨RX7, "goTogether", "(II)Z"⟩
abbrev cX7_reasonFor : ByteArray := prog_9_method_22_code
def yX7_reasonFor : MethodName := ⟨RX7, "reasonFor", "(II)I"⟩
abbrev cX7_reason : ByteArray := prog_9_method_23_code
def yX7_reason : MethodName := ⟨RX7, "reason", "(II)I"⟩
abbrev cX7_arrive : ByteArray := prog_9_method_24_code
def yX7_arrive : MethodName := ⟨RX7, "arrive", "(III)I"⟩
abbrev cX7_move : ByteArray := prog_9_method_25_code
def yX7_move : MethodName := ⟨RX7, "move", "(II)I"⟩
abbrev cX7_leftOf : ByteArray := prog_9_method_26_code
def yX7_leftOf : MethodName := ⟨RX7, "leftOf", "(I)I"⟩
abbrev cX7_toldOfPallet : ByteArray := prog_9_method_27_code
def yX7_toldOfPallet : MethodName := ⟨RX7, "toldOfPallet", "(II)I"⟩
abbrev cX7_pallet : ByteArray := prog_9_method_28_code
def yX7_pallet : MethodName := ⟨RX7, "pallet", "(II)I"⟩
abbrev cX7_off : ByteArray := prog_9_method_29_code
def yX7_off : MethodName := ⟨RX7, "off", "(II)I"⟩
abbrev cX7_bestRoom : ByteArray := prog_9_method_30_code
def yX7_bestRoom : MethodName := ⟨RX7, "bestRoom", "(I)I"⟩
abbrev cX7_ship : ByteArray := prog_9_method_31_code
def yX7_ship : MethodName := ⟨RX7, "ship", "(III)I"⟩
abbrev cX7_there : ByteArray := prog_9_method_32_code
def yX7_there : MethodName := ⟨RX7, "there", "(IZ)I"⟩
abbrev cX7_clear : ByteArray := prog_9_method_33_code
def yX7_clear : MethodName := ⟨RX7, "clear", "()I"⟩
abbrev cX7_stock : ByteArray := prog_9_method_34_code
def yX7_stock : MethodName := ⟨RX7, "stock", "(IZ)I"⟩
abbrev cX7_counted : ByteArray := prog_9_method_35_code
def yX7_counted : MethodName := ⟨RX7, "counted", "(I)I"⟩
abbrev cX7_count : ByteArray := prog_9_method_36_code
def yX7_count : MethodName := ⟨RX7, "count", "(I)I"⟩
abbrev cX7_setMachine : ByteArray := prog_9_method_37_code
def yX7_setMachine : MethodName := ⟨RX7, "setMachine", "(II)V"⟩
abbrev cX7_hour : ByteArray := prog_9_method_38_code
def yX7_hour : MethodName := ⟨RX7, "hour", "(II)V"⟩
abbrev cX7_tick : ByteArray := prog_9_method_39_code
def yX7_tick : MethodName := ⟨RX7, "tick", "(I)I"⟩
abbrev cX7_ahead : ByteArray := prog_9_method_40_code
def yX7_ahead : MethodName := ⟨RX7, "ahead", "(III)[I"⟩
abbrev cX7_foretell : ByteArray := prog_9_method_41_code
def yX7_foretell : MethodName := ⟨RX7, "foretell", "(II)I"⟩
abbrev cX7_lasts : ByteArray := prog_9_method_42_code
def yX7_lasts : MethodName := ⟨RX7, "lasts", "(I)I"⟩
abbrev cX7_now : ByteArray := prog_9_method_43_code
def yX7_now : MethodName := ⟨RX7, "now", "()I"⟩
abbrev cX7_paid : ByteArray := prog_9_method_44_code
def yX7_paid : MethodName := ⟨RX7, "paid", "()J"⟩
abbrev cX7_freshness : ByteArray := prog_9_method_45_code
def yX7_freshness : MethodName := ⟨RX7, "freshness", "(I)D"⟩
abbrev cX7_digest : ByteArray := prog_9_method_46_code
def yX7_digest : MethodName := ⟨RX7, "digest", "()J"⟩
def RJx8e188 : String := "java/lang/Cloneable"
def TJx8e188 : u_T := fun k => match k with
  | _ => ("", "", "", false)
def tyJx8e188 : Nat → FieldType := fun k => match k with
  | _ => .int
abbrev wsJx8e1880 : List Cond := u_ws RJx8e188 TJx8e188 0
theorem nmJx8e188 : ∀ a, a < 0 → ∀ b, b < 0 → a ≠ b → (TJx8e188 a).2.1 ≠ (TJx8e188 b).2.1 := by decide +kernel
theorem tyJx8e188_ok : ∀ k, k < 0 → parseFieldDescriptor (TJx8e188 k).2.2.1 = some (tyJx8e188 k) := by decide +kernel
def RJ9 : String := "java/lang/Math"
def TJ9 : u_T := fun k => match k with
  | _ => ("", "", "", false)
def tyJ9 : Nat → FieldType := fun k => match k with
  | _ => .int
abbrev wsJ90 : List Cond := u_ws RJ9 TJ9 0
theorem nmJ9 : ∀ a, a < 0 → ∀ b, b < 0 → a ≠ b → (TJ9 a).2.1 ≠ (TJ9 b).2.1 := by decide +kernel
theorem tyJ9_ok : ∀ k, k < 0 → parseFieldDescriptor (TJ9 k).2.2.1 = some (tyJ9 k) := by decide +kernel
abbrev cJ9_floorMod_7cf53 : ByteArray := prog_15_method_50_code
def yJ9_floorMod_7cf53 : MethodName := ⟨RJ9, "floorMod", "(II)I"⟩
abbrev cJ9_abs_0f7a4 : ByteArray := prog_15_method_59_code
def yJ9_abs_0f7a4 : MethodName := ⟨RJ9, "abs", "(I)I"⟩
abbrev cJ9_max_7cf53 : ByteArray := prog_15_method_65_code
def yJ9_max_7cf53 : MethodName := ⟨RJ9, "max", "(II)I"⟩
abbrev cJ9_min_7cf53 : ByteArray := prog_15_method_69_code
def yJ9_min_7cf53 : MethodName := ⟨RJ9, "min", "(II)I"⟩
def RJ0 : String := "java/lang/String"
def TJ0 : u_T := fun k => match k with
  | _ => ("", "", "", false)
def tyJ0 : Nat → FieldType := fun k => match k with
  | _ => .int
abbrev wsJ00 : List Cond := u_ws RJ0 TJ0 0
theorem nmJ0 : ∀ a, a < 0 → ∀ b, b < 0 → a ≠ b → (TJ0 a).2.1 ≠ (TJ0 b).2.1 := by decide +kernel
theorem tyJ0_ok : ∀ k, k < 0 → parseFieldDescriptor (TJ0 k).2.2.1 = some (tyJ0 k) := by decide +kernel
def RJ10 : String := "java/lang/System"
def TJ10 : u_T := fun k => match k with
  | _ => ("", "", "", false)
def tyJ10 : Nat → FieldType := fun k => match k with
  | _ => .int
abbrev wsJ100 : List Cond := u_ws RJ10 TJ10 0
theorem nmJ10 : ∀ a, a < 0 → ∀ b, b < 0 → a ≠ b → (TJ10 a).2.1 ≠ (TJ10 b).2.1 := by decide +kernel
theorem tyJ10_ok : ∀ k, k < 0 → parseFieldDescriptor (TJ10 k).2.2.1 = some (tyJ10 k) := by decide +kernel
def RL : String := "ColdStoreLaw"
abbrev cL_setOutside : ByteArray := method_3_code
def yL_setOutside : MethodName := ⟨RL, "setOutside", "(LColdStore;II[J)I"⟩
abbrev cL_outside : ByteArray := method_4_code
def yL_outside : MethodName := ⟨RL, "outside", "(LColdStore;I[J)I"⟩
abbrev cL_setPrice : ByteArray := method_5_code
def yL_setPrice : MethodName := ⟨RL, "setPrice", "(LColdStore;III[J)I"⟩
abbrev cL_addProduct : ByteArray := method_6_code
def yL_addProduct : MethodName := ⟨RL, "addProduct", "(LColdStore;IIII[J)I"⟩
abbrev cL_addRoom : ByteArray := method_7_code
def yL_addRoom : MethodName := ⟨RL, "addRoom", "(LColdStore;IIII[J)I"⟩
abbrev cL_setRoom : ByteArray := method_8_code
def yL_setRoom : MethodName := ⟨RL, "setRoom", "(LColdStore;IIZ[J)I"⟩
abbrev cL_defrost : ByteArray := method_9_code
def yL_defrost : MethodName := ⟨RL, "defrost", "(LColdStore;I[J)I"⟩
abbrev cL_room : ByteArray := method_10_code
def yL_room : MethodName := ⟨RL, "room", "(LColdStore;II[J)I"⟩
abbrev cL_reason : ByteArray := method_11_code
def yL_reason : MethodName := ⟨RL, "reason", "(LColdStore;II[J)I"⟩
abbrev cL_arrive : ByteArray := method_12_code
def yL_arrive : MethodName := ⟨RL, "arrive", "(LColdStore;III[J)I"⟩
abbrev cL_move : ByteArray := method_13_code
def yL_move : MethodName := ⟨RL, "move", "(LColdStore;II[J)I"⟩
abbrev cL_pallet : ByteArray := method_14_code
def yL_pallet : MethodName := ⟨RL, "pallet", "(LColdStore;II[J)I"⟩
abbrev cL_bestRoom : ByteArray := method_15_code
def yL_bestRoom : MethodName := ⟨RL, "bestRoom", "(LColdStore;I[J)I"⟩
abbrev cL_ship : ByteArray := method_16_code
def yL_ship : MethodName := ⟨RL, "ship", "(LColdStore;III[J)I"⟩
abbrev cL_stock : ByteArray := method_17_code
def yL_stock : MethodName := ⟨RL, "stock", "(LColdStore;IZ[J)I"⟩
abbrev cL_count : ByteArray := method_18_code
def yL_count : MethodName := ⟨RL, "count", "(LColdStore;I[J)I"⟩
abbrev cL_tick : ByteArray := method_19_code
def yL_tick : MethodName := ⟨RL, "tick", "(LColdStore;I[J)I"⟩
abbrev cL_foretell : ByteArray := method_20_code
def yL_foretell : MethodName := ⟨RL, "foretell", "(LColdStore;II[J)I"⟩
abbrev cL_lasts : ByteArray := method_21_code
def yL_lasts : MethodName := ⟨RL, "lasts", "(LColdStore;I[J)I"⟩
abbrev cL_freshness : ByteArray := method_22_code
def yL_freshness : MethodName := ⟨RL, "freshness", "(LColdStore;I[D)I"⟩
abbrev cL_law : ByteArray := code
def yL_law : MethodName := ⟨RL, "law", "([I)Z"⟩
abbrev vwCl : List vw_C := [(RX0, TX0, 2), (RX1, TX1, 5), (RX2, TX2, 6), (RX3, TX3, 5), (RX4, TX4, 11), (RX5, TX5, 2), (RX6, TX6, 11), (RX7, TX7, 24)]
end
section
/-! the words of the tables that every method may use: all good ones, in one list -/
def allW : List Cond := lw_tbl.filter goodWord
theorem allG : GoodIn allW allW := fun w h => ⟨h, good_of_word (List.mem_filter.mp h).2⟩
theorem allT : ∀ w ∈ allW, w ∈ lw_tbl := fun w h => (List.mem_filter.mp h).1
theorem tt1 : ∀ w ∈ tables_1_1, w ∈ lw_tbl := fun _ h => List.mem_append_right _ (List.mem_append_left _ h)
theorem tb1 {w : Cond} (i : Nat) (h : tables_1_1[i]? = some w) (g : goodWord w = true) : w ∈ allW := List.mem_filter.mpr ⟨tt1 w (List.mem_of_getElem? h), g⟩
theorem tt2 : ∀ w ∈ tables_1_2, w ∈ lw_tbl := fun _ h => List.mem_append_right _ (List.mem_append_right _ (List.mem_append_left _ h))
theorem tb2 {w : Cond} (i : Nat) (h : tables_1_2[i]? = some w) (g : goodWord w = true) : w ∈ allW := List.mem_filter.mpr ⟨tt2 w (List.mem_of_getElem? h), g⟩
theorem tt3 : ∀ w ∈ tables_1_3, w ∈ lw_tbl := fun _ h => List.mem_append_right _ (List.mem_append_right _ (List.mem_append_right _ (List.mem_append_left _ h)))
theorem tb3 {w : Cond} (i : Nat) (h : tables_1_3[i]? = some w) (g : goodWord w = true) : w ∈ allW := List.mem_filter.mpr ⟨tt3 w (List.mem_of_getElem? h), g⟩
theorem tt4 : ∀ w ∈ tables_1_4, w ∈ lw_tbl := fun _ h => List.mem_append_right _ (List.mem_append_right _ (List.mem_append_right _ (List.mem_append_right _ (List.mem_append_left _ h))))
theorem tb4 {w : Cond} (i : Nat) (h : tables_1_4[i]? = some w) (g : goodWord w = true) : w ∈ allW := List.mem_filter.mpr ⟨tt4 w (List.mem_of_getElem? h), g⟩
theorem tt5 : ∀ w ∈ tables_1_5, w ∈ lw_tbl := fun _ h => List.mem_append_right _ (List.mem_append_right _ (List.mem_append_right _ (List.mem_append_right _ (List.mem_append_right _ h))))
theorem tb5 {w : Cond} (i : Nat) (h : tables_1_5[i]? = some w) (g : goodWord w = true) : w ∈ allW := List.mem_filter.mpr ⟨tt5 w (List.mem_of_getElem? h), g⟩
theorem tpS (q : MethodName × Nat) (h : q ∈ lw_privs) : Cond.selects q.1.cls q.1 q.1 ∈ allW := List.mem_filter.mpr ⟨List.mem_append_left _ (List.mem_map.mpr ⟨q, h, rfl⟩), rfl⟩
theorem wd_cl_L_8 : Cond.classLink RL 8 RX6 ∈ allW := tb1 17 rfl rfl
theorem wd_it_RX6 : Cond.instantiable RX6 11 ∈ allW := tb1 18 rfl rfl
theorem wd_in_RX6 : Cond.initialized RX6 ∈ allW := tb1 1 rfl rfl
theorem wd_cl_L_83 : Cond.classLink RL 83 RX7 ∈ allW := tb3 211 rfl rfl
theorem wd_it_RX7 : Cond.instantiable RX7 24 ∈ allW := tb3 212 rfl rfl
theorem wd_in_RX7 : Cond.initialized RX7 ∈ allW := tb1 4 rfl rfl
theorem wd_ac_long : Cond.arrayClass .long ∈ allW := tb5 6 rfl rfl
theorem wd_ac_double : Cond.arrayClass .double ∈ allW := tb5 7 rfl rfl
theorem wd_ml_L_82 : Cond.methodLink RL 82 yX6_init ∈ allW := tb1 19 rfl rfl
theorem wd_im_yX6_init : Cond.instanceMethod yX6_init ∈ allW := tb1 20 rfl rfl
theorem wd_co_yX6_init : Cond.code yX6_init cX6_init 1 none ∈ allW := tb1 21 rfl rfl
theorem wd_ml_X6_1 : Cond.methodLink RX6 1 objectInit ∈ allW := tb1 22 rfl rfl
theorem wd_im__java_lang_Object__init____V_ : Cond.instanceMethod objectInit ∈ allW := tb1 23 rfl rfl
theorem wd_co__java_lang_Object__init____V_ : Cond.code objectInit ⟨#[0xb1]⟩ 1 none ∈ allW := tb1 24 rfl rfl
theorem wd_cl_X6_7 : Cond.classLink RX6 7 RX0 ∈ allW := tb1 25 rfl rfl
theorem wd_it_RX0 : Cond.instantiable RX0 2 ∈ allW := tb1 26 rfl rfl
theorem wd_in_RX0 : Cond.initialized RX0 ∈ allW := tb1 2 rfl rfl
theorem wd_fl_X6_10 : Cond.fieldLink RX6 10 "ColdStore" "air" "LColdStore$Air;" ∈ allW := tb1 61 rfl rfl
theorem wd_cl_X6_16 : Cond.classLink RX6 16 RX5 ∈ allW := tb1 40 rfl rfl
theorem wd_it_RX5 : Cond.instantiable RX5 2 ∈ allW := tb1 41 rfl rfl
theorem wd_in_RX5 : Cond.initialized RX5 ∈ allW := tb1 3 rfl rfl
theorem wd_fl_X6_19 : Cond.fieldLink RX6 19 "ColdStore" "tariff" "LColdStore$Tariff;" ∈ allW := tb1 62 rfl rfl
theorem wd_cl_X6_23 : Cond.classLink RX6 23 RX3 ∈ allW := tb1 55 rfl rfl
theorem wd_fl_X6_25 : Cond.fieldLink RX6 25 "ColdStore" "products" "[LColdStore$Product;" ∈ allW := tb1 63 rfl rfl
theorem wd_cl_X6_29 : Cond.classLink RX6 29 RX4 ∈ allW := tb1 57 rfl rfl
theorem wd_fl_X6_31 : Cond.fieldLink RX6 31 "ColdStore" "rooms" "[LColdStore$Room;" ∈ allW := tb1 64 rfl rfl
theorem wd_cl_X6_35 : Cond.classLink RX6 35 RX2 ∈ allW := tb1 59 rfl rfl
theorem wd_fl_X6_37 : Cond.fieldLink RX6 37 "ColdStore" "pallets" "[LColdStore$Pallet;" ∈ allW := tb1 65 rfl rfl
theorem wd_fl_X6_41 : Cond.fieldLink RX6 41 "ColdStore" "productCount" "I" ∈ allW := tb1 66 rfl rfl
theorem wd_fl_X6_45 : Cond.fieldLink RX6 45 "ColdStore" "roomCount" "I" ∈ allW := tb1 67 rfl rfl
theorem wd_fl_X6_48 : Cond.fieldLink RX6 48 "ColdStore" "palletCount" "I" ∈ allW := tb1 68 rfl rfl
theorem wd_fl_X6_51 : Cond.fieldLink RX6 51 "ColdStore" "shippedCount" "I" ∈ allW := tb1 69 rfl rfl
theorem wd_fl_X6_54 : Cond.fieldLink RX6 54 "ColdStore" "time" "I" ∈ allW := tb1 70 rfl rfl
theorem wd_fl_X6_57 : Cond.fieldLink RX6 57 "ColdStore" "paid" "J" ∈ allW := tb1 71 rfl rfl
theorem wd_im_yX0_init : Cond.instanceMethod yX0_init ∈ allW := tb1 28 rfl rfl
theorem wd_co_yX0_init : Cond.code yX0_init cX0_init 1 none ∈ allW := tb1 29 rfl rfl
theorem wd_ml_X0_3 : Cond.methodLink RX0 3 objectInit ∈ allW := tb1 30 rfl rfl
theorem wd_fl_X0_9 : Cond.fieldLink RX0 9 "ColdStore$Air" "base" "I" ∈ allW := tb1 31 rfl rfl
theorem wd_fl_X0_15 : Cond.fieldLink RX0 15 "ColdStore$Air" "swing" "I" ∈ allW := tb1 33 rfl rfl
theorem wd_ml_X6_18 : Cond.methodLink RX6 18 yX5_init ∈ allW := tb1 42 rfl rfl
theorem wd_im_yX5_init : Cond.instanceMethod yX5_init ∈ allW := tb1 43 rfl rfl
theorem wd_co_yX5_init : Cond.code yX5_init cX5_init 2 none ∈ allW := tb1 44 rfl rfl
theorem wd_ml_X5_3 : Cond.methodLink RX5 3 objectInit ∈ allW := tb1 45 rfl rfl
theorem wd_ac_int : Cond.arrayClass .int ∈ allW := tb1 54 rfl rfl
theorem wd_fl_X5_9 : Cond.fieldLink RX5 9 "ColdStore$Tariff" "prices" "[I" ∈ allW := tb1 46 rfl rfl
theorem wd_fl_X5_15 : Cond.fieldLink RX5 15 "ColdStore$Tariff" "lowest" "I" ∈ allW := tb1 47 rfl rfl
theorem wd_ml_L_85 : Cond.methodLink RL 85 yX7_init ∈ allW := tb3 213 rfl rfl
theorem wd_im_yX7_init : Cond.instanceMethod yX7_init ∈ allW := tb3 214 rfl rfl
theorem wd_co_yX7_init : Cond.code yX7_init cX7_init 2 none ∈ allW := tb3 215 rfl rfl
theorem wd_ml_X7_1 : Cond.methodLink RX7 1 objectInit ∈ allW := tb3 216 rfl rfl
theorem wd_fl_X7_7 : Cond.fieldLink RX7 7 "ColdStoreModel" "base" "I" ∈ allW := tb3 219 rfl rfl
theorem wd_fl_X7_13 : Cond.fieldLink RX7 13 "ColdStoreModel" "prices" "[I" ∈ allW := tb3 221 rfl rfl
theorem wd_fl_X7_17 : Cond.fieldLink RX7 17 "ColdStoreModel" "lows" "[I" ∈ allW := tb3 224 rfl rfl
theorem wd_fl_X7_20 : Cond.fieldLink RX7 20 "ColdStoreModel" "highs" "[I" ∈ allW := tb3 225 rfl rfl
theorem wd_fl_X7_23 : Cond.fieldLink RX7 23 "ColdStoreModel" "lives" "[I" ∈ allW := tb3 226 rfl rfl
theorem wd_fl_X7_26 : Cond.fieldLink RX7 26 "ColdStoreModel" "smells" "[I" ∈ allW := tb3 227 rfl rfl
theorem wd_fl_X7_29 : Cond.fieldLink RX7 29 "ColdStoreModel" "places" "[I" ∈ allW := tb3 229 rfl rfl
theorem wd_fl_X7_32 : Cond.fieldLink RX7 32 "ColdStoreModel" "walls" "[I" ∈ allW := tb3 230 rfl rfl
theorem wd_fl_X7_35 : Cond.fieldLink RX7 35 "ColdStoreModel" "powers" "[I" ∈ allW := tb3 231 rfl rfl
theorem wd_fl_X7_38 : Cond.fieldLink RX7 38 "ColdStoreModel" "aims" "[I" ∈ allW := tb3 232 rfl rfl
theorem wd_ac_boolean : Cond.arrayClass .boolean ∈ allW := tb4 50 rfl rfl
theorem wd_fl_X7_41 : Cond.fieldLink RX7 41 "ColdStoreModel" "areThrifty" "[Z" ∈ allW := tb3 233 rfl rfl
theorem wd_fl_X7_45 : Cond.fieldLink RX7 45 "ColdStoreModel" "states" "[I" ∈ allW := tb3 234 rfl rfl
theorem wd_fl_X7_48 : Cond.fieldLink RX7 48 "ColdStoreModel" "productOf" "[I" ∈ allW := tb3 236 rfl rfl
theorem wd_fl_X7_51 : Cond.fieldLink RX7 51 "ColdStoreModel" "roomOf" "[I" ∈ allW := tb3 237 rfl rfl
theorem wd_fl_X7_54 : Cond.fieldLink RX7 54 "ColdStoreModel" "temperatures" "[I" ∈ allW := tb3 238 rfl rfl
theorem wd_fl_X7_57 : Cond.fieldLink RX7 57 "ColdStoreModel" "ages" "[I" ∈ allW := tb3 239 rfl rfl
theorem wd_ml_L_86 : Cond.methodLink RL 86 yL_setOutside ∈ allW := tb1 163 rfl rfl
theorem wd_st_yL_setOutside : Cond.static yL_setOutside ∈ allW := tb1 164 rfl rfl
theorem wd_in_RL : Cond.initialized RL ∈ allW := tb1 0 rfl rfl
theorem wd_co_yL_setOutside : Cond.codeWith yL_setOutside cL_setOutside 5 (some .int) [(0, 10, 13, 13)] ∈ allW := tb1 165 rfl rfl
theorem wd_cl_L_13 : Cond.classLink RL 13 "java/lang/IllegalArgumentException" ∈ allW := tb1 166 rfl rfl
theorem wd_ml_L_7 : Cond.methodLink RL 7 yX6_setOutside ∈ allW := tb1 167 rfl rfl
theorem wd_im_yX6_setOutside : Cond.instanceMethod yX6_setOutside ∈ allW := tb1 168 rfl rfl
theorem wd_se_yX6_setOutside : Cond.selects RX6 yX6_setOutside yX6_setOutside ∈ allW := tb1 169 rfl rfl
theorem wd_co_yX6_setOutside : Cond.code yX6_setOutside cX6_setOutside 3 (some .int) ∈ allW := tb1 170 rfl rfl
theorem wd_fl_X6_65 : Cond.fieldLink RX6 65 "ColdStore$Air" "base" "I" ∈ allW := tb1 32 rfl rfl
theorem wd_fl_X6_68 : Cond.fieldLink RX6 68 "ColdStore$Air" "swing" "I" ∈ allW := tb1 34 rfl rfl
theorem wd_ml_X6_61 : Cond.methodLink RX6 61 yX6_requireWithin ∈ allW := tb1 171 rfl rfl
theorem wd_st_yX6_requireWithin : Cond.static yX6_requireWithin ∈ allW := tb1 172 rfl rfl
theorem wd_co_yX6_requireWithin : Cond.code yX6_requireWithin cX6_requireWithin 3 none ∈ allW := tb1 173 rfl rfl
theorem wd_cl_X6_242 : Cond.classLink RX6 242 "java/lang/IllegalArgumentException" ∈ allW := tb1 174 rfl rfl
theorem wd_in_java_lang_IllegalArgumentException : Cond.initialized "java/lang/IllegalArgumentException" ∈ allW := tb1 8 rfl rfl
theorem wd_ml_X6_71 : Cond.methodLink RX6 71 yX0_temperatureAt ∈ allW := tb2 2 rfl rfl
theorem wd_im_yX0_temperatureAt : Cond.instanceMethod yX0_temperatureAt ∈ allW := tb2 3 rfl rfl
theorem wd_se_yX0_temperatureAt : Cond.selects RX0 yX0_temperatureAt yX0_temperatureAt ∈ allW := tb2 4 rfl rfl
theorem wd_co_yX0_temperatureAt : Cond.code yX0_temperatureAt cX0_temperatureAt 3 (some .int) ∈ allW := tb2 5 rfl rfl
theorem wd_ml_X0_24 : Cond.methodLink RX0 24 Lib.Math.abs.name ∈ allW := tb2 9 rfl rfl
theorem wd_st_yJ9_abs_0f7a4 : Cond.static Lib.Math.abs.name ∈ allW := tb2 10 rfl rfl
theorem wd_in_RJ9 : Cond.initialized "java/lang/Math" ∈ allW := tb1 9 rfl rfl
theorem wd_co_yJ9_abs_0f7a4 : Cond.code Lib.Math.abs.name Lib.Math.abs.code 1 (some .int) ∈ allW := tb2 11 rfl rfl
theorem wd_ml_X0_18 : Cond.methodLink RX0 18 yJ9_floorMod_7cf53 ∈ allW := tb2 6 rfl rfl
theorem wd_st_yJ9_floorMod_7cf53 : Cond.static yJ9_floorMod_7cf53 ∈ allW := tb2 7 rfl rfl
theorem wd_co_yJ9_floorMod_7cf53 : Cond.code yJ9_floorMod_7cf53 cJ9_floorMod_7cf53 3 (some .int) ∈ allW := tb2 8 rfl rfl
theorem wd_ml_L_91 : Cond.methodLink RL 91 yX7_setOutside ∈ allW := tb4 55 rfl rfl
theorem wd_im_yX7_setOutside : Cond.instanceMethod yX7_setOutside ∈ allW := tb4 56 rfl rfl
theorem wd_se_yX7_setOutside : Cond.selects RX7 yX7_setOutside yX7_setOutside ∈ allW := tb4 57 rfl rfl
theorem wd_co_yX7_setOutside : Cond.code yX7_setOutside cX7_setOutside 3 (some .int) ∈ allW := tb4 58 rfl rfl
theorem wd_fl_X7_60 : Cond.fieldLink RX7 60 "ColdStoreModel" "thrown" "I" ∈ allW := tb3 217 rfl rfl
theorem wd_fl_X7_76 : Cond.fieldLink RX7 76 "ColdStoreModel" "swing" "I" ∈ allW := tb3 220 rfl rfl
theorem wd_fl_X7_88 : Cond.fieldLink RX7 88 "ColdStoreModel" "now" "I" ∈ allW := tb3 218 rfl rfl
theorem wd_ml_X7_66 : Cond.methodLink RX7 66 yX7_isIn ∈ allW := tb4 59 rfl rfl
theorem wd_st_yX7_isIn : Cond.static yX7_isIn ∈ allW := tb4 60 rfl rfl
theorem wd_co_yX7_isIn : Cond.code yX7_isIn cX7_isIn 3 (some .boolean) ∈ allW := tb4 61 rfl rfl
theorem wd_ml_X7_85 : Cond.methodLink RX7 85 yX7_no ∈ allW := tb4 62 rfl rfl
theorem wd_im_yX7_no : Cond.instanceMethod yX7_no ∈ allW := tb4 64 rfl rfl
theorem wd_se_yX7_no : Cond.selects RX7 yX7_no yX7_no ∈ allW := tpS (⟨"ColdStoreModel", "no", "(I)I"⟩, 24) (List.mem_append_left _ (List.mem_of_getElem? (i := 14) rfl))
theorem wd_co_yX7_no : Cond.code yX7_no cX7_no 2 (some .int) ∈ allW := tb4 65 rfl rfl
theorem wd_ml_X7_91 : Cond.methodLink RX7 91 yX7_outsideAt ∈ allW := tb4 66 rfl rfl
theorem wd_im_yX7_outsideAt : Cond.instanceMethod yX7_outsideAt ∈ allW := tb4 68 rfl rfl
theorem wd_se_yX7_outsideAt : Cond.selects RX7 yX7_outsideAt yX7_outsideAt ∈ allW := tpS (⟨"ColdStoreModel", "outsideAt", "(I)I"⟩, 24) (List.mem_append_left _ (List.mem_of_getElem? (i := 15) rfl))
theorem wd_co_yX7_outsideAt : Cond.code yX7_outsideAt cX7_outsideAt 2 (some .int) ∈ allW := tb4 69 rfl rfl
theorem wd_ml_X7_79 : Cond.methodLink RX7 79 Lib.Math.abs.name ∈ allW := tb4 70 rfl rfl
theorem wd_ml_L_92 : Cond.methodLink RL 92 yX7_thrown ∈ allW := tb4 51 rfl rfl
theorem wd_im_yX7_thrown : Cond.instanceMethod yX7_thrown ∈ allW := tb4 52 rfl rfl
theorem wd_se_yX7_thrown : Cond.selects RX7 yX7_thrown yX7_thrown ∈ allW := tb4 53 rfl rfl
theorem wd_co_yX7_thrown : Cond.code yX7_thrown cX7_thrown 1 (some .int) ∈ allW := tb4 54 rfl rfl
theorem wd_ml_L_96 : Cond.methodLink RL 96 yL_outside ∈ allW := tb2 12 rfl rfl
theorem wd_st_yL_outside : Cond.static yL_outside ∈ allW := tb2 13 rfl rfl
theorem wd_co_yL_outside : Cond.codeWith yL_outside cL_outside 4 (some .int) [(0, 9, 12, 13)] ∈ allW := tb2 14 rfl rfl
theorem wd_ml_L_15 : Cond.methodLink RL 15 yX6_outside ∈ allW := tb2 15 rfl rfl
theorem wd_im_yX6_outside : Cond.instanceMethod yX6_outside ∈ allW := tb2 16 rfl rfl
theorem wd_se_yX6_outside : Cond.selects RX6 yX6_outside yX6_outside ∈ allW := tb2 17 rfl rfl
theorem wd_co_yX6_outside : Cond.code yX6_outside cX6_outside 2 (some .int) ∈ allW := tb2 18 rfl rfl
theorem wd_ml_L_99 : Cond.methodLink RL 99 yX7_outside ∈ allW := tb4 71 rfl rfl
theorem wd_im_yX7_outside : Cond.instanceMethod yX7_outside ∈ allW := tb4 72 rfl rfl
theorem wd_se_yX7_outside : Cond.selects RX7 yX7_outside yX7_outside ∈ allW := tb4 73 rfl rfl
theorem wd_co_yX7_outside : Cond.code yX7_outside cX7_outside 2 (some .int) ∈ allW := tb4 74 rfl rfl
theorem wd_ml_L_100 : Cond.methodLink RL 100 yL_setPrice ∈ allW := tb2 19 rfl rfl
theorem wd_st_yL_setPrice : Cond.static yL_setPrice ∈ allW := tb2 20 rfl rfl
theorem wd_co_yL_setPrice : Cond.codeWith yL_setPrice cL_setPrice 6 (some .int) [(0, 12, 15, 13)] ∈ allW := tb2 21 rfl rfl
theorem wd_ml_L_19 : Cond.methodLink RL 19 yX6_setPrice ∈ allW := tb2 22 rfl rfl
theorem wd_im_yX6_setPrice : Cond.instanceMethod yX6_setPrice ∈ allW := tb2 23 rfl rfl
theorem wd_se_yX6_setPrice : Cond.selects RX6 yX6_setPrice yX6_setPrice ∈ allW := tb2 24 rfl rfl
theorem wd_co_yX6_setPrice : Cond.code yX6_setPrice cX6_setPrice 4 (some .int) ∈ allW := tb2 25 rfl rfl
theorem wd_fl_X6_78 : Cond.fieldLink RX6 78 "ColdStore$Tariff" "lowest" "I" ∈ allW := tb1 48 rfl rfl
theorem wd_ml_X6_75 : Cond.methodLink RX6 75 yX5_charge ∈ allW := tb2 26 rfl rfl
theorem wd_im_yX5_charge : Cond.instanceMethod yX5_charge ∈ allW := tb2 27 rfl rfl
theorem wd_se_yX5_charge : Cond.selects RX5 yX5_charge yX5_charge ∈ allW := tb2 28 rfl rfl
theorem wd_co_yX5_charge : Cond.code yX5_charge cX5_charge 5 none ∈ allW := tb2 29 rfl rfl
theorem wd_ml_X5_19 : Cond.methodLink RX5 19 Lib.Math.min.name ∈ allW := tb2 30 rfl rfl
theorem wd_st_yJ9_min_7cf53 : Cond.static Lib.Math.min.name ∈ allW := tb2 31 rfl rfl
theorem wd_co_yJ9_min_7cf53 : Cond.code Lib.Math.min.name Lib.Math.min.code 2 (some .int) ∈ allW := tb2 32 rfl rfl
theorem wd_ml_L_103 : Cond.methodLink RL 103 yX7_setPrice ∈ allW := tb4 75 rfl rfl
theorem wd_im_yX7_setPrice : Cond.instanceMethod yX7_setPrice ∈ allW := tb4 76 rfl rfl
theorem wd_se_yX7_setPrice : Cond.selects RX7 yX7_setPrice yX7_setPrice ∈ allW := tb4 77 rfl rfl
theorem wd_co_yX7_setPrice : Cond.code yX7_setPrice cX7_setPrice 5 (some .int) ∈ allW := tb4 78 rfl rfl
theorem wd_ml_X7_98 : Cond.methodLink RX7 98 yX7_lowest ∈ allW := tb4 79 rfl rfl
theorem wd_im_yX7_lowest : Cond.instanceMethod yX7_lowest ∈ allW := tb4 81 rfl rfl
theorem wd_se_yX7_lowest : Cond.selects RX7 yX7_lowest yX7_lowest ∈ allW := tpS (⟨"ColdStoreModel", "lowest", "()I"⟩, 24) (List.mem_append_right _ (List.mem_of_getElem? (i := 0) rfl))
theorem wd_co_yX7_lowest : Cond.code yX7_lowest cX7_lowest 6 (some .int) ∈ allW := tb4 82 rfl rfl
theorem wd_ml_X7_94 : Cond.methodLink RX7 94 Lib.Math.min.name ∈ allW := tb4 83 rfl rfl
theorem wd_ml_L_104 : Cond.methodLink RL 104 yL_addProduct ∈ allW := tb2 33 rfl rfl
theorem wd_st_yL_addProduct : Cond.static yL_addProduct ∈ allW := tb2 34 rfl rfl
theorem wd_co_yL_addProduct : Cond.codeWith yL_addProduct cL_addProduct 7 (some .int) [(0, 14, 17, 13), (0, 14, 21, 27)] ∈ allW := tb2 35 rfl rfl
theorem wd_cl_L_27 : Cond.classLink RL 27 "java/lang/IllegalStateException" ∈ allW := tb2 36 rfl rfl
theorem wd_ml_L_23 : Cond.methodLink RL 23 yX6_addProduct ∈ allW := tb2 37 rfl rfl
theorem wd_im_yX6_addProduct : Cond.instanceMethod yX6_addProduct ∈ allW := tb2 38 rfl rfl
theorem wd_se_yX6_addProduct : Cond.selects RX6 yX6_addProduct yX6_addProduct ∈ allW := tb2 39 rfl rfl
theorem wd_co_yX6_addProduct : Cond.code yX6_addProduct cX6_addProduct 5 (some .int) ∈ allW := tb2 40 rfl rfl
theorem wd_cl_X6_81 : Cond.classLink RX6 81 "java/lang/IllegalStateException" ∈ allW := tb2 41 rfl rfl
theorem wd_in_java_lang_IllegalStateException : Cond.initialized "java/lang/IllegalStateException" ∈ allW := tb1 10 rfl rfl
theorem wd_it_RX3 : Cond.instantiable RX3 5 ∈ allW := tb2 57 rfl rfl
theorem wd_in_RX3 : Cond.initialized RX3 ∈ allW := tb1 11 rfl rfl
theorem wd_ml_X6_88 : Cond.methodLink RX6 88 yX3_init ∈ allW := tb2 58 rfl rfl
theorem wd_im_yX3_init : Cond.instanceMethod yX3_init ∈ allW := tb2 59 rfl rfl
theorem wd_co_yX3_init : Cond.code yX3_init cX3_init 6 none ∈ allW := tb2 60 rfl rfl
theorem wd_ml_X3_1 : Cond.methodLink RX3 1 objectInit ∈ allW := tb2 61 rfl rfl
theorem wd_fl_X3_7 : Cond.fieldLink RX3 7 "ColdStore$Product" "number" "I" ∈ allW := tb2 62 rfl rfl
theorem wd_fl_X3_13 : Cond.fieldLink RX3 13 "ColdStore$Product" "low" "I" ∈ allW := tb2 64 rfl rfl
theorem wd_fl_X3_16 : Cond.fieldLink RX3 16 "ColdStore$Product" "high" "I" ∈ allW := tb2 65 rfl rfl
theorem wd_fl_X3_19 : Cond.fieldLink RX3 19 "ColdStore$Product" "life" "I" ∈ allW := tb2 66 rfl rfl
theorem wd_fl_X3_22 : Cond.fieldLink RX3 22 "ColdStore$Product" "smell" "I" ∈ allW := tb2 68 rfl rfl
theorem wd_ml_L_107 : Cond.methodLink RL 107 yX7_addProduct ∈ allW := tb4 84 rfl rfl
theorem wd_im_yX7_addProduct : Cond.instanceMethod yX7_addProduct ∈ allW := tb4 85 rfl rfl
theorem wd_se_yX7_addProduct : Cond.selects RX7 yX7_addProduct yX7_addProduct ∈ allW := tb4 86 rfl rfl
theorem wd_co_yX7_addProduct : Cond.code yX7_addProduct cX7_addProduct 5 (some .int) ∈ allW := tb4 87 rfl rfl
theorem wd_fl_X7_63 : Cond.fieldLink RX7 63 "ColdStoreModel" "products" "I" ∈ allW := tb3 223 rfl rfl
theorem wd_ml_L_108 : Cond.methodLink RL 108 yL_addRoom ∈ allW := tb2 80 rfl rfl
theorem wd_st_yL_addRoom : Cond.static yL_addRoom ∈ allW := tb2 81 rfl rfl
theorem wd_co_yL_addRoom : Cond.codeWith yL_addRoom cL_addRoom 7 (some .int) [(0, 14, 17, 13), (0, 14, 21, 27)] ∈ allW := tb2 82 rfl rfl
theorem wd_ml_L_29 : Cond.methodLink RL 29 yX6_addRoom ∈ allW := tb2 83 rfl rfl
theorem wd_im_yX6_addRoom : Cond.instanceMethod yX6_addRoom ∈ allW := tb2 84 rfl rfl
theorem wd_se_yX6_addRoom : Cond.selects RX6 yX6_addRoom yX6_addRoom ∈ allW := tb2 85 rfl rfl
theorem wd_co_yX6_addRoom : Cond.code yX6_addRoom cX6_addRoom 5 (some .int) ∈ allW := tb2 86 rfl rfl
theorem wd_it_RX4 : Cond.instantiable RX4 11 ∈ allW := tb2 88 rfl rfl
theorem wd_in_RX4 : Cond.initialized RX4 ∈ allW := tb1 12 rfl rfl
theorem wd_ml_X6_93 : Cond.methodLink RX6 93 yX4_init ∈ allW := tb2 89 rfl rfl
theorem wd_im_yX4_init : Cond.instanceMethod yX4_init ∈ allW := tb2 90 rfl rfl
theorem wd_co_yX4_init : Cond.code yX4_init cX4_init 6 none ∈ allW := tb2 91 rfl rfl
theorem wd_ml_X4_1 : Cond.methodLink RX4 1 objectInit ∈ allW := tb2 92 rfl rfl
theorem wd_fl_X4_7 : Cond.fieldLink RX4 7 "ColdStore$Room" "isThrifty" "Z" ∈ allW := tb2 130 rfl rfl
theorem wd_fl_X4_13 : Cond.fieldLink RX4 13 "ColdStore$Room" "temperature" "I" ∈ allW := tb2 132 rfl rfl
theorem wd_fl_X4_17 : Cond.fieldLink RX4 17 "ColdStore$Room" "warmHours" "I" ∈ allW := tb2 134 rfl rfl
theorem wd_fl_X4_20 : Cond.fieldLink RX4 20 "ColdStore$Room" "rememberedTemperature" "I" ∈ allW := tb2 136 rfl rfl
theorem wd_fl_X4_23 : Cond.fieldLink RX4 23 "ColdStore$Room" "rememberedWarmHours" "I" ∈ allW := tb2 137 rfl rfl
theorem wd_fl_X4_26 : Cond.fieldLink RX4 26 "ColdStore$Room" "number" "I" ∈ allW := tb2 121 rfl rfl
theorem wd_cl_X4_29 : Cond.classLink RX4 29 RX2 ∈ allW := tb2 93 rfl rfl
theorem wd_fl_X4_31 : Cond.fieldLink RX4 31 "ColdStore$Room" "places" "[LColdStore$Pallet;" ∈ allW := tb2 127 rfl rfl
theorem wd_fl_X4_35 : Cond.fieldLink RX4 35 "ColdStore$Room" "wall" "I" ∈ allW := tb2 124 rfl rfl
theorem wd_cl_X4_38 : Cond.classLink RX4 38 RX1 ∈ allW := tb2 94 rfl rfl
theorem wd_it_RX1 : Cond.instantiable RX1 5 ∈ allW := tb2 95 rfl rfl
theorem wd_in_RX1 : Cond.initialized RX1 ∈ allW := tb1 13 rfl rfl
theorem wd_fl_X4_43 : Cond.fieldLink RX4 43 "ColdStore$Room" "machine" "LColdStore$Machine;" ∈ allW := tb2 125 rfl rfl
theorem wd_fl_X4_47 : Cond.fieldLink RX4 47 "ColdStore$Room" "rememberedMachine" "LColdStore$Machine;" ∈ allW := tb2 135 rfl rfl
theorem wd_fl_X4_50 : Cond.fieldLink RX4 50 "ColdStore$Room" "aim" "I" ∈ allW := tb2 128 rfl rfl
theorem wd_ml_X4_40 : Cond.methodLink RX4 40 yX1_init ∈ allW := tb2 96 rfl rfl
theorem wd_im_yX1_init : Cond.instanceMethod yX1_init ∈ allW := tb2 97 rfl rfl
theorem wd_co_yX1_init : Cond.code yX1_init cX1_init 2 none ∈ allW := tb2 98 rfl rfl
theorem wd_ml_X1_1 : Cond.methodLink RX1 1 objectInit ∈ allW := tb2 99 rfl rfl
theorem wd_fl_X1_9 : Cond.fieldLink RX1 9 "ColdStore$Machine" "state" "I" ∈ allW := tb2 101 rfl rfl
theorem wd_fl_X1_13 : Cond.fieldLink RX1 13 "ColdStore$Machine" "hoursLeft" "I" ∈ allW := tb2 104 rfl rfl
theorem wd_fl_X1_16 : Cond.fieldLink RX1 16 "ColdStore$Machine" "frost" "I" ∈ allW := tb2 105 rfl rfl
theorem wd_fl_X1_19 : Cond.fieldLink RX1 19 "ColdStore$Machine" "energy" "I" ∈ allW := tb2 108 rfl rfl
theorem wd_fl_X1_22 : Cond.fieldLink RX1 22 "ColdStore$Machine" "power" "I" ∈ allW := tb2 100 rfl rfl
theorem wd_ml_L_110 : Cond.methodLink RL 110 yX7_addRoom ∈ allW := tb4 88 rfl rfl
theorem wd_im_yX7_addRoom : Cond.instanceMethod yX7_addRoom ∈ allW := tb4 89 rfl rfl
theorem wd_se_yX7_addRoom : Cond.selects RX7 yX7_addRoom yX7_addRoom ∈ allW := tb4 90 rfl rfl
theorem wd_co_yX7_addRoom : Cond.code yX7_addRoom cX7_addRoom 5 (some .int) ∈ allW := tb4 91 rfl rfl
theorem wd_fl_X7_70 : Cond.fieldLink RX7 70 "ColdStoreModel" "rooms" "I" ∈ allW := tb3 228 rfl rfl
theorem wd_ml_X7_102 : Cond.methodLink RX7 102 yX7_isAim ∈ allW := tb4 92 rfl rfl
theorem wd_st_yX7_isAim : Cond.static yX7_isAim ∈ allW := tb4 93 rfl rfl
theorem wd_co_yX7_isAim : Cond.code yX7_isAim cX7_isAim 1 (some .boolean) ∈ allW := tb4 94 rfl rfl
theorem wd_ml_L_111 : Cond.methodLink RL 111 yL_setRoom ∈ allW := tb2 161 rfl rfl
theorem wd_st_yL_setRoom : Cond.static yL_setRoom ∈ allW := tb2 162 rfl rfl
theorem wd_co_yL_setRoom : Cond.codeWith yL_setRoom cL_setRoom 6 (some .int) [(0, 12, 15, 36), (0, 12, 19, 13)] ∈ allW := tb2 163 rfl rfl
theorem wd_cl_L_36 : Cond.classLink RL 36 "java/lang/IndexOutOfBoundsException" ∈ allW := tb2 164 rfl rfl
theorem wd_ml_L_32 : Cond.methodLink RL 32 yX6_setRoom ∈ allW := tb2 165 rfl rfl
theorem wd_im_yX6_setRoom : Cond.instanceMethod yX6_setRoom ∈ allW := tb2 166 rfl rfl
theorem wd_se_yX6_setRoom : Cond.selects RX6 yX6_setRoom yX6_setRoom ∈ allW := tb2 167 rfl rfl
theorem wd_co_yX6_setRoom : Cond.code yX6_setRoom cX6_setRoom 6 (some .int) ∈ allW := tb2 168 rfl rfl
theorem wd_fl_X6_98 : Cond.fieldLink RX6 98 "ColdStore$Room" "aim" "I" ∈ allW := tb2 129 rfl rfl
theorem wd_fl_X6_101 : Cond.fieldLink RX6 101 "ColdStore$Room" "isThrifty" "Z" ∈ allW := tb2 131 rfl rfl
theorem wd_ml_X6_94 : Cond.methodLink RX6 94 yX6_existingRoom ∈ allW := tb2 169 rfl rfl
theorem wd_im_yX6_existingRoom : Cond.instanceMethod yX6_existingRoom ∈ allW := tb2 171 rfl rfl
theorem wd_se_yX6_existingRoom : Cond.selects RX6 yX6_existingRoom yX6_existingRoom ∈ allW := tpS (⟨"ColdStore", "existingRoom", "(I)LColdStore$Room;"⟩, 11) (List.mem_append_left _ (List.mem_of_getElem? (i := 5) rfl))
theorem wd_co_yX6_existingRoom : Cond.code yX6_existingRoom cX6_existingRoom 3 (some (.object "ColdStore$Room")) ∈ allW := tb2 172 rfl rfl
theorem wd_cl_X6_247 : Cond.classLink RX6 247 "java/lang/IndexOutOfBoundsException" ∈ allW := tb2 173 rfl rfl
theorem wd_in_java_lang_IndexOutOfBoundsException : Cond.initialized "java/lang/IndexOutOfBoundsException" ∈ allW := tb1 14 rfl rfl
theorem wd_ml_L_114 : Cond.methodLink RL 114 yX7_setRoom ∈ allW := tb4 95 rfl rfl
theorem wd_im_yX7_setRoom : Cond.instanceMethod yX7_setRoom ∈ allW := tb4 96 rfl rfl
theorem wd_se_yX7_setRoom : Cond.selects RX7 yX7_setRoom yX7_setRoom ∈ allW := tb4 97 rfl rfl
theorem wd_co_yX7_setRoom : Cond.code yX7_setRoom cX7_setRoom 5 (some .int) ∈ allW := tb4 98 rfl rfl
theorem wd_ml_X7_106 : Cond.methodLink RX7 106 yX7_isRoom ∈ allW := tb4 99 rfl rfl
theorem wd_im_yX7_isRoom : Cond.instanceMethod yX7_isRoom ∈ allW := tb4 101 rfl rfl
theorem wd_se_yX7_isRoom : Cond.selects RX7 yX7_isRoom yX7_isRoom ∈ allW := tpS (⟨"ColdStoreModel", "isRoom", "(I)Z"⟩, 24) (List.mem_append_right _ (List.mem_of_getElem? (i := 1) rfl))
theorem wd_co_yX7_isRoom : Cond.code yX7_isRoom cX7_isRoom 2 (some .boolean) ∈ allW := tb4 102 rfl rfl
theorem wd_ml_L_115 : Cond.methodLink RL 115 yL_defrost ∈ allW := tb2 189 rfl rfl
theorem wd_st_yL_defrost : Cond.static yL_defrost ∈ allW := tb2 190 rfl rfl
theorem wd_co_yL_defrost : Cond.codeWith yL_defrost cL_defrost 4 (some .int) [(0, 9, 12, 36), (0, 9, 15, 27)] ∈ allW := tb2 191 rfl rfl
theorem wd_ml_L_38 : Cond.methodLink RL 38 yX6_defrost ∈ allW := tb2 192 rfl rfl
theorem wd_im_yX6_defrost : Cond.instanceMethod yX6_defrost ∈ allW := tb2 193 rfl rfl
theorem wd_se_yX6_defrost : Cond.selects RX6 yX6_defrost yX6_defrost ∈ allW := tb2 194 rfl rfl
theorem wd_co_yX6_defrost : Cond.code yX6_defrost cX6_defrost 3 (some .int) ∈ allW := tb2 195 rfl rfl
theorem wd_fl_X6_105 : Cond.fieldLink RX6 105 "ColdStore$Room" "machine" "LColdStore$Machine;" ∈ allW := tb2 126 rfl rfl
theorem wd_fl_X6_109 : Cond.fieldLink RX6 109 "ColdStore$Machine" "state" "I" ∈ allW := tb2 103 rfl rfl
theorem wd_fl_X6_119 : Cond.fieldLink RX6 119 "ColdStore$Machine" "frost" "I" ∈ allW := tb2 107 rfl rfl
theorem wd_ml_X6_116 : Cond.methodLink RX6 116 yX1_beginDefrosting ∈ allW := tb2 197 rfl rfl
theorem wd_im_yX1_beginDefrosting : Cond.instanceMethod yX1_beginDefrosting ∈ allW := tb2 198 rfl rfl
theorem wd_se_yX1_beginDefrosting : Cond.selects RX1 yX1_beginDefrosting yX1_beginDefrosting ∈ allW := tb2 199 rfl rfl
theorem wd_co_yX1_beginDefrosting : Cond.code yX1_beginDefrosting cX1_beginDefrosting 1 none ∈ allW := tb2 200 rfl rfl
theorem wd_ml_L_117 : Cond.methodLink RL 117 yX7_defrost ∈ allW := tb4 103 rfl rfl
theorem wd_im_yX7_defrost : Cond.instanceMethod yX7_defrost ∈ allW := tb4 104 rfl rfl
theorem wd_se_yX7_defrost : Cond.selects RX7 yX7_defrost yX7_defrost ∈ allW := tb4 105 rfl rfl
theorem wd_co_yX7_defrost : Cond.code yX7_defrost cX7_defrost 2 (some .int) ∈ allW := tb4 106 rfl rfl
theorem wd_ml_L_118 : Cond.methodLink RL 118 yL_room ∈ allW := tb2 201 rfl rfl
theorem wd_st_yL_room : Cond.static yL_room ∈ allW := tb2 202 rfl rfl
theorem wd_co_yL_room : Cond.codeWith yL_room cL_room 5 (some .int) [(0, 10, 13, 36)] ∈ allW := tb2 203 rfl rfl
theorem wd_ml_L_41 : Cond.methodLink RL 41 yX6_room ∈ allW := tb2 204 rfl rfl
theorem wd_im_yX6_room : Cond.instanceMethod yX6_room ∈ allW := tb2 205 rfl rfl
theorem wd_se_yX6_room : Cond.selects RX6 yX6_room yX6_room ∈ allW := tb2 206 rfl rfl
theorem wd_co_yX6_room : Cond.code yX6_room cX6_room 4 (some .int) ∈ allW := tb2 207 rfl rfl
theorem wd_ml_X6_122 : Cond.methodLink RX6 122 yX6_requireFact ∈ allW := tb2 208 rfl rfl
theorem wd_st_yX6_requireFact : Cond.static yX6_requireFact ∈ allW := tb2 209 rfl rfl
theorem wd_co_yX6_requireFact : Cond.code yX6_requireFact cX6_requireFact 2 none ∈ allW := tb2 210 rfl rfl
theorem wd_ml_X6_126 : Cond.methodLink RX6 126 yX4_fact ∈ allW := tb1 147 rfl rfl
theorem wd_im_yX4_fact : Cond.instanceMethod yX4_fact ∈ allW := tb1 148 rfl rfl
theorem wd_se_yX4_fact : Cond.selects RX4 yX4_fact yX4_fact ∈ allW := tb1 149 rfl rfl
theorem wd_co_yX4_fact : Cond.code yX4_fact cX4_fact 2 (some .int) ∈ allW := tb1 150 rfl rfl
theorem wd_fl_X4_53 : Cond.fieldLink RX4 53 "ColdStore$Machine" "frost" "I" ∈ allW := tb2 106 rfl rfl
theorem wd_fl_X4_56 : Cond.fieldLink RX4 56 "ColdStore$Machine" "state" "I" ∈ allW := tb2 102 rfl rfl
theorem wd_fl_X4_63 : Cond.fieldLink RX4 63 "ColdStore$Machine" "energy" "I" ∈ allW := tb2 109 rfl rfl
theorem wd_ml_X4_59 : Cond.methodLink RX4 59 yX4_freePlaces ∈ allW := tb1 151 rfl rfl
theorem wd_im_yX4_freePlaces : Cond.instanceMethod yX4_freePlaces ∈ allW := tb1 152 rfl rfl
theorem wd_se_yX4_freePlaces : Cond.selects RX4 yX4_freePlaces yX4_freePlaces ∈ allW := tb1 153 rfl rfl
theorem wd_co_yX4_freePlaces : Cond.code yX4_freePlaces cX4_freePlaces 6 (some .int) ∈ allW := tb1 154 rfl rfl
theorem wd_ml_L_120 : Cond.methodLink RL 120 yX7_room ∈ allW := tb4 107 rfl rfl
theorem wd_im_yX7_room : Cond.instanceMethod yX7_room ∈ allW := tb4 108 rfl rfl
theorem wd_se_yX7_room : Cond.selects RX7 yX7_room yX7_room ∈ allW := tb4 109 rfl rfl
theorem wd_co_yX7_room : Cond.code yX7_room cX7_room 3 (some .int) ∈ allW := tb4 110 rfl rfl
theorem wd_ml_X7_112 : Cond.methodLink RX7 112 yX7_toldOfRoom ∈ allW := tb4 111 rfl rfl
theorem wd_im_yX7_toldOfRoom : Cond.instanceMethod yX7_toldOfRoom ∈ allW := tb4 113 rfl rfl
theorem wd_se_yX7_toldOfRoom : Cond.selects RX7 yX7_toldOfRoom yX7_toldOfRoom ∈ allW := tpS (⟨"ColdStoreModel", "toldOfRoom", "(II)I"⟩, 24) (List.mem_append_right _ (List.mem_of_getElem? (i := 2) rfl))
theorem wd_co_yX7_toldOfRoom : Cond.code yX7_toldOfRoom cX7_toldOfRoom 5 (some .int) ∈ allW := tb4 114 rfl rfl
theorem wd_ml_X7_109 : Cond.methodLink RX7 109 yX7_free ∈ allW := tb4 115 rfl rfl
theorem wd_im_yX7_free : Cond.instanceMethod yX7_free ∈ allW := tb4 117 rfl rfl
theorem wd_se_yX7_free : Cond.selects RX7 yX7_free yX7_free ∈ allW := tpS (⟨"ColdStoreModel", "free", "(I)I"⟩, 24) (List.mem_append_right _ (List.mem_of_getElem? (i := 3) rfl))
theorem wd_co_yX7_free : Cond.code yX7_free cX7_free 4 (some .int) ∈ allW := tb4 118 rfl rfl
theorem wd_fl_X7_73 : Cond.fieldLink RX7 73 "ColdStoreModel" "pallets" "I" ∈ allW := tb3 235 rfl rfl
theorem wd_ml_L_121 : Cond.methodLink RL 121 yL_reason ∈ allW := tb2 212 rfl rfl
theorem wd_st_yL_reason : Cond.static yL_reason ∈ allW := tb2 213 rfl rfl
theorem wd_co_yL_reason : Cond.codeWith yL_reason cL_reason 5 (some .int) [(0, 10, 13, 36)] ∈ allW := tb2 214 rfl rfl
theorem wd_ml_L_44 : Cond.methodLink RL 44 yX6_reason ∈ allW := tb2 215 rfl rfl
theorem wd_im_yX6_reason : Cond.instanceMethod yX6_reason ∈ allW := tb2 216 rfl rfl
theorem wd_se_yX6_reason : Cond.selects RX6 yX6_reason yX6_reason ∈ allW := tb2 217 rfl rfl
theorem wd_co_yX6_reason : Cond.code yX6_reason cX6_reason 4 (some .int) ∈ allW := tb2 218 rfl rfl
theorem wd_ml_X6_129 : Cond.methodLink RX6 129 yX6_existingProduct ∈ allW := tb2 219 rfl rfl
theorem wd_im_yX6_existingProduct : Cond.instanceMethod yX6_existingProduct ∈ allW := tb2 221 rfl rfl
theorem wd_se_yX6_existingProduct : Cond.selects RX6 yX6_existingProduct yX6_existingProduct ∈ allW := tpS (⟨"ColdStore", "existingProduct", "(I)LColdStore$Product;"⟩, 11) (List.mem_append_left _ (List.mem_of_getElem? (i := 6) rfl))
theorem wd_co_yX6_existingProduct : Cond.code yX6_existingProduct cX6_existingProduct 3 (some (.object "ColdStore$Product")) ∈ allW := tb2 222 rfl rfl
theorem wd_ml_X6_133 : Cond.methodLink RX6 133 yX4_reasonAgainst ∈ allW := tb2 224 rfl rfl
theorem wd_im_yX4_reasonAgainst : Cond.instanceMethod yX4_reasonAgainst ∈ allW := tb2 225 rfl rfl
theorem wd_se_yX4_reasonAgainst : Cond.selects RX4 yX4_reasonAgainst yX4_reasonAgainst ∈ allW := tb2 226 rfl rfl
theorem wd_co_yX4_reasonAgainst : Cond.code yX4_reasonAgainst cX4_reasonAgainst 6 (some .int) ∈ allW := tb2 227 rfl rfl
theorem wd_fl_X4_66 : Cond.fieldLink RX4 66 "ColdStore$Pallet" "product" "LColdStore$Product;" ∈ allW := tb3 15 rfl rfl
theorem wd_ml_X4_70 : Cond.methodLink RX4 70 yX3_goesWith ∈ allW := tb2 228 rfl rfl
theorem wd_im_yX3_goesWith : Cond.instanceMethod yX3_goesWith ∈ allW := tb2 229 rfl rfl
theorem wd_se_yX3_goesWith : Cond.selects RX3 yX3_goesWith yX3_goesWith ∈ allW := tb2 230 rfl rfl
theorem wd_co_yX3_goesWith : Cond.code yX3_goesWith cX3_goesWith 2 (some .boolean) ∈ allW := tb2 231 rfl rfl
theorem wd_ml_X3_25 : Cond.methodLink RX3 25 yX3_disturbs ∈ allW := tb2 232 rfl rfl
theorem wd_im_yX3_disturbs : Cond.instanceMethod yX3_disturbs ∈ allW := tb2 233 rfl rfl
theorem wd_se_yX3_disturbs : Cond.selects RX3 yX3_disturbs yX3_disturbs ∈ allW := tb2 234 rfl rfl
theorem wd_co_yX3_disturbs : Cond.code yX3_disturbs cX3_disturbs 2 (some .boolean) ∈ allW := tb2 235 rfl rfl
theorem wd_ml_L_123 : Cond.methodLink RL 123 yX7_reason ∈ allW := tb4 119 rfl rfl
theorem wd_im_yX7_reason : Cond.instanceMethod yX7_reason ∈ allW := tb4 120 rfl rfl
theorem wd_se_yX7_reason : Cond.selects RX7 yX7_reason yX7_reason ∈ allW := tb4 121 rfl rfl
theorem wd_co_yX7_reason : Cond.code yX7_reason cX7_reason 3 (some .int) ∈ allW := tb4 122 rfl rfl
theorem wd_ml_X7_119 : Cond.methodLink RX7 119 yX7_isProduct ∈ allW := tb4 123 rfl rfl
theorem wd_im_yX7_isProduct : Cond.instanceMethod yX7_isProduct ∈ allW := tb4 125 rfl rfl
theorem wd_se_yX7_isProduct : Cond.selects RX7 yX7_isProduct yX7_isProduct ∈ allW := tpS (⟨"ColdStoreModel", "isProduct", "(I)Z"⟩, 24) (List.mem_append_right _ (List.mem_of_getElem? (i := 4) rfl))
theorem wd_co_yX7_isProduct : Cond.code yX7_isProduct cX7_isProduct 2 (some .boolean) ∈ allW := tb4 126 rfl rfl
theorem wd_ml_X7_122 : Cond.methodLink RX7 122 yX7_reasonFor ∈ allW := tb4 127 rfl rfl
theorem wd_im_yX7_reasonFor : Cond.instanceMethod yX7_reasonFor ∈ allW := tb4 129 rfl rfl
theorem wd_se_yX7_reasonFor : Cond.selects RX7 yX7_reasonFor yX7_reasonFor ∈ allW := tpS (⟨"ColdStoreModel", "reasonFor", "(II)I"⟩, 24) (List.mem_append_right _ (List.mem_of_getElem? (i := 5) rfl))
theorem wd_co_yX7_reasonFor : Cond.code yX7_reasonFor cX7_reasonFor 4 (some .int) ∈ allW := tb4 130 rfl rfl
theorem wd_ml_X7_115 : Cond.methodLink RX7 115 yX7_goTogether ∈ allW := tb4 131 rfl rfl
theorem wd_im_yX7_goTogether : Cond.instanceMethod yX7_goTogether ∈ allW := tb4 133 rfl rfl
theorem wd_se_yX7_goTogether : Cond.selects RX7 yX7_goTogether yX7_goTogether ∈ allW := tpS (⟨"ColdStoreModel", "goTogether", "(II)Z"⟩, 24) (List.mem_append_right _ (List.mem_of_getElem? (i := 6) rfl))
theorem wd_co_yX7_goTogether : Cond.code yX7_goTogether cX7_goTogether 3 (some .boolean) ∈ allW := tb4 134 rfl rfl
theorem wd_ml_L_124 : Cond.methodLink RL 124 yL_arrive ∈ allW := tb2 236 rfl rfl
theorem wd_st_yL_arrive : Cond.static yL_arrive ∈ allW := tb2 237 rfl rfl
theorem wd_co_yL_arrive : Cond.codeWith yL_arrive cL_arrive 6 (some .int) [(0, 12, 15, 36), (0, 12, 19, 13), (0, 12, 23, 27)] ∈ allW := tb2 238 rfl rfl
theorem wd_ml_L_47 : Cond.methodLink RL 47 yX6_arrive ∈ allW := tb2 239 rfl rfl
theorem wd_im_yX6_arrive : Cond.instanceMethod yX6_arrive ∈ allW := tb3 0 rfl rfl
theorem wd_se_yX6_arrive : Cond.selects RX6 yX6_arrive yX6_arrive ∈ allW := tb3 1 rfl rfl
theorem wd_co_yX6_arrive : Cond.code yX6_arrive cX6_arrive 7 (some .int) ∈ allW := tb3 2 rfl rfl
theorem wd_it_RX2 : Cond.instantiable RX2 6 ∈ allW := tb3 9 rfl rfl
theorem wd_in_RX2 : Cond.initialized RX2 ∈ allW := tb1 15 rfl rfl
theorem wd_ml_X6_137 : Cond.methodLink RX6 137 yX4_accepts ∈ allW := tb3 3 rfl rfl
theorem wd_im_yX4_accepts : Cond.instanceMethod yX4_accepts ∈ allW := tb3 4 rfl rfl
theorem wd_se_yX4_accepts : Cond.selects RX4 yX4_accepts yX4_accepts ∈ allW := tb3 5 rfl rfl
theorem wd_co_yX4_accepts : Cond.code yX4_accepts cX4_accepts 2 (some .boolean) ∈ allW := tb3 6 rfl rfl
theorem wd_ml_X4_76 : Cond.methodLink RX4 76 yX4_reasonAgainst ∈ allW := tb3 7 rfl rfl
theorem wd_ml_X6_143 : Cond.methodLink RX6 143 yX2_init ∈ allW := tb3 10 rfl rfl
theorem wd_im_yX2_init : Cond.instanceMethod yX2_init ∈ allW := tb3 11 rfl rfl
theorem wd_co_yX2_init : Cond.code yX2_init cX2_init 3 none ∈ allW := tb3 12 rfl rfl
theorem wd_ml_X2_1 : Cond.methodLink RX2 1 objectInit ∈ allW := tb3 13 rfl rfl
theorem wd_fl_X2_7 : Cond.fieldLink RX2 7 "ColdStore$Pallet" "room" "LColdStore$Room;" ∈ allW := tb3 17 rfl rfl
theorem wd_fl_X2_13 : Cond.fieldLink RX2 13 "ColdStore$Pallet" "age" "I" ∈ allW := tb3 22 rfl rfl
theorem wd_fl_X2_17 : Cond.fieldLink RX2 17 "ColdStore$Pallet" "rememberedTemperature" "I" ∈ allW := tb3 23 rfl rfl
theorem wd_fl_X2_20 : Cond.fieldLink RX2 20 "ColdStore$Pallet" "rememberedAge" "I" ∈ allW := tb3 24 rfl rfl
theorem wd_fl_X2_23 : Cond.fieldLink RX2 23 "ColdStore$Pallet" "product" "LColdStore$Product;" ∈ allW := tb3 14 rfl rfl
theorem wd_fl_X2_27 : Cond.fieldLink RX2 27 "ColdStore$Pallet" "temperature" "I" ∈ allW := tb3 20 rfl rfl
theorem wd_ml_X6_146 : Cond.methodLink RX6 146 yX4_take ∈ allW := tb3 38 rfl rfl
theorem wd_im_yX4_take : Cond.instanceMethod yX4_take ∈ allW := tb3 39 rfl rfl
theorem wd_se_yX4_take : Cond.selects RX4 yX4_take yX4_take ∈ allW := tb3 40 rfl rfl
theorem wd_co_yX4_take : Cond.code yX4_take cX4_take 3 none ∈ allW := tb3 41 rfl rfl
theorem wd_fl_X4_84 : Cond.fieldLink RX4 84 "ColdStore$Pallet" "room" "LColdStore$Room;" ∈ allW := tb3 18 rfl rfl
theorem wd_ml_L_126 : Cond.methodLink RL 126 yX7_arrive ∈ allW := tb4 135 rfl rfl
theorem wd_im_yX7_arrive : Cond.instanceMethod yX7_arrive ∈ allW := tb4 136 rfl rfl
theorem wd_se_yX7_arrive : Cond.selects RX7 yX7_arrive yX7_arrive ∈ allW := tb4 137 rfl rfl
theorem wd_co_yX7_arrive : Cond.code yX7_arrive cX7_arrive 4 (some .int) ∈ allW := tb4 138 rfl rfl
theorem wd_ml_L_127 : Cond.methodLink RL 127 yL_move ∈ allW := tb3 42 rfl rfl
theorem wd_st_yL_move : Cond.static yL_move ∈ allW := tb3 43 rfl rfl
theorem wd_co_yL_move : Cond.codeWith yL_move cL_move 5 (some .int) [(0, 10, 13, 36), (0, 10, 17, 27)] ∈ allW := tb3 44 rfl rfl
theorem wd_ml_L_50 : Cond.methodLink RL 50 yX6_move ∈ allW := tb3 45 rfl rfl
theorem wd_im_yX6_move : Cond.instanceMethod yX6_move ∈ allW := tb3 46 rfl rfl
theorem wd_se_yX6_move : Cond.selects RX6 yX6_move yX6_move ∈ allW := tb3 47 rfl rfl
theorem wd_co_yX6_move : Cond.code yX6_move cX6_move 6 (some .int) ∈ allW := tb3 48 rfl rfl
theorem wd_fl_X6_154 : Cond.fieldLink RX6 154 "ColdStore$Pallet" "room" "LColdStore$Room;" ∈ allW := tb3 19 rfl rfl
theorem wd_fl_X6_158 : Cond.fieldLink RX6 158 "ColdStore$Pallet" "product" "LColdStore$Product;" ∈ allW := tb3 16 rfl rfl
theorem wd_fl_X6_167 : Cond.fieldLink RX6 167 "ColdStore$Room" "number" "I" ∈ allW := tb2 123 rfl rfl
theorem wd_ml_X6_150 : Cond.methodLink RX6 150 yX6_existingPallet ∈ allW := tb3 49 rfl rfl
theorem wd_im_yX6_existingPallet : Cond.instanceMethod yX6_existingPallet ∈ allW := tb3 51 rfl rfl
theorem wd_se_yX6_existingPallet : Cond.selects RX6 yX6_existingPallet yX6_existingPallet ∈ allW := tpS (⟨"ColdStore", "existingPallet", "(I)LColdStore$Pallet;"⟩, 11) (List.mem_append_left _ (List.mem_of_getElem? (i := 7) rfl))
theorem wd_co_yX6_existingPallet : Cond.code yX6_existingPallet cX6_existingPallet 3 (some (.object "ColdStore$Pallet")) ∈ allW := tb3 52 rfl rfl
theorem wd_ml_X6_164 : Cond.methodLink RX6 164 yX4_release ∈ allW := tb1 114 rfl rfl
theorem wd_im_yX4_release : Cond.instanceMethod yX4_release ∈ allW := tb1 115 rfl rfl
theorem wd_se_yX4_release : Cond.selects RX4 yX4_release yX4_release ∈ allW := tb1 116 rfl rfl
theorem wd_co_yX4_release : Cond.code yX4_release cX4_release 3 none ∈ allW := tb1 117 rfl rfl
theorem wd_ml_L_129 : Cond.methodLink RL 129 yX7_move ∈ allW := tb4 139 rfl rfl
theorem wd_im_yX7_move : Cond.instanceMethod yX7_move ∈ allW := tb4 140 rfl rfl
theorem wd_se_yX7_move : Cond.selects RX7 yX7_move yX7_move ∈ allW := tb4 141 rfl rfl
theorem wd_co_yX7_move : Cond.code yX7_move cX7_move 4 (some .int) ∈ allW := tb4 142 rfl rfl
theorem wd_ml_X7_125 : Cond.methodLink RX7 125 yX7_isPallet ∈ allW := tb4 143 rfl rfl
theorem wd_im_yX7_isPallet : Cond.instanceMethod yX7_isPallet ∈ allW := tb4 145 rfl rfl
theorem wd_se_yX7_isPallet : Cond.selects RX7 yX7_isPallet yX7_isPallet ∈ allW := tpS (⟨"ColdStoreModel", "isPallet", "(I)Z"⟩, 24) (List.mem_append_right _ (List.mem_of_getElem? (i := 7) rfl))
theorem wd_co_yX7_isPallet : Cond.code yX7_isPallet cX7_isPallet 2 (some .boolean) ∈ allW := tb4 146 rfl rfl
theorem wd_ml_L_130 : Cond.methodLink RL 130 yL_pallet ∈ allW := tb3 55 rfl rfl
theorem wd_st_yL_pallet : Cond.static yL_pallet ∈ allW := tb3 56 rfl rfl
theorem wd_co_yL_pallet : Cond.codeWith yL_pallet cL_pallet 5 (some .int) [(0, 10, 13, 36)] ∈ allW := tb3 57 rfl rfl
theorem wd_ml_L_53 : Cond.methodLink RL 53 yX6_pallet ∈ allW := tb3 58 rfl rfl
theorem wd_im_yX6_pallet : Cond.instanceMethod yX6_pallet ∈ allW := tb3 59 rfl rfl
theorem wd_se_yX6_pallet : Cond.selects RX6 yX6_pallet yX6_pallet ∈ allW := tb3 60 rfl rfl
theorem wd_co_yX6_pallet : Cond.code yX6_pallet cX6_pallet 4 (some .int) ∈ allW := tb3 61 rfl rfl
theorem wd_ml_X6_170 : Cond.methodLink RX6 170 yX2_fact ∈ allW := tb1 159 rfl rfl
theorem wd_im_yX2_fact : Cond.instanceMethod yX2_fact ∈ allW := tb1 160 rfl rfl
theorem wd_se_yX2_fact : Cond.selects RX2 yX2_fact yX2_fact ∈ allW := tb1 161 rfl rfl
theorem wd_co_yX2_fact : Cond.code yX2_fact cX2_fact 2 (some .int) ∈ allW := tb1 162 rfl rfl
theorem wd_fl_X2_30 : Cond.fieldLink RX2 30 "ColdStore$Product" "number" "I" ∈ allW := tb2 63 rfl rfl
theorem wd_fl_X2_35 : Cond.fieldLink RX2 35 "ColdStore$Room" "number" "I" ∈ allW := tb2 122 rfl rfl
theorem wd_ml_X2_38 : Cond.methodLink RX2 38 yX2_left ∈ allW := tb1 107 rfl rfl
theorem wd_im_yX2_left : Cond.instanceMethod yX2_left ∈ allW := tb1 108 rfl rfl
theorem wd_se_yX2_left : Cond.selects RX2 yX2_left yX2_left ∈ allW := tb1 109 rfl rfl
theorem wd_co_yX2_left : Cond.code yX2_left cX2_left 1 (some .int) ∈ allW := tb1 110 rfl rfl
theorem wd_fl_X2_46 : Cond.fieldLink RX2 46 "ColdStore$Product" "life" "I" ∈ allW := tb2 67 rfl rfl
theorem wd_ml_L_132 : Cond.methodLink RL 132 yX7_pallet ∈ allW := tb4 147 rfl rfl
theorem wd_im_yX7_pallet : Cond.instanceMethod yX7_pallet ∈ allW := tb4 148 rfl rfl
theorem wd_se_yX7_pallet : Cond.selects RX7 yX7_pallet yX7_pallet ∈ allW := tb4 149 rfl rfl
theorem wd_co_yX7_pallet : Cond.code yX7_pallet cX7_pallet 3 (some .int) ∈ allW := tb4 150 rfl rfl
theorem wd_ml_X7_131 : Cond.methodLink RX7 131 yX7_toldOfPallet ∈ allW := tb4 151 rfl rfl
theorem wd_im_yX7_toldOfPallet : Cond.instanceMethod yX7_toldOfPallet ∈ allW := tb4 153 rfl rfl
theorem wd_se_yX7_toldOfPallet : Cond.selects RX7 yX7_toldOfPallet yX7_toldOfPallet ∈ allW := tpS (⟨"ColdStoreModel", "toldOfPallet", "(II)I"⟩, 24) (List.mem_append_right _ (List.mem_of_getElem? (i := 8) rfl))
theorem wd_co_yX7_toldOfPallet : Cond.code yX7_toldOfPallet cX7_toldOfPallet 3 (some .int) ∈ allW := tb4 154 rfl rfl
theorem wd_ml_X7_128 : Cond.methodLink RX7 128 yX7_leftOf ∈ allW := tb4 155 rfl rfl
theorem wd_im_yX7_leftOf : Cond.instanceMethod yX7_leftOf ∈ allW := tb4 157 rfl rfl
theorem wd_se_yX7_leftOf : Cond.selects RX7 yX7_leftOf yX7_leftOf ∈ allW := tpS (⟨"ColdStoreModel", "leftOf", "(I)I"⟩, 24) (List.mem_append_right _ (List.mem_of_getElem? (i := 9) rfl))
theorem wd_co_yX7_leftOf : Cond.code yX7_leftOf cX7_leftOf 2 (some .int) ∈ allW := tb4 158 rfl rfl
theorem wd_ml_L_133 : Cond.methodLink RL 133 yL_bestRoom ∈ allW := tb3 62 rfl rfl
theorem wd_st_yL_bestRoom : Cond.static yL_bestRoom ∈ allW := tb3 63 rfl rfl
theorem wd_co_yL_bestRoom : Cond.codeWith yL_bestRoom cL_bestRoom 4 (some .int) [(0, 9, 12, 36)] ∈ allW := tb3 64 rfl rfl
theorem wd_ml_L_56 : Cond.methodLink RL 56 yX6_bestRoom ∈ allW := tb3 65 rfl rfl
theorem wd_im_yX6_bestRoom : Cond.instanceMethod yX6_bestRoom ∈ allW := tb3 66 rfl rfl
theorem wd_se_yX6_bestRoom : Cond.selects RX6 yX6_bestRoom yX6_bestRoom ∈ allW := tb3 67 rfl rfl
theorem wd_co_yX6_bestRoom : Cond.code yX6_bestRoom cX6_bestRoom 8 (some .int) ∈ allW := tb3 68 rfl rfl
theorem wd_ml_X6_171 : Cond.methodLink RX6 171 yX4_isBetterFor ∈ allW := tb3 69 rfl rfl
theorem wd_im_yX4_isBetterFor : Cond.instanceMethod yX4_isBetterFor ∈ allW := tb3 70 rfl rfl
theorem wd_se_yX4_isBetterFor : Cond.selects RX4 yX4_isBetterFor yX4_isBetterFor ∈ allW := tb3 71 rfl rfl
theorem wd_co_yX4_isBetterFor : Cond.code yX4_isBetterFor cX4_isBetterFor 5 (some .boolean) ∈ allW := tb3 72 rfl rfl
theorem wd_ml_X4_80 : Cond.methodLink RX4 80 yX3_distanceFromSuiting ∈ allW := tb3 73 rfl rfl
theorem wd_im_yX3_distanceFromSuiting : Cond.instanceMethod yX3_distanceFromSuiting ∈ allW := tb3 74 rfl rfl
theorem wd_se_yX3_distanceFromSuiting : Cond.selects RX3 yX3_distanceFromSuiting yX3_distanceFromSuiting ∈ allW := tb3 75 rfl rfl
theorem wd_co_yX3_distanceFromSuiting : Cond.code yX3_distanceFromSuiting cX3_distanceFromSuiting 2 (some .int) ∈ allW := tb3 76 rfl rfl
theorem wd_ml_L_135 : Cond.methodLink RL 135 yX7_bestRoom ∈ allW := tb4 159 rfl rfl
theorem wd_im_yX7_bestRoom : Cond.instanceMethod yX7_bestRoom ∈ allW := tb4 160 rfl rfl
theorem wd_se_yX7_bestRoom : Cond.selects RX7 yX7_bestRoom yX7_bestRoom ∈ allW := tb4 161 rfl rfl
theorem wd_co_yX7_bestRoom : Cond.code yX7_bestRoom cX7_bestRoom 5 (some .int) ∈ allW := tb4 162 rfl rfl
theorem wd_ml_X7_137 : Cond.methodLink RX7 137 yX7_off ∈ allW := tb4 163 rfl rfl
theorem wd_im_yX7_off : Cond.instanceMethod yX7_off ∈ allW := tb4 165 rfl rfl
theorem wd_se_yX7_off : Cond.selects RX7 yX7_off yX7_off ∈ allW := tpS (⟨"ColdStoreModel", "off", "(II)I"⟩, 24) (List.mem_append_right _ (List.mem_of_getElem? (i := 10) rfl))
theorem wd_co_yX7_off : Cond.code yX7_off cX7_off 3 (some .int) ∈ allW := tb4 166 rfl rfl
theorem wd_ml_X7_134 : Cond.methodLink RX7 134 Lib.Math.max.name ∈ allW := tb4 167 rfl rfl
theorem wd_st_yJ9_max_7cf53 : Cond.static Lib.Math.max.name ∈ allW := tb4 168 rfl rfl
theorem wd_co_yJ9_max_7cf53 : Cond.code Lib.Math.max.name Lib.Math.max.code 2 (some .int) ∈ allW := tb4 169 rfl rfl
theorem wd_ml_L_136 : Cond.methodLink RL 136 yL_ship ∈ allW := tb3 77 rfl rfl
theorem wd_st_yL_ship : Cond.static yL_ship ∈ allW := tb3 78 rfl rfl
theorem wd_co_yL_ship : Cond.codeWith yL_ship cL_ship 6 (some .int) [(0, 12, 15, 36), (0, 12, 19, 13)] ∈ allW := tb3 79 rfl rfl
theorem wd_ml_L_59 : Cond.methodLink RL 59 yX6_ship ∈ allW := tb3 80 rfl rfl
theorem wd_im_yX6_ship : Cond.instanceMethod yX6_ship ∈ allW := tb3 81 rfl rfl
theorem wd_se_yX6_ship : Cond.selects RX6 yX6_ship yX6_ship ∈ allW := tb3 82 rfl rfl
theorem wd_co_yX6_ship : Cond.code yX6_ship cX6_ship 7 (some .int) ∈ allW := tb3 83 rfl rfl
theorem wd_k_X6_177 : Cond.constant RX6 177 (2147483647) ∈ allW := tb3 84 rfl rfl
theorem wd_ml_X6_178 : Cond.methodLink RX6 178 yX6_nextToShip ∈ allW := tb3 85 rfl rfl
theorem wd_im_yX6_nextToShip : Cond.instanceMethod yX6_nextToShip ∈ allW := tb3 87 rfl rfl
theorem wd_se_yX6_nextToShip : Cond.selects RX6 yX6_nextToShip yX6_nextToShip ∈ allW := tpS (⟨"ColdStore", "nextToShip", "(LColdStore$Product;I)LColdStore$Pallet;"⟩, 11) (List.mem_append_left _ (List.mem_of_getElem? (i := 8) rfl))
theorem wd_co_yX6_nextToShip : Cond.code yX6_nextToShip cX6_nextToShip 8 (some (.object "ColdStore$Pallet")) ∈ allW := tb3 88 rfl rfl
theorem wd_ml_X6_192 : Cond.methodLink RX6 192 yX2_isHereWith ∈ allW := tb3 89 rfl rfl
theorem wd_im_yX2_isHereWith : Cond.instanceMethod yX2_isHereWith ∈ allW := tb3 90 rfl rfl
theorem wd_se_yX2_isHereWith : Cond.selects RX2 yX2_isHereWith yX2_isHereWith ∈ allW := tb3 91 rfl rfl
theorem wd_co_yX2_isHereWith : Cond.code yX2_isHereWith cX2_isHereWith 2 (some .boolean) ∈ allW := tb3 92 rfl rfl
theorem wd_ml_X2_42 : Cond.methodLink RX2 42 yX2_isHere ∈ allW := tb3 93 rfl rfl
theorem wd_im_yX2_isHere : Cond.instanceMethod yX2_isHere ∈ allW := tb1 100 rfl rfl
theorem wd_se_yX2_isHere : Cond.selects RX2 yX2_isHere yX2_isHere ∈ allW := tb1 101 rfl rfl
theorem wd_co_yX2_isHere : Cond.code yX2_isHere cX2_isHere 1 (some .boolean) ∈ allW := tb1 102 rfl rfl
theorem wd_ml_X6_226 : Cond.methodLink RX6 226 yX2_left ∈ allW := tb3 94 rfl rfl
theorem wd_ml_X6_182 : Cond.methodLink RX6 182 yX6_leave ∈ allW := tb1 111 rfl rfl
theorem wd_st_yX6_leave : Cond.static yX6_leave ∈ allW := tb1 112 rfl rfl
theorem wd_co_yX6_leave : Cond.code yX6_leave cX6_leave 2 none ∈ allW := tb1 113 rfl rfl
theorem wd_ml_L_138 : Cond.methodLink RL 138 yX7_ship ∈ allW := tb4 170 rfl rfl
theorem wd_im_yX7_ship : Cond.instanceMethod yX7_ship ∈ allW := tb4 171 rfl rfl
theorem wd_se_yX7_ship : Cond.selects RX7 yX7_ship yX7_ship ∈ allW := tb4 172 rfl rfl
theorem wd_co_yX7_ship : Cond.code yX7_ship cX7_ship 7 (some .int) ∈ allW := tb4 173 rfl rfl
theorem wd_fl_X7_140 : Cond.fieldLink RX7 140 "ColdStoreModel" "shipped" "I" ∈ allW := tb4 0 rfl rfl
theorem wd_ml_L_139 : Cond.methodLink RL 139 yX6_clear ∈ allW := tb1 95 rfl rfl
theorem wd_im_yX6_clear : Cond.instanceMethod yX6_clear ∈ allW := tb1 96 rfl rfl
theorem wd_se_yX6_clear : Cond.selects RX6 yX6_clear yX6_clear ∈ allW := tb1 97 rfl rfl
theorem wd_co_yX6_clear : Cond.code yX6_clear cX6_clear 6 (some .int) ∈ allW := tb1 98 rfl rfl
theorem wd_ml_X6_185 : Cond.methodLink RX6 185 yX2_isHere ∈ allW := tb1 99 rfl rfl
theorem wd_ml_X6_189 : Cond.methodLink RX6 189 yX2_isSpoiled ∈ allW := tb1 103 rfl rfl
theorem wd_im_yX2_isSpoiled : Cond.instanceMethod yX2_isSpoiled ∈ allW := tb1 104 rfl rfl
theorem wd_se_yX2_isSpoiled : Cond.selects RX2 yX2_isSpoiled yX2_isSpoiled ∈ allW := tb1 105 rfl rfl
theorem wd_co_yX2_isSpoiled : Cond.code yX2_isSpoiled cX2_isSpoiled 1 (some .boolean) ∈ allW := tb1 106 rfl rfl
theorem wd_ml_L_142 : Cond.methodLink RL 142 yX7_clear ∈ allW := tb4 174 rfl rfl
theorem wd_im_yX7_clear : Cond.instanceMethod yX7_clear ∈ allW := tb4 175 rfl rfl
theorem wd_se_yX7_clear : Cond.selects RX7 yX7_clear yX7_clear ∈ allW := tb4 176 rfl rfl
theorem wd_co_yX7_clear : Cond.code yX7_clear cX7_clear 3 (some .int) ∈ allW := tb4 177 rfl rfl
theorem wd_ml_X7_143 : Cond.methodLink RX7 143 yX7_there ∈ allW := tb4 178 rfl rfl
theorem wd_im_yX7_there : Cond.instanceMethod yX7_there ∈ allW := tb4 180 rfl rfl
theorem wd_se_yX7_there : Cond.selects RX7 yX7_there yX7_there ∈ allW := tpS (⟨"ColdStoreModel", "there", "(IZ)I"⟩, 24) (List.mem_append_right _ (List.mem_of_getElem? (i := 11) rfl))
theorem wd_co_yX7_there : Cond.code yX7_there cX7_there 5 (some .int) ∈ allW := tb4 181 rfl rfl
theorem wd_ml_L_143 : Cond.methodLink RL 143 yL_stock ∈ allW := tb3 95 rfl rfl
theorem wd_st_yL_stock : Cond.static yL_stock ∈ allW := tb3 96 rfl rfl
theorem wd_co_yL_stock : Cond.codeWith yL_stock cL_stock 5 (some .int) [(0, 10, 13, 36)] ∈ allW := tb3 97 rfl rfl
theorem wd_ml_L_62 : Cond.methodLink RL 62 yX6_stock ∈ allW := tb3 98 rfl rfl
theorem wd_im_yX6_stock : Cond.instanceMethod yX6_stock ∈ allW := tb3 99 rfl rfl
theorem wd_se_yX6_stock : Cond.selects RX6 yX6_stock yX6_stock ∈ allW := tb3 100 rfl rfl
theorem wd_co_yX6_stock : Cond.code yX6_stock cX6_stock 9 (some .int) ∈ allW := tb3 101 rfl rfl
theorem wd_ml_L_146 : Cond.methodLink RL 146 yX7_stock ∈ allW := tb4 182 rfl rfl
theorem wd_im_yX7_stock : Cond.instanceMethod yX7_stock ∈ allW := tb4 183 rfl rfl
theorem wd_se_yX7_stock : Cond.selects RX7 yX7_stock yX7_stock ∈ allW := tb4 184 rfl rfl
theorem wd_co_yX7_stock : Cond.code yX7_stock cX7_stock 3 (some .int) ∈ allW := tb4 185 rfl rfl
theorem wd_ml_L_147 : Cond.methodLink RL 147 yL_count ∈ allW := tb3 102 rfl rfl
theorem wd_st_yL_count : Cond.static yL_count ∈ allW := tb3 103 rfl rfl
theorem wd_co_yL_count : Cond.codeWith yL_count cL_count 4 (some .int) [(0, 9, 12, 36)] ∈ allW := tb3 104 rfl rfl
theorem wd_ml_L_66 : Cond.methodLink RL 66 yX6_count ∈ allW := tb3 105 rfl rfl
theorem wd_im_yX6_count : Cond.instanceMethod yX6_count ∈ allW := tb3 106 rfl rfl
theorem wd_se_yX6_count : Cond.selects RX6 yX6_count yX6_count ∈ allW := tb3 107 rfl rfl
theorem wd_co_yX6_count : Cond.code yX6_count cX6_count 2 (some .int) ∈ allW := tb3 108 rfl rfl
theorem wd_ml_X6_195 : Cond.methodLink RX6 195 yX6_countOf ∈ allW := tb1 135 rfl rfl
theorem wd_im_yX6_countOf : Cond.instanceMethod yX6_countOf ∈ allW := tb1 137 rfl rfl
theorem wd_se_yX6_countOf : Cond.selects RX6 yX6_countOf yX6_countOf ∈ allW := tpS (⟨"ColdStore", "countOf", "(I)I"⟩, 11) (List.mem_append_left _ (List.mem_of_getElem? (i := 0) rfl))
theorem wd_co_yX6_countOf : Cond.code yX6_countOf cX6_countOf 2 (some .int) ∈ allW := tb1 138 rfl rfl
theorem wd_ml_X6_258 : Cond.methodLink RX6 258 yX6_palletsHere ∈ allW := tb1 139 rfl rfl
theorem wd_im_yX6_palletsHere : Cond.instanceMethod yX6_palletsHere ∈ allW := tb1 141 rfl rfl
theorem wd_se_yX6_palletsHere : Cond.selects RX6 yX6_palletsHere yX6_palletsHere ∈ allW := tpS (⟨"ColdStore", "palletsHere", "()I"⟩, 11) (List.mem_append_left _ (List.mem_of_getElem? (i := 1) rfl))
theorem wd_co_yX6_palletsHere : Cond.code yX6_palletsHere cX6_palletsHere 6 (some .int) ∈ allW := tb1 142 rfl rfl
theorem wd_ml_L_149 : Cond.methodLink RL 149 yX7_count ∈ allW := tb4 186 rfl rfl
theorem wd_im_yX7_count : Cond.instanceMethod yX7_count ∈ allW := tb4 187 rfl rfl
theorem wd_se_yX7_count : Cond.selects RX7 yX7_count yX7_count ∈ allW := tb4 188 rfl rfl
theorem wd_co_yX7_count : Cond.code yX7_count cX7_count 2 (some .int) ∈ allW := tb4 189 rfl rfl
theorem wd_ml_X7_147 : Cond.methodLink RX7 147 yX7_counted ∈ allW := tb4 190 rfl rfl
theorem wd_im_yX7_counted : Cond.instanceMethod yX7_counted ∈ allW := tb4 192 rfl rfl
theorem wd_se_yX7_counted : Cond.selects RX7 yX7_counted yX7_counted ∈ allW := tpS (⟨"ColdStoreModel", "counted", "(I)I"⟩, 24) (List.mem_append_right _ (List.mem_of_getElem? (i := 12) rfl))
theorem wd_co_yX7_counted : Cond.code yX7_counted cX7_counted 2 (some .int) ∈ allW := tb4 193 rfl rfl
theorem wd_ml_L_150 : Cond.methodLink RL 150 yL_tick ∈ allW := tb3 109 rfl rfl
theorem wd_st_yL_tick : Cond.static yL_tick ∈ allW := tb3 110 rfl rfl
theorem wd_co_yL_tick : Cond.codeWith yL_tick cL_tick 4 (some .int) [(0, 9, 12, 13)] ∈ allW := tb3 111 rfl rfl
theorem wd_ml_L_69 : Cond.methodLink RL 69 yX6_tick ∈ allW := tb3 112 rfl rfl
theorem wd_im_yX6_tick : Cond.instanceMethod yX6_tick ∈ allW := tb3 113 rfl rfl
theorem wd_se_yX6_tick : Cond.selects RX6 yX6_tick yX6_tick ∈ allW := tb3 114 rfl rfl
theorem wd_co_yX6_tick : Cond.code yX6_tick cX6_tick 4 (some .int) ∈ allW := tb3 115 rfl rfl
theorem wd_ml_X6_198 : Cond.methodLink RX6 198 Lib.Math.min.name ∈ allW := tb3 116 rfl rfl
theorem wd_ml_X6_204 : Cond.methodLink RX6 204 yX6_spoiledHere ∈ allW := tb3 117 rfl rfl
theorem wd_im_yX6_spoiledHere : Cond.instanceMethod yX6_spoiledHere ∈ allW := tb3 119 rfl rfl
theorem wd_se_yX6_spoiledHere : Cond.selects RX6 yX6_spoiledHere yX6_spoiledHere ∈ allW := tpS (⟨"ColdStore", "spoiledHere", "()I"⟩, 11) (List.mem_append_left _ (List.mem_of_getElem? (i := 9) rfl))
theorem wd_co_yX6_spoiledHere : Cond.code yX6_spoiledHere cX6_spoiledHere 6 (some .int) ∈ allW := tb3 120 rfl rfl
theorem wd_ml_X6_208 : Cond.methodLink RX6 208 yX6_passHourEverywhere ∈ allW := tb3 121 rfl rfl
theorem wd_im_yX6_passHourEverywhere : Cond.instanceMethod yX6_passHourEverywhere ∈ allW := tb3 123 rfl rfl
theorem wd_se_yX6_passHourEverywhere : Cond.selects RX6 yX6_passHourEverywhere yX6_passHourEverywhere ∈ allW := tpS (⟨"ColdStore", "passHourEverywhere", "()V"⟩, 11) (List.mem_append_left _ (List.mem_of_getElem? (i := 10) rfl))
theorem wd_co_yX6_passHourEverywhere : Cond.code yX6_passHourEverywhere cX6_passHourEverywhere 6 none ∈ allW := tb3 124 rfl rfl
theorem wd_ml_X6_261 : Cond.methodLink RX6 261 yX5_priceAt ∈ allW := tb3 125 rfl rfl
theorem wd_im_yX5_priceAt : Cond.instanceMethod yX5_priceAt ∈ allW := tb3 126 rfl rfl
theorem wd_se_yX5_priceAt : Cond.selects RX5 yX5_priceAt yX5_priceAt ∈ allW := tb3 127 rfl rfl
theorem wd_co_yX5_priceAt : Cond.code yX5_priceAt cX5_priceAt 2 (some .int) ∈ allW := tb3 128 rfl rfl
theorem wd_ml_X5_25 : Cond.methodLink RX5 25 yJ9_floorMod_7cf53 ∈ allW := tb3 129 rfl rfl
theorem wd_ml_X6_214 : Cond.methodLink RX6 214 yX6_passHourIn ∈ allW := tb3 130 rfl rfl
theorem wd_im_yX6_passHourIn : Cond.instanceMethod yX6_passHourIn ∈ allW := tb3 132 rfl rfl
theorem wd_se_yX6_passHourIn : Cond.selects RX6 yX6_passHourIn yX6_passHourIn ∈ allW := tpS (⟨"ColdStore", "passHourIn", "(LColdStore$Room;I)I"⟩, 11) (List.mem_append_left _ (List.mem_of_getElem? (i := 11) rfl))
theorem wd_co_yX6_passHourIn : Cond.code yX6_passHourIn cX6_passHourIn 3 (some .int) ∈ allW := tb3 133 rfl rfl
theorem wd_ml_X6_264 : Cond.methodLink RX6 264 yX5_isLowestAt ∈ allW := tb3 134 rfl rfl
theorem wd_im_yX5_isLowestAt : Cond.instanceMethod yX5_isLowestAt ∈ allW := tb3 135 rfl rfl
theorem wd_se_yX5_isLowestAt : Cond.selects RX5 yX5_isLowestAt yX5_isLowestAt ∈ allW := tb3 136 rfl rfl
theorem wd_co_yX5_isLowestAt : Cond.code yX5_isLowestAt cX5_isLowestAt 2 (some .boolean) ∈ allW := tb3 137 rfl rfl
theorem wd_ml_X5_28 : Cond.methodLink RX5 28 yX5_priceAt ∈ allW := tb3 138 rfl rfl
theorem wd_ml_X6_268 : Cond.methodLink RX6 268 yX4_passHour ∈ allW := tb3 139 rfl rfl
theorem wd_im_yX4_passHour : Cond.instanceMethod yX4_passHour ∈ allW := tb3 140 rfl rfl
theorem wd_se_yX4_passHour : Cond.selects RX4 yX4_passHour yX4_passHour ∈ allW := tb3 141 rfl rfl
theorem wd_co_yX4_passHour : Cond.code yX4_passHour cX4_passHour 10 (some .int) ∈ allW := tb3 142 rfl rfl
theorem wd_ml_X4_88 : Cond.methodLink RX4 88 yX1_beginHour ∈ allW := tb3 143 rfl rfl
theorem wd_im_yX1_beginHour : Cond.instanceMethod yX1_beginHour ∈ allW := tb3 144 rfl rfl
theorem wd_se_yX1_beginHour : Cond.selects RX1 yX1_beginHour yX1_beginHour ∈ allW := tb3 145 rfl rfl
theorem wd_co_yX1_beginHour : Cond.code yX1_beginHour cX1_beginHour 3 none ∈ allW := tb3 146 rfl rfl
theorem wd_ml_X1_25 : Cond.methodLink RX1 25 yX1_defrostOneHour ∈ allW := tb3 147 rfl rfl
theorem wd_im_yX1_defrostOneHour : Cond.instanceMethod yX1_defrostOneHour ∈ allW := tb3 149 rfl rfl
theorem wd_se_yX1_defrostOneHour : Cond.selects RX1 yX1_defrostOneHour yX1_defrostOneHour ∈ allW := tpS (⟨"ColdStore$Machine", "defrostOneHour", "()V"⟩, 5) (List.mem_append_left _ (List.mem_of_getElem? (i := 12) rfl))
theorem wd_co_yX1_defrostOneHour : Cond.code yX1_defrostOneHour cX1_defrostOneHour 1 none ∈ allW := tb3 150 rfl rfl
theorem wd_ml_X4_92 : Cond.methodLink RX4 92 yX4_warmthOfPallets ∈ allW := tb3 151 rfl rfl
theorem wd_im_yX4_warmthOfPallets : Cond.instanceMethod yX4_warmthOfPallets ∈ allW := tb3 153 rfl rfl
theorem wd_se_yX4_warmthOfPallets : Cond.selects RX4 yX4_warmthOfPallets yX4_warmthOfPallets ∈ allW := tpS (⟨"ColdStore$Room", "warmthOfPallets", "()I"⟩, 11) (List.mem_append_left _ (List.mem_of_getElem? (i := 13) rfl))
theorem wd_co_yX4_warmthOfPallets : Cond.code yX4_warmthOfPallets cX4_warmthOfPallets 6 (some .int) ∈ allW := tb3 154 rfl rfl
theorem wd_fl_X4_104 : Cond.fieldLink RX4 104 "ColdStore$Pallet" "temperature" "I" ∈ allW := tb3 21 rfl rfl
theorem wd_ml_X4_95 : Cond.methodLink RX4 95 yX1_warmthOfHour ∈ allW := tb3 155 rfl rfl
theorem wd_im_yX1_warmthOfHour : Cond.instanceMethod yX1_warmthOfHour ∈ allW := tb3 156 rfl rfl
theorem wd_se_yX1_warmthOfHour : Cond.selects RX1 yX1_warmthOfHour yX1_warmthOfHour ∈ allW := tb3 157 rfl rfl
theorem wd_co_yX1_warmthOfHour : Cond.code yX1_warmthOfHour cX1_warmthOfHour 1 (some .int) ∈ allW := tb3 158 rfl rfl
theorem wd_ml_X4_98 : Cond.methodLink RX4 98 yX1_useEnergy ∈ allW := tb3 159 rfl rfl
theorem wd_im_yX1_useEnergy : Cond.instanceMethod yX1_useEnergy ∈ allW := tb3 160 rfl rfl
theorem wd_se_yX1_useEnergy : Cond.selects RX1 yX1_useEnergy yX1_useEnergy ∈ allW := tb3 161 rfl rfl
theorem wd_co_yX1_useEnergy : Cond.code yX1_useEnergy cX1_useEnergy 1 (some .int) ∈ allW := tb3 162 rfl rfl
theorem wd_ml_X1_28 : Cond.methodLink RX1 28 Lib.Math.min.name ∈ allW := tb3 163 rfl rfl
theorem wd_ml_X4_101 : Cond.methodLink RX4 101 yX2_adaptTo ∈ allW := tb3 164 rfl rfl
theorem wd_im_yX2_adaptTo : Cond.instanceMethod yX2_adaptTo ∈ allW := tb3 165 rfl rfl
theorem wd_se_yX2_adaptTo : Cond.selects RX2 yX2_adaptTo yX2_adaptTo ∈ allW := tb3 166 rfl rfl
theorem wd_co_yX2_adaptTo : Cond.code yX2_adaptTo cX2_adaptTo 2 none ∈ allW := tb3 167 rfl rfl
theorem wd_ml_X2_49 : Cond.methodLink RX2 49 yX3_distanceFromSuiting ∈ allW := tb3 168 rfl rfl
theorem wd_ml_L_152 : Cond.methodLink RL 152 yX7_tick ∈ allW := tb4 194 rfl rfl
theorem wd_im_yX7_tick : Cond.instanceMethod yX7_tick ∈ allW := tb4 195 rfl rfl
theorem wd_se_yX7_tick : Cond.selects RX7 yX7_tick yX7_tick ∈ allW := tb4 196 rfl rfl
theorem wd_co_yX7_tick : Cond.code yX7_tick cX7_tick 5 (some .int) ∈ allW := tb4 197 rfl rfl
theorem wd_ml_X7_158 : Cond.methodLink RX7 158 yX7_hour ∈ allW := tb4 198 rfl rfl
theorem wd_im_yX7_hour : Cond.instanceMethod yX7_hour ∈ allW := tb4 200 rfl rfl
theorem wd_se_yX7_hour : Cond.selects RX7 yX7_hour yX7_hour ∈ allW := tpS (⟨"ColdStoreModel", "hour", "(II)V"⟩, 24) (List.mem_append_right _ (List.mem_of_getElem? (i := 13) rfl))
theorem wd_co_yX7_hour : Cond.code yX7_hour cX7_hour 7 none ∈ allW := tb4 201 rfl rfl
theorem wd_fl_X7_154 : Cond.fieldLink RX7 154 "ColdStoreModel" "paid" "J" ∈ allW := tb3 222 rfl rfl
theorem wd_ml_X7_150 : Cond.methodLink RX7 150 yX7_setMachine ∈ allW := tb4 202 rfl rfl
theorem wd_im_yX7_setMachine : Cond.instanceMethod yX7_setMachine ∈ allW := tb4 204 rfl rfl
theorem wd_se_yX7_setMachine : Cond.selects RX7 yX7_setMachine yX7_setMachine ∈ allW := tpS (⟨"ColdStoreModel", "setMachine", "(II)V"⟩, 24) (List.mem_append_right _ (List.mem_of_getElem? (i := 14) rfl))
theorem wd_co_yX7_setMachine : Cond.code yX7_setMachine cX7_setMachine 6 none ∈ allW := tb4 205 rfl rfl
theorem wd_ml_L_153 : Cond.methodLink RL 153 yL_foretell ∈ allW := tb3 169 rfl rfl
theorem wd_st_yL_foretell : Cond.static yL_foretell ∈ allW := tb3 170 rfl rfl
theorem wd_co_yL_foretell : Cond.codeWith yL_foretell cL_foretell 5 (some .int) [(0, 10, 13, 36), (0, 10, 17, 13)] ∈ allW := tb3 171 rfl rfl
theorem wd_ml_L_72 : Cond.methodLink RL 72 yX6_foretell ∈ allW := tb3 172 rfl rfl
theorem wd_im_yX6_foretell : Cond.instanceMethod yX6_foretell ∈ allW := tb3 173 rfl rfl
theorem wd_se_yX6_foretell : Cond.selects RX6 yX6_foretell yX6_foretell ∈ allW := tb3 174 rfl rfl
theorem wd_co_yX6_foretell : Cond.code yX6_foretell cX6_foretell 5 (some .int) ∈ allW := tb3 175 rfl rfl
theorem wd_fl_X6_218 : Cond.fieldLink RX6 218 "ColdStore$Room" "temperature" "I" ∈ allW := tb2 133 rfl rfl
theorem wd_ml_X6_211 : Cond.methodLink RX6 211 yX4_remember ∈ allW := tb3 176 rfl rfl
theorem wd_im_yX4_remember : Cond.instanceMethod yX4_remember ∈ allW := tb3 177 rfl rfl
theorem wd_se_yX4_remember : Cond.selects RX4 yX4_remember yX4_remember ∈ allW := tb3 178 rfl rfl
theorem wd_co_yX4_remember : Cond.code yX4_remember cX4_remember 5 none ∈ allW := tb3 179 rfl rfl
theorem wd_ml_X4_105 : Cond.methodLink RX4 105 yX1_imitate ∈ allW := tb3 180 rfl rfl
theorem wd_im_yX1_imitate : Cond.instanceMethod yX1_imitate ∈ allW := tb3 181 rfl rfl
theorem wd_se_yX1_imitate : Cond.selects RX1 yX1_imitate yX1_imitate ∈ allW := tb3 182 rfl rfl
theorem wd_co_yX1_imitate : Cond.code yX1_imitate cX1_imitate 2 none ∈ allW := tb3 183 rfl rfl
theorem wd_ml_X4_109 : Cond.methodLink RX4 109 yX2_remember ∈ allW := tb3 184 rfl rfl
theorem wd_im_yX2_remember : Cond.instanceMethod yX2_remember ∈ allW := tb3 185 rfl rfl
theorem wd_se_yX2_remember : Cond.selects RX2 yX2_remember yX2_remember ∈ allW := tb3 186 rfl rfl
theorem wd_co_yX2_remember : Cond.code yX2_remember cX2_remember 1 none ∈ allW := tb3 187 rfl rfl
theorem wd_ml_X6_221 : Cond.methodLink RX6 221 yX4_recall ∈ allW := tb3 188 rfl rfl
theorem wd_im_yX4_recall : Cond.instanceMethod yX4_recall ∈ allW := tb3 189 rfl rfl
theorem wd_se_yX4_recall : Cond.selects RX4 yX4_recall yX4_recall ∈ allW := tb3 190 rfl rfl
theorem wd_co_yX4_recall : Cond.code yX4_recall cX4_recall 5 none ∈ allW := tb3 191 rfl rfl
theorem wd_ml_X4_112 : Cond.methodLink RX4 112 yX2_recall ∈ allW := tb3 192 rfl rfl
theorem wd_im_yX2_recall : Cond.instanceMethod yX2_recall ∈ allW := tb3 193 rfl rfl
theorem wd_se_yX2_recall : Cond.selects RX2 yX2_recall yX2_recall ∈ allW := tb3 194 rfl rfl
theorem wd_co_yX2_recall : Cond.code yX2_recall cX2_recall 1 none ∈ allW := tb3 195 rfl rfl
theorem wd_ml_L_155 : Cond.methodLink RL 155 yX7_foretell ∈ allW := tb4 206 rfl rfl
theorem wd_im_yX7_foretell : Cond.instanceMethod yX7_foretell ∈ allW := tb4 207 rfl rfl
theorem wd_se_yX7_foretell : Cond.selects RX7 yX7_foretell yX7_foretell ∈ allW := tb4 208 rfl rfl
theorem wd_co_yX7_foretell : Cond.code yX7_foretell cX7_foretell 3 (some .int) ∈ allW := tb4 209 rfl rfl
theorem wd_ml_X7_172 : Cond.methodLink RX7 172 yX7_ahead ∈ allW := tb4 210 rfl rfl
theorem wd_im_yX7_ahead : Cond.instanceMethod yX7_ahead ∈ allW := tb4 212 rfl rfl
theorem wd_se_yX7_ahead : Cond.selects RX7 yX7_ahead yX7_ahead ∈ allW := tpS (⟨"ColdStoreModel", "ahead", "(III)[I"⟩, 24) (List.mem_append_right _ (List.mem_of_getElem? (i := 15) rfl))
theorem wd_co_yX7_ahead : Cond.code yX7_ahead cX7_ahead 11 (some (.array .int)) ∈ allW := tb4 213 rfl rfl
theorem wd_ml_X7_161 : Cond.methodLink RX7 161 ⟨"[I", "clone", "()Ljava/lang/Object;"⟩ ∈ allW := tb4 214 rfl rfl
theorem wd_sm___I___java_lang_Object___clone_____Ljava_lang_Object__ : Cond.sameMethod "[I" "java/lang/Object" "clone" "()Ljava/lang/Object;" ∈ allW := tb4 215 rfl rfl
theorem wd_na__java_lang_Object_clone___Ljava_lang_Object__ : Cond.native ⟨"java/lang/Object", "clone", "()Ljava/lang/Object;"⟩ ∈ allW := tb4 216 rfl rfl
theorem wd_im__java_lang_Object_clone___Ljava_lang_Object__ : Cond.instanceMethod ⟨"java/lang/Object", "clone", "()Ljava/lang/Object;"⟩ ∈ allW := tb4 217 rfl rfl
theorem wd_se___I_clone___Ljava_lang_Object__ : Cond.selects "[I" ⟨"[I", "clone", "()Ljava/lang/Object;"⟩ ⟨"java/lang/Object", "clone", "()Ljava/lang/Object;"⟩ ∈ allW := tb4 218 rfl rfl
theorem wd_cl_X7_162 : Cond.classLink RX7 162 "[I" ∈ allW := tb4 220 rfl rfl
theorem wd_ml_X7_166 : Cond.methodLink RX7 166 arraycopyName ∈ allW := tb4 221 rfl rfl
theorem wd_na__java_lang_System_arraycopy__Ljava_lang_Object_ILjava_lang_Object_II_V_ : Cond.native arraycopyName ∈ allW := tb4 223 rfl rfl
theorem wd_st__java_lang_System_arraycopy__Ljava_lang_Object_ILjava_lang_Object_II_V_ : Cond.static arraycopyName ∈ allW := tb4 222 rfl rfl
theorem wd_in_RJ10 : Cond.initialized "java/lang/System" ∈ allW := tb1 16 rfl rfl
theorem wd_ml_L_156 : Cond.methodLink RL 156 yL_lasts ∈ allW := tb3 196 rfl rfl
theorem wd_st_yL_lasts : Cond.static yL_lasts ∈ allW := tb3 197 rfl rfl
theorem wd_co_yL_lasts : Cond.codeWith yL_lasts cL_lasts 4 (some .int) [(0, 9, 12, 36), (0, 9, 15, 27)] ∈ allW := tb3 198 rfl rfl
theorem wd_ml_L_75 : Cond.methodLink RL 75 yX6_lasts ∈ allW := tb3 199 rfl rfl
theorem wd_im_yX6_lasts : Cond.instanceMethod yX6_lasts ∈ allW := tb3 200 rfl rfl
theorem wd_se_yX6_lasts : Cond.selects RX6 yX6_lasts yX6_lasts ∈ allW := tb3 201 rfl rfl
theorem wd_co_yX6_lasts : Cond.code yX6_lasts cX6_lasts 5 (some .int) ∈ allW := tb3 202 rfl rfl
theorem wd_ml_L_158 : Cond.methodLink RL 158 yX7_lasts ∈ allW := tb4 224 rfl rfl
theorem wd_im_yX7_lasts : Cond.instanceMethod yX7_lasts ∈ allW := tb4 225 rfl rfl
theorem wd_se_yX7_lasts : Cond.selects RX7 yX7_lasts yX7_lasts ∈ allW := tb4 226 rfl rfl
theorem wd_co_yX7_lasts : Cond.code yX7_lasts cX7_lasts 2 (some .int) ∈ allW := tb4 227 rfl rfl
theorem wd_ml_L_159 : Cond.methodLink RL 159 yX6_now ∈ allW := tb1 118 rfl rfl
theorem wd_im_yX6_now : Cond.instanceMethod yX6_now ∈ allW := tb1 119 rfl rfl
theorem wd_se_yX6_now : Cond.selects RX6 yX6_now yX6_now ∈ allW := tb1 120 rfl rfl
theorem wd_co_yX6_now : Cond.code yX6_now cX6_now 1 (some .int) ∈ allW := tb1 121 rfl rfl
theorem wd_ml_L_162 : Cond.methodLink RL 162 yX7_now ∈ allW := tb4 228 rfl rfl
theorem wd_im_yX7_now : Cond.instanceMethod yX7_now ∈ allW := tb4 229 rfl rfl
theorem wd_se_yX7_now : Cond.selects RX7 yX7_now yX7_now ∈ allW := tb4 230 rfl rfl
theorem wd_co_yX7_now : Cond.code yX7_now cX7_now 1 (some .int) ∈ allW := tb4 231 rfl rfl
theorem wd_ml_L_163 : Cond.methodLink RL 163 yX6_paid ∈ allW := tb1 122 rfl rfl
theorem wd_im_yX6_paid : Cond.instanceMethod yX6_paid ∈ allW := tb1 123 rfl rfl
theorem wd_se_yX6_paid : Cond.selects RX6 yX6_paid yX6_paid ∈ allW := tb1 124 rfl rfl
theorem wd_co_yX6_paid : Cond.code yX6_paid cX6_paid 1 (some .long) ∈ allW := tb1 125 rfl rfl
theorem wd_ml_L_167 : Cond.methodLink RL 167 yX7_paid ∈ allW := tb4 232 rfl rfl
theorem wd_im_yX7_paid : Cond.instanceMethod yX7_paid ∈ allW := tb4 233 rfl rfl
theorem wd_se_yX7_paid : Cond.selects RX7 yX7_paid yX7_paid ∈ allW := tb4 234 rfl rfl
theorem wd_co_yX7_paid : Cond.code yX7_paid cX7_paid 1 (some .long) ∈ allW := tb4 235 rfl rfl
theorem wd_ml_L_168 : Cond.methodLink RL 168 yL_freshness ∈ allW := tb3 204 rfl rfl
theorem wd_st_yL_freshness : Cond.static yL_freshness ∈ allW := tb3 205 rfl rfl
theorem wd_co_yL_freshness : Cond.codeWith yL_freshness cL_freshness 4 (some .int) [(0, 8, 11, 36)] ∈ allW := tb3 206 rfl rfl
theorem wd_ml_L_78 : Cond.methodLink RL 78 yX6_freshness ∈ allW := tb3 207 rfl rfl
theorem wd_im_yX6_freshness : Cond.instanceMethod yX6_freshness ∈ allW := tb3 208 rfl rfl
theorem wd_se_yX6_freshness : Cond.selects RX6 yX6_freshness yX6_freshness ∈ allW := tb3 209 rfl rfl
theorem wd_co_yX6_freshness : Cond.code yX6_freshness cX6_freshness 10 (some .double) ∈ allW := tb3 210 rfl rfl
theorem wd_ml_L_171 : Cond.methodLink RL 171 yX7_freshness ∈ allW := tb4 236 rfl rfl
theorem wd_im_yX7_freshness : Cond.instanceMethod yX7_freshness ∈ allW := tb4 237 rfl rfl
theorem wd_se_yX7_freshness : Cond.selects RX7 yX7_freshness yX7_freshness ∈ allW := tb4 238 rfl rfl
theorem wd_co_yX7_freshness : Cond.code yX7_freshness cX7_freshness 5 (some .double) ∈ allW := tb4 239 rfl rfl
theorem wd_ml_L_172 : Cond.methodLink RL 172 yX6_digest ∈ allW := tb1 126 rfl rfl
theorem wd_im_yX6_digest : Cond.instanceMethod yX6_digest ∈ allW := tb1 127 rfl rfl
theorem wd_se_yX6_digest : Cond.selects RX6 yX6_digest yX6_digest ∈ allW := tb1 128 rfl rfl
theorem wd_co_yX6_digest : Cond.code yX6_digest cX6_digest 4 (some .long) ∈ allW := tb1 129 rfl rfl
theorem wd_k_X6_229 : Cond.constantLong RX6 229 (349) ∈ allW := tb1 130 rfl rfl
theorem wd_ml_X6_231 : Cond.methodLink RX6 231 yX6_mix ∈ allW := tb1 131 rfl rfl
theorem wd_st_yX6_mix : Cond.static yX6_mix ∈ allW := tb1 132 rfl rfl
theorem wd_co_yX6_mix : Cond.code yX6_mix cX6_mix 4 (some .long) ∈ allW := tb1 133 rfl rfl
theorem wd_k_X6_272 : Cond.constantLong RX6 272 (31) ∈ allW := tb1 134 rfl rfl
theorem wd_ml_X6_235 : Cond.methodLink RX6 235 yX6_mixRooms ∈ allW := tb1 143 rfl rfl
theorem wd_im_yX6_mixRooms : Cond.instanceMethod yX6_mixRooms ∈ allW := tb1 145 rfl rfl
theorem wd_se_yX6_mixRooms : Cond.selects RX6 yX6_mixRooms yX6_mixRooms ∈ allW := tpS (⟨"ColdStore", "mixRooms", "(J)J"⟩, 11) (List.mem_append_left _ (List.mem_of_getElem? (i := 2) rfl))
theorem wd_co_yX6_mixRooms : Cond.code yX6_mixRooms cX6_mixRooms 10 (some .long) ∈ allW := tb1 146 rfl rfl
theorem wd_ml_X6_239 : Cond.methodLink RX6 239 yX6_mixPallets ∈ allW := tb1 155 rfl rfl
theorem wd_im_yX6_mixPallets : Cond.instanceMethod yX6_mixPallets ∈ allW := tb1 157 rfl rfl
theorem wd_se_yX6_mixPallets : Cond.selects RX6 yX6_mixPallets yX6_mixPallets ∈ allW := tpS (⟨"ColdStore", "mixPallets", "(J)J"⟩, 11) (List.mem_append_left _ (List.mem_of_getElem? (i := 3) rfl))
theorem wd_co_yX6_mixPallets : Cond.code yX6_mixPallets cX6_mixPallets 10 (some .long) ∈ allW := tb1 158 rfl rfl
theorem wd_ml_L_175 : Cond.methodLink RL 175 yX7_digest ∈ allW := tb5 0 rfl rfl
theorem wd_im_yX7_digest : Cond.instanceMethod yX7_digest ∈ allW := tb5 1 rfl rfl
theorem wd_se_yX7_digest : Cond.selects RX7 yX7_digest yX7_digest ∈ allW := tb5 2 rfl rfl
theorem wd_co_yX7_digest : Cond.code yX7_digest cX7_digest 5 (some .long) ∈ allW := tb5 3 rfl rfl
theorem wd_k_X7_176 : Cond.constantLong RX7 176 (10819) ∈ allW := tb5 4 rfl rfl
theorem wd_k_X7_178 : Cond.constantLong RX7 178 (31) ∈ allW := tb5 5 rfl rfl
theorem inX0 : ∀ w ∈ wsX00, w ∈ allW := by
  intro w hw
  obtain ⟨k, hk, rfl⟩ := List.mem_map.mp hw
  have hk := List.mem_range.mp hk
  match k, hk with
  | 0, _ => exact tb1 35 rfl rfl
  | 1, _ => exact tb1 37 rfl rfl
  | k + 2, hk => exact absurd hk (by omega)
theorem inX1 : ∀ w ∈ wsX10, w ∈ allW := by
  intro w hw
  obtain ⟨k, hk, rfl⟩ := List.mem_map.mp hw
  have hk := List.mem_range.mp hk
  match k, hk with
  | 0, _ => exact tb2 110 rfl rfl
  | 1, _ => exact tb2 112 rfl rfl
  | 2, _ => exact tb2 114 rfl rfl
  | 3, _ => exact tb2 116 rfl rfl
  | 4, _ => exact tb2 118 rfl rfl
  | k + 5, hk => exact absurd hk (by omega)
theorem inX2 : ∀ w ∈ wsX20, w ∈ allW := by
  intro w hw
  obtain ⟨k, hk, rfl⟩ := List.mem_map.mp hw
  have hk := List.mem_range.mp hk
  match k, hk with
  | 0, _ => exact tb3 25 rfl rfl
  | 1, _ => exact tb3 27 rfl rfl
  | 2, _ => exact tb3 29 rfl rfl
  | 3, _ => exact tb3 31 rfl rfl
  | 4, _ => exact tb3 33 rfl rfl
  | 5, _ => exact tb3 35 rfl rfl
  | k + 6, hk => exact absurd hk (by omega)
theorem inX3 : ∀ w ∈ wsX30, w ∈ allW := by
  intro w hw
  obtain ⟨k, hk, rfl⟩ := List.mem_map.mp hw
  have hk := List.mem_range.mp hk
  match k, hk with
  | 0, _ => exact tb2 69 rfl rfl
  | 1, _ => exact tb2 71 rfl rfl
  | 2, _ => exact tb2 73 rfl rfl
  | 3, _ => exact tb2 75 rfl rfl
  | 4, _ => exact tb2 77 rfl rfl
  | k + 5, hk => exact absurd hk (by omega)
theorem inX4 : ∀ w ∈ wsX40, w ∈ allW := by
  intro w hw
  obtain ⟨k, hk, rfl⟩ := List.mem_map.mp hw
  have hk := List.mem_range.mp hk
  match k, hk with
  | 0, _ => exact tb2 138 rfl rfl
  | 1, _ => exact tb2 140 rfl rfl
  | 2, _ => exact tb2 142 rfl rfl
  | 3, _ => exact tb2 144 rfl rfl
  | 4, _ => exact tb2 146 rfl rfl
  | 5, _ => exact tb2 148 rfl rfl
  | 6, _ => exact tb2 150 rfl rfl
  | 7, _ => exact tb2 152 rfl rfl
  | 8, _ => exact tb2 154 rfl rfl
  | 9, _ => exact tb2 156 rfl rfl
  | 10, _ => exact tb2 158 rfl rfl
  | k + 11, hk => exact absurd hk (by omega)
theorem inX5 : ∀ w ∈ wsX50, w ∈ allW := by
  intro w hw
  obtain ⟨k, hk, rfl⟩ := List.mem_map.mp hw
  have hk := List.mem_range.mp hk
  match k, hk with
  | 0, _ => exact tb1 49 rfl rfl
  | 1, _ => exact tb1 51 rfl rfl
  | k + 2, hk => exact absurd hk (by omega)
theorem inX6 : ∀ w ∈ wsX60, w ∈ allW := by
  intro w hw
  obtain ⟨k, hk, rfl⟩ := List.mem_map.mp hw
  have hk := List.mem_range.mp hk
  match k, hk with
  | 0, _ => exact tb1 72 rfl rfl
  | 1, _ => exact tb1 74 rfl rfl
  | 2, _ => exact tb1 76 rfl rfl
  | 3, _ => exact tb1 78 rfl rfl
  | 4, _ => exact tb1 80 rfl rfl
  | 5, _ => exact tb1 82 rfl rfl
  | 6, _ => exact tb1 84 rfl rfl
  | 7, _ => exact tb1 86 rfl rfl
  | 8, _ => exact tb1 88 rfl rfl
  | 9, _ => exact tb1 90 rfl rfl
  | 10, _ => exact tb1 92 rfl rfl
  | k + 11, hk => exact absurd hk (by omega)
theorem inX7 : ∀ w ∈ wsX70, w ∈ allW := by
  intro w hw
  obtain ⟨k, hk, rfl⟩ := List.mem_map.mp hw
  have hk := List.mem_range.mp hk
  match k, hk with
  | 0, _ => exact tb4 1 rfl rfl
  | 1, _ => exact tb4 3 rfl rfl
  | 2, _ => exact tb4 5 rfl rfl
  | 3, _ => exact tb4 7 rfl rfl
  | 4, _ => exact tb4 9 rfl rfl
  | 5, _ => exact tb4 11 rfl rfl
  | 6, _ => exact tb4 13 rfl rfl
  | 7, _ => exact tb4 15 rfl rfl
  | 8, _ => exact tb4 17 rfl rfl
  | 9, _ => exact tb4 19 rfl rfl
  | 10, _ => exact tb4 21 rfl rfl
  | 11, _ => exact tb4 23 rfl rfl
  | 12, _ => exact tb4 25 rfl rfl
  | 13, _ => exact tb4 27 rfl rfl
  | 14, _ => exact tb4 29 rfl rfl
  | 15, _ => exact tb4 31 rfl rfl
  | 16, _ => exact tb4 33 rfl rfl
  | 17, _ => exact tb4 35 rfl rfl
  | 18, _ => exact tb4 37 rfl rfl
  | 19, _ => exact tb4 39 rfl rfl
  | 20, _ => exact tb4 41 rfl rfl
  | 21, _ => exact tb4 43 rfl rfl
  | 22, _ => exact tb4 45 rfl rfl
  | 23, _ => exact tb4 47 rfl rfl
  | k + 24, hk => exact absurd hk (by omega)
end
section
theorem dX0_init_0 : decode cX0_init 0 = .ok (.aload_n 0, 1) := by decide +kernel
theorem dX0_init_1 : decode cX0_init 1 = .ok (.invokespecial 3, 3) := by decide +kernel
theorem dX0_init_4 : decode cX0_init 4 = .ok (.aload_n 0, 1) := by decide +kernel
theorem dX0_init_5 : decode cX0_init 5 = .ok (.sipush 150, 3) := by decide +kernel
theorem dX0_init_8 : decode cX0_init 8 = .ok (.putfield 9, 3) := by decide +kernel
theorem dX0_init_11 : decode cX0_init 11 = .ok (.aload_n 0, 1) := by decide +kernel
theorem dX0_init_12 : decode cX0_init 12 = .ok (.iconst 0, 1) := by decide +kernel
theorem dX0_init_13 : decode cX0_init 13 = .ok (.putfield 15, 3) := by decide +kernel
theorem dX0_init_16 : decode cX0_init 16 = .ok (.return_, 1) := by decide +kernel
theorem dX0_temperatureAt_0 : decode cX0_temperatureAt 0 = .ok (.iload_n 1, 1) := by decide +kernel
theorem dX0_temperatureAt_1 : decode cX0_temperatureAt 1 = .ok (.bipush 24, 2) := by decide +kernel
theorem dX0_temperatureAt_3 : decode cX0_temperatureAt 3 = .ok (.invokestatic 18, 3) := by decide +kernel
theorem dX0_temperatureAt_6 : decode cX0_temperatureAt 6 = .ok (.istore_n 2, 1) := by decide +kernel
theorem dX0_temperatureAt_7 : decode cX0_temperatureAt 7 = .ok (.iload_n 2, 1) := by decide +kernel
theorem dX0_temperatureAt_8 : decode cX0_temperatureAt 8 = .ok (.bipush 8, 2) := by decide +kernel
theorem dX0_temperatureAt_10 : decode cX0_temperatureAt 10 = .ok (.if_icmp .lt 9, 3) := by decide +kernel
theorem dX0_temperatureAt_13 : decode cX0_temperatureAt 13 = .ok (.iload_n 2, 1) := by decide +kernel
theorem dX0_temperatureAt_14 : decode cX0_temperatureAt 14 = .ok (.bipush 20, 2) := by decide +kernel
theorem dX0_temperatureAt_16 : decode cX0_temperatureAt 16 = .ok (.if_icmp .le 8, 3) := by decide +kernel
theorem dX0_temperatureAt_19 : decode cX0_temperatureAt 19 = .ok (.aload_n 0, 1) := by decide +kernel
theorem dX0_temperatureAt_20 : decode cX0_temperatureAt 20 = .ok (.getfield 9, 3) := by decide +kernel
theorem dX0_temperatureAt_23 : decode cX0_temperatureAt 23 = .ok (.ireturn, 1) := by decide +kernel
theorem dX0_temperatureAt_24 : decode cX0_temperatureAt 24 = .ok (.aload_n 0, 1) := by decide +kernel
theorem dX0_temperatureAt_25 : decode cX0_temperatureAt 25 = .ok (.getfield 9, 3) := by decide +kernel
theorem dX0_temperatureAt_28 : decode cX0_temperatureAt 28 = .ok (.aload_n 0, 1) := by decide +kernel
theorem dX0_temperatureAt_29 : decode cX0_temperatureAt 29 = .ok (.getfield 15, 3) := by decide +kernel
theorem dX0_temperatureAt_32 : decode cX0_temperatureAt 32 = .ok (.bipush 6, 2) := by decide +kernel
theorem dX0_temperatureAt_34 : decode cX0_temperatureAt 34 = .ok (.iload_n 2, 1) := by decide +kernel
theorem dX0_temperatureAt_35 : decode cX0_temperatureAt 35 = .ok (.bipush 14, 2) := by decide +kernel
theorem dX0_temperatureAt_37 : decode cX0_temperatureAt 37 = .ok (.isub, 1) := by decide +kernel
theorem dX0_temperatureAt_38 : decode cX0_temperatureAt 38 = .ok (.invokestatic 24, 3) := by decide +kernel
theorem dX0_temperatureAt_41 : decode cX0_temperatureAt 41 = .ok (.isub, 1) := by decide +kernel
theorem dX0_temperatureAt_42 : decode cX0_temperatureAt 42 = .ok (.imul, 1) := by decide +kernel
theorem dX0_temperatureAt_43 : decode cX0_temperatureAt 43 = .ok (.bipush 6, 2) := by decide +kernel
theorem dX0_temperatureAt_45 : decode cX0_temperatureAt 45 = .ok (.idiv, 1) := by decide +kernel
theorem dX0_temperatureAt_46 : decode cX0_temperatureAt 46 = .ok (.iadd, 1) := by decide +kernel
theorem dX0_temperatureAt_47 : decode cX0_temperatureAt 47 = .ok (.ireturn, 1) := by decide +kernel
theorem dX1_init_0 : decode cX1_init 0 = .ok (.aload_n 0, 1) := by decide +kernel
theorem dX1_init_1 : decode cX1_init 1 = .ok (.invokespecial 1, 3) := by decide +kernel
theorem dX1_init_4 : decode cX1_init 4 = .ok (.aload_n 0, 1) := by decide +kernel
theorem dX1_init_5 : decode cX1_init 5 = .ok (.iconst 0, 1) := by decide +kernel
theorem dX1_init_6 : decode cX1_init 6 = .ok (.putfield 9, 3) := by decide +kernel
theorem dX1_init_9 : decode cX1_init 9 = .ok (.aload_n 0, 1) := by decide +kernel
theorem dX1_init_10 : decode cX1_init 10 = .ok (.iconst 0, 1) := by decide +kernel
theorem dX1_init_11 : decode cX1_init 11 = .ok (.putfield 13, 3) := by decide +kernel
theorem dX1_init_14 : decode cX1_init 14 = .ok (.aload_n 0, 1) := by decide +kernel
theorem dX1_init_15 : decode cX1_init 15 = .ok (.iconst 0, 1) := by decide +kernel
theorem dX1_init_16 : decode cX1_init 16 = .ok (.putfield 16, 3) := by decide +kernel
theorem dX1_init_19 : decode cX1_init 19 = .ok (.aload_n 0, 1) := by decide +kernel
theorem dX1_init_20 : decode cX1_init 20 = .ok (.iconst 0, 1) := by decide +kernel
theorem dX1_init_21 : decode cX1_init 21 = .ok (.putfield 19, 3) := by decide +kernel
theorem dX1_init_24 : decode cX1_init 24 = .ok (.aload_n 0, 1) := by decide +kernel
theorem dX1_init_25 : decode cX1_init 25 = .ok (.iload_n 1, 1) := by decide +kernel
theorem dX1_init_26 : decode cX1_init 26 = .ok (.putfield 22, 3) := by decide +kernel
theorem dX1_init_29 : decode cX1_init 29 = .ok (.return_, 1) := by decide +kernel
theorem dX1_beginDefrosting_0 : decode cX1_beginDefrosting 0 = .ok (.aload_n 0, 1) := by decide +kernel
theorem dX1_beginDefrosting_1 : decode cX1_beginDefrosting 1 = .ok (.iconst 2, 1) := by decide +kernel
theorem dX1_beginDefrosting_2 : decode cX1_beginDefrosting 2 = .ok (.putfield 9, 3) := by decide +kernel
theorem dX1_beginDefrosting_5 : decode cX1_beginDefrosting 5 = .ok (.aload_n 0, 1) := by decide +kernel
theorem dX1_beginDefrosting_6 : decode cX1_beginDefrosting 6 = .ok (.iconst 3, 1) := by decide +kernel
theorem dX1_beginDefrosting_7 : decode cX1_beginDefrosting 7 = .ok (.putfield 13, 3) := by decide +kernel
theorem dX1_beginDefrosting_10 : decode cX1_beginDefrosting 10 = .ok (.return_, 1) := by decide +kernel
theorem dX1_beginHour_0 : decode cX1_beginHour 0 = .ok (.aload_n 0, 1) := by decide +kernel
theorem dX1_beginHour_1 : decode cX1_beginHour 1 = .ok (.getfield 9, 3) := by decide +kernel
theorem dX1_beginHour_4 : decode cX1_beginHour 4 = .ok (.iconst 2, 1) := by decide +kernel
theorem dX1_beginHour_5 : decode cX1_beginHour 5 = .ok (.if_icmp .ne 10, 3) := by decide +kernel
theorem dX1_beginHour_8 : decode cX1_beginHour 8 = .ok (.aload_n 0, 1) := by decide +kernel
theorem dX1_beginHour_9 : decode cX1_beginHour 9 = .ok (.invokevirtual 25, 3) := by decide +kernel
theorem dX1_beginHour_12 : decode cX1_beginHour 12 = .ok (.goto 49, 3) := by decide +kernel
theorem dX1_beginHour_15 : decode cX1_beginHour 15 = .ok (.iload_n 2, 1) := by decide +kernel
theorem dX1_beginHour_16 : decode cX1_beginHour 16 = .ok (.ifCond .eq 21, 3) := by decide +kernel
theorem dX1_beginHour_19 : decode cX1_beginHour 19 = .ok (.aload_n 0, 1) := by decide +kernel
theorem dX1_beginHour_20 : decode cX1_beginHour 20 = .ok (.iload_n 1, 1) := by decide +kernel
theorem dX1_beginHour_21 : decode cX1_beginHour 21 = .ok (.bipush (-25), 2) := by decide +kernel
theorem dX1_beginHour_23 : decode cX1_beginHour 23 = .ok (.if_icmp .ge 7, 3) := by decide +kernel
theorem dX1_beginHour_26 : decode cX1_beginHour 26 = .ok (.iconst 0, 1) := by decide +kernel
theorem dX1_beginHour_27 : decode cX1_beginHour 27 = .ok (.goto 4, 3) := by decide +kernel
theorem dX1_beginHour_30 : decode cX1_beginHour 30 = .ok (.iconst 1, 1) := by decide +kernel
theorem dX1_beginHour_31 : decode cX1_beginHour 31 = .ok (.putfield 9, 3) := by decide +kernel
theorem dX1_beginHour_34 : decode cX1_beginHour 34 = .ok (.goto 27, 3) := by decide +kernel
theorem dX1_beginHour_37 : decode cX1_beginHour 37 = .ok (.iload_n 1, 1) := by decide +kernel
theorem dX1_beginHour_38 : decode cX1_beginHour 38 = .ok (.iconst 5, 1) := by decide +kernel
theorem dX1_beginHour_39 : decode cX1_beginHour 39 = .ok (.if_icmp .le 11, 3) := by decide +kernel
theorem dX1_beginHour_42 : decode cX1_beginHour 42 = .ok (.aload_n 0, 1) := by decide +kernel
theorem dX1_beginHour_43 : decode cX1_beginHour 43 = .ok (.iconst 1, 1) := by decide +kernel
theorem dX1_beginHour_44 : decode cX1_beginHour 44 = .ok (.putfield 9, 3) := by decide +kernel
theorem dX1_beginHour_47 : decode cX1_beginHour 47 = .ok (.goto 14, 3) := by decide +kernel
theorem dX1_beginHour_50 : decode cX1_beginHour 50 = .ok (.iload_n 1, 1) := by decide +kernel
theorem dX1_beginHour_51 : decode cX1_beginHour 51 = .ok (.bipush (-5), 2) := by decide +kernel
theorem dX1_beginHour_53 : decode cX1_beginHour 53 = .ok (.if_icmp .ge 8, 3) := by decide +kernel
theorem dX1_beginHour_56 : decode cX1_beginHour 56 = .ok (.aload_n 0, 1) := by decide +kernel
theorem dX1_beginHour_57 : decode cX1_beginHour 57 = .ok (.iconst 0, 1) := by decide +kernel
theorem dX1_beginHour_58 : decode cX1_beginHour 58 = .ok (.putfield 9, 3) := by decide +kernel
theorem dX1_beginHour_61 : decode cX1_beginHour 61 = .ok (.return_, 1) := by decide +kernel
theorem dX1_defrostOneHour_0 : decode cX1_defrostOneHour 0 = .ok (.aload_n 0, 1) := by decide +kernel
theorem dX1_defrostOneHour_1 : decode cX1_defrostOneHour 1 = .ok (.dup, 1) := by decide +kernel
theorem dX1_defrostOneHour_2 : decode cX1_defrostOneHour 2 = .ok (.getfield 13, 3) := by decide +kernel
theorem dX1_defrostOneHour_5 : decode cX1_defrostOneHour 5 = .ok (.iconst 1, 1) := by decide +kernel
theorem dX1_defrostOneHour_6 : decode cX1_defrostOneHour 6 = .ok (.isub, 1) := by decide +kernel
theorem dX1_defrostOneHour_7 : decode cX1_defrostOneHour 7 = .ok (.putfield 13, 3) := by decide +kernel
theorem dX1_defrostOneHour_10 : decode cX1_defrostOneHour 10 = .ok (.aload_n 0, 1) := by decide +kernel
theorem dX1_defrostOneHour_11 : decode cX1_defrostOneHour 11 = .ok (.getfield 13, 3) := by decide +kernel
theorem dX1_defrostOneHour_14 : decode cX1_defrostOneHour 14 = .ok (.ifCond .gt 13, 3) := by decide +kernel
theorem dX1_defrostOneHour_17 : decode cX1_defrostOneHour 17 = .ok (.aload_n 0, 1) := by decide +kernel
theorem dX1_defrostOneHour_18 : decode cX1_defrostOneHour 18 = .ok (.iconst 0, 1) := by decide +kernel
theorem dX1_defrostOneHour_19 : decode cX1_defrostOneHour 19 = .ok (.putfield 16, 3) := by decide +kernel
theorem dX1_defrostOneHour_22 : decode cX1_defrostOneHour 22 = .ok (.aload_n 0, 1) := by decide +kernel
theorem dX1_defrostOneHour_23 : decode cX1_defrostOneHour 23 = .ok (.iconst 0, 1) := by decide +kernel
theorem dX1_defrostOneHour_24 : decode cX1_defrostOneHour 24 = .ok (.putfield 9, 3) := by decide +kernel
theorem dX1_defrostOneHour_27 : decode cX1_defrostOneHour 27 = .ok (.return_, 1) := by decide +kernel
theorem dX1_warmthOfHour_0 : decode cX1_warmthOfHour 0 = .ok (.aload_n 0, 1) := by decide +kernel
theorem dX1_warmthOfHour_1 : decode cX1_warmthOfHour 1 = .ok (.getfield 9, 3) := by decide +kernel
theorem dX1_warmthOfHour_4 : decode cX1_warmthOfHour 4 = .ok (.lookupswitch 49 #[(1, 28), (2, 46)], 28) := by decide +kernel
theorem dX1_warmthOfHour_32 : decode cX1_warmthOfHour 32 = .ok (.aload_n 0, 1) := by decide +kernel
theorem dX1_warmthOfHour_33 : decode cX1_warmthOfHour 33 = .ok (.getfield 22, 3) := by decide +kernel
theorem dX1_warmthOfHour_36 : decode cX1_warmthOfHour 36 = .ok (.ineg, 1) := by decide +kernel
theorem dX1_warmthOfHour_37 : decode cX1_warmthOfHour 37 = .ok (.bipush 100, 2) := by decide +kernel
theorem dX1_warmthOfHour_39 : decode cX1_warmthOfHour 39 = .ok (.aload_n 0, 1) := by decide +kernel
theorem dX1_warmthOfHour_40 : decode cX1_warmthOfHour 40 = .ok (.getfield 16, 3) := by decide +kernel
theorem dX1_warmthOfHour_43 : decode cX1_warmthOfHour 43 = .ok (.isub, 1) := by decide +kernel
theorem dX1_warmthOfHour_44 : decode cX1_warmthOfHour 44 = .ok (.imul, 1) := by decide +kernel
theorem dX1_warmthOfHour_45 : decode cX1_warmthOfHour 45 = .ok (.sipush 1000, 3) := by decide +kernel
theorem dX1_warmthOfHour_48 : decode cX1_warmthOfHour 48 = .ok (.idiv, 1) := by decide +kernel
theorem dX1_warmthOfHour_49 : decode cX1_warmthOfHour 49 = .ok (.ireturn, 1) := by decide +kernel
theorem dX1_warmthOfHour_50 : decode cX1_warmthOfHour 50 = .ok (.bipush 8, 2) := by decide +kernel
theorem dX1_warmthOfHour_52 : decode cX1_warmthOfHour 52 = .ok (.ireturn, 1) := by decide +kernel
theorem dX1_warmthOfHour_53 : decode cX1_warmthOfHour 53 = .ok (.iconst 0, 1) := by decide +kernel
theorem dX1_warmthOfHour_54 : decode cX1_warmthOfHour 54 = .ok (.ireturn, 1) := by decide +kernel
theorem dX1_useEnergy_0 : decode cX1_useEnergy 0 = .ok (.aload_n 0, 1) := by decide +kernel
theorem dX1_useEnergy_1 : decode cX1_useEnergy 1 = .ok (.getfield 9, 3) := by decide +kernel
theorem dX1_useEnergy_4 : decode cX1_useEnergy 4 = .ok (.iconst 1, 1) := by decide +kernel
theorem dX1_useEnergy_5 : decode cX1_useEnergy 5 = .ok (.if_icmp .eq 5, 3) := by decide +kernel
theorem dX1_useEnergy_8 : decode cX1_useEnergy 8 = .ok (.iconst 0, 1) := by decide +kernel
theorem dX1_useEnergy_9 : decode cX1_useEnergy 9 = .ok (.ireturn, 1) := by decide +kernel
theorem dX1_useEnergy_10 : decode cX1_useEnergy 10 = .ok (.aload_n 0, 1) := by decide +kernel
theorem dX1_useEnergy_11 : decode cX1_useEnergy 11 = .ok (.dup, 1) := by decide +kernel
theorem dX1_useEnergy_12 : decode cX1_useEnergy 12 = .ok (.getfield 19, 3) := by decide +kernel
theorem dX1_useEnergy_15 : decode cX1_useEnergy 15 = .ok (.aload_n 0, 1) := by decide +kernel
theorem dX1_useEnergy_16 : decode cX1_useEnergy 16 = .ok (.getfield 22, 3) := by decide +kernel
theorem dX1_useEnergy_19 : decode cX1_useEnergy 19 = .ok (.iadd, 1) := by decide +kernel
theorem dX1_useEnergy_20 : decode cX1_useEnergy 20 = .ok (.putfield 19, 3) := by decide +kernel
theorem dX1_useEnergy_23 : decode cX1_useEnergy 23 = .ok (.aload_n 0, 1) := by decide +kernel
theorem dX1_useEnergy_24 : decode cX1_useEnergy 24 = .ok (.aload_n 0, 1) := by decide +kernel
theorem dX1_useEnergy_25 : decode cX1_useEnergy 25 = .ok (.getfield 16, 3) := by decide +kernel
theorem dX1_useEnergy_28 : decode cX1_useEnergy 28 = .ok (.iconst 1, 1) := by decide +kernel
theorem dX1_useEnergy_29 : decode cX1_useEnergy 29 = .ok (.iadd, 1) := by decide +kernel
theorem dX1_useEnergy_30 : decode cX1_useEnergy 30 = .ok (.bipush 90, 2) := by decide +kernel
theorem dX1_useEnergy_32 : decode cX1_useEnergy 32 = .ok (.invokestatic 28, 3) := by decide +kernel
theorem dX1_useEnergy_35 : decode cX1_useEnergy 35 = .ok (.putfield 16, 3) := by decide +kernel
theorem dX1_useEnergy_38 : decode cX1_useEnergy 38 = .ok (.aload_n 0, 1) := by decide +kernel
theorem dX1_useEnergy_39 : decode cX1_useEnergy 39 = .ok (.getfield 22, 3) := by decide +kernel
theorem dX1_useEnergy_42 : decode cX1_useEnergy 42 = .ok (.ireturn, 1) := by decide +kernel
theorem dX1_imitate_0 : decode cX1_imitate 0 = .ok (.aload_n 0, 1) := by decide +kernel
theorem dX1_imitate_1 : decode cX1_imitate 1 = .ok (.aload_n 1, 1) := by decide +kernel
theorem dX1_imitate_2 : decode cX1_imitate 2 = .ok (.getfield 9, 3) := by decide +kernel
theorem dX1_imitate_5 : decode cX1_imitate 5 = .ok (.putfield 9, 3) := by decide +kernel
theorem dX1_imitate_8 : decode cX1_imitate 8 = .ok (.aload_n 0, 1) := by decide +kernel
theorem dX1_imitate_9 : decode cX1_imitate 9 = .ok (.aload_n 1, 1) := by decide +kernel
theorem dX1_imitate_10 : decode cX1_imitate 10 = .ok (.getfield 13, 3) := by decide +kernel
theorem dX1_imitate_13 : decode cX1_imitate 13 = .ok (.putfield 13, 3) := by decide +kernel
theorem dX1_imitate_16 : decode cX1_imitate 16 = .ok (.aload_n 0, 1) := by decide +kernel
theorem dX1_imitate_17 : decode cX1_imitate 17 = .ok (.aload_n 1, 1) := by decide +kernel
theorem dX1_imitate_18 : decode cX1_imitate 18 = .ok (.getfield 16, 3) := by decide +kernel
theorem dX1_imitate_21 : decode cX1_imitate 21 = .ok (.putfield 16, 3) := by decide +kernel
theorem dX1_imitate_24 : decode cX1_imitate 24 = .ok (.aload_n 0, 1) := by decide +kernel
theorem dX1_imitate_25 : decode cX1_imitate 25 = .ok (.aload_n 1, 1) := by decide +kernel
theorem dX1_imitate_26 : decode cX1_imitate 26 = .ok (.getfield 19, 3) := by decide +kernel
theorem dX1_imitate_29 : decode cX1_imitate 29 = .ok (.putfield 19, 3) := by decide +kernel
theorem dX1_imitate_32 : decode cX1_imitate 32 = .ok (.return_, 1) := by decide +kernel
theorem dX2_init_0 : decode cX2_init 0 = .ok (.aload_n 0, 1) := by decide +kernel
theorem dX2_init_1 : decode cX2_init 1 = .ok (.invokespecial 1, 3) := by decide +kernel
theorem dX2_init_4 : decode cX2_init 4 = .ok (.aload_n 0, 1) := by decide +kernel
theorem dX2_init_5 : decode cX2_init 5 = .ok (.aconst_null, 1) := by decide +kernel
theorem dX2_init_6 : decode cX2_init 6 = .ok (.putfield 7, 3) := by decide +kernel
theorem dX2_init_9 : decode cX2_init 9 = .ok (.aload_n 0, 1) := by decide +kernel
theorem dX2_init_10 : decode cX2_init 10 = .ok (.iconst 0, 1) := by decide +kernel
theorem dX2_init_11 : decode cX2_init 11 = .ok (.putfield 13, 3) := by decide +kernel
theorem dX2_init_14 : decode cX2_init 14 = .ok (.aload_n 0, 1) := by decide +kernel
theorem dX2_init_15 : decode cX2_init 15 = .ok (.iconst 0, 1) := by decide +kernel
theorem dX2_init_16 : decode cX2_init 16 = .ok (.putfield 17, 3) := by decide +kernel
theorem dX2_init_19 : decode cX2_init 19 = .ok (.aload_n 0, 1) := by decide +kernel
theorem dX2_init_20 : decode cX2_init 20 = .ok (.iconst 0, 1) := by decide +kernel
theorem dX2_init_21 : decode cX2_init 21 = .ok (.putfield 20, 3) := by decide +kernel
theorem dX2_init_24 : decode cX2_init 24 = .ok (.aload_n 0, 1) := by decide +kernel
theorem dX2_init_25 : decode cX2_init 25 = .ok (.aload_n 1, 1) := by decide +kernel
theorem dX2_init_26 : decode cX2_init 26 = .ok (.putfield 23, 3) := by decide +kernel
theorem dX2_init_29 : decode cX2_init 29 = .ok (.aload_n 0, 1) := by decide +kernel
theorem dX2_init_30 : decode cX2_init 30 = .ok (.iload_n 2, 1) := by decide +kernel
theorem dX2_init_31 : decode cX2_init 31 = .ok (.putfield 27, 3) := by decide +kernel
theorem dX2_init_34 : decode cX2_init 34 = .ok (.return_, 1) := by decide +kernel
theorem dX2_fact_0 : decode cX2_fact 0 = .ok (.iload_n 1, 1) := by decide +kernel
theorem dX2_fact_1 : decode cX2_fact 1 = .ok (.tableswitch 68 0 3 #[31, 39, 44, 49], 31) := by decide +kernel
theorem dX2_fact_32 : decode cX2_fact 32 = .ok (.aload_n 0, 1) := by decide +kernel
theorem dX2_fact_33 : decode cX2_fact 33 = .ok (.getfield 23, 3) := by decide +kernel
theorem dX2_fact_36 : decode cX2_fact 36 = .ok (.getfield 30, 3) := by decide +kernel
theorem dX2_fact_39 : decode cX2_fact 39 = .ok (.ireturn, 1) := by decide +kernel
theorem dX2_fact_40 : decode cX2_fact 40 = .ok (.aload_n 0, 1) := by decide +kernel
theorem dX2_fact_41 : decode cX2_fact 41 = .ok (.getfield 27, 3) := by decide +kernel
theorem dX2_fact_44 : decode cX2_fact 44 = .ok (.ireturn, 1) := by decide +kernel
theorem dX2_fact_45 : decode cX2_fact 45 = .ok (.aload_n 0, 1) := by decide +kernel
theorem dX2_fact_46 : decode cX2_fact 46 = .ok (.getfield 13, 3) := by decide +kernel
theorem dX2_fact_49 : decode cX2_fact 49 = .ok (.ireturn, 1) := by decide +kernel
theorem dX2_fact_50 : decode cX2_fact 50 = .ok (.aload_n 0, 1) := by decide +kernel
theorem dX2_fact_51 : decode cX2_fact 51 = .ok (.getfield 7, 3) := by decide +kernel
theorem dX2_fact_54 : decode cX2_fact 54 = .ok (.ifnonnull 7, 3) := by decide +kernel
theorem dX2_fact_57 : decode cX2_fact 57 = .ok (.iconst (-1), 1) := by decide +kernel
theorem dX2_fact_58 : decode cX2_fact 58 = .ok (.goto 10, 3) := by decide +kernel
theorem dX2_fact_61 : decode cX2_fact 61 = .ok (.aload_n 0, 1) := by decide +kernel
theorem dX2_fact_62 : decode cX2_fact 62 = .ok (.getfield 7, 3) := by decide +kernel
theorem dX2_fact_65 : decode cX2_fact 65 = .ok (.getfield 35, 3) := by decide +kernel
theorem dX2_fact_68 : decode cX2_fact 68 = .ok (.ireturn, 1) := by decide +kernel
theorem dX2_fact_69 : decode cX2_fact 69 = .ok (.aload_n 0, 1) := by decide +kernel
theorem dX2_fact_70 : decode cX2_fact 70 = .ok (.invokevirtual 38, 3) := by decide +kernel
theorem dX2_fact_73 : decode cX2_fact 73 = .ok (.ireturn, 1) := by decide +kernel
theorem dX2_isHere_0 : decode cX2_isHere 0 = .ok (.aload_n 0, 1) := by decide +kernel
theorem dX2_isHere_1 : decode cX2_isHere 1 = .ok (.getfield 7, 3) := by decide +kernel
theorem dX2_isHere_4 : decode cX2_isHere 4 = .ok (.ifnull 7, 3) := by decide +kernel
theorem dX2_isHere_7 : decode cX2_isHere 7 = .ok (.iconst 1, 1) := by decide +kernel
theorem dX2_isHere_8 : decode cX2_isHere 8 = .ok (.goto 4, 3) := by decide +kernel
theorem dX2_isHere_11 : decode cX2_isHere 11 = .ok (.iconst 0, 1) := by decide +kernel
theorem dX2_isHere_12 : decode cX2_isHere 12 = .ok (.ireturn, 1) := by decide +kernel
theorem dX2_isHereWith_0 : decode cX2_isHereWith 0 = .ok (.aload_n 0, 1) := by decide +kernel
theorem dX2_isHereWith_1 : decode cX2_isHereWith 1 = .ok (.invokevirtual 42, 3) := by decide +kernel
theorem dX2_isHereWith_4 : decode cX2_isHereWith 4 = .ok (.ifCond .eq 21, 3) := by decide +kernel
theorem dX2_isHereWith_7 : decode cX2_isHereWith 7 = .ok (.aload_n 0, 1) := by decide +kernel
theorem dX2_isHereWith_8 : decode cX2_isHereWith 8 = .ok (.getfield 23, 3) := by decide +kernel
theorem dX2_isHereWith_11 : decode cX2_isHereWith 11 = .ok (.getfield 30, 3) := by decide +kernel
theorem dX2_isHereWith_14 : decode cX2_isHereWith 14 = .ok (.aload_n 1, 1) := by decide +kernel
theorem dX2_isHereWith_15 : decode cX2_isHereWith 15 = .ok (.getfield 30, 3) := by decide +kernel
theorem dX2_isHereWith_18 : decode cX2_isHereWith 18 = .ok (.if_icmp .ne 7, 3) := by decide +kernel
theorem dX2_isHereWith_21 : decode cX2_isHereWith 21 = .ok (.iconst 1, 1) := by decide +kernel
theorem dX2_isHereWith_22 : decode cX2_isHereWith 22 = .ok (.goto 4, 3) := by decide +kernel
theorem dX2_isHereWith_25 : decode cX2_isHereWith 25 = .ok (.iconst 0, 1) := by decide +kernel
theorem dX2_isHereWith_26 : decode cX2_isHereWith 26 = .ok (.ireturn, 1) := by decide +kernel
theorem dX2_left_0 : decode cX2_left 0 = .ok (.aload_n 0, 1) := by decide +kernel
theorem dX2_left_1 : decode cX2_left 1 = .ok (.getfield 23, 3) := by decide +kernel
theorem dX2_left_4 : decode cX2_left 4 = .ok (.getfield 46, 3) := by decide +kernel
theorem dX2_left_7 : decode cX2_left 7 = .ok (.aload_n 0, 1) := by decide +kernel
theorem dX2_left_8 : decode cX2_left 8 = .ok (.getfield 13, 3) := by decide +kernel
theorem dX2_left_11 : decode cX2_left 11 = .ok (.isub, 1) := by decide +kernel
theorem dX2_left_12 : decode cX2_left 12 = .ok (.ireturn, 1) := by decide +kernel
theorem dX2_isSpoiled_0 : decode cX2_isSpoiled 0 = .ok (.aload_n 0, 1) := by decide +kernel
theorem dX2_isSpoiled_1 : decode cX2_isSpoiled 1 = .ok (.invokevirtual 38, 3) := by decide +kernel
theorem dX2_isSpoiled_4 : decode cX2_isSpoiled 4 = .ok (.ifCond .ge 7, 3) := by decide +kernel
theorem dX2_isSpoiled_7 : decode cX2_isSpoiled 7 = .ok (.iconst 1, 1) := by decide +kernel
theorem dX2_isSpoiled_8 : decode cX2_isSpoiled 8 = .ok (.goto 4, 3) := by decide +kernel
theorem dX2_isSpoiled_11 : decode cX2_isSpoiled 11 = .ok (.iconst 0, 1) := by decide +kernel
theorem dX2_isSpoiled_12 : decode cX2_isSpoiled 12 = .ok (.ireturn, 1) := by decide +kernel
theorem dX2_adaptTo_0 : decode cX2_adaptTo 0 = .ok (.aload_n 0, 1) := by decide +kernel
theorem dX2_adaptTo_1 : decode cX2_adaptTo 1 = .ok (.dup, 1) := by decide +kernel
theorem dX2_adaptTo_2 : decode cX2_adaptTo 2 = .ok (.getfield 27, 3) := by decide +kernel
theorem dX2_adaptTo_5 : decode cX2_adaptTo 5 = .ok (.iload_n 1, 1) := by decide +kernel
theorem dX2_adaptTo_6 : decode cX2_adaptTo 6 = .ok (.aload_n 0, 1) := by decide +kernel
theorem dX2_adaptTo_7 : decode cX2_adaptTo 7 = .ok (.getfield 27, 3) := by decide +kernel
theorem dX2_adaptTo_10 : decode cX2_adaptTo 10 = .ok (.isub, 1) := by decide +kernel
theorem dX2_adaptTo_11 : decode cX2_adaptTo 11 = .ok (.bipush 8, 2) := by decide +kernel
theorem dX2_adaptTo_13 : decode cX2_adaptTo 13 = .ok (.idiv, 1) := by decide +kernel
theorem dX2_adaptTo_14 : decode cX2_adaptTo 14 = .ok (.iadd, 1) := by decide +kernel
theorem dX2_adaptTo_15 : decode cX2_adaptTo 15 = .ok (.putfield 27, 3) := by decide +kernel
theorem dX2_adaptTo_18 : decode cX2_adaptTo 18 = .ok (.aload_n 0, 1) := by decide +kernel
theorem dX2_adaptTo_19 : decode cX2_adaptTo 19 = .ok (.dup, 1) := by decide +kernel
theorem dX2_adaptTo_20 : decode cX2_adaptTo 20 = .ok (.getfield 13, 3) := by decide +kernel
theorem dX2_adaptTo_23 : decode cX2_adaptTo 23 = .ok (.iconst 1, 1) := by decide +kernel
theorem dX2_adaptTo_24 : decode cX2_adaptTo 24 = .ok (.aload_n 0, 1) := by decide +kernel
theorem dX2_adaptTo_25 : decode cX2_adaptTo 25 = .ok (.getfield 23, 3) := by decide +kernel
theorem dX2_adaptTo_28 : decode cX2_adaptTo 28 = .ok (.aload_n 0, 1) := by decide +kernel
theorem dX2_adaptTo_29 : decode cX2_adaptTo 29 = .ok (.getfield 27, 3) := by decide +kernel
theorem dX2_adaptTo_32 : decode cX2_adaptTo 32 = .ok (.invokevirtual 49, 3) := by decide +kernel
theorem dX2_adaptTo_35 : decode cX2_adaptTo 35 = .ok (.bipush 10, 2) := by decide +kernel
theorem dX2_adaptTo_37 : decode cX2_adaptTo 37 = .ok (.idiv, 1) := by decide +kernel
theorem dX2_adaptTo_38 : decode cX2_adaptTo 38 = .ok (.iadd, 1) := by decide +kernel
theorem dX2_adaptTo_39 : decode cX2_adaptTo 39 = .ok (.iadd, 1) := by decide +kernel
theorem dX2_adaptTo_40 : decode cX2_adaptTo 40 = .ok (.putfield 13, 3) := by decide +kernel
theorem dX2_adaptTo_43 : decode cX2_adaptTo 43 = .ok (.return_, 1) := by decide +kernel
theorem dX2_remember_0 : decode cX2_remember 0 = .ok (.aload_n 0, 1) := by decide +kernel
theorem dX2_remember_1 : decode cX2_remember 1 = .ok (.aload_n 0, 1) := by decide +kernel
theorem dX2_remember_2 : decode cX2_remember 2 = .ok (.getfield 27, 3) := by decide +kernel
theorem dX2_remember_5 : decode cX2_remember 5 = .ok (.putfield 17, 3) := by decide +kernel
theorem dX2_remember_8 : decode cX2_remember 8 = .ok (.aload_n 0, 1) := by decide +kernel
theorem dX2_remember_9 : decode cX2_remember 9 = .ok (.aload_n 0, 1) := by decide +kernel
theorem dX2_remember_10 : decode cX2_remember 10 = .ok (.getfield 13, 3) := by decide +kernel
theorem dX2_remember_13 : decode cX2_remember 13 = .ok (.putfield 20, 3) := by decide +kernel
theorem dX2_remember_16 : decode cX2_remember 16 = .ok (.return_, 1) := by decide +kernel
theorem dX2_recall_0 : decode cX2_recall 0 = .ok (.aload_n 0, 1) := by decide +kernel
theorem dX2_recall_1 : decode cX2_recall 1 = .ok (.aload_n 0, 1) := by decide +kernel
theorem dX2_recall_2 : decode cX2_recall 2 = .ok (.getfield 17, 3) := by decide +kernel
theorem dX2_recall_5 : decode cX2_recall 5 = .ok (.putfield 27, 3) := by decide +kernel
theorem dX2_recall_8 : decode cX2_recall 8 = .ok (.aload_n 0, 1) := by decide +kernel
theorem dX2_recall_9 : decode cX2_recall 9 = .ok (.aload_n 0, 1) := by decide +kernel
theorem dX2_recall_10 : decode cX2_recall 10 = .ok (.getfield 20, 3) := by decide +kernel
theorem dX2_recall_13 : decode cX2_recall 13 = .ok (.putfield 13, 3) := by decide +kernel
theorem dX2_recall_16 : decode cX2_recall 16 = .ok (.return_, 1) := by decide +kernel
theorem dX3_init_0 : decode cX3_init 0 = .ok (.aload_n 0, 1) := by decide +kernel
theorem dX3_init_1 : decode cX3_init 1 = .ok (.invokespecial 1, 3) := by decide +kernel
theorem dX3_init_4 : decode cX3_init 4 = .ok (.aload_n 0, 1) := by decide +kernel
theorem dX3_init_5 : decode cX3_init 5 = .ok (.iload_n 1, 1) := by decide +kernel
theorem dX3_init_6 : decode cX3_init 6 = .ok (.putfield 7, 3) := by decide +kernel
theorem dX3_init_9 : decode cX3_init 9 = .ok (.aload_n 0, 1) := by decide +kernel
theorem dX3_init_10 : decode cX3_init 10 = .ok (.iload_n 2, 1) := by decide +kernel
theorem dX3_init_11 : decode cX3_init 11 = .ok (.putfield 13, 3) := by decide +kernel
theorem dX3_init_14 : decode cX3_init 14 = .ok (.aload_n 0, 1) := by decide +kernel
theorem dX3_init_15 : decode cX3_init 15 = .ok (.iload_n 3, 1) := by decide +kernel
theorem dX3_init_16 : decode cX3_init 16 = .ok (.putfield 16, 3) := by decide +kernel
theorem dX3_init_19 : decode cX3_init 19 = .ok (.aload_n 0, 1) := by decide +kernel
theorem dX3_init_20 : decode cX3_init 20 = .ok (.iload 4, 2) := by decide +kernel
theorem dX3_init_22 : decode cX3_init 22 = .ok (.putfield 19, 3) := by decide +kernel
theorem dX3_init_25 : decode cX3_init 25 = .ok (.aload_n 0, 1) := by decide +kernel
theorem dX3_init_26 : decode cX3_init 26 = .ok (.iload 5, 2) := by decide +kernel
theorem dX3_init_28 : decode cX3_init 28 = .ok (.putfield 22, 3) := by decide +kernel
theorem dX3_init_31 : decode cX3_init 31 = .ok (.return_, 1) := by decide +kernel
theorem dX3_distanceFromSuiting_0 : decode cX3_distanceFromSuiting 0 = .ok (.iload_n 1, 1) := by decide +kernel
theorem dX3_distanceFromSuiting_1 : decode cX3_distanceFromSuiting 1 = .ok (.aload_n 0, 1) := by decide +kernel
theorem dX3_distanceFromSuiting_2 : decode cX3_distanceFromSuiting 2 = .ok (.getfield 13, 3) := by decide +kernel
theorem dX3_distanceFromSuiting_5 : decode cX3_distanceFromSuiting 5 = .ok (.if_icmp .ge 10, 3) := by decide +kernel
theorem dX3_distanceFromSuiting_8 : decode cX3_distanceFromSuiting 8 = .ok (.aload_n 0, 1) := by decide +kernel
theorem dX3_distanceFromSuiting_9 : decode cX3_distanceFromSuiting 9 = .ok (.getfield 13, 3) := by decide +kernel
theorem dX3_distanceFromSuiting_12 : decode cX3_distanceFromSuiting 12 = .ok (.iload_n 1, 1) := by decide +kernel
theorem dX3_distanceFromSuiting_13 : decode cX3_distanceFromSuiting 13 = .ok (.isub, 1) := by decide +kernel
theorem dX3_distanceFromSuiting_14 : decode cX3_distanceFromSuiting 14 = .ok (.ireturn, 1) := by decide +kernel
theorem dX3_distanceFromSuiting_15 : decode cX3_distanceFromSuiting 15 = .ok (.iload_n 1, 1) := by decide +kernel
theorem dX3_distanceFromSuiting_16 : decode cX3_distanceFromSuiting 16 = .ok (.aload_n 0, 1) := by decide +kernel
theorem dX3_distanceFromSuiting_17 : decode cX3_distanceFromSuiting 17 = .ok (.getfield 16, 3) := by decide +kernel
theorem dX3_distanceFromSuiting_20 : decode cX3_distanceFromSuiting 20 = .ok (.if_icmp .le 12, 3) := by decide +kernel
theorem dX3_distanceFromSuiting_23 : decode cX3_distanceFromSuiting 23 = .ok (.iload_n 1, 1) := by decide +kernel
theorem dX3_distanceFromSuiting_24 : decode cX3_distanceFromSuiting 24 = .ok (.aload_n 0, 1) := by decide +kernel
theorem dX3_distanceFromSuiting_25 : decode cX3_distanceFromSuiting 25 = .ok (.getfield 16, 3) := by decide +kernel
theorem dX3_distanceFromSuiting_28 : decode cX3_distanceFromSuiting 28 = .ok (.isub, 1) := by decide +kernel
theorem dX3_distanceFromSuiting_29 : decode cX3_distanceFromSuiting 29 = .ok (.goto 4, 3) := by decide +kernel
theorem dX3_distanceFromSuiting_32 : decode cX3_distanceFromSuiting 32 = .ok (.iconst 0, 1) := by decide +kernel
theorem dX3_distanceFromSuiting_33 : decode cX3_distanceFromSuiting 33 = .ok (.ireturn, 1) := by decide +kernel
theorem dX3_goesWith_0 : decode cX3_goesWith 0 = .ok (.aload_n 0, 1) := by decide +kernel
theorem dX3_goesWith_1 : decode cX3_goesWith 1 = .ok (.getfield 7, 3) := by decide +kernel
theorem dX3_goesWith_4 : decode cX3_goesWith 4 = .ok (.aload_n 1, 1) := by decide +kernel
theorem dX3_goesWith_5 : decode cX3_goesWith 5 = .ok (.getfield 7, 3) := by decide +kernel
theorem dX3_goesWith_8 : decode cX3_goesWith 8 = .ok (.if_icmp .ne 5, 3) := by decide +kernel
theorem dX3_goesWith_11 : decode cX3_goesWith 11 = .ok (.iconst 1, 1) := by decide +kernel
theorem dX3_goesWith_12 : decode cX3_goesWith 12 = .ok (.ireturn, 1) := by decide +kernel
theorem dX3_goesWith_13 : decode cX3_goesWith 13 = .ok (.aload_n 0, 1) := by decide +kernel
theorem dX3_goesWith_14 : decode cX3_goesWith 14 = .ok (.getfield 22, 3) := by decide +kernel
theorem dX3_goesWith_17 : decode cX3_goesWith 17 = .ok (.iconst 3, 1) := by decide +kernel
theorem dX3_goesWith_18 : decode cX3_goesWith 18 = .ok (.if_icmp .eq 11, 3) := by decide +kernel
theorem dX3_goesWith_21 : decode cX3_goesWith 21 = .ok (.aload_n 1, 1) := by decide +kernel
theorem dX3_goesWith_22 : decode cX3_goesWith 22 = .ok (.getfield 22, 3) := by decide +kernel
theorem dX3_goesWith_25 : decode cX3_goesWith 25 = .ok (.iconst 3, 1) := by decide +kernel
theorem dX3_goesWith_26 : decode cX3_goesWith 26 = .ok (.if_icmp .ne 5, 3) := by decide +kernel
theorem dX3_goesWith_29 : decode cX3_goesWith 29 = .ok (.iconst 0, 1) := by decide +kernel
theorem dX3_goesWith_30 : decode cX3_goesWith 30 = .ok (.ireturn, 1) := by decide +kernel
theorem dX3_goesWith_31 : decode cX3_goesWith 31 = .ok (.aload_n 0, 1) := by decide +kernel
theorem dX3_goesWith_32 : decode cX3_goesWith 32 = .ok (.aload_n 1, 1) := by decide +kernel
theorem dX3_goesWith_33 : decode cX3_goesWith 33 = .ok (.invokevirtual 25, 3) := by decide +kernel
theorem dX3_goesWith_36 : decode cX3_goesWith 36 = .ok (.ifCond .ne 15, 3) := by decide +kernel
theorem dX3_goesWith_39 : decode cX3_goesWith 39 = .ok (.aload_n 1, 1) := by decide +kernel
theorem dX3_goesWith_40 : decode cX3_goesWith 40 = .ok (.aload_n 0, 1) := by decide +kernel
theorem dX3_goesWith_41 : decode cX3_goesWith 41 = .ok (.invokevirtual 25, 3) := by decide +kernel
theorem dX3_goesWith_44 : decode cX3_goesWith 44 = .ok (.ifCond .ne 7, 3) := by decide +kernel
theorem dX3_goesWith_47 : decode cX3_goesWith 47 = .ok (.iconst 1, 1) := by decide +kernel
theorem dX3_goesWith_48 : decode cX3_goesWith 48 = .ok (.goto 4, 3) := by decide +kernel
theorem dX3_goesWith_51 : decode cX3_goesWith 51 = .ok (.iconst 0, 1) := by decide +kernel
theorem dX3_goesWith_52 : decode cX3_goesWith 52 = .ok (.ireturn, 1) := by decide +kernel
theorem dX3_disturbs_0 : decode cX3_disturbs 0 = .ok (.aload_n 0, 1) := by decide +kernel
theorem dX3_disturbs_1 : decode cX3_disturbs 1 = .ok (.getfield 22, 3) := by decide +kernel
theorem dX3_disturbs_4 : decode cX3_disturbs 4 = .ok (.iconst 1, 1) := by decide +kernel
theorem dX3_disturbs_5 : decode cX3_disturbs 5 = .ok (.if_icmp .ne 15, 3) := by decide +kernel
theorem dX3_disturbs_8 : decode cX3_disturbs 8 = .ok (.aload_n 1, 1) := by decide +kernel
theorem dX3_disturbs_9 : decode cX3_disturbs 9 = .ok (.getfield 22, 3) := by decide +kernel
theorem dX3_disturbs_12 : decode cX3_disturbs 12 = .ok (.iconst 2, 1) := by decide +kernel
theorem dX3_disturbs_13 : decode cX3_disturbs 13 = .ok (.if_icmp .ne 7, 3) := by decide +kernel
theorem dX3_disturbs_16 : decode cX3_disturbs 16 = .ok (.iconst 1, 1) := by decide +kernel
theorem dX3_disturbs_17 : decode cX3_disturbs 17 = .ok (.goto 4, 3) := by decide +kernel
theorem dX3_disturbs_20 : decode cX3_disturbs 20 = .ok (.iconst 0, 1) := by decide +kernel
theorem dX3_disturbs_21 : decode cX3_disturbs 21 = .ok (.ireturn, 1) := by decide +kernel
theorem dX4_init_0 : decode cX4_init 0 = .ok (.aload_n 0, 1) := by decide +kernel
theorem dX4_init_1 : decode cX4_init 1 = .ok (.invokespecial 1, 3) := by decide +kernel
theorem dX4_init_4 : decode cX4_init 4 = .ok (.aload_n 0, 1) := by decide +kernel
theorem dX4_init_5 : decode cX4_init 5 = .ok (.iconst 0, 1) := by decide +kernel
theorem dX4_init_6 : decode cX4_init 6 = .ok (.putfield 7, 3) := by decide +kernel
theorem dX4_init_9 : decode cX4_init 9 = .ok (.aload_n 0, 1) := by decide +kernel
theorem dX4_init_10 : decode cX4_init 10 = .ok (.sipush 150, 3) := by decide +kernel
theorem dX4_init_13 : decode cX4_init 13 = .ok (.putfield 13, 3) := by decide +kernel
theorem dX4_init_16 : decode cX4_init 16 = .ok (.aload_n 0, 1) := by decide +kernel
theorem dX4_init_17 : decode cX4_init 17 = .ok (.iconst 0, 1) := by decide +kernel
theorem dX4_init_18 : decode cX4_init 18 = .ok (.putfield 17, 3) := by decide +kernel
theorem dX4_init_21 : decode cX4_init 21 = .ok (.aload_n 0, 1) := by decide +kernel
theorem dX4_init_22 : decode cX4_init 22 = .ok (.iconst 0, 1) := by decide +kernel
theorem dX4_init_23 : decode cX4_init 23 = .ok (.putfield 20, 3) := by decide +kernel
theorem dX4_init_26 : decode cX4_init 26 = .ok (.aload_n 0, 1) := by decide +kernel
theorem dX4_init_27 : decode cX4_init 27 = .ok (.iconst 0, 1) := by decide +kernel
theorem dX4_init_28 : decode cX4_init 28 = .ok (.putfield 23, 3) := by decide +kernel
theorem dX4_init_31 : decode cX4_init 31 = .ok (.aload_n 0, 1) := by decide +kernel
theorem dX4_init_32 : decode cX4_init 32 = .ok (.iload_n 1, 1) := by decide +kernel
theorem dX4_init_33 : decode cX4_init 33 = .ok (.putfield 26, 3) := by decide +kernel
theorem dX4_init_36 : decode cX4_init 36 = .ok (.aload_n 0, 1) := by decide +kernel
theorem dX4_init_37 : decode cX4_init 37 = .ok (.iload_n 2, 1) := by decide +kernel
theorem dX4_init_38 : decode cX4_init 38 = .ok (.ifCond .ge 7, 3) := by decide +kernel
theorem dX4_init_41 : decode cX4_init 41 = .ok (.iconst 0, 1) := by decide +kernel
theorem dX4_init_42 : decode cX4_init 42 = .ok (.goto 4, 3) := by decide +kernel
theorem dX4_init_45 : decode cX4_init 45 = .ok (.iload_n 2, 1) := by decide +kernel
theorem dX4_init_46 : decode cX4_init 46 = .ok (.anewarray 29, 3) := by decide +kernel
theorem dX4_init_49 : decode cX4_init 49 = .ok (.putfield 31, 3) := by decide +kernel
theorem dX4_init_52 : decode cX4_init 52 = .ok (.aload_n 0, 1) := by decide +kernel
theorem dX4_init_53 : decode cX4_init 53 = .ok (.iload_n 3, 1) := by decide +kernel
theorem dX4_init_54 : decode cX4_init 54 = .ok (.putfield 35, 3) := by decide +kernel
theorem dX4_init_57 : decode cX4_init 57 = .ok (.aload_n 0, 1) := by decide +kernel
theorem dX4_init_58 : decode cX4_init 58 = .ok (.new 38, 3) := by decide +kernel
theorem dX4_init_61 : decode cX4_init 61 = .ok (.dup, 1) := by decide +kernel
theorem dX4_init_62 : decode cX4_init 62 = .ok (.iload 4, 2) := by decide +kernel
theorem dX4_init_64 : decode cX4_init 64 = .ok (.invokespecial 40, 3) := by decide +kernel
theorem dX4_init_67 : decode cX4_init 67 = .ok (.putfield 43, 3) := by decide +kernel
theorem dX4_init_70 : decode cX4_init 70 = .ok (.aload_n 0, 1) := by decide +kernel
theorem dX4_init_71 : decode cX4_init 71 = .ok (.new 38, 3) := by decide +kernel
theorem dX4_init_74 : decode cX4_init 74 = .ok (.dup, 1) := by decide +kernel
theorem dX4_init_75 : decode cX4_init 75 = .ok (.iload 4, 2) := by decide +kernel
theorem dX4_init_77 : decode cX4_init 77 = .ok (.invokespecial 40, 3) := by decide +kernel
theorem dX4_init_80 : decode cX4_init 80 = .ok (.putfield 47, 3) := by decide +kernel
theorem dX4_init_83 : decode cX4_init 83 = .ok (.aload_n 0, 1) := by decide +kernel
theorem dX4_init_84 : decode cX4_init 84 = .ok (.iload 5, 2) := by decide +kernel
theorem dX4_init_86 : decode cX4_init 86 = .ok (.putfield 50, 3) := by decide +kernel
theorem dX4_init_89 : decode cX4_init 89 = .ok (.return_, 1) := by decide +kernel
theorem dX4_fact_0 : decode cX4_fact 0 = .ok (.iload_n 1, 1) := by decide +kernel
theorem dX4_fact_1 : decode cX4_fact 1 = .ok (.tableswitch 78 0 5 #[39, 44, 49, 57, 65, 70], 39) := by decide +kernel
theorem dX4_fact_40 : decode cX4_fact 40 = .ok (.aload_n 0, 1) := by decide +kernel
theorem dX4_fact_41 : decode cX4_fact 41 = .ok (.getfield 13, 3) := by decide +kernel
theorem dX4_fact_44 : decode cX4_fact 44 = .ok (.ireturn, 1) := by decide +kernel
theorem dX4_fact_45 : decode cX4_fact 45 = .ok (.aload_n 0, 1) := by decide +kernel
theorem dX4_fact_46 : decode cX4_fact 46 = .ok (.getfield 50, 3) := by decide +kernel
theorem dX4_fact_49 : decode cX4_fact 49 = .ok (.ireturn, 1) := by decide +kernel
theorem dX4_fact_50 : decode cX4_fact 50 = .ok (.aload_n 0, 1) := by decide +kernel
theorem dX4_fact_51 : decode cX4_fact 51 = .ok (.getfield 43, 3) := by decide +kernel
theorem dX4_fact_54 : decode cX4_fact 54 = .ok (.getfield 53, 3) := by decide +kernel
theorem dX4_fact_57 : decode cX4_fact 57 = .ok (.ireturn, 1) := by decide +kernel
theorem dX4_fact_58 : decode cX4_fact 58 = .ok (.aload_n 0, 1) := by decide +kernel
theorem dX4_fact_59 : decode cX4_fact 59 = .ok (.getfield 43, 3) := by decide +kernel
theorem dX4_fact_62 : decode cX4_fact 62 = .ok (.getfield 56, 3) := by decide +kernel
theorem dX4_fact_65 : decode cX4_fact 65 = .ok (.ireturn, 1) := by decide +kernel
theorem dX4_fact_66 : decode cX4_fact 66 = .ok (.aload_n 0, 1) := by decide +kernel
theorem dX4_fact_67 : decode cX4_fact 67 = .ok (.invokevirtual 59, 3) := by decide +kernel
theorem dX4_fact_70 : decode cX4_fact 70 = .ok (.ireturn, 1) := by decide +kernel
theorem dX4_fact_71 : decode cX4_fact 71 = .ok (.aload_n 0, 1) := by decide +kernel
theorem dX4_fact_72 : decode cX4_fact 72 = .ok (.getfield 43, 3) := by decide +kernel
theorem dX4_fact_75 : decode cX4_fact 75 = .ok (.getfield 63, 3) := by decide +kernel
theorem dX4_fact_78 : decode cX4_fact 78 = .ok (.ireturn, 1) := by decide +kernel
theorem dX4_fact_79 : decode cX4_fact 79 = .ok (.aload_n 0, 1) := by decide +kernel
theorem dX4_fact_80 : decode cX4_fact 80 = .ok (.getfield 17, 3) := by decide +kernel
theorem dX4_fact_83 : decode cX4_fact 83 = .ok (.ireturn, 1) := by decide +kernel
theorem dX4_freePlaces_0 : decode cX4_freePlaces 0 = .ok (.iconst 0, 1) := by decide +kernel
theorem dX4_freePlaces_1 : decode cX4_freePlaces 1 = .ok (.istore_n 1, 1) := by decide +kernel
theorem dX4_freePlaces_2 : decode cX4_freePlaces 2 = .ok (.aload_n 0, 1) := by decide +kernel
theorem dX4_freePlaces_3 : decode cX4_freePlaces 3 = .ok (.getfield 31, 3) := by decide +kernel
theorem dX4_freePlaces_6 : decode cX4_freePlaces 6 = .ok (.astore_n 2, 1) := by decide +kernel
theorem dX4_freePlaces_7 : decode cX4_freePlaces 7 = .ok (.aload_n 2, 1) := by decide +kernel
theorem dX4_freePlaces_8 : decode cX4_freePlaces 8 = .ok (.arraylength, 1) := by decide +kernel
theorem dX4_freePlaces_9 : decode cX4_freePlaces 9 = .ok (.istore_n 3, 1) := by decide +kernel
theorem dX4_freePlaces_10 : decode cX4_freePlaces 10 = .ok (.iconst 0, 1) := by decide +kernel
theorem dX4_freePlaces_11 : decode cX4_freePlaces 11 = .ok (.istore 4, 2) := by decide +kernel
theorem dX4_freePlaces_13 : decode cX4_freePlaces 13 = .ok (.iload 4, 2) := by decide +kernel
theorem dX4_freePlaces_15 : decode cX4_freePlaces 15 = .ok (.iload_n 3, 1) := by decide +kernel
theorem dX4_freePlaces_16 : decode cX4_freePlaces 16 = .ok (.if_icmp .ge 23, 3) := by decide +kernel
theorem dX4_freePlaces_19 : decode cX4_freePlaces 19 = .ok (.aload_n 2, 1) := by decide +kernel
theorem dX4_freePlaces_20 : decode cX4_freePlaces 20 = .ok (.iload 4, 2) := by decide +kernel
theorem dX4_freePlaces_22 : decode cX4_freePlaces 22 = .ok (.aaload, 1) := by decide +kernel
theorem dX4_freePlaces_23 : decode cX4_freePlaces 23 = .ok (.astore 5, 2) := by decide +kernel
theorem dX4_freePlaces_25 : decode cX4_freePlaces 25 = .ok (.aload 5, 2) := by decide +kernel
theorem dX4_freePlaces_27 : decode cX4_freePlaces 27 = .ok (.ifnonnull 6, 3) := by decide +kernel
theorem dX4_freePlaces_30 : decode cX4_freePlaces 30 = .ok (.iinc 1 1, 3) := by decide +kernel
theorem dX4_freePlaces_33 : decode cX4_freePlaces 33 = .ok (.iinc 4 1, 3) := by decide +kernel
theorem dX4_freePlaces_36 : decode cX4_freePlaces 36 = .ok (.goto (-23), 3) := by decide +kernel
theorem dX4_freePlaces_39 : decode cX4_freePlaces 39 = .ok (.iload_n 1, 1) := by decide +kernel
theorem dX4_freePlaces_40 : decode cX4_freePlaces 40 = .ok (.ireturn, 1) := by decide +kernel
theorem dX4_reasonAgainst_0 : decode cX4_reasonAgainst 0 = .ok (.aload_n 0, 1) := by decide +kernel
theorem dX4_reasonAgainst_1 : decode cX4_reasonAgainst 1 = .ok (.invokevirtual 59, 3) := by decide +kernel
theorem dX4_reasonAgainst_4 : decode cX4_reasonAgainst 4 = .ok (.ifCond .ne 5, 3) := by decide +kernel
theorem dX4_reasonAgainst_7 : decode cX4_reasonAgainst 7 = .ok (.iconst 1, 1) := by decide +kernel
theorem dX4_reasonAgainst_8 : decode cX4_reasonAgainst 8 = .ok (.ireturn, 1) := by decide +kernel
theorem dX4_reasonAgainst_9 : decode cX4_reasonAgainst 9 = .ok (.aload_n 0, 1) := by decide +kernel
theorem dX4_reasonAgainst_10 : decode cX4_reasonAgainst 10 = .ok (.getfield 31, 3) := by decide +kernel
theorem dX4_reasonAgainst_13 : decode cX4_reasonAgainst 13 = .ok (.astore_n 2, 1) := by decide +kernel
theorem dX4_reasonAgainst_14 : decode cX4_reasonAgainst 14 = .ok (.aload_n 2, 1) := by decide +kernel
theorem dX4_reasonAgainst_15 : decode cX4_reasonAgainst 15 = .ok (.arraylength, 1) := by decide +kernel
theorem dX4_reasonAgainst_16 : decode cX4_reasonAgainst 16 = .ok (.istore_n 3, 1) := by decide +kernel
theorem dX4_reasonAgainst_17 : decode cX4_reasonAgainst 17 = .ok (.iconst 0, 1) := by decide +kernel
theorem dX4_reasonAgainst_18 : decode cX4_reasonAgainst 18 = .ok (.istore 4, 2) := by decide +kernel
theorem dX4_reasonAgainst_20 : decode cX4_reasonAgainst 20 = .ok (.iload 4, 2) := by decide +kernel
theorem dX4_reasonAgainst_22 : decode cX4_reasonAgainst 22 = .ok (.iload_n 3, 1) := by decide +kernel
theorem dX4_reasonAgainst_23 : decode cX4_reasonAgainst 23 = .ok (.if_icmp .ge 34, 3) := by decide +kernel
theorem dX4_reasonAgainst_26 : decode cX4_reasonAgainst 26 = .ok (.aload_n 2, 1) := by decide +kernel
theorem dX4_reasonAgainst_27 : decode cX4_reasonAgainst 27 = .ok (.iload 4, 2) := by decide +kernel
theorem dX4_reasonAgainst_29 : decode cX4_reasonAgainst 29 = .ok (.aaload, 1) := by decide +kernel
theorem dX4_reasonAgainst_30 : decode cX4_reasonAgainst 30 = .ok (.astore 5, 2) := by decide +kernel
theorem dX4_reasonAgainst_32 : decode cX4_reasonAgainst 32 = .ok (.aload 5, 2) := by decide +kernel
theorem dX4_reasonAgainst_34 : decode cX4_reasonAgainst 34 = .ok (.ifnull 17, 3) := by decide +kernel
theorem dX4_reasonAgainst_37 : decode cX4_reasonAgainst 37 = .ok (.aload 5, 2) := by decide +kernel
theorem dX4_reasonAgainst_39 : decode cX4_reasonAgainst 39 = .ok (.getfield 66, 3) := by decide +kernel
theorem dX4_reasonAgainst_42 : decode cX4_reasonAgainst 42 = .ok (.aload_n 1, 1) := by decide +kernel
theorem dX4_reasonAgainst_43 : decode cX4_reasonAgainst 43 = .ok (.invokevirtual 70, 3) := by decide +kernel
theorem dX4_reasonAgainst_46 : decode cX4_reasonAgainst 46 = .ok (.ifCond .ne 5, 3) := by decide +kernel
theorem dX4_reasonAgainst_49 : decode cX4_reasonAgainst 49 = .ok (.iconst 2, 1) := by decide +kernel
theorem dX4_reasonAgainst_50 : decode cX4_reasonAgainst 50 = .ok (.ireturn, 1) := by decide +kernel
theorem dX4_reasonAgainst_51 : decode cX4_reasonAgainst 51 = .ok (.iinc 4 1, 3) := by decide +kernel
theorem dX4_reasonAgainst_54 : decode cX4_reasonAgainst 54 = .ok (.goto (-34), 3) := by decide +kernel
theorem dX4_reasonAgainst_57 : decode cX4_reasonAgainst 57 = .ok (.iconst 0, 1) := by decide +kernel
theorem dX4_reasonAgainst_58 : decode cX4_reasonAgainst 58 = .ok (.ireturn, 1) := by decide +kernel
theorem dX4_accepts_0 : decode cX4_accepts 0 = .ok (.aload_n 0, 1) := by decide +kernel
theorem dX4_accepts_1 : decode cX4_accepts 1 = .ok (.aload_n 1, 1) := by decide +kernel
theorem dX4_accepts_2 : decode cX4_accepts 2 = .ok (.invokevirtual 76, 3) := by decide +kernel
theorem dX4_accepts_5 : decode cX4_accepts 5 = .ok (.ifCond .ne 7, 3) := by decide +kernel
theorem dX4_accepts_8 : decode cX4_accepts 8 = .ok (.iconst 1, 1) := by decide +kernel
theorem dX4_accepts_9 : decode cX4_accepts 9 = .ok (.goto 4, 3) := by decide +kernel
theorem dX4_accepts_12 : decode cX4_accepts 12 = .ok (.iconst 0, 1) := by decide +kernel
theorem dX4_accepts_13 : decode cX4_accepts 13 = .ok (.ireturn, 1) := by decide +kernel
theorem dX4_isBetterFor_0 : decode cX4_isBetterFor 0 = .ok (.aload_n 1, 1) := by decide +kernel
theorem dX4_isBetterFor_1 : decode cX4_isBetterFor 1 = .ok (.aload_n 0, 1) := by decide +kernel
theorem dX4_isBetterFor_2 : decode cX4_isBetterFor 2 = .ok (.getfield 50, 3) := by decide +kernel
theorem dX4_isBetterFor_5 : decode cX4_isBetterFor 5 = .ok (.invokevirtual 80, 3) := by decide +kernel
theorem dX4_isBetterFor_8 : decode cX4_isBetterFor 8 = .ok (.istore_n 3, 1) := by decide +kernel
theorem dX4_isBetterFor_9 : decode cX4_isBetterFor 9 = .ok (.aload_n 1, 1) := by decide +kernel
theorem dX4_isBetterFor_10 : decode cX4_isBetterFor 10 = .ok (.aload_n 2, 1) := by decide +kernel
theorem dX4_isBetterFor_11 : decode cX4_isBetterFor 11 = .ok (.getfield 50, 3) := by decide +kernel
theorem dX4_isBetterFor_14 : decode cX4_isBetterFor 14 = .ok (.invokevirtual 80, 3) := by decide +kernel
theorem dX4_isBetterFor_17 : decode cX4_isBetterFor 17 = .ok (.istore 4, 2) := by decide +kernel
theorem dX4_isBetterFor_19 : decode cX4_isBetterFor 19 = .ok (.iload_n 3, 1) := by decide +kernel
theorem dX4_isBetterFor_20 : decode cX4_isBetterFor 20 = .ok (.iload 4, 2) := by decide +kernel
theorem dX4_isBetterFor_22 : decode cX4_isBetterFor 22 = .ok (.if_icmp .eq 15, 3) := by decide +kernel
theorem dX4_isBetterFor_25 : decode cX4_isBetterFor 25 = .ok (.iload_n 3, 1) := by decide +kernel
theorem dX4_isBetterFor_26 : decode cX4_isBetterFor 26 = .ok (.iload 4, 2) := by decide +kernel
theorem dX4_isBetterFor_28 : decode cX4_isBetterFor 28 = .ok (.if_icmp .ge 7, 3) := by decide +kernel
theorem dX4_isBetterFor_31 : decode cX4_isBetterFor 31 = .ok (.iconst 1, 1) := by decide +kernel
theorem dX4_isBetterFor_32 : decode cX4_isBetterFor 32 = .ok (.goto 4, 3) := by decide +kernel
theorem dX4_isBetterFor_35 : decode cX4_isBetterFor 35 = .ok (.iconst 0, 1) := by decide +kernel
theorem dX4_isBetterFor_36 : decode cX4_isBetterFor 36 = .ok (.ireturn, 1) := by decide +kernel
theorem dX4_isBetterFor_37 : decode cX4_isBetterFor 37 = .ok (.aload_n 0, 1) := by decide +kernel
theorem dX4_isBetterFor_38 : decode cX4_isBetterFor 38 = .ok (.invokevirtual 59, 3) := by decide +kernel
theorem dX4_isBetterFor_41 : decode cX4_isBetterFor 41 = .ok (.aload_n 2, 1) := by decide +kernel
theorem dX4_isBetterFor_42 : decode cX4_isBetterFor 42 = .ok (.invokevirtual 59, 3) := by decide +kernel
theorem dX4_isBetterFor_45 : decode cX4_isBetterFor 45 = .ok (.if_icmp .le 7, 3) := by decide +kernel
theorem dX4_isBetterFor_48 : decode cX4_isBetterFor 48 = .ok (.iconst 1, 1) := by decide +kernel
theorem dX4_isBetterFor_49 : decode cX4_isBetterFor 49 = .ok (.goto 4, 3) := by decide +kernel
theorem dX4_isBetterFor_52 : decode cX4_isBetterFor 52 = .ok (.iconst 0, 1) := by decide +kernel
theorem dX4_isBetterFor_53 : decode cX4_isBetterFor 53 = .ok (.ireturn, 1) := by decide +kernel
theorem dX4_take_0 : decode cX4_take 0 = .ok (.iconst 0, 1) := by decide +kernel
theorem dX4_take_1 : decode cX4_take 1 = .ok (.istore_n 2, 1) := by decide +kernel
theorem dX4_take_2 : decode cX4_take 2 = .ok (.iload_n 2, 1) := by decide +kernel
theorem dX4_take_3 : decode cX4_take 3 = .ok (.aload_n 0, 1) := by decide +kernel
theorem dX4_take_4 : decode cX4_take 4 = .ok (.getfield 31, 3) := by decide +kernel
theorem dX4_take_7 : decode cX4_take 7 = .ok (.arraylength, 1) := by decide +kernel
theorem dX4_take_8 : decode cX4_take 8 = .ok (.if_icmp .ge 31, 3) := by decide +kernel
theorem dX4_take_11 : decode cX4_take 11 = .ok (.aload_n 0, 1) := by decide +kernel
theorem dX4_take_12 : decode cX4_take 12 = .ok (.getfield 31, 3) := by decide +kernel
theorem dX4_take_15 : decode cX4_take 15 = .ok (.iload_n 2, 1) := by decide +kernel
theorem dX4_take_16 : decode cX4_take 16 = .ok (.aaload, 1) := by decide +kernel
theorem dX4_take_17 : decode cX4_take 17 = .ok (.ifnonnull 16, 3) := by decide +kernel
theorem dX4_take_20 : decode cX4_take 20 = .ok (.aload_n 0, 1) := by decide +kernel
theorem dX4_take_21 : decode cX4_take 21 = .ok (.getfield 31, 3) := by decide +kernel
theorem dX4_take_24 : decode cX4_take 24 = .ok (.iload_n 2, 1) := by decide +kernel
theorem dX4_take_25 : decode cX4_take 25 = .ok (.aload_n 1, 1) := by decide +kernel
theorem dX4_take_26 : decode cX4_take 26 = .ok (.aastore, 1) := by decide +kernel
theorem dX4_take_27 : decode cX4_take 27 = .ok (.aload_n 1, 1) := by decide +kernel
theorem dX4_take_28 : decode cX4_take 28 = .ok (.aload_n 0, 1) := by decide +kernel
theorem dX4_take_29 : decode cX4_take 29 = .ok (.putfield 84, 3) := by decide +kernel
theorem dX4_take_32 : decode cX4_take 32 = .ok (.return_, 1) := by decide +kernel
theorem dX4_take_33 : decode cX4_take 33 = .ok (.iinc 2 1, 3) := by decide +kernel
theorem dX4_take_36 : decode cX4_take 36 = .ok (.goto (-34), 3) := by decide +kernel
theorem dX4_take_39 : decode cX4_take 39 = .ok (.return_, 1) := by decide +kernel
theorem dX4_release_0 : decode cX4_release 0 = .ok (.iconst 0, 1) := by decide +kernel
theorem dX4_release_1 : decode cX4_release 1 = .ok (.istore_n 2, 1) := by decide +kernel
theorem dX4_release_2 : decode cX4_release 2 = .ok (.iload_n 2, 1) := by decide +kernel
theorem dX4_release_3 : decode cX4_release 3 = .ok (.aload_n 0, 1) := by decide +kernel
theorem dX4_release_4 : decode cX4_release 4 = .ok (.getfield 31, 3) := by decide +kernel
theorem dX4_release_7 : decode cX4_release 7 = .ok (.arraylength, 1) := by decide +kernel
theorem dX4_release_8 : decode cX4_release 8 = .ok (.if_icmp .ge 31, 3) := by decide +kernel
theorem dX4_release_11 : decode cX4_release 11 = .ok (.aload_n 0, 1) := by decide +kernel
theorem dX4_release_12 : decode cX4_release 12 = .ok (.getfield 31, 3) := by decide +kernel
theorem dX4_release_15 : decode cX4_release 15 = .ok (.iload_n 2, 1) := by decide +kernel
theorem dX4_release_16 : decode cX4_release 16 = .ok (.aaload, 1) := by decide +kernel
theorem dX4_release_17 : decode cX4_release 17 = .ok (.aload_n 1, 1) := by decide +kernel
theorem dX4_release_18 : decode cX4_release 18 = .ok (.if_acmp .ne 15, 3) := by decide +kernel
theorem dX4_release_21 : decode cX4_release 21 = .ok (.aload_n 0, 1) := by decide +kernel
theorem dX4_release_22 : decode cX4_release 22 = .ok (.getfield 31, 3) := by decide +kernel
theorem dX4_release_25 : decode cX4_release 25 = .ok (.iload_n 2, 1) := by decide +kernel
theorem dX4_release_26 : decode cX4_release 26 = .ok (.aconst_null, 1) := by decide +kernel
theorem dX4_release_27 : decode cX4_release 27 = .ok (.aastore, 1) := by decide +kernel
theorem dX4_release_28 : decode cX4_release 28 = .ok (.aload_n 1, 1) := by decide +kernel
theorem dX4_release_29 : decode cX4_release 29 = .ok (.aconst_null, 1) := by decide +kernel
theorem dX4_release_30 : decode cX4_release 30 = .ok (.putfield 84, 3) := by decide +kernel
theorem dX4_release_33 : decode cX4_release 33 = .ok (.iinc 2 1, 3) := by decide +kernel
theorem dX4_release_36 : decode cX4_release 36 = .ok (.goto (-34), 3) := by decide +kernel
theorem dX4_release_39 : decode cX4_release 39 = .ok (.return_, 1) := by decide +kernel
theorem dX4_passHour_0 : decode cX4_passHour 0 = .ok (.aload_n 0, 1) := by decide +kernel
theorem dX4_passHour_1 : decode cX4_passHour 1 = .ok (.getfield 43, 3) := by decide +kernel
theorem dX4_passHour_4 : decode cX4_passHour 4 = .ok (.aload_n 0, 1) := by decide +kernel
theorem dX4_passHour_5 : decode cX4_passHour 5 = .ok (.getfield 13, 3) := by decide +kernel
theorem dX4_passHour_8 : decode cX4_passHour 8 = .ok (.aload_n 0, 1) := by decide +kernel
theorem dX4_passHour_9 : decode cX4_passHour 9 = .ok (.getfield 50, 3) := by decide +kernel
theorem dX4_passHour_12 : decode cX4_passHour 12 = .ok (.isub, 1) := by decide +kernel
theorem dX4_passHour_13 : decode cX4_passHour 13 = .ok (.aload_n 0, 1) := by decide +kernel
theorem dX4_passHour_14 : decode cX4_passHour 14 = .ok (.getfield 7, 3) := by decide +kernel
theorem dX4_passHour_17 : decode cX4_passHour 17 = .ok (.ifCond .eq 11, 3) := by decide +kernel
theorem dX4_passHour_20 : decode cX4_passHour 20 = .ok (.iload_n 2, 1) := by decide +kernel
theorem dX4_passHour_21 : decode cX4_passHour 21 = .ok (.ifCond .eq 7, 3) := by decide +kernel
theorem dX4_passHour_24 : decode cX4_passHour 24 = .ok (.iconst 1, 1) := by decide +kernel
theorem dX4_passHour_25 : decode cX4_passHour 25 = .ok (.goto 4, 3) := by decide +kernel
theorem dX4_passHour_28 : decode cX4_passHour 28 = .ok (.iconst 0, 1) := by decide +kernel
theorem dX4_passHour_29 : decode cX4_passHour 29 = .ok (.invokevirtual 88, 3) := by decide +kernel
theorem dX4_passHour_32 : decode cX4_passHour 32 = .ok (.iload_n 1, 1) := by decide +kernel
theorem dX4_passHour_33 : decode cX4_passHour 33 = .ok (.aload_n 0, 1) := by decide +kernel
theorem dX4_passHour_34 : decode cX4_passHour 34 = .ok (.getfield 13, 3) := by decide +kernel
theorem dX4_passHour_37 : decode cX4_passHour 37 = .ok (.isub, 1) := by decide +kernel
theorem dX4_passHour_38 : decode cX4_passHour 38 = .ok (.aload_n 0, 1) := by decide +kernel
theorem dX4_passHour_39 : decode cX4_passHour 39 = .ok (.getfield 35, 3) := by decide +kernel
theorem dX4_passHour_42 : decode cX4_passHour 42 = .ok (.imul, 1) := by decide +kernel
theorem dX4_passHour_43 : decode cX4_passHour 43 = .ok (.sipush 200, 3) := by decide +kernel
theorem dX4_passHour_46 : decode cX4_passHour 46 = .ok (.idiv, 1) := by decide +kernel
theorem dX4_passHour_47 : decode cX4_passHour 47 = .ok (.istore_n 3, 1) := by decide +kernel
theorem dX4_passHour_48 : decode cX4_passHour 48 = .ok (.iload_n 3, 1) := by decide +kernel
theorem dX4_passHour_49 : decode cX4_passHour 49 = .ok (.aload_n 0, 1) := by decide +kernel
theorem dX4_passHour_50 : decode cX4_passHour 50 = .ok (.invokevirtual 92, 3) := by decide +kernel
theorem dX4_passHour_53 : decode cX4_passHour 53 = .ok (.iadd, 1) := by decide +kernel
theorem dX4_passHour_54 : decode cX4_passHour 54 = .ok (.aload_n 0, 1) := by decide +kernel
theorem dX4_passHour_55 : decode cX4_passHour 55 = .ok (.getfield 43, 3) := by decide +kernel
theorem dX4_passHour_58 : decode cX4_passHour 58 = .ok (.invokevirtual 95, 3) := by decide +kernel
theorem dX4_passHour_61 : decode cX4_passHour 61 = .ok (.iadd, 1) := by decide +kernel
theorem dX4_passHour_62 : decode cX4_passHour 62 = .ok (.istore 4, 2) := by decide +kernel
theorem dX4_passHour_64 : decode cX4_passHour 64 = .ok (.aload_n 0, 1) := by decide +kernel
theorem dX4_passHour_65 : decode cX4_passHour 65 = .ok (.dup, 1) := by decide +kernel
theorem dX4_passHour_66 : decode cX4_passHour 66 = .ok (.getfield 13, 3) := by decide +kernel
theorem dX4_passHour_69 : decode cX4_passHour 69 = .ok (.iload 4, 2) := by decide +kernel
theorem dX4_passHour_71 : decode cX4_passHour 71 = .ok (.iadd, 1) := by decide +kernel
theorem dX4_passHour_72 : decode cX4_passHour 72 = .ok (.putfield 13, 3) := by decide +kernel
theorem dX4_passHour_75 : decode cX4_passHour 75 = .ok (.aload_n 0, 1) := by decide +kernel
theorem dX4_passHour_76 : decode cX4_passHour 76 = .ok (.getfield 43, 3) := by decide +kernel
theorem dX4_passHour_79 : decode cX4_passHour 79 = .ok (.invokevirtual 98, 3) := by decide +kernel
theorem dX4_passHour_82 : decode cX4_passHour 82 = .ok (.istore 5, 2) := by decide +kernel
theorem dX4_passHour_84 : decode cX4_passHour 84 = .ok (.aload_n 0, 1) := by decide +kernel
theorem dX4_passHour_85 : decode cX4_passHour 85 = .ok (.getfield 31, 3) := by decide +kernel
theorem dX4_passHour_88 : decode cX4_passHour 88 = .ok (.astore 6, 2) := by decide +kernel
theorem dX4_passHour_90 : decode cX4_passHour 90 = .ok (.aload 6, 2) := by decide +kernel
theorem dX4_passHour_92 : decode cX4_passHour 92 = .ok (.arraylength, 1) := by decide +kernel
theorem dX4_passHour_93 : decode cX4_passHour 93 = .ok (.istore 7, 2) := by decide +kernel
theorem dX4_passHour_95 : decode cX4_passHour 95 = .ok (.iconst 0, 1) := by decide +kernel
theorem dX4_passHour_96 : decode cX4_passHour 96 = .ok (.istore 8, 2) := by decide +kernel
theorem dX4_passHour_98 : decode cX4_passHour 98 = .ok (.iload 8, 2) := by decide +kernel
theorem dX4_passHour_100 : decode cX4_passHour 100 = .ok (.iload 7, 2) := by decide +kernel
theorem dX4_passHour_102 : decode cX4_passHour 102 = .ok (.if_icmp .ge 30, 3) := by decide +kernel
theorem dX4_passHour_105 : decode cX4_passHour 105 = .ok (.aload 6, 2) := by decide +kernel
theorem dX4_passHour_107 : decode cX4_passHour 107 = .ok (.iload 8, 2) := by decide +kernel
theorem dX4_passHour_109 : decode cX4_passHour 109 = .ok (.aaload, 1) := by decide +kernel
theorem dX4_passHour_110 : decode cX4_passHour 110 = .ok (.astore 9, 2) := by decide +kernel
theorem dX4_passHour_112 : decode cX4_passHour 112 = .ok (.aload 9, 2) := by decide +kernel
theorem dX4_passHour_114 : decode cX4_passHour 114 = .ok (.ifnull 12, 3) := by decide +kernel
theorem dX4_passHour_117 : decode cX4_passHour 117 = .ok (.aload 9, 2) := by decide +kernel
theorem dX4_passHour_119 : decode cX4_passHour 119 = .ok (.aload_n 0, 1) := by decide +kernel
theorem dX4_passHour_120 : decode cX4_passHour 120 = .ok (.getfield 13, 3) := by decide +kernel
theorem dX4_passHour_123 : decode cX4_passHour 123 = .ok (.invokevirtual 101, 3) := by decide +kernel
theorem dX4_passHour_126 : decode cX4_passHour 126 = .ok (.iinc 8 1, 3) := by decide +kernel
theorem dX4_passHour_129 : decode cX4_passHour 129 = .ok (.goto (-31), 3) := by decide +kernel
theorem dX4_passHour_132 : decode cX4_passHour 132 = .ok (.aload_n 0, 1) := by decide +kernel
theorem dX4_passHour_133 : decode cX4_passHour 133 = .ok (.getfield 13, 3) := by decide +kernel
theorem dX4_passHour_136 : decode cX4_passHour 136 = .ok (.aload_n 0, 1) := by decide +kernel
theorem dX4_passHour_137 : decode cX4_passHour 137 = .ok (.getfield 50, 3) := by decide +kernel
theorem dX4_passHour_140 : decode cX4_passHour 140 = .ok (.bipush 20, 2) := by decide +kernel
theorem dX4_passHour_142 : decode cX4_passHour 142 = .ok (.iadd, 1) := by decide +kernel
theorem dX4_passHour_143 : decode cX4_passHour 143 = .ok (.if_icmp .le 13, 3) := by decide +kernel
theorem dX4_passHour_146 : decode cX4_passHour 146 = .ok (.aload_n 0, 1) := by decide +kernel
theorem dX4_passHour_147 : decode cX4_passHour 147 = .ok (.dup, 1) := by decide +kernel
theorem dX4_passHour_148 : decode cX4_passHour 148 = .ok (.getfield 17, 3) := by decide +kernel
theorem dX4_passHour_151 : decode cX4_passHour 151 = .ok (.iconst 1, 1) := by decide +kernel
theorem dX4_passHour_152 : decode cX4_passHour 152 = .ok (.iadd, 1) := by decide +kernel
theorem dX4_passHour_153 : decode cX4_passHour 153 = .ok (.putfield 17, 3) := by decide +kernel
theorem dX4_passHour_156 : decode cX4_passHour 156 = .ok (.iload 5, 2) := by decide +kernel
theorem dX4_passHour_158 : decode cX4_passHour 158 = .ok (.ireturn, 1) := by decide +kernel
theorem dX4_warmthOfPallets_0 : decode cX4_warmthOfPallets 0 = .ok (.iconst 0, 1) := by decide +kernel
theorem dX4_warmthOfPallets_1 : decode cX4_warmthOfPallets 1 = .ok (.istore_n 1, 1) := by decide +kernel
theorem dX4_warmthOfPallets_2 : decode cX4_warmthOfPallets 2 = .ok (.aload_n 0, 1) := by decide +kernel
theorem dX4_warmthOfPallets_3 : decode cX4_warmthOfPallets 3 = .ok (.getfield 31, 3) := by decide +kernel
theorem dX4_warmthOfPallets_6 : decode cX4_warmthOfPallets 6 = .ok (.astore_n 2, 1) := by decide +kernel
theorem dX4_warmthOfPallets_7 : decode cX4_warmthOfPallets 7 = .ok (.aload_n 2, 1) := by decide +kernel
theorem dX4_warmthOfPallets_8 : decode cX4_warmthOfPallets 8 = .ok (.arraylength, 1) := by decide +kernel
theorem dX4_warmthOfPallets_9 : decode cX4_warmthOfPallets 9 = .ok (.istore_n 3, 1) := by decide +kernel
theorem dX4_warmthOfPallets_10 : decode cX4_warmthOfPallets 10 = .ok (.iconst 0, 1) := by decide +kernel
theorem dX4_warmthOfPallets_11 : decode cX4_warmthOfPallets 11 = .ok (.istore 4, 2) := by decide +kernel
theorem dX4_warmthOfPallets_13 : decode cX4_warmthOfPallets 13 = .ok (.iload 4, 2) := by decide +kernel
theorem dX4_warmthOfPallets_15 : decode cX4_warmthOfPallets 15 = .ok (.iload_n 3, 1) := by decide +kernel
theorem dX4_warmthOfPallets_16 : decode cX4_warmthOfPallets 16 = .ok (.if_icmp .ge 36, 3) := by decide +kernel
theorem dX4_warmthOfPallets_19 : decode cX4_warmthOfPallets 19 = .ok (.aload_n 2, 1) := by decide +kernel
theorem dX4_warmthOfPallets_20 : decode cX4_warmthOfPallets 20 = .ok (.iload 4, 2) := by decide +kernel
theorem dX4_warmthOfPallets_22 : decode cX4_warmthOfPallets 22 = .ok (.aaload, 1) := by decide +kernel
theorem dX4_warmthOfPallets_23 : decode cX4_warmthOfPallets 23 = .ok (.astore 5, 2) := by decide +kernel
theorem dX4_warmthOfPallets_25 : decode cX4_warmthOfPallets 25 = .ok (.aload 5, 2) := by decide +kernel
theorem dX4_warmthOfPallets_27 : decode cX4_warmthOfPallets 27 = .ok (.ifnull 19, 3) := by decide +kernel
theorem dX4_warmthOfPallets_30 : decode cX4_warmthOfPallets 30 = .ok (.iload_n 1, 1) := by decide +kernel
theorem dX4_warmthOfPallets_31 : decode cX4_warmthOfPallets 31 = .ok (.aload 5, 2) := by decide +kernel
theorem dX4_warmthOfPallets_33 : decode cX4_warmthOfPallets 33 = .ok (.getfield 104, 3) := by decide +kernel
theorem dX4_warmthOfPallets_36 : decode cX4_warmthOfPallets 36 = .ok (.aload_n 0, 1) := by decide +kernel
theorem dX4_warmthOfPallets_37 : decode cX4_warmthOfPallets 37 = .ok (.getfield 13, 3) := by decide +kernel
theorem dX4_warmthOfPallets_40 : decode cX4_warmthOfPallets 40 = .ok (.isub, 1) := by decide +kernel
theorem dX4_warmthOfPallets_41 : decode cX4_warmthOfPallets 41 = .ok (.bipush 40, 2) := by decide +kernel
theorem dX4_warmthOfPallets_43 : decode cX4_warmthOfPallets 43 = .ok (.idiv, 1) := by decide +kernel
theorem dX4_warmthOfPallets_44 : decode cX4_warmthOfPallets 44 = .ok (.iadd, 1) := by decide +kernel
theorem dX4_warmthOfPallets_45 : decode cX4_warmthOfPallets 45 = .ok (.istore_n 1, 1) := by decide +kernel
theorem dX4_warmthOfPallets_46 : decode cX4_warmthOfPallets 46 = .ok (.iinc 4 1, 3) := by decide +kernel
theorem dX4_warmthOfPallets_49 : decode cX4_warmthOfPallets 49 = .ok (.goto (-36), 3) := by decide +kernel
theorem dX4_warmthOfPallets_52 : decode cX4_warmthOfPallets 52 = .ok (.iload_n 1, 1) := by decide +kernel
theorem dX4_warmthOfPallets_53 : decode cX4_warmthOfPallets 53 = .ok (.ireturn, 1) := by decide +kernel
theorem dX4_remember_0 : decode cX4_remember 0 = .ok (.aload_n 0, 1) := by decide +kernel
theorem dX4_remember_1 : decode cX4_remember 1 = .ok (.getfield 47, 3) := by decide +kernel
theorem dX4_remember_4 : decode cX4_remember 4 = .ok (.aload_n 0, 1) := by decide +kernel
theorem dX4_remember_5 : decode cX4_remember 5 = .ok (.getfield 43, 3) := by decide +kernel
theorem dX4_remember_8 : decode cX4_remember 8 = .ok (.invokevirtual 105, 3) := by decide +kernel
theorem dX4_remember_11 : decode cX4_remember 11 = .ok (.aload_n 0, 1) := by decide +kernel
theorem dX4_remember_12 : decode cX4_remember 12 = .ok (.aload_n 0, 1) := by decide +kernel
theorem dX4_remember_13 : decode cX4_remember 13 = .ok (.getfield 13, 3) := by decide +kernel
theorem dX4_remember_16 : decode cX4_remember 16 = .ok (.putfield 20, 3) := by decide +kernel
theorem dX4_remember_19 : decode cX4_remember 19 = .ok (.aload_n 0, 1) := by decide +kernel
theorem dX4_remember_20 : decode cX4_remember 20 = .ok (.aload_n 0, 1) := by decide +kernel
theorem dX4_remember_21 : decode cX4_remember 21 = .ok (.getfield 17, 3) := by decide +kernel
theorem dX4_remember_24 : decode cX4_remember 24 = .ok (.putfield 23, 3) := by decide +kernel
theorem dX4_remember_27 : decode cX4_remember 27 = .ok (.aload_n 0, 1) := by decide +kernel
theorem dX4_remember_28 : decode cX4_remember 28 = .ok (.getfield 31, 3) := by decide +kernel
theorem dX4_remember_31 : decode cX4_remember 31 = .ok (.astore_n 1, 1) := by decide +kernel
theorem dX4_remember_32 : decode cX4_remember 32 = .ok (.aload_n 1, 1) := by decide +kernel
theorem dX4_remember_33 : decode cX4_remember 33 = .ok (.arraylength, 1) := by decide +kernel
theorem dX4_remember_34 : decode cX4_remember 34 = .ok (.istore_n 2, 1) := by decide +kernel
theorem dX4_remember_35 : decode cX4_remember 35 = .ok (.iconst 0, 1) := by decide +kernel
theorem dX4_remember_36 : decode cX4_remember 36 = .ok (.istore_n 3, 1) := by decide +kernel
theorem dX4_remember_37 : decode cX4_remember 37 = .ok (.iload_n 3, 1) := by decide +kernel
theorem dX4_remember_38 : decode cX4_remember 38 = .ok (.iload_n 2, 1) := by decide +kernel
theorem dX4_remember_39 : decode cX4_remember 39 = .ok (.if_icmp .ge 24, 3) := by decide +kernel
theorem dX4_remember_42 : decode cX4_remember 42 = .ok (.aload_n 1, 1) := by decide +kernel
theorem dX4_remember_43 : decode cX4_remember 43 = .ok (.iload_n 3, 1) := by decide +kernel
theorem dX4_remember_44 : decode cX4_remember 44 = .ok (.aaload, 1) := by decide +kernel
theorem dX4_remember_45 : decode cX4_remember 45 = .ok (.astore 4, 2) := by decide +kernel
theorem dX4_remember_47 : decode cX4_remember 47 = .ok (.aload 4, 2) := by decide +kernel
theorem dX4_remember_49 : decode cX4_remember 49 = .ok (.ifnull 8, 3) := by decide +kernel
theorem dX4_remember_52 : decode cX4_remember 52 = .ok (.aload 4, 2) := by decide +kernel
theorem dX4_remember_54 : decode cX4_remember 54 = .ok (.invokevirtual 109, 3) := by decide +kernel
theorem dX4_remember_57 : decode cX4_remember 57 = .ok (.iinc 3 1, 3) := by decide +kernel
theorem dX4_remember_60 : decode cX4_remember 60 = .ok (.goto (-23), 3) := by decide +kernel
theorem dX4_remember_63 : decode cX4_remember 63 = .ok (.return_, 1) := by decide +kernel
theorem dX4_recall_0 : decode cX4_recall 0 = .ok (.aload_n 0, 1) := by decide +kernel
theorem dX4_recall_1 : decode cX4_recall 1 = .ok (.getfield 43, 3) := by decide +kernel
theorem dX4_recall_4 : decode cX4_recall 4 = .ok (.aload_n 0, 1) := by decide +kernel
theorem dX4_recall_5 : decode cX4_recall 5 = .ok (.getfield 47, 3) := by decide +kernel
theorem dX4_recall_8 : decode cX4_recall 8 = .ok (.invokevirtual 105, 3) := by decide +kernel
theorem dX4_recall_11 : decode cX4_recall 11 = .ok (.aload_n 0, 1) := by decide +kernel
theorem dX4_recall_12 : decode cX4_recall 12 = .ok (.aload_n 0, 1) := by decide +kernel
theorem dX4_recall_13 : decode cX4_recall 13 = .ok (.getfield 20, 3) := by decide +kernel
theorem dX4_recall_16 : decode cX4_recall 16 = .ok (.putfield 13, 3) := by decide +kernel
theorem dX4_recall_19 : decode cX4_recall 19 = .ok (.aload_n 0, 1) := by decide +kernel
theorem dX4_recall_20 : decode cX4_recall 20 = .ok (.aload_n 0, 1) := by decide +kernel
theorem dX4_recall_21 : decode cX4_recall 21 = .ok (.getfield 23, 3) := by decide +kernel
theorem dX4_recall_24 : decode cX4_recall 24 = .ok (.putfield 17, 3) := by decide +kernel
theorem dX4_recall_27 : decode cX4_recall 27 = .ok (.aload_n 0, 1) := by decide +kernel
theorem dX4_recall_28 : decode cX4_recall 28 = .ok (.getfield 31, 3) := by decide +kernel
theorem dX4_recall_31 : decode cX4_recall 31 = .ok (.astore_n 1, 1) := by decide +kernel
theorem dX4_recall_32 : decode cX4_recall 32 = .ok (.aload_n 1, 1) := by decide +kernel
theorem dX4_recall_33 : decode cX4_recall 33 = .ok (.arraylength, 1) := by decide +kernel
theorem dX4_recall_34 : decode cX4_recall 34 = .ok (.istore_n 2, 1) := by decide +kernel
theorem dX4_recall_35 : decode cX4_recall 35 = .ok (.iconst 0, 1) := by decide +kernel
theorem dX4_recall_36 : decode cX4_recall 36 = .ok (.istore_n 3, 1) := by decide +kernel
theorem dX4_recall_37 : decode cX4_recall 37 = .ok (.iload_n 3, 1) := by decide +kernel
theorem dX4_recall_38 : decode cX4_recall 38 = .ok (.iload_n 2, 1) := by decide +kernel
theorem dX4_recall_39 : decode cX4_recall 39 = .ok (.if_icmp .ge 24, 3) := by decide +kernel
theorem dX4_recall_42 : decode cX4_recall 42 = .ok (.aload_n 1, 1) := by decide +kernel
theorem dX4_recall_43 : decode cX4_recall 43 = .ok (.iload_n 3, 1) := by decide +kernel
theorem dX4_recall_44 : decode cX4_recall 44 = .ok (.aaload, 1) := by decide +kernel
theorem dX4_recall_45 : decode cX4_recall 45 = .ok (.astore 4, 2) := by decide +kernel
theorem dX4_recall_47 : decode cX4_recall 47 = .ok (.aload 4, 2) := by decide +kernel
theorem dX4_recall_49 : decode cX4_recall 49 = .ok (.ifnull 8, 3) := by decide +kernel
theorem dX4_recall_52 : decode cX4_recall 52 = .ok (.aload 4, 2) := by decide +kernel
theorem dX4_recall_54 : decode cX4_recall 54 = .ok (.invokevirtual 112, 3) := by decide +kernel
theorem dX4_recall_57 : decode cX4_recall 57 = .ok (.iinc 3 1, 3) := by decide +kernel
theorem dX4_recall_60 : decode cX4_recall 60 = .ok (.goto (-23), 3) := by decide +kernel
theorem dX4_recall_63 : decode cX4_recall 63 = .ok (.return_, 1) := by decide +kernel
theorem dX5_init_0 : decode cX5_init 0 = .ok (.aload_n 0, 1) := by decide +kernel
theorem dX5_init_1 : decode cX5_init 1 = .ok (.invokespecial 3, 3) := by decide +kernel
theorem dX5_init_4 : decode cX5_init 4 = .ok (.aload_n 0, 1) := by decide +kernel
theorem dX5_init_5 : decode cX5_init 5 = .ok (.bipush 24, 2) := by decide +kernel
theorem dX5_init_7 : decode cX5_init 7 = .ok (.newarray .int, 2) := by decide +kernel
theorem dX5_init_9 : decode cX5_init 9 = .ok (.putfield 9, 3) := by decide +kernel
theorem dX5_init_12 : decode cX5_init 12 = .ok (.aload_n 0, 1) := by decide +kernel
theorem dX5_init_13 : decode cX5_init 13 = .ok (.bipush 10, 2) := by decide +kernel
theorem dX5_init_15 : decode cX5_init 15 = .ok (.putfield 15, 3) := by decide +kernel
theorem dX5_init_18 : decode cX5_init 18 = .ok (.iconst 0, 1) := by decide +kernel
theorem dX5_init_19 : decode cX5_init 19 = .ok (.istore_n 1, 1) := by decide +kernel
theorem dX5_init_20 : decode cX5_init 20 = .ok (.iload_n 1, 1) := by decide +kernel
theorem dX5_init_21 : decode cX5_init 21 = .ok (.aload_n 0, 1) := by decide +kernel
theorem dX5_init_22 : decode cX5_init 22 = .ok (.getfield 9, 3) := by decide +kernel
theorem dX5_init_25 : decode cX5_init 25 = .ok (.arraylength, 1) := by decide +kernel
theorem dX5_init_26 : decode cX5_init 26 = .ok (.if_icmp .ge 19, 3) := by decide +kernel
theorem dX5_init_29 : decode cX5_init 29 = .ok (.aload_n 0, 1) := by decide +kernel
theorem dX5_init_30 : decode cX5_init 30 = .ok (.getfield 9, 3) := by decide +kernel
theorem dX5_init_33 : decode cX5_init 33 = .ok (.iload_n 1, 1) := by decide +kernel
theorem dX5_init_34 : decode cX5_init 34 = .ok (.aload_n 0, 1) := by decide +kernel
theorem dX5_init_35 : decode cX5_init 35 = .ok (.getfield 15, 3) := by decide +kernel
theorem dX5_init_38 : decode cX5_init 38 = .ok (.iastore, 1) := by decide +kernel
theorem dX5_init_39 : decode cX5_init 39 = .ok (.iinc 1 1, 3) := by decide +kernel
theorem dX5_init_42 : decode cX5_init 42 = .ok (.goto (-22), 3) := by decide +kernel
theorem dX5_init_45 : decode cX5_init 45 = .ok (.return_, 1) := by decide +kernel
theorem dX5_charge_0 : decode cX5_charge 0 = .ok (.aload_n 0, 1) := by decide +kernel
theorem dX5_charge_1 : decode cX5_charge 1 = .ok (.iload_n 3, 1) := by decide +kernel
theorem dX5_charge_2 : decode cX5_charge 2 = .ok (.putfield 15, 3) := by decide +kernel
theorem dX5_charge_5 : decode cX5_charge 5 = .ok (.iconst 0, 1) := by decide +kernel
theorem dX5_charge_6 : decode cX5_charge 6 = .ok (.istore 4, 2) := by decide +kernel
theorem dX5_charge_8 : decode cX5_charge 8 = .ok (.iload 4, 2) := by decide +kernel
theorem dX5_charge_10 : decode cX5_charge 10 = .ok (.aload_n 0, 1) := by decide +kernel
theorem dX5_charge_11 : decode cX5_charge 11 = .ok (.getfield 9, 3) := by decide +kernel
theorem dX5_charge_14 : decode cX5_charge 14 = .ok (.arraylength, 1) := by decide +kernel
theorem dX5_charge_15 : decode cX5_charge 15 = .ok (.if_icmp .ge 47, 3) := by decide +kernel
theorem dX5_charge_18 : decode cX5_charge 18 = .ok (.iload 4, 2) := by decide +kernel
theorem dX5_charge_20 : decode cX5_charge 20 = .ok (.iload_n 1, 1) := by decide +kernel
theorem dX5_charge_21 : decode cX5_charge 21 = .ok (.if_icmp .lt 17, 3) := by decide +kernel
theorem dX5_charge_24 : decode cX5_charge 24 = .ok (.iload 4, 2) := by decide +kernel
theorem dX5_charge_26 : decode cX5_charge 26 = .ok (.iload_n 2, 1) := by decide +kernel
theorem dX5_charge_27 : decode cX5_charge 27 = .ok (.if_icmp .gt 11, 3) := by decide +kernel
theorem dX5_charge_30 : decode cX5_charge 30 = .ok (.aload_n 0, 1) := by decide +kernel
theorem dX5_charge_31 : decode cX5_charge 31 = .ok (.getfield 9, 3) := by decide +kernel
theorem dX5_charge_34 : decode cX5_charge 34 = .ok (.iload 4, 2) := by decide +kernel
theorem dX5_charge_36 : decode cX5_charge 36 = .ok (.iload_n 3, 1) := by decide +kernel
theorem dX5_charge_37 : decode cX5_charge 37 = .ok (.iastore, 1) := by decide +kernel
theorem dX5_charge_38 : decode cX5_charge 38 = .ok (.aload_n 0, 1) := by decide +kernel
theorem dX5_charge_39 : decode cX5_charge 39 = .ok (.aload_n 0, 1) := by decide +kernel
theorem dX5_charge_40 : decode cX5_charge 40 = .ok (.getfield 15, 3) := by decide +kernel
theorem dX5_charge_43 : decode cX5_charge 43 = .ok (.aload_n 0, 1) := by decide +kernel
theorem dX5_charge_44 : decode cX5_charge 44 = .ok (.getfield 9, 3) := by decide +kernel
theorem dX5_charge_47 : decode cX5_charge 47 = .ok (.iload 4, 2) := by decide +kernel
theorem dX5_charge_49 : decode cX5_charge 49 = .ok (.iaload, 1) := by decide +kernel
theorem dX5_charge_50 : decode cX5_charge 50 = .ok (.invokestatic 19, 3) := by decide +kernel
theorem dX5_charge_53 : decode cX5_charge 53 = .ok (.putfield 15, 3) := by decide +kernel
theorem dX5_charge_56 : decode cX5_charge 56 = .ok (.iinc 4 1, 3) := by decide +kernel
theorem dX5_charge_59 : decode cX5_charge 59 = .ok (.goto (-51), 3) := by decide +kernel
theorem dX5_charge_62 : decode cX5_charge 62 = .ok (.return_, 1) := by decide +kernel
theorem dX5_priceAt_0 : decode cX5_priceAt 0 = .ok (.aload_n 0, 1) := by decide +kernel
theorem dX5_priceAt_1 : decode cX5_priceAt 1 = .ok (.getfield 9, 3) := by decide +kernel
theorem dX5_priceAt_4 : decode cX5_priceAt 4 = .ok (.iload_n 1, 1) := by decide +kernel
theorem dX5_priceAt_5 : decode cX5_priceAt 5 = .ok (.bipush 24, 2) := by decide +kernel
theorem dX5_priceAt_7 : decode cX5_priceAt 7 = .ok (.invokestatic 25, 3) := by decide +kernel
theorem dX5_priceAt_10 : decode cX5_priceAt 10 = .ok (.iaload, 1) := by decide +kernel
theorem dX5_priceAt_11 : decode cX5_priceAt 11 = .ok (.ireturn, 1) := by decide +kernel
theorem dX5_isLowestAt_0 : decode cX5_isLowestAt 0 = .ok (.aload_n 0, 1) := by decide +kernel
theorem dX5_isLowestAt_1 : decode cX5_isLowestAt 1 = .ok (.iload_n 1, 1) := by decide +kernel
theorem dX5_isLowestAt_2 : decode cX5_isLowestAt 2 = .ok (.invokevirtual 28, 3) := by decide +kernel
theorem dX5_isLowestAt_5 : decode cX5_isLowestAt 5 = .ok (.aload_n 0, 1) := by decide +kernel
theorem dX5_isLowestAt_6 : decode cX5_isLowestAt 6 = .ok (.getfield 15, 3) := by decide +kernel
theorem dX5_isLowestAt_9 : decode cX5_isLowestAt 9 = .ok (.if_icmp .ne 7, 3) := by decide +kernel
theorem dX5_isLowestAt_12 : decode cX5_isLowestAt 12 = .ok (.iconst 1, 1) := by decide +kernel
theorem dX5_isLowestAt_13 : decode cX5_isLowestAt 13 = .ok (.goto 4, 3) := by decide +kernel
theorem dX5_isLowestAt_16 : decode cX5_isLowestAt 16 = .ok (.iconst 0, 1) := by decide +kernel
theorem dX5_isLowestAt_17 : decode cX5_isLowestAt 17 = .ok (.ireturn, 1) := by decide +kernel
theorem dX6_init_0 : decode cX6_init 0 = .ok (.aload_n 0, 1) := by decide +kernel
theorem dX6_init_1 : decode cX6_init 1 = .ok (.invokespecial 1, 3) := by decide +kernel
theorem dX6_init_4 : decode cX6_init 4 = .ok (.aload_n 0, 1) := by decide +kernel
theorem dX6_init_5 : decode cX6_init 5 = .ok (.new 7, 3) := by decide +kernel
theorem dX6_init_8 : decode cX6_init 8 = .ok (.dup, 1) := by decide +kernel
theorem dX6_init_9 : decode cX6_init 9 = .ok (.invokespecial 9, 3) := by decide +kernel
theorem dX6_init_12 : decode cX6_init 12 = .ok (.putfield 10, 3) := by decide +kernel
theorem dX6_init_15 : decode cX6_init 15 = .ok (.aload_n 0, 1) := by decide +kernel
theorem dX6_init_16 : decode cX6_init 16 = .ok (.new 16, 3) := by decide +kernel
theorem dX6_init_19 : decode cX6_init 19 = .ok (.dup, 1) := by decide +kernel
theorem dX6_init_20 : decode cX6_init 20 = .ok (.invokespecial 18, 3) := by decide +kernel
theorem dX6_init_23 : decode cX6_init 23 = .ok (.putfield 19, 3) := by decide +kernel
theorem dX6_init_26 : decode cX6_init 26 = .ok (.aload_n 0, 1) := by decide +kernel
theorem dX6_init_27 : decode cX6_init 27 = .ok (.bipush 12, 2) := by decide +kernel
theorem dX6_init_29 : decode cX6_init 29 = .ok (.anewarray 23, 3) := by decide +kernel
theorem dX6_init_32 : decode cX6_init 32 = .ok (.putfield 25, 3) := by decide +kernel
theorem dX6_init_35 : decode cX6_init 35 = .ok (.aload_n 0, 1) := by decide +kernel
theorem dX6_init_36 : decode cX6_init 36 = .ok (.bipush 6, 2) := by decide +kernel
theorem dX6_init_38 : decode cX6_init 38 = .ok (.anewarray 29, 3) := by decide +kernel
theorem dX6_init_41 : decode cX6_init 41 = .ok (.putfield 31, 3) := by decide +kernel
theorem dX6_init_44 : decode cX6_init 44 = .ok (.aload_n 0, 1) := by decide +kernel
theorem dX6_init_45 : decode cX6_init 45 = .ok (.bipush 60, 2) := by decide +kernel
theorem dX6_init_47 : decode cX6_init 47 = .ok (.anewarray 35, 3) := by decide +kernel
theorem dX6_init_50 : decode cX6_init 50 = .ok (.putfield 37, 3) := by decide +kernel
theorem dX6_init_53 : decode cX6_init 53 = .ok (.aload_n 0, 1) := by decide +kernel
theorem dX6_init_54 : decode cX6_init 54 = .ok (.iconst 0, 1) := by decide +kernel
theorem dX6_init_55 : decode cX6_init 55 = .ok (.putfield 41, 3) := by decide +kernel
theorem dX6_init_58 : decode cX6_init 58 = .ok (.aload_n 0, 1) := by decide +kernel
theorem dX6_init_59 : decode cX6_init 59 = .ok (.iconst 0, 1) := by decide +kernel
theorem dX6_init_60 : decode cX6_init 60 = .ok (.putfield 45, 3) := by decide +kernel
theorem dX6_init_63 : decode cX6_init 63 = .ok (.aload_n 0, 1) := by decide +kernel
theorem dX6_init_64 : decode cX6_init 64 = .ok (.iconst 0, 1) := by decide +kernel
theorem dX6_init_65 : decode cX6_init 65 = .ok (.putfield 48, 3) := by decide +kernel
theorem dX6_init_68 : decode cX6_init 68 = .ok (.aload_n 0, 1) := by decide +kernel
theorem dX6_init_69 : decode cX6_init 69 = .ok (.iconst 0, 1) := by decide +kernel
theorem dX6_init_70 : decode cX6_init 70 = .ok (.putfield 51, 3) := by decide +kernel
theorem dX6_init_73 : decode cX6_init 73 = .ok (.aload_n 0, 1) := by decide +kernel
theorem dX6_init_74 : decode cX6_init 74 = .ok (.iconst 0, 1) := by decide +kernel
theorem dX6_init_75 : decode cX6_init 75 = .ok (.putfield 54, 3) := by decide +kernel
theorem dX6_init_78 : decode cX6_init 78 = .ok (.aload_n 0, 1) := by decide +kernel
theorem dX6_init_79 : decode cX6_init 79 = .ok (.lconst 0, 1) := by decide +kernel
theorem dX6_init_80 : decode cX6_init 80 = .ok (.putfield 57, 3) := by decide +kernel
theorem dX6_init_83 : decode cX6_init 83 = .ok (.return_, 1) := by decide +kernel
theorem dX6_setOutside_0 : decode cX6_setOutside 0 = .ok (.iload_n 1, 1) := by decide +kernel
theorem dX6_setOutside_1 : decode cX6_setOutside 1 = .ok (.sipush (-300), 3) := by decide +kernel
theorem dX6_setOutside_4 : decode cX6_setOutside 4 = .ok (.sipush 400, 3) := by decide +kernel
theorem dX6_setOutside_7 : decode cX6_setOutside 7 = .ok (.invokestatic 61, 3) := by decide +kernel
theorem dX6_setOutside_10 : decode cX6_setOutside 10 = .ok (.iload_n 2, 1) := by decide +kernel
theorem dX6_setOutside_11 : decode cX6_setOutside 11 = .ok (.iconst 0, 1) := by decide +kernel
theorem dX6_setOutside_12 : decode cX6_setOutside 12 = .ok (.sipush 200, 3) := by decide +kernel
theorem dX6_setOutside_15 : decode cX6_setOutside 15 = .ok (.invokestatic 61, 3) := by decide +kernel
theorem dX6_setOutside_18 : decode cX6_setOutside 18 = .ok (.aload_n 0, 1) := by decide +kernel
theorem dX6_setOutside_19 : decode cX6_setOutside 19 = .ok (.getfield 10, 3) := by decide +kernel
theorem dX6_setOutside_22 : decode cX6_setOutside 22 = .ok (.iload_n 1, 1) := by decide +kernel
theorem dX6_setOutside_23 : decode cX6_setOutside 23 = .ok (.putfield 65, 3) := by decide +kernel
theorem dX6_setOutside_26 : decode cX6_setOutside 26 = .ok (.aload_n 0, 1) := by decide +kernel
theorem dX6_setOutside_27 : decode cX6_setOutside 27 = .ok (.getfield 10, 3) := by decide +kernel
theorem dX6_setOutside_30 : decode cX6_setOutside 30 = .ok (.iload_n 2, 1) := by decide +kernel
theorem dX6_setOutside_31 : decode cX6_setOutside 31 = .ok (.putfield 68, 3) := by decide +kernel
theorem dX6_setOutside_34 : decode cX6_setOutside 34 = .ok (.aload_n 0, 1) := by decide +kernel
theorem dX6_setOutside_35 : decode cX6_setOutside 35 = .ok (.getfield 10, 3) := by decide +kernel
theorem dX6_setOutside_38 : decode cX6_setOutside 38 = .ok (.aload_n 0, 1) := by decide +kernel
theorem dX6_setOutside_39 : decode cX6_setOutside 39 = .ok (.getfield 54, 3) := by decide +kernel
theorem dX6_setOutside_42 : decode cX6_setOutside 42 = .ok (.invokevirtual 71, 3) := by decide +kernel
theorem dX6_setOutside_45 : decode cX6_setOutside 45 = .ok (.ireturn, 1) := by decide +kernel
theorem dX6_outside_0 : decode cX6_outside 0 = .ok (.iload_n 1, 1) := by decide +kernel
theorem dX6_outside_1 : decode cX6_outside 1 = .ok (.iconst 0, 1) := by decide +kernel
theorem dX6_outside_2 : decode cX6_outside 2 = .ok (.bipush 23, 2) := by decide +kernel
theorem dX6_outside_4 : decode cX6_outside 4 = .ok (.invokestatic 61, 3) := by decide +kernel
theorem dX6_outside_7 : decode cX6_outside 7 = .ok (.aload_n 0, 1) := by decide +kernel
theorem dX6_outside_8 : decode cX6_outside 8 = .ok (.getfield 10, 3) := by decide +kernel
theorem dX6_outside_11 : decode cX6_outside 11 = .ok (.iload_n 1, 1) := by decide +kernel
theorem dX6_outside_12 : decode cX6_outside 12 = .ok (.invokevirtual 71, 3) := by decide +kernel
theorem dX6_outside_15 : decode cX6_outside 15 = .ok (.ireturn, 1) := by decide +kernel
theorem dX6_setPrice_0 : decode cX6_setPrice 0 = .ok (.iload_n 1, 1) := by decide +kernel
theorem dX6_setPrice_1 : decode cX6_setPrice 1 = .ok (.iconst 0, 1) := by decide +kernel
theorem dX6_setPrice_2 : decode cX6_setPrice 2 = .ok (.iload_n 2, 1) := by decide +kernel
theorem dX6_setPrice_3 : decode cX6_setPrice 3 = .ok (.invokestatic 61, 3) := by decide +kernel
theorem dX6_setPrice_6 : decode cX6_setPrice 6 = .ok (.iload_n 2, 1) := by decide +kernel
theorem dX6_setPrice_7 : decode cX6_setPrice 7 = .ok (.iload_n 1, 1) := by decide +kernel
theorem dX6_setPrice_8 : decode cX6_setPrice 8 = .ok (.bipush 23, 2) := by decide +kernel
theorem dX6_setPrice_10 : decode cX6_setPrice 10 = .ok (.invokestatic 61, 3) := by decide +kernel
theorem dX6_setPrice_13 : decode cX6_setPrice 13 = .ok (.iload_n 3, 1) := by decide +kernel
theorem dX6_setPrice_14 : decode cX6_setPrice 14 = .ok (.iconst 1, 1) := by decide +kernel
theorem dX6_setPrice_15 : decode cX6_setPrice 15 = .ok (.bipush 100, 2) := by decide +kernel
theorem dX6_setPrice_17 : decode cX6_setPrice 17 = .ok (.invokestatic 61, 3) := by decide +kernel
theorem dX6_setPrice_20 : decode cX6_setPrice 20 = .ok (.aload_n 0, 1) := by decide +kernel
theorem dX6_setPrice_21 : decode cX6_setPrice 21 = .ok (.getfield 19, 3) := by decide +kernel
theorem dX6_setPrice_24 : decode cX6_setPrice 24 = .ok (.iload_n 1, 1) := by decide +kernel
theorem dX6_setPrice_25 : decode cX6_setPrice 25 = .ok (.iload_n 2, 1) := by decide +kernel
theorem dX6_setPrice_26 : decode cX6_setPrice 26 = .ok (.iload_n 3, 1) := by decide +kernel
theorem dX6_setPrice_27 : decode cX6_setPrice 27 = .ok (.invokevirtual 75, 3) := by decide +kernel
theorem dX6_setPrice_30 : decode cX6_setPrice 30 = .ok (.aload_n 0, 1) := by decide +kernel
theorem dX6_setPrice_31 : decode cX6_setPrice 31 = .ok (.getfield 19, 3) := by decide +kernel
theorem dX6_setPrice_34 : decode cX6_setPrice 34 = .ok (.getfield 78, 3) := by decide +kernel
theorem dX6_setPrice_37 : decode cX6_setPrice 37 = .ok (.ireturn, 1) := by decide +kernel
theorem dX6_addProduct_0 : decode cX6_addProduct 0 = .ok (.iload_n 1, 1) := by decide +kernel
theorem dX6_addProduct_1 : decode cX6_addProduct 1 = .ok (.sipush (-300), 3) := by decide +kernel
theorem dX6_addProduct_4 : decode cX6_addProduct 4 = .ok (.sipush 200, 3) := by decide +kernel
theorem dX6_addProduct_7 : decode cX6_addProduct 7 = .ok (.invokestatic 61, 3) := by decide +kernel
theorem dX6_addProduct_10 : decode cX6_addProduct 10 = .ok (.iload_n 2, 1) := by decide +kernel
theorem dX6_addProduct_11 : decode cX6_addProduct 11 = .ok (.iload_n 1, 1) := by decide +kernel
theorem dX6_addProduct_12 : decode cX6_addProduct 12 = .ok (.sipush 200, 3) := by decide +kernel
theorem dX6_addProduct_15 : decode cX6_addProduct 15 = .ok (.invokestatic 61, 3) := by decide +kernel
theorem dX6_addProduct_18 : decode cX6_addProduct 18 = .ok (.iload_n 3, 1) := by decide +kernel
theorem dX6_addProduct_19 : decode cX6_addProduct 19 = .ok (.bipush 10, 2) := by decide +kernel
theorem dX6_addProduct_21 : decode cX6_addProduct 21 = .ok (.sipush 5000, 3) := by decide +kernel
theorem dX6_addProduct_24 : decode cX6_addProduct 24 = .ok (.invokestatic 61, 3) := by decide +kernel
theorem dX6_addProduct_27 : decode cX6_addProduct 27 = .ok (.iload 4, 2) := by decide +kernel
theorem dX6_addProduct_29 : decode cX6_addProduct 29 = .ok (.iconst 0, 1) := by decide +kernel
theorem dX6_addProduct_30 : decode cX6_addProduct 30 = .ok (.iconst 3, 1) := by decide +kernel
theorem dX6_addProduct_31 : decode cX6_addProduct 31 = .ok (.invokestatic 61, 3) := by decide +kernel
theorem dX6_addProduct_34 : decode cX6_addProduct 34 = .ok (.aload_n 0, 1) := by decide +kernel
theorem dX6_addProduct_35 : decode cX6_addProduct 35 = .ok (.getfield 41, 3) := by decide +kernel
theorem dX6_addProduct_38 : decode cX6_addProduct 38 = .ok (.aload_n 0, 1) := by decide +kernel
theorem dX6_addProduct_39 : decode cX6_addProduct 39 = .ok (.getfield 25, 3) := by decide +kernel
theorem dX6_addProduct_42 : decode cX6_addProduct 42 = .ok (.arraylength, 1) := by decide +kernel
theorem dX6_addProduct_43 : decode cX6_addProduct 43 = .ok (.if_icmp .lt 13, 3) := by decide +kernel
theorem dX6_addProduct_46 : decode cX6_addProduct 46 = .ok (.new 81, 3) := by decide +kernel
theorem dX6_addProduct_49 : decode cX6_addProduct 49 = .ok (.dup, 1) := by decide +kernel
theorem dX6_addProduct_50 : decode cX6_addProduct 50 = .ok (.ldc 83, 2) := by decide +kernel
theorem dX6_addProduct_52 : decode cX6_addProduct 52 = .ok (.invokespecial 85, 3) := by decide +kernel
theorem dX6_addProduct_55 : decode cX6_addProduct 55 = .ok (.athrow, 1) := by decide +kernel
theorem dX6_addProduct_56 : decode cX6_addProduct 56 = .ok (.aload_n 0, 1) := by decide +kernel
theorem dX6_addProduct_57 : decode cX6_addProduct 57 = .ok (.getfield 25, 3) := by decide +kernel
theorem dX6_addProduct_60 : decode cX6_addProduct 60 = .ok (.aload_n 0, 1) := by decide +kernel
theorem dX6_addProduct_61 : decode cX6_addProduct 61 = .ok (.getfield 41, 3) := by decide +kernel
theorem dX6_addProduct_64 : decode cX6_addProduct 64 = .ok (.new 23, 3) := by decide +kernel
theorem dX6_addProduct_67 : decode cX6_addProduct 67 = .ok (.dup, 1) := by decide +kernel
theorem dX6_addProduct_68 : decode cX6_addProduct 68 = .ok (.aload_n 0, 1) := by decide +kernel
theorem dX6_addProduct_69 : decode cX6_addProduct 69 = .ok (.getfield 41, 3) := by decide +kernel
theorem dX6_addProduct_72 : decode cX6_addProduct 72 = .ok (.iload_n 1, 1) := by decide +kernel
theorem dX6_addProduct_73 : decode cX6_addProduct 73 = .ok (.iload_n 2, 1) := by decide +kernel
theorem dX6_addProduct_74 : decode cX6_addProduct 74 = .ok (.iload_n 3, 1) := by decide +kernel
theorem dX6_addProduct_75 : decode cX6_addProduct 75 = .ok (.iload 4, 2) := by decide +kernel
theorem dX6_addProduct_77 : decode cX6_addProduct 77 = .ok (.invokespecial 88, 3) := by decide +kernel
theorem dX6_addProduct_80 : decode cX6_addProduct 80 = .ok (.aastore, 1) := by decide +kernel
theorem dX6_addProduct_81 : decode cX6_addProduct 81 = .ok (.aload_n 0, 1) := by decide +kernel
theorem dX6_addProduct_82 : decode cX6_addProduct 82 = .ok (.dup, 1) := by decide +kernel
theorem dX6_addProduct_83 : decode cX6_addProduct 83 = .ok (.getfield 41, 3) := by decide +kernel
theorem dX6_addProduct_86 : decode cX6_addProduct 86 = .ok (.dup_x1, 1) := by decide +kernel
theorem dX6_addProduct_87 : decode cX6_addProduct 87 = .ok (.iconst 1, 1) := by decide +kernel
theorem dX6_addProduct_88 : decode cX6_addProduct 88 = .ok (.iadd, 1) := by decide +kernel
theorem dX6_addProduct_89 : decode cX6_addProduct 89 = .ok (.putfield 41, 3) := by decide +kernel
theorem dX6_addProduct_92 : decode cX6_addProduct 92 = .ok (.ireturn, 1) := by decide +kernel
theorem dX6_addRoom_0 : decode cX6_addRoom 0 = .ok (.iload_n 1, 1) := by decide +kernel
theorem dX6_addRoom_1 : decode cX6_addRoom 1 = .ok (.iconst 1, 1) := by decide +kernel
theorem dX6_addRoom_2 : decode cX6_addRoom 2 = .ok (.bipush 20, 2) := by decide +kernel
theorem dX6_addRoom_4 : decode cX6_addRoom 4 = .ok (.invokestatic 61, 3) := by decide +kernel
theorem dX6_addRoom_7 : decode cX6_addRoom 7 = .ok (.iload_n 2, 1) := by decide +kernel
theorem dX6_addRoom_8 : decode cX6_addRoom 8 = .ok (.iconst 1, 1) := by decide +kernel
theorem dX6_addRoom_9 : decode cX6_addRoom 9 = .ok (.bipush 20, 2) := by decide +kernel
theorem dX6_addRoom_11 : decode cX6_addRoom 11 = .ok (.invokestatic 61, 3) := by decide +kernel
theorem dX6_addRoom_14 : decode cX6_addRoom 14 = .ok (.iload_n 3, 1) := by decide +kernel
theorem dX6_addRoom_15 : decode cX6_addRoom 15 = .ok (.iconst 0, 1) := by decide +kernel
theorem dX6_addRoom_16 : decode cX6_addRoom 16 = .ok (.sipush 200, 3) := by decide +kernel
theorem dX6_addRoom_19 : decode cX6_addRoom 19 = .ok (.invokestatic 61, 3) := by decide +kernel
theorem dX6_addRoom_22 : decode cX6_addRoom 22 = .ok (.iload 4, 2) := by decide +kernel
theorem dX6_addRoom_24 : decode cX6_addRoom 24 = .ok (.sipush (-300), 3) := by decide +kernel
theorem dX6_addRoom_27 : decode cX6_addRoom 27 = .ok (.sipush 150, 3) := by decide +kernel
theorem dX6_addRoom_30 : decode cX6_addRoom 30 = .ok (.invokestatic 61, 3) := by decide +kernel
theorem dX6_addRoom_33 : decode cX6_addRoom 33 = .ok (.aload_n 0, 1) := by decide +kernel
theorem dX6_addRoom_34 : decode cX6_addRoom 34 = .ok (.getfield 45, 3) := by decide +kernel
theorem dX6_addRoom_37 : decode cX6_addRoom 37 = .ok (.aload_n 0, 1) := by decide +kernel
theorem dX6_addRoom_38 : decode cX6_addRoom 38 = .ok (.getfield 31, 3) := by decide +kernel
theorem dX6_addRoom_41 : decode cX6_addRoom 41 = .ok (.arraylength, 1) := by decide +kernel
theorem dX6_addRoom_42 : decode cX6_addRoom 42 = .ok (.if_icmp .lt 13, 3) := by decide +kernel
theorem dX6_addRoom_45 : decode cX6_addRoom 45 = .ok (.new 81, 3) := by decide +kernel
theorem dX6_addRoom_48 : decode cX6_addRoom 48 = .ok (.dup, 1) := by decide +kernel
theorem dX6_addRoom_49 : decode cX6_addRoom 49 = .ok (.ldc 91, 2) := by decide +kernel
theorem dX6_addRoom_51 : decode cX6_addRoom 51 = .ok (.invokespecial 85, 3) := by decide +kernel
theorem dX6_addRoom_54 : decode cX6_addRoom 54 = .ok (.athrow, 1) := by decide +kernel
theorem dX6_addRoom_55 : decode cX6_addRoom 55 = .ok (.aload_n 0, 1) := by decide +kernel
theorem dX6_addRoom_56 : decode cX6_addRoom 56 = .ok (.getfield 31, 3) := by decide +kernel
theorem dX6_addRoom_59 : decode cX6_addRoom 59 = .ok (.aload_n 0, 1) := by decide +kernel
theorem dX6_addRoom_60 : decode cX6_addRoom 60 = .ok (.getfield 45, 3) := by decide +kernel
theorem dX6_addRoom_63 : decode cX6_addRoom 63 = .ok (.new 29, 3) := by decide +kernel
theorem dX6_addRoom_66 : decode cX6_addRoom 66 = .ok (.dup, 1) := by decide +kernel
theorem dX6_addRoom_67 : decode cX6_addRoom 67 = .ok (.aload_n 0, 1) := by decide +kernel
theorem dX6_addRoom_68 : decode cX6_addRoom 68 = .ok (.getfield 45, 3) := by decide +kernel
theorem dX6_addRoom_71 : decode cX6_addRoom 71 = .ok (.iload_n 1, 1) := by decide +kernel
theorem dX6_addRoom_72 : decode cX6_addRoom 72 = .ok (.iload_n 2, 1) := by decide +kernel
theorem dX6_addRoom_73 : decode cX6_addRoom 73 = .ok (.iload_n 3, 1) := by decide +kernel
theorem dX6_addRoom_74 : decode cX6_addRoom 74 = .ok (.iload 4, 2) := by decide +kernel
theorem dX6_addRoom_76 : decode cX6_addRoom 76 = .ok (.invokespecial 93, 3) := by decide +kernel
theorem dX6_addRoom_79 : decode cX6_addRoom 79 = .ok (.aastore, 1) := by decide +kernel
theorem dX6_addRoom_80 : decode cX6_addRoom 80 = .ok (.aload_n 0, 1) := by decide +kernel
theorem dX6_addRoom_81 : decode cX6_addRoom 81 = .ok (.dup, 1) := by decide +kernel
theorem dX6_addRoom_82 : decode cX6_addRoom 82 = .ok (.getfield 45, 3) := by decide +kernel
theorem dX6_addRoom_85 : decode cX6_addRoom 85 = .ok (.dup_x1, 1) := by decide +kernel
theorem dX6_addRoom_86 : decode cX6_addRoom 86 = .ok (.iconst 1, 1) := by decide +kernel
theorem dX6_addRoom_87 : decode cX6_addRoom 87 = .ok (.iadd, 1) := by decide +kernel
theorem dX6_addRoom_88 : decode cX6_addRoom 88 = .ok (.putfield 45, 3) := by decide +kernel
theorem dX6_addRoom_91 : decode cX6_addRoom 91 = .ok (.ireturn, 1) := by decide +kernel
theorem dX6_setRoom_0 : decode cX6_setRoom 0 = .ok (.aload_n 0, 1) := by decide +kernel
theorem dX6_setRoom_1 : decode cX6_setRoom 1 = .ok (.iload_n 1, 1) := by decide +kernel
theorem dX6_setRoom_2 : decode cX6_setRoom 2 = .ok (.invokevirtual 94, 3) := by decide +kernel
theorem dX6_setRoom_5 : decode cX6_setRoom 5 = .ok (.astore 4, 2) := by decide +kernel
theorem dX6_setRoom_7 : decode cX6_setRoom 7 = .ok (.iload_n 2, 1) := by decide +kernel
theorem dX6_setRoom_8 : decode cX6_setRoom 8 = .ok (.sipush (-300), 3) := by decide +kernel
theorem dX6_setRoom_11 : decode cX6_setRoom 11 = .ok (.sipush 150, 3) := by decide +kernel
theorem dX6_setRoom_14 : decode cX6_setRoom 14 = .ok (.invokestatic 61, 3) := by decide +kernel
theorem dX6_setRoom_17 : decode cX6_setRoom 17 = .ok (.aload 4, 2) := by decide +kernel
theorem dX6_setRoom_19 : decode cX6_setRoom 19 = .ok (.getfield 98, 3) := by decide +kernel
theorem dX6_setRoom_22 : decode cX6_setRoom 22 = .ok (.istore 5, 2) := by decide +kernel
theorem dX6_setRoom_24 : decode cX6_setRoom 24 = .ok (.aload 4, 2) := by decide +kernel
theorem dX6_setRoom_26 : decode cX6_setRoom 26 = .ok (.iload_n 2, 1) := by decide +kernel
theorem dX6_setRoom_27 : decode cX6_setRoom 27 = .ok (.putfield 98, 3) := by decide +kernel
theorem dX6_setRoom_30 : decode cX6_setRoom 30 = .ok (.aload 4, 2) := by decide +kernel
theorem dX6_setRoom_32 : decode cX6_setRoom 32 = .ok (.iload_n 3, 1) := by decide +kernel
theorem dX6_setRoom_33 : decode cX6_setRoom 33 = .ok (.putfield 101, 3) := by decide +kernel
theorem dX6_setRoom_36 : decode cX6_setRoom 36 = .ok (.iload 5, 2) := by decide +kernel
theorem dX6_setRoom_38 : decode cX6_setRoom 38 = .ok (.ireturn, 1) := by decide +kernel
theorem dX6_defrost_0 : decode cX6_defrost 0 = .ok (.aload_n 0, 1) := by decide +kernel
theorem dX6_defrost_1 : decode cX6_defrost 1 = .ok (.iload_n 1, 1) := by decide +kernel
theorem dX6_defrost_2 : decode cX6_defrost 2 = .ok (.invokevirtual 94, 3) := by decide +kernel
theorem dX6_defrost_5 : decode cX6_defrost 5 = .ok (.getfield 105, 3) := by decide +kernel
theorem dX6_defrost_8 : decode cX6_defrost 8 = .ok (.astore_n 2, 1) := by decide +kernel
theorem dX6_defrost_9 : decode cX6_defrost 9 = .ok (.aload_n 2, 1) := by decide +kernel
theorem dX6_defrost_10 : decode cX6_defrost 10 = .ok (.getfield 109, 3) := by decide +kernel
theorem dX6_defrost_13 : decode cX6_defrost 13 = .ok (.iconst 2, 1) := by decide +kernel
theorem dX6_defrost_14 : decode cX6_defrost 14 = .ok (.if_icmp .ne 13, 3) := by decide +kernel
theorem dX6_defrost_17 : decode cX6_defrost 17 = .ok (.new 81, 3) := by decide +kernel
theorem dX6_defrost_20 : decode cX6_defrost 20 = .ok (.dup, 1) := by decide +kernel
theorem dX6_defrost_21 : decode cX6_defrost 21 = .ok (.ldc 114, 2) := by decide +kernel
theorem dX6_defrost_23 : decode cX6_defrost 23 = .ok (.invokespecial 85, 3) := by decide +kernel
theorem dX6_defrost_26 : decode cX6_defrost 26 = .ok (.athrow, 1) := by decide +kernel
theorem dX6_defrost_27 : decode cX6_defrost 27 = .ok (.aload_n 2, 1) := by decide +kernel
theorem dX6_defrost_28 : decode cX6_defrost 28 = .ok (.invokevirtual 116, 3) := by decide +kernel
theorem dX6_defrost_31 : decode cX6_defrost 31 = .ok (.aload_n 2, 1) := by decide +kernel
theorem dX6_defrost_32 : decode cX6_defrost 32 = .ok (.getfield 119, 3) := by decide +kernel
theorem dX6_defrost_35 : decode cX6_defrost 35 = .ok (.ireturn, 1) := by decide +kernel
theorem dX6_room_0 : decode cX6_room 0 = .ok (.aload_n 0, 1) := by decide +kernel
theorem dX6_room_1 : decode cX6_room 1 = .ok (.iload_n 1, 1) := by decide +kernel
theorem dX6_room_2 : decode cX6_room 2 = .ok (.invokevirtual 94, 3) := by decide +kernel
theorem dX6_room_5 : decode cX6_room 5 = .ok (.astore_n 3, 1) := by decide +kernel
theorem dX6_room_6 : decode cX6_room 6 = .ok (.iload_n 2, 1) := by decide +kernel
theorem dX6_room_7 : decode cX6_room 7 = .ok (.bipush 7, 2) := by decide +kernel
theorem dX6_room_9 : decode cX6_room 9 = .ok (.invokestatic 122, 3) := by decide +kernel
theorem dX6_room_12 : decode cX6_room 12 = .ok (.aload_n 3, 1) := by decide +kernel
theorem dX6_room_13 : decode cX6_room 13 = .ok (.iload_n 2, 1) := by decide +kernel
theorem dX6_room_14 : decode cX6_room 14 = .ok (.invokevirtual 126, 3) := by decide +kernel
theorem dX6_room_17 : decode cX6_room 17 = .ok (.ireturn, 1) := by decide +kernel
theorem dX6_reason_0 : decode cX6_reason 0 = .ok (.aload_n 0, 1) := by decide +kernel
theorem dX6_reason_1 : decode cX6_reason 1 = .ok (.iload_n 1, 1) := by decide +kernel
theorem dX6_reason_2 : decode cX6_reason 2 = .ok (.invokevirtual 129, 3) := by decide +kernel
theorem dX6_reason_5 : decode cX6_reason 5 = .ok (.astore_n 3, 1) := by decide +kernel
theorem dX6_reason_6 : decode cX6_reason 6 = .ok (.aload_n 0, 1) := by decide +kernel
theorem dX6_reason_7 : decode cX6_reason 7 = .ok (.iload_n 2, 1) := by decide +kernel
theorem dX6_reason_8 : decode cX6_reason 8 = .ok (.invokevirtual 94, 3) := by decide +kernel
theorem dX6_reason_11 : decode cX6_reason 11 = .ok (.aload_n 3, 1) := by decide +kernel
theorem dX6_reason_12 : decode cX6_reason 12 = .ok (.invokevirtual 133, 3) := by decide +kernel
theorem dX6_reason_15 : decode cX6_reason 15 = .ok (.ireturn, 1) := by decide +kernel
theorem dX6_arrive_0 : decode cX6_arrive 0 = .ok (.aload_n 0, 1) := by decide +kernel
theorem dX6_arrive_1 : decode cX6_arrive 1 = .ok (.iload_n 1, 1) := by decide +kernel
theorem dX6_arrive_2 : decode cX6_arrive 2 = .ok (.invokevirtual 129, 3) := by decide +kernel
theorem dX6_arrive_5 : decode cX6_arrive 5 = .ok (.astore 4, 2) := by decide +kernel
theorem dX6_arrive_7 : decode cX6_arrive 7 = .ok (.aload_n 0, 1) := by decide +kernel
theorem dX6_arrive_8 : decode cX6_arrive 8 = .ok (.iload_n 2, 1) := by decide +kernel
theorem dX6_arrive_9 : decode cX6_arrive 9 = .ok (.invokevirtual 94, 3) := by decide +kernel
theorem dX6_arrive_12 : decode cX6_arrive 12 = .ok (.astore 5, 2) := by decide +kernel
theorem dX6_arrive_14 : decode cX6_arrive 14 = .ok (.iload_n 3, 1) := by decide +kernel
theorem dX6_arrive_15 : decode cX6_arrive 15 = .ok (.sipush (-300), 3) := by decide +kernel
theorem dX6_arrive_18 : decode cX6_arrive 18 = .ok (.sipush 400, 3) := by decide +kernel
theorem dX6_arrive_21 : decode cX6_arrive 21 = .ok (.invokestatic 61, 3) := by decide +kernel
theorem dX6_arrive_24 : decode cX6_arrive 24 = .ok (.aload 5, 2) := by decide +kernel
theorem dX6_arrive_26 : decode cX6_arrive 26 = .ok (.aload 4, 2) := by decide +kernel
theorem dX6_arrive_28 : decode cX6_arrive 28 = .ok (.invokevirtual 137, 3) := by decide +kernel
theorem dX6_arrive_31 : decode cX6_arrive 31 = .ok (.ifCond .eq 15, 3) := by decide +kernel
theorem dX6_arrive_34 : decode cX6_arrive 34 = .ok (.aload_n 0, 1) := by decide +kernel
theorem dX6_arrive_35 : decode cX6_arrive 35 = .ok (.getfield 48, 3) := by decide +kernel
theorem dX6_arrive_38 : decode cX6_arrive 38 = .ok (.aload_n 0, 1) := by decide +kernel
theorem dX6_arrive_39 : decode cX6_arrive 39 = .ok (.getfield 37, 3) := by decide +kernel
theorem dX6_arrive_42 : decode cX6_arrive 42 = .ok (.arraylength, 1) := by decide +kernel
theorem dX6_arrive_43 : decode cX6_arrive 43 = .ok (.if_icmp .lt 13, 3) := by decide +kernel
theorem dX6_arrive_46 : decode cX6_arrive 46 = .ok (.new 81, 3) := by decide +kernel
theorem dX6_arrive_49 : decode cX6_arrive 49 = .ok (.dup, 1) := by decide +kernel
theorem dX6_arrive_50 : decode cX6_arrive 50 = .ok (.ldc 141, 2) := by decide +kernel
theorem dX6_arrive_52 : decode cX6_arrive 52 = .ok (.invokespecial 85, 3) := by decide +kernel
theorem dX6_arrive_55 : decode cX6_arrive 55 = .ok (.athrow, 1) := by decide +kernel
theorem dX6_arrive_56 : decode cX6_arrive 56 = .ok (.new 35, 3) := by decide +kernel
theorem dX6_arrive_59 : decode cX6_arrive 59 = .ok (.dup, 1) := by decide +kernel
theorem dX6_arrive_60 : decode cX6_arrive 60 = .ok (.aload 4, 2) := by decide +kernel
theorem dX6_arrive_62 : decode cX6_arrive 62 = .ok (.iload_n 3, 1) := by decide +kernel
theorem dX6_arrive_63 : decode cX6_arrive 63 = .ok (.invokespecial 143, 3) := by decide +kernel
theorem dX6_arrive_66 : decode cX6_arrive 66 = .ok (.astore 6, 2) := by decide +kernel
theorem dX6_arrive_68 : decode cX6_arrive 68 = .ok (.aload 5, 2) := by decide +kernel
theorem dX6_arrive_70 : decode cX6_arrive 70 = .ok (.aload 6, 2) := by decide +kernel
theorem dX6_arrive_72 : decode cX6_arrive 72 = .ok (.invokevirtual 146, 3) := by decide +kernel
theorem dX6_arrive_75 : decode cX6_arrive 75 = .ok (.aload_n 0, 1) := by decide +kernel
theorem dX6_arrive_76 : decode cX6_arrive 76 = .ok (.getfield 37, 3) := by decide +kernel
theorem dX6_arrive_79 : decode cX6_arrive 79 = .ok (.aload_n 0, 1) := by decide +kernel
theorem dX6_arrive_80 : decode cX6_arrive 80 = .ok (.getfield 48, 3) := by decide +kernel
theorem dX6_arrive_83 : decode cX6_arrive 83 = .ok (.aload 6, 2) := by decide +kernel
theorem dX6_arrive_85 : decode cX6_arrive 85 = .ok (.aastore, 1) := by decide +kernel
theorem dX6_arrive_86 : decode cX6_arrive 86 = .ok (.aload_n 0, 1) := by decide +kernel
theorem dX6_arrive_87 : decode cX6_arrive 87 = .ok (.dup, 1) := by decide +kernel
theorem dX6_arrive_88 : decode cX6_arrive 88 = .ok (.getfield 48, 3) := by decide +kernel
theorem dX6_arrive_91 : decode cX6_arrive 91 = .ok (.dup_x1, 1) := by decide +kernel
theorem dX6_arrive_92 : decode cX6_arrive 92 = .ok (.iconst 1, 1) := by decide +kernel
theorem dX6_arrive_93 : decode cX6_arrive 93 = .ok (.iadd, 1) := by decide +kernel
theorem dX6_arrive_94 : decode cX6_arrive 94 = .ok (.putfield 48, 3) := by decide +kernel
theorem dX6_arrive_97 : decode cX6_arrive 97 = .ok (.ireturn, 1) := by decide +kernel
theorem dX6_move_0 : decode cX6_move 0 = .ok (.aload_n 0, 1) := by decide +kernel
theorem dX6_move_1 : decode cX6_move 1 = .ok (.iload_n 1, 1) := by decide +kernel
theorem dX6_move_2 : decode cX6_move 2 = .ok (.invokevirtual 150, 3) := by decide +kernel
theorem dX6_move_5 : decode cX6_move 5 = .ok (.astore_n 3, 1) := by decide +kernel
theorem dX6_move_6 : decode cX6_move 6 = .ok (.aload_n 0, 1) := by decide +kernel
theorem dX6_move_7 : decode cX6_move 7 = .ok (.iload_n 2, 1) := by decide +kernel
theorem dX6_move_8 : decode cX6_move 8 = .ok (.invokevirtual 94, 3) := by decide +kernel
theorem dX6_move_11 : decode cX6_move 11 = .ok (.astore 4, 2) := by decide +kernel
theorem dX6_move_13 : decode cX6_move 13 = .ok (.aload_n 3, 1) := by decide +kernel
theorem dX6_move_14 : decode cX6_move 14 = .ok (.getfield 154, 3) := by decide +kernel
theorem dX6_move_17 : decode cX6_move 17 = .ok (.astore 5, 2) := by decide +kernel
theorem dX6_move_19 : decode cX6_move 19 = .ok (.aload 5, 2) := by decide +kernel
theorem dX6_move_21 : decode cX6_move 21 = .ok (.ifnull 22, 3) := by decide +kernel
theorem dX6_move_24 : decode cX6_move 24 = .ok (.aload 5, 2) := by decide +kernel
theorem dX6_move_26 : decode cX6_move 26 = .ok (.aload 4, 2) := by decide +kernel
theorem dX6_move_28 : decode cX6_move 28 = .ok (.if_acmp .eq 15, 3) := by decide +kernel
theorem dX6_move_31 : decode cX6_move 31 = .ok (.aload 4, 2) := by decide +kernel
theorem dX6_move_33 : decode cX6_move 33 = .ok (.aload_n 3, 1) := by decide +kernel
theorem dX6_move_34 : decode cX6_move 34 = .ok (.getfield 158, 3) := by decide +kernel
theorem dX6_move_37 : decode cX6_move 37 = .ok (.invokevirtual 137, 3) := by decide +kernel
theorem dX6_move_40 : decode cX6_move 40 = .ok (.ifCond .ne 13, 3) := by decide +kernel
theorem dX6_move_43 : decode cX6_move 43 = .ok (.new 81, 3) := by decide +kernel
theorem dX6_move_46 : decode cX6_move 46 = .ok (.dup, 1) := by decide +kernel
theorem dX6_move_47 : decode cX6_move 47 = .ok (.ldc 162, 2) := by decide +kernel
theorem dX6_move_49 : decode cX6_move 49 = .ok (.invokespecial 85, 3) := by decide +kernel
theorem dX6_move_52 : decode cX6_move 52 = .ok (.athrow, 1) := by decide +kernel
theorem dX6_move_53 : decode cX6_move 53 = .ok (.aload 5, 2) := by decide +kernel
theorem dX6_move_55 : decode cX6_move 55 = .ok (.aload_n 3, 1) := by decide +kernel
theorem dX6_move_56 : decode cX6_move 56 = .ok (.invokevirtual 164, 3) := by decide +kernel
theorem dX6_move_59 : decode cX6_move 59 = .ok (.aload 4, 2) := by decide +kernel
theorem dX6_move_61 : decode cX6_move 61 = .ok (.aload_n 3, 1) := by decide +kernel
theorem dX6_move_62 : decode cX6_move 62 = .ok (.invokevirtual 146, 3) := by decide +kernel
theorem dX6_move_65 : decode cX6_move 65 = .ok (.aload 5, 2) := by decide +kernel
theorem dX6_move_67 : decode cX6_move 67 = .ok (.getfield 167, 3) := by decide +kernel
theorem dX6_move_70 : decode cX6_move 70 = .ok (.ireturn, 1) := by decide +kernel
theorem dX6_pallet_0 : decode cX6_pallet 0 = .ok (.aload_n 0, 1) := by decide +kernel
theorem dX6_pallet_1 : decode cX6_pallet 1 = .ok (.iload_n 1, 1) := by decide +kernel
theorem dX6_pallet_2 : decode cX6_pallet 2 = .ok (.invokevirtual 150, 3) := by decide +kernel
theorem dX6_pallet_5 : decode cX6_pallet 5 = .ok (.astore_n 3, 1) := by decide +kernel
theorem dX6_pallet_6 : decode cX6_pallet 6 = .ok (.iload_n 2, 1) := by decide +kernel
theorem dX6_pallet_7 : decode cX6_pallet 7 = .ok (.iconst 5, 1) := by decide +kernel
theorem dX6_pallet_8 : decode cX6_pallet 8 = .ok (.invokestatic 122, 3) := by decide +kernel
theorem dX6_pallet_11 : decode cX6_pallet 11 = .ok (.aload_n 3, 1) := by decide +kernel
theorem dX6_pallet_12 : decode cX6_pallet 12 = .ok (.iload_n 2, 1) := by decide +kernel
theorem dX6_pallet_13 : decode cX6_pallet 13 = .ok (.invokevirtual 170, 3) := by decide +kernel
theorem dX6_pallet_16 : decode cX6_pallet 16 = .ok (.ireturn, 1) := by decide +kernel
theorem dX6_bestRoom_0 : decode cX6_bestRoom 0 = .ok (.aload_n 0, 1) := by decide +kernel
theorem dX6_bestRoom_1 : decode cX6_bestRoom 1 = .ok (.iload_n 1, 1) := by decide +kernel
theorem dX6_bestRoom_2 : decode cX6_bestRoom 2 = .ok (.invokevirtual 129, 3) := by decide +kernel
theorem dX6_bestRoom_5 : decode cX6_bestRoom 5 = .ok (.astore_n 2, 1) := by decide +kernel
theorem dX6_bestRoom_6 : decode cX6_bestRoom 6 = .ok (.aconst_null, 1) := by decide +kernel
theorem dX6_bestRoom_7 : decode cX6_bestRoom 7 = .ok (.astore_n 3, 1) := by decide +kernel
theorem dX6_bestRoom_8 : decode cX6_bestRoom 8 = .ok (.aload_n 0, 1) := by decide +kernel
theorem dX6_bestRoom_9 : decode cX6_bestRoom 9 = .ok (.getfield 31, 3) := by decide +kernel
theorem dX6_bestRoom_12 : decode cX6_bestRoom 12 = .ok (.astore 4, 2) := by decide +kernel
theorem dX6_bestRoom_14 : decode cX6_bestRoom 14 = .ok (.aload 4, 2) := by decide +kernel
theorem dX6_bestRoom_16 : decode cX6_bestRoom 16 = .ok (.arraylength, 1) := by decide +kernel
theorem dX6_bestRoom_17 : decode cX6_bestRoom 17 = .ok (.istore 5, 2) := by decide +kernel
theorem dX6_bestRoom_19 : decode cX6_bestRoom 19 = .ok (.iconst 0, 1) := by decide +kernel
theorem dX6_bestRoom_20 : decode cX6_bestRoom 20 = .ok (.istore 6, 2) := by decide +kernel
theorem dX6_bestRoom_22 : decode cX6_bestRoom 22 = .ok (.iload 6, 2) := by decide +kernel
theorem dX6_bestRoom_24 : decode cX6_bestRoom 24 = .ok (.iload 5, 2) := by decide +kernel
theorem dX6_bestRoom_26 : decode cX6_bestRoom 26 = .ok (.if_icmp .ge 47, 3) := by decide +kernel
theorem dX6_bestRoom_29 : decode cX6_bestRoom 29 = .ok (.aload 4, 2) := by decide +kernel
theorem dX6_bestRoom_31 : decode cX6_bestRoom 31 = .ok (.iload 6, 2) := by decide +kernel
theorem dX6_bestRoom_33 : decode cX6_bestRoom 33 = .ok (.aaload, 1) := by decide +kernel
theorem dX6_bestRoom_34 : decode cX6_bestRoom 34 = .ok (.astore 7, 2) := by decide +kernel
theorem dX6_bestRoom_36 : decode cX6_bestRoom 36 = .ok (.aload 7, 2) := by decide +kernel
theorem dX6_bestRoom_38 : decode cX6_bestRoom 38 = .ok (.ifnull 29, 3) := by decide +kernel
theorem dX6_bestRoom_41 : decode cX6_bestRoom 41 = .ok (.aload 7, 2) := by decide +kernel
theorem dX6_bestRoom_43 : decode cX6_bestRoom 43 = .ok (.aload_n 2, 1) := by decide +kernel
theorem dX6_bestRoom_44 : decode cX6_bestRoom 44 = .ok (.invokevirtual 137, 3) := by decide +kernel
theorem dX6_bestRoom_47 : decode cX6_bestRoom 47 = .ok (.ifCond .eq 20, 3) := by decide +kernel
theorem dX6_bestRoom_50 : decode cX6_bestRoom 50 = .ok (.aload_n 3, 1) := by decide +kernel
theorem dX6_bestRoom_51 : decode cX6_bestRoom 51 = .ok (.ifnull 13, 3) := by decide +kernel
theorem dX6_bestRoom_54 : decode cX6_bestRoom 54 = .ok (.aload 7, 2) := by decide +kernel
theorem dX6_bestRoom_56 : decode cX6_bestRoom 56 = .ok (.aload_n 2, 1) := by decide +kernel
theorem dX6_bestRoom_57 : decode cX6_bestRoom 57 = .ok (.aload_n 3, 1) := by decide +kernel
theorem dX6_bestRoom_58 : decode cX6_bestRoom 58 = .ok (.invokevirtual 171, 3) := by decide +kernel
theorem dX6_bestRoom_61 : decode cX6_bestRoom 61 = .ok (.ifCond .eq 6, 3) := by decide +kernel
theorem dX6_bestRoom_64 : decode cX6_bestRoom 64 = .ok (.aload 7, 2) := by decide +kernel
theorem dX6_bestRoom_66 : decode cX6_bestRoom 66 = .ok (.astore_n 3, 1) := by decide +kernel
theorem dX6_bestRoom_67 : decode cX6_bestRoom 67 = .ok (.iinc 6 1, 3) := by decide +kernel
theorem dX6_bestRoom_70 : decode cX6_bestRoom 70 = .ok (.goto (-48), 3) := by decide +kernel
theorem dX6_bestRoom_73 : decode cX6_bestRoom 73 = .ok (.aload_n 3, 1) := by decide +kernel
theorem dX6_bestRoom_74 : decode cX6_bestRoom 74 = .ok (.ifnonnull 7, 3) := by decide +kernel
theorem dX6_bestRoom_77 : decode cX6_bestRoom 77 = .ok (.iconst (-1), 1) := by decide +kernel
theorem dX6_bestRoom_78 : decode cX6_bestRoom 78 = .ok (.goto 7, 3) := by decide +kernel
theorem dX6_bestRoom_81 : decode cX6_bestRoom 81 = .ok (.aload_n 3, 1) := by decide +kernel
theorem dX6_bestRoom_82 : decode cX6_bestRoom 82 = .ok (.getfield 167, 3) := by decide +kernel
theorem dX6_bestRoom_85 : decode cX6_bestRoom 85 = .ok (.ireturn, 1) := by decide +kernel
theorem dX6_ship_0 : decode cX6_ship 0 = .ok (.aload_n 0, 1) := by decide +kernel
theorem dX6_ship_1 : decode cX6_ship 1 = .ok (.iload_n 1, 1) := by decide +kernel
theorem dX6_ship_2 : decode cX6_ship 2 = .ok (.invokevirtual 129, 3) := by decide +kernel
theorem dX6_ship_5 : decode cX6_ship 5 = .ok (.astore 4, 2) := by decide +kernel
theorem dX6_ship_7 : decode cX6_ship 7 = .ok (.iload_n 2, 1) := by decide +kernel
theorem dX6_ship_8 : decode cX6_ship 8 = .ok (.iconst 1, 1) := by decide +kernel
theorem dX6_ship_9 : decode cX6_ship 9 = .ok (.bipush 60, 2) := by decide +kernel
theorem dX6_ship_11 : decode cX6_ship 11 = .ok (.invokestatic 61, 3) := by decide +kernel
theorem dX6_ship_14 : decode cX6_ship 14 = .ok (.iload_n 3, 1) := by decide +kernel
theorem dX6_ship_15 : decode cX6_ship 15 = .ok (.iconst 0, 1) := by decide +kernel
theorem dX6_ship_16 : decode cX6_ship 16 = .ok (.ldc 177, 2) := by decide +kernel
theorem dX6_ship_18 : decode cX6_ship 18 = .ok (.invokestatic 61, 3) := by decide +kernel
theorem dX6_ship_21 : decode cX6_ship 21 = .ok (.iconst 0, 1) := by decide +kernel
theorem dX6_ship_22 : decode cX6_ship 22 = .ok (.istore 5, 2) := by decide +kernel
theorem dX6_ship_24 : decode cX6_ship 24 = .ok (.aload_n 0, 1) := by decide +kernel
theorem dX6_ship_25 : decode cX6_ship 25 = .ok (.aload 4, 2) := by decide +kernel
theorem dX6_ship_27 : decode cX6_ship 27 = .ok (.iload_n 3, 1) := by decide +kernel
theorem dX6_ship_28 : decode cX6_ship 28 = .ok (.invokevirtual 178, 3) := by decide +kernel
theorem dX6_ship_31 : decode cX6_ship 31 = .ok (.astore 6, 2) := by decide +kernel
theorem dX6_ship_33 : decode cX6_ship 33 = .ok (.iload 5, 2) := by decide +kernel
theorem dX6_ship_35 : decode cX6_ship 35 = .ok (.iload_n 2, 1) := by decide +kernel
theorem dX6_ship_36 : decode cX6_ship 36 = .ok (.if_icmp .ge 28, 3) := by decide +kernel
theorem dX6_ship_39 : decode cX6_ship 39 = .ok (.aload 6, 2) := by decide +kernel
theorem dX6_ship_41 : decode cX6_ship 41 = .ok (.ifnull 23, 3) := by decide +kernel
theorem dX6_ship_44 : decode cX6_ship 44 = .ok (.aload 6, 2) := by decide +kernel
theorem dX6_ship_46 : decode cX6_ship 46 = .ok (.invokestatic 182, 3) := by decide +kernel
theorem dX6_ship_49 : decode cX6_ship 49 = .ok (.iinc 5 1, 3) := by decide +kernel
theorem dX6_ship_52 : decode cX6_ship 52 = .ok (.aload_n 0, 1) := by decide +kernel
theorem dX6_ship_53 : decode cX6_ship 53 = .ok (.aload 4, 2) := by decide +kernel
theorem dX6_ship_55 : decode cX6_ship 55 = .ok (.iload_n 3, 1) := by decide +kernel
theorem dX6_ship_56 : decode cX6_ship 56 = .ok (.invokevirtual 178, 3) := by decide +kernel
theorem dX6_ship_59 : decode cX6_ship 59 = .ok (.astore 6, 2) := by decide +kernel
theorem dX6_ship_61 : decode cX6_ship 61 = .ok (.goto (-28), 3) := by decide +kernel
theorem dX6_ship_64 : decode cX6_ship 64 = .ok (.aload_n 0, 1) := by decide +kernel
theorem dX6_ship_65 : decode cX6_ship 65 = .ok (.dup, 1) := by decide +kernel
theorem dX6_ship_66 : decode cX6_ship 66 = .ok (.getfield 51, 3) := by decide +kernel
theorem dX6_ship_69 : decode cX6_ship 69 = .ok (.iload 5, 2) := by decide +kernel
theorem dX6_ship_71 : decode cX6_ship 71 = .ok (.iadd, 1) := by decide +kernel
theorem dX6_ship_72 : decode cX6_ship 72 = .ok (.putfield 51, 3) := by decide +kernel
theorem dX6_ship_75 : decode cX6_ship 75 = .ok (.iload 5, 2) := by decide +kernel
theorem dX6_ship_77 : decode cX6_ship 77 = .ok (.ireturn, 1) := by decide +kernel
theorem dX6_clear_0 : decode cX6_clear 0 = .ok (.iconst 0, 1) := by decide +kernel
theorem dX6_clear_1 : decode cX6_clear 1 = .ok (.istore_n 1, 1) := by decide +kernel
theorem dX6_clear_2 : decode cX6_clear 2 = .ok (.aload_n 0, 1) := by decide +kernel
theorem dX6_clear_3 : decode cX6_clear 3 = .ok (.getfield 37, 3) := by decide +kernel
theorem dX6_clear_6 : decode cX6_clear 6 = .ok (.astore_n 2, 1) := by decide +kernel
theorem dX6_clear_7 : decode cX6_clear 7 = .ok (.aload_n 2, 1) := by decide +kernel
theorem dX6_clear_8 : decode cX6_clear 8 = .ok (.arraylength, 1) := by decide +kernel
theorem dX6_clear_9 : decode cX6_clear 9 = .ok (.istore_n 3, 1) := by decide +kernel
theorem dX6_clear_10 : decode cX6_clear 10 = .ok (.iconst 0, 1) := by decide +kernel
theorem dX6_clear_11 : decode cX6_clear 11 = .ok (.istore 4, 2) := by decide +kernel
theorem dX6_clear_13 : decode cX6_clear 13 = .ok (.iload 4, 2) := by decide +kernel
theorem dX6_clear_15 : decode cX6_clear 15 = .ok (.iload_n 3, 1) := by decide +kernel
theorem dX6_clear_16 : decode cX6_clear 16 = .ok (.if_icmp .ge 44, 3) := by decide +kernel
theorem dX6_clear_19 : decode cX6_clear 19 = .ok (.aload_n 2, 1) := by decide +kernel
theorem dX6_clear_20 : decode cX6_clear 20 = .ok (.iload 4, 2) := by decide +kernel
theorem dX6_clear_22 : decode cX6_clear 22 = .ok (.aaload, 1) := by decide +kernel
theorem dX6_clear_23 : decode cX6_clear 23 = .ok (.astore 5, 2) := by decide +kernel
theorem dX6_clear_25 : decode cX6_clear 25 = .ok (.aload 5, 2) := by decide +kernel
theorem dX6_clear_27 : decode cX6_clear 27 = .ok (.ifnull 27, 3) := by decide +kernel
theorem dX6_clear_30 : decode cX6_clear 30 = .ok (.aload 5, 2) := by decide +kernel
theorem dX6_clear_32 : decode cX6_clear 32 = .ok (.invokevirtual 185, 3) := by decide +kernel
theorem dX6_clear_35 : decode cX6_clear 35 = .ok (.ifCond .eq 19, 3) := by decide +kernel
theorem dX6_clear_38 : decode cX6_clear 38 = .ok (.aload 5, 2) := by decide +kernel
theorem dX6_clear_40 : decode cX6_clear 40 = .ok (.invokevirtual 189, 3) := by decide +kernel
theorem dX6_clear_43 : decode cX6_clear 43 = .ok (.ifCond .eq 11, 3) := by decide +kernel
theorem dX6_clear_46 : decode cX6_clear 46 = .ok (.aload 5, 2) := by decide +kernel
theorem dX6_clear_48 : decode cX6_clear 48 = .ok (.invokestatic 182, 3) := by decide +kernel
theorem dX6_clear_51 : decode cX6_clear 51 = .ok (.iinc 1 1, 3) := by decide +kernel
theorem dX6_clear_54 : decode cX6_clear 54 = .ok (.iinc 4 1, 3) := by decide +kernel
theorem dX6_clear_57 : decode cX6_clear 57 = .ok (.goto (-44), 3) := by decide +kernel
theorem dX6_clear_60 : decode cX6_clear 60 = .ok (.iload_n 1, 1) := by decide +kernel
theorem dX6_clear_61 : decode cX6_clear 61 = .ok (.ireturn, 1) := by decide +kernel
theorem dX6_stock_0 : decode cX6_stock 0 = .ok (.aload_n 0, 1) := by decide +kernel
theorem dX6_stock_1 : decode cX6_stock 1 = .ok (.iload_n 1, 1) := by decide +kernel
theorem dX6_stock_2 : decode cX6_stock 2 = .ok (.invokevirtual 129, 3) := by decide +kernel
theorem dX6_stock_5 : decode cX6_stock 5 = .ok (.astore_n 3, 1) := by decide +kernel
theorem dX6_stock_6 : decode cX6_stock 6 = .ok (.iconst 0, 1) := by decide +kernel
theorem dX6_stock_7 : decode cX6_stock 7 = .ok (.istore 4, 2) := by decide +kernel
theorem dX6_stock_9 : decode cX6_stock 9 = .ok (.aload_n 0, 1) := by decide +kernel
theorem dX6_stock_10 : decode cX6_stock 10 = .ok (.getfield 37, 3) := by decide +kernel
theorem dX6_stock_13 : decode cX6_stock 13 = .ok (.astore 5, 2) := by decide +kernel
theorem dX6_stock_15 : decode cX6_stock 15 = .ok (.aload 5, 2) := by decide +kernel
theorem dX6_stock_17 : decode cX6_stock 17 = .ok (.arraylength, 1) := by decide +kernel
theorem dX6_stock_18 : decode cX6_stock 18 = .ok (.istore 6, 2) := by decide +kernel
theorem dX6_stock_20 : decode cX6_stock 20 = .ok (.iconst 0, 1) := by decide +kernel
theorem dX6_stock_21 : decode cX6_stock 21 = .ok (.istore 7, 2) := by decide +kernel
theorem dX6_stock_23 : decode cX6_stock 23 = .ok (.iload 7, 2) := by decide +kernel
theorem dX6_stock_25 : decode cX6_stock 25 = .ok (.iload 6, 2) := by decide +kernel
theorem dX6_stock_27 : decode cX6_stock 27 = .ok (.if_icmp .ge 42, 3) := by decide +kernel
theorem dX6_stock_30 : decode cX6_stock 30 = .ok (.aload 5, 2) := by decide +kernel
theorem dX6_stock_32 : decode cX6_stock 32 = .ok (.iload 7, 2) := by decide +kernel
theorem dX6_stock_34 : decode cX6_stock 34 = .ok (.aaload, 1) := by decide +kernel
theorem dX6_stock_35 : decode cX6_stock 35 = .ok (.astore 8, 2) := by decide +kernel
theorem dX6_stock_37 : decode cX6_stock 37 = .ok (.aload 8, 2) := by decide +kernel
theorem dX6_stock_39 : decode cX6_stock 39 = .ok (.ifnull 24, 3) := by decide +kernel
theorem dX6_stock_42 : decode cX6_stock 42 = .ok (.aload 8, 2) := by decide +kernel
theorem dX6_stock_44 : decode cX6_stock 44 = .ok (.aload_n 3, 1) := by decide +kernel
theorem dX6_stock_45 : decode cX6_stock 45 = .ok (.invokevirtual 192, 3) := by decide +kernel
theorem dX6_stock_48 : decode cX6_stock 48 = .ok (.ifCond .eq 15, 3) := by decide +kernel
theorem dX6_stock_51 : decode cX6_stock 51 = .ok (.aload 8, 2) := by decide +kernel
theorem dX6_stock_53 : decode cX6_stock 53 = .ok (.invokevirtual 189, 3) := by decide +kernel
theorem dX6_stock_56 : decode cX6_stock 56 = .ok (.iload_n 2, 1) := by decide +kernel
theorem dX6_stock_57 : decode cX6_stock 57 = .ok (.if_icmp .ne 6, 3) := by decide +kernel
theorem dX6_stock_60 : decode cX6_stock 60 = .ok (.iinc 4 1, 3) := by decide +kernel
theorem dX6_stock_63 : decode cX6_stock 63 = .ok (.iinc 7 1, 3) := by decide +kernel
theorem dX6_stock_66 : decode cX6_stock 66 = .ok (.goto (-43), 3) := by decide +kernel
theorem dX6_stock_69 : decode cX6_stock 69 = .ok (.iload 4, 2) := by decide +kernel
theorem dX6_stock_71 : decode cX6_stock 71 = .ok (.ireturn, 1) := by decide +kernel
theorem dX6_count_0 : decode cX6_count 0 = .ok (.iload_n 1, 1) := by decide +kernel
theorem dX6_count_1 : decode cX6_count 1 = .ok (.iconst 5, 1) := by decide +kernel
theorem dX6_count_2 : decode cX6_count 2 = .ok (.invokestatic 122, 3) := by decide +kernel
theorem dX6_count_5 : decode cX6_count 5 = .ok (.aload_n 0, 1) := by decide +kernel
theorem dX6_count_6 : decode cX6_count 6 = .ok (.iload_n 1, 1) := by decide +kernel
theorem dX6_count_7 : decode cX6_count 7 = .ok (.invokevirtual 195, 3) := by decide +kernel
theorem dX6_count_10 : decode cX6_count 10 = .ok (.ireturn, 1) := by decide +kernel
theorem dX6_tick_0 : decode cX6_tick 0 = .ok (.iload_n 1, 1) := by decide +kernel
theorem dX6_tick_1 : decode cX6_tick 1 = .ok (.iconst 1, 1) := by decide +kernel
theorem dX6_tick_2 : decode cX6_tick 2 = .ok (.sipush 200, 3) := by decide +kernel
theorem dX6_tick_5 : decode cX6_tick 5 = .ok (.sipush 2000, 3) := by decide +kernel
theorem dX6_tick_8 : decode cX6_tick 8 = .ok (.aload_n 0, 1) := by decide +kernel
theorem dX6_tick_9 : decode cX6_tick 9 = .ok (.getfield 54, 3) := by decide +kernel
theorem dX6_tick_12 : decode cX6_tick 12 = .ok (.isub, 1) := by decide +kernel
theorem dX6_tick_13 : decode cX6_tick 13 = .ok (.invokestatic 198, 3) := by decide +kernel
theorem dX6_tick_16 : decode cX6_tick 16 = .ok (.invokestatic 61, 3) := by decide +kernel
theorem dX6_tick_19 : decode cX6_tick 19 = .ok (.aload_n 0, 1) := by decide +kernel
theorem dX6_tick_20 : decode cX6_tick 20 = .ok (.invokevirtual 204, 3) := by decide +kernel
theorem dX6_tick_23 : decode cX6_tick 23 = .ok (.istore_n 2, 1) := by decide +kernel
theorem dX6_tick_24 : decode cX6_tick 24 = .ok (.iconst 0, 1) := by decide +kernel
theorem dX6_tick_25 : decode cX6_tick 25 = .ok (.istore_n 3, 1) := by decide +kernel
theorem dX6_tick_26 : decode cX6_tick 26 = .ok (.iload_n 3, 1) := by decide +kernel
theorem dX6_tick_27 : decode cX6_tick 27 = .ok (.iload_n 1, 1) := by decide +kernel
theorem dX6_tick_28 : decode cX6_tick 28 = .ok (.if_icmp .ge 13, 3) := by decide +kernel
theorem dX6_tick_31 : decode cX6_tick 31 = .ok (.aload_n 0, 1) := by decide +kernel
theorem dX6_tick_32 : decode cX6_tick 32 = .ok (.invokevirtual 208, 3) := by decide +kernel
theorem dX6_tick_35 : decode cX6_tick 35 = .ok (.iinc 3 1, 3) := by decide +kernel
theorem dX6_tick_38 : decode cX6_tick 38 = .ok (.goto (-12), 3) := by decide +kernel
theorem dX6_tick_41 : decode cX6_tick 41 = .ok (.aload_n 0, 1) := by decide +kernel
theorem dX6_tick_42 : decode cX6_tick 42 = .ok (.invokevirtual 204, 3) := by decide +kernel
theorem dX6_tick_45 : decode cX6_tick 45 = .ok (.iload_n 2, 1) := by decide +kernel
theorem dX6_tick_46 : decode cX6_tick 46 = .ok (.isub, 1) := by decide +kernel
theorem dX6_tick_47 : decode cX6_tick 47 = .ok (.ireturn, 1) := by decide +kernel
theorem dX6_foretell_0 : decode cX6_foretell 0 = .ok (.aload_n 0, 1) := by decide +kernel
theorem dX6_foretell_1 : decode cX6_foretell 1 = .ok (.iload_n 1, 1) := by decide +kernel
theorem dX6_foretell_2 : decode cX6_foretell 2 = .ok (.invokevirtual 94, 3) := by decide +kernel
theorem dX6_foretell_5 : decode cX6_foretell 5 = .ok (.astore_n 3, 1) := by decide +kernel
theorem dX6_foretell_6 : decode cX6_foretell 6 = .ok (.iload_n 2, 1) := by decide +kernel
theorem dX6_foretell_7 : decode cX6_foretell 7 = .ok (.iconst 0, 1) := by decide +kernel
theorem dX6_foretell_8 : decode cX6_foretell 8 = .ok (.bipush 100, 2) := by decide +kernel
theorem dX6_foretell_10 : decode cX6_foretell 10 = .ok (.invokestatic 61, 3) := by decide +kernel
theorem dX6_foretell_13 : decode cX6_foretell 13 = .ok (.aload_n 3, 1) := by decide +kernel
theorem dX6_foretell_14 : decode cX6_foretell 14 = .ok (.invokevirtual 211, 3) := by decide +kernel
theorem dX6_foretell_17 : decode cX6_foretell 17 = .ok (.iconst 0, 1) := by decide +kernel
theorem dX6_foretell_18 : decode cX6_foretell 18 = .ok (.istore 4, 2) := by decide +kernel
theorem dX6_foretell_20 : decode cX6_foretell 20 = .ok (.iload 4, 2) := by decide +kernel
theorem dX6_foretell_22 : decode cX6_foretell 22 = .ok (.iload_n 2, 1) := by decide +kernel
theorem dX6_foretell_23 : decode cX6_foretell 23 = .ok (.if_icmp .ge 22, 3) := by decide +kernel
theorem dX6_foretell_26 : decode cX6_foretell 26 = .ok (.aload_n 0, 1) := by decide +kernel
theorem dX6_foretell_27 : decode cX6_foretell 27 = .ok (.aload_n 3, 1) := by decide +kernel
theorem dX6_foretell_28 : decode cX6_foretell 28 = .ok (.aload_n 0, 1) := by decide +kernel
theorem dX6_foretell_29 : decode cX6_foretell 29 = .ok (.getfield 54, 3) := by decide +kernel
theorem dX6_foretell_32 : decode cX6_foretell 32 = .ok (.iload 4, 2) := by decide +kernel
theorem dX6_foretell_34 : decode cX6_foretell 34 = .ok (.iadd, 1) := by decide +kernel
theorem dX6_foretell_35 : decode cX6_foretell 35 = .ok (.invokevirtual 214, 3) := by decide +kernel
theorem dX6_foretell_38 : decode cX6_foretell 38 = .ok (.pop, 1) := by decide +kernel
theorem dX6_foretell_39 : decode cX6_foretell 39 = .ok (.iinc 4 1, 3) := by decide +kernel
theorem dX6_foretell_42 : decode cX6_foretell 42 = .ok (.goto (-22), 3) := by decide +kernel
theorem dX6_foretell_45 : decode cX6_foretell 45 = .ok (.aload_n 3, 1) := by decide +kernel
theorem dX6_foretell_46 : decode cX6_foretell 46 = .ok (.getfield 218, 3) := by decide +kernel
theorem dX6_foretell_49 : decode cX6_foretell 49 = .ok (.istore 4, 2) := by decide +kernel
theorem dX6_foretell_51 : decode cX6_foretell 51 = .ok (.aload_n 3, 1) := by decide +kernel
theorem dX6_foretell_52 : decode cX6_foretell 52 = .ok (.invokevirtual 221, 3) := by decide +kernel
theorem dX6_foretell_55 : decode cX6_foretell 55 = .ok (.iload 4, 2) := by decide +kernel
theorem dX6_foretell_57 : decode cX6_foretell 57 = .ok (.ireturn, 1) := by decide +kernel
theorem dX6_lasts_0 : decode cX6_lasts 0 = .ok (.aload_n 0, 1) := by decide +kernel
theorem dX6_lasts_1 : decode cX6_lasts 1 = .ok (.iload_n 1, 1) := by decide +kernel
theorem dX6_lasts_2 : decode cX6_lasts 2 = .ok (.invokevirtual 150, 3) := by decide +kernel
theorem dX6_lasts_5 : decode cX6_lasts 5 = .ok (.astore_n 2, 1) := by decide +kernel
theorem dX6_lasts_6 : decode cX6_lasts 6 = .ok (.aload_n 2, 1) := by decide +kernel
theorem dX6_lasts_7 : decode cX6_lasts 7 = .ok (.getfield 154, 3) := by decide +kernel
theorem dX6_lasts_10 : decode cX6_lasts 10 = .ok (.astore_n 3, 1) := by decide +kernel
theorem dX6_lasts_11 : decode cX6_lasts 11 = .ok (.aload_n 3, 1) := by decide +kernel
theorem dX6_lasts_12 : decode cX6_lasts 12 = .ok (.ifnonnull 13, 3) := by decide +kernel
theorem dX6_lasts_15 : decode cX6_lasts 15 = .ok (.new 81, 3) := by decide +kernel
theorem dX6_lasts_18 : decode cX6_lasts 18 = .ok (.dup, 1) := by decide +kernel
theorem dX6_lasts_19 : decode cX6_lasts 19 = .ok (.ldc 224, 2) := by decide +kernel
theorem dX6_lasts_21 : decode cX6_lasts 21 = .ok (.invokespecial 85, 3) := by decide +kernel
theorem dX6_lasts_24 : decode cX6_lasts 24 = .ok (.athrow, 1) := by decide +kernel
theorem dX6_lasts_25 : decode cX6_lasts 25 = .ok (.aload_n 3, 1) := by decide +kernel
theorem dX6_lasts_26 : decode cX6_lasts 26 = .ok (.invokevirtual 211, 3) := by decide +kernel
theorem dX6_lasts_29 : decode cX6_lasts 29 = .ok (.iconst 0, 1) := by decide +kernel
theorem dX6_lasts_30 : decode cX6_lasts 30 = .ok (.istore 4, 2) := by decide +kernel
theorem dX6_lasts_32 : decode cX6_lasts 32 = .ok (.iload 4, 2) := by decide +kernel
theorem dX6_lasts_34 : decode cX6_lasts 34 = .ok (.sipush 500, 3) := by decide +kernel
theorem dX6_lasts_37 : decode cX6_lasts 37 = .ok (.if_icmp .ge 29, 3) := by decide +kernel
theorem dX6_lasts_40 : decode cX6_lasts 40 = .ok (.aload_n 2, 1) := by decide +kernel
theorem dX6_lasts_41 : decode cX6_lasts 41 = .ok (.invokevirtual 189, 3) := by decide +kernel
theorem dX6_lasts_44 : decode cX6_lasts 44 = .ok (.ifCond .ne 22, 3) := by decide +kernel
theorem dX6_lasts_47 : decode cX6_lasts 47 = .ok (.aload_n 0, 1) := by decide +kernel
theorem dX6_lasts_48 : decode cX6_lasts 48 = .ok (.aload_n 3, 1) := by decide +kernel
theorem dX6_lasts_49 : decode cX6_lasts 49 = .ok (.aload_n 0, 1) := by decide +kernel
theorem dX6_lasts_50 : decode cX6_lasts 50 = .ok (.getfield 54, 3) := by decide +kernel
theorem dX6_lasts_53 : decode cX6_lasts 53 = .ok (.iload 4, 2) := by decide +kernel
theorem dX6_lasts_55 : decode cX6_lasts 55 = .ok (.iadd, 1) := by decide +kernel
theorem dX6_lasts_56 : decode cX6_lasts 56 = .ok (.invokevirtual 214, 3) := by decide +kernel
theorem dX6_lasts_59 : decode cX6_lasts 59 = .ok (.pop, 1) := by decide +kernel
theorem dX6_lasts_60 : decode cX6_lasts 60 = .ok (.iinc 4 1, 3) := by decide +kernel
theorem dX6_lasts_63 : decode cX6_lasts 63 = .ok (.goto (-31), 3) := by decide +kernel
theorem dX6_lasts_66 : decode cX6_lasts 66 = .ok (.aload_n 3, 1) := by decide +kernel
theorem dX6_lasts_67 : decode cX6_lasts 67 = .ok (.invokevirtual 221, 3) := by decide +kernel
theorem dX6_lasts_70 : decode cX6_lasts 70 = .ok (.iload 4, 2) := by decide +kernel
theorem dX6_lasts_72 : decode cX6_lasts 72 = .ok (.ireturn, 1) := by decide +kernel
theorem dX6_now_0 : decode cX6_now 0 = .ok (.aload_n 0, 1) := by decide +kernel
theorem dX6_now_1 : decode cX6_now 1 = .ok (.getfield 54, 3) := by decide +kernel
theorem dX6_now_4 : decode cX6_now 4 = .ok (.ireturn, 1) := by decide +kernel
theorem dX6_paid_0 : decode cX6_paid 0 = .ok (.aload_n 0, 1) := by decide +kernel
theorem dX6_paid_1 : decode cX6_paid 1 = .ok (.getfield 57, 3) := by decide +kernel
theorem dX6_paid_4 : decode cX6_paid 4 = .ok (.lreturn, 1) := by decide +kernel
theorem dX6_freshness_0 : decode cX6_freshness 0 = .ok (.aload_n 0, 1) := by decide +kernel
theorem dX6_freshness_1 : decode cX6_freshness 1 = .ok (.iload_n 1, 1) := by decide +kernel
theorem dX6_freshness_2 : decode cX6_freshness 2 = .ok (.invokevirtual 129, 3) := by decide +kernel
theorem dX6_freshness_5 : decode cX6_freshness 5 = .ok (.astore_n 2, 1) := by decide +kernel
theorem dX6_freshness_6 : decode cX6_freshness 6 = .ok (.lconst 0, 1) := by decide +kernel
theorem dX6_freshness_7 : decode cX6_freshness 7 = .ok (.lstore_n 3, 1) := by decide +kernel
theorem dX6_freshness_8 : decode cX6_freshness 8 = .ok (.iconst 0, 1) := by decide +kernel
theorem dX6_freshness_9 : decode cX6_freshness 9 = .ok (.istore 5, 2) := by decide +kernel
theorem dX6_freshness_11 : decode cX6_freshness 11 = .ok (.aload_n 0, 1) := by decide +kernel
theorem dX6_freshness_12 : decode cX6_freshness 12 = .ok (.getfield 37, 3) := by decide +kernel
theorem dX6_freshness_15 : decode cX6_freshness 15 = .ok (.astore 6, 2) := by decide +kernel
theorem dX6_freshness_17 : decode cX6_freshness 17 = .ok (.aload 6, 2) := by decide +kernel
theorem dX6_freshness_19 : decode cX6_freshness 19 = .ok (.arraylength, 1) := by decide +kernel
theorem dX6_freshness_20 : decode cX6_freshness 20 = .ok (.istore 7, 2) := by decide +kernel
theorem dX6_freshness_22 : decode cX6_freshness 22 = .ok (.iconst 0, 1) := by decide +kernel
theorem dX6_freshness_23 : decode cX6_freshness 23 = .ok (.istore 8, 2) := by decide +kernel
theorem dX6_freshness_25 : decode cX6_freshness 25 = .ok (.iload 8, 2) := by decide +kernel
theorem dX6_freshness_27 : decode cX6_freshness 27 = .ok (.iload 7, 2) := by decide +kernel
theorem dX6_freshness_29 : decode cX6_freshness 29 = .ok (.if_icmp .ge 42, 3) := by decide +kernel
theorem dX6_freshness_32 : decode cX6_freshness 32 = .ok (.aload 6, 2) := by decide +kernel
theorem dX6_freshness_34 : decode cX6_freshness 34 = .ok (.iload 8, 2) := by decide +kernel
theorem dX6_freshness_36 : decode cX6_freshness 36 = .ok (.aaload, 1) := by decide +kernel
theorem dX6_freshness_37 : decode cX6_freshness 37 = .ok (.astore 9, 2) := by decide +kernel
theorem dX6_freshness_39 : decode cX6_freshness 39 = .ok (.aload 9, 2) := by decide +kernel
theorem dX6_freshness_41 : decode cX6_freshness 41 = .ok (.ifnull 24, 3) := by decide +kernel
theorem dX6_freshness_44 : decode cX6_freshness 44 = .ok (.aload 9, 2) := by decide +kernel
theorem dX6_freshness_46 : decode cX6_freshness 46 = .ok (.aload_n 2, 1) := by decide +kernel
theorem dX6_freshness_47 : decode cX6_freshness 47 = .ok (.invokevirtual 192, 3) := by decide +kernel
theorem dX6_freshness_50 : decode cX6_freshness 50 = .ok (.ifCond .eq 15, 3) := by decide +kernel
theorem dX6_freshness_53 : decode cX6_freshness 53 = .ok (.lload_n 3, 1) := by decide +kernel
theorem dX6_freshness_54 : decode cX6_freshness 54 = .ok (.aload 9, 2) := by decide +kernel
theorem dX6_freshness_56 : decode cX6_freshness 56 = .ok (.invokevirtual 226, 3) := by decide +kernel
theorem dX6_freshness_59 : decode cX6_freshness 59 = .ok (.i2l, 1) := by decide +kernel
theorem dX6_freshness_60 : decode cX6_freshness 60 = .ok (.ladd, 1) := by decide +kernel
theorem dX6_freshness_61 : decode cX6_freshness 61 = .ok (.lstore_n 3, 1) := by decide +kernel
theorem dX6_freshness_62 : decode cX6_freshness 62 = .ok (.iinc 5 1, 3) := by decide +kernel
theorem dX6_freshness_65 : decode cX6_freshness 65 = .ok (.iinc 8 1, 3) := by decide +kernel
theorem dX6_freshness_68 : decode cX6_freshness 68 = .ok (.goto (-43), 3) := by decide +kernel
theorem dX6_freshness_71 : decode cX6_freshness 71 = .ok (.iload 5, 2) := by decide +kernel
theorem dX6_freshness_73 : decode cX6_freshness 73 = .ok (.ifCond .ne 7, 3) := by decide +kernel
theorem dX6_freshness_76 : decode cX6_freshness 76 = .ok (.dconst 0, 1) := by decide +kernel
theorem dX6_freshness_77 : decode cX6_freshness 77 = .ok (.goto 9, 3) := by decide +kernel
theorem dX6_freshness_80 : decode cX6_freshness 80 = .ok (.lload_n 3, 1) := by decide +kernel
theorem dX6_freshness_81 : decode cX6_freshness 81 = .ok (.l2d, 1) := by decide +kernel
theorem dX6_freshness_82 : decode cX6_freshness 82 = .ok (.iload 5, 2) := by decide +kernel
theorem dX6_freshness_84 : decode cX6_freshness 84 = .ok (.i2d, 1) := by decide +kernel
theorem dX6_freshness_85 : decode cX6_freshness 85 = .ok (.ddiv, 1) := by decide +kernel
theorem dX6_freshness_86 : decode cX6_freshness 86 = .ok (.dreturn, 1) := by decide +kernel
theorem dX6_digest_0 : decode cX6_digest 0 = .ok (.ldc2_w 229, 3) := by decide +kernel
theorem dX6_digest_3 : decode cX6_digest 3 = .ok (.aload_n 0, 1) := by decide +kernel
theorem dX6_digest_4 : decode cX6_digest 4 = .ok (.getfield 54, 3) := by decide +kernel
theorem dX6_digest_7 : decode cX6_digest 7 = .ok (.i2l, 1) := by decide +kernel
theorem dX6_digest_8 : decode cX6_digest 8 = .ok (.invokestatic 231, 3) := by decide +kernel
theorem dX6_digest_11 : decode cX6_digest 11 = .ok (.lstore_n 1, 1) := by decide +kernel
theorem dX6_digest_12 : decode cX6_digest 12 = .ok (.iconst 0, 1) := by decide +kernel
theorem dX6_digest_13 : decode cX6_digest 13 = .ok (.istore_n 3, 1) := by decide +kernel
theorem dX6_digest_14 : decode cX6_digest 14 = .ok (.iload_n 3, 1) := by decide +kernel
theorem dX6_digest_15 : decode cX6_digest 15 = .ok (.iconst 5, 1) := by decide +kernel
theorem dX6_digest_16 : decode cX6_digest 16 = .ok (.if_icmp .ge 20, 3) := by decide +kernel
theorem dX6_digest_19 : decode cX6_digest 19 = .ok (.lload_n 1, 1) := by decide +kernel
theorem dX6_digest_20 : decode cX6_digest 20 = .ok (.aload_n 0, 1) := by decide +kernel
theorem dX6_digest_21 : decode cX6_digest 21 = .ok (.iload_n 3, 1) := by decide +kernel
theorem dX6_digest_22 : decode cX6_digest 22 = .ok (.invokevirtual 195, 3) := by decide +kernel
theorem dX6_digest_25 : decode cX6_digest 25 = .ok (.i2l, 1) := by decide +kernel
theorem dX6_digest_26 : decode cX6_digest 26 = .ok (.invokestatic 231, 3) := by decide +kernel
theorem dX6_digest_29 : decode cX6_digest 29 = .ok (.lstore_n 1, 1) := by decide +kernel
theorem dX6_digest_30 : decode cX6_digest 30 = .ok (.iinc 3 1, 3) := by decide +kernel
theorem dX6_digest_33 : decode cX6_digest 33 = .ok (.goto (-19), 3) := by decide +kernel
theorem dX6_digest_36 : decode cX6_digest 36 = .ok (.aload_n 0, 1) := by decide +kernel
theorem dX6_digest_37 : decode cX6_digest 37 = .ok (.lload_n 1, 1) := by decide +kernel
theorem dX6_digest_38 : decode cX6_digest 38 = .ok (.invokevirtual 235, 3) := by decide +kernel
theorem dX6_digest_41 : decode cX6_digest 41 = .ok (.lstore_n 1, 1) := by decide +kernel
theorem dX6_digest_42 : decode cX6_digest 42 = .ok (.aload_n 0, 1) := by decide +kernel
theorem dX6_digest_43 : decode cX6_digest 43 = .ok (.lload_n 1, 1) := by decide +kernel
theorem dX6_digest_44 : decode cX6_digest 44 = .ok (.invokevirtual 239, 3) := by decide +kernel
theorem dX6_digest_47 : decode cX6_digest 47 = .ok (.lstore_n 1, 1) := by decide +kernel
theorem dX6_digest_48 : decode cX6_digest 48 = .ok (.lload_n 1, 1) := by decide +kernel
theorem dX6_digest_49 : decode cX6_digest 49 = .ok (.aload_n 0, 1) := by decide +kernel
theorem dX6_digest_50 : decode cX6_digest 50 = .ok (.getfield 57, 3) := by decide +kernel
theorem dX6_digest_53 : decode cX6_digest 53 = .ok (.invokestatic 231, 3) := by decide +kernel
theorem dX6_digest_56 : decode cX6_digest 56 = .ok (.lreturn, 1) := by decide +kernel
theorem dX6_requireWithin_0 : decode cX6_requireWithin 0 = .ok (.iload_n 0, 1) := by decide +kernel
theorem dX6_requireWithin_1 : decode cX6_requireWithin 1 = .ok (.iload_n 1, 1) := by decide +kernel
theorem dX6_requireWithin_2 : decode cX6_requireWithin 2 = .ok (.if_icmp .lt 8, 3) := by decide +kernel
theorem dX6_requireWithin_5 : decode cX6_requireWithin 5 = .ok (.iload_n 0, 1) := by decide +kernel
theorem dX6_requireWithin_6 : decode cX6_requireWithin 6 = .ok (.iload_n 2, 1) := by decide +kernel
theorem dX6_requireWithin_7 : decode cX6_requireWithin 7 = .ok (.if_icmp .le 13, 3) := by decide +kernel
theorem dX6_requireWithin_10 : decode cX6_requireWithin 10 = .ok (.new 242, 3) := by decide +kernel
theorem dX6_requireWithin_13 : decode cX6_requireWithin 13 = .ok (.dup, 1) := by decide +kernel
theorem dX6_requireWithin_14 : decode cX6_requireWithin 14 = .ok (.ldc 244, 2) := by decide +kernel
theorem dX6_requireWithin_16 : decode cX6_requireWithin 16 = .ok (.invokespecial 246, 3) := by decide +kernel
theorem dX6_requireWithin_19 : decode cX6_requireWithin 19 = .ok (.athrow, 1) := by decide +kernel
theorem dX6_requireWithin_20 : decode cX6_requireWithin 20 = .ok (.return_, 1) := by decide +kernel
theorem dX6_requireFact_0 : decode cX6_requireFact 0 = .ok (.iload_n 0, 1) := by decide +kernel
theorem dX6_requireFact_1 : decode cX6_requireFact 1 = .ok (.ifCond .lt 8, 3) := by decide +kernel
theorem dX6_requireFact_4 : decode cX6_requireFact 4 = .ok (.iload_n 0, 1) := by decide +kernel
theorem dX6_requireFact_5 : decode cX6_requireFact 5 = .ok (.iload_n 1, 1) := by decide +kernel
theorem dX6_requireFact_6 : decode cX6_requireFact 6 = .ok (.if_icmp .lt 13, 3) := by decide +kernel
theorem dX6_requireFact_9 : decode cX6_requireFact 9 = .ok (.new 247, 3) := by decide +kernel
theorem dX6_requireFact_12 : decode cX6_requireFact 12 = .ok (.dup, 1) := by decide +kernel
theorem dX6_requireFact_13 : decode cX6_requireFact 13 = .ok (.ldc 249, 2) := by decide +kernel
theorem dX6_requireFact_15 : decode cX6_requireFact 15 = .ok (.invokespecial 251, 3) := by decide +kernel
theorem dX6_requireFact_18 : decode cX6_requireFact 18 = .ok (.athrow, 1) := by decide +kernel
theorem dX6_requireFact_19 : decode cX6_requireFact 19 = .ok (.return_, 1) := by decide +kernel
theorem dX6_existingProduct_0 : decode cX6_existingProduct 0 = .ok (.iload_n 1, 1) := by decide +kernel
theorem dX6_existingProduct_1 : decode cX6_existingProduct 1 = .ok (.ifCond .lt 21, 3) := by decide +kernel
theorem dX6_existingProduct_4 : decode cX6_existingProduct 4 = .ok (.iload_n 1, 1) := by decide +kernel
theorem dX6_existingProduct_5 : decode cX6_existingProduct 5 = .ok (.aload_n 0, 1) := by decide +kernel
theorem dX6_existingProduct_6 : decode cX6_existingProduct 6 = .ok (.getfield 25, 3) := by decide +kernel
theorem dX6_existingProduct_9 : decode cX6_existingProduct 9 = .ok (.arraylength, 1) := by decide +kernel
theorem dX6_existingProduct_10 : decode cX6_existingProduct 10 = .ok (.if_icmp .ge 12, 3) := by decide +kernel
theorem dX6_existingProduct_13 : decode cX6_existingProduct 13 = .ok (.aload_n 0, 1) := by decide +kernel
theorem dX6_existingProduct_14 : decode cX6_existingProduct 14 = .ok (.getfield 25, 3) := by decide +kernel
theorem dX6_existingProduct_17 : decode cX6_existingProduct 17 = .ok (.iload_n 1, 1) := by decide +kernel
theorem dX6_existingProduct_18 : decode cX6_existingProduct 18 = .ok (.aaload, 1) := by decide +kernel
theorem dX6_existingProduct_19 : decode cX6_existingProduct 19 = .ok (.goto 4, 3) := by decide +kernel
theorem dX6_existingProduct_22 : decode cX6_existingProduct 22 = .ok (.aconst_null, 1) := by decide +kernel
theorem dX6_existingProduct_23 : decode cX6_existingProduct 23 = .ok (.astore_n 2, 1) := by decide +kernel
theorem dX6_existingProduct_24 : decode cX6_existingProduct 24 = .ok (.aload_n 2, 1) := by decide +kernel
theorem dX6_existingProduct_25 : decode cX6_existingProduct 25 = .ok (.ifnonnull 13, 3) := by decide +kernel
theorem dX6_existingProduct_28 : decode cX6_existingProduct 28 = .ok (.new 247, 3) := by decide +kernel
theorem dX6_existingProduct_31 : decode cX6_existingProduct 31 = .ok (.dup, 1) := by decide +kernel
theorem dX6_existingProduct_32 : decode cX6_existingProduct 32 = .ok (.ldc 252, 2) := by decide +kernel
theorem dX6_existingProduct_34 : decode cX6_existingProduct 34 = .ok (.invokespecial 251, 3) := by decide +kernel
theorem dX6_existingProduct_37 : decode cX6_existingProduct 37 = .ok (.athrow, 1) := by decide +kernel
theorem dX6_existingProduct_38 : decode cX6_existingProduct 38 = .ok (.aload_n 2, 1) := by decide +kernel
theorem dX6_existingProduct_39 : decode cX6_existingProduct 39 = .ok (.areturn, 1) := by decide +kernel
theorem dX6_existingRoom_0 : decode cX6_existingRoom 0 = .ok (.iload_n 1, 1) := by decide +kernel
theorem dX6_existingRoom_1 : decode cX6_existingRoom 1 = .ok (.ifCond .lt 21, 3) := by decide +kernel
theorem dX6_existingRoom_4 : decode cX6_existingRoom 4 = .ok (.iload_n 1, 1) := by decide +kernel
theorem dX6_existingRoom_5 : decode cX6_existingRoom 5 = .ok (.aload_n 0, 1) := by decide +kernel
theorem dX6_existingRoom_6 : decode cX6_existingRoom 6 = .ok (.getfield 31, 3) := by decide +kernel
theorem dX6_existingRoom_9 : decode cX6_existingRoom 9 = .ok (.arraylength, 1) := by decide +kernel
theorem dX6_existingRoom_10 : decode cX6_existingRoom 10 = .ok (.if_icmp .ge 12, 3) := by decide +kernel
theorem dX6_existingRoom_13 : decode cX6_existingRoom 13 = .ok (.aload_n 0, 1) := by decide +kernel
theorem dX6_existingRoom_14 : decode cX6_existingRoom 14 = .ok (.getfield 31, 3) := by decide +kernel
theorem dX6_existingRoom_17 : decode cX6_existingRoom 17 = .ok (.iload_n 1, 1) := by decide +kernel
theorem dX6_existingRoom_18 : decode cX6_existingRoom 18 = .ok (.aaload, 1) := by decide +kernel
theorem dX6_existingRoom_19 : decode cX6_existingRoom 19 = .ok (.goto 4, 3) := by decide +kernel
theorem dX6_existingRoom_22 : decode cX6_existingRoom 22 = .ok (.aconst_null, 1) := by decide +kernel
theorem dX6_existingRoom_23 : decode cX6_existingRoom 23 = .ok (.astore_n 2, 1) := by decide +kernel
theorem dX6_existingRoom_24 : decode cX6_existingRoom 24 = .ok (.aload_n 2, 1) := by decide +kernel
theorem dX6_existingRoom_25 : decode cX6_existingRoom 25 = .ok (.ifnonnull 13, 3) := by decide +kernel
theorem dX6_existingRoom_28 : decode cX6_existingRoom 28 = .ok (.new 247, 3) := by decide +kernel
theorem dX6_existingRoom_31 : decode cX6_existingRoom 31 = .ok (.dup, 1) := by decide +kernel
theorem dX6_existingRoom_32 : decode cX6_existingRoom 32 = .ok (.ldc 254, 2) := by decide +kernel
theorem dX6_existingRoom_34 : decode cX6_existingRoom 34 = .ok (.invokespecial 251, 3) := by decide +kernel
theorem dX6_existingRoom_37 : decode cX6_existingRoom 37 = .ok (.athrow, 1) := by decide +kernel
theorem dX6_existingRoom_38 : decode cX6_existingRoom 38 = .ok (.aload_n 2, 1) := by decide +kernel
theorem dX6_existingRoom_39 : decode cX6_existingRoom 39 = .ok (.areturn, 1) := by decide +kernel
theorem dX6_existingPallet_0 : decode cX6_existingPallet 0 = .ok (.iload_n 1, 1) := by decide +kernel
theorem dX6_existingPallet_1 : decode cX6_existingPallet 1 = .ok (.ifCond .lt 21, 3) := by decide +kernel
theorem dX6_existingPallet_4 : decode cX6_existingPallet 4 = .ok (.iload_n 1, 1) := by decide +kernel
theorem dX6_existingPallet_5 : decode cX6_existingPallet 5 = .ok (.aload_n 0, 1) := by decide +kernel
theorem dX6_existingPallet_6 : decode cX6_existingPallet 6 = .ok (.getfield 37, 3) := by decide +kernel
theorem dX6_existingPallet_9 : decode cX6_existingPallet 9 = .ok (.arraylength, 1) := by decide +kernel
theorem dX6_existingPallet_10 : decode cX6_existingPallet 10 = .ok (.if_icmp .ge 12, 3) := by decide +kernel
theorem dX6_existingPallet_13 : decode cX6_existingPallet 13 = .ok (.aload_n 0, 1) := by decide +kernel
theorem dX6_existingPallet_14 : decode cX6_existingPallet 14 = .ok (.getfield 37, 3) := by decide +kernel
theorem dX6_existingPallet_17 : decode cX6_existingPallet 17 = .ok (.iload_n 1, 1) := by decide +kernel
theorem dX6_existingPallet_18 : decode cX6_existingPallet 18 = .ok (.aaload, 1) := by decide +kernel
theorem dX6_existingPallet_19 : decode cX6_existingPallet 19 = .ok (.goto 4, 3) := by decide +kernel
theorem dX6_existingPallet_22 : decode cX6_existingPallet 22 = .ok (.aconst_null, 1) := by decide +kernel
theorem dX6_existingPallet_23 : decode cX6_existingPallet 23 = .ok (.astore_n 2, 1) := by decide +kernel
theorem dX6_existingPallet_24 : decode cX6_existingPallet 24 = .ok (.aload_n 2, 1) := by decide +kernel
theorem dX6_existingPallet_25 : decode cX6_existingPallet 25 = .ok (.ifnonnull 14, 3) := by decide +kernel
theorem dX6_existingPallet_28 : decode cX6_existingPallet 28 = .ok (.new 247, 3) := by decide +kernel
theorem dX6_existingPallet_31 : decode cX6_existingPallet 31 = .ok (.dup, 1) := by decide +kernel
theorem dX6_existingPallet_32 : decode cX6_existingPallet 32 = .ok (.ldc_w 256, 3) := by decide +kernel
theorem dX6_existingPallet_35 : decode cX6_existingPallet 35 = .ok (.invokespecial 251, 3) := by decide +kernel
theorem dX6_existingPallet_38 : decode cX6_existingPallet 38 = .ok (.athrow, 1) := by decide +kernel
theorem dX6_existingPallet_39 : decode cX6_existingPallet 39 = .ok (.aload_n 2, 1) := by decide +kernel
theorem dX6_existingPallet_40 : decode cX6_existingPallet 40 = .ok (.areturn, 1) := by decide +kernel
theorem dX6_countOf_0 : decode cX6_countOf 0 = .ok (.iload_n 1, 1) := by decide +kernel
theorem dX6_countOf_1 : decode cX6_countOf 1 = .ok (.tableswitch 51 0 3 #[31, 36, 41, 46], 31) := by decide +kernel
theorem dX6_countOf_32 : decode cX6_countOf 32 = .ok (.aload_n 0, 1) := by decide +kernel
theorem dX6_countOf_33 : decode cX6_countOf 33 = .ok (.getfield 41, 3) := by decide +kernel
theorem dX6_countOf_36 : decode cX6_countOf 36 = .ok (.ireturn, 1) := by decide +kernel
theorem dX6_countOf_37 : decode cX6_countOf 37 = .ok (.aload_n 0, 1) := by decide +kernel
theorem dX6_countOf_38 : decode cX6_countOf 38 = .ok (.getfield 45, 3) := by decide +kernel
theorem dX6_countOf_41 : decode cX6_countOf 41 = .ok (.ireturn, 1) := by decide +kernel
theorem dX6_countOf_42 : decode cX6_countOf 42 = .ok (.aload_n 0, 1) := by decide +kernel
theorem dX6_countOf_43 : decode cX6_countOf 43 = .ok (.getfield 48, 3) := by decide +kernel
theorem dX6_countOf_46 : decode cX6_countOf 46 = .ok (.ireturn, 1) := by decide +kernel
theorem dX6_countOf_47 : decode cX6_countOf 47 = .ok (.aload_n 0, 1) := by decide +kernel
theorem dX6_countOf_48 : decode cX6_countOf 48 = .ok (.invokevirtual 258, 3) := by decide +kernel
theorem dX6_countOf_51 : decode cX6_countOf 51 = .ok (.ireturn, 1) := by decide +kernel
theorem dX6_countOf_52 : decode cX6_countOf 52 = .ok (.aload_n 0, 1) := by decide +kernel
theorem dX6_countOf_53 : decode cX6_countOf 53 = .ok (.getfield 51, 3) := by decide +kernel
theorem dX6_countOf_56 : decode cX6_countOf 56 = .ok (.ireturn, 1) := by decide +kernel
theorem dX6_palletsHere_0 : decode cX6_palletsHere 0 = .ok (.iconst 0, 1) := by decide +kernel
theorem dX6_palletsHere_1 : decode cX6_palletsHere 1 = .ok (.istore_n 1, 1) := by decide +kernel
theorem dX6_palletsHere_2 : decode cX6_palletsHere 2 = .ok (.aload_n 0, 1) := by decide +kernel
theorem dX6_palletsHere_3 : decode cX6_palletsHere 3 = .ok (.getfield 37, 3) := by decide +kernel
theorem dX6_palletsHere_6 : decode cX6_palletsHere 6 = .ok (.astore_n 2, 1) := by decide +kernel
theorem dX6_palletsHere_7 : decode cX6_palletsHere 7 = .ok (.aload_n 2, 1) := by decide +kernel
theorem dX6_palletsHere_8 : decode cX6_palletsHere 8 = .ok (.arraylength, 1) := by decide +kernel
theorem dX6_palletsHere_9 : decode cX6_palletsHere 9 = .ok (.istore_n 3, 1) := by decide +kernel
theorem dX6_palletsHere_10 : decode cX6_palletsHere 10 = .ok (.iconst 0, 1) := by decide +kernel
theorem dX6_palletsHere_11 : decode cX6_palletsHere 11 = .ok (.istore 4, 2) := by decide +kernel
theorem dX6_palletsHere_13 : decode cX6_palletsHere 13 = .ok (.iload 4, 2) := by decide +kernel
theorem dX6_palletsHere_15 : decode cX6_palletsHere 15 = .ok (.iload_n 3, 1) := by decide +kernel
theorem dX6_palletsHere_16 : decode cX6_palletsHere 16 = .ok (.if_icmp .ge 31, 3) := by decide +kernel
theorem dX6_palletsHere_19 : decode cX6_palletsHere 19 = .ok (.aload_n 2, 1) := by decide +kernel
theorem dX6_palletsHere_20 : decode cX6_palletsHere 20 = .ok (.iload 4, 2) := by decide +kernel
theorem dX6_palletsHere_22 : decode cX6_palletsHere 22 = .ok (.aaload, 1) := by decide +kernel
theorem dX6_palletsHere_23 : decode cX6_palletsHere 23 = .ok (.astore 5, 2) := by decide +kernel
theorem dX6_palletsHere_25 : decode cX6_palletsHere 25 = .ok (.aload 5, 2) := by decide +kernel
theorem dX6_palletsHere_27 : decode cX6_palletsHere 27 = .ok (.ifnull 14, 3) := by decide +kernel
theorem dX6_palletsHere_30 : decode cX6_palletsHere 30 = .ok (.aload 5, 2) := by decide +kernel
theorem dX6_palletsHere_32 : decode cX6_palletsHere 32 = .ok (.invokevirtual 185, 3) := by decide +kernel
theorem dX6_palletsHere_35 : decode cX6_palletsHere 35 = .ok (.ifCond .eq 6, 3) := by decide +kernel
theorem dX6_palletsHere_38 : decode cX6_palletsHere 38 = .ok (.iinc 1 1, 3) := by decide +kernel
theorem dX6_palletsHere_41 : decode cX6_palletsHere 41 = .ok (.iinc 4 1, 3) := by decide +kernel
theorem dX6_palletsHere_44 : decode cX6_palletsHere 44 = .ok (.goto (-31), 3) := by decide +kernel
theorem dX6_palletsHere_47 : decode cX6_palletsHere 47 = .ok (.iload_n 1, 1) := by decide +kernel
theorem dX6_palletsHere_48 : decode cX6_palletsHere 48 = .ok (.ireturn, 1) := by decide +kernel
theorem dX6_spoiledHere_0 : decode cX6_spoiledHere 0 = .ok (.iconst 0, 1) := by decide +kernel
theorem dX6_spoiledHere_1 : decode cX6_spoiledHere 1 = .ok (.istore_n 1, 1) := by decide +kernel
theorem dX6_spoiledHere_2 : decode cX6_spoiledHere 2 = .ok (.aload_n 0, 1) := by decide +kernel
theorem dX6_spoiledHere_3 : decode cX6_spoiledHere 3 = .ok (.getfield 37, 3) := by decide +kernel
theorem dX6_spoiledHere_6 : decode cX6_spoiledHere 6 = .ok (.astore_n 2, 1) := by decide +kernel
theorem dX6_spoiledHere_7 : decode cX6_spoiledHere 7 = .ok (.aload_n 2, 1) := by decide +kernel
theorem dX6_spoiledHere_8 : decode cX6_spoiledHere 8 = .ok (.arraylength, 1) := by decide +kernel
theorem dX6_spoiledHere_9 : decode cX6_spoiledHere 9 = .ok (.istore_n 3, 1) := by decide +kernel
theorem dX6_spoiledHere_10 : decode cX6_spoiledHere 10 = .ok (.iconst 0, 1) := by decide +kernel
theorem dX6_spoiledHere_11 : decode cX6_spoiledHere 11 = .ok (.istore 4, 2) := by decide +kernel
theorem dX6_spoiledHere_13 : decode cX6_spoiledHere 13 = .ok (.iload 4, 2) := by decide +kernel
theorem dX6_spoiledHere_15 : decode cX6_spoiledHere 15 = .ok (.iload_n 3, 1) := by decide +kernel
theorem dX6_spoiledHere_16 : decode cX6_spoiledHere 16 = .ok (.if_icmp .ge 39, 3) := by decide +kernel
theorem dX6_spoiledHere_19 : decode cX6_spoiledHere 19 = .ok (.aload_n 2, 1) := by decide +kernel
theorem dX6_spoiledHere_20 : decode cX6_spoiledHere 20 = .ok (.iload 4, 2) := by decide +kernel
theorem dX6_spoiledHere_22 : decode cX6_spoiledHere 22 = .ok (.aaload, 1) := by decide +kernel
theorem dX6_spoiledHere_23 : decode cX6_spoiledHere 23 = .ok (.astore 5, 2) := by decide +kernel
theorem dX6_spoiledHere_25 : decode cX6_spoiledHere 25 = .ok (.aload 5, 2) := by decide +kernel
theorem dX6_spoiledHere_27 : decode cX6_spoiledHere 27 = .ok (.ifnull 22, 3) := by decide +kernel
theorem dX6_spoiledHere_30 : decode cX6_spoiledHere 30 = .ok (.aload 5, 2) := by decide +kernel
theorem dX6_spoiledHere_32 : decode cX6_spoiledHere 32 = .ok (.invokevirtual 185, 3) := by decide +kernel
theorem dX6_spoiledHere_35 : decode cX6_spoiledHere 35 = .ok (.ifCond .eq 14, 3) := by decide +kernel
theorem dX6_spoiledHere_38 : decode cX6_spoiledHere 38 = .ok (.aload 5, 2) := by decide +kernel
theorem dX6_spoiledHere_40 : decode cX6_spoiledHere 40 = .ok (.invokevirtual 189, 3) := by decide +kernel
theorem dX6_spoiledHere_43 : decode cX6_spoiledHere 43 = .ok (.ifCond .eq 6, 3) := by decide +kernel
theorem dX6_spoiledHere_46 : decode cX6_spoiledHere 46 = .ok (.iinc 1 1, 3) := by decide +kernel
theorem dX6_spoiledHere_49 : decode cX6_spoiledHere 49 = .ok (.iinc 4 1, 3) := by decide +kernel
theorem dX6_spoiledHere_52 : decode cX6_spoiledHere 52 = .ok (.goto (-39), 3) := by decide +kernel
theorem dX6_spoiledHere_55 : decode cX6_spoiledHere 55 = .ok (.iload_n 1, 1) := by decide +kernel
theorem dX6_spoiledHere_56 : decode cX6_spoiledHere 56 = .ok (.ireturn, 1) := by decide +kernel
theorem dX6_nextToShip_0 : decode cX6_nextToShip 0 = .ok (.aconst_null, 1) := by decide +kernel
theorem dX6_nextToShip_1 : decode cX6_nextToShip 1 = .ok (.astore_n 3, 1) := by decide +kernel
theorem dX6_nextToShip_2 : decode cX6_nextToShip 2 = .ok (.aload_n 0, 1) := by decide +kernel
theorem dX6_nextToShip_3 : decode cX6_nextToShip 3 = .ok (.getfield 37, 3) := by decide +kernel
theorem dX6_nextToShip_6 : decode cX6_nextToShip 6 = .ok (.astore 4, 2) := by decide +kernel
theorem dX6_nextToShip_8 : decode cX6_nextToShip 8 = .ok (.aload 4, 2) := by decide +kernel
theorem dX6_nextToShip_10 : decode cX6_nextToShip 10 = .ok (.arraylength, 1) := by decide +kernel
theorem dX6_nextToShip_11 : decode cX6_nextToShip 11 = .ok (.istore 5, 2) := by decide +kernel
theorem dX6_nextToShip_13 : decode cX6_nextToShip 13 = .ok (.iconst 0, 1) := by decide +kernel
theorem dX6_nextToShip_14 : decode cX6_nextToShip 14 = .ok (.istore 6, 2) := by decide +kernel
theorem dX6_nextToShip_16 : decode cX6_nextToShip 16 = .ok (.iload 6, 2) := by decide +kernel
theorem dX6_nextToShip_18 : decode cX6_nextToShip 18 = .ok (.iload 5, 2) := by decide +kernel
theorem dX6_nextToShip_20 : decode cX6_nextToShip 20 = .ok (.if_icmp .ge 58, 3) := by decide +kernel
theorem dX6_nextToShip_23 : decode cX6_nextToShip 23 = .ok (.aload 4, 2) := by decide +kernel
theorem dX6_nextToShip_25 : decode cX6_nextToShip 25 = .ok (.iload 6, 2) := by decide +kernel
theorem dX6_nextToShip_27 : decode cX6_nextToShip 27 = .ok (.aaload, 1) := by decide +kernel
theorem dX6_nextToShip_28 : decode cX6_nextToShip 28 = .ok (.astore 7, 2) := by decide +kernel
theorem dX6_nextToShip_30 : decode cX6_nextToShip 30 = .ok (.aload 7, 2) := by decide +kernel
theorem dX6_nextToShip_32 : decode cX6_nextToShip 32 = .ok (.ifnull 40, 3) := by decide +kernel
theorem dX6_nextToShip_35 : decode cX6_nextToShip 35 = .ok (.aload 7, 2) := by decide +kernel
theorem dX6_nextToShip_37 : decode cX6_nextToShip 37 = .ok (.aload_n 1, 1) := by decide +kernel
theorem dX6_nextToShip_38 : decode cX6_nextToShip 38 = .ok (.invokevirtual 192, 3) := by decide +kernel
theorem dX6_nextToShip_41 : decode cX6_nextToShip 41 = .ok (.ifCond .eq 31, 3) := by decide +kernel
theorem dX6_nextToShip_44 : decode cX6_nextToShip 44 = .ok (.aload 7, 2) := by decide +kernel
theorem dX6_nextToShip_46 : decode cX6_nextToShip 46 = .ok (.invokevirtual 226, 3) := by decide +kernel
theorem dX6_nextToShip_49 : decode cX6_nextToShip 49 = .ok (.iload_n 2, 1) := by decide +kernel
theorem dX6_nextToShip_50 : decode cX6_nextToShip 50 = .ok (.if_icmp .lt 22, 3) := by decide +kernel
theorem dX6_nextToShip_53 : decode cX6_nextToShip 53 = .ok (.aload_n 3, 1) := by decide +kernel
theorem dX6_nextToShip_54 : decode cX6_nextToShip 54 = .ok (.ifnull 15, 3) := by decide +kernel
theorem dX6_nextToShip_57 : decode cX6_nextToShip 57 = .ok (.aload 7, 2) := by decide +kernel
theorem dX6_nextToShip_59 : decode cX6_nextToShip 59 = .ok (.invokevirtual 226, 3) := by decide +kernel
theorem dX6_nextToShip_62 : decode cX6_nextToShip 62 = .ok (.aload_n 3, 1) := by decide +kernel
theorem dX6_nextToShip_63 : decode cX6_nextToShip 63 = .ok (.invokevirtual 226, 3) := by decide +kernel
theorem dX6_nextToShip_66 : decode cX6_nextToShip 66 = .ok (.if_icmp .ge 6, 3) := by decide +kernel
theorem dX6_nextToShip_69 : decode cX6_nextToShip 69 = .ok (.aload 7, 2) := by decide +kernel
theorem dX6_nextToShip_71 : decode cX6_nextToShip 71 = .ok (.astore_n 3, 1) := by decide +kernel
theorem dX6_nextToShip_72 : decode cX6_nextToShip 72 = .ok (.iinc 6 1, 3) := by decide +kernel
theorem dX6_nextToShip_75 : decode cX6_nextToShip 75 = .ok (.goto (-59), 3) := by decide +kernel
theorem dX6_nextToShip_78 : decode cX6_nextToShip 78 = .ok (.aload_n 3, 1) := by decide +kernel
theorem dX6_nextToShip_79 : decode cX6_nextToShip 79 = .ok (.areturn, 1) := by decide +kernel
theorem dX6_leave_0 : decode cX6_leave 0 = .ok (.aload_n 0, 1) := by decide +kernel
theorem dX6_leave_1 : decode cX6_leave 1 = .ok (.getfield 154, 3) := by decide +kernel
theorem dX6_leave_4 : decode cX6_leave 4 = .ok (.astore_n 1, 1) := by decide +kernel
theorem dX6_leave_5 : decode cX6_leave 5 = .ok (.aload_n 1, 1) := by decide +kernel
theorem dX6_leave_6 : decode cX6_leave 6 = .ok (.ifnull 8, 3) := by decide +kernel
theorem dX6_leave_9 : decode cX6_leave 9 = .ok (.aload_n 1, 1) := by decide +kernel
theorem dX6_leave_10 : decode cX6_leave 10 = .ok (.aload_n 0, 1) := by decide +kernel
theorem dX6_leave_11 : decode cX6_leave 11 = .ok (.invokevirtual 164, 3) := by decide +kernel
theorem dX6_leave_14 : decode cX6_leave 14 = .ok (.return_, 1) := by decide +kernel
theorem dX6_passHourEverywhere_0 : decode cX6_passHourEverywhere 0 = .ok (.aload_n 0, 1) := by decide +kernel
theorem dX6_passHourEverywhere_1 : decode cX6_passHourEverywhere 1 = .ok (.getfield 19, 3) := by decide +kernel
theorem dX6_passHourEverywhere_4 : decode cX6_passHourEverywhere 4 = .ok (.aload_n 0, 1) := by decide +kernel
theorem dX6_passHourEverywhere_5 : decode cX6_passHourEverywhere 5 = .ok (.getfield 54, 3) := by decide +kernel
theorem dX6_passHourEverywhere_8 : decode cX6_passHourEverywhere 8 = .ok (.invokevirtual 261, 3) := by decide +kernel
theorem dX6_passHourEverywhere_11 : decode cX6_passHourEverywhere 11 = .ok (.istore_n 1, 1) := by decide +kernel
theorem dX6_passHourEverywhere_12 : decode cX6_passHourEverywhere 12 = .ok (.aload_n 0, 1) := by decide +kernel
theorem dX6_passHourEverywhere_13 : decode cX6_passHourEverywhere 13 = .ok (.getfield 31, 3) := by decide +kernel
theorem dX6_passHourEverywhere_16 : decode cX6_passHourEverywhere 16 = .ok (.astore_n 2, 1) := by decide +kernel
theorem dX6_passHourEverywhere_17 : decode cX6_passHourEverywhere 17 = .ok (.aload_n 2, 1) := by decide +kernel
theorem dX6_passHourEverywhere_18 : decode cX6_passHourEverywhere 18 = .ok (.arraylength, 1) := by decide +kernel
theorem dX6_passHourEverywhere_19 : decode cX6_passHourEverywhere 19 = .ok (.istore_n 3, 1) := by decide +kernel
theorem dX6_passHourEverywhere_20 : decode cX6_passHourEverywhere 20 = .ok (.iconst 0, 1) := by decide +kernel
theorem dX6_passHourEverywhere_21 : decode cX6_passHourEverywhere 21 = .ok (.istore 4, 2) := by decide +kernel
theorem dX6_passHourEverywhere_23 : decode cX6_passHourEverywhere 23 = .ok (.iload 4, 2) := by decide +kernel
theorem dX6_passHourEverywhere_25 : decode cX6_passHourEverywhere 25 = .ok (.iload_n 3, 1) := by decide +kernel
theorem dX6_passHourEverywhere_26 : decode cX6_passHourEverywhere 26 = .ok (.if_icmp .ge 43, 3) := by decide +kernel
theorem dX6_passHourEverywhere_29 : decode cX6_passHourEverywhere 29 = .ok (.aload_n 2, 1) := by decide +kernel
theorem dX6_passHourEverywhere_30 : decode cX6_passHourEverywhere 30 = .ok (.iload 4, 2) := by decide +kernel
theorem dX6_passHourEverywhere_32 : decode cX6_passHourEverywhere 32 = .ok (.aaload, 1) := by decide +kernel
theorem dX6_passHourEverywhere_33 : decode cX6_passHourEverywhere 33 = .ok (.astore 5, 2) := by decide +kernel
theorem dX6_passHourEverywhere_35 : decode cX6_passHourEverywhere 35 = .ok (.aload 5, 2) := by decide +kernel
theorem dX6_passHourEverywhere_37 : decode cX6_passHourEverywhere 37 = .ok (.ifnull 26, 3) := by decide +kernel
theorem dX6_passHourEverywhere_40 : decode cX6_passHourEverywhere 40 = .ok (.aload_n 0, 1) := by decide +kernel
theorem dX6_passHourEverywhere_41 : decode cX6_passHourEverywhere 41 = .ok (.dup, 1) := by decide +kernel
theorem dX6_passHourEverywhere_42 : decode cX6_passHourEverywhere 42 = .ok (.getfield 57, 3) := by decide +kernel
theorem dX6_passHourEverywhere_45 : decode cX6_passHourEverywhere 45 = .ok (.iload_n 1, 1) := by decide +kernel
theorem dX6_passHourEverywhere_46 : decode cX6_passHourEverywhere 46 = .ok (.i2l, 1) := by decide +kernel
theorem dX6_passHourEverywhere_47 : decode cX6_passHourEverywhere 47 = .ok (.aload_n 0, 1) := by decide +kernel
theorem dX6_passHourEverywhere_48 : decode cX6_passHourEverywhere 48 = .ok (.aload 5, 2) := by decide +kernel
theorem dX6_passHourEverywhere_50 : decode cX6_passHourEverywhere 50 = .ok (.aload_n 0, 1) := by decide +kernel
theorem dX6_passHourEverywhere_51 : decode cX6_passHourEverywhere 51 = .ok (.getfield 54, 3) := by decide +kernel
theorem dX6_passHourEverywhere_54 : decode cX6_passHourEverywhere 54 = .ok (.invokevirtual 214, 3) := by decide +kernel
theorem dX6_passHourEverywhere_57 : decode cX6_passHourEverywhere 57 = .ok (.i2l, 1) := by decide +kernel
theorem dX6_passHourEverywhere_58 : decode cX6_passHourEverywhere 58 = .ok (.lmul, 1) := by decide +kernel
theorem dX6_passHourEverywhere_59 : decode cX6_passHourEverywhere 59 = .ok (.ladd, 1) := by decide +kernel
theorem dX6_passHourEverywhere_60 : decode cX6_passHourEverywhere 60 = .ok (.putfield 57, 3) := by decide +kernel
theorem dX6_passHourEverywhere_63 : decode cX6_passHourEverywhere 63 = .ok (.iinc 4 1, 3) := by decide +kernel
theorem dX6_passHourEverywhere_66 : decode cX6_passHourEverywhere 66 = .ok (.goto (-43), 3) := by decide +kernel
theorem dX6_passHourEverywhere_69 : decode cX6_passHourEverywhere 69 = .ok (.aload_n 0, 1) := by decide +kernel
theorem dX6_passHourEverywhere_70 : decode cX6_passHourEverywhere 70 = .ok (.dup, 1) := by decide +kernel
theorem dX6_passHourEverywhere_71 : decode cX6_passHourEverywhere 71 = .ok (.getfield 54, 3) := by decide +kernel
theorem dX6_passHourEverywhere_74 : decode cX6_passHourEverywhere 74 = .ok (.iconst 1, 1) := by decide +kernel
theorem dX6_passHourEverywhere_75 : decode cX6_passHourEverywhere 75 = .ok (.iadd, 1) := by decide +kernel
theorem dX6_passHourEverywhere_76 : decode cX6_passHourEverywhere 76 = .ok (.putfield 54, 3) := by decide +kernel
theorem dX6_passHourEverywhere_79 : decode cX6_passHourEverywhere 79 = .ok (.return_, 1) := by decide +kernel
theorem dX6_passHourIn_0 : decode cX6_passHourIn 0 = .ok (.aload_n 1, 1) := by decide +kernel
theorem dX6_passHourIn_1 : decode cX6_passHourIn 1 = .ok (.aload_n 0, 1) := by decide +kernel
theorem dX6_passHourIn_2 : decode cX6_passHourIn 2 = .ok (.getfield 10, 3) := by decide +kernel
theorem dX6_passHourIn_5 : decode cX6_passHourIn 5 = .ok (.iload_n 2, 1) := by decide +kernel
theorem dX6_passHourIn_6 : decode cX6_passHourIn 6 = .ok (.invokevirtual 71, 3) := by decide +kernel
theorem dX6_passHourIn_9 : decode cX6_passHourIn 9 = .ok (.aload_n 0, 1) := by decide +kernel
theorem dX6_passHourIn_10 : decode cX6_passHourIn 10 = .ok (.getfield 19, 3) := by decide +kernel
theorem dX6_passHourIn_13 : decode cX6_passHourIn 13 = .ok (.iload_n 2, 1) := by decide +kernel
theorem dX6_passHourIn_14 : decode cX6_passHourIn 14 = .ok (.invokevirtual 264, 3) := by decide +kernel
theorem dX6_passHourIn_17 : decode cX6_passHourIn 17 = .ok (.invokevirtual 268, 3) := by decide +kernel
theorem dX6_passHourIn_20 : decode cX6_passHourIn 20 = .ok (.ireturn, 1) := by decide +kernel
theorem dX6_mix_0 : decode cX6_mix 0 = .ok (.lload_n 0, 1) := by decide +kernel
theorem dX6_mix_1 : decode cX6_mix 1 = .ok (.ldc2_w 272, 3) := by decide +kernel
theorem dX6_mix_4 : decode cX6_mix 4 = .ok (.lmul, 1) := by decide +kernel
theorem dX6_mix_5 : decode cX6_mix 5 = .ok (.lload_n 2, 1) := by decide +kernel
theorem dX6_mix_6 : decode cX6_mix 6 = .ok (.ladd, 1) := by decide +kernel
theorem dX6_mix_7 : decode cX6_mix 7 = .ok (.lreturn, 1) := by decide +kernel
theorem dX6_mixRooms_0 : decode cX6_mixRooms 0 = .ok (.lload_n 1, 1) := by decide +kernel
theorem dX6_mixRooms_1 : decode cX6_mixRooms 1 = .ok (.lstore_n 3, 1) := by decide +kernel
theorem dX6_mixRooms_2 : decode cX6_mixRooms 2 = .ok (.aload_n 0, 1) := by decide +kernel
theorem dX6_mixRooms_3 : decode cX6_mixRooms 3 = .ok (.getfield 31, 3) := by decide +kernel
theorem dX6_mixRooms_6 : decode cX6_mixRooms 6 = .ok (.astore 5, 2) := by decide +kernel
theorem dX6_mixRooms_8 : decode cX6_mixRooms 8 = .ok (.aload 5, 2) := by decide +kernel
theorem dX6_mixRooms_10 : decode cX6_mixRooms 10 = .ok (.arraylength, 1) := by decide +kernel
theorem dX6_mixRooms_11 : decode cX6_mixRooms 11 = .ok (.istore 6, 2) := by decide +kernel
theorem dX6_mixRooms_13 : decode cX6_mixRooms 13 = .ok (.iconst 0, 1) := by decide +kernel
theorem dX6_mixRooms_14 : decode cX6_mixRooms 14 = .ok (.istore 7, 2) := by decide +kernel
theorem dX6_mixRooms_16 : decode cX6_mixRooms 16 = .ok (.iload 7, 2) := by decide +kernel
theorem dX6_mixRooms_18 : decode cX6_mixRooms 18 = .ok (.iload 6, 2) := by decide +kernel
theorem dX6_mixRooms_20 : decode cX6_mixRooms 20 = .ok (.if_icmp .ge 68, 3) := by decide +kernel
theorem dX6_mixRooms_23 : decode cX6_mixRooms 23 = .ok (.aload 5, 2) := by decide +kernel
theorem dX6_mixRooms_25 : decode cX6_mixRooms 25 = .ok (.iload 7, 2) := by decide +kernel
theorem dX6_mixRooms_27 : decode cX6_mixRooms 27 = .ok (.aaload, 1) := by decide +kernel
theorem dX6_mixRooms_28 : decode cX6_mixRooms 28 = .ok (.astore 8, 2) := by decide +kernel
theorem dX6_mixRooms_30 : decode cX6_mixRooms 30 = .ok (.aload 8, 2) := by decide +kernel
theorem dX6_mixRooms_32 : decode cX6_mixRooms 32 = .ok (.ifnull 50, 3) := by decide +kernel
theorem dX6_mixRooms_35 : decode cX6_mixRooms 35 = .ok (.iconst 0, 1) := by decide +kernel
theorem dX6_mixRooms_36 : decode cX6_mixRooms 36 = .ok (.istore 9, 2) := by decide +kernel
theorem dX6_mixRooms_38 : decode cX6_mixRooms 38 = .ok (.iload 9, 2) := by decide +kernel
theorem dX6_mixRooms_40 : decode cX6_mixRooms 40 = .ok (.bipush 7, 2) := by decide +kernel
theorem dX6_mixRooms_42 : decode cX6_mixRooms 42 = .ok (.if_icmp .ge 22, 3) := by decide +kernel
theorem dX6_mixRooms_45 : decode cX6_mixRooms 45 = .ok (.lload_n 3, 1) := by decide +kernel
theorem dX6_mixRooms_46 : decode cX6_mixRooms 46 = .ok (.aload 8, 2) := by decide +kernel
theorem dX6_mixRooms_48 : decode cX6_mixRooms 48 = .ok (.iload 9, 2) := by decide +kernel
theorem dX6_mixRooms_50 : decode cX6_mixRooms 50 = .ok (.invokevirtual 126, 3) := by decide +kernel
theorem dX6_mixRooms_53 : decode cX6_mixRooms 53 = .ok (.i2l, 1) := by decide +kernel
theorem dX6_mixRooms_54 : decode cX6_mixRooms 54 = .ok (.invokestatic 231, 3) := by decide +kernel
theorem dX6_mixRooms_57 : decode cX6_mixRooms 57 = .ok (.lstore_n 3, 1) := by decide +kernel
theorem dX6_mixRooms_58 : decode cX6_mixRooms 58 = .ok (.iinc 9 1, 3) := by decide +kernel
theorem dX6_mixRooms_61 : decode cX6_mixRooms 61 = .ok (.goto (-23), 3) := by decide +kernel
theorem dX6_mixRooms_64 : decode cX6_mixRooms 64 = .ok (.lload_n 3, 1) := by decide +kernel
theorem dX6_mixRooms_65 : decode cX6_mixRooms 65 = .ok (.aload 8, 2) := by decide +kernel
theorem dX6_mixRooms_67 : decode cX6_mixRooms 67 = .ok (.getfield 101, 3) := by decide +kernel
theorem dX6_mixRooms_70 : decode cX6_mixRooms 70 = .ok (.ifCond .eq 7, 3) := by decide +kernel
theorem dX6_mixRooms_73 : decode cX6_mixRooms 73 = .ok (.lconst 1, 1) := by decide +kernel
theorem dX6_mixRooms_74 : decode cX6_mixRooms 74 = .ok (.goto 4, 3) := by decide +kernel
theorem dX6_mixRooms_77 : decode cX6_mixRooms 77 = .ok (.lconst 0, 1) := by decide +kernel
theorem dX6_mixRooms_78 : decode cX6_mixRooms 78 = .ok (.invokestatic 231, 3) := by decide +kernel
theorem dX6_mixRooms_81 : decode cX6_mixRooms 81 = .ok (.lstore_n 3, 1) := by decide +kernel
theorem dX6_mixRooms_82 : decode cX6_mixRooms 82 = .ok (.iinc 7 1, 3) := by decide +kernel
theorem dX6_mixRooms_85 : decode cX6_mixRooms 85 = .ok (.goto (-69), 3) := by decide +kernel
theorem dX6_mixRooms_88 : decode cX6_mixRooms 88 = .ok (.lload_n 3, 1) := by decide +kernel
theorem dX6_mixRooms_89 : decode cX6_mixRooms 89 = .ok (.lreturn, 1) := by decide +kernel
theorem dX6_mixPallets_0 : decode cX6_mixPallets 0 = .ok (.lload_n 1, 1) := by decide +kernel
theorem dX6_mixPallets_1 : decode cX6_mixPallets 1 = .ok (.lstore_n 3, 1) := by decide +kernel
theorem dX6_mixPallets_2 : decode cX6_mixPallets 2 = .ok (.aload_n 0, 1) := by decide +kernel
theorem dX6_mixPallets_3 : decode cX6_mixPallets 3 = .ok (.getfield 37, 3) := by decide +kernel
theorem dX6_mixPallets_6 : decode cX6_mixPallets 6 = .ok (.astore 5, 2) := by decide +kernel
theorem dX6_mixPallets_8 : decode cX6_mixPallets 8 = .ok (.aload 5, 2) := by decide +kernel
theorem dX6_mixPallets_10 : decode cX6_mixPallets 10 = .ok (.arraylength, 1) := by decide +kernel
theorem dX6_mixPallets_11 : decode cX6_mixPallets 11 = .ok (.istore 6, 2) := by decide +kernel
theorem dX6_mixPallets_13 : decode cX6_mixPallets 13 = .ok (.iconst 0, 1) := by decide +kernel
theorem dX6_mixPallets_14 : decode cX6_mixPallets 14 = .ok (.istore 7, 2) := by decide +kernel
theorem dX6_mixPallets_16 : decode cX6_mixPallets 16 = .ok (.iload 7, 2) := by decide +kernel
theorem dX6_mixPallets_18 : decode cX6_mixPallets 18 = .ok (.iload 6, 2) := by decide +kernel
theorem dX6_mixPallets_20 : decode cX6_mixPallets 20 = .ok (.if_icmp .ge 49, 3) := by decide +kernel
theorem dX6_mixPallets_23 : decode cX6_mixPallets 23 = .ok (.aload 5, 2) := by decide +kernel
theorem dX6_mixPallets_25 : decode cX6_mixPallets 25 = .ok (.iload 7, 2) := by decide +kernel
theorem dX6_mixPallets_27 : decode cX6_mixPallets 27 = .ok (.aaload, 1) := by decide +kernel
theorem dX6_mixPallets_28 : decode cX6_mixPallets 28 = .ok (.astore 8, 2) := by decide +kernel
theorem dX6_mixPallets_30 : decode cX6_mixPallets 30 = .ok (.aload 8, 2) := by decide +kernel
theorem dX6_mixPallets_32 : decode cX6_mixPallets 32 = .ok (.ifnull 31, 3) := by decide +kernel
theorem dX6_mixPallets_35 : decode cX6_mixPallets 35 = .ok (.iconst 0, 1) := by decide +kernel
theorem dX6_mixPallets_36 : decode cX6_mixPallets 36 = .ok (.istore 9, 2) := by decide +kernel
theorem dX6_mixPallets_38 : decode cX6_mixPallets 38 = .ok (.iload 9, 2) := by decide +kernel
theorem dX6_mixPallets_40 : decode cX6_mixPallets 40 = .ok (.iconst 5, 1) := by decide +kernel
theorem dX6_mixPallets_41 : decode cX6_mixPallets 41 = .ok (.if_icmp .ge 22, 3) := by decide +kernel
theorem dX6_mixPallets_44 : decode cX6_mixPallets 44 = .ok (.lload_n 3, 1) := by decide +kernel
theorem dX6_mixPallets_45 : decode cX6_mixPallets 45 = .ok (.aload 8, 2) := by decide +kernel
theorem dX6_mixPallets_47 : decode cX6_mixPallets 47 = .ok (.iload 9, 2) := by decide +kernel
theorem dX6_mixPallets_49 : decode cX6_mixPallets 49 = .ok (.invokevirtual 170, 3) := by decide +kernel
theorem dX6_mixPallets_52 : decode cX6_mixPallets 52 = .ok (.i2l, 1) := by decide +kernel
theorem dX6_mixPallets_53 : decode cX6_mixPallets 53 = .ok (.invokestatic 231, 3) := by decide +kernel
theorem dX6_mixPallets_56 : decode cX6_mixPallets 56 = .ok (.lstore_n 3, 1) := by decide +kernel
theorem dX6_mixPallets_57 : decode cX6_mixPallets 57 = .ok (.iinc 9 1, 3) := by decide +kernel
theorem dX6_mixPallets_60 : decode cX6_mixPallets 60 = .ok (.goto (-22), 3) := by decide +kernel
theorem dX6_mixPallets_63 : decode cX6_mixPallets 63 = .ok (.iinc 7 1, 3) := by decide +kernel
theorem dX6_mixPallets_66 : decode cX6_mixPallets 66 = .ok (.goto (-50), 3) := by decide +kernel
theorem dX6_mixPallets_69 : decode cX6_mixPallets 69 = .ok (.lload_n 3, 1) := by decide +kernel
theorem dX6_mixPallets_70 : decode cX6_mixPallets 70 = .ok (.lreturn, 1) := by decide +kernel
theorem dJ9_floorMod_7cf53_0 : decode cJ9_floorMod_7cf53 0 = .ok (.iload_n 0, 1) := by decide +kernel
theorem dJ9_floorMod_7cf53_1 : decode cJ9_floorMod_7cf53 1 = .ok (.iload_n 1, 1) := by decide +kernel
theorem dJ9_floorMod_7cf53_2 : decode cJ9_floorMod_7cf53 2 = .ok (.irem, 1) := by decide +kernel
theorem dJ9_floorMod_7cf53_3 : decode cJ9_floorMod_7cf53 3 = .ok (.istore_n 2, 1) := by decide +kernel
theorem dJ9_floorMod_7cf53_4 : decode cJ9_floorMod_7cf53 4 = .ok (.iload_n 0, 1) := by decide +kernel
theorem dJ9_floorMod_7cf53_5 : decode cJ9_floorMod_7cf53 5 = .ok (.iload_n 1, 1) := by decide +kernel
theorem dJ9_floorMod_7cf53_6 : decode cJ9_floorMod_7cf53 6 = .ok (.ixor, 1) := by decide +kernel
theorem dJ9_floorMod_7cf53_7 : decode cJ9_floorMod_7cf53 7 = .ok (.ifCond .ge 11, 3) := by decide +kernel
theorem dJ9_floorMod_7cf53_10 : decode cJ9_floorMod_7cf53 10 = .ok (.iload_n 2, 1) := by decide +kernel
theorem dJ9_floorMod_7cf53_11 : decode cJ9_floorMod_7cf53 11 = .ok (.ifCond .eq 7, 3) := by decide +kernel
theorem dJ9_floorMod_7cf53_14 : decode cJ9_floorMod_7cf53 14 = .ok (.iload_n 2, 1) := by decide +kernel
theorem dJ9_floorMod_7cf53_15 : decode cJ9_floorMod_7cf53 15 = .ok (.iload_n 1, 1) := by decide +kernel
theorem dJ9_floorMod_7cf53_16 : decode cJ9_floorMod_7cf53 16 = .ok (.iadd, 1) := by decide +kernel
theorem dJ9_floorMod_7cf53_17 : decode cJ9_floorMod_7cf53 17 = .ok (.ireturn, 1) := by decide +kernel
theorem dJ9_floorMod_7cf53_18 : decode cJ9_floorMod_7cf53 18 = .ok (.iload_n 2, 1) := by decide +kernel
theorem dJ9_floorMod_7cf53_19 : decode cJ9_floorMod_7cf53 19 = .ok (.ireturn, 1) := by decide +kernel
theorem dJ9_abs_0f7a4_0 : decode cJ9_abs_0f7a4 0 = .ok (.iload_n 0, 1) := by decide +kernel
theorem dJ9_abs_0f7a4_1 : decode cJ9_abs_0f7a4 1 = .ok (.ifCond .ge 8, 3) := by decide +kernel
theorem dJ9_abs_0f7a4_4 : decode cJ9_abs_0f7a4 4 = .ok (.iload_n 0, 1) := by decide +kernel
theorem dJ9_abs_0f7a4_5 : decode cJ9_abs_0f7a4 5 = .ok (.ineg, 1) := by decide +kernel
theorem dJ9_abs_0f7a4_6 : decode cJ9_abs_0f7a4 6 = .ok (.goto 4, 3) := by decide +kernel
theorem dJ9_abs_0f7a4_9 : decode cJ9_abs_0f7a4 9 = .ok (.iload_n 0, 1) := by decide +kernel
theorem dJ9_abs_0f7a4_10 : decode cJ9_abs_0f7a4 10 = .ok (.ireturn, 1) := by decide +kernel
theorem dJ9_max_7cf53_0 : decode cJ9_max_7cf53 0 = .ok (.iload_n 0, 1) := by decide +kernel
theorem dJ9_max_7cf53_1 : decode cJ9_max_7cf53 1 = .ok (.iload_n 1, 1) := by decide +kernel
theorem dJ9_max_7cf53_2 : decode cJ9_max_7cf53 2 = .ok (.if_icmp .lt 7, 3) := by decide +kernel
theorem dJ9_max_7cf53_5 : decode cJ9_max_7cf53 5 = .ok (.iload_n 0, 1) := by decide +kernel
theorem dJ9_max_7cf53_6 : decode cJ9_max_7cf53 6 = .ok (.goto 4, 3) := by decide +kernel
theorem dJ9_max_7cf53_9 : decode cJ9_max_7cf53 9 = .ok (.iload_n 1, 1) := by decide +kernel
theorem dJ9_max_7cf53_10 : decode cJ9_max_7cf53 10 = .ok (.ireturn, 1) := by decide +kernel
theorem dJ9_min_7cf53_0 : decode cJ9_min_7cf53 0 = .ok (.iload_n 0, 1) := by decide +kernel
theorem dJ9_min_7cf53_1 : decode cJ9_min_7cf53 1 = .ok (.iload_n 1, 1) := by decide +kernel
theorem dJ9_min_7cf53_2 : decode cJ9_min_7cf53 2 = .ok (.if_icmp .gt 7, 3) := by decide +kernel
theorem dJ9_min_7cf53_5 : decode cJ9_min_7cf53 5 = .ok (.iload_n 0, 1) := by decide +kernel
theorem dJ9_min_7cf53_6 : decode cJ9_min_7cf53 6 = .ok (.goto 4, 3) := by decide +kernel
theorem dJ9_min_7cf53_9 : decode cJ9_min_7cf53 9 = .ok (.iload_n 1, 1) := by decide +kernel
theorem dJ9_min_7cf53_10 : decode cJ9_min_7cf53 10 = .ok (.ireturn, 1) := by decide +kernel
end
section
theorem dX7_init_0 : decode cX7_init 0 = .ok (.aload_n 0, 1) := by decide +kernel
theorem dX7_init_1 : decode cX7_init 1 = .ok (.invokespecial 1, 3) := by decide +kernel
theorem dX7_init_4 : decode cX7_init 4 = .ok (.aload_n 0, 1) := by decide +kernel
theorem dX7_init_5 : decode cX7_init 5 = .ok (.sipush 150, 3) := by decide +kernel
theorem dX7_init_8 : decode cX7_init 8 = .ok (.putfield 7, 3) := by decide +kernel
theorem dX7_init_11 : decode cX7_init 11 = .ok (.aload_n 0, 1) := by decide +kernel
theorem dX7_init_12 : decode cX7_init 12 = .ok (.bipush 24, 2) := by decide +kernel
theorem dX7_init_14 : decode cX7_init 14 = .ok (.newarray .int, 2) := by decide +kernel
theorem dX7_init_16 : decode cX7_init 16 = .ok (.putfield 13, 3) := by decide +kernel
theorem dX7_init_19 : decode cX7_init 19 = .ok (.aload_n 0, 1) := by decide +kernel
theorem dX7_init_20 : decode cX7_init 20 = .ok (.bipush 12, 2) := by decide +kernel
theorem dX7_init_22 : decode cX7_init 22 = .ok (.newarray .int, 2) := by decide +kernel
theorem dX7_init_24 : decode cX7_init 24 = .ok (.putfield 17, 3) := by decide +kernel
theorem dX7_init_27 : decode cX7_init 27 = .ok (.aload_n 0, 1) := by decide +kernel
theorem dX7_init_28 : decode cX7_init 28 = .ok (.bipush 12, 2) := by decide +kernel
theorem dX7_init_30 : decode cX7_init 30 = .ok (.newarray .int, 2) := by decide +kernel
theorem dX7_init_32 : decode cX7_init 32 = .ok (.putfield 20, 3) := by decide +kernel
theorem dX7_init_35 : decode cX7_init 35 = .ok (.aload_n 0, 1) := by decide +kernel
theorem dX7_init_36 : decode cX7_init 36 = .ok (.bipush 12, 2) := by decide +kernel
theorem dX7_init_38 : decode cX7_init 38 = .ok (.newarray .int, 2) := by decide +kernel
theorem dX7_init_40 : decode cX7_init 40 = .ok (.putfield 23, 3) := by decide +kernel
theorem dX7_init_43 : decode cX7_init 43 = .ok (.aload_n 0, 1) := by decide +kernel
theorem dX7_init_44 : decode cX7_init 44 = .ok (.bipush 12, 2) := by decide +kernel
theorem dX7_init_46 : decode cX7_init 46 = .ok (.newarray .int, 2) := by decide +kernel
theorem dX7_init_48 : decode cX7_init 48 = .ok (.putfield 26, 3) := by decide +kernel
theorem dX7_init_51 : decode cX7_init 51 = .ok (.aload_n 0, 1) := by decide +kernel
theorem dX7_init_52 : decode cX7_init 52 = .ok (.bipush 6, 2) := by decide +kernel
theorem dX7_init_54 : decode cX7_init 54 = .ok (.newarray .int, 2) := by decide +kernel
theorem dX7_init_56 : decode cX7_init 56 = .ok (.putfield 29, 3) := by decide +kernel
theorem dX7_init_59 : decode cX7_init 59 = .ok (.aload_n 0, 1) := by decide +kernel
theorem dX7_init_60 : decode cX7_init 60 = .ok (.bipush 6, 2) := by decide +kernel
theorem dX7_init_62 : decode cX7_init 62 = .ok (.newarray .int, 2) := by decide +kernel
theorem dX7_init_64 : decode cX7_init 64 = .ok (.putfield 32, 3) := by decide +kernel
theorem dX7_init_67 : decode cX7_init 67 = .ok (.aload_n 0, 1) := by decide +kernel
theorem dX7_init_68 : decode cX7_init 68 = .ok (.bipush 6, 2) := by decide +kernel
theorem dX7_init_70 : decode cX7_init 70 = .ok (.newarray .int, 2) := by decide +kernel
theorem dX7_init_72 : decode cX7_init 72 = .ok (.putfield 35, 3) := by decide +kernel
theorem dX7_init_75 : decode cX7_init 75 = .ok (.aload_n 0, 1) := by decide +kernel
theorem dX7_init_76 : decode cX7_init 76 = .ok (.bipush 6, 2) := by decide +kernel
theorem dX7_init_78 : decode cX7_init 78 = .ok (.newarray .int, 2) := by decide +kernel
theorem dX7_init_80 : decode cX7_init 80 = .ok (.putfield 38, 3) := by decide +kernel
theorem dX7_init_83 : decode cX7_init 83 = .ok (.aload_n 0, 1) := by decide +kernel
theorem dX7_init_84 : decode cX7_init 84 = .ok (.bipush 6, 2) := by decide +kernel
theorem dX7_init_86 : decode cX7_init 86 = .ok (.newarray .boolean, 2) := by decide +kernel
theorem dX7_init_88 : decode cX7_init 88 = .ok (.putfield 41, 3) := by decide +kernel
theorem dX7_init_91 : decode cX7_init 91 = .ok (.aload_n 0, 1) := by decide +kernel
theorem dX7_init_92 : decode cX7_init 92 = .ok (.bipush 36, 2) := by decide +kernel
theorem dX7_init_94 : decode cX7_init 94 = .ok (.newarray .int, 2) := by decide +kernel
theorem dX7_init_96 : decode cX7_init 96 = .ok (.putfield 45, 3) := by decide +kernel
theorem dX7_init_99 : decode cX7_init 99 = .ok (.aload_n 0, 1) := by decide +kernel
theorem dX7_init_100 : decode cX7_init 100 = .ok (.bipush 60, 2) := by decide +kernel
theorem dX7_init_102 : decode cX7_init 102 = .ok (.newarray .int, 2) := by decide +kernel
theorem dX7_init_104 : decode cX7_init 104 = .ok (.putfield 48, 3) := by decide +kernel
theorem dX7_init_107 : decode cX7_init 107 = .ok (.aload_n 0, 1) := by decide +kernel
theorem dX7_init_108 : decode cX7_init 108 = .ok (.bipush 60, 2) := by decide +kernel
theorem dX7_init_110 : decode cX7_init 110 = .ok (.newarray .int, 2) := by decide +kernel
theorem dX7_init_112 : decode cX7_init 112 = .ok (.putfield 51, 3) := by decide +kernel
theorem dX7_init_115 : decode cX7_init 115 = .ok (.aload_n 0, 1) := by decide +kernel
theorem dX7_init_116 : decode cX7_init 116 = .ok (.bipush 60, 2) := by decide +kernel
theorem dX7_init_118 : decode cX7_init 118 = .ok (.newarray .int, 2) := by decide +kernel
theorem dX7_init_120 : decode cX7_init 120 = .ok (.putfield 54, 3) := by decide +kernel
theorem dX7_init_123 : decode cX7_init 123 = .ok (.aload_n 0, 1) := by decide +kernel
theorem dX7_init_124 : decode cX7_init 124 = .ok (.bipush 60, 2) := by decide +kernel
theorem dX7_init_126 : decode cX7_init 126 = .ok (.newarray .int, 2) := by decide +kernel
theorem dX7_init_128 : decode cX7_init 128 = .ok (.putfield 57, 3) := by decide +kernel
theorem dX7_init_131 : decode cX7_init 131 = .ok (.iconst 0, 1) := by decide +kernel
theorem dX7_init_132 : decode cX7_init 132 = .ok (.istore_n 1, 1) := by decide +kernel
theorem dX7_init_133 : decode cX7_init 133 = .ok (.iload_n 1, 1) := by decide +kernel
theorem dX7_init_134 : decode cX7_init 134 = .ok (.bipush 24, 2) := by decide +kernel
theorem dX7_init_136 : decode cX7_init 136 = .ok (.if_icmp .ge 17, 3) := by decide +kernel
theorem dX7_init_139 : decode cX7_init 139 = .ok (.aload_n 0, 1) := by decide +kernel
theorem dX7_init_140 : decode cX7_init 140 = .ok (.getfield 13, 3) := by decide +kernel
theorem dX7_init_143 : decode cX7_init 143 = .ok (.iload_n 1, 1) := by decide +kernel
theorem dX7_init_144 : decode cX7_init 144 = .ok (.bipush 10, 2) := by decide +kernel
theorem dX7_init_146 : decode cX7_init 146 = .ok (.iastore, 1) := by decide +kernel
theorem dX7_init_147 : decode cX7_init 147 = .ok (.iinc 1 1, 3) := by decide +kernel
theorem dX7_init_150 : decode cX7_init 150 = .ok (.goto (-17), 3) := by decide +kernel
theorem dX7_init_153 : decode cX7_init 153 = .ok (.return_, 1) := by decide +kernel
theorem dX7_thrown_0 : decode cX7_thrown 0 = .ok (.aload_n 0, 1) := by decide +kernel
theorem dX7_thrown_1 : decode cX7_thrown 1 = .ok (.getfield 60, 3) := by decide +kernel
theorem dX7_thrown_4 : decode cX7_thrown 4 = .ok (.ireturn, 1) := by decide +kernel
theorem dX7_no_0 : decode cX7_no 0 = .ok (.aload_n 0, 1) := by decide +kernel
theorem dX7_no_1 : decode cX7_no 1 = .ok (.iload_n 1, 1) := by decide +kernel
theorem dX7_no_2 : decode cX7_no 2 = .ok (.putfield 60, 3) := by decide +kernel
theorem dX7_no_5 : decode cX7_no 5 = .ok (.iconst 0, 1) := by decide +kernel
theorem dX7_no_6 : decode cX7_no 6 = .ok (.ireturn, 1) := by decide +kernel
theorem dX7_isIn_0 : decode cX7_isIn 0 = .ok (.iload_n 0, 1) := by decide +kernel
theorem dX7_isIn_1 : decode cX7_isIn 1 = .ok (.iload_n 1, 1) := by decide +kernel
theorem dX7_isIn_2 : decode cX7_isIn 2 = .ok (.if_icmp .lt 12, 3) := by decide +kernel
theorem dX7_isIn_5 : decode cX7_isIn 5 = .ok (.iload_n 0, 1) := by decide +kernel
theorem dX7_isIn_6 : decode cX7_isIn 6 = .ok (.iload_n 2, 1) := by decide +kernel
theorem dX7_isIn_7 : decode cX7_isIn 7 = .ok (.if_icmp .gt 7, 3) := by decide +kernel
theorem dX7_isIn_10 : decode cX7_isIn 10 = .ok (.iconst 1, 1) := by decide +kernel
theorem dX7_isIn_11 : decode cX7_isIn 11 = .ok (.goto 4, 3) := by decide +kernel
theorem dX7_isIn_14 : decode cX7_isIn 14 = .ok (.iconst 0, 1) := by decide +kernel
theorem dX7_isIn_15 : decode cX7_isIn 15 = .ok (.ireturn, 1) := by decide +kernel
theorem dX7_isProduct_0 : decode cX7_isProduct 0 = .ok (.iload_n 1, 1) := by decide +kernel
theorem dX7_isProduct_1 : decode cX7_isProduct 1 = .ok (.iconst 0, 1) := by decide +kernel
theorem dX7_isProduct_2 : decode cX7_isProduct 2 = .ok (.aload_n 0, 1) := by decide +kernel
theorem dX7_isProduct_3 : decode cX7_isProduct 3 = .ok (.getfield 63, 3) := by decide +kernel
theorem dX7_isProduct_6 : decode cX7_isProduct 6 = .ok (.iconst 1, 1) := by decide +kernel
theorem dX7_isProduct_7 : decode cX7_isProduct 7 = .ok (.isub, 1) := by decide +kernel
theorem dX7_isProduct_8 : decode cX7_isProduct 8 = .ok (.invokestatic 66, 3) := by decide +kernel
theorem dX7_isProduct_11 : decode cX7_isProduct 11 = .ok (.ireturn, 1) := by decide +kernel
theorem dX7_isRoom_0 : decode cX7_isRoom 0 = .ok (.iload_n 1, 1) := by decide +kernel
theorem dX7_isRoom_1 : decode cX7_isRoom 1 = .ok (.iconst 0, 1) := by decide +kernel
theorem dX7_isRoom_2 : decode cX7_isRoom 2 = .ok (.aload_n 0, 1) := by decide +kernel
theorem dX7_isRoom_3 : decode cX7_isRoom 3 = .ok (.getfield 70, 3) := by decide +kernel
theorem dX7_isRoom_6 : decode cX7_isRoom 6 = .ok (.iconst 1, 1) := by decide +kernel
theorem dX7_isRoom_7 : decode cX7_isRoom 7 = .ok (.isub, 1) := by decide +kernel
theorem dX7_isRoom_8 : decode cX7_isRoom 8 = .ok (.invokestatic 66, 3) := by decide +kernel
theorem dX7_isRoom_11 : decode cX7_isRoom 11 = .ok (.ireturn, 1) := by decide +kernel
theorem dX7_isPallet_0 : decode cX7_isPallet 0 = .ok (.iload_n 1, 1) := by decide +kernel
theorem dX7_isPallet_1 : decode cX7_isPallet 1 = .ok (.iconst 0, 1) := by decide +kernel
theorem dX7_isPallet_2 : decode cX7_isPallet 2 = .ok (.aload_n 0, 1) := by decide +kernel
theorem dX7_isPallet_3 : decode cX7_isPallet 3 = .ok (.getfield 73, 3) := by decide +kernel
theorem dX7_isPallet_6 : decode cX7_isPallet 6 = .ok (.iconst 1, 1) := by decide +kernel
theorem dX7_isPallet_7 : decode cX7_isPallet 7 = .ok (.isub, 1) := by decide +kernel
theorem dX7_isPallet_8 : decode cX7_isPallet 8 = .ok (.invokestatic 66, 3) := by decide +kernel
theorem dX7_isPallet_11 : decode cX7_isPallet 11 = .ok (.ireturn, 1) := by decide +kernel
theorem dX7_outsideAt_0 : decode cX7_outsideAt 0 = .ok (.aload_n 0, 1) := by decide +kernel
theorem dX7_outsideAt_1 : decode cX7_outsideAt 1 = .ok (.getfield 7, 3) := by decide +kernel
theorem dX7_outsideAt_4 : decode cX7_outsideAt 4 = .ok (.iload_n 1, 1) := by decide +kernel
theorem dX7_outsideAt_5 : decode cX7_outsideAt 5 = .ok (.bipush 8, 2) := by decide +kernel
theorem dX7_outsideAt_7 : decode cX7_outsideAt 7 = .ok (.bipush 20, 2) := by decide +kernel
theorem dX7_outsideAt_9 : decode cX7_outsideAt 9 = .ok (.invokestatic 66, 3) := by decide +kernel
theorem dX7_outsideAt_12 : decode cX7_outsideAt 12 = .ok (.ifCond .eq 24, 3) := by decide +kernel
theorem dX7_outsideAt_15 : decode cX7_outsideAt 15 = .ok (.aload_n 0, 1) := by decide +kernel
theorem dX7_outsideAt_16 : decode cX7_outsideAt 16 = .ok (.getfield 76, 3) := by decide +kernel
theorem dX7_outsideAt_19 : decode cX7_outsideAt 19 = .ok (.bipush 6, 2) := by decide +kernel
theorem dX7_outsideAt_21 : decode cX7_outsideAt 21 = .ok (.iload_n 1, 1) := by decide +kernel
theorem dX7_outsideAt_22 : decode cX7_outsideAt 22 = .ok (.bipush 14, 2) := by decide +kernel
theorem dX7_outsideAt_24 : decode cX7_outsideAt 24 = .ok (.isub, 1) := by decide +kernel
theorem dX7_outsideAt_25 : decode cX7_outsideAt 25 = .ok (.invokestatic 79, 3) := by decide +kernel
theorem dX7_outsideAt_28 : decode cX7_outsideAt 28 = .ok (.isub, 1) := by decide +kernel
theorem dX7_outsideAt_29 : decode cX7_outsideAt 29 = .ok (.imul, 1) := by decide +kernel
theorem dX7_outsideAt_30 : decode cX7_outsideAt 30 = .ok (.bipush 6, 2) := by decide +kernel
theorem dX7_outsideAt_32 : decode cX7_outsideAt 32 = .ok (.idiv, 1) := by decide +kernel
theorem dX7_outsideAt_33 : decode cX7_outsideAt 33 = .ok (.goto 4, 3) := by decide +kernel
theorem dX7_outsideAt_36 : decode cX7_outsideAt 36 = .ok (.iconst 0, 1) := by decide +kernel
theorem dX7_outsideAt_37 : decode cX7_outsideAt 37 = .ok (.iadd, 1) := by decide +kernel
theorem dX7_outsideAt_38 : decode cX7_outsideAt 38 = .ok (.ireturn, 1) := by decide +kernel
theorem dX7_setOutside_0 : decode cX7_setOutside 0 = .ok (.aload_n 0, 1) := by decide +kernel
theorem dX7_setOutside_1 : decode cX7_setOutside 1 = .ok (.iconst 0, 1) := by decide +kernel
theorem dX7_setOutside_2 : decode cX7_setOutside 2 = .ok (.putfield 60, 3) := by decide +kernel
theorem dX7_setOutside_5 : decode cX7_setOutside 5 = .ok (.iload_n 1, 1) := by decide +kernel
theorem dX7_setOutside_6 : decode cX7_setOutside 6 = .ok (.sipush (-300), 3) := by decide +kernel
theorem dX7_setOutside_9 : decode cX7_setOutside 9 = .ok (.sipush 400, 3) := by decide +kernel
theorem dX7_setOutside_12 : decode cX7_setOutside 12 = .ok (.invokestatic 66, 3) := by decide +kernel
theorem dX7_setOutside_15 : decode cX7_setOutside 15 = .ok (.ifCond .eq 14, 3) := by decide +kernel
theorem dX7_setOutside_18 : decode cX7_setOutside 18 = .ok (.iload_n 2, 1) := by decide +kernel
theorem dX7_setOutside_19 : decode cX7_setOutside 19 = .ok (.iconst 0, 1) := by decide +kernel
theorem dX7_setOutside_20 : decode cX7_setOutside 20 = .ok (.sipush 200, 3) := by decide +kernel
theorem dX7_setOutside_23 : decode cX7_setOutside 23 = .ok (.invokestatic 66, 3) := by decide +kernel
theorem dX7_setOutside_26 : decode cX7_setOutside 26 = .ok (.ifCond .ne 9, 3) := by decide +kernel
theorem dX7_setOutside_29 : decode cX7_setOutside 29 = .ok (.aload_n 0, 1) := by decide +kernel
theorem dX7_setOutside_30 : decode cX7_setOutside 30 = .ok (.iconst 1, 1) := by decide +kernel
theorem dX7_setOutside_31 : decode cX7_setOutside 31 = .ok (.invokevirtual 85, 3) := by decide +kernel
theorem dX7_setOutside_34 : decode cX7_setOutside 34 = .ok (.ireturn, 1) := by decide +kernel
theorem dX7_setOutside_35 : decode cX7_setOutside 35 = .ok (.aload_n 0, 1) := by decide +kernel
theorem dX7_setOutside_36 : decode cX7_setOutside 36 = .ok (.iload_n 1, 1) := by decide +kernel
theorem dX7_setOutside_37 : decode cX7_setOutside 37 = .ok (.putfield 7, 3) := by decide +kernel
theorem dX7_setOutside_40 : decode cX7_setOutside 40 = .ok (.aload_n 0, 1) := by decide +kernel
theorem dX7_setOutside_41 : decode cX7_setOutside 41 = .ok (.iload_n 2, 1) := by decide +kernel
theorem dX7_setOutside_42 : decode cX7_setOutside 42 = .ok (.putfield 76, 3) := by decide +kernel
theorem dX7_setOutside_45 : decode cX7_setOutside 45 = .ok (.aload_n 0, 1) := by decide +kernel
theorem dX7_setOutside_46 : decode cX7_setOutside 46 = .ok (.aload_n 0, 1) := by decide +kernel
theorem dX7_setOutside_47 : decode cX7_setOutside 47 = .ok (.getfield 88, 3) := by decide +kernel
theorem dX7_setOutside_50 : decode cX7_setOutside 50 = .ok (.bipush 24, 2) := by decide +kernel
theorem dX7_setOutside_52 : decode cX7_setOutside 52 = .ok (.irem, 1) := by decide +kernel
theorem dX7_setOutside_53 : decode cX7_setOutside 53 = .ok (.invokevirtual 91, 3) := by decide +kernel
theorem dX7_setOutside_56 : decode cX7_setOutside 56 = .ok (.ireturn, 1) := by decide +kernel
theorem dX7_outside_0 : decode cX7_outside 0 = .ok (.aload_n 0, 1) := by decide +kernel
theorem dX7_outside_1 : decode cX7_outside 1 = .ok (.iconst 0, 1) := by decide +kernel
theorem dX7_outside_2 : decode cX7_outside 2 = .ok (.putfield 60, 3) := by decide +kernel
theorem dX7_outside_5 : decode cX7_outside 5 = .ok (.iload_n 1, 1) := by decide +kernel
theorem dX7_outside_6 : decode cX7_outside 6 = .ok (.iconst 0, 1) := by decide +kernel
theorem dX7_outside_7 : decode cX7_outside 7 = .ok (.bipush 23, 2) := by decide +kernel
theorem dX7_outside_9 : decode cX7_outside 9 = .ok (.invokestatic 66, 3) := by decide +kernel
theorem dX7_outside_12 : decode cX7_outside 12 = .ok (.ifCond .eq 11, 3) := by decide +kernel
theorem dX7_outside_15 : decode cX7_outside 15 = .ok (.aload_n 0, 1) := by decide +kernel
theorem dX7_outside_16 : decode cX7_outside 16 = .ok (.iload_n 1, 1) := by decide +kernel
theorem dX7_outside_17 : decode cX7_outside 17 = .ok (.invokevirtual 91, 3) := by decide +kernel
theorem dX7_outside_20 : decode cX7_outside 20 = .ok (.goto 8, 3) := by decide +kernel
theorem dX7_outside_23 : decode cX7_outside 23 = .ok (.aload_n 0, 1) := by decide +kernel
theorem dX7_outside_24 : decode cX7_outside 24 = .ok (.iconst 1, 1) := by decide +kernel
theorem dX7_outside_25 : decode cX7_outside 25 = .ok (.invokevirtual 85, 3) := by decide +kernel
theorem dX7_outside_28 : decode cX7_outside 28 = .ok (.ireturn, 1) := by decide +kernel
theorem dX7_lowest_0 : decode cX7_lowest 0 = .ok (.aload_n 0, 1) := by decide +kernel
theorem dX7_lowest_1 : decode cX7_lowest 1 = .ok (.getfield 13, 3) := by decide +kernel
theorem dX7_lowest_4 : decode cX7_lowest 4 = .ok (.iconst 0, 1) := by decide +kernel
theorem dX7_lowest_5 : decode cX7_lowest 5 = .ok (.iaload, 1) := by decide +kernel
theorem dX7_lowest_6 : decode cX7_lowest 6 = .ok (.istore_n 1, 1) := by decide +kernel
theorem dX7_lowest_7 : decode cX7_lowest 7 = .ok (.aload_n 0, 1) := by decide +kernel
theorem dX7_lowest_8 : decode cX7_lowest 8 = .ok (.getfield 13, 3) := by decide +kernel
theorem dX7_lowest_11 : decode cX7_lowest 11 = .ok (.astore_n 2, 1) := by decide +kernel
theorem dX7_lowest_12 : decode cX7_lowest 12 = .ok (.aload_n 2, 1) := by decide +kernel
theorem dX7_lowest_13 : decode cX7_lowest 13 = .ok (.arraylength, 1) := by decide +kernel
theorem dX7_lowest_14 : decode cX7_lowest 14 = .ok (.istore_n 3, 1) := by decide +kernel
theorem dX7_lowest_15 : decode cX7_lowest 15 = .ok (.iconst 0, 1) := by decide +kernel
theorem dX7_lowest_16 : decode cX7_lowest 16 = .ok (.istore 4, 2) := by decide +kernel
theorem dX7_lowest_18 : decode cX7_lowest 18 = .ok (.iload 4, 2) := by decide +kernel
theorem dX7_lowest_20 : decode cX7_lowest 20 = .ok (.iload_n 3, 1) := by decide +kernel
theorem dX7_lowest_21 : decode cX7_lowest 21 = .ok (.if_icmp .ge 22, 3) := by decide +kernel
theorem dX7_lowest_24 : decode cX7_lowest 24 = .ok (.aload_n 2, 1) := by decide +kernel
theorem dX7_lowest_25 : decode cX7_lowest 25 = .ok (.iload 4, 2) := by decide +kernel
theorem dX7_lowest_27 : decode cX7_lowest 27 = .ok (.iaload, 1) := by decide +kernel
theorem dX7_lowest_28 : decode cX7_lowest 28 = .ok (.istore 5, 2) := by decide +kernel
theorem dX7_lowest_30 : decode cX7_lowest 30 = .ok (.iload_n 1, 1) := by decide +kernel
theorem dX7_lowest_31 : decode cX7_lowest 31 = .ok (.iload 5, 2) := by decide +kernel
theorem dX7_lowest_33 : decode cX7_lowest 33 = .ok (.invokestatic 94, 3) := by decide +kernel
theorem dX7_lowest_36 : decode cX7_lowest 36 = .ok (.istore_n 1, 1) := by decide +kernel
theorem dX7_lowest_37 : decode cX7_lowest 37 = .ok (.iinc 4 1, 3) := by decide +kernel
theorem dX7_lowest_40 : decode cX7_lowest 40 = .ok (.goto (-22), 3) := by decide +kernel
theorem dX7_lowest_43 : decode cX7_lowest 43 = .ok (.iload_n 1, 1) := by decide +kernel
theorem dX7_lowest_44 : decode cX7_lowest 44 = .ok (.ireturn, 1) := by decide +kernel
theorem dX7_setPrice_0 : decode cX7_setPrice 0 = .ok (.aload_n 0, 1) := by decide +kernel
theorem dX7_setPrice_1 : decode cX7_setPrice 1 = .ok (.iconst 0, 1) := by decide +kernel
theorem dX7_setPrice_2 : decode cX7_setPrice 2 = .ok (.putfield 60, 3) := by decide +kernel
theorem dX7_setPrice_5 : decode cX7_setPrice 5 = .ok (.iload_n 1, 1) := by decide +kernel
theorem dX7_setPrice_6 : decode cX7_setPrice 6 = .ok (.ifCond .lt 24, 3) := by decide +kernel
theorem dX7_setPrice_9 : decode cX7_setPrice 9 = .ok (.iload_n 1, 1) := by decide +kernel
theorem dX7_setPrice_10 : decode cX7_setPrice 10 = .ok (.iload_n 2, 1) := by decide +kernel
theorem dX7_setPrice_11 : decode cX7_setPrice 11 = .ok (.if_icmp .gt 19, 3) := by decide +kernel
theorem dX7_setPrice_14 : decode cX7_setPrice 14 = .ok (.iload_n 2, 1) := by decide +kernel
theorem dX7_setPrice_15 : decode cX7_setPrice 15 = .ok (.bipush 24, 2) := by decide +kernel
theorem dX7_setPrice_17 : decode cX7_setPrice 17 = .ok (.if_icmp .ge 13, 3) := by decide +kernel
theorem dX7_setPrice_20 : decode cX7_setPrice 20 = .ok (.iload_n 3, 1) := by decide +kernel
theorem dX7_setPrice_21 : decode cX7_setPrice 21 = .ok (.iconst 1, 1) := by decide +kernel
theorem dX7_setPrice_22 : decode cX7_setPrice 22 = .ok (.bipush 100, 2) := by decide +kernel
theorem dX7_setPrice_24 : decode cX7_setPrice 24 = .ok (.invokestatic 66, 3) := by decide +kernel
theorem dX7_setPrice_27 : decode cX7_setPrice 27 = .ok (.ifCond .ne 9, 3) := by decide +kernel
theorem dX7_setPrice_30 : decode cX7_setPrice 30 = .ok (.aload_n 0, 1) := by decide +kernel
theorem dX7_setPrice_31 : decode cX7_setPrice 31 = .ok (.iconst 1, 1) := by decide +kernel
theorem dX7_setPrice_32 : decode cX7_setPrice 32 = .ok (.invokevirtual 85, 3) := by decide +kernel
theorem dX7_setPrice_35 : decode cX7_setPrice 35 = .ok (.ireturn, 1) := by decide +kernel
theorem dX7_setPrice_36 : decode cX7_setPrice 36 = .ok (.iload_n 1, 1) := by decide +kernel
theorem dX7_setPrice_37 : decode cX7_setPrice 37 = .ok (.istore 4, 2) := by decide +kernel
theorem dX7_setPrice_39 : decode cX7_setPrice 39 = .ok (.iload 4, 2) := by decide +kernel
theorem dX7_setPrice_41 : decode cX7_setPrice 41 = .ok (.iload_n 2, 1) := by decide +kernel
theorem dX7_setPrice_42 : decode cX7_setPrice 42 = .ok (.if_icmp .gt 17, 3) := by decide +kernel
theorem dX7_setPrice_45 : decode cX7_setPrice 45 = .ok (.aload_n 0, 1) := by decide +kernel
theorem dX7_setPrice_46 : decode cX7_setPrice 46 = .ok (.getfield 13, 3) := by decide +kernel
theorem dX7_setPrice_49 : decode cX7_setPrice 49 = .ok (.iload 4, 2) := by decide +kernel
theorem dX7_setPrice_51 : decode cX7_setPrice 51 = .ok (.iload_n 3, 1) := by decide +kernel
theorem dX7_setPrice_52 : decode cX7_setPrice 52 = .ok (.iastore, 1) := by decide +kernel
theorem dX7_setPrice_53 : decode cX7_setPrice 53 = .ok (.iinc 4 1, 3) := by decide +kernel
theorem dX7_setPrice_56 : decode cX7_setPrice 56 = .ok (.goto (-17), 3) := by decide +kernel
theorem dX7_setPrice_59 : decode cX7_setPrice 59 = .ok (.aload_n 0, 1) := by decide +kernel
theorem dX7_setPrice_60 : decode cX7_setPrice 60 = .ok (.invokevirtual 98, 3) := by decide +kernel
theorem dX7_setPrice_63 : decode cX7_setPrice 63 = .ok (.ireturn, 1) := by decide +kernel
theorem dX7_addProduct_0 : decode cX7_addProduct 0 = .ok (.aload_n 0, 1) := by decide +kernel
theorem dX7_addProduct_1 : decode cX7_addProduct 1 = .ok (.iconst 0, 1) := by decide +kernel
theorem dX7_addProduct_2 : decode cX7_addProduct 2 = .ok (.putfield 60, 3) := by decide +kernel
theorem dX7_addProduct_5 : decode cX7_addProduct 5 = .ok (.iload_n 1, 1) := by decide +kernel
theorem dX7_addProduct_6 : decode cX7_addProduct 6 = .ok (.sipush (-300), 3) := by decide +kernel
theorem dX7_addProduct_9 : decode cX7_addProduct 9 = .ok (.if_icmp .lt 37, 3) := by decide +kernel
theorem dX7_addProduct_12 : decode cX7_addProduct 12 = .ok (.iload_n 2, 1) := by decide +kernel
theorem dX7_addProduct_13 : decode cX7_addProduct 13 = .ok (.iload_n 1, 1) := by decide +kernel
theorem dX7_addProduct_14 : decode cX7_addProduct 14 = .ok (.if_icmp .lt 32, 3) := by decide +kernel
theorem dX7_addProduct_17 : decode cX7_addProduct 17 = .ok (.iload_n 2, 1) := by decide +kernel
theorem dX7_addProduct_18 : decode cX7_addProduct 18 = .ok (.sipush 200, 3) := by decide +kernel
theorem dX7_addProduct_21 : decode cX7_addProduct 21 = .ok (.if_icmp .gt 25, 3) := by decide +kernel
theorem dX7_addProduct_24 : decode cX7_addProduct 24 = .ok (.iload_n 3, 1) := by decide +kernel
theorem dX7_addProduct_25 : decode cX7_addProduct 25 = .ok (.bipush 10, 2) := by decide +kernel
theorem dX7_addProduct_27 : decode cX7_addProduct 27 = .ok (.sipush 5000, 3) := by decide +kernel
theorem dX7_addProduct_30 : decode cX7_addProduct 30 = .ok (.invokestatic 66, 3) := by decide +kernel
theorem dX7_addProduct_33 : decode cX7_addProduct 33 = .ok (.ifCond .eq 13, 3) := by decide +kernel
theorem dX7_addProduct_36 : decode cX7_addProduct 36 = .ok (.iload 4, 2) := by decide +kernel
theorem dX7_addProduct_38 : decode cX7_addProduct 38 = .ok (.iconst 0, 1) := by decide +kernel
theorem dX7_addProduct_39 : decode cX7_addProduct 39 = .ok (.iconst 3, 1) := by decide +kernel
theorem dX7_addProduct_40 : decode cX7_addProduct 40 = .ok (.invokestatic 66, 3) := by decide +kernel
theorem dX7_addProduct_43 : decode cX7_addProduct 43 = .ok (.ifCond .ne 9, 3) := by decide +kernel
theorem dX7_addProduct_46 : decode cX7_addProduct 46 = .ok (.aload_n 0, 1) := by decide +kernel
theorem dX7_addProduct_47 : decode cX7_addProduct 47 = .ok (.iconst 1, 1) := by decide +kernel
theorem dX7_addProduct_48 : decode cX7_addProduct 48 = .ok (.invokevirtual 85, 3) := by decide +kernel
theorem dX7_addProduct_51 : decode cX7_addProduct 51 = .ok (.ireturn, 1) := by decide +kernel
theorem dX7_addProduct_52 : decode cX7_addProduct 52 = .ok (.aload_n 0, 1) := by decide +kernel
theorem dX7_addProduct_53 : decode cX7_addProduct 53 = .ok (.getfield 63, 3) := by decide +kernel
theorem dX7_addProduct_56 : decode cX7_addProduct 56 = .ok (.bipush 12, 2) := by decide +kernel
theorem dX7_addProduct_58 : decode cX7_addProduct 58 = .ok (.if_icmp .ne 9, 3) := by decide +kernel
theorem dX7_addProduct_61 : decode cX7_addProduct 61 = .ok (.aload_n 0, 1) := by decide +kernel
theorem dX7_addProduct_62 : decode cX7_addProduct 62 = .ok (.iconst 2, 1) := by decide +kernel
theorem dX7_addProduct_63 : decode cX7_addProduct 63 = .ok (.invokevirtual 85, 3) := by decide +kernel
theorem dX7_addProduct_66 : decode cX7_addProduct 66 = .ok (.ireturn, 1) := by decide +kernel
theorem dX7_addProduct_67 : decode cX7_addProduct 67 = .ok (.aload_n 0, 1) := by decide +kernel
theorem dX7_addProduct_68 : decode cX7_addProduct 68 = .ok (.getfield 17, 3) := by decide +kernel
theorem dX7_addProduct_71 : decode cX7_addProduct 71 = .ok (.aload_n 0, 1) := by decide +kernel
theorem dX7_addProduct_72 : decode cX7_addProduct 72 = .ok (.getfield 63, 3) := by decide +kernel
theorem dX7_addProduct_75 : decode cX7_addProduct 75 = .ok (.iload_n 1, 1) := by decide +kernel
theorem dX7_addProduct_76 : decode cX7_addProduct 76 = .ok (.iastore, 1) := by decide +kernel
theorem dX7_addProduct_77 : decode cX7_addProduct 77 = .ok (.aload_n 0, 1) := by decide +kernel
theorem dX7_addProduct_78 : decode cX7_addProduct 78 = .ok (.getfield 20, 3) := by decide +kernel
theorem dX7_addProduct_81 : decode cX7_addProduct 81 = .ok (.aload_n 0, 1) := by decide +kernel
theorem dX7_addProduct_82 : decode cX7_addProduct 82 = .ok (.getfield 63, 3) := by decide +kernel
theorem dX7_addProduct_85 : decode cX7_addProduct 85 = .ok (.iload_n 2, 1) := by decide +kernel
theorem dX7_addProduct_86 : decode cX7_addProduct 86 = .ok (.iastore, 1) := by decide +kernel
theorem dX7_addProduct_87 : decode cX7_addProduct 87 = .ok (.aload_n 0, 1) := by decide +kernel
theorem dX7_addProduct_88 : decode cX7_addProduct 88 = .ok (.getfield 23, 3) := by decide +kernel
theorem dX7_addProduct_91 : decode cX7_addProduct 91 = .ok (.aload_n 0, 1) := by decide +kernel
theorem dX7_addProduct_92 : decode cX7_addProduct 92 = .ok (.getfield 63, 3) := by decide +kernel
theorem dX7_addProduct_95 : decode cX7_addProduct 95 = .ok (.iload_n 3, 1) := by decide +kernel
theorem dX7_addProduct_96 : decode cX7_addProduct 96 = .ok (.iastore, 1) := by decide +kernel
theorem dX7_addProduct_97 : decode cX7_addProduct 97 = .ok (.aload_n 0, 1) := by decide +kernel
theorem dX7_addProduct_98 : decode cX7_addProduct 98 = .ok (.getfield 26, 3) := by decide +kernel
theorem dX7_addProduct_101 : decode cX7_addProduct 101 = .ok (.aload_n 0, 1) := by decide +kernel
theorem dX7_addProduct_102 : decode cX7_addProduct 102 = .ok (.getfield 63, 3) := by decide +kernel
theorem dX7_addProduct_105 : decode cX7_addProduct 105 = .ok (.iload 4, 2) := by decide +kernel
theorem dX7_addProduct_107 : decode cX7_addProduct 107 = .ok (.iastore, 1) := by decide +kernel
theorem dX7_addProduct_108 : decode cX7_addProduct 108 = .ok (.aload_n 0, 1) := by decide +kernel
theorem dX7_addProduct_109 : decode cX7_addProduct 109 = .ok (.dup, 1) := by decide +kernel
theorem dX7_addProduct_110 : decode cX7_addProduct 110 = .ok (.getfield 63, 3) := by decide +kernel
theorem dX7_addProduct_113 : decode cX7_addProduct 113 = .ok (.iconst 1, 1) := by decide +kernel
theorem dX7_addProduct_114 : decode cX7_addProduct 114 = .ok (.iadd, 1) := by decide +kernel
theorem dX7_addProduct_115 : decode cX7_addProduct 115 = .ok (.putfield 63, 3) := by decide +kernel
theorem dX7_addProduct_118 : decode cX7_addProduct 118 = .ok (.aload_n 0, 1) := by decide +kernel
theorem dX7_addProduct_119 : decode cX7_addProduct 119 = .ok (.getfield 63, 3) := by decide +kernel
theorem dX7_addProduct_122 : decode cX7_addProduct 122 = .ok (.iconst 1, 1) := by decide +kernel
theorem dX7_addProduct_123 : decode cX7_addProduct 123 = .ok (.isub, 1) := by decide +kernel
theorem dX7_addProduct_124 : decode cX7_addProduct 124 = .ok (.ireturn, 1) := by decide +kernel
theorem dX7_isAim_0 : decode cX7_isAim 0 = .ok (.iload_n 0, 1) := by decide +kernel
theorem dX7_isAim_1 : decode cX7_isAim 1 = .ok (.sipush (-300), 3) := by decide +kernel
theorem dX7_isAim_4 : decode cX7_isAim 4 = .ok (.sipush 150, 3) := by decide +kernel
theorem dX7_isAim_7 : decode cX7_isAim 7 = .ok (.invokestatic 66, 3) := by decide +kernel
theorem dX7_isAim_10 : decode cX7_isAim 10 = .ok (.ireturn, 1) := by decide +kernel
theorem dX7_addRoom_0 : decode cX7_addRoom 0 = .ok (.aload_n 0, 1) := by decide +kernel
theorem dX7_addRoom_1 : decode cX7_addRoom 1 = .ok (.iconst 0, 1) := by decide +kernel
theorem dX7_addRoom_2 : decode cX7_addRoom 2 = .ok (.putfield 60, 3) := by decide +kernel
theorem dX7_addRoom_5 : decode cX7_addRoom 5 = .ok (.iload_n 1, 1) := by decide +kernel
theorem dX7_addRoom_6 : decode cX7_addRoom 6 = .ok (.iconst 1, 1) := by decide +kernel
theorem dX7_addRoom_7 : decode cX7_addRoom 7 = .ok (.bipush 20, 2) := by decide +kernel
theorem dX7_addRoom_9 : decode cX7_addRoom 9 = .ok (.invokestatic 66, 3) := by decide +kernel
theorem dX7_addRoom_12 : decode cX7_addRoom 12 = .ok (.ifCond .eq 32, 3) := by decide +kernel
theorem dX7_addRoom_15 : decode cX7_addRoom 15 = .ok (.iload_n 2, 1) := by decide +kernel
theorem dX7_addRoom_16 : decode cX7_addRoom 16 = .ok (.iconst 1, 1) := by decide +kernel
theorem dX7_addRoom_17 : decode cX7_addRoom 17 = .ok (.bipush 20, 2) := by decide +kernel
theorem dX7_addRoom_19 : decode cX7_addRoom 19 = .ok (.invokestatic 66, 3) := by decide +kernel
theorem dX7_addRoom_22 : decode cX7_addRoom 22 = .ok (.ifCond .eq 22, 3) := by decide +kernel
theorem dX7_addRoom_25 : decode cX7_addRoom 25 = .ok (.iload_n 3, 1) := by decide +kernel
theorem dX7_addRoom_26 : decode cX7_addRoom 26 = .ok (.iconst 0, 1) := by decide +kernel
theorem dX7_addRoom_27 : decode cX7_addRoom 27 = .ok (.sipush 200, 3) := by decide +kernel
theorem dX7_addRoom_30 : decode cX7_addRoom 30 = .ok (.invokestatic 66, 3) := by decide +kernel
theorem dX7_addRoom_33 : decode cX7_addRoom 33 = .ok (.ifCond .eq 11, 3) := by decide +kernel
theorem dX7_addRoom_36 : decode cX7_addRoom 36 = .ok (.iload 4, 2) := by decide +kernel
theorem dX7_addRoom_38 : decode cX7_addRoom 38 = .ok (.invokestatic 102, 3) := by decide +kernel
theorem dX7_addRoom_41 : decode cX7_addRoom 41 = .ok (.ifCond .ne 9, 3) := by decide +kernel
theorem dX7_addRoom_44 : decode cX7_addRoom 44 = .ok (.aload_n 0, 1) := by decide +kernel
theorem dX7_addRoom_45 : decode cX7_addRoom 45 = .ok (.iconst 1, 1) := by decide +kernel
theorem dX7_addRoom_46 : decode cX7_addRoom 46 = .ok (.invokevirtual 85, 3) := by decide +kernel
theorem dX7_addRoom_49 : decode cX7_addRoom 49 = .ok (.ireturn, 1) := by decide +kernel
theorem dX7_addRoom_50 : decode cX7_addRoom 50 = .ok (.aload_n 0, 1) := by decide +kernel
theorem dX7_addRoom_51 : decode cX7_addRoom 51 = .ok (.getfield 70, 3) := by decide +kernel
theorem dX7_addRoom_54 : decode cX7_addRoom 54 = .ok (.bipush 6, 2) := by decide +kernel
theorem dX7_addRoom_56 : decode cX7_addRoom 56 = .ok (.if_icmp .ne 9, 3) := by decide +kernel
theorem dX7_addRoom_59 : decode cX7_addRoom 59 = .ok (.aload_n 0, 1) := by decide +kernel
theorem dX7_addRoom_60 : decode cX7_addRoom 60 = .ok (.iconst 2, 1) := by decide +kernel
theorem dX7_addRoom_61 : decode cX7_addRoom 61 = .ok (.invokevirtual 85, 3) := by decide +kernel
theorem dX7_addRoom_64 : decode cX7_addRoom 64 = .ok (.ireturn, 1) := by decide +kernel
theorem dX7_addRoom_65 : decode cX7_addRoom 65 = .ok (.aload_n 0, 1) := by decide +kernel
theorem dX7_addRoom_66 : decode cX7_addRoom 66 = .ok (.getfield 29, 3) := by decide +kernel
theorem dX7_addRoom_69 : decode cX7_addRoom 69 = .ok (.aload_n 0, 1) := by decide +kernel
theorem dX7_addRoom_70 : decode cX7_addRoom 70 = .ok (.getfield 70, 3) := by decide +kernel
theorem dX7_addRoom_73 : decode cX7_addRoom 73 = .ok (.iload_n 1, 1) := by decide +kernel
theorem dX7_addRoom_74 : decode cX7_addRoom 74 = .ok (.iastore, 1) := by decide +kernel
theorem dX7_addRoom_75 : decode cX7_addRoom 75 = .ok (.aload_n 0, 1) := by decide +kernel
theorem dX7_addRoom_76 : decode cX7_addRoom 76 = .ok (.getfield 32, 3) := by decide +kernel
theorem dX7_addRoom_79 : decode cX7_addRoom 79 = .ok (.aload_n 0, 1) := by decide +kernel
theorem dX7_addRoom_80 : decode cX7_addRoom 80 = .ok (.getfield 70, 3) := by decide +kernel
theorem dX7_addRoom_83 : decode cX7_addRoom 83 = .ok (.iload_n 2, 1) := by decide +kernel
theorem dX7_addRoom_84 : decode cX7_addRoom 84 = .ok (.iastore, 1) := by decide +kernel
theorem dX7_addRoom_85 : decode cX7_addRoom 85 = .ok (.aload_n 0, 1) := by decide +kernel
theorem dX7_addRoom_86 : decode cX7_addRoom 86 = .ok (.getfield 35, 3) := by decide +kernel
theorem dX7_addRoom_89 : decode cX7_addRoom 89 = .ok (.aload_n 0, 1) := by decide +kernel
theorem dX7_addRoom_90 : decode cX7_addRoom 90 = .ok (.getfield 70, 3) := by decide +kernel
theorem dX7_addRoom_93 : decode cX7_addRoom 93 = .ok (.iload_n 3, 1) := by decide +kernel
theorem dX7_addRoom_94 : decode cX7_addRoom 94 = .ok (.iastore, 1) := by decide +kernel
theorem dX7_addRoom_95 : decode cX7_addRoom 95 = .ok (.aload_n 0, 1) := by decide +kernel
theorem dX7_addRoom_96 : decode cX7_addRoom 96 = .ok (.getfield 38, 3) := by decide +kernel
theorem dX7_addRoom_99 : decode cX7_addRoom 99 = .ok (.aload_n 0, 1) := by decide +kernel
theorem dX7_addRoom_100 : decode cX7_addRoom 100 = .ok (.getfield 70, 3) := by decide +kernel
theorem dX7_addRoom_103 : decode cX7_addRoom 103 = .ok (.iload 4, 2) := by decide +kernel
theorem dX7_addRoom_105 : decode cX7_addRoom 105 = .ok (.iastore, 1) := by decide +kernel
theorem dX7_addRoom_106 : decode cX7_addRoom 106 = .ok (.aload_n 0, 1) := by decide +kernel
theorem dX7_addRoom_107 : decode cX7_addRoom 107 = .ok (.getfield 45, 3) := by decide +kernel
theorem dX7_addRoom_110 : decode cX7_addRoom 110 = .ok (.bipush 6, 2) := by decide +kernel
theorem dX7_addRoom_112 : decode cX7_addRoom 112 = .ok (.aload_n 0, 1) := by decide +kernel
theorem dX7_addRoom_113 : decode cX7_addRoom 113 = .ok (.getfield 70, 3) := by decide +kernel
theorem dX7_addRoom_116 : decode cX7_addRoom 116 = .ok (.imul, 1) := by decide +kernel
theorem dX7_addRoom_117 : decode cX7_addRoom 117 = .ok (.iconst 0, 1) := by decide +kernel
theorem dX7_addRoom_118 : decode cX7_addRoom 118 = .ok (.iadd, 1) := by decide +kernel
theorem dX7_addRoom_119 : decode cX7_addRoom 119 = .ok (.sipush 150, 3) := by decide +kernel
theorem dX7_addRoom_122 : decode cX7_addRoom 122 = .ok (.iastore, 1) := by decide +kernel
theorem dX7_addRoom_123 : decode cX7_addRoom 123 = .ok (.aload_n 0, 1) := by decide +kernel
theorem dX7_addRoom_124 : decode cX7_addRoom 124 = .ok (.dup, 1) := by decide +kernel
theorem dX7_addRoom_125 : decode cX7_addRoom 125 = .ok (.getfield 70, 3) := by decide +kernel
theorem dX7_addRoom_128 : decode cX7_addRoom 128 = .ok (.iconst 1, 1) := by decide +kernel
theorem dX7_addRoom_129 : decode cX7_addRoom 129 = .ok (.iadd, 1) := by decide +kernel
theorem dX7_addRoom_130 : decode cX7_addRoom 130 = .ok (.putfield 70, 3) := by decide +kernel
theorem dX7_addRoom_133 : decode cX7_addRoom 133 = .ok (.aload_n 0, 1) := by decide +kernel
theorem dX7_addRoom_134 : decode cX7_addRoom 134 = .ok (.getfield 70, 3) := by decide +kernel
theorem dX7_addRoom_137 : decode cX7_addRoom 137 = .ok (.iconst 1, 1) := by decide +kernel
theorem dX7_addRoom_138 : decode cX7_addRoom 138 = .ok (.isub, 1) := by decide +kernel
theorem dX7_addRoom_139 : decode cX7_addRoom 139 = .ok (.ireturn, 1) := by decide +kernel
theorem dX7_setRoom_0 : decode cX7_setRoom 0 = .ok (.aload_n 0, 1) := by decide +kernel
theorem dX7_setRoom_1 : decode cX7_setRoom 1 = .ok (.iconst 0, 1) := by decide +kernel
theorem dX7_setRoom_2 : decode cX7_setRoom 2 = .ok (.putfield 60, 3) := by decide +kernel
theorem dX7_setRoom_5 : decode cX7_setRoom 5 = .ok (.aload_n 0, 1) := by decide +kernel
theorem dX7_setRoom_6 : decode cX7_setRoom 6 = .ok (.iload_n 1, 1) := by decide +kernel
theorem dX7_setRoom_7 : decode cX7_setRoom 7 = .ok (.invokevirtual 106, 3) := by decide +kernel
theorem dX7_setRoom_10 : decode cX7_setRoom 10 = .ok (.ifCond .ne 9, 3) := by decide +kernel
theorem dX7_setRoom_13 : decode cX7_setRoom 13 = .ok (.aload_n 0, 1) := by decide +kernel
theorem dX7_setRoom_14 : decode cX7_setRoom 14 = .ok (.iconst 1, 1) := by decide +kernel
theorem dX7_setRoom_15 : decode cX7_setRoom 15 = .ok (.invokevirtual 85, 3) := by decide +kernel
theorem dX7_setRoom_18 : decode cX7_setRoom 18 = .ok (.ireturn, 1) := by decide +kernel
theorem dX7_setRoom_19 : decode cX7_setRoom 19 = .ok (.iload_n 2, 1) := by decide +kernel
theorem dX7_setRoom_20 : decode cX7_setRoom 20 = .ok (.invokestatic 102, 3) := by decide +kernel
theorem dX7_setRoom_23 : decode cX7_setRoom 23 = .ok (.ifCond .ne 9, 3) := by decide +kernel
theorem dX7_setRoom_26 : decode cX7_setRoom 26 = .ok (.aload_n 0, 1) := by decide +kernel
theorem dX7_setRoom_27 : decode cX7_setRoom 27 = .ok (.iconst 2, 1) := by decide +kernel
theorem dX7_setRoom_28 : decode cX7_setRoom 28 = .ok (.invokevirtual 85, 3) := by decide +kernel
theorem dX7_setRoom_31 : decode cX7_setRoom 31 = .ok (.ireturn, 1) := by decide +kernel
theorem dX7_setRoom_32 : decode cX7_setRoom 32 = .ok (.aload_n 0, 1) := by decide +kernel
theorem dX7_setRoom_33 : decode cX7_setRoom 33 = .ok (.getfield 38, 3) := by decide +kernel
theorem dX7_setRoom_36 : decode cX7_setRoom 36 = .ok (.iload_n 1, 1) := by decide +kernel
theorem dX7_setRoom_37 : decode cX7_setRoom 37 = .ok (.iaload, 1) := by decide +kernel
theorem dX7_setRoom_38 : decode cX7_setRoom 38 = .ok (.istore 4, 2) := by decide +kernel
theorem dX7_setRoom_40 : decode cX7_setRoom 40 = .ok (.aload_n 0, 1) := by decide +kernel
theorem dX7_setRoom_41 : decode cX7_setRoom 41 = .ok (.getfield 38, 3) := by decide +kernel
theorem dX7_setRoom_44 : decode cX7_setRoom 44 = .ok (.iload_n 1, 1) := by decide +kernel
theorem dX7_setRoom_45 : decode cX7_setRoom 45 = .ok (.iload_n 2, 1) := by decide +kernel
theorem dX7_setRoom_46 : decode cX7_setRoom 46 = .ok (.iastore, 1) := by decide +kernel
theorem dX7_setRoom_47 : decode cX7_setRoom 47 = .ok (.aload_n 0, 1) := by decide +kernel
theorem dX7_setRoom_48 : decode cX7_setRoom 48 = .ok (.getfield 41, 3) := by decide +kernel
theorem dX7_setRoom_51 : decode cX7_setRoom 51 = .ok (.iload_n 1, 1) := by decide +kernel
theorem dX7_setRoom_52 : decode cX7_setRoom 52 = .ok (.iload_n 3, 1) := by decide +kernel
theorem dX7_setRoom_53 : decode cX7_setRoom 53 = .ok (.bastore, 1) := by decide +kernel
theorem dX7_setRoom_54 : decode cX7_setRoom 54 = .ok (.iload 4, 2) := by decide +kernel
theorem dX7_setRoom_56 : decode cX7_setRoom 56 = .ok (.ireturn, 1) := by decide +kernel
theorem dX7_defrost_0 : decode cX7_defrost 0 = .ok (.aload_n 0, 1) := by decide +kernel
theorem dX7_defrost_1 : decode cX7_defrost 1 = .ok (.iconst 0, 1) := by decide +kernel
theorem dX7_defrost_2 : decode cX7_defrost 2 = .ok (.putfield 60, 3) := by decide +kernel
theorem dX7_defrost_5 : decode cX7_defrost 5 = .ok (.aload_n 0, 1) := by decide +kernel
theorem dX7_defrost_6 : decode cX7_defrost 6 = .ok (.iload_n 1, 1) := by decide +kernel
theorem dX7_defrost_7 : decode cX7_defrost 7 = .ok (.invokevirtual 106, 3) := by decide +kernel
theorem dX7_defrost_10 : decode cX7_defrost 10 = .ok (.ifCond .ne 9, 3) := by decide +kernel
theorem dX7_defrost_13 : decode cX7_defrost 13 = .ok (.aload_n 0, 1) := by decide +kernel
theorem dX7_defrost_14 : decode cX7_defrost 14 = .ok (.iconst 1, 1) := by decide +kernel
theorem dX7_defrost_15 : decode cX7_defrost 15 = .ok (.invokevirtual 85, 3) := by decide +kernel
theorem dX7_defrost_18 : decode cX7_defrost 18 = .ok (.ireturn, 1) := by decide +kernel
theorem dX7_defrost_19 : decode cX7_defrost 19 = .ok (.aload_n 0, 1) := by decide +kernel
theorem dX7_defrost_20 : decode cX7_defrost 20 = .ok (.getfield 45, 3) := by decide +kernel
theorem dX7_defrost_23 : decode cX7_defrost 23 = .ok (.bipush 6, 2) := by decide +kernel
theorem dX7_defrost_25 : decode cX7_defrost 25 = .ok (.iload_n 1, 1) := by decide +kernel
theorem dX7_defrost_26 : decode cX7_defrost 26 = .ok (.imul, 1) := by decide +kernel
theorem dX7_defrost_27 : decode cX7_defrost 27 = .ok (.iconst 2, 1) := by decide +kernel
theorem dX7_defrost_28 : decode cX7_defrost 28 = .ok (.iadd, 1) := by decide +kernel
theorem dX7_defrost_29 : decode cX7_defrost 29 = .ok (.iaload, 1) := by decide +kernel
theorem dX7_defrost_30 : decode cX7_defrost 30 = .ok (.iconst 2, 1) := by decide +kernel
theorem dX7_defrost_31 : decode cX7_defrost 31 = .ok (.if_icmp .ne 9, 3) := by decide +kernel
theorem dX7_defrost_34 : decode cX7_defrost 34 = .ok (.aload_n 0, 1) := by decide +kernel
theorem dX7_defrost_35 : decode cX7_defrost 35 = .ok (.iconst 2, 1) := by decide +kernel
theorem dX7_defrost_36 : decode cX7_defrost 36 = .ok (.invokevirtual 85, 3) := by decide +kernel
theorem dX7_defrost_39 : decode cX7_defrost 39 = .ok (.ireturn, 1) := by decide +kernel
theorem dX7_defrost_40 : decode cX7_defrost 40 = .ok (.aload_n 0, 1) := by decide +kernel
theorem dX7_defrost_41 : decode cX7_defrost 41 = .ok (.getfield 45, 3) := by decide +kernel
theorem dX7_defrost_44 : decode cX7_defrost 44 = .ok (.bipush 6, 2) := by decide +kernel
theorem dX7_defrost_46 : decode cX7_defrost 46 = .ok (.iload_n 1, 1) := by decide +kernel
theorem dX7_defrost_47 : decode cX7_defrost 47 = .ok (.imul, 1) := by decide +kernel
theorem dX7_defrost_48 : decode cX7_defrost 48 = .ok (.iconst 2, 1) := by decide +kernel
theorem dX7_defrost_49 : decode cX7_defrost 49 = .ok (.iadd, 1) := by decide +kernel
theorem dX7_defrost_50 : decode cX7_defrost 50 = .ok (.iconst 2, 1) := by decide +kernel
theorem dX7_defrost_51 : decode cX7_defrost 51 = .ok (.iastore, 1) := by decide +kernel
theorem dX7_defrost_52 : decode cX7_defrost 52 = .ok (.aload_n 0, 1) := by decide +kernel
theorem dX7_defrost_53 : decode cX7_defrost 53 = .ok (.getfield 45, 3) := by decide +kernel
theorem dX7_defrost_56 : decode cX7_defrost 56 = .ok (.bipush 6, 2) := by decide +kernel
theorem dX7_defrost_58 : decode cX7_defrost 58 = .ok (.iload_n 1, 1) := by decide +kernel
theorem dX7_defrost_59 : decode cX7_defrost 59 = .ok (.imul, 1) := by decide +kernel
theorem dX7_defrost_60 : decode cX7_defrost 60 = .ok (.iconst 3, 1) := by decide +kernel
theorem dX7_defrost_61 : decode cX7_defrost 61 = .ok (.iadd, 1) := by decide +kernel
theorem dX7_defrost_62 : decode cX7_defrost 62 = .ok (.iconst 3, 1) := by decide +kernel
theorem dX7_defrost_63 : decode cX7_defrost 63 = .ok (.iastore, 1) := by decide +kernel
theorem dX7_defrost_64 : decode cX7_defrost 64 = .ok (.aload_n 0, 1) := by decide +kernel
theorem dX7_defrost_65 : decode cX7_defrost 65 = .ok (.getfield 45, 3) := by decide +kernel
theorem dX7_defrost_68 : decode cX7_defrost 68 = .ok (.bipush 6, 2) := by decide +kernel
theorem dX7_defrost_70 : decode cX7_defrost 70 = .ok (.iload_n 1, 1) := by decide +kernel
theorem dX7_defrost_71 : decode cX7_defrost 71 = .ok (.imul, 1) := by decide +kernel
theorem dX7_defrost_72 : decode cX7_defrost 72 = .ok (.iconst 1, 1) := by decide +kernel
theorem dX7_defrost_73 : decode cX7_defrost 73 = .ok (.iadd, 1) := by decide +kernel
theorem dX7_defrost_74 : decode cX7_defrost 74 = .ok (.iaload, 1) := by decide +kernel
theorem dX7_defrost_75 : decode cX7_defrost 75 = .ok (.ireturn, 1) := by decide +kernel
theorem dX7_free_0 : decode cX7_free 0 = .ok (.aload_n 0, 1) := by decide +kernel
theorem dX7_free_1 : decode cX7_free 1 = .ok (.getfield 29, 3) := by decide +kernel
theorem dX7_free_4 : decode cX7_free 4 = .ok (.iload_n 1, 1) := by decide +kernel
theorem dX7_free_5 : decode cX7_free 5 = .ok (.iaload, 1) := by decide +kernel
theorem dX7_free_6 : decode cX7_free 6 = .ok (.istore_n 2, 1) := by decide +kernel
theorem dX7_free_7 : decode cX7_free 7 = .ok (.iconst 0, 1) := by decide +kernel
theorem dX7_free_8 : decode cX7_free 8 = .ok (.istore_n 3, 1) := by decide +kernel
theorem dX7_free_9 : decode cX7_free 9 = .ok (.iload_n 3, 1) := by decide +kernel
theorem dX7_free_10 : decode cX7_free 10 = .ok (.aload_n 0, 1) := by decide +kernel
theorem dX7_free_11 : decode cX7_free 11 = .ok (.getfield 73, 3) := by decide +kernel
theorem dX7_free_14 : decode cX7_free 14 = .ok (.if_icmp .ge 27, 3) := by decide +kernel
theorem dX7_free_17 : decode cX7_free 17 = .ok (.iload_n 2, 1) := by decide +kernel
theorem dX7_free_18 : decode cX7_free 18 = .ok (.aload_n 0, 1) := by decide +kernel
theorem dX7_free_19 : decode cX7_free 19 = .ok (.getfield 51, 3) := by decide +kernel
theorem dX7_free_22 : decode cX7_free 22 = .ok (.iload_n 3, 1) := by decide +kernel
theorem dX7_free_23 : decode cX7_free 23 = .ok (.iaload, 1) := by decide +kernel
theorem dX7_free_24 : decode cX7_free 24 = .ok (.iload_n 1, 1) := by decide +kernel
theorem dX7_free_25 : decode cX7_free 25 = .ok (.if_icmp .ne 7, 3) := by decide +kernel
theorem dX7_free_28 : decode cX7_free 28 = .ok (.iconst 1, 1) := by decide +kernel
theorem dX7_free_29 : decode cX7_free 29 = .ok (.goto 4, 3) := by decide +kernel
theorem dX7_free_32 : decode cX7_free 32 = .ok (.iconst 0, 1) := by decide +kernel
theorem dX7_free_33 : decode cX7_free 33 = .ok (.isub, 1) := by decide +kernel
theorem dX7_free_34 : decode cX7_free 34 = .ok (.istore_n 2, 1) := by decide +kernel
theorem dX7_free_35 : decode cX7_free 35 = .ok (.iinc 3 1, 3) := by decide +kernel
theorem dX7_free_38 : decode cX7_free 38 = .ok (.goto (-29), 3) := by decide +kernel
theorem dX7_free_41 : decode cX7_free 41 = .ok (.iload_n 2, 1) := by decide +kernel
theorem dX7_free_42 : decode cX7_free 42 = .ok (.ireturn, 1) := by decide +kernel
theorem dX7_toldOfRoom_0 : decode cX7_toldOfRoom 0 = .ok (.bipush 6, 2) := by decide +kernel
theorem dX7_toldOfRoom_2 : decode cX7_toldOfRoom 2 = .ok (.iload_n 1, 1) := by decide +kernel
theorem dX7_toldOfRoom_3 : decode cX7_toldOfRoom 3 = .ok (.imul, 1) := by decide +kernel
theorem dX7_toldOfRoom_4 : decode cX7_toldOfRoom 4 = .ok (.istore_n 3, 1) := by decide +kernel
theorem dX7_toldOfRoom_5 : decode cX7_toldOfRoom 5 = .ok (.bipush 7, 2) := by decide +kernel
theorem dX7_toldOfRoom_7 : decode cX7_toldOfRoom 7 = .ok (.newarray .int, 2) := by decide +kernel
theorem dX7_toldOfRoom_9 : decode cX7_toldOfRoom 9 = .ok (.dup, 1) := by decide +kernel
theorem dX7_toldOfRoom_10 : decode cX7_toldOfRoom 10 = .ok (.iconst 0, 1) := by decide +kernel
theorem dX7_toldOfRoom_11 : decode cX7_toldOfRoom 11 = .ok (.aload_n 0, 1) := by decide +kernel
theorem dX7_toldOfRoom_12 : decode cX7_toldOfRoom 12 = .ok (.getfield 45, 3) := by decide +kernel
theorem dX7_toldOfRoom_15 : decode cX7_toldOfRoom 15 = .ok (.iload_n 3, 1) := by decide +kernel
theorem dX7_toldOfRoom_16 : decode cX7_toldOfRoom 16 = .ok (.iconst 0, 1) := by decide +kernel
theorem dX7_toldOfRoom_17 : decode cX7_toldOfRoom 17 = .ok (.iadd, 1) := by decide +kernel
theorem dX7_toldOfRoom_18 : decode cX7_toldOfRoom 18 = .ok (.iaload, 1) := by decide +kernel
theorem dX7_toldOfRoom_19 : decode cX7_toldOfRoom 19 = .ok (.iastore, 1) := by decide +kernel
theorem dX7_toldOfRoom_20 : decode cX7_toldOfRoom 20 = .ok (.dup, 1) := by decide +kernel
theorem dX7_toldOfRoom_21 : decode cX7_toldOfRoom 21 = .ok (.iconst 1, 1) := by decide +kernel
theorem dX7_toldOfRoom_22 : decode cX7_toldOfRoom 22 = .ok (.aload_n 0, 1) := by decide +kernel
theorem dX7_toldOfRoom_23 : decode cX7_toldOfRoom 23 = .ok (.getfield 38, 3) := by decide +kernel
theorem dX7_toldOfRoom_26 : decode cX7_toldOfRoom 26 = .ok (.iload_n 1, 1) := by decide +kernel
theorem dX7_toldOfRoom_27 : decode cX7_toldOfRoom 27 = .ok (.iaload, 1) := by decide +kernel
theorem dX7_toldOfRoom_28 : decode cX7_toldOfRoom 28 = .ok (.iastore, 1) := by decide +kernel
theorem dX7_toldOfRoom_29 : decode cX7_toldOfRoom 29 = .ok (.dup, 1) := by decide +kernel
theorem dX7_toldOfRoom_30 : decode cX7_toldOfRoom 30 = .ok (.iconst 2, 1) := by decide +kernel
theorem dX7_toldOfRoom_31 : decode cX7_toldOfRoom 31 = .ok (.aload_n 0, 1) := by decide +kernel
theorem dX7_toldOfRoom_32 : decode cX7_toldOfRoom 32 = .ok (.getfield 45, 3) := by decide +kernel
theorem dX7_toldOfRoom_35 : decode cX7_toldOfRoom 35 = .ok (.iload_n 3, 1) := by decide +kernel
theorem dX7_toldOfRoom_36 : decode cX7_toldOfRoom 36 = .ok (.iconst 1, 1) := by decide +kernel
theorem dX7_toldOfRoom_37 : decode cX7_toldOfRoom 37 = .ok (.iadd, 1) := by decide +kernel
theorem dX7_toldOfRoom_38 : decode cX7_toldOfRoom 38 = .ok (.iaload, 1) := by decide +kernel
theorem dX7_toldOfRoom_39 : decode cX7_toldOfRoom 39 = .ok (.iastore, 1) := by decide +kernel
theorem dX7_toldOfRoom_40 : decode cX7_toldOfRoom 40 = .ok (.dup, 1) := by decide +kernel
theorem dX7_toldOfRoom_41 : decode cX7_toldOfRoom 41 = .ok (.iconst 3, 1) := by decide +kernel
theorem dX7_toldOfRoom_42 : decode cX7_toldOfRoom 42 = .ok (.aload_n 0, 1) := by decide +kernel
theorem dX7_toldOfRoom_43 : decode cX7_toldOfRoom 43 = .ok (.getfield 45, 3) := by decide +kernel
theorem dX7_toldOfRoom_46 : decode cX7_toldOfRoom 46 = .ok (.iload_n 3, 1) := by decide +kernel
theorem dX7_toldOfRoom_47 : decode cX7_toldOfRoom 47 = .ok (.iconst 2, 1) := by decide +kernel
theorem dX7_toldOfRoom_48 : decode cX7_toldOfRoom 48 = .ok (.iadd, 1) := by decide +kernel
theorem dX7_toldOfRoom_49 : decode cX7_toldOfRoom 49 = .ok (.iaload, 1) := by decide +kernel
theorem dX7_toldOfRoom_50 : decode cX7_toldOfRoom 50 = .ok (.iastore, 1) := by decide +kernel
theorem dX7_toldOfRoom_51 : decode cX7_toldOfRoom 51 = .ok (.dup, 1) := by decide +kernel
theorem dX7_toldOfRoom_52 : decode cX7_toldOfRoom 52 = .ok (.iconst 4, 1) := by decide +kernel
theorem dX7_toldOfRoom_53 : decode cX7_toldOfRoom 53 = .ok (.aload_n 0, 1) := by decide +kernel
theorem dX7_toldOfRoom_54 : decode cX7_toldOfRoom 54 = .ok (.iload_n 1, 1) := by decide +kernel
theorem dX7_toldOfRoom_55 : decode cX7_toldOfRoom 55 = .ok (.invokevirtual 109, 3) := by decide +kernel
theorem dX7_toldOfRoom_58 : decode cX7_toldOfRoom 58 = .ok (.iastore, 1) := by decide +kernel
theorem dX7_toldOfRoom_59 : decode cX7_toldOfRoom 59 = .ok (.dup, 1) := by decide +kernel
theorem dX7_toldOfRoom_60 : decode cX7_toldOfRoom 60 = .ok (.iconst 5, 1) := by decide +kernel
theorem dX7_toldOfRoom_61 : decode cX7_toldOfRoom 61 = .ok (.aload_n 0, 1) := by decide +kernel
theorem dX7_toldOfRoom_62 : decode cX7_toldOfRoom 62 = .ok (.getfield 45, 3) := by decide +kernel
theorem dX7_toldOfRoom_65 : decode cX7_toldOfRoom 65 = .ok (.iload_n 3, 1) := by decide +kernel
theorem dX7_toldOfRoom_66 : decode cX7_toldOfRoom 66 = .ok (.iconst 4, 1) := by decide +kernel
theorem dX7_toldOfRoom_67 : decode cX7_toldOfRoom 67 = .ok (.iadd, 1) := by decide +kernel
theorem dX7_toldOfRoom_68 : decode cX7_toldOfRoom 68 = .ok (.iaload, 1) := by decide +kernel
theorem dX7_toldOfRoom_69 : decode cX7_toldOfRoom 69 = .ok (.iastore, 1) := by decide +kernel
theorem dX7_toldOfRoom_70 : decode cX7_toldOfRoom 70 = .ok (.dup, 1) := by decide +kernel
theorem dX7_toldOfRoom_71 : decode cX7_toldOfRoom 71 = .ok (.bipush 6, 2) := by decide +kernel
theorem dX7_toldOfRoom_73 : decode cX7_toldOfRoom 73 = .ok (.aload_n 0, 1) := by decide +kernel
theorem dX7_toldOfRoom_74 : decode cX7_toldOfRoom 74 = .ok (.getfield 45, 3) := by decide +kernel
theorem dX7_toldOfRoom_77 : decode cX7_toldOfRoom 77 = .ok (.iload_n 3, 1) := by decide +kernel
theorem dX7_toldOfRoom_78 : decode cX7_toldOfRoom 78 = .ok (.iconst 5, 1) := by decide +kernel
theorem dX7_toldOfRoom_79 : decode cX7_toldOfRoom 79 = .ok (.iadd, 1) := by decide +kernel
theorem dX7_toldOfRoom_80 : decode cX7_toldOfRoom 80 = .ok (.iaload, 1) := by decide +kernel
theorem dX7_toldOfRoom_81 : decode cX7_toldOfRoom 81 = .ok (.iastore, 1) := by decide +kernel
theorem dX7_toldOfRoom_82 : decode cX7_toldOfRoom 82 = .ok (.astore 4, 2) := by decide +kernel
theorem dX7_toldOfRoom_84 : decode cX7_toldOfRoom 84 = .ok (.aload 4, 2) := by decide +kernel
theorem dX7_toldOfRoom_86 : decode cX7_toldOfRoom 86 = .ok (.iload_n 2, 1) := by decide +kernel
theorem dX7_toldOfRoom_87 : decode cX7_toldOfRoom 87 = .ok (.iaload, 1) := by decide +kernel
theorem dX7_toldOfRoom_88 : decode cX7_toldOfRoom 88 = .ok (.ireturn, 1) := by decide +kernel
theorem dX7_room_0 : decode cX7_room 0 = .ok (.aload_n 0, 1) := by decide +kernel
theorem dX7_room_1 : decode cX7_room 1 = .ok (.iconst 0, 1) := by decide +kernel
theorem dX7_room_2 : decode cX7_room 2 = .ok (.putfield 60, 3) := by decide +kernel
theorem dX7_room_5 : decode cX7_room 5 = .ok (.aload_n 0, 1) := by decide +kernel
theorem dX7_room_6 : decode cX7_room 6 = .ok (.iload_n 1, 1) := by decide +kernel
theorem dX7_room_7 : decode cX7_room 7 = .ok (.invokevirtual 106, 3) := by decide +kernel
theorem dX7_room_10 : decode cX7_room 10 = .ok (.ifCond .eq 22, 3) := by decide +kernel
theorem dX7_room_13 : decode cX7_room 13 = .ok (.iload_n 2, 1) := by decide +kernel
theorem dX7_room_14 : decode cX7_room 14 = .ok (.iconst 0, 1) := by decide +kernel
theorem dX7_room_15 : decode cX7_room 15 = .ok (.bipush 6, 2) := by decide +kernel
theorem dX7_room_17 : decode cX7_room 17 = .ok (.invokestatic 66, 3) := by decide +kernel
theorem dX7_room_20 : decode cX7_room 20 = .ok (.ifCond .eq 12, 3) := by decide +kernel
theorem dX7_room_23 : decode cX7_room 23 = .ok (.aload_n 0, 1) := by decide +kernel
theorem dX7_room_24 : decode cX7_room 24 = .ok (.iload_n 1, 1) := by decide +kernel
theorem dX7_room_25 : decode cX7_room 25 = .ok (.iload_n 2, 1) := by decide +kernel
theorem dX7_room_26 : decode cX7_room 26 = .ok (.invokevirtual 112, 3) := by decide +kernel
theorem dX7_room_29 : decode cX7_room 29 = .ok (.goto 8, 3) := by decide +kernel
theorem dX7_room_32 : decode cX7_room 32 = .ok (.aload_n 0, 1) := by decide +kernel
theorem dX7_room_33 : decode cX7_room 33 = .ok (.iconst 1, 1) := by decide +kernel
theorem dX7_room_34 : decode cX7_room 34 = .ok (.invokevirtual 85, 3) := by decide +kernel
theorem dX7_room_37 : decode cX7_room 37 = .ok (.ireturn, 1) := by decide +kernel
theorem dX7_goTogether_0 : decode cX7_goTogether 0 = .ok (.iload_n 1, 1) := by decide +kernel
theorem dX7_goTogether_1 : decode cX7_goTogether 1 = .ok (.iload_n 2, 1) := by decide +kernel
theorem dX7_goTogether_2 : decode cX7_goTogether 2 = .ok (.if_icmp .ne 5, 3) := by decide +kernel
theorem dX7_goTogether_5 : decode cX7_goTogether 5 = .ok (.iconst 1, 1) := by decide +kernel
theorem dX7_goTogether_6 : decode cX7_goTogether 6 = .ok (.ireturn, 1) := by decide +kernel
theorem dX7_goTogether_7 : decode cX7_goTogether 7 = .ok (.aload_n 0, 1) := by decide +kernel
theorem dX7_goTogether_8 : decode cX7_goTogether 8 = .ok (.getfield 26, 3) := by decide +kernel
theorem dX7_goTogether_11 : decode cX7_goTogether 11 = .ok (.iload_n 1, 1) := by decide +kernel
theorem dX7_goTogether_12 : decode cX7_goTogether 12 = .ok (.iaload, 1) := by decide +kernel
theorem dX7_goTogether_13 : decode cX7_goTogether 13 = .ok (.iconst 3, 1) := by decide +kernel
theorem dX7_goTogether_14 : decode cX7_goTogether 14 = .ok (.if_icmp .eq 13, 3) := by decide +kernel
theorem dX7_goTogether_17 : decode cX7_goTogether 17 = .ok (.aload_n 0, 1) := by decide +kernel
theorem dX7_goTogether_18 : decode cX7_goTogether 18 = .ok (.getfield 26, 3) := by decide +kernel
theorem dX7_goTogether_21 : decode cX7_goTogether 21 = .ok (.iload_n 2, 1) := by decide +kernel
theorem dX7_goTogether_22 : decode cX7_goTogether 22 = .ok (.iaload, 1) := by decide +kernel
theorem dX7_goTogether_23 : decode cX7_goTogether 23 = .ok (.iconst 3, 1) := by decide +kernel
theorem dX7_goTogether_24 : decode cX7_goTogether 24 = .ok (.if_icmp .ne 5, 3) := by decide +kernel
theorem dX7_goTogether_27 : decode cX7_goTogether 27 = .ok (.iconst 0, 1) := by decide +kernel
theorem dX7_goTogether_28 : decode cX7_goTogether 28 = .ok (.ireturn, 1) := by decide +kernel
theorem dX7_goTogether_29 : decode cX7_goTogether 29 = .ok (.aload_n 0, 1) := by decide +kernel
theorem dX7_goTogether_30 : decode cX7_goTogether 30 = .ok (.getfield 26, 3) := by decide +kernel
theorem dX7_goTogether_33 : decode cX7_goTogether 33 = .ok (.iload_n 1, 1) := by decide +kernel
theorem dX7_goTogether_34 : decode cX7_goTogether 34 = .ok (.iaload, 1) := by decide +kernel
theorem dX7_goTogether_35 : decode cX7_goTogether 35 = .ok (.aload_n 0, 1) := by decide +kernel
theorem dX7_goTogether_36 : decode cX7_goTogether 36 = .ok (.getfield 26, 3) := by decide +kernel
theorem dX7_goTogether_39 : decode cX7_goTogether 39 = .ok (.iload_n 2, 1) := by decide +kernel
theorem dX7_goTogether_40 : decode cX7_goTogether 40 = .ok (.iaload, 1) := by decide +kernel
theorem dX7_goTogether_41 : decode cX7_goTogether 41 = .ok (.iadd, 1) := by decide +kernel
theorem dX7_goTogether_42 : decode cX7_goTogether 42 = .ok (.iconst 3, 1) := by decide +kernel
theorem dX7_goTogether_43 : decode cX7_goTogether 43 = .ok (.if_icmp .eq 7, 3) := by decide +kernel
theorem dX7_goTogether_46 : decode cX7_goTogether 46 = .ok (.iconst 1, 1) := by decide +kernel
theorem dX7_goTogether_47 : decode cX7_goTogether 47 = .ok (.goto 4, 3) := by decide +kernel
theorem dX7_goTogether_50 : decode cX7_goTogether 50 = .ok (.iconst 0, 1) := by decide +kernel
theorem dX7_goTogether_51 : decode cX7_goTogether 51 = .ok (.ireturn, 1) := by decide +kernel
theorem dX7_reasonFor_0 : decode cX7_reasonFor 0 = .ok (.aload_n 0, 1) := by decide +kernel
theorem dX7_reasonFor_1 : decode cX7_reasonFor 1 = .ok (.iload_n 2, 1) := by decide +kernel
theorem dX7_reasonFor_2 : decode cX7_reasonFor 2 = .ok (.invokevirtual 109, 3) := by decide +kernel
theorem dX7_reasonFor_5 : decode cX7_reasonFor 5 = .ok (.ifCond .ne 5, 3) := by decide +kernel
theorem dX7_reasonFor_8 : decode cX7_reasonFor 8 = .ok (.iconst 1, 1) := by decide +kernel
theorem dX7_reasonFor_9 : decode cX7_reasonFor 9 = .ok (.ireturn, 1) := by decide +kernel
theorem dX7_reasonFor_10 : decode cX7_reasonFor 10 = .ok (.iconst 0, 1) := by decide +kernel
theorem dX7_reasonFor_11 : decode cX7_reasonFor 11 = .ok (.istore_n 3, 1) := by decide +kernel
theorem dX7_reasonFor_12 : decode cX7_reasonFor 12 = .ok (.iload_n 3, 1) := by decide +kernel
theorem dX7_reasonFor_13 : decode cX7_reasonFor 13 = .ok (.aload_n 0, 1) := by decide +kernel
theorem dX7_reasonFor_14 : decode cX7_reasonFor 14 = .ok (.getfield 73, 3) := by decide +kernel
theorem dX7_reasonFor_17 : decode cX7_reasonFor 17 = .ok (.if_icmp .ge 35, 3) := by decide +kernel
theorem dX7_reasonFor_20 : decode cX7_reasonFor 20 = .ok (.aload_n 0, 1) := by decide +kernel
theorem dX7_reasonFor_21 : decode cX7_reasonFor 21 = .ok (.getfield 51, 3) := by decide +kernel
theorem dX7_reasonFor_24 : decode cX7_reasonFor 24 = .ok (.iload_n 3, 1) := by decide +kernel
theorem dX7_reasonFor_25 : decode cX7_reasonFor 25 = .ok (.iaload, 1) := by decide +kernel
theorem dX7_reasonFor_26 : decode cX7_reasonFor 26 = .ok (.iload_n 2, 1) := by decide +kernel
theorem dX7_reasonFor_27 : decode cX7_reasonFor 27 = .ok (.if_icmp .ne 19, 3) := by decide +kernel
theorem dX7_reasonFor_30 : decode cX7_reasonFor 30 = .ok (.aload_n 0, 1) := by decide +kernel
theorem dX7_reasonFor_31 : decode cX7_reasonFor 31 = .ok (.iload_n 1, 1) := by decide +kernel
theorem dX7_reasonFor_32 : decode cX7_reasonFor 32 = .ok (.aload_n 0, 1) := by decide +kernel
theorem dX7_reasonFor_33 : decode cX7_reasonFor 33 = .ok (.getfield 48, 3) := by decide +kernel
theorem dX7_reasonFor_36 : decode cX7_reasonFor 36 = .ok (.iload_n 3, 1) := by decide +kernel
theorem dX7_reasonFor_37 : decode cX7_reasonFor 37 = .ok (.iaload, 1) := by decide +kernel
theorem dX7_reasonFor_38 : decode cX7_reasonFor 38 = .ok (.invokevirtual 115, 3) := by decide +kernel
theorem dX7_reasonFor_41 : decode cX7_reasonFor 41 = .ok (.ifCond .ne 5, 3) := by decide +kernel
theorem dX7_reasonFor_44 : decode cX7_reasonFor 44 = .ok (.iconst 2, 1) := by decide +kernel
theorem dX7_reasonFor_45 : decode cX7_reasonFor 45 = .ok (.ireturn, 1) := by decide +kernel
theorem dX7_reasonFor_46 : decode cX7_reasonFor 46 = .ok (.iinc 3 1, 3) := by decide +kernel
theorem dX7_reasonFor_49 : decode cX7_reasonFor 49 = .ok (.goto (-37), 3) := by decide +kernel
theorem dX7_reasonFor_52 : decode cX7_reasonFor 52 = .ok (.iconst 0, 1) := by decide +kernel
theorem dX7_reasonFor_53 : decode cX7_reasonFor 53 = .ok (.ireturn, 1) := by decide +kernel
theorem dX7_reason_0 : decode cX7_reason 0 = .ok (.aload_n 0, 1) := by decide +kernel
theorem dX7_reason_1 : decode cX7_reason 1 = .ok (.iconst 0, 1) := by decide +kernel
theorem dX7_reason_2 : decode cX7_reason 2 = .ok (.putfield 60, 3) := by decide +kernel
theorem dX7_reason_5 : decode cX7_reason 5 = .ok (.aload_n 0, 1) := by decide +kernel
theorem dX7_reason_6 : decode cX7_reason 6 = .ok (.iload_n 1, 1) := by decide +kernel
theorem dX7_reason_7 : decode cX7_reason 7 = .ok (.invokevirtual 119, 3) := by decide +kernel
theorem dX7_reason_10 : decode cX7_reason 10 = .ok (.ifCond .eq 20, 3) := by decide +kernel
theorem dX7_reason_13 : decode cX7_reason 13 = .ok (.aload_n 0, 1) := by decide +kernel
theorem dX7_reason_14 : decode cX7_reason 14 = .ok (.iload_n 2, 1) := by decide +kernel
theorem dX7_reason_15 : decode cX7_reason 15 = .ok (.invokevirtual 106, 3) := by decide +kernel
theorem dX7_reason_18 : decode cX7_reason 18 = .ok (.ifCond .eq 12, 3) := by decide +kernel
theorem dX7_reason_21 : decode cX7_reason 21 = .ok (.aload_n 0, 1) := by decide +kernel
theorem dX7_reason_22 : decode cX7_reason 22 = .ok (.iload_n 1, 1) := by decide +kernel
theorem dX7_reason_23 : decode cX7_reason 23 = .ok (.iload_n 2, 1) := by decide +kernel
theorem dX7_reason_24 : decode cX7_reason 24 = .ok (.invokevirtual 122, 3) := by decide +kernel
theorem dX7_reason_27 : decode cX7_reason 27 = .ok (.goto 8, 3) := by decide +kernel
theorem dX7_reason_30 : decode cX7_reason 30 = .ok (.aload_n 0, 1) := by decide +kernel
theorem dX7_reason_31 : decode cX7_reason 31 = .ok (.iconst 1, 1) := by decide +kernel
theorem dX7_reason_32 : decode cX7_reason 32 = .ok (.invokevirtual 85, 3) := by decide +kernel
theorem dX7_reason_35 : decode cX7_reason 35 = .ok (.ireturn, 1) := by decide +kernel
theorem dX7_arrive_0 : decode cX7_arrive 0 = .ok (.aload_n 0, 1) := by decide +kernel
theorem dX7_arrive_1 : decode cX7_arrive 1 = .ok (.iconst 0, 1) := by decide +kernel
theorem dX7_arrive_2 : decode cX7_arrive 2 = .ok (.putfield 60, 3) := by decide +kernel
theorem dX7_arrive_5 : decode cX7_arrive 5 = .ok (.aload_n 0, 1) := by decide +kernel
theorem dX7_arrive_6 : decode cX7_arrive 6 = .ok (.iload_n 1, 1) := by decide +kernel
theorem dX7_arrive_7 : decode cX7_arrive 7 = .ok (.invokevirtual 119, 3) := by decide +kernel
theorem dX7_arrive_10 : decode cX7_arrive 10 = .ok (.ifCond .eq 11, 3) := by decide +kernel
theorem dX7_arrive_13 : decode cX7_arrive 13 = .ok (.aload_n 0, 1) := by decide +kernel
theorem dX7_arrive_14 : decode cX7_arrive 14 = .ok (.iload_n 2, 1) := by decide +kernel
theorem dX7_arrive_15 : decode cX7_arrive 15 = .ok (.invokevirtual 106, 3) := by decide +kernel
theorem dX7_arrive_18 : decode cX7_arrive 18 = .ok (.ifCond .ne 9, 3) := by decide +kernel
theorem dX7_arrive_21 : decode cX7_arrive 21 = .ok (.aload_n 0, 1) := by decide +kernel
theorem dX7_arrive_22 : decode cX7_arrive 22 = .ok (.iconst 1, 1) := by decide +kernel
theorem dX7_arrive_23 : decode cX7_arrive 23 = .ok (.invokevirtual 85, 3) := by decide +kernel
theorem dX7_arrive_26 : decode cX7_arrive 26 = .ok (.ireturn, 1) := by decide +kernel
theorem dX7_arrive_27 : decode cX7_arrive 27 = .ok (.iload_n 3, 1) := by decide +kernel
theorem dX7_arrive_28 : decode cX7_arrive 28 = .ok (.sipush (-300), 3) := by decide +kernel
theorem dX7_arrive_31 : decode cX7_arrive 31 = .ok (.sipush 400, 3) := by decide +kernel
theorem dX7_arrive_34 : decode cX7_arrive 34 = .ok (.invokestatic 66, 3) := by decide +kernel
theorem dX7_arrive_37 : decode cX7_arrive 37 = .ok (.ifCond .ne 9, 3) := by decide +kernel
theorem dX7_arrive_40 : decode cX7_arrive 40 = .ok (.aload_n 0, 1) := by decide +kernel
theorem dX7_arrive_41 : decode cX7_arrive 41 = .ok (.iconst 2, 1) := by decide +kernel
theorem dX7_arrive_42 : decode cX7_arrive 42 = .ok (.invokevirtual 85, 3) := by decide +kernel
theorem dX7_arrive_45 : decode cX7_arrive 45 = .ok (.ireturn, 1) := by decide +kernel
theorem dX7_arrive_46 : decode cX7_arrive 46 = .ok (.aload_n 0, 1) := by decide +kernel
theorem dX7_arrive_47 : decode cX7_arrive 47 = .ok (.iload_n 1, 1) := by decide +kernel
theorem dX7_arrive_48 : decode cX7_arrive 48 = .ok (.iload_n 2, 1) := by decide +kernel
theorem dX7_arrive_49 : decode cX7_arrive 49 = .ok (.invokevirtual 122, 3) := by decide +kernel
theorem dX7_arrive_52 : decode cX7_arrive 52 = .ok (.ifCond .ne 12, 3) := by decide +kernel
theorem dX7_arrive_55 : decode cX7_arrive 55 = .ok (.aload_n 0, 1) := by decide +kernel
theorem dX7_arrive_56 : decode cX7_arrive 56 = .ok (.getfield 73, 3) := by decide +kernel
theorem dX7_arrive_59 : decode cX7_arrive 59 = .ok (.bipush 60, 2) := by decide +kernel
theorem dX7_arrive_61 : decode cX7_arrive 61 = .ok (.if_icmp .ne 9, 3) := by decide +kernel
theorem dX7_arrive_64 : decode cX7_arrive 64 = .ok (.aload_n 0, 1) := by decide +kernel
theorem dX7_arrive_65 : decode cX7_arrive 65 = .ok (.iconst 3, 1) := by decide +kernel
theorem dX7_arrive_66 : decode cX7_arrive 66 = .ok (.invokevirtual 85, 3) := by decide +kernel
theorem dX7_arrive_69 : decode cX7_arrive 69 = .ok (.ireturn, 1) := by decide +kernel
theorem dX7_arrive_70 : decode cX7_arrive 70 = .ok (.aload_n 0, 1) := by decide +kernel
theorem dX7_arrive_71 : decode cX7_arrive 71 = .ok (.getfield 48, 3) := by decide +kernel
theorem dX7_arrive_74 : decode cX7_arrive 74 = .ok (.aload_n 0, 1) := by decide +kernel
theorem dX7_arrive_75 : decode cX7_arrive 75 = .ok (.getfield 73, 3) := by decide +kernel
theorem dX7_arrive_78 : decode cX7_arrive 78 = .ok (.iload_n 1, 1) := by decide +kernel
theorem dX7_arrive_79 : decode cX7_arrive 79 = .ok (.iastore, 1) := by decide +kernel
theorem dX7_arrive_80 : decode cX7_arrive 80 = .ok (.aload_n 0, 1) := by decide +kernel
theorem dX7_arrive_81 : decode cX7_arrive 81 = .ok (.getfield 51, 3) := by decide +kernel
theorem dX7_arrive_84 : decode cX7_arrive 84 = .ok (.aload_n 0, 1) := by decide +kernel
theorem dX7_arrive_85 : decode cX7_arrive 85 = .ok (.getfield 73, 3) := by decide +kernel
theorem dX7_arrive_88 : decode cX7_arrive 88 = .ok (.iload_n 2, 1) := by decide +kernel
theorem dX7_arrive_89 : decode cX7_arrive 89 = .ok (.iastore, 1) := by decide +kernel
theorem dX7_arrive_90 : decode cX7_arrive 90 = .ok (.aload_n 0, 1) := by decide +kernel
theorem dX7_arrive_91 : decode cX7_arrive 91 = .ok (.getfield 54, 3) := by decide +kernel
theorem dX7_arrive_94 : decode cX7_arrive 94 = .ok (.aload_n 0, 1) := by decide +kernel
theorem dX7_arrive_95 : decode cX7_arrive 95 = .ok (.getfield 73, 3) := by decide +kernel
theorem dX7_arrive_98 : decode cX7_arrive 98 = .ok (.iload_n 3, 1) := by decide +kernel
theorem dX7_arrive_99 : decode cX7_arrive 99 = .ok (.iastore, 1) := by decide +kernel
theorem dX7_arrive_100 : decode cX7_arrive 100 = .ok (.aload_n 0, 1) := by decide +kernel
theorem dX7_arrive_101 : decode cX7_arrive 101 = .ok (.dup, 1) := by decide +kernel
theorem dX7_arrive_102 : decode cX7_arrive 102 = .ok (.getfield 73, 3) := by decide +kernel
theorem dX7_arrive_105 : decode cX7_arrive 105 = .ok (.iconst 1, 1) := by decide +kernel
theorem dX7_arrive_106 : decode cX7_arrive 106 = .ok (.iadd, 1) := by decide +kernel
theorem dX7_arrive_107 : decode cX7_arrive 107 = .ok (.putfield 73, 3) := by decide +kernel
theorem dX7_arrive_110 : decode cX7_arrive 110 = .ok (.aload_n 0, 1) := by decide +kernel
theorem dX7_arrive_111 : decode cX7_arrive 111 = .ok (.getfield 73, 3) := by decide +kernel
theorem dX7_arrive_114 : decode cX7_arrive 114 = .ok (.iconst 1, 1) := by decide +kernel
theorem dX7_arrive_115 : decode cX7_arrive 115 = .ok (.isub, 1) := by decide +kernel
theorem dX7_arrive_116 : decode cX7_arrive 116 = .ok (.ireturn, 1) := by decide +kernel
theorem dX7_move_0 : decode cX7_move 0 = .ok (.aload_n 0, 1) := by decide +kernel
theorem dX7_move_1 : decode cX7_move 1 = .ok (.iconst 0, 1) := by decide +kernel
theorem dX7_move_2 : decode cX7_move 2 = .ok (.putfield 60, 3) := by decide +kernel
theorem dX7_move_5 : decode cX7_move 5 = .ok (.aload_n 0, 1) := by decide +kernel
theorem dX7_move_6 : decode cX7_move 6 = .ok (.iload_n 1, 1) := by decide +kernel
theorem dX7_move_7 : decode cX7_move 7 = .ok (.invokevirtual 125, 3) := by decide +kernel
theorem dX7_move_10 : decode cX7_move 10 = .ok (.ifCond .eq 11, 3) := by decide +kernel
theorem dX7_move_13 : decode cX7_move 13 = .ok (.aload_n 0, 1) := by decide +kernel
theorem dX7_move_14 : decode cX7_move 14 = .ok (.iload_n 2, 1) := by decide +kernel
theorem dX7_move_15 : decode cX7_move 15 = .ok (.invokevirtual 106, 3) := by decide +kernel
theorem dX7_move_18 : decode cX7_move 18 = .ok (.ifCond .ne 9, 3) := by decide +kernel
theorem dX7_move_21 : decode cX7_move 21 = .ok (.aload_n 0, 1) := by decide +kernel
theorem dX7_move_22 : decode cX7_move 22 = .ok (.iconst 1, 1) := by decide +kernel
theorem dX7_move_23 : decode cX7_move 23 = .ok (.invokevirtual 85, 3) := by decide +kernel
theorem dX7_move_26 : decode cX7_move 26 = .ok (.ireturn, 1) := by decide +kernel
theorem dX7_move_27 : decode cX7_move 27 = .ok (.aload_n 0, 1) := by decide +kernel
theorem dX7_move_28 : decode cX7_move 28 = .ok (.getfield 51, 3) := by decide +kernel
theorem dX7_move_31 : decode cX7_move 31 = .ok (.iload_n 1, 1) := by decide +kernel
theorem dX7_move_32 : decode cX7_move 32 = .ok (.iaload, 1) := by decide +kernel
theorem dX7_move_33 : decode cX7_move 33 = .ok (.istore_n 3, 1) := by decide +kernel
theorem dX7_move_34 : decode cX7_move 34 = .ok (.iload_n 3, 1) := by decide +kernel
theorem dX7_move_35 : decode cX7_move 35 = .ok (.iconst (-1), 1) := by decide +kernel
theorem dX7_move_36 : decode cX7_move 36 = .ok (.if_icmp .eq 22, 3) := by decide +kernel
theorem dX7_move_39 : decode cX7_move 39 = .ok (.iload_n 3, 1) := by decide +kernel
theorem dX7_move_40 : decode cX7_move 40 = .ok (.iload_n 2, 1) := by decide +kernel
theorem dX7_move_41 : decode cX7_move 41 = .ok (.if_icmp .eq 17, 3) := by decide +kernel
theorem dX7_move_44 : decode cX7_move 44 = .ok (.aload_n 0, 1) := by decide +kernel
theorem dX7_move_45 : decode cX7_move 45 = .ok (.aload_n 0, 1) := by decide +kernel
theorem dX7_move_46 : decode cX7_move 46 = .ok (.getfield 48, 3) := by decide +kernel
theorem dX7_move_49 : decode cX7_move 49 = .ok (.iload_n 1, 1) := by decide +kernel
theorem dX7_move_50 : decode cX7_move 50 = .ok (.iaload, 1) := by decide +kernel
theorem dX7_move_51 : decode cX7_move 51 = .ok (.iload_n 2, 1) := by decide +kernel
theorem dX7_move_52 : decode cX7_move 52 = .ok (.invokevirtual 122, 3) := by decide +kernel
theorem dX7_move_55 : decode cX7_move 55 = .ok (.ifCond .eq 9, 3) := by decide +kernel
theorem dX7_move_58 : decode cX7_move 58 = .ok (.aload_n 0, 1) := by decide +kernel
theorem dX7_move_59 : decode cX7_move 59 = .ok (.iconst 2, 1) := by decide +kernel
theorem dX7_move_60 : decode cX7_move 60 = .ok (.invokevirtual 85, 3) := by decide +kernel
theorem dX7_move_63 : decode cX7_move 63 = .ok (.ireturn, 1) := by decide +kernel
theorem dX7_move_64 : decode cX7_move 64 = .ok (.aload_n 0, 1) := by decide +kernel
theorem dX7_move_65 : decode cX7_move 65 = .ok (.getfield 51, 3) := by decide +kernel
theorem dX7_move_68 : decode cX7_move 68 = .ok (.iload_n 1, 1) := by decide +kernel
theorem dX7_move_69 : decode cX7_move 69 = .ok (.iload_n 2, 1) := by decide +kernel
theorem dX7_move_70 : decode cX7_move 70 = .ok (.iastore, 1) := by decide +kernel
theorem dX7_move_71 : decode cX7_move 71 = .ok (.iload_n 3, 1) := by decide +kernel
theorem dX7_move_72 : decode cX7_move 72 = .ok (.ireturn, 1) := by decide +kernel
theorem dX7_leftOf_0 : decode cX7_leftOf 0 = .ok (.aload_n 0, 1) := by decide +kernel
theorem dX7_leftOf_1 : decode cX7_leftOf 1 = .ok (.getfield 23, 3) := by decide +kernel
theorem dX7_leftOf_4 : decode cX7_leftOf 4 = .ok (.aload_n 0, 1) := by decide +kernel
theorem dX7_leftOf_5 : decode cX7_leftOf 5 = .ok (.getfield 48, 3) := by decide +kernel
theorem dX7_leftOf_8 : decode cX7_leftOf 8 = .ok (.iload_n 1, 1) := by decide +kernel
theorem dX7_leftOf_9 : decode cX7_leftOf 9 = .ok (.iaload, 1) := by decide +kernel
theorem dX7_leftOf_10 : decode cX7_leftOf 10 = .ok (.iaload, 1) := by decide +kernel
theorem dX7_leftOf_11 : decode cX7_leftOf 11 = .ok (.aload_n 0, 1) := by decide +kernel
theorem dX7_leftOf_12 : decode cX7_leftOf 12 = .ok (.getfield 57, 3) := by decide +kernel
theorem dX7_leftOf_15 : decode cX7_leftOf 15 = .ok (.iload_n 1, 1) := by decide +kernel
theorem dX7_leftOf_16 : decode cX7_leftOf 16 = .ok (.iaload, 1) := by decide +kernel
theorem dX7_leftOf_17 : decode cX7_leftOf 17 = .ok (.isub, 1) := by decide +kernel
theorem dX7_leftOf_18 : decode cX7_leftOf 18 = .ok (.ireturn, 1) := by decide +kernel
theorem dX7_toldOfPallet_0 : decode cX7_toldOfPallet 0 = .ok (.iload_n 2, 1) := by decide +kernel
theorem dX7_toldOfPallet_1 : decode cX7_toldOfPallet 1 = .ok (.ifCond .ne 12, 3) := by decide +kernel
theorem dX7_toldOfPallet_4 : decode cX7_toldOfPallet 4 = .ok (.aload_n 0, 1) := by decide +kernel
theorem dX7_toldOfPallet_5 : decode cX7_toldOfPallet 5 = .ok (.getfield 48, 3) := by decide +kernel
theorem dX7_toldOfPallet_8 : decode cX7_toldOfPallet 8 = .ok (.iload_n 1, 1) := by decide +kernel
theorem dX7_toldOfPallet_9 : decode cX7_toldOfPallet 9 = .ok (.iaload, 1) := by decide +kernel
theorem dX7_toldOfPallet_10 : decode cX7_toldOfPallet 10 = .ok (.goto 50, 3) := by decide +kernel
theorem dX7_toldOfPallet_13 : decode cX7_toldOfPallet 13 = .ok (.iload_n 2, 1) := by decide +kernel
theorem dX7_toldOfPallet_14 : decode cX7_toldOfPallet 14 = .ok (.iconst 1, 1) := by decide +kernel
theorem dX7_toldOfPallet_15 : decode cX7_toldOfPallet 15 = .ok (.if_icmp .ne 12, 3) := by decide +kernel
theorem dX7_toldOfPallet_18 : decode cX7_toldOfPallet 18 = .ok (.aload_n 0, 1) := by decide +kernel
theorem dX7_toldOfPallet_19 : decode cX7_toldOfPallet 19 = .ok (.getfield 54, 3) := by decide +kernel
theorem dX7_toldOfPallet_22 : decode cX7_toldOfPallet 22 = .ok (.iload_n 1, 1) := by decide +kernel
theorem dX7_toldOfPallet_23 : decode cX7_toldOfPallet 23 = .ok (.iaload, 1) := by decide +kernel
theorem dX7_toldOfPallet_24 : decode cX7_toldOfPallet 24 = .ok (.goto 36, 3) := by decide +kernel
theorem dX7_toldOfPallet_27 : decode cX7_toldOfPallet 27 = .ok (.iload_n 2, 1) := by decide +kernel
theorem dX7_toldOfPallet_28 : decode cX7_toldOfPallet 28 = .ok (.iconst 2, 1) := by decide +kernel
theorem dX7_toldOfPallet_29 : decode cX7_toldOfPallet 29 = .ok (.if_icmp .ne 12, 3) := by decide +kernel
theorem dX7_toldOfPallet_32 : decode cX7_toldOfPallet 32 = .ok (.aload_n 0, 1) := by decide +kernel
theorem dX7_toldOfPallet_33 : decode cX7_toldOfPallet 33 = .ok (.getfield 57, 3) := by decide +kernel
theorem dX7_toldOfPallet_36 : decode cX7_toldOfPallet 36 = .ok (.iload_n 1, 1) := by decide +kernel
theorem dX7_toldOfPallet_37 : decode cX7_toldOfPallet 37 = .ok (.iaload, 1) := by decide +kernel
theorem dX7_toldOfPallet_38 : decode cX7_toldOfPallet 38 = .ok (.goto 22, 3) := by decide +kernel
theorem dX7_toldOfPallet_41 : decode cX7_toldOfPallet 41 = .ok (.iload_n 2, 1) := by decide +kernel
theorem dX7_toldOfPallet_42 : decode cX7_toldOfPallet 42 = .ok (.iconst 3, 1) := by decide +kernel
theorem dX7_toldOfPallet_43 : decode cX7_toldOfPallet 43 = .ok (.if_icmp .ne 12, 3) := by decide +kernel
theorem dX7_toldOfPallet_46 : decode cX7_toldOfPallet 46 = .ok (.aload_n 0, 1) := by decide +kernel
theorem dX7_toldOfPallet_47 : decode cX7_toldOfPallet 47 = .ok (.getfield 51, 3) := by decide +kernel
theorem dX7_toldOfPallet_50 : decode cX7_toldOfPallet 50 = .ok (.iload_n 1, 1) := by decide +kernel
theorem dX7_toldOfPallet_51 : decode cX7_toldOfPallet 51 = .ok (.iaload, 1) := by decide +kernel
theorem dX7_toldOfPallet_52 : decode cX7_toldOfPallet 52 = .ok (.goto 8, 3) := by decide +kernel
theorem dX7_toldOfPallet_55 : decode cX7_toldOfPallet 55 = .ok (.aload_n 0, 1) := by decide +kernel
theorem dX7_toldOfPallet_56 : decode cX7_toldOfPallet 56 = .ok (.iload_n 1, 1) := by decide +kernel
theorem dX7_toldOfPallet_57 : decode cX7_toldOfPallet 57 = .ok (.invokevirtual 128, 3) := by decide +kernel
theorem dX7_toldOfPallet_60 : decode cX7_toldOfPallet 60 = .ok (.ireturn, 1) := by decide +kernel
theorem dX7_pallet_0 : decode cX7_pallet 0 = .ok (.aload_n 0, 1) := by decide +kernel
theorem dX7_pallet_1 : decode cX7_pallet 1 = .ok (.iconst 0, 1) := by decide +kernel
theorem dX7_pallet_2 : decode cX7_pallet 2 = .ok (.putfield 60, 3) := by decide +kernel
theorem dX7_pallet_5 : decode cX7_pallet 5 = .ok (.aload_n 0, 1) := by decide +kernel
theorem dX7_pallet_6 : decode cX7_pallet 6 = .ok (.iload_n 1, 1) := by decide +kernel
theorem dX7_pallet_7 : decode cX7_pallet 7 = .ok (.invokevirtual 125, 3) := by decide +kernel
theorem dX7_pallet_10 : decode cX7_pallet 10 = .ok (.ifCond .eq 21, 3) := by decide +kernel
theorem dX7_pallet_13 : decode cX7_pallet 13 = .ok (.iload_n 2, 1) := by decide +kernel
theorem dX7_pallet_14 : decode cX7_pallet 14 = .ok (.iconst 0, 1) := by decide +kernel
theorem dX7_pallet_15 : decode cX7_pallet 15 = .ok (.iconst 4, 1) := by decide +kernel
theorem dX7_pallet_16 : decode cX7_pallet 16 = .ok (.invokestatic 66, 3) := by decide +kernel
theorem dX7_pallet_19 : decode cX7_pallet 19 = .ok (.ifCond .eq 12, 3) := by decide +kernel
theorem dX7_pallet_22 : decode cX7_pallet 22 = .ok (.aload_n 0, 1) := by decide +kernel
theorem dX7_pallet_23 : decode cX7_pallet 23 = .ok (.iload_n 1, 1) := by decide +kernel
theorem dX7_pallet_24 : decode cX7_pallet 24 = .ok (.iload_n 2, 1) := by decide +kernel
theorem dX7_pallet_25 : decode cX7_pallet 25 = .ok (.invokevirtual 131, 3) := by decide +kernel
theorem dX7_pallet_28 : decode cX7_pallet 28 = .ok (.goto 8, 3) := by decide +kernel
theorem dX7_pallet_31 : decode cX7_pallet 31 = .ok (.aload_n 0, 1) := by decide +kernel
theorem dX7_pallet_32 : decode cX7_pallet 32 = .ok (.iconst 1, 1) := by decide +kernel
theorem dX7_pallet_33 : decode cX7_pallet 33 = .ok (.invokevirtual 85, 3) := by decide +kernel
theorem dX7_pallet_36 : decode cX7_pallet 36 = .ok (.ireturn, 1) := by decide +kernel
theorem dX7_off_0 : decode cX7_off 0 = .ok (.iconst 0, 1) := by decide +kernel
theorem dX7_off_1 : decode cX7_off 1 = .ok (.aload_n 0, 1) := by decide +kernel
theorem dX7_off_2 : decode cX7_off 2 = .ok (.getfield 17, 3) := by decide +kernel
theorem dX7_off_5 : decode cX7_off 5 = .ok (.iload_n 1, 1) := by decide +kernel
theorem dX7_off_6 : decode cX7_off 6 = .ok (.iaload, 1) := by decide +kernel
theorem dX7_off_7 : decode cX7_off 7 = .ok (.iload_n 2, 1) := by decide +kernel
theorem dX7_off_8 : decode cX7_off 8 = .ok (.isub, 1) := by decide +kernel
theorem dX7_off_9 : decode cX7_off 9 = .ok (.iload_n 2, 1) := by decide +kernel
theorem dX7_off_10 : decode cX7_off 10 = .ok (.aload_n 0, 1) := by decide +kernel
theorem dX7_off_11 : decode cX7_off 11 = .ok (.getfield 20, 3) := by decide +kernel
theorem dX7_off_14 : decode cX7_off 14 = .ok (.iload_n 1, 1) := by decide +kernel
theorem dX7_off_15 : decode cX7_off 15 = .ok (.iaload, 1) := by decide +kernel
theorem dX7_off_16 : decode cX7_off 16 = .ok (.isub, 1) := by decide +kernel
theorem dX7_off_17 : decode cX7_off 17 = .ok (.invokestatic 134, 3) := by decide +kernel
theorem dX7_off_20 : decode cX7_off 20 = .ok (.invokestatic 134, 3) := by decide +kernel
theorem dX7_off_23 : decode cX7_off 23 = .ok (.ireturn, 1) := by decide +kernel
theorem dX7_bestRoom_0 : decode cX7_bestRoom 0 = .ok (.aload_n 0, 1) := by decide +kernel
theorem dX7_bestRoom_1 : decode cX7_bestRoom 1 = .ok (.iconst 0, 1) := by decide +kernel
theorem dX7_bestRoom_2 : decode cX7_bestRoom 2 = .ok (.putfield 60, 3) := by decide +kernel
theorem dX7_bestRoom_5 : decode cX7_bestRoom 5 = .ok (.aload_n 0, 1) := by decide +kernel
theorem dX7_bestRoom_6 : decode cX7_bestRoom 6 = .ok (.iload_n 1, 1) := by decide +kernel
theorem dX7_bestRoom_7 : decode cX7_bestRoom 7 = .ok (.invokevirtual 119, 3) := by decide +kernel
theorem dX7_bestRoom_10 : decode cX7_bestRoom 10 = .ok (.ifCond .ne 9, 3) := by decide +kernel
theorem dX7_bestRoom_13 : decode cX7_bestRoom 13 = .ok (.aload_n 0, 1) := by decide +kernel
theorem dX7_bestRoom_14 : decode cX7_bestRoom 14 = .ok (.iconst 1, 1) := by decide +kernel
theorem dX7_bestRoom_15 : decode cX7_bestRoom 15 = .ok (.invokevirtual 85, 3) := by decide +kernel
theorem dX7_bestRoom_18 : decode cX7_bestRoom 18 = .ok (.ireturn, 1) := by decide +kernel
theorem dX7_bestRoom_19 : decode cX7_bestRoom 19 = .ok (.iconst (-1), 1) := by decide +kernel
theorem dX7_bestRoom_20 : decode cX7_bestRoom 20 = .ok (.istore_n 2, 1) := by decide +kernel
theorem dX7_bestRoom_21 : decode cX7_bestRoom 21 = .ok (.iconst 0, 1) := by decide +kernel
theorem dX7_bestRoom_22 : decode cX7_bestRoom 22 = .ok (.istore_n 3, 1) := by decide +kernel
theorem dX7_bestRoom_23 : decode cX7_bestRoom 23 = .ok (.iload_n 3, 1) := by decide +kernel
theorem dX7_bestRoom_24 : decode cX7_bestRoom 24 = .ok (.aload_n 0, 1) := by decide +kernel
theorem dX7_bestRoom_25 : decode cX7_bestRoom 25 = .ok (.getfield 70, 3) := by decide +kernel
theorem dX7_bestRoom_28 : decode cX7_bestRoom 28 = .ok (.if_icmp .ge 80, 3) := by decide +kernel
theorem dX7_bestRoom_31 : decode cX7_bestRoom 31 = .ok (.aload_n 0, 1) := by decide +kernel
theorem dX7_bestRoom_32 : decode cX7_bestRoom 32 = .ok (.iload_n 1, 1) := by decide +kernel
theorem dX7_bestRoom_33 : decode cX7_bestRoom 33 = .ok (.iload_n 3, 1) := by decide +kernel
theorem dX7_bestRoom_34 : decode cX7_bestRoom 34 = .ok (.invokevirtual 122, 3) := by decide +kernel
theorem dX7_bestRoom_37 : decode cX7_bestRoom 37 = .ok (.ifCond .eq 6, 3) := by decide +kernel
theorem dX7_bestRoom_40 : decode cX7_bestRoom 40 = .ok (.goto 62, 3) := by decide +kernel
theorem dX7_bestRoom_43 : decode cX7_bestRoom 43 = .ok (.iload_n 2, 1) := by decide +kernel
theorem dX7_bestRoom_44 : decode cX7_bestRoom 44 = .ok (.iconst (-1), 1) := by decide +kernel
theorem dX7_bestRoom_45 : decode cX7_bestRoom 45 = .ok (.if_icmp .ne 7, 3) := by decide +kernel
theorem dX7_bestRoom_48 : decode cX7_bestRoom 48 = .ok (.iconst (-1), 1) := by decide +kernel
theorem dX7_bestRoom_49 : decode cX7_bestRoom 49 = .ok (.goto 26, 3) := by decide +kernel
theorem dX7_bestRoom_52 : decode cX7_bestRoom 52 = .ok (.aload_n 0, 1) := by decide +kernel
theorem dX7_bestRoom_53 : decode cX7_bestRoom 53 = .ok (.iload_n 1, 1) := by decide +kernel
theorem dX7_bestRoom_54 : decode cX7_bestRoom 54 = .ok (.aload_n 0, 1) := by decide +kernel
theorem dX7_bestRoom_55 : decode cX7_bestRoom 55 = .ok (.getfield 38, 3) := by decide +kernel
theorem dX7_bestRoom_58 : decode cX7_bestRoom 58 = .ok (.iload_n 3, 1) := by decide +kernel
theorem dX7_bestRoom_59 : decode cX7_bestRoom 59 = .ok (.iaload, 1) := by decide +kernel
theorem dX7_bestRoom_60 : decode cX7_bestRoom 60 = .ok (.invokevirtual 137, 3) := by decide +kernel
theorem dX7_bestRoom_63 : decode cX7_bestRoom 63 = .ok (.aload_n 0, 1) := by decide +kernel
theorem dX7_bestRoom_64 : decode cX7_bestRoom 64 = .ok (.iload_n 1, 1) := by decide +kernel
theorem dX7_bestRoom_65 : decode cX7_bestRoom 65 = .ok (.aload_n 0, 1) := by decide +kernel
theorem dX7_bestRoom_66 : decode cX7_bestRoom 66 = .ok (.getfield 38, 3) := by decide +kernel
theorem dX7_bestRoom_69 : decode cX7_bestRoom 69 = .ok (.iload_n 2, 1) := by decide +kernel
theorem dX7_bestRoom_70 : decode cX7_bestRoom 70 = .ok (.iaload, 1) := by decide +kernel
theorem dX7_bestRoom_71 : decode cX7_bestRoom 71 = .ok (.invokevirtual 137, 3) := by decide +kernel
theorem dX7_bestRoom_74 : decode cX7_bestRoom 74 = .ok (.isub, 1) := by decide +kernel
theorem dX7_bestRoom_75 : decode cX7_bestRoom 75 = .ok (.istore 4, 2) := by decide +kernel
theorem dX7_bestRoom_77 : decode cX7_bestRoom 77 = .ok (.iload 4, 2) := by decide +kernel
theorem dX7_bestRoom_79 : decode cX7_bestRoom 79 = .ok (.ifCond .lt 21, 3) := by decide +kernel
theorem dX7_bestRoom_82 : decode cX7_bestRoom 82 = .ok (.iload 4, 2) := by decide +kernel
theorem dX7_bestRoom_84 : decode cX7_bestRoom 84 = .ok (.ifCond .ne 18, 3) := by decide +kernel
theorem dX7_bestRoom_87 : decode cX7_bestRoom 87 = .ok (.aload_n 0, 1) := by decide +kernel
theorem dX7_bestRoom_88 : decode cX7_bestRoom 88 = .ok (.iload_n 3, 1) := by decide +kernel
theorem dX7_bestRoom_89 : decode cX7_bestRoom 89 = .ok (.invokevirtual 109, 3) := by decide +kernel
theorem dX7_bestRoom_92 : decode cX7_bestRoom 92 = .ok (.aload_n 0, 1) := by decide +kernel
theorem dX7_bestRoom_93 : decode cX7_bestRoom 93 = .ok (.iload_n 2, 1) := by decide +kernel
theorem dX7_bestRoom_94 : decode cX7_bestRoom 94 = .ok (.invokevirtual 109, 3) := by decide +kernel
theorem dX7_bestRoom_97 : decode cX7_bestRoom 97 = .ok (.if_icmp .le 5, 3) := by decide +kernel
theorem dX7_bestRoom_100 : decode cX7_bestRoom 100 = .ok (.iload_n 3, 1) := by decide +kernel
theorem dX7_bestRoom_101 : decode cX7_bestRoom 101 = .ok (.istore_n 2, 1) := by decide +kernel
theorem dX7_bestRoom_102 : decode cX7_bestRoom 102 = .ok (.iinc 3 1, 3) := by decide +kernel
theorem dX7_bestRoom_105 : decode cX7_bestRoom 105 = .ok (.goto (-82), 3) := by decide +kernel
theorem dX7_bestRoom_108 : decode cX7_bestRoom 108 = .ok (.iload_n 2, 1) := by decide +kernel
theorem dX7_bestRoom_109 : decode cX7_bestRoom 109 = .ok (.ireturn, 1) := by decide +kernel
theorem dX7_ship_0 : decode cX7_ship 0 = .ok (.aload_n 0, 1) := by decide +kernel
theorem dX7_ship_1 : decode cX7_ship 1 = .ok (.iconst 0, 1) := by decide +kernel
theorem dX7_ship_2 : decode cX7_ship 2 = .ok (.putfield 60, 3) := by decide +kernel
theorem dX7_ship_5 : decode cX7_ship 5 = .ok (.aload_n 0, 1) := by decide +kernel
theorem dX7_ship_6 : decode cX7_ship 6 = .ok (.iload_n 1, 1) := by decide +kernel
theorem dX7_ship_7 : decode cX7_ship 7 = .ok (.invokevirtual 119, 3) := by decide +kernel
theorem dX7_ship_10 : decode cX7_ship 10 = .ok (.ifCond .ne 9, 3) := by decide +kernel
theorem dX7_ship_13 : decode cX7_ship 13 = .ok (.aload_n 0, 1) := by decide +kernel
theorem dX7_ship_14 : decode cX7_ship 14 = .ok (.iconst 1, 1) := by decide +kernel
theorem dX7_ship_15 : decode cX7_ship 15 = .ok (.invokevirtual 85, 3) := by decide +kernel
theorem dX7_ship_18 : decode cX7_ship 18 = .ok (.ireturn, 1) := by decide +kernel
theorem dX7_ship_19 : decode cX7_ship 19 = .ok (.iload_n 2, 1) := by decide +kernel
theorem dX7_ship_20 : decode cX7_ship 20 = .ok (.iconst 1, 1) := by decide +kernel
theorem dX7_ship_21 : decode cX7_ship 21 = .ok (.bipush 60, 2) := by decide +kernel
theorem dX7_ship_23 : decode cX7_ship 23 = .ok (.invokestatic 66, 3) := by decide +kernel
theorem dX7_ship_26 : decode cX7_ship 26 = .ok (.ifCond .eq 7, 3) := by decide +kernel
theorem dX7_ship_29 : decode cX7_ship 29 = .ok (.iload_n 3, 1) := by decide +kernel
theorem dX7_ship_30 : decode cX7_ship 30 = .ok (.ifCond .ge 9, 3) := by decide +kernel
theorem dX7_ship_33 : decode cX7_ship 33 = .ok (.aload_n 0, 1) := by decide +kernel
theorem dX7_ship_34 : decode cX7_ship 34 = .ok (.iconst 2, 1) := by decide +kernel
theorem dX7_ship_35 : decode cX7_ship 35 = .ok (.invokevirtual 85, 3) := by decide +kernel
theorem dX7_ship_38 : decode cX7_ship 38 = .ok (.ireturn, 1) := by decide +kernel
theorem dX7_ship_39 : decode cX7_ship 39 = .ok (.iconst 0, 1) := by decide +kernel
theorem dX7_ship_40 : decode cX7_ship 40 = .ok (.istore 4, 2) := by decide +kernel
theorem dX7_ship_42 : decode cX7_ship 42 = .ok (.iload 4, 2) := by decide +kernel
theorem dX7_ship_44 : decode cX7_ship 44 = .ok (.iload_n 2, 1) := by decide +kernel
theorem dX7_ship_45 : decode cX7_ship 45 = .ok (.if_icmp .ge 104, 3) := by decide +kernel
theorem dX7_ship_48 : decode cX7_ship 48 = .ok (.iconst (-1), 1) := by decide +kernel
theorem dX7_ship_49 : decode cX7_ship 49 = .ok (.istore 5, 2) := by decide +kernel
theorem dX7_ship_51 : decode cX7_ship 51 = .ok (.iconst 0, 1) := by decide +kernel
theorem dX7_ship_52 : decode cX7_ship 52 = .ok (.istore 6, 2) := by decide +kernel
theorem dX7_ship_54 : decode cX7_ship 54 = .ok (.iload 6, 2) := by decide +kernel
theorem dX7_ship_56 : decode cX7_ship 56 = .ok (.aload_n 0, 1) := by decide +kernel
theorem dX7_ship_57 : decode cX7_ship 57 = .ok (.getfield 73, 3) := by decide +kernel
theorem dX7_ship_60 : decode cX7_ship 60 = .ok (.if_icmp .ge 66, 3) := by decide +kernel
theorem dX7_ship_63 : decode cX7_ship 63 = .ok (.aload_n 0, 1) := by decide +kernel
theorem dX7_ship_64 : decode cX7_ship 64 = .ok (.getfield 48, 3) := by decide +kernel
theorem dX7_ship_67 : decode cX7_ship 67 = .ok (.iload 6, 2) := by decide +kernel
theorem dX7_ship_69 : decode cX7_ship 69 = .ok (.iaload, 1) := by decide +kernel
theorem dX7_ship_70 : decode cX7_ship 70 = .ok (.iload_n 1, 1) := by decide +kernel
theorem dX7_ship_71 : decode cX7_ship 71 = .ok (.if_icmp .ne 49, 3) := by decide +kernel
theorem dX7_ship_74 : decode cX7_ship 74 = .ok (.aload_n 0, 1) := by decide +kernel
theorem dX7_ship_75 : decode cX7_ship 75 = .ok (.getfield 51, 3) := by decide +kernel
theorem dX7_ship_78 : decode cX7_ship 78 = .ok (.iload 6, 2) := by decide +kernel
theorem dX7_ship_80 : decode cX7_ship 80 = .ok (.iaload, 1) := by decide +kernel
theorem dX7_ship_81 : decode cX7_ship 81 = .ok (.iconst (-1), 1) := by decide +kernel
theorem dX7_ship_82 : decode cX7_ship 82 = .ok (.if_icmp .eq 38, 3) := by decide +kernel
theorem dX7_ship_85 : decode cX7_ship 85 = .ok (.aload_n 0, 1) := by decide +kernel
theorem dX7_ship_86 : decode cX7_ship 86 = .ok (.iload 6, 2) := by decide +kernel
theorem dX7_ship_88 : decode cX7_ship 88 = .ok (.invokevirtual 128, 3) := by decide +kernel
theorem dX7_ship_91 : decode cX7_ship 91 = .ok (.iload_n 3, 1) := by decide +kernel
theorem dX7_ship_92 : decode cX7_ship 92 = .ok (.if_icmp .lt 28, 3) := by decide +kernel
theorem dX7_ship_95 : decode cX7_ship 95 = .ok (.iload 5, 2) := by decide +kernel
theorem dX7_ship_97 : decode cX7_ship 97 = .ok (.iconst (-1), 1) := by decide +kernel
theorem dX7_ship_98 : decode cX7_ship 98 = .ok (.if_icmp .eq 18, 3) := by decide +kernel
theorem dX7_ship_101 : decode cX7_ship 101 = .ok (.aload_n 0, 1) := by decide +kernel
theorem dX7_ship_102 : decode cX7_ship 102 = .ok (.iload 6, 2) := by decide +kernel
theorem dX7_ship_104 : decode cX7_ship 104 = .ok (.invokevirtual 128, 3) := by decide +kernel
theorem dX7_ship_107 : decode cX7_ship 107 = .ok (.aload_n 0, 1) := by decide +kernel
theorem dX7_ship_108 : decode cX7_ship 108 = .ok (.iload 5, 2) := by decide +kernel
theorem dX7_ship_110 : decode cX7_ship 110 = .ok (.invokevirtual 128, 3) := by decide +kernel
theorem dX7_ship_113 : decode cX7_ship 113 = .ok (.if_icmp .ge 7, 3) := by decide +kernel
theorem dX7_ship_116 : decode cX7_ship 116 = .ok (.iload 6, 2) := by decide +kernel
theorem dX7_ship_118 : decode cX7_ship 118 = .ok (.istore 5, 2) := by decide +kernel
theorem dX7_ship_120 : decode cX7_ship 120 = .ok (.iinc 6 1, 3) := by decide +kernel
theorem dX7_ship_123 : decode cX7_ship 123 = .ok (.goto (-69), 3) := by decide +kernel
theorem dX7_ship_126 : decode cX7_ship 126 = .ok (.iload 5, 2) := by decide +kernel
theorem dX7_ship_128 : decode cX7_ship 128 = .ok (.iconst (-1), 1) := by decide +kernel
theorem dX7_ship_129 : decode cX7_ship 129 = .ok (.if_icmp .ne 6, 3) := by decide +kernel
theorem dX7_ship_132 : decode cX7_ship 132 = .ok (.goto 17, 3) := by decide +kernel
theorem dX7_ship_135 : decode cX7_ship 135 = .ok (.aload_n 0, 1) := by decide +kernel
theorem dX7_ship_136 : decode cX7_ship 136 = .ok (.getfield 51, 3) := by decide +kernel
theorem dX7_ship_139 : decode cX7_ship 139 = .ok (.iload 5, 2) := by decide +kernel
theorem dX7_ship_141 : decode cX7_ship 141 = .ok (.iconst (-1), 1) := by decide +kernel
theorem dX7_ship_142 : decode cX7_ship 142 = .ok (.iastore, 1) := by decide +kernel
theorem dX7_ship_143 : decode cX7_ship 143 = .ok (.iinc 4 1, 3) := by decide +kernel
theorem dX7_ship_146 : decode cX7_ship 146 = .ok (.goto (-104), 3) := by decide +kernel
theorem dX7_ship_149 : decode cX7_ship 149 = .ok (.aload_n 0, 1) := by decide +kernel
theorem dX7_ship_150 : decode cX7_ship 150 = .ok (.dup, 1) := by decide +kernel
theorem dX7_ship_151 : decode cX7_ship 151 = .ok (.getfield 140, 3) := by decide +kernel
theorem dX7_ship_154 : decode cX7_ship 154 = .ok (.iload 4, 2) := by decide +kernel
theorem dX7_ship_156 : decode cX7_ship 156 = .ok (.iadd, 1) := by decide +kernel
theorem dX7_ship_157 : decode cX7_ship 157 = .ok (.putfield 140, 3) := by decide +kernel
theorem dX7_ship_160 : decode cX7_ship 160 = .ok (.iload 4, 2) := by decide +kernel
theorem dX7_ship_162 : decode cX7_ship 162 = .ok (.ireturn, 1) := by decide +kernel
theorem dX7_there_0 : decode cX7_there 0 = .ok (.iconst 0, 1) := by decide +kernel
theorem dX7_there_1 : decode cX7_there 1 = .ok (.istore_n 3, 1) := by decide +kernel
theorem dX7_there_2 : decode cX7_there 2 = .ok (.iconst 0, 1) := by decide +kernel
theorem dX7_there_3 : decode cX7_there 3 = .ok (.istore 4, 2) := by decide +kernel
theorem dX7_there_5 : decode cX7_there 5 = .ok (.iload 4, 2) := by decide +kernel
theorem dX7_there_7 : decode cX7_there 7 = .ok (.aload_n 0, 1) := by decide +kernel
theorem dX7_there_8 : decode cX7_there 8 = .ok (.getfield 73, 3) := by decide +kernel
theorem dX7_there_11 : decode cX7_there 11 = .ok (.if_icmp .ge 62, 3) := by decide +kernel
theorem dX7_there_14 : decode cX7_there 14 = .ok (.iload_n 3, 1) := by decide +kernel
theorem dX7_there_15 : decode cX7_there 15 = .ok (.aload_n 0, 1) := by decide +kernel
theorem dX7_there_16 : decode cX7_there 16 = .ok (.getfield 51, 3) := by decide +kernel
theorem dX7_there_19 : decode cX7_there 19 = .ok (.iload 4, 2) := by decide +kernel
theorem dX7_there_21 : decode cX7_there 21 = .ok (.iaload, 1) := by decide +kernel
theorem dX7_there_22 : decode cX7_there 22 = .ok (.iconst (-1), 1) := by decide +kernel
theorem dX7_there_23 : decode cX7_there 23 = .ok (.if_icmp .eq 41, 3) := by decide +kernel
theorem dX7_there_26 : decode cX7_there 26 = .ok (.iload_n 1, 1) := by decide +kernel
theorem dX7_there_27 : decode cX7_there 27 = .ok (.iconst (-1), 1) := by decide +kernel
theorem dX7_there_28 : decode cX7_there 28 = .ok (.if_icmp .eq 14, 3) := by decide +kernel
theorem dX7_there_31 : decode cX7_there 31 = .ok (.aload_n 0, 1) := by decide +kernel
theorem dX7_there_32 : decode cX7_there 32 = .ok (.getfield 48, 3) := by decide +kernel
theorem dX7_there_35 : decode cX7_there 35 = .ok (.iload 4, 2) := by decide +kernel
theorem dX7_there_37 : decode cX7_there 37 = .ok (.iaload, 1) := by decide +kernel
theorem dX7_there_38 : decode cX7_there 38 = .ok (.iload_n 1, 1) := by decide +kernel
theorem dX7_there_39 : decode cX7_there 39 = .ok (.if_icmp .ne 25, 3) := by decide +kernel
theorem dX7_there_42 : decode cX7_there 42 = .ok (.aload_n 0, 1) := by decide +kernel
theorem dX7_there_43 : decode cX7_there 43 = .ok (.iload 4, 2) := by decide +kernel
theorem dX7_there_45 : decode cX7_there 45 = .ok (.invokevirtual 128, 3) := by decide +kernel
theorem dX7_there_48 : decode cX7_there 48 = .ok (.ifCond .ge 7, 3) := by decide +kernel
theorem dX7_there_51 : decode cX7_there 51 = .ok (.iconst 1, 1) := by decide +kernel
theorem dX7_there_52 : decode cX7_there 52 = .ok (.goto 4, 3) := by decide +kernel
theorem dX7_there_55 : decode cX7_there 55 = .ok (.iconst 0, 1) := by decide +kernel
theorem dX7_there_56 : decode cX7_there 56 = .ok (.iload_n 2, 1) := by decide +kernel
theorem dX7_there_57 : decode cX7_there 57 = .ok (.if_icmp .ne 7, 3) := by decide +kernel
theorem dX7_there_60 : decode cX7_there 60 = .ok (.iconst 1, 1) := by decide +kernel
theorem dX7_there_61 : decode cX7_there 61 = .ok (.goto 4, 3) := by decide +kernel
theorem dX7_there_64 : decode cX7_there 64 = .ok (.iconst 0, 1) := by decide +kernel
theorem dX7_there_65 : decode cX7_there 65 = .ok (.iadd, 1) := by decide +kernel
theorem dX7_there_66 : decode cX7_there 66 = .ok (.istore_n 3, 1) := by decide +kernel
theorem dX7_there_67 : decode cX7_there 67 = .ok (.iinc 4 1, 3) := by decide +kernel
theorem dX7_there_70 : decode cX7_there 70 = .ok (.goto (-65), 3) := by decide +kernel
theorem dX7_there_73 : decode cX7_there 73 = .ok (.iload_n 3, 1) := by decide +kernel
theorem dX7_there_74 : decode cX7_there 74 = .ok (.ireturn, 1) := by decide +kernel
theorem dX7_clear_0 : decode cX7_clear 0 = .ok (.aload_n 0, 1) := by decide +kernel
theorem dX7_clear_1 : decode cX7_clear 1 = .ok (.iconst 0, 1) := by decide +kernel
theorem dX7_clear_2 : decode cX7_clear 2 = .ok (.putfield 60, 3) := by decide +kernel
theorem dX7_clear_5 : decode cX7_clear 5 = .ok (.aload_n 0, 1) := by decide +kernel
theorem dX7_clear_6 : decode cX7_clear 6 = .ok (.iconst (-1), 1) := by decide +kernel
theorem dX7_clear_7 : decode cX7_clear 7 = .ok (.iconst 1, 1) := by decide +kernel
theorem dX7_clear_8 : decode cX7_clear 8 = .ok (.invokevirtual 143, 3) := by decide +kernel
theorem dX7_clear_11 : decode cX7_clear 11 = .ok (.istore_n 1, 1) := by decide +kernel
theorem dX7_clear_12 : decode cX7_clear 12 = .ok (.iconst 0, 1) := by decide +kernel
theorem dX7_clear_13 : decode cX7_clear 13 = .ok (.istore_n 2, 1) := by decide +kernel
theorem dX7_clear_14 : decode cX7_clear 14 = .ok (.iload_n 2, 1) := by decide +kernel
theorem dX7_clear_15 : decode cX7_clear 15 = .ok (.aload_n 0, 1) := by decide +kernel
theorem dX7_clear_16 : decode cX7_clear 16 = .ok (.getfield 73, 3) := by decide +kernel
theorem dX7_clear_19 : decode cX7_clear 19 = .ok (.if_icmp .ge 24, 3) := by decide +kernel
theorem dX7_clear_22 : decode cX7_clear 22 = .ok (.aload_n 0, 1) := by decide +kernel
theorem dX7_clear_23 : decode cX7_clear 23 = .ok (.iload_n 2, 1) := by decide +kernel
theorem dX7_clear_24 : decode cX7_clear 24 = .ok (.invokevirtual 128, 3) := by decide +kernel
theorem dX7_clear_27 : decode cX7_clear 27 = .ok (.ifCond .ge 10, 3) := by decide +kernel
theorem dX7_clear_30 : decode cX7_clear 30 = .ok (.aload_n 0, 1) := by decide +kernel
theorem dX7_clear_31 : decode cX7_clear 31 = .ok (.getfield 51, 3) := by decide +kernel
theorem dX7_clear_34 : decode cX7_clear 34 = .ok (.iload_n 2, 1) := by decide +kernel
theorem dX7_clear_35 : decode cX7_clear 35 = .ok (.iconst (-1), 1) := by decide +kernel
theorem dX7_clear_36 : decode cX7_clear 36 = .ok (.iastore, 1) := by decide +kernel
theorem dX7_clear_37 : decode cX7_clear 37 = .ok (.iinc 2 1, 3) := by decide +kernel
theorem dX7_clear_40 : decode cX7_clear 40 = .ok (.goto (-26), 3) := by decide +kernel
theorem dX7_clear_43 : decode cX7_clear 43 = .ok (.iload_n 1, 1) := by decide +kernel
theorem dX7_clear_44 : decode cX7_clear 44 = .ok (.ireturn, 1) := by decide +kernel
theorem dX7_stock_0 : decode cX7_stock 0 = .ok (.aload_n 0, 1) := by decide +kernel
theorem dX7_stock_1 : decode cX7_stock 1 = .ok (.iconst 0, 1) := by decide +kernel
theorem dX7_stock_2 : decode cX7_stock 2 = .ok (.putfield 60, 3) := by decide +kernel
theorem dX7_stock_5 : decode cX7_stock 5 = .ok (.aload_n 0, 1) := by decide +kernel
theorem dX7_stock_6 : decode cX7_stock 6 = .ok (.iload_n 1, 1) := by decide +kernel
theorem dX7_stock_7 : decode cX7_stock 7 = .ok (.invokevirtual 119, 3) := by decide +kernel
theorem dX7_stock_10 : decode cX7_stock 10 = .ok (.ifCond .eq 12, 3) := by decide +kernel
theorem dX7_stock_13 : decode cX7_stock 13 = .ok (.aload_n 0, 1) := by decide +kernel
theorem dX7_stock_14 : decode cX7_stock 14 = .ok (.iload_n 1, 1) := by decide +kernel
theorem dX7_stock_15 : decode cX7_stock 15 = .ok (.iload_n 2, 1) := by decide +kernel
theorem dX7_stock_16 : decode cX7_stock 16 = .ok (.invokevirtual 143, 3) := by decide +kernel
theorem dX7_stock_19 : decode cX7_stock 19 = .ok (.goto 8, 3) := by decide +kernel
theorem dX7_stock_22 : decode cX7_stock 22 = .ok (.aload_n 0, 1) := by decide +kernel
theorem dX7_stock_23 : decode cX7_stock 23 = .ok (.iconst 1, 1) := by decide +kernel
theorem dX7_stock_24 : decode cX7_stock 24 = .ok (.invokevirtual 85, 3) := by decide +kernel
theorem dX7_stock_27 : decode cX7_stock 27 = .ok (.ireturn, 1) := by decide +kernel
theorem dX7_counted_0 : decode cX7_counted 0 = .ok (.iload_n 1, 1) := by decide +kernel
theorem dX7_counted_1 : decode cX7_counted 1 = .ok (.ifCond .ne 10, 3) := by decide +kernel
theorem dX7_counted_4 : decode cX7_counted 4 = .ok (.aload_n 0, 1) := by decide +kernel
theorem dX7_counted_5 : decode cX7_counted 5 = .ok (.getfield 63, 3) := by decide +kernel
theorem dX7_counted_8 : decode cX7_counted 8 = .ok (.goto 52, 3) := by decide +kernel
theorem dX7_counted_11 : decode cX7_counted 11 = .ok (.iload_n 1, 1) := by decide +kernel
theorem dX7_counted_12 : decode cX7_counted 12 = .ok (.iconst 1, 1) := by decide +kernel
theorem dX7_counted_13 : decode cX7_counted 13 = .ok (.if_icmp .ne 10, 3) := by decide +kernel
theorem dX7_counted_16 : decode cX7_counted 16 = .ok (.aload_n 0, 1) := by decide +kernel
theorem dX7_counted_17 : decode cX7_counted 17 = .ok (.getfield 70, 3) := by decide +kernel
theorem dX7_counted_20 : decode cX7_counted 20 = .ok (.goto 40, 3) := by decide +kernel
theorem dX7_counted_23 : decode cX7_counted 23 = .ok (.iload_n 1, 1) := by decide +kernel
theorem dX7_counted_24 : decode cX7_counted 24 = .ok (.iconst 2, 1) := by decide +kernel
theorem dX7_counted_25 : decode cX7_counted 25 = .ok (.if_icmp .ne 10, 3) := by decide +kernel
theorem dX7_counted_28 : decode cX7_counted 28 = .ok (.aload_n 0, 1) := by decide +kernel
theorem dX7_counted_29 : decode cX7_counted 29 = .ok (.getfield 73, 3) := by decide +kernel
theorem dX7_counted_32 : decode cX7_counted 32 = .ok (.goto 28, 3) := by decide +kernel
theorem dX7_counted_35 : decode cX7_counted 35 = .ok (.iload_n 1, 1) := by decide +kernel
theorem dX7_counted_36 : decode cX7_counted 36 = .ok (.iconst 3, 1) := by decide +kernel
theorem dX7_counted_37 : decode cX7_counted 37 = .ok (.if_icmp .ne 19, 3) := by decide +kernel
theorem dX7_counted_40 : decode cX7_counted 40 = .ok (.aload_n 0, 1) := by decide +kernel
theorem dX7_counted_41 : decode cX7_counted 41 = .ok (.iconst (-1), 1) := by decide +kernel
theorem dX7_counted_42 : decode cX7_counted 42 = .ok (.iconst 0, 1) := by decide +kernel
theorem dX7_counted_43 : decode cX7_counted 43 = .ok (.invokevirtual 143, 3) := by decide +kernel
theorem dX7_counted_46 : decode cX7_counted 46 = .ok (.aload_n 0, 1) := by decide +kernel
theorem dX7_counted_47 : decode cX7_counted 47 = .ok (.iconst (-1), 1) := by decide +kernel
theorem dX7_counted_48 : decode cX7_counted 48 = .ok (.iconst 1, 1) := by decide +kernel
theorem dX7_counted_49 : decode cX7_counted 49 = .ok (.invokevirtual 143, 3) := by decide +kernel
theorem dX7_counted_52 : decode cX7_counted 52 = .ok (.iadd, 1) := by decide +kernel
theorem dX7_counted_53 : decode cX7_counted 53 = .ok (.goto 7, 3) := by decide +kernel
theorem dX7_counted_56 : decode cX7_counted 56 = .ok (.aload_n 0, 1) := by decide +kernel
theorem dX7_counted_57 : decode cX7_counted 57 = .ok (.getfield 140, 3) := by decide +kernel
theorem dX7_counted_60 : decode cX7_counted 60 = .ok (.ireturn, 1) := by decide +kernel
theorem dX7_count_0 : decode cX7_count 0 = .ok (.aload_n 0, 1) := by decide +kernel
theorem dX7_count_1 : decode cX7_count 1 = .ok (.iconst 0, 1) := by decide +kernel
theorem dX7_count_2 : decode cX7_count 2 = .ok (.putfield 60, 3) := by decide +kernel
theorem dX7_count_5 : decode cX7_count 5 = .ok (.iload_n 1, 1) := by decide +kernel
theorem dX7_count_6 : decode cX7_count 6 = .ok (.iconst 0, 1) := by decide +kernel
theorem dX7_count_7 : decode cX7_count 7 = .ok (.iconst 4, 1) := by decide +kernel
theorem dX7_count_8 : decode cX7_count 8 = .ok (.invokestatic 66, 3) := by decide +kernel
theorem dX7_count_11 : decode cX7_count 11 = .ok (.ifCond .eq 11, 3) := by decide +kernel
theorem dX7_count_14 : decode cX7_count 14 = .ok (.aload_n 0, 1) := by decide +kernel
theorem dX7_count_15 : decode cX7_count 15 = .ok (.iload_n 1, 1) := by decide +kernel
theorem dX7_count_16 : decode cX7_count 16 = .ok (.invokevirtual 147, 3) := by decide +kernel
theorem dX7_count_19 : decode cX7_count 19 = .ok (.goto 8, 3) := by decide +kernel
theorem dX7_count_22 : decode cX7_count 22 = .ok (.aload_n 0, 1) := by decide +kernel
theorem dX7_count_23 : decode cX7_count 23 = .ok (.iconst 1, 1) := by decide +kernel
theorem dX7_count_24 : decode cX7_count 24 = .ok (.invokevirtual 85, 3) := by decide +kernel
theorem dX7_count_27 : decode cX7_count 27 = .ok (.ireturn, 1) := by decide +kernel
theorem dX7_setMachine_0 : decode cX7_setMachine 0 = .ok (.bipush 6, 2) := by decide +kernel
theorem dX7_setMachine_2 : decode cX7_setMachine 2 = .ok (.iload_n 1, 1) := by decide +kernel
theorem dX7_setMachine_3 : decode cX7_setMachine 3 = .ok (.imul, 1) := by decide +kernel
theorem dX7_setMachine_4 : decode cX7_setMachine 4 = .ok (.istore_n 3, 1) := by decide +kernel
theorem dX7_setMachine_5 : decode cX7_setMachine 5 = .ok (.aload_n 0, 1) := by decide +kernel
theorem dX7_setMachine_6 : decode cX7_setMachine 6 = .ok (.getfield 45, 3) := by decide +kernel
theorem dX7_setMachine_9 : decode cX7_setMachine 9 = .ok (.iload_n 3, 1) := by decide +kernel
theorem dX7_setMachine_10 : decode cX7_setMachine 10 = .ok (.iconst 0, 1) := by decide +kernel
theorem dX7_setMachine_11 : decode cX7_setMachine 11 = .ok (.iadd, 1) := by decide +kernel
theorem dX7_setMachine_12 : decode cX7_setMachine 12 = .ok (.iaload, 1) := by decide +kernel
theorem dX7_setMachine_13 : decode cX7_setMachine 13 = .ok (.istore 4, 2) := by decide +kernel
theorem dX7_setMachine_15 : decode cX7_setMachine 15 = .ok (.aload_n 0, 1) := by decide +kernel
theorem dX7_setMachine_16 : decode cX7_setMachine 16 = .ok (.getfield 38, 3) := by decide +kernel
theorem dX7_setMachine_19 : decode cX7_setMachine 19 = .ok (.iload_n 1, 1) := by decide +kernel
theorem dX7_setMachine_20 : decode cX7_setMachine 20 = .ok (.iaload, 1) := by decide +kernel
theorem dX7_setMachine_21 : decode cX7_setMachine 21 = .ok (.istore 5, 2) := by decide +kernel
theorem dX7_setMachine_23 : decode cX7_setMachine 23 = .ok (.aload_n 0, 1) := by decide +kernel
theorem dX7_setMachine_24 : decode cX7_setMachine 24 = .ok (.getfield 45, 3) := by decide +kernel
theorem dX7_setMachine_27 : decode cX7_setMachine 27 = .ok (.iload_n 3, 1) := by decide +kernel
theorem dX7_setMachine_28 : decode cX7_setMachine 28 = .ok (.iconst 2, 1) := by decide +kernel
theorem dX7_setMachine_29 : decode cX7_setMachine 29 = .ok (.iadd, 1) := by decide +kernel
theorem dX7_setMachine_30 : decode cX7_setMachine 30 = .ok (.iaload, 1) := by decide +kernel
theorem dX7_setMachine_31 : decode cX7_setMachine 31 = .ok (.iconst 2, 1) := by decide +kernel
theorem dX7_setMachine_32 : decode cX7_setMachine 32 = .ok (.if_icmp .ne 48, 3) := by decide +kernel
theorem dX7_setMachine_35 : decode cX7_setMachine 35 = .ok (.aload_n 0, 1) := by decide +kernel
theorem dX7_setMachine_36 : decode cX7_setMachine 36 = .ok (.getfield 45, 3) := by decide +kernel
theorem dX7_setMachine_39 : decode cX7_setMachine 39 = .ok (.iload_n 3, 1) := by decide +kernel
theorem dX7_setMachine_40 : decode cX7_setMachine 40 = .ok (.iconst 3, 1) := by decide +kernel
theorem dX7_setMachine_41 : decode cX7_setMachine 41 = .ok (.iadd, 1) := by decide +kernel
theorem dX7_setMachine_42 : decode cX7_setMachine 42 = .ok (.dup2, 1) := by decide +kernel
theorem dX7_setMachine_43 : decode cX7_setMachine 43 = .ok (.iaload, 1) := by decide +kernel
theorem dX7_setMachine_44 : decode cX7_setMachine 44 = .ok (.iconst 1, 1) := by decide +kernel
theorem dX7_setMachine_45 : decode cX7_setMachine 45 = .ok (.isub, 1) := by decide +kernel
theorem dX7_setMachine_46 : decode cX7_setMachine 46 = .ok (.iastore, 1) := by decide +kernel
theorem dX7_setMachine_47 : decode cX7_setMachine 47 = .ok (.aload_n 0, 1) := by decide +kernel
theorem dX7_setMachine_48 : decode cX7_setMachine 48 = .ok (.getfield 45, 3) := by decide +kernel
theorem dX7_setMachine_51 : decode cX7_setMachine 51 = .ok (.iload_n 3, 1) := by decide +kernel
theorem dX7_setMachine_52 : decode cX7_setMachine 52 = .ok (.iconst 3, 1) := by decide +kernel
theorem dX7_setMachine_53 : decode cX7_setMachine 53 = .ok (.iadd, 1) := by decide +kernel
theorem dX7_setMachine_54 : decode cX7_setMachine 54 = .ok (.iaload, 1) := by decide +kernel
theorem dX7_setMachine_55 : decode cX7_setMachine 55 = .ok (.ifCond .le 4, 3) := by decide +kernel
theorem dX7_setMachine_58 : decode cX7_setMachine 58 = .ok (.return_, 1) := by decide +kernel
theorem dX7_setMachine_59 : decode cX7_setMachine 59 = .ok (.aload_n 0, 1) := by decide +kernel
theorem dX7_setMachine_60 : decode cX7_setMachine 60 = .ok (.getfield 45, 3) := by decide +kernel
theorem dX7_setMachine_63 : decode cX7_setMachine 63 = .ok (.iload_n 3, 1) := by decide +kernel
theorem dX7_setMachine_64 : decode cX7_setMachine 64 = .ok (.iconst 1, 1) := by decide +kernel
theorem dX7_setMachine_65 : decode cX7_setMachine 65 = .ok (.iadd, 1) := by decide +kernel
theorem dX7_setMachine_66 : decode cX7_setMachine 66 = .ok (.iconst 0, 1) := by decide +kernel
theorem dX7_setMachine_67 : decode cX7_setMachine 67 = .ok (.iastore, 1) := by decide +kernel
theorem dX7_setMachine_68 : decode cX7_setMachine 68 = .ok (.aload_n 0, 1) := by decide +kernel
theorem dX7_setMachine_69 : decode cX7_setMachine 69 = .ok (.getfield 45, 3) := by decide +kernel
theorem dX7_setMachine_72 : decode cX7_setMachine 72 = .ok (.iload_n 3, 1) := by decide +kernel
theorem dX7_setMachine_73 : decode cX7_setMachine 73 = .ok (.iconst 2, 1) := by decide +kernel
theorem dX7_setMachine_74 : decode cX7_setMachine 74 = .ok (.iadd, 1) := by decide +kernel
theorem dX7_setMachine_75 : decode cX7_setMachine 75 = .ok (.iconst 0, 1) := by decide +kernel
theorem dX7_setMachine_76 : decode cX7_setMachine 76 = .ok (.iastore, 1) := by decide +kernel
theorem dX7_setMachine_77 : decode cX7_setMachine 77 = .ok (.goto 90, 3) := by decide +kernel
theorem dX7_setMachine_80 : decode cX7_setMachine 80 = .ok (.aload_n 0, 1) := by decide +kernel
theorem dX7_setMachine_81 : decode cX7_setMachine 81 = .ok (.getfield 41, 3) := by decide +kernel
theorem dX7_setMachine_84 : decode cX7_setMachine 84 = .ok (.iload_n 1, 1) := by decide +kernel
theorem dX7_setMachine_85 : decode cX7_setMachine 85 = .ok (.baload, 1) := by decide +kernel
theorem dX7_setMachine_86 : decode cX7_setMachine 86 = .ok (.ifCond .eq 42, 3) := by decide +kernel
theorem dX7_setMachine_89 : decode cX7_setMachine 89 = .ok (.aload_n 0, 1) := by decide +kernel
theorem dX7_setMachine_90 : decode cX7_setMachine 90 = .ok (.getfield 13, 3) := by decide +kernel
theorem dX7_setMachine_93 : decode cX7_setMachine 93 = .ok (.iload_n 2, 1) := by decide +kernel
theorem dX7_setMachine_94 : decode cX7_setMachine 94 = .ok (.iaload, 1) := by decide +kernel
theorem dX7_setMachine_95 : decode cX7_setMachine 95 = .ok (.aload_n 0, 1) := by decide +kernel
theorem dX7_setMachine_96 : decode cX7_setMachine 96 = .ok (.invokevirtual 98, 3) := by decide +kernel
theorem dX7_setMachine_99 : decode cX7_setMachine 99 = .ok (.if_icmp .ne 29, 3) := by decide +kernel
theorem dX7_setMachine_102 : decode cX7_setMachine 102 = .ok (.aload_n 0, 1) := by decide +kernel
theorem dX7_setMachine_103 : decode cX7_setMachine 103 = .ok (.getfield 45, 3) := by decide +kernel
theorem dX7_setMachine_106 : decode cX7_setMachine 106 = .ok (.iload_n 3, 1) := by decide +kernel
theorem dX7_setMachine_107 : decode cX7_setMachine 107 = .ok (.iconst 2, 1) := by decide +kernel
theorem dX7_setMachine_108 : decode cX7_setMachine 108 = .ok (.iadd, 1) := by decide +kernel
theorem dX7_setMachine_109 : decode cX7_setMachine 109 = .ok (.iload 4, 2) := by decide +kernel
theorem dX7_setMachine_111 : decode cX7_setMachine 111 = .ok (.iload 5, 2) := by decide +kernel
theorem dX7_setMachine_113 : decode cX7_setMachine 113 = .ok (.bipush 25, 2) := by decide +kernel
theorem dX7_setMachine_115 : decode cX7_setMachine 115 = .ok (.isub, 1) := by decide +kernel
theorem dX7_setMachine_116 : decode cX7_setMachine 116 = .ok (.if_icmp .ge 7, 3) := by decide +kernel
theorem dX7_setMachine_119 : decode cX7_setMachine 119 = .ok (.iconst 0, 1) := by decide +kernel
theorem dX7_setMachine_120 : decode cX7_setMachine 120 = .ok (.goto 4, 3) := by decide +kernel
theorem dX7_setMachine_123 : decode cX7_setMachine 123 = .ok (.iconst 1, 1) := by decide +kernel
theorem dX7_setMachine_124 : decode cX7_setMachine 124 = .ok (.iastore, 1) := by decide +kernel
theorem dX7_setMachine_125 : decode cX7_setMachine 125 = .ok (.goto 42, 3) := by decide +kernel
theorem dX7_setMachine_128 : decode cX7_setMachine 128 = .ok (.iload 4, 2) := by decide +kernel
theorem dX7_setMachine_130 : decode cX7_setMachine 130 = .ok (.iload 5, 2) := by decide +kernel
theorem dX7_setMachine_132 : decode cX7_setMachine 132 = .ok (.iconst 5, 1) := by decide +kernel
theorem dX7_setMachine_133 : decode cX7_setMachine 133 = .ok (.iadd, 1) := by decide +kernel
theorem dX7_setMachine_134 : decode cX7_setMachine 134 = .ok (.if_icmp .le 15, 3) := by decide +kernel
theorem dX7_setMachine_137 : decode cX7_setMachine 137 = .ok (.aload_n 0, 1) := by decide +kernel
theorem dX7_setMachine_138 : decode cX7_setMachine 138 = .ok (.getfield 45, 3) := by decide +kernel
theorem dX7_setMachine_141 : decode cX7_setMachine 141 = .ok (.iload_n 3, 1) := by decide +kernel
theorem dX7_setMachine_142 : decode cX7_setMachine 142 = .ok (.iconst 2, 1) := by decide +kernel
theorem dX7_setMachine_143 : decode cX7_setMachine 143 = .ok (.iadd, 1) := by decide +kernel
theorem dX7_setMachine_144 : decode cX7_setMachine 144 = .ok (.iconst 1, 1) := by decide +kernel
theorem dX7_setMachine_145 : decode cX7_setMachine 145 = .ok (.iastore, 1) := by decide +kernel
theorem dX7_setMachine_146 : decode cX7_setMachine 146 = .ok (.goto 21, 3) := by decide +kernel
theorem dX7_setMachine_149 : decode cX7_setMachine 149 = .ok (.iload 4, 2) := by decide +kernel
theorem dX7_setMachine_151 : decode cX7_setMachine 151 = .ok (.iload 5, 2) := by decide +kernel
theorem dX7_setMachine_153 : decode cX7_setMachine 153 = .ok (.iconst 5, 1) := by decide +kernel
theorem dX7_setMachine_154 : decode cX7_setMachine 154 = .ok (.isub, 1) := by decide +kernel
theorem dX7_setMachine_155 : decode cX7_setMachine 155 = .ok (.if_icmp .ge 12, 3) := by decide +kernel
theorem dX7_setMachine_158 : decode cX7_setMachine 158 = .ok (.aload_n 0, 1) := by decide +kernel
theorem dX7_setMachine_159 : decode cX7_setMachine 159 = .ok (.getfield 45, 3) := by decide +kernel
theorem dX7_setMachine_162 : decode cX7_setMachine 162 = .ok (.iload_n 3, 1) := by decide +kernel
theorem dX7_setMachine_163 : decode cX7_setMachine 163 = .ok (.iconst 2, 1) := by decide +kernel
theorem dX7_setMachine_164 : decode cX7_setMachine 164 = .ok (.iadd, 1) := by decide +kernel
theorem dX7_setMachine_165 : decode cX7_setMachine 165 = .ok (.iconst 0, 1) := by decide +kernel
theorem dX7_setMachine_166 : decode cX7_setMachine 166 = .ok (.iastore, 1) := by decide +kernel
theorem dX7_setMachine_167 : decode cX7_setMachine 167 = .ok (.return_, 1) := by decide +kernel
theorem dX7_hour_0 : decode cX7_hour 0 = .ok (.bipush 6, 2) := by decide +kernel
theorem dX7_hour_2 : decode cX7_hour 2 = .ok (.iload_n 1, 1) := by decide +kernel
theorem dX7_hour_3 : decode cX7_hour 3 = .ok (.imul, 1) := by decide +kernel
theorem dX7_hour_4 : decode cX7_hour 4 = .ok (.istore_n 3, 1) := by decide +kernel
theorem dX7_hour_5 : decode cX7_hour 5 = .ok (.aload_n 0, 1) := by decide +kernel
theorem dX7_hour_6 : decode cX7_hour 6 = .ok (.iload_n 1, 1) := by decide +kernel
theorem dX7_hour_7 : decode cX7_hour 7 = .ok (.iload_n 2, 1) := by decide +kernel
theorem dX7_hour_8 : decode cX7_hour 8 = .ok (.invokevirtual 150, 3) := by decide +kernel
theorem dX7_hour_11 : decode cX7_hour 11 = .ok (.aload_n 0, 1) := by decide +kernel
theorem dX7_hour_12 : decode cX7_hour 12 = .ok (.getfield 45, 3) := by decide +kernel
theorem dX7_hour_15 : decode cX7_hour 15 = .ok (.iload_n 3, 1) := by decide +kernel
theorem dX7_hour_16 : decode cX7_hour 16 = .ok (.iconst 0, 1) := by decide +kernel
theorem dX7_hour_17 : decode cX7_hour 17 = .ok (.iadd, 1) := by decide +kernel
theorem dX7_hour_18 : decode cX7_hour 18 = .ok (.iaload, 1) := by decide +kernel
theorem dX7_hour_19 : decode cX7_hour 19 = .ok (.istore 4, 2) := by decide +kernel
theorem dX7_hour_21 : decode cX7_hour 21 = .ok (.aload_n 0, 1) := by decide +kernel
theorem dX7_hour_22 : decode cX7_hour 22 = .ok (.iload_n 2, 1) := by decide +kernel
theorem dX7_hour_23 : decode cX7_hour 23 = .ok (.invokevirtual 91, 3) := by decide +kernel
theorem dX7_hour_26 : decode cX7_hour 26 = .ok (.iload 4, 2) := by decide +kernel
theorem dX7_hour_28 : decode cX7_hour 28 = .ok (.isub, 1) := by decide +kernel
theorem dX7_hour_29 : decode cX7_hour 29 = .ok (.aload_n 0, 1) := by decide +kernel
theorem dX7_hour_30 : decode cX7_hour 30 = .ok (.getfield 32, 3) := by decide +kernel
theorem dX7_hour_33 : decode cX7_hour 33 = .ok (.iload_n 1, 1) := by decide +kernel
theorem dX7_hour_34 : decode cX7_hour 34 = .ok (.iaload, 1) := by decide +kernel
theorem dX7_hour_35 : decode cX7_hour 35 = .ok (.imul, 1) := by decide +kernel
theorem dX7_hour_36 : decode cX7_hour 36 = .ok (.sipush 200, 3) := by decide +kernel
theorem dX7_hour_39 : decode cX7_hour 39 = .ok (.idiv, 1) := by decide +kernel
theorem dX7_hour_40 : decode cX7_hour 40 = .ok (.istore 5, 2) := by decide +kernel
theorem dX7_hour_42 : decode cX7_hour 42 = .ok (.iconst 0, 1) := by decide +kernel
theorem dX7_hour_43 : decode cX7_hour 43 = .ok (.istore 6, 2) := by decide +kernel
theorem dX7_hour_45 : decode cX7_hour 45 = .ok (.iload 6, 2) := by decide +kernel
theorem dX7_hour_47 : decode cX7_hour 47 = .ok (.aload_n 0, 1) := by decide +kernel
theorem dX7_hour_48 : decode cX7_hour 48 = .ok (.getfield 73, 3) := by decide +kernel
theorem dX7_hour_51 : decode cX7_hour 51 = .ok (.if_icmp .ge 38, 3) := by decide +kernel
theorem dX7_hour_54 : decode cX7_hour 54 = .ok (.aload_n 0, 1) := by decide +kernel
theorem dX7_hour_55 : decode cX7_hour 55 = .ok (.getfield 51, 3) := by decide +kernel
theorem dX7_hour_58 : decode cX7_hour 58 = .ok (.iload 6, 2) := by decide +kernel
theorem dX7_hour_60 : decode cX7_hour 60 = .ok (.iaload, 1) := by decide +kernel
theorem dX7_hour_61 : decode cX7_hour 61 = .ok (.iload_n 1, 1) := by decide +kernel
theorem dX7_hour_62 : decode cX7_hour 62 = .ok (.if_icmp .ne 21, 3) := by decide +kernel
theorem dX7_hour_65 : decode cX7_hour 65 = .ok (.iload 5, 2) := by decide +kernel
theorem dX7_hour_67 : decode cX7_hour 67 = .ok (.aload_n 0, 1) := by decide +kernel
theorem dX7_hour_68 : decode cX7_hour 68 = .ok (.getfield 54, 3) := by decide +kernel
theorem dX7_hour_71 : decode cX7_hour 71 = .ok (.iload 6, 2) := by decide +kernel
theorem dX7_hour_73 : decode cX7_hour 73 = .ok (.iaload, 1) := by decide +kernel
theorem dX7_hour_74 : decode cX7_hour 74 = .ok (.iload 4, 2) := by decide +kernel
theorem dX7_hour_76 : decode cX7_hour 76 = .ok (.isub, 1) := by decide +kernel
theorem dX7_hour_77 : decode cX7_hour 77 = .ok (.bipush 40, 2) := by decide +kernel
theorem dX7_hour_79 : decode cX7_hour 79 = .ok (.idiv, 1) := by decide +kernel
theorem dX7_hour_80 : decode cX7_hour 80 = .ok (.iadd, 1) := by decide +kernel
theorem dX7_hour_81 : decode cX7_hour 81 = .ok (.istore 5, 2) := by decide +kernel
theorem dX7_hour_83 : decode cX7_hour 83 = .ok (.iinc 6 1, 3) := by decide +kernel
theorem dX7_hour_86 : decode cX7_hour 86 = .ok (.goto (-41), 3) := by decide +kernel
theorem dX7_hour_89 : decode cX7_hour 89 = .ok (.aload_n 0, 1) := by decide +kernel
theorem dX7_hour_90 : decode cX7_hour 90 = .ok (.getfield 45, 3) := by decide +kernel
theorem dX7_hour_93 : decode cX7_hour 93 = .ok (.iload_n 3, 1) := by decide +kernel
theorem dX7_hour_94 : decode cX7_hour 94 = .ok (.iconst 2, 1) := by decide +kernel
theorem dX7_hour_95 : decode cX7_hour 95 = .ok (.iadd, 1) := by decide +kernel
theorem dX7_hour_96 : decode cX7_hour 96 = .ok (.iaload, 1) := by decide +kernel
theorem dX7_hour_97 : decode cX7_hour 97 = .ok (.iconst 2, 1) := by decide +kernel
theorem dX7_hour_98 : decode cX7_hour 98 = .ok (.if_icmp .ne 6, 3) := by decide +kernel
theorem dX7_hour_101 : decode cX7_hour 101 = .ok (.iinc 5 8, 3) := by decide +kernel
theorem dX7_hour_104 : decode cX7_hour 104 = .ok (.aload_n 0, 1) := by decide +kernel
theorem dX7_hour_105 : decode cX7_hour 105 = .ok (.getfield 45, 3) := by decide +kernel
theorem dX7_hour_108 : decode cX7_hour 108 = .ok (.iload_n 3, 1) := by decide +kernel
theorem dX7_hour_109 : decode cX7_hour 109 = .ok (.iconst 2, 1) := by decide +kernel
theorem dX7_hour_110 : decode cX7_hour 110 = .ok (.iadd, 1) := by decide +kernel
theorem dX7_hour_111 : decode cX7_hour 111 = .ok (.iaload, 1) := by decide +kernel
theorem dX7_hour_112 : decode cX7_hour 112 = .ok (.iconst 1, 1) := by decide +kernel
theorem dX7_hour_113 : decode cX7_hour 113 = .ok (.if_icmp .ne 94, 3) := by decide +kernel
theorem dX7_hour_116 : decode cX7_hour 116 = .ok (.iload 5, 2) := by decide +kernel
theorem dX7_hour_118 : decode cX7_hour 118 = .ok (.aload_n 0, 1) := by decide +kernel
theorem dX7_hour_119 : decode cX7_hour 119 = .ok (.getfield 35, 3) := by decide +kernel
theorem dX7_hour_122 : decode cX7_hour 122 = .ok (.iload_n 1, 1) := by decide +kernel
theorem dX7_hour_123 : decode cX7_hour 123 = .ok (.iaload, 1) := by decide +kernel
theorem dX7_hour_124 : decode cX7_hour 124 = .ok (.bipush 100, 2) := by decide +kernel
theorem dX7_hour_126 : decode cX7_hour 126 = .ok (.aload_n 0, 1) := by decide +kernel
theorem dX7_hour_127 : decode cX7_hour 127 = .ok (.getfield 45, 3) := by decide +kernel
theorem dX7_hour_130 : decode cX7_hour 130 = .ok (.iload_n 3, 1) := by decide +kernel
theorem dX7_hour_131 : decode cX7_hour 131 = .ok (.iconst 1, 1) := by decide +kernel
theorem dX7_hour_132 : decode cX7_hour 132 = .ok (.iadd, 1) := by decide +kernel
theorem dX7_hour_133 : decode cX7_hour 133 = .ok (.iaload, 1) := by decide +kernel
theorem dX7_hour_134 : decode cX7_hour 134 = .ok (.isub, 1) := by decide +kernel
theorem dX7_hour_135 : decode cX7_hour 135 = .ok (.imul, 1) := by decide +kernel
theorem dX7_hour_136 : decode cX7_hour 136 = .ok (.sipush 1000, 3) := by decide +kernel
theorem dX7_hour_139 : decode cX7_hour 139 = .ok (.idiv, 1) := by decide +kernel
theorem dX7_hour_140 : decode cX7_hour 140 = .ok (.isub, 1) := by decide +kernel
theorem dX7_hour_141 : decode cX7_hour 141 = .ok (.istore 5, 2) := by decide +kernel
theorem dX7_hour_143 : decode cX7_hour 143 = .ok (.aload_n 0, 1) := by decide +kernel
theorem dX7_hour_144 : decode cX7_hour 144 = .ok (.dup, 1) := by decide +kernel
theorem dX7_hour_145 : decode cX7_hour 145 = .ok (.getfield 154, 3) := by decide +kernel
theorem dX7_hour_148 : decode cX7_hour 148 = .ok (.aload_n 0, 1) := by decide +kernel
theorem dX7_hour_149 : decode cX7_hour 149 = .ok (.getfield 35, 3) := by decide +kernel
theorem dX7_hour_152 : decode cX7_hour 152 = .ok (.iload_n 1, 1) := by decide +kernel
theorem dX7_hour_153 : decode cX7_hour 153 = .ok (.iaload, 1) := by decide +kernel
theorem dX7_hour_154 : decode cX7_hour 154 = .ok (.i2l, 1) := by decide +kernel
theorem dX7_hour_155 : decode cX7_hour 155 = .ok (.aload_n 0, 1) := by decide +kernel
theorem dX7_hour_156 : decode cX7_hour 156 = .ok (.getfield 13, 3) := by decide +kernel
theorem dX7_hour_159 : decode cX7_hour 159 = .ok (.iload_n 2, 1) := by decide +kernel
theorem dX7_hour_160 : decode cX7_hour 160 = .ok (.iaload, 1) := by decide +kernel
theorem dX7_hour_161 : decode cX7_hour 161 = .ok (.i2l, 1) := by decide +kernel
theorem dX7_hour_162 : decode cX7_hour 162 = .ok (.lmul, 1) := by decide +kernel
theorem dX7_hour_163 : decode cX7_hour 163 = .ok (.ladd, 1) := by decide +kernel
theorem dX7_hour_164 : decode cX7_hour 164 = .ok (.putfield 154, 3) := by decide +kernel
theorem dX7_hour_167 : decode cX7_hour 167 = .ok (.aload_n 0, 1) := by decide +kernel
theorem dX7_hour_168 : decode cX7_hour 168 = .ok (.getfield 45, 3) := by decide +kernel
theorem dX7_hour_171 : decode cX7_hour 171 = .ok (.iload_n 3, 1) := by decide +kernel
theorem dX7_hour_172 : decode cX7_hour 172 = .ok (.iconst 4, 1) := by decide +kernel
theorem dX7_hour_173 : decode cX7_hour 173 = .ok (.iadd, 1) := by decide +kernel
theorem dX7_hour_174 : decode cX7_hour 174 = .ok (.dup2, 1) := by decide +kernel
theorem dX7_hour_175 : decode cX7_hour 175 = .ok (.iaload, 1) := by decide +kernel
theorem dX7_hour_176 : decode cX7_hour 176 = .ok (.aload_n 0, 1) := by decide +kernel
theorem dX7_hour_177 : decode cX7_hour 177 = .ok (.getfield 35, 3) := by decide +kernel
theorem dX7_hour_180 : decode cX7_hour 180 = .ok (.iload_n 1, 1) := by decide +kernel
theorem dX7_hour_181 : decode cX7_hour 181 = .ok (.iaload, 1) := by decide +kernel
theorem dX7_hour_182 : decode cX7_hour 182 = .ok (.iadd, 1) := by decide +kernel
theorem dX7_hour_183 : decode cX7_hour 183 = .ok (.iastore, 1) := by decide +kernel
theorem dX7_hour_184 : decode cX7_hour 184 = .ok (.aload_n 0, 1) := by decide +kernel
theorem dX7_hour_185 : decode cX7_hour 185 = .ok (.getfield 45, 3) := by decide +kernel
theorem dX7_hour_188 : decode cX7_hour 188 = .ok (.iload_n 3, 1) := by decide +kernel
theorem dX7_hour_189 : decode cX7_hour 189 = .ok (.iconst 1, 1) := by decide +kernel
theorem dX7_hour_190 : decode cX7_hour 190 = .ok (.iadd, 1) := by decide +kernel
theorem dX7_hour_191 : decode cX7_hour 191 = .ok (.bipush 90, 2) := by decide +kernel
theorem dX7_hour_193 : decode cX7_hour 193 = .ok (.aload_n 0, 1) := by decide +kernel
theorem dX7_hour_194 : decode cX7_hour 194 = .ok (.getfield 45, 3) := by decide +kernel
theorem dX7_hour_197 : decode cX7_hour 197 = .ok (.iload_n 3, 1) := by decide +kernel
theorem dX7_hour_198 : decode cX7_hour 198 = .ok (.iconst 1, 1) := by decide +kernel
theorem dX7_hour_199 : decode cX7_hour 199 = .ok (.iadd, 1) := by decide +kernel
theorem dX7_hour_200 : decode cX7_hour 200 = .ok (.iaload, 1) := by decide +kernel
theorem dX7_hour_201 : decode cX7_hour 201 = .ok (.iconst 1, 1) := by decide +kernel
theorem dX7_hour_202 : decode cX7_hour 202 = .ok (.iadd, 1) := by decide +kernel
theorem dX7_hour_203 : decode cX7_hour 203 = .ok (.invokestatic 94, 3) := by decide +kernel
theorem dX7_hour_206 : decode cX7_hour 206 = .ok (.iastore, 1) := by decide +kernel
theorem dX7_hour_207 : decode cX7_hour 207 = .ok (.aload_n 0, 1) := by decide +kernel
theorem dX7_hour_208 : decode cX7_hour 208 = .ok (.getfield 45, 3) := by decide +kernel
theorem dX7_hour_211 : decode cX7_hour 211 = .ok (.iload_n 3, 1) := by decide +kernel
theorem dX7_hour_212 : decode cX7_hour 212 = .ok (.iconst 0, 1) := by decide +kernel
theorem dX7_hour_213 : decode cX7_hour 213 = .ok (.iadd, 1) := by decide +kernel
theorem dX7_hour_214 : decode cX7_hour 214 = .ok (.iload 4, 2) := by decide +kernel
theorem dX7_hour_216 : decode cX7_hour 216 = .ok (.iload 5, 2) := by decide +kernel
theorem dX7_hour_218 : decode cX7_hour 218 = .ok (.iadd, 1) := by decide +kernel
theorem dX7_hour_219 : decode cX7_hour 219 = .ok (.iastore, 1) := by decide +kernel
theorem dX7_hour_220 : decode cX7_hour 220 = .ok (.aload_n 0, 1) := by decide +kernel
theorem dX7_hour_221 : decode cX7_hour 221 = .ok (.getfield 45, 3) := by decide +kernel
theorem dX7_hour_224 : decode cX7_hour 224 = .ok (.iload_n 3, 1) := by decide +kernel
theorem dX7_hour_225 : decode cX7_hour 225 = .ok (.iconst 0, 1) := by decide +kernel
theorem dX7_hour_226 : decode cX7_hour 226 = .ok (.iadd, 1) := by decide +kernel
theorem dX7_hour_227 : decode cX7_hour 227 = .ok (.iaload, 1) := by decide +kernel
theorem dX7_hour_228 : decode cX7_hour 228 = .ok (.aload_n 0, 1) := by decide +kernel
theorem dX7_hour_229 : decode cX7_hour 229 = .ok (.getfield 38, 3) := by decide +kernel
theorem dX7_hour_232 : decode cX7_hour 232 = .ok (.iload_n 1, 1) := by decide +kernel
theorem dX7_hour_233 : decode cX7_hour 233 = .ok (.iaload, 1) := by decide +kernel
theorem dX7_hour_234 : decode cX7_hour 234 = .ok (.bipush 20, 2) := by decide +kernel
theorem dX7_hour_236 : decode cX7_hour 236 = .ok (.iadd, 1) := by decide +kernel
theorem dX7_hour_237 : decode cX7_hour 237 = .ok (.if_icmp .le 15, 3) := by decide +kernel
theorem dX7_hour_240 : decode cX7_hour 240 = .ok (.aload_n 0, 1) := by decide +kernel
theorem dX7_hour_241 : decode cX7_hour 241 = .ok (.getfield 45, 3) := by decide +kernel
theorem dX7_hour_244 : decode cX7_hour 244 = .ok (.iload_n 3, 1) := by decide +kernel
theorem dX7_hour_245 : decode cX7_hour 245 = .ok (.iconst 5, 1) := by decide +kernel
theorem dX7_hour_246 : decode cX7_hour 246 = .ok (.iadd, 1) := by decide +kernel
theorem dX7_hour_247 : decode cX7_hour 247 = .ok (.dup2, 1) := by decide +kernel
theorem dX7_hour_248 : decode cX7_hour 248 = .ok (.iaload, 1) := by decide +kernel
theorem dX7_hour_249 : decode cX7_hour 249 = .ok (.iconst 1, 1) := by decide +kernel
theorem dX7_hour_250 : decode cX7_hour 250 = .ok (.iadd, 1) := by decide +kernel
theorem dX7_hour_251 : decode cX7_hour 251 = .ok (.iastore, 1) := by decide +kernel
theorem dX7_hour_252 : decode cX7_hour 252 = .ok (.iconst 0, 1) := by decide +kernel
theorem dX7_hour_253 : decode cX7_hour 253 = .ok (.istore 6, 2) := by decide +kernel
theorem dX7_hour_255 : decode cX7_hour 255 = .ok (.iload 6, 2) := by decide +kernel
theorem dX7_hour_257 : decode cX7_hour 257 = .ok (.aload_n 0, 1) := by decide +kernel
theorem dX7_hour_258 : decode cX7_hour 258 = .ok (.getfield 73, 3) := by decide +kernel
theorem dX7_hour_261 : decode cX7_hour 261 = .ok (.if_icmp .ge 85, 3) := by decide +kernel
theorem dX7_hour_264 : decode cX7_hour 264 = .ok (.aload_n 0, 1) := by decide +kernel
theorem dX7_hour_265 : decode cX7_hour 265 = .ok (.getfield 51, 3) := by decide +kernel
theorem dX7_hour_268 : decode cX7_hour 268 = .ok (.iload 6, 2) := by decide +kernel
theorem dX7_hour_270 : decode cX7_hour 270 = .ok (.iaload, 1) := by decide +kernel
theorem dX7_hour_271 : decode cX7_hour 271 = .ok (.iload_n 1, 1) := by decide +kernel
theorem dX7_hour_272 : decode cX7_hour 272 = .ok (.if_icmp .eq 6, 3) := by decide +kernel
theorem dX7_hour_275 : decode cX7_hour 275 = .ok (.goto 65, 3) := by decide +kernel
theorem dX7_hour_278 : decode cX7_hour 278 = .ok (.aload_n 0, 1) := by decide +kernel
theorem dX7_hour_279 : decode cX7_hour 279 = .ok (.getfield 54, 3) := by decide +kernel
theorem dX7_hour_282 : decode cX7_hour 282 = .ok (.iload 6, 2) := by decide +kernel
theorem dX7_hour_284 : decode cX7_hour 284 = .ok (.dup2, 1) := by decide +kernel
theorem dX7_hour_285 : decode cX7_hour 285 = .ok (.iaload, 1) := by decide +kernel
theorem dX7_hour_286 : decode cX7_hour 286 = .ok (.aload_n 0, 1) := by decide +kernel
theorem dX7_hour_287 : decode cX7_hour 287 = .ok (.getfield 45, 3) := by decide +kernel
theorem dX7_hour_290 : decode cX7_hour 290 = .ok (.iload_n 3, 1) := by decide +kernel
theorem dX7_hour_291 : decode cX7_hour 291 = .ok (.iconst 0, 1) := by decide +kernel
theorem dX7_hour_292 : decode cX7_hour 292 = .ok (.iadd, 1) := by decide +kernel
theorem dX7_hour_293 : decode cX7_hour 293 = .ok (.iaload, 1) := by decide +kernel
theorem dX7_hour_294 : decode cX7_hour 294 = .ok (.aload_n 0, 1) := by decide +kernel
theorem dX7_hour_295 : decode cX7_hour 295 = .ok (.getfield 54, 3) := by decide +kernel
theorem dX7_hour_298 : decode cX7_hour 298 = .ok (.iload 6, 2) := by decide +kernel
theorem dX7_hour_300 : decode cX7_hour 300 = .ok (.iaload, 1) := by decide +kernel
theorem dX7_hour_301 : decode cX7_hour 301 = .ok (.isub, 1) := by decide +kernel
theorem dX7_hour_302 : decode cX7_hour 302 = .ok (.bipush 8, 2) := by decide +kernel
theorem dX7_hour_304 : decode cX7_hour 304 = .ok (.idiv, 1) := by decide +kernel
theorem dX7_hour_305 : decode cX7_hour 305 = .ok (.iadd, 1) := by decide +kernel
theorem dX7_hour_306 : decode cX7_hour 306 = .ok (.iastore, 1) := by decide +kernel
theorem dX7_hour_307 : decode cX7_hour 307 = .ok (.aload_n 0, 1) := by decide +kernel
theorem dX7_hour_308 : decode cX7_hour 308 = .ok (.getfield 57, 3) := by decide +kernel
theorem dX7_hour_311 : decode cX7_hour 311 = .ok (.iload 6, 2) := by decide +kernel
theorem dX7_hour_313 : decode cX7_hour 313 = .ok (.dup2, 1) := by decide +kernel
theorem dX7_hour_314 : decode cX7_hour 314 = .ok (.iaload, 1) := by decide +kernel
theorem dX7_hour_315 : decode cX7_hour 315 = .ok (.iconst 1, 1) := by decide +kernel
theorem dX7_hour_316 : decode cX7_hour 316 = .ok (.aload_n 0, 1) := by decide +kernel
theorem dX7_hour_317 : decode cX7_hour 317 = .ok (.aload_n 0, 1) := by decide +kernel
theorem dX7_hour_318 : decode cX7_hour 318 = .ok (.getfield 48, 3) := by decide +kernel
theorem dX7_hour_321 : decode cX7_hour 321 = .ok (.iload 6, 2) := by decide +kernel
theorem dX7_hour_323 : decode cX7_hour 323 = .ok (.iaload, 1) := by decide +kernel
theorem dX7_hour_324 : decode cX7_hour 324 = .ok (.aload_n 0, 1) := by decide +kernel
theorem dX7_hour_325 : decode cX7_hour 325 = .ok (.getfield 54, 3) := by decide +kernel
theorem dX7_hour_328 : decode cX7_hour 328 = .ok (.iload 6, 2) := by decide +kernel
theorem dX7_hour_330 : decode cX7_hour 330 = .ok (.iaload, 1) := by decide +kernel
theorem dX7_hour_331 : decode cX7_hour 331 = .ok (.invokevirtual 137, 3) := by decide +kernel
theorem dX7_hour_334 : decode cX7_hour 334 = .ok (.bipush 10, 2) := by decide +kernel
theorem dX7_hour_336 : decode cX7_hour 336 = .ok (.idiv, 1) := by decide +kernel
theorem dX7_hour_337 : decode cX7_hour 337 = .ok (.iadd, 1) := by decide +kernel
theorem dX7_hour_338 : decode cX7_hour 338 = .ok (.iadd, 1) := by decide +kernel
theorem dX7_hour_339 : decode cX7_hour 339 = .ok (.iastore, 1) := by decide +kernel
theorem dX7_hour_340 : decode cX7_hour 340 = .ok (.iinc 6 1, 3) := by decide +kernel
theorem dX7_hour_343 : decode cX7_hour 343 = .ok (.goto (-88), 3) := by decide +kernel
theorem dX7_hour_346 : decode cX7_hour 346 = .ok (.return_, 1) := by decide +kernel
theorem dX7_tick_0 : decode cX7_tick 0 = .ok (.aload_n 0, 1) := by decide +kernel
theorem dX7_tick_1 : decode cX7_tick 1 = .ok (.iconst 0, 1) := by decide +kernel
theorem dX7_tick_2 : decode cX7_tick 2 = .ok (.putfield 60, 3) := by decide +kernel
theorem dX7_tick_5 : decode cX7_tick 5 = .ok (.iload_n 1, 1) := by decide +kernel
theorem dX7_tick_6 : decode cX7_tick 6 = .ok (.iconst 1, 1) := by decide +kernel
theorem dX7_tick_7 : decode cX7_tick 7 = .ok (.sipush 200, 3) := by decide +kernel
theorem dX7_tick_10 : decode cX7_tick 10 = .ok (.invokestatic 66, 3) := by decide +kernel
theorem dX7_tick_13 : decode cX7_tick 13 = .ok (.ifCond .eq 15, 3) := by decide +kernel
theorem dX7_tick_16 : decode cX7_tick 16 = .ok (.aload_n 0, 1) := by decide +kernel
theorem dX7_tick_17 : decode cX7_tick 17 = .ok (.getfield 88, 3) := by decide +kernel
theorem dX7_tick_20 : decode cX7_tick 20 = .ok (.iload_n 1, 1) := by decide +kernel
theorem dX7_tick_21 : decode cX7_tick 21 = .ok (.iadd, 1) := by decide +kernel
theorem dX7_tick_22 : decode cX7_tick 22 = .ok (.sipush 2000, 3) := by decide +kernel
theorem dX7_tick_25 : decode cX7_tick 25 = .ok (.if_icmp .le 9, 3) := by decide +kernel
theorem dX7_tick_28 : decode cX7_tick 28 = .ok (.aload_n 0, 1) := by decide +kernel
theorem dX7_tick_29 : decode cX7_tick 29 = .ok (.iconst 1, 1) := by decide +kernel
theorem dX7_tick_30 : decode cX7_tick 30 = .ok (.invokevirtual 85, 3) := by decide +kernel
theorem dX7_tick_33 : decode cX7_tick 33 = .ok (.ireturn, 1) := by decide +kernel
theorem dX7_tick_34 : decode cX7_tick 34 = .ok (.aload_n 0, 1) := by decide +kernel
theorem dX7_tick_35 : decode cX7_tick 35 = .ok (.iconst (-1), 1) := by decide +kernel
theorem dX7_tick_36 : decode cX7_tick 36 = .ok (.iconst 1, 1) := by decide +kernel
theorem dX7_tick_37 : decode cX7_tick 37 = .ok (.invokevirtual 143, 3) := by decide +kernel
theorem dX7_tick_40 : decode cX7_tick 40 = .ok (.istore_n 2, 1) := by decide +kernel
theorem dX7_tick_41 : decode cX7_tick 41 = .ok (.iconst 0, 1) := by decide +kernel
theorem dX7_tick_42 : decode cX7_tick 42 = .ok (.istore_n 3, 1) := by decide +kernel
theorem dX7_tick_43 : decode cX7_tick 43 = .ok (.iload_n 3, 1) := by decide +kernel
theorem dX7_tick_44 : decode cX7_tick 44 = .ok (.iload_n 1, 1) := by decide +kernel
theorem dX7_tick_45 : decode cX7_tick 45 = .ok (.if_icmp .ge 50, 3) := by decide +kernel
theorem dX7_tick_48 : decode cX7_tick 48 = .ok (.iconst 0, 1) := by decide +kernel
theorem dX7_tick_49 : decode cX7_tick 49 = .ok (.istore 4, 2) := by decide +kernel
theorem dX7_tick_51 : decode cX7_tick 51 = .ok (.iload 4, 2) := by decide +kernel
theorem dX7_tick_53 : decode cX7_tick 53 = .ok (.aload_n 0, 1) := by decide +kernel
theorem dX7_tick_54 : decode cX7_tick 54 = .ok (.getfield 70, 3) := by decide +kernel
theorem dX7_tick_57 : decode cX7_tick 57 = .ok (.if_icmp .ge 22, 3) := by decide +kernel
theorem dX7_tick_60 : decode cX7_tick 60 = .ok (.aload_n 0, 1) := by decide +kernel
theorem dX7_tick_61 : decode cX7_tick 61 = .ok (.iload 4, 2) := by decide +kernel
theorem dX7_tick_63 : decode cX7_tick 63 = .ok (.aload_n 0, 1) := by decide +kernel
theorem dX7_tick_64 : decode cX7_tick 64 = .ok (.getfield 88, 3) := by decide +kernel
theorem dX7_tick_67 : decode cX7_tick 67 = .ok (.bipush 24, 2) := by decide +kernel
theorem dX7_tick_69 : decode cX7_tick 69 = .ok (.irem, 1) := by decide +kernel
theorem dX7_tick_70 : decode cX7_tick 70 = .ok (.invokevirtual 158, 3) := by decide +kernel
theorem dX7_tick_73 : decode cX7_tick 73 = .ok (.iinc 4 1, 3) := by decide +kernel
theorem dX7_tick_76 : decode cX7_tick 76 = .ok (.goto (-25), 3) := by decide +kernel
theorem dX7_tick_79 : decode cX7_tick 79 = .ok (.aload_n 0, 1) := by decide +kernel
theorem dX7_tick_80 : decode cX7_tick 80 = .ok (.dup, 1) := by decide +kernel
theorem dX7_tick_81 : decode cX7_tick 81 = .ok (.getfield 88, 3) := by decide +kernel
theorem dX7_tick_84 : decode cX7_tick 84 = .ok (.iconst 1, 1) := by decide +kernel
theorem dX7_tick_85 : decode cX7_tick 85 = .ok (.iadd, 1) := by decide +kernel
theorem dX7_tick_86 : decode cX7_tick 86 = .ok (.putfield 88, 3) := by decide +kernel
theorem dX7_tick_89 : decode cX7_tick 89 = .ok (.iinc 3 1, 3) := by decide +kernel
theorem dX7_tick_92 : decode cX7_tick 92 = .ok (.goto (-49), 3) := by decide +kernel
theorem dX7_tick_95 : decode cX7_tick 95 = .ok (.aload_n 0, 1) := by decide +kernel
theorem dX7_tick_96 : decode cX7_tick 96 = .ok (.iconst (-1), 1) := by decide +kernel
theorem dX7_tick_97 : decode cX7_tick 97 = .ok (.iconst 1, 1) := by decide +kernel
theorem dX7_tick_98 : decode cX7_tick 98 = .ok (.invokevirtual 143, 3) := by decide +kernel
theorem dX7_tick_101 : decode cX7_tick 101 = .ok (.iload_n 2, 1) := by decide +kernel
theorem dX7_tick_102 : decode cX7_tick 102 = .ok (.isub, 1) := by decide +kernel
theorem dX7_tick_103 : decode cX7_tick 103 = .ok (.ireturn, 1) := by decide +kernel
theorem dX7_ahead_0 : decode cX7_ahead 0 = .ok (.aload_n 0, 1) := by decide +kernel
theorem dX7_ahead_1 : decode cX7_ahead 1 = .ok (.getfield 45, 3) := by decide +kernel
theorem dX7_ahead_4 : decode cX7_ahead 4 = .ok (.invokevirtual 161, 3) := by decide +kernel
theorem dX7_ahead_7 : decode cX7_ahead 7 = .ok (.checkcast 162, 3) := by decide +kernel
theorem dX7_ahead_10 : decode cX7_ahead 10 = .ok (.astore 4, 2) := by decide +kernel
theorem dX7_ahead_12 : decode cX7_ahead 12 = .ok (.aload_n 0, 1) := by decide +kernel
theorem dX7_ahead_13 : decode cX7_ahead 13 = .ok (.getfield 54, 3) := by decide +kernel
theorem dX7_ahead_16 : decode cX7_ahead 16 = .ok (.invokevirtual 161, 3) := by decide +kernel
theorem dX7_ahead_19 : decode cX7_ahead 19 = .ok (.checkcast 162, 3) := by decide +kernel
theorem dX7_ahead_22 : decode cX7_ahead 22 = .ok (.astore 5, 2) := by decide +kernel
theorem dX7_ahead_24 : decode cX7_ahead 24 = .ok (.aload_n 0, 1) := by decide +kernel
theorem dX7_ahead_25 : decode cX7_ahead 25 = .ok (.getfield 57, 3) := by decide +kernel
theorem dX7_ahead_28 : decode cX7_ahead 28 = .ok (.invokevirtual 161, 3) := by decide +kernel
theorem dX7_ahead_31 : decode cX7_ahead 31 = .ok (.checkcast 162, 3) := by decide +kernel
theorem dX7_ahead_34 : decode cX7_ahead 34 = .ok (.astore 6, 2) := by decide +kernel
theorem dX7_ahead_36 : decode cX7_ahead 36 = .ok (.aload_n 0, 1) := by decide +kernel
theorem dX7_ahead_37 : decode cX7_ahead 37 = .ok (.getfield 154, 3) := by decide +kernel
theorem dX7_ahead_40 : decode cX7_ahead 40 = .ok (.lstore 7, 2) := by decide +kernel
theorem dX7_ahead_42 : decode cX7_ahead 42 = .ok (.iconst 0, 1) := by decide +kernel
theorem dX7_ahead_43 : decode cX7_ahead 43 = .ok (.istore 9, 2) := by decide +kernel
theorem dX7_ahead_45 : decode cX7_ahead 45 = .ok (.iload 9, 2) := by decide +kernel
theorem dX7_ahead_47 : decode cX7_ahead 47 = .ok (.iload_n 2, 1) := by decide +kernel
theorem dX7_ahead_48 : decode cX7_ahead 48 = .ok (.if_icmp .ge 37, 3) := by decide +kernel
theorem dX7_ahead_51 : decode cX7_ahead 51 = .ok (.iload_n 3, 1) := by decide +kernel
theorem dX7_ahead_52 : decode cX7_ahead 52 = .ok (.iconst (-1), 1) := by decide +kernel
theorem dX7_ahead_53 : decode cX7_ahead 53 = .ok (.if_icmp .eq 11, 3) := by decide +kernel
theorem dX7_ahead_56 : decode cX7_ahead 56 = .ok (.aload_n 0, 1) := by decide +kernel
theorem dX7_ahead_57 : decode cX7_ahead 57 = .ok (.iload_n 3, 1) := by decide +kernel
theorem dX7_ahead_58 : decode cX7_ahead 58 = .ok (.invokevirtual 128, 3) := by decide +kernel
theorem dX7_ahead_61 : decode cX7_ahead 61 = .ok (.ifCond .lt 24, 3) := by decide +kernel
theorem dX7_ahead_64 : decode cX7_ahead 64 = .ok (.aload_n 0, 1) := by decide +kernel
theorem dX7_ahead_65 : decode cX7_ahead 65 = .ok (.iload_n 1, 1) := by decide +kernel
theorem dX7_ahead_66 : decode cX7_ahead 66 = .ok (.aload_n 0, 1) := by decide +kernel
theorem dX7_ahead_67 : decode cX7_ahead 67 = .ok (.getfield 88, 3) := by decide +kernel
theorem dX7_ahead_70 : decode cX7_ahead 70 = .ok (.iload 9, 2) := by decide +kernel
theorem dX7_ahead_72 : decode cX7_ahead 72 = .ok (.iadd, 1) := by decide +kernel
theorem dX7_ahead_73 : decode cX7_ahead 73 = .ok (.bipush 24, 2) := by decide +kernel
theorem dX7_ahead_75 : decode cX7_ahead 75 = .ok (.irem, 1) := by decide +kernel
theorem dX7_ahead_76 : decode cX7_ahead 76 = .ok (.invokevirtual 158, 3) := by decide +kernel
theorem dX7_ahead_79 : decode cX7_ahead 79 = .ok (.iinc 9 1, 3) := by decide +kernel
theorem dX7_ahead_82 : decode cX7_ahead 82 = .ok (.goto (-37), 3) := by decide +kernel
theorem dX7_ahead_85 : decode cX7_ahead 85 = .ok (.iconst 2, 1) := by decide +kernel
theorem dX7_ahead_86 : decode cX7_ahead 86 = .ok (.newarray .int, 2) := by decide +kernel
theorem dX7_ahead_88 : decode cX7_ahead 88 = .ok (.dup, 1) := by decide +kernel
theorem dX7_ahead_89 : decode cX7_ahead 89 = .ok (.iconst 0, 1) := by decide +kernel
theorem dX7_ahead_90 : decode cX7_ahead 90 = .ok (.iload 9, 2) := by decide +kernel
theorem dX7_ahead_92 : decode cX7_ahead 92 = .ok (.iastore, 1) := by decide +kernel
theorem dX7_ahead_93 : decode cX7_ahead 93 = .ok (.dup, 1) := by decide +kernel
theorem dX7_ahead_94 : decode cX7_ahead 94 = .ok (.iconst 1, 1) := by decide +kernel
theorem dX7_ahead_95 : decode cX7_ahead 95 = .ok (.aload_n 0, 1) := by decide +kernel
theorem dX7_ahead_96 : decode cX7_ahead 96 = .ok (.getfield 45, 3) := by decide +kernel
theorem dX7_ahead_99 : decode cX7_ahead 99 = .ok (.bipush 6, 2) := by decide +kernel
theorem dX7_ahead_101 : decode cX7_ahead 101 = .ok (.iload_n 1, 1) := by decide +kernel
theorem dX7_ahead_102 : decode cX7_ahead 102 = .ok (.imul, 1) := by decide +kernel
theorem dX7_ahead_103 : decode cX7_ahead 103 = .ok (.iconst 0, 1) := by decide +kernel
theorem dX7_ahead_104 : decode cX7_ahead 104 = .ok (.iadd, 1) := by decide +kernel
theorem dX7_ahead_105 : decode cX7_ahead 105 = .ok (.iaload, 1) := by decide +kernel
theorem dX7_ahead_106 : decode cX7_ahead 106 = .ok (.iastore, 1) := by decide +kernel
theorem dX7_ahead_107 : decode cX7_ahead 107 = .ok (.astore 10, 2) := by decide +kernel
theorem dX7_ahead_109 : decode cX7_ahead 109 = .ok (.aload 4, 2) := by decide +kernel
theorem dX7_ahead_111 : decode cX7_ahead 111 = .ok (.iconst 0, 1) := by decide +kernel
theorem dX7_ahead_112 : decode cX7_ahead 112 = .ok (.aload_n 0, 1) := by decide +kernel
theorem dX7_ahead_113 : decode cX7_ahead 113 = .ok (.getfield 45, 3) := by decide +kernel
theorem dX7_ahead_116 : decode cX7_ahead 116 = .ok (.iconst 0, 1) := by decide +kernel
theorem dX7_ahead_117 : decode cX7_ahead 117 = .ok (.aload_n 0, 1) := by decide +kernel
theorem dX7_ahead_118 : decode cX7_ahead 118 = .ok (.getfield 45, 3) := by decide +kernel
theorem dX7_ahead_121 : decode cX7_ahead 121 = .ok (.arraylength, 1) := by decide +kernel
theorem dX7_ahead_122 : decode cX7_ahead 122 = .ok (.invokestatic 166, 3) := by decide +kernel
theorem dX7_ahead_125 : decode cX7_ahead 125 = .ok (.aload 5, 2) := by decide +kernel
theorem dX7_ahead_127 : decode cX7_ahead 127 = .ok (.iconst 0, 1) := by decide +kernel
theorem dX7_ahead_128 : decode cX7_ahead 128 = .ok (.aload_n 0, 1) := by decide +kernel
theorem dX7_ahead_129 : decode cX7_ahead 129 = .ok (.getfield 54, 3) := by decide +kernel
theorem dX7_ahead_132 : decode cX7_ahead 132 = .ok (.iconst 0, 1) := by decide +kernel
theorem dX7_ahead_133 : decode cX7_ahead 133 = .ok (.bipush 60, 2) := by decide +kernel
theorem dX7_ahead_135 : decode cX7_ahead 135 = .ok (.invokestatic 166, 3) := by decide +kernel
theorem dX7_ahead_138 : decode cX7_ahead 138 = .ok (.aload 6, 2) := by decide +kernel
theorem dX7_ahead_140 : decode cX7_ahead 140 = .ok (.iconst 0, 1) := by decide +kernel
theorem dX7_ahead_141 : decode cX7_ahead 141 = .ok (.aload_n 0, 1) := by decide +kernel
theorem dX7_ahead_142 : decode cX7_ahead 142 = .ok (.getfield 57, 3) := by decide +kernel
theorem dX7_ahead_145 : decode cX7_ahead 145 = .ok (.iconst 0, 1) := by decide +kernel
theorem dX7_ahead_146 : decode cX7_ahead 146 = .ok (.bipush 60, 2) := by decide +kernel
theorem dX7_ahead_148 : decode cX7_ahead 148 = .ok (.invokestatic 166, 3) := by decide +kernel
theorem dX7_ahead_151 : decode cX7_ahead 151 = .ok (.aload_n 0, 1) := by decide +kernel
theorem dX7_ahead_152 : decode cX7_ahead 152 = .ok (.lload 7, 2) := by decide +kernel
theorem dX7_ahead_154 : decode cX7_ahead 154 = .ok (.putfield 154, 3) := by decide +kernel
theorem dX7_ahead_157 : decode cX7_ahead 157 = .ok (.aload 10, 2) := by decide +kernel
theorem dX7_ahead_159 : decode cX7_ahead 159 = .ok (.areturn, 1) := by decide +kernel
theorem dX7_foretell_0 : decode cX7_foretell 0 = .ok (.aload_n 0, 1) := by decide +kernel
theorem dX7_foretell_1 : decode cX7_foretell 1 = .ok (.iconst 0, 1) := by decide +kernel
theorem dX7_foretell_2 : decode cX7_foretell 2 = .ok (.putfield 60, 3) := by decide +kernel
theorem dX7_foretell_5 : decode cX7_foretell 5 = .ok (.aload_n 0, 1) := by decide +kernel
theorem dX7_foretell_6 : decode cX7_foretell 6 = .ok (.iload_n 1, 1) := by decide +kernel
theorem dX7_foretell_7 : decode cX7_foretell 7 = .ok (.invokevirtual 106, 3) := by decide +kernel
theorem dX7_foretell_10 : decode cX7_foretell 10 = .ok (.ifCond .ne 9, 3) := by decide +kernel
theorem dX7_foretell_13 : decode cX7_foretell 13 = .ok (.aload_n 0, 1) := by decide +kernel
theorem dX7_foretell_14 : decode cX7_foretell 14 = .ok (.iconst 1, 1) := by decide +kernel
theorem dX7_foretell_15 : decode cX7_foretell 15 = .ok (.invokevirtual 85, 3) := by decide +kernel
theorem dX7_foretell_18 : decode cX7_foretell 18 = .ok (.ireturn, 1) := by decide +kernel
theorem dX7_foretell_19 : decode cX7_foretell 19 = .ok (.iload_n 2, 1) := by decide +kernel
theorem dX7_foretell_20 : decode cX7_foretell 20 = .ok (.iconst 0, 1) := by decide +kernel
theorem dX7_foretell_21 : decode cX7_foretell 21 = .ok (.bipush 100, 2) := by decide +kernel
theorem dX7_foretell_23 : decode cX7_foretell 23 = .ok (.invokestatic 66, 3) := by decide +kernel
theorem dX7_foretell_26 : decode cX7_foretell 26 = .ok (.ifCond .eq 15, 3) := by decide +kernel
theorem dX7_foretell_29 : decode cX7_foretell 29 = .ok (.aload_n 0, 1) := by decide +kernel
theorem dX7_foretell_30 : decode cX7_foretell 30 = .ok (.iload_n 1, 1) := by decide +kernel
theorem dX7_foretell_31 : decode cX7_foretell 31 = .ok (.iload_n 2, 1) := by decide +kernel
theorem dX7_foretell_32 : decode cX7_foretell 32 = .ok (.iconst (-1), 1) := by decide +kernel
theorem dX7_foretell_33 : decode cX7_foretell 33 = .ok (.invokevirtual 172, 3) := by decide +kernel
theorem dX7_foretell_36 : decode cX7_foretell 36 = .ok (.iconst 1, 1) := by decide +kernel
theorem dX7_foretell_37 : decode cX7_foretell 37 = .ok (.iaload, 1) := by decide +kernel
theorem dX7_foretell_38 : decode cX7_foretell 38 = .ok (.goto 8, 3) := by decide +kernel
theorem dX7_foretell_41 : decode cX7_foretell 41 = .ok (.aload_n 0, 1) := by decide +kernel
theorem dX7_foretell_42 : decode cX7_foretell 42 = .ok (.iconst 2, 1) := by decide +kernel
theorem dX7_foretell_43 : decode cX7_foretell 43 = .ok (.invokevirtual 85, 3) := by decide +kernel
theorem dX7_foretell_46 : decode cX7_foretell 46 = .ok (.ireturn, 1) := by decide +kernel
theorem dX7_lasts_0 : decode cX7_lasts 0 = .ok (.aload_n 0, 1) := by decide +kernel
theorem dX7_lasts_1 : decode cX7_lasts 1 = .ok (.iconst 0, 1) := by decide +kernel
theorem dX7_lasts_2 : decode cX7_lasts 2 = .ok (.putfield 60, 3) := by decide +kernel
theorem dX7_lasts_5 : decode cX7_lasts 5 = .ok (.aload_n 0, 1) := by decide +kernel
theorem dX7_lasts_6 : decode cX7_lasts 6 = .ok (.iload_n 1, 1) := by decide +kernel
theorem dX7_lasts_7 : decode cX7_lasts 7 = .ok (.invokevirtual 125, 3) := by decide +kernel
theorem dX7_lasts_10 : decode cX7_lasts 10 = .ok (.ifCond .ne 9, 3) := by decide +kernel
theorem dX7_lasts_13 : decode cX7_lasts 13 = .ok (.aload_n 0, 1) := by decide +kernel
theorem dX7_lasts_14 : decode cX7_lasts 14 = .ok (.iconst 1, 1) := by decide +kernel
theorem dX7_lasts_15 : decode cX7_lasts 15 = .ok (.invokevirtual 85, 3) := by decide +kernel
theorem dX7_lasts_18 : decode cX7_lasts 18 = .ok (.ireturn, 1) := by decide +kernel
theorem dX7_lasts_19 : decode cX7_lasts 19 = .ok (.aload_n 0, 1) := by decide +kernel
theorem dX7_lasts_20 : decode cX7_lasts 20 = .ok (.getfield 51, 3) := by decide +kernel
theorem dX7_lasts_23 : decode cX7_lasts 23 = .ok (.iload_n 1, 1) := by decide +kernel
theorem dX7_lasts_24 : decode cX7_lasts 24 = .ok (.iaload, 1) := by decide +kernel
theorem dX7_lasts_25 : decode cX7_lasts 25 = .ok (.iconst (-1), 1) := by decide +kernel
theorem dX7_lasts_26 : decode cX7_lasts 26 = .ok (.if_icmp .ne 11, 3) := by decide +kernel
theorem dX7_lasts_29 : decode cX7_lasts 29 = .ok (.aload_n 0, 1) := by decide +kernel
theorem dX7_lasts_30 : decode cX7_lasts 30 = .ok (.iconst 2, 1) := by decide +kernel
theorem dX7_lasts_31 : decode cX7_lasts 31 = .ok (.invokevirtual 85, 3) := by decide +kernel
theorem dX7_lasts_34 : decode cX7_lasts 34 = .ok (.goto 19, 3) := by decide +kernel
theorem dX7_lasts_37 : decode cX7_lasts 37 = .ok (.aload_n 0, 1) := by decide +kernel
theorem dX7_lasts_38 : decode cX7_lasts 38 = .ok (.aload_n 0, 1) := by decide +kernel
theorem dX7_lasts_39 : decode cX7_lasts 39 = .ok (.getfield 51, 3) := by decide +kernel
theorem dX7_lasts_42 : decode cX7_lasts 42 = .ok (.iload_n 1, 1) := by decide +kernel
theorem dX7_lasts_43 : decode cX7_lasts 43 = .ok (.iaload, 1) := by decide +kernel
theorem dX7_lasts_44 : decode cX7_lasts 44 = .ok (.sipush 500, 3) := by decide +kernel
theorem dX7_lasts_47 : decode cX7_lasts 47 = .ok (.iload_n 1, 1) := by decide +kernel
theorem dX7_lasts_48 : decode cX7_lasts 48 = .ok (.invokevirtual 172, 3) := by decide +kernel
theorem dX7_lasts_51 : decode cX7_lasts 51 = .ok (.iconst 0, 1) := by decide +kernel
theorem dX7_lasts_52 : decode cX7_lasts 52 = .ok (.iaload, 1) := by decide +kernel
theorem dX7_lasts_53 : decode cX7_lasts 53 = .ok (.ireturn, 1) := by decide +kernel
theorem dX7_now_0 : decode cX7_now 0 = .ok (.aload_n 0, 1) := by decide +kernel
theorem dX7_now_1 : decode cX7_now 1 = .ok (.iconst 0, 1) := by decide +kernel
theorem dX7_now_2 : decode cX7_now 2 = .ok (.putfield 60, 3) := by decide +kernel
theorem dX7_now_5 : decode cX7_now 5 = .ok (.aload_n 0, 1) := by decide +kernel
theorem dX7_now_6 : decode cX7_now 6 = .ok (.getfield 88, 3) := by decide +kernel
theorem dX7_now_9 : decode cX7_now 9 = .ok (.ireturn, 1) := by decide +kernel
theorem dX7_paid_0 : decode cX7_paid 0 = .ok (.aload_n 0, 1) := by decide +kernel
theorem dX7_paid_1 : decode cX7_paid 1 = .ok (.iconst 0, 1) := by decide +kernel
theorem dX7_paid_2 : decode cX7_paid 2 = .ok (.putfield 60, 3) := by decide +kernel
theorem dX7_paid_5 : decode cX7_paid 5 = .ok (.aload_n 0, 1) := by decide +kernel
theorem dX7_paid_6 : decode cX7_paid 6 = .ok (.getfield 154, 3) := by decide +kernel
theorem dX7_paid_9 : decode cX7_paid 9 = .ok (.lreturn, 1) := by decide +kernel
theorem dX7_freshness_0 : decode cX7_freshness 0 = .ok (.aload_n 0, 1) := by decide +kernel
theorem dX7_freshness_1 : decode cX7_freshness 1 = .ok (.aload_n 0, 1) := by decide +kernel
theorem dX7_freshness_2 : decode cX7_freshness 2 = .ok (.iload_n 1, 1) := by decide +kernel
theorem dX7_freshness_3 : decode cX7_freshness 3 = .ok (.invokevirtual 119, 3) := by decide +kernel
theorem dX7_freshness_6 : decode cX7_freshness 6 = .ok (.ifCond .eq 7, 3) := by decide +kernel
theorem dX7_freshness_9 : decode cX7_freshness 9 = .ok (.iconst 0, 1) := by decide +kernel
theorem dX7_freshness_10 : decode cX7_freshness 10 = .ok (.goto 4, 3) := by decide +kernel
theorem dX7_freshness_13 : decode cX7_freshness 13 = .ok (.iconst 1, 1) := by decide +kernel
theorem dX7_freshness_14 : decode cX7_freshness 14 = .ok (.putfield 60, 3) := by decide +kernel
theorem dX7_freshness_17 : decode cX7_freshness 17 = .ok (.aload_n 0, 1) := by decide +kernel
theorem dX7_freshness_18 : decode cX7_freshness 18 = .ok (.getfield 60, 3) := by decide +kernel
theorem dX7_freshness_21 : decode cX7_freshness 21 = .ok (.ifCond .eq 5, 3) := by decide +kernel
theorem dX7_freshness_24 : decode cX7_freshness 24 = .ok (.dconst 0, 1) := by decide +kernel
theorem dX7_freshness_25 : decode cX7_freshness 25 = .ok (.dreturn, 1) := by decide +kernel
theorem dX7_freshness_26 : decode cX7_freshness 26 = .ok (.iconst 0, 1) := by decide +kernel
theorem dX7_freshness_27 : decode cX7_freshness 27 = .ok (.istore_n 2, 1) := by decide +kernel
theorem dX7_freshness_28 : decode cX7_freshness 28 = .ok (.iconst 0, 1) := by decide +kernel
theorem dX7_freshness_29 : decode cX7_freshness 29 = .ok (.istore_n 3, 1) := by decide +kernel
theorem dX7_freshness_30 : decode cX7_freshness 30 = .ok (.iconst 0, 1) := by decide +kernel
theorem dX7_freshness_31 : decode cX7_freshness 31 = .ok (.istore 4, 2) := by decide +kernel
theorem dX7_freshness_33 : decode cX7_freshness 33 = .ok (.iload 4, 2) := by decide +kernel
theorem dX7_freshness_35 : decode cX7_freshness 35 = .ok (.aload_n 0, 1) := by decide +kernel
theorem dX7_freshness_36 : decode cX7_freshness 36 = .ok (.getfield 73, 3) := by decide +kernel
theorem dX7_freshness_39 : decode cX7_freshness 39 = .ok (.if_icmp .ge 46, 3) := by decide +kernel
theorem dX7_freshness_42 : decode cX7_freshness 42 = .ok (.aload_n 0, 1) := by decide +kernel
theorem dX7_freshness_43 : decode cX7_freshness 43 = .ok (.getfield 48, 3) := by decide +kernel
theorem dX7_freshness_46 : decode cX7_freshness 46 = .ok (.iload 4, 2) := by decide +kernel
theorem dX7_freshness_48 : decode cX7_freshness 48 = .ok (.iaload, 1) := by decide +kernel
theorem dX7_freshness_49 : decode cX7_freshness 49 = .ok (.iload_n 1, 1) := by decide +kernel
theorem dX7_freshness_50 : decode cX7_freshness 50 = .ok (.if_icmp .ne 29, 3) := by decide +kernel
theorem dX7_freshness_53 : decode cX7_freshness 53 = .ok (.aload_n 0, 1) := by decide +kernel
theorem dX7_freshness_54 : decode cX7_freshness 54 = .ok (.getfield 51, 3) := by decide +kernel
theorem dX7_freshness_57 : decode cX7_freshness 57 = .ok (.iload 4, 2) := by decide +kernel
theorem dX7_freshness_59 : decode cX7_freshness 59 = .ok (.iaload, 1) := by decide +kernel
theorem dX7_freshness_60 : decode cX7_freshness 60 = .ok (.iconst (-1), 1) := by decide +kernel
theorem dX7_freshness_61 : decode cX7_freshness 61 = .ok (.if_icmp .ne 6, 3) := by decide +kernel
theorem dX7_freshness_64 : decode cX7_freshness 64 = .ok (.goto 15, 3) := by decide +kernel
theorem dX7_freshness_67 : decode cX7_freshness 67 = .ok (.iload_n 2, 1) := by decide +kernel
theorem dX7_freshness_68 : decode cX7_freshness 68 = .ok (.aload_n 0, 1) := by decide +kernel
theorem dX7_freshness_69 : decode cX7_freshness 69 = .ok (.iload 4, 2) := by decide +kernel
theorem dX7_freshness_71 : decode cX7_freshness 71 = .ok (.invokevirtual 128, 3) := by decide +kernel
theorem dX7_freshness_74 : decode cX7_freshness 74 = .ok (.iadd, 1) := by decide +kernel
theorem dX7_freshness_75 : decode cX7_freshness 75 = .ok (.istore_n 2, 1) := by decide +kernel
theorem dX7_freshness_76 : decode cX7_freshness 76 = .ok (.iinc 3 1, 3) := by decide +kernel
theorem dX7_freshness_79 : decode cX7_freshness 79 = .ok (.iinc 4 1, 3) := by decide +kernel
theorem dX7_freshness_82 : decode cX7_freshness 82 = .ok (.goto (-49), 3) := by decide +kernel
theorem dX7_freshness_85 : decode cX7_freshness 85 = .ok (.iload_n 3, 1) := by decide +kernel
theorem dX7_freshness_86 : decode cX7_freshness 86 = .ok (.ifCond .ne 7, 3) := by decide +kernel
theorem dX7_freshness_89 : decode cX7_freshness 89 = .ok (.dconst 0, 1) := by decide +kernel
theorem dX7_freshness_90 : decode cX7_freshness 90 = .ok (.goto 8, 3) := by decide +kernel
theorem dX7_freshness_93 : decode cX7_freshness 93 = .ok (.iload_n 2, 1) := by decide +kernel
theorem dX7_freshness_94 : decode cX7_freshness 94 = .ok (.i2d, 1) := by decide +kernel
theorem dX7_freshness_95 : decode cX7_freshness 95 = .ok (.iload_n 3, 1) := by decide +kernel
theorem dX7_freshness_96 : decode cX7_freshness 96 = .ok (.i2d, 1) := by decide +kernel
theorem dX7_freshness_97 : decode cX7_freshness 97 = .ok (.ddiv, 1) := by decide +kernel
theorem dX7_freshness_98 : decode cX7_freshness 98 = .ok (.dreturn, 1) := by decide +kernel
theorem dX7_digest_0 : decode cX7_digest 0 = .ok (.aload_n 0, 1) := by decide +kernel
theorem dX7_digest_1 : decode cX7_digest 1 = .ok (.iconst 0, 1) := by decide +kernel
theorem dX7_digest_2 : decode cX7_digest 2 = .ok (.putfield 60, 3) := by decide +kernel
theorem dX7_digest_5 : decode cX7_digest 5 = .ok (.ldc2_w 176, 3) := by decide +kernel
theorem dX7_digest_8 : decode cX7_digest 8 = .ok (.aload_n 0, 1) := by decide +kernel
theorem dX7_digest_9 : decode cX7_digest 9 = .ok (.getfield 88, 3) := by decide +kernel
theorem dX7_digest_12 : decode cX7_digest 12 = .ok (.i2l, 1) := by decide +kernel
theorem dX7_digest_13 : decode cX7_digest 13 = .ok (.ladd, 1) := by decide +kernel
theorem dX7_digest_14 : decode cX7_digest 14 = .ok (.lstore_n 1, 1) := by decide +kernel
theorem dX7_digest_15 : decode cX7_digest 15 = .ok (.iconst 0, 1) := by decide +kernel
theorem dX7_digest_16 : decode cX7_digest 16 = .ok (.istore_n 3, 1) := by decide +kernel
theorem dX7_digest_17 : decode cX7_digest 17 = .ok (.iload_n 3, 1) := by decide +kernel
theorem dX7_digest_18 : decode cX7_digest 18 = .ok (.iconst 5, 1) := by decide +kernel
theorem dX7_digest_19 : decode cX7_digest 19 = .ok (.if_icmp .ge 22, 3) := by decide +kernel
theorem dX7_digest_22 : decode cX7_digest 22 = .ok (.lload_n 1, 1) := by decide +kernel
theorem dX7_digest_23 : decode cX7_digest 23 = .ok (.ldc2_w 178, 3) := by decide +kernel
theorem dX7_digest_26 : decode cX7_digest 26 = .ok (.lmul, 1) := by decide +kernel
theorem dX7_digest_27 : decode cX7_digest 27 = .ok (.aload_n 0, 1) := by decide +kernel
theorem dX7_digest_28 : decode cX7_digest 28 = .ok (.iload_n 3, 1) := by decide +kernel
theorem dX7_digest_29 : decode cX7_digest 29 = .ok (.invokevirtual 147, 3) := by decide +kernel
theorem dX7_digest_32 : decode cX7_digest 32 = .ok (.i2l, 1) := by decide +kernel
theorem dX7_digest_33 : decode cX7_digest 33 = .ok (.ladd, 1) := by decide +kernel
theorem dX7_digest_34 : decode cX7_digest 34 = .ok (.lstore_n 1, 1) := by decide +kernel
theorem dX7_digest_35 : decode cX7_digest 35 = .ok (.iinc 3 1, 3) := by decide +kernel
theorem dX7_digest_38 : decode cX7_digest 38 = .ok (.goto (-21), 3) := by decide +kernel
theorem dX7_digest_41 : decode cX7_digest 41 = .ok (.iconst 0, 1) := by decide +kernel
theorem dX7_digest_42 : decode cX7_digest 42 = .ok (.istore_n 3, 1) := by decide +kernel
theorem dX7_digest_43 : decode cX7_digest 43 = .ok (.iload_n 3, 1) := by decide +kernel
theorem dX7_digest_44 : decode cX7_digest 44 = .ok (.aload_n 0, 1) := by decide +kernel
theorem dX7_digest_45 : decode cX7_digest 45 = .ok (.getfield 70, 3) := by decide +kernel
theorem dX7_digest_48 : decode cX7_digest 48 = .ok (.if_icmp .ge 61, 3) := by decide +kernel
theorem dX7_digest_51 : decode cX7_digest 51 = .ok (.iconst 0, 1) := by decide +kernel
theorem dX7_digest_52 : decode cX7_digest 52 = .ok (.istore 4, 2) := by decide +kernel
theorem dX7_digest_54 : decode cX7_digest 54 = .ok (.iload 4, 2) := by decide +kernel
theorem dX7_digest_56 : decode cX7_digest 56 = .ok (.bipush 7, 2) := by decide +kernel
theorem dX7_digest_58 : decode cX7_digest 58 = .ok (.if_icmp .ge 24, 3) := by decide +kernel
theorem dX7_digest_61 : decode cX7_digest 61 = .ok (.lload_n 1, 1) := by decide +kernel
theorem dX7_digest_62 : decode cX7_digest 62 = .ok (.ldc2_w 178, 3) := by decide +kernel
theorem dX7_digest_65 : decode cX7_digest 65 = .ok (.lmul, 1) := by decide +kernel
theorem dX7_digest_66 : decode cX7_digest 66 = .ok (.aload_n 0, 1) := by decide +kernel
theorem dX7_digest_67 : decode cX7_digest 67 = .ok (.iload_n 3, 1) := by decide +kernel
theorem dX7_digest_68 : decode cX7_digest 68 = .ok (.iload 4, 2) := by decide +kernel
theorem dX7_digest_70 : decode cX7_digest 70 = .ok (.invokevirtual 112, 3) := by decide +kernel
theorem dX7_digest_73 : decode cX7_digest 73 = .ok (.i2l, 1) := by decide +kernel
theorem dX7_digest_74 : decode cX7_digest 74 = .ok (.ladd, 1) := by decide +kernel
theorem dX7_digest_75 : decode cX7_digest 75 = .ok (.lstore_n 1, 1) := by decide +kernel
theorem dX7_digest_76 : decode cX7_digest 76 = .ok (.iinc 4 1, 3) := by decide +kernel
theorem dX7_digest_79 : decode cX7_digest 79 = .ok (.goto (-25), 3) := by decide +kernel
theorem dX7_digest_82 : decode cX7_digest 82 = .ok (.lload_n 1, 1) := by decide +kernel
theorem dX7_digest_83 : decode cX7_digest 83 = .ok (.ldc2_w 178, 3) := by decide +kernel
theorem dX7_digest_86 : decode cX7_digest 86 = .ok (.lmul, 1) := by decide +kernel
theorem dX7_digest_87 : decode cX7_digest 87 = .ok (.aload_n 0, 1) := by decide +kernel
theorem dX7_digest_88 : decode cX7_digest 88 = .ok (.getfield 41, 3) := by decide +kernel
theorem dX7_digest_91 : decode cX7_digest 91 = .ok (.iload_n 3, 1) := by decide +kernel
theorem dX7_digest_92 : decode cX7_digest 92 = .ok (.baload, 1) := by decide +kernel
theorem dX7_digest_93 : decode cX7_digest 93 = .ok (.ifCond .eq 7, 3) := by decide +kernel
theorem dX7_digest_96 : decode cX7_digest 96 = .ok (.lconst 1, 1) := by decide +kernel
theorem dX7_digest_97 : decode cX7_digest 97 = .ok (.goto 4, 3) := by decide +kernel
theorem dX7_digest_100 : decode cX7_digest 100 = .ok (.lconst 0, 1) := by decide +kernel
theorem dX7_digest_101 : decode cX7_digest 101 = .ok (.ladd, 1) := by decide +kernel
theorem dX7_digest_102 : decode cX7_digest 102 = .ok (.lstore_n 1, 1) := by decide +kernel
theorem dX7_digest_103 : decode cX7_digest 103 = .ok (.iinc 3 1, 3) := by decide +kernel
theorem dX7_digest_106 : decode cX7_digest 106 = .ok (.goto (-63), 3) := by decide +kernel
theorem dX7_digest_109 : decode cX7_digest 109 = .ok (.iconst 0, 1) := by decide +kernel
theorem dX7_digest_110 : decode cX7_digest 110 = .ok (.istore_n 3, 1) := by decide +kernel
theorem dX7_digest_111 : decode cX7_digest 111 = .ok (.iload_n 3, 1) := by decide +kernel
theorem dX7_digest_112 : decode cX7_digest 112 = .ok (.aload_n 0, 1) := by decide +kernel
theorem dX7_digest_113 : decode cX7_digest 113 = .ok (.getfield 73, 3) := by decide +kernel
theorem dX7_digest_116 : decode cX7_digest 116 = .ok (.if_icmp .ge 39, 3) := by decide +kernel
theorem dX7_digest_119 : decode cX7_digest 119 = .ok (.iconst 0, 1) := by decide +kernel
theorem dX7_digest_120 : decode cX7_digest 120 = .ok (.istore 4, 2) := by decide +kernel
theorem dX7_digest_122 : decode cX7_digest 122 = .ok (.iload 4, 2) := by decide +kernel
theorem dX7_digest_124 : decode cX7_digest 124 = .ok (.iconst 5, 1) := by decide +kernel
theorem dX7_digest_125 : decode cX7_digest 125 = .ok (.if_icmp .ge 24, 3) := by decide +kernel
theorem dX7_digest_128 : decode cX7_digest 128 = .ok (.lload_n 1, 1) := by decide +kernel
theorem dX7_digest_129 : decode cX7_digest 129 = .ok (.ldc2_w 178, 3) := by decide +kernel
theorem dX7_digest_132 : decode cX7_digest 132 = .ok (.lmul, 1) := by decide +kernel
theorem dX7_digest_133 : decode cX7_digest 133 = .ok (.aload_n 0, 1) := by decide +kernel
theorem dX7_digest_134 : decode cX7_digest 134 = .ok (.iload_n 3, 1) := by decide +kernel
theorem dX7_digest_135 : decode cX7_digest 135 = .ok (.iload 4, 2) := by decide +kernel
theorem dX7_digest_137 : decode cX7_digest 137 = .ok (.invokevirtual 131, 3) := by decide +kernel
theorem dX7_digest_140 : decode cX7_digest 140 = .ok (.i2l, 1) := by decide +kernel
theorem dX7_digest_141 : decode cX7_digest 141 = .ok (.ladd, 1) := by decide +kernel
theorem dX7_digest_142 : decode cX7_digest 142 = .ok (.lstore_n 1, 1) := by decide +kernel
theorem dX7_digest_143 : decode cX7_digest 143 = .ok (.iinc 4 1, 3) := by decide +kernel
theorem dX7_digest_146 : decode cX7_digest 146 = .ok (.goto (-24), 3) := by decide +kernel
theorem dX7_digest_149 : decode cX7_digest 149 = .ok (.iinc 3 1, 3) := by decide +kernel
theorem dX7_digest_152 : decode cX7_digest 152 = .ok (.goto (-41), 3) := by decide +kernel
theorem dX7_digest_155 : decode cX7_digest 155 = .ok (.lload_n 1, 1) := by decide +kernel
theorem dX7_digest_156 : decode cX7_digest 156 = .ok (.ldc2_w 178, 3) := by decide +kernel
theorem dX7_digest_159 : decode cX7_digest 159 = .ok (.lmul, 1) := by decide +kernel
theorem dX7_digest_160 : decode cX7_digest 160 = .ok (.aload_n 0, 1) := by decide +kernel
theorem dX7_digest_161 : decode cX7_digest 161 = .ok (.getfield 154, 3) := by decide +kernel
theorem dX7_digest_164 : decode cX7_digest 164 = .ok (.ladd, 1) := by decide +kernel
theorem dX7_digest_165 : decode cX7_digest 165 = .ok (.lreturn, 1) := by decide +kernel
end
section
theorem dL_setOutside_0 : decode cL_setOutside 0 = .ok (.aload_n 3, 1) := by decide +kernel
theorem dL_setOutside_1 : decode cL_setOutside 1 = .ok (.iconst 0, 1) := by decide +kernel
theorem dL_setOutside_2 : decode cL_setOutside 2 = .ok (.aload_n 0, 1) := by decide +kernel
theorem dL_setOutside_3 : decode cL_setOutside 3 = .ok (.iload_n 1, 1) := by decide +kernel
theorem dL_setOutside_4 : decode cL_setOutside 4 = .ok (.iload_n 2, 1) := by decide +kernel
theorem dL_setOutside_5 : decode cL_setOutside 5 = .ok (.invokevirtual 7, 3) := by decide +kernel
theorem dL_setOutside_8 : decode cL_setOutside 8 = .ok (.i2l, 1) := by decide +kernel
theorem dL_setOutside_9 : decode cL_setOutside 9 = .ok (.lastore, 1) := by decide +kernel
theorem dL_setOutside_10 : decode cL_setOutside 10 = .ok (.goto 7, 3) := by decide +kernel
theorem dL_setOutside_13 : decode cL_setOutside 13 = .ok (.astore 4, 2) := by decide +kernel
theorem dL_setOutside_15 : decode cL_setOutside 15 = .ok (.iconst 1, 1) := by decide +kernel
theorem dL_setOutside_16 : decode cL_setOutside 16 = .ok (.ireturn, 1) := by decide +kernel
theorem dL_setOutside_17 : decode cL_setOutside 17 = .ok (.iconst 0, 1) := by decide +kernel
theorem dL_setOutside_18 : decode cL_setOutside 18 = .ok (.ireturn, 1) := by decide +kernel
theorem dL_outside_0 : decode cL_outside 0 = .ok (.aload_n 2, 1) := by decide +kernel
theorem dL_outside_1 : decode cL_outside 1 = .ok (.iconst 0, 1) := by decide +kernel
theorem dL_outside_2 : decode cL_outside 2 = .ok (.aload_n 0, 1) := by decide +kernel
theorem dL_outside_3 : decode cL_outside 3 = .ok (.iload_n 1, 1) := by decide +kernel
theorem dL_outside_4 : decode cL_outside 4 = .ok (.invokevirtual 15, 3) := by decide +kernel
theorem dL_outside_7 : decode cL_outside 7 = .ok (.i2l, 1) := by decide +kernel
theorem dL_outside_8 : decode cL_outside 8 = .ok (.lastore, 1) := by decide +kernel
theorem dL_outside_9 : decode cL_outside 9 = .ok (.goto 6, 3) := by decide +kernel
theorem dL_outside_12 : decode cL_outside 12 = .ok (.astore_n 3, 1) := by decide +kernel
theorem dL_outside_13 : decode cL_outside 13 = .ok (.iconst 1, 1) := by decide +kernel
theorem dL_outside_14 : decode cL_outside 14 = .ok (.ireturn, 1) := by decide +kernel
theorem dL_outside_15 : decode cL_outside 15 = .ok (.iconst 0, 1) := by decide +kernel
theorem dL_outside_16 : decode cL_outside 16 = .ok (.ireturn, 1) := by decide +kernel
theorem dL_setPrice_0 : decode cL_setPrice 0 = .ok (.aload 4, 2) := by decide +kernel
theorem dL_setPrice_2 : decode cL_setPrice 2 = .ok (.iconst 0, 1) := by decide +kernel
theorem dL_setPrice_3 : decode cL_setPrice 3 = .ok (.aload_n 0, 1) := by decide +kernel
theorem dL_setPrice_4 : decode cL_setPrice 4 = .ok (.iload_n 1, 1) := by decide +kernel
theorem dL_setPrice_5 : decode cL_setPrice 5 = .ok (.iload_n 2, 1) := by decide +kernel
theorem dL_setPrice_6 : decode cL_setPrice 6 = .ok (.iload_n 3, 1) := by decide +kernel
theorem dL_setPrice_7 : decode cL_setPrice 7 = .ok (.invokevirtual 19, 3) := by decide +kernel
theorem dL_setPrice_10 : decode cL_setPrice 10 = .ok (.i2l, 1) := by decide +kernel
theorem dL_setPrice_11 : decode cL_setPrice 11 = .ok (.lastore, 1) := by decide +kernel
theorem dL_setPrice_12 : decode cL_setPrice 12 = .ok (.goto 7, 3) := by decide +kernel
theorem dL_setPrice_15 : decode cL_setPrice 15 = .ok (.astore 5, 2) := by decide +kernel
theorem dL_setPrice_17 : decode cL_setPrice 17 = .ok (.iconst 1, 1) := by decide +kernel
theorem dL_setPrice_18 : decode cL_setPrice 18 = .ok (.ireturn, 1) := by decide +kernel
theorem dL_setPrice_19 : decode cL_setPrice 19 = .ok (.iconst 0, 1) := by decide +kernel
theorem dL_setPrice_20 : decode cL_setPrice 20 = .ok (.ireturn, 1) := by decide +kernel
theorem dL_addProduct_0 : decode cL_addProduct 0 = .ok (.aload 5, 2) := by decide +kernel
theorem dL_addProduct_2 : decode cL_addProduct 2 = .ok (.iconst 0, 1) := by decide +kernel
theorem dL_addProduct_3 : decode cL_addProduct 3 = .ok (.aload_n 0, 1) := by decide +kernel
theorem dL_addProduct_4 : decode cL_addProduct 4 = .ok (.iload_n 1, 1) := by decide +kernel
theorem dL_addProduct_5 : decode cL_addProduct 5 = .ok (.iload_n 2, 1) := by decide +kernel
theorem dL_addProduct_6 : decode cL_addProduct 6 = .ok (.iload_n 3, 1) := by decide +kernel
theorem dL_addProduct_7 : decode cL_addProduct 7 = .ok (.iload 4, 2) := by decide +kernel
theorem dL_addProduct_9 : decode cL_addProduct 9 = .ok (.invokevirtual 23, 3) := by decide +kernel
theorem dL_addProduct_12 : decode cL_addProduct 12 = .ok (.i2l, 1) := by decide +kernel
theorem dL_addProduct_13 : decode cL_addProduct 13 = .ok (.lastore, 1) := by decide +kernel
theorem dL_addProduct_14 : decode cL_addProduct 14 = .ok (.goto 11, 3) := by decide +kernel
theorem dL_addProduct_17 : decode cL_addProduct 17 = .ok (.astore 6, 2) := by decide +kernel
theorem dL_addProduct_19 : decode cL_addProduct 19 = .ok (.iconst 1, 1) := by decide +kernel
theorem dL_addProduct_20 : decode cL_addProduct 20 = .ok (.ireturn, 1) := by decide +kernel
theorem dL_addProduct_21 : decode cL_addProduct 21 = .ok (.astore 6, 2) := by decide +kernel
theorem dL_addProduct_23 : decode cL_addProduct 23 = .ok (.iconst 2, 1) := by decide +kernel
theorem dL_addProduct_24 : decode cL_addProduct 24 = .ok (.ireturn, 1) := by decide +kernel
theorem dL_addProduct_25 : decode cL_addProduct 25 = .ok (.iconst 0, 1) := by decide +kernel
theorem dL_addProduct_26 : decode cL_addProduct 26 = .ok (.ireturn, 1) := by decide +kernel
theorem dL_addRoom_0 : decode cL_addRoom 0 = .ok (.aload 5, 2) := by decide +kernel
theorem dL_addRoom_2 : decode cL_addRoom 2 = .ok (.iconst 0, 1) := by decide +kernel
theorem dL_addRoom_3 : decode cL_addRoom 3 = .ok (.aload_n 0, 1) := by decide +kernel
theorem dL_addRoom_4 : decode cL_addRoom 4 = .ok (.iload_n 1, 1) := by decide +kernel
theorem dL_addRoom_5 : decode cL_addRoom 5 = .ok (.iload_n 2, 1) := by decide +kernel
theorem dL_addRoom_6 : decode cL_addRoom 6 = .ok (.iload_n 3, 1) := by decide +kernel
theorem dL_addRoom_7 : decode cL_addRoom 7 = .ok (.iload 4, 2) := by decide +kernel
theorem dL_addRoom_9 : decode cL_addRoom 9 = .ok (.invokevirtual 29, 3) := by decide +kernel
theorem dL_addRoom_12 : decode cL_addRoom 12 = .ok (.i2l, 1) := by decide +kernel
theorem dL_addRoom_13 : decode cL_addRoom 13 = .ok (.lastore, 1) := by decide +kernel
theorem dL_addRoom_14 : decode cL_addRoom 14 = .ok (.goto 11, 3) := by decide +kernel
theorem dL_addRoom_17 : decode cL_addRoom 17 = .ok (.astore 6, 2) := by decide +kernel
theorem dL_addRoom_19 : decode cL_addRoom 19 = .ok (.iconst 1, 1) := by decide +kernel
theorem dL_addRoom_20 : decode cL_addRoom 20 = .ok (.ireturn, 1) := by decide +kernel
theorem dL_addRoom_21 : decode cL_addRoom 21 = .ok (.astore 6, 2) := by decide +kernel
theorem dL_addRoom_23 : decode cL_addRoom 23 = .ok (.iconst 2, 1) := by decide +kernel
theorem dL_addRoom_24 : decode cL_addRoom 24 = .ok (.ireturn, 1) := by decide +kernel
theorem dL_addRoom_25 : decode cL_addRoom 25 = .ok (.iconst 0, 1) := by decide +kernel
theorem dL_addRoom_26 : decode cL_addRoom 26 = .ok (.ireturn, 1) := by decide +kernel
theorem dL_setRoom_0 : decode cL_setRoom 0 = .ok (.aload 4, 2) := by decide +kernel
theorem dL_setRoom_2 : decode cL_setRoom 2 = .ok (.iconst 0, 1) := by decide +kernel
theorem dL_setRoom_3 : decode cL_setRoom 3 = .ok (.aload_n 0, 1) := by decide +kernel
theorem dL_setRoom_4 : decode cL_setRoom 4 = .ok (.iload_n 1, 1) := by decide +kernel
theorem dL_setRoom_5 : decode cL_setRoom 5 = .ok (.iload_n 2, 1) := by decide +kernel
theorem dL_setRoom_6 : decode cL_setRoom 6 = .ok (.iload_n 3, 1) := by decide +kernel
theorem dL_setRoom_7 : decode cL_setRoom 7 = .ok (.invokevirtual 32, 3) := by decide +kernel
theorem dL_setRoom_10 : decode cL_setRoom 10 = .ok (.i2l, 1) := by decide +kernel
theorem dL_setRoom_11 : decode cL_setRoom 11 = .ok (.lastore, 1) := by decide +kernel
theorem dL_setRoom_12 : decode cL_setRoom 12 = .ok (.goto 11, 3) := by decide +kernel
theorem dL_setRoom_15 : decode cL_setRoom 15 = .ok (.astore 5, 2) := by decide +kernel
theorem dL_setRoom_17 : decode cL_setRoom 17 = .ok (.iconst 1, 1) := by decide +kernel
theorem dL_setRoom_18 : decode cL_setRoom 18 = .ok (.ireturn, 1) := by decide +kernel
theorem dL_setRoom_19 : decode cL_setRoom 19 = .ok (.astore 5, 2) := by decide +kernel
theorem dL_setRoom_21 : decode cL_setRoom 21 = .ok (.iconst 2, 1) := by decide +kernel
theorem dL_setRoom_22 : decode cL_setRoom 22 = .ok (.ireturn, 1) := by decide +kernel
theorem dL_setRoom_23 : decode cL_setRoom 23 = .ok (.iconst 0, 1) := by decide +kernel
theorem dL_setRoom_24 : decode cL_setRoom 24 = .ok (.ireturn, 1) := by decide +kernel
theorem dL_defrost_0 : decode cL_defrost 0 = .ok (.aload_n 2, 1) := by decide +kernel
theorem dL_defrost_1 : decode cL_defrost 1 = .ok (.iconst 0, 1) := by decide +kernel
theorem dL_defrost_2 : decode cL_defrost 2 = .ok (.aload_n 0, 1) := by decide +kernel
theorem dL_defrost_3 : decode cL_defrost 3 = .ok (.iload_n 1, 1) := by decide +kernel
theorem dL_defrost_4 : decode cL_defrost 4 = .ok (.invokevirtual 38, 3) := by decide +kernel
theorem dL_defrost_7 : decode cL_defrost 7 = .ok (.i2l, 1) := by decide +kernel
theorem dL_defrost_8 : decode cL_defrost 8 = .ok (.lastore, 1) := by decide +kernel
theorem dL_defrost_9 : decode cL_defrost 9 = .ok (.goto 9, 3) := by decide +kernel
theorem dL_defrost_12 : decode cL_defrost 12 = .ok (.astore_n 3, 1) := by decide +kernel
theorem dL_defrost_13 : decode cL_defrost 13 = .ok (.iconst 1, 1) := by decide +kernel
theorem dL_defrost_14 : decode cL_defrost 14 = .ok (.ireturn, 1) := by decide +kernel
theorem dL_defrost_15 : decode cL_defrost 15 = .ok (.astore_n 3, 1) := by decide +kernel
theorem dL_defrost_16 : decode cL_defrost 16 = .ok (.iconst 2, 1) := by decide +kernel
theorem dL_defrost_17 : decode cL_defrost 17 = .ok (.ireturn, 1) := by decide +kernel
theorem dL_defrost_18 : decode cL_defrost 18 = .ok (.iconst 0, 1) := by decide +kernel
theorem dL_defrost_19 : decode cL_defrost 19 = .ok (.ireturn, 1) := by decide +kernel
theorem dL_room_0 : decode cL_room 0 = .ok (.aload_n 3, 1) := by decide +kernel
theorem dL_room_1 : decode cL_room 1 = .ok (.iconst 0, 1) := by decide +kernel
theorem dL_room_2 : decode cL_room 2 = .ok (.aload_n 0, 1) := by decide +kernel
theorem dL_room_3 : decode cL_room 3 = .ok (.iload_n 1, 1) := by decide +kernel
theorem dL_room_4 : decode cL_room 4 = .ok (.iload_n 2, 1) := by decide +kernel
theorem dL_room_5 : decode cL_room 5 = .ok (.invokevirtual 41, 3) := by decide +kernel
theorem dL_room_8 : decode cL_room 8 = .ok (.i2l, 1) := by decide +kernel
theorem dL_room_9 : decode cL_room 9 = .ok (.lastore, 1) := by decide +kernel
theorem dL_room_10 : decode cL_room 10 = .ok (.goto 7, 3) := by decide +kernel
theorem dL_room_13 : decode cL_room 13 = .ok (.astore 4, 2) := by decide +kernel
theorem dL_room_15 : decode cL_room 15 = .ok (.iconst 1, 1) := by decide +kernel
theorem dL_room_16 : decode cL_room 16 = .ok (.ireturn, 1) := by decide +kernel
theorem dL_room_17 : decode cL_room 17 = .ok (.iconst 0, 1) := by decide +kernel
theorem dL_room_18 : decode cL_room 18 = .ok (.ireturn, 1) := by decide +kernel
theorem dL_reason_0 : decode cL_reason 0 = .ok (.aload_n 3, 1) := by decide +kernel
theorem dL_reason_1 : decode cL_reason 1 = .ok (.iconst 0, 1) := by decide +kernel
theorem dL_reason_2 : decode cL_reason 2 = .ok (.aload_n 0, 1) := by decide +kernel
theorem dL_reason_3 : decode cL_reason 3 = .ok (.iload_n 1, 1) := by decide +kernel
theorem dL_reason_4 : decode cL_reason 4 = .ok (.iload_n 2, 1) := by decide +kernel
theorem dL_reason_5 : decode cL_reason 5 = .ok (.invokevirtual 44, 3) := by decide +kernel
theorem dL_reason_8 : decode cL_reason 8 = .ok (.i2l, 1) := by decide +kernel
theorem dL_reason_9 : decode cL_reason 9 = .ok (.lastore, 1) := by decide +kernel
theorem dL_reason_10 : decode cL_reason 10 = .ok (.goto 7, 3) := by decide +kernel
theorem dL_reason_13 : decode cL_reason 13 = .ok (.astore 4, 2) := by decide +kernel
theorem dL_reason_15 : decode cL_reason 15 = .ok (.iconst 1, 1) := by decide +kernel
theorem dL_reason_16 : decode cL_reason 16 = .ok (.ireturn, 1) := by decide +kernel
theorem dL_reason_17 : decode cL_reason 17 = .ok (.iconst 0, 1) := by decide +kernel
theorem dL_reason_18 : decode cL_reason 18 = .ok (.ireturn, 1) := by decide +kernel
theorem dL_arrive_0 : decode cL_arrive 0 = .ok (.aload 4, 2) := by decide +kernel
theorem dL_arrive_2 : decode cL_arrive 2 = .ok (.iconst 0, 1) := by decide +kernel
theorem dL_arrive_3 : decode cL_arrive 3 = .ok (.aload_n 0, 1) := by decide +kernel
theorem dL_arrive_4 : decode cL_arrive 4 = .ok (.iload_n 1, 1) := by decide +kernel
theorem dL_arrive_5 : decode cL_arrive 5 = .ok (.iload_n 2, 1) := by decide +kernel
theorem dL_arrive_6 : decode cL_arrive 6 = .ok (.iload_n 3, 1) := by decide +kernel
theorem dL_arrive_7 : decode cL_arrive 7 = .ok (.invokevirtual 47, 3) := by decide +kernel
theorem dL_arrive_10 : decode cL_arrive 10 = .ok (.i2l, 1) := by decide +kernel
theorem dL_arrive_11 : decode cL_arrive 11 = .ok (.lastore, 1) := by decide +kernel
theorem dL_arrive_12 : decode cL_arrive 12 = .ok (.goto 15, 3) := by decide +kernel
theorem dL_arrive_15 : decode cL_arrive 15 = .ok (.astore 5, 2) := by decide +kernel
theorem dL_arrive_17 : decode cL_arrive 17 = .ok (.iconst 1, 1) := by decide +kernel
theorem dL_arrive_18 : decode cL_arrive 18 = .ok (.ireturn, 1) := by decide +kernel
theorem dL_arrive_19 : decode cL_arrive 19 = .ok (.astore 5, 2) := by decide +kernel
theorem dL_arrive_21 : decode cL_arrive 21 = .ok (.iconst 2, 1) := by decide +kernel
theorem dL_arrive_22 : decode cL_arrive 22 = .ok (.ireturn, 1) := by decide +kernel
theorem dL_arrive_23 : decode cL_arrive 23 = .ok (.astore 5, 2) := by decide +kernel
theorem dL_arrive_25 : decode cL_arrive 25 = .ok (.iconst 3, 1) := by decide +kernel
theorem dL_arrive_26 : decode cL_arrive 26 = .ok (.ireturn, 1) := by decide +kernel
theorem dL_arrive_27 : decode cL_arrive 27 = .ok (.iconst 0, 1) := by decide +kernel
theorem dL_arrive_28 : decode cL_arrive 28 = .ok (.ireturn, 1) := by decide +kernel
theorem dL_move_0 : decode cL_move 0 = .ok (.aload_n 3, 1) := by decide +kernel
theorem dL_move_1 : decode cL_move 1 = .ok (.iconst 0, 1) := by decide +kernel
theorem dL_move_2 : decode cL_move 2 = .ok (.aload_n 0, 1) := by decide +kernel
theorem dL_move_3 : decode cL_move 3 = .ok (.iload_n 1, 1) := by decide +kernel
theorem dL_move_4 : decode cL_move 4 = .ok (.iload_n 2, 1) := by decide +kernel
theorem dL_move_5 : decode cL_move 5 = .ok (.invokevirtual 50, 3) := by decide +kernel
theorem dL_move_8 : decode cL_move 8 = .ok (.i2l, 1) := by decide +kernel
theorem dL_move_9 : decode cL_move 9 = .ok (.lastore, 1) := by decide +kernel
theorem dL_move_10 : decode cL_move 10 = .ok (.goto 11, 3) := by decide +kernel
theorem dL_move_13 : decode cL_move 13 = .ok (.astore 4, 2) := by decide +kernel
theorem dL_move_15 : decode cL_move 15 = .ok (.iconst 1, 1) := by decide +kernel
theorem dL_move_16 : decode cL_move 16 = .ok (.ireturn, 1) := by decide +kernel
theorem dL_move_17 : decode cL_move 17 = .ok (.astore 4, 2) := by decide +kernel
theorem dL_move_19 : decode cL_move 19 = .ok (.iconst 2, 1) := by decide +kernel
theorem dL_move_20 : decode cL_move 20 = .ok (.ireturn, 1) := by decide +kernel
theorem dL_move_21 : decode cL_move 21 = .ok (.iconst 0, 1) := by decide +kernel
theorem dL_move_22 : decode cL_move 22 = .ok (.ireturn, 1) := by decide +kernel
theorem dL_pallet_0 : decode cL_pallet 0 = .ok (.aload_n 3, 1) := by decide +kernel
theorem dL_pallet_1 : decode cL_pallet 1 = .ok (.iconst 0, 1) := by decide +kernel
theorem dL_pallet_2 : decode cL_pallet 2 = .ok (.aload_n 0, 1) := by decide +kernel
theorem dL_pallet_3 : decode cL_pallet 3 = .ok (.iload_n 1, 1) := by decide +kernel
theorem dL_pallet_4 : decode cL_pallet 4 = .ok (.iload_n 2, 1) := by decide +kernel
theorem dL_pallet_5 : decode cL_pallet 5 = .ok (.invokevirtual 53, 3) := by decide +kernel
theorem dL_pallet_8 : decode cL_pallet 8 = .ok (.i2l, 1) := by decide +kernel
theorem dL_pallet_9 : decode cL_pallet 9 = .ok (.lastore, 1) := by decide +kernel
theorem dL_pallet_10 : decode cL_pallet 10 = .ok (.goto 7, 3) := by decide +kernel
theorem dL_pallet_13 : decode cL_pallet 13 = .ok (.astore 4, 2) := by decide +kernel
theorem dL_pallet_15 : decode cL_pallet 15 = .ok (.iconst 1, 1) := by decide +kernel
theorem dL_pallet_16 : decode cL_pallet 16 = .ok (.ireturn, 1) := by decide +kernel
theorem dL_pallet_17 : decode cL_pallet 17 = .ok (.iconst 0, 1) := by decide +kernel
theorem dL_pallet_18 : decode cL_pallet 18 = .ok (.ireturn, 1) := by decide +kernel
theorem dL_bestRoom_0 : decode cL_bestRoom 0 = .ok (.aload_n 2, 1) := by decide +kernel
theorem dL_bestRoom_1 : decode cL_bestRoom 1 = .ok (.iconst 0, 1) := by decide +kernel
theorem dL_bestRoom_2 : decode cL_bestRoom 2 = .ok (.aload_n 0, 1) := by decide +kernel
theorem dL_bestRoom_3 : decode cL_bestRoom 3 = .ok (.iload_n 1, 1) := by decide +kernel
theorem dL_bestRoom_4 : decode cL_bestRoom 4 = .ok (.invokevirtual 56, 3) := by decide +kernel
theorem dL_bestRoom_7 : decode cL_bestRoom 7 = .ok (.i2l, 1) := by decide +kernel
theorem dL_bestRoom_8 : decode cL_bestRoom 8 = .ok (.lastore, 1) := by decide +kernel
theorem dL_bestRoom_9 : decode cL_bestRoom 9 = .ok (.goto 6, 3) := by decide +kernel
theorem dL_bestRoom_12 : decode cL_bestRoom 12 = .ok (.astore_n 3, 1) := by decide +kernel
theorem dL_bestRoom_13 : decode cL_bestRoom 13 = .ok (.iconst 1, 1) := by decide +kernel
theorem dL_bestRoom_14 : decode cL_bestRoom 14 = .ok (.ireturn, 1) := by decide +kernel
theorem dL_bestRoom_15 : decode cL_bestRoom 15 = .ok (.iconst 0, 1) := by decide +kernel
theorem dL_bestRoom_16 : decode cL_bestRoom 16 = .ok (.ireturn, 1) := by decide +kernel
theorem dL_ship_0 : decode cL_ship 0 = .ok (.aload 4, 2) := by decide +kernel
theorem dL_ship_2 : decode cL_ship 2 = .ok (.iconst 0, 1) := by decide +kernel
theorem dL_ship_3 : decode cL_ship 3 = .ok (.aload_n 0, 1) := by decide +kernel
theorem dL_ship_4 : decode cL_ship 4 = .ok (.iload_n 1, 1) := by decide +kernel
theorem dL_ship_5 : decode cL_ship 5 = .ok (.iload_n 2, 1) := by decide +kernel
theorem dL_ship_6 : decode cL_ship 6 = .ok (.iload_n 3, 1) := by decide +kernel
theorem dL_ship_7 : decode cL_ship 7 = .ok (.invokevirtual 59, 3) := by decide +kernel
theorem dL_ship_10 : decode cL_ship 10 = .ok (.i2l, 1) := by decide +kernel
theorem dL_ship_11 : decode cL_ship 11 = .ok (.lastore, 1) := by decide +kernel
theorem dL_ship_12 : decode cL_ship 12 = .ok (.goto 11, 3) := by decide +kernel
theorem dL_ship_15 : decode cL_ship 15 = .ok (.astore 5, 2) := by decide +kernel
theorem dL_ship_17 : decode cL_ship 17 = .ok (.iconst 1, 1) := by decide +kernel
theorem dL_ship_18 : decode cL_ship 18 = .ok (.ireturn, 1) := by decide +kernel
theorem dL_ship_19 : decode cL_ship 19 = .ok (.astore 5, 2) := by decide +kernel
theorem dL_ship_21 : decode cL_ship 21 = .ok (.iconst 2, 1) := by decide +kernel
theorem dL_ship_22 : decode cL_ship 22 = .ok (.ireturn, 1) := by decide +kernel
theorem dL_ship_23 : decode cL_ship 23 = .ok (.iconst 0, 1) := by decide +kernel
theorem dL_ship_24 : decode cL_ship 24 = .ok (.ireturn, 1) := by decide +kernel
theorem dL_stock_0 : decode cL_stock 0 = .ok (.aload_n 3, 1) := by decide +kernel
theorem dL_stock_1 : decode cL_stock 1 = .ok (.iconst 0, 1) := by decide +kernel
theorem dL_stock_2 : decode cL_stock 2 = .ok (.aload_n 0, 1) := by decide +kernel
theorem dL_stock_3 : decode cL_stock 3 = .ok (.iload_n 1, 1) := by decide +kernel
theorem dL_stock_4 : decode cL_stock 4 = .ok (.iload_n 2, 1) := by decide +kernel
theorem dL_stock_5 : decode cL_stock 5 = .ok (.invokevirtual 62, 3) := by decide +kernel
theorem dL_stock_8 : decode cL_stock 8 = .ok (.i2l, 1) := by decide +kernel
theorem dL_stock_9 : decode cL_stock 9 = .ok (.lastore, 1) := by decide +kernel
theorem dL_stock_10 : decode cL_stock 10 = .ok (.goto 7, 3) := by decide +kernel
theorem dL_stock_13 : decode cL_stock 13 = .ok (.astore 4, 2) := by decide +kernel
theorem dL_stock_15 : decode cL_stock 15 = .ok (.iconst 1, 1) := by decide +kernel
theorem dL_stock_16 : decode cL_stock 16 = .ok (.ireturn, 1) := by decide +kernel
theorem dL_stock_17 : decode cL_stock 17 = .ok (.iconst 0, 1) := by decide +kernel
theorem dL_stock_18 : decode cL_stock 18 = .ok (.ireturn, 1) := by decide +kernel
theorem dL_count_0 : decode cL_count 0 = .ok (.aload_n 2, 1) := by decide +kernel
theorem dL_count_1 : decode cL_count 1 = .ok (.iconst 0, 1) := by decide +kernel
theorem dL_count_2 : decode cL_count 2 = .ok (.aload_n 0, 1) := by decide +kernel
theorem dL_count_3 : decode cL_count 3 = .ok (.iload_n 1, 1) := by decide +kernel
theorem dL_count_4 : decode cL_count 4 = .ok (.invokevirtual 66, 3) := by decide +kernel
theorem dL_count_7 : decode cL_count 7 = .ok (.i2l, 1) := by decide +kernel
theorem dL_count_8 : decode cL_count 8 = .ok (.lastore, 1) := by decide +kernel
theorem dL_count_9 : decode cL_count 9 = .ok (.goto 6, 3) := by decide +kernel
theorem dL_count_12 : decode cL_count 12 = .ok (.astore_n 3, 1) := by decide +kernel
theorem dL_count_13 : decode cL_count 13 = .ok (.iconst 1, 1) := by decide +kernel
theorem dL_count_14 : decode cL_count 14 = .ok (.ireturn, 1) := by decide +kernel
theorem dL_count_15 : decode cL_count 15 = .ok (.iconst 0, 1) := by decide +kernel
theorem dL_count_16 : decode cL_count 16 = .ok (.ireturn, 1) := by decide +kernel
theorem dL_tick_0 : decode cL_tick 0 = .ok (.aload_n 2, 1) := by decide +kernel
theorem dL_tick_1 : decode cL_tick 1 = .ok (.iconst 0, 1) := by decide +kernel
theorem dL_tick_2 : decode cL_tick 2 = .ok (.aload_n 0, 1) := by decide +kernel
theorem dL_tick_3 : decode cL_tick 3 = .ok (.iload_n 1, 1) := by decide +kernel
theorem dL_tick_4 : decode cL_tick 4 = .ok (.invokevirtual 69, 3) := by decide +kernel
theorem dL_tick_7 : decode cL_tick 7 = .ok (.i2l, 1) := by decide +kernel
theorem dL_tick_8 : decode cL_tick 8 = .ok (.lastore, 1) := by decide +kernel
theorem dL_tick_9 : decode cL_tick 9 = .ok (.goto 6, 3) := by decide +kernel
theorem dL_tick_12 : decode cL_tick 12 = .ok (.astore_n 3, 1) := by decide +kernel
theorem dL_tick_13 : decode cL_tick 13 = .ok (.iconst 1, 1) := by decide +kernel
theorem dL_tick_14 : decode cL_tick 14 = .ok (.ireturn, 1) := by decide +kernel
theorem dL_tick_15 : decode cL_tick 15 = .ok (.iconst 0, 1) := by decide +kernel
theorem dL_tick_16 : decode cL_tick 16 = .ok (.ireturn, 1) := by decide +kernel
theorem dL_foretell_0 : decode cL_foretell 0 = .ok (.aload_n 3, 1) := by decide +kernel
theorem dL_foretell_1 : decode cL_foretell 1 = .ok (.iconst 0, 1) := by decide +kernel
theorem dL_foretell_2 : decode cL_foretell 2 = .ok (.aload_n 0, 1) := by decide +kernel
theorem dL_foretell_3 : decode cL_foretell 3 = .ok (.iload_n 1, 1) := by decide +kernel
theorem dL_foretell_4 : decode cL_foretell 4 = .ok (.iload_n 2, 1) := by decide +kernel
theorem dL_foretell_5 : decode cL_foretell 5 = .ok (.invokevirtual 72, 3) := by decide +kernel
theorem dL_foretell_8 : decode cL_foretell 8 = .ok (.i2l, 1) := by decide +kernel
theorem dL_foretell_9 : decode cL_foretell 9 = .ok (.lastore, 1) := by decide +kernel
theorem dL_foretell_10 : decode cL_foretell 10 = .ok (.goto 11, 3) := by decide +kernel
theorem dL_foretell_13 : decode cL_foretell 13 = .ok (.astore 4, 2) := by decide +kernel
theorem dL_foretell_15 : decode cL_foretell 15 = .ok (.iconst 1, 1) := by decide +kernel
theorem dL_foretell_16 : decode cL_foretell 16 = .ok (.ireturn, 1) := by decide +kernel
theorem dL_foretell_17 : decode cL_foretell 17 = .ok (.astore 4, 2) := by decide +kernel
theorem dL_foretell_19 : decode cL_foretell 19 = .ok (.iconst 2, 1) := by decide +kernel
theorem dL_foretell_20 : decode cL_foretell 20 = .ok (.ireturn, 1) := by decide +kernel
theorem dL_foretell_21 : decode cL_foretell 21 = .ok (.iconst 0, 1) := by decide +kernel
theorem dL_foretell_22 : decode cL_foretell 22 = .ok (.ireturn, 1) := by decide +kernel
theorem dL_lasts_0 : decode cL_lasts 0 = .ok (.aload_n 2, 1) := by decide +kernel
theorem dL_lasts_1 : decode cL_lasts 1 = .ok (.iconst 0, 1) := by decide +kernel
theorem dL_lasts_2 : decode cL_lasts 2 = .ok (.aload_n 0, 1) := by decide +kernel
theorem dL_lasts_3 : decode cL_lasts 3 = .ok (.iload_n 1, 1) := by decide +kernel
theorem dL_lasts_4 : decode cL_lasts 4 = .ok (.invokevirtual 75, 3) := by decide +kernel
theorem dL_lasts_7 : decode cL_lasts 7 = .ok (.i2l, 1) := by decide +kernel
theorem dL_lasts_8 : decode cL_lasts 8 = .ok (.lastore, 1) := by decide +kernel
theorem dL_lasts_9 : decode cL_lasts 9 = .ok (.goto 9, 3) := by decide +kernel
theorem dL_lasts_12 : decode cL_lasts 12 = .ok (.astore_n 3, 1) := by decide +kernel
theorem dL_lasts_13 : decode cL_lasts 13 = .ok (.iconst 1, 1) := by decide +kernel
theorem dL_lasts_14 : decode cL_lasts 14 = .ok (.ireturn, 1) := by decide +kernel
theorem dL_lasts_15 : decode cL_lasts 15 = .ok (.astore_n 3, 1) := by decide +kernel
theorem dL_lasts_16 : decode cL_lasts 16 = .ok (.iconst 2, 1) := by decide +kernel
theorem dL_lasts_17 : decode cL_lasts 17 = .ok (.ireturn, 1) := by decide +kernel
theorem dL_lasts_18 : decode cL_lasts 18 = .ok (.iconst 0, 1) := by decide +kernel
theorem dL_lasts_19 : decode cL_lasts 19 = .ok (.ireturn, 1) := by decide +kernel
theorem dL_freshness_0 : decode cL_freshness 0 = .ok (.aload_n 2, 1) := by decide +kernel
theorem dL_freshness_1 : decode cL_freshness 1 = .ok (.iconst 0, 1) := by decide +kernel
theorem dL_freshness_2 : decode cL_freshness 2 = .ok (.aload_n 0, 1) := by decide +kernel
theorem dL_freshness_3 : decode cL_freshness 3 = .ok (.iload_n 1, 1) := by decide +kernel
theorem dL_freshness_4 : decode cL_freshness 4 = .ok (.invokevirtual 78, 3) := by decide +kernel
theorem dL_freshness_7 : decode cL_freshness 7 = .ok (.dastore, 1) := by decide +kernel
theorem dL_freshness_8 : decode cL_freshness 8 = .ok (.goto 6, 3) := by decide +kernel
theorem dL_freshness_11 : decode cL_freshness 11 = .ok (.astore_n 3, 1) := by decide +kernel
theorem dL_freshness_12 : decode cL_freshness 12 = .ok (.iconst 1, 1) := by decide +kernel
theorem dL_freshness_13 : decode cL_freshness 13 = .ok (.ireturn, 1) := by decide +kernel
theorem dL_freshness_14 : decode cL_freshness 14 = .ok (.iconst 0, 1) := by decide +kernel
theorem dL_freshness_15 : decode cL_freshness 15 = .ok (.ireturn, 1) := by decide +kernel
theorem dL_law_0 : decode cL_law 0 = .ok (.new 8, 3) := by decide +kernel
theorem dL_law_3 : decode cL_law 3 = .ok (.dup, 1) := by decide +kernel
theorem dL_law_4 : decode cL_law 4 = .ok (.invokespecial 82, 3) := by decide +kernel
theorem dL_law_7 : decode cL_law 7 = .ok (.astore_n 1, 1) := by decide +kernel
theorem dL_law_8 : decode cL_law 8 = .ok (.new 83, 3) := by decide +kernel
theorem dL_law_11 : decode cL_law 11 = .ok (.dup, 1) := by decide +kernel
theorem dL_law_12 : decode cL_law 12 = .ok (.invokespecial 85, 3) := by decide +kernel
theorem dL_law_15 : decode cL_law 15 = .ok (.astore_n 2, 1) := by decide +kernel
theorem dL_law_16 : decode cL_law 16 = .ok (.iconst 1, 1) := by decide +kernel
theorem dL_law_17 : decode cL_law 17 = .ok (.newarray .long, 2) := by decide +kernel
theorem dL_law_19 : decode cL_law 19 = .ok (.astore_n 3, 1) := by decide +kernel
theorem dL_law_20 : decode cL_law 20 = .ok (.iconst 1, 1) := by decide +kernel
theorem dL_law_21 : decode cL_law 21 = .ok (.newarray .double, 2) := by decide +kernel
theorem dL_law_23 : decode cL_law 23 = .ok (.astore 4, 2) := by decide +kernel
theorem dL_law_25 : decode cL_law 25 = .ok (.iconst 0, 1) := by decide +kernel
theorem dL_law_26 : decode cL_law 26 = .ok (.istore 5, 2) := by decide +kernel
theorem dL_law_28 : decode cL_law 28 = .ok (.iload 5, 2) := by decide +kernel
theorem dL_law_30 : decode cL_law 30 = .ok (.aload_n 0, 1) := by decide +kernel
theorem dL_law_31 : decode cL_law 31 = .ok (.arraylength, 1) := by decide +kernel
theorem dL_law_32 : decode cL_law 32 = .ok (.iconst 5, 1) := by decide +kernel
theorem dL_law_33 : decode cL_law 33 = .ok (.isub, 1) := by decide +kernel
theorem dL_law_34 : decode cL_law 34 = .ok (.if_icmp .gt 1607, 3) := by decide +kernel
theorem dL_law_37 : decode cL_law 37 = .ok (.aload_n 0, 1) := by decide +kernel
theorem dL_law_38 : decode cL_law 38 = .ok (.iload 5, 2) := by decide +kernel
theorem dL_law_40 : decode cL_law 40 = .ok (.iaload, 1) := by decide +kernel
theorem dL_law_41 : decode cL_law 41 = .ok (.bipush 31, 2) := by decide +kernel
theorem dL_law_43 : decode cL_law 43 = .ok (.iand, 1) := by decide +kernel
theorem dL_law_44 : decode cL_law 44 = .ok (.tableswitch 1591 0 23 #[112, 180, 236, 316, 408, 500, 596, 652, 720, 788, 868, 936, 1004, 1060, 1140, 1153, 1237, 1293, 1349, 1417, 1473, 1486, 1500, 1577], 112) := by decide +kernel
theorem dL_law_156 : decode cL_law 156 = .ok (.aload_n 1, 1) := by decide +kernel
theorem dL_law_157 : decode cL_law 157 = .ok (.aload_n 0, 1) := by decide +kernel
theorem dL_law_158 : decode cL_law 158 = .ok (.iload 5, 2) := by decide +kernel
theorem dL_law_160 : decode cL_law 160 = .ok (.iconst 1, 1) := by decide +kernel
theorem dL_law_161 : decode cL_law 161 = .ok (.iadd, 1) := by decide +kernel
theorem dL_law_162 : decode cL_law 162 = .ok (.iaload, 1) := by decide +kernel
theorem dL_law_163 : decode cL_law 163 = .ok (.aload_n 0, 1) := by decide +kernel
theorem dL_law_164 : decode cL_law 164 = .ok (.iload 5, 2) := by decide +kernel
theorem dL_law_166 : decode cL_law 166 = .ok (.iconst 2, 1) := by decide +kernel
theorem dL_law_167 : decode cL_law 167 = .ok (.iadd, 1) := by decide +kernel
theorem dL_law_168 : decode cL_law 168 = .ok (.iaload, 1) := by decide +kernel
theorem dL_law_169 : decode cL_law 169 = .ok (.aload_n 3, 1) := by decide +kernel
theorem dL_law_170 : decode cL_law 170 = .ok (.invokestatic 86, 3) := by decide +kernel
theorem dL_law_173 : decode cL_law 173 = .ok (.istore 6, 2) := by decide +kernel
theorem dL_law_175 : decode cL_law 175 = .ok (.aload_n 2, 1) := by decide +kernel
theorem dL_law_176 : decode cL_law 176 = .ok (.aload_n 0, 1) := by decide +kernel
theorem dL_law_177 : decode cL_law 177 = .ok (.iload 5, 2) := by decide +kernel
theorem dL_law_179 : decode cL_law 179 = .ok (.iconst 1, 1) := by decide +kernel
theorem dL_law_180 : decode cL_law 180 = .ok (.iadd, 1) := by decide +kernel
theorem dL_law_181 : decode cL_law 181 = .ok (.iaload, 1) := by decide +kernel
theorem dL_law_182 : decode cL_law 182 = .ok (.aload_n 0, 1) := by decide +kernel
theorem dL_law_183 : decode cL_law 183 = .ok (.iload 5, 2) := by decide +kernel
theorem dL_law_185 : decode cL_law 185 = .ok (.iconst 2, 1) := by decide +kernel
theorem dL_law_186 : decode cL_law 186 = .ok (.iadd, 1) := by decide +kernel
theorem dL_law_187 : decode cL_law 187 = .ok (.iaload, 1) := by decide +kernel
theorem dL_law_188 : decode cL_law 188 = .ok (.invokevirtual 91, 3) := by decide +kernel
theorem dL_law_191 : decode cL_law 191 = .ok (.istore 7, 2) := by decide +kernel
theorem dL_law_193 : decode cL_law 193 = .ok (.aload_n 2, 1) := by decide +kernel
theorem dL_law_194 : decode cL_law 194 = .ok (.invokevirtual 92, 3) := by decide +kernel
theorem dL_law_197 : decode cL_law 197 = .ok (.iload 6, 2) := by decide +kernel
theorem dL_law_199 : decode cL_law 199 = .ok (.if_icmp .eq 5, 3) := by decide +kernel
theorem dL_law_202 : decode cL_law 202 = .ok (.iconst 0, 1) := by decide +kernel
theorem dL_law_203 : decode cL_law 203 = .ok (.ireturn, 1) := by decide +kernel
theorem dL_law_204 : decode cL_law 204 = .ok (.iload 6, 2) := by decide +kernel
theorem dL_law_206 : decode cL_law 206 = .ok (.ifCond .ne 15, 3) := by decide +kernel
theorem dL_law_209 : decode cL_law 209 = .ok (.aload_n 3, 1) := by decide +kernel
theorem dL_law_210 : decode cL_law 210 = .ok (.iconst 0, 1) := by decide +kernel
theorem dL_law_211 : decode cL_law 211 = .ok (.laload, 1) := by decide +kernel
theorem dL_law_212 : decode cL_law 212 = .ok (.iload 7, 2) := by decide +kernel
theorem dL_law_214 : decode cL_law 214 = .ok (.i2l, 1) := by decide +kernel
theorem dL_law_215 : decode cL_law 215 = .ok (.lcmp, 1) := by decide +kernel
theorem dL_law_216 : decode cL_law 216 = .ok (.ifCond .eq 5, 3) := by decide +kernel
theorem dL_law_219 : decode cL_law 219 = .ok (.iconst 0, 1) := by decide +kernel
theorem dL_law_220 : decode cL_law 220 = .ok (.ireturn, 1) := by decide +kernel
theorem dL_law_221 : decode cL_law 221 = .ok (.goto 1414, 3) := by decide +kernel
theorem dL_law_224 : decode cL_law 224 = .ok (.aload_n 1, 1) := by decide +kernel
theorem dL_law_225 : decode cL_law 225 = .ok (.aload_n 0, 1) := by decide +kernel
theorem dL_law_226 : decode cL_law 226 = .ok (.iload 5, 2) := by decide +kernel
theorem dL_law_228 : decode cL_law 228 = .ok (.iconst 1, 1) := by decide +kernel
theorem dL_law_229 : decode cL_law 229 = .ok (.iadd, 1) := by decide +kernel
theorem dL_law_230 : decode cL_law 230 = .ok (.iaload, 1) := by decide +kernel
theorem dL_law_231 : decode cL_law 231 = .ok (.aload_n 3, 1) := by decide +kernel
theorem dL_law_232 : decode cL_law 232 = .ok (.invokestatic 96, 3) := by decide +kernel
theorem dL_law_235 : decode cL_law 235 = .ok (.istore 6, 2) := by decide +kernel
theorem dL_law_237 : decode cL_law 237 = .ok (.aload_n 2, 1) := by decide +kernel
theorem dL_law_238 : decode cL_law 238 = .ok (.aload_n 0, 1) := by decide +kernel
theorem dL_law_239 : decode cL_law 239 = .ok (.iload 5, 2) := by decide +kernel
theorem dL_law_241 : decode cL_law 241 = .ok (.iconst 1, 1) := by decide +kernel
theorem dL_law_242 : decode cL_law 242 = .ok (.iadd, 1) := by decide +kernel
theorem dL_law_243 : decode cL_law 243 = .ok (.iaload, 1) := by decide +kernel
theorem dL_law_244 : decode cL_law 244 = .ok (.invokevirtual 99, 3) := by decide +kernel
theorem dL_law_247 : decode cL_law 247 = .ok (.istore 7, 2) := by decide +kernel
theorem dL_law_249 : decode cL_law 249 = .ok (.aload_n 2, 1) := by decide +kernel
theorem dL_law_250 : decode cL_law 250 = .ok (.invokevirtual 92, 3) := by decide +kernel
theorem dL_law_253 : decode cL_law 253 = .ok (.iload 6, 2) := by decide +kernel
theorem dL_law_255 : decode cL_law 255 = .ok (.if_icmp .eq 5, 3) := by decide +kernel
theorem dL_law_258 : decode cL_law 258 = .ok (.iconst 0, 1) := by decide +kernel
theorem dL_law_259 : decode cL_law 259 = .ok (.ireturn, 1) := by decide +kernel
theorem dL_law_260 : decode cL_law 260 = .ok (.iload 6, 2) := by decide +kernel
theorem dL_law_262 : decode cL_law 262 = .ok (.ifCond .ne 15, 3) := by decide +kernel
theorem dL_law_265 : decode cL_law 265 = .ok (.aload_n 3, 1) := by decide +kernel
theorem dL_law_266 : decode cL_law 266 = .ok (.iconst 0, 1) := by decide +kernel
theorem dL_law_267 : decode cL_law 267 = .ok (.laload, 1) := by decide +kernel
theorem dL_law_268 : decode cL_law 268 = .ok (.iload 7, 2) := by decide +kernel
theorem dL_law_270 : decode cL_law 270 = .ok (.i2l, 1) := by decide +kernel
theorem dL_law_271 : decode cL_law 271 = .ok (.lcmp, 1) := by decide +kernel
theorem dL_law_272 : decode cL_law 272 = .ok (.ifCond .eq 5, 3) := by decide +kernel
theorem dL_law_275 : decode cL_law 275 = .ok (.iconst 0, 1) := by decide +kernel
theorem dL_law_276 : decode cL_law 276 = .ok (.ireturn, 1) := by decide +kernel
theorem dL_law_277 : decode cL_law 277 = .ok (.goto 1358, 3) := by decide +kernel
theorem dL_law_280 : decode cL_law 280 = .ok (.aload_n 1, 1) := by decide +kernel
theorem dL_law_281 : decode cL_law 281 = .ok (.aload_n 0, 1) := by decide +kernel
theorem dL_law_282 : decode cL_law 282 = .ok (.iload 5, 2) := by decide +kernel
theorem dL_law_284 : decode cL_law 284 = .ok (.iconst 1, 1) := by decide +kernel
theorem dL_law_285 : decode cL_law 285 = .ok (.iadd, 1) := by decide +kernel
theorem dL_law_286 : decode cL_law 286 = .ok (.iaload, 1) := by decide +kernel
theorem dL_law_287 : decode cL_law 287 = .ok (.aload_n 0, 1) := by decide +kernel
theorem dL_law_288 : decode cL_law 288 = .ok (.iload 5, 2) := by decide +kernel
theorem dL_law_290 : decode cL_law 290 = .ok (.iconst 2, 1) := by decide +kernel
theorem dL_law_291 : decode cL_law 291 = .ok (.iadd, 1) := by decide +kernel
theorem dL_law_292 : decode cL_law 292 = .ok (.iaload, 1) := by decide +kernel
theorem dL_law_293 : decode cL_law 293 = .ok (.aload_n 0, 1) := by decide +kernel
theorem dL_law_294 : decode cL_law 294 = .ok (.iload 5, 2) := by decide +kernel
theorem dL_law_296 : decode cL_law 296 = .ok (.iconst 3, 1) := by decide +kernel
theorem dL_law_297 : decode cL_law 297 = .ok (.iadd, 1) := by decide +kernel
theorem dL_law_298 : decode cL_law 298 = .ok (.iaload, 1) := by decide +kernel
theorem dL_law_299 : decode cL_law 299 = .ok (.aload_n 3, 1) := by decide +kernel
theorem dL_law_300 : decode cL_law 300 = .ok (.invokestatic 100, 3) := by decide +kernel
theorem dL_law_303 : decode cL_law 303 = .ok (.istore 6, 2) := by decide +kernel
theorem dL_law_305 : decode cL_law 305 = .ok (.aload_n 2, 1) := by decide +kernel
theorem dL_law_306 : decode cL_law 306 = .ok (.aload_n 0, 1) := by decide +kernel
theorem dL_law_307 : decode cL_law 307 = .ok (.iload 5, 2) := by decide +kernel
theorem dL_law_309 : decode cL_law 309 = .ok (.iconst 1, 1) := by decide +kernel
theorem dL_law_310 : decode cL_law 310 = .ok (.iadd, 1) := by decide +kernel
theorem dL_law_311 : decode cL_law 311 = .ok (.iaload, 1) := by decide +kernel
theorem dL_law_312 : decode cL_law 312 = .ok (.aload_n 0, 1) := by decide +kernel
theorem dL_law_313 : decode cL_law 313 = .ok (.iload 5, 2) := by decide +kernel
theorem dL_law_315 : decode cL_law 315 = .ok (.iconst 2, 1) := by decide +kernel
theorem dL_law_316 : decode cL_law 316 = .ok (.iadd, 1) := by decide +kernel
theorem dL_law_317 : decode cL_law 317 = .ok (.iaload, 1) := by decide +kernel
theorem dL_law_318 : decode cL_law 318 = .ok (.aload_n 0, 1) := by decide +kernel
theorem dL_law_319 : decode cL_law 319 = .ok (.iload 5, 2) := by decide +kernel
theorem dL_law_321 : decode cL_law 321 = .ok (.iconst 3, 1) := by decide +kernel
theorem dL_law_322 : decode cL_law 322 = .ok (.iadd, 1) := by decide +kernel
theorem dL_law_323 : decode cL_law 323 = .ok (.iaload, 1) := by decide +kernel
theorem dL_law_324 : decode cL_law 324 = .ok (.invokevirtual 103, 3) := by decide +kernel
theorem dL_law_327 : decode cL_law 327 = .ok (.istore 7, 2) := by decide +kernel
theorem dL_law_329 : decode cL_law 329 = .ok (.aload_n 2, 1) := by decide +kernel
theorem dL_law_330 : decode cL_law 330 = .ok (.invokevirtual 92, 3) := by decide +kernel
theorem dL_law_333 : decode cL_law 333 = .ok (.iload 6, 2) := by decide +kernel
theorem dL_law_335 : decode cL_law 335 = .ok (.if_icmp .eq 5, 3) := by decide +kernel
theorem dL_law_338 : decode cL_law 338 = .ok (.iconst 0, 1) := by decide +kernel
theorem dL_law_339 : decode cL_law 339 = .ok (.ireturn, 1) := by decide +kernel
theorem dL_law_340 : decode cL_law 340 = .ok (.iload 6, 2) := by decide +kernel
theorem dL_law_342 : decode cL_law 342 = .ok (.ifCond .ne 15, 3) := by decide +kernel
theorem dL_law_345 : decode cL_law 345 = .ok (.aload_n 3, 1) := by decide +kernel
theorem dL_law_346 : decode cL_law 346 = .ok (.iconst 0, 1) := by decide +kernel
theorem dL_law_347 : decode cL_law 347 = .ok (.laload, 1) := by decide +kernel
theorem dL_law_348 : decode cL_law 348 = .ok (.iload 7, 2) := by decide +kernel
theorem dL_law_350 : decode cL_law 350 = .ok (.i2l, 1) := by decide +kernel
theorem dL_law_351 : decode cL_law 351 = .ok (.lcmp, 1) := by decide +kernel
theorem dL_law_352 : decode cL_law 352 = .ok (.ifCond .eq 5, 3) := by decide +kernel
theorem dL_law_355 : decode cL_law 355 = .ok (.iconst 0, 1) := by decide +kernel
theorem dL_law_356 : decode cL_law 356 = .ok (.ireturn, 1) := by decide +kernel
theorem dL_law_357 : decode cL_law 357 = .ok (.goto 1278, 3) := by decide +kernel
theorem dL_law_360 : decode cL_law 360 = .ok (.aload_n 1, 1) := by decide +kernel
theorem dL_law_361 : decode cL_law 361 = .ok (.aload_n 0, 1) := by decide +kernel
theorem dL_law_362 : decode cL_law 362 = .ok (.iload 5, 2) := by decide +kernel
theorem dL_law_364 : decode cL_law 364 = .ok (.iconst 1, 1) := by decide +kernel
theorem dL_law_365 : decode cL_law 365 = .ok (.iadd, 1) := by decide +kernel
theorem dL_law_366 : decode cL_law 366 = .ok (.iaload, 1) := by decide +kernel
theorem dL_law_367 : decode cL_law 367 = .ok (.aload_n 0, 1) := by decide +kernel
theorem dL_law_368 : decode cL_law 368 = .ok (.iload 5, 2) := by decide +kernel
theorem dL_law_370 : decode cL_law 370 = .ok (.iconst 2, 1) := by decide +kernel
theorem dL_law_371 : decode cL_law 371 = .ok (.iadd, 1) := by decide +kernel
theorem dL_law_372 : decode cL_law 372 = .ok (.iaload, 1) := by decide +kernel
theorem dL_law_373 : decode cL_law 373 = .ok (.aload_n 0, 1) := by decide +kernel
theorem dL_law_374 : decode cL_law 374 = .ok (.iload 5, 2) := by decide +kernel
theorem dL_law_376 : decode cL_law 376 = .ok (.iconst 3, 1) := by decide +kernel
theorem dL_law_377 : decode cL_law 377 = .ok (.iadd, 1) := by decide +kernel
theorem dL_law_378 : decode cL_law 378 = .ok (.iaload, 1) := by decide +kernel
theorem dL_law_379 : decode cL_law 379 = .ok (.aload_n 0, 1) := by decide +kernel
theorem dL_law_380 : decode cL_law 380 = .ok (.iload 5, 2) := by decide +kernel
theorem dL_law_382 : decode cL_law 382 = .ok (.iconst 4, 1) := by decide +kernel
theorem dL_law_383 : decode cL_law 383 = .ok (.iadd, 1) := by decide +kernel
theorem dL_law_384 : decode cL_law 384 = .ok (.iaload, 1) := by decide +kernel
theorem dL_law_385 : decode cL_law 385 = .ok (.aload_n 3, 1) := by decide +kernel
theorem dL_law_386 : decode cL_law 386 = .ok (.invokestatic 104, 3) := by decide +kernel
theorem dL_law_389 : decode cL_law 389 = .ok (.istore 6, 2) := by decide +kernel
theorem dL_law_391 : decode cL_law 391 = .ok (.aload_n 2, 1) := by decide +kernel
theorem dL_law_392 : decode cL_law 392 = .ok (.aload_n 0, 1) := by decide +kernel
theorem dL_law_393 : decode cL_law 393 = .ok (.iload 5, 2) := by decide +kernel
theorem dL_law_395 : decode cL_law 395 = .ok (.iconst 1, 1) := by decide +kernel
theorem dL_law_396 : decode cL_law 396 = .ok (.iadd, 1) := by decide +kernel
theorem dL_law_397 : decode cL_law 397 = .ok (.iaload, 1) := by decide +kernel
theorem dL_law_398 : decode cL_law 398 = .ok (.aload_n 0, 1) := by decide +kernel
theorem dL_law_399 : decode cL_law 399 = .ok (.iload 5, 2) := by decide +kernel
theorem dL_law_401 : decode cL_law 401 = .ok (.iconst 2, 1) := by decide +kernel
theorem dL_law_402 : decode cL_law 402 = .ok (.iadd, 1) := by decide +kernel
theorem dL_law_403 : decode cL_law 403 = .ok (.iaload, 1) := by decide +kernel
theorem dL_law_404 : decode cL_law 404 = .ok (.aload_n 0, 1) := by decide +kernel
theorem dL_law_405 : decode cL_law 405 = .ok (.iload 5, 2) := by decide +kernel
theorem dL_law_407 : decode cL_law 407 = .ok (.iconst 3, 1) := by decide +kernel
theorem dL_law_408 : decode cL_law 408 = .ok (.iadd, 1) := by decide +kernel
theorem dL_law_409 : decode cL_law 409 = .ok (.iaload, 1) := by decide +kernel
theorem dL_law_410 : decode cL_law 410 = .ok (.aload_n 0, 1) := by decide +kernel
theorem dL_law_411 : decode cL_law 411 = .ok (.iload 5, 2) := by decide +kernel
theorem dL_law_413 : decode cL_law 413 = .ok (.iconst 4, 1) := by decide +kernel
theorem dL_law_414 : decode cL_law 414 = .ok (.iadd, 1) := by decide +kernel
theorem dL_law_415 : decode cL_law 415 = .ok (.iaload, 1) := by decide +kernel
theorem dL_law_416 : decode cL_law 416 = .ok (.invokevirtual 107, 3) := by decide +kernel
theorem dL_law_419 : decode cL_law 419 = .ok (.istore 7, 2) := by decide +kernel
theorem dL_law_421 : decode cL_law 421 = .ok (.aload_n 2, 1) := by decide +kernel
theorem dL_law_422 : decode cL_law 422 = .ok (.invokevirtual 92, 3) := by decide +kernel
theorem dL_law_425 : decode cL_law 425 = .ok (.iload 6, 2) := by decide +kernel
theorem dL_law_427 : decode cL_law 427 = .ok (.if_icmp .eq 5, 3) := by decide +kernel
theorem dL_law_430 : decode cL_law 430 = .ok (.iconst 0, 1) := by decide +kernel
theorem dL_law_431 : decode cL_law 431 = .ok (.ireturn, 1) := by decide +kernel
theorem dL_law_432 : decode cL_law 432 = .ok (.iload 6, 2) := by decide +kernel
theorem dL_law_434 : decode cL_law 434 = .ok (.ifCond .ne 15, 3) := by decide +kernel
theorem dL_law_437 : decode cL_law 437 = .ok (.aload_n 3, 1) := by decide +kernel
theorem dL_law_438 : decode cL_law 438 = .ok (.iconst 0, 1) := by decide +kernel
theorem dL_law_439 : decode cL_law 439 = .ok (.laload, 1) := by decide +kernel
theorem dL_law_440 : decode cL_law 440 = .ok (.iload 7, 2) := by decide +kernel
theorem dL_law_442 : decode cL_law 442 = .ok (.i2l, 1) := by decide +kernel
theorem dL_law_443 : decode cL_law 443 = .ok (.lcmp, 1) := by decide +kernel
theorem dL_law_444 : decode cL_law 444 = .ok (.ifCond .eq 5, 3) := by decide +kernel
theorem dL_law_447 : decode cL_law 447 = .ok (.iconst 0, 1) := by decide +kernel
theorem dL_law_448 : decode cL_law 448 = .ok (.ireturn, 1) := by decide +kernel
theorem dL_law_449 : decode cL_law 449 = .ok (.goto 1186, 3) := by decide +kernel
theorem dL_law_452 : decode cL_law 452 = .ok (.aload_n 1, 1) := by decide +kernel
theorem dL_law_453 : decode cL_law 453 = .ok (.aload_n 0, 1) := by decide +kernel
theorem dL_law_454 : decode cL_law 454 = .ok (.iload 5, 2) := by decide +kernel
theorem dL_law_456 : decode cL_law 456 = .ok (.iconst 1, 1) := by decide +kernel
theorem dL_law_457 : decode cL_law 457 = .ok (.iadd, 1) := by decide +kernel
theorem dL_law_458 : decode cL_law 458 = .ok (.iaload, 1) := by decide +kernel
theorem dL_law_459 : decode cL_law 459 = .ok (.aload_n 0, 1) := by decide +kernel
theorem dL_law_460 : decode cL_law 460 = .ok (.iload 5, 2) := by decide +kernel
theorem dL_law_462 : decode cL_law 462 = .ok (.iconst 2, 1) := by decide +kernel
theorem dL_law_463 : decode cL_law 463 = .ok (.iadd, 1) := by decide +kernel
theorem dL_law_464 : decode cL_law 464 = .ok (.iaload, 1) := by decide +kernel
theorem dL_law_465 : decode cL_law 465 = .ok (.aload_n 0, 1) := by decide +kernel
theorem dL_law_466 : decode cL_law 466 = .ok (.iload 5, 2) := by decide +kernel
theorem dL_law_468 : decode cL_law 468 = .ok (.iconst 3, 1) := by decide +kernel
theorem dL_law_469 : decode cL_law 469 = .ok (.iadd, 1) := by decide +kernel
theorem dL_law_470 : decode cL_law 470 = .ok (.iaload, 1) := by decide +kernel
theorem dL_law_471 : decode cL_law 471 = .ok (.aload_n 0, 1) := by decide +kernel
theorem dL_law_472 : decode cL_law 472 = .ok (.iload 5, 2) := by decide +kernel
theorem dL_law_474 : decode cL_law 474 = .ok (.iconst 4, 1) := by decide +kernel
theorem dL_law_475 : decode cL_law 475 = .ok (.iadd, 1) := by decide +kernel
theorem dL_law_476 : decode cL_law 476 = .ok (.iaload, 1) := by decide +kernel
theorem dL_law_477 : decode cL_law 477 = .ok (.aload_n 3, 1) := by decide +kernel
theorem dL_law_478 : decode cL_law 478 = .ok (.invokestatic 108, 3) := by decide +kernel
theorem dL_law_481 : decode cL_law 481 = .ok (.istore 6, 2) := by decide +kernel
theorem dL_law_483 : decode cL_law 483 = .ok (.aload_n 2, 1) := by decide +kernel
theorem dL_law_484 : decode cL_law 484 = .ok (.aload_n 0, 1) := by decide +kernel
theorem dL_law_485 : decode cL_law 485 = .ok (.iload 5, 2) := by decide +kernel
theorem dL_law_487 : decode cL_law 487 = .ok (.iconst 1, 1) := by decide +kernel
theorem dL_law_488 : decode cL_law 488 = .ok (.iadd, 1) := by decide +kernel
theorem dL_law_489 : decode cL_law 489 = .ok (.iaload, 1) := by decide +kernel
theorem dL_law_490 : decode cL_law 490 = .ok (.aload_n 0, 1) := by decide +kernel
theorem dL_law_491 : decode cL_law 491 = .ok (.iload 5, 2) := by decide +kernel
theorem dL_law_493 : decode cL_law 493 = .ok (.iconst 2, 1) := by decide +kernel
theorem dL_law_494 : decode cL_law 494 = .ok (.iadd, 1) := by decide +kernel
theorem dL_law_495 : decode cL_law 495 = .ok (.iaload, 1) := by decide +kernel
theorem dL_law_496 : decode cL_law 496 = .ok (.aload_n 0, 1) := by decide +kernel
theorem dL_law_497 : decode cL_law 497 = .ok (.iload 5, 2) := by decide +kernel
theorem dL_law_499 : decode cL_law 499 = .ok (.iconst 3, 1) := by decide +kernel
theorem dL_law_500 : decode cL_law 500 = .ok (.iadd, 1) := by decide +kernel
theorem dL_law_501 : decode cL_law 501 = .ok (.iaload, 1) := by decide +kernel
theorem dL_law_502 : decode cL_law 502 = .ok (.aload_n 0, 1) := by decide +kernel
theorem dL_law_503 : decode cL_law 503 = .ok (.iload 5, 2) := by decide +kernel
theorem dL_law_505 : decode cL_law 505 = .ok (.iconst 4, 1) := by decide +kernel
theorem dL_law_506 : decode cL_law 506 = .ok (.iadd, 1) := by decide +kernel
theorem dL_law_507 : decode cL_law 507 = .ok (.iaload, 1) := by decide +kernel
theorem dL_law_508 : decode cL_law 508 = .ok (.invokevirtual 110, 3) := by decide +kernel
theorem dL_law_511 : decode cL_law 511 = .ok (.istore 7, 2) := by decide +kernel
theorem dL_law_513 : decode cL_law 513 = .ok (.aload_n 2, 1) := by decide +kernel
theorem dL_law_514 : decode cL_law 514 = .ok (.invokevirtual 92, 3) := by decide +kernel
theorem dL_law_517 : decode cL_law 517 = .ok (.iload 6, 2) := by decide +kernel
theorem dL_law_519 : decode cL_law 519 = .ok (.if_icmp .eq 5, 3) := by decide +kernel
theorem dL_law_522 : decode cL_law 522 = .ok (.iconst 0, 1) := by decide +kernel
theorem dL_law_523 : decode cL_law 523 = .ok (.ireturn, 1) := by decide +kernel
theorem dL_law_524 : decode cL_law 524 = .ok (.iload 6, 2) := by decide +kernel
theorem dL_law_526 : decode cL_law 526 = .ok (.ifCond .ne 15, 3) := by decide +kernel
theorem dL_law_529 : decode cL_law 529 = .ok (.aload_n 3, 1) := by decide +kernel
theorem dL_law_530 : decode cL_law 530 = .ok (.iconst 0, 1) := by decide +kernel
theorem dL_law_531 : decode cL_law 531 = .ok (.laload, 1) := by decide +kernel
theorem dL_law_532 : decode cL_law 532 = .ok (.iload 7, 2) := by decide +kernel
theorem dL_law_534 : decode cL_law 534 = .ok (.i2l, 1) := by decide +kernel
theorem dL_law_535 : decode cL_law 535 = .ok (.lcmp, 1) := by decide +kernel
theorem dL_law_536 : decode cL_law 536 = .ok (.ifCond .eq 5, 3) := by decide +kernel
theorem dL_law_539 : decode cL_law 539 = .ok (.iconst 0, 1) := by decide +kernel
theorem dL_law_540 : decode cL_law 540 = .ok (.ireturn, 1) := by decide +kernel
theorem dL_law_541 : decode cL_law 541 = .ok (.goto 1094, 3) := by decide +kernel
theorem dL_law_544 : decode cL_law 544 = .ok (.aload_n 1, 1) := by decide +kernel
theorem dL_law_545 : decode cL_law 545 = .ok (.aload_n 0, 1) := by decide +kernel
theorem dL_law_546 : decode cL_law 546 = .ok (.iload 5, 2) := by decide +kernel
theorem dL_law_548 : decode cL_law 548 = .ok (.iconst 1, 1) := by decide +kernel
theorem dL_law_549 : decode cL_law 549 = .ok (.iadd, 1) := by decide +kernel
theorem dL_law_550 : decode cL_law 550 = .ok (.iaload, 1) := by decide +kernel
theorem dL_law_551 : decode cL_law 551 = .ok (.aload_n 0, 1) := by decide +kernel
theorem dL_law_552 : decode cL_law 552 = .ok (.iload 5, 2) := by decide +kernel
theorem dL_law_554 : decode cL_law 554 = .ok (.iconst 2, 1) := by decide +kernel
theorem dL_law_555 : decode cL_law 555 = .ok (.iadd, 1) := by decide +kernel
theorem dL_law_556 : decode cL_law 556 = .ok (.iaload, 1) := by decide +kernel
theorem dL_law_557 : decode cL_law 557 = .ok (.aload_n 0, 1) := by decide +kernel
theorem dL_law_558 : decode cL_law 558 = .ok (.iload 5, 2) := by decide +kernel
theorem dL_law_560 : decode cL_law 560 = .ok (.iconst 3, 1) := by decide +kernel
theorem dL_law_561 : decode cL_law 561 = .ok (.iadd, 1) := by decide +kernel
theorem dL_law_562 : decode cL_law 562 = .ok (.iaload, 1) := by decide +kernel
theorem dL_law_563 : decode cL_law 563 = .ok (.ifCond .eq 7, 3) := by decide +kernel
theorem dL_law_566 : decode cL_law 566 = .ok (.iconst 1, 1) := by decide +kernel
theorem dL_law_567 : decode cL_law 567 = .ok (.goto 4, 3) := by decide +kernel
theorem dL_law_570 : decode cL_law 570 = .ok (.iconst 0, 1) := by decide +kernel
theorem dL_law_571 : decode cL_law 571 = .ok (.aload_n 3, 1) := by decide +kernel
theorem dL_law_572 : decode cL_law 572 = .ok (.invokestatic 111, 3) := by decide +kernel
theorem dL_law_575 : decode cL_law 575 = .ok (.istore 6, 2) := by decide +kernel
theorem dL_law_577 : decode cL_law 577 = .ok (.aload_n 2, 1) := by decide +kernel
theorem dL_law_578 : decode cL_law 578 = .ok (.aload_n 0, 1) := by decide +kernel
theorem dL_law_579 : decode cL_law 579 = .ok (.iload 5, 2) := by decide +kernel
theorem dL_law_581 : decode cL_law 581 = .ok (.iconst 1, 1) := by decide +kernel
theorem dL_law_582 : decode cL_law 582 = .ok (.iadd, 1) := by decide +kernel
theorem dL_law_583 : decode cL_law 583 = .ok (.iaload, 1) := by decide +kernel
theorem dL_law_584 : decode cL_law 584 = .ok (.aload_n 0, 1) := by decide +kernel
theorem dL_law_585 : decode cL_law 585 = .ok (.iload 5, 2) := by decide +kernel
theorem dL_law_587 : decode cL_law 587 = .ok (.iconst 2, 1) := by decide +kernel
theorem dL_law_588 : decode cL_law 588 = .ok (.iadd, 1) := by decide +kernel
theorem dL_law_589 : decode cL_law 589 = .ok (.iaload, 1) := by decide +kernel
theorem dL_law_590 : decode cL_law 590 = .ok (.aload_n 0, 1) := by decide +kernel
theorem dL_law_591 : decode cL_law 591 = .ok (.iload 5, 2) := by decide +kernel
theorem dL_law_593 : decode cL_law 593 = .ok (.iconst 3, 1) := by decide +kernel
theorem dL_law_594 : decode cL_law 594 = .ok (.iadd, 1) := by decide +kernel
theorem dL_law_595 : decode cL_law 595 = .ok (.iaload, 1) := by decide +kernel
theorem dL_law_596 : decode cL_law 596 = .ok (.ifCond .eq 7, 3) := by decide +kernel
theorem dL_law_599 : decode cL_law 599 = .ok (.iconst 1, 1) := by decide +kernel
theorem dL_law_600 : decode cL_law 600 = .ok (.goto 4, 3) := by decide +kernel
theorem dL_law_603 : decode cL_law 603 = .ok (.iconst 0, 1) := by decide +kernel
theorem dL_law_604 : decode cL_law 604 = .ok (.invokevirtual 114, 3) := by decide +kernel
theorem dL_law_607 : decode cL_law 607 = .ok (.istore 7, 2) := by decide +kernel
theorem dL_law_609 : decode cL_law 609 = .ok (.aload_n 2, 1) := by decide +kernel
theorem dL_law_610 : decode cL_law 610 = .ok (.invokevirtual 92, 3) := by decide +kernel
theorem dL_law_613 : decode cL_law 613 = .ok (.iload 6, 2) := by decide +kernel
theorem dL_law_615 : decode cL_law 615 = .ok (.if_icmp .eq 5, 3) := by decide +kernel
theorem dL_law_618 : decode cL_law 618 = .ok (.iconst 0, 1) := by decide +kernel
theorem dL_law_619 : decode cL_law 619 = .ok (.ireturn, 1) := by decide +kernel
theorem dL_law_620 : decode cL_law 620 = .ok (.iload 6, 2) := by decide +kernel
theorem dL_law_622 : decode cL_law 622 = .ok (.ifCond .ne 15, 3) := by decide +kernel
theorem dL_law_625 : decode cL_law 625 = .ok (.aload_n 3, 1) := by decide +kernel
theorem dL_law_626 : decode cL_law 626 = .ok (.iconst 0, 1) := by decide +kernel
theorem dL_law_627 : decode cL_law 627 = .ok (.laload, 1) := by decide +kernel
theorem dL_law_628 : decode cL_law 628 = .ok (.iload 7, 2) := by decide +kernel
theorem dL_law_630 : decode cL_law 630 = .ok (.i2l, 1) := by decide +kernel
theorem dL_law_631 : decode cL_law 631 = .ok (.lcmp, 1) := by decide +kernel
theorem dL_law_632 : decode cL_law 632 = .ok (.ifCond .eq 5, 3) := by decide +kernel
theorem dL_law_635 : decode cL_law 635 = .ok (.iconst 0, 1) := by decide +kernel
theorem dL_law_636 : decode cL_law 636 = .ok (.ireturn, 1) := by decide +kernel
theorem dL_law_637 : decode cL_law 637 = .ok (.goto 998, 3) := by decide +kernel
theorem dL_law_640 : decode cL_law 640 = .ok (.aload_n 1, 1) := by decide +kernel
theorem dL_law_641 : decode cL_law 641 = .ok (.aload_n 0, 1) := by decide +kernel
theorem dL_law_642 : decode cL_law 642 = .ok (.iload 5, 2) := by decide +kernel
theorem dL_law_644 : decode cL_law 644 = .ok (.iconst 1, 1) := by decide +kernel
theorem dL_law_645 : decode cL_law 645 = .ok (.iadd, 1) := by decide +kernel
theorem dL_law_646 : decode cL_law 646 = .ok (.iaload, 1) := by decide +kernel
theorem dL_law_647 : decode cL_law 647 = .ok (.aload_n 3, 1) := by decide +kernel
theorem dL_law_648 : decode cL_law 648 = .ok (.invokestatic 115, 3) := by decide +kernel
theorem dL_law_651 : decode cL_law 651 = .ok (.istore 6, 2) := by decide +kernel
theorem dL_law_653 : decode cL_law 653 = .ok (.aload_n 2, 1) := by decide +kernel
theorem dL_law_654 : decode cL_law 654 = .ok (.aload_n 0, 1) := by decide +kernel
theorem dL_law_655 : decode cL_law 655 = .ok (.iload 5, 2) := by decide +kernel
theorem dL_law_657 : decode cL_law 657 = .ok (.iconst 1, 1) := by decide +kernel
theorem dL_law_658 : decode cL_law 658 = .ok (.iadd, 1) := by decide +kernel
theorem dL_law_659 : decode cL_law 659 = .ok (.iaload, 1) := by decide +kernel
theorem dL_law_660 : decode cL_law 660 = .ok (.invokevirtual 117, 3) := by decide +kernel
theorem dL_law_663 : decode cL_law 663 = .ok (.istore 7, 2) := by decide +kernel
theorem dL_law_665 : decode cL_law 665 = .ok (.aload_n 2, 1) := by decide +kernel
theorem dL_law_666 : decode cL_law 666 = .ok (.invokevirtual 92, 3) := by decide +kernel
theorem dL_law_669 : decode cL_law 669 = .ok (.iload 6, 2) := by decide +kernel
theorem dL_law_671 : decode cL_law 671 = .ok (.if_icmp .eq 5, 3) := by decide +kernel
theorem dL_law_674 : decode cL_law 674 = .ok (.iconst 0, 1) := by decide +kernel
theorem dL_law_675 : decode cL_law 675 = .ok (.ireturn, 1) := by decide +kernel
theorem dL_law_676 : decode cL_law 676 = .ok (.iload 6, 2) := by decide +kernel
theorem dL_law_678 : decode cL_law 678 = .ok (.ifCond .ne 15, 3) := by decide +kernel
theorem dL_law_681 : decode cL_law 681 = .ok (.aload_n 3, 1) := by decide +kernel
theorem dL_law_682 : decode cL_law 682 = .ok (.iconst 0, 1) := by decide +kernel
theorem dL_law_683 : decode cL_law 683 = .ok (.laload, 1) := by decide +kernel
theorem dL_law_684 : decode cL_law 684 = .ok (.iload 7, 2) := by decide +kernel
theorem dL_law_686 : decode cL_law 686 = .ok (.i2l, 1) := by decide +kernel
theorem dL_law_687 : decode cL_law 687 = .ok (.lcmp, 1) := by decide +kernel
theorem dL_law_688 : decode cL_law 688 = .ok (.ifCond .eq 5, 3) := by decide +kernel
theorem dL_law_691 : decode cL_law 691 = .ok (.iconst 0, 1) := by decide +kernel
theorem dL_law_692 : decode cL_law 692 = .ok (.ireturn, 1) := by decide +kernel
theorem dL_law_693 : decode cL_law 693 = .ok (.goto 942, 3) := by decide +kernel
theorem dL_law_696 : decode cL_law 696 = .ok (.aload_n 1, 1) := by decide +kernel
theorem dL_law_697 : decode cL_law 697 = .ok (.aload_n 0, 1) := by decide +kernel
theorem dL_law_698 : decode cL_law 698 = .ok (.iload 5, 2) := by decide +kernel
theorem dL_law_700 : decode cL_law 700 = .ok (.iconst 1, 1) := by decide +kernel
theorem dL_law_701 : decode cL_law 701 = .ok (.iadd, 1) := by decide +kernel
theorem dL_law_702 : decode cL_law 702 = .ok (.iaload, 1) := by decide +kernel
theorem dL_law_703 : decode cL_law 703 = .ok (.aload_n 0, 1) := by decide +kernel
theorem dL_law_704 : decode cL_law 704 = .ok (.iload 5, 2) := by decide +kernel
theorem dL_law_706 : decode cL_law 706 = .ok (.iconst 2, 1) := by decide +kernel
theorem dL_law_707 : decode cL_law 707 = .ok (.iadd, 1) := by decide +kernel
theorem dL_law_708 : decode cL_law 708 = .ok (.iaload, 1) := by decide +kernel
theorem dL_law_709 : decode cL_law 709 = .ok (.aload_n 3, 1) := by decide +kernel
theorem dL_law_710 : decode cL_law 710 = .ok (.invokestatic 118, 3) := by decide +kernel
theorem dL_law_713 : decode cL_law 713 = .ok (.istore 6, 2) := by decide +kernel
theorem dL_law_715 : decode cL_law 715 = .ok (.aload_n 2, 1) := by decide +kernel
theorem dL_law_716 : decode cL_law 716 = .ok (.aload_n 0, 1) := by decide +kernel
theorem dL_law_717 : decode cL_law 717 = .ok (.iload 5, 2) := by decide +kernel
theorem dL_law_719 : decode cL_law 719 = .ok (.iconst 1, 1) := by decide +kernel
theorem dL_law_720 : decode cL_law 720 = .ok (.iadd, 1) := by decide +kernel
theorem dL_law_721 : decode cL_law 721 = .ok (.iaload, 1) := by decide +kernel
theorem dL_law_722 : decode cL_law 722 = .ok (.aload_n 0, 1) := by decide +kernel
theorem dL_law_723 : decode cL_law 723 = .ok (.iload 5, 2) := by decide +kernel
theorem dL_law_725 : decode cL_law 725 = .ok (.iconst 2, 1) := by decide +kernel
theorem dL_law_726 : decode cL_law 726 = .ok (.iadd, 1) := by decide +kernel
theorem dL_law_727 : decode cL_law 727 = .ok (.iaload, 1) := by decide +kernel
theorem dL_law_728 : decode cL_law 728 = .ok (.invokevirtual 120, 3) := by decide +kernel
theorem dL_law_731 : decode cL_law 731 = .ok (.istore 7, 2) := by decide +kernel
theorem dL_law_733 : decode cL_law 733 = .ok (.aload_n 2, 1) := by decide +kernel
theorem dL_law_734 : decode cL_law 734 = .ok (.invokevirtual 92, 3) := by decide +kernel
theorem dL_law_737 : decode cL_law 737 = .ok (.iload 6, 2) := by decide +kernel
theorem dL_law_739 : decode cL_law 739 = .ok (.if_icmp .eq 5, 3) := by decide +kernel
theorem dL_law_742 : decode cL_law 742 = .ok (.iconst 0, 1) := by decide +kernel
theorem dL_law_743 : decode cL_law 743 = .ok (.ireturn, 1) := by decide +kernel
theorem dL_law_744 : decode cL_law 744 = .ok (.iload 6, 2) := by decide +kernel
theorem dL_law_746 : decode cL_law 746 = .ok (.ifCond .ne 15, 3) := by decide +kernel
theorem dL_law_749 : decode cL_law 749 = .ok (.aload_n 3, 1) := by decide +kernel
theorem dL_law_750 : decode cL_law 750 = .ok (.iconst 0, 1) := by decide +kernel
theorem dL_law_751 : decode cL_law 751 = .ok (.laload, 1) := by decide +kernel
theorem dL_law_752 : decode cL_law 752 = .ok (.iload 7, 2) := by decide +kernel
theorem dL_law_754 : decode cL_law 754 = .ok (.i2l, 1) := by decide +kernel
theorem dL_law_755 : decode cL_law 755 = .ok (.lcmp, 1) := by decide +kernel
theorem dL_law_756 : decode cL_law 756 = .ok (.ifCond .eq 5, 3) := by decide +kernel
theorem dL_law_759 : decode cL_law 759 = .ok (.iconst 0, 1) := by decide +kernel
theorem dL_law_760 : decode cL_law 760 = .ok (.ireturn, 1) := by decide +kernel
theorem dL_law_761 : decode cL_law 761 = .ok (.goto 874, 3) := by decide +kernel
theorem dL_law_764 : decode cL_law 764 = .ok (.aload_n 1, 1) := by decide +kernel
theorem dL_law_765 : decode cL_law 765 = .ok (.aload_n 0, 1) := by decide +kernel
theorem dL_law_766 : decode cL_law 766 = .ok (.iload 5, 2) := by decide +kernel
theorem dL_law_768 : decode cL_law 768 = .ok (.iconst 1, 1) := by decide +kernel
theorem dL_law_769 : decode cL_law 769 = .ok (.iadd, 1) := by decide +kernel
theorem dL_law_770 : decode cL_law 770 = .ok (.iaload, 1) := by decide +kernel
theorem dL_law_771 : decode cL_law 771 = .ok (.aload_n 0, 1) := by decide +kernel
theorem dL_law_772 : decode cL_law 772 = .ok (.iload 5, 2) := by decide +kernel
theorem dL_law_774 : decode cL_law 774 = .ok (.iconst 2, 1) := by decide +kernel
theorem dL_law_775 : decode cL_law 775 = .ok (.iadd, 1) := by decide +kernel
theorem dL_law_776 : decode cL_law 776 = .ok (.iaload, 1) := by decide +kernel
theorem dL_law_777 : decode cL_law 777 = .ok (.aload_n 3, 1) := by decide +kernel
theorem dL_law_778 : decode cL_law 778 = .ok (.invokestatic 121, 3) := by decide +kernel
theorem dL_law_781 : decode cL_law 781 = .ok (.istore 6, 2) := by decide +kernel
theorem dL_law_783 : decode cL_law 783 = .ok (.aload_n 2, 1) := by decide +kernel
theorem dL_law_784 : decode cL_law 784 = .ok (.aload_n 0, 1) := by decide +kernel
theorem dL_law_785 : decode cL_law 785 = .ok (.iload 5, 2) := by decide +kernel
theorem dL_law_787 : decode cL_law 787 = .ok (.iconst 1, 1) := by decide +kernel
theorem dL_law_788 : decode cL_law 788 = .ok (.iadd, 1) := by decide +kernel
theorem dL_law_789 : decode cL_law 789 = .ok (.iaload, 1) := by decide +kernel
theorem dL_law_790 : decode cL_law 790 = .ok (.aload_n 0, 1) := by decide +kernel
theorem dL_law_791 : decode cL_law 791 = .ok (.iload 5, 2) := by decide +kernel
theorem dL_law_793 : decode cL_law 793 = .ok (.iconst 2, 1) := by decide +kernel
theorem dL_law_794 : decode cL_law 794 = .ok (.iadd, 1) := by decide +kernel
theorem dL_law_795 : decode cL_law 795 = .ok (.iaload, 1) := by decide +kernel
theorem dL_law_796 : decode cL_law 796 = .ok (.invokevirtual 123, 3) := by decide +kernel
theorem dL_law_799 : decode cL_law 799 = .ok (.istore 7, 2) := by decide +kernel
theorem dL_law_801 : decode cL_law 801 = .ok (.aload_n 2, 1) := by decide +kernel
theorem dL_law_802 : decode cL_law 802 = .ok (.invokevirtual 92, 3) := by decide +kernel
theorem dL_law_805 : decode cL_law 805 = .ok (.iload 6, 2) := by decide +kernel
theorem dL_law_807 : decode cL_law 807 = .ok (.if_icmp .eq 5, 3) := by decide +kernel
theorem dL_law_810 : decode cL_law 810 = .ok (.iconst 0, 1) := by decide +kernel
theorem dL_law_811 : decode cL_law 811 = .ok (.ireturn, 1) := by decide +kernel
theorem dL_law_812 : decode cL_law 812 = .ok (.iload 6, 2) := by decide +kernel
theorem dL_law_814 : decode cL_law 814 = .ok (.ifCond .ne 15, 3) := by decide +kernel
theorem dL_law_817 : decode cL_law 817 = .ok (.aload_n 3, 1) := by decide +kernel
theorem dL_law_818 : decode cL_law 818 = .ok (.iconst 0, 1) := by decide +kernel
theorem dL_law_819 : decode cL_law 819 = .ok (.laload, 1) := by decide +kernel
theorem dL_law_820 : decode cL_law 820 = .ok (.iload 7, 2) := by decide +kernel
theorem dL_law_822 : decode cL_law 822 = .ok (.i2l, 1) := by decide +kernel
theorem dL_law_823 : decode cL_law 823 = .ok (.lcmp, 1) := by decide +kernel
theorem dL_law_824 : decode cL_law 824 = .ok (.ifCond .eq 5, 3) := by decide +kernel
theorem dL_law_827 : decode cL_law 827 = .ok (.iconst 0, 1) := by decide +kernel
theorem dL_law_828 : decode cL_law 828 = .ok (.ireturn, 1) := by decide +kernel
theorem dL_law_829 : decode cL_law 829 = .ok (.goto 806, 3) := by decide +kernel
theorem dL_law_832 : decode cL_law 832 = .ok (.aload_n 1, 1) := by decide +kernel
theorem dL_law_833 : decode cL_law 833 = .ok (.aload_n 0, 1) := by decide +kernel
theorem dL_law_834 : decode cL_law 834 = .ok (.iload 5, 2) := by decide +kernel
theorem dL_law_836 : decode cL_law 836 = .ok (.iconst 1, 1) := by decide +kernel
theorem dL_law_837 : decode cL_law 837 = .ok (.iadd, 1) := by decide +kernel
theorem dL_law_838 : decode cL_law 838 = .ok (.iaload, 1) := by decide +kernel
theorem dL_law_839 : decode cL_law 839 = .ok (.aload_n 0, 1) := by decide +kernel
theorem dL_law_840 : decode cL_law 840 = .ok (.iload 5, 2) := by decide +kernel
theorem dL_law_842 : decode cL_law 842 = .ok (.iconst 2, 1) := by decide +kernel
theorem dL_law_843 : decode cL_law 843 = .ok (.iadd, 1) := by decide +kernel
theorem dL_law_844 : decode cL_law 844 = .ok (.iaload, 1) := by decide +kernel
theorem dL_law_845 : decode cL_law 845 = .ok (.aload_n 0, 1) := by decide +kernel
theorem dL_law_846 : decode cL_law 846 = .ok (.iload 5, 2) := by decide +kernel
theorem dL_law_848 : decode cL_law 848 = .ok (.iconst 3, 1) := by decide +kernel
theorem dL_law_849 : decode cL_law 849 = .ok (.iadd, 1) := by decide +kernel
theorem dL_law_850 : decode cL_law 850 = .ok (.iaload, 1) := by decide +kernel
theorem dL_law_851 : decode cL_law 851 = .ok (.aload_n 3, 1) := by decide +kernel
theorem dL_law_852 : decode cL_law 852 = .ok (.invokestatic 124, 3) := by decide +kernel
theorem dL_law_855 : decode cL_law 855 = .ok (.istore 6, 2) := by decide +kernel
theorem dL_law_857 : decode cL_law 857 = .ok (.aload_n 2, 1) := by decide +kernel
theorem dL_law_858 : decode cL_law 858 = .ok (.aload_n 0, 1) := by decide +kernel
theorem dL_law_859 : decode cL_law 859 = .ok (.iload 5, 2) := by decide +kernel
theorem dL_law_861 : decode cL_law 861 = .ok (.iconst 1, 1) := by decide +kernel
theorem dL_law_862 : decode cL_law 862 = .ok (.iadd, 1) := by decide +kernel
theorem dL_law_863 : decode cL_law 863 = .ok (.iaload, 1) := by decide +kernel
theorem dL_law_864 : decode cL_law 864 = .ok (.aload_n 0, 1) := by decide +kernel
theorem dL_law_865 : decode cL_law 865 = .ok (.iload 5, 2) := by decide +kernel
theorem dL_law_867 : decode cL_law 867 = .ok (.iconst 2, 1) := by decide +kernel
theorem dL_law_868 : decode cL_law 868 = .ok (.iadd, 1) := by decide +kernel
theorem dL_law_869 : decode cL_law 869 = .ok (.iaload, 1) := by decide +kernel
theorem dL_law_870 : decode cL_law 870 = .ok (.aload_n 0, 1) := by decide +kernel
theorem dL_law_871 : decode cL_law 871 = .ok (.iload 5, 2) := by decide +kernel
theorem dL_law_873 : decode cL_law 873 = .ok (.iconst 3, 1) := by decide +kernel
theorem dL_law_874 : decode cL_law 874 = .ok (.iadd, 1) := by decide +kernel
theorem dL_law_875 : decode cL_law 875 = .ok (.iaload, 1) := by decide +kernel
theorem dL_law_876 : decode cL_law 876 = .ok (.invokevirtual 126, 3) := by decide +kernel
theorem dL_law_879 : decode cL_law 879 = .ok (.istore 7, 2) := by decide +kernel
theorem dL_law_881 : decode cL_law 881 = .ok (.aload_n 2, 1) := by decide +kernel
theorem dL_law_882 : decode cL_law 882 = .ok (.invokevirtual 92, 3) := by decide +kernel
theorem dL_law_885 : decode cL_law 885 = .ok (.iload 6, 2) := by decide +kernel
theorem dL_law_887 : decode cL_law 887 = .ok (.if_icmp .eq 5, 3) := by decide +kernel
theorem dL_law_890 : decode cL_law 890 = .ok (.iconst 0, 1) := by decide +kernel
theorem dL_law_891 : decode cL_law 891 = .ok (.ireturn, 1) := by decide +kernel
theorem dL_law_892 : decode cL_law 892 = .ok (.iload 6, 2) := by decide +kernel
theorem dL_law_894 : decode cL_law 894 = .ok (.ifCond .ne 15, 3) := by decide +kernel
theorem dL_law_897 : decode cL_law 897 = .ok (.aload_n 3, 1) := by decide +kernel
theorem dL_law_898 : decode cL_law 898 = .ok (.iconst 0, 1) := by decide +kernel
theorem dL_law_899 : decode cL_law 899 = .ok (.laload, 1) := by decide +kernel
theorem dL_law_900 : decode cL_law 900 = .ok (.iload 7, 2) := by decide +kernel
theorem dL_law_902 : decode cL_law 902 = .ok (.i2l, 1) := by decide +kernel
theorem dL_law_903 : decode cL_law 903 = .ok (.lcmp, 1) := by decide +kernel
theorem dL_law_904 : decode cL_law 904 = .ok (.ifCond .eq 5, 3) := by decide +kernel
theorem dL_law_907 : decode cL_law 907 = .ok (.iconst 0, 1) := by decide +kernel
theorem dL_law_908 : decode cL_law 908 = .ok (.ireturn, 1) := by decide +kernel
theorem dL_law_909 : decode cL_law 909 = .ok (.goto 726, 3) := by decide +kernel
theorem dL_law_912 : decode cL_law 912 = .ok (.aload_n 1, 1) := by decide +kernel
theorem dL_law_913 : decode cL_law 913 = .ok (.aload_n 0, 1) := by decide +kernel
theorem dL_law_914 : decode cL_law 914 = .ok (.iload 5, 2) := by decide +kernel
theorem dL_law_916 : decode cL_law 916 = .ok (.iconst 1, 1) := by decide +kernel
theorem dL_law_917 : decode cL_law 917 = .ok (.iadd, 1) := by decide +kernel
theorem dL_law_918 : decode cL_law 918 = .ok (.iaload, 1) := by decide +kernel
theorem dL_law_919 : decode cL_law 919 = .ok (.aload_n 0, 1) := by decide +kernel
theorem dL_law_920 : decode cL_law 920 = .ok (.iload 5, 2) := by decide +kernel
theorem dL_law_922 : decode cL_law 922 = .ok (.iconst 2, 1) := by decide +kernel
theorem dL_law_923 : decode cL_law 923 = .ok (.iadd, 1) := by decide +kernel
theorem dL_law_924 : decode cL_law 924 = .ok (.iaload, 1) := by decide +kernel
theorem dL_law_925 : decode cL_law 925 = .ok (.aload_n 3, 1) := by decide +kernel
theorem dL_law_926 : decode cL_law 926 = .ok (.invokestatic 127, 3) := by decide +kernel
theorem dL_law_929 : decode cL_law 929 = .ok (.istore 6, 2) := by decide +kernel
theorem dL_law_931 : decode cL_law 931 = .ok (.aload_n 2, 1) := by decide +kernel
theorem dL_law_932 : decode cL_law 932 = .ok (.aload_n 0, 1) := by decide +kernel
theorem dL_law_933 : decode cL_law 933 = .ok (.iload 5, 2) := by decide +kernel
theorem dL_law_935 : decode cL_law 935 = .ok (.iconst 1, 1) := by decide +kernel
theorem dL_law_936 : decode cL_law 936 = .ok (.iadd, 1) := by decide +kernel
theorem dL_law_937 : decode cL_law 937 = .ok (.iaload, 1) := by decide +kernel
theorem dL_law_938 : decode cL_law 938 = .ok (.aload_n 0, 1) := by decide +kernel
theorem dL_law_939 : decode cL_law 939 = .ok (.iload 5, 2) := by decide +kernel
theorem dL_law_941 : decode cL_law 941 = .ok (.iconst 2, 1) := by decide +kernel
theorem dL_law_942 : decode cL_law 942 = .ok (.iadd, 1) := by decide +kernel
theorem dL_law_943 : decode cL_law 943 = .ok (.iaload, 1) := by decide +kernel
theorem dL_law_944 : decode cL_law 944 = .ok (.invokevirtual 129, 3) := by decide +kernel
theorem dL_law_947 : decode cL_law 947 = .ok (.istore 7, 2) := by decide +kernel
theorem dL_law_949 : decode cL_law 949 = .ok (.aload_n 2, 1) := by decide +kernel
theorem dL_law_950 : decode cL_law 950 = .ok (.invokevirtual 92, 3) := by decide +kernel
theorem dL_law_953 : decode cL_law 953 = .ok (.iload 6, 2) := by decide +kernel
theorem dL_law_955 : decode cL_law 955 = .ok (.if_icmp .eq 5, 3) := by decide +kernel
theorem dL_law_958 : decode cL_law 958 = .ok (.iconst 0, 1) := by decide +kernel
theorem dL_law_959 : decode cL_law 959 = .ok (.ireturn, 1) := by decide +kernel
theorem dL_law_960 : decode cL_law 960 = .ok (.iload 6, 2) := by decide +kernel
theorem dL_law_962 : decode cL_law 962 = .ok (.ifCond .ne 15, 3) := by decide +kernel
theorem dL_law_965 : decode cL_law 965 = .ok (.aload_n 3, 1) := by decide +kernel
theorem dL_law_966 : decode cL_law 966 = .ok (.iconst 0, 1) := by decide +kernel
theorem dL_law_967 : decode cL_law 967 = .ok (.laload, 1) := by decide +kernel
theorem dL_law_968 : decode cL_law 968 = .ok (.iload 7, 2) := by decide +kernel
theorem dL_law_970 : decode cL_law 970 = .ok (.i2l, 1) := by decide +kernel
theorem dL_law_971 : decode cL_law 971 = .ok (.lcmp, 1) := by decide +kernel
theorem dL_law_972 : decode cL_law 972 = .ok (.ifCond .eq 5, 3) := by decide +kernel
theorem dL_law_975 : decode cL_law 975 = .ok (.iconst 0, 1) := by decide +kernel
theorem dL_law_976 : decode cL_law 976 = .ok (.ireturn, 1) := by decide +kernel
theorem dL_law_977 : decode cL_law 977 = .ok (.goto 658, 3) := by decide +kernel
theorem dL_law_980 : decode cL_law 980 = .ok (.aload_n 1, 1) := by decide +kernel
theorem dL_law_981 : decode cL_law 981 = .ok (.aload_n 0, 1) := by decide +kernel
theorem dL_law_982 : decode cL_law 982 = .ok (.iload 5, 2) := by decide +kernel
theorem dL_law_984 : decode cL_law 984 = .ok (.iconst 1, 1) := by decide +kernel
theorem dL_law_985 : decode cL_law 985 = .ok (.iadd, 1) := by decide +kernel
theorem dL_law_986 : decode cL_law 986 = .ok (.iaload, 1) := by decide +kernel
theorem dL_law_987 : decode cL_law 987 = .ok (.aload_n 0, 1) := by decide +kernel
theorem dL_law_988 : decode cL_law 988 = .ok (.iload 5, 2) := by decide +kernel
theorem dL_law_990 : decode cL_law 990 = .ok (.iconst 2, 1) := by decide +kernel
theorem dL_law_991 : decode cL_law 991 = .ok (.iadd, 1) := by decide +kernel
theorem dL_law_992 : decode cL_law 992 = .ok (.iaload, 1) := by decide +kernel
theorem dL_law_993 : decode cL_law 993 = .ok (.aload_n 3, 1) := by decide +kernel
theorem dL_law_994 : decode cL_law 994 = .ok (.invokestatic 130, 3) := by decide +kernel
theorem dL_law_997 : decode cL_law 997 = .ok (.istore 6, 2) := by decide +kernel
theorem dL_law_999 : decode cL_law 999 = .ok (.aload_n 2, 1) := by decide +kernel
theorem dL_law_1000 : decode cL_law 1000 = .ok (.aload_n 0, 1) := by decide +kernel
theorem dL_law_1001 : decode cL_law 1001 = .ok (.iload 5, 2) := by decide +kernel
theorem dL_law_1003 : decode cL_law 1003 = .ok (.iconst 1, 1) := by decide +kernel
theorem dL_law_1004 : decode cL_law 1004 = .ok (.iadd, 1) := by decide +kernel
theorem dL_law_1005 : decode cL_law 1005 = .ok (.iaload, 1) := by decide +kernel
theorem dL_law_1006 : decode cL_law 1006 = .ok (.aload_n 0, 1) := by decide +kernel
theorem dL_law_1007 : decode cL_law 1007 = .ok (.iload 5, 2) := by decide +kernel
theorem dL_law_1009 : decode cL_law 1009 = .ok (.iconst 2, 1) := by decide +kernel
theorem dL_law_1010 : decode cL_law 1010 = .ok (.iadd, 1) := by decide +kernel
theorem dL_law_1011 : decode cL_law 1011 = .ok (.iaload, 1) := by decide +kernel
theorem dL_law_1012 : decode cL_law 1012 = .ok (.invokevirtual 132, 3) := by decide +kernel
theorem dL_law_1015 : decode cL_law 1015 = .ok (.istore 7, 2) := by decide +kernel
theorem dL_law_1017 : decode cL_law 1017 = .ok (.aload_n 2, 1) := by decide +kernel
theorem dL_law_1018 : decode cL_law 1018 = .ok (.invokevirtual 92, 3) := by decide +kernel
theorem dL_law_1021 : decode cL_law 1021 = .ok (.iload 6, 2) := by decide +kernel
theorem dL_law_1023 : decode cL_law 1023 = .ok (.if_icmp .eq 5, 3) := by decide +kernel
theorem dL_law_1026 : decode cL_law 1026 = .ok (.iconst 0, 1) := by decide +kernel
theorem dL_law_1027 : decode cL_law 1027 = .ok (.ireturn, 1) := by decide +kernel
theorem dL_law_1028 : decode cL_law 1028 = .ok (.iload 6, 2) := by decide +kernel
theorem dL_law_1030 : decode cL_law 1030 = .ok (.ifCond .ne 15, 3) := by decide +kernel
theorem dL_law_1033 : decode cL_law 1033 = .ok (.aload_n 3, 1) := by decide +kernel
theorem dL_law_1034 : decode cL_law 1034 = .ok (.iconst 0, 1) := by decide +kernel
theorem dL_law_1035 : decode cL_law 1035 = .ok (.laload, 1) := by decide +kernel
theorem dL_law_1036 : decode cL_law 1036 = .ok (.iload 7, 2) := by decide +kernel
theorem dL_law_1038 : decode cL_law 1038 = .ok (.i2l, 1) := by decide +kernel
theorem dL_law_1039 : decode cL_law 1039 = .ok (.lcmp, 1) := by decide +kernel
theorem dL_law_1040 : decode cL_law 1040 = .ok (.ifCond .eq 5, 3) := by decide +kernel
theorem dL_law_1043 : decode cL_law 1043 = .ok (.iconst 0, 1) := by decide +kernel
theorem dL_law_1044 : decode cL_law 1044 = .ok (.ireturn, 1) := by decide +kernel
theorem dL_law_1045 : decode cL_law 1045 = .ok (.goto 590, 3) := by decide +kernel
theorem dL_law_1048 : decode cL_law 1048 = .ok (.aload_n 1, 1) := by decide +kernel
theorem dL_law_1049 : decode cL_law 1049 = .ok (.aload_n 0, 1) := by decide +kernel
theorem dL_law_1050 : decode cL_law 1050 = .ok (.iload 5, 2) := by decide +kernel
theorem dL_law_1052 : decode cL_law 1052 = .ok (.iconst 1, 1) := by decide +kernel
theorem dL_law_1053 : decode cL_law 1053 = .ok (.iadd, 1) := by decide +kernel
theorem dL_law_1054 : decode cL_law 1054 = .ok (.iaload, 1) := by decide +kernel
theorem dL_law_1055 : decode cL_law 1055 = .ok (.aload_n 3, 1) := by decide +kernel
theorem dL_law_1056 : decode cL_law 1056 = .ok (.invokestatic 133, 3) := by decide +kernel
theorem dL_law_1059 : decode cL_law 1059 = .ok (.istore 6, 2) := by decide +kernel
theorem dL_law_1061 : decode cL_law 1061 = .ok (.aload_n 2, 1) := by decide +kernel
theorem dL_law_1062 : decode cL_law 1062 = .ok (.aload_n 0, 1) := by decide +kernel
theorem dL_law_1063 : decode cL_law 1063 = .ok (.iload 5, 2) := by decide +kernel
theorem dL_law_1065 : decode cL_law 1065 = .ok (.iconst 1, 1) := by decide +kernel
theorem dL_law_1066 : decode cL_law 1066 = .ok (.iadd, 1) := by decide +kernel
theorem dL_law_1067 : decode cL_law 1067 = .ok (.iaload, 1) := by decide +kernel
theorem dL_law_1068 : decode cL_law 1068 = .ok (.invokevirtual 135, 3) := by decide +kernel
theorem dL_law_1071 : decode cL_law 1071 = .ok (.istore 7, 2) := by decide +kernel
theorem dL_law_1073 : decode cL_law 1073 = .ok (.aload_n 2, 1) := by decide +kernel
theorem dL_law_1074 : decode cL_law 1074 = .ok (.invokevirtual 92, 3) := by decide +kernel
theorem dL_law_1077 : decode cL_law 1077 = .ok (.iload 6, 2) := by decide +kernel
theorem dL_law_1079 : decode cL_law 1079 = .ok (.if_icmp .eq 5, 3) := by decide +kernel
theorem dL_law_1082 : decode cL_law 1082 = .ok (.iconst 0, 1) := by decide +kernel
theorem dL_law_1083 : decode cL_law 1083 = .ok (.ireturn, 1) := by decide +kernel
theorem dL_law_1084 : decode cL_law 1084 = .ok (.iload 6, 2) := by decide +kernel
theorem dL_law_1086 : decode cL_law 1086 = .ok (.ifCond .ne 15, 3) := by decide +kernel
theorem dL_law_1089 : decode cL_law 1089 = .ok (.aload_n 3, 1) := by decide +kernel
theorem dL_law_1090 : decode cL_law 1090 = .ok (.iconst 0, 1) := by decide +kernel
theorem dL_law_1091 : decode cL_law 1091 = .ok (.laload, 1) := by decide +kernel
theorem dL_law_1092 : decode cL_law 1092 = .ok (.iload 7, 2) := by decide +kernel
theorem dL_law_1094 : decode cL_law 1094 = .ok (.i2l, 1) := by decide +kernel
theorem dL_law_1095 : decode cL_law 1095 = .ok (.lcmp, 1) := by decide +kernel
theorem dL_law_1096 : decode cL_law 1096 = .ok (.ifCond .eq 5, 3) := by decide +kernel
theorem dL_law_1099 : decode cL_law 1099 = .ok (.iconst 0, 1) := by decide +kernel
theorem dL_law_1100 : decode cL_law 1100 = .ok (.ireturn, 1) := by decide +kernel
theorem dL_law_1101 : decode cL_law 1101 = .ok (.goto 534, 3) := by decide +kernel
theorem dL_law_1104 : decode cL_law 1104 = .ok (.aload_n 1, 1) := by decide +kernel
theorem dL_law_1105 : decode cL_law 1105 = .ok (.aload_n 0, 1) := by decide +kernel
theorem dL_law_1106 : decode cL_law 1106 = .ok (.iload 5, 2) := by decide +kernel
theorem dL_law_1108 : decode cL_law 1108 = .ok (.iconst 1, 1) := by decide +kernel
theorem dL_law_1109 : decode cL_law 1109 = .ok (.iadd, 1) := by decide +kernel
theorem dL_law_1110 : decode cL_law 1110 = .ok (.iaload, 1) := by decide +kernel
theorem dL_law_1111 : decode cL_law 1111 = .ok (.aload_n 0, 1) := by decide +kernel
theorem dL_law_1112 : decode cL_law 1112 = .ok (.iload 5, 2) := by decide +kernel
theorem dL_law_1114 : decode cL_law 1114 = .ok (.iconst 2, 1) := by decide +kernel
theorem dL_law_1115 : decode cL_law 1115 = .ok (.iadd, 1) := by decide +kernel
theorem dL_law_1116 : decode cL_law 1116 = .ok (.iaload, 1) := by decide +kernel
theorem dL_law_1117 : decode cL_law 1117 = .ok (.aload_n 0, 1) := by decide +kernel
theorem dL_law_1118 : decode cL_law 1118 = .ok (.iload 5, 2) := by decide +kernel
theorem dL_law_1120 : decode cL_law 1120 = .ok (.iconst 3, 1) := by decide +kernel
theorem dL_law_1121 : decode cL_law 1121 = .ok (.iadd, 1) := by decide +kernel
theorem dL_law_1122 : decode cL_law 1122 = .ok (.iaload, 1) := by decide +kernel
theorem dL_law_1123 : decode cL_law 1123 = .ok (.aload_n 3, 1) := by decide +kernel
theorem dL_law_1124 : decode cL_law 1124 = .ok (.invokestatic 136, 3) := by decide +kernel
theorem dL_law_1127 : decode cL_law 1127 = .ok (.istore 6, 2) := by decide +kernel
theorem dL_law_1129 : decode cL_law 1129 = .ok (.aload_n 2, 1) := by decide +kernel
theorem dL_law_1130 : decode cL_law 1130 = .ok (.aload_n 0, 1) := by decide +kernel
theorem dL_law_1131 : decode cL_law 1131 = .ok (.iload 5, 2) := by decide +kernel
theorem dL_law_1133 : decode cL_law 1133 = .ok (.iconst 1, 1) := by decide +kernel
theorem dL_law_1134 : decode cL_law 1134 = .ok (.iadd, 1) := by decide +kernel
theorem dL_law_1135 : decode cL_law 1135 = .ok (.iaload, 1) := by decide +kernel
theorem dL_law_1136 : decode cL_law 1136 = .ok (.aload_n 0, 1) := by decide +kernel
theorem dL_law_1137 : decode cL_law 1137 = .ok (.iload 5, 2) := by decide +kernel
theorem dL_law_1139 : decode cL_law 1139 = .ok (.iconst 2, 1) := by decide +kernel
theorem dL_law_1140 : decode cL_law 1140 = .ok (.iadd, 1) := by decide +kernel
theorem dL_law_1141 : decode cL_law 1141 = .ok (.iaload, 1) := by decide +kernel
theorem dL_law_1142 : decode cL_law 1142 = .ok (.aload_n 0, 1) := by decide +kernel
theorem dL_law_1143 : decode cL_law 1143 = .ok (.iload 5, 2) := by decide +kernel
theorem dL_law_1145 : decode cL_law 1145 = .ok (.iconst 3, 1) := by decide +kernel
theorem dL_law_1146 : decode cL_law 1146 = .ok (.iadd, 1) := by decide +kernel
theorem dL_law_1147 : decode cL_law 1147 = .ok (.iaload, 1) := by decide +kernel
theorem dL_law_1148 : decode cL_law 1148 = .ok (.invokevirtual 138, 3) := by decide +kernel
theorem dL_law_1151 : decode cL_law 1151 = .ok (.istore 7, 2) := by decide +kernel
theorem dL_law_1153 : decode cL_law 1153 = .ok (.aload_n 2, 1) := by decide +kernel
theorem dL_law_1154 : decode cL_law 1154 = .ok (.invokevirtual 92, 3) := by decide +kernel
theorem dL_law_1157 : decode cL_law 1157 = .ok (.iload 6, 2) := by decide +kernel
theorem dL_law_1159 : decode cL_law 1159 = .ok (.if_icmp .eq 5, 3) := by decide +kernel
theorem dL_law_1162 : decode cL_law 1162 = .ok (.iconst 0, 1) := by decide +kernel
theorem dL_law_1163 : decode cL_law 1163 = .ok (.ireturn, 1) := by decide +kernel
theorem dL_law_1164 : decode cL_law 1164 = .ok (.iload 6, 2) := by decide +kernel
theorem dL_law_1166 : decode cL_law 1166 = .ok (.ifCond .ne 15, 3) := by decide +kernel
theorem dL_law_1169 : decode cL_law 1169 = .ok (.aload_n 3, 1) := by decide +kernel
theorem dL_law_1170 : decode cL_law 1170 = .ok (.iconst 0, 1) := by decide +kernel
theorem dL_law_1171 : decode cL_law 1171 = .ok (.laload, 1) := by decide +kernel
theorem dL_law_1172 : decode cL_law 1172 = .ok (.iload 7, 2) := by decide +kernel
theorem dL_law_1174 : decode cL_law 1174 = .ok (.i2l, 1) := by decide +kernel
theorem dL_law_1175 : decode cL_law 1175 = .ok (.lcmp, 1) := by decide +kernel
theorem dL_law_1176 : decode cL_law 1176 = .ok (.ifCond .eq 5, 3) := by decide +kernel
theorem dL_law_1179 : decode cL_law 1179 = .ok (.iconst 0, 1) := by decide +kernel
theorem dL_law_1180 : decode cL_law 1180 = .ok (.ireturn, 1) := by decide +kernel
theorem dL_law_1181 : decode cL_law 1181 = .ok (.goto 454, 3) := by decide +kernel
theorem dL_law_1184 : decode cL_law 1184 = .ok (.aload_n 1, 1) := by decide +kernel
theorem dL_law_1185 : decode cL_law 1185 = .ok (.invokevirtual 139, 3) := by decide +kernel
theorem dL_law_1188 : decode cL_law 1188 = .ok (.aload_n 2, 1) := by decide +kernel
theorem dL_law_1189 : decode cL_law 1189 = .ok (.invokevirtual 142, 3) := by decide +kernel
theorem dL_law_1192 : decode cL_law 1192 = .ok (.if_icmp .eq 443, 3) := by decide +kernel
theorem dL_law_1195 : decode cL_law 1195 = .ok (.iconst 0, 1) := by decide +kernel
theorem dL_law_1196 : decode cL_law 1196 = .ok (.ireturn, 1) := by decide +kernel
theorem dL_law_1197 : decode cL_law 1197 = .ok (.aload_n 1, 1) := by decide +kernel
theorem dL_law_1198 : decode cL_law 1198 = .ok (.aload_n 0, 1) := by decide +kernel
theorem dL_law_1199 : decode cL_law 1199 = .ok (.iload 5, 2) := by decide +kernel
theorem dL_law_1201 : decode cL_law 1201 = .ok (.iconst 1, 1) := by decide +kernel
theorem dL_law_1202 : decode cL_law 1202 = .ok (.iadd, 1) := by decide +kernel
theorem dL_law_1203 : decode cL_law 1203 = .ok (.iaload, 1) := by decide +kernel
theorem dL_law_1204 : decode cL_law 1204 = .ok (.aload_n 0, 1) := by decide +kernel
theorem dL_law_1205 : decode cL_law 1205 = .ok (.iload 5, 2) := by decide +kernel
theorem dL_law_1207 : decode cL_law 1207 = .ok (.iconst 2, 1) := by decide +kernel
theorem dL_law_1208 : decode cL_law 1208 = .ok (.iadd, 1) := by decide +kernel
theorem dL_law_1209 : decode cL_law 1209 = .ok (.iaload, 1) := by decide +kernel
theorem dL_law_1210 : decode cL_law 1210 = .ok (.ifCond .eq 7, 3) := by decide +kernel
theorem dL_law_1213 : decode cL_law 1213 = .ok (.iconst 1, 1) := by decide +kernel
theorem dL_law_1214 : decode cL_law 1214 = .ok (.goto 4, 3) := by decide +kernel
theorem dL_law_1217 : decode cL_law 1217 = .ok (.iconst 0, 1) := by decide +kernel
theorem dL_law_1218 : decode cL_law 1218 = .ok (.aload_n 3, 1) := by decide +kernel
theorem dL_law_1219 : decode cL_law 1219 = .ok (.invokestatic 143, 3) := by decide +kernel
theorem dL_law_1222 : decode cL_law 1222 = .ok (.istore 6, 2) := by decide +kernel
theorem dL_law_1224 : decode cL_law 1224 = .ok (.aload_n 2, 1) := by decide +kernel
theorem dL_law_1225 : decode cL_law 1225 = .ok (.aload_n 0, 1) := by decide +kernel
theorem dL_law_1226 : decode cL_law 1226 = .ok (.iload 5, 2) := by decide +kernel
theorem dL_law_1228 : decode cL_law 1228 = .ok (.iconst 1, 1) := by decide +kernel
theorem dL_law_1229 : decode cL_law 1229 = .ok (.iadd, 1) := by decide +kernel
theorem dL_law_1230 : decode cL_law 1230 = .ok (.iaload, 1) := by decide +kernel
theorem dL_law_1231 : decode cL_law 1231 = .ok (.aload_n 0, 1) := by decide +kernel
theorem dL_law_1232 : decode cL_law 1232 = .ok (.iload 5, 2) := by decide +kernel
theorem dL_law_1234 : decode cL_law 1234 = .ok (.iconst 2, 1) := by decide +kernel
theorem dL_law_1235 : decode cL_law 1235 = .ok (.iadd, 1) := by decide +kernel
theorem dL_law_1236 : decode cL_law 1236 = .ok (.iaload, 1) := by decide +kernel
theorem dL_law_1237 : decode cL_law 1237 = .ok (.ifCond .eq 7, 3) := by decide +kernel
theorem dL_law_1240 : decode cL_law 1240 = .ok (.iconst 1, 1) := by decide +kernel
theorem dL_law_1241 : decode cL_law 1241 = .ok (.goto 4, 3) := by decide +kernel
theorem dL_law_1244 : decode cL_law 1244 = .ok (.iconst 0, 1) := by decide +kernel
theorem dL_law_1245 : decode cL_law 1245 = .ok (.invokevirtual 146, 3) := by decide +kernel
theorem dL_law_1248 : decode cL_law 1248 = .ok (.istore 7, 2) := by decide +kernel
theorem dL_law_1250 : decode cL_law 1250 = .ok (.aload_n 2, 1) := by decide +kernel
theorem dL_law_1251 : decode cL_law 1251 = .ok (.invokevirtual 92, 3) := by decide +kernel
theorem dL_law_1254 : decode cL_law 1254 = .ok (.iload 6, 2) := by decide +kernel
theorem dL_law_1256 : decode cL_law 1256 = .ok (.if_icmp .eq 5, 3) := by decide +kernel
theorem dL_law_1259 : decode cL_law 1259 = .ok (.iconst 0, 1) := by decide +kernel
theorem dL_law_1260 : decode cL_law 1260 = .ok (.ireturn, 1) := by decide +kernel
theorem dL_law_1261 : decode cL_law 1261 = .ok (.iload 6, 2) := by decide +kernel
theorem dL_law_1263 : decode cL_law 1263 = .ok (.ifCond .ne 15, 3) := by decide +kernel
theorem dL_law_1266 : decode cL_law 1266 = .ok (.aload_n 3, 1) := by decide +kernel
theorem dL_law_1267 : decode cL_law 1267 = .ok (.iconst 0, 1) := by decide +kernel
theorem dL_law_1268 : decode cL_law 1268 = .ok (.laload, 1) := by decide +kernel
theorem dL_law_1269 : decode cL_law 1269 = .ok (.iload 7, 2) := by decide +kernel
theorem dL_law_1271 : decode cL_law 1271 = .ok (.i2l, 1) := by decide +kernel
theorem dL_law_1272 : decode cL_law 1272 = .ok (.lcmp, 1) := by decide +kernel
theorem dL_law_1273 : decode cL_law 1273 = .ok (.ifCond .eq 5, 3) := by decide +kernel
theorem dL_law_1276 : decode cL_law 1276 = .ok (.iconst 0, 1) := by decide +kernel
theorem dL_law_1277 : decode cL_law 1277 = .ok (.ireturn, 1) := by decide +kernel
theorem dL_law_1278 : decode cL_law 1278 = .ok (.goto 357, 3) := by decide +kernel
theorem dL_law_1281 : decode cL_law 1281 = .ok (.aload_n 1, 1) := by decide +kernel
theorem dL_law_1282 : decode cL_law 1282 = .ok (.aload_n 0, 1) := by decide +kernel
theorem dL_law_1283 : decode cL_law 1283 = .ok (.iload 5, 2) := by decide +kernel
theorem dL_law_1285 : decode cL_law 1285 = .ok (.iconst 1, 1) := by decide +kernel
theorem dL_law_1286 : decode cL_law 1286 = .ok (.iadd, 1) := by decide +kernel
theorem dL_law_1287 : decode cL_law 1287 = .ok (.iaload, 1) := by decide +kernel
theorem dL_law_1288 : decode cL_law 1288 = .ok (.aload_n 3, 1) := by decide +kernel
theorem dL_law_1289 : decode cL_law 1289 = .ok (.invokestatic 147, 3) := by decide +kernel
theorem dL_law_1292 : decode cL_law 1292 = .ok (.istore 6, 2) := by decide +kernel
theorem dL_law_1294 : decode cL_law 1294 = .ok (.aload_n 2, 1) := by decide +kernel
theorem dL_law_1295 : decode cL_law 1295 = .ok (.aload_n 0, 1) := by decide +kernel
theorem dL_law_1296 : decode cL_law 1296 = .ok (.iload 5, 2) := by decide +kernel
theorem dL_law_1298 : decode cL_law 1298 = .ok (.iconst 1, 1) := by decide +kernel
theorem dL_law_1299 : decode cL_law 1299 = .ok (.iadd, 1) := by decide +kernel
theorem dL_law_1300 : decode cL_law 1300 = .ok (.iaload, 1) := by decide +kernel
theorem dL_law_1301 : decode cL_law 1301 = .ok (.invokevirtual 149, 3) := by decide +kernel
theorem dL_law_1304 : decode cL_law 1304 = .ok (.istore 7, 2) := by decide +kernel
theorem dL_law_1306 : decode cL_law 1306 = .ok (.aload_n 2, 1) := by decide +kernel
theorem dL_law_1307 : decode cL_law 1307 = .ok (.invokevirtual 92, 3) := by decide +kernel
theorem dL_law_1310 : decode cL_law 1310 = .ok (.iload 6, 2) := by decide +kernel
theorem dL_law_1312 : decode cL_law 1312 = .ok (.if_icmp .eq 5, 3) := by decide +kernel
theorem dL_law_1315 : decode cL_law 1315 = .ok (.iconst 0, 1) := by decide +kernel
theorem dL_law_1316 : decode cL_law 1316 = .ok (.ireturn, 1) := by decide +kernel
theorem dL_law_1317 : decode cL_law 1317 = .ok (.iload 6, 2) := by decide +kernel
theorem dL_law_1319 : decode cL_law 1319 = .ok (.ifCond .ne 15, 3) := by decide +kernel
theorem dL_law_1322 : decode cL_law 1322 = .ok (.aload_n 3, 1) := by decide +kernel
theorem dL_law_1323 : decode cL_law 1323 = .ok (.iconst 0, 1) := by decide +kernel
theorem dL_law_1324 : decode cL_law 1324 = .ok (.laload, 1) := by decide +kernel
theorem dL_law_1325 : decode cL_law 1325 = .ok (.iload 7, 2) := by decide +kernel
theorem dL_law_1327 : decode cL_law 1327 = .ok (.i2l, 1) := by decide +kernel
theorem dL_law_1328 : decode cL_law 1328 = .ok (.lcmp, 1) := by decide +kernel
theorem dL_law_1329 : decode cL_law 1329 = .ok (.ifCond .eq 5, 3) := by decide +kernel
theorem dL_law_1332 : decode cL_law 1332 = .ok (.iconst 0, 1) := by decide +kernel
theorem dL_law_1333 : decode cL_law 1333 = .ok (.ireturn, 1) := by decide +kernel
theorem dL_law_1334 : decode cL_law 1334 = .ok (.goto 301, 3) := by decide +kernel
theorem dL_law_1337 : decode cL_law 1337 = .ok (.aload_n 1, 1) := by decide +kernel
theorem dL_law_1338 : decode cL_law 1338 = .ok (.aload_n 0, 1) := by decide +kernel
theorem dL_law_1339 : decode cL_law 1339 = .ok (.iload 5, 2) := by decide +kernel
theorem dL_law_1341 : decode cL_law 1341 = .ok (.iconst 1, 1) := by decide +kernel
theorem dL_law_1342 : decode cL_law 1342 = .ok (.iadd, 1) := by decide +kernel
theorem dL_law_1343 : decode cL_law 1343 = .ok (.iaload, 1) := by decide +kernel
theorem dL_law_1344 : decode cL_law 1344 = .ok (.aload_n 3, 1) := by decide +kernel
theorem dL_law_1345 : decode cL_law 1345 = .ok (.invokestatic 150, 3) := by decide +kernel
theorem dL_law_1348 : decode cL_law 1348 = .ok (.istore 6, 2) := by decide +kernel
theorem dL_law_1350 : decode cL_law 1350 = .ok (.aload_n 2, 1) := by decide +kernel
theorem dL_law_1351 : decode cL_law 1351 = .ok (.aload_n 0, 1) := by decide +kernel
theorem dL_law_1352 : decode cL_law 1352 = .ok (.iload 5, 2) := by decide +kernel
theorem dL_law_1354 : decode cL_law 1354 = .ok (.iconst 1, 1) := by decide +kernel
theorem dL_law_1355 : decode cL_law 1355 = .ok (.iadd, 1) := by decide +kernel
theorem dL_law_1356 : decode cL_law 1356 = .ok (.iaload, 1) := by decide +kernel
theorem dL_law_1357 : decode cL_law 1357 = .ok (.invokevirtual 152, 3) := by decide +kernel
theorem dL_law_1360 : decode cL_law 1360 = .ok (.istore 7, 2) := by decide +kernel
theorem dL_law_1362 : decode cL_law 1362 = .ok (.aload_n 2, 1) := by decide +kernel
theorem dL_law_1363 : decode cL_law 1363 = .ok (.invokevirtual 92, 3) := by decide +kernel
theorem dL_law_1366 : decode cL_law 1366 = .ok (.iload 6, 2) := by decide +kernel
theorem dL_law_1368 : decode cL_law 1368 = .ok (.if_icmp .eq 5, 3) := by decide +kernel
theorem dL_law_1371 : decode cL_law 1371 = .ok (.iconst 0, 1) := by decide +kernel
theorem dL_law_1372 : decode cL_law 1372 = .ok (.ireturn, 1) := by decide +kernel
theorem dL_law_1373 : decode cL_law 1373 = .ok (.iload 6, 2) := by decide +kernel
theorem dL_law_1375 : decode cL_law 1375 = .ok (.ifCond .ne 15, 3) := by decide +kernel
theorem dL_law_1378 : decode cL_law 1378 = .ok (.aload_n 3, 1) := by decide +kernel
theorem dL_law_1379 : decode cL_law 1379 = .ok (.iconst 0, 1) := by decide +kernel
theorem dL_law_1380 : decode cL_law 1380 = .ok (.laload, 1) := by decide +kernel
theorem dL_law_1381 : decode cL_law 1381 = .ok (.iload 7, 2) := by decide +kernel
theorem dL_law_1383 : decode cL_law 1383 = .ok (.i2l, 1) := by decide +kernel
theorem dL_law_1384 : decode cL_law 1384 = .ok (.lcmp, 1) := by decide +kernel
theorem dL_law_1385 : decode cL_law 1385 = .ok (.ifCond .eq 5, 3) := by decide +kernel
theorem dL_law_1388 : decode cL_law 1388 = .ok (.iconst 0, 1) := by decide +kernel
theorem dL_law_1389 : decode cL_law 1389 = .ok (.ireturn, 1) := by decide +kernel
theorem dL_law_1390 : decode cL_law 1390 = .ok (.goto 245, 3) := by decide +kernel
theorem dL_law_1393 : decode cL_law 1393 = .ok (.aload_n 1, 1) := by decide +kernel
theorem dL_law_1394 : decode cL_law 1394 = .ok (.aload_n 0, 1) := by decide +kernel
theorem dL_law_1395 : decode cL_law 1395 = .ok (.iload 5, 2) := by decide +kernel
theorem dL_law_1397 : decode cL_law 1397 = .ok (.iconst 1, 1) := by decide +kernel
theorem dL_law_1398 : decode cL_law 1398 = .ok (.iadd, 1) := by decide +kernel
theorem dL_law_1399 : decode cL_law 1399 = .ok (.iaload, 1) := by decide +kernel
theorem dL_law_1400 : decode cL_law 1400 = .ok (.aload_n 0, 1) := by decide +kernel
theorem dL_law_1401 : decode cL_law 1401 = .ok (.iload 5, 2) := by decide +kernel
theorem dL_law_1403 : decode cL_law 1403 = .ok (.iconst 2, 1) := by decide +kernel
theorem dL_law_1404 : decode cL_law 1404 = .ok (.iadd, 1) := by decide +kernel
theorem dL_law_1405 : decode cL_law 1405 = .ok (.iaload, 1) := by decide +kernel
theorem dL_law_1406 : decode cL_law 1406 = .ok (.aload_n 3, 1) := by decide +kernel
theorem dL_law_1407 : decode cL_law 1407 = .ok (.invokestatic 153, 3) := by decide +kernel
theorem dL_law_1410 : decode cL_law 1410 = .ok (.istore 6, 2) := by decide +kernel
theorem dL_law_1412 : decode cL_law 1412 = .ok (.aload_n 2, 1) := by decide +kernel
theorem dL_law_1413 : decode cL_law 1413 = .ok (.aload_n 0, 1) := by decide +kernel
theorem dL_law_1414 : decode cL_law 1414 = .ok (.iload 5, 2) := by decide +kernel
theorem dL_law_1416 : decode cL_law 1416 = .ok (.iconst 1, 1) := by decide +kernel
theorem dL_law_1417 : decode cL_law 1417 = .ok (.iadd, 1) := by decide +kernel
theorem dL_law_1418 : decode cL_law 1418 = .ok (.iaload, 1) := by decide +kernel
theorem dL_law_1419 : decode cL_law 1419 = .ok (.aload_n 0, 1) := by decide +kernel
theorem dL_law_1420 : decode cL_law 1420 = .ok (.iload 5, 2) := by decide +kernel
theorem dL_law_1422 : decode cL_law 1422 = .ok (.iconst 2, 1) := by decide +kernel
theorem dL_law_1423 : decode cL_law 1423 = .ok (.iadd, 1) := by decide +kernel
theorem dL_law_1424 : decode cL_law 1424 = .ok (.iaload, 1) := by decide +kernel
theorem dL_law_1425 : decode cL_law 1425 = .ok (.invokevirtual 155, 3) := by decide +kernel
theorem dL_law_1428 : decode cL_law 1428 = .ok (.istore 7, 2) := by decide +kernel
theorem dL_law_1430 : decode cL_law 1430 = .ok (.aload_n 2, 1) := by decide +kernel
theorem dL_law_1431 : decode cL_law 1431 = .ok (.invokevirtual 92, 3) := by decide +kernel
theorem dL_law_1434 : decode cL_law 1434 = .ok (.iload 6, 2) := by decide +kernel
theorem dL_law_1436 : decode cL_law 1436 = .ok (.if_icmp .eq 5, 3) := by decide +kernel
theorem dL_law_1439 : decode cL_law 1439 = .ok (.iconst 0, 1) := by decide +kernel
theorem dL_law_1440 : decode cL_law 1440 = .ok (.ireturn, 1) := by decide +kernel
theorem dL_law_1441 : decode cL_law 1441 = .ok (.iload 6, 2) := by decide +kernel
theorem dL_law_1443 : decode cL_law 1443 = .ok (.ifCond .ne 15, 3) := by decide +kernel
theorem dL_law_1446 : decode cL_law 1446 = .ok (.aload_n 3, 1) := by decide +kernel
theorem dL_law_1447 : decode cL_law 1447 = .ok (.iconst 0, 1) := by decide +kernel
theorem dL_law_1448 : decode cL_law 1448 = .ok (.laload, 1) := by decide +kernel
theorem dL_law_1449 : decode cL_law 1449 = .ok (.iload 7, 2) := by decide +kernel
theorem dL_law_1451 : decode cL_law 1451 = .ok (.i2l, 1) := by decide +kernel
theorem dL_law_1452 : decode cL_law 1452 = .ok (.lcmp, 1) := by decide +kernel
theorem dL_law_1453 : decode cL_law 1453 = .ok (.ifCond .eq 5, 3) := by decide +kernel
theorem dL_law_1456 : decode cL_law 1456 = .ok (.iconst 0, 1) := by decide +kernel
theorem dL_law_1457 : decode cL_law 1457 = .ok (.ireturn, 1) := by decide +kernel
theorem dL_law_1458 : decode cL_law 1458 = .ok (.goto 177, 3) := by decide +kernel
theorem dL_law_1461 : decode cL_law 1461 = .ok (.aload_n 1, 1) := by decide +kernel
theorem dL_law_1462 : decode cL_law 1462 = .ok (.aload_n 0, 1) := by decide +kernel
theorem dL_law_1463 : decode cL_law 1463 = .ok (.iload 5, 2) := by decide +kernel
theorem dL_law_1465 : decode cL_law 1465 = .ok (.iconst 1, 1) := by decide +kernel
theorem dL_law_1466 : decode cL_law 1466 = .ok (.iadd, 1) := by decide +kernel
theorem dL_law_1467 : decode cL_law 1467 = .ok (.iaload, 1) := by decide +kernel
theorem dL_law_1468 : decode cL_law 1468 = .ok (.aload_n 3, 1) := by decide +kernel
theorem dL_law_1469 : decode cL_law 1469 = .ok (.invokestatic 156, 3) := by decide +kernel
theorem dL_law_1472 : decode cL_law 1472 = .ok (.istore 6, 2) := by decide +kernel
theorem dL_law_1474 : decode cL_law 1474 = .ok (.aload_n 2, 1) := by decide +kernel
theorem dL_law_1475 : decode cL_law 1475 = .ok (.aload_n 0, 1) := by decide +kernel
theorem dL_law_1476 : decode cL_law 1476 = .ok (.iload 5, 2) := by decide +kernel
theorem dL_law_1478 : decode cL_law 1478 = .ok (.iconst 1, 1) := by decide +kernel
theorem dL_law_1479 : decode cL_law 1479 = .ok (.iadd, 1) := by decide +kernel
theorem dL_law_1480 : decode cL_law 1480 = .ok (.iaload, 1) := by decide +kernel
theorem dL_law_1481 : decode cL_law 1481 = .ok (.invokevirtual 158, 3) := by decide +kernel
theorem dL_law_1484 : decode cL_law 1484 = .ok (.istore 7, 2) := by decide +kernel
theorem dL_law_1486 : decode cL_law 1486 = .ok (.aload_n 2, 1) := by decide +kernel
theorem dL_law_1487 : decode cL_law 1487 = .ok (.invokevirtual 92, 3) := by decide +kernel
theorem dL_law_1490 : decode cL_law 1490 = .ok (.iload 6, 2) := by decide +kernel
theorem dL_law_1492 : decode cL_law 1492 = .ok (.if_icmp .eq 5, 3) := by decide +kernel
theorem dL_law_1495 : decode cL_law 1495 = .ok (.iconst 0, 1) := by decide +kernel
theorem dL_law_1496 : decode cL_law 1496 = .ok (.ireturn, 1) := by decide +kernel
theorem dL_law_1497 : decode cL_law 1497 = .ok (.iload 6, 2) := by decide +kernel
theorem dL_law_1499 : decode cL_law 1499 = .ok (.ifCond .ne 15, 3) := by decide +kernel
theorem dL_law_1502 : decode cL_law 1502 = .ok (.aload_n 3, 1) := by decide +kernel
theorem dL_law_1503 : decode cL_law 1503 = .ok (.iconst 0, 1) := by decide +kernel
theorem dL_law_1504 : decode cL_law 1504 = .ok (.laload, 1) := by decide +kernel
theorem dL_law_1505 : decode cL_law 1505 = .ok (.iload 7, 2) := by decide +kernel
theorem dL_law_1507 : decode cL_law 1507 = .ok (.i2l, 1) := by decide +kernel
theorem dL_law_1508 : decode cL_law 1508 = .ok (.lcmp, 1) := by decide +kernel
theorem dL_law_1509 : decode cL_law 1509 = .ok (.ifCond .eq 5, 3) := by decide +kernel
theorem dL_law_1512 : decode cL_law 1512 = .ok (.iconst 0, 1) := by decide +kernel
theorem dL_law_1513 : decode cL_law 1513 = .ok (.ireturn, 1) := by decide +kernel
theorem dL_law_1514 : decode cL_law 1514 = .ok (.goto 121, 3) := by decide +kernel
theorem dL_law_1517 : decode cL_law 1517 = .ok (.aload_n 1, 1) := by decide +kernel
theorem dL_law_1518 : decode cL_law 1518 = .ok (.invokevirtual 159, 3) := by decide +kernel
theorem dL_law_1521 : decode cL_law 1521 = .ok (.aload_n 2, 1) := by decide +kernel
theorem dL_law_1522 : decode cL_law 1522 = .ok (.invokevirtual 162, 3) := by decide +kernel
theorem dL_law_1525 : decode cL_law 1525 = .ok (.if_icmp .eq 110, 3) := by decide +kernel
theorem dL_law_1528 : decode cL_law 1528 = .ok (.iconst 0, 1) := by decide +kernel
theorem dL_law_1529 : decode cL_law 1529 = .ok (.ireturn, 1) := by decide +kernel
theorem dL_law_1530 : decode cL_law 1530 = .ok (.aload_n 1, 1) := by decide +kernel
theorem dL_law_1531 : decode cL_law 1531 = .ok (.invokevirtual 163, 3) := by decide +kernel
theorem dL_law_1534 : decode cL_law 1534 = .ok (.aload_n 2, 1) := by decide +kernel
theorem dL_law_1535 : decode cL_law 1535 = .ok (.invokevirtual 167, 3) := by decide +kernel
theorem dL_law_1538 : decode cL_law 1538 = .ok (.lcmp, 1) := by decide +kernel
theorem dL_law_1539 : decode cL_law 1539 = .ok (.ifCond .eq 96, 3) := by decide +kernel
theorem dL_law_1542 : decode cL_law 1542 = .ok (.iconst 0, 1) := by decide +kernel
theorem dL_law_1543 : decode cL_law 1543 = .ok (.ireturn, 1) := by decide +kernel
theorem dL_law_1544 : decode cL_law 1544 = .ok (.aload_n 1, 1) := by decide +kernel
theorem dL_law_1545 : decode cL_law 1545 = .ok (.aload_n 0, 1) := by decide +kernel
theorem dL_law_1546 : decode cL_law 1546 = .ok (.iload 5, 2) := by decide +kernel
theorem dL_law_1548 : decode cL_law 1548 = .ok (.iconst 1, 1) := by decide +kernel
theorem dL_law_1549 : decode cL_law 1549 = .ok (.iadd, 1) := by decide +kernel
theorem dL_law_1550 : decode cL_law 1550 = .ok (.iaload, 1) := by decide +kernel
theorem dL_law_1551 : decode cL_law 1551 = .ok (.aload 4, 2) := by decide +kernel
theorem dL_law_1553 : decode cL_law 1553 = .ok (.invokestatic 168, 3) := by decide +kernel
theorem dL_law_1556 : decode cL_law 1556 = .ok (.istore 6, 2) := by decide +kernel
theorem dL_law_1558 : decode cL_law 1558 = .ok (.aload_n 2, 1) := by decide +kernel
theorem dL_law_1559 : decode cL_law 1559 = .ok (.aload_n 0, 1) := by decide +kernel
theorem dL_law_1560 : decode cL_law 1560 = .ok (.iload 5, 2) := by decide +kernel
theorem dL_law_1562 : decode cL_law 1562 = .ok (.iconst 1, 1) := by decide +kernel
theorem dL_law_1563 : decode cL_law 1563 = .ok (.iadd, 1) := by decide +kernel
theorem dL_law_1564 : decode cL_law 1564 = .ok (.iaload, 1) := by decide +kernel
theorem dL_law_1565 : decode cL_law 1565 = .ok (.invokevirtual 171, 3) := by decide +kernel
theorem dL_law_1568 : decode cL_law 1568 = .ok (.dstore 7, 2) := by decide +kernel
theorem dL_law_1570 : decode cL_law 1570 = .ok (.aload_n 2, 1) := by decide +kernel
theorem dL_law_1571 : decode cL_law 1571 = .ok (.invokevirtual 92, 3) := by decide +kernel
theorem dL_law_1574 : decode cL_law 1574 = .ok (.iload 6, 2) := by decide +kernel
theorem dL_law_1576 : decode cL_law 1576 = .ok (.if_icmp .eq 5, 3) := by decide +kernel
theorem dL_law_1579 : decode cL_law 1579 = .ok (.iconst 0, 1) := by decide +kernel
theorem dL_law_1580 : decode cL_law 1580 = .ok (.ireturn, 1) := by decide +kernel
theorem dL_law_1581 : decode cL_law 1581 = .ok (.iload 6, 2) := by decide +kernel
theorem dL_law_1583 : decode cL_law 1583 = .ok (.ifCond .ne 35, 3) := by decide +kernel
theorem dL_law_1586 : decode cL_law 1586 = .ok (.aload 4, 2) := by decide +kernel
theorem dL_law_1588 : decode cL_law 1588 = .ok (.iconst 0, 1) := by decide +kernel
theorem dL_law_1589 : decode cL_law 1589 = .ok (.daload, 1) := by decide +kernel
theorem dL_law_1590 : decode cL_law 1590 = .ok (.dload 7, 2) := by decide +kernel
theorem dL_law_1592 : decode cL_law 1592 = .ok (.dcmp .l, 1) := by decide +kernel
theorem dL_law_1593 : decode cL_law 1593 = .ok (.ifCond .eq 25, 3) := by decide +kernel
theorem dL_law_1596 : decode cL_law 1596 = .ok (.aload 4, 2) := by decide +kernel
theorem dL_law_1598 : decode cL_law 1598 = .ok (.iconst 0, 1) := by decide +kernel
theorem dL_law_1599 : decode cL_law 1599 = .ok (.daload, 1) := by decide +kernel
theorem dL_law_1600 : decode cL_law 1600 = .ok (.aload 4, 2) := by decide +kernel
theorem dL_law_1602 : decode cL_law 1602 = .ok (.iconst 0, 1) := by decide +kernel
theorem dL_law_1603 : decode cL_law 1603 = .ok (.daload, 1) := by decide +kernel
theorem dL_law_1604 : decode cL_law 1604 = .ok (.dcmp .l, 1) := by decide +kernel
theorem dL_law_1605 : decode cL_law 1605 = .ok (.ifCond .eq 11, 3) := by decide +kernel
theorem dL_law_1608 : decode cL_law 1608 = .ok (.dload 7, 2) := by decide +kernel
theorem dL_law_1610 : decode cL_law 1610 = .ok (.dload 7, 2) := by decide +kernel
theorem dL_law_1612 : decode cL_law 1612 = .ok (.dcmp .l, 1) := by decide +kernel
theorem dL_law_1613 : decode cL_law 1613 = .ok (.ifCond .ne 5, 3) := by decide +kernel
theorem dL_law_1616 : decode cL_law 1616 = .ok (.iconst 0, 1) := by decide +kernel
theorem dL_law_1617 : decode cL_law 1617 = .ok (.ireturn, 1) := by decide +kernel
theorem dL_law_1618 : decode cL_law 1618 = .ok (.goto 17, 3) := by decide +kernel
theorem dL_law_1621 : decode cL_law 1621 = .ok (.aload_n 1, 1) := by decide +kernel
theorem dL_law_1622 : decode cL_law 1622 = .ok (.invokevirtual 172, 3) := by decide +kernel
theorem dL_law_1625 : decode cL_law 1625 = .ok (.aload_n 2, 1) := by decide +kernel
theorem dL_law_1626 : decode cL_law 1626 = .ok (.invokevirtual 175, 3) := by decide +kernel
theorem dL_law_1629 : decode cL_law 1629 = .ok (.lcmp, 1) := by decide +kernel
theorem dL_law_1630 : decode cL_law 1630 = .ok (.ifCond .eq 5, 3) := by decide +kernel
theorem dL_law_1633 : decode cL_law 1633 = .ok (.iconst 0, 1) := by decide +kernel
theorem dL_law_1634 : decode cL_law 1634 = .ok (.ireturn, 1) := by decide +kernel
theorem dL_law_1635 : decode cL_law 1635 = .ok (.iinc 5 5, 3) := by decide +kernel
theorem dL_law_1638 : decode cL_law 1638 = .ok (.goto (-1610), 3) := by decide +kernel
theorem dL_law_1641 : decode cL_law 1641 = .ok (.iconst 1, 1) := by decide +kernel
theorem dL_law_1642 : decode cL_law 1642 = .ok (.ireturn, 1) := by decide +kernel
end
section
/-! THE LAYER OF THIS CLAIM: a world is a function from (kind, number) to what the cell holds; ad gives the addresses. Every cell of both systems has an address of at least B0 (the heap's size at the law's entry). -/
abbrev Wd : Type := Nat → Nat → Option va_E
abbrev Ad : Type := Nat → Nat → Nat
abbrev Gg : Type := va_G × (Nat → ClassId)
abbrev tysG (g : Gg) : List (ClassId × FieldType) := [(g.2 0, .int), (g.2 1, .boolean), (g.2 2, .object RX2), (g.2 3, .object RX3), (g.2 4, .object RX4), (g.2 5, .long), (g.2 6, .double)]
def up2 (f : Wd) (k i : Nat) (e : va_E) : Wd := fun k' i' => if k' = k ∧ i' = i then some e else f k' i'
def adup (ad : Ad) (k i q : Nat) : Ad := fun k' i' => if k' = k ∧ i' = i then q else ad k' i'
theorem up2_s (f : Wd) (k i : Nat) (e : va_E) : up2 f k i e k i = some e := by simp [up2]
theorem up2_n (f : Wd) {k i k' i' : Nat} (e : va_E) (h : ¬ (k' = k ∧ i' = i)) : up2 f k i e k' i' = f k' i' := if_neg h
theorem up2_up2 (f : Wd) (k i : Nat) (e e' : va_E) : up2 (up2 f k i e) k i e' = up2 f k i e' := by
  funext k' i'
  simp only [up2]
  split <;> rfl
theorem adup_s (ad : Ad) (k i q : Nat) : adup ad k i q k i = q := by simp [adup]
theorem adup_n (ad : Ad) {k i k' i' : Nat} (q : Nat) (h : ¬ (k' = k ∧ i' = i)) : adup ad k i q k' i' = ad k' i' := if_neg h
def PI (g : Gg) (ad : Ad) (f : Wd) (H : Heap) : Prop := ∀ k i e, f k i = some e → va_at g.1 vwCl (ad k i, e) H
def DI (B0 : Nat) (ad : Ad) (f : Wd) : Prop := (∀ k i k' i' e e', f k i = some e → f k' i' = some e' → ad k i = ad k' i' → k = k' ∧ i = i') ∧ ∀ k i e, f k i = some e → B0 ≤ ad k i
def WI (g : Gg) (ad : Ad) (B0 : Nat) (f : Wd) (s : State) (H : Heap) (locs : List Loc) : Prop := PI g ad f H ∧ DI B0 ad f ∧ va_S (fun q => B0 ≤ q) s.heap H locs
theorem WI.put {g : Gg} {ad : Ad} {B0 : Nat} {f : Wd} {s : State} {H H1 : Heap} {locs : List Loc} (h : WI g ad B0 f s H locs) {k i n : Nat} {e0 e : va_E} (h0 : f k i = some e0) (he : va_at g.1 vwCl (ad k i, e) H1) (z : H1.size = H.size) (oq : ∀ q : Nat, q ≠ ad k i → H1[q]? = H[q]?) : WI g ad B0 (up2 f k i e) s H1 (locs ++ [⟨ad k i, n⟩]) := by
  obtain ⟨hP, hD, hS⟩ := h
  have key : ∀ a b x, up2 f k i e a b = some x → ∃ y, f a b = some y := by
    intro a b x hx
    by_cases hc : a = k ∧ b = i
    · obtain ⟨rfl, rfl⟩ := hc
      exact ⟨_, h0⟩
    · rw [up2_n f e hc] at hx
      exact ⟨_, hx⟩
  refine ⟨fun k' i' e' h' => ?_, ⟨fun k1 i1 k2 i2 e1 e2 h1 h2 hq => ?_, fun k' i' e' h' => ?_⟩, hS.put z oq (hD.2 _ _ _ h0)⟩
  · by_cases hc : k' = k ∧ i' = i
    · obtain ⟨rfl, rfl⟩ := hc
      rw [up2_s] at h'
      cases h'
      exact he
    · rw [up2_n f e hc] at h'
      exact (hP _ _ _ h').kept (oq _ (fun hq => hc (hD.1 _ _ _ _ _ _ h' h0 hq)))
  · obtain ⟨y1, g1⟩ := key _ _ _ h1
    obtain ⟨y2, g2⟩ := key _ _ _ h2
    exact hD.1 _ _ _ _ _ _ g1 g2 hq
  · obtain ⟨y1, g1⟩ := key _ _ _ h'
    exact hD.2 _ _ _ g1
theorem PI.lt {g : Gg} {ad : Ad} {f : Wd} {H : Heap} (h : PI g ad f H) {k i : Nat} {e : va_E} (he : f k i = some e) : ad k i < H.size := (h k i e he).lt
theorem WI.new {g : Gg} {ad : Ad} {B0 : Nat} {f : Wd} {s : State} {H H1 : Heap} {locs : List Loc} (h : WI g ad B0 f s H locs) {k i : Nat} {e : va_E} (h0 : f k i = none) (hB : B0 ≤ s.heap.size) (he : va_at g.1 vwCl (H.size, e) H1) (z : H1.size = H.size + 1) (oq : ∀ q : Nat, q < H.size → H1[q]? = H[q]?) : WI g (adup ad k i H.size) B0 (up2 f k i e) s H1 locs := by
  obtain ⟨hP, hD, hS⟩ := h
  have key : ∀ a b x, up2 f k i e a b = some x → (a = k ∧ b = i ∧ adup ad k i H.size a b = H.size ∧ x = e) ∨ (¬ (a = k ∧ b = i) ∧ f a b = some x ∧ adup ad k i H.size a b = ad a b ∧ ad a b < H.size) := by
    intro a b x hx
    by_cases hc : a = k ∧ b = i
    · obtain ⟨rfl, rfl⟩ := hc
      rw [up2_s] at hx
      cases hx
      exact Or.inl ⟨rfl, rfl, adup_s _ _ _ _, rfl⟩
    · rw [up2_n f e hc] at hx
      exact Or.inr ⟨hc, hx, adup_n _ _ hc, hP.lt hx⟩
  refine ⟨fun k' i' e' h' => ?_, ⟨fun k1 i1 k2 i2 e1 e2 h1 h2 hq => ?_, fun k' i' e' h' => ?_⟩, ⟨Nat.le_trans hS.1 (by omega), fun q h1 h2 => (oq q (Nat.lt_of_lt_of_le h1 hS.1)).trans (hS.2.1 q h1 h2), hS.2.2⟩⟩
  · rcases key _ _ _ h' with ⟨rfl, rfl, ha, rfl⟩ | ⟨hc, hf, ha, hl⟩
    · rw [ha]; exact he
    · rw [ha]; exact (hP _ _ _ hf).kept (oq _ hl)
  · rcases key _ _ _ h1 with ⟨rfl, rfl, ha, rfl⟩ | ⟨hc, hf, ha, hl⟩ <;> rcases key _ _ _ h2 with ⟨rfl, rfl, ha2, rfl⟩ | ⟨hc2, hf2, ha2, hl2⟩
    · exact ⟨rfl, rfl⟩
    · rw [ha, ha2] at hq; omega
    · rw [ha, ha2] at hq; omega
    · rw [ha, ha2] at hq
      exact hD.1 _ _ _ _ _ _ hf hf2 hq
  · rcases key _ _ _ h' with ⟨rfl, rfl, ha, rfl⟩ | ⟨hc, hf, ha, hl⟩
    · rw [ha]; exact Nat.le_trans hB hS.1
    · rw [ha]; exact hD.2 _ _ _ hf
/-- fewer cells, the addresses of these as before -/
theorem WI.sub {g : Gg} {ad ad' : Ad} {B0 : Nat} {f f' : Wd} {s : State} {H : Heap} {locs : List Loc} (h : WI g ad B0 f s H locs) (hs : ∀ k i e, f' k i = some e → f k i = some e ∧ ad' k i = ad k i) : WI g ad' B0 f' s H locs := by
  obtain ⟨hP, hD, hS⟩ := h
  refine ⟨fun k i e he => ?_, ⟨fun k1 i1 k2 i2 e1 e2 h1 h2 hq => ?_, fun k i e he => ?_⟩, hS⟩
  · obtain ⟨h1, h2⟩ := hs k i e he
    rw [h2]
    exact hP _ _ _ h1
  · obtain ⟨g1, g2⟩ := hs _ _ _ h1
    obtain ⟨g3, g4⟩ := hs _ _ _ h2
    rw [g2, g4] at hq
    exact hD.1 _ _ _ _ _ _ g1 g3 hq
  · obtain ⟨h1, h2⟩ := hs k i e he
    rw [h2]
    exact hD.2 _ _ _ h1
theorem WI.cast {g : Gg} {ad : Ad} {B0 : Nat} {f f' : Wd} {s : State} {H : Heap} {locs : List Loc} (h : WI g ad B0 f s H locs) (e : f = f') : WI g ad B0 f' s H locs := e ▸ h
/-- what stays of the start: the statics of Throwable, the texts of the throws, what can be cast -/
def strsX : List (Nat × String) := [(244, "out of range"), (83, "no more products"), (91, "no more rooms"), (254, "no such room"), (114, "it defrosts already"), (249, "no such fact"), (252, "no such product"), (141, "the pallet cannot be put there"), (256, "no such pallet"), (162, "the pallet cannot be moved there"), (224, "the pallet is gone")]
def ZS (B0 : Nat) (U : State) (H : Heap) : Prop := vx_Zq Bundle.tN "UNASSIGNED_STACK" Bundle.steD (fun q => B0 ≤ q) U H ∧ vx_Zq Bundle.tN "SUPPRESSED_SENTINEL" Bundle.listD (fun q => B0 ≤ q) U H
abbrev nIA : String := "java/lang/IllegalArgumentException"
abbrev nIS : String := "java/lang/IllegalStateException"
abbrev nIO : String := "java/lang/IndexOutOfBoundsException"
def XS (U : State) : Prop := (∀ q ∈ strsX, ∃ sa, vk_R RX6 q.1 q.2 sa U) ∧ (va_Nw (.castable nIA nIA) U ∧ va_Nw (.castable nIS nIS) U ∧ va_Nw (.castable nIO nIO) U ∧ va_Nw (.castable "[I" "java/lang/Cloneable") U) ∧ va_Nw (.methodLinkNest RX6 9 yX0_init RX6) U ∧ va_Nc nIS nIA U ∧ va_Nc nIA nIO U ∧ va_Nc nIS nIO U ∧ va_AO RX2 U ∧ va_AO RX3 U ∧ va_AO RX4 U ∧ va_Nw (.declares (Bundle.initS "java/lang/RuntimeException")) U ∧ va_Nw (.declares (Bundle.initS "java/lang/Exception")) U ∧ va_Nw (.declares (Bundle.initS Bundle.tN)) U
theorem XS.same {u U : State} (h : u.vm = U.vm) (hX : XS u) : XS U := by
  obtain ⟨h1, ⟨c1, c2, c3, c4⟩, h3, n1, n2, n3, a1, a2, a3, d1, d2, d3⟩ := hX
  have ha : u.vm.Alike U.vm := by rw [h]; exact Vm.Alike.refl _
  exact ⟨fun q hq => by obtain ⟨sa, hs⟩ := h1 q hq; exact ⟨sa, hs.same h.symm⟩, ⟨c1.same rfl h, c2.same rfl h, c3.same rfl h, c4.same rfl h⟩, h3.same rfl h, n1.moved ha, n2.moved ha, n3.moved ha, a1.moved ha, a2.moved ha, a3.moved ha, d1.same rfl h, d2.same rfl h, d3.same rfl h⟩
theorem XS.warm {s U : State} (hW : s.WarmedH U.vm) (hX : XS s) : XS U := by
  obtain ⟨h1, ⟨c1, c2, c3, c4⟩, h3, n1, n2, n3, a1, a2, a3, d1, d2, d3⟩ := hX
  exact ⟨fun q hq => by obtain ⟨sa, hs⟩ := h1 q hq; exact ⟨sa, hs.warm hW⟩, ⟨c1.warmC hW, c2.warmC hW, c3.warmC hW, c4.warmC hW⟩, h3.warmM hW, n1.moved hW.alike, n2.moved hW.alike, n3.moved hW.alike, a1.moved hW.alike, a2.moved hW.alike, a3.moved hW.alike, d1.warmD hW, d2.warmD hW, d3.warmD hW⟩
def KI (g : Gg) (B0 : Nat) (U : State) : Prop := va_K g.1 vwCl (tysG g) U ∧ ZS B0 U U.heap ∧ XS U ∧ B0 ≤ U.heap.size
theorem KI.calling {g : Gg} {B0 : Nat} {U : State} (h : KI g B0 U) (j : JFrame) (mk : MethodId) (a : Array Value) : KI g B0 (U.calling j mk a) :=
  ⟨va_K.moved (u := U) (U := U.calling j mk a) (Vm.Alike.refl U.vm) h.1, ⟨vx_Zq.moved (u := U) (U := U.calling j mk a) (Vm.Alike.refl U.vm) h.2.1.1, vx_Zq.moved (u := U) (U := U.calling j mk a) (Vm.Alike.refl U.vm) h.2.1.2⟩, XS.same (u := U) (U := U.calling j mk a) rfl h.2.2.1, h.2.2.2⟩
theorem KI.go {g : Gg} {B0 : Nat} {s U : State} {H : Heap} {locs : List Loc} (h : KI g B0 s) (hS : va_S (fun q => B0 ≤ q) s.heap H locs) (hU : U.heap = H) (hW : s.WarmedH U.vm) : KI g B0 U := by
  obtain ⟨h1, ⟨h2, h3⟩, h4, h5⟩ := h
  subst hU
  exact ⟨va_K.moved hW.alike h1, ⟨vx_Zq.moved hW.alike (h2.kept hS.2.1), vx_Zq.moved hW.alike (h3.kept hS.2.1)⟩, h4.warm hW, Nat.le_trans h5 hS.1⟩
def PcI (g : Gg) (B0 : Nat) (ad : Ad) (f : Wd) (As : List Value) : Array Value → State → Prop := va_Pc As (fun U => PI g ad f U.heap ∧ KI g B0 U)
theorem PcI_blind {g : Gg} {B0 : Nat} {ad : Ad} {f : Wd} {As : List Value} : FrameBlind (PcI g B0 ad f As) := fun a _ j mk h => ⟨h.1, h.2.1, h.2.2.calling j mk a⟩
def QI (g : Gg) (B0 : Nat) (Rr : Option Value → Ad → Wd → Prop) : Array Value → State → Outcome → State → Prop := fun _ st oc t => (∃ (v : Option Value) (ad' : Ad) (f' : Wd), oc = .returned v ∧ Rr v ad' f' ∧ DI B0 ad' f' ∧ PI g ad' f' t.heap) ∧ va_F (fun q => B0 ≤ q) st t
def XI (g : Gg) (B0 : Nat) (RX : String → Ad → Wd → Prop) : String → State → State → Prop := fun E st t => (∃ (ad' : Ad) (f' : Wd), RX E ad' f' ∧ DI B0 ad' f' ∧ PI g ad' f' t.heap) ∧ va_F (fun q => B0 ≤ q) st t
def wsM (y : MethodName) (b : ByteArray) (n : Nat) (r : Option FieldType) : List Cond := Cond.code y b n r :: allW
/-- A METHOD: from the world f at the addresses ad it comes back with (v, ad', f') in Rr, or throws an E with (E, ad', f') in RX -/
def MM (l : Launch) (g : Gg) (B0 : Nat) (y : MethodName) (ws : List Cond) (rm : Room) (As : List Value) (ad : Ad) (f : Wd) (Rr : Option Value → Ad → Wd → Prop) (RX : String → Ad → Wd → Prop) (mc ms : Nat) : Prop :=
  l.stackTraces = false → DI B0 ad f → vx_Met l y ws rm (PcI g B0 ad f As) (QI g B0 Rr) (XI g B0 RX) mc ms (fun q => B0 ≤ q)
/-- a constructor: it throws nothing -/
def MK (l : Launch) (g : Gg) (B0 : Nat) (y : MethodName) (ws : List Cond) (rm : Room) (As : List Value) (ad : Ad) (f : Wd) (Rr : Option Value → Ad → Wd → Prop) (mc ms : Nat) : Prop :=
  DI B0 ad f → Met l y ws rm (PcI g B0 ad f As) (QI g B0 Rr) mc ms (fun q => B0 ≤ q)
abbrev noX : String → Ad → Wd → Prop := fun _ _ _ => False
/-- in a method: what its rows stand on -/
def Cx (p : Program) (s : State) (m : MethodId) (args : Array Value) (meth : Method) (c : Code) (own : String) (cc : ByteArray) (nL : Nat) (ret : Option FieldType) (g : Gg) (B0 : Nat) : Prop :=
  CallFix p m c cc nL s args allW own ∧ meth.sig.returnType = ret ∧ meth.locks = false ∧ KI g B0 s
/-- a method without a table of its own -/
def Cn (c : Code) : Prop := ∀ x ∈ c.exceptionTable.toList, False
section CORE
variable {p : Program} {l : Launch} {e : Env} {R : Room} {s : State} {m : MethodId} {args : Array Value} {below : List Frame} {meth : Method} {c : Code} {H : Heap} {locs : List Loc} {cells slots : Nat} {Q : State → Prop}
variable {g : Gg} {B0 : Nat} {ad : Ad} {f : Wd} {own : String} {cc : ByteArray} {nL : Nat} {ret : Option FieldType}
theorem MM.start {y : MethodName} {maxL mc ms : Nat} {rm : Room} {As : List Value} {Rr : Option Value → Ad → Wd → Prop} {RX : String → Ad → Wd → Prop} (hy : plainName y.cls = true) (hA : (lg_sl As).length ≤ maxL)
    (body : l.stackTraces = false → ∀ (p : Program) (e : Env) (s : State) (m : MethodId) (below : List Frame) (meth : Method) (c : Code) (ls : Array Slot), Cx p s m As.toArray meth c y.cls cc maxL ret g B0 → Cn c → WI g ad B0 f s s.heap [] → lv_has ls maxL (lv_args 0 As) →
      W p l e rm s m As.toArray below meth c s.heap [] 0 0 (vx_MQ below (QI g B0 Rr) (XI g B0 RX) As.toArray s mc ms (fun q => B0 ≤ q)) (F0 m 0 ls [])) : MM l g B0 y (wsM y cc maxL ret) rm As ad f Rr RX mc ms := by
  intro hl hD
  refine vx_ofW (cc := cc) (maxL := maxL) (ret := ret) hy rfl ?_
  intro p e s m args below meth c s₁ B hml hno hv
  obtain ⟨rfl, hP, hKI⟩ := hv
  have hts := atoms_spec (ws := wsM y cc maxL ret) B.pre
  have hown : s.vm.findClass y.cls = some m.cls := findClass_of_methodNamed B.named
  have hlv := lv_entry As (n := maxL) hA
  rw [lg_entry_eq]
  generalize (lg_sl As ++ List.replicate (maxL - (lg_sl As).length) Slot.unset).toArray = ls at hlv ⊢
  exact body hl p e s m below meth c ls ⟨⟨B.exec, B.bytes, hml, hown, fun w h => hts w (List.mem_cons_of_mem _ h)⟩, B.returns, B.notSynchronized, hKI⟩ hno ⟨hP, hD, va_S.rf⟩ hlv
theorem MK.start {y : MethodName} {maxL mc ms : Nat} {rm : Room} {As : List Value} {Rr : Option Value → Ad → Wd → Prop} (hy : plainName y.cls = true) (hin : y.name = "<init>") (hA : (lg_sl As).length ≤ maxL)
    (body : ∀ (p : Program) (e : Env) (s : State) (m : MethodId) (below : List Frame) (meth : Method) (c : Code) (ls : Array Slot), Cx p s m As.toArray meth c y.cls cc maxL ret g B0 → meth.name = "<init>" → WI g ad B0 f s s.heap [] → lv_has ls maxL (lv_args 0 As) →
      W p l e rm s m As.toArray below meth c s.heap [] 0 0 (MQ below (QI g B0 Rr) As.toArray s mc ms (fun q => B0 ≤ q)) (F0 m 0 ls [])) : MK l g B0 y (wsM y cc maxL ret) rm As ad f Rr mc ms := by
  intro hD
  refine Met.ofW (cc := cc) (maxL := maxL) (ret := ret) hy rfl ?_
  intro p e s m args below meth c s₁ B hml hv
  obtain ⟨rfl, hP, hKI⟩ := hv
  have hts := atoms_spec (ws := wsM y cc maxL ret) B.pre
  have hown : s.vm.findClass y.cls = some m.cls := findClass_of_methodNamed B.named
  have hname : meth.name = "<init>" := (name_of_methodNamed B.named B.method).1.trans hin
  have hlv := lv_entry As (n := maxL) hA
  rw [lg_entry_eq]
  generalize (lg_sl As ++ List.replicate (maxL - (lg_sl As).length) Slot.unset).toArray = ls at hlv ⊢
  exact body p e s m below meth c ls ⟨⟨B.exec, B.bytes, hml, hown, fun w h => hts w (List.mem_cons_of_mem _ h)⟩, B.returns, B.notSynchronized, hKI⟩ hname ⟨hP, hD, va_S.rf⟩ hlv
variable {pc : Nat} {ls : Array Slot} {rest st0 : List Value}
theorem PI.one (h : PI g ad f H) {k i : Nat} {e : va_E} (he : f k i = some e) : va_P g.1 vwCl [(ad k i, e)] H := fun n q hq => by
  have hz : n < 1 := (List.getElem?_eq_some_iff.mp hq).1
  rw [show n = 0 by omega] at hq
  cases hq
  exact h _ _ _ he
theorem r_get (hC : Cx p s m args meth c own cc nL ret g B0) (hI : WI g ad B0 f s H locs) {ref C : String} {T : u_T} {N ci index : Nat} (hin : ∀ w ∈ u_ws C T N, w ∈ allW) (hc : vwCl[ci]? = some (C, T, N)) (k : Nat) (hk : k < N) (hl : Cond.fieldLink own index ref (T k).2.1 (T k).2.2.1 ∈ allW) (hr : (T k).1 = ref) {kk ii : Nat} {fs : List Value} (he : f kk ii = some (.inr (ci, fs))) {v : Value} (hv : fs[k]? = some v)
    (hdg : decode cc pc = .ok (.getfield index, 3)) (kont : W p l e R s m args below meth c H locs cells slots Q (F0 m (pc + 3) ls (v :: rest))) : W p l e R s m args below meth c H locs cells slots Q (F0 m pc ls (.ref (ad kk ii) :: rest)) := by
  obtain ⟨⟨hx, hb, hml, hown, hts⟩, -, -, hKI⟩ := hC
  subst hr
  exact va_get hx hb hts hin hown hKI.1 (hI.1.one he) 0 rfl hc k hk (hts _ hl) (fun _ h => h) hv hdg kont
theorem r_put (hC : Cx p s m args meth c own cc nL ret g B0) (hI : WI g ad B0 f s H locs) {ref C : String} {T : u_T} {N ci index : Nat} (hin : ∀ w ∈ u_ws C T N, w ∈ allW) (hc : vwCl[ci]? = some (C, T, N)) (ty0 : Nat → FieldType) (hty : ∀ k, k < N → parseFieldDescriptor (T k).2.2.1 = some (ty0 k)) (hnm : ∀ a, a < N → ∀ b, b < N → a ≠ b → (T a).2.1 ≠ (T b).2.1) (k : Nat) (hk : k < N) (hl : Cond.fieldLink own index ref (T k).2.1 (T k).2.2.1 ∈ allW) (hr : (T k).1 = ref) (hfin : (T k).2.2.2 = false) {ty : FieldType} (hd : parseFieldDescriptor (T k).2.2.1 = some ty) {kk ii : Nat} {fs : List Value} (he : f kk ii = some (.inr (ci, fs))) {v : Value} (hn : narrow ty v = v) (hfit : fits ty v = true) (hlen : k < fs.length)
    (hdg : decode cc pc = .ok (.putfield index, 3)) (kont : ∀ (H1 : Heap) (locs1 : List Loc), WI g ad B0 (up2 f kk ii (.inr (ci, fs.set k v))) s H1 locs1 → W p l e R s m args below meth c H1 locs1 cells slots Q (F0 m (pc + 3) ls rest)) : W p l e R s m args below meth c H locs cells slots Q (F0 m pc ls (v :: .ref (ad kk ii) :: rest)) := by
  obtain ⟨⟨hx, hb, hml, hown, hts⟩, -, -, hKI⟩ := hC
  subst hr
  have hK := hKI.1
  have hap := va_apart (own := own) hts hin ty0 hty hnm hK hc
  obtain ⟨r, h1, cell, q1, q2, q3, q4⟩ := hI.1 _ _ _ he
  have hr : r = (C, T, N) := Option.some.inj (h1.symm.trans hc)
  subst hr
  obtain ⟨hS, hfc, kC, hkC, hkind⟩ := hK.1 ci _ hc
  obtain ⟨cf, kf, fi, fd, hi, hsl⟩ := hS k hk
  have hlay := hts _ (hin _ (u_in_lay hk))
  unfold u_lay at hlay
  rw [if_neg (by rw [hfin]; decide)] at hlay
  have hst := (u_facts hfc hkC (u_lays hts hin hk) hi).1
  have h6 := u_store hfc hkC hkind hlay hi hd hn hfit
  refine W.putK hx hb (f := fd) ⟨hown, hts _ hl, ⟨_, _, _, hi⟩, hst⟩ (by rw [q2]; exact h6) q1 q3 (by rw [hsl]; exact k2_hasslot (q4 k hk)) rfl rfl hdg fun H' e1 e2 e3 => ?_
  rw [hsl] at e1 ⊢
  exact kont H' _ (hI.put he ⟨_, hc, t_OB.to (V := updV (vp_V fs) k v) ⟨_, e1, q2, q3, t_set q4 hap hk v⟩ (fun j _ => vp_updV_set hlen v j)⟩ e2 e3)
theorem r_putF (hC : Cx p s m args meth c own cc nL ret g B0) (hin2 : meth.name = "<init>") (hI : WI g ad B0 f s H locs) {ref C : String} {T : u_T} {N ci index : Nat} (hin : ∀ w ∈ u_ws C T N, w ∈ allW) (hc : vwCl[ci]? = some (C, T, N)) (ty0 : Nat → FieldType) (hty : ∀ k, k < N → parseFieldDescriptor (T k).2.2.1 = some (ty0 k)) (hnm : ∀ a, a < N → ∀ b, b < N → a ≠ b → (T a).2.1 ≠ (T b).2.1) (k : Nat) (hk : k < N) (hl : Cond.fieldLink own index ref (T k).2.1 (T k).2.2.1 ∈ allW) (hr : (T k).1 = ref) (hfin : (T k).2.2.2 = true) (hdecl : (T k).1 = own) {ty : FieldType} (hd : parseFieldDescriptor (T k).2.2.1 = some ty) {kk ii : Nat} {fs : List Value} (he : f kk ii = some (.inr (ci, fs))) {v : Value} (hn : narrow ty v = v) (hfit : fits ty v = true) (hlen : k < fs.length)
    (hdg : decode cc pc = .ok (.putfield index, 3)) (kont : ∀ (H1 : Heap) (locs1 : List Loc), WI g ad B0 (up2 f kk ii (.inr (ci, fs.set k v))) s H1 locs1 → W p l e R s m args below meth c H1 locs1 cells slots Q (F0 m (pc + 3) ls rest)) : W p l e R s m args below meth c H locs cells slots Q (F0 m pc ls (v :: .ref (ad kk ii) :: rest)) := by
  obtain ⟨⟨hx, hb, hml, hown, hts⟩, -, -, hKI⟩ := hC
  subst hr
  have hK := hKI.1
  have hap := va_apart (own := own) hts hin ty0 hty hnm hK hc
  obtain ⟨r, h1, cell, q1, q2, q3, q4⟩ := hI.1 _ _ _ he
  have hr : r = (C, T, N) := Option.some.inj (h1.symm.trans hc)
  subst hr
  obtain ⟨hS, hfc, kC, hkC, hkind⟩ := hK.1 ci _ hc
  obtain ⟨cf, kf, fi, fd, hi, hsl⟩ := hS k hk
  have hlay := hts _ (hin _ (u_in_lay hk))
  unfold u_lay at hlay
  rw [if_pos hfin] at hlay
  have hst := (u_facts hfc hkC (u_lays hts hin hk) hi).1
  have hcf : m.cls = cf := by
    obtain ⟨_, _, c', _, _, _, -, -, hf', -, -, -, hown2, -⟩ := Cond.laysFinal_spec hlay
    have e1 : c' = cf := by have := hi.symm.trans hf'; simp at this; exact this.1.symm
    rw [hdecl] at hown2
    rw [← e1]; exact Option.some.inj (hown.symm.trans hown2)
  have h6 := u_fits hfc hkC hkind (Or.inr hlay) hi hd hn hfit
  refine W.putFinK hx hb hown (hts _ hl) hi hst hcf hin2 (by rw [q2]; exact h6) q1 q3 (by rw [hsl]; exact k2_hasslot (q4 k hk)) rfl rfl hdg fun H' e1 e2 e3 => ?_
  rw [hsl] at e1 ⊢
  exact kont H' _ (hI.put he ⟨_, hc, t_OB.to (V := updV (vp_V fs) k v) ⟨_, e1, q2, q3, t_set q4 hap hk v⟩ (fun j _ => vp_updV_set hlen v j)⟩ e2 e3)
end CORE
end
section
/-! rows over a world: arrays, objects and arrays that are made, calls, throws, ends. The rows r_clone, r_copy and the news follow the kit's own rows (va_clone, va_copyi, va_new, va_newa, va_newq), with the frame kept in hand. -/
section ROWS
variable {p : Program} {l : Launch} {e : Env} {R : Room} {s : State} {m : MethodId} {args : Array Value} {below : List Frame} {meth : Method} {c : Code} {H : Heap} {locs : List Loc} {cells slots : Nat} {Q : State → Prop}
variable {g : Gg} {B0 : Nat} {ad : Ad} {f : Wd} {own : String} {cc : ByteArray} {nL : Nat} {ret : Option FieldType}
variable {pc : Nat} {ls : Array Slot} {rest st0 : List Value} {kk ii : Nat}
theorem r_alen (hC : Cx p s m args meth c own cc nL ret g B0) (hI : WI g ad B0 f s H locs) {cA : ClassId} {x : vp_A} (he : f kk ii = some (.inl (cA, x))) (t0 : Nat) {ty : FieldType} (ht : (tysG g)[t0]? = some (cA, ty)) {v : Int32} (hv : nI x.1 = v) (hdg : decode cc pc = .ok (.arraylength, 1))
    (kont : W p l e R s m args below meth c H locs cells slots Q (F0 m (pc + 1) ls (.int v :: rest))) : W p l e R s m args below meth c H locs cells slots Q (F0 m pc ls (.ref (ad kk ii) :: rest)) :=
  va_alen hC.1.1 hC.1.2.1 hC.2.2.2.1 (hI.1.one he) 0 t0 rfl ht hv hdg kont
theorem r_iald (hC : Cx p s m args meth c own cc nL ret g B0) (hI : WI g ad B0 f s H locs) {n : Nat} {fn : Nat → Int32} (he : f kk ii = some (.inl (g.2 0, n, .inl fn))) {i : Int32} {j : Nat} (hi : i = nI j) (hj : j < n) (hn : n < 2 ^ 31) (hdg : decode cc pc = .ok (.iaload, 1))
    (kont : W p l e R s m args below meth c H locs cells slots Q (F0 m (pc + 1) ls (.int (fn j) :: rest))) : W p l e R s m args below meth c H locs cells slots Q (F0 m pc ls (.int i :: .ref (ad kk ii) :: rest)) := by
  subst hi
  have h2 : (nI j).toNatClampNeg = j := nI_clamp (by omega)
  exact va_iald hC.1.1 hC.1.2.1 hC.2.2.2.1 (hI.1.one he) 0 0 rfl rfl (vp_in_nI hj hn) hdg (by rw [h2]; exact kont)
theorem r_zald (hC : Cx p s m args meth c own cc nL ret g B0) (hI : WI g ad B0 f s H locs) {n : Nat} {fn : Nat → Int32} (he : f kk ii = some (.inl (g.2 1, n, .inl fn))) {i : Int32} {j : Nat} (hi : i = nI j) (hj : j < n) (hn : n < 2 ^ 31) (hdg : decode cc pc = .ok (.baload, 1))
    (kont : W p l e R s m args below meth c H locs cells slots Q (F0 m (pc + 1) ls (.int (fn j) :: rest))) : W p l e R s m args below meth c H locs cells slots Q (F0 m pc ls (.int i :: .ref (ad kk ii) :: rest)) := by
  subst hi
  have h2 : (nI j).toNatClampNeg = j := nI_clamp (by omega)
  exact va_zald hC.1.1 hC.1.2.1 hC.2.2.2.1 (hI.1.one he) 0 1 rfl rfl (vp_in_nI hj hn) hdg (by rw [h2]; exact kont)
theorem r_lald (hC : Cx p s m args meth c own cc nL ret g B0) (hI : WI g ad B0 f s H locs) {n : Nat} {fn : Nat → Int64} (he : f kk ii = some (.inl (g.2 5, n, .inr (.inl fn)))) {i : Int32} {j : Nat} (hi : i = nI j) (hj : j < n) (hn : n < 2 ^ 31) (hdg : decode cc pc = .ok (.laload, 1))
    (kont : W p l e R s m args below meth c H locs cells slots Q (F0 m (pc + 1) ls (.long (fn j) :: rest))) : W p l e R s m args below meth c H locs cells slots Q (F0 m pc ls (.int i :: .ref (ad kk ii) :: rest)) := by
  subst hi
  have h2 : (nI j).toNatClampNeg = j := nI_clamp (by omega)
  exact va_lald hC.1.1 hC.1.2.1 hC.2.2.2.1 (hI.1.one he) 0 5 rfl rfl (vp_in_nI hj hn) hdg (by rw [h2]; exact kont)
theorem r_dald (hC : Cx p s m args meth c own cc nL ret g B0) (hI : WI g ad B0 f s H locs) {n : Nat} {fn : Nat → UInt64} (he : f kk ii = some (.inl (g.2 6, n, .inr (.inr (.inr (.inl fn)))))) {i : Int32} {j : Nat} (hi : i = nI j) (hj : j < n) (hn : n < 2 ^ 31) (hdg : decode cc pc = .ok (.daload, 1))
    (kont : W p l e R s m args below meth c H locs cells slots Q (F0 m (pc + 1) ls (.double (fn j) :: rest))) : W p l e R s m args below meth c H locs cells slots Q (F0 m pc ls (.int i :: .ref (ad kk ii) :: rest)) := by
  subst hi
  have h2 : (nI j).toNatClampNeg = j := nI_clamp (by omega)
  exact va_dald hC.1.1 hC.1.2.1 hC.2.2.2.1 (hI.1.one he) 0 6 rfl rfl (vp_in_nI hj hn) hdg (by rw [h2]; exact kont)
theorem r_aald (hC : Cx p s m args meth c own cc nL ret g B0) (hI : WI g ad B0 f s H locs) {cA : ClassId} {C : String} {n : Nat} {fn : Nat → Option Nat} (he : f kk ii = some (.inl (cA, n, .inr (.inr (.inr (.inr fn)))))) (t0 : Nat) (ht : (tysG g)[t0]? = some (cA, .object C)) {i : Int32} {j : Nat} (hi : i = nI j) (hj : j < n) (hn : n < 2 ^ 31) (hdg : decode cc pc = .ok (.aaload, 1))
    (kont : W p l e R s m args below meth c H locs cells slots Q (F0 m (pc + 1) ls (va_rf (fn j) :: rest))) : W p l e R s m args below meth c H locs cells slots Q (F0 m pc ls (.int i :: .ref (ad kk ii) :: rest)) := by
  subst hi
  have h2 : (nI j).toNatClampNeg = j := nI_clamp (by omega)
  exact va_aldq hC.1.1 hC.1.2.1 hC.2.2.2.1 (hI.1.one he) 0 t0 rfl ht (vp_in_nI hj hn) hdg (by rw [h2]; exact kont)
theorem r_iast (hC : Cx p s m args meth c own cc nL ret g B0) (hI : WI g ad B0 f s H locs) {n : Nat} {fn : Nat → Int32} (he : f kk ii = some (.inl (g.2 0, n, .inl fn))) {i x : Int32} {j : Nat} (hi : i = nI j) (hj : j < n) (hn : n < 2 ^ 31) (hdg : decode cc pc = .ok (.iastore, 1))
    (kont : ∀ (H1 : Heap) (locs1 : List Loc), WI g ad B0 (up2 f kk ii (.inl (g.2 0, n, .inl (upd fn j x)))) s H1 locs1 → W p l e R s m args below meth c H1 locs1 cells slots Q (F0 m (pc + 1) ls rest)) : W p l e R s m args below meth c H locs cells slots Q (F0 m pc ls (.int x :: .int i :: .ref (ad kk ii) :: rest)) := by
  subst hi
  have h2 : (nI j).toNatClampNeg = j := nI_clamp (by omega)
  have h1 := vp_in_nI hj hn
  refine W.iast hC.1.1 hC.1.2.1 (hI.1 _ _ _ he) ((hC.2.2.2.1.2 0 _ rfl).1 n (fun j => .int (fn j))) (fun q => by cases q) (by show ¬ (_ ∨ (arrV _ _ _).slots.size ≤ _); rw [arrV_size]; exact h1) rfl rfl hdg fun H1 e z oq => ?_
  refine kont H1 _ (hI.put he ?_ z oq)
  show H1[_]? = some (vp_cell _ _)
  rw [e, h2]
  rw [vp_cell_i, vp_cell_i, arrV_store]
  congr 2
  funext q
  by_cases hq : q = j
  · subst hq
    simp [updV, upd]
  · simp [updV, upd, hq]
theorem r_zast (hC : Cx p s m args meth c own cc nL ret g B0) (hI : WI g ad B0 f s H locs) {n : Nat} {fn : Nat → Int32} (he : f kk ii = some (.inl (g.2 1, n, .inl fn))) {i x : Int32} {j : Nat} (hi : i = nI j) (hj : j < n) (hn : n < 2 ^ 31) (hx : narrow .boolean (.int x) = .int x) (hdg : decode cc pc = .ok (.bastore, 1))
    (kont : ∀ (H1 : Heap) (locs1 : List Loc), WI g ad B0 (up2 f kk ii (.inl (g.2 1, n, .inl (upd fn j x)))) s H1 locs1 → W p l e R s m args below meth c H1 locs1 cells slots Q (F0 m (pc + 1) ls rest)) : W p l e R s m args below meth c H locs cells slots Q (F0 m pc ls (.int x :: .int i :: .ref (ad kk ii) :: rest)) := by
  subst hi
  have h2 : (nI j).toNatClampNeg = j := nI_clamp (by omega)
  have h1 := vp_in_nI hj hn
  refine W.zast hC.1.1 hC.1.2.1 (hI.1 _ _ _ he) ((hC.2.2.2.1.2 1 _ rfl).1 n (fun j => .int (fn j))) (fun q => by cases q) (by show ¬ (_ ∨ (arrV _ _ _).slots.size ≤ _); rw [arrV_size]; exact h1) rfl rfl hdg fun H1 e z oq => ?_
  refine kont H1 _ (hI.put he ?_ z oq)
  show H1[_]? = some (vp_cell _ _)
  rw [e, h2, hx]
  rw [vp_cell_i, vp_cell_i, arrV_store]
  congr 2
  funext q
  by_cases hq : q = j
  · subst hq
    simp [updV, upd]
  · simp [updV, upd, hq]
theorem r_last (hC : Cx p s m args meth c own cc nL ret g B0) (hI : WI g ad B0 f s H locs) {n : Nat} {fn : Nat → Int64} (he : f kk ii = some (.inl (g.2 5, n, .inr (.inl fn)))) {i : Int32} {x : Int64} {j : Nat} (hi : i = nI j) (hj : j < n) (hn : n < 2 ^ 31) (hdg : decode cc pc = .ok (.lastore, 1))
    (kont : ∀ (H1 : Heap) (locs1 : List Loc), WI g ad B0 (up2 f kk ii (.inl (g.2 5, n, .inr (.inl (vp_updL fn j x))))) s H1 locs1 → W p l e R s m args below meth c H1 locs1 cells slots Q (F0 m (pc + 1) ls rest)) : W p l e R s m args below meth c H locs cells slots Q (F0 m pc ls (.long x :: .int i :: .ref (ad kk ii) :: rest)) := by
  subst hi
  have h2 : (nI j).toNatClampNeg = j := nI_clamp (by omega)
  have h1 := vp_in_nI hj hn
  refine W.last hC.1.1 hC.1.2.1 (hI.1 _ _ _ he) ((hC.2.2.2.1.2 5 _ rfl).1 n (fun j => .long (fn j))) (fun q => by cases q) (by show ¬ (_ ∨ (arrV _ _ _).slots.size ≤ _); rw [arrV_size]; exact h1) rfl rfl hdg fun H1 e z oq => ?_
  refine kont H1 _ (hI.put he ?_ z oq)
  show H1[_]? = some (vp_cell _ _)
  rw [e, h2]
  rw [vp_cell_l, vp_cell_l, arrV_store]
  congr 2
  funext q
  by_cases hq : q = j
  · subst hq
    simp [updV, vp_updL]
  · simp [updV, vp_updL, hq]
theorem r_dast (hC : Cx p s m args meth c own cc nL ret g B0) (hI : WI g ad B0 f s H locs) {n : Nat} {fn : Nat → UInt64} (he : f kk ii = some (.inl (g.2 6, n, .inr (.inr (.inr (.inl fn)))))) {i : Int32} {x : UInt64} {j : Nat} (hi : i = nI j) (hj : j < n) (hn : n < 2 ^ 31) (hdg : decode cc pc = .ok (.dastore, 1))
    (kont : ∀ (H1 : Heap) (locs1 : List Loc), WI g ad B0 (up2 f kk ii (.inl (g.2 6, n, .inr (.inr (.inr (.inl (vf_upd fn j x))))))) s H1 locs1 → W p l e R s m args below meth c H1 locs1 cells slots Q (F0 m (pc + 1) ls rest)) : W p l e R s m args below meth c H locs cells slots Q (F0 m pc ls (.double x :: .int i :: .ref (ad kk ii) :: rest)) := by
  subst hi
  have h2 : (nI j).toNatClampNeg = j := nI_clamp (by omega)
  have h1 := vp_in_nI hj hn
  refine W.dast hC.1.1 hC.1.2.1 (hI.1 _ _ _ he) ((hC.2.2.2.1.2 6 _ rfl).1 n (fun j => .double (fn j))) (fun q => by cases q) (by show ¬ (_ ∨ (arrV _ _ _).slots.size ≤ _); rw [arrV_size]; exact h1) rfl rfl hdg fun H1 e z oq => ?_
  refine kont H1 _ (hI.put he ?_ z oq)
  show H1[_]? = some (vp_cell _ _)
  rw [e, h2]
  rw [vp_cell_d, vp_cell_d, arrV_store]
  congr 2
  funext q
  by_cases hq : q = j
  · subst hq
    simp [updV, vf_upd]
  · simp [updV, vf_upd, hq]
theorem r_aast (hC : Cx p s m args meth c own cc nL ret g B0) (hI : WI g ad B0 f s H locs) {cA : ClassId} {r : vw_C} {n k2 i2 ci : Nat} {vs : List Value} {fn : Nat → Option Nat} (he : f kk ii = some (.inl (cA, n, .inr (.inr (.inr (.inr fn)))))) (t0 : Nat) (ht : (tysG g)[t0]? = some (cA, .object r.1)) (hv : f k2 i2 = some (.inr (ci, vs))) (hc : vwCl[ci]? = some r) {i : Int32} {j : Nat} (hi : i = nI j) (hj : j < n) (hn : n < 2 ^ 31) (hdg : decode cc pc = .ok (.aastore, 1))
    (kont : ∀ (H1 : Heap) (locs1 : List Loc), WI g ad B0 (up2 f kk ii (.inl (cA, n, .inr (.inr (.inr (.inr (va_up fn j (some (ad k2 i2))))))))) s H1 locs1 → W p l e R s m args below meth c H1 locs1 cells slots Q (F0 m (pc + 1) ls rest)) : W p l e R s m args below meth c H locs cells slots Q (F0 m pc ls (.ref (ad k2 i2) :: .int i :: .ref (ad kk ii) :: rest)) := by
  subst hi
  have h2 : (nI j).toNatClampNeg = j := nI_clamp (by omega)
  have hin := vp_in_nI hj hn
  have hK := hC.2.2.2.1
  have hlt : (nI j).toNatClampNeg < n := Nat.not_le.mp fun q => hin (Or.inr q)
  have h0 : ¬ nI j < 0 := fun q => hin (Or.inl q)
  obtain ⟨r', hr', cellV, g1, g2, g3, -⟩ := hI.1 _ _ _ hv
  have hcls := (hK.1 ci r hc).2
  obtain ⟨kA, comp, k1, k2, k3, -⟩ := (hK.2 t0 _ ht).2
  have hcomp : comp = g.1.1 ci := Option.some.inj (k3.symm.trans hcls.1)
  subst hcomp
  obtain ⟨kC, hkC, -⟩ := hcls.2
  refine W.aast hC.1.1 hC.1.2.1 (hI.1 _ _ _ he) (fun q h => by cases h) (fun h => by cases h) k1 k2 rfl hkC ⟨h0, by show _ < (arrV _ _ _).slots.size; rw [arrV_size]; exact hlt⟩ g1 (fun q h => by rw [g3] at h; cases h) (by rw [g2]; exact hkC) (by rw [g2]; exact va_assign hcls) rfl rfl hdg fun H1 e z oq => ?_
  refine kont H1 _ (hI.put he ?_ z oq)
  show H1[_]? = some (vp_cell _ _)
  rw [e, h2]
  rw [vp_cell_q, vp_cell_q, arrV_store]
  congr 2
  funext q
  by_cases hq : q = j
  · subst hq
    simp [updV, va_up, va_rf]
  · simp [updV, va_up, hq]
theorem r_aastN (hC : Cx p s m args meth c own cc nL ret g B0) (hI : WI g ad B0 f s H locs) {cA : ClassId} {C : String} {n : Nat} {fn : Nat → Option Nat} (he : f kk ii = some (.inl (cA, n, .inr (.inr (.inr (.inr fn)))))) (t0 : Nat) (ht : (tysG g)[t0]? = some (cA, .object C)) {i : Int32} {j : Nat} (hi : i = nI j) (hj : j < n) (hn : n < 2 ^ 31) (hdg : decode cc pc = .ok (.aastore, 1))
    (kont : ∀ (H1 : Heap) (locs1 : List Loc), WI g ad B0 (up2 f kk ii (.inl (cA, n, .inr (.inr (.inr (.inr (va_up fn j none))))))) s H1 locs1 → W p l e R s m args below meth c H1 locs1 cells slots Q (F0 m (pc + 1) ls rest)) : W p l e R s m args below meth c H locs cells slots Q (F0 m pc ls (.null :: .int i :: .ref (ad kk ii) :: rest)) := by
  subst hi
  have h2 : (nI j).toNatClampNeg = j := nI_clamp (by omega)
  have hin := vp_in_nI hj hn
  refine va_WaastN (C := C) hC.1.1 hC.1.2.1 (hI.1 _ _ _ he) ((hC.2.2.2.1.2 t0 _ ht).1 n (fun j => va_rf (fn j))) (fun h => by cases h) (by show ¬ (_ ∨ (arrV _ _ _).slots.size ≤ _); rw [arrV_size]; exact hin) rfl rfl hdg fun H1 e z oq => ?_
  refine kont H1 _ (hI.put he ?_ z oq)
  show H1[_]? = some (vp_cell _ _)
  rw [e, h2]
  rw [vp_cell_q, vp_cell_q, arrV_store]
  congr 2
  funext q
  by_cases hq : q = j
  · subst hq
    simp [updV, va_up, va_rf]
  · simp [updV, va_up, hq]
/-- new: the object's cell is of the kind kk, number ii, which the world does not have -/
theorem r_new (hC : Cx p s m args meth c own cc nL ret g B0) (hI : WI g ad B0 f s H locs) (kk ii : Nat) (h0 : f kk ii = none) {C : String} {T : u_T} {N ci index : Nat} (hin : ∀ w ∈ u_ws C T N, w ∈ allW) (ty : Nat → FieldType) (hty : ∀ k, k < N → parseFieldDescriptor (T k).2.2.1 = some (ty k)) (hcl : Cond.classLink own index C ∈ allW) (hinst : Cond.instantiable C N ∈ allW) (hini : Cond.initialized C ∈ allW) (hc : vwCl[ci]? = some (C, T, N)) {fs : List Value} (hfs : ∀ j, j < N → defaultValue (ty j) = vp_V fs j) (hcells : cells + 1 ≤ R.cells) (hslots : slots + N ≤ R.slots) (hdg : decode cc pc = .ok (.new index, 3))
    (kont : ∀ (q : Nat) (H1 : Heap), WI g (adup ad kk ii q) B0 (up2 f kk ii (.inr (ci, fs))) s H1 locs → W p l e R s m args below meth c H1 locs (cells + 1) (slots + N) Q (F0 m (pc + 3) ls (.ref q :: rest))) : W p l e R s m args below meth c H locs cells slots Q (F0 m pc ls rest) := by
  obtain ⟨⟨hx, hb, hml, hown, hts⟩, -, -, hKI⟩ := hC
  have hKn := hKI.1.1 ci _ hc
  refine W.newcK hx hb hown (hts _ hcl) (hts _ hinst) (hts _ hini) rfl hdg hcells hslots hKn.2.1 rfl fun H1 kC hkC e1 z1 o1 => ?_
  exact kont H.size H1 (hI.new h0 hKI.2.2.2 ⟨_, hc, (u_born ty hts hin hKn hkC e1 hty).to hfs⟩ z1 o1)
/-- an array of numbers -/
theorem r_newa (hC : Cx p s m args meth c own cc nL ret g B0) (hI : WI g ad B0 f s H locs) (kk ii : Nat) (h0 : f kk ii = none) {atype : ArrayType} (harr : Cond.arrayClass (newarray.typeOf atype) ∈ allW) (t0 : Nat) {cA : ClassId} (ht : (tysG g)[t0]? = some (cA, newarray.typeOf atype)) (hnm : s.vm.findClass ("[" ++ (newarray.typeOf atype).toString) = some cA) {n : Int32} {N' : Nat} {a0 : vp_A} (ha : vp_cell cA a0 = arrV cA N' (fun _ => defaultValue (newarray.typeOf atype))) (hn : ¬ n < 0) (hN : n.toNatClampNeg = N') (hbytes : N' * componentBytes (newarray.typeOf atype) ≤ 536870912) (hcells : cells + 1 ≤ R.cells) (hslots : slots + N' ≤ R.slots) (hdg : decode cc pc = .ok (.newarray atype, 2))
    (kont : ∀ (q : Nat) (H1 : Heap), WI g (adup ad kk ii q) B0 (up2 f kk ii (.inl (cA, a0))) s H1 locs → W p l e R s m args below meth c H1 locs (cells + 1) (slots + N') Q (F0 m (pc + 2) ls (.ref q :: rest))) : W p l e R s m args below meth c H locs cells slots Q (F0 m pc ls (.int n :: rest)) := by
  obtain ⟨⟨hx, hb, hml, hown, hts⟩, -, -, hKI⟩ := hC
  refine va_newaK hx hb (hts _ harr) rfl hdg rfl hn hN hbytes hcells hslots rfl fun H1 cB e1 z1 o1 hAr hNm => ?_
  cases hnm.symm.trans hNm
  exact kont H.size H1 (hI.new h0 hKI.2.2.2 (by show H1[_]? = some (vp_cell _ _); rw [ha]; exact e1) z1 o1)
/-- an array of references -/
theorem r_newq (hC : Cx p s m args meth c own cc nL ret g B0) (hI : WI g ad B0 f s H locs) (kk ii : Nat) (h0 : f kk ii = none) {C : String} {index : Nat} (hclink : Cond.classLink own index C ∈ allW) (hover : va_AO C s) (t0 : Nat) {cA : ClassId} (ht : (tysG g)[t0]? = some (cA, .object C)) {n : Int32} {N' : Nat} (hn : ¬ n < 0) (hN : n.toNatClampNeg = N') (hbytes : N' * 4 ≤ 536870912) (hcells : cells + 1 ≤ R.cells) (hslots : slots + N' ≤ R.slots) (hdg : decode cc pc = .ok (.anewarray index, 3))
    (kont : ∀ (q : Nat) (H1 : Heap), WI g (adup ad kk ii q) B0 (up2 f kk ii (.inl (cA, N', .inr (.inr (.inr (.inr (fun _ => none))))))) s H1 locs → W p l e R s m args below meth c H1 locs (cells + 1) (slots + N') Q (F0 m (pc + 3) ls (.ref q :: rest))) : W p l e R s m args below meth c H locs cells slots Q (F0 m pc ls (.int n :: rest)) := by
  obtain ⟨⟨hx, hb, hml, hown, hts⟩, -, -, hKI⟩ := hC
  subst hN
  obtain ⟨kA, comp, g1, g2, g3, g4⟩ := (hKI.1.2 t0 _ ht).2
  refine W.anew hx hb hown (hts _ hclink) (va_AO.use hover) rfl hdg rfl hn hbytes hcells hslots fun cB kB comp2 f1 f2 f3 f4 => ?_
  cases g4.symm.trans f1
  generalize hH1 : H.push ({ cls := cA, slots := Array.replicate n.toNatClampNeg .null, vm := .none } : Cell) = H1
  have z1 : H1.size = H.size + 1 := by rw [← hH1, Array.size_push]
  have e1 : H1[H.size]? = some (arrV cA n.toNatClampNeg (fun _ => .null)) := by rw [← hH1, Array.getElem?_push_size, ← arrV_new]
  have o1 : ∀ q : Nat, q < H.size → H1[q]? = H[q]? := fun q hq => by rw [← hH1, Array.getElem?_push, if_neg (Nat.ne_of_lt hq)]
  exact kont H.size H1 (hI.new h0 hKI.2.2.2 (by show H1[_]? = some (vp_cell _ _); rw [vp_cell_q]; exact e1) z1 o1)
/-- behind a call that may throw -/
theorem rn_W {mc ms : Nat} {a : Array Value} {Rr : Option Value → Ad → Wd → Prop} {RX : String → Ad → Wd → Prop} (hI : WI g ad B0 f s H locs) (hr : vx_Run p l e R s m args below meth c H locs cells slots mc ms (F0 m pc ls st0) rest (QI g B0 Rr a) (XI g B0 RX) (fun q => B0 ≤ q))
    (kont : ∀ (v : Option Value) (ad' : Ad) (f' : Wd) (H1 : Heap) (locs1 : List Loc), Rr v ad' f' → WI g ad' B0 f' s H1 locs1 → W p l e R s m args below meth c H1 locs1 (cells + mc) (slots + ms) Q (F0 m (pc + 3) ls (v.toList ++ rest)))
    (kx : ∀ (E : String) (ce : Cell) (q : Addr) (ad' : Ad) (f' : Wd) (H1 : Heap) (locs1 : List Loc), RX E ad' f' → WI g ad' B0 f' s H1 locs1 → H1[q]? = some ce → ce.vm = .none → s.vm.findClass E = some ce.cls → vx_W p l e R s m args below meth c H1 locs1 (cells + mc) (slots + ms) Q (F0 m pc ls rest) q) : W p l e R s m args below meth c H locs cells slots Q (F0 m pc ls st0) := by
  intro T hT X
  rcases hr T hT X with ⟨v, st₀, t, T', L, h0, X', hL, e1, e2, ⟨⟨v', ad', f', hv, hp, hd, hb⟩, hF⟩, st⟩ | ⟨q, st₀, t, T', L, E, ce, h0, X', hL, e1, e2, ⟨⟨ad', f', hp, hd, hb⟩, hF⟩, hce, hcv, hcl, st⟩
  · cases hv
    obtain ⟨k1, k2, k3⟩ := vx_keep h0 e1 hI.2.2 (fun _ _ h => h) (fun _ h => h) hL hF
    obtain ⟨t2, a1, b1⟩ := kont v ad' f' T'.heap (locs ++ L) hp ⟨by rw [e1]; exact hb, hd, k3⟩ T' rfl X'
    exact ⟨t2, st t2 a1, b1⟩
  · obtain ⟨k1, k2, k3⟩ := vx_keep h0 e1 hI.2.2 (fun _ _ h => h) (fun _ h => h) hL hF
    obtain ⟨t2, a1, b1⟩ := kx E ce q ad' f' T'.heap (locs ++ L) hp ⟨by rw [e1]; exact hb, hd, k3⟩ (by rw [e1]; exact hce) hcv hcl T' rfl X'
    exact ⟨t2, st.trans a1, b1⟩
theorem rn_K {mc ms : Nat} {a : Array Value} {Rr : Option Value → Ad → Wd → Prop} (hI : WI g ad B0 f s H locs) (hr : va_Run p l e R s m args below meth c H locs cells slots mc ms (F0 m pc ls st0) rest (QI g B0 Rr a) (fun q => B0 ≤ q))
    (kont : ∀ (v : Option Value) (ad' : Ad) (f' : Wd) (H1 : Heap) (locs1 : List Loc), Rr v ad' f' → WI g ad' B0 f' s H1 locs1 → W p l e R s m args below meth c H1 locs1 (cells + mc) (slots + ms) Q (F0 m (pc + 3) ls (v.toList ++ rest))) : W p l e R s m args below meth c H locs cells slots Q (F0 m pc ls st0) := by
  intro T hT X
  obtain ⟨v, st₀, t, T', L, h0, X', hL, e1, e2, ⟨⟨v', ad', f', hv, hp, hd, hb⟩, hF⟩, st⟩ := hr T hT X
  cases hv
  obtain ⟨k1, k2, k3⟩ := vx_keep h0 e1 hI.2.2 (fun _ _ h => h) (fun _ h => h) hL hF
  obtain ⟨t2, a1, b1⟩ := kont v ad' f' T'.heap (locs ++ L) hp ⟨by rw [e1]; exact hb, hd, k3⟩ T' rfl X'
  exact ⟨t2, st t2 a1, b1⟩
/-- the words of a call -/
theorem goodV {index : Nat} {C : String} {y : MethodName} {bytes : ByteArray} {maxL : Nat} {rt : Option FieldType} (h1 : Cond.methodLink own index y ∈ allW) (h2 : Cond.instanceMethod y ∈ allW) (h3 : Cond.selects C y y ∈ allW) (h4 : Cond.initialized C ∈ allW) (h5 : Cond.code y bytes maxL rt ∈ allW) : GoodIn allW (wsV own index C y (wsM y bytes maxL rt)) := by
  intro w hw
  refine allG w ?_
  rcases List.mem_append.mp hw with h | h
  · simp only [List.mem_cons, List.not_mem_nil, or_false] at h
    rcases h with rfl | rfl | rfl | rfl <;> assumption
  · rcases List.mem_cons.mp h with rfl | h
    · exact h5
    · exact h
theorem goodS {index : Nat} {y : MethodName} {bytes : ByteArray} {maxL : Nat} {rt : Option FieldType} (h1 : Cond.methodLink own index y ∈ allW) (h2 : Cond.static y ∈ allW) (h4 : Cond.initialized own ∈ allW) (h5 : Cond.code y bytes maxL rt ∈ allW) : GoodIn allW (wsS own index y (wsM y bytes maxL rt)) := by
  intro w hw
  refine allG w ?_
  rcases List.mem_append.mp hw with h | h
  · simp only [List.mem_cons, List.not_mem_nil, or_false] at h
    rcases h with rfl | rfl | rfl <;> assumption
  · rcases List.mem_cons.mp h with rfl | h
    · exact h5
    · exact h
theorem goodI {y : MethodName} {bytes : ByteArray} {maxL : Nat} {rt : Option FieldType} (h5 : Cond.code y bytes maxL rt ∈ allW) : GoodIn allW (wsM y bytes maxL rt) := by
  intro w hw
  refine allG w ?_
  rcases List.mem_cons.mp hw with rfl | h
  · exact h5
  · exact h
/-- a virtual call (a private method of the same class too) -/
theorem r_callV {mc ms n index : Nat} {C : String} {y : MethodName} {bytes : ByteArray} {maxL : Nat} {rt : Option FieldType} {rm : Room} {As : List Value} {Rr : Option Value → Ad → Wd → Prop} {RX : String → Ad → Wd → Prop} {ci : Nat} {q : vw_C} {fs : List Value} (hl : l.stackTraces = false) (hC : Cx p s m args meth c own cc nL ret g B0) (hI : WI g ad B0 f s H locs) (hls : ls.size = nL) (hM : MM l g B0 y (wsM y bytes maxL rt) rm (.ref (ad kk ii) :: As) ad f Rr RX mc ms)
    (cw : CallW R s args own C index y bytes maxL rt (wsM y bytes maxL rt) rm mc ms n) (hrecv : f kk ii = some (.inr (ci, fs))) (hq : vwCl[ci]? = some q) (hqC : q.1 = C) (hn : As.length = n) (hst : st0 = As.reverse ++ .ref (ad kk ii) :: rest) (hW : (rest.map fun v => v.category).sum ≤ 8) (hdg : decode cc pc = .ok (.invokevirtual index, 3)) (hf : cells + mc ≤ R.cells ∧ slots + ms ≤ R.slots)
    (kont : ∀ (v : Option Value) (ad' : Ad) (f' : Wd) (H1 : Heap) (locs1 : List Loc), Rr v ad' f' → WI g ad' B0 f' s H1 locs1 → W p l e R s m args below meth c H1 locs1 (cells + mc) (slots + ms) Q (F0 m (pc + 3) ls (v.toList ++ rest)))
    (kx : ∀ (E : String) (ce : Cell) (q : Addr) (ad' : Ad) (f' : Wd) (H1 : Heap) (locs1 : List Loc), RX E ad' f' → WI g ad' B0 f' s H1 locs1 → H1[q]? = some ce → ce.vm = .none → s.vm.findClass E = some ce.cls → vx_W p l e R s m args below meth c H1 locs1 (cells + mc) (slots + ms) Q (F0 m pc ls rest) q) : W p l e R s m args below meth c H locs cells slots Q (F0 m pc ls st0) := by
  subst hst
  subst hqC
  refine rn_W hI (vx_runV (As := As) (rest := rest) hC.1 (hM hl hI.2.1) cw ⟨PcI_blind, va_recv hC.2.2.2.1 (hI.1.one hrecv) hq (q0 := 0) rfl, fun U hU hW => ⟨rfl, by rw [hU]; exact hI.1, hC.2.2.2.go hI.2.2 hU hW⟩⟩ rfl hn hls rfl (lv_room hW) hdg hf) kont kx
/-- a static call -/
theorem r_callS {mc ms n index : Nat} {y : MethodName} {bytes : ByteArray} {maxL : Nat} {rt : Option FieldType} {rm : Room} {As : List Value} {Rr : Option Value → Ad → Wd → Prop} {RX : String → Ad → Wd → Prop} (hl : l.stackTraces = false) (hC : Cx p s m args meth c own cc nL ret g B0) (hI : WI g ad B0 f s H locs) (hls : ls.size = nL) (hM : MM l g B0 y (wsM y bytes maxL rt) rm As ad f Rr RX mc ms)
    (cw : CallB R s args own index y bytes maxL rt (wsM y bytes maxL rt) rm mc ms n ∧ (Cond.static y).before args s = true) (hn : As.length = n) (hst : st0 = As.reverse ++ rest) (hW : (rest.map fun v => v.category).sum ≤ 8) (hdg : decode cc pc = .ok (.invokestatic index, 3)) (hf : cells + mc ≤ R.cells ∧ slots + ms ≤ R.slots)
    (kont : ∀ (v : Option Value) (ad' : Ad) (f' : Wd) (H1 : Heap) (locs1 : List Loc), Rr v ad' f' → WI g ad' B0 f' s H1 locs1 → W p l e R s m args below meth c H1 locs1 (cells + mc) (slots + ms) Q (F0 m (pc + 3) ls (v.toList ++ rest)))
    (kx : ∀ (E : String) (ce : Cell) (q : Addr) (ad' : Ad) (f' : Wd) (H1 : Heap) (locs1 : List Loc), RX E ad' f' → WI g ad' B0 f' s H1 locs1 → H1[q]? = some ce → ce.vm = .none → s.vm.findClass E = some ce.cls → vx_W p l e R s m args below meth c H1 locs1 (cells + mc) (slots + ms) Q (F0 m pc ls rest) q) : W p l e R s m args below meth c H locs cells slots Q (F0 m pc ls st0) := by
  subst hst
  refine rn_W hI (vx_runS (As := As) (rest := rest) hC.1 (hM hl hI.2.1) cw ⟨PcI_blind, fun U hU hW => ⟨rfl, by rw [hU]; exact hI.1, hC.2.2.2.go hI.2.2 hU hW⟩⟩ rfl hn hls rfl (lv_room hW) hdg hf) kont kx
/-- a constructor -/
theorem r_callI {mc ms n index : Nat} {y : MethodName} {bytes : ByteArray} {maxL : Nat} {rm : Room} {As : List Value} {Rr : Option Value → Ad → Wd → Prop} {b : Nat} (hC : Cx p s m args meth c own cc nL ret g B0) (hI : WI g ad B0 f s H locs) (hls : ls.size = nL) (hM : MK l g B0 y (wsM y bytes maxL none) rm (.ref b :: As) ad f Rr mc ms)
    (cw : CallB R s args own index y bytes maxL none (wsM y bytes maxL none) rm mc ms n ∧ y.name = "<init>" ∧ (Cond.instanceMethod y).before args s = true) (hn : As.length = n) (hst : st0 = As.reverse ++ .ref b :: rest) (hW : (rest.map fun v => v.category).sum ≤ 8) (hdg : decode cc pc = .ok (.invokespecial index, 3)) (hf : cells + mc ≤ R.cells ∧ slots + ms ≤ R.slots)
    (kont : ∀ (v : Option Value) (ad' : Ad) (f' : Wd) (H1 : Heap) (locs1 : List Loc), Rr v ad' f' → WI g ad' B0 f' s H1 locs1 → W p l e R s m args below meth c H1 locs1 (cells + mc) (slots + ms) Q (F0 m (pc + 3) ls (v.toList ++ rest))) : W p l e R s m args below meth c H locs cells slots Q (F0 m pc ls st0) := by
  subst hst
  refine rn_K hI (va_runI (As := As) (rest := rest) hC.1 (hM hI.2.1) cw ⟨PcI_blind, fun U hU hW => ⟨rfl, by rw [hU]; exact hI.1, hC.2.2.2.go hI.2.2 hU hW⟩⟩ rfl hn hls rfl (lv_room hW) hdg hf) kont
/-- what a callee throws goes on to the caller -/
theorem x_out {Qc : Array Value → State → Outcome → State → Prop} {RX : String → Ad → Wd → Prop} {mc ms : Nat} (hno : Cn c) (hC : Cx p s m args meth c own cc nL ret g B0) {E : String} {ce : Cell} {q : Addr} (hI : WI g ad B0 f s H locs) (hx : RX E ad f) (h1 : H[q]? = some ce) (h2 : ce.vm = .none) (h3 : s.vm.findClass E = some ce.cls) (hc : cells ≤ mc) (hs : slots ≤ ms) : vx_W p l e R s m args below meth c H locs cells slots (vx_MQ below Qc (XI g B0 RX) args s mc ms (fun q => B0 ≤ q)) (F0 m pc ls rest) q :=
  vx_out (fun x hx => (hno x hx).elim) hC.2.2.1 h1 h2 h3 (fun t ht _ => ⟨⟨ad, f, hx, hI.2.1, by rw [ht]; exact hI.1⟩, hI.2.2.F ht⟩) hI.2.2.2.2 hc hs
/-- the ends -/
theorem e_int {Rr : Option Value → Ad → Wd → Prop} {RX : String → Ad → Wd → Prop} {mc ms : Nat} (hC : Cx p s m args meth c own cc nL (some .int) g B0) (hI : WI g ad B0 f s H locs) {v : Int32} (hR : Rr (some (.int v)) ad f) (hc : cells ≤ mc) (hs : slots ≤ ms) (hdg : decode cc pc = .ok (.ireturn, 1)) : W p l e R s m args below meth c H locs cells slots (vx_MQ below (QI g B0 Rr) (XI g B0 RX) args s mc ms (fun q => B0 ≤ q)) (F0 m pc ls [.int v]) :=
  W.widen hc hs (vx_ret (W.iret hC.1.1 hC.1.2.1 hC.2.1 (fun t ht _ => ⟨⟨_, ad, f, rfl, hR, hI.2.1, by rw [ht]; exact hI.1⟩, hI.2.2.F ht⟩) hI.2.2.2.2 hdg hC.2.2.1))
theorem e_bool {Rr : Option Value → Ad → Wd → Prop} {RX : String → Ad → Wd → Prop} {mc ms : Nat} (hC : Cx p s m args meth c own cc nL (some .boolean) g B0) (hI : WI g ad B0 f s H locs) {v : Int32} (hn : narrow .boolean (.int v) = .int v) (hR : Rr (some (.int v)) ad f) (hc : cells ≤ mc) (hs : slots ≤ ms) (hdg : decode cc pc = .ok (.ireturn, 1)) : W p l e R s m args below meth c H locs cells slots (vx_MQ below (QI g B0 Rr) (XI g B0 RX) args s mc ms (fun q => B0 ≤ q)) (F0 m pc ls [.int v]) :=
  W.widen hc hs (vx_ret (W.zret hC.1.1 hC.1.2.1 hC.2.1 hn (fun t ht _ => ⟨⟨_, ad, f, rfl, hR, hI.2.1, by rw [ht]; exact hI.1⟩, hI.2.2.F ht⟩) hI.2.2.2.2 hdg hC.2.2.1))
theorem e_long {Rr : Option Value → Ad → Wd → Prop} {RX : String → Ad → Wd → Prop} {mc ms : Nat} (hC : Cx p s m args meth c own cc nL (some .long) g B0) (hI : WI g ad B0 f s H locs) {v : Int64} (hR : Rr (some (.long v)) ad f) (hc : cells ≤ mc) (hs : slots ≤ ms) (hdg : decode cc pc = .ok (.lreturn, 1)) : W p l e R s m args below meth c H locs cells slots (vx_MQ below (QI g B0 Rr) (XI g B0 RX) args s mc ms (fun q => B0 ≤ q)) (F0 m pc ls [.long v]) :=
  W.widen hc hs (vx_ret (W.lret hC.1.1 hC.1.2.1 hC.2.1 (fun t ht _ => ⟨⟨_, ad, f, rfl, hR, hI.2.1, by rw [ht]; exact hI.1⟩, hI.2.2.F ht⟩) hI.2.2.2.2 hdg hC.2.2.1))
theorem e_dbl {Rr : Option Value → Ad → Wd → Prop} {RX : String → Ad → Wd → Prop} {mc ms : Nat} (hC : Cx p s m args meth c own cc nL (some .double) g B0) (hI : WI g ad B0 f s H locs) {v : UInt64} (hR : Rr (some (.double v)) ad f) (hc : cells ≤ mc) (hs : slots ≤ ms) (hdg : decode cc pc = .ok (.dreturn, 1)) : W p l e R s m args below meth c H locs cells slots (vx_MQ below (QI g B0 Rr) (XI g B0 RX) args s mc ms (fun q => B0 ≤ q)) (F0 m pc ls [.double v]) :=
  W.widen hc hs (vx_ret (W.dret hC.1.1 hC.1.2.1 hC.2.1 (fun t ht _ => ⟨⟨_, ad, f, rfl, hR, hI.2.1, by rw [ht]; exact hI.1⟩, hI.2.2.F ht⟩) hI.2.2.2.2 hdg hC.2.2.1))
theorem e_ref {Rr : Option Value → Ad → Wd → Prop} {RX : String → Ad → Wd → Prop} {mc ms : Nat} {rt : FieldType} (hC : Cx p s m args meth c own cc nL (some rt) g B0) (hrt : (∃ n, rt = .object n) ∨ ∃ t, rt = .array t) (hI : WI g ad B0 f s H locs) {v : Value} (hv : v = .null ∨ ∃ a, v = .ref a) (hR : Rr (some v) ad f) (hc : cells ≤ mc) (hs : slots ≤ ms) (hdg : decode cc pc = .ok (.areturn, 1)) : W p l e R s m args below meth c H locs cells slots (vx_MQ below (QI g B0 Rr) (XI g B0 RX) args s mc ms (fun q => B0 ≤ q)) (F0 m pc ls [v]) :=
  W.widen hc hs (vx_ret (W.aret hC.1.1 hC.1.2.1 hC.2.1 hrt hv (fun t ht _ => ⟨⟨_, ad, f, rfl, hR, hI.2.1, by rw [ht]; exact hI.1⟩, hI.2.2.F ht⟩) hI.2.2.2.2 hdg hC.2.2.1))
theorem e_void {Rr : Option Value → Ad → Wd → Prop} {RX : String → Ad → Wd → Prop} {mc ms : Nat} (hC : Cx p s m args meth c own cc nL none g B0) (hI : WI g ad B0 f s H locs) (hR : Rr none ad f) (hc : cells ≤ mc) (hs : slots ≤ ms) (hdg : decode cc pc = .ok (.return_, 1)) : W p l e R s m args below meth c H locs cells slots (vx_MQ below (QI g B0 Rr) (XI g B0 RX) args s mc ms (fun q => B0 ≤ q)) (F0 m pc ls []) :=
  W.widen hc hs (vx_ret (W.vret hC.1.1 hC.1.2.1 hC.2.1 (fun t ht _ => ⟨⟨_, ad, f, rfl, hR, hI.2.1, by rw [ht]; exact hI.1⟩, hI.2.2.F ht⟩) hI.2.2.2.2 hdg hC.2.2.1))
theorem e_ctor {Rr : Option Value → Ad → Wd → Prop} {mc ms : Nat} (hC : Cx p s m args meth c own cc nL none g B0) (hI : WI g ad B0 f s H locs) (hR : Rr none ad f) (hc : cells ≤ mc) (hs : slots ≤ ms) (hdg : decode cc pc = .ok (.return_, 1)) : W p l e R s m args below meth c H locs cells slots (MQ below (QI g B0 Rr) args s mc ms (fun q => B0 ≤ q)) (F0 m pc ls []) :=
  W.widen hc hs (W.vret hC.1.1 hC.1.2.1 hC.2.1 (fun t ht _ => ⟨⟨_, ad, f, rfl, hR, hI.2.1, by rw [ht]; exact hI.1⟩, hI.2.2.F ht⟩) hI.2.2.2.2 hdg hC.2.2.1)
end ROWS
end
section
/-! throws, and calls whose throw goes on -/
abbrev nmsX : List String := ["java/lang/RuntimeException", "java/lang/Exception"]
def badX (E : String) : List Cond := [.declares (Bundle.initS "java/lang/RuntimeException"), .declares (Bundle.initS "java/lang/Exception"), .declares (Bundle.initS Bundle.tN), .castable E E]
theorem xIA_t : ∀ w ∈ (vx_atS RX6 246 nIA nmsX).filter goodWord, w ∈ lw_tbl := by decide +kernel
theorem xIS_t : ∀ w ∈ (vx_atS RX6 85 nIS nmsX).filter goodWord, w ∈ lw_tbl := by decide +kernel
theorem xIO_t : ∀ w ∈ (vx_atS RX6 251 nIO nmsX).filter goodWord, w ∈ lw_tbl := by decide +kernel
theorem xin {ws : List Cond} (h : ∀ w ∈ ws.filter goodWord, w ∈ lw_tbl) : ∀ w ∈ ws.filter goodWord, w ∈ allW := fun w hw => List.mem_filter.mpr ⟨h w hw, (List.mem_filter.mp hw).2⟩
theorem xIA_b : ∀ w ∈ (vx_atS RX6 246 nIA nmsX).filter (fun w => !goodWord w), w ∈ badX nIA := by decide +kernel
theorem xIS_b : ∀ w ∈ (vx_atS RX6 85 nIS nmsX).filter (fun w => !goodWord w), w ∈ badX nIS := by decide +kernel
theorem xIO_b : ∀ w ∈ (vx_atS RX6 251 nIO nmsX).filter (fun w => !goodWord w), w ∈ badX nIO := by decide +kernel
theorem xIA_o : ∀ w ∈ vx_atS RX6 246 nIA nmsX, vx_ot w = true := by decide +kernel
theorem xIS_o : ∀ w ∈ vx_atS RX6 85 nIS nmsX, vx_ot w = true := by decide +kernel
theorem xIO_o : ∀ w ∈ vx_atS RX6 251 nIO nmsX, vx_ot w = true := by decide +kernel
section THROWS
variable {p : Program} {l : Launch} {e : Env} {R : Room} {s : State} {m : MethodId} {args : Array Value} {below : List Frame} {meth : Method} {c : Code} {H : Heap} {locs : List Loc} {cells slots : Nat} {Q : State → Prop}
variable {g : Gg} {B0 : Nat} {ad : Ad} {f : Wd} {cc : ByteArray} {nL : Nat} {ret : Option FieldType}
variable {pc : Nat} {ls : Array Slot} {rest st0 : List Value} {kk ii : Nat}
theorem PI.grow {H1 : Heap} (h : PI g ad f H) (hk : ∀ q : Nat, q < H.size → H1[q]? = H[q]?) : PI g ad f H1 := fun k i e he => (h k i e he).kept (hk _ (h.lt he))
theorem badX_h {E : String} (hKI : KI g B0 s) (hE : va_Nw (.castable E E) s) : ∀ w ∈ badX E, w.before args s = true := by
  obtain ⟨-, -, ⟨-, -, -, -, -, -, -, -, -, d1, d2, d3⟩, -⟩ := hKI
  intro w hw
  simp only [badX, List.mem_cons, List.not_mem_nil, or_false] at hw
  rcases hw with rfl | rfl | rfl | rfl
  · exact d1.use rfl
  · exact d2.use rfl
  · exact d3.use rfl
  · exact hE.use rfl
theorem r_throw {Qc : Array Value → State → Outcome → State → Prop} {RX : String → Ad → Wd → Prop} {E text : String} {ik is ic mc ms : Nat} (hfit : Bundle.fit E = true) (hE1 : ∀ w ∈ (vx_atS RX6 ic E nmsX).filter goodWord, w ∈ lw_tbl) (hE2 : ∀ w ∈ (vx_atS RX6 ic E nmsX).filter (fun w => !goodWord w), w ∈ badX E) (hE3 : ∀ w ∈ vx_atS RX6 ic E nmsX, vx_ot w = true) (hk : Cond.classLink RX6 ik E ∈ allW) (hini : Cond.initialized E ∈ allW) (hstr : (is, text) ∈ strsX) (hl : l.stackTraces = false) (hno : Cn c) (hC : Cx p s m args meth c RX6 cc nL ret g B0) (hcast : va_Nw (.castable E E) s) (hI : WI g ad B0 f s H locs) (hls : ls.size = nL) (hx : RX E ad f)
    (d0 : decode cc pc = .ok (.new ik, 3)) (d3 : decode cc (pc + 3) = .ok (.dup, 1)) (d4 : decode cc (pc + 4) = .ok (.ldc is, 2)) (d6 : decode cc (pc + 6) = .ok (.invokespecial ic, 3)) (d9 : decode cc (pc + 9) = .ok (.athrow, 1))
    (hRf : 5 < R.frames) (hRl : (rest.map fun v => v.category).sum + 82 ≤ R.locals) (hRc : cells + 1 ≤ R.cells) (hRs : slots + 6 ≤ R.slots) (hc : cells + 1 ≤ mc) (hs : slots + 6 ≤ ms) :
    W p l e R s m args below meth c H locs cells slots (vx_MQ below Qc (XI g B0 RX) args s mc ms (fun q => B0 ≤ q)) (F0 m pc ls rest) := by
  obtain ⟨⟨hxx, hb, hml, hown, hts⟩, -, hlocks, hKI⟩ := hC
  obtain ⟨sa, hsa⟩ := hKI.2.2.1.1 _ hstr
  refine vx_throwS (names := nmsX) (A := fun q => B0 ≤ q) hxx hb hl hown hfit (by decide) (hts _ hk) (hts _ hini) hsa (vx_hat (B := badX E) (fun w hw => hts _ (xin hE1 w hw)) hE2 (badX_h hKI hcast)) ?_ hKI.2.1.1 hKI.2.1.2 hI.2.2 (hls.trans hml.symm) d0 d3 d4 d6 d9 (fun x hx => (hno x hx).elim) hRf hRl hRc hRs hlocks (fun t ht hz hq => ⟨⟨ad, f, hx, hI.2.1, hI.1.grow hq⟩, ⟨Nat.le_trans hI.2.2.1 hz, fun q h1 h2 => (hq q (Nat.lt_of_lt_of_le h1 hI.2.2.1)).trans (hI.2.2.2.1 q h1 h2)⟩⟩) hI.2.2.2.2 hc hs
  intro w hw
  rcases List.mem_cons.mp hw with rfl | hw
  · rfl
  · rcases List.mem_cons.mp hw with rfl | hw
    · rfl
    · exact hE3 w hw
theorem r_throwW {Qc : Array Value → State → Outcome → State → Prop} {RX : String → Ad → Wd → Prop} {E text : String} {ik is ic mc ms : Nat} (hfit : Bundle.fit E = true) (hE1 : ∀ w ∈ (vx_atS RX6 ic E nmsX).filter goodWord, w ∈ lw_tbl) (hE2 : ∀ w ∈ (vx_atS RX6 ic E nmsX).filter (fun w => !goodWord w), w ∈ badX E) (hE3 : ∀ w ∈ vx_atS RX6 ic E nmsX, vx_ot w = true) (hk : Cond.classLink RX6 ik E ∈ allW) (hini : Cond.initialized E ∈ allW) (hstr : (is, text) ∈ strsX) (hl : l.stackTraces = false) (hno : Cn c) (hC : Cx p s m args meth c RX6 cc nL ret g B0) (hcast : va_Nw (.castable E E) s) (hI : WI g ad B0 f s H locs) (hls : ls.size = nL) (hx : RX E ad f)
    (d0 : decode cc pc = .ok (.new ik, 3)) (d3 : decode cc (pc + 3) = .ok (.dup, 1)) (d4 : decode cc (pc + 4) = .ok (.ldc_w is, 3)) (d6 : decode cc (pc + 7) = .ok (.invokespecial ic, 3)) (d9 : decode cc (pc + 10) = .ok (.athrow, 1))
    (hRf : 5 < R.frames) (hRl : (rest.map fun v => v.category).sum + 82 ≤ R.locals) (hRc : cells + 1 ≤ R.cells) (hRs : slots + 6 ≤ R.slots) (hc : cells + 1 ≤ mc) (hs : slots + 6 ≤ ms) :
    W p l e R s m args below meth c H locs cells slots (vx_MQ below Qc (XI g B0 RX) args s mc ms (fun q => B0 ≤ q)) (F0 m pc ls rest) := by
  obtain ⟨⟨hxx, hb, hml, hown, hts⟩, -, hlocks, hKI⟩ := hC
  obtain ⟨sa, hsa⟩ := hKI.2.2.1.1 _ hstr
  refine vx_throwSW (names := nmsX) (A := fun q => B0 ≤ q) hxx hb hl hown hfit (by decide) (hts _ hk) (hts _ hini) hsa (vx_hat (B := badX E) (fun w hw => hts _ (xin hE1 w hw)) hE2 (badX_h hKI hcast)) ?_ hKI.2.1.1 hKI.2.1.2 hI.2.2 (hls.trans hml.symm) d0 d3 d4 d6 d9 (fun x hx => (hno x hx).elim) hRf hRl hRc hRs hlocks (fun t ht hz hq => ⟨⟨ad, f, hx, hI.2.1, hI.1.grow hq⟩, ⟨Nat.le_trans hI.2.2.1 hz, fun q h1 h2 => (hq q (Nat.lt_of_lt_of_le h1 hI.2.2.1)).trans (hI.2.2.2.1 q h1 h2)⟩⟩) hI.2.2.2.2 hc hs
  intro w hw
  rcases List.mem_cons.mp hw with rfl | hw
  · rfl
  · rcases List.mem_cons.mp hw with rfl | hw
    · rfl
    · exact hE3 w hw
end THROWS
end
section
/-! each field as each class spells it; each call's words -/
section ACC
variable {p : Program} {l : Launch} {e : Env} {R : Room} {s : State} {m : MethodId} {args : Array Value} {below : List Frame} {meth : Method} {c : Code} {H : Heap} {locs : List Loc} {cells slots : Nat} {Q : State → Prop}
variable {g : Gg} {B0 : Nat} {ad : Ad} {f : Wd} {cc : ByteArray} {nL : Nat} {ret : Option FieldType}
variable {pc : Nat} {ls : Array Slot} {rest st0 : List Value} {kk ii : Nat} {fs : List Value}
theorem gf_X6_10 (hC : Cx p s m args meth c RX6 cc nL ret g B0) (hI : WI g ad B0 f s H locs) (he : f kk ii = some (.inr (6, fs))) {v : Value} (hv : fs[0]? = some v) (hdg : decode cc pc = .ok (.getfield 10, 3)) (kont : W p l e R s m args below meth c H locs cells slots Q (F0 m (pc + 3) ls (v :: rest))) : W p l e R s m args below meth c H locs cells slots Q (F0 m pc ls (.ref (ad kk ii) :: rest)) := r_get hC hI inX6 rfl 0 (by decide) wd_fl_X6_10 rfl he hv hdg kont
theorem pf_X6_10 (hC : Cx p s m args meth c RX6 cc nL ret g B0) (hin : meth.name = "<init>") (hI : WI g ad B0 f s H locs) (he : f kk ii = some (.inr (6, fs))) {v : Nat} (hlen : 0 < fs.length) (hdg : decode cc pc = .ok (.putfield 10, 3)) (kont : ∀ (H1 : Heap) (locs1 : List Loc), WI g ad B0 (up2 f kk ii (.inr (6, fs.set 0 (.ref v)))) s H1 locs1 → W p l e R s m args below meth c H1 locs1 cells slots Q (F0 m (pc + 3) ls rest)) : W p l e R s m args below meth c H locs cells slots Q (F0 m pc ls ((.ref v) :: .ref (ad kk ii) :: rest)) := r_putF hC hin hI inX6 rfl tyX6 tyX6_ok nmX6 0 (by decide) wd_fl_X6_10 rfl rfl rfl (ty := (.object "ColdStore$Air")) (by decide +kernel) he rfl rfl hlen hdg kont
theorem pf_X6_10N (hC : Cx p s m args meth c RX6 cc nL ret g B0) (hin : meth.name = "<init>") (hI : WI g ad B0 f s H locs) (he : f kk ii = some (.inr (6, fs)))  (hlen : 0 < fs.length) (hdg : decode cc pc = .ok (.putfield 10, 3)) (kont : ∀ (H1 : Heap) (locs1 : List Loc), WI g ad B0 (up2 f kk ii (.inr (6, fs.set 0 .null))) s H1 locs1 → W p l e R s m args below meth c H1 locs1 cells slots Q (F0 m (pc + 3) ls rest)) : W p l e R s m args below meth c H locs cells slots Q (F0 m pc ls (.null :: .ref (ad kk ii) :: rest)) := r_putF hC hin hI inX6 rfl tyX6 tyX6_ok nmX6 0 (by decide) wd_fl_X6_10 rfl rfl rfl (ty := (.object "ColdStore$Air")) (by decide +kernel) he rfl rfl hlen hdg kont
theorem gf_X6_19 (hC : Cx p s m args meth c RX6 cc nL ret g B0) (hI : WI g ad B0 f s H locs) (he : f kk ii = some (.inr (6, fs))) {v : Value} (hv : fs[1]? = some v) (hdg : decode cc pc = .ok (.getfield 19, 3)) (kont : W p l e R s m args below meth c H locs cells slots Q (F0 m (pc + 3) ls (v :: rest))) : W p l e R s m args below meth c H locs cells slots Q (F0 m pc ls (.ref (ad kk ii) :: rest)) := r_get hC hI inX6 rfl 1 (by decide) wd_fl_X6_19 rfl he hv hdg kont
theorem pf_X6_19 (hC : Cx p s m args meth c RX6 cc nL ret g B0) (hin : meth.name = "<init>") (hI : WI g ad B0 f s H locs) (he : f kk ii = some (.inr (6, fs))) {v : Nat} (hlen : 1 < fs.length) (hdg : decode cc pc = .ok (.putfield 19, 3)) (kont : ∀ (H1 : Heap) (locs1 : List Loc), WI g ad B0 (up2 f kk ii (.inr (6, fs.set 1 (.ref v)))) s H1 locs1 → W p l e R s m args below meth c H1 locs1 cells slots Q (F0 m (pc + 3) ls rest)) : W p l e R s m args below meth c H locs cells slots Q (F0 m pc ls ((.ref v) :: .ref (ad kk ii) :: rest)) := r_putF hC hin hI inX6 rfl tyX6 tyX6_ok nmX6 1 (by decide) wd_fl_X6_19 rfl rfl rfl (ty := (.object "ColdStore$Tariff")) (by decide +kernel) he rfl rfl hlen hdg kont
theorem pf_X6_19N (hC : Cx p s m args meth c RX6 cc nL ret g B0) (hin : meth.name = "<init>") (hI : WI g ad B0 f s H locs) (he : f kk ii = some (.inr (6, fs)))  (hlen : 1 < fs.length) (hdg : decode cc pc = .ok (.putfield 19, 3)) (kont : ∀ (H1 : Heap) (locs1 : List Loc), WI g ad B0 (up2 f kk ii (.inr (6, fs.set 1 .null))) s H1 locs1 → W p l e R s m args below meth c H1 locs1 cells slots Q (F0 m (pc + 3) ls rest)) : W p l e R s m args below meth c H locs cells slots Q (F0 m pc ls (.null :: .ref (ad kk ii) :: rest)) := r_putF hC hin hI inX6 rfl tyX6 tyX6_ok nmX6 1 (by decide) wd_fl_X6_19 rfl rfl rfl (ty := (.object "ColdStore$Tariff")) (by decide +kernel) he rfl rfl hlen hdg kont
theorem gf_X6_25 (hC : Cx p s m args meth c RX6 cc nL ret g B0) (hI : WI g ad B0 f s H locs) (he : f kk ii = some (.inr (6, fs))) {v : Value} (hv : fs[2]? = some v) (hdg : decode cc pc = .ok (.getfield 25, 3)) (kont : W p l e R s m args below meth c H locs cells slots Q (F0 m (pc + 3) ls (v :: rest))) : W p l e R s m args below meth c H locs cells slots Q (F0 m pc ls (.ref (ad kk ii) :: rest)) := r_get hC hI inX6 rfl 2 (by decide) wd_fl_X6_25 rfl he hv hdg kont
theorem pf_X6_25 (hC : Cx p s m args meth c RX6 cc nL ret g B0) (hin : meth.name = "<init>") (hI : WI g ad B0 f s H locs) (he : f kk ii = some (.inr (6, fs))) {v : Nat} (hlen : 2 < fs.length) (hdg : decode cc pc = .ok (.putfield 25, 3)) (kont : ∀ (H1 : Heap) (locs1 : List Loc), WI g ad B0 (up2 f kk ii (.inr (6, fs.set 2 (.ref v)))) s H1 locs1 → W p l e R s m args below meth c H1 locs1 cells slots Q (F0 m (pc + 3) ls rest)) : W p l e R s m args below meth c H locs cells slots Q (F0 m pc ls ((.ref v) :: .ref (ad kk ii) :: rest)) := r_putF hC hin hI inX6 rfl tyX6 tyX6_ok nmX6 2 (by decide) wd_fl_X6_25 rfl rfl rfl (ty := (.array (.object "ColdStore$Product"))) (by decide +kernel) he rfl rfl hlen hdg kont
theorem pf_X6_25N (hC : Cx p s m args meth c RX6 cc nL ret g B0) (hin : meth.name = "<init>") (hI : WI g ad B0 f s H locs) (he : f kk ii = some (.inr (6, fs)))  (hlen : 2 < fs.length) (hdg : decode cc pc = .ok (.putfield 25, 3)) (kont : ∀ (H1 : Heap) (locs1 : List Loc), WI g ad B0 (up2 f kk ii (.inr (6, fs.set 2 .null))) s H1 locs1 → W p l e R s m args below meth c H1 locs1 cells slots Q (F0 m (pc + 3) ls rest)) : W p l e R s m args below meth c H locs cells slots Q (F0 m pc ls (.null :: .ref (ad kk ii) :: rest)) := r_putF hC hin hI inX6 rfl tyX6 tyX6_ok nmX6 2 (by decide) wd_fl_X6_25 rfl rfl rfl (ty := (.array (.object "ColdStore$Product"))) (by decide +kernel) he rfl rfl hlen hdg kont
theorem gf_X6_31 (hC : Cx p s m args meth c RX6 cc nL ret g B0) (hI : WI g ad B0 f s H locs) (he : f kk ii = some (.inr (6, fs))) {v : Value} (hv : fs[3]? = some v) (hdg : decode cc pc = .ok (.getfield 31, 3)) (kont : W p l e R s m args below meth c H locs cells slots Q (F0 m (pc + 3) ls (v :: rest))) : W p l e R s m args below meth c H locs cells slots Q (F0 m pc ls (.ref (ad kk ii) :: rest)) := r_get hC hI inX6 rfl 3 (by decide) wd_fl_X6_31 rfl he hv hdg kont
theorem pf_X6_31 (hC : Cx p s m args meth c RX6 cc nL ret g B0) (hin : meth.name = "<init>") (hI : WI g ad B0 f s H locs) (he : f kk ii = some (.inr (6, fs))) {v : Nat} (hlen : 3 < fs.length) (hdg : decode cc pc = .ok (.putfield 31, 3)) (kont : ∀ (H1 : Heap) (locs1 : List Loc), WI g ad B0 (up2 f kk ii (.inr (6, fs.set 3 (.ref v)))) s H1 locs1 → W p l e R s m args below meth c H1 locs1 cells slots Q (F0 m (pc + 3) ls rest)) : W p l e R s m args below meth c H locs cells slots Q (F0 m pc ls ((.ref v) :: .ref (ad kk ii) :: rest)) := r_putF hC hin hI inX6 rfl tyX6 tyX6_ok nmX6 3 (by decide) wd_fl_X6_31 rfl rfl rfl (ty := (.array (.object "ColdStore$Room"))) (by decide +kernel) he rfl rfl hlen hdg kont
theorem pf_X6_31N (hC : Cx p s m args meth c RX6 cc nL ret g B0) (hin : meth.name = "<init>") (hI : WI g ad B0 f s H locs) (he : f kk ii = some (.inr (6, fs)))  (hlen : 3 < fs.length) (hdg : decode cc pc = .ok (.putfield 31, 3)) (kont : ∀ (H1 : Heap) (locs1 : List Loc), WI g ad B0 (up2 f kk ii (.inr (6, fs.set 3 .null))) s H1 locs1 → W p l e R s m args below meth c H1 locs1 cells slots Q (F0 m (pc + 3) ls rest)) : W p l e R s m args below meth c H locs cells slots Q (F0 m pc ls (.null :: .ref (ad kk ii) :: rest)) := r_putF hC hin hI inX6 rfl tyX6 tyX6_ok nmX6 3 (by decide) wd_fl_X6_31 rfl rfl rfl (ty := (.array (.object "ColdStore$Room"))) (by decide +kernel) he rfl rfl hlen hdg kont
theorem gf_X6_37 (hC : Cx p s m args meth c RX6 cc nL ret g B0) (hI : WI g ad B0 f s H locs) (he : f kk ii = some (.inr (6, fs))) {v : Value} (hv : fs[4]? = some v) (hdg : decode cc pc = .ok (.getfield 37, 3)) (kont : W p l e R s m args below meth c H locs cells slots Q (F0 m (pc + 3) ls (v :: rest))) : W p l e R s m args below meth c H locs cells slots Q (F0 m pc ls (.ref (ad kk ii) :: rest)) := r_get hC hI inX6 rfl 4 (by decide) wd_fl_X6_37 rfl he hv hdg kont
theorem pf_X6_37 (hC : Cx p s m args meth c RX6 cc nL ret g B0) (hin : meth.name = "<init>") (hI : WI g ad B0 f s H locs) (he : f kk ii = some (.inr (6, fs))) {v : Nat} (hlen : 4 < fs.length) (hdg : decode cc pc = .ok (.putfield 37, 3)) (kont : ∀ (H1 : Heap) (locs1 : List Loc), WI g ad B0 (up2 f kk ii (.inr (6, fs.set 4 (.ref v)))) s H1 locs1 → W p l e R s m args below meth c H1 locs1 cells slots Q (F0 m (pc + 3) ls rest)) : W p l e R s m args below meth c H locs cells slots Q (F0 m pc ls ((.ref v) :: .ref (ad kk ii) :: rest)) := r_putF hC hin hI inX6 rfl tyX6 tyX6_ok nmX6 4 (by decide) wd_fl_X6_37 rfl rfl rfl (ty := (.array (.object "ColdStore$Pallet"))) (by decide +kernel) he rfl rfl hlen hdg kont
theorem pf_X6_37N (hC : Cx p s m args meth c RX6 cc nL ret g B0) (hin : meth.name = "<init>") (hI : WI g ad B0 f s H locs) (he : f kk ii = some (.inr (6, fs)))  (hlen : 4 < fs.length) (hdg : decode cc pc = .ok (.putfield 37, 3)) (kont : ∀ (H1 : Heap) (locs1 : List Loc), WI g ad B0 (up2 f kk ii (.inr (6, fs.set 4 .null))) s H1 locs1 → W p l e R s m args below meth c H1 locs1 cells slots Q (F0 m (pc + 3) ls rest)) : W p l e R s m args below meth c H locs cells slots Q (F0 m pc ls (.null :: .ref (ad kk ii) :: rest)) := r_putF hC hin hI inX6 rfl tyX6 tyX6_ok nmX6 4 (by decide) wd_fl_X6_37 rfl rfl rfl (ty := (.array (.object "ColdStore$Pallet"))) (by decide +kernel) he rfl rfl hlen hdg kont
theorem gf_X6_41 (hC : Cx p s m args meth c RX6 cc nL ret g B0) (hI : WI g ad B0 f s H locs) (he : f kk ii = some (.inr (6, fs))) {v : Value} (hv : fs[5]? = some v) (hdg : decode cc pc = .ok (.getfield 41, 3)) (kont : W p l e R s m args below meth c H locs cells slots Q (F0 m (pc + 3) ls (v :: rest))) : W p l e R s m args below meth c H locs cells slots Q (F0 m pc ls (.ref (ad kk ii) :: rest)) := r_get hC hI inX6 rfl 5 (by decide) wd_fl_X6_41 rfl he hv hdg kont
theorem pf_X6_41 (hC : Cx p s m args meth c RX6 cc nL ret g B0) (hI : WI g ad B0 f s H locs) (he : f kk ii = some (.inr (6, fs))) {v : Int32} (hlen : 5 < fs.length) (hdg : decode cc pc = .ok (.putfield 41, 3)) (kont : ∀ (H1 : Heap) (locs1 : List Loc), WI g ad B0 (up2 f kk ii (.inr (6, fs.set 5 (.int v)))) s H1 locs1 → W p l e R s m args below meth c H1 locs1 cells slots Q (F0 m (pc + 3) ls rest)) : W p l e R s m args below meth c H locs cells slots Q (F0 m pc ls ((.int v) :: .ref (ad kk ii) :: rest)) := r_put hC hI inX6 rfl tyX6 tyX6_ok nmX6 5 (by decide) wd_fl_X6_41 rfl rfl (ty := .int) (by decide +kernel) he rfl rfl hlen hdg kont
theorem gf_X6_45 (hC : Cx p s m args meth c RX6 cc nL ret g B0) (hI : WI g ad B0 f s H locs) (he : f kk ii = some (.inr (6, fs))) {v : Value} (hv : fs[6]? = some v) (hdg : decode cc pc = .ok (.getfield 45, 3)) (kont : W p l e R s m args below meth c H locs cells slots Q (F0 m (pc + 3) ls (v :: rest))) : W p l e R s m args below meth c H locs cells slots Q (F0 m pc ls (.ref (ad kk ii) :: rest)) := r_get hC hI inX6 rfl 6 (by decide) wd_fl_X6_45 rfl he hv hdg kont
theorem pf_X6_45 (hC : Cx p s m args meth c RX6 cc nL ret g B0) (hI : WI g ad B0 f s H locs) (he : f kk ii = some (.inr (6, fs))) {v : Int32} (hlen : 6 < fs.length) (hdg : decode cc pc = .ok (.putfield 45, 3)) (kont : ∀ (H1 : Heap) (locs1 : List Loc), WI g ad B0 (up2 f kk ii (.inr (6, fs.set 6 (.int v)))) s H1 locs1 → W p l e R s m args below meth c H1 locs1 cells slots Q (F0 m (pc + 3) ls rest)) : W p l e R s m args below meth c H locs cells slots Q (F0 m pc ls ((.int v) :: .ref (ad kk ii) :: rest)) := r_put hC hI inX6 rfl tyX6 tyX6_ok nmX6 6 (by decide) wd_fl_X6_45 rfl rfl (ty := .int) (by decide +kernel) he rfl rfl hlen hdg kont
theorem gf_X6_48 (hC : Cx p s m args meth c RX6 cc nL ret g B0) (hI : WI g ad B0 f s H locs) (he : f kk ii = some (.inr (6, fs))) {v : Value} (hv : fs[7]? = some v) (hdg : decode cc pc = .ok (.getfield 48, 3)) (kont : W p l e R s m args below meth c H locs cells slots Q (F0 m (pc + 3) ls (v :: rest))) : W p l e R s m args below meth c H locs cells slots Q (F0 m pc ls (.ref (ad kk ii) :: rest)) := r_get hC hI inX6 rfl 7 (by decide) wd_fl_X6_48 rfl he hv hdg kont
theorem pf_X6_48 (hC : Cx p s m args meth c RX6 cc nL ret g B0) (hI : WI g ad B0 f s H locs) (he : f kk ii = some (.inr (6, fs))) {v : Int32} (hlen : 7 < fs.length) (hdg : decode cc pc = .ok (.putfield 48, 3)) (kont : ∀ (H1 : Heap) (locs1 : List Loc), WI g ad B0 (up2 f kk ii (.inr (6, fs.set 7 (.int v)))) s H1 locs1 → W p l e R s m args below meth c H1 locs1 cells slots Q (F0 m (pc + 3) ls rest)) : W p l e R s m args below meth c H locs cells slots Q (F0 m pc ls ((.int v) :: .ref (ad kk ii) :: rest)) := r_put hC hI inX6 rfl tyX6 tyX6_ok nmX6 7 (by decide) wd_fl_X6_48 rfl rfl (ty := .int) (by decide +kernel) he rfl rfl hlen hdg kont
theorem gf_X6_51 (hC : Cx p s m args meth c RX6 cc nL ret g B0) (hI : WI g ad B0 f s H locs) (he : f kk ii = some (.inr (6, fs))) {v : Value} (hv : fs[8]? = some v) (hdg : decode cc pc = .ok (.getfield 51, 3)) (kont : W p l e R s m args below meth c H locs cells slots Q (F0 m (pc + 3) ls (v :: rest))) : W p l e R s m args below meth c H locs cells slots Q (F0 m pc ls (.ref (ad kk ii) :: rest)) := r_get hC hI inX6 rfl 8 (by decide) wd_fl_X6_51 rfl he hv hdg kont
theorem pf_X6_51 (hC : Cx p s m args meth c RX6 cc nL ret g B0) (hI : WI g ad B0 f s H locs) (he : f kk ii = some (.inr (6, fs))) {v : Int32} (hlen : 8 < fs.length) (hdg : decode cc pc = .ok (.putfield 51, 3)) (kont : ∀ (H1 : Heap) (locs1 : List Loc), WI g ad B0 (up2 f kk ii (.inr (6, fs.set 8 (.int v)))) s H1 locs1 → W p l e R s m args below meth c H1 locs1 cells slots Q (F0 m (pc + 3) ls rest)) : W p l e R s m args below meth c H locs cells slots Q (F0 m pc ls ((.int v) :: .ref (ad kk ii) :: rest)) := r_put hC hI inX6 rfl tyX6 tyX6_ok nmX6 8 (by decide) wd_fl_X6_51 rfl rfl (ty := .int) (by decide +kernel) he rfl rfl hlen hdg kont
theorem gf_X6_54 (hC : Cx p s m args meth c RX6 cc nL ret g B0) (hI : WI g ad B0 f s H locs) (he : f kk ii = some (.inr (6, fs))) {v : Value} (hv : fs[9]? = some v) (hdg : decode cc pc = .ok (.getfield 54, 3)) (kont : W p l e R s m args below meth c H locs cells slots Q (F0 m (pc + 3) ls (v :: rest))) : W p l e R s m args below meth c H locs cells slots Q (F0 m pc ls (.ref (ad kk ii) :: rest)) := r_get hC hI inX6 rfl 9 (by decide) wd_fl_X6_54 rfl he hv hdg kont
theorem pf_X6_54 (hC : Cx p s m args meth c RX6 cc nL ret g B0) (hI : WI g ad B0 f s H locs) (he : f kk ii = some (.inr (6, fs))) {v : Int32} (hlen : 9 < fs.length) (hdg : decode cc pc = .ok (.putfield 54, 3)) (kont : ∀ (H1 : Heap) (locs1 : List Loc), WI g ad B0 (up2 f kk ii (.inr (6, fs.set 9 (.int v)))) s H1 locs1 → W p l e R s m args below meth c H1 locs1 cells slots Q (F0 m (pc + 3) ls rest)) : W p l e R s m args below meth c H locs cells slots Q (F0 m pc ls ((.int v) :: .ref (ad kk ii) :: rest)) := r_put hC hI inX6 rfl tyX6 tyX6_ok nmX6 9 (by decide) wd_fl_X6_54 rfl rfl (ty := .int) (by decide +kernel) he rfl rfl hlen hdg kont
theorem gf_X6_57 (hC : Cx p s m args meth c RX6 cc nL ret g B0) (hI : WI g ad B0 f s H locs) (he : f kk ii = some (.inr (6, fs))) {v : Value} (hv : fs[10]? = some v) (hdg : decode cc pc = .ok (.getfield 57, 3)) (kont : W p l e R s m args below meth c H locs cells slots Q (F0 m (pc + 3) ls (v :: rest))) : W p l e R s m args below meth c H locs cells slots Q (F0 m pc ls (.ref (ad kk ii) :: rest)) := r_get hC hI inX6 rfl 10 (by decide) wd_fl_X6_57 rfl he hv hdg kont
theorem pf_X6_57 (hC : Cx p s m args meth c RX6 cc nL ret g B0) (hI : WI g ad B0 f s H locs) (he : f kk ii = some (.inr (6, fs))) {v : Int64} (hlen : 10 < fs.length) (hdg : decode cc pc = .ok (.putfield 57, 3)) (kont : ∀ (H1 : Heap) (locs1 : List Loc), WI g ad B0 (up2 f kk ii (.inr (6, fs.set 10 (.long v)))) s H1 locs1 → W p l e R s m args below meth c H1 locs1 cells slots Q (F0 m (pc + 3) ls rest)) : W p l e R s m args below meth c H locs cells slots Q (F0 m pc ls ((.long v) :: .ref (ad kk ii) :: rest)) := r_put hC hI inX6 rfl tyX6 tyX6_ok nmX6 10 (by decide) wd_fl_X6_57 rfl rfl (ty := .long) (by decide +kernel) he rfl rfl hlen hdg kont
theorem gf_X0_9 (hC : Cx p s m args meth c RX0 cc nL ret g B0) (hI : WI g ad B0 f s H locs) (he : f kk ii = some (.inr (0, fs))) {v : Value} (hv : fs[0]? = some v) (hdg : decode cc pc = .ok (.getfield 9, 3)) (kont : W p l e R s m args below meth c H locs cells slots Q (F0 m (pc + 3) ls (v :: rest))) : W p l e R s m args below meth c H locs cells slots Q (F0 m pc ls (.ref (ad kk ii) :: rest)) := r_get hC hI inX0 rfl 0 (by decide) wd_fl_X0_9 rfl he hv hdg kont
theorem pf_X0_9 (hC : Cx p s m args meth c RX0 cc nL ret g B0) (hI : WI g ad B0 f s H locs) (he : f kk ii = some (.inr (0, fs))) {v : Int32} (hlen : 0 < fs.length) (hdg : decode cc pc = .ok (.putfield 9, 3)) (kont : ∀ (H1 : Heap) (locs1 : List Loc), WI g ad B0 (up2 f kk ii (.inr (0, fs.set 0 (.int v)))) s H1 locs1 → W p l e R s m args below meth c H1 locs1 cells slots Q (F0 m (pc + 3) ls rest)) : W p l e R s m args below meth c H locs cells slots Q (F0 m pc ls ((.int v) :: .ref (ad kk ii) :: rest)) := r_put hC hI inX0 rfl tyX0 tyX0_ok nmX0 0 (by decide) wd_fl_X0_9 rfl rfl (ty := .int) (by decide +kernel) he rfl rfl hlen hdg kont
theorem gf_X0_15 (hC : Cx p s m args meth c RX0 cc nL ret g B0) (hI : WI g ad B0 f s H locs) (he : f kk ii = some (.inr (0, fs))) {v : Value} (hv : fs[1]? = some v) (hdg : decode cc pc = .ok (.getfield 15, 3)) (kont : W p l e R s m args below meth c H locs cells slots Q (F0 m (pc + 3) ls (v :: rest))) : W p l e R s m args below meth c H locs cells slots Q (F0 m pc ls (.ref (ad kk ii) :: rest)) := r_get hC hI inX0 rfl 1 (by decide) wd_fl_X0_15 rfl he hv hdg kont
theorem pf_X0_15 (hC : Cx p s m args meth c RX0 cc nL ret g B0) (hI : WI g ad B0 f s H locs) (he : f kk ii = some (.inr (0, fs))) {v : Int32} (hlen : 1 < fs.length) (hdg : decode cc pc = .ok (.putfield 15, 3)) (kont : ∀ (H1 : Heap) (locs1 : List Loc), WI g ad B0 (up2 f kk ii (.inr (0, fs.set 1 (.int v)))) s H1 locs1 → W p l e R s m args below meth c H1 locs1 cells slots Q (F0 m (pc + 3) ls rest)) : W p l e R s m args below meth c H locs cells slots Q (F0 m pc ls ((.int v) :: .ref (ad kk ii) :: rest)) := r_put hC hI inX0 rfl tyX0 tyX0_ok nmX0 1 (by decide) wd_fl_X0_15 rfl rfl (ty := .int) (by decide +kernel) he rfl rfl hlen hdg kont
theorem gf_X5_9 (hC : Cx p s m args meth c RX5 cc nL ret g B0) (hI : WI g ad B0 f s H locs) (he : f kk ii = some (.inr (5, fs))) {v : Value} (hv : fs[0]? = some v) (hdg : decode cc pc = .ok (.getfield 9, 3)) (kont : W p l e R s m args below meth c H locs cells slots Q (F0 m (pc + 3) ls (v :: rest))) : W p l e R s m args below meth c H locs cells slots Q (F0 m pc ls (.ref (ad kk ii) :: rest)) := r_get hC hI inX5 rfl 0 (by decide) wd_fl_X5_9 rfl he hv hdg kont
theorem pf_X5_9 (hC : Cx p s m args meth c RX5 cc nL ret g B0) (hin : meth.name = "<init>") (hI : WI g ad B0 f s H locs) (he : f kk ii = some (.inr (5, fs))) {v : Nat} (hlen : 0 < fs.length) (hdg : decode cc pc = .ok (.putfield 9, 3)) (kont : ∀ (H1 : Heap) (locs1 : List Loc), WI g ad B0 (up2 f kk ii (.inr (5, fs.set 0 (.ref v)))) s H1 locs1 → W p l e R s m args below meth c H1 locs1 cells slots Q (F0 m (pc + 3) ls rest)) : W p l e R s m args below meth c H locs cells slots Q (F0 m pc ls ((.ref v) :: .ref (ad kk ii) :: rest)) := r_putF hC hin hI inX5 rfl tyX5 tyX5_ok nmX5 0 (by decide) wd_fl_X5_9 rfl rfl rfl (ty := (.array .int)) (by decide +kernel) he rfl rfl hlen hdg kont
theorem pf_X5_9N (hC : Cx p s m args meth c RX5 cc nL ret g B0) (hin : meth.name = "<init>") (hI : WI g ad B0 f s H locs) (he : f kk ii = some (.inr (5, fs)))  (hlen : 0 < fs.length) (hdg : decode cc pc = .ok (.putfield 9, 3)) (kont : ∀ (H1 : Heap) (locs1 : List Loc), WI g ad B0 (up2 f kk ii (.inr (5, fs.set 0 .null))) s H1 locs1 → W p l e R s m args below meth c H1 locs1 cells slots Q (F0 m (pc + 3) ls rest)) : W p l e R s m args below meth c H locs cells slots Q (F0 m pc ls (.null :: .ref (ad kk ii) :: rest)) := r_putF hC hin hI inX5 rfl tyX5 tyX5_ok nmX5 0 (by decide) wd_fl_X5_9 rfl rfl rfl (ty := (.array .int)) (by decide +kernel) he rfl rfl hlen hdg kont
theorem gf_X5_15 (hC : Cx p s m args meth c RX5 cc nL ret g B0) (hI : WI g ad B0 f s H locs) (he : f kk ii = some (.inr (5, fs))) {v : Value} (hv : fs[1]? = some v) (hdg : decode cc pc = .ok (.getfield 15, 3)) (kont : W p l e R s m args below meth c H locs cells slots Q (F0 m (pc + 3) ls (v :: rest))) : W p l e R s m args below meth c H locs cells slots Q (F0 m pc ls (.ref (ad kk ii) :: rest)) := r_get hC hI inX5 rfl 1 (by decide) wd_fl_X5_15 rfl he hv hdg kont
theorem pf_X5_15 (hC : Cx p s m args meth c RX5 cc nL ret g B0) (hI : WI g ad B0 f s H locs) (he : f kk ii = some (.inr (5, fs))) {v : Int32} (hlen : 1 < fs.length) (hdg : decode cc pc = .ok (.putfield 15, 3)) (kont : ∀ (H1 : Heap) (locs1 : List Loc), WI g ad B0 (up2 f kk ii (.inr (5, fs.set 1 (.int v)))) s H1 locs1 → W p l e R s m args below meth c H1 locs1 cells slots Q (F0 m (pc + 3) ls rest)) : W p l e R s m args below meth c H locs cells slots Q (F0 m pc ls ((.int v) :: .ref (ad kk ii) :: rest)) := r_put hC hI inX5 rfl tyX5 tyX5_ok nmX5 1 (by decide) wd_fl_X5_15 rfl rfl (ty := .int) (by decide +kernel) he rfl rfl hlen hdg kont
theorem gf_X7_7 (hC : Cx p s m args meth c RX7 cc nL ret g B0) (hI : WI g ad B0 f s H locs) (he : f kk ii = some (.inr (7, fs))) {v : Value} (hv : fs[2]? = some v) (hdg : decode cc pc = .ok (.getfield 7, 3)) (kont : W p l e R s m args below meth c H locs cells slots Q (F0 m (pc + 3) ls (v :: rest))) : W p l e R s m args below meth c H locs cells slots Q (F0 m pc ls (.ref (ad kk ii) :: rest)) := r_get hC hI inX7 rfl 2 (by decide) wd_fl_X7_7 rfl he hv hdg kont
theorem pf_X7_7 (hC : Cx p s m args meth c RX7 cc nL ret g B0) (hI : WI g ad B0 f s H locs) (he : f kk ii = some (.inr (7, fs))) {v : Int32} (hlen : 2 < fs.length) (hdg : decode cc pc = .ok (.putfield 7, 3)) (kont : ∀ (H1 : Heap) (locs1 : List Loc), WI g ad B0 (up2 f kk ii (.inr (7, fs.set 2 (.int v)))) s H1 locs1 → W p l e R s m args below meth c H1 locs1 cells slots Q (F0 m (pc + 3) ls rest)) : W p l e R s m args below meth c H locs cells slots Q (F0 m pc ls ((.int v) :: .ref (ad kk ii) :: rest)) := r_put hC hI inX7 rfl tyX7 tyX7_ok nmX7 2 (by decide) wd_fl_X7_7 rfl rfl (ty := .int) (by decide +kernel) he rfl rfl hlen hdg kont
theorem gf_X7_13 (hC : Cx p s m args meth c RX7 cc nL ret g B0) (hI : WI g ad B0 f s H locs) (he : f kk ii = some (.inr (7, fs))) {v : Value} (hv : fs[4]? = some v) (hdg : decode cc pc = .ok (.getfield 13, 3)) (kont : W p l e R s m args below meth c H locs cells slots Q (F0 m (pc + 3) ls (v :: rest))) : W p l e R s m args below meth c H locs cells slots Q (F0 m pc ls (.ref (ad kk ii) :: rest)) := r_get hC hI inX7 rfl 4 (by decide) wd_fl_X7_13 rfl he hv hdg kont
theorem pf_X7_13 (hC : Cx p s m args meth c RX7 cc nL ret g B0) (hin : meth.name = "<init>") (hI : WI g ad B0 f s H locs) (he : f kk ii = some (.inr (7, fs))) {v : Nat} (hlen : 4 < fs.length) (hdg : decode cc pc = .ok (.putfield 13, 3)) (kont : ∀ (H1 : Heap) (locs1 : List Loc), WI g ad B0 (up2 f kk ii (.inr (7, fs.set 4 (.ref v)))) s H1 locs1 → W p l e R s m args below meth c H1 locs1 cells slots Q (F0 m (pc + 3) ls rest)) : W p l e R s m args below meth c H locs cells slots Q (F0 m pc ls ((.ref v) :: .ref (ad kk ii) :: rest)) := r_putF hC hin hI inX7 rfl tyX7 tyX7_ok nmX7 4 (by decide) wd_fl_X7_13 rfl rfl rfl (ty := (.array .int)) (by decide +kernel) he rfl rfl hlen hdg kont
theorem pf_X7_13N (hC : Cx p s m args meth c RX7 cc nL ret g B0) (hin : meth.name = "<init>") (hI : WI g ad B0 f s H locs) (he : f kk ii = some (.inr (7, fs)))  (hlen : 4 < fs.length) (hdg : decode cc pc = .ok (.putfield 13, 3)) (kont : ∀ (H1 : Heap) (locs1 : List Loc), WI g ad B0 (up2 f kk ii (.inr (7, fs.set 4 .null))) s H1 locs1 → W p l e R s m args below meth c H1 locs1 cells slots Q (F0 m (pc + 3) ls rest)) : W p l e R s m args below meth c H locs cells slots Q (F0 m pc ls (.null :: .ref (ad kk ii) :: rest)) := r_putF hC hin hI inX7 rfl tyX7 tyX7_ok nmX7 4 (by decide) wd_fl_X7_13 rfl rfl rfl (ty := (.array .int)) (by decide +kernel) he rfl rfl hlen hdg kont
theorem gf_X7_17 (hC : Cx p s m args meth c RX7 cc nL ret g B0) (hI : WI g ad B0 f s H locs) (he : f kk ii = some (.inr (7, fs))) {v : Value} (hv : fs[7]? = some v) (hdg : decode cc pc = .ok (.getfield 17, 3)) (kont : W p l e R s m args below meth c H locs cells slots Q (F0 m (pc + 3) ls (v :: rest))) : W p l e R s m args below meth c H locs cells slots Q (F0 m pc ls (.ref (ad kk ii) :: rest)) := r_get hC hI inX7 rfl 7 (by decide) wd_fl_X7_17 rfl he hv hdg kont
theorem pf_X7_17 (hC : Cx p s m args meth c RX7 cc nL ret g B0) (hin : meth.name = "<init>") (hI : WI g ad B0 f s H locs) (he : f kk ii = some (.inr (7, fs))) {v : Nat} (hlen : 7 < fs.length) (hdg : decode cc pc = .ok (.putfield 17, 3)) (kont : ∀ (H1 : Heap) (locs1 : List Loc), WI g ad B0 (up2 f kk ii (.inr (7, fs.set 7 (.ref v)))) s H1 locs1 → W p l e R s m args below meth c H1 locs1 cells slots Q (F0 m (pc + 3) ls rest)) : W p l e R s m args below meth c H locs cells slots Q (F0 m pc ls ((.ref v) :: .ref (ad kk ii) :: rest)) := r_putF hC hin hI inX7 rfl tyX7 tyX7_ok nmX7 7 (by decide) wd_fl_X7_17 rfl rfl rfl (ty := (.array .int)) (by decide +kernel) he rfl rfl hlen hdg kont
theorem pf_X7_17N (hC : Cx p s m args meth c RX7 cc nL ret g B0) (hin : meth.name = "<init>") (hI : WI g ad B0 f s H locs) (he : f kk ii = some (.inr (7, fs)))  (hlen : 7 < fs.length) (hdg : decode cc pc = .ok (.putfield 17, 3)) (kont : ∀ (H1 : Heap) (locs1 : List Loc), WI g ad B0 (up2 f kk ii (.inr (7, fs.set 7 .null))) s H1 locs1 → W p l e R s m args below meth c H1 locs1 cells slots Q (F0 m (pc + 3) ls rest)) : W p l e R s m args below meth c H locs cells slots Q (F0 m pc ls (.null :: .ref (ad kk ii) :: rest)) := r_putF hC hin hI inX7 rfl tyX7 tyX7_ok nmX7 7 (by decide) wd_fl_X7_17 rfl rfl rfl (ty := (.array .int)) (by decide +kernel) he rfl rfl hlen hdg kont
theorem gf_X7_20 (hC : Cx p s m args meth c RX7 cc nL ret g B0) (hI : WI g ad B0 f s H locs) (he : f kk ii = some (.inr (7, fs))) {v : Value} (hv : fs[8]? = some v) (hdg : decode cc pc = .ok (.getfield 20, 3)) (kont : W p l e R s m args below meth c H locs cells slots Q (F0 m (pc + 3) ls (v :: rest))) : W p l e R s m args below meth c H locs cells slots Q (F0 m pc ls (.ref (ad kk ii) :: rest)) := r_get hC hI inX7 rfl 8 (by decide) wd_fl_X7_20 rfl he hv hdg kont
theorem pf_X7_20 (hC : Cx p s m args meth c RX7 cc nL ret g B0) (hin : meth.name = "<init>") (hI : WI g ad B0 f s H locs) (he : f kk ii = some (.inr (7, fs))) {v : Nat} (hlen : 8 < fs.length) (hdg : decode cc pc = .ok (.putfield 20, 3)) (kont : ∀ (H1 : Heap) (locs1 : List Loc), WI g ad B0 (up2 f kk ii (.inr (7, fs.set 8 (.ref v)))) s H1 locs1 → W p l e R s m args below meth c H1 locs1 cells slots Q (F0 m (pc + 3) ls rest)) : W p l e R s m args below meth c H locs cells slots Q (F0 m pc ls ((.ref v) :: .ref (ad kk ii) :: rest)) := r_putF hC hin hI inX7 rfl tyX7 tyX7_ok nmX7 8 (by decide) wd_fl_X7_20 rfl rfl rfl (ty := (.array .int)) (by decide +kernel) he rfl rfl hlen hdg kont
theorem pf_X7_20N (hC : Cx p s m args meth c RX7 cc nL ret g B0) (hin : meth.name = "<init>") (hI : WI g ad B0 f s H locs) (he : f kk ii = some (.inr (7, fs)))  (hlen : 8 < fs.length) (hdg : decode cc pc = .ok (.putfield 20, 3)) (kont : ∀ (H1 : Heap) (locs1 : List Loc), WI g ad B0 (up2 f kk ii (.inr (7, fs.set 8 .null))) s H1 locs1 → W p l e R s m args below meth c H1 locs1 cells slots Q (F0 m (pc + 3) ls rest)) : W p l e R s m args below meth c H locs cells slots Q (F0 m pc ls (.null :: .ref (ad kk ii) :: rest)) := r_putF hC hin hI inX7 rfl tyX7 tyX7_ok nmX7 8 (by decide) wd_fl_X7_20 rfl rfl rfl (ty := (.array .int)) (by decide +kernel) he rfl rfl hlen hdg kont
theorem gf_X7_23 (hC : Cx p s m args meth c RX7 cc nL ret g B0) (hI : WI g ad B0 f s H locs) (he : f kk ii = some (.inr (7, fs))) {v : Value} (hv : fs[9]? = some v) (hdg : decode cc pc = .ok (.getfield 23, 3)) (kont : W p l e R s m args below meth c H locs cells slots Q (F0 m (pc + 3) ls (v :: rest))) : W p l e R s m args below meth c H locs cells slots Q (F0 m pc ls (.ref (ad kk ii) :: rest)) := r_get hC hI inX7 rfl 9 (by decide) wd_fl_X7_23 rfl he hv hdg kont
theorem pf_X7_23 (hC : Cx p s m args meth c RX7 cc nL ret g B0) (hin : meth.name = "<init>") (hI : WI g ad B0 f s H locs) (he : f kk ii = some (.inr (7, fs))) {v : Nat} (hlen : 9 < fs.length) (hdg : decode cc pc = .ok (.putfield 23, 3)) (kont : ∀ (H1 : Heap) (locs1 : List Loc), WI g ad B0 (up2 f kk ii (.inr (7, fs.set 9 (.ref v)))) s H1 locs1 → W p l e R s m args below meth c H1 locs1 cells slots Q (F0 m (pc + 3) ls rest)) : W p l e R s m args below meth c H locs cells slots Q (F0 m pc ls ((.ref v) :: .ref (ad kk ii) :: rest)) := r_putF hC hin hI inX7 rfl tyX7 tyX7_ok nmX7 9 (by decide) wd_fl_X7_23 rfl rfl rfl (ty := (.array .int)) (by decide +kernel) he rfl rfl hlen hdg kont
theorem pf_X7_23N (hC : Cx p s m args meth c RX7 cc nL ret g B0) (hin : meth.name = "<init>") (hI : WI g ad B0 f s H locs) (he : f kk ii = some (.inr (7, fs)))  (hlen : 9 < fs.length) (hdg : decode cc pc = .ok (.putfield 23, 3)) (kont : ∀ (H1 : Heap) (locs1 : List Loc), WI g ad B0 (up2 f kk ii (.inr (7, fs.set 9 .null))) s H1 locs1 → W p l e R s m args below meth c H1 locs1 cells slots Q (F0 m (pc + 3) ls rest)) : W p l e R s m args below meth c H locs cells slots Q (F0 m pc ls (.null :: .ref (ad kk ii) :: rest)) := r_putF hC hin hI inX7 rfl tyX7 tyX7_ok nmX7 9 (by decide) wd_fl_X7_23 rfl rfl rfl (ty := (.array .int)) (by decide +kernel) he rfl rfl hlen hdg kont
theorem gf_X7_26 (hC : Cx p s m args meth c RX7 cc nL ret g B0) (hI : WI g ad B0 f s H locs) (he : f kk ii = some (.inr (7, fs))) {v : Value} (hv : fs[10]? = some v) (hdg : decode cc pc = .ok (.getfield 26, 3)) (kont : W p l e R s m args below meth c H locs cells slots Q (F0 m (pc + 3) ls (v :: rest))) : W p l e R s m args below meth c H locs cells slots Q (F0 m pc ls (.ref (ad kk ii) :: rest)) := r_get hC hI inX7 rfl 10 (by decide) wd_fl_X7_26 rfl he hv hdg kont
theorem pf_X7_26 (hC : Cx p s m args meth c RX7 cc nL ret g B0) (hin : meth.name = "<init>") (hI : WI g ad B0 f s H locs) (he : f kk ii = some (.inr (7, fs))) {v : Nat} (hlen : 10 < fs.length) (hdg : decode cc pc = .ok (.putfield 26, 3)) (kont : ∀ (H1 : Heap) (locs1 : List Loc), WI g ad B0 (up2 f kk ii (.inr (7, fs.set 10 (.ref v)))) s H1 locs1 → W p l e R s m args below meth c H1 locs1 cells slots Q (F0 m (pc + 3) ls rest)) : W p l e R s m args below meth c H locs cells slots Q (F0 m pc ls ((.ref v) :: .ref (ad kk ii) :: rest)) := r_putF hC hin hI inX7 rfl tyX7 tyX7_ok nmX7 10 (by decide) wd_fl_X7_26 rfl rfl rfl (ty := (.array .int)) (by decide +kernel) he rfl rfl hlen hdg kont
theorem pf_X7_26N (hC : Cx p s m args meth c RX7 cc nL ret g B0) (hin : meth.name = "<init>") (hI : WI g ad B0 f s H locs) (he : f kk ii = some (.inr (7, fs)))  (hlen : 10 < fs.length) (hdg : decode cc pc = .ok (.putfield 26, 3)) (kont : ∀ (H1 : Heap) (locs1 : List Loc), WI g ad B0 (up2 f kk ii (.inr (7, fs.set 10 .null))) s H1 locs1 → W p l e R s m args below meth c H1 locs1 cells slots Q (F0 m (pc + 3) ls rest)) : W p l e R s m args below meth c H locs cells slots Q (F0 m pc ls (.null :: .ref (ad kk ii) :: rest)) := r_putF hC hin hI inX7 rfl tyX7 tyX7_ok nmX7 10 (by decide) wd_fl_X7_26 rfl rfl rfl (ty := (.array .int)) (by decide +kernel) he rfl rfl hlen hdg kont
theorem gf_X7_29 (hC : Cx p s m args meth c RX7 cc nL ret g B0) (hI : WI g ad B0 f s H locs) (he : f kk ii = some (.inr (7, fs))) {v : Value} (hv : fs[12]? = some v) (hdg : decode cc pc = .ok (.getfield 29, 3)) (kont : W p l e R s m args below meth c H locs cells slots Q (F0 m (pc + 3) ls (v :: rest))) : W p l e R s m args below meth c H locs cells slots Q (F0 m pc ls (.ref (ad kk ii) :: rest)) := r_get hC hI inX7 rfl 12 (by decide) wd_fl_X7_29 rfl he hv hdg kont
theorem pf_X7_29 (hC : Cx p s m args meth c RX7 cc nL ret g B0) (hin : meth.name = "<init>") (hI : WI g ad B0 f s H locs) (he : f kk ii = some (.inr (7, fs))) {v : Nat} (hlen : 12 < fs.length) (hdg : decode cc pc = .ok (.putfield 29, 3)) (kont : ∀ (H1 : Heap) (locs1 : List Loc), WI g ad B0 (up2 f kk ii (.inr (7, fs.set 12 (.ref v)))) s H1 locs1 → W p l e R s m args below meth c H1 locs1 cells slots Q (F0 m (pc + 3) ls rest)) : W p l e R s m args below meth c H locs cells slots Q (F0 m pc ls ((.ref v) :: .ref (ad kk ii) :: rest)) := r_putF hC hin hI inX7 rfl tyX7 tyX7_ok nmX7 12 (by decide) wd_fl_X7_29 rfl rfl rfl (ty := (.array .int)) (by decide +kernel) he rfl rfl hlen hdg kont
theorem pf_X7_29N (hC : Cx p s m args meth c RX7 cc nL ret g B0) (hin : meth.name = "<init>") (hI : WI g ad B0 f s H locs) (he : f kk ii = some (.inr (7, fs)))  (hlen : 12 < fs.length) (hdg : decode cc pc = .ok (.putfield 29, 3)) (kont : ∀ (H1 : Heap) (locs1 : List Loc), WI g ad B0 (up2 f kk ii (.inr (7, fs.set 12 .null))) s H1 locs1 → W p l e R s m args below meth c H1 locs1 cells slots Q (F0 m (pc + 3) ls rest)) : W p l e R s m args below meth c H locs cells slots Q (F0 m pc ls (.null :: .ref (ad kk ii) :: rest)) := r_putF hC hin hI inX7 rfl tyX7 tyX7_ok nmX7 12 (by decide) wd_fl_X7_29 rfl rfl rfl (ty := (.array .int)) (by decide +kernel) he rfl rfl hlen hdg kont
theorem gf_X7_32 (hC : Cx p s m args meth c RX7 cc nL ret g B0) (hI : WI g ad B0 f s H locs) (he : f kk ii = some (.inr (7, fs))) {v : Value} (hv : fs[13]? = some v) (hdg : decode cc pc = .ok (.getfield 32, 3)) (kont : W p l e R s m args below meth c H locs cells slots Q (F0 m (pc + 3) ls (v :: rest))) : W p l e R s m args below meth c H locs cells slots Q (F0 m pc ls (.ref (ad kk ii) :: rest)) := r_get hC hI inX7 rfl 13 (by decide) wd_fl_X7_32 rfl he hv hdg kont
theorem pf_X7_32 (hC : Cx p s m args meth c RX7 cc nL ret g B0) (hin : meth.name = "<init>") (hI : WI g ad B0 f s H locs) (he : f kk ii = some (.inr (7, fs))) {v : Nat} (hlen : 13 < fs.length) (hdg : decode cc pc = .ok (.putfield 32, 3)) (kont : ∀ (H1 : Heap) (locs1 : List Loc), WI g ad B0 (up2 f kk ii (.inr (7, fs.set 13 (.ref v)))) s H1 locs1 → W p l e R s m args below meth c H1 locs1 cells slots Q (F0 m (pc + 3) ls rest)) : W p l e R s m args below meth c H locs cells slots Q (F0 m pc ls ((.ref v) :: .ref (ad kk ii) :: rest)) := r_putF hC hin hI inX7 rfl tyX7 tyX7_ok nmX7 13 (by decide) wd_fl_X7_32 rfl rfl rfl (ty := (.array .int)) (by decide +kernel) he rfl rfl hlen hdg kont
theorem pf_X7_32N (hC : Cx p s m args meth c RX7 cc nL ret g B0) (hin : meth.name = "<init>") (hI : WI g ad B0 f s H locs) (he : f kk ii = some (.inr (7, fs)))  (hlen : 13 < fs.length) (hdg : decode cc pc = .ok (.putfield 32, 3)) (kont : ∀ (H1 : Heap) (locs1 : List Loc), WI g ad B0 (up2 f kk ii (.inr (7, fs.set 13 .null))) s H1 locs1 → W p l e R s m args below meth c H1 locs1 cells slots Q (F0 m (pc + 3) ls rest)) : W p l e R s m args below meth c H locs cells slots Q (F0 m pc ls (.null :: .ref (ad kk ii) :: rest)) := r_putF hC hin hI inX7 rfl tyX7 tyX7_ok nmX7 13 (by decide) wd_fl_X7_32 rfl rfl rfl (ty := (.array .int)) (by decide +kernel) he rfl rfl hlen hdg kont
theorem gf_X7_35 (hC : Cx p s m args meth c RX7 cc nL ret g B0) (hI : WI g ad B0 f s H locs) (he : f kk ii = some (.inr (7, fs))) {v : Value} (hv : fs[14]? = some v) (hdg : decode cc pc = .ok (.getfield 35, 3)) (kont : W p l e R s m args below meth c H locs cells slots Q (F0 m (pc + 3) ls (v :: rest))) : W p l e R s m args below meth c H locs cells slots Q (F0 m pc ls (.ref (ad kk ii) :: rest)) := r_get hC hI inX7 rfl 14 (by decide) wd_fl_X7_35 rfl he hv hdg kont
theorem pf_X7_35 (hC : Cx p s m args meth c RX7 cc nL ret g B0) (hin : meth.name = "<init>") (hI : WI g ad B0 f s H locs) (he : f kk ii = some (.inr (7, fs))) {v : Nat} (hlen : 14 < fs.length) (hdg : decode cc pc = .ok (.putfield 35, 3)) (kont : ∀ (H1 : Heap) (locs1 : List Loc), WI g ad B0 (up2 f kk ii (.inr (7, fs.set 14 (.ref v)))) s H1 locs1 → W p l e R s m args below meth c H1 locs1 cells slots Q (F0 m (pc + 3) ls rest)) : W p l e R s m args below meth c H locs cells slots Q (F0 m pc ls ((.ref v) :: .ref (ad kk ii) :: rest)) := r_putF hC hin hI inX7 rfl tyX7 tyX7_ok nmX7 14 (by decide) wd_fl_X7_35 rfl rfl rfl (ty := (.array .int)) (by decide +kernel) he rfl rfl hlen hdg kont
theorem pf_X7_35N (hC : Cx p s m args meth c RX7 cc nL ret g B0) (hin : meth.name = "<init>") (hI : WI g ad B0 f s H locs) (he : f kk ii = some (.inr (7, fs)))  (hlen : 14 < fs.length) (hdg : decode cc pc = .ok (.putfield 35, 3)) (kont : ∀ (H1 : Heap) (locs1 : List Loc), WI g ad B0 (up2 f kk ii (.inr (7, fs.set 14 .null))) s H1 locs1 → W p l e R s m args below meth c H1 locs1 cells slots Q (F0 m (pc + 3) ls rest)) : W p l e R s m args below meth c H locs cells slots Q (F0 m pc ls (.null :: .ref (ad kk ii) :: rest)) := r_putF hC hin hI inX7 rfl tyX7 tyX7_ok nmX7 14 (by decide) wd_fl_X7_35 rfl rfl rfl (ty := (.array .int)) (by decide +kernel) he rfl rfl hlen hdg kont
theorem gf_X7_38 (hC : Cx p s m args meth c RX7 cc nL ret g B0) (hI : WI g ad B0 f s H locs) (he : f kk ii = some (.inr (7, fs))) {v : Value} (hv : fs[15]? = some v) (hdg : decode cc pc = .ok (.getfield 38, 3)) (kont : W p l e R s m args below meth c H locs cells slots Q (F0 m (pc + 3) ls (v :: rest))) : W p l e R s m args below meth c H locs cells slots Q (F0 m pc ls (.ref (ad kk ii) :: rest)) := r_get hC hI inX7 rfl 15 (by decide) wd_fl_X7_38 rfl he hv hdg kont
theorem pf_X7_38 (hC : Cx p s m args meth c RX7 cc nL ret g B0) (hin : meth.name = "<init>") (hI : WI g ad B0 f s H locs) (he : f kk ii = some (.inr (7, fs))) {v : Nat} (hlen : 15 < fs.length) (hdg : decode cc pc = .ok (.putfield 38, 3)) (kont : ∀ (H1 : Heap) (locs1 : List Loc), WI g ad B0 (up2 f kk ii (.inr (7, fs.set 15 (.ref v)))) s H1 locs1 → W p l e R s m args below meth c H1 locs1 cells slots Q (F0 m (pc + 3) ls rest)) : W p l e R s m args below meth c H locs cells slots Q (F0 m pc ls ((.ref v) :: .ref (ad kk ii) :: rest)) := r_putF hC hin hI inX7 rfl tyX7 tyX7_ok nmX7 15 (by decide) wd_fl_X7_38 rfl rfl rfl (ty := (.array .int)) (by decide +kernel) he rfl rfl hlen hdg kont
theorem pf_X7_38N (hC : Cx p s m args meth c RX7 cc nL ret g B0) (hin : meth.name = "<init>") (hI : WI g ad B0 f s H locs) (he : f kk ii = some (.inr (7, fs)))  (hlen : 15 < fs.length) (hdg : decode cc pc = .ok (.putfield 38, 3)) (kont : ∀ (H1 : Heap) (locs1 : List Loc), WI g ad B0 (up2 f kk ii (.inr (7, fs.set 15 .null))) s H1 locs1 → W p l e R s m args below meth c H1 locs1 cells slots Q (F0 m (pc + 3) ls rest)) : W p l e R s m args below meth c H locs cells slots Q (F0 m pc ls (.null :: .ref (ad kk ii) :: rest)) := r_putF hC hin hI inX7 rfl tyX7 tyX7_ok nmX7 15 (by decide) wd_fl_X7_38 rfl rfl rfl (ty := (.array .int)) (by decide +kernel) he rfl rfl hlen hdg kont
theorem gf_X7_41 (hC : Cx p s m args meth c RX7 cc nL ret g B0) (hI : WI g ad B0 f s H locs) (he : f kk ii = some (.inr (7, fs))) {v : Value} (hv : fs[16]? = some v) (hdg : decode cc pc = .ok (.getfield 41, 3)) (kont : W p l e R s m args below meth c H locs cells slots Q (F0 m (pc + 3) ls (v :: rest))) : W p l e R s m args below meth c H locs cells slots Q (F0 m pc ls (.ref (ad kk ii) :: rest)) := r_get hC hI inX7 rfl 16 (by decide) wd_fl_X7_41 rfl he hv hdg kont
theorem pf_X7_41 (hC : Cx p s m args meth c RX7 cc nL ret g B0) (hin : meth.name = "<init>") (hI : WI g ad B0 f s H locs) (he : f kk ii = some (.inr (7, fs))) {v : Nat} (hlen : 16 < fs.length) (hdg : decode cc pc = .ok (.putfield 41, 3)) (kont : ∀ (H1 : Heap) (locs1 : List Loc), WI g ad B0 (up2 f kk ii (.inr (7, fs.set 16 (.ref v)))) s H1 locs1 → W p l e R s m args below meth c H1 locs1 cells slots Q (F0 m (pc + 3) ls rest)) : W p l e R s m args below meth c H locs cells slots Q (F0 m pc ls ((.ref v) :: .ref (ad kk ii) :: rest)) := r_putF hC hin hI inX7 rfl tyX7 tyX7_ok nmX7 16 (by decide) wd_fl_X7_41 rfl rfl rfl (ty := (.array .boolean)) (by decide +kernel) he rfl rfl hlen hdg kont
theorem pf_X7_41N (hC : Cx p s m args meth c RX7 cc nL ret g B0) (hin : meth.name = "<init>") (hI : WI g ad B0 f s H locs) (he : f kk ii = some (.inr (7, fs)))  (hlen : 16 < fs.length) (hdg : decode cc pc = .ok (.putfield 41, 3)) (kont : ∀ (H1 : Heap) (locs1 : List Loc), WI g ad B0 (up2 f kk ii (.inr (7, fs.set 16 .null))) s H1 locs1 → W p l e R s m args below meth c H1 locs1 cells slots Q (F0 m (pc + 3) ls rest)) : W p l e R s m args below meth c H locs cells slots Q (F0 m pc ls (.null :: .ref (ad kk ii) :: rest)) := r_putF hC hin hI inX7 rfl tyX7 tyX7_ok nmX7 16 (by decide) wd_fl_X7_41 rfl rfl rfl (ty := (.array .boolean)) (by decide +kernel) he rfl rfl hlen hdg kont
theorem gf_X7_45 (hC : Cx p s m args meth c RX7 cc nL ret g B0) (hI : WI g ad B0 f s H locs) (he : f kk ii = some (.inr (7, fs))) {v : Value} (hv : fs[17]? = some v) (hdg : decode cc pc = .ok (.getfield 45, 3)) (kont : W p l e R s m args below meth c H locs cells slots Q (F0 m (pc + 3) ls (v :: rest))) : W p l e R s m args below meth c H locs cells slots Q (F0 m pc ls (.ref (ad kk ii) :: rest)) := r_get hC hI inX7 rfl 17 (by decide) wd_fl_X7_45 rfl he hv hdg kont
theorem pf_X7_45 (hC : Cx p s m args meth c RX7 cc nL ret g B0) (hin : meth.name = "<init>") (hI : WI g ad B0 f s H locs) (he : f kk ii = some (.inr (7, fs))) {v : Nat} (hlen : 17 < fs.length) (hdg : decode cc pc = .ok (.putfield 45, 3)) (kont : ∀ (H1 : Heap) (locs1 : List Loc), WI g ad B0 (up2 f kk ii (.inr (7, fs.set 17 (.ref v)))) s H1 locs1 → W p l e R s m args below meth c H1 locs1 cells slots Q (F0 m (pc + 3) ls rest)) : W p l e R s m args below meth c H locs cells slots Q (F0 m pc ls ((.ref v) :: .ref (ad kk ii) :: rest)) := r_putF hC hin hI inX7 rfl tyX7 tyX7_ok nmX7 17 (by decide) wd_fl_X7_45 rfl rfl rfl (ty := (.array .int)) (by decide +kernel) he rfl rfl hlen hdg kont
theorem pf_X7_45N (hC : Cx p s m args meth c RX7 cc nL ret g B0) (hin : meth.name = "<init>") (hI : WI g ad B0 f s H locs) (he : f kk ii = some (.inr (7, fs)))  (hlen : 17 < fs.length) (hdg : decode cc pc = .ok (.putfield 45, 3)) (kont : ∀ (H1 : Heap) (locs1 : List Loc), WI g ad B0 (up2 f kk ii (.inr (7, fs.set 17 .null))) s H1 locs1 → W p l e R s m args below meth c H1 locs1 cells slots Q (F0 m (pc + 3) ls rest)) : W p l e R s m args below meth c H locs cells slots Q (F0 m pc ls (.null :: .ref (ad kk ii) :: rest)) := r_putF hC hin hI inX7 rfl tyX7 tyX7_ok nmX7 17 (by decide) wd_fl_X7_45 rfl rfl rfl (ty := (.array .int)) (by decide +kernel) he rfl rfl hlen hdg kont
theorem gf_X7_48 (hC : Cx p s m args meth c RX7 cc nL ret g B0) (hI : WI g ad B0 f s H locs) (he : f kk ii = some (.inr (7, fs))) {v : Value} (hv : fs[19]? = some v) (hdg : decode cc pc = .ok (.getfield 48, 3)) (kont : W p l e R s m args below meth c H locs cells slots Q (F0 m (pc + 3) ls (v :: rest))) : W p l e R s m args below meth c H locs cells slots Q (F0 m pc ls (.ref (ad kk ii) :: rest)) := r_get hC hI inX7 rfl 19 (by decide) wd_fl_X7_48 rfl he hv hdg kont
theorem pf_X7_48 (hC : Cx p s m args meth c RX7 cc nL ret g B0) (hin : meth.name = "<init>") (hI : WI g ad B0 f s H locs) (he : f kk ii = some (.inr (7, fs))) {v : Nat} (hlen : 19 < fs.length) (hdg : decode cc pc = .ok (.putfield 48, 3)) (kont : ∀ (H1 : Heap) (locs1 : List Loc), WI g ad B0 (up2 f kk ii (.inr (7, fs.set 19 (.ref v)))) s H1 locs1 → W p l e R s m args below meth c H1 locs1 cells slots Q (F0 m (pc + 3) ls rest)) : W p l e R s m args below meth c H locs cells slots Q (F0 m pc ls ((.ref v) :: .ref (ad kk ii) :: rest)) := r_putF hC hin hI inX7 rfl tyX7 tyX7_ok nmX7 19 (by decide) wd_fl_X7_48 rfl rfl rfl (ty := (.array .int)) (by decide +kernel) he rfl rfl hlen hdg kont
theorem pf_X7_48N (hC : Cx p s m args meth c RX7 cc nL ret g B0) (hin : meth.name = "<init>") (hI : WI g ad B0 f s H locs) (he : f kk ii = some (.inr (7, fs)))  (hlen : 19 < fs.length) (hdg : decode cc pc = .ok (.putfield 48, 3)) (kont : ∀ (H1 : Heap) (locs1 : List Loc), WI g ad B0 (up2 f kk ii (.inr (7, fs.set 19 .null))) s H1 locs1 → W p l e R s m args below meth c H1 locs1 cells slots Q (F0 m (pc + 3) ls rest)) : W p l e R s m args below meth c H locs cells slots Q (F0 m pc ls (.null :: .ref (ad kk ii) :: rest)) := r_putF hC hin hI inX7 rfl tyX7 tyX7_ok nmX7 19 (by decide) wd_fl_X7_48 rfl rfl rfl (ty := (.array .int)) (by decide +kernel) he rfl rfl hlen hdg kont
theorem gf_X7_51 (hC : Cx p s m args meth c RX7 cc nL ret g B0) (hI : WI g ad B0 f s H locs) (he : f kk ii = some (.inr (7, fs))) {v : Value} (hv : fs[20]? = some v) (hdg : decode cc pc = .ok (.getfield 51, 3)) (kont : W p l e R s m args below meth c H locs cells slots Q (F0 m (pc + 3) ls (v :: rest))) : W p l e R s m args below meth c H locs cells slots Q (F0 m pc ls (.ref (ad kk ii) :: rest)) := r_get hC hI inX7 rfl 20 (by decide) wd_fl_X7_51 rfl he hv hdg kont
theorem pf_X7_51 (hC : Cx p s m args meth c RX7 cc nL ret g B0) (hin : meth.name = "<init>") (hI : WI g ad B0 f s H locs) (he : f kk ii = some (.inr (7, fs))) {v : Nat} (hlen : 20 < fs.length) (hdg : decode cc pc = .ok (.putfield 51, 3)) (kont : ∀ (H1 : Heap) (locs1 : List Loc), WI g ad B0 (up2 f kk ii (.inr (7, fs.set 20 (.ref v)))) s H1 locs1 → W p l e R s m args below meth c H1 locs1 cells slots Q (F0 m (pc + 3) ls rest)) : W p l e R s m args below meth c H locs cells slots Q (F0 m pc ls ((.ref v) :: .ref (ad kk ii) :: rest)) := r_putF hC hin hI inX7 rfl tyX7 tyX7_ok nmX7 20 (by decide) wd_fl_X7_51 rfl rfl rfl (ty := (.array .int)) (by decide +kernel) he rfl rfl hlen hdg kont
theorem pf_X7_51N (hC : Cx p s m args meth c RX7 cc nL ret g B0) (hin : meth.name = "<init>") (hI : WI g ad B0 f s H locs) (he : f kk ii = some (.inr (7, fs)))  (hlen : 20 < fs.length) (hdg : decode cc pc = .ok (.putfield 51, 3)) (kont : ∀ (H1 : Heap) (locs1 : List Loc), WI g ad B0 (up2 f kk ii (.inr (7, fs.set 20 .null))) s H1 locs1 → W p l e R s m args below meth c H1 locs1 cells slots Q (F0 m (pc + 3) ls rest)) : W p l e R s m args below meth c H locs cells slots Q (F0 m pc ls (.null :: .ref (ad kk ii) :: rest)) := r_putF hC hin hI inX7 rfl tyX7 tyX7_ok nmX7 20 (by decide) wd_fl_X7_51 rfl rfl rfl (ty := (.array .int)) (by decide +kernel) he rfl rfl hlen hdg kont
theorem gf_X7_54 (hC : Cx p s m args meth c RX7 cc nL ret g B0) (hI : WI g ad B0 f s H locs) (he : f kk ii = some (.inr (7, fs))) {v : Value} (hv : fs[21]? = some v) (hdg : decode cc pc = .ok (.getfield 54, 3)) (kont : W p l e R s m args below meth c H locs cells slots Q (F0 m (pc + 3) ls (v :: rest))) : W p l e R s m args below meth c H locs cells slots Q (F0 m pc ls (.ref (ad kk ii) :: rest)) := r_get hC hI inX7 rfl 21 (by decide) wd_fl_X7_54 rfl he hv hdg kont
theorem pf_X7_54 (hC : Cx p s m args meth c RX7 cc nL ret g B0) (hin : meth.name = "<init>") (hI : WI g ad B0 f s H locs) (he : f kk ii = some (.inr (7, fs))) {v : Nat} (hlen : 21 < fs.length) (hdg : decode cc pc = .ok (.putfield 54, 3)) (kont : ∀ (H1 : Heap) (locs1 : List Loc), WI g ad B0 (up2 f kk ii (.inr (7, fs.set 21 (.ref v)))) s H1 locs1 → W p l e R s m args below meth c H1 locs1 cells slots Q (F0 m (pc + 3) ls rest)) : W p l e R s m args below meth c H locs cells slots Q (F0 m pc ls ((.ref v) :: .ref (ad kk ii) :: rest)) := r_putF hC hin hI inX7 rfl tyX7 tyX7_ok nmX7 21 (by decide) wd_fl_X7_54 rfl rfl rfl (ty := (.array .int)) (by decide +kernel) he rfl rfl hlen hdg kont
theorem pf_X7_54N (hC : Cx p s m args meth c RX7 cc nL ret g B0) (hin : meth.name = "<init>") (hI : WI g ad B0 f s H locs) (he : f kk ii = some (.inr (7, fs)))  (hlen : 21 < fs.length) (hdg : decode cc pc = .ok (.putfield 54, 3)) (kont : ∀ (H1 : Heap) (locs1 : List Loc), WI g ad B0 (up2 f kk ii (.inr (7, fs.set 21 .null))) s H1 locs1 → W p l e R s m args below meth c H1 locs1 cells slots Q (F0 m (pc + 3) ls rest)) : W p l e R s m args below meth c H locs cells slots Q (F0 m pc ls (.null :: .ref (ad kk ii) :: rest)) := r_putF hC hin hI inX7 rfl tyX7 tyX7_ok nmX7 21 (by decide) wd_fl_X7_54 rfl rfl rfl (ty := (.array .int)) (by decide +kernel) he rfl rfl hlen hdg kont
theorem gf_X7_57 (hC : Cx p s m args meth c RX7 cc nL ret g B0) (hI : WI g ad B0 f s H locs) (he : f kk ii = some (.inr (7, fs))) {v : Value} (hv : fs[22]? = some v) (hdg : decode cc pc = .ok (.getfield 57, 3)) (kont : W p l e R s m args below meth c H locs cells slots Q (F0 m (pc + 3) ls (v :: rest))) : W p l e R s m args below meth c H locs cells slots Q (F0 m pc ls (.ref (ad kk ii) :: rest)) := r_get hC hI inX7 rfl 22 (by decide) wd_fl_X7_57 rfl he hv hdg kont
theorem pf_X7_57 (hC : Cx p s m args meth c RX7 cc nL ret g B0) (hin : meth.name = "<init>") (hI : WI g ad B0 f s H locs) (he : f kk ii = some (.inr (7, fs))) {v : Nat} (hlen : 22 < fs.length) (hdg : decode cc pc = .ok (.putfield 57, 3)) (kont : ∀ (H1 : Heap) (locs1 : List Loc), WI g ad B0 (up2 f kk ii (.inr (7, fs.set 22 (.ref v)))) s H1 locs1 → W p l e R s m args below meth c H1 locs1 cells slots Q (F0 m (pc + 3) ls rest)) : W p l e R s m args below meth c H locs cells slots Q (F0 m pc ls ((.ref v) :: .ref (ad kk ii) :: rest)) := r_putF hC hin hI inX7 rfl tyX7 tyX7_ok nmX7 22 (by decide) wd_fl_X7_57 rfl rfl rfl (ty := (.array .int)) (by decide +kernel) he rfl rfl hlen hdg kont
theorem pf_X7_57N (hC : Cx p s m args meth c RX7 cc nL ret g B0) (hin : meth.name = "<init>") (hI : WI g ad B0 f s H locs) (he : f kk ii = some (.inr (7, fs)))  (hlen : 22 < fs.length) (hdg : decode cc pc = .ok (.putfield 57, 3)) (kont : ∀ (H1 : Heap) (locs1 : List Loc), WI g ad B0 (up2 f kk ii (.inr (7, fs.set 22 .null))) s H1 locs1 → W p l e R s m args below meth c H1 locs1 cells slots Q (F0 m (pc + 3) ls rest)) : W p l e R s m args below meth c H locs cells slots Q (F0 m pc ls (.null :: .ref (ad kk ii) :: rest)) := r_putF hC hin hI inX7 rfl tyX7 tyX7_ok nmX7 22 (by decide) wd_fl_X7_57 rfl rfl rfl (ty := (.array .int)) (by decide +kernel) he rfl rfl hlen hdg kont
theorem gf_X6_65 (hC : Cx p s m args meth c RX6 cc nL ret g B0) (hI : WI g ad B0 f s H locs) (he : f kk ii = some (.inr (0, fs))) {v : Value} (hv : fs[0]? = some v) (hdg : decode cc pc = .ok (.getfield 65, 3)) (kont : W p l e R s m args below meth c H locs cells slots Q (F0 m (pc + 3) ls (v :: rest))) : W p l e R s m args below meth c H locs cells slots Q (F0 m pc ls (.ref (ad kk ii) :: rest)) := r_get hC hI inX0 rfl 0 (by decide) wd_fl_X6_65 rfl he hv hdg kont
theorem pf_X6_65 (hC : Cx p s m args meth c RX6 cc nL ret g B0) (hI : WI g ad B0 f s H locs) (he : f kk ii = some (.inr (0, fs))) {v : Int32} (hlen : 0 < fs.length) (hdg : decode cc pc = .ok (.putfield 65, 3)) (kont : ∀ (H1 : Heap) (locs1 : List Loc), WI g ad B0 (up2 f kk ii (.inr (0, fs.set 0 (.int v)))) s H1 locs1 → W p l e R s m args below meth c H1 locs1 cells slots Q (F0 m (pc + 3) ls rest)) : W p l e R s m args below meth c H locs cells slots Q (F0 m pc ls ((.int v) :: .ref (ad kk ii) :: rest)) := r_put hC hI inX0 rfl tyX0 tyX0_ok nmX0 0 (by decide) wd_fl_X6_65 rfl rfl (ty := .int) (by decide +kernel) he rfl rfl hlen hdg kont
theorem gf_X6_68 (hC : Cx p s m args meth c RX6 cc nL ret g B0) (hI : WI g ad B0 f s H locs) (he : f kk ii = some (.inr (0, fs))) {v : Value} (hv : fs[1]? = some v) (hdg : decode cc pc = .ok (.getfield 68, 3)) (kont : W p l e R s m args below meth c H locs cells slots Q (F0 m (pc + 3) ls (v :: rest))) : W p l e R s m args below meth c H locs cells slots Q (F0 m pc ls (.ref (ad kk ii) :: rest)) := r_get hC hI inX0 rfl 1 (by decide) wd_fl_X6_68 rfl he hv hdg kont
theorem pf_X6_68 (hC : Cx p s m args meth c RX6 cc nL ret g B0) (hI : WI g ad B0 f s H locs) (he : f kk ii = some (.inr (0, fs))) {v : Int32} (hlen : 1 < fs.length) (hdg : decode cc pc = .ok (.putfield 68, 3)) (kont : ∀ (H1 : Heap) (locs1 : List Loc), WI g ad B0 (up2 f kk ii (.inr (0, fs.set 1 (.int v)))) s H1 locs1 → W p l e R s m args below meth c H1 locs1 cells slots Q (F0 m (pc + 3) ls rest)) : W p l e R s m args below meth c H locs cells slots Q (F0 m pc ls ((.int v) :: .ref (ad kk ii) :: rest)) := r_put hC hI inX0 rfl tyX0 tyX0_ok nmX0 1 (by decide) wd_fl_X6_68 rfl rfl (ty := .int) (by decide +kernel) he rfl rfl hlen hdg kont
theorem gf_X7_60 (hC : Cx p s m args meth c RX7 cc nL ret g B0) (hI : WI g ad B0 f s H locs) (he : f kk ii = some (.inr (7, fs))) {v : Value} (hv : fs[0]? = some v) (hdg : decode cc pc = .ok (.getfield 60, 3)) (kont : W p l e R s m args below meth c H locs cells slots Q (F0 m (pc + 3) ls (v :: rest))) : W p l e R s m args below meth c H locs cells slots Q (F0 m pc ls (.ref (ad kk ii) :: rest)) := r_get hC hI inX7 rfl 0 (by decide) wd_fl_X7_60 rfl he hv hdg kont
theorem pf_X7_60 (hC : Cx p s m args meth c RX7 cc nL ret g B0) (hI : WI g ad B0 f s H locs) (he : f kk ii = some (.inr (7, fs))) {v : Int32} (hlen : 0 < fs.length) (hdg : decode cc pc = .ok (.putfield 60, 3)) (kont : ∀ (H1 : Heap) (locs1 : List Loc), WI g ad B0 (up2 f kk ii (.inr (7, fs.set 0 (.int v)))) s H1 locs1 → W p l e R s m args below meth c H1 locs1 cells slots Q (F0 m (pc + 3) ls rest)) : W p l e R s m args below meth c H locs cells slots Q (F0 m pc ls ((.int v) :: .ref (ad kk ii) :: rest)) := r_put hC hI inX7 rfl tyX7 tyX7_ok nmX7 0 (by decide) wd_fl_X7_60 rfl rfl (ty := .int) (by decide +kernel) he rfl rfl hlen hdg kont
theorem gf_X7_76 (hC : Cx p s m args meth c RX7 cc nL ret g B0) (hI : WI g ad B0 f s H locs) (he : f kk ii = some (.inr (7, fs))) {v : Value} (hv : fs[3]? = some v) (hdg : decode cc pc = .ok (.getfield 76, 3)) (kont : W p l e R s m args below meth c H locs cells slots Q (F0 m (pc + 3) ls (v :: rest))) : W p l e R s m args below meth c H locs cells slots Q (F0 m pc ls (.ref (ad kk ii) :: rest)) := r_get hC hI inX7 rfl 3 (by decide) wd_fl_X7_76 rfl he hv hdg kont
theorem pf_X7_76 (hC : Cx p s m args meth c RX7 cc nL ret g B0) (hI : WI g ad B0 f s H locs) (he : f kk ii = some (.inr (7, fs))) {v : Int32} (hlen : 3 < fs.length) (hdg : decode cc pc = .ok (.putfield 76, 3)) (kont : ∀ (H1 : Heap) (locs1 : List Loc), WI g ad B0 (up2 f kk ii (.inr (7, fs.set 3 (.int v)))) s H1 locs1 → W p l e R s m args below meth c H1 locs1 cells slots Q (F0 m (pc + 3) ls rest)) : W p l e R s m args below meth c H locs cells slots Q (F0 m pc ls ((.int v) :: .ref (ad kk ii) :: rest)) := r_put hC hI inX7 rfl tyX7 tyX7_ok nmX7 3 (by decide) wd_fl_X7_76 rfl rfl (ty := .int) (by decide +kernel) he rfl rfl hlen hdg kont
theorem gf_X7_88 (hC : Cx p s m args meth c RX7 cc nL ret g B0) (hI : WI g ad B0 f s H locs) (he : f kk ii = some (.inr (7, fs))) {v : Value} (hv : fs[1]? = some v) (hdg : decode cc pc = .ok (.getfield 88, 3)) (kont : W p l e R s m args below meth c H locs cells slots Q (F0 m (pc + 3) ls (v :: rest))) : W p l e R s m args below meth c H locs cells slots Q (F0 m pc ls (.ref (ad kk ii) :: rest)) := r_get hC hI inX7 rfl 1 (by decide) wd_fl_X7_88 rfl he hv hdg kont
theorem pf_X7_88 (hC : Cx p s m args meth c RX7 cc nL ret g B0) (hI : WI g ad B0 f s H locs) (he : f kk ii = some (.inr (7, fs))) {v : Int32} (hlen : 1 < fs.length) (hdg : decode cc pc = .ok (.putfield 88, 3)) (kont : ∀ (H1 : Heap) (locs1 : List Loc), WI g ad B0 (up2 f kk ii (.inr (7, fs.set 1 (.int v)))) s H1 locs1 → W p l e R s m args below meth c H1 locs1 cells slots Q (F0 m (pc + 3) ls rest)) : W p l e R s m args below meth c H locs cells slots Q (F0 m pc ls ((.int v) :: .ref (ad kk ii) :: rest)) := r_put hC hI inX7 rfl tyX7 tyX7_ok nmX7 1 (by decide) wd_fl_X7_88 rfl rfl (ty := .int) (by decide +kernel) he rfl rfl hlen hdg kont
theorem gf_X6_78 (hC : Cx p s m args meth c RX6 cc nL ret g B0) (hI : WI g ad B0 f s H locs) (he : f kk ii = some (.inr (5, fs))) {v : Value} (hv : fs[1]? = some v) (hdg : decode cc pc = .ok (.getfield 78, 3)) (kont : W p l e R s m args below meth c H locs cells slots Q (F0 m (pc + 3) ls (v :: rest))) : W p l e R s m args below meth c H locs cells slots Q (F0 m pc ls (.ref (ad kk ii) :: rest)) := r_get hC hI inX5 rfl 1 (by decide) wd_fl_X6_78 rfl he hv hdg kont
theorem pf_X6_78 (hC : Cx p s m args meth c RX6 cc nL ret g B0) (hI : WI g ad B0 f s H locs) (he : f kk ii = some (.inr (5, fs))) {v : Int32} (hlen : 1 < fs.length) (hdg : decode cc pc = .ok (.putfield 78, 3)) (kont : ∀ (H1 : Heap) (locs1 : List Loc), WI g ad B0 (up2 f kk ii (.inr (5, fs.set 1 (.int v)))) s H1 locs1 → W p l e R s m args below meth c H1 locs1 cells slots Q (F0 m (pc + 3) ls rest)) : W p l e R s m args below meth c H locs cells slots Q (F0 m pc ls ((.int v) :: .ref (ad kk ii) :: rest)) := r_put hC hI inX5 rfl tyX5 tyX5_ok nmX5 1 (by decide) wd_fl_X6_78 rfl rfl (ty := .int) (by decide +kernel) he rfl rfl hlen hdg kont
theorem gf_X3_7 (hC : Cx p s m args meth c RX3 cc nL ret g B0) (hI : WI g ad B0 f s H locs) (he : f kk ii = some (.inr (3, fs))) {v : Value} (hv : fs[0]? = some v) (hdg : decode cc pc = .ok (.getfield 7, 3)) (kont : W p l e R s m args below meth c H locs cells slots Q (F0 m (pc + 3) ls (v :: rest))) : W p l e R s m args below meth c H locs cells slots Q (F0 m pc ls (.ref (ad kk ii) :: rest)) := r_get hC hI inX3 rfl 0 (by decide) wd_fl_X3_7 rfl he hv hdg kont
theorem pf_X3_7 (hC : Cx p s m args meth c RX3 cc nL ret g B0) (hin : meth.name = "<init>") (hI : WI g ad B0 f s H locs) (he : f kk ii = some (.inr (3, fs))) {v : Int32} (hlen : 0 < fs.length) (hdg : decode cc pc = .ok (.putfield 7, 3)) (kont : ∀ (H1 : Heap) (locs1 : List Loc), WI g ad B0 (up2 f kk ii (.inr (3, fs.set 0 (.int v)))) s H1 locs1 → W p l e R s m args below meth c H1 locs1 cells slots Q (F0 m (pc + 3) ls rest)) : W p l e R s m args below meth c H locs cells slots Q (F0 m pc ls ((.int v) :: .ref (ad kk ii) :: rest)) := r_putF hC hin hI inX3 rfl tyX3 tyX3_ok nmX3 0 (by decide) wd_fl_X3_7 rfl rfl rfl (ty := .int) (by decide +kernel) he rfl rfl hlen hdg kont
theorem gf_X3_13 (hC : Cx p s m args meth c RX3 cc nL ret g B0) (hI : WI g ad B0 f s H locs) (he : f kk ii = some (.inr (3, fs))) {v : Value} (hv : fs[1]? = some v) (hdg : decode cc pc = .ok (.getfield 13, 3)) (kont : W p l e R s m args below meth c H locs cells slots Q (F0 m (pc + 3) ls (v :: rest))) : W p l e R s m args below meth c H locs cells slots Q (F0 m pc ls (.ref (ad kk ii) :: rest)) := r_get hC hI inX3 rfl 1 (by decide) wd_fl_X3_13 rfl he hv hdg kont
theorem pf_X3_13 (hC : Cx p s m args meth c RX3 cc nL ret g B0) (hin : meth.name = "<init>") (hI : WI g ad B0 f s H locs) (he : f kk ii = some (.inr (3, fs))) {v : Int32} (hlen : 1 < fs.length) (hdg : decode cc pc = .ok (.putfield 13, 3)) (kont : ∀ (H1 : Heap) (locs1 : List Loc), WI g ad B0 (up2 f kk ii (.inr (3, fs.set 1 (.int v)))) s H1 locs1 → W p l e R s m args below meth c H1 locs1 cells slots Q (F0 m (pc + 3) ls rest)) : W p l e R s m args below meth c H locs cells slots Q (F0 m pc ls ((.int v) :: .ref (ad kk ii) :: rest)) := r_putF hC hin hI inX3 rfl tyX3 tyX3_ok nmX3 1 (by decide) wd_fl_X3_13 rfl rfl rfl (ty := .int) (by decide +kernel) he rfl rfl hlen hdg kont
theorem gf_X3_16 (hC : Cx p s m args meth c RX3 cc nL ret g B0) (hI : WI g ad B0 f s H locs) (he : f kk ii = some (.inr (3, fs))) {v : Value} (hv : fs[2]? = some v) (hdg : decode cc pc = .ok (.getfield 16, 3)) (kont : W p l e R s m args below meth c H locs cells slots Q (F0 m (pc + 3) ls (v :: rest))) : W p l e R s m args below meth c H locs cells slots Q (F0 m pc ls (.ref (ad kk ii) :: rest)) := r_get hC hI inX3 rfl 2 (by decide) wd_fl_X3_16 rfl he hv hdg kont
theorem pf_X3_16 (hC : Cx p s m args meth c RX3 cc nL ret g B0) (hin : meth.name = "<init>") (hI : WI g ad B0 f s H locs) (he : f kk ii = some (.inr (3, fs))) {v : Int32} (hlen : 2 < fs.length) (hdg : decode cc pc = .ok (.putfield 16, 3)) (kont : ∀ (H1 : Heap) (locs1 : List Loc), WI g ad B0 (up2 f kk ii (.inr (3, fs.set 2 (.int v)))) s H1 locs1 → W p l e R s m args below meth c H1 locs1 cells slots Q (F0 m (pc + 3) ls rest)) : W p l e R s m args below meth c H locs cells slots Q (F0 m pc ls ((.int v) :: .ref (ad kk ii) :: rest)) := r_putF hC hin hI inX3 rfl tyX3 tyX3_ok nmX3 2 (by decide) wd_fl_X3_16 rfl rfl rfl (ty := .int) (by decide +kernel) he rfl rfl hlen hdg kont
theorem gf_X3_19 (hC : Cx p s m args meth c RX3 cc nL ret g B0) (hI : WI g ad B0 f s H locs) (he : f kk ii = some (.inr (3, fs))) {v : Value} (hv : fs[3]? = some v) (hdg : decode cc pc = .ok (.getfield 19, 3)) (kont : W p l e R s m args below meth c H locs cells slots Q (F0 m (pc + 3) ls (v :: rest))) : W p l e R s m args below meth c H locs cells slots Q (F0 m pc ls (.ref (ad kk ii) :: rest)) := r_get hC hI inX3 rfl 3 (by decide) wd_fl_X3_19 rfl he hv hdg kont
theorem pf_X3_19 (hC : Cx p s m args meth c RX3 cc nL ret g B0) (hin : meth.name = "<init>") (hI : WI g ad B0 f s H locs) (he : f kk ii = some (.inr (3, fs))) {v : Int32} (hlen : 3 < fs.length) (hdg : decode cc pc = .ok (.putfield 19, 3)) (kont : ∀ (H1 : Heap) (locs1 : List Loc), WI g ad B0 (up2 f kk ii (.inr (3, fs.set 3 (.int v)))) s H1 locs1 → W p l e R s m args below meth c H1 locs1 cells slots Q (F0 m (pc + 3) ls rest)) : W p l e R s m args below meth c H locs cells slots Q (F0 m pc ls ((.int v) :: .ref (ad kk ii) :: rest)) := r_putF hC hin hI inX3 rfl tyX3 tyX3_ok nmX3 3 (by decide) wd_fl_X3_19 rfl rfl rfl (ty := .int) (by decide +kernel) he rfl rfl hlen hdg kont
theorem gf_X3_22 (hC : Cx p s m args meth c RX3 cc nL ret g B0) (hI : WI g ad B0 f s H locs) (he : f kk ii = some (.inr (3, fs))) {v : Value} (hv : fs[4]? = some v) (hdg : decode cc pc = .ok (.getfield 22, 3)) (kont : W p l e R s m args below meth c H locs cells slots Q (F0 m (pc + 3) ls (v :: rest))) : W p l e R s m args below meth c H locs cells slots Q (F0 m pc ls (.ref (ad kk ii) :: rest)) := r_get hC hI inX3 rfl 4 (by decide) wd_fl_X3_22 rfl he hv hdg kont
theorem pf_X3_22 (hC : Cx p s m args meth c RX3 cc nL ret g B0) (hin : meth.name = "<init>") (hI : WI g ad B0 f s H locs) (he : f kk ii = some (.inr (3, fs))) {v : Int32} (hlen : 4 < fs.length) (hdg : decode cc pc = .ok (.putfield 22, 3)) (kont : ∀ (H1 : Heap) (locs1 : List Loc), WI g ad B0 (up2 f kk ii (.inr (3, fs.set 4 (.int v)))) s H1 locs1 → W p l e R s m args below meth c H1 locs1 cells slots Q (F0 m (pc + 3) ls rest)) : W p l e R s m args below meth c H locs cells slots Q (F0 m pc ls ((.int v) :: .ref (ad kk ii) :: rest)) := r_putF hC hin hI inX3 rfl tyX3 tyX3_ok nmX3 4 (by decide) wd_fl_X3_22 rfl rfl rfl (ty := .int) (by decide +kernel) he rfl rfl hlen hdg kont
theorem gf_X7_63 (hC : Cx p s m args meth c RX7 cc nL ret g B0) (hI : WI g ad B0 f s H locs) (he : f kk ii = some (.inr (7, fs))) {v : Value} (hv : fs[6]? = some v) (hdg : decode cc pc = .ok (.getfield 63, 3)) (kont : W p l e R s m args below meth c H locs cells slots Q (F0 m (pc + 3) ls (v :: rest))) : W p l e R s m args below meth c H locs cells slots Q (F0 m pc ls (.ref (ad kk ii) :: rest)) := r_get hC hI inX7 rfl 6 (by decide) wd_fl_X7_63 rfl he hv hdg kont
theorem pf_X7_63 (hC : Cx p s m args meth c RX7 cc nL ret g B0) (hI : WI g ad B0 f s H locs) (he : f kk ii = some (.inr (7, fs))) {v : Int32} (hlen : 6 < fs.length) (hdg : decode cc pc = .ok (.putfield 63, 3)) (kont : ∀ (H1 : Heap) (locs1 : List Loc), WI g ad B0 (up2 f kk ii (.inr (7, fs.set 6 (.int v)))) s H1 locs1 → W p l e R s m args below meth c H1 locs1 cells slots Q (F0 m (pc + 3) ls rest)) : W p l e R s m args below meth c H locs cells slots Q (F0 m pc ls ((.int v) :: .ref (ad kk ii) :: rest)) := r_put hC hI inX7 rfl tyX7 tyX7_ok nmX7 6 (by decide) wd_fl_X7_63 rfl rfl (ty := .int) (by decide +kernel) he rfl rfl hlen hdg kont
theorem gf_X4_7 (hC : Cx p s m args meth c RX4 cc nL ret g B0) (hI : WI g ad B0 f s H locs) (he : f kk ii = some (.inr (4, fs))) {v : Value} (hv : fs[5]? = some v) (hdg : decode cc pc = .ok (.getfield 7, 3)) (kont : W p l e R s m args below meth c H locs cells slots Q (F0 m (pc + 3) ls (v :: rest))) : W p l e R s m args below meth c H locs cells slots Q (F0 m pc ls (.ref (ad kk ii) :: rest)) := r_get hC hI inX4 rfl 5 (by decide) wd_fl_X4_7 rfl he hv hdg kont
theorem pf_X4_7 (hC : Cx p s m args meth c RX4 cc nL ret g B0) (hI : WI g ad B0 f s H locs) (he : f kk ii = some (.inr (4, fs))) {v : Int32} (hn : narrow .boolean (.int v) = .int v) (hf2 : fits .boolean (.int v) = true) (hlen : 5 < fs.length) (hdg : decode cc pc = .ok (.putfield 7, 3)) (kont : ∀ (H1 : Heap) (locs1 : List Loc), WI g ad B0 (up2 f kk ii (.inr (4, fs.set 5 (.int v)))) s H1 locs1 → W p l e R s m args below meth c H1 locs1 cells slots Q (F0 m (pc + 3) ls rest)) : W p l e R s m args below meth c H locs cells slots Q (F0 m pc ls ((.int v) :: .ref (ad kk ii) :: rest)) := r_put hC hI inX4 rfl tyX4 tyX4_ok nmX4 5 (by decide) wd_fl_X4_7 rfl rfl (ty := .boolean) (by decide +kernel) he hn hf2 hlen hdg kont
theorem gf_X4_13 (hC : Cx p s m args meth c RX4 cc nL ret g B0) (hI : WI g ad B0 f s H locs) (he : f kk ii = some (.inr (4, fs))) {v : Value} (hv : fs[6]? = some v) (hdg : decode cc pc = .ok (.getfield 13, 3)) (kont : W p l e R s m args below meth c H locs cells slots Q (F0 m (pc + 3) ls (v :: rest))) : W p l e R s m args below meth c H locs cells slots Q (F0 m pc ls (.ref (ad kk ii) :: rest)) := r_get hC hI inX4 rfl 6 (by decide) wd_fl_X4_13 rfl he hv hdg kont
theorem pf_X4_13 (hC : Cx p s m args meth c RX4 cc nL ret g B0) (hI : WI g ad B0 f s H locs) (he : f kk ii = some (.inr (4, fs))) {v : Int32} (hlen : 6 < fs.length) (hdg : decode cc pc = .ok (.putfield 13, 3)) (kont : ∀ (H1 : Heap) (locs1 : List Loc), WI g ad B0 (up2 f kk ii (.inr (4, fs.set 6 (.int v)))) s H1 locs1 → W p l e R s m args below meth c H1 locs1 cells slots Q (F0 m (pc + 3) ls rest)) : W p l e R s m args below meth c H locs cells slots Q (F0 m pc ls ((.int v) :: .ref (ad kk ii) :: rest)) := r_put hC hI inX4 rfl tyX4 tyX4_ok nmX4 6 (by decide) wd_fl_X4_13 rfl rfl (ty := .int) (by decide +kernel) he rfl rfl hlen hdg kont
theorem gf_X4_17 (hC : Cx p s m args meth c RX4 cc nL ret g B0) (hI : WI g ad B0 f s H locs) (he : f kk ii = some (.inr (4, fs))) {v : Value} (hv : fs[7]? = some v) (hdg : decode cc pc = .ok (.getfield 17, 3)) (kont : W p l e R s m args below meth c H locs cells slots Q (F0 m (pc + 3) ls (v :: rest))) : W p l e R s m args below meth c H locs cells slots Q (F0 m pc ls (.ref (ad kk ii) :: rest)) := r_get hC hI inX4 rfl 7 (by decide) wd_fl_X4_17 rfl he hv hdg kont
theorem pf_X4_17 (hC : Cx p s m args meth c RX4 cc nL ret g B0) (hI : WI g ad B0 f s H locs) (he : f kk ii = some (.inr (4, fs))) {v : Int32} (hlen : 7 < fs.length) (hdg : decode cc pc = .ok (.putfield 17, 3)) (kont : ∀ (H1 : Heap) (locs1 : List Loc), WI g ad B0 (up2 f kk ii (.inr (4, fs.set 7 (.int v)))) s H1 locs1 → W p l e R s m args below meth c H1 locs1 cells slots Q (F0 m (pc + 3) ls rest)) : W p l e R s m args below meth c H locs cells slots Q (F0 m pc ls ((.int v) :: .ref (ad kk ii) :: rest)) := r_put hC hI inX4 rfl tyX4 tyX4_ok nmX4 7 (by decide) wd_fl_X4_17 rfl rfl (ty := .int) (by decide +kernel) he rfl rfl hlen hdg kont
theorem gf_X4_20 (hC : Cx p s m args meth c RX4 cc nL ret g B0) (hI : WI g ad B0 f s H locs) (he : f kk ii = some (.inr (4, fs))) {v : Value} (hv : fs[9]? = some v) (hdg : decode cc pc = .ok (.getfield 20, 3)) (kont : W p l e R s m args below meth c H locs cells slots Q (F0 m (pc + 3) ls (v :: rest))) : W p l e R s m args below meth c H locs cells slots Q (F0 m pc ls (.ref (ad kk ii) :: rest)) := r_get hC hI inX4 rfl 9 (by decide) wd_fl_X4_20 rfl he hv hdg kont
theorem pf_X4_20 (hC : Cx p s m args meth c RX4 cc nL ret g B0) (hI : WI g ad B0 f s H locs) (he : f kk ii = some (.inr (4, fs))) {v : Int32} (hlen : 9 < fs.length) (hdg : decode cc pc = .ok (.putfield 20, 3)) (kont : ∀ (H1 : Heap) (locs1 : List Loc), WI g ad B0 (up2 f kk ii (.inr (4, fs.set 9 (.int v)))) s H1 locs1 → W p l e R s m args below meth c H1 locs1 cells slots Q (F0 m (pc + 3) ls rest)) : W p l e R s m args below meth c H locs cells slots Q (F0 m pc ls ((.int v) :: .ref (ad kk ii) :: rest)) := r_put hC hI inX4 rfl tyX4 tyX4_ok nmX4 9 (by decide) wd_fl_X4_20 rfl rfl (ty := .int) (by decide +kernel) he rfl rfl hlen hdg kont
theorem gf_X4_23 (hC : Cx p s m args meth c RX4 cc nL ret g B0) (hI : WI g ad B0 f s H locs) (he : f kk ii = some (.inr (4, fs))) {v : Value} (hv : fs[10]? = some v) (hdg : decode cc pc = .ok (.getfield 23, 3)) (kont : W p l e R s m args below meth c H locs cells slots Q (F0 m (pc + 3) ls (v :: rest))) : W p l e R s m args below meth c H locs cells slots Q (F0 m pc ls (.ref (ad kk ii) :: rest)) := r_get hC hI inX4 rfl 10 (by decide) wd_fl_X4_23 rfl he hv hdg kont
theorem pf_X4_23 (hC : Cx p s m args meth c RX4 cc nL ret g B0) (hI : WI g ad B0 f s H locs) (he : f kk ii = some (.inr (4, fs))) {v : Int32} (hlen : 10 < fs.length) (hdg : decode cc pc = .ok (.putfield 23, 3)) (kont : ∀ (H1 : Heap) (locs1 : List Loc), WI g ad B0 (up2 f kk ii (.inr (4, fs.set 10 (.int v)))) s H1 locs1 → W p l e R s m args below meth c H1 locs1 cells slots Q (F0 m (pc + 3) ls rest)) : W p l e R s m args below meth c H locs cells slots Q (F0 m pc ls ((.int v) :: .ref (ad kk ii) :: rest)) := r_put hC hI inX4 rfl tyX4 tyX4_ok nmX4 10 (by decide) wd_fl_X4_23 rfl rfl (ty := .int) (by decide +kernel) he rfl rfl hlen hdg kont
theorem gf_X4_26 (hC : Cx p s m args meth c RX4 cc nL ret g B0) (hI : WI g ad B0 f s H locs) (he : f kk ii = some (.inr (4, fs))) {v : Value} (hv : fs[0]? = some v) (hdg : decode cc pc = .ok (.getfield 26, 3)) (kont : W p l e R s m args below meth c H locs cells slots Q (F0 m (pc + 3) ls (v :: rest))) : W p l e R s m args below meth c H locs cells slots Q (F0 m pc ls (.ref (ad kk ii) :: rest)) := r_get hC hI inX4 rfl 0 (by decide) wd_fl_X4_26 rfl he hv hdg kont
theorem pf_X4_26 (hC : Cx p s m args meth c RX4 cc nL ret g B0) (hin : meth.name = "<init>") (hI : WI g ad B0 f s H locs) (he : f kk ii = some (.inr (4, fs))) {v : Int32} (hlen : 0 < fs.length) (hdg : decode cc pc = .ok (.putfield 26, 3)) (kont : ∀ (H1 : Heap) (locs1 : List Loc), WI g ad B0 (up2 f kk ii (.inr (4, fs.set 0 (.int v)))) s H1 locs1 → W p l e R s m args below meth c H1 locs1 cells slots Q (F0 m (pc + 3) ls rest)) : W p l e R s m args below meth c H locs cells slots Q (F0 m pc ls ((.int v) :: .ref (ad kk ii) :: rest)) := r_putF hC hin hI inX4 rfl tyX4 tyX4_ok nmX4 0 (by decide) wd_fl_X4_26 rfl rfl rfl (ty := .int) (by decide +kernel) he rfl rfl hlen hdg kont
theorem gf_X4_31 (hC : Cx p s m args meth c RX4 cc nL ret g B0) (hI : WI g ad B0 f s H locs) (he : f kk ii = some (.inr (4, fs))) {v : Value} (hv : fs[3]? = some v) (hdg : decode cc pc = .ok (.getfield 31, 3)) (kont : W p l e R s m args below meth c H locs cells slots Q (F0 m (pc + 3) ls (v :: rest))) : W p l e R s m args below meth c H locs cells slots Q (F0 m pc ls (.ref (ad kk ii) :: rest)) := r_get hC hI inX4 rfl 3 (by decide) wd_fl_X4_31 rfl he hv hdg kont
theorem pf_X4_31 (hC : Cx p s m args meth c RX4 cc nL ret g B0) (hin : meth.name = "<init>") (hI : WI g ad B0 f s H locs) (he : f kk ii = some (.inr (4, fs))) {v : Nat} (hlen : 3 < fs.length) (hdg : decode cc pc = .ok (.putfield 31, 3)) (kont : ∀ (H1 : Heap) (locs1 : List Loc), WI g ad B0 (up2 f kk ii (.inr (4, fs.set 3 (.ref v)))) s H1 locs1 → W p l e R s m args below meth c H1 locs1 cells slots Q (F0 m (pc + 3) ls rest)) : W p l e R s m args below meth c H locs cells slots Q (F0 m pc ls ((.ref v) :: .ref (ad kk ii) :: rest)) := r_putF hC hin hI inX4 rfl tyX4 tyX4_ok nmX4 3 (by decide) wd_fl_X4_31 rfl rfl rfl (ty := (.array (.object "ColdStore$Pallet"))) (by decide +kernel) he rfl rfl hlen hdg kont
theorem pf_X4_31N (hC : Cx p s m args meth c RX4 cc nL ret g B0) (hin : meth.name = "<init>") (hI : WI g ad B0 f s H locs) (he : f kk ii = some (.inr (4, fs)))  (hlen : 3 < fs.length) (hdg : decode cc pc = .ok (.putfield 31, 3)) (kont : ∀ (H1 : Heap) (locs1 : List Loc), WI g ad B0 (up2 f kk ii (.inr (4, fs.set 3 .null))) s H1 locs1 → W p l e R s m args below meth c H1 locs1 cells slots Q (F0 m (pc + 3) ls rest)) : W p l e R s m args below meth c H locs cells slots Q (F0 m pc ls (.null :: .ref (ad kk ii) :: rest)) := r_putF hC hin hI inX4 rfl tyX4 tyX4_ok nmX4 3 (by decide) wd_fl_X4_31 rfl rfl rfl (ty := (.array (.object "ColdStore$Pallet"))) (by decide +kernel) he rfl rfl hlen hdg kont
theorem gf_X4_35 (hC : Cx p s m args meth c RX4 cc nL ret g B0) (hI : WI g ad B0 f s H locs) (he : f kk ii = some (.inr (4, fs))) {v : Value} (hv : fs[1]? = some v) (hdg : decode cc pc = .ok (.getfield 35, 3)) (kont : W p l e R s m args below meth c H locs cells slots Q (F0 m (pc + 3) ls (v :: rest))) : W p l e R s m args below meth c H locs cells slots Q (F0 m pc ls (.ref (ad kk ii) :: rest)) := r_get hC hI inX4 rfl 1 (by decide) wd_fl_X4_35 rfl he hv hdg kont
theorem pf_X4_35 (hC : Cx p s m args meth c RX4 cc nL ret g B0) (hin : meth.name = "<init>") (hI : WI g ad B0 f s H locs) (he : f kk ii = some (.inr (4, fs))) {v : Int32} (hlen : 1 < fs.length) (hdg : decode cc pc = .ok (.putfield 35, 3)) (kont : ∀ (H1 : Heap) (locs1 : List Loc), WI g ad B0 (up2 f kk ii (.inr (4, fs.set 1 (.int v)))) s H1 locs1 → W p l e R s m args below meth c H1 locs1 cells slots Q (F0 m (pc + 3) ls rest)) : W p l e R s m args below meth c H locs cells slots Q (F0 m pc ls ((.int v) :: .ref (ad kk ii) :: rest)) := r_putF hC hin hI inX4 rfl tyX4 tyX4_ok nmX4 1 (by decide) wd_fl_X4_35 rfl rfl rfl (ty := .int) (by decide +kernel) he rfl rfl hlen hdg kont
theorem gf_X4_43 (hC : Cx p s m args meth c RX4 cc nL ret g B0) (hI : WI g ad B0 f s H locs) (he : f kk ii = some (.inr (4, fs))) {v : Value} (hv : fs[2]? = some v) (hdg : decode cc pc = .ok (.getfield 43, 3)) (kont : W p l e R s m args below meth c H locs cells slots Q (F0 m (pc + 3) ls (v :: rest))) : W p l e R s m args below meth c H locs cells slots Q (F0 m pc ls (.ref (ad kk ii) :: rest)) := r_get hC hI inX4 rfl 2 (by decide) wd_fl_X4_43 rfl he hv hdg kont
theorem pf_X4_43 (hC : Cx p s m args meth c RX4 cc nL ret g B0) (hin : meth.name = "<init>") (hI : WI g ad B0 f s H locs) (he : f kk ii = some (.inr (4, fs))) {v : Nat} (hlen : 2 < fs.length) (hdg : decode cc pc = .ok (.putfield 43, 3)) (kont : ∀ (H1 : Heap) (locs1 : List Loc), WI g ad B0 (up2 f kk ii (.inr (4, fs.set 2 (.ref v)))) s H1 locs1 → W p l e R s m args below meth c H1 locs1 cells slots Q (F0 m (pc + 3) ls rest)) : W p l e R s m args below meth c H locs cells slots Q (F0 m pc ls ((.ref v) :: .ref (ad kk ii) :: rest)) := r_putF hC hin hI inX4 rfl tyX4 tyX4_ok nmX4 2 (by decide) wd_fl_X4_43 rfl rfl rfl (ty := (.object "ColdStore$Machine")) (by decide +kernel) he rfl rfl hlen hdg kont
theorem pf_X4_43N (hC : Cx p s m args meth c RX4 cc nL ret g B0) (hin : meth.name = "<init>") (hI : WI g ad B0 f s H locs) (he : f kk ii = some (.inr (4, fs)))  (hlen : 2 < fs.length) (hdg : decode cc pc = .ok (.putfield 43, 3)) (kont : ∀ (H1 : Heap) (locs1 : List Loc), WI g ad B0 (up2 f kk ii (.inr (4, fs.set 2 .null))) s H1 locs1 → W p l e R s m args below meth c H1 locs1 cells slots Q (F0 m (pc + 3) ls rest)) : W p l e R s m args below meth c H locs cells slots Q (F0 m pc ls (.null :: .ref (ad kk ii) :: rest)) := r_putF hC hin hI inX4 rfl tyX4 tyX4_ok nmX4 2 (by decide) wd_fl_X4_43 rfl rfl rfl (ty := (.object "ColdStore$Machine")) (by decide +kernel) he rfl rfl hlen hdg kont
theorem gf_X4_47 (hC : Cx p s m args meth c RX4 cc nL ret g B0) (hI : WI g ad B0 f s H locs) (he : f kk ii = some (.inr (4, fs))) {v : Value} (hv : fs[8]? = some v) (hdg : decode cc pc = .ok (.getfield 47, 3)) (kont : W p l e R s m args below meth c H locs cells slots Q (F0 m (pc + 3) ls (v :: rest))) : W p l e R s m args below meth c H locs cells slots Q (F0 m pc ls (.ref (ad kk ii) :: rest)) := r_get hC hI inX4 rfl 8 (by decide) wd_fl_X4_47 rfl he hv hdg kont
theorem pf_X4_47 (hC : Cx p s m args meth c RX4 cc nL ret g B0) (hin : meth.name = "<init>") (hI : WI g ad B0 f s H locs) (he : f kk ii = some (.inr (4, fs))) {v : Nat} (hlen : 8 < fs.length) (hdg : decode cc pc = .ok (.putfield 47, 3)) (kont : ∀ (H1 : Heap) (locs1 : List Loc), WI g ad B0 (up2 f kk ii (.inr (4, fs.set 8 (.ref v)))) s H1 locs1 → W p l e R s m args below meth c H1 locs1 cells slots Q (F0 m (pc + 3) ls rest)) : W p l e R s m args below meth c H locs cells slots Q (F0 m pc ls ((.ref v) :: .ref (ad kk ii) :: rest)) := r_putF hC hin hI inX4 rfl tyX4 tyX4_ok nmX4 8 (by decide) wd_fl_X4_47 rfl rfl rfl (ty := (.object "ColdStore$Machine")) (by decide +kernel) he rfl rfl hlen hdg kont
theorem pf_X4_47N (hC : Cx p s m args meth c RX4 cc nL ret g B0) (hin : meth.name = "<init>") (hI : WI g ad B0 f s H locs) (he : f kk ii = some (.inr (4, fs)))  (hlen : 8 < fs.length) (hdg : decode cc pc = .ok (.putfield 47, 3)) (kont : ∀ (H1 : Heap) (locs1 : List Loc), WI g ad B0 (up2 f kk ii (.inr (4, fs.set 8 .null))) s H1 locs1 → W p l e R s m args below meth c H1 locs1 cells slots Q (F0 m (pc + 3) ls rest)) : W p l e R s m args below meth c H locs cells slots Q (F0 m pc ls (.null :: .ref (ad kk ii) :: rest)) := r_putF hC hin hI inX4 rfl tyX4 tyX4_ok nmX4 8 (by decide) wd_fl_X4_47 rfl rfl rfl (ty := (.object "ColdStore$Machine")) (by decide +kernel) he rfl rfl hlen hdg kont
theorem gf_X4_50 (hC : Cx p s m args meth c RX4 cc nL ret g B0) (hI : WI g ad B0 f s H locs) (he : f kk ii = some (.inr (4, fs))) {v : Value} (hv : fs[4]? = some v) (hdg : decode cc pc = .ok (.getfield 50, 3)) (kont : W p l e R s m args below meth c H locs cells slots Q (F0 m (pc + 3) ls (v :: rest))) : W p l e R s m args below meth c H locs cells slots Q (F0 m pc ls (.ref (ad kk ii) :: rest)) := r_get hC hI inX4 rfl 4 (by decide) wd_fl_X4_50 rfl he hv hdg kont
theorem pf_X4_50 (hC : Cx p s m args meth c RX4 cc nL ret g B0) (hI : WI g ad B0 f s H locs) (he : f kk ii = some (.inr (4, fs))) {v : Int32} (hlen : 4 < fs.length) (hdg : decode cc pc = .ok (.putfield 50, 3)) (kont : ∀ (H1 : Heap) (locs1 : List Loc), WI g ad B0 (up2 f kk ii (.inr (4, fs.set 4 (.int v)))) s H1 locs1 → W p l e R s m args below meth c H1 locs1 cells slots Q (F0 m (pc + 3) ls rest)) : W p l e R s m args below meth c H locs cells slots Q (F0 m pc ls ((.int v) :: .ref (ad kk ii) :: rest)) := r_put hC hI inX4 rfl tyX4 tyX4_ok nmX4 4 (by decide) wd_fl_X4_50 rfl rfl (ty := .int) (by decide +kernel) he rfl rfl hlen hdg kont
theorem gf_X1_9 (hC : Cx p s m args meth c RX1 cc nL ret g B0) (hI : WI g ad B0 f s H locs) (he : f kk ii = some (.inr (1, fs))) {v : Value} (hv : fs[1]? = some v) (hdg : decode cc pc = .ok (.getfield 9, 3)) (kont : W p l e R s m args below meth c H locs cells slots Q (F0 m (pc + 3) ls (v :: rest))) : W p l e R s m args below meth c H locs cells slots Q (F0 m pc ls (.ref (ad kk ii) :: rest)) := r_get hC hI inX1 rfl 1 (by decide) wd_fl_X1_9 rfl he hv hdg kont
theorem pf_X1_9 (hC : Cx p s m args meth c RX1 cc nL ret g B0) (hI : WI g ad B0 f s H locs) (he : f kk ii = some (.inr (1, fs))) {v : Int32} (hlen : 1 < fs.length) (hdg : decode cc pc = .ok (.putfield 9, 3)) (kont : ∀ (H1 : Heap) (locs1 : List Loc), WI g ad B0 (up2 f kk ii (.inr (1, fs.set 1 (.int v)))) s H1 locs1 → W p l e R s m args below meth c H1 locs1 cells slots Q (F0 m (pc + 3) ls rest)) : W p l e R s m args below meth c H locs cells slots Q (F0 m pc ls ((.int v) :: .ref (ad kk ii) :: rest)) := r_put hC hI inX1 rfl tyX1 tyX1_ok nmX1 1 (by decide) wd_fl_X1_9 rfl rfl (ty := .int) (by decide +kernel) he rfl rfl hlen hdg kont
theorem gf_X1_13 (hC : Cx p s m args meth c RX1 cc nL ret g B0) (hI : WI g ad B0 f s H locs) (he : f kk ii = some (.inr (1, fs))) {v : Value} (hv : fs[2]? = some v) (hdg : decode cc pc = .ok (.getfield 13, 3)) (kont : W p l e R s m args below meth c H locs cells slots Q (F0 m (pc + 3) ls (v :: rest))) : W p l e R s m args below meth c H locs cells slots Q (F0 m pc ls (.ref (ad kk ii) :: rest)) := r_get hC hI inX1 rfl 2 (by decide) wd_fl_X1_13 rfl he hv hdg kont
theorem pf_X1_13 (hC : Cx p s m args meth c RX1 cc nL ret g B0) (hI : WI g ad B0 f s H locs) (he : f kk ii = some (.inr (1, fs))) {v : Int32} (hlen : 2 < fs.length) (hdg : decode cc pc = .ok (.putfield 13, 3)) (kont : ∀ (H1 : Heap) (locs1 : List Loc), WI g ad B0 (up2 f kk ii (.inr (1, fs.set 2 (.int v)))) s H1 locs1 → W p l e R s m args below meth c H1 locs1 cells slots Q (F0 m (pc + 3) ls rest)) : W p l e R s m args below meth c H locs cells slots Q (F0 m pc ls ((.int v) :: .ref (ad kk ii) :: rest)) := r_put hC hI inX1 rfl tyX1 tyX1_ok nmX1 2 (by decide) wd_fl_X1_13 rfl rfl (ty := .int) (by decide +kernel) he rfl rfl hlen hdg kont
theorem gf_X1_16 (hC : Cx p s m args meth c RX1 cc nL ret g B0) (hI : WI g ad B0 f s H locs) (he : f kk ii = some (.inr (1, fs))) {v : Value} (hv : fs[3]? = some v) (hdg : decode cc pc = .ok (.getfield 16, 3)) (kont : W p l e R s m args below meth c H locs cells slots Q (F0 m (pc + 3) ls (v :: rest))) : W p l e R s m args below meth c H locs cells slots Q (F0 m pc ls (.ref (ad kk ii) :: rest)) := r_get hC hI inX1 rfl 3 (by decide) wd_fl_X1_16 rfl he hv hdg kont
theorem pf_X1_16 (hC : Cx p s m args meth c RX1 cc nL ret g B0) (hI : WI g ad B0 f s H locs) (he : f kk ii = some (.inr (1, fs))) {v : Int32} (hlen : 3 < fs.length) (hdg : decode cc pc = .ok (.putfield 16, 3)) (kont : ∀ (H1 : Heap) (locs1 : List Loc), WI g ad B0 (up2 f kk ii (.inr (1, fs.set 3 (.int v)))) s H1 locs1 → W p l e R s m args below meth c H1 locs1 cells slots Q (F0 m (pc + 3) ls rest)) : W p l e R s m args below meth c H locs cells slots Q (F0 m pc ls ((.int v) :: .ref (ad kk ii) :: rest)) := r_put hC hI inX1 rfl tyX1 tyX1_ok nmX1 3 (by decide) wd_fl_X1_16 rfl rfl (ty := .int) (by decide +kernel) he rfl rfl hlen hdg kont
theorem gf_X1_19 (hC : Cx p s m args meth c RX1 cc nL ret g B0) (hI : WI g ad B0 f s H locs) (he : f kk ii = some (.inr (1, fs))) {v : Value} (hv : fs[4]? = some v) (hdg : decode cc pc = .ok (.getfield 19, 3)) (kont : W p l e R s m args below meth c H locs cells slots Q (F0 m (pc + 3) ls (v :: rest))) : W p l e R s m args below meth c H locs cells slots Q (F0 m pc ls (.ref (ad kk ii) :: rest)) := r_get hC hI inX1 rfl 4 (by decide) wd_fl_X1_19 rfl he hv hdg kont
theorem pf_X1_19 (hC : Cx p s m args meth c RX1 cc nL ret g B0) (hI : WI g ad B0 f s H locs) (he : f kk ii = some (.inr (1, fs))) {v : Int32} (hlen : 4 < fs.length) (hdg : decode cc pc = .ok (.putfield 19, 3)) (kont : ∀ (H1 : Heap) (locs1 : List Loc), WI g ad B0 (up2 f kk ii (.inr (1, fs.set 4 (.int v)))) s H1 locs1 → W p l e R s m args below meth c H1 locs1 cells slots Q (F0 m (pc + 3) ls rest)) : W p l e R s m args below meth c H locs cells slots Q (F0 m pc ls ((.int v) :: .ref (ad kk ii) :: rest)) := r_put hC hI inX1 rfl tyX1 tyX1_ok nmX1 4 (by decide) wd_fl_X1_19 rfl rfl (ty := .int) (by decide +kernel) he rfl rfl hlen hdg kont
theorem gf_X1_22 (hC : Cx p s m args meth c RX1 cc nL ret g B0) (hI : WI g ad B0 f s H locs) (he : f kk ii = some (.inr (1, fs))) {v : Value} (hv : fs[0]? = some v) (hdg : decode cc pc = .ok (.getfield 22, 3)) (kont : W p l e R s m args below meth c H locs cells slots Q (F0 m (pc + 3) ls (v :: rest))) : W p l e R s m args below meth c H locs cells slots Q (F0 m pc ls (.ref (ad kk ii) :: rest)) := r_get hC hI inX1 rfl 0 (by decide) wd_fl_X1_22 rfl he hv hdg kont
theorem pf_X1_22 (hC : Cx p s m args meth c RX1 cc nL ret g B0) (hin : meth.name = "<init>") (hI : WI g ad B0 f s H locs) (he : f kk ii = some (.inr (1, fs))) {v : Int32} (hlen : 0 < fs.length) (hdg : decode cc pc = .ok (.putfield 22, 3)) (kont : ∀ (H1 : Heap) (locs1 : List Loc), WI g ad B0 (up2 f kk ii (.inr (1, fs.set 0 (.int v)))) s H1 locs1 → W p l e R s m args below meth c H1 locs1 cells slots Q (F0 m (pc + 3) ls rest)) : W p l e R s m args below meth c H locs cells slots Q (F0 m pc ls ((.int v) :: .ref (ad kk ii) :: rest)) := r_putF hC hin hI inX1 rfl tyX1 tyX1_ok nmX1 0 (by decide) wd_fl_X1_22 rfl rfl rfl (ty := .int) (by decide +kernel) he rfl rfl hlen hdg kont
theorem gf_X7_70 (hC : Cx p s m args meth c RX7 cc nL ret g B0) (hI : WI g ad B0 f s H locs) (he : f kk ii = some (.inr (7, fs))) {v : Value} (hv : fs[11]? = some v) (hdg : decode cc pc = .ok (.getfield 70, 3)) (kont : W p l e R s m args below meth c H locs cells slots Q (F0 m (pc + 3) ls (v :: rest))) : W p l e R s m args below meth c H locs cells slots Q (F0 m pc ls (.ref (ad kk ii) :: rest)) := r_get hC hI inX7 rfl 11 (by decide) wd_fl_X7_70 rfl he hv hdg kont
theorem pf_X7_70 (hC : Cx p s m args meth c RX7 cc nL ret g B0) (hI : WI g ad B0 f s H locs) (he : f kk ii = some (.inr (7, fs))) {v : Int32} (hlen : 11 < fs.length) (hdg : decode cc pc = .ok (.putfield 70, 3)) (kont : ∀ (H1 : Heap) (locs1 : List Loc), WI g ad B0 (up2 f kk ii (.inr (7, fs.set 11 (.int v)))) s H1 locs1 → W p l e R s m args below meth c H1 locs1 cells slots Q (F0 m (pc + 3) ls rest)) : W p l e R s m args below meth c H locs cells slots Q (F0 m pc ls ((.int v) :: .ref (ad kk ii) :: rest)) := r_put hC hI inX7 rfl tyX7 tyX7_ok nmX7 11 (by decide) wd_fl_X7_70 rfl rfl (ty := .int) (by decide +kernel) he rfl rfl hlen hdg kont
theorem gf_X6_98 (hC : Cx p s m args meth c RX6 cc nL ret g B0) (hI : WI g ad B0 f s H locs) (he : f kk ii = some (.inr (4, fs))) {v : Value} (hv : fs[4]? = some v) (hdg : decode cc pc = .ok (.getfield 98, 3)) (kont : W p l e R s m args below meth c H locs cells slots Q (F0 m (pc + 3) ls (v :: rest))) : W p l e R s m args below meth c H locs cells slots Q (F0 m pc ls (.ref (ad kk ii) :: rest)) := r_get hC hI inX4 rfl 4 (by decide) wd_fl_X6_98 rfl he hv hdg kont
theorem pf_X6_98 (hC : Cx p s m args meth c RX6 cc nL ret g B0) (hI : WI g ad B0 f s H locs) (he : f kk ii = some (.inr (4, fs))) {v : Int32} (hlen : 4 < fs.length) (hdg : decode cc pc = .ok (.putfield 98, 3)) (kont : ∀ (H1 : Heap) (locs1 : List Loc), WI g ad B0 (up2 f kk ii (.inr (4, fs.set 4 (.int v)))) s H1 locs1 → W p l e R s m args below meth c H1 locs1 cells slots Q (F0 m (pc + 3) ls rest)) : W p l e R s m args below meth c H locs cells slots Q (F0 m pc ls ((.int v) :: .ref (ad kk ii) :: rest)) := r_put hC hI inX4 rfl tyX4 tyX4_ok nmX4 4 (by decide) wd_fl_X6_98 rfl rfl (ty := .int) (by decide +kernel) he rfl rfl hlen hdg kont
theorem gf_X6_101 (hC : Cx p s m args meth c RX6 cc nL ret g B0) (hI : WI g ad B0 f s H locs) (he : f kk ii = some (.inr (4, fs))) {v : Value} (hv : fs[5]? = some v) (hdg : decode cc pc = .ok (.getfield 101, 3)) (kont : W p l e R s m args below meth c H locs cells slots Q (F0 m (pc + 3) ls (v :: rest))) : W p l e R s m args below meth c H locs cells slots Q (F0 m pc ls (.ref (ad kk ii) :: rest)) := r_get hC hI inX4 rfl 5 (by decide) wd_fl_X6_101 rfl he hv hdg kont
theorem pf_X6_101 (hC : Cx p s m args meth c RX6 cc nL ret g B0) (hI : WI g ad B0 f s H locs) (he : f kk ii = some (.inr (4, fs))) {v : Int32} (hn : narrow .boolean (.int v) = .int v) (hf2 : fits .boolean (.int v) = true) (hlen : 5 < fs.length) (hdg : decode cc pc = .ok (.putfield 101, 3)) (kont : ∀ (H1 : Heap) (locs1 : List Loc), WI g ad B0 (up2 f kk ii (.inr (4, fs.set 5 (.int v)))) s H1 locs1 → W p l e R s m args below meth c H1 locs1 cells slots Q (F0 m (pc + 3) ls rest)) : W p l e R s m args below meth c H locs cells slots Q (F0 m pc ls ((.int v) :: .ref (ad kk ii) :: rest)) := r_put hC hI inX4 rfl tyX4 tyX4_ok nmX4 5 (by decide) wd_fl_X6_101 rfl rfl (ty := .boolean) (by decide +kernel) he hn hf2 hlen hdg kont
theorem gf_X6_105 (hC : Cx p s m args meth c RX6 cc nL ret g B0) (hI : WI g ad B0 f s H locs) (he : f kk ii = some (.inr (4, fs))) {v : Value} (hv : fs[2]? = some v) (hdg : decode cc pc = .ok (.getfield 105, 3)) (kont : W p l e R s m args below meth c H locs cells slots Q (F0 m (pc + 3) ls (v :: rest))) : W p l e R s m args below meth c H locs cells slots Q (F0 m pc ls (.ref (ad kk ii) :: rest)) := r_get hC hI inX4 rfl 2 (by decide) wd_fl_X6_105 rfl he hv hdg kont
theorem gf_X6_109 (hC : Cx p s m args meth c RX6 cc nL ret g B0) (hI : WI g ad B0 f s H locs) (he : f kk ii = some (.inr (1, fs))) {v : Value} (hv : fs[1]? = some v) (hdg : decode cc pc = .ok (.getfield 109, 3)) (kont : W p l e R s m args below meth c H locs cells slots Q (F0 m (pc + 3) ls (v :: rest))) : W p l e R s m args below meth c H locs cells slots Q (F0 m pc ls (.ref (ad kk ii) :: rest)) := r_get hC hI inX1 rfl 1 (by decide) wd_fl_X6_109 rfl he hv hdg kont
theorem pf_X6_109 (hC : Cx p s m args meth c RX6 cc nL ret g B0) (hI : WI g ad B0 f s H locs) (he : f kk ii = some (.inr (1, fs))) {v : Int32} (hlen : 1 < fs.length) (hdg : decode cc pc = .ok (.putfield 109, 3)) (kont : ∀ (H1 : Heap) (locs1 : List Loc), WI g ad B0 (up2 f kk ii (.inr (1, fs.set 1 (.int v)))) s H1 locs1 → W p l e R s m args below meth c H1 locs1 cells slots Q (F0 m (pc + 3) ls rest)) : W p l e R s m args below meth c H locs cells slots Q (F0 m pc ls ((.int v) :: .ref (ad kk ii) :: rest)) := r_put hC hI inX1 rfl tyX1 tyX1_ok nmX1 1 (by decide) wd_fl_X6_109 rfl rfl (ty := .int) (by decide +kernel) he rfl rfl hlen hdg kont
theorem gf_X6_119 (hC : Cx p s m args meth c RX6 cc nL ret g B0) (hI : WI g ad B0 f s H locs) (he : f kk ii = some (.inr (1, fs))) {v : Value} (hv : fs[3]? = some v) (hdg : decode cc pc = .ok (.getfield 119, 3)) (kont : W p l e R s m args below meth c H locs cells slots Q (F0 m (pc + 3) ls (v :: rest))) : W p l e R s m args below meth c H locs cells slots Q (F0 m pc ls (.ref (ad kk ii) :: rest)) := r_get hC hI inX1 rfl 3 (by decide) wd_fl_X6_119 rfl he hv hdg kont
theorem pf_X6_119 (hC : Cx p s m args meth c RX6 cc nL ret g B0) (hI : WI g ad B0 f s H locs) (he : f kk ii = some (.inr (1, fs))) {v : Int32} (hlen : 3 < fs.length) (hdg : decode cc pc = .ok (.putfield 119, 3)) (kont : ∀ (H1 : Heap) (locs1 : List Loc), WI g ad B0 (up2 f kk ii (.inr (1, fs.set 3 (.int v)))) s H1 locs1 → W p l e R s m args below meth c H1 locs1 cells slots Q (F0 m (pc + 3) ls rest)) : W p l e R s m args below meth c H locs cells slots Q (F0 m pc ls ((.int v) :: .ref (ad kk ii) :: rest)) := r_put hC hI inX1 rfl tyX1 tyX1_ok nmX1 3 (by decide) wd_fl_X6_119 rfl rfl (ty := .int) (by decide +kernel) he rfl rfl hlen hdg kont
theorem gf_X4_53 (hC : Cx p s m args meth c RX4 cc nL ret g B0) (hI : WI g ad B0 f s H locs) (he : f kk ii = some (.inr (1, fs))) {v : Value} (hv : fs[3]? = some v) (hdg : decode cc pc = .ok (.getfield 53, 3)) (kont : W p l e R s m args below meth c H locs cells slots Q (F0 m (pc + 3) ls (v :: rest))) : W p l e R s m args below meth c H locs cells slots Q (F0 m pc ls (.ref (ad kk ii) :: rest)) := r_get hC hI inX1 rfl 3 (by decide) wd_fl_X4_53 rfl he hv hdg kont
theorem pf_X4_53 (hC : Cx p s m args meth c RX4 cc nL ret g B0) (hI : WI g ad B0 f s H locs) (he : f kk ii = some (.inr (1, fs))) {v : Int32} (hlen : 3 < fs.length) (hdg : decode cc pc = .ok (.putfield 53, 3)) (kont : ∀ (H1 : Heap) (locs1 : List Loc), WI g ad B0 (up2 f kk ii (.inr (1, fs.set 3 (.int v)))) s H1 locs1 → W p l e R s m args below meth c H1 locs1 cells slots Q (F0 m (pc + 3) ls rest)) : W p l e R s m args below meth c H locs cells slots Q (F0 m pc ls ((.int v) :: .ref (ad kk ii) :: rest)) := r_put hC hI inX1 rfl tyX1 tyX1_ok nmX1 3 (by decide) wd_fl_X4_53 rfl rfl (ty := .int) (by decide +kernel) he rfl rfl hlen hdg kont
theorem gf_X4_56 (hC : Cx p s m args meth c RX4 cc nL ret g B0) (hI : WI g ad B0 f s H locs) (he : f kk ii = some (.inr (1, fs))) {v : Value} (hv : fs[1]? = some v) (hdg : decode cc pc = .ok (.getfield 56, 3)) (kont : W p l e R s m args below meth c H locs cells slots Q (F0 m (pc + 3) ls (v :: rest))) : W p l e R s m args below meth c H locs cells slots Q (F0 m pc ls (.ref (ad kk ii) :: rest)) := r_get hC hI inX1 rfl 1 (by decide) wd_fl_X4_56 rfl he hv hdg kont
theorem pf_X4_56 (hC : Cx p s m args meth c RX4 cc nL ret g B0) (hI : WI g ad B0 f s H locs) (he : f kk ii = some (.inr (1, fs))) {v : Int32} (hlen : 1 < fs.length) (hdg : decode cc pc = .ok (.putfield 56, 3)) (kont : ∀ (H1 : Heap) (locs1 : List Loc), WI g ad B0 (up2 f kk ii (.inr (1, fs.set 1 (.int v)))) s H1 locs1 → W p l e R s m args below meth c H1 locs1 cells slots Q (F0 m (pc + 3) ls rest)) : W p l e R s m args below meth c H locs cells slots Q (F0 m pc ls ((.int v) :: .ref (ad kk ii) :: rest)) := r_put hC hI inX1 rfl tyX1 tyX1_ok nmX1 1 (by decide) wd_fl_X4_56 rfl rfl (ty := .int) (by decide +kernel) he rfl rfl hlen hdg kont
theorem gf_X4_63 (hC : Cx p s m args meth c RX4 cc nL ret g B0) (hI : WI g ad B0 f s H locs) (he : f kk ii = some (.inr (1, fs))) {v : Value} (hv : fs[4]? = some v) (hdg : decode cc pc = .ok (.getfield 63, 3)) (kont : W p l e R s m args below meth c H locs cells slots Q (F0 m (pc + 3) ls (v :: rest))) : W p l e R s m args below meth c H locs cells slots Q (F0 m pc ls (.ref (ad kk ii) :: rest)) := r_get hC hI inX1 rfl 4 (by decide) wd_fl_X4_63 rfl he hv hdg kont
theorem pf_X4_63 (hC : Cx p s m args meth c RX4 cc nL ret g B0) (hI : WI g ad B0 f s H locs) (he : f kk ii = some (.inr (1, fs))) {v : Int32} (hlen : 4 < fs.length) (hdg : decode cc pc = .ok (.putfield 63, 3)) (kont : ∀ (H1 : Heap) (locs1 : List Loc), WI g ad B0 (up2 f kk ii (.inr (1, fs.set 4 (.int v)))) s H1 locs1 → W p l e R s m args below meth c H1 locs1 cells slots Q (F0 m (pc + 3) ls rest)) : W p l e R s m args below meth c H locs cells slots Q (F0 m pc ls ((.int v) :: .ref (ad kk ii) :: rest)) := r_put hC hI inX1 rfl tyX1 tyX1_ok nmX1 4 (by decide) wd_fl_X4_63 rfl rfl (ty := .int) (by decide +kernel) he rfl rfl hlen hdg kont
theorem gf_X7_73 (hC : Cx p s m args meth c RX7 cc nL ret g B0) (hI : WI g ad B0 f s H locs) (he : f kk ii = some (.inr (7, fs))) {v : Value} (hv : fs[18]? = some v) (hdg : decode cc pc = .ok (.getfield 73, 3)) (kont : W p l e R s m args below meth c H locs cells slots Q (F0 m (pc + 3) ls (v :: rest))) : W p l e R s m args below meth c H locs cells slots Q (F0 m pc ls (.ref (ad kk ii) :: rest)) := r_get hC hI inX7 rfl 18 (by decide) wd_fl_X7_73 rfl he hv hdg kont
theorem pf_X7_73 (hC : Cx p s m args meth c RX7 cc nL ret g B0) (hI : WI g ad B0 f s H locs) (he : f kk ii = some (.inr (7, fs))) {v : Int32} (hlen : 18 < fs.length) (hdg : decode cc pc = .ok (.putfield 73, 3)) (kont : ∀ (H1 : Heap) (locs1 : List Loc), WI g ad B0 (up2 f kk ii (.inr (7, fs.set 18 (.int v)))) s H1 locs1 → W p l e R s m args below meth c H1 locs1 cells slots Q (F0 m (pc + 3) ls rest)) : W p l e R s m args below meth c H locs cells slots Q (F0 m pc ls ((.int v) :: .ref (ad kk ii) :: rest)) := r_put hC hI inX7 rfl tyX7 tyX7_ok nmX7 18 (by decide) wd_fl_X7_73 rfl rfl (ty := .int) (by decide +kernel) he rfl rfl hlen hdg kont
theorem gf_X4_66 (hC : Cx p s m args meth c RX4 cc nL ret g B0) (hI : WI g ad B0 f s H locs) (he : f kk ii = some (.inr (2, fs))) {v : Value} (hv : fs[0]? = some v) (hdg : decode cc pc = .ok (.getfield 66, 3)) (kont : W p l e R s m args below meth c H locs cells slots Q (F0 m (pc + 3) ls (v :: rest))) : W p l e R s m args below meth c H locs cells slots Q (F0 m pc ls (.ref (ad kk ii) :: rest)) := r_get hC hI inX2 rfl 0 (by decide) wd_fl_X4_66 rfl he hv hdg kont
theorem gf_X2_7 (hC : Cx p s m args meth c RX2 cc nL ret g B0) (hI : WI g ad B0 f s H locs) (he : f kk ii = some (.inr (2, fs))) {v : Value} (hv : fs[1]? = some v) (hdg : decode cc pc = .ok (.getfield 7, 3)) (kont : W p l e R s m args below meth c H locs cells slots Q (F0 m (pc + 3) ls (v :: rest))) : W p l e R s m args below meth c H locs cells slots Q (F0 m pc ls (.ref (ad kk ii) :: rest)) := r_get hC hI inX2 rfl 1 (by decide) wd_fl_X2_7 rfl he hv hdg kont
theorem pf_X2_7 (hC : Cx p s m args meth c RX2 cc nL ret g B0) (hI : WI g ad B0 f s H locs) (he : f kk ii = some (.inr (2, fs))) {v : Nat} (hlen : 1 < fs.length) (hdg : decode cc pc = .ok (.putfield 7, 3)) (kont : ∀ (H1 : Heap) (locs1 : List Loc), WI g ad B0 (up2 f kk ii (.inr (2, fs.set 1 (.ref v)))) s H1 locs1 → W p l e R s m args below meth c H1 locs1 cells slots Q (F0 m (pc + 3) ls rest)) : W p l e R s m args below meth c H locs cells slots Q (F0 m pc ls ((.ref v) :: .ref (ad kk ii) :: rest)) := r_put hC hI inX2 rfl tyX2 tyX2_ok nmX2 1 (by decide) wd_fl_X2_7 rfl rfl (ty := (.object "ColdStore$Room")) (by decide +kernel) he rfl rfl hlen hdg kont
theorem pf_X2_7N (hC : Cx p s m args meth c RX2 cc nL ret g B0) (hI : WI g ad B0 f s H locs) (he : f kk ii = some (.inr (2, fs)))  (hlen : 1 < fs.length) (hdg : decode cc pc = .ok (.putfield 7, 3)) (kont : ∀ (H1 : Heap) (locs1 : List Loc), WI g ad B0 (up2 f kk ii (.inr (2, fs.set 1 .null))) s H1 locs1 → W p l e R s m args below meth c H1 locs1 cells slots Q (F0 m (pc + 3) ls rest)) : W p l e R s m args below meth c H locs cells slots Q (F0 m pc ls (.null :: .ref (ad kk ii) :: rest)) := r_put hC hI inX2 rfl tyX2 tyX2_ok nmX2 1 (by decide) wd_fl_X2_7 rfl rfl (ty := (.object "ColdStore$Room")) (by decide +kernel) he rfl rfl hlen hdg kont
theorem gf_X2_13 (hC : Cx p s m args meth c RX2 cc nL ret g B0) (hI : WI g ad B0 f s H locs) (he : f kk ii = some (.inr (2, fs))) {v : Value} (hv : fs[3]? = some v) (hdg : decode cc pc = .ok (.getfield 13, 3)) (kont : W p l e R s m args below meth c H locs cells slots Q (F0 m (pc + 3) ls (v :: rest))) : W p l e R s m args below meth c H locs cells slots Q (F0 m pc ls (.ref (ad kk ii) :: rest)) := r_get hC hI inX2 rfl 3 (by decide) wd_fl_X2_13 rfl he hv hdg kont
theorem pf_X2_13 (hC : Cx p s m args meth c RX2 cc nL ret g B0) (hI : WI g ad B0 f s H locs) (he : f kk ii = some (.inr (2, fs))) {v : Int32} (hlen : 3 < fs.length) (hdg : decode cc pc = .ok (.putfield 13, 3)) (kont : ∀ (H1 : Heap) (locs1 : List Loc), WI g ad B0 (up2 f kk ii (.inr (2, fs.set 3 (.int v)))) s H1 locs1 → W p l e R s m args below meth c H1 locs1 cells slots Q (F0 m (pc + 3) ls rest)) : W p l e R s m args below meth c H locs cells slots Q (F0 m pc ls ((.int v) :: .ref (ad kk ii) :: rest)) := r_put hC hI inX2 rfl tyX2 tyX2_ok nmX2 3 (by decide) wd_fl_X2_13 rfl rfl (ty := .int) (by decide +kernel) he rfl rfl hlen hdg kont
theorem gf_X2_17 (hC : Cx p s m args meth c RX2 cc nL ret g B0) (hI : WI g ad B0 f s H locs) (he : f kk ii = some (.inr (2, fs))) {v : Value} (hv : fs[4]? = some v) (hdg : decode cc pc = .ok (.getfield 17, 3)) (kont : W p l e R s m args below meth c H locs cells slots Q (F0 m (pc + 3) ls (v :: rest))) : W p l e R s m args below meth c H locs cells slots Q (F0 m pc ls (.ref (ad kk ii) :: rest)) := r_get hC hI inX2 rfl 4 (by decide) wd_fl_X2_17 rfl he hv hdg kont
theorem pf_X2_17 (hC : Cx p s m args meth c RX2 cc nL ret g B0) (hI : WI g ad B0 f s H locs) (he : f kk ii = some (.inr (2, fs))) {v : Int32} (hlen : 4 < fs.length) (hdg : decode cc pc = .ok (.putfield 17, 3)) (kont : ∀ (H1 : Heap) (locs1 : List Loc), WI g ad B0 (up2 f kk ii (.inr (2, fs.set 4 (.int v)))) s H1 locs1 → W p l e R s m args below meth c H1 locs1 cells slots Q (F0 m (pc + 3) ls rest)) : W p l e R s m args below meth c H locs cells slots Q (F0 m pc ls ((.int v) :: .ref (ad kk ii) :: rest)) := r_put hC hI inX2 rfl tyX2 tyX2_ok nmX2 4 (by decide) wd_fl_X2_17 rfl rfl (ty := .int) (by decide +kernel) he rfl rfl hlen hdg kont
theorem gf_X2_20 (hC : Cx p s m args meth c RX2 cc nL ret g B0) (hI : WI g ad B0 f s H locs) (he : f kk ii = some (.inr (2, fs))) {v : Value} (hv : fs[5]? = some v) (hdg : decode cc pc = .ok (.getfield 20, 3)) (kont : W p l e R s m args below meth c H locs cells slots Q (F0 m (pc + 3) ls (v :: rest))) : W p l e R s m args below meth c H locs cells slots Q (F0 m pc ls (.ref (ad kk ii) :: rest)) := r_get hC hI inX2 rfl 5 (by decide) wd_fl_X2_20 rfl he hv hdg kont
theorem pf_X2_20 (hC : Cx p s m args meth c RX2 cc nL ret g B0) (hI : WI g ad B0 f s H locs) (he : f kk ii = some (.inr (2, fs))) {v : Int32} (hlen : 5 < fs.length) (hdg : decode cc pc = .ok (.putfield 20, 3)) (kont : ∀ (H1 : Heap) (locs1 : List Loc), WI g ad B0 (up2 f kk ii (.inr (2, fs.set 5 (.int v)))) s H1 locs1 → W p l e R s m args below meth c H1 locs1 cells slots Q (F0 m (pc + 3) ls rest)) : W p l e R s m args below meth c H locs cells slots Q (F0 m pc ls ((.int v) :: .ref (ad kk ii) :: rest)) := r_put hC hI inX2 rfl tyX2 tyX2_ok nmX2 5 (by decide) wd_fl_X2_20 rfl rfl (ty := .int) (by decide +kernel) he rfl rfl hlen hdg kont
theorem gf_X2_23 (hC : Cx p s m args meth c RX2 cc nL ret g B0) (hI : WI g ad B0 f s H locs) (he : f kk ii = some (.inr (2, fs))) {v : Value} (hv : fs[0]? = some v) (hdg : decode cc pc = .ok (.getfield 23, 3)) (kont : W p l e R s m args below meth c H locs cells slots Q (F0 m (pc + 3) ls (v :: rest))) : W p l e R s m args below meth c H locs cells slots Q (F0 m pc ls (.ref (ad kk ii) :: rest)) := r_get hC hI inX2 rfl 0 (by decide) wd_fl_X2_23 rfl he hv hdg kont
theorem pf_X2_23 (hC : Cx p s m args meth c RX2 cc nL ret g B0) (hin : meth.name = "<init>") (hI : WI g ad B0 f s H locs) (he : f kk ii = some (.inr (2, fs))) {v : Nat} (hlen : 0 < fs.length) (hdg : decode cc pc = .ok (.putfield 23, 3)) (kont : ∀ (H1 : Heap) (locs1 : List Loc), WI g ad B0 (up2 f kk ii (.inr (2, fs.set 0 (.ref v)))) s H1 locs1 → W p l e R s m args below meth c H1 locs1 cells slots Q (F0 m (pc + 3) ls rest)) : W p l e R s m args below meth c H locs cells slots Q (F0 m pc ls ((.ref v) :: .ref (ad kk ii) :: rest)) := r_putF hC hin hI inX2 rfl tyX2 tyX2_ok nmX2 0 (by decide) wd_fl_X2_23 rfl rfl rfl (ty := (.object "ColdStore$Product")) (by decide +kernel) he rfl rfl hlen hdg kont
theorem pf_X2_23N (hC : Cx p s m args meth c RX2 cc nL ret g B0) (hin : meth.name = "<init>") (hI : WI g ad B0 f s H locs) (he : f kk ii = some (.inr (2, fs)))  (hlen : 0 < fs.length) (hdg : decode cc pc = .ok (.putfield 23, 3)) (kont : ∀ (H1 : Heap) (locs1 : List Loc), WI g ad B0 (up2 f kk ii (.inr (2, fs.set 0 .null))) s H1 locs1 → W p l e R s m args below meth c H1 locs1 cells slots Q (F0 m (pc + 3) ls rest)) : W p l e R s m args below meth c H locs cells slots Q (F0 m pc ls (.null :: .ref (ad kk ii) :: rest)) := r_putF hC hin hI inX2 rfl tyX2 tyX2_ok nmX2 0 (by decide) wd_fl_X2_23 rfl rfl rfl (ty := (.object "ColdStore$Product")) (by decide +kernel) he rfl rfl hlen hdg kont
theorem gf_X2_27 (hC : Cx p s m args meth c RX2 cc nL ret g B0) (hI : WI g ad B0 f s H locs) (he : f kk ii = some (.inr (2, fs))) {v : Value} (hv : fs[2]? = some v) (hdg : decode cc pc = .ok (.getfield 27, 3)) (kont : W p l e R s m args below meth c H locs cells slots Q (F0 m (pc + 3) ls (v :: rest))) : W p l e R s m args below meth c H locs cells slots Q (F0 m pc ls (.ref (ad kk ii) :: rest)) := r_get hC hI inX2 rfl 2 (by decide) wd_fl_X2_27 rfl he hv hdg kont
theorem pf_X2_27 (hC : Cx p s m args meth c RX2 cc nL ret g B0) (hI : WI g ad B0 f s H locs) (he : f kk ii = some (.inr (2, fs))) {v : Int32} (hlen : 2 < fs.length) (hdg : decode cc pc = .ok (.putfield 27, 3)) (kont : ∀ (H1 : Heap) (locs1 : List Loc), WI g ad B0 (up2 f kk ii (.inr (2, fs.set 2 (.int v)))) s H1 locs1 → W p l e R s m args below meth c H1 locs1 cells slots Q (F0 m (pc + 3) ls rest)) : W p l e R s m args below meth c H locs cells slots Q (F0 m pc ls ((.int v) :: .ref (ad kk ii) :: rest)) := r_put hC hI inX2 rfl tyX2 tyX2_ok nmX2 2 (by decide) wd_fl_X2_27 rfl rfl (ty := .int) (by decide +kernel) he rfl rfl hlen hdg kont
theorem gf_X4_84 (hC : Cx p s m args meth c RX4 cc nL ret g B0) (hI : WI g ad B0 f s H locs) (he : f kk ii = some (.inr (2, fs))) {v : Value} (hv : fs[1]? = some v) (hdg : decode cc pc = .ok (.getfield 84, 3)) (kont : W p l e R s m args below meth c H locs cells slots Q (F0 m (pc + 3) ls (v :: rest))) : W p l e R s m args below meth c H locs cells slots Q (F0 m pc ls (.ref (ad kk ii) :: rest)) := r_get hC hI inX2 rfl 1 (by decide) wd_fl_X4_84 rfl he hv hdg kont
theorem pf_X4_84 (hC : Cx p s m args meth c RX4 cc nL ret g B0) (hI : WI g ad B0 f s H locs) (he : f kk ii = some (.inr (2, fs))) {v : Nat} (hlen : 1 < fs.length) (hdg : decode cc pc = .ok (.putfield 84, 3)) (kont : ∀ (H1 : Heap) (locs1 : List Loc), WI g ad B0 (up2 f kk ii (.inr (2, fs.set 1 (.ref v)))) s H1 locs1 → W p l e R s m args below meth c H1 locs1 cells slots Q (F0 m (pc + 3) ls rest)) : W p l e R s m args below meth c H locs cells slots Q (F0 m pc ls ((.ref v) :: .ref (ad kk ii) :: rest)) := r_put hC hI inX2 rfl tyX2 tyX2_ok nmX2 1 (by decide) wd_fl_X4_84 rfl rfl (ty := (.object "ColdStore$Room")) (by decide +kernel) he rfl rfl hlen hdg kont
theorem pf_X4_84N (hC : Cx p s m args meth c RX4 cc nL ret g B0) (hI : WI g ad B0 f s H locs) (he : f kk ii = some (.inr (2, fs)))  (hlen : 1 < fs.length) (hdg : decode cc pc = .ok (.putfield 84, 3)) (kont : ∀ (H1 : Heap) (locs1 : List Loc), WI g ad B0 (up2 f kk ii (.inr (2, fs.set 1 .null))) s H1 locs1 → W p l e R s m args below meth c H1 locs1 cells slots Q (F0 m (pc + 3) ls rest)) : W p l e R s m args below meth c H locs cells slots Q (F0 m pc ls (.null :: .ref (ad kk ii) :: rest)) := r_put hC hI inX2 rfl tyX2 tyX2_ok nmX2 1 (by decide) wd_fl_X4_84 rfl rfl (ty := (.object "ColdStore$Room")) (by decide +kernel) he rfl rfl hlen hdg kont
theorem gf_X6_154 (hC : Cx p s m args meth c RX6 cc nL ret g B0) (hI : WI g ad B0 f s H locs) (he : f kk ii = some (.inr (2, fs))) {v : Value} (hv : fs[1]? = some v) (hdg : decode cc pc = .ok (.getfield 154, 3)) (kont : W p l e R s m args below meth c H locs cells slots Q (F0 m (pc + 3) ls (v :: rest))) : W p l e R s m args below meth c H locs cells slots Q (F0 m pc ls (.ref (ad kk ii) :: rest)) := r_get hC hI inX2 rfl 1 (by decide) wd_fl_X6_154 rfl he hv hdg kont
theorem pf_X6_154 (hC : Cx p s m args meth c RX6 cc nL ret g B0) (hI : WI g ad B0 f s H locs) (he : f kk ii = some (.inr (2, fs))) {v : Nat} (hlen : 1 < fs.length) (hdg : decode cc pc = .ok (.putfield 154, 3)) (kont : ∀ (H1 : Heap) (locs1 : List Loc), WI g ad B0 (up2 f kk ii (.inr (2, fs.set 1 (.ref v)))) s H1 locs1 → W p l e R s m args below meth c H1 locs1 cells slots Q (F0 m (pc + 3) ls rest)) : W p l e R s m args below meth c H locs cells slots Q (F0 m pc ls ((.ref v) :: .ref (ad kk ii) :: rest)) := r_put hC hI inX2 rfl tyX2 tyX2_ok nmX2 1 (by decide) wd_fl_X6_154 rfl rfl (ty := (.object "ColdStore$Room")) (by decide +kernel) he rfl rfl hlen hdg kont
theorem pf_X6_154N (hC : Cx p s m args meth c RX6 cc nL ret g B0) (hI : WI g ad B0 f s H locs) (he : f kk ii = some (.inr (2, fs)))  (hlen : 1 < fs.length) (hdg : decode cc pc = .ok (.putfield 154, 3)) (kont : ∀ (H1 : Heap) (locs1 : List Loc), WI g ad B0 (up2 f kk ii (.inr (2, fs.set 1 .null))) s H1 locs1 → W p l e R s m args below meth c H1 locs1 cells slots Q (F0 m (pc + 3) ls rest)) : W p l e R s m args below meth c H locs cells slots Q (F0 m pc ls (.null :: .ref (ad kk ii) :: rest)) := r_put hC hI inX2 rfl tyX2 tyX2_ok nmX2 1 (by decide) wd_fl_X6_154 rfl rfl (ty := (.object "ColdStore$Room")) (by decide +kernel) he rfl rfl hlen hdg kont
theorem gf_X6_158 (hC : Cx p s m args meth c RX6 cc nL ret g B0) (hI : WI g ad B0 f s H locs) (he : f kk ii = some (.inr (2, fs))) {v : Value} (hv : fs[0]? = some v) (hdg : decode cc pc = .ok (.getfield 158, 3)) (kont : W p l e R s m args below meth c H locs cells slots Q (F0 m (pc + 3) ls (v :: rest))) : W p l e R s m args below meth c H locs cells slots Q (F0 m pc ls (.ref (ad kk ii) :: rest)) := r_get hC hI inX2 rfl 0 (by decide) wd_fl_X6_158 rfl he hv hdg kont
theorem gf_X6_167 (hC : Cx p s m args meth c RX6 cc nL ret g B0) (hI : WI g ad B0 f s H locs) (he : f kk ii = some (.inr (4, fs))) {v : Value} (hv : fs[0]? = some v) (hdg : decode cc pc = .ok (.getfield 167, 3)) (kont : W p l e R s m args below meth c H locs cells slots Q (F0 m (pc + 3) ls (v :: rest))) : W p l e R s m args below meth c H locs cells slots Q (F0 m pc ls (.ref (ad kk ii) :: rest)) := r_get hC hI inX4 rfl 0 (by decide) wd_fl_X6_167 rfl he hv hdg kont
theorem gf_X2_30 (hC : Cx p s m args meth c RX2 cc nL ret g B0) (hI : WI g ad B0 f s H locs) (he : f kk ii = some (.inr (3, fs))) {v : Value} (hv : fs[0]? = some v) (hdg : decode cc pc = .ok (.getfield 30, 3)) (kont : W p l e R s m args below meth c H locs cells slots Q (F0 m (pc + 3) ls (v :: rest))) : W p l e R s m args below meth c H locs cells slots Q (F0 m pc ls (.ref (ad kk ii) :: rest)) := r_get hC hI inX3 rfl 0 (by decide) wd_fl_X2_30 rfl he hv hdg kont
theorem gf_X2_35 (hC : Cx p s m args meth c RX2 cc nL ret g B0) (hI : WI g ad B0 f s H locs) (he : f kk ii = some (.inr (4, fs))) {v : Value} (hv : fs[0]? = some v) (hdg : decode cc pc = .ok (.getfield 35, 3)) (kont : W p l e R s m args below meth c H locs cells slots Q (F0 m (pc + 3) ls (v :: rest))) : W p l e R s m args below meth c H locs cells slots Q (F0 m pc ls (.ref (ad kk ii) :: rest)) := r_get hC hI inX4 rfl 0 (by decide) wd_fl_X2_35 rfl he hv hdg kont
theorem gf_X2_46 (hC : Cx p s m args meth c RX2 cc nL ret g B0) (hI : WI g ad B0 f s H locs) (he : f kk ii = some (.inr (3, fs))) {v : Value} (hv : fs[3]? = some v) (hdg : decode cc pc = .ok (.getfield 46, 3)) (kont : W p l e R s m args below meth c H locs cells slots Q (F0 m (pc + 3) ls (v :: rest))) : W p l e R s m args below meth c H locs cells slots Q (F0 m pc ls (.ref (ad kk ii) :: rest)) := r_get hC hI inX3 rfl 3 (by decide) wd_fl_X2_46 rfl he hv hdg kont
theorem gf_X7_140 (hC : Cx p s m args meth c RX7 cc nL ret g B0) (hI : WI g ad B0 f s H locs) (he : f kk ii = some (.inr (7, fs))) {v : Value} (hv : fs[23]? = some v) (hdg : decode cc pc = .ok (.getfield 140, 3)) (kont : W p l e R s m args below meth c H locs cells slots Q (F0 m (pc + 3) ls (v :: rest))) : W p l e R s m args below meth c H locs cells slots Q (F0 m pc ls (.ref (ad kk ii) :: rest)) := r_get hC hI inX7 rfl 23 (by decide) wd_fl_X7_140 rfl he hv hdg kont
theorem pf_X7_140 (hC : Cx p s m args meth c RX7 cc nL ret g B0) (hI : WI g ad B0 f s H locs) (he : f kk ii = some (.inr (7, fs))) {v : Int32} (hlen : 23 < fs.length) (hdg : decode cc pc = .ok (.putfield 140, 3)) (kont : ∀ (H1 : Heap) (locs1 : List Loc), WI g ad B0 (up2 f kk ii (.inr (7, fs.set 23 (.int v)))) s H1 locs1 → W p l e R s m args below meth c H1 locs1 cells slots Q (F0 m (pc + 3) ls rest)) : W p l e R s m args below meth c H locs cells slots Q (F0 m pc ls ((.int v) :: .ref (ad kk ii) :: rest)) := r_put hC hI inX7 rfl tyX7 tyX7_ok nmX7 23 (by decide) wd_fl_X7_140 rfl rfl (ty := .int) (by decide +kernel) he rfl rfl hlen hdg kont
theorem gf_X4_104 (hC : Cx p s m args meth c RX4 cc nL ret g B0) (hI : WI g ad B0 f s H locs) (he : f kk ii = some (.inr (2, fs))) {v : Value} (hv : fs[2]? = some v) (hdg : decode cc pc = .ok (.getfield 104, 3)) (kont : W p l e R s m args below meth c H locs cells slots Q (F0 m (pc + 3) ls (v :: rest))) : W p l e R s m args below meth c H locs cells slots Q (F0 m pc ls (.ref (ad kk ii) :: rest)) := r_get hC hI inX2 rfl 2 (by decide) wd_fl_X4_104 rfl he hv hdg kont
theorem pf_X4_104 (hC : Cx p s m args meth c RX4 cc nL ret g B0) (hI : WI g ad B0 f s H locs) (he : f kk ii = some (.inr (2, fs))) {v : Int32} (hlen : 2 < fs.length) (hdg : decode cc pc = .ok (.putfield 104, 3)) (kont : ∀ (H1 : Heap) (locs1 : List Loc), WI g ad B0 (up2 f kk ii (.inr (2, fs.set 2 (.int v)))) s H1 locs1 → W p l e R s m args below meth c H1 locs1 cells slots Q (F0 m (pc + 3) ls rest)) : W p l e R s m args below meth c H locs cells slots Q (F0 m pc ls ((.int v) :: .ref (ad kk ii) :: rest)) := r_put hC hI inX2 rfl tyX2 tyX2_ok nmX2 2 (by decide) wd_fl_X4_104 rfl rfl (ty := .int) (by decide +kernel) he rfl rfl hlen hdg kont
theorem gf_X7_154 (hC : Cx p s m args meth c RX7 cc nL ret g B0) (hI : WI g ad B0 f s H locs) (he : f kk ii = some (.inr (7, fs))) {v : Value} (hv : fs[5]? = some v) (hdg : decode cc pc = .ok (.getfield 154, 3)) (kont : W p l e R s m args below meth c H locs cells slots Q (F0 m (pc + 3) ls (v :: rest))) : W p l e R s m args below meth c H locs cells slots Q (F0 m pc ls (.ref (ad kk ii) :: rest)) := r_get hC hI inX7 rfl 5 (by decide) wd_fl_X7_154 rfl he hv hdg kont
theorem pf_X7_154 (hC : Cx p s m args meth c RX7 cc nL ret g B0) (hI : WI g ad B0 f s H locs) (he : f kk ii = some (.inr (7, fs))) {v : Int64} (hlen : 5 < fs.length) (hdg : decode cc pc = .ok (.putfield 154, 3)) (kont : ∀ (H1 : Heap) (locs1 : List Loc), WI g ad B0 (up2 f kk ii (.inr (7, fs.set 5 (.long v)))) s H1 locs1 → W p l e R s m args below meth c H1 locs1 cells slots Q (F0 m (pc + 3) ls rest)) : W p l e R s m args below meth c H locs cells slots Q (F0 m pc ls ((.long v) :: .ref (ad kk ii) :: rest)) := r_put hC hI inX7 rfl tyX7 tyX7_ok nmX7 5 (by decide) wd_fl_X7_154 rfl rfl (ty := .long) (by decide +kernel) he rfl rfl hlen hdg kont
theorem gf_X6_218 (hC : Cx p s m args meth c RX6 cc nL ret g B0) (hI : WI g ad B0 f s H locs) (he : f kk ii = some (.inr (4, fs))) {v : Value} (hv : fs[6]? = some v) (hdg : decode cc pc = .ok (.getfield 218, 3)) (kont : W p l e R s m args below meth c H locs cells slots Q (F0 m (pc + 3) ls (v :: rest))) : W p l e R s m args below meth c H locs cells slots Q (F0 m pc ls (.ref (ad kk ii) :: rest)) := r_get hC hI inX4 rfl 6 (by decide) wd_fl_X6_218 rfl he hv hdg kont
theorem pf_X6_218 (hC : Cx p s m args meth c RX6 cc nL ret g B0) (hI : WI g ad B0 f s H locs) (he : f kk ii = some (.inr (4, fs))) {v : Int32} (hlen : 6 < fs.length) (hdg : decode cc pc = .ok (.putfield 218, 3)) (kont : ∀ (H1 : Heap) (locs1 : List Loc), WI g ad B0 (up2 f kk ii (.inr (4, fs.set 6 (.int v)))) s H1 locs1 → W p l e R s m args below meth c H1 locs1 cells slots Q (F0 m (pc + 3) ls rest)) : W p l e R s m args below meth c H locs cells slots Q (F0 m pc ls ((.int v) :: .ref (ad kk ii) :: rest)) := r_put hC hI inX4 rfl tyX4 tyX4_ok nmX4 6 (by decide) wd_fl_X6_218 rfl rfl (ty := .int) (by decide +kernel) he rfl rfl hlen hdg kont
end ACC
section CWS
variable {R : Room} {s : State} {args : Array Value}
theorem cw_L_82 (hts : ∀ w ∈ allW, w.before args s = true) {rm : Room} {mc ms : Nat} (hrc : rm.cells = mc) (hrs : rm.slots = ms) (hR : rm.frames + 1 ≤ R.frames ∧ 8 + (1 + 11) + rm.locals ≤ R.locals) : CallB R s args RL 82 yX6_init cX6_init 1 none (wsM yX6_init cX6_init 1 none) rm mc ms 0 ∧ yX6_init.name = "<init>" ∧ (Cond.instanceMethod yX6_init).before args s = true := cwI 0 hts (goodI wd_co_yX6_init) rfl hrc hrs (hts _ wd_in_RX6) (hts _ wd_ml_L_82) (hts _ wd_im_yX6_init) rfl (by decide +kernel) hR
theorem cw_X6_18 (hts : ∀ w ∈ allW, w.before args s = true) {rm : Room} {mc ms : Nat} (hrc : rm.cells = mc) (hrs : rm.slots = ms) (hR : rm.frames + 1 ≤ R.frames ∧ 8 + (2 + 11) + rm.locals ≤ R.locals) : CallB R s args RX6 18 yX5_init cX5_init 2 none (wsM yX5_init cX5_init 2 none) rm mc ms 0 ∧ yX5_init.name = "<init>" ∧ (Cond.instanceMethod yX5_init).before args s = true := cwI 0 hts (goodI wd_co_yX5_init) rfl hrc hrs (hts _ wd_in_RX5) (hts _ wd_ml_X6_18) (hts _ wd_im_yX5_init) rfl (by decide +kernel) hR
theorem cw_L_85 (hts : ∀ w ∈ allW, w.before args s = true) {rm : Room} {mc ms : Nat} (hrc : rm.cells = mc) (hrs : rm.slots = ms) (hR : rm.frames + 1 ≤ R.frames ∧ 8 + (2 + 11) + rm.locals ≤ R.locals) : CallB R s args RL 85 yX7_init cX7_init 2 none (wsM yX7_init cX7_init 2 none) rm mc ms 0 ∧ yX7_init.name = "<init>" ∧ (Cond.instanceMethod yX7_init).before args s = true := cwI 0 hts (goodI wd_co_yX7_init) rfl hrc hrs (hts _ wd_in_RX7) (hts _ wd_ml_L_85) (hts _ wd_im_yX7_init) rfl (by decide +kernel) hR
theorem cw_L_7 (hts : ∀ w ∈ allW, w.before args s = true) {rm : Room} {mc ms : Nat} (hrc : rm.cells = mc) (hrs : rm.slots = ms) (hR : rm.frames + 1 ≤ R.frames ∧ 8 + (3 + 11) + rm.locals ≤ R.locals) : CallW R s args RL RX6 7 yX6_setOutside cX6_setOutside 3 (some .int) (wsM yX6_setOutside cX6_setOutside 3 (some .int)) rm mc ms 2 := cwV 2 hts (goodV wd_ml_L_7 wd_im_yX6_setOutside wd_se_yX6_setOutside wd_in_RX6 wd_co_yX6_setOutside) rfl hrc hrs (by decide +kernel) hR
theorem cw_X6_61 (hts : ∀ w ∈ allW, w.before args s = true) {rm : Room} {mc ms : Nat} (hrc : rm.cells = mc) (hrs : rm.slots = ms) (hR : rm.frames + 1 ≤ R.frames ∧ 8 + (3 + 11) + rm.locals ≤ R.locals) : CallB R s args RX6 61 yX6_requireWithin cX6_requireWithin 3 none (wsM yX6_requireWithin cX6_requireWithin 3 none) rm mc ms 3 ∧ (Cond.static yX6_requireWithin).before args s = true := cwS 3 hts (goodS wd_ml_X6_61 wd_st_yX6_requireWithin wd_in_RX6 wd_co_yX6_requireWithin) rfl hrc hrs (by decide +kernel) hR
theorem cw_X6_71 (hts : ∀ w ∈ allW, w.before args s = true) {rm : Room} {mc ms : Nat} (hrc : rm.cells = mc) (hrs : rm.slots = ms) (hR : rm.frames + 1 ≤ R.frames ∧ 8 + (3 + 11) + rm.locals ≤ R.locals) : CallW R s args RX6 RX0 71 yX0_temperatureAt cX0_temperatureAt 3 (some .int) (wsM yX0_temperatureAt cX0_temperatureAt 3 (some .int)) rm mc ms 1 := cwV 1 hts (goodV wd_ml_X6_71 wd_im_yX0_temperatureAt wd_se_yX0_temperatureAt wd_in_RX0 wd_co_yX0_temperatureAt) rfl hrc hrs (by decide +kernel) hR
theorem cw_X0_18 (hts : ∀ w ∈ allW, w.before args s = true) {rm : Room} {mc ms : Nat} (hrc : rm.cells = mc) (hrs : rm.slots = ms) (hR : rm.frames + 1 ≤ R.frames ∧ 8 + (3 + 11) + rm.locals ≤ R.locals) : CallB R s args RX0 18 yJ9_floorMod_7cf53 cJ9_floorMod_7cf53 3 (some .int) (wsM yJ9_floorMod_7cf53 cJ9_floorMod_7cf53 3 (some .int)) rm mc ms 2 ∧ (Cond.static yJ9_floorMod_7cf53).before args s = true := ⟨callB_of 2 hts (goodI wd_co_yJ9_floorMod_7cf53) rfl hrc hrs (hts _ wd_in_RJ9) (hts _ wd_ml_X0_18) (by decide +kernel) hR, hts _ wd_st_yJ9_floorMod_7cf53⟩
theorem cw_L_91 (hts : ∀ w ∈ allW, w.before args s = true) {rm : Room} {mc ms : Nat} (hrc : rm.cells = mc) (hrs : rm.slots = ms) (hR : rm.frames + 1 ≤ R.frames ∧ 8 + (3 + 11) + rm.locals ≤ R.locals) : CallW R s args RL RX7 91 yX7_setOutside cX7_setOutside 3 (some .int) (wsM yX7_setOutside cX7_setOutside 3 (some .int)) rm mc ms 2 := cwV 2 hts (goodV wd_ml_L_91 wd_im_yX7_setOutside wd_se_yX7_setOutside wd_in_RX7 wd_co_yX7_setOutside) rfl hrc hrs (by decide +kernel) hR
theorem cw_X7_66 (hts : ∀ w ∈ allW, w.before args s = true) {rm : Room} {mc ms : Nat} (hrc : rm.cells = mc) (hrs : rm.slots = ms) (hR : rm.frames + 1 ≤ R.frames ∧ 8 + (3 + 11) + rm.locals ≤ R.locals) : CallB R s args RX7 66 yX7_isIn cX7_isIn 3 (some .boolean) (wsM yX7_isIn cX7_isIn 3 (some .boolean)) rm mc ms 3 ∧ (Cond.static yX7_isIn).before args s = true := cwS 3 hts (goodS wd_ml_X7_66 wd_st_yX7_isIn wd_in_RX7 wd_co_yX7_isIn) rfl hrc hrs (by decide +kernel) hR
theorem cw_X7_85 (hts : ∀ w ∈ allW, w.before args s = true) {rm : Room} {mc ms : Nat} (hrc : rm.cells = mc) (hrs : rm.slots = ms) (hR : rm.frames + 1 ≤ R.frames ∧ 8 + (2 + 11) + rm.locals ≤ R.locals) : CallW R s args RX7 RX7 85 yX7_no cX7_no 2 (some .int) (wsM yX7_no cX7_no 2 (some .int)) rm mc ms 1 := cwV 1 hts (goodV wd_ml_X7_85 wd_im_yX7_no wd_se_yX7_no wd_in_RX7 wd_co_yX7_no) rfl hrc hrs (by decide +kernel) hR
theorem cw_X7_91 (hts : ∀ w ∈ allW, w.before args s = true) {rm : Room} {mc ms : Nat} (hrc : rm.cells = mc) (hrs : rm.slots = ms) (hR : rm.frames + 1 ≤ R.frames ∧ 8 + (2 + 11) + rm.locals ≤ R.locals) : CallW R s args RX7 RX7 91 yX7_outsideAt cX7_outsideAt 2 (some .int) (wsM yX7_outsideAt cX7_outsideAt 2 (some .int)) rm mc ms 1 := cwV 1 hts (goodV wd_ml_X7_91 wd_im_yX7_outsideAt wd_se_yX7_outsideAt wd_in_RX7 wd_co_yX7_outsideAt) rfl hrc hrs (by decide +kernel) hR
theorem cw_L_92 (hts : ∀ w ∈ allW, w.before args s = true) {rm : Room} {mc ms : Nat} (hrc : rm.cells = mc) (hrs : rm.slots = ms) (hR : rm.frames + 1 ≤ R.frames ∧ 8 + (1 + 11) + rm.locals ≤ R.locals) : CallW R s args RL RX7 92 yX7_thrown cX7_thrown 1 (some .int) (wsM yX7_thrown cX7_thrown 1 (some .int)) rm mc ms 0 := cwV 0 hts (goodV wd_ml_L_92 wd_im_yX7_thrown wd_se_yX7_thrown wd_in_RX7 wd_co_yX7_thrown) rfl hrc hrs (by decide +kernel) hR
theorem cw_L_15 (hts : ∀ w ∈ allW, w.before args s = true) {rm : Room} {mc ms : Nat} (hrc : rm.cells = mc) (hrs : rm.slots = ms) (hR : rm.frames + 1 ≤ R.frames ∧ 8 + (2 + 11) + rm.locals ≤ R.locals) : CallW R s args RL RX6 15 yX6_outside cX6_outside 2 (some .int) (wsM yX6_outside cX6_outside 2 (some .int)) rm mc ms 1 := cwV 1 hts (goodV wd_ml_L_15 wd_im_yX6_outside wd_se_yX6_outside wd_in_RX6 wd_co_yX6_outside) rfl hrc hrs (by decide +kernel) hR
theorem cw_L_99 (hts : ∀ w ∈ allW, w.before args s = true) {rm : Room} {mc ms : Nat} (hrc : rm.cells = mc) (hrs : rm.slots = ms) (hR : rm.frames + 1 ≤ R.frames ∧ 8 + (2 + 11) + rm.locals ≤ R.locals) : CallW R s args RL RX7 99 yX7_outside cX7_outside 2 (some .int) (wsM yX7_outside cX7_outside 2 (some .int)) rm mc ms 1 := cwV 1 hts (goodV wd_ml_L_99 wd_im_yX7_outside wd_se_yX7_outside wd_in_RX7 wd_co_yX7_outside) rfl hrc hrs (by decide +kernel) hR
theorem cw_L_19 (hts : ∀ w ∈ allW, w.before args s = true) {rm : Room} {mc ms : Nat} (hrc : rm.cells = mc) (hrs : rm.slots = ms) (hR : rm.frames + 1 ≤ R.frames ∧ 8 + (4 + 11) + rm.locals ≤ R.locals) : CallW R s args RL RX6 19 yX6_setPrice cX6_setPrice 4 (some .int) (wsM yX6_setPrice cX6_setPrice 4 (some .int)) rm mc ms 3 := cwV 3 hts (goodV wd_ml_L_19 wd_im_yX6_setPrice wd_se_yX6_setPrice wd_in_RX6 wd_co_yX6_setPrice) rfl hrc hrs (by decide +kernel) hR
theorem cw_X6_75 (hts : ∀ w ∈ allW, w.before args s = true) {rm : Room} {mc ms : Nat} (hrc : rm.cells = mc) (hrs : rm.slots = ms) (hR : rm.frames + 1 ≤ R.frames ∧ 8 + (5 + 11) + rm.locals ≤ R.locals) : CallW R s args RX6 RX5 75 yX5_charge cX5_charge 5 none (wsM yX5_charge cX5_charge 5 none) rm mc ms 3 := cwV 3 hts (goodV wd_ml_X6_75 wd_im_yX5_charge wd_se_yX5_charge wd_in_RX5 wd_co_yX5_charge) rfl hrc hrs (by decide +kernel) hR
theorem cw_L_103 (hts : ∀ w ∈ allW, w.before args s = true) {rm : Room} {mc ms : Nat} (hrc : rm.cells = mc) (hrs : rm.slots = ms) (hR : rm.frames + 1 ≤ R.frames ∧ 8 + (5 + 11) + rm.locals ≤ R.locals) : CallW R s args RL RX7 103 yX7_setPrice cX7_setPrice 5 (some .int) (wsM yX7_setPrice cX7_setPrice 5 (some .int)) rm mc ms 3 := cwV 3 hts (goodV wd_ml_L_103 wd_im_yX7_setPrice wd_se_yX7_setPrice wd_in_RX7 wd_co_yX7_setPrice) rfl hrc hrs (by decide +kernel) hR
theorem cw_X7_98 (hts : ∀ w ∈ allW, w.before args s = true) {rm : Room} {mc ms : Nat} (hrc : rm.cells = mc) (hrs : rm.slots = ms) (hR : rm.frames + 1 ≤ R.frames ∧ 8 + (6 + 11) + rm.locals ≤ R.locals) : CallW R s args RX7 RX7 98 yX7_lowest cX7_lowest 6 (some .int) (wsM yX7_lowest cX7_lowest 6 (some .int)) rm mc ms 0 := cwV 0 hts (goodV wd_ml_X7_98 wd_im_yX7_lowest wd_se_yX7_lowest wd_in_RX7 wd_co_yX7_lowest) rfl hrc hrs (by decide +kernel) hR
theorem cw_L_23 (hts : ∀ w ∈ allW, w.before args s = true) {rm : Room} {mc ms : Nat} (hrc : rm.cells = mc) (hrs : rm.slots = ms) (hR : rm.frames + 1 ≤ R.frames ∧ 8 + (5 + 11) + rm.locals ≤ R.locals) : CallW R s args RL RX6 23 yX6_addProduct cX6_addProduct 5 (some .int) (wsM yX6_addProduct cX6_addProduct 5 (some .int)) rm mc ms 4 := cwV 4 hts (goodV wd_ml_L_23 wd_im_yX6_addProduct wd_se_yX6_addProduct wd_in_RX6 wd_co_yX6_addProduct) rfl hrc hrs (by decide +kernel) hR
theorem cw_X6_88 (hts : ∀ w ∈ allW, w.before args s = true) {rm : Room} {mc ms : Nat} (hrc : rm.cells = mc) (hrs : rm.slots = ms) (hR : rm.frames + 1 ≤ R.frames ∧ 8 + (6 + 11) + rm.locals ≤ R.locals) : CallB R s args RX6 88 yX3_init cX3_init 6 none (wsM yX3_init cX3_init 6 none) rm mc ms 5 ∧ yX3_init.name = "<init>" ∧ (Cond.instanceMethod yX3_init).before args s = true := cwI 5 hts (goodI wd_co_yX3_init) rfl hrc hrs (hts _ wd_in_RX3) (hts _ wd_ml_X6_88) (hts _ wd_im_yX3_init) rfl (by decide +kernel) hR
theorem cw_L_107 (hts : ∀ w ∈ allW, w.before args s = true) {rm : Room} {mc ms : Nat} (hrc : rm.cells = mc) (hrs : rm.slots = ms) (hR : rm.frames + 1 ≤ R.frames ∧ 8 + (5 + 11) + rm.locals ≤ R.locals) : CallW R s args RL RX7 107 yX7_addProduct cX7_addProduct 5 (some .int) (wsM yX7_addProduct cX7_addProduct 5 (some .int)) rm mc ms 4 := cwV 4 hts (goodV wd_ml_L_107 wd_im_yX7_addProduct wd_se_yX7_addProduct wd_in_RX7 wd_co_yX7_addProduct) rfl hrc hrs (by decide +kernel) hR
theorem cw_L_29 (hts : ∀ w ∈ allW, w.before args s = true) {rm : Room} {mc ms : Nat} (hrc : rm.cells = mc) (hrs : rm.slots = ms) (hR : rm.frames + 1 ≤ R.frames ∧ 8 + (5 + 11) + rm.locals ≤ R.locals) : CallW R s args RL RX6 29 yX6_addRoom cX6_addRoom 5 (some .int) (wsM yX6_addRoom cX6_addRoom 5 (some .int)) rm mc ms 4 := cwV 4 hts (goodV wd_ml_L_29 wd_im_yX6_addRoom wd_se_yX6_addRoom wd_in_RX6 wd_co_yX6_addRoom) rfl hrc hrs (by decide +kernel) hR
theorem cw_X6_93 (hts : ∀ w ∈ allW, w.before args s = true) {rm : Room} {mc ms : Nat} (hrc : rm.cells = mc) (hrs : rm.slots = ms) (hR : rm.frames + 1 ≤ R.frames ∧ 8 + (6 + 11) + rm.locals ≤ R.locals) : CallB R s args RX6 93 yX4_init cX4_init 6 none (wsM yX4_init cX4_init 6 none) rm mc ms 5 ∧ yX4_init.name = "<init>" ∧ (Cond.instanceMethod yX4_init).before args s = true := cwI 5 hts (goodI wd_co_yX4_init) rfl hrc hrs (hts _ wd_in_RX4) (hts _ wd_ml_X6_93) (hts _ wd_im_yX4_init) rfl (by decide +kernel) hR
theorem cw_X4_40 (hts : ∀ w ∈ allW, w.before args s = true) {rm : Room} {mc ms : Nat} (hrc : rm.cells = mc) (hrs : rm.slots = ms) (hR : rm.frames + 1 ≤ R.frames ∧ 8 + (2 + 11) + rm.locals ≤ R.locals) : CallB R s args RX4 40 yX1_init cX1_init 2 none (wsM yX1_init cX1_init 2 none) rm mc ms 1 ∧ yX1_init.name = "<init>" ∧ (Cond.instanceMethod yX1_init).before args s = true := cwI 1 hts (goodI wd_co_yX1_init) rfl hrc hrs (hts _ wd_in_RX1) (hts _ wd_ml_X4_40) (hts _ wd_im_yX1_init) rfl (by decide +kernel) hR
theorem cw_L_110 (hts : ∀ w ∈ allW, w.before args s = true) {rm : Room} {mc ms : Nat} (hrc : rm.cells = mc) (hrs : rm.slots = ms) (hR : rm.frames + 1 ≤ R.frames ∧ 8 + (5 + 11) + rm.locals ≤ R.locals) : CallW R s args RL RX7 110 yX7_addRoom cX7_addRoom 5 (some .int) (wsM yX7_addRoom cX7_addRoom 5 (some .int)) rm mc ms 4 := cwV 4 hts (goodV wd_ml_L_110 wd_im_yX7_addRoom wd_se_yX7_addRoom wd_in_RX7 wd_co_yX7_addRoom) rfl hrc hrs (by decide +kernel) hR
theorem cw_X7_102 (hts : ∀ w ∈ allW, w.before args s = true) {rm : Room} {mc ms : Nat} (hrc : rm.cells = mc) (hrs : rm.slots = ms) (hR : rm.frames + 1 ≤ R.frames ∧ 8 + (1 + 11) + rm.locals ≤ R.locals) : CallB R s args RX7 102 yX7_isAim cX7_isAim 1 (some .boolean) (wsM yX7_isAim cX7_isAim 1 (some .boolean)) rm mc ms 1 ∧ (Cond.static yX7_isAim).before args s = true := cwS 1 hts (goodS wd_ml_X7_102 wd_st_yX7_isAim wd_in_RX7 wd_co_yX7_isAim) rfl hrc hrs (by decide +kernel) hR
theorem cw_L_32 (hts : ∀ w ∈ allW, w.before args s = true) {rm : Room} {mc ms : Nat} (hrc : rm.cells = mc) (hrs : rm.slots = ms) (hR : rm.frames + 1 ≤ R.frames ∧ 8 + (6 + 11) + rm.locals ≤ R.locals) : CallW R s args RL RX6 32 yX6_setRoom cX6_setRoom 6 (some .int) (wsM yX6_setRoom cX6_setRoom 6 (some .int)) rm mc ms 3 := cwV 3 hts (goodV wd_ml_L_32 wd_im_yX6_setRoom wd_se_yX6_setRoom wd_in_RX6 wd_co_yX6_setRoom) rfl hrc hrs (by decide +kernel) hR
theorem cw_X6_94 (hts : ∀ w ∈ allW, w.before args s = true) {rm : Room} {mc ms : Nat} (hrc : rm.cells = mc) (hrs : rm.slots = ms) (hR : rm.frames + 1 ≤ R.frames ∧ 8 + (3 + 11) + rm.locals ≤ R.locals) : CallW R s args RX6 RX6 94 yX6_existingRoom cX6_existingRoom 3 (some (.object "ColdStore$Room")) (wsM yX6_existingRoom cX6_existingRoom 3 (some (.object "ColdStore$Room"))) rm mc ms 1 := cwV 1 hts (goodV wd_ml_X6_94 wd_im_yX6_existingRoom wd_se_yX6_existingRoom wd_in_RX6 wd_co_yX6_existingRoom) rfl hrc hrs (by decide +kernel) hR
theorem cw_L_114 (hts : ∀ w ∈ allW, w.before args s = true) {rm : Room} {mc ms : Nat} (hrc : rm.cells = mc) (hrs : rm.slots = ms) (hR : rm.frames + 1 ≤ R.frames ∧ 8 + (5 + 11) + rm.locals ≤ R.locals) : CallW R s args RL RX7 114 yX7_setRoom cX7_setRoom 5 (some .int) (wsM yX7_setRoom cX7_setRoom 5 (some .int)) rm mc ms 3 := cwV 3 hts (goodV wd_ml_L_114 wd_im_yX7_setRoom wd_se_yX7_setRoom wd_in_RX7 wd_co_yX7_setRoom) rfl hrc hrs (by decide +kernel) hR
theorem cw_X7_106 (hts : ∀ w ∈ allW, w.before args s = true) {rm : Room} {mc ms : Nat} (hrc : rm.cells = mc) (hrs : rm.slots = ms) (hR : rm.frames + 1 ≤ R.frames ∧ 8 + (2 + 11) + rm.locals ≤ R.locals) : CallW R s args RX7 RX7 106 yX7_isRoom cX7_isRoom 2 (some .boolean) (wsM yX7_isRoom cX7_isRoom 2 (some .boolean)) rm mc ms 1 := cwV 1 hts (goodV wd_ml_X7_106 wd_im_yX7_isRoom wd_se_yX7_isRoom wd_in_RX7 wd_co_yX7_isRoom) rfl hrc hrs (by decide +kernel) hR
theorem cw_L_38 (hts : ∀ w ∈ allW, w.before args s = true) {rm : Room} {mc ms : Nat} (hrc : rm.cells = mc) (hrs : rm.slots = ms) (hR : rm.frames + 1 ≤ R.frames ∧ 8 + (3 + 11) + rm.locals ≤ R.locals) : CallW R s args RL RX6 38 yX6_defrost cX6_defrost 3 (some .int) (wsM yX6_defrost cX6_defrost 3 (some .int)) rm mc ms 1 := cwV 1 hts (goodV wd_ml_L_38 wd_im_yX6_defrost wd_se_yX6_defrost wd_in_RX6 wd_co_yX6_defrost) rfl hrc hrs (by decide +kernel) hR
theorem cw_X6_116 (hts : ∀ w ∈ allW, w.before args s = true) {rm : Room} {mc ms : Nat} (hrc : rm.cells = mc) (hrs : rm.slots = ms) (hR : rm.frames + 1 ≤ R.frames ∧ 8 + (1 + 11) + rm.locals ≤ R.locals) : CallW R s args RX6 RX1 116 yX1_beginDefrosting cX1_beginDefrosting 1 none (wsM yX1_beginDefrosting cX1_beginDefrosting 1 none) rm mc ms 0 := cwV 0 hts (goodV wd_ml_X6_116 wd_im_yX1_beginDefrosting wd_se_yX1_beginDefrosting wd_in_RX1 wd_co_yX1_beginDefrosting) rfl hrc hrs (by decide +kernel) hR
theorem cw_L_117 (hts : ∀ w ∈ allW, w.before args s = true) {rm : Room} {mc ms : Nat} (hrc : rm.cells = mc) (hrs : rm.slots = ms) (hR : rm.frames + 1 ≤ R.frames ∧ 8 + (2 + 11) + rm.locals ≤ R.locals) : CallW R s args RL RX7 117 yX7_defrost cX7_defrost 2 (some .int) (wsM yX7_defrost cX7_defrost 2 (some .int)) rm mc ms 1 := cwV 1 hts (goodV wd_ml_L_117 wd_im_yX7_defrost wd_se_yX7_defrost wd_in_RX7 wd_co_yX7_defrost) rfl hrc hrs (by decide +kernel) hR
theorem cw_L_41 (hts : ∀ w ∈ allW, w.before args s = true) {rm : Room} {mc ms : Nat} (hrc : rm.cells = mc) (hrs : rm.slots = ms) (hR : rm.frames + 1 ≤ R.frames ∧ 8 + (4 + 11) + rm.locals ≤ R.locals) : CallW R s args RL RX6 41 yX6_room cX6_room 4 (some .int) (wsM yX6_room cX6_room 4 (some .int)) rm mc ms 2 := cwV 2 hts (goodV wd_ml_L_41 wd_im_yX6_room wd_se_yX6_room wd_in_RX6 wd_co_yX6_room) rfl hrc hrs (by decide +kernel) hR
theorem cw_X6_122 (hts : ∀ w ∈ allW, w.before args s = true) {rm : Room} {mc ms : Nat} (hrc : rm.cells = mc) (hrs : rm.slots = ms) (hR : rm.frames + 1 ≤ R.frames ∧ 8 + (2 + 11) + rm.locals ≤ R.locals) : CallB R s args RX6 122 yX6_requireFact cX6_requireFact 2 none (wsM yX6_requireFact cX6_requireFact 2 none) rm mc ms 2 ∧ (Cond.static yX6_requireFact).before args s = true := cwS 2 hts (goodS wd_ml_X6_122 wd_st_yX6_requireFact wd_in_RX6 wd_co_yX6_requireFact) rfl hrc hrs (by decide +kernel) hR
theorem cw_X6_126 (hts : ∀ w ∈ allW, w.before args s = true) {rm : Room} {mc ms : Nat} (hrc : rm.cells = mc) (hrs : rm.slots = ms) (hR : rm.frames + 1 ≤ R.frames ∧ 8 + (2 + 11) + rm.locals ≤ R.locals) : CallW R s args RX6 RX4 126 yX4_fact cX4_fact 2 (some .int) (wsM yX4_fact cX4_fact 2 (some .int)) rm mc ms 1 := cwV 1 hts (goodV wd_ml_X6_126 wd_im_yX4_fact wd_se_yX4_fact wd_in_RX4 wd_co_yX4_fact) rfl hrc hrs (by decide +kernel) hR
theorem cw_X4_59 (hts : ∀ w ∈ allW, w.before args s = true) {rm : Room} {mc ms : Nat} (hrc : rm.cells = mc) (hrs : rm.slots = ms) (hR : rm.frames + 1 ≤ R.frames ∧ 8 + (6 + 11) + rm.locals ≤ R.locals) : CallW R s args RX4 RX4 59 yX4_freePlaces cX4_freePlaces 6 (some .int) (wsM yX4_freePlaces cX4_freePlaces 6 (some .int)) rm mc ms 0 := cwV 0 hts (goodV wd_ml_X4_59 wd_im_yX4_freePlaces wd_se_yX4_freePlaces wd_in_RX4 wd_co_yX4_freePlaces) rfl hrc hrs (by decide +kernel) hR
theorem cw_L_120 (hts : ∀ w ∈ allW, w.before args s = true) {rm : Room} {mc ms : Nat} (hrc : rm.cells = mc) (hrs : rm.slots = ms) (hR : rm.frames + 1 ≤ R.frames ∧ 8 + (3 + 11) + rm.locals ≤ R.locals) : CallW R s args RL RX7 120 yX7_room cX7_room 3 (some .int) (wsM yX7_room cX7_room 3 (some .int)) rm mc ms 2 := cwV 2 hts (goodV wd_ml_L_120 wd_im_yX7_room wd_se_yX7_room wd_in_RX7 wd_co_yX7_room) rfl hrc hrs (by decide +kernel) hR
theorem cw_X7_112 (hts : ∀ w ∈ allW, w.before args s = true) {rm : Room} {mc ms : Nat} (hrc : rm.cells = mc) (hrs : rm.slots = ms) (hR : rm.frames + 1 ≤ R.frames ∧ 8 + (5 + 11) + rm.locals ≤ R.locals) : CallW R s args RX7 RX7 112 yX7_toldOfRoom cX7_toldOfRoom 5 (some .int) (wsM yX7_toldOfRoom cX7_toldOfRoom 5 (some .int)) rm mc ms 2 := cwV 2 hts (goodV wd_ml_X7_112 wd_im_yX7_toldOfRoom wd_se_yX7_toldOfRoom wd_in_RX7 wd_co_yX7_toldOfRoom) rfl hrc hrs (by decide +kernel) hR
theorem cw_X7_109 (hts : ∀ w ∈ allW, w.before args s = true) {rm : Room} {mc ms : Nat} (hrc : rm.cells = mc) (hrs : rm.slots = ms) (hR : rm.frames + 1 ≤ R.frames ∧ 8 + (4 + 11) + rm.locals ≤ R.locals) : CallW R s args RX7 RX7 109 yX7_free cX7_free 4 (some .int) (wsM yX7_free cX7_free 4 (some .int)) rm mc ms 1 := cwV 1 hts (goodV wd_ml_X7_109 wd_im_yX7_free wd_se_yX7_free wd_in_RX7 wd_co_yX7_free) rfl hrc hrs (by decide +kernel) hR
theorem cw_L_44 (hts : ∀ w ∈ allW, w.before args s = true) {rm : Room} {mc ms : Nat} (hrc : rm.cells = mc) (hrs : rm.slots = ms) (hR : rm.frames + 1 ≤ R.frames ∧ 8 + (4 + 11) + rm.locals ≤ R.locals) : CallW R s args RL RX6 44 yX6_reason cX6_reason 4 (some .int) (wsM yX6_reason cX6_reason 4 (some .int)) rm mc ms 2 := cwV 2 hts (goodV wd_ml_L_44 wd_im_yX6_reason wd_se_yX6_reason wd_in_RX6 wd_co_yX6_reason) rfl hrc hrs (by decide +kernel) hR
theorem cw_X6_129 (hts : ∀ w ∈ allW, w.before args s = true) {rm : Room} {mc ms : Nat} (hrc : rm.cells = mc) (hrs : rm.slots = ms) (hR : rm.frames + 1 ≤ R.frames ∧ 8 + (3 + 11) + rm.locals ≤ R.locals) : CallW R s args RX6 RX6 129 yX6_existingProduct cX6_existingProduct 3 (some (.object "ColdStore$Product")) (wsM yX6_existingProduct cX6_existingProduct 3 (some (.object "ColdStore$Product"))) rm mc ms 1 := cwV 1 hts (goodV wd_ml_X6_129 wd_im_yX6_existingProduct wd_se_yX6_existingProduct wd_in_RX6 wd_co_yX6_existingProduct) rfl hrc hrs (by decide +kernel) hR
theorem cw_X6_133 (hts : ∀ w ∈ allW, w.before args s = true) {rm : Room} {mc ms : Nat} (hrc : rm.cells = mc) (hrs : rm.slots = ms) (hR : rm.frames + 1 ≤ R.frames ∧ 8 + (6 + 11) + rm.locals ≤ R.locals) : CallW R s args RX6 RX4 133 yX4_reasonAgainst cX4_reasonAgainst 6 (some .int) (wsM yX4_reasonAgainst cX4_reasonAgainst 6 (some .int)) rm mc ms 1 := cwV 1 hts (goodV wd_ml_X6_133 wd_im_yX4_reasonAgainst wd_se_yX4_reasonAgainst wd_in_RX4 wd_co_yX4_reasonAgainst) rfl hrc hrs (by decide +kernel) hR
theorem cw_X4_70 (hts : ∀ w ∈ allW, w.before args s = true) {rm : Room} {mc ms : Nat} (hrc : rm.cells = mc) (hrs : rm.slots = ms) (hR : rm.frames + 1 ≤ R.frames ∧ 8 + (2 + 11) + rm.locals ≤ R.locals) : CallW R s args RX4 RX3 70 yX3_goesWith cX3_goesWith 2 (some .boolean) (wsM yX3_goesWith cX3_goesWith 2 (some .boolean)) rm mc ms 1 := cwV 1 hts (goodV wd_ml_X4_70 wd_im_yX3_goesWith wd_se_yX3_goesWith wd_in_RX3 wd_co_yX3_goesWith) rfl hrc hrs (by decide +kernel) hR
theorem cw_X3_25 (hts : ∀ w ∈ allW, w.before args s = true) {rm : Room} {mc ms : Nat} (hrc : rm.cells = mc) (hrs : rm.slots = ms) (hR : rm.frames + 1 ≤ R.frames ∧ 8 + (2 + 11) + rm.locals ≤ R.locals) : CallW R s args RX3 RX3 25 yX3_disturbs cX3_disturbs 2 (some .boolean) (wsM yX3_disturbs cX3_disturbs 2 (some .boolean)) rm mc ms 1 := cwV 1 hts (goodV wd_ml_X3_25 wd_im_yX3_disturbs wd_se_yX3_disturbs wd_in_RX3 wd_co_yX3_disturbs) rfl hrc hrs (by decide +kernel) hR
theorem cw_L_123 (hts : ∀ w ∈ allW, w.before args s = true) {rm : Room} {mc ms : Nat} (hrc : rm.cells = mc) (hrs : rm.slots = ms) (hR : rm.frames + 1 ≤ R.frames ∧ 8 + (3 + 11) + rm.locals ≤ R.locals) : CallW R s args RL RX7 123 yX7_reason cX7_reason 3 (some .int) (wsM yX7_reason cX7_reason 3 (some .int)) rm mc ms 2 := cwV 2 hts (goodV wd_ml_L_123 wd_im_yX7_reason wd_se_yX7_reason wd_in_RX7 wd_co_yX7_reason) rfl hrc hrs (by decide +kernel) hR
theorem cw_X7_119 (hts : ∀ w ∈ allW, w.before args s = true) {rm : Room} {mc ms : Nat} (hrc : rm.cells = mc) (hrs : rm.slots = ms) (hR : rm.frames + 1 ≤ R.frames ∧ 8 + (2 + 11) + rm.locals ≤ R.locals) : CallW R s args RX7 RX7 119 yX7_isProduct cX7_isProduct 2 (some .boolean) (wsM yX7_isProduct cX7_isProduct 2 (some .boolean)) rm mc ms 1 := cwV 1 hts (goodV wd_ml_X7_119 wd_im_yX7_isProduct wd_se_yX7_isProduct wd_in_RX7 wd_co_yX7_isProduct) rfl hrc hrs (by decide +kernel) hR
theorem cw_X7_122 (hts : ∀ w ∈ allW, w.before args s = true) {rm : Room} {mc ms : Nat} (hrc : rm.cells = mc) (hrs : rm.slots = ms) (hR : rm.frames + 1 ≤ R.frames ∧ 8 + (4 + 11) + rm.locals ≤ R.locals) : CallW R s args RX7 RX7 122 yX7_reasonFor cX7_reasonFor 4 (some .int) (wsM yX7_reasonFor cX7_reasonFor 4 (some .int)) rm mc ms 2 := cwV 2 hts (goodV wd_ml_X7_122 wd_im_yX7_reasonFor wd_se_yX7_reasonFor wd_in_RX7 wd_co_yX7_reasonFor) rfl hrc hrs (by decide +kernel) hR
theorem cw_X7_115 (hts : ∀ w ∈ allW, w.before args s = true) {rm : Room} {mc ms : Nat} (hrc : rm.cells = mc) (hrs : rm.slots = ms) (hR : rm.frames + 1 ≤ R.frames ∧ 8 + (3 + 11) + rm.locals ≤ R.locals) : CallW R s args RX7 RX7 115 yX7_goTogether cX7_goTogether 3 (some .boolean) (wsM yX7_goTogether cX7_goTogether 3 (some .boolean)) rm mc ms 2 := cwV 2 hts (goodV wd_ml_X7_115 wd_im_yX7_goTogether wd_se_yX7_goTogether wd_in_RX7 wd_co_yX7_goTogether) rfl hrc hrs (by decide +kernel) hR
theorem cw_L_47 (hts : ∀ w ∈ allW, w.before args s = true) {rm : Room} {mc ms : Nat} (hrc : rm.cells = mc) (hrs : rm.slots = ms) (hR : rm.frames + 1 ≤ R.frames ∧ 8 + (7 + 11) + rm.locals ≤ R.locals) : CallW R s args RL RX6 47 yX6_arrive cX6_arrive 7 (some .int) (wsM yX6_arrive cX6_arrive 7 (some .int)) rm mc ms 3 := cwV 3 hts (goodV wd_ml_L_47 wd_im_yX6_arrive wd_se_yX6_arrive wd_in_RX6 wd_co_yX6_arrive) rfl hrc hrs (by decide +kernel) hR
theorem cw_X6_137 (hts : ∀ w ∈ allW, w.before args s = true) {rm : Room} {mc ms : Nat} (hrc : rm.cells = mc) (hrs : rm.slots = ms) (hR : rm.frames + 1 ≤ R.frames ∧ 8 + (2 + 11) + rm.locals ≤ R.locals) : CallW R s args RX6 RX4 137 yX4_accepts cX4_accepts 2 (some .boolean) (wsM yX4_accepts cX4_accepts 2 (some .boolean)) rm mc ms 1 := cwV 1 hts (goodV wd_ml_X6_137 wd_im_yX4_accepts wd_se_yX4_accepts wd_in_RX4 wd_co_yX4_accepts) rfl hrc hrs (by decide +kernel) hR
theorem cw_X4_76 (hts : ∀ w ∈ allW, w.before args s = true) {rm : Room} {mc ms : Nat} (hrc : rm.cells = mc) (hrs : rm.slots = ms) (hR : rm.frames + 1 ≤ R.frames ∧ 8 + (6 + 11) + rm.locals ≤ R.locals) : CallW R s args RX4 RX4 76 yX4_reasonAgainst cX4_reasonAgainst 6 (some .int) (wsM yX4_reasonAgainst cX4_reasonAgainst 6 (some .int)) rm mc ms 1 := cwV 1 hts (goodV wd_ml_X4_76 wd_im_yX4_reasonAgainst wd_se_yX4_reasonAgainst wd_in_RX4 wd_co_yX4_reasonAgainst) rfl hrc hrs (by decide +kernel) hR
theorem cw_X6_143 (hts : ∀ w ∈ allW, w.before args s = true) {rm : Room} {mc ms : Nat} (hrc : rm.cells = mc) (hrs : rm.slots = ms) (hR : rm.frames + 1 ≤ R.frames ∧ 8 + (3 + 11) + rm.locals ≤ R.locals) : CallB R s args RX6 143 yX2_init cX2_init 3 none (wsM yX2_init cX2_init 3 none) rm mc ms 2 ∧ yX2_init.name = "<init>" ∧ (Cond.instanceMethod yX2_init).before args s = true := cwI 2 hts (goodI wd_co_yX2_init) rfl hrc hrs (hts _ wd_in_RX2) (hts _ wd_ml_X6_143) (hts _ wd_im_yX2_init) rfl (by decide +kernel) hR
theorem cw_X6_146 (hts : ∀ w ∈ allW, w.before args s = true) {rm : Room} {mc ms : Nat} (hrc : rm.cells = mc) (hrs : rm.slots = ms) (hR : rm.frames + 1 ≤ R.frames ∧ 8 + (3 + 11) + rm.locals ≤ R.locals) : CallW R s args RX6 RX4 146 yX4_take cX4_take 3 none (wsM yX4_take cX4_take 3 none) rm mc ms 1 := cwV 1 hts (goodV wd_ml_X6_146 wd_im_yX4_take wd_se_yX4_take wd_in_RX4 wd_co_yX4_take) rfl hrc hrs (by decide +kernel) hR
theorem cw_L_126 (hts : ∀ w ∈ allW, w.before args s = true) {rm : Room} {mc ms : Nat} (hrc : rm.cells = mc) (hrs : rm.slots = ms) (hR : rm.frames + 1 ≤ R.frames ∧ 8 + (4 + 11) + rm.locals ≤ R.locals) : CallW R s args RL RX7 126 yX7_arrive cX7_arrive 4 (some .int) (wsM yX7_arrive cX7_arrive 4 (some .int)) rm mc ms 3 := cwV 3 hts (goodV wd_ml_L_126 wd_im_yX7_arrive wd_se_yX7_arrive wd_in_RX7 wd_co_yX7_arrive) rfl hrc hrs (by decide +kernel) hR
theorem cw_L_50 (hts : ∀ w ∈ allW, w.before args s = true) {rm : Room} {mc ms : Nat} (hrc : rm.cells = mc) (hrs : rm.slots = ms) (hR : rm.frames + 1 ≤ R.frames ∧ 8 + (6 + 11) + rm.locals ≤ R.locals) : CallW R s args RL RX6 50 yX6_move cX6_move 6 (some .int) (wsM yX6_move cX6_move 6 (some .int)) rm mc ms 2 := cwV 2 hts (goodV wd_ml_L_50 wd_im_yX6_move wd_se_yX6_move wd_in_RX6 wd_co_yX6_move) rfl hrc hrs (by decide +kernel) hR
theorem cw_X6_150 (hts : ∀ w ∈ allW, w.before args s = true) {rm : Room} {mc ms : Nat} (hrc : rm.cells = mc) (hrs : rm.slots = ms) (hR : rm.frames + 1 ≤ R.frames ∧ 8 + (3 + 11) + rm.locals ≤ R.locals) : CallW R s args RX6 RX6 150 yX6_existingPallet cX6_existingPallet 3 (some (.object "ColdStore$Pallet")) (wsM yX6_existingPallet cX6_existingPallet 3 (some (.object "ColdStore$Pallet"))) rm mc ms 1 := cwV 1 hts (goodV wd_ml_X6_150 wd_im_yX6_existingPallet wd_se_yX6_existingPallet wd_in_RX6 wd_co_yX6_existingPallet) rfl hrc hrs (by decide +kernel) hR
theorem cw_X6_164 (hts : ∀ w ∈ allW, w.before args s = true) {rm : Room} {mc ms : Nat} (hrc : rm.cells = mc) (hrs : rm.slots = ms) (hR : rm.frames + 1 ≤ R.frames ∧ 8 + (3 + 11) + rm.locals ≤ R.locals) : CallW R s args RX6 RX4 164 yX4_release cX4_release 3 none (wsM yX4_release cX4_release 3 none) rm mc ms 1 := cwV 1 hts (goodV wd_ml_X6_164 wd_im_yX4_release wd_se_yX4_release wd_in_RX4 wd_co_yX4_release) rfl hrc hrs (by decide +kernel) hR
theorem cw_L_129 (hts : ∀ w ∈ allW, w.before args s = true) {rm : Room} {mc ms : Nat} (hrc : rm.cells = mc) (hrs : rm.slots = ms) (hR : rm.frames + 1 ≤ R.frames ∧ 8 + (4 + 11) + rm.locals ≤ R.locals) : CallW R s args RL RX7 129 yX7_move cX7_move 4 (some .int) (wsM yX7_move cX7_move 4 (some .int)) rm mc ms 2 := cwV 2 hts (goodV wd_ml_L_129 wd_im_yX7_move wd_se_yX7_move wd_in_RX7 wd_co_yX7_move) rfl hrc hrs (by decide +kernel) hR
theorem cw_X7_125 (hts : ∀ w ∈ allW, w.before args s = true) {rm : Room} {mc ms : Nat} (hrc : rm.cells = mc) (hrs : rm.slots = ms) (hR : rm.frames + 1 ≤ R.frames ∧ 8 + (2 + 11) + rm.locals ≤ R.locals) : CallW R s args RX7 RX7 125 yX7_isPallet cX7_isPallet 2 (some .boolean) (wsM yX7_isPallet cX7_isPallet 2 (some .boolean)) rm mc ms 1 := cwV 1 hts (goodV wd_ml_X7_125 wd_im_yX7_isPallet wd_se_yX7_isPallet wd_in_RX7 wd_co_yX7_isPallet) rfl hrc hrs (by decide +kernel) hR
theorem cw_L_53 (hts : ∀ w ∈ allW, w.before args s = true) {rm : Room} {mc ms : Nat} (hrc : rm.cells = mc) (hrs : rm.slots = ms) (hR : rm.frames + 1 ≤ R.frames ∧ 8 + (4 + 11) + rm.locals ≤ R.locals) : CallW R s args RL RX6 53 yX6_pallet cX6_pallet 4 (some .int) (wsM yX6_pallet cX6_pallet 4 (some .int)) rm mc ms 2 := cwV 2 hts (goodV wd_ml_L_53 wd_im_yX6_pallet wd_se_yX6_pallet wd_in_RX6 wd_co_yX6_pallet) rfl hrc hrs (by decide +kernel) hR
theorem cw_X6_170 (hts : ∀ w ∈ allW, w.before args s = true) {rm : Room} {mc ms : Nat} (hrc : rm.cells = mc) (hrs : rm.slots = ms) (hR : rm.frames + 1 ≤ R.frames ∧ 8 + (2 + 11) + rm.locals ≤ R.locals) : CallW R s args RX6 RX2 170 yX2_fact cX2_fact 2 (some .int) (wsM yX2_fact cX2_fact 2 (some .int)) rm mc ms 1 := cwV 1 hts (goodV wd_ml_X6_170 wd_im_yX2_fact wd_se_yX2_fact wd_in_RX2 wd_co_yX2_fact) rfl hrc hrs (by decide +kernel) hR
theorem cw_X2_38 (hts : ∀ w ∈ allW, w.before args s = true) {rm : Room} {mc ms : Nat} (hrc : rm.cells = mc) (hrs : rm.slots = ms) (hR : rm.frames + 1 ≤ R.frames ∧ 8 + (1 + 11) + rm.locals ≤ R.locals) : CallW R s args RX2 RX2 38 yX2_left cX2_left 1 (some .int) (wsM yX2_left cX2_left 1 (some .int)) rm mc ms 0 := cwV 0 hts (goodV wd_ml_X2_38 wd_im_yX2_left wd_se_yX2_left wd_in_RX2 wd_co_yX2_left) rfl hrc hrs (by decide +kernel) hR
theorem cw_L_132 (hts : ∀ w ∈ allW, w.before args s = true) {rm : Room} {mc ms : Nat} (hrc : rm.cells = mc) (hrs : rm.slots = ms) (hR : rm.frames + 1 ≤ R.frames ∧ 8 + (3 + 11) + rm.locals ≤ R.locals) : CallW R s args RL RX7 132 yX7_pallet cX7_pallet 3 (some .int) (wsM yX7_pallet cX7_pallet 3 (some .int)) rm mc ms 2 := cwV 2 hts (goodV wd_ml_L_132 wd_im_yX7_pallet wd_se_yX7_pallet wd_in_RX7 wd_co_yX7_pallet) rfl hrc hrs (by decide +kernel) hR
theorem cw_X7_131 (hts : ∀ w ∈ allW, w.before args s = true) {rm : Room} {mc ms : Nat} (hrc : rm.cells = mc) (hrs : rm.slots = ms) (hR : rm.frames + 1 ≤ R.frames ∧ 8 + (3 + 11) + rm.locals ≤ R.locals) : CallW R s args RX7 RX7 131 yX7_toldOfPallet cX7_toldOfPallet 3 (some .int) (wsM yX7_toldOfPallet cX7_toldOfPallet 3 (some .int)) rm mc ms 2 := cwV 2 hts (goodV wd_ml_X7_131 wd_im_yX7_toldOfPallet wd_se_yX7_toldOfPallet wd_in_RX7 wd_co_yX7_toldOfPallet) rfl hrc hrs (by decide +kernel) hR
theorem cw_X7_128 (hts : ∀ w ∈ allW, w.before args s = true) {rm : Room} {mc ms : Nat} (hrc : rm.cells = mc) (hrs : rm.slots = ms) (hR : rm.frames + 1 ≤ R.frames ∧ 8 + (2 + 11) + rm.locals ≤ R.locals) : CallW R s args RX7 RX7 128 yX7_leftOf cX7_leftOf 2 (some .int) (wsM yX7_leftOf cX7_leftOf 2 (some .int)) rm mc ms 1 := cwV 1 hts (goodV wd_ml_X7_128 wd_im_yX7_leftOf wd_se_yX7_leftOf wd_in_RX7 wd_co_yX7_leftOf) rfl hrc hrs (by decide +kernel) hR
theorem cw_L_56 (hts : ∀ w ∈ allW, w.before args s = true) {rm : Room} {mc ms : Nat} (hrc : rm.cells = mc) (hrs : rm.slots = ms) (hR : rm.frames + 1 ≤ R.frames ∧ 8 + (8 + 11) + rm.locals ≤ R.locals) : CallW R s args RL RX6 56 yX6_bestRoom cX6_bestRoom 8 (some .int) (wsM yX6_bestRoom cX6_bestRoom 8 (some .int)) rm mc ms 1 := cwV 1 hts (goodV wd_ml_L_56 wd_im_yX6_bestRoom wd_se_yX6_bestRoom wd_in_RX6 wd_co_yX6_bestRoom) rfl hrc hrs (by decide +kernel) hR
theorem cw_X6_171 (hts : ∀ w ∈ allW, w.before args s = true) {rm : Room} {mc ms : Nat} (hrc : rm.cells = mc) (hrs : rm.slots = ms) (hR : rm.frames + 1 ≤ R.frames ∧ 8 + (5 + 11) + rm.locals ≤ R.locals) : CallW R s args RX6 RX4 171 yX4_isBetterFor cX4_isBetterFor 5 (some .boolean) (wsM yX4_isBetterFor cX4_isBetterFor 5 (some .boolean)) rm mc ms 2 := cwV 2 hts (goodV wd_ml_X6_171 wd_im_yX4_isBetterFor wd_se_yX4_isBetterFor wd_in_RX4 wd_co_yX4_isBetterFor) rfl hrc hrs (by decide +kernel) hR
theorem cw_X4_80 (hts : ∀ w ∈ allW, w.before args s = true) {rm : Room} {mc ms : Nat} (hrc : rm.cells = mc) (hrs : rm.slots = ms) (hR : rm.frames + 1 ≤ R.frames ∧ 8 + (2 + 11) + rm.locals ≤ R.locals) : CallW R s args RX4 RX3 80 yX3_distanceFromSuiting cX3_distanceFromSuiting 2 (some .int) (wsM yX3_distanceFromSuiting cX3_distanceFromSuiting 2 (some .int)) rm mc ms 1 := cwV 1 hts (goodV wd_ml_X4_80 wd_im_yX3_distanceFromSuiting wd_se_yX3_distanceFromSuiting wd_in_RX3 wd_co_yX3_distanceFromSuiting) rfl hrc hrs (by decide +kernel) hR
theorem cw_L_135 (hts : ∀ w ∈ allW, w.before args s = true) {rm : Room} {mc ms : Nat} (hrc : rm.cells = mc) (hrs : rm.slots = ms) (hR : rm.frames + 1 ≤ R.frames ∧ 8 + (5 + 11) + rm.locals ≤ R.locals) : CallW R s args RL RX7 135 yX7_bestRoom cX7_bestRoom 5 (some .int) (wsM yX7_bestRoom cX7_bestRoom 5 (some .int)) rm mc ms 1 := cwV 1 hts (goodV wd_ml_L_135 wd_im_yX7_bestRoom wd_se_yX7_bestRoom wd_in_RX7 wd_co_yX7_bestRoom) rfl hrc hrs (by decide +kernel) hR
theorem cw_X7_137 (hts : ∀ w ∈ allW, w.before args s = true) {rm : Room} {mc ms : Nat} (hrc : rm.cells = mc) (hrs : rm.slots = ms) (hR : rm.frames + 1 ≤ R.frames ∧ 8 + (3 + 11) + rm.locals ≤ R.locals) : CallW R s args RX7 RX7 137 yX7_off cX7_off 3 (some .int) (wsM yX7_off cX7_off 3 (some .int)) rm mc ms 2 := cwV 2 hts (goodV wd_ml_X7_137 wd_im_yX7_off wd_se_yX7_off wd_in_RX7 wd_co_yX7_off) rfl hrc hrs (by decide +kernel) hR
theorem cw_L_59 (hts : ∀ w ∈ allW, w.before args s = true) {rm : Room} {mc ms : Nat} (hrc : rm.cells = mc) (hrs : rm.slots = ms) (hR : rm.frames + 1 ≤ R.frames ∧ 8 + (7 + 11) + rm.locals ≤ R.locals) : CallW R s args RL RX6 59 yX6_ship cX6_ship 7 (some .int) (wsM yX6_ship cX6_ship 7 (some .int)) rm mc ms 3 := cwV 3 hts (goodV wd_ml_L_59 wd_im_yX6_ship wd_se_yX6_ship wd_in_RX6 wd_co_yX6_ship) rfl hrc hrs (by decide +kernel) hR
theorem cw_X6_178 (hts : ∀ w ∈ allW, w.before args s = true) {rm : Room} {mc ms : Nat} (hrc : rm.cells = mc) (hrs : rm.slots = ms) (hR : rm.frames + 1 ≤ R.frames ∧ 8 + (8 + 11) + rm.locals ≤ R.locals) : CallW R s args RX6 RX6 178 yX6_nextToShip cX6_nextToShip 8 (some (.object "ColdStore$Pallet")) (wsM yX6_nextToShip cX6_nextToShip 8 (some (.object "ColdStore$Pallet"))) rm mc ms 2 := cwV 2 hts (goodV wd_ml_X6_178 wd_im_yX6_nextToShip wd_se_yX6_nextToShip wd_in_RX6 wd_co_yX6_nextToShip) rfl hrc hrs (by decide +kernel) hR
theorem cw_X6_192 (hts : ∀ w ∈ allW, w.before args s = true) {rm : Room} {mc ms : Nat} (hrc : rm.cells = mc) (hrs : rm.slots = ms) (hR : rm.frames + 1 ≤ R.frames ∧ 8 + (2 + 11) + rm.locals ≤ R.locals) : CallW R s args RX6 RX2 192 yX2_isHereWith cX2_isHereWith 2 (some .boolean) (wsM yX2_isHereWith cX2_isHereWith 2 (some .boolean)) rm mc ms 1 := cwV 1 hts (goodV wd_ml_X6_192 wd_im_yX2_isHereWith wd_se_yX2_isHereWith wd_in_RX2 wd_co_yX2_isHereWith) rfl hrc hrs (by decide +kernel) hR
theorem cw_X2_42 (hts : ∀ w ∈ allW, w.before args s = true) {rm : Room} {mc ms : Nat} (hrc : rm.cells = mc) (hrs : rm.slots = ms) (hR : rm.frames + 1 ≤ R.frames ∧ 8 + (1 + 11) + rm.locals ≤ R.locals) : CallW R s args RX2 RX2 42 yX2_isHere cX2_isHere 1 (some .boolean) (wsM yX2_isHere cX2_isHere 1 (some .boolean)) rm mc ms 0 := cwV 0 hts (goodV wd_ml_X2_42 wd_im_yX2_isHere wd_se_yX2_isHere wd_in_RX2 wd_co_yX2_isHere) rfl hrc hrs (by decide +kernel) hR
theorem cw_X6_226 (hts : ∀ w ∈ allW, w.before args s = true) {rm : Room} {mc ms : Nat} (hrc : rm.cells = mc) (hrs : rm.slots = ms) (hR : rm.frames + 1 ≤ R.frames ∧ 8 + (1 + 11) + rm.locals ≤ R.locals) : CallW R s args RX6 RX2 226 yX2_left cX2_left 1 (some .int) (wsM yX2_left cX2_left 1 (some .int)) rm mc ms 0 := cwV 0 hts (goodV wd_ml_X6_226 wd_im_yX2_left wd_se_yX2_left wd_in_RX2 wd_co_yX2_left) rfl hrc hrs (by decide +kernel) hR
theorem cw_X6_182 (hts : ∀ w ∈ allW, w.before args s = true) {rm : Room} {mc ms : Nat} (hrc : rm.cells = mc) (hrs : rm.slots = ms) (hR : rm.frames + 1 ≤ R.frames ∧ 8 + (2 + 11) + rm.locals ≤ R.locals) : CallB R s args RX6 182 yX6_leave cX6_leave 2 none (wsM yX6_leave cX6_leave 2 none) rm mc ms 1 ∧ (Cond.static yX6_leave).before args s = true := cwS 1 hts (goodS wd_ml_X6_182 wd_st_yX6_leave wd_in_RX6 wd_co_yX6_leave) rfl hrc hrs (by decide +kernel) hR
theorem cw_L_138 (hts : ∀ w ∈ allW, w.before args s = true) {rm : Room} {mc ms : Nat} (hrc : rm.cells = mc) (hrs : rm.slots = ms) (hR : rm.frames + 1 ≤ R.frames ∧ 8 + (7 + 11) + rm.locals ≤ R.locals) : CallW R s args RL RX7 138 yX7_ship cX7_ship 7 (some .int) (wsM yX7_ship cX7_ship 7 (some .int)) rm mc ms 3 := cwV 3 hts (goodV wd_ml_L_138 wd_im_yX7_ship wd_se_yX7_ship wd_in_RX7 wd_co_yX7_ship) rfl hrc hrs (by decide +kernel) hR
theorem cw_L_139 (hts : ∀ w ∈ allW, w.before args s = true) {rm : Room} {mc ms : Nat} (hrc : rm.cells = mc) (hrs : rm.slots = ms) (hR : rm.frames + 1 ≤ R.frames ∧ 8 + (6 + 11) + rm.locals ≤ R.locals) : CallW R s args RL RX6 139 yX6_clear cX6_clear 6 (some .int) (wsM yX6_clear cX6_clear 6 (some .int)) rm mc ms 0 := cwV 0 hts (goodV wd_ml_L_139 wd_im_yX6_clear wd_se_yX6_clear wd_in_RX6 wd_co_yX6_clear) rfl hrc hrs (by decide +kernel) hR
theorem cw_X6_185 (hts : ∀ w ∈ allW, w.before args s = true) {rm : Room} {mc ms : Nat} (hrc : rm.cells = mc) (hrs : rm.slots = ms) (hR : rm.frames + 1 ≤ R.frames ∧ 8 + (1 + 11) + rm.locals ≤ R.locals) : CallW R s args RX6 RX2 185 yX2_isHere cX2_isHere 1 (some .boolean) (wsM yX2_isHere cX2_isHere 1 (some .boolean)) rm mc ms 0 := cwV 0 hts (goodV wd_ml_X6_185 wd_im_yX2_isHere wd_se_yX2_isHere wd_in_RX2 wd_co_yX2_isHere) rfl hrc hrs (by decide +kernel) hR
theorem cw_X6_189 (hts : ∀ w ∈ allW, w.before args s = true) {rm : Room} {mc ms : Nat} (hrc : rm.cells = mc) (hrs : rm.slots = ms) (hR : rm.frames + 1 ≤ R.frames ∧ 8 + (1 + 11) + rm.locals ≤ R.locals) : CallW R s args RX6 RX2 189 yX2_isSpoiled cX2_isSpoiled 1 (some .boolean) (wsM yX2_isSpoiled cX2_isSpoiled 1 (some .boolean)) rm mc ms 0 := cwV 0 hts (goodV wd_ml_X6_189 wd_im_yX2_isSpoiled wd_se_yX2_isSpoiled wd_in_RX2 wd_co_yX2_isSpoiled) rfl hrc hrs (by decide +kernel) hR
theorem cw_L_142 (hts : ∀ w ∈ allW, w.before args s = true) {rm : Room} {mc ms : Nat} (hrc : rm.cells = mc) (hrs : rm.slots = ms) (hR : rm.frames + 1 ≤ R.frames ∧ 8 + (3 + 11) + rm.locals ≤ R.locals) : CallW R s args RL RX7 142 yX7_clear cX7_clear 3 (some .int) (wsM yX7_clear cX7_clear 3 (some .int)) rm mc ms 0 := cwV 0 hts (goodV wd_ml_L_142 wd_im_yX7_clear wd_se_yX7_clear wd_in_RX7 wd_co_yX7_clear) rfl hrc hrs (by decide +kernel) hR
theorem cw_X7_143 (hts : ∀ w ∈ allW, w.before args s = true) {rm : Room} {mc ms : Nat} (hrc : rm.cells = mc) (hrs : rm.slots = ms) (hR : rm.frames + 1 ≤ R.frames ∧ 8 + (5 + 11) + rm.locals ≤ R.locals) : CallW R s args RX7 RX7 143 yX7_there cX7_there 5 (some .int) (wsM yX7_there cX7_there 5 (some .int)) rm mc ms 2 := cwV 2 hts (goodV wd_ml_X7_143 wd_im_yX7_there wd_se_yX7_there wd_in_RX7 wd_co_yX7_there) rfl hrc hrs (by decide +kernel) hR
theorem cw_L_62 (hts : ∀ w ∈ allW, w.before args s = true) {rm : Room} {mc ms : Nat} (hrc : rm.cells = mc) (hrs : rm.slots = ms) (hR : rm.frames + 1 ≤ R.frames ∧ 8 + (9 + 11) + rm.locals ≤ R.locals) : CallW R s args RL RX6 62 yX6_stock cX6_stock 9 (some .int) (wsM yX6_stock cX6_stock 9 (some .int)) rm mc ms 2 := cwV 2 hts (goodV wd_ml_L_62 wd_im_yX6_stock wd_se_yX6_stock wd_in_RX6 wd_co_yX6_stock) rfl hrc hrs (by decide +kernel) hR
theorem cw_L_146 (hts : ∀ w ∈ allW, w.before args s = true) {rm : Room} {mc ms : Nat} (hrc : rm.cells = mc) (hrs : rm.slots = ms) (hR : rm.frames + 1 ≤ R.frames ∧ 8 + (3 + 11) + rm.locals ≤ R.locals) : CallW R s args RL RX7 146 yX7_stock cX7_stock 3 (some .int) (wsM yX7_stock cX7_stock 3 (some .int)) rm mc ms 2 := cwV 2 hts (goodV wd_ml_L_146 wd_im_yX7_stock wd_se_yX7_stock wd_in_RX7 wd_co_yX7_stock) rfl hrc hrs (by decide +kernel) hR
theorem cw_L_66 (hts : ∀ w ∈ allW, w.before args s = true) {rm : Room} {mc ms : Nat} (hrc : rm.cells = mc) (hrs : rm.slots = ms) (hR : rm.frames + 1 ≤ R.frames ∧ 8 + (2 + 11) + rm.locals ≤ R.locals) : CallW R s args RL RX6 66 yX6_count cX6_count 2 (some .int) (wsM yX6_count cX6_count 2 (some .int)) rm mc ms 1 := cwV 1 hts (goodV wd_ml_L_66 wd_im_yX6_count wd_se_yX6_count wd_in_RX6 wd_co_yX6_count) rfl hrc hrs (by decide +kernel) hR
theorem cw_X6_195 (hts : ∀ w ∈ allW, w.before args s = true) {rm : Room} {mc ms : Nat} (hrc : rm.cells = mc) (hrs : rm.slots = ms) (hR : rm.frames + 1 ≤ R.frames ∧ 8 + (2 + 11) + rm.locals ≤ R.locals) : CallW R s args RX6 RX6 195 yX6_countOf cX6_countOf 2 (some .int) (wsM yX6_countOf cX6_countOf 2 (some .int)) rm mc ms 1 := cwV 1 hts (goodV wd_ml_X6_195 wd_im_yX6_countOf wd_se_yX6_countOf wd_in_RX6 wd_co_yX6_countOf) rfl hrc hrs (by decide +kernel) hR
theorem cw_X6_258 (hts : ∀ w ∈ allW, w.before args s = true) {rm : Room} {mc ms : Nat} (hrc : rm.cells = mc) (hrs : rm.slots = ms) (hR : rm.frames + 1 ≤ R.frames ∧ 8 + (6 + 11) + rm.locals ≤ R.locals) : CallW R s args RX6 RX6 258 yX6_palletsHere cX6_palletsHere 6 (some .int) (wsM yX6_palletsHere cX6_palletsHere 6 (some .int)) rm mc ms 0 := cwV 0 hts (goodV wd_ml_X6_258 wd_im_yX6_palletsHere wd_se_yX6_palletsHere wd_in_RX6 wd_co_yX6_palletsHere) rfl hrc hrs (by decide +kernel) hR
theorem cw_L_149 (hts : ∀ w ∈ allW, w.before args s = true) {rm : Room} {mc ms : Nat} (hrc : rm.cells = mc) (hrs : rm.slots = ms) (hR : rm.frames + 1 ≤ R.frames ∧ 8 + (2 + 11) + rm.locals ≤ R.locals) : CallW R s args RL RX7 149 yX7_count cX7_count 2 (some .int) (wsM yX7_count cX7_count 2 (some .int)) rm mc ms 1 := cwV 1 hts (goodV wd_ml_L_149 wd_im_yX7_count wd_se_yX7_count wd_in_RX7 wd_co_yX7_count) rfl hrc hrs (by decide +kernel) hR
theorem cw_X7_147 (hts : ∀ w ∈ allW, w.before args s = true) {rm : Room} {mc ms : Nat} (hrc : rm.cells = mc) (hrs : rm.slots = ms) (hR : rm.frames + 1 ≤ R.frames ∧ 8 + (2 + 11) + rm.locals ≤ R.locals) : CallW R s args RX7 RX7 147 yX7_counted cX7_counted 2 (some .int) (wsM yX7_counted cX7_counted 2 (some .int)) rm mc ms 1 := cwV 1 hts (goodV wd_ml_X7_147 wd_im_yX7_counted wd_se_yX7_counted wd_in_RX7 wd_co_yX7_counted) rfl hrc hrs (by decide +kernel) hR
theorem cw_L_69 (hts : ∀ w ∈ allW, w.before args s = true) {rm : Room} {mc ms : Nat} (hrc : rm.cells = mc) (hrs : rm.slots = ms) (hR : rm.frames + 1 ≤ R.frames ∧ 8 + (4 + 11) + rm.locals ≤ R.locals) : CallW R s args RL RX6 69 yX6_tick cX6_tick 4 (some .int) (wsM yX6_tick cX6_tick 4 (some .int)) rm mc ms 1 := cwV 1 hts (goodV wd_ml_L_69 wd_im_yX6_tick wd_se_yX6_tick wd_in_RX6 wd_co_yX6_tick) rfl hrc hrs (by decide +kernel) hR
theorem cw_X6_204 (hts : ∀ w ∈ allW, w.before args s = true) {rm : Room} {mc ms : Nat} (hrc : rm.cells = mc) (hrs : rm.slots = ms) (hR : rm.frames + 1 ≤ R.frames ∧ 8 + (6 + 11) + rm.locals ≤ R.locals) : CallW R s args RX6 RX6 204 yX6_spoiledHere cX6_spoiledHere 6 (some .int) (wsM yX6_spoiledHere cX6_spoiledHere 6 (some .int)) rm mc ms 0 := cwV 0 hts (goodV wd_ml_X6_204 wd_im_yX6_spoiledHere wd_se_yX6_spoiledHere wd_in_RX6 wd_co_yX6_spoiledHere) rfl hrc hrs (by decide +kernel) hR
theorem cw_X6_208 (hts : ∀ w ∈ allW, w.before args s = true) {rm : Room} {mc ms : Nat} (hrc : rm.cells = mc) (hrs : rm.slots = ms) (hR : rm.frames + 1 ≤ R.frames ∧ 8 + (6 + 11) + rm.locals ≤ R.locals) : CallW R s args RX6 RX6 208 yX6_passHourEverywhere cX6_passHourEverywhere 6 none (wsM yX6_passHourEverywhere cX6_passHourEverywhere 6 none) rm mc ms 0 := cwV 0 hts (goodV wd_ml_X6_208 wd_im_yX6_passHourEverywhere wd_se_yX6_passHourEverywhere wd_in_RX6 wd_co_yX6_passHourEverywhere) rfl hrc hrs (by decide +kernel) hR
theorem cw_X6_261 (hts : ∀ w ∈ allW, w.before args s = true) {rm : Room} {mc ms : Nat} (hrc : rm.cells = mc) (hrs : rm.slots = ms) (hR : rm.frames + 1 ≤ R.frames ∧ 8 + (2 + 11) + rm.locals ≤ R.locals) : CallW R s args RX6 RX5 261 yX5_priceAt cX5_priceAt 2 (some .int) (wsM yX5_priceAt cX5_priceAt 2 (some .int)) rm mc ms 1 := cwV 1 hts (goodV wd_ml_X6_261 wd_im_yX5_priceAt wd_se_yX5_priceAt wd_in_RX5 wd_co_yX5_priceAt) rfl hrc hrs (by decide +kernel) hR
theorem cw_X5_25 (hts : ∀ w ∈ allW, w.before args s = true) {rm : Room} {mc ms : Nat} (hrc : rm.cells = mc) (hrs : rm.slots = ms) (hR : rm.frames + 1 ≤ R.frames ∧ 8 + (3 + 11) + rm.locals ≤ R.locals) : CallB R s args RX5 25 yJ9_floorMod_7cf53 cJ9_floorMod_7cf53 3 (some .int) (wsM yJ9_floorMod_7cf53 cJ9_floorMod_7cf53 3 (some .int)) rm mc ms 2 ∧ (Cond.static yJ9_floorMod_7cf53).before args s = true := ⟨callB_of 2 hts (goodI wd_co_yJ9_floorMod_7cf53) rfl hrc hrs (hts _ wd_in_RJ9) (hts _ wd_ml_X5_25) (by decide +kernel) hR, hts _ wd_st_yJ9_floorMod_7cf53⟩
theorem cw_X6_214 (hts : ∀ w ∈ allW, w.before args s = true) {rm : Room} {mc ms : Nat} (hrc : rm.cells = mc) (hrs : rm.slots = ms) (hR : rm.frames + 1 ≤ R.frames ∧ 8 + (3 + 11) + rm.locals ≤ R.locals) : CallW R s args RX6 RX6 214 yX6_passHourIn cX6_passHourIn 3 (some .int) (wsM yX6_passHourIn cX6_passHourIn 3 (some .int)) rm mc ms 2 := cwV 2 hts (goodV wd_ml_X6_214 wd_im_yX6_passHourIn wd_se_yX6_passHourIn wd_in_RX6 wd_co_yX6_passHourIn) rfl hrc hrs (by decide +kernel) hR
theorem cw_X6_264 (hts : ∀ w ∈ allW, w.before args s = true) {rm : Room} {mc ms : Nat} (hrc : rm.cells = mc) (hrs : rm.slots = ms) (hR : rm.frames + 1 ≤ R.frames ∧ 8 + (2 + 11) + rm.locals ≤ R.locals) : CallW R s args RX6 RX5 264 yX5_isLowestAt cX5_isLowestAt 2 (some .boolean) (wsM yX5_isLowestAt cX5_isLowestAt 2 (some .boolean)) rm mc ms 1 := cwV 1 hts (goodV wd_ml_X6_264 wd_im_yX5_isLowestAt wd_se_yX5_isLowestAt wd_in_RX5 wd_co_yX5_isLowestAt) rfl hrc hrs (by decide +kernel) hR
theorem cw_X5_28 (hts : ∀ w ∈ allW, w.before args s = true) {rm : Room} {mc ms : Nat} (hrc : rm.cells = mc) (hrs : rm.slots = ms) (hR : rm.frames + 1 ≤ R.frames ∧ 8 + (2 + 11) + rm.locals ≤ R.locals) : CallW R s args RX5 RX5 28 yX5_priceAt cX5_priceAt 2 (some .int) (wsM yX5_priceAt cX5_priceAt 2 (some .int)) rm mc ms 1 := cwV 1 hts (goodV wd_ml_X5_28 wd_im_yX5_priceAt wd_se_yX5_priceAt wd_in_RX5 wd_co_yX5_priceAt) rfl hrc hrs (by decide +kernel) hR
theorem cw_X6_268 (hts : ∀ w ∈ allW, w.before args s = true) {rm : Room} {mc ms : Nat} (hrc : rm.cells = mc) (hrs : rm.slots = ms) (hR : rm.frames + 1 ≤ R.frames ∧ 8 + (10 + 11) + rm.locals ≤ R.locals) : CallW R s args RX6 RX4 268 yX4_passHour cX4_passHour 10 (some .int) (wsM yX4_passHour cX4_passHour 10 (some .int)) rm mc ms 2 := cwV 2 hts (goodV wd_ml_X6_268 wd_im_yX4_passHour wd_se_yX4_passHour wd_in_RX4 wd_co_yX4_passHour) rfl hrc hrs (by decide +kernel) hR
theorem cw_X4_88 (hts : ∀ w ∈ allW, w.before args s = true) {rm : Room} {mc ms : Nat} (hrc : rm.cells = mc) (hrs : rm.slots = ms) (hR : rm.frames + 1 ≤ R.frames ∧ 8 + (3 + 11) + rm.locals ≤ R.locals) : CallW R s args RX4 RX1 88 yX1_beginHour cX1_beginHour 3 none (wsM yX1_beginHour cX1_beginHour 3 none) rm mc ms 2 := cwV 2 hts (goodV wd_ml_X4_88 wd_im_yX1_beginHour wd_se_yX1_beginHour wd_in_RX1 wd_co_yX1_beginHour) rfl hrc hrs (by decide +kernel) hR
theorem cw_X1_25 (hts : ∀ w ∈ allW, w.before args s = true) {rm : Room} {mc ms : Nat} (hrc : rm.cells = mc) (hrs : rm.slots = ms) (hR : rm.frames + 1 ≤ R.frames ∧ 8 + (1 + 11) + rm.locals ≤ R.locals) : CallW R s args RX1 RX1 25 yX1_defrostOneHour cX1_defrostOneHour 1 none (wsM yX1_defrostOneHour cX1_defrostOneHour 1 none) rm mc ms 0 := cwV 0 hts (goodV wd_ml_X1_25 wd_im_yX1_defrostOneHour wd_se_yX1_defrostOneHour wd_in_RX1 wd_co_yX1_defrostOneHour) rfl hrc hrs (by decide +kernel) hR
theorem cw_X4_92 (hts : ∀ w ∈ allW, w.before args s = true) {rm : Room} {mc ms : Nat} (hrc : rm.cells = mc) (hrs : rm.slots = ms) (hR : rm.frames + 1 ≤ R.frames ∧ 8 + (6 + 11) + rm.locals ≤ R.locals) : CallW R s args RX4 RX4 92 yX4_warmthOfPallets cX4_warmthOfPallets 6 (some .int) (wsM yX4_warmthOfPallets cX4_warmthOfPallets 6 (some .int)) rm mc ms 0 := cwV 0 hts (goodV wd_ml_X4_92 wd_im_yX4_warmthOfPallets wd_se_yX4_warmthOfPallets wd_in_RX4 wd_co_yX4_warmthOfPallets) rfl hrc hrs (by decide +kernel) hR
theorem cw_X4_95 (hts : ∀ w ∈ allW, w.before args s = true) {rm : Room} {mc ms : Nat} (hrc : rm.cells = mc) (hrs : rm.slots = ms) (hR : rm.frames + 1 ≤ R.frames ∧ 8 + (1 + 11) + rm.locals ≤ R.locals) : CallW R s args RX4 RX1 95 yX1_warmthOfHour cX1_warmthOfHour 1 (some .int) (wsM yX1_warmthOfHour cX1_warmthOfHour 1 (some .int)) rm mc ms 0 := cwV 0 hts (goodV wd_ml_X4_95 wd_im_yX1_warmthOfHour wd_se_yX1_warmthOfHour wd_in_RX1 wd_co_yX1_warmthOfHour) rfl hrc hrs (by decide +kernel) hR
theorem cw_X4_98 (hts : ∀ w ∈ allW, w.before args s = true) {rm : Room} {mc ms : Nat} (hrc : rm.cells = mc) (hrs : rm.slots = ms) (hR : rm.frames + 1 ≤ R.frames ∧ 8 + (1 + 11) + rm.locals ≤ R.locals) : CallW R s args RX4 RX1 98 yX1_useEnergy cX1_useEnergy 1 (some .int) (wsM yX1_useEnergy cX1_useEnergy 1 (some .int)) rm mc ms 0 := cwV 0 hts (goodV wd_ml_X4_98 wd_im_yX1_useEnergy wd_se_yX1_useEnergy wd_in_RX1 wd_co_yX1_useEnergy) rfl hrc hrs (by decide +kernel) hR
theorem cw_X4_101 (hts : ∀ w ∈ allW, w.before args s = true) {rm : Room} {mc ms : Nat} (hrc : rm.cells = mc) (hrs : rm.slots = ms) (hR : rm.frames + 1 ≤ R.frames ∧ 8 + (2 + 11) + rm.locals ≤ R.locals) : CallW R s args RX4 RX2 101 yX2_adaptTo cX2_adaptTo 2 none (wsM yX2_adaptTo cX2_adaptTo 2 none) rm mc ms 1 := cwV 1 hts (goodV wd_ml_X4_101 wd_im_yX2_adaptTo wd_se_yX2_adaptTo wd_in_RX2 wd_co_yX2_adaptTo) rfl hrc hrs (by decide +kernel) hR
theorem cw_X2_49 (hts : ∀ w ∈ allW, w.before args s = true) {rm : Room} {mc ms : Nat} (hrc : rm.cells = mc) (hrs : rm.slots = ms) (hR : rm.frames + 1 ≤ R.frames ∧ 8 + (2 + 11) + rm.locals ≤ R.locals) : CallW R s args RX2 RX3 49 yX3_distanceFromSuiting cX3_distanceFromSuiting 2 (some .int) (wsM yX3_distanceFromSuiting cX3_distanceFromSuiting 2 (some .int)) rm mc ms 1 := cwV 1 hts (goodV wd_ml_X2_49 wd_im_yX3_distanceFromSuiting wd_se_yX3_distanceFromSuiting wd_in_RX3 wd_co_yX3_distanceFromSuiting) rfl hrc hrs (by decide +kernel) hR
theorem cw_L_152 (hts : ∀ w ∈ allW, w.before args s = true) {rm : Room} {mc ms : Nat} (hrc : rm.cells = mc) (hrs : rm.slots = ms) (hR : rm.frames + 1 ≤ R.frames ∧ 8 + (5 + 11) + rm.locals ≤ R.locals) : CallW R s args RL RX7 152 yX7_tick cX7_tick 5 (some .int) (wsM yX7_tick cX7_tick 5 (some .int)) rm mc ms 1 := cwV 1 hts (goodV wd_ml_L_152 wd_im_yX7_tick wd_se_yX7_tick wd_in_RX7 wd_co_yX7_tick) rfl hrc hrs (by decide +kernel) hR
theorem cw_X7_158 (hts : ∀ w ∈ allW, w.before args s = true) {rm : Room} {mc ms : Nat} (hrc : rm.cells = mc) (hrs : rm.slots = ms) (hR : rm.frames + 1 ≤ R.frames ∧ 8 + (7 + 11) + rm.locals ≤ R.locals) : CallW R s args RX7 RX7 158 yX7_hour cX7_hour 7 none (wsM yX7_hour cX7_hour 7 none) rm mc ms 2 := cwV 2 hts (goodV wd_ml_X7_158 wd_im_yX7_hour wd_se_yX7_hour wd_in_RX7 wd_co_yX7_hour) rfl hrc hrs (by decide +kernel) hR
theorem cw_X7_150 (hts : ∀ w ∈ allW, w.before args s = true) {rm : Room} {mc ms : Nat} (hrc : rm.cells = mc) (hrs : rm.slots = ms) (hR : rm.frames + 1 ≤ R.frames ∧ 8 + (6 + 11) + rm.locals ≤ R.locals) : CallW R s args RX7 RX7 150 yX7_setMachine cX7_setMachine 6 none (wsM yX7_setMachine cX7_setMachine 6 none) rm mc ms 2 := cwV 2 hts (goodV wd_ml_X7_150 wd_im_yX7_setMachine wd_se_yX7_setMachine wd_in_RX7 wd_co_yX7_setMachine) rfl hrc hrs (by decide +kernel) hR
theorem cw_L_72 (hts : ∀ w ∈ allW, w.before args s = true) {rm : Room} {mc ms : Nat} (hrc : rm.cells = mc) (hrs : rm.slots = ms) (hR : rm.frames + 1 ≤ R.frames ∧ 8 + (5 + 11) + rm.locals ≤ R.locals) : CallW R s args RL RX6 72 yX6_foretell cX6_foretell 5 (some .int) (wsM yX6_foretell cX6_foretell 5 (some .int)) rm mc ms 2 := cwV 2 hts (goodV wd_ml_L_72 wd_im_yX6_foretell wd_se_yX6_foretell wd_in_RX6 wd_co_yX6_foretell) rfl hrc hrs (by decide +kernel) hR
theorem cw_X6_211 (hts : ∀ w ∈ allW, w.before args s = true) {rm : Room} {mc ms : Nat} (hrc : rm.cells = mc) (hrs : rm.slots = ms) (hR : rm.frames + 1 ≤ R.frames ∧ 8 + (5 + 11) + rm.locals ≤ R.locals) : CallW R s args RX6 RX4 211 yX4_remember cX4_remember 5 none (wsM yX4_remember cX4_remember 5 none) rm mc ms 0 := cwV 0 hts (goodV wd_ml_X6_211 wd_im_yX4_remember wd_se_yX4_remember wd_in_RX4 wd_co_yX4_remember) rfl hrc hrs (by decide +kernel) hR
theorem cw_X4_105 (hts : ∀ w ∈ allW, w.before args s = true) {rm : Room} {mc ms : Nat} (hrc : rm.cells = mc) (hrs : rm.slots = ms) (hR : rm.frames + 1 ≤ R.frames ∧ 8 + (2 + 11) + rm.locals ≤ R.locals) : CallW R s args RX4 RX1 105 yX1_imitate cX1_imitate 2 none (wsM yX1_imitate cX1_imitate 2 none) rm mc ms 1 := cwV 1 hts (goodV wd_ml_X4_105 wd_im_yX1_imitate wd_se_yX1_imitate wd_in_RX1 wd_co_yX1_imitate) rfl hrc hrs (by decide +kernel) hR
theorem cw_X4_109 (hts : ∀ w ∈ allW, w.before args s = true) {rm : Room} {mc ms : Nat} (hrc : rm.cells = mc) (hrs : rm.slots = ms) (hR : rm.frames + 1 ≤ R.frames ∧ 8 + (1 + 11) + rm.locals ≤ R.locals) : CallW R s args RX4 RX2 109 yX2_remember cX2_remember 1 none (wsM yX2_remember cX2_remember 1 none) rm mc ms 0 := cwV 0 hts (goodV wd_ml_X4_109 wd_im_yX2_remember wd_se_yX2_remember wd_in_RX2 wd_co_yX2_remember) rfl hrc hrs (by decide +kernel) hR
theorem cw_X6_221 (hts : ∀ w ∈ allW, w.before args s = true) {rm : Room} {mc ms : Nat} (hrc : rm.cells = mc) (hrs : rm.slots = ms) (hR : rm.frames + 1 ≤ R.frames ∧ 8 + (5 + 11) + rm.locals ≤ R.locals) : CallW R s args RX6 RX4 221 yX4_recall cX4_recall 5 none (wsM yX4_recall cX4_recall 5 none) rm mc ms 0 := cwV 0 hts (goodV wd_ml_X6_221 wd_im_yX4_recall wd_se_yX4_recall wd_in_RX4 wd_co_yX4_recall) rfl hrc hrs (by decide +kernel) hR
theorem cw_X4_112 (hts : ∀ w ∈ allW, w.before args s = true) {rm : Room} {mc ms : Nat} (hrc : rm.cells = mc) (hrs : rm.slots = ms) (hR : rm.frames + 1 ≤ R.frames ∧ 8 + (1 + 11) + rm.locals ≤ R.locals) : CallW R s args RX4 RX2 112 yX2_recall cX2_recall 1 none (wsM yX2_recall cX2_recall 1 none) rm mc ms 0 := cwV 0 hts (goodV wd_ml_X4_112 wd_im_yX2_recall wd_se_yX2_recall wd_in_RX2 wd_co_yX2_recall) rfl hrc hrs (by decide +kernel) hR
theorem cw_L_155 (hts : ∀ w ∈ allW, w.before args s = true) {rm : Room} {mc ms : Nat} (hrc : rm.cells = mc) (hrs : rm.slots = ms) (hR : rm.frames + 1 ≤ R.frames ∧ 8 + (3 + 11) + rm.locals ≤ R.locals) : CallW R s args RL RX7 155 yX7_foretell cX7_foretell 3 (some .int) (wsM yX7_foretell cX7_foretell 3 (some .int)) rm mc ms 2 := cwV 2 hts (goodV wd_ml_L_155 wd_im_yX7_foretell wd_se_yX7_foretell wd_in_RX7 wd_co_yX7_foretell) rfl hrc hrs (by decide +kernel) hR
theorem cw_X7_172 (hts : ∀ w ∈ allW, w.before args s = true) {rm : Room} {mc ms : Nat} (hrc : rm.cells = mc) (hrs : rm.slots = ms) (hR : rm.frames + 1 ≤ R.frames ∧ 8 + (11 + 11) + rm.locals ≤ R.locals) : CallW R s args RX7 RX7 172 yX7_ahead cX7_ahead 11 (some (.array .int)) (wsM yX7_ahead cX7_ahead 11 (some (.array .int))) rm mc ms 3 := cwV 3 hts (goodV wd_ml_X7_172 wd_im_yX7_ahead wd_se_yX7_ahead wd_in_RX7 wd_co_yX7_ahead) rfl hrc hrs (by decide +kernel) hR
theorem cw_L_75 (hts : ∀ w ∈ allW, w.before args s = true) {rm : Room} {mc ms : Nat} (hrc : rm.cells = mc) (hrs : rm.slots = ms) (hR : rm.frames + 1 ≤ R.frames ∧ 8 + (5 + 11) + rm.locals ≤ R.locals) : CallW R s args RL RX6 75 yX6_lasts cX6_lasts 5 (some .int) (wsM yX6_lasts cX6_lasts 5 (some .int)) rm mc ms 1 := cwV 1 hts (goodV wd_ml_L_75 wd_im_yX6_lasts wd_se_yX6_lasts wd_in_RX6 wd_co_yX6_lasts) rfl hrc hrs (by decide +kernel) hR
theorem cw_L_158 (hts : ∀ w ∈ allW, w.before args s = true) {rm : Room} {mc ms : Nat} (hrc : rm.cells = mc) (hrs : rm.slots = ms) (hR : rm.frames + 1 ≤ R.frames ∧ 8 + (2 + 11) + rm.locals ≤ R.locals) : CallW R s args RL RX7 158 yX7_lasts cX7_lasts 2 (some .int) (wsM yX7_lasts cX7_lasts 2 (some .int)) rm mc ms 1 := cwV 1 hts (goodV wd_ml_L_158 wd_im_yX7_lasts wd_se_yX7_lasts wd_in_RX7 wd_co_yX7_lasts) rfl hrc hrs (by decide +kernel) hR
theorem cw_L_159 (hts : ∀ w ∈ allW, w.before args s = true) {rm : Room} {mc ms : Nat} (hrc : rm.cells = mc) (hrs : rm.slots = ms) (hR : rm.frames + 1 ≤ R.frames ∧ 8 + (1 + 11) + rm.locals ≤ R.locals) : CallW R s args RL RX6 159 yX6_now cX6_now 1 (some .int) (wsM yX6_now cX6_now 1 (some .int)) rm mc ms 0 := cwV 0 hts (goodV wd_ml_L_159 wd_im_yX6_now wd_se_yX6_now wd_in_RX6 wd_co_yX6_now) rfl hrc hrs (by decide +kernel) hR
theorem cw_L_162 (hts : ∀ w ∈ allW, w.before args s = true) {rm : Room} {mc ms : Nat} (hrc : rm.cells = mc) (hrs : rm.slots = ms) (hR : rm.frames + 1 ≤ R.frames ∧ 8 + (1 + 11) + rm.locals ≤ R.locals) : CallW R s args RL RX7 162 yX7_now cX7_now 1 (some .int) (wsM yX7_now cX7_now 1 (some .int)) rm mc ms 0 := cwV 0 hts (goodV wd_ml_L_162 wd_im_yX7_now wd_se_yX7_now wd_in_RX7 wd_co_yX7_now) rfl hrc hrs (by decide +kernel) hR
theorem cw_L_163 (hts : ∀ w ∈ allW, w.before args s = true) {rm : Room} {mc ms : Nat} (hrc : rm.cells = mc) (hrs : rm.slots = ms) (hR : rm.frames + 1 ≤ R.frames ∧ 8 + (1 + 11) + rm.locals ≤ R.locals) : CallW R s args RL RX6 163 yX6_paid cX6_paid 1 (some .long) (wsM yX6_paid cX6_paid 1 (some .long)) rm mc ms 0 := cwV 0 hts (goodV wd_ml_L_163 wd_im_yX6_paid wd_se_yX6_paid wd_in_RX6 wd_co_yX6_paid) rfl hrc hrs (by decide +kernel) hR
theorem cw_L_167 (hts : ∀ w ∈ allW, w.before args s = true) {rm : Room} {mc ms : Nat} (hrc : rm.cells = mc) (hrs : rm.slots = ms) (hR : rm.frames + 1 ≤ R.frames ∧ 8 + (1 + 11) + rm.locals ≤ R.locals) : CallW R s args RL RX7 167 yX7_paid cX7_paid 1 (some .long) (wsM yX7_paid cX7_paid 1 (some .long)) rm mc ms 0 := cwV 0 hts (goodV wd_ml_L_167 wd_im_yX7_paid wd_se_yX7_paid wd_in_RX7 wd_co_yX7_paid) rfl hrc hrs (by decide +kernel) hR
theorem cw_L_78 (hts : ∀ w ∈ allW, w.before args s = true) {rm : Room} {mc ms : Nat} (hrc : rm.cells = mc) (hrs : rm.slots = ms) (hR : rm.frames + 1 ≤ R.frames ∧ 8 + (10 + 11) + rm.locals ≤ R.locals) : CallW R s args RL RX6 78 yX6_freshness cX6_freshness 10 (some .double) (wsM yX6_freshness cX6_freshness 10 (some .double)) rm mc ms 1 := cwV 1 hts (goodV wd_ml_L_78 wd_im_yX6_freshness wd_se_yX6_freshness wd_in_RX6 wd_co_yX6_freshness) rfl hrc hrs (by decide +kernel) hR
theorem cw_L_171 (hts : ∀ w ∈ allW, w.before args s = true) {rm : Room} {mc ms : Nat} (hrc : rm.cells = mc) (hrs : rm.slots = ms) (hR : rm.frames + 1 ≤ R.frames ∧ 8 + (5 + 11) + rm.locals ≤ R.locals) : CallW R s args RL RX7 171 yX7_freshness cX7_freshness 5 (some .double) (wsM yX7_freshness cX7_freshness 5 (some .double)) rm mc ms 1 := cwV 1 hts (goodV wd_ml_L_171 wd_im_yX7_freshness wd_se_yX7_freshness wd_in_RX7 wd_co_yX7_freshness) rfl hrc hrs (by decide +kernel) hR
theorem cw_L_172 (hts : ∀ w ∈ allW, w.before args s = true) {rm : Room} {mc ms : Nat} (hrc : rm.cells = mc) (hrs : rm.slots = ms) (hR : rm.frames + 1 ≤ R.frames ∧ 8 + (4 + 11) + rm.locals ≤ R.locals) : CallW R s args RL RX6 172 yX6_digest cX6_digest 4 (some .long) (wsM yX6_digest cX6_digest 4 (some .long)) rm mc ms 0 := cwV 0 hts (goodV wd_ml_L_172 wd_im_yX6_digest wd_se_yX6_digest wd_in_RX6 wd_co_yX6_digest) rfl hrc hrs (by decide +kernel) hR
theorem cw_X6_231 (hts : ∀ w ∈ allW, w.before args s = true) {rm : Room} {mc ms : Nat} (hrc : rm.cells = mc) (hrs : rm.slots = ms) (hR : rm.frames + 1 ≤ R.frames ∧ 8 + (4 + 11) + rm.locals ≤ R.locals) : CallB R s args RX6 231 yX6_mix cX6_mix 4 (some .long) (wsM yX6_mix cX6_mix 4 (some .long)) rm mc ms 2 ∧ (Cond.static yX6_mix).before args s = true := cwS 2 hts (goodS wd_ml_X6_231 wd_st_yX6_mix wd_in_RX6 wd_co_yX6_mix) rfl hrc hrs (by decide +kernel) hR
theorem cw_X6_235 (hts : ∀ w ∈ allW, w.before args s = true) {rm : Room} {mc ms : Nat} (hrc : rm.cells = mc) (hrs : rm.slots = ms) (hR : rm.frames + 1 ≤ R.frames ∧ 8 + (10 + 11) + rm.locals ≤ R.locals) : CallW R s args RX6 RX6 235 yX6_mixRooms cX6_mixRooms 10 (some .long) (wsM yX6_mixRooms cX6_mixRooms 10 (some .long)) rm mc ms 1 := cwV 1 hts (goodV wd_ml_X6_235 wd_im_yX6_mixRooms wd_se_yX6_mixRooms wd_in_RX6 wd_co_yX6_mixRooms) rfl hrc hrs (by decide +kernel) hR
theorem cw_X6_239 (hts : ∀ w ∈ allW, w.before args s = true) {rm : Room} {mc ms : Nat} (hrc : rm.cells = mc) (hrs : rm.slots = ms) (hR : rm.frames + 1 ≤ R.frames ∧ 8 + (10 + 11) + rm.locals ≤ R.locals) : CallW R s args RX6 RX6 239 yX6_mixPallets cX6_mixPallets 10 (some .long) (wsM yX6_mixPallets cX6_mixPallets 10 (some .long)) rm mc ms 1 := cwV 1 hts (goodV wd_ml_X6_239 wd_im_yX6_mixPallets wd_se_yX6_mixPallets wd_in_RX6 wd_co_yX6_mixPallets) rfl hrc hrs (by decide +kernel) hR
theorem cw_L_175 (hts : ∀ w ∈ allW, w.before args s = true) {rm : Room} {mc ms : Nat} (hrc : rm.cells = mc) (hrs : rm.slots = ms) (hR : rm.frames + 1 ≤ R.frames ∧ 8 + (5 + 11) + rm.locals ≤ R.locals) : CallW R s args RL RX7 175 yX7_digest cX7_digest 5 (some .long) (wsM yX7_digest cX7_digest 5 (some .long)) rm mc ms 0 := cwV 0 hts (goodV wd_ml_L_175 wd_im_yX7_digest wd_se_yX7_digest wd_in_RX7 wd_co_yX7_digest) rfl hrc hrs (by decide +kernel) hR
end CWS
end
section
/-! results known beforehand, and the calls by them -/
abbrev dI (r : Int32) (a0 : Ad) (f0 : Wd) : Option Value → Ad → Wd → Prop := fun v a w => v = some (.int r) ∧ a = a0 ∧ w = f0
abbrev dL (r : Int64) (a0 : Ad) (f0 : Wd) : Option Value → Ad → Wd → Prop := fun v a w => v = some (.long r) ∧ a = a0 ∧ w = f0
abbrev dD (r : UInt64) (a0 : Ad) (f0 : Wd) : Option Value → Ad → Wd → Prop := fun v a w => v = some (.double r) ∧ a = a0 ∧ w = f0
abbrev dQ (r : Option Nat) (a0 : Ad) (f0 : Wd) : Option Value → Ad → Wd → Prop := fun v a w => v = some (va_rf r) ∧ a = a0 ∧ w = f0
abbrev dV (a0 : Ad) (f0 : Wd) : Option Value → Ad → Wd → Prop := fun v a w => v = none ∧ a = a0 ∧ w = f0
/-- .. or only if C holds -/
abbrev dIc (C : Prop) (r : Int32) (a0 : Ad) (f0 : Wd) : Option Value → Ad → Wd → Prop := fun v a w => C ∧ v = some (.int r) ∧ a = a0 ∧ w = f0
abbrev dVc (C : Prop) (a0 : Ad) (f0 : Wd) : Option Value → Ad → Wd → Prop := fun v a w => C ∧ v = none ∧ a = a0 ∧ w = f0
/-- a throw that leaves the world as it was -/
abbrev xE (P : String → Prop) (a0 : Ad) (f0 : Wd) : String → Ad → Wd → Prop := fun E a w => P E ∧ a = a0 ∧ w = f0
section WRAP
variable {p : Program} {l : Launch} {e : Env} {R : Room} {s : State} {m : MethodId} {args : Array Value} {below : List Frame} {meth : Method} {c : Code} {H : Heap} {locs : List Loc} {cells slots : Nat} {Q : State → Prop}
variable {g : Gg} {B0 : Nat} {ad : Ad} {f : Wd} {own : String} {cc : ByteArray} {nL : Nat} {ret : Option FieldType}
variable {pc : Nat} {ls : Array Slot} {rest st0 : List Value} {kk ii : Nat}
variable {mc ms n index : Nat} {C : String} {y : MethodName} {bytes : ByteArray} {maxL : Nat} {rt : Option FieldType} {rm : Room} {As : List Value} {ci : Nat} {q : vw_C} {fs : List Value} {ad' : Ad} {f' : Wd}
theorem c_Vi {r : Int32} (hl : l.stackTraces = false) (hC : Cx p s m args meth c own cc nL ret g B0) (hI : WI g ad B0 f s H locs) (hls : ls.size = nL) (hM : MM l g B0 y (wsM y bytes maxL rt) rm (.ref (ad kk ii) :: As) ad f (dI r ad' f') (noX) 0 0) (cw : CallW R s args own C index y bytes maxL rt (wsM y bytes maxL rt) rm 0 0 n) (hrecv : f kk ii = some (.inr (ci, fs))) (hq : vwCl[ci]? = some q) (hqC : q.1 = C) (hn : As.length = n) (hst : st0 = As.reverse ++ .ref (ad kk ii) :: rest) (hW : (rest.map fun v => v.category).sum ≤ 8) (hdg : decode cc pc = .ok (.invokevirtual index, 3)) (hf : cells + 0 ≤ R.cells ∧ slots + 0 ≤ R.slots) (kont : ∀ (H1 : Heap) (locs1 : List Loc), WI g ad' B0 f' s H1 locs1 → W p l e R s m args below meth c H1 locs1 cells slots Q (F0 m (pc + 3) ls (.int r :: rest))) : W p l e R s m args below meth c H locs cells slots Q (F0 m pc ls st0) := by
  refine r_callV hl hC hI hls hM cw hrecv hq hqC hn hst hW hdg hf (fun v a w H1 locs1 hR hI1 => ?_) (fun _ _ _ _ _ _ _ h => h.elim)
  obtain ⟨rfl, rfl, rfl⟩ := hR
  exact kont H1 locs1 hI1
theorem c_Si {r : Int32} (hl : l.stackTraces = false) (hC : Cx p s m args meth c own cc nL ret g B0) (hI : WI g ad B0 f s H locs) (hls : ls.size = nL) (hM : MM l g B0 y (wsM y bytes maxL rt) rm As ad f (dI r ad' f') (noX) 0 0) (cw : CallB R s args own index y bytes maxL rt (wsM y bytes maxL rt) rm 0 0 n ∧ (Cond.static y).before args s = true) (hn : As.length = n) (hst : st0 = As.reverse ++ rest) (hW : (rest.map fun v => v.category).sum ≤ 8) (hdg : decode cc pc = .ok (.invokestatic index, 3)) (hf : cells + 0 ≤ R.cells ∧ slots + 0 ≤ R.slots) (kont : ∀ (H1 : Heap) (locs1 : List Loc), WI g ad' B0 f' s H1 locs1 → W p l e R s m args below meth c H1 locs1 cells slots Q (F0 m (pc + 3) ls (.int r :: rest))) : W p l e R s m args below meth c H locs cells slots Q (F0 m pc ls st0) := by
  refine r_callS hl hC hI hls hM cw hn hst hW hdg hf (fun v a w H1 locs1 hR hI1 => ?_) (fun _ _ _ _ _ _ _ h => h.elim)
  obtain ⟨rfl, rfl, rfl⟩ := hR
  exact kont H1 locs1 hI1
theorem c_Vl {r : Int64} (hl : l.stackTraces = false) (hC : Cx p s m args meth c own cc nL ret g B0) (hI : WI g ad B0 f s H locs) (hls : ls.size = nL) (hM : MM l g B0 y (wsM y bytes maxL rt) rm (.ref (ad kk ii) :: As) ad f (dL r ad' f') (noX) 0 0) (cw : CallW R s args own C index y bytes maxL rt (wsM y bytes maxL rt) rm 0 0 n) (hrecv : f kk ii = some (.inr (ci, fs))) (hq : vwCl[ci]? = some q) (hqC : q.1 = C) (hn : As.length = n) (hst : st0 = As.reverse ++ .ref (ad kk ii) :: rest) (hW : (rest.map fun v => v.category).sum ≤ 8) (hdg : decode cc pc = .ok (.invokevirtual index, 3)) (hf : cells + 0 ≤ R.cells ∧ slots + 0 ≤ R.slots) (kont : ∀ (H1 : Heap) (locs1 : List Loc), WI g ad' B0 f' s H1 locs1 → W p l e R s m args below meth c H1 locs1 cells slots Q (F0 m (pc + 3) ls (.long r :: rest))) : W p l e R s m args below meth c H locs cells slots Q (F0 m pc ls st0) := by
  refine r_callV hl hC hI hls hM cw hrecv hq hqC hn hst hW hdg hf (fun v a w H1 locs1 hR hI1 => ?_) (fun _ _ _ _ _ _ _ h => h.elim)
  obtain ⟨rfl, rfl, rfl⟩ := hR
  exact kont H1 locs1 hI1
theorem c_Sl {r : Int64} (hl : l.stackTraces = false) (hC : Cx p s m args meth c own cc nL ret g B0) (hI : WI g ad B0 f s H locs) (hls : ls.size = nL) (hM : MM l g B0 y (wsM y bytes maxL rt) rm As ad f (dL r ad' f') (noX) 0 0) (cw : CallB R s args own index y bytes maxL rt (wsM y bytes maxL rt) rm 0 0 n ∧ (Cond.static y).before args s = true) (hn : As.length = n) (hst : st0 = As.reverse ++ rest) (hW : (rest.map fun v => v.category).sum ≤ 8) (hdg : decode cc pc = .ok (.invokestatic index, 3)) (hf : cells + 0 ≤ R.cells ∧ slots + 0 ≤ R.slots) (kont : ∀ (H1 : Heap) (locs1 : List Loc), WI g ad' B0 f' s H1 locs1 → W p l e R s m args below meth c H1 locs1 cells slots Q (F0 m (pc + 3) ls (.long r :: rest))) : W p l e R s m args below meth c H locs cells slots Q (F0 m pc ls st0) := by
  refine r_callS hl hC hI hls hM cw hn hst hW hdg hf (fun v a w H1 locs1 hR hI1 => ?_) (fun _ _ _ _ _ _ _ h => h.elim)
  obtain ⟨rfl, rfl, rfl⟩ := hR
  exact kont H1 locs1 hI1
theorem c_Vd {r : UInt64} (hl : l.stackTraces = false) (hC : Cx p s m args meth c own cc nL ret g B0) (hI : WI g ad B0 f s H locs) (hls : ls.size = nL) (hM : MM l g B0 y (wsM y bytes maxL rt) rm (.ref (ad kk ii) :: As) ad f (dD r ad' f') (noX) 0 0) (cw : CallW R s args own C index y bytes maxL rt (wsM y bytes maxL rt) rm 0 0 n) (hrecv : f kk ii = some (.inr (ci, fs))) (hq : vwCl[ci]? = some q) (hqC : q.1 = C) (hn : As.length = n) (hst : st0 = As.reverse ++ .ref (ad kk ii) :: rest) (hW : (rest.map fun v => v.category).sum ≤ 8) (hdg : decode cc pc = .ok (.invokevirtual index, 3)) (hf : cells + 0 ≤ R.cells ∧ slots + 0 ≤ R.slots) (kont : ∀ (H1 : Heap) (locs1 : List Loc), WI g ad' B0 f' s H1 locs1 → W p l e R s m args below meth c H1 locs1 cells slots Q (F0 m (pc + 3) ls (.double r :: rest))) : W p l e R s m args below meth c H locs cells slots Q (F0 m pc ls st0) := by
  refine r_callV hl hC hI hls hM cw hrecv hq hqC hn hst hW hdg hf (fun v a w H1 locs1 hR hI1 => ?_) (fun _ _ _ _ _ _ _ h => h.elim)
  obtain ⟨rfl, rfl, rfl⟩ := hR
  exact kont H1 locs1 hI1
theorem c_Sd {r : UInt64} (hl : l.stackTraces = false) (hC : Cx p s m args meth c own cc nL ret g B0) (hI : WI g ad B0 f s H locs) (hls : ls.size = nL) (hM : MM l g B0 y (wsM y bytes maxL rt) rm As ad f (dD r ad' f') (noX) 0 0) (cw : CallB R s args own index y bytes maxL rt (wsM y bytes maxL rt) rm 0 0 n ∧ (Cond.static y).before args s = true) (hn : As.length = n) (hst : st0 = As.reverse ++ rest) (hW : (rest.map fun v => v.category).sum ≤ 8) (hdg : decode cc pc = .ok (.invokestatic index, 3)) (hf : cells + 0 ≤ R.cells ∧ slots + 0 ≤ R.slots) (kont : ∀ (H1 : Heap) (locs1 : List Loc), WI g ad' B0 f' s H1 locs1 → W p l e R s m args below meth c H1 locs1 cells slots Q (F0 m (pc + 3) ls (.double r :: rest))) : W p l e R s m args below meth c H locs cells slots Q (F0 m pc ls st0) := by
  refine r_callS hl hC hI hls hM cw hn hst hW hdg hf (fun v a w H1 locs1 hR hI1 => ?_) (fun _ _ _ _ _ _ _ h => h.elim)
  obtain ⟨rfl, rfl, rfl⟩ := hR
  exact kont H1 locs1 hI1
theorem c_Vq {r : Option Nat} (hl : l.stackTraces = false) (hC : Cx p s m args meth c own cc nL ret g B0) (hI : WI g ad B0 f s H locs) (hls : ls.size = nL) (hM : MM l g B0 y (wsM y bytes maxL rt) rm (.ref (ad kk ii) :: As) ad f (dQ r ad' f') (noX) 0 0) (cw : CallW R s args own C index y bytes maxL rt (wsM y bytes maxL rt) rm 0 0 n) (hrecv : f kk ii = some (.inr (ci, fs))) (hq : vwCl[ci]? = some q) (hqC : q.1 = C) (hn : As.length = n) (hst : st0 = As.reverse ++ .ref (ad kk ii) :: rest) (hW : (rest.map fun v => v.category).sum ≤ 8) (hdg : decode cc pc = .ok (.invokevirtual index, 3)) (hf : cells + 0 ≤ R.cells ∧ slots + 0 ≤ R.slots) (kont : ∀ (H1 : Heap) (locs1 : List Loc), WI g ad' B0 f' s H1 locs1 → W p l e R s m args below meth c H1 locs1 cells slots Q (F0 m (pc + 3) ls (va_rf r :: rest))) : W p l e R s m args below meth c H locs cells slots Q (F0 m pc ls st0) := by
  refine r_callV hl hC hI hls hM cw hrecv hq hqC hn hst hW hdg hf (fun v a w H1 locs1 hR hI1 => ?_) (fun _ _ _ _ _ _ _ h => h.elim)
  obtain ⟨rfl, rfl, rfl⟩ := hR
  exact kont H1 locs1 hI1
theorem c_Sq {r : Option Nat} (hl : l.stackTraces = false) (hC : Cx p s m args meth c own cc nL ret g B0) (hI : WI g ad B0 f s H locs) (hls : ls.size = nL) (hM : MM l g B0 y (wsM y bytes maxL rt) rm As ad f (dQ r ad' f') (noX) 0 0) (cw : CallB R s args own index y bytes maxL rt (wsM y bytes maxL rt) rm 0 0 n ∧ (Cond.static y).before args s = true) (hn : As.length = n) (hst : st0 = As.reverse ++ rest) (hW : (rest.map fun v => v.category).sum ≤ 8) (hdg : decode cc pc = .ok (.invokestatic index, 3)) (hf : cells + 0 ≤ R.cells ∧ slots + 0 ≤ R.slots) (kont : ∀ (H1 : Heap) (locs1 : List Loc), WI g ad' B0 f' s H1 locs1 → W p l e R s m args below meth c H1 locs1 cells slots Q (F0 m (pc + 3) ls (va_rf r :: rest))) : W p l e R s m args below meth c H locs cells slots Q (F0 m pc ls st0) := by
  refine r_callS hl hC hI hls hM cw hn hst hW hdg hf (fun v a w H1 locs1 hR hI1 => ?_) (fun _ _ _ _ _ _ _ h => h.elim)
  obtain ⟨rfl, rfl, rfl⟩ := hR
  exact kont H1 locs1 hI1
theorem c_Vv  (hl : l.stackTraces = false) (hC : Cx p s m args meth c own cc nL ret g B0) (hI : WI g ad B0 f s H locs) (hls : ls.size = nL) (hM : MM l g B0 y (wsM y bytes maxL rt) rm (.ref (ad kk ii) :: As) ad f (dV ad' f') (noX) 0 0) (cw : CallW R s args own C index y bytes maxL rt (wsM y bytes maxL rt) rm 0 0 n) (hrecv : f kk ii = some (.inr (ci, fs))) (hq : vwCl[ci]? = some q) (hqC : q.1 = C) (hn : As.length = n) (hst : st0 = As.reverse ++ .ref (ad kk ii) :: rest) (hW : (rest.map fun v => v.category).sum ≤ 8) (hdg : decode cc pc = .ok (.invokevirtual index, 3)) (hf : cells + 0 ≤ R.cells ∧ slots + 0 ≤ R.slots) (kont : ∀ (H1 : Heap) (locs1 : List Loc), WI g ad' B0 f' s H1 locs1 → W p l e R s m args below meth c H1 locs1 cells slots Q (F0 m (pc + 3) ls rest)) : W p l e R s m args below meth c H locs cells slots Q (F0 m pc ls st0) := by
  refine r_callV hl hC hI hls hM cw hrecv hq hqC hn hst hW hdg hf (fun v a w H1 locs1 hR hI1 => ?_) (fun _ _ _ _ _ _ _ h => h.elim)
  obtain ⟨rfl, rfl, rfl⟩ := hR
  exact kont H1 locs1 hI1
theorem c_Sv  (hl : l.stackTraces = false) (hC : Cx p s m args meth c own cc nL ret g B0) (hI : WI g ad B0 f s H locs) (hls : ls.size = nL) (hM : MM l g B0 y (wsM y bytes maxL rt) rm As ad f (dV ad' f') (noX) 0 0) (cw : CallB R s args own index y bytes maxL rt (wsM y bytes maxL rt) rm 0 0 n ∧ (Cond.static y).before args s = true) (hn : As.length = n) (hst : st0 = As.reverse ++ rest) (hW : (rest.map fun v => v.category).sum ≤ 8) (hdg : decode cc pc = .ok (.invokestatic index, 3)) (hf : cells + 0 ≤ R.cells ∧ slots + 0 ≤ R.slots) (kont : ∀ (H1 : Heap) (locs1 : List Loc), WI g ad' B0 f' s H1 locs1 → W p l e R s m args below meth c H1 locs1 cells slots Q (F0 m (pc + 3) ls rest)) : W p l e R s m args below meth c H locs cells slots Q (F0 m pc ls st0) := by
  refine r_callS hl hC hI hls hM cw hn hst hW hdg hf (fun v a w H1 locs1 hR hI1 => ?_) (fun _ _ _ _ _ _ _ h => h.elim)
  obtain ⟨rfl, rfl, rfl⟩ := hR
  exact kont H1 locs1 hI1
theorem x_V {Rr : Option Value → Ad → Wd → Prop} {RX RXo : String → Ad → Wd → Prop} {Qc : Array Value → State → Outcome → State → Prop} {mc0 ms0 : Nat} (hl : l.stackTraces = false) (hC : Cx p s m args meth c own cc nL ret g B0) (hI : WI g ad B0 f s H locs) (hls : ls.size = nL) (hM : MM l g B0 y (wsM y bytes maxL rt) rm (.ref (ad kk ii) :: As) ad f (Rr) (RX) mc ms) (cw : CallW R s args own C index y bytes maxL rt (wsM y bytes maxL rt) rm mc ms n) (hrecv : f kk ii = some (.inr (ci, fs))) (hq : vwCl[ci]? = some q) (hqC : q.1 = C) (hn : As.length = n) (hst : st0 = As.reverse ++ .ref (ad kk ii) :: rest) (hW : (rest.map fun v => v.category).sum ≤ 8) (hdg : decode cc pc = .ok (.invokevirtual index, 3)) (hf : cells + mc ≤ R.cells ∧ slots + ms ≤ R.slots) (hno : Cn c) (hR0 : cells + mc ≤ mc0) (hR1 : slots + ms ≤ ms0) (hprop : ∀ E a w, RX E a w → RXo E a w) (kont : ∀ (v : Option Value) (a : Ad) (w : Wd) (H1 : Heap) (locs1 : List Loc), Rr v a w → WI g a B0 w s H1 locs1 → W p l e R s m args below meth c H1 locs1 (cells + mc) (slots + ms) (vx_MQ below Qc (XI g B0 RXo) args s mc0 ms0 (fun q => B0 ≤ q)) (F0 m (pc + 3) ls (v.toList ++ rest))) : W p l e R s m args below meth c H locs cells slots (vx_MQ below Qc (XI g B0 RXo) args s mc0 ms0 (fun q => B0 ≤ q)) (F0 m pc ls st0) :=
  r_callV hl hC hI hls hM cw hrecv hq hqC hn hst hW hdg hf kont (fun _ _ _ _ _ _ _ hx hI1 h1 h2 h3 => x_out hno hC hI1 (hprop _ _ _ hx) h1 h2 h3 hR0 hR1)
theorem x_S {Rr : Option Value → Ad → Wd → Prop} {RX RXo : String → Ad → Wd → Prop} {Qc : Array Value → State → Outcome → State → Prop} {mc0 ms0 : Nat} (hl : l.stackTraces = false) (hC : Cx p s m args meth c own cc nL ret g B0) (hI : WI g ad B0 f s H locs) (hls : ls.size = nL) (hM : MM l g B0 y (wsM y bytes maxL rt) rm As ad f (Rr) (RX) mc ms) (cw : CallB R s args own index y bytes maxL rt (wsM y bytes maxL rt) rm mc ms n ∧ (Cond.static y).before args s = true) (hn : As.length = n) (hst : st0 = As.reverse ++ rest) (hW : (rest.map fun v => v.category).sum ≤ 8) (hdg : decode cc pc = .ok (.invokestatic index, 3)) (hf : cells + mc ≤ R.cells ∧ slots + ms ≤ R.slots) (hno : Cn c) (hR0 : cells + mc ≤ mc0) (hR1 : slots + ms ≤ ms0) (hprop : ∀ E a w, RX E a w → RXo E a w) (kont : ∀ (v : Option Value) (a : Ad) (w : Wd) (H1 : Heap) (locs1 : List Loc), Rr v a w → WI g a B0 w s H1 locs1 → W p l e R s m args below meth c H1 locs1 (cells + mc) (slots + ms) (vx_MQ below Qc (XI g B0 RXo) args s mc0 ms0 (fun q => B0 ≤ q)) (F0 m (pc + 3) ls (v.toList ++ rest))) : W p l e R s m args below meth c H locs cells slots (vx_MQ below Qc (XI g B0 RXo) args s mc0 ms0 (fun q => B0 ≤ q)) (F0 m pc ls st0) :=
  r_callS hl hC hI hls hM cw hn hst hW hdg hf kont (fun _ _ _ _ _ _ _ hx hI1 h1 h2 h3 => x_out hno hC hI1 (hprop _ _ _ hx) h1 h2 h3 hR0 hR1)
end WRAP
/-- a truth as an int -/
def bi (P : Prop) [Decidable P] : Int32 := if P then 1 else 0
theorem bi_0 {P : Prop} [Decidable P] : bi P = 0 ↔ ¬ P := by
  unfold bi
  split <;> simp_all
theorem bi_1 {P : Prop} [Decidable P] : ¬ bi P = 0 ↔ P := by rw [bi_0]; exact Decidable.not_not
theorem bi_t {P : Prop} [Decidable P] (h : P) : bi P = 1 := if_pos h
theorem bi_f {P : Prop} [Decidable P] (h : ¬ P) : bi P = 0 := if_neg h
theorem bi_nar {P : Prop} [Decidable P] : narrow .boolean (.int (bi P)) = .int (bi P) := by
  unfold bi
  split <;> rfl
theorem bi_fit {P : Prop} [Decidable P] : fits .boolean (.int (bi P)) = true := by
  unfold bi
  split <;> rfl
theorem bi_c {P P' : Prop} [Decidable P] [Decidable P'] (h : P ↔ P') : bi P = bi P' := by
  unfold bi
  by_cases hp : P
  · rw [if_pos hp, if_pos (h.mp hp)]
  · rw [if_neg hp, if_neg (fun z => hp (h.mpr z))]
end
section
/-! THE STATE, in rows: 1 the time, 2 the base, 3 the swing, 4 the prices, 5 how many products, 6 lowest, 7 highest, 8 life, 9 smell, 10 how many rooms, 11 places, 12 wall, 13 power, 14 aim, 15 thrifty, 16 six of each room (T, frost, machine, left, used, warm), 17 how many pallets, 18 product, 19 room, 20 temperature, 21 age, 22 shipped -/
abbrev Sg : Type := Nat → Nat → Int32
def su (σ : Sg) (k : Nat) (fn : Nat → Int32) : Sg := fun k' => if k' = k then fn else σ k'
abbrev ss (σ : Sg) (k : Nat) (v : Int32) : Sg := su σ k (fun _ => v)
abbrev s1 (σ : Sg) (k j : Nat) (v : Int32) : Sg := su σ k (upd (σ k) j v)
theorem su_s (σ : Sg) (k : Nat) (fn : Nat → Int32) : su σ k fn k = fn := if_pos rfl
theorem su_n (σ : Sg) {k k' : Nat} (fn : Nat → Int32) (h : k' ≠ k) : su σ k fn k' = σ k' := if_neg h
theorem upd_s (fn : Nat → Int32) (j : Nat) (x : Int32) : upd fn j x j = x := pk_us
theorem upd_n (fn : Nat → Int32) {j k : Nat} (x : Int32) (h : k ≠ j) : upd fn j x k = fn k := pk_un h
def cN (x : Int32) : Nat := x.toNatClampNeg
theorem cN_nI {n : Nat} (h : n < 2 ^ 31) : cN (nI n) = n := nI_clamp h
abbrev np (σ : Sg) : Nat := cN (σ 5 0)
abbrev nr (σ : Sg) : Nat := cN (σ 10 0)
abbrev nt (σ : Sg) : Nat := cN (σ 17 0)
abbrev prd (σ : Sg) (p : Nat) : Nat := cN (σ 18 p)
abbrev rmo (σ : Sg) (p : Nat) : Nat := cN (σ 19 p)
/-! THE MODEL'S WORLD: its object is of the kind 20, the array of row r of the kind 20 + r -/
def arrM (r : Nat) : Nat := match r with
  | 4 => 24 | 6 => 12 | 7 => 12 | 8 => 12 | 9 => 12 | 11 => 6 | 12 => 6 | 13 => 6 | 14 => 6 | 15 => 6 | 16 => 36 | 18 => 60 | 19 => 60 | 20 => 60 | 21 => 60 | _ => 0
def objM (ad : Ad) (σ : Sg) (pd : Int64) (th : Int32) : List Value := [.int th, .int (σ 1 0), .int (σ 2 0), .int (σ 3 0), .ref (ad 24 0), .long pd, .int (σ 5 0), .ref (ad 26 0), .ref (ad 27 0), .ref (ad 28 0), .ref (ad 29 0), .int (σ 10 0), .ref (ad 31 0), .ref (ad 32 0), .ref (ad 33 0), .ref (ad 34 0), .ref (ad 35 0), .ref (ad 36 0), .int (σ 17 0), .ref (ad 38 0), .ref (ad 39 0), .ref (ad 40 0), .ref (ad 41 0), .int (σ 22 0)]
def fM (g : Gg) (ad : Ad) (σ : Sg) (pd : Int64) (th : Int32) (h : Wd) : Wd := fun k i => if k < 20 ∨ 44 ≤ k then h k i else if i = 0 then (if k = 20 then some (.inr (7, objM ad σ pd th)) else if arrM (k - 20) = 0 then none else some (.inl ((if k = 35 then g.2 1 else g.2 0), arrM (k - 20), .inl (σ (k - 20))))) else none
section FM
variable {g : Gg} {ad : Ad} {σ : Sg} {pd : Int64} {th : Int32} {h : Wd}
theorem fM_o : fM g ad σ pd th h 20 0 = some (.inr (7, objM ad σ pd th)) := rfl
theorem fM_4 : fM g ad σ pd th h 24 0 = some (.inl (g.2 0, 24, .inl (σ 4))) := rfl
theorem fM_6 : fM g ad σ pd th h 26 0 = some (.inl (g.2 0, 12, .inl (σ 6))) := rfl
theorem fM_7 : fM g ad σ pd th h 27 0 = some (.inl (g.2 0, 12, .inl (σ 7))) := rfl
theorem fM_8 : fM g ad σ pd th h 28 0 = some (.inl (g.2 0, 12, .inl (σ 8))) := rfl
theorem fM_9 : fM g ad σ pd th h 29 0 = some (.inl (g.2 0, 12, .inl (σ 9))) := rfl
theorem fM_11 : fM g ad σ pd th h 31 0 = some (.inl (g.2 0, 6, .inl (σ 11))) := rfl
theorem fM_12 : fM g ad σ pd th h 32 0 = some (.inl (g.2 0, 6, .inl (σ 12))) := rfl
theorem fM_13 : fM g ad σ pd th h 33 0 = some (.inl (g.2 0, 6, .inl (σ 13))) := rfl
theorem fM_14 : fM g ad σ pd th h 34 0 = some (.inl (g.2 0, 6, .inl (σ 14))) := rfl
theorem fM_15 : fM g ad σ pd th h 35 0 = some (.inl (g.2 1, 6, .inl (σ 15))) := rfl
theorem fM_16 : fM g ad σ pd th h 36 0 = some (.inl (g.2 0, 36, .inl (σ 16))) := rfl
theorem fM_18 : fM g ad σ pd th h 38 0 = some (.inl (g.2 0, 60, .inl (σ 18))) := rfl
theorem fM_19 : fM g ad σ pd th h 39 0 = some (.inl (g.2 0, 60, .inl (σ 19))) := rfl
theorem fM_20 : fM g ad σ pd th h 40 0 = some (.inl (g.2 0, 60, .inl (σ 20))) := rfl
theorem fM_21 : fM g ad σ pd th h 41 0 = some (.inl (g.2 0, 60, .inl (σ 21))) := rfl
/-- an array's row is written -/
theorem fM_a (r : Nat) {n : Nat} {cA : ClassId} {fn : Nat → Int32} (hn : arrM r = n) (h0 : n ≠ 0) (hr : r < 24) (hc : (if 20 + r = 35 then g.2 1 else g.2 0) = cA) : up2 (fM g ad σ pd th h) (20 + r) 0 (.inl (cA, n, .inl fn)) = fM g ad (su σ r fn) pd th h := by
  subst hn
  have hs : objM ad (su σ r fn) pd th = objM ad σ pd th := by
    have e : ∀ q : Nat, arrM q = 0 → su σ r fn q = σ q := fun q hq => su_n σ fn (fun z => h0 (by rw [← z]; exact hq))
    unfold objM
    rw [e 1 rfl, e 2 rfl, e 3 rfl, e 5 rfl, e 10 rfl, e 17 rfl, e 22 rfl]
  funext k i
  by_cases hk : k = 20 + r ∧ i = 0
  · obtain ⟨rfl, rfl⟩ := hk
    rw [up2_s]
    unfold fM
    rw [if_neg (by omega), if_pos rfl, if_neg (by intro z; apply h0; rw [show r = 0 by omega]; rfl), show 20 + r - 20 = r by omega, if_neg h0, hc, su_s]
  · rw [up2_n _ _ hk]
    unfold fM
    rw [hs]
    by_cases h1 : k < 20 ∨ 44 ≤ k
    · rw [if_pos h1, if_pos h1]
    · rw [if_neg h1, if_neg h1]
      by_cases h2 : i = 0
      · subst h2
        rw [su_n σ fn (show k - 20 ≠ r by omega)]
      · rw [if_neg h2, if_neg h2]
/-- a number of the object is written -/
theorem fM_s (r q : Nat) {x : Int32} {fn : Nat → Int32} (hr : arrM r = 0) (hq : (objM ad σ pd th).set q (.int x) = objM ad (su σ r fn) pd th) : up2 (fM g ad σ pd th h) 20 0 (.inr (7, (objM ad σ pd th).set q (.int x))) = fM g ad (su σ r fn) pd th h := by
  funext k i
  by_cases hk : k = 20 ∧ i = 0
  · obtain ⟨rfl, rfl⟩ := hk
    rw [up2_s, hq]
    rfl
  · rw [up2_n _ _ hk]
    unfold fM
    by_cases h1 : k < 20 ∨ 44 ≤ k
    · rw [if_pos h1, if_pos h1]
    · rw [if_neg h1, if_neg h1]
      by_cases h2 : i = 0
      · subst h2
        have h20 : ¬ k = 20 := fun z => hk ⟨z, rfl⟩
        simp only [if_neg h20, ↓reduceIte]
        by_cases h3 : arrM (k - 20) = 0
        · rw [if_pos h3, if_pos h3]
        · rw [if_neg h3, if_neg h3, su_n σ fn (fun z => h3 (by rw [z]; exact hr))]
      · rw [if_neg h2, if_neg h2]
theorem fM_pth {v : Int32} : up2 (fM g ad σ pd th h) 20 0 (.inr (7, (objM ad σ pd th).set 0 (.int v))) = fM g ad σ pd v h := by
  funext k i
  by_cases hk : k = 20 ∧ i = 0
  · obtain ⟨rfl, rfl⟩ := hk
    rw [up2_s]
    rfl
  · rw [up2_n _ _ hk]
    unfold fM
    by_cases h1 : k < 20 ∨ 44 ≤ k
    · rw [if_pos h1, if_pos h1]
    · rw [if_neg h1, if_neg h1]
      by_cases h2 : i = 0
      · subst h2
        have h20 : ¬ k = 20 := fun z => hk ⟨z, rfl⟩
        simp only [if_neg h20, ↓reduceIte]
      · rw [if_neg h2, if_neg h2]
theorem fM_ppd {v : Int64} : up2 (fM g ad σ pd th h) 20 0 (.inr (7, (objM ad σ pd th).set 5 (.long v))) = fM g ad σ v th h := by
  funext k i
  by_cases hk : k = 20 ∧ i = 0
  · obtain ⟨rfl, rfl⟩ := hk
    rw [up2_s]
    rfl
  · rw [up2_n _ _ hk]
    unfold fM
    by_cases h1 : k < 20 ∨ 44 ≤ k
    · rw [if_pos h1, if_pos h1]
    · rw [if_neg h1, if_neg h1]
      by_cases h2 : i = 0
      · subst h2
        have h20 : ¬ k = 20 := fun z => hk ⟨z, rfl⟩
        simp only [if_neg h20, ↓reduceIte]
      · rw [if_neg h2, if_neg h2]
theorem fM_p1 {v : Int32} : up2 (fM g ad σ pd th h) 20 0 (.inr (7, (objM ad σ pd th).set 1 (.int v))) = fM g ad (ss σ 1 v) pd th h := fM_s 1 1 rfl rfl
theorem fM_p2 {v : Int32} : up2 (fM g ad σ pd th h) 20 0 (.inr (7, (objM ad σ pd th).set 2 (.int v))) = fM g ad (ss σ 2 v) pd th h := fM_s 2 2 rfl rfl
theorem fM_p3 {v : Int32} : up2 (fM g ad σ pd th h) 20 0 (.inr (7, (objM ad σ pd th).set 3 (.int v))) = fM g ad (ss σ 3 v) pd th h := fM_s 3 3 rfl rfl
theorem fM_p6 {v : Int32} : up2 (fM g ad σ pd th h) 20 0 (.inr (7, (objM ad σ pd th).set 6 (.int v))) = fM g ad (ss σ 5 v) pd th h := fM_s 5 6 rfl rfl
theorem fM_p11 {v : Int32} : up2 (fM g ad σ pd th h) 20 0 (.inr (7, (objM ad σ pd th).set 11 (.int v))) = fM g ad (ss σ 10 v) pd th h := fM_s 10 11 rfl rfl
theorem fM_p18 {v : Int32} : up2 (fM g ad σ pd th h) 20 0 (.inr (7, (objM ad σ pd th).set 18 (.int v))) = fM g ad (ss σ 17 v) pd th h := fM_s 17 18 rfl rfl
theorem fM_p23 {v : Int32} : up2 (fM g ad σ pd th h) 20 0 (.inr (7, (objM ad σ pd th).set 23 (.int v))) = fM g ad (ss σ 22 v) pd th h := fM_s 22 23 rfl rfl
end FM
/-! small facts of numbers -/
theorem six_nI (r : Nat) : (6 : Int32) * nI r = nI (6 * r) := pk_mul 6 r
theorem nI_p (a c : Nat) : nI a + nI c = nI (a + c) := nI_add a c
theorem rI {r v : Int32} {a : Ad} {w : Wd} (h : v = r) : dI r a w (some (.int v)) a w := ⟨by rw [h], rfl, rfl⟩
theorem rIw {r v : Int32} {a : Ad} {w w' : Wd} (h : v = r) (hw : w = w') : dI r a w' (some (.int v)) a w := ⟨by rw [h], rfl, hw⟩
theorem rVw {a : Ad} {w w' : Wd} (hw : w = w') : dV a w' none a w := ⟨rfl, rfl, hw⟩
theorem nI_cN {x : Int32} (h : ¬ x < 0) : x = nI (cN x) := by
  obtain ⟨j, hj, rfl⟩ := nI_of h
  rw [cN_nI hj]
def mx (x y : Int32) : Int32 := if x < y then y else x
def mn (x y : Int32) : Int32 := if y < x then y else x
def ab (x : Int32) : Int32 := if 0 ≤ x then x else 0 - x
end
section
/-! THE MODEL, its small methods -/
def outS (σ : Sg) (hr : Int32) : Int32 := σ 2 0 + (if 8 ≤ hr ∧ hr ≤ 20 then σ 3 0 * (6 - ab (hr - 14)) / 6 else 0)
def lowAt (σ : Sg) : Nat → Int32
  | 0 => σ 4 0
  | k + 1 => mn (lowAt σ k) (σ 4 k)
def lowS (σ : Sg) : Int32 := lowAt σ 24
def freeAt (σ : Sg) (r : Nat) : Nat → Int32
  | 0 => σ 11 r
  | k + 1 => freeAt σ r k - (if σ 19 k = nI r then 1 else 0)
def freeS (σ : Sg) (r : Nat) : Int32 := freeAt σ r (nt σ)
/-- how many pallets the state has, and what is in range -/
def OkP (σ : Sg) : Prop := σ 17 0 = nI (nt σ) ∧ nt σ ≤ 60 ∧ σ 10 0 = nI (nr σ) ∧ nr σ ≤ 6 ∧ σ 5 0 = nI (np σ) ∧ np σ ≤ 12 ∧ (∀ p, p < nt σ → σ 18 p = nI (prd σ p) ∧ prd σ p < np σ) ∧ (∀ p, p < nt σ → σ 19 p ≠ -1 → σ 19 p = nI (rmo σ p) ∧ rmo σ p < nr σ)
theorem ge_T {x : Int32} {n k : Nat} (hx : x = nI n) (hn : n < 2 ^ 31) (hk : k < 2 ^ 31) (c : x ≤ nI k) : n ≤ k := by
  rw [hx] at c
  exact (nI_leI hn hk).mp c
theorem ge_F {x : Int32} {n k : Nat} (hx : x = nI n) (hn : n < 2 ^ 31) (hk : k < 2 ^ 31) (c : ¬ x ≤ nI k) : k < n := by
  rw [hx] at c
  exact Nat.lt_of_not_le (fun z => c ((nI_leI hn hk).mpr z))

set_option maxHeartbeats 4000000 in
set_option maxRecDepth 100000 in
theorem tX7_thrown (l : Launch) (g : Gg) (B0 : Nat) (ad : Ad) (σ : Sg) (pd : Int64) (th : Int32) (h : Wd)  : MM l g B0 yX7_thrown (wsM yX7_thrown cX7_thrown 1 (some .int)) ({ frames := 0, cells := 0, slots := 0, locals := 0 } : Room) [.ref (ad 20 0)] ad (fM g ad σ pd th h) (dI th ad (fM g ad σ pd th h)) (noX) 0 0 := by
  refine MM.start (by decide) (Nat.le_of_ble_eq_true rfl) ?_
  intro hl9 p e s m below meth c ls hC hno hI hl0
  have hx := hC.1.1
  have hb := hC.1.2.1
  have hts := hC.1.2.2.2.2
  have hl : lv_has ls 1 [(0, .ref (ad 20 0))] := hl0
  obtain ⟨H, hH⟩ : ∃ H, H = s.heap := ⟨_, rfl⟩
  obtain ⟨locs, hLo⟩ : ∃ L : List Loc, L = [] := ⟨_, rfl⟩
  rw [← hH, ← hLo] at hI ⊢
  clear hH hLo hl0
  refine lv_aload_n hx hb dX7_thrown_0 rfl (lv_at hl 0 rfl) ?_
  refine gf_X7_60 hC hI fM_o rfl dX7_thrown_1 ?_
  exact e_int hC hI ⟨rfl, rfl, rfl⟩ (Nat.le_of_ble_eq_true rfl) (Nat.le_of_ble_eq_true rfl) dX7_thrown_4
set_option maxHeartbeats 4000000 in
set_option maxRecDepth 100000 in
theorem tX7_no (l : Launch) (g : Gg) (B0 : Nat) (ad : Ad) (σ : Sg) (pd : Int64) (th : Int32) (h : Wd) (k : Int32) : MM l g B0 yX7_no (wsM yX7_no cX7_no 2 (some .int)) ({ frames := 0, cells := 0, slots := 0, locals := 0 } : Room) [.ref (ad 20 0), .int k] ad (fM g ad σ pd th h) (dI 0 ad (fM g ad σ pd k h)) (noX) 0 0 := by
  refine MM.start (by decide) (Nat.le_of_ble_eq_true rfl) ?_
  intro hl9 p e s m below meth c ls hC hno hI hl0
  have hx := hC.1.1
  have hb := hC.1.2.1
  have hts := hC.1.2.2.2.2
  have hl : lv_has ls 2 [(0, .ref (ad 20 0)), (1, .int k)] := hl0
  obtain ⟨H, hH⟩ : ∃ H, H = s.heap := ⟨_, rfl⟩
  obtain ⟨locs, hLo⟩ : ∃ L : List Loc, L = [] := ⟨_, rfl⟩
  rw [← hH, ← hLo] at hI ⊢
  clear hH hLo hl0
  refine lv_aload_n hx hb dX7_no_0 rfl (lv_at hl 0 rfl) ?_
  refine lv_iload_n hx hb dX7_no_1 rfl (lv_at hl 1 rfl) ?_
  refine pf_X7_60 hC hI fM_o (Nat.le_of_ble_eq_true rfl) dX7_no_2 (fun H locs hI => ?_)
  have hI := hI.cast fM_pth
  refine lv_iconst (v := 0) hx hb dX7_no_5 (by decide) ?_
  exact e_int hC hI ⟨rfl, rfl, rfl⟩ (Nat.le_of_ble_eq_true rfl) (Nat.le_of_ble_eq_true rfl) dX7_no_6
set_option maxHeartbeats 4000000 in
set_option maxRecDepth 100000 in
theorem tX7_isIn (l : Launch) (g : Gg) (B0 : Nat) (ad : Ad) (f : Wd) (v lo hi : Int32) : MM l g B0 yX7_isIn (wsM yX7_isIn cX7_isIn 3 (some .boolean)) ({ frames := 0, cells := 0, slots := 0, locals := 0 } : Room) [.int v, .int lo, .int hi] ad (f) (dI (bi (lo ≤ v ∧ v ≤ hi)) ad f) (noX) 0 0 := by
  refine MM.start (by decide) (Nat.le_of_ble_eq_true rfl) ?_
  intro hl9 p e s m below meth c ls hC hno hI hl0
  have hx := hC.1.1
  have hb := hC.1.2.1
  have hts := hC.1.2.2.2.2
  have hl : lv_has ls 3 [(0, .int v), (1, .int lo), (2, .int hi)] := hl0
  obtain ⟨H, hH⟩ : ∃ H, H = s.heap := ⟨_, rfl⟩
  obtain ⟨locs, hLo⟩ : ∃ L : List Loc, L = [] := ⟨_, rfl⟩
  rw [← hH, ← hLo] at hI ⊢
  clear hH hLo hl0
  refine lv_iload_n hx hb dX7_isIn_0 rfl (lv_at hl 0 rfl) ?_
  refine lv_iload_n hx hb dX7_isIn_1 rfl (lv_at hl 1 rfl) ?_
  refine lv_icmp_lt (tgt := 14) hx hb dX7_isIn_2 (by decide) (fun c2 => ?_) (fun c2 => ?_)
  · refine lv_iconst (v := 0) hx hb dX7_isIn_14 (by decide) ?_
    exact e_bool hC hI (by decide) (rI (bi_f (fun z => absurd c2 (Int32.not_lt.mpr z.1))).symm) (Nat.le_of_ble_eq_true rfl) (Nat.le_of_ble_eq_true rfl) dX7_isIn_15
  · refine lv_iload_n hx hb dX7_isIn_5 rfl (lv_at hl 0 rfl) ?_
    refine lv_iload_n hx hb dX7_isIn_6 rfl (lv_at hl 2 rfl) ?_
    refine lv_icmp_gt (tgt := 14) hx hb dX7_isIn_7 (by decide) (fun c7 => ?_) (fun c7 => ?_)
    · refine lv_iconst (v := 0) hx hb dX7_isIn_14 (by decide) ?_
      exact e_bool hC hI (by decide) (rI (bi_f (fun z => absurd c7 (Int32.not_lt.mpr z.2))).symm) (Nat.le_of_ble_eq_true rfl) (Nat.le_of_ble_eq_true rfl) dX7_isIn_15
    · refine lv_iconst (v := 1) hx hb dX7_isIn_10 (by decide) ?_
      refine lv_goto (tgt := 15) hx hb dX7_isIn_11 (by decide) ?_
      exact e_bool hC hI (by decide) (rI (bi_t ⟨Int32.not_lt.mp c2, Int32.not_lt.mp c7⟩).symm) (Nat.le_of_ble_eq_true rfl) (Nat.le_of_ble_eq_true rfl) dX7_isIn_15
set_option maxHeartbeats 4000000 in
set_option maxRecDepth 100000 in
theorem tX7_isProduct (l : Launch) (g : Gg) (B0 : Nat) (ad : Ad) (σ : Sg) (pd : Int64) (th : Int32) (h : Wd) (v : Int32) : MM l g B0 yX7_isProduct (wsM yX7_isProduct cX7_isProduct 2 (some .boolean)) ({ frames := 1, cells := 0, slots := 0, locals := 22 } : Room) [.ref (ad 20 0), .int v] ad (fM g ad σ pd th h) (dI (bi (0 ≤ v ∧ v ≤ σ 5 0 - 1)) ad (fM g ad σ pd th h)) (noX) 0 0 := by
  refine MM.start (by decide) (Nat.le_of_ble_eq_true rfl) ?_
  intro hl9 p e s m below meth c ls hC hno hI hl0
  have hx := hC.1.1
  have hb := hC.1.2.1
  have hts := hC.1.2.2.2.2
  have hl : lv_has ls 2 [(0, .ref (ad 20 0)), (1, .int v)] := hl0
  obtain ⟨H, hH⟩ : ∃ H, H = s.heap := ⟨_, rfl⟩
  obtain ⟨locs, hLo⟩ : ∃ L : List Loc, L = [] := ⟨_, rfl⟩
  rw [← hH, ← hLo] at hI ⊢
  clear hH hLo hl0
  refine lv_iload_n hx hb dX7_isProduct_0 rfl (lv_at hl 1 rfl) ?_
  refine lv_iconst (v := 0) hx hb dX7_isProduct_1 (by decide) ?_
  refine lv_aload_n hx hb dX7_isProduct_2 rfl (lv_at hl 0 rfl) ?_
  refine gf_X7_63 hC hI fM_o rfl dX7_isProduct_3 ?_
  refine lv_iconst (v := 1) hx hb dX7_isProduct_6 (by decide) ?_
  refine lv_isub hx hb dX7_isProduct_7 ?_
  refine c_Si (rest := []) hl9 hC hI hl.1 (tX7_isIn l g B0 ad _ v 0 ((σ 5 0) - 1)) (cw_X7_66 hts rfl rfl ⟨(Nat.le_of_ble_eq_true rfl), (Nat.le_of_ble_eq_true rfl)⟩) rfl rfl (Nat.le_of_ble_eq_true rfl) dX7_isProduct_8 ⟨(Nat.le_of_ble_eq_true rfl), (Nat.le_of_ble_eq_true rfl)⟩ (fun H locs hI => ?_)
  exact e_bool hC hI bi_nar ⟨rfl, rfl, rfl⟩ (Nat.le_of_ble_eq_true rfl) (Nat.le_of_ble_eq_true rfl) dX7_isProduct_11
set_option maxHeartbeats 4000000 in
set_option maxRecDepth 100000 in
theorem tX7_isRoom (l : Launch) (g : Gg) (B0 : Nat) (ad : Ad) (σ : Sg) (pd : Int64) (th : Int32) (h : Wd) (v : Int32) : MM l g B0 yX7_isRoom (wsM yX7_isRoom cX7_isRoom 2 (some .boolean)) ({ frames := 1, cells := 0, slots := 0, locals := 22 } : Room) [.ref (ad 20 0), .int v] ad (fM g ad σ pd th h) (dI (bi (0 ≤ v ∧ v ≤ σ 10 0 - 1)) ad (fM g ad σ pd th h)) (noX) 0 0 := by
  refine MM.start (by decide) (Nat.le_of_ble_eq_true rfl) ?_
  intro hl9 p e s m below meth c ls hC hno hI hl0
  have hx := hC.1.1
  have hb := hC.1.2.1
  have hts := hC.1.2.2.2.2
  have hl : lv_has ls 2 [(0, .ref (ad 20 0)), (1, .int v)] := hl0
  obtain ⟨H, hH⟩ : ∃ H, H = s.heap := ⟨_, rfl⟩
  obtain ⟨locs, hLo⟩ : ∃ L : List Loc, L = [] := ⟨_, rfl⟩
  rw [← hH, ← hLo] at hI ⊢
  clear hH hLo hl0
  refine lv_iload_n hx hb dX7_isRoom_0 rfl (lv_at hl 1 rfl) ?_
  refine lv_iconst (v := 0) hx hb dX7_isRoom_1 (by decide) ?_
  refine lv_aload_n hx hb dX7_isRoom_2 rfl (lv_at hl 0 rfl) ?_
  refine gf_X7_70 hC hI fM_o rfl dX7_isRoom_3 ?_
  refine lv_iconst (v := 1) hx hb dX7_isRoom_6 (by decide) ?_
  refine lv_isub hx hb dX7_isRoom_7 ?_
  refine c_Si (rest := []) hl9 hC hI hl.1 (tX7_isIn l g B0 ad _ v 0 ((σ 10 0) - 1)) (cw_X7_66 hts rfl rfl ⟨(Nat.le_of_ble_eq_true rfl), (Nat.le_of_ble_eq_true rfl)⟩) rfl rfl (Nat.le_of_ble_eq_true rfl) dX7_isRoom_8 ⟨(Nat.le_of_ble_eq_true rfl), (Nat.le_of_ble_eq_true rfl)⟩ (fun H locs hI => ?_)
  exact e_bool hC hI bi_nar ⟨rfl, rfl, rfl⟩ (Nat.le_of_ble_eq_true rfl) (Nat.le_of_ble_eq_true rfl) dX7_isRoom_11
set_option maxHeartbeats 4000000 in
set_option maxRecDepth 100000 in
theorem tX7_isPallet (l : Launch) (g : Gg) (B0 : Nat) (ad : Ad) (σ : Sg) (pd : Int64) (th : Int32) (h : Wd) (v : Int32) : MM l g B0 yX7_isPallet (wsM yX7_isPallet cX7_isPallet 2 (some .boolean)) ({ frames := 1, cells := 0, slots := 0, locals := 22 } : Room) [.ref (ad 20 0), .int v] ad (fM g ad σ pd th h) (dI (bi (0 ≤ v ∧ v ≤ σ 17 0 - 1)) ad (fM g ad σ pd th h)) (noX) 0 0 := by
  refine MM.start (by decide) (Nat.le_of_ble_eq_true rfl) ?_
  intro hl9 p e s m below meth c ls hC hno hI hl0
  have hx := hC.1.1
  have hb := hC.1.2.1
  have hts := hC.1.2.2.2.2
  have hl : lv_has ls 2 [(0, .ref (ad 20 0)), (1, .int v)] := hl0
  obtain ⟨H, hH⟩ : ∃ H, H = s.heap := ⟨_, rfl⟩
  obtain ⟨locs, hLo⟩ : ∃ L : List Loc, L = [] := ⟨_, rfl⟩
  rw [← hH, ← hLo] at hI ⊢
  clear hH hLo hl0
  refine lv_iload_n hx hb dX7_isPallet_0 rfl (lv_at hl 1 rfl) ?_
  refine lv_iconst (v := 0) hx hb dX7_isPallet_1 (by decide) ?_
  refine lv_aload_n hx hb dX7_isPallet_2 rfl (lv_at hl 0 rfl) ?_
  refine gf_X7_73 hC hI fM_o rfl dX7_isPallet_3 ?_
  refine lv_iconst (v := 1) hx hb dX7_isPallet_6 (by decide) ?_
  refine lv_isub hx hb dX7_isPallet_7 ?_
  refine c_Si (rest := []) hl9 hC hI hl.1 (tX7_isIn l g B0 ad _ v 0 ((σ 17 0) - 1)) (cw_X7_66 hts rfl rfl ⟨(Nat.le_of_ble_eq_true rfl), (Nat.le_of_ble_eq_true rfl)⟩) rfl rfl (Nat.le_of_ble_eq_true rfl) dX7_isPallet_8 ⟨(Nat.le_of_ble_eq_true rfl), (Nat.le_of_ble_eq_true rfl)⟩ (fun H locs hI => ?_)
  exact e_bool hC hI bi_nar ⟨rfl, rfl, rfl⟩ (Nat.le_of_ble_eq_true rfl) (Nat.le_of_ble_eq_true rfl) dX7_isPallet_11
set_option maxHeartbeats 4000000 in
set_option maxRecDepth 100000 in
theorem tX7_outsideAt (l : Launch) (g : Gg) (B0 : Nat) (ad : Ad) (σ : Sg) (pd : Int64) (th : Int32) (h : Wd) (hr : Int32) : MM l g B0 yX7_outsideAt (wsM yX7_outsideAt cX7_outsideAt 2 (some .int)) ({ frames := 1, cells := 0, slots := 0, locals := 22 } : Room) [.ref (ad 20 0), .int hr] ad (fM g ad σ pd th h) (dI (outS σ hr) ad (fM g ad σ pd th h)) (noX) 0 0 := by
  refine MM.start (by decide) (Nat.le_of_ble_eq_true rfl) ?_
  intro hl9 p e s m below meth c ls hC hno hI hl0
  have hx := hC.1.1
  have hb := hC.1.2.1
  have hts := hC.1.2.2.2.2
  have hl : lv_has ls 2 [(0, .ref (ad 20 0)), (1, .int hr)] := hl0
  obtain ⟨H, hH⟩ : ∃ H, H = s.heap := ⟨_, rfl⟩
  obtain ⟨locs, hLo⟩ : ∃ L : List Loc, L = [] := ⟨_, rfl⟩
  rw [← hH, ← hLo] at hI ⊢
  clear hH hLo hl0
  refine lv_aload_n hx hb dX7_outsideAt_0 rfl (lv_at hl 0 rfl) ?_
  refine gf_X7_7 hC hI fM_o rfl dX7_outsideAt_1 ?_
  refine lv_iload_n hx hb dX7_outsideAt_4 rfl (lv_at hl 1 rfl) ?_
  refine lv_bipush (v := 8) hx hb dX7_outsideAt_5 (by decide) ?_
  refine lv_bipush (v := 20) hx hb dX7_outsideAt_7 (by decide) ?_
  refine c_Si (rest := [.int (σ 2 0)]) hl9 hC hI hl.1 (tX7_isIn l g B0 ad _ hr 8 20) (cw_X7_66 hts rfl rfl ⟨(Nat.le_of_ble_eq_true rfl), (Nat.le_of_ble_eq_true rfl)⟩) rfl rfl (Nat.le_of_ble_eq_true rfl) dX7_outsideAt_9 ⟨(Nat.le_of_ble_eq_true rfl), (Nat.le_of_ble_eq_true rfl)⟩ (fun H locs hI => ?_)
  refine lv_if_eq (tgt := 36) hx hb dX7_outsideAt_12 (by decide) (fun c12 => ?_) (fun c12 => ?_)
  · have c12 := bi_0.mp c12
    refine lv_iconst (v := 0) hx hb dX7_outsideAt_36 (by decide) ?_
    refine lv_iadd hx hb dX7_outsideAt_37 ?_
    exact e_int hC hI (rI (by unfold outS; rw [if_neg c12])) (Nat.le_of_ble_eq_true rfl) (Nat.le_of_ble_eq_true rfl) dX7_outsideAt_38
  · have c12 := bi_1.mp c12
    refine lv_aload_n hx hb dX7_outsideAt_15 rfl (lv_at hl 0 rfl) ?_
    refine gf_X7_76 hC hI fM_o rfl dX7_outsideAt_16 ?_
    refine lv_bipush (v := 6) hx hb dX7_outsideAt_19 (by decide) ?_
    refine lv_iload_n hx hb dX7_outsideAt_21 rfl (lv_at hl 1 rfl) ?_
    refine lv_bipush (v := 14) hx hb dX7_outsideAt_22 (by decide) ?_
    refine lv_isub hx hb dX7_outsideAt_24 ?_
    refine va_mabs hx hb (hC.1.2.2.1.trans hl.1.symm) hC.1.2.2.2.1 (hts _ wd_ml_X7_79) (hts _ wd_st_yJ9_abs_0f7a4) (hts _ wd_in_RJ9) (hts _ wd_co_yJ9_abs_0f7a4) (Nat.le_of_ble_eq_true rfl) (Nat.le_of_ble_eq_true rfl) (Nat.le_of_ble_eq_true rfl) (Nat.le_of_ble_eq_true rfl) dX7_outsideAt_25 ?_
    refine lv_isub hx hb dX7_outsideAt_28 ?_
    refine lv_imul hx hb dX7_outsideAt_29 ?_
    refine lv_bipush (v := 6) hx hb dX7_outsideAt_30 (by decide) ?_
    refine lv_idiv hx hb dX7_outsideAt_32 (by decide) ?_
    refine lv_goto (tgt := 37) hx hb dX7_outsideAt_33 (by decide) ?_
    refine lv_iadd hx hb dX7_outsideAt_37 ?_
    exact e_int hC hI (rI (by unfold outS; rw [if_pos c12]; rfl)) (Nat.le_of_ble_eq_true rfl) (Nat.le_of_ble_eq_true rfl) dX7_outsideAt_38
set_option maxHeartbeats 4000000 in
set_option maxRecDepth 100000 in
theorem tX7_isAim (l : Launch) (g : Gg) (B0 : Nat) (ad : Ad) (f : Wd) (v : Int32) : MM l g B0 yX7_isAim (wsM yX7_isAim cX7_isAim 1 (some .boolean)) ({ frames := 1, cells := 0, slots := 0, locals := 22 } : Room) [.int v] ad (f) (dI (bi (-300 ≤ v ∧ v ≤ 150)) ad f) (noX) 0 0 := by
  refine MM.start (by decide) (Nat.le_of_ble_eq_true rfl) ?_
  intro hl9 p e s m below meth c ls hC hno hI hl0
  have hx := hC.1.1
  have hb := hC.1.2.1
  have hts := hC.1.2.2.2.2
  have hl : lv_has ls 1 [(0, .int v)] := hl0
  obtain ⟨H, hH⟩ : ∃ H, H = s.heap := ⟨_, rfl⟩
  obtain ⟨locs, hLo⟩ : ∃ L : List Loc, L = [] := ⟨_, rfl⟩
  rw [← hH, ← hLo] at hI ⊢
  clear hH hLo hl0
  refine lv_iload_n hx hb dX7_isAim_0 rfl (lv_at hl 0 rfl) ?_
  refine lv_sipush (v := (-300)) hx hb dX7_isAim_1 (by decide) ?_
  refine lv_sipush (v := 150) hx hb dX7_isAim_4 (by decide) ?_
  refine c_Si (rest := []) hl9 hC hI hl.1 (tX7_isIn l g B0 ad _ v (-300) 150) (cw_X7_66 hts rfl rfl ⟨(Nat.le_of_ble_eq_true rfl), (Nat.le_of_ble_eq_true rfl)⟩) rfl rfl (Nat.le_of_ble_eq_true rfl) dX7_isAim_7 ⟨(Nat.le_of_ble_eq_true rfl), (Nat.le_of_ble_eq_true rfl)⟩ (fun H locs hI => ?_)
  exact e_bool hC hI bi_nar ⟨rfl, rfl, rfl⟩ (Nat.le_of_ble_eq_true rfl) (Nat.le_of_ble_eq_true rfl) dX7_isAim_10
set_option maxHeartbeats 4000000 in
set_option maxRecDepth 100000 in
theorem tX7_lowest (l : Launch) (g : Gg) (B0 : Nat) (ad : Ad) (σ : Sg) (pd : Int64) (th : Int32) (h : Wd)  : MM l g B0 yX7_lowest (wsM yX7_lowest cX7_lowest 6 (some .int)) ({ frames := 1, cells := 0, slots := 0, locals := 21 } : Room) [.ref (ad 20 0)] ad (fM g ad σ pd th h) (dI (lowS σ) ad (fM g ad σ pd th h)) (noX) 0 0 := by
  refine MM.start (by decide) (Nat.le_of_ble_eq_true rfl) ?_
  intro hl9 p e s m below meth c ls hC hno hI hl0
  have hx := hC.1.1
  have hb := hC.1.2.1
  have hts := hC.1.2.2.2.2
  have hl : lv_has ls 6 [(0, .ref (ad 20 0))] := hl0
  obtain ⟨H, hH⟩ : ∃ H, H = s.heap := ⟨_, rfl⟩
  obtain ⟨locs, hLo⟩ : ∃ L : List Loc, L = [] := ⟨_, rfl⟩
  rw [← hH, ← hLo] at hI ⊢
  clear hH hLo hl0
  refine lv_aload_n hx hb dX7_lowest_0 rfl (lv_at hl 0 rfl) ?_
  refine gf_X7_13 hC hI fM_o rfl dX7_lowest_1 ?_
  refine lv_iconst (v := 0) hx hb dX7_lowest_4 (by decide) ?_
  refine r_iald hC hI fM_4 (j := 0) rfl (by decide) (by decide) dX7_lowest_5 ?_
  refine lv_istore_n (lv' := [(1, .int (lowAt σ 0)), (0, .ref (ad 20 0))]) hx hb dX7_lowest_6 rfl hl (by decide) rfl (fun ls hl => ?_)
  refine lv_aload_n hx hb dX7_lowest_7 rfl (lv_at hl 1 rfl) ?_
  refine gf_X7_13 hC hI fM_o rfl dX7_lowest_8 ?_
  refine lv_astore_n (lv' := [(2, .ref (ad 24 0)), (1, .int (lowAt σ 0)), (0, .ref (ad 20 0))]) hx hb dX7_lowest_11 rfl hl (by decide) rfl (fun ls hl => ?_)
  refine lv_aload_n hx hb dX7_lowest_12 rfl (lv_at hl 0 rfl) ?_
  refine r_alen hC hI fM_4 0 rfl (v := 24) rfl dX7_lowest_13 ?_
  refine lv_istore_n (lv' := [(3, .int 24), (2, .ref (ad 24 0)), (1, .int (lowAt σ 0)), (0, .ref (ad 20 0))]) hx hb dX7_lowest_14 rfl hl (by decide) rfl (fun ls hl => ?_)
  refine lv_iconst (v := 0) hx hb dX7_lowest_15 (by decide) ?_
  refine lv_istore (lv' := [(4, .int (nI 0)), (3, .int 24), (2, .ref (ad 24 0)), (1, .int (lowAt σ 0)), (0, .ref (ad 20 0))]) hx hb dX7_lowest_16 hl (by decide) rfl (fun ls hl => ?_)
  have L18 : ∀ (n : Nat) (k : Nat), k ≤ 24 → 25 ≤ k + n → ∀ (H : Heap) (locs : List Loc), WI g ad B0 (fM g ad σ pd th h) s H locs → ∀ (ls : Array Slot), lv_has ls 6 [(4, .int (nI k)), (3, .int 24), (2, .ref (ad 24 0)), (1, .int (lowAt σ k)), (0, .ref (ad 20 0))] → W p l e ({ frames := 1, cells := 0, slots := 0, locals := 21 } : Room) s m ([.ref (ad 20 0)] : List Value).toArray below meth c H locs 0 0 (vx_MQ below (QI g B0 (dI (lowS σ) ad (fM g ad σ pd th h))) (XI g B0 (noX)) ([.ref (ad 20 0)] : List Value).toArray s 0 0 (fun q => B0 ≤ q)) (F0 m 18 ls []) := by
    intro n
    induction n with
    | zero =>
      intro k hk hfu
      exact absurd hfu (by omega)
    | succ n ih =>
      intro k hk hfu H locs hI ls hl
      refine lv_iload hx hb dX7_lowest_18 (lv_at hl 0 rfl) ?_
      refine lv_iload_n hx hb dX7_lowest_20 rfl (lv_at hl 1 rfl) ?_
      refine lv_icmp_ge (tgt := 43) hx hb dX7_lowest_21 (by decide) (fun c21 => ?_) (fun c21 => ?_)
      · have hk2 : 24 ≤ k := ge_T rfl (by decide) (by omega) c21
        refine lv_iload_n hx hb dX7_lowest_43 rfl (lv_at hl 3 rfl) ?_
        exact e_int hC hI (rI (by rw [show k = 24 by omega]; rfl)) (Nat.le_of_ble_eq_true rfl) (Nat.le_of_ble_eq_true rfl) dX7_lowest_44
      · have hk2 : k < 24 := ge_F rfl (by decide) (by omega) c21
        refine lv_aload_n hx hb dX7_lowest_24 rfl (lv_at hl 2 rfl) ?_
        refine lv_iload hx hb dX7_lowest_25 (lv_at hl 0 rfl) ?_
        refine r_iald hC hI fM_4 (j := k) rfl (by omega) (by decide) dX7_lowest_27 ?_
        refine lv_istore (lv' := [(5, .int (σ 4 k)), (4, .int (nI k)), (3, .int 24), (2, .ref (ad 24 0)), (1, .int (lowAt σ k)), (0, .ref (ad 20 0))]) hx hb dX7_lowest_28 hl (by decide) rfl (fun ls hl => ?_)
        refine lv_iload_n hx hb dX7_lowest_30 rfl (lv_at hl 4 rfl) ?_
        refine lv_iload hx hb dX7_lowest_31 (lv_at hl 0 rfl) ?_
        refine va_mmin hx hb (hC.1.2.2.1.trans hl.1.symm) hC.1.2.2.2.1 (hts _ wd_ml_X7_94) (hts _ wd_st_yJ9_min_7cf53) (hts _ wd_in_RJ9) (hts _ wd_co_yJ9_min_7cf53) (Nat.le_of_ble_eq_true rfl) (Nat.le_of_ble_eq_true rfl) (Nat.le_of_ble_eq_true rfl) (Nat.le_of_ble_eq_true rfl) dX7_lowest_33 ?_
        refine lv_istore_n (lv' := [(1, .int (lowAt σ (k + 1))), (5, .int (σ 4 k)), (4, .int (nI k)), (3, .int 24), (2, .ref (ad 24 0)), (0, .ref (ad 20 0))]) hx hb dX7_lowest_36 rfl hl (by decide) rfl (fun ls hl => ?_)
        refine lv_iinc (v := nI (k + 1)) (lv' := [(4, .int (nI (k + 1))), (1, .int (lowAt σ (k + 1))), (5, .int (σ 4 k)), (3, .int 24), (2, .ref (ad 24 0)), (0, .ref (ad 20 0))]) hx hb dX7_lowest_37 hl (k := 2) rfl (nI_1 _) (by decide) rfl (fun ls hl => ?_)
        refine lv_goto (tgt := 18) hx hb dX7_lowest_40 (by decide) ?_
        exact ih (k + 1) (by omega) (by omega) _ _ hI ls (lv_sub hl [0, 3, 4, 1, 5] rfl)
  exact L18 25 0 (by omega) (by omega) _ _ hI ls (lv_sub hl [0, 1, 2, 3, 4] rfl)
set_option maxHeartbeats 4000000 in
set_option maxRecDepth 100000 in
theorem tX7_free (l : Launch) (g : Gg) (B0 : Nat) (ad : Ad) (σ : Sg) (pd : Int64) (th : Int32) (h : Wd) (r : Nat) (hok : OkP σ) (hr : r < 6) : MM l g B0 yX7_free (wsM yX7_free cX7_free 4 (some .int)) ({ frames := 0, cells := 0, slots := 0, locals := 0 } : Room) [.ref (ad 20 0), .int (nI r)] ad (fM g ad σ pd th h) (dI (freeS σ r) ad (fM g ad σ pd th h)) (noX) 0 0 := by
  refine MM.start (by decide) (Nat.le_of_ble_eq_true rfl) ?_
  intro hl9 p e s m below meth c ls hC hno hI hl0
  have hx := hC.1.1
  have hb := hC.1.2.1
  have hts := hC.1.2.2.2.2
  have hl : lv_has ls 4 [(0, .ref (ad 20 0)), (1, .int (nI r))] := hl0
  obtain ⟨H, hH⟩ : ∃ H, H = s.heap := ⟨_, rfl⟩
  obtain ⟨locs, hLo⟩ : ∃ L : List Loc, L = [] := ⟨_, rfl⟩
  rw [← hH, ← hLo] at hI ⊢
  clear hH hLo hl0
  obtain ⟨hn1, hn2, -⟩ := id hok
  refine lv_aload_n hx hb dX7_free_0 rfl (lv_at hl 0 rfl) ?_
  refine gf_X7_29 hC hI fM_o rfl dX7_free_1 ?_
  refine lv_iload_n hx hb dX7_free_4 rfl (lv_at hl 1 rfl) ?_
  refine r_iald hC hI fM_11 (j := r) rfl (by omega) (by decide) dX7_free_5 ?_
  refine lv_istore_n (lv' := [(2, .int (freeAt σ r 0)), (0, .ref (ad 20 0)), (1, .int (nI r))]) hx hb dX7_free_6 rfl hl (by decide) rfl (fun ls hl => ?_)
  refine lv_iconst (v := 0) hx hb dX7_free_7 (by decide) ?_
  refine lv_istore_n (lv' := [(3, .int (nI 0)), (2, .int (freeAt σ r 0)), (0, .ref (ad 20 0)), (1, .int (nI r))]) hx hb dX7_free_8 rfl hl (by decide) rfl (fun ls hl => ?_)
  have L9 : ∀ (n : Nat) (k : Nat), k ≤ nt σ → nt σ + 1 ≤ k + n → ∀ (H : Heap) (locs : List Loc), WI g ad B0 (fM g ad σ pd th h) s H locs → ∀ (ls : Array Slot), lv_has ls 4 [(3, .int (nI k)), (2, .int (freeAt σ r k)), (0, .ref (ad 20 0)), (1, .int (nI r))] → W p l e ({ frames := 0, cells := 0, slots := 0, locals := 0 } : Room) s m ([.ref (ad 20 0), .int (nI r)] : List Value).toArray below meth c H locs 0 0 (vx_MQ below (QI g B0 (dI (freeS σ r) ad (fM g ad σ pd th h))) (XI g B0 (noX)) ([.ref (ad 20 0), .int (nI r)] : List Value).toArray s 0 0 (fun q => B0 ≤ q)) (F0 m 9 ls []) := by
    intro n
    induction n with
    | zero =>
      intro k hk hfu
      exact absurd hfu (by omega)
    | succ n ih =>
      intro k hk hfu H locs hI ls hl
      refine lv_iload_n hx hb dX7_free_9 rfl (lv_at hl 0 rfl) ?_
      refine lv_aload_n hx hb dX7_free_10 rfl (lv_at hl 2 rfl) ?_
      refine gf_X7_73 hC hI fM_o rfl dX7_free_11 ?_
      refine lv_icmp_ge (tgt := 41) hx hb dX7_free_14 (by decide) (fun c14 => ?_) (fun c14 => ?_)
      · have hk2 : nt σ ≤ k := ge_T hn1 (by omega) (by omega) c14
        refine lv_iload_n hx hb dX7_free_41 rfl (lv_at hl 1 rfl) ?_
        exact e_int hC hI (rI (by rw [show k = nt σ by omega]; rfl)) (Nat.le_of_ble_eq_true rfl) (Nat.le_of_ble_eq_true rfl) dX7_free_42
      · have hk2 : k < nt σ := ge_F hn1 (by omega) (by omega) c14
        refine lv_iload_n hx hb dX7_free_17 rfl (lv_at hl 1 rfl) ?_
        refine lv_aload_n hx hb dX7_free_18 rfl (lv_at hl 2 rfl) ?_
        refine gf_X7_51 hC hI fM_o rfl dX7_free_19 ?_
        refine lv_iload_n hx hb dX7_free_22 rfl (lv_at hl 0 rfl) ?_
        refine r_iald hC hI fM_19 (j := k) rfl (by omega) (by decide) dX7_free_23 ?_
        refine lv_iload_n hx hb dX7_free_24 rfl (lv_at hl 3 rfl) ?_
        refine lv_icmp_ne (tgt := 32) hx hb dX7_free_25 (by decide) (fun c25 => ?_) (fun c25 => ?_)
        · refine lv_iconst (v := 0) hx hb dX7_free_32 (by decide) ?_
          refine lv_isub hx hb dX7_free_33 ?_
          rw [show freeAt σ r k - 0 = freeAt σ r (k + 1) from by show _ = _ - (if _ then _ else _); rw [if_neg c25]]
          refine lv_istore_n (lv' := [(2, .int (freeAt σ r (k + 1))), (3, .int (nI k)), (0, .ref (ad 20 0)), (1, .int (nI r))]) hx hb dX7_free_34 rfl hl (by decide) rfl (fun ls hl => ?_)
          refine lv_iinc (v := nI (k + 1)) (lv' := [(3, .int (nI (k + 1))), (2, .int (freeAt σ r (k + 1))), (0, .ref (ad 20 0)), (1, .int (nI r))]) hx hb dX7_free_35 hl (k := 1) rfl (nI_1 _) (by decide) rfl (fun ls hl => ?_)
          refine lv_goto (tgt := 9) hx hb dX7_free_38 (by decide) ?_
          exact ih (k + 1) (by omega) (by omega) _ _ hI ls (lv_sub hl [0, 1, 2, 3] rfl)
        · refine lv_iconst (v := 1) hx hb dX7_free_28 (by decide) ?_
          refine lv_goto (tgt := 33) hx hb dX7_free_29 (by decide) ?_
          refine lv_isub hx hb dX7_free_33 ?_
          rw [show freeAt σ r k - 1 = freeAt σ r (k + 1) from by show _ = _ - (if _ then _ else _); rw [if_pos c25]]
          refine lv_istore_n (lv' := [(2, .int (freeAt σ r (k + 1))), (3, .int (nI k)), (0, .ref (ad 20 0)), (1, .int (nI r))]) hx hb dX7_free_34 rfl hl (by decide) rfl (fun ls hl => ?_)
          refine lv_iinc (v := nI (k + 1)) (lv' := [(3, .int (nI (k + 1))), (2, .int (freeAt σ r (k + 1))), (0, .ref (ad 20 0)), (1, .int (nI r))]) hx hb dX7_free_35 hl (k := 1) rfl (nI_1 _) (by decide) rfl (fun ls hl => ?_)
          refine lv_goto (tgt := 9) hx hb dX7_free_38 (by decide) ?_
          exact ih (k + 1) (by omega) (by omega) _ _ hI ls (lv_sub hl [0, 1, 2, 3] rfl)
  exact L9 (nt σ + 1) 0 (by omega) (by omega) _ _ hI ls (lv_sub hl [0, 1, 2, 3] rfl)
end
