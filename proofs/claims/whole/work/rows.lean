section
-- ===== PART A: goes FIRST, ahead of the names: the tables' words, and 'selects' of the private methods out of them =====
/-- a private method of a class that the tables say can be made, by its rows of tables_1 -/
def lw_okq (q : MethodName × Nat) : Prop := (q.1.cls ≠ "java/lang/invoke/MethodHandle" ∧ q.1.cls ≠ "java/lang/invoke/VarHandle") ∧ Cond.instantiable q.1.cls q.2 ∈ tables_1 ∧ Cond.privateMethod q.1 ∈ tables_1 ∧ Cond.instanceMethod q.1 ∈ tables_1
theorem lw_p0 : lw_okq (⟨"KeyStates", "pageToChange", "(I)LKeyStates$Page;"⟩, 9) := ⟨⟨by decide +kernel, by decide +kernel⟩, List.mem_of_getElem? (i := 17) (by decide +kernel), List.mem_of_getElem? (i := 132) (by decide +kernel), List.mem_of_getElem? (i := 133) (by decide +kernel)⟩
theorem lw_p1 : lw_okq (⟨"KeyStates", "countSnapshots", "()I"⟩, 9) := ⟨⟨by decide +kernel, by decide +kernel⟩, List.mem_of_getElem? (i := 17) (by decide +kernel), List.mem_of_getElem? (i := 181) (by decide +kernel), List.mem_of_getElem? (i := 182) (by decide +kernel)⟩
theorem lw_p2 : lw_okq (⟨"KeyStates", "needToWrite", "(IIJ)V"⟩, 9) := ⟨⟨by decide +kernel, by decide +kernel⟩, List.mem_of_getElem? (i := 17) (by decide +kernel), List.mem_of_getElem? (i := 212) (by decide +kernel), List.mem_of_getElem? (i := 213) (by decide +kernel)⟩
theorem lw_p3 : lw_okq (⟨"KeyStates", "needState", "(I)V"⟩, 9) := ⟨⟨by decide +kernel, by decide +kernel⟩, List.mem_of_getElem? (i := 17) (by decide +kernel), List.mem_of_getElem? (i := 216) (by decide +kernel), List.mem_of_getElem? (i := 217) (by decide +kernel)⟩
theorem lw_p4 : lw_okq (⟨"java/lang/Throwable", "fillInStackTrace", "(I)Ljava/lang/Throwable;"⟩, 6) := ⟨⟨by decide +kernel, by decide +kernel⟩, List.mem_of_getElem? (i := 259) (by decide +kernel), List.mem_of_getElem? (i := 257) (by decide +kernel), List.mem_of_getElem? (i := 258) (by decide +kernel)⟩
theorem lw_p5 : lw_okq (⟨"KeyStates", "needKey", "()V"⟩, 9) := ⟨⟨by decide +kernel, by decide +kernel⟩, List.mem_of_getElem? (i := 17) (by decide +kernel), List.mem_of_getElem? (i := 311) (by decide +kernel), List.mem_of_getElem? (i := 312) (by decide +kernel)⟩
theorem lw_p6 : lw_okq (⟨"KeyStates", "entryAtHand", "(I)LKeyStates$Entry;"⟩, 9) := ⟨⟨by decide +kernel, by decide +kernel⟩, List.mem_of_getElem? (i := 17) (by decide +kernel), List.mem_of_getElem? (i := 331) (by decide +kernel), List.mem_of_getElem? (i := 332) (by decide +kernel)⟩
theorem lw_p7 : lw_okq (⟨"KeyStates", "hasNoRoomFor", "(LKeyStates$Entry;)Z"⟩, 9) := ⟨⟨by decide +kernel, by decide +kernel⟩, List.mem_of_getElem? (i := 17) (by decide +kernel), List.mem_of_getElem? (i := 387) (by decide +kernel), List.mem_of_getElem? (i := 388) (by decide +kernel)⟩
theorem lw_p8 : lw_okq (⟨"KeyStates", "keep", "(LKeyStates$Entry;)V"⟩, 9) := ⟨⟨by decide +kernel, by decide +kernel⟩, List.mem_of_getElem? (i := 17) (by decide +kernel), List.mem_of_getElem? (i := 403) (by decide +kernel), List.mem_of_getElem? (i := 404) (by decide +kernel)⟩
theorem lw_p9 : lw_okq (⟨"KeyStates$Page", "freeRow", "()I"⟩, 2) := ⟨⟨by decide +kernel, by decide +kernel⟩, List.mem_of_getElem? (i := 32) (by decide +kernel), List.mem_of_getElem? (i := 413) (by decide +kernel), List.mem_of_getElem? (i := 414) (by decide +kernel)⟩
theorem lw_p10 : lw_okq (⟨"KeyStates", "needToRead", "(III)V"⟩, 9) := ⟨⟨by decide +kernel, by decide +kernel⟩, List.mem_of_getElem? (i := 17) (by decide +kernel), List.mem_of_getElem? (i := 426) (by decide +kernel), List.mem_of_getElem? (i := 427) (by decide +kernel)⟩
theorem lw_p11 : lw_okq (⟨"KeyStates", "sortKeys", "(I)I"⟩, 9) := ⟨⟨by decide +kernel, by decide +kernel⟩, List.mem_of_getElem? (i := 17) (by decide +kernel), List.mem_of_getElem? (i := 587) (by decide +kernel), List.mem_of_getElem? (i := 588) (by decide +kernel)⟩
theorem lw_p12 : lw_okq (⟨"KeyStates", "slotOf", "(I)I"⟩, 9) := ⟨⟨by decide +kernel, by decide +kernel⟩, List.mem_of_getElem? (i := 17) (by decide +kernel), List.mem_of_getElem? (i := 612) (by decide +kernel), List.mem_of_getElem? (i := 613) (by decide +kernel)⟩
theorem lw_p13 : lw_okq (⟨"KeyStates", "snapshotIn", "(I)LKeyStates$Picture;"⟩, 9) := ⟨⟨by decide +kernel, by decide +kernel⟩, List.mem_of_getElem? (i := 17) (by decide +kernel), List.mem_of_getElem? (i := 616) (by decide +kernel), List.mem_of_getElem? (i := 617) (by decide +kernel)⟩
theorem lw_p14 : lw_okq (⟨"KeyStates", "pictureOf", "(I)LKeyStates$Picture;"⟩, 9) := ⟨⟨by decide +kernel, by decide +kernel⟩, List.mem_of_getElem? (i := 17) (by decide +kernel), List.mem_of_getElem? (i := 632) (by decide +kernel), List.mem_of_getElem? (i := 633) (by decide +kernel)⟩
theorem lw_p15 : lw_okq (⟨"KeyStates$Entry", "foldedUp", "(I)LKeyStates$Entry;"⟩, 6) := ⟨⟨by decide +kernel, by decide +kernel⟩, List.mem_of_getElem? (i := 350) (by decide +kernel), List.mem_of_getElem? (i := 695) (by decide +kernel), List.mem_of_getElem? (i := 696) (by decide +kernel)⟩
def lw_privs_1 : List (MethodName × Nat) := [(⟨"KeyStates", "pageToChange", "(I)LKeyStates$Page;"⟩, 9), (⟨"KeyStates", "countSnapshots", "()I"⟩, 9), (⟨"KeyStates", "needToWrite", "(IIJ)V"⟩, 9), (⟨"KeyStates", "needState", "(I)V"⟩, 9), (⟨"java/lang/Throwable", "fillInStackTrace", "(I)Ljava/lang/Throwable;"⟩, 6), (⟨"KeyStates", "needKey", "()V"⟩, 9), (⟨"KeyStates", "entryAtHand", "(I)LKeyStates$Entry;"⟩, 9), (⟨"KeyStates", "hasNoRoomFor", "(LKeyStates$Entry;)Z"⟩, 9), (⟨"KeyStates", "keep", "(LKeyStates$Entry;)V"⟩, 9), (⟨"KeyStates$Page", "freeRow", "()I"⟩, 2), (⟨"KeyStates", "needToRead", "(III)V"⟩, 9), (⟨"KeyStates", "sortKeys", "(I)I"⟩, 9), (⟨"KeyStates", "slotOf", "(I)I"⟩, 9), (⟨"KeyStates", "snapshotIn", "(I)LKeyStates$Picture;"⟩, 9), (⟨"KeyStates", "pictureOf", "(I)LKeyStates$Picture;"⟩, 9), (⟨"KeyStates$Entry", "foldedUp", "(I)LKeyStates$Entry;"⟩, 6)]
theorem lw_r1 : ∀ q ∈ lw_privs_1, lw_okq q := List.forall_mem_cons.mpr ⟨lw_p0, List.forall_mem_cons.mpr ⟨lw_p1, List.forall_mem_cons.mpr ⟨lw_p2, List.forall_mem_cons.mpr ⟨lw_p3, List.forall_mem_cons.mpr ⟨lw_p4, List.forall_mem_cons.mpr ⟨lw_p5, List.forall_mem_cons.mpr ⟨lw_p6, List.forall_mem_cons.mpr ⟨lw_p7, List.forall_mem_cons.mpr ⟨lw_p8, List.forall_mem_cons.mpr ⟨lw_p9, List.forall_mem_cons.mpr ⟨lw_p10, List.forall_mem_cons.mpr ⟨lw_p11, List.forall_mem_cons.mpr ⟨lw_p12, List.forall_mem_cons.mpr ⟨lw_p13, List.forall_mem_cons.mpr ⟨lw_p14, List.forall_mem_cons.mpr ⟨lw_p15, fun _ h => absurd h List.not_mem_nil⟩⟩⟩⟩⟩⟩⟩⟩⟩⟩⟩⟩⟩⟩⟩⟩
theorem lw_p16 : lw_okq (⟨"KeyStatesModel", "newPage", "()I"⟩, 23) := ⟨⟨by decide +kernel, by decide +kernel⟩, List.mem_of_getElem? (i := 707) (by decide +kernel), List.mem_of_getElem? (i := 713) (by decide +kernel), List.mem_of_getElem? (i := 714) (by decide +kernel)⟩
theorem lw_p17 : lw_okq (⟨"KeyStatesModel", "isRefused", "(IIIJ)Z"⟩, 23) := ⟨⟨by decide +kernel, by decide +kernel⟩, List.mem_of_getElem? (i := 707) (by decide +kernel), List.mem_of_getElem? (i := 812) (by decide +kernel), List.mem_of_getElem? (i := 813) (by decide +kernel)⟩
theorem lw_p18 : lw_okq (⟨"KeyStatesModel", "isState", "(I)Z"⟩, 23) := ⟨⟨by decide +kernel, by decide +kernel⟩, List.mem_of_getElem? (i := 707) (by decide +kernel), List.mem_of_getElem? (i := 816) (by decide +kernel), List.mem_of_getElem? (i := 817) (by decide +kernel)⟩
theorem lw_p19 : lw_okq (⟨"KeyStatesModel", "here", "(I)I"⟩, 23) := ⟨⟨by decide +kernel, by decide +kernel⟩, List.mem_of_getElem? (i := 707) (by decide +kernel), List.mem_of_getElem? (i := 825) (by decide +kernel), List.mem_of_getElem? (i := 826) (by decide +kernel)⟩
theorem lw_p20 : lw_okq (⟨"KeyStatesModel", "find", "(IIJI)I"⟩, 23) := ⟨⟨by decide +kernel, by decide +kernel⟩, List.mem_of_getElem? (i := 707) (by decide +kernel), List.mem_of_getElem? (i := 829) (by decide +kernel), List.mem_of_getElem? (i := 830) (by decide +kernel)⟩
theorem lw_p21 : lw_okq (⟨"KeyStatesModel", "newEntry", "(I)I"⟩, 23) := ⟨⟨by decide +kernel, by decide +kernel⟩, List.mem_of_getElem? (i := 707) (by decide +kernel), List.mem_of_getElem? (i := 833) (by decide +kernel), List.mem_of_getElem? (i := 834) (by decide +kernel)⟩
theorem lw_p22 : lw_okq (⟨"KeyStatesModel", "touchOf", "(I)V"⟩, 23) := ⟨⟨by decide +kernel, by decide +kernel⟩, List.mem_of_getElem? (i := 707) (by decide +kernel), List.mem_of_getElem? (i := 837) (by decide +kernel), List.mem_of_getElem? (i := 838) (by decide +kernel)⟩
theorem lw_p23 : lw_okq (⟨"KeyStatesModel", "pageOf", "(IJI)I"⟩, 23) := ⟨⟨by decide +kernel, by decide +kernel⟩, List.mem_of_getElem? (i := 707) (by decide +kernel), List.mem_of_getElem? (i := 841) (by decide +kernel), List.mem_of_getElem? (i := 842) (by decide +kernel)⟩
theorem lw_p24 : lw_okq (⟨"KeyStatesModel", "touch", "(I)V"⟩, 23) := ⟨⟨by decide +kernel, by decide +kernel⟩, List.mem_of_getElem? (i := 707) (by decide +kernel), List.mem_of_getElem? (i := 845) (by decide +kernel), List.mem_of_getElem? (i := 846) (by decide +kernel)⟩
theorem lw_p25 : lw_okq (⟨"KeyStatesModel", "isShared", "(I)Z"⟩, 23) := ⟨⟨by decide +kernel, by decide +kernel⟩, List.mem_of_getElem? (i := 707) (by decide +kernel), List.mem_of_getElem? (i := 849) (by decide +kernel), List.mem_of_getElem? (i := 850) (by decide +kernel)⟩
theorem lw_p26 : lw_okq (⟨"KeyStatesModel", "fails", "(I)I"⟩, 23) := ⟨⟨by decide +kernel, by decide +kernel⟩, List.mem_of_getElem? (i := 707) (by decide +kernel), List.mem_of_getElem? (i := 857) (by decide +kernel), List.mem_of_getElem? (i := 858) (by decide +kernel)⟩
theorem lw_p27 : lw_okq (⟨"KeyStatesModel", "has", "(IJ)Z"⟩, 23) := ⟨⟨by decide +kernel, by decide +kernel⟩, List.mem_of_getElem? (i := 707) (by decide +kernel), List.mem_of_getElem? (i := 873) (by decide +kernel), List.mem_of_getElem? (i := 874) (by decide +kernel)⟩
theorem lw_p28 : lw_okq (⟨"KeyStatesModel", "placeOf", "(IJ)I"⟩, 23) := ⟨⟨by decide +kernel, by decide +kernel⟩, List.mem_of_getElem? (i := 707) (by decide +kernel), List.mem_of_getElem? (i := 877) (by decide +kernel), List.mem_of_getElem? (i := 878) (by decide +kernel)⟩
theorem lw_p29 : lw_okq (⟨"KeyStatesModel", "dropEntry", "(I)V"⟩, 23) := ⟨⟨by decide +kernel, by decide +kernel⟩, List.mem_of_getElem? (i := 707) (by decide +kernel), List.mem_of_getElem? (i := 893) (by decide +kernel), List.mem_of_getElem? (i := 894) (by decide +kernel)⟩
theorem lw_p30 : lw_okq (⟨"KeyStatesModel", "copyEntry", "(II)V"⟩, 23) := ⟨⟨by decide +kernel, by decide +kernel⟩, List.mem_of_getElem? (i := 707) (by decide +kernel), List.mem_of_getElem? (i := 897) (by decide +kernel), List.mem_of_getElem? (i := 898) (by decide +kernel)⟩
theorem lw_p31 : lw_okq (⟨"KeyStatesModel", "lacks", "(I)Z"⟩, 23) := ⟨⟨by decide +kernel, by decide +kernel⟩, List.mem_of_getElem? (i := 707) (by decide +kernel), List.mem_of_getElem? (i := 912) (by decide +kernel), List.mem_of_getElem? (i := 913) (by decide +kernel)⟩
def lw_privs_2 : List (MethodName × Nat) := [(⟨"KeyStatesModel", "newPage", "()I"⟩, 23), (⟨"KeyStatesModel", "isRefused", "(IIIJ)Z"⟩, 23), (⟨"KeyStatesModel", "isState", "(I)Z"⟩, 23), (⟨"KeyStatesModel", "here", "(I)I"⟩, 23), (⟨"KeyStatesModel", "find", "(IIJI)I"⟩, 23), (⟨"KeyStatesModel", "newEntry", "(I)I"⟩, 23), (⟨"KeyStatesModel", "touchOf", "(I)V"⟩, 23), (⟨"KeyStatesModel", "pageOf", "(IJI)I"⟩, 23), (⟨"KeyStatesModel", "touch", "(I)V"⟩, 23), (⟨"KeyStatesModel", "isShared", "(I)Z"⟩, 23), (⟨"KeyStatesModel", "fails", "(I)I"⟩, 23), (⟨"KeyStatesModel", "has", "(IJ)Z"⟩, 23), (⟨"KeyStatesModel", "placeOf", "(IJ)I"⟩, 23), (⟨"KeyStatesModel", "dropEntry", "(I)V"⟩, 23), (⟨"KeyStatesModel", "copyEntry", "(II)V"⟩, 23), (⟨"KeyStatesModel", "lacks", "(I)Z"⟩, 23)]
theorem lw_r2 : ∀ q ∈ lw_privs_2, lw_okq q := List.forall_mem_cons.mpr ⟨lw_p16, List.forall_mem_cons.mpr ⟨lw_p17, List.forall_mem_cons.mpr ⟨lw_p18, List.forall_mem_cons.mpr ⟨lw_p19, List.forall_mem_cons.mpr ⟨lw_p20, List.forall_mem_cons.mpr ⟨lw_p21, List.forall_mem_cons.mpr ⟨lw_p22, List.forall_mem_cons.mpr ⟨lw_p23, List.forall_mem_cons.mpr ⟨lw_p24, List.forall_mem_cons.mpr ⟨lw_p25, List.forall_mem_cons.mpr ⟨lw_p26, List.forall_mem_cons.mpr ⟨lw_p27, List.forall_mem_cons.mpr ⟨lw_p28, List.forall_mem_cons.mpr ⟨lw_p29, List.forall_mem_cons.mpr ⟨lw_p30, List.forall_mem_cons.mpr ⟨lw_p31, fun _ h => absurd h List.not_mem_nil⟩⟩⟩⟩⟩⟩⟩⟩⟩⟩⟩⟩⟩⟩⟩⟩
theorem lw_p32 : lw_okq (⟨"KeyStatesModel", "copyAll", "(II)V"⟩, 23) := ⟨⟨by decide +kernel, by decide +kernel⟩, List.mem_of_getElem? (i := 707) (by decide +kernel), List.mem_of_getElem? (i := 936) (by decide +kernel), List.mem_of_getElem? (i := 937) (by decide +kernel)⟩
theorem lw_p33 : lw_okq (⟨"KeyStatesModel", "copyOf", "(I)I"⟩, 23) := ⟨⟨by decide +kernel, by decide +kernel⟩, List.mem_of_getElem? (i := 707) (by decide +kernel), List.mem_of_getElem? (i := 944) (by decide +kernel), List.mem_of_getElem? (i := 945) (by decide +kernel)⟩
theorem lw_p34 : lw_okq (⟨"KeyStatesModel", "sharedPages", "()I"⟩, 23) := ⟨⟨by decide +kernel, by decide +kernel⟩, List.mem_of_getElem? (i := 707) (by decide +kernel), List.mem_of_getElem? (i := 948) (by decide +kernel), List.mem_of_getElem? (i := 949) (by decide +kernel)⟩
theorem lw_p35 : lw_okq (⟨"KeyStatesModel", "numbersOf", "(II)I"⟩, 23) := ⟨⟨by decide +kernel, by decide +kernel⟩, List.mem_of_getElem? (i := 707) (by decide +kernel), List.mem_of_getElem? (i := 956) (by decide +kernel), List.mem_of_getElem? (i := 957) (by decide +kernel)⟩
def lw_privs_3 : List (MethodName × Nat) := [(⟨"KeyStatesModel", "copyAll", "(II)V"⟩, 23), (⟨"KeyStatesModel", "copyOf", "(I)I"⟩, 23), (⟨"KeyStatesModel", "sharedPages", "()I"⟩, 23), (⟨"KeyStatesModel", "numbersOf", "(II)I"⟩, 23)]
theorem lw_r3 : ∀ q ∈ lw_privs_3, lw_okq q := List.forall_mem_cons.mpr ⟨lw_p32, List.forall_mem_cons.mpr ⟨lw_p33, List.forall_mem_cons.mpr ⟨lw_p34, List.forall_mem_cons.mpr ⟨lw_p35, fun _ h => absurd h List.not_mem_nil⟩⟩⟩⟩
def lw_privs : List (MethodName × Nat) := lw_privs_1 ++ (lw_privs_2 ++ (lw_privs_3))
def lw_tbl : List Cond := k2_sels lw_privs ++ tables_1
theorem lw_privs_ok : ∀ q ∈ lw_privs, lw_okq q := by
  show ∀ q ∈ lw_privs_1 ++ (lw_privs_2 ++ (lw_privs_3)), lw_okq q
  exact List.forall_mem_append.mpr ⟨lw_r1, List.forall_mem_append.mpr ⟨lw_r2, lw_r3⟩⟩
end
section
/-! ===== BEGIN words of one list among another's, by their places ===== -/
theorem goodIn_r {big : List Cond} (ws : List Cond) (ps : List Nat) (hp : ws = ps.filterMap (fun i => big[i]?)) (h : ws.all goodWord = true) : GoodIn big ws := by
  intro w hw
  have h1 := List.all_eq_true.mp h w hw
  rw [hp] at hw
  obtain ⟨i, -, hi⟩ := List.mem_filterMap.mp hw
  have hm : w ∈ big := by first | exact List.mem_of_getElem? hi | exact List.getElem?_mem hi
  exact ⟨hm, good_of_word h1⟩
theorem goodIn_app {big a b : List Cond} (ha : GoodIn big a) (hb : GoodIn big b) : GoodIn big (a ++ b) := fun w h => (List.mem_append.mp h).elim (ha w) (hb w)
theorem goodIn_ca {big a b : List Cond} {c : Cond} (ha : GoodIn big (c :: a)) (hb : GoodIn big b) : GoodIn big (c :: (a ++ b)) := fun w h => (List.mem_cons.mp h).elim (fun e => ha w (List.mem_cons.mpr (Or.inl e))) (fun h => (List.mem_append.mp h).elim (fun h => ha w (List.mem_cons.mpr (Or.inr h))) (hb w))
theorem goodIn_sub {big ws : List Cond} (hm : ∀ w ∈ ws, w ∈ big) (h : ws.all goodWord = true) : GoodIn big ws := fun w hw => ⟨hm w hw, good_of_word (List.all_eq_true.mp h w hw)⟩
/-! ===== END ===== -/

/-! ===== BEGIN exceptions that leave a method, and their catching by the caller (launches without stack traces) ===== -/
section VXA
/-! The laws vx_back, vx_callV, vx_callS, vx_callSW, vx_throw0, vx_throwS follow proofs of the library, with one case more: JvmDerived/Free/Laws.lean (Back.of_free), Shelf42/LK1.lean (callV, callS), Shelf/KitTraced.lean (throwNew0V, throwNewS). -/
/-- where a method has thrown q: the class by its name, the cell, what was written, the world -/
def vx_T (XC : String → State → State → Prop) (st : State) (q : Addr) (t : State) (mc ms : Nat) (free : Addr → Prop) : Prop :=
  ∃ (E : String) (ce : Cell) (L : List Loc), XC E st t ∧ t.heap[q]? = some ce ∧ ce.vm = .none ∧ st.vm.findClass E = some ce.cls ∧ st.WarmedH t.vm ∧ st.sameButNew ({ t with vm := st.vm } : State) L mc ms ∧ ∀ z ∈ L, free z.base
def vx_Q (Qc : Array Value → State → Outcome → State → Prop) (XC : String → State → State → Prop) (mc ms : Nat) (free : Addr → Prop) : Array Value → State → Outcome → State → Prop := fun a st o t =>
  (Qc a st o t ∧ ∃ L, FrameEnd st o t L mc ms ∧ ∀ q ∈ L, free q.base) ∨ ∃ q, o = .threw q ∧ vx_T XC st q t mc ms free
/-- a callee that returns or throws -/
def vx_Met (l : Launch) (y : MethodName) (ws : List Cond) (rm : Room) (Pc : Array Value → State → Prop) (Qc : Array Value → State → Outcome → State → Prop) (XC : String → State → State → Prop) (mc ms : Nat) (free : Addr → Prop) : Prop :=
  MetFree l y (headSpec ws rm) Pc (fun _ _ _ _ _ => True) (vx_Q Qc XC mc ms free)
def vx_Post (XC : String → State → State → Prop) (mc ms : Nat) (free : Addr → Prop) : Pt → Array Value → Addr → Pt → Prop := fun A a q B =>
  ∃ (g : JFrame) (mk : MethodId) (t : State) (L : List Loc) (E : String) (ce : Cell), B.U.heap = t.heap ∧ B.U.vm = t.vm ∧ XC E (A.U.calling g mk a) t ∧ t.heap[q]? = some ce ∧ ce.vm = .none ∧ A.U.vm.findClass E = some ce.cls ∧ B.locs = A.locs ++ L ∧ (∀ z ∈ L, free z.base) ∧ B.cells = A.cells + mc ∧ B.slots = A.slots + ms
def vx_Back (l : Launch) (R : Room) (p : Program) (e : Env) (below : List Frame) (s : State) (sargs : Array Value) (y : MethodName) (len W9 : Nat)
    (Pre : Pt → Array Value → Prop) (Post : Pt → Array Value → Option Value → Pt → Prop) (PostX : Pt → Array Value → Addr → Pt → Prop) : Prop :=
  ∀ (m : MethodId) (meth : Method) (c : Code) (A : Pt) (g : JFrame) (ig : Instr) (mk : MethodId) (a : Array Value),
    Stand p l e R s m sargs below meth c A.U A.locs A.cells A.slots → g.method = m → g.locals.size = c.maxLocals → decode c.code g.pc = .ok (ig, len) →
    2 * g.monitorRoom + (g.stack.map fun v => v.category).sum ≤ W9 → A.U.methodNamed? y = some mk → Pre A a →
    (∃ (v : Option Value) (B : Pt), Stand p l e R s m sargs below meth c B.U B.locs B.cells B.slots ∧ Post A a v B ∧
      Steps p.tables e below (doInvoke e (A.U.setTop g) [] mk a).1 (B.U.setTop { g with pc := g.pc + len, stack := v.toList ++ g.stack })) ∨
    (∃ (q : Addr) (B : Pt), Stand p l e R s m sargs below meth c B.U B.locs B.cells B.slots ∧ PostX A a q B ∧
      Steps p.tables e below (doInvoke e (A.U.setTop g) [] mk a).1 ((B.U.setTop g).pushFrame (.throwing q)))
section Payer
variable {l : Launch} {R : Room} {p : Program} {e : Env} {below : List Frame} {s : State} {sargs : Array Value} {y : MethodName} {len W9 : Nat}
theorem vx_back {ws : List Cond} {rm : Room} {Pc : Array Value → State → Prop} {Qc : Array Value → State → Outcome → State → Prop} {XC : String → State → State → Prop} {mc ms : Nat} {free : Addr → Prop} {bytes : ByteArray} {maxL : Nat} {ret : Option FieldType}
    (hM : vx_Met l y ws rm Pc Qc XC mc ms free) (hblind : FrameBlind Pc) (hrc : rm.cells = mc) (hrs : rm.slots = ms)
    (hframes : rm.frames + 1 ≤ R.frames) (hlocals : W9 + (maxL + 11) + rm.locals ≤ R.locals)
    (hws : ∀ w ∈ ws, ∀ a' U, s.WarmedH U.vm → w.before a' U = true) (hcode : Cond.code y bytes maxL ret ∈ ws) (hinit : ∀ a' U, s.WarmedH U.vm → (Cond.initialized y.cls).before a' U = true) :
    vx_Back l R p e below s sargs y len W9 (PreOf R mc ms Pc) (PostOf Qc mc ms free) (vx_Post XC mc ms free) := by
  intro m meth c A g ig mk a X hg hsize hdg hW hn hp
  have h1 : (headSpec ws rm).pre.before a A.U = true := atoms_intro fun w hw => hws w hw _ _ X.warmed
  have h2 : (Cond.code y bytes maxL ret).before a A.U = true := hws _ hcode _ _ X.warmed
  have h3 : (Cond.initialized y.cls).before a A.U = true := hinit _ _ X.warmed
  have h4 : A.cells + (headSpec ws rm).room.cells ≤ R.cells := by rw [show (headSpec ws rm).room.cells = mc from hrc]; exact hp.1
  have h5 : A.slots + (headSpec ws rm).room.slots ≤ R.slots := by rw [show (headSpec ws rm).room.slots = ms from hrs]; exact hp.2.1
  have hPc : Pc a (A.U.calling g mk a) := hblind _ _ _ _ hp.2.2
  obtain ⟨U, Ls, c0, s0⟩ := A
  dsimp only [Pt.U, Pt.locs, Pt.cells, Pt.slots] at h1 h2 h3 h4 h5 X hn hPc ⊢
  obtain ⟨methY, cY, hmY, hcY, -, hlY, -, -, -, -⟩ := Cond.code_spec hn h2
  obtain ⟨kY, hkY, -⟩ := className_of_methodNamed hn
  have hinitY : kY.init = .initialized := Cond.initialized_spec (findClass_of_methodNamed hn) hkY h3
  have h : At U g.method c below := by rw [hg]; exact X.here
  have hlocals9 : W9 + (maxL + 11) + (headSpec ws rm).room.locals ≤ R.locals := hlocals
  have happ : (headSpec ws rm).appliesLoose y e.platform (U.calling g mk a) = true :=
    Spec.appliesLoose_calling (g := g) h hdg hn hkY hinitY
      (X.room_calling (g := g) (R' := (headSpec ws rm).room) hsize hmY hcY hframes (by rw [hlY]; omega) h4 h5) h1
  obtain ⟨mid, hmid⟩ := h.above
  have hfr : (U.setTop g).frames = (.java g :: mid) ++ below := by rw [State.frames_setTop' g h.top, hmid]; rfl
  obtain ⟨o, s₂, hsteps, -, hend, hq⟩ := Steps.callFree hM p X.admits X.cas X.clock (acts := []) hfr happ hPc trivial
  have hq' : vx_Q Qc XC mc ms free a (U.calling g mk a) o s₂ := hq
  rw [State.frames_setTop' g h.top] at hend
  obtain ⟨g₀, hg0⟩ := Option.isSome_iff_exists.mp h.top
  obtain ⟨r, hr⟩ := State.topJava?_eq_some.mp hg0
  have hr' : (({ U with heap := s₂.heap, slotsUsed := s₂.slotsUsed } : State).setVm s₂.vm).frames = .java g₀ :: r := hr
  rcases hq' with ⟨hqc, L, hfe, hL⟩ | ⟨q, rfl, E, ce, L, hx, hce, hcv, hcl, hW₂, hsm, hL⟩
  · obtain ⟨⟨v, rfl⟩, hW₂, e2, q2, q3, q4, q5, q6⟩ := id hfe
    have e3 : s₂ = ({ (U.calling g mk a).setFrames s₂.frames with heap := s₂.heap, slotsUsed := s₂.slotsUsed } : State).setVm s₂.vm := by
      have : s₂ = ({ s₂ with vm := (U.calling g mk a).vm } : State).setVm s₂.vm := rfl
      rw [e2] at this
      exact this
    obtain ⟨c₂, i₂, len₂, hc₂, hd₂, hf₂⟩ := hend
    have hW' : U.WarmedH s₂.vm := hW₂
    have hcc : c₂ = c := by
      have h1 : s₂.code? g.method = U.code? g.method := by
        rw [State.code?_eq, State.code?_eq, hW'.alike.method?]
      exact Option.some.inj (hc₂.symm.trans (h1.trans h.code))
    subst hcc
    have hlen : len₂ = len := by rw [hdg] at hd₂; cases hd₂; rfl
    subst hlen
    have hs₂ : s₂ = (({ U with heap := s₂.heap, slotsUsed := s₂.slotsUsed } : State).setVm s₂.vm).setTop { g with pc := g.pc + len₂, stack := v.toList ++ g.stack } := by
      refine e3.trans ?_
      rw [hf₂, State.calling_eq h.top, State.setFrames_setFrames, State.setTop_of_frames _ hr', hr]
      rfl
    have hsame : U.sameButNew ({ U with heap := s₂.heap, slotsUsed := s₂.slotsUsed } : State) L mc ms := by
      refine ⟨?_, q2, q3, q4, q5, q6⟩
      obtain ⟨t, ht, -⟩ := State.frames_cons hr
      show ({ U with heap := s₂.heap, slotsUsed := s₂.slotsUsed } : State) = { U.setFrames U.frames with heap := s₂.heap, slotsUsed := s₂.slotsUsed }
      rw [State.setFrames_self ht]
    subst hg
    refine Or.inl ⟨v, ⟨(({ U with heap := s₂.heap, slotsUsed := s₂.slotsUsed } : State).setVm s₂.vm), Ls ++ L, c0 + mc, s0 + ms⟩,
      ⟨X.admits, X.cas, X.clock, X.frames, X.room, X.hears, X.method, X.code, (X.here.setHeapUsed s₂.heap s₂.slotsUsed).setVm hW'.alike, X.tail, State.WarmedH.trans X.warmed hW', X.limits, X.bytes, X.same.trans (hsame.setVm s.vm)⟩,
      ⟨g, mk, s₂, L, rfl, rfl, hqc, rfl, hL, rfl, rfl⟩, ?_⟩
    show Steps p.tables e below _ ((({ U with heap := s₂.heap, slotsUsed := s₂.slotsUsed } : State).setVm s₂.vm).setTop { g with pc := g.pc + len₂, stack := v.toList ++ g.stack })
    rw [← hs₂]
    exact hsteps
  · obtain ⟨e2, q2, q3, q4, q5, q6⟩ := id hsm
    have e3 : s₂ = ({ (U.calling g mk a).setFrames s₂.frames with heap := s₂.heap, slotsUsed := s₂.slotsUsed } : State).setVm s₂.vm := by
      have : s₂ = ({ s₂ with vm := (U.calling g mk a).vm } : State).setVm s₂.vm := rfl
      rw [e2] at this
      exact this
    have hf₂ : s₂.frames = .throwing q :: .java g :: U.frames.tail := hend
    have hW' : U.WarmedH s₂.vm := hW₂
    have hs₂ : s₂ = ((({ U with heap := s₂.heap, slotsUsed := s₂.slotsUsed } : State).setVm s₂.vm).setTop g).pushFrame (.throwing q) := by
      refine e3.trans ?_
      rw [hf₂, State.calling_eq h.top, State.setFrames_setFrames, State.pushFrame, State.frames_setTop _ hr', State.setTop_of_frames _ hr', State.setFrames_setFrames, hr]
      rfl
    have hsame : U.sameButNew ({ U with heap := s₂.heap, slotsUsed := s₂.slotsUsed } : State) L mc ms := by
      refine ⟨?_, q2, q3, q4, q5, q6⟩
      obtain ⟨t, ht, -⟩ := State.frames_cons hr
      show ({ U with heap := s₂.heap, slotsUsed := s₂.slotsUsed } : State) = { U.setFrames U.frames with heap := s₂.heap, slotsUsed := s₂.slotsUsed }
      rw [State.setFrames_self ht]
    subst hg
    refine Or.inr ⟨q, ⟨(({ U with heap := s₂.heap, slotsUsed := s₂.slotsUsed } : State).setVm s₂.vm), Ls ++ L, c0 + mc, s0 + ms⟩,
      ⟨X.admits, X.cas, X.clock, X.frames, X.room, X.hears, X.method, X.code, (X.here.setHeapUsed s₂.heap s₂.slotsUsed).setVm hW'.alike, X.tail, State.WarmedH.trans X.warmed hW', X.limits, X.bytes, X.same.trans (hsame.setVm s.vm)⟩,
      ⟨g, mk, s₂, L, E, ce, rfl, rfl, hx, hce, hcv, hcl, rfl, hL, rfl, rfl⟩, ?_⟩
    show Steps p.tables e below _ (((({ U with heap := s₂.heap, slotsUsed := s₂.slotsUsed } : State).setVm s₂.vm).setTop g).pushFrame (.throwing q))
    rw [← hs₂]
    exact hsteps
end Payer
section Calls
variable {p : Program} {l : Launch} {e : Env} {R : Room} {s : State} {m : MethodId} {args : Array Value} {below : List Frame} {meth : Method} {c : Code} {T : State} {locs : List Loc} {cells slots : Nat}
theorem vx_callV (X : Stand p l e R s m args below meth c T locs cells slots) (hexec : p.tables.exec = Jvm.exec) {own C : String} {index : Nat} {y : MethodName} {bytes : ByteArray} {maxL : Nat} {ret : Option FieldType}
    (hown : s.vm.findClass own = some m.cls) (hlink : (Cond.methodLink own index y).before args s = true) (hinst : (Cond.instanceMethod y).before args s = true) (hsel : (Cond.selects C y y).before args s = true)
    (hcode : (Cond.code y bytes maxL ret).before args s = true) (hy : y.cls ≠ "java/lang/invoke/MethodHandle" ∧ y.cls ≠ "java/lang/invoke/VarHandle")
    {W9 : Nat} {Pre : Pt → Array Value → Prop} {Post : Pt → Array Value → Option Value → Pt → Prop} {PostX : Pt → Array Value → Addr → Pt → Prop} (hK : vx_Back l R p e below s args y 3 W9 Pre Post PostX)
    {b : Addr} {cellB : Cell} (hcell : T.heap[b]? = some cellB) (hobj : cellB.vm.isStatics = false) (hcls : s.vm.findClass C = some cellB.cls)
    {g : JFrame} (hg : g.method = m) (hsize : g.locals.size = c.maxLocals) {argsL rest : List Value} (hlen : ∀ sig, parseMethodDescriptor y.desc = some sig → argsL.length = sig.parameters.length)
    (hstack : g.stack = argsL.reverse ++ .ref b :: rest) (hW : 2 * g.monitorRoom + (rest.map fun v => v.category).sum ≤ W9) (hdg : decode c.code g.pc = .ok (.invokevirtual index, 3))
    (hpre : ∀ vm₁, s.WarmedH vm₁ → Pre ⟨T.setVm vm₁, locs, cells, slots⟩ (Value.ref b :: argsL).toArray) :
    (∃ (v : Option Value) (vm₁ : Vm) (B : Pt), s.WarmedH vm₁ ∧ Stand p l e R s m args below meth c B.U B.locs B.cells B.slots ∧ Post ⟨T.setVm vm₁, locs, cells, slots⟩ (Value.ref b :: argsL).toArray v B ∧
      ∀ target, Steps p.tables e below (B.U.setTop { g with pc := g.pc + 3, stack := v.toList ++ rest }) target → Steps p.tables e below (T.setTop g) target) ∨
    (∃ (q : Addr) (vm₁ : Vm) (B : Pt), s.WarmedH vm₁ ∧ Stand p l e R s m args below meth c B.U B.locs B.cells B.slots ∧ PostX ⟨T.setVm vm₁, locs, cells, slots⟩ (Value.ref b :: argsL).toArray q B ∧
      Steps p.tables e below (T.setTop g) ((B.U.setTop { g with stack := rest }).pushFrame (.throwing q))) := by
  obtain ⟨mk, methM, hnamed, hmethM, hstM, habM⟩ := Cond.instanceMethod_spec hinst
  obtain ⟨methM', cM, hmethM', -, -, -, -, -, -, hsigM⟩ := Cond.code_spec hnamed hcode
  cases hmethM.symm.trans hmethM'
  obtain ⟨c2, r2, m2, q1, q2, q3, q4, kP, hkP, hkPi⟩ := Cond.selects_spec hsel
  cases hcls.symm.trans q1
  cases (State.methodFound?_of_named hnamed hy).symm.trans q2
  cases hnamed.symm.trans q3
  have hselP : selectMethod e.platform s.vm cellB.cls mk = .method mk := by rw [Launch.admits_selectMethod X.admits]; exact q4
  obtain ⟨vm₁, X₁, hstep₁⟩ := X.invokevirtual hexec hown hlink hnamed hmethM hstM hkP hkPi hy (a := b) (cell := cellB) hcell
    (fun z h => by rw [h] at hobj; cases hobj) hselP hmethM habM hkP hkPi (g := g) hg (argsL := argsL) (rest := rest) (hlen _ hsigM) hstack hdg
  rcases hK m meth c ⟨T.setVm vm₁, locs, cells, slots⟩ { g with stack := rest } (.invokevirtual index) mk (Value.ref b :: argsL).toArray X₁ hg hsize hdg hW (X₁.named hnamed) (hpre vm₁ X₁.warmed) with ⟨v, B, X', hpost, hsteps⟩ | ⟨q, B, X', hpost, hsteps⟩
  · exact Or.inl ⟨v, vm₁, B, X₁.warmed, X', hpost, fun target h => hstep₁ _ fun acts => by rw [doInvoke_state]; exact hsteps.trans h⟩
  · exact Or.inr ⟨q, vm₁, B, X₁.warmed, X', hpost, hstep₁ _ fun acts => by rw [doInvoke_state]; exact hsteps⟩
theorem vx_callS (X : Stand p l e R s m args below meth c T locs cells slots) (hexec : p.tables.exec = Jvm.exec) {own : String} {index : Nat} {y : MethodName} {bytes : ByteArray} {maxL : Nat} {ret : Option FieldType}
    (hown : s.vm.findClass own = some m.cls) (hlink : (Cond.methodLink own index y).before args s = true) (hstat : (Cond.static y).before args s = true) (hinit : (Cond.initialized y.cls).before args s = true)
    (hcode : (Cond.code y bytes maxL ret).before args s = true) (hy : y.cls ≠ "java/lang/invoke/MethodHandle" ∧ y.cls ≠ "java/lang/invoke/VarHandle")
    {W9 : Nat} {Pre : Pt → Array Value → Prop} {Post : Pt → Array Value → Option Value → Pt → Prop} {PostX : Pt → Array Value → Addr → Pt → Prop} (hK : vx_Back l R p e below s args y 3 W9 Pre Post PostX)
    {g : JFrame} (hg : g.method = m) (hsize : g.locals.size = c.maxLocals) {argsL rest : List Value} (hlen : ∀ sig, parseMethodDescriptor y.desc = some sig → argsL.length = sig.parameters.length)
    (hstack : g.stack = argsL.reverse ++ rest) (hW : 2 * g.monitorRoom + (rest.map fun v => v.category).sum ≤ W9) (hdg : decode c.code g.pc = .ok (.invokestatic index, 3))
    (hpre : ∀ vm₁, s.WarmedH vm₁ → Pre ⟨T.setVm vm₁, locs, cells, slots⟩ argsL.toArray) :
    (∃ (v : Option Value) (vm₁ : Vm) (B : Pt), s.WarmedH vm₁ ∧ Stand p l e R s m args below meth c B.U B.locs B.cells B.slots ∧ Post ⟨T.setVm vm₁, locs, cells, slots⟩ argsL.toArray v B ∧
      ∀ target, Steps p.tables e below (B.U.setTop { g with pc := g.pc + 3, stack := v.toList ++ rest }) target → Steps p.tables e below (T.setTop g) target) ∨
    (∃ (q : Addr) (vm₁ : Vm) (B : Pt), s.WarmedH vm₁ ∧ Stand p l e R s m args below meth c B.U B.locs B.cells B.slots ∧ PostX ⟨T.setVm vm₁, locs, cells, slots⟩ argsL.toArray q B ∧
      Steps p.tables e below (T.setTop g) ((B.U.setTop { g with stack := rest }).pushFrame (.throwing q))) := by
  obtain ⟨mk, hnamed⟩ := Cond.code_named hcode
  obtain ⟨methM, cM, hmethM, -, -, -, -, -, -, hsigM⟩ := Cond.code_spec hnamed hcode
  have hstatic : methM.isStatic = true := Cond.static_spec hnamed hmethM hstat
  obtain ⟨kP, hkP, -⟩ := className_of_methodNamed hnamed
  have hinitP : kP.init = .initialized := Cond.initialized_spec (findClass_of_methodNamed hnamed) hkP hinit
  obtain ⟨vm₁, X₁, hstep₁⟩ := X.invokestatic hexec hown hlink hnamed hmethM hstatic hkP hinitP hy (g := g) hg (argsL := argsL) (rest := rest) (hlen _ hsigM) hstack hdg
  rcases hK m meth c ⟨T.setVm vm₁, locs, cells, slots⟩ { g with stack := rest } (.invokestatic index) mk argsL.toArray X₁ hg hsize hdg hW (X₁.named hnamed) (hpre vm₁ X₁.warmed) with ⟨v, B, X', hpost, hsteps⟩ | ⟨q, B, X', hpost, hsteps⟩
  · exact Or.inl ⟨v, vm₁, B, X₁.warmed, X', hpost, fun target h => hstep₁ _ fun acts => by rw [doInvoke_state]; exact hsteps.trans h⟩
  · exact Or.inr ⟨q, vm₁, B, X₁.warmed, X', hpost, hstep₁ _ fun acts => by rw [doInvoke_state]; exact hsteps⟩
end Calls
theorem vx_cls {s : State} {T : State} {vm₁ : Vm} {E : String} {k : ClassId} (hW : s.WarmedH vm₁) (h : (T.setVm vm₁).vm.findClass E = some k) : s.vm.findClass E = some k := by
  have h1 : vm₁.findClass E = some k := h
  rw [hW.alike.findClass] at h1
  exact h1
/-- the method's frame g, with q thrown over it -/
def vx_W (p : Program) (l : Launch) (e : Env) (R : Room) (s : State) (m : MethodId) (args : Array Value) (below : List Frame) (meth : Method) (c : Code) (H : Heap) (locs : List Loc) (cells slots : Nat) (Q : State → Prop) (g : JFrame) (q : Addr) : Prop :=
  ∀ T : State, T.heap = H → Stand p l e R s m args below meth c T locs cells slots → ∃ t, Steps p.tables e below ((T.setTop g).pushFrame (.throwing q)) t ∧ Q t
def vx_Run (p : Program) (l : Launch) (e : Env) (R : Room) (s : State) (m : MethodId) (args : Array Value) (below : List Frame) (meth : Method) (c : Code) (H : Heap) (locs : List Loc) (cells slots mc ms : Nat) (g : JFrame) (rest : List Value) (Qa : State → Outcome → State → Prop) (XC : String → State → State → Prop) (free : Addr → Prop) : Prop :=
  ∀ T : State, T.heap = H → Stand p l e R s m args below meth c T locs cells slots →
    (∃ (v : Option Value) (st₀ t T' : State) (L : List Loc), st₀.heap = H ∧ Stand p l e R s m args below meth c T' (locs ++ L) (cells + mc) (slots + ms) ∧ (∀ q ∈ L, free q.base) ∧ T'.heap = t.heap ∧ T'.vm = t.vm ∧ Qa st₀ (.returned v) t ∧
      Goes p e below T g T' { g with pc := g.pc + 3, stack := v.toList ++ rest }) ∨
    (∃ (q : Addr) (st₀ t T' : State) (L : List Loc) (E : String) (ce : Cell), st₀.heap = H ∧ Stand p l e R s m args below meth c T' (locs ++ L) (cells + mc) (slots + ms) ∧ (∀ z ∈ L, free z.base) ∧ T'.heap = t.heap ∧ T'.vm = t.vm ∧ XC E st₀ t ∧ t.heap[q]? = some ce ∧ ce.vm = .none ∧ s.vm.findClass E = some ce.cls ∧
      Steps p.tables e below (T.setTop g) ((T'.setTop { g with stack := rest }).pushFrame (.throwing q)))
def vx_X {S : Type} (px : S → Prop) (B : String → S → State → Prop) (A : Nat → Prop) : String → State → State → Prop := fun E st t => ∃ u : S, px u ∧ B E u t ∧ va_F A st t
section Runs
variable {p : Program} {l : Launch} {e : Env} {R : Room} {s : State} {m : MethodId} {args : Array Value} {below : List Frame} {meth : Method} {c : Code} {H : Heap} {locs : List Loc} {cells slots : Nat}
variable {y : MethodName} {bytes cc : ByteArray} {maxL nL mc ms n index : Nat} {ret : Option FieldType} {ws : List Cond} {rm : Room} {Pc : Array Value → State → Prop} {Qc : Array Value → State → Outcome → State → Prop} {XC : String → State → State → Prop} {free : Addr → Prop} {Ts : List Cond} {own C : String} {b : Addr} {As rest : List Value} {g : JFrame}
theorem vx_callBack (cb : CallB R s args own index y bytes maxL ret ws rm mc ms n) (hM : vx_Met l y ws rm Pc Qc XC mc ms free) (hbl : FrameBlind Pc) : vx_Back l R p e below s args y 3 8 (PreOf R mc ms Pc) (PostOf Qc mc ms free) (vx_Post XC mc ms free) := by
  obtain ⟨hrc, hrs, hfr, hlo, hws, hcw, -, hini, -⟩ := cb
  exact vx_back (bytes := bytes) (maxL := maxL) (ret := ret) hM hbl hrc hrs hfr hlo hws hcw (fun a' U hW => word_at hW (Or.inl (by first | rfl | simp [Cond.onTables, Cond.keeps, Cond.steady])) hini)
theorem vx_runV (S : CallFix p m c cc nL s args Ts own) (hM : vx_Met l y ws rm Pc Qc XC mc ms free) (cw : CallW R s args own C index y bytes maxL ret ws rm mc ms n) (hp : PreV s H C b Pc As)
    (hg : g.method = m) (hn : As.length = n) (hsize : g.locals.size = nL) (hstack : g.stack = As.reverse ++ .ref b :: rest) (hW : 2 * g.monitorRoom + (rest.map fun v => v.category).sum ≤ 8) (hdg : decode cc g.pc = .ok (.invokevirtual index, 3)) (hf : cells + mc ≤ R.cells ∧ slots + ms ≤ R.slots) :
    vx_Run p l e R s m args below meth c H locs cells slots mc ms g rest (Qc (Value.ref b :: As).toArray) XC free := by
  have hK : vx_Back l R p e below s args y 3 8 (PreOf R mc ms Pc) (PostOf Qc mc ms free) (vx_Post XC mc ms free) := vx_callBack cw.1 hM hp.1
  obtain ⟨⟨-, -, -, -, -, -, hcode, -, hy, hlen, hl⟩, hin, hse⟩ := cw
  obtain ⟨hx, hb, hml, ho, -⟩ := S
  obtain ⟨-, ⟨cellB, hcB, hoB, hclB⟩, hPc⟩ := hp
  intro T hT X
  rcases vx_callV X hx (C := C) (bytes := bytes) (maxL := maxL) (ret := ret) ho hl hin hse hcode hy hK (by rw [hT]; exact hcB) hoB hclB hg (hsize.trans hml.symm) (argsL := As) (rest := rest) (fun sig h => hn.trans (hlen sig h)) hstack hW (by rw [hb]; exact hdg)
    (fun vm₁ hW₁ => ⟨hf.1, hf.2, hPc (T.setVm vm₁) hT hW₁⟩) with ⟨v, vm₁, ⟨U', l2, c2, s2⟩, hW₁, X', ⟨g', mk, t, L, e1, e2, hq, h1, hL, h2, h3⟩, st⟩ | ⟨q, vm₁, ⟨U', l2, c2, s2⟩, hW₁, X', ⟨g', mk, t, L, E, ce, e1, e2, hq, hce, hcv, hcl, h1, hL, h2, h3⟩, st⟩
  · dsimp only [Pt.U, Pt.locs, Pt.cells, Pt.slots] at X' e1 e2 h1 h2 h3 st
    subst h1; subst h2; subst h3
    exact Or.inl ⟨v, (T.setVm vm₁).calling g' mk (Value.ref b :: As).toArray, t, U', L, hT, X', hL, e1, e2, hq, st⟩
  · dsimp only [Pt.U, Pt.locs, Pt.cells, Pt.slots] at X' e1 e2 h1 h2 h3 st hcl
    subst h1; subst h2; subst h3
    exact Or.inr ⟨q, (T.setVm vm₁).calling g' mk (Value.ref b :: As).toArray, t, U', L, E, ce, hT, X', hL, e1, e2, hq, hce, hcv, vx_cls hW₁ hcl, st⟩
theorem vx_runS (S : CallFix p m c cc nL s args Ts own) (hM : vx_Met l y ws rm Pc Qc XC mc ms free) (cw : CallB R s args own index y bytes maxL ret ws rm mc ms n ∧ (Cond.static y).before args s = true) (hp : PreS s H Pc As)
    (hg : g.method = m) (hn : As.length = n) (hsize : g.locals.size = nL) (hstack : g.stack = As.reverse ++ rest) (hW : 2 * g.monitorRoom + (rest.map fun v => v.category).sum ≤ 8) (hdg : decode cc g.pc = .ok (.invokestatic index, 3)) (hf : cells + mc ≤ R.cells ∧ slots + ms ≤ R.slots) :
    vx_Run p l e R s m args below meth c H locs cells slots mc ms g rest (Qc As.toArray) XC free := by
  have hK : vx_Back l R p e below s args y 3 8 (PreOf R mc ms Pc) (PostOf Qc mc ms free) (vx_Post XC mc ms free) := vx_callBack cw.1 hM hp.1
  obtain ⟨⟨-, -, -, -, -, -, hcode, hini, hy, hlen, hl⟩, hstt⟩ := cw
  obtain ⟨hx, hb, hml, ho, -⟩ := S
  intro T hT X
  rcases vx_callS X hx (bytes := bytes) (maxL := maxL) (ret := ret) ho hl hstt hini hcode hy hK hg (hsize.trans hml.symm) (argsL := As) (rest := rest) (fun sig h => hn.trans (hlen sig h)) hstack hW (by rw [hb]; exact hdg)
    (fun vm₁ hW₁ => ⟨hf.1, hf.2, hp.2 (T.setVm vm₁) hT hW₁⟩) with ⟨v, vm₁, ⟨U', l2, c2, s2⟩, hW₁, X', ⟨g', mk, t, L, e1, e2, hq, h1, hL, h2, h3⟩, st⟩ | ⟨q, vm₁, ⟨U', l2, c2, s2⟩, hW₁, X', ⟨g', mk, t, L, E, ce, e1, e2, hq, hce, hcv, hcl, h1, hL, h2, h3⟩, st⟩
  · dsimp only [Pt.U, Pt.locs, Pt.cells, Pt.slots] at X' e1 e2 h1 h2 h3 st
    subst h1; subst h2; subst h3
    exact Or.inl ⟨v, (T.setVm vm₁).calling g' mk As.toArray, t, U', L, hT, X', hL, e1, e2, hq, st⟩
  · dsimp only [Pt.U, Pt.locs, Pt.cells, Pt.slots] at X' e1 e2 h1 h2 h3 st hcl
    subst h1; subst h2; subst h3
    exact Or.inr ⟨q, (T.setVm vm₁).calling g' mk As.toArray, t, U', L, E, ce, hT, X', hL, e1, e2, hq, hce, hcv, vx_cls hW₁ hcl, st⟩
end Runs
section Rows
variable {p : Program} {l : Launch} {e : Env} {R : Room} {s : State} {m : MethodId} {args : Array Value} {below : List Frame} {meth : Method} {c : Code} {H : Heap} {locs : List Loc} {cells slots : Nat} {Q : State → Prop}
variable {mc ms : Nat} {free : Addr → Prop} {A0 A1 : Nat → Prop} {H0 : Heap} {a : Array Value} {pc : Nat} {ls : Array Slot} {st0 rest : List Value}
theorem vx_keep {st₀ t T' : State} {L : List Loc} (h0 : st₀.heap = H) (e1 : T'.heap = t.heap) (hS : va_S A0 H0 H locs) (hA : ∀ q, q < H.size → A1 q → A0 q) (hf : ∀ q, free q → A0 q) (hL : ∀ q ∈ L, free q.base) (hF : va_F A1 st₀ t) :
    H.size ≤ T'.heap.size ∧ (∀ q : Nat, q < H.size → ¬ A1 q → T'.heap[q]? = H[q]?) ∧ va_S A0 H0 T'.heap (locs ++ L) := by
  obtain ⟨hz, hk⟩ := hF
  rw [h0] at hz hk
  exact ⟨by rw [e1]; exact hz, fun q h1 h2 => by rw [e1]; exact hk q h1 h2,
    ⟨Nat.le_trans hS.1 (by rw [e1]; exact hz), fun q h1 h2 => by rw [e1, hk q (Nat.lt_of_lt_of_le h1 hS.1) (fun z => h2 (hA q (Nat.lt_of_lt_of_le h1 hS.1) z))]; exact hS.2.1 q h1 h2, fun q hq => by
      rcases List.mem_append.mp hq with h | h
      · exact hS.2.2 q h
      · exact hf _ (hL q h)⟩⟩
theorem vx_calli {S SX : Type} {post : Int32 → S → Prop} {px : SX → Prop} {B : S → State → Prop} {BX : String → SX → State → Prop} {AX : Nat → Prop} (hr : vx_Run p l e R s m args below meth c H locs cells slots mc ms (F0 m pc ls st0) rest (va_Qi post B A1 a) (vx_X px BX AX) free) (hS : va_S A0 H0 H locs) (hA : ∀ q, q < H.size → A1 q → A0 q) (hf : ∀ q, free q → A0 q) (hAX : ∀ q, q < H.size → AX q → A0 q)
    (kx : ∀ (E : String) (ce : Cell) (q9 : Addr) (u : SX) (t : State) (H1 : Heap) (locs1 : List Loc), t.heap = H1 → s.vm.Alike t.vm → px u → BX E u t → H.size ≤ H1.size → (∀ q : Nat, q < H.size → ¬ AX q → H1[q]? = H[q]?) → va_S A0 H0 H1 locs1 → H1[q9]? = some ce → ce.vm = .none → s.vm.findClass E = some ce.cls → vx_W p l e R s m args below meth c H1 locs1 (cells + mc) (slots + ms) Q (F0 m pc ls rest) q9)
    (kk : ∀ (r : Int32) (u : S) (t : State) (H1 : Heap) (locs1 : List Loc), t.heap = H1 → s.vm.Alike t.vm → post r u → B u t → H.size ≤ H1.size → (∀ q : Nat, q < H.size → ¬ A1 q → H1[q]? = H[q]?) → va_S A0 H0 H1 locs1 → W p l e R s m args below meth c H1 locs1 (cells + mc) (slots + ms) Q (F0 m (pc + 3) ls (.int r :: rest))) : W p l e R s m args below meth c H locs cells slots Q (F0 m pc ls st0) := by
  intro T hT X
  rcases hr T hT X with ⟨v, st₀, t, T', L, h0, X', hL, e1, e2, ⟨⟨r, u, hv, hp, hb⟩, hF⟩, st⟩ | ⟨q, st₀, t, T', L, E, ce, h0, X', hL, e1, e2, ⟨u, hp, hb, hF⟩, hce, hcv, hcl, st⟩
  · cases hv
    obtain ⟨k1, k2, k3⟩ := vx_keep h0 e1 hS hA hf hL hF
    obtain ⟨t2, a1, b1⟩ := kk r u t T'.heap (locs ++ L) e1.symm (by rw [← e2]; exact X'.warmed.alike) hp hb k1 k2 k3 T' rfl X'
    exact ⟨t2, st t2 a1, b1⟩
  · obtain ⟨k1, k2, k3⟩ := vx_keep h0 e1 hS hAX hf hL hF
    obtain ⟨t2, a1, b1⟩ := kx E ce q u t T'.heap (locs ++ L) e1.symm (by rw [← e2]; exact X'.warmed.alike) hp hb k1 k2 k3 (by rw [e1]; exact hce) hcv hcl T' rfl X'
    exact ⟨t2, st.trans a1, b1⟩
theorem vx_calll {S SX : Type} {post : Int64 → S → Prop} {px : SX → Prop} {B : S → State → Prop} {BX : String → SX → State → Prop} {AX : Nat → Prop} (hr : vx_Run p l e R s m args below meth c H locs cells slots mc ms (F0 m pc ls st0) rest (va_Ql post B A1 a) (vx_X px BX AX) free) (hS : va_S A0 H0 H locs) (hA : ∀ q, q < H.size → A1 q → A0 q) (hf : ∀ q, free q → A0 q) (hAX : ∀ q, q < H.size → AX q → A0 q)
    (kx : ∀ (E : String) (ce : Cell) (q9 : Addr) (u : SX) (t : State) (H1 : Heap) (locs1 : List Loc), t.heap = H1 → s.vm.Alike t.vm → px u → BX E u t → H.size ≤ H1.size → (∀ q : Nat, q < H.size → ¬ AX q → H1[q]? = H[q]?) → va_S A0 H0 H1 locs1 → H1[q9]? = some ce → ce.vm = .none → s.vm.findClass E = some ce.cls → vx_W p l e R s m args below meth c H1 locs1 (cells + mc) (slots + ms) Q (F0 m pc ls rest) q9)
    (kk : ∀ (r : Int64) (u : S) (t : State) (H1 : Heap) (locs1 : List Loc), t.heap = H1 → s.vm.Alike t.vm → post r u → B u t → H.size ≤ H1.size → (∀ q : Nat, q < H.size → ¬ A1 q → H1[q]? = H[q]?) → va_S A0 H0 H1 locs1 → W p l e R s m args below meth c H1 locs1 (cells + mc) (slots + ms) Q (F0 m (pc + 3) ls (.long r :: rest))) : W p l e R s m args below meth c H locs cells slots Q (F0 m pc ls st0) := by
  intro T hT X
  rcases hr T hT X with ⟨v, st₀, t, T', L, h0, X', hL, e1, e2, ⟨⟨r, u, hv, hp, hb⟩, hF⟩, st⟩ | ⟨q, st₀, t, T', L, E, ce, h0, X', hL, e1, e2, ⟨u, hp, hb, hF⟩, hce, hcv, hcl, st⟩
  · cases hv
    obtain ⟨k1, k2, k3⟩ := vx_keep h0 e1 hS hA hf hL hF
    obtain ⟨t2, a1, b1⟩ := kk r u t T'.heap (locs ++ L) e1.symm (by rw [← e2]; exact X'.warmed.alike) hp hb k1 k2 k3 T' rfl X'
    exact ⟨t2, st t2 a1, b1⟩
  · obtain ⟨k1, k2, k3⟩ := vx_keep h0 e1 hS hAX hf hL hF
    obtain ⟨t2, a1, b1⟩ := kx E ce q u t T'.heap (locs ++ L) e1.symm (by rw [← e2]; exact X'.warmed.alike) hp hb k1 k2 k3 (by rw [e1]; exact hce) hcv hcl T' rfl X'
    exact ⟨t2, st.trans a1, b1⟩
theorem vx_callf {S SX : Type} {post : UInt32 → S → Prop} {px : SX → Prop} {B : S → State → Prop} {BX : String → SX → State → Prop} {AX : Nat → Prop} (hr : vx_Run p l e R s m args below meth c H locs cells slots mc ms (F0 m pc ls st0) rest (va_Qf post B A1 a) (vx_X px BX AX) free) (hS : va_S A0 H0 H locs) (hA : ∀ q, q < H.size → A1 q → A0 q) (hf : ∀ q, free q → A0 q) (hAX : ∀ q, q < H.size → AX q → A0 q)
    (kx : ∀ (E : String) (ce : Cell) (q9 : Addr) (u : SX) (t : State) (H1 : Heap) (locs1 : List Loc), t.heap = H1 → s.vm.Alike t.vm → px u → BX E u t → H.size ≤ H1.size → (∀ q : Nat, q < H.size → ¬ AX q → H1[q]? = H[q]?) → va_S A0 H0 H1 locs1 → H1[q9]? = some ce → ce.vm = .none → s.vm.findClass E = some ce.cls → vx_W p l e R s m args below meth c H1 locs1 (cells + mc) (slots + ms) Q (F0 m pc ls rest) q9)
    (kk : ∀ (r : UInt32) (u : S) (t : State) (H1 : Heap) (locs1 : List Loc), t.heap = H1 → s.vm.Alike t.vm → post r u → B u t → H.size ≤ H1.size → (∀ q : Nat, q < H.size → ¬ A1 q → H1[q]? = H[q]?) → va_S A0 H0 H1 locs1 → W p l e R s m args below meth c H1 locs1 (cells + mc) (slots + ms) Q (F0 m (pc + 3) ls (.float r :: rest))) : W p l e R s m args below meth c H locs cells slots Q (F0 m pc ls st0) := by
  intro T hT X
  rcases hr T hT X with ⟨v, st₀, t, T', L, h0, X', hL, e1, e2, ⟨⟨r, u, hv, hp, hb⟩, hF⟩, st⟩ | ⟨q, st₀, t, T', L, E, ce, h0, X', hL, e1, e2, ⟨u, hp, hb, hF⟩, hce, hcv, hcl, st⟩
  · cases hv
    obtain ⟨k1, k2, k3⟩ := vx_keep h0 e1 hS hA hf hL hF
    obtain ⟨t2, a1, b1⟩ := kk r u t T'.heap (locs ++ L) e1.symm (by rw [← e2]; exact X'.warmed.alike) hp hb k1 k2 k3 T' rfl X'
    exact ⟨t2, st t2 a1, b1⟩
  · obtain ⟨k1, k2, k3⟩ := vx_keep h0 e1 hS hAX hf hL hF
    obtain ⟨t2, a1, b1⟩ := kx E ce q u t T'.heap (locs ++ L) e1.symm (by rw [← e2]; exact X'.warmed.alike) hp hb k1 k2 k3 (by rw [e1]; exact hce) hcv hcl T' rfl X'
    exact ⟨t2, st.trans a1, b1⟩
theorem vx_calld {S SX : Type} {post : UInt64 → S → Prop} {px : SX → Prop} {B : S → State → Prop} {BX : String → SX → State → Prop} {AX : Nat → Prop} (hr : vx_Run p l e R s m args below meth c H locs cells slots mc ms (F0 m pc ls st0) rest (va_Qd post B A1 a) (vx_X px BX AX) free) (hS : va_S A0 H0 H locs) (hA : ∀ q, q < H.size → A1 q → A0 q) (hf : ∀ q, free q → A0 q) (hAX : ∀ q, q < H.size → AX q → A0 q)
    (kx : ∀ (E : String) (ce : Cell) (q9 : Addr) (u : SX) (t : State) (H1 : Heap) (locs1 : List Loc), t.heap = H1 → s.vm.Alike t.vm → px u → BX E u t → H.size ≤ H1.size → (∀ q : Nat, q < H.size → ¬ AX q → H1[q]? = H[q]?) → va_S A0 H0 H1 locs1 → H1[q9]? = some ce → ce.vm = .none → s.vm.findClass E = some ce.cls → vx_W p l e R s m args below meth c H1 locs1 (cells + mc) (slots + ms) Q (F0 m pc ls rest) q9)
    (kk : ∀ (r : UInt64) (u : S) (t : State) (H1 : Heap) (locs1 : List Loc), t.heap = H1 → s.vm.Alike t.vm → post r u → B u t → H.size ≤ H1.size → (∀ q : Nat, q < H.size → ¬ A1 q → H1[q]? = H[q]?) → va_S A0 H0 H1 locs1 → W p l e R s m args below meth c H1 locs1 (cells + mc) (slots + ms) Q (F0 m (pc + 3) ls (.double r :: rest))) : W p l e R s m args below meth c H locs cells slots Q (F0 m pc ls st0) := by
  intro T hT X
  rcases hr T hT X with ⟨v, st₀, t, T', L, h0, X', hL, e1, e2, ⟨⟨r, u, hv, hp, hb⟩, hF⟩, st⟩ | ⟨q, st₀, t, T', L, E, ce, h0, X', hL, e1, e2, ⟨u, hp, hb, hF⟩, hce, hcv, hcl, st⟩
  · cases hv
    obtain ⟨k1, k2, k3⟩ := vx_keep h0 e1 hS hA hf hL hF
    obtain ⟨t2, a1, b1⟩ := kk r u t T'.heap (locs ++ L) e1.symm (by rw [← e2]; exact X'.warmed.alike) hp hb k1 k2 k3 T' rfl X'
    exact ⟨t2, st t2 a1, b1⟩
  · obtain ⟨k1, k2, k3⟩ := vx_keep h0 e1 hS hAX hf hL hF
    obtain ⟨t2, a1, b1⟩ := kx E ce q u t T'.heap (locs ++ L) e1.symm (by rw [← e2]; exact X'.warmed.alike) hp hb k1 k2 k3 (by rw [e1]; exact hce) hcv hcl T' rfl X'
    exact ⟨t2, st.trans a1, b1⟩
theorem vx_callv {S SX : Type} {post : S → Prop} {px : SX → Prop} {B : S → State → Prop} {BX : String → SX → State → Prop} {AX : Nat → Prop} (hr : vx_Run p l e R s m args below meth c H locs cells slots mc ms (F0 m pc ls st0) rest (va_Qv post B A1 a) (vx_X px BX AX) free) (hS : va_S A0 H0 H locs) (hA : ∀ q, q < H.size → A1 q → A0 q) (hf : ∀ q, free q → A0 q) (hAX : ∀ q, q < H.size → AX q → A0 q)
    (kx : ∀ (E : String) (ce : Cell) (q9 : Addr) (u : SX) (t : State) (H1 : Heap) (locs1 : List Loc), t.heap = H1 → s.vm.Alike t.vm → px u → BX E u t → H.size ≤ H1.size → (∀ q : Nat, q < H.size → ¬ AX q → H1[q]? = H[q]?) → va_S A0 H0 H1 locs1 → H1[q9]? = some ce → ce.vm = .none → s.vm.findClass E = some ce.cls → vx_W p l e R s m args below meth c H1 locs1 (cells + mc) (slots + ms) Q (F0 m pc ls rest) q9)
    (kk : ∀ (u : S) (t : State) (H1 : Heap) (locs1 : List Loc), t.heap = H1 → s.vm.Alike t.vm → post u → B u t → H.size ≤ H1.size → (∀ q : Nat, q < H.size → ¬ A1 q → H1[q]? = H[q]?) → va_S A0 H0 H1 locs1 → W p l e R s m args below meth c H1 locs1 (cells + mc) (slots + ms) Q (F0 m (pc + 3) ls (rest))) : W p l e R s m args below meth c H locs cells slots Q (F0 m pc ls st0) := by
  intro T hT X
  rcases hr T hT X with ⟨v, st₀, t, T', L, h0, X', hL, e1, e2, ⟨⟨u, hv, hp, hb⟩, hF⟩, st⟩ | ⟨q, st₀, t, T', L, E, ce, h0, X', hL, e1, e2, ⟨u, hp, hb, hF⟩, hce, hcv, hcl, st⟩
  · cases hv
    obtain ⟨k1, k2, k3⟩ := vx_keep h0 e1 hS hA hf hL hF
    obtain ⟨t2, a1, b1⟩ := kk u t T'.heap (locs ++ L) e1.symm (by rw [← e2]; exact X'.warmed.alike) hp hb k1 k2 k3 T' rfl X'
    exact ⟨t2, st t2 a1, b1⟩
  · obtain ⟨k1, k2, k3⟩ := vx_keep h0 e1 hS hAX hf hL hF
    obtain ⟨t2, a1, b1⟩ := kx E ce q u t T'.heap (locs ++ L) e1.symm (by rw [← e2]; exact X'.warmed.alike) hp hb k1 k2 k3 (by rw [e1]; exact hce) hcv hcl T' rfl X'
    exact ⟨t2, st.trans a1, b1⟩
end Rows
section Ends
variable {p : Program} {l : Launch} {e : Env} {R : Room} {s : State} {m : MethodId} {args : Array Value} {below : List Frame} {meth : Method} {c : Code} {H : Heap} {locs : List Loc} {cells slots : Nat} {Q : State → Prop}
variable {mc ms : Nat} {free : Addr → Prop} {A0 A1 : Nat → Prop} {H0 : Heap} {a : Array Value} {ls : Array Slot} {st0 rest : List Value}
variable {Qc : Array Value → State → Outcome → State → Prop} {XC : String → State → State → Prop}
/-- what a body that may throw owes at its end -/
def vx_MQ (below : List Frame) (Qc : Array Value → State → Outcome → State → Prop) (XC : String → State → State → Prop) (a : Array Value) (s : State) (mc ms : Nat) (free : Addr → Prop) : State → Prop := fun t =>
  ∃ o, t.status = .running ∧ Ended t below o ∧ vx_Q Qc XC mc ms free a s o t
theorem vx_ret {g : JFrame} {mc ms : Nat} (k : W p l e R s m args below meth c H locs cells slots (MQ below Qc args s mc ms free) g) : W p l e R s m args below meth c H locs cells slots (vx_MQ below Qc XC args s mc ms free) g := by
  intro T hT X
  obtain ⟨t, a1, o, b1, b2, b3, b4⟩ := k T hT X
  exact ⟨t, a1, o, b1, b2, Or.inl ⟨b3, b4⟩⟩
/-- not caught here: it goes on to the caller -/
theorem vx_widen {g : JFrame} {q : Addr} {k n : Nat} (h1 : cells ≤ k) (h2 : slots ≤ n) (kk : vx_W p l e R s m args below meth c H locs k n Q g q) : vx_W p l e R s m args below meth c H locs cells slots Q g q := fun T hT X => kk T hT (stand_widen X h1 h2)
theorem vx_out {pc : Nat} {E : String} {ce : Cell} {q : Addr} {mc ms : Nat} (hout : ∀ x ∈ c.exceptionTable.toList, covers x pc = false) (hlocks : meth.locks = false) (hcell : H[q]? = some ce) (hv : ce.vm = .none) (hcl : s.vm.findClass E = some ce.cls)
    (hx : ∀ t : State, t.heap = H → s.vm.Alike t.vm → XC E s t) (hf : ∀ z ∈ locs, free z.base) (hc : cells ≤ mc) (hs : slots ≤ ms) :
    vx_W p l e R s m args below meth c H locs cells slots (vx_MQ below Qc XC args s mc ms free) (F0 m pc ls rest) q := by
  intro T hT X
  obtain ⟨st1, hrun, hend, hW, hsm⟩ := X.leaveThrown q (g := F0 m pc ls rest) rfl rfl rfl hout hlocks
  have hcell9 : (T.setFrames (.throwing q :: below)).heap[q]? = some ce := by
    show T.heap[q]? = some ce
    rw [hT]; exact hcell
  exact ⟨_, st1, .threw q, hrun, hend, Or.inr ⟨q, rfl, E, ce, locs, hx _ hT hW.alike, hcell9, hv, hcl, hW, hsm.mono hc hs, hf⟩⟩
theorem vx_frame {U : State} {k n : Nat} (h : s.sameButNew ({ U with vm := s.vm } : State) locs k n) : s.heap.size ≤ U.heap.size ∧ ∀ q : Nat, q < s.heap.size → (∀ z ∈ locs, z.base ≠ q) → U.heap[q]? = s.heap[q]? := by
  obtain ⟨-, h2, -, -, -, h6⟩ := h
  refine ⟨h2, fun q hq hz => ?_⟩
  obtain ⟨c9, e1, e2, e3, e4⟩ := h6 q _ (Array.getElem?_eq_getElem hq)
  have hs : c9.slots = (s.heap[q]).slots := Array.ext_getElem? fun i => e4 i fun hm => hz _ hm rfl
  have h9 : c9 = s.heap[q] := by
    rw [hs] at e2
    exact e2
  have e5 : U.heap[q]? = some c9 := e1
  rw [e5, h9, Array.getElem?_eq_getElem hq]
/-- the words of a throw but the four that speak of the heap -/
def vx_no (w : Cond) : Bool := decide (w ≠ .isRef (.static Bundle.tN "UNASSIGNED_STACK" Bundle.steD)) && decide (w ≠ .isRef (.static Bundle.tN "SUPPRESSED_SENTINEL" Bundle.listD)) && decide (w ≠ .laysStatic Bundle.tN "UNASSIGNED_STACK" Bundle.steD) && decide (w ≠ .laysStatic Bundle.tN "SUPPRESSED_SENTINEL" Bundle.listD)
def vx_at0 (own : String) (ic : Nat) (X : String) (names : List String) : List Cond := (Bundle.ownAtoms0 own ic X names).filter vx_no
def vx_atS (own : String) (ic : Nat) (X : String) (names : List String) : List Cond := (Bundle.ownAtoms own ic X names).filter vx_no
/-- a word that the tables alone decide, or a good one -/
def vx_ot (w : Cond) : Bool := w.onTables || goodWord w
theorem vx_ot_at {args a' : Array Value} {s U : State} {w : Cond} (hW : s.WarmedH U.vm) (hvm : s.vm = U.vm) (hg : vx_ot w = true) (h : w.before args s = true) : w.before a' U = true := by
  simp only [vx_ot, Bool.or_eq_true] at hg
  rcases hg with hg | hg
  · exact va_tabs hg hvm h
  · exact word_at hW (good_of_word hg) h
/-- a list's words: the good ones out of the method's own list, the others by premises of their own -/
theorem vx_hat {args : Array Value} {s : State} {L B : List Cond} (h1 : ∀ w ∈ L.filter goodWord, w.before args s = true) (h2 : ∀ w ∈ L.filter (fun w => !goodWord w), w ∈ B) (h3 : ∀ w ∈ B, w.before args s = true) : ∀ w ∈ L, w.before args s = true := by
  intro w hw
  by_cases g : goodWord w = true
  · exact h1 w (List.mem_filter.mpr ⟨hw, g⟩)
  · refine h3 w (h2 w (List.mem_filter.mpr ⟨hw, ?_⟩))
    show (!goodWord w) = true
    cases hgw : goodWord w
    · rfl
    · exact absurd hgw g
theorem vx_c {args : Array Value} {s : State} {w : Cond} {B : List Cond} (h : w.before args s = true) (t : ∀ w ∈ B, w.before args s = true) : ∀ w' ∈ w :: B, w'.before args s = true := fun w' h' => (List.mem_cons.mp h').elim (fun e => by rw [e]; exact h) (t w')
theorem vx_n {args : Array Value} {s : State} : ∀ w ∈ ([] : List Cond), w.before args s = true := fun _ h => nomatch h
theorem vx_own {args : Array Value} {s : State} {L : List Cond} (h1 : ∀ w ∈ L.filter vx_no, w.before args s = true)
    (hU : (Cond.isRef (.static Bundle.tN "UNASSIGNED_STACK" Bundle.steD)).before args s = true) (hN : (Cond.isRef (.static Bundle.tN "SUPPRESSED_SENTINEL" Bundle.listD)).before args s = true)
    (lU : (Cond.laysStatic Bundle.tN "UNASSIGNED_STACK" Bundle.steD).before args s = true) (lN : (Cond.laysStatic Bundle.tN "SUPPRESSED_SENTINEL" Bundle.listD).before args s = true) : ∀ w ∈ L, w.before args s = true := by
  intro w hw
  by_cases e1 : w = .isRef (.static Bundle.tN "UNASSIGNED_STACK" Bundle.steD)
  · rw [e1]; exact hU
  · by_cases e2 : w = .isRef (.static Bundle.tN "SUPPRESSED_SENTINEL" Bundle.listD)
    · rw [e2]; exact hN
    · by_cases e3 : w = .laysStatic Bundle.tN "UNASSIGNED_STACK" Bundle.steD
      · rw [e3]; exact lU
      · by_cases e4 : w = .laysStatic Bundle.tN "SUPPRESSED_SENTINEL" Bundle.listD
        · rw [e4]; exact lN
        · exact h1 w (List.mem_filter.mpr ⟨hw, by unfold vx_no; rw [decide_eq_true e1, decide_eq_true e2, decide_eq_true e3, decide_eq_true e4]; rfl⟩)
/-- where a static field lies, its class's statics cell in H -/
def vx_L (C n d : String) (A : Nat → Prop) (U : State) (H : Heap) : Prop := ∃ (c : ClassId) (k : Class) (i : Nat) (f : Field) (a : Nat) (cell : Cell), U.vm.findClass C = some c ∧ U.fieldFound? C n d = some (c, k, i, f) ∧ f.isStatic = true ∧ k.statics = some a ∧ H[a]? = some cell ∧ cell.vm.isStatics = true ∧ cell.cls = c ∧ f.slot < cell.slots.size ∧ k.staticTypes[f.slot]? = some f.type ∧ ¬ A a
theorem vx_L.moved {C n d : String} {A : Nat → Prop} {u U : State} {H : Heap} (hvm : u.vm.Alike U.vm) (h : vx_L C n d A u H) : vx_L C n d A U H := by
  obtain ⟨c, k, i, f, a, cell, h1, h2, h3, h4, h5, h6, h7, h8, h9, h10⟩ := h
  obtain ⟨k', hi', he⟩ := State.fieldFound?_setVm hvm h2
  exact ⟨c, k', i, f, a, cell, by rw [hvm.findClass]; exact h1, hi', h3, by rw [he]; exact h4, h5, h6, h7, h8, by rw [he]; exact h9, h10⟩
theorem vx_L.kept {C n d : String} {A : Nat → Prop} {U : State} {H H1 : Heap} (h : vx_L C n d A U H) (hq : ∀ a : Nat, a < H.size → ¬ A a → H1[a]? = H[a]?) : vx_L C n d A U H1 := by
  obtain ⟨c, k, i, f, a, cell, h1, h2, h3, h4, h5, h6, h7, h8, h9, h10⟩ := h
  exact ⟨c, k, i, f, a, cell, h1, h2, h3, h4, by rw [hq a (Array.getElem?_eq_some_iff.mp h5).1 h10]; exact h5, h6, h7, h8, h9, h10⟩
theorem vx_L.narrow {C n d : String} {A B : Nat → Prop} {U : State} {H : Heap} (h : vx_L C n d A U H) (hAB : ∀ q, B q → A q) : vx_L C n d B U H := by
  obtain ⟨c, k, i, f, a, cell, h1, h2, h3, h4, h5, h6, h7, h8, h9, h10⟩ := h
  exact ⟨c, k, i, f, a, cell, h1, h2, h3, h4, h5, h6, h7, h8, h9, fun z => h10 (hAB _ z)⟩
theorem vx_L.word {C n d : String} {A : Nat → Prop} {s : State} {args : Array Value} (h : vx_L C n d A s s.heap) : (Cond.laysStatic C n d).before args s = true := by
  obtain ⟨c, k, i, f, a, cell, h1, h2, h3, h4, h5, h6, h7, h8, h9, -⟩ := h
  show (Cond.laysStatic C n d).holds args s none s [] = true
  exact Cond.laysStatic_of h1 h2 h3 h4 h5 h6 h7 h8 h9
/-- .. and what it holds: null or some reference -/
def vx_Zq (C n d : String) (A : Nat → Prop) (U : State) (H : Heap) : Prop := va_Zq C n d A U H ∧ vx_L C n d A U H
theorem vx_Zq.moved {C n d : String} {A : Nat → Prop} {u U : State} {H : Heap} (hvm : u.vm.Alike U.vm) (h : vx_Zq C n d A u H) : vx_Zq C n d A U H := ⟨va_Zq.moved hvm h.1, vx_L.moved hvm h.2⟩
theorem vx_Zq.kept {C n d : String} {A : Nat → Prop} {U : State} {H H1 : Heap} (h : vx_Zq C n d A U H) (hq : ∀ a : Nat, a < H.size → ¬ A a → H1[a]? = H[a]?) : vx_Zq C n d A U H1 := ⟨va_Zq.kept h.1 hq, vx_L.kept h.2 hq⟩
theorem vx_Zq.narrow {C n d : String} {A B : Nat → Prop} {U : State} {H : Heap} (h : vx_Zq C n d A U H) (hAB : ∀ q, B q → A q) : vx_Zq C n d B U H := ⟨va_Zq.narrow h.1 hAB, vx_L.narrow h.2 hAB⟩
theorem vx_Zqof {args : Array Value} {s : State} {C n d : String} {A : Nat → Prop} (hl : (Cond.laysStatic C n d).before args s = true) (hini : (Cond.initialized C).before args s = true) (h : (Cond.isRef (.static C n d)).before args s = true) (hA : ∀ a : Nat, a < s.heap.size → ¬ A a) : vx_Zq C n d A s s.heap := by
  refine ⟨va_Zqof hl hini h hA, ?_⟩
  obtain ⟨c, k, i, f, a, cell, h1, h2, h3, h4, h5, h6, h7, h8, h9⟩ := Cond.laysStatic_spec hl
  exact ⟨c, k, i, f, a, cell, h1, h2, h3, h4, h5, h6, h7, h8, h9, hA a (Array.getElem?_eq_some_iff.mp h5).1⟩
theorem vx_isRef {C n d : String} {v : Value} {A : Nat → Prop} {s : State} {args : Array Value} (h : va_Z C n d v A s s.heap) (hv : v.isRef = true) : (Cond.isRef (.static C n d)).before args s = true := by
  obtain ⟨cf, kf, fi, f, a, cell, h1, h2, h3, h4, h5, h6, h7, -⟩ := h
  have he : (Term.static C n d).eval args s none [] s = some v := by
    simp [Term.eval, State.fieldNamed?, h1, h2, h4, h5, h6, h7]
  simp only [Cond.before, Cond.holds, Cond.value, he]
  cases v <;> simp_all [Value.isRef]
theorem vx_isRefq {C n d : String} {A : Nat → Prop} {s : State} {args : Array Value} (h : va_Zq C n d A s s.heap) : (Cond.isRef (.static C n d)).before args s = true := by
  rcases h with h | ⟨t, h⟩
  · exact vx_isRef h rfl
  · exact vx_isRef h rfl
/-- the same frame, seen from here: as if the method were called anew in this heap -/
theorem vx_rebase {T : State} (X : Stand p l e R s m args below meth c T locs cells slots) {R' : Room} (hf : R'.frames ≤ R.frames) (hl : R'.locals ≤ R.locals) (hc : cells + R'.cells ≤ R.cells) (hs : slots + R'.slots ≤ R.slots) :
    Stand p l e R' ((T.setVm s.vm).setFrames (.invoking m args :: below)) m args below meth c T [] 0 0 := by
  have htop : (T.setVm s.vm).topJava?.isSome := X.here.top
  have hF : ((T.setVm s.vm).setFrames (.invoking m args :: below)).frames = .invoking m args :: below := State.frames_setFrames _ (State.cur_lt_of_top htop)
  obtain ⟨g₀, hg0⟩ := Option.isSome_iff_exists.mp htop
  obtain ⟨r, hr⟩ := State.topJava?_eq_some.mp hg0
  have hl9 : e.platform.stackLimits (T.setVm s.vm).me = e.platform.stackLimits s.me := X.limits
  have hb9 : (T.setVm s.vm).me.stackBytes = s.me.stackBytes := X.bytes
  refine ⟨X.admits, X.cas, X.clock, hF, ?_, X.hears, X.method, X.code, X.here, X.tail, X.warmed, ?_, ?_, ?_⟩
  · have h := X.room
    have hU : ((T.setVm s.vm).setFrames (.invoking m args :: below)).localsInUse = s.localsInUse := by
      rw [State.localsInUse_invoking hF (meth := meth) (c := c) X.method X.code, State.localsInUse_invoking X.frames X.method X.code]
    simp only [State.hasRoom, Bool.and_eq_true, decide_eq_true_eq] at h ⊢
    obtain ⟨⟨⟨⟨h1, h2, h3, h4, h5, h6⟩, h7⟩, h8⟩, h9⟩ := h
    rw [X.frames, List.length_cons] at h2 h3
    have q1 := X.heapSize
    have q2 := X.used
    simp only [hF, hU, List.length_cons, State.stackLimits_setFrames, State.stackBytes_setFrames, hl9, hb9]
    refine ⟨⟨⟨⟨by omega, by omega, by omega, by omega, by omega, h6⟩, ?_⟩, ?_⟩, X.book⟩
    · show T.heap.size + R'.cells ≤ e.platform.maxCells
      omega
    · show T.slotsUsed + R'.slots ≤ e.platform.maxSlots
      omega
  · rw [State.stackLimits_setFrames]; rfl
  · rw [State.stackBytes_setFrames]; rfl
  · refine ⟨?_, Nat.le_refl _, Nat.le_refl _, ?_, ?_, fun a c9 h9 => ⟨c9, h9, rfl, rfl, fun _ _ => rfl⟩⟩
    · obtain ⟨t, ht, -⟩ := State.frames_cons hr
      show T.setVm s.vm = { ((T.setVm s.vm).setFrames (.invoking m args :: below)).setFrames (T.setVm s.vm).frames with heap := T.heap, slotsUsed := T.slotsUsed }
      rw [State.setFrames_setFrames, State.setFrames_self ht]
      rfl
    · show T.slotsUsed = T.slotsUsed + ((T.heap.toList.drop T.heap.size).map (·.slots.size)).sum
      rw [List.drop_eq_nil_of_le (Nat.le_of_eq Array.length_toList)]
      rfl
    · show ((T.heap.toList.drop T.heap.size).map (·.slots.size)).sum ≤ 0
      rw [List.drop_eq_nil_of_le (Nat.le_of_eq Array.length_toList)]
      exact Nat.le_refl _
/-- 'throw new E()': new; dup; invokespecial; athrow -/
theorem vx_throw0 {cc : ByteArray} {pc : Nat} (hexec : p.tables.exec = Jvm.exec) (hb : c.code = cc) (hl : l.stackTraces = false) {own cls : String} {names : List String} {ik ic mc ms : Nat} {A : Nat → Prop}
    (hown : s.vm.findClass own = some m.cls) (hcls : Bundle.fit cls = true) (hnames : ∀ n ∈ names, Bundle.fit n = true)
    (hk : (Cond.classLink own ik cls).before args s = true) (hini : (Cond.initialized cls).before args s = true) (hat : ∀ w ∈ vx_at0 own ic cls names, w.before args s = true)
    (hgood : ∀ w ∈ Cond.classLink own ik cls :: Cond.initialized cls :: vx_at0 own ic cls names, vx_ot w = true)
    (hU : vx_Zq Bundle.tN "UNASSIGNED_STACK" Bundle.steD A s s.heap) (hN : vx_Zq Bundle.tN "SUPPRESSED_SENTINEL" Bundle.listD A s s.heap) (hS : va_S A s.heap H locs) (hsize : ls.size = c.maxLocals)
    (d0 : decode cc pc = .ok (.new ik, 3)) (d3 : decode cc (pc + 3) = .ok (.dup, 1)) (d4 : decode cc (pc + 4) = .ok (.invokespecial ic, 3)) (d7 : decode cc (pc + 7) = .ok (.athrow, 1))
    (hout : ∀ x ∈ c.exceptionTable.toList, covers x (pc + 7) = false)
    (hRframes : names.length + 3 < R.frames) (hRlocals : (rest.map fun v => v.category).sum + (13 * (names.length + 1) + 42) ≤ R.locals) (hRcells : cells + 1 ≤ R.cells) (hRslots : slots + 6 ≤ R.slots) (hlocks : meth.locks = false)
    (hx : ∀ t : State, s.vm.Alike t.vm → H.size ≤ t.heap.size → (∀ q : Nat, q < H.size → t.heap[q]? = H[q]?) → XC cls s t)
    (hf : ∀ z ∈ locs, free z.base) (hc : cells + 1 ≤ mc) (hs : slots + 6 ≤ ms) :
    W p l e R s m args below meth c H locs cells slots (vx_MQ below Qc XC args s mc ms free) (F0 m pc ls rest) := by
  intro T hT X
  have htr : e.platform.stackTraces = false := (show e.platform.stackTraces = l.stackTraces by rw [X.admits.platform]).trans hl
  have Y := vx_rebase X (R' := { frames := R.frames, locals := R.locals, cells := 1, slots := 6 }) (Nat.le_refl _) (Nat.le_refl _) hRcells hRslots
  obtain ⟨s', hA⟩ : ∃ z, z = (T.setVm s.vm).setFrames (.invoking m args :: below) := ⟨_, rfl⟩
  rw [← hA] at Y
  have hvm : s'.vm = s.vm := by rw [hA]; rfl
  have hhp : s'.heap = H := by rw [hA]; exact hT
  have hW0 : s.WarmedH s'.vm := by rw [hvm]; exact State.WarmedH.refl s
  have hat' : ∀ w ∈ vx_at0 own ic cls names, w.before args s' = true := fun w hw => vx_ot_at hW0 hvm.symm (hgood w (List.mem_cons_of_mem _ (List.mem_cons_of_mem _ hw))) (hat w hw)
  have hk' : (Cond.classLink own ik cls).before args s' = true := vx_ot_at hW0 hvm.symm (hgood _ List.mem_cons_self) hk
  have hini' : (Cond.initialized cls).before args s' = true := vx_ot_at hW0 hvm.symm (hgood _ (List.mem_cons_of_mem _ List.mem_cons_self)) hini
  have hU' : vx_Zq Bundle.tN "UNASSIGNED_STACK" Bundle.steD A s' s'.heap := by rw [hhp]; exact vx_Zq.moved hW0.alike (hU.kept hS.2.1)
  have hN' : vx_Zq Bundle.tN "SUPPRESSED_SENTINEL" Bundle.listD A s' s'.heap := by rw [hhp]; exact vx_Zq.moved hW0.alike (hN.kept hS.2.1)
  have h : ∀ w ∈ Bundle.ownAtoms0 own ic cls names, w.before args s' = true := vx_own hat' (vx_isRefq hU'.1) (vx_isRefq hN'.1) hU'.2.word hN'.2.word
  have hown' : s'.vm.findClass own = some m.cls := by rw [hvm]; exact hown
  have hins : (Cond.instantiable cls 6).before args s' = true := h _ (by simp [Bundle.ownAtoms0])
  obtain ⟨vm₁, cX, kX, hfX, hkX, -, -, X₁, st1⟩ := Y.newCold hexec (own := own) (C := cls) (index := ik) (n := 6) hown' hk' hins hini'
    (g := F0 m pc ls rest) rfl (by rw [hb]; exact d0) (Nat.le_refl _) (Nat.le_refl _)
  generalize hT1 : (T.setVm vm₁).pushCell { cls := cX, slots := kX.instanceTypes.map defaultValue, vm := .none } = T1 at X₁ st1
  have hcat : (Value.ref T.heap.size).category = 1 := rfl
  have hcellA : T1.heap[T.heap.size]? = some (freshCell cX kX) := by rw [← hT1]; exact State.heap_pushCell_size _ _
  have d3' : decode c.code (pc + 3) = .ok (.dup, 1) := by rw [hb]; exact d3
  obtain ⟨U, hsteps, hrun, hend, hW, hsame, ce, hce, hO⟩ := X₁.ctorThrow0 hexec htr (own := own) (cls := cls) (names := names) (ic := ic) hown' hcls hnames h (fun x hx => nomatch hx) hfX hkX hcellA (by rw [hhp, hT]; exact Nat.le_refl _)
    (g := { method := m, pc := pc + 4, locals := ls, stack := .ref T.heap.size :: .ref T.heap.size :: rest, locked := none }) rfl hsize rfl rfl (rest := rest) rfl
    (by rw [hb]; exact d4) (by rw [hb]; exact d7) hout hRframes (by simp only [List.map_cons, List.sum_cons, hcat]; omega) hlocks
  obtain ⟨f1, f2⟩ := vx_frame hsame
  rw [hhp] at f1 f2
  have hWs : s.WarmedH U.vm := State.WarmedH.trans hW0 hW
  have hcl : s.vm.findClass cls = some ce.cls := by
    have h9 := hO.cls
    rw [hvm] at h9
    exact h9
  have hall : s.sameButNew ({ U with vm := s.vm } : State) locs mc ms := by
    subst hA
    obtain ⟨e1, e2⟩ := hsame
    rw [State.setFrames_setFrames] at e1
    have h2 : (T.setVm s.vm).sameButNew ({ U with vm := s.vm } : State) [] (0 + 1) (0 + 6) := ⟨e1, e2⟩
    have h3 := X.same.trans h2
    rw [List.append_nil] at h3
    exact h3.mono hc hs
  refine ⟨U, ?_, .threw T.heap.size, hrun, hend, Or.inr ⟨T.heap.size, rfl, cls, ce, locs, hx U hWs.alike f1 (fun q hq => f2 q hq (fun z hz => nomatch hz)), hce, hO.vm, hcl, hWs, hall, hf⟩⟩
  refine st1 _ ?_
  show Steps p.tables e below (T1.setTop { method := m, pc := pc + 3, locals := ls, stack := .ref T.heap.size :: rest, locked := none }) _
  jvm_step X₁.here [X₁.here.top, hexec, d3', Value.category]
  exact hsteps
/-- 'throw new E("text")': new; dup; ldc; invokespecial; athrow -/
theorem vx_throwS {cc : ByteArray} {pc : Nat} (hexec : p.tables.exec = Jvm.exec) (hb : c.code = cc) (hl : l.stackTraces = false) {own cls text : String} {names : List String} {ik is ic mc ms sa : Nat} {A : Nat → Prop}
    (hown : s.vm.findClass own = some m.cls) (hcls : Bundle.fit cls = true) (hnames : ∀ n ∈ names, Bundle.fit n = true)
    (hk : (Cond.classLink own ik cls).before args s = true) (hini : (Cond.initialized cls).before args s = true) (hstr : vk_R own is text sa s) (hat : ∀ w ∈ vx_atS own ic cls names, w.before args s = true)
    (hgood : ∀ w ∈ Cond.classLink own ik cls :: Cond.initialized cls :: vx_atS own ic cls names, vx_ot w = true)
    (hU : vx_Zq Bundle.tN "UNASSIGNED_STACK" Bundle.steD A s s.heap) (hN : vx_Zq Bundle.tN "SUPPRESSED_SENTINEL" Bundle.listD A s s.heap) (hS : va_S A s.heap H locs) (hsize : ls.size = c.maxLocals)
    (d0 : decode cc pc = .ok (.new ik, 3)) (d3 : decode cc (pc + 3) = .ok (.dup, 1)) (d4 : decode cc (pc + 4) = .ok (.ldc is, 2)) (d6 : decode cc (pc + 6) = .ok (.invokespecial ic, 3)) (d9 : decode cc (pc + 9) = .ok (.athrow, 1))
    (hout : ∀ x ∈ c.exceptionTable.toList, covers x (pc + 9) = false)
    (hRframes : names.length + 3 < R.frames) (hRlocals : (rest.map fun v => v.category).sum + (13 * (names.length + 1) + 43) ≤ R.locals) (hRcells : cells + 1 ≤ R.cells) (hRslots : slots + 6 ≤ R.slots) (hlocks : meth.locks = false)
    (hx : ∀ t : State, s.vm.Alike t.vm → H.size ≤ t.heap.size → (∀ q : Nat, q < H.size → t.heap[q]? = H[q]?) → XC cls s t)
    (hf : ∀ z ∈ locs, free z.base) (hc : cells + 1 ≤ mc) (hs : slots + 6 ≤ ms) :
    W p l e R s m args below meth c H locs cells slots (vx_MQ below Qc XC args s mc ms free) (F0 m pc ls rest) := by
  intro T hT X
  have htr : e.platform.stackTraces = false := (show e.platform.stackTraces = l.stackTraces by rw [X.admits.platform]).trans hl
  have Y := vx_rebase X (R' := { frames := R.frames, locals := R.locals, cells := 1, slots := 6 }) (Nat.le_refl _) (Nat.le_refl _) hRcells hRslots
  obtain ⟨s', hA⟩ : ∃ z, z = (T.setVm s.vm).setFrames (.invoking m args :: below) := ⟨_, rfl⟩
  rw [← hA] at Y
  have hvm : s'.vm = s.vm := by rw [hA]; rfl
  have hhp : s'.heap = H := by rw [hA]; exact hT
  have hW0 : s.WarmedH s'.vm := by rw [hvm]; exact State.WarmedH.refl s
  have hat' : ∀ w ∈ vx_atS own ic cls names, w.before args s' = true := fun w hw => vx_ot_at hW0 hvm.symm (hgood w (List.mem_cons_of_mem _ (List.mem_cons_of_mem _ hw))) (hat w hw)
  have hk' : (Cond.classLink own ik cls).before args s' = true := vx_ot_at hW0 hvm.symm (hgood _ List.mem_cons_self) hk
  have hini' : (Cond.initialized cls).before args s' = true := vx_ot_at hW0 hvm.symm (hgood _ (List.mem_cons_of_mem _ List.mem_cons_self)) hini
  have hU' : vx_Zq Bundle.tN "UNASSIGNED_STACK" Bundle.steD A s' s'.heap := by rw [hhp]; exact vx_Zq.moved hW0.alike (hU.kept hS.2.1)
  have hN' : vx_Zq Bundle.tN "SUPPRESSED_SENTINEL" Bundle.listD A s' s'.heap := by rw [hhp]; exact vx_Zq.moved hW0.alike (hN.kept hS.2.1)
  have h : ∀ w ∈ Bundle.ownAtoms own ic cls names, w.before args s' = true := vx_own hat' (vx_isRefq hU'.1) (vx_isRefq hN'.1) hU'.2.word hN'.2.word
  have hown' : s'.vm.findClass own = some m.cls := by rw [hvm]; exact hown
  have hins : (Cond.instantiable cls 6).before args s' = true := h _ (by simp [Bundle.ownAtoms])
  obtain ⟨vm₁, cX, kX, hfX, hkX, -, -, X₁, st1⟩ := Y.newCold hexec (own := own) (C := cls) (index := ik) (n := 6) hown' hk' hins hini'
    (g := F0 m pc ls rest) rfl (by rw [hb]; exact d0) (Nat.le_refl _) (Nat.le_refl _)
  generalize hT1 : (T.setVm vm₁).pushCell { cls := cX, slots := kX.instanceTypes.map defaultValue, vm := .none } = T1 at X₁ st1
  have hcat : (Value.ref T.heap.size).category = 1 := rfl
  have hcellA : T1.heap[T.heap.size]? = some (freshCell cX kX) := by rw [← hT1]; exact State.heap_pushCell_size _ _
  have d3' : decode c.code (pc + 3) = .ok (.dup, 1) := by rw [hb]; exact d3
  have d4' : decode c.code (pc + 4) = .ok (.ldc is, 2) := by rw [hb]; exact d4
  have hstr' : vk_R own is text sa s' := vk_R.warm hW0 hstr
  obtain ⟨U, hsteps, hrun, hend, hW, hsame, ce, hce, hO⟩ := X₁.ctorThrowS hexec htr (own := own) (cls := cls) (names := names) (ic := ic) hown' hcls hnames h (fun x hx => nomatch hx) hfX hkX hcellA (by rw [hhp, hT]; exact Nat.le_refl _) (msg := .ref sa) rfl
    (g := { method := m, pc := pc + 6, locals := ls, stack := .ref sa :: .ref T.heap.size :: .ref T.heap.size :: rest, locked := none }) rfl hsize rfl rfl (rest := rest) rfl
    (by rw [hb]; exact d6) (by rw [hb]; exact d9) hout hRframes (by simp only [List.map_cons, List.sum_cons, hcat]; omega) hlocks
  obtain ⟨f1, f2⟩ := vx_frame hsame
  rw [hhp] at f1 f2
  have hWs : s.WarmedH U.vm := State.WarmedH.trans hW0 hW
  have hcl : s.vm.findClass cls = some ce.cls := by
    have h9 := hO.cls
    rw [hvm] at h9
    exact h9
  have hall : s.sameButNew ({ U with vm := s.vm } : State) locs mc ms := by
    subst hA
    obtain ⟨e1, e2⟩ := hsame
    rw [State.setFrames_setFrames] at e1
    have h2 : (T.setVm s.vm).sameButNew ({ U with vm := s.vm } : State) [] (0 + 1) (0 + 6) := ⟨e1, e2⟩
    have h3 := X.same.trans h2
    rw [List.append_nil] at h3
    exact h3.mono hc hs
  refine ⟨U, ?_, .threw T.heap.size, hrun, hend, Or.inr ⟨T.heap.size, rfl, cls, ce, locs, hx U hWs.alike f1 (fun q hq => f2 q hq (fun z hz => nomatch hz)), hce, hO.vm, hcl, hWs, hall, hf⟩⟩
  refine st1 _ ?_
  show Steps p.tables e below (T1.setTop { method := m, pc := pc + 3, locals := ls, stack := .ref T.heap.size :: rest, locked := none }) _
  jvm_step X₁.here [X₁.here.top, hexec, d3', Value.category]
  exact X₁.ldcString hexec (own := own) (text := text) (index := is) (a := sa) hown' hstr'.1 hstr'.2
    (g := { method := m, pc := pc + 4, locals := ls, stack := .ref T.heap.size :: .ref T.heap.size :: rest, locked := none }) rfl d4' _ hsteps
/-- 'throw new E("text")', the text by a wide index -/
theorem vx_throwSW {cc : ByteArray} {pc : Nat} (hexec : p.tables.exec = Jvm.exec) (hb : c.code = cc) (hl : l.stackTraces = false) {own cls text : String} {names : List String} {ik is ic mc ms sa : Nat} {A : Nat → Prop}
    (hown : s.vm.findClass own = some m.cls) (hcls : Bundle.fit cls = true) (hnames : ∀ n ∈ names, Bundle.fit n = true)
    (hk : (Cond.classLink own ik cls).before args s = true) (hini : (Cond.initialized cls).before args s = true) (hstr : vk_R own is text sa s) (hat : ∀ w ∈ vx_atS own ic cls names, w.before args s = true)
    (hgood : ∀ w ∈ Cond.classLink own ik cls :: Cond.initialized cls :: vx_atS own ic cls names, vx_ot w = true)
    (hU : vx_Zq Bundle.tN "UNASSIGNED_STACK" Bundle.steD A s s.heap) (hN : vx_Zq Bundle.tN "SUPPRESSED_SENTINEL" Bundle.listD A s s.heap) (hS : va_S A s.heap H locs) (hsize : ls.size = c.maxLocals)
    (d0 : decode cc pc = .ok (.new ik, 3)) (d3 : decode cc (pc + 3) = .ok (.dup, 1)) (d4 : decode cc (pc + 4) = .ok (.ldc_w is, 3)) (d7 : decode cc (pc + 7) = .ok (.invokespecial ic, 3)) (d10 : decode cc (pc + 10) = .ok (.athrow, 1))
    (hout : ∀ x ∈ c.exceptionTable.toList, covers x (pc + 10) = false)
    (hRframes : names.length + 3 < R.frames) (hRlocals : (rest.map fun v => v.category).sum + (13 * (names.length + 1) + 43) ≤ R.locals) (hRcells : cells + 1 ≤ R.cells) (hRslots : slots + 6 ≤ R.slots) (hlocks : meth.locks = false)
    (hx : ∀ t : State, s.vm.Alike t.vm → H.size ≤ t.heap.size → (∀ q : Nat, q < H.size → t.heap[q]? = H[q]?) → XC cls s t)
    (hf : ∀ z ∈ locs, free z.base) (hc : cells + 1 ≤ mc) (hs : slots + 6 ≤ ms) :
    W p l e R s m args below meth c H locs cells slots (vx_MQ below Qc XC args s mc ms free) (F0 m pc ls rest) := by
  intro T hT X
  have htr : e.platform.stackTraces = false := (show e.platform.stackTraces = l.stackTraces by rw [X.admits.platform]).trans hl
  have Y := vx_rebase X (R' := { frames := R.frames, locals := R.locals, cells := 1, slots := 6 }) (Nat.le_refl _) (Nat.le_refl _) hRcells hRslots
  obtain ⟨s', hA⟩ : ∃ z, z = (T.setVm s.vm).setFrames (.invoking m args :: below) := ⟨_, rfl⟩
  rw [← hA] at Y
  have hvm : s'.vm = s.vm := by rw [hA]; rfl
  have hhp : s'.heap = H := by rw [hA]; exact hT
  have hW0 : s.WarmedH s'.vm := by rw [hvm]; exact State.WarmedH.refl s
  have hat' : ∀ w ∈ vx_atS own ic cls names, w.before args s' = true := fun w hw => vx_ot_at hW0 hvm.symm (hgood w (List.mem_cons_of_mem _ (List.mem_cons_of_mem _ hw))) (hat w hw)
  have hk' : (Cond.classLink own ik cls).before args s' = true := vx_ot_at hW0 hvm.symm (hgood _ List.mem_cons_self) hk
  have hini' : (Cond.initialized cls).before args s' = true := vx_ot_at hW0 hvm.symm (hgood _ (List.mem_cons_of_mem _ List.mem_cons_self)) hini
  have hU' : vx_Zq Bundle.tN "UNASSIGNED_STACK" Bundle.steD A s' s'.heap := by rw [hhp]; exact vx_Zq.moved hW0.alike (hU.kept hS.2.1)
  have hN' : vx_Zq Bundle.tN "SUPPRESSED_SENTINEL" Bundle.listD A s' s'.heap := by rw [hhp]; exact vx_Zq.moved hW0.alike (hN.kept hS.2.1)
  have h : ∀ w ∈ Bundle.ownAtoms own ic cls names, w.before args s' = true := vx_own hat' (vx_isRefq hU'.1) (vx_isRefq hN'.1) hU'.2.word hN'.2.word
  have hown' : s'.vm.findClass own = some m.cls := by rw [hvm]; exact hown
  have hins : (Cond.instantiable cls 6).before args s' = true := h _ (by simp [Bundle.ownAtoms])
  obtain ⟨vm₁, cX, kX, hfX, hkX, -, -, X₁, st1⟩ := Y.newCold hexec (own := own) (C := cls) (index := ik) (n := 6) hown' hk' hins hini'
    (g := F0 m pc ls rest) rfl (by rw [hb]; exact d0) (Nat.le_refl _) (Nat.le_refl _)
  generalize hT1 : (T.setVm vm₁).pushCell { cls := cX, slots := kX.instanceTypes.map defaultValue, vm := .none } = T1 at X₁ st1
  have hcat : (Value.ref T.heap.size).category = 1 := rfl
  have hcellA : T1.heap[T.heap.size]? = some (freshCell cX kX) := by rw [← hT1]; exact State.heap_pushCell_size _ _
  have d3' : decode c.code (pc + 3) = .ok (.dup, 1) := by rw [hb]; exact d3
  have d4' : decode c.code (pc + 4) = .ok (.ldc_w is, 3) := by rw [hb]; exact d4
  have hstr' : vk_R own is text sa s' := vk_R.warm hW0 hstr
  obtain ⟨U, hsteps, hrun, hend, hW, hsame, ce, hce, hO⟩ := X₁.ctorThrowS hexec htr (own := own) (cls := cls) (names := names) (ic := ic) hown' hcls hnames h (fun x hx => nomatch hx) hfX hkX hcellA (by rw [hhp, hT]; exact Nat.le_refl _) (msg := .ref sa) rfl
    (g := { method := m, pc := pc + 7, locals := ls, stack := .ref sa :: .ref T.heap.size :: .ref T.heap.size :: rest, locked := none }) rfl hsize rfl rfl (rest := rest) rfl
    (by rw [hb]; exact d7) (by rw [hb]; exact d10) hout hRframes (by simp only [List.map_cons, List.sum_cons, hcat]; omega) hlocks
  obtain ⟨f1, f2⟩ := vx_frame hsame
  rw [hhp] at f1 f2
  have hWs : s.WarmedH U.vm := State.WarmedH.trans hW0 hW
  have hcl : s.vm.findClass cls = some ce.cls := by
    have h9 := hO.cls
    rw [hvm] at h9
    exact h9
  have hall : s.sameButNew ({ U with vm := s.vm } : State) locs mc ms := by
    subst hA
    obtain ⟨e1, e2⟩ := hsame
    rw [State.setFrames_setFrames] at e1
    have h2 : (T.setVm s.vm).sameButNew ({ U with vm := s.vm } : State) [] (0 + 1) (0 + 6) := ⟨e1, e2⟩
    have h3 := X.same.trans h2
    rw [List.append_nil] at h3
    exact h3.mono hc hs
  refine ⟨U, ?_, .threw T.heap.size, hrun, hend, Or.inr ⟨T.heap.size, rfl, cls, ce, locs, hx U hWs.alike f1 (fun q hq => f2 q hq (fun z hz => nomatch hz)), hce, hO.vm, hcl, hWs, hall, hf⟩⟩
  refine st1 _ ?_
  show Steps p.tables e below (T1.setTop { method := m, pc := pc + 3, locals := ls, stack := .ref T.heap.size :: rest, locked := none }) _
  jvm_step X₁.here [X₁.here.top, hexec, d3', Value.category]
  exact X₁.ldcStringW hexec (own := own) (text := text) (index := is) (a := sa) hown' hstr'.1 hstr'.2
    (g := { method := m, pc := pc + 4, locals := ls, stack := .ref T.heap.size :: .ref T.heap.size :: rest, locked := none }) rfl d4' _ hsteps
end Ends
section Bodies
variable {l : Launch}
theorem vx_ofW {y : MethodName} {ws ws' : List Cond} {rm : Room} {Pc : Array Value → State → Prop} {Qc : Array Value → State → Outcome → State → Prop} {XC : String → State → State → Prop} {mc ms : Nat} {free : Addr → Prop} {cc : ByteArray} {maxL : Nat} {ret : Option FieldType}
    (hy : plainName y.cls = true) (hw : ws = Cond.code y cc maxL ret :: ws')
    (body : ∀ p e s m args below meth c s₁, BodyLoose p l y (headSpec ws rm) cc maxL ret e s m args below meth c s₁ → c.maxLocals = maxL → (∀ x ∈ c.exceptionTable.toList, False) → Pc args s →
      W p l e (headSpec ws rm).room s m args below meth c s.heap [] 0 0 (vx_MQ below Qc XC args s mc ms free) (entryFrame m args maxL)) : vx_Met l y ws rm Pc Qc XC mc ms free := by
  refine MetFree.of_bodyS (code := cc) (maxLocals := maxL) (ret := ret) hy ?_ ?_
  · intro args s m h hn
    obtain ⟨meth, c, h1, h2, h3, h4, h5, h6, -, -⟩ := Cond.code_spec hn (atoms_spec (ws := ws) h _ (by rw [hw]; exact List.mem_cons_self))
    exact ⟨meth, c, h1, h2, h3, h4, h5, h6⟩
  · intro p e s m args below meth c s₁ B hml hP _
    have hh0 : s₁.heap = s.heap := by rw [B.state]; rfl
    have ht : ∀ x ∈ c.exceptionTable.toList, False := by
      obtain ⟨meth9, c9, h1, h2, -, -, -, -, h7, -⟩ := Cond.code_spec B.named (atoms_spec (ws := ws) B.pre _ (by rw [hw]; exact List.mem_cons_self))
      cases Option.some.inj (h1.symm.trans B.method)
      cases Option.some.inj (h2.symm.trans (Stand.of_body B).code)
      intro x hx
      rw [Array.isEmpty_iff.mp h7] at hx
      cases hx
    obtain ⟨t, a1, o, b1, b2, b3⟩ := body p e s m args below meth c s₁ B hml ht hP s₁ hh0 (Stand.of_body B)
    exact ⟨t, o, a1, b1, b2, b3⟩
/-- the table of a body with handlers -/
theorem vx_table {p : Program} {x y : MethodName} {S : Spec} {cc bytes : ByteArray} {maxL maxL' : Nat} {ret ret' : Option FieldType} {e : Env} {s s₁ : State} {m : MethodId} {args : Array Value} {below : List Frame} {meth : Method} {c : Code} {hh : List (Nat × Nat × Nat × Nat)}
    (B : BodyLoose p l y S cc maxL ret e s m args below meth c s₁) (h : (Cond.codeWith y bytes maxL' ret' hh).before args s = true) : c.exceptionTable.toList = tableOf hh := by
  obtain ⟨m9, meth9, c9, hn9, h1, h2, -, -, h6, -⟩ := Cond.codeWith_spec h
  cases Option.some.inj (hn9.symm.trans B.named)
  cases Option.some.inj (h1.symm.trans B.method)
  cases Option.some.inj (h2.symm.trans (Stand.of_body B).code)
  rw [← h6, table_eq]
end Bodies
end VXA
/-! ===== END ===== -/
/-! ===== BEGIN a static call of a method with an exception table ===== -/
section VXS
variable {p : Program} {l : Launch} {e : Env} {R : Room} {s : State} {m : MethodId} {args : Array Value} {below : List Frame} {meth : Method} {c : Code} {T : State} {H : Heap} {locs : List Loc} {cells slots : Nat}
abbrev vx_CSW (R : Room) (s : State) (args : Array Value) (own : String) (index : Nat) (y : MethodName) (bytes : ByteArray) (maxL : Nat) (ret : Option FieldType) (hh : List (Nat × Nat × Nat × Nat)) (ws : List Cond) (rm : Room) (mc ms n : Nat) : Prop :=
  (rm.cells = mc ∧ rm.slots = ms ∧ rm.frames + 1 ≤ R.frames ∧ 8 + (maxL + 11) + rm.locals ≤ R.locals ∧ (∀ w ∈ ws, ∀ (a' : Array Value) (U : State), s.WarmedH U.vm → w.before a' U = true) ∧ Cond.codeWith y bytes maxL ret hh ∈ ws) ∧
  (Cond.codeWith y bytes maxL ret hh).before args s = true ∧ (Cond.initialized y.cls).before args s = true ∧ (y.cls ≠ "java/lang/invoke/MethodHandle" ∧ y.cls ≠ "java/lang/invoke/VarHandle") ∧
  (∀ sig, parseMethodDescriptor y.desc = some sig → n = sig.parameters.length) ∧ (Cond.methodLink own index y).before args s = true ∧ (Cond.static y).before args s = true
theorem vx_cwSW {own : String} {index maxL mc ms : Nat} {y : MethodName} {bytes : ByteArray} {ret : Option FieldType} {hh : List (Nat × Nat × Nat × Nat)} {Ts ws ws' : List Cond} {rm : Room} (n : Nat) (ht : ∀ w ∈ Ts, w.before args s = true) (hT : GoodIn Ts (va_wsS own index y ws)) (hw : ws = Cond.codeWith y bytes maxL ret hh :: ws') (hrc : rm.cells = mc) (hrs : rm.slots = ms)
    (hd : y.cls ≠ "java/lang/invoke/MethodHandle" ∧ y.cls ≠ "java/lang/invoke/VarHandle" ∧ (parseMethodDescriptor y.desc).map (fun d => d.parameters.length) = some n) (hR : rm.frames + 1 ≤ R.frames ∧ 8 + (maxL + 11) + rm.locals ≤ R.locals) :
    vx_CSW R s args own index y bytes maxL ret hh ws rm mc ms n := by
  have ok : ∀ w ∈ va_wsS own index y ws, w.before args s = true := fun w h => ht w (hT w h).1
  have hG : GoodIn Ts ws := fun w h => hT w (by unfold va_wsS; exact List.mem_append_right _ h)
  have hc : Cond.codeWith y bytes maxL ret hh ∈ ws := by rw [hw]; exact List.mem_cons_self
  refine ⟨⟨hrc, hrs, hR.1, hR.2, pay_in ht hG, hc⟩, ht _ (hG _ hc).1, ok _ (by simp [va_wsS]), ⟨hd.1, hd.2.1⟩, fun sig h => ?_, ok _ (by simp [va_wsS]), ok _ (by simp [va_wsS])⟩
  have h2 := hd.2.2
  rw [h] at h2
  exact (Option.some.inj h2).symm
theorem vx_callSW (X : Stand p l e R s m args below meth c T locs cells slots) (hexec : p.tables.exec = Jvm.exec) {own : String} {index : Nat} {y : MethodName} {bytes : ByteArray} {maxL : Nat} {ret : Option FieldType} {hh : List (Nat × Nat × Nat × Nat)}
    (hown : s.vm.findClass own = some m.cls) (hlink : (Cond.methodLink own index y).before args s = true) (hstat : (Cond.static y).before args s = true) (hinit : (Cond.initialized y.cls).before args s = true)
    (hcode : (Cond.codeWith y bytes maxL ret hh).before args s = true) (hy : y.cls ≠ "java/lang/invoke/MethodHandle" ∧ y.cls ≠ "java/lang/invoke/VarHandle")
    {W9 : Nat} {Pre : Pt → Array Value → Prop} {Post : Pt → Array Value → Option Value → Pt → Prop} (hK : Back l R p e below s args y 3 W9 Pre Post)
    {g : JFrame} (hg : g.method = m) (hsize : g.locals.size = c.maxLocals) {argsL rest : List Value} (hlen : ∀ sig, parseMethodDescriptor y.desc = some sig → argsL.length = sig.parameters.length)
    (hstack : g.stack = argsL.reverse ++ rest) (hW : 2 * g.monitorRoom + (rest.map fun v => v.category).sum ≤ W9) (hdg : decode c.code g.pc = .ok (.invokestatic index, 3))
    (hpre : ∀ vm₁, s.WarmedH vm₁ → Pre ⟨T.setVm vm₁, locs, cells, slots⟩ argsL.toArray) :
    ∃ (v : Option Value) (vm₁ : Vm) (B : Pt), s.WarmedH vm₁ ∧ Stand p l e R s m args below meth c B.U B.locs B.cells B.slots ∧ Post ⟨T.setVm vm₁, locs, cells, slots⟩ argsL.toArray v B ∧
      ∀ target, Steps p.tables e below (B.U.setTop { g with pc := g.pc + 3, stack := v.toList ++ rest }) target → Steps p.tables e below (T.setTop g) target := by
  obtain ⟨mk, methM, cM, hnamed, hmethM, -, -, -, -, -, -, hsigM⟩ := Cond.codeWith_spec hcode
  have hstatic : methM.isStatic = true := Cond.static_spec hnamed hmethM hstat
  obtain ⟨kP, hkP, -⟩ := className_of_methodNamed hnamed
  have hinitP : kP.init = .initialized := Cond.initialized_spec (findClass_of_methodNamed hnamed) hkP hinit
  obtain ⟨vm₁, X₁, hstep₁⟩ := X.invokestatic hexec hown hlink hnamed hmethM hstatic hkP hinitP hy (g := g) hg (argsL := argsL) (rest := rest) (hlen _ hsigM) hstack hdg
  obtain ⟨v, B, X', hpost, hsteps⟩ := hK m meth c ⟨T.setVm vm₁, locs, cells, slots⟩ { g with stack := rest } (.invokestatic index) mk argsL.toArray X₁ hg hsize hdg hW (X₁.named hnamed) (hpre vm₁ X₁.warmed)
  exact ⟨v, vm₁, B, X₁.warmed, X', hpost, fun target h => hstep₁ _ fun acts => by rw [doInvoke_state]; exact hsteps.trans h⟩
theorem vx_runSW {y : MethodName} {bytes cc : ByteArray} {maxL nL mc ms n index : Nat} {ret : Option FieldType} {hh : List (Nat × Nat × Nat × Nat)} {ws : List Cond} {rm : Room} {Pc : Array Value → State → Prop} {Qc : Array Value → State → Outcome → State → Prop} {free : Addr → Prop} {Ts : List Cond} {own : String} {As rest : List Value} {g : JFrame}
    (S : CallFix p m c cc nL s args Ts own) (hM : Met l y ws rm Pc Qc mc ms free) (cw : vx_CSW R s args own index y bytes maxL ret hh ws rm mc ms n) (hp : PreS s H Pc As)
    (hg : g.method = m) (hn : As.length = n) (hsize : g.locals.size = nL) (hstack : g.stack = As.reverse ++ rest) (hW : 2 * g.monitorRoom + (rest.map fun v => v.category).sum ≤ 8) (hdg : decode cc g.pc = .ok (.invokestatic index, 3)) (hf : cells + mc ≤ R.cells ∧ slots + ms ≤ R.slots) :
    va_Run p l e R s m args below meth c H locs cells slots mc ms g rest (Qc As.toArray) (free) := by
  obtain ⟨⟨hrc, hrs, hfr, hlo, hws, hcw⟩, hcode, hini, hy, hlen, hl, hstt⟩ := cw
  have hK : Back l R p e below s args y 3 8 (PreOf R mc ms Pc) (PostOf Qc mc ms free) := va_backW (hh := hh) (bytes := bytes) (maxL := maxL) (ret := ret) hM hp.1 hrc hrs hfr hlo hws hcw (fun a' U hW => word_at hW (Or.inl (by first | rfl | simp [Cond.onTables, Cond.keeps, Cond.steady])) hini)
  obtain ⟨hx, hb, hml, ho, -⟩ := S
  intro T hT X
  obtain ⟨v, vm₁, ⟨U', l2, c2, s2⟩, hW₁, X', ⟨g', mk, t, L, e1, e2, hq, h1, hL, h2, h3⟩, st⟩ := vx_callSW X hx (hh := hh) (bytes := bytes) (maxL := maxL) (ret := ret) ho hl hstt hini hcode hy hK hg (hsize.trans hml.symm) (argsL := As) (rest := rest) (fun sig h => hn.trans (hlen sig h)) hstack hW (by rw [hb]; exact hdg)
    (fun vm₁ hW₁ => ⟨hf.1, hf.2, hp.2 (T.setVm vm₁) hT hW₁⟩)
  dsimp only [Pt.U, Pt.locs, Pt.cells, Pt.slots] at X' e1 e2 h1 h2 h3 st
  subst h1; subst h2; subst h3
  exact ⟨v, (T.setVm vm₁).calling g' mk As.toArray, t, U', L, hT, X', hL, e1, e2, hq, st⟩
/-- a thing of a world lies in the heap -/
theorem vx_lt {D : va_G} {cl : List vw_C} {ws : va_W} {H1 : Heap} (h : va_P D cl ws H1) {k : Nat} {q : Nat × va_E} (hk : ws[k]? = some q) : q.1 < H1.size := (h k q hk).lt
end VXS
/-! ===== END ===== -/
/-! ===== BEGIN methods with a table of their own: called by a name, returning or throwing ===== -/
section VXH
/-! vx_backW, vx_callVX, vx_callSX, vx_callVW, vx_runVW, vx_runVX, vx_runSX, vx_ofWH follow the same proofs as their sisters above (Free/Laws.lean, Shelf42/LK1.lean); vx_outP calls Shelf42/NT130.lean (outThrough). -/
section
variable {l : Launch} {R : Room} {p : Program} {e : Env} {below : List Frame} {s : State} {sargs : Array Value} {y : MethodName} {len W9 : Nat}
theorem vx_backW {ws : List Cond} {rm : Room} {Pc : Array Value → State → Prop} {Qc : Array Value → State → Outcome → State → Prop} {XC : String → State → State → Prop} {mc ms : Nat} {free : Addr → Prop} {bytes : ByteArray} {maxL : Nat} {ret : Option FieldType} {hh : List (Nat × Nat × Nat × Nat)}
    (hM : vx_Met l y ws rm Pc Qc XC mc ms free) (hblind : FrameBlind Pc) (hrc : rm.cells = mc) (hrs : rm.slots = ms)
    (hframes : rm.frames + 1 ≤ R.frames) (hlocals : W9 + (maxL + 11) + rm.locals ≤ R.locals)
    (hws : ∀ w ∈ ws, ∀ a' U, s.WarmedH U.vm → w.before a' U = true) (hcode : Cond.codeWith y bytes maxL ret hh ∈ ws) (hinit : ∀ a' U, s.WarmedH U.vm → (Cond.initialized y.cls).before a' U = true) :
    vx_Back l R p e below s sargs y len W9 (PreOf R mc ms Pc) (PostOf Qc mc ms free) (vx_Post XC mc ms free) := by
  intro m meth c A g ig mk a X hg hsize hdg hW hn hp
  have h1 : (headSpec ws rm).pre.before a A.U = true := atoms_intro fun w hw => hws w hw _ _ X.warmed
  have h2 : (Cond.codeWith y bytes maxL ret hh).before a A.U = true := hws _ hcode _ _ X.warmed
  have h3 : (Cond.initialized y.cls).before a A.U = true := hinit _ _ X.warmed
  have h4 : A.cells + (headSpec ws rm).room.cells ≤ R.cells := by rw [show (headSpec ws rm).room.cells = mc from hrc]; exact hp.1
  have h5 : A.slots + (headSpec ws rm).room.slots ≤ R.slots := by rw [show (headSpec ws rm).room.slots = ms from hrs]; exact hp.2.1
  have hPc : Pc a (A.U.calling g mk a) := hblind _ _ _ _ hp.2.2
  obtain ⟨U, Ls, c0, s0⟩ := A
  dsimp only [Pt.U, Pt.locs, Pt.cells, Pt.slots] at h1 h2 h3 h4 h5 X hn hPc ⊢
  obtain ⟨m9, methY, cY, hn9, hmY, hcY, -, hlY, -⟩ := Cond.codeWith_spec h2
  cases Option.some.inj (hn9.symm.trans hn)
  obtain ⟨kY, hkY, -⟩ := className_of_methodNamed hn
  have hinitY : kY.init = .initialized := Cond.initialized_spec (findClass_of_methodNamed hn) hkY h3
  have h : At U g.method c below := by rw [hg]; exact X.here
  have hlocals9 : W9 + (maxL + 11) + (headSpec ws rm).room.locals ≤ R.locals := hlocals
  have happ : (headSpec ws rm).appliesLoose y e.platform (U.calling g mk a) = true :=
    Spec.appliesLoose_calling (g := g) h hdg hn hkY hinitY
      (X.room_calling (g := g) (R' := (headSpec ws rm).room) hsize hmY hcY hframes (by rw [hlY]; omega) h4 h5) h1
  obtain ⟨mid, hmid⟩ := h.above
  have hfr : (U.setTop g).frames = (.java g :: mid) ++ below := by rw [State.frames_setTop' g h.top, hmid]; rfl
  obtain ⟨o, s₂, hsteps, -, hend, hq⟩ := Steps.callFree hM p X.admits X.cas X.clock (acts := []) hfr happ hPc trivial
  have hq' : vx_Q Qc XC mc ms free a (U.calling g mk a) o s₂ := hq
  rw [State.frames_setTop' g h.top] at hend
  obtain ⟨g₀, hg0⟩ := Option.isSome_iff_exists.mp h.top
  obtain ⟨r, hr⟩ := State.topJava?_eq_some.mp hg0
  have hr' : (({ U with heap := s₂.heap, slotsUsed := s₂.slotsUsed } : State).setVm s₂.vm).frames = .java g₀ :: r := hr
  rcases hq' with ⟨hqc, L, hfe, hL⟩ | ⟨q, rfl, E, ce, L, hx, hce, hcv, hcl, hW₂, hsm, hL⟩
  · obtain ⟨⟨v, rfl⟩, hW₂, e2, q2, q3, q4, q5, q6⟩ := id hfe
    have e3 : s₂ = ({ (U.calling g mk a).setFrames s₂.frames with heap := s₂.heap, slotsUsed := s₂.slotsUsed } : State).setVm s₂.vm := by
      have : s₂ = ({ s₂ with vm := (U.calling g mk a).vm } : State).setVm s₂.vm := rfl
      rw [e2] at this
      exact this
    obtain ⟨c₂, i₂, len₂, hc₂, hd₂, hf₂⟩ := hend
    have hW' : U.WarmedH s₂.vm := hW₂
    have hcc : c₂ = c := by
      have h1 : s₂.code? g.method = U.code? g.method := by
        rw [State.code?_eq, State.code?_eq, hW'.alike.method?]
      exact Option.some.inj (hc₂.symm.trans (h1.trans h.code))
    subst hcc
    have hlen : len₂ = len := by rw [hdg] at hd₂; cases hd₂; rfl
    subst hlen
    have hs₂ : s₂ = (({ U with heap := s₂.heap, slotsUsed := s₂.slotsUsed } : State).setVm s₂.vm).setTop { g with pc := g.pc + len₂, stack := v.toList ++ g.stack } := by
      refine e3.trans ?_
      rw [hf₂, State.calling_eq h.top, State.setFrames_setFrames, State.setTop_of_frames _ hr', hr]
      rfl
    have hsame : U.sameButNew ({ U with heap := s₂.heap, slotsUsed := s₂.slotsUsed } : State) L mc ms := by
      refine ⟨?_, q2, q3, q4, q5, q6⟩
      obtain ⟨t, ht, -⟩ := State.frames_cons hr
      show ({ U with heap := s₂.heap, slotsUsed := s₂.slotsUsed } : State) = { U.setFrames U.frames with heap := s₂.heap, slotsUsed := s₂.slotsUsed }
      rw [State.setFrames_self ht]
    subst hg
    refine Or.inl ⟨v, ⟨(({ U with heap := s₂.heap, slotsUsed := s₂.slotsUsed } : State).setVm s₂.vm), Ls ++ L, c0 + mc, s0 + ms⟩,
      ⟨X.admits, X.cas, X.clock, X.frames, X.room, X.hears, X.method, X.code, (X.here.setHeapUsed s₂.heap s₂.slotsUsed).setVm hW'.alike, X.tail, State.WarmedH.trans X.warmed hW', X.limits, X.bytes, X.same.trans (hsame.setVm s.vm)⟩,
      ⟨g, mk, s₂, L, rfl, rfl, hqc, rfl, hL, rfl, rfl⟩, ?_⟩
    show Steps p.tables e below _ ((({ U with heap := s₂.heap, slotsUsed := s₂.slotsUsed } : State).setVm s₂.vm).setTop { g with pc := g.pc + len₂, stack := v.toList ++ g.stack })
    rw [← hs₂]
    exact hsteps
  · obtain ⟨e2, q2, q3, q4, q5, q6⟩ := id hsm
    have e3 : s₂ = ({ (U.calling g mk a).setFrames s₂.frames with heap := s₂.heap, slotsUsed := s₂.slotsUsed } : State).setVm s₂.vm := by
      have : s₂ = ({ s₂ with vm := (U.calling g mk a).vm } : State).setVm s₂.vm := rfl
      rw [e2] at this
      exact this
    have hf₂ : s₂.frames = .throwing q :: .java g :: U.frames.tail := hend
    have hW' : U.WarmedH s₂.vm := hW₂
    have hs₂ : s₂ = ((({ U with heap := s₂.heap, slotsUsed := s₂.slotsUsed } : State).setVm s₂.vm).setTop g).pushFrame (.throwing q) := by
      refine e3.trans ?_
      rw [hf₂, State.calling_eq h.top, State.setFrames_setFrames, State.pushFrame, State.frames_setTop _ hr', State.setTop_of_frames _ hr', State.setFrames_setFrames, hr]
      rfl
    have hsame : U.sameButNew ({ U with heap := s₂.heap, slotsUsed := s₂.slotsUsed } : State) L mc ms := by
      refine ⟨?_, q2, q3, q4, q5, q6⟩
      obtain ⟨t, ht, -⟩ := State.frames_cons hr
      show ({ U with heap := s₂.heap, slotsUsed := s₂.slotsUsed } : State) = { U.setFrames U.frames with heap := s₂.heap, slotsUsed := s₂.slotsUsed }
      rw [State.setFrames_self ht]
    subst hg
    refine Or.inr ⟨q, ⟨(({ U with heap := s₂.heap, slotsUsed := s₂.slotsUsed } : State).setVm s₂.vm), Ls ++ L, c0 + mc, s0 + ms⟩,
      ⟨X.admits, X.cas, X.clock, X.frames, X.room, X.hears, X.method, X.code, (X.here.setHeapUsed s₂.heap s₂.slotsUsed).setVm hW'.alike, X.tail, State.WarmedH.trans X.warmed hW', X.limits, X.bytes, X.same.trans (hsame.setVm s.vm)⟩,
      ⟨g, mk, s₂, L, E, ce, rfl, rfl, hx, hce, hcv, hcl, rfl, hL, rfl, rfl⟩, ?_⟩
    show Steps p.tables e below _ (((({ U with heap := s₂.heap, slotsUsed := s₂.slotsUsed } : State).setVm s₂.vm).setTop g).pushFrame (.throwing q))
    rw [← hs₂]
    exact hsteps
end
variable {p : Program} {l : Launch} {e : Env} {R : Room} {s : State} {m : MethodId} {args : Array Value} {below : List Frame} {meth : Method} {c : Code} {T : State} {H : Heap} {locs : List Loc} {cells slots : Nat}
theorem vx_callVX (X : Stand p l e R s m args below meth c T locs cells slots) (hexec : p.tables.exec = Jvm.exec) {own C : String} {index : Nat} {y : MethodName} {bytes : ByteArray} {maxL : Nat} {ret : Option FieldType} {hh : List (Nat × Nat × Nat × Nat)}
    (hown : s.vm.findClass own = some m.cls) (hlink : (Cond.methodLink own index y).before args s = true) (hinst : (Cond.instanceMethod y).before args s = true) (hsel : (Cond.selects C y y).before args s = true)
    (hcode : (Cond.codeWith y bytes maxL ret hh).before args s = true) (hy : y.cls ≠ "java/lang/invoke/MethodHandle" ∧ y.cls ≠ "java/lang/invoke/VarHandle")
    {W9 : Nat} {Pre : Pt → Array Value → Prop} {Post : Pt → Array Value → Option Value → Pt → Prop} {PostX : Pt → Array Value → Addr → Pt → Prop} (hK : vx_Back l R p e below s args y 3 W9 Pre Post PostX)
    {b : Addr} {cellB : Cell} (hcell : T.heap[b]? = some cellB) (hobj : cellB.vm.isStatics = false) (hcls : s.vm.findClass C = some cellB.cls)
    {g : JFrame} (hg : g.method = m) (hsize : g.locals.size = c.maxLocals) {argsL rest : List Value} (hlen : ∀ sig, parseMethodDescriptor y.desc = some sig → argsL.length = sig.parameters.length)
    (hstack : g.stack = argsL.reverse ++ .ref b :: rest) (hW : 2 * g.monitorRoom + (rest.map fun v => v.category).sum ≤ W9) (hdg : decode c.code g.pc = .ok (.invokevirtual index, 3))
    (hpre : ∀ vm₁, s.WarmedH vm₁ → Pre ⟨T.setVm vm₁, locs, cells, slots⟩ (Value.ref b :: argsL).toArray) :
    (∃ (v : Option Value) (vm₁ : Vm) (B : Pt), s.WarmedH vm₁ ∧ Stand p l e R s m args below meth c B.U B.locs B.cells B.slots ∧ Post ⟨T.setVm vm₁, locs, cells, slots⟩ (Value.ref b :: argsL).toArray v B ∧
      ∀ target, Steps p.tables e below (B.U.setTop { g with pc := g.pc + 3, stack := v.toList ++ rest }) target → Steps p.tables e below (T.setTop g) target) ∨
    (∃ (q : Addr) (vm₁ : Vm) (B : Pt), s.WarmedH vm₁ ∧ Stand p l e R s m args below meth c B.U B.locs B.cells B.slots ∧ PostX ⟨T.setVm vm₁, locs, cells, slots⟩ (Value.ref b :: argsL).toArray q B ∧
      Steps p.tables e below (T.setTop g) ((B.U.setTop { g with stack := rest }).pushFrame (.throwing q))) := by
  obtain ⟨mk, methM, hnamed, hmethM, hstM, habM⟩ := Cond.instanceMethod_spec hinst
  obtain ⟨m8, methM', cM, hn8, hmethM', -, -, -, -, -, -, hsigM⟩ := Cond.codeWith_spec hcode
  cases Option.some.inj (hn8.symm.trans hnamed)
  cases hmethM.symm.trans hmethM'
  obtain ⟨c2, r2, m2, q1, q2, q3, q4, kP, hkP, hkPi⟩ := Cond.selects_spec hsel
  cases hcls.symm.trans q1
  cases (State.methodFound?_of_named hnamed hy).symm.trans q2
  cases hnamed.symm.trans q3
  have hselP : selectMethod e.platform s.vm cellB.cls mk = .method mk := by rw [Launch.admits_selectMethod X.admits]; exact q4
  obtain ⟨vm₁, X₁, hstep₁⟩ := X.invokevirtual hexec hown hlink hnamed hmethM hstM hkP hkPi hy (a := b) (cell := cellB) hcell
    (fun z h => by rw [h] at hobj; cases hobj) hselP hmethM habM hkP hkPi (g := g) hg (argsL := argsL) (rest := rest) (hlen _ hsigM) hstack hdg
  rcases hK m meth c ⟨T.setVm vm₁, locs, cells, slots⟩ { g with stack := rest } (.invokevirtual index) mk (Value.ref b :: argsL).toArray X₁ hg hsize hdg hW (X₁.named hnamed) (hpre vm₁ X₁.warmed) with ⟨v, B, X', hpost, hsteps⟩ | ⟨q, B, X', hpost, hsteps⟩
  · exact Or.inl ⟨v, vm₁, B, X₁.warmed, X', hpost, fun target h => hstep₁ _ fun acts => by rw [doInvoke_state]; exact hsteps.trans h⟩
  · exact Or.inr ⟨q, vm₁, B, X₁.warmed, X', hpost, hstep₁ _ fun acts => by rw [doInvoke_state]; exact hsteps⟩
theorem vx_callSX (X : Stand p l e R s m args below meth c T locs cells slots) (hexec : p.tables.exec = Jvm.exec) {own : String} {index : Nat} {y : MethodName} {bytes : ByteArray} {maxL : Nat} {ret : Option FieldType} {hh : List (Nat × Nat × Nat × Nat)}
    (hown : s.vm.findClass own = some m.cls) (hlink : (Cond.methodLink own index y).before args s = true) (hstat : (Cond.static y).before args s = true) (hinit : (Cond.initialized y.cls).before args s = true)
    (hcode : (Cond.codeWith y bytes maxL ret hh).before args s = true) (hy : y.cls ≠ "java/lang/invoke/MethodHandle" ∧ y.cls ≠ "java/lang/invoke/VarHandle")
    {W9 : Nat} {Pre : Pt → Array Value → Prop} {Post : Pt → Array Value → Option Value → Pt → Prop} {PostX : Pt → Array Value → Addr → Pt → Prop} (hK : vx_Back l R p e below s args y 3 W9 Pre Post PostX)
    {g : JFrame} (hg : g.method = m) (hsize : g.locals.size = c.maxLocals) {argsL rest : List Value} (hlen : ∀ sig, parseMethodDescriptor y.desc = some sig → argsL.length = sig.parameters.length)
    (hstack : g.stack = argsL.reverse ++ rest) (hW : 2 * g.monitorRoom + (rest.map fun v => v.category).sum ≤ W9) (hdg : decode c.code g.pc = .ok (.invokestatic index, 3))
    (hpre : ∀ vm₁, s.WarmedH vm₁ → Pre ⟨T.setVm vm₁, locs, cells, slots⟩ argsL.toArray) :
    (∃ (v : Option Value) (vm₁ : Vm) (B : Pt), s.WarmedH vm₁ ∧ Stand p l e R s m args below meth c B.U B.locs B.cells B.slots ∧ Post ⟨T.setVm vm₁, locs, cells, slots⟩ argsL.toArray v B ∧
      ∀ target, Steps p.tables e below (B.U.setTop { g with pc := g.pc + 3, stack := v.toList ++ rest }) target → Steps p.tables e below (T.setTop g) target) ∨
    (∃ (q : Addr) (vm₁ : Vm) (B : Pt), s.WarmedH vm₁ ∧ Stand p l e R s m args below meth c B.U B.locs B.cells B.slots ∧ PostX ⟨T.setVm vm₁, locs, cells, slots⟩ argsL.toArray q B ∧
      Steps p.tables e below (T.setTop g) ((B.U.setTop { g with stack := rest }).pushFrame (.throwing q))) := by
  obtain ⟨mk, methM, cM, hnamed, hmethM, -, -, -, -, -, -, hsigM⟩ := Cond.codeWith_spec hcode
  have hstatic : methM.isStatic = true := Cond.static_spec hnamed hmethM hstat
  obtain ⟨kP, hkP, -⟩ := className_of_methodNamed hnamed
  have hinitP : kP.init = .initialized := Cond.initialized_spec (findClass_of_methodNamed hnamed) hkP hinit
  obtain ⟨vm₁, X₁, hstep₁⟩ := X.invokestatic hexec hown hlink hnamed hmethM hstatic hkP hinitP hy (g := g) hg (argsL := argsL) (rest := rest) (hlen _ hsigM) hstack hdg
  rcases hK m meth c ⟨T.setVm vm₁, locs, cells, slots⟩ { g with stack := rest } (.invokestatic index) mk argsL.toArray X₁ hg hsize hdg hW (X₁.named hnamed) (hpre vm₁ X₁.warmed) with ⟨v, B, X', hpost, hsteps⟩ | ⟨q, B, X', hpost, hsteps⟩
  · exact Or.inl ⟨v, vm₁, B, X₁.warmed, X', hpost, fun target h => hstep₁ _ fun acts => by rw [doInvoke_state]; exact hsteps.trans h⟩
  · exact Or.inr ⟨q, vm₁, B, X₁.warmed, X', hpost, hstep₁ _ fun acts => by rw [doInvoke_state]; exact hsteps⟩
theorem vx_callVW (X : Stand p l e R s m args below meth c T locs cells slots) (hexec : p.tables.exec = Jvm.exec) {own C : String} {index : Nat} {y : MethodName} {bytes : ByteArray} {maxL : Nat} {ret : Option FieldType} {hh : List (Nat × Nat × Nat × Nat)}
    (hown : s.vm.findClass own = some m.cls) (hlink : (Cond.methodLink own index y).before args s = true) (hinst : (Cond.instanceMethod y).before args s = true) (hsel : (Cond.selects C y y).before args s = true)
    (hcode : (Cond.codeWith y bytes maxL ret hh).before args s = true) (hy : y.cls ≠ "java/lang/invoke/MethodHandle" ∧ y.cls ≠ "java/lang/invoke/VarHandle")
    {W9 : Nat} {Pre : Pt → Array Value → Prop} {Post : Pt → Array Value → Option Value → Pt → Prop} (hK : Back l R p e below s args y 3 W9 Pre Post)
    {b : Addr} {cellB : Cell} (hcell : T.heap[b]? = some cellB) (hobj : cellB.vm.isStatics = false) (hcls : s.vm.findClass C = some cellB.cls)
    {g : JFrame} (hg : g.method = m) (hsize : g.locals.size = c.maxLocals) {argsL rest : List Value} (hlen : ∀ sig, parseMethodDescriptor y.desc = some sig → argsL.length = sig.parameters.length)
    (hstack : g.stack = argsL.reverse ++ .ref b :: rest) (hW : 2 * g.monitorRoom + (rest.map fun v => v.category).sum ≤ W9) (hdg : decode c.code g.pc = .ok (.invokevirtual index, 3))
    (hpre : ∀ vm₁, s.WarmedH vm₁ → Pre ⟨T.setVm vm₁, locs, cells, slots⟩ (Value.ref b :: argsL).toArray) :
    ∃ (v : Option Value) (vm₁ : Vm) (B : Pt), s.WarmedH vm₁ ∧ Stand p l e R s m args below meth c B.U B.locs B.cells B.slots ∧ Post ⟨T.setVm vm₁, locs, cells, slots⟩ (Value.ref b :: argsL).toArray v B ∧
      ∀ target, Steps p.tables e below (B.U.setTop { g with pc := g.pc + 3, stack := v.toList ++ rest }) target → Steps p.tables e below (T.setTop g) target := by
  obtain ⟨mk, methM, hnamed, hmethM, hstM, habM⟩ := Cond.instanceMethod_spec hinst
  obtain ⟨m8, methM', cM, hn8, hmethM', -, -, -, -, -, -, hsigM⟩ := Cond.codeWith_spec hcode
  cases Option.some.inj (hn8.symm.trans hnamed)
  cases hmethM.symm.trans hmethM'
  obtain ⟨c2, r2, m2, q1, q2, q3, q4, kP, hkP, hkPi⟩ := Cond.selects_spec hsel
  cases hcls.symm.trans q1
  cases (State.methodFound?_of_named hnamed hy).symm.trans q2
  cases hnamed.symm.trans q3
  have hselP : selectMethod e.platform s.vm cellB.cls mk = .method mk := by rw [Launch.admits_selectMethod X.admits]; exact q4
  obtain ⟨vm₁, X₁, hstep₁⟩ := X.invokevirtual hexec hown hlink hnamed hmethM hstM hkP hkPi hy (a := b) (cell := cellB) hcell
    (fun z h => by rw [h] at hobj; cases hobj) hselP hmethM habM hkP hkPi (g := g) hg (argsL := argsL) (rest := rest) (hlen _ hsigM) hstack hdg
  obtain ⟨v, B, X', hpost, hsteps⟩ := hK m meth c ⟨T.setVm vm₁, locs, cells, slots⟩ { g with stack := rest } (.invokevirtual index) mk (Value.ref b :: argsL).toArray X₁ hg hsize hdg hW (X₁.named hnamed) (hpre vm₁ X₁.warmed)
  exact ⟨v, vm₁, B, X₁.warmed, X', hpost, fun target h => hstep₁ _ fun acts => by rw [doInvoke_state]; exact hsteps.trans h⟩
abbrev vx_CVW (R : Room) (s : State) (args : Array Value) (own C : String) (index : Nat) (y : MethodName) (bytes : ByteArray) (maxL : Nat) (ret : Option FieldType) (hh : List (Nat × Nat × Nat × Nat)) (ws : List Cond) (rm : Room) (mc ms n : Nat) : Prop :=
  (rm.cells = mc ∧ rm.slots = ms ∧ rm.frames + 1 ≤ R.frames ∧ 8 + (maxL + 11) + rm.locals ≤ R.locals ∧ (∀ w ∈ ws, ∀ (a' : Array Value) (U : State), s.WarmedH U.vm → w.before a' U = true) ∧ Cond.codeWith y bytes maxL ret hh ∈ ws) ∧
  (Cond.codeWith y bytes maxL ret hh).before args s = true ∧ (Cond.initialized y.cls).before args s = true ∧ (y.cls ≠ "java/lang/invoke/MethodHandle" ∧ y.cls ≠ "java/lang/invoke/VarHandle") ∧
  (∀ sig, parseMethodDescriptor y.desc = some sig → n = sig.parameters.length) ∧ (Cond.methodLink own index y).before args s = true ∧ (Cond.instanceMethod y).before args s = true ∧ (Cond.selects C y y).before args s = true
theorem vx_cwVW {own C : String} {index maxL mc ms : Nat} {y : MethodName} {bytes : ByteArray} {ret : Option FieldType} {hh : List (Nat × Nat × Nat × Nat)} {Ts ws ws' : List Cond} {rm : Room} (n : Nat) (ht : ∀ w ∈ Ts, w.before args s = true) (hT : GoodIn Ts (wsV own index C y ws)) (hw : ws = Cond.codeWith y bytes maxL ret hh :: ws') (hrc : rm.cells = mc) (hrs : rm.slots = ms)
    (hd : y.cls = C ∧ y.cls ≠ "java/lang/invoke/MethodHandle" ∧ y.cls ≠ "java/lang/invoke/VarHandle" ∧ (parseMethodDescriptor y.desc).map (fun d => d.parameters.length) = some n) (hR : rm.frames + 1 ≤ R.frames ∧ 8 + (maxL + 11) + rm.locals ≤ R.locals) :
    vx_CVW R s args own C index y bytes maxL ret hh ws rm mc ms n := by
  obtain ⟨hC, hd⟩ := hd
  subst hC
  have ok : ∀ w ∈ wsV own index y.cls y ws, w.before args s = true := fun w h => ht w (hT w h).1
  have hG : GoodIn Ts ws := fun w h => hT w (by unfold wsV; exact List.mem_append_right _ h)
  have hc : Cond.codeWith y bytes maxL ret hh ∈ ws := by rw [hw]; exact List.mem_cons_self
  refine ⟨⟨hrc, hrs, hR.1, hR.2, pay_in ht hG, hc⟩, ht _ (hG _ hc).1, ok _ (by simp [wsV]), ⟨hd.1, hd.2.1⟩, fun sig h => ?_, ok _ (by simp [wsV]), ok _ (by simp [wsV]), ok _ (by simp [wsV])⟩
  have h2 := hd.2.2
  rw [h] at h2
  exact (Option.some.inj h2).symm
theorem vx_runVW {y : MethodName} {bytes cc : ByteArray} {maxL nL mc ms n index : Nat} {ret : Option FieldType} {hh : List (Nat × Nat × Nat × Nat)} {ws : List Cond} {rm : Room} {Pc : Array Value → State → Prop} {Qc : Array Value → State → Outcome → State → Prop} {free : Addr → Prop} {Ts : List Cond} {own C : String} {b : Addr} {As rest : List Value} {g : JFrame}
    (S : CallFix p m c cc nL s args Ts own) (hM : Met l y ws rm Pc Qc mc ms free) (cw : vx_CVW R s args own C index y bytes maxL ret hh ws rm mc ms n) (hp : PreV s H C b Pc As)
    (hg : g.method = m) (hn : As.length = n) (hsize : g.locals.size = nL) (hstack : g.stack = As.reverse ++ .ref b :: rest) (hW : 2 * g.monitorRoom + (rest.map fun v => v.category).sum ≤ 8) (hdg : decode cc g.pc = .ok (.invokevirtual index, 3)) (hf : cells + mc ≤ R.cells ∧ slots + ms ≤ R.slots) :
    va_Run p l e R s m args below meth c H locs cells slots mc ms g rest (Qc (Value.ref b :: As).toArray) free := by
  obtain ⟨⟨hrc, hrs, hfr, hlo, hws, hcw⟩, hcode, hini, hy, hlen, hl, hin, hse⟩ := cw
  have hK : Back l R p e below s args y 3 8 (PreOf R mc ms Pc) (PostOf Qc mc ms free) := va_backW (hh := hh) (bytes := bytes) (maxL := maxL) (ret := ret) hM hp.1 hrc hrs hfr hlo hws hcw (fun a' U hW => word_at hW (Or.inl (by first | rfl | simp [Cond.onTables, Cond.keeps, Cond.steady])) hini)
  obtain ⟨hx, hb, hml, ho, -⟩ := S
  obtain ⟨-, ⟨cellB, hcB, hoB, hclB⟩, hPc⟩ := hp
  intro T hT X
  obtain ⟨v, vm₁, ⟨U', l2, c2, s2⟩, hW₁, X', ⟨g', mk, t, L, e1, e2, hq, h1, hL, h2, h3⟩, st⟩ := vx_callVW X hx (C := C) (hh := hh) (bytes := bytes) (maxL := maxL) (ret := ret) ho hl hin hse hcode hy hK (by rw [hT]; exact hcB) hoB hclB hg (hsize.trans hml.symm) (argsL := As) (rest := rest) (fun sig h => hn.trans (hlen sig h)) hstack hW (by rw [hb]; exact hdg)
    (fun vm₁ hW₁ => ⟨hf.1, hf.2, hPc (T.setVm vm₁) hT hW₁⟩)
  dsimp only [Pt.U, Pt.locs, Pt.cells, Pt.slots] at X' e1 e2 h1 h2 h3 st
  subst h1; subst h2; subst h3
  exact ⟨v, (T.setVm vm₁).calling g' mk (Value.ref b :: As).toArray, t, U', L, hT, X', hL, e1, e2, hq, st⟩
section
variable {y : MethodName} {bytes cc : ByteArray} {maxL nL mc ms n index : Nat} {ret : Option FieldType} {ws : List Cond} {rm : Room} {Pc : Array Value → State → Prop} {Qc : Array Value → State → Outcome → State → Prop} {XC : String → State → State → Prop} {free : Addr → Prop} {Ts : List Cond} {own C : String} {b : Addr} {As rest : List Value} {g : JFrame}
theorem vx_runVX {hh : List (Nat × Nat × Nat × Nat)} (S : CallFix p m c cc nL s args Ts own) (hM : vx_Met l y ws rm Pc Qc XC mc ms free) (cw : vx_CVW R s args own C index y bytes maxL ret hh ws rm mc ms n) (hp : PreV s H C b Pc As)
    (hg : g.method = m) (hn : As.length = n) (hsize : g.locals.size = nL) (hstack : g.stack = As.reverse ++ .ref b :: rest) (hW : 2 * g.monitorRoom + (rest.map fun v => v.category).sum ≤ 8) (hdg : decode cc g.pc = .ok (.invokevirtual index, 3)) (hf : cells + mc ≤ R.cells ∧ slots + ms ≤ R.slots) :
    vx_Run p l e R s m args below meth c H locs cells slots mc ms g rest (Qc (Value.ref b :: As).toArray) XC free := by
  obtain ⟨⟨hrc, hrs, hfr, hlo, hws, hcw⟩, hcode, hini, hy, hlen, hl, hin, hse⟩ := cw
  have hK : vx_Back l R p e below s args y 3 8 (PreOf R mc ms Pc) (PostOf Qc mc ms free) (vx_Post XC mc ms free) := vx_backW (hh := hh) (bytes := bytes) (maxL := maxL) (ret := ret) hM hp.1 hrc hrs hfr hlo hws hcw (fun a' U hW => word_at hW (Or.inl (by first | rfl | simp [Cond.onTables, Cond.keeps, Cond.steady])) hini)
  obtain ⟨hx, hb, hml, ho, -⟩ := S
  obtain ⟨-, ⟨cellB, hcB, hoB, hclB⟩, hPc⟩ := hp
  intro T hT X
  rcases vx_callVX X hx (C := C) (hh := hh) (bytes := bytes) (maxL := maxL) (ret := ret) ho hl hin hse hcode hy hK (by rw [hT]; exact hcB) hoB hclB hg (hsize.trans hml.symm) (argsL := As) (rest := rest) (fun sig h => hn.trans (hlen sig h)) hstack hW (by rw [hb]; exact hdg)
    (fun vm₁ hW₁ => ⟨hf.1, hf.2, hPc (T.setVm vm₁) hT hW₁⟩) with ⟨v, vm₁, ⟨U', l2, c2, s2⟩, hW₁, X', ⟨g', mk, t, L, e1, e2, hq, h1, hL, h2, h3⟩, st⟩ | ⟨q, vm₁, ⟨U', l2, c2, s2⟩, hW₁, X', ⟨g', mk, t, L, E, ce, e1, e2, hq, hce, hcv, hcl, h1, hL, h2, h3⟩, st⟩
  · dsimp only [Pt.U, Pt.locs, Pt.cells, Pt.slots] at X' e1 e2 h1 h2 h3 st
    subst h1; subst h2; subst h3
    exact Or.inl ⟨v, (T.setVm vm₁).calling g' mk (Value.ref b :: As).toArray, t, U', L, hT, X', hL, e1, e2, hq, st⟩
  · dsimp only [Pt.U, Pt.locs, Pt.cells, Pt.slots] at X' e1 e2 h1 h2 h3 st hcl
    subst h1; subst h2; subst h3
    exact Or.inr ⟨q, (T.setVm vm₁).calling g' mk (Value.ref b :: As).toArray, t, U', L, E, ce, hT, X', hL, e1, e2, hq, hce, hcv, vx_cls hW₁ hcl, st⟩
theorem vx_runSX {hh : List (Nat × Nat × Nat × Nat)} (S : CallFix p m c cc nL s args Ts own) (hM : vx_Met l y ws rm Pc Qc XC mc ms free) (cw : vx_CSW R s args own index y bytes maxL ret hh ws rm mc ms n) (hp : PreS s H Pc As)
    (hg : g.method = m) (hn : As.length = n) (hsize : g.locals.size = nL) (hstack : g.stack = As.reverse ++ rest) (hW : 2 * g.monitorRoom + (rest.map fun v => v.category).sum ≤ 8) (hdg : decode cc g.pc = .ok (.invokestatic index, 3)) (hf : cells + mc ≤ R.cells ∧ slots + ms ≤ R.slots) :
    vx_Run p l e R s m args below meth c H locs cells slots mc ms g rest (Qc As.toArray) XC free := by
  obtain ⟨⟨hrc, hrs, hfr, hlo, hws, hcw⟩, hcode, hini, hy, hlen, hl, hstt⟩ := cw
  have hK : vx_Back l R p e below s args y 3 8 (PreOf R mc ms Pc) (PostOf Qc mc ms free) (vx_Post XC mc ms free) := vx_backW (hh := hh) (bytes := bytes) (maxL := maxL) (ret := ret) hM hp.1 hrc hrs hfr hlo hws hcw (fun a' U hW => word_at hW (Or.inl (by first | rfl | simp [Cond.onTables, Cond.keeps, Cond.steady])) hini)
  obtain ⟨hx, hb, hml, ho, -⟩ := S
  intro T hT X
  rcases vx_callSX X hx (hh := hh) (bytes := bytes) (maxL := maxL) (ret := ret) ho hl hstt hini hcode hy hK hg (hsize.trans hml.symm) (argsL := As) (rest := rest) (fun sig h => hn.trans (hlen sig h)) hstack hW (by rw [hb]; exact hdg)
    (fun vm₁ hW₁ => ⟨hf.1, hf.2, hp.2 (T.setVm vm₁) hT hW₁⟩) with ⟨v, vm₁, ⟨U', l2, c2, s2⟩, hW₁, X', ⟨g', mk, t, L, e1, e2, hq, h1, hL, h2, h3⟩, st⟩ | ⟨q, vm₁, ⟨U', l2, c2, s2⟩, hW₁, X', ⟨g', mk, t, L, E, ce, e1, e2, hq, hce, hcv, hcl, h1, hL, h2, h3⟩, st⟩
  · dsimp only [Pt.U, Pt.locs, Pt.cells, Pt.slots] at X' e1 e2 h1 h2 h3 st
    subst h1; subst h2; subst h3
    exact Or.inl ⟨v, (T.setVm vm₁).calling g' mk As.toArray, t, U', L, hT, X', hL, e1, e2, hq, st⟩
  · dsimp only [Pt.U, Pt.locs, Pt.cells, Pt.slots] at X' e1 e2 h1 h2 h3 st hcl
    subst h1; subst h2; subst h3
    exact Or.inr ⟨q, (T.setVm vm₁).calling g' mk As.toArray, t, U', L, E, ce, hT, X', hL, e1, e2, hq, hce, hcv, vx_cls hW₁ hcl, st⟩
end
end VXH
theorem vx_ofWH {l : Launch} {y : MethodName} {ws ws' : List Cond} {rm : Room} {Pc : Array Value → State → Prop} {Qc : Array Value → State → Outcome → State → Prop} {XC : String → State → State → Prop} {mc ms : Nat} {free : Addr → Prop} {cc : ByteArray} {maxL : Nat} {ret : Option FieldType} {hh : List (Nat × Nat × Nat × Nat)}
    (hy : plainName y.cls = true) (hw : ws = Cond.codeWith y cc maxL ret hh :: ws')
    (body : ∀ p e s m args below meth c s₁, BodyLoose p l y (headSpec ws rm) cc maxL ret e s m args below meth c s₁ → c.maxLocals = maxL → Pc args s →
      W p l e (headSpec ws rm).room s m args below meth c s.heap [] 0 0 (vx_MQ below Qc XC args s mc ms free) (entryFrame m args maxL)) : vx_Met l y ws rm Pc Qc XC mc ms free := by
  refine MetFree.of_bodyS (code := cc) (maxLocals := maxL) (ret := ret) hy ?_ ?_
  · intro args s m h hn
    obtain ⟨m9, meth, c, hn9, h1, h2, h3, h4, -, h5, h6, -⟩ := Cond.codeWith_spec (atoms_spec (ws := ws) h _ (by rw [hw]; exact List.mem_cons_self))
    cases hn.symm.trans hn9
    exact ⟨meth, c, h1, h2, h3, h4, h5, h6⟩
  · intro p e s m args below meth c s₁ B hml hP _
    have hh0 : s₁.heap = s.heap := by rw [B.state]; rfl
    obtain ⟨t, a1, o, b1, b2, b3⟩ := body p e s m args below meth c s₁ B hml hP s₁ hh0 (Stand.of_body B)
    exact ⟨t, o, a1, b1, b2, b3⟩
/-! ===== END ===== -/
end
section
/-! ===== BEGIN printed: names, fields, word lists, decode rows ===== -/
def RX0 : String := "KeyStates$Entry"
def TX0 : u_T := fun k => match k with
  | 0 => ("KeyStates$Entry", "state", "I", true)
  | 1 => ("KeyStates$Entry", "key", "J", true)
  | 2 => ("KeyStates$Entry", "span", "I", true)
  | 3 => ("KeyStates$Entry", "numbers", "[J", true)
  | 4 => ("KeyStates$Entry", "members", "[J", true)
  | _ => ("KeyStates$Entry", "folded", "I", true)
def tyX0 : Nat → FieldType := fun k => match k with
  | 0 => .int
  | 1 => .long
  | 2 => .int
  | 3 => .array .long
  | 4 => .array .long
  | _ => .int
abbrev wsX00 : List Cond := u_ws RX0 TX0 6
theorem nmX0 : ∀ a, a < 6 → ∀ b, b < 6 → a ≠ b → (TX0 a).2.1 ≠ (TX0 b).2.1 := by decide +kernel
theorem tyX0_ok : ∀ k, k < 6 → parseFieldDescriptor (TX0 k).2.2.1 = some (tyX0 k) := by decide +kernel
abbrev cX0_init : ByteArray := prog_2_method_1_code
def yX0_init : MethodName := ⟨RX0, "<init>", "(IJI)V"⟩
abbrev cX0_init_ : ByteArray := prog_2_method_2_code
def yX0_init_ : MethodName := ⟨RX0, "<init>", "(LKeyStates$Entry;[J[JI)V"⟩
abbrev cX0_isNone : ByteArray := prog_2_method_3_code
def yX0_isNone : MethodName := ⟨RX0, "isNone", "()Z"⟩
abbrev cX0_isAt : ByteArray := prog_2_method_4_code
def yX0_isAt : MethodName := ⟨RX0, "isAt", "(IJI)Z"⟩
abbrev cX0_placeOf : ByteArray := prog_2_method_5_code
def yX0_placeOf : MethodName := ⟨RX0, "placeOf", "(J)I"⟩
abbrev cX0_hasMember : ByteArray := prog_2_method_6_code
def yX0_hasMember : MethodName := ⟨RX0, "hasMember", "(IJ)Z"⟩
abbrev cX0_withNothing : ByteArray := prog_2_method_7_code
def yX0_withNothing : MethodName := ⟨RX0, "withNothing", "()LKeyStates$Entry;"⟩
abbrev cX0_withOnly : ByteArray := prog_2_method_8_code
def yX0_withOnly : MethodName := ⟨RX0, "withOnly", "(J)LKeyStates$Entry;"⟩
abbrev cX0_withOneMore : ByteArray := prog_2_method_9_code
def yX0_withOneMore : MethodName := ⟨RX0, "withOneMore", "(J)LKeyStates$Entry;"⟩
abbrev cX0_withNumberAt : ByteArray := prog_2_method_10_code
def yX0_withNumberAt : MethodName := ⟨RX0, "withNumberAt", "(IJ)LKeyStates$Entry;"⟩
abbrev cX0_withMember : ByteArray := prog_2_method_11_code
def yX0_withMember : MethodName := ⟨RX0, "withMember", "(IJJ)LKeyStates$Entry;"⟩
abbrev cX0_withoutMember : ByteArray := prog_2_method_12_code
def yX0_withoutMember : MethodName := ⟨RX0, "withoutMember", "(I)LKeyStates$Entry;"⟩
abbrev cX0_withFolded : ByteArray := prog_2_method_13_code
def yX0_withFolded : MethodName := ⟨RX0, "withFolded", "(IJ)LKeyStates$Entry;"⟩
abbrev cX0_allFit : ByteArray := prog_2_method_14_code
def yX0_allFit : MethodName := ⟨RX0, "allFit", "(II)Z"⟩
abbrev cX0_movedTo : ByteArray := prog_2_method_15_code
def yX0_movedTo : MethodName := ⟨RX0, "movedTo", "(II)LKeyStates$Entry;"⟩
abbrev cX0_foldedUp : ByteArray := prog_2_method_16_code
def yX0_foldedUp : MethodName := ⟨RX0, "foldedUp", "(I)LKeyStates$Entry;"⟩
abbrev cX0_inserted : ByteArray := prog_2_method_17_code
def yX0_inserted : MethodName := ⟨RX0, "inserted", "([JIJ)[J"⟩
abbrev cX0_without : ByteArray := prog_2_method_18_code
def yX0_without : MethodName := ⟨RX0, "without", "([JI)[J"⟩
def RX1 : String := "KeyStates$Page"
def TX1 : u_T := fun k => match k with
  | 0 => ("KeyStates$Page", "rows", "[LKeyStates$Entry;", false)
  | _ => ("KeyStates$Page", "holders", "I", false)
def tyX1 : Nat → FieldType := fun k => match k with
  | 0 => .array (.object "KeyStates$Entry")
  | _ => .int
abbrev wsX10 : List Cond := u_ws RX1 TX1 2
theorem nmX1 : ∀ a, a < 2 → ∀ b, b < 2 → a ≠ b → (TX1 a).2.1 ≠ (TX1 b).2.1 := by decide +kernel
theorem tyX1_ok : ∀ k, k < 2 → parseFieldDescriptor (TX1 k).2.2.1 = some (tyX1 k) := by decide +kernel
abbrev cX1_init : ByteArray := prog_3_method_1_code
def yX1_init : MethodName := ⟨RX1, "<init>", "()V"⟩
abbrev cX1_isShared : ByteArray := prog_3_method_2_code
def yX1_isShared : MethodName := ⟨RX1, "isShared", "()Z"⟩
abbrev cX1_copied : ByteArray := prog_3_method_3_code
def yX1_copied : MethodName := ⟨RX1, "copied", "()LKeyStates$Page;"⟩
abbrev cX1_rowOf : ByteArray := prog_3_method_4_code
def yX1_rowOf : MethodName := ⟨RX1, "rowOf", "(IJI)I"⟩
abbrev cX1_keepEntry : ByteArray := prog_3_method_5_code
def yX1_keepEntry : MethodName := ⟨RX1, "keepEntry", "(LKeyStates$Entry;)V"⟩
abbrev cX1_freeRow : ByteArray := prog_3_method_6_code
def yX1_freeRow : MethodName := ⟨RX1, "freeRow", "()I"⟩
abbrev cX1_hasSpan : ByteArray := prog_3_method_7_code
def yX1_hasSpan : MethodName := ⟨RX1, "hasSpan", "(I)Z"⟩
abbrev cX1_loseSpan : ByteArray := prog_3_method_8_code
def yX1_loseSpan : MethodName := ⟨RX1, "loseSpan", "(I)I"⟩
abbrev cX1_allFit : ByteArray := prog_3_method_9_code
def yX1_allFit : MethodName := ⟨RX1, "allFit", "(III)Z"⟩
abbrev cX1_moveEntries : ByteArray := prog_3_method_10_code
def yX1_moveEntries : MethodName := ⟨RX1, "moveEntries", "(III)I"⟩
abbrev cX1_sortKeysInto : ByteArray := prog_3_method_11_code
def yX1_sortKeysInto : MethodName := ⟨RX1, "sortKeysInto", "([JIII)I"⟩
abbrev cX1_countEntries : ByteArray := prog_3_method_12_code
def yX1_countEntries : MethodName := ⟨RX1, "countEntries", "()I"⟩
abbrev cX1_countEntriesOf : ByteArray := prog_3_method_13_code
def yX1_countEntriesOf : MethodName := ⟨RX1, "countEntriesOf", "(I)I"⟩
abbrev cX1_countNumbers : ByteArray := prog_3_method_14_code
def yX1_countNumbers : MethodName := ⟨RX1, "countNumbers", "()I"⟩
def RX2 : String := "KeyStates$Picture"
def TX2 : u_T := fun k => match k with
  | 0 => ("KeyStates$Picture", "number", "I", true)
  | 1 => ("KeyStates$Picture", "pages", "[LKeyStates$Page;", true)
  | 2 => ("KeyStates$Picture", "kinds", "[I", true)
  | 3 => ("KeyStates$Picture", "types", "[I", true)
  | _ => ("KeyStates$Picture", "stateCount", "I", false)
def tyX2 : Nat → FieldType := fun k => match k with
  | 0 => .int
  | 1 => .array (.object "KeyStates$Page")
  | 2 => .array .int
  | 3 => .array .int
  | _ => .int
abbrev wsX20 : List Cond := u_ws RX2 TX2 5
theorem nmX2 : ∀ a, a < 5 → ∀ b, b < 5 → a ≠ b → (TX2 a).2.1 ≠ (TX2 b).2.1 := by decide +kernel
theorem tyX2_ok : ∀ k, k < 5 → parseFieldDescriptor (TX2 k).2.2.1 = some (tyX2 k) := by decide +kernel
abbrev cX2_init : ByteArray := prog_4_method_1_code
def yX2_init : MethodName := ⟨RX2, "<init>", "()V"⟩
abbrev cX2_init_ : ByteArray := prog_4_method_2_code
def yX2_init_ : MethodName := ⟨RX2, "<init>", "(LKeyStates$Picture;I)V"⟩
abbrev cX2_tellState : ByteArray := prog_4_method_3_code
def yX2_tellState : MethodName := ⟨RX2, "tellState", "(II)I"⟩
abbrev cX2_taken : ByteArray := prog_4_method_4_code
def yX2_taken : MethodName := ⟨RX2, "taken", "(I)LKeyStates$Picture;"⟩
abbrev cX2_releasePages : ByteArray := prog_4_method_5_code
def yX2_releasePages : MethodName := ⟨RX2, "releasePages", "()V"⟩
abbrev cX2_becomeLike : ByteArray := prog_4_method_6_code
def yX2_becomeLike : MethodName := ⟨RX2, "becomeLike", "(LKeyStates$Picture;)V"⟩
abbrev cX2_entryOf : ByteArray := prog_4_method_7_code
def yX2_entryOf : MethodName := ⟨RX2, "entryOf", "(IJI)LKeyStates$Entry;"⟩
abbrev cX2_allFit : ByteArray := prog_4_method_8_code
def yX2_allFit : MethodName := ⟨RX2, "allFit", "(III)Z"⟩
abbrev cX2_countEntries : ByteArray := prog_4_method_9_code
def yX2_countEntries : MethodName := ⟨RX2, "countEntries", "()I"⟩
abbrev cX2_countEntriesOf : ByteArray := prog_4_method_10_code
def yX2_countEntriesOf : MethodName := ⟨RX2, "countEntriesOf", "(I)I"⟩
abbrev cX2_countNumbers : ByteArray := prog_4_method_11_code
def yX2_countNumbers : MethodName := ⟨RX2, "countNumbers", "()I"⟩
abbrev cX2_countPagesInUse : ByteArray := prog_4_method_12_code
def yX2_countPagesInUse : MethodName := ⟨RX2, "countPagesInUse", "()I"⟩
abbrev cX2_countShared : ByteArray := prog_4_method_13_code
def yX2_countShared : MethodName := ⟨RX2, "countShared", "()I"⟩
def RX3 : String := "KeyStates"
def TX3 : u_T := fun k => match k with
  | 0 => ("KeyStates", "names", "[I", true)
  | 1 => ("KeyStates", "now", "LKeyStates$Picture;", true)
  | 2 => ("KeyStates", "snapshots", "[LKeyStates$Picture;", true)
  | 3 => ("KeyStates", "risingKeys", "[J", true)
  | 4 => ("KeyStates", "snapshotsTaken", "I", false)
  | 5 => ("KeyStates", "pagesCopied", "I", false)
  | 6 => ("KeyStates", "hasKey", "Z", false)
  | 7 => ("KeyStates", "keyAtHand", "J", false)
  | _ => ("KeyStates", "spanAtHand", "I", false)
def tyX3 : Nat → FieldType := fun k => match k with
  | 0 => .array .int
  | 1 => .object "KeyStates$Picture"
  | 2 => .array (.object "KeyStates$Picture")
  | 3 => .array .long
  | 4 => .int
  | 5 => .int
  | 6 => .boolean
  | 7 => .long
  | _ => .int
abbrev wsX30 : List Cond := u_ws RX3 TX3 9
theorem nmX3 : ∀ a, a < 9 → ∀ b, b < 9 → a ≠ b → (TX3 a).2.1 ≠ (TX3 b).2.1 := by decide +kernel
theorem tyX3_ok : ∀ k, k < 9 → parseFieldDescriptor (TX3 k).2.2.1 = some (tyX3 k) := by decide +kernel
abbrev cX3_init : ByteArray := prog_1_method_1_code
def yX3_init : MethodName := ⟨RX3, "<init>", "()V"⟩
abbrev cX3_state : ByteArray := prog_1_method_2_code
def yX3_state : MethodName := ⟨RX3, "state", "(III)I"⟩
abbrev cX3_key : ByteArray := prog_1_method_3_code
def yX3_key : MethodName := ⟨RX3, "key", "(J)V"⟩
abbrev cX3_leave : ByteArray := prog_1_method_4_code
def yX3_leave : MethodName := ⟨RX3, "leave", "()Z"⟩
abbrev cX3_span : ByteArray := prog_1_method_5_code
def yX3_span : MethodName := ⟨RX3, "span", "(I)I"⟩
abbrev cX3_put : ByteArray := prog_1_method_6_code
def yX3_put : MethodName := ⟨RX3, "put", "(IJ)I"⟩
abbrev cX3_value : ByteArray := prog_1_method_7_code
def yX3_value : MethodName := ⟨RX3, "value", "(I)J"⟩
abbrev cX3_add : ByteArray := prog_1_method_8_code
def yX3_add : MethodName := ⟨RX3, "add", "(IJ)I"⟩
abbrev cX3_item : ByteArray := prog_1_method_9_code
def yX3_item : MethodName := ⟨RX3, "item", "(II)J"⟩
abbrev cX3_set : ByteArray := prog_1_method_10_code
def yX3_set : MethodName := ⟨RX3, "set", "(IJJ)I"⟩
abbrev cX3_get : ByteArray := prog_1_method_11_code
def yX3_get : MethodName := ⟨RX3, "get", "(IJ)J"⟩
abbrev cX3_member : ByteArray := prog_1_method_12_code
def yX3_member : MethodName := ⟨RX3, "member", "(II)J"⟩
abbrev cX3_remove : ByteArray := prog_1_method_13_code
def yX3_remove : MethodName := ⟨RX3, "remove", "(IJ)Z"⟩
abbrev cX3_fold : ByteArray := prog_1_method_14_code
def yX3_fold : MethodName := ⟨RX3, "fold", "(IJ)I"⟩
abbrev cX3_size : ByteArray := prog_1_method_15_code
def yX3_size : MethodName := ⟨RX3, "size", "(I)I"⟩
abbrev cX3_clear : ByteArray := prog_1_method_16_code
def yX3_clear : MethodName := ⟨RX3, "clear", "(I)Z"⟩
abbrev cX3_clearSpan : ByteArray := prog_1_method_17_code
def yX3_clearSpan : MethodName := ⟨RX3, "clearSpan", "()I"⟩
abbrev cX3_keys : ByteArray := prog_1_method_18_code
def yX3_keys : MethodName := ⟨RX3, "keys", "(I)I"⟩
abbrev cX3_keyAt : ByteArray := prog_1_method_19_code
def yX3_keyAt : MethodName := ⟨RX3, "keyAt", "(II)J"⟩
abbrev cX3_snapshot : ByteArray := prog_1_method_20_code
def yX3_snapshot : MethodName := ⟨RX3, "snapshot", "()I"⟩
abbrev cX3_drop : ByteArray := prog_1_method_21_code
def yX3_drop : MethodName := ⟨RX3, "drop", "(I)I"⟩
abbrev cX3_ask : ByteArray := prog_1_method_22_code
def yX3_ask : MethodName := ⟨RX3, "ask", "(IIJII)J"⟩
abbrev cX3_entries : ByteArray := prog_1_method_23_code
def yX3_entries : MethodName := ⟨RX3, "entries", "(II)I"⟩
abbrev cX3_restore : ByteArray := prog_1_method_24_code
def yX3_restore : MethodName := ⟨RX3, "restore", "(I)I"⟩
abbrev cX3_move : ByteArray := prog_1_method_25_code
def yX3_move : MethodName := ⟨RX3, "move", "(III)I"⟩
abbrev cX3_of : ByteArray := prog_1_method_26_code
def yX3_of : MethodName := ⟨RX3, "of", "(II)I"⟩
abbrev cX3_told : ByteArray := prog_1_method_27_code
def yX3_told : MethodName := ⟨RX3, "told", "(I)I"⟩
abbrev cX3_needState : ByteArray := prog_1_method_28_code
def yX3_needState : MethodName := ⟨RX3, "needState", "(I)V"⟩
abbrev cX3_needKey : ByteArray := prog_1_method_29_code
def yX3_needKey : MethodName := ⟨RX3, "needKey", "()V"⟩
abbrev cX3_needToWrite : ByteArray := prog_1_method_30_code
def yX3_needToWrite : MethodName := ⟨RX3, "needToWrite", "(IIJ)V"⟩
abbrev cX3_needToRead : ByteArray := prog_1_method_31_code
def yX3_needToRead : MethodName := ⟨RX3, "needToRead", "(III)V"⟩
abbrev cX3_entryAtHand : ByteArray := prog_1_method_32_code
def yX3_entryAtHand : MethodName := ⟨RX3, "entryAtHand", "(I)LKeyStates$Entry;"⟩
abbrev cX3_hasNoRoomFor : ByteArray := prog_1_method_33_code
def yX3_hasNoRoomFor : MethodName := ⟨RX3, "hasNoRoomFor", "(LKeyStates$Entry;)Z"⟩
abbrev cX3_keep : ByteArray := prog_1_method_34_code
def yX3_keep : MethodName := ⟨RX3, "keep", "(LKeyStates$Entry;)V"⟩
abbrev cX3_pageToChange : ByteArray := prog_1_method_35_code
def yX3_pageToChange : MethodName := ⟨RX3, "pageToChange", "(I)LKeyStates$Page;"⟩
abbrev cX3_sortKeys : ByteArray := prog_1_method_36_code
def yX3_sortKeys : MethodName := ⟨RX3, "sortKeys", "(I)I"⟩
abbrev cX3_pictureOf : ByteArray := prog_1_method_37_code
def yX3_pictureOf : MethodName := ⟨RX3, "pictureOf", "(I)LKeyStates$Picture;"⟩
abbrev cX3_slotOf : ByteArray := prog_1_method_38_code
def yX3_slotOf : MethodName := ⟨RX3, "slotOf", "(I)I"⟩
abbrev cX3_snapshotIn : ByteArray := prog_1_method_39_code
def yX3_snapshotIn : MethodName := ⟨RX3, "snapshotIn", "(I)LKeyStates$Picture;"⟩
abbrev cX3_countSnapshots : ByteArray := prog_1_method_40_code
def yX3_countSnapshots : MethodName := ⟨RX3, "countSnapshots", "()I"⟩
abbrev cX3_isKindAndType : ByteArray := prog_1_method_41_code
def yX3_isKindAndType : MethodName := ⟨RX3, "isKindAndType", "(II)Z"⟩
abbrev cX3_fits : ByteArray := prog_1_method_42_code
def yX3_fits : MethodName := ⟨RX3, "fits", "(IIJ)Z"⟩
abbrev cX3_canMove : ByteArray := prog_1_method_43_code
def yX3_canMove : MethodName := ⟨RX3, "canMove", "(II)Z"⟩
abbrev cX3_pageNumber : ByteArray := prog_1_method_44_code
def yX3_pageNumber : MethodName := ⟨RX3, "pageNumber", "(IJI)I"⟩
abbrev cX3_numberAt : ByteArray := prog_1_method_45_code
def yX3_numberAt : MethodName := ⟨RX3, "numberAt", "([JI)J"⟩
abbrev cX3_countBelow : ByteArray := prog_1_method_46_code
def yX3_countBelow : MethodName := ⟨RX3, "countBelow", "([JIJ)I"⟩
abbrev cX3_joined : ByteArray := prog_1_method_47_code
def yX3_joined : MethodName := ⟨RX3, "joined", "(IJJ)J"⟩
def RX4 : String := "KeyStatesModel"
def TX4 : u_T := fun k => match k with
  | 0 => ("KeyStatesModel", "thrown", "I", false)
  | 1 => ("KeyStatesModel", "states", "I", false)
  | 2 => ("KeyStatesModel", "names", "[I", true)
  | 3 => ("KeyStatesModel", "kinds", "[I", true)
  | 4 => ("KeyStatesModel", "types", "[I", true)
  | 5 => ("KeyStatesModel", "known", "[I", true)
  | 6 => ("KeyStatesModel", "many", "[I", true)
  | 7 => ("KeyStatesModel", "state", "[I", true)
  | 8 => ("KeyStatesModel", "key", "[J", true)
  | 9 => ("KeyStatesModel", "span", "[I", true)
  | 10 => ("KeyStatesModel", "size", "[I", true)
  | 11 => ("KeyStatesModel", "number", "[J", true)
  | 12 => ("KeyStatesModel", "member", "[J", true)
  | 13 => ("KeyStatesModel", "page", "[I", true)
  | 14 => ("KeyStatesModel", "isThere", "[Z", true)
  | 15 => ("KeyStatesModel", "taken", "[I", true)
  | 16 => ("KeyStatesModel", "snapshots", "I", false)
  | 17 => ("KeyStatesModel", "pages", "I", false)
  | 18 => ("KeyStatesModel", "copied", "I", false)
  | 19 => ("KeyStatesModel", "hasKey", "Z", false)
  | 20 => ("KeyStatesModel", "atKey", "J", false)
  | 21 => ("KeyStatesModel", "atSpan", "I", false)
  | _ => ("KeyStatesModel", "at", "I", false)
def tyX4 : Nat → FieldType := fun k => match k with
  | 0 => .int
  | 1 => .int
  | 2 => .array .int
  | 3 => .array .int
  | 4 => .array .int
  | 5 => .array .int
  | 6 => .array .int
  | 7 => .array .int
  | 8 => .array .long
  | 9 => .array .int
  | 10 => .array .int
  | 11 => .array .long
  | 12 => .array .long
  | 13 => .array .int
  | 14 => .array .boolean
  | 15 => .array .int
  | 16 => .int
  | 17 => .int
  | 18 => .int
  | 19 => .boolean
  | 20 => .long
  | 21 => .int
  | _ => .int
abbrev wsX40 : List Cond := u_ws RX4 TX4 23
theorem nmX4 : ∀ a, a < 23 → ∀ b, b < 23 → a ≠ b → (TX4 a).2.1 ≠ (TX4 b).2.1 := by decide +kernel
theorem tyX4_ok : ∀ k, k < 23 → parseFieldDescriptor (TX4 k).2.2.1 = some (tyX4 k) := by decide +kernel
abbrev cX4_init : ByteArray := prog_6_method_1_code
def yX4_init : MethodName := ⟨RX4, "<init>", "()V"⟩
abbrev cX4_thrown : ByteArray := prog_6_method_2_code
def yX4_thrown : MethodName := ⟨RX4, "thrown", "()I"⟩
abbrev cX4_newPage : ByteArray := prog_6_method_3_code
def yX4_newPage : MethodName := ⟨RX4, "newPage", "()I"⟩
abbrev cX4_fails : ByteArray := prog_6_method_4_code
def yX4_fails : MethodName := ⟨RX4, "fails", "(I)I"⟩
abbrev cX4_pageOf : ByteArray := prog_6_method_5_code
def yX4_pageOf : MethodName := ⟨RX4, "pageOf", "(IJI)I"⟩
abbrev cX4_isShared : ByteArray := prog_6_method_6_code
def yX4_isShared : MethodName := ⟨RX4, "isShared", "(I)Z"⟩
abbrev cX4_touch : ByteArray := prog_6_method_7_code
def yX4_touch : MethodName := ⟨RX4, "touch", "(I)V"⟩
abbrev cX4_touchOf : ByteArray := prog_6_method_8_code
def yX4_touchOf : MethodName := ⟨RX4, "touchOf", "(I)V"⟩
abbrev cX4_sharedPages : ByteArray := prog_6_method_9_code
def yX4_sharedPages : MethodName := ⟨RX4, "sharedPages", "()I"⟩
abbrev cX4_find : ByteArray := prog_6_method_10_code
def yX4_find : MethodName := ⟨RX4, "find", "(IIJI)I"⟩
abbrev cX4_here : ByteArray := prog_6_method_11_code
def yX4_here : MethodName := ⟨RX4, "here", "(I)I"⟩
abbrev cX4_newEntry : ByteArray := prog_6_method_12_code
def yX4_newEntry : MethodName := ⟨RX4, "newEntry", "(I)I"⟩
abbrev cX4_copyEntry : ByteArray := prog_6_method_13_code
def yX4_copyEntry : MethodName := ⟨RX4, "copyEntry", "(II)V"⟩
abbrev cX4_dropEntry : ByteArray := prog_6_method_14_code
def yX4_dropEntry : MethodName := ⟨RX4, "dropEntry", "(I)V"⟩
abbrev cX4_numbersOf : ByteArray := prog_6_method_15_code
def yX4_numbersOf : MethodName := ⟨RX4, "numbersOf", "(II)I"⟩
abbrev cX4_fits : ByteArray := prog_6_method_16_code
def yX4_fits : MethodName := ⟨RX4, "fits", "(IIJ)Z"⟩
abbrev cX4_folded : ByteArray := prog_6_method_17_code
def yX4_folded : MethodName := ⟨RX4, "folded", "(IJJ)J"⟩
abbrev cX4_isState : ByteArray := prog_6_method_18_code
def yX4_isState : MethodName := ⟨RX4, "isState", "(I)Z"⟩
abbrev cX4_isRefused : ByteArray := prog_6_method_19_code
def yX4_isRefused : MethodName := ⟨RX4, "isRefused", "(IIIJ)Z"⟩
abbrev cX4_state : ByteArray := prog_6_method_20_code
def yX4_state : MethodName := ⟨RX4, "state", "(III)I"⟩
abbrev cX4_key : ByteArray := prog_6_method_21_code
def yX4_key : MethodName := ⟨RX4, "key", "(J)V"⟩
abbrev cX4_leave : ByteArray := prog_6_method_22_code
def yX4_leave : MethodName := ⟨RX4, "leave", "()Z"⟩
abbrev cX4_span : ByteArray := prog_6_method_23_code
def yX4_span : MethodName := ⟨RX4, "span", "(I)I"⟩
abbrev cX4_put : ByteArray := prog_6_method_24_code
def yX4_put : MethodName := ⟨RX4, "put", "(IJ)I"⟩
abbrev cX4_value : ByteArray := prog_6_method_25_code
def yX4_value : MethodName := ⟨RX4, "value", "(I)J"⟩
abbrev cX4_add : ByteArray := prog_6_method_26_code
def yX4_add : MethodName := ⟨RX4, "add", "(IJ)I"⟩
abbrev cX4_item : ByteArray := prog_6_method_27_code
def yX4_item : MethodName := ⟨RX4, "item", "(II)J"⟩
abbrev cX4_placeOf : ByteArray := prog_6_method_28_code
def yX4_placeOf : MethodName := ⟨RX4, "placeOf", "(IJ)I"⟩
abbrev cX4_has : ByteArray := prog_6_method_29_code
def yX4_has : MethodName := ⟨RX4, "has", "(IJ)Z"⟩
abbrev cX4_set : ByteArray := prog_6_method_30_code
def yX4_set : MethodName := ⟨RX4, "set", "(IJJ)I"⟩
abbrev cX4_get : ByteArray := prog_6_method_31_code
def yX4_get : MethodName := ⟨RX4, "get", "(IJ)J"⟩
abbrev cX4_member : ByteArray := prog_6_method_32_code
def yX4_member : MethodName := ⟨RX4, "member", "(II)J"⟩
abbrev cX4_remove : ByteArray := prog_6_method_33_code
def yX4_remove : MethodName := ⟨RX4, "remove", "(IJ)Z"⟩
abbrev cX4_fold : ByteArray := prog_6_method_34_code
def yX4_fold : MethodName := ⟨RX4, "fold", "(IJ)I"⟩
abbrev cX4_lacks : ByteArray := prog_6_method_35_code
def yX4_lacks : MethodName := ⟨RX4, "lacks", "(I)Z"⟩
abbrev cX4_size : ByteArray := prog_6_method_36_code
def yX4_size : MethodName := ⟨RX4, "size", "(I)I"⟩
abbrev cX4_clear : ByteArray := prog_6_method_37_code
def yX4_clear : MethodName := ⟨RX4, "clear", "(I)Z"⟩
abbrev cX4_clearSpan : ByteArray := prog_6_method_38_code
def yX4_clearSpan : MethodName := ⟨RX4, "clearSpan", "()I"⟩
abbrev cX4_keys : ByteArray := prog_6_method_39_code
def yX4_keys : MethodName := ⟨RX4, "keys", "(I)I"⟩
abbrev cX4_keyAt : ByteArray := prog_6_method_40_code
def yX4_keyAt : MethodName := ⟨RX4, "keyAt", "(II)J"⟩
abbrev cX4_copyOf : ByteArray := prog_6_method_41_code
def yX4_copyOf : MethodName := ⟨RX4, "copyOf", "(I)I"⟩
abbrev cX4_copyAll : ByteArray := prog_6_method_42_code
def yX4_copyAll : MethodName := ⟨RX4, "copyAll", "(II)V"⟩
abbrev cX4_snapshot : ByteArray := prog_6_method_43_code
def yX4_snapshot : MethodName := ⟨RX4, "snapshot", "()I"⟩
abbrev cX4_drop : ByteArray := prog_6_method_44_code
def yX4_drop : MethodName := ⟨RX4, "drop", "(I)I"⟩
abbrev cX4_ask : ByteArray := prog_6_method_45_code
def yX4_ask : MethodName := ⟨RX4, "ask", "(IIJII)J"⟩
abbrev cX4_entries : ByteArray := prog_6_method_46_code
def yX4_entries : MethodName := ⟨RX4, "entries", "(II)I"⟩
abbrev cX4_restore : ByteArray := prog_6_method_47_code
def yX4_restore : MethodName := ⟨RX4, "restore", "(I)I"⟩
abbrev cX4_canMove : ByteArray := prog_6_method_48_code
def yX4_canMove : MethodName := ⟨RX4, "canMove", "(II)Z"⟩
abbrev cX4_move : ByteArray := prog_6_method_49_code
def yX4_move : MethodName := ⟨RX4, "move", "(III)I"⟩
abbrev cX4_of : ByteArray := prog_6_method_50_code
def yX4_of : MethodName := ⟨RX4, "of", "(II)I"⟩
abbrev cX4_told : ByteArray := prog_6_method_51_code
def yX4_told : MethodName := ⟨RX4, "told", "(I)I"⟩
def RJx145de : String := "java/io/Serializable"
def TJx145de : u_T := fun k => match k with
  | _ => ("", "", "", false)
def tyJx145de : Nat → FieldType := fun k => match k with
  | _ => .int
abbrev wsJx145de0 : List Cond := u_ws RJx145de TJx145de 0
theorem nmJx145de : ∀ a, a < 0 → ∀ b, b < 0 → a ≠ b → (TJx145de a).2.1 ≠ (TJx145de b).2.1 := by decide +kernel
theorem tyJx145de_ok : ∀ k, k < 0 → parseFieldDescriptor (TJx145de k).2.2.1 = some (tyJx145de k) := by decide +kernel
def RJx8e188 : String := "java/lang/Cloneable"
def TJx8e188 : u_T := fun k => match k with
  | _ => ("", "", "", false)
def tyJx8e188 : Nat → FieldType := fun k => match k with
  | _ => .int
abbrev wsJx8e1880 : List Cond := u_ws RJx8e188 TJx8e188 0
theorem nmJx8e188 : ∀ a, a < 0 → ∀ b, b < 0 → a ≠ b → (TJx8e188 a).2.1 ≠ (TJx8e188 b).2.1 := by decide +kernel
theorem tyJx8e188_ok : ∀ k, k < 0 → parseFieldDescriptor (TJx8e188 k).2.2.1 = some (tyJx8e188 k) := by decide +kernel
def RJ9 : String := "java/lang/Math"
def TJ9 : u_T := fun k => match k with
  | _ => ("", "", "", false)
def tyJ9 : Nat → FieldType := fun k => match k with
  | _ => .int
abbrev wsJ90 : List Cond := u_ws RJ9 TJ9 0
theorem nmJ9 : ∀ a, a < 0 → ∀ b, b < 0 → a ≠ b → (TJ9 a).2.1 ≠ (TJ9 b).2.1 := by decide +kernel
theorem tyJ9_ok : ∀ k, k < 0 → parseFieldDescriptor (TJ9 k).2.2.1 = some (tyJ9 k) := by decide +kernel
abbrev cJ9_max_f86c9 : ByteArray := prog_13_method_66_code
def yJ9_max_f86c9 : MethodName := ⟨RJ9, "max", "(JJ)J"⟩
abbrev cJ9_min_7cf53 : ByteArray := prog_13_method_69_code
def yJ9_min_7cf53 : MethodName := ⟨RJ9, "min", "(II)I"⟩
abbrev cJ9_min_f86c9 : ByteArray := prog_13_method_70_code
def yJ9_min_f86c9 : MethodName := ⟨RJ9, "min", "(JJ)J"⟩
def RJ0 : String := "java/lang/String"
def TJ0 : u_T := fun k => match k with
  | _ => ("", "", "", false)
def tyJ0 : Nat → FieldType := fun k => match k with
  | _ => .int
abbrev wsJ00 : List Cond := u_ws RJ0 TJ0 0
theorem nmJ0 : ∀ a, a < 0 → ∀ b, b < 0 → a ≠ b → (TJ0 a).2.1 ≠ (TJ0 b).2.1 := by decide +kernel
theorem tyJ0_ok : ∀ k, k < 0 → parseFieldDescriptor (TJ0 k).2.2.1 = some (tyJ0 k) := by decide +kernel
def RJ10 : String := "java/lang/System"
def TJ10 : u_T := fun k => match k with
  | _ => ("", "", "", false)
def tyJ10 : Nat → FieldType := fun k => match k with
  | _ => .int
abbrev wsJ100 : List Cond := u_ws RJ10 TJ10 0
theorem nmJ10 : ∀ a, a < 0 → ∀ b, b < 0 → a ≠ b → (TJ10 a).2.1 ≠ (TJ10 b).2.1 := by decide +kernel
theorem tyJ10_ok : ∀ k, k < 0 → parseFieldDescriptor (TJ10 k).2.2.1 = some (tyJ10 k) := by decide +kernel
def RJ7 : String := "java/util/Arrays"
def TJ7 : u_T := fun k => match k with
  | _ => ("", "", "", false)
def tyJ7 : Nat → FieldType := fun k => match k with
  | _ => .int
abbrev wsJ70 : List Cond := u_ws RJ7 TJ7 0
theorem nmJ7 : ∀ a, a < 0 → ∀ b, b < 0 → a ≠ b → (TJ7 a).2.1 ≠ (TJ7 b).2.1 := by decide +kernel
theorem tyJ7_ok : ∀ k, k < 0 → parseFieldDescriptor (TJ7 k).2.2.1 = some (tyJ7 k) := by decide +kernel
abbrev cJ7_copyOf_c38d5 : ByteArray := prog_18_method_124_code
def yJ7_copyOf_c38d5 : MethodName := ⟨RJ7, "copyOf", "([JI)[J"⟩
def RL : String := "KeyStatesLaw"
abbrev cL_put : ByteArray := method_3_code
def yL_put : MethodName := ⟨RL, "put", "(LKeyStates;IJ[J)I"⟩
abbrev cL_value : ByteArray := method_4_code
def yL_value : MethodName := ⟨RL, "value", "(LKeyStates;I[J)I"⟩
abbrev cL_add : ByteArray := method_5_code
def yL_add : MethodName := ⟨RL, "add", "(LKeyStates;IJ[J)I"⟩
abbrev cL_item : ByteArray := method_6_code
def yL_item : MethodName := ⟨RL, "item", "(LKeyStates;II[J)I"⟩
abbrev cL_set : ByteArray := method_7_code
def yL_set : MethodName := ⟨RL, "set", "(LKeyStates;IJJ[J)I"⟩
abbrev cL_get : ByteArray := method_8_code
def yL_get : MethodName := ⟨RL, "get", "(LKeyStates;IJ[J)I"⟩
abbrev cL_member : ByteArray := method_9_code
def yL_member : MethodName := ⟨RL, "member", "(LKeyStates;II[J)I"⟩
abbrev cL_remove : ByteArray := method_10_code
def yL_remove : MethodName := ⟨RL, "remove", "(LKeyStates;IJ[J)I"⟩
abbrev cL_fold : ByteArray := method_11_code
def yL_fold : MethodName := ⟨RL, "fold", "(LKeyStates;IJ[J)I"⟩
abbrev cL_size : ByteArray := method_12_code
def yL_size : MethodName := ⟨RL, "size", "(LKeyStates;I[J)I"⟩
abbrev cL_clear : ByteArray := method_13_code
def yL_clear : MethodName := ⟨RL, "clear", "(LKeyStates;I[J)I"⟩
abbrev cL_keys : ByteArray := method_14_code
def yL_keys : MethodName := ⟨RL, "keys", "(LKeyStates;I[J)I"⟩
abbrev cL_keyAt : ByteArray := method_15_code
def yL_keyAt : MethodName := ⟨RL, "keyAt", "(LKeyStates;II[J)I"⟩
abbrev cL_drop : ByteArray := method_16_code
def yL_drop : MethodName := ⟨RL, "drop", "(LKeyStates;I[J)I"⟩
abbrev cL_ask : ByteArray := method_17_code
def yL_ask : MethodName := ⟨RL, "ask", "(LKeyStates;IIJII[J)I"⟩
abbrev cL_entries : ByteArray := method_18_code
def yL_entries : MethodName := ⟨RL, "entries", "(LKeyStates;II[J)I"⟩
abbrev cL_restore : ByteArray := method_19_code
def yL_restore : MethodName := ⟨RL, "restore", "(LKeyStates;I[J)I"⟩
abbrev cL_move : ByteArray := method_20_code
def yL_move : MethodName := ⟨RL, "move", "(LKeyStates;III[J)I"⟩
abbrev cL_of : ByteArray := method_21_code
def yL_of : MethodName := ⟨RL, "of", "(LKeyStates;II[J)I"⟩
abbrev cL_law : ByteArray := code
def yL_law : MethodName := ⟨RL, "law", "([I)Z"⟩
def wsX0_init : List Cond := .code yX0_init cX0_init 5 none :: ([.methodLink RX0 3 objectInit, .instanceMethod objectInit, .code objectInit ⟨#[0xb1]⟩ 1 none, .fieldLink RX0 9 "KeyStates$Entry" "state" "I", .fieldLink RX0 15 "KeyStates$Entry" "key" "J", .fieldLink RX0 19 "KeyStates$Entry" "span" "I", .fieldLink RX0 26 "KeyStates$Entry" "numbers" "[J", .fieldLink RX0 29 "KeyStates$Entry" "members" "[J", .fieldLink RX0 32 "KeyStates$Entry" "folded" "I"] ++ wsX00)
def wsX0_init_ : List Cond := .code yX0_init_ cX0_init_ 5 none :: ([.methodLink RX0 3 objectInit, .instanceMethod objectInit, .code objectInit ⟨#[0xb1]⟩ 1 none, .fieldLink RX0 9 "KeyStates$Entry" "state" "I", .fieldLink RX0 15 "KeyStates$Entry" "key" "J", .fieldLink RX0 19 "KeyStates$Entry" "span" "I", .fieldLink RX0 26 "KeyStates$Entry" "numbers" "[J", .fieldLink RX0 29 "KeyStates$Entry" "members" "[J", .fieldLink RX0 32 "KeyStates$Entry" "folded" "I"] ++ wsX00)
def wsX0_isNone : List Cond := .code yX0_isNone cX0_isNone 1 (some .boolean) :: ([.fieldLink RX0 26 "KeyStates$Entry" "numbers" "[J"] ++ wsX00)
def wsX0_isAt : List Cond := .code yX0_isAt cX0_isAt 5 (some .boolean) :: ([.fieldLink RX0 9 "KeyStates$Entry" "state" "I", .fieldLink RX0 15 "KeyStates$Entry" "key" "J", .fieldLink RX0 19 "KeyStates$Entry" "span" "I"] ++ wsX00)
def wsX3_countBelow : List Cond := .code yX3_countBelow cX3_countBelow 5 (some .int) :: ([])
def wsX0_placeOf : List Cond := .code yX0_placeOf cX0_placeOf 3 (some .int) :: ([.fieldLink RX0 29 "KeyStates$Entry" "members" "[J", .static yX3_countBelow, .initialized RX3, .code yX3_countBelow cX3_countBelow 5 (some .int)] ++ wsX00)
def wsX0_hasMember : List Cond := .code yX0_hasMember cX0_hasMember 4 (some .boolean) :: ([.fieldLink RX0 29 "KeyStates$Entry" "members" "[J"] ++ wsX00)
def wsX0_withNothing : List Cond := .code yX0_withNothing cX0_withNothing 1 (some (.object "KeyStates$Entry")) :: ([.classLink RX0 10 RX0, .instantiable RX0 6, .initialized RX0, .methodLink RX0 39 yX0_init_, .instanceMethod yX0_init_, .code yX0_init_ cX0_init_ 5 none, .methodLink RX0 3 objectInit, .instanceMethod objectInit, .code objectInit ⟨#[0xb1]⟩ 1 none, .fieldLink RX0 9 "KeyStates$Entry" "state" "I", .fieldLink RX0 15 "KeyStates$Entry" "key" "J", .fieldLink RX0 19 "KeyStates$Entry" "span" "I", .fieldLink RX0 26 "KeyStates$Entry" "numbers" "[J", .fieldLink RX0 29 "KeyStates$Entry" "members" "[J", .fieldLink RX0 32 "KeyStates$Entry" "folded" "I"] ++ wsX00)
def wsX0_withOnly : List Cond := .code yX0_withOnly cX0_withOnly 3 (some (.object "KeyStates$Entry")) :: ([.classLink RX0 10 RX0, .instantiable RX0 6, .initialized RX0, .arrayClass .long, .methodLink RX0 39 yX0_init_, .instanceMethod yX0_init_, .code yX0_init_ cX0_init_ 5 none, .methodLink RX0 3 objectInit, .instanceMethod objectInit, .code objectInit ⟨#[0xb1]⟩ 1 none, .fieldLink RX0 9 "KeyStates$Entry" "state" "I", .fieldLink RX0 15 "KeyStates$Entry" "key" "J", .fieldLink RX0 19 "KeyStates$Entry" "span" "I", .fieldLink RX0 26 "KeyStates$Entry" "numbers" "[J", .fieldLink RX0 29 "KeyStates$Entry" "members" "[J", .fieldLink RX0 32 "KeyStates$Entry" "folded" "I"] ++ wsX00)
def wsX0_inserted : List Cond := .code yX0_inserted cX0_inserted 5 (some (.array .long)) :: ([.arrayClass .long, .methodLink RX0 71 arraycopyName, .native arraycopyName, .static arraycopyName, .initialized "java/lang/System"])
def wsX0_withOneMore : List Cond := .code yX0_withOneMore cX0_withOneMore 3 (some (.object "KeyStates$Entry")) :: ([.classLink RX0 10 RX0, .instantiable RX0 6, .initialized RX0, .fieldLink RX0 26 "KeyStates$Entry" "numbers" "[J", .methodLink RX0 42 yX0_inserted, .static yX0_inserted, .code yX0_inserted cX0_inserted 5 (some (.array .long)), .arrayClass .long, .methodLink RX0 71 arraycopyName, .native arraycopyName, .static arraycopyName, .initialized "java/lang/System", .methodLink RX0 39 yX0_init_, .instanceMethod yX0_init_, .code yX0_init_ cX0_init_ 5 none, .methodLink RX0 3 objectInit, .instanceMethod objectInit, .code objectInit ⟨#[0xb1]⟩ 1 none, .fieldLink RX0 9 "KeyStates$Entry" "state" "I", .fieldLink RX0 15 "KeyStates$Entry" "key" "J", .fieldLink RX0 19 "KeyStates$Entry" "span" "I", .fieldLink RX0 29 "KeyStates$Entry" "members" "[J", .fieldLink RX0 32 "KeyStates$Entry" "folded" "I"] ++ wsX00)
def wsJ7_copyOf_c38d5 : List Cond := .code yJ7_copyOf_c38d5 cJ7_copyOf_c38d5 3 (some (.array .long)) :: ([.methodLink RJ7 319 ⟨"[J", "clone", "()Ljava/lang/Object;"⟩, .sameMethod "[J" "java/lang/Object" "clone" "()Ljava/lang/Object;", .native ⟨"java/lang/Object", "clone", "()Ljava/lang/Object;"⟩, .instanceMethod ⟨"java/lang/Object", "clone", "()Ljava/lang/Object;"⟩, .selects "[J" ⟨"[J", "clone", "()Ljava/lang/Object;"⟩ ⟨"java/lang/Object", "clone", "()Ljava/lang/Object;"⟩, .classLink RJ7 320 "[J", .arrayClass .long, .methodLink RJ7 304 Lib.Math.min.name, .static Lib.Math.min.name, .initialized "java/lang/Math", .code Lib.Math.min.name Lib.Math.min.code 2 (some .int), .methodLink RJ7 150 arraycopyName, .native arraycopyName, .static arraycopyName, .initialized "java/lang/System"])
def wsX0_withNumberAt_r1 : List Cond := [Cond.fieldLink RX0 26 "KeyStates$Entry" "numbers" "[J", Cond.classLink RX0 10 RX0, Cond.instantiable RX0 6, Cond.initialized RX0, Cond.fieldLink RX0 29 "KeyStates$Entry" "members" "[J", Cond.methodLink RX0 46 yJ7_copyOf_c38d5, Cond.static yJ7_copyOf_c38d5, Cond.initialized RJ7, Cond.code yJ7_copyOf_c38d5 cJ7_copyOf_c38d5 3 (some (.array .long)), Cond.methodLink RJ7 319 ⟨"[J", "clone", "()Ljava/lang/Object;"⟩, Cond.sameMethod "[J" "java/lang/Object" "clone" "()Ljava/lang/Object;", Cond.native ⟨"java/lang/Object", "clone", "()Ljava/lang/Object;"⟩, Cond.instanceMethod ⟨"java/lang/Object", "clone", "()Ljava/lang/Object;"⟩, Cond.selects "[J" ⟨"[J", "clone", "()Ljava/lang/Object;"⟩ ⟨"java/lang/Object", "clone", "()Ljava/lang/Object;"⟩, Cond.classLink RJ7 320 "[J", Cond.arrayClass .long, Cond.methodLink RJ7 304 Lib.Math.min.name, Cond.static Lib.Math.min.name, Cond.initialized "java/lang/Math", Cond.code Lib.Math.min.name Lib.Math.min.code 2 (some .int), Cond.methodLink RJ7 150 arraycopyName, Cond.native arraycopyName, Cond.static arraycopyName, Cond.initialized "java/lang/System"]
def wsX0_withNumberAt_r2 : List Cond := [Cond.methodLink RX0 39 yX0_init_, Cond.instanceMethod yX0_init_, Cond.code yX0_init_ cX0_init_ 5 none, Cond.methodLink RX0 3 objectInit, Cond.instanceMethod objectInit, Cond.code objectInit ⟨#[0xb1]⟩ 1 none, Cond.fieldLink RX0 9 "KeyStates$Entry" "state" "I", Cond.fieldLink RX0 15 "KeyStates$Entry" "key" "J", Cond.fieldLink RX0 19 "KeyStates$Entry" "span" "I", Cond.fieldLink RX0 32 "KeyStates$Entry" "folded" "I"]
def wsX0_withNumberAt : List Cond := .code yX0_withNumberAt cX0_withNumberAt 5 (some (.object "KeyStates$Entry")) :: ((wsX0_withNumberAt_r1 ++ wsX0_withNumberAt_r2) ++ wsX00)
def wsX0_withMember : List Cond := .code yX0_withMember cX0_withMember 6 (some (.object "KeyStates$Entry")) :: ([.classLink RX0 10 RX0, .instantiable RX0 6, .initialized RX0, .fieldLink RX0 26 "KeyStates$Entry" "numbers" "[J", .fieldLink RX0 29 "KeyStates$Entry" "members" "[J", .methodLink RX0 42 yX0_inserted, .static yX0_inserted, .code yX0_inserted cX0_inserted 5 (some (.array .long)), .arrayClass .long, .methodLink RX0 71 arraycopyName, .native arraycopyName, .static arraycopyName, .initialized "java/lang/System", .methodLink RX0 39 yX0_init_, .instanceMethod yX0_init_, .code yX0_init_ cX0_init_ 5 none, .methodLink RX0 3 objectInit, .instanceMethod objectInit, .code objectInit ⟨#[0xb1]⟩ 1 none, .fieldLink RX0 9 "KeyStates$Entry" "state" "I", .fieldLink RX0 15 "KeyStates$Entry" "key" "J", .fieldLink RX0 19 "KeyStates$Entry" "span" "I", .fieldLink RX0 32 "KeyStates$Entry" "folded" "I"] ++ wsX00)
def wsX0_without : List Cond := .code yX0_without cX0_without 3 (some (.array .long)) :: ([.arrayClass .long, .methodLink RX0 71 arraycopyName, .native arraycopyName, .static arraycopyName, .initialized "java/lang/System"])
def wsX0_withoutMember : List Cond := .code yX0_withoutMember cX0_withoutMember 2 (some (.object "KeyStates$Entry")) :: ([.classLink RX0 10 RX0, .instantiable RX0 6, .initialized RX0, .fieldLink RX0 26 "KeyStates$Entry" "numbers" "[J", .fieldLink RX0 29 "KeyStates$Entry" "members" "[J", .methodLink RX0 52 yX0_without, .static yX0_without, .code yX0_without cX0_without 3 (some (.array .long)), .arrayClass .long, .methodLink RX0 71 arraycopyName, .native arraycopyName, .static arraycopyName, .initialized "java/lang/System", .methodLink RX0 39 yX0_init_, .instanceMethod yX0_init_, .code yX0_init_ cX0_init_ 5 none, .methodLink RX0 3 objectInit, .instanceMethod objectInit, .code objectInit ⟨#[0xb1]⟩ 1 none, .fieldLink RX0 9 "KeyStates$Entry" "state" "I", .fieldLink RX0 15 "KeyStates$Entry" "key" "J", .fieldLink RX0 19 "KeyStates$Entry" "span" "I", .fieldLink RX0 32 "KeyStates$Entry" "folded" "I"] ++ wsX00)
def wsX3_joined : List Cond := .code yX3_joined cX3_joined 5 (some .long) :: ([.methodLink RX3 292 Lib.MathLoose.min_long.x, .static Lib.MathLoose.min_long.x, .initialized "java/lang/Math", .code Lib.MathLoose.min_long.x Lib.MathLoose.min_long.code 4 (some .long), .methodLink RX3 298 Lib.MathLoose.max_long.x, .static Lib.MathLoose.max_long.x, .code Lib.MathLoose.max_long.x Lib.MathLoose.max_long.code 4 (some .long)])
def wsX0_withFolded_r1 : List Cond := [Cond.fieldLink RX0 26 "KeyStates$Entry" "numbers" "[J", Cond.classLink RX0 10 RX0, Cond.instantiable RX0 6, Cond.initialized RX0, Cond.arrayClass .long, Cond.fieldLink RX0 32 "KeyStates$Entry" "folded" "I", Cond.methodLink RX0 55 yX0_isNone, Cond.instanceMethod yX0_isNone, Cond.selects RX0 yX0_isNone yX0_isNone, Cond.code yX0_isNone cX0_isNone 1 (some .boolean), Cond.static yX3_joined, Cond.initialized RX3, Cond.code yX3_joined cX3_joined 5 (some .long), Cond.methodLink RX3 292 Lib.MathLoose.min_long.x, Cond.static Lib.MathLoose.min_long.x, Cond.initialized "java/lang/Math", Cond.code Lib.MathLoose.min_long.x Lib.MathLoose.min_long.code 4 (some .long), Cond.methodLink RX3 298 Lib.MathLoose.max_long.x, Cond.static Lib.MathLoose.max_long.x, Cond.code Lib.MathLoose.max_long.x Lib.MathLoose.max_long.code 4 (some .long), Cond.methodLink RX0 39 yX0_init_, Cond.instanceMethod yX0_init_, Cond.code yX0_init_ cX0_init_ 5 none, Cond.methodLink RX0 3 objectInit]
def wsX0_withFolded_r2 : List Cond := [Cond.instanceMethod objectInit, Cond.code objectInit ⟨#[0xb1]⟩ 1 none, Cond.fieldLink RX0 9 "KeyStates$Entry" "state" "I", Cond.fieldLink RX0 15 "KeyStates$Entry" "key" "J", Cond.fieldLink RX0 19 "KeyStates$Entry" "span" "I", Cond.fieldLink RX0 29 "KeyStates$Entry" "members" "[J"]
def wsX0_withFolded : List Cond := .code yX0_withFolded cX0_withFolded 6 (some (.object "KeyStates$Entry")) :: ((wsX0_withFolded_r1 ++ wsX0_withFolded_r2) ++ wsX00)
def wsX3_fits : List Cond := .code yX3_fits cX3_fits 4 (some .boolean) :: ([.constantLong RX3 286 (-1000), .constantLong RX3 288 (1000)])
def wsX0_allFit : List Cond := .code yX0_allFit cX0_allFit 4 (some .boolean) :: ([.fieldLink RX0 26 "KeyStates$Entry" "numbers" "[J", .static yX3_fits, .initialized RX3, .code yX3_fits cX3_fits 4 (some .boolean), .constantLong RX3 286 (-1000), .constantLong RX3 288 (1000)] ++ wsX00)
def wsX0_foldedUp_r1 : List Cond := [Cond.fieldLink RX0 26 "KeyStates$Entry" "numbers" "[J", Cond.classLink RX0 10 RX0, Cond.instantiable RX0 6, Cond.initialized RX0, Cond.arrayClass .long, Cond.methodLink RX0 55 yX0_isNone, Cond.instanceMethod yX0_isNone, Cond.selects RX0 yX0_isNone yX0_isNone, Cond.code yX0_isNone cX0_isNone 1 (some .boolean), Cond.static yX3_joined, Cond.initialized RX3, Cond.code yX3_joined cX3_joined 5 (some .long), Cond.methodLink RX3 292 Lib.MathLoose.min_long.x, Cond.static Lib.MathLoose.min_long.x, Cond.initialized "java/lang/Math", Cond.code Lib.MathLoose.min_long.x Lib.MathLoose.min_long.code 4 (some .long), Cond.methodLink RX3 298 Lib.MathLoose.max_long.x, Cond.static Lib.MathLoose.max_long.x, Cond.code Lib.MathLoose.max_long.x Lib.MathLoose.max_long.code 4 (some .long), Cond.methodLink RX0 39 yX0_init_, Cond.instanceMethod yX0_init_, Cond.code yX0_init_ cX0_init_ 5 none, Cond.methodLink RX0 3 objectInit, Cond.instanceMethod objectInit]
def wsX0_foldedUp_r2 : List Cond := [Cond.code objectInit ⟨#[0xb1]⟩ 1 none, Cond.fieldLink RX0 9 "KeyStates$Entry" "state" "I", Cond.fieldLink RX0 15 "KeyStates$Entry" "key" "J", Cond.fieldLink RX0 19 "KeyStates$Entry" "span" "I", Cond.fieldLink RX0 29 "KeyStates$Entry" "members" "[J", Cond.fieldLink RX0 32 "KeyStates$Entry" "folded" "I"]
def wsX0_foldedUp : List Cond := .code yX0_foldedUp cX0_foldedUp 5 (some (.object "KeyStates$Entry")) :: ((wsX0_foldedUp_r1 ++ wsX0_foldedUp_r2) ++ wsX00)
def wsX0_movedTo_r1 : List Cond := [Cond.fieldLink RX0 29 "KeyStates$Entry" "members" "[J", Cond.fieldLink RX0 32 "KeyStates$Entry" "folded" "I", Cond.classLink RX0 10 RX0, Cond.instantiable RX0 6, Cond.initialized RX0, Cond.fieldLink RX0 26 "KeyStates$Entry" "numbers" "[J", Cond.methodLink RX0 67 yX0_foldedUp, Cond.instanceMethod yX0_foldedUp, Cond.selects RX0 yX0_foldedUp yX0_foldedUp, Cond.code yX0_foldedUp cX0_foldedUp 5 (some (.object "KeyStates$Entry")), Cond.arrayClass .long, Cond.methodLink RX0 55 yX0_isNone, Cond.instanceMethod yX0_isNone, Cond.selects RX0 yX0_isNone yX0_isNone, Cond.code yX0_isNone cX0_isNone 1 (some .boolean), Cond.static yX3_joined, Cond.initialized RX3, Cond.code yX3_joined cX3_joined 5 (some .long), Cond.methodLink RX3 292 Lib.MathLoose.min_long.x, Cond.static Lib.MathLoose.min_long.x, Cond.initialized "java/lang/Math", Cond.code Lib.MathLoose.min_long.x Lib.MathLoose.min_long.code 4 (some .long), Cond.methodLink RX3 298 Lib.MathLoose.max_long.x, Cond.static Lib.MathLoose.max_long.x]
def wsX0_movedTo_r2 : List Cond := [Cond.code Lib.MathLoose.max_long.x Lib.MathLoose.max_long.code 4 (some .long), Cond.methodLink RX0 39 yX0_init_, Cond.instanceMethod yX0_init_, Cond.code yX0_init_ cX0_init_ 5 none, Cond.methodLink RX0 3 objectInit, Cond.instanceMethod objectInit, Cond.code objectInit ⟨#[0xb1]⟩ 1 none, Cond.fieldLink RX0 9 "KeyStates$Entry" "state" "I", Cond.fieldLink RX0 15 "KeyStates$Entry" "key" "J", Cond.fieldLink RX0 19 "KeyStates$Entry" "span" "I"]
def wsX0_movedTo : List Cond := .code yX0_movedTo cX0_movedTo 3 (some (.object "KeyStates$Entry")) :: ((wsX0_movedTo_r1 ++ wsX0_movedTo_r2) ++ wsX00)
def wsX1_init : List Cond := .code yX1_init cX1_init 1 none :: ([.methodLink RX1 3 objectInit, .instanceMethod objectInit, .code objectInit ⟨#[0xb1]⟩ 1 none, .classLink RX1 9 RX0, .fieldLink RX1 11 "KeyStates$Page" "rows" "[LKeyStates$Entry;", .fieldLink RX1 17 "KeyStates$Page" "holders" "I"] ++ wsX10)
def wsX1_isShared : List Cond := .code yX1_isShared cX1_isShared 1 (some .boolean) :: ([.fieldLink RX1 17 "KeyStates$Page" "holders" "I"] ++ wsX10)
def wsX1_copied : List Cond := .code yX1_copied cX1_copied 2 (some (.object "KeyStates$Page")) :: ([.classLink RX1 12 RX1, .instantiable RX1 2, .initialized RX1, .fieldLink RX1 11 "KeyStates$Page" "rows" "[LKeyStates$Entry;", .methodLink RX1 22 ⟨"[LKeyStates$Entry;", "clone", "()Ljava/lang/Object;"⟩, .sameMethod "[LKeyStates$Entry;" "java/lang/Object" "clone" "()Ljava/lang/Object;", .native ⟨"java/lang/Object", "clone", "()Ljava/lang/Object;"⟩, .instanceMethod ⟨"java/lang/Object", "clone", "()Ljava/lang/Object;"⟩, .selects "[LKeyStates$Entry;" ⟨"[LKeyStates$Entry;", "clone", "()Ljava/lang/Object;"⟩ ⟨"java/lang/Object", "clone", "()Ljava/lang/Object;"⟩, .classLink RX1 23 "[LKeyStates$Entry;", .methodLink RX1 21 yX1_init, .instanceMethod yX1_init, .code yX1_init cX1_init 1 none, .methodLink RX1 3 objectInit, .instanceMethod objectInit, .code objectInit ⟨#[0xb1]⟩ 1 none, .classLink RX1 9 RX0, .fieldLink RX1 17 "KeyStates$Page" "holders" "I"] ++ wsX10)
def wsX1_rowOf : List Cond := .code yX1_rowOf cX1_rowOf 6 (some .int) :: ([.fieldLink RX1 11 "KeyStates$Page" "rows" "[LKeyStates$Entry;", .methodLink RX1 27 yX0_isAt, .instanceMethod yX0_isAt, .selects RX0 yX0_isAt yX0_isAt, .initialized RX0, .code yX0_isAt cX0_isAt 5 (some .boolean), .fieldLink RX0 9 "KeyStates$Entry" "state" "I", .fieldLink RX0 15 "KeyStates$Entry" "key" "J", .fieldLink RX0 19 "KeyStates$Entry" "span" "I"] ++ wsX10 ++ wsX00)
def wsX1_freeRow : List Cond := .code yX1_freeRow cX1_freeRow 4 (some .int) :: ([.fieldLink RX1 11 "KeyStates$Page" "rows" "[LKeyStates$Entry;", .classLink RX1 9 RX0] ++ wsX10)
def wsX1_keepEntry_r1 : List Cond := [Cond.fieldLink RX1 31 "KeyStates$Entry" "state" "I", Cond.fieldLink RX1 34 "KeyStates$Entry" "key" "J", Cond.fieldLink RX1 38 "KeyStates$Entry" "span" "I", Cond.fieldLink RX1 11 "KeyStates$Page" "rows" "[LKeyStates$Entry;", Cond.methodLink RX1 41 yX1_rowOf, Cond.instanceMethod yX1_rowOf, Cond.selects RX1 yX1_rowOf yX1_rowOf, Cond.initialized RX1, Cond.code yX1_rowOf cX1_rowOf 6 (some .int), Cond.methodLink RX1 27 yX0_isAt, Cond.instanceMethod yX0_isAt, Cond.selects RX0 yX0_isAt yX0_isAt, Cond.initialized RX0, Cond.code yX0_isAt cX0_isAt 5 (some .boolean), Cond.fieldLink RX0 9 "KeyStates$Entry" "state" "I", Cond.fieldLink RX0 15 "KeyStates$Entry" "key" "J", Cond.fieldLink RX0 19 "KeyStates$Entry" "span" "I", Cond.methodLink RX1 45 yX1_freeRow, Cond.instanceMethod yX1_freeRow, Cond.selects RX1 yX1_freeRow yX1_freeRow, Cond.code yX1_freeRow cX1_freeRow 4 (some .int), Cond.classLink RX1 9 RX0, Cond.methodLink RX1 49 yX0_isNone, Cond.instanceMethod yX0_isNone]
def wsX1_keepEntry_r2 : List Cond := [Cond.selects RX0 yX0_isNone yX0_isNone, Cond.code yX0_isNone cX0_isNone 1 (some .boolean), Cond.fieldLink RX0 26 "KeyStates$Entry" "numbers" "[J"]
def wsX1_keepEntry : List Cond := .code yX1_keepEntry cX1_keepEntry 3 none :: ((wsX1_keepEntry_r1 ++ wsX1_keepEntry_r2) ++ wsX00 ++ wsX10)
def wsX1_hasSpan : List Cond := .code yX1_hasSpan cX1_hasSpan 3 (some .boolean) :: ([.fieldLink RX1 11 "KeyStates$Page" "rows" "[LKeyStates$Entry;", .fieldLink RX1 38 "KeyStates$Entry" "span" "I"] ++ wsX10 ++ wsX00)
def wsX1_loseSpan : List Cond := .code yX1_loseSpan cX1_loseSpan 4 (some .int) :: ([.fieldLink RX1 11 "KeyStates$Page" "rows" "[LKeyStates$Entry;", .fieldLink RX1 38 "KeyStates$Entry" "span" "I"] ++ wsX10 ++ wsX00)
def wsX1_allFit : List Cond := .code yX1_allFit cX1_allFit 5 (some .boolean) :: ([.fieldLink RX1 11 "KeyStates$Page" "rows" "[LKeyStates$Entry;", .fieldLink RX1 31 "KeyStates$Entry" "state" "I", .methodLink RX1 53 yX0_allFit, .instanceMethod yX0_allFit, .selects RX0 yX0_allFit yX0_allFit, .initialized RX0, .code yX0_allFit cX0_allFit 4 (some .boolean), .fieldLink RX0 26 "KeyStates$Entry" "numbers" "[J", .static yX3_fits, .initialized RX3, .code yX3_fits cX3_fits 4 (some .boolean), .constantLong RX3 286 (-1000), .constantLong RX3 288 (1000)] ++ wsX10 ++ wsX00)
def wsX1_moveEntries_r1 : List Cond := [Cond.fieldLink RX1 11 "KeyStates$Page" "rows" "[LKeyStates$Entry;", Cond.fieldLink RX1 31 "KeyStates$Entry" "state" "I", Cond.methodLink RX1 57 yX0_movedTo, Cond.instanceMethod yX0_movedTo, Cond.selects RX0 yX0_movedTo yX0_movedTo, Cond.initialized RX0, Cond.code yX0_movedTo cX0_movedTo 3 (some (.object "KeyStates$Entry")), Cond.fieldLink RX0 29 "KeyStates$Entry" "members" "[J", Cond.fieldLink RX0 32 "KeyStates$Entry" "folded" "I", Cond.classLink RX0 10 RX0, Cond.instantiable RX0 6, Cond.fieldLink RX0 26 "KeyStates$Entry" "numbers" "[J", Cond.methodLink RX0 67 yX0_foldedUp, Cond.instanceMethod yX0_foldedUp, Cond.selects RX0 yX0_foldedUp yX0_foldedUp, Cond.code yX0_foldedUp cX0_foldedUp 5 (some (.object "KeyStates$Entry")), Cond.arrayClass .long, Cond.methodLink RX0 55 yX0_isNone, Cond.instanceMethod yX0_isNone, Cond.selects RX0 yX0_isNone yX0_isNone, Cond.code yX0_isNone cX0_isNone 1 (some .boolean), Cond.static yX3_joined, Cond.initialized RX3, Cond.code yX3_joined cX3_joined 5 (some .long)]
def wsX1_moveEntries_r2 : List Cond := [Cond.methodLink RX3 292 Lib.MathLoose.min_long.x, Cond.static Lib.MathLoose.min_long.x, Cond.initialized "java/lang/Math", Cond.code Lib.MathLoose.min_long.x Lib.MathLoose.min_long.code 4 (some .long), Cond.methodLink RX3 298 Lib.MathLoose.max_long.x, Cond.static Lib.MathLoose.max_long.x, Cond.code Lib.MathLoose.max_long.x Lib.MathLoose.max_long.code 4 (some .long), Cond.methodLink RX0 39 yX0_init_, Cond.instanceMethod yX0_init_, Cond.code yX0_init_ cX0_init_ 5 none, Cond.methodLink RX0 3 objectInit, Cond.instanceMethod objectInit, Cond.code objectInit ⟨#[0xb1]⟩ 1 none, Cond.fieldLink RX0 9 "KeyStates$Entry" "state" "I", Cond.fieldLink RX0 15 "KeyStates$Entry" "key" "J", Cond.fieldLink RX0 19 "KeyStates$Entry" "span" "I"]
def wsX1_moveEntries : List Cond := .code yX1_moveEntries cX1_moveEntries 6 (some .int) :: ((wsX1_moveEntries_r1 ++ wsX1_moveEntries_r2) ++ wsX10 ++ wsX00)
def wsX1_sortKeysInto : List Cond := .code yX1_sortKeysInto cX1_sortKeysInto 8 (some .int) :: ([.fieldLink RX1 11 "KeyStates$Page" "rows" "[LKeyStates$Entry;", .fieldLink RX1 31 "KeyStates$Entry" "state" "I", .fieldLink RX1 38 "KeyStates$Entry" "span" "I", .fieldLink RX1 34 "KeyStates$Entry" "key" "J", .methodLink RX1 65 arraycopyName, .native arraycopyName, .static arraycopyName, .initialized "java/lang/System", .static yX3_countBelow, .initialized RX3, .code yX3_countBelow cX3_countBelow 5 (some .int)] ++ wsX10 ++ wsX00)
def wsX1_countEntries : List Cond := .code yX1_countEntries cX1_countEntries 3 (some .int) :: ([.fieldLink RX1 11 "KeyStates$Page" "rows" "[LKeyStates$Entry;"] ++ wsX10)
def wsX1_countEntriesOf : List Cond := .code yX1_countEntriesOf cX1_countEntriesOf 4 (some .int) :: ([.fieldLink RX1 11 "KeyStates$Page" "rows" "[LKeyStates$Entry;", .fieldLink RX1 31 "KeyStates$Entry" "state" "I"] ++ wsX10 ++ wsX00)
def wsX1_countNumbers : List Cond := .code yX1_countNumbers cX1_countNumbers 3 (some .int) :: ([.fieldLink RX1 11 "KeyStates$Page" "rows" "[LKeyStates$Entry;", .fieldLink RX1 71 "KeyStates$Entry" "numbers" "[J"] ++ wsX10 ++ wsX00)
def wsX2_init : List Cond := .code yX2_init cX2_init 2 none :: ([.methodLink RX2 3 objectInit, .instanceMethod objectInit, .code objectInit ⟨#[0xb1]⟩ 1 none, .classLink RX2 9 RX1, .fieldLink RX2 11 "KeyStates$Picture" "pages" "[LKeyStates$Page;", .arrayClass .int, .fieldLink RX2 17 "KeyStates$Picture" "kinds" "[I", .fieldLink RX2 21 "KeyStates$Picture" "types" "[I", .fieldLink RX2 24 "KeyStates$Picture" "stateCount" "I", .fieldLink RX2 28 "KeyStates$Picture" "number" "I", .instantiable RX1 2, .initialized RX1, .instanceMethod yX1_init, .code yX1_init cX1_init 1 none, .methodLink RX1 3 objectInit, .classLink RX1 9 RX0, .fieldLink RX1 11 "KeyStates$Page" "rows" "[LKeyStates$Entry;", .fieldLink RX1 17 "KeyStates$Page" "holders" "I"] ++ wsX20 ++ wsX10)
def wsX2_init_ : List Cond := .code yX2_init_ cX2_init_ 4 none :: ([.methodLink RX2 3 objectInit, .instanceMethod objectInit, .code objectInit ⟨#[0xb1]⟩ 1 none, .classLink RX2 9 RX1, .fieldLink RX2 11 "KeyStates$Picture" "pages" "[LKeyStates$Page;", .arrayClass .int, .fieldLink RX2 17 "KeyStates$Picture" "kinds" "[I", .fieldLink RX2 21 "KeyStates$Picture" "types" "[I", .fieldLink RX2 24 "KeyStates$Picture" "stateCount" "I", .fieldLink RX2 28 "KeyStates$Picture" "number" "I"] ++ wsX20)
def wsX2_tellState : List Cond := .code yX2_tellState cX2_tellState 4 (some .int) :: ([.fieldLink RX2 24 "KeyStates$Picture" "stateCount" "I", .fieldLink RX2 17 "KeyStates$Picture" "kinds" "[I", .fieldLink RX2 21 "KeyStates$Picture" "types" "[I"] ++ wsX20)
def wsX2_taken : List Cond := .code yX2_taken cX2_taken 4 (some (.object "KeyStates$Picture")) :: ([.classLink RX2 12 RX2, .instantiable RX2 5, .initialized RX2, .fieldLink RX2 11 "KeyStates$Picture" "pages" "[LKeyStates$Page;", .fieldLink RX2 35 "KeyStates$Page" "holders" "I", .methodLink RX2 32 yX2_init_, .instanceMethod yX2_init_, .code yX2_init_ cX2_init_ 4 none, .methodLink RX2 3 objectInit, .instanceMethod objectInit, .code objectInit ⟨#[0xb1]⟩ 1 none, .classLink RX2 9 RX1, .arrayClass .int, .fieldLink RX2 17 "KeyStates$Picture" "kinds" "[I", .fieldLink RX2 21 "KeyStates$Picture" "types" "[I", .fieldLink RX2 24 "KeyStates$Picture" "stateCount" "I", .fieldLink RX2 28 "KeyStates$Picture" "number" "I"] ++ wsX20 ++ wsX10)
def wsX2_releasePages : List Cond := .code yX2_releasePages cX2_releasePages 2 none :: ([.fieldLink RX2 11 "KeyStates$Picture" "pages" "[LKeyStates$Page;", .fieldLink RX2 35 "KeyStates$Page" "holders" "I"] ++ wsX20 ++ wsX10)
def wsX2_becomeLike : List Cond := .code yX2_becomeLike cX2_becomeLike 3 none :: ([.fieldLink RX2 11 "KeyStates$Picture" "pages" "[LKeyStates$Page;", .fieldLink RX2 24 "KeyStates$Picture" "stateCount" "I", .fieldLink RX2 17 "KeyStates$Picture" "kinds" "[I", .fieldLink RX2 21 "KeyStates$Picture" "types" "[I"] ++ wsX20)
def wsX3_pageNumber : List Cond := .code yX3_pageNumber cX3_pageNumber 5 (some .int) :: ([])
def wsX2_entryOf_r1 : List Cond := [Cond.fieldLink RX2 11 "KeyStates$Picture" "pages" "[LKeyStates$Page;", Cond.classLink RX2 45 RX0, Cond.instantiable RX0 6, Cond.initialized RX0, Cond.fieldLink RX2 50 "KeyStates$Page" "rows" "[LKeyStates$Entry;", Cond.static yX3_pageNumber, Cond.initialized RX3, Cond.code yX3_pageNumber cX3_pageNumber 5 (some .int), Cond.methodLink RX2 42 yX1_rowOf, Cond.instanceMethod yX1_rowOf, Cond.selects RX1 yX1_rowOf yX1_rowOf, Cond.initialized RX1, Cond.code yX1_rowOf cX1_rowOf 6 (some .int), Cond.fieldLink RX1 11 "KeyStates$Page" "rows" "[LKeyStates$Entry;", Cond.methodLink RX1 27 yX0_isAt, Cond.instanceMethod yX0_isAt, Cond.selects RX0 yX0_isAt yX0_isAt, Cond.code yX0_isAt cX0_isAt 5 (some .boolean), Cond.fieldLink RX0 9 "KeyStates$Entry" "state" "I", Cond.fieldLink RX0 15 "KeyStates$Entry" "key" "J", Cond.fieldLink RX0 19 "KeyStates$Entry" "span" "I", Cond.methodLink RX2 47 yX0_init, Cond.instanceMethod yX0_init, Cond.code yX0_init cX0_init 5 none]
def wsX2_entryOf_r2 : List Cond := [Cond.methodLink RX0 3 objectInit, Cond.instanceMethod objectInit, Cond.code objectInit ⟨#[0xb1]⟩ 1 none, Cond.fieldLink RX0 26 "KeyStates$Entry" "numbers" "[J", Cond.fieldLink RX0 29 "KeyStates$Entry" "members" "[J", Cond.fieldLink RX0 32 "KeyStates$Entry" "folded" "I"]
def wsX2_entryOf : List Cond := .code yX2_entryOf cX2_entryOf 7 (some (.object "KeyStates$Entry")) :: ((wsX2_entryOf_r1 ++ wsX2_entryOf_r2) ++ wsX20 ++ wsX00 ++ wsX10)
def wsX2_allFit : List Cond := .code yX2_allFit cX2_allFit 5 (some .boolean) :: ([.fieldLink RX2 11 "KeyStates$Picture" "pages" "[LKeyStates$Page;", .methodLink RX2 54 yX1_allFit, .instanceMethod yX1_allFit, .selects RX1 yX1_allFit yX1_allFit, .initialized RX1, .code yX1_allFit cX1_allFit 5 (some .boolean), .fieldLink RX1 11 "KeyStates$Page" "rows" "[LKeyStates$Entry;", .fieldLink RX1 31 "KeyStates$Entry" "state" "I", .methodLink RX1 53 yX0_allFit, .instanceMethod yX0_allFit, .selects RX0 yX0_allFit yX0_allFit, .initialized RX0, .code yX0_allFit cX0_allFit 4 (some .boolean), .fieldLink RX0 26 "KeyStates$Entry" "numbers" "[J", .static yX3_fits, .initialized RX3, .code yX3_fits cX3_fits 4 (some .boolean), .constantLong RX3 286 (-1000), .constantLong RX3 288 (1000)] ++ wsX20 ++ wsX10 ++ wsX00)
def wsX2_countEntries : List Cond := .code yX2_countEntries cX2_countEntries 3 (some .int) :: ([.fieldLink RX2 11 "KeyStates$Picture" "pages" "[LKeyStates$Page;", .methodLink RX2 58 yX1_countEntries, .instanceMethod yX1_countEntries, .selects RX1 yX1_countEntries yX1_countEntries, .initialized RX1, .code yX1_countEntries cX1_countEntries 3 (some .int), .fieldLink RX1 11 "KeyStates$Page" "rows" "[LKeyStates$Entry;"] ++ wsX20 ++ wsX10)
def wsX2_countEntriesOf : List Cond := .code yX2_countEntriesOf cX2_countEntriesOf 4 (some .int) :: ([.fieldLink RX2 11 "KeyStates$Picture" "pages" "[LKeyStates$Page;", .methodLink RX2 62 yX1_countEntriesOf, .instanceMethod yX1_countEntriesOf, .selects RX1 yX1_countEntriesOf yX1_countEntriesOf, .initialized RX1, .code yX1_countEntriesOf cX1_countEntriesOf 4 (some .int), .fieldLink RX1 11 "KeyStates$Page" "rows" "[LKeyStates$Entry;", .fieldLink RX1 31 "KeyStates$Entry" "state" "I"] ++ wsX20 ++ wsX10 ++ wsX00)
def wsX2_countNumbers : List Cond := .code yX2_countNumbers cX2_countNumbers 3 (some .int) :: ([.fieldLink RX2 11 "KeyStates$Picture" "pages" "[LKeyStates$Page;", .methodLink RX2 66 yX1_countNumbers, .instanceMethod yX1_countNumbers, .selects RX1 yX1_countNumbers yX1_countNumbers, .initialized RX1, .code yX1_countNumbers cX1_countNumbers 3 (some .int), .fieldLink RX1 11 "KeyStates$Page" "rows" "[LKeyStates$Entry;", .fieldLink RX1 71 "KeyStates$Entry" "numbers" "[J"] ++ wsX20 ++ wsX10 ++ wsX00)
def wsX2_countPagesInUse : List Cond := .code yX2_countPagesInUse cX2_countPagesInUse 3 (some .int) :: ([.fieldLink RX2 11 "KeyStates$Picture" "pages" "[LKeyStates$Page;", .methodLink RX2 58 yX1_countEntries, .instanceMethod yX1_countEntries, .selects RX1 yX1_countEntries yX1_countEntries, .initialized RX1, .code yX1_countEntries cX1_countEntries 3 (some .int), .fieldLink RX1 11 "KeyStates$Page" "rows" "[LKeyStates$Entry;"] ++ wsX20 ++ wsX10)
def wsX2_countShared : List Cond := .code yX2_countShared cX2_countShared 3 (some .int) :: ([.fieldLink RX2 11 "KeyStates$Picture" "pages" "[LKeyStates$Page;", .methodLink RX2 69 yX1_isShared, .instanceMethod yX1_isShared, .selects RX1 yX1_isShared yX1_isShared, .initialized RX1, .code yX1_isShared cX1_isShared 1 (some .boolean), .fieldLink RX1 17 "KeyStates$Page" "holders" "I"] ++ wsX20 ++ wsX10)
def wsX3_init_r1 : List Cond := [Cond.methodLink RX3 1 objectInit, Cond.instanceMethod objectInit, Cond.code objectInit ⟨#[0xb1]⟩ 1 none, Cond.arrayClass .int, Cond.fieldLink RX3 9 "KeyStates" "names" "[I", Cond.classLink RX3 13 RX2, Cond.instantiable RX2 5, Cond.initialized RX2, Cond.fieldLink RX3 16 "KeyStates" "now" "LKeyStates$Picture;", Cond.fieldLink RX3 20 "KeyStates" "snapshots" "[LKeyStates$Picture;", Cond.arrayClass .long, Cond.fieldLink RX3 24 "KeyStates" "risingKeys" "[J", Cond.fieldLink RX3 28 "KeyStates" "snapshotsTaken" "I", Cond.fieldLink RX3 32 "KeyStates" "pagesCopied" "I", Cond.fieldLink RX3 35 "KeyStates" "hasKey" "Z", Cond.fieldLink RX3 39 "KeyStates" "keyAtHand" "J", Cond.fieldLink RX3 43 "KeyStates" "spanAtHand" "I", Cond.methodLink RX3 15 yX2_init, Cond.instanceMethod yX2_init, Cond.code yX2_init cX2_init 2 none, Cond.methodLink RX2 3 objectInit, Cond.classLink RX2 9 RX1, Cond.fieldLink RX2 11 "KeyStates$Picture" "pages" "[LKeyStates$Page;", Cond.fieldLink RX2 17 "KeyStates$Picture" "kinds" "[I"]
def wsX3_init_r2 : List Cond := [Cond.fieldLink RX2 21 "KeyStates$Picture" "types" "[I", Cond.fieldLink RX2 24 "KeyStates$Picture" "stateCount" "I", Cond.fieldLink RX2 28 "KeyStates$Picture" "number" "I", Cond.instantiable RX1 2, Cond.initialized RX1, Cond.instanceMethod yX1_init, Cond.code yX1_init cX1_init 1 none, Cond.methodLink RX1 3 objectInit, Cond.classLink RX1 9 RX0, Cond.fieldLink RX1 11 "KeyStates$Page" "rows" "[LKeyStates$Entry;", Cond.fieldLink RX1 17 "KeyStates$Page" "holders" "I"]
def wsX3_init : List Cond := .code yX3_init cX3_init 1 none :: ((wsX3_init_r1 ++ wsX3_init_r2) ++ wsX30 ++ wsX20 ++ wsX10)
def wsX3_isKindAndType : List Cond := .code yX3_isKindAndType cX3_isKindAndType 2 (some .boolean) :: ([])
def wsX3_state : List Cond := .code yX3_state cX3_state 5 (some .int) :: ([.fieldLink RX3 16 "KeyStates" "now" "LKeyStates$Picture;", .fieldLink RX3 50 "KeyStates$Picture" "stateCount" "I", .fieldLink RX3 9 "KeyStates" "names" "[I", .fieldLink RX3 53 "KeyStates$Picture" "kinds" "[I", .fieldLink RX3 56 "KeyStates$Picture" "types" "[I", .methodLink RX3 46 yX3_isKindAndType, .static yX3_isKindAndType, .initialized RX3, .code yX3_isKindAndType cX3_isKindAndType 2 (some .boolean), .methodLink RX3 59 yX2_tellState, .instanceMethod yX2_tellState, .selects RX2 yX2_tellState yX2_tellState, .initialized RX2, .code yX2_tellState cX2_tellState 4 (some .int), .fieldLink RX2 24 "KeyStates$Picture" "stateCount" "I", .fieldLink RX2 17 "KeyStates$Picture" "kinds" "[I", .fieldLink RX2 21 "KeyStates$Picture" "types" "[I"] ++ wsX30 ++ wsX20)
def wsX3_key : List Cond := .code yX3_key cX3_key 3 none :: ([.fieldLink RX3 35 "KeyStates" "hasKey" "Z", .fieldLink RX3 39 "KeyStates" "keyAtHand" "J"] ++ wsX30)
def wsX3_leave : List Cond := .code yX3_leave cX3_leave 2 (some .boolean) :: ([.fieldLink RX3 35 "KeyStates" "hasKey" "Z"] ++ wsX30)
def wsX3_span : List Cond := .code yX3_span cX3_span 3 (some .int) :: ([.fieldLink RX3 43 "KeyStates" "spanAtHand" "I"] ++ wsX30)
def wsX3_needState : List Cond := .code yX3_needState cX3_needState 2 none :: ([.classLink RX3 172 "java/lang/IndexOutOfBoundsException", .initialized "java/lang/IndexOutOfBoundsException", .fieldLink RX3 16 "KeyStates" "now" "LKeyStates$Picture;", .fieldLink RX3 50 "KeyStates$Picture" "stateCount" "I"] ++ wsX30 ++ wsX20 ++ (vx_atS RX3 176 "java/lang/IndexOutOfBoundsException" ["java/lang/RuntimeException", "java/lang/Exception"]).filter goodWord)
def wsX3_needKey : List Cond := .code yX3_needKey cX3_needKey 1 none :: ([.classLink RX3 241 "java/lang/IllegalStateException", .initialized "java/lang/IllegalStateException", .fieldLink RX3 35 "KeyStates" "hasKey" "Z"] ++ wsX30 ++ (vx_atS RX3 245 "java/lang/IllegalStateException" ["java/lang/RuntimeException", "java/lang/Exception"]).filter goodWord)
def wsX3_needToWrite_r1 : List Cond := [Cond.classLink RX3 246 "java/lang/IllegalArgumentException", Cond.initialized "java/lang/IllegalArgumentException", Cond.fieldLink RX3 16 "KeyStates" "now" "LKeyStates$Picture;", Cond.fieldLink RX3 53 "KeyStates$Picture" "kinds" "[I", Cond.fieldLink RX3 56 "KeyStates$Picture" "types" "[I", Cond.methodLink RX3 140 yX3_needState, Cond.instanceMethod yX3_needState, Cond.selects RX3 yX3_needState yX3_needState, Cond.initialized RX3, Cond.code yX3_needState cX3_needState 2 none, Cond.classLink RX3 172 "java/lang/IndexOutOfBoundsException", Cond.initialized "java/lang/IndexOutOfBoundsException", Cond.fieldLink RX3 50 "KeyStates$Picture" "stateCount" "I", Cond.methodLink RX3 251 yX3_fits, Cond.static yX3_fits, Cond.code yX3_fits cX3_fits 4 (some .boolean), Cond.constantLong RX3 286 (-1000), Cond.constantLong RX3 288 (1000), Cond.methodLink RX3 144 yX3_needKey, Cond.instanceMethod yX3_needKey, Cond.selects RX3 yX3_needKey yX3_needKey, Cond.code yX3_needKey cX3_needKey 1 none, Cond.classLink RX3 241 "java/lang/IllegalStateException", Cond.initialized "java/lang/IllegalStateException"]
def wsX3_needToWrite_r2 : List Cond := [Cond.fieldLink RX3 35 "KeyStates" "hasKey" "Z"]
def wsX3_needToWrite : List Cond := .code yX3_needToWrite cX3_needToWrite 5 none :: ((wsX3_needToWrite_r1 ++ wsX3_needToWrite_r2) ++ wsX30 ++ wsX20 ++ (vx_atS RX3 250 "java/lang/IllegalArgumentException" ["java/lang/RuntimeException", "java/lang/Exception"]).filter goodWord ++ (vx_atS RX3 176 "java/lang/IndexOutOfBoundsException" ["java/lang/RuntimeException", "java/lang/Exception"]).filter goodWord ++ (vx_atS RX3 245 "java/lang/IllegalStateException" ["java/lang/RuntimeException", "java/lang/Exception"]).filter goodWord)
def wsX3_entryAtHand_r1 : List Cond := [Cond.fieldLink RX3 16 "KeyStates" "now" "LKeyStates$Picture;", Cond.fieldLink RX3 39 "KeyStates" "keyAtHand" "J", Cond.fieldLink RX3 43 "KeyStates" "spanAtHand" "I", Cond.methodLink RX3 200 yX2_entryOf, Cond.instanceMethod yX2_entryOf, Cond.selects RX2 yX2_entryOf yX2_entryOf, Cond.initialized RX2, Cond.code yX2_entryOf cX2_entryOf 7 (some (.object "KeyStates$Entry")), Cond.fieldLink RX2 11 "KeyStates$Picture" "pages" "[LKeyStates$Page;", Cond.classLink RX2 45 RX0, Cond.instantiable RX0 6, Cond.initialized RX0, Cond.fieldLink RX2 50 "KeyStates$Page" "rows" "[LKeyStates$Entry;", Cond.static yX3_pageNumber, Cond.initialized RX3, Cond.code yX3_pageNumber cX3_pageNumber 5 (some .int), Cond.methodLink RX2 42 yX1_rowOf, Cond.instanceMethod yX1_rowOf, Cond.selects RX1 yX1_rowOf yX1_rowOf, Cond.initialized RX1, Cond.code yX1_rowOf cX1_rowOf 6 (some .int), Cond.fieldLink RX1 11 "KeyStates$Page" "rows" "[LKeyStates$Entry;", Cond.methodLink RX1 27 yX0_isAt, Cond.instanceMethod yX0_isAt]
def wsX3_entryAtHand_r2 : List Cond := [Cond.selects RX0 yX0_isAt yX0_isAt, Cond.code yX0_isAt cX0_isAt 5 (some .boolean), Cond.fieldLink RX0 9 "KeyStates$Entry" "state" "I", Cond.fieldLink RX0 15 "KeyStates$Entry" "key" "J", Cond.fieldLink RX0 19 "KeyStates$Entry" "span" "I", Cond.methodLink RX2 47 yX0_init, Cond.instanceMethod yX0_init, Cond.code yX0_init cX0_init 5 none, Cond.methodLink RX0 3 objectInit, Cond.instanceMethod objectInit, Cond.code objectInit ⟨#[0xb1]⟩ 1 none, Cond.fieldLink RX0 26 "KeyStates$Entry" "numbers" "[J", Cond.fieldLink RX0 29 "KeyStates$Entry" "members" "[J", Cond.fieldLink RX0 32 "KeyStates$Entry" "folded" "I"]
def wsX3_entryAtHand : List Cond := .code yX3_entryAtHand cX3_entryAtHand 2 (some (.object "KeyStates$Entry")) :: ((wsX3_entryAtHand_r1 ++ wsX3_entryAtHand_r2) ++ wsX30 ++ wsX20 ++ wsX00 ++ wsX10)
def wsX3_hasNoRoomFor : List Cond := .code yX3_hasNoRoomFor cX3_hasNoRoomFor 2 (some .boolean) :: ([.fieldLink RX3 16 "KeyStates" "now" "LKeyStates$Picture;", .methodLink RX3 85 yX0_isNone, .instanceMethod yX0_isNone, .selects RX0 yX0_isNone yX0_isNone, .initialized RX0, .code yX0_isNone cX0_isNone 1 (some .boolean), .fieldLink RX0 26 "KeyStates$Entry" "numbers" "[J", .methodLink RX3 213 yX2_countEntries, .instanceMethod yX2_countEntries, .selects RX2 yX2_countEntries yX2_countEntries, .initialized RX2, .code yX2_countEntries cX2_countEntries 3 (some .int), .fieldLink RX2 11 "KeyStates$Picture" "pages" "[LKeyStates$Page;", .methodLink RX2 58 yX1_countEntries, .instanceMethod yX1_countEntries, .selects RX1 yX1_countEntries yX1_countEntries, .initialized RX1, .code yX1_countEntries cX1_countEntries 3 (some .int), .fieldLink RX1 11 "KeyStates$Page" "rows" "[LKeyStates$Entry;"] ++ wsX30 ++ wsX00 ++ wsX20 ++ wsX10)
def wsX3_pageToChange_r1 : List Cond := [Cond.fieldLink RX3 16 "KeyStates" "now" "LKeyStates$Picture;", Cond.fieldLink RX3 151 "KeyStates$Picture" "pages" "[LKeyStates$Page;", Cond.fieldLink RX3 32 "KeyStates" "pagesCopied" "I", Cond.methodLink RX3 273 yX1_isShared, Cond.instanceMethod yX1_isShared, Cond.selects RX1 yX1_isShared yX1_isShared, Cond.initialized RX1, Cond.code yX1_isShared cX1_isShared 1 (some .boolean), Cond.fieldLink RX1 17 "KeyStates$Page" "holders" "I", Cond.methodLink RX3 276 yX1_copied, Cond.instanceMethod yX1_copied, Cond.selects RX1 yX1_copied yX1_copied, Cond.code yX1_copied cX1_copied 2 (some (.object "KeyStates$Page")), Cond.classLink RX1 12 RX1, Cond.instantiable RX1 2, Cond.fieldLink RX1 11 "KeyStates$Page" "rows" "[LKeyStates$Entry;", Cond.methodLink RX1 22 ⟨"[LKeyStates$Entry;", "clone", "()Ljava/lang/Object;"⟩, Cond.sameMethod "[LKeyStates$Entry;" "java/lang/Object" "clone" "()Ljava/lang/Object;", Cond.native ⟨"java/lang/Object", "clone", "()Ljava/lang/Object;"⟩, Cond.instanceMethod ⟨"java/lang/Object", "clone", "()Ljava/lang/Object;"⟩, Cond.selects "[LKeyStates$Entry;" ⟨"[LKeyStates$Entry;", "clone", "()Ljava/lang/Object;"⟩ ⟨"java/lang/Object", "clone", "()Ljava/lang/Object;"⟩, Cond.classLink RX1 23 "[LKeyStates$Entry;", Cond.methodLink RX1 21 yX1_init, Cond.instanceMethod yX1_init]
def wsX3_pageToChange_r2 : List Cond := [Cond.code yX1_init cX1_init 1 none, Cond.methodLink RX1 3 objectInit, Cond.instanceMethod objectInit, Cond.code objectInit ⟨#[0xb1]⟩ 1 none, Cond.classLink RX1 9 RX0]
def wsX3_pageToChange : List Cond := .code yX3_pageToChange cX3_pageToChange 3 (some (.object "KeyStates$Page")) :: ((wsX3_pageToChange_r1 ++ wsX3_pageToChange_r2) ++ wsX30 ++ wsX20 ++ wsX10)
def wsX3_keep_r1 : List Cond := [Cond.fieldLink RX3 257 "KeyStates$Entry" "state" "I", Cond.fieldLink RX3 260 "KeyStates$Entry" "key" "J", Cond.fieldLink RX3 263 "KeyStates$Entry" "span" "I", Cond.methodLink RX3 266 yX3_pageNumber, Cond.static yX3_pageNumber, Cond.initialized RX3, Cond.code yX3_pageNumber cX3_pageNumber 5 (some .int), Cond.methodLink RX3 161 yX3_pageToChange, Cond.instanceMethod yX3_pageToChange, Cond.selects RX3 yX3_pageToChange yX3_pageToChange, Cond.code yX3_pageToChange cX3_pageToChange 3 (some (.object "KeyStates$Page")), Cond.fieldLink RX3 16 "KeyStates" "now" "LKeyStates$Picture;", Cond.fieldLink RX3 151 "KeyStates$Picture" "pages" "[LKeyStates$Page;", Cond.fieldLink RX3 32 "KeyStates" "pagesCopied" "I", Cond.methodLink RX3 273 yX1_isShared, Cond.instanceMethod yX1_isShared, Cond.selects RX1 yX1_isShared yX1_isShared, Cond.initialized RX1, Cond.code yX1_isShared cX1_isShared 1 (some .boolean), Cond.fieldLink RX1 17 "KeyStates$Page" "holders" "I", Cond.methodLink RX3 276 yX1_copied, Cond.instanceMethod yX1_copied, Cond.selects RX1 yX1_copied yX1_copied, Cond.code yX1_copied cX1_copied 2 (some (.object "KeyStates$Page"))]
def wsX3_keep_r2 : List Cond := [Cond.classLink RX1 12 RX1, Cond.instantiable RX1 2, Cond.fieldLink RX1 11 "KeyStates$Page" "rows" "[LKeyStates$Entry;", Cond.methodLink RX1 22 ⟨"[LKeyStates$Entry;", "clone", "()Ljava/lang/Object;"⟩, Cond.sameMethod "[LKeyStates$Entry;" "java/lang/Object" "clone" "()Ljava/lang/Object;", Cond.native ⟨"java/lang/Object", "clone", "()Ljava/lang/Object;"⟩, Cond.instanceMethod ⟨"java/lang/Object", "clone", "()Ljava/lang/Object;"⟩, Cond.selects "[LKeyStates$Entry;" ⟨"[LKeyStates$Entry;", "clone", "()Ljava/lang/Object;"⟩ ⟨"java/lang/Object", "clone", "()Ljava/lang/Object;"⟩, Cond.classLink RX1 23 "[LKeyStates$Entry;", Cond.methodLink RX1 21 yX1_init, Cond.instanceMethod yX1_init, Cond.code yX1_init cX1_init 1 none, Cond.methodLink RX1 3 objectInit, Cond.instanceMethod objectInit, Cond.code objectInit ⟨#[0xb1]⟩ 1 none, Cond.classLink RX1 9 RX0, Cond.methodLink RX3 270 yX1_keepEntry, Cond.instanceMethod yX1_keepEntry, Cond.selects RX1 yX1_keepEntry yX1_keepEntry, Cond.code yX1_keepEntry cX1_keepEntry 3 none, Cond.fieldLink RX1 31 "KeyStates$Entry" "state" "I", Cond.fieldLink RX1 34 "KeyStates$Entry" "key" "J", Cond.fieldLink RX1 38 "KeyStates$Entry" "span" "I", Cond.methodLink RX1 41 yX1_rowOf]
def wsX3_keep_r3 : List Cond := [Cond.instanceMethod yX1_rowOf, Cond.selects RX1 yX1_rowOf yX1_rowOf, Cond.code yX1_rowOf cX1_rowOf 6 (some .int), Cond.methodLink RX1 27 yX0_isAt, Cond.instanceMethod yX0_isAt, Cond.selects RX0 yX0_isAt yX0_isAt, Cond.initialized RX0, Cond.code yX0_isAt cX0_isAt 5 (some .boolean), Cond.fieldLink RX0 9 "KeyStates$Entry" "state" "I", Cond.fieldLink RX0 15 "KeyStates$Entry" "key" "J", Cond.fieldLink RX0 19 "KeyStates$Entry" "span" "I", Cond.methodLink RX1 45 yX1_freeRow, Cond.instanceMethod yX1_freeRow, Cond.selects RX1 yX1_freeRow yX1_freeRow, Cond.code yX1_freeRow cX1_freeRow 4 (some .int), Cond.methodLink RX1 49 yX0_isNone, Cond.instanceMethod yX0_isNone, Cond.selects RX0 yX0_isNone yX0_isNone, Cond.code yX0_isNone cX0_isNone 1 (some .boolean), Cond.fieldLink RX0 26 "KeyStates$Entry" "numbers" "[J"]
def wsX3_keep : List Cond := .code yX3_keep cX3_keep 2 none :: ((wsX3_keep_r1 ++ (wsX3_keep_r2 ++ wsX3_keep_r3)) ++ wsX00 ++ wsX30 ++ wsX20 ++ wsX10)
def wsX3_put_r1 : List Cond := [Cond.methodLink RX3 63 yX3_needToWrite, Cond.instanceMethod yX3_needToWrite, Cond.selects RX3 yX3_needToWrite yX3_needToWrite, Cond.initialized RX3, Cond.code yX3_needToWrite cX3_needToWrite 5 none, Cond.classLink RX3 246 "java/lang/IllegalArgumentException", Cond.initialized "java/lang/IllegalArgumentException", Cond.fieldLink RX3 16 "KeyStates" "now" "LKeyStates$Picture;", Cond.fieldLink RX3 53 "KeyStates$Picture" "kinds" "[I", Cond.fieldLink RX3 56 "KeyStates$Picture" "types" "[I", Cond.methodLink RX3 140 yX3_needState, Cond.instanceMethod yX3_needState, Cond.selects RX3 yX3_needState yX3_needState, Cond.code yX3_needState cX3_needState 2 none, Cond.classLink RX3 172 "java/lang/IndexOutOfBoundsException", Cond.initialized "java/lang/IndexOutOfBoundsException", Cond.fieldLink RX3 50 "KeyStates$Picture" "stateCount" "I", Cond.methodLink RX3 251 yX3_fits, Cond.static yX3_fits, Cond.code yX3_fits cX3_fits 4 (some .boolean), Cond.constantLong RX3 286 (-1000), Cond.constantLong RX3 288 (1000), Cond.methodLink RX3 144 yX3_needKey, Cond.instanceMethod yX3_needKey]
def wsX3_put_r2 : List Cond := [Cond.selects RX3 yX3_needKey yX3_needKey, Cond.code yX3_needKey cX3_needKey 1 none, Cond.classLink RX3 241 "java/lang/IllegalStateException", Cond.initialized "java/lang/IllegalStateException", Cond.fieldLink RX3 35 "KeyStates" "hasKey" "Z", Cond.methodLink RX3 67 yX3_entryAtHand, Cond.instanceMethod yX3_entryAtHand, Cond.selects RX3 yX3_entryAtHand yX3_entryAtHand, Cond.code yX3_entryAtHand cX3_entryAtHand 2 (some (.object "KeyStates$Entry")), Cond.fieldLink RX3 39 "KeyStates" "keyAtHand" "J", Cond.fieldLink RX3 43 "KeyStates" "spanAtHand" "I", Cond.methodLink RX3 200 yX2_entryOf, Cond.instanceMethod yX2_entryOf, Cond.selects RX2 yX2_entryOf yX2_entryOf, Cond.initialized RX2, Cond.code yX2_entryOf cX2_entryOf 7 (some (.object "KeyStates$Entry")), Cond.fieldLink RX2 11 "KeyStates$Picture" "pages" "[LKeyStates$Page;", Cond.classLink RX2 45 RX0, Cond.instantiable RX0 6, Cond.initialized RX0, Cond.fieldLink RX2 50 "KeyStates$Page" "rows" "[LKeyStates$Entry;", Cond.static yX3_pageNumber, Cond.code yX3_pageNumber cX3_pageNumber 5 (some .int), Cond.methodLink RX2 42 yX1_rowOf]
def wsX3_put_r3 : List Cond := [Cond.instanceMethod yX1_rowOf, Cond.selects RX1 yX1_rowOf yX1_rowOf, Cond.initialized RX1, Cond.code yX1_rowOf cX1_rowOf 6 (some .int), Cond.fieldLink RX1 11 "KeyStates$Page" "rows" "[LKeyStates$Entry;", Cond.methodLink RX1 27 yX0_isAt, Cond.instanceMethod yX0_isAt, Cond.selects RX0 yX0_isAt yX0_isAt, Cond.code yX0_isAt cX0_isAt 5 (some .boolean), Cond.fieldLink RX0 9 "KeyStates$Entry" "state" "I", Cond.fieldLink RX0 15 "KeyStates$Entry" "key" "J", Cond.fieldLink RX0 19 "KeyStates$Entry" "span" "I", Cond.methodLink RX2 47 yX0_init, Cond.instanceMethod yX0_init, Cond.code yX0_init cX0_init 5 none, Cond.methodLink RX0 3 objectInit, Cond.instanceMethod objectInit, Cond.code objectInit ⟨#[0xb1]⟩ 1 none, Cond.fieldLink RX0 26 "KeyStates$Entry" "numbers" "[J", Cond.fieldLink RX0 29 "KeyStates$Entry" "members" "[J", Cond.fieldLink RX0 32 "KeyStates$Entry" "folded" "I", Cond.methodLink RX3 71 yX3_hasNoRoomFor, Cond.instanceMethod yX3_hasNoRoomFor, Cond.selects RX3 yX3_hasNoRoomFor yX3_hasNoRoomFor]
def wsX3_put_r4 : List Cond := [Cond.code yX3_hasNoRoomFor cX3_hasNoRoomFor 2 (some .boolean), Cond.methodLink RX3 85 yX0_isNone, Cond.instanceMethod yX0_isNone, Cond.selects RX0 yX0_isNone yX0_isNone, Cond.code yX0_isNone cX0_isNone 1 (some .boolean), Cond.methodLink RX3 213 yX2_countEntries, Cond.instanceMethod yX2_countEntries, Cond.selects RX2 yX2_countEntries yX2_countEntries, Cond.code yX2_countEntries cX2_countEntries 3 (some .int), Cond.methodLink RX2 58 yX1_countEntries, Cond.instanceMethod yX1_countEntries, Cond.selects RX1 yX1_countEntries yX1_countEntries, Cond.code yX1_countEntries cX1_countEntries 3 (some .int), Cond.methodLink RX3 75 yX0_withOnly, Cond.instanceMethod yX0_withOnly, Cond.selects RX0 yX0_withOnly yX0_withOnly, Cond.code yX0_withOnly cX0_withOnly 3 (some (.object "KeyStates$Entry")), Cond.classLink RX0 10 RX0, Cond.arrayClass .long, Cond.methodLink RX0 39 yX0_init_, Cond.instanceMethod yX0_init_, Cond.code yX0_init_ cX0_init_ 5 none, Cond.methodLink RX3 81 yX3_keep, Cond.instanceMethod yX3_keep]
def wsX3_put_r5 : List Cond := [Cond.selects RX3 yX3_keep yX3_keep, Cond.code yX3_keep cX3_keep 2 none, Cond.fieldLink RX3 257 "KeyStates$Entry" "state" "I", Cond.fieldLink RX3 260 "KeyStates$Entry" "key" "J", Cond.fieldLink RX3 263 "KeyStates$Entry" "span" "I", Cond.methodLink RX3 266 yX3_pageNumber, Cond.methodLink RX3 161 yX3_pageToChange, Cond.instanceMethod yX3_pageToChange, Cond.selects RX3 yX3_pageToChange yX3_pageToChange, Cond.code yX3_pageToChange cX3_pageToChange 3 (some (.object "KeyStates$Page")), Cond.fieldLink RX3 151 "KeyStates$Picture" "pages" "[LKeyStates$Page;", Cond.fieldLink RX3 32 "KeyStates" "pagesCopied" "I", Cond.methodLink RX3 273 yX1_isShared, Cond.instanceMethod yX1_isShared, Cond.selects RX1 yX1_isShared yX1_isShared, Cond.code yX1_isShared cX1_isShared 1 (some .boolean), Cond.fieldLink RX1 17 "KeyStates$Page" "holders" "I", Cond.methodLink RX3 276 yX1_copied, Cond.instanceMethod yX1_copied, Cond.selects RX1 yX1_copied yX1_copied, Cond.code yX1_copied cX1_copied 2 (some (.object "KeyStates$Page")), Cond.classLink RX1 12 RX1, Cond.instantiable RX1 2, Cond.methodLink RX1 22 ⟨"[LKeyStates$Entry;", "clone", "()Ljava/lang/Object;"⟩]
def wsX3_put_r6 : List Cond := [Cond.sameMethod "[LKeyStates$Entry;" "java/lang/Object" "clone" "()Ljava/lang/Object;", Cond.native ⟨"java/lang/Object", "clone", "()Ljava/lang/Object;"⟩, Cond.instanceMethod ⟨"java/lang/Object", "clone", "()Ljava/lang/Object;"⟩, Cond.selects "[LKeyStates$Entry;" ⟨"[LKeyStates$Entry;", "clone", "()Ljava/lang/Object;"⟩ ⟨"java/lang/Object", "clone", "()Ljava/lang/Object;"⟩, Cond.classLink RX1 23 "[LKeyStates$Entry;", Cond.methodLink RX1 21 yX1_init, Cond.instanceMethod yX1_init, Cond.code yX1_init cX1_init 1 none, Cond.methodLink RX1 3 objectInit, Cond.classLink RX1 9 RX0, Cond.methodLink RX3 270 yX1_keepEntry, Cond.instanceMethod yX1_keepEntry, Cond.selects RX1 yX1_keepEntry yX1_keepEntry, Cond.code yX1_keepEntry cX1_keepEntry 3 none, Cond.fieldLink RX1 31 "KeyStates$Entry" "state" "I", Cond.fieldLink RX1 34 "KeyStates$Entry" "key" "J", Cond.fieldLink RX1 38 "KeyStates$Entry" "span" "I", Cond.methodLink RX1 41 yX1_rowOf, Cond.methodLink RX1 45 yX1_freeRow, Cond.instanceMethod yX1_freeRow, Cond.selects RX1 yX1_freeRow yX1_freeRow, Cond.code yX1_freeRow cX1_freeRow 4 (some .int), Cond.methodLink RX1 49 yX0_isNone]
def wsX3_put : List Cond := .code yX3_put cX3_put 5 (some .int) :: ((wsX3_put_r1 ++ (wsX3_put_r2 ++ (wsX3_put_r3 ++ (wsX3_put_r4 ++ (wsX3_put_r5 ++ wsX3_put_r6))))) ++ wsX30 ++ wsX20 ++ wsX00 ++ wsX10 ++ (vx_atS RX3 250 "java/lang/IllegalArgumentException" ["java/lang/RuntimeException", "java/lang/Exception"]).filter goodWord ++ (vx_atS RX3 176 "java/lang/IndexOutOfBoundsException" ["java/lang/RuntimeException", "java/lang/Exception"]).filter goodWord ++ (vx_atS RX3 245 "java/lang/IllegalStateException" ["java/lang/RuntimeException", "java/lang/Exception"]).filter goodWord)
def wsX3_needToRead : List Cond := .code yX3_needToRead cX3_needToRead 4 none :: ([.classLink RX3 246 "java/lang/IllegalArgumentException", .initialized "java/lang/IllegalArgumentException", .fieldLink RX3 16 "KeyStates" "now" "LKeyStates$Picture;", .fieldLink RX3 53 "KeyStates$Picture" "kinds" "[I", .methodLink RX3 140 yX3_needState, .instanceMethod yX3_needState, .selects RX3 yX3_needState yX3_needState, .initialized RX3, .code yX3_needState cX3_needState 2 none, .classLink RX3 172 "java/lang/IndexOutOfBoundsException", .initialized "java/lang/IndexOutOfBoundsException", .fieldLink RX3 50 "KeyStates$Picture" "stateCount" "I", .methodLink RX3 144 yX3_needKey, .instanceMethod yX3_needKey, .selects RX3 yX3_needKey yX3_needKey, .code yX3_needKey cX3_needKey 1 none, .classLink RX3 241 "java/lang/IllegalStateException", .initialized "java/lang/IllegalStateException", .fieldLink RX3 35 "KeyStates" "hasKey" "Z"] ++ wsX30 ++ wsX20 ++ (vx_atS RX3 250 "java/lang/IllegalArgumentException" ["java/lang/RuntimeException", "java/lang/Exception"]).filter goodWord ++ (vx_atS RX3 176 "java/lang/IndexOutOfBoundsException" ["java/lang/RuntimeException", "java/lang/Exception"]).filter goodWord ++ (vx_atS RX3 245 "java/lang/IllegalStateException" ["java/lang/RuntimeException", "java/lang/Exception"]).filter goodWord)
def wsX3_value_r1 : List Cond := [Cond.classLink RX3 93 "java/util/NoSuchElementException", Cond.initialized "java/util/NoSuchElementException", Cond.fieldLink RX3 100 "KeyStates$Entry" "numbers" "[J", Cond.methodLink RX3 89 yX3_needToRead, Cond.instanceMethod yX3_needToRead, Cond.selects RX3 yX3_needToRead yX3_needToRead, Cond.initialized RX3, Cond.code yX3_needToRead cX3_needToRead 4 none, Cond.classLink RX3 246 "java/lang/IllegalArgumentException", Cond.initialized "java/lang/IllegalArgumentException", Cond.fieldLink RX3 16 "KeyStates" "now" "LKeyStates$Picture;", Cond.fieldLink RX3 53 "KeyStates$Picture" "kinds" "[I", Cond.methodLink RX3 140 yX3_needState, Cond.instanceMethod yX3_needState, Cond.selects RX3 yX3_needState yX3_needState, Cond.code yX3_needState cX3_needState 2 none, Cond.classLink RX3 172 "java/lang/IndexOutOfBoundsException", Cond.initialized "java/lang/IndexOutOfBoundsException", Cond.fieldLink RX3 50 "KeyStates$Picture" "stateCount" "I", Cond.methodLink RX3 144 yX3_needKey, Cond.instanceMethod yX3_needKey, Cond.selects RX3 yX3_needKey yX3_needKey, Cond.code yX3_needKey cX3_needKey 1 none, Cond.classLink RX3 241 "java/lang/IllegalStateException"]
def wsX3_value_r2 : List Cond := [Cond.initialized "java/lang/IllegalStateException", Cond.fieldLink RX3 35 "KeyStates" "hasKey" "Z", Cond.methodLink RX3 67 yX3_entryAtHand, Cond.instanceMethod yX3_entryAtHand, Cond.selects RX3 yX3_entryAtHand yX3_entryAtHand, Cond.code yX3_entryAtHand cX3_entryAtHand 2 (some (.object "KeyStates$Entry")), Cond.fieldLink RX3 39 "KeyStates" "keyAtHand" "J", Cond.fieldLink RX3 43 "KeyStates" "spanAtHand" "I", Cond.methodLink RX3 200 yX2_entryOf, Cond.instanceMethod yX2_entryOf, Cond.selects RX2 yX2_entryOf yX2_entryOf, Cond.initialized RX2, Cond.code yX2_entryOf cX2_entryOf 7 (some (.object "KeyStates$Entry")), Cond.fieldLink RX2 11 "KeyStates$Picture" "pages" "[LKeyStates$Page;", Cond.classLink RX2 45 RX0, Cond.instantiable RX0 6, Cond.initialized RX0, Cond.fieldLink RX2 50 "KeyStates$Page" "rows" "[LKeyStates$Entry;", Cond.static yX3_pageNumber, Cond.code yX3_pageNumber cX3_pageNumber 5 (some .int), Cond.methodLink RX2 42 yX1_rowOf, Cond.instanceMethod yX1_rowOf, Cond.selects RX1 yX1_rowOf yX1_rowOf, Cond.initialized RX1]
def wsX3_value_r3 : List Cond := [Cond.code yX1_rowOf cX1_rowOf 6 (some .int), Cond.fieldLink RX1 11 "KeyStates$Page" "rows" "[LKeyStates$Entry;", Cond.methodLink RX1 27 yX0_isAt, Cond.instanceMethod yX0_isAt, Cond.selects RX0 yX0_isAt yX0_isAt, Cond.code yX0_isAt cX0_isAt 5 (some .boolean), Cond.fieldLink RX0 9 "KeyStates$Entry" "state" "I", Cond.fieldLink RX0 15 "KeyStates$Entry" "key" "J", Cond.fieldLink RX0 19 "KeyStates$Entry" "span" "I", Cond.methodLink RX2 47 yX0_init, Cond.instanceMethod yX0_init, Cond.code yX0_init cX0_init 5 none, Cond.methodLink RX0 3 objectInit, Cond.instanceMethod objectInit, Cond.code objectInit ⟨#[0xb1]⟩ 1 none, Cond.fieldLink RX0 26 "KeyStates$Entry" "numbers" "[J", Cond.fieldLink RX0 29 "KeyStates$Entry" "members" "[J", Cond.fieldLink RX0 32 "KeyStates$Entry" "folded" "I", Cond.methodLink RX3 85 yX0_isNone, Cond.instanceMethod yX0_isNone, Cond.selects RX0 yX0_isNone yX0_isNone, Cond.code yX0_isNone cX0_isNone 1 (some .boolean)]
def wsX3_value : List Cond := .code yX3_value cX3_value 3 (some .long) :: ((wsX3_value_r1 ++ (wsX3_value_r2 ++ wsX3_value_r3)) ++ wsX00 ++ wsX30 ++ wsX20 ++ wsX10 ++ (vx_atS RX3 97 "java/util/NoSuchElementException" ["java/lang/RuntimeException", "java/lang/Exception"]).filter goodWord ++ (vx_atS RX3 250 "java/lang/IllegalArgumentException" ["java/lang/RuntimeException", "java/lang/Exception"]).filter goodWord ++ (vx_atS RX3 176 "java/lang/IndexOutOfBoundsException" ["java/lang/RuntimeException", "java/lang/Exception"]).filter goodWord ++ (vx_atS RX3 245 "java/lang/IllegalStateException" ["java/lang/RuntimeException", "java/lang/Exception"]).filter goodWord)
def wsX3_add_r1 : List Cond := [Cond.fieldLink RX3 100 "KeyStates$Entry" "numbers" "[J", Cond.methodLink RX3 63 yX3_needToWrite, Cond.instanceMethod yX3_needToWrite, Cond.selects RX3 yX3_needToWrite yX3_needToWrite, Cond.initialized RX3, Cond.code yX3_needToWrite cX3_needToWrite 5 none, Cond.classLink RX3 246 "java/lang/IllegalArgumentException", Cond.initialized "java/lang/IllegalArgumentException", Cond.fieldLink RX3 16 "KeyStates" "now" "LKeyStates$Picture;", Cond.fieldLink RX3 53 "KeyStates$Picture" "kinds" "[I", Cond.fieldLink RX3 56 "KeyStates$Picture" "types" "[I", Cond.methodLink RX3 140 yX3_needState, Cond.instanceMethod yX3_needState, Cond.selects RX3 yX3_needState yX3_needState, Cond.code yX3_needState cX3_needState 2 none, Cond.classLink RX3 172 "java/lang/IndexOutOfBoundsException", Cond.initialized "java/lang/IndexOutOfBoundsException", Cond.fieldLink RX3 50 "KeyStates$Picture" "stateCount" "I", Cond.methodLink RX3 251 yX3_fits, Cond.static yX3_fits, Cond.code yX3_fits cX3_fits 4 (some .boolean), Cond.constantLong RX3 286 (-1000), Cond.constantLong RX3 288 (1000), Cond.methodLink RX3 144 yX3_needKey]
def wsX3_add_r2 : List Cond := [Cond.instanceMethod yX3_needKey, Cond.selects RX3 yX3_needKey yX3_needKey, Cond.code yX3_needKey cX3_needKey 1 none, Cond.classLink RX3 241 "java/lang/IllegalStateException", Cond.initialized "java/lang/IllegalStateException", Cond.fieldLink RX3 35 "KeyStates" "hasKey" "Z", Cond.methodLink RX3 67 yX3_entryAtHand, Cond.instanceMethod yX3_entryAtHand, Cond.selects RX3 yX3_entryAtHand yX3_entryAtHand, Cond.code yX3_entryAtHand cX3_entryAtHand 2 (some (.object "KeyStates$Entry")), Cond.fieldLink RX3 39 "KeyStates" "keyAtHand" "J", Cond.fieldLink RX3 43 "KeyStates" "spanAtHand" "I", Cond.methodLink RX3 200 yX2_entryOf, Cond.instanceMethod yX2_entryOf, Cond.selects RX2 yX2_entryOf yX2_entryOf, Cond.initialized RX2, Cond.code yX2_entryOf cX2_entryOf 7 (some (.object "KeyStates$Entry")), Cond.fieldLink RX2 11 "KeyStates$Picture" "pages" "[LKeyStates$Page;", Cond.classLink RX2 45 RX0, Cond.instantiable RX0 6, Cond.initialized RX0, Cond.fieldLink RX2 50 "KeyStates$Page" "rows" "[LKeyStates$Entry;", Cond.static yX3_pageNumber, Cond.code yX3_pageNumber cX3_pageNumber 5 (some .int)]
def wsX3_add_r3 : List Cond := [Cond.methodLink RX2 42 yX1_rowOf, Cond.instanceMethod yX1_rowOf, Cond.selects RX1 yX1_rowOf yX1_rowOf, Cond.initialized RX1, Cond.code yX1_rowOf cX1_rowOf 6 (some .int), Cond.fieldLink RX1 11 "KeyStates$Page" "rows" "[LKeyStates$Entry;", Cond.methodLink RX1 27 yX0_isAt, Cond.instanceMethod yX0_isAt, Cond.selects RX0 yX0_isAt yX0_isAt, Cond.code yX0_isAt cX0_isAt 5 (some .boolean), Cond.fieldLink RX0 9 "KeyStates$Entry" "state" "I", Cond.fieldLink RX0 15 "KeyStates$Entry" "key" "J", Cond.fieldLink RX0 19 "KeyStates$Entry" "span" "I", Cond.methodLink RX2 47 yX0_init, Cond.instanceMethod yX0_init, Cond.code yX0_init cX0_init 5 none, Cond.methodLink RX0 3 objectInit, Cond.instanceMethod objectInit, Cond.code objectInit ⟨#[0xb1]⟩ 1 none, Cond.fieldLink RX0 26 "KeyStates$Entry" "numbers" "[J", Cond.fieldLink RX0 29 "KeyStates$Entry" "members" "[J", Cond.fieldLink RX0 32 "KeyStates$Entry" "folded" "I", Cond.methodLink RX3 71 yX3_hasNoRoomFor, Cond.instanceMethod yX3_hasNoRoomFor]
def wsX3_add_r4 : List Cond := [Cond.selects RX3 yX3_hasNoRoomFor yX3_hasNoRoomFor, Cond.code yX3_hasNoRoomFor cX3_hasNoRoomFor 2 (some .boolean), Cond.methodLink RX3 85 yX0_isNone, Cond.instanceMethod yX0_isNone, Cond.selects RX0 yX0_isNone yX0_isNone, Cond.code yX0_isNone cX0_isNone 1 (some .boolean), Cond.methodLink RX3 213 yX2_countEntries, Cond.instanceMethod yX2_countEntries, Cond.selects RX2 yX2_countEntries yX2_countEntries, Cond.code yX2_countEntries cX2_countEntries 3 (some .int), Cond.methodLink RX2 58 yX1_countEntries, Cond.instanceMethod yX1_countEntries, Cond.selects RX1 yX1_countEntries yX1_countEntries, Cond.code yX1_countEntries cX1_countEntries 3 (some .int), Cond.methodLink RX3 103 yX0_withOneMore, Cond.instanceMethod yX0_withOneMore, Cond.selects RX0 yX0_withOneMore yX0_withOneMore, Cond.code yX0_withOneMore cX0_withOneMore 3 (some (.object "KeyStates$Entry")), Cond.classLink RX0 10 RX0, Cond.methodLink RX0 42 yX0_inserted, Cond.static yX0_inserted, Cond.code yX0_inserted cX0_inserted 5 (some (.array .long)), Cond.arrayClass .long, Cond.methodLink RX0 71 arraycopyName]
def wsX3_add_r5 : List Cond := [Cond.native arraycopyName, Cond.static arraycopyName, Cond.initialized "java/lang/System", Cond.methodLink RX0 39 yX0_init_, Cond.instanceMethod yX0_init_, Cond.code yX0_init_ cX0_init_ 5 none, Cond.methodLink RX3 81 yX3_keep, Cond.instanceMethod yX3_keep, Cond.selects RX3 yX3_keep yX3_keep, Cond.code yX3_keep cX3_keep 2 none, Cond.fieldLink RX3 257 "KeyStates$Entry" "state" "I", Cond.fieldLink RX3 260 "KeyStates$Entry" "key" "J", Cond.fieldLink RX3 263 "KeyStates$Entry" "span" "I", Cond.methodLink RX3 266 yX3_pageNumber, Cond.methodLink RX3 161 yX3_pageToChange, Cond.instanceMethod yX3_pageToChange, Cond.selects RX3 yX3_pageToChange yX3_pageToChange, Cond.code yX3_pageToChange cX3_pageToChange 3 (some (.object "KeyStates$Page")), Cond.fieldLink RX3 151 "KeyStates$Picture" "pages" "[LKeyStates$Page;", Cond.fieldLink RX3 32 "KeyStates" "pagesCopied" "I", Cond.methodLink RX3 273 yX1_isShared, Cond.instanceMethod yX1_isShared, Cond.selects RX1 yX1_isShared yX1_isShared, Cond.code yX1_isShared cX1_isShared 1 (some .boolean)]
def wsX3_add_r6 : List Cond := [Cond.fieldLink RX1 17 "KeyStates$Page" "holders" "I", Cond.methodLink RX3 276 yX1_copied, Cond.instanceMethod yX1_copied, Cond.selects RX1 yX1_copied yX1_copied, Cond.code yX1_copied cX1_copied 2 (some (.object "KeyStates$Page")), Cond.classLink RX1 12 RX1, Cond.instantiable RX1 2, Cond.methodLink RX1 22 ⟨"[LKeyStates$Entry;", "clone", "()Ljava/lang/Object;"⟩, Cond.sameMethod "[LKeyStates$Entry;" "java/lang/Object" "clone" "()Ljava/lang/Object;", Cond.native ⟨"java/lang/Object", "clone", "()Ljava/lang/Object;"⟩, Cond.instanceMethod ⟨"java/lang/Object", "clone", "()Ljava/lang/Object;"⟩, Cond.selects "[LKeyStates$Entry;" ⟨"[LKeyStates$Entry;", "clone", "()Ljava/lang/Object;"⟩ ⟨"java/lang/Object", "clone", "()Ljava/lang/Object;"⟩, Cond.classLink RX1 23 "[LKeyStates$Entry;", Cond.methodLink RX1 21 yX1_init, Cond.instanceMethod yX1_init, Cond.code yX1_init cX1_init 1 none, Cond.methodLink RX1 3 objectInit, Cond.classLink RX1 9 RX0, Cond.methodLink RX3 270 yX1_keepEntry, Cond.instanceMethod yX1_keepEntry, Cond.selects RX1 yX1_keepEntry yX1_keepEntry, Cond.code yX1_keepEntry cX1_keepEntry 3 none, Cond.fieldLink RX1 31 "KeyStates$Entry" "state" "I", Cond.fieldLink RX1 34 "KeyStates$Entry" "key" "J"]
def wsX3_add_r7 : List Cond := [Cond.fieldLink RX1 38 "KeyStates$Entry" "span" "I", Cond.methodLink RX1 41 yX1_rowOf, Cond.methodLink RX1 45 yX1_freeRow, Cond.instanceMethod yX1_freeRow, Cond.selects RX1 yX1_freeRow yX1_freeRow, Cond.code yX1_freeRow cX1_freeRow 4 (some .int), Cond.methodLink RX1 49 yX0_isNone]
def wsX3_add : List Cond := .code yX3_add cX3_add 5 (some .int) :: ((wsX3_add_r1 ++ (wsX3_add_r2 ++ (wsX3_add_r3 ++ (wsX3_add_r4 ++ (wsX3_add_r5 ++ (wsX3_add_r6 ++ wsX3_add_r7)))))) ++ wsX00 ++ wsX30 ++ wsX20 ++ wsX10 ++ (vx_atS RX3 250 "java/lang/IllegalArgumentException" ["java/lang/RuntimeException", "java/lang/Exception"]).filter goodWord ++ (vx_atS RX3 176 "java/lang/IndexOutOfBoundsException" ["java/lang/RuntimeException", "java/lang/Exception"]).filter goodWord ++ (vx_atS RX3 245 "java/lang/IllegalStateException" ["java/lang/RuntimeException", "java/lang/Exception"]).filter goodWord)
def wsX3_numberAt : List Cond := .code yX3_numberAt cX3_numberAt 2 (some .long) :: ([.classLink RX3 172 "java/lang/IndexOutOfBoundsException", .initialized "java/lang/IndexOutOfBoundsException"] ++ (vx_atS RX3 176 "java/lang/IndexOutOfBoundsException" ["java/lang/RuntimeException", "java/lang/Exception"]).filter goodWord)
def wsX3_item_r1 : List Cond := [Cond.fieldLink RX3 100 "KeyStates$Entry" "numbers" "[J", Cond.methodLink RX3 89 yX3_needToRead, Cond.instanceMethod yX3_needToRead, Cond.selects RX3 yX3_needToRead yX3_needToRead, Cond.initialized RX3, Cond.code yX3_needToRead cX3_needToRead 4 none, Cond.classLink RX3 246 "java/lang/IllegalArgumentException", Cond.initialized "java/lang/IllegalArgumentException", Cond.fieldLink RX3 16 "KeyStates" "now" "LKeyStates$Picture;", Cond.fieldLink RX3 53 "KeyStates$Picture" "kinds" "[I", Cond.methodLink RX3 140 yX3_needState, Cond.instanceMethod yX3_needState, Cond.selects RX3 yX3_needState yX3_needState, Cond.code yX3_needState cX3_needState 2 none, Cond.classLink RX3 172 "java/lang/IndexOutOfBoundsException", Cond.initialized "java/lang/IndexOutOfBoundsException", Cond.fieldLink RX3 50 "KeyStates$Picture" "stateCount" "I", Cond.methodLink RX3 144 yX3_needKey, Cond.instanceMethod yX3_needKey, Cond.selects RX3 yX3_needKey yX3_needKey, Cond.code yX3_needKey cX3_needKey 1 none, Cond.classLink RX3 241 "java/lang/IllegalStateException", Cond.initialized "java/lang/IllegalStateException", Cond.fieldLink RX3 35 "KeyStates" "hasKey" "Z"]
def wsX3_item_r2 : List Cond := [Cond.methodLink RX3 67 yX3_entryAtHand, Cond.instanceMethod yX3_entryAtHand, Cond.selects RX3 yX3_entryAtHand yX3_entryAtHand, Cond.code yX3_entryAtHand cX3_entryAtHand 2 (some (.object "KeyStates$Entry")), Cond.fieldLink RX3 39 "KeyStates" "keyAtHand" "J", Cond.fieldLink RX3 43 "KeyStates" "spanAtHand" "I", Cond.methodLink RX3 200 yX2_entryOf, Cond.instanceMethod yX2_entryOf, Cond.selects RX2 yX2_entryOf yX2_entryOf, Cond.initialized RX2, Cond.code yX2_entryOf cX2_entryOf 7 (some (.object "KeyStates$Entry")), Cond.fieldLink RX2 11 "KeyStates$Picture" "pages" "[LKeyStates$Page;", Cond.classLink RX2 45 RX0, Cond.instantiable RX0 6, Cond.initialized RX0, Cond.fieldLink RX2 50 "KeyStates$Page" "rows" "[LKeyStates$Entry;", Cond.static yX3_pageNumber, Cond.code yX3_pageNumber cX3_pageNumber 5 (some .int), Cond.methodLink RX2 42 yX1_rowOf, Cond.instanceMethod yX1_rowOf, Cond.selects RX1 yX1_rowOf yX1_rowOf, Cond.initialized RX1, Cond.code yX1_rowOf cX1_rowOf 6 (some .int), Cond.fieldLink RX1 11 "KeyStates$Page" "rows" "[LKeyStates$Entry;"]
def wsX3_item_r3 : List Cond := [Cond.methodLink RX1 27 yX0_isAt, Cond.instanceMethod yX0_isAt, Cond.selects RX0 yX0_isAt yX0_isAt, Cond.code yX0_isAt cX0_isAt 5 (some .boolean), Cond.fieldLink RX0 9 "KeyStates$Entry" "state" "I", Cond.fieldLink RX0 15 "KeyStates$Entry" "key" "J", Cond.fieldLink RX0 19 "KeyStates$Entry" "span" "I", Cond.methodLink RX2 47 yX0_init, Cond.instanceMethod yX0_init, Cond.code yX0_init cX0_init 5 none, Cond.methodLink RX0 3 objectInit, Cond.instanceMethod objectInit, Cond.code objectInit ⟨#[0xb1]⟩ 1 none, Cond.fieldLink RX0 26 "KeyStates$Entry" "numbers" "[J", Cond.fieldLink RX0 29 "KeyStates$Entry" "members" "[J", Cond.fieldLink RX0 32 "KeyStates$Entry" "folded" "I", Cond.methodLink RX3 106 yX3_numberAt, Cond.static yX3_numberAt, Cond.code yX3_numberAt cX3_numberAt 2 (some .long)]
def wsX3_item : List Cond := .code yX3_item cX3_item 3 (some .long) :: ((wsX3_item_r1 ++ (wsX3_item_r2 ++ wsX3_item_r3)) ++ wsX00 ++ wsX30 ++ wsX20 ++ wsX10 ++ (vx_atS RX3 250 "java/lang/IllegalArgumentException" ["java/lang/RuntimeException", "java/lang/Exception"]).filter goodWord ++ (vx_atS RX3 176 "java/lang/IndexOutOfBoundsException" ["java/lang/RuntimeException", "java/lang/Exception"]).filter goodWord ++ (vx_atS RX3 245 "java/lang/IllegalStateException" ["java/lang/RuntimeException", "java/lang/Exception"]).filter goodWord)
def wsX3_set_r1 : List Cond := [Cond.fieldLink RX3 122 "KeyStates$Entry" "members" "[J", Cond.methodLink RX3 63 yX3_needToWrite, Cond.instanceMethod yX3_needToWrite, Cond.selects RX3 yX3_needToWrite yX3_needToWrite, Cond.initialized RX3, Cond.code yX3_needToWrite cX3_needToWrite 5 none, Cond.classLink RX3 246 "java/lang/IllegalArgumentException", Cond.initialized "java/lang/IllegalArgumentException", Cond.fieldLink RX3 16 "KeyStates" "now" "LKeyStates$Picture;", Cond.fieldLink RX3 53 "KeyStates$Picture" "kinds" "[I", Cond.fieldLink RX3 56 "KeyStates$Picture" "types" "[I", Cond.methodLink RX3 140 yX3_needState, Cond.instanceMethod yX3_needState, Cond.selects RX3 yX3_needState yX3_needState, Cond.code yX3_needState cX3_needState 2 none, Cond.classLink RX3 172 "java/lang/IndexOutOfBoundsException", Cond.initialized "java/lang/IndexOutOfBoundsException", Cond.fieldLink RX3 50 "KeyStates$Picture" "stateCount" "I", Cond.methodLink RX3 251 yX3_fits, Cond.static yX3_fits, Cond.code yX3_fits cX3_fits 4 (some .boolean), Cond.constantLong RX3 286 (-1000), Cond.constantLong RX3 288 (1000), Cond.methodLink RX3 144 yX3_needKey]
def wsX3_set_r2 : List Cond := [Cond.instanceMethod yX3_needKey, Cond.selects RX3 yX3_needKey yX3_needKey, Cond.code yX3_needKey cX3_needKey 1 none, Cond.classLink RX3 241 "java/lang/IllegalStateException", Cond.initialized "java/lang/IllegalStateException", Cond.fieldLink RX3 35 "KeyStates" "hasKey" "Z", Cond.methodLink RX3 67 yX3_entryAtHand, Cond.instanceMethod yX3_entryAtHand, Cond.selects RX3 yX3_entryAtHand yX3_entryAtHand, Cond.code yX3_entryAtHand cX3_entryAtHand 2 (some (.object "KeyStates$Entry")), Cond.fieldLink RX3 39 "KeyStates" "keyAtHand" "J", Cond.fieldLink RX3 43 "KeyStates" "spanAtHand" "I", Cond.methodLink RX3 200 yX2_entryOf, Cond.instanceMethod yX2_entryOf, Cond.selects RX2 yX2_entryOf yX2_entryOf, Cond.initialized RX2, Cond.code yX2_entryOf cX2_entryOf 7 (some (.object "KeyStates$Entry")), Cond.fieldLink RX2 11 "KeyStates$Picture" "pages" "[LKeyStates$Page;", Cond.classLink RX2 45 RX0, Cond.instantiable RX0 6, Cond.initialized RX0, Cond.fieldLink RX2 50 "KeyStates$Page" "rows" "[LKeyStates$Entry;", Cond.static yX3_pageNumber, Cond.code yX3_pageNumber cX3_pageNumber 5 (some .int)]
def wsX3_set_r3 : List Cond := [Cond.methodLink RX2 42 yX1_rowOf, Cond.instanceMethod yX1_rowOf, Cond.selects RX1 yX1_rowOf yX1_rowOf, Cond.initialized RX1, Cond.code yX1_rowOf cX1_rowOf 6 (some .int), Cond.fieldLink RX1 11 "KeyStates$Page" "rows" "[LKeyStates$Entry;", Cond.methodLink RX1 27 yX0_isAt, Cond.instanceMethod yX0_isAt, Cond.selects RX0 yX0_isAt yX0_isAt, Cond.code yX0_isAt cX0_isAt 5 (some .boolean), Cond.fieldLink RX0 9 "KeyStates$Entry" "state" "I", Cond.fieldLink RX0 15 "KeyStates$Entry" "key" "J", Cond.fieldLink RX0 19 "KeyStates$Entry" "span" "I", Cond.methodLink RX2 47 yX0_init, Cond.instanceMethod yX0_init, Cond.code yX0_init cX0_init 5 none, Cond.methodLink RX0 3 objectInit, Cond.instanceMethod objectInit, Cond.code objectInit ⟨#[0xb1]⟩ 1 none, Cond.fieldLink RX0 26 "KeyStates$Entry" "numbers" "[J", Cond.fieldLink RX0 29 "KeyStates$Entry" "members" "[J", Cond.fieldLink RX0 32 "KeyStates$Entry" "folded" "I", Cond.methodLink RX3 110 yX0_placeOf, Cond.instanceMethod yX0_placeOf]
def wsX3_set_r4 : List Cond := [Cond.selects RX0 yX0_placeOf yX0_placeOf, Cond.code yX0_placeOf cX0_placeOf 3 (some .int), Cond.static yX3_countBelow, Cond.code yX3_countBelow cX3_countBelow 5 (some .int), Cond.methodLink RX3 114 yX0_hasMember, Cond.instanceMethod yX0_hasMember, Cond.selects RX0 yX0_hasMember yX0_hasMember, Cond.code yX0_hasMember cX0_hasMember 4 (some .boolean), Cond.methodLink RX3 118 yX0_withNumberAt, Cond.instanceMethod yX0_withNumberAt, Cond.selects RX0 yX0_withNumberAt yX0_withNumberAt, Cond.code yX0_withNumberAt cX0_withNumberAt 5 (some (.object "KeyStates$Entry")), Cond.classLink RX0 10 RX0, Cond.methodLink RX0 46 yJ7_copyOf_c38d5, Cond.static yJ7_copyOf_c38d5, Cond.initialized RJ7, Cond.code yJ7_copyOf_c38d5 cJ7_copyOf_c38d5 3 (some (.array .long)), Cond.methodLink RJ7 319 ⟨"[J", "clone", "()Ljava/lang/Object;"⟩, Cond.sameMethod "[J" "java/lang/Object" "clone" "()Ljava/lang/Object;", Cond.native ⟨"java/lang/Object", "clone", "()Ljava/lang/Object;"⟩, Cond.instanceMethod ⟨"java/lang/Object", "clone", "()Ljava/lang/Object;"⟩, Cond.selects "[J" ⟨"[J", "clone", "()Ljava/lang/Object;"⟩ ⟨"java/lang/Object", "clone", "()Ljava/lang/Object;"⟩, Cond.classLink RJ7 320 "[J", Cond.arrayClass .long]
def wsX3_set_r5 : List Cond := [Cond.methodLink RJ7 304 Lib.Math.min.name, Cond.static Lib.Math.min.name, Cond.initialized "java/lang/Math", Cond.code Lib.Math.min.name Lib.Math.min.code 2 (some .int), Cond.methodLink RJ7 150 arraycopyName, Cond.native arraycopyName, Cond.static arraycopyName, Cond.initialized "java/lang/System", Cond.methodLink RX0 39 yX0_init_, Cond.instanceMethod yX0_init_, Cond.code yX0_init_ cX0_init_ 5 none, Cond.methodLink RX3 81 yX3_keep, Cond.instanceMethod yX3_keep, Cond.selects RX3 yX3_keep yX3_keep, Cond.code yX3_keep cX3_keep 2 none, Cond.fieldLink RX3 257 "KeyStates$Entry" "state" "I", Cond.fieldLink RX3 260 "KeyStates$Entry" "key" "J", Cond.fieldLink RX3 263 "KeyStates$Entry" "span" "I", Cond.methodLink RX3 266 yX3_pageNumber, Cond.methodLink RX3 161 yX3_pageToChange, Cond.instanceMethod yX3_pageToChange, Cond.selects RX3 yX3_pageToChange yX3_pageToChange, Cond.code yX3_pageToChange cX3_pageToChange 3 (some (.object "KeyStates$Page")), Cond.fieldLink RX3 151 "KeyStates$Picture" "pages" "[LKeyStates$Page;"]
def wsX3_set_r6 : List Cond := [Cond.fieldLink RX3 32 "KeyStates" "pagesCopied" "I", Cond.methodLink RX3 273 yX1_isShared, Cond.instanceMethod yX1_isShared, Cond.selects RX1 yX1_isShared yX1_isShared, Cond.code yX1_isShared cX1_isShared 1 (some .boolean), Cond.fieldLink RX1 17 "KeyStates$Page" "holders" "I", Cond.methodLink RX3 276 yX1_copied, Cond.instanceMethod yX1_copied, Cond.selects RX1 yX1_copied yX1_copied, Cond.code yX1_copied cX1_copied 2 (some (.object "KeyStates$Page")), Cond.classLink RX1 12 RX1, Cond.instantiable RX1 2, Cond.methodLink RX1 22 ⟨"[LKeyStates$Entry;", "clone", "()Ljava/lang/Object;"⟩, Cond.sameMethod "[LKeyStates$Entry;" "java/lang/Object" "clone" "()Ljava/lang/Object;", Cond.selects "[LKeyStates$Entry;" ⟨"[LKeyStates$Entry;", "clone", "()Ljava/lang/Object;"⟩ ⟨"java/lang/Object", "clone", "()Ljava/lang/Object;"⟩, Cond.classLink RX1 23 "[LKeyStates$Entry;", Cond.methodLink RX1 21 yX1_init, Cond.instanceMethod yX1_init, Cond.code yX1_init cX1_init 1 none, Cond.methodLink RX1 3 objectInit, Cond.classLink RX1 9 RX0, Cond.methodLink RX3 270 yX1_keepEntry, Cond.instanceMethod yX1_keepEntry, Cond.selects RX1 yX1_keepEntry yX1_keepEntry]
def wsX3_set_r7 : List Cond := [Cond.code yX1_keepEntry cX1_keepEntry 3 none, Cond.fieldLink RX1 31 "KeyStates$Entry" "state" "I", Cond.fieldLink RX1 34 "KeyStates$Entry" "key" "J", Cond.fieldLink RX1 38 "KeyStates$Entry" "span" "I", Cond.methodLink RX1 41 yX1_rowOf, Cond.methodLink RX1 45 yX1_freeRow, Cond.instanceMethod yX1_freeRow, Cond.selects RX1 yX1_freeRow yX1_freeRow, Cond.code yX1_freeRow cX1_freeRow 4 (some .int), Cond.methodLink RX1 49 yX0_isNone, Cond.instanceMethod yX0_isNone, Cond.selects RX0 yX0_isNone yX0_isNone, Cond.code yX0_isNone cX0_isNone 1 (some .boolean), Cond.methodLink RX3 71 yX3_hasNoRoomFor, Cond.instanceMethod yX3_hasNoRoomFor, Cond.selects RX3 yX3_hasNoRoomFor yX3_hasNoRoomFor, Cond.code yX3_hasNoRoomFor cX3_hasNoRoomFor 2 (some .boolean), Cond.methodLink RX3 85 yX0_isNone, Cond.methodLink RX3 213 yX2_countEntries, Cond.instanceMethod yX2_countEntries, Cond.selects RX2 yX2_countEntries yX2_countEntries, Cond.code yX2_countEntries cX2_countEntries 3 (some .int), Cond.methodLink RX2 58 yX1_countEntries, Cond.instanceMethod yX1_countEntries]
def wsX3_set_r8 : List Cond := [Cond.selects RX1 yX1_countEntries yX1_countEntries, Cond.code yX1_countEntries cX1_countEntries 3 (some .int), Cond.methodLink RX3 125 yX0_withMember, Cond.instanceMethod yX0_withMember, Cond.selects RX0 yX0_withMember yX0_withMember, Cond.code yX0_withMember cX0_withMember 6 (some (.object "KeyStates$Entry")), Cond.methodLink RX0 42 yX0_inserted, Cond.static yX0_inserted, Cond.code yX0_inserted cX0_inserted 5 (some (.array .long)), Cond.methodLink RX0 71 arraycopyName]
def wsX3_set : List Cond := .code yX3_set cX3_set 8 (some .int) :: ((wsX3_set_r1 ++ (wsX3_set_r2 ++ (wsX3_set_r3 ++ (wsX3_set_r4 ++ (wsX3_set_r5 ++ (wsX3_set_r6 ++ (wsX3_set_r7 ++ wsX3_set_r8))))))) ++ wsX00 ++ wsX30 ++ wsX20 ++ wsX10 ++ (vx_atS RX3 250 "java/lang/IllegalArgumentException" ["java/lang/RuntimeException", "java/lang/Exception"]).filter goodWord ++ (vx_atS RX3 176 "java/lang/IndexOutOfBoundsException" ["java/lang/RuntimeException", "java/lang/Exception"]).filter goodWord ++ (vx_atS RX3 245 "java/lang/IllegalStateException" ["java/lang/RuntimeException", "java/lang/Exception"]).filter goodWord)
def wsX3_get_r1 : List Cond := [Cond.classLink RX3 93 "java/util/NoSuchElementException", Cond.initialized "java/util/NoSuchElementException", Cond.fieldLink RX3 100 "KeyStates$Entry" "numbers" "[J", Cond.methodLink RX3 89 yX3_needToRead, Cond.instanceMethod yX3_needToRead, Cond.selects RX3 yX3_needToRead yX3_needToRead, Cond.initialized RX3, Cond.code yX3_needToRead cX3_needToRead 4 none, Cond.classLink RX3 246 "java/lang/IllegalArgumentException", Cond.initialized "java/lang/IllegalArgumentException", Cond.fieldLink RX3 16 "KeyStates" "now" "LKeyStates$Picture;", Cond.fieldLink RX3 53 "KeyStates$Picture" "kinds" "[I", Cond.methodLink RX3 140 yX3_needState, Cond.instanceMethod yX3_needState, Cond.selects RX3 yX3_needState yX3_needState, Cond.code yX3_needState cX3_needState 2 none, Cond.classLink RX3 172 "java/lang/IndexOutOfBoundsException", Cond.initialized "java/lang/IndexOutOfBoundsException", Cond.fieldLink RX3 50 "KeyStates$Picture" "stateCount" "I", Cond.methodLink RX3 144 yX3_needKey, Cond.instanceMethod yX3_needKey, Cond.selects RX3 yX3_needKey yX3_needKey, Cond.code yX3_needKey cX3_needKey 1 none, Cond.classLink RX3 241 "java/lang/IllegalStateException"]
def wsX3_get_r2 : List Cond := [Cond.initialized "java/lang/IllegalStateException", Cond.fieldLink RX3 35 "KeyStates" "hasKey" "Z", Cond.methodLink RX3 67 yX3_entryAtHand, Cond.instanceMethod yX3_entryAtHand, Cond.selects RX3 yX3_entryAtHand yX3_entryAtHand, Cond.code yX3_entryAtHand cX3_entryAtHand 2 (some (.object "KeyStates$Entry")), Cond.fieldLink RX3 39 "KeyStates" "keyAtHand" "J", Cond.fieldLink RX3 43 "KeyStates" "spanAtHand" "I", Cond.methodLink RX3 200 yX2_entryOf, Cond.instanceMethod yX2_entryOf, Cond.selects RX2 yX2_entryOf yX2_entryOf, Cond.initialized RX2, Cond.code yX2_entryOf cX2_entryOf 7 (some (.object "KeyStates$Entry")), Cond.fieldLink RX2 11 "KeyStates$Picture" "pages" "[LKeyStates$Page;", Cond.classLink RX2 45 RX0, Cond.instantiable RX0 6, Cond.initialized RX0, Cond.fieldLink RX2 50 "KeyStates$Page" "rows" "[LKeyStates$Entry;", Cond.static yX3_pageNumber, Cond.code yX3_pageNumber cX3_pageNumber 5 (some .int), Cond.methodLink RX2 42 yX1_rowOf, Cond.instanceMethod yX1_rowOf, Cond.selects RX1 yX1_rowOf yX1_rowOf, Cond.initialized RX1]
def wsX3_get_r3 : List Cond := [Cond.code yX1_rowOf cX1_rowOf 6 (some .int), Cond.fieldLink RX1 11 "KeyStates$Page" "rows" "[LKeyStates$Entry;", Cond.methodLink RX1 27 yX0_isAt, Cond.instanceMethod yX0_isAt, Cond.selects RX0 yX0_isAt yX0_isAt, Cond.code yX0_isAt cX0_isAt 5 (some .boolean), Cond.fieldLink RX0 9 "KeyStates$Entry" "state" "I", Cond.fieldLink RX0 15 "KeyStates$Entry" "key" "J", Cond.fieldLink RX0 19 "KeyStates$Entry" "span" "I", Cond.methodLink RX2 47 yX0_init, Cond.instanceMethod yX0_init, Cond.code yX0_init cX0_init 5 none, Cond.methodLink RX0 3 objectInit, Cond.instanceMethod objectInit, Cond.code objectInit ⟨#[0xb1]⟩ 1 none, Cond.fieldLink RX0 26 "KeyStates$Entry" "numbers" "[J", Cond.fieldLink RX0 29 "KeyStates$Entry" "members" "[J", Cond.fieldLink RX0 32 "KeyStates$Entry" "folded" "I", Cond.methodLink RX3 110 yX0_placeOf, Cond.instanceMethod yX0_placeOf, Cond.selects RX0 yX0_placeOf yX0_placeOf, Cond.code yX0_placeOf cX0_placeOf 3 (some .int), Cond.static yX3_countBelow, Cond.code yX3_countBelow cX3_countBelow 5 (some .int)]
def wsX3_get_r4 : List Cond := [Cond.methodLink RX3 114 yX0_hasMember, Cond.instanceMethod yX0_hasMember, Cond.selects RX0 yX0_hasMember yX0_hasMember, Cond.code yX0_hasMember cX0_hasMember 4 (some .boolean)]
def wsX3_get : List Cond := .code yX3_get cX3_get 6 (some .long) :: ((wsX3_get_r1 ++ (wsX3_get_r2 ++ (wsX3_get_r3 ++ wsX3_get_r4))) ++ wsX00 ++ wsX30 ++ wsX20 ++ wsX10 ++ (vx_atS RX3 97 "java/util/NoSuchElementException" ["java/lang/RuntimeException", "java/lang/Exception"]).filter goodWord ++ (vx_atS RX3 250 "java/lang/IllegalArgumentException" ["java/lang/RuntimeException", "java/lang/Exception"]).filter goodWord ++ (vx_atS RX3 176 "java/lang/IndexOutOfBoundsException" ["java/lang/RuntimeException", "java/lang/Exception"]).filter goodWord ++ (vx_atS RX3 245 "java/lang/IllegalStateException" ["java/lang/RuntimeException", "java/lang/Exception"]).filter goodWord)
def wsX3_member_r1 : List Cond := [Cond.fieldLink RX3 122 "KeyStates$Entry" "members" "[J", Cond.methodLink RX3 89 yX3_needToRead, Cond.instanceMethod yX3_needToRead, Cond.selects RX3 yX3_needToRead yX3_needToRead, Cond.initialized RX3, Cond.code yX3_needToRead cX3_needToRead 4 none, Cond.classLink RX3 246 "java/lang/IllegalArgumentException", Cond.initialized "java/lang/IllegalArgumentException", Cond.fieldLink RX3 16 "KeyStates" "now" "LKeyStates$Picture;", Cond.fieldLink RX3 53 "KeyStates$Picture" "kinds" "[I", Cond.methodLink RX3 140 yX3_needState, Cond.instanceMethod yX3_needState, Cond.selects RX3 yX3_needState yX3_needState, Cond.code yX3_needState cX3_needState 2 none, Cond.classLink RX3 172 "java/lang/IndexOutOfBoundsException", Cond.initialized "java/lang/IndexOutOfBoundsException", Cond.fieldLink RX3 50 "KeyStates$Picture" "stateCount" "I", Cond.methodLink RX3 144 yX3_needKey, Cond.instanceMethod yX3_needKey, Cond.selects RX3 yX3_needKey yX3_needKey, Cond.code yX3_needKey cX3_needKey 1 none, Cond.classLink RX3 241 "java/lang/IllegalStateException", Cond.initialized "java/lang/IllegalStateException", Cond.fieldLink RX3 35 "KeyStates" "hasKey" "Z"]
def wsX3_member_r2 : List Cond := [Cond.methodLink RX3 67 yX3_entryAtHand, Cond.instanceMethod yX3_entryAtHand, Cond.selects RX3 yX3_entryAtHand yX3_entryAtHand, Cond.code yX3_entryAtHand cX3_entryAtHand 2 (some (.object "KeyStates$Entry")), Cond.fieldLink RX3 39 "KeyStates" "keyAtHand" "J", Cond.fieldLink RX3 43 "KeyStates" "spanAtHand" "I", Cond.methodLink RX3 200 yX2_entryOf, Cond.instanceMethod yX2_entryOf, Cond.selects RX2 yX2_entryOf yX2_entryOf, Cond.initialized RX2, Cond.code yX2_entryOf cX2_entryOf 7 (some (.object "KeyStates$Entry")), Cond.fieldLink RX2 11 "KeyStates$Picture" "pages" "[LKeyStates$Page;", Cond.classLink RX2 45 RX0, Cond.instantiable RX0 6, Cond.initialized RX0, Cond.fieldLink RX2 50 "KeyStates$Page" "rows" "[LKeyStates$Entry;", Cond.static yX3_pageNumber, Cond.code yX3_pageNumber cX3_pageNumber 5 (some .int), Cond.methodLink RX2 42 yX1_rowOf, Cond.instanceMethod yX1_rowOf, Cond.selects RX1 yX1_rowOf yX1_rowOf, Cond.initialized RX1, Cond.code yX1_rowOf cX1_rowOf 6 (some .int), Cond.fieldLink RX1 11 "KeyStates$Page" "rows" "[LKeyStates$Entry;"]
def wsX3_member_r3 : List Cond := [Cond.methodLink RX1 27 yX0_isAt, Cond.instanceMethod yX0_isAt, Cond.selects RX0 yX0_isAt yX0_isAt, Cond.code yX0_isAt cX0_isAt 5 (some .boolean), Cond.fieldLink RX0 9 "KeyStates$Entry" "state" "I", Cond.fieldLink RX0 15 "KeyStates$Entry" "key" "J", Cond.fieldLink RX0 19 "KeyStates$Entry" "span" "I", Cond.methodLink RX2 47 yX0_init, Cond.instanceMethod yX0_init, Cond.code yX0_init cX0_init 5 none, Cond.methodLink RX0 3 objectInit, Cond.instanceMethod objectInit, Cond.code objectInit ⟨#[0xb1]⟩ 1 none, Cond.fieldLink RX0 26 "KeyStates$Entry" "numbers" "[J", Cond.fieldLink RX0 29 "KeyStates$Entry" "members" "[J", Cond.fieldLink RX0 32 "KeyStates$Entry" "folded" "I", Cond.methodLink RX3 106 yX3_numberAt, Cond.static yX3_numberAt, Cond.code yX3_numberAt cX3_numberAt 2 (some .long)]
def wsX3_member : List Cond := .code yX3_member cX3_member 3 (some .long) :: ((wsX3_member_r1 ++ (wsX3_member_r2 ++ wsX3_member_r3)) ++ wsX00 ++ wsX30 ++ wsX20 ++ wsX10 ++ (vx_atS RX3 250 "java/lang/IllegalArgumentException" ["java/lang/RuntimeException", "java/lang/Exception"]).filter goodWord ++ (vx_atS RX3 176 "java/lang/IndexOutOfBoundsException" ["java/lang/RuntimeException", "java/lang/Exception"]).filter goodWord ++ (vx_atS RX3 245 "java/lang/IllegalStateException" ["java/lang/RuntimeException", "java/lang/Exception"]).filter goodWord)
def wsX3_remove_r1 : List Cond := [Cond.methodLink RX3 89 yX3_needToRead, Cond.instanceMethod yX3_needToRead, Cond.selects RX3 yX3_needToRead yX3_needToRead, Cond.initialized RX3, Cond.code yX3_needToRead cX3_needToRead 4 none, Cond.classLink RX3 246 "java/lang/IllegalArgumentException", Cond.initialized "java/lang/IllegalArgumentException", Cond.fieldLink RX3 16 "KeyStates" "now" "LKeyStates$Picture;", Cond.fieldLink RX3 53 "KeyStates$Picture" "kinds" "[I", Cond.methodLink RX3 140 yX3_needState, Cond.instanceMethod yX3_needState, Cond.selects RX3 yX3_needState yX3_needState, Cond.code yX3_needState cX3_needState 2 none, Cond.classLink RX3 172 "java/lang/IndexOutOfBoundsException", Cond.initialized "java/lang/IndexOutOfBoundsException", Cond.fieldLink RX3 50 "KeyStates$Picture" "stateCount" "I", Cond.methodLink RX3 144 yX3_needKey, Cond.instanceMethod yX3_needKey, Cond.selects RX3 yX3_needKey yX3_needKey, Cond.code yX3_needKey cX3_needKey 1 none, Cond.classLink RX3 241 "java/lang/IllegalStateException", Cond.initialized "java/lang/IllegalStateException", Cond.fieldLink RX3 35 "KeyStates" "hasKey" "Z", Cond.methodLink RX3 67 yX3_entryAtHand]
def wsX3_remove_r2 : List Cond := [Cond.instanceMethod yX3_entryAtHand, Cond.selects RX3 yX3_entryAtHand yX3_entryAtHand, Cond.code yX3_entryAtHand cX3_entryAtHand 2 (some (.object "KeyStates$Entry")), Cond.fieldLink RX3 39 "KeyStates" "keyAtHand" "J", Cond.fieldLink RX3 43 "KeyStates" "spanAtHand" "I", Cond.methodLink RX3 200 yX2_entryOf, Cond.instanceMethod yX2_entryOf, Cond.selects RX2 yX2_entryOf yX2_entryOf, Cond.initialized RX2, Cond.code yX2_entryOf cX2_entryOf 7 (some (.object "KeyStates$Entry")), Cond.fieldLink RX2 11 "KeyStates$Picture" "pages" "[LKeyStates$Page;", Cond.classLink RX2 45 RX0, Cond.instantiable RX0 6, Cond.initialized RX0, Cond.fieldLink RX2 50 "KeyStates$Page" "rows" "[LKeyStates$Entry;", Cond.static yX3_pageNumber, Cond.code yX3_pageNumber cX3_pageNumber 5 (some .int), Cond.methodLink RX2 42 yX1_rowOf, Cond.instanceMethod yX1_rowOf, Cond.selects RX1 yX1_rowOf yX1_rowOf, Cond.initialized RX1, Cond.code yX1_rowOf cX1_rowOf 6 (some .int), Cond.fieldLink RX1 11 "KeyStates$Page" "rows" "[LKeyStates$Entry;", Cond.methodLink RX1 27 yX0_isAt]
def wsX3_remove_r3 : List Cond := [Cond.instanceMethod yX0_isAt, Cond.selects RX0 yX0_isAt yX0_isAt, Cond.code yX0_isAt cX0_isAt 5 (some .boolean), Cond.fieldLink RX0 9 "KeyStates$Entry" "state" "I", Cond.fieldLink RX0 15 "KeyStates$Entry" "key" "J", Cond.fieldLink RX0 19 "KeyStates$Entry" "span" "I", Cond.methodLink RX2 47 yX0_init, Cond.instanceMethod yX0_init, Cond.code yX0_init cX0_init 5 none, Cond.methodLink RX0 3 objectInit, Cond.instanceMethod objectInit, Cond.code objectInit ⟨#[0xb1]⟩ 1 none, Cond.fieldLink RX0 26 "KeyStates$Entry" "numbers" "[J", Cond.fieldLink RX0 29 "KeyStates$Entry" "members" "[J", Cond.fieldLink RX0 32 "KeyStates$Entry" "folded" "I", Cond.methodLink RX3 110 yX0_placeOf, Cond.instanceMethod yX0_placeOf, Cond.selects RX0 yX0_placeOf yX0_placeOf, Cond.code yX0_placeOf cX0_placeOf 3 (some .int), Cond.static yX3_countBelow, Cond.code yX3_countBelow cX3_countBelow 5 (some .int), Cond.methodLink RX3 114 yX0_hasMember, Cond.instanceMethod yX0_hasMember, Cond.selects RX0 yX0_hasMember yX0_hasMember]
def wsX3_remove_r4 : List Cond := [Cond.code yX0_hasMember cX0_hasMember 4 (some .boolean), Cond.methodLink RX3 131 yX0_withoutMember, Cond.instanceMethod yX0_withoutMember, Cond.selects RX0 yX0_withoutMember yX0_withoutMember, Cond.code yX0_withoutMember cX0_withoutMember 2 (some (.object "KeyStates$Entry")), Cond.classLink RX0 10 RX0, Cond.methodLink RX0 52 yX0_without, Cond.static yX0_without, Cond.code yX0_without cX0_without 3 (some (.array .long)), Cond.arrayClass .long, Cond.methodLink RX0 71 arraycopyName, Cond.native arraycopyName, Cond.static arraycopyName, Cond.initialized "java/lang/System", Cond.methodLink RX0 39 yX0_init_, Cond.instanceMethod yX0_init_, Cond.code yX0_init_ cX0_init_ 5 none, Cond.methodLink RX3 81 yX3_keep, Cond.instanceMethod yX3_keep, Cond.selects RX3 yX3_keep yX3_keep, Cond.code yX3_keep cX3_keep 2 none, Cond.fieldLink RX3 257 "KeyStates$Entry" "state" "I", Cond.fieldLink RX3 260 "KeyStates$Entry" "key" "J", Cond.fieldLink RX3 263 "KeyStates$Entry" "span" "I"]
def wsX3_remove_r5 : List Cond := [Cond.methodLink RX3 266 yX3_pageNumber, Cond.methodLink RX3 161 yX3_pageToChange, Cond.instanceMethod yX3_pageToChange, Cond.selects RX3 yX3_pageToChange yX3_pageToChange, Cond.code yX3_pageToChange cX3_pageToChange 3 (some (.object "KeyStates$Page")), Cond.fieldLink RX3 151 "KeyStates$Picture" "pages" "[LKeyStates$Page;", Cond.fieldLink RX3 32 "KeyStates" "pagesCopied" "I", Cond.methodLink RX3 273 yX1_isShared, Cond.instanceMethod yX1_isShared, Cond.selects RX1 yX1_isShared yX1_isShared, Cond.code yX1_isShared cX1_isShared 1 (some .boolean), Cond.fieldLink RX1 17 "KeyStates$Page" "holders" "I", Cond.methodLink RX3 276 yX1_copied, Cond.instanceMethod yX1_copied, Cond.selects RX1 yX1_copied yX1_copied, Cond.code yX1_copied cX1_copied 2 (some (.object "KeyStates$Page")), Cond.classLink RX1 12 RX1, Cond.instantiable RX1 2, Cond.methodLink RX1 22 ⟨"[LKeyStates$Entry;", "clone", "()Ljava/lang/Object;"⟩, Cond.sameMethod "[LKeyStates$Entry;" "java/lang/Object" "clone" "()Ljava/lang/Object;", Cond.native ⟨"java/lang/Object", "clone", "()Ljava/lang/Object;"⟩, Cond.instanceMethod ⟨"java/lang/Object", "clone", "()Ljava/lang/Object;"⟩, Cond.selects "[LKeyStates$Entry;" ⟨"[LKeyStates$Entry;", "clone", "()Ljava/lang/Object;"⟩ ⟨"java/lang/Object", "clone", "()Ljava/lang/Object;"⟩, Cond.classLink RX1 23 "[LKeyStates$Entry;"]
def wsX3_remove_r6 : List Cond := [Cond.methodLink RX1 21 yX1_init, Cond.instanceMethod yX1_init, Cond.code yX1_init cX1_init 1 none, Cond.methodLink RX1 3 objectInit, Cond.classLink RX1 9 RX0, Cond.methodLink RX3 270 yX1_keepEntry, Cond.instanceMethod yX1_keepEntry, Cond.selects RX1 yX1_keepEntry yX1_keepEntry, Cond.code yX1_keepEntry cX1_keepEntry 3 none, Cond.fieldLink RX1 31 "KeyStates$Entry" "state" "I", Cond.fieldLink RX1 34 "KeyStates$Entry" "key" "J", Cond.fieldLink RX1 38 "KeyStates$Entry" "span" "I", Cond.methodLink RX1 41 yX1_rowOf, Cond.methodLink RX1 45 yX1_freeRow, Cond.instanceMethod yX1_freeRow, Cond.selects RX1 yX1_freeRow yX1_freeRow, Cond.code yX1_freeRow cX1_freeRow 4 (some .int), Cond.methodLink RX1 49 yX0_isNone, Cond.instanceMethod yX0_isNone, Cond.selects RX0 yX0_isNone yX0_isNone, Cond.code yX0_isNone cX0_isNone 1 (some .boolean)]
def wsX3_remove : List Cond := .code yX3_remove cX3_remove 6 (some .boolean) :: ((wsX3_remove_r1 ++ (wsX3_remove_r2 ++ (wsX3_remove_r3 ++ (wsX3_remove_r4 ++ (wsX3_remove_r5 ++ wsX3_remove_r6))))) ++ wsX30 ++ wsX20 ++ wsX00 ++ wsX10 ++ (vx_atS RX3 250 "java/lang/IllegalArgumentException" ["java/lang/RuntimeException", "java/lang/Exception"]).filter goodWord ++ (vx_atS RX3 176 "java/lang/IndexOutOfBoundsException" ["java/lang/RuntimeException", "java/lang/Exception"]).filter goodWord ++ (vx_atS RX3 245 "java/lang/IllegalStateException" ["java/lang/RuntimeException", "java/lang/Exception"]).filter goodWord)
def wsX3_fold_r1 : List Cond := [Cond.fieldLink RX3 16 "KeyStates" "now" "LKeyStates$Picture;", Cond.fieldLink RX3 56 "KeyStates$Picture" "types" "[I", Cond.fieldLink RX3 137 "KeyStates$Entry" "folded" "I", Cond.methodLink RX3 63 yX3_needToWrite, Cond.instanceMethod yX3_needToWrite, Cond.selects RX3 yX3_needToWrite yX3_needToWrite, Cond.initialized RX3, Cond.code yX3_needToWrite cX3_needToWrite 5 none, Cond.classLink RX3 246 "java/lang/IllegalArgumentException", Cond.initialized "java/lang/IllegalArgumentException", Cond.fieldLink RX3 53 "KeyStates$Picture" "kinds" "[I", Cond.methodLink RX3 140 yX3_needState, Cond.instanceMethod yX3_needState, Cond.selects RX3 yX3_needState yX3_needState, Cond.code yX3_needState cX3_needState 2 none, Cond.classLink RX3 172 "java/lang/IndexOutOfBoundsException", Cond.initialized "java/lang/IndexOutOfBoundsException", Cond.fieldLink RX3 50 "KeyStates$Picture" "stateCount" "I", Cond.methodLink RX3 251 yX3_fits, Cond.static yX3_fits, Cond.code yX3_fits cX3_fits 4 (some .boolean), Cond.constantLong RX3 286 (-1000), Cond.constantLong RX3 288 (1000), Cond.methodLink RX3 144 yX3_needKey]
def wsX3_fold_r2 : List Cond := [Cond.instanceMethod yX3_needKey, Cond.selects RX3 yX3_needKey yX3_needKey, Cond.code yX3_needKey cX3_needKey 1 none, Cond.classLink RX3 241 "java/lang/IllegalStateException", Cond.initialized "java/lang/IllegalStateException", Cond.fieldLink RX3 35 "KeyStates" "hasKey" "Z", Cond.methodLink RX3 67 yX3_entryAtHand, Cond.instanceMethod yX3_entryAtHand, Cond.selects RX3 yX3_entryAtHand yX3_entryAtHand, Cond.code yX3_entryAtHand cX3_entryAtHand 2 (some (.object "KeyStates$Entry")), Cond.fieldLink RX3 39 "KeyStates" "keyAtHand" "J", Cond.fieldLink RX3 43 "KeyStates" "spanAtHand" "I", Cond.methodLink RX3 200 yX2_entryOf, Cond.instanceMethod yX2_entryOf, Cond.selects RX2 yX2_entryOf yX2_entryOf, Cond.initialized RX2, Cond.code yX2_entryOf cX2_entryOf 7 (some (.object "KeyStates$Entry")), Cond.fieldLink RX2 11 "KeyStates$Picture" "pages" "[LKeyStates$Page;", Cond.classLink RX2 45 RX0, Cond.instantiable RX0 6, Cond.initialized RX0, Cond.fieldLink RX2 50 "KeyStates$Page" "rows" "[LKeyStates$Entry;", Cond.static yX3_pageNumber, Cond.code yX3_pageNumber cX3_pageNumber 5 (some .int)]
def wsX3_fold_r3 : List Cond := [Cond.methodLink RX2 42 yX1_rowOf, Cond.instanceMethod yX1_rowOf, Cond.selects RX1 yX1_rowOf yX1_rowOf, Cond.initialized RX1, Cond.code yX1_rowOf cX1_rowOf 6 (some .int), Cond.fieldLink RX1 11 "KeyStates$Page" "rows" "[LKeyStates$Entry;", Cond.methodLink RX1 27 yX0_isAt, Cond.instanceMethod yX0_isAt, Cond.selects RX0 yX0_isAt yX0_isAt, Cond.code yX0_isAt cX0_isAt 5 (some .boolean), Cond.fieldLink RX0 9 "KeyStates$Entry" "state" "I", Cond.fieldLink RX0 15 "KeyStates$Entry" "key" "J", Cond.fieldLink RX0 19 "KeyStates$Entry" "span" "I", Cond.methodLink RX2 47 yX0_init, Cond.instanceMethod yX0_init, Cond.code yX0_init cX0_init 5 none, Cond.methodLink RX0 3 objectInit, Cond.instanceMethod objectInit, Cond.code objectInit ⟨#[0xb1]⟩ 1 none, Cond.fieldLink RX0 26 "KeyStates$Entry" "numbers" "[J", Cond.fieldLink RX0 29 "KeyStates$Entry" "members" "[J", Cond.fieldLink RX0 32 "KeyStates$Entry" "folded" "I", Cond.methodLink RX3 71 yX3_hasNoRoomFor, Cond.instanceMethod yX3_hasNoRoomFor]
def wsX3_fold_r4 : List Cond := [Cond.selects RX3 yX3_hasNoRoomFor yX3_hasNoRoomFor, Cond.code yX3_hasNoRoomFor cX3_hasNoRoomFor 2 (some .boolean), Cond.methodLink RX3 85 yX0_isNone, Cond.instanceMethod yX0_isNone, Cond.selects RX0 yX0_isNone yX0_isNone, Cond.code yX0_isNone cX0_isNone 1 (some .boolean), Cond.methodLink RX3 213 yX2_countEntries, Cond.instanceMethod yX2_countEntries, Cond.selects RX2 yX2_countEntries yX2_countEntries, Cond.code yX2_countEntries cX2_countEntries 3 (some .int), Cond.methodLink RX2 58 yX1_countEntries, Cond.instanceMethod yX1_countEntries, Cond.selects RX1 yX1_countEntries yX1_countEntries, Cond.code yX1_countEntries cX1_countEntries 3 (some .int), Cond.methodLink RX3 134 yX0_withFolded, Cond.instanceMethod yX0_withFolded, Cond.selects RX0 yX0_withFolded yX0_withFolded, Cond.code yX0_withFolded cX0_withFolded 6 (some (.object "KeyStates$Entry")), Cond.classLink RX0 10 RX0, Cond.arrayClass .long, Cond.methodLink RX0 55 yX0_isNone, Cond.static yX3_joined, Cond.code yX3_joined cX3_joined 5 (some .long), Cond.methodLink RX3 292 Lib.MathLoose.min_long.x]
def wsX3_fold_r5 : List Cond := [Cond.static Lib.MathLoose.min_long.x, Cond.initialized "java/lang/Math", Cond.code Lib.MathLoose.min_long.x Lib.MathLoose.min_long.code 4 (some .long), Cond.methodLink RX3 298 Lib.MathLoose.max_long.x, Cond.static Lib.MathLoose.max_long.x, Cond.code Lib.MathLoose.max_long.x Lib.MathLoose.max_long.code 4 (some .long), Cond.methodLink RX0 39 yX0_init_, Cond.instanceMethod yX0_init_, Cond.code yX0_init_ cX0_init_ 5 none, Cond.methodLink RX3 81 yX3_keep, Cond.instanceMethod yX3_keep, Cond.selects RX3 yX3_keep yX3_keep, Cond.code yX3_keep cX3_keep 2 none, Cond.fieldLink RX3 257 "KeyStates$Entry" "state" "I", Cond.fieldLink RX3 260 "KeyStates$Entry" "key" "J", Cond.fieldLink RX3 263 "KeyStates$Entry" "span" "I", Cond.methodLink RX3 266 yX3_pageNumber, Cond.methodLink RX3 161 yX3_pageToChange, Cond.instanceMethod yX3_pageToChange, Cond.selects RX3 yX3_pageToChange yX3_pageToChange, Cond.code yX3_pageToChange cX3_pageToChange 3 (some (.object "KeyStates$Page")), Cond.fieldLink RX3 151 "KeyStates$Picture" "pages" "[LKeyStates$Page;", Cond.fieldLink RX3 32 "KeyStates" "pagesCopied" "I", Cond.methodLink RX3 273 yX1_isShared]
def wsX3_fold_r6 : List Cond := [Cond.instanceMethod yX1_isShared, Cond.selects RX1 yX1_isShared yX1_isShared, Cond.code yX1_isShared cX1_isShared 1 (some .boolean), Cond.fieldLink RX1 17 "KeyStates$Page" "holders" "I", Cond.methodLink RX3 276 yX1_copied, Cond.instanceMethod yX1_copied, Cond.selects RX1 yX1_copied yX1_copied, Cond.code yX1_copied cX1_copied 2 (some (.object "KeyStates$Page")), Cond.classLink RX1 12 RX1, Cond.instantiable RX1 2, Cond.methodLink RX1 22 ⟨"[LKeyStates$Entry;", "clone", "()Ljava/lang/Object;"⟩, Cond.sameMethod "[LKeyStates$Entry;" "java/lang/Object" "clone" "()Ljava/lang/Object;", Cond.native ⟨"java/lang/Object", "clone", "()Ljava/lang/Object;"⟩, Cond.instanceMethod ⟨"java/lang/Object", "clone", "()Ljava/lang/Object;"⟩, Cond.selects "[LKeyStates$Entry;" ⟨"[LKeyStates$Entry;", "clone", "()Ljava/lang/Object;"⟩ ⟨"java/lang/Object", "clone", "()Ljava/lang/Object;"⟩, Cond.classLink RX1 23 "[LKeyStates$Entry;", Cond.methodLink RX1 21 yX1_init, Cond.instanceMethod yX1_init, Cond.code yX1_init cX1_init 1 none, Cond.methodLink RX1 3 objectInit, Cond.classLink RX1 9 RX0, Cond.methodLink RX3 270 yX1_keepEntry, Cond.instanceMethod yX1_keepEntry, Cond.selects RX1 yX1_keepEntry yX1_keepEntry]
def wsX3_fold_r7 : List Cond := [Cond.code yX1_keepEntry cX1_keepEntry 3 none, Cond.fieldLink RX1 31 "KeyStates$Entry" "state" "I", Cond.fieldLink RX1 34 "KeyStates$Entry" "key" "J", Cond.fieldLink RX1 38 "KeyStates$Entry" "span" "I", Cond.methodLink RX1 41 yX1_rowOf, Cond.methodLink RX1 45 yX1_freeRow, Cond.instanceMethod yX1_freeRow, Cond.selects RX1 yX1_freeRow yX1_freeRow, Cond.code yX1_freeRow cX1_freeRow 4 (some .int), Cond.methodLink RX1 49 yX0_isNone]
def wsX3_fold : List Cond := .code yX3_fold cX3_fold 5 (some .int) :: ((wsX3_fold_r1 ++ (wsX3_fold_r2 ++ (wsX3_fold_r3 ++ (wsX3_fold_r4 ++ (wsX3_fold_r5 ++ (wsX3_fold_r6 ++ wsX3_fold_r7)))))) ++ wsX30 ++ wsX20 ++ wsX00 ++ wsX10 ++ (vx_atS RX3 250 "java/lang/IllegalArgumentException" ["java/lang/RuntimeException", "java/lang/Exception"]).filter goodWord ++ (vx_atS RX3 176 "java/lang/IndexOutOfBoundsException" ["java/lang/RuntimeException", "java/lang/Exception"]).filter goodWord ++ (vx_atS RX3 245 "java/lang/IllegalStateException" ["java/lang/RuntimeException", "java/lang/Exception"]).filter goodWord)
def wsX3_size_r1 : List Cond := [Cond.fieldLink RX3 16 "KeyStates" "now" "LKeyStates$Picture;", Cond.fieldLink RX3 53 "KeyStates$Picture" "kinds" "[I", Cond.fieldLink RX3 137 "KeyStates$Entry" "folded" "I", Cond.fieldLink RX3 100 "KeyStates$Entry" "numbers" "[J", Cond.methodLink RX3 140 yX3_needState, Cond.instanceMethod yX3_needState, Cond.selects RX3 yX3_needState yX3_needState, Cond.initialized RX3, Cond.code yX3_needState cX3_needState 2 none, Cond.classLink RX3 172 "java/lang/IndexOutOfBoundsException", Cond.initialized "java/lang/IndexOutOfBoundsException", Cond.fieldLink RX3 50 "KeyStates$Picture" "stateCount" "I", Cond.methodLink RX3 144 yX3_needKey, Cond.instanceMethod yX3_needKey, Cond.selects RX3 yX3_needKey yX3_needKey, Cond.code yX3_needKey cX3_needKey 1 none, Cond.classLink RX3 241 "java/lang/IllegalStateException", Cond.initialized "java/lang/IllegalStateException", Cond.fieldLink RX3 35 "KeyStates" "hasKey" "Z", Cond.methodLink RX3 67 yX3_entryAtHand, Cond.instanceMethod yX3_entryAtHand, Cond.selects RX3 yX3_entryAtHand yX3_entryAtHand, Cond.code yX3_entryAtHand cX3_entryAtHand 2 (some (.object "KeyStates$Entry")), Cond.fieldLink RX3 39 "KeyStates" "keyAtHand" "J"]
def wsX3_size_r2 : List Cond := [Cond.fieldLink RX3 43 "KeyStates" "spanAtHand" "I", Cond.methodLink RX3 200 yX2_entryOf, Cond.instanceMethod yX2_entryOf, Cond.selects RX2 yX2_entryOf yX2_entryOf, Cond.initialized RX2, Cond.code yX2_entryOf cX2_entryOf 7 (some (.object "KeyStates$Entry")), Cond.fieldLink RX2 11 "KeyStates$Picture" "pages" "[LKeyStates$Page;", Cond.classLink RX2 45 RX0, Cond.instantiable RX0 6, Cond.initialized RX0, Cond.fieldLink RX2 50 "KeyStates$Page" "rows" "[LKeyStates$Entry;", Cond.static yX3_pageNumber, Cond.code yX3_pageNumber cX3_pageNumber 5 (some .int), Cond.methodLink RX2 42 yX1_rowOf, Cond.instanceMethod yX1_rowOf, Cond.selects RX1 yX1_rowOf yX1_rowOf, Cond.initialized RX1, Cond.code yX1_rowOf cX1_rowOf 6 (some .int), Cond.fieldLink RX1 11 "KeyStates$Page" "rows" "[LKeyStates$Entry;", Cond.methodLink RX1 27 yX0_isAt, Cond.instanceMethod yX0_isAt, Cond.selects RX0 yX0_isAt yX0_isAt, Cond.code yX0_isAt cX0_isAt 5 (some .boolean), Cond.fieldLink RX0 9 "KeyStates$Entry" "state" "I"]
def wsX3_size_r3 : List Cond := [Cond.fieldLink RX0 15 "KeyStates$Entry" "key" "J", Cond.fieldLink RX0 19 "KeyStates$Entry" "span" "I", Cond.methodLink RX2 47 yX0_init, Cond.instanceMethod yX0_init, Cond.code yX0_init cX0_init 5 none, Cond.methodLink RX0 3 objectInit, Cond.instanceMethod objectInit, Cond.code objectInit ⟨#[0xb1]⟩ 1 none, Cond.fieldLink RX0 26 "KeyStates$Entry" "numbers" "[J", Cond.fieldLink RX0 29 "KeyStates$Entry" "members" "[J", Cond.fieldLink RX0 32 "KeyStates$Entry" "folded" "I"]
def wsX3_size : List Cond := .code yX3_size cX3_size 3 (some .int) :: ((wsX3_size_r1 ++ (wsX3_size_r2 ++ wsX3_size_r3)) ++ wsX30 ++ wsX20 ++ wsX00 ++ wsX10 ++ (vx_atS RX3 176 "java/lang/IndexOutOfBoundsException" ["java/lang/RuntimeException", "java/lang/Exception"]).filter goodWord ++ (vx_atS RX3 245 "java/lang/IllegalStateException" ["java/lang/RuntimeException", "java/lang/Exception"]).filter goodWord)
def wsX3_clear_r1 : List Cond := [Cond.methodLink RX3 140 yX3_needState, Cond.instanceMethod yX3_needState, Cond.selects RX3 yX3_needState yX3_needState, Cond.initialized RX3, Cond.code yX3_needState cX3_needState 2 none, Cond.classLink RX3 172 "java/lang/IndexOutOfBoundsException", Cond.initialized "java/lang/IndexOutOfBoundsException", Cond.fieldLink RX3 16 "KeyStates" "now" "LKeyStates$Picture;", Cond.fieldLink RX3 50 "KeyStates$Picture" "stateCount" "I", Cond.methodLink RX3 144 yX3_needKey, Cond.instanceMethod yX3_needKey, Cond.selects RX3 yX3_needKey yX3_needKey, Cond.code yX3_needKey cX3_needKey 1 none, Cond.classLink RX3 241 "java/lang/IllegalStateException", Cond.initialized "java/lang/IllegalStateException", Cond.fieldLink RX3 35 "KeyStates" "hasKey" "Z", Cond.methodLink RX3 67 yX3_entryAtHand, Cond.instanceMethod yX3_entryAtHand, Cond.selects RX3 yX3_entryAtHand yX3_entryAtHand, Cond.code yX3_entryAtHand cX3_entryAtHand 2 (some (.object "KeyStates$Entry")), Cond.fieldLink RX3 39 "KeyStates" "keyAtHand" "J", Cond.fieldLink RX3 43 "KeyStates" "spanAtHand" "I", Cond.methodLink RX3 200 yX2_entryOf, Cond.instanceMethod yX2_entryOf]
def wsX3_clear_r2 : List Cond := [Cond.selects RX2 yX2_entryOf yX2_entryOf, Cond.initialized RX2, Cond.code yX2_entryOf cX2_entryOf 7 (some (.object "KeyStates$Entry")), Cond.fieldLink RX2 11 "KeyStates$Picture" "pages" "[LKeyStates$Page;", Cond.classLink RX2 45 RX0, Cond.instantiable RX0 6, Cond.initialized RX0, Cond.fieldLink RX2 50 "KeyStates$Page" "rows" "[LKeyStates$Entry;", Cond.static yX3_pageNumber, Cond.code yX3_pageNumber cX3_pageNumber 5 (some .int), Cond.methodLink RX2 42 yX1_rowOf, Cond.instanceMethod yX1_rowOf, Cond.selects RX1 yX1_rowOf yX1_rowOf, Cond.initialized RX1, Cond.code yX1_rowOf cX1_rowOf 6 (some .int), Cond.fieldLink RX1 11 "KeyStates$Page" "rows" "[LKeyStates$Entry;", Cond.methodLink RX1 27 yX0_isAt, Cond.instanceMethod yX0_isAt, Cond.selects RX0 yX0_isAt yX0_isAt, Cond.code yX0_isAt cX0_isAt 5 (some .boolean), Cond.fieldLink RX0 9 "KeyStates$Entry" "state" "I", Cond.fieldLink RX0 15 "KeyStates$Entry" "key" "J", Cond.fieldLink RX0 19 "KeyStates$Entry" "span" "I", Cond.methodLink RX2 47 yX0_init]
def wsX3_clear_r3 : List Cond := [Cond.instanceMethod yX0_init, Cond.code yX0_init cX0_init 5 none, Cond.methodLink RX0 3 objectInit, Cond.instanceMethod objectInit, Cond.code objectInit ⟨#[0xb1]⟩ 1 none, Cond.fieldLink RX0 26 "KeyStates$Entry" "numbers" "[J", Cond.fieldLink RX0 29 "KeyStates$Entry" "members" "[J", Cond.fieldLink RX0 32 "KeyStates$Entry" "folded" "I", Cond.methodLink RX3 85 yX0_isNone, Cond.instanceMethod yX0_isNone, Cond.selects RX0 yX0_isNone yX0_isNone, Cond.code yX0_isNone cX0_isNone 1 (some .boolean), Cond.methodLink RX3 147 yX0_withNothing, Cond.instanceMethod yX0_withNothing, Cond.selects RX0 yX0_withNothing yX0_withNothing, Cond.code yX0_withNothing cX0_withNothing 1 (some (.object "KeyStates$Entry")), Cond.classLink RX0 10 RX0, Cond.methodLink RX0 39 yX0_init_, Cond.instanceMethod yX0_init_, Cond.code yX0_init_ cX0_init_ 5 none, Cond.methodLink RX3 81 yX3_keep, Cond.instanceMethod yX3_keep, Cond.selects RX3 yX3_keep yX3_keep, Cond.code yX3_keep cX3_keep 2 none]
def wsX3_clear_r4 : List Cond := [Cond.fieldLink RX3 257 "KeyStates$Entry" "state" "I", Cond.fieldLink RX3 260 "KeyStates$Entry" "key" "J", Cond.fieldLink RX3 263 "KeyStates$Entry" "span" "I", Cond.methodLink RX3 266 yX3_pageNumber, Cond.methodLink RX3 161 yX3_pageToChange, Cond.instanceMethod yX3_pageToChange, Cond.selects RX3 yX3_pageToChange yX3_pageToChange, Cond.code yX3_pageToChange cX3_pageToChange 3 (some (.object "KeyStates$Page")), Cond.fieldLink RX3 151 "KeyStates$Picture" "pages" "[LKeyStates$Page;", Cond.fieldLink RX3 32 "KeyStates" "pagesCopied" "I", Cond.methodLink RX3 273 yX1_isShared, Cond.instanceMethod yX1_isShared, Cond.selects RX1 yX1_isShared yX1_isShared, Cond.code yX1_isShared cX1_isShared 1 (some .boolean), Cond.fieldLink RX1 17 "KeyStates$Page" "holders" "I", Cond.methodLink RX3 276 yX1_copied, Cond.instanceMethod yX1_copied, Cond.selects RX1 yX1_copied yX1_copied, Cond.code yX1_copied cX1_copied 2 (some (.object "KeyStates$Page")), Cond.classLink RX1 12 RX1, Cond.instantiable RX1 2, Cond.methodLink RX1 22 ⟨"[LKeyStates$Entry;", "clone", "()Ljava/lang/Object;"⟩, Cond.sameMethod "[LKeyStates$Entry;" "java/lang/Object" "clone" "()Ljava/lang/Object;", Cond.native ⟨"java/lang/Object", "clone", "()Ljava/lang/Object;"⟩]
def wsX3_clear_r5 : List Cond := [Cond.instanceMethod ⟨"java/lang/Object", "clone", "()Ljava/lang/Object;"⟩, Cond.selects "[LKeyStates$Entry;" ⟨"[LKeyStates$Entry;", "clone", "()Ljava/lang/Object;"⟩ ⟨"java/lang/Object", "clone", "()Ljava/lang/Object;"⟩, Cond.classLink RX1 23 "[LKeyStates$Entry;", Cond.methodLink RX1 21 yX1_init, Cond.instanceMethod yX1_init, Cond.code yX1_init cX1_init 1 none, Cond.methodLink RX1 3 objectInit, Cond.classLink RX1 9 RX0, Cond.methodLink RX3 270 yX1_keepEntry, Cond.instanceMethod yX1_keepEntry, Cond.selects RX1 yX1_keepEntry yX1_keepEntry, Cond.code yX1_keepEntry cX1_keepEntry 3 none, Cond.fieldLink RX1 31 "KeyStates$Entry" "state" "I", Cond.fieldLink RX1 34 "KeyStates$Entry" "key" "J", Cond.fieldLink RX1 38 "KeyStates$Entry" "span" "I", Cond.methodLink RX1 41 yX1_rowOf, Cond.methodLink RX1 45 yX1_freeRow, Cond.instanceMethod yX1_freeRow, Cond.selects RX1 yX1_freeRow yX1_freeRow, Cond.code yX1_freeRow cX1_freeRow 4 (some .int), Cond.methodLink RX1 49 yX0_isNone]
def wsX3_clear : List Cond := .code yX3_clear cX3_clear 3 (some .boolean) :: ((wsX3_clear_r1 ++ (wsX3_clear_r2 ++ (wsX3_clear_r3 ++ (wsX3_clear_r4 ++ wsX3_clear_r5)))) ++ wsX30 ++ wsX20 ++ wsX00 ++ wsX10 ++ (vx_atS RX3 176 "java/lang/IndexOutOfBoundsException" ["java/lang/RuntimeException", "java/lang/Exception"]).filter goodWord ++ (vx_atS RX3 245 "java/lang/IllegalStateException" ["java/lang/RuntimeException", "java/lang/Exception"]).filter goodWord)
def wsX3_clearSpan_r1 : List Cond := [Cond.fieldLink RX3 16 "KeyStates" "now" "LKeyStates$Picture;", Cond.fieldLink RX3 151 "KeyStates$Picture" "pages" "[LKeyStates$Page;", Cond.fieldLink RX3 43 "KeyStates" "spanAtHand" "I", Cond.methodLink RX3 155 yX1_hasSpan, Cond.instanceMethod yX1_hasSpan, Cond.selects RX1 yX1_hasSpan yX1_hasSpan, Cond.initialized RX1, Cond.code yX1_hasSpan cX1_hasSpan 3 (some .boolean), Cond.fieldLink RX1 11 "KeyStates$Page" "rows" "[LKeyStates$Entry;", Cond.fieldLink RX1 38 "KeyStates$Entry" "span" "I", Cond.methodLink RX3 161 yX3_pageToChange, Cond.instanceMethod yX3_pageToChange, Cond.selects RX3 yX3_pageToChange yX3_pageToChange, Cond.initialized RX3, Cond.code yX3_pageToChange cX3_pageToChange 3 (some (.object "KeyStates$Page")), Cond.fieldLink RX3 32 "KeyStates" "pagesCopied" "I", Cond.methodLink RX3 273 yX1_isShared, Cond.instanceMethod yX1_isShared, Cond.selects RX1 yX1_isShared yX1_isShared, Cond.code yX1_isShared cX1_isShared 1 (some .boolean), Cond.fieldLink RX1 17 "KeyStates$Page" "holders" "I", Cond.methodLink RX3 276 yX1_copied, Cond.instanceMethod yX1_copied, Cond.selects RX1 yX1_copied yX1_copied]
def wsX3_clearSpan_r2 : List Cond := [Cond.code yX1_copied cX1_copied 2 (some (.object "KeyStates$Page")), Cond.classLink RX1 12 RX1, Cond.instantiable RX1 2, Cond.methodLink RX1 22 ⟨"[LKeyStates$Entry;", "clone", "()Ljava/lang/Object;"⟩, Cond.sameMethod "[LKeyStates$Entry;" "java/lang/Object" "clone" "()Ljava/lang/Object;", Cond.native ⟨"java/lang/Object", "clone", "()Ljava/lang/Object;"⟩, Cond.instanceMethod ⟨"java/lang/Object", "clone", "()Ljava/lang/Object;"⟩, Cond.selects "[LKeyStates$Entry;" ⟨"[LKeyStates$Entry;", "clone", "()Ljava/lang/Object;"⟩ ⟨"java/lang/Object", "clone", "()Ljava/lang/Object;"⟩, Cond.classLink RX1 23 "[LKeyStates$Entry;", Cond.methodLink RX1 21 yX1_init, Cond.instanceMethod yX1_init, Cond.code yX1_init cX1_init 1 none, Cond.methodLink RX1 3 objectInit, Cond.instanceMethod objectInit, Cond.code objectInit ⟨#[0xb1]⟩ 1 none, Cond.classLink RX1 9 RX0, Cond.methodLink RX3 165 yX1_loseSpan, Cond.instanceMethod yX1_loseSpan, Cond.selects RX1 yX1_loseSpan yX1_loseSpan, Cond.code yX1_loseSpan cX1_loseSpan 4 (some .int)]
def wsX3_clearSpan : List Cond := .code yX3_clearSpan cX3_clearSpan 3 (some .int) :: ((wsX3_clearSpan_r1 ++ wsX3_clearSpan_r2) ++ wsX30 ++ wsX20 ++ wsX10 ++ wsX00)
def wsX3_sortKeys : List Cond := .code yX3_sortKeys cX3_sortKeys 4 (some .int) :: ([.fieldLink RX3 16 "KeyStates" "now" "LKeyStates$Picture;", .fieldLink RX3 151 "KeyStates$Picture" "pages" "[LKeyStates$Page;", .fieldLink RX3 24 "KeyStates" "risingKeys" "[J", .fieldLink RX3 43 "KeyStates" "spanAtHand" "I", .methodLink RX3 280 yX1_sortKeysInto, .instanceMethod yX1_sortKeysInto, .selects RX1 yX1_sortKeysInto yX1_sortKeysInto, .initialized RX1, .code yX1_sortKeysInto cX1_sortKeysInto 8 (some .int), .fieldLink RX1 11 "KeyStates$Page" "rows" "[LKeyStates$Entry;", .fieldLink RX1 31 "KeyStates$Entry" "state" "I", .fieldLink RX1 38 "KeyStates$Entry" "span" "I", .fieldLink RX1 34 "KeyStates$Entry" "key" "J", .methodLink RX1 65 arraycopyName, .native arraycopyName, .static arraycopyName, .initialized "java/lang/System", .static yX3_countBelow, .initialized RX3, .code yX3_countBelow cX3_countBelow 5 (some .int)] ++ wsX30 ++ wsX20 ++ wsX10 ++ wsX00)
def wsX3_keys_r1 : List Cond := [Cond.methodLink RX3 140 yX3_needState, Cond.instanceMethod yX3_needState, Cond.selects RX3 yX3_needState yX3_needState, Cond.initialized RX3, Cond.code yX3_needState cX3_needState 2 none, Cond.classLink RX3 172 "java/lang/IndexOutOfBoundsException", Cond.initialized "java/lang/IndexOutOfBoundsException", Cond.fieldLink RX3 16 "KeyStates" "now" "LKeyStates$Picture;", Cond.fieldLink RX3 50 "KeyStates$Picture" "stateCount" "I", Cond.methodLink RX3 169 yX3_sortKeys, Cond.instanceMethod yX3_sortKeys, Cond.selects RX3 yX3_sortKeys yX3_sortKeys, Cond.code yX3_sortKeys cX3_sortKeys 4 (some .int), Cond.fieldLink RX3 151 "KeyStates$Picture" "pages" "[LKeyStates$Page;", Cond.fieldLink RX3 24 "KeyStates" "risingKeys" "[J", Cond.fieldLink RX3 43 "KeyStates" "spanAtHand" "I", Cond.methodLink RX3 280 yX1_sortKeysInto, Cond.instanceMethod yX1_sortKeysInto, Cond.selects RX1 yX1_sortKeysInto yX1_sortKeysInto, Cond.initialized RX1, Cond.code yX1_sortKeysInto cX1_sortKeysInto 8 (some .int), Cond.fieldLink RX1 11 "KeyStates$Page" "rows" "[LKeyStates$Entry;", Cond.fieldLink RX1 31 "KeyStates$Entry" "state" "I", Cond.fieldLink RX1 38 "KeyStates$Entry" "span" "I"]
def wsX3_keys_r2 : List Cond := [Cond.fieldLink RX1 34 "KeyStates$Entry" "key" "J", Cond.methodLink RX1 65 arraycopyName, Cond.native arraycopyName, Cond.static arraycopyName, Cond.initialized "java/lang/System", Cond.static yX3_countBelow, Cond.code yX3_countBelow cX3_countBelow 5 (some .int)]
def wsX3_keys : List Cond := .code yX3_keys cX3_keys 2 (some .int) :: ((wsX3_keys_r1 ++ wsX3_keys_r2) ++ wsX30 ++ wsX20 ++ wsX10 ++ wsX00 ++ (vx_atS RX3 176 "java/lang/IndexOutOfBoundsException" ["java/lang/RuntimeException", "java/lang/Exception"]).filter goodWord)
def wsX3_keyAt_r1 : List Cond := [Cond.classLink RX3 172 "java/lang/IndexOutOfBoundsException", Cond.initialized "java/lang/IndexOutOfBoundsException", Cond.fieldLink RX3 24 "KeyStates" "risingKeys" "[J", Cond.methodLink RX3 140 yX3_needState, Cond.instanceMethod yX3_needState, Cond.selects RX3 yX3_needState yX3_needState, Cond.initialized RX3, Cond.code yX3_needState cX3_needState 2 none, Cond.fieldLink RX3 16 "KeyStates" "now" "LKeyStates$Picture;", Cond.fieldLink RX3 50 "KeyStates$Picture" "stateCount" "I", Cond.methodLink RX3 169 yX3_sortKeys, Cond.instanceMethod yX3_sortKeys, Cond.selects RX3 yX3_sortKeys yX3_sortKeys, Cond.code yX3_sortKeys cX3_sortKeys 4 (some .int), Cond.fieldLink RX3 151 "KeyStates$Picture" "pages" "[LKeyStates$Page;", Cond.fieldLink RX3 43 "KeyStates" "spanAtHand" "I", Cond.methodLink RX3 280 yX1_sortKeysInto, Cond.instanceMethod yX1_sortKeysInto, Cond.selects RX1 yX1_sortKeysInto yX1_sortKeysInto, Cond.initialized RX1, Cond.code yX1_sortKeysInto cX1_sortKeysInto 8 (some .int), Cond.fieldLink RX1 11 "KeyStates$Page" "rows" "[LKeyStates$Entry;", Cond.fieldLink RX1 31 "KeyStates$Entry" "state" "I", Cond.fieldLink RX1 38 "KeyStates$Entry" "span" "I"]
def wsX3_keyAt_r2 : List Cond := [Cond.fieldLink RX1 34 "KeyStates$Entry" "key" "J", Cond.methodLink RX1 65 arraycopyName, Cond.native arraycopyName, Cond.static arraycopyName, Cond.initialized "java/lang/System", Cond.static yX3_countBelow, Cond.code yX3_countBelow cX3_countBelow 5 (some .int)]
def wsX3_keyAt : List Cond := .code yX3_keyAt cX3_keyAt 4 (some .long) :: ((wsX3_keyAt_r1 ++ wsX3_keyAt_r2) ++ wsX30 ++ wsX20 ++ wsX10 ++ wsX00 ++ (vx_atS RX3 176 "java/lang/IndexOutOfBoundsException" ["java/lang/RuntimeException", "java/lang/Exception"]).filter goodWord)
def wsX3_snapshot_r1 : List Cond := [Cond.fieldLink RX3 20 "KeyStates" "snapshots" "[LKeyStates$Picture;", Cond.fieldLink RX3 16 "KeyStates" "now" "LKeyStates$Picture;", Cond.fieldLink RX3 28 "KeyStates" "snapshotsTaken" "I", Cond.fieldLink RX3 181 "KeyStates$Picture" "number" "I", Cond.methodLink RX3 177 yX2_taken, Cond.instanceMethod yX2_taken, Cond.selects RX2 yX2_taken yX2_taken, Cond.initialized RX2, Cond.code yX2_taken cX2_taken 4 (some (.object "KeyStates$Picture")), Cond.classLink RX2 12 RX2, Cond.instantiable RX2 5, Cond.fieldLink RX2 11 "KeyStates$Picture" "pages" "[LKeyStates$Page;", Cond.fieldLink RX2 35 "KeyStates$Page" "holders" "I", Cond.methodLink RX2 32 yX2_init_, Cond.instanceMethod yX2_init_, Cond.code yX2_init_ cX2_init_ 4 none, Cond.methodLink RX2 3 objectInit, Cond.instanceMethod objectInit, Cond.code objectInit ⟨#[0xb1]⟩ 1 none, Cond.classLink RX2 9 RX1, Cond.arrayClass .int, Cond.fieldLink RX2 17 "KeyStates$Picture" "kinds" "[I", Cond.fieldLink RX2 21 "KeyStates$Picture" "types" "[I", Cond.fieldLink RX2 24 "KeyStates$Picture" "stateCount" "I"]
def wsX3_snapshot_r2 : List Cond := [Cond.fieldLink RX2 28 "KeyStates$Picture" "number" "I"]
def wsX3_snapshot : List Cond := .code yX3_snapshot cX3_snapshot 3 (some .int) :: ((wsX3_snapshot_r1 ++ wsX3_snapshot_r2) ++ wsX30 ++ wsX20 ++ wsX10)
def wsX3_slotOf : List Cond := .code yX3_slotOf cX3_slotOf 4 (some .int) :: ([.fieldLink RX3 20 "KeyStates" "snapshots" "[LKeyStates$Picture;", .fieldLink RX3 181 "KeyStates$Picture" "number" "I"] ++ wsX30 ++ wsX20)
def wsX3_snapshotIn : List Cond := .code yX3_snapshotIn cX3_snapshotIn 3 (some (.object "KeyStates$Picture")) :: ([.classLink RX3 172 "java/lang/IndexOutOfBoundsException", .initialized "java/lang/IndexOutOfBoundsException", .fieldLink RX3 20 "KeyStates" "snapshots" "[LKeyStates$Picture;"] ++ wsX30 ++ (vx_atS RX3 176 "java/lang/IndexOutOfBoundsException" ["java/lang/RuntimeException", "java/lang/Exception"]).filter goodWord)
def wsX3_drop_r1 : List Cond := [Cond.fieldLink RX3 20 "KeyStates" "snapshots" "[LKeyStates$Picture;", Cond.fieldLink RX3 16 "KeyStates" "now" "LKeyStates$Picture;", Cond.methodLink RX3 184 yX3_slotOf, Cond.instanceMethod yX3_slotOf, Cond.selects RX3 yX3_slotOf yX3_slotOf, Cond.initialized RX3, Cond.code yX3_slotOf cX3_slotOf 4 (some .int), Cond.fieldLink RX3 181 "KeyStates$Picture" "number" "I", Cond.methodLink RX3 187 yX3_snapshotIn, Cond.instanceMethod yX3_snapshotIn, Cond.selects RX3 yX3_snapshotIn yX3_snapshotIn, Cond.code yX3_snapshotIn cX3_snapshotIn 3 (some (.object "KeyStates$Picture")), Cond.classLink RX3 172 "java/lang/IndexOutOfBoundsException", Cond.initialized "java/lang/IndexOutOfBoundsException", Cond.methodLink RX3 190 yX2_releasePages, Cond.instanceMethod yX2_releasePages, Cond.selects RX2 yX2_releasePages yX2_releasePages, Cond.initialized RX2, Cond.code yX2_releasePages cX2_releasePages 2 none, Cond.fieldLink RX2 11 "KeyStates$Picture" "pages" "[LKeyStates$Page;", Cond.fieldLink RX2 35 "KeyStates$Page" "holders" "I", Cond.methodLink RX3 193 yX2_countShared, Cond.instanceMethod yX2_countShared, Cond.selects RX2 yX2_countShared yX2_countShared]
def wsX3_drop_r2 : List Cond := [Cond.code yX2_countShared cX2_countShared 3 (some .int), Cond.methodLink RX2 69 yX1_isShared, Cond.instanceMethod yX1_isShared, Cond.selects RX1 yX1_isShared yX1_isShared, Cond.initialized RX1, Cond.code yX1_isShared cX1_isShared 1 (some .boolean), Cond.fieldLink RX1 17 "KeyStates$Page" "holders" "I"]
def wsX3_drop : List Cond := .code yX3_drop cX3_drop 3 (some .int) :: ((wsX3_drop_r1 ++ wsX3_drop_r2) ++ wsX30 ++ wsX20 ++ wsX10 ++ (vx_atS RX3 176 "java/lang/IndexOutOfBoundsException" ["java/lang/RuntimeException", "java/lang/Exception"]).filter goodWord)
def wsX3_pictureOf : List Cond := .code yX3_pictureOf cX3_pictureOf 2 (some (.object "KeyStates$Picture")) :: ([.fieldLink RX3 16 "KeyStates" "now" "LKeyStates$Picture;", .methodLink RX3 184 yX3_slotOf, .instanceMethod yX3_slotOf, .selects RX3 yX3_slotOf yX3_slotOf, .initialized RX3, .code yX3_slotOf cX3_slotOf 4 (some .int), .fieldLink RX3 20 "KeyStates" "snapshots" "[LKeyStates$Picture;", .fieldLink RX3 181 "KeyStates$Picture" "number" "I", .methodLink RX3 187 yX3_snapshotIn, .instanceMethod yX3_snapshotIn, .selects RX3 yX3_snapshotIn yX3_snapshotIn, .code yX3_snapshotIn cX3_snapshotIn 3 (some (.object "KeyStates$Picture")), .classLink RX3 172 "java/lang/IndexOutOfBoundsException", .initialized "java/lang/IndexOutOfBoundsException"] ++ wsX30 ++ wsX20 ++ (vx_atS RX3 176 "java/lang/IndexOutOfBoundsException" ["java/lang/RuntimeException", "java/lang/Exception"]).filter goodWord)
def wsX3_ask_r1 : List Cond := [Cond.classLink RX3 93 "java/util/NoSuchElementException", Cond.initialized "java/util/NoSuchElementException", Cond.fieldLink RX3 100 "KeyStates$Entry" "numbers" "[J", Cond.methodLink RX3 197 yX3_pictureOf, Cond.instanceMethod yX3_pictureOf, Cond.selects RX3 yX3_pictureOf yX3_pictureOf, Cond.initialized RX3, Cond.code yX3_pictureOf cX3_pictureOf 2 (some (.object "KeyStates$Picture")), Cond.fieldLink RX3 16 "KeyStates" "now" "LKeyStates$Picture;", Cond.methodLink RX3 184 yX3_slotOf, Cond.instanceMethod yX3_slotOf, Cond.selects RX3 yX3_slotOf yX3_slotOf, Cond.code yX3_slotOf cX3_slotOf 4 (some .int), Cond.fieldLink RX3 20 "KeyStates" "snapshots" "[LKeyStates$Picture;", Cond.fieldLink RX3 181 "KeyStates$Picture" "number" "I", Cond.methodLink RX3 187 yX3_snapshotIn, Cond.instanceMethod yX3_snapshotIn, Cond.selects RX3 yX3_snapshotIn yX3_snapshotIn, Cond.code yX3_snapshotIn cX3_snapshotIn 3 (some (.object "KeyStates$Picture")), Cond.classLink RX3 172 "java/lang/IndexOutOfBoundsException", Cond.initialized "java/lang/IndexOutOfBoundsException", Cond.methodLink RX3 140 yX3_needState, Cond.instanceMethod yX3_needState, Cond.selects RX3 yX3_needState yX3_needState]
def wsX3_ask_r2 : List Cond := [Cond.code yX3_needState cX3_needState 2 none, Cond.fieldLink RX3 50 "KeyStates$Picture" "stateCount" "I", Cond.methodLink RX3 200 yX2_entryOf, Cond.instanceMethod yX2_entryOf, Cond.selects RX2 yX2_entryOf yX2_entryOf, Cond.initialized RX2, Cond.code yX2_entryOf cX2_entryOf 7 (some (.object "KeyStates$Entry")), Cond.fieldLink RX2 11 "KeyStates$Picture" "pages" "[LKeyStates$Page;", Cond.classLink RX2 45 RX0, Cond.instantiable RX0 6, Cond.initialized RX0, Cond.fieldLink RX2 50 "KeyStates$Page" "rows" "[LKeyStates$Entry;", Cond.static yX3_pageNumber, Cond.code yX3_pageNumber cX3_pageNumber 5 (some .int), Cond.methodLink RX2 42 yX1_rowOf, Cond.instanceMethod yX1_rowOf, Cond.selects RX1 yX1_rowOf yX1_rowOf, Cond.initialized RX1, Cond.code yX1_rowOf cX1_rowOf 6 (some .int), Cond.fieldLink RX1 11 "KeyStates$Page" "rows" "[LKeyStates$Entry;", Cond.methodLink RX1 27 yX0_isAt, Cond.instanceMethod yX0_isAt, Cond.selects RX0 yX0_isAt yX0_isAt, Cond.code yX0_isAt cX0_isAt 5 (some .boolean)]
def wsX3_ask_r3 : List Cond := [Cond.fieldLink RX0 9 "KeyStates$Entry" "state" "I", Cond.fieldLink RX0 15 "KeyStates$Entry" "key" "J", Cond.fieldLink RX0 19 "KeyStates$Entry" "span" "I", Cond.methodLink RX2 47 yX0_init, Cond.instanceMethod yX0_init, Cond.code yX0_init cX0_init 5 none, Cond.methodLink RX0 3 objectInit, Cond.instanceMethod objectInit, Cond.code objectInit ⟨#[0xb1]⟩ 1 none, Cond.fieldLink RX0 26 "KeyStates$Entry" "numbers" "[J", Cond.fieldLink RX0 29 "KeyStates$Entry" "members" "[J", Cond.fieldLink RX0 32 "KeyStates$Entry" "folded" "I"]
def wsX3_ask : List Cond := .code yX3_ask cX3_ask 9 (some .long) :: ((wsX3_ask_r1 ++ (wsX3_ask_r2 ++ wsX3_ask_r3)) ++ wsX00 ++ wsX30 ++ wsX20 ++ wsX10 ++ (vx_atS RX3 97 "java/util/NoSuchElementException" ["java/lang/RuntimeException", "java/lang/Exception"]).filter goodWord ++ (vx_atS RX3 176 "java/lang/IndexOutOfBoundsException" ["java/lang/RuntimeException", "java/lang/Exception"]).filter goodWord)
def wsX3_entries_r1 : List Cond := [Cond.methodLink RX3 197 yX3_pictureOf, Cond.instanceMethod yX3_pictureOf, Cond.selects RX3 yX3_pictureOf yX3_pictureOf, Cond.initialized RX3, Cond.code yX3_pictureOf cX3_pictureOf 2 (some (.object "KeyStates$Picture")), Cond.fieldLink RX3 16 "KeyStates" "now" "LKeyStates$Picture;", Cond.methodLink RX3 184 yX3_slotOf, Cond.instanceMethod yX3_slotOf, Cond.selects RX3 yX3_slotOf yX3_slotOf, Cond.code yX3_slotOf cX3_slotOf 4 (some .int), Cond.fieldLink RX3 20 "KeyStates" "snapshots" "[LKeyStates$Picture;", Cond.fieldLink RX3 181 "KeyStates$Picture" "number" "I", Cond.methodLink RX3 187 yX3_snapshotIn, Cond.instanceMethod yX3_snapshotIn, Cond.selects RX3 yX3_snapshotIn yX3_snapshotIn, Cond.code yX3_snapshotIn cX3_snapshotIn 3 (some (.object "KeyStates$Picture")), Cond.classLink RX3 172 "java/lang/IndexOutOfBoundsException", Cond.initialized "java/lang/IndexOutOfBoundsException", Cond.methodLink RX3 140 yX3_needState, Cond.instanceMethod yX3_needState, Cond.selects RX3 yX3_needState yX3_needState, Cond.code yX3_needState cX3_needState 2 none, Cond.fieldLink RX3 50 "KeyStates$Picture" "stateCount" "I", Cond.methodLink RX3 206 yX2_countEntriesOf]
def wsX3_entries_r2 : List Cond := [Cond.instanceMethod yX2_countEntriesOf, Cond.selects RX2 yX2_countEntriesOf yX2_countEntriesOf, Cond.initialized RX2, Cond.code yX2_countEntriesOf cX2_countEntriesOf 4 (some .int), Cond.fieldLink RX2 11 "KeyStates$Picture" "pages" "[LKeyStates$Page;", Cond.methodLink RX2 62 yX1_countEntriesOf, Cond.instanceMethod yX1_countEntriesOf, Cond.selects RX1 yX1_countEntriesOf yX1_countEntriesOf, Cond.initialized RX1, Cond.code yX1_countEntriesOf cX1_countEntriesOf 4 (some .int), Cond.fieldLink RX1 11 "KeyStates$Page" "rows" "[LKeyStates$Entry;", Cond.fieldLink RX1 31 "KeyStates$Entry" "state" "I"]
def wsX3_entries : List Cond := .code yX3_entries cX3_entries 4 (some .int) :: ((wsX3_entries_r1 ++ wsX3_entries_r2) ++ wsX30 ++ wsX20 ++ wsX10 ++ wsX00 ++ (vx_atS RX3 176 "java/lang/IndexOutOfBoundsException" ["java/lang/RuntimeException", "java/lang/Exception"]).filter goodWord)
def wsX3_restore_r1 : List Cond := [Cond.fieldLink RX3 16 "KeyStates" "now" "LKeyStates$Picture;", Cond.methodLink RX3 184 yX3_slotOf, Cond.instanceMethod yX3_slotOf, Cond.selects RX3 yX3_slotOf yX3_slotOf, Cond.initialized RX3, Cond.code yX3_slotOf cX3_slotOf 4 (some .int), Cond.fieldLink RX3 20 "KeyStates" "snapshots" "[LKeyStates$Picture;", Cond.fieldLink RX3 181 "KeyStates$Picture" "number" "I", Cond.methodLink RX3 187 yX3_snapshotIn, Cond.instanceMethod yX3_snapshotIn, Cond.selects RX3 yX3_snapshotIn yX3_snapshotIn, Cond.code yX3_snapshotIn cX3_snapshotIn 3 (some (.object "KeyStates$Picture")), Cond.classLink RX3 172 "java/lang/IndexOutOfBoundsException", Cond.initialized "java/lang/IndexOutOfBoundsException", Cond.methodLink RX3 209 yX2_becomeLike, Cond.instanceMethod yX2_becomeLike, Cond.selects RX2 yX2_becomeLike yX2_becomeLike, Cond.initialized RX2, Cond.code yX2_becomeLike cX2_becomeLike 3 none, Cond.fieldLink RX2 11 "KeyStates$Picture" "pages" "[LKeyStates$Page;", Cond.fieldLink RX2 24 "KeyStates$Picture" "stateCount" "I", Cond.fieldLink RX2 17 "KeyStates$Picture" "kinds" "[I", Cond.fieldLink RX2 21 "KeyStates$Picture" "types" "[I", Cond.methodLink RX3 213 yX2_countEntries]
def wsX3_restore_r2 : List Cond := [Cond.instanceMethod yX2_countEntries, Cond.selects RX2 yX2_countEntries yX2_countEntries, Cond.code yX2_countEntries cX2_countEntries 3 (some .int), Cond.methodLink RX2 58 yX1_countEntries, Cond.instanceMethod yX1_countEntries, Cond.selects RX1 yX1_countEntries yX1_countEntries, Cond.initialized RX1, Cond.code yX1_countEntries cX1_countEntries 3 (some .int), Cond.fieldLink RX1 11 "KeyStates$Page" "rows" "[LKeyStates$Entry;"]
def wsX3_restore : List Cond := .code yX3_restore cX3_restore 2 (some .int) :: ((wsX3_restore_r1 ++ wsX3_restore_r2) ++ wsX30 ++ wsX20 ++ wsX10 ++ (vx_atS RX3 176 "java/lang/IndexOutOfBoundsException" ["java/lang/RuntimeException", "java/lang/Exception"]).filter goodWord)
def wsX3_canMove : List Cond := .code yX3_canMove cX3_canMove 2 (some .boolean) :: ([])
def wsX3_move_r1 : List Cond := [Cond.fieldLink RX3 16 "KeyStates" "now" "LKeyStates$Picture;", Cond.fieldLink RX3 53 "KeyStates$Picture" "kinds" "[I", Cond.fieldLink RX3 151 "KeyStates$Picture" "pages" "[LKeyStates$Page;", Cond.fieldLink RX3 56 "KeyStates$Picture" "types" "[I", Cond.methodLink RX3 140 yX3_needState, Cond.instanceMethod yX3_needState, Cond.selects RX3 yX3_needState yX3_needState, Cond.initialized RX3, Cond.code yX3_needState cX3_needState 2 none, Cond.classLink RX3 172 "java/lang/IndexOutOfBoundsException", Cond.initialized "java/lang/IndexOutOfBoundsException", Cond.fieldLink RX3 50 "KeyStates$Picture" "stateCount" "I", Cond.methodLink RX3 46 yX3_isKindAndType, Cond.static yX3_isKindAndType, Cond.code yX3_isKindAndType cX3_isKindAndType 2 (some .boolean), Cond.methodLink RX3 216 yX3_canMove, Cond.static yX3_canMove, Cond.code yX3_canMove cX3_canMove 2 (some .boolean), Cond.methodLink RX3 219 yX2_allFit, Cond.instanceMethod yX2_allFit, Cond.selects RX2 yX2_allFit yX2_allFit, Cond.initialized RX2, Cond.code yX2_allFit cX2_allFit 5 (some .boolean), Cond.fieldLink RX2 11 "KeyStates$Picture" "pages" "[LKeyStates$Page;"]
def wsX3_move_r2 : List Cond := [Cond.methodLink RX2 54 yX1_allFit, Cond.instanceMethod yX1_allFit, Cond.selects RX1 yX1_allFit yX1_allFit, Cond.initialized RX1, Cond.code yX1_allFit cX1_allFit 5 (some .boolean), Cond.fieldLink RX1 11 "KeyStates$Page" "rows" "[LKeyStates$Entry;", Cond.fieldLink RX1 31 "KeyStates$Entry" "state" "I", Cond.methodLink RX1 53 yX0_allFit, Cond.instanceMethod yX0_allFit, Cond.selects RX0 yX0_allFit yX0_allFit, Cond.initialized RX0, Cond.code yX0_allFit cX0_allFit 4 (some .boolean), Cond.fieldLink RX0 26 "KeyStates$Entry" "numbers" "[J", Cond.static yX3_fits, Cond.code yX3_fits cX3_fits 4 (some .boolean), Cond.constantLong RX3 286 (-1000), Cond.constantLong RX3 288 (1000), Cond.methodLink RX3 223 yX1_countEntriesOf, Cond.instanceMethod yX1_countEntriesOf, Cond.selects RX1 yX1_countEntriesOf yX1_countEntriesOf, Cond.code yX1_countEntriesOf cX1_countEntriesOf 4 (some .int), Cond.methodLink RX3 161 yX3_pageToChange, Cond.instanceMethod yX3_pageToChange, Cond.selects RX3 yX3_pageToChange yX3_pageToChange]
def wsX3_move_r3 : List Cond := [Cond.code yX3_pageToChange cX3_pageToChange 3 (some (.object "KeyStates$Page")), Cond.fieldLink RX3 32 "KeyStates" "pagesCopied" "I", Cond.methodLink RX3 273 yX1_isShared, Cond.instanceMethod yX1_isShared, Cond.selects RX1 yX1_isShared yX1_isShared, Cond.code yX1_isShared cX1_isShared 1 (some .boolean), Cond.fieldLink RX1 17 "KeyStates$Page" "holders" "I", Cond.methodLink RX3 276 yX1_copied, Cond.instanceMethod yX1_copied, Cond.selects RX1 yX1_copied yX1_copied, Cond.code yX1_copied cX1_copied 2 (some (.object "KeyStates$Page")), Cond.classLink RX1 12 RX1, Cond.instantiable RX1 2, Cond.methodLink RX1 22 ⟨"[LKeyStates$Entry;", "clone", "()Ljava/lang/Object;"⟩, Cond.sameMethod "[LKeyStates$Entry;" "java/lang/Object" "clone" "()Ljava/lang/Object;", Cond.native ⟨"java/lang/Object", "clone", "()Ljava/lang/Object;"⟩, Cond.instanceMethod ⟨"java/lang/Object", "clone", "()Ljava/lang/Object;"⟩, Cond.selects "[LKeyStates$Entry;" ⟨"[LKeyStates$Entry;", "clone", "()Ljava/lang/Object;"⟩ ⟨"java/lang/Object", "clone", "()Ljava/lang/Object;"⟩, Cond.classLink RX1 23 "[LKeyStates$Entry;", Cond.methodLink RX1 21 yX1_init, Cond.instanceMethod yX1_init, Cond.code yX1_init cX1_init 1 none, Cond.methodLink RX1 3 objectInit, Cond.instanceMethod objectInit]
def wsX3_move_r4 : List Cond := [Cond.code objectInit ⟨#[0xb1]⟩ 1 none, Cond.classLink RX1 9 RX0, Cond.methodLink RX3 224 yX1_moveEntries, Cond.instanceMethod yX1_moveEntries, Cond.selects RX1 yX1_moveEntries yX1_moveEntries, Cond.code yX1_moveEntries cX1_moveEntries 6 (some .int), Cond.methodLink RX1 57 yX0_movedTo, Cond.instanceMethod yX0_movedTo, Cond.selects RX0 yX0_movedTo yX0_movedTo, Cond.code yX0_movedTo cX0_movedTo 3 (some (.object "KeyStates$Entry")), Cond.fieldLink RX0 29 "KeyStates$Entry" "members" "[J", Cond.fieldLink RX0 32 "KeyStates$Entry" "folded" "I", Cond.classLink RX0 10 RX0, Cond.instantiable RX0 6, Cond.methodLink RX0 67 yX0_foldedUp, Cond.instanceMethod yX0_foldedUp, Cond.selects RX0 yX0_foldedUp yX0_foldedUp, Cond.code yX0_foldedUp cX0_foldedUp 5 (some (.object "KeyStates$Entry")), Cond.arrayClass .long, Cond.methodLink RX0 55 yX0_isNone, Cond.instanceMethod yX0_isNone, Cond.selects RX0 yX0_isNone yX0_isNone, Cond.code yX0_isNone cX0_isNone 1 (some .boolean), Cond.static yX3_joined]
def wsX3_move_r5 : List Cond := [Cond.code yX3_joined cX3_joined 5 (some .long), Cond.methodLink RX3 292 Lib.MathLoose.min_long.x, Cond.static Lib.MathLoose.min_long.x, Cond.initialized "java/lang/Math", Cond.code Lib.MathLoose.min_long.x Lib.MathLoose.min_long.code 4 (some .long), Cond.methodLink RX3 298 Lib.MathLoose.max_long.x, Cond.static Lib.MathLoose.max_long.x, Cond.code Lib.MathLoose.max_long.x Lib.MathLoose.max_long.code 4 (some .long), Cond.methodLink RX0 39 yX0_init_, Cond.instanceMethod yX0_init_, Cond.code yX0_init_ cX0_init_ 5 none, Cond.methodLink RX0 3 objectInit, Cond.fieldLink RX0 9 "KeyStates$Entry" "state" "I", Cond.fieldLink RX0 15 "KeyStates$Entry" "key" "J", Cond.fieldLink RX0 19 "KeyStates$Entry" "span" "I"]
def wsX3_move : List Cond := .code yX3_move cX3_move 6 (some .int) :: ((wsX3_move_r1 ++ (wsX3_move_r2 ++ (wsX3_move_r3 ++ (wsX3_move_r4 ++ wsX3_move_r5)))) ++ wsX30 ++ wsX20 ++ wsX10 ++ wsX00 ++ (vx_atS RX3 176 "java/lang/IndexOutOfBoundsException" ["java/lang/RuntimeException", "java/lang/Exception"]).filter goodWord)
def wsX3_of : List Cond := .code yX3_of cX3_of 3 (some .int) :: ([.classLink RX3 172 "java/lang/IndexOutOfBoundsException", .initialized "java/lang/IndexOutOfBoundsException", .fieldLink RX3 9 "KeyStates" "names" "[I", .fieldLink RX3 16 "KeyStates" "now" "LKeyStates$Picture;", .fieldLink RX3 53 "KeyStates$Picture" "kinds" "[I", .fieldLink RX3 56 "KeyStates$Picture" "types" "[I", .methodLink RX3 140 yX3_needState, .instanceMethod yX3_needState, .selects RX3 yX3_needState yX3_needState, .initialized RX3, .code yX3_needState cX3_needState 2 none, .fieldLink RX3 50 "KeyStates$Picture" "stateCount" "I"] ++ wsX30 ++ wsX20 ++ (vx_atS RX3 176 "java/lang/IndexOutOfBoundsException" ["java/lang/RuntimeException", "java/lang/Exception"]).filter goodWord)
def wsX3_countSnapshots : List Cond := .code yX3_countSnapshots cX3_countSnapshots 3 (some .int) :: ([.fieldLink RX3 20 "KeyStates" "snapshots" "[LKeyStates$Picture;"] ++ wsX30)
def wsX3_told_r1 : List Cond := [Cond.fieldLink RX3 16 "KeyStates" "now" "LKeyStates$Picture;", Cond.fieldLink RX3 50 "KeyStates$Picture" "stateCount" "I", Cond.fieldLink RX3 32 "KeyStates" "pagesCopied" "I", Cond.methodLink RX3 213 yX2_countEntries, Cond.instanceMethod yX2_countEntries, Cond.selects RX2 yX2_countEntries yX2_countEntries, Cond.initialized RX2, Cond.code yX2_countEntries cX2_countEntries 3 (some .int), Cond.fieldLink RX2 11 "KeyStates$Picture" "pages" "[LKeyStates$Page;", Cond.methodLink RX2 58 yX1_countEntries, Cond.instanceMethod yX1_countEntries, Cond.selects RX1 yX1_countEntries yX1_countEntries, Cond.initialized RX1, Cond.code yX1_countEntries cX1_countEntries 3 (some .int), Cond.fieldLink RX1 11 "KeyStates$Page" "rows" "[LKeyStates$Entry;", Cond.methodLink RX3 230 yX3_countSnapshots, Cond.instanceMethod yX3_countSnapshots, Cond.selects RX3 yX3_countSnapshots yX3_countSnapshots, Cond.initialized RX3, Cond.code yX3_countSnapshots cX3_countSnapshots 3 (some .int), Cond.fieldLink RX3 20 "KeyStates" "snapshots" "[LKeyStates$Picture;", Cond.methodLink RX3 193 yX2_countShared, Cond.instanceMethod yX2_countShared, Cond.selects RX2 yX2_countShared yX2_countShared]
def wsX3_told_r2 : List Cond := [Cond.code yX2_countShared cX2_countShared 3 (some .int), Cond.methodLink RX2 69 yX1_isShared, Cond.instanceMethod yX1_isShared, Cond.selects RX1 yX1_isShared yX1_isShared, Cond.code yX1_isShared cX1_isShared 1 (some .boolean), Cond.fieldLink RX1 17 "KeyStates$Page" "holders" "I", Cond.methodLink RX3 233 yX2_countPagesInUse, Cond.instanceMethod yX2_countPagesInUse, Cond.selects RX2 yX2_countPagesInUse yX2_countPagesInUse, Cond.code yX2_countPagesInUse cX2_countPagesInUse 3 (some .int), Cond.methodLink RX3 236 yX2_countNumbers, Cond.instanceMethod yX2_countNumbers, Cond.selects RX2 yX2_countNumbers yX2_countNumbers, Cond.code yX2_countNumbers cX2_countNumbers 3 (some .int), Cond.methodLink RX2 66 yX1_countNumbers, Cond.instanceMethod yX1_countNumbers, Cond.selects RX1 yX1_countNumbers yX1_countNumbers, Cond.code yX1_countNumbers cX1_countNumbers 3 (some .int), Cond.fieldLink RX1 71 "KeyStates$Entry" "numbers" "[J"]
def wsX3_told : List Cond := .code yX3_told cX3_told 2 (some .int) :: ((wsX3_told_r1 ++ wsX3_told_r2) ++ wsX30 ++ wsX20 ++ wsX10 ++ wsX00)
def wsX4_newPage : List Cond := .code yX4_newPage cX4_newPage 1 (some .int) :: ([.fieldLink RX4 62 "KeyStatesModel" "pages" "I"] ++ wsX40)
def wsX4_init_r1 : List Cond := [Cond.methodLink RX4 1 objectInit, Cond.instanceMethod objectInit, Cond.code objectInit ⟨#[0xb1]⟩ 1 none, Cond.arrayClass .int, Cond.fieldLink RX4 7 "KeyStatesModel" "names" "[I", Cond.fieldLink RX4 13 "KeyStatesModel" "kinds" "[I", Cond.fieldLink RX4 16 "KeyStatesModel" "types" "[I", Cond.fieldLink RX4 19 "KeyStatesModel" "known" "[I", Cond.fieldLink RX4 22 "KeyStatesModel" "many" "[I", Cond.fieldLink RX4 25 "KeyStatesModel" "state" "[I", Cond.arrayClass .long, Cond.fieldLink RX4 28 "KeyStatesModel" "key" "[J", Cond.fieldLink RX4 32 "KeyStatesModel" "span" "[I", Cond.fieldLink RX4 35 "KeyStatesModel" "size" "[I", Cond.fieldLink RX4 38 "KeyStatesModel" "number" "[J", Cond.fieldLink RX4 41 "KeyStatesModel" "member" "[J", Cond.fieldLink RX4 44 "KeyStatesModel" "page" "[I", Cond.arrayClass .boolean, Cond.fieldLink RX4 47 "KeyStatesModel" "isThere" "[Z", Cond.fieldLink RX4 51 "KeyStatesModel" "taken" "[I", Cond.methodLink RX4 54 yX4_newPage, Cond.instanceMethod yX4_newPage, Cond.selects RX4 yX4_newPage yX4_newPage, Cond.initialized RX4]
def wsX4_init_r2 : List Cond := [Cond.code yX4_newPage cX4_newPage 1 (some .int), Cond.fieldLink RX4 62 "KeyStatesModel" "pages" "I"]
def wsX4_init : List Cond := .code yX4_init cX4_init 2 none :: ((wsX4_init_r1 ++ wsX4_init_r2) ++ wsX40)
def wsX4_thrown : List Cond := .code yX4_thrown cX4_thrown 1 (some .int) :: ([.fieldLink RX4 58 "KeyStatesModel" "thrown" "I"] ++ wsX40)
def wsX4_fails : List Cond := .code yX4_fails cX4_fails 2 (some .int) :: ([.fieldLink RX4 58 "KeyStatesModel" "thrown" "I"] ++ wsX40)
def wsX4_pageOf : List Cond := .code yX4_pageOf cX4_pageOf 6 (some .int) :: ([])
def wsX4_isShared : List Cond := .code yX4_isShared cX4_isShared 4 (some .boolean) :: ([.fieldLink RX4 47 "KeyStatesModel" "isThere" "[Z", .fieldLink RX4 44 "KeyStatesModel" "page" "[I"] ++ wsX40)
def wsX4_touch : List Cond := .code yX4_touch cX4_touch 2 none :: ([.fieldLink RX4 69 "KeyStatesModel" "copied" "I", .fieldLink RX4 44 "KeyStatesModel" "page" "[I", .methodLink RX4 65 yX4_isShared, .instanceMethod yX4_isShared, .selects RX4 yX4_isShared yX4_isShared, .initialized RX4, .code yX4_isShared cX4_isShared 4 (some .boolean), .fieldLink RX4 47 "KeyStatesModel" "isThere" "[Z", .methodLink RX4 54 yX4_newPage, .instanceMethod yX4_newPage, .selects RX4 yX4_newPage yX4_newPage, .code yX4_newPage cX4_newPage 1 (some .int), .fieldLink RX4 62 "KeyStatesModel" "pages" "I"] ++ wsX40)
def wsX4_touchOf : List Cond := .code yX4_touchOf cX4_touchOf 2 none :: ([.fieldLink RX4 25 "KeyStatesModel" "state" "[I", .fieldLink RX4 28 "KeyStatesModel" "key" "[J", .fieldLink RX4 32 "KeyStatesModel" "span" "[I", .methodLink RX4 72 yX4_pageOf, .instanceMethod yX4_pageOf, .selects RX4 yX4_pageOf yX4_pageOf, .initialized RX4, .code yX4_pageOf cX4_pageOf 6 (some .int), .methodLink RX4 76 yX4_touch, .instanceMethod yX4_touch, .selects RX4 yX4_touch yX4_touch, .code yX4_touch cX4_touch 2 none, .fieldLink RX4 69 "KeyStatesModel" "copied" "I", .fieldLink RX4 44 "KeyStatesModel" "page" "[I", .methodLink RX4 65 yX4_isShared, .instanceMethod yX4_isShared, .selects RX4 yX4_isShared yX4_isShared, .code yX4_isShared cX4_isShared 4 (some .boolean), .fieldLink RX4 47 "KeyStatesModel" "isThere" "[Z", .methodLink RX4 54 yX4_newPage, .instanceMethod yX4_newPage, .selects RX4 yX4_newPage yX4_newPage, .code yX4_newPage cX4_newPage 1 (some .int), .fieldLink RX4 62 "KeyStatesModel" "pages" "I"] ++ wsX40)
def wsX4_sharedPages : List Cond := .code yX4_sharedPages cX4_sharedPages 3 (some .int) :: ([.methodLink RX4 65 yX4_isShared, .instanceMethod yX4_isShared, .selects RX4 yX4_isShared yX4_isShared, .initialized RX4, .code yX4_isShared cX4_isShared 4 (some .boolean), .fieldLink RX4 47 "KeyStatesModel" "isThere" "[Z", .fieldLink RX4 44 "KeyStatesModel" "page" "[I"] ++ wsX40)
def wsX4_find : List Cond := .code yX4_find cX4_find 7 (some .int) :: ([.fieldLink RX4 22 "KeyStatesModel" "many" "[I", .fieldLink RX4 25 "KeyStatesModel" "state" "[I", .fieldLink RX4 28 "KeyStatesModel" "key" "[J", .fieldLink RX4 32 "KeyStatesModel" "span" "[I"] ++ wsX40)
def wsX4_here : List Cond := .code yX4_here cX4_here 2 (some .int) :: ([.fieldLink RX4 80 "KeyStatesModel" "atKey" "J", .fieldLink RX4 84 "KeyStatesModel" "atSpan" "I", .methodLink RX4 87 yX4_find, .instanceMethod yX4_find, .selects RX4 yX4_find yX4_find, .initialized RX4, .code yX4_find cX4_find 7 (some .int), .fieldLink RX4 22 "KeyStatesModel" "many" "[I", .fieldLink RX4 25 "KeyStatesModel" "state" "[I", .fieldLink RX4 28 "KeyStatesModel" "key" "[J", .fieldLink RX4 32 "KeyStatesModel" "span" "[I"] ++ wsX40)
def wsX4_newEntry : List Cond := .code yX4_newEntry cX4_newEntry 3 (some .int) :: ([.fieldLink RX4 22 "KeyStatesModel" "many" "[I", .fieldLink RX4 25 "KeyStatesModel" "state" "[I", .fieldLink RX4 28 "KeyStatesModel" "key" "[J", .fieldLink RX4 80 "KeyStatesModel" "atKey" "J", .fieldLink RX4 32 "KeyStatesModel" "span" "[I", .fieldLink RX4 84 "KeyStatesModel" "atSpan" "I", .fieldLink RX4 35 "KeyStatesModel" "size" "[I"] ++ wsX40)
def wsX4_copyEntry : List Cond := .code yX4_copyEntry cX4_copyEntry 4 none :: ([.fieldLink RX4 25 "KeyStatesModel" "state" "[I", .fieldLink RX4 28 "KeyStatesModel" "key" "[J", .fieldLink RX4 32 "KeyStatesModel" "span" "[I", .fieldLink RX4 35 "KeyStatesModel" "size" "[I", .fieldLink RX4 38 "KeyStatesModel" "number" "[J", .fieldLink RX4 41 "KeyStatesModel" "member" "[J"] ++ wsX40)
def wsX4_dropEntry_r1 : List Cond := [Cond.fieldLink RX4 22 "KeyStatesModel" "many" "[I", Cond.methodLink RX4 91 yX4_touchOf, Cond.instanceMethod yX4_touchOf, Cond.selects RX4 yX4_touchOf yX4_touchOf, Cond.initialized RX4, Cond.code yX4_touchOf cX4_touchOf 2 none, Cond.fieldLink RX4 25 "KeyStatesModel" "state" "[I", Cond.fieldLink RX4 28 "KeyStatesModel" "key" "[J", Cond.fieldLink RX4 32 "KeyStatesModel" "span" "[I", Cond.methodLink RX4 72 yX4_pageOf, Cond.instanceMethod yX4_pageOf, Cond.selects RX4 yX4_pageOf yX4_pageOf, Cond.code yX4_pageOf cX4_pageOf 6 (some .int), Cond.methodLink RX4 76 yX4_touch, Cond.instanceMethod yX4_touch, Cond.selects RX4 yX4_touch yX4_touch, Cond.code yX4_touch cX4_touch 2 none, Cond.fieldLink RX4 69 "KeyStatesModel" "copied" "I", Cond.fieldLink RX4 44 "KeyStatesModel" "page" "[I", Cond.methodLink RX4 65 yX4_isShared, Cond.instanceMethod yX4_isShared, Cond.selects RX4 yX4_isShared yX4_isShared, Cond.code yX4_isShared cX4_isShared 4 (some .boolean), Cond.fieldLink RX4 47 "KeyStatesModel" "isThere" "[Z"]
def wsX4_dropEntry_r2 : List Cond := [Cond.methodLink RX4 54 yX4_newPage, Cond.instanceMethod yX4_newPage, Cond.selects RX4 yX4_newPage yX4_newPage, Cond.code yX4_newPage cX4_newPage 1 (some .int), Cond.fieldLink RX4 62 "KeyStatesModel" "pages" "I", Cond.methodLink RX4 94 yX4_copyEntry, Cond.instanceMethod yX4_copyEntry, Cond.selects RX4 yX4_copyEntry yX4_copyEntry, Cond.code yX4_copyEntry cX4_copyEntry 4 none, Cond.fieldLink RX4 35 "KeyStatesModel" "size" "[I", Cond.fieldLink RX4 38 "KeyStatesModel" "number" "[J", Cond.fieldLink RX4 41 "KeyStatesModel" "member" "[J"]
def wsX4_dropEntry : List Cond := .code yX4_dropEntry cX4_dropEntry 2 none :: ((wsX4_dropEntry_r1 ++ wsX4_dropEntry_r2) ++ wsX40)
def wsX4_numbersOf : List Cond := .code yX4_numbersOf cX4_numbersOf 4 (some .int) :: ([.fieldLink RX4 13 "KeyStatesModel" "kinds" "[I", .fieldLink RX4 25 "KeyStatesModel" "state" "[I", .fieldLink RX4 35 "KeyStatesModel" "size" "[I"] ++ wsX40)
def wsX4_fits : List Cond := .code yX4_fits cX4_fits 4 (some .boolean) :: ([.constantLong RX4 98 (-1000), .constantLong RX4 100 (1000)])
def wsX4_folded : List Cond := .code yX4_folded cX4_folded 5 (some .long) :: ([])
def wsX4_isState : List Cond := .code yX4_isState cX4_isState 2 (some .boolean) :: ([.fieldLink RX4 102 "KeyStatesModel" "states" "I"] ++ wsX40)
def wsX4_isRefused_r1 : List Cond := [Cond.fieldLink RX4 58 "KeyStatesModel" "thrown" "I", Cond.fieldLink RX4 13 "KeyStatesModel" "kinds" "[I", Cond.fieldLink RX4 16 "KeyStatesModel" "types" "[I", Cond.fieldLink RX4 112 "KeyStatesModel" "hasKey" "Z", Cond.fieldLink RX4 120 "KeyStatesModel" "at" "I", Cond.methodLink RX4 105 yX4_isState, Cond.instanceMethod yX4_isState, Cond.selects RX4 yX4_isState yX4_isState, Cond.initialized RX4, Cond.code yX4_isState cX4_isState 2 (some .boolean), Cond.fieldLink RX4 102 "KeyStatesModel" "states" "I", Cond.methodLink RX4 108 yX4_fits, Cond.static yX4_fits, Cond.code yX4_fits cX4_fits 4 (some .boolean), Cond.constantLong RX4 98 (-1000), Cond.constantLong RX4 100 (1000), Cond.methodLink RX4 116 yX4_here, Cond.instanceMethod yX4_here, Cond.selects RX4 yX4_here yX4_here, Cond.code yX4_here cX4_here 2 (some .int), Cond.fieldLink RX4 80 "KeyStatesModel" "atKey" "J", Cond.fieldLink RX4 84 "KeyStatesModel" "atSpan" "I", Cond.methodLink RX4 87 yX4_find, Cond.instanceMethod yX4_find]
def wsX4_isRefused_r2 : List Cond := [Cond.selects RX4 yX4_find yX4_find, Cond.code yX4_find cX4_find 7 (some .int), Cond.fieldLink RX4 22 "KeyStatesModel" "many" "[I", Cond.fieldLink RX4 25 "KeyStatesModel" "state" "[I", Cond.fieldLink RX4 28 "KeyStatesModel" "key" "[J", Cond.fieldLink RX4 32 "KeyStatesModel" "span" "[I"]
def wsX4_isRefused : List Cond := .code yX4_isRefused cX4_isRefused 6 (some .boolean) :: ((wsX4_isRefused_r1 ++ wsX4_isRefused_r2) ++ wsX40)
def wsX4_state : List Cond := .code yX4_state cX4_state 5 (some .int) :: ([.fieldLink RX4 58 "KeyStatesModel" "thrown" "I", .fieldLink RX4 102 "KeyStatesModel" "states" "I", .fieldLink RX4 7 "KeyStatesModel" "names" "[I", .fieldLink RX4 13 "KeyStatesModel" "kinds" "[I", .fieldLink RX4 16 "KeyStatesModel" "types" "[I"] ++ wsX40)
def wsX4_key : List Cond := .code yX4_key cX4_key 3 none :: ([.fieldLink RX4 58 "KeyStatesModel" "thrown" "I", .fieldLink RX4 112 "KeyStatesModel" "hasKey" "Z", .fieldLink RX4 80 "KeyStatesModel" "atKey" "J"] ++ wsX40)
def wsX4_leave : List Cond := .code yX4_leave cX4_leave 2 (some .boolean) :: ([.fieldLink RX4 58 "KeyStatesModel" "thrown" "I", .fieldLink RX4 112 "KeyStatesModel" "hasKey" "Z"] ++ wsX40)
def wsX4_span : List Cond := .code yX4_span cX4_span 3 (some .int) :: ([.fieldLink RX4 58 "KeyStatesModel" "thrown" "I", .fieldLink RX4 84 "KeyStatesModel" "atSpan" "I"] ++ wsX40)
def wsX4_put_r1 : List Cond := [Cond.fieldLink RX4 120 "KeyStatesModel" "at" "I", Cond.fieldLink RX4 22 "KeyStatesModel" "many" "[I", Cond.fieldLink RX4 38 "KeyStatesModel" "number" "[J", Cond.fieldLink RX4 35 "KeyStatesModel" "size" "[I", Cond.methodLink RX4 123 yX4_isRefused, Cond.instanceMethod yX4_isRefused, Cond.selects RX4 yX4_isRefused yX4_isRefused, Cond.initialized RX4, Cond.code yX4_isRefused cX4_isRefused 6 (some .boolean), Cond.fieldLink RX4 58 "KeyStatesModel" "thrown" "I", Cond.fieldLink RX4 13 "KeyStatesModel" "kinds" "[I", Cond.fieldLink RX4 16 "KeyStatesModel" "types" "[I", Cond.fieldLink RX4 112 "KeyStatesModel" "hasKey" "Z", Cond.methodLink RX4 105 yX4_isState, Cond.instanceMethod yX4_isState, Cond.selects RX4 yX4_isState yX4_isState, Cond.code yX4_isState cX4_isState 2 (some .boolean), Cond.fieldLink RX4 102 "KeyStatesModel" "states" "I", Cond.methodLink RX4 108 yX4_fits, Cond.static yX4_fits, Cond.code yX4_fits cX4_fits 4 (some .boolean), Cond.constantLong RX4 98 (-1000), Cond.constantLong RX4 100 (1000), Cond.methodLink RX4 116 yX4_here]
def wsX4_put_r2 : List Cond := [Cond.instanceMethod yX4_here, Cond.selects RX4 yX4_here yX4_here, Cond.code yX4_here cX4_here 2 (some .int), Cond.fieldLink RX4 80 "KeyStatesModel" "atKey" "J", Cond.fieldLink RX4 84 "KeyStatesModel" "atSpan" "I", Cond.methodLink RX4 87 yX4_find, Cond.instanceMethod yX4_find, Cond.selects RX4 yX4_find yX4_find, Cond.code yX4_find cX4_find 7 (some .int), Cond.fieldLink RX4 25 "KeyStatesModel" "state" "[I", Cond.fieldLink RX4 28 "KeyStatesModel" "key" "[J", Cond.fieldLink RX4 32 "KeyStatesModel" "span" "[I", Cond.methodLink RX4 127 yX4_newEntry, Cond.instanceMethod yX4_newEntry, Cond.selects RX4 yX4_newEntry yX4_newEntry, Cond.code yX4_newEntry cX4_newEntry 3 (some .int), Cond.methodLink RX4 91 yX4_touchOf, Cond.instanceMethod yX4_touchOf, Cond.selects RX4 yX4_touchOf yX4_touchOf, Cond.code yX4_touchOf cX4_touchOf 2 none, Cond.methodLink RX4 72 yX4_pageOf, Cond.instanceMethod yX4_pageOf, Cond.selects RX4 yX4_pageOf yX4_pageOf, Cond.code yX4_pageOf cX4_pageOf 6 (some .int)]
def wsX4_put_r3 : List Cond := [Cond.methodLink RX4 76 yX4_touch, Cond.instanceMethod yX4_touch, Cond.selects RX4 yX4_touch yX4_touch, Cond.code yX4_touch cX4_touch 2 none, Cond.fieldLink RX4 69 "KeyStatesModel" "copied" "I", Cond.fieldLink RX4 44 "KeyStatesModel" "page" "[I", Cond.methodLink RX4 65 yX4_isShared, Cond.instanceMethod yX4_isShared, Cond.selects RX4 yX4_isShared yX4_isShared, Cond.code yX4_isShared cX4_isShared 4 (some .boolean), Cond.fieldLink RX4 47 "KeyStatesModel" "isThere" "[Z", Cond.methodLink RX4 54 yX4_newPage, Cond.instanceMethod yX4_newPage, Cond.selects RX4 yX4_newPage yX4_newPage, Cond.code yX4_newPage cX4_newPage 1 (some .int), Cond.fieldLink RX4 62 "KeyStatesModel" "pages" "I"]
def wsX4_put : List Cond := .code yX4_put cX4_put 6 (some .int) :: ((wsX4_put_r1 ++ (wsX4_put_r2 ++ wsX4_put_r3)) ++ wsX40)
def wsX4_value_r1 : List Cond := [Cond.fieldLink RX4 120 "KeyStatesModel" "at" "I", Cond.fieldLink RX4 38 "KeyStatesModel" "number" "[J", Cond.methodLink RX4 123 yX4_isRefused, Cond.instanceMethod yX4_isRefused, Cond.selects RX4 yX4_isRefused yX4_isRefused, Cond.initialized RX4, Cond.code yX4_isRefused cX4_isRefused 6 (some .boolean), Cond.fieldLink RX4 58 "KeyStatesModel" "thrown" "I", Cond.fieldLink RX4 13 "KeyStatesModel" "kinds" "[I", Cond.fieldLink RX4 16 "KeyStatesModel" "types" "[I", Cond.fieldLink RX4 112 "KeyStatesModel" "hasKey" "Z", Cond.methodLink RX4 105 yX4_isState, Cond.instanceMethod yX4_isState, Cond.selects RX4 yX4_isState yX4_isState, Cond.code yX4_isState cX4_isState 2 (some .boolean), Cond.fieldLink RX4 102 "KeyStatesModel" "states" "I", Cond.methodLink RX4 108 yX4_fits, Cond.static yX4_fits, Cond.code yX4_fits cX4_fits 4 (some .boolean), Cond.constantLong RX4 98 (-1000), Cond.constantLong RX4 100 (1000), Cond.methodLink RX4 116 yX4_here, Cond.instanceMethod yX4_here, Cond.selects RX4 yX4_here yX4_here]
def wsX4_value_r2 : List Cond := [Cond.code yX4_here cX4_here 2 (some .int), Cond.fieldLink RX4 80 "KeyStatesModel" "atKey" "J", Cond.fieldLink RX4 84 "KeyStatesModel" "atSpan" "I", Cond.methodLink RX4 87 yX4_find, Cond.instanceMethod yX4_find, Cond.selects RX4 yX4_find yX4_find, Cond.code yX4_find cX4_find 7 (some .int), Cond.fieldLink RX4 22 "KeyStatesModel" "many" "[I", Cond.fieldLink RX4 25 "KeyStatesModel" "state" "[I", Cond.fieldLink RX4 28 "KeyStatesModel" "key" "[J", Cond.fieldLink RX4 32 "KeyStatesModel" "span" "[I", Cond.methodLink RX4 130 yX4_fails, Cond.instanceMethod yX4_fails, Cond.selects RX4 yX4_fails yX4_fails, Cond.code yX4_fails cX4_fails 2 (some .int)]
def wsX4_value : List Cond := .code yX4_value cX4_value 2 (some .long) :: ((wsX4_value_r1 ++ wsX4_value_r2) ++ wsX40)
def wsX4_add_r1 : List Cond := [Cond.fieldLink RX4 120 "KeyStatesModel" "at" "I", Cond.fieldLink RX4 22 "KeyStatesModel" "many" "[I", Cond.fieldLink RX4 35 "KeyStatesModel" "size" "[I", Cond.fieldLink RX4 38 "KeyStatesModel" "number" "[J", Cond.methodLink RX4 123 yX4_isRefused, Cond.instanceMethod yX4_isRefused, Cond.selects RX4 yX4_isRefused yX4_isRefused, Cond.initialized RX4, Cond.code yX4_isRefused cX4_isRefused 6 (some .boolean), Cond.fieldLink RX4 58 "KeyStatesModel" "thrown" "I", Cond.fieldLink RX4 13 "KeyStatesModel" "kinds" "[I", Cond.fieldLink RX4 16 "KeyStatesModel" "types" "[I", Cond.fieldLink RX4 112 "KeyStatesModel" "hasKey" "Z", Cond.methodLink RX4 105 yX4_isState, Cond.instanceMethod yX4_isState, Cond.selects RX4 yX4_isState yX4_isState, Cond.code yX4_isState cX4_isState 2 (some .boolean), Cond.fieldLink RX4 102 "KeyStatesModel" "states" "I", Cond.methodLink RX4 108 yX4_fits, Cond.static yX4_fits, Cond.code yX4_fits cX4_fits 4 (some .boolean), Cond.constantLong RX4 98 (-1000), Cond.constantLong RX4 100 (1000), Cond.methodLink RX4 116 yX4_here]
def wsX4_add_r2 : List Cond := [Cond.instanceMethod yX4_here, Cond.selects RX4 yX4_here yX4_here, Cond.code yX4_here cX4_here 2 (some .int), Cond.fieldLink RX4 80 "KeyStatesModel" "atKey" "J", Cond.fieldLink RX4 84 "KeyStatesModel" "atSpan" "I", Cond.methodLink RX4 87 yX4_find, Cond.instanceMethod yX4_find, Cond.selects RX4 yX4_find yX4_find, Cond.code yX4_find cX4_find 7 (some .int), Cond.fieldLink RX4 25 "KeyStatesModel" "state" "[I", Cond.fieldLink RX4 28 "KeyStatesModel" "key" "[J", Cond.fieldLink RX4 32 "KeyStatesModel" "span" "[I", Cond.methodLink RX4 127 yX4_newEntry, Cond.instanceMethod yX4_newEntry, Cond.selects RX4 yX4_newEntry yX4_newEntry, Cond.code yX4_newEntry cX4_newEntry 3 (some .int), Cond.methodLink RX4 91 yX4_touchOf, Cond.instanceMethod yX4_touchOf, Cond.selects RX4 yX4_touchOf yX4_touchOf, Cond.code yX4_touchOf cX4_touchOf 2 none, Cond.methodLink RX4 72 yX4_pageOf, Cond.instanceMethod yX4_pageOf, Cond.selects RX4 yX4_pageOf yX4_pageOf, Cond.code yX4_pageOf cX4_pageOf 6 (some .int)]
def wsX4_add_r3 : List Cond := [Cond.methodLink RX4 76 yX4_touch, Cond.instanceMethod yX4_touch, Cond.selects RX4 yX4_touch yX4_touch, Cond.code yX4_touch cX4_touch 2 none, Cond.fieldLink RX4 69 "KeyStatesModel" "copied" "I", Cond.fieldLink RX4 44 "KeyStatesModel" "page" "[I", Cond.methodLink RX4 65 yX4_isShared, Cond.instanceMethod yX4_isShared, Cond.selects RX4 yX4_isShared yX4_isShared, Cond.code yX4_isShared cX4_isShared 4 (some .boolean), Cond.fieldLink RX4 47 "KeyStatesModel" "isThere" "[Z", Cond.methodLink RX4 54 yX4_newPage, Cond.instanceMethod yX4_newPage, Cond.selects RX4 yX4_newPage yX4_newPage, Cond.code yX4_newPage cX4_newPage 1 (some .int), Cond.fieldLink RX4 62 "KeyStatesModel" "pages" "I"]
def wsX4_add : List Cond := .code yX4_add cX4_add 5 (some .int) :: ((wsX4_add_r1 ++ (wsX4_add_r2 ++ wsX4_add_r3)) ++ wsX40)
def wsX4_item_r1 : List Cond := [Cond.fieldLink RX4 120 "KeyStatesModel" "at" "I", Cond.fieldLink RX4 35 "KeyStatesModel" "size" "[I", Cond.fieldLink RX4 38 "KeyStatesModel" "number" "[J", Cond.methodLink RX4 123 yX4_isRefused, Cond.instanceMethod yX4_isRefused, Cond.selects RX4 yX4_isRefused yX4_isRefused, Cond.initialized RX4, Cond.code yX4_isRefused cX4_isRefused 6 (some .boolean), Cond.fieldLink RX4 58 "KeyStatesModel" "thrown" "I", Cond.fieldLink RX4 13 "KeyStatesModel" "kinds" "[I", Cond.fieldLink RX4 16 "KeyStatesModel" "types" "[I", Cond.fieldLink RX4 112 "KeyStatesModel" "hasKey" "Z", Cond.methodLink RX4 105 yX4_isState, Cond.instanceMethod yX4_isState, Cond.selects RX4 yX4_isState yX4_isState, Cond.code yX4_isState cX4_isState 2 (some .boolean), Cond.fieldLink RX4 102 "KeyStatesModel" "states" "I", Cond.methodLink RX4 108 yX4_fits, Cond.static yX4_fits, Cond.code yX4_fits cX4_fits 4 (some .boolean), Cond.constantLong RX4 98 (-1000), Cond.constantLong RX4 100 (1000), Cond.methodLink RX4 116 yX4_here, Cond.instanceMethod yX4_here]
def wsX4_item_r2 : List Cond := [Cond.selects RX4 yX4_here yX4_here, Cond.code yX4_here cX4_here 2 (some .int), Cond.fieldLink RX4 80 "KeyStatesModel" "atKey" "J", Cond.fieldLink RX4 84 "KeyStatesModel" "atSpan" "I", Cond.methodLink RX4 87 yX4_find, Cond.instanceMethod yX4_find, Cond.selects RX4 yX4_find yX4_find, Cond.code yX4_find cX4_find 7 (some .int), Cond.fieldLink RX4 22 "KeyStatesModel" "many" "[I", Cond.fieldLink RX4 25 "KeyStatesModel" "state" "[I", Cond.fieldLink RX4 28 "KeyStatesModel" "key" "[J", Cond.fieldLink RX4 32 "KeyStatesModel" "span" "[I", Cond.methodLink RX4 130 yX4_fails, Cond.instanceMethod yX4_fails, Cond.selects RX4 yX4_fails yX4_fails, Cond.code yX4_fails cX4_fails 2 (some .int)]
def wsX4_item : List Cond := .code yX4_item cX4_item 3 (some .long) :: ((wsX4_item_r1 ++ wsX4_item_r2) ++ wsX40)
def wsX4_placeOf : List Cond := .code yX4_placeOf cX4_placeOf 5 (some .int) :: ([.fieldLink RX4 35 "KeyStatesModel" "size" "[I", .fieldLink RX4 41 "KeyStatesModel" "member" "[J"] ++ wsX40)
def wsX4_has : List Cond := .code yX4_has cX4_has 5 (some .boolean) :: ([.fieldLink RX4 35 "KeyStatesModel" "size" "[I", .fieldLink RX4 41 "KeyStatesModel" "member" "[J", .methodLink RX4 133 yX4_placeOf, .instanceMethod yX4_placeOf, .selects RX4 yX4_placeOf yX4_placeOf, .initialized RX4, .code yX4_placeOf cX4_placeOf 5 (some .int)] ++ wsX40)
def wsX4_set_r1 : List Cond := [Cond.fieldLink RX4 120 "KeyStatesModel" "at" "I", Cond.fieldLink RX4 22 "KeyStatesModel" "many" "[I", Cond.fieldLink RX4 35 "KeyStatesModel" "size" "[I", Cond.fieldLink RX4 38 "KeyStatesModel" "number" "[J", Cond.fieldLink RX4 41 "KeyStatesModel" "member" "[J", Cond.methodLink RX4 123 yX4_isRefused, Cond.instanceMethod yX4_isRefused, Cond.selects RX4 yX4_isRefused yX4_isRefused, Cond.initialized RX4, Cond.code yX4_isRefused cX4_isRefused 6 (some .boolean), Cond.fieldLink RX4 58 "KeyStatesModel" "thrown" "I", Cond.fieldLink RX4 13 "KeyStatesModel" "kinds" "[I", Cond.fieldLink RX4 16 "KeyStatesModel" "types" "[I", Cond.fieldLink RX4 112 "KeyStatesModel" "hasKey" "Z", Cond.methodLink RX4 105 yX4_isState, Cond.instanceMethod yX4_isState, Cond.selects RX4 yX4_isState yX4_isState, Cond.code yX4_isState cX4_isState 2 (some .boolean), Cond.fieldLink RX4 102 "KeyStatesModel" "states" "I", Cond.methodLink RX4 108 yX4_fits, Cond.static yX4_fits, Cond.code yX4_fits cX4_fits 4 (some .boolean), Cond.constantLong RX4 98 (-1000), Cond.constantLong RX4 100 (1000)]
def wsX4_set_r2 : List Cond := [Cond.methodLink RX4 116 yX4_here, Cond.instanceMethod yX4_here, Cond.selects RX4 yX4_here yX4_here, Cond.code yX4_here cX4_here 2 (some .int), Cond.fieldLink RX4 80 "KeyStatesModel" "atKey" "J", Cond.fieldLink RX4 84 "KeyStatesModel" "atSpan" "I", Cond.methodLink RX4 87 yX4_find, Cond.instanceMethod yX4_find, Cond.selects RX4 yX4_find yX4_find, Cond.code yX4_find cX4_find 7 (some .int), Cond.fieldLink RX4 25 "KeyStatesModel" "state" "[I", Cond.fieldLink RX4 28 "KeyStatesModel" "key" "[J", Cond.fieldLink RX4 32 "KeyStatesModel" "span" "[I", Cond.methodLink RX4 137 yX4_has, Cond.instanceMethod yX4_has, Cond.selects RX4 yX4_has yX4_has, Cond.code yX4_has cX4_has 5 (some .boolean), Cond.methodLink RX4 133 yX4_placeOf, Cond.instanceMethod yX4_placeOf, Cond.selects RX4 yX4_placeOf yX4_placeOf, Cond.code yX4_placeOf cX4_placeOf 5 (some .int), Cond.methodLink RX4 127 yX4_newEntry, Cond.instanceMethod yX4_newEntry, Cond.selects RX4 yX4_newEntry yX4_newEntry]
def wsX4_set_r3 : List Cond := [Cond.code yX4_newEntry cX4_newEntry 3 (some .int), Cond.methodLink RX4 91 yX4_touchOf, Cond.instanceMethod yX4_touchOf, Cond.selects RX4 yX4_touchOf yX4_touchOf, Cond.code yX4_touchOf cX4_touchOf 2 none, Cond.methodLink RX4 72 yX4_pageOf, Cond.instanceMethod yX4_pageOf, Cond.selects RX4 yX4_pageOf yX4_pageOf, Cond.code yX4_pageOf cX4_pageOf 6 (some .int), Cond.methodLink RX4 76 yX4_touch, Cond.instanceMethod yX4_touch, Cond.selects RX4 yX4_touch yX4_touch, Cond.code yX4_touch cX4_touch 2 none, Cond.fieldLink RX4 69 "KeyStatesModel" "copied" "I", Cond.fieldLink RX4 44 "KeyStatesModel" "page" "[I", Cond.methodLink RX4 65 yX4_isShared, Cond.instanceMethod yX4_isShared, Cond.selects RX4 yX4_isShared yX4_isShared, Cond.code yX4_isShared cX4_isShared 4 (some .boolean), Cond.fieldLink RX4 47 "KeyStatesModel" "isThere" "[Z", Cond.methodLink RX4 54 yX4_newPage, Cond.instanceMethod yX4_newPage, Cond.selects RX4 yX4_newPage yX4_newPage, Cond.code yX4_newPage cX4_newPage 1 (some .int)]
def wsX4_set_r4 : List Cond := [Cond.fieldLink RX4 62 "KeyStatesModel" "pages" "I"]
def wsX4_set : List Cond := .code yX4_set cX4_set 10 (some .int) :: ((wsX4_set_r1 ++ (wsX4_set_r2 ++ (wsX4_set_r3 ++ wsX4_set_r4))) ++ wsX40)
def wsX4_get_r1 : List Cond := [Cond.fieldLink RX4 120 "KeyStatesModel" "at" "I", Cond.fieldLink RX4 38 "KeyStatesModel" "number" "[J", Cond.methodLink RX4 123 yX4_isRefused, Cond.instanceMethod yX4_isRefused, Cond.selects RX4 yX4_isRefused yX4_isRefused, Cond.initialized RX4, Cond.code yX4_isRefused cX4_isRefused 6 (some .boolean), Cond.fieldLink RX4 58 "KeyStatesModel" "thrown" "I", Cond.fieldLink RX4 13 "KeyStatesModel" "kinds" "[I", Cond.fieldLink RX4 16 "KeyStatesModel" "types" "[I", Cond.fieldLink RX4 112 "KeyStatesModel" "hasKey" "Z", Cond.methodLink RX4 105 yX4_isState, Cond.instanceMethod yX4_isState, Cond.selects RX4 yX4_isState yX4_isState, Cond.code yX4_isState cX4_isState 2 (some .boolean), Cond.fieldLink RX4 102 "KeyStatesModel" "states" "I", Cond.methodLink RX4 108 yX4_fits, Cond.static yX4_fits, Cond.code yX4_fits cX4_fits 4 (some .boolean), Cond.constantLong RX4 98 (-1000), Cond.constantLong RX4 100 (1000), Cond.methodLink RX4 116 yX4_here, Cond.instanceMethod yX4_here, Cond.selects RX4 yX4_here yX4_here]
def wsX4_get_r2 : List Cond := [Cond.code yX4_here cX4_here 2 (some .int), Cond.fieldLink RX4 80 "KeyStatesModel" "atKey" "J", Cond.fieldLink RX4 84 "KeyStatesModel" "atSpan" "I", Cond.methodLink RX4 87 yX4_find, Cond.instanceMethod yX4_find, Cond.selects RX4 yX4_find yX4_find, Cond.code yX4_find cX4_find 7 (some .int), Cond.fieldLink RX4 22 "KeyStatesModel" "many" "[I", Cond.fieldLink RX4 25 "KeyStatesModel" "state" "[I", Cond.fieldLink RX4 28 "KeyStatesModel" "key" "[J", Cond.fieldLink RX4 32 "KeyStatesModel" "span" "[I", Cond.methodLink RX4 137 yX4_has, Cond.instanceMethod yX4_has, Cond.selects RX4 yX4_has yX4_has, Cond.code yX4_has cX4_has 5 (some .boolean), Cond.fieldLink RX4 35 "KeyStatesModel" "size" "[I", Cond.fieldLink RX4 41 "KeyStatesModel" "member" "[J", Cond.methodLink RX4 133 yX4_placeOf, Cond.instanceMethod yX4_placeOf, Cond.selects RX4 yX4_placeOf yX4_placeOf, Cond.code yX4_placeOf cX4_placeOf 5 (some .int), Cond.methodLink RX4 130 yX4_fails, Cond.instanceMethod yX4_fails, Cond.selects RX4 yX4_fails yX4_fails]
def wsX4_get_r3 : List Cond := [Cond.code yX4_fails cX4_fails 2 (some .int)]
def wsX4_get : List Cond := .code yX4_get cX4_get 4 (some .long) :: ((wsX4_get_r1 ++ (wsX4_get_r2 ++ wsX4_get_r3)) ++ wsX40)
def wsX4_member_r1 : List Cond := [Cond.fieldLink RX4 120 "KeyStatesModel" "at" "I", Cond.fieldLink RX4 35 "KeyStatesModel" "size" "[I", Cond.fieldLink RX4 41 "KeyStatesModel" "member" "[J", Cond.methodLink RX4 123 yX4_isRefused, Cond.instanceMethod yX4_isRefused, Cond.selects RX4 yX4_isRefused yX4_isRefused, Cond.initialized RX4, Cond.code yX4_isRefused cX4_isRefused 6 (some .boolean), Cond.fieldLink RX4 58 "KeyStatesModel" "thrown" "I", Cond.fieldLink RX4 13 "KeyStatesModel" "kinds" "[I", Cond.fieldLink RX4 16 "KeyStatesModel" "types" "[I", Cond.fieldLink RX4 112 "KeyStatesModel" "hasKey" "Z", Cond.methodLink RX4 105 yX4_isState, Cond.instanceMethod yX4_isState, Cond.selects RX4 yX4_isState yX4_isState, Cond.code yX4_isState cX4_isState 2 (some .boolean), Cond.fieldLink RX4 102 "KeyStatesModel" "states" "I", Cond.methodLink RX4 108 yX4_fits, Cond.static yX4_fits, Cond.code yX4_fits cX4_fits 4 (some .boolean), Cond.constantLong RX4 98 (-1000), Cond.constantLong RX4 100 (1000), Cond.methodLink RX4 116 yX4_here, Cond.instanceMethod yX4_here]
def wsX4_member_r2 : List Cond := [Cond.selects RX4 yX4_here yX4_here, Cond.code yX4_here cX4_here 2 (some .int), Cond.fieldLink RX4 80 "KeyStatesModel" "atKey" "J", Cond.fieldLink RX4 84 "KeyStatesModel" "atSpan" "I", Cond.methodLink RX4 87 yX4_find, Cond.instanceMethod yX4_find, Cond.selects RX4 yX4_find yX4_find, Cond.code yX4_find cX4_find 7 (some .int), Cond.fieldLink RX4 22 "KeyStatesModel" "many" "[I", Cond.fieldLink RX4 25 "KeyStatesModel" "state" "[I", Cond.fieldLink RX4 28 "KeyStatesModel" "key" "[J", Cond.fieldLink RX4 32 "KeyStatesModel" "span" "[I", Cond.methodLink RX4 130 yX4_fails, Cond.instanceMethod yX4_fails, Cond.selects RX4 yX4_fails yX4_fails, Cond.code yX4_fails cX4_fails 2 (some .int)]
def wsX4_member : List Cond := .code yX4_member cX4_member 3 (some .long) :: ((wsX4_member_r1 ++ wsX4_member_r2) ++ wsX40)
def wsX4_remove_r1 : List Cond := [Cond.fieldLink RX4 120 "KeyStatesModel" "at" "I", Cond.fieldLink RX4 35 "KeyStatesModel" "size" "[I", Cond.fieldLink RX4 38 "KeyStatesModel" "number" "[J", Cond.fieldLink RX4 41 "KeyStatesModel" "member" "[J", Cond.methodLink RX4 123 yX4_isRefused, Cond.instanceMethod yX4_isRefused, Cond.selects RX4 yX4_isRefused yX4_isRefused, Cond.initialized RX4, Cond.code yX4_isRefused cX4_isRefused 6 (some .boolean), Cond.fieldLink RX4 58 "KeyStatesModel" "thrown" "I", Cond.fieldLink RX4 13 "KeyStatesModel" "kinds" "[I", Cond.fieldLink RX4 16 "KeyStatesModel" "types" "[I", Cond.fieldLink RX4 112 "KeyStatesModel" "hasKey" "Z", Cond.methodLink RX4 105 yX4_isState, Cond.instanceMethod yX4_isState, Cond.selects RX4 yX4_isState yX4_isState, Cond.code yX4_isState cX4_isState 2 (some .boolean), Cond.fieldLink RX4 102 "KeyStatesModel" "states" "I", Cond.methodLink RX4 108 yX4_fits, Cond.static yX4_fits, Cond.code yX4_fits cX4_fits 4 (some .boolean), Cond.constantLong RX4 98 (-1000), Cond.constantLong RX4 100 (1000), Cond.methodLink RX4 116 yX4_here]
def wsX4_remove_r2 : List Cond := [Cond.instanceMethod yX4_here, Cond.selects RX4 yX4_here yX4_here, Cond.code yX4_here cX4_here 2 (some .int), Cond.fieldLink RX4 80 "KeyStatesModel" "atKey" "J", Cond.fieldLink RX4 84 "KeyStatesModel" "atSpan" "I", Cond.methodLink RX4 87 yX4_find, Cond.instanceMethod yX4_find, Cond.selects RX4 yX4_find yX4_find, Cond.code yX4_find cX4_find 7 (some .int), Cond.fieldLink RX4 22 "KeyStatesModel" "many" "[I", Cond.fieldLink RX4 25 "KeyStatesModel" "state" "[I", Cond.fieldLink RX4 28 "KeyStatesModel" "key" "[J", Cond.fieldLink RX4 32 "KeyStatesModel" "span" "[I", Cond.methodLink RX4 137 yX4_has, Cond.instanceMethod yX4_has, Cond.selects RX4 yX4_has yX4_has, Cond.code yX4_has cX4_has 5 (some .boolean), Cond.methodLink RX4 133 yX4_placeOf, Cond.instanceMethod yX4_placeOf, Cond.selects RX4 yX4_placeOf yX4_placeOf, Cond.code yX4_placeOf cX4_placeOf 5 (some .int), Cond.methodLink RX4 141 yX4_dropEntry, Cond.instanceMethod yX4_dropEntry, Cond.selects RX4 yX4_dropEntry yX4_dropEntry]
def wsX4_remove_r3 : List Cond := [Cond.code yX4_dropEntry cX4_dropEntry 2 none, Cond.methodLink RX4 91 yX4_touchOf, Cond.instanceMethod yX4_touchOf, Cond.selects RX4 yX4_touchOf yX4_touchOf, Cond.code yX4_touchOf cX4_touchOf 2 none, Cond.methodLink RX4 72 yX4_pageOf, Cond.instanceMethod yX4_pageOf, Cond.selects RX4 yX4_pageOf yX4_pageOf, Cond.code yX4_pageOf cX4_pageOf 6 (some .int), Cond.methodLink RX4 76 yX4_touch, Cond.instanceMethod yX4_touch, Cond.selects RX4 yX4_touch yX4_touch, Cond.code yX4_touch cX4_touch 2 none, Cond.fieldLink RX4 69 "KeyStatesModel" "copied" "I", Cond.fieldLink RX4 44 "KeyStatesModel" "page" "[I", Cond.methodLink RX4 65 yX4_isShared, Cond.instanceMethod yX4_isShared, Cond.selects RX4 yX4_isShared yX4_isShared, Cond.code yX4_isShared cX4_isShared 4 (some .boolean), Cond.fieldLink RX4 47 "KeyStatesModel" "isThere" "[Z", Cond.methodLink RX4 54 yX4_newPage, Cond.instanceMethod yX4_newPage, Cond.selects RX4 yX4_newPage yX4_newPage, Cond.code yX4_newPage cX4_newPage 1 (some .int)]
def wsX4_remove_r4 : List Cond := [Cond.fieldLink RX4 62 "KeyStatesModel" "pages" "I", Cond.methodLink RX4 94 yX4_copyEntry, Cond.instanceMethod yX4_copyEntry, Cond.selects RX4 yX4_copyEntry yX4_copyEntry, Cond.code yX4_copyEntry cX4_copyEntry 4 none]
def wsX4_remove : List Cond := .code yX4_remove cX4_remove 5 (some .boolean) :: ((wsX4_remove_r1 ++ (wsX4_remove_r2 ++ (wsX4_remove_r3 ++ wsX4_remove_r4))) ++ wsX40)
def wsX4_fold_r1 : List Cond := [Cond.fieldLink RX4 120 "KeyStatesModel" "at" "I", Cond.fieldLink RX4 22 "KeyStatesModel" "many" "[I", Cond.fieldLink RX4 38 "KeyStatesModel" "number" "[J", Cond.fieldLink RX4 16 "KeyStatesModel" "types" "[I", Cond.fieldLink RX4 35 "KeyStatesModel" "size" "[I", Cond.methodLink RX4 123 yX4_isRefused, Cond.instanceMethod yX4_isRefused, Cond.selects RX4 yX4_isRefused yX4_isRefused, Cond.initialized RX4, Cond.code yX4_isRefused cX4_isRefused 6 (some .boolean), Cond.fieldLink RX4 58 "KeyStatesModel" "thrown" "I", Cond.fieldLink RX4 13 "KeyStatesModel" "kinds" "[I", Cond.fieldLink RX4 112 "KeyStatesModel" "hasKey" "Z", Cond.methodLink RX4 105 yX4_isState, Cond.instanceMethod yX4_isState, Cond.selects RX4 yX4_isState yX4_isState, Cond.code yX4_isState cX4_isState 2 (some .boolean), Cond.fieldLink RX4 102 "KeyStatesModel" "states" "I", Cond.methodLink RX4 108 yX4_fits, Cond.static yX4_fits, Cond.code yX4_fits cX4_fits 4 (some .boolean), Cond.constantLong RX4 98 (-1000), Cond.constantLong RX4 100 (1000), Cond.methodLink RX4 116 yX4_here]
def wsX4_fold_r2 : List Cond := [Cond.instanceMethod yX4_here, Cond.selects RX4 yX4_here yX4_here, Cond.code yX4_here cX4_here 2 (some .int), Cond.fieldLink RX4 80 "KeyStatesModel" "atKey" "J", Cond.fieldLink RX4 84 "KeyStatesModel" "atSpan" "I", Cond.methodLink RX4 87 yX4_find, Cond.instanceMethod yX4_find, Cond.selects RX4 yX4_find yX4_find, Cond.code yX4_find cX4_find 7 (some .int), Cond.fieldLink RX4 25 "KeyStatesModel" "state" "[I", Cond.fieldLink RX4 28 "KeyStatesModel" "key" "[J", Cond.fieldLink RX4 32 "KeyStatesModel" "span" "[I", Cond.methodLink RX4 127 yX4_newEntry, Cond.instanceMethod yX4_newEntry, Cond.selects RX4 yX4_newEntry yX4_newEntry, Cond.code yX4_newEntry cX4_newEntry 3 (some .int), Cond.methodLink RX4 91 yX4_touchOf, Cond.instanceMethod yX4_touchOf, Cond.selects RX4 yX4_touchOf yX4_touchOf, Cond.code yX4_touchOf cX4_touchOf 2 none, Cond.methodLink RX4 72 yX4_pageOf, Cond.instanceMethod yX4_pageOf, Cond.selects RX4 yX4_pageOf yX4_pageOf, Cond.code yX4_pageOf cX4_pageOf 6 (some .int)]
def wsX4_fold_r3 : List Cond := [Cond.methodLink RX4 76 yX4_touch, Cond.instanceMethod yX4_touch, Cond.selects RX4 yX4_touch yX4_touch, Cond.code yX4_touch cX4_touch 2 none, Cond.fieldLink RX4 69 "KeyStatesModel" "copied" "I", Cond.fieldLink RX4 44 "KeyStatesModel" "page" "[I", Cond.methodLink RX4 65 yX4_isShared, Cond.instanceMethod yX4_isShared, Cond.selects RX4 yX4_isShared yX4_isShared, Cond.code yX4_isShared cX4_isShared 4 (some .boolean), Cond.fieldLink RX4 47 "KeyStatesModel" "isThere" "[Z", Cond.methodLink RX4 54 yX4_newPage, Cond.instanceMethod yX4_newPage, Cond.selects RX4 yX4_newPage yX4_newPage, Cond.code yX4_newPage cX4_newPage 1 (some .int), Cond.fieldLink RX4 62 "KeyStatesModel" "pages" "I", Cond.methodLink RX4 144 yX4_folded, Cond.static yX4_folded, Cond.code yX4_folded cX4_folded 5 (some .long)]
def wsX4_fold : List Cond := .code yX4_fold cX4_fold 6 (some .int) :: ((wsX4_fold_r1 ++ (wsX4_fold_r2 ++ wsX4_fold_r3)) ++ wsX40)
def wsX4_lacks : List Cond := .code yX4_lacks cX4_lacks 2 (some .boolean) :: ([.fieldLink RX4 112 "KeyStatesModel" "hasKey" "Z", .fieldLink RX4 58 "KeyStatesModel" "thrown" "I", .fieldLink RX4 120 "KeyStatesModel" "at" "I", .methodLink RX4 105 yX4_isState, .instanceMethod yX4_isState, .selects RX4 yX4_isState yX4_isState, .initialized RX4, .code yX4_isState cX4_isState 2 (some .boolean), .fieldLink RX4 102 "KeyStatesModel" "states" "I", .methodLink RX4 116 yX4_here, .instanceMethod yX4_here, .selects RX4 yX4_here yX4_here, .code yX4_here cX4_here 2 (some .int), .fieldLink RX4 80 "KeyStatesModel" "atKey" "J", .fieldLink RX4 84 "KeyStatesModel" "atSpan" "I", .methodLink RX4 87 yX4_find, .instanceMethod yX4_find, .selects RX4 yX4_find yX4_find, .code yX4_find cX4_find 7 (some .int), .fieldLink RX4 22 "KeyStatesModel" "many" "[I", .fieldLink RX4 25 "KeyStatesModel" "state" "[I", .fieldLink RX4 28 "KeyStatesModel" "key" "[J", .fieldLink RX4 32 "KeyStatesModel" "span" "[I"] ++ wsX40)
def wsX4_size_r1 : List Cond := [Cond.fieldLink RX4 120 "KeyStatesModel" "at" "I", Cond.fieldLink RX4 35 "KeyStatesModel" "size" "[I", Cond.methodLink RX4 148 yX4_lacks, Cond.instanceMethod yX4_lacks, Cond.selects RX4 yX4_lacks yX4_lacks, Cond.initialized RX4, Cond.code yX4_lacks cX4_lacks 2 (some .boolean), Cond.fieldLink RX4 112 "KeyStatesModel" "hasKey" "Z", Cond.fieldLink RX4 58 "KeyStatesModel" "thrown" "I", Cond.methodLink RX4 105 yX4_isState, Cond.instanceMethod yX4_isState, Cond.selects RX4 yX4_isState yX4_isState, Cond.code yX4_isState cX4_isState 2 (some .boolean), Cond.fieldLink RX4 102 "KeyStatesModel" "states" "I", Cond.methodLink RX4 116 yX4_here, Cond.instanceMethod yX4_here, Cond.selects RX4 yX4_here yX4_here, Cond.code yX4_here cX4_here 2 (some .int), Cond.fieldLink RX4 80 "KeyStatesModel" "atKey" "J", Cond.fieldLink RX4 84 "KeyStatesModel" "atSpan" "I", Cond.methodLink RX4 87 yX4_find, Cond.instanceMethod yX4_find, Cond.selects RX4 yX4_find yX4_find, Cond.code yX4_find cX4_find 7 (some .int)]
def wsX4_size_r2 : List Cond := [Cond.fieldLink RX4 22 "KeyStatesModel" "many" "[I", Cond.fieldLink RX4 25 "KeyStatesModel" "state" "[I", Cond.fieldLink RX4 28 "KeyStatesModel" "key" "[J", Cond.fieldLink RX4 32 "KeyStatesModel" "span" "[I"]
def wsX4_size : List Cond := .code yX4_size cX4_size 2 (some .int) :: ((wsX4_size_r1 ++ wsX4_size_r2) ++ wsX40)
def wsX4_clear_r1 : List Cond := [Cond.fieldLink RX4 120 "KeyStatesModel" "at" "I", Cond.methodLink RX4 148 yX4_lacks, Cond.instanceMethod yX4_lacks, Cond.selects RX4 yX4_lacks yX4_lacks, Cond.initialized RX4, Cond.code yX4_lacks cX4_lacks 2 (some .boolean), Cond.fieldLink RX4 112 "KeyStatesModel" "hasKey" "Z", Cond.fieldLink RX4 58 "KeyStatesModel" "thrown" "I", Cond.methodLink RX4 105 yX4_isState, Cond.instanceMethod yX4_isState, Cond.selects RX4 yX4_isState yX4_isState, Cond.code yX4_isState cX4_isState 2 (some .boolean), Cond.fieldLink RX4 102 "KeyStatesModel" "states" "I", Cond.methodLink RX4 116 yX4_here, Cond.instanceMethod yX4_here, Cond.selects RX4 yX4_here yX4_here, Cond.code yX4_here cX4_here 2 (some .int), Cond.fieldLink RX4 80 "KeyStatesModel" "atKey" "J", Cond.fieldLink RX4 84 "KeyStatesModel" "atSpan" "I", Cond.methodLink RX4 87 yX4_find, Cond.instanceMethod yX4_find, Cond.selects RX4 yX4_find yX4_find, Cond.code yX4_find cX4_find 7 (some .int), Cond.fieldLink RX4 22 "KeyStatesModel" "many" "[I"]
def wsX4_clear_r2 : List Cond := [Cond.fieldLink RX4 25 "KeyStatesModel" "state" "[I", Cond.fieldLink RX4 28 "KeyStatesModel" "key" "[J", Cond.fieldLink RX4 32 "KeyStatesModel" "span" "[I", Cond.methodLink RX4 141 yX4_dropEntry, Cond.instanceMethod yX4_dropEntry, Cond.selects RX4 yX4_dropEntry yX4_dropEntry, Cond.code yX4_dropEntry cX4_dropEntry 2 none, Cond.methodLink RX4 91 yX4_touchOf, Cond.instanceMethod yX4_touchOf, Cond.selects RX4 yX4_touchOf yX4_touchOf, Cond.code yX4_touchOf cX4_touchOf 2 none, Cond.methodLink RX4 72 yX4_pageOf, Cond.instanceMethod yX4_pageOf, Cond.selects RX4 yX4_pageOf yX4_pageOf, Cond.code yX4_pageOf cX4_pageOf 6 (some .int), Cond.methodLink RX4 76 yX4_touch, Cond.instanceMethod yX4_touch, Cond.selects RX4 yX4_touch yX4_touch, Cond.code yX4_touch cX4_touch 2 none, Cond.fieldLink RX4 69 "KeyStatesModel" "copied" "I", Cond.fieldLink RX4 44 "KeyStatesModel" "page" "[I", Cond.methodLink RX4 65 yX4_isShared, Cond.instanceMethod yX4_isShared, Cond.selects RX4 yX4_isShared yX4_isShared]
def wsX4_clear_r3 : List Cond := [Cond.code yX4_isShared cX4_isShared 4 (some .boolean), Cond.fieldLink RX4 47 "KeyStatesModel" "isThere" "[Z", Cond.methodLink RX4 54 yX4_newPage, Cond.instanceMethod yX4_newPage, Cond.selects RX4 yX4_newPage yX4_newPage, Cond.code yX4_newPage cX4_newPage 1 (some .int), Cond.fieldLink RX4 62 "KeyStatesModel" "pages" "I", Cond.methodLink RX4 94 yX4_copyEntry, Cond.instanceMethod yX4_copyEntry, Cond.selects RX4 yX4_copyEntry yX4_copyEntry, Cond.code yX4_copyEntry cX4_copyEntry 4 none, Cond.fieldLink RX4 35 "KeyStatesModel" "size" "[I", Cond.fieldLink RX4 38 "KeyStatesModel" "number" "[J", Cond.fieldLink RX4 41 "KeyStatesModel" "member" "[J"]
def wsX4_clear : List Cond := .code yX4_clear cX4_clear 2 (some .boolean) :: ((wsX4_clear_r1 ++ (wsX4_clear_r2 ++ wsX4_clear_r3)) ++ wsX40)
def wsX4_clearSpan_r1 : List Cond := [Cond.fieldLink RX4 58 "KeyStatesModel" "thrown" "I", Cond.fieldLink RX4 22 "KeyStatesModel" "many" "[I", Cond.fieldLink RX4 32 "KeyStatesModel" "span" "[I", Cond.fieldLink RX4 84 "KeyStatesModel" "atSpan" "I", Cond.methodLink RX4 141 yX4_dropEntry, Cond.instanceMethod yX4_dropEntry, Cond.selects RX4 yX4_dropEntry yX4_dropEntry, Cond.initialized RX4, Cond.code yX4_dropEntry cX4_dropEntry 2 none, Cond.methodLink RX4 91 yX4_touchOf, Cond.instanceMethod yX4_touchOf, Cond.selects RX4 yX4_touchOf yX4_touchOf, Cond.code yX4_touchOf cX4_touchOf 2 none, Cond.fieldLink RX4 25 "KeyStatesModel" "state" "[I", Cond.fieldLink RX4 28 "KeyStatesModel" "key" "[J", Cond.methodLink RX4 72 yX4_pageOf, Cond.instanceMethod yX4_pageOf, Cond.selects RX4 yX4_pageOf yX4_pageOf, Cond.code yX4_pageOf cX4_pageOf 6 (some .int), Cond.methodLink RX4 76 yX4_touch, Cond.instanceMethod yX4_touch, Cond.selects RX4 yX4_touch yX4_touch, Cond.code yX4_touch cX4_touch 2 none, Cond.fieldLink RX4 69 "KeyStatesModel" "copied" "I"]
def wsX4_clearSpan_r2 : List Cond := [Cond.fieldLink RX4 44 "KeyStatesModel" "page" "[I", Cond.methodLink RX4 65 yX4_isShared, Cond.instanceMethod yX4_isShared, Cond.selects RX4 yX4_isShared yX4_isShared, Cond.code yX4_isShared cX4_isShared 4 (some .boolean), Cond.fieldLink RX4 47 "KeyStatesModel" "isThere" "[Z", Cond.methodLink RX4 54 yX4_newPage, Cond.instanceMethod yX4_newPage, Cond.selects RX4 yX4_newPage yX4_newPage, Cond.code yX4_newPage cX4_newPage 1 (some .int), Cond.fieldLink RX4 62 "KeyStatesModel" "pages" "I", Cond.methodLink RX4 94 yX4_copyEntry, Cond.instanceMethod yX4_copyEntry, Cond.selects RX4 yX4_copyEntry yX4_copyEntry, Cond.code yX4_copyEntry cX4_copyEntry 4 none, Cond.fieldLink RX4 35 "KeyStatesModel" "size" "[I", Cond.fieldLink RX4 38 "KeyStatesModel" "number" "[J", Cond.fieldLink RX4 41 "KeyStatesModel" "member" "[J"]
def wsX4_clearSpan : List Cond := .code yX4_clearSpan cX4_clearSpan 3 (some .int) :: ((wsX4_clearSpan_r1 ++ wsX4_clearSpan_r2) ++ wsX40)
def wsX4_keys : List Cond := .code yX4_keys cX4_keys 4 (some .int) :: ([.fieldLink RX4 58 "KeyStatesModel" "thrown" "I", .fieldLink RX4 22 "KeyStatesModel" "many" "[I", .fieldLink RX4 25 "KeyStatesModel" "state" "[I", .fieldLink RX4 32 "KeyStatesModel" "span" "[I", .fieldLink RX4 84 "KeyStatesModel" "atSpan" "I", .methodLink RX4 105 yX4_isState, .instanceMethod yX4_isState, .selects RX4 yX4_isState yX4_isState, .initialized RX4, .code yX4_isState cX4_isState 2 (some .boolean), .fieldLink RX4 102 "KeyStatesModel" "states" "I", .methodLink RX4 130 yX4_fails, .instanceMethod yX4_fails, .selects RX4 yX4_fails yX4_fails, .code yX4_fails cX4_fails 2 (some .int)] ++ wsX40)
def wsX4_keyAt : List Cond := .code yX4_keyAt cX4_keyAt 6 (some .long) :: ([.fieldLink RX4 58 "KeyStatesModel" "thrown" "I", .fieldLink RX4 22 "KeyStatesModel" "many" "[I", .fieldLink RX4 25 "KeyStatesModel" "state" "[I", .fieldLink RX4 32 "KeyStatesModel" "span" "[I", .fieldLink RX4 84 "KeyStatesModel" "atSpan" "I", .fieldLink RX4 28 "KeyStatesModel" "key" "[J", .methodLink RX4 105 yX4_isState, .instanceMethod yX4_isState, .selects RX4 yX4_isState yX4_isState, .initialized RX4, .code yX4_isState cX4_isState 2 (some .boolean), .fieldLink RX4 102 "KeyStatesModel" "states" "I", .methodLink RX4 130 yX4_fails, .instanceMethod yX4_fails, .selects RX4 yX4_fails yX4_fails, .code yX4_fails cX4_fails 2 (some .int)] ++ wsX40)
def wsX4_copyOf : List Cond := .code yX4_copyOf cX4_copyOf 3 (some .int) :: ([.fieldLink RX4 47 "KeyStatesModel" "isThere" "[Z", .fieldLink RX4 51 "KeyStatesModel" "taken" "[I"] ++ wsX40)
def wsX4_copyAll : List Cond := .code yX4_copyAll cX4_copyAll 4 none :: ([.fieldLink RX4 22 "KeyStatesModel" "many" "[I", .fieldLink RX4 44 "KeyStatesModel" "page" "[I", .methodLink RX4 94 yX4_copyEntry, .instanceMethod yX4_copyEntry, .selects RX4 yX4_copyEntry yX4_copyEntry, .initialized RX4, .code yX4_copyEntry cX4_copyEntry 4 none, .fieldLink RX4 25 "KeyStatesModel" "state" "[I", .fieldLink RX4 28 "KeyStatesModel" "key" "[J", .fieldLink RX4 32 "KeyStatesModel" "span" "[I", .fieldLink RX4 35 "KeyStatesModel" "size" "[I", .fieldLink RX4 38 "KeyStatesModel" "number" "[J", .fieldLink RX4 41 "KeyStatesModel" "member" "[J"] ++ wsX40)
def wsX4_snapshot_r1 : List Cond := [Cond.fieldLink RX4 58 "KeyStatesModel" "thrown" "I", Cond.fieldLink RX4 47 "KeyStatesModel" "isThere" "[Z", Cond.fieldLink RX4 102 "KeyStatesModel" "states" "I", Cond.fieldLink RX4 13 "KeyStatesModel" "kinds" "[I", Cond.fieldLink RX4 16 "KeyStatesModel" "types" "[I", Cond.fieldLink RX4 19 "KeyStatesModel" "known" "[I", Cond.fieldLink RX4 51 "KeyStatesModel" "taken" "[I", Cond.fieldLink RX4 154 "KeyStatesModel" "snapshots" "I", Cond.methodLink RX4 151 yX4_copyAll, Cond.instanceMethod yX4_copyAll, Cond.selects RX4 yX4_copyAll yX4_copyAll, Cond.initialized RX4, Cond.code yX4_copyAll cX4_copyAll 4 none, Cond.fieldLink RX4 22 "KeyStatesModel" "many" "[I", Cond.fieldLink RX4 44 "KeyStatesModel" "page" "[I", Cond.methodLink RX4 94 yX4_copyEntry, Cond.instanceMethod yX4_copyEntry, Cond.selects RX4 yX4_copyEntry yX4_copyEntry, Cond.code yX4_copyEntry cX4_copyEntry 4 none, Cond.fieldLink RX4 25 "KeyStatesModel" "state" "[I", Cond.fieldLink RX4 28 "KeyStatesModel" "key" "[J", Cond.fieldLink RX4 32 "KeyStatesModel" "span" "[I", Cond.fieldLink RX4 35 "KeyStatesModel" "size" "[I", Cond.fieldLink RX4 38 "KeyStatesModel" "number" "[J"]
def wsX4_snapshot_r2 : List Cond := [Cond.fieldLink RX4 41 "KeyStatesModel" "member" "[J"]
def wsX4_snapshot : List Cond := .code yX4_snapshot cX4_snapshot 3 (some .int) :: ((wsX4_snapshot_r1 ++ wsX4_snapshot_r2) ++ wsX40)
def wsX4_drop : List Cond := .code yX4_drop cX4_drop 3 (some .int) :: ([.fieldLink RX4 58 "KeyStatesModel" "thrown" "I", .fieldLink RX4 47 "KeyStatesModel" "isThere" "[Z", .methodLink RX4 157 yX4_copyOf, .instanceMethod yX4_copyOf, .selects RX4 yX4_copyOf yX4_copyOf, .initialized RX4, .code yX4_copyOf cX4_copyOf 3 (some .int), .fieldLink RX4 51 "KeyStatesModel" "taken" "[I", .methodLink RX4 130 yX4_fails, .instanceMethod yX4_fails, .selects RX4 yX4_fails yX4_fails, .code yX4_fails cX4_fails 2 (some .int), .methodLink RX4 160 yX4_sharedPages, .instanceMethod yX4_sharedPages, .selects RX4 yX4_sharedPages yX4_sharedPages, .code yX4_sharedPages cX4_sharedPages 3 (some .int), .methodLink RX4 65 yX4_isShared, .instanceMethod yX4_isShared, .selects RX4 yX4_isShared yX4_isShared, .code yX4_isShared cX4_isShared 4 (some .boolean), .fieldLink RX4 44 "KeyStatesModel" "page" "[I"] ++ wsX40)
def wsX4_ask_r1 : List Cond := [Cond.fieldLink RX4 58 "KeyStatesModel" "thrown" "I", Cond.fieldLink RX4 38 "KeyStatesModel" "number" "[J", Cond.methodLink RX4 157 yX4_copyOf, Cond.instanceMethod yX4_copyOf, Cond.selects RX4 yX4_copyOf yX4_copyOf, Cond.initialized RX4, Cond.code yX4_copyOf cX4_copyOf 3 (some .int), Cond.fieldLink RX4 47 "KeyStatesModel" "isThere" "[Z", Cond.fieldLink RX4 51 "KeyStatesModel" "taken" "[I", Cond.methodLink RX4 105 yX4_isState, Cond.instanceMethod yX4_isState, Cond.selects RX4 yX4_isState yX4_isState, Cond.code yX4_isState cX4_isState 2 (some .boolean), Cond.fieldLink RX4 102 "KeyStatesModel" "states" "I", Cond.methodLink RX4 130 yX4_fails, Cond.instanceMethod yX4_fails, Cond.selects RX4 yX4_fails yX4_fails, Cond.code yX4_fails cX4_fails 2 (some .int), Cond.methodLink RX4 87 yX4_find, Cond.instanceMethod yX4_find, Cond.selects RX4 yX4_find yX4_find, Cond.code yX4_find cX4_find 7 (some .int), Cond.fieldLink RX4 22 "KeyStatesModel" "many" "[I", Cond.fieldLink RX4 25 "KeyStatesModel" "state" "[I"]
def wsX4_ask_r2 : List Cond := [Cond.fieldLink RX4 28 "KeyStatesModel" "key" "[J", Cond.fieldLink RX4 32 "KeyStatesModel" "span" "[I", Cond.methodLink RX4 163 yX4_numbersOf, Cond.instanceMethod yX4_numbersOf, Cond.selects RX4 yX4_numbersOf yX4_numbersOf, Cond.code yX4_numbersOf cX4_numbersOf 4 (some .int), Cond.fieldLink RX4 13 "KeyStatesModel" "kinds" "[I", Cond.fieldLink RX4 35 "KeyStatesModel" "size" "[I"]
def wsX4_ask : List Cond := .code yX4_ask cX4_ask 9 (some .long) :: ((wsX4_ask_r1 ++ wsX4_ask_r2) ++ wsX40)
def wsX4_entries : List Cond := .code yX4_entries cX4_entries 6 (some .int) :: ([.fieldLink RX4 58 "KeyStatesModel" "thrown" "I", .fieldLink RX4 22 "KeyStatesModel" "many" "[I", .fieldLink RX4 25 "KeyStatesModel" "state" "[I", .methodLink RX4 157 yX4_copyOf, .instanceMethod yX4_copyOf, .selects RX4 yX4_copyOf yX4_copyOf, .initialized RX4, .code yX4_copyOf cX4_copyOf 3 (some .int), .fieldLink RX4 47 "KeyStatesModel" "isThere" "[Z", .fieldLink RX4 51 "KeyStatesModel" "taken" "[I", .methodLink RX4 105 yX4_isState, .instanceMethod yX4_isState, .selects RX4 yX4_isState yX4_isState, .code yX4_isState cX4_isState 2 (some .boolean), .fieldLink RX4 102 "KeyStatesModel" "states" "I", .methodLink RX4 130 yX4_fails, .instanceMethod yX4_fails, .selects RX4 yX4_fails yX4_fails, .code yX4_fails cX4_fails 2 (some .int)] ++ wsX40)
def wsX4_restore_r1 : List Cond := [Cond.fieldLink RX4 58 "KeyStatesModel" "thrown" "I", Cond.fieldLink RX4 19 "KeyStatesModel" "known" "[I", Cond.fieldLink RX4 13 "KeyStatesModel" "kinds" "[I", Cond.fieldLink RX4 16 "KeyStatesModel" "types" "[I", Cond.fieldLink RX4 22 "KeyStatesModel" "many" "[I", Cond.methodLink RX4 157 yX4_copyOf, Cond.instanceMethod yX4_copyOf, Cond.selects RX4 yX4_copyOf yX4_copyOf, Cond.initialized RX4, Cond.code yX4_copyOf cX4_copyOf 3 (some .int), Cond.fieldLink RX4 47 "KeyStatesModel" "isThere" "[Z", Cond.fieldLink RX4 51 "KeyStatesModel" "taken" "[I", Cond.methodLink RX4 130 yX4_fails, Cond.instanceMethod yX4_fails, Cond.selects RX4 yX4_fails yX4_fails, Cond.code yX4_fails cX4_fails 2 (some .int), Cond.methodLink RX4 151 yX4_copyAll, Cond.instanceMethod yX4_copyAll, Cond.selects RX4 yX4_copyAll yX4_copyAll, Cond.code yX4_copyAll cX4_copyAll 4 none, Cond.fieldLink RX4 44 "KeyStatesModel" "page" "[I", Cond.methodLink RX4 94 yX4_copyEntry, Cond.instanceMethod yX4_copyEntry, Cond.selects RX4 yX4_copyEntry yX4_copyEntry]
def wsX4_restore_r2 : List Cond := [Cond.code yX4_copyEntry cX4_copyEntry 4 none, Cond.fieldLink RX4 25 "KeyStatesModel" "state" "[I", Cond.fieldLink RX4 28 "KeyStatesModel" "key" "[J", Cond.fieldLink RX4 32 "KeyStatesModel" "span" "[I", Cond.fieldLink RX4 35 "KeyStatesModel" "size" "[I", Cond.fieldLink RX4 38 "KeyStatesModel" "number" "[J", Cond.fieldLink RX4 41 "KeyStatesModel" "member" "[J"]
def wsX4_restore : List Cond := .code yX4_restore cX4_restore 4 (some .int) :: ((wsX4_restore_r1 ++ wsX4_restore_r2) ++ wsX40)
def wsX4_canMove : List Cond := .code yX4_canMove cX4_canMove 2 (some .boolean) :: ([])
def wsX4_move_r1 : List Cond := [Cond.fieldLink RX4 58 "KeyStatesModel" "thrown" "I", Cond.fieldLink RX4 13 "KeyStatesModel" "kinds" "[I", Cond.fieldLink RX4 22 "KeyStatesModel" "many" "[I", Cond.fieldLink RX4 25 "KeyStatesModel" "state" "[I", Cond.fieldLink RX4 38 "KeyStatesModel" "number" "[J", Cond.fieldLink RX4 35 "KeyStatesModel" "size" "[I", Cond.fieldLink RX4 16 "KeyStatesModel" "types" "[I", Cond.methodLink RX4 105 yX4_isState, Cond.instanceMethod yX4_isState, Cond.selects RX4 yX4_isState yX4_isState, Cond.initialized RX4, Cond.code yX4_isState cX4_isState 2 (some .boolean), Cond.fieldLink RX4 102 "KeyStatesModel" "states" "I", Cond.methodLink RX4 130 yX4_fails, Cond.instanceMethod yX4_fails, Cond.selects RX4 yX4_fails yX4_fails, Cond.code yX4_fails cX4_fails 2 (some .int), Cond.methodLink RX4 167 yX4_canMove, Cond.static yX4_canMove, Cond.code yX4_canMove cX4_canMove 2 (some .boolean), Cond.methodLink RX4 163 yX4_numbersOf, Cond.instanceMethod yX4_numbersOf, Cond.selects RX4 yX4_numbersOf yX4_numbersOf, Cond.code yX4_numbersOf cX4_numbersOf 4 (some .int)]
def wsX4_move_r2 : List Cond := [Cond.methodLink RX4 108 yX4_fits, Cond.static yX4_fits, Cond.code yX4_fits cX4_fits 4 (some .boolean), Cond.constantLong RX4 98 (-1000), Cond.constantLong RX4 100 (1000), Cond.methodLink RX4 91 yX4_touchOf, Cond.instanceMethod yX4_touchOf, Cond.selects RX4 yX4_touchOf yX4_touchOf, Cond.code yX4_touchOf cX4_touchOf 2 none, Cond.fieldLink RX4 28 "KeyStatesModel" "key" "[J", Cond.fieldLink RX4 32 "KeyStatesModel" "span" "[I", Cond.methodLink RX4 72 yX4_pageOf, Cond.instanceMethod yX4_pageOf, Cond.selects RX4 yX4_pageOf yX4_pageOf, Cond.code yX4_pageOf cX4_pageOf 6 (some .int), Cond.methodLink RX4 76 yX4_touch, Cond.instanceMethod yX4_touch, Cond.selects RX4 yX4_touch yX4_touch, Cond.code yX4_touch cX4_touch 2 none, Cond.fieldLink RX4 69 "KeyStatesModel" "copied" "I", Cond.fieldLink RX4 44 "KeyStatesModel" "page" "[I", Cond.methodLink RX4 65 yX4_isShared, Cond.instanceMethod yX4_isShared, Cond.selects RX4 yX4_isShared yX4_isShared]
def wsX4_move_r3 : List Cond := [Cond.code yX4_isShared cX4_isShared 4 (some .boolean), Cond.fieldLink RX4 47 "KeyStatesModel" "isThere" "[Z", Cond.methodLink RX4 54 yX4_newPage, Cond.instanceMethod yX4_newPage, Cond.selects RX4 yX4_newPage yX4_newPage, Cond.code yX4_newPage cX4_newPage 1 (some .int), Cond.fieldLink RX4 62 "KeyStatesModel" "pages" "I", Cond.methodLink RX4 144 yX4_folded, Cond.static yX4_folded, Cond.code yX4_folded cX4_folded 5 (some .long)]
def wsX4_move : List Cond := .code yX4_move cX4_move 8 (some .int) :: ((wsX4_move_r1 ++ (wsX4_move_r2 ++ wsX4_move_r3)) ++ wsX40)
def wsX4_of : List Cond := .code yX4_of cX4_of 3 (some .int) :: ([.fieldLink RX4 58 "KeyStatesModel" "thrown" "I", .fieldLink RX4 7 "KeyStatesModel" "names" "[I", .fieldLink RX4 13 "KeyStatesModel" "kinds" "[I", .fieldLink RX4 16 "KeyStatesModel" "types" "[I", .methodLink RX4 105 yX4_isState, .instanceMethod yX4_isState, .selects RX4 yX4_isState yX4_isState, .initialized RX4, .code yX4_isState cX4_isState 2 (some .boolean), .fieldLink RX4 102 "KeyStatesModel" "states" "I", .methodLink RX4 130 yX4_fails, .instanceMethod yX4_fails, .selects RX4 yX4_fails yX4_fails, .code yX4_fails cX4_fails 2 (some .int)] ++ wsX40)
def wsX4_told_r1 : List Cond := [Cond.fieldLink RX4 58 "KeyStatesModel" "thrown" "I", Cond.fieldLink RX4 22 "KeyStatesModel" "many" "[I", Cond.fieldLink RX4 25 "KeyStatesModel" "state" "[I", Cond.fieldLink RX4 28 "KeyStatesModel" "key" "[J", Cond.fieldLink RX4 32 "KeyStatesModel" "span" "[I", Cond.fieldLink RX4 47 "KeyStatesModel" "isThere" "[Z", Cond.fieldLink RX4 102 "KeyStatesModel" "states" "I", Cond.fieldLink RX4 69 "KeyStatesModel" "copied" "I", Cond.methodLink RX4 72 yX4_pageOf, Cond.instanceMethod yX4_pageOf, Cond.selects RX4 yX4_pageOf yX4_pageOf, Cond.initialized RX4, Cond.code yX4_pageOf cX4_pageOf 6 (some .int), Cond.methodLink RX4 163 yX4_numbersOf, Cond.instanceMethod yX4_numbersOf, Cond.selects RX4 yX4_numbersOf yX4_numbersOf, Cond.code yX4_numbersOf cX4_numbersOf 4 (some .int), Cond.fieldLink RX4 13 "KeyStatesModel" "kinds" "[I", Cond.fieldLink RX4 35 "KeyStatesModel" "size" "[I", Cond.methodLink RX4 160 yX4_sharedPages, Cond.instanceMethod yX4_sharedPages, Cond.selects RX4 yX4_sharedPages yX4_sharedPages, Cond.code yX4_sharedPages cX4_sharedPages 3 (some .int), Cond.methodLink RX4 65 yX4_isShared]
def wsX4_told_r2 : List Cond := [Cond.instanceMethod yX4_isShared, Cond.selects RX4 yX4_isShared yX4_isShared, Cond.code yX4_isShared cX4_isShared 4 (some .boolean), Cond.fieldLink RX4 44 "KeyStatesModel" "page" "[I"]
def wsX4_told : List Cond := .code yX4_told cX4_told 7 (some .int) :: ((wsX4_told_r1 ++ wsX4_told_r2) ++ wsX40)
def wsJ9_max_f86c9 : List Cond := .code yJ9_max_f86c9 cJ9_max_f86c9 4 (some .long) :: ([])
def wsJ9_min_7cf53 : List Cond := .code yJ9_min_7cf53 cJ9_min_7cf53 2 (some .int) :: ([])
def wsJ9_min_f86c9 : List Cond := .code yJ9_min_f86c9 cJ9_min_f86c9 4 (some .long) :: ([])
def wsL_put_r1 : List Cond := [Cond.classLink RL 13 "java/lang/IndexOutOfBoundsException", Cond.classLink RL 15 "java/lang/IllegalArgumentException", Cond.classLink RL 17 "java/lang/IllegalStateException", Cond.methodLink RL 7 yX3_put, Cond.instanceMethod yX3_put, Cond.selects RX3 yX3_put yX3_put, Cond.initialized RX3, Cond.code yX3_put cX3_put 5 (some .int), Cond.methodLink RX3 63 yX3_needToWrite, Cond.instanceMethod yX3_needToWrite, Cond.selects RX3 yX3_needToWrite yX3_needToWrite, Cond.code yX3_needToWrite cX3_needToWrite 5 none, Cond.classLink RX3 246 "java/lang/IllegalArgumentException", Cond.initialized "java/lang/IllegalArgumentException", Cond.fieldLink RX3 16 "KeyStates" "now" "LKeyStates$Picture;", Cond.fieldLink RX3 53 "KeyStates$Picture" "kinds" "[I", Cond.fieldLink RX3 56 "KeyStates$Picture" "types" "[I", Cond.methodLink RX3 140 yX3_needState, Cond.instanceMethod yX3_needState, Cond.selects RX3 yX3_needState yX3_needState, Cond.code yX3_needState cX3_needState 2 none, Cond.classLink RX3 172 "java/lang/IndexOutOfBoundsException", Cond.initialized "java/lang/IndexOutOfBoundsException", Cond.fieldLink RX3 50 "KeyStates$Picture" "stateCount" "I"]
def wsL_put_r2 : List Cond := [Cond.methodLink RX3 251 yX3_fits, Cond.static yX3_fits, Cond.code yX3_fits cX3_fits 4 (some .boolean), Cond.constantLong RX3 286 (-1000), Cond.constantLong RX3 288 (1000), Cond.methodLink RX3 144 yX3_needKey, Cond.instanceMethod yX3_needKey, Cond.selects RX3 yX3_needKey yX3_needKey, Cond.code yX3_needKey cX3_needKey 1 none, Cond.classLink RX3 241 "java/lang/IllegalStateException", Cond.initialized "java/lang/IllegalStateException", Cond.fieldLink RX3 35 "KeyStates" "hasKey" "Z", Cond.methodLink RX3 67 yX3_entryAtHand, Cond.instanceMethod yX3_entryAtHand, Cond.selects RX3 yX3_entryAtHand yX3_entryAtHand, Cond.code yX3_entryAtHand cX3_entryAtHand 2 (some (.object "KeyStates$Entry")), Cond.fieldLink RX3 39 "KeyStates" "keyAtHand" "J", Cond.fieldLink RX3 43 "KeyStates" "spanAtHand" "I", Cond.methodLink RX3 200 yX2_entryOf, Cond.instanceMethod yX2_entryOf, Cond.selects RX2 yX2_entryOf yX2_entryOf, Cond.initialized RX2, Cond.code yX2_entryOf cX2_entryOf 7 (some (.object "KeyStates$Entry")), Cond.fieldLink RX2 11 "KeyStates$Picture" "pages" "[LKeyStates$Page;"]
def wsL_put_r3 : List Cond := [Cond.classLink RX2 45 RX0, Cond.instantiable RX0 6, Cond.initialized RX0, Cond.fieldLink RX2 50 "KeyStates$Page" "rows" "[LKeyStates$Entry;", Cond.static yX3_pageNumber, Cond.code yX3_pageNumber cX3_pageNumber 5 (some .int), Cond.methodLink RX2 42 yX1_rowOf, Cond.instanceMethod yX1_rowOf, Cond.selects RX1 yX1_rowOf yX1_rowOf, Cond.initialized RX1, Cond.code yX1_rowOf cX1_rowOf 6 (some .int), Cond.fieldLink RX1 11 "KeyStates$Page" "rows" "[LKeyStates$Entry;", Cond.methodLink RX1 27 yX0_isAt, Cond.instanceMethod yX0_isAt, Cond.selects RX0 yX0_isAt yX0_isAt, Cond.code yX0_isAt cX0_isAt 5 (some .boolean), Cond.fieldLink RX0 9 "KeyStates$Entry" "state" "I", Cond.fieldLink RX0 15 "KeyStates$Entry" "key" "J", Cond.fieldLink RX0 19 "KeyStates$Entry" "span" "I", Cond.methodLink RX2 47 yX0_init, Cond.instanceMethod yX0_init, Cond.code yX0_init cX0_init 5 none, Cond.methodLink RX0 3 objectInit, Cond.instanceMethod objectInit]
def wsL_put_r4 : List Cond := [Cond.code objectInit ⟨#[0xb1]⟩ 1 none, Cond.fieldLink RX0 26 "KeyStates$Entry" "numbers" "[J", Cond.fieldLink RX0 29 "KeyStates$Entry" "members" "[J", Cond.fieldLink RX0 32 "KeyStates$Entry" "folded" "I", Cond.methodLink RX3 71 yX3_hasNoRoomFor, Cond.instanceMethod yX3_hasNoRoomFor, Cond.selects RX3 yX3_hasNoRoomFor yX3_hasNoRoomFor, Cond.code yX3_hasNoRoomFor cX3_hasNoRoomFor 2 (some .boolean), Cond.methodLink RX3 85 yX0_isNone, Cond.instanceMethod yX0_isNone, Cond.selects RX0 yX0_isNone yX0_isNone, Cond.code yX0_isNone cX0_isNone 1 (some .boolean), Cond.methodLink RX3 213 yX2_countEntries, Cond.instanceMethod yX2_countEntries, Cond.selects RX2 yX2_countEntries yX2_countEntries, Cond.code yX2_countEntries cX2_countEntries 3 (some .int), Cond.methodLink RX2 58 yX1_countEntries, Cond.instanceMethod yX1_countEntries, Cond.selects RX1 yX1_countEntries yX1_countEntries, Cond.code yX1_countEntries cX1_countEntries 3 (some .int), Cond.methodLink RX3 75 yX0_withOnly, Cond.instanceMethod yX0_withOnly, Cond.selects RX0 yX0_withOnly yX0_withOnly, Cond.code yX0_withOnly cX0_withOnly 3 (some (.object "KeyStates$Entry"))]
def wsL_put_r5 : List Cond := [Cond.classLink RX0 10 RX0, Cond.arrayClass .long, Cond.methodLink RX0 39 yX0_init_, Cond.instanceMethod yX0_init_, Cond.code yX0_init_ cX0_init_ 5 none, Cond.methodLink RX3 81 yX3_keep, Cond.instanceMethod yX3_keep, Cond.selects RX3 yX3_keep yX3_keep, Cond.code yX3_keep cX3_keep 2 none, Cond.fieldLink RX3 257 "KeyStates$Entry" "state" "I", Cond.fieldLink RX3 260 "KeyStates$Entry" "key" "J", Cond.fieldLink RX3 263 "KeyStates$Entry" "span" "I", Cond.methodLink RX3 266 yX3_pageNumber, Cond.methodLink RX3 161 yX3_pageToChange, Cond.instanceMethod yX3_pageToChange, Cond.selects RX3 yX3_pageToChange yX3_pageToChange, Cond.code yX3_pageToChange cX3_pageToChange 3 (some (.object "KeyStates$Page")), Cond.fieldLink RX3 151 "KeyStates$Picture" "pages" "[LKeyStates$Page;", Cond.fieldLink RX3 32 "KeyStates" "pagesCopied" "I", Cond.methodLink RX3 273 yX1_isShared, Cond.instanceMethod yX1_isShared, Cond.selects RX1 yX1_isShared yX1_isShared, Cond.code yX1_isShared cX1_isShared 1 (some .boolean), Cond.fieldLink RX1 17 "KeyStates$Page" "holders" "I"]
def wsL_put_r6 : List Cond := [Cond.methodLink RX3 276 yX1_copied, Cond.instanceMethod yX1_copied, Cond.selects RX1 yX1_copied yX1_copied, Cond.code yX1_copied cX1_copied 2 (some (.object "KeyStates$Page")), Cond.classLink RX1 12 RX1, Cond.instantiable RX1 2, Cond.methodLink RX1 22 ⟨"[LKeyStates$Entry;", "clone", "()Ljava/lang/Object;"⟩, Cond.sameMethod "[LKeyStates$Entry;" "java/lang/Object" "clone" "()Ljava/lang/Object;", Cond.native ⟨"java/lang/Object", "clone", "()Ljava/lang/Object;"⟩, Cond.instanceMethod ⟨"java/lang/Object", "clone", "()Ljava/lang/Object;"⟩, Cond.selects "[LKeyStates$Entry;" ⟨"[LKeyStates$Entry;", "clone", "()Ljava/lang/Object;"⟩ ⟨"java/lang/Object", "clone", "()Ljava/lang/Object;"⟩, Cond.classLink RX1 23 "[LKeyStates$Entry;", Cond.methodLink RX1 21 yX1_init, Cond.instanceMethod yX1_init, Cond.code yX1_init cX1_init 1 none, Cond.methodLink RX1 3 objectInit, Cond.classLink RX1 9 RX0, Cond.methodLink RX3 270 yX1_keepEntry, Cond.instanceMethod yX1_keepEntry, Cond.selects RX1 yX1_keepEntry yX1_keepEntry, Cond.code yX1_keepEntry cX1_keepEntry 3 none, Cond.fieldLink RX1 31 "KeyStates$Entry" "state" "I", Cond.fieldLink RX1 34 "KeyStates$Entry" "key" "J", Cond.fieldLink RX1 38 "KeyStates$Entry" "span" "I"]
def wsL_put_r7 : List Cond := [Cond.methodLink RX1 41 yX1_rowOf, Cond.methodLink RX1 45 yX1_freeRow, Cond.instanceMethod yX1_freeRow, Cond.selects RX1 yX1_freeRow yX1_freeRow, Cond.code yX1_freeRow cX1_freeRow 4 (some .int), Cond.methodLink RX1 49 yX0_isNone]
def wsL_put : List Cond := .codeWith yL_put cL_put 6 (some .int) [(0, 11, 14, 13), (0, 11, 18, 15), (0, 11, 22, 17)] :: ((wsL_put_r1 ++ (wsL_put_r2 ++ (wsL_put_r3 ++ (wsL_put_r4 ++ (wsL_put_r5 ++ (wsL_put_r6 ++ wsL_put_r7)))))) ++ wsX30 ++ wsX20 ++ wsX00 ++ wsX10 ++ (vx_atS RX3 250 "java/lang/IllegalArgumentException" ["java/lang/RuntimeException", "java/lang/Exception"]).filter goodWord ++ (vx_atS RX3 176 "java/lang/IndexOutOfBoundsException" ["java/lang/RuntimeException", "java/lang/Exception"]).filter goodWord ++ (vx_atS RX3 245 "java/lang/IllegalStateException" ["java/lang/RuntimeException", "java/lang/Exception"]).filter goodWord)
def wsL_value_r1 : List Cond := [Cond.classLink RL 13 "java/lang/IndexOutOfBoundsException", Cond.classLink RL 15 "java/lang/IllegalArgumentException", Cond.classLink RL 17 "java/lang/IllegalStateException", Cond.classLink RL 23 "java/util/NoSuchElementException", Cond.methodLink RL 19 yX3_value, Cond.instanceMethod yX3_value, Cond.selects RX3 yX3_value yX3_value, Cond.initialized RX3, Cond.code yX3_value cX3_value 3 (some .long), Cond.classLink RX3 93 "java/util/NoSuchElementException", Cond.initialized "java/util/NoSuchElementException", Cond.fieldLink RX3 100 "KeyStates$Entry" "numbers" "[J", Cond.methodLink RX3 89 yX3_needToRead, Cond.instanceMethod yX3_needToRead, Cond.selects RX3 yX3_needToRead yX3_needToRead, Cond.code yX3_needToRead cX3_needToRead 4 none, Cond.classLink RX3 246 "java/lang/IllegalArgumentException", Cond.initialized "java/lang/IllegalArgumentException", Cond.fieldLink RX3 16 "KeyStates" "now" "LKeyStates$Picture;", Cond.fieldLink RX3 53 "KeyStates$Picture" "kinds" "[I", Cond.methodLink RX3 140 yX3_needState, Cond.instanceMethod yX3_needState, Cond.selects RX3 yX3_needState yX3_needState, Cond.code yX3_needState cX3_needState 2 none]
def wsL_value_r2 : List Cond := [Cond.classLink RX3 172 "java/lang/IndexOutOfBoundsException", Cond.initialized "java/lang/IndexOutOfBoundsException", Cond.fieldLink RX3 50 "KeyStates$Picture" "stateCount" "I", Cond.methodLink RX3 144 yX3_needKey, Cond.instanceMethod yX3_needKey, Cond.selects RX3 yX3_needKey yX3_needKey, Cond.code yX3_needKey cX3_needKey 1 none, Cond.classLink RX3 241 "java/lang/IllegalStateException", Cond.initialized "java/lang/IllegalStateException", Cond.fieldLink RX3 35 "KeyStates" "hasKey" "Z", Cond.methodLink RX3 67 yX3_entryAtHand, Cond.instanceMethod yX3_entryAtHand, Cond.selects RX3 yX3_entryAtHand yX3_entryAtHand, Cond.code yX3_entryAtHand cX3_entryAtHand 2 (some (.object "KeyStates$Entry")), Cond.fieldLink RX3 39 "KeyStates" "keyAtHand" "J", Cond.fieldLink RX3 43 "KeyStates" "spanAtHand" "I", Cond.methodLink RX3 200 yX2_entryOf, Cond.instanceMethod yX2_entryOf, Cond.selects RX2 yX2_entryOf yX2_entryOf, Cond.initialized RX2, Cond.code yX2_entryOf cX2_entryOf 7 (some (.object "KeyStates$Entry")), Cond.fieldLink RX2 11 "KeyStates$Picture" "pages" "[LKeyStates$Page;", Cond.classLink RX2 45 RX0, Cond.instantiable RX0 6]
def wsL_value_r3 : List Cond := [Cond.initialized RX0, Cond.fieldLink RX2 50 "KeyStates$Page" "rows" "[LKeyStates$Entry;", Cond.static yX3_pageNumber, Cond.code yX3_pageNumber cX3_pageNumber 5 (some .int), Cond.methodLink RX2 42 yX1_rowOf, Cond.instanceMethod yX1_rowOf, Cond.selects RX1 yX1_rowOf yX1_rowOf, Cond.initialized RX1, Cond.code yX1_rowOf cX1_rowOf 6 (some .int), Cond.fieldLink RX1 11 "KeyStates$Page" "rows" "[LKeyStates$Entry;", Cond.methodLink RX1 27 yX0_isAt, Cond.instanceMethod yX0_isAt, Cond.selects RX0 yX0_isAt yX0_isAt, Cond.code yX0_isAt cX0_isAt 5 (some .boolean), Cond.fieldLink RX0 9 "KeyStates$Entry" "state" "I", Cond.fieldLink RX0 15 "KeyStates$Entry" "key" "J", Cond.fieldLink RX0 19 "KeyStates$Entry" "span" "I", Cond.methodLink RX2 47 yX0_init, Cond.instanceMethod yX0_init, Cond.code yX0_init cX0_init 5 none, Cond.methodLink RX0 3 objectInit, Cond.instanceMethod objectInit, Cond.code objectInit ⟨#[0xb1]⟩ 1 none, Cond.fieldLink RX0 26 "KeyStates$Entry" "numbers" "[J"]
def wsL_value_r4 : List Cond := [Cond.fieldLink RX0 29 "KeyStates$Entry" "members" "[J", Cond.fieldLink RX0 32 "KeyStates$Entry" "folded" "I", Cond.methodLink RX3 85 yX0_isNone, Cond.instanceMethod yX0_isNone, Cond.selects RX0 yX0_isNone yX0_isNone, Cond.code yX0_isNone cX0_isNone 1 (some .boolean)]
def wsL_value : List Cond := .codeWith yL_value cL_value 4 (some .int) [(0, 8, 11, 13), (0, 8, 14, 15), (0, 8, 17, 17), (0, 8, 20, 23)] :: ((wsL_value_r1 ++ (wsL_value_r2 ++ (wsL_value_r3 ++ wsL_value_r4))) ++ wsX00 ++ wsX30 ++ wsX20 ++ wsX10 ++ (vx_atS RX3 97 "java/util/NoSuchElementException" ["java/lang/RuntimeException", "java/lang/Exception"]).filter goodWord ++ (vx_atS RX3 250 "java/lang/IllegalArgumentException" ["java/lang/RuntimeException", "java/lang/Exception"]).filter goodWord ++ (vx_atS RX3 176 "java/lang/IndexOutOfBoundsException" ["java/lang/RuntimeException", "java/lang/Exception"]).filter goodWord ++ (vx_atS RX3 245 "java/lang/IllegalStateException" ["java/lang/RuntimeException", "java/lang/Exception"]).filter goodWord)
def wsL_add_r1 : List Cond := [Cond.classLink RL 13 "java/lang/IndexOutOfBoundsException", Cond.classLink RL 15 "java/lang/IllegalArgumentException", Cond.classLink RL 17 "java/lang/IllegalStateException", Cond.methodLink RL 25 yX3_add, Cond.instanceMethod yX3_add, Cond.selects RX3 yX3_add yX3_add, Cond.initialized RX3, Cond.code yX3_add cX3_add 5 (some .int), Cond.fieldLink RX3 100 "KeyStates$Entry" "numbers" "[J", Cond.methodLink RX3 63 yX3_needToWrite, Cond.instanceMethod yX3_needToWrite, Cond.selects RX3 yX3_needToWrite yX3_needToWrite, Cond.code yX3_needToWrite cX3_needToWrite 5 none, Cond.classLink RX3 246 "java/lang/IllegalArgumentException", Cond.initialized "java/lang/IllegalArgumentException", Cond.fieldLink RX3 16 "KeyStates" "now" "LKeyStates$Picture;", Cond.fieldLink RX3 53 "KeyStates$Picture" "kinds" "[I", Cond.fieldLink RX3 56 "KeyStates$Picture" "types" "[I", Cond.methodLink RX3 140 yX3_needState, Cond.instanceMethod yX3_needState, Cond.selects RX3 yX3_needState yX3_needState, Cond.code yX3_needState cX3_needState 2 none, Cond.classLink RX3 172 "java/lang/IndexOutOfBoundsException", Cond.initialized "java/lang/IndexOutOfBoundsException"]
def wsL_add_r2 : List Cond := [Cond.fieldLink RX3 50 "KeyStates$Picture" "stateCount" "I", Cond.methodLink RX3 251 yX3_fits, Cond.static yX3_fits, Cond.code yX3_fits cX3_fits 4 (some .boolean), Cond.constantLong RX3 286 (-1000), Cond.constantLong RX3 288 (1000), Cond.methodLink RX3 144 yX3_needKey, Cond.instanceMethod yX3_needKey, Cond.selects RX3 yX3_needKey yX3_needKey, Cond.code yX3_needKey cX3_needKey 1 none, Cond.classLink RX3 241 "java/lang/IllegalStateException", Cond.initialized "java/lang/IllegalStateException", Cond.fieldLink RX3 35 "KeyStates" "hasKey" "Z", Cond.methodLink RX3 67 yX3_entryAtHand, Cond.instanceMethod yX3_entryAtHand, Cond.selects RX3 yX3_entryAtHand yX3_entryAtHand, Cond.code yX3_entryAtHand cX3_entryAtHand 2 (some (.object "KeyStates$Entry")), Cond.fieldLink RX3 39 "KeyStates" "keyAtHand" "J", Cond.fieldLink RX3 43 "KeyStates" "spanAtHand" "I", Cond.methodLink RX3 200 yX2_entryOf, Cond.instanceMethod yX2_entryOf, Cond.selects RX2 yX2_entryOf yX2_entryOf, Cond.initialized RX2, Cond.code yX2_entryOf cX2_entryOf 7 (some (.object "KeyStates$Entry"))]
def wsL_add_r3 : List Cond := [Cond.fieldLink RX2 11 "KeyStates$Picture" "pages" "[LKeyStates$Page;", Cond.classLink RX2 45 RX0, Cond.instantiable RX0 6, Cond.initialized RX0, Cond.fieldLink RX2 50 "KeyStates$Page" "rows" "[LKeyStates$Entry;", Cond.static yX3_pageNumber, Cond.code yX3_pageNumber cX3_pageNumber 5 (some .int), Cond.methodLink RX2 42 yX1_rowOf, Cond.instanceMethod yX1_rowOf, Cond.selects RX1 yX1_rowOf yX1_rowOf, Cond.initialized RX1, Cond.code yX1_rowOf cX1_rowOf 6 (some .int), Cond.fieldLink RX1 11 "KeyStates$Page" "rows" "[LKeyStates$Entry;", Cond.methodLink RX1 27 yX0_isAt, Cond.instanceMethod yX0_isAt, Cond.selects RX0 yX0_isAt yX0_isAt, Cond.code yX0_isAt cX0_isAt 5 (some .boolean), Cond.fieldLink RX0 9 "KeyStates$Entry" "state" "I", Cond.fieldLink RX0 15 "KeyStates$Entry" "key" "J", Cond.fieldLink RX0 19 "KeyStates$Entry" "span" "I", Cond.methodLink RX2 47 yX0_init, Cond.instanceMethod yX0_init, Cond.code yX0_init cX0_init 5 none, Cond.methodLink RX0 3 objectInit]
def wsL_add_r4 : List Cond := [Cond.instanceMethod objectInit, Cond.code objectInit ⟨#[0xb1]⟩ 1 none, Cond.fieldLink RX0 26 "KeyStates$Entry" "numbers" "[J", Cond.fieldLink RX0 29 "KeyStates$Entry" "members" "[J", Cond.fieldLink RX0 32 "KeyStates$Entry" "folded" "I", Cond.methodLink RX3 71 yX3_hasNoRoomFor, Cond.instanceMethod yX3_hasNoRoomFor, Cond.selects RX3 yX3_hasNoRoomFor yX3_hasNoRoomFor, Cond.code yX3_hasNoRoomFor cX3_hasNoRoomFor 2 (some .boolean), Cond.methodLink RX3 85 yX0_isNone, Cond.instanceMethod yX0_isNone, Cond.selects RX0 yX0_isNone yX0_isNone, Cond.code yX0_isNone cX0_isNone 1 (some .boolean), Cond.methodLink RX3 213 yX2_countEntries, Cond.instanceMethod yX2_countEntries, Cond.selects RX2 yX2_countEntries yX2_countEntries, Cond.code yX2_countEntries cX2_countEntries 3 (some .int), Cond.methodLink RX2 58 yX1_countEntries, Cond.instanceMethod yX1_countEntries, Cond.selects RX1 yX1_countEntries yX1_countEntries, Cond.code yX1_countEntries cX1_countEntries 3 (some .int), Cond.methodLink RX3 103 yX0_withOneMore, Cond.instanceMethod yX0_withOneMore, Cond.selects RX0 yX0_withOneMore yX0_withOneMore]
def wsL_add_r5 : List Cond := [Cond.code yX0_withOneMore cX0_withOneMore 3 (some (.object "KeyStates$Entry")), Cond.classLink RX0 10 RX0, Cond.methodLink RX0 42 yX0_inserted, Cond.static yX0_inserted, Cond.code yX0_inserted cX0_inserted 5 (some (.array .long)), Cond.arrayClass .long, Cond.methodLink RX0 71 arraycopyName, Cond.native arraycopyName, Cond.static arraycopyName, Cond.initialized "java/lang/System", Cond.methodLink RX0 39 yX0_init_, Cond.instanceMethod yX0_init_, Cond.code yX0_init_ cX0_init_ 5 none, Cond.methodLink RX3 81 yX3_keep, Cond.instanceMethod yX3_keep, Cond.selects RX3 yX3_keep yX3_keep, Cond.code yX3_keep cX3_keep 2 none, Cond.fieldLink RX3 257 "KeyStates$Entry" "state" "I", Cond.fieldLink RX3 260 "KeyStates$Entry" "key" "J", Cond.fieldLink RX3 263 "KeyStates$Entry" "span" "I", Cond.methodLink RX3 266 yX3_pageNumber, Cond.methodLink RX3 161 yX3_pageToChange, Cond.instanceMethod yX3_pageToChange, Cond.selects RX3 yX3_pageToChange yX3_pageToChange]
def wsL_add_r6 : List Cond := [Cond.code yX3_pageToChange cX3_pageToChange 3 (some (.object "KeyStates$Page")), Cond.fieldLink RX3 151 "KeyStates$Picture" "pages" "[LKeyStates$Page;", Cond.fieldLink RX3 32 "KeyStates" "pagesCopied" "I", Cond.methodLink RX3 273 yX1_isShared, Cond.instanceMethod yX1_isShared, Cond.selects RX1 yX1_isShared yX1_isShared, Cond.code yX1_isShared cX1_isShared 1 (some .boolean), Cond.fieldLink RX1 17 "KeyStates$Page" "holders" "I", Cond.methodLink RX3 276 yX1_copied, Cond.instanceMethod yX1_copied, Cond.selects RX1 yX1_copied yX1_copied, Cond.code yX1_copied cX1_copied 2 (some (.object "KeyStates$Page")), Cond.classLink RX1 12 RX1, Cond.instantiable RX1 2, Cond.methodLink RX1 22 ⟨"[LKeyStates$Entry;", "clone", "()Ljava/lang/Object;"⟩, Cond.sameMethod "[LKeyStates$Entry;" "java/lang/Object" "clone" "()Ljava/lang/Object;", Cond.native ⟨"java/lang/Object", "clone", "()Ljava/lang/Object;"⟩, Cond.instanceMethod ⟨"java/lang/Object", "clone", "()Ljava/lang/Object;"⟩, Cond.selects "[LKeyStates$Entry;" ⟨"[LKeyStates$Entry;", "clone", "()Ljava/lang/Object;"⟩ ⟨"java/lang/Object", "clone", "()Ljava/lang/Object;"⟩, Cond.classLink RX1 23 "[LKeyStates$Entry;", Cond.methodLink RX1 21 yX1_init, Cond.instanceMethod yX1_init, Cond.code yX1_init cX1_init 1 none, Cond.methodLink RX1 3 objectInit]
def wsL_add_r7 : List Cond := [Cond.classLink RX1 9 RX0, Cond.methodLink RX3 270 yX1_keepEntry, Cond.instanceMethod yX1_keepEntry, Cond.selects RX1 yX1_keepEntry yX1_keepEntry, Cond.code yX1_keepEntry cX1_keepEntry 3 none, Cond.fieldLink RX1 31 "KeyStates$Entry" "state" "I", Cond.fieldLink RX1 34 "KeyStates$Entry" "key" "J", Cond.fieldLink RX1 38 "KeyStates$Entry" "span" "I", Cond.methodLink RX1 41 yX1_rowOf, Cond.methodLink RX1 45 yX1_freeRow, Cond.instanceMethod yX1_freeRow, Cond.selects RX1 yX1_freeRow yX1_freeRow, Cond.code yX1_freeRow cX1_freeRow 4 (some .int), Cond.methodLink RX1 49 yX0_isNone]
def wsL_add : List Cond := .codeWith yL_add cL_add 6 (some .int) [(0, 11, 14, 13), (0, 11, 18, 15), (0, 11, 22, 17)] :: ((wsL_add_r1 ++ (wsL_add_r2 ++ (wsL_add_r3 ++ (wsL_add_r4 ++ (wsL_add_r5 ++ (wsL_add_r6 ++ wsL_add_r7)))))) ++ wsX00 ++ wsX30 ++ wsX20 ++ wsX10 ++ (vx_atS RX3 250 "java/lang/IllegalArgumentException" ["java/lang/RuntimeException", "java/lang/Exception"]).filter goodWord ++ (vx_atS RX3 176 "java/lang/IndexOutOfBoundsException" ["java/lang/RuntimeException", "java/lang/Exception"]).filter goodWord ++ (vx_atS RX3 245 "java/lang/IllegalStateException" ["java/lang/RuntimeException", "java/lang/Exception"]).filter goodWord)
def wsL_item_r1 : List Cond := [Cond.classLink RL 13 "java/lang/IndexOutOfBoundsException", Cond.classLink RL 15 "java/lang/IllegalArgumentException", Cond.classLink RL 17 "java/lang/IllegalStateException", Cond.methodLink RL 28 yX3_item, Cond.instanceMethod yX3_item, Cond.selects RX3 yX3_item yX3_item, Cond.initialized RX3, Cond.code yX3_item cX3_item 3 (some .long), Cond.fieldLink RX3 100 "KeyStates$Entry" "numbers" "[J", Cond.methodLink RX3 89 yX3_needToRead, Cond.instanceMethod yX3_needToRead, Cond.selects RX3 yX3_needToRead yX3_needToRead, Cond.code yX3_needToRead cX3_needToRead 4 none, Cond.classLink RX3 246 "java/lang/IllegalArgumentException", Cond.initialized "java/lang/IllegalArgumentException", Cond.fieldLink RX3 16 "KeyStates" "now" "LKeyStates$Picture;", Cond.fieldLink RX3 53 "KeyStates$Picture" "kinds" "[I", Cond.methodLink RX3 140 yX3_needState, Cond.instanceMethod yX3_needState, Cond.selects RX3 yX3_needState yX3_needState, Cond.code yX3_needState cX3_needState 2 none, Cond.classLink RX3 172 "java/lang/IndexOutOfBoundsException", Cond.initialized "java/lang/IndexOutOfBoundsException", Cond.fieldLink RX3 50 "KeyStates$Picture" "stateCount" "I"]
def wsL_item_r2 : List Cond := [Cond.methodLink RX3 144 yX3_needKey, Cond.instanceMethod yX3_needKey, Cond.selects RX3 yX3_needKey yX3_needKey, Cond.code yX3_needKey cX3_needKey 1 none, Cond.classLink RX3 241 "java/lang/IllegalStateException", Cond.initialized "java/lang/IllegalStateException", Cond.fieldLink RX3 35 "KeyStates" "hasKey" "Z", Cond.methodLink RX3 67 yX3_entryAtHand, Cond.instanceMethod yX3_entryAtHand, Cond.selects RX3 yX3_entryAtHand yX3_entryAtHand, Cond.code yX3_entryAtHand cX3_entryAtHand 2 (some (.object "KeyStates$Entry")), Cond.fieldLink RX3 39 "KeyStates" "keyAtHand" "J", Cond.fieldLink RX3 43 "KeyStates" "spanAtHand" "I", Cond.methodLink RX3 200 yX2_entryOf, Cond.instanceMethod yX2_entryOf, Cond.selects RX2 yX2_entryOf yX2_entryOf, Cond.initialized RX2, Cond.code yX2_entryOf cX2_entryOf 7 (some (.object "KeyStates$Entry")), Cond.fieldLink RX2 11 "KeyStates$Picture" "pages" "[LKeyStates$Page;", Cond.classLink RX2 45 RX0, Cond.instantiable RX0 6, Cond.initialized RX0, Cond.fieldLink RX2 50 "KeyStates$Page" "rows" "[LKeyStates$Entry;", Cond.static yX3_pageNumber]
def wsL_item_r3 : List Cond := [Cond.code yX3_pageNumber cX3_pageNumber 5 (some .int), Cond.methodLink RX2 42 yX1_rowOf, Cond.instanceMethod yX1_rowOf, Cond.selects RX1 yX1_rowOf yX1_rowOf, Cond.initialized RX1, Cond.code yX1_rowOf cX1_rowOf 6 (some .int), Cond.fieldLink RX1 11 "KeyStates$Page" "rows" "[LKeyStates$Entry;", Cond.methodLink RX1 27 yX0_isAt, Cond.instanceMethod yX0_isAt, Cond.selects RX0 yX0_isAt yX0_isAt, Cond.code yX0_isAt cX0_isAt 5 (some .boolean), Cond.fieldLink RX0 9 "KeyStates$Entry" "state" "I", Cond.fieldLink RX0 15 "KeyStates$Entry" "key" "J", Cond.fieldLink RX0 19 "KeyStates$Entry" "span" "I", Cond.methodLink RX2 47 yX0_init, Cond.instanceMethod yX0_init, Cond.code yX0_init cX0_init 5 none, Cond.methodLink RX0 3 objectInit, Cond.instanceMethod objectInit, Cond.code objectInit ⟨#[0xb1]⟩ 1 none, Cond.fieldLink RX0 26 "KeyStates$Entry" "numbers" "[J", Cond.fieldLink RX0 29 "KeyStates$Entry" "members" "[J", Cond.fieldLink RX0 32 "KeyStates$Entry" "folded" "I", Cond.methodLink RX3 106 yX3_numberAt]
def wsL_item_r4 : List Cond := [Cond.static yX3_numberAt, Cond.code yX3_numberAt cX3_numberAt 2 (some .long)]
def wsL_item : List Cond := .codeWith yL_item cL_item 5 (some .int) [(0, 9, 12, 13), (0, 9, 16, 15), (0, 9, 20, 17)] :: ((wsL_item_r1 ++ (wsL_item_r2 ++ (wsL_item_r3 ++ wsL_item_r4))) ++ wsX00 ++ wsX30 ++ wsX20 ++ wsX10 ++ (vx_atS RX3 250 "java/lang/IllegalArgumentException" ["java/lang/RuntimeException", "java/lang/Exception"]).filter goodWord ++ (vx_atS RX3 176 "java/lang/IndexOutOfBoundsException" ["java/lang/RuntimeException", "java/lang/Exception"]).filter goodWord ++ (vx_atS RX3 245 "java/lang/IllegalStateException" ["java/lang/RuntimeException", "java/lang/Exception"]).filter goodWord)
def wsL_set_r1 : List Cond := [Cond.classLink RL 13 "java/lang/IndexOutOfBoundsException", Cond.classLink RL 15 "java/lang/IllegalArgumentException", Cond.classLink RL 17 "java/lang/IllegalStateException", Cond.methodLink RL 32 yX3_set, Cond.instanceMethod yX3_set, Cond.selects RX3 yX3_set yX3_set, Cond.initialized RX3, Cond.code yX3_set cX3_set 8 (some .int), Cond.fieldLink RX3 122 "KeyStates$Entry" "members" "[J", Cond.methodLink RX3 63 yX3_needToWrite, Cond.instanceMethod yX3_needToWrite, Cond.selects RX3 yX3_needToWrite yX3_needToWrite, Cond.code yX3_needToWrite cX3_needToWrite 5 none, Cond.classLink RX3 246 "java/lang/IllegalArgumentException", Cond.initialized "java/lang/IllegalArgumentException", Cond.fieldLink RX3 16 "KeyStates" "now" "LKeyStates$Picture;", Cond.fieldLink RX3 53 "KeyStates$Picture" "kinds" "[I", Cond.fieldLink RX3 56 "KeyStates$Picture" "types" "[I", Cond.methodLink RX3 140 yX3_needState, Cond.instanceMethod yX3_needState, Cond.selects RX3 yX3_needState yX3_needState, Cond.code yX3_needState cX3_needState 2 none, Cond.classLink RX3 172 "java/lang/IndexOutOfBoundsException", Cond.initialized "java/lang/IndexOutOfBoundsException"]
def wsL_set_r2 : List Cond := [Cond.fieldLink RX3 50 "KeyStates$Picture" "stateCount" "I", Cond.methodLink RX3 251 yX3_fits, Cond.static yX3_fits, Cond.code yX3_fits cX3_fits 4 (some .boolean), Cond.constantLong RX3 286 (-1000), Cond.constantLong RX3 288 (1000), Cond.methodLink RX3 144 yX3_needKey, Cond.instanceMethod yX3_needKey, Cond.selects RX3 yX3_needKey yX3_needKey, Cond.code yX3_needKey cX3_needKey 1 none, Cond.classLink RX3 241 "java/lang/IllegalStateException", Cond.initialized "java/lang/IllegalStateException", Cond.fieldLink RX3 35 "KeyStates" "hasKey" "Z", Cond.methodLink RX3 67 yX3_entryAtHand, Cond.instanceMethod yX3_entryAtHand, Cond.selects RX3 yX3_entryAtHand yX3_entryAtHand, Cond.code yX3_entryAtHand cX3_entryAtHand 2 (some (.object "KeyStates$Entry")), Cond.fieldLink RX3 39 "KeyStates" "keyAtHand" "J", Cond.fieldLink RX3 43 "KeyStates" "spanAtHand" "I", Cond.methodLink RX3 200 yX2_entryOf, Cond.instanceMethod yX2_entryOf, Cond.selects RX2 yX2_entryOf yX2_entryOf, Cond.initialized RX2, Cond.code yX2_entryOf cX2_entryOf 7 (some (.object "KeyStates$Entry"))]
def wsL_set_r3 : List Cond := [Cond.fieldLink RX2 11 "KeyStates$Picture" "pages" "[LKeyStates$Page;", Cond.classLink RX2 45 RX0, Cond.instantiable RX0 6, Cond.initialized RX0, Cond.fieldLink RX2 50 "KeyStates$Page" "rows" "[LKeyStates$Entry;", Cond.static yX3_pageNumber, Cond.code yX3_pageNumber cX3_pageNumber 5 (some .int), Cond.methodLink RX2 42 yX1_rowOf, Cond.instanceMethod yX1_rowOf, Cond.selects RX1 yX1_rowOf yX1_rowOf, Cond.initialized RX1, Cond.code yX1_rowOf cX1_rowOf 6 (some .int), Cond.fieldLink RX1 11 "KeyStates$Page" "rows" "[LKeyStates$Entry;", Cond.methodLink RX1 27 yX0_isAt, Cond.instanceMethod yX0_isAt, Cond.selects RX0 yX0_isAt yX0_isAt, Cond.code yX0_isAt cX0_isAt 5 (some .boolean), Cond.fieldLink RX0 9 "KeyStates$Entry" "state" "I", Cond.fieldLink RX0 15 "KeyStates$Entry" "key" "J", Cond.fieldLink RX0 19 "KeyStates$Entry" "span" "I", Cond.methodLink RX2 47 yX0_init, Cond.instanceMethod yX0_init, Cond.code yX0_init cX0_init 5 none, Cond.methodLink RX0 3 objectInit]
def wsL_set_r4 : List Cond := [Cond.instanceMethod objectInit, Cond.code objectInit ⟨#[0xb1]⟩ 1 none, Cond.fieldLink RX0 26 "KeyStates$Entry" "numbers" "[J", Cond.fieldLink RX0 29 "KeyStates$Entry" "members" "[J", Cond.fieldLink RX0 32 "KeyStates$Entry" "folded" "I", Cond.methodLink RX3 110 yX0_placeOf, Cond.instanceMethod yX0_placeOf, Cond.selects RX0 yX0_placeOf yX0_placeOf, Cond.code yX0_placeOf cX0_placeOf 3 (some .int), Cond.static yX3_countBelow, Cond.code yX3_countBelow cX3_countBelow 5 (some .int), Cond.methodLink RX3 114 yX0_hasMember, Cond.instanceMethod yX0_hasMember, Cond.selects RX0 yX0_hasMember yX0_hasMember, Cond.code yX0_hasMember cX0_hasMember 4 (some .boolean), Cond.methodLink RX3 118 yX0_withNumberAt, Cond.instanceMethod yX0_withNumberAt, Cond.selects RX0 yX0_withNumberAt yX0_withNumberAt, Cond.code yX0_withNumberAt cX0_withNumberAt 5 (some (.object "KeyStates$Entry")), Cond.classLink RX0 10 RX0, Cond.methodLink RX0 46 yJ7_copyOf_c38d5, Cond.static yJ7_copyOf_c38d5, Cond.initialized RJ7, Cond.code yJ7_copyOf_c38d5 cJ7_copyOf_c38d5 3 (some (.array .long))]
def wsL_set_r5 : List Cond := [Cond.methodLink RJ7 319 ⟨"[J", "clone", "()Ljava/lang/Object;"⟩, Cond.sameMethod "[J" "java/lang/Object" "clone" "()Ljava/lang/Object;", Cond.native ⟨"java/lang/Object", "clone", "()Ljava/lang/Object;"⟩, Cond.instanceMethod ⟨"java/lang/Object", "clone", "()Ljava/lang/Object;"⟩, Cond.selects "[J" ⟨"[J", "clone", "()Ljava/lang/Object;"⟩ ⟨"java/lang/Object", "clone", "()Ljava/lang/Object;"⟩, Cond.classLink RJ7 320 "[J", Cond.arrayClass .long, Cond.methodLink RJ7 304 Lib.Math.min.name, Cond.static Lib.Math.min.name, Cond.initialized "java/lang/Math", Cond.code Lib.Math.min.name Lib.Math.min.code 2 (some .int), Cond.methodLink RJ7 150 arraycopyName, Cond.native arraycopyName, Cond.static arraycopyName, Cond.initialized "java/lang/System", Cond.methodLink RX0 39 yX0_init_, Cond.instanceMethod yX0_init_, Cond.code yX0_init_ cX0_init_ 5 none, Cond.methodLink RX3 81 yX3_keep, Cond.instanceMethod yX3_keep, Cond.selects RX3 yX3_keep yX3_keep, Cond.code yX3_keep cX3_keep 2 none, Cond.fieldLink RX3 257 "KeyStates$Entry" "state" "I", Cond.fieldLink RX3 260 "KeyStates$Entry" "key" "J"]
def wsL_set_r6 : List Cond := [Cond.fieldLink RX3 263 "KeyStates$Entry" "span" "I", Cond.methodLink RX3 266 yX3_pageNumber, Cond.methodLink RX3 161 yX3_pageToChange, Cond.instanceMethod yX3_pageToChange, Cond.selects RX3 yX3_pageToChange yX3_pageToChange, Cond.code yX3_pageToChange cX3_pageToChange 3 (some (.object "KeyStates$Page")), Cond.fieldLink RX3 151 "KeyStates$Picture" "pages" "[LKeyStates$Page;", Cond.fieldLink RX3 32 "KeyStates" "pagesCopied" "I", Cond.methodLink RX3 273 yX1_isShared, Cond.instanceMethod yX1_isShared, Cond.selects RX1 yX1_isShared yX1_isShared, Cond.code yX1_isShared cX1_isShared 1 (some .boolean), Cond.fieldLink RX1 17 "KeyStates$Page" "holders" "I", Cond.methodLink RX3 276 yX1_copied, Cond.instanceMethod yX1_copied, Cond.selects RX1 yX1_copied yX1_copied, Cond.code yX1_copied cX1_copied 2 (some (.object "KeyStates$Page")), Cond.classLink RX1 12 RX1, Cond.instantiable RX1 2, Cond.methodLink RX1 22 ⟨"[LKeyStates$Entry;", "clone", "()Ljava/lang/Object;"⟩, Cond.sameMethod "[LKeyStates$Entry;" "java/lang/Object" "clone" "()Ljava/lang/Object;", Cond.selects "[LKeyStates$Entry;" ⟨"[LKeyStates$Entry;", "clone", "()Ljava/lang/Object;"⟩ ⟨"java/lang/Object", "clone", "()Ljava/lang/Object;"⟩, Cond.classLink RX1 23 "[LKeyStates$Entry;", Cond.methodLink RX1 21 yX1_init]
def wsL_set_r7 : List Cond := [Cond.instanceMethod yX1_init, Cond.code yX1_init cX1_init 1 none, Cond.methodLink RX1 3 objectInit, Cond.classLink RX1 9 RX0, Cond.methodLink RX3 270 yX1_keepEntry, Cond.instanceMethod yX1_keepEntry, Cond.selects RX1 yX1_keepEntry yX1_keepEntry, Cond.code yX1_keepEntry cX1_keepEntry 3 none, Cond.fieldLink RX1 31 "KeyStates$Entry" "state" "I", Cond.fieldLink RX1 34 "KeyStates$Entry" "key" "J", Cond.fieldLink RX1 38 "KeyStates$Entry" "span" "I", Cond.methodLink RX1 41 yX1_rowOf, Cond.methodLink RX1 45 yX1_freeRow, Cond.instanceMethod yX1_freeRow, Cond.selects RX1 yX1_freeRow yX1_freeRow, Cond.code yX1_freeRow cX1_freeRow 4 (some .int), Cond.methodLink RX1 49 yX0_isNone, Cond.instanceMethod yX0_isNone, Cond.selects RX0 yX0_isNone yX0_isNone, Cond.code yX0_isNone cX0_isNone 1 (some .boolean), Cond.methodLink RX3 71 yX3_hasNoRoomFor, Cond.instanceMethod yX3_hasNoRoomFor, Cond.selects RX3 yX3_hasNoRoomFor yX3_hasNoRoomFor, Cond.code yX3_hasNoRoomFor cX3_hasNoRoomFor 2 (some .boolean)]
def wsL_set_r8 : List Cond := [Cond.methodLink RX3 85 yX0_isNone, Cond.methodLink RX3 213 yX2_countEntries, Cond.instanceMethod yX2_countEntries, Cond.selects RX2 yX2_countEntries yX2_countEntries, Cond.code yX2_countEntries cX2_countEntries 3 (some .int), Cond.methodLink RX2 58 yX1_countEntries, Cond.instanceMethod yX1_countEntries, Cond.selects RX1 yX1_countEntries yX1_countEntries, Cond.code yX1_countEntries cX1_countEntries 3 (some .int), Cond.methodLink RX3 125 yX0_withMember, Cond.instanceMethod yX0_withMember, Cond.selects RX0 yX0_withMember yX0_withMember, Cond.code yX0_withMember cX0_withMember 6 (some (.object "KeyStates$Entry")), Cond.methodLink RX0 42 yX0_inserted, Cond.static yX0_inserted, Cond.code yX0_inserted cX0_inserted 5 (some (.array .long)), Cond.methodLink RX0 71 arraycopyName]
def wsL_set : List Cond := .codeWith yL_set cL_set 8 (some .int) [(0, 13, 16, 13), (0, 13, 20, 15), (0, 13, 24, 17)] :: ((wsL_set_r1 ++ (wsL_set_r2 ++ (wsL_set_r3 ++ (wsL_set_r4 ++ (wsL_set_r5 ++ (wsL_set_r6 ++ (wsL_set_r7 ++ wsL_set_r8))))))) ++ wsX00 ++ wsX30 ++ wsX20 ++ wsX10 ++ (vx_atS RX3 250 "java/lang/IllegalArgumentException" ["java/lang/RuntimeException", "java/lang/Exception"]).filter goodWord ++ (vx_atS RX3 176 "java/lang/IndexOutOfBoundsException" ["java/lang/RuntimeException", "java/lang/Exception"]).filter goodWord ++ (vx_atS RX3 245 "java/lang/IllegalStateException" ["java/lang/RuntimeException", "java/lang/Exception"]).filter goodWord)
def wsL_get_r1 : List Cond := [Cond.classLink RL 13 "java/lang/IndexOutOfBoundsException", Cond.classLink RL 15 "java/lang/IllegalArgumentException", Cond.classLink RL 17 "java/lang/IllegalStateException", Cond.classLink RL 23 "java/util/NoSuchElementException", Cond.methodLink RL 36 yX3_get, Cond.instanceMethod yX3_get, Cond.selects RX3 yX3_get yX3_get, Cond.initialized RX3, Cond.code yX3_get cX3_get 6 (some .long), Cond.classLink RX3 93 "java/util/NoSuchElementException", Cond.initialized "java/util/NoSuchElementException", Cond.fieldLink RX3 100 "KeyStates$Entry" "numbers" "[J", Cond.methodLink RX3 89 yX3_needToRead, Cond.instanceMethod yX3_needToRead, Cond.selects RX3 yX3_needToRead yX3_needToRead, Cond.code yX3_needToRead cX3_needToRead 4 none, Cond.classLink RX3 246 "java/lang/IllegalArgumentException", Cond.initialized "java/lang/IllegalArgumentException", Cond.fieldLink RX3 16 "KeyStates" "now" "LKeyStates$Picture;", Cond.fieldLink RX3 53 "KeyStates$Picture" "kinds" "[I", Cond.methodLink RX3 140 yX3_needState, Cond.instanceMethod yX3_needState, Cond.selects RX3 yX3_needState yX3_needState, Cond.code yX3_needState cX3_needState 2 none]
def wsL_get_r2 : List Cond := [Cond.classLink RX3 172 "java/lang/IndexOutOfBoundsException", Cond.initialized "java/lang/IndexOutOfBoundsException", Cond.fieldLink RX3 50 "KeyStates$Picture" "stateCount" "I", Cond.methodLink RX3 144 yX3_needKey, Cond.instanceMethod yX3_needKey, Cond.selects RX3 yX3_needKey yX3_needKey, Cond.code yX3_needKey cX3_needKey 1 none, Cond.classLink RX3 241 "java/lang/IllegalStateException", Cond.initialized "java/lang/IllegalStateException", Cond.fieldLink RX3 35 "KeyStates" "hasKey" "Z", Cond.methodLink RX3 67 yX3_entryAtHand, Cond.instanceMethod yX3_entryAtHand, Cond.selects RX3 yX3_entryAtHand yX3_entryAtHand, Cond.code yX3_entryAtHand cX3_entryAtHand 2 (some (.object "KeyStates$Entry")), Cond.fieldLink RX3 39 "KeyStates" "keyAtHand" "J", Cond.fieldLink RX3 43 "KeyStates" "spanAtHand" "I", Cond.methodLink RX3 200 yX2_entryOf, Cond.instanceMethod yX2_entryOf, Cond.selects RX2 yX2_entryOf yX2_entryOf, Cond.initialized RX2, Cond.code yX2_entryOf cX2_entryOf 7 (some (.object "KeyStates$Entry")), Cond.fieldLink RX2 11 "KeyStates$Picture" "pages" "[LKeyStates$Page;", Cond.classLink RX2 45 RX0, Cond.instantiable RX0 6]
def wsL_get_r3 : List Cond := [Cond.initialized RX0, Cond.fieldLink RX2 50 "KeyStates$Page" "rows" "[LKeyStates$Entry;", Cond.static yX3_pageNumber, Cond.code yX3_pageNumber cX3_pageNumber 5 (some .int), Cond.methodLink RX2 42 yX1_rowOf, Cond.instanceMethod yX1_rowOf, Cond.selects RX1 yX1_rowOf yX1_rowOf, Cond.initialized RX1, Cond.code yX1_rowOf cX1_rowOf 6 (some .int), Cond.fieldLink RX1 11 "KeyStates$Page" "rows" "[LKeyStates$Entry;", Cond.methodLink RX1 27 yX0_isAt, Cond.instanceMethod yX0_isAt, Cond.selects RX0 yX0_isAt yX0_isAt, Cond.code yX0_isAt cX0_isAt 5 (some .boolean), Cond.fieldLink RX0 9 "KeyStates$Entry" "state" "I", Cond.fieldLink RX0 15 "KeyStates$Entry" "key" "J", Cond.fieldLink RX0 19 "KeyStates$Entry" "span" "I", Cond.methodLink RX2 47 yX0_init, Cond.instanceMethod yX0_init, Cond.code yX0_init cX0_init 5 none, Cond.methodLink RX0 3 objectInit, Cond.instanceMethod objectInit, Cond.code objectInit ⟨#[0xb1]⟩ 1 none, Cond.fieldLink RX0 26 "KeyStates$Entry" "numbers" "[J"]
def wsL_get_r4 : List Cond := [Cond.fieldLink RX0 29 "KeyStates$Entry" "members" "[J", Cond.fieldLink RX0 32 "KeyStates$Entry" "folded" "I", Cond.methodLink RX3 110 yX0_placeOf, Cond.instanceMethod yX0_placeOf, Cond.selects RX0 yX0_placeOf yX0_placeOf, Cond.code yX0_placeOf cX0_placeOf 3 (some .int), Cond.static yX3_countBelow, Cond.code yX3_countBelow cX3_countBelow 5 (some .int), Cond.methodLink RX3 114 yX0_hasMember, Cond.instanceMethod yX0_hasMember, Cond.selects RX0 yX0_hasMember yX0_hasMember, Cond.code yX0_hasMember cX0_hasMember 4 (some .boolean)]
def wsL_get : List Cond := .codeWith yL_get cL_get 6 (some .int) [(0, 10, 13, 13), (0, 10, 17, 15), (0, 10, 21, 17), (0, 10, 25, 23)] :: ((wsL_get_r1 ++ (wsL_get_r2 ++ (wsL_get_r3 ++ wsL_get_r4))) ++ wsX00 ++ wsX30 ++ wsX20 ++ wsX10 ++ (vx_atS RX3 97 "java/util/NoSuchElementException" ["java/lang/RuntimeException", "java/lang/Exception"]).filter goodWord ++ (vx_atS RX3 250 "java/lang/IllegalArgumentException" ["java/lang/RuntimeException", "java/lang/Exception"]).filter goodWord ++ (vx_atS RX3 176 "java/lang/IndexOutOfBoundsException" ["java/lang/RuntimeException", "java/lang/Exception"]).filter goodWord ++ (vx_atS RX3 245 "java/lang/IllegalStateException" ["java/lang/RuntimeException", "java/lang/Exception"]).filter goodWord)
def wsL_member_r1 : List Cond := [Cond.classLink RL 13 "java/lang/IndexOutOfBoundsException", Cond.classLink RL 15 "java/lang/IllegalArgumentException", Cond.classLink RL 17 "java/lang/IllegalStateException", Cond.methodLink RL 40 yX3_member, Cond.instanceMethod yX3_member, Cond.selects RX3 yX3_member yX3_member, Cond.initialized RX3, Cond.code yX3_member cX3_member 3 (some .long), Cond.fieldLink RX3 122 "KeyStates$Entry" "members" "[J", Cond.methodLink RX3 89 yX3_needToRead, Cond.instanceMethod yX3_needToRead, Cond.selects RX3 yX3_needToRead yX3_needToRead, Cond.code yX3_needToRead cX3_needToRead 4 none, Cond.classLink RX3 246 "java/lang/IllegalArgumentException", Cond.initialized "java/lang/IllegalArgumentException", Cond.fieldLink RX3 16 "KeyStates" "now" "LKeyStates$Picture;", Cond.fieldLink RX3 53 "KeyStates$Picture" "kinds" "[I", Cond.methodLink RX3 140 yX3_needState, Cond.instanceMethod yX3_needState, Cond.selects RX3 yX3_needState yX3_needState, Cond.code yX3_needState cX3_needState 2 none, Cond.classLink RX3 172 "java/lang/IndexOutOfBoundsException", Cond.initialized "java/lang/IndexOutOfBoundsException", Cond.fieldLink RX3 50 "KeyStates$Picture" "stateCount" "I"]
def wsL_member_r2 : List Cond := [Cond.methodLink RX3 144 yX3_needKey, Cond.instanceMethod yX3_needKey, Cond.selects RX3 yX3_needKey yX3_needKey, Cond.code yX3_needKey cX3_needKey 1 none, Cond.classLink RX3 241 "java/lang/IllegalStateException", Cond.initialized "java/lang/IllegalStateException", Cond.fieldLink RX3 35 "KeyStates" "hasKey" "Z", Cond.methodLink RX3 67 yX3_entryAtHand, Cond.instanceMethod yX3_entryAtHand, Cond.selects RX3 yX3_entryAtHand yX3_entryAtHand, Cond.code yX3_entryAtHand cX3_entryAtHand 2 (some (.object "KeyStates$Entry")), Cond.fieldLink RX3 39 "KeyStates" "keyAtHand" "J", Cond.fieldLink RX3 43 "KeyStates" "spanAtHand" "I", Cond.methodLink RX3 200 yX2_entryOf, Cond.instanceMethod yX2_entryOf, Cond.selects RX2 yX2_entryOf yX2_entryOf, Cond.initialized RX2, Cond.code yX2_entryOf cX2_entryOf 7 (some (.object "KeyStates$Entry")), Cond.fieldLink RX2 11 "KeyStates$Picture" "pages" "[LKeyStates$Page;", Cond.classLink RX2 45 RX0, Cond.instantiable RX0 6, Cond.initialized RX0, Cond.fieldLink RX2 50 "KeyStates$Page" "rows" "[LKeyStates$Entry;", Cond.static yX3_pageNumber]
def wsL_member_r3 : List Cond := [Cond.code yX3_pageNumber cX3_pageNumber 5 (some .int), Cond.methodLink RX2 42 yX1_rowOf, Cond.instanceMethod yX1_rowOf, Cond.selects RX1 yX1_rowOf yX1_rowOf, Cond.initialized RX1, Cond.code yX1_rowOf cX1_rowOf 6 (some .int), Cond.fieldLink RX1 11 "KeyStates$Page" "rows" "[LKeyStates$Entry;", Cond.methodLink RX1 27 yX0_isAt, Cond.instanceMethod yX0_isAt, Cond.selects RX0 yX0_isAt yX0_isAt, Cond.code yX0_isAt cX0_isAt 5 (some .boolean), Cond.fieldLink RX0 9 "KeyStates$Entry" "state" "I", Cond.fieldLink RX0 15 "KeyStates$Entry" "key" "J", Cond.fieldLink RX0 19 "KeyStates$Entry" "span" "I", Cond.methodLink RX2 47 yX0_init, Cond.instanceMethod yX0_init, Cond.code yX0_init cX0_init 5 none, Cond.methodLink RX0 3 objectInit, Cond.instanceMethod objectInit, Cond.code objectInit ⟨#[0xb1]⟩ 1 none, Cond.fieldLink RX0 26 "KeyStates$Entry" "numbers" "[J", Cond.fieldLink RX0 29 "KeyStates$Entry" "members" "[J", Cond.fieldLink RX0 32 "KeyStates$Entry" "folded" "I", Cond.methodLink RX3 106 yX3_numberAt]
def wsL_member_r4 : List Cond := [Cond.static yX3_numberAt, Cond.code yX3_numberAt cX3_numberAt 2 (some .long)]
def wsL_member : List Cond := .codeWith yL_member cL_member 5 (some .int) [(0, 9, 12, 13), (0, 9, 16, 15), (0, 9, 20, 17)] :: ((wsL_member_r1 ++ (wsL_member_r2 ++ (wsL_member_r3 ++ wsL_member_r4))) ++ wsX00 ++ wsX30 ++ wsX20 ++ wsX10 ++ (vx_atS RX3 250 "java/lang/IllegalArgumentException" ["java/lang/RuntimeException", "java/lang/Exception"]).filter goodWord ++ (vx_atS RX3 176 "java/lang/IndexOutOfBoundsException" ["java/lang/RuntimeException", "java/lang/Exception"]).filter goodWord ++ (vx_atS RX3 245 "java/lang/IllegalStateException" ["java/lang/RuntimeException", "java/lang/Exception"]).filter goodWord)
def wsL_remove_r1 : List Cond := [Cond.classLink RL 13 "java/lang/IndexOutOfBoundsException", Cond.classLink RL 15 "java/lang/IllegalArgumentException", Cond.classLink RL 17 "java/lang/IllegalStateException", Cond.methodLink RL 43 yX3_remove, Cond.instanceMethod yX3_remove, Cond.selects RX3 yX3_remove yX3_remove, Cond.initialized RX3, Cond.code yX3_remove cX3_remove 6 (some .boolean), Cond.methodLink RX3 89 yX3_needToRead, Cond.instanceMethod yX3_needToRead, Cond.selects RX3 yX3_needToRead yX3_needToRead, Cond.code yX3_needToRead cX3_needToRead 4 none, Cond.classLink RX3 246 "java/lang/IllegalArgumentException", Cond.initialized "java/lang/IllegalArgumentException", Cond.fieldLink RX3 16 "KeyStates" "now" "LKeyStates$Picture;", Cond.fieldLink RX3 53 "KeyStates$Picture" "kinds" "[I", Cond.methodLink RX3 140 yX3_needState, Cond.instanceMethod yX3_needState, Cond.selects RX3 yX3_needState yX3_needState, Cond.code yX3_needState cX3_needState 2 none, Cond.classLink RX3 172 "java/lang/IndexOutOfBoundsException", Cond.initialized "java/lang/IndexOutOfBoundsException", Cond.fieldLink RX3 50 "KeyStates$Picture" "stateCount" "I", Cond.methodLink RX3 144 yX3_needKey]
def wsL_remove_r2 : List Cond := [Cond.instanceMethod yX3_needKey, Cond.selects RX3 yX3_needKey yX3_needKey, Cond.code yX3_needKey cX3_needKey 1 none, Cond.classLink RX3 241 "java/lang/IllegalStateException", Cond.initialized "java/lang/IllegalStateException", Cond.fieldLink RX3 35 "KeyStates" "hasKey" "Z", Cond.methodLink RX3 67 yX3_entryAtHand, Cond.instanceMethod yX3_entryAtHand, Cond.selects RX3 yX3_entryAtHand yX3_entryAtHand, Cond.code yX3_entryAtHand cX3_entryAtHand 2 (some (.object "KeyStates$Entry")), Cond.fieldLink RX3 39 "KeyStates" "keyAtHand" "J", Cond.fieldLink RX3 43 "KeyStates" "spanAtHand" "I", Cond.methodLink RX3 200 yX2_entryOf, Cond.instanceMethod yX2_entryOf, Cond.selects RX2 yX2_entryOf yX2_entryOf, Cond.initialized RX2, Cond.code yX2_entryOf cX2_entryOf 7 (some (.object "KeyStates$Entry")), Cond.fieldLink RX2 11 "KeyStates$Picture" "pages" "[LKeyStates$Page;", Cond.classLink RX2 45 RX0, Cond.instantiable RX0 6, Cond.initialized RX0, Cond.fieldLink RX2 50 "KeyStates$Page" "rows" "[LKeyStates$Entry;", Cond.static yX3_pageNumber, Cond.code yX3_pageNumber cX3_pageNumber 5 (some .int)]
def wsL_remove_r3 : List Cond := [Cond.methodLink RX2 42 yX1_rowOf, Cond.instanceMethod yX1_rowOf, Cond.selects RX1 yX1_rowOf yX1_rowOf, Cond.initialized RX1, Cond.code yX1_rowOf cX1_rowOf 6 (some .int), Cond.fieldLink RX1 11 "KeyStates$Page" "rows" "[LKeyStates$Entry;", Cond.methodLink RX1 27 yX0_isAt, Cond.instanceMethod yX0_isAt, Cond.selects RX0 yX0_isAt yX0_isAt, Cond.code yX0_isAt cX0_isAt 5 (some .boolean), Cond.fieldLink RX0 9 "KeyStates$Entry" "state" "I", Cond.fieldLink RX0 15 "KeyStates$Entry" "key" "J", Cond.fieldLink RX0 19 "KeyStates$Entry" "span" "I", Cond.methodLink RX2 47 yX0_init, Cond.instanceMethod yX0_init, Cond.code yX0_init cX0_init 5 none, Cond.methodLink RX0 3 objectInit, Cond.instanceMethod objectInit, Cond.code objectInit ⟨#[0xb1]⟩ 1 none, Cond.fieldLink RX0 26 "KeyStates$Entry" "numbers" "[J", Cond.fieldLink RX0 29 "KeyStates$Entry" "members" "[J", Cond.fieldLink RX0 32 "KeyStates$Entry" "folded" "I", Cond.methodLink RX3 110 yX0_placeOf, Cond.instanceMethod yX0_placeOf]
def wsL_remove_r4 : List Cond := [Cond.selects RX0 yX0_placeOf yX0_placeOf, Cond.code yX0_placeOf cX0_placeOf 3 (some .int), Cond.static yX3_countBelow, Cond.code yX3_countBelow cX3_countBelow 5 (some .int), Cond.methodLink RX3 114 yX0_hasMember, Cond.instanceMethod yX0_hasMember, Cond.selects RX0 yX0_hasMember yX0_hasMember, Cond.code yX0_hasMember cX0_hasMember 4 (some .boolean), Cond.methodLink RX3 131 yX0_withoutMember, Cond.instanceMethod yX0_withoutMember, Cond.selects RX0 yX0_withoutMember yX0_withoutMember, Cond.code yX0_withoutMember cX0_withoutMember 2 (some (.object "KeyStates$Entry")), Cond.classLink RX0 10 RX0, Cond.methodLink RX0 52 yX0_without, Cond.static yX0_without, Cond.code yX0_without cX0_without 3 (some (.array .long)), Cond.arrayClass .long, Cond.methodLink RX0 71 arraycopyName, Cond.native arraycopyName, Cond.static arraycopyName, Cond.initialized "java/lang/System", Cond.methodLink RX0 39 yX0_init_, Cond.instanceMethod yX0_init_, Cond.code yX0_init_ cX0_init_ 5 none]
def wsL_remove_r5 : List Cond := [Cond.methodLink RX3 81 yX3_keep, Cond.instanceMethod yX3_keep, Cond.selects RX3 yX3_keep yX3_keep, Cond.code yX3_keep cX3_keep 2 none, Cond.fieldLink RX3 257 "KeyStates$Entry" "state" "I", Cond.fieldLink RX3 260 "KeyStates$Entry" "key" "J", Cond.fieldLink RX3 263 "KeyStates$Entry" "span" "I", Cond.methodLink RX3 266 yX3_pageNumber, Cond.methodLink RX3 161 yX3_pageToChange, Cond.instanceMethod yX3_pageToChange, Cond.selects RX3 yX3_pageToChange yX3_pageToChange, Cond.code yX3_pageToChange cX3_pageToChange 3 (some (.object "KeyStates$Page")), Cond.fieldLink RX3 151 "KeyStates$Picture" "pages" "[LKeyStates$Page;", Cond.fieldLink RX3 32 "KeyStates" "pagesCopied" "I", Cond.methodLink RX3 273 yX1_isShared, Cond.instanceMethod yX1_isShared, Cond.selects RX1 yX1_isShared yX1_isShared, Cond.code yX1_isShared cX1_isShared 1 (some .boolean), Cond.fieldLink RX1 17 "KeyStates$Page" "holders" "I", Cond.methodLink RX3 276 yX1_copied, Cond.instanceMethod yX1_copied, Cond.selects RX1 yX1_copied yX1_copied, Cond.code yX1_copied cX1_copied 2 (some (.object "KeyStates$Page")), Cond.classLink RX1 12 RX1]
def wsL_remove_r6 : List Cond := [Cond.instantiable RX1 2, Cond.methodLink RX1 22 ⟨"[LKeyStates$Entry;", "clone", "()Ljava/lang/Object;"⟩, Cond.sameMethod "[LKeyStates$Entry;" "java/lang/Object" "clone" "()Ljava/lang/Object;", Cond.native ⟨"java/lang/Object", "clone", "()Ljava/lang/Object;"⟩, Cond.instanceMethod ⟨"java/lang/Object", "clone", "()Ljava/lang/Object;"⟩, Cond.selects "[LKeyStates$Entry;" ⟨"[LKeyStates$Entry;", "clone", "()Ljava/lang/Object;"⟩ ⟨"java/lang/Object", "clone", "()Ljava/lang/Object;"⟩, Cond.classLink RX1 23 "[LKeyStates$Entry;", Cond.methodLink RX1 21 yX1_init, Cond.instanceMethod yX1_init, Cond.code yX1_init cX1_init 1 none, Cond.methodLink RX1 3 objectInit, Cond.classLink RX1 9 RX0, Cond.methodLink RX3 270 yX1_keepEntry, Cond.instanceMethod yX1_keepEntry, Cond.selects RX1 yX1_keepEntry yX1_keepEntry, Cond.code yX1_keepEntry cX1_keepEntry 3 none, Cond.fieldLink RX1 31 "KeyStates$Entry" "state" "I", Cond.fieldLink RX1 34 "KeyStates$Entry" "key" "J", Cond.fieldLink RX1 38 "KeyStates$Entry" "span" "I", Cond.methodLink RX1 41 yX1_rowOf, Cond.methodLink RX1 45 yX1_freeRow, Cond.instanceMethod yX1_freeRow, Cond.selects RX1 yX1_freeRow yX1_freeRow, Cond.code yX1_freeRow cX1_freeRow 4 (some .int)]
def wsL_remove_r7 : List Cond := [Cond.methodLink RX1 49 yX0_isNone, Cond.instanceMethod yX0_isNone, Cond.selects RX0 yX0_isNone yX0_isNone, Cond.code yX0_isNone cX0_isNone 1 (some .boolean)]
def wsL_remove : List Cond := .codeWith yL_remove cL_remove 6 (some .int) [(0, 18, 21, 13), (0, 18, 25, 15), (0, 18, 29, 17)] :: ((wsL_remove_r1 ++ (wsL_remove_r2 ++ (wsL_remove_r3 ++ (wsL_remove_r4 ++ (wsL_remove_r5 ++ (wsL_remove_r6 ++ wsL_remove_r7)))))) ++ wsX30 ++ wsX20 ++ wsX00 ++ wsX10 ++ (vx_atS RX3 250 "java/lang/IllegalArgumentException" ["java/lang/RuntimeException", "java/lang/Exception"]).filter goodWord ++ (vx_atS RX3 176 "java/lang/IndexOutOfBoundsException" ["java/lang/RuntimeException", "java/lang/Exception"]).filter goodWord ++ (vx_atS RX3 245 "java/lang/IllegalStateException" ["java/lang/RuntimeException", "java/lang/Exception"]).filter goodWord)
def wsL_fold_r1 : List Cond := [Cond.classLink RL 13 "java/lang/IndexOutOfBoundsException", Cond.classLink RL 15 "java/lang/IllegalArgumentException", Cond.classLink RL 17 "java/lang/IllegalStateException", Cond.methodLink RL 47 yX3_fold, Cond.instanceMethod yX3_fold, Cond.selects RX3 yX3_fold yX3_fold, Cond.initialized RX3, Cond.code yX3_fold cX3_fold 5 (some .int), Cond.fieldLink RX3 16 "KeyStates" "now" "LKeyStates$Picture;", Cond.fieldLink RX3 56 "KeyStates$Picture" "types" "[I", Cond.fieldLink RX3 137 "KeyStates$Entry" "folded" "I", Cond.methodLink RX3 63 yX3_needToWrite, Cond.instanceMethod yX3_needToWrite, Cond.selects RX3 yX3_needToWrite yX3_needToWrite, Cond.code yX3_needToWrite cX3_needToWrite 5 none, Cond.classLink RX3 246 "java/lang/IllegalArgumentException", Cond.initialized "java/lang/IllegalArgumentException", Cond.fieldLink RX3 53 "KeyStates$Picture" "kinds" "[I", Cond.methodLink RX3 140 yX3_needState, Cond.instanceMethod yX3_needState, Cond.selects RX3 yX3_needState yX3_needState, Cond.code yX3_needState cX3_needState 2 none, Cond.classLink RX3 172 "java/lang/IndexOutOfBoundsException", Cond.initialized "java/lang/IndexOutOfBoundsException"]
def wsL_fold_r2 : List Cond := [Cond.fieldLink RX3 50 "KeyStates$Picture" "stateCount" "I", Cond.methodLink RX3 251 yX3_fits, Cond.static yX3_fits, Cond.code yX3_fits cX3_fits 4 (some .boolean), Cond.constantLong RX3 286 (-1000), Cond.constantLong RX3 288 (1000), Cond.methodLink RX3 144 yX3_needKey, Cond.instanceMethod yX3_needKey, Cond.selects RX3 yX3_needKey yX3_needKey, Cond.code yX3_needKey cX3_needKey 1 none, Cond.classLink RX3 241 "java/lang/IllegalStateException", Cond.initialized "java/lang/IllegalStateException", Cond.fieldLink RX3 35 "KeyStates" "hasKey" "Z", Cond.methodLink RX3 67 yX3_entryAtHand, Cond.instanceMethod yX3_entryAtHand, Cond.selects RX3 yX3_entryAtHand yX3_entryAtHand, Cond.code yX3_entryAtHand cX3_entryAtHand 2 (some (.object "KeyStates$Entry")), Cond.fieldLink RX3 39 "KeyStates" "keyAtHand" "J", Cond.fieldLink RX3 43 "KeyStates" "spanAtHand" "I", Cond.methodLink RX3 200 yX2_entryOf, Cond.instanceMethod yX2_entryOf, Cond.selects RX2 yX2_entryOf yX2_entryOf, Cond.initialized RX2, Cond.code yX2_entryOf cX2_entryOf 7 (some (.object "KeyStates$Entry"))]
def wsL_fold_r3 : List Cond := [Cond.fieldLink RX2 11 "KeyStates$Picture" "pages" "[LKeyStates$Page;", Cond.classLink RX2 45 RX0, Cond.instantiable RX0 6, Cond.initialized RX0, Cond.fieldLink RX2 50 "KeyStates$Page" "rows" "[LKeyStates$Entry;", Cond.static yX3_pageNumber, Cond.code yX3_pageNumber cX3_pageNumber 5 (some .int), Cond.methodLink RX2 42 yX1_rowOf, Cond.instanceMethod yX1_rowOf, Cond.selects RX1 yX1_rowOf yX1_rowOf, Cond.initialized RX1, Cond.code yX1_rowOf cX1_rowOf 6 (some .int), Cond.fieldLink RX1 11 "KeyStates$Page" "rows" "[LKeyStates$Entry;", Cond.methodLink RX1 27 yX0_isAt, Cond.instanceMethod yX0_isAt, Cond.selects RX0 yX0_isAt yX0_isAt, Cond.code yX0_isAt cX0_isAt 5 (some .boolean), Cond.fieldLink RX0 9 "KeyStates$Entry" "state" "I", Cond.fieldLink RX0 15 "KeyStates$Entry" "key" "J", Cond.fieldLink RX0 19 "KeyStates$Entry" "span" "I", Cond.methodLink RX2 47 yX0_init, Cond.instanceMethod yX0_init, Cond.code yX0_init cX0_init 5 none, Cond.methodLink RX0 3 objectInit]
def wsL_fold_r4 : List Cond := [Cond.instanceMethod objectInit, Cond.code objectInit ⟨#[0xb1]⟩ 1 none, Cond.fieldLink RX0 26 "KeyStates$Entry" "numbers" "[J", Cond.fieldLink RX0 29 "KeyStates$Entry" "members" "[J", Cond.fieldLink RX0 32 "KeyStates$Entry" "folded" "I", Cond.methodLink RX3 71 yX3_hasNoRoomFor, Cond.instanceMethod yX3_hasNoRoomFor, Cond.selects RX3 yX3_hasNoRoomFor yX3_hasNoRoomFor, Cond.code yX3_hasNoRoomFor cX3_hasNoRoomFor 2 (some .boolean), Cond.methodLink RX3 85 yX0_isNone, Cond.instanceMethod yX0_isNone, Cond.selects RX0 yX0_isNone yX0_isNone, Cond.code yX0_isNone cX0_isNone 1 (some .boolean), Cond.methodLink RX3 213 yX2_countEntries, Cond.instanceMethod yX2_countEntries, Cond.selects RX2 yX2_countEntries yX2_countEntries, Cond.code yX2_countEntries cX2_countEntries 3 (some .int), Cond.methodLink RX2 58 yX1_countEntries, Cond.instanceMethod yX1_countEntries, Cond.selects RX1 yX1_countEntries yX1_countEntries, Cond.code yX1_countEntries cX1_countEntries 3 (some .int), Cond.methodLink RX3 134 yX0_withFolded, Cond.instanceMethod yX0_withFolded, Cond.selects RX0 yX0_withFolded yX0_withFolded]
def wsL_fold_r5 : List Cond := [Cond.code yX0_withFolded cX0_withFolded 6 (some (.object "KeyStates$Entry")), Cond.classLink RX0 10 RX0, Cond.arrayClass .long, Cond.methodLink RX0 55 yX0_isNone, Cond.static yX3_joined, Cond.code yX3_joined cX3_joined 5 (some .long), Cond.methodLink RX3 292 Lib.MathLoose.min_long.x, Cond.static Lib.MathLoose.min_long.x, Cond.initialized "java/lang/Math", Cond.code Lib.MathLoose.min_long.x Lib.MathLoose.min_long.code 4 (some .long), Cond.methodLink RX3 298 Lib.MathLoose.max_long.x, Cond.static Lib.MathLoose.max_long.x, Cond.code Lib.MathLoose.max_long.x Lib.MathLoose.max_long.code 4 (some .long), Cond.methodLink RX0 39 yX0_init_, Cond.instanceMethod yX0_init_, Cond.code yX0_init_ cX0_init_ 5 none, Cond.methodLink RX3 81 yX3_keep, Cond.instanceMethod yX3_keep, Cond.selects RX3 yX3_keep yX3_keep, Cond.code yX3_keep cX3_keep 2 none, Cond.fieldLink RX3 257 "KeyStates$Entry" "state" "I", Cond.fieldLink RX3 260 "KeyStates$Entry" "key" "J", Cond.fieldLink RX3 263 "KeyStates$Entry" "span" "I", Cond.methodLink RX3 266 yX3_pageNumber]
def wsL_fold_r6 : List Cond := [Cond.methodLink RX3 161 yX3_pageToChange, Cond.instanceMethod yX3_pageToChange, Cond.selects RX3 yX3_pageToChange yX3_pageToChange, Cond.code yX3_pageToChange cX3_pageToChange 3 (some (.object "KeyStates$Page")), Cond.fieldLink RX3 151 "KeyStates$Picture" "pages" "[LKeyStates$Page;", Cond.fieldLink RX3 32 "KeyStates" "pagesCopied" "I", Cond.methodLink RX3 273 yX1_isShared, Cond.instanceMethod yX1_isShared, Cond.selects RX1 yX1_isShared yX1_isShared, Cond.code yX1_isShared cX1_isShared 1 (some .boolean), Cond.fieldLink RX1 17 "KeyStates$Page" "holders" "I", Cond.methodLink RX3 276 yX1_copied, Cond.instanceMethod yX1_copied, Cond.selects RX1 yX1_copied yX1_copied, Cond.code yX1_copied cX1_copied 2 (some (.object "KeyStates$Page")), Cond.classLink RX1 12 RX1, Cond.instantiable RX1 2, Cond.methodLink RX1 22 ⟨"[LKeyStates$Entry;", "clone", "()Ljava/lang/Object;"⟩, Cond.sameMethod "[LKeyStates$Entry;" "java/lang/Object" "clone" "()Ljava/lang/Object;", Cond.native ⟨"java/lang/Object", "clone", "()Ljava/lang/Object;"⟩, Cond.instanceMethod ⟨"java/lang/Object", "clone", "()Ljava/lang/Object;"⟩, Cond.selects "[LKeyStates$Entry;" ⟨"[LKeyStates$Entry;", "clone", "()Ljava/lang/Object;"⟩ ⟨"java/lang/Object", "clone", "()Ljava/lang/Object;"⟩, Cond.classLink RX1 23 "[LKeyStates$Entry;", Cond.methodLink RX1 21 yX1_init]
def wsL_fold_r7 : List Cond := [Cond.instanceMethod yX1_init, Cond.code yX1_init cX1_init 1 none, Cond.methodLink RX1 3 objectInit, Cond.classLink RX1 9 RX0, Cond.methodLink RX3 270 yX1_keepEntry, Cond.instanceMethod yX1_keepEntry, Cond.selects RX1 yX1_keepEntry yX1_keepEntry, Cond.code yX1_keepEntry cX1_keepEntry 3 none, Cond.fieldLink RX1 31 "KeyStates$Entry" "state" "I", Cond.fieldLink RX1 34 "KeyStates$Entry" "key" "J", Cond.fieldLink RX1 38 "KeyStates$Entry" "span" "I", Cond.methodLink RX1 41 yX1_rowOf, Cond.methodLink RX1 45 yX1_freeRow, Cond.instanceMethod yX1_freeRow, Cond.selects RX1 yX1_freeRow yX1_freeRow, Cond.code yX1_freeRow cX1_freeRow 4 (some .int), Cond.methodLink RX1 49 yX0_isNone]
def wsL_fold : List Cond := .codeWith yL_fold cL_fold 6 (some .int) [(0, 11, 14, 13), (0, 11, 18, 15), (0, 11, 22, 17)] :: ((wsL_fold_r1 ++ (wsL_fold_r2 ++ (wsL_fold_r3 ++ (wsL_fold_r4 ++ (wsL_fold_r5 ++ (wsL_fold_r6 ++ wsL_fold_r7)))))) ++ wsX30 ++ wsX20 ++ wsX00 ++ wsX10 ++ (vx_atS RX3 250 "java/lang/IllegalArgumentException" ["java/lang/RuntimeException", "java/lang/Exception"]).filter goodWord ++ (vx_atS RX3 176 "java/lang/IndexOutOfBoundsException" ["java/lang/RuntimeException", "java/lang/Exception"]).filter goodWord ++ (vx_atS RX3 245 "java/lang/IllegalStateException" ["java/lang/RuntimeException", "java/lang/Exception"]).filter goodWord)
def wsL_size_r1 : List Cond := [Cond.classLink RL 13 "java/lang/IndexOutOfBoundsException", Cond.classLink RL 17 "java/lang/IllegalStateException", Cond.methodLink RL 50 yX3_size, Cond.instanceMethod yX3_size, Cond.selects RX3 yX3_size yX3_size, Cond.initialized RX3, Cond.code yX3_size cX3_size 3 (some .int), Cond.fieldLink RX3 16 "KeyStates" "now" "LKeyStates$Picture;", Cond.fieldLink RX3 53 "KeyStates$Picture" "kinds" "[I", Cond.fieldLink RX3 137 "KeyStates$Entry" "folded" "I", Cond.fieldLink RX3 100 "KeyStates$Entry" "numbers" "[J", Cond.methodLink RX3 140 yX3_needState, Cond.instanceMethod yX3_needState, Cond.selects RX3 yX3_needState yX3_needState, Cond.code yX3_needState cX3_needState 2 none, Cond.classLink RX3 172 "java/lang/IndexOutOfBoundsException", Cond.initialized "java/lang/IndexOutOfBoundsException", Cond.fieldLink RX3 50 "KeyStates$Picture" "stateCount" "I", Cond.methodLink RX3 144 yX3_needKey, Cond.instanceMethod yX3_needKey, Cond.selects RX3 yX3_needKey yX3_needKey, Cond.code yX3_needKey cX3_needKey 1 none, Cond.classLink RX3 241 "java/lang/IllegalStateException", Cond.initialized "java/lang/IllegalStateException"]
def wsL_size_r2 : List Cond := [Cond.fieldLink RX3 35 "KeyStates" "hasKey" "Z", Cond.methodLink RX3 67 yX3_entryAtHand, Cond.instanceMethod yX3_entryAtHand, Cond.selects RX3 yX3_entryAtHand yX3_entryAtHand, Cond.code yX3_entryAtHand cX3_entryAtHand 2 (some (.object "KeyStates$Entry")), Cond.fieldLink RX3 39 "KeyStates" "keyAtHand" "J", Cond.fieldLink RX3 43 "KeyStates" "spanAtHand" "I", Cond.methodLink RX3 200 yX2_entryOf, Cond.instanceMethod yX2_entryOf, Cond.selects RX2 yX2_entryOf yX2_entryOf, Cond.initialized RX2, Cond.code yX2_entryOf cX2_entryOf 7 (some (.object "KeyStates$Entry")), Cond.fieldLink RX2 11 "KeyStates$Picture" "pages" "[LKeyStates$Page;", Cond.classLink RX2 45 RX0, Cond.instantiable RX0 6, Cond.initialized RX0, Cond.fieldLink RX2 50 "KeyStates$Page" "rows" "[LKeyStates$Entry;", Cond.static yX3_pageNumber, Cond.code yX3_pageNumber cX3_pageNumber 5 (some .int), Cond.methodLink RX2 42 yX1_rowOf, Cond.instanceMethod yX1_rowOf, Cond.selects RX1 yX1_rowOf yX1_rowOf, Cond.initialized RX1, Cond.code yX1_rowOf cX1_rowOf 6 (some .int)]
def wsL_size_r3 : List Cond := [Cond.fieldLink RX1 11 "KeyStates$Page" "rows" "[LKeyStates$Entry;", Cond.methodLink RX1 27 yX0_isAt, Cond.instanceMethod yX0_isAt, Cond.selects RX0 yX0_isAt yX0_isAt, Cond.code yX0_isAt cX0_isAt 5 (some .boolean), Cond.fieldLink RX0 9 "KeyStates$Entry" "state" "I", Cond.fieldLink RX0 15 "KeyStates$Entry" "key" "J", Cond.fieldLink RX0 19 "KeyStates$Entry" "span" "I", Cond.methodLink RX2 47 yX0_init, Cond.instanceMethod yX0_init, Cond.code yX0_init cX0_init 5 none, Cond.methodLink RX0 3 objectInit, Cond.instanceMethod objectInit, Cond.code objectInit ⟨#[0xb1]⟩ 1 none, Cond.fieldLink RX0 26 "KeyStates$Entry" "numbers" "[J", Cond.fieldLink RX0 29 "KeyStates$Entry" "members" "[J", Cond.fieldLink RX0 32 "KeyStates$Entry" "folded" "I"]
def wsL_size : List Cond := .codeWith yL_size cL_size 4 (some .int) [(0, 9, 12, 13), (0, 9, 15, 17)] :: ((wsL_size_r1 ++ (wsL_size_r2 ++ wsL_size_r3)) ++ wsX30 ++ wsX20 ++ wsX00 ++ wsX10 ++ (vx_atS RX3 176 "java/lang/IndexOutOfBoundsException" ["java/lang/RuntimeException", "java/lang/Exception"]).filter goodWord ++ (vx_atS RX3 245 "java/lang/IllegalStateException" ["java/lang/RuntimeException", "java/lang/Exception"]).filter goodWord)
def wsL_clear_r1 : List Cond := [Cond.classLink RL 13 "java/lang/IndexOutOfBoundsException", Cond.classLink RL 17 "java/lang/IllegalStateException", Cond.methodLink RL 54 yX3_clear, Cond.instanceMethod yX3_clear, Cond.selects RX3 yX3_clear yX3_clear, Cond.initialized RX3, Cond.code yX3_clear cX3_clear 3 (some .boolean), Cond.methodLink RX3 140 yX3_needState, Cond.instanceMethod yX3_needState, Cond.selects RX3 yX3_needState yX3_needState, Cond.code yX3_needState cX3_needState 2 none, Cond.classLink RX3 172 "java/lang/IndexOutOfBoundsException", Cond.initialized "java/lang/IndexOutOfBoundsException", Cond.fieldLink RX3 16 "KeyStates" "now" "LKeyStates$Picture;", Cond.fieldLink RX3 50 "KeyStates$Picture" "stateCount" "I", Cond.methodLink RX3 144 yX3_needKey, Cond.instanceMethod yX3_needKey, Cond.selects RX3 yX3_needKey yX3_needKey, Cond.code yX3_needKey cX3_needKey 1 none, Cond.classLink RX3 241 "java/lang/IllegalStateException", Cond.initialized "java/lang/IllegalStateException", Cond.fieldLink RX3 35 "KeyStates" "hasKey" "Z", Cond.methodLink RX3 67 yX3_entryAtHand, Cond.instanceMethod yX3_entryAtHand]
def wsL_clear_r2 : List Cond := [Cond.selects RX3 yX3_entryAtHand yX3_entryAtHand, Cond.code yX3_entryAtHand cX3_entryAtHand 2 (some (.object "KeyStates$Entry")), Cond.fieldLink RX3 39 "KeyStates" "keyAtHand" "J", Cond.fieldLink RX3 43 "KeyStates" "spanAtHand" "I", Cond.methodLink RX3 200 yX2_entryOf, Cond.instanceMethod yX2_entryOf, Cond.selects RX2 yX2_entryOf yX2_entryOf, Cond.initialized RX2, Cond.code yX2_entryOf cX2_entryOf 7 (some (.object "KeyStates$Entry")), Cond.fieldLink RX2 11 "KeyStates$Picture" "pages" "[LKeyStates$Page;", Cond.classLink RX2 45 RX0, Cond.instantiable RX0 6, Cond.initialized RX0, Cond.fieldLink RX2 50 "KeyStates$Page" "rows" "[LKeyStates$Entry;", Cond.static yX3_pageNumber, Cond.code yX3_pageNumber cX3_pageNumber 5 (some .int), Cond.methodLink RX2 42 yX1_rowOf, Cond.instanceMethod yX1_rowOf, Cond.selects RX1 yX1_rowOf yX1_rowOf, Cond.initialized RX1, Cond.code yX1_rowOf cX1_rowOf 6 (some .int), Cond.fieldLink RX1 11 "KeyStates$Page" "rows" "[LKeyStates$Entry;", Cond.methodLink RX1 27 yX0_isAt, Cond.instanceMethod yX0_isAt]
def wsL_clear_r3 : List Cond := [Cond.selects RX0 yX0_isAt yX0_isAt, Cond.code yX0_isAt cX0_isAt 5 (some .boolean), Cond.fieldLink RX0 9 "KeyStates$Entry" "state" "I", Cond.fieldLink RX0 15 "KeyStates$Entry" "key" "J", Cond.fieldLink RX0 19 "KeyStates$Entry" "span" "I", Cond.methodLink RX2 47 yX0_init, Cond.instanceMethod yX0_init, Cond.code yX0_init cX0_init 5 none, Cond.methodLink RX0 3 objectInit, Cond.instanceMethod objectInit, Cond.code objectInit ⟨#[0xb1]⟩ 1 none, Cond.fieldLink RX0 26 "KeyStates$Entry" "numbers" "[J", Cond.fieldLink RX0 29 "KeyStates$Entry" "members" "[J", Cond.fieldLink RX0 32 "KeyStates$Entry" "folded" "I", Cond.methodLink RX3 85 yX0_isNone, Cond.instanceMethod yX0_isNone, Cond.selects RX0 yX0_isNone yX0_isNone, Cond.code yX0_isNone cX0_isNone 1 (some .boolean), Cond.methodLink RX3 147 yX0_withNothing, Cond.instanceMethod yX0_withNothing, Cond.selects RX0 yX0_withNothing yX0_withNothing, Cond.code yX0_withNothing cX0_withNothing 1 (some (.object "KeyStates$Entry")), Cond.classLink RX0 10 RX0, Cond.methodLink RX0 39 yX0_init_]
def wsL_clear_r4 : List Cond := [Cond.instanceMethod yX0_init_, Cond.code yX0_init_ cX0_init_ 5 none, Cond.methodLink RX3 81 yX3_keep, Cond.instanceMethod yX3_keep, Cond.selects RX3 yX3_keep yX3_keep, Cond.code yX3_keep cX3_keep 2 none, Cond.fieldLink RX3 257 "KeyStates$Entry" "state" "I", Cond.fieldLink RX3 260 "KeyStates$Entry" "key" "J", Cond.fieldLink RX3 263 "KeyStates$Entry" "span" "I", Cond.methodLink RX3 266 yX3_pageNumber, Cond.methodLink RX3 161 yX3_pageToChange, Cond.instanceMethod yX3_pageToChange, Cond.selects RX3 yX3_pageToChange yX3_pageToChange, Cond.code yX3_pageToChange cX3_pageToChange 3 (some (.object "KeyStates$Page")), Cond.fieldLink RX3 151 "KeyStates$Picture" "pages" "[LKeyStates$Page;", Cond.fieldLink RX3 32 "KeyStates" "pagesCopied" "I", Cond.methodLink RX3 273 yX1_isShared, Cond.instanceMethod yX1_isShared, Cond.selects RX1 yX1_isShared yX1_isShared, Cond.code yX1_isShared cX1_isShared 1 (some .boolean), Cond.fieldLink RX1 17 "KeyStates$Page" "holders" "I", Cond.methodLink RX3 276 yX1_copied, Cond.instanceMethod yX1_copied, Cond.selects RX1 yX1_copied yX1_copied]
def wsL_clear_r5 : List Cond := [Cond.code yX1_copied cX1_copied 2 (some (.object "KeyStates$Page")), Cond.classLink RX1 12 RX1, Cond.instantiable RX1 2, Cond.methodLink RX1 22 ⟨"[LKeyStates$Entry;", "clone", "()Ljava/lang/Object;"⟩, Cond.sameMethod "[LKeyStates$Entry;" "java/lang/Object" "clone" "()Ljava/lang/Object;", Cond.native ⟨"java/lang/Object", "clone", "()Ljava/lang/Object;"⟩, Cond.instanceMethod ⟨"java/lang/Object", "clone", "()Ljava/lang/Object;"⟩, Cond.selects "[LKeyStates$Entry;" ⟨"[LKeyStates$Entry;", "clone", "()Ljava/lang/Object;"⟩ ⟨"java/lang/Object", "clone", "()Ljava/lang/Object;"⟩, Cond.classLink RX1 23 "[LKeyStates$Entry;", Cond.methodLink RX1 21 yX1_init, Cond.instanceMethod yX1_init, Cond.code yX1_init cX1_init 1 none, Cond.methodLink RX1 3 objectInit, Cond.classLink RX1 9 RX0, Cond.methodLink RX3 270 yX1_keepEntry, Cond.instanceMethod yX1_keepEntry, Cond.selects RX1 yX1_keepEntry yX1_keepEntry, Cond.code yX1_keepEntry cX1_keepEntry 3 none, Cond.fieldLink RX1 31 "KeyStates$Entry" "state" "I", Cond.fieldLink RX1 34 "KeyStates$Entry" "key" "J", Cond.fieldLink RX1 38 "KeyStates$Entry" "span" "I", Cond.methodLink RX1 41 yX1_rowOf, Cond.methodLink RX1 45 yX1_freeRow, Cond.instanceMethod yX1_freeRow]
def wsL_clear_r6 : List Cond := [Cond.selects RX1 yX1_freeRow yX1_freeRow, Cond.code yX1_freeRow cX1_freeRow 4 (some .int), Cond.methodLink RX1 49 yX0_isNone]
def wsL_clear : List Cond := .codeWith yL_clear cL_clear 4 (some .int) [(0, 16, 19, 13), (0, 16, 22, 17)] :: ((wsL_clear_r1 ++ (wsL_clear_r2 ++ (wsL_clear_r3 ++ (wsL_clear_r4 ++ (wsL_clear_r5 ++ wsL_clear_r6))))) ++ wsX30 ++ wsX20 ++ wsX00 ++ wsX10 ++ (vx_atS RX3 176 "java/lang/IndexOutOfBoundsException" ["java/lang/RuntimeException", "java/lang/Exception"]).filter goodWord ++ (vx_atS RX3 245 "java/lang/IllegalStateException" ["java/lang/RuntimeException", "java/lang/Exception"]).filter goodWord)
def wsL_keys_r1 : List Cond := [Cond.classLink RL 13 "java/lang/IndexOutOfBoundsException", Cond.methodLink RL 58 yX3_keys, Cond.instanceMethod yX3_keys, Cond.selects RX3 yX3_keys yX3_keys, Cond.initialized RX3, Cond.code yX3_keys cX3_keys 2 (some .int), Cond.methodLink RX3 140 yX3_needState, Cond.instanceMethod yX3_needState, Cond.selects RX3 yX3_needState yX3_needState, Cond.code yX3_needState cX3_needState 2 none, Cond.classLink RX3 172 "java/lang/IndexOutOfBoundsException", Cond.initialized "java/lang/IndexOutOfBoundsException", Cond.fieldLink RX3 16 "KeyStates" "now" "LKeyStates$Picture;", Cond.fieldLink RX3 50 "KeyStates$Picture" "stateCount" "I", Cond.methodLink RX3 169 yX3_sortKeys, Cond.instanceMethod yX3_sortKeys, Cond.selects RX3 yX3_sortKeys yX3_sortKeys, Cond.code yX3_sortKeys cX3_sortKeys 4 (some .int), Cond.fieldLink RX3 151 "KeyStates$Picture" "pages" "[LKeyStates$Page;", Cond.fieldLink RX3 24 "KeyStates" "risingKeys" "[J", Cond.fieldLink RX3 43 "KeyStates" "spanAtHand" "I", Cond.methodLink RX3 280 yX1_sortKeysInto, Cond.instanceMethod yX1_sortKeysInto, Cond.selects RX1 yX1_sortKeysInto yX1_sortKeysInto]
def wsL_keys_r2 : List Cond := [Cond.initialized RX1, Cond.code yX1_sortKeysInto cX1_sortKeysInto 8 (some .int), Cond.fieldLink RX1 11 "KeyStates$Page" "rows" "[LKeyStates$Entry;", Cond.fieldLink RX1 31 "KeyStates$Entry" "state" "I", Cond.fieldLink RX1 38 "KeyStates$Entry" "span" "I", Cond.fieldLink RX1 34 "KeyStates$Entry" "key" "J", Cond.methodLink RX1 65 arraycopyName, Cond.native arraycopyName, Cond.static arraycopyName, Cond.initialized "java/lang/System", Cond.static yX3_countBelow, Cond.code yX3_countBelow cX3_countBelow 5 (some .int)]
def wsL_keys : List Cond := .codeWith yL_keys cL_keys 4 (some .int) [(0, 9, 12, 13)] :: ((wsL_keys_r1 ++ wsL_keys_r2) ++ wsX30 ++ wsX20 ++ wsX10 ++ wsX00 ++ (vx_atS RX3 176 "java/lang/IndexOutOfBoundsException" ["java/lang/RuntimeException", "java/lang/Exception"]).filter goodWord)
def wsL_keyAt_r1 : List Cond := [Cond.classLink RL 13 "java/lang/IndexOutOfBoundsException", Cond.methodLink RL 61 yX3_keyAt, Cond.instanceMethod yX3_keyAt, Cond.selects RX3 yX3_keyAt yX3_keyAt, Cond.initialized RX3, Cond.code yX3_keyAt cX3_keyAt 4 (some .long), Cond.classLink RX3 172 "java/lang/IndexOutOfBoundsException", Cond.initialized "java/lang/IndexOutOfBoundsException", Cond.fieldLink RX3 24 "KeyStates" "risingKeys" "[J", Cond.methodLink RX3 140 yX3_needState, Cond.instanceMethod yX3_needState, Cond.selects RX3 yX3_needState yX3_needState, Cond.code yX3_needState cX3_needState 2 none, Cond.fieldLink RX3 16 "KeyStates" "now" "LKeyStates$Picture;", Cond.fieldLink RX3 50 "KeyStates$Picture" "stateCount" "I", Cond.methodLink RX3 169 yX3_sortKeys, Cond.instanceMethod yX3_sortKeys, Cond.selects RX3 yX3_sortKeys yX3_sortKeys, Cond.code yX3_sortKeys cX3_sortKeys 4 (some .int), Cond.fieldLink RX3 151 "KeyStates$Picture" "pages" "[LKeyStates$Page;", Cond.fieldLink RX3 43 "KeyStates" "spanAtHand" "I", Cond.methodLink RX3 280 yX1_sortKeysInto, Cond.instanceMethod yX1_sortKeysInto, Cond.selects RX1 yX1_sortKeysInto yX1_sortKeysInto]
def wsL_keyAt_r2 : List Cond := [Cond.initialized RX1, Cond.code yX1_sortKeysInto cX1_sortKeysInto 8 (some .int), Cond.fieldLink RX1 11 "KeyStates$Page" "rows" "[LKeyStates$Entry;", Cond.fieldLink RX1 31 "KeyStates$Entry" "state" "I", Cond.fieldLink RX1 38 "KeyStates$Entry" "span" "I", Cond.fieldLink RX1 34 "KeyStates$Entry" "key" "J", Cond.methodLink RX1 65 arraycopyName, Cond.native arraycopyName, Cond.static arraycopyName, Cond.initialized "java/lang/System", Cond.static yX3_countBelow, Cond.code yX3_countBelow cX3_countBelow 5 (some .int)]
def wsL_keyAt : List Cond := .codeWith yL_keyAt cL_keyAt 5 (some .int) [(0, 9, 12, 13)] :: ((wsL_keyAt_r1 ++ wsL_keyAt_r2) ++ wsX30 ++ wsX20 ++ wsX10 ++ wsX00 ++ (vx_atS RX3 176 "java/lang/IndexOutOfBoundsException" ["java/lang/RuntimeException", "java/lang/Exception"]).filter goodWord)
def wsL_drop_r1 : List Cond := [Cond.classLink RL 13 "java/lang/IndexOutOfBoundsException", Cond.methodLink RL 64 yX3_drop, Cond.instanceMethod yX3_drop, Cond.selects RX3 yX3_drop yX3_drop, Cond.initialized RX3, Cond.code yX3_drop cX3_drop 3 (some .int), Cond.fieldLink RX3 20 "KeyStates" "snapshots" "[LKeyStates$Picture;", Cond.fieldLink RX3 16 "KeyStates" "now" "LKeyStates$Picture;", Cond.methodLink RX3 184 yX3_slotOf, Cond.instanceMethod yX3_slotOf, Cond.selects RX3 yX3_slotOf yX3_slotOf, Cond.code yX3_slotOf cX3_slotOf 4 (some .int), Cond.fieldLink RX3 181 "KeyStates$Picture" "number" "I", Cond.methodLink RX3 187 yX3_snapshotIn, Cond.instanceMethod yX3_snapshotIn, Cond.selects RX3 yX3_snapshotIn yX3_snapshotIn, Cond.code yX3_snapshotIn cX3_snapshotIn 3 (some (.object "KeyStates$Picture")), Cond.classLink RX3 172 "java/lang/IndexOutOfBoundsException", Cond.initialized "java/lang/IndexOutOfBoundsException", Cond.methodLink RX3 190 yX2_releasePages, Cond.instanceMethod yX2_releasePages, Cond.selects RX2 yX2_releasePages yX2_releasePages, Cond.initialized RX2, Cond.code yX2_releasePages cX2_releasePages 2 none]
def wsL_drop_r2 : List Cond := [Cond.fieldLink RX2 11 "KeyStates$Picture" "pages" "[LKeyStates$Page;", Cond.fieldLink RX2 35 "KeyStates$Page" "holders" "I", Cond.methodLink RX3 193 yX2_countShared, Cond.instanceMethod yX2_countShared, Cond.selects RX2 yX2_countShared yX2_countShared, Cond.code yX2_countShared cX2_countShared 3 (some .int), Cond.methodLink RX2 69 yX1_isShared, Cond.instanceMethod yX1_isShared, Cond.selects RX1 yX1_isShared yX1_isShared, Cond.initialized RX1, Cond.code yX1_isShared cX1_isShared 1 (some .boolean), Cond.fieldLink RX1 17 "KeyStates$Page" "holders" "I"]
def wsL_drop : List Cond := .codeWith yL_drop cL_drop 4 (some .int) [(0, 9, 12, 13)] :: ((wsL_drop_r1 ++ wsL_drop_r2) ++ wsX30 ++ wsX20 ++ wsX10 ++ (vx_atS RX3 176 "java/lang/IndexOutOfBoundsException" ["java/lang/RuntimeException", "java/lang/Exception"]).filter goodWord)
def wsL_ask_r1 : List Cond := [Cond.classLink RL 13 "java/lang/IndexOutOfBoundsException", Cond.classLink RL 23 "java/util/NoSuchElementException", Cond.methodLink RL 67 yX3_ask, Cond.instanceMethod yX3_ask, Cond.selects RX3 yX3_ask yX3_ask, Cond.initialized RX3, Cond.code yX3_ask cX3_ask 9 (some .long), Cond.classLink RX3 93 "java/util/NoSuchElementException", Cond.initialized "java/util/NoSuchElementException", Cond.fieldLink RX3 100 "KeyStates$Entry" "numbers" "[J", Cond.methodLink RX3 197 yX3_pictureOf, Cond.instanceMethod yX3_pictureOf, Cond.selects RX3 yX3_pictureOf yX3_pictureOf, Cond.code yX3_pictureOf cX3_pictureOf 2 (some (.object "KeyStates$Picture")), Cond.fieldLink RX3 16 "KeyStates" "now" "LKeyStates$Picture;", Cond.methodLink RX3 184 yX3_slotOf, Cond.instanceMethod yX3_slotOf, Cond.selects RX3 yX3_slotOf yX3_slotOf, Cond.code yX3_slotOf cX3_slotOf 4 (some .int), Cond.fieldLink RX3 20 "KeyStates" "snapshots" "[LKeyStates$Picture;", Cond.fieldLink RX3 181 "KeyStates$Picture" "number" "I", Cond.methodLink RX3 187 yX3_snapshotIn, Cond.instanceMethod yX3_snapshotIn, Cond.selects RX3 yX3_snapshotIn yX3_snapshotIn]
def wsL_ask_r2 : List Cond := [Cond.code yX3_snapshotIn cX3_snapshotIn 3 (some (.object "KeyStates$Picture")), Cond.classLink RX3 172 "java/lang/IndexOutOfBoundsException", Cond.initialized "java/lang/IndexOutOfBoundsException", Cond.methodLink RX3 140 yX3_needState, Cond.instanceMethod yX3_needState, Cond.selects RX3 yX3_needState yX3_needState, Cond.code yX3_needState cX3_needState 2 none, Cond.fieldLink RX3 50 "KeyStates$Picture" "stateCount" "I", Cond.methodLink RX3 200 yX2_entryOf, Cond.instanceMethod yX2_entryOf, Cond.selects RX2 yX2_entryOf yX2_entryOf, Cond.initialized RX2, Cond.code yX2_entryOf cX2_entryOf 7 (some (.object "KeyStates$Entry")), Cond.fieldLink RX2 11 "KeyStates$Picture" "pages" "[LKeyStates$Page;", Cond.classLink RX2 45 RX0, Cond.instantiable RX0 6, Cond.initialized RX0, Cond.fieldLink RX2 50 "KeyStates$Page" "rows" "[LKeyStates$Entry;", Cond.static yX3_pageNumber, Cond.code yX3_pageNumber cX3_pageNumber 5 (some .int), Cond.methodLink RX2 42 yX1_rowOf, Cond.instanceMethod yX1_rowOf, Cond.selects RX1 yX1_rowOf yX1_rowOf, Cond.initialized RX1]
def wsL_ask_r3 : List Cond := [Cond.code yX1_rowOf cX1_rowOf 6 (some .int), Cond.fieldLink RX1 11 "KeyStates$Page" "rows" "[LKeyStates$Entry;", Cond.methodLink RX1 27 yX0_isAt, Cond.instanceMethod yX0_isAt, Cond.selects RX0 yX0_isAt yX0_isAt, Cond.code yX0_isAt cX0_isAt 5 (some .boolean), Cond.fieldLink RX0 9 "KeyStates$Entry" "state" "I", Cond.fieldLink RX0 15 "KeyStates$Entry" "key" "J", Cond.fieldLink RX0 19 "KeyStates$Entry" "span" "I", Cond.methodLink RX2 47 yX0_init, Cond.instanceMethod yX0_init, Cond.code yX0_init cX0_init 5 none, Cond.methodLink RX0 3 objectInit, Cond.instanceMethod objectInit, Cond.code objectInit ⟨#[0xb1]⟩ 1 none, Cond.fieldLink RX0 26 "KeyStates$Entry" "numbers" "[J", Cond.fieldLink RX0 29 "KeyStates$Entry" "members" "[J", Cond.fieldLink RX0 32 "KeyStates$Entry" "folded" "I"]
def wsL_ask : List Cond := .codeWith yL_ask cL_ask 9 (some .int) [(0, 15, 18, 13), (0, 15, 22, 23)] :: ((wsL_ask_r1 ++ (wsL_ask_r2 ++ wsL_ask_r3)) ++ wsX00 ++ wsX30 ++ wsX20 ++ wsX10 ++ (vx_atS RX3 97 "java/util/NoSuchElementException" ["java/lang/RuntimeException", "java/lang/Exception"]).filter goodWord ++ (vx_atS RX3 176 "java/lang/IndexOutOfBoundsException" ["java/lang/RuntimeException", "java/lang/Exception"]).filter goodWord)
def wsL_entries_r1 : List Cond := [Cond.classLink RL 13 "java/lang/IndexOutOfBoundsException", Cond.methodLink RL 71 yX3_entries, Cond.instanceMethod yX3_entries, Cond.selects RX3 yX3_entries yX3_entries, Cond.initialized RX3, Cond.code yX3_entries cX3_entries 4 (some .int), Cond.methodLink RX3 197 yX3_pictureOf, Cond.instanceMethod yX3_pictureOf, Cond.selects RX3 yX3_pictureOf yX3_pictureOf, Cond.code yX3_pictureOf cX3_pictureOf 2 (some (.object "KeyStates$Picture")), Cond.fieldLink RX3 16 "KeyStates" "now" "LKeyStates$Picture;", Cond.methodLink RX3 184 yX3_slotOf, Cond.instanceMethod yX3_slotOf, Cond.selects RX3 yX3_slotOf yX3_slotOf, Cond.code yX3_slotOf cX3_slotOf 4 (some .int), Cond.fieldLink RX3 20 "KeyStates" "snapshots" "[LKeyStates$Picture;", Cond.fieldLink RX3 181 "KeyStates$Picture" "number" "I", Cond.methodLink RX3 187 yX3_snapshotIn, Cond.instanceMethod yX3_snapshotIn, Cond.selects RX3 yX3_snapshotIn yX3_snapshotIn, Cond.code yX3_snapshotIn cX3_snapshotIn 3 (some (.object "KeyStates$Picture")), Cond.classLink RX3 172 "java/lang/IndexOutOfBoundsException", Cond.initialized "java/lang/IndexOutOfBoundsException", Cond.methodLink RX3 140 yX3_needState]
def wsL_entries_r2 : List Cond := [Cond.instanceMethod yX3_needState, Cond.selects RX3 yX3_needState yX3_needState, Cond.code yX3_needState cX3_needState 2 none, Cond.fieldLink RX3 50 "KeyStates$Picture" "stateCount" "I", Cond.methodLink RX3 206 yX2_countEntriesOf, Cond.instanceMethod yX2_countEntriesOf, Cond.selects RX2 yX2_countEntriesOf yX2_countEntriesOf, Cond.initialized RX2, Cond.code yX2_countEntriesOf cX2_countEntriesOf 4 (some .int), Cond.fieldLink RX2 11 "KeyStates$Picture" "pages" "[LKeyStates$Page;", Cond.methodLink RX2 62 yX1_countEntriesOf, Cond.instanceMethod yX1_countEntriesOf, Cond.selects RX1 yX1_countEntriesOf yX1_countEntriesOf, Cond.initialized RX1, Cond.code yX1_countEntriesOf cX1_countEntriesOf 4 (some .int), Cond.fieldLink RX1 11 "KeyStates$Page" "rows" "[LKeyStates$Entry;", Cond.fieldLink RX1 31 "KeyStates$Entry" "state" "I"]
def wsL_entries : List Cond := .codeWith yL_entries cL_entries 5 (some .int) [(0, 10, 13, 13)] :: ((wsL_entries_r1 ++ wsL_entries_r2) ++ wsX30 ++ wsX20 ++ wsX10 ++ wsX00 ++ (vx_atS RX3 176 "java/lang/IndexOutOfBoundsException" ["java/lang/RuntimeException", "java/lang/Exception"]).filter goodWord)
def wsL_restore_r1 : List Cond := [Cond.classLink RL 13 "java/lang/IndexOutOfBoundsException", Cond.methodLink RL 75 yX3_restore, Cond.instanceMethod yX3_restore, Cond.selects RX3 yX3_restore yX3_restore, Cond.initialized RX3, Cond.code yX3_restore cX3_restore 2 (some .int), Cond.fieldLink RX3 16 "KeyStates" "now" "LKeyStates$Picture;", Cond.methodLink RX3 184 yX3_slotOf, Cond.instanceMethod yX3_slotOf, Cond.selects RX3 yX3_slotOf yX3_slotOf, Cond.code yX3_slotOf cX3_slotOf 4 (some .int), Cond.fieldLink RX3 20 "KeyStates" "snapshots" "[LKeyStates$Picture;", Cond.fieldLink RX3 181 "KeyStates$Picture" "number" "I", Cond.methodLink RX3 187 yX3_snapshotIn, Cond.instanceMethod yX3_snapshotIn, Cond.selects RX3 yX3_snapshotIn yX3_snapshotIn, Cond.code yX3_snapshotIn cX3_snapshotIn 3 (some (.object "KeyStates$Picture")), Cond.classLink RX3 172 "java/lang/IndexOutOfBoundsException", Cond.initialized "java/lang/IndexOutOfBoundsException", Cond.methodLink RX3 209 yX2_becomeLike, Cond.instanceMethod yX2_becomeLike, Cond.selects RX2 yX2_becomeLike yX2_becomeLike, Cond.initialized RX2, Cond.code yX2_becomeLike cX2_becomeLike 3 none]
def wsL_restore_r2 : List Cond := [Cond.fieldLink RX2 11 "KeyStates$Picture" "pages" "[LKeyStates$Page;", Cond.fieldLink RX2 24 "KeyStates$Picture" "stateCount" "I", Cond.fieldLink RX2 17 "KeyStates$Picture" "kinds" "[I", Cond.fieldLink RX2 21 "KeyStates$Picture" "types" "[I", Cond.methodLink RX3 213 yX2_countEntries, Cond.instanceMethod yX2_countEntries, Cond.selects RX2 yX2_countEntries yX2_countEntries, Cond.code yX2_countEntries cX2_countEntries 3 (some .int), Cond.methodLink RX2 58 yX1_countEntries, Cond.instanceMethod yX1_countEntries, Cond.selects RX1 yX1_countEntries yX1_countEntries, Cond.initialized RX1, Cond.code yX1_countEntries cX1_countEntries 3 (some .int), Cond.fieldLink RX1 11 "KeyStates$Page" "rows" "[LKeyStates$Entry;"]
def wsL_restore : List Cond := .codeWith yL_restore cL_restore 4 (some .int) [(0, 9, 12, 13)] :: ((wsL_restore_r1 ++ wsL_restore_r2) ++ wsX30 ++ wsX20 ++ wsX10 ++ (vx_atS RX3 176 "java/lang/IndexOutOfBoundsException" ["java/lang/RuntimeException", "java/lang/Exception"]).filter goodWord)
def wsL_move_r1 : List Cond := [Cond.classLink RL 13 "java/lang/IndexOutOfBoundsException", Cond.methodLink RL 78 yX3_move, Cond.instanceMethod yX3_move, Cond.selects RX3 yX3_move yX3_move, Cond.initialized RX3, Cond.code yX3_move cX3_move 6 (some .int), Cond.fieldLink RX3 16 "KeyStates" "now" "LKeyStates$Picture;", Cond.fieldLink RX3 53 "KeyStates$Picture" "kinds" "[I", Cond.fieldLink RX3 151 "KeyStates$Picture" "pages" "[LKeyStates$Page;", Cond.fieldLink RX3 56 "KeyStates$Picture" "types" "[I", Cond.methodLink RX3 140 yX3_needState, Cond.instanceMethod yX3_needState, Cond.selects RX3 yX3_needState yX3_needState, Cond.code yX3_needState cX3_needState 2 none, Cond.classLink RX3 172 "java/lang/IndexOutOfBoundsException", Cond.initialized "java/lang/IndexOutOfBoundsException", Cond.fieldLink RX3 50 "KeyStates$Picture" "stateCount" "I", Cond.methodLink RX3 46 yX3_isKindAndType, Cond.static yX3_isKindAndType, Cond.code yX3_isKindAndType cX3_isKindAndType 2 (some .boolean), Cond.methodLink RX3 216 yX3_canMove, Cond.static yX3_canMove, Cond.code yX3_canMove cX3_canMove 2 (some .boolean), Cond.methodLink RX3 219 yX2_allFit]
def wsL_move_r2 : List Cond := [Cond.instanceMethod yX2_allFit, Cond.selects RX2 yX2_allFit yX2_allFit, Cond.initialized RX2, Cond.code yX2_allFit cX2_allFit 5 (some .boolean), Cond.fieldLink RX2 11 "KeyStates$Picture" "pages" "[LKeyStates$Page;", Cond.methodLink RX2 54 yX1_allFit, Cond.instanceMethod yX1_allFit, Cond.selects RX1 yX1_allFit yX1_allFit, Cond.initialized RX1, Cond.code yX1_allFit cX1_allFit 5 (some .boolean), Cond.fieldLink RX1 11 "KeyStates$Page" "rows" "[LKeyStates$Entry;", Cond.fieldLink RX1 31 "KeyStates$Entry" "state" "I", Cond.methodLink RX1 53 yX0_allFit, Cond.instanceMethod yX0_allFit, Cond.selects RX0 yX0_allFit yX0_allFit, Cond.initialized RX0, Cond.code yX0_allFit cX0_allFit 4 (some .boolean), Cond.fieldLink RX0 26 "KeyStates$Entry" "numbers" "[J", Cond.static yX3_fits, Cond.code yX3_fits cX3_fits 4 (some .boolean), Cond.constantLong RX3 286 (-1000), Cond.constantLong RX3 288 (1000), Cond.methodLink RX3 223 yX1_countEntriesOf, Cond.instanceMethod yX1_countEntriesOf]
def wsL_move_r3 : List Cond := [Cond.selects RX1 yX1_countEntriesOf yX1_countEntriesOf, Cond.code yX1_countEntriesOf cX1_countEntriesOf 4 (some .int), Cond.methodLink RX3 161 yX3_pageToChange, Cond.instanceMethod yX3_pageToChange, Cond.selects RX3 yX3_pageToChange yX3_pageToChange, Cond.code yX3_pageToChange cX3_pageToChange 3 (some (.object "KeyStates$Page")), Cond.fieldLink RX3 32 "KeyStates" "pagesCopied" "I", Cond.methodLink RX3 273 yX1_isShared, Cond.instanceMethod yX1_isShared, Cond.selects RX1 yX1_isShared yX1_isShared, Cond.code yX1_isShared cX1_isShared 1 (some .boolean), Cond.fieldLink RX1 17 "KeyStates$Page" "holders" "I", Cond.methodLink RX3 276 yX1_copied, Cond.instanceMethod yX1_copied, Cond.selects RX1 yX1_copied yX1_copied, Cond.code yX1_copied cX1_copied 2 (some (.object "KeyStates$Page")), Cond.classLink RX1 12 RX1, Cond.instantiable RX1 2, Cond.methodLink RX1 22 ⟨"[LKeyStates$Entry;", "clone", "()Ljava/lang/Object;"⟩, Cond.sameMethod "[LKeyStates$Entry;" "java/lang/Object" "clone" "()Ljava/lang/Object;", Cond.native ⟨"java/lang/Object", "clone", "()Ljava/lang/Object;"⟩, Cond.instanceMethod ⟨"java/lang/Object", "clone", "()Ljava/lang/Object;"⟩, Cond.selects "[LKeyStates$Entry;" ⟨"[LKeyStates$Entry;", "clone", "()Ljava/lang/Object;"⟩ ⟨"java/lang/Object", "clone", "()Ljava/lang/Object;"⟩, Cond.classLink RX1 23 "[LKeyStates$Entry;"]
def wsL_move_r4 : List Cond := [Cond.methodLink RX1 21 yX1_init, Cond.instanceMethod yX1_init, Cond.code yX1_init cX1_init 1 none, Cond.methodLink RX1 3 objectInit, Cond.instanceMethod objectInit, Cond.code objectInit ⟨#[0xb1]⟩ 1 none, Cond.classLink RX1 9 RX0, Cond.methodLink RX3 224 yX1_moveEntries, Cond.instanceMethod yX1_moveEntries, Cond.selects RX1 yX1_moveEntries yX1_moveEntries, Cond.code yX1_moveEntries cX1_moveEntries 6 (some .int), Cond.methodLink RX1 57 yX0_movedTo, Cond.instanceMethod yX0_movedTo, Cond.selects RX0 yX0_movedTo yX0_movedTo, Cond.code yX0_movedTo cX0_movedTo 3 (some (.object "KeyStates$Entry")), Cond.fieldLink RX0 29 "KeyStates$Entry" "members" "[J", Cond.fieldLink RX0 32 "KeyStates$Entry" "folded" "I", Cond.classLink RX0 10 RX0, Cond.instantiable RX0 6, Cond.methodLink RX0 67 yX0_foldedUp, Cond.instanceMethod yX0_foldedUp, Cond.selects RX0 yX0_foldedUp yX0_foldedUp, Cond.code yX0_foldedUp cX0_foldedUp 5 (some (.object "KeyStates$Entry")), Cond.arrayClass .long]
def wsL_move_r5 : List Cond := [Cond.methodLink RX0 55 yX0_isNone, Cond.instanceMethod yX0_isNone, Cond.selects RX0 yX0_isNone yX0_isNone, Cond.code yX0_isNone cX0_isNone 1 (some .boolean), Cond.static yX3_joined, Cond.code yX3_joined cX3_joined 5 (some .long), Cond.methodLink RX3 292 Lib.MathLoose.min_long.x, Cond.static Lib.MathLoose.min_long.x, Cond.initialized "java/lang/Math", Cond.code Lib.MathLoose.min_long.x Lib.MathLoose.min_long.code 4 (some .long), Cond.methodLink RX3 298 Lib.MathLoose.max_long.x, Cond.static Lib.MathLoose.max_long.x, Cond.code Lib.MathLoose.max_long.x Lib.MathLoose.max_long.code 4 (some .long), Cond.methodLink RX0 39 yX0_init_, Cond.instanceMethod yX0_init_, Cond.code yX0_init_ cX0_init_ 5 none, Cond.methodLink RX0 3 objectInit, Cond.fieldLink RX0 9 "KeyStates$Entry" "state" "I", Cond.fieldLink RX0 15 "KeyStates$Entry" "key" "J", Cond.fieldLink RX0 19 "KeyStates$Entry" "span" "I"]
def wsL_move : List Cond := .codeWith yL_move cL_move 6 (some .int) [(0, 12, 15, 13)] :: ((wsL_move_r1 ++ (wsL_move_r2 ++ (wsL_move_r3 ++ (wsL_move_r4 ++ wsL_move_r5)))) ++ wsX30 ++ wsX20 ++ wsX10 ++ wsX00 ++ (vx_atS RX3 176 "java/lang/IndexOutOfBoundsException" ["java/lang/RuntimeException", "java/lang/Exception"]).filter goodWord)
def wsL_of : List Cond := .codeWith yL_of cL_of 5 (some .int) [(0, 10, 13, 13)] :: ([.classLink RL 13 "java/lang/IndexOutOfBoundsException", .methodLink RL 82 yX3_of, .instanceMethod yX3_of, .selects RX3 yX3_of yX3_of, .initialized RX3, .code yX3_of cX3_of 3 (some .int), .classLink RX3 172 "java/lang/IndexOutOfBoundsException", .initialized "java/lang/IndexOutOfBoundsException", .fieldLink RX3 9 "KeyStates" "names" "[I", .fieldLink RX3 16 "KeyStates" "now" "LKeyStates$Picture;", .fieldLink RX3 53 "KeyStates$Picture" "kinds" "[I", .fieldLink RX3 56 "KeyStates$Picture" "types" "[I", .methodLink RX3 140 yX3_needState, .instanceMethod yX3_needState, .selects RX3 yX3_needState yX3_needState, .code yX3_needState cX3_needState 2 none, .fieldLink RX3 50 "KeyStates$Picture" "stateCount" "I"] ++ wsX30 ++ wsX20 ++ (vx_atS RX3 176 "java/lang/IndexOutOfBoundsException" ["java/lang/RuntimeException", "java/lang/Exception"]).filter goodWord)
def wsL_law0_r1 : List Cond := [Cond.classLink RL 8 RX3, Cond.instantiable RX3 9, Cond.initialized RX3, Cond.classLink RL 86 RX4, Cond.instantiable RX4 23, Cond.initialized RX4, Cond.arrayClass .long, Cond.constantLong RL 93 (4294967295), Cond.methodLink RL 85 yX3_init, Cond.instanceMethod yX3_init, Cond.code yX3_init cX3_init 1 none, Cond.methodLink RX3 1 objectInit, Cond.instanceMethod objectInit, Cond.code objectInit ⟨#[0xb1]⟩ 1 none, Cond.arrayClass .int, Cond.fieldLink RX3 9 "KeyStates" "names" "[I", Cond.classLink RX3 13 RX2, Cond.instantiable RX2 5, Cond.initialized RX2, Cond.fieldLink RX3 16 "KeyStates" "now" "LKeyStates$Picture;", Cond.fieldLink RX3 20 "KeyStates" "snapshots" "[LKeyStates$Picture;", Cond.fieldLink RX3 24 "KeyStates" "risingKeys" "[J", Cond.fieldLink RX3 28 "KeyStates" "snapshotsTaken" "I", Cond.fieldLink RX3 32 "KeyStates" "pagesCopied" "I"]
def wsL_law0_r2 : List Cond := [Cond.fieldLink RX3 35 "KeyStates" "hasKey" "Z", Cond.fieldLink RX3 39 "KeyStates" "keyAtHand" "J", Cond.fieldLink RX3 43 "KeyStates" "spanAtHand" "I", Cond.methodLink RX3 15 yX2_init, Cond.instanceMethod yX2_init, Cond.code yX2_init cX2_init 2 none, Cond.methodLink RX2 3 objectInit, Cond.classLink RX2 9 RX1, Cond.fieldLink RX2 11 "KeyStates$Picture" "pages" "[LKeyStates$Page;", Cond.fieldLink RX2 17 "KeyStates$Picture" "kinds" "[I", Cond.fieldLink RX2 21 "KeyStates$Picture" "types" "[I", Cond.fieldLink RX2 24 "KeyStates$Picture" "stateCount" "I", Cond.fieldLink RX2 28 "KeyStates$Picture" "number" "I", Cond.instantiable RX1 2, Cond.initialized RX1, Cond.instanceMethod yX1_init, Cond.code yX1_init cX1_init 1 none, Cond.methodLink RX1 3 objectInit, Cond.classLink RX1 9 RX0, Cond.fieldLink RX1 11 "KeyStates$Page" "rows" "[LKeyStates$Entry;", Cond.fieldLink RX1 17 "KeyStates$Page" "holders" "I", Cond.methodLink RL 88 yX4_init, Cond.instanceMethod yX4_init, Cond.code yX4_init cX4_init 2 none]
def wsL_law0_r3 : List Cond := [Cond.methodLink RX4 1 objectInit, Cond.fieldLink RX4 7 "KeyStatesModel" "names" "[I", Cond.fieldLink RX4 13 "KeyStatesModel" "kinds" "[I", Cond.fieldLink RX4 16 "KeyStatesModel" "types" "[I", Cond.fieldLink RX4 19 "KeyStatesModel" "known" "[I", Cond.fieldLink RX4 22 "KeyStatesModel" "many" "[I", Cond.fieldLink RX4 25 "KeyStatesModel" "state" "[I", Cond.fieldLink RX4 28 "KeyStatesModel" "key" "[J", Cond.fieldLink RX4 32 "KeyStatesModel" "span" "[I", Cond.fieldLink RX4 35 "KeyStatesModel" "size" "[I", Cond.fieldLink RX4 38 "KeyStatesModel" "number" "[J", Cond.fieldLink RX4 41 "KeyStatesModel" "member" "[J", Cond.fieldLink RX4 44 "KeyStatesModel" "page" "[I", Cond.arrayClass .boolean, Cond.fieldLink RX4 47 "KeyStatesModel" "isThere" "[Z", Cond.fieldLink RX4 51 "KeyStatesModel" "taken" "[I", Cond.methodLink RX4 54 yX4_newPage, Cond.instanceMethod yX4_newPage, Cond.selects RX4 yX4_newPage yX4_newPage, Cond.code yX4_newPage cX4_newPage 1 (some .int), Cond.fieldLink RX4 62 "KeyStatesModel" "pages" "I", Cond.methodLink RL 89 yX3_state, Cond.instanceMethod yX3_state, Cond.selects RX3 yX3_state yX3_state]
def wsL_law0_r4 : List Cond := [Cond.code yX3_state cX3_state 5 (some .int), Cond.fieldLink RX3 50 "KeyStates$Picture" "stateCount" "I", Cond.fieldLink RX3 53 "KeyStates$Picture" "kinds" "[I", Cond.fieldLink RX3 56 "KeyStates$Picture" "types" "[I", Cond.methodLink RX3 46 yX3_isKindAndType, Cond.static yX3_isKindAndType, Cond.code yX3_isKindAndType cX3_isKindAndType 2 (some .boolean), Cond.methodLink RX3 59 yX2_tellState, Cond.instanceMethod yX2_tellState, Cond.selects RX2 yX2_tellState yX2_tellState, Cond.code yX2_tellState cX2_tellState 4 (some .int), Cond.methodLink RL 92 yX4_state, Cond.instanceMethod yX4_state, Cond.selects RX4 yX4_state yX4_state, Cond.code yX4_state cX4_state 5 (some .int), Cond.fieldLink RX4 58 "KeyStatesModel" "thrown" "I", Cond.fieldLink RX4 102 "KeyStatesModel" "states" "I", Cond.methodLink RL 95 yX3_key, Cond.instanceMethod yX3_key, Cond.selects RX3 yX3_key yX3_key, Cond.code yX3_key cX3_key 3 none, Cond.methodLink RL 99 yX4_key, Cond.instanceMethod yX4_key, Cond.selects RX4 yX4_key yX4_key]
def wsL_law0_r5 : List Cond := [Cond.code yX4_key cX4_key 3 none, Cond.fieldLink RX4 112 "KeyStatesModel" "hasKey" "Z", Cond.fieldLink RX4 80 "KeyStatesModel" "atKey" "J", Cond.methodLink RL 100 yX3_leave, Cond.instanceMethod yX3_leave, Cond.selects RX3 yX3_leave yX3_leave, Cond.code yX3_leave cX3_leave 2 (some .boolean), Cond.methodLink RL 104 yX4_leave, Cond.instanceMethod yX4_leave, Cond.selects RX4 yX4_leave yX4_leave, Cond.code yX4_leave cX4_leave 2 (some .boolean), Cond.methodLink RL 105 yX3_span, Cond.instanceMethod yX3_span, Cond.selects RX3 yX3_span yX3_span, Cond.code yX3_span cX3_span 3 (some .int), Cond.methodLink RL 108 yX4_span, Cond.instanceMethod yX4_span, Cond.selects RX4 yX4_span yX4_span, Cond.code yX4_span cX4_span 3 (some .int), Cond.fieldLink RX4 84 "KeyStatesModel" "atSpan" "I", Cond.methodLink RL 109 yL_put, Cond.static yL_put, Cond.initialized RL, Cond.codeWith yL_put cL_put 6 (some .int) [(0, 11, 14, 13), (0, 11, 18, 15), (0, 11, 22, 17)]]
def wsL_law0_r6 : List Cond := [Cond.classLink RL 13 "java/lang/IndexOutOfBoundsException", Cond.classLink RL 15 "java/lang/IllegalArgumentException", Cond.classLink RL 17 "java/lang/IllegalStateException", Cond.methodLink RL 7 yX3_put, Cond.instanceMethod yX3_put, Cond.selects RX3 yX3_put yX3_put, Cond.code yX3_put cX3_put 5 (some .int), Cond.methodLink RX3 63 yX3_needToWrite, Cond.instanceMethod yX3_needToWrite, Cond.selects RX3 yX3_needToWrite yX3_needToWrite, Cond.code yX3_needToWrite cX3_needToWrite 5 none, Cond.classLink RX3 246 "java/lang/IllegalArgumentException", Cond.initialized "java/lang/IllegalArgumentException", Cond.methodLink RX3 140 yX3_needState, Cond.instanceMethod yX3_needState, Cond.selects RX3 yX3_needState yX3_needState, Cond.code yX3_needState cX3_needState 2 none, Cond.classLink RX3 172 "java/lang/IndexOutOfBoundsException", Cond.initialized "java/lang/IndexOutOfBoundsException", Cond.methodLink RX3 251 yX3_fits, Cond.static yX3_fits, Cond.code yX3_fits cX3_fits 4 (some .boolean), Cond.constantLong RX3 286 (-1000), Cond.constantLong RX3 288 (1000)]
def wsL_law0_r7 : List Cond := [Cond.methodLink RX3 144 yX3_needKey, Cond.instanceMethod yX3_needKey, Cond.selects RX3 yX3_needKey yX3_needKey, Cond.code yX3_needKey cX3_needKey 1 none, Cond.classLink RX3 241 "java/lang/IllegalStateException", Cond.initialized "java/lang/IllegalStateException", Cond.methodLink RX3 67 yX3_entryAtHand, Cond.instanceMethod yX3_entryAtHand, Cond.selects RX3 yX3_entryAtHand yX3_entryAtHand, Cond.code yX3_entryAtHand cX3_entryAtHand 2 (some (.object "KeyStates$Entry")), Cond.methodLink RX3 200 yX2_entryOf, Cond.instanceMethod yX2_entryOf, Cond.selects RX2 yX2_entryOf yX2_entryOf, Cond.code yX2_entryOf cX2_entryOf 7 (some (.object "KeyStates$Entry")), Cond.classLink RX2 45 RX0, Cond.instantiable RX0 6, Cond.initialized RX0, Cond.fieldLink RX2 50 "KeyStates$Page" "rows" "[LKeyStates$Entry;", Cond.static yX3_pageNumber, Cond.code yX3_pageNumber cX3_pageNumber 5 (some .int), Cond.methodLink RX2 42 yX1_rowOf, Cond.instanceMethod yX1_rowOf, Cond.selects RX1 yX1_rowOf yX1_rowOf, Cond.code yX1_rowOf cX1_rowOf 6 (some .int)]
def wsL_law0_r8 : List Cond := [Cond.methodLink RX1 27 yX0_isAt, Cond.instanceMethod yX0_isAt, Cond.selects RX0 yX0_isAt yX0_isAt, Cond.code yX0_isAt cX0_isAt 5 (some .boolean), Cond.fieldLink RX0 9 "KeyStates$Entry" "state" "I", Cond.fieldLink RX0 15 "KeyStates$Entry" "key" "J", Cond.fieldLink RX0 19 "KeyStates$Entry" "span" "I", Cond.methodLink RX2 47 yX0_init, Cond.instanceMethod yX0_init, Cond.code yX0_init cX0_init 5 none, Cond.methodLink RX0 3 objectInit, Cond.fieldLink RX0 26 "KeyStates$Entry" "numbers" "[J", Cond.fieldLink RX0 29 "KeyStates$Entry" "members" "[J", Cond.fieldLink RX0 32 "KeyStates$Entry" "folded" "I", Cond.methodLink RX3 71 yX3_hasNoRoomFor, Cond.instanceMethod yX3_hasNoRoomFor, Cond.selects RX3 yX3_hasNoRoomFor yX3_hasNoRoomFor, Cond.code yX3_hasNoRoomFor cX3_hasNoRoomFor 2 (some .boolean), Cond.methodLink RX3 85 yX0_isNone, Cond.instanceMethod yX0_isNone, Cond.selects RX0 yX0_isNone yX0_isNone, Cond.code yX0_isNone cX0_isNone 1 (some .boolean), Cond.methodLink RX3 213 yX2_countEntries, Cond.instanceMethod yX2_countEntries]
def wsL_law0_r9 : List Cond := [Cond.selects RX2 yX2_countEntries yX2_countEntries, Cond.code yX2_countEntries cX2_countEntries 3 (some .int), Cond.methodLink RX2 58 yX1_countEntries, Cond.instanceMethod yX1_countEntries, Cond.selects RX1 yX1_countEntries yX1_countEntries, Cond.code yX1_countEntries cX1_countEntries 3 (some .int), Cond.methodLink RX3 75 yX0_withOnly, Cond.instanceMethod yX0_withOnly, Cond.selects RX0 yX0_withOnly yX0_withOnly, Cond.code yX0_withOnly cX0_withOnly 3 (some (.object "KeyStates$Entry")), Cond.classLink RX0 10 RX0, Cond.methodLink RX0 39 yX0_init_, Cond.instanceMethod yX0_init_, Cond.code yX0_init_ cX0_init_ 5 none, Cond.methodLink RX3 81 yX3_keep, Cond.instanceMethod yX3_keep, Cond.selects RX3 yX3_keep yX3_keep, Cond.code yX3_keep cX3_keep 2 none, Cond.fieldLink RX3 257 "KeyStates$Entry" "state" "I", Cond.fieldLink RX3 260 "KeyStates$Entry" "key" "J", Cond.fieldLink RX3 263 "KeyStates$Entry" "span" "I", Cond.methodLink RX3 266 yX3_pageNumber, Cond.methodLink RX3 161 yX3_pageToChange, Cond.instanceMethod yX3_pageToChange]
def wsL_law0_r10 : List Cond := [Cond.selects RX3 yX3_pageToChange yX3_pageToChange, Cond.code yX3_pageToChange cX3_pageToChange 3 (some (.object "KeyStates$Page")), Cond.fieldLink RX3 151 "KeyStates$Picture" "pages" "[LKeyStates$Page;", Cond.methodLink RX3 273 yX1_isShared, Cond.instanceMethod yX1_isShared, Cond.selects RX1 yX1_isShared yX1_isShared, Cond.code yX1_isShared cX1_isShared 1 (some .boolean), Cond.methodLink RX3 276 yX1_copied, Cond.instanceMethod yX1_copied, Cond.selects RX1 yX1_copied yX1_copied, Cond.code yX1_copied cX1_copied 2 (some (.object "KeyStates$Page")), Cond.classLink RX1 12 RX1, Cond.methodLink RX1 22 ⟨"[LKeyStates$Entry;", "clone", "()Ljava/lang/Object;"⟩, Cond.sameMethod "[LKeyStates$Entry;" "java/lang/Object" "clone" "()Ljava/lang/Object;", Cond.native ⟨"java/lang/Object", "clone", "()Ljava/lang/Object;"⟩, Cond.instanceMethod ⟨"java/lang/Object", "clone", "()Ljava/lang/Object;"⟩, Cond.selects "[LKeyStates$Entry;" ⟨"[LKeyStates$Entry;", "clone", "()Ljava/lang/Object;"⟩ ⟨"java/lang/Object", "clone", "()Ljava/lang/Object;"⟩, Cond.classLink RX1 23 "[LKeyStates$Entry;", Cond.methodLink RX1 21 yX1_init, Cond.methodLink RX3 270 yX1_keepEntry, Cond.instanceMethod yX1_keepEntry, Cond.selects RX1 yX1_keepEntry yX1_keepEntry, Cond.code yX1_keepEntry cX1_keepEntry 3 none, Cond.fieldLink RX1 31 "KeyStates$Entry" "state" "I"]
def wsL_law0_r11 : List Cond := [Cond.fieldLink RX1 34 "KeyStates$Entry" "key" "J", Cond.fieldLink RX1 38 "KeyStates$Entry" "span" "I", Cond.methodLink RX1 41 yX1_rowOf, Cond.methodLink RX1 45 yX1_freeRow, Cond.instanceMethod yX1_freeRow, Cond.selects RX1 yX1_freeRow yX1_freeRow, Cond.code yX1_freeRow cX1_freeRow 4 (some .int), Cond.methodLink RX1 49 yX0_isNone, Cond.methodLink RL 114 yX4_put, Cond.instanceMethod yX4_put, Cond.selects RX4 yX4_put yX4_put, Cond.code yX4_put cX4_put 6 (some .int), Cond.fieldLink RX4 120 "KeyStatesModel" "at" "I", Cond.methodLink RX4 123 yX4_isRefused, Cond.instanceMethod yX4_isRefused, Cond.selects RX4 yX4_isRefused yX4_isRefused, Cond.code yX4_isRefused cX4_isRefused 6 (some .boolean), Cond.methodLink RX4 105 yX4_isState, Cond.instanceMethod yX4_isState, Cond.selects RX4 yX4_isState yX4_isState, Cond.code yX4_isState cX4_isState 2 (some .boolean), Cond.methodLink RX4 108 yX4_fits, Cond.static yX4_fits, Cond.code yX4_fits cX4_fits 4 (some .boolean)]
def wsL_law0_r12 : List Cond := [Cond.constantLong RX4 98 (-1000), Cond.constantLong RX4 100 (1000), Cond.methodLink RX4 116 yX4_here, Cond.instanceMethod yX4_here, Cond.selects RX4 yX4_here yX4_here, Cond.code yX4_here cX4_here 2 (some .int), Cond.methodLink RX4 87 yX4_find, Cond.instanceMethod yX4_find, Cond.selects RX4 yX4_find yX4_find, Cond.code yX4_find cX4_find 7 (some .int), Cond.methodLink RX4 127 yX4_newEntry, Cond.instanceMethod yX4_newEntry, Cond.selects RX4 yX4_newEntry yX4_newEntry, Cond.code yX4_newEntry cX4_newEntry 3 (some .int), Cond.methodLink RX4 91 yX4_touchOf, Cond.instanceMethod yX4_touchOf, Cond.selects RX4 yX4_touchOf yX4_touchOf, Cond.code yX4_touchOf cX4_touchOf 2 none, Cond.methodLink RX4 72 yX4_pageOf, Cond.instanceMethod yX4_pageOf, Cond.selects RX4 yX4_pageOf yX4_pageOf, Cond.code yX4_pageOf cX4_pageOf 6 (some .int), Cond.methodLink RX4 76 yX4_touch, Cond.instanceMethod yX4_touch]
def wsL_law0_r13 : List Cond := [Cond.selects RX4 yX4_touch yX4_touch, Cond.code yX4_touch cX4_touch 2 none, Cond.fieldLink RX4 69 "KeyStatesModel" "copied" "I", Cond.methodLink RX4 65 yX4_isShared, Cond.instanceMethod yX4_isShared, Cond.selects RX4 yX4_isShared yX4_isShared, Cond.code yX4_isShared cX4_isShared 4 (some .boolean), Cond.methodLink RL 115 yX4_thrown, Cond.instanceMethod yX4_thrown, Cond.selects RX4 yX4_thrown yX4_thrown, Cond.code yX4_thrown cX4_thrown 1 (some .int), Cond.methodLink RL 119 yL_value, Cond.static yL_value, Cond.codeWith yL_value cL_value 4 (some .int) [(0, 8, 11, 13), (0, 8, 14, 15), (0, 8, 17, 17), (0, 8, 20, 23)], Cond.classLink RL 23 "java/util/NoSuchElementException", Cond.methodLink RL 19 yX3_value, Cond.instanceMethod yX3_value, Cond.selects RX3 yX3_value yX3_value, Cond.code yX3_value cX3_value 3 (some .long), Cond.classLink RX3 93 "java/util/NoSuchElementException", Cond.initialized "java/util/NoSuchElementException", Cond.fieldLink RX3 100 "KeyStates$Entry" "numbers" "[J", Cond.methodLink RX3 89 yX3_needToRead, Cond.instanceMethod yX3_needToRead]
def wsL_law0_r14 : List Cond := [Cond.selects RX3 yX3_needToRead yX3_needToRead, Cond.code yX3_needToRead cX3_needToRead 4 none, Cond.methodLink RL 122 yX4_value, Cond.instanceMethod yX4_value, Cond.selects RX4 yX4_value yX4_value, Cond.code yX4_value cX4_value 2 (some .long), Cond.methodLink RX4 130 yX4_fails, Cond.instanceMethod yX4_fails, Cond.selects RX4 yX4_fails yX4_fails, Cond.code yX4_fails cX4_fails 2 (some .int), Cond.methodLink RL 123 yL_add, Cond.static yL_add, Cond.codeWith yL_add cL_add 6 (some .int) [(0, 11, 14, 13), (0, 11, 18, 15), (0, 11, 22, 17)], Cond.methodLink RL 25 yX3_add, Cond.instanceMethod yX3_add, Cond.selects RX3 yX3_add yX3_add, Cond.code yX3_add cX3_add 5 (some .int), Cond.methodLink RX3 103 yX0_withOneMore, Cond.instanceMethod yX0_withOneMore, Cond.selects RX0 yX0_withOneMore yX0_withOneMore, Cond.code yX0_withOneMore cX0_withOneMore 3 (some (.object "KeyStates$Entry")), Cond.methodLink RX0 42 yX0_inserted, Cond.static yX0_inserted, Cond.code yX0_inserted cX0_inserted 5 (some (.array .long))]
def wsL_law0_r15 : List Cond := [Cond.methodLink RX0 71 arraycopyName, Cond.native arraycopyName, Cond.static arraycopyName, Cond.initialized "java/lang/System", Cond.methodLink RL 125 yX4_add, Cond.instanceMethod yX4_add, Cond.selects RX4 yX4_add yX4_add, Cond.code yX4_add cX4_add 5 (some .int), Cond.methodLink RL 126 yL_item, Cond.static yL_item, Cond.codeWith yL_item cL_item 5 (some .int) [(0, 9, 12, 13), (0, 9, 16, 15), (0, 9, 20, 17)], Cond.methodLink RL 28 yX3_item, Cond.instanceMethod yX3_item, Cond.selects RX3 yX3_item yX3_item, Cond.code yX3_item cX3_item 3 (some .long), Cond.methodLink RX3 106 yX3_numberAt, Cond.static yX3_numberAt, Cond.code yX3_numberAt cX3_numberAt 2 (some .long), Cond.methodLink RL 129 yX4_item, Cond.instanceMethod yX4_item, Cond.selects RX4 yX4_item yX4_item, Cond.code yX4_item cX4_item 3 (some .long), Cond.methodLink RL 130 yL_set, Cond.static yL_set]
def wsL_law0_r16 : List Cond := [Cond.codeWith yL_set cL_set 8 (some .int) [(0, 13, 16, 13), (0, 13, 20, 15), (0, 13, 24, 17)], Cond.methodLink RL 32 yX3_set, Cond.instanceMethod yX3_set, Cond.selects RX3 yX3_set yX3_set, Cond.code yX3_set cX3_set 8 (some .int), Cond.fieldLink RX3 122 "KeyStates$Entry" "members" "[J", Cond.methodLink RX3 110 yX0_placeOf, Cond.instanceMethod yX0_placeOf, Cond.selects RX0 yX0_placeOf yX0_placeOf, Cond.code yX0_placeOf cX0_placeOf 3 (some .int), Cond.static yX3_countBelow, Cond.code yX3_countBelow cX3_countBelow 5 (some .int), Cond.methodLink RX3 114 yX0_hasMember, Cond.instanceMethod yX0_hasMember, Cond.selects RX0 yX0_hasMember yX0_hasMember, Cond.code yX0_hasMember cX0_hasMember 4 (some .boolean), Cond.methodLink RX3 118 yX0_withNumberAt, Cond.instanceMethod yX0_withNumberAt, Cond.selects RX0 yX0_withNumberAt yX0_withNumberAt, Cond.code yX0_withNumberAt cX0_withNumberAt 5 (some (.object "KeyStates$Entry")), Cond.methodLink RX0 46 yJ7_copyOf_c38d5, Cond.static yJ7_copyOf_c38d5, Cond.initialized RJ7, Cond.code yJ7_copyOf_c38d5 cJ7_copyOf_c38d5 3 (some (.array .long))]
def wsL_law0_r17 : List Cond := [Cond.methodLink RJ7 319 ⟨"[J", "clone", "()Ljava/lang/Object;"⟩, Cond.sameMethod "[J" "java/lang/Object" "clone" "()Ljava/lang/Object;", Cond.selects "[J" ⟨"[J", "clone", "()Ljava/lang/Object;"⟩ ⟨"java/lang/Object", "clone", "()Ljava/lang/Object;"⟩, Cond.classLink RJ7 320 "[J", Cond.methodLink RJ7 304 Lib.Math.min.name, Cond.static Lib.Math.min.name, Cond.initialized "java/lang/Math", Cond.code Lib.Math.min.name Lib.Math.min.code 2 (some .int), Cond.methodLink RJ7 150 arraycopyName, Cond.methodLink RX3 125 yX0_withMember, Cond.instanceMethod yX0_withMember, Cond.selects RX0 yX0_withMember yX0_withMember, Cond.code yX0_withMember cX0_withMember 6 (some (.object "KeyStates$Entry")), Cond.methodLink RL 133 yX4_set, Cond.instanceMethod yX4_set, Cond.selects RX4 yX4_set yX4_set, Cond.code yX4_set cX4_set 10 (some .int), Cond.methodLink RX4 137 yX4_has, Cond.instanceMethod yX4_has, Cond.selects RX4 yX4_has yX4_has, Cond.code yX4_has cX4_has 5 (some .boolean), Cond.methodLink RX4 133 yX4_placeOf, Cond.instanceMethod yX4_placeOf, Cond.selects RX4 yX4_placeOf yX4_placeOf]
def wsL_law0_r18 : List Cond := [Cond.code yX4_placeOf cX4_placeOf 5 (some .int), Cond.methodLink RL 134 yL_get, Cond.static yL_get, Cond.codeWith yL_get cL_get 6 (some .int) [(0, 10, 13, 13), (0, 10, 17, 15), (0, 10, 21, 17), (0, 10, 25, 23)], Cond.methodLink RL 36 yX3_get, Cond.instanceMethod yX3_get, Cond.selects RX3 yX3_get yX3_get, Cond.code yX3_get cX3_get 6 (some .long), Cond.methodLink RL 136 yX4_get, Cond.instanceMethod yX4_get, Cond.selects RX4 yX4_get yX4_get, Cond.code yX4_get cX4_get 4 (some .long), Cond.methodLink RL 137 yL_member, Cond.static yL_member, Cond.codeWith yL_member cL_member 5 (some .int) [(0, 9, 12, 13), (0, 9, 16, 15), (0, 9, 20, 17)], Cond.methodLink RL 40 yX3_member, Cond.instanceMethod yX3_member, Cond.selects RX3 yX3_member yX3_member, Cond.code yX3_member cX3_member 3 (some .long), Cond.methodLink RL 139 yX4_member, Cond.instanceMethod yX4_member, Cond.selects RX4 yX4_member yX4_member, Cond.code yX4_member cX4_member 3 (some .long), Cond.methodLink RL 140 yL_remove]
def wsL_law0_r19 : List Cond := [Cond.static yL_remove, Cond.codeWith yL_remove cL_remove 6 (some .int) [(0, 18, 21, 13), (0, 18, 25, 15), (0, 18, 29, 17)], Cond.methodLink RL 43 yX3_remove, Cond.instanceMethod yX3_remove, Cond.selects RX3 yX3_remove yX3_remove, Cond.code yX3_remove cX3_remove 6 (some .boolean), Cond.methodLink RX3 131 yX0_withoutMember, Cond.instanceMethod yX0_withoutMember, Cond.selects RX0 yX0_withoutMember yX0_withoutMember, Cond.code yX0_withoutMember cX0_withoutMember 2 (some (.object "KeyStates$Entry")), Cond.methodLink RX0 52 yX0_without, Cond.static yX0_without, Cond.code yX0_without cX0_without 3 (some (.array .long)), Cond.methodLink RL 142 yX4_remove, Cond.instanceMethod yX4_remove, Cond.selects RX4 yX4_remove yX4_remove, Cond.code yX4_remove cX4_remove 5 (some .boolean), Cond.methodLink RX4 141 yX4_dropEntry, Cond.instanceMethod yX4_dropEntry, Cond.selects RX4 yX4_dropEntry yX4_dropEntry, Cond.code yX4_dropEntry cX4_dropEntry 2 none, Cond.methodLink RX4 94 yX4_copyEntry, Cond.instanceMethod yX4_copyEntry, Cond.selects RX4 yX4_copyEntry yX4_copyEntry]
def wsL_law0_r20 : List Cond := [Cond.code yX4_copyEntry cX4_copyEntry 4 none, Cond.methodLink RL 143 yL_fold, Cond.static yL_fold, Cond.codeWith yL_fold cL_fold 6 (some .int) [(0, 11, 14, 13), (0, 11, 18, 15), (0, 11, 22, 17)], Cond.methodLink RL 47 yX3_fold, Cond.instanceMethod yX3_fold, Cond.selects RX3 yX3_fold yX3_fold, Cond.code yX3_fold cX3_fold 5 (some .int), Cond.fieldLink RX3 137 "KeyStates$Entry" "folded" "I", Cond.methodLink RX3 134 yX0_withFolded, Cond.instanceMethod yX0_withFolded, Cond.selects RX0 yX0_withFolded yX0_withFolded, Cond.code yX0_withFolded cX0_withFolded 6 (some (.object "KeyStates$Entry")), Cond.methodLink RX0 55 yX0_isNone, Cond.static yX3_joined, Cond.code yX3_joined cX3_joined 5 (some .long), Cond.methodLink RX3 292 Lib.MathLoose.min_long.x, Cond.static Lib.MathLoose.min_long.x, Cond.code Lib.MathLoose.min_long.x Lib.MathLoose.min_long.code 4 (some .long), Cond.methodLink RX3 298 Lib.MathLoose.max_long.x, Cond.static Lib.MathLoose.max_long.x, Cond.code Lib.MathLoose.max_long.x Lib.MathLoose.max_long.code 4 (some .long), Cond.methodLink RL 145 yX4_fold, Cond.instanceMethod yX4_fold]
def wsL_law0_r21 : List Cond := [Cond.selects RX4 yX4_fold yX4_fold, Cond.code yX4_fold cX4_fold 6 (some .int), Cond.methodLink RX4 144 yX4_folded, Cond.static yX4_folded, Cond.code yX4_folded cX4_folded 5 (some .long), Cond.methodLink RL 146 yL_size, Cond.static yL_size, Cond.codeWith yL_size cL_size 4 (some .int) [(0, 9, 12, 13), (0, 9, 15, 17)], Cond.methodLink RL 50 yX3_size, Cond.instanceMethod yX3_size, Cond.selects RX3 yX3_size yX3_size, Cond.code yX3_size cX3_size 3 (some .int), Cond.methodLink RL 148 yX4_size, Cond.instanceMethod yX4_size, Cond.selects RX4 yX4_size yX4_size, Cond.code yX4_size cX4_size 2 (some .int), Cond.methodLink RX4 148 yX4_lacks, Cond.instanceMethod yX4_lacks, Cond.selects RX4 yX4_lacks yX4_lacks, Cond.code yX4_lacks cX4_lacks 2 (some .boolean), Cond.methodLink RL 149 yL_clear, Cond.static yL_clear, Cond.codeWith yL_clear cL_clear 4 (some .int) [(0, 16, 19, 13), (0, 16, 22, 17)], Cond.methodLink RL 54 yX3_clear]
def wsL_law0_r22 : List Cond := [Cond.instanceMethod yX3_clear, Cond.selects RX3 yX3_clear yX3_clear, Cond.code yX3_clear cX3_clear 3 (some .boolean), Cond.methodLink RX3 147 yX0_withNothing, Cond.instanceMethod yX0_withNothing, Cond.selects RX0 yX0_withNothing yX0_withNothing, Cond.code yX0_withNothing cX0_withNothing 1 (some (.object "KeyStates$Entry")), Cond.methodLink RL 151 yX4_clear, Cond.instanceMethod yX4_clear, Cond.selects RX4 yX4_clear yX4_clear, Cond.code yX4_clear cX4_clear 2 (some .boolean), Cond.methodLink RL 152 yX3_clearSpan, Cond.instanceMethod yX3_clearSpan, Cond.selects RX3 yX3_clearSpan yX3_clearSpan, Cond.code yX3_clearSpan cX3_clearSpan 3 (some .int), Cond.methodLink RX3 155 yX1_hasSpan, Cond.instanceMethod yX1_hasSpan, Cond.selects RX1 yX1_hasSpan yX1_hasSpan, Cond.code yX1_hasSpan cX1_hasSpan 3 (some .boolean), Cond.methodLink RX3 165 yX1_loseSpan, Cond.instanceMethod yX1_loseSpan, Cond.selects RX1 yX1_loseSpan yX1_loseSpan, Cond.code yX1_loseSpan cX1_loseSpan 4 (some .int), Cond.methodLink RL 155 yX4_clearSpan]
def wsL_law0_r23 : List Cond := [Cond.instanceMethod yX4_clearSpan, Cond.selects RX4 yX4_clearSpan yX4_clearSpan, Cond.code yX4_clearSpan cX4_clearSpan 3 (some .int), Cond.methodLink RL 156 yL_keys, Cond.static yL_keys, Cond.codeWith yL_keys cL_keys 4 (some .int) [(0, 9, 12, 13)], Cond.methodLink RL 58 yX3_keys, Cond.instanceMethod yX3_keys, Cond.selects RX3 yX3_keys yX3_keys, Cond.code yX3_keys cX3_keys 2 (some .int), Cond.methodLink RX3 169 yX3_sortKeys, Cond.instanceMethod yX3_sortKeys, Cond.selects RX3 yX3_sortKeys yX3_sortKeys, Cond.code yX3_sortKeys cX3_sortKeys 4 (some .int), Cond.methodLink RX3 280 yX1_sortKeysInto, Cond.instanceMethod yX1_sortKeysInto, Cond.selects RX1 yX1_sortKeysInto yX1_sortKeysInto, Cond.code yX1_sortKeysInto cX1_sortKeysInto 8 (some .int), Cond.methodLink RX1 65 arraycopyName, Cond.methodLink RL 158 yX4_keys, Cond.instanceMethod yX4_keys, Cond.selects RX4 yX4_keys yX4_keys, Cond.code yX4_keys cX4_keys 4 (some .int), Cond.methodLink RL 159 yL_keyAt]
def wsL_law0_r24 : List Cond := [Cond.static yL_keyAt, Cond.codeWith yL_keyAt cL_keyAt 5 (some .int) [(0, 9, 12, 13)], Cond.methodLink RL 61 yX3_keyAt, Cond.instanceMethod yX3_keyAt, Cond.selects RX3 yX3_keyAt yX3_keyAt, Cond.code yX3_keyAt cX3_keyAt 4 (some .long), Cond.methodLink RL 161 yX4_keyAt, Cond.instanceMethod yX4_keyAt, Cond.selects RX4 yX4_keyAt yX4_keyAt, Cond.code yX4_keyAt cX4_keyAt 6 (some .long), Cond.methodLink RL 162 yX3_snapshot, Cond.instanceMethod yX3_snapshot, Cond.selects RX3 yX3_snapshot yX3_snapshot, Cond.code yX3_snapshot cX3_snapshot 3 (some .int), Cond.fieldLink RX3 181 "KeyStates$Picture" "number" "I", Cond.methodLink RX3 177 yX2_taken, Cond.instanceMethod yX2_taken, Cond.selects RX2 yX2_taken yX2_taken, Cond.code yX2_taken cX2_taken 4 (some (.object "KeyStates$Picture")), Cond.classLink RX2 12 RX2, Cond.fieldLink RX2 35 "KeyStates$Page" "holders" "I", Cond.methodLink RX2 32 yX2_init_, Cond.instanceMethod yX2_init_, Cond.code yX2_init_ cX2_init_ 4 none]
def wsL_law0_r25 : List Cond := [Cond.methodLink RL 165 yX4_snapshot, Cond.instanceMethod yX4_snapshot, Cond.selects RX4 yX4_snapshot yX4_snapshot, Cond.code yX4_snapshot cX4_snapshot 3 (some .int), Cond.fieldLink RX4 154 "KeyStatesModel" "snapshots" "I", Cond.methodLink RX4 151 yX4_copyAll, Cond.instanceMethod yX4_copyAll, Cond.selects RX4 yX4_copyAll yX4_copyAll, Cond.code yX4_copyAll cX4_copyAll 4 none, Cond.methodLink RL 166 yL_drop, Cond.static yL_drop, Cond.codeWith yL_drop cL_drop 4 (some .int) [(0, 9, 12, 13)], Cond.methodLink RL 64 yX3_drop, Cond.instanceMethod yX3_drop, Cond.selects RX3 yX3_drop yX3_drop, Cond.code yX3_drop cX3_drop 3 (some .int), Cond.methodLink RX3 184 yX3_slotOf, Cond.instanceMethod yX3_slotOf, Cond.selects RX3 yX3_slotOf yX3_slotOf, Cond.code yX3_slotOf cX3_slotOf 4 (some .int), Cond.methodLink RX3 187 yX3_snapshotIn, Cond.instanceMethod yX3_snapshotIn, Cond.selects RX3 yX3_snapshotIn yX3_snapshotIn, Cond.code yX3_snapshotIn cX3_snapshotIn 3 (some (.object "KeyStates$Picture"))]
def wsL_law0_r26 : List Cond := [Cond.methodLink RX3 190 yX2_releasePages, Cond.instanceMethod yX2_releasePages, Cond.selects RX2 yX2_releasePages yX2_releasePages, Cond.code yX2_releasePages cX2_releasePages 2 none, Cond.methodLink RX3 193 yX2_countShared, Cond.instanceMethod yX2_countShared, Cond.selects RX2 yX2_countShared yX2_countShared, Cond.code yX2_countShared cX2_countShared 3 (some .int), Cond.methodLink RX2 69 yX1_isShared, Cond.methodLink RL 168 yX4_drop, Cond.instanceMethod yX4_drop, Cond.selects RX4 yX4_drop yX4_drop, Cond.code yX4_drop cX4_drop 3 (some .int), Cond.methodLink RX4 157 yX4_copyOf, Cond.instanceMethod yX4_copyOf, Cond.selects RX4 yX4_copyOf yX4_copyOf, Cond.code yX4_copyOf cX4_copyOf 3 (some .int), Cond.methodLink RX4 160 yX4_sharedPages, Cond.instanceMethod yX4_sharedPages, Cond.selects RX4 yX4_sharedPages yX4_sharedPages, Cond.code yX4_sharedPages cX4_sharedPages 3 (some .int), Cond.methodLink RL 169 yL_ask, Cond.static yL_ask, Cond.codeWith yL_ask cL_ask 9 (some .int) [(0, 15, 18, 13), (0, 15, 22, 23)]]
def wsL_law0_r27 : List Cond := [Cond.methodLink RL 67 yX3_ask, Cond.instanceMethod yX3_ask, Cond.selects RX3 yX3_ask yX3_ask, Cond.code yX3_ask cX3_ask 9 (some .long), Cond.methodLink RX3 197 yX3_pictureOf, Cond.instanceMethod yX3_pictureOf, Cond.selects RX3 yX3_pictureOf yX3_pictureOf, Cond.code yX3_pictureOf cX3_pictureOf 2 (some (.object "KeyStates$Picture")), Cond.methodLink RL 172 yX4_ask, Cond.instanceMethod yX4_ask, Cond.selects RX4 yX4_ask yX4_ask, Cond.code yX4_ask cX4_ask 9 (some .long), Cond.methodLink RX4 163 yX4_numbersOf, Cond.instanceMethod yX4_numbersOf, Cond.selects RX4 yX4_numbersOf yX4_numbersOf, Cond.code yX4_numbersOf cX4_numbersOf 4 (some .int), Cond.methodLink RL 173 yL_entries, Cond.static yL_entries, Cond.codeWith yL_entries cL_entries 5 (some .int) [(0, 10, 13, 13)], Cond.methodLink RL 71 yX3_entries, Cond.instanceMethod yX3_entries, Cond.selects RX3 yX3_entries yX3_entries, Cond.code yX3_entries cX3_entries 4 (some .int), Cond.methodLink RX3 206 yX2_countEntriesOf]
def wsL_law0_r28 : List Cond := [Cond.instanceMethod yX2_countEntriesOf, Cond.selects RX2 yX2_countEntriesOf yX2_countEntriesOf, Cond.code yX2_countEntriesOf cX2_countEntriesOf 4 (some .int), Cond.methodLink RX2 62 yX1_countEntriesOf, Cond.instanceMethod yX1_countEntriesOf, Cond.selects RX1 yX1_countEntriesOf yX1_countEntriesOf, Cond.code yX1_countEntriesOf cX1_countEntriesOf 4 (some .int), Cond.methodLink RL 175 yX4_entries, Cond.instanceMethod yX4_entries, Cond.selects RX4 yX4_entries yX4_entries, Cond.code yX4_entries cX4_entries 6 (some .int), Cond.methodLink RL 176 yL_restore, Cond.static yL_restore, Cond.codeWith yL_restore cL_restore 4 (some .int) [(0, 9, 12, 13)], Cond.methodLink RL 75 yX3_restore, Cond.instanceMethod yX3_restore, Cond.selects RX3 yX3_restore yX3_restore, Cond.code yX3_restore cX3_restore 2 (some .int), Cond.methodLink RX3 209 yX2_becomeLike, Cond.instanceMethod yX2_becomeLike, Cond.selects RX2 yX2_becomeLike yX2_becomeLike, Cond.code yX2_becomeLike cX2_becomeLike 3 none, Cond.methodLink RL 178 yX4_restore, Cond.instanceMethod yX4_restore]
def wsL_law0_r29 : List Cond := [Cond.selects RX4 yX4_restore yX4_restore, Cond.code yX4_restore cX4_restore 4 (some .int), Cond.methodLink RL 179 yL_move, Cond.static yL_move, Cond.codeWith yL_move cL_move 6 (some .int) [(0, 12, 15, 13)], Cond.methodLink RL 78 yX3_move, Cond.instanceMethod yX3_move, Cond.selects RX3 yX3_move yX3_move, Cond.code yX3_move cX3_move 6 (some .int), Cond.methodLink RX3 216 yX3_canMove, Cond.static yX3_canMove, Cond.code yX3_canMove cX3_canMove 2 (some .boolean), Cond.methodLink RX3 219 yX2_allFit, Cond.instanceMethod yX2_allFit, Cond.selects RX2 yX2_allFit yX2_allFit, Cond.code yX2_allFit cX2_allFit 5 (some .boolean), Cond.methodLink RX2 54 yX1_allFit, Cond.instanceMethod yX1_allFit, Cond.selects RX1 yX1_allFit yX1_allFit, Cond.code yX1_allFit cX1_allFit 5 (some .boolean), Cond.methodLink RX1 53 yX0_allFit, Cond.instanceMethod yX0_allFit, Cond.selects RX0 yX0_allFit yX0_allFit, Cond.code yX0_allFit cX0_allFit 4 (some .boolean)]
def wsL_law0_r30 : List Cond := [Cond.methodLink RX3 223 yX1_countEntriesOf, Cond.methodLink RX3 224 yX1_moveEntries, Cond.instanceMethod yX1_moveEntries, Cond.selects RX1 yX1_moveEntries yX1_moveEntries, Cond.code yX1_moveEntries cX1_moveEntries 6 (some .int), Cond.methodLink RX1 57 yX0_movedTo, Cond.instanceMethod yX0_movedTo, Cond.selects RX0 yX0_movedTo yX0_movedTo, Cond.code yX0_movedTo cX0_movedTo 3 (some (.object "KeyStates$Entry")), Cond.methodLink RX0 67 yX0_foldedUp, Cond.instanceMethod yX0_foldedUp, Cond.selects RX0 yX0_foldedUp yX0_foldedUp, Cond.code yX0_foldedUp cX0_foldedUp 5 (some (.object "KeyStates$Entry")), Cond.methodLink RL 182 yX4_move, Cond.instanceMethod yX4_move, Cond.selects RX4 yX4_move yX4_move, Cond.code yX4_move cX4_move 8 (some .int), Cond.methodLink RX4 167 yX4_canMove, Cond.static yX4_canMove, Cond.code yX4_canMove cX4_canMove 2 (some .boolean), Cond.methodLink RL 183 yL_of, Cond.static yL_of, Cond.codeWith yL_of cL_of 5 (some .int) [(0, 10, 13, 13)], Cond.methodLink RL 82 yX3_of]
def wsL_law0_r31 : List Cond := [Cond.instanceMethod yX3_of, Cond.selects RX3 yX3_of yX3_of, Cond.code yX3_of cX3_of 3 (some .int), Cond.methodLink RL 185 yX4_of, Cond.instanceMethod yX4_of, Cond.selects RX4 yX4_of yX4_of, Cond.code yX4_of cX4_of 3 (some .int), Cond.methodLink RL 186 yX3_told, Cond.instanceMethod yX3_told, Cond.selects RX3 yX3_told yX3_told, Cond.code yX3_told cX3_told 2 (some .int), Cond.methodLink RX3 230 yX3_countSnapshots, Cond.instanceMethod yX3_countSnapshots, Cond.selects RX3 yX3_countSnapshots yX3_countSnapshots, Cond.code yX3_countSnapshots cX3_countSnapshots 3 (some .int), Cond.methodLink RX3 233 yX2_countPagesInUse, Cond.instanceMethod yX2_countPagesInUse, Cond.selects RX2 yX2_countPagesInUse yX2_countPagesInUse, Cond.code yX2_countPagesInUse cX2_countPagesInUse 3 (some .int), Cond.methodLink RX3 236 yX2_countNumbers, Cond.instanceMethod yX2_countNumbers, Cond.selects RX2 yX2_countNumbers yX2_countNumbers, Cond.code yX2_countNumbers cX2_countNumbers 3 (some .int), Cond.methodLink RX2 66 yX1_countNumbers]
def wsL_law0_r32 : List Cond := [Cond.instanceMethod yX1_countNumbers, Cond.selects RX1 yX1_countNumbers yX1_countNumbers, Cond.code yX1_countNumbers cX1_countNumbers 3 (some .int), Cond.fieldLink RX1 71 "KeyStates$Entry" "numbers" "[J", Cond.methodLink RL 189 yX4_told, Cond.instanceMethod yX4_told, Cond.selects RX4 yX4_told yX4_told, Cond.code yX4_told cX4_told 7 (some .int)]
def wsL_law0 : List Cond := (wsL_law0_r1 ++ (wsL_law0_r2 ++ (wsL_law0_r3 ++ (wsL_law0_r4 ++ (wsL_law0_r5 ++ (wsL_law0_r6 ++ (wsL_law0_r7 ++ (wsL_law0_r8 ++ (wsL_law0_r9 ++ (wsL_law0_r10 ++ (wsL_law0_r11 ++ (wsL_law0_r12 ++ (wsL_law0_r13 ++ (wsL_law0_r14 ++ (wsL_law0_r15 ++ (wsL_law0_r16 ++ (wsL_law0_r17 ++ (wsL_law0_r18 ++ (wsL_law0_r19 ++ (wsL_law0_r20 ++ (wsL_law0_r21 ++ (wsL_law0_r22 ++ (wsL_law0_r23 ++ (wsL_law0_r24 ++ (wsL_law0_r25 ++ (wsL_law0_r26 ++ (wsL_law0_r27 ++ (wsL_law0_r28 ++ (wsL_law0_r29 ++ (wsL_law0_r30 ++ (wsL_law0_r31 ++ wsL_law0_r32))))))))))))))))))))))))))))))) ++ wsX30 ++ wsX40 ++ wsX20 ++ wsX10 ++ wsX00 ++ ([] : List Cond)
def wsL_law : List Cond := wsL_law0 ++ (vx_atS RX3 250 "java/lang/IllegalArgumentException" ["java/lang/RuntimeException", "java/lang/Exception"]).filter goodWord ++ (vx_atS RX3 176 "java/lang/IndexOutOfBoundsException" ["java/lang/RuntimeException", "java/lang/Exception"]).filter goodWord ++ (vx_atS RX3 245 "java/lang/IllegalStateException" ["java/lang/RuntimeException", "java/lang/Exception"]).filter goodWord ++ (vx_atS RX3 97 "java/util/NoSuchElementException" ["java/lang/RuntimeException", "java/lang/Exception"]).filter goodWord
abbrev vwCl : List vw_C := [(RX0, TX0, 6), (RX1, TX1, 2), (RX2, TX2, 5), (RX3, TX3, 9), (RX4, TX4, 23)]
end
section
/-! ===== abstract heaps, the walk's judgement J over them ===== -/
/-- what each address holds, as far as we keep it in mind -/
abbrev Hp : Type := Nat → Option va_E
/-- the world's constants: numbers of classes and slots; the classes of rows (0 int, 1 long, 2 boolean, 3 Entry, 4 Page, 5 Picture); the heap at the law's start; EMPTY's address -/
abbrev Kx : Type := va_G × (Nat → ClassId) × Heap × Nat
def kB (K : Kx) : Nat := K.2.2.1.size
def Ax (K : Kx) : Nat → Prop := fun q => kB K ≤ q
abbrev xI (K : Kx) (n : Nat) (f : Nat → Int32) : va_E := .inl (K.2.1 0, n, .inl f)
abbrev xJ (K : Kx) (n : Nat) (f : Nat → Int64) : va_E := .inl (K.2.1 1, n, .inr (.inl f))
abbrev xZ (K : Kx) (n : Nat) (f : Nat → Int32) : va_E := .inl (K.2.1 2, n, .inl f)
abbrev xQ (K : Kx) (t n : Nat) (f : Nat → Option Nat) : va_E := .inl (K.2.1 t, n, .inr (.inr (.inr (.inr f))))
abbrev xO (ci : Nat) (fs : List Value) : va_E := .inr (ci, fs)
def tyL (K : Kx) : List (ClassId × FieldType) := [(K.2.1 0, .int), (K.2.1 1, .long), (K.2.1 2, .boolean), (K.2.1 3, .object RX0), (K.2.1 4, .object RX1), (K.2.1 5, .object RX2)]
/-- the heap H holds what h says; what was there at the law's start is as it was; EMPTY is a row of none -/
def Rp (K : Kx) (h : Hp) (H : Heap) : Prop := (∀ (a : Nat) (x : va_E), h a = some x → (kB K ≤ a ∧ va_at K.1 vwCl (a, x) H) ∨ (a = K.2.2.2 ∧ a < kB K ∧ ∃ f, x = xJ K 0 f)) ∧ kB K ≤ H.size ∧ ∀ q : Nat, q < kB K → H[q]? = K.2.2.1[q]?
theorem Rp.lt {K : Kx} {h : Hp} {H : Heap} (r : Rp K h H) {a : Nat} {x : va_E} (e : h a = some x) : a < H.size := by
  rcases r.1 a x e with q | q
  · exact va_at.lt q.2
  · exact Nat.lt_of_lt_of_le q.2.1 r.2.1
theorem Rp.at {K : Kx} {h : Hp} {H : Heap} (r : Rp K h H) {a : Nat} {x : va_E} (e : h a = some x) (hx : ∀ f, x ≠ xJ K 0 f) : kB K ≤ a ∧ va_at K.1 vwCl (a, x) H := by
  rcases r.1 a x e with q | ⟨_, _, f, q⟩
  · exact q
  · exact absurd q (hx f)
theorem Rp.fresh {K : Kx} {h : Hp} {H : Heap} (r : Rp K h H) : h H.size = none := by
  cases e : h H.size with
  | none => rfl
  | some x => exact absurd (r.lt e) (Nat.lt_irrefl _)
/-- cells that stay where they were -/
theorem va_at.keep {D : va_G} {cl : List vw_C} {q : Nat × va_E} {H H1 : Heap} (h : va_at D cl q H) (e : H1[q.1]? = H[q.1]?) : va_at D cl q H1 := by
  obtain ⟨a, x⟩ := q
  cases x with
  | inl x => exact (show H1[a]? = _ from e.trans h)
  | inr o =>
    obtain ⟨r, h1, cell, h2, h3⟩ := h
    exact ⟨r, h1, cell, e.trans h2, h3⟩
theorem Rp.kept {K : Kx} {h : Hp} {H H1 : Heap} (r : Rp K h H) (z : H.size ≤ H1.size) (o : ∀ q : Nat, q < H.size → H1[q]? = H[q]?) : Rp K h H1 :=
  ⟨fun a x e => (r.1 a x e).imp (fun q => ⟨q.1, q.2.keep (o a (r.lt e))⟩) id, Nat.le_trans r.2.1 z, fun q hq => (o q (Nat.lt_of_lt_of_le hq r.2.1)).trans (r.2.2 q hq)⟩
theorem Rp.upd {K : Kx} {h : Hp} {H H1 : Heap} (r : Rp K h H) {a : Nat} {x : va_E} (hb : kB K ≤ a) (z : H1.size = H.size) (o : ∀ q : Nat, q ≠ a → H1[q]? = H[q]?) (e : va_at K.1 vwCl (a, x) H1) : Rp K (va_up h a (some x)) H1 := by
  refine ⟨fun b y hy => ?_, by rw [z]; exact r.2.1, fun q hq => (o q (fun e => by rw [e] at hq; omega)).trans (r.2.2 q hq)⟩
  by_cases hba : b = a
  · subst hba
    simp only [va_up, if_true, Option.some.injEq] at hy
    subst hy
    exact Or.inl ⟨hb, e⟩
  · simp only [va_up, hba, if_false] at hy
    exact (r.1 b y hy).imp (fun q => ⟨q.1, q.2.keep (o b hba)⟩) id
theorem Rp.push {K : Kx} {h : Hp} {H H1 : Heap} (r : Rp K h H) {x : va_E} (z : H1.size = H.size + 1) (o : ∀ q : Nat, q < H.size → H1[q]? = H[q]?) (e : va_at K.1 vwCl (H.size, x) H1) : Rp K (va_up h H.size (some x)) H1 := by
  refine ⟨fun b y hy => ?_, by rw [z]; exact Nat.le_succ_of_le r.2.1, fun q hq => (o q (Nat.lt_of_lt_of_le hq r.2.1)).trans (r.2.2 q hq)⟩
  by_cases hba : b = H.size
  · subst hba
    simp only [va_up, if_true, Option.some.injEq] at hy
    subst hy
    exact Or.inl ⟨r.2.1, e⟩
  · simp only [va_up, hba, if_false] at hy
    exact (r.1 b y hy).imp (fun q => ⟨q.1, q.2.keep (o b (r.lt hy))⟩) id
theorem va_S.new {A : Nat → Prop} {H0 H H1 : Heap} {locs : List Loc} (hS : va_S A H0 H locs) (z : H1.size = H.size + 1) (o : ∀ q : Nat, q < H.size → H1[q]? = H[q]?) : va_S A H0 H1 locs :=
  ⟨Nat.le_trans hS.1 (by omega), fun x h1 h2 => (o x (Nat.lt_of_lt_of_le h1 hS.1)).trans (hS.2.1 x h1 h2), hS.2.2⟩
/-- the words on nest mates, casts and Strings that no reader of steady words carries -/
def nestF : List (String × Nat × String × String × String × String) := [("KeyStates$Entry", 22, "KeyStates", "EMPTY", "[J", "KeyStates")]
def nestM : List (String × Nat × MethodName × String) := [("KeyStates$Picture", 31, ⟨"KeyStates$Page", "<init>", "()V"⟩, "KeyStates"), ("KeyStates$Picture", 38, ⟨"KeyStates", "pageNumber", "(IJI)I"⟩, "KeyStates"), ("KeyStates$Entry", 35, ⟨"KeyStates", "countBelow", "([JIJ)I"⟩, "KeyStates"), ("KeyStates$Entry", 59, ⟨"KeyStates", "joined", "(IJJ)J"⟩, "KeyStates"), ("KeyStates$Page", 61, ⟨"KeyStates", "countBelow", "([JIJ)I"⟩, "KeyStates"), ("KeyStates$Entry", 63, ⟨"KeyStates", "fits", "(IIJ)Z"⟩, "KeyStates")]
def castW : List (String × String) := [("[LKeyStates$Entry;", "java/lang/Cloneable")]
def strW : List (String × Nat × String) := [("KeyStates", 239, "no such state"), ("KeyStates", 248, "the state has another kind"), ("KeyStates", 255, "the number does not fit"), ("KeyStates", 243, "no key is at hand"), ("KeyStates", 95, "there is no entry"), ("KeyStates", 290, "none such"), ("KeyStates", 129, "the member is not there"), ("KeyStates", 174, "no such key"), ("KeyStates", 284, "no such snapshot"), ("KeyStates", 204, "no such entry or number"), ("KeyStates", 228, "no such thing of a state")]
def excW : List String := ["java/lang/IndexOutOfBoundsException", "java/lang/IllegalArgumentException", "java/lang/IllegalStateException", "java/util/NoSuchElementException"]
/-- what a walk takes of the tables and of the heap at the law's start -/
def KU (K : Kx) (U : State) : Prop :=
  va_K K.1 vwCl (tyL K) U ∧ vx_Zq Bundle.tN "UNASSIGNED_STACK" Bundle.steD (Ax K) U K.2.2.1 ∧ vx_Zq Bundle.tN "SUPPRESSED_SENTINEL" Bundle.listD (Ax K) U K.2.2.1 ∧ va_Z "KeyStates" "EMPTY" "[J" (.ref K.2.2.2) (Ax K) U K.2.2.1 ∧
  (∀ w ∈ nestF, va_Nw (.fieldLinkNest w.1 w.2.1 w.2.2.1 w.2.2.2.1 w.2.2.2.2.1 w.2.2.2.2.2) U) ∧ (∀ w ∈ nestM, va_Nw (.methodLinkNest w.1 w.2.1 w.2.2.1 w.2.2.2) U) ∧ (∀ w ∈ castW, va_Nw (.castable w.1 w.2) U) ∧
  (∀ w ∈ strW, ∃ a : Nat, vk_R w.1 w.2.1 w.2.2 a U) ∧ (∀ x ∈ excW, ∀ y ∈ excW, x ≠ y → va_Nc x y U) ∧ va_AO RX0 U ∧ va_AO RX1 U ∧ va_AO RX2 U ∧ va_T .long K.2.2.2 0 (fun _ => .long 0) (Ax K) U K.2.2.1
theorem va_Nc.warm {C T : String} {s U : State} (hW : s.WarmedH U.vm) (h : va_Nc C T s) : va_Nc C T U := by
  obtain ⟨c, t, h1, h2, h3⟩ := h
  exact ⟨c, t, by rw [hW.alike.findClass]; exact h1, by rw [hW.alike.findClass]; exact h2, by rw [hW.alike.assignable]; exact h3⟩
theorem KU.warm {K : Kx} {s U : State} (hW : s.WarmedH U.vm) (k : KU K s) : KU K U := by
  obtain ⟨k1, k2, k3, k4, k5, k6, k7, k8, k9, k10, k11, k12, k13⟩ := k
  exact ⟨va_K.moved hW.alike k1, vx_Zq.moved hW.alike k2, vx_Zq.moved hW.alike k3, va_Z.moved hW.alike k4, fun w h => va_Nw.warmF hW (k5 w h), fun w h => va_Nw.warmM hW (k6 w h), fun w h => va_Nw.warmC hW (k7 w h),
    fun w h => (k8 w h).elim fun a ha => ⟨a, vk_R.warm hW ha⟩, fun x hx y hy n => (k9 x hx y hy n).warm hW, va_AO.moved hW.alike k10, va_AO.moved hW.alike k11, va_AO.moved hW.alike k12, va_T.moved hW.alike k13⟩
theorem KU.calling {K : Kx} {U : State} (k : KU K U) (g : JFrame) (mk : MethodId) (a : Array Value) : KU K (U.calling g mk a) := by
  have hW : U.WarmedH (U.calling g mk a).vm := State.WarmedH.refl U
  exact k.warm hW
/-- how a call ends: with a value, or with an exception of a class -/
abbrev Rs : Type := Option Value ⊕ String
def Pcx (K : Kx) (As : List Value) (h : Hp) : Array Value → State → Prop := fun a U => a = As.toArray ∧ KU K U ∧ Rp K h U.heap
def Qcx (K : Kx) (Post : Rs → Hp → Prop) : Array Value → State → Outcome → State → Prop := fun _ st o t => (∃ (v : Option Value) (h' : Hp), o = .returned v ∧ Post (.inl v) h' ∧ Rp K h' t.heap) ∧ va_F (Ax K) st t
def Xcx (K : Kx) (Post : Rs → Hp → Prop) : String → State → State → Prop := fun E st t => (∃ h' : Hp, Post (.inr E) h' ∧ Rp K h' t.heap) ∧ va_F (Ax K) st t
abbrev rmx (fr lo mc ms : Nat) : Room := { frames := fr, cells := mc, slots := ms, locals := lo }
/-- THE CONTRACT OF A CALL: y, called with As over h, in the room fr lo, making at most mc cells of ms slots, ends with Post -/
def MX (l : Launch) (K : Kx) (y : MethodName) (ws : List Cond) (fr lo mc ms : Nat) (As : List Value) (h : Hp) (Post : Rs → Hp → Prop) : Prop :=
  vx_Met l y ws (rmx fr lo mc ms) (Pcx K As h) (Qcx K Post) (Xcx K Post) mc ms (Ax K)
theorem Pcx.blind {K : Kx} {As : List Value} {h : Hp} : FrameBlind (Pcx K As h) := fun _ _ g mk q => ⟨q.1, q.2.1.calling g mk _, q.2.2⟩
theorem MX.mono {l : Launch} {K : Kx} {y : MethodName} {ws : List Cond} {fr lo mc ms : Nat} {As : List Value} {h : Hp} {P Q : Rs → Hp → Prop} (m : MX l K y ws fr lo mc ms As h P) (hPQ : ∀ r h', P r h' → Q r h') : MX l K y ws fr lo mc ms As h Q := by
  intro p e a1 a2 a3 s m0 args below a4 a5 a6 a7
  obtain ⟨n, o, b1, b2, b3, b4⟩ := m p e a1 a2 a3 s m0 args below a4 a5 a6 a7
  refine ⟨n, o, b1, b2, b3, ?_⟩
  rcases b4 with ⟨⟨⟨v, h', c1, c2, c3⟩, cF⟩, c4⟩ | ⟨q, c0, E, ce, L, ⟨⟨h', c1, c2⟩, cF⟩, c3⟩
  · exact Or.inl ⟨⟨⟨v, h', c1, hPQ _ _ c2, c3⟩, cF⟩, c4⟩
  · exact Or.inr ⟨q, c0, E, ce, L, ⟨⟨h', hPQ _ _ c1, c2⟩, cF⟩, c3⟩
/-- what holds in a body -/
def OkB (l : Launch) (K : Kx) (own : String) (cc : ByteArray) (nL : Nat) (ret : Option FieldType) (Ts : List Cond) (hh : List (Nat × Nat × Nat × Nat)) (nm : String) (p : Program) (s : State) (m : MethodId) (args : Array Value) (meth : Method) (c : Code) : Prop :=
  p.tables.exec = Jvm.exec ∧ c.code = cc ∧ c.maxLocals = nL ∧ s.vm.findClass own = some m.cls ∧ (∀ w ∈ Ts, w.before args s = true) ∧ meth.locks = false ∧ meth.sig.returnType = ret ∧ meth.name = nm ∧ c.exceptionTable.toList = tableOf hh ∧ KU K s ∧ l.stackTraces = false ∧ kB K ≤ s.heap.size ∧ ∀ q : Nat, q < kB K → s.heap[q]? = K.2.2.1[q]?
/-- THE JUDGEMENT: a body that stands at pc with this stack, these locals and this heap comes to Qf -/
def J (l : Launch) (K : Kx) (own : String) (cc : ByteArray) (nL : Nat) (ret : Option FieldType) (Ts : List Cond) (hh : List (Nat × Nat × Nat × Nat)) (nm : String) (fr lo mc ms : Nat) (Qf : State → Array Value → List Frame → State → Prop) (pc : Nat) (st : List Value) (lv : List (Nat × Value)) (h : Hp) (kc ks : Nat) : Prop :=
  ∀ (p : Program) (e : Env) (s : State) (m : MethodId) (args : Array Value) (below : List Frame) (meth : Method) (c : Code), OkB l K own cc nL ret Ts hh nm p s m args meth c →
    ∀ (H : Heap) (locs : List Loc) (ls : Array Slot), Rp K h H → va_S (Ax K) s.heap H locs → lv_has ls nL lv → W p l e (rmx fr lo mc ms) s m args below meth c H locs kc ks (Qf s args below) (F0 m pc ls st)
def QM (K : Kx) (mc ms : Nat) (Post : Rs → Hp → Prop) : State → Array Value → List Frame → State → Prop := fun s args below => vx_MQ below (Qcx K Post) (Xcx K Post) args s mc ms (Ax K)
theorem KU.zq {K : Kx} {s : State} {C n d : String} (hb : kB K ≤ s.heap.size) (ho : ∀ q : Nat, q < kB K → s.heap[q]? = K.2.2.1[q]?) (k : vx_Zq C n d (Ax K) s K.2.2.1) : vx_Zq C n d (Ax K) s s.heap := k.kept fun a ha _ => ho a ha
theorem KU.z {K : Kx} {s : State} {C n d : String} {v : Value} (hb : kB K ≤ s.heap.size) (ho : ∀ q : Nat, q < kB K → s.heap[q]? = K.2.2.1[q]?) (k : va_Z C n d v (Ax K) s K.2.2.1) : va_Z C n d v (Ax K) s s.heap := k.kept fun a ha _ => ho a ha
set_option maxHeartbeats 4000000 in
/-- into a body without handlers -/
theorem MX.enter {l : Launch} {K : Kx} {y : MethodName} {ws ws' : List Cond} {fr lo mc ms : Nat} {As : List Value} {h : Hp} {Post : Rs → Hp → Prop} {cc : ByteArray} {nL : Nat} {ret : Option FieldType} (htr : l.stackTraces = false)
    (hy : plainName y.cls = true) (hw : ws = Cond.code y cc nL ret :: ws') (hn : (lg_sl As).length ≤ nL)
    (k : J l K y.cls cc nL ret ws [] y.name fr lo mc ms (QM K mc ms Post) 0 [] (lv_args 0 As) h 0 0) : MX l K y ws fr lo mc ms As h Post := by
  refine vx_ofW (cc := cc) (maxL := nL) (ret := ret) hy hw ?_
  intro p e s m args below meth c s₁ B hml hout hv
  obtain ⟨rfl, hK, hR⟩ := hv
  have hts := atoms_spec (ws := ws) B.pre
  have hl := lv_entry As (n := nL) hn
  rw [lg_entry_eq]
  refine k p e s m _ below meth c ⟨B.exec, B.bytes, hml, findClass_of_methodNamed B.named, hts, B.notSynchronized, B.returns, (name_of_methodNamed B.named B.method).1, ?_, hK, htr, hR.2.1, hR.2.2⟩ s.heap [] _ hR va_S.rf hl
  cases ht : c.exceptionTable.toList with
  | nil => rfl
  | cons x t => exact (hout x (by rw [ht]; exact List.mem_cons_self)).elim
section Rules
variable {l : Launch} {K : Kx} {own : String} {cc : ByteArray} {nL : Nat} {ret : Option FieldType} {Ts : List Cond} {hh : List (Nat × Nat × Nat × Nat)} {nm : String} {fr lo mc ms : Nat} {Qf : State → Array Value → List Frame → State → Prop} {pc : Nat} {rest : List Value} {lv lv' : List (Nat × Value)} {h : Hp} {kc ks : Nat}
theorem J_iconst {n : Int} {v : Int32} (hd : decode cc pc = .ok (.iconst n, 1)) (hv : Int32.ofInt n = v) (k : J l K own cc nL ret Ts hh nm fr lo mc ms Qf (pc + 1) (.int v :: rest) lv h kc ks) : J l K own cc nL ret Ts hh nm fr lo mc ms Qf pc (rest) lv h kc ks :=
  fun p e s m args below meth c ok H locs ls hR hS hl => lv_iconst ok.1 ok.2.1 hd hv (k p e s m args below meth c ok H locs ls hR hS hl)
theorem J_bipush {n : Int} {v : Int32} (hd : decode cc pc = .ok (.bipush n, 2)) (hv : (Int8.ofInt n).toInt32 = v) (k : J l K own cc nL ret Ts hh nm fr lo mc ms Qf (pc + 2) (.int v :: rest) lv h kc ks) : J l K own cc nL ret Ts hh nm fr lo mc ms Qf pc (rest) lv h kc ks :=
  fun p e s m args below meth c ok H locs ls hR hS hl => lv_bipush ok.1 ok.2.1 hd hv (k p e s m args below meth c ok H locs ls hR hS hl)
theorem J_sipush {n : Int} {v : Int32} (hd : decode cc pc = .ok (.sipush n, 3)) (hv : (Int16.ofInt n).toInt32 = v) (k : J l K own cc nL ret Ts hh nm fr lo mc ms Qf (pc + 3) (.int v :: rest) lv h kc ks) : J l K own cc nL ret Ts hh nm fr lo mc ms Qf pc (rest) lv h kc ks :=
  fun p e s m args below meth c ok H locs ls hR hS hl => lv_sipush ok.1 ok.2.1 hd hv (k p e s m args below meth c ok H locs ls hR hS hl)
theorem J_lconst {n : Fin 2} {v : Int64} (hd : decode cc pc = .ok (.lconst n, 1)) (hv : Int64.ofNat (n : Nat) = v) (k : J l K own cc nL ret Ts hh nm fr lo mc ms Qf (pc + 1) (.long v :: rest) lv h kc ks) : J l K own cc nL ret Ts hh nm fr lo mc ms Qf pc (rest) lv h kc ks :=
  fun p e s m args below meth c ok H locs ls hR hS hl => lv_lconst ok.1 ok.2.1 hd hv (k p e s m args below meth c ok H locs ls hR hS hl)
theorem J_iload_n {k : Fin 4} {x : Int32} (hd : decode cc pc = .ok (.iload_n k, 1)) (q : Nat) (hv : lv[q]? = some ((k : Nat), .int x)) (k : J l K own cc nL ret Ts hh nm fr lo mc ms Qf (pc + 1) (.int x :: rest) lv h kc ks) : J l K own cc nL ret Ts hh nm fr lo mc ms Qf pc (rest) lv h kc ks :=
  fun p e s m args below meth c ok H locs ls hR hS hl => lv_iload_n ok.1 ok.2.1 hd rfl (lv_at hl q hv) (k p e s m args below meth c ok H locs ls hR hS hl)
theorem J_iload {i : Nat} {x : Int32} (hd : decode cc pc = .ok (.iload i, 2)) (q : Nat) (hv : lv[q]? = some (i, .int x)) (k : J l K own cc nL ret Ts hh nm fr lo mc ms Qf (pc + 2) (.int x :: rest) lv h kc ks) : J l K own cc nL ret Ts hh nm fr lo mc ms Qf pc (rest) lv h kc ks :=
  fun p e s m args below meth c ok H locs ls hR hS hl => lv_iload ok.1 ok.2.1 hd (lv_at hl q hv) (k p e s m args below meth c ok H locs ls hR hS hl)
theorem J_lload_n {k : Fin 4} {x : Int64} (hd : decode cc pc = .ok (.lload_n k, 1)) (q : Nat) (hv : lv[q]? = some ((k : Nat), .long x)) (k : J l K own cc nL ret Ts hh nm fr lo mc ms Qf (pc + 1) (.long x :: rest) lv h kc ks) : J l K own cc nL ret Ts hh nm fr lo mc ms Qf pc (rest) lv h kc ks :=
  fun p e s m args below meth c ok H locs ls hR hS hl => lv_lload_n ok.1 ok.2.1 hd rfl (lv_at hl q hv) (k p e s m args below meth c ok H locs ls hR hS hl)
theorem J_lload {i : Nat} {x : Int64} (hd : decode cc pc = .ok (.lload i, 2)) (q : Nat) (hv : lv[q]? = some (i, .long x)) (k : J l K own cc nL ret Ts hh nm fr lo mc ms Qf (pc + 2) (.long x :: rest) lv h kc ks) : J l K own cc nL ret Ts hh nm fr lo mc ms Qf pc (rest) lv h kc ks :=
  fun p e s m args below meth c ok H locs ls hR hS hl => lv_lload ok.1 ok.2.1 hd (lv_at hl q hv) (k p e s m args below meth c ok H locs ls hR hS hl)
theorem J_aload_n {k : Fin 4} {x : Nat} (hd : decode cc pc = .ok (.aload_n k, 1)) (q : Nat) (hv : lv[q]? = some ((k : Nat), .ref x)) (k : J l K own cc nL ret Ts hh nm fr lo mc ms Qf (pc + 1) (.ref x :: rest) lv h kc ks) : J l K own cc nL ret Ts hh nm fr lo mc ms Qf pc (rest) lv h kc ks :=
  fun p e s m args below meth c ok H locs ls hR hS hl => lv_aload_n ok.1 ok.2.1 hd rfl (lv_at hl q hv) (k p e s m args below meth c ok H locs ls hR hS hl)
theorem J_aload {i : Nat} {x : Nat} (hd : decode cc pc = .ok (.aload i, 2)) (q : Nat) (hv : lv[q]? = some (i, .ref x)) (k : J l K own cc nL ret Ts hh nm fr lo mc ms Qf (pc + 2) (.ref x :: rest) lv h kc ks) : J l K own cc nL ret Ts hh nm fr lo mc ms Qf pc (rest) lv h kc ks :=
  fun p e s m args below meth c ok H locs ls hR hS hl => lv_aload ok.1 ok.2.1 hd (lv_at hl q hv) (k p e s m args below meth c ok H locs ls hR hS hl)
theorem J_iadd {x y : Int32} (hd : decode cc pc = .ok (.iadd, 1)) (k : J l K own cc nL ret Ts hh nm fr lo mc ms Qf (pc + 1) (.int (x + y) :: rest) lv h kc ks) : J l K own cc nL ret Ts hh nm fr lo mc ms Qf pc (.int y :: .int x :: rest) lv h kc ks :=
  fun p e s m args below meth c ok H locs ls hR hS hl => lv_iadd ok.1 ok.2.1 hd (k p e s m args below meth c ok H locs ls hR hS hl)
theorem J_isub {x y : Int32} (hd : decode cc pc = .ok (.isub, 1)) (k : J l K own cc nL ret Ts hh nm fr lo mc ms Qf (pc + 1) (.int (x - y) :: rest) lv h kc ks) : J l K own cc nL ret Ts hh nm fr lo mc ms Qf pc (.int y :: .int x :: rest) lv h kc ks :=
  fun p e s m args below meth c ok H locs ls hR hS hl => lv_isub ok.1 ok.2.1 hd (k p e s m args below meth c ok H locs ls hR hS hl)
theorem J_imul {x y : Int32} (hd : decode cc pc = .ok (.imul, 1)) (k : J l K own cc nL ret Ts hh nm fr lo mc ms Qf (pc + 1) (.int (x * y) :: rest) lv h kc ks) : J l K own cc nL ret Ts hh nm fr lo mc ms Qf pc (.int y :: .int x :: rest) lv h kc ks :=
  fun p e s m args below meth c ok H locs ls hR hS hl => lv_imul ok.1 ok.2.1 hd (k p e s m args below meth c ok H locs ls hR hS hl)
theorem J_iand {x y : Int32} (hd : decode cc pc = .ok (.iand, 1)) (k : J l K own cc nL ret Ts hh nm fr lo mc ms Qf (pc + 1) (.int (x &&& y) :: rest) lv h kc ks) : J l K own cc nL ret Ts hh nm fr lo mc ms Qf pc (.int y :: .int x :: rest) lv h kc ks :=
  fun p e s m args below meth c ok H locs ls hR hS hl => lv_iand ok.1 ok.2.1 hd (k p e s m args below meth c ok H locs ls hR hS hl)
theorem J_ior {x y : Int32} (hd : decode cc pc = .ok (.ior, 1)) (k : J l K own cc nL ret Ts hh nm fr lo mc ms Qf (pc + 1) (.int (x ||| y) :: rest) lv h kc ks) : J l K own cc nL ret Ts hh nm fr lo mc ms Qf pc (.int y :: .int x :: rest) lv h kc ks :=
  fun p e s m args below meth c ok H locs ls hR hS hl => lv_ior ok.1 ok.2.1 hd (k p e s m args below meth c ok H locs ls hR hS hl)
theorem J_ixor {x y : Int32} (hd : decode cc pc = .ok (.ixor, 1)) (k : J l K own cc nL ret Ts hh nm fr lo mc ms Qf (pc + 1) (.int (x ^^^ y) :: rest) lv h kc ks) : J l K own cc nL ret Ts hh nm fr lo mc ms Qf pc (.int y :: .int x :: rest) lv h kc ks :=
  fun p e s m args below meth c ok H locs ls hR hS hl => lv_ixor ok.1 ok.2.1 hd (k p e s m args below meth c ok H locs ls hR hS hl)
theorem J_ladd {x y : Int64} (hd : decode cc pc = .ok (.ladd, 1)) (k : J l K own cc nL ret Ts hh nm fr lo mc ms Qf (pc + 1) (.long (x + y) :: rest) lv h kc ks) : J l K own cc nL ret Ts hh nm fr lo mc ms Qf pc (.long y :: .long x :: rest) lv h kc ks :=
  fun p e s m args below meth c ok H locs ls hR hS hl => lv_ladd ok.1 ok.2.1 hd (k p e s m args below meth c ok H locs ls hR hS hl)
theorem J_land {x y : Int64} (hd : decode cc pc = .ok (.land, 1)) (k : J l K own cc nL ret Ts hh nm fr lo mc ms Qf (pc + 1) (.long (x &&& y) :: rest) lv h kc ks) : J l K own cc nL ret Ts hh nm fr lo mc ms Qf pc (.long y :: .long x :: rest) lv h kc ks :=
  fun p e s m args below meth c ok H locs ls hR hS hl => lv_land ok.1 ok.2.1 hd (k p e s m args below meth c ok H locs ls hR hS hl)
theorem J_lor {x y : Int64} (hd : decode cc pc = .ok (.lor, 1)) (k : J l K own cc nL ret Ts hh nm fr lo mc ms Qf (pc + 1) (.long (x ||| y) :: rest) lv h kc ks) : J l K own cc nL ret Ts hh nm fr lo mc ms Qf pc (.long y :: .long x :: rest) lv h kc ks :=
  fun p e s m args below meth c ok H locs ls hR hS hl => lv_lor ok.1 ok.2.1 hd (k p e s m args below meth c ok H locs ls hR hS hl)
theorem J_ishl {x y : Int32} (hd : decode cc pc = .ok (.ishl, 1)) (k : J l K own cc nL ret Ts hh nm fr lo mc ms Qf (pc + 1) (.int (x <<< (y &&& 31)) :: rest) lv h kc ks) : J l K own cc nL ret Ts hh nm fr lo mc ms Qf pc (.int y :: .int x :: rest) lv h kc ks :=
  fun p e s m args below meth c ok H locs ls hR hS hl => lv_ishl ok.1 ok.2.1 hd (k p e s m args below meth c ok H locs ls hR hS hl)
theorem J_ishr {x y : Int32} (hd : decode cc pc = .ok (.ishr, 1)) (k : J l K own cc nL ret Ts hh nm fr lo mc ms Qf (pc + 1) (.int (x >>> (y &&& 31)) :: rest) lv h kc ks) : J l K own cc nL ret Ts hh nm fr lo mc ms Qf pc (.int y :: .int x :: rest) lv h kc ks :=
  fun p e s m args below meth c ok H locs ls hR hS hl => lv_ishr ok.1 ok.2.1 hd (k p e s m args below meth c ok H locs ls hR hS hl)
theorem J_lshl {x : Int64} {y : Int32} (hd : decode cc pc = .ok (.lshl, 1)) (k : J l K own cc nL ret Ts hh nm fr lo mc ms Qf (pc + 1) (.long (x <<< (y.toInt64 &&& 63)) :: rest) lv h kc ks) : J l K own cc nL ret Ts hh nm fr lo mc ms Qf pc (.int y :: .long x :: rest) lv h kc ks :=
  fun p e s m args below meth c ok H locs ls hR hS hl => lv_lshl ok.1 ok.2.1 hd rfl (k p e s m args below meth c ok H locs ls hR hS hl)
theorem J_lushr {x : Int64} {y : Int32} (hd : decode cc pc = .ok (.lushr, 1)) (k : J l K own cc nL ret Ts hh nm fr lo mc ms Qf (pc + 1) (.long (x.toUInt64 >>> (y.toInt64.toUInt64 &&& Int64.toUInt64 63)).toInt64 :: rest) lv h kc ks) : J l K own cc nL ret Ts hh nm fr lo mc ms Qf pc (.int y :: .long x :: rest) lv h kc ks :=
  fun p e s m args below meth c ok H locs ls hR hS hl => lv_lushr ok.1 ok.2.1 hd rfl (k p e s m args below meth c ok H locs ls hR hS hl)
theorem J_i2l {x : Int32} (hd : decode cc pc = .ok (.i2l, 1)) (k : J l K own cc nL ret Ts hh nm fr lo mc ms Qf (pc + 1) (.long x.toInt64 :: rest) lv h kc ks) : J l K own cc nL ret Ts hh nm fr lo mc ms Qf pc (.int x :: rest) lv h kc ks :=
  fun p e s m args below meth c ok H locs ls hR hS hl => lv_i2l ok.1 ok.2.1 hd rfl (k p e s m args below meth c ok H locs ls hR hS hl)
theorem J_l2i {x : Int64} (hd : decode cc pc = .ok (.l2i, 1)) (k : J l K own cc nL ret Ts hh nm fr lo mc ms Qf (pc + 1) (.int x.toInt32 :: rest) lv h kc ks) : J l K own cc nL ret Ts hh nm fr lo mc ms Qf pc (.long x :: rest) lv h kc ks :=
  fun p e s m args below meth c ok H locs ls hR hS hl => lv_l2i ok.1 ok.2.1 hd rfl (k p e s m args below meth c ok H locs ls hR hS hl)
theorem J_dup {va : Value} (hd : decode cc pc = .ok (.dup, 1)) (hva : va.category = 1) (k : J l K own cc nL ret Ts hh nm fr lo mc ms Qf (pc + 1) (va :: va :: rest) lv h kc ks) : J l K own cc nL ret Ts hh nm fr lo mc ms Qf pc (va :: rest) lv h kc ks :=
  fun p e s m args below meth c ok H locs ls hR hS hl => lv_dup ok.1 ok.2.1 hd hva (k p e s m args below meth c ok H locs ls hR hS hl)
theorem J_pop {va : Value} (hd : decode cc pc = .ok (.pop, 1)) (hva : va.category = 1) (k : J l K own cc nL ret Ts hh nm fr lo mc ms Qf (pc + 1) (rest) lv h kc ks) : J l K own cc nL ret Ts hh nm fr lo mc ms Qf pc (va :: rest) lv h kc ks :=
  fun p e s m args below meth c ok H locs ls hR hS hl => lv_pop ok.1 ok.2.1 hd hva (k p e s m args below meth c ok H locs ls hR hS hl)
theorem J_dup2 {va vb : Value} (hd : decode cc pc = .ok (.dup2, 1)) (hva : va.category = 1) (hvb : vb.category = 1) (k : J l K own cc nL ret Ts hh nm fr lo mc ms Qf (pc + 1) (va :: vb :: va :: vb :: rest) lv h kc ks) : J l K own cc nL ret Ts hh nm fr lo mc ms Qf pc (va :: vb :: rest) lv h kc ks :=
  fun p e s m args below meth c ok H locs ls hR hS hl => lv_dup2_11 ok.1 ok.2.1 hd hva hvb (k p e s m args below meth c ok H locs ls hR hS hl)
theorem J_istore_n {k : Fin 4} {i : Nat} {x : Int32} (hd : decode cc pc = .ok (.istore_n k, 1)) (hi : (k : Nat) = i) (hn : i < nL) (hv : (i, Value.int x) :: lv.filter (fun q => !(q.1 == i) && !(q.1 + 1 == i && q.2.category == 2)) = lv') (k : J l K own cc nL ret Ts hh nm fr lo mc ms Qf (pc + 1) rest lv' h kc ks) : J l K own cc nL ret Ts hh nm fr lo mc ms Qf pc (.int x :: rest) lv h kc ks :=
  fun p e s m args below meth c ok H locs ls hR hS hl => lv_istore_n ok.1 ok.2.1 hd hi hl hn hv fun ls' hl' => k p e s m args below meth c ok H locs ls' hR hS hl'
theorem J_istore {i : Nat} {x : Int32} (hd : decode cc pc = .ok (.istore i, 2)) (hn : i < nL) (hv : (i, Value.int x) :: lv.filter (fun q => !(q.1 == i) && !(q.1 + 1 == i && q.2.category == 2)) = lv') (k : J l K own cc nL ret Ts hh nm fr lo mc ms Qf (pc + 2) rest lv' h kc ks) : J l K own cc nL ret Ts hh nm fr lo mc ms Qf pc (.int x :: rest) lv h kc ks :=
  fun p e s m args below meth c ok H locs ls hR hS hl => lv_istore ok.1 ok.2.1 hd hl hn hv fun ls' hl' => k p e s m args below meth c ok H locs ls' hR hS hl'
theorem J_astore_n {k : Fin 4} {i : Nat} {x : Nat} (hd : decode cc pc = .ok (.astore_n k, 1)) (hi : (k : Nat) = i) (hn : i < nL) (hv : (i, Value.ref x) :: lv.filter (fun q => !(q.1 == i) && !(q.1 + 1 == i && q.2.category == 2)) = lv') (k : J l K own cc nL ret Ts hh nm fr lo mc ms Qf (pc + 1) rest lv' h kc ks) : J l K own cc nL ret Ts hh nm fr lo mc ms Qf pc (.ref x :: rest) lv h kc ks :=
  fun p e s m args below meth c ok H locs ls hR hS hl => lv_astore_n ok.1 ok.2.1 hd hi hl hn hv fun ls' hl' => k p e s m args below meth c ok H locs ls' hR hS hl'
theorem J_astore {i : Nat} {x : Nat} (hd : decode cc pc = .ok (.astore i, 2)) (hn : i < nL) (hv : (i, Value.ref x) :: lv.filter (fun q => !(q.1 == i) && !(q.1 + 1 == i && q.2.category == 2)) = lv') (k : J l K own cc nL ret Ts hh nm fr lo mc ms Qf (pc + 2) rest lv' h kc ks) : J l K own cc nL ret Ts hh nm fr lo mc ms Qf pc (.ref x :: rest) lv h kc ks :=
  fun p e s m args below meth c ok H locs ls hR hS hl => lv_astore ok.1 ok.2.1 hd hl hn hv fun ls' hl' => k p e s m args below meth c ok H locs ls' hR hS hl'
theorem J_lstore_n {k : Fin 4} {i : Nat} {x : Int64} (hd : decode cc pc = .ok (.lstore_n k, 1)) (hi : (k : Nat) = i) (hn : i + 1 < nL) (hv : (i, Value.long x) :: lv.filter (fun q => !(q.1 == i) && (!(q.1 == i + 1) && !(q.1 + 1 == i && q.2.category == 2))) = lv') (k : J l K own cc nL ret Ts hh nm fr lo mc ms Qf (pc + 1) rest lv' h kc ks) : J l K own cc nL ret Ts hh nm fr lo mc ms Qf pc (.long x :: rest) lv h kc ks :=
  fun p e s m args below meth c ok H locs ls hR hS hl => lv_lstore_n ok.1 ok.2.1 hd hi hl hn hv fun ls' hl' => k p e s m args below meth c ok H locs ls' hR hS hl'
theorem J_lstore {i : Nat} {x : Int64} (hd : decode cc pc = .ok (.lstore i, 2)) (hn : i + 1 < nL) (hv : (i, Value.long x) :: lv.filter (fun q => !(q.1 == i) && (!(q.1 == i + 1) && !(q.1 + 1 == i && q.2.category == 2))) = lv') (k : J l K own cc nL ret Ts hh nm fr lo mc ms Qf (pc + 2) rest lv' h kc ks) : J l K own cc nL ret Ts hh nm fr lo mc ms Qf pc (.long x :: rest) lv h kc ks :=
  fun p e s m args below meth c ok H locs ls hR hS hl => lv_lstore ok.1 ok.2.1 hd hl hn hv fun ls' hl' => k p e s m args below meth c ok H locs ls' hR hS hl'
theorem J_astore_nq {k : Fin 4} {i : Nat} {x : Option Nat} (hd : decode cc pc = .ok (.astore_n k, 1)) (hi : (k : Nat) = i) (hn : i < nL) (hv : (i, va_rf x) :: lv.filter (fun q => !(q.1 == i) && !(q.1 + 1 == i && q.2.category == 2)) = lv') (k : J l K own cc nL ret Ts hh nm fr lo mc ms Qf (pc + 1) rest lv' h kc ks) : J l K own cc nL ret Ts hh nm fr lo mc ms Qf pc (va_rf x :: rest) lv h kc ks := by
  cases x with
  | none => exact fun p e s m args below meth c ok H locs ls hR hS hl => lv_astore_nN ok.1 ok.2.1 hd hi hl hn hv fun ls' hl' => k p e s m args below meth c ok H locs ls' hR hS hl'
  | some x => exact fun p e s m args below meth c ok H locs ls hR hS hl => lv_astore_n ok.1 ok.2.1 hd hi hl hn hv fun ls' hl' => k p e s m args below meth c ok H locs ls' hR hS hl'
theorem J_astoreq {i : Nat} {x : Option Nat} (hd : decode cc pc = .ok (.astore i, 2)) (hn : i < nL) (hv : (i, va_rf x) :: lv.filter (fun q => !(q.1 == i) && !(q.1 + 1 == i && q.2.category == 2)) = lv') (k : J l K own cc nL ret Ts hh nm fr lo mc ms Qf (pc + 2) rest lv' h kc ks) : J l K own cc nL ret Ts hh nm fr lo mc ms Qf pc (va_rf x :: rest) lv h kc ks := by
  cases x with
  | none => exact fun p e s m args below meth c ok H locs ls hR hS hl => lv_astoreN ok.1 ok.2.1 hd hl hn hv fun ls' hl' => k p e s m args below meth c ok H locs ls' hR hS hl'
  | some x => exact fun p e s m args below meth c ok H locs ls hR hS hl => lv_astore ok.1 ok.2.1 hd hl hn hv fun ls' hl' => k p e s m args below meth c ok H locs ls' hR hS hl'
theorem J_iinc {i : Nat} {n : Int} {x v : Int32} (hd : decode cc pc = .ok (.iinc i n, 3)) (q : Nat) (hq : lv[q]? = some (i, .int x)) (hv : x + Int32.ofInt n = v) (hn : i < nL) (hl' : (i, Value.int v) :: lv.filter (fun q => !(q.1 == i) && !(q.1 + 1 == i && q.2.category == 2)) = lv') (k : J l K own cc nL ret Ts hh nm fr lo mc ms Qf (pc + 3) rest lv' h kc ks) : J l K own cc nL ret Ts hh nm fr lo mc ms Qf pc rest lv h kc ks :=
  fun p e s m args below meth c ok H locs ls hR hS hl => lv_iinc ok.1 ok.2.1 hd hl hq hv hn hl' fun ls' hl' => k p e s m args below meth c ok H locs ls' hR hS hl'
theorem J_goto {off : Int} {tgt : Nat} (hd : decode cc pc = .ok (.goto off, 3)) (ht : (pc : Int) + off = (tgt : Int)) (k : J l K own cc nL ret Ts hh nm fr lo mc ms Qf tgt rest lv h kc ks) : J l K own cc nL ret Ts hh nm fr lo mc ms Qf pc rest lv h kc ks :=
  fun p e s m args below meth c ok H locs ls hR hS hl => lv_goto ok.1 ok.2.1 hd ht (k p e s m args below meth c ok H locs ls hR hS hl)
theorem J_icmp_eq {x y : Int32} {off : Int} {tgt : Nat} (hd : decode cc pc = .ok (.if_icmp .eq off, 3)) (ht : (pc : Int) + off = (tgt : Int)) (kt : x = y → J l K own cc nL ret Ts hh nm fr lo mc ms Qf tgt rest lv h kc ks) (kf : ¬ x = y → J l K own cc nL ret Ts hh nm fr lo mc ms Qf (pc + 3) rest lv h kc ks) : J l K own cc nL ret Ts hh nm fr lo mc ms Qf pc (.int y :: .int x :: rest) lv h kc ks :=
  fun p e s m args below meth c ok H locs ls hR hS hl => lv_icmp_eq ok.1 ok.2.1 hd ht (fun c9 => kt c9 p e s m args below meth c ok H locs ls hR hS hl) (fun c9 => kf c9 p e s m args below meth c ok H locs ls hR hS hl)
theorem J_icmp_lt {x y : Int32} {off : Int} {tgt : Nat} (hd : decode cc pc = .ok (.if_icmp .lt off, 3)) (ht : (pc : Int) + off = (tgt : Int)) (kt : x < y → J l K own cc nL ret Ts hh nm fr lo mc ms Qf tgt rest lv h kc ks) (kf : ¬ x < y → J l K own cc nL ret Ts hh nm fr lo mc ms Qf (pc + 3) rest lv h kc ks) : J l K own cc nL ret Ts hh nm fr lo mc ms Qf pc (.int y :: .int x :: rest) lv h kc ks :=
  fun p e s m args below meth c ok H locs ls hR hS hl => lv_icmp_lt ok.1 ok.2.1 hd ht (fun c9 => kt c9 p e s m args below meth c ok H locs ls hR hS hl) (fun c9 => kf c9 p e s m args below meth c ok H locs ls hR hS hl)
theorem J_icmp_ge {x y : Int32} {off : Int} {tgt : Nat} (hd : decode cc pc = .ok (.if_icmp .ge off, 3)) (ht : (pc : Int) + off = (tgt : Int)) (kt : y ≤ x → J l K own cc nL ret Ts hh nm fr lo mc ms Qf tgt rest lv h kc ks) (kf : ¬ y ≤ x → J l K own cc nL ret Ts hh nm fr lo mc ms Qf (pc + 3) rest lv h kc ks) : J l K own cc nL ret Ts hh nm fr lo mc ms Qf pc (.int y :: .int x :: rest) lv h kc ks :=
  fun p e s m args below meth c ok H locs ls hR hS hl => lv_icmp_ge ok.1 ok.2.1 hd ht (fun c9 => kt c9 p e s m args below meth c ok H locs ls hR hS hl) (fun c9 => kf c9 p e s m args below meth c ok H locs ls hR hS hl)
theorem J_icmp_gt {x y : Int32} {off : Int} {tgt : Nat} (hd : decode cc pc = .ok (.if_icmp .gt off, 3)) (ht : (pc : Int) + off = (tgt : Int)) (kt : y < x → J l K own cc nL ret Ts hh nm fr lo mc ms Qf tgt rest lv h kc ks) (kf : ¬ y < x → J l K own cc nL ret Ts hh nm fr lo mc ms Qf (pc + 3) rest lv h kc ks) : J l K own cc nL ret Ts hh nm fr lo mc ms Qf pc (.int y :: .int x :: rest) lv h kc ks :=
  fun p e s m args below meth c ok H locs ls hR hS hl => lv_icmp_gt ok.1 ok.2.1 hd ht (fun c9 => kt c9 p e s m args below meth c ok H locs ls hR hS hl) (fun c9 => kf c9 p e s m args below meth c ok H locs ls hR hS hl)
theorem J_icmp_le {x y : Int32} {off : Int} {tgt : Nat} (hd : decode cc pc = .ok (.if_icmp .le off, 3)) (ht : (pc : Int) + off = (tgt : Int)) (kt : x ≤ y → J l K own cc nL ret Ts hh nm fr lo mc ms Qf tgt rest lv h kc ks) (kf : ¬ x ≤ y → J l K own cc nL ret Ts hh nm fr lo mc ms Qf (pc + 3) rest lv h kc ks) : J l K own cc nL ret Ts hh nm fr lo mc ms Qf pc (.int y :: .int x :: rest) lv h kc ks :=
  fun p e s m args below meth c ok H locs ls hR hS hl => lv_icmp_le ok.1 ok.2.1 hd ht (fun c9 => kt c9 p e s m args below meth c ok H locs ls hR hS hl) (fun c9 => kf c9 p e s m args below meth c ok H locs ls hR hS hl)
theorem J_if_eq {x : Int32} {off : Int} {tgt : Nat} (hd : decode cc pc = .ok (.ifCond .eq off, 3)) (ht : (pc : Int) + off = (tgt : Int)) (kt : x = 0 → J l K own cc nL ret Ts hh nm fr lo mc ms Qf tgt rest lv h kc ks) (kf : ¬ x = 0 → J l K own cc nL ret Ts hh nm fr lo mc ms Qf (pc + 3) rest lv h kc ks) : J l K own cc nL ret Ts hh nm fr lo mc ms Qf pc (.int x :: rest) lv h kc ks :=
  fun p e s m args below meth c ok H locs ls hR hS hl => lv_if_eq ok.1 ok.2.1 hd ht (fun c9 => kt c9 p e s m args below meth c ok H locs ls hR hS hl) (fun c9 => kf c9 p e s m args below meth c ok H locs ls hR hS hl)
theorem J_if_lt {x : Int32} {off : Int} {tgt : Nat} (hd : decode cc pc = .ok (.ifCond .lt off, 3)) (ht : (pc : Int) + off = (tgt : Int)) (kt : x < 0 → J l K own cc nL ret Ts hh nm fr lo mc ms Qf tgt rest lv h kc ks) (kf : ¬ x < 0 → J l K own cc nL ret Ts hh nm fr lo mc ms Qf (pc + 3) rest lv h kc ks) : J l K own cc nL ret Ts hh nm fr lo mc ms Qf pc (.int x :: rest) lv h kc ks :=
  fun p e s m args below meth c ok H locs ls hR hS hl => lv_if_lt ok.1 ok.2.1 hd ht (fun c9 => kt c9 p e s m args below meth c ok H locs ls hR hS hl) (fun c9 => kf c9 p e s m args below meth c ok H locs ls hR hS hl)
theorem J_if_ge {x : Int32} {off : Int} {tgt : Nat} (hd : decode cc pc = .ok (.ifCond .ge off, 3)) (ht : (pc : Int) + off = (tgt : Int)) (kt : 0 ≤ x → J l K own cc nL ret Ts hh nm fr lo mc ms Qf tgt rest lv h kc ks) (kf : ¬ 0 ≤ x → J l K own cc nL ret Ts hh nm fr lo mc ms Qf (pc + 3) rest lv h kc ks) : J l K own cc nL ret Ts hh nm fr lo mc ms Qf pc (.int x :: rest) lv h kc ks :=
  fun p e s m args below meth c ok H locs ls hR hS hl => lv_if_ge ok.1 ok.2.1 hd ht (fun c9 => kt c9 p e s m args below meth c ok H locs ls hR hS hl) (fun c9 => kf c9 p e s m args below meth c ok H locs ls hR hS hl)
theorem J_if_gt {x : Int32} {off : Int} {tgt : Nat} (hd : decode cc pc = .ok (.ifCond .gt off, 3)) (ht : (pc : Int) + off = (tgt : Int)) (kt : 0 < x → J l K own cc nL ret Ts hh nm fr lo mc ms Qf tgt rest lv h kc ks) (kf : ¬ 0 < x → J l K own cc nL ret Ts hh nm fr lo mc ms Qf (pc + 3) rest lv h kc ks) : J l K own cc nL ret Ts hh nm fr lo mc ms Qf pc (.int x :: rest) lv h kc ks :=
  fun p e s m args below meth c ok H locs ls hR hS hl => lv_if_gt ok.1 ok.2.1 hd ht (fun c9 => kt c9 p e s m args below meth c ok H locs ls hR hS hl) (fun c9 => kf c9 p e s m args below meth c ok H locs ls hR hS hl)
theorem J_if_le {x : Int32} {off : Int} {tgt : Nat} (hd : decode cc pc = .ok (.ifCond .le off, 3)) (ht : (pc : Int) + off = (tgt : Int)) (kt : x ≤ 0 → J l K own cc nL ret Ts hh nm fr lo mc ms Qf tgt rest lv h kc ks) (kf : ¬ x ≤ 0 → J l K own cc nL ret Ts hh nm fr lo mc ms Qf (pc + 3) rest lv h kc ks) : J l K own cc nL ret Ts hh nm fr lo mc ms Qf pc (.int x :: rest) lv h kc ks :=
  fun p e s m args below meth c ok H locs ls hR hS hl => lv_if_le ok.1 ok.2.1 hd ht (fun c9 => kt c9 p e s m args below meth c ok H locs ls hR hS hl) (fun c9 => kf c9 p e s m args below meth c ok H locs ls hR hS hl)
theorem J_icmp_ne {x y : Int32} {off : Int} {tgt : Nat} (hd : decode cc pc = .ok (.if_icmp .ne off, 3)) (ht : (pc : Int) + off = (tgt : Int)) (kt : ¬ x = y → J l K own cc nL ret Ts hh nm fr lo mc ms Qf tgt rest lv h kc ks) (kf : x = y → J l K own cc nL ret Ts hh nm fr lo mc ms Qf (pc + 3) rest lv h kc ks) : J l K own cc nL ret Ts hh nm fr lo mc ms Qf pc (.int y :: .int x :: rest) lv h kc ks :=
  fun p e s m args below meth c ok H locs ls hR hS hl => lv_icmp_ne ok.1 ok.2.1 hd ht (fun c9 => kt c9 p e s m args below meth c ok H locs ls hR hS hl) (fun c9 => kf c9 p e s m args below meth c ok H locs ls hR hS hl)
theorem J_if_ne {x : Int32} {off : Int} {tgt : Nat} (hd : decode cc pc = .ok (.ifCond .ne off, 3)) (ht : (pc : Int) + off = (tgt : Int)) (kt : ¬ x = 0 → J l K own cc nL ret Ts hh nm fr lo mc ms Qf tgt rest lv h kc ks) (kf : x = 0 → J l K own cc nL ret Ts hh nm fr lo mc ms Qf (pc + 3) rest lv h kc ks) : J l K own cc nL ret Ts hh nm fr lo mc ms Qf pc (.int x :: rest) lv h kc ks :=
  fun p e s m args below meth c ok H locs ls hR hS hl => lv_if_ne ok.1 ok.2.1 hd ht (fun c9 => kt c9 p e s m args below meth c ok H locs ls hR hS hl) (fun c9 => kf c9 p e s m args below meth c ok H locs ls hR hS hl)
theorem J_lcmp {x y : Int64} (hd : decode cc pc = .ok (.lcmp, 1)) (k : J l K own cc nL ret Ts hh nm fr lo mc ms Qf (pc + 1) (.int (lg_cmp x y) :: rest) lv h kc ks) : J l K own cc nL ret Ts hh nm fr lo mc ms Qf pc (.long y :: .long x :: rest) lv h kc ks :=
  fun p e s m args below meth c ok H locs ls hR hS hl => W.lcmp ok.1 ok.2.1 hd (k p e s m args below meth c ok H locs ls hR hS hl)
theorem J_null (hd : decode cc pc = .ok (.aconst_null, 1)) (k : J l K own cc nL ret Ts hh nm fr lo mc ms Qf (pc + 1) (va_rf none :: rest) lv h kc ks) : J l K own cc nL ret Ts hh nm fr lo mc ms Qf pc (rest) lv h kc ks :=
  fun p e s m args below meth c ok H locs ls hR hS hl => lv_null ok.1 ok.2.1 hd (k p e s m args below meth c ok H locs ls hR hS hl)
theorem J_ifnull {x : Option Nat} {off : Int} {tgt : Nat} (hd : decode cc pc = .ok (.ifnull off, 3)) (ht : (pc : Int) + off = (tgt : Int)) (kt : x = none → J l K own cc nL ret Ts hh nm fr lo mc ms Qf tgt rest lv h kc ks) (kf : ∀ y, x = some y → J l K own cc nL ret Ts hh nm fr lo mc ms Qf (pc + 3) rest lv h kc ks) : J l K own cc nL ret Ts hh nm fr lo mc ms Qf pc (va_rf x :: rest) lv h kc ks := by
  cases x with
  | none => exact fun p e s m args below meth c ok H locs ls hR hS hl => lv_ifnullN ok.1 ok.2.1 hd ht (kt rfl p e s m args below meth c ok H locs ls hR hS hl)
  | some y => exact fun p e s m args below meth c ok H locs ls hR hS hl => lv_ifnull ok.1 ok.2.1 hd (kf y rfl p e s m args below meth c ok H locs ls hR hS hl)
theorem J_ifnonnull {x : Option Nat} {off : Int} {tgt : Nat} (hd : decode cc pc = .ok (.ifnonnull off, 3)) (ht : (pc : Int) + off = (tgt : Int)) (kt : ∀ y, x = some y → J l K own cc nL ret Ts hh nm fr lo mc ms Qf tgt rest lv h kc ks) (kf : x = none → J l K own cc nL ret Ts hh nm fr lo mc ms Qf (pc + 3) rest lv h kc ks) : J l K own cc nL ret Ts hh nm fr lo mc ms Qf pc (va_rf x :: rest) lv h kc ks := by
  cases x with
  | none => exact fun p e s m args below meth c ok H locs ls hR hS hl => lv_ifnonnullN ok.1 ok.2.1 hd (kf rfl p e s m args below meth c ok H locs ls hR hS hl)
  | some y => exact fun p e s m args below meth c ok H locs ls hR hS hl => lv_ifnonnull ok.1 ok.2.1 hd ht (kt y rfl p e s m args below meth c ok H locs ls hR hS hl)
theorem J_sub (qs : List Nat) (hq : lv_pick lv qs = lv') (k : J l K own cc nL ret Ts hh nm fr lo mc ms Qf pc rest lv' h kc ks) : J l K own cc nL ret Ts hh nm fr lo mc ms Qf pc rest lv h kc ks :=
  fun p e s m args below meth c ok H locs ls hR hS hl => k p e s m args below meth c ok H locs ls hR hS (lv_sub hl qs hq)
theorem J_wide {kc' ks' : Nat} (h1 : kc ≤ kc') (h2 : ks ≤ ks') (k : J l K own cc nL ret Ts hh nm fr lo mc ms Qf pc rest lv h kc' ks') : J l K own cc nL ret Ts hh nm fr lo mc ms Qf pc rest lv h kc ks :=
  fun p e s m args below meth c ok H locs ls hR hS hl => W.widen h1 h2 (k p e s m args below meth c ok H locs ls hR hS hl)
end Rules
end
section
/-! ===== reads and writes of abstract heaps ===== -/
def gf (h : Hp) (a ci k : Nat) : Option Value := match h a with
  | some (.inr o) => if o.1 = ci then o.2[k]? else none
  | _ => none
def pf (h : Hp) (a ci k : Nat) (v : Value) : Option Hp := match h a with
  | some (.inr o) => if o.1 = ci ∧ k < o.2.length then some (va_up h a (some (.inr (ci, o.2.set k v)))) else none
  | _ => none
def alen (K : Kx) (t : Nat) (h : Hp) (a : Nat) : Option Int32 := match h a with
  | some (.inl (c, n, _)) => if c = K.2.1 t then some (nI n) else none
  | _ => none
def aI (K : Kx) (h : Hp) (a : Nat) (i : Int32) : Option Int32 := match h a with
  | some (.inl (c, n, .inl f)) => if c = K.2.1 0 ∧ ¬ (i < 0 ∨ n ≤ i.toNatClampNeg) then some (f i.toNatClampNeg) else none
  | _ => none
def aZ (K : Kx) (h : Hp) (a : Nat) (i : Int32) : Option Int32 := match h a with
  | some (.inl (c, n, .inl f)) => if c = K.2.1 2 ∧ ¬ (i < 0 ∨ n ≤ i.toNatClampNeg) then some (f i.toNatClampNeg) else none
  | _ => none
def aJ (K : Kx) (h : Hp) (a : Nat) (i : Int32) : Option Int64 := match h a with
  | some (.inl (c, n, .inr (.inl f))) => if c = K.2.1 1 ∧ ¬ (i < 0 ∨ n ≤ i.toNatClampNeg) then some (f i.toNatClampNeg) else none
  | _ => none
def aQ (K : Kx) (t : Nat) (h : Hp) (a : Nat) (i : Int32) : Option (Option Nat) := match h a with
  | some (.inl (c, n, .inr (.inr (.inr (.inr f))))) => if c = K.2.1 t ∧ ¬ (i < 0 ∨ n ≤ i.toNatClampNeg) then some (f i.toNatClampNeg) else none
  | _ => none
def wI (K : Kx) (h : Hp) (a : Nat) (i x : Int32) : Option Hp := match h a with
  | some (.inl (c, n, .inl f)) => if c = K.2.1 0 ∧ ¬ (i < 0 ∨ n ≤ i.toNatClampNeg) then some (va_up h a (some (xI K n (upd f i.toNatClampNeg x)))) else none
  | _ => none
def wZ (K : Kx) (h : Hp) (a : Nat) (i x : Int32) : Option Hp := match h a with
  | some (.inl (c, n, .inl f)) => if c = K.2.1 2 ∧ ¬ (i < 0 ∨ n ≤ i.toNatClampNeg) then some (va_up h a (some (xZ K n (upd f i.toNatClampNeg x)))) else none
  | _ => none
def wJ (K : Kx) (h : Hp) (a : Nat) (i : Int32) (x : Int64) : Option Hp := match h a with
  | some (.inl (c, n, .inr (.inl f))) => if c = K.2.1 1 ∧ ¬ (i < 0 ∨ n ≤ i.toNatClampNeg) then some (va_up h a (some (xJ K n (vp_updL f i.toNatClampNeg x)))) else none
  | _ => none
def wQ (K : Kx) (t : Nat) (h : Hp) (a : Nat) (i : Int32) (x : Option Nat) : Option Hp := match h a with
  | some (.inl (c, n, .inr (.inr (.inr (.inr f))))) => if c = K.2.1 t ∧ ¬ (i < 0 ∨ n ≤ i.toNatClampNeg) then some (va_up h a (some (xQ K t n (va_up f i.toNatClampNeg x)))) else none
  | _ => none
theorem gf_of {h : Hp} {a ci k : Nat} {fs : List Value} (e : h a = some (xO ci fs)) : gf h a ci k = fs[k]? := by simp [gf, e]
theorem pf_of {h : Hp} {a ci k : Nat} {fs : List Value} {v : Value} (e : h a = some (xO ci fs)) (hk : k < fs.length) : pf h a ci k v = some (va_up h a (some (xO ci (fs.set k v)))) := by simp [pf, e, hk]
theorem gf_spec {h : Hp} {a ci k : Nat} {v : Value} (e : gf h a ci k = some v) : ∃ fs, h a = some (xO ci fs) ∧ fs[k]? = some v := by
  unfold gf at e
  split at e
  · rename_i o ho
    split at e
    · rename_i hc
      exact ⟨o.2, by rw [ho, ← hc], e⟩
    · cases e
  · cases e
theorem pf_spec {h h' : Hp} {a ci k : Nat} {v : Value} (e : pf h a ci k v = some h') : ∃ fs, h a = some (xO ci fs) ∧ k < fs.length ∧ h' = va_up h a (some (xO ci (fs.set k v))) := by
  unfold pf at e
  split at e
  · rename_i o ho
    split at e
    · rename_i hc
      exact ⟨o.2, by rw [ho, ← hc.1], hc.2, (Option.some.inj e).symm⟩
    · cases e
  · cases e
theorem alen_spec {K : Kx} {t : Nat} {h : Hp} {a : Nat} {v : Int32} (e : alen K t h a = some v) : ∃ x : vp_A, h a = some (.inl (K.2.1 t, x)) ∧ v = nI x.1 := by
  unfold alen at e
  split at e
  · rename_i c n y ho
    split at e
    · rename_i hc
      exact ⟨(n, y), by rw [ho, hc], (Option.some.inj e).symm⟩
    · cases e
  · cases e
theorem aI_spec {K : Kx} {h : Hp} {a : Nat} {i v : Int32} (e : aI K h a i = some v) : ∃ n f, h a = some (xI K n f) ∧ vp_in i n ∧ v = f i.toNatClampNeg := by
  unfold aI at e
  split at e
  · rename_i c n f ho
    split at e
    · rename_i hc
      exact ⟨n, f, by rw [ho, hc.1], hc.2, (Option.some.inj e).symm⟩
    · cases e
  · cases e
theorem aZ_spec {K : Kx} {h : Hp} {a : Nat} {i v : Int32} (e : aZ K h a i = some v) : ∃ n f, h a = some (xZ K n f) ∧ vp_in i n ∧ v = f i.toNatClampNeg := by
  unfold aZ at e
  split at e
  · rename_i c n f ho
    split at e
    · rename_i hc
      exact ⟨n, f, by rw [ho, hc.1], hc.2, (Option.some.inj e).symm⟩
    · cases e
  · cases e
theorem aJ_spec {K : Kx} {h : Hp} {a : Nat} {i : Int32} {v : Int64} (e : aJ K h a i = some v) : ∃ n f, h a = some (xJ K n f) ∧ vp_in i n ∧ v = f i.toNatClampNeg := by
  unfold aJ at e
  split at e
  · rename_i c n f ho
    split at e
    · rename_i hc
      exact ⟨n, f, by rw [ho, hc.1], hc.2, (Option.some.inj e).symm⟩
    · cases e
  · cases e
theorem aQ_spec {K : Kx} {t : Nat} {h : Hp} {a : Nat} {i : Int32} {v : Option Nat} (e : aQ K t h a i = some v) : ∃ n f, h a = some (xQ K t n f) ∧ vp_in i n ∧ v = f i.toNatClampNeg := by
  unfold aQ at e
  split at e
  · rename_i c n f ho
    split at e
    · rename_i hc
      exact ⟨n, f, by rw [ho, hc.1], hc.2, (Option.some.inj e).symm⟩
    · cases e
  · cases e
theorem wI_spec {K : Kx} {h h' : Hp} {a : Nat} {i x : Int32} (e : wI K h a i x = some h') : ∃ n f, h a = some (xI K n f) ∧ vp_in i n ∧ h' = va_up h a (some (xI K n (upd f i.toNatClampNeg x))) := by
  unfold wI at e
  split at e
  · rename_i c n f ho
    split at e
    · rename_i hc
      exact ⟨n, f, by rw [ho, hc.1], hc.2, (Option.some.inj e).symm⟩
    · cases e
  · cases e
theorem wZ_spec {K : Kx} {h h' : Hp} {a : Nat} {i x : Int32} (e : wZ K h a i x = some h') : ∃ n f, h a = some (xZ K n f) ∧ vp_in i n ∧ h' = va_up h a (some (xZ K n (upd f i.toNatClampNeg x))) := by
  unfold wZ at e
  split at e
  · rename_i c n f ho
    split at e
    · rename_i hc
      exact ⟨n, f, by rw [ho, hc.1], hc.2, (Option.some.inj e).symm⟩
    · cases e
  · cases e
theorem wJ_spec {K : Kx} {h h' : Hp} {a : Nat} {i : Int32} {x : Int64} (e : wJ K h a i x = some h') : ∃ n f, h a = some (xJ K n f) ∧ vp_in i n ∧ h' = va_up h a (some (xJ K n (vp_updL f i.toNatClampNeg x))) := by
  unfold wJ at e
  split at e
  · rename_i c n f ho
    split at e
    · rename_i hc
      exact ⟨n, f, by rw [ho, hc.1], hc.2, (Option.some.inj e).symm⟩
    · cases e
  · cases e
theorem wQ_spec {K : Kx} {t : Nat} {h h' : Hp} {a : Nat} {i : Int32} {x : Option Nat} (e : wQ K t h a i x = some h') : ∃ n f, h a = some (xQ K t n f) ∧ vp_in i n ∧ h' = va_up h a (some (xQ K t n (va_up f i.toNatClampNeg x))) := by
  unfold wQ at e
  split at e
  · rename_i c n f ho
    split at e
    · rename_i hc
      exact ⟨n, f, by rw [ho, hc.1], hc.2, (Option.some.inj e).symm⟩
    · cases e
  · cases e
theorem xJ_in {K : Kx} {n : Nat} {f : Nat → Int64} {i : Int32} (hi : vp_in i n) (g : Nat → Int64) : xJ K n f ≠ xJ K 0 g := by
  intro e
  cases e
  exact hi (Or.inr (Nat.zero_le _))
theorem xI_ne {c : ClassId} {K : Kx} {n : Nat} {f : Nat → Int32} (g : Nat → Int64) : (.inl (c, n, .inl f) : va_E) ≠ xJ K 0 g := fun e => by
  have h2 := (Prod.mk.inj (Prod.mk.inj (Sum.inl.inj e)).2).2
  cases h2
theorem xQ_ne {c : ClassId} {K : Kx} {n : Nat} {f : Nat → Option Nat} (g : Nat → Int64) : (.inl (c, n, .inr (.inr (.inr (.inr f)))) : va_E) ≠ xJ K 0 g := fun e => by
  have h2 := Sum.inr.inj (Prod.mk.inj (Prod.mk.inj (Sum.inl.inj e)).2).2
  cases h2
theorem xO_ne {K : Kx} {ci : Nat} {fs : List Value} (g : Nat → Int64) : xO ci fs ≠ xJ K 0 g := fun e => by cases e
section Mem
variable {l : Launch} {K : Kx} {own : String} {cc : ByteArray} {nL : Nat} {ret : Option FieldType} {Ts : List Cond} {hh : List (Nat × Nat × Nat × Nat)} {nm : String} {fr lo mc ms : Nat} {Qf : State → Array Value → List Frame → State → Prop} {pc : Nat} {rest : List Value} {lv lv' : List (Nat × Value)} {h : Hp} {kc ks : Nat}
theorem J_get {ci k a N idx : Nat} {C : String} {T : u_T} {v : Value} (hd : decode cc pc = .ok (.getfield idx, 3)) (hc : vwCl[ci]? = some (C, T, N)) (hin : ∀ w ∈ u_ws C T N, w ∈ Ts) (hk : k < N) (hl0 : Cond.fieldLink own idx (T k).1 (T k).2.1 (T k).2.2.1 ∈ Ts) (hg : gf h a ci k = some v)
    (kk : J l K own cc nL ret Ts hh nm fr lo mc ms Qf (pc + 3) (v :: rest) lv h kc ks) : J l K own cc nL ret Ts hh nm fr lo mc ms Qf pc (.ref a :: rest) lv h kc ks := by
  intro p e s m args below meth c ok H locs ls hR hS hl
  obtain ⟨fs, he, hv⟩ := gf_spec hg
  obtain ⟨hb, hat⟩ := hR.at he (fun f e => by cases e)
  have hP : va_P K.1 vwCl [(a, .inr (ci, fs))] H := fun k q hq => by
    have hz : k < 1 := (List.getElem?_eq_some_iff.mp hq).1
    rw [show k = 0 by omega] at hq
    cases hq
    exact hat
  exact va_get ok.1 ok.2.1 ok.2.2.2.2.1 hin ok.2.2.2.1 ok.2.2.2.2.2.2.2.2.2.1.1 hP 0 rfl hc k hk (ok.2.2.2.2.1 _ hl0) (fun _ h9 => h9) hv hd (kk p e s m args below meth c ok H locs ls hR hS hl)
theorem J_put {ci k a N idx : Nat} {C : String} {T : u_T} {v : Value} {ty : FieldType} {h' : Hp} (hd : decode cc pc = .ok (.putfield idx, 3)) (hc : vwCl[ci]? = some (C, T, N)) (hin : ∀ w ∈ u_ws C T N, w ∈ Ts) (ty0 : Nat → FieldType) (hty : ∀ k, k < N → parseFieldDescriptor (T k).2.2.1 = some (ty0 k)) (hnm : ∀ a, a < N → ∀ b, b < N → a ≠ b → (T a).2.1 ≠ (T b).2.1)
    (hk : k < N) (hl0 : Cond.fieldLink own idx (T k).1 (T k).2.1 (T k).2.2.1 ∈ Ts) (hfin : (T k).2.2.2 = false) (hty1 : ty0 k = ty) (hn : narrow ty v = v) (hfit : fits ty v = true) (hg : pf h a ci k v = some h')
    (kk : J l K own cc nL ret Ts hh nm fr lo mc ms Qf (pc + 3) rest lv h' kc ks) : J l K own cc nL ret Ts hh nm fr lo mc ms Qf pc (v :: .ref a :: rest) lv h kc ks := by
  intro p e s m args below meth c ok H locs ls hR hS hl
  obtain ⟨fs, he, hlen, rfl⟩ := pf_spec hg
  obtain ⟨hb, hat⟩ := hR.at he (fun f e => by cases e)
  have hts := ok.2.2.2.2.1
  have hK := ok.2.2.2.2.2.2.2.2.2.1.1
  have hap := va_apart (own := own) hts hin ty0 hty hnm hK hc
  obtain ⟨r, h1, cell, q1, q2, q3, q4⟩ := hat
  have hr : r = (C, T, N) := Option.some.inj (h1.symm.trans hc)
  subst hr
  obtain ⟨hSl, hfc, kC, hkC, hkind⟩ := hK.1 ci _ hc
  obtain ⟨cf, kf, fi, f, hi, hsl⟩ := hSl k hk
  have hlay := hts _ (hin _ (u_in_lay hk))
  unfold u_lay at hlay
  rw [if_neg (by rw [hfin]; decide)] at hlay
  have hst := (u_facts hfc hkC (u_lays hts hin hk) hi).1
  have h6 := u_store hfc hkC hkind hlay hi (ty := ty) (by rw [← hty1]; exact hty k hk) hn hfit
  refine W.putK ok.1 ok.2.1 (f := f) ⟨ok.2.2.2.1, hts _ hl0, ⟨_, _, _, hi⟩, hst⟩ (by rw [q2]; exact h6) q1 q3 (by rw [hsl]; exact k2_hasslot (q4 k hk)) rfl rfl hd fun H' e1 e2 e3 => ?_
  rw [hsl] at e1 ⊢
  refine kk p e s m args below meth c ok H' _ ls (hR.upd hb e2 e3 ⟨_, hc, t_OB.to (V := updV (vp_V fs) k v) ⟨_, e1, q2, q3, t_set q4 hap hk v⟩ (fun j _ => vp_updV_set hlen v j)⟩) (hS.put e2 e3 hb) hl
theorem J_iret {v : Int32} {Post : Rs → Hp → Prop} (hd : decode cc pc = .ok (.ireturn, 1)) (hr : ret = some .int) (h1 : kc ≤ mc) (h2 : ks ≤ ms) (hp : Post (.inl (some (.int v))) h) : J l K own cc nL ret Ts hh nm fr lo mc ms (QM K mc ms Post) pc [.int v] lv h kc ks :=
  fun p e s m args below meth c ok H locs ls hR hS hl => W.widen h1 h2 (vx_ret (W.iret ok.1 ok.2.1 (ok.2.2.2.2.2.2.1.trans hr) (fun t ht hW => ⟨⟨_, h, rfl, hp, by rw [ht]; exact hR⟩, hS.F ht⟩) hS.2.2 hd (hlocks := ok.2.2.2.2.2.1)))
theorem J_zret {v : Int32} {Post : Rs → Hp → Prop} (hd : decode cc pc = .ok (.ireturn, 1)) (hr : ret = some .boolean) (hv : v = 0 ∨ v = 1) (h1 : kc ≤ mc) (h2 : ks ≤ ms) (hp : Post (.inl (some (.int v))) h) : J l K own cc nL ret Ts hh nm fr lo mc ms (QM K mc ms Post) pc [.int v] lv h kc ks :=
  fun p e s m args below meth c ok H locs ls hR hS hl => W.widen h1 h2 (vx_ret (W.zret ok.1 ok.2.1 (ok.2.2.2.2.2.2.1.trans hr) (by rcases hv with rfl | rfl <;> rfl) (fun t ht hW => ⟨⟨_, h, rfl, hp, by rw [ht]; exact hR⟩, hS.F ht⟩) hS.2.2 hd (hlocks := ok.2.2.2.2.2.1)))
theorem J_lret {v : Int64} {Post : Rs → Hp → Prop} (hd : decode cc pc = .ok (.lreturn, 1)) (hr : ret = some .long) (h1 : kc ≤ mc) (h2 : ks ≤ ms) (hp : Post (.inl (some (.long v))) h) : J l K own cc nL ret Ts hh nm fr lo mc ms (QM K mc ms Post) pc [.long v] lv h kc ks :=
  fun p e s m args below meth c ok H locs ls hR hS hl => W.widen h1 h2 (vx_ret (W.lret ok.1 ok.2.1 (ok.2.2.2.2.2.2.1.trans hr) (fun t ht hW => ⟨⟨_, h, rfl, hp, by rw [ht]; exact hR⟩, hS.F ht⟩) hS.2.2 hd (hlocks := ok.2.2.2.2.2.1)))
theorem J_vret {Post : Rs → Hp → Prop} (hd : decode cc pc = .ok (.return_, 1)) (hr : ret = none) (h1 : kc ≤ mc) (h2 : ks ≤ ms) (hp : Post (.inl none) h) : J l K own cc nL ret Ts hh nm fr lo mc ms (QM K mc ms Post) pc [] lv h kc ks :=
  fun p e s m args below meth c ok H locs ls hR hS hl => W.widen h1 h2 (vx_ret (W.vret ok.1 ok.2.1 (ok.2.2.2.2.2.2.1.trans hr) (fun t ht hW => ⟨⟨_, h, rfl, hp, by rw [ht]; exact hR⟩, hS.F ht⟩) hS.2.2 hd (hlocks := ok.2.2.2.2.2.1)))
theorem J_aret {x : Option Nat} {rt : FieldType} {Post : Rs → Hp → Prop} (hd : decode cc pc = .ok (.areturn, 1)) (hr : ret = some rt) (hrt : (∃ n, rt = .object n) ∨ ∃ t, rt = .array t) (h1 : kc ≤ mc) (h2 : ks ≤ ms) (hp : Post (.inl (some (va_rf x))) h) : J l K own cc nL ret Ts hh nm fr lo mc ms (QM K mc ms Post) pc [va_rf x] lv h kc ks :=
  fun p e s m args below meth c ok H locs ls hR hS hl => W.widen h1 h2 (vx_ret (W.aret ok.1 ok.2.1 (ok.2.2.2.2.2.2.1.trans hr) hrt (by cases x with | none => exact Or.inl rfl | some y => exact Or.inr ⟨y, rfl⟩) (fun t ht hW => ⟨⟨_, h, rfl, hp, by rw [ht]; exact hR⟩, hS.F ht⟩) hS.2.2 hd (hlocks := ok.2.2.2.2.2.1)))
theorem J_alen {a t : Nat} {v : Int32} {ty : FieldType} (hd : decode cc pc = .ok (.arraylength, 1)) (ht : (tyL K)[t]? = some (K.2.1 t, ty)) (hg : alen K t h a = some v)
    (kk : J l K own cc nL ret Ts hh nm fr lo mc ms Qf (pc + 1) (.int v :: rest) lv h kc ks) : J l K own cc nL ret Ts hh nm fr lo mc ms Qf pc (.ref a :: rest) lv h kc ks := by
  intro p e s m args below meth c ok H locs ls hR hS hl
  obtain ⟨x, he, rfl⟩ := alen_spec hg
  have hk := kk p e s m args below meth c ok H locs ls hR hS hl
  rcases hR.1 a _ he with q | ⟨rfl, q2, f, q3⟩
  · have hP : va_P K.1 vwCl [(a, .inl (K.2.1 t, x))] H := fun k q' hq => by
      have hz : k < 1 := (List.getElem?_eq_some_iff.mp hq).1
      rw [show k = 0 by omega] at hq
      cases hq
      exact q.2
    exact va_alen ok.1 ok.2.1 ok.2.2.2.2.2.2.2.2.2.1.1 hP 0 t rfl ht rfl hd hk
  · obtain ⟨cell, g1, g2, g3, g4, g5, g6, g7⟩ := ok.2.2.2.2.2.2.2.2.2.1.2.2.2.2.2.2.2.2.2.2.2.2
    have hx : x.1 = 0 := by
      have e1 := Sum.inl.inj q3
      rw [(Prod.mk.inj e1).2]
    rw [hx] at hk
    exact W.alen ok.1 ok.2.1 (cell := cell) (by rw [hR.2.2 _ q2]; exact g1) g2 g5 rfl rfl hd hk
theorem Rp.one {H : Heap} (hR : Rp K h H) {a : Nat} {x : va_E} (he : h a = some x) (hx : ∀ f, x ≠ xJ K 0 f) : va_P K.1 vwCl [(a, x)] H := fun k q' hq => by
  have hz : k < 1 := (List.getElem?_eq_some_iff.mp hq).1
  rw [show k = 0 by omega] at hq
  cases hq
  exact (hR.at he hx).2
theorem J_iald {a : Nat} {i v : Int32} (hd : decode cc pc = .ok (.iaload, 1)) (hg : aI K h a i = some v)
    (kk : J l K own cc nL ret Ts hh nm fr lo mc ms Qf (pc + 1) (.int v :: rest) lv h kc ks) : J l K own cc nL ret Ts hh nm fr lo mc ms Qf pc (.int i :: .ref a :: rest) lv h kc ks := by
  intro p e s m args below meth c ok H locs ls hR hS hl
  obtain ⟨n, f, he, hi, rfl⟩ := aI_spec hg
  exact va_iald ok.1 ok.2.1 ok.2.2.2.2.2.2.2.2.2.1.1 (hR.one he xI_ne) 0 0 rfl rfl hi hd (kk p e s m args below meth c ok H locs ls hR hS hl)
theorem J_zald {a : Nat} {i v : Int32} (hd : decode cc pc = .ok (.baload, 1)) (hg : aZ K h a i = some v)
    (kk : J l K own cc nL ret Ts hh nm fr lo mc ms Qf (pc + 1) (.int v :: rest) lv h kc ks) : J l K own cc nL ret Ts hh nm fr lo mc ms Qf pc (.int i :: .ref a :: rest) lv h kc ks := by
  intro p e s m args below meth c ok H locs ls hR hS hl
  obtain ⟨n, f, he, hi, rfl⟩ := aZ_spec hg
  exact va_zald ok.1 ok.2.1 ok.2.2.2.2.2.2.2.2.2.1.1 (hR.one he xI_ne) 0 2 rfl rfl hi hd (kk p e s m args below meth c ok H locs ls hR hS hl)
theorem J_lald {a : Nat} {i : Int32} {v : Int64} (hd : decode cc pc = .ok (.laload, 1)) (hg : aJ K h a i = some v)
    (kk : J l K own cc nL ret Ts hh nm fr lo mc ms Qf (pc + 1) (.long v :: rest) lv h kc ks) : J l K own cc nL ret Ts hh nm fr lo mc ms Qf pc (.int i :: .ref a :: rest) lv h kc ks := by
  intro p e s m args below meth c ok H locs ls hR hS hl
  obtain ⟨n, f, he, hi, rfl⟩ := aJ_spec hg
  exact va_lald ok.1 ok.2.1 ok.2.2.2.2.2.2.2.2.2.1.1 (hR.one he (xJ_in hi)) 0 1 rfl rfl hi hd (kk p e s m args below meth c ok H locs ls hR hS hl)
theorem J_aald {a t : Nat} {i : Int32} {v : Option Nat} {C : String} (hd : decode cc pc = .ok (.aaload, 1)) (ht : (tyL K)[t]? = some (K.2.1 t, .object C)) (hg : aQ K t h a i = some v)
    (kk : J l K own cc nL ret Ts hh nm fr lo mc ms Qf (pc + 1) (va_rf v :: rest) lv h kc ks) : J l K own cc nL ret Ts hh nm fr lo mc ms Qf pc (.int i :: .ref a :: rest) lv h kc ks := by
  intro p e s m args below meth c ok H locs ls hR hS hl
  obtain ⟨n, f, he, hi, rfl⟩ := aQ_spec hg
  exact va_aldq ok.1 ok.2.1 ok.2.2.2.2.2.2.2.2.2.1.1 (hR.one he xQ_ne) 0 t rfl ht hi hd (kk p e s m args below meth c ok H locs ls hR hS hl)
theorem J_iast {a : Nat} {i x : Int32} {h' : Hp} (hd : decode cc pc = .ok (.iastore, 1)) (hg : wI K h a i x = some h')
    (kk : J l K own cc nL ret Ts hh nm fr lo mc ms Qf (pc + 1) rest lv h' kc ks) : J l K own cc nL ret Ts hh nm fr lo mc ms Qf pc (.int x :: .int i :: .ref a :: rest) lv h kc ks := by
  intro p e s m args below meth c ok H locs ls hR hS hl
  obtain ⟨n, f, he, hi, rfl⟩ := wI_spec hg
  obtain ⟨hb, hat⟩ := hR.at he xI_ne
  refine W.iast ok.1 ok.2.1 hat ((ok.2.2.2.2.2.2.2.2.2.1.1.2 0 _ rfl).1 n (fun j => .int (f j))) (fun q => by cases q) (by show ¬ (i < 0 ∨ (arrV _ _ _).slots.size ≤ _); rw [arrV_size]; exact hi) rfl rfl hd fun H1 e1 z oq => ?_
  refine kk p e s m args below meth c ok H1 _ ls (hR.upd hb z oq ?_) (hS.put z oq hb) hl
  show H1[a]? = some (vp_cell _ _)
  rw [e1, vp_cell_i, vp_cell_i, arrV_store]
  congr 2
  funext q
  by_cases hq : q = i.toNatClampNeg
  · subst hq
    simp [updV, upd]
  · simp [updV, upd, hq]
theorem J_zast {a : Nat} {i x : Int32} {h' : Hp} (hd : decode cc pc = .ok (.bastore, 1)) (hx : x = 0 ∨ x = 1) (hg : wZ K h a i x = some h')
    (kk : J l K own cc nL ret Ts hh nm fr lo mc ms Qf (pc + 1) rest lv h' kc ks) : J l K own cc nL ret Ts hh nm fr lo mc ms Qf pc (.int x :: .int i :: .ref a :: rest) lv h kc ks := by
  intro p e s m args below meth c ok H locs ls hR hS hl
  obtain ⟨n, f, he, hi, rfl⟩ := wZ_spec hg
  obtain ⟨hb, hat⟩ := hR.at he xI_ne
  refine W.zast ok.1 ok.2.1 hat ((ok.2.2.2.2.2.2.2.2.2.1.1.2 2 _ rfl).1 n (fun j => .int (f j))) (fun q => by cases q) (by show ¬ (i < 0 ∨ (arrV _ _ _).slots.size ≤ _); rw [arrV_size]; exact hi) rfl rfl hd fun H1 e1 z oq => ?_
  refine kk p e s m args below meth c ok H1 _ ls (hR.upd hb z oq ?_) (hS.put z oq hb) hl
  show H1[a]? = some (vp_cell _ _)
  have hn : vp_nar .boolean x = x := by rcases hx with rfl | rfl <;> rfl
  rw [e1, vp_cell_i, vp_cell_i, arrV_store]
  congr 2
  funext q
  by_cases hq : q = i.toNatClampNeg
  · subst hq
    simp only [updV, upd, if_true]
    rcases hx with rfl | rfl <;> rfl
  · simp [updV, upd, hq]
theorem J_last {a : Nat} {i : Int32} {x : Int64} {h' : Hp} (hd : decode cc pc = .ok (.lastore, 1)) (hg : wJ K h a i x = some h')
    (kk : J l K own cc nL ret Ts hh nm fr lo mc ms Qf (pc + 1) rest lv h' kc ks) : J l K own cc nL ret Ts hh nm fr lo mc ms Qf pc (.long x :: .int i :: .ref a :: rest) lv h kc ks := by
  intro p e s m args below meth c ok H locs ls hR hS hl
  obtain ⟨n, f, he, hi, rfl⟩ := wJ_spec hg
  obtain ⟨hb, hat⟩ := hR.at he (xJ_in hi)
  refine W.last ok.1 ok.2.1 hat ((ok.2.2.2.2.2.2.2.2.2.1.1.2 1 _ rfl).1 n (fun j => .long (f j))) (fun q => by cases q) (by show ¬ (i < 0 ∨ (arrV _ _ _).slots.size ≤ _); rw [arrV_size]; exact hi) rfl rfl hd fun H1 e1 z oq => ?_
  refine kk p e s m args below meth c ok H1 _ ls (hR.upd hb z oq ?_) (hS.put z oq hb) hl
  show H1[a]? = some (vp_cell _ _)
  rw [e1, vp_cell_l, vp_cell_l, arrV_store]
  congr 2
  funext q
  by_cases hq : q = i.toNatClampNeg
  · subst hq
    simp [updV, vp_updL]
  · simp [updV, vp_updL, hq]
theorem J_aast {a t ci v : Nat} {i : Int32} {h' : Hp} {r : vw_C} (hd : decode cc pc = .ok (.aastore, 1)) (ht : (tyL K)[t]? = some (K.2.1 t, .object r.1)) (hc : vwCl[ci]? = some r) (hv : ∃ fs, h v = some (xO ci fs)) (hg : wQ K t h a i (some v) = some h')
    (kk : J l K own cc nL ret Ts hh nm fr lo mc ms Qf (pc + 1) rest lv h' kc ks) : J l K own cc nL ret Ts hh nm fr lo mc ms Qf pc (.ref v :: .int i :: .ref a :: rest) lv h kc ks := by
  intro p e s m args below meth c ok H locs ls hR hS hl
  obtain ⟨n, f, he, hi, rfl⟩ := wQ_spec hg
  obtain ⟨hb, hat⟩ := hR.at he xQ_ne
  obtain ⟨vs, hv⟩ := hv
  obtain ⟨r', hr', cellV, g1, g2, g3, -⟩ := (hR.at hv xO_ne).2
  have hK := ok.2.2.2.2.2.2.2.2.2.1.1
  have hlt : i.toNatClampNeg < n := Nat.not_le.mp fun q => hi (Or.inr q)
  have h0 : ¬ i < 0 := fun q => hi (Or.inl q)
  have hcls := (hK.1 ci r hc).2
  obtain ⟨kA, comp, k1, k2, k3, -⟩ := (hK.2 t _ ht).2
  have hcomp : comp = K.1.1 ci := Option.some.inj (k3.symm.trans hcls.1)
  subst hcomp
  obtain ⟨kC, hkC, -⟩ := hcls.2
  refine W.aast ok.1 ok.2.1 hat (fun q h => by cases h) (fun h => by cases h) k1 k2 rfl hkC ⟨h0, by show _ < (arrV _ _ _).slots.size; rw [arrV_size]; exact hlt⟩ g1 (fun q h => by rw [g3] at h; cases h) (by rw [g2]; exact hkC) (by rw [g2]; exact va_assign hcls) rfl rfl hd fun H1 e1 z oq => ?_
  refine kk p e s m args below meth c ok H1 _ ls (hR.upd hb z oq ?_) (hS.put z oq hb) hl
  show H1[a]? = some (vp_cell _ _)
  rw [e1, vp_cell_q, vp_cell_q, arrV_store]
  congr 2
  funext q
  by_cases hq : q = i.toNatClampNeg
  · subst hq
    simp [updV, va_up, va_rf]
  · simp [updV, va_up, hq]
theorem J_aastN {a t : Nat} {i : Int32} {h' : Hp} {C : String} (hd : decode cc pc = .ok (.aastore, 1)) (ht : (tyL K)[t]? = some (K.2.1 t, .object C)) (hg : wQ K t h a i none = some h')
    (kk : J l K own cc nL ret Ts hh nm fr lo mc ms Qf (pc + 1) rest lv h' kc ks) : J l K own cc nL ret Ts hh nm fr lo mc ms Qf pc (va_rf none :: .int i :: .ref a :: rest) lv h kc ks := by
  intro p e s m args below meth c ok H locs ls hR hS hl
  obtain ⟨n, f, he, hi, rfl⟩ := wQ_spec hg
  obtain ⟨hb, hat⟩ := hR.at he xQ_ne
  have hK := ok.2.2.2.2.2.2.2.2.2.1.1
  refine va_WaastN (C := C) ok.1 ok.2.1 hat ((hK.2 t _ ht).1 n (fun j => va_rf (f j))) (fun h => by cases h) (by show ¬ (i < 0 ∨ (arrV _ _ _).slots.size ≤ _); rw [arrV_size]; exact hi) rfl rfl hd fun H1 e1 z oq => ?_
  refine kk p e s m args below meth c ok H1 _ ls (hR.upd hb z oq ?_) (hS.put z oq hb) hl
  show H1[a]? = some (vp_cell _ _)
  rw [e1, vp_cell_q, vp_cell_q, arrV_store]
  congr 2
  funext q
  by_cases hq : q = i.toNatClampNeg
  · subst hq
    simp [updV, va_up, va_rf]
  · simp [updV, va_up, hq]
/-- any reference into a row of its kind -/
theorem J_aastq {a t ci : Nat} {x : Option Nat} {i : Int32} {h' : Hp} {r : vw_C} (hd : decode cc pc = .ok (.aastore, 1)) (ht : (tyL K)[t]? = some (K.2.1 t, .object r.1)) (hc : vwCl[ci]? = some r) (hv : ∀ v, x = some v → ∃ fs, h v = some (xO ci fs)) (hg : wQ K t h a i x = some h')
    (kk : J l K own cc nL ret Ts hh nm fr lo mc ms Qf (pc + 1) rest lv h' kc ks) : J l K own cc nL ret Ts hh nm fr lo mc ms Qf pc (va_rf x :: .int i :: .ref a :: rest) lv h kc ks := by
  cases x with
  | none => exact J_aastN hd ht hg kk
  | some v => exact J_aast hd ht hc (hv v rfl) hg kk
theorem J_putF {ci k a N idx : Nat} {C : String} {T : u_T} {v : Value} {ty : FieldType} {h' : Hp} (hd : decode cc pc = .ok (.putfield idx, 3)) (hc : vwCl[ci]? = some (C, T, N)) (hin : ∀ w ∈ u_ws C T N, w ∈ Ts) (ty0 : Nat → FieldType) (hty : ∀ k, k < N → parseFieldDescriptor (T k).2.2.1 = some (ty0 k)) (hnm : ∀ a, a < N → ∀ b, b < N → a ≠ b → (T a).2.1 ≠ (T b).2.1)
    (hk : k < N) (hl0 : Cond.fieldLink own idx (T k).1 (T k).2.1 (T k).2.2.1 ∈ Ts) (hfin : (T k).2.2.2 = true) (hin2 : nm = "<init>") (hdecl : (T k).1 = own) (hty1 : ty0 k = ty) (hn : narrow ty v = v) (hfit : fits ty v = true) (hg : pf h a ci k v = some h')
    (kk : J l K own cc nL ret Ts hh nm fr lo mc ms Qf (pc + 3) rest lv h' kc ks) : J l K own cc nL ret Ts hh nm fr lo mc ms Qf pc (v :: .ref a :: rest) lv h kc ks := by
  intro p e s m args below meth c ok H locs ls hR hS hl
  obtain ⟨fs, he, hlen, rfl⟩ := pf_spec hg
  obtain ⟨hb, hat⟩ := hR.at he (fun f e => by cases e)
  have hts := ok.2.2.2.2.1
  have hK := ok.2.2.2.2.2.2.2.2.2.1.1
  have hown := ok.2.2.2.1
  have hap := va_apart (own := own) hts hin ty0 hty hnm hK hc
  obtain ⟨r, h1, cell, q1, q2, q3, q4⟩ := hat
  have hr : r = (C, T, N) := Option.some.inj (h1.symm.trans hc)
  subst hr
  obtain ⟨hSl, hfc, kC, hkC, hkind⟩ := hK.1 ci _ hc
  obtain ⟨cf, kf, fi, f, hi, hsl⟩ := hSl k hk
  have hlay := hts _ (hin _ (u_in_lay hk))
  unfold u_lay at hlay
  rw [if_pos hfin] at hlay
  have hst := (u_facts hfc hkC (u_lays hts hin hk) hi).1
  have hcf : m.cls = cf := by
    obtain ⟨_, _, c', _, _, _, -, -, hf', -, -, -, hown2, -⟩ := Cond.laysFinal_spec hlay
    have e1 : c' = cf := by have := hi.symm.trans hf'; simp at this; exact this.1.symm
    rw [hdecl] at hown2
    rw [← e1]; exact Option.some.inj (hown.symm.trans hown2)
  have h6 := u_fits hfc hkC hkind (Or.inr hlay) hi (ty := ty) (by rw [← hty1]; exact hty k hk) hn hfit
  refine W.putFinK ok.1 ok.2.1 hown (hts _ hl0) hi hst hcf (ok.2.2.2.2.2.2.2.1.trans hin2) (by rw [q2]; exact h6) q1 q3 (by rw [hsl]; exact k2_hasslot (q4 k hk)) rfl rfl hd fun H' e1 e2 e3 => ?_
  rw [hsl] at e1 ⊢
  refine kk p e s m args below meth c ok H' _ ls (hR.upd hb e2 e3 ⟨_, hc, t_OB.to (V := updV (vp_V fs) k v) ⟨_, e1, q2, q3, t_set q4 hap hk v⟩ (fun j _ => vp_updV_set hlen v j)⟩) (hS.put e2 e3 hb) hl
/-- new -/
theorem J_new {ci N idx : Nat} {C : String} {T : u_T} {fs : List Value} (hd : decode cc pc = .ok (.new idx, 3)) (hc : vwCl[ci]? = some (C, T, N)) (hin : ∀ w ∈ u_ws C T N, w ∈ Ts) (ty : Nat → FieldType) (hty : ∀ k, k < N → parseFieldDescriptor (T k).2.2.1 = some (ty k))
    (hcl : Cond.classLink own idx C ∈ Ts) (hinst : Cond.instantiable C N ∈ Ts) (hini : Cond.initialized C ∈ Ts) (hfs : ∀ j, j < N → defaultValue (ty j) = vp_V fs j) (h1 : kc + 1 ≤ mc) (h2 : ks + N ≤ ms)
    (kk : ∀ q, h q = none → kB K ≤ q → J l K own cc nL ret Ts hh nm fr lo mc ms Qf (pc + 3) (.ref q :: rest) lv (va_up h q (some (xO ci fs))) (kc + 1) (ks + N)) : J l K own cc nL ret Ts hh nm fr lo mc ms Qf pc rest lv h kc ks := by
  intro p e s m args below meth c ok H locs ls hR hS hl
  have hts := ok.2.2.2.2.1
  have hKn := ok.2.2.2.2.2.2.2.2.2.1.1.1 ci _ hc
  refine W.newcK ok.1 ok.2.1 ok.2.2.2.1 (hts _ hcl) (hts _ hinst) (hts _ hini) rfl hd h1 h2 hKn.2.1 rfl fun H1 kC hkC e1 z1 o1 => ?_
  refine kk H.size hR.fresh hR.2.1 p e s m args below meth c ok H1 _ ls (hR.push z1 o1 ?_) (hS.new z1 o1) hl
  exact ⟨_, hc, (u_born ty hts hin hKn hkC e1 hty).to hfs⟩
/-- rows of numbers -/
theorem J_newa {t : Nat} {atype : ArrayType} {n : Int32} {N' : Nat} {ty : FieldType} {a0 : vp_A} (hd : decode cc pc = .ok (.newarray atype, 2)) (harr : Cond.arrayClass (newarray.typeOf atype) ∈ Ts) (hty : newarray.typeOf atype = ty) (ht : (tyL K)[t]? = some (K.2.1 t, ty))
    (hra : ∀ (U : State) (cA : ClassId), va_RA U cA ty → U.vm.findClass ("[" ++ ty.toString) = some cA) (ha : ∀ cA : ClassId, vp_cell cA a0 = arrV cA N' (fun _ => defaultValue ty)) (hn : n = nI N') (hN : N' ≤ 60000000) (hb8 : componentBytes ty ≤ 8) (h1 : kc + 1 ≤ mc) (h2 : ks + N' ≤ ms)
    (kk : ∀ q, h q = none → kB K ≤ q → J l K own cc nL ret Ts hh nm fr lo mc ms Qf (pc + 2) (.ref q :: rest) lv (va_up h q (some (.inl (K.2.1 t, a0)))) (kc + 1) (ks + N')) : J l K own cc nL ret Ts hh nm fr lo mc ms Qf pc (.int n :: rest) lv h kc ks := by
  intro p e s m args below meth c ok H locs ls hR hS hl
  subst hty
  subst hn
  have hbt : N' * componentBytes (newarray.typeOf atype) ≤ 536870912 := by
    have := Nat.mul_le_mul_left N' hb8
    omega
  refine va_newaK ok.1 ok.2.1 (ok.2.2.2.2.1 _ harr) rfl hd rfl (nI_pos (by omega)) (nI_clamp (by omega)) hbt h1 h2 rfl fun H1 cA e1 z1 o1 hAr hNm => ?_
  have hcA : cA = K.2.1 t := Option.some.inj (hNm.symm.trans (hra s _ (ok.2.2.2.2.2.2.2.2.2.1.1.2 t _ ht).2))
  subst hcA
  refine kk H.size hR.fresh hR.2.1 p e s m args below meth c ok H1 _ ls (hR.push z1 o1 ?_) (hS.new z1 o1) hl
  show H1[H.size]? = some (vp_cell _ _)
  rw [ha]
  exact e1
theorem ra_i (U : State) (cA : ClassId) (h : va_RA U cA .int) : U.vm.findClass ("[" ++ FieldType.int.toString) = some cA := h
theorem ra_j (U : State) (cA : ClassId) (h : va_RA U cA .long) : U.vm.findClass ("[" ++ FieldType.long.toString) = some cA := h
theorem ra_z (U : State) (cA : ClassId) (h : va_RA U cA .boolean) : U.vm.findClass ("[" ++ FieldType.boolean.toString) = some cA := h
/-- rows of references -/
theorem J_anew {t idx : Nat} {n : Int32} {N' : Nat} {C : String} (hd : decode cc pc = .ok (.anewarray idx, 3)) (hcl : Cond.classLink own idx C ∈ Ts) (ht : (tyL K)[t]? = some (K.2.1 t, .object C)) (hov : ∀ U, KU K U → va_AO C U) (hn : n = nI N') (hN : N' ≤ 60000000) (h1 : kc + 1 ≤ mc) (h2 : ks + N' ≤ ms)
    (kk : ∀ q, h q = none → kB K ≤ q → J l K own cc nL ret Ts hh nm fr lo mc ms Qf (pc + 3) (.ref q :: rest) lv (va_up h q (some (xQ K t N' (fun _ => none)))) (kc + 1) (ks + N')) : J l K own cc nL ret Ts hh nm fr lo mc ms Qf pc (.int n :: rest) lv h kc ks := by
  intro p e s m args below meth c ok H locs ls hR hS hl
  subst hn
  have hcl9 : (nI N').toNatClampNeg = N' := nI_clamp (by omega)
  refine W.anew ok.1 ok.2.1 ok.2.2.2.1 (ok.2.2.2.2.1 _ hcl) (va_AO.use (hov s ok.2.2.2.2.2.2.2.2.2.1)) rfl hd rfl (nI_pos (by omega)) (by rw [hcl9]; omega) h1 (by rw [hcl9]; exact h2) fun cA kA comp f1 f2 f3 f4 => ?_
  rw [hcl9]
  generalize hH1 : H.push ({ cls := cA, slots := Array.replicate N' .null, vm := .none } : Cell) = H1
  have z1 : H1.size = H.size + 1 := by rw [← hH1, Array.size_push]
  have e1 : H1[H.size]? = some (arrV cA N' (fun _ => .null)) := by rw [← hH1, Array.getElem?_push_size, ← arrV_new]
  have o1 : ∀ q : Nat, q < H.size → H1[q]? = H[q]? := fun q hq => by rw [← hH1, Array.getElem?_push, if_neg (Nat.ne_of_lt hq)]
  obtain ⟨kA2, comp2, g1, g2, g3, g4⟩ := (ok.2.2.2.2.2.2.2.2.2.1.1.2 t _ ht).2
  have hcA : cA = K.2.1 t := Option.some.inj (f1.symm.trans g4)
  subst hcA
  refine kk H.size hR.fresh hR.2.1 p e s m args below meth c ok H1 _ ls (hR.push z1 o1 ?_) (hS.new z1 o1) hl
  show H1[H.size]? = some (vp_cell _ _)
  rw [vp_cell_q]
  exact e1
/-- Object's constructor -/
theorem J_objInit {a idx : Nat} (hd : decode cc pc = .ok (.invokespecial idx, 3)) (hl1 : Cond.methodLink own idx Lib.objectInit ∈ Ts) (hl2 : Cond.instanceMethod Lib.objectInit ∈ Ts) (hl3 : Cond.code Lib.objectInit ⟨#[0xb1]⟩ 1 none ∈ Ts) (hf : 1 ≤ fr) (ho : (rest.map fun v => v.category).sum + 12 ≤ lo)
    (kk : J l K own cc nL ret Ts hh nm fr lo mc ms Qf (pc + 3) rest lv h kc ks) : J l K own cc nL ret Ts hh nm fr lo mc ms Qf pc (.ref a :: rest) lv h kc ks := by
  intro p e s m args below meth c ok H locs ls hR hS hl
  refine W.objInit ok.1 ok.2.1 ok.2.2.2.1 (ok.2.2.2.2.1 _ hl1) (ok.2.2.2.2.1 _ hl2) (ok.2.2.2.2.1 _ hl3) rfl (by rw [ok.2.2.1]; exact hl.1) rfl hd hf (by show 2 * 0 + _ + 12 ≤ lo; omega) ?_
  exact kk p e s m args below meth c ok H locs ls hR hS hl
theorem J_ldc2 {idx : Nat} {v : Int64} (hd : decode cc pc = .ok (.ldc2_w idx, 3)) (hc : Cond.constantLong own idx v ∈ Ts) (kk : J l K own cc nL ret Ts hh nm fr lo mc ms Qf (pc + 3) (.long v :: rest) lv h kc ks) : J l K own cc nL ret Ts hh nm fr lo mc ms Qf pc rest lv h kc ks :=
  fun p e s m args below meth c ok H locs ls hR hS hl => lv_ldc2 ok.1 ok.2.1 ok.2.2.2.1 (ok.2.2.2.2.1 _ hc) hd (kk p e s m args below meth c ok H locs ls hR hS hl)
theorem J_gets {idx : Nat} (hd : decode cc pc = .ok (.getstatic idx, 3)) (hl0 : Cond.fieldLink own idx "KeyStates" "EMPTY" "[J" ∈ Ts) (kk : J l K own cc nL ret Ts hh nm fr lo mc ms Qf (pc + 3) (.ref K.2.2.2 :: rest) lv h kc ks) : J l K own cc nL ret Ts hh nm fr lo mc ms Qf pc rest lv h kc ks :=
  fun p e s m args below meth c ok H locs ls hR hS hl => va_gets ok.1 ok.2.1 (KU.z ok.2.2.2.2.2.2.2.2.2.2.2.1 ok.2.2.2.2.2.2.2.2.2.2.2.2 ok.2.2.2.2.2.2.2.2.2.1.2.2.2.1) hS ok.2.2.2.1 (ok.2.2.2.2.1 _ hl0) (fun _ h9 => h9) hd (kk p e s m args below meth c ok H locs ls hR hS hl)
theorem J_getsN {idx : Nat} (hd : decode cc pc = .ok (.getstatic idx, 3)) (hl0 : (own, idx, "KeyStates", "EMPTY", "[J", "KeyStates") ∈ nestF) (kk : J l K own cc nL ret Ts hh nm fr lo mc ms Qf (pc + 3) (.ref K.2.2.2 :: rest) lv h kc ks) : J l K own cc nL ret Ts hh nm fr lo mc ms Qf pc rest lv h kc ks :=
  fun p e s m args below meth c ok H locs ls hR hS hl => va_getsN ok.1 ok.2.1 (KU.z ok.2.2.2.2.2.2.2.2.2.2.2.1 ok.2.2.2.2.2.2.2.2.2.2.2.2 ok.2.2.2.2.2.2.2.2.2.1.2.2.2.1) hS ok.2.2.2.1 (va_Nw.use rfl (ok.2.2.2.2.2.2.2.2.2.1.2.2.2.2.1 _ hl0)) (fun _ h9 => h9) hd (kk p e s m args below meth c ok H locs ls hR hS hl)
/-- switches -/
theorem J_tableOut {dflt lo9 hi : Int} {offs : Array Int} {len : Nat} {x : Int32} {tgt : Nat} (hd : decode cc pc = .ok (.tableswitch dflt lo9 hi offs, len)) (h1 : x.toInt < lo9 ∨ hi < x.toInt) (ht : (pc : Int) + dflt = (tgt : Int))
    (kk : J l K own cc nL ret Ts hh nm fr lo mc ms Qf tgt rest lv h kc ks) : J l K own cc nL ret Ts hh nm fr lo mc ms Qf pc (.int x :: rest) lv h kc ks :=
  fun p e s m args below meth c ok H locs ls hR hS hl => lv_tableOut ok.1 ok.2.1 hd h1 ht (kk p e s m args below meth c ok H locs ls hR hS hl)
theorem J_tableIn {dflt lo9 hi : Int} {offs : Array Int} {len : Nat} {x : Int32} {off : Int} {tgt : Nat} (hd : decode cc pc = .ok (.tableswitch dflt lo9 hi offs, len)) (h1 : ¬ x.toInt < lo9) (h2 : ¬ hi < x.toInt) (h3 : offs[(x.toInt - lo9).toNat]? = some off) (ht : (pc : Int) + off = (tgt : Int))
    (kk : J l K own cc nL ret Ts hh nm fr lo mc ms Qf tgt rest lv h kc ks) : J l K own cc nL ret Ts hh nm fr lo mc ms Qf pc (.int x :: rest) lv h kc ks :=
  fun p e s m args below meth c ok H locs ls hR hS hl => lv_tableIn ok.1 ok.2.1 hd h1 h2 h3 ht (kk p e s m args below meth c ok H locs ls hR hS hl)
/-- what a call that has come back gives the caller's walk -/
theorem J_run {p : Program} {e : Env} {s : State} {m : MethodId} {args : Array Value} {below : List Frame} {meth : Method} {c : Code} (ok : OkB l K own cc nL ret Ts hh nm p s m args meth c) {H : Heap} {locs : List Loc} {ls : Array Slot} (hS : va_S (Ax K) s.heap H locs) (hl : lv_has ls nL lv)
    {mc' ms' : Nat} {st0 : List Value} {P : Rs → Hp → Prop} {a : Array Value} (hr : vx_Run p l e (rmx fr lo mc ms) s m args below meth c H locs kc ks mc' ms' (F0 m pc ls st0) rest (Qcx K P a) (Xcx K P) (Ax K))
    (kk : ∀ (v : Option Value) (h' : Hp), P (.inl v) h' → J l K own cc nL ret Ts hh nm fr lo mc ms Qf (pc + 3) (v.toList ++ rest) lv h' (kc + mc') (ks + ms'))
    (kx : ∀ (E : String) (h' : Hp) (ce : Cell) (q9 : Addr) (H1 : Heap) (locs1 : List Loc), P (.inr E) h' → Rp K h' H1 → va_S (Ax K) s.heap H1 locs1 → H1[q9]? = some ce → ce.vm = .none → s.vm.findClass E = some ce.cls → vx_W p l e (rmx fr lo mc ms) s m args below meth c H1 locs1 (kc + mc') (ks + ms') (Qf s args below) (F0 m pc ls rest) q9) :
    W p l e (rmx fr lo mc ms) s m args below meth c H locs kc ks (Qf s args below) (F0 m pc ls st0) := by
  intro T hT X
  rcases hr T hT X with ⟨v, st₀, t, T', L, h0, X', hL, e1, e2, ⟨⟨v', h', hv, hp, hR'⟩, hF⟩, st⟩ | ⟨q, st₀, t, T', L, E, ce, h0, X', hL, e1, e2, ⟨⟨h', hp, hR'⟩, hF⟩, hce, hcv, hcl, st⟩
  · cases hv
    obtain ⟨k1, k2, k3⟩ := vx_keep h0 e1 hS (fun _ _ h => h) (fun _ h => h) hL hF
    obtain ⟨t2, a1, b1⟩ := kk v h' hp p e s m args below meth c ok T'.heap (locs ++ L) ls (by rw [e1]; exact hR') k3 hl T' rfl X'
    exact ⟨t2, st t2 a1, b1⟩
  · obtain ⟨k1, k2, k3⟩ := vx_keep h0 e1 hS (fun _ _ h => h) (fun _ h => h) hL hF
    obtain ⟨t2, a1, b1⟩ := kx E h' ce q T'.heap (locs ++ L) hp (by rw [e1]; exact hR') k3 (by rw [e1]; exact hce) hcv hcl T' rfl X'
    exact ⟨t2, st.trans a1, b1⟩
/-- an exception that no handler takes -/
theorem J_out {p : Program} {e : Env} {s : State} {m : MethodId} {args : Array Value} {below : List Frame} {meth : Method} {c : Code} {Post : Rs → Hp → Prop} (ok : OkB l K own cc nL ret Ts [] nm p s m args meth c) {H : Heap} {locs : List Loc} {ls : Array Slot} (hR : Rp K h H) (hS : va_S (Ax K) s.heap H locs) {E : String} {ce : Cell} {q : Addr} (hcell : H[q]? = some ce) (hv : ce.vm = .none) (hcl : s.vm.findClass E = some ce.cls)
    (hp : Post (.inr E) h) (h1 : kc ≤ mc) (h2 : ks ≤ ms) : vx_W p l e (rmx fr lo mc ms) s m args below meth c H locs kc ks (QM K mc ms Post s args below) (F0 m pc ls rest) q := by
  refine vx_out (fun x hx => ?_) ok.2.2.2.2.2.1 hcell hv hcl (fun t ht hA => ⟨⟨h, hp, by rw [ht]; exact hR⟩, hS.F ht⟩) hS.2.2 h1 h2
  rw [ok.2.2.2.2.2.2.2.2.1] at hx
  cases hx
abbrev fitR (fr lo frc loc nLc : Nat) : Prop := frc + 1 ≤ fr ∧ 8 + (nLc + 11) + loc ≤ lo
theorem preV_of {s : State} {H : Heap} {ci b : Nat} {fs : List Value} {r : vw_C} {As : List Value} (hK : KU K s) (hR : Rp K h H) (hc : vwCl[ci]? = some r) (hb : h b = some (xO ci fs)) : PreV s H r.1 b (Pcx K (.ref b :: As) h) As := by
  refine ⟨Pcx.blind, ?_, fun U hU hW => ⟨rfl, hK.warm hW, by rw [hU]; exact hR⟩⟩
  obtain ⟨-, r', hr', cell, g1, g2, g3, -⟩ := hR.at hb (fun f e => by cases e)
  exact ⟨cell, g1, by rw [g3]; rfl, by rw [g2]; exact (hK.1.1 ci r hc).2.1⟩
set_option maxHeartbeats 4000000 in
/-- invokevirtual, of a method with no handlers, in a body with none -/
theorem J_callV {idx ci b frc loc nLc mc' ms' n : Nat} {y : MethodName} {bytes : ByteArray} {retc : Option FieldType} {wsy wsy' : List Cond} {As : List Value} {P Post : Rs → Hp → Prop} {r : vw_C} (hd : decode cc pc = .ok (.invokevirtual idx, 3)) (hc : vwCl[ci]? = some r) (hG : GoodIn Ts (wsV own idx r.1 y wsy)) (hw : wsy = Cond.code y bytes nLc retc :: wsy')
    (hdd : y.cls = r.1 ∧ y.cls ≠ "java/lang/invoke/MethodHandle" ∧ y.cls ≠ "java/lang/invoke/VarHandle" ∧ (parseMethodDescriptor y.desc).map (fun d => d.parameters.length) = some n) (hn : As.length = n) (hfit : fitR fr lo frc loc nLc) (hb : ∃ fs, h b = some (xO ci fs)) (hrest : (rest.map fun v => v.category).sum ≤ 8)
    (h1 : kc + mc' ≤ mc) (h2 : ks + ms' ≤ ms) (hM : MX l K y wsy frc loc mc' ms' (.ref b :: As) h P)
    (kk : ∀ (v : Option Value) (h' : Hp), P (.inl v) h' → J l K own cc nL ret Ts [] nm fr lo mc ms (QM K mc ms Post) (pc + 3) (v.toList ++ rest) lv h' (kc + mc') (ks + ms'))
    (kx : ∀ (E : String) (h' : Hp), P (.inr E) h' → Post (.inr E) h') : J l K own cc nL ret Ts [] nm fr lo mc ms (QM K mc ms Post) pc (As.reverse ++ .ref b :: rest) lv h kc ks := by
  intro p e s m args below meth c ok H locs ls hR hS hl
  obtain ⟨fs, hb⟩ := hb
  refine J_run ok hS hl (vx_runV (As := As) (rest := rest) (Ts := Ts) (own := own) ⟨ok.1, ok.2.1, ok.2.2.1, ok.2.2.2.1, ok.2.2.2.2.1⟩ hM (cwV n ok.2.2.2.2.1 hG hw rfl rfl hdd hfit) (preV_of ok.2.2.2.2.2.2.2.2.2.1 hR hc hb) rfl hn hl.1 rfl (lv_room hrest) hd ⟨h1, h2⟩) kk ?_
  intro E h' ce q9 H1 locs1 hp hR1 hS1 g1 g2 g3
  exact J_out ok hR1 hS1 g1 g2 g3 (kx E h' hp) h1 h2
set_option maxHeartbeats 4000000 in
/-- invokestatic -/
theorem J_callS {idx frc loc nLc mc' ms' n : Nat} {y : MethodName} {bytes : ByteArray} {retc : Option FieldType} {wsy wsy' : List Cond} {As : List Value} {P Post : Rs → Hp → Prop} (hd : decode cc pc = .ok (.invokestatic idx, 3)) (hG : GoodIn Ts (va_wsS own idx y wsy)) (hw : wsy = Cond.code y bytes nLc retc :: wsy')
    (hdd : y.cls ≠ "java/lang/invoke/MethodHandle" ∧ y.cls ≠ "java/lang/invoke/VarHandle" ∧ (parseMethodDescriptor y.desc).map (fun d => d.parameters.length) = some n) (hn : As.length = n) (hfit : fitR fr lo frc loc nLc) (hrest : (rest.map fun v => v.category).sum ≤ 8)
    (h1 : kc + mc' ≤ mc) (h2 : ks + ms' ≤ ms) (hM : MX l K y wsy frc loc mc' ms' As h P)
    (kk : ∀ (v : Option Value) (h' : Hp), P (.inl v) h' → J l K own cc nL ret Ts [] nm fr lo mc ms (QM K mc ms Post) (pc + 3) (v.toList ++ rest) lv h' (kc + mc') (ks + ms'))
    (kx : ∀ (E : String) (h' : Hp), P (.inr E) h' → Post (.inr E) h') : J l K own cc nL ret Ts [] nm fr lo mc ms (QM K mc ms Post) pc (As.reverse ++ rest) lv h kc ks := by
  intro p e s m args below meth c ok H locs ls hR hS hl
  have hts := ok.2.2.2.2.1
  have okw : ∀ w ∈ va_wsS own idx y wsy, w.before args s = true := fun w h => hts w (hG w h).1
  have hG2 : GoodIn Ts wsy := fun w h => hG w (by unfold va_wsS; exact List.mem_append_right _ h)
  have hcm : Cond.code y bytes nLc retc ∈ wsy := by rw [hw]; exact List.mem_cons_self
  have cb : CallB (rmx fr lo mc ms) s args own idx y bytes nLc retc wsy (rmx frc loc mc' ms') mc' ms' n ∧ (Cond.static y).before args s = true := by
    refine ⟨⟨rfl, rfl, hfit.1, hfit.2, pay_in hts hG2, hcm, hts _ (hG2 _ hcm).1, okw _ (by simp [va_wsS]), ⟨hdd.1, hdd.2.1⟩, fun sig h => ?_, okw _ (by simp [va_wsS])⟩, okw _ (by simp [va_wsS])⟩
    have h2 := hdd.2.2
    rw [h] at h2
    exact (Option.some.inj h2).symm
  refine J_run ok hS hl (vx_runS (As := As) (rest := rest) (Ts := Ts) (own := own) ⟨ok.1, ok.2.1, ok.2.2.1, ok.2.2.2.1, ok.2.2.2.2.1⟩ hM cb ⟨Pcx.blind, fun U hU hW => ⟨rfl, ok.2.2.2.2.2.2.2.2.2.1.warm hW, by rw [hU]; exact hR⟩⟩ rfl hn hl.1 rfl (lv_room hrest) hd ⟨h1, h2⟩) kk ?_
  intro E h' ce q9 H1 locs1 hp hR1 hS1 g1 g2 g3
  exact J_out ok hR1 hS1 g1 g2 g3 (kx E h' hp) h1 h2
end Mem
end
section
/-! ===== calls of methods that don't throw; copies; throws; bodies with handlers ===== -/
theorem MX.met {l : Launch} {K : Kx} {y : MethodName} {ws : List Cond} {fr lo mc ms : Nat} {As : List Value} {h : Hp} {P : Rs → Hp → Prop} (m : MX l K y ws fr lo mc ms As h P) (hx : ∀ E h', ¬ P (.inr E) h') : Met l y ws (rmx fr lo mc ms) (Pcx K As h) (Qcx K P) mc ms (Ax K) := by
  intro p e a1 a2 a3 s m0 args below a4 a5 a6 a7
  obtain ⟨n, o, b1, b2, b3, b4⟩ := m p e a1 a2 a3 s m0 args below a4 a5 a6 a7
  refine ⟨n, o, b1, b2, b3, ?_⟩
  rcases b4 with b4 | ⟨q, c0, E, ce, L, ⟨⟨h', c1, c2⟩, cF⟩, c3⟩
  · exact b4
  · exact absurd c1 (hx E h')
section Mem2
variable {l : Launch} {K : Kx} {own : String} {cc : ByteArray} {nL : Nat} {ret : Option FieldType} {Ts : List Cond} {hh : List (Nat × Nat × Nat × Nat)} {nm : String} {fr lo mc ms : Nat} {Qf : State → Array Value → List Frame → State → Prop} {pc : Nat} {rest : List Value} {lv lv' : List (Nat × Value)} {h : Hp} {kc ks : Nat}
theorem J_run0 {p : Program} {e : Env} {s : State} {m : MethodId} {args : Array Value} {below : List Frame} {meth : Method} {c : Code} (ok : OkB l K own cc nL ret Ts hh nm p s m args meth c) {H : Heap} {locs : List Loc} {ls : Array Slot} (hS : va_S (Ax K) s.heap H locs) (hl : lv_has ls nL lv)
    {mc' ms' : Nat} {st0 : List Value} {P : Rs → Hp → Prop} {a : Array Value} (hr : va_Run p l e (rmx fr lo mc ms) s m args below meth c H locs kc ks mc' ms' (F0 m pc ls st0) rest (Qcx K P a) (Ax K))
    (kk : ∀ (v : Option Value) (h' : Hp), P (.inl v) h' → J l K own cc nL ret Ts hh nm fr lo mc ms Qf (pc + 3) (v.toList ++ rest) lv h' (kc + mc') (ks + ms')) :
    W p l e (rmx fr lo mc ms) s m args below meth c H locs kc ks (Qf s args below) (F0 m pc ls st0) := by
  intro T hT X
  obtain ⟨v, st₀, t, T', L, h0, X', hL, e1, e2, ⟨⟨v', h', hv, hp, hR'⟩, hF⟩, st⟩ := hr T hT X
  cases hv
  obtain ⟨k1, k2, k3⟩ := vx_keep h0 e1 hS (fun _ _ h => h) (fun _ h => h) hL hF
  obtain ⟨t2, a1, b1⟩ := kk v h' hp p e s m args below meth c ok T'.heap (locs ++ L) ls (by rw [e1]; exact hR') k3 hl T' rfl X'
  exact ⟨t2, st t2 a1, b1⟩
set_option maxHeartbeats 4000000 in
/-- invokespecial of a constructor -/
theorem J_callI {idx b frc loc nLc mc' ms' n : Nat} {y : MethodName} {bytes : ByteArray} {wsy wsy' : List Cond} {As : List Value} {P : Rs → Hp → Prop} (hd : decode cc pc = .ok (.invokespecial idx, 3)) (hG : GoodIn Ts wsy) (hw : wsy = Cond.code y bytes nLc none :: wsy') (hini : Cond.initialized y.cls ∈ Ts) (hlk : Cond.methodLink own idx y ∈ Ts) (hin : Cond.instanceMethod y ∈ Ts) (hy1 : y.name = "<init>")
    (hdd : y.cls ≠ "java/lang/invoke/MethodHandle" ∧ y.cls ≠ "java/lang/invoke/VarHandle" ∧ (parseMethodDescriptor y.desc).map (fun d => d.parameters.length) = some n) (hn : As.length = n) (hfit : fitR fr lo frc loc nLc) (hrest : (rest.map fun v => v.category).sum ≤ 8)
    (h1 : kc + mc' ≤ mc) (h2 : ks + ms' ≤ ms) (hM : MX l K y wsy frc loc mc' ms' (.ref b :: As) h P) (hx : ∀ E h', ¬ P (.inr E) h')
    (kk : ∀ (v : Option Value) (h' : Hp), P (.inl v) h' → J l K own cc nL ret Ts hh nm fr lo mc ms Qf (pc + 3) (v.toList ++ rest) lv h' (kc + mc') (ks + ms')) : J l K own cc nL ret Ts hh nm fr lo mc ms Qf pc (As.reverse ++ .ref b :: rest) lv h kc ks := by
  intro p e s m args below meth c ok H locs ls hR hS hl
  have hts := ok.2.2.2.2.1
  exact J_run0 ok hS hl (va_runI (As := As) (rest := rest) (Ts := Ts) (own := own) ⟨ok.1, ok.2.1, ok.2.2.1, ok.2.2.2.1, ok.2.2.2.2.1⟩ (hM.met hx) (cwI n hts hG hw rfl rfl (hts _ hini) (hts _ hlk) (hts _ hin) hy1 hdd hfit) ⟨Pcx.blind, fun U hU hW => ⟨rfl, ok.2.2.2.2.2.2.2.2.2.1.warm hW, by rw [hU]; exact hR⟩⟩ rfl hn hl.1 rfl (lv_room hrest) hd ⟨h1, h2⟩) kk
set_option maxHeartbeats 4000000 in
/-- the same, of a nest mate's private one -/
theorem J_callIN {idx b frc loc nLc mc' ms' n : Nat} {y : MethodName} {host : String} {bytes : ByteArray} {wsy wsy' : List Cond} {As : List Value} {P : Rs → Hp → Prop} (hd : decode cc pc = .ok (.invokespecial idx, 3)) (hG : GoodIn Ts wsy) (hw : wsy = Cond.code y bytes nLc none :: wsy') (hini : Cond.initialized y.cls ∈ Ts) (hlk : (own, idx, y, host) ∈ nestM) (hin : Cond.instanceMethod y ∈ Ts) (hy1 : y.name = "<init>")
    (hdd : y.cls ≠ "java/lang/invoke/MethodHandle" ∧ y.cls ≠ "java/lang/invoke/VarHandle" ∧ (parseMethodDescriptor y.desc).map (fun d => d.parameters.length) = some n) (hn : As.length = n) (hfit : fitR fr lo frc loc nLc) (hrest : (rest.map fun v => v.category).sum ≤ 8)
    (h1 : kc + mc' ≤ mc) (h2 : ks + ms' ≤ ms) (hM : MX l K y wsy frc loc mc' ms' (.ref b :: As) h P) (hx : ∀ E h', ¬ P (.inr E) h')
    (kk : ∀ (v : Option Value) (h' : Hp), P (.inl v) h' → J l K own cc nL ret Ts hh nm fr lo mc ms Qf (pc + 3) (v.toList ++ rest) lv h' (kc + mc') (ks + ms')) : J l K own cc nL ret Ts hh nm fr lo mc ms Qf pc (As.reverse ++ .ref b :: rest) lv h kc ks := by
  intro p e s m args below meth c ok H locs ls hR hS hl
  have hts := ok.2.2.2.2.1
  exact J_run0 ok hS hl (va_runIN (As := As) (rest := rest) (Ts := Ts) (own := own) ⟨ok.1, ok.2.1, ok.2.2.1, ok.2.2.2.1, ok.2.2.2.2.1⟩ (hM.met hx) ⟨va_cnB n hts hG hw rfl rfl (ok.2.2.2.2.2.2.2.2.2.1.2.2.2.2.2.1 _ hlk) (hts _ hini) hdd hfit, hy1, hts _ hin⟩ ⟨Pcx.blind, fun U hU hW => ⟨rfl, ok.2.2.2.2.2.2.2.2.2.1.warm hW, by rw [hU]; exact hR⟩⟩ rfl hn hl.1 rfl (lv_room hrest) hd ⟨h1, h2⟩) kk
set_option maxHeartbeats 4000000 in
/-- a nest mate's private static one -/
theorem J_callSN {idx frc loc nLc mc' ms' n : Nat} {y : MethodName} {host : String} {bytes : ByteArray} {retc : Option FieldType} {wsy wsy' : List Cond} {As : List Value} {P : Rs → Hp → Prop} (hd : decode cc pc = .ok (.invokestatic idx, 3)) (hG : GoodIn Ts wsy) (hw : wsy = Cond.code y bytes nLc retc :: wsy') (hini : Cond.initialized y.cls ∈ Ts) (hlk : (own, idx, y, host) ∈ nestM) (hst : Cond.static y ∈ Ts)
    (hdd : y.cls ≠ "java/lang/invoke/MethodHandle" ∧ y.cls ≠ "java/lang/invoke/VarHandle" ∧ (parseMethodDescriptor y.desc).map (fun d => d.parameters.length) = some n) (hn : As.length = n) (hfit : fitR fr lo frc loc nLc) (hrest : (rest.map fun v => v.category).sum ≤ 8)
    (h1 : kc + mc' ≤ mc) (h2 : ks + ms' ≤ ms) (hM : MX l K y wsy frc loc mc' ms' As h P) (hx : ∀ E h', ¬ P (.inr E) h')
    (kk : ∀ (v : Option Value) (h' : Hp), P (.inl v) h' → J l K own cc nL ret Ts hh nm fr lo mc ms Qf (pc + 3) (v.toList ++ rest) lv h' (kc + mc') (ks + ms')) : J l K own cc nL ret Ts hh nm fr lo mc ms Qf pc (As.reverse ++ rest) lv h kc ks := by
  intro p e s m args below meth c ok H locs ls hR hS hl
  have hts := ok.2.2.2.2.1
  exact J_run0 ok hS hl (va_runSN (As := As) (rest := rest) (Ts := Ts) (own := own) ⟨ok.1, ok.2.1, ok.2.2.1, ok.2.2.2.1, ok.2.2.2.2.1⟩ (hM.met hx) ⟨va_cnB n hts hG hw rfl rfl (ok.2.2.2.2.2.2.2.2.2.1.2.2.2.2.2.1 _ hlk) (hts _ hini) hdd hfit, hts _ hst, trivial⟩ ⟨Pcx.blind, fun U hU hW => ⟨rfl, ok.2.2.2.2.2.2.2.2.2.1.warm hW, by rw [hU]; exact hR⟩⟩ rfl hn hl.1 rfl (lv_room hrest) hd ⟨h1, h2⟩) kk
theorem J_mmaxl {idx : Nat} {x y : Int64} (hd : decode cc pc = .ok (.invokestatic idx, 3)) (g1 : Cond.methodLink own idx Lib.MathLoose.max_long.x ∈ Ts) (g2 : Cond.static Lib.MathLoose.max_long.x ∈ Ts) (g3 : Cond.initialized "java/lang/Math" ∈ Ts) (g4 : Cond.code Lib.MathLoose.max_long.x Lib.MathLoose.max_long.code 4 (some .long) ∈ Ts)
    (hf : 1 ≤ fr) (ho : (rest.map fun v => v.category).sum + 15 ≤ lo) (h1 : kc ≤ mc) (h2 : ks ≤ ms) (kk : J l K own cc nL ret Ts hh nm fr lo mc ms Qf (pc + 3) (.long (if y < x then x else y) :: rest) lv h kc ks) : J l K own cc nL ret Ts hh nm fr lo mc ms Qf pc (.long y :: .long x :: rest) lv h kc ks :=
  fun p e s m args below meth c ok H locs ls hR hS hl => va_mmax_long ok.1 ok.2.1 (ok.2.2.1.trans hl.1.symm) ok.2.2.2.1 (ok.2.2.2.2.1 _ g1) (ok.2.2.2.2.1 _ g2) (ok.2.2.2.2.1 _ g3) (ok.2.2.2.2.1 _ g4) hf ho h1 h2 hd (kk p e s m args below meth c ok H locs ls hR hS hl)
theorem J_mminl {idx : Nat} {x y : Int64} (hd : decode cc pc = .ok (.invokestatic idx, 3)) (g1 : Cond.methodLink own idx Lib.MathLoose.min_long.x ∈ Ts) (g2 : Cond.static Lib.MathLoose.min_long.x ∈ Ts) (g3 : Cond.initialized "java/lang/Math" ∈ Ts) (g4 : Cond.code Lib.MathLoose.min_long.x Lib.MathLoose.min_long.code 4 (some .long) ∈ Ts)
    (hf : 1 ≤ fr) (ho : (rest.map fun v => v.category).sum + 15 ≤ lo) (h1 : kc ≤ mc) (h2 : ks ≤ ms) (kk : J l K own cc nL ret Ts hh nm fr lo mc ms Qf (pc + 3) (.long (if y < x then y else x) :: rest) lv h kc ks) : J l K own cc nL ret Ts hh nm fr lo mc ms Qf pc (.long y :: .long x :: rest) lv h kc ks :=
  fun p e s m args below meth c ok H locs ls hR hS hl => va_mmin_long ok.1 ok.2.1 (ok.2.2.1.trans hl.1.symm) ok.2.2.2.1 (ok.2.2.2.2.1 _ g1) (ok.2.2.2.2.1 _ g2) (ok.2.2.2.2.1 _ g3) (ok.2.2.2.2.1 _ g4) hf ho h1 h2 hd (kk p e s m args below meth c ok H locs ls hR hS hl)
theorem J_mmini {idx : Nat} {x y : Int32} (hd : decode cc pc = .ok (.invokestatic idx, 3)) (g1 : Cond.methodLink own idx Lib.Math.min.name ∈ Ts) (g2 : Cond.static Lib.Math.min.name ∈ Ts) (g3 : Cond.initialized "java/lang/Math" ∈ Ts) (g4 : Cond.code Lib.Math.min.name Lib.Math.min.code 2 (some .int) ∈ Ts)
    (hf : 1 ≤ fr) (ho : (rest.map fun v => v.category).sum + 13 ≤ lo) (h1 : kc ≤ mc) (h2 : ks ≤ ms) (kk : J l K own cc nL ret Ts hh nm fr lo mc ms Qf (pc + 3) (.int (if y < x then y else x) :: rest) lv h kc ks) : J l K own cc nL ret Ts hh nm fr lo mc ms Qf pc (.int y :: .int x :: rest) lv h kc ks :=
  fun p e s m args below meth c ok H locs ls hR hS hl => va_mmin ok.1 ok.2.1 (ok.2.2.1.trans hl.1.symm) ok.2.2.2.1 (ok.2.2.2.2.1 _ g1) (ok.2.2.2.2.1 _ g2) (ok.2.2.2.2.1 _ g3) (ok.2.2.2.2.1 _ g4) hf ho h1 h2 hd (kk p e s m args below meth c ok H locs ls hR hS hl)
set_option maxHeartbeats 4000000 in
/-- System.arraycopy of longs -/
theorem J_copyl {idx a0 a1 n0 n1 : Nat} {f g : Nat → Int64} {sp dp n : Int32} (hd : decode cc pc = .ok (.invokestatic idx, 3)) (g1 : Cond.methodLink own idx arraycopyName ∈ Ts) (g2 : Cond.native arraycopyName ∈ Ts) (g3 : Cond.static arraycopyName ∈ Ts) (g4 : Cond.initialized "java/lang/System" ∈ Ts)
    (ha0 : h a0 = some (xJ K n0 f)) (ha1 : h a1 = some (xJ K n1 g)) (hb : kB K ≤ a1) (h1 : ¬ sp < 0) (h2 : ¬ dp < 0) (h3 : ¬ n < 0) (h4 : sp.toNatClampNeg + n.toNatClampNeg ≤ n0) (h5 : dp.toNatClampNeg + n.toNatClampNeg ≤ n1)
    (hf : 1 ≤ fr) (ho : (rest.map fun v => v.category).sum + (nativeFrameWords "java/lang/System" "arraycopy" 5 + 11) ≤ lo)
    (kk : J l K own cc nL ret Ts hh nm fr lo mc ms Qf (pc + 3) rest lv (va_up h a1 (some (xJ K n1 (va_cpy f g sp.toNatClampNeg dp.toNatClampNeg n.toNatClampNeg)))) kc ks) : J l K own cc nL ret Ts hh nm fr lo mc ms Qf pc (.int n :: .int dp :: .ref a1 :: .int sp :: .ref a0 :: rest) lv h kc ks := by
  have nn : ∀ z : Int32, ¬ z < 0 → z.toInt = (z.toNatClampNeg : Int) := by
    intro z hz
    have hz0 : (0 : Int) ≤ z.toInt := by
      have := Int32.not_lt.mp hz
      simpa using Int32.le_iff_toInt_le.mp this
    show z.toInt = ((z.toInt.toNat : Nat) : Int)
    omega
  intro p e s m args below meth c ok H locs ls hR hS hl T hT X
  have hts := ok.2.2.2.2.1
  have hK := ok.2.2.2.2.2.2.2.2.2.1.1
  have hc1 : H[a1]? = some (vp_cell (K.2.1 1) (n1, .inr (.inl g))) := by
    rcases hR.1 a1 _ ha1 with q | ⟨q1, q2, -⟩
    · exact q.2
    · omega
  obtain ⟨scr, hc0, hs2, hs3, k0, hk0, cm0, hkk0, hsz, hrd⟩ : ∃ scr : Cell, H[a0]? = some scr ∧ (∀ k, scr.vm ≠ .statics k) ∧ scr.vm ≠ .unknown ∧ ∃ k0, s.vm.classes[scr.cls]? = some k0 ∧ ∃ cm0, k0.kind = .array cm0 .long ∧ n0 ≤ scr.slots.size ∧ ∀ j : Nat, j < n0 → scr.slots[j]? = some (.long (f j)) := by
    rcases hR.1 a0 _ ha0 with q | ⟨q1, q2, f9, q3⟩
    · obtain ⟨-, k0, hk0, cm0, hkk0⟩ := (hK.2 1 _ rfl).1 n0 (fun j => .long (f j))
      exact ⟨_, q.2, (fun _ h => by cases h), (fun h => by cases h), k0, hk0, cm0, hkk0, (by show n0 ≤ (arrV _ _ _).slots.size; rw [arrV_size]; exact Nat.le_refl _), (fun j hj => by show (arrV _ _ _).slots[_]? = _; rw [arrV_read _ _ hj])⟩
    · obtain ⟨cell, e1, ⟨e2, k0, hk0, cm0, hkk0⟩, e3, e4, e5, e6, e7⟩ := ok.2.2.2.2.2.2.2.2.2.1.2.2.2.2.2.2.2.2.2.2.2.2
      have hz : n0 = 0 := by
        have := Sum.inl.inj q3
        exact (Prod.mk.inj (Prod.mk.inj this).2).1
      subst hz
      subst q1
      exact ⟨cell, by rw [hR.2.2 _ q2]; exact e1, e2, e3, k0, hk0, cm0, hkk0, Nat.zero_le _, fun j hj => absurd hj (Nat.not_lt_zero j)⟩
  obtain ⟨-, k1, hk1, cm1, hkk1⟩ := (hK.2 1 _ rfl).1 n1 (fun j => .long (g j))
  obtain ⟨vm', X', step⟩ := X.arraycopy ok.1 ok.2.2.2.1 (hts _ g1) (hts _ g2) (hts _ g3) (hts _ g4) (src := a0) (dst := a1) (cs := scr) (cd := vp_cell (K.2.1 1) (n1, .inr (.inl g))) (srcPos := sp) (destPos := dp) (n := n) (by rw [hT]; exact hc0) (by rw [hT]; exact hc1)
    hs2 (fun _ h => by cases h) hs3 (fun h => by cases h) hk0 hk1 hkk0 hkk1 rfl h1 h2 h3
    (by rw [nn sp h1, nn n h3]; omega)
    (by rw [nn dp h2, nn n h3]; show ¬ _ > ((arrV (K.2.1 1) n1 (fun j => .long (g j))).slots.size : Int); rw [arrV_size]; omega)
    (fun vm₁ _ i hi => by
      have e : scr.slots.getD (sp.toNatClampNeg + i) .null = .long (f (sp.toNatClampNeg + i)) := by
        rw [Array.getD_eq_getD_getElem?, hrd _ (by omega)]
        rfl
      refine ⟨?_, ?_⟩
      · rw [e]
        rfl
      · rw [e]
        exact trivial)
    (g := F0 m pc ls (.int n :: .int dp :: .ref a1 :: .int sp :: .ref a0 :: rest)) rfl (by rw [ok.2.2.1]; exact hl.1) (rest := rest) rfl (by rw [ok.2.1]; exact hd) hf (by show 2 * 0 + _ + _ ≤ lo; omega)
  have e1 : copied scr (vp_cell (K.2.1 1) (n1, .inr (.inl g))) sp dp n = vp_cell (K.2.1 1) (n1, .inr (.inl (va_cpy f g sp.toNatClampNeg dp.toNatClampNeg n.toNatClampNeg))) := va_copiedX (fun z => .long z) scr (K.2.1 1) f g hrd h4
  rw [e1] at X' step
  have hlt : a1 < H.size := (Array.getElem?_eq_some_iff.mp hc1).1
  have hheap : ((T.setVm vm').setCell a1 (vp_cell (K.2.1 1) (n1, .inr (.inl (va_cpy f g sp.toNatClampNeg dp.toNatClampNeg n.toNatClampNeg))))).heap = H.setIfInBounds a1 (vp_cell (K.2.1 1) (n1, .inr (.inl (va_cpy f g sp.toNatClampNeg dp.toNatClampNeg n.toNatClampNeg)))) := by rw [← hT]; rfl
  have oq : ∀ q : Nat, q ≠ a1 → (H.setIfInBounds a1 (vp_cell (K.2.1 1) (n1, .inr (.inl (va_cpy f g sp.toNatClampNeg dp.toNatClampNeg n.toNatClampNeg)))))[q]? = H[q]? := fun q hq => by simp [Array.getElem?_setIfInBounds, Ne.symm hq]
  obtain ⟨t, b1, b2⟩ := kk p e s m args below meth c ok _ _ ls (hR.upd hb (by simp) oq (show (H.setIfInBounds a1 _)[a1]? = some _ by simp [Array.getElem?_setIfInBounds, hlt])) ⟨by simp; exact hS.1, fun q g1 g2 => by
      rw [oq q (fun e => g2 (by rw [e]; exact hb))]
      exact hS.2.1 q g1 g2, fun q hq => by
      rcases List.mem_append.mp hq with h | h
      · exact hS.2.2 q h
      · obtain ⟨z, -, hz⟩ := List.mem_map.mp h
        rw [← hz]
        exact hb⟩ hl _ hheap X'
  exact ⟨t, step t b1, b2⟩
set_option maxHeartbeats 4000000 in
/-- clone of a row of Entries -/
theorem J_clone {idx a n : Nat} {f : Nat → Option Nat} {ad : String} (hd : decode cc pc = .ok (.invokevirtual idx, 3)) (had : ad = "[LKeyStates$Entry;") (g1 : Cond.methodLink own idx ⟨ad, "clone", "()Ljava/lang/Object;"⟩ ∈ Ts) (g2 : Cond.sameMethod ad "java/lang/Object" "clone" "()Ljava/lang/Object;" ∈ Ts) (g3 : Cond.native ⟨"java/lang/Object", "clone", "()Ljava/lang/Object;"⟩ ∈ Ts) (g4 : Cond.instanceMethod ⟨"java/lang/Object", "clone", "()Ljava/lang/Object;"⟩ ∈ Ts)
    (g5 : Cond.selects ad ⟨ad, "clone", "()Ljava/lang/Object;"⟩ ⟨"java/lang/Object", "clone", "()Ljava/lang/Object;"⟩ ∈ Ts) (ha : h a = some (xQ K 3 n f)) (hf : 1 ≤ fr) (ho : (rest.map fun v => v.category).sum + 14 ≤ lo) (h1 : kc + 1 ≤ mc) (h2 : ks + n ≤ ms)
    (kk : ∀ q, h q = none → kB K ≤ q → J l K own cc nL ret Ts hh nm fr lo mc ms Qf (pc + 3) (.ref q :: rest) lv (va_up h q (some (xQ K 3 n f))) (kc + 1) (ks + n)) : J l K own cc nL ret Ts hh nm fr lo mc ms Qf pc (.ref a :: rest) lv h kc ks := by
  intro p e s m args below meth c ok H locs ls hR hS hl T hT X
  have hts := ok.2.2.2.2.1
  have hKU := ok.2.2.2.2.2.2.2.2.2.1
  have hK := hKU.1
  obtain ⟨hb, hat⟩ := hR.at ha xQ_ne
  obtain ⟨kA2, comp2, w1, w2, w3, w4⟩ := (hK.2 3 _ rfl).2
  have hnm : s.vm.findClass ad = some (K.2.1 3) := by
    have e9 : "[" ++ (FieldType.object RX0).toString = ad := by rw [had]; decide +kernel
    rw [← e9]; exact w4
  have hcl : va_Nw (.castable ad "java/lang/Cloneable") s := by rw [had]; exact hKU.2.2.2.2.2.2.1 _ List.mem_cons_self
  obtain ⟨c0, t0', f1, f2, f3⟩ := Cond.castable_spec (va_Nw.use (A := args) rfl hcl)
  cases hnm.symm.trans f1
  have hcellT : T.heap[a]? = some (vp_cell (K.2.1 3) (n, .inr (.inr (.inr (.inr f))))) := by rw [hT]; exact hat
  obtain ⟨-, kA, hkA, comp, hkind⟩ := State.isArrayOf_alike X.warmed.alike ((hK.2 3 _ rfl).1 0 (fun _ => .null))
  obtain ⟨-, kS, hkS, compS, hkindS⟩ := (hK.2 3 _ rfl).1 0 (fun _ => .null)
  have hsz : (vp_cell (K.2.1 3) (n, .inr (.inr (.inr (.inr f))))).slots.size = n := arrV_size _ _ _
  have hfit : ∀ (i : Nat) (v : Value), (vp_cell (K.2.1 3) (n, .inr (.inr (.inr (.inr f))))).slots[i]? = some v → fits (.object RX0) v = true := va_fit (fun i _ => by cases f i <;> rfl)
  obtain ⟨vm', X', st⟩ := X.cloneArray ok.1 ok.2.2.2.1 (hts _ g1) (hts _ g2) (hts _ g3) (hts _ g4) (hts _ g5) (a := a) (cell := vp_cell (K.2.1 3) (n, .inr (.inr (.inr (.inr f))))) hcellT (fun k h => by cases h) (fun h => by cases h) hnm f2 f3
    (fun i v hv => by
      have hk' : T.vm.classes[K.2.1 3]? = some kA := hkA
      have hfi := hfit i v hv
      show State.fitsSlot _ (K.2.1 3) _ _ _ = true
      simpa [State.fitsSlot, State.slotType?, hk', hkind] using hfi)
    (g := F0 m pc ls (.ref a :: rest)) rfl (by rw [ok.2.2.1]; exact hl.1) rfl (by rw [ok.2.1]; exact hd) hf (by show 2 * 0 + _ + 14 ≤ lo; omega) h1 (by rw [hsz]; exact h2) (hloader := Vm.clonesLoader_of_array hkS hkindS)
  have hcellE : ({ cls := (vp_cell (K.2.1 3) (n, .inr (.inr (.inr (.inr f))))).cls, slots := (vp_cell (K.2.1 3) (n, .inr (.inr (.inr (.inr f))))).slots } : Cell) = vp_cell (K.2.1 3) (n, .inr (.inr (.inr (.inr f)))) := rfl
  rw [hcellE, hsz] at X'
  generalize hH1 : H.push (vp_cell (K.2.1 3) (n, .inr (.inr (.inr (.inr f))))) = H1
  have z1 : H1.size = H.size + 1 := by rw [← hH1, Array.size_push]
  have e1 : H1[H.size]? = some (vp_cell (K.2.1 3) (n, .inr (.inr (.inr (.inr f))))) := by rw [← hH1, Array.getElem?_push_size]
  have o1 : ∀ q : Nat, q < H.size → H1[q]? = H[q]? := fun q hq => by rw [← hH1, Array.getElem?_push, if_neg (Nat.ne_of_lt hq)]
  obtain ⟨t, b1, b2⟩ := kk H.size hR.fresh hR.2.1 p e s m args below meth c ok H1 _ ls (hR.push z1 o1 e1) (hS.new z1 o1) hl ((T.setVm vm').pushCell (vp_cell (K.2.1 3) (n, .inr (.inr (.inr (.inr f)))))) (by rw [← hH1, ← hT]; rfl) X'
  refine ⟨t, st t ?_, b2⟩
  rw [hcellE, hT]
  exact b1
theorem J_castA {idx a n : Nat} {f : Nat → Option Nat} {ad : String} (hd : decode cc pc = .ok (.checkcast idx, 3)) (had : ad = "[LKeyStates$Entry;") (hlk : Cond.classLink own idx ad ∈ Ts) (ha : h a = some (xQ K 3 n f)) (kk : J l K own cc nL ret Ts hh nm fr lo mc ms Qf (pc + 3) (.ref a :: rest) lv h kc ks) : J l K own cc nL ret Ts hh nm fr lo mc ms Qf pc (.ref a :: rest) lv h kc ks := by
  intro p e s m args below meth c ok H locs ls hR hS hl
  obtain ⟨kA2, comp2, w1, w2, w3, w4⟩ := (ok.2.2.2.2.2.2.2.2.2.1.1.2 3 _ rfl).2
  have hnm : s.vm.findClass ad = some (K.2.1 3) := by
    have e9 : "[" ++ (FieldType.object RX0).toString = ad := by rw [had]; decide +kernel
    rw [← e9]; exact w4
  exact va_castA ok.1 ok.2.1 ok.2.2.2.1 (ok.2.2.2.2.1 _ hlk) (hR.one ha xQ_ne) 0 rfl hnm hd (kk p e s m args below meth c ok H locs ls hR hS hl)
set_option maxHeartbeats 4000000 in
/-- throw new E("..") -/
theorem J_throw {cls text : String} {names : List String} {ik is ic : Nat} {Post : Rs → Hp → Prop} (d0 : decode cc pc = .ok (.new ik, 3)) (d3 : decode cc (pc + 3) = .ok (.dup, 1)) (d4 : decode cc (pc + 4) = .ok (.ldc is, 2)) (d6 : decode cc (pc + 6) = .ok (.invokespecial ic, 3)) (d9 : decode cc (pc + 9) = .ok (.athrow, 1))
    (hcls : Bundle.fit cls = true) (hnames : ∀ n ∈ names, Bundle.fit n = true) (hk : Cond.classLink own ik cls ∈ Ts) (hini : Cond.initialized cls ∈ Ts) (hstr : (own, is, text) ∈ strW) (hat : ∀ w ∈ (vx_atS own ic cls names).filter goodWord, w ∈ Ts)
    (hat2 : (vx_atS own ic cls names).filter (fun w => !goodWord w) = [])
    (hgood : ∀ w ∈ Cond.classLink own ik cls :: Cond.initialized cls :: vx_atS own ic cls names, vx_ot w = true) (hf : names.length + 3 < fr) (ho : (rest.map fun v => v.category).sum + (13 * (names.length + 1) + 43) ≤ lo) (h1 : kc + 1 ≤ mc) (h2 : ks + 6 ≤ ms) (hp : Post (.inr cls) h) :
    J l K own cc nL ret Ts [] nm fr lo mc ms (QM K mc ms Post) pc rest lv h kc ks := by
  intro p e s m args below meth c ok H locs ls hR hS hl
  have hts := ok.2.2.2.2.1
  have hKU := ok.2.2.2.2.2.2.2.2.2.1
  obtain ⟨sa, hsa⟩ := hKU.2.2.2.2.2.2.2.1 _ hstr
  refine vx_throwS ok.1 ok.2.1 ok.2.2.2.2.2.2.2.2.2.2.1 ok.2.2.2.1 hcls hnames (hts _ hk) (hts _ hini) hsa (vx_hat (B := []) (fun w h => hts w (hat w h)) (fun w h => by rw [hat2] at h; exact h) vx_n) hgood (KU.zq ok.2.2.2.2.2.2.2.2.2.2.2.1 ok.2.2.2.2.2.2.2.2.2.2.2.2 hKU.2.1) (KU.zq ok.2.2.2.2.2.2.2.2.2.2.2.1 ok.2.2.2.2.2.2.2.2.2.2.2.2 hKU.2.2.1) hS (by rw [ok.2.2.1]; exact hl.1) d0 d3 d4 d6 d9 (fun x hx => ?_) hf ho h1 h2 ok.2.2.2.2.2.1 (fun t hA hz hk2 => ?_) hS.2.2 h1 h2
  · rw [ok.2.2.2.2.2.2.2.2.1] at hx
    cases hx
  · refine ⟨⟨h, hp, hR.kept hz hk2⟩, ?_⟩
    refine ⟨Nat.le_trans hS.1 hz, fun q h1 h2 => ?_⟩
    rw [hk2 q (Nat.lt_of_lt_of_le h1 hS.1)]
    exact hS.2.1 q h1 h2
set_option maxHeartbeats 4000000 in
/-- the same, with a wide index -/
theorem J_throwW {cls text : String} {names : List String} {ik is ic : Nat} {Post : Rs → Hp → Prop} (d0 : decode cc pc = .ok (.new ik, 3)) (d3 : decode cc (pc + 3) = .ok (.dup, 1)) (d4 : decode cc (pc + 4) = .ok (.ldc_w is, 3)) (d7 : decode cc (pc + 7) = .ok (.invokespecial ic, 3)) (d10 : decode cc (pc + 10) = .ok (.athrow, 1))
    (hcls : Bundle.fit cls = true) (hnames : ∀ n ∈ names, Bundle.fit n = true) (hk : Cond.classLink own ik cls ∈ Ts) (hini : Cond.initialized cls ∈ Ts) (hstr : (own, is, text) ∈ strW) (hat : ∀ w ∈ (vx_atS own ic cls names).filter goodWord, w ∈ Ts)
    (hat2 : (vx_atS own ic cls names).filter (fun w => !goodWord w) = [])
    (hgood : ∀ w ∈ Cond.classLink own ik cls :: Cond.initialized cls :: vx_atS own ic cls names, vx_ot w = true) (hf : names.length + 3 < fr) (ho : (rest.map fun v => v.category).sum + (13 * (names.length + 1) + 43) ≤ lo) (h1 : kc + 1 ≤ mc) (h2 : ks + 6 ≤ ms) (hp : Post (.inr cls) h) :
    J l K own cc nL ret Ts [] nm fr lo mc ms (QM K mc ms Post) pc rest lv h kc ks := by
  intro p e s m args below meth c ok H locs ls hR hS hl
  have hts := ok.2.2.2.2.1
  have hKU := ok.2.2.2.2.2.2.2.2.2.1
  obtain ⟨sa, hsa⟩ := hKU.2.2.2.2.2.2.2.1 _ hstr
  refine vx_throwSW ok.1 ok.2.1 ok.2.2.2.2.2.2.2.2.2.2.1 ok.2.2.2.1 hcls hnames (hts _ hk) (hts _ hini) hsa (vx_hat (B := []) (fun w h => hts w (hat w h)) (fun w h => by rw [hat2] at h; exact h) vx_n) hgood (KU.zq ok.2.2.2.2.2.2.2.2.2.2.2.1 ok.2.2.2.2.2.2.2.2.2.2.2.2 hKU.2.1) (KU.zq ok.2.2.2.2.2.2.2.2.2.2.2.1 ok.2.2.2.2.2.2.2.2.2.2.2.2 hKU.2.2.1) hS (by rw [ok.2.2.1]; exact hl.1) d0 d3 d4 d7 d10 (fun x hx => ?_) hf ho h1 h2 ok.2.2.2.2.2.1 (fun t hA hz hk2 => ?_) hS.2.2 h1 h2
  · rw [ok.2.2.2.2.2.2.2.2.1] at hx
    cases hx
  · refine ⟨⟨h, hp, hR.kept hz hk2⟩, ?_⟩
    refine ⟨Nat.le_trans hS.1 hz, fun q h1 h2 => ?_⟩
    rw [hk2 q (Nat.lt_of_lt_of_le h1 hS.1)]
    exact hS.2.1 q h1 h2
set_option maxHeartbeats 4000000 in
/-- invokevirtual of a method that doesn't throw -/
theorem J_callV0 {idx ci b frc loc nLc mc' ms' n : Nat} {y : MethodName} {bytes : ByteArray} {retc : Option FieldType} {wsy wsy' : List Cond} {As : List Value} {P : Rs → Hp → Prop} {r : vw_C} (hd : decode cc pc = .ok (.invokevirtual idx, 3)) (hc : vwCl[ci]? = some r) (hG : GoodIn Ts (wsV own idx r.1 y wsy)) (hw : wsy = Cond.code y bytes nLc retc :: wsy')
    (hdd : y.cls = r.1 ∧ y.cls ≠ "java/lang/invoke/MethodHandle" ∧ y.cls ≠ "java/lang/invoke/VarHandle" ∧ (parseMethodDescriptor y.desc).map (fun d => d.parameters.length) = some n) (hn : As.length = n) (hfit : fitR fr lo frc loc nLc) (hb : ∃ fs, h b = some (xO ci fs)) (hrest : (rest.map fun v => v.category).sum ≤ 8)
    (h1 : kc + mc' ≤ mc) (h2 : ks + ms' ≤ ms) (hM : MX l K y wsy frc loc mc' ms' (.ref b :: As) h P) (hx : ∀ E h', ¬ P (.inr E) h')
    (kk : ∀ (v : Option Value) (h' : Hp), P (.inl v) h' → J l K own cc nL ret Ts hh nm fr lo mc ms Qf (pc + 3) (v.toList ++ rest) lv h' (kc + mc') (ks + ms')) : J l K own cc nL ret Ts hh nm fr lo mc ms Qf pc (As.reverse ++ .ref b :: rest) lv h kc ks := by
  intro p e s m args below meth c ok H locs ls hR hS hl
  obtain ⟨fs, hb⟩ := hb
  exact J_run0 ok hS hl (va_runV (As := As) (rest := rest) (Ts := Ts) (own := own) ⟨ok.1, ok.2.1, ok.2.2.1, ok.2.2.2.1, ok.2.2.2.2.1⟩ (hM.met hx) (cwV n ok.2.2.2.2.1 hG hw rfl rfl hdd hfit) (preV_of ok.2.2.2.2.2.2.2.2.2.1 hR hc hb) rfl hn hl.1 rfl (lv_room hrest) hd ⟨h1, h2⟩) kk
set_option maxHeartbeats 4000000 in
/-- invokestatic of a method that doesn't throw -/
theorem J_callS0 {idx frc loc nLc mc' ms' n : Nat} {y : MethodName} {bytes : ByteArray} {retc : Option FieldType} {wsy wsy' : List Cond} {As : List Value} {P : Rs → Hp → Prop} (hd : decode cc pc = .ok (.invokestatic idx, 3)) (hG : GoodIn Ts (va_wsS own idx y wsy)) (hw : wsy = Cond.code y bytes nLc retc :: wsy')
    (hdd : y.cls ≠ "java/lang/invoke/MethodHandle" ∧ y.cls ≠ "java/lang/invoke/VarHandle" ∧ (parseMethodDescriptor y.desc).map (fun d => d.parameters.length) = some n) (hn : As.length = n) (hfit : fitR fr lo frc loc nLc) (hrest : (rest.map fun v => v.category).sum ≤ 8)
    (h1 : kc + mc' ≤ mc) (h2 : ks + ms' ≤ ms) (hM : MX l K y wsy frc loc mc' ms' As h P) (hx : ∀ E h', ¬ P (.inr E) h')
    (kk : ∀ (v : Option Value) (h' : Hp), P (.inl v) h' → J l K own cc nL ret Ts hh nm fr lo mc ms Qf (pc + 3) (v.toList ++ rest) lv h' (kc + mc') (ks + ms')) : J l K own cc nL ret Ts hh nm fr lo mc ms Qf pc (As.reverse ++ rest) lv h kc ks := by
  intro p e s m args below meth c ok H locs ls hR hS hl
  have hts := ok.2.2.2.2.1
  have okw : ∀ w ∈ va_wsS own idx y wsy, w.before args s = true := fun w h => hts w (hG w h).1
  have hG2 : GoodIn Ts wsy := fun w h => hG w (by unfold va_wsS; exact List.mem_append_right _ h)
  have hcm : Cond.code y bytes nLc retc ∈ wsy := by rw [hw]; exact List.mem_cons_self
  have cb : CallB (rmx fr lo mc ms) s args own idx y bytes nLc retc wsy (rmx frc loc mc' ms') mc' ms' n ∧ (Cond.static y).before args s = true := by
    refine ⟨⟨rfl, rfl, hfit.1, hfit.2, pay_in hts hG2, hcm, hts _ (hG2 _ hcm).1, okw _ (by simp [va_wsS]), ⟨hdd.1, hdd.2.1⟩, fun sig h => ?_, okw _ (by simp [va_wsS])⟩, okw _ (by simp [va_wsS])⟩
    have h2 := hdd.2.2
    rw [h] at h2
    exact (Option.some.inj h2).symm
  exact J_run0 ok hS hl (va_runS (As := As) (rest := rest) (Ts := Ts) (own := own) ⟨ok.1, ok.2.1, ok.2.2.1, ok.2.2.2.1, ok.2.2.2.2.1⟩ (hM.met hx) cb ⟨Pcx.blind, fun U hU hW => ⟨rfl, ok.2.2.2.2.2.2.2.2.2.1.warm hW, by rw [hU]; exact hR⟩⟩ rfl hn hl.1 rfl (lv_room hrest) hd ⟨h1, h2⟩) kk
end Mem2
end
