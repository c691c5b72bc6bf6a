/-! ===== abstract heaps, the walk's judgement J over them ===== -/
/-- what each address holds, as far as we keep it in mind -/
abbrev Hp : Type := Nat → Option va_E
/-- the world's constants: numbers of classes and slots; the classes of rows (0 int, 1 long, 2 boolean, 3 Entry, 4 Page, 5 Picture); the heap at the law's start; EMPTY's address -/
abbrev Kx : Type := va_G × (Nat → ClassId) × Heap × Nat
def kB (K : Kx) : Nat := K.2.2.1.size
def Ax (K : Kx) : Nat → Prop := fun q => kB K ≤ q
abbrev xI (K : Kx) (n : Nat) (f : Nat → Int32) : va_E := .inl (K.2.1 0, n, .inl f)
abbrev xJ (K : Kx) (n : Nat) (f : Nat → Int64) : va_E := .inl (K.2.1 1, n, .inr (.inl f))
abbrev xZ (K : Kx) (n : Nat) (f : Nat → Int32) : va_E := .inl (K.2.1 2, n, .inl f)
abbrev xQ (K : Kx) (t n : Nat) (f : Nat → Option Nat) : va_E := .inl (K.2.1 t, n, .inr (.inr (.inr (.inr f))))
abbrev xO (ci : Nat) (fs : List Value) : va_E := .inr (ci, fs)
def tyL (K : Kx) : List (ClassId × FieldType) := [(K.2.1 0, .int), (K.2.1 1, .long), (K.2.1 2, .boolean), (K.2.1 3, .object RX0), (K.2.1 4, .object RX1), (K.2.1 5, .object RX2)]
/-- the heap H holds what h says; what was there at the law's start is as it was; EMPTY is a row of none -/
def Rp (K : Kx) (h : Hp) (H : Heap) : Prop := (∀ (a : Nat) (x : va_E), h a = some x → (kB K ≤ a ∧ va_at K.1 vwCl (a, x) H) ∨ (a = K.2.2.2 ∧ a < kB K ∧ ∃ f, x = xJ K 0 f)) ∧ kB K ≤ H.size ∧ ∀ q : Nat, q < kB K → H[q]? = K.2.2.1[q]?
theorem Rp.lt {K : Kx} {h : Hp} {H : Heap} (r : Rp K h H) {a : Nat} {x : va_E} (e : h a = some x) : a < H.size := by
  rcases r.1 a x e with q | q
  · exact va_at.lt q.2
  · exact Nat.lt_of_lt_of_le q.2.1 r.2.1
theorem Rp.at {K : Kx} {h : Hp} {H : Heap} (r : Rp K h H) {a : Nat} {x : va_E} (e : h a = some x) (hx : ∀ f, x ≠ xJ K 0 f) : kB K ≤ a ∧ va_at K.1 vwCl (a, x) H := by
  rcases r.1 a x e with q | ⟨_, _, f, q⟩
  · exact q
  · exact absurd q (hx f)
theorem Rp.fresh {K : Kx} {h : Hp} {H : Heap} (r : Rp K h H) : h H.size = none := by
  cases e : h H.size with
  | none => rfl
  | some x => exact absurd (r.lt e) (Nat.lt_irrefl _)
/-- cells that stay where they were -/
theorem va_at.keep {D : va_G} {cl : List vw_C} {q : Nat × va_E} {H H1 : Heap} (h : va_at D cl q H) (e : H1[q.1]? = H[q.1]?) : va_at D cl q H1 := by
  obtain ⟨a, x⟩ := q
  cases x with
  | inl x => exact (show H1[a]? = _ from e.trans h)
  | inr o =>
    obtain ⟨r, h1, cell, h2, h3⟩ := h
    exact ⟨r, h1, cell, e.trans h2, h3⟩
theorem Rp.kept {K : Kx} {h : Hp} {H H1 : Heap} (r : Rp K h H) (z : H.size ≤ H1.size) (o : ∀ q : Nat, q < H.size → H1[q]? = H[q]?) : Rp K h H1 :=
  ⟨fun a x e => (r.1 a x e).imp (fun q => ⟨q.1, q.2.keep (o a (r.lt e))⟩) id, Nat.le_trans r.2.1 z, fun q hq => (o q (Nat.lt_of_lt_of_le hq r.2.1)).trans (r.2.2 q hq)⟩
theorem Rp.upd {K : Kx} {h : Hp} {H H1 : Heap} (r : Rp K h H) {a : Nat} {x : va_E} (hb : kB K ≤ a) (z : H1.size = H.size) (o : ∀ q : Nat, q ≠ a → H1[q]? = H[q]?) (e : va_at K.1 vwCl (a, x) H1) : Rp K (va_up h a (some x)) H1 := by
  refine ⟨fun b y hy => ?_, by rw [z]; exact r.2.1, fun q hq => (o q (fun e => by rw [e] at hq; omega)).trans (r.2.2 q hq)⟩
  by_cases hba : b = a
  · subst hba
    simp only [va_up, if_true, Option.some.injEq] at hy
    subst hy
    exact Or.inl ⟨hb, e⟩
  · simp only [va_up, hba, if_false] at hy
    exact (r.1 b y hy).imp (fun q => ⟨q.1, q.2.keep (o b hba)⟩) id
theorem Rp.push {K : Kx} {h : Hp} {H H1 : Heap} (r : Rp K h H) {x : va_E} (z : H1.size = H.size + 1) (o : ∀ q : Nat, q < H.size → H1[q]? = H[q]?) (e : va_at K.1 vwCl (H.size, x) H1) : Rp K (va_up h H.size (some x)) H1 := by
  refine ⟨fun b y hy => ?_, by rw [z]; exact Nat.le_succ_of_le r.2.1, fun q hq => (o q (Nat.lt_of_lt_of_le hq r.2.1)).trans (r.2.2 q hq)⟩
  by_cases hba : b = H.size
  · subst hba
    simp only [va_up, if_true, Option.some.injEq] at hy
    subst hy
    exact Or.inl ⟨r.2.1, e⟩
  · simp only [va_up, hba, if_false] at hy
    exact (r.1 b y hy).imp (fun q => ⟨q.1, q.2.keep (o b (r.lt hy))⟩) id
theorem va_S.new {A : Nat → Prop} {H0 H H1 : Heap} {locs : List Loc} (hS : va_S A H0 H locs) (z : H1.size = H.size + 1) (o : ∀ q : Nat, q < H.size → H1[q]? = H[q]?) : va_S A H0 H1 locs :=
  ⟨Nat.le_trans hS.1 (by omega), fun x h1 h2 => (o x (Nat.lt_of_lt_of_le h1 hS.1)).trans (hS.2.1 x h1 h2), hS.2.2⟩
/-- the words on nest mates, casts and Strings that no reader of steady words carries -/
def nestF : List (String × Nat × String × String × String × String) := [("KeyStates$Entry", 22, "KeyStates", "EMPTY", "[J", "KeyStates")]
def nestM : List (String × Nat × MethodName × String) := [("KeyStates$Picture", 31, ⟨"KeyStates$Page", "<init>", "()V"⟩, "KeyStates"), ("KeyStates$Picture", 38, ⟨"KeyStates", "pageNumber", "(IJI)I"⟩, "KeyStates"), ("KeyStates$Entry", 35, ⟨"KeyStates", "countBelow", "([JIJ)I"⟩, "KeyStates"), ("KeyStates$Entry", 59, ⟨"KeyStates", "joined", "(IJJ)J"⟩, "KeyStates"), ("KeyStates$Page", 61, ⟨"KeyStates", "countBelow", "([JIJ)I"⟩, "KeyStates"), ("KeyStates$Entry", 63, ⟨"KeyStates", "fits", "(IIJ)Z"⟩, "KeyStates")]
def castW : List (String × String) := [("[LKeyStates$Entry;", "java/lang/Cloneable"), ("[J", "java/lang/Cloneable"), ("java/lang/IndexOutOfBoundsException", "java/lang/IndexOutOfBoundsException"), ("java/lang/IllegalArgumentException", "java/lang/IllegalArgumentException"), ("java/lang/IllegalStateException", "java/lang/IllegalStateException"), ("java/util/NoSuchElementException", "java/util/NoSuchElementException")]
def declW : List MethodName := [⟨"java/lang/RuntimeException", "<init>", "(Ljava/lang/String;)V"⟩, ⟨"java/lang/Exception", "<init>", "(Ljava/lang/String;)V"⟩, ⟨"java/lang/Throwable", "<init>", "(Ljava/lang/String;)V"⟩]
def strW : List (String × Nat × String) := [("KeyStates", 239, "no such state"), ("KeyStates", 248, "the state has another kind"), ("KeyStates", 255, "the number does not fit"), ("KeyStates", 243, "no key is at hand"), ("KeyStates", 95, "there is no entry"), ("KeyStates", 290, "none such"), ("KeyStates", 129, "the member is not there"), ("KeyStates", 174, "no such key"), ("KeyStates", 284, "no such snapshot"), ("KeyStates", 204, "no such entry or number"), ("KeyStates", 228, "no such thing of a state")]
def excW : List String := ["java/lang/IndexOutOfBoundsException", "java/lang/IllegalArgumentException", "java/lang/IllegalStateException", "java/util/NoSuchElementException"]
/-- what a walk takes of the tables and of the heap at the law's start -/
def KU (K : Kx) (U : State) : Prop :=
  va_K K.1 vwCl (tyL K) U ∧ vx_Zq Bundle.tN "UNASSIGNED_STACK" Bundle.steD (Ax K) U K.2.2.1 ∧ vx_Zq Bundle.tN "SUPPRESSED_SENTINEL" Bundle.listD (Ax K) U K.2.2.1 ∧ va_Z "KeyStates" "EMPTY" "[J" (.ref K.2.2.2) (Ax K) U K.2.2.1 ∧
  (∀ w ∈ nestF, va_Nw (.fieldLinkNest w.1 w.2.1 w.2.2.1 w.2.2.2.1 w.2.2.2.2.1 w.2.2.2.2.2) U) ∧ (∀ w ∈ nestM, va_Nw (.methodLinkNest w.1 w.2.1 w.2.2.1 w.2.2.2) U) ∧ (∀ w ∈ castW, va_Nw (.castable w.1 w.2) U) ∧
  (∀ w ∈ strW, ∃ a : Nat, vk_R w.1 w.2.1 w.2.2 a U) ∧ (∀ x ∈ excW, ∀ y ∈ excW, x ≠ y → va_Nc x y U) ∧ va_AO RX0 U ∧ va_AO RX1 U ∧ va_AO RX2 U ∧ va_T .long K.2.2.2 0 (fun _ => .long 0) (Ax K) U K.2.2.1 ∧ ∀ w ∈ declW, va_Nw (.declares w) U
theorem va_Nc.warm {C T : String} {s U : State} (hW : s.WarmedH U.vm) (h : va_Nc C T s) : va_Nc C T U := by
  obtain ⟨c, t, h1, h2, h3⟩ := h
  exact ⟨c, t, by rw [hW.alike.findClass]; exact h1, by rw [hW.alike.findClass]; exact h2, by rw [hW.alike.assignable]; exact h3⟩
theorem KU.warm {K : Kx} {s U : State} (hW : s.WarmedH U.vm) (k : KU K s) : KU K U := by
  obtain ⟨k1, k2, k3, k4, k5, k6, k7, k8, k9, k10, k11, k12, k13, k14⟩ := k
  exact ⟨va_K.moved hW.alike k1, vx_Zq.moved hW.alike k2, vx_Zq.moved hW.alike k3, va_Z.moved hW.alike k4, fun w h => va_Nw.warmF hW (k5 w h), fun w h => va_Nw.warmM hW (k6 w h), fun w h => va_Nw.warmC hW (k7 w h),
    fun w h => (k8 w h).elim fun a ha => ⟨a, vk_R.warm hW ha⟩, fun x hx y hy n => (k9 x hx y hy n).warm hW, va_AO.moved hW.alike k10, va_AO.moved hW.alike k11, va_AO.moved hW.alike k12, va_T.moved hW.alike k13, fun w h => va_Nw.warmD hW (k14 w h)⟩
theorem KU.calling {K : Kx} {U : State} (k : KU K U) (g : JFrame) (mk : MethodId) (a : Array Value) : KU K (U.calling g mk a) := by
  have hW : U.WarmedH (U.calling g mk a).vm := State.WarmedH.refl U
  exact k.warm hW
/-- how a call ends: with a value, or with an exception of a class -/
abbrev Rs : Type := Option Value ⊕ String
def Pcx (K : Kx) (As : List Value) (h : Hp) : Array Value → State → Prop := fun a U => a = As.toArray ∧ KU K U ∧ Rp K h U.heap
def Qcx (K : Kx) (Post : Rs → Hp → Prop) : Array Value → State → Outcome → State → Prop := fun _ st o t => (∃ (v : Option Value) (h' : Hp), o = .returned v ∧ Post (.inl v) h' ∧ Rp K h' t.heap) ∧ va_F (Ax K) st t
def Xcx (K : Kx) (Post : Rs → Hp → Prop) : String → State → State → Prop := fun E st t => (∃ h' : Hp, Post (.inr E) h' ∧ Rp K h' t.heap) ∧ va_F (Ax K) st t
abbrev rmx (fr lo mc ms : Nat) : Room := { frames := fr, cells := mc, slots := ms, locals := lo }
/-- THE CONTRACT OF A CALL: y, called with As over h, in the room fr lo, making at most mc cells of ms slots, ends with Post -/
def MX (l : Launch) (K : Kx) (y : MethodName) (ws : List Cond) (fr lo mc ms : Nat) (As : List Value) (h : Hp) (Post : Rs → Hp → Prop) : Prop :=
  vx_Met l y ws (rmx fr lo mc ms) (Pcx K As h) (Qcx K Post) (Xcx K Post) mc ms (Ax K)
theorem Pcx.blind {K : Kx} {As : List Value} {h : Hp} : FrameBlind (Pcx K As h) := fun _ _ g mk q => ⟨q.1, q.2.1.calling g mk _, q.2.2⟩
theorem MX.mono {l : Launch} {K : Kx} {y : MethodName} {ws : List Cond} {fr lo mc ms : Nat} {As : List Value} {h : Hp} {P Q : Rs → Hp → Prop} (m : MX l K y ws fr lo mc ms As h P) (hPQ : ∀ r h', P r h' → Q r h') : MX l K y ws fr lo mc ms As h Q := by
  intro p e a1 a2 a3 s m0 args below a4 a5 a6 a7
  obtain ⟨n, o, b1, b2, b3, b4⟩ := m p e a1 a2 a3 s m0 args below a4 a5 a6 a7
  refine ⟨n, o, b1, b2, b3, ?_⟩
  rcases b4 with ⟨⟨⟨v, h', c1, c2, c3⟩, cF⟩, c4⟩ | ⟨q, c0, E, ce, L, ⟨⟨h', c1, c2⟩, cF⟩, c3⟩
  · exact Or.inl ⟨⟨⟨v, h', c1, hPQ _ _ c2, c3⟩, cF⟩, c4⟩
  · exact Or.inr ⟨q, c0, E, ce, L, ⟨⟨h', hPQ _ _ c1, c2⟩, cF⟩, c3⟩
/-- what holds in a body -/
def OkB (l : Launch) (K : Kx) (own : String) (cc : ByteArray) (nL : Nat) (ret : Option FieldType) (Ts : List Cond) (hh : List (Nat × Nat × Nat × Nat)) (nm : String) (p : Program) (s : State) (m : MethodId) (args : Array Value) (meth : Method) (c : Code) : Prop :=
  p.tables.exec = Jvm.exec ∧ c.code = cc ∧ c.maxLocals = nL ∧ s.vm.findClass own = some m.cls ∧ (∀ w ∈ Ts, w.before args s = true) ∧ meth.locks = false ∧ meth.sig.returnType = ret ∧ meth.name = nm ∧ c.exceptionTable.toList = tableOf hh ∧ KU K s ∧ l.stackTraces = false ∧ kB K ≤ s.heap.size ∧ ∀ q : Nat, q < kB K → s.heap[q]? = K.2.2.1[q]?
/-- THE JUDGEMENT: a body that stands at pc with this stack, these locals and this heap comes to Qf -/
def J (l : Launch) (K : Kx) (own : String) (cc : ByteArray) (nL : Nat) (ret : Option FieldType) (Ts : List Cond) (hh : List (Nat × Nat × Nat × Nat)) (nm : String) (fr lo mc ms : Nat) (Qf : State → Array Value → List Frame → State → Prop) (pc : Nat) (st : List Value) (lv : List (Nat × Value)) (h : Hp) (kc ks : Nat) : Prop :=
  ∀ (p : Program) (e : Env) (s : State) (m : MethodId) (args : Array Value) (below : List Frame) (meth : Method) (c : Code), OkB l K own cc nL ret Ts hh nm p s m args meth c →
    ∀ (H : Heap) (locs : List Loc) (ls : Array Slot), Rp K h H → va_S (Ax K) s.heap H locs → lv_has ls nL lv → W p l e (rmx fr lo mc ms) s m args below meth c H locs kc ks (Qf s args below) (F0 m pc ls st)
def QM (K : Kx) (mc ms : Nat) (Post : Rs → Hp → Prop) : State → Array Value → List Frame → State → Prop := fun s args below => vx_MQ below (Qcx K Post) (Xcx K Post) args s mc ms (Ax K)
theorem KU.zq {K : Kx} {s : State} {C n d : String} (hb : kB K ≤ s.heap.size) (ho : ∀ q : Nat, q < kB K → s.heap[q]? = K.2.2.1[q]?) (k : vx_Zq C n d (Ax K) s K.2.2.1) : vx_Zq C n d (Ax K) s s.heap := k.kept fun a ha _ => ho a ha
theorem KU.z {K : Kx} {s : State} {C n d : String} {v : Value} (hb : kB K ≤ s.heap.size) (ho : ∀ q : Nat, q < kB K → s.heap[q]? = K.2.2.1[q]?) (k : va_Z C n d v (Ax K) s K.2.2.1) : va_Z C n d v (Ax K) s s.heap := k.kept fun a ha _ => ho a ha
set_option maxHeartbeats 4000000 in
/-- into a body without handlers -/
theorem MX.enter {l : Launch} {K : Kx} {y : MethodName} {ws ws' : List Cond} {fr lo mc ms : Nat} {As : List Value} {h : Hp} {Post : Rs → Hp → Prop} {cc : ByteArray} {nL : Nat} {ret : Option FieldType} (htr : l.stackTraces = false)
    (hy : plainName y.cls = true) (hw : ws = Cond.code y cc nL ret :: ws') (hn : (lg_sl As).length ≤ nL)
    (k : J l K y.cls cc nL ret ws [] y.name fr lo mc ms (QM K mc ms Post) 0 [] (lv_args 0 As) h 0 0) : MX l K y ws fr lo mc ms As h Post := by
  refine vx_ofW (cc := cc) (maxL := nL) (ret := ret) hy hw ?_
  intro p e s m args below meth c s₁ B hml hout hv
  obtain ⟨rfl, hK, hR⟩ := hv
  have hts := atoms_spec (ws := ws) B.pre
  have hl := lv_entry As (n := nL) hn
  rw [lg_entry_eq]
  refine k p e s m _ below meth c ⟨B.exec, B.bytes, hml, findClass_of_methodNamed B.named, hts, B.notSynchronized, B.returns, (name_of_methodNamed B.named B.method).1, ?_, hK, htr, hR.2.1, hR.2.2⟩ s.heap [] _ hR va_S.rf hl
  cases ht : c.exceptionTable.toList with
  | nil => rfl
  | cons x t => exact (hout x (by rw [ht]; exact List.mem_cons_self)).elim
section Rules
variable {l : Launch} {K : Kx} {own : String} {cc : ByteArray} {nL : Nat} {ret : Option FieldType} {Ts : List Cond} {hh : List (Nat × Nat × Nat × Nat)} {nm : String} {fr lo mc ms : Nat} {Qf : State → Array Value → List Frame → State → Prop} {pc : Nat} {rest : List Value} {lv lv' : List (Nat × Value)} {h : Hp} {kc ks : Nat}
theorem J_iconst {n : Int} {v : Int32} (hd : decode cc pc = .ok (.iconst n, 1)) (hv : Int32.ofInt n = v) (k : J l K own cc nL ret Ts hh nm fr lo mc ms Qf (pc + 1) (.int v :: rest) lv h kc ks) : J l K own cc nL ret Ts hh nm fr lo mc ms Qf pc (rest) lv h kc ks :=
  fun p e s m args below meth c ok H locs ls hR hS hl => lv_iconst ok.1 ok.2.1 hd hv (k p e s m args below meth c ok H locs ls hR hS hl)
theorem J_bipush {n : Int} {v : Int32} (hd : decode cc pc = .ok (.bipush n, 2)) (hv : (Int8.ofInt n).toInt32 = v) (k : J l K own cc nL ret Ts hh nm fr lo mc ms Qf (pc + 2) (.int v :: rest) lv h kc ks) : J l K own cc nL ret Ts hh nm fr lo mc ms Qf pc (rest) lv h kc ks :=
  fun p e s m args below meth c ok H locs ls hR hS hl => lv_bipush ok.1 ok.2.1 hd hv (k p e s m args below meth c ok H locs ls hR hS hl)
theorem J_sipush {n : Int} {v : Int32} (hd : decode cc pc = .ok (.sipush n, 3)) (hv : (Int16.ofInt n).toInt32 = v) (k : J l K own cc nL ret Ts hh nm fr lo mc ms Qf (pc + 3) (.int v :: rest) lv h kc ks) : J l K own cc nL ret Ts hh nm fr lo mc ms Qf pc (rest) lv h kc ks :=
  fun p e s m args below meth c ok H locs ls hR hS hl => lv_sipush ok.1 ok.2.1 hd hv (k p e s m args below meth c ok H locs ls hR hS hl)
theorem J_lconst {n : Fin 2} {v : Int64} (hd : decode cc pc = .ok (.lconst n, 1)) (hv : Int64.ofNat (n : Nat) = v) (k : J l K own cc nL ret Ts hh nm fr lo mc ms Qf (pc + 1) (.long v :: rest) lv h kc ks) : J l K own cc nL ret Ts hh nm fr lo mc ms Qf pc (rest) lv h kc ks :=
  fun p e s m args below meth c ok H locs ls hR hS hl => lv_lconst ok.1 ok.2.1 hd hv (k p e s m args below meth c ok H locs ls hR hS hl)
theorem J_iload_n {k : Fin 4} {x : Int32} (hd : decode cc pc = .ok (.iload_n k, 1)) (q : Nat) (hv : lv[q]? = some ((k : Nat), .int x)) (k : J l K own cc nL ret Ts hh nm fr lo mc ms Qf (pc + 1) (.int x :: rest) lv h kc ks) : J l K own cc nL ret Ts hh nm fr lo mc ms Qf pc (rest) lv h kc ks :=
  fun p e s m args below meth c ok H locs ls hR hS hl => lv_iload_n ok.1 ok.2.1 hd rfl (lv_at hl q hv) (k p e s m args below meth c ok H locs ls hR hS hl)
theorem J_iload {i : Nat} {x : Int32} (hd : decode cc pc = .ok (.iload i, 2)) (q : Nat) (hv : lv[q]? = some (i, .int x)) (k : J l K own cc nL ret Ts hh nm fr lo mc ms Qf (pc + 2) (.int x :: rest) lv h kc ks) : J l K own cc nL ret Ts hh nm fr lo mc ms Qf pc (rest) lv h kc ks :=
  fun p e s m args below meth c ok H locs ls hR hS hl => lv_iload ok.1 ok.2.1 hd (lv_at hl q hv) (k p e s m args below meth c ok H locs ls hR hS hl)
theorem J_lload_n {k : Fin 4} {x : Int64} (hd : decode cc pc = .ok (.lload_n k, 1)) (q : Nat) (hv : lv[q]? = some ((k : Nat), .long x)) (k : J l K own cc nL ret Ts hh nm fr lo mc ms Qf (pc + 1) (.long x :: rest) lv h kc ks) : J l K own cc nL ret Ts hh nm fr lo mc ms Qf pc (rest) lv h kc ks :=
  fun p e s m args below meth c ok H locs ls hR hS hl => lv_lload_n ok.1 ok.2.1 hd rfl (lv_at hl q hv) (k p e s m args below meth c ok H locs ls hR hS hl)
theorem J_lload {i : Nat} {x : Int64} (hd : decode cc pc = .ok (.lload i, 2)) (q : Nat) (hv : lv[q]? = some (i, .long x)) (k : J l K own cc nL ret Ts hh nm fr lo mc ms Qf (pc + 2) (.long x :: rest) lv h kc ks) : J l K own cc nL ret Ts hh nm fr lo mc ms Qf pc (rest) lv h kc ks :=
  fun p e s m args below meth c ok H locs ls hR hS hl => lv_lload ok.1 ok.2.1 hd (lv_at hl q hv) (k p e s m args below meth c ok H locs ls hR hS hl)
theorem J_aload_n {k : Fin 4} {x : Nat} (hd : decode cc pc = .ok (.aload_n k, 1)) (q : Nat) (hv : lv[q]? = some ((k : Nat), .ref x)) (k : J l K own cc nL ret Ts hh nm fr lo mc ms Qf (pc + 1) (.ref x :: rest) lv h kc ks) : J l K own cc nL ret Ts hh nm fr lo mc ms Qf pc (rest) lv h kc ks :=
  fun p e s m args below meth c ok H locs ls hR hS hl => lv_aload_n ok.1 ok.2.1 hd rfl (lv_at hl q hv) (k p e s m args below meth c ok H locs ls hR hS hl)
theorem J_aload {i : Nat} {x : Nat} (hd : decode cc pc = .ok (.aload i, 2)) (q : Nat) (hv : lv[q]? = some (i, .ref x)) (k : J l K own cc nL ret Ts hh nm fr lo mc ms Qf (pc + 2) (.ref x :: rest) lv h kc ks) : J l K own cc nL ret Ts hh nm fr lo mc ms Qf pc (rest) lv h kc ks :=
  fun p e s m args below meth c ok H locs ls hR hS hl => lv_aload ok.1 ok.2.1 hd (lv_at hl q hv) (k p e s m args below meth c ok H locs ls hR hS hl)
theorem J_iadd {x y : Int32} (hd : decode cc pc = .ok (.iadd, 1)) (k : J l K own cc nL ret Ts hh nm fr lo mc ms Qf (pc + 1) (.int (x + y) :: rest) lv h kc ks) : J l K own cc nL ret Ts hh nm fr lo mc ms Qf pc (.int y :: .int x :: rest) lv h kc ks :=
  fun p e s m args below meth c ok H locs ls hR hS hl => lv_iadd ok.1 ok.2.1 hd (k p e s m args below meth c ok H locs ls hR hS hl)
theorem J_isub {x y : Int32} (hd : decode cc pc = .ok (.isub, 1)) (k : J l K own cc nL ret Ts hh nm fr lo mc ms Qf (pc + 1) (.int (x - y) :: rest) lv h kc ks) : J l K own cc nL ret Ts hh nm fr lo mc ms Qf pc (.int y :: .int x :: rest) lv h kc ks :=
  fun p e s m args below meth c ok H locs ls hR hS hl => lv_isub ok.1 ok.2.1 hd (k p e s m args below meth c ok H locs ls hR hS hl)
theorem J_imul {x y : Int32} (hd : decode cc pc = .ok (.imul, 1)) (k : J l K own cc nL ret Ts hh nm fr lo mc ms Qf (pc + 1) (.int (x * y) :: rest) lv h kc ks) : J l K own cc nL ret Ts hh nm fr lo mc ms Qf pc (.int y :: .int x :: rest) lv h kc ks :=
  fun p e s m args below meth c ok H locs ls hR hS hl => lv_imul ok.1 ok.2.1 hd (k p e s m args below meth c ok H locs ls hR hS hl)
theorem J_iand {x y : Int32} (hd : decode cc pc = .ok (.iand, 1)) (k : J l K own cc nL ret Ts hh nm fr lo mc ms Qf (pc + 1) (.int (x &&& y) :: rest) lv h kc ks) : J l K own cc nL ret Ts hh nm fr lo mc ms Qf pc (.int y :: .int x :: rest) lv h kc ks :=
  fun p e s m args below meth c ok H locs ls hR hS hl => lv_iand ok.1 ok.2.1 hd (k p e s m args below meth c ok H locs ls hR hS hl)
theorem J_ior {x y : Int32} (hd : decode cc pc = .ok (.ior, 1)) (k : J l K own cc nL ret Ts hh nm fr lo mc ms Qf (pc + 1) (.int (x ||| y) :: rest) lv h kc ks) : J l K own cc nL ret Ts hh nm fr lo mc ms Qf pc (.int y :: .int x :: rest) lv h kc ks :=
  fun p e s m args below meth c ok H locs ls hR hS hl => lv_ior ok.1 ok.2.1 hd (k p e s m args below meth c ok H locs ls hR hS hl)
theorem J_ixor {x y : Int32} (hd : decode cc pc = .ok (.ixor, 1)) (k : J l K own cc nL ret Ts hh nm fr lo mc ms Qf (pc + 1) (.int (x ^^^ y) :: rest) lv h kc ks) : J l K own cc nL ret Ts hh nm fr lo mc ms Qf pc (.int y :: .int x :: rest) lv h kc ks :=
  fun p e s m args below meth c ok H locs ls hR hS hl => lv_ixor ok.1 ok.2.1 hd (k p e s m args below meth c ok H locs ls hR hS hl)
theorem J_ladd {x y : Int64} (hd : decode cc pc = .ok (.ladd, 1)) (k : J l K own cc nL ret Ts hh nm fr lo mc ms Qf (pc + 1) (.long (x + y) :: rest) lv h kc ks) : J l K own cc nL ret Ts hh nm fr lo mc ms Qf pc (.long y :: .long x :: rest) lv h kc ks :=
  fun p e s m args below meth c ok H locs ls hR hS hl => lv_ladd ok.1 ok.2.1 hd (k p e s m args below meth c ok H locs ls hR hS hl)
theorem J_land {x y : Int64} (hd : decode cc pc = .ok (.land, 1)) (k : J l K own cc nL ret Ts hh nm fr lo mc ms Qf (pc + 1) (.long (x &&& y) :: rest) lv h kc ks) : J l K own cc nL ret Ts hh nm fr lo mc ms Qf pc (.long y :: .long x :: rest) lv h kc ks :=
  fun p e s m args below meth c ok H locs ls hR hS hl => lv_land ok.1 ok.2.1 hd (k p e s m args below meth c ok H locs ls hR hS hl)
theorem J_lor {x y : Int64} (hd : decode cc pc = .ok (.lor, 1)) (k : J l K own cc nL ret Ts hh nm fr lo mc ms Qf (pc + 1) (.long (x ||| y) :: rest) lv h kc ks) : J l K own cc nL ret Ts hh nm fr lo mc ms Qf pc (.long y :: .long x :: rest) lv h kc ks :=
  fun p e s m args below meth c ok H locs ls hR hS hl => lv_lor ok.1 ok.2.1 hd (k p e s m args below meth c ok H locs ls hR hS hl)
theorem J_ishl {x y : Int32} (hd : decode cc pc = .ok (.ishl, 1)) (k : J l K own cc nL ret Ts hh nm fr lo mc ms Qf (pc + 1) (.int (x <<< (y &&& 31)) :: rest) lv h kc ks) : J l K own cc nL ret Ts hh nm fr lo mc ms Qf pc (.int y :: .int x :: rest) lv h kc ks :=
  fun p e s m args below meth c ok H locs ls hR hS hl => lv_ishl ok.1 ok.2.1 hd (k p e s m args below meth c ok H locs ls hR hS hl)
theorem J_ishr {x y : Int32} (hd : decode cc pc = .ok (.ishr, 1)) (k : J l K own cc nL ret Ts hh nm fr lo mc ms Qf (pc + 1) (.int (x >>> (y &&& 31)) :: rest) lv h kc ks) : J l K own cc nL ret Ts hh nm fr lo mc ms Qf pc (.int y :: .int x :: rest) lv h kc ks :=
  fun p e s m args below meth c ok H locs ls hR hS hl => lv_ishr ok.1 ok.2.1 hd (k p e s m args below meth c ok H locs ls hR hS hl)
theorem J_lshl {x : Int64} {y : Int32} (hd : decode cc pc = .ok (.lshl, 1)) (k : J l K own cc nL ret Ts hh nm fr lo mc ms Qf (pc + 1) (.long (x <<< (y.toInt64 &&& 63)) :: rest) lv h kc ks) : J l K own cc nL ret Ts hh nm fr lo mc ms Qf pc (.int y :: .long x :: rest) lv h kc ks :=
  fun p e s m args below meth c ok H locs ls hR hS hl => lv_lshl ok.1 ok.2.1 hd rfl (k p e s m args below meth c ok H locs ls hR hS hl)
theorem J_lushr {x : Int64} {y : Int32} (hd : decode cc pc = .ok (.lushr, 1)) (k : J l K own cc nL ret Ts hh nm fr lo mc ms Qf (pc + 1) (.long (x.toUInt64 >>> (y.toInt64.toUInt64 &&& Int64.toUInt64 63)).toInt64 :: rest) lv h kc ks) : J l K own cc nL ret Ts hh nm fr lo mc ms Qf pc (.int y :: .long x :: rest) lv h kc ks :=
  fun p e s m args below meth c ok H locs ls hR hS hl => lv_lushr ok.1 ok.2.1 hd rfl (k p e s m args below meth c ok H locs ls hR hS hl)
theorem J_i2l {x : Int32} (hd : decode cc pc = .ok (.i2l, 1)) (k : J l K own cc nL ret Ts hh nm fr lo mc ms Qf (pc + 1) (.long x.toInt64 :: rest) lv h kc ks) : J l K own cc nL ret Ts hh nm fr lo mc ms Qf pc (.int x :: rest) lv h kc ks :=
  fun p e s m args below meth c ok H locs ls hR hS hl => lv_i2l ok.1 ok.2.1 hd rfl (k p e s m args below meth c ok H locs ls hR hS hl)
theorem J_l2i {x : Int64} (hd : decode cc pc = .ok (.l2i, 1)) (k : J l K own cc nL ret Ts hh nm fr lo mc ms Qf (pc + 1) (.int x.toInt32 :: rest) lv h kc ks) : J l K own cc nL ret Ts hh nm fr lo mc ms Qf pc (.long x :: rest) lv h kc ks :=
  fun p e s m args below meth c ok H locs ls hR hS hl => lv_l2i ok.1 ok.2.1 hd rfl (k p e s m args below meth c ok H locs ls hR hS hl)
theorem J_dup {va : Value} (hd : decode cc pc = .ok (.dup, 1)) (hva : va.category = 1) (k : J l K own cc nL ret Ts hh nm fr lo mc ms Qf (pc + 1) (va :: va :: rest) lv h kc ks) : J l K own cc nL ret Ts hh nm fr lo mc ms Qf pc (va :: rest) lv h kc ks :=
  fun p e s m args below meth c ok H locs ls hR hS hl => lv_dup ok.1 ok.2.1 hd hva (k p e s m args below meth c ok H locs ls hR hS hl)
theorem J_pop {va : Value} (hd : decode cc pc = .ok (.pop, 1)) (hva : va.category = 1) (k : J l K own cc nL ret Ts hh nm fr lo mc ms Qf (pc + 1) (rest) lv h kc ks) : J l K own cc nL ret Ts hh nm fr lo mc ms Qf pc (va :: rest) lv h kc ks :=
  fun p e s m args below meth c ok H locs ls hR hS hl => lv_pop ok.1 ok.2.1 hd hva (k p e s m args below meth c ok H locs ls hR hS hl)
theorem J_dup2 {va vb : Value} (hd : decode cc pc = .ok (.dup2, 1)) (hva : va.category = 1) (hvb : vb.category = 1) (k : J l K own cc nL ret Ts hh nm fr lo mc ms Qf (pc + 1) (va :: vb :: va :: vb :: rest) lv h kc ks) : J l K own cc nL ret Ts hh nm fr lo mc ms Qf pc (va :: vb :: rest) lv h kc ks :=
  fun p e s m args below meth c ok H locs ls hR hS hl => lv_dup2_11 ok.1 ok.2.1 hd hva hvb (k p e s m args below meth c ok H locs ls hR hS hl)
theorem J_istore_n {k : Fin 4} {i : Nat} {x : Int32} (hd : decode cc pc = .ok (.istore_n k, 1)) (hi : (k : Nat) = i) (hn : i < nL) (hv : (i, Value.int x) :: lv.filter (fun q => !(q.1 == i) && !(q.1 + 1 == i && q.2.category == 2)) = lv') (k : J l K own cc nL ret Ts hh nm fr lo mc ms Qf (pc + 1) rest lv' h kc ks) : J l K own cc nL ret Ts hh nm fr lo mc ms Qf pc (.int x :: rest) lv h kc ks :=
  fun p e s m args below meth c ok H locs ls hR hS hl => lv_istore_n ok.1 ok.2.1 hd hi hl hn hv fun ls' hl' => k p e s m args below meth c ok H locs ls' hR hS hl'
theorem J_istore {i : Nat} {x : Int32} (hd : decode cc pc = .ok (.istore i, 2)) (hn : i < nL) (hv : (i, Value.int x) :: lv.filter (fun q => !(q.1 == i) && !(q.1 + 1 == i && q.2.category == 2)) = lv') (k : J l K own cc nL ret Ts hh nm fr lo mc ms Qf (pc + 2) rest lv' h kc ks) : J l K own cc nL ret Ts hh nm fr lo mc ms Qf pc (.int x :: rest) lv h kc ks :=
  fun p e s m args below meth c ok H locs ls hR hS hl => lv_istore ok.1 ok.2.1 hd hl hn hv fun ls' hl' => k p e s m args below meth c ok H locs ls' hR hS hl'
theorem J_astore_n {k : Fin 4} {i : Nat} {x : Nat} (hd : decode cc pc = .ok (.astore_n k, 1)) (hi : (k : Nat) = i) (hn : i < nL) (hv : (i, Value.ref x) :: lv.filter (fun q => !(q.1 == i) && !(q.1 + 1 == i && q.2.category == 2)) = lv') (k : J l K own cc nL ret Ts hh nm fr lo mc ms Qf (pc + 1) rest lv' h kc ks) : J l K own cc nL ret Ts hh nm fr lo mc ms Qf pc (.ref x :: rest) lv h kc ks :=
  fun p e s m args below meth c ok H locs ls hR hS hl => lv_astore_n ok.1 ok.2.1 hd hi hl hn hv fun ls' hl' => k p e s m args below meth c ok H locs ls' hR hS hl'
theorem J_astore {i : Nat} {x : Nat} (hd : decode cc pc = .ok (.astore i, 2)) (hn : i < nL) (hv : (i, Value.ref x) :: lv.filter (fun q => !(q.1 == i) && !(q.1 + 1 == i && q.2.category == 2)) = lv') (k : J l K own cc nL ret Ts hh nm fr lo mc ms Qf (pc + 2) rest lv' h kc ks) : J l K own cc nL ret Ts hh nm fr lo mc ms Qf pc (.ref x :: rest) lv h kc ks :=
  fun p e s m args below meth c ok H locs ls hR hS hl => lv_astore ok.1 ok.2.1 hd hl hn hv fun ls' hl' => k p e s m args below meth c ok H locs ls' hR hS hl'
theorem J_lstore_n {k : Fin 4} {i : Nat} {x : Int64} (hd : decode cc pc = .ok (.lstore_n k, 1)) (hi : (k : Nat) = i) (hn : i + 1 < nL) (hv : (i, Value.long x) :: lv.filter (fun q => !(q.1 == i) && (!(q.1 == i + 1) && !(q.1 + 1 == i && q.2.category == 2))) = lv') (k : J l K own cc nL ret Ts hh nm fr lo mc ms Qf (pc + 1) rest lv' h kc ks) : J l K own cc nL ret Ts hh nm fr lo mc ms Qf pc (.long x :: rest) lv h kc ks :=
  fun p e s m args below meth c ok H locs ls hR hS hl => lv_lstore_n ok.1 ok.2.1 hd hi hl hn hv fun ls' hl' => k p e s m args below meth c ok H locs ls' hR hS hl'
theorem J_lstore {i : Nat} {x : Int64} (hd : decode cc pc = .ok (.lstore i, 2)) (hn : i + 1 < nL) (hv : (i, Value.long x) :: lv.filter (fun q => !(q.1 == i) && (!(q.1 == i + 1) && !(q.1 + 1 == i && q.2.category == 2))) = lv') (k : J l K own cc nL ret Ts hh nm fr lo mc ms Qf (pc + 2) rest lv' h kc ks) : J l K own cc nL ret Ts hh nm fr lo mc ms Qf pc (.long x :: rest) lv h kc ks :=
  fun p e s m args below meth c ok H locs ls hR hS hl => lv_lstore ok.1 ok.2.1 hd hl hn hv fun ls' hl' => k p e s m args below meth c ok H locs ls' hR hS hl'
theorem J_astore_nq {k : Fin 4} {i : Nat} {x : Option Nat} (hd : decode cc pc = .ok (.astore_n k, 1)) (hi : (k : Nat) = i) (hn : i < nL) (hv : (i, va_rf x) :: lv.filter (fun q => !(q.1 == i) && !(q.1 + 1 == i && q.2.category == 2)) = lv') (k : J l K own cc nL ret Ts hh nm fr lo mc ms Qf (pc + 1) rest lv' h kc ks) : J l K own cc nL ret Ts hh nm fr lo mc ms Qf pc (va_rf x :: rest) lv h kc ks := by
  cases x with
  | none => exact fun p e s m args below meth c ok H locs ls hR hS hl => lv_astore_nN ok.1 ok.2.1 hd hi hl hn hv fun ls' hl' => k p e s m args below meth c ok H locs ls' hR hS hl'
  | some x => exact fun p e s m args below meth c ok H locs ls hR hS hl => lv_astore_n ok.1 ok.2.1 hd hi hl hn hv fun ls' hl' => k p e s m args below meth c ok H locs ls' hR hS hl'
theorem J_astoreq {i : Nat} {x : Option Nat} (hd : decode cc pc = .ok (.astore i, 2)) (hn : i < nL) (hv : (i, va_rf x) :: lv.filter (fun q => !(q.1 == i) && !(q.1 + 1 == i && q.2.category == 2)) = lv') (k : J l K own cc nL ret Ts hh nm fr lo mc ms Qf (pc + 2) rest lv' h kc ks) : J l K own cc nL ret Ts hh nm fr lo mc ms Qf pc (va_rf x :: rest) lv h kc ks := by
  cases x with
  | none => exact fun p e s m args below meth c ok H locs ls hR hS hl => lv_astoreN ok.1 ok.2.1 hd hl hn hv fun ls' hl' => k p e s m args below meth c ok H locs ls' hR hS hl'
  | some x => exact fun p e s m args below meth c ok H locs ls hR hS hl => lv_astore ok.1 ok.2.1 hd hl hn hv fun ls' hl' => k p e s m args below meth c ok H locs ls' hR hS hl'
theorem J_iinc {i : Nat} {n : Int} {x v : Int32} (hd : decode cc pc = .ok (.iinc i n, 3)) (q : Nat) (hq : lv[q]? = some (i, .int x)) (hv : x + Int32.ofInt n = v) (hn : i < nL) (hl' : (i, Value.int v) :: lv.filter (fun q => !(q.1 == i) && !(q.1 + 1 == i && q.2.category == 2)) = lv') (k : J l K own cc nL ret Ts hh nm fr lo mc ms Qf (pc + 3) rest lv' h kc ks) : J l K own cc nL ret Ts hh nm fr lo mc ms Qf pc rest lv h kc ks :=
  fun p e s m args below meth c ok H locs ls hR hS hl => lv_iinc ok.1 ok.2.1 hd hl hq hv hn hl' fun ls' hl' => k p e s m args below meth c ok H locs ls' hR hS hl'
theorem J_goto {off : Int} {tgt : Nat} (hd : decode cc pc = .ok (.goto off, 3)) (ht : (pc : Int) + off = (tgt : Int)) (k : J l K own cc nL ret Ts hh nm fr lo mc ms Qf tgt rest lv h kc ks) : J l K own cc nL ret Ts hh nm fr lo mc ms Qf pc rest lv h kc ks :=
  fun p e s m args below meth c ok H locs ls hR hS hl => lv_goto ok.1 ok.2.1 hd ht (k p e s m args below meth c ok H locs ls hR hS hl)
theorem J_icmp_eq {x y : Int32} {off : Int} {tgt : Nat} (hd : decode cc pc = .ok (.if_icmp .eq off, 3)) (ht : (pc : Int) + off = (tgt : Int)) (kt : x = y → J l K own cc nL ret Ts hh nm fr lo mc ms Qf tgt rest lv h kc ks) (kf : ¬ x = y → J l K own cc nL ret Ts hh nm fr lo mc ms Qf (pc + 3) rest lv h kc ks) : J l K own cc nL ret Ts hh nm fr lo mc ms Qf pc (.int y :: .int x :: rest) lv h kc ks :=
  fun p e s m args below meth c ok H locs ls hR hS hl => lv_icmp_eq ok.1 ok.2.1 hd ht (fun c9 => kt c9 p e s m args below meth c ok H locs ls hR hS hl) (fun c9 => kf c9 p e s m args below meth c ok H locs ls hR hS hl)
theorem J_icmp_lt {x y : Int32} {off : Int} {tgt : Nat} (hd : decode cc pc = .ok (.if_icmp .lt off, 3)) (ht : (pc : Int) + off = (tgt : Int)) (kt : x < y → J l K own cc nL ret Ts hh nm fr lo mc ms Qf tgt rest lv h kc ks) (kf : ¬ x < y → J l K own cc nL ret Ts hh nm fr lo mc ms Qf (pc + 3) rest lv h kc ks) : J l K own cc nL ret Ts hh nm fr lo mc ms Qf pc (.int y :: .int x :: rest) lv h kc ks :=
  fun p e s m args below meth c ok H locs ls hR hS hl => lv_icmp_lt ok.1 ok.2.1 hd ht (fun c9 => kt c9 p e s m args below meth c ok H locs ls hR hS hl) (fun c9 => kf c9 p e s m args below meth c ok H locs ls hR hS hl)
theorem J_icmp_ge {x y : Int32} {off : Int} {tgt : Nat} (hd : decode cc pc = .ok (.if_icmp .ge off, 3)) (ht : (pc : Int) + off = (tgt : Int)) (kt : y ≤ x → J l K own cc nL ret Ts hh nm fr lo mc ms Qf tgt rest lv h kc ks) (kf : ¬ y ≤ x → J l K own cc nL ret Ts hh nm fr lo mc ms Qf (pc + 3) rest lv h kc ks) : J l K own cc nL ret Ts hh nm fr lo mc ms Qf pc (.int y :: .int x :: rest) lv h kc ks :=
  fun p e s m args below meth c ok H locs ls hR hS hl => lv_icmp_ge ok.1 ok.2.1 hd ht (fun c9 => kt c9 p e s m args below meth c ok H locs ls hR hS hl) (fun c9 => kf c9 p e s m args below meth c ok H locs ls hR hS hl)
theorem J_icmp_gt {x y : Int32} {off : Int} {tgt : Nat} (hd : decode cc pc = .ok (.if_icmp .gt off, 3)) (ht : (pc : Int) + off = (tgt : Int)) (kt : y < x → J l K own cc nL ret Ts hh nm fr lo mc ms Qf tgt rest lv h kc ks) (kf : ¬ y < x → J l K own cc nL ret Ts hh nm fr lo mc ms Qf (pc + 3) rest lv h kc ks) : J l K own cc nL ret Ts hh nm fr lo mc ms Qf pc (.int y :: .int x :: rest) lv h kc ks :=
  fun p e s m args below meth c ok H locs ls hR hS hl => lv_icmp_gt ok.1 ok.2.1 hd ht (fun c9 => kt c9 p e s m args below meth c ok H locs ls hR hS hl) (fun c9 => kf c9 p e s m args below meth c ok H locs ls hR hS hl)
theorem J_icmp_le {x y : Int32} {off : Int} {tgt : Nat} (hd : decode cc pc = .ok (.if_icmp .le off, 3)) (ht : (pc : Int) + off = (tgt : Int)) (kt : x ≤ y → J l K own cc nL ret Ts hh nm fr lo mc ms Qf tgt rest lv h kc ks) (kf : ¬ x ≤ y → J l K own cc nL ret Ts hh nm fr lo mc ms Qf (pc + 3) rest lv h kc ks) : J l K own cc nL ret Ts hh nm fr lo mc ms Qf pc (.int y :: .int x :: rest) lv h kc ks :=
  fun p e s m args below meth c ok H locs ls hR hS hl => lv_icmp_le ok.1 ok.2.1 hd ht (fun c9 => kt c9 p e s m args below meth c ok H locs ls hR hS hl) (fun c9 => kf c9 p e s m args below meth c ok H locs ls hR hS hl)
theorem J_if_eq {x : Int32} {off : Int} {tgt : Nat} (hd : decode cc pc = .ok (.ifCond .eq off, 3)) (ht : (pc : Int) + off = (tgt : Int)) (kt : x = 0 → J l K own cc nL ret Ts hh nm fr lo mc ms Qf tgt rest lv h kc ks) (kf : ¬ x = 0 → J l K own cc nL ret Ts hh nm fr lo mc ms Qf (pc + 3) rest lv h kc ks) : J l K own cc nL ret Ts hh nm fr lo mc ms Qf pc (.int x :: rest) lv h kc ks :=
  fun p e s m args below meth c ok H locs ls hR hS hl => lv_if_eq ok.1 ok.2.1 hd ht (fun c9 => kt c9 p e s m args below meth c ok H locs ls hR hS hl) (fun c9 => kf c9 p e s m args below meth c ok H locs ls hR hS hl)
theorem J_if_lt {x : Int32} {off : Int} {tgt : Nat} (hd : decode cc pc = .ok (.ifCond .lt off, 3)) (ht : (pc : Int) + off = (tgt : Int)) (kt : x < 0 → J l K own cc nL ret Ts hh nm fr lo mc ms Qf tgt rest lv h kc ks) (kf : ¬ x < 0 → J l K own cc nL ret Ts hh nm fr lo mc ms Qf (pc + 3) rest lv h kc ks) : J l K own cc nL ret Ts hh nm fr lo mc ms Qf pc (.int x :: rest) lv h kc ks :=
  fun p e s m args below meth c ok H locs ls hR hS hl => lv_if_lt ok.1 ok.2.1 hd ht (fun c9 => kt c9 p e s m args below meth c ok H locs ls hR hS hl) (fun c9 => kf c9 p e s m args below meth c ok H locs ls hR hS hl)
theorem J_if_ge {x : Int32} {off : Int} {tgt : Nat} (hd : decode cc pc = .ok (.ifCond .ge off, 3)) (ht : (pc : Int) + off = (tgt : Int)) (kt : 0 ≤ x → J l K own cc nL ret Ts hh nm fr lo mc ms Qf tgt rest lv h kc ks) (kf : ¬ 0 ≤ x → J l K own cc nL ret Ts hh nm fr lo mc ms Qf (pc + 3) rest lv h kc ks) : J l K own cc nL ret Ts hh nm fr lo mc ms Qf pc (.int x :: rest) lv h kc ks :=
  fun p e s m args below meth c ok H locs ls hR hS hl => lv_if_ge ok.1 ok.2.1 hd ht (fun c9 => kt c9 p e s m args below meth c ok H locs ls hR hS hl) (fun c9 => kf c9 p e s m args below meth c ok H locs ls hR hS hl)
theorem J_if_gt {x : Int32} {off : Int} {tgt : Nat} (hd : decode cc pc = .ok (.ifCond .gt off, 3)) (ht : (pc : Int) + off = (tgt : Int)) (kt : 0 < x → J l K own cc nL ret Ts hh nm fr lo mc ms Qf tgt rest lv h kc ks) (kf : ¬ 0 < x → J l K own cc nL ret Ts hh nm fr lo mc ms Qf (pc + 3) rest lv h kc ks) : J l K own cc nL ret Ts hh nm fr lo mc ms Qf pc (.int x :: rest) lv h kc ks :=
  fun p e s m args below meth c ok H locs ls hR hS hl => lv_if_gt ok.1 ok.2.1 hd ht (fun c9 => kt c9 p e s m args below meth c ok H locs ls hR hS hl) (fun c9 => kf c9 p e s m args below meth c ok H locs ls hR hS hl)
theorem J_if_le {x : Int32} {off : Int} {tgt : Nat} (hd : decode cc pc = .ok (.ifCond .le off, 3)) (ht : (pc : Int) + off = (tgt : Int)) (kt : x ≤ 0 → J l K own cc nL ret Ts hh nm fr lo mc ms Qf tgt rest lv h kc ks) (kf : ¬ x ≤ 0 → J l K own cc nL ret Ts hh nm fr lo mc ms Qf (pc + 3) rest lv h kc ks) : J l K own cc nL ret Ts hh nm fr lo mc ms Qf pc (.int x :: rest) lv h kc ks :=
  fun p e s m args below meth c ok H locs ls hR hS hl => lv_if_le ok.1 ok.2.1 hd ht (fun c9 => kt c9 p e s m args below meth c ok H locs ls hR hS hl) (fun c9 => kf c9 p e s m args below meth c ok H locs ls hR hS hl)
theorem J_icmp_ne {x y : Int32} {off : Int} {tgt : Nat} (hd : decode cc pc = .ok (.if_icmp .ne off, 3)) (ht : (pc : Int) + off = (tgt : Int)) (kt : ¬ x = y → J l K own cc nL ret Ts hh nm fr lo mc ms Qf tgt rest lv h kc ks) (kf : x = y → J l K own cc nL ret Ts hh nm fr lo mc ms Qf (pc + 3) rest lv h kc ks) : J l K own cc nL ret Ts hh nm fr lo mc ms Qf pc (.int y :: .int x :: rest) lv h kc ks :=
  fun p e s m args below meth c ok H locs ls hR hS hl => lv_icmp_ne ok.1 ok.2.1 hd ht (fun c9 => kt c9 p e s m args below meth c ok H locs ls hR hS hl) (fun c9 => kf c9 p e s m args below meth c ok H locs ls hR hS hl)
theorem J_if_ne {x : Int32} {off : Int} {tgt : Nat} (hd : decode cc pc = .ok (.ifCond .ne off, 3)) (ht : (pc : Int) + off = (tgt : Int)) (kt : ¬ x = 0 → J l K own cc nL ret Ts hh nm fr lo mc ms Qf tgt rest lv h kc ks) (kf : x = 0 → J l K own cc nL ret Ts hh nm fr lo mc ms Qf (pc + 3) rest lv h kc ks) : J l K own cc nL ret Ts hh nm fr lo mc ms Qf pc (.int x :: rest) lv h kc ks :=
  fun p e s m args below meth c ok H locs ls hR hS hl => lv_if_ne ok.1 ok.2.1 hd ht (fun c9 => kt c9 p e s m args below meth c ok H locs ls hR hS hl) (fun c9 => kf c9 p e s m args below meth c ok H locs ls hR hS hl)
theorem J_lcmp {x y : Int64} (hd : decode cc pc = .ok (.lcmp, 1)) (k : J l K own cc nL ret Ts hh nm fr lo mc ms Qf (pc + 1) (.int (lg_cmp x y) :: rest) lv h kc ks) : J l K own cc nL ret Ts hh nm fr lo mc ms Qf pc (.long y :: .long x :: rest) lv h kc ks :=
  fun p e s m args below meth c ok H locs ls hR hS hl => W.lcmp ok.1 ok.2.1 hd (k p e s m args below meth c ok H locs ls hR hS hl)
theorem J_null (hd : decode cc pc = .ok (.aconst_null, 1)) (k : J l K own cc nL ret Ts hh nm fr lo mc ms Qf (pc + 1) (va_rf none :: rest) lv h kc ks) : J l K own cc nL ret Ts hh nm fr lo mc ms Qf pc (rest) lv h kc ks :=
  fun p e s m args below meth c ok H locs ls hR hS hl => lv_null ok.1 ok.2.1 hd (k p e s m args below meth c ok H locs ls hR hS hl)
theorem J_ifnull {x : Option Nat} {off : Int} {tgt : Nat} (hd : decode cc pc = .ok (.ifnull off, 3)) (ht : (pc : Int) + off = (tgt : Int)) (kt : x = none → J l K own cc nL ret Ts hh nm fr lo mc ms Qf tgt rest lv h kc ks) (kf : ∀ y, x = some y → J l K own cc nL ret Ts hh nm fr lo mc ms Qf (pc + 3) rest lv h kc ks) : J l K own cc nL ret Ts hh nm fr lo mc ms Qf pc (va_rf x :: rest) lv h kc ks := by
  cases x with
  | none => exact fun p e s m args below meth c ok H locs ls hR hS hl => lv_ifnullN ok.1 ok.2.1 hd ht (kt rfl p e s m args below meth c ok H locs ls hR hS hl)
  | some y => exact fun p e s m args below meth c ok H locs ls hR hS hl => lv_ifnull ok.1 ok.2.1 hd (kf y rfl p e s m args below meth c ok H locs ls hR hS hl)
theorem J_ifnonnull {x : Option Nat} {off : Int} {tgt : Nat} (hd : decode cc pc = .ok (.ifnonnull off, 3)) (ht : (pc : Int) + off = (tgt : Int)) (kt : ∀ y, x = some y → J l K own cc nL ret Ts hh nm fr lo mc ms Qf tgt rest lv h kc ks) (kf : x = none → J l K own cc nL ret Ts hh nm fr lo mc ms Qf (pc + 3) rest lv h kc ks) : J l K own cc nL ret Ts hh nm fr lo mc ms Qf pc (va_rf x :: rest) lv h kc ks := by
  cases x with
  | none => exact fun p e s m args below meth c ok H locs ls hR hS hl => lv_ifnonnullN ok.1 ok.2.1 hd (kf rfl p e s m args below meth c ok H locs ls hR hS hl)
  | some y => exact fun p e s m args below meth c ok H locs ls hR hS hl => lv_ifnonnull ok.1 ok.2.1 hd ht (kt y rfl p e s m args below meth c ok H locs ls hR hS hl)
theorem J_sub (qs : List Nat) (hq : lv_pick lv qs = lv') (k : J l K own cc nL ret Ts hh nm fr lo mc ms Qf pc rest lv' h kc ks) : J l K own cc nL ret Ts hh nm fr lo mc ms Qf pc rest lv h kc ks :=
  fun p e s m args below meth c ok H locs ls hR hS hl => k p e s m args below meth c ok H locs ls hR hS (lv_sub hl qs hq)
theorem J_wide {kc' ks' : Nat} (h1 : kc ≤ kc') (h2 : ks ≤ ks') (k : J l K own cc nL ret Ts hh nm fr lo mc ms Qf pc rest lv h kc' ks') : J l K own cc nL ret Ts hh nm fr lo mc ms Qf pc rest lv h kc ks :=
  fun p e s m args below meth c ok H locs ls hR hS hl => W.widen h1 h2 (k p e s m args below meth c ok H locs ls hR hS hl)
end Rules
