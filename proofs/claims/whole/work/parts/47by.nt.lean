/-! ===== NoSuchElementException: its constructor links its super by another index than the words of the kit say ===== -/
def ntX : String := "java/util/NoSuchElementException"
def ntR : String := "java/lang/RuntimeException"
def ntN : List String := ["java/lang/RuntimeException", "java/lang/Exception"]
def ntB : ByteArray := prog_19_method_4_code
theorem nt_0 : decode ntB 0 = .ok (.aload_n 0, 1) := by decide +kernel
theorem nt_1 : decode ntB 1 = .ok (.aload_n 1, 1) := by decide +kernel
theorem nt_2 : decode ntB 2 = .ok (.invokespecial 13, 3) := by decide +kernel
theorem nt_5 : decode ntB 5 = .ok (.return_, 1) := by decide +kernel
def nt_all (own : String) (ic : Nat) : List Cond := Bundle.throwableAtoms ++ Bundle.throwableSAtoms ++ (Bundle.passSAtoms ntX ntR 13 ntB ++ Bundle.chainSAtoms ntR ["java/lang/Exception"]) ++
  [.methodLink own ic (Bundle.initS ntX), .instantiable ntX 6, .castable ntX ntX, .selects ntX Bundle.tFill0 Bundle.tFill0, .selects ntX Bundle.tFill Bundle.tFill,
   .lays ntX Bundle.tN "cause" "Ljava/lang/Throwable;", .lays ntX Bundle.tN "stackTrace" Bundle.steD, .lays ntX Bundle.tN "suppressedExceptions" Bundle.listD, .lays ntX Bundle.tN "detailMessage" "Ljava/lang/String;",
   .isRef (.static Bundle.tN "UNASSIGNED_STACK" Bundle.steD), .isRef (.static Bundle.tN "SUPPRESSED_SENTINEL" Bundle.listD),
   .fieldLink Bundle.tN 198 Bundle.tN "backtrace" "Ljava/lang/Object;", .lays Bundle.tN Bundle.tN "backtrace" "Ljava/lang/Object;", .lays ntX Bundle.tN "backtrace" "Ljava/lang/Object;"]
def nt_at (own : String) (ic : Nat) : List Cond := (nt_all own ic).filter vx_no
section Nt
variable {p : Program} {l : Launch} {e : Env} {R : Room} {s : State} {m : MethodId} {args : Array Value} {below : List Frame} {meth : Method} {c : Code} {W : State} {locs : List Loc} {cells slots : Nat}
set_option maxHeartbeats 2000000 in
theorem nt_ctor (X : Stand p l e R s m args below meth c W locs cells slots) (hexec : p.tables.exec = Jvm.exec) (htr : e.platform.stackTraces = false) {own : String} {ic : Nat} (hown : s.vm.findClass own = some m.cls) (h : ∀ w ∈ nt_all own ic, w.before args s = true) (hlocs : locs = [])
    {a : Addr} {cX : ClassId} {kX : Class} (hfX : s.vm.findClass ntX = some cX) (hkX : s.vm.classes[cX]? = some kX) (hcell : W.heap[a]? = some (freshCell cX kX)) (hnew : s.heap.size ≤ a) {msg : Value} (hmsg : msg.isRef = true)
    {g : JFrame} (hg : g.method = m) (hsize : g.locals.size = c.maxLocals) (hlocked : g.locked = none) (hentered : g.entered = []) {rest : List Value} (hstack : g.stack = msg :: .ref a :: .ref a :: rest)
    (hd6 : decode c.code g.pc = .ok (.invokespecial ic, 3)) (hd9 : decode c.code (g.pc + 3) = .ok (.athrow, 1)) (hout : ∀ x ∈ c.exceptionTable.toList, covers x (g.pc + 3) = false)
    (hRframes : 5 < R.frames) (hRlocals : 2 * g.monitorRoom + ((Value.ref a :: rest).map fun v => v.category).sum + 81 ≤ R.locals) (hlocks : meth.locks = false) :
    ∃ U : State, Steps p.tables e below (W.setTop g) U ∧ U.status = .running ∧ Ended U below (.threw a) ∧ s.WarmedH U.vm ∧ s.sameButNew ({ U with vm := s.vm } : State) locs cells slots ∧ ∃ ce, U.heap[a]? = some ce ∧ s.vm.findClass ntX = some ce.cls ∧ ce.vm = .none := by
  have q1 : e.platform.frameOwnsMonitors = true := by rw [X.admits.platform]
  have q2 : e.platform.finalization = false := by rw [X.admits.platform]
  have hpl : e.platform.magicAccessors = ({} : Platform).magicAccessors := by rw [X.admits.platform]
  have hw : ∀ w, w ∈ nt_all own ic → w.holds args s none s [] = true := fun w hx => h w hx
  obtain ⟨T, Z0, L, -, Y⟩ := ThrowableC.of_atoms (args := args) q1 q2 hpl (fun w hx => h w (by simp [nt_all, hx]))
  obtain ⟨Z, M, LZ, LM, hnZ⟩ := Init0T.ofS_atoms (args := args) hpl L Y (fun w hx => h w (by simp [nt_all, hx]))
  obtain ⟨P2, Ps, hlen, L2, hL, hm2, hsup2, hpass2⟩ := Bundle.chainS (args := args) hpl hnZ ["java/lang/Exception"] ntR (by decide) (by decide) (fun w hx => h w (by simp [nt_all, hx]))
  obtain ⟨P1, L1, hP1m, hP1s⟩ := PassC.ofS_atoms (args := args) (s := s) hpl (X := ntX) (Y := ntR) (by decide) (by decide) nt_0 nt_1 nt_2 nt_5 (fun w hx => h w (by simp [nt_all, hx]))
  have hs1 : P1.sup = P2.m := Option.some.inj (hP1s.symm.trans hm2)
  have hfound : s.vm.findClass ntX = some P1.m.cls := findClass_of_methodNamed hP1m
  have eX : cX = P1.m.cls := Option.some.inj (hfX.symm.trans hfound)
  subst eX
  obtain ⟨c1, kX', hc1, hk, hord, -, -, hn6⟩ := Cond.instantiable_spec (hw (.instantiable ntX 6) (by simp [nt_all]))
  have e1 : c1 = P1.m.cls := Option.some.inj (hc1.symm.trans hfound)
  subst e1
  have e2 : kX' = kX := Option.some.inj (hk.symm.trans hkX)
  subst e2
  have sel : ∀ (y : MethodName) (z : MethodId), Cond.selects ntX y y ∈ nt_all own ic → s.methodNamed? y = some z → s.methodFound? y.cls y.name y.desc = some z → selectMethod e.platform s.vm P1.m.cls z = .method z := fun y z hy hz hz2 => by
    obtain ⟨c2, r2, m2, w1, w2, w3, w4, -⟩ := Cond.selects_spec (hw _ hy)
    cases Option.some.inj (w1.symm.trans hfound)
    cases Option.some.inj (w2.symm.trans hz2)
    cases Option.some.inj (w3.symm.trans hz)
    rw [Launch.admits_selectMethod X.admits]; exact w4
  have hsel0 := sel Bundle.tFill0 T.fill0 (by simp [nt_all]) Y.fill0 (State.methodFound?_of_named Y.fill0 (by decide))
  have hselF := sel Bundle.tFill T.fill (by simp [nt_all]) Y.fill (State.methodFound?_of_named Y.fill (by decide))
  obtain ⟨cellS0, hcS0, hiss⟩ := Y.statics
  obtain ⟨u0, hu0⟩ := Cond.staticRefV Y.unassigned L.unassignedStatic L.statics hcS0 hiss (hw (.isRef (.static Bundle.tN "UNASSIGNED_STACK" Bundle.steD)) (by simp [nt_all]))
  obtain ⟨sen, hsen⟩ := Cond.staticRefV Y.sentinel L.sentinelStatic L.statics hcS0 hiss (hw (.isRef (.static Bundle.tN "SUPPRESSED_SENTINEL" Bundle.listD)) (by simp [nt_all]))
  obtain ⟨ci198, i198, fB, b1, b2, b3, b4, -, hnB, htB, hffB⟩ := Cond.ownField (t := .object "java/lang/Object") Y.found L.cls (by decide +kernel) (hw (.fieldLink Bundle.tN 198 Bundle.tN "backtrace" "Ljava/lang/Object;") (by simp [nt_all])) (hw (.lays Bundle.tN Bundle.tN "backtrace" "Ljava/lang/Object;") (by simp [nt_all])) e.platform hpl
  obtain ⟨cellS, hcS', heS, -, hkeep⟩ := X.same.2.2.2.2.2 T.aS cellS0 hcS0
  have hcellS : W.heap[T.aS]? = some cellS := hcS'
  have hnl : ∀ i, (⟨T.aS, i⟩ : Loc) ∉ locs := fun i hmem => by rw [hlocs] at hmem; cases hmem
  have hknownS : cellS.vm ≠ .unknown := fun hu => by
    rw [heS] at hu
    rw [show cellS0.vm = .unknown from hu] at hiss
    cases hiss
  have hneS : T.aS ≠ a := Nat.ne_of_lt (Nat.lt_of_lt_of_le (Array.getElem?_eq_some_iff.mp hcS0).1 hnew)
  obtain ⟨iM, hffM⟩ := Y.msg
  obtain ⟨tyC, dC, hdC, hdnC⟩ := Cond.laysAt hfound hk Y.cause (hw (.lays ntX Bundle.tN "cause" "Ljava/lang/Throwable;") (by simp [nt_all]))
  obtain ⟨tyS, dS, hdS, hdnS⟩ := Cond.laysAt hfound hk Y.stack (hw (.lays ntX Bundle.tN "stackTrace" Bundle.steD) (by simp [nt_all]))
  obtain ⟨tyP, dP, hdP, hdnP⟩ := Cond.laysAt hfound hk Y.supp (hw (.lays ntX Bundle.tN "suppressedExceptions" Bundle.listD) (by simp [nt_all]))
  obtain ⟨tyM, dM, hdM, hdnM⟩ := Cond.laysAt hfound hk hffM (hw (.lays ntX Bundle.tN "detailMessage" "Ljava/lang/String;") (by simp [nt_all]))
  obtain ⟨tyB, dB, hdB, hdnB⟩ := Cond.laysAt hfound hk hffB (hw (.lays ntX Bundle.tN "backtrace" "Ljava/lang/Object;") (by simp [nt_all]))
  have bC := Cond.laysApart hdB hdC hdnB hdnC (by rw [hnB, Y.causeName]; decide)
  have bS := Cond.laysApart hdB hdS hdnB hdnS (by rw [hnB, Y.stackName]; decide)
  have bP := Cond.laysApart hdB hdP hdnB hdnP (by rw [hnB, Y.suppName]; decide)
  have hskip : SkipFacts T e.platform s (fun u => u) u0 ((preparedCellV T.toThrowableT (freshCell P1.m.cls kX') a u0 sen).withEntry W.cur) :=
    ⟨{ ci198 := ci198, i198 := i198, fBack := fB }, ⟨b1, b2, b3, b4⟩, by
      have := fresh_default (c := P1.m.cls) tyB
      rw [htB] at this
      simpa [preparedCellV, Cell.setSlot, Cell.withEntry, Array.getElem?_setIfInBounds, bC, bS, bP, bC.symm, bS.symm, bP.symm, defaultValue] using this, fun _ _ => rfl⟩
  obtain ⟨tm, methC, cdC, kC, vm₁, hnC, -, -, -, -, -, -, -, hW₁, st1⟩ := Steps.initColdS (tb := p.tables) (e := e) (below := below) (s := s) (U := W) X.here hexec X.warmed hpl hown (t := Bundle.initS ntX) rfl rfl (by decide)
    (hw (.methodLink own ic (Bundle.initS ntX)) (by simp [nt_all])) (h (.instanceMethod (Bundle.initS ntX)) (by simp [nt_all, Bundle.passSAtoms])) (bytes := ntB) (maxL := 2) (h (.code (Bundle.initS ntX) ntB 2 none) (by simp [nt_all, Bundle.passSAtoms]))
    (f := g) hg (a := a) (msg := msg) (rest := .ref a :: rest) hstack hd6
  have e3 : tm = P1.m := Option.some.inj (hnC.symm.trans hP1m)
  subst e3
  have X₁ := X.noted hW₁
  obtain ⟨vm₂, X₂, st2⟩ := X₁.ctorMessageOffV hexec (g := { g with stack := .ref a :: rest }) hg hsize T L Z LZ M LM (P1 :: P2 :: Ps)
    (fun P hP => by
      rcases List.mem_cons.mp hP with rfl | hP
      · exact L1
      · rcases List.mem_cons.mp hP with rfl | hP
        · exact L2
        · exact hL P hP) ⟨hs1, hsup2, hpass2⟩ (u0 := u0) (sen := sen) (self := a) hmsg (cell := freshCell P1.m.cls kX') (cellS := cellS)
    hcell (fun _ => by simp) (by simp) rfl rfl hsel0 hselF hcellS hneS hknownS (by rw [hkeep _ (hnl _)]; exact hu0) (by rw [hkeep _ (hnl _)]; exact hsen)
    (Takes.of_laid hk hord tyC (by rw [Y.causeType]; rfl)) (Takes.of_laid hk hord tyS (by rw [Y.stackType]; exact fits_refV_array _ u0)) (Takes.of_laid hk hord tyP (by rw [Y.suppType]; exact fits_refV_object _ sen))
    (Takes.of_laid hk hord tyM (by rw [Y.msgType]; exact fits_refV_object _ ⟨msg, hmsg⟩)) Y.objLocals hskip htr [] hd6
    (by simp only [List.length_cons, hlen, List.length_nil]; omega) (by simp only [List.length_cons, hlen, List.length_nil]; exact hRlocals)
  obtain ⟨hwalk, hrun, hended, hWU, hsame⟩ := X₂.athrowLeaves hexec (g := { g with stack := .ref a :: rest, pc := g.pc + 3 }) hg hlocked hentered hout (a := a) (rest := rest) rfl hd9
  have hlt : a < ((W.setVm vm₁).setVm vm₂).heap.size := (Array.getElem?_eq_some_iff.mp hcell).1
  have hU := heapAt_setCell_self (s := (W.setVm vm₁).setVm vm₂) (plainBareV T.toThrowableT (freshCell P1.m.cls kX') a u0 sen msg) hlt
  refine ⟨_, st1 _ (fun acts => ?_), hrun, hended, hWU, hsame.weaken (fun y hy hlt' => ?_) (Nat.le_refl _) (Nat.le_refl _), _, hU, hfound, rfl⟩
  · rw [doInvoke_state]
    exact st2 _ hwalk
  · rcases List.mem_append.mp hy with z | z
    · exact z
    · exfalso
      have hb : y.base = a := by
        simp only [List.mem_cons, List.not_mem_nil, or_false] at z
        rcases z with rfl | rfl | rfl | rfl | rfl <;> rfl
      rw [hb] at hlt'
      exact Nat.not_lt.mpr hnew hlt'
end Nt
section Nt2
variable {p : Program} {l : Launch} {e : Env} {R : Room} {s : State} {m : MethodId} {args : Array Value} {below : List Frame} {meth : Method} {c : Code} {H : Heap} {locs : List Loc} {cells slots : Nat} {Q : State → Prop}
variable {mc ms : Nat} {free : Addr → Prop} {A0 A1 : Nat → Prop} {H0 : Heap} {a : Array Value} {ls : Array Slot} {st0 rest : List Value}
variable {Qc : Array Value → State → Outcome → State → Prop} {XC : String → State → State → Prop}
theorem nt_throw {cc : ByteArray} {pc : Nat} (hexec : p.tables.exec = Jvm.exec) (hb : c.code = cc) (hl : l.stackTraces = false) {own text : String} {ik is ic mc ms sa : Nat} {A : Nat → Prop}
    (hown : s.vm.findClass own = some m.cls) 
    (hk : (Cond.classLink own ik ntX).before args s = true) (hini : (Cond.initialized ntX).before args s = true) (hstr : vk_R own is text sa s) (hat : ∀ w ∈ nt_at own ic, w.before args s = true)
    (hgood : ∀ w ∈ Cond.classLink own ik ntX :: Cond.initialized ntX :: nt_at own ic, vx_ot w = true)
    (hU : vx_Zq Bundle.tN "UNASSIGNED_STACK" Bundle.steD A s s.heap) (hN : vx_Zq Bundle.tN "SUPPRESSED_SENTINEL" Bundle.listD A s s.heap) (hS : va_S A s.heap H locs) (hsize : ls.size = c.maxLocals)
    (d0 : decode cc pc = .ok (.new ik, 3)) (d3 : decode cc (pc + 3) = .ok (.dup, 1)) (d4 : decode cc (pc + 4) = .ok (.ldc is, 2)) (d6 : decode cc (pc + 6) = .ok (.invokespecial ic, 3)) (d9 : decode cc (pc + 9) = .ok (.athrow, 1))
    (hout : ∀ x ∈ c.exceptionTable.toList, covers x (pc + 9) = false)
    (hRframes : 5 < R.frames) (hRlocals : (rest.map fun v => v.category).sum + 82 ≤ R.locals) (hRcells : cells + 1 ≤ R.cells) (hRslots : slots + 6 ≤ R.slots) (hlocks : meth.locks = false)
    (hx : ∀ t : State, s.vm.Alike t.vm → H.size ≤ t.heap.size → (∀ q : Nat, q < H.size → t.heap[q]? = H[q]?) → XC ntX s t)
    (hf : ∀ z ∈ locs, free z.base) (hc : cells + 1 ≤ mc) (hs : slots + 6 ≤ ms) :
    W p l e R s m args below meth c H locs cells slots (vx_MQ below Qc XC args s mc ms free) (F0 m pc ls rest) := by
  intro T hT X
  have htr : e.platform.stackTraces = false := (show e.platform.stackTraces = l.stackTraces by rw [X.admits.platform]).trans hl
  have Y := vx_rebase X (R' := { frames := R.frames, locals := R.locals, cells := 1, slots := 6 }) (Nat.le_refl _) (Nat.le_refl _) hRcells hRslots
  obtain ⟨s', hA⟩ : ∃ z, z = (T.setVm s.vm).setFrames (.invoking m args :: below) := ⟨_, rfl⟩
  rw [← hA] at Y
  have hvm : s'.vm = s.vm := by rw [hA]; rfl
  have hhp : s'.heap = H := by rw [hA]; exact hT
  have hW0 : s.WarmedH s'.vm := by rw [hvm]; exact State.WarmedH.refl s
  have hat' : ∀ w ∈ nt_at own ic, w.before args s' = true := fun w hw => vx_ot_at hW0 hvm.symm (hgood w (List.mem_cons_of_mem _ (List.mem_cons_of_mem _ hw))) (hat w hw)
  have hk' : (Cond.classLink own ik ntX).before args s' = true := vx_ot_at hW0 hvm.symm (hgood _ List.mem_cons_self) hk
  have hini' : (Cond.initialized ntX).before args s' = true := vx_ot_at hW0 hvm.symm (hgood _ (List.mem_cons_of_mem _ List.mem_cons_self)) hini
  have hU' : vx_Zq Bundle.tN "UNASSIGNED_STACK" Bundle.steD A s' s'.heap := by rw [hhp]; exact vx_Zq.moved hW0.alike (hU.kept hS.2.1)
  have hN' : vx_Zq Bundle.tN "SUPPRESSED_SENTINEL" Bundle.listD A s' s'.heap := by rw [hhp]; exact vx_Zq.moved hW0.alike (hN.kept hS.2.1)
  have h : ∀ w ∈ nt_all own ic, w.before args s' = true := vx_own hat' (vx_isRefq hU'.1) (vx_isRefq hN'.1) hU'.2.word hN'.2.word
  have hown' : s'.vm.findClass own = some m.cls := by rw [hvm]; exact hown
  have hins : (Cond.instantiable ntX 6).before args s' = true := h _ (by simp [nt_all])
  obtain ⟨vm₁, cX, kX, hfX, hkX, -, -, X₁, st1⟩ := Y.newCold hexec (own := own) (C := ntX) (index := ik) (n := 6) hown' hk' hins hini'
    (g := F0 m pc ls rest) rfl (by rw [hb]; exact d0) (Nat.le_refl _) (Nat.le_refl _)
  generalize hT1 : (T.setVm vm₁).pushCell { cls := cX, slots := kX.instanceTypes.map defaultValue, vm := .none } = T1 at X₁ st1
  have hcat : (Value.ref T.heap.size).category = 1 := rfl
  have hcellA : T1.heap[T.heap.size]? = some (freshCell cX kX) := by rw [← hT1]; exact State.heap_pushCell_size _ _
  have d3' : decode c.code (pc + 3) = .ok (.dup, 1) := by rw [hb]; exact d3
  have d4' : decode c.code (pc + 4) = .ok (.ldc is, 2) := by rw [hb]; exact d4
  have hstr' : vk_R own is text sa s' := vk_R.warm hW0 hstr
  obtain ⟨U, hsteps, hrun, hend, hW, hsame, ce, hce, hO⟩ := nt_ctor X₁ hexec htr (own := own) (ic := ic) hown' h rfl hfX hkX hcellA (by rw [hhp, hT]; exact Nat.le_refl _) (msg := .ref sa) rfl
    (g := { method := m, pc := pc + 6, locals := ls, stack := .ref sa :: .ref T.heap.size :: .ref T.heap.size :: rest, locked := none }) rfl hsize rfl rfl (rest := rest) rfl
    (by rw [hb]; exact d6) (by rw [hb]; exact d9) hout hRframes (by simp only [List.map_cons, List.sum_cons, hcat]; omega) hlocks
  obtain ⟨f1, f2⟩ := vx_frame hsame
  rw [hhp] at f1 f2
  have hWs : s.WarmedH U.vm := State.WarmedH.trans hW0 hW
  have hcl : s.vm.findClass ntX = some ce.cls := by
    have h9 := hO.1
    rw [hvm] at h9
    exact h9
  have hall : s.sameButNew ({ U with vm := s.vm } : State) locs mc ms := by
    subst hA
    obtain ⟨e1, e2⟩ := hsame
    rw [State.setFrames_setFrames] at e1
    have h2 : (T.setVm s.vm).sameButNew ({ U with vm := s.vm } : State) [] (0 + 1) (0 + 6) := ⟨e1, e2⟩
    have h3 := X.same.trans h2
    rw [List.append_nil] at h3
    exact h3.mono hc hs
  refine ⟨U, ?_, .threw T.heap.size, hrun, hend, Or.inr ⟨T.heap.size, rfl, ntX, ce, locs, hx U hWs.alike f1 (fun q hq => f2 q hq (fun z hz => nomatch hz)), hce, hO.2, hcl, hWs, hall, hf⟩⟩
  refine st1 _ ?_
  show Steps p.tables e below (T1.setTop { method := m, pc := pc + 3, locals := ls, stack := .ref T.heap.size :: rest, locked := none }) _
  jvm_step X₁.here [X₁.here.top, hexec, d3', Value.category]
  exact X₁.ldcString hexec (own := own) (text := text) (index := is) (a := sa) hown' hstr'.1 hstr'.2
    (g := { method := m, pc := pc + 4, locals := ls, stack := .ref T.heap.size :: .ref T.heap.size :: rest, locked := none }) rfl d4' _ hsteps
end Nt2
section Nt3
variable {l : Launch} {K : Kx} {own : String} {cc : ByteArray} {nL : Nat} {ret : Option FieldType} {Ts : List Cond} {hh : List (Nat × Nat × Nat × Nat)} {nm : String} {fr lo mc ms : Nat} {Qf : State → Array Value → List Frame → State → Prop} {pc : Nat} {rest : List Value} {lv lv' : List (Nat × Value)} {h : Hp} {kc ks : Nat}
set_option maxHeartbeats 4000000 in
theorem J_throwN {text : String} {ik is ic : Nat} {Post : Rs → Hp → Prop} (d0 : decode cc pc = .ok (.new ik, 3)) (d3 : decode cc (pc + 3) = .ok (.dup, 1)) (d4 : decode cc (pc + 4) = .ok (.ldc is, 2)) (d6 : decode cc (pc + 6) = .ok (.invokespecial ic, 3)) (d9 : decode cc (pc + 9) = .ok (.athrow, 1))
    (hk : Cond.classLink own ik ntX ∈ Ts) (hini : Cond.initialized ntX ∈ Ts) (hstr : (own, is, text) ∈ strW) (hat : ∀ w ∈ (nt_at own ic).filter goodWord, w ∈ Ts)
    (hat2 : ∀ w ∈ (nt_at own ic).filter (fun w => !goodWord w), w ∈ [Cond.castable ntX ntX, Cond.declares ⟨"java/lang/RuntimeException", "<init>", "(Ljava/lang/String;)V"⟩, Cond.declares ⟨"java/lang/Exception", "<init>", "(Ljava/lang/String;)V"⟩, Cond.declares ⟨"java/lang/Throwable", "<init>", "(Ljava/lang/String;)V"⟩]) (hcw : (ntX, ntX) ∈ castW)
    (hgood : ∀ w ∈ Cond.classLink own ik ntX :: Cond.initialized ntX :: nt_at own ic, vx_ot w = true) (hf : 5 < fr) (ho : (rest.map fun v => v.category).sum + 82 ≤ lo) (h1 : kc + 1 ≤ mc) (h2 : ks + 6 ≤ ms) (hp : Post (.inr ntX) h) :
    J l K own cc nL ret Ts [] nm fr lo mc ms (QM K mc ms Post) pc rest lv h kc ks := by
  intro p e s m args below meth c ok H locs ls hR hS hl
  have hts := ok.2.2.2.2.1
  have hKU := ok.2.2.2.2.2.2.2.2.2.1
  obtain ⟨sa, hsa⟩ := hKU.2.2.2.2.2.2.2.1 _ hstr
  refine nt_throw ok.1 ok.2.1 ok.2.2.2.2.2.2.2.2.2.2.1 ok.2.2.2.1 (hts _ hk) (hts _ hini) hsa (vx_hat (B := [Cond.castable ntX ntX, Cond.declares ⟨"java/lang/RuntimeException", "<init>", "(Ljava/lang/String;)V"⟩, Cond.declares ⟨"java/lang/Exception", "<init>", "(Ljava/lang/String;)V"⟩, Cond.declares ⟨"java/lang/Throwable", "<init>", "(Ljava/lang/String;)V"⟩]) (fun w h => hts w (hat w h)) hat2 (vx_c (va_Nw.use rfl (hKU.2.2.2.2.2.2.1 _ hcw)) (vx_c (va_Nw.use rfl (hKU.2.2.2.2.2.2.2.2.2.2.2.2.2 _ List.mem_cons_self)) (vx_c (va_Nw.use rfl (hKU.2.2.2.2.2.2.2.2.2.2.2.2.2 _ (List.mem_cons_of_mem _ List.mem_cons_self))) (vx_c (va_Nw.use rfl (hKU.2.2.2.2.2.2.2.2.2.2.2.2.2 _ (List.mem_cons_of_mem _ (List.mem_cons_of_mem _ List.mem_cons_self)))) vx_n))))) hgood (KU.zq ok.2.2.2.2.2.2.2.2.2.2.2.1 ok.2.2.2.2.2.2.2.2.2.2.2.2 hKU.2.1) (KU.zq ok.2.2.2.2.2.2.2.2.2.2.2.1 ok.2.2.2.2.2.2.2.2.2.2.2.2 hKU.2.2.1) hS (by rw [ok.2.2.1]; exact hl.1) d0 d3 d4 d6 d9 (fun x hx => ?_) hf ho h1 h2 ok.2.2.2.2.2.1 (fun t hA hz hk2 => ?_) hS.2.2 h1 h2
  · rw [ok.2.2.2.2.2.2.2.2.1] at hx
    cases hx
  · refine ⟨⟨h, hp, hR.kept hz hk2⟩, ?_⟩
    refine ⟨Nat.le_trans hS.1 hz, fun q h1 h2 => ?_⟩
    rw [hk2 q (Nat.lt_of_lt_of_le h1 hS.1)]
    exact hS.2.1 q h1 h2
end Nt3
