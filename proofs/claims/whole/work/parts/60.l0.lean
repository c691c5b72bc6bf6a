/-! ===== an exception that a row of the table takes ===== -/
/-- one row of the table that covers, her class linked: taken or passed -/
theorem cg_row {Q : Handler → Pre} {E : CtlPost} {e : Env} {d : Bool} {acts : List Action} {s : State} {f : JFrame} {a : Addr} {x : ExceptionTableEntry} {t : List ExceptionTableEntry} {c : ClassId} {cell : Cell} (hx : covers x f.pc = true) (h0 : x.catchType ≠ 0)
    (hl : s.vm.ClassLinks e.platform f.method.cls x.catchType c) (hcell : s.heap[a]? = some cell) (hobj : ∀ k, cell.vm ≠ .statics k) {k1 k2 : Class} (hk : s.vm.classes[cell.cls]? = some k1) (hc : s.vm.classes[c]? = some k2) {b : Bool} (hb : s.vm.assignable cell.cls c = b) :
    wp (findHandler.go f a (x :: t)) Q E e d acts s ↔ if b then Q (.found x.handlerPc) d acts (s.setVm (s.vm.noted f.method.cls x.catchType (.cls c))) else wp (findHandler.go f a t) Q E e d acts (s.setVm (s.vm.noted f.method.cls x.catchType (.cls c))) := by
  have al : s.vm.Alike (s.vm.noted f.method.cls x.catchType (.cls c)) := (Vm.Alike.refl s.vm).noted _ _ _
  obtain ⟨j1, e1, -⟩ := al.2.2 _ _ hk
  obtain ⟨j2, e2, -⟩ := al.2.2 _ _ hc
  have hb' : (s.vm.noted f.method.cls x.catchType (.cls c)).assignable cell.cls c = b := (al.assignable _ _).trans hb
  obtain ⟨r1, r2⟩ := (resolveClass_links e.toSetting hl).op (op := VmOp.resolveClass f.method.cls x.catchType) rfl
  unfold covers at hx
  cases b
  · simp [findHandler.go, hx, h0, r1, r2, hcell, hobj, e1, e2, hb', VmOp.dirties, VmOp.acts]
  · simp [findHandler.go, hx, h0, r1, r2, hcell, hobj, e1, e2, hb', VmOp.dirties, VmOp.acts]
theorem cg_find {e : Env} {s₀ : State} {f : JFrame} {a : Addr} {cell : Cell} (hobj : ∀ k, cell.vm ≠ .statics k) {k0 : Class} (hk0 : s₀.vm.classes[cell.cls]? = some k0) {x : ExceptionTableEntry} {suf : List ExceptionTableEntry} {cx : ClassId} (hx : covers x f.pc = true) (h0 : x.catchType ≠ 0) (hl : s₀.vm.ClassLinks e.platform f.method.cls x.catchType cx) (hfit : s₀.vm.assignable cell.cls cx = true) :
    ∀ (pre : List ExceptionTableEntry) (S : State), s₀.WarmedH S.vm → S.heap[a]? = some cell → (∀ y ∈ pre, covers y f.pc = true ∧ y.catchType ≠ 0 ∧ ∃ c, s₀.vm.ClassLinks e.platform f.method.cls y.catchType c ∧ s₀.vm.assignable cell.cls c = false) →
      ∃ vm', s₀.WarmedH vm' ∧ ∀ (Q : Handler → Pre) (E : CtlPost) (d : Bool) (acts : List Action), wp (findHandler.go f a (pre ++ x :: suf)) Q E e d acts S ↔ Q (.found x.handlerPc) d acts (S.setVm vm') := by
  have one : ∀ (y : ExceptionTableEntry) (c : ClassId) (t : List ExceptionTableEntry) (S : State) (b : Bool), s₀.WarmedH S.vm → S.heap[a]? = some cell → covers y f.pc = true → y.catchType ≠ 0 → s₀.vm.ClassLinks e.platform f.method.cls y.catchType c → s₀.vm.assignable cell.cls c = b →
      s₀.WarmedH (S.vm.noted f.method.cls y.catchType (.cls c)) ∧ ∀ (Q : Handler → Pre) (E : CtlPost) (d : Bool) (acts : List Action), wp (findHandler.go f a (y :: t)) Q E e d acts S ↔ if b then Q (.found y.handlerPc) d acts (S.setVm (S.vm.noted f.method.cls y.catchType (.cls c))) else wp (findHandler.go f a t) Q E e d acts (S.setVm (S.vm.noted f.method.cls y.catchType (.cls c))) := by
    intro y c t S b hW hc hy hy0 hyl hb
    obtain ⟨dk, _, _, kt, hd, _, _, _, _, hkt, _, hopen⟩ := hyl.here
    obtain ⟨j0, e0, -⟩ := hW.alike.2.2 _ _ hk0
    obtain ⟨jt, et, -⟩ := hW.alike.2.2 _ _ hkt
    exact ⟨hW.noted hd hopen (State.rightAt_cls hyl), fun Q E d acts => cg_row hy hy0 (hW.classLinks hyl) hc hobj e0 et ((hW.alike.assignable _ _).trans hb)⟩
  intro pre
  induction pre with
  | nil =>
    intro S hW hc _
    obtain ⟨w1, w2⟩ := one x cx suf S true hW hc hx h0 hl hfit
    exact ⟨_, w1, fun Q E d acts => by rw [List.nil_append, w2]; rfl⟩
  | cons y ys ih =>
    intro S hW hc hpass
    obtain ⟨y1, y2, c, y3, y4⟩ := hpass y (List.mem_cons_self ..)
    obtain ⟨w1, w2⟩ := one y c (ys ++ x :: suf) S false hW hc y1 y2 y3 y4
    obtain ⟨vm', v1, v2⟩ := ih (S.setVm (S.vm.noted f.method.cls y.catchType (.cls c))) w1 hc (fun z hz => hpass z (List.mem_cons_of_mem _ hz))
    exact ⟨vm', v1, fun Q E d acts => by rw [List.cons_append, w2]; exact v2 Q E d acts⟩
theorem cg_step {e : Env} {s : State} {a : Addr} {f : JFrame} {r : List Frame} {pc : Nat} {vm' : Vm} (hf : ∀ (Q : Handler → Pre) (E : CtlPost) (d : Bool) (acts : List Action), wp (findHandler f a) Q E e d acts s ↔ Q (.found pc) d acts (s.setVm vm')) :
    (stepThrowing e s a (.java f :: r)).Is ((s.setVm vm').setFrames (.java { f with pc := pc, stack := [.ref a] } :: r)) [] := by
  simp only [stepThrowing, searchFrame, vmDo]
  generalize hr : Sem.go _ e false [] s = res
  obtain ⟨as, rfl, ha⟩ := Sem.eq_ok_of hr (a := Handler.found pc) (s' := s.setVm vm') (acts' := []) (by simp [hf _ _ _ _])
  exact ⟨rfl, ha⟩
theorem cg_caught {tb : Tables} {e : Env} {s target : State} {g : JFrame} {c : Code} {below : List Frame} {a : Addr} {pc : Nat} {vm' : Vm} (h : At s g.method c below)
    (hf : ∀ (Q : Handler → Pre) (E : CtlPost) (d : Bool) (acts : List Action), wp (findHandler g a) Q E e d acts ((s.setTop g).pushFrame (.throwing a)) ↔ Q (.found pc) d acts (((s.setTop g).pushFrame (.throwing a)).setVm vm'))
    (hrest : Steps tb e below ((s.setVm vm').setTop { g with pc := pc, stack := [.ref a] }) target) : Steps tb e below ((s.setTop g).pushFrame (.throwing a)) target := by
  obtain ⟨hgo, hw⟩ := h.throwing a
  refine Steps.head hgo hw ?_
  rw [stepThread_throwing (frames_entered h.top _), (cg_step (s := (s.setTop g).pushFrame (.throwing a)) hf).1]
  obtain ⟨g₀, hg⟩ := Option.isSome_iff_exists.mp h.top
  obtain ⟨r, hr⟩ := State.topJava?_eq_some.mp hg
  have hr' : (s.setVm vm').frames = .java g₀ :: r := hr
  have sw : ∀ (u : State) (A B : List Frame), ((u.setFrames A).setVm vm').setFrames B = (u.setVm vm').setFrames B := fun u A B => by
    rw [show (u.setFrames A).setVm vm' = (u.setVm vm').setFrames A from rfl, State.setFrames_setFrames]
  rw [State.setTop_of_frames _ hr'] at hrest
  rw [hr, List.tail_cons, State.pushFrame, sw, State.setTop_of_frames _ hr, sw]
  exact hrest
section Catch
variable {l : Launch} {K : Kx} {own : String} {cc : ByteArray} {nL : Nat} {ret : Option FieldType} {Ts : List Cond} {hh : List (Nat × Nat × Nat × Nat)} {nm : String} {fr lo mc ms : Nat} {Qf : State → Array Value → List Frame → State → Prop} {pc : Nat} {rest : List Value} {lv lv' : List (Nat × Value)} {h : Hp} {kc ks : Nat}
abbrev rowOf4 (z : Nat × Nat × Nat × Nat) : ExceptionTableEntry := ⟨z.1, z.2.1, z.2.2.1, z.2.2.2⟩
/-- an exception of class E, thrown at pc, goes on at tgt -/
def catchAt (own : String) (Ts : List Cond) (hh : List (Nat × Nat × Nat × Nat)) (pc : Nat) (E : String) (tgt : Nat) : Prop :=
  ∃ pre x suf, hh = pre ++ x :: suf ∧ (∀ z ∈ pre, covers (rowOf4 z) pc = true ∧ z.2.2.2 ≠ 0 ∧ ∃ n, Cond.classLink own z.2.2.2 n ∈ Ts ∧ n ∈ excW ∧ E ≠ n) ∧ covers (rowOf4 x) pc = true ∧ x.2.2.2 ≠ 0 ∧ Cond.classLink own x.2.2.2 E ∈ Ts ∧ E ∈ excW ∧ (E, E) ∈ castW ∧ x.2.2.1 = tgt
theorem J_catch {p : Program} {e : Env} {s : State} {m : MethodId} {args : Array Value} {below : List Frame} {meth : Method} {c : Code} (ok : OkB l K own cc nL ret Ts hh nm p s m args meth c) {H : Heap} {locs : List Loc} {ls : Array Slot} (hR : Rp K h H) (hS : va_S (Ax K) s.heap H locs) (hl : lv_has ls nL lv) {E : String} {ce : Cell} {q : Addr} {tgt : Nat} (hcell : H[q]? = some ce) (hv : ce.vm = .none) (hcl : s.vm.findClass E = some ce.cls)
    (hc : catchAt own Ts hh pc E tgt) (kk : J l K own cc nL ret Ts hh nm fr lo mc ms Qf tgt [.ref q] lv h kc ks) : vx_W p l e (rmx fr lo mc ms) s m args below meth c H locs kc ks (Qf s args below) (F0 m pc ls rest) q := by
  intro T hT X
  have hown := ok.2.2.2.1
  have hts := ok.2.2.2.2.1
  have hK := ok.2.2.2.2.2.2.2.2.2.1
  have htb := ok.2.2.2.2.2.2.2.2.1
  have hpl : e.platform.magicAccessors = ({} : Platform).magicAccessors := by rw [X.admits.platform]
  obtain ⟨pre, x, suf, rfl, hpass, hx, h0, hlink, hE, hcast, rfl⟩ := hc
  have hcs : (Cond.castable E E).before #[] s = true := hK.2.2.2.2.2.2.1 _ hcast
  obtain ⟨c3, c4, hc3, hc4, hasg⟩ := Cond.castable_spec hcs
  have e3 : c3 = ce.cls := Option.some.inj (hc3.symm.trans hcl)
  obtain ⟨c5, hc5, hcl5⟩ := Cond.classLink_spec hown (hts _ hlink) e.platform hpl
  have e4 : c4 = c5 := Option.some.inj (hc4.symm.trans hc5)
  rw [e3, e4] at hasg
  obtain ⟨k9, h9, -⟩ := Vm.findClass_spec hcl
  obtain ⟨vm', hW', hfind⟩ := cg_find (e := e) (s₀ := s) (f := F0 m pc ls rest) (a := q) (cell := ce) (VmData.ne_statics_of (by rw [hv]; rfl)) h9 (x := rowOf4 x) (suf := tableOf suf) hx h0 hcl5 hasg (tableOf pre) ((T.setTop (F0 m pc ls rest)).pushFrame (.throwing q)) X.warmed (by
    show T.heap[q]? = some ce
    rw [hT]; exact hcell) (fun y hy => by
    obtain ⟨z, hz, rfl⟩ := List.mem_map.mp hy
    obtain ⟨z1, z2, n, z3, z4, z5⟩ := hpass z hz
    obtain ⟨c6, hc6, hcl6⟩ := Cond.classLink_spec hown (hts _ z3) e.platform hpl
    obtain ⟨a8, b8, n1, n2, n3⟩ := hK.2.2.2.2.2.2.2.2.1 E hE n z4 z5
    have e8 : a8 = ce.cls := Option.some.inj (n1.symm.trans hcl)
    have e6 : b8 = c6 := Option.some.inj (n2.symm.trans hc6)
    rw [e8, e6] at n3
    exact ⟨z1, z2, c6, hcl6, n3⟩)
  obtain ⟨t, a1, b1⟩ := kk p e s m args below meth c ok H locs ls hR hS hl (T.setVm vm') hT (X.noted hW')
  refine ⟨t, cg_caught (g := F0 m pc ls rest) X.here (vm' := vm') (pc := x.2.2.1) (fun Q E' d acts => ?_) a1, b1⟩
  rw [W.findHandler_eq (meth := meth) (code := c) X.method' X.code, htb, show tableOf (pre ++ x :: suf) = tableOf pre ++ rowOf4 x :: tableOf suf by simp [tableOf]]
  exact hfind Q E' d acts
/-- into a body with handlers -/
theorem MX.enterH {y : MethodName} {ws ws' : List Cond} {As : List Value} {Post : Rs → Hp → Prop} (htr : l.stackTraces = false)
    (hy : plainName y.cls = true) (hw : ws = Cond.codeWith y cc nL ret hh :: ws') (hn : (lg_sl As).length ≤ nL)
    (k : J l K y.cls cc nL ret ws hh y.name fr lo mc ms (QM K mc ms Post) 0 [] (lv_args 0 As) h 0 0) : MX l K y ws fr lo mc ms As h Post := by
  refine vx_ofWH (cc := cc) (maxL := nL) (ret := ret) hy hw ?_
  intro p e s m args below meth c s₁ B hml hv
  obtain ⟨rfl, hK, hR⟩ := hv
  have hts := atoms_spec (ws := ws) B.pre
  have hl := lv_entry As (n := nL) hn
  rw [lg_entry_eq]
  exact k p e s m _ below meth c ⟨B.exec, B.bytes, hml, findClass_of_methodNamed B.named, hts, B.notSynchronized, B.returns, (name_of_methodNamed B.named B.method).1, vx_table (x := y) B (hts _ (by rw [hw]; exact List.mem_cons_self)), hK, htr, hR.2.1, hR.2.2⟩ s.heap [] _ hR va_S.rf hl
set_option maxHeartbeats 4000000 in
/-- invokevirtual of a method that may throw, in a body that takes all of it -/
theorem J_callVc {idx ci b frc loc nLc mc' ms' n : Nat} {y : MethodName} {bytes : ByteArray} {retc : Option FieldType} {wsy wsy' : List Cond} {As : List Value} {P : Rs → Hp → Prop} {r : vw_C} (hd : decode cc pc = .ok (.invokevirtual idx, 3)) (hc : vwCl[ci]? = some r) (hG : GoodIn Ts (wsV own idx r.1 y wsy)) (hw : wsy = Cond.code y bytes nLc retc :: wsy')
    (hdd : y.cls = r.1 ∧ y.cls ≠ "java/lang/invoke/MethodHandle" ∧ y.cls ≠ "java/lang/invoke/VarHandle" ∧ (parseMethodDescriptor y.desc).map (fun d => d.parameters.length) = some n) (hn : As.length = n) (hfit : fitR fr lo frc loc nLc) (hb : ∃ fs, h b = some (xO ci fs)) (hrest : (rest.map fun v => v.category).sum ≤ 8)
    (h1 : kc + mc' ≤ mc) (h2 : ks + ms' ≤ ms) (hM : MX l K y wsy frc loc mc' ms' (.ref b :: As) h P)
    (kk : ∀ (v : Option Value) (h' : Hp), P (.inl v) h' → J l K own cc nL ret Ts hh nm fr lo mc ms Qf (pc + 3) (v.toList ++ rest) lv h' (kc + mc') (ks + ms'))
    (kx : ∀ (E : String) (h' : Hp), P (.inr E) h' → ∃ tgt, catchAt own Ts hh pc E tgt ∧ ∀ q, J l K own cc nL ret Ts hh nm fr lo mc ms Qf tgt [.ref q] lv h' (kc + mc') (ks + ms')) : J l K own cc nL ret Ts hh nm fr lo mc ms Qf pc (As.reverse ++ .ref b :: rest) lv h kc ks := by
  intro p e s m args below meth c ok H locs ls hR hS hl
  obtain ⟨fs, hb⟩ := hb
  refine J_run ok hS hl (vx_runV (As := As) (rest := rest) (Ts := Ts) (own := own) ⟨ok.1, ok.2.1, ok.2.2.1, ok.2.2.2.1, ok.2.2.2.2.1⟩ hM (cwV n ok.2.2.2.2.1 hG hw rfl rfl hdd hfit) (preV_of ok.2.2.2.2.2.2.2.2.2.1 hR hc hb) rfl hn hl.1 rfl (lv_room hrest) hd ⟨h1, h2⟩) kk ?_
  intro E h' ce q9 H1 locs1 hp hR1 hS1 g1 g2 g3
  obtain ⟨tgt, t1, t2⟩ := kx E h' hp
  exact J_catch ok hR1 hS1 hl g1 g2 g3 t1 (t2 q9)
set_option maxHeartbeats 4000000 in
/-- invokestatic of a method with handlers that throws nothing -/
theorem J_callSW {idx frc loc nLc mc' ms' n : Nat} {y : MethodName} {bytes : ByteArray} {retc : Option FieldType} {hhc : List (Nat × Nat × Nat × Nat)} {wsy wsy' : List Cond} {As : List Value} {P : Rs → Hp → Prop} (hd : decode cc pc = .ok (.invokestatic idx, 3)) (hG : GoodIn Ts (va_wsS own idx y wsy)) (hw : wsy = Cond.codeWith y bytes nLc retc hhc :: wsy')
    (hdd : y.cls ≠ "java/lang/invoke/MethodHandle" ∧ y.cls ≠ "java/lang/invoke/VarHandle" ∧ (parseMethodDescriptor y.desc).map (fun d => d.parameters.length) = some n) (hn : As.length = n) (hfit : fitR fr lo frc loc nLc) (hrest : (rest.map fun v => v.category).sum ≤ 8)
    (h1 : kc + mc' ≤ mc) (h2 : ks + ms' ≤ ms) (hM : MX l K y wsy frc loc mc' ms' As h P) (hx : ∀ E h', ¬ P (.inr E) h')
    (kk : ∀ (v : Option Value) (h' : Hp), P (.inl v) h' → J l K own cc nL ret Ts hh nm fr lo mc ms Qf (pc + 3) (v.toList ++ rest) lv h' (kc + mc') (ks + ms')) : J l K own cc nL ret Ts hh nm fr lo mc ms Qf pc (As.reverse ++ rest) lv h kc ks := by
  intro p e s m args below meth c ok H locs ls hR hS hl
  refine J_run ok hS hl (vx_runSX (hh := hhc) (As := As) (rest := rest) (Ts := Ts) (own := own) ⟨ok.1, ok.2.1, ok.2.2.1, ok.2.2.2.1, ok.2.2.2.2.1⟩ hM (vx_cwSW n ok.2.2.2.2.1 hG hw rfl rfl hdd hfit) ⟨Pcx.blind, fun U hU hW => ⟨rfl, ok.2.2.2.2.2.2.2.2.2.1.warm hW, by rw [hU]; exact hR⟩⟩ rfl hn hl.1 rfl (lv_room hrest) hd ⟨h1, h2⟩) kk ?_
  intro E h' ce q9 H1 locs1 hp
  exact absurd hp (hx E h')
end Catch
