/-! ===== the law's own walk: the same rules, the script known ===== -/
/-- what holds in the law's body -/
def OkX (sc : Nat × Nat × (Nat → Int32)) (l : Launch) (K : Kx) (own : String) (cc : ByteArray) (nL : Nat) (ret : Option FieldType) (Ts : List Cond) (hh : List (Nat × Nat × Nat × Nat)) (nm : String) (p : Program) (s : State) (m : MethodId) (args : Array Value) (meth : Method) (c : Code) : Prop :=
  p.tables.exec = Jvm.exec ∧ c.code = cc ∧ c.maxLocals = nL ∧ s.vm.findClass own = some m.cls ∧ (∀ w ∈ Ts, w.before args s = true) ∧ meth.locks = false ∧ meth.sig.returnType = ret ∧ meth.name = nm ∧ c.exceptionTable.toList = tableOf hh ∧ KU K s ∧ l.stackTraces = false ∧ kB K = s.heap.size ∧ va_X sc.1 sc.2.1 sc.2.2 s s.heap ∧ sc.1 < s.heap.size ∧ args = #[Value.ref sc.1]
def JX (sc : Nat × Nat × (Nat → Int32)) (l : Launch) (K : Kx) (own : String) (cc : ByteArray) (nL : Nat) (ret : Option FieldType) (Ts : List Cond) (hh : List (Nat × Nat × Nat × Nat)) (nm : String) (fr lo mc ms : Nat) (Qf : State → Array Value → List Frame → State → Prop) (pc : Nat) (st : List Value) (lv : List (Nat × Value)) (h : Hp) (kc ks : Nat) : Prop :=
  ∀ (p : Program) (e : Env) (s : State) (m : MethodId) (args : Array Value) (below : List Frame) (meth : Method) (c : Code), OkX sc l K own cc nL ret Ts hh nm p s m args meth c →
    ∀ (H : Heap) (locs : List Loc) (ls : Array Slot), Rp K h H → va_S (Ax K) s.heap H locs → lv_has ls nL lv → W p l e (rmx fr lo mc ms) s m args below meth c H locs kc ks (Qf s args below) (F0 m pc ls st)
section RulesX
variable {sc : Nat × Nat × (Nat → Int32)} {l : Launch} {K : Kx} {own : String} {cc : ByteArray} {nL : Nat} {ret : Option FieldType} {Ts : List Cond} {hh : List (Nat × Nat × Nat × Nat)} {nm : String} {fr lo mc ms : Nat} {Qf : State → Array Value → List Frame → State → Prop} {pc : Nat} {rest : List Value} {lv lv' : List (Nat × Value)} {h : Hp} {kc ks : Nat}
theorem JX_iconst {n : Int} {v : Int32} (hd : decode cc pc = .ok (.iconst n, 1)) (hv : Int32.ofInt n = v) (k : JX sc l K own cc nL ret Ts hh nm fr lo mc ms Qf (pc + 1) (.int v :: rest) lv h kc ks) : JX sc l K own cc nL ret Ts hh nm fr lo mc ms Qf pc (rest) lv h kc ks :=
  fun p e s m args below meth c ok H locs ls hR hS hl => lv_iconst ok.1 ok.2.1 hd hv (k p e s m args below meth c ok H locs ls hR hS hl)
theorem JX_bipush {n : Int} {v : Int32} (hd : decode cc pc = .ok (.bipush n, 2)) (hv : (Int8.ofInt n).toInt32 = v) (k : JX sc l K own cc nL ret Ts hh nm fr lo mc ms Qf (pc + 2) (.int v :: rest) lv h kc ks) : JX sc l K own cc nL ret Ts hh nm fr lo mc ms Qf pc (rest) lv h kc ks :=
  fun p e s m args below meth c ok H locs ls hR hS hl => lv_bipush ok.1 ok.2.1 hd hv (k p e s m args below meth c ok H locs ls hR hS hl)
theorem JX_lconst {n : Fin 2} {v : Int64} (hd : decode cc pc = .ok (.lconst n, 1)) (hv : Int64.ofNat (n : Nat) = v) (k : JX sc l K own cc nL ret Ts hh nm fr lo mc ms Qf (pc + 1) (.long v :: rest) lv h kc ks) : JX sc l K own cc nL ret Ts hh nm fr lo mc ms Qf pc (rest) lv h kc ks :=
  fun p e s m args below meth c ok H locs ls hR hS hl => lv_lconst ok.1 ok.2.1 hd hv (k p e s m args below meth c ok H locs ls hR hS hl)
theorem JX_iload {i : Nat} {x : Int32} (hd : decode cc pc = .ok (.iload i, 2)) (q : Nat) (hv : lv[q]? = some (i, .int x)) (k : JX sc l K own cc nL ret Ts hh nm fr lo mc ms Qf (pc + 2) (.int x :: rest) lv h kc ks) : JX sc l K own cc nL ret Ts hh nm fr lo mc ms Qf pc (rest) lv h kc ks :=
  fun p e s m args below meth c ok H locs ls hR hS hl => lv_iload ok.1 ok.2.1 hd (lv_at hl q hv) (k p e s m args below meth c ok H locs ls hR hS hl)
theorem JX_lload {i : Nat} {x : Int64} (hd : decode cc pc = .ok (.lload i, 2)) (q : Nat) (hv : lv[q]? = some (i, .long x)) (k : JX sc l K own cc nL ret Ts hh nm fr lo mc ms Qf (pc + 2) (.long x :: rest) lv h kc ks) : JX sc l K own cc nL ret Ts hh nm fr lo mc ms Qf pc (rest) lv h kc ks :=
  fun p e s m args below meth c ok H locs ls hR hS hl => lv_lload ok.1 ok.2.1 hd (lv_at hl q hv) (k p e s m args below meth c ok H locs ls hR hS hl)
theorem JX_aload_n {k : Fin 4} {x : Nat} (hd : decode cc pc = .ok (.aload_n k, 1)) (q : Nat) (hv : lv[q]? = some ((k : Nat), .ref x)) (k : JX sc l K own cc nL ret Ts hh nm fr lo mc ms Qf (pc + 1) (.ref x :: rest) lv h kc ks) : JX sc l K own cc nL ret Ts hh nm fr lo mc ms Qf pc (rest) lv h kc ks :=
  fun p e s m args below meth c ok H locs ls hR hS hl => lv_aload_n ok.1 ok.2.1 hd rfl (lv_at hl q hv) (k p e s m args below meth c ok H locs ls hR hS hl)
theorem JX_iadd {x y : Int32} (hd : decode cc pc = .ok (.iadd, 1)) (k : JX sc l K own cc nL ret Ts hh nm fr lo mc ms Qf (pc + 1) (.int (x + y) :: rest) lv h kc ks) : JX sc l K own cc nL ret Ts hh nm fr lo mc ms Qf pc (.int y :: .int x :: rest) lv h kc ks :=
  fun p e s m args below meth c ok H locs ls hR hS hl => lv_iadd ok.1 ok.2.1 hd (k p e s m args below meth c ok H locs ls hR hS hl)
theorem JX_isub {x y : Int32} (hd : decode cc pc = .ok (.isub, 1)) (k : JX sc l K own cc nL ret Ts hh nm fr lo mc ms Qf (pc + 1) (.int (x - y) :: rest) lv h kc ks) : JX sc l K own cc nL ret Ts hh nm fr lo mc ms Qf pc (.int y :: .int x :: rest) lv h kc ks :=
  fun p e s m args below meth c ok H locs ls hR hS hl => lv_isub ok.1 ok.2.1 hd (k p e s m args below meth c ok H locs ls hR hS hl)
theorem JX_iand {x y : Int32} (hd : decode cc pc = .ok (.iand, 1)) (k : JX sc l K own cc nL ret Ts hh nm fr lo mc ms Qf (pc + 1) (.int (x &&& y) :: rest) lv h kc ks) : JX sc l K own cc nL ret Ts hh nm fr lo mc ms Qf pc (.int y :: .int x :: rest) lv h kc ks :=
  fun p e s m args below meth c ok H locs ls hR hS hl => lv_iand ok.1 ok.2.1 hd (k p e s m args below meth c ok H locs ls hR hS hl)
theorem JX_land {x y : Int64} (hd : decode cc pc = .ok (.land, 1)) (k : JX sc l K own cc nL ret Ts hh nm fr lo mc ms Qf (pc + 1) (.long (x &&& y) :: rest) lv h kc ks) : JX sc l K own cc nL ret Ts hh nm fr lo mc ms Qf pc (.long y :: .long x :: rest) lv h kc ks :=
  fun p e s m args below meth c ok H locs ls hR hS hl => lv_land ok.1 ok.2.1 hd (k p e s m args below meth c ok H locs ls hR hS hl)
theorem JX_lor {x y : Int64} (hd : decode cc pc = .ok (.lor, 1)) (k : JX sc l K own cc nL ret Ts hh nm fr lo mc ms Qf (pc + 1) (.long (x ||| y) :: rest) lv h kc ks) : JX sc l K own cc nL ret Ts hh nm fr lo mc ms Qf pc (.long y :: .long x :: rest) lv h kc ks :=
  fun p e s m args below meth c ok H locs ls hR hS hl => lv_lor ok.1 ok.2.1 hd (k p e s m args below meth c ok H locs ls hR hS hl)
theorem JX_lshl {x : Int64} {y : Int32} (hd : decode cc pc = .ok (.lshl, 1)) (k : JX sc l K own cc nL ret Ts hh nm fr lo mc ms Qf (pc + 1) (.long (x <<< (y.toInt64 &&& 63)) :: rest) lv h kc ks) : JX sc l K own cc nL ret Ts hh nm fr lo mc ms Qf pc (.int y :: .long x :: rest) lv h kc ks :=
  fun p e s m args below meth c ok H locs ls hR hS hl => lv_lshl ok.1 ok.2.1 hd rfl (k p e s m args below meth c ok H locs ls hR hS hl)
theorem JX_i2l {x : Int32} (hd : decode cc pc = .ok (.i2l, 1)) (k : JX sc l K own cc nL ret Ts hh nm fr lo mc ms Qf (pc + 1) (.long x.toInt64 :: rest) lv h kc ks) : JX sc l K own cc nL ret Ts hh nm fr lo mc ms Qf pc (.int x :: rest) lv h kc ks :=
  fun p e s m args below meth c ok H locs ls hR hS hl => lv_i2l ok.1 ok.2.1 hd rfl (k p e s m args below meth c ok H locs ls hR hS hl)
theorem JX_dup {va : Value} (hd : decode cc pc = .ok (.dup, 1)) (hva : va.category = 1) (k : JX sc l K own cc nL ret Ts hh nm fr lo mc ms Qf (pc + 1) (va :: va :: rest) lv h kc ks) : JX sc l K own cc nL ret Ts hh nm fr lo mc ms Qf pc (va :: rest) lv h kc ks :=
  fun p e s m args below meth c ok H locs ls hR hS hl => lv_dup ok.1 ok.2.1 hd hva (k p e s m args below meth c ok H locs ls hR hS hl)
theorem JX_istore {i : Nat} {x : Int32} (hd : decode cc pc = .ok (.istore i, 2)) (hn : i < nL) (hv : (i, Value.int x) :: lv.filter (fun q => !(q.1 == i) && !(q.1 + 1 == i && q.2.category == 2)) = lv') (k : JX sc l K own cc nL ret Ts hh nm fr lo mc ms Qf (pc + 2) rest lv' h kc ks) : JX sc l K own cc nL ret Ts hh nm fr lo mc ms Qf pc (.int x :: rest) lv h kc ks :=
  fun p e s m args below meth c ok H locs ls hR hS hl => lv_istore ok.1 ok.2.1 hd hl hn hv fun ls' hl' => k p e s m args below meth c ok H locs ls' hR hS hl'
theorem JX_astore_n {k : Fin 4} {i : Nat} {x : Nat} (hd : decode cc pc = .ok (.astore_n k, 1)) (hi : (k : Nat) = i) (hn : i < nL) (hv : (i, Value.ref x) :: lv.filter (fun q => !(q.1 == i) && !(q.1 + 1 == i && q.2.category == 2)) = lv') (k : JX sc l K own cc nL ret Ts hh nm fr lo mc ms Qf (pc + 1) rest lv' h kc ks) : JX sc l K own cc nL ret Ts hh nm fr lo mc ms Qf pc (.ref x :: rest) lv h kc ks :=
  fun p e s m args below meth c ok H locs ls hR hS hl => lv_astore_n ok.1 ok.2.1 hd hi hl hn hv fun ls' hl' => k p e s m args below meth c ok H locs ls' hR hS hl'
theorem JX_lstore {i : Nat} {x : Int64} (hd : decode cc pc = .ok (.lstore i, 2)) (hn : i + 1 < nL) (hv : (i, Value.long x) :: lv.filter (fun q => !(q.1 == i) && (!(q.1 == i + 1) && !(q.1 + 1 == i && q.2.category == 2))) = lv') (k : JX sc l K own cc nL ret Ts hh nm fr lo mc ms Qf (pc + 2) rest lv' h kc ks) : JX sc l K own cc nL ret Ts hh nm fr lo mc ms Qf pc (.long x :: rest) lv h kc ks :=
  fun p e s m args below meth c ok H locs ls hR hS hl => lv_lstore ok.1 ok.2.1 hd hl hn hv fun ls' hl' => k p e s m args below meth c ok H locs ls' hR hS hl'
theorem JX_iinc {i : Nat} {n : Int} {x v : Int32} (hd : decode cc pc = .ok (.iinc i n, 3)) (q : Nat) (hq : lv[q]? = some (i, .int x)) (hv : x + Int32.ofInt n = v) (hn : i < nL) (hl' : (i, Value.int v) :: lv.filter (fun q => !(q.1 == i) && !(q.1 + 1 == i && q.2.category == 2)) = lv') (k : JX sc l K own cc nL ret Ts hh nm fr lo mc ms Qf (pc + 3) rest lv' h kc ks) : JX sc l K own cc nL ret Ts hh nm fr lo mc ms Qf pc rest lv h kc ks :=
  fun p e s m args below meth c ok H locs ls hR hS hl => lv_iinc ok.1 ok.2.1 hd hl hq hv hn hl' fun ls' hl' => k p e s m args below meth c ok H locs ls' hR hS hl'
theorem JX_goto {off : Int} {tgt : Nat} (hd : decode cc pc = .ok (.goto off, 3)) (ht : (pc : Int) + off = (tgt : Int)) (k : JX sc l K own cc nL ret Ts hh nm fr lo mc ms Qf tgt rest lv h kc ks) : JX sc l K own cc nL ret Ts hh nm fr lo mc ms Qf pc rest lv h kc ks :=
  fun p e s m args below meth c ok H locs ls hR hS hl => lv_goto ok.1 ok.2.1 hd ht (k p e s m args below meth c ok H locs ls hR hS hl)
theorem JX_icmp_eq {x y : Int32} {off : Int} {tgt : Nat} (hd : decode cc pc = .ok (.if_icmp .eq off, 3)) (ht : (pc : Int) + off = (tgt : Int)) (kt : x = y → JX sc l K own cc nL ret Ts hh nm fr lo mc ms Qf tgt rest lv h kc ks) (kf : ¬ x = y → JX sc l K own cc nL ret Ts hh nm fr lo mc ms Qf (pc + 3) rest lv h kc ks) : JX sc l K own cc nL ret Ts hh nm fr lo mc ms Qf pc (.int y :: .int x :: rest) lv h kc ks :=
  fun p e s m args below meth c ok H locs ls hR hS hl => lv_icmp_eq ok.1 ok.2.1 hd ht (fun c9 => kt c9 p e s m args below meth c ok H locs ls hR hS hl) (fun c9 => kf c9 p e s m args below meth c ok H locs ls hR hS hl)
theorem JX_icmp_gt {x y : Int32} {off : Int} {tgt : Nat} (hd : decode cc pc = .ok (.if_icmp .gt off, 3)) (ht : (pc : Int) + off = (tgt : Int)) (kt : y < x → JX sc l K own cc nL ret Ts hh nm fr lo mc ms Qf tgt rest lv h kc ks) (kf : ¬ y < x → JX sc l K own cc nL ret Ts hh nm fr lo mc ms Qf (pc + 3) rest lv h kc ks) : JX sc l K own cc nL ret Ts hh nm fr lo mc ms Qf pc (.int y :: .int x :: rest) lv h kc ks :=
  fun p e s m args below meth c ok H locs ls hR hS hl => lv_icmp_gt ok.1 ok.2.1 hd ht (fun c9 => kt c9 p e s m args below meth c ok H locs ls hR hS hl) (fun c9 => kf c9 p e s m args below meth c ok H locs ls hR hS hl)
theorem JX_if_eq {x : Int32} {off : Int} {tgt : Nat} (hd : decode cc pc = .ok (.ifCond .eq off, 3)) (ht : (pc : Int) + off = (tgt : Int)) (kt : x = 0 → JX sc l K own cc nL ret Ts hh nm fr lo mc ms Qf tgt rest lv h kc ks) (kf : ¬ x = 0 → JX sc l K own cc nL ret Ts hh nm fr lo mc ms Qf (pc + 3) rest lv h kc ks) : JX sc l K own cc nL ret Ts hh nm fr lo mc ms Qf pc (.int x :: rest) lv h kc ks :=
  fun p e s m args below meth c ok H locs ls hR hS hl => lv_if_eq ok.1 ok.2.1 hd ht (fun c9 => kt c9 p e s m args below meth c ok H locs ls hR hS hl) (fun c9 => kf c9 p e s m args below meth c ok H locs ls hR hS hl)
theorem JX_if_ne {x : Int32} {off : Int} {tgt : Nat} (hd : decode cc pc = .ok (.ifCond .ne off, 3)) (ht : (pc : Int) + off = (tgt : Int)) (kt : ¬ x = 0 → JX sc l K own cc nL ret Ts hh nm fr lo mc ms Qf tgt rest lv h kc ks) (kf : x = 0 → JX sc l K own cc nL ret Ts hh nm fr lo mc ms Qf (pc + 3) rest lv h kc ks) : JX sc l K own cc nL ret Ts hh nm fr lo mc ms Qf pc (.int x :: rest) lv h kc ks :=
  fun p e s m args below meth c ok H locs ls hR hS hl => lv_if_ne ok.1 ok.2.1 hd ht (fun c9 => kt c9 p e s m args below meth c ok H locs ls hR hS hl) (fun c9 => kf c9 p e s m args below meth c ok H locs ls hR hS hl)
theorem JX_lcmp {x y : Int64} (hd : decode cc pc = .ok (.lcmp, 1)) (k : JX sc l K own cc nL ret Ts hh nm fr lo mc ms Qf (pc + 1) (.int (lg_cmp x y) :: rest) lv h kc ks) : JX sc l K own cc nL ret Ts hh nm fr lo mc ms Qf pc (.long y :: .long x :: rest) lv h kc ks :=
  fun p e s m args below meth c ok H locs ls hR hS hl => W.lcmp ok.1 ok.2.1 hd (k p e s m args below meth c ok H locs ls hR hS hl)
theorem JX_wide {kc' ks' : Nat} (h1 : kc ≤ kc') (h2 : ks ≤ ks') (k : JX sc l K own cc nL ret Ts hh nm fr lo mc ms Qf pc rest lv h kc' ks') : JX sc l K own cc nL ret Ts hh nm fr lo mc ms Qf pc rest lv h kc ks :=
  fun p e s m args below meth c ok H locs ls hR hS hl => W.widen h1 h2 (k p e s m args below meth c ok H locs ls hR hS hl)
theorem JX_sub (qs : List Nat) (hq : lv_pick lv qs = lv') (k : JX sc l K own cc nL ret Ts hh nm fr lo mc ms Qf pc rest lv' h kc ks) : JX sc l K own cc nL ret Ts hh nm fr lo mc ms Qf pc rest lv h kc ks :=
  fun p e s m args below meth c ok H locs ls hR hS hl => k p e s m args below meth c ok H locs ls hR hS (lv_sub hl qs hq)
theorem JX_lald {a : Nat} {i : Int32} {v : Int64} (hd : decode cc pc = .ok (.laload, 1)) (hg : aJ K h a i = some v)
    (kk : JX sc l K own cc nL ret Ts hh nm fr lo mc ms Qf (pc + 1) (.long v :: rest) lv h kc ks) : JX sc l K own cc nL ret Ts hh nm fr lo mc ms Qf pc (.int i :: .ref a :: rest) lv h kc ks := by
  intro p e s m args below meth c ok H locs ls hR hS hl
  obtain ⟨n, f, he, hi, rfl⟩ := aJ_spec hg
  exact va_lald ok.1 ok.2.1 ok.2.2.2.2.2.2.2.2.2.1.1 (hR.one he (xJ_in hi)) 0 1 rfl rfl hi hd (kk p e s m args below meth c ok H locs ls hR hS hl)
theorem JX_new {ci N idx : Nat} {C : String} {T : u_T} {fs : List Value} (hd : decode cc pc = .ok (.new idx, 3)) (hc : vwCl[ci]? = some (C, T, N)) (hin : ∀ w ∈ u_ws C T N, w ∈ Ts) (ty : Nat → FieldType) (hty : ∀ k, k < N → parseFieldDescriptor (T k).2.2.1 = some (ty k))
    (hcl : Cond.classLink own idx C ∈ Ts) (hinst : Cond.instantiable C N ∈ Ts) (hini : Cond.initialized C ∈ Ts) (hfs : ∀ j, j < N → defaultValue (ty j) = vp_V fs j) (h1 : kc + 1 ≤ mc) (h2 : ks + N ≤ ms)
    (kk : ∀ q, h q = none → kB K ≤ q → JX sc l K own cc nL ret Ts hh nm fr lo mc ms Qf (pc + 3) (.ref q :: rest) lv (va_up h q (some (xO ci fs))) (kc + 1) (ks + N)) : JX sc l K own cc nL ret Ts hh nm fr lo mc ms Qf pc rest lv h kc ks := by
  intro p e s m args below meth c ok H locs ls hR hS hl
  have hts := ok.2.2.2.2.1
  have hKn := ok.2.2.2.2.2.2.2.2.2.1.1.1 ci _ hc
  refine W.newcK ok.1 ok.2.1 ok.2.2.2.1 (hts _ hcl) (hts _ hinst) (hts _ hini) rfl hd h1 h2 hKn.2.1 rfl fun H1 kC hkC e1 z1 o1 => ?_
  refine kk H.size hR.fresh hR.2.1 p e s m args below meth c ok H1 _ ls (hR.push z1 o1 ?_) (hS.new z1 o1) hl
  exact ⟨_, hc, (u_born ty hts hin hKn hkC e1 hty).to hfs⟩
theorem JX_newa {t : Nat} {atype : ArrayType} {n : Int32} {N' : Nat} {ty : FieldType} {a0 : vp_A} (hd : decode cc pc = .ok (.newarray atype, 2)) (harr : Cond.arrayClass (newarray.typeOf atype) ∈ Ts) (hty : newarray.typeOf atype = ty) (ht : (tyL K)[t]? = some (K.2.1 t, ty))
    (hra : ∀ (U : State) (cA : ClassId), va_RA U cA ty → U.vm.findClass ("[" ++ ty.toString) = some cA) (ha : ∀ cA : ClassId, vp_cell cA a0 = arrV cA N' (fun _ => defaultValue ty)) (hn : n = nI N') (hN : N' ≤ 60000000) (hb8 : componentBytes ty ≤ 8) (h1 : kc + 1 ≤ mc) (h2 : ks + N' ≤ ms)
    (kk : ∀ q, h q = none → kB K ≤ q → JX sc l K own cc nL ret Ts hh nm fr lo mc ms Qf (pc + 2) (.ref q :: rest) lv (va_up h q (some (.inl (K.2.1 t, a0)))) (kc + 1) (ks + N')) : JX sc l K own cc nL ret Ts hh nm fr lo mc ms Qf pc (.int n :: rest) lv h kc ks := by
  intro p e s m args below meth c ok H locs ls hR hS hl
  subst hty
  subst hn
  have hbt : N' * componentBytes (newarray.typeOf atype) ≤ 536870912 := by
    have := Nat.mul_le_mul_left N' hb8
    omega
  refine va_newaK ok.1 ok.2.1 (ok.2.2.2.2.1 _ harr) rfl hd rfl (nI_pos (by omega)) (nI_clamp (by omega)) hbt h1 h2 rfl fun H1 cA e1 z1 o1 hAr hNm => ?_
  have hcA : cA = K.2.1 t := Option.some.inj (hNm.symm.trans (hra s _ (ok.2.2.2.2.2.2.2.2.2.1.1.2 t _ ht).2))
  subst hcA
  refine kk H.size hR.fresh hR.2.1 p e s m args below meth c ok H1 _ ls (hR.push z1 o1 ?_) (hS.new z1 o1) hl
  show H1[H.size]? = some (vp_cell _ _)
  rw [ha]
  exact e1
theorem JX_ldc2 {idx : Nat} {v : Int64} (hd : decode cc pc = .ok (.ldc2_w idx, 3)) (hc : Cond.constantLong own idx v ∈ Ts) (kk : JX sc l K own cc nL ret Ts hh nm fr lo mc ms Qf (pc + 3) (.long v :: rest) lv h kc ks) : JX sc l K own cc nL ret Ts hh nm fr lo mc ms Qf pc rest lv h kc ks :=
  fun p e s m args below meth c ok H locs ls hR hS hl => lv_ldc2 ok.1 ok.2.1 ok.2.2.2.1 (ok.2.2.2.2.1 _ hc) hd (kk p e s m args below meth c ok H locs ls hR hS hl)
theorem JX_tableOut {dflt lo9 hi : Int} {offs : Array Int} {len : Nat} {x : Int32} {tgt : Nat} (hd : decode cc pc = .ok (.tableswitch dflt lo9 hi offs, len)) (h1 : x.toInt < lo9 ∨ hi < x.toInt) (ht : (pc : Int) + dflt = (tgt : Int))
    (kk : JX sc l K own cc nL ret Ts hh nm fr lo mc ms Qf tgt rest lv h kc ks) : JX sc l K own cc nL ret Ts hh nm fr lo mc ms Qf pc (.int x :: rest) lv h kc ks :=
  fun p e s m args below meth c ok H locs ls hR hS hl => lv_tableOut ok.1 ok.2.1 hd h1 ht (kk p e s m args below meth c ok H locs ls hR hS hl)
theorem JX_tableIn {dflt lo9 hi : Int} {offs : Array Int} {len : Nat} {x : Int32} {off : Int} {tgt : Nat} (hd : decode cc pc = .ok (.tableswitch dflt lo9 hi offs, len)) (h1 : ¬ x.toInt < lo9) (h2 : ¬ hi < x.toInt) (h3 : offs[(x.toInt - lo9).toNat]? = some off) (ht : (pc : Int) + off = (tgt : Int))
    (kk : JX sc l K own cc nL ret Ts hh nm fr lo mc ms Qf tgt rest lv h kc ks) : JX sc l K own cc nL ret Ts hh nm fr lo mc ms Qf pc (.int x :: rest) lv h kc ks :=
  fun p e s m args below meth c ok H locs ls hR hS hl => lv_tableIn ok.1 ok.2.1 hd h1 h2 h3 ht (kk p e s m args below meth c ok H locs ls hR hS hl)
theorem JX_run {p : Program} {e : Env} {s : State} {m : MethodId} {args : Array Value} {below : List Frame} {meth : Method} {c : Code} (ok : OkX sc l K own cc nL ret Ts hh nm p s m args meth c) {H : Heap} {locs : List Loc} {ls : Array Slot} (hS : va_S (Ax K) s.heap H locs) (hl : lv_has ls nL lv)
    {mc' ms' : Nat} {st0 : List Value} {P : Rs → Hp → Prop} {a : Array Value} (hr : vx_Run p l e (rmx fr lo mc ms) s m args below meth c H locs kc ks mc' ms' (F0 m pc ls st0) rest (Qcx K P a) (Xcx K P) (Ax K))
    (kk : ∀ (v : Option Value) (h' : Hp), P (.inl v) h' → JX sc l K own cc nL ret Ts hh nm fr lo mc ms Qf (pc + 3) (v.toList ++ rest) lv h' (kc + mc') (ks + ms'))
    (kx : ∀ (E : String) (h' : Hp) (ce : Cell) (q9 : Addr) (H1 : Heap) (locs1 : List Loc), P (.inr E) h' → Rp K h' H1 → va_S (Ax K) s.heap H1 locs1 → H1[q9]? = some ce → ce.vm = .none → s.vm.findClass E = some ce.cls → vx_W p l e (rmx fr lo mc ms) s m args below meth c H1 locs1 (kc + mc') (ks + ms') (Qf s args below) (F0 m pc ls rest) q9) :
    W p l e (rmx fr lo mc ms) s m args below meth c H locs kc ks (Qf s args below) (F0 m pc ls st0) := by
  intro T hT X
  rcases hr T hT X with ⟨v, st₀, t, T', L, h0, X', hL, e1, e2, ⟨⟨v', h', hv, hp, hR'⟩, hF⟩, st⟩ | ⟨q, st₀, t, T', L, E, ce, h0, X', hL, e1, e2, ⟨⟨h', hp, hR'⟩, hF⟩, hce, hcv, hcl, st⟩
  · cases hv
    obtain ⟨k1, k2, k3⟩ := vx_keep h0 e1 hS (fun _ _ h => h) (fun _ h => h) hL hF
    obtain ⟨t2, a1, b1⟩ := kk v h' hp p e s m args below meth c ok T'.heap (locs ++ L) ls (by rw [e1]; exact hR') k3 hl T' rfl X'
    exact ⟨t2, st t2 a1, b1⟩
  · obtain ⟨k1, k2, k3⟩ := vx_keep h0 e1 hS (fun _ _ h => h) (fun _ h => h) hL hF
    obtain ⟨t2, a1, b1⟩ := kx E h' ce q T'.heap (locs ++ L) hp (by rw [e1]; exact hR') k3 (by rw [e1]; exact hce) hcv hcl T' rfl X'
    exact ⟨t2, st.trans a1, b1⟩
theorem JX_run0 {p : Program} {e : Env} {s : State} {m : MethodId} {args : Array Value} {below : List Frame} {meth : Method} {c : Code} (ok : OkX sc l K own cc nL ret Ts hh nm p s m args meth c) {H : Heap} {locs : List Loc} {ls : Array Slot} (hS : va_S (Ax K) s.heap H locs) (hl : lv_has ls nL lv)
    {mc' ms' : Nat} {st0 : List Value} {P : Rs → Hp → Prop} {a : Array Value} (hr : va_Run p l e (rmx fr lo mc ms) s m args below meth c H locs kc ks mc' ms' (F0 m pc ls st0) rest (Qcx K P a) (Ax K))
    (kk : ∀ (v : Option Value) (h' : Hp), P (.inl v) h' → JX sc l K own cc nL ret Ts hh nm fr lo mc ms Qf (pc + 3) (v.toList ++ rest) lv h' (kc + mc') (ks + ms')) :
    W p l e (rmx fr lo mc ms) s m args below meth c H locs kc ks (Qf s args below) (F0 m pc ls st0) := by
  intro T hT X
  obtain ⟨v, st₀, t, T', L, h0, X', hL, e1, e2, ⟨⟨v', h', hv, hp, hR'⟩, hF⟩, st⟩ := hr T hT X
  cases hv
  obtain ⟨k1, k2, k3⟩ := vx_keep h0 e1 hS (fun _ _ h => h) (fun _ h => h) hL hF
  obtain ⟨t2, a1, b1⟩ := kk v h' hp p e s m args below meth c ok T'.heap (locs ++ L) ls (by rw [e1]; exact hR') k3 hl T' rfl X'
  exact ⟨t2, st t2 a1, b1⟩
set_option maxHeartbeats 4000000 in
theorem JX_callI {idx b frc loc nLc mc' ms' n : Nat} {y : MethodName} {bytes : ByteArray} {wsy wsy' : List Cond} {As : List Value} {P : Rs → Hp → Prop} (hd : decode cc pc = .ok (.invokespecial idx, 3)) (hG : GoodIn Ts wsy) (hw : wsy = Cond.code y bytes nLc none :: wsy') (hini : Cond.initialized y.cls ∈ Ts) (hlk : Cond.methodLink own idx y ∈ Ts) (hin : Cond.instanceMethod y ∈ Ts) (hy1 : y.name = "<init>")
    (hdd : y.cls ≠ "java/lang/invoke/MethodHandle" ∧ y.cls ≠ "java/lang/invoke/VarHandle" ∧ (parseMethodDescriptor y.desc).map (fun d => d.parameters.length) = some n) (hn : As.length = n) (hfit : fitR fr lo frc loc nLc) (hrest : (rest.map fun v => v.category).sum ≤ 8)
    (h1 : kc + mc' ≤ mc) (h2 : ks + ms' ≤ ms) (hM : MX l K y wsy frc loc mc' ms' (.ref b :: As) h P) (hx : ∀ E h', ¬ P (.inr E) h')
    (kk : ∀ (v : Option Value) (h' : Hp), P (.inl v) h' → JX sc l K own cc nL ret Ts hh nm fr lo mc ms Qf (pc + 3) (v.toList ++ rest) lv h' (kc + mc') (ks + ms')) : JX sc l K own cc nL ret Ts hh nm fr lo mc ms Qf pc (As.reverse ++ .ref b :: rest) lv h kc ks := by
  intro p e s m args below meth c ok H locs ls hR hS hl
  have hts := ok.2.2.2.2.1
  exact JX_run0 ok hS hl (va_runI (As := As) (rest := rest) (Ts := Ts) (own := own) ⟨ok.1, ok.2.1, ok.2.2.1, ok.2.2.2.1, ok.2.2.2.2.1⟩ (hM.met hx) (cwI n hts hG hw rfl rfl (hts _ hini) (hts _ hlk) (hts _ hin) hy1 hdd hfit) ⟨Pcx.blind, fun U hU hW => ⟨rfl, ok.2.2.2.2.2.2.2.2.2.1.warm hW, by rw [hU]; exact hR⟩⟩ rfl hn hl.1 rfl (lv_room hrest) hd ⟨h1, h2⟩) kk
set_option maxHeartbeats 4000000 in
theorem JX_callV0 {idx ci b frc loc nLc mc' ms' n : Nat} {y : MethodName} {bytes : ByteArray} {retc : Option FieldType} {wsy wsy' : List Cond} {As : List Value} {P : Rs → Hp → Prop} {r : vw_C} (hd : decode cc pc = .ok (.invokevirtual idx, 3)) (hc : vwCl[ci]? = some r) (hG : GoodIn Ts (wsV own idx r.1 y wsy)) (hw : wsy = Cond.code y bytes nLc retc :: wsy')
    (hdd : y.cls = r.1 ∧ y.cls ≠ "java/lang/invoke/MethodHandle" ∧ y.cls ≠ "java/lang/invoke/VarHandle" ∧ (parseMethodDescriptor y.desc).map (fun d => d.parameters.length) = some n) (hn : As.length = n) (hfit : fitR fr lo frc loc nLc) (hb : ∃ fs, h b = some (xO ci fs)) (hrest : (rest.map fun v => v.category).sum ≤ 8)
    (h1 : kc + mc' ≤ mc) (h2 : ks + ms' ≤ ms) (hM : MX l K y wsy frc loc mc' ms' (.ref b :: As) h P) (hx : ∀ E h', ¬ P (.inr E) h')
    (kk : ∀ (v : Option Value) (h' : Hp), P (.inl v) h' → JX sc l K own cc nL ret Ts hh nm fr lo mc ms Qf (pc + 3) (v.toList ++ rest) lv h' (kc + mc') (ks + ms')) : JX sc l K own cc nL ret Ts hh nm fr lo mc ms Qf pc (As.reverse ++ .ref b :: rest) lv h kc ks := by
  intro p e s m args below meth c ok H locs ls hR hS hl
  obtain ⟨fs, hb⟩ := hb
  exact JX_run0 ok hS hl (va_runV (As := As) (rest := rest) (Ts := Ts) (own := own) ⟨ok.1, ok.2.1, ok.2.2.1, ok.2.2.2.1, ok.2.2.2.2.1⟩ (hM.met hx) (cwV n ok.2.2.2.2.1 hG hw rfl rfl hdd hfit) (preV_of ok.2.2.2.2.2.2.2.2.2.1 hR hc hb) rfl hn hl.1 rfl (lv_room hrest) hd ⟨h1, h2⟩) kk
set_option maxHeartbeats 4000000 in
theorem JX_callSW {idx frc loc nLc mc' ms' n : Nat} {y : MethodName} {bytes : ByteArray} {retc : Option FieldType} {hhc : List (Nat × Nat × Nat × Nat)} {wsy wsy' : List Cond} {As : List Value} {P : Rs → Hp → Prop} (hd : decode cc pc = .ok (.invokestatic idx, 3)) (hG : GoodIn Ts (va_wsS own idx y wsy)) (hw : wsy = Cond.codeWith y bytes nLc retc hhc :: wsy')
    (hdd : y.cls ≠ "java/lang/invoke/MethodHandle" ∧ y.cls ≠ "java/lang/invoke/VarHandle" ∧ (parseMethodDescriptor y.desc).map (fun d => d.parameters.length) = some n) (hn : As.length = n) (hfit : fitR fr lo frc loc nLc) (hrest : (rest.map fun v => v.category).sum ≤ 8)
    (h1 : kc + mc' ≤ mc) (h2 : ks + ms' ≤ ms) (hM : MX l K y wsy frc loc mc' ms' As h P) (hx : ∀ E h', ¬ P (.inr E) h')
    (kk : ∀ (v : Option Value) (h' : Hp), P (.inl v) h' → JX sc l K own cc nL ret Ts hh nm fr lo mc ms Qf (pc + 3) (v.toList ++ rest) lv h' (kc + mc') (ks + ms')) : JX sc l K own cc nL ret Ts hh nm fr lo mc ms Qf pc (As.reverse ++ rest) lv h kc ks := by
  intro p e s m args below meth c ok H locs ls hR hS hl
  refine JX_run ok hS hl (vx_runSX (hh := hhc) (As := As) (rest := rest) (Ts := Ts) (own := own) ⟨ok.1, ok.2.1, ok.2.2.1, ok.2.2.2.1, ok.2.2.2.2.1⟩ hM (vx_cwSW n ok.2.2.2.2.1 hG hw rfl rfl hdd hfit) ⟨Pcx.blind, fun U hU hW => ⟨rfl, ok.2.2.2.2.2.2.2.2.2.1.warm hW, by rw [hU]; exact hR⟩⟩ rfl hn hl.1 rfl (lv_room hrest) hd ⟨h1, h2⟩) kk ?_
  intro E h' ce q9 H1 locs1 hp
  exact absurd hp (hx E h')
theorem JX_lveq (e : lv = lv') (k : JX sc l K own cc nL ret Ts hh nm fr lo mc ms Qf pc rest lv' h kc ks) : JX sc l K own cc nL ret Ts hh nm fr lo mc ms Qf pc rest lv h kc ks := by rw [e]; exact k
theorem kV_kx {F : Hp → Prop} (kk : ∀ h', F h' → JX sc l K own cc nL ret Ts hh nm fr lo mc ms Qf pc rest lv h' kc ks) (v : Option Value) (h' : Hp) (q : kV F (.inl v) h') : JX sc l K own cc nL ret Ts hh nm fr lo mc ms Qf pc (v.toList ++ rest) lv h' kc ks := by
  obtain ⟨e, q⟩ := q
  cases e
  exact kk h' q
theorem kI_kx {F : Int32 → Hp → Prop} (kk : ∀ x h', F x h' → JX sc l K own cc nL ret Ts hh nm fr lo mc ms Qf pc (.int x :: rest) lv h' kc ks) (v : Option Value) (h' : Hp) (q : kI F (.inl v) h') : JX sc l K own cc nL ret Ts hh nm fr lo mc ms Qf pc (v.toList ++ rest) lv h' kc ks := by
  obtain ⟨x, e, q⟩ := q
  cases e
  exact kk x h' q
theorem kL_kx {F : Int64 → Hp → Prop} (kk : ∀ x h', F x h' → JX sc l K own cc nL ret Ts hh nm fr lo mc ms Qf pc (.long x :: rest) lv h' kc ks) (v : Option Value) (h' : Hp) (q : kL F (.inl v) h') : JX sc l K own cc nL ret Ts hh nm fr lo mc ms Qf pc (v.toList ++ rest) lv h' kc ks := by
  obtain ⟨x, e, q⟩ := q
  cases e
  exact kk x h' q
/-- a number of the script -/
theorem JX_sld {i : Int32} {j : Nat} (hd : decode cc pc = .ok (.iaload, 1)) (hi : i = nI j) (hj : j < sc.2.1) (hL : sc.2.1 < 2 ^ 31) (k : JX sc l K own cc nL ret Ts hh nm fr lo mc ms Qf (pc + 1) (.int (sc.2.2 j) :: rest) lv h kc ks) : JX sc l K own cc nL ret Ts hh nm fr lo mc ms Qf pc (.int i :: .ref sc.1 :: rest) lv h kc ks := by
  intro p e s m args below meth c ok H locs ls hR hS hl
  subst hi
  have hc := nI_clamp (n := j) (by omega)
  have := va_sld ok.1 ok.2.1 ok.2.2.2.2.2.2.2.2.2.2.2.2.1 ok.2.2.2.2.2.2.2.2.2.2.2.2.2.1 (A := Ax K) (fun z => by have h1 := ok.2.2.2.2.2.2.2.2.2.2.2.1; have h2 := ok.2.2.2.2.2.2.2.2.2.2.2.2.2.1; unfold Ax at z; omega) hS (i := nI j) (fun z => z.elim (nI_pos (by omega)) (fun z => by rw [hc] at z; omega)) hd (by rw [hc]; exact k p e s m args below meth c ok H locs ls hR hS hl)
  exact this
theorem JX_slen (hd : decode cc pc = .ok (.arraylength, 1)) (k : JX sc l K own cc nL ret Ts hh nm fr lo mc ms Qf (pc + 1) (.int (nI sc.2.1) :: rest) lv h kc ks) : JX sc l K own cc nL ret Ts hh nm fr lo mc ms Qf pc (.ref sc.1 :: rest) lv h kc ks := by
  intro p e s m args below meth c ok H locs ls hR hS hl
  exact va_slen ok.1 ok.2.1 ok.2.2.2.2.2.2.2.2.2.2.2.2.1 ok.2.2.2.2.2.2.2.2.2.2.2.2.2.1 (A := Ax K) (fun z => by have h1 := ok.2.2.2.2.2.2.2.2.2.2.2.1; have h2 := ok.2.2.2.2.2.2.2.2.2.2.2.2.2.1; unfold Ax at z; omega) hS hd (k p e s m args below meth c ok H locs ls hR hS hl)
end RulesX
