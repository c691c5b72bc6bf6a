/-! ===== calls of methods that don't throw; copies; throws; bodies with handlers ===== -/
theorem MX.met {l : Launch} {K : Kx} {y : MethodName} {ws : List Cond} {fr lo mc ms : Nat} {As : List Value} {h : Hp} {P : Rs → Hp → Prop} (m : MX l K y ws fr lo mc ms As h P) (hx : ∀ E h', ¬ P (.inr E) h') : Met l y ws (rmx fr lo mc ms) (Pcx K As h) (Qcx K P) mc ms (Ax K) := by
  intro p e a1 a2 a3 s m0 args below a4 a5 a6 a7
  obtain ⟨n, o, b1, b2, b3, b4⟩ := m p e a1 a2 a3 s m0 args below a4 a5 a6 a7
  refine ⟨n, o, b1, b2, b3, ?_⟩
  rcases b4 with b4 | ⟨q, c0, E, ce, L, ⟨⟨h', c1, c2⟩, cF⟩, c3⟩
  · exact b4
  · exact absurd c1 (hx E h')
section Mem2
variable {l : Launch} {K : Kx} {own : String} {cc : ByteArray} {nL : Nat} {ret : Option FieldType} {Ts : List Cond} {hh : List (Nat × Nat × Nat × Nat)} {nm : String} {fr lo mc ms : Nat} {Qf : State → Array Value → List Frame → State → Prop} {pc : Nat} {rest : List Value} {lv lv' : List (Nat × Value)} {h : Hp} {kc ks : Nat}
theorem J_run0 {p : Program} {e : Env} {s : State} {m : MethodId} {args : Array Value} {below : List Frame} {meth : Method} {c : Code} (ok : OkB l K own cc nL ret Ts hh nm p s m args meth c) {H : Heap} {locs : List Loc} {ls : Array Slot} (hS : va_S (Ax K) s.heap H locs) (hl : lv_has ls nL lv)
    {mc' ms' : Nat} {st0 : List Value} {P : Rs → Hp → Prop} {a : Array Value} (hr : va_Run p l e (rmx fr lo mc ms) s m args below meth c H locs kc ks mc' ms' (F0 m pc ls st0) rest (Qcx K P a) (Ax K))
    (kk : ∀ (v : Option Value) (h' : Hp), P (.inl v) h' → J l K own cc nL ret Ts hh nm fr lo mc ms Qf (pc + 3) (v.toList ++ rest) lv h' (kc + mc') (ks + ms')) :
    W p l e (rmx fr lo mc ms) s m args below meth c H locs kc ks (Qf s args below) (F0 m pc ls st0) := by
  intro T hT X
  obtain ⟨v, st₀, t, T', L, h0, X', hL, e1, e2, ⟨⟨v', h', hv, hp, hR'⟩, hF⟩, st⟩ := hr T hT X
  cases hv
  obtain ⟨k1, k2, k3⟩ := vx_keep h0 e1 hS (fun _ _ h => h) (fun _ h => h) hL hF
  obtain ⟨t2, a1, b1⟩ := kk v h' hp p e s m args below meth c ok T'.heap (locs ++ L) ls (by rw [e1]; exact hR') k3 hl T' rfl X'
  exact ⟨t2, st t2 a1, b1⟩
set_option maxHeartbeats 4000000 in
/-- invokespecial of a constructor -/
theorem J_callI {idx b frc loc nLc mc' ms' n : Nat} {y : MethodName} {bytes : ByteArray} {wsy wsy' : List Cond} {As : List Value} {P : Rs → Hp → Prop} (hd : decode cc pc = .ok (.invokespecial idx, 3)) (hG : GoodIn Ts wsy) (hw : wsy = Cond.code y bytes nLc none :: wsy') (hini : Cond.initialized y.cls ∈ Ts) (hlk : Cond.methodLink own idx y ∈ Ts) (hin : Cond.instanceMethod y ∈ Ts) (hy1 : y.name = "<init>")
    (hdd : y.cls ≠ "java/lang/invoke/MethodHandle" ∧ y.cls ≠ "java/lang/invoke/VarHandle" ∧ (parseMethodDescriptor y.desc).map (fun d => d.parameters.length) = some n) (hn : As.length = n) (hfit : fitR fr lo frc loc nLc) (hrest : (rest.map fun v => v.category).sum ≤ 8)
    (h1 : kc + mc' ≤ mc) (h2 : ks + ms' ≤ ms) (hM : MX l K y wsy frc loc mc' ms' (.ref b :: As) h P) (hx : ∀ E h', ¬ P (.inr E) h')
    (kk : ∀ (v : Option Value) (h' : Hp), P (.inl v) h' → J l K own cc nL ret Ts hh nm fr lo mc ms Qf (pc + 3) (v.toList ++ rest) lv h' (kc + mc') (ks + ms')) : J l K own cc nL ret Ts hh nm fr lo mc ms Qf pc (As.reverse ++ .ref b :: rest) lv h kc ks := by
  intro p e s m args below meth c ok H locs ls hR hS hl
  have hts := ok.2.2.2.2.1
  exact J_run0 ok hS hl (va_runI (As := As) (rest := rest) (Ts := Ts) (own := own) ⟨ok.1, ok.2.1, ok.2.2.1, ok.2.2.2.1, ok.2.2.2.2.1⟩ (hM.met hx) (cwI n hts hG hw rfl rfl (hts _ hini) (hts _ hlk) (hts _ hin) hy1 hdd hfit) ⟨Pcx.blind, fun U hU hW => ⟨rfl, ok.2.2.2.2.2.2.2.2.2.1.warm hW, by rw [hU]; exact hR⟩⟩ rfl hn hl.1 rfl (lv_room hrest) hd ⟨h1, h2⟩) kk
set_option maxHeartbeats 4000000 in
/-- the same, of a nest mate's private one -/
theorem J_callIN {idx b frc loc nLc mc' ms' n : Nat} {y : MethodName} {host : String} {bytes : ByteArray} {wsy wsy' : List Cond} {As : List Value} {P : Rs → Hp → Prop} (hd : decode cc pc = .ok (.invokespecial idx, 3)) (hG : GoodIn Ts wsy) (hw : wsy = Cond.code y bytes nLc none :: wsy') (hini : Cond.initialized y.cls ∈ Ts) (hlk : (own, idx, y, host) ∈ nestM) (hin : Cond.instanceMethod y ∈ Ts) (hy1 : y.name = "<init>")
    (hdd : y.cls ≠ "java/lang/invoke/MethodHandle" ∧ y.cls ≠ "java/lang/invoke/VarHandle" ∧ (parseMethodDescriptor y.desc).map (fun d => d.parameters.length) = some n) (hn : As.length = n) (hfit : fitR fr lo frc loc nLc) (hrest : (rest.map fun v => v.category).sum ≤ 8)
    (h1 : kc + mc' ≤ mc) (h2 : ks + ms' ≤ ms) (hM : MX l K y wsy frc loc mc' ms' (.ref b :: As) h P) (hx : ∀ E h', ¬ P (.inr E) h')
    (kk : ∀ (v : Option Value) (h' : Hp), P (.inl v) h' → J l K own cc nL ret Ts hh nm fr lo mc ms Qf (pc + 3) (v.toList ++ rest) lv h' (kc + mc') (ks + ms')) : J l K own cc nL ret Ts hh nm fr lo mc ms Qf pc (As.reverse ++ .ref b :: rest) lv h kc ks := by
  intro p e s m args below meth c ok H locs ls hR hS hl
  have hts := ok.2.2.2.2.1
  exact J_run0 ok hS hl (va_runIN (As := As) (rest := rest) (Ts := Ts) (own := own) ⟨ok.1, ok.2.1, ok.2.2.1, ok.2.2.2.1, ok.2.2.2.2.1⟩ (hM.met hx) ⟨va_cnB n hts hG hw rfl rfl (ok.2.2.2.2.2.2.2.2.2.1.2.2.2.2.2.1 _ hlk) (hts _ hini) hdd hfit, hy1, hts _ hin⟩ ⟨Pcx.blind, fun U hU hW => ⟨rfl, ok.2.2.2.2.2.2.2.2.2.1.warm hW, by rw [hU]; exact hR⟩⟩ rfl hn hl.1 rfl (lv_room hrest) hd ⟨h1, h2⟩) kk
set_option maxHeartbeats 4000000 in
/-- a nest mate's private static one -/
theorem J_callSN {idx frc loc nLc mc' ms' n : Nat} {y : MethodName} {host : String} {bytes : ByteArray} {retc : Option FieldType} {wsy wsy' : List Cond} {As : List Value} {P : Rs → Hp → Prop} (hd : decode cc pc = .ok (.invokestatic idx, 3)) (hG : GoodIn Ts wsy) (hw : wsy = Cond.code y bytes nLc retc :: wsy') (hini : Cond.initialized y.cls ∈ Ts) (hlk : (own, idx, y, host) ∈ nestM) (hst : Cond.static y ∈ Ts)
    (hdd : y.cls ≠ "java/lang/invoke/MethodHandle" ∧ y.cls ≠ "java/lang/invoke/VarHandle" ∧ (parseMethodDescriptor y.desc).map (fun d => d.parameters.length) = some n) (hn : As.length = n) (hfit : fitR fr lo frc loc nLc) (hrest : (rest.map fun v => v.category).sum ≤ 8)
    (h1 : kc + mc' ≤ mc) (h2 : ks + ms' ≤ ms) (hM : MX l K y wsy frc loc mc' ms' As h P) (hx : ∀ E h', ¬ P (.inr E) h')
    (kk : ∀ (v : Option Value) (h' : Hp), P (.inl v) h' → J l K own cc nL ret Ts hh nm fr lo mc ms Qf (pc + 3) (v.toList ++ rest) lv h' (kc + mc') (ks + ms')) : J l K own cc nL ret Ts hh nm fr lo mc ms Qf pc (As.reverse ++ rest) lv h kc ks := by
  intro p e s m args below meth c ok H locs ls hR hS hl
  have hts := ok.2.2.2.2.1
  exact J_run0 ok hS hl (va_runSN (As := As) (rest := rest) (Ts := Ts) (own := own) ⟨ok.1, ok.2.1, ok.2.2.1, ok.2.2.2.1, ok.2.2.2.2.1⟩ (hM.met hx) ⟨va_cnB n hts hG hw rfl rfl (ok.2.2.2.2.2.2.2.2.2.1.2.2.2.2.2.1 _ hlk) (hts _ hini) hdd hfit, hts _ hst, trivial⟩ ⟨Pcx.blind, fun U hU hW => ⟨rfl, ok.2.2.2.2.2.2.2.2.2.1.warm hW, by rw [hU]; exact hR⟩⟩ rfl hn hl.1 rfl (lv_room hrest) hd ⟨h1, h2⟩) kk
theorem J_mmaxl {idx : Nat} {x y : Int64} (hd : decode cc pc = .ok (.invokestatic idx, 3)) (g1 : Cond.methodLink own idx Lib.MathLoose.max_long.x ∈ Ts) (g2 : Cond.static Lib.MathLoose.max_long.x ∈ Ts) (g3 : Cond.initialized "java/lang/Math" ∈ Ts) (g4 : Cond.code Lib.MathLoose.max_long.x Lib.MathLoose.max_long.code 4 (some .long) ∈ Ts)
    (hf : 1 ≤ fr) (ho : (rest.map fun v => v.category).sum + 15 ≤ lo) (h1 : kc ≤ mc) (h2 : ks ≤ ms) (kk : J l K own cc nL ret Ts hh nm fr lo mc ms Qf (pc + 3) (.long (if y < x then x else y) :: rest) lv h kc ks) : J l K own cc nL ret Ts hh nm fr lo mc ms Qf pc (.long y :: .long x :: rest) lv h kc ks :=
  fun p e s m args below meth c ok H locs ls hR hS hl => va_mmax_long ok.1 ok.2.1 (ok.2.2.1.trans hl.1.symm) ok.2.2.2.1 (ok.2.2.2.2.1 _ g1) (ok.2.2.2.2.1 _ g2) (ok.2.2.2.2.1 _ g3) (ok.2.2.2.2.1 _ g4) hf ho h1 h2 hd (kk p e s m args below meth c ok H locs ls hR hS hl)
theorem J_mminl {idx : Nat} {x y : Int64} (hd : decode cc pc = .ok (.invokestatic idx, 3)) (g1 : Cond.methodLink own idx Lib.MathLoose.min_long.x ∈ Ts) (g2 : Cond.static Lib.MathLoose.min_long.x ∈ Ts) (g3 : Cond.initialized "java/lang/Math" ∈ Ts) (g4 : Cond.code Lib.MathLoose.min_long.x Lib.MathLoose.min_long.code 4 (some .long) ∈ Ts)
    (hf : 1 ≤ fr) (ho : (rest.map fun v => v.category).sum + 15 ≤ lo) (h1 : kc ≤ mc) (h2 : ks ≤ ms) (kk : J l K own cc nL ret Ts hh nm fr lo mc ms Qf (pc + 3) (.long (if y < x then y else x) :: rest) lv h kc ks) : J l K own cc nL ret Ts hh nm fr lo mc ms Qf pc (.long y :: .long x :: rest) lv h kc ks :=
  fun p e s m args below meth c ok H locs ls hR hS hl => va_mmin_long ok.1 ok.2.1 (ok.2.2.1.trans hl.1.symm) ok.2.2.2.1 (ok.2.2.2.2.1 _ g1) (ok.2.2.2.2.1 _ g2) (ok.2.2.2.2.1 _ g3) (ok.2.2.2.2.1 _ g4) hf ho h1 h2 hd (kk p e s m args below meth c ok H locs ls hR hS hl)
theorem J_mmini {idx : Nat} {x y : Int32} (hd : decode cc pc = .ok (.invokestatic idx, 3)) (g1 : Cond.methodLink own idx Lib.Math.min.name ∈ Ts) (g2 : Cond.static Lib.Math.min.name ∈ Ts) (g3 : Cond.initialized "java/lang/Math" ∈ Ts) (g4 : Cond.code Lib.Math.min.name Lib.Math.min.code 2 (some .int) ∈ Ts)
    (hf : 1 ≤ fr) (ho : (rest.map fun v => v.category).sum + 13 ≤ lo) (h1 : kc ≤ mc) (h2 : ks ≤ ms) (kk : J l K own cc nL ret Ts hh nm fr lo mc ms Qf (pc + 3) (.int (if y < x then y else x) :: rest) lv h kc ks) : J l K own cc nL ret Ts hh nm fr lo mc ms Qf pc (.int y :: .int x :: rest) lv h kc ks :=
  fun p e s m args below meth c ok H locs ls hR hS hl => va_mmin ok.1 ok.2.1 (ok.2.2.1.trans hl.1.symm) ok.2.2.2.1 (ok.2.2.2.2.1 _ g1) (ok.2.2.2.2.1 _ g2) (ok.2.2.2.2.1 _ g3) (ok.2.2.2.2.1 _ g4) hf ho h1 h2 hd (kk p e s m args below meth c ok H locs ls hR hS hl)
set_option maxHeartbeats 4000000 in
/-- System.arraycopy of longs -/
theorem J_copyl {idx a0 a1 n0 n1 : Nat} {f g : Nat → Int64} {sp dp n : Int32} (hd : decode cc pc = .ok (.invokestatic idx, 3)) (g1 : Cond.methodLink own idx arraycopyName ∈ Ts) (g2 : Cond.native arraycopyName ∈ Ts) (g3 : Cond.static arraycopyName ∈ Ts) (g4 : Cond.initialized "java/lang/System" ∈ Ts)
    (ha0 : h a0 = some (xJ K n0 f)) (ha1 : h a1 = some (xJ K n1 g)) (hb : kB K ≤ a1) (h1 : ¬ sp < 0) (h2 : ¬ dp < 0) (h3 : ¬ n < 0) (h4 : sp.toNatClampNeg + n.toNatClampNeg ≤ n0) (h5 : dp.toNatClampNeg + n.toNatClampNeg ≤ n1)
    (hf : 1 ≤ fr) (ho : (rest.map fun v => v.category).sum + (nativeFrameWords "java/lang/System" "arraycopy" 5 + 11) ≤ lo)
    (kk : J l K own cc nL ret Ts hh nm fr lo mc ms Qf (pc + 3) rest lv (va_up h a1 (some (xJ K n1 (va_cpy f g sp.toNatClampNeg dp.toNatClampNeg n.toNatClampNeg)))) kc ks) : J l K own cc nL ret Ts hh nm fr lo mc ms Qf pc (.int n :: .int dp :: .ref a1 :: .int sp :: .ref a0 :: rest) lv h kc ks := by
  have nn : ∀ z : Int32, ¬ z < 0 → z.toInt = (z.toNatClampNeg : Int) := by
    intro z hz
    have hz0 : (0 : Int) ≤ z.toInt := by
      have := Int32.not_lt.mp hz
      simpa using Int32.le_iff_toInt_le.mp this
    show z.toInt = ((z.toInt.toNat : Nat) : Int)
    omega
  intro p e s m args below meth c ok H locs ls hR hS hl T hT X
  have hts := ok.2.2.2.2.1
  have hK := ok.2.2.2.2.2.2.2.2.2.1.1
  have hc1 : H[a1]? = some (vp_cell (K.2.1 1) (n1, .inr (.inl g))) := by
    rcases hR.1 a1 _ ha1 with q | ⟨q1, q2, -⟩
    · exact q.2
    · omega
  obtain ⟨scr, hc0, hs2, hs3, k0, hk0, cm0, hkk0, hsz, hrd⟩ : ∃ scr : Cell, H[a0]? = some scr ∧ (∀ k, scr.vm ≠ .statics k) ∧ scr.vm ≠ .unknown ∧ ∃ k0, s.vm.classes[scr.cls]? = some k0 ∧ ∃ cm0, k0.kind = .array cm0 .long ∧ n0 ≤ scr.slots.size ∧ ∀ j : Nat, j < n0 → scr.slots[j]? = some (.long (f j)) := by
    rcases hR.1 a0 _ ha0 with q | ⟨q1, q2, f9, q3⟩
    · obtain ⟨-, k0, hk0, cm0, hkk0⟩ := (hK.2 1 _ rfl).1 n0 (fun j => .long (f j))
      exact ⟨_, q.2, (fun _ h => by cases h), (fun h => by cases h), k0, hk0, cm0, hkk0, (by show n0 ≤ (arrV _ _ _).slots.size; rw [arrV_size]; exact Nat.le_refl _), (fun j hj => by show (arrV _ _ _).slots[_]? = _; rw [arrV_read _ _ hj])⟩
    · obtain ⟨cell, e1, ⟨e2, k0, hk0, cm0, hkk0⟩, e3, e4, e5, e6, e7⟩ := ok.2.2.2.2.2.2.2.2.2.1.2.2.2.2.2.2.2.2.2.2.2.2.1
      have hz : n0 = 0 := by
        have := Sum.inl.inj q3
        exact (Prod.mk.inj (Prod.mk.inj this).2).1
      subst hz
      subst q1
      exact ⟨cell, by rw [hR.2.2 _ q2]; exact e1, e2, e3, k0, hk0, cm0, hkk0, Nat.zero_le _, fun j hj => absurd hj (Nat.not_lt_zero j)⟩
  obtain ⟨-, k1, hk1, cm1, hkk1⟩ := (hK.2 1 _ rfl).1 n1 (fun j => .long (g j))
  obtain ⟨vm', X', step⟩ := X.arraycopy ok.1 ok.2.2.2.1 (hts _ g1) (hts _ g2) (hts _ g3) (hts _ g4) (src := a0) (dst := a1) (cs := scr) (cd := vp_cell (K.2.1 1) (n1, .inr (.inl g))) (srcPos := sp) (destPos := dp) (n := n) (by rw [hT]; exact hc0) (by rw [hT]; exact hc1)
    hs2 (fun _ h => by cases h) hs3 (fun h => by cases h) hk0 hk1 hkk0 hkk1 rfl h1 h2 h3
    (by rw [nn sp h1, nn n h3]; omega)
    (by rw [nn dp h2, nn n h3]; show ¬ _ > ((arrV (K.2.1 1) n1 (fun j => .long (g j))).slots.size : Int); rw [arrV_size]; omega)
    (fun vm₁ _ i hi => by
      have e : scr.slots.getD (sp.toNatClampNeg + i) .null = .long (f (sp.toNatClampNeg + i)) := by
        rw [Array.getD_eq_getD_getElem?, hrd _ (by omega)]
        rfl
      refine ⟨?_, ?_⟩
      · rw [e]
        rfl
      · rw [e]
        exact trivial)
    (g := F0 m pc ls (.int n :: .int dp :: .ref a1 :: .int sp :: .ref a0 :: rest)) rfl (by rw [ok.2.2.1]; exact hl.1) (rest := rest) rfl (by rw [ok.2.1]; exact hd) hf (by show 2 * 0 + _ + _ ≤ lo; omega)
  have e1 : copied scr (vp_cell (K.2.1 1) (n1, .inr (.inl g))) sp dp n = vp_cell (K.2.1 1) (n1, .inr (.inl (va_cpy f g sp.toNatClampNeg dp.toNatClampNeg n.toNatClampNeg))) := va_copiedX (fun z => .long z) scr (K.2.1 1) f g hrd h4
  rw [e1] at X' step
  have hlt : a1 < H.size := (Array.getElem?_eq_some_iff.mp hc1).1
  have hheap : ((T.setVm vm').setCell a1 (vp_cell (K.2.1 1) (n1, .inr (.inl (va_cpy f g sp.toNatClampNeg dp.toNatClampNeg n.toNatClampNeg))))).heap = H.setIfInBounds a1 (vp_cell (K.2.1 1) (n1, .inr (.inl (va_cpy f g sp.toNatClampNeg dp.toNatClampNeg n.toNatClampNeg)))) := by rw [← hT]; rfl
  have oq : ∀ q : Nat, q ≠ a1 → (H.setIfInBounds a1 (vp_cell (K.2.1 1) (n1, .inr (.inl (va_cpy f g sp.toNatClampNeg dp.toNatClampNeg n.toNatClampNeg)))))[q]? = H[q]? := fun q hq => by simp [Array.getElem?_setIfInBounds, Ne.symm hq]
  obtain ⟨t, b1, b2⟩ := kk p e s m args below meth c ok _ _ ls (hR.upd hb (by simp) oq (show (H.setIfInBounds a1 _)[a1]? = some _ by simp [Array.getElem?_setIfInBounds, hlt])) ⟨by simp; exact hS.1, fun q g1 g2 => by
      rw [oq q (fun e => g2 (by rw [e]; exact hb))]
      exact hS.2.1 q g1 g2, fun q hq => by
      rcases List.mem_append.mp hq with h | h
      · exact hS.2.2 q h
      · obtain ⟨z, -, hz⟩ := List.mem_map.mp h
        rw [← hz]
        exact hb⟩ hl _ hheap X'
  exact ⟨t, step t b1, b2⟩
set_option maxHeartbeats 4000000 in
/-- clone of a row of Entries -/
theorem J_clone {idx a n : Nat} {f : Nat → Option Nat} {ad : String} (hd : decode cc pc = .ok (.invokevirtual idx, 3)) (had : ad = "[LKeyStates$Entry;") (g1 : Cond.methodLink own idx ⟨ad, "clone", "()Ljava/lang/Object;"⟩ ∈ Ts) (g2 : Cond.sameMethod ad "java/lang/Object" "clone" "()Ljava/lang/Object;" ∈ Ts) (g3 : Cond.native ⟨"java/lang/Object", "clone", "()Ljava/lang/Object;"⟩ ∈ Ts) (g4 : Cond.instanceMethod ⟨"java/lang/Object", "clone", "()Ljava/lang/Object;"⟩ ∈ Ts)
    (g5 : Cond.selects ad ⟨ad, "clone", "()Ljava/lang/Object;"⟩ ⟨"java/lang/Object", "clone", "()Ljava/lang/Object;"⟩ ∈ Ts) (ha : h a = some (xQ K 3 n f)) (hf : 1 ≤ fr) (ho : (rest.map fun v => v.category).sum + 14 ≤ lo) (h1 : kc + 1 ≤ mc) (h2 : ks + n ≤ ms)
    (kk : ∀ q, h q = none → kB K ≤ q → J l K own cc nL ret Ts hh nm fr lo mc ms Qf (pc + 3) (.ref q :: rest) lv (va_up h q (some (xQ K 3 n f))) (kc + 1) (ks + n)) : J l K own cc nL ret Ts hh nm fr lo mc ms Qf pc (.ref a :: rest) lv h kc ks := by
  intro p e s m args below meth c ok H locs ls hR hS hl T hT X
  have hts := ok.2.2.2.2.1
  have hKU := ok.2.2.2.2.2.2.2.2.2.1
  have hK := hKU.1
  obtain ⟨hb, hat⟩ := hR.at ha xQ_ne
  obtain ⟨kA2, comp2, w1, w2, w3, w4⟩ := (hK.2 3 _ rfl).2
  have hnm : s.vm.findClass ad = some (K.2.1 3) := by
    have e9 : "[" ++ (FieldType.object RX0).toString = ad := by rw [had]; decide +kernel
    rw [← e9]; exact w4
  have hcl : va_Nw (.castable ad "java/lang/Cloneable") s := by rw [had]; exact hKU.2.2.2.2.2.2.1 _ List.mem_cons_self
  obtain ⟨c0, t0', f1, f2, f3⟩ := Cond.castable_spec (va_Nw.use (A := args) rfl hcl)
  cases hnm.symm.trans f1
  have hcellT : T.heap[a]? = some (vp_cell (K.2.1 3) (n, .inr (.inr (.inr (.inr f))))) := by rw [hT]; exact hat
  obtain ⟨-, kA, hkA, comp, hkind⟩ := State.isArrayOf_alike X.warmed.alike ((hK.2 3 _ rfl).1 0 (fun _ => .null))
  obtain ⟨-, kS, hkS, compS, hkindS⟩ := (hK.2 3 _ rfl).1 0 (fun _ => .null)
  have hsz : (vp_cell (K.2.1 3) (n, .inr (.inr (.inr (.inr f))))).slots.size = n := arrV_size _ _ _
  have hfit : ∀ (i : Nat) (v : Value), (vp_cell (K.2.1 3) (n, .inr (.inr (.inr (.inr f))))).slots[i]? = some v → fits (.object RX0) v = true := va_fit (fun i _ => by cases f i <;> rfl)
  obtain ⟨vm', X', st⟩ := X.cloneArray ok.1 ok.2.2.2.1 (hts _ g1) (hts _ g2) (hts _ g3) (hts _ g4) (hts _ g5) (a := a) (cell := vp_cell (K.2.1 3) (n, .inr (.inr (.inr (.inr f))))) hcellT (fun k h => by cases h) (fun h => by cases h) hnm f2 f3
    (fun i v hv => by
      have hk' : T.vm.classes[K.2.1 3]? = some kA := hkA
      have hfi := hfit i v hv
      show State.fitsSlot _ (K.2.1 3) _ _ _ = true
      simpa [State.fitsSlot, State.slotType?, hk', hkind] using hfi)
    (g := F0 m pc ls (.ref a :: rest)) rfl (by rw [ok.2.2.1]; exact hl.1) rfl (by rw [ok.2.1]; exact hd) hf (by show 2 * 0 + _ + 14 ≤ lo; omega) h1 (by rw [hsz]; exact h2) (hloader := Vm.clonesLoader_of_array hkS hkindS)
  have hcellE : ({ cls := (vp_cell (K.2.1 3) (n, .inr (.inr (.inr (.inr f))))).cls, slots := (vp_cell (K.2.1 3) (n, .inr (.inr (.inr (.inr f))))).slots } : Cell) = vp_cell (K.2.1 3) (n, .inr (.inr (.inr (.inr f)))) := rfl
  rw [hcellE, hsz] at X'
  generalize hH1 : H.push (vp_cell (K.2.1 3) (n, .inr (.inr (.inr (.inr f))))) = H1
  have z1 : H1.size = H.size + 1 := by rw [← hH1, Array.size_push]
  have e1 : H1[H.size]? = some (vp_cell (K.2.1 3) (n, .inr (.inr (.inr (.inr f))))) := by rw [← hH1, Array.getElem?_push_size]
  have o1 : ∀ q : Nat, q < H.size → H1[q]? = H[q]? := fun q hq => by rw [← hH1, Array.getElem?_push, if_neg (Nat.ne_of_lt hq)]
  obtain ⟨t, b1, b2⟩ := kk H.size hR.fresh hR.2.1 p e s m args below meth c ok H1 _ ls (hR.push z1 o1 e1) (hS.new z1 o1) hl ((T.setVm vm').pushCell (vp_cell (K.2.1 3) (n, .inr (.inr (.inr (.inr f)))))) (by rw [← hH1, ← hT]; rfl) X'
  refine ⟨t, st t ?_, b2⟩
  rw [hcellE, hT]
  exact b1
theorem J_castA {idx a n : Nat} {f : Nat → Option Nat} {ad : String} (hd : decode cc pc = .ok (.checkcast idx, 3)) (had : ad = "[LKeyStates$Entry;") (hlk : Cond.classLink own idx ad ∈ Ts) (ha : h a = some (xQ K 3 n f)) (kk : J l K own cc nL ret Ts hh nm fr lo mc ms Qf (pc + 3) (.ref a :: rest) lv h kc ks) : J l K own cc nL ret Ts hh nm fr lo mc ms Qf pc (.ref a :: rest) lv h kc ks := by
  intro p e s m args below meth c ok H locs ls hR hS hl
  obtain ⟨kA2, comp2, w1, w2, w3, w4⟩ := (ok.2.2.2.2.2.2.2.2.2.1.1.2 3 _ rfl).2
  have hnm : s.vm.findClass ad = some (K.2.1 3) := by
    have e9 : "[" ++ (FieldType.object RX0).toString = ad := by rw [had]; decide +kernel
    rw [← e9]; exact w4
  exact va_castA ok.1 ok.2.1 ok.2.2.2.1 (ok.2.2.2.2.1 _ hlk) (hR.one ha xQ_ne) 0 rfl hnm hd (kk p e s m args below meth c ok H locs ls hR hS hl)
set_option maxHeartbeats 4000000 in
/-- clone of a row of longs that is none of the start's -/
theorem J_cloneJ {idx a n : Nat} {f : Nat → Int64} {ad : String} (hd : decode cc pc = .ok (.invokevirtual idx, 3)) (had : ad = "[J") (g1 : Cond.methodLink own idx ⟨ad, "clone", "()Ljava/lang/Object;"⟩ ∈ Ts) (g2 : Cond.sameMethod ad "java/lang/Object" "clone" "()Ljava/lang/Object;" ∈ Ts) (g3 : Cond.native ⟨"java/lang/Object", "clone", "()Ljava/lang/Object;"⟩ ∈ Ts) (g4 : Cond.instanceMethod ⟨"java/lang/Object", "clone", "()Ljava/lang/Object;"⟩ ∈ Ts)
    (g5 : Cond.selects ad ⟨ad, "clone", "()Ljava/lang/Object;"⟩ ⟨"java/lang/Object", "clone", "()Ljava/lang/Object;"⟩ ∈ Ts) (ha : h a = some (xJ K n f)) (hn0 : 0 < n) (hf : 1 ≤ fr) (ho : (rest.map fun v => v.category).sum + 14 ≤ lo) (h1 : kc + 1 ≤ mc) (h2 : ks + n ≤ ms)
    (kk : ∀ q, h q = none → kB K ≤ q → J l K own cc nL ret Ts hh nm fr lo mc ms Qf (pc + 3) (.ref q :: rest) lv (va_up h q (some (xJ K n f))) (kc + 1) (ks + n)) : J l K own cc nL ret Ts hh nm fr lo mc ms Qf pc (.ref a :: rest) lv h kc ks := by
  intro p e s m args below meth c ok H locs ls hR hS hl T hT X
  have hts := ok.2.2.2.2.1
  have hKU := ok.2.2.2.2.2.2.2.2.2.1
  have hK := hKU.1
  obtain ⟨hb, hat⟩ := hR.at ha (fun g e => by have h2 := (Prod.mk.inj (Prod.mk.inj (Sum.inl.inj e)).2).1; omega)
  have hnm : s.vm.findClass ad = some (K.2.1 1) := by
    have e9 : "[" ++ FieldType.long.toString = ad := by rw [had]; decide +kernel
    rw [← e9]; exact (hK.2 1 _ rfl).2
  have hcl : va_Nw (.castable ad "java/lang/Cloneable") s := by rw [had]; exact hKU.2.2.2.2.2.2.1 _ (List.mem_cons_of_mem _ List.mem_cons_self)
  obtain ⟨c0, t0', f1, f2, f3⟩ := Cond.castable_spec (va_Nw.use (A := args) rfl hcl)
  cases hnm.symm.trans f1
  have hcellT : T.heap[a]? = some (vp_cell (K.2.1 1) (n, .inr (.inl f))) := by rw [hT]; exact hat
  obtain ⟨-, kA, hkA, comp, hkind⟩ := State.isArrayOf_alike X.warmed.alike ((hK.2 1 _ rfl).1 0 (fun _ => .null))
  obtain ⟨-, kS, hkS, compS, hkindS⟩ := (hK.2 1 _ rfl).1 0 (fun _ => .null)
  have hsz : (vp_cell (K.2.1 1) (n, .inr (.inl f))).slots.size = n := arrV_size _ _ _
  have hfit : ∀ (i : Nat) (v : Value), (vp_cell (K.2.1 1) (n, .inr (.inl f))).slots[i]? = some v → fits .long v = true := va_fit (fun i _ => rfl)
  obtain ⟨vm', X', st⟩ := X.cloneArray ok.1 ok.2.2.2.1 (hts _ g1) (hts _ g2) (hts _ g3) (hts _ g4) (hts _ g5) (a := a) (cell := vp_cell (K.2.1 1) (n, .inr (.inl f))) hcellT (fun k h => by cases h) (fun h => by cases h) hnm f2 f3
    (fun i v hv => by
      have hk' : T.vm.classes[K.2.1 1]? = some kA := hkA
      have hfi := hfit i v hv
      show State.fitsSlot _ (K.2.1 1) _ _ _ = true
      simpa [State.fitsSlot, State.slotType?, hk', hkind] using hfi)
    (g := F0 m pc ls (.ref a :: rest)) rfl (by rw [ok.2.2.1]; exact hl.1) rfl (by rw [ok.2.1]; exact hd) hf (by show 2 * 0 + _ + 14 ≤ lo; omega) h1 (by rw [hsz]; exact h2) (hloader := Vm.clonesLoader_of_array hkS hkindS)
  have hcellE : ({ cls := (vp_cell (K.2.1 1) (n, .inr (.inl f))).cls, slots := (vp_cell (K.2.1 1) (n, .inr (.inl f))).slots } : Cell) = vp_cell (K.2.1 1) (n, .inr (.inl f)) := rfl
  rw [hcellE, hsz] at X'
  generalize hH1 : H.push (vp_cell (K.2.1 1) (n, .inr (.inl f))) = H1
  have z1 : H1.size = H.size + 1 := by rw [← hH1, Array.size_push]
  have e1 : H1[H.size]? = some (vp_cell (K.2.1 1) (n, .inr (.inl f))) := by rw [← hH1, Array.getElem?_push_size]
  have o1 : ∀ q : Nat, q < H.size → H1[q]? = H[q]? := fun q hq => by rw [← hH1, Array.getElem?_push, if_neg (Nat.ne_of_lt hq)]
  obtain ⟨t, b1, b2⟩ := kk H.size hR.fresh hR.2.1 p e s m args below meth c ok H1 _ ls (hR.push z1 o1 e1) (hS.new z1 o1) hl ((T.setVm vm').pushCell (vp_cell (K.2.1 1) (n, .inr (.inl f)))) (by rw [← hH1, ← hT]; rfl) X'
  refine ⟨t, st t ?_, b2⟩
  rw [hcellE, hT]
  exact b1
theorem J_castJ {idx a n : Nat} {f : Nat → Int64} {ad : String} (hd : decode cc pc = .ok (.checkcast idx, 3)) (had : ad = "[J") (hlk : Cond.classLink own idx ad ∈ Ts) (ha : h a = some (xJ K n f)) (hn0 : 0 < n) (kk : J l K own cc nL ret Ts hh nm fr lo mc ms Qf (pc + 3) (.ref a :: rest) lv h kc ks) : J l K own cc nL ret Ts hh nm fr lo mc ms Qf pc (.ref a :: rest) lv h kc ks := by
  intro p e s m args below meth c ok H locs ls hR hS hl
  have hnm : s.vm.findClass ad = some (K.2.1 1) := by
    have e9 : "[" ++ FieldType.long.toString = ad := by rw [had]; decide +kernel
    rw [← e9]; exact (ok.2.2.2.2.2.2.2.2.2.1.1.2 1 _ rfl).2
  exact va_castA ok.1 ok.2.1 ok.2.2.2.1 (ok.2.2.2.2.1 _ hlk) (hR.one ha (fun g e => by have h2 := (Prod.mk.inj (Prod.mk.inj (Sum.inl.inj e)).2).1; omega)) 0 rfl hnm hd (kk p e s m args below meth c ok H locs ls hR hS hl)
set_option maxHeartbeats 4000000 in
/-- throw new E("..") -/
theorem J_throw {cls text : String} {names : List String} {ik is ic : Nat} {Post : Rs → Hp → Prop} (d0 : decode cc pc = .ok (.new ik, 3)) (d3 : decode cc (pc + 3) = .ok (.dup, 1)) (d4 : decode cc (pc + 4) = .ok (.ldc is, 2)) (d6 : decode cc (pc + 6) = .ok (.invokespecial ic, 3)) (d9 : decode cc (pc + 9) = .ok (.athrow, 1))
    (hcls : Bundle.fit cls = true) (hnames : ∀ n ∈ names, Bundle.fit n = true) (hk : Cond.classLink own ik cls ∈ Ts) (hini : Cond.initialized cls ∈ Ts) (hstr : (own, is, text) ∈ strW) (hat : ∀ w ∈ (vx_atS own ic cls names).filter goodWord, w ∈ Ts)
    (hat2 : ∀ w ∈ (vx_atS own ic cls names).filter (fun w => !goodWord w), w ∈ [Cond.castable cls cls, Cond.declares ⟨"java/lang/RuntimeException", "<init>", "(Ljava/lang/String;)V"⟩, Cond.declares ⟨"java/lang/Exception", "<init>", "(Ljava/lang/String;)V"⟩, Cond.declares ⟨"java/lang/Throwable", "<init>", "(Ljava/lang/String;)V"⟩]) (hcw : (cls, cls) ∈ castW)
    (hgood : ∀ w ∈ Cond.classLink own ik cls :: Cond.initialized cls :: vx_atS own ic cls names, vx_ot w = true) (hf : names.length + 3 < fr) (ho : (rest.map fun v => v.category).sum + (13 * (names.length + 1) + 43) ≤ lo) (h1 : kc + 1 ≤ mc) (h2 : ks + 6 ≤ ms) (hp : Post (.inr cls) h) :
    J l K own cc nL ret Ts [] nm fr lo mc ms (QM K mc ms Post) pc rest lv h kc ks := by
  intro p e s m args below meth c ok H locs ls hR hS hl
  have hts := ok.2.2.2.2.1
  have hKU := ok.2.2.2.2.2.2.2.2.2.1
  obtain ⟨sa, hsa⟩ := hKU.2.2.2.2.2.2.2.1 _ hstr
  refine vx_throwS ok.1 ok.2.1 ok.2.2.2.2.2.2.2.2.2.2.1 ok.2.2.2.1 hcls hnames (hts _ hk) (hts _ hini) hsa (vx_hat (B := [Cond.castable cls cls, Cond.declares ⟨"java/lang/RuntimeException", "<init>", "(Ljava/lang/String;)V"⟩, Cond.declares ⟨"java/lang/Exception", "<init>", "(Ljava/lang/String;)V"⟩, Cond.declares ⟨"java/lang/Throwable", "<init>", "(Ljava/lang/String;)V"⟩]) (fun w h => hts w (hat w h)) hat2 (vx_c (va_Nw.use rfl (hKU.2.2.2.2.2.2.1 _ hcw)) (vx_c (va_Nw.use rfl (hKU.2.2.2.2.2.2.2.2.2.2.2.2.2 _ List.mem_cons_self)) (vx_c (va_Nw.use rfl (hKU.2.2.2.2.2.2.2.2.2.2.2.2.2 _ (List.mem_cons_of_mem _ List.mem_cons_self))) (vx_c (va_Nw.use rfl (hKU.2.2.2.2.2.2.2.2.2.2.2.2.2 _ (List.mem_cons_of_mem _ (List.mem_cons_of_mem _ List.mem_cons_self)))) vx_n))))) hgood (KU.zq ok.2.2.2.2.2.2.2.2.2.2.2.1 ok.2.2.2.2.2.2.2.2.2.2.2.2 hKU.2.1) (KU.zq ok.2.2.2.2.2.2.2.2.2.2.2.1 ok.2.2.2.2.2.2.2.2.2.2.2.2 hKU.2.2.1) hS (by rw [ok.2.2.1]; exact hl.1) d0 d3 d4 d6 d9 (fun x hx => ?_) hf ho h1 h2 ok.2.2.2.2.2.1 (fun t hA hz hk2 => ?_) hS.2.2 h1 h2
  · rw [ok.2.2.2.2.2.2.2.2.1] at hx
    cases hx
  · refine ⟨⟨h, hp, hR.kept hz hk2⟩, ?_⟩
    refine ⟨Nat.le_trans hS.1 hz, fun q h1 h2 => ?_⟩
    rw [hk2 q (Nat.lt_of_lt_of_le h1 hS.1)]
    exact hS.2.1 q h1 h2
set_option maxHeartbeats 4000000 in
/-- the same, with a wide index -/
theorem J_throwW {cls text : String} {names : List String} {ik is ic : Nat} {Post : Rs → Hp → Prop} (d0 : decode cc pc = .ok (.new ik, 3)) (d3 : decode cc (pc + 3) = .ok (.dup, 1)) (d4 : decode cc (pc + 4) = .ok (.ldc_w is, 3)) (d7 : decode cc (pc + 7) = .ok (.invokespecial ic, 3)) (d10 : decode cc (pc + 10) = .ok (.athrow, 1))
    (hcls : Bundle.fit cls = true) (hnames : ∀ n ∈ names, Bundle.fit n = true) (hk : Cond.classLink own ik cls ∈ Ts) (hini : Cond.initialized cls ∈ Ts) (hstr : (own, is, text) ∈ strW) (hat : ∀ w ∈ (vx_atS own ic cls names).filter goodWord, w ∈ Ts)
    (hat2 : ∀ w ∈ (vx_atS own ic cls names).filter (fun w => !goodWord w), w ∈ [Cond.castable cls cls, Cond.declares ⟨"java/lang/RuntimeException", "<init>", "(Ljava/lang/String;)V"⟩, Cond.declares ⟨"java/lang/Exception", "<init>", "(Ljava/lang/String;)V"⟩, Cond.declares ⟨"java/lang/Throwable", "<init>", "(Ljava/lang/String;)V"⟩]) (hcw : (cls, cls) ∈ castW)
    (hgood : ∀ w ∈ Cond.classLink own ik cls :: Cond.initialized cls :: vx_atS own ic cls names, vx_ot w = true) (hf : names.length + 3 < fr) (ho : (rest.map fun v => v.category).sum + (13 * (names.length + 1) + 43) ≤ lo) (h1 : kc + 1 ≤ mc) (h2 : ks + 6 ≤ ms) (hp : Post (.inr cls) h) :
    J l K own cc nL ret Ts [] nm fr lo mc ms (QM K mc ms Post) pc rest lv h kc ks := by
  intro p e s m args below meth c ok H locs ls hR hS hl
  have hts := ok.2.2.2.2.1
  have hKU := ok.2.2.2.2.2.2.2.2.2.1
  obtain ⟨sa, hsa⟩ := hKU.2.2.2.2.2.2.2.1 _ hstr
  refine vx_throwSW ok.1 ok.2.1 ok.2.2.2.2.2.2.2.2.2.2.1 ok.2.2.2.1 hcls hnames (hts _ hk) (hts _ hini) hsa (vx_hat (B := [Cond.castable cls cls, Cond.declares ⟨"java/lang/RuntimeException", "<init>", "(Ljava/lang/String;)V"⟩, Cond.declares ⟨"java/lang/Exception", "<init>", "(Ljava/lang/String;)V"⟩, Cond.declares ⟨"java/lang/Throwable", "<init>", "(Ljava/lang/String;)V"⟩]) (fun w h => hts w (hat w h)) hat2 (vx_c (va_Nw.use rfl (hKU.2.2.2.2.2.2.1 _ hcw)) (vx_c (va_Nw.use rfl (hKU.2.2.2.2.2.2.2.2.2.2.2.2.2 _ List.mem_cons_self)) (vx_c (va_Nw.use rfl (hKU.2.2.2.2.2.2.2.2.2.2.2.2.2 _ (List.mem_cons_of_mem _ List.mem_cons_self))) (vx_c (va_Nw.use rfl (hKU.2.2.2.2.2.2.2.2.2.2.2.2.2 _ (List.mem_cons_of_mem _ (List.mem_cons_of_mem _ List.mem_cons_self)))) vx_n))))) hgood (KU.zq ok.2.2.2.2.2.2.2.2.2.2.2.1 ok.2.2.2.2.2.2.2.2.2.2.2.2 hKU.2.1) (KU.zq ok.2.2.2.2.2.2.2.2.2.2.2.1 ok.2.2.2.2.2.2.2.2.2.2.2.2 hKU.2.2.1) hS (by rw [ok.2.2.1]; exact hl.1) d0 d3 d4 d7 d10 (fun x hx => ?_) hf ho h1 h2 ok.2.2.2.2.2.1 (fun t hA hz hk2 => ?_) hS.2.2 h1 h2
  · rw [ok.2.2.2.2.2.2.2.2.1] at hx
    cases hx
  · refine ⟨⟨h, hp, hR.kept hz hk2⟩, ?_⟩
    refine ⟨Nat.le_trans hS.1 hz, fun q h1 h2 => ?_⟩
    rw [hk2 q (Nat.lt_of_lt_of_le h1 hS.1)]
    exact hS.2.1 q h1 h2
set_option maxHeartbeats 4000000 in
/-- invokevirtual of a method that doesn't throw -/
theorem J_callV0 {idx ci b frc loc nLc mc' ms' n : Nat} {y : MethodName} {bytes : ByteArray} {retc : Option FieldType} {wsy wsy' : List Cond} {As : List Value} {P : Rs → Hp → Prop} {r : vw_C} (hd : decode cc pc = .ok (.invokevirtual idx, 3)) (hc : vwCl[ci]? = some r) (hG : GoodIn Ts (wsV own idx r.1 y wsy)) (hw : wsy = Cond.code y bytes nLc retc :: wsy')
    (hdd : y.cls = r.1 ∧ y.cls ≠ "java/lang/invoke/MethodHandle" ∧ y.cls ≠ "java/lang/invoke/VarHandle" ∧ (parseMethodDescriptor y.desc).map (fun d => d.parameters.length) = some n) (hn : As.length = n) (hfit : fitR fr lo frc loc nLc) (hb : ∃ fs, h b = some (xO ci fs)) (hrest : (rest.map fun v => v.category).sum ≤ 8)
    (h1 : kc + mc' ≤ mc) (h2 : ks + ms' ≤ ms) (hM : MX l K y wsy frc loc mc' ms' (.ref b :: As) h P) (hx : ∀ E h', ¬ P (.inr E) h')
    (kk : ∀ (v : Option Value) (h' : Hp), P (.inl v) h' → J l K own cc nL ret Ts hh nm fr lo mc ms Qf (pc + 3) (v.toList ++ rest) lv h' (kc + mc') (ks + ms')) : J l K own cc nL ret Ts hh nm fr lo mc ms Qf pc (As.reverse ++ .ref b :: rest) lv h kc ks := by
  intro p e s m args below meth c ok H locs ls hR hS hl
  obtain ⟨fs, hb⟩ := hb
  exact J_run0 ok hS hl (va_runV (As := As) (rest := rest) (Ts := Ts) (own := own) ⟨ok.1, ok.2.1, ok.2.2.1, ok.2.2.2.1, ok.2.2.2.2.1⟩ (hM.met hx) (cwV n ok.2.2.2.2.1 hG hw rfl rfl hdd hfit) (preV_of ok.2.2.2.2.2.2.2.2.2.1 hR hc hb) rfl hn hl.1 rfl (lv_room hrest) hd ⟨h1, h2⟩) kk
set_option maxHeartbeats 4000000 in
/-- invokestatic of a method that doesn't throw -/
theorem J_callS0 {idx frc loc nLc mc' ms' n : Nat} {y : MethodName} {bytes : ByteArray} {retc : Option FieldType} {wsy wsy' : List Cond} {As : List Value} {P : Rs → Hp → Prop} (hd : decode cc pc = .ok (.invokestatic idx, 3)) (hG : GoodIn Ts (va_wsS own idx y wsy)) (hw : wsy = Cond.code y bytes nLc retc :: wsy')
    (hdd : y.cls ≠ "java/lang/invoke/MethodHandle" ∧ y.cls ≠ "java/lang/invoke/VarHandle" ∧ (parseMethodDescriptor y.desc).map (fun d => d.parameters.length) = some n) (hn : As.length = n) (hfit : fitR fr lo frc loc nLc) (hrest : (rest.map fun v => v.category).sum ≤ 8)
    (h1 : kc + mc' ≤ mc) (h2 : ks + ms' ≤ ms) (hM : MX l K y wsy frc loc mc' ms' As h P) (hx : ∀ E h', ¬ P (.inr E) h')
    (kk : ∀ (v : Option Value) (h' : Hp), P (.inl v) h' → J l K own cc nL ret Ts hh nm fr lo mc ms Qf (pc + 3) (v.toList ++ rest) lv h' (kc + mc') (ks + ms')) : J l K own cc nL ret Ts hh nm fr lo mc ms Qf pc (As.reverse ++ rest) lv h kc ks := by
  intro p e s m args below meth c ok H locs ls hR hS hl
  have hts := ok.2.2.2.2.1
  have okw : ∀ w ∈ va_wsS own idx y wsy, w.before args s = true := fun w h => hts w (hG w h).1
  have hG2 : GoodIn Ts wsy := fun w h => hG w (by unfold va_wsS; exact List.mem_append_right _ h)
  have hcm : Cond.code y bytes nLc retc ∈ wsy := by rw [hw]; exact List.mem_cons_self
  have cb : CallB (rmx fr lo mc ms) s args own idx y bytes nLc retc wsy (rmx frc loc mc' ms') mc' ms' n ∧ (Cond.static y).before args s = true := by
    refine ⟨⟨rfl, rfl, hfit.1, hfit.2, pay_in hts hG2, hcm, hts _ (hG2 _ hcm).1, okw _ (by simp [va_wsS]), ⟨hdd.1, hdd.2.1⟩, fun sig h => ?_, okw _ (by simp [va_wsS])⟩, okw _ (by simp [va_wsS])⟩
    have h2 := hdd.2.2
    rw [h] at h2
    exact (Option.some.inj h2).symm
  exact J_run0 ok hS hl (va_runS (As := As) (rest := rest) (Ts := Ts) (own := own) ⟨ok.1, ok.2.1, ok.2.2.1, ok.2.2.2.1, ok.2.2.2.2.1⟩ (hM.met hx) cb ⟨Pcx.blind, fun U hU hW => ⟨rfl, ok.2.2.2.2.2.2.2.2.2.1.warm hW, by rw [hU]; exact hR⟩⟩ rfl hn hl.1 rfl (lv_room hrest) hd ⟨h1, h2⟩) kk
end Mem2
