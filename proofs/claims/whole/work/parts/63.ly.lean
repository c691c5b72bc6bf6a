/-! ===== the law: its numbers (of the skeleton), its own rules ===== -/
def R_law : String := "KeyStatesLaw"
def lw_P (b : Addr) (xs : List Int32) (args : Array Value) (s : State) : Prop := args = #[.ref b] ∧ s.IntsAt b xs ∧ xs.length ≤ 3584 ∧ (Jvm.Cond.and given_1 narrow_1).before args s = true
def lw_Q (_ : Array Value) (s : State) (o : Outcome) (t : State) : Prop := o = .returned (some (.int 1)) ∧ Framed s o t [] 601024 7293034
def lw_Z (below : List Frame) (a : Array Value) (s : State) : State → Prop := fun t => ∃ o, t.status = .running ∧ Ended t below o ∧ lw_Q a s o t
/-- the law's own end, with 1 on the stack, nothing written that was there before, its room as the claim has it -/
theorem lw_ret {p : Program} {l : Launch} {e : Env} {s : State} {m : MethodId} {below : List Frame} {meth : Method} {c : Code} {b : Nat} (hx : p.tables.exec = Jvm.exec) (hb : c.code = code) (hr : meth.sig.returnType = ret) (hlocks : meth.locks = false) {pc : Nat} {H : Heap} {ls : Array Slot} (hdg : decode code pc = .ok (.ireturn, 1)) : W p l e room_1 s m #[Value.ref b] below meth c H [] 601024 7293034 (lw_Z below #[Value.ref b] s) (F0 m pc ls [.int 1]) := by
  intro T hT X
  obtain ⟨fs, hret, hrun, hended, hW, hframe⟩ := X.leave (v := some (.int 1)) (hlocks := hlocks) (fun h => by rw [hr] at h; cases h)
  have hmeth' : T.vm.method? m = some meth := X.method'
  refine ⟨T.setFrames fs, ?_, .returned (some (.int 1)), hrun, hended, rfl, ⟨_, rfl⟩, hW, hframe⟩
  jvm_step X.here [X.here.top, hx, hb, hdg, hmeth', hr, ret, narrow_b1]
  (try refine ⟨rfl, ?_⟩); (try refine ⟨rfl, ?_⟩)
  first | (intro acts; rw [hret _ acts rfl rfl rfl]) | rw [hret _ _ rfl rfl rfl]
  exact Steps.refl _
/-- what holds at the law's entry: the machine, the code, the tables' words (any of lw_tbl by 'hts w (by decide +kernel)'), the script of L ints xs at the cell b, what the Statement gives of the start (any of its parts by flat_of_before) -/
def lw_At (p : Program) (s : State) (m : MethodId) (meth : Method) (c : Code) (b L : Nat) (xs : Nat → Int32) : Prop :=
  p.tables.exec = Jvm.exec ∧ c.code = code ∧ meth.sig.returnType = ret ∧ c.maxLocals = 8 ∧ s.vm.findClass R_law = some m.cls ∧ (∀ w ∈ lw_tbl, w.before #[Value.ref b] s = true) ∧ va_X b L xs s s.heap ∧ b < s.heap.size ∧ meth.locks = false ∧ (Jvm.Cond.and given_1 narrow_1).before #[Value.ref b] s = true
section Law
variable {b L : Nat} {xs : Nat → Int32} {l : Launch} {K : Kx} {hh : List (Nat × Nat × Nat × Nat)} {nm : String} {pc : Nat} {rest : List Value} {lv lv' : List (Nat × Value)} {h : Hp} {kc ks g : Nat}
abbrev JL (sc : Nat × Nat × (Nat → Int32)) (l : Launch) (K : Kx) (hh : List (Nat × Nat × Nat × Nat)) (nm : String) (pc : Nat) (st : List Value) (lv : List (Nat × Value)) (h : Hp) (kc ks : Nat) : Prop :=
  JX sc l K RL cL_law 8 Jvm.Pilot.CKeyStatesLaw_law_r3436_8db2b2.ret wsL_law9 hh nm 12 454 601024 7293034 (fun s args below => lw_Z below args s) pc st lv h kc ks
/-- the law's own end -/
theorem JL_end (hd : decode cL_law pc = .ok (.ireturn, 1)) (h1 : kc ≤ 601024) (h2 : ks ≤ 7293034) : JL (b, L, xs) l K hh nm pc [.int (nI 1)] lv h kc ks := by
  intro p e s m args below meth c ok H locs ls hR hS hl
  obtain rfl : args = #[Value.ref b] := ok.2.2.2.2.2.2.2.2.2.2.2.2.2.2
  refine va_forget (fun q hq => ?_) (W.widen h1 h2 (lw_ret ok.1 ok.2.1 ok.2.2.2.2.2.2.1 ok.2.2.2.2.2.1 hd))
  have := hS.2.2 q hq
  have h3 := ok.2.2.2.2.2.2.2.2.2.2.2.1
  unfold Ax at this
  omega
theorem JL_rd {j q0 q4 : Nat} {z : Int} (d0 : decode cL_law pc = .ok (.aload_n 0, 1)) (d1 : decode cL_law (pc + 1) = .ok (.iload 4, 2)) (d3 : decode cL_law (pc + 1 + 2) = .ok (.iconst z, 1)) (hz : Int32.ofInt z = nI j) (d4 : decode cL_law (pc + 1 + 2 + 1) = .ok (.iadd, 1)) (d5 : decode cL_law (pc + 1 + 2 + 1 + 1) = .ok (.iaload, 1))
    (hq0 : lv[q0]? = some (0, .ref b)) (hq4 : lv[q4]? = some (4, .int (nI (7 * g)))) (hj : 7 * g + j < L) (hL : L < 2 ^ 31) (k : JL (b, L, xs) l K hh nm (pc + 6) (.int (xs (7 * g + j)) :: rest) lv h kc ks) : JL (b, L, xs) l K hh nm pc rest lv h kc ks :=
  JX_aload_n d0 q0 hq0 (JX_iload d1 q4 hq4 (JX_iconst d3 hz (JX_iadd d4 (JX_sld (sc := (b, L, xs)) d5 (nI_add _ _) hj hL k))))
theorem JL_rd6 {j q0 q4 : Nat} {z : Int} (d0 : decode cL_law pc = .ok (.aload_n 0, 1)) (d1 : decode cL_law (pc + 1) = .ok (.iload 4, 2)) (d3 : decode cL_law (pc + 1 + 2) = .ok (.bipush z, 2)) (hz : (Int8.ofInt z).toInt32 = nI j) (d4 : decode cL_law (pc + 1 + 2 + 2) = .ok (.iadd, 1)) (d5 : decode cL_law (pc + 1 + 2 + 2 + 1) = .ok (.iaload, 1))
    (hq0 : lv[q0]? = some (0, .ref b)) (hq4 : lv[q4]? = some (4, .int (nI (7 * g)))) (hj : 7 * g + j < L) (hL : L < 2 ^ 31) (k : JL (b, L, xs) l K hh nm (pc + 7) (.int (xs (7 * g + j)) :: rest) lv h kc ks) : JL (b, L, xs) l K hh nm pc rest lv h kc ks :=
  JX_aload_n d0 q0 hq0 (JX_iload d1 q4 hq4 (JX_bipush d3 hz (JX_iadd d4 (JX_sld (sc := (b, L, xs)) d5 (nI_add _ _) hj hL k))))
theorem kH_no {α : Type} {mk : α → Value} {F : α → Hp → Prop} (E : String) (h : Hp) : ¬ kH mk F (.inr E) h := fun ⟨_, e, _⟩ => by cases e
theorem kH_kx {α : Type} {mk : α → Value} {F : α → Hp → Prop} (kk : ∀ x h', F x h' → JL (b, L, xs) l K hh nm pc (mk x :: rest) lv h' kc ks) (v : Option Value) (h' : Hp) (q : kH mk F (.inl v) h') : JL (b, L, xs) l K hh nm pc (v.toList ++ rest) lv h' kc ks := by
  obtain ⟨x, e, q⟩ := q
  cases e
  exact kk x h' q
theorem WS.thr {F : List Nat} {x m out k : Nat} {am : Nat → Nat} (htr : l.stackTraces = false) (W : WS K F x m out am h g k) : mX4_thrown l K [.ref m] h (kI fun r h' => r = nI k ∧ h' = h) := by
  obtain ⟨ad, o, nm, th, nu, sc, kd, ty, pa, Lp, rw, I, L, N, C, r, e, i0, -⟩ := W
  have := sp_mThrown (l := l) (K := K) (m := m) (am := am) (I := I) (L := L) (h := h) htr
  rw [← e, i0] at this
  exact this
theorem cmp_self (x : Int64) : lg_cmp x x = 0 := by simp [lg_cmp]
end Law
