/-! ===== the law: what its start gives ===== -/
def tyf (i : Nat) : FieldType := match i with
  | 0 => .int
  | 1 => .long
  | 2 => .boolean
  | 3 => .object RX0
  | 4 => .object RX1
  | _ => .object RX2
def cf6 (c0 c1 c2 c3 c4 c5 : ClassId) (k : Nat) : ClassId := match k with
  | 0 => c0
  | 1 => c1
  | 2 => c2
  | 3 => c3
  | 4 => c4
  | _ => c5
theorem tyf_inj : ∀ i, i < 6 → ∀ j, j < 6 → tyf i = tyf j → i = j := by decide +kernel
theorem ks_n0 : Cond.instantiable RX0 6 ∈ lw_tbl := by decide +kernel
theorem ks_n1 : Cond.instantiable RX1 2 ∈ lw_tbl := by decide +kernel
theorem ks_n2 : Cond.instantiable RX2 5 ∈ lw_tbl := by decide +kernel
theorem ks_n3 : Cond.instantiable RX3 9 ∈ lw_tbl := by decide +kernel
theorem ks_n4 : Cond.instantiable RX4 23 ∈ lw_tbl := by decide +kernel
theorem ks_a0 : Cond.arrayClass .int ∈ lw_tbl := by decide +kernel
theorem ks_a1 : Cond.arrayClass .long ∈ lw_tbl := by decide +kernel
theorem ks_a2 : Cond.arrayClass .boolean ∈ lw_tbl := by decide +kernel
theorem ks_o0 : Cond.arrayOver (.object RX0) ∈ lw_tbl := by decide +kernel
theorem ks_o1 : Cond.arrayOver (.object RX1) ∈ lw_tbl := by decide +kernel
theorem ks_o2 : Cond.arrayOver (.object RX2) ∈ lw_tbl := by decide +kernel
theorem ks_lU : Cond.laysStatic Bundle.tN "UNASSIGNED_STACK" Bundle.steD ∈ lw_tbl := by decide +kernel
theorem ks_lS : Cond.laysStatic Bundle.tN "SUPPRESSED_SENTINEL" Bundle.listD ∈ lw_tbl := by decide +kernel
theorem ks_lE : Cond.laysStatic "KeyStates" "EMPTY" "[J" ∈ lw_tbl := by decide +kernel
theorem ks_iT : Cond.initialized Bundle.tN ∈ lw_tbl := by decide +kernel
theorem ks_iK : Cond.initialized "KeyStates" ∈ lw_tbl := by decide +kernel
theorem ks_f0 : Cond.fieldLinkNest "KeyStates$Entry" 22 "KeyStates" "EMPTY" "[J" "KeyStates" ∈ lw_tbl := by decide +kernel
theorem ks_m0 : Cond.methodLinkNest "KeyStates$Picture" 31 ⟨"KeyStates$Page", "<init>", "()V"⟩ "KeyStates" ∈ lw_tbl := by decide +kernel
theorem ks_m1 : Cond.methodLinkNest "KeyStates$Picture" 38 ⟨"KeyStates", "pageNumber", "(IJI)I"⟩ "KeyStates" ∈ lw_tbl := by decide +kernel
theorem ks_m2 : Cond.methodLinkNest "KeyStates$Entry" 35 ⟨"KeyStates", "countBelow", "([JIJ)I"⟩ "KeyStates" ∈ lw_tbl := by decide +kernel
theorem ks_m3 : Cond.methodLinkNest "KeyStates$Entry" 59 ⟨"KeyStates", "joined", "(IJJ)J"⟩ "KeyStates" ∈ lw_tbl := by decide +kernel
theorem ks_m4 : Cond.methodLinkNest "KeyStates$Page" 61 ⟨"KeyStates", "countBelow", "([JIJ)I"⟩ "KeyStates" ∈ lw_tbl := by decide +kernel
theorem ks_m5 : Cond.methodLinkNest "KeyStates$Entry" 63 ⟨"KeyStates", "fits", "(IIJ)Z"⟩ "KeyStates" ∈ lw_tbl := by decide +kernel
theorem ks_c0 : Cond.castable "[LKeyStates$Entry;" "java/lang/Cloneable" ∈ lw_tbl := by decide +kernel
theorem ks_c1 : Cond.castable "[J" "java/lang/Cloneable" ∈ lw_tbl := by decide +kernel
theorem ks_c2 : Cond.castable "java/lang/IndexOutOfBoundsException" "java/lang/IndexOutOfBoundsException" ∈ lw_tbl := by decide +kernel
theorem ks_c3 : Cond.castable "java/lang/IllegalArgumentException" "java/lang/IllegalArgumentException" ∈ lw_tbl := by decide +kernel
theorem ks_c4 : Cond.castable "java/lang/IllegalStateException" "java/lang/IllegalStateException" ∈ lw_tbl := by decide +kernel
theorem ks_c5 : Cond.castable "java/util/NoSuchElementException" "java/util/NoSuchElementException" ∈ lw_tbl := by decide +kernel
theorem ks_s0 : Cond.stringRef "KeyStates" 239 "no such state" ∈ lw_tbl := by decide +kernel
theorem ks_s1 : Cond.stringRef "KeyStates" 248 "the state has another kind" ∈ lw_tbl := by decide +kernel
theorem ks_s2 : Cond.stringRef "KeyStates" 255 "the number does not fit" ∈ lw_tbl := by decide +kernel
theorem ks_s3 : Cond.stringRef "KeyStates" 243 "no key is at hand" ∈ lw_tbl := by decide +kernel
theorem ks_s4 : Cond.stringRef "KeyStates" 95 "there is no entry" ∈ lw_tbl := by decide +kernel
theorem ks_s5 : Cond.stringRef "KeyStates" 290 "none such" ∈ lw_tbl := by decide +kernel
theorem ks_s6 : Cond.stringRef "KeyStates" 129 "the member is not there" ∈ lw_tbl := by decide +kernel
theorem ks_s7 : Cond.stringRef "KeyStates" 174 "no such key" ∈ lw_tbl := by decide +kernel
theorem ks_s8 : Cond.stringRef "KeyStates" 284 "no such snapshot" ∈ lw_tbl := by decide +kernel
theorem ks_s9 : Cond.stringRef "KeyStates" 204 "no such entry or number" ∈ lw_tbl := by decide +kernel
theorem ks_s10 : Cond.stringRef "KeyStates" 228 "no such thing of a state" ∈ lw_tbl := by decide +kernel
theorem ks_d0 : Cond.declares ⟨"java/lang/RuntimeException", "<init>", "(Ljava/lang/String;)V"⟩ ∈ lw_tbl := by decide +kernel
theorem ks_d1 : Cond.declares ⟨"java/lang/Exception", "<init>", "(Ljava/lang/String;)V"⟩ ∈ lw_tbl := by decide +kernel
theorem ks_d2 : Cond.declares ⟨"java/lang/Throwable", "<init>", "(Ljava/lang/String;)V"⟩ ∈ lw_tbl := by decide +kernel
theorem ks_e01 : Cond.not (Cond.castable "java/lang/IndexOutOfBoundsException" "java/lang/IllegalArgumentException") ∈ flatC (Jvm.Cond.and given_1 narrow_1) := by decide +kernel
theorem ks_e02 : Cond.not (Cond.castable "java/lang/IndexOutOfBoundsException" "java/lang/IllegalStateException") ∈ flatC (Jvm.Cond.and given_1 narrow_1) := by decide +kernel
theorem ks_e03 : Cond.not (Cond.castable "java/lang/IndexOutOfBoundsException" "java/util/NoSuchElementException") ∈ flatC (Jvm.Cond.and given_1 narrow_1) := by decide +kernel
theorem ks_e10 : Cond.not (Cond.castable "java/lang/IllegalArgumentException" "java/lang/IndexOutOfBoundsException") ∈ flatC (Jvm.Cond.and given_1 narrow_1) := by decide +kernel
theorem ks_e12 : Cond.not (Cond.castable "java/lang/IllegalArgumentException" "java/lang/IllegalStateException") ∈ flatC (Jvm.Cond.and given_1 narrow_1) := by decide +kernel
theorem ks_e13 : Cond.not (Cond.castable "java/lang/IllegalArgumentException" "java/util/NoSuchElementException") ∈ flatC (Jvm.Cond.and given_1 narrow_1) := by decide +kernel
theorem ks_e20 : Cond.not (Cond.castable "java/lang/IllegalStateException" "java/lang/IndexOutOfBoundsException") ∈ flatC (Jvm.Cond.and given_1 narrow_1) := by decide +kernel
theorem ks_e21 : Cond.not (Cond.castable "java/lang/IllegalStateException" "java/lang/IllegalArgumentException") ∈ flatC (Jvm.Cond.and given_1 narrow_1) := by decide +kernel
theorem ks_e23 : Cond.not (Cond.castable "java/lang/IllegalStateException" "java/util/NoSuchElementException") ∈ flatC (Jvm.Cond.and given_1 narrow_1) := by decide +kernel
theorem ks_e30 : Cond.not (Cond.castable "java/util/NoSuchElementException" "java/lang/IndexOutOfBoundsException") ∈ flatC (Jvm.Cond.and given_1 narrow_1) := by decide +kernel
theorem ks_e31 : Cond.not (Cond.castable "java/util/NoSuchElementException" "java/lang/IllegalArgumentException") ∈ flatC (Jvm.Cond.and given_1 narrow_1) := by decide +kernel
theorem ks_e32 : Cond.not (Cond.castable "java/util/NoSuchElementException" "java/lang/IllegalStateException") ∈ flatC (Jvm.Cond.and given_1 narrow_1) := by decide +kernel
theorem ks_gU : Cond.isRef (.static Bundle.tN "UNASSIGNED_STACK" Bundle.steD) ∈ flatC (Jvm.Cond.and given_1 narrow_1) := by decide +kernel
theorem ks_gS : Cond.isRef (.static Bundle.tN "SUPPRESSED_SENTINEL" Bundle.listD) ∈ flatC (Jvm.Cond.and given_1 narrow_1) := by decide +kernel
theorem ks_gA : Cond.arrayOf (.static "KeyStates" "EMPTY" "[J") .long ∈ flatC (Jvm.Cond.and given_1 narrow_1) := by decide +kernel
theorem ks_gL : Cond.eq (.length (.static "KeyStates" "EMPTY" "[J")) (.int 0) ∈ flatC (Jvm.Cond.and given_1 narrow_1) := by decide +kernel
set_option maxRecDepth 100000 in
set_option maxHeartbeats 4000000 in
theorem ku_start {p : Program} {s : State} {m : MethodId} {meth : Method} {c : Code} {b L : Nat} {xs : Nat → Int32} (C0 : lw_At p s m meth c b L xs) : ∃ K : Kx, K.2.2.1 = s.heap ∧ K.2.2.2 < s.heap.size ∧ KU K s ∧ KI K := by
  obtain ⟨hx, hb, hr, hml, hown, hts, hX, hbl, hlocks, hgv⟩ := C0
  have hfl := flat_of_before _ hgv
  have hA : ∀ a : Nat, a < s.heap.size → ¬ (fun q : Nat => s.heap.size ≤ q) a := fun a ha => Nat.not_le.mpr ha
  obtain ⟨d0, i0, k0⟩ := u_known (C := RX0) (T := TX0) (N := 6) (n := 6) hts inX0 (hts _ ks_n0)
  obtain ⟨d1, i1, k1⟩ := u_known (C := RX1) (T := TX1) (N := 2) (n := 2) hts inX1 (hts _ ks_n1)
  obtain ⟨d2, i2, k2⟩ := u_known (C := RX2) (T := TX2) (N := 5) (n := 5) hts inX2 (hts _ ks_n2)
  obtain ⟨d3, i3, k3⟩ := u_known (C := RX3) (T := TX3) (N := 9) (n := 9) hts inX3 (hts _ ks_n3)
  obtain ⟨d4, i4, k4⟩ := u_known (C := RX4) (T := TX4) (N := 23) (n := 23) hts inX4 (hts _ ks_n4)
  obtain ⟨c0, y0, z0, f0, g0, h0⟩ := Cond.arrayClass_spec (hts _ ks_a0)
  obtain ⟨c1, y1, z1, f1, g1, h1⟩ := Cond.arrayClass_spec (hts _ ks_a1)
  obtain ⟨c2, y2, z2, f2, g2, h2⟩ := Cond.arrayClass_spec (hts _ ks_a2)
  obtain ⟨z3, c3, y3, e3, -, g3, h3, f3⟩ := Cond.arrayOver_spec (hts _ ks_o0)
  obtain ⟨z4, c4, y4, e4, -, g4, h4, f4⟩ := Cond.arrayOver_spec (hts _ ks_o1)
  obtain ⟨z5, c5, y5, e5, -, g5, h5, f5⟩ := Cond.arrayOver_spec (hts _ ks_o2)
  obtain ⟨t, ht, hT⟩ := va_Tof (N := 0) (f := fun _ => .long 0) (A := fun q : Nat => s.heap.size ≤ q) (by decide) (hfl _ ks_gA) (va_eqt (hfl _ ks_gL)) (fun j hj => absurd hj (Nat.not_lt_zero j)) hA
  have hZ := va_Zof (A := fun q : Nat => s.heap.size ≤ q) (hts _ ks_lE) (hts _ ks_iK) ht hA
  have htl : t < s.heap.size := by
    obtain ⟨cell, q1, -⟩ := hT
    exact (Array.getElem?_eq_some_iff.mp q1).1
  have str : ∀ (k : Nat) (tx : String), Cond.stringRef "KeyStates" k tx ∈ lw_tbl → ∃ a : Nat, vk_R "KeyStates" k tx a s := fun k tx hw => by
    obtain ⟨-, -, -, a, -, -, -, -, -, ev⟩ := Cond.stringRef_spec k3.2.1 (hts _ hw)
    exact ⟨a, vk_R.of (hts _ hw) ev⟩
  have ar : ∀ (cA : ClassId) (kA : Class) (comp : ClassId) (ty : FieldType), s.vm.classes[cA]? = some kA → kA.kind = .array comp ty → ArrOfT s cA ty := fun cA kA comp ty q1 q2 n z => ⟨fun k q => (by cases q), kA, q1, comp, q2⟩
  refine ⟨((fun k => match k with | 0 => d0 | 1 => d1 | 2 => d2 | 3 => d3 | _ => d4, fun k => match k with | 0 => i0 | 1 => i1 | 2 => i2 | 3 => i3 | _ => i4), cf6 c0 c1 c2 c3 c4 c5, s.heap, t), rfl, htl, ⟨⟨fun k q hq => ?_, fun k q hq => ?_⟩, vx_Zqof (hts _ ks_lU) (hts _ ks_iT) (hfl _ ks_gU) hA, vx_Zqof (hts _ ks_lS) (hts _ ks_iT) (hfl _ ks_gS) hA, hZ,
    List.forall_mem_cons.mpr ⟨va_Nw.of rfl (hts _ ks_f0), fun _ h => absurd h List.not_mem_nil⟩, List.forall_mem_cons.mpr ⟨va_Nw.of rfl (hts _ ks_m0), List.forall_mem_cons.mpr ⟨va_Nw.of rfl (hts _ ks_m1), List.forall_mem_cons.mpr ⟨va_Nw.of rfl (hts _ ks_m2), List.forall_mem_cons.mpr ⟨va_Nw.of rfl (hts _ ks_m3), List.forall_mem_cons.mpr ⟨va_Nw.of rfl (hts _ ks_m4), List.forall_mem_cons.mpr ⟨va_Nw.of rfl (hts _ ks_m5), fun _ h => absurd h List.not_mem_nil⟩⟩⟩⟩⟩⟩, List.forall_mem_cons.mpr ⟨va_Nw.of rfl (hts _ ks_c0), List.forall_mem_cons.mpr ⟨va_Nw.of rfl (hts _ ks_c1), List.forall_mem_cons.mpr ⟨va_Nw.of rfl (hts _ ks_c2), List.forall_mem_cons.mpr ⟨va_Nw.of rfl (hts _ ks_c3), List.forall_mem_cons.mpr ⟨va_Nw.of rfl (hts _ ks_c4), List.forall_mem_cons.mpr ⟨va_Nw.of rfl (hts _ ks_c5), fun _ h => absurd h List.not_mem_nil⟩⟩⟩⟩⟩⟩, List.forall_mem_cons.mpr ⟨str _ _ ks_s0, List.forall_mem_cons.mpr ⟨str _ _ ks_s1, List.forall_mem_cons.mpr ⟨str _ _ ks_s2, List.forall_mem_cons.mpr ⟨str _ _ ks_s3, List.forall_mem_cons.mpr ⟨str _ _ ks_s4, List.forall_mem_cons.mpr ⟨str _ _ ks_s5, List.forall_mem_cons.mpr ⟨str _ _ ks_s6, List.forall_mem_cons.mpr ⟨str _ _ ks_s7, List.forall_mem_cons.mpr ⟨str _ _ ks_s8, List.forall_mem_cons.mpr ⟨str _ _ ks_s9, List.forall_mem_cons.mpr ⟨str _ _ ks_s10, fun _ h => absurd h List.not_mem_nil⟩⟩⟩⟩⟩⟩⟩⟩⟩⟩⟩, List.forall_mem_cons.mpr ⟨List.forall_mem_cons.mpr ⟨fun z => absurd rfl z, List.forall_mem_cons.mpr ⟨fun _ => va_Nc.of (hfl _ ks_e01), List.forall_mem_cons.mpr ⟨fun _ => va_Nc.of (hfl _ ks_e02), List.forall_mem_cons.mpr ⟨fun _ => va_Nc.of (hfl _ ks_e03), fun _ h => absurd h List.not_mem_nil⟩⟩⟩⟩, List.forall_mem_cons.mpr ⟨List.forall_mem_cons.mpr ⟨fun _ => va_Nc.of (hfl _ ks_e10), List.forall_mem_cons.mpr ⟨fun z => absurd rfl z, List.forall_mem_cons.mpr ⟨fun _ => va_Nc.of (hfl _ ks_e12), List.forall_mem_cons.mpr ⟨fun _ => va_Nc.of (hfl _ ks_e13), fun _ h => absurd h List.not_mem_nil⟩⟩⟩⟩, List.forall_mem_cons.mpr ⟨List.forall_mem_cons.mpr ⟨fun _ => va_Nc.of (hfl _ ks_e20), List.forall_mem_cons.mpr ⟨fun _ => va_Nc.of (hfl _ ks_e21), List.forall_mem_cons.mpr ⟨fun z => absurd rfl z, List.forall_mem_cons.mpr ⟨fun _ => va_Nc.of (hfl _ ks_e23), fun _ h => absurd h List.not_mem_nil⟩⟩⟩⟩, List.forall_mem_cons.mpr ⟨List.forall_mem_cons.mpr ⟨fun _ => va_Nc.of (hfl _ ks_e30), List.forall_mem_cons.mpr ⟨fun _ => va_Nc.of (hfl _ ks_e31), List.forall_mem_cons.mpr ⟨fun _ => va_Nc.of (hfl _ ks_e32), List.forall_mem_cons.mpr ⟨fun z => absurd rfl z, fun _ h => absurd h List.not_mem_nil⟩⟩⟩⟩, fun _ h => absurd h List.not_mem_nil⟩⟩⟩⟩,
    va_AO.of (hts _ ks_o0), va_AO.of (hts _ ks_o1), va_AO.of (hts _ ks_o2), hT, List.forall_mem_cons.mpr ⟨va_Nw.of rfl (hts _ ks_d0), List.forall_mem_cons.mpr ⟨va_Nw.of rfl (hts _ ks_d1), List.forall_mem_cons.mpr ⟨va_Nw.of rfl (hts _ ks_d2), fun _ h => absurd h List.not_mem_nil⟩⟩⟩⟩, fun i j hi hj z => ?_⟩
  · match k, hq with
    | 0, hq => cases hq; exact k0
    | 1, hq => cases hq; exact k1
    | 2, hq => cases hq; exact k2
    | 3, hq => cases hq; exact k3
    | 4, hq => cases hq; exact k4
    | k + 5, hq => simp [vwCl] at hq
  · match k, hq with
    | 0, hq => cases hq; exact ⟨ar _ _ _ _ g0 h0, f0⟩
    | 1, hq => cases hq; exact ⟨ar _ _ _ _ g1 h1, f1⟩
    | 2, hq => cases hq; exact ⟨ar _ _ _ _ g2 h2, f2⟩
    | 3, hq => cases hq; exact ⟨ar _ _ _ _ g3 h3, _, _, g3, h3, e3, f3⟩
    | 4, hq => cases hq; exact ⟨ar _ _ _ _ g4 h4, _, _, g4, h4, e4, f4⟩
    | 5, hq => cases hq; exact ⟨ar _ _ _ _ g5 h5, _, _, g5, h5, e5, f5⟩
    | k + 6, hq => simp [tyL] at hq
  · have cls : ∀ i, i < 6 → ∃ kA comp, s.vm.classes[(cf6 c0 c1 c2 c3 c4 c5 i)]? = some kA ∧ kA.kind = .array comp (tyf i) := fun i hi => by
      match i, hi with
      | 0, _ => exact ⟨_, _, g0, h0⟩
      | 1, _ => exact ⟨_, _, g1, h1⟩
      | 2, _ => exact ⟨_, _, g2, h2⟩
      | 3, _ => exact ⟨_, _, g3, h3⟩
      | 4, _ => exact ⟨_, _, g4, h4⟩
      | 5, _ => exact ⟨_, _, g5, h5⟩
    obtain ⟨kA, ca, a1, a2⟩ := cls i hi
    obtain ⟨kB, cb, b1, b2⟩ := cls j hj
    have z' : (cf6 c0 c1 c2 c3 c4 c5 i) = (cf6 c0 c1 c2 c3 c4 c5 j) := z
    rw [z', b1] at a1
    have e9 : kB = kA := Option.some.inj a1
    rw [e9, a2] at b2
    have : tyf i = tyf j := by injection b2
    exact tyf_inj i hi j hj this
