/-! ===== the reference: states, key and span at hand, what is asked ===== -/
theorem lt_le {a b x : Int32} (h : b.toInt = a.toInt + 1) : a < x ↔ b ≤ x := by
  rw [Int32.lt_iff_toInt_lt, Int32.le_iff_toInt_le]; omega
theorem k34 (x : Int32) : nI 3 < x ↔ nI 4 ≤ x := lt_le (by decide)
theorem k23 (x : Int32) : x ≤ nI 2 ↔ ¬ nI 3 ≤ x := by
  rw [← lt_le (a := nI 2) (b := nI 3) (x := x) (by decide)]; exact Int32.not_lt.symm
/-- the reference knows nothing against the call -/
abbrev z0 (I : MI) : MI := setI I 0 0 (nI 0)
theorem z0_n {I : MI} {g : Nat} (h : g ≠ 0) : z0 I g = I g := setI_n h
theorem z0_0 {I : MI} : z0 I 0 0 = nI 0 := by rw [z0, setI_f, upd_s]
section Mod
variable {l : Launch} {K : Kx} {m : Nat} {am : Nat → Nat} {I I' : MI} {L L' : ML} {h : Hp} {sm n : Nat} {s : Int32}
theorem mRd.zz {P : Nat → Prop} (hP : P 0) : mRd K m am I L h P (Mw K m am (z0 I) L h) := mRd.no (by decide) z0_0 (fun _ h0 _ => z0_n h0) hP
theorem mRd.zf {P : Nat → Prop} {d : Nat} (hd : d < 5) (hP : P d) : mRd K m am I L h P (Mw K m am (setI (z0 I) 0 0 (nI d)) L h) := mRd.no hd (by rw [setI_f, upd_s]) (fun _ h0 _ => by rw [setI_n h0, z0_n h0]) hP
theorem sp_mKey {k : Int64} (htr : l.stackTraces = false) : mX4_key l K [.ref m, .long k] (Mw K m am I L h) (kV fun h' => h' = Mw K m am (setI (z0 I) 19 0 (nI 1)) (setL L 20 0 k) h) := by
  exact fX4_key htr ⟨_, p0M, _, p19M, _, p20M, rfl, rfl⟩
theorem sp_mLeave (htr : l.stackTraces = false) (hk : I 19 0 = nI 0 ∨ I 19 0 = nI 1) : mX4_leave l K [.ref m] (Mw K m am I L h) (kI fun r h' => r = I 19 0 ∧ h' = Mw K m am (setI (z0 I) 19 0 (nI 0)) L h) := by
  refine fX4_leave htr ⟨_, p0M, _, g19M, _, p19M, ?_⟩
  rw [setI_n (by decide)]
  exact ⟨hk, _, rfl, rfl, rfl⟩
theorem sp_mSpan {k : Int32} (htr : l.stackTraces = false) : mX4_span l K [.ref m, .int k] (Mw K m am I L h) (kI fun r h' => r = I 21 0 ∧ h' = Mw K m am (setI (z0 I) 21 0 k) L h) := by
  refine fX4_span htr ⟨_, p0M, _, g21M, _, p21M, ?_⟩
  rw [setI_n (by decide)]
  exact ⟨_, rfl, rfl, rfl⟩
theorem sp_mState {nm k t : Int32} (htr : l.stackTraces = false) (A : AM m am) (hs : I 1 0 = nI sm) (h8 : sm ≤ 8) :
    mX4_state l K [.ref m, .int nm, .int k, .int t] (Mw K m am I L h) (kI fun r h' => (¬ kt k t ∧ r = -nI 1 ∧ h' = Mw K m am (z0 I) L h) ∨ (kt k t ∧ ∃ i, i < sm ∧ I 2 i = nm ∧ (∀ j, j < i → I 2 j ≠ nm) ∧ h' = Mw K m am (z0 I) L h ∧ ((I 3 i = k ∧ I 4 i = t ∧ r = nI i) ∨ (¬ (I 3 i = k ∧ I 4 i = t) ∧ r = -nI 3))) ∨
      (kt k t ∧ (∀ j, j < sm → I 2 j ≠ nm) ∧ ((sm = 8 ∧ r = -nI 4 ∧ h' = Mw K m am (z0 I) L h) ∨ (sm < 8 ∧ r = nI sm ∧ h' = Mw K m am (setI (setI (setI (setI (z0 I) 2 sm nm) 3 sm k) 4 sm t) 1 0 (nI (sm + 1))) L h)))) := by
  refine fX4_state htr ⟨_, p0M, ?_⟩
  have B : ¬ kt k t → kI (fun r h' => (¬ kt k t ∧ r = -nI 1 ∧ h' = Mw K m am (z0 I) L h) ∨ (kt k t ∧ ∃ i, i < sm ∧ I 2 i = nm ∧ (∀ j, j < i → I 2 j ≠ nm) ∧ h' = Mw K m am (z0 I) L h ∧ ((I 3 i = k ∧ I 4 i = t ∧ r = nI i) ∨ (¬ (I 3 i = k ∧ I 4 i = t) ∧ r = -nI 3))) ∨
      (kt k t ∧ (∀ j, j < sm → I 2 j ≠ nm) ∧ ((sm = 8 ∧ r = -nI 4 ∧ h' = Mw K m am (z0 I) L h) ∨ (sm < 8 ∧ r = nI sm ∧ h' = Mw K m am (setI (setI (setI (setI (z0 I) 2 sm nm) 3 sm k) 4 sm t) 1 0 (nI (sm + 1))) L h)))) (.inl (some (.int (-nI 1)))) (Mw K m am (setI I 0 0 (nI 0)) L h) := fun q => ⟨_, rfl, Or.inl ⟨q, rfl, rfl⟩⟩
  refine ⟨fun q => B fun z => z.1 q, fun q => ⟨fun q2 => B fun z => z.2.1 ((k34 k).mp q2), fun q2 => ⟨fun q3 => B fun z => z.2.2.1 q3, fun q3 => ⟨fun q4 => ?_, fun q4 => B fun z => q4 ((k23 t).mpr z.2.2.2)⟩⟩⟩⟩
  have hk : kt k t := ⟨q, fun z => q2 ((k34 k).mpr z), q3, (k23 t).mp q4⟩
  clear B
  intro X hX
  refine loopN (n := sm) (fun j => (∀ i, i < j → I 2 i ≠ nm) → X (nI j)) ?_ ?_ 0 (Nat.zero_le _) (fun i hi => absurd hi (Nat.not_lt_zero i))
  · intro hf
    refine hX _ ?_
    simp (disch := omega) only [g0M, g1M, g2M, g3M, g4M, g5M, g6M, g7M, g8M, g9M, g10M, g11M, g12M, g13M, g14M, g15M, g16M, g17M, g18M, g19M, g20M, g21M, g22M, p0M, p1M, p16M, p17M, p18M, p19M, p20M, p21M, p22M, r2M A, r3M A, r4M A, r5M A, r6M A, r7M A, r8M A, r9M A, r10M A, r11M A, r12M A, r13M A, r14M A, r15M A, w2M A, w3M A, w4M A, w5M A, w6M A, w7M A, w8M A, w9M A, w10M A, w11M A, w12M A, w13M A, w14M A, w15M A, Mw_o, true_and, Option.some.injEq, Value.ref.injEq, Value.int.injEq, Value.long.injEq, exists_eq_left', setI_f, setI_n, setL_f, setL_n, upd_s, updL_s, pk_mul, nI_add, nI_sub1, hs]
    refine ⟨fun _ => ⟨fun q => ?_, fun q => ?_⟩, fun q => absurd (nI_le (Nat.le_refl _) (by omega)) q⟩
    · have h9 : sm < 8 := Nat.lt_of_le_of_ne h8 fun z => q (by rw [z])
      simp (disch := omega) only [g0M, g1M, g2M, g3M, g4M, g5M, g6M, g7M, g8M, g9M, g10M, g11M, g12M, g13M, g14M, g15M, g16M, g17M, g18M, g19M, g20M, g21M, g22M, p0M, p1M, p16M, p17M, p18M, p19M, p20M, p21M, p22M, r2M A, r3M A, r4M A, r5M A, r6M A, r7M A, r8M A, r9M A, r10M A, r11M A, r12M A, r13M A, r14M A, r15M A, w2M A, w3M A, w4M A, w5M A, w6M A, w7M A, w8M A, w9M A, w10M A, w11M A, w12M A, w13M A, w14M A, w15M A, Mw_o, true_and, Option.some.injEq, Value.ref.injEq, Value.int.injEq, Value.long.injEq, exists_eq_left', setI_f, setI_n, setL_f, setL_n, upd_s, updL_s, pk_mul, nI_add, nI_sub1, hs]
      have e10 : nI (sm + 1) - nI 1 = nI sm := pk_sub (by omega)
      rw [e10]
      exact ⟨_, rfl, Or.inr (Or.inr ⟨hk, hf, Or.inr ⟨h9, rfl, rfl⟩⟩)⟩
    · exact ⟨_, rfl, Or.inr (Or.inr ⟨hk, hf, Or.inl ⟨(nI_eq (by omega) (by omega)).mp q, rfl, rfl⟩⟩)⟩
  · intro j hj ih hf
    refine hX _ ?_
    have hlt : ¬ nI sm ≤ nI j := nI_ge hj (by omega)
    simp (disch := omega) only [g0M, g1M, g2M, g3M, g4M, g5M, g6M, g7M, g8M, g9M, g10M, g11M, g12M, g13M, g14M, g15M, g16M, g17M, g18M, g19M, g20M, g21M, g22M, p0M, p1M, p16M, p17M, p18M, p19M, p20M, p21M, p22M, r2M A, r3M A, r4M A, r5M A, r6M A, r7M A, r8M A, r9M A, r10M A, r11M A, r12M A, r13M A, r14M A, r15M A, w2M A, w3M A, w4M A, w5M A, w6M A, w7M A, w8M A, w9M A, w10M A, w11M A, w12M A, w13M A, w14M A, w15M A, Mw_o, true_and, Option.some.injEq, Value.ref.injEq, Value.int.injEq, Value.long.injEq, exists_eq_left', setI_f, setI_n, setL_f, setL_n, upd_s, updL_s, pk_mul, nI_add, nI_sub1, nI01, neg_not, neg1_lt, not_true_eq_false, not_false_eq_true, false_implies, true_implies, implies_true, and_true, true_and, eq_self, ref22s, ref22n, ref00, refN, tch_n, hs, hlt]
    refine ⟨fun q => ih fun i hi => ?_, fun q => ?_⟩
    · rcases Nat.lt_succ_iff_lt_or_eq.mp hi with y | rfl
      · exact hf i y
      · exact q
    · refine ⟨fun q1 => ⟨_, rfl, Or.inr (Or.inl ⟨hk, j, hj, q, hf, rfl, Or.inr ⟨fun z => q1 z.1, rfl⟩⟩)⟩, fun q1 => ⟨fun q5 => ⟨_, rfl, Or.inr (Or.inl ⟨hk, j, hj, q, hf, rfl, Or.inr ⟨fun z => q5 z.2, rfl⟩⟩)⟩, fun q5 => ⟨_, rfl, Or.inr (Or.inl ⟨hk, j, hj, q, hf, rfl, Or.inl ⟨q1, q5, rfl⟩⟩)⟩⟩⟩
theorem sp_mOf {i : Int32} (htr : l.stackTraces = false) (A : AM m am) (hs : I 1 0 = nI sm) (h8 : sm ≤ 8) :
    mX4_of l K [.ref m, .int s, .int i] (Mw K m am I L h) (kI fun r h' => mRd K m am I L h (fun c => (c = 1 ∧ (¬ isS s sm ∨ ¬ isS i 3)) ∨ (c = 0 ∧ ∃ j, j < sm ∧ s = nI j ∧ ((i = nI 0 ∧ r = I 2 j) ∨ (i = nI 1 ∧ r = I 3 j) ∨ (i = nI 2 ∧ r = I 4 j)))) h') := by
  refine fX4_of htr ⟨_, p0M, ⟨_, Mw_m⟩, ?_⟩
  refine (sp_mIsState (n := sm) htr (by rw [setI_n (by decide)]; exact hs)).I ?_
  rintro r h' ⟨z, rfl⟩
  have F : (¬ isS s sm ∨ ¬ isS i 3) → mX4_fails l K [.ref m, .int (nI 1)] (Mw K m am (setI I 0 0 (nI 0)) L h) (kI fun v_5 h_4 => kI (fun r h' => mRd K m am I L h (fun c => (c = 1 ∧ (¬ isS s sm ∨ ¬ isS i 3)) ∨ (c = 0 ∧ ∃ j, j < sm ∧ s = nI j ∧ ((i = nI 0 ∧ r = I 2 j) ∨ (i = nI 1 ∧ r = I 3 j) ∨ (i = nI 2 ∧ r = I 4 j)))) h') (.inl (some (.int v_5))) h_4) := fun q => by
    refine (sp_mFails htr).I ?_
    rintro r h' ⟨rfl, rfl⟩
    exact ⟨_, rfl, mRd.zf (by decide) (Or.inl ⟨rfl, q⟩)⟩
  rcases z with ⟨rfl, hS⟩ | ⟨rfl, hS⟩
  · refine ⟨fun q => absurd q nI01, fun _ => ⟨fun q => ⟨⟨_, Mw_m⟩, F (Or.inr fun z => z.1 q)⟩, fun q => ⟨fun q2 => ?_, fun q2 => ⟨⟨_, Mw_m⟩, F (Or.inr fun z => q2 ((k23 i).mpr (Int32.not_le.mpr z.2)))⟩⟩⟩⟩
    have hi3 : isS i 3 := ⟨q, Int32.not_le.mp ((k23 i).mp q2)⟩
    obtain ⟨j, hj, rfl⟩ := hS.ix (by omega)
    obtain ⟨d, hd, rfl⟩ := hi3.ix (by decide)
    simp (disch := omega) only [g0M, g1M, g2M, g3M, g4M, g5M, g6M, g7M, g8M, g9M, g10M, g11M, g12M, g13M, g14M, g15M, g16M, g17M, g18M, g19M, g20M, g21M, g22M, p0M, p1M, p16M, p17M, p18M, p19M, p20M, p21M, p22M, r2M A, r3M A, r4M A, r5M A, r6M A, r7M A, r8M A, r9M A, r10M A, r11M A, r12M A, r13M A, r14M A, r15M A, w2M A, w3M A, w4M A, w5M A, w6M A, w7M A, w8M A, w9M A, w10M A, w11M A, w12M A, w13M A, w14M A, w15M A, Mw_o, true_and, Option.some.injEq, Value.ref.injEq, Value.int.injEq, Value.long.injEq, exists_eq_left', setI_f, setI_n, setL_f, setL_n, upd_s, updL_s, pk_mul, nI_add, nI_sub1, nI01, neg_not, neg1_lt, not_true_eq_false, not_false_eq_true, false_implies, true_implies, implies_true, and_true, true_and, eq_self, ref22s, ref22n, ref00, refN, tch_n]
    have e : ∀ a, a < 3 → (nI d = nI a ↔ d = a) := fun a ha => nI_eq (by omega) (by omega)
    refine ⟨fun q0 => ⟨fun q1 => ?_, fun q1 => ⟨_, rfl, mRd.zz (Or.inr ⟨rfl, j, hj, rfl, Or.inr (Or.inl ⟨q1, rfl⟩)⟩)⟩⟩, fun q0 => ⟨_, rfl, mRd.zz (Or.inr ⟨rfl, j, hj, rfl, Or.inl ⟨q0, rfl⟩⟩)⟩⟩
    rw [e 0 (by decide)] at q0
    rw [e 1 (by decide)] at q1
    have : d = 2 := by omega
    subst this
    exact ⟨_, rfl, mRd.zz (Or.inr ⟨rfl, j, hj, rfl, Or.inr (Or.inr ⟨rfl, rfl⟩)⟩)⟩
  · exact ⟨fun _ => ⟨⟨_, Mw_m⟩, F (Or.inl hS)⟩, fun q => absurd rfl q⟩
/-- counting over the entries of a copy -/
theorem mLst_cnt {c n : Nat} (φ : EV → Bool) : (mLst I L c n).countP φ = (List.range n).countP (fun i => φ (mEv I L c (150 * c + i))) := by rw [mLst, List.countP_map]; rfl
theorem sp_mKeys (htr : l.stackTraces = false) (A : AM m am) (hs : I 1 0 = nI sm) (h8 : sm ≤ 8) (hn : I 6 0 = nI n) (hn2 : n ≤ 150) :
    mX4_keys l K [.ref m, .int s] (Mw K m am I L h) (kI fun r h' => mRd K m am I L h (fun c => (c = 1 ∧ ¬ isS s sm) ∨ (c = 0 ∧ isS s sm ∧ r = nI ((mLst I L 0 n).countP (mk2 s (I 21 0))))) h') := by
  refine fX4_keys htr ⟨_, p0M, ⟨_, Mw_m⟩, ?_⟩
  refine (sp_mIsState (n := sm) htr (by rw [setI_n (by decide)]; exact hs)).I ?_
  rintro r h' ⟨z, rfl⟩
  rcases z with ⟨rfl, hS⟩ | ⟨rfl, hS⟩
  · refine ⟨fun _ => ?_, fun q => absurd q nI01⟩
    intro X hX
    rw [mLst_cnt] at hX
    refine loopN (n := n) (fun j => X (nI ((List.range j).countP (fun i => mk2 s (I 21 0) (mEv I L 0 (150 * 0 + i))))) (nI j)) ?_ ?_ 0 (Nat.zero_le _)
    · refine hX _ _ ?_
      simp (disch := omega) only [g0M, g1M, g2M, g3M, g4M, g5M, g6M, g7M, g8M, g9M, g10M, g11M, g12M, g13M, g14M, g15M, g16M, g17M, g18M, g19M, g20M, g21M, g22M, p0M, p1M, p16M, p17M, p18M, p19M, p20M, p21M, p22M, r2M A, r3M A, r4M A, r5M A, r6M A, r7M A, r8M A, r9M A, r10M A, r11M A, r12M A, r13M A, r14M A, r15M A, w2M A, w3M A, w4M A, w5M A, w6M A, w7M A, w8M A, w9M A, w10M A, w11M A, w12M A, w13M A, w14M A, w15M A, Mw_o, true_and, Option.some.injEq, Value.ref.injEq, Value.int.injEq, Value.long.injEq, exists_eq_left', setI_f, setI_n, setL_f, setL_n, upd_s, updL_s, pk_mul, nI_add, nI_sub1, nI01, neg_not, neg1_lt, not_true_eq_false, not_false_eq_true, false_implies, true_implies, implies_true, and_true, true_and, eq_self, ref22s, ref22n, ref00, refN, tch_n, hn]
      exact ⟨fun _ => ⟨_, rfl, mRd.zz (Or.inr ⟨rfl, hS, rfl⟩)⟩, fun q => absurd (nI_le (Nat.le_refl _) (by omega)) q⟩
    · intro j hj ih
      rw [List.range_succ, List.countP_append] at ih
      refine hX _ _ ?_
      have hlt : ¬ nI n ≤ nI j := nI_ge hj (by omega)
      simp (disch := omega) only [g0M, g1M, g2M, g3M, g4M, g5M, g6M, g7M, g8M, g9M, g10M, g11M, g12M, g13M, g14M, g15M, g16M, g17M, g18M, g19M, g20M, g21M, g22M, p0M, p1M, p16M, p17M, p18M, p19M, p20M, p21M, p22M, r2M A, r3M A, r4M A, r5M A, r6M A, r7M A, r8M A, r9M A, r10M A, r11M A, r12M A, r13M A, r14M A, r15M A, w2M A, w3M A, w4M A, w5M A, w6M A, w7M A, w8M A, w9M A, w10M A, w11M A, w12M A, w13M A, w14M A, w15M A, Mw_o, true_and, Option.some.injEq, Value.ref.injEq, Value.int.injEq, Value.long.injEq, exists_eq_left', setI_f, setI_n, setL_f, setL_n, upd_s, updL_s, pk_mul, nI_add, nI_sub1, nI01, neg_not, neg1_lt, not_true_eq_false, not_false_eq_true, false_implies, true_implies, implies_true, and_true, true_and, eq_self, ref22s, ref22n, ref00, refN, tch_n, hn, hlt]
      have e : mk2 s (I 21 0) (mEv I L 0 (150 * 0 + j)) = decide (I 7 j = s ∧ I 9 j = I 21 0) := by rw [Nat.mul_zero, Nat.zero_add]; rfl
      simp only [List.countP_cons, List.countP_nil, e, Nat.zero_add] at ih
      refine ⟨fun q => ?_, fun q => ⟨fun q2 => ?_, fun q2 => ?_⟩⟩
      · simpa [q] using ih
      · simpa [q2] using ih
      · simpa [q, q2] using ih
  · refine ⟨fun q => absurd rfl q, fun _ => ⟨⟨_, Mw_m⟩, ?_⟩⟩
    refine (sp_mFails htr).I ?_
    rintro r h' ⟨rfl, rfl⟩
    exact ⟨_, rfl, mRd.zf (by decide) (Or.inl ⟨rfl, hS⟩)⟩
end Mod
