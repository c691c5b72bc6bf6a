/-! ===== the reference: readers; set and remove ===== -/
/-- nothing but what the reference notes of a call has changed -/
def mRd (K : Kx) (m : Nat) (am : Nat → Nat) (I : MI) (L : ML) (h : Hp) (P : Nat → Prop) (h' : Hp) : Prop := ∃ c I', c < 5 ∧ h' = Mw K m am I' L h ∧ I' 0 0 = nI c ∧ (∀ g, g ≠ 0 → g ≠ 22 → I' g = I g) ∧ P c
/-- refused (c), or there is no such thing (d), or answered -/
def XRd (S : Nat → Prop) (d : Nat) (N : Prop) (Y : Prop) (c : Nat) : Prop := (0 < c ∧ c < 4 ∧ S c) ∨ (S 0 ∧ ((c = d ∧ N) ∨ (c = 0 ∧ Y)))
theorem getD_mr {f : Nat → Int64} {t j : Nat} (h : j < t) : ((List.range t).map f).getD j 0 = f j := by
  rw [List.getD_eq_getElem?_getD, List.getElem?_map, List.getElem?_range h]; rfl
theorem plm_m {L : ML} {e t j : Nat} {x : Int64} {a : Int32} {b : Int64} {c d : Int32} {N : List Int64} (h : cbR (fun i => L 12 (10 * e + i)) t x j) : plm (a, b, c, N, (List.range t).map (fun i => L 12 (10 * e + i)), d) x j := by
  obtain ⟨h1, h2, h3⟩ := h
  refine ⟨by simpa using h1, fun i hi => ?_, fun hj => ?_⟩
  · show ((List.range t).map (fun i => L 12 (10 * e + i))).getD i 0 < x
    rw [getD_mr (by omega)]; exact h2 i hi
  · have hj' : j < t := by simpa using hj
    show ¬ ((List.range t).map (fun i => L 12 (10 * e + i))).getD j 0 < x
    rw [getD_mr hj']; exact h3 hj'
theorem has_m {L : ML} {e t j : Nat} {x : Int64} {a : Int32} {b : Int64} {c d : Int32} {N : List Int64} : hasM (a, b, c, N, (List.range t).map (fun i => L 12 (10 * e + i)), d) x j ↔ j < t ∧ L 12 (10 * e + j) = x := by
  unfold hasM
  simp only [List.length_map, List.length_range]
  exact and_congr_right fun hj => by rw [getD_mr hj]
theorem plm_0 {a : Int32} {b : Int64} {c d : Int32} {N : List Int64} {x : Int64} : plm (a, b, c, N, [], d) x 0 := ⟨Nat.zero_le _, fun i hi => absurd hi (Nat.not_lt_zero i), fun z => absurd z (Nat.not_lt_zero _)⟩
theorem has_0 {a : Int32} {b : Int64} {c d : Int32} {N : List Int64} {x : Int64} {j : Nat} : ¬ hasM (a, b, c, N, [], d) x j := fun z => absurd z.1 (Nat.not_lt_zero _)
theorem toL0 : (nI 0).toInt64 = 0 := by decide
section Mod
variable {l : Launch} {K : Kx} {m : Nat} {am : Nat → Nat} {I I' : MI} {L L' : ML} {h : Hp} {sm n : Nat} {s : Int32}
theorem mRd.no {P : Nat → Prop} {c : Nat} {I' : MI} (hc : c < 5) (h0 : I' 0 0 = nI c) (hI : ∀ g, g ≠ 0 → g ≠ 22 → I' g = I g) (hP : P c) : mRd K m am I L h P (Mw K m am I' L h) := ⟨c, I', hc, rfl, h0, hI, hP⟩
theorem mRd.rf {P : Nat → Prop} {c : Nat} {o : Option Nat} (hc : c < 5) (hP : P c) : mRd K m am I L h P (Mw K m am (refI I c o) L h) := mRd.no hc ref00 (fun _ h0 h22 => refN h0 h22) hP
theorem mRd.fl {P : Nat → Prop} {c d : Nat} {o : Option Nat} (hd : d < 5) (hP : P d) : mRd K m am I L h P (Mw K m am (setI (refI I c o) 0 0 (nI d)) L h) := mRd.no hd (by rw [setI_f, upd_s]) (fun _ h0 h22 => by rw [setI_n h0, refN h0 h22]) hP
theorem sp_mValue (htr : l.stackTraces = false) (A : AM m am) (v : MV I L sm n) :
    mX4_value l K [.ref m, .int s] (Mw K m am I L h) (kL fun r h' => mRd K m am I L h (XRd (St sm (I 3) (I 4) (I 19 0) s (nI 0) (nI 3) 0) 4 ((lk s (L 20 0) (I 21 0) (mLst I L 0 n)).2.2.2.1 = []) ((lk s (L 20 0) (I 21 0) (mLst I L 0 n)).2.2.2.1 ≠ [] ∧ r = (lk s (L 20 0) (I 21 0) (mLst I L 0 n)).2.2.2.1.getD 0 0)) h') := by
  obtain ⟨v1, v2, v3, v4, v5, v6, v7, v8⟩ := v
  refine fX4_value htr ⟨⟨_, Mw_m⟩, ?_⟩
  refine (sp_mRefused htr A v1 v2 v3 v4).I ?_
  rintro r h' ⟨c, hc4, hst, hr, rfl⟩
  refine ⟨fun q => ?_, fun q => ⟨_, rfl, mRd.rf (by omega) (Or.inl ⟨Nat.pos_of_ne_zero fun z => q (hr.mpr z), hc4, hst⟩)⟩⟩
  have := hr.mp q
  subst this
  obtain ⟨i, hi, rfl, hkd, -, -⟩ := hst.ix
  cases hfd : fdM I L 0 n (nI i) (L 20 0) (I 21 0) with
  | some e =>
    obtain ⟨e', he', hee, f7, f8, f9⟩ := fdM_some hfd
    have : e' = e := by omega
    subst this
    have hp0 : nI 0 ≤ nI e' := nonneg (by omega)
    simp (disch := omega) only [g0M, g1M, g2M, g3M, g4M, g5M, g6M, g7M, g8M, g9M, g10M, g11M, g12M, g13M, g14M, g15M, g16M, g17M, g18M, g19M, g20M, g21M, g22M, p0M, p1M, p16M, p17M, p18M, p19M, p20M, p21M, p22M, r2M A, r3M A, r4M A, r5M A, r6M A, r7M A, r8M A, r9M A, r10M A, r11M A, r12M A, r13M A, r14M A, r15M A, w2M A, w3M A, w4M A, w5M A, w6M A, w7M A, w8M A, w9M A, w10M A, w11M A, w12M A, w13M A, w14M A, w15M A, Mw_o, true_and, Option.some.injEq, Value.ref.injEq, Value.int.injEq, Value.long.injEq, exists_eq_left', setI_f, setI_n, setL_f, setL_n, upd_s, updL_s, pk_mul, nI_add, nI_sub1, nI01, neg_not, neg1_lt, not_true_eq_false, not_false_eq_true, false_implies, true_implies, implies_true, and_true, true_and, eq_self, ref22s, ref22n, ref00, refN, tch_n, hp0]
    refine ⟨_, rfl, mRd.rf (by decide) (Or.inr ⟨hst, Or.inr ⟨rfl, ?_⟩⟩)⟩
    have hk := kdE_st f7 (show i < 1000 by omega)
    rw [lk_m_s hfd]
    rcases hkd with z | z
    · rw [mEv_0 (hk.trans z)]; exact ⟨by simp, rfl⟩
    · rw [mEv_3 (hk.trans z)]; exact ⟨by simp, rfl⟩
  | none =>
    simp (disch := omega) only [g0M, g1M, g2M, g3M, g4M, g5M, g6M, g7M, g8M, g9M, g10M, g11M, g12M, g13M, g14M, g15M, g16M, g17M, g18M, g19M, g20M, g21M, g22M, p0M, p1M, p16M, p17M, p18M, p19M, p20M, p21M, p22M, r2M A, r3M A, r4M A, r5M A, r6M A, r7M A, r8M A, r9M A, r10M A, r11M A, r12M A, r13M A, r14M A, r15M A, w2M A, w3M A, w4M A, w5M A, w6M A, w7M A, w8M A, w9M A, w10M A, w11M A, w12M A, w13M A, w14M A, w15M A, Mw_o, true_and, Option.some.injEq, Value.ref.injEq, Value.int.injEq, Value.long.injEq, exists_eq_left', setI_f, setI_n, setL_f, setL_n, upd_s, updL_s, pk_mul, nI_add, nI_sub1, nI01, neg_not, neg1_lt, not_true_eq_false, not_false_eq_true, false_implies, true_implies, implies_true, and_true, true_and, eq_self, ref22s, ref22n, ref00, refN, tch_n]
    refine (sp_mFails htr).I ?_
    rintro r h' ⟨rfl, rfl⟩
    exact ⟨_, rfl, mRd.fl (by decide) (Or.inr ⟨hst, Or.inl ⟨rfl, by rw [lk_m_n hfd]⟩⟩)⟩
theorem sp_mItem {i : Int32} (htr : l.stackTraces = false) (A : AM m am) (v : MV I L sm n) :
    mX4_item l K [.ref m, .int s, .int i] (Mw K m am I L h) (kL fun r h' => mRd K m am I L h (XRd (St sm (I 3) (I 4) (I 19 0) s (nI 1) (nI 2) 0) 1 (¬ isS i (lk s (L 20 0) (I 21 0) (mLst I L 0 n)).2.2.2.1.length) (∃ j, j < (lk s (L 20 0) (I 21 0) (mLst I L 0 n)).2.2.2.1.length ∧ i = nI j ∧ r = (lk s (L 20 0) (I 21 0) (mLst I L 0 n)).2.2.2.1.getD j 0)) h') := by
  obtain ⟨v1, v2, v3, v4, v5, v6, v7, v8⟩ := v
  refine fX4_item htr ⟨⟨_, Mw_m⟩, ?_⟩
  refine (sp_mRefused htr A v1 v2 v3 v4).I ?_
  rintro r h' ⟨c, hc4, hst, hr, rfl⟩
  refine ⟨fun q => ?_, fun q => ⟨_, rfl, mRd.rf (by omega) (Or.inl ⟨Nat.pos_of_ne_zero fun z => q (hr.mpr z), hc4, hst⟩)⟩⟩
  have := hr.mp q
  subst this
  obtain ⟨i9, hi, rfl, hkd, -, -⟩ := hst.ix
  have F : ∀ (o : Option Nat), ¬ isS i (lk (nI i9) (L 20 0) (I 21 0) (mLst I L 0 n)).2.2.2.1.length → mX4_fails l K [.ref m, .int (nI 1)] (Mw K m am (refI I 0 o) L h) (kI fun v_5 h_4 => kL (fun r h' => mRd K m am I L h (XRd (St sm (I 3) (I 4) (I 19 0) (nI i9) (nI 1) (nI 2) 0) 1 (¬ isS i (lk (nI i9) (L 20 0) (I 21 0) (mLst I L 0 n)).2.2.2.1.length) (∃ j, j < (lk (nI i9) (L 20 0) (I 21 0) (mLst I L 0 n)).2.2.2.1.length ∧ i = nI j ∧ r = (lk (nI i9) (L 20 0) (I 21 0) (mLst I L 0 n)).2.2.2.1.getD j 0)) h') (.inl (some (.long v_5.toInt64))) h_4) := fun o hN => by
    refine (sp_mFails htr).I ?_
    rintro r h' ⟨rfl, rfl⟩
    exact ⟨_, rfl, mRd.fl (by decide) (Or.inr ⟨hst, Or.inl ⟨rfl, hN⟩⟩)⟩
  cases hfd : fdM I L 0 n (nI i9) (L 20 0) (I 21 0) with
  | some e =>
    obtain ⟨e', he', hee, f7, f8, f9⟩ := fdM_some hfd
    have : e' = e := by omega
    subst this
    have hp0 : ¬ nI e' < nI 0 := nI_pos (by omega)
    obtain ⟨st, hst9, s7, tk⟩ := v5 e' he'
    have hsti : st = i9 := (nI_eq (by omega) (by omega)).mp (s7.symm.trans f7)
    subst hsti
    simp only [Nat.mul_zero, Nat.zero_add] at tk
    obtain ⟨t, t10, t0, tb, -⟩ := tk (by rcases hkd with z | z <;> rw [z] <;> decide)
    have hk := kdE_st f7 (show st < 1000 by omega)
    have hlk : (lk (nI st) (L 20 0) (I 21 0) (mLst I L 0 n)).2.2.2.1 = (List.range t).map (fun i => L 11 (10 * e' + i)) := by
      rw [lk_m_s hfd]
      rcases hkd with z | z
      · rw [mEv_1 (hk.trans z) t10 (by omega)]
      · rw [mEv_2 (hk.trans z) t10 (by omega)]
    have hlen : (lk (nI st) (L 20 0) (I 21 0) (mLst I L 0 n)).2.2.2.1.length = t := by rw [hlk]; simp
    simp (disch := omega) only [g0M, g1M, g2M, g3M, g4M, g5M, g6M, g7M, g8M, g9M, g10M, g11M, g12M, g13M, g14M, g15M, g16M, g17M, g18M, g19M, g20M, g21M, g22M, p0M, p1M, p16M, p17M, p18M, p19M, p20M, p21M, p22M, r2M A, r3M A, r4M A, r5M A, r6M A, r7M A, r8M A, r9M A, r10M A, r11M A, r12M A, r13M A, r14M A, r15M A, w2M A, w3M A, w4M A, w5M A, w6M A, w7M A, w8M A, w9M A, w10M A, w11M A, w12M A, w13M A, w14M A, w15M A, Mw_o, true_and, Option.some.injEq, Value.ref.injEq, Value.int.injEq, Value.long.injEq, exists_eq_left', setI_f, setI_n, setL_f, setL_n, upd_s, updL_s, pk_mul, nI_add, nI_sub1, nI01, neg_not, neg1_lt, not_true_eq_false, not_false_eq_true, false_implies, true_implies, implies_true, and_true, true_and, eq_self, ref22s, ref22n, ref00, refN, tch_n, hp0, t10]
    refine ⟨fun q => F _ fun z => z.1 q, fun q => ⟨fun q2 => ?_, fun q2 => F _ fun z => q2 (by rw [hlen] at z; exact z.2)⟩⟩
    obtain ⟨j, hj, rfl⟩ := (show isS i t from ⟨q, q2⟩).ix (by omega)
    simp (disch := omega) only [g0M, g1M, g2M, g3M, g4M, g5M, g6M, g7M, g8M, g9M, g10M, g11M, g12M, g13M, g14M, g15M, g16M, g17M, g18M, g19M, g20M, g21M, g22M, p0M, p1M, p16M, p17M, p18M, p19M, p20M, p21M, p22M, r2M A, r3M A, r4M A, r5M A, r6M A, r7M A, r8M A, r9M A, r10M A, r11M A, r12M A, r13M A, r14M A, r15M A, w2M A, w3M A, w4M A, w5M A, w6M A, w7M A, w8M A, w9M A, w10M A, w11M A, w12M A, w13M A, w14M A, w15M A, Mw_o, true_and, Option.some.injEq, Value.ref.injEq, Value.int.injEq, Value.long.injEq, exists_eq_left', setI_f, setI_n, setL_f, setL_n, upd_s, updL_s, pk_mul, nI_add, nI_sub1, nI01, neg_not, neg1_lt, not_true_eq_false, not_false_eq_true, false_implies, true_implies, implies_true, and_true, true_and, eq_self, ref22s, ref22n, ref00, refN, tch_n]
    exact ⟨_, rfl, mRd.rf (by decide) (Or.inr ⟨hst, Or.inr ⟨rfl, j, by rw [hlen]; exact hj, rfl, by rw [hlk, getD_mr hj]⟩⟩)⟩
  | none =>
    have hp1 : (-nI 1 : Int32) < nI 0 := neg1_lt
    simp (disch := omega) only [g0M, g1M, g2M, g3M, g4M, g5M, g6M, g7M, g8M, g9M, g10M, g11M, g12M, g13M, g14M, g15M, g16M, g17M, g18M, g19M, g20M, g21M, g22M, p0M, p1M, p16M, p17M, p18M, p19M, p20M, p21M, p22M, r2M A, r3M A, r4M A, r5M A, r6M A, r7M A, r8M A, r9M A, r10M A, r11M A, r12M A, r13M A, r14M A, r15M A, w2M A, w3M A, w4M A, w5M A, w6M A, w7M A, w8M A, w9M A, w10M A, w11M A, w12M A, w13M A, w14M A, w15M A, Mw_o, true_and, Option.some.injEq, Value.ref.injEq, Value.int.injEq, Value.long.injEq, exists_eq_left', setI_f, setI_n, setL_f, setL_n, upd_s, updL_s, pk_mul, nI_add, nI_sub1, nI01, neg_not, neg1_lt, not_true_eq_false, not_false_eq_true, false_implies, true_implies, implies_true, and_true, true_and, eq_self, ref22s, ref22n, ref00, refN, tch_n, hp1]
    refine F _ fun z => ?_
    rw [lk_m_n hfd] at z
    exact Int32.not_le.mpr z.2 (Int32.not_lt.mp z.1)
theorem sp_mMember {i : Int32} (htr : l.stackTraces = false) (A : AM m am) (v : MV I L sm n) :
    mX4_member l K [.ref m, .int s, .int i] (Mw K m am I L h) (kL fun r h' => mRd K m am I L h (XRd (St sm (I 3) (I 4) (I 19 0) s (nI 2) (nI 2) 0) 1 (¬ isS i (lk s (L 20 0) (I 21 0) (mLst I L 0 n)).2.2.2.2.1.length) (∃ j, j < (lk s (L 20 0) (I 21 0) (mLst I L 0 n)).2.2.2.2.1.length ∧ i = nI j ∧ r = (lk s (L 20 0) (I 21 0) (mLst I L 0 n)).2.2.2.2.1.getD j 0)) h') := by
  obtain ⟨v1, v2, v3, v4, v5, v6, v7, v8⟩ := v
  refine fX4_member htr ⟨⟨_, Mw_m⟩, ?_⟩
  refine (sp_mRefused htr A v1 v2 v3 v4).I ?_
  rintro r h' ⟨c, hc4, hst, hr, rfl⟩
  refine ⟨fun q => ?_, fun q => ⟨_, rfl, mRd.rf (by omega) (Or.inl ⟨Nat.pos_of_ne_zero fun z => q (hr.mpr z), hc4, hst⟩)⟩⟩
  have := hr.mp q
  subst this
  obtain ⟨i9, hi, rfl, hkd, -, -⟩ := hst.ix
  have F : ∀ (o : Option Nat), ¬ isS i (lk (nI i9) (L 20 0) (I 21 0) (mLst I L 0 n)).2.2.2.2.1.length → mX4_fails l K [.ref m, .int (nI 1)] (Mw K m am (refI I 0 o) L h) (kI fun v_5 h_4 => kL (fun r h' => mRd K m am I L h (XRd (St sm (I 3) (I 4) (I 19 0) (nI i9) (nI 2) (nI 2) 0) 1 (¬ isS i (lk (nI i9) (L 20 0) (I 21 0) (mLst I L 0 n)).2.2.2.2.1.length) (∃ j, j < (lk (nI i9) (L 20 0) (I 21 0) (mLst I L 0 n)).2.2.2.2.1.length ∧ i = nI j ∧ r = (lk (nI i9) (L 20 0) (I 21 0) (mLst I L 0 n)).2.2.2.2.1.getD j 0)) h') (.inl (some (.long v_5.toInt64))) h_4) := fun o hN => by
    refine (sp_mFails htr).I ?_
    rintro r h' ⟨rfl, rfl⟩
    exact ⟨_, rfl, mRd.fl (by decide) (Or.inr ⟨hst, Or.inl ⟨rfl, hN⟩⟩)⟩
  cases hfd : fdM I L 0 n (nI i9) (L 20 0) (I 21 0) with
  | some e =>
    obtain ⟨e', he', hee, f7, f8, f9⟩ := fdM_some hfd
    have : e' = e := by omega
    subst this
    have hp0 : ¬ nI e' < nI 0 := nI_pos (by omega)
    obtain ⟨st, hst9, s7, tk⟩ := v5 e' he'
    have hsti : st = i9 := (nI_eq (by omega) (by omega)).mp (s7.symm.trans f7)
    subst hsti
    simp only [Nat.mul_zero, Nat.zero_add] at tk
    obtain ⟨t, t10, t0, tb, -⟩ := tk (by rcases hkd with z | z <;> rw [z] <;> decide)
    have hk := kdE_st f7 (show st < 1000 by omega)
    have hlk : (lk (nI st) (L 20 0) (I 21 0) (mLst I L 0 n)).2.2.2.2.1 = (List.range t).map (fun i => L 12 (10 * e' + i)) := by
      rw [lk_m_s hfd]
      rcases hkd with z | z
      · rw [mEv_2 (hk.trans z) t10 (by omega)]
      · rw [mEv_2 (hk.trans z) t10 (by omega)]
    have hlen : (lk (nI st) (L 20 0) (I 21 0) (mLst I L 0 n)).2.2.2.2.1.length = t := by rw [hlk]; simp
    simp (disch := omega) only [g0M, g1M, g2M, g3M, g4M, g5M, g6M, g7M, g8M, g9M, g10M, g11M, g12M, g13M, g14M, g15M, g16M, g17M, g18M, g19M, g20M, g21M, g22M, p0M, p1M, p16M, p17M, p18M, p19M, p20M, p21M, p22M, r2M A, r3M A, r4M A, r5M A, r6M A, r7M A, r8M A, r9M A, r10M A, r11M A, r12M A, r13M A, r14M A, r15M A, w2M A, w3M A, w4M A, w5M A, w6M A, w7M A, w8M A, w9M A, w10M A, w11M A, w12M A, w13M A, w14M A, w15M A, Mw_o, true_and, Option.some.injEq, Value.ref.injEq, Value.int.injEq, Value.long.injEq, exists_eq_left', setI_f, setI_n, setL_f, setL_n, upd_s, updL_s, pk_mul, nI_add, nI_sub1, nI01, neg_not, neg1_lt, not_true_eq_false, not_false_eq_true, false_implies, true_implies, implies_true, and_true, true_and, eq_self, ref22s, ref22n, ref00, refN, tch_n, hp0, t10]
    refine ⟨fun q => F _ fun z => z.1 q, fun q => ⟨fun q2 => ?_, fun q2 => F _ fun z => q2 (by rw [hlen] at z; exact z.2)⟩⟩
    obtain ⟨j, hj, rfl⟩ := (show isS i t from ⟨q, q2⟩).ix (by omega)
    simp (disch := omega) only [g0M, g1M, g2M, g3M, g4M, g5M, g6M, g7M, g8M, g9M, g10M, g11M, g12M, g13M, g14M, g15M, g16M, g17M, g18M, g19M, g20M, g21M, g22M, p0M, p1M, p16M, p17M, p18M, p19M, p20M, p21M, p22M, r2M A, r3M A, r4M A, r5M A, r6M A, r7M A, r8M A, r9M A, r10M A, r11M A, r12M A, r13M A, r14M A, r15M A, w2M A, w3M A, w4M A, w5M A, w6M A, w7M A, w8M A, w9M A, w10M A, w11M A, w12M A, w13M A, w14M A, w15M A, Mw_o, true_and, Option.some.injEq, Value.ref.injEq, Value.int.injEq, Value.long.injEq, exists_eq_left', setI_f, setI_n, setL_f, setL_n, upd_s, updL_s, pk_mul, nI_add, nI_sub1, nI01, neg_not, neg1_lt, not_true_eq_false, not_false_eq_true, false_implies, true_implies, implies_true, and_true, true_and, eq_self, ref22s, ref22n, ref00, refN, tch_n]
    exact ⟨_, rfl, mRd.rf (by decide) (Or.inr ⟨hst, Or.inr ⟨rfl, j, by rw [hlen]; exact hj, rfl, by rw [hlk, getD_mr hj]⟩⟩)⟩
  | none =>
    have hp1 : (-nI 1 : Int32) < nI 0 := neg1_lt
    simp (disch := omega) only [g0M, g1M, g2M, g3M, g4M, g5M, g6M, g7M, g8M, g9M, g10M, g11M, g12M, g13M, g14M, g15M, g16M, g17M, g18M, g19M, g20M, g21M, g22M, p0M, p1M, p16M, p17M, p18M, p19M, p20M, p21M, p22M, r2M A, r3M A, r4M A, r5M A, r6M A, r7M A, r8M A, r9M A, r10M A, r11M A, r12M A, r13M A, r14M A, r15M A, w2M A, w3M A, w4M A, w5M A, w6M A, w7M A, w8M A, w9M A, w10M A, w11M A, w12M A, w13M A, w14M A, w15M A, Mw_o, true_and, Option.some.injEq, Value.ref.injEq, Value.int.injEq, Value.long.injEq, exists_eq_left', setI_f, setI_n, setL_f, setL_n, upd_s, updL_s, pk_mul, nI_add, nI_sub1, nI01, neg_not, neg1_lt, not_true_eq_false, not_false_eq_true, false_implies, true_implies, implies_true, and_true, true_and, eq_self, ref22s, ref22n, ref00, refN, tch_n, hp1]
    refine F _ fun z => ?_
    rw [lk_m_n hfd] at z
    exact Int32.not_le.mpr z.2 (Int32.not_lt.mp z.1)
theorem sp_mSize (htr : l.stackTraces = false) (A : AM m am) (v : MV I L sm n) :
    mX4_size l K [.ref m, .int s] (Mw K m am I L h) (kI fun r h' => mRd K m am I L h (fun c => (0 < c ∧ c < 3 ∧ Sk sm (I 19 0) s c) ∨ (c = 0 ∧ Sk sm (I 19 0) s 0 ∧ ∃ i, i < sm ∧ s = nI i ∧ r = if I 3 i = nI 3 then (lk s (L 20 0) (I 21 0) (mLst I L 0 n)).2.2.2.2.2 else nI (lk s (L 20 0) (I 21 0) (mLst I L 0 n)).2.2.2.1.length)) h') := by
  obtain ⟨v1, v2, v3, v4, v5, v6, v7, v8⟩ := v
  refine fX4_size htr ⟨⟨_, Mw_m⟩, ?_⟩
  refine (sp_mLacks htr A v1 v3 v4).I ?_
  rintro r h' ⟨c, hc4, hst, hr, rfl⟩
  refine ⟨fun q => ⟨_, rfl, mRd.rf (by omega) (Or.inl ⟨Nat.pos_of_ne_zero fun z => q (hr.mpr z), hc4, hst⟩)⟩, fun q => ?_⟩
  have := hr.mp q
  subst this
  have hS : isS s sm := by
    rcases hst with ⟨z, _⟩ | ⟨z, _⟩
    · cases z
    · exact z
  obtain ⟨i, hi, rfl⟩ := hS.ix (by omega)
  cases hfd : fdM I L 0 n (nI i) (L 20 0) (I 21 0) with
  | some e =>
    obtain ⟨e', he', hee, f7, f8, f9⟩ := fdM_some hfd
    have : e' = e := by omega
    subst this
    have hp0 : nI 0 ≤ nI e' := nonneg (by omega)
    simp (disch := omega) only [g0M, g1M, g2M, g3M, g4M, g5M, g6M, g7M, g8M, g9M, g10M, g11M, g12M, g13M, g14M, g15M, g16M, g17M, g18M, g19M, g20M, g21M, g22M, p0M, p1M, p16M, p17M, p18M, p19M, p20M, p21M, p22M, r2M A, r3M A, r4M A, r5M A, r6M A, r7M A, r8M A, r9M A, r10M A, r11M A, r12M A, r13M A, r14M A, r15M A, w2M A, w3M A, w4M A, w5M A, w6M A, w7M A, w8M A, w9M A, w10M A, w11M A, w12M A, w13M A, w14M A, w15M A, Mw_o, true_and, Option.some.injEq, Value.ref.injEq, Value.int.injEq, Value.long.injEq, exists_eq_left', setI_f, setI_n, setL_f, setL_n, upd_s, updL_s, pk_mul, nI_add, nI_sub1, nI01, neg_not, neg1_lt, not_true_eq_false, not_false_eq_true, false_implies, true_implies, implies_true, and_true, true_and, eq_self, ref22s, ref22n, ref00, refN, tch_n, hp0]
    refine ⟨_, rfl, mRd.rf (by decide) (Or.inr ⟨rfl, hst, i, hi, rfl, ?_⟩)⟩
    obtain ⟨st, hst9, s7, tk⟩ := v5 e' he'
    have hsti : st = i := (nI_eq (by omega) (by omega)).mp (s7.symm.trans f7)
    subst hsti
    simp only [Nat.mul_zero, Nat.zero_add] at tk
    have hk := kdE_st f7 (show st < 1000 by omega)
    rw [lk_m_s hfd]
    split
    · rename_i z
      rw [mEv_3 (hk.trans z)]
    · rename_i z
      obtain ⟨t, t10, t0, tb, tv⟩ := tk z
      rw [t10]
      obtain ⟨k, k4, hk4⟩ := v8 st hi
      match k, k4 with
      | 0, _ => rw [mEv_0 (hk.trans hk4), tv hk4]; rfl
      | 1, _ => rw [mEv_1 (hk.trans hk4) t10 (by omega)]; simp
      | 2, _ => rw [mEv_2 (hk.trans hk4) t10 (by omega)]; simp
      | 3, _ => exact absurd hk4 z
  | none =>
    simp (disch := omega) only [g0M, g1M, g2M, g3M, g4M, g5M, g6M, g7M, g8M, g9M, g10M, g11M, g12M, g13M, g14M, g15M, g16M, g17M, g18M, g19M, g20M, g21M, g22M, p0M, p1M, p16M, p17M, p18M, p19M, p20M, p21M, p22M, r2M A, r3M A, r4M A, r5M A, r6M A, r7M A, r8M A, r9M A, r10M A, r11M A, r12M A, r13M A, r14M A, r15M A, w2M A, w3M A, w4M A, w5M A, w6M A, w7M A, w8M A, w9M A, w10M A, w11M A, w12M A, w13M A, w14M A, w15M A, Mw_o, true_and, Option.some.injEq, Value.ref.injEq, Value.int.injEq, Value.long.injEq, exists_eq_left', setI_f, setI_n, setL_f, setL_n, upd_s, updL_s, pk_mul, nI_add, nI_sub1, nI01, neg_not, neg1_lt, not_true_eq_false, not_false_eq_true, false_implies, true_implies, implies_true, and_true, true_and, eq_self, ref22s, ref22n, ref00, refN, tch_n]
    refine ⟨_, rfl, mRd.rf (by decide) (Or.inr ⟨rfl, hst, i, hi, rfl, ?_⟩)⟩
    rw [lk_m_n hfd]
    split <;> rfl
theorem sp_mGet {x : Int64} (htr : l.stackTraces = false) (A : AM m am) (v : MV I L sm n) :
    mX4_get l K [.ref m, .int s, .long x] (Mw K m am I L h) (kL fun r h' => mRd K m am I L h (XRd (St sm (I 3) (I 4) (I 19 0) s (nI 2) (nI 2) 0) 4 (∃ j, plm (lk s (L 20 0) (I 21 0) (mLst I L 0 n)) x j ∧ ¬ hasM (lk s (L 20 0) (I 21 0) (mLst I L 0 n)) x j) (∃ j, plm (lk s (L 20 0) (I 21 0) (mLst I L 0 n)) x j ∧ hasM (lk s (L 20 0) (I 21 0) (mLst I L 0 n)) x j ∧ r = (lk s (L 20 0) (I 21 0) (mLst I L 0 n)).2.2.2.1.getD j 0)) h') := by
  obtain ⟨v1, v2, v3, v4, v5, v6, v7, v8⟩ := v
  refine fX4_get htr ⟨⟨_, Mw_m⟩, ?_⟩
  refine (sp_mRefused htr A v1 v2 v3 v4).I ?_
  rintro r h' ⟨c, hc4, hst, hr, rfl⟩
  refine ⟨fun q => ?_, fun q => ⟨_, rfl, mRd.rf (by omega) (Or.inl ⟨Nat.pos_of_ne_zero fun z => q (hr.mpr z), hc4, hst⟩)⟩⟩
  have := hr.mp q
  subst this
  obtain ⟨i9, hi, rfl, hkd, -, -⟩ := hst.ix
  have hkd : I 3 i9 = nI 2 := hkd.elim id id
  cases hfd : fdM I L 0 n (nI i9) (L 20 0) (I 21 0) with
  | some e =>
    obtain ⟨e', he', hee, f7, f8, f9⟩ := fdM_some hfd
    have : e' = e := by omega
    subst this
    obtain ⟨st, hst9, s7, tk⟩ := v5 e' he'
    have hsti : st = i9 := (nI_eq (by omega) (by omega)).mp (s7.symm.trans f7)
    subst hsti
    simp only [Nat.mul_zero, Nat.zero_add] at tk
    obtain ⟨t, t10, t0, tb, -⟩ := tk (by rw [hkd]; decide)
    have hev := mEv_2 (L := L) ((kdE_st f7 (show st < 1000 by omega)).trans hkd) t10 (by omega)
    have r10 : refI I 0 (some e') 10 e' = nI t := by rw [refN (by decide) (by decide)]; exact t10
    refine ⟨_, g22M, ⟨_, Mw_m⟩, ?_⟩
    rw [ref22s, lk_m_s hfd, hev]
    refine (sp_mHas htr A (by omega) r10 tb).I ?_
    rintro r h' ⟨⟨j, hj, z⟩, rfl⟩
    rcases z with ⟨rfl, z1, z2⟩ | ⟨rfl, z⟩
    · refine ⟨fun q => absurd q nI01, fun _ => ?_⟩
      refine ⟨_, g11M, _, g22M, _, g22M, ⟨_, Mw_m⟩, ?_⟩
      rw [ref22s]
      refine (sp_mPlaceOf htr A (by omega) r10 tb).I ?_
      rintro r h' ⟨⟨j', rfl, hj'⟩, rfl⟩
      have hjj : j' = j := by
        have a1 := cbR_plc (R := (List.range t).map (fun i => L 12 (10 * e' + i))) (f := fun i => L 12 (10 * e' + i)) (x := x) (j := j') (fun i hi => by rw [getD_mr (by simpa using hi)]) (by simpa using hj')
        have a2 := cbR_plc (R := (List.range t).map (fun i => L 12 (10 * e' + i))) (f := fun i => L 12 (10 * e' + i)) (x := x) (j := j) (fun i hi => by rw [getD_mr (by simpa using hi)]) (by simpa using hj)
        rw [a1, a2]
      subst hjj
      simp (disch := omega) only [g0M, g1M, g2M, g3M, g4M, g5M, g6M, g7M, g8M, g9M, g10M, g11M, g12M, g13M, g14M, g15M, g16M, g17M, g18M, g19M, g20M, g21M, g22M, p0M, p1M, p16M, p17M, p18M, p19M, p20M, p21M, p22M, r2M A, r3M A, r4M A, r5M A, r6M A, r7M A, r8M A, r9M A, r10M A, r11M A, r12M A, r13M A, r14M A, r15M A, w2M A, w3M A, w4M A, w5M A, w6M A, w7M A, w8M A, w9M A, w10M A, w11M A, w12M A, w13M A, w14M A, w15M A, Mw_o, true_and, Option.some.injEq, Value.ref.injEq, Value.int.injEq, Value.long.injEq, exists_eq_left', setI_f, setI_n, setL_f, setL_n, upd_s, updL_s, pk_mul, nI_add, nI_sub1, nI01, neg_not, neg1_lt, not_true_eq_false, not_false_eq_true, false_implies, true_implies, implies_true, and_true, true_and, eq_self, ref22s, ref22n, ref00, refN, tch_n]
      exact ⟨_, rfl, mRd.rf (by decide) (Or.inr ⟨hst, Or.inr ⟨rfl, j', plm_m hj, has_m.mpr ⟨z1, z2⟩, by rw [getD_mr z1]⟩⟩)⟩
    · refine ⟨fun _ => ⟨⟨_, Mw_m⟩, ?_⟩, fun q => absurd rfl q⟩
      refine (sp_mFails htr).I ?_
      rintro r h' ⟨rfl, rfl⟩
      exact ⟨_, rfl, mRd.fl (by decide) (Or.inr ⟨hst, Or.inl ⟨rfl, j, plm_m hj, fun y => z (has_m.mp y)⟩⟩)⟩
  | none =>
    refine ⟨_, g22M, ⟨_, Mw_m⟩, ?_⟩
    rw [ref22n, lk_m_n hfd]
    refine (sp_mHasN htr).I ?_
    rintro r h' ⟨rfl, rfl⟩
    refine ⟨fun _ => ⟨⟨_, Mw_m⟩, ?_⟩, fun q => absurd rfl q⟩
    refine (sp_mFails htr).I ?_
    rintro r h' ⟨rfl, rfl⟩
    exact ⟨_, rfl, mRd.fl (by decide) (Or.inr ⟨hst, Or.inl ⟨rfl, 0, plm_0, has_0⟩⟩)⟩
end Mod
