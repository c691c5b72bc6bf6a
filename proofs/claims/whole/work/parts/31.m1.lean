/-! ===== the reference: its small methods ===== -/
section Mod
variable {l : Launch} {K : Kx} {m : Nat} {am : Nat → Nat} {I I' : MI} {L L' : ML} {h : Hp}
theorem sp_mFits {kd ty : Int32} {x : Int64} (htr : l.stackTraces = false) : mX4_fits l K [.int kd, .int ty, .long x] h (kI fun r h' => (∃ d : Decidable (ft kd ty x), r = @bI (ft kd ty x) d) ∧ h' = h) := by
  refine fX4_fits htr ?_
  have d : Decidable (ft kd ty x) := Classical.propDecidable _
  have T : ft kd ty x → kI (fun r h' => (∃ d : Decidable (ft kd ty x), r = @bI (ft kd ty x) d) ∧ h' = h) (.inl (some (.int (nI 1)))) h := fun q => ⟨_, rfl, ⟨d, (bI_t q).symm⟩, rfl⟩
  have N : ¬ ft kd ty x → kI (fun r h' => (∃ d : Decidable (ft kd ty x), r = @bI (ft kd ty x) d) ∧ h' = h) (.inl (some (.int (nI 0)))) h := fun q => ⟨_, rfl, ⟨d, (bI_f q).symm⟩, rfl⟩
  have n1 : nI 0 ≠ nI 1 := fun h => nI01 h.symm
  refine ⟨fun h0 => T (Or.inl h0), fun h0 => ⟨fun h1 => T (Or.inr (Or.inl h1)), fun h1 => ⟨fun h2 => ⟨fun h3 => N ?_, fun h3 => T (Or.inr (Or.inr (Or.inr ⟨h1, h2, h3⟩)))⟩, fun h2 => ⟨fun h3 => N ?_, fun h3 => ⟨fun h4 => N ?_, fun h4 => T (Or.inr (Or.inr (Or.inl ⟨h2, h3, h4⟩)))⟩⟩⟩⟩⟩
  all_goals (unfold ft; grind)
theorem sp_mIsState {s : Int32} {n : Nat} (htr : l.stackTraces = false) (hn : I 1 0 = nI n) : mX4_isState l K [.ref m, .int s] (Mw K m am I L h) (kI fun r h' => ((r = nI 1 ∧ isS s n) ∨ (r = nI 0 ∧ ¬ isS s n)) ∧ h' = Mw K m am I L h) := by
  refine fX4_isState htr ⟨fun q => ⟨_, rfl, Or.inr ⟨rfl, fun z => z.1 q⟩, rfl⟩, fun q => ⟨_, g1M, fun q2 => ⟨_, rfl, Or.inr ⟨rfl, fun z => ?_⟩, rfl⟩, fun q2 => ⟨_, rfl, Or.inl ⟨rfl, q, ?_⟩, rfl⟩⟩⟩
  · rw [hn] at q2; exact Int32.not_lt.mpr q2 z.2
  · rw [hn] at q2; exact Int32.not_le.mp q2
/-- the entry of copy c at a place, if there is one -/
def fdM (I : MI) (L : ML) (c n : Nat) (s : Int32) (k : Int64) (sp : Int32) : Option Nat := ((List.range n).find? (fun i => decide (I 7 (150 * c + i) = s ∧ L 8 (150 * c + i) = k ∧ I 9 (150 * c + i) = sp))).map (150 * c + ·)
theorem sp_mFind {s : Int32} {k : Int64} {sp : Int32} {c n : Nat} (htr : l.stackTraces = false) (A : AM m am) (hc : c < 7) (hn : I 6 c = nI n) (hn2 : n ≤ 150) : mX4_find l K [.ref m, .int (nI c), .int s, .long k, .int sp] (Mw K m am I L h) (kI fun r h' => r = rowR (fdM I L c n s k sp) ∧ h' = Mw K m am I L h) := by
  refine fX4_find htr ?_
  intro X hX
  rw [pk_mul]
  refine loopN (n := n) (fun j => (∀ i, i < j → ¬ (I 7 (150 * c + i) = s ∧ L 8 (150 * c + i) = k ∧ I 9 (150 * c + i) = sp)) → X (nI (150 * c + j))) ?_ ?_ 0 (Nat.zero_le _) (fun i hi => absurd hi (Nat.not_lt_zero i))
  · intro hf
    refine hX _ ?_
    simp (disch := omega) only [g0M, g1M, g2M, g3M, g4M, g5M, g6M, g7M, g8M, g9M, g10M, g11M, g12M, g13M, g14M, g15M, g16M, g17M, g18M, g19M, g20M, g21M, g22M, p0M, p1M, p16M, p17M, p18M, p19M, p20M, p21M, p22M, r2M A, r3M A, r4M A, r5M A, r6M A, r7M A, r8M A, r9M A, r10M A, r11M A, r12M A, r13M A, r14M A, r15M A, w2M A, w3M A, w4M A, w5M A, w6M A, w7M A, w8M A, w9M A, w10M A, w11M A, w12M A, w13M A, w14M A, w15M A, Mw_o, true_and, Option.some.injEq, Value.ref.injEq, Value.int.injEq, Value.long.injEq, exists_eq_left', setI_f, setI_n, setL_f, setL_n, upd_s, updL_s, pk_mul, nI_add, nI_sub1, hn]
    refine ⟨fun _ => ⟨_, rfl, ?_, rfl⟩, fun q => absurd (nI_le (Nat.le_refl _) (by omega)) q⟩
    have : (List.range n).find? (fun i => decide (I 7 (150 * c + i) = s ∧ L 8 (150 * c + i) = k ∧ I 9 (150 * c + i) = sp)) = none := by
      rw [List.find?_eq_none]
      intro i hi
      simpa using hf i (List.mem_range.mp hi)
    rw [fdM, this]; rfl
  · intro j hj ih hf
    have next : ¬ (I 7 (150 * c + j) = s ∧ L 8 (150 * c + j) = k ∧ I 9 (150 * c + j) = sp) → X (nI (150 * c + j + 1)) := fun z => by
      refine ih fun i hi => ?_
      rcases Nat.lt_succ_iff_lt_or_eq.mp hi with y | rfl
      · exact hf i y
      · exact z
    refine hX _ ?_
    simp (disch := omega) only [g0M, g1M, g2M, g3M, g4M, g5M, g6M, g7M, g8M, g9M, g10M, g11M, g12M, g13M, g14M, g15M, g16M, g17M, g18M, g19M, g20M, g21M, g22M, p0M, p1M, p16M, p17M, p18M, p19M, p20M, p21M, p22M, r2M A, r3M A, r4M A, r5M A, r6M A, r7M A, r8M A, r9M A, r10M A, r11M A, r12M A, r13M A, r14M A, r15M A, w2M A, w3M A, w4M A, w5M A, w6M A, w7M A, w8M A, w9M A, w10M A, w11M A, w12M A, w13M A, w14M A, w15M A, Mw_o, true_and, Option.some.injEq, Value.ref.injEq, Value.int.injEq, Value.long.injEq, exists_eq_left', setI_f, setI_n, setL_f, setL_n, upd_s, updL_s, pk_mul, nI_add, nI_sub1, hn]
    refine ⟨fun q => absurd q (nI_ge (by omega) (by omega)), fun _ => ⟨fun q => next fun z => q z.1, fun q1 => ⟨fun q => next fun z => q z.2.1, fun q2 => ⟨fun q => next fun z => q z.2.2, fun q3 => ⟨_, rfl, ?_, rfl⟩⟩⟩⟩⟩
    have : (List.range n).find? (fun i => decide (I 7 (150 * c + i) = s ∧ L 8 (150 * c + i) = k ∧ I 9 (150 * c + i) = sp)) = some j := by
      rw [List.find?_range_eq_some]
      exact ⟨by simpa using ⟨q1, q2, q3⟩, List.mem_range.mpr hj, fun i hi => by simpa only [Bool.not_eq_true', decide_eq_false_iff_not] using hf i hi⟩
    rw [fdM, this]; rfl
theorem sp_mHere {s : Int32} {n : Nat} (htr : l.stackTraces = false) (A : AM m am) (hn : I 6 0 = nI n) (hn2 : n ≤ 150) : mX4_here l K [.ref m, .int s] (Mw K m am I L h) (kI fun r h' => r = rowR (fdM I L 0 n s (L 20 0) (I 21 0)) ∧ h' = Mw K m am I L h) := by
  refine fX4_here htr ?_
  simp only [g0M, g1M, g2M, g3M, g4M, g5M, g6M, g7M, g8M, g9M, g10M, g11M, g12M, g13M, g14M, g15M, g16M, g17M, g18M, g19M, g20M, g21M, g22M, p0M, p1M, p16M, p17M, p18M, p19M, p20M, p21M, p22M, r2M A, r3M A, r4M A, r5M A, r6M A, r7M A, r8M A, r9M A, r10M A, r11M A, r12M A, r13M A, r14M A, r15M A, w2M A, w3M A, w4M A, w5M A, w6M A, w7M A, w8M A, w9M A, w10M A, w11M A, w12M A, w13M A, w14M A, w15M A, Mw_o, true_and, Option.some.injEq, Value.ref.injEq, Value.int.injEq, Value.long.injEq, exists_eq_left', setI_f, setI_n, setL_f, setL_n, upd_s, updL_s, pk_mul, nI_add, nI_sub1]
  refine (sp_mFind htr A (by decide) hn hn2).I ?_
  rintro r h' ⟨rfl, rfl⟩
  exact ⟨_, rfl, rfl, rfl⟩
theorem fdM_c {I I' : MI} {L L' : ML} {c n : Nat} {s : Int32} {k : Int64} {sp : Int32} (h7 : I' 7 = I 7) (h8 : L' 8 = L 8) (h9 : I' 9 = I 9) : fdM I' L' c n s k sp = fdM I L c n s k sp := by
  simp only [fdM, h7, h8, h9]
/-- what the reference notes of a call: c what speaks against it, and where the entry is -/
def refI (I : MI) (c : Nat) (o : Option Nat) : MI := setI (setI I 0 0 (nI c)) 22 0 (if c = 0 then rowR o else -nI 1)
theorem mTailN {s : Int32} {c : Nat} {I0 : MI} {Post : Rs → Hp → Prop} (h0 : 0 < c) (h4 : c < 1000) (P : Post (.inl (some (.int (nI 1)))) (Mw K m am (setI I0 22 0 (-nI 1)) L h)) : ((¬nI c = nI 0 → (nI c ≤ nI 0 → Post (.inl (some (.int (nI 0)))) (Mw K m am (setI I0 22 0 (-nI 1)) L h)) ∧ (¬nI c ≤ nI 0 → Post (.inl (some (.int (nI 1)))) (Mw K m am (setI I0 22 0 (-nI 1)) L h))) ∧ (nI c = nI 0 → mX4_here l K [.ref m, .int s] (Mw K m am I0 L h) (kI fun v_17 h_16 => ∃ h_18, pf h_16 m 4 22 (.int v_17) = some h_18 ∧ ∃ v_19, gf h_18 m 4 0 = some (.int v_19) ∧ (v_19 ≤ nI 0 → Post (.inl (some (.int (nI 0)))) h_18) ∧ (¬v_19 ≤ nI 0 → Post (.inl (some (.int (nI 1)))) h_18)))) :=
  ⟨fun _ => ⟨fun q => absurd q (nI_ge h0 (by omega)), fun _ => P⟩, fun q => absurd ((nI_eq (by omega) (by omega)).mp q) (by omega)⟩
theorem setI_2 (I0 : MI) (f j : Nat) (a b : Int32) : setI (setI I0 f j a) f j b = setI I0 f j b := by
  funext g
  by_cases y : g = f
  · subst y
    rw [setI_f, setI_f, setI_f]
    funext i
    by_cases z : i = j
    · subst z; rw [upd_s, upd_s]
    · rw [upd_n z, upd_n z, upd_n z]
  · rw [setI_n y, setI_n y, setI_n y]
theorem sp_mRefused {s k1 k2 : Int32} {v : Int64} {n sm : Nat} (htr : l.stackTraces = false) (A : AM m am) (hs : I 1 0 = nI sm) (hsm : sm ≤ 8) (hn : I 6 0 = nI n) (hn2 : n ≤ 150) :
    mX4_isRefused l K [.ref m, .int s, .int k1, .int k2, .long v] (Mw K m am I L h) (kI fun r h' => ∃ c, c < 4 ∧ St sm (I 3) (I 4) (I 19 0) s k1 k2 v c ∧ (r = nI 0 ↔ c = 0) ∧ h' = Mw K m am (refI I c (fdM I L 0 n s (L 20 0) (I 21 0))) L h) := by
  refine fX4_isRefused htr ?_
  generalize hP : (kI fun r h' => ∃ c, c < 4 ∧ St sm (I 3) (I 4) (I 19 0) s k1 k2 v c ∧ (r = nI 0 ↔ c = 0) ∧ h' = Mw K m am (refI I c (fdM I L 0 n s (L 20 0) (I 21 0))) L h) = Post
  have pN : ∀ c, 0 < c → c < 4 → St sm (I 3) (I 4) (I 19 0) s k1 k2 v c → Post (.inl (some (.int (nI 1)))) (Mw K m am (setI (setI I 0 0 (nI c)) 22 0 (-nI 1)) L h) := fun c h0 h4 hst => by
    rw [← hP]
    exact ⟨_, rfl, c, h4, hst, ⟨fun z => absurd z nI01, fun z => by omega⟩, by rw [refI, if_neg (by omega)]⟩
  have p0 : St sm (I 3) (I 4) (I 19 0) s k1 k2 v 0 → Post (.inl (some (.int (nI 0)))) (Mw K m am (setI (setI I 0 0 (nI 0)) 22 0 (rowR (fdM I L 0 n s (L 20 0) (I 21 0)))) L h) := fun hst => by
    rw [← hP]
    exact ⟨_, rfl, 0, by decide, hst, ⟨fun _ => rfl, fun _ => rfl⟩, by rw [refI, if_pos rfl]⟩
  simp only [g0M, g1M, g2M, g3M, g4M, g5M, g6M, g7M, g8M, g9M, g10M, g11M, g12M, g13M, g14M, g15M, g16M, g17M, g18M, g19M, g20M, g21M, g22M, p0M, p1M, p16M, p17M, p18M, p19M, p20M, p21M, p22M, r2M A, r3M A, r4M A, r5M A, r6M A, r7M A, r8M A, r9M A, r10M A, r11M A, r12M A, r13M A, r14M A, r15M A, w2M A, w3M A, w4M A, w5M A, w6M A, w7M A, w8M A, w9M A, w10M A, w11M A, w12M A, w13M A, w14M A, w15M A, Mw_o, true_and, Option.some.injEq, Value.ref.injEq, Value.int.injEq, Value.long.injEq, exists_eq_left', setI_f, setI_n, setL_f, setL_n, upd_s, updL_s, pk_mul, nI_add, nI_sub1]
  refine (sp_mIsState (n := sm) htr (by rw [setI_n (by decide)]; exact hs)).I ?_
  rintro r h' ⟨z, rfl⟩
  rcases z with ⟨rfl, hS⟩ | ⟨rfl, hS⟩
  · obtain ⟨i, hi, rfl⟩ := hS.ix (by omega)
    refine ⟨fun _ => ?_, fun q => absurd q nI01⟩
    have hfit : ∀ (kk : I 3 i = k1 ∨ I 3 i = k2), mX4_fits l K [.int (I 3 i), .int (I 4 i), .long v] (Mw K m am (setI I 0 0 (nI 0)) L h) (kI fun r h' => (∃ d : Decidable (ft (I 3 i) (I 4 i) v), r = @bI (ft (I 3 i) (I 4 i) v) d) ∧ h' = (Mw K m am (setI I 0 0 (nI 0)) L h)) := fun _ => sp_mFits htr
    have go : ∀ (kk : I 3 i = k1 ∨ I 3 i = k2), mX4_fits l K [.int (I 3 i), .int (I 4 i), .long v] (Mw K m am (setI I 0 0 (nI 0)) L h) (kI fun v_11 h_10 => (¬v_11 = nI 0 → ∃ v_12, gf h_10 m 4 19 = some (.int v_12) ∧ (¬v_12 = nI 0 → ∃ v_13, gf h_10 m 4 0 = some (.int v_13) ∧ (¬v_13 = nI 0 → ∃ h_14, pf h_10 m 4 22 (.int (-nI 1)) = some h_14 ∧ ∃ v_15, gf h_14 m 4 0 = some (.int v_15) ∧ (v_15 ≤ nI 0 → Post (.inl (some (.int (nI 0)))) h_14) ∧ (¬v_15 ≤ nI 0 → Post (.inl (some (.int (nI 1)))) h_14)) ∧ (v_13 = nI 0 → (∃ fs, h_10 m = some (xO 4 fs)) ∧ mX4_here l K [.ref m, .int (nI i)] h_10 (kI fun v_17 h_16 => ∃ h_18, pf h_16 m 4 22 (.int v_17) = some h_18 ∧ ∃ v_19, gf h_18 m 4 0 = some (.int v_19) ∧ (v_19 ≤ nI 0 → Post (.inl (some (.int (nI 0)))) h_18) ∧ (¬v_19 ≤ nI 0 → Post (.inl (some (.int (nI 1)))) h_18)))) ∧ (v_12 = nI 0 → ∃ h_20, pf h_10 m 4 0 (.int (nI 3)) = some h_20 ∧ ∃ v_21, gf h_20 m 4 0 = some (.int v_21) ∧ (¬v_21 = nI 0 → ∃ h_22, pf h_20 m 4 22 (.int (-nI 1)) = some h_22 ∧ ∃ v_23, gf h_22 m 4 0 = some (.int v_23) ∧ (v_23 ≤ nI 0 → Post (.inl (some (.int (nI 0)))) h_22) ∧ (¬v_23 ≤ nI 0 → Post (.inl (some (.int (nI 1)))) h_22)) ∧ (v_21 = nI 0 → (∃ fs, h_20 m = some (xO 4 fs)) ∧ mX4_here l K [.ref m, .int (nI i)] h_20 (kI fun v_25 h_24 => ∃ h_26, pf h_24 m 4 22 (.int v_25) = some h_26 ∧ ∃ v_27, gf h_26 m 4 0 = some (.int v_27) ∧ (v_27 ≤ nI 0 → Post (.inl (some (.int (nI 0)))) h_26) ∧ (¬v_27 ≤ nI 0 → Post (.inl (some (.int (nI 1)))) h_26))))) ∧ (v_11 = nI 0 → ∃ h_28, pf h_10 m 4 0 (.int (nI 2)) = some h_28 ∧ ∃ v_29, gf h_28 m 4 0 = some (.int v_29) ∧ (¬v_29 = nI 0 → ∃ h_30, pf h_28 m 4 22 (.int (-nI 1)) = some h_30 ∧ ∃ v_31, gf h_30 m 4 0 = some (.int v_31) ∧ (v_31 ≤ nI 0 → Post (.inl (some (.int (nI 0)))) h_30) ∧ (¬v_31 ≤ nI 0 → Post (.inl (some (.int (nI 1)))) h_30)) ∧ (v_29 = nI 0 → (∃ fs, h_28 m = some (xO 4 fs)) ∧ mX4_here l K [.ref m, .int (nI i)] h_28 (kI fun v_33 h_32 => ∃ h_34, pf h_32 m 4 22 (.int v_33) = some h_34 ∧ ∃ v_35, gf h_34 m 4 0 = some (.int v_35) ∧ (v_35 ≤ nI 0 → Post (.inl (some (.int (nI 0)))) h_34) ∧ (¬v_35 ≤ nI 0 → Post (.inl (some (.int (nI 1)))) h_34))))) := fun kk => by
      refine (hfit kk).I ?_
      rintro r h' ⟨⟨d9, rfl⟩, rfl⟩
      refine ⟨fun q => ?_, fun q => ?_⟩
      · have hft : ft (I 3 i) (I 4 i) v := Classical.byContradiction fun z => q (bI_0.mpr z)
        simp (disch := omega) only [g0M, g1M, g2M, g3M, g4M, g5M, g6M, g7M, g8M, g9M, g10M, g11M, g12M, g13M, g14M, g15M, g16M, g17M, g18M, g19M, g20M, g21M, g22M, p0M, p1M, p16M, p17M, p18M, p19M, p20M, p21M, p22M, r2M A, r3M A, r4M A, r5M A, r6M A, r7M A, r8M A, r9M A, r10M A, r11M A, r12M A, r13M A, r14M A, r15M A, w2M A, w3M A, w4M A, w5M A, w6M A, w7M A, w8M A, w9M A, w10M A, w11M A, w12M A, w13M A, w14M A, w15M A, Mw_o, true_and, Option.some.injEq, Value.ref.injEq, Value.int.injEq, Value.long.injEq, exists_eq_left', setI_f, setI_n, setL_f, setL_n, upd_s, updL_s, pk_mul, nI_add, nI_sub1, setI_2]
        refine ⟨fun hk => ⟨fun q => absurd trivial q, fun _ => ?_⟩, fun hk => mTailN (by decide) (by decide) (pN 3 (by decide) (by decide) (Or.inr ⟨i, hi, rfl, Or.inr ⟨kk, hft, Or.inl ⟨rfl, hk⟩⟩⟩))⟩
        refine (sp_mHere htr A (by rw [setI_n (by decide)]; exact hn) hn2).I ?_
        rintro r h' ⟨rfl, rfl⟩
        rw [fdM_c (I := I) (L := L) (by rw [setI_n (by decide)]) rfl (by rw [setI_n (by decide)]), setI_n (by decide)]
        simp (disch := omega) only [g0M, g1M, g2M, g3M, g4M, g5M, g6M, g7M, g8M, g9M, g10M, g11M, g12M, g13M, g14M, g15M, g16M, g17M, g18M, g19M, g20M, g21M, g22M, p0M, p1M, p16M, p17M, p18M, p19M, p20M, p21M, p22M, r2M A, r3M A, r4M A, r5M A, r6M A, r7M A, r8M A, r9M A, r10M A, r11M A, r12M A, r13M A, r14M A, r15M A, w2M A, w3M A, w4M A, w5M A, w6M A, w7M A, w8M A, w9M A, w10M A, w11M A, w12M A, w13M A, w14M A, w15M A, Mw_o, true_and, Option.some.injEq, Value.ref.injEq, Value.int.injEq, Value.long.injEq, exists_eq_left', setI_f, setI_n, setL_f, setL_n, upd_s, updL_s, pk_mul, nI_add, nI_sub1]
        exact ⟨fun _ => p0 (Or.inr ⟨i, hi, rfl, Or.inr ⟨kk, hft, Or.inr ⟨rfl, hk⟩⟩⟩), fun q => absurd (nI_le (Nat.le_refl _) (by decide)) q⟩
      · simp (disch := omega) only [g0M, g1M, g2M, g3M, g4M, g5M, g6M, g7M, g8M, g9M, g10M, g11M, g12M, g13M, g14M, g15M, g16M, g17M, g18M, g19M, g20M, g21M, g22M, p0M, p1M, p16M, p17M, p18M, p19M, p20M, p21M, p22M, r2M A, r3M A, r4M A, r5M A, r6M A, r7M A, r8M A, r9M A, r10M A, r11M A, r12M A, r13M A, r14M A, r15M A, w2M A, w3M A, w4M A, w5M A, w6M A, w7M A, w8M A, w9M A, w10M A, w11M A, w12M A, w13M A, w14M A, w15M A, Mw_o, true_and, Option.some.injEq, Value.ref.injEq, Value.int.injEq, Value.long.injEq, exists_eq_left', setI_f, setI_n, setL_f, setL_n, upd_s, updL_s, pk_mul, nI_add, nI_sub1, setI_2]
        exact mTailN (by decide) (by decide) (pN 2 (by decide) (by decide) (Or.inr ⟨i, hi, rfl, Or.inl ⟨rfl, Or.inr (bI_0.mp q)⟩⟩))
    simp (disch := omega) only [g0M, g1M, g2M, g3M, g4M, g5M, g6M, g7M, g8M, g9M, g10M, g11M, g12M, g13M, g14M, g15M, g16M, g17M, g18M, g19M, g20M, g21M, g22M, p0M, p1M, p16M, p17M, p18M, p19M, p20M, p21M, p22M, r2M A, r3M A, r4M A, r5M A, r6M A, r7M A, r8M A, r9M A, r10M A, r11M A, r12M A, r13M A, r14M A, r15M A, w2M A, w3M A, w4M A, w5M A, w6M A, w7M A, w8M A, w9M A, w10M A, w11M A, w12M A, w13M A, w14M A, w15M A, Mw_o, true_and, Option.some.injEq, Value.ref.injEq, Value.int.injEq, Value.long.injEq, exists_eq_left', setI_f, setI_n, setL_f, setL_n, upd_s, updL_s, pk_mul, nI_add, nI_sub1, setI_2]
    refine ⟨fun q => go (Or.inl q), fun q => ⟨fun q2 => ?_, fun q2 => go (Or.inr q2)⟩⟩
    exact mTailN (by decide) (by decide) (pN 2 (by decide) (by decide) (Or.inr ⟨i, hi, rfl, Or.inl ⟨rfl, Or.inl ⟨q, q2⟩⟩⟩))
  · refine ⟨fun q => absurd rfl q, fun _ => ?_⟩
    simp (disch := omega) only [g0M, g1M, g2M, g3M, g4M, g5M, g6M, g7M, g8M, g9M, g10M, g11M, g12M, g13M, g14M, g15M, g16M, g17M, g18M, g19M, g20M, g21M, g22M, p0M, p1M, p16M, p17M, p18M, p19M, p20M, p21M, p22M, r2M A, r3M A, r4M A, r5M A, r6M A, r7M A, r8M A, r9M A, r10M A, r11M A, r12M A, r13M A, r14M A, r15M A, w2M A, w3M A, w4M A, w5M A, w6M A, w7M A, w8M A, w9M A, w10M A, w11M A, w12M A, w13M A, w14M A, w15M A, Mw_o, true_and, Option.some.injEq, Value.ref.injEq, Value.int.injEq, Value.long.injEq, exists_eq_left', setI_f, setI_n, setL_f, setL_n, upd_s, updL_s, pk_mul, nI_add, nI_sub1, setI_2]
    exact mTailN (by decide) (by decide) (pN 1 (by decide) (by decide) (Or.inl ⟨rfl, hS⟩))
theorem sp_mLacks {s : Int32} {n sm : Nat} (htr : l.stackTraces = false) (A : AM m am) (hs : I 1 0 = nI sm) (hn : I 6 0 = nI n) (hn2 : n ≤ 150) :
    mX4_lacks l K [.ref m, .int s] (Mw K m am I L h) (kI fun r h' => ∃ c, c < 3 ∧ Sk sm (I 19 0) s c ∧ (r = nI 0 ↔ c = 0) ∧ h' = Mw K m am (refI I c (fdM I L 0 n s (L 20 0) (I 21 0))) L h) := by
  refine fX4_lacks htr ?_
  generalize hP : (kI fun r h' => ∃ c, c < 3 ∧ Sk sm (I 19 0) s c ∧ (r = nI 0 ↔ c = 0) ∧ h' = Mw K m am (refI I c (fdM I L 0 n s (L 20 0) (I 21 0))) L h) = Post
  have pN : ∀ c, 0 < c → c < 3 → Sk sm (I 19 0) s c → Post (.inl (some (.int (nI 1)))) (Mw K m am (setI (setI I 0 0 (nI c)) 22 0 (-nI 1)) L h) := fun c h0 h4 hst => by
    rw [← hP]
    exact ⟨_, rfl, c, h4, hst, ⟨fun z => absurd z nI01, fun z => by omega⟩, by rw [refI, if_neg (by omega)]⟩
  have p0 : Sk sm (I 19 0) s 0 → Post (.inl (some (.int (nI 0)))) (Mw K m am (setI (setI I 0 0 (nI 0)) 22 0 (rowR (fdM I L 0 n s (L 20 0) (I 21 0)))) L h) := fun hst => by
    rw [← hP]
    exact ⟨_, rfl, 0, by decide, hst, ⟨fun _ => rfl, fun _ => rfl⟩, by rw [refI, if_pos rfl]⟩
  simp only [g0M, g1M, g2M, g3M, g4M, g5M, g6M, g7M, g8M, g9M, g10M, g11M, g12M, g13M, g14M, g15M, g16M, g17M, g18M, g19M, g20M, g21M, g22M, p0M, p1M, p16M, p17M, p18M, p19M, p20M, p21M, p22M, r2M A, r3M A, r4M A, r5M A, r6M A, r7M A, r8M A, r9M A, r10M A, r11M A, r12M A, r13M A, r14M A, r15M A, w2M A, w3M A, w4M A, w5M A, w6M A, w7M A, w8M A, w9M A, w10M A, w11M A, w12M A, w13M A, w14M A, w15M A, Mw_o, true_and, Option.some.injEq, Value.ref.injEq, Value.int.injEq, Value.long.injEq, exists_eq_left', setI_f, setI_n, setL_f, setL_n, upd_s, updL_s, pk_mul, nI_add, nI_sub1]
  refine (sp_mIsState (n := sm) htr hs).I ?_
  rintro r h' ⟨z, rfl⟩
  rcases z with ⟨rfl, hS⟩ | ⟨rfl, hS⟩
  · refine ⟨fun _ => ?_, fun q => absurd q nI01⟩
    simp (disch := omega) only [g0M, g1M, g2M, g3M, g4M, g5M, g6M, g7M, g8M, g9M, g10M, g11M, g12M, g13M, g14M, g15M, g16M, g17M, g18M, g19M, g20M, g21M, g22M, p0M, p1M, p16M, p17M, p18M, p19M, p20M, p21M, p22M, r2M A, r3M A, r4M A, r5M A, r6M A, r7M A, r8M A, r9M A, r10M A, r11M A, r12M A, r13M A, r14M A, r15M A, w2M A, w3M A, w4M A, w5M A, w6M A, w7M A, w8M A, w9M A, w10M A, w11M A, w12M A, w13M A, w14M A, w15M A, Mw_o, true_and, Option.some.injEq, Value.ref.injEq, Value.int.injEq, Value.long.injEq, exists_eq_left', setI_f, setI_n, setL_f, setL_n, upd_s, updL_s, pk_mul, nI_add, nI_sub1, setI_2]
    refine ⟨fun hk => ⟨fun q => absurd trivial q, fun _ => ?_⟩, fun hk => mTailN (by decide) (by decide) (pN 2 (by decide) (by decide) (Or.inr ⟨hS, Or.inl ⟨rfl, hk⟩⟩))⟩
    refine (sp_mHere htr A (by rw [setI_n (by decide)]; exact hn) hn2).I ?_
    rintro r h' ⟨rfl, rfl⟩
    rw [fdM_c (I := I) (L := L) (by rw [setI_n (by decide)]) rfl (by rw [setI_n (by decide)]), setI_n (by decide)]
    simp (disch := omega) only [g0M, g1M, g2M, g3M, g4M, g5M, g6M, g7M, g8M, g9M, g10M, g11M, g12M, g13M, g14M, g15M, g16M, g17M, g18M, g19M, g20M, g21M, g22M, p0M, p1M, p16M, p17M, p18M, p19M, p20M, p21M, p22M, r2M A, r3M A, r4M A, r5M A, r6M A, r7M A, r8M A, r9M A, r10M A, r11M A, r12M A, r13M A, r14M A, r15M A, w2M A, w3M A, w4M A, w5M A, w6M A, w7M A, w8M A, w9M A, w10M A, w11M A, w12M A, w13M A, w14M A, w15M A, Mw_o, true_and, Option.some.injEq, Value.ref.injEq, Value.int.injEq, Value.long.injEq, exists_eq_left', setI_f, setI_n, setL_f, setL_n, upd_s, updL_s, pk_mul, nI_add, nI_sub1]
    exact ⟨fun _ => p0 (Or.inr ⟨hS, Or.inr ⟨rfl, hk⟩⟩), fun q => absurd (nI_le (Nat.le_refl _) (by decide)) q⟩
  · refine ⟨fun q => absurd rfl q, fun _ => ?_⟩
    simp (disch := omega) only [g0M, g1M, g2M, g3M, g4M, g5M, g6M, g7M, g8M, g9M, g10M, g11M, g12M, g13M, g14M, g15M, g16M, g17M, g18M, g19M, g20M, g21M, g22M, p0M, p1M, p16M, p17M, p18M, p19M, p20M, p21M, p22M, r2M A, r3M A, r4M A, r5M A, r6M A, r7M A, r8M A, r9M A, r10M A, r11M A, r12M A, r13M A, r14M A, r15M A, w2M A, w3M A, w4M A, w5M A, w6M A, w7M A, w8M A, w9M A, w10M A, w11M A, w12M A, w13M A, w14M A, w15M A, Mw_o, true_and, Option.some.injEq, Value.ref.injEq, Value.int.injEq, Value.long.injEq, exists_eq_left', setI_f, setI_n, setL_f, setL_n, upd_s, updL_s, pk_mul, nI_add, nI_sub1, setI_2]
    exact mTailN (by decide) (by decide) (pN 1 (by decide) (by decide) (Or.inl ⟨rfl, hS⟩))
end Mod
