/-! ===== the reference: entries, ask ===== -/
section Mod
variable {l : Launch} {K : Kx} {m : Nat} {am : Nat → Nat} {I I' : MI} {L L' : ML} {h : Hp} {sm n : Nat} {s : Int32}
theorem sp_mEntries {x : Int32} {N : Nat → Nat} (htr : l.stackTraces = false) (A : AM m am) (hs : I 1 0 = nI sm) (h8 : sm ≤ 8) (hN : ∀ c, c < 7 → (c = 0 ∨ ¬ I 14 c = nI 0) → I 6 c = nI (N c) ∧ N c ≤ 150) :
    mX4_entries l K [.ref m, .int x, .int s] (Mw K m am I L h) (kI fun r h' => mRd K m am I L h (fun c => (c = 1 ∧ (¬ isS s sm ∨ mcn I x)) ∨ (c = 0 ∧ isS s sm ∧ ∃ cp, mcp I x cp ∧ r = nI ((mLst I L cp (N cp)).countP (fun v => decide (v.1 = s))))) h') := by
  refine fX4_entries htr ⟨_, p0M, ?_⟩
  have F : (¬ isS s sm ∨ mcn I x) → mX4_fails l K [.ref m, .int (nI 1)] (Mw K m am (setI I 0 0 (nI 0)) L h) (kI fun v_5 h_4 => kI (fun r h' => mRd K m am I L h (fun c => (c = 1 ∧ (¬ isS s sm ∨ mcn I x)) ∨ (c = 0 ∧ isS s sm ∧ ∃ cp, mcp I x cp ∧ r = nI ((mLst I L cp (N cp)).countP (fun v => decide (v.1 = s))))) h') (.inl (some (.int v_5))) h_4) := fun q => by
    refine (sp_mFails htr).I ?_
    rintro r h' ⟨rfl, rfl⟩
    exact ⟨_, rfl, mRd.zf (by decide) (Or.inl ⟨rfl, q⟩)⟩
  refine ⟨fun q => ⟨⟨_, Mw_m⟩, ?_⟩, fun q => ⟨⟨_, Mw_m⟩, ?_⟩⟩
  · refine (sp_mCopyOf htr A).I ?_
    rintro r h' ⟨z, rfl⟩
    refine ⟨⟨_, Mw_m⟩, ?_⟩
    refine (sp_mIsState (n := sm) htr (by rw [setI_n (by decide)]; exact hs)).I ?_
    rintro r2 h' ⟨z2, rfl⟩
    rcases z2 with ⟨rfl, hS⟩ | ⟨rfl, hS⟩
    · refine ⟨fun q => absurd q nI01, fun _ => ⟨fun y => absurd y q, fun _ => ?_⟩⟩
      simp only [setI_n (show 14 ≠ 0 by decide), setI_n (show 15 ≠ 0 by decide)] at z
      rcases z with ⟨j, hj, rfl, z1, z2⟩ | ⟨rfl, z⟩
      · refine ⟨fun _ => ?_, fun y => absurd ((nI_eq (by omega) (by omega)).mp y) (by omega)⟩
        have hc : mcp I x (j + 1) := Or.inr ⟨q, by omega, by omega, z1, z2⟩
        obtain ⟨hNc, hNb⟩ := hN (j + 1) (by omega) (Or.inr z1)
        intro X hX
        rw [show nI 150 * nI (j + 1) = nI (150 * (j + 1) + 0) from pk_mul 150 (j + 1)]
        refine loopN (n := N (j + 1)) (fun f => X (nI ((List.range f).countP (fun e => decide (I 7 (150 * (j + 1) + e) = s)))) (nI (150 * (j + 1) + f))) ?_ ?_ 0 (Nat.zero_le _)
        · refine hX _ _ ?_
          simp (disch := omega) only [g0M, g1M, g2M, g3M, g4M, g5M, g6M, g7M, g8M, g9M, g10M, g11M, g12M, g13M, g14M, g15M, g16M, g17M, g18M, g19M, g20M, g21M, g22M, p0M, p1M, p16M, p17M, p18M, p19M, p20M, p21M, p22M, r2M A, r3M A, r4M A, r5M A, r6M A, r7M A, r8M A, r9M A, r10M A, r11M A, r12M A, r13M A, r14M A, r15M A, w2M A, w3M A, w4M A, w5M A, w6M A, w7M A, w8M A, w9M A, w10M A, w11M A, w12M A, w13M A, w14M A, w15M A, Mw_o, true_and, Option.some.injEq, Value.ref.injEq, Value.int.injEq, Value.long.injEq, exists_eq_left', setI_f, setI_n, setL_f, setL_n, upd_s, updL_s, pk_mul, nI_add, nI_sub1, nI01, neg_not, neg1_lt, not_true_eq_false, not_false_eq_true, false_implies, true_implies, implies_true, and_true, true_and, eq_self, ref22s, ref22n, ref00, refN, tch_n, hNc]
          refine ⟨fun _ => ⟨_, rfl, mRd.zz (Or.inr ⟨rfl, hS, (j + 1), hc, ?_⟩)⟩, fun q => absurd (nI_le (Nat.le_refl _) (by omega)) q⟩
          rw [mLst_cnt]; rfl
        · intro f hf ih
          rw [List.range_succ, List.countP_append] at ih
          refine hX _ _ ?_
          have hlt : ¬ nI (150 * (j + 1) + N (j + 1)) ≤ nI (150 * (j + 1) + f) := nI_ge (by omega) (by omega)
          simp only [List.countP_cons, List.countP_nil, Nat.zero_add] at ih
          simp (disch := omega) only [g0M, g1M, g2M, g3M, g4M, g5M, g6M, g7M, g8M, g9M, g10M, g11M, g12M, g13M, g14M, g15M, g16M, g17M, g18M, g19M, g20M, g21M, g22M, p0M, p1M, p16M, p17M, p18M, p19M, p20M, p21M, p22M, r2M A, r3M A, r4M A, r5M A, r6M A, r7M A, r8M A, r9M A, r10M A, r11M A, r12M A, r13M A, r14M A, r15M A, w2M A, w3M A, w4M A, w5M A, w6M A, w7M A, w8M A, w9M A, w10M A, w11M A, w12M A, w13M A, w14M A, w15M A, Mw_o, true_and, Option.some.injEq, Value.ref.injEq, Value.int.injEq, Value.long.injEq, exists_eq_left', setI_f, setI_n, setL_f, setL_n, upd_s, updL_s, pk_mul, nI_add, nI_sub1, nI01, neg_not, neg1_lt, not_true_eq_false, not_false_eq_true, false_implies, true_implies, implies_true, and_true, true_and, eq_self, ref22s, ref22n, ref00, refN, tch_n, hNc, hlt]
          refine ⟨fun q => ?_, fun q => ?_⟩
          · simpa [q, Nat.add_assoc] using ih
          · simpa [q, Nat.add_assoc] using ih
      · exact ⟨fun y => absurd rfl y, fun _ => ⟨⟨_, Mw_m⟩, F (Or.inr ⟨q, z⟩)⟩⟩
    · exact ⟨fun _ => ⟨⟨_, Mw_m⟩, F (Or.inl hS)⟩, fun q => absurd rfl q⟩
  · refine (sp_mIsState (n := sm) htr (by rw [setI_n (by decide)]; exact hs)).I ?_
    rintro r2 h' ⟨z2, rfl⟩
    rcases z2 with ⟨rfl, hS⟩ | ⟨rfl, hS⟩
    · refine ⟨fun q => absurd q nI01, fun _ => ⟨fun _ => ?_, fun y => absurd q y⟩⟩
      have hc : mcp I x 0 := Or.inl ⟨q, rfl⟩
      obtain ⟨hNc, hNb⟩ := hN 0 (by omega) (Or.inl rfl)
      intro X hX
      rw [show nI 150 * nI 0 = nI (150 * 0 + 0) from pk_mul 150 0]
      refine loopN (n := N 0) (fun f => X (nI ((List.range f).countP (fun e => decide (I 7 (150 * 0 + e) = s)))) (nI (150 * 0 + f))) ?_ ?_ 0 (Nat.zero_le _)
      · refine hX _ _ ?_
        simp (disch := omega) only [g0M, g1M, g2M, g3M, g4M, g5M, g6M, g7M, g8M, g9M, g10M, g11M, g12M, g13M, g14M, g15M, g16M, g17M, g18M, g19M, g20M, g21M, g22M, p0M, p1M, p16M, p17M, p18M, p19M, p20M, p21M, p22M, r2M A, r3M A, r4M A, r5M A, r6M A, r7M A, r8M A, r9M A, r10M A, r11M A, r12M A, r13M A, r14M A, r15M A, w2M A, w3M A, w4M A, w5M A, w6M A, w7M A, w8M A, w9M A, w10M A, w11M A, w12M A, w13M A, w14M A, w15M A, Mw_o, true_and, Option.some.injEq, Value.ref.injEq, Value.int.injEq, Value.long.injEq, exists_eq_left', setI_f, setI_n, setL_f, setL_n, upd_s, updL_s, pk_mul, nI_add, nI_sub1, nI01, neg_not, neg1_lt, not_true_eq_false, not_false_eq_true, false_implies, true_implies, implies_true, and_true, true_and, eq_self, ref22s, ref22n, ref00, refN, tch_n, hNc]
        refine ⟨fun _ => ⟨_, rfl, mRd.zz (Or.inr ⟨rfl, hS, 0, hc, ?_⟩)⟩, fun q => absurd (nI_le (Nat.le_refl _) (by omega)) q⟩
        rw [mLst_cnt]; rfl
      · intro j hj ih
        rw [List.range_succ, List.countP_append] at ih
        refine hX _ _ ?_
        have hlt : ¬ nI (150 * 0 + N 0) ≤ nI (150 * 0 + j) := nI_ge (by omega) (by omega)
        simp only [List.countP_cons, List.countP_nil, Nat.zero_add] at ih
        simp (disch := omega) only [g0M, g1M, g2M, g3M, g4M, g5M, g6M, g7M, g8M, g9M, g10M, g11M, g12M, g13M, g14M, g15M, g16M, g17M, g18M, g19M, g20M, g21M, g22M, p0M, p1M, p16M, p17M, p18M, p19M, p20M, p21M, p22M, r2M A, r3M A, r4M A, r5M A, r6M A, r7M A, r8M A, r9M A, r10M A, r11M A, r12M A, r13M A, r14M A, r15M A, w2M A, w3M A, w4M A, w5M A, w6M A, w7M A, w8M A, w9M A, w10M A, w11M A, w12M A, w13M A, w14M A, w15M A, Mw_o, true_and, Option.some.injEq, Value.ref.injEq, Value.int.injEq, Value.long.injEq, exists_eq_left', setI_f, setI_n, setL_f, setL_n, upd_s, updL_s, pk_mul, nI_add, nI_sub1, nI01, neg_not, neg1_lt, not_true_eq_false, not_false_eq_true, false_implies, true_implies, implies_true, and_true, true_and, eq_self, ref22s, ref22n, ref00, refN, tch_n, hNc, hlt]
        refine ⟨fun q => ?_, fun q => ?_⟩
        · simp only [Nat.mul_zero, Nat.zero_add] at q ih ⊢; simpa [q] using ih
        · simp only [Nat.mul_zero, Nat.zero_add] at q ih ⊢; simpa [q] using ih
    · exact ⟨fun _ => ⟨⟨_, Mw_m⟩, F (Or.inl hS)⟩, fun q => absurd rfl q⟩
theorem sp_mAsk {x : Int32} {k : Int64} {sp i : Int32} {N S : Nat → Nat} (htr : l.stackTraces = false) (A : AM m am) (hs : I 1 0 = nI sm) (h8 : sm ≤ 8) (hN : ∀ c, c < 7 → (c = 0 ∨ ¬ I 14 c = nI 0) → I 6 c = nI (N c) ∧ N c ≤ 150) (hok : ∀ c, c < 7 → (c = 0 ∨ ¬ I 14 c = nI 0) → S c ≤ 8 ∧ (∀ i, i < S c → ∃ k, k < 4 ∧ I 3 (8 * c + i) = nI k) ∧ ∀ j, j < N c → eOk I c (S c) (150 * c + j)) :
    mX4_ask l K [.ref m, .int x, .int s, .long k, .int sp, .int i] (Mw K m am I L h) (kL fun r h' => mRd K m am I L h (fun c => (c = 1 ∧ (¬ isS s sm ∨ mcn I x)) ∨ (isS s sm ∧ ∃ cp, mcp I x cp ∧ ((c = 2 ∧ ¬ isS i (lk s k sp (mLst I L cp (N cp))).2.2.2.1.length) ∨ (c = 0 ∧ ∃ j, j < (lk s k sp (mLst I L cp (N cp))).2.2.2.1.length ∧ i = nI j ∧ r = (lk s k sp (mLst I L cp (N cp))).2.2.2.1.getD j 0)))) h') := by
  refine fX4_ask htr ⟨_, p0M, ?_⟩
  have F : (¬ isS s sm ∨ mcn I x) → mX4_fails l K [.ref m, .int (nI 1)] (Mw K m am (setI I 0 0 (nI 0)) L h) (kI fun v_5 h_4 => kL (fun r h' => mRd K m am I L h (fun c => (c = 1 ∧ (¬ isS s sm ∨ mcn I x)) ∨ (isS s sm ∧ ∃ cp, mcp I x cp ∧ ((c = 2 ∧ ¬ isS i (lk s k sp (mLst I L cp (N cp))).2.2.2.1.length) ∨ (c = 0 ∧ ∃ j, j < (lk s k sp (mLst I L cp (N cp))).2.2.2.1.length ∧ i = nI j ∧ r = (lk s k sp (mLst I L cp (N cp))).2.2.2.1.getD j 0)))) h') (.inl (some (.long v_5.toInt64))) h_4) := fun q => by
    refine (sp_mFails htr).I ?_
    rintro r h' ⟨rfl, rfl⟩
    exact ⟨_, rfl, mRd.zf (by decide) (Or.inl ⟨rfl, q⟩)⟩
  refine ⟨fun q => ⟨⟨_, Mw_m⟩, ?_⟩, fun q => ⟨⟨_, Mw_m⟩, ?_⟩⟩
  · refine (sp_mCopyOf htr A).I ?_
    rintro r h' ⟨z, rfl⟩
    refine ⟨⟨_, Mw_m⟩, ?_⟩
    refine (sp_mIsState (n := sm) htr (by rw [setI_n (by decide)]; exact hs)).I ?_
    rintro r2 h' ⟨z2, rfl⟩
    rcases z2 with ⟨rfl, hS⟩ | ⟨rfl, hS⟩
    · refine ⟨fun q => absurd q nI01, fun _ => ⟨fun y => absurd y q, fun _ => ?_⟩⟩
      have G : ∀ cp, mcp I x cp → ¬ isS i (lk s k sp (mLst I L cp (N cp))).2.2.2.1.length → mX4_fails l K [.ref m, .int (nI 2)] (Mw K m am (setI I 0 0 (nI 0)) L h) (kI fun v_5 h_4 => kL (fun r h' => mRd K m am I L h (fun c => (c = 1 ∧ (¬ isS s sm ∨ mcn I x)) ∨ (isS s sm ∧ ∃ cp, mcp I x cp ∧ ((c = 2 ∧ ¬ isS i (lk s k sp (mLst I L cp (N cp))).2.2.2.1.length) ∨ (c = 0 ∧ ∃ j, j < (lk s k sp (mLst I L cp (N cp))).2.2.2.1.length ∧ i = nI j ∧ r = (lk s k sp (mLst I L cp (N cp))).2.2.2.1.getD j 0)))) h') (.inl (some (.long v_5.toInt64))) h_4) := fun cp q1 q2 => by
        refine (sp_mFails htr).I ?_
        rintro r h' ⟨rfl, rfl⟩
        exact ⟨_, rfl, mRd.zf (by decide) (Or.inr ⟨hS, cp, q1, Or.inl ⟨rfl, q2⟩⟩)⟩
      simp only [setI_n (show 14 ≠ 0 by decide), setI_n (show 15 ≠ 0 by decide)] at z
      rcases z with ⟨j, hj, rfl, z1, z2⟩ | ⟨rfl, z⟩
      · refine ⟨fun _ => ⟨⟨_, Mw_m⟩, ?_⟩, fun y => absurd ((nI_eq (by omega) (by omega)).mp y) (by omega)⟩
        have hc : mcp I x (j + 1) := Or.inr ⟨q, by omega, by omega, z1, z2⟩
        obtain ⟨hNc, hNb⟩ := hN (j + 1) (by omega) (Or.inr z1)
        refine (sp_mFind htr A (by omega) (n := N (j + 1)) (by rw [setI_n (by decide)]; exact hNc) hNb).I ?_
        rintro r h' ⟨rfl, rfl⟩
        rw [fdM_c (I := I) (L := L) (by rw [setI_n (by decide)]) rfl (by rw [setI_n (by decide)])]
        cases hfd : fdM I L (j + 1) (N (j + 1)) s k sp with
        | none =>
          refine ⟨fun _ => ⟨⟨_, Mw_m⟩, G (j + 1) hc ?_⟩, fun y => absurd neg1_lt y⟩
          rw [lk_m_n hfd]
          exact fun z => Int32.not_le.mpr z.2 (Int32.not_lt.mp z.1)
        | some e =>
          obtain ⟨e', he', rfl, f7, f8, f9⟩ := fdM_some hfd
          obtain ⟨st, t, hst, s7, st2, snu, t0, tb⟩ := mEv_nu (L := L) (hok (j + 1) (by omega) (Or.inr z1)).1 (hok (j + 1) (by omega) (Or.inr z1)).2.1 ((hok (j + 1) (by omega) (Or.inr z1)).2.2 e' he')
          have h8c := (hok (j + 1) (by omega) (Or.inr z1)).1
          have hlen : (lk s k sp (mLst I L (j + 1) (N (j + 1)))).2.2.2.1.length = t := by rw [lk_m_s hfd, snu]; simp
          refine ⟨fun y => absurd y (nI_pos (by omega)), fun _ => ⟨fun y => ⟨⟨_, Mw_m⟩, G (j + 1) hc fun z => z.1 y⟩, fun y => ⟨⟨_, Mw_m⟩, ?_⟩⟩⟩
          refine (sp_mNumbersOf htr A (c := (j + 1)) (e := 150 * (j + 1) + e') (i := st) (by omega) (by omega) (by rw [setI_n (by decide)]; exact s7) (by omega)).I ?_
          rintro r h' ⟨rfl, rfl⟩
          rw [setI_n (by decide), setI_n (by decide), st2]
          refine ⟨fun y2 => ?_, fun y2 => ⟨⟨_, Mw_m⟩, G (j + 1) hc fun z => y2 (by rw [hlen] at z; exact z.2)⟩⟩
          obtain ⟨j9, hj9, rfl⟩ := (show isS i t from ⟨y, y2⟩).ix (by omega)
          show ∃ p_16, gf (Mw K m am (setI I 0 0 (nI 0)) L h) m 4 11 = some (.ref p_16) ∧ (∃ u_17, aJ K (Mw K m am (setI I 0 0 (nI 0)) L h) p_16 (((nI 10) * nI (150 * (j + 1) + e')) + nI j9) = some u_17 ∧ _)
          simp (disch := omega) only [g0M, g1M, g2M, g3M, g4M, g5M, g6M, g7M, g8M, g9M, g10M, g11M, g12M, g13M, g14M, g15M, g16M, g17M, g18M, g19M, g20M, g21M, g22M, p0M, p1M, p16M, p17M, p18M, p19M, p20M, p21M, p22M, r2M A, r3M A, r4M A, r5M A, r6M A, r7M A, r8M A, r9M A, r10M A, r11M A, r12M A, r13M A, r14M A, r15M A, w2M A, w3M A, w4M A, w5M A, w6M A, w7M A, w8M A, w9M A, w10M A, w11M A, w12M A, w13M A, w14M A, w15M A, Mw_o, true_and, Option.some.injEq, Value.ref.injEq, Value.int.injEq, Value.long.injEq, exists_eq_left', setI_f, setI_n, setL_f, setL_n, upd_s, updL_s, pk_mul, nI_add, nI_sub1, nI01, neg_not, neg1_lt, not_true_eq_false, not_false_eq_true, false_implies, true_implies, implies_true, and_true, true_and, eq_self, ref22s, ref22n, ref00, refN, tch_n]
          exact ⟨_, rfl, mRd.zz (Or.inr ⟨hS, (j + 1), hc, Or.inr ⟨rfl, j9, by rw [hlen]; exact hj9, rfl, by rw [lk_m_s hfd, snu, getD_mr hj9]⟩⟩)⟩
      · exact ⟨fun y => absurd rfl y, fun _ => ⟨⟨_, Mw_m⟩, F (Or.inr ⟨q, z⟩)⟩⟩
    · exact ⟨fun _ => ⟨⟨_, Mw_m⟩, F (Or.inl hS)⟩, fun q => absurd rfl q⟩
  · refine (sp_mIsState (n := sm) htr (by rw [setI_n (by decide)]; exact hs)).I ?_
    rintro r2 h' ⟨z2, rfl⟩
    rcases z2 with ⟨rfl, hS⟩ | ⟨rfl, hS⟩
    · refine ⟨fun q => absurd q nI01, fun _ => ⟨fun _ => ⟨⟨_, Mw_m⟩, ?_⟩, fun y => absurd q y⟩⟩
      have G : ∀ cp, mcp I x cp → ¬ isS i (lk s k sp (mLst I L cp (N cp))).2.2.2.1.length → mX4_fails l K [.ref m, .int (nI 2)] (Mw K m am (setI I 0 0 (nI 0)) L h) (kI fun v_5 h_4 => kL (fun r h' => mRd K m am I L h (fun c => (c = 1 ∧ (¬ isS s sm ∨ mcn I x)) ∨ (isS s sm ∧ ∃ cp, mcp I x cp ∧ ((c = 2 ∧ ¬ isS i (lk s k sp (mLst I L cp (N cp))).2.2.2.1.length) ∨ (c = 0 ∧ ∃ j, j < (lk s k sp (mLst I L cp (N cp))).2.2.2.1.length ∧ i = nI j ∧ r = (lk s k sp (mLst I L cp (N cp))).2.2.2.1.getD j 0)))) h') (.inl (some (.long v_5.toInt64))) h_4) := fun cp q1 q2 => by
        refine (sp_mFails htr).I ?_
        rintro r h' ⟨rfl, rfl⟩
        exact ⟨_, rfl, mRd.zf (by decide) (Or.inr ⟨hS, cp, q1, Or.inl ⟨rfl, q2⟩⟩)⟩
      have hc : mcp I x 0 := Or.inl ⟨q, rfl⟩
      obtain ⟨hNc, hNb⟩ := hN 0 (by omega) (Or.inl rfl)
      refine (sp_mFind htr A (by omega) (n := N 0) (by rw [setI_n (by decide)]; exact hNc) hNb).I ?_
      rintro r h' ⟨rfl, rfl⟩
      rw [fdM_c (I := I) (L := L) (by rw [setI_n (by decide)]) rfl (by rw [setI_n (by decide)])]
      cases hfd : fdM I L 0 (N 0) s k sp with
      | none =>
        refine ⟨fun _ => ⟨⟨_, Mw_m⟩, G 0 hc ?_⟩, fun y => absurd neg1_lt y⟩
        rw [lk_m_n hfd]
        exact fun z => Int32.not_le.mpr z.2 (Int32.not_lt.mp z.1)
      | some e =>
        obtain ⟨e', he', rfl, f7, f8, f9⟩ := fdM_some hfd
        obtain ⟨st, t, hst, s7, st2, snu, t0, tb⟩ := mEv_nu (L := L) (hok 0 (by omega) (Or.inl rfl)).1 (hok 0 (by omega) (Or.inl rfl)).2.1 ((hok 0 (by omega) (Or.inl rfl)).2.2 e' he')
        have h8c := (hok 0 (by omega) (Or.inl rfl)).1
        have hlen : (lk s k sp (mLst I L 0 (N 0))).2.2.2.1.length = t := by rw [lk_m_s hfd, snu]; simp
        refine ⟨fun y => absurd y (nI_pos (by omega)), fun _ => ⟨fun y => ⟨⟨_, Mw_m⟩, G 0 hc fun z => z.1 y⟩, fun y => ⟨⟨_, Mw_m⟩, ?_⟩⟩⟩
        refine (sp_mNumbersOf htr A (c := 0) (e := 150 * 0 + e') (i := st) (by omega) (by omega) (by rw [setI_n (by decide)]; exact s7) (by omega)).I ?_
        rintro r h' ⟨rfl, rfl⟩
        rw [setI_n (by decide), setI_n (by decide), st2]
        refine ⟨fun y2 => ?_, fun y2 => ⟨⟨_, Mw_m⟩, G 0 hc fun z => y2 (by rw [hlen] at z; exact z.2)⟩⟩
        obtain ⟨j9, hj9, rfl⟩ := (show isS i t from ⟨y, y2⟩).ix (by omega)
        show ∃ p_16, gf (Mw K m am (setI I 0 0 (nI 0)) L h) m 4 11 = some (.ref p_16) ∧ (∃ u_17, aJ K (Mw K m am (setI I 0 0 (nI 0)) L h) p_16 (((nI 10) * nI (150 * 0 + e')) + nI j9) = some u_17 ∧ _)
        simp (disch := omega) only [g0M, g1M, g2M, g3M, g4M, g5M, g6M, g7M, g8M, g9M, g10M, g11M, g12M, g13M, g14M, g15M, g16M, g17M, g18M, g19M, g20M, g21M, g22M, p0M, p1M, p16M, p17M, p18M, p19M, p20M, p21M, p22M, r2M A, r3M A, r4M A, r5M A, r6M A, r7M A, r8M A, r9M A, r10M A, r11M A, r12M A, r13M A, r14M A, r15M A, w2M A, w3M A, w4M A, w5M A, w6M A, w7M A, w8M A, w9M A, w10M A, w11M A, w12M A, w13M A, w14M A, w15M A, Mw_o, true_and, Option.some.injEq, Value.ref.injEq, Value.int.injEq, Value.long.injEq, exists_eq_left', setI_f, setI_n, setL_f, setL_n, upd_s, updL_s, pk_mul, nI_add, nI_sub1, nI01, neg_not, neg1_lt, not_true_eq_false, not_false_eq_true, false_implies, true_implies, implies_true, and_true, true_and, eq_self, ref22s, ref22n, ref00, refN, tch_n]
        exact ⟨_, rfl, mRd.zz (Or.inr ⟨hS, 0, hc, Or.inr ⟨rfl, j9, by rw [hlen]; exact hj9, rfl, by rw [lk_m_s hfd, snu, getD_mr hj9]⟩⟩)⟩
    · exact ⟨fun _ => ⟨⟨_, Mw_m⟩, F (Or.inl hS)⟩, fun q => absurd rfl q⟩
end Mod
