/-! ===== the reference: keyAt, entries, ask ===== -/
def rkM (s sp : Int32) (M : List EV) (w : EV) : Nat := M.countP (fun u => mk2 s sp u && decide (u.2.1 < w.2.1))
def mcp (I : MI) (n : Int32) (cp : Nat) : Prop := (n = -nI 1 ∧ cp = 0) ∨ (n ≠ -nI 1 ∧ 0 < cp ∧ cp < 7 ∧ ¬ I 14 cp = nI 0 ∧ I 15 cp = n)
def mcn (I : MI) (n : Int32) : Prop := n ≠ -nI 1 ∧ ∀ j, j < 6 → ¬ I 14 (j + 1) = nI 0 → I 15 (j + 1) ≠ n
/-- an entry's numbers -/
theorem mEv_nu {I : MI} {L : ML} {c n e : Nat} (hn : n ≤ 8) (hk : ∀ i, i < n → ∃ k, k < 4 ∧ I 3 (8 * c + i) = nI k) (ok : eOk I c n e) : ∃ i t, i < n ∧ I 7 e = nI i ∧ (if I 3 (8 * c + i) = nI 0 ∨ I 3 (8 * c + i) = nI 3 then nI 1 else I 10 e) = nI t ∧ (mEv I L c e).2.2.2.1 = (List.range t).map (fun j => L 11 (10 * e + j)) ∧ 0 < t ∧ t ≤ 10 := by
  obtain ⟨i, hi, e7, tk⟩ := ok
  obtain ⟨k, k4, hk4⟩ := hk i hi
  have hkd : kdE I c e = I 3 (8 * c + i) := by simp only [kdE, e7, nI_clamp (show i < 2 ^ 31 by omega)]
  refine ⟨i, ?_⟩
  match k, k4 with
  | 0, _ => exact ⟨1, hi, e7, by rw [if_pos (Or.inl hk4)], by rw [mEv_0 (hkd.trans hk4)]; simp [List.range_succ], by decide, by decide⟩
  | 1, _ =>
    obtain ⟨t, t10, t0, tb, -⟩ := tk (by rw [hk4]; decide)
    exact ⟨t, hi, e7, by rw [if_neg (by rw [hk4]; decide)]; exact t10, by rw [mEv_1 (hkd.trans hk4) t10 (by omega)], t0, tb⟩
  | 2, _ =>
    obtain ⟨t, t10, t0, tb, -⟩ := tk (by rw [hk4]; decide)
    exact ⟨t, hi, e7, by rw [if_neg (by rw [hk4]; decide)]; exact t10, by rw [mEv_2 (hkd.trans hk4) t10 (by omega)], t0, tb⟩
  | 3, _ => exact ⟨1, hi, e7, by rw [if_pos (Or.inr hk4)], by rw [mEv_3 (hkd.trans hk4)]; simp [List.range_succ], by decide, by decide⟩
section Mod
variable {l : Launch} {K : Kx} {m : Nat} {am : Nat → Nat} {I I' : MI} {L L' : ML} {h : Hp} {sm n : Nat} {s : Int32}
theorem sp_mKeyAt {i : Int32} (htr : l.stackTraces = false) (A : AM m am) (hs : I 1 0 = nI sm) (h8 : sm ≤ 8) (hn : I 6 0 = nI n) (hn2 : n ≤ 150) :
    mX4_keyAt l K [.ref m, .int s, .int i] (Mw K m am I L h) (kL fun r h' => mRd K m am I L h (fun c => (c = 1 ∧ (¬ isS s sm ∨ ∀ w ∈ mLst I L 0 n, mk2 s (I 21 0) w = true → nI (rkM s (I 21 0) (mLst I L 0 n) w) ≠ i)) ∨ (c = 0 ∧ isS s sm ∧ ∃ w ∈ mLst I L 0 n, mk2 s (I 21 0) w = true ∧ nI (rkM s (I 21 0) (mLst I L 0 n) w) = i ∧ r = w.2.1)) h') := by
  refine fX4_keyAt htr ⟨_, p0M, ?_⟩
  have ev : ∀ j, mEv I L 0 (150 * 0 + j) = mEv I L 0 j := fun j => by rw [Nat.mul_zero, Nat.zero_add]
  have mem : ∀ w, w ∈ mLst I L 0 n ↔ ∃ j, j < n ∧ mEv I L 0 j = w := fun w => by
    simp only [mLst, List.mem_map, List.mem_range, ev]
  have F : (¬ isS s sm ∨ ∀ w ∈ mLst I L 0 n, mk2 s (I 21 0) w = true → nI (rkM s (I 21 0) (mLst I L 0 n) w) ≠ i) → mX4_fails l K [.ref m, .int (nI 1)] (Mw K m am (setI I 0 0 (nI 0)) L h) (kI fun v_5 h_4 => kL (fun r h' => mRd K m am I L h (fun c => (c = 1 ∧ (¬ isS s sm ∨ ∀ w ∈ mLst I L 0 n, mk2 s (I 21 0) w = true → nI (rkM s (I 21 0) (mLst I L 0 n) w) ≠ i)) ∨ (c = 0 ∧ isS s sm ∧ ∃ w ∈ mLst I L 0 n, mk2 s (I 21 0) w = true ∧ nI (rkM s (I 21 0) (mLst I L 0 n) w) = i ∧ r = w.2.1)) h') (.inl (some (.long v_5.toInt64))) h_4) := fun q => by
    refine (sp_mFails htr).I ?_
    rintro r h' ⟨rfl, rfl⟩
    exact ⟨_, rfl, mRd.zf (by decide) (Or.inl ⟨rfl, q⟩)⟩
  intro X hX
  refine loopN (n := n) (fun j => (∀ e, e < j → mk2 s (I 21 0) (mEv I L 0 e) = true → nI (rkM s (I 21 0) (mLst I L 0 n) (mEv I L 0 e)) ≠ i) → X (nI j) (Mw K m am (setI I 0 0 (nI 0)) L h)) ?_ ?_ 0 (Nat.zero_le _) (fun i hi => absurd hi (Nat.not_lt_zero i))
  · intro hf
    refine hX _ _ ?_
    simp (disch := omega) only [g0M, g1M, g2M, g3M, g4M, g5M, g6M, g7M, g8M, g9M, g10M, g11M, g12M, g13M, g14M, g15M, g16M, g17M, g18M, g19M, g20M, g21M, g22M, p0M, p1M, p16M, p17M, p18M, p19M, p20M, p21M, p22M, r2M A, r3M A, r4M A, r5M A, r6M A, r7M A, r8M A, r9M A, r10M A, r11M A, r12M A, r13M A, r14M A, r15M A, w2M A, w3M A, w4M A, w5M A, w6M A, w7M A, w8M A, w9M A, w10M A, w11M A, w12M A, w13M A, w14M A, w15M A, Mw_o, true_and, Option.some.injEq, Value.ref.injEq, Value.int.injEq, Value.long.injEq, exists_eq_left', setI_f, setI_n, setL_f, setL_n, upd_s, updL_s, pk_mul, nI_add, nI_sub1, nI01, neg_not, neg1_lt, not_true_eq_false, not_false_eq_true, false_implies, true_implies, implies_true, and_true, true_and, eq_self, ref22s, ref22n, ref00, refN, tch_n, hn]
    refine ⟨fun _ => F (Or.inr fun w hw => ?_), fun q => absurd (nI_le (Nat.le_refl _) (by omega)) q⟩
    obtain ⟨j, hj, rfl⟩ := (mem w).mp hw
    exact hf j hj
  · intro j hj ih hf
    have next : (mk2 s (I 21 0) (mEv I L 0 j) = true → nI (rkM s (I 21 0) (mLst I L 0 n) (mEv I L 0 j)) ≠ i) → X (nI (j + 1)) (Mw K m am (setI I 0 0 (nI 0)) L h) := fun z => by
      refine ih fun e he => ?_
      rcases Nat.lt_succ_iff_lt_or_eq.mp he with y | rfl
      · exact hf e y
      · exact z
    refine hX _ _ ?_
    have hlt : ¬ nI n ≤ nI j := nI_ge hj (by omega)
    have hk2 : ∀ e, mk2 s (I 21 0) (mEv I L 0 e) = decide (I 7 e = s ∧ I 9 e = I 21 0) := fun e => rfl
    simp (disch := omega) only [g0M, g1M, g2M, g3M, g4M, g5M, g6M, g7M, g8M, g9M, g10M, g11M, g12M, g13M, g14M, g15M, g16M, g17M, g18M, g19M, g20M, g21M, g22M, p0M, p1M, p16M, p17M, p18M, p19M, p20M, p21M, p22M, r2M A, r3M A, r4M A, r5M A, r6M A, r7M A, r8M A, r9M A, r10M A, r11M A, r12M A, r13M A, r14M A, r15M A, w2M A, w3M A, w4M A, w5M A, w6M A, w7M A, w8M A, w9M A, w10M A, w11M A, w12M A, w13M A, w14M A, w15M A, Mw_o, true_and, Option.some.injEq, Value.ref.injEq, Value.int.injEq, Value.long.injEq, exists_eq_left', setI_f, setI_n, setL_f, setL_n, upd_s, updL_s, pk_mul, nI_add, nI_sub1, nI01, neg_not, neg1_lt, not_true_eq_false, not_false_eq_true, false_implies, true_implies, implies_true, and_true, true_and, eq_self, ref22s, ref22n, ref00, refN, tch_n, hn, hlt]
    refine (sp_mIsState (n := sm) htr (by rw [setI_n (by decide)]; exact hs)).I ?_
    rintro r h' ⟨z, rfl⟩
    rcases z with ⟨rfl, hS⟩ | ⟨rfl, hS⟩
    · refine ⟨fun q => absurd q nI01, fun _ => ?_⟩
      simp (disch := omega) only [g0M, g1M, g2M, g3M, g4M, g5M, g6M, g7M, g8M, g9M, g10M, g11M, g12M, g13M, g14M, g15M, g16M, g17M, g18M, g19M, g20M, g21M, g22M, p0M, p1M, p16M, p17M, p18M, p19M, p20M, p21M, p22M, r2M A, r3M A, r4M A, r5M A, r6M A, r7M A, r8M A, r9M A, r10M A, r11M A, r12M A, r13M A, r14M A, r15M A, w2M A, w3M A, w4M A, w5M A, w6M A, w7M A, w8M A, w9M A, w10M A, w11M A, w12M A, w13M A, w14M A, w15M A, Mw_o, true_and, Option.some.injEq, Value.ref.injEq, Value.int.injEq, Value.long.injEq, exists_eq_left', setI_f, setI_n, setL_f, setL_n, upd_s, updL_s, pk_mul, nI_add, nI_sub1, nI01, neg_not, neg1_lt, not_true_eq_false, not_false_eq_true, false_implies, true_implies, implies_true, and_true, true_and, eq_self, ref22s, ref22n, ref00, refN, tch_n, hn, hlt]
      refine ⟨fun q => next fun z => absurd (of_decide_eq_true ((hk2 j).symm.trans z)).1 q, fun q => ⟨fun q2 => next fun z => absurd (of_decide_eq_true ((hk2 j).symm.trans z)).2 q2, fun q2 => ?_⟩⟩
      have hm2 : mk2 s (I 21 0) (mEv I L 0 j) = true := by rw [hk2]; simp [q, q2]
      intro X2 hX2
      refine loopN (n := n) (fun f => X2 (nI ((List.range f).countP (fun e => mk2 s (I 21 0) (mEv I L 0 e) && decide (L 8 e < L 8 j)))) (nI f)) ?_ ?_ 0 (Nat.zero_le _)
      · refine hX2 _ _ ?_
        have hrk : (List.range n).countP (fun e => mk2 s (I 21 0) (mEv I L 0 e) && decide (L 8 e < L 8 j)) = rkM s (I 21 0) (mLst I L 0 n) (mEv I L 0 j) := by
          rw [rkM, mLst_cnt]
          simp only [ev]
          rfl
        simp (disch := omega) only [g0M, g1M, g2M, g3M, g4M, g5M, g6M, g7M, g8M, g9M, g10M, g11M, g12M, g13M, g14M, g15M, g16M, g17M, g18M, g19M, g20M, g21M, g22M, p0M, p1M, p16M, p17M, p18M, p19M, p20M, p21M, p22M, r2M A, r3M A, r4M A, r5M A, r6M A, r7M A, r8M A, r9M A, r10M A, r11M A, r12M A, r13M A, r14M A, r15M A, w2M A, w3M A, w4M A, w5M A, w6M A, w7M A, w8M A, w9M A, w10M A, w11M A, w12M A, w13M A, w14M A, w15M A, Mw_o, true_and, Option.some.injEq, Value.ref.injEq, Value.int.injEq, Value.long.injEq, exists_eq_left', setI_f, setI_n, setL_f, setL_n, upd_s, updL_s, pk_mul, nI_add, nI_sub1, nI01, neg_not, neg1_lt, not_true_eq_false, not_false_eq_true, false_implies, true_implies, implies_true, and_true, true_and, eq_self, ref22s, ref22n, ref00, refN, tch_n, hn]
        rw [hrk]
        refine ⟨fun _ => ⟨fun q3 => next fun _ => q3, fun q3 => ⟨_, rfl, mRd.zz (Or.inr ⟨rfl, hS, mEv I L 0 j, (mem _).mpr ⟨j, hj, rfl⟩, hm2, q3, rfl⟩)⟩⟩, fun q => absurd (nI_le (Nat.le_refl _) (by omega)) q⟩
      · intro f hf2 ih2
        rw [List.range_succ, List.countP_append] at ih2
        refine hX2 _ _ ?_
        have hlt2 : ¬ nI n ≤ nI f := nI_ge hf2 (by omega)
        simp only [List.countP_cons, List.countP_nil, hk2, Nat.zero_add] at ih2 ⊢
        simp (disch := omega) only [g0M, g1M, g2M, g3M, g4M, g5M, g6M, g7M, g8M, g9M, g10M, g11M, g12M, g13M, g14M, g15M, g16M, g17M, g18M, g19M, g20M, g21M, g22M, p0M, p1M, p16M, p17M, p18M, p19M, p20M, p21M, p22M, r2M A, r3M A, r4M A, r5M A, r6M A, r7M A, r8M A, r9M A, r10M A, r11M A, r12M A, r13M A, r14M A, r15M A, w2M A, w3M A, w4M A, w5M A, w6M A, w7M A, w8M A, w9M A, w10M A, w11M A, w12M A, w13M A, w14M A, w15M A, Mw_o, true_and, Option.some.injEq, Value.ref.injEq, Value.int.injEq, Value.long.injEq, exists_eq_left', setI_f, setI_n, setL_f, setL_n, upd_s, updL_s, pk_mul, nI_add, nI_sub1, nI01, neg_not, neg1_lt, not_true_eq_false, not_false_eq_true, false_implies, true_implies, implies_true, and_true, true_and, eq_self, ref22s, ref22n, ref00, refN, tch_n, hn, hlt2]
        refine ⟨fun q => ?_, fun q => ⟨fun q2 => ?_, fun q2 => ⟨fun q3 => ?_, fun q3 => ?_⟩⟩⟩
        · simpa [q] using ih2
        · simpa [q2] using ih2
        · simpa [Int64.not_lt.mpr q3] using ih2
        · simpa [q, q2, Int64.not_le.mp q3] using ih2
    · exact ⟨fun _ => ⟨⟨_, Mw_m⟩, F (Or.inl hS)⟩, fun q => absurd rfl q⟩
end Mod
