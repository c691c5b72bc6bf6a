/-! ===== the reference: told ===== -/
theorem bit1 : ∀ q, q < 16 → ∀ p, p < 16 → (nI 1 <<< (nI q &&& 31)).toBitVec.getLsbD p = decide (p = q) := by decide
theorem shp : ∀ p, p < 16 → ((nI p &&& 31).toBitVec.smod 32).toNat = p := by decide
theorem bitp {u : Int32} {p : Nat} (hp : p < 16) : (u >>> (nI p &&& 31)) &&& nI 1 = if u.toBitVec.getLsbD p then nI 1 else nI 0 := by
  apply Int32.toBitVec_inj.mp
  have e1 : (nI 1).toBitVec = 1#32 := by decide
  have e0 : (nI 0).toBitVec = 0#32 := by decide
  rw [Int32.toBitVec_and, Int32.toBitVec_shiftRight, e1, BitVec.sshiftRight', shp p hp, BitVec.and_one_eq_setWidth_ofBool_getLsbD, BitVec.getLsbD_sshiftRight]
  simp only [Nat.add_zero, show p < 32 by omega, if_true]
  cases u.toBitVec.getLsbD p
  · simp [e0]
  · simp [e1]
def tldM (I : MI) (L : ML) (sm n : Nat) (i r : Int32) : Prop := ((∀ d, d < 7 → i ≠ nI d) ∧ r = -nI 1) ∨ (i = nI 0 ∧ r = nI sm) ∨ (i = nI 1 ∧ r = nI n) ∨ (i = nI 2 ∧ r = nI ((List.range 6).countP (fun j => !decide (I 14 (j + 1) = nI 0)))) ∨ (i = nI 3 ∧ r = nI ((List.range 16).countP (shB I))) ∨ (i = nI 4 ∧ r = I 18 0) ∨
  (i = nI 5 ∧ r = nI ((List.range 16).countP (fun p => (mLst I L 0 n).any (fun v => decide (pgI v.1 v.2.1 v.2.2.1 = p))))) ∨ (i = nI 6 ∧ r = nI ((mLst I L 0 n).map (fun v => v.2.2.2.1.length)).sum)
section Mod
variable {l : Launch} {K : Kx} {m : Nat} {am : Nat → Nat} {I I' : MI} {L L' : ML} {h : Hp} {sm n : Nat} {s : Int32}
theorem sp_mTold {i : Int32} (htr : l.stackTraces = false) (A : AM m am) (v : MV I L sm n) :
    mX4_told l K [.ref m, .int i] (Mw K m am I L h) (kI fun r h' => h' = Mw K m am (z0 I) L h ∧ tldM I L sm n i r) := by
  obtain ⟨v1, v2, v3, v4, v5, v6, v7, v8⟩ := v
  refine fX4_told htr ⟨_, p0M, ?_⟩
  have ev : ∀ j, mEv I L 0 (150 * 0 + j) = mEv I L 0 j := fun j => by rw [Nat.mul_zero, Nat.zero_add]
  intro X hX
  refine loopN (n := n) (fun j => ∀ u : Int32, (∀ p, p < 16 → u.toBitVec.getLsbD p = (List.range j).any (fun e => decide (pgI (I 7 e) (L 8 e) (I 9 e) = p))) → X u (nI ((List.range j).map (fun e => (mEv I L 0 e).2.2.2.1.length)).sum) (nI j) (Mw K m am (setI I 0 0 (nI 0)) L h)) ?_ ?_ 0 (Nat.zero_le _) (nI 0) (fun p hp => by rw [show (nI 0).toBitVec = 0#32 by decide]; simp)
  · intro u hu
    refine hX _ _ _ _ ?_
    simp (disch := omega) only [g0M, g1M, g2M, g3M, g4M, g5M, g6M, g7M, g8M, g9M, g10M, g11M, g12M, g13M, g14M, g15M, g16M, g17M, g18M, g19M, g20M, g21M, g22M, p0M, p1M, p16M, p17M, p18M, p19M, p20M, p21M, p22M, r2M A, r3M A, r4M A, r5M A, r6M A, r7M A, r8M A, r9M A, r10M A, r11M A, r12M A, r13M A, r14M A, r15M A, w2M A, w3M A, w4M A, w5M A, w6M A, w7M A, w8M A, w9M A, w10M A, w11M A, w12M A, w13M A, w14M A, w15M A, Mw_o, true_and, Option.some.injEq, Value.ref.injEq, Value.int.injEq, Value.long.injEq, exists_eq_left', setI_f, setI_n, setL_f, setL_n, upd_s, updL_s, pk_mul, nI_add, nI_sub1, nI01, neg_not, neg1_lt, not_true_eq_false, not_false_eq_true, false_implies, true_implies, implies_true, and_true, true_and, eq_self, ref22s, ref22n, ref00, refN, tch_n, v3]
    refine ⟨fun _ => ?_, fun q => absurd (nI_le (Nat.le_refl _) (by omega)) q⟩
    intro X2 hX2
    refine loopN (n := 16) (fun p => X2 (nI ((List.range p).countP (fun p => u.toBitVec.getLsbD p))) (nI p)) ?_ ?_ 0 (Nat.zero_le _)
    · refine hX2 _ _ ⟨fun _ => ?_, fun q => absurd (nI_le (Nat.le_refl _) (by omega)) q⟩
      have e5 : (List.range 16).countP (fun p => u.toBitVec.getLsbD p) = (List.range 16).countP (fun p => (mLst I L 0 n).any (fun v => decide (pgI v.1 v.2.1 v.2.2.1 = p))) := by
        refine List.countP_congr fun p hp => ?_
        rw [hu p (List.mem_range.mp hp), mLst, List.any_map]
        simp only [Function.comp_def, ev]
        rfl
      have e6 : ((List.range n).map (fun e => (mEv I L 0 e).2.2.2.1.length)).sum = ((mLst I L 0 n).map (fun v => v.2.2.2.1.length)).sum := by
        rw [mLst, List.map_map]
        simp only [Function.comp_def, ev]
      rw [e5, e6]
      clear hX hX2
      intro X3 hX3
      refine loopN (n := 6) (fun c => X3 (nI ((List.range c).countP (fun j => !decide (I 14 (j + 1) = nI 0)))) (nI (c + 1))) ?_ ?_ 0 (Nat.zero_le _)
      · refine hX3 _ _ ⟨fun _ => ?_, fun q => absurd (nI_le (Nat.le_refl _) (by omega)) q⟩
        simp (disch := omega) only [g0M, g1M, g2M, g3M, g4M, g5M, g6M, g7M, g8M, g9M, g10M, g11M, g12M, g13M, g14M, g15M, g16M, g17M, g18M, g19M, g20M, g21M, g22M, p0M, p1M, p16M, p17M, p18M, p19M, p20M, p21M, p22M, r2M A, r3M A, r4M A, r5M A, r6M A, r7M A, r8M A, r9M A, r10M A, r11M A, r12M A, r13M A, r14M A, r15M A, w2M A, w3M A, w4M A, w5M A, w6M A, w7M A, w8M A, w9M A, w10M A, w11M A, w12M A, w13M A, w14M A, w15M A, Mw_o, true_and, Option.some.injEq, Value.ref.injEq, Value.int.injEq, Value.long.injEq, exists_eq_left', setI_f, setI_n, setL_f, setL_n, upd_s, updL_s, pk_mul, nI_add, nI_sub1, nI01, neg_not, neg1_lt, not_true_eq_false, not_false_eq_true, false_implies, true_implies, implies_true, and_true, true_and, eq_self, ref22s, ref22n, ref00, refN, tch_n, v1, v3]
        refine ⟨fun q0 => ⟨fun q1 => ⟨fun q2 => ⟨fun q3 => ⟨fun q4 => ⟨fun q5 => ⟨fun q6 => ?_, fun q6 => ?_⟩, fun q5 => ?_⟩, fun q4 => ?_⟩, fun q3 => ?_⟩, fun q2 => ?_⟩, fun q1 => ?_⟩, fun q0 => ?_⟩
        · refine ⟨_, rfl, rfl, Or.inl ⟨fun d hd => ?_, rfl⟩⟩
          match d, hd with
          | 0, _ => exact q0
          | 1, _ => exact q1
          | 2, _ => exact q2
          | 3, _ => exact q3
          | 4, _ => exact q4
          | 5, _ => exact q5
          | 6, _ => exact q6
        · exact ⟨_, rfl, rfl, Or.inr (Or.inr (Or.inr (Or.inr (Or.inr (Or.inr (Or.inr ⟨q6, rfl⟩))))))⟩
        · exact ⟨_, rfl, rfl, Or.inr (Or.inr (Or.inr (Or.inr (Or.inr (Or.inr (Or.inl ⟨q5, rfl⟩))))))⟩
        · exact ⟨_, rfl, rfl, Or.inr (Or.inr (Or.inr (Or.inr (Or.inr (Or.inl ⟨q4, rfl⟩)))))⟩
        · refine (sp_mSharedPages htr A).I ?_
          rintro r h' ⟨rfl, rfl⟩
          refine ⟨_, rfl, rfl, Or.inr (Or.inr (Or.inr (Or.inr (Or.inl ⟨q3, ?_⟩))))⟩
          congr 2
        · exact ⟨_, rfl, rfl, Or.inr (Or.inr (Or.inr (Or.inl ⟨q2, rfl⟩)))⟩
        · exact ⟨_, rfl, rfl, Or.inr (Or.inr (Or.inl ⟨q1, rfl⟩))⟩
        · exact ⟨_, rfl, rfl, Or.inr (Or.inl ⟨q0, rfl⟩)⟩
      · intro c hc ih
        rw [List.range_succ, List.countP_append] at ih
        refine hX3 _ _ ⟨fun q => absurd q (nI_ge (by omega) (by omega)), fun _ => ?_⟩
        simp only [List.countP_cons, List.countP_nil, Nat.zero_add] at ih
        simp (disch := omega) only [g0M, g1M, g2M, g3M, g4M, g5M, g6M, g7M, g8M, g9M, g10M, g11M, g12M, g13M, g14M, g15M, g16M, g17M, g18M, g19M, g20M, g21M, g22M, p0M, p1M, p16M, p17M, p18M, p19M, p20M, p21M, p22M, r2M A, r3M A, r4M A, r5M A, r6M A, r7M A, r8M A, r9M A, r10M A, r11M A, r12M A, r13M A, r14M A, r15M A, w2M A, w3M A, w4M A, w5M A, w6M A, w7M A, w8M A, w9M A, w10M A, w11M A, w12M A, w13M A, w14M A, w15M A, Mw_o, true_and, Option.some.injEq, Value.ref.injEq, Value.int.injEq, Value.long.injEq, exists_eq_left', setI_f, setI_n, setL_f, setL_n, upd_s, updL_s, pk_mul, nI_add, nI_sub1, nI01, neg_not, neg1_lt, not_true_eq_false, not_false_eq_true, false_implies, true_implies, implies_true, and_true, true_and, eq_self, ref22s, ref22n, ref00, refN, tch_n]
        refine ⟨fun q => ?_, fun q => ?_⟩
        · simpa [q] using ih
        · simpa [q] using ih
    · intro p hp ih
      rw [List.range_succ, List.countP_append] at ih
      simp only [List.countP_cons, List.countP_nil, Nat.zero_add] at ih
      refine hX2 _ _ ⟨fun q => absurd q (nI_ge hp (by decide)), fun _ => ?_⟩
      rw [bitp hp, nI_sub1]
      cases hb : u.toBitVec.getLsbD p
      · simp only [hb, Bool.false_eq_true, if_false, nI_0r] at ih ⊢; exact ih
      · simp only [hb, if_true, nI_sub1] at ih ⊢; exact ih
  · intro j hj ih u hu
    refine hX _ _ _ _ ?_
    have hlt : ¬ nI n ≤ nI j := nI_ge hj (by omega)
    obtain ⟨st, t, hst, s7, st2, snu, t0, tb⟩ := mEv_nu (L := L) v2 (by simpa using v8) (v5 j hj)
    simp (disch := omega) only [g0M, g1M, g2M, g3M, g4M, g5M, g6M, g7M, g8M, g9M, g10M, g11M, g12M, g13M, g14M, g15M, g16M, g17M, g18M, g19M, g20M, g21M, g22M, p0M, p1M, p16M, p17M, p18M, p19M, p20M, p21M, p22M, r2M A, r3M A, r4M A, r5M A, r6M A, r7M A, r8M A, r9M A, r10M A, r11M A, r12M A, r13M A, r14M A, r15M A, w2M A, w3M A, w4M A, w5M A, w6M A, w7M A, w8M A, w9M A, w10M A, w11M A, w12M A, w13M A, w14M A, w15M A, Mw_o, true_and, Option.some.injEq, Value.ref.injEq, Value.int.injEq, Value.long.injEq, exists_eq_left', setI_f, setI_n, setL_f, setL_n, upd_s, updL_s, pk_mul, nI_add, nI_sub1, nI01, neg_not, neg1_lt, not_true_eq_false, not_false_eq_true, false_implies, true_implies, implies_true, and_true, true_and, eq_self, ref22s, ref22n, ref00, refN, tch_n, v3, hlt]
    refine (sp_mPageOf htr).I ?_
    rintro r h' ⟨rfl, rfl⟩
    refine ⟨⟨_, Mw_m⟩, ?_⟩
    refine (sp_mNumbersOf htr A (c := 0) (e := j) (i := st) (by omega) (by omega) (by rw [setI_n (by decide)]; exact s7) (by omega)).I ?_
    rintro r h' ⟨rfl, rfl⟩
    rw [setI_n (by decide), setI_n (by decide), st2, nI_add]
    have hsum : ((List.range j).map (fun e => (mEv I L 0 e).2.2.2.1.length)).sum + t = ((List.range (j + 1)).map (fun e => (mEv I L 0 e).2.2.2.1.length)).sum := by
      rw [List.range_succ, List.map_append, List.sum_append]
      simp [snu]
    rw [hsum]
    refine ih _ fun p hp => ?_
    have hq := pgI_lt (I 7 j) (L 8 j) (I 9 j)
    rw [Int32.toBitVec_or, BitVec.getLsbD_or, hu p hp, pgN_eq, bit1 _ hq p hp, List.range_succ, List.any_append]
    simp only [List.any_cons, List.any_nil, Bool.or_false]
    congr 1
    exact decide_eq_decide.mpr eq_comm
end Mod
