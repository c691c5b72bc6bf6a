/-! ===== the reference: clearSpan ===== -/
theorem sameE.tr {I I1 I2 : MI} {L L1 L2 : ML} {e : Nat} (a : sameE I L I1 L1 e) (b : sameE I1 L1 I2 L2 e) : sameE I L I2 L2 e :=
  ⟨b.1.trans a.1, b.2.1.trans a.2.1, b.2.2.1.trans a.2.2.1, b.2.2.2.1.trans a.2.2.2.1, fun i hi => ⟨(b.2.2.2.2 i hi).1.trans (a.2.2.2.2 i hi).1, (b.2.2.2.2 i hi).2.trans (a.2.2.2.2 i hi).2⟩⟩
theorem NF.tr {I I1 I2 : MI} {L L1 L2 : ML} (a : NF I L I1 L1) (b : NF I1 L1 I2 L2) : NF I L I2 L2 :=
  ⟨fun g g0 g6 g7 g9 g10 g13 g17 g18 g22 => (b.1 g g0 g6 g7 g9 g10 g13 g17 g18 g22).trans (a.1 g g0 g6 g7 g9 g10 g13 g17 g18 g22), b.2.1.trans a.2.1, fun c hc => (b.2.2.1 c hc).trans (a.2.2.1 c hc), fun e he => (a.2.2.2 e he).tr (b.2.2.2 e he)⟩
theorem NF.z {I : MI} {L : ML} : NF I L (z0 I) L := ⟨fun g g0 _ _ _ _ _ _ _ _ => z0_n g0, rfl, fun c _ => by rw [z0_n (by decide)], fun e _ => sameE.rf (z0_n (by decide)) (z0_n (by decide)) (z0_n (by decide))⟩
theorem PgM.cg {T T' : Nat → Bool} {I I' : MI} (h : ∀ p, p < 16 → T p = T' p) (t : PgM T I I') : PgM T' I I' := by
  have e : (List.range 16).countP (fun p => T' p && shB I p) = (List.range 16).countP (fun p => T p && shB I p) := List.countP_congr fun p hp => by rw [h p (List.mem_range.mp hp)]
  obtain ⟨t1, t2, t3, t4⟩ := t
  refine ⟨by rw [e]; exact t1, by rw [e]; exact t2, t3, fun p hp => ?_⟩
  rw [e, ← h p hp]; exact t4 p hp
theorem PgM.z {T : Nat → Bool} {I I' : MI} (t : PgM T (z0 I) I') : PgM T I I' := t
theorem PB.z {I : MI} (t : PB I) : PB (z0 I) := t
/-- a sweep over the entries of now -/
def MSg (I : MI) (L : ML) (sm : Nat) (T : Nat → Bool) (M : List EV) (I' : MI) (L' : ML) : Prop :=
  ∃ n', I' 6 0 = nI n' ∧ n' ≤ 150 ∧ NF I L I' L' ∧ (∀ j, j < n' → eOk I' 0 sm j) ∧ ((mLst I' L' 0 n').map kyE).Nodup ∧ PgM T I I' ∧ (mLst I' L' 0 n').Perm M
theorem pT_cons {φ : EV → Bool} {v : EV} {E : List EV} {p : Nat} : pT φ (v :: E) p = ((φ v && decide (pgI v.1 v.2.1 v.2.2.1 = p)) || pT φ E p) := by simp [pT]
section Mod
variable {l : Launch} {K : Kx} {m : Nat} {am : Nat → Nat} {I I' : MI} {L L' : ML} {h : Hp} {sm n : Nat} {s : Int32}
theorem sp_mClearSpan (htr : l.stackTraces = false) (A : AM m am) (v : MV I L sm n) :
    mX4_clearSpan l K [.ref m] (Mw K m am I L h) (kI fun r h' => ∃ I' L', h' = Mw K m am I' L' h ∧ I' 0 0 = nI 0 ∧ r = nI ((mLst I L 0 n).countP (fun v => decide (v.2.2.1 = I 21 0))) ∧ MSg I L sm (pT (fun v => decide (v.2.2.1 = I 21 0)) (mLst I L 0 n)) (lsE (I 21 0) (mLst I L 0 n)) I' L') := by
  obtain ⟨v1, v2, v3, v4, v5, v6, v7, v8⟩ := v
  refine fX4_clearSpan htr ?_
  simp (disch := omega) only [g0M, g1M, g2M, g3M, g4M, g5M, g6M, g7M, g8M, g9M, g10M, g11M, g12M, g13M, g14M, g15M, g16M, g17M, g18M, g19M, g20M, g21M, g22M, p0M, p1M, p16M, p17M, p18M, p19M, p20M, p21M, p22M, r2M A, r3M A, r4M A, r5M A, r6M A, r7M A, r8M A, r9M A, r10M A, r11M A, r12M A, r13M A, r14M A, r15M A, w2M A, w3M A, w4M A, w5M A, w6M A, w7M A, w8M A, w9M A, w10M A, w11M A, w12M A, w13M A, w14M A, w15M A, Mw_o, true_and, Option.some.injEq, Value.ref.injEq, Value.int.injEq, Value.long.injEq, exists_eq_left', setI_f, setI_n, setL_f, setL_n, upd_s, updL_s, pk_mul, nI_add, nI_sub1, v3]
  intro X hX
  have hM := mLst_len I L 0 n
  generalize hMd : mLst I L 0 n = M at hM v6 ⊢
  have key : ∀ k, k ≤ n → ∀ I1 L1 n1, k ≤ n1 → n1 ≤ 150 → I1 6 0 = nI n1 → I1 0 0 = nI 0 → NF I L I1 L1 → (∀ j, j < n1 → eOk I1 0 sm j) → ((mLst I1 L1 0 n1).map kyE).Nodup → PgM (pT (fun v => decide (v.2.2.1 = I 21 0)) (M.drop k)) I I1 → (mLst I1 L1 0 n1).take k = M.take k → ((mLst I1 L1 0 n1).drop k).Perm (lsE (I 21 0) (M.drop k)) → X (nI ((M.drop k).countP (fun v => decide (v.2.2.1 = I 21 0)))) (nI k - nI 1) (Mw K m am I1 L1 h) := by
    intro k
    induction k with
    | zero =>
      intro _ I1 L1 n1 _ a1 a2 a3 a4 a5 a6 a7 a8 a9
      refine hX _ _ _ ⟨fun _ => ⟨_, rfl, I1, L1, rfl, a3, by rw [List.drop_zero, hMd], n1, a2, a1, a4, a5, a6, by rw [hMd]; simpa using a7, by rw [hMd]; simpa using a9⟩, fun q => absurd (by decide) q⟩
    | succ k ih =>
      intro hk I1 L1 n1 hk1 a1 a2 a3 a4 a5 a6 a7 a8 a9
      have hkn : k < n := hk
      have e1 : nI (k + 1) - nI 1 = nI k := pk_sub (by omega)
      rw [e1]
      refine hX _ _ _ ⟨fun q => absurd q (nI_pos (by omega)), fun _ => ?_⟩
      have h21 : I1 21 0 = I 21 0 := by rw [a4.1 21 (by decide) (by decide) (by decide) (by decide) (by decide) (by decide) (by decide) (by decide) (by decide)]
      have h14 : I1 14 = I 14 := a4.1 14 (by decide) (by decide) (by decide) (by decide) (by decide) (by decide) (by decide) (by decide) (by decide)
      have hg1 : (mLst I1 L1 0 n1)[k]? = some (mEv I1 L1 0 k) := by rw [mLst_get (by omega)]; simp
      have hg : M[k]? = some (mEv I1 L1 0 k) := by
        rw [← hg1]
        have := congrArg (fun z : List EV => z[k]?) a8
        simp only [List.getElem?_take, show k < k + 1 by omega, if_true] at this
        exact this.symm
      have hdM : M.drop k = mEv I1 L1 0 k :: M.drop (k + 1) := by
        rw [List.drop_eq_getElem_cons (by omega)]
        congr 1
        rw [List.getElem?_eq_getElem (by omega)] at hg
        exact Option.some.inj hg
      have htk : M.take k = (M.take (k + 1)).take k := by rw [List.take_take]; congr 1; omega
      have e2 : ∀ z : Int32, z + -nI 1 = z - nI 1 := fun z => (Int32.sub_eq_add_neg z _).symm
      simp (disch := omega) only [g0M, g1M, g2M, g3M, g4M, g5M, g6M, g7M, g8M, g9M, g10M, g11M, g12M, g13M, g14M, g15M, g16M, g17M, g18M, g19M, g20M, g21M, g22M, p0M, p1M, p16M, p17M, p18M, p19M, p20M, p21M, p22M, r2M A, r3M A, r4M A, r5M A, r6M A, r7M A, r8M A, r9M A, r10M A, r11M A, r12M A, r13M A, r14M A, r15M A, w2M A, w3M A, w4M A, w5M A, w6M A, w7M A, w8M A, w9M A, w10M A, w11M A, w12M A, w13M A, w14M A, w15M A, Mw_o, true_and, Option.some.injEq, Value.ref.injEq, Value.int.injEq, Value.long.injEq, exists_eq_left', setI_f, setI_n, setL_f, setL_n, upd_s, updL_s, pk_mul, nI_add, nI_sub1, h21]
      refine ⟨fun q => ?_, fun q => ?_⟩
      · have q : ¬ (mEv I1 L1 0 k).2.2.1 = I 21 0 := q
        have hf : decide ((mEv I1 L1 0 k).2.2.1 = I 21 0) = false := decide_eq_false q
        have := ih (by omega) I1 L1 n1 (by omega) a1 a2 a3 a4 a5 a6 (a7.cg fun p hp => by rw [hdM, pT_cons, hf]; simp) (by rw [htk, ← a8, List.take_take]; congr 1; omega) (by
          have hd1 : (mLst I1 L1 0 n1).drop k = mEv I1 L1 0 k :: (mLst I1 L1 0 n1).drop (k + 1) := by
            rw [List.drop_eq_getElem_cons (by rw [mLst_len]; omega)]
            congr 1
            rw [List.getElem?_eq_getElem (by rw [mLst_len]; omega)] at hg1
            exact Option.some.inj hg1
          rw [hd1, hdM, lsE, List.filter_cons_of_pos (by simpa using q)]
          exact a9.cons _)
        rw [hdM, List.countP_cons_of_neg (by simpa using q), ← e2] at this
        exact this
      · refine (sp_mDropEntry htr A a2 a1 (by omega)).V ?_
        rintro h' rfl
        obtain ⟨d1, d2, d3, d4, d5, d6⟩ := drop_all' (L := L1) v2 a1 a5 (show k < n1 by omega)
        have q : (mEv I1 L1 0 k).2.2.1 = I 21 0 := q
        have hf : decide ((mEv I1 L1 0 k).2.2.1 = I 21 0) = true := decide_eq_true q
        have := ih (by omega) (drI I1 L1 n1 k) (cpL L1 (n1 - 1) k 10) (n1 - 1) (by omega) (by omega) d1 (by rw [d6 0 (by decide) (by decide) (by decide) (by decide) (by decide) (by decide) (by decide)]; exact a3) (a4.tr d2) d3 (by rw [d4]; exact swr_nodup a6 (by rw [mLst_len]; omega)) ((a7.step v7 h14 (pgI_lt _ _ _) (d5 13 (by simp)) (by rw [d5 17 (by simp)]) (by rw [d5 18 (by simp)])).cg fun p hp => by
            rw [hdM, pT_cons, hf, Bool.true_and, Bool.or_comm]
            congr 1
            exact decide_eq_decide.mpr eq_comm) (by rw [d4, swr_take (by rw [mLst_len]; omega), htk, ← a8, List.take_take]; congr 1; omega) (by
          rw [d4, hdM, lsE, List.filter_cons_of_neg (by simpa using q)]
          exact (swr_drop (by rw [mLst_len]; omega)).trans a9)
        rw [hdM, List.countP_cons_of_pos (by simpa using q), ← e2] at this
        exact this
  have := key n (Nat.le_refl _) (z0 I) L n (Nat.le_refl _) v4 v3 z0_0 NF.z (fun j hj => eOk_same (by rw [z0_n (by decide)]) (by rw [z0_n (by decide)]) (fun st _ => by rw [z0_n (by decide)]) (v5 j hj)) (by
    show ((mLst I L 0 n).map kyE).Nodup
    rw [hMd]; exact v6) (by
    rw [List.drop_of_length_le (by omega)]
    exact PgM.rf (z0_n (by decide)) (by rw [z0_n (by decide)]) (by rw [z0_n (by decide)])) (by
    show (mLst I L 0 n).take n = _
    rw [hMd]) (by
    show ((mLst I L 0 n).drop n).Perm _
    rw [hMd, List.drop_of_length_le (by omega)]
    exact List.Perm.nil)
  rw [List.drop_of_length_le (by omega)] at this
  exact this
end Mod
