/-! ===== the reference: entries copied and dropped; further calls ===== -/
def sameX (I : MI) (L : ML) (e : Nat) (I' : MI) (L' : ML) (e' : Nat) : Prop := I' 7 e' = I 7 e ∧ L' 8 e' = L 8 e ∧ I' 9 e' = I 9 e ∧ I' 10 e' = I 10 e ∧ ∀ i, i < 10 → L' 11 (10 * e' + i) = L 11 (10 * e + i) ∧ L' 12 (10 * e' + i) = L 12 (10 * e + i)
theorem mEv_copy {I I' : MI} {L L' : ML} {c c' n e e' : Nat} (hn : n ≤ 8) (s : sameX I L e I' L' e') (h3 : ∀ st, st < n → I' 3 (8 * c' + st) = I 3 (8 * c + st)) (ok : eOk I c n e) : mEv I' L' c' e' = mEv I L c e := by
  obtain ⟨s7, s8, s9, s10, s11⟩ := s
  obtain ⟨st, hst, e7, tk⟩ := ok
  have hk : kdE I' c' e' = kdE I c e := by
    simp only [kdE, s7, e7, nI_clamp (show st < 2 ^ 31 by omega)]
    exact h3 st hst
  have hk2 : kdE I c e = I 3 (8 * c + st) := by simp only [kdE, e7, nI_clamp (show st < 2 ^ 31 by omega)]
  unfold mEv
  rw [hk, s7, s8, s9, s10]
  have e0 := (s11 0 (by decide)).1
  simp only [Nat.add_zero] at e0
  by_cases q : kdE I c e = nI 3
  · simp only [q, or_true, if_true, e0]
    rw [if_neg (by decide), if_neg (by decide)]
  · obtain ⟨t, e10, t0, t10, tv⟩ := tk (by rw [← hk2]; exact q)
    have hsz : szN (I 10 e) = t := by rw [szN, e10, nI_clamp (by omega)]
    rw [hsz, e0, map_range_congr (f := fun i => L' 11 (10 * e' + i)) fun i hi => (s11 i (by omega)).1, map_range_congr (f := fun i => L' 12 (10 * e' + i)) fun i hi => (s11 i (by omega)).2]
theorem eOk_copy {I I' : MI} {c c' n e e' : Nat} (h7 : I' 7 e' = I 7 e) (h10 : I' 10 e' = I 10 e) (h3 : ∀ st, st < n → I' 3 (8 * c' + st) = I 3 (8 * c + st)) (ok : eOk I c n e) : eOk I' c' n e' := by
  obtain ⟨st, hst, e7, tk⟩ := ok
  exact ⟨st, hst, h7.trans e7, by rw [h3 st hst, h10]; exact tk⟩
theorem MV.up {I I' : MI} {L : ML} {sm n : Nat} (v : MV I L sm n) (h : ∀ g, g ≠ 0 → g ≠ 22 → I' g = I g) : MV I' L sm n ∧ mLst I' L 0 n = mLst I L 0 n := by
  obtain ⟨v1, v2, v3, v4, v5, v6, v7, v8⟩ := v
  have e : mLst I' L 0 n = mLst I L 0 n := mLst_same v2 (fun i _ => sameE.rf (h 7 (by decide) (by decide)) (h 9 (by decide) (by decide)) (h 10 (by decide) (by decide))) (fun st _ => by rw [h 3 (by decide) (by decide)]) (fun i hi => by simpa using v5 i hi)
  refine ⟨⟨by rw [h 1 (by decide) (by decide)]; exact v1, v2, by rw [h 6 (by decide) (by decide)]; exact v3, v4, fun j hj => eOk_same (by rw [h 7 (by decide) (by decide)]) (by rw [h 10 (by decide) (by decide)]) (fun st _ => by rw [h 3 (by decide) (by decide)]) (v5 j hj), by rw [e]; exact v6, ?_, ?_⟩, e⟩
  · obtain ⟨g, g1, g2, g3⟩ := v7
    exact ⟨g, by rw [h 17 (by decide) (by decide)]; exact g1, g2, by rw [h 13 (by decide) (by decide)]; exact g3⟩
  · rw [h 3 (by decide) (by decide)]; exact v8
/-- what dropEntry leaves -/
theorem drop_all' {I : MI} {L : ML} {sm n e : Nat} (v2 : sm ≤ 8) (v4 : n ≤ 150) (v5 : ∀ j, j < n → eOk I 0 sm j) (he : e < n) : drI I L n e 6 0 = nI (n - 1) ∧ NF I L (drI I L n e) (cpL L (n - 1) e 10) ∧ (∀ j, j < n - 1 → eOk (drI I L n e) 0 sm j) ∧ mLst (drI I L n e) (cpL L (n - 1) e 10) 0 (n - 1) = swr (mLst I L 0 n) e ∧
    (∀ g, g = 13 ∨ g = 17 ∨ g = 18 → drI I L n e g = tch I (pgI (I 7 e) (L 8 e) (I 9 e)) g) ∧ (∀ g, g ≠ 6 → g ≠ 7 → g ≠ 9 → g ≠ 10 → g ≠ 13 → g ≠ 17 → g ≠ 18 → drI I L n e g = I g) := by
  generalize hId : drI I L n e = Id
  generalize hLd : cpL L (n - 1) e 10 = Ld
  have f : ∀ g, g ≠ 6 → g ≠ 7 → g ≠ 9 → g ≠ 10 → g ≠ 13 → g ≠ 17 → g ≠ 18 → Id g = I g := fun g g6 g7 g9 g10 g13 g17 g18 => by rw [← hId, drI, cpI, setI_n g10, setI_n g9, setI_n g7, setI_n g6, tch_n g18 g17 g13]
  have f6 : Id 6 = upd (I 6) 0 (nI (n - 1)) := by rw [← hId, drI, cpI, setI_n (by decide), setI_n (by decide), setI_n (by decide), setI_f, tch_n (by decide) (by decide) (by decide)]
  have f7 : Id 7 = upd (I 7) e (I 7 (n - 1)) := by
    rw [← hId, drI, cpI, setI_n (by decide), setI_n (by decide), setI_f, setI_n (by decide), tch_n (by decide) (by decide) (by decide)]
  have f9 : Id 9 = upd (I 9) e (I 9 (n - 1)) := by
    rw [← hId, drI, cpI, setI_n (by decide), setI_f, setI_n (by decide), setI_n (by decide), tch_n (by decide) (by decide) (by decide)]
  have f10 : Id 10 = upd (I 10) e (I 10 (n - 1)) := by
    rw [← hId, drI, cpI, setI_f, setI_n (by decide), setI_n (by decide), setI_n (by decide), tch_n (by decide) (by decide) (by decide)]
  have l8 : Ld 8 = vp_updL (L 8) e (L 8 (n - 1)) := by rw [← hLd, cpL, if_neg (by decide), setL_f]
  have l11 : Ld 11 = shf (L 11) (10 * (n - 1)) (10 * e) 10 := by rw [← hLd, cpL_11]
  have l12 : Ld 12 = shf (L 12) (10 * (n - 1)) (10 * e) 10 := by rw [← hLd, cpL_12]
  have l20 : Ld 20 = L 20 := by rw [← hLd, cpL, if_neg (by decide), setL_n (by decide)]
  have f3 := f 3 (by decide) (by decide) (by decide) (by decide) (by decide) (by decide) (by decide)
  have same : ∀ j, j ≠ e → sameX I L j Id Ld j := fun j n => ⟨by rw [f7, upd_n n], by rw [l8, updL_n n], by rw [f9, upd_n n], by rw [f10, upd_n n], fun i hi => ⟨by rw [l11, shf_out (by omega)], by rw [l12, shf_out (by omega)]⟩⟩
  have last : sameX I L (n - 1) Id Ld e := ⟨by rw [f7, upd_s], by rw [l8, updL_s], by rw [f9, upd_s], by rw [f10, upd_s], fun i hi => ⟨by rw [l11, shf_in (by omega)]; congr 1; omega, by rw [l12, shf_in (by omega)]; congr 1; omega⟩⟩
  refine ⟨by rw [f6, upd_s], ⟨fun g _ g6 g7 g9 g10 g13 g17 g18 _ => f g g6 g7 g9 g10 g13 g17 g18, l20, fun c hc => by rw [f6, upd_n hc], fun j hj => same j (by omega)⟩, fun j hj => ?_, ?_, fun g hg => ?_, f⟩
  · by_cases y : j = e
    · subst y
      exact eOk_copy last.1 last.2.2.2.1 (fun st _ => by rw [f3]) (v5 (n - 1) (by omega))
    · exact eOk_copy (same j y).1 (same j y).2.2.2.1 (fun st _ => by rw [f3]) (v5 j (by omega))
  · have hM : ∀ j, j < n → (mLst I L 0 n)[j]? = some (mEv I L 0 j) := fun j hj => by rw [mLst_get hj]; simp
    apply List.ext_getElem?
    intro j
    rw [swr, List.getElem?_dropLast, List.length_set, mLst_len]
    by_cases hj : j < n - 1
    · rw [if_pos hj, mLst_get hj, List.getElem?_set]
      simp only [Nat.mul_zero, Nat.zero_add]
      by_cases y : e = j
      · subst y
        rw [if_pos rfl, mLst_len, if_pos (by omega), mEv_copy v2 last (fun st _ => by rw [f3]) (v5 (n - 1) (by omega))]
        congr 1
        rw [List.getLastD_eq_getLast?, List.getLast?_eq_getElem?, mLst_len, hM (n - 1) (by omega)]
        rfl
      · rw [if_neg y, hM j (by omega), mEv_copy v2 (same j (fun z => y z.symm)) (fun st _ => by rw [f3]) (v5 j (by omega))]
    · rw [if_neg hj, List.getElem?_eq_none (by rw [mLst_len]; omega)]
  · rw [← hId, drI, cpI, setI_n (by omega), setI_n (by omega), setI_n (by omega), setI_n (by omega)]
theorem drop_all {I : MI} {L : ML} {sm n e : Nat} (v : MV I L sm n) (he : e < n) : drI I L n e 6 0 = nI (n - 1) ∧ NF I L (drI I L n e) (cpL L (n - 1) e 10) ∧ (∀ j, j < n - 1 → eOk (drI I L n e) 0 sm j) ∧ mLst (drI I L n e) (cpL L (n - 1) e 10) 0 (n - 1) = swr (mLst I L 0 n) e ∧
    (∀ g, g = 13 ∨ g = 17 ∨ g = 18 → drI I L n e g = tch I (pgI (I 7 e) (L 8 e) (I 9 e)) g) ∧ (∀ g, g ≠ 6 → g ≠ 7 → g ≠ 9 → g ≠ 10 → g ≠ 13 → g ≠ 17 → g ≠ 18 → drI I L n e g = I g) := drop_all' v.2.1 v.2.2.2.1 v.2.2.2.2.1 he
theorem swr_nodup {M : List EV} {i : Nat} (hnd : (M.map kyE).Nodup) (hi : i < M.length) : ((swr M i).map kyE).Nodup := by
  have hp : (swr M i).Perm (noE M[i] M) := swr_perm hnd (List.getElem?_eq_getElem hi) rfl
  exact (hp.map kyE).nodup_iff.mpr (noE_nodup hnd)
theorem MSt.dropp {I : MI} {L : ML} {sm n e : Nat} {w : EV} (v : MV I L sm n) (he : e < n) (hk : kyE w = (I 7 e, L 8 e, I 9 e)) (hw : w.2.2.2.1 = []) : MSt I L sm n (some w) (drI (refI I 0 (some e)) L n e) (cpL L (n - 1) e 10) := by
  obtain ⟨v9, e9⟩ := v.up (I' := refI I 0 (some e)) (fun g h0 h22 => refN h0 h22)
  obtain ⟨d1, d2, d3, d4, d5, d6⟩ := drop_all v9 he
  rw [e9] at d4
  have hg : (mLst I L 0 n)[e]? = some (mEv I L 0 e) := by rw [mLst_get he]; simp
  have r7 : refI I 0 (some e) 7 = I 7 := refN (by decide) (by decide)
  have r9 : refI I 0 (some e) 9 = I 9 := refN (by decide) (by decide)
  have r10 : refI I 0 (some e) 10 = I 10 := refN (by decide) (by decide)
  have r6 : refI I 0 (some e) 6 = I 6 := refN (by decide) (by decide)
  refine ⟨n - 1, d1, by have := v.2.2.2.1; omega, ⟨fun g g0 g6 g7 g9 g10 g13 g17 g18 g22 => by rw [d2.1 g g0 g6 g7 g9 g10 g13 g17 g18 g22, refN g0 g22], d2.2.1, fun c hc => by rw [d2.2.2.1 c hc, r6], fun j hj => ?_⟩, d3, by rw [d4]; exact swr_nodup v.2.2.2.2.2.1 (by rw [mLst_len]; exact he), Or.inr ⟨w, rfl, ?_, ?_⟩⟩
  · have := d2.2.2.2 j hj
    unfold sameE at this ⊢
    rw [r7, r9, r10] at this
    exact this
  · rw [r7, r9] at d5
    have hp : pgI w.1 w.2.1 w.2.2.1 = pgI (I 7 e) (L 8 e) (I 9 e) := by
      simp only [kyE, Prod.mk.injEq] at hk
      rw [hk.1, hk.2.1, hk.2.2]
    rw [hp]
    exact PgM.one (I1 := refI I 0 (some e)) v.2.2.2.2.2.2.1 (pgI_lt _ _ _) (fun g hg => refN (by omega) (by omega)) (d5 13 (by simp)) (by rw [d5 17 (by simp)]) (by rw [d5 18 (by simp)])
  · rw [d4, nwE, if_pos hw]
    exact swr_perm v.2.2.2.2.2.1 hg (by rw [mEv_ky, hk])
section Mod
variable {l : Launch} {K : Kx} {m : Nat} {am : Nat → Nat} {I I' : MI} {L L' : ML} {h : Hp} {sm n : Nat} {s : Int32}
theorem sp_mAdd {y : Int64} (htr : l.stackTraces = false) (A : AM m am) (v : MV I L sm n) :
    mX4_add l K [.ref m, .int s, .long y] (Mw K m am I L h) (kI fun r h' => mEnd K m am I L h (St sm (I 3) (I 4) (I 19 0) s (nI 1) (nI 1) y) (MSt I L sm n none) (fun I' L' => ∃ u, addR (lk s (L 20 0) (I 21 0) (mLst I L 0 n)) n y r u ∧ MSt I L sm n u I' L') h') := by
  have vv := v
  obtain ⟨v1, v2, v3, v4, v5, v6, v7, v8⟩ := vv
  refine fX4_add htr ⟨⟨_, Mw_m⟩, ?_⟩
  refine (sp_mRefused htr A v1 v2 v3 v4).I ?_
  rintro r h' ⟨c, hc4, hst, hr, rfl⟩
  refine ⟨fun q => ?_, fun q => ⟨_, rfl, c, _, L, rfl, hst, ref00, Or.inl ⟨Nat.pos_of_ne_zero fun z => q (hr.mpr z), by omega, MSt.no v fun g h0 h22 => refN h0 h22⟩⟩⟩
  have := hr.mp q
  subst this
  obtain ⟨i, hi, rfl, hkd, -, -⟩ := hst.ix
  have hkd : I 3 i = nI 1 := hkd.elim id id
  have n13 : ¬ nI 1 = nI 3 := by decide
  have n10 : ¬ nI 1 = nI 0 := by decide
  have kX : ∀ (X : MI) e, X 7 e = nI i → X 3 = I 3 → kdE X 0 e = nI 1 := fun X e h1 h2 => by rw [kdE_st h1 (by omega), h2]; exact hkd
  cases hfd : fdM I L 0 n (nI i) (L 20 0) (I 21 0) with
  | some e =>
    obtain ⟨e', he', hee, f7, f8, f9⟩ := fdM_some hfd
    have : e' = e := by omega
    subst this
    have hp0 : nI 0 ≤ nI e' := nonneg (by omega)
    obtain ⟨st, hst9, s7, tk⟩ := v5 e' he'
    have hsti : st = i := (nI_eq (by omega) (by omega)).mp (s7.symm.trans f7)
    subst hsti
    simp only [Nat.mul_zero, Nat.zero_add] at tk
    obtain ⟨t, t10, t0, tb, -⟩ := tk (by rw [hkd]; exact n13)
    have hev := mEv_1 (L := L) (kX I e' f7 rfl) t10 (by omega)
    simp (disch := omega) only [g0M, g1M, g2M, g3M, g4M, g5M, g6M, g7M, g8M, g9M, g10M, g11M, g12M, g13M, g14M, g15M, g16M, g17M, g18M, g19M, g20M, g21M, g22M, p0M, p1M, p16M, p17M, p18M, p19M, p20M, p21M, p22M, r2M A, r3M A, r4M A, r5M A, r6M A, r7M A, r8M A, r9M A, r10M A, r11M A, r12M A, r13M A, r14M A, r15M A, w2M A, w3M A, w4M A, w5M A, w6M A, w7M A, w8M A, w9M A, w10M A, w11M A, w12M A, w13M A, w14M A, w15M A, Mw_o, true_and, Option.some.injEq, Value.ref.injEq, Value.int.injEq, Value.long.injEq, exists_eq_left', setI_f, setI_n, setL_f, setL_n, upd_s, updL_s, pk_mul, nI_add, nI_sub1, nI01, neg_not, neg1_lt, not_true_eq_false, not_false_eq_true, false_implies, true_implies, implies_true, and_true, true_and, eq_self, ref22s, ref22n, ref00, refN, tch_n, hp0, t10]
    have hlen : (lk (nI st) (L 20 0) (I 21 0) (mLst I L 0 n)).2.2.2.1.length = t := by rw [lk_m_s hfd, hev]; simp
    refine ⟨fun q => ?_, fun q => ?_⟩
    · have t9 : t < 10 := Nat.lt_of_le_of_ne tb fun z => q (by rw [z])
      refine (sp_mTouchOf htr A (by omega)).V ?_
      rintro h' rfl
      simp (disch := omega) only [g0M, g1M, g2M, g3M, g4M, g5M, g6M, g7M, g8M, g9M, g10M, g11M, g12M, g13M, g14M, g15M, g16M, g17M, g18M, g19M, g20M, g21M, g22M, p0M, p1M, p16M, p17M, p18M, p19M, p20M, p21M, p22M, r2M A, r3M A, r4M A, r5M A, r6M A, r7M A, r8M A, r9M A, r10M A, r11M A, r12M A, r13M A, r14M A, r15M A, w2M A, w3M A, w4M A, w5M A, w6M A, w7M A, w8M A, w9M A, w10M A, w11M A, w12M A, w13M A, w14M A, w15M A, Mw_o, true_and, Option.some.injEq, Value.ref.injEq, Value.int.injEq, Value.long.injEq, exists_eq_left', setI_f, setI_n, setL_f, setL_n, upd_s, updL_s, pk_mul, nI_add, nI_sub1, nI01, neg_not, neg1_lt, not_true_eq_false, not_false_eq_true, false_implies, true_implies, implies_true, and_true, true_and, eq_self, ref22s, ref22n, ref00, refN, tch_n, hp0, t10]
      refine ⟨_, rfl, 0, _, _, rfl, hst, by simp (disch := omega) only [setI_n, nI01, neg_not, neg1_lt, not_true_eq_false, not_false_eq_true, false_implies, true_implies, implies_true, and_true, true_and, eq_self, ref22s, ref22n, ref00, refN, tch_n], Or.inr ⟨rfl, some (I 7 e', L 8 e', I 9 e', (List.range t).map (fun i => L 11 (10 * e' + i)) ++ [y], [], nI 0), ?_, MSt.setp v he' (by rw [setL_n (by decide)]) (by rw [setL_n (by decide)]) (fun e2 n2 j hj => ⟨by rw [setL_f, updL_n (by omega)], by rw [setL_n (by decide)]⟩) (fun st' hst' hs7 _ => ⟨t + 1, rfl, by omega, by omega, fun z => ?_⟩) (fun X x7 x9 x10 x3 => ?_) (by simp)⟩⟩
      · refine Or.inr ⟨?_, by rw [hlen], ?_⟩
        · rw [hlen]
          rintro (z | z)
          · omega
          · rw [z.1] at hlen; simp at hlen; omega
        · rw [lk_m_s hfd, hev]
      · have : st' = st := (nI_eq (by omega) (by omega)).mp (hs7.symm.trans f7)
        subst this
        rw [hkd] at z; exact absurd z n10
      · rw [mEv_1 (kX X e' (x7.trans f7) x3) x10 (by omega), x7, x9, setL_n (by decide), setL_f, List.range_succ, List.map_append]
        simp only [List.map_cons, List.map_nil, updL_s]
        rw [map_range_congr (n := t) (f := fun i => vp_updL (L 11) (10 * e' + t) y (10 * e' + i)) (g := fun i => L 11 (10 * e' + i)) fun j hj => updL_n (by omega)]
    · have t9 : t = 10 := (nI_eq (by omega) (by omega)).mp q
      refine ⟨_, rfl, 0, _, L, rfl, hst, ref00, Or.inr ⟨rfl, none, Or.inl ⟨Or.inl (by rw [hlen]; omega), rfl, rfl⟩, MSt.no v fun g h0 h22 => refN h0 h22⟩⟩
  | none =>
    simp (disch := omega) only [g0M, g1M, g2M, g3M, g4M, g5M, g6M, g7M, g8M, g9M, g10M, g11M, g12M, g13M, g14M, g15M, g16M, g17M, g18M, g19M, g20M, g21M, g22M, p0M, p1M, p16M, p17M, p18M, p19M, p20M, p21M, p22M, r2M A, r3M A, r4M A, r5M A, r6M A, r7M A, r8M A, r9M A, r10M A, r11M A, r12M A, r13M A, r14M A, r15M A, w2M A, w3M A, w4M A, w5M A, w6M A, w7M A, w8M A, w9M A, w10M A, w11M A, w12M A, w13M A, w14M A, w15M A, Mw_o, true_and, Option.some.injEq, Value.ref.injEq, Value.int.injEq, Value.long.injEq, exists_eq_left', setI_f, setI_n, setL_f, setL_n, upd_s, updL_s, pk_mul, nI_add, nI_sub1, nI01, neg_not, neg1_lt, not_true_eq_false, not_false_eq_true, false_implies, true_implies, implies_true, and_true, true_and, eq_self, ref22s, ref22n, ref00, refN, tch_n, v3]
    have hlk := lk_m_n hfd
    refine ⟨fun q => ?_, fun q => ?_⟩
    · have hn : n < 150 := Nat.lt_of_le_of_ne v4 fun z => q (by rw [z])
      refine (sp_mNewEntry htr A (by rw [refN (by decide) (by decide)]; exact v3) hn).I ?_
      rintro r h' ⟨rfl, rfl⟩
      refine ⟨⟨_, Mw_m⟩, ?_⟩
      refine (sp_mTouchOf htr A (by omega)).V ?_
      rintro h' rfl
      rw [neI_7, neI_9, upd_s, upd_s, setL_f, updL_s, refN (by decide) (by decide)]
      have s10 : neI (refI I 0 none) n (nI i) 10 n = nI 0 := by rw [neI_10, upd_s]
      simp (disch := omega) only [g0M, g1M, g2M, g3M, g4M, g5M, g6M, g7M, g8M, g9M, g10M, g11M, g12M, g13M, g14M, g15M, g16M, g17M, g18M, g19M, g20M, g21M, g22M, p0M, p1M, p16M, p17M, p18M, p19M, p20M, p21M, p22M, r2M A, r3M A, r4M A, r5M A, r6M A, r7M A, r8M A, r9M A, r10M A, r11M A, r12M A, r13M A, r14M A, r15M A, w2M A, w3M A, w4M A, w5M A, w6M A, w7M A, w8M A, w9M A, w10M A, w11M A, w12M A, w13M A, w14M A, w15M A, Mw_o, true_and, Option.some.injEq, Value.ref.injEq, Value.int.injEq, Value.long.injEq, exists_eq_left', setI_f, setI_n, setL_f, setL_n, upd_s, updL_s, pk_mul, nI_add, nI_sub1, nI01, neg_not, neg1_lt, not_true_eq_false, not_false_eq_true, false_implies, true_implies, implies_true, and_true, true_and, eq_self, ref22s, ref22n, ref00, refN, tch_n, s10]
      refine ⟨_, rfl, 0, _, _, rfl, hst, by simp (disch := omega) only [setI_n, tch_n, neI_n, ref00], Or.inr ⟨rfl, some (nI i, L 20 0, I 21 0, [y], [], nI 0), ?_, MSt.newp v hn hi hfd (by rw [setL_n (by decide), setL_f]) (by rw [setL_n (by decide), setL_n (by decide)]) (fun e2 n2 j hj => ⟨by rw [setL_f, updL_n (by omega), setL_n (by decide)], by rw [setL_n (by decide), setL_n (by decide)]⟩) (fun _ => ⟨1, rfl, by decide, by decide, fun _ => rfl⟩) (fun X x7 x9 x10 x3 => ?_) (by simp)⟩⟩
      · rw [hlk]
        exact Or.inr ⟨fun z => by simp at z; omega, rfl, rfl⟩
      · rw [mEv_1 (kX X n x7 x3) x10 (by decide), x7, x9, setL_n (by decide), setL_f, updL_s, setL_f]
        simp [updL_s]
    · have hn : n = 150 := (nI_eq (by omega) (by omega)).mp q
      refine ⟨_, rfl, 0, _, L, rfl, hst, ref00, Or.inr ⟨rfl, none, ?_, MSt.no v fun g h0 h22 => refN h0 h22⟩⟩
      rw [hlk]
      exact Or.inl ⟨Or.inr ⟨rfl, by omega⟩, rfl, rfl⟩
theorem sp_mFold {y : Int64} (htr : l.stackTraces = false) (A : AM m am) (v : MV I L sm n) :
    mX4_fold l K [.ref m, .int s, .long y] (Mw K m am I L h) (kI fun r h' => mEnd K m am I L h (St sm (I 3) (I 4) (I 19 0) s (nI 3) (nI 3) y) (MSt I L sm n none) (fun I' L' => ∃ u i, i < sm ∧ s = nI i ∧ foldR (lk s (L 20 0) (I 21 0) (mLst I L 0 n)) n (I 4 i) y r u ∧ MSt I L sm n u I' L') h') := by
  have vv := v
  obtain ⟨v1, v2, v3, v4, v5, v6, v7, v8⟩ := vv
  refine fX4_fold htr ⟨⟨_, Mw_m⟩, ?_⟩
  refine (sp_mRefused htr A v1 v2 v3 v4).I ?_
  rintro r h' ⟨c, hc4, hst, hr, rfl⟩
  refine ⟨fun q => ?_, fun q => ⟨_, rfl, c, _, L, rfl, hst, ref00, Or.inl ⟨Nat.pos_of_ne_zero fun z => q (hr.mpr z), by omega, MSt.no v fun g h0 h22 => refN h0 h22⟩⟩⟩
  have := hr.mp q
  subst this
  obtain ⟨i, hi, rfl, hkd, -, -⟩ := hst.ix
  have hkd : I 3 i = nI 3 := hkd.elim id id
  have kX : ∀ (X : MI) e, X 7 e = nI i → X 3 = I 3 → kdE X 0 e = nI 3 := fun X e h1 h2 => by rw [kdE_st h1 (by omega), h2]; exact hkd
  cases hfd : fdM I L 0 n (nI i) (L 20 0) (I 21 0) with
  | some e =>
    obtain ⟨e', he', hee, f7, f8, f9⟩ := fdM_some hfd
    have : e' = e := by omega
    subst this
    have hp0 : nI 0 ≤ nI e' := nonneg (by omega)
    have hev := mEv_3 (L := L) (kX I e' f7 rfl)
    simp (disch := omega) only [g0M, g1M, g2M, g3M, g4M, g5M, g6M, g7M, g8M, g9M, g10M, g11M, g12M, g13M, g14M, g15M, g16M, g17M, g18M, g19M, g20M, g21M, g22M, p0M, p1M, p16M, p17M, p18M, p19M, p20M, p21M, p22M, r2M A, r3M A, r4M A, r5M A, r6M A, r7M A, r8M A, r9M A, r10M A, r11M A, r12M A, r13M A, r14M A, r15M A, w2M A, w3M A, w4M A, w5M A, w6M A, w7M A, w8M A, w9M A, w10M A, w11M A, w12M A, w13M A, w14M A, w15M A, Mw_o, true_and, Option.some.injEq, Value.ref.injEq, Value.int.injEq, Value.long.injEq, exists_eq_left', setI_f, setI_n, setL_f, setL_n, upd_s, updL_s, pk_mul, nI_add, nI_sub1, nI01, neg_not, neg1_lt, not_true_eq_false, not_false_eq_true, false_implies, true_implies, implies_true, and_true, true_and, eq_self, ref22s, ref22n, ref00, refN, tch_n, hp0]
    refine (sp_mTouchOf htr A (by omega)).V ?_
    rintro h' rfl
    simp (disch := omega) only [g0M, g1M, g2M, g3M, g4M, g5M, g6M, g7M, g8M, g9M, g10M, g11M, g12M, g13M, g14M, g15M, g16M, g17M, g18M, g19M, g20M, g21M, g22M, p0M, p1M, p16M, p17M, p18M, p19M, p20M, p21M, p22M, r2M A, r3M A, r4M A, r5M A, r6M A, r7M A, r8M A, r9M A, r10M A, r11M A, r12M A, r13M A, r14M A, r15M A, w2M A, w3M A, w4M A, w5M A, w6M A, w7M A, w8M A, w9M A, w10M A, w11M A, w12M A, w13M A, w14M A, w15M A, Mw_o, true_and, Option.some.injEq, Value.ref.injEq, Value.int.injEq, Value.long.injEq, exists_eq_left', setI_f, setI_n, setL_f, setL_n, upd_s, updL_s, pk_mul, nI_add, nI_sub1, nI01, neg_not, neg1_lt, not_true_eq_false, not_false_eq_true, false_implies, true_implies, implies_true, and_true, true_and, eq_self, ref22s, ref22n, ref00, refN, tch_n, hp0]
    refine (sp_mFolded htr).L ?_
    rintro z h' ⟨rfl, rfl⟩
    simp (disch := omega) only [g0M, g1M, g2M, g3M, g4M, g5M, g6M, g7M, g8M, g9M, g10M, g11M, g12M, g13M, g14M, g15M, g16M, g17M, g18M, g19M, g20M, g21M, g22M, p0M, p1M, p16M, p17M, p18M, p19M, p20M, p21M, p22M, r2M A, r3M A, r4M A, r5M A, r6M A, r7M A, r8M A, r9M A, r10M A, r11M A, r12M A, r13M A, r14M A, r15M A, w2M A, w3M A, w4M A, w5M A, w6M A, w7M A, w8M A, w9M A, w10M A, w11M A, w12M A, w13M A, w14M A, w15M A, Mw_o, true_and, Option.some.injEq, Value.ref.injEq, Value.int.injEq, Value.long.injEq, exists_eq_left', setI_f, setI_n, setL_f, setL_n, upd_s, updL_s, pk_mul, nI_add, nI_sub1, nI01, neg_not, neg1_lt, not_true_eq_false, not_false_eq_true, false_implies, true_implies, implies_true, and_true, true_and, eq_self, ref22s, ref22n, ref00, refN, tch_n, hp0]
    refine ⟨_, rfl, 0, _, _, rfl, hst, by simp (disch := omega) only [setI_n, nI01, neg_not, neg1_lt, not_true_eq_false, not_false_eq_true, false_implies, true_implies, implies_true, and_true, true_and, eq_self, ref22s, ref22n, ref00, refN, tch_n], Or.inr ⟨rfl, some (I 7 e', L 8 e', I 9 e', [jn (I 4 i) (L 11 (10 * e')) y], [], I 10 e' + nI 1), i, hi, rfl, ?_, MSt.setp v he' (by rw [setL_n (by decide)]) (by rw [setL_n (by decide)]) (fun e2 n2 j hj => ⟨by rw [setL_f, updL_n (by omega)], by rw [setL_n (by decide)]⟩) (fun st' hst' hs7 hk9 => ?_) (fun X x7 x9 x10 x3 => ?_) (by simp)⟩⟩
    · rw [lk_m_s hfd, hev]
      refine Or.inr ⟨fun z => by simp at z, rfl, ?_⟩
      simp
    · have : st' = i := (nI_eq (by omega) (by omega)).mp (hs7.symm.trans f7)
      subst this
      exact absurd hkd hk9
    · rw [mEv_3 (kX X e' (x7.trans f7) x3), x7, x9, x10, setL_n (by decide), setL_f, updL_s]
  | none =>
    simp (disch := omega) only [g0M, g1M, g2M, g3M, g4M, g5M, g6M, g7M, g8M, g9M, g10M, g11M, g12M, g13M, g14M, g15M, g16M, g17M, g18M, g19M, g20M, g21M, g22M, p0M, p1M, p16M, p17M, p18M, p19M, p20M, p21M, p22M, r2M A, r3M A, r4M A, r5M A, r6M A, r7M A, r8M A, r9M A, r10M A, r11M A, r12M A, r13M A, r14M A, r15M A, w2M A, w3M A, w4M A, w5M A, w6M A, w7M A, w8M A, w9M A, w10M A, w11M A, w12M A, w13M A, w14M A, w15M A, Mw_o, true_and, Option.some.injEq, Value.ref.injEq, Value.int.injEq, Value.long.injEq, exists_eq_left', setI_f, setI_n, setL_f, setL_n, upd_s, updL_s, pk_mul, nI_add, nI_sub1, nI01, neg_not, neg1_lt, not_true_eq_false, not_false_eq_true, false_implies, true_implies, implies_true, and_true, true_and, eq_self, ref22s, ref22n, ref00, refN, tch_n, v3]
    have hlk := lk_m_n hfd
    refine ⟨fun q => ?_, fun q => ?_⟩
    · have hn : n < 150 := Nat.lt_of_le_of_ne v4 fun z => q (by rw [z])
      refine (sp_mNewEntry htr A (by rw [refN (by decide) (by decide)]; exact v3) hn).I ?_
      rintro r h' ⟨rfl, rfl⟩
      refine ⟨⟨_, Mw_m⟩, ?_⟩
      refine (sp_mTouchOf htr A (by omega)).V ?_
      rintro h' rfl
      rw [neI_7, neI_9, upd_s, upd_s, setL_f, updL_s, refN (by decide) (by decide)]
      have s10 : neI (refI I 0 none) n (nI i) 10 n = nI 0 := by rw [neI_10, upd_s]
      simp (disch := omega) only [g0M, g1M, g2M, g3M, g4M, g5M, g6M, g7M, g8M, g9M, g10M, g11M, g12M, g13M, g14M, g15M, g16M, g17M, g18M, g19M, g20M, g21M, g22M, p0M, p1M, p16M, p17M, p18M, p19M, p20M, p21M, p22M, r2M A, r3M A, r4M A, r5M A, r6M A, r7M A, r8M A, r9M A, r10M A, r11M A, r12M A, r13M A, r14M A, r15M A, w2M A, w3M A, w4M A, w5M A, w6M A, w7M A, w8M A, w9M A, w10M A, w11M A, w12M A, w13M A, w14M A, w15M A, Mw_o, true_and, Option.some.injEq, Value.ref.injEq, Value.int.injEq, Value.long.injEq, exists_eq_left', setI_f, setI_n, setL_f, setL_n, upd_s, updL_s, pk_mul, nI_add, nI_sub1, nI01, neg_not, neg1_lt, not_true_eq_false, not_false_eq_true, false_implies, true_implies, implies_true, and_true, true_and, eq_self, ref22s, ref22n, ref00, refN, tch_n, s10]
      refine ⟨_, rfl, 0, _, _, rfl, hst, by simp (disch := omega) only [setI_n, tch_n, neI_n, ref00], Or.inr ⟨rfl, some (nI i, L 20 0, I 21 0, [y], [], nI 1), i, hi, rfl, ?_, MSt.newp v hn hi hfd (by rw [setL_n (by decide), setL_f]) (by rw [setL_n (by decide), setL_n (by decide)]) (fun e2 n2 j hj => ⟨by rw [setL_f, updL_n (by omega), setL_n (by decide)], by rw [setL_n (by decide), setL_n (by decide)]⟩) (fun z => absurd hkd z) (fun X x7 x9 x10 x3 => ?_) (by simp)⟩⟩
      · rw [hlk]
        exact Or.inr ⟨fun z => by omega, rfl, rfl⟩
      · rw [mEv_3 (kX X n x7 x3), x7, x9, x10, setL_n (by decide), setL_f, updL_s, setL_f, updL_s]
    · have hn : n = 150 := (nI_eq (by omega) (by omega)).mp q
      refine ⟨_, rfl, 0, _, L, rfl, hst, ref00, Or.inr ⟨rfl, none, i, hi, rfl, ?_, MSt.no v fun g h0 h22 => refN h0 h22⟩⟩
      rw [hlk]
      exact Or.inl ⟨rfl, by omega, rfl, rfl⟩
theorem sp_mClear (htr : l.stackTraces = false) (A : AM m am) (v : MV I L sm n) :
    mX4_clear l K [.ref m, .int s] (Mw K m am I L h) (kI fun r h' => mEnd K m am I L h (Sk sm (I 19 0) s) (MSt I L sm n none) (fun I' L' => ∃ u, clrR (lk s (L 20 0) (I 21 0) (mLst I L 0 n)) r u ∧ MSt I L sm n u I' L') h') := by
  have vv := v
  obtain ⟨v1, v2, v3, v4, v5, v6, v7, v8⟩ := vv
  refine fX4_clear htr ⟨⟨_, Mw_m⟩, ?_⟩
  refine (sp_mLacks htr A v1 v3 v4).I ?_
  rintro r h' ⟨c, hc4, hst, hr, rfl⟩
  refine ⟨fun q => ⟨_, rfl, c, _, L, rfl, hst, ref00, Or.inl ⟨Nat.pos_of_ne_zero fun z => q (hr.mpr z), by omega, MSt.no v fun g h0 h22 => refN h0 h22⟩⟩, fun q => ?_⟩
  have := hr.mp q
  subst this
  cases hfd : fdM I L 0 n s (L 20 0) (I 21 0) with
  | some e =>
    obtain ⟨e', he', hee, f7, f8, f9⟩ := fdM_some hfd
    have : e' = e := by omega
    subst this
    have hp0 : nI 0 ≤ nI e' := nonneg (by omega)
    simp (disch := omega) only [g0M, g1M, g2M, g3M, g4M, g5M, g6M, g7M, g8M, g9M, g10M, g11M, g12M, g13M, g14M, g15M, g16M, g17M, g18M, g19M, g20M, g21M, g22M, p0M, p1M, p16M, p17M, p18M, p19M, p20M, p21M, p22M, r2M A, r3M A, r4M A, r5M A, r6M A, r7M A, r8M A, r9M A, r10M A, r11M A, r12M A, r13M A, r14M A, r15M A, w2M A, w3M A, w4M A, w5M A, w6M A, w7M A, w8M A, w9M A, w10M A, w11M A, w12M A, w13M A, w14M A, w15M A, Mw_o, true_and, Option.some.injEq, Value.ref.injEq, Value.int.injEq, Value.long.injEq, exists_eq_left', setI_f, setI_n, setL_f, setL_n, upd_s, updL_s, pk_mul, nI_add, nI_sub1, nI01, neg_not, neg1_lt, not_true_eq_false, not_false_eq_true, false_implies, true_implies, implies_true, and_true, true_and, eq_self, ref22s, ref22n, ref00, refN, tch_n, hp0]
    refine (sp_mDropEntry htr A (by rw [refN (by decide) (by decide)]; exact v3) v4 he').V ?_
    rintro h' rfl
    have hne : (mEv I L 0 e').2.2.2.1 ≠ [] := by
      obtain ⟨st, hst9, s7, tk⟩ := v5 e' he'
      unfold mEv
      simp only
      split
      · simp
      · rename_i q9
        have hk2 : kdE I 0 e' = I 3 (8 * 0 + st) := by simp only [kdE, s7, nI_clamp (show st < 2 ^ 31 by omega)]
        obtain ⟨t, t10, t0, tb, -⟩ := tk (by rw [← hk2]; exact fun z => q9 (Or.inr z))
        intro z
        have := congrArg List.length z
        simp only [List.length_map, List.length_range, List.length_nil, szN, t10, nI_clamp (show t < 2 ^ 31 by omega)] at this
        omega
    refine ⟨_, rfl, 0, _, _, rfl, hst, ?_, Or.inr ⟨rfl, some (I 7 e', L 8 e', I 9 e', [], [], nI 0), ?_, MSt.dropp v he' rfl rfl⟩⟩
    · have := (drop_all (v.up (I' := refI I 0 (some e')) (fun g h0 h22 => refN h0 h22)).1 he').2.2.2.2.2 0 (by decide) (by decide) (by decide) (by decide) (by decide) (by decide) (by decide)
      rw [this, ref00]
    · rw [lk_m_s hfd]
      exact Or.inr ⟨hne, rfl, rfl⟩
  | none =>
    simp (disch := omega) only [g0M, g1M, g2M, g3M, g4M, g5M, g6M, g7M, g8M, g9M, g10M, g11M, g12M, g13M, g14M, g15M, g16M, g17M, g18M, g19M, g20M, g21M, g22M, p0M, p1M, p16M, p17M, p18M, p19M, p20M, p21M, p22M, r2M A, r3M A, r4M A, r5M A, r6M A, r7M A, r8M A, r9M A, r10M A, r11M A, r12M A, r13M A, r14M A, r15M A, w2M A, w3M A, w4M A, w5M A, w6M A, w7M A, w8M A, w9M A, w10M A, w11M A, w12M A, w13M A, w14M A, w15M A, Mw_o, true_and, Option.some.injEq, Value.ref.injEq, Value.int.injEq, Value.long.injEq, exists_eq_left', setI_f, setI_n, setL_f, setL_n, upd_s, updL_s, pk_mul, nI_add, nI_sub1, nI01, neg_not, neg1_lt, not_true_eq_false, not_false_eq_true, false_implies, true_implies, implies_true, and_true, true_and, eq_self, ref22s, ref22n, ref00, refN, tch_n]
    refine ⟨_, rfl, 0, _, L, rfl, hst, ref00, Or.inr ⟨rfl, none, ?_, MSt.no v fun g h0 h22 => refN h0 h22⟩⟩
    rw [lk_m_n hfd]
    exact Or.inl ⟨rfl, rfl, rfl⟩
end Mod
