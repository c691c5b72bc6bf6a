/-! ===== the reference: set and remove ===== -/
/-- the numbers behind place k moved up by one -/
def upS (F : Nat → Int64) (b k t : Nat) : Nat → Int64 := fun x => if b + k < x ∧ x ≤ b + t then F (x - 1) else F x
def dnS (F : Nat → Int64) (b j k : Nat) : Nat → Int64 := fun x => if b + j ≤ x ∧ x < b + k then F (x + 1) else F x
def upLs (L : ML) (b k t : Nat) : ML := fun g => if g = 11 ∨ g = 12 then upS (L g) b k t else L g
def dnLs (L : ML) (b j k : Nat) : ML := fun g => if g = 11 ∨ g = 12 then dnS (L g) b j k else L g
theorem upS_t {F : Nat → Int64} {b t : Nat} : upS F b t t = F := by
  funext x; unfold upS; rw [if_neg (by omega)]
theorem dnS_j {F : Nat → Int64} {b j : Nat} : dnS F b j j = F := by
  funext x; unfold dnS; rw [if_neg (by omega)]
theorem upS_s {F : Nat → Int64} {b k t : Nat} (hk : k < t) : vp_updL (upS F b (k + 1) t) (b + (k + 1)) (upS F b (k + 1) t (b + (k + 1) - 1)) = upS F b k t := by
  funext x
  by_cases y : x = b + (k + 1)
  · subst y
    rw [updL_s]
    unfold upS
    rw [if_neg (by omega), if_pos (by omega)]
  · rw [updL_n y]
    unfold upS
    by_cases z : b + (k + 1) < x ∧ x ≤ b + t
    · rw [if_pos z, if_pos (by omega)]
    · rw [if_neg z, if_neg (by omega)]
theorem dnS_s {F : Nat → Int64} {b j k : Nat} (hk : j ≤ k) : vp_updL (dnS F b j k) (b + k) (dnS F b j k (b + k + 1)) = dnS F b j (k + 1) := by
  funext x
  by_cases y : x = b + k
  · subst y
    rw [updL_s]
    unfold dnS
    rw [if_neg (by omega), if_pos (by omega)]
  · rw [updL_n y]
    unfold dnS
    by_cases z : b + j ≤ x ∧ x < b + k
    · rw [if_pos z, if_pos (by omega)]
    · rw [if_neg z, if_neg (by omega)]
theorem upLs_t {L : ML} {b t : Nat} : upLs L b t t = L := by
  funext g; unfold upLs; rw [upS_t]; split <;> rfl
theorem dnLs_j {L : ML} {b j : Nat} : dnLs L b j j = L := by
  funext g; unfold dnLs; rw [dnS_j]; split <;> rfl
theorem setL2_ext {L M : ML} {j : Nat} {a b : Int64} (h11 : vp_updL (L 11) j a = M 11) (h12 : vp_updL (L 12) j b = M 12) (h : ∀ g, g ≠ 11 → g ≠ 12 → L g = M g) : setL (setL L 11 j a) 12 j b = M := by
  funext g
  by_cases y : g = 12
  · subst y; rw [setL_f, setL_n (by decide), h12]
  · rw [setL_n y]
    by_cases z : g = 11
    · subst z; rw [setL_f, h11]
    · rw [setL_n z, h g z y]
theorem upLs_s {L : ML} {b k t : Nat} (hk : k < t) : setL (setL (upLs L b (k + 1) t) 11 (b + (k + 1)) (upLs L b (k + 1) t 11 (b + (k + 1) - 1))) 12 (b + (k + 1)) (upLs L b (k + 1) t 12 (b + (k + 1) - 1)) = upLs L b k t := by
  refine setL2_ext ?_ ?_ fun g h1 h2 => ?_
  · simp only [upLs, true_or, if_true]; exact upS_s hk
  · simp only [upLs, or_true, if_true]; exact upS_s hk
  · simp only [upLs, h1, h2, or_self, if_false]
theorem dnLs_s {L : ML} {b j k : Nat} (hk : j ≤ k) : setL (setL (dnLs L b j k) 11 (b + k) (dnLs L b j k 11 (b + k + 1))) 12 (b + k) (dnLs L b j k 12 (b + k + 1)) = dnLs L b j (k + 1) := by
  refine setL2_ext ?_ ?_ fun g h1 h2 => ?_
  · simp only [dnLs, true_or, if_true]; exact dnS_s hk
  · simp only [dnLs, or_true, if_true]; exact dnS_s hk
  · simp only [dnLs, h1, h2, or_self, if_false]
theorem ins_m {F : Nat → Int64} {b j t : Nat} {y : Int64} (hj : j ≤ t) : (List.range (t + 1)).map (fun i => vp_updL (upS F b j t) (b + j) y (b + i)) = ((List.range t).map (fun i => F (b + i))).insertIdx j y := by
  apply List.ext_getElem?
  intro i
  rw [List.getElem?_map, List.getElem?_insertIdx]
  simp only [List.length_map, List.length_range, List.getElem?_map]
  by_cases hi : i < t + 1
  · rw [List.getElem?_range hi]
    simp only [Option.map_some]
    by_cases y1 : i < j
    · rw [if_pos y1, List.getElem?_range (by omega), updL_n (by omega)]
      simp only [Option.map_some, upS]
      rw [if_neg (by omega)]
    · rw [if_neg y1]
      by_cases y2 : i = j
      · rw [if_pos y2, if_pos (by omega), y2, updL_s]
      · rw [if_neg y2, List.getElem?_range (by omega), updL_n (by omega)]
        simp only [Option.map_some, upS]
        rw [if_pos (by omega)]
        congr 2
        omega
  · rw [List.getElem?_eq_none (by simp; omega), if_neg (by omega), if_neg (by omega), List.getElem?_eq_none (by simp; omega)]
    rfl
theorem ers_m {F : Nat → Int64} {b j t : Nat} (hj : j < t) : (List.range (t - 1)).map (fun i => dnS F b j (t - 1) (b + i)) = ((List.range t).map (fun i => F (b + i))).eraseIdx j := by
  apply List.ext_getElem?
  intro i
  rw [List.getElem?_map, List.getElem?_eraseIdx]
  by_cases hi : i < t - 1
  · rw [List.getElem?_range hi]
    simp only [Option.map_some]
    by_cases y1 : i < j
    · rw [if_pos y1, List.getElem?_map, List.getElem?_range (by omega)]
      simp only [Option.map_some, dnS]
      rw [if_neg (by omega)]
    · rw [if_neg y1, List.getElem?_map, List.getElem?_range (by omega)]
      simp only [Option.map_some, dnS]
      rw [if_pos (by omega)]
      congr 2
  · rw [List.getElem?_eq_none (by simp; omega)]
    split
    · omega
    · rw [List.getElem?_eq_none (by simp; omega)]
      rfl
theorem set_m {F : Nat → Int64} {b j t : Nat} {y : Int64} : (List.range t).map (fun i => vp_updL F (b + j) y (b + i)) = ((List.range t).map (fun i => F (b + i))).set j y := by
  apply List.ext_getElem?
  intro i
  rw [List.getElem?_map, List.getElem?_set, List.getElem?_map]
  by_cases hi : i < t
  · rw [List.getElem?_range hi]
    simp only [Option.map_some, List.length_map, List.length_range]
    by_cases y2 : j = i
    · subst y2; rw [if_pos rfl, if_pos hi, updL_s]
    · rw [if_neg y2, updL_n (by omega)]
  · rw [List.getElem?_eq_none (by simp; omega)]
    split
    · rw [if_neg (by simp; omega)]; rfl
    · rfl
theorem upLs_o {L : ML} {e e2 j t i : Nat} (n2 : e2 ≠ e) (ht : t < 10) (hi : i < 10) : upLs L (10 * e) j t 11 (10 * e2 + i) = L 11 (10 * e2 + i) ∧ upLs L (10 * e) j t 12 (10 * e2 + i) = L 12 (10 * e2 + i) := by
  simp only [upLs, true_or, or_true, if_true, upS]
  rw [if_neg (by omega)]
  exact ⟨rfl, if_neg (by omega)⟩
theorem dnLs_o {L : ML} {e e2 j t i : Nat} (n2 : e2 ≠ e) (ht : t ≤ 10) (hi : i < 10) : dnLs L (10 * e) j t 11 (10 * e2 + i) = L 11 (10 * e2 + i) ∧ dnLs L (10 * e) j t 12 (10 * e2 + i) = L 12 (10 * e2 + i) := by
  simp only [dnLs, true_or, or_true, if_true, dnS]
  rw [if_neg (by omega)]
  exact ⟨rfl, if_neg (by omega)⟩
theorem upLs_g {L : ML} {b j t g : Nat} (h1 : g ≠ 11) (h2 : g ≠ 12) : upLs L b j t g = L g := by simp only [upLs, h1, h2, or_self, if_false]
theorem dnLs_g {L : ML} {b j t g : Nat} (h1 : g ≠ 11) (h2 : g ≠ 12) : dnLs L b j t g = L g := by simp only [dnLs, h1, h2, or_self, if_false]
theorem upLs_11 {L : ML} {b j t : Nat} : upLs L b j t 11 = upS (L 11) b j t := by simp only [upLs, true_or, if_true]
theorem upLs_12 {L : ML} {b j t : Nat} : upLs L b j t 12 = upS (L 12) b j t := by simp only [upLs, or_true, if_true]
theorem dnLs_11 {L : ML} {b j t : Nat} : dnLs L b j t 11 = dnS (L 11) b j t := by simp only [dnLs, true_or, if_true]
theorem dnLs_12 {L : ML} {b j t : Nat} : dnLs L b j t 12 = dnS (L 12) b j t := by simp only [dnLs, or_true, if_true]
theorem cbR_inj {f : Nat → Int64} {t : Nat} {x : Int64} {j j' : Nat} (h : cbR f t x j) (h' : cbR f t x j') : j' = j := by
  rcases Nat.lt_trichotomy j' j with y | y | y
  · exact absurd (h.2.1 j' y) (h'.2.2 (by have := h.1; omega))
  · exact y
  · exact absurd (h'.2.1 j y) (h.2.2 (by have := h'.1; omega))
section Mod
variable {l : Launch} {K : Kx} {m : Nat} {am : Nat → Nat} {I I' : MI} {L L' : ML} {h : Hp} {sm n : Nat} {s : Int32}
theorem sp_mRemove {x : Int64} (htr : l.stackTraces = false) (A : AM m am) (v : MV I L sm n) :
    mX4_remove l K [.ref m, .int s, .long x] (Mw K m am I L h) (kI fun r h' => mEnd K m am I L h (St sm (I 3) (I 4) (I 19 0) s (nI 2) (nI 2) 0) (MSt I L sm n none) (fun I' L' => ∃ u, remR (lk s (L 20 0) (I 21 0) (mLst I L 0 n)) x r u ∧ MSt I L sm n u I' L') h') := by
  have vv := v
  obtain ⟨v1, v2, v3, v4, v5, v6, v7, v8⟩ := vv
  refine fX4_remove htr ⟨⟨_, Mw_m⟩, ?_⟩
  refine (sp_mRefused htr A v1 v2 v3 v4).I ?_
  rintro r h' ⟨c, hc4, hst, hr, rfl⟩
  refine ⟨fun q => ⟨_, rfl, c, _, L, rfl, hst, ref00, Or.inl ⟨Nat.pos_of_ne_zero fun z => q (hr.mpr z), by omega, MSt.no v fun g h0 h22 => refN h0 h22⟩⟩, fun q => ?_⟩
  have := hr.mp q
  subst this
  obtain ⟨i9, hi, rfl, hkd, -, -⟩ := hst.ix
  have hkd : I 3 i9 = nI 2 := hkd.elim id id
  have n20 : ¬ nI 2 = nI 0 := by decide
  have kX : ∀ (X : MI) e, X 7 e = nI i9 → X 3 = I 3 → kdE X 0 e = nI 2 := fun X e h1 h2 => by rw [kdE_st h1 (by omega), h2]; exact hkd
  cases hfd : fdM I L 0 n (nI i9) (L 20 0) (I 21 0) with
  | some e =>
    obtain ⟨e', he', hee, f7, f8, f9⟩ := fdM_some hfd
    have : e' = e := by omega
    subst this
    obtain ⟨st, hst9, s7, tk⟩ := v5 e' he'
    have hsti : st = i9 := (nI_eq (by omega) (by omega)).mp (s7.symm.trans f7)
    subst hsti
    simp only [Nat.mul_zero, Nat.zero_add] at tk
    obtain ⟨t, t10, t0, tb, -⟩ := tk (by rw [hkd]; decide)
    have hev := mEv_2 (L := L) (kX I e' f7 rfl) t10 (by omega)
    have r10 : refI I 0 (some e') 10 e' = nI t := by rw [refN (by decide) (by decide)]; exact t10
    refine ⟨_, g22M, ⟨_, Mw_m⟩, ?_⟩
    rw [ref22s, lk_m_s hfd, hev]
    refine (sp_mHas htr A (by omega) r10 tb).I ?_
    rintro r h' ⟨⟨j, hj, z⟩, rfl⟩
    rcases z with ⟨rfl, z1, z2⟩ | ⟨rfl, z⟩
    · refine ⟨fun _ => ?_, fun q => absurd q nI01⟩
      simp (disch := omega) only [g0M, g1M, g2M, g3M, g4M, g5M, g6M, g7M, g8M, g9M, g10M, g11M, g12M, g13M, g14M, g15M, g16M, g17M, g18M, g19M, g20M, g21M, g22M, p0M, p1M, p16M, p17M, p18M, p19M, p20M, p21M, p22M, r2M A, r3M A, r4M A, r5M A, r6M A, r7M A, r8M A, r9M A, r10M A, r11M A, r12M A, r13M A, r14M A, r15M A, w2M A, w3M A, w4M A, w5M A, w6M A, w7M A, w8M A, w9M A, w10M A, w11M A, w12M A, w13M A, w14M A, w15M A, Mw_o, true_and, Option.some.injEq, Value.ref.injEq, Value.int.injEq, Value.long.injEq, exists_eq_left', setI_f, setI_n, setL_f, setL_n, upd_s, updL_s, pk_mul, nI_add, nI_sub1, nI01, neg_not, neg1_lt, not_true_eq_false, not_false_eq_true, false_implies, true_implies, implies_true, and_true, true_and, eq_self, ref22s, ref22n, ref00, refN, tch_n, t10]
      refine ⟨fun q => ?_, fun q => ?_⟩
      · have t1 : t ≠ 1 := fun z => q (by rw [z])
        refine (sp_mTouchOf htr A (by omega)).V ?_
        rintro h' rfl
        simp (disch := omega) only [g0M, g1M, g2M, g3M, g4M, g5M, g6M, g7M, g8M, g9M, g10M, g11M, g12M, g13M, g14M, g15M, g16M, g17M, g18M, g19M, g20M, g21M, g22M, p0M, p1M, p16M, p17M, p18M, p19M, p20M, p21M, p22M, r2M A, r3M A, r4M A, r5M A, r6M A, r7M A, r8M A, r9M A, r10M A, r11M A, r12M A, r13M A, r14M A, r15M A, w2M A, w3M A, w4M A, w5M A, w6M A, w7M A, w8M A, w9M A, w10M A, w11M A, w12M A, w13M A, w14M A, w15M A, Mw_o, true_and, Option.some.injEq, Value.ref.injEq, Value.int.injEq, Value.long.injEq, exists_eq_left', setI_f, setI_n, setL_f, setL_n, upd_s, updL_s, pk_mul, nI_add, nI_sub1, nI01, neg_not, neg1_lt, not_true_eq_false, not_false_eq_true, false_implies, true_implies, implies_true, and_true, true_and, eq_self, ref22s, ref22n, ref00, refN, tch_n]
        refine (sp_mPlaceOf htr A (by omega) (sz := t) (by simp (disch := omega) only [nI01, neg_not, neg1_lt, not_true_eq_false, not_false_eq_true, false_implies, true_implies, implies_true, and_true, true_and, eq_self, ref22s, ref22n, ref00, refN, tch_n]; exact t10) tb).I ?_
        rintro r h' ⟨⟨j', rfl, hj'⟩, rfl⟩
        have := cbR_inj hj hj'
        subst this
        intro X hX
        refine (?_ : X (nI j') (Mw K m am _ L h))
        rw [← dnLs_j (L := L) (b := 10 * e') (j := j')]
        refine loopN (n := t - 1) (fun k => j' ≤ k → X (nI k) (Mw K m am _ (dnLs L (10 * e') j' k) h)) ?_ ?_ j' (by omega) (Nat.le_refl _)
        · intro _
          refine hX _ _ ?_
          have hle : nI t ≤ nI (t - 1 + 1) := nI_le (by omega) (by omega)
          simp (disch := omega) only [g0M, g1M, g2M, g3M, g4M, g5M, g6M, g7M, g8M, g9M, g10M, g11M, g12M, g13M, g14M, g15M, g16M, g17M, g18M, g19M, g20M, g21M, g22M, p0M, p1M, p16M, p17M, p18M, p19M, p20M, p21M, p22M, r2M A, r3M A, r4M A, r5M A, r6M A, r7M A, r8M A, r9M A, r10M A, r11M A, r12M A, r13M A, r14M A, r15M A, w2M A, w3M A, w4M A, w5M A, w6M A, w7M A, w8M A, w9M A, w10M A, w11M A, w12M A, w13M A, w14M A, w15M A, Mw_o, true_and, Option.some.injEq, Value.ref.injEq, Value.int.injEq, Value.long.injEq, exists_eq_left', setI_f, setI_n, setL_f, setL_n, upd_s, updL_s, pk_mul, nI_add, nI_sub1, nI01, neg_not, neg1_lt, not_true_eq_false, not_false_eq_true, false_implies, true_implies, implies_true, and_true, true_and, eq_self, ref22s, ref22n, ref00, refN, tch_n, t10, hle]
          have e10 : nI t - nI 1 = nI (t - 1) := pk_sub (by omega)
          rw [e10]
          refine ⟨_, rfl, 0, _, _, rfl, hst, by simp (disch := omega) only [setI_n, nI01, neg_not, neg1_lt, not_true_eq_false, not_false_eq_true, false_implies, true_implies, implies_true, and_true, true_and, eq_self, ref22s, ref22n, ref00, refN, tch_n], Or.inr ⟨rfl, some (I 7 e', L 8 e', I 9 e', ((List.range t).map (fun i => L 11 (10 * e' + i))).eraseIdx j', ((List.range t).map (fun i => L 12 (10 * e' + i))).eraseIdx j', nI 0), ⟨j', plm_m hj, Or.inl ⟨has_m.mpr ⟨z1, z2⟩, rfl, rfl⟩⟩, MSt.setp v he' (dnLs_g (by decide) (by decide)) (dnLs_g (by decide) (by decide)) (fun e2 n2 i hi9 => dnLs_o n2 (by omega) hi9) (fun st' hst' hs7 _ => ⟨t - 1, rfl, by omega, by omega, fun z => ?_⟩) (fun X x7 x9 x10 x3 => ?_) ?_⟩⟩
          · have : st' = st := (nI_eq (by omega) (by omega)).mp (hs7.symm.trans f7)
            subst this
            rw [hkd] at z; exact absurd z n20
          · rw [mEv_2 (kX X e' (x7.trans f7) x3) x10 (by omega), x7, x9, dnLs_g (by decide) (by decide), dnLs_11, dnLs_12, ers_m z1, ers_m z1]
          · intro z
            have := congrArg List.length z
            simp only [List.length_eraseIdx, List.length_map, List.length_range, List.length_nil] at this
            split at this <;> omega
        · intro k hk ih hjk
          refine hX _ _ ?_
          have hle : ¬ nI t ≤ nI (k + 1) := nI_ge (by omega) (by omega)
          simp (disch := omega) only [g0M, g1M, g2M, g3M, g4M, g5M, g6M, g7M, g8M, g9M, g10M, g11M, g12M, g13M, g14M, g15M, g16M, g17M, g18M, g19M, g20M, g21M, g22M, p0M, p1M, p16M, p17M, p18M, p19M, p20M, p21M, p22M, r2M A, r3M A, r4M A, r5M A, r6M A, r7M A, r8M A, r9M A, r10M A, r11M A, r12M A, r13M A, r14M A, r15M A, w2M A, w3M A, w4M A, w5M A, w6M A, w7M A, w8M A, w9M A, w10M A, w11M A, w12M A, w13M A, w14M A, w15M A, Mw_o, true_and, Option.some.injEq, Value.ref.injEq, Value.int.injEq, Value.long.injEq, exists_eq_left', setI_f, setI_n, setL_f, setL_n, upd_s, updL_s, pk_mul, nI_add, nI_sub1, nI01, neg_not, neg1_lt, not_true_eq_false, not_false_eq_true, false_implies, true_implies, implies_true, and_true, true_and, eq_self, ref22s, ref22n, ref00, refN, tch_n, t10, hle]
          have := ih (by omega)
          rw [← dnLs_s hjk] at this
          exact this
      · have t1 : t = 1 := (nI_eq (by omega) (by omega)).mp q
        refine (sp_mDropEntry htr A (by rw [refN (by decide) (by decide)]; exact v3) v4 he').V ?_
        rintro h' rfl
        refine ⟨_, rfl, 0, _, _, rfl, hst, ?_, Or.inr ⟨rfl, some (I 7 e', L 8 e', I 9 e', ((List.range t).map (fun i => L 11 (10 * e' + i))).eraseIdx j, ((List.range t).map (fun i => L 12 (10 * e' + i))).eraseIdx j, nI 0), ⟨j, plm_m hj, Or.inl ⟨has_m.mpr ⟨z1, z2⟩, rfl, rfl⟩⟩, MSt.dropp v he' rfl ?_⟩⟩
        · have := (drop_all (v.up (I' := refI I 0 (some e')) (fun g h0 h22 => refN h0 h22)).1 he').2.2.2.2.2 0 (by decide) (by decide) (by decide) (by decide) (by decide) (by decide) (by decide)
          rw [this, ref00]
        · have j0 : j = 0 := by omega
          subst t1; subst j0; rfl
    · refine ⟨fun q => absurd rfl q, fun _ => ⟨_, rfl, 0, _, L, rfl, hst, ref00, Or.inr ⟨rfl, none, ⟨j, plm_m hj, Or.inr ⟨fun y => z (has_m.mp y), rfl, rfl⟩⟩, MSt.no v fun g h0 h22 => refN h0 h22⟩⟩⟩
  | none =>
    refine ⟨_, g22M, ⟨_, Mw_m⟩, ?_⟩
    rw [ref22n, lk_m_n hfd]
    refine (sp_mHasN htr).I ?_
    rintro r h' ⟨rfl, rfl⟩
    exact ⟨fun q => absurd rfl q, fun _ => ⟨_, rfl, 0, _, L, rfl, hst, ref00, Or.inr ⟨rfl, none, ⟨0, plm_0, Or.inr ⟨has_0, rfl, rfl⟩⟩, MSt.no v fun g h0 h22 => refN h0 h22⟩⟩⟩
theorem sp_mSet {x y : Int64} (htr : l.stackTraces = false) (A : AM m am) (v : MV I L sm n) :
    mX4_set l K [.ref m, .int s, .long x, .long y] (Mw K m am I L h) (kI fun r h' => mEnd K m am I L h (St sm (I 3) (I 4) (I 19 0) s (nI 2) (nI 2) y) (MSt I L sm n none) (fun I' L' => ∃ u, setR (lk s (L 20 0) (I 21 0) (mLst I L 0 n)) n x y r u ∧ MSt I L sm n u I' L') h') := by
  have vv := v
  obtain ⟨v1, v2, v3, v4, v5, v6, v7, v8⟩ := vv
  refine fX4_set htr ⟨⟨_, Mw_m⟩, ?_⟩
  refine (sp_mRefused htr A v1 v2 v3 v4).I ?_
  rintro r h' ⟨c, hc4, hst, hr, rfl⟩
  refine ⟨fun q => ?_, fun q => ⟨_, rfl, c, _, L, rfl, hst, ref00, Or.inl ⟨Nat.pos_of_ne_zero fun z => q (hr.mpr z), by omega, MSt.no v fun g h0 h22 => refN h0 h22⟩⟩⟩
  have := hr.mp q
  subst this
  obtain ⟨i9, hi, rfl, hkd, -, -⟩ := hst.ix
  have hkd : I 3 i9 = nI 2 := hkd.elim id id
  have n20 : ¬ nI 2 = nI 0 := by decide
  have kX : ∀ (X : MI) e, X 7 e = nI i9 → X 3 = I 3 → kdE X 0 e = nI 2 := fun X e h1 h2 => by rw [kdE_st h1 (by omega), h2]; exact hkd
  cases hfd : fdM I L 0 n (nI i9) (L 20 0) (I 21 0) with
  | some e =>
    obtain ⟨e', he', hee, f7, f8, f9⟩ := fdM_some hfd
    have : e' = e := by omega
    subst this
    have hp0 : nI 0 ≤ nI e' := nonneg (by omega)
    obtain ⟨st, hst9, s7, tk⟩ := v5 e' he'
    have hsti : st = i9 := (nI_eq (by omega) (by omega)).mp (s7.symm.trans f7)
    subst hsti
    simp only [Nat.mul_zero, Nat.zero_add] at tk
    obtain ⟨t, t10, t0, tb, -⟩ := tk (by rw [hkd]; decide)
    have hev := mEv_2 (L := L) (kX I e' f7 rfl) t10 (by omega)
    have r10 : refI I 0 (some e') 10 e' = nI t := by rw [refN (by decide) (by decide)]; exact t10
    refine ⟨_, g22M, ⟨_, Mw_m⟩, ?_⟩
    rw [ref22s, lk_m_s hfd, hev]
    refine (sp_mHas htr A (by omega) r10 tb).I ?_
    rintro r h' ⟨⟨j, hj, z⟩, rfl⟩
    have hj1 := hj.1
    rcases z with ⟨rfl, z1, z2⟩ | ⟨rfl, z⟩
    · refine ⟨fun _ => ⟨_, g22M, fun _ => ⟨_, g22M, ⟨_, Mw_m⟩, ?_⟩, fun q => ?_⟩, fun q => absurd q nI01⟩
      · rw [ref22s]
        refine (sp_mTouchOf htr A (by omega)).V ?_
        rintro h' rfl
        refine ⟨⟨_, Mw_m⟩, ?_⟩
        refine (sp_mPlaceOf htr A (by omega) (sz := t) (by simp (disch := omega) only [nI01, neg_not, neg1_lt, not_true_eq_false, not_false_eq_true, false_implies, true_implies, implies_true, and_true, true_and, eq_self, ref22s, ref22n, ref00, refN, tch_n]; exact t10) tb).I ?_
        rintro r h' ⟨⟨j', rfl, hj'⟩, rfl⟩
        have := cbR_inj hj hj'
        subst this
        refine ⟨fun _ => ?_, fun q => absurd q nI01⟩
        simp (disch := omega) only [g0M, g1M, g2M, g3M, g4M, g5M, g6M, g7M, g8M, g9M, g10M, g11M, g12M, g13M, g14M, g15M, g16M, g17M, g18M, g19M, g20M, g21M, g22M, p0M, p1M, p16M, p17M, p18M, p19M, p20M, p21M, p22M, r2M A, r3M A, r4M A, r5M A, r6M A, r7M A, r8M A, r9M A, r10M A, r11M A, r12M A, r13M A, r14M A, r15M A, w2M A, w3M A, w4M A, w5M A, w6M A, w7M A, w8M A, w9M A, w10M A, w11M A, w12M A, w13M A, w14M A, w15M A, Mw_o, true_and, Option.some.injEq, Value.ref.injEq, Value.int.injEq, Value.long.injEq, exists_eq_left', setI_f, setI_n, setL_f, setL_n, upd_s, updL_s, pk_mul, nI_add, nI_sub1, nI01, neg_not, neg1_lt, not_true_eq_false, not_false_eq_true, false_implies, true_implies, implies_true, and_true, true_and, eq_self, ref22s, ref22n, ref00, refN, tch_n]
        have Q := MSt.setp (x := I 10 e') (L' := setL L 11 (10 * e' + j') y) (w := (I 7 e', L 8 e', I 9 e', ((List.range t).map (fun i => L 11 (10 * e' + i))).set j' y, (List.range t).map (fun i => L 12 (10 * e' + i)), nI 0)) v he' (by rw [setL_n (by decide)]) (by rw [setL_n (by decide)]) (fun e2 n2 i hi9 => ⟨by rw [setL_f, updL_n (by omega)], by rw [setL_n (by decide)]⟩) (fun st' hst' hs7 _ => ⟨t, t10, by omega, by omega, fun z => by
          have : st' = st := (nI_eq (by omega) (by omega)).mp (hs7.symm.trans f7)
          subst this
          rw [hkd] at z; exact absurd z n20⟩) (fun X x7 x9 x10 x3 => by
          rw [mEv_2 (kX X e' (x7.trans f7) x3) (x10.trans t10) (by omega), x7, x9, setL_n (by decide), setL_f, set_m, setL_n (by decide)]) (by
          intro z
          have := congrArg List.length z
          simp only [List.length_set, List.length_map, List.length_range, List.length_nil] at this
          omega)
        rw [show I 10 e' = tch (refI I 0 (some e')) (pgI (I 7 e') (L 8 e') (I 9 e')) 10 e' by rw [tch_n (by decide) (by decide) (by decide), refN (by decide) (by decide)], setI_self] at Q
        exact ⟨_, rfl, 0, _, _, rfl, hst, by simp (disch := omega) only [nI01, neg_not, neg1_lt, not_true_eq_false, not_false_eq_true, false_implies, true_implies, implies_true, and_true, true_and, eq_self, ref22s, ref22n, ref00, refN, tch_n], Or.inr ⟨rfl, _, ⟨j', plm_m hj, Or.inl ⟨has_m.mpr ⟨z1, z2⟩, rfl, rfl⟩⟩, Q⟩⟩
      · rw [ref22s] at q; exact absurd hp0 q
    · refine ⟨fun q => absurd rfl q, fun _ => ?_⟩
      refine ⟨_, g22M, fun _ => ?_, fun q => ?_⟩
      rotate_left
      · rw [ref22s] at q; exact absurd hp0 q
      refine ⟨_, g10M, _, g22M, nI t, by rw [ref22s, r10M A (by omega)]; exact congrArg _ r10, fun q => ?_, fun q => ?_⟩
      · have t9 : t < 10 := Nat.lt_of_le_of_ne tb fun z => q (by rw [z])
        refine ⟨_, g22M, fun _ => ⟨_, g22M, ⟨_, Mw_m⟩, ?_⟩, fun q => ?_⟩
        rotate_left
        · rw [ref22s] at q; exact absurd hp0 q
        rw [ref22s]
        refine (sp_mTouchOf htr A (by omega)).V ?_
        rintro h' rfl
        refine ⟨⟨_, Mw_m⟩, ?_⟩
        refine (sp_mPlaceOf htr A (by omega) (sz := t) (by simp (disch := omega) only [nI01, neg_not, neg1_lt, not_true_eq_false, not_false_eq_true, false_implies, true_implies, implies_true, and_true, true_and, eq_self, ref22s, ref22n, ref00, refN, tch_n]; exact t10) tb).I ?_
        rintro r h' ⟨⟨j', rfl, hj'⟩, rfl⟩
        have := cbR_inj hj hj'
        subst this
        refine ⟨fun q => absurd rfl q, fun _ => ?_⟩
        refine ⟨_, g10M, nI t, by rw [r10M A (by omega)]; simp (disch := omega) only [nI01, neg_not, neg1_lt, not_true_eq_false, not_false_eq_true, false_implies, true_implies, implies_true, and_true, true_and, eq_self, ref22s, ref22n, ref00, refN, tch_n, t10], ?_⟩
        intro X hX
        rw [← upLs_t (L := L) (b := 10 * e') (t := t)]
        have key : ∀ d, j' + d ≤ t → X (nI (j' + d)) (Mw K m am (tch (refI I 0 (some e')) (pgI (I 7 e') (L 8 e') (I 9 e'))) (upLs L (10 * e') (j' + d) t) h) := by
          intro d
          induction d with
          | zero =>
            intro _
            refine hX _ _ ⟨fun _ => ?_, fun q => absurd (nI_le (Nat.le_refl _) (by omega)) q⟩
            simp (disch := omega) only [g0M, g1M, g2M, g3M, g4M, g5M, g6M, g7M, g8M, g9M, g10M, g11M, g12M, g13M, g14M, g15M, g16M, g17M, g18M, g19M, g20M, g21M, g22M, p0M, p1M, p16M, p17M, p18M, p19M, p20M, p21M, p22M, r2M A, r3M A, r4M A, r5M A, r6M A, r7M A, r8M A, r9M A, r10M A, r11M A, r12M A, r13M A, r14M A, r15M A, w2M A, w3M A, w4M A, w5M A, w6M A, w7M A, w8M A, w9M A, w10M A, w11M A, w12M A, w13M A, w14M A, w15M A, Mw_o, true_and, Option.some.injEq, Value.ref.injEq, Value.int.injEq, Value.long.injEq, exists_eq_left', setI_f, setI_n, setL_f, setL_n, upd_s, updL_s, pk_mul, nI_add, nI_sub1, nI01, neg_not, neg1_lt, not_true_eq_false, not_false_eq_true, false_implies, true_implies, implies_true, and_true, true_and, eq_self, ref22s, ref22n, ref00, refN, tch_n, t10, Nat.add_zero]
            refine ⟨_, rfl, 0, _, _, rfl, hst, by simp (disch := omega) only [setI_n, nI01, neg_not, neg1_lt, not_true_eq_false, not_false_eq_true, false_implies, true_implies, implies_true, and_true, true_and, eq_self, ref22s, ref22n, ref00, refN, tch_n], Or.inr ⟨rfl, some (I 7 e', L 8 e', I 9 e', ((List.range t).map (fun i => L 11 (10 * e' + i))).insertIdx j' y, ((List.range t).map (fun i => L 12 (10 * e' + i))).insertIdx j' x, nI 0), ⟨j', plm_m hj, Or.inr (Or.inr ⟨fun y => z (has_m.mp y), ?_, rfl, rfl⟩)⟩, MSt.setp v he' (by rw [setL_n (by decide), setL_n (by decide)]; exact upLs_g (by decide) (by decide)) (by rw [setL_n (by decide), setL_n (by decide)]; exact upLs_g (by decide) (by decide)) (fun e2 n2 i hi9 => ?_) (fun st' hst' hs7 _ => ⟨t + 1, rfl, by omega, by omega, fun z => ?_⟩) (fun X x7 x9 x10 x3 => ?_) ?_⟩⟩
            · rintro (z | z)
              · simp at z; omega
              · have := congrArg List.length z.1
                simp at this; omega
            · rw [setL_f, setL_n (by decide), setL_n (by decide), setL_f, updL_n (by omega), updL_n (by omega)]
              exact upLs_o n2 t9 hi9
            · have : st' = st := (nI_eq (by omega) (by omega)).mp (hs7.symm.trans f7)
              subst this
              rw [hkd] at z; exact absurd z n20
            · rw [mEv_2 (kX X e' (x7.trans f7) x3) x10 (by omega), x7, x9, setL_n (by decide), setL_n (by decide), upLs_g (by decide) (by decide), setL_f, setL_n (by decide), setL_n (by decide), setL_f, upLs_11, upLs_12, ins_m hj1, ins_m hj1]
            · intro z
              have := congrArg List.length z
              rw [List.length_insertIdx] at this
              simp only [List.length_map, List.length_range, List.length_nil] at this
              split at this <;> omega
          | succ d ih =>
            intro hd
            have hle : ¬ nI (j' + (d + 1)) ≤ nI j' := nI_ge (by omega) (by omega)
            refine hX _ _ ⟨fun q => absurd q hle, fun _ => ?_⟩
            have := ih (by omega)
            rw [← upLs_s (show j' + d < t by omega)] at this
            have e1 : nI (10 * e' + (j' + (d + 1))) - nI 1 = nI (10 * e' + (j' + (d + 1)) - 1) := pk_sub (by omega)
            simp (disch := omega) only [g0M, g1M, g2M, g3M, g4M, g5M, g6M, g7M, g8M, g9M, g10M, g11M, g12M, g13M, g14M, g15M, g16M, g17M, g18M, g19M, g20M, g21M, g22M, p0M, p1M, p16M, p17M, p18M, p19M, p20M, p21M, p22M, r2M A, r3M A, r4M A, r5M A, r6M A, r7M A, r8M A, r9M A, r10M A, r11M A, r12M A, r13M A, r14M A, r15M A, w2M A, w3M A, w4M A, w5M A, w6M A, w7M A, w8M A, w9M A, w10M A, w11M A, w12M A, w13M A, w14M A, w15M A, Mw_o, true_and, Option.some.injEq, Value.ref.injEq, Value.int.injEq, Value.long.injEq, exists_eq_left', setI_f, setI_n, setL_f, setL_n, upd_s, updL_s, pk_mul, nI_add, nI_sub1, nI01, neg_not, neg1_lt, not_true_eq_false, not_false_eq_true, false_implies, true_implies, implies_true, and_true, true_and, eq_self, ref22s, ref22n, ref00, refN, tch_n, e1]
            have e2 : nI (j' + (d + 1)) + -nI 1 = nI (j' + d) := nI_m1 (j' + d)
            rw [e2]
            exact this
        have := key (t - j') (by omega)
        rw [show j' + (t - j') = t by omega] at this
        exact this
      · have t9 : t = 10 := (nI_eq (by omega) (by omega)).mp q
        exact ⟨_, rfl, 0, _, L, rfl, hst, ref00, Or.inr ⟨rfl, none, ⟨j, plm_m hj, Or.inr (Or.inl ⟨fun y => z (has_m.mp y), Or.inl (by simp [t9]), rfl, rfl⟩)⟩, MSt.no v fun g h0 h22 => refN h0 h22⟩⟩
  | none =>
    refine ⟨_, g22M, ⟨_, Mw_m⟩, ?_⟩
    rw [ref22n, lk_m_n hfd]
    refine (sp_mHasN htr).I ?_
    rintro r h' ⟨rfl, rfl⟩
    refine ⟨fun q => absurd rfl q, fun _ => ⟨_, g22M, fun q => ?_, fun _ => ?_⟩⟩
    · rw [ref22n] at q; exact absurd q neg_not
    refine ⟨_, g6M, nI n, by rw [r6M A (by omega)]; simp (disch := omega) only [nI01, neg_not, neg1_lt, not_true_eq_false, not_false_eq_true, false_implies, true_implies, implies_true, and_true, true_and, eq_self, ref22s, ref22n, ref00, refN, tch_n, v3], fun q => ?_, fun q => ?_⟩
    · have hn : n < 150 := Nat.lt_of_le_of_ne v4 fun z => q (by rw [z])
      refine ⟨_, g22M, fun q => ?_, fun _ => ⟨⟨_, Mw_m⟩, ?_⟩⟩
      · rw [ref22n] at q; exact absurd q neg_not
      refine (sp_mNewEntry htr A (by rw [refN (by decide) (by decide)]; exact v3) hn).I ?_
      rintro r h' ⟨rfl, rfl⟩
      refine ⟨⟨_, Mw_m⟩, ?_⟩
      refine (sp_mTouchOf htr A (by omega)).V ?_
      rintro h' rfl
      rw [neI_7, neI_9, upd_s, upd_s, setL_f, updL_s, refN (by decide) (by decide)]
      have s10 : tch (neI (refI I 0 none) n (nI i9)) (pgI (nI i9) (L 20 0) (I 21 0)) 10 n = nI 0 := by rw [tch_n (by decide) (by decide) (by decide), neI_10, upd_s]
      refine ⟨⟨_, Mw_m⟩, ?_⟩
      refine (sp_mPlaceOf htr A (by omega) (sz := 0) s10 (by decide)).I ?_
      rintro r h' ⟨⟨j', rfl, hj'⟩, rfl⟩
      have : j' = 0 := by have := hj'.1; omega
      subst this
      refine ⟨fun q => absurd rfl q, fun _ => ⟨_, g10M, nI 0, by rw [r10M A (by omega)]; exact congrArg _ s10, ?_⟩⟩
      intro X hX
      refine hX _ _ ⟨fun _ => ?_, fun q => absurd (nI_le (Nat.le_refl _) (by omega)) q⟩
      simp (disch := omega) only [g0M, g1M, g2M, g3M, g4M, g5M, g6M, g7M, g8M, g9M, g10M, g11M, g12M, g13M, g14M, g15M, g16M, g17M, g18M, g19M, g20M, g21M, g22M, p0M, p1M, p16M, p17M, p18M, p19M, p20M, p21M, p22M, r2M A, r3M A, r4M A, r5M A, r6M A, r7M A, r8M A, r9M A, r10M A, r11M A, r12M A, r13M A, r14M A, r15M A, w2M A, w3M A, w4M A, w5M A, w6M A, w7M A, w8M A, w9M A, w10M A, w11M A, w12M A, w13M A, w14M A, w15M A, Mw_o, true_and, Option.some.injEq, Value.ref.injEq, Value.int.injEq, Value.long.injEq, exists_eq_left', setI_f, setI_n, setL_f, setL_n, upd_s, updL_s, pk_mul, nI_add, nI_sub1, nI01, neg_not, neg1_lt, not_true_eq_false, not_false_eq_true, false_implies, true_implies, implies_true, and_true, true_and, eq_self, ref22s, ref22n, ref00, refN, tch_n, s10]
      refine ⟨_, rfl, 0, _, _, rfl, hst, by simp (disch := omega) only [setI_n, tch_n, neI_n, ref00], Or.inr ⟨rfl, some (nI i9, L 20 0, I 21 0, [y], [x], nI 0), ⟨0, plm_0, Or.inr (Or.inr ⟨has_0, fun z => by simp at z; omega, rfl, rfl⟩)⟩, MSt.newp v hn hi hfd (by rw [setL_n (by decide), setL_n (by decide), setL_f]) (by rw [setL_n (by decide), setL_n (by decide), setL_n (by decide)]) (fun e2 n2 j hj => ⟨by rw [setL_f, updL_n (by omega), setL_n (by decide), setL_n (by decide)], by rw [setL_n (by decide), setL_f, updL_n (by omega), setL_n (by decide)]⟩) (fun _ => ⟨1, rfl, by decide, by decide, fun _ => rfl⟩) (fun X x7 x9 x10 x3 => ?_) (by simp)⟩⟩
      rw [mEv_2 (kX X n x7 x3) x10 (by decide), x7, x9, setL_n (by decide), setL_n (by decide), setL_f, updL_s]
      simp [updL_s, setL_f, setL_n]
    · have hn : n = 150 := (nI_eq (by omega) (by omega)).mp q
      exact ⟨_, rfl, 0, _, L, rfl, hst, ref00, Or.inr ⟨rfl, none, ⟨0, plm_0, Or.inr (Or.inl ⟨has_0, Or.inr ⟨rfl, by omega⟩, rfl, rfl⟩)⟩, MSt.no v fun g h0 h22 => refN h0 h22⟩⟩
end Mod
