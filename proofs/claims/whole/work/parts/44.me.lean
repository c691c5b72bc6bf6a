/-! ===== the reference: move ===== -/
/-- entry j is the moved one -/
def NWe (I : MI) (L : ML) (sm i : Nat) (k t : Int32) (I1 : MI) (L1 : ML) (e : Nat) : Prop := ∀ X : MI, X 7 e = I 7 e → X 9 e = I 9 e → X 10 e = I1 10 e → X 3 = upd (I 3) i k → mEv X L1 0 e = mvE k t (mEv I L 0 e) ∧ eOk X 0 sm e
theorem NWe.up {I I1 I2 : MI} {L L1 L2 : ML} {sm i e : Nat} {k t : Int32} (h8 : sm ≤ 8) (w : NWe I L sm i k t I1 L1 e) (h10 : I2 10 e = I1 10 e) (l8 : L2 8 = L1 8) (l12 : L2 12 = L1 12) (l11 : ∀ x, x < 10 → L2 11 (10 * e + x) = L1 11 (10 * e + x)) : NWe I L sm i k t I2 L2 e := by
  intro X x7 x9 x10 x3
  obtain ⟨w1, w2⟩ := w X x7 x9 (x10.trans h10) x3
  refine ⟨?_, w2⟩
  rw [← w1]
  exact mEv_copy h8 ⟨rfl, by rw [l8], rfl, rfl, fun x hx => ⟨l11 x hx, by rw [l12]⟩⟩ (fun _ _ => rfl) w2
theorem mv_ent {I I1 : MI} {L L1 : ML} {sm i e b : Nat} {t : Int32} (h8 : sm ≤ 8) (hi : i < sm) (h7 : I 7 e = nI i) (ok : eOk I 0 sm e) (hb : b < 4) (hm : cmv (I 3 i) (nI b)) (ha : ∃ a, a < 4 ∧ I 3 i = nI a)
    (h10 : I1 10 e = if I 3 i = nI 3 then nI 1 else I 10 e) (l8 : L1 8 = L 8) (l12 : L1 12 = L 12) (l0 : L1 11 (10 * e) = if I 3 i = nI 1 ∧ nI b = nI 3 then jns t (mEv I L 0 e).2.2.2.1 else L 11 (10 * e)) (l11 : ¬ (I 3 i = nI 1 ∧ nI b = nI 3) → ∀ x, x < 10 → L1 11 (10 * e + x) = L 11 (10 * e + x)) : NWe I L sm i (nI b) t I1 L1 e := by
  intro X x7 x9 x10 x3
  obtain ⟨a, ha4, ha⟩ := ha
  have kX : kdE X 0 e = nI b := by rw [kdE_st (x7.trans h7) (by omega), x3, upd_s]
  have kI0 : kdE I 0 e = nI a := by rw [kdE_st h7 (by omega), ha]
  obtain ⟨st, hst, s7, tk⟩ := ok
  have hsti : st = i := (nI_eq (by omega) (by omega)).mp (s7.symm.trans h7)
  subst hsti
  simp only [Nat.mul_zero, Nat.zero_add] at tk
  have e3 : ∀ x y, x < 4 → y < 4 → (nI x = nI y ↔ x = y) := fun x y h1 h2 => nI_eq (by omega) (by omega)
  rw [h10] at x10
  have okX : ∀ u, X 10 e = nI u → 0 < u → u ≤ 10 → (b = 0 → u = 1) → eOk X 0 sm e := fun u h1 h2 h3 h4 => ⟨st, hst, x7.trans h7, fun _ => ⟨u, h1, h2, h3, fun z => h4 (by
    simp only [Nat.mul_zero, Nat.zero_add] at z
    rw [x3, upd_s, e3 b 0 hb (by decide)] at z
    exact z)⟩⟩
  simp only [cmv, ha, ne_eq, e3 a 0 ha4 (by decide), e3 a 1 ha4 (by decide), e3 a 2 ha4 (by decide), e3 a 3 ha4 (by decide), e3 b 0 hb (by decide), e3 b 1 hb (by decide), e3 b 2 hb (by decide), e3 b 3 hb (by decide)] at hm
  simp only [ha, e3 a 1 ha4 (by decide), e3 a 3 ha4 (by decide), e3 b 3 hb (by decide)] at x10 l0 l11
  have n02 : ¬ nI 0 = nI 2 := by decide
  have n03 : ¬ nI 0 = nI 3 := by decide
  have n12 : ¬ nI 1 = nI 2 := by decide
  have n13 : ¬ nI 1 = nI 3 := by decide
  have n23 : ¬ nI 2 = nI 3 := by decide
  have sz : a ≠ 3 → ∃ u, I 10 e = nI u ∧ 0 < u ∧ u ≤ 10 ∧ (a = 0 → u = 1) := fun q => by
    obtain ⟨u, u1, u2, u3, u4⟩ := tk (by rw [ha]; exact fun z => q ((e3 a 3 ha4 (by decide)).mp z))
    exact ⟨u, u1, u2, u3, fun z => u4 (by rw [ha, z])⟩
  rcases hm with ⟨rfl, hb2⟩ | ⟨rfl, hb2⟩ | ⟨rfl, hb2⟩ | ⟨rfl, rfl⟩
  · obtain ⟨u, u1, u2, u3, u4⟩ := sz (by decide)
    have := u4 rfl
    subst this
    simp only [show ¬ (0 = 3) by decide, show ¬ (0 = 1) by decide, false_and, if_false] at x10 l0 l11
    have x10' : X 10 e = nI 1 := x10.trans u1
    have l11 := l11 (by simp)
    refine ⟨?_, okX 1 x10' (by decide) (by decide) fun _ => rfl⟩
    rw [mEv_0 (L := L) kI0]
    match b, hb, hb2 with
    | 0, _, _ => rw [mEv_0 kX, x7, x9, l8, l0, mvE, if_neg n03, if_neg n02]
    | 1, _, _ =>
      rw [mEv_1 kX x10' (by decide), x7, x9, l8, mvE, if_neg n13, if_neg n12]
      simp [List.range_succ, l0]
    | 3, _, _ => rw [mEv_3 kX, x7, x9, l8, l0, x10', mvE, if_pos rfl]; rfl
  · obtain ⟨u, u1, u2, u3, -⟩ := sz (by decide)
    simp only [show ¬ (1 = 3) by decide, true_and, if_false] at x10 l0 l11
    have x10' : X 10 e = nI u := x10.trans u1
    refine ⟨?_, okX u x10' u2 u3 fun z => by omega⟩
    have hv := mEv_1 (L := L) kI0 u1 (by omega)
    rcases hb2 with rfl | rfl
    · have l11 := l11 (by decide)
      rw [hv, mEv_1 kX x10' (by omega), x7, x9, l8, mvE, if_neg n13, if_neg n12, map_range_congr fun x hx => l11 x (by omega)]
    · rw [if_pos rfl] at l0
      rw [mEv_3 kX, x7, x9, l8, l0, x10', mvE, if_pos rfl, hv]
      simp
  · obtain ⟨u, u1, u2, u3, -⟩ := sz (by decide)
    simp only [show ¬ (2 = 3) by decide, show ¬ (2 = 1) by decide, false_and, if_false] at x10 l0 l11
    have l11 := l11 (by simp)
    have x10' : X 10 e = nI u := x10.trans u1
    refine ⟨?_, okX u x10' u2 u3 fun z => by omega⟩
    have hv := mEv_2 (L := L) kI0 u1 (by omega)
    rcases hb2 with rfl | rfl
    · rw [hv, mEv_2 kX x10' (by omega), x7, x9, l8, l12, mvE, if_neg n23, if_pos rfl, map_range_congr fun x hx => l11 x (by omega)]
    · rw [hv, mEv_1 kX x10' (by omega), x7, x9, l8, mvE, if_neg n13, if_neg n12, map_range_congr fun x hx => l11 x (by omega)]
  · simp only [show ¬ (3 = 1) by decide, false_and, if_false, if_true] at x10 l0
    refine ⟨?_, okX 1 x10 (by decide) (by decide) fun _ => rfl⟩
    rw [mEv_3 (L := L) kI0, mEv_0 kX, x7, x9, l8, l0, mvE, if_neg n03, if_neg n02]
/-- the reference behind a move -/
def MMv (I : MI) (L : ML) (sm n i : Nat) (k t : Int32) (I' : MI) (L' : ML) : Prop :=
  (∀ g, g ≠ 0 → g ≠ 3 → g ≠ 4 → g ≠ 10 → g ≠ 13 → g ≠ 17 → g ≠ 18 → I' g = I g) ∧ I' 3 = upd (I 3) i k ∧ I' 4 = upd (I 4) i t ∧ L' 20 = L 20 ∧ (∀ e, 150 ≤ e → sameE I L I' L' e) ∧ (∀ j, j < n → eOk I' 0 sm j) ∧
    PgM (pT (fun v => decide (v.1 = nI i)) (mLst I L 0 n)) I I' ∧ mLst I' L' 0 n = mvL (nI i) k t (mLst I L 0 n)
theorem and01 {P Q : Prop} {x y : Int32} (hx : (x = nI 1 ∧ P) ∨ (x = nI 0 ∧ ¬ P)) (hy : (y = nI 1 ∧ Q) ∨ (y = nI 0 ∧ ¬ Q)) : (x &&& y = nI 1 ∧ (P ∧ Q)) ∨ (x &&& y = nI 0 ∧ ¬ (P ∧ Q)) := by
  rcases hx with ⟨rfl, p⟩ | ⟨rfl, p⟩ <;> rcases hy with ⟨rfl, q⟩ | ⟨rfl, q⟩
  · exact Or.inl ⟨by decide, p, q⟩
  · exact Or.inr ⟨by decide, fun z => q z.2⟩
  · exact Or.inr ⟨by decide, fun z => p z.1⟩
  · exact Or.inr ⟨by decide, fun z => p z.1⟩
theorem jns_s {t : Int32} {F : Nat → Int64} {i : Nat} (hi : 0 < i) : jns t ((List.range (i + 1)).map F) = jn t (jns t ((List.range i).map F)) (F i) := by
  obtain ⟨j, rfl⟩ : ∃ j, i = j + 1 := ⟨i - 1, by omega⟩
  rw [List.range_succ, List.map_append, List.range_succ_eq_map]
  simp only [List.map_cons, List.cons_append, jns, List.foldl_append, List.map_nil, List.foldl_cons, List.foldl_nil]
section Mod
variable {l : Launch} {K : Kx} {m : Nat} {am : Nat → Nat} {I I' : MI} {L L' : ML} {h : Hp} {sm n : Nat} {s : Int32}
theorem sp_mMove {k t : Int32} (htr : l.stackTraces = false) (A : AM m am) (v : MV I L sm n) :
    mX4_move l K [.ref m, .int s, .int k, .int t] (Mw K m am I L h) (kI fun r h' => (¬ isS s sm ∧ h' = Mw K m am (setI I 0 0 (nI 1)) L h) ∨ ∃ i, i < sm ∧ s = nI i ∧ ((¬ kt k t ∧ r = -nI 1 ∧ h' = Mw K m am (z0 I) L h) ∨ (kt k t ∧ ¬ (cmv (I 3 i) k ∧ ∀ v ∈ mLst I L 0 n, v.1 = s → ∀ x ∈ v.2.2.2.1, ft k t x) ∧ r = -nI 3 ∧ h' = Mw K m am (z0 I) L h) ∨
      (kt k t ∧ (cmv (I 3 i) k ∧ ∀ v ∈ mLst I L 0 n, v.1 = s → ∀ x ∈ v.2.2.2.1, ft k t x) ∧ r = nI ((mLst I L 0 n).countP (fun v => decide (v.1 = s))) ∧ ∃ I' L', h' = Mw K m am I' L' h ∧ I' 0 0 = nI 0 ∧ MMv I L sm n i k t I' L'))) := by
  obtain ⟨v1, v2, v3, v4, v5, v6, v7, v8⟩ := v
  refine fX4_move htr ⟨_, p0M, ⟨_, Mw_m⟩, ?_⟩
  refine (sp_mIsState (n := sm) htr (by rw [setI_n (by decide)]; exact v1)).I ?_
  rintro r h' ⟨z, rfl⟩
  rcases z with ⟨rfl, hS⟩ | ⟨rfl, hS⟩
  rotate_left
  · refine ⟨fun q => absurd rfl q, fun _ => ⟨⟨_, Mw_m⟩, ?_⟩⟩
    refine (sp_mFails htr).I ?_
    rintro r h' ⟨rfl, rfl⟩
    rw [setI_2]
    exact ⟨_, rfl, Or.inl ⟨hS, rfl⟩⟩
  refine ⟨fun _ => ?_, fun q => absurd q nI01⟩
  obtain ⟨i, hi, rfl⟩ := hS.ix (by omega)
  generalize hPost : (kI fun r h' => (¬ isS (nI i) sm ∧ h' = Mw K m am (setI I 0 0 (nI 1)) L h) ∨ ∃ i2, i2 < sm ∧ nI i = nI i2 ∧ ((¬ kt k t ∧ r = -nI 1 ∧ h' = Mw K m am (z0 I) L h) ∨ (kt k t ∧ ¬ (cmv (I 3 i2) k ∧ ∀ v ∈ mLst I L 0 n, v.1 = nI i → ∀ x ∈ v.2.2.2.1, ft k t x) ∧ r = -nI 3 ∧ h' = Mw K m am (z0 I) L h) ∨
      (kt k t ∧ (cmv (I 3 i2) k ∧ ∀ v ∈ mLst I L 0 n, v.1 = nI i → ∀ x ∈ v.2.2.2.1, ft k t x) ∧ r = nI ((mLst I L 0 n).countP (fun v => decide (v.1 = nI i))) ∧ ∃ I' L', h' = Mw K m am I' L' h ∧ I' 0 0 = nI 0 ∧ MMv I L sm n i2 k t I' L'))) = Post
  have B : ¬ kt k t → Post (.inl (some (.int (-nI 1)))) (Mw K m am (setI I 0 0 (nI 0)) L h) := fun q => by rw [← hPost]; exact ⟨_, rfl, Or.inr ⟨i, hi, rfl, Or.inl ⟨q, rfl, rfl⟩⟩⟩
  refine ⟨fun q => B fun z => z.1 q, fun q => ⟨fun q2 => B fun z => z.2.1 ((k34 k).mp q2), fun q2 => ⟨fun q3 => B fun z => z.2.2.1 q3, fun q3 => ⟨fun q4 => ?_, fun q4 => B fun z => q4 ((k23 t).mpr z.2.2.2)⟩⟩⟩⟩
  have hk : kt k t := ⟨q, fun z => q2 ((k34 k).mpr z), q3, (k23 t).mp q4⟩
  clear B
  obtain ⟨b, hb, rfl⟩ : ∃ b, b < 4 ∧ k = nI b := (show isS k 4 from ⟨hk.1, Int32.not_le.mp hk.2.1⟩).ix (by decide)
  obtain ⟨a, ha4, ha⟩ := v8 i hi
  simp (disch := omega) only [g0M, g1M, g2M, g3M, g4M, g5M, g6M, g7M, g8M, g9M, g10M, g11M, g12M, g13M, g14M, g15M, g16M, g17M, g18M, g19M, g20M, g21M, g22M, p0M, p1M, p16M, p17M, p18M, p19M, p20M, p21M, p22M, r2M A, r3M A, r4M A, r5M A, r6M A, r7M A, r8M A, r9M A, r10M A, r11M A, r12M A, r13M A, r14M A, r15M A, w2M A, w3M A, w4M A, w5M A, w6M A, w7M A, w8M A, w9M A, w10M A, w11M A, w12M A, w13M A, w14M A, w15M A, Mw_o, true_and, Option.some.injEq, Value.ref.injEq, Value.int.injEq, Value.long.injEq, exists_eq_left', setI_f, setI_n, setL_f, setL_n, upd_s, updL_s, pk_mul, nI_add, nI_sub1]
  refine (sp_mCanMove htr ⟨a, ha4, ha⟩ ⟨b, hb, rfl⟩).I ?_
  rintro r h' ⟨rfl, rfl⟩
  have ev : ∀ j, mEv I L 0 (150 * 0 + j) = mEv I L 0 j := fun j => by rw [Nat.mul_zero, Nat.zero_add]
  have mem : ∀ w, w ∈ mLst I L 0 n ↔ ∃ j, j < n ∧ mEv I L 0 j = w := fun w => by
    simp only [mLst, List.mem_map, List.mem_range, ev]
  intro X hX
  -- do the numbers fit
  have key : ∀ d, d ≤ n → ∀ f, (f = nI 1 ∧ (cmv (I 3 i) (nI b) ∧ ∀ e, e < n - d → I 7 e = nI i → ∀ x ∈ (mEv I L 0 e).2.2.2.1, ft (nI b) t x) ∨ f = nI 0 ∧ ¬ (cmv (I 3 i) (nI b) ∧ ∀ e, e < n - d → I 7 e = nI i → ∀ x ∈ (mEv I L 0 e).2.2.2.1, ft (nI b) t x)) → X f (nI (n - d)) (Mw K m am (setI I 0 0 (nI 0)) L h) := by
    intro d
    induction d with
    | zero =>
      intro _ f hf
      rw [Nat.sub_zero] at hf ⊢
      have hall : (∀ e, e < n → I 7 e = nI i → ∀ x ∈ (mEv I L 0 e).2.2.2.1, ft (nI b) t x) ↔ ∀ v ∈ mLst I L 0 n, v.1 = nI i → ∀ x ∈ v.2.2.2.1, ft (nI b) t x := by
        constructor
        · intro z w hw
          obtain ⟨j, hj, rfl⟩ := (mem w).mp hw
          exact z j hj
        · exact fun z e he => z _ ((mem _).mpr ⟨e, he, rfl⟩)
      rw [hall] at hf
      refine hX _ _ _ ?_
      simp (disch := omega) only [g0M, g1M, g2M, g3M, g4M, g5M, g6M, g7M, g8M, g9M, g10M, g11M, g12M, g13M, g14M, g15M, g16M, g17M, g18M, g19M, g20M, g21M, g22M, p0M, p1M, p16M, p17M, p18M, p19M, p20M, p21M, p22M, r2M A, r3M A, r4M A, r5M A, r6M A, r7M A, r8M A, r9M A, r10M A, r11M A, r12M A, r13M A, r14M A, r15M A, w2M A, w3M A, w4M A, w5M A, w6M A, w7M A, w8M A, w9M A, w10M A, w11M A, w12M A, w13M A, w14M A, w15M A, Mw_o, true_and, Option.some.injEq, Value.ref.injEq, Value.int.injEq, Value.long.injEq, exists_eq_left', setI_f, setI_n, setL_f, setL_n, upd_s, updL_s, pk_mul, nI_add, nI_sub1, v3]
      refine ⟨fun _ => ⟨fun q => ?_, fun q => ?_⟩, fun q => absurd (nI_le (Nat.le_refl _) (by omega)) q⟩
      · rcases hf with ⟨rfl, hfit⟩ | ⟨rfl, z⟩
        rotate_left
        · exact absurd rfl q
        clear hX
        intro X2 hX2
        have hM := mLst_len I L 0 n
        -- the entries
        have key2 : ∀ d, d ≤ n → ∀ I1 L1, (∀ g, g ≠ 10 → g ≠ 13 → g ≠ 17 → g ≠ 18 → I1 g = z0 I g) → (∀ g, g ≠ 11 → L1 g = L g) → (∀ x, ¬ (x < n - d ∧ I 7 x = nI i) → I1 10 x = I 10 x ∧ ∀ y, y < 10 → L1 11 (10 * x + y) = L 11 (10 * x + y)) → (∀ x, x < n - d → I 7 x = nI i → NWe I L sm i (nI b) t I1 L1 x) → PgM (pT (fun v => decide (v.1 = nI i)) ((mLst I L 0 n).take (n - d))) I I1 → X2 (nI (((mLst I L 0 n).take (n - d)).countP (fun v => decide (v.1 = nI i)))) (nI (n - d)) (Mw K m am I1 L1 h) := by
          intro d
          induction d with
          | zero =>
            intro _ I1 L1 f1 f2 f3 f4 pg
            rw [Nat.sub_zero] at f3 f4 pg ⊢
            rw [List.take_of_length_le (by omega)] at pg ⊢
            refine hX2 _ _ _ ?_
            have e6 : I1 6 0 = nI n := by rw [f1 6 (by decide) (by decide) (by decide) (by decide)]; exact v3
            simp (disch := omega) only [g0M, g1M, g2M, g3M, g4M, g5M, g6M, g7M, g8M, g9M, g10M, g11M, g12M, g13M, g14M, g15M, g16M, g17M, g18M, g19M, g20M, g21M, g22M, p0M, p1M, p16M, p17M, p18M, p19M, p20M, p21M, p22M, r2M A, r3M A, r4M A, r5M A, r6M A, r7M A, r8M A, r9M A, r10M A, r11M A, r12M A, r13M A, r14M A, r15M A, w2M A, w3M A, w4M A, w5M A, w6M A, w7M A, w8M A, w9M A, w10M A, w11M A, w12M A, w13M A, w14M A, w15M A, Mw_o, true_and, Option.some.injEq, Value.ref.injEq, Value.int.injEq, Value.long.injEq, exists_eq_left', setI_f, setI_n, setL_f, setL_n, upd_s, updL_s, pk_mul, nI_add, nI_sub1, e6]
            refine ⟨fun _ => ?_, fun q => absurd (nI_le (Nat.le_refl _) (by omega)) q⟩
            rw [← hPost]
            generalize hI2 : setI (setI I1 3 i (nI b)) 4 i t = I2
            have g0 : ∀ g, g ≠ 3 → g ≠ 4 → I2 g = I1 g := fun g h3 h4 => by rw [← hI2, setI_n h4, setI_n h3]
            have g3 : I2 3 = upd (I 3) i (nI b) := by rw [← hI2, setI_n (by decide), setI_f, f1 3 (by decide) (by decide) (by decide) (by decide), z0_n (by decide)]
            have g4 : I2 4 = upd (I 4) i t := by rw [← hI2, setI_f, setI_n (by decide), f1 4 (by decide) (by decide) (by decide) (by decide), z0_n (by decide)]
            have g7 : I2 7 = I 7 := by rw [g0 7 (by decide) (by decide), f1 7 (by decide) (by decide) (by decide) (by decide), z0_n (by decide)]
            have g9 : I2 9 = I 9 := by rw [g0 9 (by decide) (by decide), f1 9 (by decide) (by decide) (by decide) (by decide), z0_n (by decide)]
            have g10 : I2 10 = I1 10 := g0 10 (by decide) (by decide)
            have each : ∀ j, j < n → mEv I2 L1 0 j = (if (mEv I L 0 j).1 = nI i then mvE (nI b) t (mEv I L 0 j) else mEv I L 0 j) ∧ eOk I2 0 sm j := by
              intro j hj
              by_cases y : I 7 j = nI i
              · have := f4 j hj y I2 (by rw [g7]) (by rw [g9]) (by rw [g10]) g3
                rw [show (mEv I L 0 j).1 = nI i from y, if_pos rfl]
                exact this
              · rw [if_neg (show ¬ (mEv I L 0 j).1 = nI i from y)]
                obtain ⟨h10, h11⟩ := f3 j (fun z => y z.2)
                obtain ⟨st, hst, s7, tk⟩ := v5 j hj
                have hne : st ≠ i := fun z => y (by rw [s7, z])
                have k3 : I2 3 (8 * 0 + st) = I 3 (8 * 0 + st) := by rw [g3, Nat.mul_zero, Nat.zero_add, upd_n hne]
                have ok : eOk I2 0 sm j := ⟨st, hst, by rw [g7]; exact s7, by rw [k3, g10, h10]; exact tk⟩
                refine ⟨?_, ok⟩
                have hk : kdE I2 0 j = kdE I 0 j := by
                  rw [kdE_st (i := st) (by rw [g7]; exact s7) (by omega), kdE_st s7 (by omega), g3, upd_n hne]
                have hI : mEv I2 L1 0 j = mEv I2 L 0 j := mEv_copy v2 ⟨rfl, by rw [f2 8 (by decide)], rfl, rfl, fun x hx => ⟨h11 x hx, by rw [f2 12 (by decide)]⟩⟩ (fun _ _ => rfl) ok
                rw [hI]
                unfold mEv
                rw [hk, g7, g9, g10, h10]
            refine ⟨_, rfl, Or.inr ⟨i, hi, rfl, Or.inr (Or.inr ⟨hk, hfit, rfl, I2, L1, by rw [← hI2], ?_, ?_⟩)⟩⟩
            · rw [g0 0 (by decide) (by decide), f1 0 (by decide) (by decide) (by decide) (by decide), z0_0]
            · refine ⟨fun g h0 h3 h4 h10 h13 h17 h18 => by rw [g0 g h3 h4, f1 g h10 h13 h17 h18, z0_n h0], g3, g4, f2 20 (by decide), fun e he => ?_, fun j hj => (each j hj).2, ?_, ?_⟩
              · obtain ⟨h10, h11⟩ := f3 e (fun z => by omega)
                exact ⟨by rw [g7], by rw [f2 8 (by decide)], by rw [g9], by rw [g10]; exact h10, fun y hy => ⟨h11 y hy, by rw [f2 12 (by decide)]⟩⟩
              · obtain ⟨p1, p2, p3, p4⟩ := pg
                exact ⟨by rw [g0 18 (by decide) (by decide)]; exact p1, by rw [g0 17 (by decide) (by decide)]; exact p2, by rw [g0 13 (by decide) (by decide)]; exact p3, by rw [g0 13 (by decide) (by decide)]; exact p4⟩
              · rw [mvL, mLst, mLst, List.map_map]
                refine map_range_congr fun j hj => ?_
                rw [Function.comp_apply, ev, Nat.mul_zero, Nat.zero_add]
                exact (each j hj).1
          | succ d ih =>
            intro hd I1 L1 f1 f2 f3 f4 pg
            obtain ⟨j, hj⟩ : ∃ j, n - (d + 1) = j := ⟨_, rfl⟩
            have hjd : n - d = j + 1 := by omega
            have hjn : j < n := by omega
            rw [hj] at f3 f4 pg ⊢
            rw [hjd] at ih
            have hgj : (mLst I L 0 n)[j]? = some (mEv I L 0 j) := by rw [mLst_get hjn, ev]
            have htk : (mLst I L 0 n).take (j + 1) = (mLst I L 0 n).take j ++ [mEv I L 0 j] := by rw [List.take_add_one, hgj]; rfl
            have hpT : ∀ p, pT (fun v => decide (v.1 = nI i)) ((mLst I L 0 n).take (j + 1)) p = (pT (fun v => decide (v.1 = nI i)) ((mLst I L 0 n).take j) p || (decide (I 7 j = nI i) && decide (pgI (I 7 j) (L 8 j) (I 9 j) = p))) := fun p => by
              rw [htk, pT, pT, List.any_append]
              simp only [List.any_cons, List.any_nil, Bool.or_false]
              rfl
            rw [htk, List.countP_append] at ih
            simp only [List.countP_cons, List.countP_nil, Nat.zero_add] at ih
            rw [← htk] at ih
            have e6 : I1 6 0 = nI n := by rw [f1 6 (by decide) (by decide) (by decide) (by decide)]; exact v3
            have e7 : I1 7 = I 7 := by rw [f1 7 (by decide) (by decide) (by decide) (by decide), z0_n (by decide)]
            have e9 : I1 9 = I 9 := by rw [f1 9 (by decide) (by decide) (by decide) (by decide), z0_n (by decide)]
            have e3 : I1 3 i = nI a := by rw [f1 3 (by decide) (by decide) (by decide) (by decide), z0_n (by decide), ha]
            have e14 : I1 14 = I 14 := by rw [f1 14 (by decide) (by decide) (by decide) (by decide), z0_n (by decide)]
            have e8 : L1 8 = L 8 := f2 8 (by decide)
            have hlt : ¬ nI n ≤ nI j := nI_ge hjn (by omega)
            refine hX2 _ _ _ ?_
            simp (disch := omega) only [g0M, g1M, g2M, g3M, g4M, g5M, g6M, g7M, g8M, g9M, g10M, g11M, g12M, g13M, g14M, g15M, g16M, g17M, g18M, g19M, g20M, g21M, g22M, p0M, p1M, p16M, p17M, p18M, p19M, p20M, p21M, p22M, r2M A, r3M A, r4M A, r5M A, r6M A, r7M A, r8M A, r9M A, r10M A, r11M A, r12M A, r13M A, r14M A, r15M A, w2M A, w3M A, w4M A, w5M A, w6M A, w7M A, w8M A, w9M A, w10M A, w11M A, w12M A, w13M A, w14M A, w15M A, Mw_o, true_and, Option.some.injEq, Value.ref.injEq, Value.int.injEq, Value.long.injEq, exists_eq_left', setI_f, setI_n, setL_f, setL_n, upd_s, updL_s, pk_mul, nI_add, nI_sub1, nI01, neg_not, neg1_lt, not_true_eq_false, not_false_eq_true, false_implies, true_implies, implies_true, and_true, true_and, eq_self, ref22s, ref22n, ref00, refN, tch_n, e6, e7, hlt]
            refine ⟨fun q => ?_, fun q => ?_⟩
            · have h1 : (mEv I L 0 j).1 = I 7 j := rfl
              have := ih (by omega) I1 L1 f1 f2 (fun x hx => f3 x fun z => hx ⟨by omega, z.2⟩) (fun x hx hx7 => f4 x (by
                rcases Nat.lt_succ_iff_lt_or_eq.mp hx with y | rfl
                · exact y
                · exact absurd hx7 q) hx7) (pg.cg fun p _ => by rw [hpT]; simp [q])
              rw [h1] at this
              simpa [q] using this
            · have h1 : (mEv I L 0 j).1 = nI i := q
              have fin : ∀ I2 L2, (∀ g, g ≠ 10 → I2 g = tch I1 (pgI (I1 7 j) (L1 8 j) (I1 9 j)) g) → (∀ x, x ≠ j → I2 10 x = I1 10 x) → I2 10 j = (if I 3 i = nI 3 then nI 1 else I 10 j) → (∀ g, g ≠ 11 → L2 g = L1 g) → (∀ x, x ≠ 10 * j → L2 11 x = L1 11 x) → L2 11 (10 * j) = (if I 3 i = nI 1 ∧ nI b = nI 3 then jns t (mEv I L 0 j).2.2.2.1 else L 11 (10 * j)) → X2 (nI ((((mLst I L 0 n).take j).countP (fun v => decide (v.1 = nI i))) + 1)) (nI (j + 1)) (Mw K m am I2 L2 h) := by
                intro I2 L2 k1 k2 k3 k4 k5 k6
                have := ih (by omega) I2 L2 (fun g h10 h13 h17 h18 => by rw [k1 g h10, tch_n h18 h17 h13, f1 g h10 h13 h17 h18]) (fun g hg => by rw [k4 g hg, f2 g hg]) (fun x hx => by
                  have hxj : x ≠ j := fun z => hx ⟨by omega, by rw [z]; exact q⟩
                  obtain ⟨y1, y2⟩ := f3 x fun z => hx ⟨by omega, z.2⟩
                  exact ⟨by rw [k2 x hxj]; exact y1, fun y hy => by rw [k5 _ (by omega)]; exact y2 y hy⟩) (fun x hx hx7 => by
                  by_cases y : x = j
                  · subst y
                    refine mv_ent v2 hi q (v5 x hjn) hb hfit.1 ⟨a, ha4, ha⟩ k3 (by rw [k4 8 (by decide), e8]) (by rw [k4 12 (by decide), f2 12 (by decide)]) k6 (fun z y hy => ?_)
                    by_cases y0 : y = 0
                    · subst y0; rw [Nat.add_zero, k6, if_neg z]
                    · rw [k5 _ (by omega)]
                      exact (f3 x (fun z => by omega)).2 y hy
                  · exact (f4 x (by omega) hx7).up v2 (k2 x y) (k4 8 (by decide)) (k4 12 (by decide)) (fun y hy => k5 _ (by omega))) ((pg.step v7 e14 (pgI_lt _ _ _) (k1 13 (by decide)) (by rw [k1 17 (by decide)]) (by rw [k1 18 (by decide)])).cg fun p _ => by
                  rw [hpT, e7, e8, e9, q]
                  simp only [decide_true, Bool.true_and]
                  congr 1
                  exact decide_eq_decide.mpr eq_comm)
                rw [h1] at this
                simpa using this
              refine (sp_mTouchOf htr A (by omega)).V ?_
              rintro h' rfl
              have t3 : tch I1 (pgI (I1 7 j) (L1 8 j) (I1 9 j)) 3 i = nI a := by rw [tch_n (by decide) (by decide) (by decide)]; exact e3
              have t10 : tch I1 (pgI (I1 7 j) (L1 8 j) (I1 9 j)) 10 j = I 10 j := by rw [tch_n (by decide) (by decide) (by decide)]; exact (f3 j (fun z => by omega)).1
              have t10x : ∀ x, tch I1 (pgI (I1 7 j) (L1 8 j) (I1 9 j)) 10 x = I1 10 x := fun x => by rw [tch_n (by decide) (by decide) (by decide)]
              have l0 : L1 11 (10 * j) = L 11 (10 * j) := by
                have := (f3 j (fun z => by omega)).2 0 (by decide)
                simpa using this
              have e3n : ∀ x y, x < 4 → y < 4 → (nI x = nI y ↔ x = y) := fun x y h1 h2 => nI_eq (by omega) (by omega)
              have A3 : ∀ y, I 3 i = nI y ↔ nI a = nI y := fun y => by rw [ha]
              simp (disch := omega) only [g0M, g1M, g2M, g3M, g4M, g5M, g6M, g7M, g8M, g9M, g10M, g11M, g12M, g13M, g14M, g15M, g16M, g17M, g18M, g19M, g20M, g21M, g22M, p0M, p1M, p16M, p17M, p18M, p19M, p20M, p21M, p22M, r2M A, r3M A, r4M A, r5M A, r6M A, r7M A, r8M A, r9M A, r10M A, r11M A, r12M A, r13M A, r14M A, r15M A, w2M A, w3M A, w4M A, w5M A, w6M A, w7M A, w8M A, w9M A, w10M A, w11M A, w12M A, w13M A, w14M A, w15M A, Mw_o, true_and, Option.some.injEq, Value.ref.injEq, Value.int.injEq, Value.long.injEq, exists_eq_left', setI_f, setI_n, setL_f, setL_n, upd_s, updL_s, pk_mul, nI_add, nI_sub1, nI01, neg_not, neg1_lt, not_true_eq_false, not_false_eq_true, false_implies, true_implies, implies_true, and_true, true_and, eq_self, ref22s, ref22n, ref00, refN, tch_n, t3]
              refine ⟨fun y1 => ⟨fun y3 => ?_, fun y3 => ?_⟩, fun y1 => ⟨fun y2 => ⟨fun y3 => ?_, fun y3 => ?_⟩, fun y2 => ?_⟩⟩
              · exact fin _ L1 (fun _ _ => rfl) (fun x _ => t10x x) (by rw [t10, if_neg (by rw [A3]; exact y3)]) (fun _ _ => rfl) (fun _ _ => rfl) (by rw [if_neg (by rw [A3]; exact fun z => y1 z.1)]; exact l0)
              · exact fin _ L1 (fun g hg => setI_n hg) (fun x hx => by rw [setI_f, upd_n hx, t10x]) (by rw [setI_f, upd_s, if_pos (by rw [A3]; exact y3)]) (fun _ _ => rfl) (fun _ _ => rfl) (by rw [if_neg (by rw [A3]; exact fun z => y1 z.1)]; exact l0)
              · exact fin _ L1 (fun _ _ => rfl) (fun x _ => t10x x) (by rw [t10, if_neg (by rw [A3]; exact y3)]) (fun _ _ => rfl) (fun _ _ => rfl) (by rw [if_neg (fun z => y2 z.2)]; exact l0)
              · rw [y1] at y3; exact absurd y3 (by decide)
              · have ha1 : I 3 i = nI 1 := (A3 1).mpr y1
                obtain ⟨st, hst, s7, tk⟩ := v5 j hjn
                have hsti : st = i := (nI_eq (by omega) (by omega)).mp (s7.symm.trans q)
                subst hsti
                simp only [Nat.mul_zero, Nat.zero_add] at tk
                obtain ⟨u, u10, u0, ub, -⟩ := tk (by rw [ha1]; decide)
                have hev := mEv_1 (L := L) ((kdE_st q (show st < 1000 by omega)).trans ha1) u10 (by omega)
                intro X3 hX3
                have key3 : ∀ d, d < u → ∀ L2, (∀ g, g ≠ 11 → L2 g = L1 g) → (∀ x, x ≠ 10 * j → L2 11 x = L1 11 x) → L2 11 (10 * j) = jns t ((List.range (u - d)).map (fun y => L 11 (10 * j + y))) → X3 (nI (u - d)) (Mw K m am (tch I1 (pgI (I1 7 j) (L1 8 j) (I1 9 j))) L2 h) := by
                  intro d
                  induction d with
                  | zero =>
                    intro _ L2 k4 k5 k6
                    rw [Nat.sub_zero] at k6 ⊢
                    refine hX3 _ _ ?_
                    simp (disch := omega) only [g0M, g1M, g2M, g3M, g4M, g5M, g6M, g7M, g8M, g9M, g10M, g11M, g12M, g13M, g14M, g15M, g16M, g17M, g18M, g19M, g20M, g21M, g22M, p0M, p1M, p16M, p17M, p18M, p19M, p20M, p21M, p22M, r2M A, r3M A, r4M A, r5M A, r6M A, r7M A, r8M A, r9M A, r10M A, r11M A, r12M A, r13M A, r14M A, r15M A, w2M A, w3M A, w4M A, w5M A, w6M A, w7M A, w8M A, w9M A, w10M A, w11M A, w12M A, w13M A, w14M A, w15M A, Mw_o, true_and, Option.some.injEq, Value.ref.injEq, Value.int.injEq, Value.long.injEq, exists_eq_left', setI_f, setI_n, setL_f, setL_n, upd_s, updL_s, pk_mul, nI_add, nI_sub1, t10, u10]
                    refine ⟨fun _ => ?_, fun q => absurd (nI_le (Nat.le_refl _) (by omega)) q⟩
                    exact fin _ L2 (fun _ _ => rfl) (fun x _ => t10x x) (by rw [t10, if_neg (by rw [ha1]; decide)]) k4 k5 (by rw [if_pos ⟨ha1, y2⟩, hev]; exact k6)
                  | succ d ih3 =>
                    intro hd3 L2 k4 k5 k6
                    refine hX3 _ _ ?_
                    have hlt3 : ¬ nI u ≤ nI (u - (d + 1)) := nI_ge (by omega) (by omega)
                    simp (disch := omega) only [g0M, g1M, g2M, g3M, g4M, g5M, g6M, g7M, g8M, g9M, g10M, g11M, g12M, g13M, g14M, g15M, g16M, g17M, g18M, g19M, g20M, g21M, g22M, p0M, p1M, p16M, p17M, p18M, p19M, p20M, p21M, p22M, r2M A, r3M A, r4M A, r5M A, r6M A, r7M A, r8M A, r9M A, r10M A, r11M A, r12M A, r13M A, r14M A, r15M A, w2M A, w3M A, w4M A, w5M A, w6M A, w7M A, w8M A, w9M A, w10M A, w11M A, w12M A, w13M A, w14M A, w15M A, Mw_o, true_and, Option.some.injEq, Value.ref.injEq, Value.int.injEq, Value.long.injEq, exists_eq_left', setI_f, setI_n, setL_f, setL_n, upd_s, updL_s, pk_mul, nI_add, nI_sub1, nI01, neg_not, neg1_lt, not_true_eq_false, not_false_eq_true, false_implies, true_implies, implies_true, and_true, true_and, eq_self, ref22s, ref22n, ref00, refN, tch_n, t10, u10, hlt3]
                    refine (sp_mFolded htr).L ?_
                    rintro r h' ⟨rfl, rfl⟩
                    simp (disch := omega) only [g0M, g1M, g2M, g3M, g4M, g5M, g6M, g7M, g8M, g9M, g10M, g11M, g12M, g13M, g14M, g15M, g16M, g17M, g18M, g19M, g20M, g21M, g22M, p0M, p1M, p16M, p17M, p18M, p19M, p20M, p21M, p22M, r2M A, r3M A, r4M A, r5M A, r6M A, r7M A, r8M A, r9M A, r10M A, r11M A, r12M A, r13M A, r14M A, r15M A, w2M A, w3M A, w4M A, w5M A, w6M A, w7M A, w8M A, w9M A, w10M A, w11M A, w12M A, w13M A, w14M A, w15M A, Mw_o, true_and, Option.some.injEq, Value.ref.injEq, Value.int.injEq, Value.long.injEq, exists_eq_left', setI_f, setI_n, setL_f, setL_n, upd_s, updL_s, pk_mul, nI_add, nI_sub1]
                    have hx : u - d = u - (d + 1) + 1 := by omega
                    have lx : L2 11 (10 * j + (u - (d + 1))) = L 11 (10 * j + (u - (d + 1))) := by
                      rw [k5 _ (by omega)]
                      exact (f3 j (fun z => by omega)).2 _ (by omega)
                    have := ih3 (by omega) (setL L2 11 (10 * j) (jn t (L2 11 (10 * j)) (L2 11 (10 * j + (u - (d + 1)))))) (fun g hg => by rw [setL_n hg, k4 g hg]) (fun x hx => by rw [setL_f, updL_n hx, k5 x hx]) (by rw [setL_f, updL_s, hx, jns_s (by omega), k6, lx])
                    rw [hx] at this
                    exact this
                have := key3 (u - 1) (by omega) L1 (fun _ _ => rfl) (fun _ _ => rfl) (by rw [show u - (u - 1) = 1 by omega, l0]; rfl)
                rw [show u - (u - 1) = 1 by omega] at this
                exact this
        have := key2 n (Nat.le_refl _) (setI I 0 0 (nI 0)) L (fun g _ _ _ _ => rfl) (fun _ _ => rfl) (fun x _ => ⟨by rw [setI_n (by decide)], fun _ _ => rfl⟩) (fun x hx => absurd hx (by omega)) (by
          rw [Nat.sub_self, List.take_zero]
          exact PgM.rf (z0_n (by decide)) (by rw [setI_n (by decide)]) (by rw [setI_n (by decide)]))
        rw [Nat.sub_self, List.take_zero] at this
        exact this
      · subst q
        rcases hf with ⟨z, _⟩ | ⟨_, z⟩
        · exact absurd z.symm nI01
        · rw [← hPost]
          exact ⟨_, rfl, Or.inr ⟨i, hi, rfl, Or.inr (Or.inl ⟨hk, z, rfl, rfl⟩)⟩⟩
    | succ d ih =>
      intro hd f hf
      obtain ⟨j, hj⟩ : ∃ j, n - (d + 1) = j := ⟨_, rfl⟩
      have hjd : n - d = j + 1 := by omega
      have hjn : j < n := by omega
      rw [hj] at hf ⊢
      rw [hjd] at ih
      have hlt : ¬ nI n ≤ nI j := nI_ge hjn (by omega)
      refine hX _ _ _ ?_
      simp (disch := omega) only [g0M, g1M, g2M, g3M, g4M, g5M, g6M, g7M, g8M, g9M, g10M, g11M, g12M, g13M, g14M, g15M, g16M, g17M, g18M, g19M, g20M, g21M, g22M, p0M, p1M, p16M, p17M, p18M, p19M, p20M, p21M, p22M, r2M A, r3M A, r4M A, r5M A, r6M A, r7M A, r8M A, r9M A, r10M A, r11M A, r12M A, r13M A, r14M A, r15M A, w2M A, w3M A, w4M A, w5M A, w6M A, w7M A, w8M A, w9M A, w10M A, w11M A, w12M A, w13M A, w14M A, w15M A, Mw_o, true_and, Option.some.injEq, Value.ref.injEq, Value.int.injEq, Value.long.injEq, exists_eq_left', setI_f, setI_n, setL_f, setL_n, upd_s, updL_s, pk_mul, nI_add, nI_sub1, nI01, neg_not, neg1_lt, not_true_eq_false, not_false_eq_true, false_implies, true_implies, implies_true, and_true, true_and, eq_self, ref22s, ref22n, ref00, refN, tch_n, v3, hlt]
      intro X2 hX2
      by_cases q : I 7 j = nI i
      · obtain ⟨st, u, hst, s7, st2, snu, u0, ub⟩ := mEv_nu (L := L) v2 (by simpa using v8) (v5 j hjn)
        have key4 : ∀ d, d ≤ u → ∀ f, (f = nI 1 ∧ ((cmv (I 3 i) (nI b) ∧ ∀ e, e < j → I 7 e = nI i → ∀ x ∈ (mEv I L 0 e).2.2.2.1, ft (nI b) t x) ∧ ∀ y, y < u - d → ft (nI b) t (L 11 (10 * j + y))) ∨ f = nI 0 ∧ ¬ ((cmv (I 3 i) (nI b) ∧ ∀ e, e < j → I 7 e = nI i → ∀ x ∈ (mEv I L 0 e).2.2.2.1, ft (nI b) t x) ∧ ∀ y, y < u - d → ft (nI b) t (L 11 (10 * j + y)))) → X2 f (nI (u - d)) (Mw K m am (setI I 0 0 (nI 0)) L h) := by
          intro d4
          induction d4 with
          | zero =>
            intro _ f hf
            rw [Nat.sub_zero] at hf ⊢
            refine hX2 _ _ _ ?_
            simp (disch := omega) only [g0M, g1M, g2M, g3M, g4M, g5M, g6M, g7M, g8M, g9M, g10M, g11M, g12M, g13M, g14M, g15M, g16M, g17M, g18M, g19M, g20M, g21M, g22M, p0M, p1M, p16M, p17M, p18M, p19M, p20M, p21M, p22M, r2M A, r3M A, r4M A, r5M A, r6M A, r7M A, r8M A, r9M A, r10M A, r11M A, r12M A, r13M A, r14M A, r15M A, w2M A, w3M A, w4M A, w5M A, w6M A, w7M A, w8M A, w9M A, w10M A, w11M A, w12M A, w13M A, w14M A, w15M A, Mw_o, true_and, Option.some.injEq, Value.ref.injEq, Value.int.injEq, Value.long.injEq, exists_eq_left', setI_f, setI_n, setL_f, setL_n, upd_s, updL_s, pk_mul, nI_add, nI_sub1, nI01, neg_not, neg1_lt, not_true_eq_false, not_false_eq_true, false_implies, true_implies, implies_true, and_true, true_and, eq_self, ref22s, ref22n, ref00, refN, tch_n, q]
            refine (sp_mNumbersOf htr A (c := 0) (e := j) (i := st) (by omega) (by omega) (by rw [setI_n (by decide)]; exact s7) (by omega)).I ?_
            rintro r h' ⟨rfl, rfl⟩
            rw [setI_n (by decide), setI_n (by decide), st2]
            refine ⟨fun _ => ?_, fun q => absurd (nI_le (Nat.le_refl _) (by omega)) q⟩
            refine ih (by omega) f ?_
            have : ((cmv (I 3 i) (nI b) ∧ ∀ e, e < j → I 7 e = nI i → ∀ x ∈ (mEv I L 0 e).2.2.2.1, ft (nI b) t x) ∧ ∀ y, y < u → ft (nI b) t (L 11 (10 * j + y))) ↔ (cmv (I 3 i) (nI b) ∧ ∀ e, e < j + 1 → I 7 e = nI i → ∀ x ∈ (mEv I L 0 e).2.2.2.1, ft (nI b) t x) := by
              constructor
              · rintro ⟨⟨c1, c2⟩, c3⟩
                refine ⟨c1, fun e he h7 x hx => ?_⟩
                rcases Nat.lt_succ_iff_lt_or_eq.mp he with y | rfl
                · exact c2 e y h7 x hx
                · rw [snu] at hx
                  obtain ⟨y, hy, rfl⟩ := List.mem_map.mp hx
                  exact c3 y (List.mem_range.mp hy)
              · rintro ⟨c1, c2⟩
                exact ⟨⟨c1, fun e he => c2 e (by omega)⟩, fun y hy => c2 j (by omega) q _ (by rw [snu]; exact List.mem_map.mpr ⟨y, List.mem_range.mpr hy, rfl⟩)⟩
            rw [this] at hf
            exact hf
          | succ d4 ih4 =>
            intro hd4 f hf
            obtain ⟨x, hx⟩ : ∃ x, u - (d4 + 1) = x := ⟨_, rfl⟩
            have hxd : u - d4 = x + 1 := by omega
            rw [hx] at hf ⊢
            rw [hxd] at ih4
            refine hX2 _ _ _ ?_
            simp (disch := omega) only [g0M, g1M, g2M, g3M, g4M, g5M, g6M, g7M, g8M, g9M, g10M, g11M, g12M, g13M, g14M, g15M, g16M, g17M, g18M, g19M, g20M, g21M, g22M, p0M, p1M, p16M, p17M, p18M, p19M, p20M, p21M, p22M, r2M A, r3M A, r4M A, r5M A, r6M A, r7M A, r8M A, r9M A, r10M A, r11M A, r12M A, r13M A, r14M A, r15M A, w2M A, w3M A, w4M A, w5M A, w6M A, w7M A, w8M A, w9M A, w10M A, w11M A, w12M A, w13M A, w14M A, w15M A, Mw_o, true_and, Option.some.injEq, Value.ref.injEq, Value.int.injEq, Value.long.injEq, exists_eq_left', setI_f, setI_n, setL_f, setL_n, upd_s, updL_s, pk_mul, nI_add, nI_sub1, nI01, neg_not, neg1_lt, not_true_eq_false, not_false_eq_true, false_implies, true_implies, implies_true, and_true, true_and, eq_self, ref22s, ref22n, ref00, refN, tch_n, q]
            refine (sp_mNumbersOf htr A (c := 0) (e := j) (i := st) (by omega) (by omega) (by rw [setI_n (by decide)]; exact s7) (by omega)).I ?_
            rintro r h' ⟨rfl, rfl⟩
            rw [setI_n (by decide), setI_n (by decide), st2]
            refine ⟨fun y => absurd y (nI_ge (by omega) (by omega)), fun _ => ?_⟩
            simp (disch := omega) only [g0M, g1M, g2M, g3M, g4M, g5M, g6M, g7M, g8M, g9M, g10M, g11M, g12M, g13M, g14M, g15M, g16M, g17M, g18M, g19M, g20M, g21M, g22M, p0M, p1M, p16M, p17M, p18M, p19M, p20M, p21M, p22M, r2M A, r3M A, r4M A, r5M A, r6M A, r7M A, r8M A, r9M A, r10M A, r11M A, r12M A, r13M A, r14M A, r15M A, w2M A, w3M A, w4M A, w5M A, w6M A, w7M A, w8M A, w9M A, w10M A, w11M A, w12M A, w13M A, w14M A, w15M A, Mw_o, true_and, Option.some.injEq, Value.ref.injEq, Value.int.injEq, Value.long.injEq, exists_eq_left', setI_f, setI_n, setL_f, setL_n, upd_s, updL_s, pk_mul, nI_add, nI_sub1]
            refine (sp_mFits htr).I ?_
            rintro r h' ⟨⟨d9, rfl⟩, rfl⟩
            refine ih4 (by omega) _ ?_
            have hy : (@bI (ft (nI b) t (L 11 (10 * j + x))) d9 = nI 1 ∧ ft (nI b) t (L 11 (10 * j + x))) ∨ (@bI (ft (nI b) t (L 11 (10 * j + x))) d9 = nI 0 ∧ ¬ ft (nI b) t (L 11 (10 * j + x))) := by
              by_cases y : ft (nI b) t (L 11 (10 * j + x))
              · exact Or.inl ⟨bI_t y, y⟩
              · exact Or.inr ⟨bI_f y, y⟩
            have := and01 hf hy
            rw [and_assoc, show ((∀ y, y < x → ft (nI b) t (L 11 (10 * j + y))) ∧ ft (nI b) t (L 11 (10 * j + x))) ↔ ∀ y, y < x + 1 → ft (nI b) t (L 11 (10 * j + y)) from ⟨fun z y hy => by
              rcases Nat.lt_succ_iff_lt_or_eq.mp hy with w | rfl
              · exact z.1 y w
              · exact z.2, fun z => ⟨fun y hy => z y (by omega), z x (by omega)⟩⟩] at this
            exact this
        have := key4 u (Nat.le_refl _) f (by
          rw [Nat.sub_self]
          have e : ∀ P : Prop, (P ∧ ∀ y, y < 0 → ft (nI b) t (L 11 (10 * j + y))) ↔ P := fun P => ⟨fun z => z.1, fun z => ⟨z, fun y hy => absurd hy (Nat.not_lt_zero y)⟩⟩
          rw [e]; exact hf)
        rw [Nat.sub_self] at this
        exact this
      · refine hX2 _ _ _ ?_
        simp (disch := omega) only [g0M, g1M, g2M, g3M, g4M, g5M, g6M, g7M, g8M, g9M, g10M, g11M, g12M, g13M, g14M, g15M, g16M, g17M, g18M, g19M, g20M, g21M, g22M, p0M, p1M, p16M, p17M, p18M, p19M, p20M, p21M, p22M, r2M A, r3M A, r4M A, r5M A, r6M A, r7M A, r8M A, r9M A, r10M A, r11M A, r12M A, r13M A, r14M A, r15M A, w2M A, w3M A, w4M A, w5M A, w6M A, w7M A, w8M A, w9M A, w10M A, w11M A, w12M A, w13M A, w14M A, w15M A, Mw_o, true_and, Option.some.injEq, Value.ref.injEq, Value.int.injEq, Value.long.injEq, exists_eq_left', setI_f, setI_n, setL_f, setL_n, upd_s, updL_s, pk_mul, nI_add, nI_sub1, nI01, neg_not, neg1_lt, not_true_eq_false, not_false_eq_true, false_implies, true_implies, implies_true, and_true, true_and, eq_self, ref22s, ref22n, ref00, refN, tch_n, q]
        refine ih (by omega) f ?_
        have : (cmv (I 3 i) (nI b) ∧ ∀ e, e < j → I 7 e = nI i → ∀ x ∈ (mEv I L 0 e).2.2.2.1, ft (nI b) t x) ↔ (cmv (I 3 i) (nI b) ∧ ∀ e, e < j + 1 → I 7 e = nI i → ∀ x ∈ (mEv I L 0 e).2.2.2.1, ft (nI b) t x) := by
          refine and_congr_right fun _ => ⟨fun z e he h7 => ?_, fun z e he => z e (by omega)⟩
          rcases Nat.lt_succ_iff_lt_or_eq.mp he with y | rfl
          · exact z e y h7
          · exact absurd h7 q
        rw [← this]; exact hf
  have := key n (Nat.le_refl _) (bI (cmv (I 3 i) (nI b))) (by
    rw [Nat.sub_self]
    by_cases y : cmv (I 3 i) (nI b)
    · exact Or.inl ⟨bI_t y, y, fun e he => absurd he (Nat.not_lt_zero e)⟩
    · exact Or.inr ⟨bI_f y, fun z => y z.1⟩)
  rw [Nat.sub_self] at this
  exact this
end Mod
