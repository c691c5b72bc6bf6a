/-! ===== the reference: copies ===== -/
def caI (I : MI) (f t n q : Nat) : MI := fun g => if g = 6 then upd (I 6) t (I 6 f) else if g = 7 ∨ g = 9 ∨ g = 10 then shf (I g) (150 * f) (150 * t) n else if g = 13 then shf (I 13) (16 * f) (16 * t) q else I g
def caL (L : ML) (f t n : Nat) : ML := fun g => if g = 8 then shf (L 8) (150 * f) (150 * t) n else if g = 11 ∨ g = 12 then shf (L g) (1500 * f) (1500 * t) (10 * n) else L g
theorem caI_6 {I : MI} {f t n q : Nat} : caI I f t n q 6 = upd (I 6) t (I 6 f) := by simp [caI]
theorem caI_7 {I : MI} {f t n q : Nat} : caI I f t n q 7 = shf (I 7) (150 * f) (150 * t) n := by simp [caI]
theorem caI_9 {I : MI} {f t n q : Nat} : caI I f t n q 9 = shf (I 9) (150 * f) (150 * t) n := by simp [caI]
theorem caI_10 {I : MI} {f t n q : Nat} : caI I f t n q 10 = shf (I 10) (150 * f) (150 * t) n := by simp [caI]
theorem caI_13 {I : MI} {f t n q : Nat} : caI I f t n q 13 = shf (I 13) (16 * f) (16 * t) q := by simp [caI]
theorem caI_n {I : MI} {f t n q g : Nat} (h6 : g ≠ 6) (h7 : g ≠ 7) (h9 : g ≠ 9) (h10 : g ≠ 10) (h13 : g ≠ 13) : caI I f t n q g = I g := by simp [caI, h6, h7, h9, h10, h13]
theorem caL_8 {L : ML} {f t n : Nat} : caL L f t n 8 = shf (L 8) (150 * f) (150 * t) n := by simp [caL]
theorem caL_11 {L : ML} {f t n : Nat} : caL L f t n 11 = shf (L 11) (1500 * f) (1500 * t) (10 * n) := by simp [caL]
theorem caL_12 {L : ML} {f t n : Nat} : caL L f t n 12 = shf (L 12) (1500 * f) (1500 * t) (10 * n) := by simp [caL]
theorem caL_n {L : ML} {f t n g : Nat} (h8 : g ≠ 8) (h11 : g ≠ 11) (h12 : g ≠ 12) : caL L f t n g = L g := by simp [caL, h8, h11, h12]
theorem ca0 {I : MI} {f t : Nat} : setI I 6 t (I 6 f) = caI I f t 0 0 := by
  funext g
  unfold caI
  rw [shf_0, shf_0]
  by_cases h6 : g = 6
  · subst h6; rw [if_pos rfl, setI_f]
  · rw [if_neg h6, setI_n h6]
    split
    · rfl
    · split
      · rename_i z; rw [z]
      · rfl
theorem caL0 {L : ML} {f t : Nat} : caL L f t 0 = L := by
  funext g
  unfold caL
  rw [shf_0, Nat.mul_zero, shf_0]
  split
  · rename_i z; rw [z]
  · split <;> rfl
theorem shf_step {F : Nat → Int32} {a b k : Nat} (h : ¬ (b ≤ a + k ∧ a + k < b + k)) : upd (shf F a b k) (b + k) (shf F a b k (a + k)) = shf F a b (k + 1) := by rw [shf_out h, shf_si]
theorem shf_stepL {F : Nat → Int64} {a b k : Nat} (h : ¬ (b ≤ a + k ∧ a + k < b + k)) : vp_updL (shf F a b k) (b + k) (shf F a b k (a + k)) = shf F a b (k + 1) := by rw [shf_out h, shf_sl]
theorem caI_s {I : MI} {f t k : Nat} (hft : f ≠ t) (hk : k < 150) : cpI (caI I f t k 0) (150 * f + k) (150 * t + k) = caI I f t (k + 1) 0 := by
  have d : ¬ (150 * t ≤ 150 * f + k ∧ 150 * f + k < 150 * t + k) := by omega
  funext g
  unfold cpI
  by_cases h10 : g = 10
  · subst h10; rw [setI_f, setI_n (by decide), setI_n (by decide), caI_10, caI_10, shf_step d]
  rw [setI_n h10]
  by_cases h9 : g = 9
  · subst h9; rw [setI_f, setI_n (by decide), caI_9, caI_9, shf_step d]
  rw [setI_n h9]
  by_cases h7 : g = 7
  · subst h7; rw [setI_f, caI_7, caI_7, shf_step d]
  rw [setI_n h7]
  simp only [caI, h7, h9, h10, or_self, if_false]
theorem caL_s {L : ML} {f t k : Nat} (hft : f ≠ t) (hk : k < 150) : cpL (caL L f t k) (150 * f + k) (150 * t + k) 10 = caL L f t (k + 1) := by
  have d : ¬ (150 * t ≤ 150 * f + k ∧ 150 * f + k < 150 * t + k) := by omega
  have e1 : 10 * (150 * f + k) = 1500 * f + 10 * k := by omega
  have e2 : 10 * (150 * t + k) = 1500 * t + 10 * k := by omega
  have e3 : 10 * (k + 1) = 10 * k + 10 := by omega
  funext g
  by_cases h11 : g = 11
  · subst h11; rw [cpL_11, caL_11, caL_11, e1, e2, e3, shf_shf (by omega)]
  by_cases h12 : g = 12
  · subst h12; rw [cpL_12, caL_12, caL_12, e1, e2, e3, shf_shf (by omega)]
  rw [cpL, if_neg (by omega)]
  by_cases h8 : g = 8
  · subst h8; rw [setL_f, caL_8, caL_8, shf_stepL d]
  · rw [setL_n h8, caL_n h8 h11 h12, caL_n h8 h11 h12]
theorem caP_s {I : MI} {f t n q : Nat} (hft : f ≠ t) (hq : q < 16) : setI (caI I f t n q) 13 (16 * t + q) (caI I f t n q 13 (16 * f + q)) = caI I f t n (q + 1) := by
  funext g
  by_cases h13 : g = 13
  · subst h13; rw [setI_f, caI_13, caI_13, shf_step (by omega)]
  · rw [setI_n h13]
    simp only [caI, h13, if_false]
/-- kinds and types of k states -/
def ktI (I : MI) (f t k : Nat) : MI := fun g => if g = 3 ∨ g = 4 then shf (I g) (8 * f) (8 * t) k else I g
theorem ktI_0 {I : MI} {f t : Nat} : ktI I f t 0 = I := by
  funext g
  unfold ktI
  rw [shf_0]; split <;> rfl
theorem ktI_3 {I : MI} {f t k : Nat} : ktI I f t k 3 = shf (I 3) (8 * f) (8 * t) k := by simp [ktI]
theorem ktI_4 {I : MI} {f t k : Nat} : ktI I f t k 4 = shf (I 4) (8 * f) (8 * t) k := by simp [ktI]
theorem ktI_n {I : MI} {f t k g : Nat} (h3 : g ≠ 3) (h4 : g ≠ 4) : ktI I f t k g = I g := by simp [ktI, h3, h4]
theorem ktI_s {I : MI} {f t k : Nat} (hft : f ≠ t) (hk : k < 8) : setI (setI (ktI I f t k) 3 (8 * t + k) (ktI I f t k 3 (8 * f + k))) 4 (8 * t + k) (ktI I f t k 4 (8 * f + k)) = ktI I f t (k + 1) := by
  funext g
  by_cases h4 : g = 4
  · subst h4; rw [setI_f, setI_n (by decide), ktI_4, ktI_4, shf_step (by omega)]
  rw [setI_n h4]
  by_cases h3 : g = 3
  · subst h3; rw [setI_f, ktI_3, ktI_3, shf_step (by omega)]
  · rw [setI_n h3, ktI_n h3 h4, ktI_n h3 h4]
section Mod
variable {l : Launch} {K : Kx} {m : Nat} {am : Nat → Nat} {I I' : MI} {L L' : ML} {h : Hp} {sm n : Nat} {s : Int32}
theorem sp_mCopyAll {f t : Nat} (htr : l.stackTraces = false) (A : AM m am) (hf : f < 7) (ht : t < 7) (hft : f ≠ t) (hn : I 6 f = nI n) (hn2 : n ≤ 150) : mX4_copyAll l K [.ref m, .int (nI f), .int (nI t)] (Mw K m am I L h) (kV fun h' => h' = Mw K m am (caI I f t n 16) (caL L f t n) h) := by
  refine fX4_copyAll htr ?_
  simp (disch := omega) only [g0M, g1M, g2M, g3M, g4M, g5M, g6M, g7M, g8M, g9M, g10M, g11M, g12M, g13M, g14M, g15M, g16M, g17M, g18M, g19M, g20M, g21M, g22M, p0M, p1M, p16M, p17M, p18M, p19M, p20M, p21M, p22M, r2M A, r3M A, r4M A, r5M A, r6M A, r7M A, r8M A, r9M A, r10M A, r11M A, r12M A, r13M A, r14M A, r15M A, w2M A, w3M A, w4M A, w5M A, w6M A, w7M A, w8M A, w9M A, w10M A, w11M A, w12M A, w13M A, w14M A, w15M A, Mw_o, true_and, Option.some.injEq, Value.ref.injEq, Value.int.injEq, Value.long.injEq, exists_eq_left', setI_f, setI_n, setL_f, setL_n, upd_s, updL_s, pk_mul, nI_add, nI_sub1]
  rw [ca0]
  intro X hX
  rw [← caL0 (L := L) (f := f) (t := t)]
  have n6 : ∀ k q, caI I f t k q 6 f = nI n := fun k q => by rw [caI_6, upd_n hft, hn]
  refine loopN (n := n) (fun k => X (nI k) (Mw K m am (caI I f t k 0) (caL L f t k) h)) ?_ ?_ 0 (Nat.zero_le _)
  · refine hX _ _ ?_
    simp (disch := omega) only [g0M, g1M, g2M, g3M, g4M, g5M, g6M, g7M, g8M, g9M, g10M, g11M, g12M, g13M, g14M, g15M, g16M, g17M, g18M, g19M, g20M, g21M, g22M, p0M, p1M, p16M, p17M, p18M, p19M, p20M, p21M, p22M, r2M A, r3M A, r4M A, r5M A, r6M A, r7M A, r8M A, r9M A, r10M A, r11M A, r12M A, r13M A, r14M A, r15M A, w2M A, w3M A, w4M A, w5M A, w6M A, w7M A, w8M A, w9M A, w10M A, w11M A, w12M A, w13M A, w14M A, w15M A, Mw_o, true_and, Option.some.injEq, Value.ref.injEq, Value.int.injEq, Value.long.injEq, exists_eq_left', setI_f, setI_n, setL_f, setL_n, upd_s, updL_s, pk_mul, nI_add, nI_sub1, nI01, neg_not, neg1_lt, not_true_eq_false, not_false_eq_true, false_implies, true_implies, implies_true, and_true, true_and, eq_self, ref22s, ref22n, ref00, refN, tch_n, n6]
    refine ⟨fun _ => ?_, fun q => absurd (nI_le (Nat.le_refl _) (by omega)) q⟩
    intro X2 hX2
    refine loopN (n := 16) (fun q => X2 (nI q) (Mw K m am (caI I f t n q) (caL L f t n) h)) ?_ ?_ 0 (Nat.zero_le _)
    · exact hX2 _ _ ⟨fun _ => ⟨rfl, rfl⟩, fun q => absurd (nI_le (Nat.le_refl _) (by omega)) q⟩
    · intro q hq ih
      refine hX2 _ _ ⟨fun y => absurd y (nI_ge hq (by decide)), fun _ => ?_⟩
      simp (disch := omega) only [g0M, g1M, g2M, g3M, g4M, g5M, g6M, g7M, g8M, g9M, g10M, g11M, g12M, g13M, g14M, g15M, g16M, g17M, g18M, g19M, g20M, g21M, g22M, p0M, p1M, p16M, p17M, p18M, p19M, p20M, p21M, p22M, r2M A, r3M A, r4M A, r5M A, r6M A, r7M A, r8M A, r9M A, r10M A, r11M A, r12M A, r13M A, r14M A, r15M A, w2M A, w3M A, w4M A, w5M A, w6M A, w7M A, w8M A, w9M A, w10M A, w11M A, w12M A, w13M A, w14M A, w15M A, Mw_o, true_and, Option.some.injEq, Value.ref.injEq, Value.int.injEq, Value.long.injEq, exists_eq_left', setI_f, setI_n, setL_f, setL_n, upd_s, updL_s, pk_mul, nI_add, nI_sub1, nI01, neg_not, neg1_lt, not_true_eq_false, not_false_eq_true, false_implies, true_implies, implies_true, and_true, true_and, eq_self, ref22s, ref22n, ref00, refN, tch_n]
      rw [caP_s hft hq]
      exact ih
  · intro k hk ih
    refine hX _ _ ?_
    have hlt : ¬ nI n ≤ nI k := nI_ge hk (by omega)
    simp (disch := omega) only [g0M, g1M, g2M, g3M, g4M, g5M, g6M, g7M, g8M, g9M, g10M, g11M, g12M, g13M, g14M, g15M, g16M, g17M, g18M, g19M, g20M, g21M, g22M, p0M, p1M, p16M, p17M, p18M, p19M, p20M, p21M, p22M, r2M A, r3M A, r4M A, r5M A, r6M A, r7M A, r8M A, r9M A, r10M A, r11M A, r12M A, r13M A, r14M A, r15M A, w2M A, w3M A, w4M A, w5M A, w6M A, w7M A, w8M A, w9M A, w10M A, w11M A, w12M A, w13M A, w14M A, w15M A, Mw_o, true_and, Option.some.injEq, Value.ref.injEq, Value.int.injEq, Value.long.injEq, exists_eq_left', setI_f, setI_n, setL_f, setL_n, upd_s, updL_s, pk_mul, nI_add, nI_sub1, nI01, neg_not, neg1_lt, not_true_eq_false, not_false_eq_true, false_implies, true_implies, implies_true, and_true, true_and, eq_self, ref22s, ref22n, ref00, refN, tch_n, n6, hlt]
    refine (sp_mCopyEntry htr A (by omega) (by omega)).V ?_
    rintro h' rfl
    rw [caI_s hft (by omega), caL_s hft (by omega)]
    exact ih
theorem sp_mDrop {x : Int32} (htr : l.stackTraces = false) (A : AM m am) :
    mX4_drop l K [.ref m, .int x] (Mw K m am I L h) (kI fun r h' => (∃ j, j < 6 ∧ ¬ I 14 (j + 1) = nI 0 ∧ I 15 (j + 1) = x ∧ r = nI ((List.range 16).countP (shB (setI (z0 I) 14 (j + 1) (nI 0)))) ∧ h' = Mw K m am (setI (z0 I) 14 (j + 1) (nI 0)) L h) ∨ ((∀ j, j < 6 → ¬ I 14 (j + 1) = nI 0 → I 15 (j + 1) ≠ x) ∧ h' = Mw K m am (setI I 0 0 (nI 1)) L h)) := by
  refine fX4_drop htr ⟨_, p0M, ⟨_, Mw_m⟩, ?_⟩
  refine (sp_mCopyOf htr A).I ?_
  rintro r h' ⟨z, rfl⟩
  simp only [setI_n (show 14 ≠ 0 by decide), setI_n (show 15 ≠ 0 by decide)] at z
  rcases z with ⟨j, hj, rfl, z1, z2⟩ | ⟨rfl, z⟩
  · refine ⟨fun _ => ?_, fun y => absurd ((nI_eq (by omega) (by omega)).mp y) (by omega)⟩
    simp (disch := omega) only [g0M, g1M, g2M, g3M, g4M, g5M, g6M, g7M, g8M, g9M, g10M, g11M, g12M, g13M, g14M, g15M, g16M, g17M, g18M, g19M, g20M, g21M, g22M, p0M, p1M, p16M, p17M, p18M, p19M, p20M, p21M, p22M, r2M A, r3M A, r4M A, r5M A, r6M A, r7M A, r8M A, r9M A, r10M A, r11M A, r12M A, r13M A, r14M A, r15M A, w2M A, w3M A, w4M A, w5M A, w6M A, w7M A, w8M A, w9M A, w10M A, w11M A, w12M A, w13M A, w14M A, w15M A, Mw_o, true_and, Option.some.injEq, Value.ref.injEq, Value.int.injEq, Value.long.injEq, exists_eq_left', setI_f, setI_n, setL_f, setL_n, upd_s, updL_s, pk_mul, nI_add, nI_sub1, nI01, neg_not, neg1_lt, not_true_eq_false, not_false_eq_true, false_implies, true_implies, implies_true, and_true, true_and, eq_self, ref22s, ref22n, ref00, refN, tch_n]
    refine (sp_mSharedPages htr A).I ?_
    rintro r h' ⟨rfl, rfl⟩
    exact ⟨_, rfl, Or.inl ⟨j, hj, z1, z2, rfl, rfl⟩⟩
  · refine ⟨fun y => absurd rfl y, fun _ => ⟨⟨_, Mw_m⟩, ?_⟩⟩
    refine (sp_mFails htr).I ?_
    rintro r h' ⟨rfl, rfl⟩
    rw [setI_2]
    exact ⟨_, rfl, Or.inr ⟨z, rfl⟩⟩
/-- what restore leaves -/
def rsI (I : MI) (c n k : Nat) : MI := ktI (caI (z0 I) c 0 n 16) c 0 k
theorem sp_mRestore {x : Int32} {N S : Nat → Nat} (htr : l.stackTraces = false) (A : AM m am) (hN : ∀ c, c < 7 → (c = 0 ∨ ¬ I 14 c = nI 0) → I 6 c = nI (N c) ∧ N c ≤ 150) (hS : ∀ c, 0 < c → c < 7 → ¬ I 14 c = nI 0 → I 5 c = nI (S c) ∧ S c ≤ 8) :
    mX4_restore l K [.ref m, .int x] (Mw K m am I L h) (kI fun r h' => (∃ c, 0 < c ∧ c < 7 ∧ ¬ I 14 c = nI 0 ∧ I 15 c = x ∧ r = nI (N c) ∧ h' = Mw K m am (rsI I c (N c) (S c)) (caL L c 0 (N c)) h) ∨ ((∀ j, j < 6 → ¬ I 14 (j + 1) = nI 0 → I 15 (j + 1) ≠ x) ∧ h' = Mw K m am (setI I 0 0 (nI 1)) L h)) := by
  refine fX4_restore htr ⟨_, p0M, ⟨_, Mw_m⟩, ?_⟩
  refine (sp_mCopyOf htr A).I ?_
  rintro r h' ⟨z, rfl⟩
  simp only [setI_n (show 14 ≠ 0 by decide), setI_n (show 15 ≠ 0 by decide)] at z
  rcases z with ⟨j, hj, rfl, z1, z2⟩ | ⟨rfl, z⟩
  · refine ⟨fun _ => ⟨⟨_, Mw_m⟩, ?_⟩, fun y => absurd ((nI_eq (by omega) (by omega)).mp y) (by omega)⟩
    obtain ⟨n6, nb⟩ := hN (j + 1) (by omega) (Or.inr z1)
    obtain ⟨s5, sb⟩ := hS (j + 1) (by omega) (by omega) z1
    generalize hc : j + 1 = c at *
    refine (sp_mCopyAll (f := c) (t := 0) (n := N c) htr A (by omega) (by omega) (by omega) (by rw [setI_n (by decide)]; exact n6) nb).V ?_
    rintro h' rfl
    intro X hX
    rw [← ktI_0 (I := caI (setI I 0 0 (nI 0)) c 0 (N c) 16) (f := c) (t := 0)]
    have e5 : ∀ k, ktI (caI (setI I 0 0 (nI 0)) c 0 (N c) 16) c 0 k 5 c = nI (S c) := fun k => by rw [ktI_n (by decide) (by decide), caI_n (by decide) (by decide) (by decide) (by decide) (by decide), setI_n (by decide)]; exact s5
    have e6 : ∀ k, ktI (caI (setI I 0 0 (nI 0)) c 0 (N c) 16) c 0 k 6 0 = nI (N c) := fun k => by rw [ktI_n (by decide) (by decide), caI_6, upd_s, setI_n (by decide)]; exact n6
    refine loopN (n := S c) (fun k => X (nI k) (Mw K m am (ktI (caI (setI I 0 0 (nI 0)) c 0 (N c) 16) c 0 k) _ h)) ?_ ?_ 0 (Nat.zero_le _)
    · refine hX _ _ ?_
      simp (disch := omega) only [g0M, g1M, g2M, g3M, g4M, g5M, g6M, g7M, g8M, g9M, g10M, g11M, g12M, g13M, g14M, g15M, g16M, g17M, g18M, g19M, g20M, g21M, g22M, p0M, p1M, p16M, p17M, p18M, p19M, p20M, p21M, p22M, r2M A, r3M A, r4M A, r5M A, r6M A, r7M A, r8M A, r9M A, r10M A, r11M A, r12M A, r13M A, r14M A, r15M A, w2M A, w3M A, w4M A, w5M A, w6M A, w7M A, w8M A, w9M A, w10M A, w11M A, w12M A, w13M A, w14M A, w15M A, Mw_o, true_and, Option.some.injEq, Value.ref.injEq, Value.int.injEq, Value.long.injEq, exists_eq_left', setI_f, setI_n, setL_f, setL_n, upd_s, updL_s, pk_mul, nI_add, nI_sub1, nI01, neg_not, neg1_lt, not_true_eq_false, not_false_eq_true, false_implies, true_implies, implies_true, and_true, true_and, eq_self, ref22s, ref22n, ref00, refN, tch_n, e5, e6]
      exact ⟨fun _ => ⟨_, rfl, Or.inl ⟨c, by omega, by omega, z1, z2, rfl, rfl⟩⟩, fun q => absurd (nI_le (Nat.le_refl _) (by omega)) q⟩
    · intro k hk ih
      refine hX _ _ ?_
      have hlt : ¬ nI (S c) ≤ nI k := nI_ge hk (by omega)
      simp (disch := omega) only [g0M, g1M, g2M, g3M, g4M, g5M, g6M, g7M, g8M, g9M, g10M, g11M, g12M, g13M, g14M, g15M, g16M, g17M, g18M, g19M, g20M, g21M, g22M, p0M, p1M, p16M, p17M, p18M, p19M, p20M, p21M, p22M, r2M A, r3M A, r4M A, r5M A, r6M A, r7M A, r8M A, r9M A, r10M A, r11M A, r12M A, r13M A, r14M A, r15M A, w2M A, w3M A, w4M A, w5M A, w6M A, w7M A, w8M A, w9M A, w10M A, w11M A, w12M A, w13M A, w14M A, w15M A, Mw_o, true_and, Option.some.injEq, Value.ref.injEq, Value.int.injEq, Value.long.injEq, exists_eq_left', setI_f, setI_n, setL_f, setL_n, upd_s, updL_s, pk_mul, nI_add, nI_sub1, nI01, neg_not, neg1_lt, not_true_eq_false, not_false_eq_true, false_implies, true_implies, implies_true, and_true, true_and, eq_self, ref22s, ref22n, ref00, refN, tch_n, e5, hlt]
      rw [← ktI_s (by omega) (by omega)] at ih
      simp only [Nat.mul_zero, Nat.zero_add] at ih
      exact ih
  · refine ⟨fun y => absurd rfl y, fun _ => ⟨⟨_, Mw_m⟩, ?_⟩⟩
    refine (sp_mFails htr).I ?_
    rintro r h' ⟨rfl, rfl⟩
    rw [setI_2]
    exact ⟨_, rfl, Or.inr ⟨z, rfl⟩⟩
/-- what a snapshot leaves -/
def snI (I : MI) (c n sm : Nat) : MI := setI (setI (setI (setI (ktI (caI (z0 I) 0 c n 16) 0 c sm) 5 c (nI sm)) 14 c (nI 1)) 15 c (I 16 0)) 16 0 (I 16 0 + nI 1)
theorem subadd (x : Int32) : x + nI 1 - nI 1 = x := by rw [Int32.add_sub_cancel]
theorem sp_mSnapshot (htr : l.stackTraces = false) (A : AM m am) (hs : I 1 0 = nI sm) (h8 : sm ≤ 8) (hn : I 6 0 = nI n) (hn2 : n ≤ 150) :
    mX4_snapshot l K [.ref m] (Mw K m am I L h) (kI fun r h' => (r = -nI 4 ∧ h' = Mw K m am (z0 I) L h ∧ ∀ j, j < 6 → ¬ I 14 (j + 1) = nI 0) ∨ ∃ j, j < 6 ∧ I 14 (j + 1) = nI 0 ∧ (∀ i, i < j → ¬ I 14 (i + 1) = nI 0) ∧ r = I 16 0 ∧ h' = Mw K m am (snI I (j + 1) n sm) (caL L 0 (j + 1) n) h) := by
  refine fX4_snapshot htr ⟨_, p0M, ?_⟩
  intro X hX
  refine loopN (n := 6) (fun j => (∀ i, i < j → ¬ I 14 (i + 1) = nI 0) → X (nI (j + 1))) ?_ ?_ 0 (Nat.zero_le _) (fun i hi => absurd hi (Nat.not_lt_zero i))
  · intro hf
    exact hX _ ⟨fun _ => ⟨fun q => absurd rfl q, fun _ => ⟨_, rfl, Or.inl ⟨rfl, rfl, hf⟩⟩⟩, fun q => absurd (nI_le (Nat.le_refl _) (by decide)) q⟩
  · intro j hj ih hf
    refine hX _ ⟨fun q => absurd q (nI_ge (by omega) (by omega)), fun _ => ?_⟩
    refine ⟨_, g14M, _, r14M A (by omega), fun q => ⟨fun _ => ⟨⟨_, Mw_m⟩, ?_⟩, fun y => absurd ((nI_eq (by omega) (by omega)).mp y) (by omega)⟩, fun q => ?_⟩
    · rw [setI_n (by decide)] at q
      refine (sp_mCopyAll (f := 0) (t := j + 1) (n := n) htr A (by omega) (by omega) (by omega) (by rw [setI_n (by decide)]; exact hn) hn2).V ?_
      rintro h' rfl
      intro X2 hX2
      rw [← ktI_0 (I := caI (setI I 0 0 (nI 0)) 0 (j + 1) n 16) (f := 0) (t := j + 1)]
      have e1 : ∀ k, ktI (caI (setI I 0 0 (nI 0)) 0 (j + 1) n 16) 0 (j + 1) k 1 0 = nI sm := fun k => by rw [ktI_n (by decide) (by decide), caI_n (by decide) (by decide) (by decide) (by decide) (by decide), setI_n (by decide)]; exact hs
      have e16 : ∀ k, ktI (caI (setI I 0 0 (nI 0)) 0 (j + 1) n 16) 0 (j + 1) k 16 0 = I 16 0 := fun k => by rw [ktI_n (by decide) (by decide), caI_n (by decide) (by decide) (by decide) (by decide) (by decide), setI_n (by decide)]
      refine loopN (n := sm) (fun k => X2 (nI k) (Mw K m am (ktI (caI (setI I 0 0 (nI 0)) 0 (j + 1) n 16) 0 (j + 1) k) _ h)) ?_ ?_ 0 (Nat.zero_le _)
      · refine hX2 _ _ ?_
        simp (disch := omega) only [g0M, g1M, g2M, g3M, g4M, g5M, g6M, g7M, g8M, g9M, g10M, g11M, g12M, g13M, g14M, g15M, g16M, g17M, g18M, g19M, g20M, g21M, g22M, p0M, p1M, p16M, p17M, p18M, p19M, p20M, p21M, p22M, r2M A, r3M A, r4M A, r5M A, r6M A, r7M A, r8M A, r9M A, r10M A, r11M A, r12M A, r13M A, r14M A, r15M A, w2M A, w3M A, w4M A, w5M A, w6M A, w7M A, w8M A, w9M A, w10M A, w11M A, w12M A, w13M A, w14M A, w15M A, Mw_o, true_and, Option.some.injEq, Value.ref.injEq, Value.int.injEq, Value.long.injEq, exists_eq_left', setI_f, setI_n, setL_f, setL_n, upd_s, updL_s, pk_mul, nI_add, nI_sub1, nI01, neg_not, neg1_lt, not_true_eq_false, not_false_eq_true, false_implies, true_implies, implies_true, and_true, true_and, eq_self, ref22s, ref22n, ref00, refN, tch_n, e1, e16]
        refine ⟨fun _ => ?_, fun q => absurd (nI_le (Nat.le_refl _) (by omega)) q⟩
        rw [subadd]
        exact ⟨_, rfl, Or.inr ⟨j, hj, q, hf, rfl, rfl⟩⟩
      · intro k hk ih2
        refine hX2 _ _ ?_
        have hlt : ¬ nI sm ≤ nI k := nI_ge hk (by omega)
        simp (disch := omega) only [g0M, g1M, g2M, g3M, g4M, g5M, g6M, g7M, g8M, g9M, g10M, g11M, g12M, g13M, g14M, g15M, g16M, g17M, g18M, g19M, g20M, g21M, g22M, p0M, p1M, p16M, p17M, p18M, p19M, p20M, p21M, p22M, r2M A, r3M A, r4M A, r5M A, r6M A, r7M A, r8M A, r9M A, r10M A, r11M A, r12M A, r13M A, r14M A, r15M A, w2M A, w3M A, w4M A, w5M A, w6M A, w7M A, w8M A, w9M A, w10M A, w11M A, w12M A, w13M A, w14M A, w15M A, Mw_o, true_and, Option.some.injEq, Value.ref.injEq, Value.int.injEq, Value.long.injEq, exists_eq_left', setI_f, setI_n, setL_f, setL_n, upd_s, updL_s, pk_mul, nI_add, nI_sub1, nI01, neg_not, neg1_lt, not_true_eq_false, not_false_eq_true, false_implies, true_implies, implies_true, and_true, true_and, eq_self, ref22s, ref22n, ref00, refN, tch_n, e1, hlt]
        rw [← ktI_s (by omega) (by omega)] at ih2
        simp only [Nat.mul_zero, Nat.zero_add] at ih2
        exact ih2
    · rw [setI_n (by decide)] at q
      rw [nI_sub1]
      refine ih fun i hi => ?_
      rcases Nat.lt_succ_iff_lt_or_eq.mp hi with y | rfl
      · exact hf i y
      · exact q
end Mod
