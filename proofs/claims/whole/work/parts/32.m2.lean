/-! ===== the reference: entries and pages ===== -/
section Mod
variable {l : Launch} {K : Kx} {m : Nat} {am : Nat → Nat} {I I' : MI} {L L' : ML} {h : Hp}
theorem sp_mThrown (htr : l.stackTraces = false) : mX4_thrown l K [.ref m] (Mw K m am I L h) (kI fun r h' => r = I 0 0 ∧ h' = Mw K m am I L h) := fX4_thrown htr ⟨_, g0M, _, rfl, rfl, rfl⟩
theorem sp_mFails {x : Int32} (htr : l.stackTraces = false) : mX4_fails l K [.ref m, .int x] (Mw K m am I L h) (kI fun r h' => r = nI 0 ∧ h' = Mw K m am (setI I 0 0 x) L h) := fX4_fails htr ⟨_, p0M, _, rfl, rfl, rfl⟩
def neI (I : MI) (e : Nat) (s : Int32) : MI := setI (setI (setI (setI I 7 e s) 9 e (I 21 0)) 10 e (nI 0)) 6 0 (nI (e + 1))
theorem sp_mNewEntry {s : Int32} {n : Nat} (htr : l.stackTraces = false) (A : AM m am) (hn : I 6 0 = nI n) (hn2 : n < 150) : mX4_newEntry l K [.ref m, .int s] (Mw K m am I L h) (kI fun r h' => r = nI n ∧ h' = Mw K m am (neI I n s) (setL L 8 n (L 20 0)) h) := by
  refine fX4_newEntry htr ?_
  simp (disch := omega) only [g0M, g1M, g2M, g3M, g4M, g5M, g6M, g7M, g8M, g9M, g10M, g11M, g12M, g13M, g14M, g15M, g16M, g17M, g18M, g19M, g20M, g21M, g22M, p0M, p1M, p16M, p17M, p18M, p19M, p20M, p21M, p22M, r2M A, r3M A, r4M A, r5M A, r6M A, r7M A, r8M A, r9M A, r10M A, r11M A, r12M A, r13M A, r14M A, r15M A, w2M A, w3M A, w4M A, w5M A, w6M A, w7M A, w8M A, w9M A, w10M A, w11M A, w12M A, w13M A, w14M A, w15M A, Mw_o, true_and, Option.some.injEq, Value.ref.injEq, Value.int.injEq, Value.long.injEq, exists_eq_left', setI_f, setI_n, setL_f, setL_n, upd_s, updL_s, pk_mul, nI_add, nI_sub1, hn]
  exact ⟨_, rfl, rfl, rfl⟩
theorem sp_mPageOf {s : Int32} {k : Int64} {sp : Int32} (htr : l.stackTraces = false) : mX4_pageOf l K [.ref m, .int s, .long k, .int sp] h (kI fun r h' => r = pgN s k sp ∧ h' = h) := fX4_pageOf htr ⟨_, rfl, rfl, rfl⟩
def shB (I : MI) (p : Nat) : Bool := (List.range 6).any (fun j => !decide (I 14 (j + 1) = nI 0) && decide (I 13 (16 * (j + 1) + p) = I 13 p))
theorem or0 (b : Bool) : (if b then nI 1 else nI 0) ||| nI 0 = (if b then nI 1 else nI 0) := by cases b <;> decide
theorem or1 (b : Bool) : (if b then nI 1 else nI 0) ||| nI 1 = nI 1 := by cases b <;> decide
theorem sp_mIsShared {p : Nat} (htr : l.stackTraces = false) (A : AM m am) (hp : p < 16) : mX4_isShared l K [.ref m, .int (nI p)] (Mw K m am I L h) (kI fun r h' => r = (if shB I p then nI 1 else nI 0) ∧ h' = Mw K m am I L h) := by
  refine fX4_isShared htr ?_
  intro X hX
  refine loopN (n := 6) (fun j => X (if (List.range j).any (fun j => !decide (I 14 (j + 1) = nI 0) && decide (I 13 (16 * (j + 1) + p) = I 13 p)) then nI 1 else nI 0) (nI (j + 1))) ?_ ?_ 0 (Nat.zero_le _)
  · refine hX _ _ ⟨fun _ => ⟨?_, _, rfl, rfl, rfl⟩, fun q => absurd (nI_le (Nat.le_refl _) (by decide)) q⟩
    split
    · exact Or.inr rfl
    · exact Or.inl rfl
  · intro j hj ih
    rw [List.range_succ, List.any_append] at ih
    refine hX _ _ ?_
    simp (disch := omega) only [g0M, g1M, g2M, g3M, g4M, g5M, g6M, g7M, g8M, g9M, g10M, g11M, g12M, g13M, g14M, g15M, g16M, g17M, g18M, g19M, g20M, g21M, g22M, p0M, p1M, p16M, p17M, p18M, p19M, p20M, p21M, p22M, r2M A, r3M A, r4M A, r5M A, r6M A, r7M A, r8M A, r9M A, r10M A, r11M A, r12M A, r13M A, r14M A, r15M A, w2M A, w3M A, w4M A, w5M A, w6M A, w7M A, w8M A, w9M A, w10M A, w11M A, w12M A, w13M A, w14M A, w15M A, Mw_o, true_and, Option.some.injEq, Value.ref.injEq, Value.int.injEq, Value.long.injEq, exists_eq_left', setI_f, setI_n, setL_f, setL_n, upd_s, updL_s, pk_mul, nI_add, nI_sub1, or0, or1]
    refine ⟨fun q => absurd q (nI_ge (by omega) (by decide)), fun _ => ⟨fun q => ?_, fun q => ⟨fun q2 => ?_, fun q2 => ?_⟩⟩⟩
    · simpa [q] using ih
    · simpa [q, q2] using ih
    · simpa [q, q2] using ih
def tch (I : MI) (p : Nat) : MI := if shB I p then setI (setI (setI I 18 0 (I 18 0 + nI 1)) 17 0 (I 17 0 + nI 1)) 13 p (I 17 0 + nI 1) else I
theorem sp_mTouch {p : Nat} (htr : l.stackTraces = false) (A : AM m am) (hp : p < 16) : mX4_touch l K [.ref m, .int (nI p)] (Mw K m am I L h) (kV fun h' => h' = Mw K m am (tch I p) L h) := by
  refine fX4_touch htr ?_
  simp (disch := omega) only [g0M, g1M, g2M, g3M, g4M, g5M, g6M, g7M, g8M, g9M, g10M, g11M, g12M, g13M, g14M, g15M, g16M, g17M, g18M, g19M, g20M, g21M, g22M, p0M, p1M, p16M, p17M, p18M, p19M, p20M, p21M, p22M, r2M A, r3M A, r4M A, r5M A, r6M A, r7M A, r8M A, r9M A, r10M A, r11M A, r12M A, r13M A, r14M A, r15M A, w2M A, w3M A, w4M A, w5M A, w6M A, w7M A, w8M A, w9M A, w10M A, w11M A, w12M A, w13M A, w14M A, w15M A, Mw_o, true_and, Option.some.injEq, Value.ref.injEq, Value.int.injEq, Value.long.injEq, exists_eq_left', setI_f, setI_n, setL_f, setL_n, upd_s, updL_s, pk_mul, nI_add, nI_sub1]
  refine (sp_mIsShared htr A hp).I ?_
  rintro r h' ⟨rfl, rfl⟩
  unfold tch
  cases hb : shB I p with
  | false => exact ⟨fun _ => ⟨rfl, rfl⟩, fun q => absurd rfl q⟩
  | true =>
    refine ⟨fun q => absurd q nI01, fun _ => ?_⟩
    simp (disch := omega) only [g0M, g1M, g2M, g3M, g4M, g5M, g6M, g7M, g8M, g9M, g10M, g11M, g12M, g13M, g14M, g15M, g16M, g17M, g18M, g19M, g20M, g21M, g22M, p0M, p1M, p16M, p17M, p18M, p19M, p20M, p21M, p22M, r2M A, r3M A, r4M A, r5M A, r6M A, r7M A, r8M A, r9M A, r10M A, r11M A, r12M A, r13M A, r14M A, r15M A, w2M A, w3M A, w4M A, w5M A, w6M A, w7M A, w8M A, w9M A, w10M A, w11M A, w12M A, w13M A, w14M A, w15M A, Mw_o, true_and, Option.some.injEq, Value.ref.injEq, Value.int.injEq, Value.long.injEq, exists_eq_left', setI_f, setI_n, setL_f, setL_n, upd_s, updL_s, pk_mul, nI_add, nI_sub1]
    refine fX4_newPage htr ?_
    simp (disch := omega) only [g0M, g1M, g2M, g3M, g4M, g5M, g6M, g7M, g8M, g9M, g10M, g11M, g12M, g13M, g14M, g15M, g16M, g17M, g18M, g19M, g20M, g21M, g22M, p0M, p1M, p16M, p17M, p18M, p19M, p20M, p21M, p22M, r2M A, r3M A, r4M A, r5M A, r6M A, r7M A, r8M A, r9M A, r10M A, r11M A, r12M A, r13M A, r14M A, r15M A, w2M A, w3M A, w4M A, w5M A, w6M A, w7M A, w8M A, w9M A, w10M A, w11M A, w12M A, w13M A, w14M A, w15M A, Mw_o, true_and, Option.some.injEq, Value.ref.injEq, Value.int.injEq, Value.long.injEq, exists_eq_left', setI_f, setI_n, setL_f, setL_n, upd_s, updL_s, pk_mul, nI_add, nI_sub1]
    refine ⟨_, rfl, ?_⟩
    simp (disch := omega) only [g0M, g1M, g2M, g3M, g4M, g5M, g6M, g7M, g8M, g9M, g10M, g11M, g12M, g13M, g14M, g15M, g16M, g17M, g18M, g19M, g20M, g21M, g22M, p0M, p1M, p16M, p17M, p18M, p19M, p20M, p21M, p22M, r2M A, r3M A, r4M A, r5M A, r6M A, r7M A, r8M A, r9M A, r10M A, r11M A, r12M A, r13M A, r14M A, r15M A, w2M A, w3M A, w4M A, w5M A, w6M A, w7M A, w8M A, w9M A, w10M A, w11M A, w12M A, w13M A, w14M A, w15M A, Mw_o, true_and, Option.some.injEq, Value.ref.injEq, Value.int.injEq, Value.long.injEq, exists_eq_left', setI_f, setI_n, setL_f, setL_n, upd_s, updL_s, pk_mul, nI_add, nI_sub1]
    exact ⟨rfl, rfl⟩
theorem sp_mTouchOf {e : Nat} (htr : l.stackTraces = false) (A : AM m am) (he : e < 1050) : mX4_touchOf l K [.ref m, .int (nI e)] (Mw K m am I L h) (kV fun h' => h' = Mw K m am (tch I (pgI (I 7 e) (L 8 e) (I 9 e))) L h) := by
  refine fX4_touchOf htr ?_
  simp (disch := omega) only [g0M, g1M, g2M, g3M, g4M, g5M, g6M, g7M, g8M, g9M, g10M, g11M, g12M, g13M, g14M, g15M, g16M, g17M, g18M, g19M, g20M, g21M, g22M, p0M, p1M, p16M, p17M, p18M, p19M, p20M, p21M, p22M, r2M A, r3M A, r4M A, r5M A, r6M A, r7M A, r8M A, r9M A, r10M A, r11M A, r12M A, r13M A, r14M A, r15M A, w2M A, w3M A, w4M A, w5M A, w6M A, w7M A, w8M A, w9M A, w10M A, w11M A, w12M A, w13M A, w14M A, w15M A, Mw_o, true_and, Option.some.injEq, Value.ref.injEq, Value.int.injEq, Value.long.injEq, exists_eq_left', setI_f, setI_n, setL_f, setL_n, upd_s, updL_s, pk_mul, nI_add, nI_sub1]
  refine (sp_mPageOf htr).I ?_
  rintro r h' ⟨rfl, rfl⟩
  rw [pgN_eq]
  refine ⟨⟨_, Mw_m⟩, ?_⟩
  refine (sp_mTouch htr A (pgI_lt _ _ _)).V ?_
  rintro h' rfl
  exact ⟨rfl, rfl⟩
/-- n places from a on, copied to b -/
def shf {α : Type} (f : Nat → α) (a b n : Nat) : Nat → α := fun i => if b ≤ i ∧ i < b + n then f (a + (i - b)) else f i
theorem shf_0 {α : Type} {f : Nat → α} {a b : Nat} : shf f a b 0 = f := by
  funext i
  unfold shf
  rw [if_neg (by omega)]
theorem shf_out {α : Type} {f : Nat → α} {a b n i : Nat} (h : ¬ (b ≤ i ∧ i < b + n)) : shf f a b n i = f i := if_neg h
theorem shf_in {α : Type} {f : Nat → α} {a b n i : Nat} (h : b ≤ i ∧ i < b + n) : shf f a b n i = f (a + (i - b)) := if_pos h
theorem shf_si {f : Nat → Int32} {a b n : Nat} : upd (shf f a b n) (b + n) (f (a + n)) = shf f a b (n + 1) := by
  funext i
  by_cases y : i = b + n
  · subst y
    rw [upd_s, shf_in ⟨by omega, by omega⟩]; congr 1; omega
  · rw [upd_n y]
    by_cases z : b ≤ i ∧ i < b + n
    · rw [shf_in z, shf_in ⟨by omega, by omega⟩]
    · rw [shf_out z, shf_out (by omega)]
theorem shf_sl {f : Nat → Int64} {a b n : Nat} : vp_updL (shf f a b n) (b + n) (f (a + n)) = shf f a b (n + 1) := by
  funext i
  by_cases y : i = b + n
  · subst y
    rw [updL_s, shf_in ⟨by omega, by omega⟩]; congr 1; omega
  · rw [updL_n y]
    by_cases z : b ≤ i ∧ i < b + n
    · rw [shf_in z, shf_in ⟨by omega, by omega⟩]
    · rw [shf_out z, shf_out (by omega)]
theorem shf_shf {α : Type} {f : Nat → α} {a b n k : Nat} (h : a + n + k ≤ b ∨ b + n + k ≤ a) : shf (shf f a b n) (a + n) (b + n) k = shf f a b (n + k) := by
  funext i
  by_cases y : b + n ≤ i ∧ i < b + n + k
  · rw [shf_in y, shf_out (by omega), shf_in ⟨by omega, by omega⟩]; congr 1; omega
  · rw [shf_out y]
    by_cases z : b ≤ i ∧ i < b + n
    · rw [shf_in z, shf_in ⟨by omega, by omega⟩]
    · rw [shf_out z, shf_out (by omega)]
def cpI (I : MI) (f t : Nat) : MI := setI (setI (setI I 7 t (I 7 f)) 9 t (I 9 f)) 10 t (I 10 f)
def cpL (L : ML) (f t j : Nat) : ML := fun g => if g = 11 ∨ g = 12 then shf (L g) (10 * f) (10 * t) j else setL L 8 t (L 8 f) g
theorem cpL_11 {L : ML} {f t j : Nat} : cpL L f t j 11 = shf (L 11) (10 * f) (10 * t) j := by simp [cpL]
theorem cpL_12 {L : ML} {f t j : Nat} : cpL L f t j 12 = shf (L 12) (10 * f) (10 * t) j := by simp [cpL]
theorem cpL_s {L : ML} {f t j : Nat} : setL (setL (cpL L f t j) 11 (10 * t + j) (L 11 (10 * f + j))) 12 (10 * t + j) (L 12 (10 * f + j)) = cpL L f t (j + 1) := by
  funext g
  by_cases y : g = 12
  · subst y
    rw [setL_f, setL_n (by decide), cpL_12, cpL_12, shf_sl]
  · rw [setL_n y]
    by_cases z : g = 11
    · subst z
      rw [setL_f, cpL_11, cpL_11, shf_sl]
    · rw [setL_n z]
      simp [cpL, y, z]
theorem sp_mCopyEntry {f t : Nat} (htr : l.stackTraces = false) (A : AM m am) (hf : f < 1050) (ht : t < 1050) : mX4_copyEntry l K [.ref m, .int (nI f), .int (nI t)] (Mw K m am I L h) (kV fun h' => h' = Mw K m am (cpI I f t) (cpL L f t 10) h) := by
  refine fX4_copyEntry htr ?_
  simp (disch := omega) only [g0M, g1M, g2M, g3M, g4M, g5M, g6M, g7M, g8M, g9M, g10M, g11M, g12M, g13M, g14M, g15M, g16M, g17M, g18M, g19M, g20M, g21M, g22M, p0M, p1M, p16M, p17M, p18M, p19M, p20M, p21M, p22M, r2M A, r3M A, r4M A, r5M A, r6M A, r7M A, r8M A, r9M A, r10M A, r11M A, r12M A, r13M A, r14M A, r15M A, w2M A, w3M A, w4M A, w5M A, w6M A, w7M A, w8M A, w9M A, w10M A, w11M A, w12M A, w13M A, w14M A, w15M A, Mw_o, true_and, Option.some.injEq, Value.ref.injEq, Value.int.injEq, Value.long.injEq, exists_eq_left', setI_f, setI_n, setL_f, setL_n, upd_s, updL_s, pk_mul, nI_add, nI_sub1]
  intro X hX
  have z : X (nI 0) (Mw K m am (cpI I f t) (cpL L f t 0) h) := by
    refine loopN (n := 10) (fun j => X (nI j) (Mw K m am (cpI I f t) (cpL L f t j) h)) ?_ ?_ 0 (Nat.zero_le _)
    · exact hX _ _ ⟨fun _ => ⟨rfl, rfl⟩, fun q => absurd (nI_le (Nat.le_refl _) (by decide)) q⟩
    · intro j hj ih
      have e1 : shf (L 11) (10 * f) (10 * t) j (10 * f + j) = L 11 (10 * f + j) := shf_out (by omega)
      have e2 : shf (L 12) (10 * f) (10 * t) j (10 * f + j) = L 12 (10 * f + j) := shf_out (by omega)
      refine hX _ _ ⟨fun q => absurd q (nI_ge hj (by decide)), fun _ => ?_⟩
      simp (disch := omega) only [g0M, g1M, g2M, g3M, g4M, g5M, g6M, g7M, g8M, g9M, g10M, g11M, g12M, g13M, g14M, g15M, g16M, g17M, g18M, g19M, g20M, g21M, g22M, p0M, p1M, p16M, p17M, p18M, p19M, p20M, p21M, p22M, r2M A, r3M A, r4M A, r5M A, r6M A, r7M A, r8M A, r9M A, r10M A, r11M A, r12M A, r13M A, r14M A, r15M A, w2M A, w3M A, w4M A, w5M A, w6M A, w7M A, w8M A, w9M A, w10M A, w11M A, w12M A, w13M A, w14M A, w15M A, Mw_o, true_and, Option.some.injEq, Value.ref.injEq, Value.int.injEq, Value.long.injEq, exists_eq_left', setI_f, setI_n, setL_f, setL_n, upd_s, updL_s, pk_mul, nI_add, nI_sub1, cpL_11, cpL_12, e1, e2, cpL_s]
      exact ih
  have e : cpL L f t 0 = setL L 8 t (L 8 f) := by
    funext g
    unfold cpL
    split
    · rename_i q
      rw [shf_0, setL_n (by omega)]
    · rfl
  rw [e] at z
  exact z
/-- the entry e is gone: the last one stands in its place -/
def drI (I : MI) (L : ML) (n e : Nat) : MI := cpI (setI (tch I (pgI (I 7 e) (L 8 e) (I 9 e))) 6 0 (nI (n - 1))) (n - 1) e
theorem tch_n {I : MI} {p g : Nat} (h1 : g ≠ 18) (h2 : g ≠ 17) (h3 : g ≠ 13) : tch I p g = I g := by
  unfold tch
  split
  · rw [setI_n h3, setI_n h2, setI_n h1]
  · rfl
theorem sp_mDropEntry {n e : Nat} (htr : l.stackTraces = false) (A : AM m am) (hn : I 6 0 = nI n) (hn2 : n ≤ 150) (he : e < n) : mX4_dropEntry l K [.ref m, .int (nI e)] (Mw K m am I L h) (kV fun h' => h' = Mw K m am (drI I L n e) (cpL L (n - 1) e 10) h) := by
  refine fX4_dropEntry htr ⟨⟨_, Mw_m⟩, ?_⟩
  refine (sp_mTouchOf htr A (by omega)).V ?_
  rintro h' rfl
  have e6 : tch I (pgI (I 7 e) (L 8 e) (I 9 e)) 6 0 = nI n := by rw [tch_n (by decide) (by decide) (by decide)]; exact hn
  have e7 : nI n - nI 1 = nI (n - 1) := pk_sub (by omega)
  simp (disch := omega) only [g0M, g1M, g2M, g3M, g4M, g5M, g6M, g7M, g8M, g9M, g10M, g11M, g12M, g13M, g14M, g15M, g16M, g17M, g18M, g19M, g20M, g21M, g22M, p0M, p1M, p16M, p17M, p18M, p19M, p20M, p21M, p22M, r2M A, r3M A, r4M A, r5M A, r6M A, r7M A, r8M A, r9M A, r10M A, r11M A, r12M A, r13M A, r14M A, r15M A, w2M A, w3M A, w4M A, w5M A, w6M A, w7M A, w8M A, w9M A, w10M A, w11M A, w12M A, w13M A, w14M A, w15M A, Mw_o, true_and, Option.some.injEq, Value.ref.injEq, Value.int.injEq, Value.long.injEq, exists_eq_left', setI_f, setI_n, setL_f, setL_n, upd_s, updL_s, pk_mul, nI_add, nI_sub1, e6, e7]
  refine (sp_mCopyEntry htr A (by omega) (by omega)).V ?_
  rintro h' rfl
  exact ⟨rfl, rfl⟩
theorem sp_mNumbersOf {c e i : Nat} (htr : l.stackTraces = false) (A : AM m am) (hc : c < 7) (he : e < 1050) (hi : I 7 e = nI i) (hi8 : i < 8) : mX4_numbersOf l K [.ref m, .int (nI c), .int (nI e)] (Mw K m am I L h) (kI fun r h' => r = (if I 3 (8 * c + i) = nI 0 ∨ I 3 (8 * c + i) = nI 3 then nI 1 else I 10 e) ∧ h' = Mw K m am I L h) := by
  refine fX4_numbersOf htr ?_
  simp (disch := omega) only [g0M, g1M, g2M, g3M, g4M, g5M, g6M, g7M, g8M, g9M, g10M, g11M, g12M, g13M, g14M, g15M, g16M, g17M, g18M, g19M, g20M, g21M, g22M, p0M, p1M, p16M, p17M, p18M, p19M, p20M, p21M, p22M, r2M A, r3M A, r4M A, r5M A, r6M A, r7M A, r8M A, r9M A, r10M A, r11M A, r12M A, r13M A, r14M A, r15M A, w2M A, w3M A, w4M A, w5M A, w6M A, w7M A, w8M A, w9M A, w10M A, w11M A, w12M A, w13M A, w14M A, w15M A, Mw_o, true_and, Option.some.injEq, Value.ref.injEq, Value.int.injEq, Value.long.injEq, exists_eq_left', setI_f, setI_n, setL_f, setL_n, upd_s, updL_s, pk_mul, nI_add, nI_sub1, hi]
  refine ⟨fun q => ⟨_, rfl, by rw [if_pos (Or.inl q)], rfl⟩, fun q => ⟨fun q2 => ⟨_, rfl, by rw [if_neg (fun z => z.elim q q2)], rfl⟩, fun q2 => ⟨_, rfl, by rw [if_pos (Or.inr q2)], rfl⟩⟩⟩
theorem sp_mPlaceOf {e sz : Nat} {x : Int64} (htr : l.stackTraces = false) (A : AM m am) (he : e < 1050) (hs : I 10 e = nI sz) (hs2 : sz ≤ 10) : mX4_placeOf l K [.ref m, .int (nI e), .long x] (Mw K m am I L h) (kI fun r h' => (∃ j, r = nI j ∧ cbR (fun i => L 12 (10 * e + i)) sz x j) ∧ h' = Mw K m am I L h) := by
  refine fX4_placeOf htr ?_
  intro X hX
  refine loopN (n := sz) (fun j => (∀ i, i < j → L 12 (10 * e + i) < x) → X (nI j)) ?_ ?_ 0 (Nat.zero_le _) (fun i hi => absurd hi (Nat.not_lt_zero i))
  · intro hf
    refine hX _ ?_
    simp (disch := omega) only [g0M, g1M, g2M, g3M, g4M, g5M, g6M, g7M, g8M, g9M, g10M, g11M, g12M, g13M, g14M, g15M, g16M, g17M, g18M, g19M, g20M, g21M, g22M, p0M, p1M, p16M, p17M, p18M, p19M, p20M, p21M, p22M, r2M A, r3M A, r4M A, r5M A, r6M A, r7M A, r8M A, r9M A, r10M A, r11M A, r12M A, r13M A, r14M A, r15M A, w2M A, w3M A, w4M A, w5M A, w6M A, w7M A, w8M A, w9M A, w10M A, w11M A, w12M A, w13M A, w14M A, w15M A, Mw_o, true_and, Option.some.injEq, Value.ref.injEq, Value.int.injEq, Value.long.injEq, exists_eq_left', setI_f, setI_n, setL_f, setL_n, upd_s, updL_s, pk_mul, nI_add, nI_sub1, hs]
    exact ⟨fun _ => ⟨_, rfl, ⟨sz, rfl, Nat.le_refl _, hf, fun z => absurd z (Nat.lt_irrefl _)⟩, rfl⟩, fun q => absurd (nI_le (Nat.le_refl _) (by omega)) q⟩
  · intro j hj ih hf
    refine hX _ ?_
    have hlt : ¬ nI sz ≤ nI j := nI_ge hj (by omega)
    simp (disch := omega) only [g0M, g1M, g2M, g3M, g4M, g5M, g6M, g7M, g8M, g9M, g10M, g11M, g12M, g13M, g14M, g15M, g16M, g17M, g18M, g19M, g20M, g21M, g22M, p0M, p1M, p16M, p17M, p18M, p19M, p20M, p21M, p22M, r2M A, r3M A, r4M A, r5M A, r6M A, r7M A, r8M A, r9M A, r10M A, r11M A, r12M A, r13M A, r14M A, r15M A, w2M A, w3M A, w4M A, w5M A, w6M A, w7M A, w8M A, w9M A, w10M A, w11M A, w12M A, w13M A, w14M A, w15M A, Mw_o, true_and, Option.some.injEq, Value.ref.injEq, Value.int.injEq, Value.long.injEq, exists_eq_left', setI_f, setI_n, setL_f, setL_n, upd_s, updL_s, pk_mul, nI_add, nI_sub1, hs]
    refine ⟨fun q => absurd q hlt, fun _ => ?_⟩
    refine ⟨fun q => ⟨_, rfl, ⟨j, rfl, Nat.le_of_lt hj, hf, fun _ => Int64.not_lt.mpr q⟩, rfl⟩, fun q => ih fun i hi => ?_⟩
    rcases Nat.lt_succ_iff_lt_or_eq.mp hi with y | rfl
    · exact hf i y
    · exact Int64.not_le.mp q
theorem nonneg {e : Nat} (he : e < 2 ^ 31) : nI 0 ≤ nI e := nI_le (Nat.zero_le _) he
theorem neg_not : ¬ nI 0 ≤ (-nI 1 : Int32) := by decide
theorem sp_mHas {e sz : Nat} {x : Int64} (htr : l.stackTraces = false) (A : AM m am) (he : e < 1050) (hs : I 10 e = nI sz) (hs2 : sz ≤ 10) : mX4_has l K [.ref m, .int (nI e), .long x] (Mw K m am I L h) (kI fun r h' => (∃ j, cbR (fun i => L 12 (10 * e + i)) sz x j ∧ ((r = nI 1 ∧ j < sz ∧ L 12 (10 * e + j) = x) ∨ (r = nI 0 ∧ ¬ (j < sz ∧ L 12 (10 * e + j) = x)))) ∧ h' = Mw K m am I L h) := by
  refine fX4_has htr ⟨fun _ => ⟨⟨_, Mw_m⟩, ?_⟩, fun q => absurd (nonneg (by omega)) q⟩
  refine (sp_mPlaceOf htr A he hs hs2).I ?_
  rintro r h' ⟨⟨j, rfl, hj⟩, rfl⟩
  refine ⟨fun q => absurd q (nI_pos (by omega)), fun _ => ?_⟩
  have hj1 := hj.1
  by_cases hlt : j < sz
  · simp (disch := omega) only [g0M, g1M, g2M, g3M, g4M, g5M, g6M, g7M, g8M, g9M, g10M, g11M, g12M, g13M, g14M, g15M, g16M, g17M, g18M, g19M, g20M, g21M, g22M, p0M, p1M, p16M, p17M, p18M, p19M, p20M, p21M, p22M, r2M A, r3M A, r4M A, r5M A, r6M A, r7M A, r8M A, r9M A, r10M A, r11M A, r12M A, r13M A, r14M A, r15M A, w2M A, w3M A, w4M A, w5M A, w6M A, w7M A, w8M A, w9M A, w10M A, w11M A, w12M A, w13M A, w14M A, w15M A, Mw_o, true_and, Option.some.injEq, Value.ref.injEq, Value.int.injEq, Value.long.injEq, exists_eq_left', setI_f, setI_n, setL_f, setL_n, upd_s, updL_s, pk_mul, nI_add, nI_sub1, hs]
    refine ⟨fun q => absurd q (nI_ge hlt (by omega)), fun _ => ⟨fun q => ⟨_, rfl, ⟨j, hj, Or.inr ⟨rfl, fun z => q z.2⟩⟩, rfl⟩, fun q => ⟨_, rfl, ⟨j, hj, Or.inl ⟨rfl, hlt, q⟩⟩, rfl⟩⟩⟩
  · refine ⟨_, g10M, _, r10M A he, fun _ => ⟨_, rfl, ⟨j, hj, Or.inr ⟨rfl, fun z => hlt z.1⟩⟩, rfl⟩, fun q => absurd ?_ q⟩
    rw [hs]; exact nI_le (by omega) (by omega)
theorem sp_mHasN {x : Int64} (htr : l.stackTraces = false) : mX4_has l K [.ref m, .int (-nI 1), .long x] h (kI fun r h' => r = nI 0 ∧ h' = h) :=
  fX4_has htr ⟨fun q => absurd q neg_not, fun _ => ⟨fun _ => ⟨_, rfl, rfl, rfl⟩, fun q => absurd neg1_lt q⟩⟩
theorem sp_mFolded {t : Int32} {a b : Int64} (htr : l.stackTraces = false) : mX4_folded l K [.int t, .long a, .long b] h (kL fun r h' => r = jn t a b ∧ h' = h) := by
  refine fX4_folded htr ⟨fun q => ⟨fun q2 => ⟨fun q3 => ⟨_, rfl, ?_, rfl⟩, fun q3 => ⟨_, rfl, ?_, rfl⟩⟩, fun q2 => ⟨fun q3 => ⟨_, rfl, ?_, rfl⟩, fun q3 => ⟨_, rfl, ?_, rfl⟩⟩⟩, fun q => ⟨_, rfl, ?_, rfl⟩⟩
  · rw [jn, if_neg q, if_neg q2, if_neg (Int64.not_lt.mpr q3)]
  · rw [jn, if_neg q, if_neg q2, if_pos (Int64.not_le.mp q3)]
  · rw [jn, if_neg q, if_pos q2]
    split
    · rfl
    · rename_i z; exact Int64.le_antisymm q3 (Int64.not_lt.mp z)
  · rw [jn, if_neg q, if_pos q2, if_neg (fun z => q3 (Int64.le_of_lt z))]
  · rw [jn, if_pos q]
theorem sp_mCanMove {a b : Int32} (htr : l.stackTraces = false) (ha : ∃ i, i < 4 ∧ a = nI i) (hb : ∃ i, i < 4 ∧ b = nI i) : mX4_canMove l K [.int a, .int b] h (kI fun r h' => h' = h ∧ r = bI (cmv a b)) := by
  obtain ⟨i, hi, rfl⟩ := ha
  obtain ⟨j, hj, rfl⟩ := hb
  refine fX4_canMove htr ?_
  have T : cmv (nI i) (nI j) → kI (fun r h' => h' = h ∧ r = bI (cmv (nI i) (nI j))) (.inl (some (.int (nI 1)))) h := fun q => ⟨_, rfl, rfl, (bI_t q).symm⟩
  have N : ¬ cmv (nI i) (nI j) → kI (fun r h' => h' = h ∧ r = bI (cmv (nI i) (nI j))) (.inl (some (.int (nI 0)))) h := fun q => ⟨_, rfl, rfl, (bI_f q).symm⟩
  have e3 : ∀ i j, i < 4 → j < 4 → (nI i = nI j ↔ i = j) := fun i j hi hj => nI_eq (by omega) (by omega)
  generalize hP : (kI fun r h' => h' = h ∧ r = bI (cmv (nI i) (nI j))) = Post at T N ⊢
  simp only [cmv, ne_eq, e3 _ _ hi hj, e3 _ 0 hi (by decide), e3 _ 1 hi (by decide), e3 _ 2 hi (by decide), e3 _ 3 hi (by decide), e3 _ 0 hj (by decide), e3 _ 1 hj (by decide), e3 _ 2 hj (by decide), e3 _ 3 hj (by decide)] at T N ⊢
  refine ⟨fun q => ⟨fun q2 => ⟨fun q3 => ⟨fun q4 => ⟨fun q5 => N (by omega), fun q5 => T (by omega)⟩, fun q4 => ⟨fun q5 => N (by omega), fun q5 => T (by omega)⟩⟩, fun q3 => ⟨fun q4 => N (by omega), fun q4 => T (by omega)⟩⟩, fun q2 => ⟨fun q3 => T (by omega), fun q3 => ⟨fun q4 => N (by omega), fun q4 => T (by omega)⟩⟩⟩, fun q => ⟨fun q2 => N (by omega), fun q2 => T (by omega)⟩⟩
theorem nI_m1 (j : Nat) : nI (j + 1) + (-nI 1) = nI j := by
  have := pk_sub (a := j + 1) (b := 1) (by omega)
  rw [← Int32.sub_eq_add_neg, this]; rfl
theorem sp_mCopyOf {n : Int32} (htr : l.stackTraces = false) (A : AM m am) : mX4_copyOf l K [.ref m, .int n] (Mw K m am I L h) (kI fun r h' => ((∃ j, j < 6 ∧ r = nI (j + 1) ∧ ¬ I 14 (j + 1) = nI 0 ∧ I 15 (j + 1) = n) ∨ (r = nI 0 ∧ ∀ j, j < 6 → ¬ I 14 (j + 1) = nI 0 → I 15 (j + 1) ≠ n)) ∧ h' = Mw K m am I L h) := by
  refine fX4_copyOf htr ?_
  intro X hX
  have key : ∀ c, c ≤ 6 → (∀ j, c ≤ j → j < 6 → ¬ I 14 (j + 1) = nI 0 → I 15 (j + 1) ≠ n) → X (nI c) := by
    intro c
    induction c with
    | zero => intro _ hf; exact hX _ ⟨fun _ => ⟨_, rfl, Or.inr ⟨rfl, fun j hj => hf j (Nat.zero_le _) hj⟩, rfl⟩, fun q => absurd (nI_le (Nat.le_refl _) (by decide)) q⟩
    | succ c ih =>
      intro hc hf
      have next : (¬ I 14 (c + 1) = nI 0 → I 15 (c + 1) ≠ n) → X (nI (c + 1) + (-nI 1)) := fun z => by
        rw [nI_m1]
        refine ih (by omega) fun j h1 h2 => ?_
        by_cases y : j = c
        · subst y; exact z
        · exact hf j (by omega) h2
      refine hX _ ⟨fun q => absurd q (nI_ge (by omega) (by omega)), fun _ => ?_⟩
      simp (disch := omega) only [g0M, g1M, g2M, g3M, g4M, g5M, g6M, g7M, g8M, g9M, g10M, g11M, g12M, g13M, g14M, g15M, g16M, g17M, g18M, g19M, g20M, g21M, g22M, p0M, p1M, p16M, p17M, p18M, p19M, p20M, p21M, p22M, r2M A, r3M A, r4M A, r5M A, r6M A, r7M A, r8M A, r9M A, r10M A, r11M A, r12M A, r13M A, r14M A, r15M A, w2M A, w3M A, w4M A, w5M A, w6M A, w7M A, w8M A, w9M A, w10M A, w11M A, w12M A, w13M A, w14M A, w15M A, Mw_o, true_and, Option.some.injEq, Value.ref.injEq, Value.int.injEq, Value.long.injEq, exists_eq_left', setI_f, setI_n, setL_f, setL_n, upd_s, updL_s, pk_mul, nI_add, nI_sub1]
      refine ⟨fun q => next fun z => absurd q z, fun q => ⟨fun q2 => ⟨_, rfl, Or.inl ⟨c, by omega, rfl, q, q2⟩, rfl⟩, fun q2 => next fun _ => q2⟩⟩
  exact key 6 (Nat.le_refl _) (fun j h1 h2 => absurd h2 (by omega))
theorem sp_mSharedPages (htr : l.stackTraces = false) (A : AM m am) : mX4_sharedPages l K [.ref m] (Mw K m am I L h) (kI fun r h' => r = nI ((List.range 16).countP (shB I)) ∧ h' = Mw K m am I L h) := by
  refine fX4_sharedPages htr ?_
  intro X hX
  refine loopN (n := 16) (fun j => X (nI ((List.range j).countP (shB I))) (nI j) (Mw K m am I L h)) ?_ ?_ 0 (Nat.zero_le _)
  · exact hX _ _ _ ⟨fun _ => ⟨_, rfl, rfl, rfl⟩, fun q => absurd (nI_le (Nat.le_refl _) (by decide)) q⟩
  · intro j hj ih
    rw [List.range_succ, List.countP_append] at ih
    refine hX _ _ _ ⟨fun q => absurd q (nI_ge hj (by decide)), fun _ => ⟨⟨_, Mw_m⟩, ?_⟩⟩
    refine (sp_mIsShared htr A hj).I ?_
    rintro r h' ⟨rfl, rfl⟩
    cases hb : shB I j with
    | false =>
      refine ⟨fun _ => ?_, fun q => absurd rfl q⟩
      rw [nI_sub1, nI_0r]; simpa [hb] using ih
    | true =>
      refine ⟨fun q => absurd q nI01, fun _ => ?_⟩
      rw [nI_sub1, nI_sub1]; simpa [hb] using ih
end Mod
