/-! ===== the reference: a new one ===== -/
def Ov (h : Hp) (m : Nat) (fs : List Value) (am : Nat → Nat) (cl : Nat → va_E) (k : Nat) : Hp := fun a => if a = m then some (xO 4 fs) else match (List.range k).find? (fun i => decide (am (i + 2) = a)) with
  | some i => some (cl (i + 2))
  | none => h a
theorem find_congr {α : Type} {p q : α → Bool} {L : List α} (h : ∀ x ∈ L, p x = q x) : L.find? p = L.find? q := by
  induction L with
  | nil => rfl
  | cons a L ih => rw [List.find?_cons, List.find?_cons, h a (by simp), ih fun x hx => h x (by simp [hx])]
theorem Ov_0 {h : Hp} {m : Nat} {fs : List Value} {am : Nat → Nat} {cl : Nat → va_E} (e : h m = some (xO 4 fs)) : Ov h m fs am cl 0 = h := by
  funext a
  unfold Ov
  by_cases y : a = m
  · rw [if_pos y, y, e]
  · rw [if_neg y]; rfl
theorem Ov_m {h : Hp} {m : Nat} {fs : List Value} {am : Nat → Nat} {cl : Nat → va_E} {k : Nat} : Ov h m fs am cl k m = some (xO 4 fs) := by simp [Ov]
theorem Ov_q {h : Hp} {m q : Nat} {fs : List Value} {am : Nat → Nat} {cl : Nat → va_E} {k : Nat} (hq : Ov h m fs am cl k q = none) : q ≠ m ∧ h q = none ∧ ∀ i, i < k → am (i + 2) ≠ q := by
  unfold Ov at hq
  by_cases y : q = m
  · rw [if_pos y] at hq; cases hq
  · rw [if_neg y] at hq
    cases hf : (List.range k).find? (fun i => decide (am (i + 2) = q)) with
    | some i => rw [hf] at hq; cases hq
    | none =>
      rw [hf] at hq
      exact ⟨y, hq, fun i hi => by simpa using List.find?_eq_none.mp hf i (List.mem_range.mpr hi)⟩
theorem Ov_st {h : Hp} {m q : Nat} {fs : List Value} {am : Nat → Nat} {cl : Nat → va_E} {k : Nat} {X : va_E} (hl : fs.length = 23) (hk : k < 14) (hq : Ov h m fs am cl k q = none) (hX : X = cl (k + 2)) : pf (va_up (Ov h m fs am cl k) q (some X)) m 4 (k + 2) (.ref q) = some (Ov h m (fs.set (k + 2) (.ref q)) (va_up am (k + 2) q) cl (k + 1)) := by
  obtain ⟨q1, q2, q3⟩ := Ov_q hq
  rw [pf_of (fs := fs) (by rw [up_n q1.symm]; exact Ov_m) (by omega)]
  congr 1
  funext a
  by_cases y : a = m
  · subst y; rw [up_s, Ov_m]
  · rw [up_n y]
    have e2 : Ov h m (fs.set (k + 2) (.ref q)) (va_up am (k + 2) q) cl (k + 1) a = match ((List.range k).find? (fun i => decide (am (i + 2) = a))).or (if q = a then some k else none) with
      | some i => some (cl (i + 2))
      | none => h a := by
      unfold Ov
      rw [if_neg y, List.range_succ, List.find?_append]
      have : (List.range k).find? (fun i => decide (va_up am (k + 2) q (i + 2) = a)) = (List.range k).find? (fun i => decide (am (i + 2) = a)) := by
        apply find_congr
        intro i hi
        rw [up_n (by have := List.mem_range.mp hi; omega)]
      rw [this]
      have : (List.find? (fun i => decide (va_up am (k + 2) q (i + 2) = a)) [k]) = if q = a then some k else none := by
        rw [List.find?_singleton, up_s]
        by_cases z : q = a <;> simp [z]
      rw [this]
    rw [e2]
    by_cases z : a = q
    · subst z
      rw [up_s]
      have : (List.range k).find? (fun i => decide (am (i + 2) = a)) = none := List.find?_eq_none.mpr fun i hi => by simpa using q3 i (List.mem_range.mp hi)
      rw [this, if_pos rfl, hX]; rfl
    · rw [up_n z, if_neg (fun w => z w.symm), Option.or_none]
      unfold Ov
      rw [if_neg y]
def OvI (K : Kx) (h : Hp) (m : Nat) (am : Nat → Nat) (k : Nat) : Prop := ∀ i, i < k → am (i + 2) ≠ m ∧ h (am (i + 2)) = none ∧ kB K ≤ am (i + 2) ∧ ∀ j, j < k → am (i + 2) = am (j + 2) → i = j
theorem OvI.s {K : Kx} {h : Hp} {m q : Nat} {fs : List Value} {am : Nat → Nat} {cl : Nat → va_E} {k : Nat} (o : OvI K h m am k) (hq : Ov h m fs am cl k q = none) (hb : kB K ≤ q) : OvI K h m (va_up am (k + 2) q) (k + 1) := by
  obtain ⟨q1, q2, q3⟩ := Ov_q hq
  have e : ∀ i, i < k → va_up am (k + 2) q (i + 2) = am (i + 2) := fun i hi => up_n (by omega)
  have es : va_up am (k + 2) q (k + 2) = q := up_s _ _ _
  intro i hi
  rcases Nat.lt_succ_iff_lt_or_eq.mp hi with y | rfl
  · obtain ⟨o1, o2, o3, o4⟩ := o i y
    rw [e i y]
    refine ⟨o1, o2, o3, fun j hj z => ?_⟩
    rcases Nat.lt_succ_iff_lt_or_eq.mp hj with w | rfl
    · rw [e j w] at z; exact o4 j w z
    · rw [es] at z; exact absurd z (q3 i y)
  · rw [es]
    refine ⟨q1, q2, hb, fun j hj z => ?_⟩
    rcases Nat.lt_succ_iff_lt_or_eq.mp hj with w | rfl
    · rw [e j w] at z; exact absurd z.symm (q3 j w)
    · rfl
/-- a new reference, p pages given -/
def I9 (p : Nat) : MI := fun g j => if g = 13 ∧ j < p then nI (j + 1) else if g = 17 ∧ j = 0 then nI p else 0
def L9 : ML := fun _ _ => 0
theorem I9_0 : I9 0 = fun _ _ => 0 := by
  funext g j
  unfold I9
  rw [if_neg (by omega)]
  split <;> rfl
theorem I9_s {p : Nat} : setI (setI (I9 p) 17 0 (nI (p + 1))) 13 p (nI (p + 1)) = I9 (p + 1) := by
  funext g j
  by_cases h13 : g = 13
  · subst h13
    rw [setI_f, setI_n (by decide)]
    by_cases y : j = p
    · subst y; rw [upd_s]; simp [I9]
    · rw [upd_n y]
      simp only [I9, true_and]
      by_cases z : j < p
      · rw [if_pos z, if_pos (by omega)]
      · rw [if_neg z, if_neg (show ¬ (13 = 17 ∧ j = 0) by omega), if_neg (show ¬ j < p + 1 by omega), if_neg (show ¬ (13 = 17 ∧ j = 0) by omega)]
  · rw [setI_n h13]
    by_cases h17 : g = 17
    · subst h17
      rw [setI_f]
      by_cases y : j = 0
      · subst y; rw [upd_s]; simp [I9]
      · rw [upd_n y]; simp [I9, y]
    · rw [setI_n h17]
      simp [I9, h13, h17]
section Mod
variable {l : Launch} {K : Kx} {m : Nat} {am : Nat → Nat} {I I' : MI} {L L' : ML} {h : Hp} {sm n : Nat} {s : Int32} {mc ms : Nat}
def fs9 : List Value := [.int 0, .int 0, .null, .null, .null, .null, .null, .null, .null, .null, .null, .null, .null, .null, .null, .null, .int 0, .int 0, .int 0, .int 0, .long 0, .int 0, .int 0]
theorem sp_mNew (htr : l.stackTraces = false) (hx : h m = some (xO 4 fs9)) (hm : 14 ≤ mc) (hs : 25460 ≤ ms) :
    mX4_init l K mc ms [.ref m] h (kV fun h' => ∃ am, AM m am ∧ (∀ i, i < 14 → h (am (i + 2)) = none ∧ kB K ≤ am (i + 2)) ∧ h' = Mw K m am (I9 16) L9 h) := by
  have o0 : OvI K h m (fun _ => 0) 0 := fun i hi => absurd hi (Nat.not_lt_zero i)
  generalize hcl : mcl K (fun _ _ => 0) L9 = cl
  generalize hPost : (kV fun h' => ∃ am, AM m am ∧ (∀ i, i < 14 → h (am (i + 2)) = none ∧ kB K ≤ am (i + 2)) ∧ h' = Mw K m am (I9 16) L9 h) = Post
  rw [← Ov_0 (am := fun _ => 0) (cl := cl) hx]
  generalize hF : fs9 = F0
  have l0 : F0.length = 23 := by rw [← hF]; rfl
  refine fX4_init htr ?_
  refine ⟨8, rfl, by decide, by omega, by omega, ?_⟩
  rintro q2 hh2 n2 b2 rfl
  refine ⟨_, Ov_st (k := 0) l0 (by decide) n2 (by rw [← hcl]; rfl), ?_⟩
  have o1 := o0.s n2 b2
  have l1 : (F0.set (0 + 2) (.ref q2)).length = 23 := by rw [List.length_set]; exact l0
  generalize hF1 : F0.set (0 + 2) (.ref q2) = F1 at l1 ⊢
  clear n2 b2 o0
  refine ⟨56, rfl, by decide, by omega, by omega, ?_⟩
  rintro q3 hh3 n3 b3 rfl
  refine ⟨_, Ov_st (k := 1) l1 (by decide) n3 (by rw [← hcl]; rfl), ?_⟩
  have o2 := o1.s n3 b3
  have l2 : (F1.set (1 + 2) (.ref q3)).length = 23 := by rw [List.length_set]; exact l1
  generalize hF2 : F1.set (1 + 2) (.ref q3) = F2 at l2 ⊢
  clear n3 b3 o1
  refine ⟨56, rfl, by decide, by omega, by omega, ?_⟩
  rintro q4 hh4 n4 b4 rfl
  refine ⟨_, Ov_st (k := 2) l2 (by decide) n4 (by rw [← hcl]; rfl), ?_⟩
  have o3 := o2.s n4 b4
  have l3 : (F2.set (2 + 2) (.ref q4)).length = 23 := by rw [List.length_set]; exact l2
  generalize hF3 : F2.set (2 + 2) (.ref q4) = F3 at l3 ⊢
  clear n4 b4 o2
  refine ⟨7, rfl, by decide, by omega, by omega, ?_⟩
  rintro q5 hh5 n5 b5 rfl
  refine ⟨_, Ov_st (k := 3) l3 (by decide) n5 (by rw [← hcl]; rfl), ?_⟩
  have o4 := o3.s n5 b5
  have l4 : (F3.set (3 + 2) (.ref q5)).length = 23 := by rw [List.length_set]; exact l3
  generalize hF4 : F3.set (3 + 2) (.ref q5) = F4 at l4 ⊢
  clear n5 b5 o3
  refine ⟨7, rfl, by decide, by omega, by omega, ?_⟩
  rintro q6 hh6 n6 b6 rfl
  refine ⟨_, Ov_st (k := 4) l4 (by decide) n6 (by rw [← hcl]; rfl), ?_⟩
  have o5 := o4.s n6 b6
  have l5 : (F4.set (4 + 2) (.ref q6)).length = 23 := by rw [List.length_set]; exact l4
  generalize hF5 : F4.set (4 + 2) (.ref q6) = F5 at l5 ⊢
  clear n6 b6 o4
  refine ⟨1050, rfl, by decide, by omega, by omega, ?_⟩
  rintro q7 hh7 n7 b7 rfl
  refine ⟨_, Ov_st (k := 5) l5 (by decide) n7 (by rw [← hcl]; rfl), ?_⟩
  have o6 := o5.s n7 b7
  have l6 : (F5.set (5 + 2) (.ref q7)).length = 23 := by rw [List.length_set]; exact l5
  generalize hF6 : F5.set (5 + 2) (.ref q7) = F6 at l6 ⊢
  clear n7 b7 o5
  refine ⟨1050, rfl, by decide, by omega, by omega, ?_⟩
  rintro q8 hh8 n8 b8 rfl
  refine ⟨_, Ov_st (k := 6) l6 (by decide) n8 (by rw [← hcl]; rfl), ?_⟩
  have o7 := o6.s n8 b8
  have l7 : (F6.set (6 + 2) (.ref q8)).length = 23 := by rw [List.length_set]; exact l6
  generalize hF7 : F6.set (6 + 2) (.ref q8) = F7 at l7 ⊢
  clear n8 b8 o6
  refine ⟨1050, rfl, by decide, by omega, by omega, ?_⟩
  rintro q9 hh9 n9 b9 rfl
  refine ⟨_, Ov_st (k := 7) l7 (by decide) n9 (by rw [← hcl]; rfl), ?_⟩
  have o8 := o7.s n9 b9
  have l8 : (F7.set (7 + 2) (.ref q9)).length = 23 := by rw [List.length_set]; exact l7
  generalize hF8 : F7.set (7 + 2) (.ref q9) = F8 at l8 ⊢
  clear n9 b9 o7
  refine ⟨1050, rfl, by decide, by omega, by omega, ?_⟩
  rintro q10 hh10 n10 b10 rfl
  refine ⟨_, Ov_st (k := 8) l8 (by decide) n10 (by rw [← hcl]; rfl), ?_⟩
  have o9 := o8.s n10 b10
  have l9 : (F8.set (8 + 2) (.ref q10)).length = 23 := by rw [List.length_set]; exact l8
  generalize hF9 : F8.set (8 + 2) (.ref q10) = F9 at l9 ⊢
  clear n10 b10 o8
  refine ⟨10500, rfl, by decide, by omega, by omega, ?_⟩
  rintro q11 hh11 n11 b11 rfl
  refine ⟨_, Ov_st (k := 9) l9 (by decide) n11 (by rw [← hcl]; rfl), ?_⟩
  have o10 := o9.s n11 b11
  have l10 : (F9.set (9 + 2) (.ref q11)).length = 23 := by rw [List.length_set]; exact l9
  generalize hF10 : F9.set (9 + 2) (.ref q11) = F10 at l10 ⊢
  clear n11 b11 o9
  refine ⟨10500, rfl, by decide, by omega, by omega, ?_⟩
  rintro q12 hh12 n12 b12 rfl
  refine ⟨_, Ov_st (k := 10) l10 (by decide) n12 (by rw [← hcl]; rfl), ?_⟩
  have o11 := o10.s n12 b12
  have l11 : (F10.set (10 + 2) (.ref q12)).length = 23 := by rw [List.length_set]; exact l10
  generalize hF11 : F10.set (10 + 2) (.ref q12) = F11 at l11 ⊢
  clear n12 b12 o10
  refine ⟨112, rfl, by decide, by omega, by omega, ?_⟩
  rintro q13 hh13 n13 b13 rfl
  refine ⟨_, Ov_st (k := 11) l11 (by decide) n13 (by rw [← hcl]; rfl), ?_⟩
  have o12 := o11.s n13 b13
  have l12 : (F11.set (11 + 2) (.ref q13)).length = 23 := by rw [List.length_set]; exact l11
  generalize hF12 : F11.set (11 + 2) (.ref q13) = F12 at l12 ⊢
  clear n13 b13 o11
  refine ⟨7, rfl, by decide, by omega, by omega, ?_⟩
  rintro q14 hh14 n14 b14 rfl
  refine ⟨_, Ov_st (k := 12) l12 (by decide) n14 (by rw [← hcl]; rfl), ?_⟩
  have o13 := o12.s n14 b14
  have l13 : (F12.set (12 + 2) (.ref q14)).length = 23 := by rw [List.length_set]; exact l12
  generalize hF13 : F12.set (12 + 2) (.ref q14) = F13 at l13 ⊢
  clear n14 b14 o12
  refine ⟨7, rfl, by decide, by omega, by omega, ?_⟩
  rintro q15 hh15 n15 b15 rfl
  refine ⟨_, Ov_st (k := 13) l13 (by decide) n15 (by rw [← hcl]; rfl), ?_⟩
  have o14 := o13.s n15 b15
  have l14 : (F13.set (13 + 2) (.ref q15)).length = 23 := by rw [List.length_set]; exact l13
  generalize hF14 : F13.set (13 + 2) (.ref q15) = F14 at l14 ⊢
  clear n15 b15 o13
  generalize ham : (va_up (va_up (va_up (va_up (va_up (va_up (va_up (va_up (va_up (va_up (va_up (va_up (va_up (va_up (fun _ => 0) 2 q2) 3 q3) 4 q4) 5 q5) 6 q6) 7 q7) 8 q8) 9 q9) 10 q10) 11 q11) 12 q12) 13 q13) 14 q14) 15 q15) = am9 at o14 ⊢
  have A : AM m am9 := ⟨fun i hi => (o14 i hi).1, fun i j hi hj => (o14 i hi).2.2.2 j hj⟩
  have hOv : Ov h m F14 am9 cl 14 = Mw K m am9 (I9 0) L9 h := by
    have : F14 = mob am9 (I9 0) L9 := by
      rw [I9_0, ← ham]
      simp only [← hF14, ← hF13, ← hF12, ← hF11, ← hF10, ← hF9, ← hF8, ← hF7, ← hF6, ← hF5, ← hF4, ← hF3, ← hF2, ← hF1, ← hF, fs9]
      rfl
    rw [this, ← hcl, I9_0]
    rfl
  refine (?_ : _)
  rw [hOv]
  intro X hX
  refine loopN (n := 16) (fun p => X (nI p) (Mw K m am9 (I9 p) L9 h) 14 25460) ?_ ?_ 0 (Nat.zero_le _)
  · refine hX _ _ _ _ ⟨fun _ => ⟨⟨by omega, by omega⟩, by rw [← hPost]; exact ⟨rfl, am9, A, fun i hi => ⟨(o14 i hi).2.1, (o14 i hi).2.2.1⟩, rfl⟩⟩, fun q => absurd (nI_le (Nat.le_refl _) (by decide)) q⟩
  · intro p hp ih
    refine hX _ _ _ _ ⟨fun q => absurd q (nI_ge hp (by decide)), fun _ => ?_⟩
    refine ⟨_, g13M, ⟨_, Mw_m⟩, by omega, by omega, ?_⟩
    refine fX4_newPage htr ?_
    have e17 : I9 p 17 0 = nI p := by simp [I9]
    simp (disch := omega) only [g0M, g1M, g2M, g3M, g4M, g5M, g6M, g7M, g8M, g9M, g10M, g11M, g12M, g13M, g14M, g15M, g16M, g17M, g18M, g19M, g20M, g21M, g22M, p0M, p1M, p16M, p17M, p18M, p19M, p20M, p21M, p22M, r2M A, r3M A, r4M A, r5M A, r6M A, r7M A, r8M A, r9M A, r10M A, r11M A, r12M A, r13M A, r14M A, r15M A, w2M A, w3M A, w4M A, w5M A, w6M A, w7M A, w8M A, w9M A, w10M A, w11M A, w12M A, w13M A, w14M A, w15M A, Mw_o, true_and, Option.some.injEq, Value.ref.injEq, Value.int.injEq, Value.long.injEq, exists_eq_left', setI_f, setI_n, setL_f, setL_n, upd_s, updL_s, pk_mul, nI_add, nI_sub1, e17]
    refine ⟨_, rfl, ?_⟩
    simp (disch := omega) only [g0M, g1M, g2M, g3M, g4M, g5M, g6M, g7M, g8M, g9M, g10M, g11M, g12M, g13M, g14M, g15M, g16M, g17M, g18M, g19M, g20M, g21M, g22M, p0M, p1M, p16M, p17M, p18M, p19M, p20M, p21M, p22M, r2M A, r3M A, r4M A, r5M A, r6M A, r7M A, r8M A, r9M A, r10M A, r11M A, r12M A, r13M A, r14M A, r15M A, w2M A, w3M A, w4M A, w5M A, w6M A, w7M A, w8M A, w9M A, w10M A, w11M A, w12M A, w13M A, w14M A, w15M A, Mw_o, true_and, Option.some.injEq, Value.ref.injEq, Value.int.injEq, Value.long.injEq, exists_eq_left', setI_f, setI_n, setL_f, setL_n, upd_s, updL_s, pk_mul, nI_add, nI_sub1]
    rw [I9_s]
    exact ih
end Mod
