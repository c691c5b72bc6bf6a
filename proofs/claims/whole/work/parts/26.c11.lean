/-! ===== the class: snapshots ===== -/
theorem upd_s {f : Nat → Int32} {j : Nat} {x : Int32} : upd f j x j = x := by simp [upd]
theorem upd_n {f : Nat → Int32} {j i : Nat} {x : Int32} (n : i ≠ j) : upd f j x i = f i := by simp [upd, n]
/-- a picture in the making, at q with the rows b1 b2 b3 -/
def PN (K : Kx) (h : Hp) (q b1 b2 b3 : Nat) (n : Int32) (m : Int32) (H : Hp) (g : Nat → Option Nat) (kf tf : Nat → Int32) : Prop :=
  H q = some (xO 2 [.int n, .ref b1, .ref b2, .ref b3, .int m]) ∧ H b1 = some (xQ K 4 16 g) ∧ H b2 = some (xI K 8 kf) ∧ H b3 = some (xI K 8 tf) ∧ ∀ a, a ≠ q → a ≠ b1 → a ≠ b2 → a ≠ b3 → H a = h a
theorem sp_picInit_ {l : Launch} {K : Kx} {h : Hp} {q : Nat} {ad : Nat → Nat} {num n : Int32} {sc : Nat} {pg : Nat → Nat} {kd ty : Nat → Int32} {fs : List Value} {mc ms : Nat} (htr : l.stackTraces = false) (hq : h q = some (xO 2 fs)) (hfs : fs.length = 5) (hqa : ∀ k, k < 4 → ad k ≠ q) (P : PicR K h ad num sc pg kd ty) (hpg : ∀ p, p < 16 → ∃ gs, h (pg p) = some (xO 1 gs)) (hm : 3 ≤ mc) (hs : 32 ≤ ms) :
    mX2_init_ l K mc ms [.ref q, .ref (ad 0), .int n] h (kV fun h' => ∃ b1 b2 b3 g kf tf, h b1 = none ∧ h b2 = none ∧ h b3 = none ∧ b1 ≠ b2 ∧ b1 ≠ b3 ∧ b2 ≠ b3 ∧ PN K h q b1 b2 b3 n (nI sc) h' g kf tf ∧ (∀ p, p < 16 → g p = some (pg p)) ∧ ∀ s, s < 8 → kf s = kd s ∧ tf s = ty s) := by
  obtain ⟨p1, ⟨g0, p2, p3⟩, p4, p5⟩ := P
  obtain ⟨f0, f1, f2, f3, f4, rfl⟩ : ∃ f0 f1 f2 f3 f4, fs = [f0, f1, f2, f3, f4] := by
    match fs, hfs with
    | [f0, f1, f2, f3, f4], _ => exact ⟨f0, f1, f2, f3, f4, rfl⟩
  refine fX2_init_ htr ⟨16, rfl, by decide, by omega, by omega, ?_⟩
  rintro b1 h2 hb1 - rfl
  have q1 : q ≠ b1 := ne_fresh hq hb1
  have e1 : va_up h b1 (some (xQ K 4 16 (fun _ => none))) q = some (xO 2 [f0, f1, f2, f3, f4]) := by rw [up_n q1]; exact hq
  refine ⟨_, pf_of e1 (by simp), 8, rfl, by decide, by omega, by omega, ?_⟩
  rintro b2 h6 hb2 - rfl
  have b21 : b2 ≠ q := fun z => by rw [z, up_s] at hb2; cases hb2
  rw [up_n b21] at hb2
  obtain ⟨b12, hb2h⟩ := fresh2 hb2
  refine ⟨_, pf_of (by rw [up_n b21.symm, up_s]) (by simp), 8, rfl, by decide, by omega, by omega, ?_⟩
  rintro b3 h10 hb3 - rfl
  have b31 : b3 ≠ q := fun z => by rw [z, up_s] at hb3; cases hb3
  rw [up_n b31] at hb3
  obtain ⟨b23, hb3'⟩ := fresh2 hb3
  rw [up_n b31] at hb3'
  obtain ⟨b13, hb3h⟩ := fresh2 hb3'
  refine ⟨_, pf_of (by rw [up_n b31.symm, up_s]) (by simp), _, pf_of (up_s _ _ _) (by simp), _, pf_of (up_s _ _ _) (by simp), ?_⟩
  have sq : ∀ k, k < 4 → ad k ≠ q := hqa
  have hsrc : h (ad 0) = some (xO 2 [.int num, .ref (ad 1), .ref (ad 2), .ref (ad 3), .int (nI sc)]) := p1
  refine ⟨nI sc, ?_, _, pf_of (up_s _ _ _) (by simp), ?_⟩
  · refine gf_of (fs := [.int num, .ref (ad 1), .ref (ad 2), .ref (ad 3), .int (nI sc)]) ?_
    rw [up_n (sq 0 (by decide)), up_n (sq 0 (by decide)), up_n (sq 0 (by decide)), up_n (ne_fresh p1 hb3h), up_n (sq 0 (by decide)), up_n (ne_fresh p1 hb2h), up_n (sq 0 (by decide)), up_n (ne_fresh p1 hb1)]
    exact p1
  intro X hX
  generalize hH : va_up _ q _ = H0
  have pn0 : PN K h q b1 b2 b3 n (nI sc) H0 (fun _ => none) (fun _ => 0) (fun _ => 0) := by
    rw [← hH]
    refine ⟨?_, ?_, ?_, ?_, fun a n1 n2 n3 n4 => ?_⟩
    · rw [up_s]; rfl
    · rw [up_n q1.symm, up_n q1.symm, up_n q1.symm, up_n q1.symm, up_n b13, up_n q1.symm, up_n b12, up_n q1.symm, up_s]
    · rw [up_n b21, up_n b21, up_n b21, up_n b21, up_n b23, up_n b21, up_s]
    · rw [up_n b31, up_n b31, up_n b31, up_n b31, up_s]
    · rw [up_n n1, up_n n1, up_n n1, up_n n1, up_n n4, up_n n1, up_n n3, up_n n1, up_n n2]
  -- the other picture is as it was
  have src : ∀ H g kf tf, PN K h q b1 b2 b3 n (nI sc) H g kf tf → H (ad 0) = some (xO 2 [.int num, .ref (ad 1), .ref (ad 2), .ref (ad 3), .int (nI sc)]) ∧ H (ad 1) = some (xQ K 4 16 g0) ∧ H (ad 2) = some (xI K 8 kd) ∧ H (ad 3) = some (xI K 8 ty) := fun H g kf tf pn => by
    have ff := pn.2.2.2.2
    refine ⟨?_, ?_, ?_, ?_⟩
    · rw [ff _ (sq 0 (by decide)) (ne_fresh p1 hb1) (ne_fresh p1 hb2h) (ne_fresh p1 hb3h)]; exact p1
    · rw [ff _ (sq 1 (by decide)) (ne_fresh p2 hb1) (ne_fresh p2 hb2h) (ne_fresh p2 hb3h)]; exact p2
    · rw [ff _ (sq 2 (by decide)) (ne_fresh p4 hb1) (ne_fresh p4 hb2h) (ne_fresh p4 hb3h)]; exact p4
    · rw [ff _ (sq 3 (by decide)) (ne_fresh p5 hb1) (ne_fresh p5 hb2h) (ne_fresh p5 hb3h)]; exact p5
  refine loopN (n := 16) (fun j => ∀ H g, PN K h q b1 b2 b3 n (nI sc) H g (fun _ => 0) (fun _ => 0) → (∀ p, p < j → g p = some (pg p)) → X (nI j) H (0 + 1 + 1 + 1) (0 + 16 + 8 + 8)) ?_ ?_ 0 (Nat.zero_le _) H0 _ pn0 (fun p hp => absurd hp (Nat.not_lt_zero p))
  · intro H g pn hg
    refine hX _ _ _ _ ⟨fun _ => ?_, fun z => absurd (nI_le (Nat.le_refl _) (by omega)) z⟩
    intro Y hY
    refine loopN (n := 8) (fun j => ∀ H kf tf, PN K h q b1 b2 b3 n (nI sc) H g kf tf → (∀ s, s < j → kf s = kd s ∧ tf s = ty s) → Y (nI j) H (0 + 1 + 1 + 1) (0 + 16 + 8 + 8)) ?_ ?_ 0 (Nat.zero_le _) H _ _ pn (fun p hp => absurd hp (Nat.not_lt_zero p))
    · intro H kf tf pn hk
      exact hY _ _ _ _ ⟨fun _ => ⟨⟨by omega, by omega⟩, rfl, b1, b2, b3, g, kf, tf, hb1, hb2h, hb3h, b12, b13, b23, pn, hg, hk⟩, fun z => absurd (nI_le (Nat.le_refl _) (by omega)) z⟩
    · intro j hj ih H kf tf pn hk
      obtain ⟨s1, s2, s3, s4⟩ := src H g kf tf pn
      obtain ⟨n1, n2, n3, n4, n5⟩ := pn
      have a2 : ad 0 ≠ b2 := ne_fresh p1 hb2h
      have a3 : ad 3 ≠ b2 := ne_fresh p5 hb2h
      have g1 : va_up H b2 (some (xI K 8 (upd kf j (kd j)))) q = some (xO 2 [.int n, .ref b1, .ref b2, .ref b3, .int (nI sc)]) := by rw [up_n b21.symm]; exact n1
      have g2 : va_up H b2 (some (xI K 8 (upd kf j (kd j)))) (ad 0) = some (xO 2 [.int num, .ref (ad 1), .ref (ad 2), .ref (ad 3), .int (nI sc)]) := by rw [up_n a2]; exact s1
      have g3 : va_up H b2 (some (xI K 8 (upd kf j (kd j)))) (ad 3) = some (xI K 8 ty) := by rw [up_n a3]; exact s4
      have g4 : va_up H b2 (some (xI K 8 (upd kf j (kd j)))) b3 = some (xI K 8 tf) := by rw [up_n b23.symm]; exact n4
      refine hY _ _ _ _ ⟨fun z => absurd z (nI_ge hj (by omega)), fun _ => ⟨_, gf_of n1, _, gf_of s1, _, aI_x s3 hj (by omega), _, wI_x n3 hj (by omega), b3, gf_of g1, ad 3, gf_of g2, ty j, aI_x g3 hj (by omega), _, wI_x g4 hj (by omega), ?_⟩⟩
      rw [nI_sub1]
      refine ih _ (upd kf j (kd j)) (upd tf j (ty j)) ⟨?_, ?_, ?_, ?_, fun a m1 m2 m3 m4 => ?_⟩ fun s hs => ?_
      · rw [up_n b31.symm, up_n b21.symm]; exact n1
      · rw [up_n b13, up_n b12]; exact n2
      · rw [up_n b23, up_s]
      · rw [up_s]
      · rw [up_n m4, up_n m3]; exact n5 a m1 m2 m3 m4
      · rcases Nat.lt_succ_iff_lt_or_eq.mp hs with y | rfl
        · rw [upd_n (by omega), upd_n (by omega)]; exact hk s y
        · rw [upd_s, upd_s]; exact ⟨rfl, rfl⟩
  · intro j hj ih H g pn hg
    obtain ⟨s1, s2, s3, s4⟩ := src H g _ _ pn
    obtain ⟨n1, n2, n3, n4, n5⟩ := pn
    refine hX _ _ _ _ ⟨fun z => absurd z (nI_ge hj (by omega)), fun _ => ⟨_, gf_of n1, _, gf_of s1, _, aQ_x s2 hj (by omega), fun v9 z => ?_, _, wQ_x n2 hj (by omega), ?_⟩⟩
    · rw [p3 j hj] at z; cases z
      obtain ⟨gs, hgs⟩ := hpg j hj
      refine ⟨gs, ?_⟩
      rw [n5 _ (fun z => by rw [z, hq] at hgs; cases hgs) (ne_fresh hgs hb1) (ne_fresh hgs hb2h) (ne_fresh hgs hb3h)]; exact hgs
    · rw [nI_sub1]
      refine ih _ (va_up g j (g0 j)) ⟨?_, ?_, ?_, ?_, fun a m1 m2 m3 m4 => ?_⟩ fun p hp => ?_
      · rw [up_n q1]; exact n1
      · rw [up_s]
      · rw [up_n b12.symm]; exact n3
      · rw [up_n b13.symm]; exact n4
      · rw [up_n m2]; exact n5 a m1 m2 m3 m4
      · rcases Nat.lt_succ_iff_lt_or_eq.mp hp with y | rfl
        · rw [up_n (by omega)]; exact hg p y
        · rw [up_s]; exact p3 p hj
theorem countP_cut {n j : Nat} (hj : j < n) {f g : Nat → Bool} (h : ∀ i, i < n → i ≠ j → f i = g i) : (List.range n).countP f + (if g j then 1 else 0) = (List.range n).countP g + (if f j then 1 else 0) := by
  obtain ⟨A, B, hr, hA, hB⟩ := range_cut hj
  rw [hr, List.countP_append, List.countP_append, List.countP_cons, List.countP_cons]
  have e1 : A.countP f = A.countP g := List.countP_congr fun a ha => by rw [h a (hA a ha).1 (hA a ha).2]
  have e2 : B.countP f = B.countP g := List.countP_congr fun a ha => by rw [h a (hB a ha).1 (hB a ha).2]
  rw [e1, e2]
  omega
theorem hdc_add {th : Nat → Bool} {pa : Nat → Nat → Nat} {pg : Nat → Nat} {j : Nat} (hj : j < 6) (ht : th (j + 1) = false) (p a : Nat) : hdc (va_up th (j + 1) true) (va_up pa (j + 1) pg) p a = hdc th pa p a + if pg p = a then 1 else 0 := by
  have := countP_cut hj (f := fun i => va_up th (j + 1) true (i + 1) && decide (va_up pa (j + 1) pg (i + 1) p = a)) (g := fun i => th (i + 1) && decide (pa (i + 1) p = a)) (fun i hi n => by rw [up_n (by omega), up_n (by omega)])
  simp only [ht, up_s, Bool.false_and, Bool.true_and, Bool.false_eq_true, if_false, Nat.add_zero, decide_eq_true_eq] at this
  exact this
theorem hdc_del {th : Nat → Bool} {pa : Nat → Nat → Nat} {j : Nat} (hj : j < 6) (ht : th (j + 1) = true) (p a : Nat) : hdc th pa p a = hdc (va_up th (j + 1) false) pa p a + if pa (j + 1) p = a then 1 else 0 := by
  have := countP_cut hj (f := fun i => th (i + 1) && decide (pa (i + 1) p = a)) (g := fun i => va_up th (j + 1) false (i + 1) && decide (pa (i + 1) p = a)) (fun i hi n => by rw [up_n (by omega)])
  simp only [ht, up_s, Bool.false_and, Bool.true_and, Bool.false_eq_true, if_false, Nat.add_zero, decide_eq_true_eq] at this
  exact this
