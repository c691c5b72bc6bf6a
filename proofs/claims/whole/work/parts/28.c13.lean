/-! ===== the class: restore, and a new object ===== -/
def mixK (f : Nat → Nat → Int32) (c n : Nat) : Nat → Int32 := fun s => if s < n then f c s else f 0 s
theorem mix_s {f : Nat → Nat → Int32} {c j : Nat} : upd (mixK f c j) j (f c j) = mixK f c (j + 1) := by
  funext i
  unfold upd mixK
  by_cases y : i = j
  · subst y; simp
  · by_cases z : i < j
    · simp [y, z, Nat.lt_succ_of_lt z]
    · have : ¬ i < j + 1 := by omega
      simp [y, z, this]
section Obj
variable {l : Launch} {K : Kx} {h h' : Hp} {x : Nat} {ad : Nat → Nat → Nat} {o : OV} {nm : Nat → Int32} {th : Nat → Bool} {nu : Nat → Int32} {sc : Nat → Nat} {kd ty : Nat → Nat → Int32} {pa : Nat → Nat → Nat} {Lp : Nat → List (Option EV)} {rw : Nat → Nat} {s : Int32} {mc ms : Nat}
def BN (K : Kx) (h : Hp) (ad : Nat → Nat) (H : Hp) (g : Nat → Option Nat) (kf tf : Nat → Int32) : Prop := H (ad 1) = some (xQ K 4 16 g) ∧ H (ad 2) = some (xI K 8 kf) ∧ H (ad 3) = some (xI K 8 tf) ∧ ∀ a, a ≠ ad 1 → a ≠ ad 2 → a ≠ ad 3 → H a = h a
theorem sp_becomeLike {c : Nat} (htr : l.stackTraces = false) (C : CR K h x ad o nm th nu sc kd ty pa Lp rw) (hc0 : 0 < c) (hc : c < 7) (ht : th c = true) (hsc : sc c ≤ 8) :
    mX2_becomeLike l K [.ref (ad 0 0), .ref (ad c 0)] h (kV fun h' => CR K h' x ad o nm th nu sc (u0 kd (mixK kd c (sc c))) (u0 ty (mixK ty c (sc c))) (u0 pa (pa c)) Lp rw ∧ FF K h h') := by
  obtain ⟨p1, ⟨g0, p2, p3⟩, p4, p5⟩ := C.p0
  obtain ⟨s1, ⟨g1, s2, s3⟩, s4, s5⟩ := C.p hc ht
  have d := C.d
  have ne : ∀ k k', k < 4 → k' < 4 → k ≠ k' → ad 0 k ≠ ad 0 k' := fun k k' hk hk' n z => n (d.2.2.2.2.1 0 0 k k' (by decide) (by decide) d.1 d.1 hk hk' z).2
  have nc : ∀ k k', k < 4 → k' < 4 → ad c k ≠ ad 0 k' := fun k k' hk hk' z => by have := (d.2.2.2.2.1 c 0 k k' hc (by decide) ht d.1 hk hk' z).1; omega
  have n7 : ∀ k, k < 4 → ad 7 0 ≠ ad 0 k := fun k hk z => (d.2.2.2.1 0 k (by decide) d.1 hk).1 z.symm
  refine fX2_becomeLike htr ?_
  intro X hX
  have src : ∀ H g kf tf, BN K h (ad 0) H g kf tf → H (ad 0 0) = some (xO 2 [.int (nu 0), .ref (ad 0 1), .ref (ad 0 2), .ref (ad 0 3), .int (nI (sc 0))]) ∧ H (ad c 0) = some (xO 2 [.int (nu c), .ref (ad c 1), .ref (ad c 2), .ref (ad c 3), .int (nI (sc c))]) ∧ H (ad c 1) = some (xQ K 4 16 g1) ∧ H (ad c 2) = some (xI K 8 (kd c)) ∧ H (ad c 3) = some (xI K 8 (ty c)) := fun H g kf tf bn => by
    have ff := bn.2.2.2
    refine ⟨?_, ?_, ?_, ?_, ?_⟩
    · rw [ff _ (ne 0 1 (by decide) (by decide) (by decide)) (ne 0 2 (by decide) (by decide) (by decide)) (ne 0 3 (by decide) (by decide) (by decide))]; exact p1
    · rw [ff _ (nc 0 1 (by decide) (by decide)) (nc 0 2 (by decide) (by decide)) (nc 0 3 (by decide) (by decide))]; exact s1
    · rw [ff _ (nc 1 1 (by decide) (by decide)) (nc 1 2 (by decide) (by decide)) (nc 1 3 (by decide) (by decide))]; exact s2
    · rw [ff _ (nc 2 1 (by decide) (by decide)) (nc 2 2 (by decide) (by decide)) (nc 2 3 (by decide) (by decide))]; exact s4
    · rw [ff _ (nc 3 1 (by decide) (by decide)) (nc 3 2 (by decide) (by decide)) (nc 3 3 (by decide) (by decide))]; exact s5
  refine loopN (n := 16) (fun j => ∀ H g, BN K h (ad 0) H g (kd 0) (ty 0) → (∀ p, p < j → g p = some (pa c p)) → X (nI j) H) ?_ ?_ 0 (Nat.zero_le _) h g0 ⟨p2, p4, p5, fun _ _ _ _ => rfl⟩ (fun p hp => absurd hp (Nat.not_lt_zero p))
  · intro H g bn hg
    refine hX _ _ ⟨fun _ => ?_, fun z => absurd (nI_le (Nat.le_refl _) (by omega)) z⟩
    intro Y hY
    refine loopN (n := sc c) (fun j => ∀ H, BN K h (ad 0) H g (mixK kd c j) (mixK ty c j) → Y (nI j) H) ?_ ?_ 0 (Nat.zero_le _) H (by
      have e : ∀ f : Nat → Nat → Int32, mixK f c 0 = f 0 := fun f => by funext i; simp [mixK]
      rw [e, e]; exact bn)
    · intro H bn
      obtain ⟨t1, t2, t3, t4, t5⟩ := src H g _ _ bn
      obtain ⟨m1, m2, m3, m4⟩ := bn
      refine hY _ _ ⟨_, gf_of t2, fun _ => ⟨rfl, ?_⟩, fun z => absurd (nI_le (Nat.le_refl _) (by omega)) z⟩
      have r := C.re (h' := H) (nm' := nm) (sc0 := sc 0) (pg0 := pa c) (by rw [m4 _ (n7 1 (by decide)) (n7 2 (by decide)) (n7 3 (by decide))]; exact C.2.1) ⟨t1, ⟨g, m1, hg⟩, m2, m3⟩ (fun p hp => ⟨c, hc, ht, rfl⟩) (fun a X e _ n2 => by rw [m4 a (n2 1 (by decide)) (n2 2 (by decide)) (n2 3 (by decide))]; exact e)
      rw [u0_self] at r
      exact ⟨r.1, r.2.1⟩
    · intro j hj ih H bn
      obtain ⟨t1, t2, t3, t4, t5⟩ := src H g _ _ bn
      obtain ⟨m1, m2, m3, m4⟩ := bn
      have g1' : va_up H (ad 0 2) (some (xI K 8 (upd (mixK kd c j) j (kd c j)))) (ad 0 0) = some (xO 2 [.int (nu 0), .ref (ad 0 1), .ref (ad 0 2), .ref (ad 0 3), .int (nI (sc 0))]) := by rw [up_n (ne 0 2 (by decide) (by decide) (by decide))]; exact t1
      have g2' : va_up H (ad 0 2) (some (xI K 8 (upd (mixK kd c j) j (kd c j)))) (ad c 0) = some (xO 2 [.int (nu c), .ref (ad c 1), .ref (ad c 2), .ref (ad c 3), .int (nI (sc c))]) := by rw [up_n (nc 0 2 (by decide) (by decide))]; exact t2
      have g3' : va_up H (ad 0 2) (some (xI K 8 (upd (mixK kd c j) j (kd c j)))) (ad c 3) = some (xI K 8 (ty c)) := by rw [up_n (nc 3 2 (by decide) (by decide))]; exact t5
      have g4' : va_up H (ad 0 2) (some (xI K 8 (upd (mixK kd c j) j (kd c j)))) (ad 0 3) = some (xI K 8 (mixK ty c j)) := by rw [up_n (ne 3 2 (by decide) (by decide) (by decide))]; exact m3
      refine hY _ _ ⟨_, gf_of t2, fun z => absurd z (nI_ge hj (by omega)), fun _ => ⟨_, gf_of t1, _, gf_of t2, _, aI_x t4 (by omega) (by omega), _, wI_x m2 (by omega) (by omega), _, gf_of g1', _, gf_of g2', _, aI_x g3' (by omega) (by omega), _, wI_x g4' (by omega) (by omega), ?_⟩⟩
      rw [nI_sub1, mix_s, mix_s]
      refine ih _ ⟨?_, ?_, up_s _ _ _, fun a m1 m2 m3 => ?_⟩
      · rw [up_n (ne 1 3 (by decide) (by decide) (by decide)), up_n (ne 1 2 (by decide) (by decide) (by decide))]; exact m1
      · rw [up_n (ne 2 3 (by decide) (by decide) (by decide)), up_s]
      · rw [up_n m3, up_n m2]; exact m4 a m1 m2 m3
  · intro j hj ih H g bn hg
    obtain ⟨t1, t2, t3, t4, t5⟩ := src H g _ _ bn
    obtain ⟨m1, m2, m3, m4⟩ := bn
    refine hX _ _ ⟨fun z => absurd z (nI_ge hj (by omega)), fun _ => ⟨_, gf_of t1, _, gf_of t2, _, aQ_x t3 hj (by omega), fun v9 z => ?_, _, wQ_x m1 hj (by omega), ?_⟩⟩
    · rw [s3 j hj] at z; cases z
      have e := (C.g hc ht hj).1.1
      exact ⟨_, by rw [m4 _ (ne_tag e p2 (by simp [tag_O, tag_Q])) (ne_tag e p4 (by simp [tag_O, tag_I])) (ne_tag e p5 (by simp [tag_O, tag_I]))]; exact e⟩
    · rw [nI_sub1]
      refine ih _ (va_up g j (g1 j)) ⟨up_s _ _ _, ?_, ?_, fun a m1 m2 m3 => ?_⟩ fun p hp => ?_
      · rw [up_n (ne 2 1 (by decide) (by decide) (by decide))]; exact m2
      · rw [up_n (ne 3 1 (by decide) (by decide) (by decide))]; exact m3
      · rw [up_n m1]; exact m4 a m1 m2 m3
      · rcases Nat.lt_succ_iff_lt_or_eq.mp hp with y | rfl
        · rw [up_n (by omega)]; exact hg p y
        · rw [up_s]; exact s3 p hj
theorem sp_restore {n : Int32} (htr : l.stackTraces = false) (C : CR K h x ad o nm th nu sc kd ty pa Lp rw) (hsc : ∀ c, c < 7 → th c = true → sc c ≤ 8) (hm : 40 ≤ mc) (hs : 1200 ≤ ms) :
    mX3_restore l K mc ms [.ref x, .int n] h (kIX (fun r h' => ∃ c, 0 < c ∧ c < 7 ∧ th c = true ∧ nu c = n ∧ r = nI (eP Lp (pa c) 16).length ∧ CR K h' x ad o nm th nu sc (u0 kd (mixK kd c (sc c))) (u0 ty (mixK ty c (sc c))) (u0 pa (pa c)) Lp rw ∧ FF K h h')
      (fun E h' => h' = h ∧ E = exN 1 ∧ ∀ j, j < 6 → th (j + 1) = true → nu (j + 1) ≠ n)) := by
  refine fX3_restore htr ⟨_, gf_of C.xx, C.ob, by omega, by omega, ?_⟩
  refine (sp_slotOf htr C).I ?_
  rintro r h' ⟨z, rfl⟩
  refine ⟨C.ob, 1, 6, by omega, by omega, ?_⟩
  rcases z with ⟨j, hj, rfl, t, hn⟩ | ⟨rfl, hn⟩
  · refine (sp_snapshotIn_s htr C hj t).QX ?_ (fun E h' z => z.elim)
    rintro w h9 ⟨rfl, rfl⟩
    refine ⟨⟨_, C.p0.1⟩, by omega, by omega, ?_⟩
    refine (sp_becomeLike htr C (by omega) (by omega) t (hsc _ (by omega) t)).V ?_
    rintro h2 ⟨C2, ff⟩
    refine ⟨_, gf_of C2.xx, ⟨_, C2.p0.1⟩, by omega, by omega, ?_⟩
    refine (sp_picCountEntries htr C2.p0 (fun p hp => C2.g0 hp)).I ?_
    rintro r h3 ⟨rfl, rfl⟩
    exact ⟨⟨by omega, by omega⟩, Or.inl ⟨_, rfl, j + 1, by omega, by omega, t, hn, rfl, C2, ff⟩⟩
  · refine (sp_snapshotIn_n htr (Nat.le_refl _) (Nat.le_refl _)).QX (fun w h' z => z.elim) ?_
    rintro E h' ⟨rfl, rfl⟩
    exact Or.inr ⟨_, rfl, rfl, rfl, hn⟩
/-- the first j pages of a new picture -/
def IN (K : Kx) (h : Hp) (q b1 b2 b3 j : Nat) (H : Hp) (g : Nat → Option Nat) (pg rr : Nat → Nat) : Prop :=
  H q = some (xO 2 [.int (-nI 1), .ref b1, .ref b2, .ref b3, .int (nI 0)]) ∧ H b1 = some (xQ K 4 16 g) ∧ H b2 = some (xI K 8 (fun _ => 0)) ∧ H b3 = some (xI K 8 (fun _ => 0)) ∧
  (∀ p, p < j → g p = some (pg p) ∧ H (pg p) = some (xO 1 [.ref (rr p), .int (nI 0)]) ∧ H (rr p) = some (xQ K 3 4 (fun _ => none))) ∧
  (∀ p p', p < j → p' < j → pg p = pg p' → p = p') ∧ (∀ p p', p < j → p' < j → rr p = rr p' → p = p') ∧ ∀ a X, h a = some X → a ≠ q → H a = some X
theorem sp_picInit {q : Nat} {fs : List Value} (htr : l.stackTraces = false) (ki : KI K) (hq : h q = some (xO 2 fs)) (hfs : fs.length = 5) (hm : 35 ≤ mc) (hs : 128 ≤ ms) :
    mX2_init l K mc ms [.ref q] h (kV fun h' => ∃ b1 b2 b3 g pg rr, h b1 = none ∧ h b2 = none ∧ h b3 = none ∧ b1 ≠ b2 ∧ b1 ≠ b3 ∧ b2 ≠ b3 ∧ IN K h q b1 b2 b3 16 h' g pg rr) := by
  obtain ⟨f0, f1, f2, f3, f4, rfl⟩ : ∃ f0 f1 f2 f3 f4, fs = [f0, f1, f2, f3, f4] := by
    match fs, hfs with
    | [f0, f1, f2, f3, f4], _ => exact ⟨f0, f1, f2, f3, f4, rfl⟩
  refine fX2_init htr ⟨16, rfl, by decide, by omega, by omega, ?_⟩
  rintro b1 h2 hb1 - rfl
  have q1 : q ≠ b1 := ne_fresh hq hb1
  have e1 : va_up h b1 (some (xQ K 4 16 (fun _ => none))) q = some (xO 2 [f0, f1, f2, f3, f4]) := by rw [up_n q1]; exact hq
  refine ⟨_, pf_of e1 (by simp), 8, rfl, by decide, by omega, by omega, ?_⟩
  rintro b2 h6 hb2 - rfl
  have b21 : b2 ≠ q := fun z => by rw [z, up_s] at hb2; cases hb2
  rw [up_n b21] at hb2
  obtain ⟨b12, hb2h⟩ := fresh2 hb2
  refine ⟨_, pf_of (by rw [up_n b21.symm, up_s]) (by simp), 8, rfl, by decide, by omega, by omega, ?_⟩
  rintro b3 h10 hb3 - rfl
  have b31 : b3 ≠ q := fun z => by rw [z, up_s] at hb3; cases hb3
  rw [up_n b31] at hb3
  obtain ⟨b23, hb3'⟩ := fresh2 hb3
  rw [up_n b31] at hb3'
  obtain ⟨b13, hb3h⟩ := fresh2 hb3'
  refine ⟨_, pf_of (by rw [up_n b31.symm, up_s]) (by simp), _, pf_of (up_s _ _ _) (by simp), _, pf_of (up_s _ _ _) (by simp), ?_⟩
  intro X hX
  generalize hH : va_up _ q _ = H0
  have pn0 : IN K h q b1 b2 b3 0 H0 (fun _ => none) (fun _ => 0) (fun _ => 0) := by
    rw [← hH]
    refine ⟨?_, ?_, ?_, ?_, fun p hp => absurd hp (Nat.not_lt_zero p), fun p p' hp => absurd hp (Nat.not_lt_zero p), fun p p' hp => absurd hp (Nat.not_lt_zero p), fun a X e n1 => ?_⟩
    · rw [up_s]; rfl
    · rw [up_n q1.symm, up_n q1.symm, up_n q1.symm, up_n b13, up_n q1.symm, up_n b12, up_n q1.symm, up_s]
    · rw [up_n b21, up_n b21, up_n b21, up_n b23, up_n b21, up_s]
    · rw [up_n b31, up_n b31, up_n b31, up_s]
    · rw [up_n n1, up_n n1, up_n n1, up_n (ne_fresh e hb3h), up_n n1, up_n (ne_fresh e hb2h), up_n n1, up_n (ne_fresh e hb1)]; exact e
  refine loopN (n := 16) (fun j => ∀ H g pg rr kc ks, IN K h q b1 b2 b3 j H g pg rr → kc = 3 + 2 * j → ks = 32 + 6 * j → X (nI j) H kc ks) ?_ ?_ 0 (Nat.zero_le _) H0 _ _ _ _ _ pn0 (by omega) (by omega)
  · intro H g pg rr kc ks w hk1 hk2
    exact hX _ _ _ _ ⟨fun _ => ⟨⟨by omega, by omega⟩, rfl, b1, b2, b3, g, pg, rr, hb1, hb2h, hb3h, b12, b13, b23, w⟩, fun z => absurd (nI_le (Nat.le_refl _) (by omega)) z⟩
  · intro j hj ih H g pg rr kc ks w hk1 hk2
    obtain ⟨w1, w2, w3, w4, w5, w6, w7, w8⟩ := w
    refine hX _ _ _ _ ⟨fun z => absurd z (nI_ge hj (by omega)), fun _ => ⟨_, gf_of w1, by omega, by omega, ?_⟩⟩
    rintro qp h2 hqp - rfl
    refine ⟨1, 4, by omega, by omega, ?_⟩
    refine (sp_pgInit htr (up_s _ _ _) (Nat.le_refl _) (Nat.le_refl _)).V ?_
    rintro h3 ⟨r0, hr0, -, rfl⟩
    obtain ⟨hqr, hr0h⟩ := fresh2 hr0
    have fr : ∀ a X, H a = some X → va_up (va_up (va_up H qp (some (xO 1 [.null, .int 0]))) r0 (some (xQ K 3 4 (fun _ => none)))) qp (some (xO 1 [.ref r0, .int (nI 0)])) a = some X := fun a X e => by rw [up_n (ne_fresh e hqp), up_n (ne_fresh e hr0h), up_n (ne_fresh e hqp)]; exact e
    refine ⟨⟨_, up_s _ _ _⟩, _, wQ_x (fr _ _ w2) hj (by omega), ?_⟩
    rw [nI_sub1]
    generalize hh : va_up (va_up (va_up (va_up H qp (some (xO 1 [.null, .int 0]))) r0 (some (xQ K 3 4 (fun _ => none)))) qp (some (xO 1 [.ref r0, .int (nI 0)]))) b1 (some (xQ K 4 16 (va_up g j (some qp)))) = H2
    have b1q : b1 ≠ qp := ne_fresh w2 hqp
    have b1r : b1 ≠ r0 := ne_fresh w2 hr0h
    have fr2 : ∀ a X, H a = some X → a ≠ b1 → H2 a = some X := fun a X e n => by rw [← hh, up_n n]; exact fr a X e
    refine ih H2 (va_up g j (some qp)) (va_up pg j qp) (va_up rr j r0) _ _ ⟨fr2 _ _ w1 q1, by rw [← hh, up_s], fr2 _ _ w3 b12.symm, fr2 _ _ w4 b13.symm, fun p hp => ?_, fun p p' hp hp' z => ?_, fun p p' hp hp' z => ?_, fun a X e n => ?_⟩ (by omega) (by omega)
    · rcases Nat.lt_succ_iff_lt_or_eq.mp hp with y | rfl
      · rw [up_n (by omega), up_n (by omega), up_n (by omega)]
        obtain ⟨v1, v2, v3⟩ := w5 p y
        exact ⟨v1, fr2 _ _ v2 (ne_tag v2 w2 (by simp [tag_O, tag_Q])), fr2 _ _ v3 (ne_tag v3 w2 (ki.ne (by decide) (by decide) (by decide)))⟩
      · rw [up_s, up_s, up_s]
        refine ⟨rfl, ?_, ?_⟩
        · rw [← hh, up_n b1q.symm, up_s]
        · rw [← hh, up_n b1r.symm, up_n hqr.symm, up_s]
    · rcases Nat.lt_succ_iff_lt_or_eq.mp hp with y | rfl
      · rcases Nat.lt_succ_iff_lt_or_eq.mp hp' with y' | rfl
        · rw [up_n (by omega), up_n (by omega)] at z; exact w6 p p' y y' z
        · exfalso
          rw [up_n (by omega), up_s] at z
          exact ne_fresh (w5 p y).2.1 hqp z
      · rcases Nat.lt_succ_iff_lt_or_eq.mp hp' with y' | rfl
        · exfalso
          rw [up_s, up_n (by omega)] at z
          exact ne_fresh (w5 p' y').2.1 hqp z.symm
        · rfl
    · rcases Nat.lt_succ_iff_lt_or_eq.mp hp with y | rfl
      · rcases Nat.lt_succ_iff_lt_or_eq.mp hp' with y' | rfl
        · rw [up_n (by omega), up_n (by omega)] at z; exact w7 p p' y y' z
        · exfalso
          rw [up_n (by omega), up_s] at z
          exact ne_fresh (w5 p y).2.2 hr0h z
      · rcases Nat.lt_succ_iff_lt_or_eq.mp hp' with y' | rfl
        · exfalso
          rw [up_s, up_n (by omega)] at z
          exact ne_fresh (w5 p' y').2.2 hr0h z.symm
        · rfl
    · exact fr2 _ _ (w8 a X e n) (ne_fresh e hb1)
def th0 : Nat → Bool := fun c => decide (c = 0)
def L0 : List (Option EV) := [none, none, none, none]
theorem sp_new {fs : List Value} (htr : l.stackTraces = false) (ki : KI K) (he : eK K h) (hnf : ∀ a, ¬ fK K a) (hx : h x = some (xO 3 fs)) (hfs : fs.length = 9) (hm : 60 ≤ mc) (hs : 400 ≤ ms) :
    mX3_init l K mc ms [.ref x] h (kV fun h' => ∃ ad nu kd ty pa rw, CR K h' x ad (nI 0, nI 0, nI 0, lN 0, nI 0) (fun _ => 0) th0 nu (fun _ => 0) kd ty pa (fun _ => L0) rw ∧ ∀ a X, h a = some X → a ≠ x → h' a = some X) := by
  obtain ⟨f0, f1, f2, f3, f4, f5, f6, f7, f8, rfl⟩ : ∃ f0 f1 f2 f3 f4 f5 f6 f7 f8, fs = [f0, f1, f2, f3, f4, f5, f6, f7, f8] := by
    match fs, hfs with
    | [f0, f1, f2, f3, f4, f5, f6, f7, f8], _ => exact ⟨f0, f1, f2, f3, f4, f5, f6, f7, f8, rfl⟩
  refine fX3_init htr ⟨8, rfl, by decide, by omega, by omega, ?_⟩
  rintro nn h2 hnn - rfl
  have x1 : x ≠ nn := ne_fresh hx hnn
  have e1 : va_up h nn (some (xI K 8 (fun _ => 0))) x = some (xO 3 [f0, f1, f2, f3, f4, f5, f6, f7, f8]) := by rw [up_n x1]; exact hx
  refine ⟨_, pf_of e1 (by simp), by omega, by omega, ?_⟩
  rintro q h6 hq - rfl
  generalize hh4 : va_up (va_up h nn (some (xI K 8 (fun _ => 0)))) x (some (xO 3 ([f0, f1, f2, f3, f4, f5, f6, f7, f8].set 0 (.ref nn)))) = h4 at hq ⊢
  have f4x : h4 x = some (xO 3 [.ref nn, f1, f2, f3, f4, f5, f6, f7, f8]) := by rw [← hh4, up_s]; rfl
  have f4n : h4 nn = some (xI K 8 (fun _ => 0)) := by rw [← hh4, up_n x1.symm, up_s]
  have f4o : ∀ a X, h a = some X → a ≠ x → h4 a = some X := fun a X e n => by rw [← hh4, up_n n, up_n (ne_fresh e hnn)]; exact e
  refine ⟨35, 128, by omega, by omega, ?_⟩
  refine (sp_picInit htr ki (up_s _ _ _) rfl (Nat.le_refl _) (Nat.le_refl _)).V ?_
  rintro h7 ⟨b1, b2, b3, g, pg, rr, hb1, hb2, hb3, b12, b13, b23, w1, w2, w3, w4, w5, w6, w7, w8⟩
  have o7 : ∀ a X, h4 a = some X → h7 a = some X := fun a X e => w8 a X (by rw [up_n (ne_fresh e hq)]; exact e) (ne_fresh e hq)
  obtain ⟨qb1, hb1h⟩ := fresh2 hb1
  obtain ⟨qb2, hb2h⟩ := fresh2 hb2
  obtain ⟨qb3, hb3h⟩ := fresh2 hb3
  refine ⟨_, pf_of (o7 _ _ f4x) (by simp), 6, rfl, by decide, by omega, by omega, ?_⟩
  rintro sn h12 hsn - rfl
  have snx : sn ≠ x := fun z => by rw [z, up_s] at hsn; cases hsn
  rw [up_n snx] at hsn
  refine ⟨_, pf_of (by rw [up_n snx.symm, up_s]) (by simp), 150, rfl, by decide, by omega, by omega, ?_⟩
  rintro rk h16 hrk hb rfl
  have rkx : rk ≠ x := fun z => by rw [z, up_s] at hrk; cases hrk
  rw [up_n rkx] at hrk
  obtain ⟨rks, hrk'⟩ := fresh2 hrk
  rw [up_n rkx] at hrk'
  refine ⟨_, pf_of (by rw [up_n rkx.symm, up_s]) (by simp), _, pf_of (up_s _ _ _) (by simp), _, pf_of (up_s _ _ _) (by simp), _, pf_of (up_s _ _ _) (by simp), _, pf_of (up_s _ _ _) (by simp), _, pf_of (up_s _ _ _) (by simp), ⟨by omega, by omega⟩, rfl, ?_⟩
  simp only [up_up]
  generalize hhz : va_up _ x _ = h9
  have z9x : h9 x = some (xO 3 [.ref nn, .ref q, .ref sn, .ref rk, .int (nI 0), .int (nI 0), .int (nI 0), .long (lN 0), .int (nI 0)]) := by rw [← hhz, up_s]; rfl
  have z9s : h9 sn = some (xQ K 5 6 (fun _ => none)) := by rw [← hhz, up_n snx, up_n rks, up_n snx, up_s]
  have z9r : h9 rk = some (xJ K 150 (fun _ => 0)) := by rw [← hhz, up_n rkx, up_s]
  have o9 : ∀ a X, h7 a = some X → a ≠ x → h9 a = some X := fun a X e n => by rw [← hhz, up_n n, up_n (ne_fresh e hrk'), up_n n, up_n (ne_fresh e hsn), up_n n]; exact e
  have tx : ∀ a X, h7 a = some X → tagOf X ≠ .inr 3 → h9 a = some X := fun a X e t => o9 a X e (ne_tag e (o7 _ _ f4x) t)
  have rwp : ∀ p, p < 16 → rr (((List.range 16).find? (fun p' => decide (pg p' = pg p))).getD 0) = rr p := fun p hp => by
    cases hf : (List.range 16).find? (fun p' => decide (pg p' = pg p)) with
    | none => exact absurd (List.find?_eq_none.mp hf p (List.mem_range.mpr hp)) (by simp)
    | some p' =>
      have h1 := List.find?_some hf
      have h2 := List.mem_range.mp (List.mem_of_find?_eq_some hf)
      simp only [decide_eq_true_eq] at h1
      rw [w6 p' p h2 hp h1]; rfl
  have adi : ∀ k k', k < 4 → k' < 4 → adn q b1 b2 b3 k = adn q b1 b2 b3 k' → k = k' := by
    intro k k' hk hk'
    match k, hk, k', hk' with
    | 0, _, 0, _ => intro _; rfl
    | 0, _, 1, _ => intro z; exact absurd z qb1
    | 0, _, 2, _ => intro z; exact absurd z qb2
    | 0, _, 3, _ => intro z; exact absurd z qb3
    | 1, _, 0, _ => intro z; exact absurd z qb1.symm
    | 1, _, 1, _ => intro _; rfl
    | 1, _, 2, _ => intro z; exact absurd z b12
    | 1, _, 3, _ => intro z; exact absurd z b13
    | 2, _, 0, _ => intro z; exact absurd z qb2.symm
    | 2, _, 1, _ => intro z; exact absurd z b12.symm
    | 2, _, 2, _ => intro _; rfl
    | 2, _, 3, _ => intro z; exact absurd z b23
    | 3, _, 0, _ => intro z; exact absurd z qb3.symm
    | 3, _, 1, _ => intro z; exact absurd z b13.symm
    | 3, _, 2, _ => intro z; exact absurd z b23.symm
    | 3, _, 3, _ => intro _; rfl
  have c0 : ∀ c, th0 c = true → c = 0 := fun c z => by simpa [th0] using z
  have h00 : ∀ p a, hdc th0 (fun _ => pg) p a = 0 := fun p a => by
    rw [hdc, List.countP_eq_zero]
    intro j _
    simp [th0]
  refine ⟨fun c k => if c = 7 then (if k = 0 then nn else if k = 1 then sn else rk) else adn q b1 b2 b3 k, fun _ => -nI 1, fun _ _ => 0, fun _ _ => 0, fun _ => pg, fun a => rr (((List.range 16).find? (fun p' => decide (pg p' = a))).getD 0), ⟨⟨hnf _, z9x⟩, tx _ _ (o7 _ _ f4n) (by simp [tag_I]), ⟨_, z9s, fun j hj => by simp [th0]⟩, ⟨_, z9r⟩, fun c hc ht => ?_, fun c hc ht p hp => ?_, ⟨rfl, hb, fun _ _ => hnf _, fun c k hc ht hk => ⟨?_, hnf _⟩, fun c c' k k' hc hc' ht ht' hk hk' z => ?_, fun c c' p p' hc hc' ht ht' hp hp' z => w6 p p' hp hp' z, fun c c' p p' hc hc' ht ht' hp hp' z => ?_⟩, ⟨?_, hnf _, fun a z => absurd z (hnf a)⟩, ki⟩, fun a X e n => o9 _ _ (o7 _ _ (f4o a X e n)) n⟩
  · have := c0 c ht
    subst this
    exact ⟨tx _ _ w1 (by simp [tag_O]), ⟨g, tx _ _ w2 (by simp [tag_Q]), fun p hp => (w5 p hp).1⟩, tx _ _ w3 (by simp [tag_I]), tx _ _ w4 (by simp [tag_I])⟩
  · obtain ⟨v1, v2, v3⟩ := w5 p hp
    rw [h00]
    refine ⟨⟨?_, fun _ => none, ?_, fun i hi => ⟨fun _ => rfl, fun v hv => ?_⟩⟩, fun v hv => ?_, by simp [L0], by simp [L0], hnf _, hnf _⟩
    · simp only [rwp p hp]; exact tx _ _ v2 (by simp [tag_O])
    · simp only [rwp p hp]; exact tx _ _ v3 (by simp [tag_Q])
    · simp only [L0] at hv
      match i, hv with
      | 0, hv => cases hv
      | 1, hv => cases hv
      | 2, hv => cases hv
      | 3, hv => cases hv
    · simp [L0] at hv
  · have := c0 c ht
    subst this
    have f6 : va_up h4 q (some (xO 2 [.int 0, .null, .null, .null, .int 0])) nn = some (xI K 8 (fun _ => 0)) := by rw [up_n (ne_fresh f4n hq)]; exact f4n
    simp only [if_neg (show (0 : Nat) ≠ 7 by decide), if_true]
    match k, hk with
    | 0, _ => exact (ne_fresh f4n hq).symm
    | 1, _ => exact (ne_fresh f4n hb1h).symm
    | 2, _ => exact (ne_fresh f4n hb2h).symm
    | 3, _ => exact (ne_fresh f4n hb3h).symm
  · have h1 := c0 c ht
    have h2 := c0 c' ht'
    subst h1
    subst h2
    simp only [if_neg (show (0 : Nat) ≠ 7 by decide)] at z
    exact ⟨rfl, adi k k' hk hk' z⟩
  · simp only [rwp p hp, rwp p' hp'] at z
    rw [w7 p p' hp hp' z]
  · have nx : K.2.2.2 ≠ x := ne_tag he.1 hx (by simp [tag_O, tag_J])
    exact o9 _ _ (o7 _ _ (f4o _ _ he.1 nx)) nx
end Obj
