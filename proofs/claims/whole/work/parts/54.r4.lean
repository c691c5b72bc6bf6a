/-! ===== class and reference side by side: states, copies ===== -/
section Rel
variable {o o' : OV} {nm : Nat → Int32} {th : Nat → Bool} {nu : Nat → Int32} {sc : Nat → Nat} {kd ty kd' ty' : Nat → Nat → Int32} {pa pa' : Nat → Nat → Nat} {Lp Lp' : Nat → List (Option EV)} {I I' : MI} {L L' : ML} {N : Nat → Nat} {g : Nat}
/-- another key or span at hand -/
theorem Rel2.hd {hk : Int32} {k : Int64} {sp : Int32} (r : Rel2 o nm th nu sc kd ty pa Lp I L N g) (hg : g + 1 < 2 ^ 20) (h : ∀ f, f ≠ 0 → f ≠ 19 → f ≠ 21 → f ≠ 22 → I' f = I f) (hL : ∀ f, f ≠ 20 → L' f = L f) (h19 : I' 19 0 = hk) (h20 : L' 20 0 = k) (h21 : I' 21 0 = sp) (h01 : hk = nI 0 ∨ hk = nI 1) : Rel2 (o.1, o.2.1, hk, k, sp) nm th nu sc kd ty pa Lp I' L' N (g + 1) := by
  obtain ⟨r1, r2, r3, r4, r5, r6, r7, ⟨a, b1, b2, b3, b4⟩, ⟨q, q1, q2, q3⟩, r10, r11⟩ := r
  have sE : ∀ e, sameE I L I' L' e := fun e => ⟨by rw [h 7 (by decide) (by decide) (by decide) (by decide)], by rw [hL 8 (by decide)], by rw [h 9 (by decide) (by decide) (by decide) (by decide)], by rw [h 10 (by decide) (by decide) (by decide) (by decide)], fun i _ => ⟨by rw [hL 11 (by decide)], by rw [hL 12 (by decide)]⟩⟩
  have h3 : I' 3 = I 3 := h 3 (by decide) (by decide) (by decide) (by decide)
  refine ⟨?_, ?_, ?_, ⟨?_, ?_, h19, h20, h21, h01⟩, fun c hc ht => ?_, ?_, r7, ⟨a, b1, by omega, b3, b4⟩, ⟨q, by rw [h 17 (by decide) (by decide) (by decide) (by decide)]; exact q1, by omega, by rw [h 13 (by decide) (by decide) (by decide) (by decide)]; exact q3⟩, r10, hg⟩
  · rw [h 1 (by decide) (by decide) (by decide) (by decide), h 2 (by decide) (by decide) (by decide) (by decide)]; exact r1
  · rw [h3, h 4 (by decide) (by decide) (by decide) (by decide)]; exact r2
  · rw [h 14 (by decide) (by decide) (by decide) (by decide), h 5 (by decide) (by decide) (by decide) (by decide), h 15 (by decide) (by decide) (by decide) (by decide)]; exact r3
  · rw [h 16 (by decide) (by decide) (by decide) (by decide)]; exact r4.1
  · rw [h 18 (by decide) (by decide) (by decide) (by decide)]; exact r4.2.1
  · obtain ⟨c1, c2, c3, c4, c5⟩ := r5 c hc ht
    have h8 : sc c ≤ 8 := Nat.le_trans (r2 c hc ht).1 r1.2.1
    rw [mLst_same h8 (fun i _ => sE _) (fun st _ => by rw [h3]) c3, h 6 (by decide) (by decide) (by decide) (by decide)]
    exact ⟨c1, c2, fun j hj => eOk_same (sE _).1 (sE _).2.2.2.1 (fun st _ => by rw [h3]) (c3 j hj), c4, c5⟩
  · rw [h 13 (by decide) (by decide) (by decide) (by decide)]; exact r6
theorem eOk_up {I : MI} {c n n' e : Nat} (h : n ≤ n') (ok : eOk I c n e) : eOk I c n' e := by
  obtain ⟨st, hst, z⟩ := ok
  exact ⟨st, by omega, z⟩
/-- a new state -/
theorem Rel2.nst {n : Int32} {b : Nat} {t : Int32} (r : Rel2 o nm th nu sc kd ty pa Lp I L N g) (hg : g + 1 < 2 ^ 20) (h8 : sc 0 < 8) (hb : b < 4) : Rel2 o (upd nm (sc 0) n) th nu (u0 sc (sc 0 + 1)) (u0 kd (upd (kd 0) (sc 0) (nI b))) (u0 ty (upd (ty 0) (sc 0) t)) pa Lp (setI (setI (setI (setI (z0 I) 2 (sc 0) n) 3 (sc 0) (nI b)) 4 (sc 0) t) 1 0 (nI (sc 0 + 1))) L N (g + 1) := by
  obtain ⟨⟨a1, a2, a3⟩, r2, r3, r4, r5, r6, r7, ⟨a, b1, b2, b3, b4⟩, ⟨q, q1, q2, q3⟩, r10, r11⟩ := r
  generalize hI' : setI (setI (setI (setI (z0 I) 2 (sc 0) n) 3 (sc 0) (nI b)) 4 (sc 0) t) 1 0 (nI (sc 0 + 1)) = I'
  have h : ∀ f, f ≠ 0 → f ≠ 1 → f ≠ 2 → f ≠ 3 → f ≠ 4 → I' f = I f := fun f h0 h1 h2 h3 h4 => by rw [← hI', setI_n h1, setI_n h4, setI_n h3, setI_n h2, z0_n h0]
  have h1 : I' 1 0 = nI (sc 0 + 1) := by rw [← hI', setI_f, upd_s]
  have h2 : I' 2 = upd (I 2) (sc 0) n := by rw [← hI', setI_n (by decide), setI_n (by decide), setI_n (by decide), setI_f, z0_n (by decide)]
  have h3 : I' 3 = upd (I 3) (sc 0) (nI b) := by rw [← hI', setI_n (by decide), setI_n (by decide), setI_f, setI_n (by decide), z0_n (by decide)]
  have h4 : I' 4 = upd (I 4) (sc 0) t := by rw [← hI', setI_n (by decide), setI_f, setI_n (by decide), setI_n (by decide), z0_n (by decide)]
  have s0 : ∀ {α : Type} (f : Nat → α) (w : α), u0 f w 0 = w := fun f w => rfl
  have sn : ∀ {α : Type} (f : Nat → α) (w : α) (c : Nat), c ≠ 0 → u0 f w c = f c := fun f w c hc => if_neg hc
  have sE : ∀ e, sameE I L I' L e := fun e => sameE.rf (h 7 (by decide) (by decide) (by decide) (by decide) (by decide)) (h 9 (by decide) (by decide) (by decide) (by decide) (by decide)) (h 10 (by decide) (by decide) (by decide) (by decide) (by decide))
  have k3 : ∀ c, c < 7 → th c = true → ∀ st, st < sc c → I' 3 (8 * c + st) = I 3 (8 * c + st) := fun c hc ht st hst => by
    have := (r2 c hc ht).1
    rw [h3, upd_n]
    by_cases y : c = 0
    · subst y; omega
    · omega
  refine ⟨⟨h1, by rw [s0]; omega, fun i hi => ?_⟩, fun c hc ht => ?_, fun c h0 hc => ?_, ?_, fun c hc ht => ?_, ?_, r7, ⟨a, b1, by omega, b3, b4⟩, ⟨q, by rw [h 17 (by decide) (by decide) (by decide) (by decide) (by decide)]; exact q1, by omega, by rw [h 13 (by decide) (by decide) (by decide) (by decide) (by decide)]; exact q3⟩, r10, hg⟩
  · rw [s0] at hi
    rw [h2]
    by_cases y : i = sc 0
    · subst y; rw [upd_s, upd_s]
    · rw [upd_n y, upd_n y]; exact a3 i (by omega)
  · obtain ⟨c1, c2⟩ := r2 c hc ht
    by_cases y : c = 0
    · subst y
      rw [s0, s0, s0]
      refine ⟨Nat.le_refl _, fun i hi => ?_⟩
      rw [h3, h4, Nat.mul_zero, Nat.zero_add]
      by_cases z : i = sc 0
      · subst z; rw [upd_s, upd_s, upd_s, upd_s]; exact ⟨rfl, rfl, b, hb, rfl⟩
      · rw [upd_n z, upd_n z, upd_n z, upd_n z]
        have := c2 i (by omega)
        simpa using this
    · rw [sn sc _ c y, s0, sn kd _ c y, sn ty _ c y]
      refine ⟨by omega, fun i hi => ?_⟩
      rw [h3, h4, upd_n (by omega), upd_n (by omega)]
      exact c2 i hi
  · rw [h 14 (by decide) (by decide) (by decide) (by decide) (by decide), h 5 (by decide) (by decide) (by decide) (by decide) (by decide), h 15 (by decide) (by decide) (by decide) (by decide) (by decide), sn sc _ c (by omega)]
    exact r3 c h0 hc
  · rw [h 16 (by decide) (by decide) (by decide) (by decide) (by decide), h 18 (by decide) (by decide) (by decide) (by decide) (by decide), h 19 (by decide) (by decide) (by decide) (by decide) (by decide), h 21 (by decide) (by decide) (by decide) (by decide) (by decide)]; exact r4
  · obtain ⟨c1, c2, c3, c4, c5⟩ := r5 c hc ht
    have h8' : sc c ≤ 8 := Nat.le_trans (r2 c hc ht).1 a2
    rw [mLst_same h8' (fun i _ => sE _) (k3 c hc ht) c3, h 6 (by decide) (by decide) (by decide) (by decide) (by decide)]
    refine ⟨c1, c2, fun j hj => eOk_up (n := sc c) ?_ (eOk_same (sE _).1 (sE _).2.2.2.1 (k3 c hc ht) (c3 j hj)), c4, c5⟩
    by_cases y : c = 0
    · subst y; rw [s0]; omega
    · rw [sn sc _ c y]; omega
  · rw [h 13 (by decide) (by decide) (by decide) (by decide) (by decide)]; exact r6
/-- a copy of copy f lies at copy t -/
theorem mLst_copy {f t n s : Nat} (h8 : s ≤ 8) (hX : ∀ j, j < n → sameX I L (150 * f + j) I' L' (150 * t + j)) (h3 : ∀ st, st < s → I' 3 (8 * t + st) = I 3 (8 * f + st)) (ok : ∀ j, j < n → eOk I f s (150 * f + j)) : mLst I' L' t n = mLst I L f n ∧ ∀ j, j < n → eOk I' t s (150 * t + j) :=
  ⟨map_range_congr fun j hj => mEv_copy h8 (hX j hj) h3 (ok j hj), fun j hj => eOk_copy (hX j hj).1 (hX j hj).2.2.2.1 h3 (ok j hj)⟩
theorem ca_in {f t n : Nat} (h7 : I' 7 = shf (I 7) (150 * f) (150 * t) n) (h9 : I' 9 = shf (I 9) (150 * f) (150 * t) n) (h10 : I' 10 = shf (I 10) (150 * f) (150 * t) n) {j : Nat} (hj : j < n) : sameX I L (150 * f + j) I' (caL L f t n) (150 * t + j) := by
  refine ⟨by rw [h7, shf_in ⟨by omega, by omega⟩]; congr 1; omega, by rw [caL_8, shf_in ⟨by omega, by omega⟩]; congr 1; omega, by rw [h9, shf_in ⟨by omega, by omega⟩]; congr 1; omega, by rw [h10, shf_in ⟨by omega, by omega⟩]; congr 1; omega, fun i hi => ⟨?_, ?_⟩⟩
  · rw [caL_11, shf_in ⟨by omega, by omega⟩]; congr 1; omega
  · rw [caL_12, shf_in ⟨by omega, by omega⟩]; congr 1; omega
theorem ca_out {f t n e : Nat} (h7 : I' 7 = shf (I 7) (150 * f) (150 * t) n) (h9 : I' 9 = shf (I 9) (150 * f) (150 * t) n) (h10 : I' 10 = shf (I 10) (150 * f) (150 * t) n) (he : ¬ (150 * t ≤ e ∧ e < 150 * t + n)) : sameE I L I' (caL L f t n) e := by
  refine ⟨by rw [h7, shf_out he], by rw [caL_8, shf_out he], by rw [h9, shf_out he], by rw [h10, shf_out he], fun i hi => ⟨?_, ?_⟩⟩
  · rw [caL_11, shf_out (by omega)]
  · rw [caL_12, shf_out (by omega)]
/-- a snapshot -/
theorem Rel2.sn {j : Nat} {kf tf : Nat → Int32} (r : Rel2 o nm th nu sc kd ty pa Lp I L N g) (hg : g + 1 < 2 ^ 20) (hj : j < 6) (hf : th (j + 1) = false) (hk : ∀ s, s < 8 → kf s = kd 0 s ∧ tf s = ty 0 s) : Rel2 (o.1 + nI 1, o.2) nm (va_up th (j + 1) true) (va_up nu (j + 1) o.1) (va_up sc (j + 1) (sc 0)) (va_up kd (j + 1) kf) (va_up ty (j + 1) tf) (va_up pa (j + 1) (pa 0)) Lp (snI I (j + 1) (N 0) (sc 0)) (caL L 0 (j + 1) (N 0)) (va_up N (j + 1) (N 0)) (g + 1) := by
  obtain ⟨⟨a1, a2, a3⟩, r2, r3, ⟨s1, s2, s3, s4, s5, s6⟩, r5, r6, r7, ⟨a, b1, b2, b3, b4⟩, ⟨q, q1, q2, q3⟩, r10, r11⟩ := r
  generalize hI' : snI I (j + 1) (N 0) (sc 0) = I'
  have h : ∀ f, f ≠ 0 → f ≠ 3 → f ≠ 4 → f ≠ 5 → f ≠ 6 → f ≠ 7 → f ≠ 9 → f ≠ 10 → f ≠ 13 → f ≠ 14 → f ≠ 15 → f ≠ 16 → I' f = I f := fun f h0 h3 h4 h5 h6 h7 h9 h10 h13 h14 h15 h16 => by
    rw [← hI', snI, setI_n h16, setI_n h15, setI_n h14, setI_n h5, ktI_n h3 h4, caI_n h6 h7 h9 h10 h13, z0_n h0]
  have h3 : I' 3 = shf (I 3) (8 * 0) (8 * (j + 1)) (sc 0) := by rw [← hI', snI, setI_n (by decide), setI_n (by decide), setI_n (by decide), setI_n (by decide), ktI_3, caI_n (by decide) (by decide) (by decide) (by decide) (by decide), z0_n (by decide)]
  have h4 : I' 4 = shf (I 4) (8 * 0) (8 * (j + 1)) (sc 0) := by rw [← hI', snI, setI_n (by decide), setI_n (by decide), setI_n (by decide), setI_n (by decide), ktI_4, caI_n (by decide) (by decide) (by decide) (by decide) (by decide), z0_n (by decide)]
  have h5 : I' 5 = upd (I 5) (j + 1) (nI (sc 0)) := by rw [← hI', snI, setI_n (by decide), setI_n (by decide), setI_n (by decide), setI_f, ktI_n (by decide) (by decide), caI_n (by decide) (by decide) (by decide) (by decide) (by decide), z0_n (by decide)]
  have h6 : I' 6 = upd (I 6) (j + 1) (I 6 0) := by rw [← hI', snI, setI_n (by decide), setI_n (by decide), setI_n (by decide), setI_n (by decide), ktI_n (by decide) (by decide), caI_6, z0_n (by decide)]
  have h7 : I' 7 = shf (I 7) (150 * 0) (150 * (j + 1)) (N 0) := by rw [← hI', snI, setI_n (by decide), setI_n (by decide), setI_n (by decide), setI_n (by decide), ktI_n (by decide) (by decide), caI_7, z0_n (by decide)]
  have h9 : I' 9 = shf (I 9) (150 * 0) (150 * (j + 1)) (N 0) := by rw [← hI', snI, setI_n (by decide), setI_n (by decide), setI_n (by decide), setI_n (by decide), ktI_n (by decide) (by decide), caI_9, z0_n (by decide)]
  have h10 : I' 10 = shf (I 10) (150 * 0) (150 * (j + 1)) (N 0) := by rw [← hI', snI, setI_n (by decide), setI_n (by decide), setI_n (by decide), setI_n (by decide), ktI_n (by decide) (by decide), caI_10, z0_n (by decide)]
  have h13 : I' 13 = shf (I 13) (16 * 0) (16 * (j + 1)) 16 := by rw [← hI', snI, setI_n (by decide), setI_n (by decide), setI_n (by decide), setI_n (by decide), ktI_n (by decide) (by decide), caI_13, z0_n (by decide)]
  have h14 : I' 14 = upd (I 14) (j + 1) (nI 1) := by rw [← hI', snI, setI_n (by decide), setI_n (by decide), setI_f, setI_n (by decide), ktI_n (by decide) (by decide), caI_n (by decide) (by decide) (by decide) (by decide) (by decide), z0_n (by decide)]
  have h15 : I' 15 = upd (I 15) (j + 1) (I 16 0) := by rw [← hI', snI, setI_n (by decide), setI_f, setI_n (by decide), setI_n (by decide), ktI_n (by decide) (by decide), caI_n (by decide) (by decide) (by decide) (by decide) (by decide), z0_n (by decide)]
  have h16 : I' 16 0 = I 16 0 + nI 1 := by rw [← hI', snI, setI_f, upd_s]
  clear hI'
  have i1 : I' 1 = I 1 := h 1 (by decide) (by decide) (by decide) (by decide) (by decide) (by decide) (by decide) (by decide) (by decide) (by decide) (by decide) (by decide)
  have i2 : I' 2 = I 2 := h 2 (by decide) (by decide) (by decide) (by decide) (by decide) (by decide) (by decide) (by decide) (by decide) (by decide) (by decide) (by decide)
  have i17 : I' 17 = I 17 := h 17 (by decide) (by decide) (by decide) (by decide) (by decide) (by decide) (by decide) (by decide) (by decide) (by decide) (by decide) (by decide)
  have i18 : I' 18 = I 18 := h 18 (by decide) (by decide) (by decide) (by decide) (by decide) (by decide) (by decide) (by decide) (by decide) (by decide) (by decide) (by decide)
  have i19 : I' 19 = I 19 := h 19 (by decide) (by decide) (by decide) (by decide) (by decide) (by decide) (by decide) (by decide) (by decide) (by decide) (by decide) (by decide)
  have i21 : I' 21 = I 21 := h 21 (by decide) (by decide) (by decide) (by decide) (by decide) (by decide) (by decide) (by decide) (by decide) (by decide) (by decide) (by decide)
  have l20 : caL L 0 (j + 1) (N 0) 20 = L 20 := caL_n (by decide) (by decide) (by decide)
  obtain ⟨n1, n2, n3, n4, n5⟩ := r5 0 (by decide) r10
  have p13 : ∀ c p, p < 16 → c ≠ j + 1 → I' 13 (16 * c + p) = I 13 (16 * c + p) := fun c p hp hc => by rw [h13, shf_out (by omega)]
  have p13n : ∀ p, p < 16 → I' 13 (16 * (j + 1) + p) = I 13 (16 * 0 + p) := fun p hp => by rw [h13, shf_in ⟨by omega, by omega⟩]; congr 1; omega
  have thv : ∀ c, c ≠ j + 1 → va_up th (j + 1) true c = th c := fun c hc => up_n hc
  refine ⟨⟨by rw [i1, up_n (by omega)]; exact a1, by rw [up_n (by omega)]; exact a2, fun i hi => by rw [up_n (by omega)] at hi; rw [i2]; exact a3 i hi⟩, fun c hc ht => ?_, fun c h0 hc => ?_, ⟨by rw [h16, s1], by rw [i18]; exact s2, by rw [i19]; exact s3, by rw [l20]; exact s4, by rw [i21]; exact s5, s6⟩, fun c hc ht => ?_, fun c c' p hc hc' ht ht' hp => ?_, fun c hc ht p hp w hw => ?_, ⟨a + 1, by rw [b1, nI_sub1], by omega, fun c h0 hc ht => ?_, fun c c' h0 hc h0' hc' ht ht' e => ?_⟩, ⟨q, by rw [i17]; exact q1, by omega, fun i hi => ?_⟩, by rw [up_n (by omega)]; exact r10, hg⟩
  · rw [up_n (show (0 : Nat) ≠ j + 1 by omega)]
    by_cases y : c = j + 1
    · subst y
      rw [up_s, up_s, up_s]
      refine ⟨Nat.le_refl _, fun i hi => ?_⟩
      have := (r2 0 (by decide) r10).2 i hi
      rw [h3, h4, shf_in ⟨by omega, by omega⟩, shf_in ⟨by omega, by omega⟩, (hk i (by omega)).1, (hk i (by omega)).2, show 8 * 0 + (8 * (j + 1) + i - 8 * (j + 1)) = 8 * 0 + i by omega]
      exact this
    · rw [thv c y] at ht
      rw [up_n y, up_n y, up_n y]
      obtain ⟨c1, c2⟩ := r2 c hc ht
      refine ⟨c1, fun i hi => ?_⟩
      rw [h3, h4, shf_out (by omega), shf_out (by omega)]
      exact c2 i hi
  · by_cases y : c = j + 1
    · subst y
      rw [h14, h5, h15, up_s, up_s, up_s, upd_s, upd_s, upd_s]
      exact ⟨⟨fun z => absurd z nI01, fun z => by cases z⟩, fun _ => ⟨rfl, s1⟩⟩
    · rw [h14, h5, h15, up_n y, up_n y, up_n y, upd_n y, upd_n y, upd_n y]
      exact r3 c h0 hc
  · by_cases y : c = j + 1
    · subst y
      rw [up_s, up_s, up_s]
      obtain ⟨m1, m2⟩ := mLst_copy (I := I) (L := L) (I' := I') (L' := caL L 0 (j + 1) (N 0)) (f := 0) (t := j + 1) a2 (fun i hi => ca_in h7 h9 h10 hi) (fun st hst => by rw [h3, shf_in ⟨by omega, by omega⟩]; congr 1; omega) n3
      rw [m1]
      exact ⟨by rw [h6, upd_s]; exact n1, n2, m2, n4, n5⟩
    · rw [thv c y] at ht
      rw [up_n y, up_n y, up_n y]
      obtain ⟨c1, c2, c3, c4, c5⟩ := r5 c hc ht
      have h8' : sc c ≤ 8 := Nat.le_trans (r2 c hc ht).1 a2
      have sE : ∀ i, i < N c → sameE I L I' (caL L 0 (j + 1) (N 0)) (150 * c + i) := fun i hi => ca_out h7 h9 h10 (by omega)
      have k3 : ∀ st, st < sc c → I' 3 (8 * c + st) = I 3 (8 * c + st) := fun st hst => by rw [h3, shf_out (by omega)]
      rw [mLst_same h8' sE k3 c3, h6, upd_n y]
      exact ⟨c1, c2, fun i hi => eOk_same (sE i hi).1 (sE i hi).2.2.2.1 k3 (c3 i hi), c4, c5⟩
  · have key : ∀ c, c < 7 → va_up th (j + 1) true c = true → ∃ d, d < 7 ∧ th d = true ∧ va_up pa (j + 1) (pa 0) c = pa d ∧ I' 13 (16 * c + p) = I 13 (16 * d + p) := fun c hc ht => by
      by_cases y : c = j + 1
      · subst y; exact ⟨0, by decide, r10, up_s _ _ _, p13n p hp⟩
      · rw [thv c y] at ht; exact ⟨c, hc, ht, up_n y, p13 c p hp y⟩
    obtain ⟨d, d1, d2, d3, d4⟩ := key c hc ht
    obtain ⟨d', d1', d2', d3', d4'⟩ := key c' hc' ht'
    rw [d3, d3', d4, d4']
    exact r6 d d' p d1 d1' d2 d2' hp
  · by_cases y : c = j + 1
    · subst y; rw [up_s] at hw; exact r7 0 (by decide) r10 p hp w hw
    · rw [thv c y] at ht; rw [up_n y] at hw; exact r7 c hc ht p hp w hw
  · by_cases y : c = j + 1
    · subst y; rw [up_s]; exact ⟨a, by omega, b1⟩
    · rw [thv c y] at ht; rw [up_n y]
      obtain ⟨v, v1, v2⟩ := b3 c h0 hc ht
      exact ⟨v, by omega, v2⟩
  · by_cases y : c = j + 1
    · by_cases z : c' = j + 1
      · omega
      · rw [thv c' z] at ht'
        rw [y, up_s, up_n z, b1] at e
        obtain ⟨v, v1, v2⟩ := b3 c' h0' hc' ht'
        rw [v2] at e
        have := (nI_eq (by omega) (by omega)).mp e
        omega
    · rw [thv c y] at ht
      by_cases z : c' = j + 1
      · rw [z, up_s, up_n y, b1] at e
        obtain ⟨v, v1, v2⟩ := b3 c h0 hc ht
        rw [v2] at e
        have := (nI_eq (by omega) (by omega)).mp e
        omega
      · rw [thv c' z] at ht'
        rw [up_n y, up_n z] at e
        exact b4 c c' h0 hc h0' hc' ht ht' e
  · rw [h13]
    by_cases y : 16 * (j + 1) ≤ i ∧ i < 16 * (j + 1) + 16
    · rw [shf_in y]; exact q3 _ (by omega)
    · rw [shf_out y]; exact q3 i hi
end Rel
