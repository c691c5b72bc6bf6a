/-! ===== class and reference side by side: what they keep ===== -/
def Rel2 (o : OV) (nm : Nat → Int32) (th : Nat → Bool) (nu : Nat → Int32) (sc : Nat → Nat) (kd ty : Nat → Nat → Int32) (pa : Nat → Nat → Nat) (Lp : Nat → List (Option EV)) (I : MI) (L : ML) (N : Nat → Nat) (g : Nat) : Prop :=
  (I 1 0 = nI (sc 0) ∧ sc 0 ≤ 8 ∧ ∀ i, i < sc 0 → I 2 i = nm i) ∧
  (∀ c, c < 7 → th c = true → sc c ≤ sc 0 ∧ ∀ i, i < sc c → I 3 (8 * c + i) = kd c i ∧ I 4 (8 * c + i) = ty c i ∧ ∃ k, k < 4 ∧ kd c i = nI k) ∧
  (∀ c, 0 < c → c < 7 → (I 14 c = nI 0 ↔ th c = false) ∧ (th c = true → I 5 c = nI (sc c) ∧ I 15 c = nu c)) ∧
  (I 16 0 = o.1 ∧ I 18 0 = o.2.1 ∧ I 19 0 = o.2.2.1 ∧ L 20 0 = o.2.2.2.1 ∧ I 21 0 = o.2.2.2.2 ∧ (o.2.2.1 = nI 0 ∨ o.2.2.1 = nI 1)) ∧
  (∀ c, c < 7 → th c = true → I 6 c = nI (N c) ∧ N c ≤ 150 ∧ (∀ j, j < N c → eOk I c (sc c) (150 * c + j)) ∧ ((mLst I L c (N c)).map kyE).Nodup ∧ (eP Lp (pa c) 16).Perm (mLst I L c (N c))) ∧
  (∀ c c' p, c < 7 → c' < 7 → th c = true → th c' = true → p < 16 → (pa c p = pa c' p ↔ I 13 (16 * c + p) = I 13 (16 * c' + p))) ∧
  PI th pa Lp ∧
  (∃ a, o.1 = nI a ∧ a ≤ g ∧ (∀ c, 0 < c → c < 7 → th c = true → ∃ q, q < a ∧ nu c = nI q) ∧ ∀ c c', 0 < c → c < 7 → 0 < c' → c' < 7 → th c = true → th c' = true → nu c = nu c' → c = c') ∧
  (∃ q, I 17 0 = nI q ∧ q ≤ 16 * (g + 1) ∧ ∀ j, j < 112 → ∃ r, r ≤ q ∧ I 13 j = nI r) ∧ th 0 = true ∧ g < 2 ^ 20
section Rel
variable {o o' : OV} {nm : Nat → Int32} {th : Nat → Bool} {nu : Nat → Int32} {sc : Nat → Nat} {kd ty kd' ty' : Nat → Nat → Int32} {pa pa' : Nat → Nat → Nat} {Lp Lp' : Nat → List (Option EV)} {I I' : MI} {L L' : ML} {N : Nat → Nat} {g : Nat}
theorem Rel2.pb (r : Rel2 o nm th nu sc kd ty pa Lp I L N g) : PB I := by
  obtain ⟨r1, r2, r3, r4, r5, r6, r7, r8, ⟨q, q1, q2, q3⟩, r10, r11⟩ := r
  exact ⟨q, q1, by omega, q3⟩
theorem Rel2.mv (r : Rel2 o nm th nu sc kd ty pa Lp I L N g) : MV I L (sc 0) (N 0) := by
  have pb := r.pb
  obtain ⟨⟨a1, a2, a3⟩, r2, r3, r4, r5, r6, r7, r8, r9, r10, r11⟩ := r
  obtain ⟨b1, b2, b3, b4, b5⟩ := r5 0 (by decide) r10
  refine ⟨a1, a2, b1, b2, fun j hj => by simpa using b3 j hj, b4, pb, fun i hi => ?_⟩
  obtain ⟨h1, h2, k, hk, h3⟩ := (r2 0 (by decide) r10).2 i hi
  exact ⟨k, hk, by rw [← h3, ← h1]; simp⟩
theorem inj_of_nodup {M : List EV} (hnd : (M.map kyE).Nodup) {v w : EV} (hv : v ∈ M) (hw : w ∈ M) (e : kyE v = kyE w) : v = w := by
  induction M with
  | nil => cases hv
  | cons a M ih =>
    rw [List.map_cons, List.nodup_cons] at hnd
    rcases List.mem_cons.mp hv with h1 | h1
    · rcases List.mem_cons.mp hw with h2 | h2
      · rw [h1, h2]
      · exact absurd (List.mem_map.mpr ⟨w, h2, by rw [← e, h1]⟩) hnd.1
    · rcases List.mem_cons.mp hw with h2 | h2
      · exact absurd (List.mem_map.mpr ⟨v, h1, by rw [e, h2]⟩) hnd.1
      · exact ih hnd.2 h1 h2
theorem lk_perm {s : Int32} {k : Int64} {sp : Int32} {E M : List EV} (hp : E.Perm M) (hnd : (M.map kyE).Nodup) : lk s k sp E = lk s k sp M := by
  unfold lk
  congr 1
  cases hE : E.find? (at3 s k sp) with
  | none =>
    symm
    rw [List.find?_eq_none] at hE ⊢
    exact fun x hx => hE x (hp.mem_iff.mpr hx)
  | some v =>
    cases hM : M.find? (at3 s k sp) with
    | none =>
      have := List.find?_eq_none.mp hM v (hp.mem_iff.mp (List.mem_of_find?_eq_some hE))
      exact absurd (List.find?_some hE) this
    | some w =>
      congr 1
      have k1 := at3_ky.mp (List.find?_some hE)
      have k2 := at3_ky.mp (List.find?_some hM)
      exact inj_of_nodup hnd (hp.mem_iff.mp (List.mem_of_find?_eq_some hE)) (List.mem_of_find?_eq_some hM) (k1.trans k2.symm)
theorem Rel2.lkE (r : Rel2 o nm th nu sc kd ty pa Lp I L N g) {c : Nat} (hc : c < 7) (ht : th c = true) (s : Int32) (k : Int64) (sp : Int32) : lk s k sp (eP Lp (pa c) 16) = lk s k sp (mLst I L c (N c)) := by
  obtain ⟨b1, b2, b3, b4, b5⟩ := r.2.2.2.2.1 c hc ht
  exact lk_perm b5 b4
theorem Rel2.len (r : Rel2 o nm th nu sc kd ty pa Lp I L N g) {c : Nat} (hc : c < 7) (ht : th c = true) : (eP Lp (pa c) 16).length = N c := by
  obtain ⟨b1, b2, b3, b4, b5⟩ := r.2.2.2.2.1 c hc ht
  rw [b5.length_eq, mLst_len]
theorem Rel2.nd (r : Rel2 o nm th nu sc kd ty pa Lp I L N g) {c : Nat} (hc : c < 7) (ht : th c = true) : ((eP Lp (pa c) 16).map kyE).Nodup := by
  obtain ⟨b1, b2, b3, b4, b5⟩ := r.2.2.2.2.1 c hc ht
  exact (b5.map kyE).nodup_iff.mpr b4
theorem Rel2.sh (r : Rel2 o nm th nu sc kd ty pa Lp I L N g) {p : Nat} (hp : p < 16) : shB I p = decide (0 < hdc th pa p (pa 0 p)) := by
  obtain ⟨r1, r2, r3, r4, r5, r6, r7, r8, r9, r10, r11⟩ := r
  rw [Bool.eq_iff_iff, decide_eq_true_eq]
  unfold shB hdc
  rw [List.any_eq_true, List.countP_pos_iff]
  refine exists_congr fun j => and_congr_right fun hj => ?_
  have hj6 := List.mem_range.mp hj
  simp only [Bool.and_eq_true, Bool.not_eq_true', decide_eq_false_iff_not, decide_eq_true_eq]
  have h14 := (r3 (j + 1) (by omega) (by omega)).1
  constructor
  · rintro ⟨z1, z2⟩
    have ht : th (j + 1) = true := by
      cases h : th (j + 1) with
      | true => rfl
      | false => exact absurd (h14.mpr h) z1
    refine ⟨ht, (r6 (j + 1) 0 p (by omega) (by decide) ht r10 hp).mpr ?_⟩
    rw [z2]; simp
  · rintro ⟨z1, z2⟩
    refine ⟨fun z => by (rw [h14.mp z] at z1; cases z1), ?_⟩
    have := (r6 (j + 1) 0 p (by omega) (by decide) z1 r10 hp).mp z2
    rw [this]; simp
theorem Tq.tm {p : Nat} (hp : p < 16) (t : Tq th p o pa o' pa') : TMj th (fun p' => decide (p' = p)) 16 o pa o' pa' := by
  have cut := countP_cut (n := 16) hp (f := fun p' => decide (p' = p) && decide (0 < hdc th pa p' (pa 0 p'))) (g := fun _ => false) (fun i hi n => by simp [n])
  simp only [List.countP_false, Function.const_apply, decide_true, Bool.true_and, Bool.false_eq_true, if_false, Nat.add_zero, Nat.zero_add] at cut
  rcases t with ⟨h0, rfl, rfl⟩ | ⟨h0, rfl, q, hq, rfl⟩
  · rw [if_neg (by simp [h0])] at cut
    refine ⟨?_, fun _ _ => rfl, fun p' hp' => ⟨fun z => ?_, fun _ => rfl⟩⟩
    · rw [cut, nI_0r]
    · have := of_decide_eq_true z.2.1
      subst this
      omega
  · rw [if_pos (by simpa using h0)] at cut
    refine ⟨?_, fun c hc => ?_, fun p' hp' => ⟨fun z => ?_, fun z => ?_⟩⟩
    · rw [cut]
    · funext p'
      unfold pu
      rw [if_neg (fun z => hc z.1)]
    · have := of_decide_eq_true z.2.1
      subst this
      unfold pu
      rw [if_pos ⟨rfl, rfl⟩]; exact hq
    · unfold pu
      rw [if_neg]
      rintro ⟨-, rfl⟩
      exact z ⟨hp, by simp, h0⟩
/-- the pages behind a sweep -/
theorem Rel2.pgs {T : Nat → Bool} (r : Rel2 o nm th nu sc kd ty pa Lp I L N g) (t : TMj th T 16 o pa o' pa') (u : PgM T I I') :
    I' 18 0 = o'.2.1 ∧ (∀ c c' p, c < 7 → c' < 7 → th c = true → th c' = true → p < 16 → (pa' c p = pa' c' p ↔ I' 13 (16 * c + p) = I' 13 (16 * c' + p))) ∧ ∃ q, I' 17 0 = nI q ∧ q ≤ 16 * (g + 2) ∧ ∀ j, j < 112 → ∃ r, r ≤ q ∧ I' 13 j = nI r := by
  have hsh := fun p hp => r.sh (p := p) hp
  obtain ⟨r1, r2, r3, ⟨s1, s2, s3⟩, r5, r6, r7, r8, ⟨q, q1, q2, q3⟩, r10, r11⟩ := r
  obtain ⟨t1, t2, t3⟩ := t
  obtain ⟨u1, u2, u3, u4⟩ := u
  have ec : (List.range 16).countP (fun p => T p && shB I p) = (List.range 16).countP (fun p => T p && decide (0 < hdc th pa p (pa 0 p))) := List.countP_congr fun p hp => by rw [hsh p (List.mem_range.mp hp)]
  have c16 := countP_le16 (fun p => T p && shB I p)
  have hnew : ∀ p, p < 16 → ∀ c', 0 < c' → c' < 7 → th c' = true → (pa' 0 p = pa' c' p ↔ I' 13 p = I' 13 (16 * c' + p)) := by
    intro p hp c' h0 h7 hth
    rw [t2 c' (by omega), u3 (16 * c' + p) (by omega)]
    by_cases y : T p = true ∧ shB I p = true
    · obtain ⟨n, n1, n2, n3⟩ := (u4 p hp).1 y
      have hnP := (t3 p hp).1 ⟨hp, y.1, by have := y.2; rw [hsh p hp] at this; exact of_decide_eq_true this⟩
      refine ⟨fun z => absurd z.symm (hnP c' p h7 hth hp), fun z => ?_⟩
      obtain ⟨w, w1, w2⟩ := q3 (16 * c' + p) (by omega)
      rw [n3, q1, nI_add, w2] at z
      have := (nI_eq (by omega) (by omega)).mp z
      omega
    · rw [(u4 p hp).2 y, (t3 p hp).2 (fun z => y ⟨z.2.1, by rw [hsh p hp]; exact decide_eq_true z.2.2⟩)]
      have := r6 0 c' p (by decide) h7 r10 hth hp
      simpa using this
  refine ⟨?_, fun c c' p hc hc' ht ht' hp => ?_, q + (List.range 16).countP (fun p => T p && shB I p), by rw [u2, q1, nI_add], by omega, fun j hj => ?_⟩
  · rw [u1, t1, s2, ec]
  · by_cases y : c = 0
    · subst y
      by_cases z : c' = 0
      · subst z; simp
      · have := hnew p hp c' (by omega) hc' ht'
        simpa using this
    · by_cases z : c' = 0
      · subst z
        have := hnew p hp c (by omega) hc ht
        simp only [Nat.mul_zero, Nat.zero_add]
        exact ⟨fun w => (this.mp w.symm).symm, fun w => (this.mpr w.symm).symm⟩
      · rw [t2 c y, t2 c' z, u3 (16 * c + p) (by omega), u3 (16 * c' + p) (by omega)]
        exact r6 c c' p hc hc' ht ht' hp
  · by_cases y : 16 ≤ j
    · rw [u3 j y]
      obtain ⟨w, w1, w2⟩ := q3 j hj
      exact ⟨w, by omega, w2⟩
    · by_cases z : T j = true ∧ shB I j = true
      · obtain ⟨n, n1, n2, n3⟩ := (u4 j (by omega)).1 z
        exact ⟨q + n, by omega, by rw [n3, q1, nI_add]⟩
      · rw [(u4 j (by omega)).2 z]
        obtain ⟨w, w1, w2⟩ := q3 j hj
        exact ⟨w, by omega, w2⟩
/-- the entries of now are others -/
theorem Rel2.sweep {T : Nat → Bool} {n' : Nat} (r : Rel2 o nm th nu sc kd ty pa Lp I L N g) (hg : g + 1 < 2 ^ 20) (t : TMj th T 16 o pa o' pa') (u : PgM T I I') (hI : ∀ f, f ≠ 0 → f ≠ 3 → f ≠ 4 → f ≠ 6 → f ≠ 7 → f ≠ 9 → f ≠ 10 → f ≠ 13 → f ≠ 17 → f ≠ 18 → f ≠ 22 → I' f = I f) (hL : L' 20 = L 20) (h6 : ∀ c, c ≠ 0 → I' 6 c = I 6 c) (hE : ∀ e, 150 ≤ e → sameE I L I' L' e)
    (h34 : ∀ c, 0 < c → ∀ i, i < 8 → I' 3 (8 * c + i) = I 3 (8 * c + i) ∧ I' 4 (8 * c + i) = I 4 (8 * c + i)) (hk : ∀ i, i < sc 0 → I' 3 i = kd' 0 i ∧ I' 4 i = ty' 0 i ∧ ∃ k, k < 4 ∧ kd' 0 i = nI k) (hkc : ∀ c, 0 < c → kd' c = kd c ∧ ty' c = ty c)
    (h60 : I' 6 0 = nI n') (hn : n' ≤ 150) (hok : ∀ j, j < n' → eOk I' 0 (sc 0) j) (hnd : ((mLst I' L' 0 n').map kyE).Nodup) (hp : (eP Lp' (pa' 0) 16).Perm (mLst I' L' 0 n')) (heP : ∀ c, 0 < c → c < 7 → th c = true → eP Lp' (pa' c) 16 = eP Lp (pa c) 16) (pi : PI th pa' Lp') :
    Rel2 o' nm th nu sc kd' ty' pa' Lp' I' L' (va_up N 0 n') (g + 1) := by
  obtain ⟨p1, p2, q, p3, p4, p5⟩ := r.pgs t u
  obtain ⟨⟨a1, a2, a3⟩, r2, r3, ⟨s1, s2, s3, s4, s5, s6⟩, r5, r6, r7, ⟨a, b1, b2, b3, b4⟩, r9, r10, r11⟩ := r
  have eo1 : o'.1 = o.1 := by rw [t.1]
  have eo2 : o'.2.2 = o.2.2 := by rw [t.1]
  refine ⟨⟨by rw [hI 1 (by decide) (by decide) (by decide) (by decide) (by decide) (by decide) (by decide) (by decide) (by decide) (by decide) (by decide)]; exact a1, a2, fun i hi => by rw [hI 2 (by decide) (by decide) (by decide) (by decide) (by decide) (by decide) (by decide) (by decide) (by decide) (by decide) (by decide)]; exact a3 i hi⟩, fun c hc ht => ?_, fun c h0 hc => ?_, ⟨?_, p1, ?_, ?_, ?_, ?_⟩, fun c hc ht => ?_, p2, pi, ⟨a, by rw [eo1]; exact b1, by omega, b3, b4⟩, ⟨q, p3, by omega, p5⟩, r10, hg⟩
  · obtain ⟨c1, c2⟩ := r2 c hc ht
    refine ⟨c1, fun i hi => ?_⟩
    by_cases y : c = 0
    · subst y
      have := hk i hi
      simpa using this
    · rw [(h34 c (by omega) i (by omega)).1, (h34 c (by omega) i (by omega)).2, (hkc c (by omega)).1, (hkc c (by omega)).2]
      exact c2 i hi
  · rw [hI 14 (by decide) (by decide) (by decide) (by decide) (by decide) (by decide) (by decide) (by decide) (by decide) (by decide) (by decide), hI 5 (by decide) (by decide) (by decide) (by decide) (by decide) (by decide) (by decide) (by decide) (by decide) (by decide) (by decide), hI 15 (by decide) (by decide) (by decide) (by decide) (by decide) (by decide) (by decide) (by decide) (by decide) (by decide) (by decide)]
    exact r3 c h0 hc
  · rw [hI 16 (by decide) (by decide) (by decide) (by decide) (by decide) (by decide) (by decide) (by decide) (by decide) (by decide) (by decide), eo1]; exact s1
  · rw [hI 19 (by decide) (by decide) (by decide) (by decide) (by decide) (by decide) (by decide) (by decide) (by decide) (by decide) (by decide), eo2]; exact s3
  · rw [hL, eo2]; exact s4
  · rw [hI 21 (by decide) (by decide) (by decide) (by decide) (by decide) (by decide) (by decide) (by decide) (by decide) (by decide) (by decide), eo2]; exact s5
  · rw [eo2]; exact s6
  · by_cases y : c = 0
    · subst y
      rw [up_s]
      exact ⟨h60, hn, fun j hj => by simpa using hok j hj, hnd, hp⟩
    · obtain ⟨c1, c2, c3, c4, c5⟩ := r5 c hc ht
      have hs8 : sc c ≤ 8 := Nat.le_trans (r2 c hc ht).1 a2
      have e : mLst I' L' c (N c) = mLst I L c (N c) := mLst_same hs8 (fun i _ => hE _ (by omega)) (fun st hst => (h34 c (by omega) st (by omega)).1) c3
      rw [up_n y, e, heP c (by omega) hc ht]
      exact ⟨by rw [h6 c y]; exact c1, c2, fun j hj => eOk_same (hE _ (by omega)).1 (hE _ (by omega)).2.2.2.1 (fun st hst => (h34 c (by omega) st (by omega)).1) (c3 j hj), c4, c5⟩
end Rel
