/-! ===== the class: sweeps over all pages ===== -/
/-- of the first j pages those of T are made ready to be changed -/
def TMj (th : Nat → Bool) (T : Nat → Bool) (j : Nat) (o : OV) (pa : Nat → Nat → Nat) (o' : OV) (pa' : Nat → Nat → Nat) : Prop :=
  o' = (o.1, o.2.1 + nI ((List.range j).countP (fun p => T p && decide (0 < hdc th pa p (pa 0 p)))), o.2.2) ∧ (∀ c, c ≠ 0 → pa' c = pa c) ∧
  ∀ p, p < 16 → (p < j ∧ T p = true ∧ 0 < hdc th pa p (pa 0 p) → nP th pa (pa' 0 p)) ∧ (¬ (p < j ∧ T p = true ∧ 0 < hdc th pa p (pa 0 p)) → pa' 0 p = pa 0 p)
theorem hdc_c {th : Nat → Bool} {pa pa' : Nat → Nat → Nat} (h : ∀ c, c ≠ 0 → pa' c = pa c) (p a : Nat) : hdc th pa' p a = hdc th pa p a := by
  unfold hdc
  congr 1
  funext j
  rw [h (j + 1) (by omega)]
theorem nI_0r (x : Int32) : x + nI 0 = x := by
  have : (nI 0 : Int32) = 0 := rfl
  rw [this, Int32.add_zero]
theorem TMj.zero {th : Nat → Bool} {T : Nat → Bool} {o : OV} {pa : Nat → Nat → Nat} : TMj th T 0 o pa o pa := by
  refine ⟨?_, fun _ _ => rfl, fun p _ => ⟨fun z => absurd z.1 (by omega), fun _ => rfl⟩⟩
  simp only [List.range_zero, List.countP_nil, nI_0r]
theorem TMj.skip {th : Nat → Bool} {T : Nat → Bool} {j : Nat} {o o' : OV} {pa pa' : Nat → Nat → Nat} (t : TMj th T j o pa o' pa') (h : T j = false) : TMj th T (j + 1) o pa o' pa' := by
  refine ⟨?_, t.2.1, fun p hp => ⟨fun z => (t.2.2 p hp).1 ⟨?_, z.2⟩, fun z => (t.2.2 p hp).2 fun y => z ⟨by omega, y.2⟩⟩⟩
  · rw [List.range_succ, List.countP_append]
    simp only [List.countP_cons, List.countP_nil, h, Bool.false_and, Bool.false_eq_true, if_false, Nat.add_zero]
    exact t.1
  · rcases Nat.lt_succ_iff_lt_or_eq.mp z.1 with y | y
    · exact y
    · rw [y, h] at z; exact absurd z.2.1 (by simp)
theorem TMj.step {th : Nat → Bool} {T : Nat → Bool} {j : Nat} {o o' o1 : OV} {pa pa' pa1 : Nat → Nat → Nat} (t : TMj th T j o pa o' pa') (hj : j < 16) (h : T j = true) (q : Tq th j o' pa' o1 pa1) : TMj th T (j + 1) o pa o1 pa1 := by
  have e0 : pa' 0 j = pa 0 j := (t.2.2 j hj).2 fun z => by omega
  have hd : hdc th pa' j (pa' 0 j) = hdc th pa j (pa 0 j) := by rw [hdc_c t.2.1, e0]
  rcases q with ⟨h1, h2, h3⟩ | ⟨h1, h2, q, h3, h4⟩
  · rw [hd] at h1
    subst h3
    refine ⟨?_, t.2.1, fun p hp => ⟨fun z => (t.2.2 p hp).1 ⟨?_, z.2⟩, fun z => (t.2.2 p hp).2 fun y => z ⟨by omega, y.2⟩⟩⟩
    · rw [List.range_succ, List.countP_append, h2]
      simp only [List.countP_cons, List.countP_nil, h1, Nat.lt_irrefl, decide_false, Bool.and_false, Bool.false_eq_true, if_false, Nat.add_zero]
      exact t.1
    · rcases Nat.lt_succ_iff_lt_or_eq.mp z.1 with y | y
      · exact y
      · rw [y, h1] at z; exact absurd z.2.2 (by omega)
  · rw [hd] at h1
    have hq : nP th pa q := fun c p hc ht hp z => by
      by_cases y : c = 0
      · subst y
        by_cases w : p < j ∧ T p = true ∧ 0 < hdc th pa p (pa 0 p)
        · obtain ⟨i, hi, t1, t2⟩ := hdc_pos.mp w.2.2
          have := h3 (i + 1) p (by omega) t1 hp
          rw [t.2.1 (i + 1) (by omega), t2] at this
          exact this z
        · have := h3 0 p hc ht hp
          rw [(t.2.2 p hp).2 w] at this
          exact this z
      · have := h3 c p hc ht hp
        rw [t.2.1 c y] at this
        exact this z
    refine ⟨?_, fun c hc => ?_, fun p hp => ⟨fun z => ?_, fun z => ?_⟩⟩
    · rw [List.range_succ, List.countP_append, h2, t.1]
      simp only [List.countP_cons, List.countP_nil, h, h1, decide_true, Bool.and_self, if_true, Nat.zero_add]
      rw [Int32.add_assoc, nI_sub1]
    · rw [h4]; funext p; rw [pu_n (fun z => hc z.1), t.2.1 c hc]
    · rw [h4]
      by_cases y : p = j
      · subst y; rw [pu_s]; exact hq
      · rw [pu_n (fun z => y z.2)]; exact (t.2.2 p hp).1 ⟨by omega, z.2⟩
    · rw [h4]
      have y : p ≠ j := fun y => z (by subst y; exact ⟨by omega, h, h1⟩)
      rw [pu_n (fun z => y z.2)]; exact (t.2.2 p hp).2 fun w => z ⟨by omega, w.2⟩
section Obj
variable {l : Launch} {K : Kx} {h h' : Hp} {x : Nat} {ad : Nat → Nat → Nat} {o : OV} {nm : Nat → Int32} {th : Nat → Bool} {nu : Nat → Int32} {sc : Nat → Nat} {kd ty : Nat → Nat → Int32} {pa : Nat → Nat → Nat} {Lp : Nat → List (Option EV)} {rw : Nat → Nat} {s : Int32} {mc ms : Nat}
def SW (K : Kx) (h : Hp) (x : Nat) (ad : Nat → Nat → Nat) (o : OV) (nm : Nat → Int32) (th : Nat → Bool) (nu : Nat → Int32) (sc : Nat → Nat) (kd ty : Nat → Nat → Int32) (pa : Nat → Nat → Nat) (Lp : Nat → List (Option EV)) (T : Nat → Bool) (ψ : List EV → List EV) (j : Nat) (h' : Hp) (o' : OV) (pa' : Nat → Nat → Nat) (Lp' : Nat → List (Option EV)) (rw' : Nat → Nat) : Prop :=
  CR K h' x ad o' nm th nu sc kd ty pa' Lp' rw' ∧ FF K h h' ∧ TMj th T j o pa o' pa' ∧ (∀ c p, 0 < c → c < 7 → th c = true → p < 16 → Lp' (pa' c p) = Lp (pa c p)) ∧ (∀ p, p < 16 → j ≤ p → Lp' (pa' 0 p) = Lp (pa 0 p)) ∧ ∀ p, p < j → ents (Lp' (pa' 0 p)) = ψ (ents (Lp (pa 0 p)))
variable {T : Nat → Bool} {ψ : List EV → List EV} {j : Nat} {o' o1 : OV} {pa' pa1 : Nat → Nat → Nat} {Lp' Lp1 : Nat → List (Option EV)} {rw' rw1 rw2 : Nat → Nat} {h1 h2 : Hp}
theorem SW.zero (C : CR K h x ad o nm th nu sc kd ty pa Lp rw) : SW K h x ad o nm th nu sc kd ty pa Lp T ψ 0 h o pa Lp rw := ⟨C, FF.rf, TMj.zero, fun _ _ _ _ _ _ => rfl, fun _ _ _ => rfl, fun p hp => absurd hp (Nat.not_lt_zero p)⟩
theorem SW.skip (w : SW K h x ad o nm th nu sc kd ty pa Lp T ψ j h' o' pa' Lp' rw') (hj : j < 16) (ht : T j = false) (hψ : ψ (ents (Lp (pa 0 j))) = ents (Lp (pa 0 j))) : SW K h x ad o nm th nu sc kd ty pa Lp T ψ (j + 1) h' o' pa' Lp' rw' := by
  refine ⟨w.1, w.2.1, w.2.2.1.skip ht, w.2.2.2.1, fun p hp hjp => w.2.2.2.2.1 p hp (by omega), fun p hp => ?_⟩
  rcases Nat.lt_succ_iff_lt_or_eq.mp hp with y | rfl
  · exact w.2.2.2.2.2 p y
  · rw [w.2.2.2.2.1 p hj (Nat.le_refl _), hψ]
theorem SW.step {L2 : List (Option EV)} (w : SW K h x ad o nm th nu sc kd ty pa Lp T ψ j h' o' pa' Lp' rw') (hj : j < 16) (ht : T j = true) (t : Tc th j o' pa' Lp' o1 pa1 Lp1) (C1 : CR K h1 x ad o1 nm th nu sc kd ty pa1 Lp1 rw1) (hz : hdc th pa1 j (pa1 0 j) = 0) (f1 : FF K h' h1)
    (C2 : CR K h2 x ad o1 nm th nu sc kd ty pa1 (va_up Lp1 (pa1 0 j) L2) rw2) (f2 : FF K h1 h2) (hL : ents L2 = ψ (ents (Lp (pa 0 j)))) : SW K h x ad o nm th nu sc kd ty pa Lp T ψ (j + 1) h2 o1 pa1 (va_up Lp1 (pa1 0 j) L2) rw2 := by
  have hlp : ∀ c p, c < 7 → th c = true → p < 16 → ¬ (c = 0 ∧ p = j) → va_up Lp1 (pa1 0 j) L2 (pa1 c p) = Lp' (pa' c p) := fun c p hc ht hp n => by
    rw [up_n (C1.apart hj hz hc ht hp n), t.lp hc ht hp]
  refine ⟨C2, (w.2.1.tr f1).tr f2, w.2.2.1.step hj ht t.tq, fun c p h0 hc ht hp => ?_, fun p hp hjp => ?_, fun p hp => ?_⟩
  · rw [hlp c p hc ht hp (by omega)]; exact w.2.2.2.1 c p h0 hc ht hp
  · rw [hlp 0 p (by decide) C1.t0 hp (by omega)]; exact w.2.2.2.2.1 p hp (by omega)
  · rcases Nat.lt_succ_iff_lt_or_eq.mp hp with y | rfl
    · rw [hlp 0 p (by decide) C1.t0 (by omega) (by omega)]; exact w.2.2.2.2.2 p y
    · rw [up_s]; exact hL
/-- a page of T: some entry of it is meant -/
def pT (φ : EV → Bool) (E : List EV) (p : Nat) : Bool := E.any (fun v => φ v && decide (pgI v.1 v.2.1 v.2.2.1 = p))
theorem pT_page {φ : EV → Bool} {pg : Nat → Nat} (hpi : ∀ p', p' < 16 → ∀ w ∈ ents (Lp (pg p')), pgI w.1 w.2.1 w.2.2.1 = p') {p : Nat} (hp : p < 16) : pT φ (eP Lp pg 16) p = true ↔ ∃ v ∈ ents (Lp (pg p)), φ v = true := by
  simp only [pT, List.any_eq_true, Bool.and_eq_true, decide_eq_true_eq]
  constructor
  · rintro ⟨v, hv, h1, h2⟩
    obtain ⟨a, ha, hva⟩ := List.mem_flatMap.mp hv
    have := hpi a (List.mem_range.mp ha) v hva
    rw [this] at h2
    subst h2
    exact ⟨v, hva, h1⟩
  · rintro ⟨v, hv, h1⟩
    exact ⟨v, List.mem_flatMap.mpr ⟨p, List.mem_range.mpr hp, hv⟩, h1, hpi p hp v hv⟩
theorem eP_map {Lp Lp' : Nat → List (Option EV)} {pg pg' : Nat → Nat} {ψ : List EV → List EV} (hψ0 : ψ [] = []) (hψ : ∀ A B, ψ (A ++ B) = ψ A ++ ψ B) (h : ∀ p, p < 16 → ents (Lp' (pg' p)) = ψ (ents (Lp (pg p)))) : eP Lp' pg' 16 = ψ (eP Lp pg 16) := by
  have key : ∀ n, n ≤ 16 → eP Lp' pg' n = ψ (eP Lp pg n) := by
    intro n
    induction n with
    | zero => intro _; rw [eP_0, eP_0, hψ0]
    | succ n ih => intro hn; rw [eP_s, eP_s, ih (by omega), h n (by omega), hψ]
  exact key 16 (Nat.le_refl _)
def lsE (sp : Int32) (E : List EV) : List EV := E.filter (fun v => !decide (v.2.2.1 = sp))
def mvL (s kd ty : Int32) (E : List EV) : List EV := E.map (fun v => if v.1 = s then mvE kd ty v else v)
theorem mvE_ky (kd ty : Int32) (v : EV) : kyE (mvE kd ty v) = kyE v := by
  unfold mvE
  split
  · rfl
  · split <;> rfl
/-- the class behind a sweep -/
def MS (K : Kx) (h : Hp) (x : Nat) (ad : Nat → Nat → Nat) (o : OV) (nm : Nat → Int32) (th : Nat → Bool) (nu : Nat → Int32) (sc : Nat → Nat) (kd ty kd' ty' : Nat → Nat → Int32) (pa : Nat → Nat → Nat) (Lp : Nat → List (Option EV)) (φ : EV → Bool) (ψ : List EV → List EV) (h' : Hp) : Prop :=
  ∃ o' pa' Lp' rw', CR K h' x ad o' nm th nu sc kd' ty' pa' Lp' rw' ∧ FF K h h' ∧ PI th pa' Lp' ∧ (∀ c, 0 < c → c < 7 → th c = true → eP Lp' (pa' c) 16 = eP Lp (pa c) 16) ∧ TMj th (pT φ (eP Lp (pa 0) 16)) 16 o pa o' pa' ∧ eP Lp' (pa' 0) 16 = ψ (eP Lp (pa 0) 16)
theorem SW.fin {φ : EV → Bool} (w : SW K h x ad o nm th nu sc kd ty pa Lp (pT φ (eP Lp (pa 0) 16)) ψ 16 h' o' pa' Lp' rw') (I : PI th pa Lp) (hψ0 : ψ [] = []) (hψ : ∀ A B, ψ (A ++ B) = ψ A ++ ψ B) (hk : ∀ E v, v ∈ ψ E → ∃ w ∈ E, kyE w = kyE v) : PI th pa' Lp' ∧ (∀ c, 0 < c → c < 7 → th c = true → eP Lp' (pa' c) 16 = eP Lp (pa c) 16) ∧ eP Lp' (pa' 0) 16 = ψ (eP Lp (pa 0) 16) := by
  refine ⟨fun c hc ht p hp v hv => ?_, fun c h0 hc ht => ?_, eP_map hψ0 hψ fun p hp => w.2.2.2.2.2 p hp⟩
  · by_cases y : c = 0
    · subst y
      rw [w.2.2.2.2.2 p hp] at hv
      obtain ⟨u, hu, e⟩ := hk _ v hv
      have := I 0 hc ht p hp u hu
      simp only [kyE, Prod.mk.injEq] at e
      rw [← e.1, ← e.2.1, ← e.2.2]; exact this
    · rw [w.2.2.2.1 c p (by omega) hc ht hp] at hv
      exact I c hc ht p hp v hv
  · unfold eP
    exact flat_congr fun p hp => by rw [w.2.2.2.1 c p h0 hc ht (List.mem_range.mp hp)]
theorem sp_clearSpan (htr : l.stackTraces = false) (C : CR K h x ad o nm th nu sc kd ty pa Lp rw) (I : PI th pa Lp) (hm : 400 ≤ mc) (hs : 7000 ≤ ms) :
    mX3_clearSpan l K mc ms [.ref x] h (kI fun r h' => r = nI ((eP Lp (pa 0) 16).countP (fun v => decide (v.2.2.1 = o.2.2.2.2))) ∧ MS K h x ad o nm th nu sc kd ty kd ty pa Lp (fun v => decide (v.2.2.1 = o.2.2.2.2)) (lsE o.2.2.2.2) h') := by
  refine fX3_clearSpan htr ?_
  intro X hX
  have hψ : ∀ A B, lsE o.2.2.2.2 (A ++ B) = lsE o.2.2.2.2 A ++ lsE o.2.2.2.2 B := fun A B => List.filter_append ..
  refine loopN (n := 16) (fun j => ∀ h' o' pa' Lp' rw' kc ks, SW K h x ad o nm th nu sc kd ty pa Lp (pT (fun v => decide (v.2.2.1 = o.2.2.2.2)) (eP Lp (pa 0) 16)) (lsE o.2.2.2.2) j h' o' pa' Lp' rw' → kc ≤ 3 * j → ks ≤ 306 * j → X (nI ((eP Lp (pa 0) j).countP (fun v => decide (v.2.2.1 = o.2.2.2.2)))) (nI j) h' kc ks) ?_ ?_ 0 (Nat.zero_le _) h o pa Lp rw 0 0 (SW.zero C) (Nat.zero_le _) (Nat.zero_le _)
  · intro h' o' pa' Lp' rw' kc ks w hk1 hk2
    obtain ⟨f1, f2, f3⟩ := w.fin I rfl hψ (fun E v hv => ⟨v, (List.mem_filter.mp hv).1, rfl⟩)
    exact hX _ _ _ _ _ ⟨fun _ => ⟨⟨by omega, by omega⟩, _, rfl, rfl, o', pa', Lp', rw', w.1, w.2.1, f1, f2, w.2.2.1, f3⟩, fun q => absurd (nI_le (Nat.le_refl _) (by omega)) q⟩
  · intro j hj ih h' o' pa' Lp' rw' kc ks w hk1 hk2
    have C' := w.1
    have G := C'.g0 hj
    obtain ⟨p1, ⟨g, p2, p3⟩, p4, p5⟩ := C'.p0
    have hl := w.2.2.2.2.1 j hj (Nat.le_refl _)
    have ho : o'.2.2.2.2 = o.2.2.2.2 := by rw [w.2.2.1.1]
    have hT := pT_page (φ := fun v => decide (v.2.2.1 = o.2.2.2.2)) (I 0 (by decide) C.t0) hj
    refine hX _ _ _ _ _ ⟨fun q => absurd q (nI_ge hj (by omega)), fun q => ⟨_, gf_of C'.xx, _, gf_of p1, _, aQ_x p2 hj (by omega), _, gf_of C'.xx, pa' 0 j, p3 j hj, G.obj, by omega, by omega, ?_⟩⟩
    refine (sp_hasSpan htr G.1 (by have := G.2.2.2.1; omega)).I ?_
    rintro r h9 ⟨rfl, rfl⟩
    rw [hl, ho]
    refine ⟨fun q => ?_, fun q => ⟨C'.ob, 3, 306, by omega, by omega, ?_⟩⟩
    · have hn := bI_0.mp q
      have ht : pT (fun v => decide (v.2.2.1 = o.2.2.2.2)) (eP Lp (pa 0) 16) j = false := by
        rw [← Bool.not_eq_true, hT]
        rintro ⟨v, hv, e⟩
        exact hn ⟨v, hv, by simpa using e⟩
      have e0 : (ents (Lp (pa 0 j))).countP (fun v => decide (v.2.2.1 = o.2.2.2.2)) = 0 := List.countP_eq_zero.mpr fun v hv z => hn ⟨v, hv, by simpa using z⟩
      have := ih h9 o' pa' Lp' rw' (kc + 0) (ks + 0) (w.skip hj ht (List.filter_eq_self.mpr fun v hv => by simpa using fun z => hn ⟨v, hv, z⟩)) (by omega) (by omega)
      rw [eP_s, List.countP_append, e0] at this
      rw [nI_sub1]; exact this
    · have hy := Classical.byContradiction fun z => q (bI_0.mpr z)
      have ht : pT (fun v => decide (v.2.2.1 = o.2.2.2.2)) (eP Lp (pa 0) 16) j = true := hT.mpr (by obtain ⟨v, hv, e⟩ := hy; exact ⟨v, hv, by simpa using e⟩)
      refine (sp_pageToChange htr C' hj (Nat.le_refl _) (Nat.le_refl _)).Q ?_
      rintro w9 h1 ⟨o1, pa1, Lp1, rw1, rfl, t, C1, hz, ff1, im1⟩
      have G1 := C1.g0 hj
      have ho1 : o1.2.2.2.2 = o.2.2.2.2 := by
        rcases t with ⟨_, e, _⟩ | ⟨_, e, _⟩
        · rw [e, ho]
        · rw [e]; exact ho
      have hne : pa1 0 j ≠ rw1 (pa1 0 j) := by
        obtain ⟨q1, f, q2, q3⟩ := G1.1
        exact ne_tag q1 q2 (by simp [tag_O, tag_Q])
      have hL1 : Lp1 (pa1 0 j) = Lp (pa 0 j) := by rw [t.lp (by decide) C.t0 hj, hl]
      refine ⟨_, gf_of C1.xx, _, rfl, G1.obj, by omega, by omega, ?_⟩
      refine (sp_loseSpan htr G1.1 (by have := G1.2.2.2.1; omega) G1.2.1 hne).I ?_
      rintro r h2 ⟨rfl, P2, im2, fr2⟩
      rw [hz] at P2
      obtain ⟨C2, ff2⟩ := C1.page hj hz P2 (fun v hv => by
        obtain ⟨w, hw, e⟩ := List.mem_map.mp hv
        cases w with
        | none => cases e
        | some u =>
          simp only [lsp, Option.filter] at e
          split at e
          · cases e; exact G1.2.1 _ hw
          · cases e) (by rw [List.length_map]; exact G1.2.2.1) (by rw [List.length_map]; exact G1.2.2.2.1) im2 (fun a X e _ n => by rw [fr2 a n]; exact e) (Or.inl rfl)
      have st := w.step hj ht t C1 hz ff1 C2 ff2 (by rw [ents_lsp, hL1, ho1]; rfl)
      have := ih h2 o1 pa1 _ _ (((kc + 0) + 3) + 0) (((ks + 0) + 306) + 0) st (by omega) (by omega)
      rw [eP_s, List.countP_append] at this
      rw [nI_sub1, nI_add, hL1, ho1]; exact this
/-- a state of kind a may be moved to kind b -/
abbrev cmv (a b : Int32) : Prop := (a = nI 0 ∧ b ≠ nI 2) ∨ (a = nI 1 ∧ (b = nI 1 ∨ b = nI 3)) ∨ (a = nI 2 ∧ (b = nI 2 ∨ b = nI 1)) ∨ (a = nI 3 ∧ b = nI 0)
theorem sp_canMove {a b : Int32} (htr : l.stackTraces = false) (ha : ∃ i, i < 4 ∧ a = nI i) : mX3_canMove l K [.int a, .int b] h (kI fun r h' => h' = h ∧ r = bI (cmv a b)) := by
  have e3 : ∀ i j, i < 4 → j < 4 → nI i = nI j → i = j := fun i j hi hj z => (nI_eq (by omega) (by omega)).mp z
  refine fX3_canMove htr ⟨fun q => ⟨fun q2 => ⟨_, rfl, rfl, (bI_f ?_).symm⟩, fun q2 => ⟨_, rfl, rfl, (bI_t ?_).symm⟩⟩, fun q => ⟨fun q2 => ⟨_, rfl, rfl, (bI_f ?_).symm⟩, fun q2 => ⟨_, rfl, rfl, (bI_t (Or.inl ⟨q, q2⟩)).symm⟩⟩, fun q => ⟨fun q2 => ⟨_, rfl, rfl, (bI_t (Or.inr (Or.inl ⟨q, Or.inl q2⟩))).symm⟩, fun q2 => ⟨fun q3 => ⟨_, rfl, rfl, (bI_f ?_).symm⟩, fun q3 => ⟨_, rfl, rfl, (bI_t (Or.inr (Or.inl ⟨q, Or.inr q3⟩))).symm⟩⟩⟩, fun q => ⟨fun q2 => ⟨_, rfl, rfl, (bI_t (Or.inr (Or.inr (Or.inl ⟨q, Or.inl q2⟩)))).symm⟩, fun q2 => ⟨fun q3 => ⟨_, rfl, rfl, (bI_f ?_).symm⟩, fun q3 => ⟨_, rfl, rfl, (bI_t (Or.inr (Or.inr (Or.inl ⟨q, Or.inr q3⟩)))).symm⟩⟩⟩⟩
  · obtain ⟨i, hi, rfl⟩ := ha
    rw [nI_toInt (by omega)] at q
    have : i = 3 := by omega
    subst this
    rintro (z | z | z | z)
    · exact absurd (e3 _ _ (by decide) (by decide) z.1) (by decide)
    · exact absurd (e3 _ _ (by decide) (by decide) z.1) (by decide)
    · exact absurd (e3 _ _ (by decide) (by decide) z.1) (by decide)
    · exact q2 z.2
  · obtain ⟨i, hi, rfl⟩ := ha
    rw [nI_toInt (by omega)] at q
    have : i = 3 := by omega
    subst this
    exact Or.inr (Or.inr (Or.inr ⟨rfl, q2⟩))
  · subst q
    rintro (z | z | z | z)
    · exact z.2 q2
    · exact absurd (e3 _ _ (by decide) (by decide) z.1) (by decide)
    · exact absurd (e3 _ _ (by decide) (by decide) z.1) (by decide)
    · exact absurd (e3 _ _ (by decide) (by decide) z.1) (by decide)
  · subst q
    rintro (z | z | z | z)
    · exact absurd (e3 _ _ (by decide) (by decide) z.1) (by decide)
    · exact z.2.elim q2 q3
    · exact absurd (e3 _ _ (by decide) (by decide) z.1) (by decide)
    · exact absurd (e3 _ _ (by decide) (by decide) z.1) (by decide)
  · subst q
    rintro (z | z | z | z)
    · exact absurd (e3 _ _ (by decide) (by decide) z.1) (by decide)
    · exact absurd (e3 _ _ (by decide) (by decide) z.1) (by decide)
    · exact z.2.elim q2 q3
    · exact absurd (e3 _ _ (by decide) (by decide) z.1) (by decide)
end Obj
