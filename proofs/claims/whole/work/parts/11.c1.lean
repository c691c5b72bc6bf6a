/-! ===== the class: pages ===== -/
theorem loopN {n : Nat} (P : Nat → Prop) (hend : P n) (hstep : ∀ j, j < n → P (j + 1) → P j) : ∀ j, j ≤ n → P j := by
  have key : ∀ d j, d = n - j → j ≤ n → P j := by
    intro d
    induction d with
    | zero => intro j h1 h2; rw [show j = n by omega]; exact hend
    | succ d ih => intro j h1 h2; exact hstep j (by omega) (ih (j + 1) (by omega) (by omega))
  exact fun j hj => key _ j rfl hj
theorem aQ_x {K : Kx} {t : Nat} {h : Hp} {a j n : Nat} {f : Nat → Option Nat} (e : h a = some (xQ K t n f)) (hj : j < n) (hL : n < 2 ^ 31) : aQ K t h a (nI j) = some (f j) := by
  have h1 := nI_clamp (n := j) (by omega)
  have h2 := nI_pos (n := j) (by omega)
  simp [aQ, e, h1, h2, hj]
theorem wQ_x {K : Kx} {t : Nat} {h : Hp} {a j n : Nat} {f : Nat → Option Nat} {x : Option Nat} (e : h a = some (xQ K t n f)) (hj : j < n) (hL : n < 2 ^ 31) : wQ K t h a (nI j) x = some (va_up h a (some (xQ K t n (va_up f j x)))) := by
  have h1 := nI_clamp (n := j) (by omega)
  have h2 := nI_pos (n := j) (by omega)
  simp [wQ, e, h1, h2, hj]
theorem alen_xQ {K : Kx} {t : Nat} {h : Hp} {a n : Nat} {f : Nat → Option Nat} (e : h a = some (xQ K t n f)) : alen K t h a = some (nI n) := by simp [alen, e]
/-- cells that never change: entries and their rows of numbers -/
def im (K : Kx) (x : va_E) : Prop := (∃ fs, x = xO 0 fs) ∨ ∃ n f, x = xJ K n f ∧ n < 100
def Imm (K : Kx) (h h' : Hp) : Prop := ∀ a x, ¬ fK K a → h a = some x → im K x → h' a = some x
theorem Imm.rf {K : Kx} {h : Hp} : Imm K h h := fun _ _ _ e _ => e
theorem Imm.tr {K : Kx} {h h' h'' : Hp} (p : Imm K h h') (q : Imm K h' h'') : Imm K h h'' := fun a x n e i => q a x n (p a x n e i) i
theorem Ext.imm {K : Kx} {h h' : Hp} (p : Ext h h') : Imm K h h' := fun a x _ e _ => p a x e
/-- an entry's value as it may stand in a page -/
def okV (v : EV) : Prop := v.2.2.2.1 ≠ [] ∧ v.2.2.2.1.length ≤ 10 ∧ v.2.2.2.2.1.length ≤ 10
theorem EntAt.imm {K : Kx} {h h' : Hp} {e : Nat} {v : EV} (E : EntAt K h e v) (hN : v.2.2.2.1.length < 100) (hM : v.2.2.2.2.1.length < 100) (i : Imm K h h') : EntAt K h' e v := by
  obtain ⟨nu, me, h1, h2, h3, nf⟩ := E
  exact ⟨nu, me, i _ _ nf.1 h1 (Or.inl ⟨_, rfl⟩), i _ _ nf.2.1 h2 (Or.inr ⟨_, _, rfl, hN⟩), i _ _ nf.2.2 h3 (Or.inr ⟨_, _, rfl, hM⟩), nf⟩
theorem Imm.up {K : Kx} {h h' : Hp} {a : Nat} {v : Option va_E} (p : Imm K h h') (f : ∀ x, h a = some x → ¬ im K x) : Imm K h (va_up h' a v) := fun b x n e i => by
  have hne : b ≠ a := fun q => by rw [q] at e; exact f x e i
  rw [up_n hne]; exact p b x n e i
theorem not_im_Q {K : Kx} {t n : Nat} {f : Nat → Option Nat} : ¬ im K (xQ K t n f) := by
  rintro (⟨fs, e⟩ | ⟨n', f', e, _⟩)
  · cases e
  · have h2 := Sum.inr.inj (Prod.mk.inj (Prod.mk.inj (Sum.inl.inj e)).2).2
    cases h2
theorem not_im_O {K : Kx} {ci : Nat} {fs : List Value} (hc : ci ≠ 0) : ¬ im K (xO ci fs) := by
  rintro (⟨fs', e⟩ | ⟨n', f', e, _⟩)
  · exact hc (Prod.mk.inj (Sum.inr.inj e)).1
  · cases e
/-- the rows of a page: what stands at each place -/
def rowOk (K : Kx) (h : Hp) (f : Nat → Option Nat) (L : List (Option EV)) : Prop := ∀ i, i < L.length → (L[i]? = some none → f i = none) ∧ ∀ v, L[i]? = some (some v) → ∃ e, f i = some e ∧ EntAt K h e v
def PgAt (K : Kx) (h : Hp) (p rw : Nat) (L : List (Option EV)) (c : Int32) : Prop := h p = some (xO 1 [.ref rw, .int c]) ∧ ∃ f, h rw = some (xQ K 3 L.length f) ∧ rowOk K h f L
def okL (L : List (Option EV)) : Prop := ∀ v, some v ∈ L → okV v
theorem rowOk.imm {K : Kx} {h h' : Hp} {f : Nat → Option Nat} {L : List (Option EV)} (r : rowOk K h f L) (hL : okL L) (i : Imm K h h') : rowOk K h' f L := fun j hj => ⟨(r j hj).1, fun v hv => by
  obtain ⟨e, h1, h2⟩ := (r j hj).2 v hv
  have ok := hL v (List.mem_of_getElem? hv)
  exact ⟨e, h1, h2.imm (by have := ok.2.1; omega) (by have := ok.2.2; omega) i⟩⟩
theorem PgAt.imm {K : Kx} {h h' : Hp} {p rw : Nat} {L : List (Option EV)} {c : Int32} (P : PgAt K h p rw L c) (hL : okL L) (i : Imm K h h') (h1 : h' p = h p) (h2 : h' rw = h rw) : PgAt K h' p rw L c := by
  obtain ⟨q1, f, q2, q3⟩ := P
  exact ⟨h1.trans q1, f, h2.trans q2, q3.imm hL i⟩
/-- what stands at place j -/
theorem rowOk.at {K : Kx} {h : Hp} {f : Nat → Option Nat} {L : List (Option EV)} (r : rowOk K h f L) {j : Nat} (hj : j < L.length) : (L[j]? = some none ∧ f j = none) ∨ ∃ v e, L[j]? = some (some v) ∧ f j = some e ∧ EntAt K h e v := by
  cases hv : L[j]? with
  | none => rw [List.getElem?_eq_none_iff] at hv; omega
  | some o =>
    cases o with
    | none => exact Or.inl ⟨rfl, (r j hj).1 hv⟩
    | some v =>
      obtain ⟨e, h1, h2⟩ := (r j hj).2 v hv
      exact Or.inr ⟨v, e, rfl, h1, h2⟩
theorem EntAt.obj {K : Kx} {h : Hp} {e : Nat} {v : EV} (E : EntAt K h e v) : ∃ fs, h e = some (xO 0 fs) := by
  obtain ⟨nu, me, h1, _⟩ := E
  exact ⟨_, h1⟩
def mt (s : Int32) (k : Int64) (p : Int32) (o : Option EV) : Bool := match o with
  | some v => decide (v.1 = s ∧ v.2.1 = k ∧ v.2.2.1 = p)
  | none => false
theorem sp_isShared {l : Launch} {K : Kx} {h : Hp} {p rw : Nat} {L : List (Option EV)} {c : Int32} (htr : l.stackTraces = false) (P : PgAt K h p rw L c) : mX1_isShared l K [.ref p] h (kI fun r h' => r = bI (nI 0 < c) ∧ h' = h) := by
  refine fX1_isShared htr ?_
  refine ⟨c, gf_of P.1, fun q => ⟨_, rfl, (bI_f (Int32.not_lt.mpr q)).symm, rfl⟩, fun q => ⟨_, rfl, (bI_t (Int32.not_le.mp q)).symm, rfl⟩⟩
/-- the place of an entry, or -1 -/
def rowR (o : Option Nat) : Int32 := match o with
  | some j => nI j
  | none => -nI 1
theorem sp_rowOf {l : Launch} {K : Kx} {h : Hp} {p rw : Nat} {L : List (Option EV)} {c : Int32} {s : Int32} {k : Int64} {sp : Int32} (htr : l.stackTraces = false) (P : PgAt K h p rw L c) (hn : L.length < 100000) : mX1_rowOf l K [.ref p, .int s, .long k, .int sp] h (kI fun r h' => r = rowR (L.findIdx? (mt s k sp)) ∧ h' = h) := by
  obtain ⟨h1, f, h2, r⟩ := P
  refine fX1_rowOf htr ?_
  intro X hX
  refine loopN (n := L.length) (fun j => (∀ i, i < j → ∀ o, L[i]? = some o → mt s k sp o = false) → X (nI j) h) ?_ ?_ 0 (Nat.zero_le _) (fun i hi => absurd hi (Nat.not_lt_zero i))
  · intro hf
    refine hX _ _ ⟨rw, gf_of h1, _, alen_xQ h2, fun q => ⟨_, rfl, ?_, rfl⟩, fun q => absurd (nI_le (Nat.le_refl _) (by omega)) q⟩
    have : L.findIdx? (mt s k sp) = none := by
      rw [List.findIdx?_eq_none_iff]
      intro o ho
      obtain ⟨i, hi, rfl⟩ := List.mem_iff_getElem.mp ho
      exact hf i hi _ (by simp [hi])
    rw [this]; rfl
  · intro j hj ih hf
    have next : ∀ o, L[j]? = some o → mt s k sp o = false → X (nI j + nI 1) h := fun o ho hm => by
      rw [nI_sub1]
      refine ih fun i hi o' ho' => ?_
      rcases Nat.lt_succ_iff_lt_or_eq.mp hi with q | rfl
      · exact hf i q o' ho'
      · rw [ho] at ho'; cases ho'; exact hm
    refine hX _ _ ⟨rw, gf_of h1, _, alen_xQ h2, fun q => absurd q (nI_ge hj (by omega)), fun q => ⟨rw, gf_of h1, _, aQ_x h2 hj (by omega), ?_⟩⟩
    rcases r.at hj with ⟨a1, a2⟩ | ⟨v, e, a1, a2, a3⟩
    · refine ⟨fun _ => next _ a1 rfl, fun a ha => ?_⟩
      rw [a2] at ha; cases ha
    · refine ⟨fun ha => ?_, fun a ha => ⟨rw, gf_of h1, _, aQ_x h2 hj (by omega), e, a2, a3.obj, ?_⟩⟩
      · rw [a2] at ha; cases ha
      · refine (sp_isAt htr a3).I ?_
        rintro x h' ⟨rfl, rfl⟩
        refine ⟨fun q => next _ a1 ?_, fun q => ⟨_, rfl, ?_, rfl⟩⟩
        · have := bI_0.mp q
          simp only [mt]
          exact decide_eq_false this
        · have hm : mt s k sp (some v) = true := by
            simp only [mt]
            exact decide_eq_true (Classical.byContradiction fun z => q (bI_0.mpr z))
          have : L.findIdx? (mt s k sp) = some j := by
            rw [List.findIdx?_eq_some_iff_getElem]
            refine ⟨hj, ?_, fun i hi => ?_⟩
            · have : L[j] = some v := by simpa [hj] using a1
              rw [this]; exact hm
            · simp only [Bool.not_eq_true]; exact hf i hi _ (by simp [show i < L.length by omega])
          rw [this]; rfl
