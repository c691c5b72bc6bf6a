/-! ===== the class: the object ===== -/
/-- snapshots taken, pages copied, whether a key is at hand, that key, the span -/
abbrev OV : Type := Int32 × Int32 × Int32 × Int64 × Int32
/-- how many snapshots hold the page a at place p -/
def hdc (th : Nat → Bool) (pa : Nat → Nat → Nat) (p a : Nat) : Nat := (List.range 6).countP (fun j => th (j + 1) && decide (pa (j + 1) p = a))
/-- whose addresses differ -/
def CD (K : Kx) (ad : Nat → Nat → Nat) (th : Nat → Bool) (pa : Nat → Nat → Nat) (rw : Nat → Nat) : Prop :=
  th 0 = true ∧ kB K ≤ ad 7 2 ∧ (∀ i, i < 3 → ¬ fK K (ad 7 i)) ∧ (∀ c k, c < 7 → th c = true → k < 4 → ad c k ≠ ad 7 0 ∧ ¬ fK K (ad c k)) ∧
  (∀ c c' k k', c < 7 → c' < 7 → th c = true → th c' = true → k < 4 → k' < 4 → ad c k = ad c' k' → c = c' ∧ k = k') ∧
  (∀ c c' p p', c < 7 → c' < 7 → th c = true → th c' = true → p < 16 → p' < 16 → pa c p = pa c' p' → p = p') ∧
  (∀ c c' p p', c < 7 → c' < 7 → th c = true → th c' = true → p < 16 → p' < 16 → rw (pa c p) = rw (pa c' p') → pa c p = pa c' p')
abbrev xob (ad : Nat → Nat → Nat) (o : OV) : va_E := xO 3 [.ref (ad 7 0), .ref (ad 0 0), .ref (ad 7 1), .ref (ad 7 2), .int o.1, .int o.2.1, .int o.2.2.1, .long o.2.2.2.1, .int o.2.2.2.2]
/-- the object x: ad its addresses (c = 0 now, 1 to 6 the slots, 7 its rows), o its own numbers, nm the names; of picture c: th there, nu number, sc states, kd kinds, ty types, pa pages; Lp what a page has -/
def CR (K : Kx) (h : Hp) (x : Nat) (ad : Nat → Nat → Nat) (o : OV) (nm : Nat → Int32) (th : Nat → Bool) (nu : Nat → Int32) (sc : Nat → Nat) (kd ty : Nat → Nat → Int32) (pa : Nat → Nat → Nat) (Lp : Nat → List (Option EV)) (rw : Nat → Nat) : Prop :=
  (¬ fK K x ∧ h x = some (xob ad o)) ∧ h (ad 7 0) = some (xI K 8 nm) ∧ (∃ f, h (ad 7 1) = some (xQ K 5 6 f) ∧ ∀ j, j < 6 → f j = if th (j + 1) = true then some (ad (j + 1) 0) else none) ∧ (∃ f, h (ad 7 2) = some (xJ K 150 f)) ∧
  (∀ c, c < 7 → th c = true → PicR K h (ad c) (nu c) (sc c) (pa c) (kd c) (ty c)) ∧ (∀ c, c < 7 → th c = true → ∀ p, p < 16 → PgR K h rw Lp (pa c p) (hdc th pa p (pa c p))) ∧ CD K ad th pa rw ∧ eK K h ∧ KI K
theorem PicR.ext {K : Kx} {h h' : Hp} {ad : Nat → Nat} {num : Int32} {sc : Nat} {pg : Nat → Nat} {kd ty : Nat → Int32} (P : PicR K h ad num sc pg kd ty) (x : Ext h h') : PicR K h' ad num sc pg kd ty := by
  obtain ⟨h1, ⟨g, h2, h3⟩, h4, h5⟩ := P
  exact ⟨x _ _ h1, ⟨g, x _ _ h2, h3⟩, x _ _ h4, x _ _ h5⟩
theorem PgAt.ext {K : Kx} {h h' : Hp} {p rw : Nat} {L : List (Option EV)} {c : Int32} (P : PgAt K h p rw L c) (x : Ext h h') : PgAt K h' p rw L c := by
  obtain ⟨q1, f, q2, q3⟩ := P
  exact ⟨x _ _ q1, f, x _ _ q2, fun j hj => ⟨(q3 j hj).1, fun v hv => by obtain ⟨e, e1, e2⟩ := (q3 j hj).2 v hv; exact ⟨e, e1, e2.ext x⟩⟩⟩
theorem PgR.ext {K : Kx} {h h' : Hp} {rw : Nat → Nat} {Lp : Nat → List (Option EV)} {a c : Nat} (g : PgR K h rw Lp a c) (x : Ext h h') : PgR K h' rw Lp a c := ⟨g.1.ext x, g.2⟩
section Obj
variable {l : Launch} {K : Kx} {h h' : Hp} {x : Nat} {ad : Nat → Nat → Nat} {o : OV} {nm : Nat → Int32} {th : Nat → Bool} {nu : Nat → Int32} {sc : Nat → Nat} {kd ty : Nat → Nat → Int32} {pa : Nat → Nat → Nat} {Lp : Nat → List (Option EV)} {rw : Nat → Nat}
theorem CR.ext (C : CR K h x ad o nm th nu sc kd ty pa Lp rw) (e : Ext h h') : CR K h' x ad o nm th nu sc kd ty pa Lp rw := by
  obtain ⟨⟨c1, c2⟩, c3, ⟨f, c4, c5⟩, ⟨g, c6⟩, c7, c8, c9, c10, c11⟩ := C
  exact ⟨⟨c1, e _ _ c2⟩, e _ _ c3, ⟨f, e _ _ c4, c5⟩, ⟨g, e _ _ c6⟩, fun c hc ht => (c7 c hc ht).ext e, fun c hc ht p hp => (c8 c hc ht p hp).ext e, c9, c10.ext e, c11⟩
theorem CR.xx (C : CR K h x ad o nm th nu sc kd ty pa Lp rw) : h x = some (xob ad o) := C.1.2
theorem CR.ob (C : CR K h x ad o nm th nu sc kd ty pa Lp rw) : ∃ fs, h x = some (xO 3 fs) := ⟨_, C.1.2⟩
theorem CR.t0 (C : CR K h x ad o nm th nu sc kd ty pa Lp rw) : th 0 = true := C.2.2.2.2.2.2.1.1
theorem CR.p (C : CR K h x ad o nm th nu sc kd ty pa Lp rw) {c : Nat} (hc : c < 7) (ht : th c = true) : PicR K h (ad c) (nu c) (sc c) (pa c) (kd c) (ty c) := C.2.2.2.2.1 c hc ht
theorem CR.p0 (C : CR K h x ad o nm th nu sc kd ty pa Lp rw) : PicR K h (ad 0) (nu 0) (sc 0) (pa 0) (kd 0) (ty 0) := C.p (by decide) C.t0
theorem CR.g (C : CR K h x ad o nm th nu sc kd ty pa Lp rw) {c : Nat} (hc : c < 7) (ht : th c = true) {p : Nat} (hp : p < 16) : PgR K h rw Lp (pa c p) (hdc th pa p (pa c p)) := C.2.2.2.2.2.1 c hc ht p hp
theorem CR.g0 (C : CR K h x ad o nm th nu sc kd ty pa Lp rw) {p : Nat} (hp : p < 16) : PgR K h rw Lp (pa 0 p) (hdc th pa p (pa 0 p)) := C.g (by decide) C.t0 hp
theorem CR.d (C : CR K h x ad o nm th nu sc kd ty pa Lp rw) : CD K ad th pa rw := C.2.2.2.2.2.2.1
theorem CR.e (C : CR K h x ad o nm th nu sc kd ty pa Lp rw) : eK K h := C.2.2.2.2.2.2.2.1
theorem CR.ki (C : CR K h x ad o nm th nu sc kd ty pa Lp rw) : KI K := C.2.2.2.2.2.2.2.2
theorem hdc_le (th : Nat → Bool) (pa : Nat → Nat → Nat) (p a : Nat) : hdc th pa p a ≤ 6 := by
  have := List.countP_le_length (p := fun j => th (j + 1) && decide (pa (j + 1) p = a)) (l := List.range 6)
  simpa [hdc] using this
/-! looking up -/
def at3 (s : Int32) (k : Int64) (sp : Int32) (v : EV) : Bool := decide (v.1 = s ∧ v.2.1 = k ∧ v.2.2.1 = sp)
def lk (s : Int32) (k : Int64) (sp : Int32) (E : List EV) : EV := (E.find? (at3 s k sp)).getD (s, k, sp, [], [], nI 0)
theorem find_ents (s : Int32) (k : Int64) (sp : Int32) (L : List (Option EV)) : (ents L).find? (at3 s k sp) = (L.findIdx? (mt s k sp)).bind (fun j => (L[j]?).join) := by
  induction L with
  | nil => rfl
  | cons w L ih =>
    rw [List.findIdx?_cons]
    cases w with
    | none =>
      simp only [ents, List.filterMap_cons_none, id, mt]
      rw [show List.filterMap id L = ents L from rfl, ih]
      cases L.findIdx? (mt s k sp) <;> simp
    | some v =>
      rw [show ents (some v :: L) = v :: ents L from rfl, List.find?_cons, ih]
      by_cases q : at3 s k sp v = true
      · have : mt s k sp (some v) = true := q
        simp [q, this]
      · have : mt s k sp (some v) = false := by simpa [mt, at3] using q
        simp only [Bool.not_eq_true] at q
        simp only [q, this]
        cases L.findIdx? (mt s k sp) <;> simp
theorem rowR_ne {j : Nat} (hj : j < 2 ^ 31) : nI j ≠ -nI 1 := fun q => by
  have h1 : (nI j).toInt = j := nI_toInt hj
  have h2 : (-nI 1 : Int32).toInt = -1 := by decide
  rw [q, h2] at h1
  omega
theorem sp_entryOf {ad : Nat → Nat} {num : Int32} {sc : Nat} {pg : Nat → Nat} {kd ty : Nat → Int32} {hd : Nat → Nat} {s : Int32} {k : Int64} {sp : Int32} {mc ms : Nat} (htr : l.stackTraces = false) (P : PicR K h ad num sc pg kd ty) (G : ∀ p, p < 16 → PgR K h rw Lp (pg p) (hd p)) (he : eK K h) (hm : 1 ≤ mc) (hs : 6 ≤ ms) :
    mX2_entryOf l K mc ms [.ref (ad 0), .int s, .long k, .int sp] h (kQ fun w h' => ∃ e, w = some e ∧ EntAt K h' e (lk s k sp (ents (Lp (pg (pgI s k sp))))) ∧ Ext h h') := by
  obtain ⟨h1, ⟨g, h2, h3⟩, h4, h5⟩ := P
  refine fX2_entryOf htr ⟨_, gf_of h1, by omega, by omega, ?_⟩
  refine (sp_pageNumber htr).I ?_
  rintro r h' ⟨rfl, rfl⟩
  have hp := pgI_lt s k sp
  have g1 := G _ hp
  rw [pgN_eq]
  refine ⟨_, aQ_x h2 hp (by omega), pg (pgI s k sp), h3 _ hp, g1.obj, by omega, by omega, ?_⟩
  refine (sp_rowOf htr g1.1 (by have := g1.2.2.2.1; omega)).I ?_
  rintro r h' ⟨rfl, rfl⟩
  have hfe := find_ents s k sp (Lp (pg (pgI s k sp)))
  obtain ⟨q1, f, q2, q3⟩ := g1.1
  cases hi : (Lp (pg (pgI s k sp))).findIdx? (mt s k sp) with
  | some j =>
    obtain ⟨hj, hm1, -⟩ := List.findIdx?_eq_some_iff_getElem.mp hi
    have hj9 : j < 2 ^ 31 := by have := g1.2.2.2.1; omega
    refine ⟨fun _ => ?_, fun q => absurd q (rowR_ne hj9)⟩
    rw [hi] at hfe
    rcases q3.at hj with ⟨a1, a2⟩ | ⟨v, e, a1, a2, a3⟩
    · have : (Lp (pg (pgI s k sp)))[j] = none := by simpa [hj] using a1
      rw [this] at hm1; simp [mt] at hm1
    · refine ⟨_, gf_of q1, _, aQ_x q2 hj (by have := g1.2.2.2.1; omega), ⟨by omega, by omega⟩, ?_⟩
      rw [a2]
      refine kQ_ref ⟨e, rfl, ?_, Ext.rf⟩
      rw [lk, hfe]
      simp only [Option.bind_some, a1, Option.join_some, Option.getD_some]
      exact a3
  | none =>
    refine ⟨fun q => absurd rfl q, fun _ => ⟨by omega, by omega, ?_⟩⟩
    rintro q h2' hq hb rfl
    refine ⟨by omega, by omega, ?_⟩
    refine (sp_init htr (up_s _ _ _) rfl).V ?_
    rintro h6 rfl
    rw [up_up]
    refine ⟨⟨by omega, by omega⟩, kQ_ref ⟨q, rfl, ?_, Ext.rf.up hq⟩⟩
    rw [hi] at hfe
    rw [lk, hfe]
    refine ⟨K.2.2.2, K.2.2.2, up_s _ _ _, ?_, ?_, he.2.2.n hq, he.2.1, he.2.1⟩
    · rw [up_n (ne_fresh he.1 hq)]; exact he.1
    · rw [up_n (ne_fresh he.1 hq)]; exact he.1
theorem sp_entryAtHand {s : Int32} {mc ms : Nat} (htr : l.stackTraces = false) (C : CR K h x ad o nm th nu sc kd ty pa Lp rw) (hm : 1 ≤ mc) (hs : 6 ≤ ms) :
    mX3_entryAtHand l K mc ms [.ref x, .int s] h (kQ fun w h' => ∃ e, w = some e ∧ EntAt K h' e (lk s o.2.2.2.1 o.2.2.2.2 (ents (Lp (pa 0 (pgI s o.2.2.2.1 o.2.2.2.2))))) ∧ Ext h h') := by
  refine fX3_entryAtHand htr ⟨_, gf_of C.xx, _, gf_of C.xx, _, gf_of C.xx, ⟨_, C.p0.1⟩, 1, 6, by omega, by omega, ?_⟩
  refine (sp_entryOf htr C.p0 (fun p hp => C.g0 hp) C.e (Nat.le_refl _) (Nat.le_refl _)).Q ?_
  rintro w h' ⟨e, rfl, hE, hx⟩
  exact ⟨⟨by omega, by omega⟩, kQ_ref ⟨e, rfl, hE, hx⟩⟩
theorem sp_hasNoRoomFor {e : Nat} {v : EV} (htr : l.stackTraces = false) (C : CR K h x ad o nm th nu sc kd ty pa Lp rw) (E : EntAt K h e v) (hn : v.2.2.2.1.length < 1000) (hc : (eP Lp (pa 0) 16).length < 10000) :
    mX3_hasNoRoomFor l K [.ref x, .ref e] h (kI fun r h' => r = bI (v.2.2.2.1 = [] ∧ 150 ≤ (eP Lp (pa 0) 16).length) ∧ h' = h) := by
  refine fX3_hasNoRoomFor htr ⟨E.obj, ?_⟩
  refine (sp_isNone htr E (by omega)).I ?_
  rintro r h' ⟨rfl, rfl⟩
  refine ⟨fun q => ⟨_, rfl, (bI_f fun z => bI_0.mp q z.1).symm, rfl⟩, fun q => ⟨_, gf_of C.xx, ⟨_, C.p0.1⟩, ?_⟩⟩
  refine (sp_picCountEntries htr C.p0 (fun p hp => C.g0 hp)).I ?_
  rintro r h' ⟨rfl, rfl⟩
  have hv : v.2.2.2.1 = [] := Classical.byContradiction fun z => q (bI_0.mpr z)
  refine ⟨fun q2 => ⟨_, rfl, (bI_f fun z => ?_).symm, rfl⟩, fun q2 => ⟨_, rfl, (bI_t ⟨hv, ?_⟩).symm, rfl⟩⟩
  · exact Int32.not_lt.mpr (nI_le z.2 (by omega)) q2
  · exact Nat.le_of_not_lt fun z => q2 (Int32.not_le.mp (nI_ge z (by omega)))
/-! what speaks against a call -/
def isS (s : Int32) (n : Nat) : Prop := ¬ s < nI 0 ∧ s < nI n
theorem isS.ix {s : Int32} {n : Nat} (q : isS s n) (hn : n < 1000) : ∃ i, i < n ∧ s = nI i := by
  obtain ⟨h1, h2⟩ := q
  have h3 := Int32.le_iff_toInt_le.mp (Int32.not_lt.mp h1)
  have h4 := Int32.lt_iff_toInt_lt.mp h2
  rw [nI_toInt (show 0 < 2 ^ 31 by decide)] at h3
  rw [nI_toInt (show n < 2 ^ 31 by omega)] at h4
  refine ⟨s.toInt.toNat, by omega, ?_⟩
  apply Int32.toInt_inj.mp
  rw [nI_toInt (by omega)]
  omega
theorem isS_of {i n : Nat} (hi : i < n) (hn : n < 1000) : isS (nI i) n := ⟨nI_pos (by omega), Int32.not_le.mp (nI_ge hi (by omega))⟩
/-- c: 0 nothing, 1 no such state, 2 the kind or the number, 3 no key -/
def St (n : Nat) (kd ty : Nat → Int32) (hk : Int32) (s k1 k2 : Int32) (v : Int64) (c : Nat) : Prop :=
  (c = 1 ∧ ¬ isS s n) ∨ ∃ i, i < n ∧ s = nI i ∧ ((c = 2 ∧ ((kd i ≠ k1 ∧ kd i ≠ k2) ∨ ¬ ft (kd i) (ty i) v)) ∨ ((kd i = k1 ∨ kd i = k2) ∧ ft (kd i) (ty i) v ∧ ((c = 3 ∧ hk = nI 0) ∨ (c = 0 ∧ hk ≠ nI 0))))
def exN (c : Nat) : String := if c = 1 then "java/lang/IndexOutOfBoundsException" else if c = 2 then "java/lang/IllegalArgumentException" else if c = 3 then "java/lang/IllegalStateException" else "java/util/NoSuchElementException"
theorem sp_needState {s : Int32} {mc ms : Nat} (htr : l.stackTraces = false) (C : CR K h x ad o nm th nu sc kd ty pa Lp rw) (hm : 1 ≤ mc) (hs : 6 ≤ ms) :
    mX3_needState l K mc ms [.ref x, .int s] h (kVX (fun h' => h' = h ∧ isS s (sc 0)) (fun E h' => E = exN 1 ∧ h' = h ∧ ¬ isS s (sc 0))) := by
  refine fX3_needState htr ⟨fun q => ⟨by omega, by omega, Or.inr ⟨_, rfl, rfl, rfl, fun z => z.1 q⟩⟩, fun q => ⟨_, gf_of C.xx, _, gf_of C.p0.1, fun q2 => ⟨⟨by omega, by omega⟩, Or.inl ⟨rfl, rfl, q, q2⟩⟩, fun q2 => ⟨by omega, by omega, Or.inr ⟨_, rfl, rfl, rfl, fun z => q2 z.2⟩⟩⟩⟩
theorem sp_needKey {mc ms : Nat} (htr : l.stackTraces = false) (C : CR K h x ad o nm th nu sc kd ty pa Lp rw) (hm : 1 ≤ mc) (hs : 6 ≤ ms) :
    mX3_needKey l K mc ms [.ref x] h (kVX (fun h' => h' = h ∧ o.2.2.1 ≠ nI 0) (fun E h' => E = exN 3 ∧ h' = h ∧ o.2.2.1 = nI 0)) := by
  refine fX3_needKey htr ⟨_, gf_of C.xx, fun q => ⟨⟨by omega, by omega⟩, Or.inl ⟨rfl, rfl, q⟩⟩, fun q => ⟨by omega, by omega, Or.inr ⟨_, rfl, rfl, rfl, q⟩⟩⟩
theorem sp_needToWrite {s k : Int32} {v : Int64} {mc ms : Nat} (htr : l.stackTraces = false) (C : CR K h x ad o nm th nu sc kd ty pa Lp rw) (hsc : sc 0 ≤ 8) (hm : 2 ≤ mc) (hs : 12 ≤ ms) :
    mX3_needToWrite l K mc ms [.ref x, .int s, .int k, .long v] h (kVX (fun h' => h' = h ∧ St (sc 0) (kd 0) (ty 0) o.2.2.1 s k k v 0) (fun E h' => h' = h ∧ ∃ c, 0 < c ∧ c < 4 ∧ E = exN c ∧ St (sc 0) (kd 0) (ty 0) o.2.2.1 s k k v c)) := by
  refine fX3_needToWrite htr ⟨C.ob, 1, 6, by omega, by omega, ?_⟩
  refine (sp_needState htr C (Nat.le_refl _) (Nat.le_refl _)).VX ?_ ?_
  · rintro h' ⟨rfl, hS⟩
    obtain ⟨i, hi, rfl⟩ := hS.ix (by omega)
    obtain ⟨p1, ⟨g, p2, p3⟩, p4, p5⟩ := C.p0
    refine ⟨_, gf_of C.xx, _, gf_of p1, _, aI_x p4 (by omega) (by omega), fun q => ⟨_, gf_of C.xx, _, gf_of p1, _, aI_x p5 (by omega) (by omega), by omega, by omega, ?_⟩, fun q => ⟨by omega, by omega, Or.inr ⟨_, rfl, rfl, 2, by decide, by decide, rfl, Or.inr ⟨i, hi, rfl, Or.inl ⟨rfl, Or.inl ⟨q, q⟩⟩⟩⟩⟩⟩
    refine (sp_fits htr).I ?_
    rintro r h' ⟨⟨d9, rfl⟩, rfl⟩
    refine ⟨fun q2 => ⟨C.ob, 1, 6, by omega, by omega, ?_⟩, fun q2 => ⟨by omega, by omega, Or.inr ⟨_, rfl, rfl, 2, by decide, by decide, rfl, Or.inr ⟨i, hi, rfl, Or.inl ⟨rfl, Or.inr (by rw [q]; exact bI_0.mp q2)⟩⟩⟩⟩⟩
    have hft : ft (kd 0 i) (ty 0 i) v := by rw [q]; exact Classical.byContradiction fun z => q2 (bI_0.mpr z)
    refine (sp_needKey htr C (Nat.le_refl _) (Nat.le_refl _)).VX ?_ ?_
    · rintro h' ⟨rfl, hk⟩
      exact ⟨⟨by omega, by omega⟩, Or.inl ⟨rfl, rfl, Or.inr ⟨i, hi, rfl, Or.inr ⟨Or.inl q, hft, Or.inr ⟨rfl, hk⟩⟩⟩⟩⟩
    · rintro E h' ⟨rfl, rfl, hk⟩
      exact Or.inr ⟨_, rfl, rfl, 3, by decide, by decide, rfl, Or.inr ⟨i, hi, rfl, Or.inr ⟨Or.inl q, hft, Or.inl ⟨rfl, hk⟩⟩⟩⟩
  · rintro E h' ⟨rfl, rfl, hS⟩
    exact Or.inr ⟨_, rfl, rfl, 1, by decide, by decide, rfl, Or.inl ⟨rfl, hS⟩⟩
theorem ft_0 (kd ty : Int32) : ft kd ty 0 := by
  by_cases h1 : ty = nI 0
  · exact Or.inr (Or.inl h1)
  · by_cases h2 : ty = nI 1
    · exact Or.inr (Or.inr (Or.inl ⟨h2, by decide, by decide⟩))
    · exact Or.inr (Or.inr (Or.inr ⟨h1, h2, by decide⟩))
theorem sp_needToRead {s k k2 : Int32} {mc ms : Nat} (htr : l.stackTraces = false) (C : CR K h x ad o nm th nu sc kd ty pa Lp rw) (hsc : sc 0 ≤ 8) (hm : 2 ≤ mc) (hs : 12 ≤ ms) :
    mX3_needToRead l K mc ms [.ref x, .int s, .int k, .int k2] h (kVX (fun h' => h' = h ∧ St (sc 0) (kd 0) (ty 0) o.2.2.1 s k k2 0 0) (fun E h' => h' = h ∧ ∃ c, 0 < c ∧ c < 4 ∧ E = exN c ∧ St (sc 0) (kd 0) (ty 0) o.2.2.1 s k k2 0 c)) := by
  refine fX3_needToRead htr ⟨C.ob, 1, 6, by omega, by omega, ?_⟩
  refine (sp_needState htr C (Nat.le_refl _) (Nat.le_refl _)).VX ?_ ?_
  · rintro h' ⟨rfl, hS⟩
    obtain ⟨i, hi, rfl⟩ := hS.ix (by omega)
    obtain ⟨p1, ⟨g, p2, p3⟩, p4, p5⟩ := C.p0
    have key : ∀ (a b : Nat), a ≤ 1 → b ≤ 6 → (kd 0 i = k ∨ kd 0 i = k2) → (∃ fs, h' x = some (xO 3 fs)) ∧ (∃ c_8 w_9, a + c_8 ≤ mc ∧ b + w_9 ≤ ms ∧ mX3_needKey l K c_8 w_9 [.ref x] h' (kVX (fun h_7 => (((a + c_8) ≤ mc ∧ (b + w_9) ≤ ms) ∧ (kVX (fun h'_1 => h'_1 = h' ∧ St (sc 0) (kd 0) (ty 0) o.2.2.1 (nI i) k k2 0 0) (fun E h'_1 => h'_1 = h' ∧ ∃ c, 0 < c ∧ c < 4 ∧ E = exN c ∧ St (sc 0) (kd 0) (ty 0) o.2.2.1 (nI i) k k2 0 c)) (.inl none) h_7)) (fun E9 h9 => (kVX (fun h'_1 => h'_1 = h' ∧ St (sc 0) (kd 0) (ty 0) o.2.2.1 (nI i) k k2 0 0) (fun E h'_1 => h'_1 = h' ∧ ∃ c, 0 < c ∧ c < 4 ∧ E = exN c ∧ St (sc 0) (kd 0) (ty 0) o.2.2.1 (nI i) k k2 0 c)) (.inr E9) h9))) := by
      intro a b ha hb q
      refine ⟨C.ob, 1, 6, by omega, by omega, ?_⟩
      refine (sp_needKey htr C (Nat.le_refl _) (Nat.le_refl _)).VX ?_ ?_
      · rintro h' ⟨rfl, hk⟩
        exact ⟨⟨by omega, by omega⟩, Or.inl ⟨rfl, rfl, Or.inr ⟨i, hi, rfl, Or.inr ⟨q, ft_0 _ _, Or.inr ⟨rfl, hk⟩⟩⟩⟩⟩
      · rintro E h' ⟨rfl, rfl, hk⟩
        exact Or.inr ⟨_, rfl, rfl, 3, by decide, by decide, rfl, Or.inr ⟨i, hi, rfl, Or.inr ⟨q, ft_0 _ _, Or.inl ⟨rfl, hk⟩⟩⟩⟩
    refine ⟨_, gf_of C.xx, _, gf_of p1, _, aI_x p4 (by omega) (by omega), fun q => key _ _ (by omega) (by omega) (Or.inl q), fun q => ⟨_, gf_of C.xx, _, gf_of p1, _, aI_x p4 (by omega) (by omega), fun q2 => key _ _ (by omega) (by omega) (Or.inr q2), fun q2 => ⟨by omega, by omega, Or.inr ⟨_, rfl, rfl, 2, by decide, by decide, rfl, Or.inr ⟨i, hi, rfl, Or.inl ⟨rfl, Or.inl ⟨q, q2⟩⟩⟩⟩⟩⟩⟩
  · rintro E h' ⟨rfl, rfl, hS⟩
    exact Or.inr ⟨_, rfl, rfl, 1, by decide, by decide, rfl, Or.inl ⟨rfl, hS⟩⟩
end Obj
