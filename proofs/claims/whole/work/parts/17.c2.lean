/-! ===== the class: pictures ===== -/
/-- a cell's sort: a row's class or an object's -/
def tagOf (x : va_E) : Nat ⊕ Nat := match x with
  | .inl y => .inl y.1
  | .inr y => .inr y.1
theorem ne_tag {h : Hp} {a b : Nat} {X Y : va_E} (hb : h b = some X) (ha : h a = some Y) (ht : tagOf X ≠ tagOf Y) : b ≠ a := fun z => by
  rw [z, ha] at hb; cases hb; exact ht rfl
theorem tag_Q {K : Kx} {t n : Nat} {f : Nat → Option Nat} : tagOf (xQ K t n f) = .inl (K.2.1 t) := rfl
theorem tag_O {ci : Nat} {fs : List Value} : tagOf (xO ci fs) = .inr ci := rfl
theorem tag_I {K : Kx} {n : Nat} {f : Nat → Int32} : tagOf (xI K n f) = .inl (K.2.1 0) := rfl
theorem tag_J {K : Kx} {n : Nat} {f : Nat → Int64} : tagOf (xJ K n f) = .inl (K.2.1 1) := rfl
/-- the classes of rows are not one another -/
def KI (K : Kx) : Prop := ∀ i j, i < 6 → j < 6 → K.2.1 i = K.2.1 j → i = j
theorem KI.ne {K : Kx} (k : KI K) {i j : Nat} (hi : i < 6) (hj : j < 6) (n : i ≠ j) : (Sum.inl (K.2.1 i) : Nat ⊕ Nat) ≠ .inl (K.2.1 j) := fun z => n (k i j hi hj (Sum.inl.inj z))
theorem tag_im {K : Kx} {x : va_E} (i : im K x) : tagOf x = .inr 0 ∨ tagOf x = .inl (K.2.1 1) := by
  rcases i with ⟨fs, rfl⟩ | ⟨n, f, rfl, _⟩
  · exact Or.inl rfl
  · exact Or.inr rfl
theorem aI_x {K : Kx} {h : Hp} {a j n : Nat} {f : Nat → Int32} (e : h a = some (xI K n f)) (hj : j < n) (hL : n < 2 ^ 31) : aI K h a (nI j) = some (f j) := by
  have h1 := nI_clamp (n := j) (by omega)
  have h2 := nI_pos (n := j) (by omega)
  simp [aI, e, h1, h2, hj]
theorem wI_x {K : Kx} {h : Hp} {a j n : Nat} {f : Nat → Int32} {x : Int32} (e : h a = some (xI K n f)) (hj : j < n) (hL : n < 2 ^ 31) : wI K h a (nI j) x = some (va_up h a (some (xI K n (upd f j x)))) := by
  have h1 := nI_clamp (n := j) (by omega)
  have h2 := nI_pos (n := j) (by omega)
  simp [wI, e, h1, h2, hj]
/-- a page as the class keeps it: a its address, c how many snapshots hold it -/
def PgR (K : Kx) (h : Hp) (rw : Nat → Nat) (Lp : Nat → List (Option EV)) (a c : Nat) : Prop := PgAt K h a (rw a) (Lp a) (nI c) ∧ okL (Lp a) ∧ 0 < (Lp a).length ∧ (Lp a).length ≤ 300 ∧ ¬ fK K a ∧ ¬ fK K (rw a)
/-- a picture: its number, its rows, how many states, its pages' addresses, kinds and types -/
def PicR (K : Kx) (h : Hp) (ad : Nat → Nat) (num : Int32) (sc : Nat) (pg : Nat → Nat) (kd ty : Nat → Int32) : Prop :=
  h (ad 0) = some (xO 2 [.int num, .ref (ad 1), .ref (ad 2), .ref (ad 3), .int (nI sc)]) ∧ (∃ g, h (ad 1) = some (xQ K 4 16 g) ∧ ∀ p, p < 16 → g p = some (pg p)) ∧ h (ad 2) = some (xI K 8 kd) ∧ h (ad 3) = some (xI K 8 ty)
/-- the entries of the first j pages -/
def eP (Lp : Nat → List (Option EV)) (pg : Nat → Nat) (j : Nat) : List EV := (List.range j).flatMap (fun p => ents (Lp (pg p)))
theorem eP_s (Lp : Nat → List (Option EV)) (pg : Nat → Nat) (j : Nat) : eP Lp pg (j + 1) = eP Lp pg j ++ ents (Lp (pg j)) := by simp [eP, List.range_succ]
theorem eP_0 (Lp : Nat → List (Option EV)) (pg : Nat → Nat) : eP Lp pg 0 = [] := rfl
theorem PgR.obj {K : Kx} {h : Hp} {rw : Nat → Nat} {Lp : Nat → List (Option EV)} {a c : Nat} (g : PgR K h rw Lp a c) : ∃ fs, h a = some (xO 1 fs) := ⟨_, g.1.1⟩
section Pic
variable {l : Launch} {K : Kx} {h : Hp} {ad : Nat → Nat} {num : Int32} {sc : Nat} {pg : Nat → Nat} {kd ty : Nat → Int32} {rw : Nat → Nat} {Lp : Nat → List (Option EV)} {hd : Nat → Nat}
theorem sp_picCountEntries (htr : l.stackTraces = false) (P : PicR K h ad num sc pg kd ty) (G : ∀ p, p < 16 → PgR K h rw Lp (pg p) (hd p)) : mX2_countEntries l K [.ref (ad 0)] h (kI fun r h' => r = nI (eP Lp pg 16).length ∧ h' = h) := by
  obtain ⟨h1, ⟨g, h2, h3⟩, h4, h5⟩ := P
  refine fX2_countEntries htr ?_
  intro X hX
  refine loopN (n := 16) (fun j => X (nI (eP Lp pg j).length) (nI j) h) ?_ ?_ 0 (Nat.zero_le _)
  · exact hX _ _ _ ⟨fun _ => ⟨_, rfl, rfl, rfl⟩, fun q => absurd (nI_le (Nat.le_refl _) (by omega)) q⟩
  · intro j hj ih
    have g1 := G j hj
    refine hX _ _ _ ⟨fun q => absurd q (nI_ge hj (by omega)), fun q => ⟨_, gf_of h1, _, aQ_x h2 hj (by omega), pg j, h3 j hj, g1.obj, ?_⟩⟩
    refine (sp_countEntries htr g1.1 (by have := g1.2.2.2.1; omega)).I ?_
    rintro r h' ⟨rfl, rfl⟩
    rw [nI_sub1, nI_add]; rw [eP_s, List.length_append] at ih; exact ih
theorem sp_picCountEntriesOf {s : Int32} (htr : l.stackTraces = false) (P : PicR K h ad num sc pg kd ty) (G : ∀ p, p < 16 → PgR K h rw Lp (pg p) (hd p)) : mX2_countEntriesOf l K [.ref (ad 0), .int s] h (kI fun r h' => r = nI ((eP Lp pg 16).countP (fun v => decide (v.1 = s))) ∧ h' = h) := by
  obtain ⟨h1, ⟨g, h2, h3⟩, h4, h5⟩ := P
  refine fX2_countEntriesOf htr ?_
  intro X hX
  refine loopN (n := 16) (fun j => X (nI ((eP Lp pg j).countP (fun v => decide (v.1 = s)))) (nI j) h) ?_ ?_ 0 (Nat.zero_le _)
  · exact hX _ _ _ ⟨fun _ => ⟨_, rfl, rfl, rfl⟩, fun q => absurd (nI_le (Nat.le_refl _) (by omega)) q⟩
  · intro j hj ih
    have g1 := G j hj
    refine hX _ _ _ ⟨fun q => absurd q (nI_ge hj (by omega)), fun q => ⟨_, gf_of h1, _, aQ_x h2 hj (by omega), pg j, h3 j hj, g1.obj, ?_⟩⟩
    refine (sp_countEntriesOf htr g1.1 (by have := g1.2.2.2.1; omega)).I ?_
    rintro r h' ⟨rfl, rfl⟩
    rw [nI_sub1, nI_add]; rw [eP_s, List.countP_append] at ih; exact ih
theorem sp_picCountNumbers (htr : l.stackTraces = false) (P : PicR K h ad num sc pg kd ty) (G : ∀ p, p < 16 → PgR K h rw Lp (pg p) (hd p)) : mX2_countNumbers l K [.ref (ad 0)] h (kI fun r h' => r = nI ((eP Lp pg 16).map (fun v => v.2.2.2.1.length)).sum ∧ h' = h) := by
  obtain ⟨h1, ⟨g, h2, h3⟩, h4, h5⟩ := P
  refine fX2_countNumbers htr ?_
  intro X hX
  refine loopN (n := 16) (fun j => X (nI ((eP Lp pg j).map (fun v => v.2.2.2.1.length)).sum) (nI j) h) ?_ ?_ 0 (Nat.zero_le _)
  · exact hX _ _ _ ⟨fun _ => ⟨_, rfl, rfl, rfl⟩, fun q => absurd (nI_le (Nat.le_refl _) (by omega)) q⟩
  · intro j hj ih
    have g1 := G j hj
    refine hX _ _ _ ⟨fun q => absurd q (nI_ge hj (by omega)), fun q => ⟨_, gf_of h1, _, aQ_x h2 hj (by omega), pg j, h3 j hj, g1.obj, ?_⟩⟩
    refine (sp_countNumbers htr g1.1 (by have := g1.2.2.2.1; omega)).I ?_
    rintro r h' ⟨rfl, rfl⟩
    rw [nI_sub1, nI_add]; rw [eP_s, List.map_append, List.sum_append] at ih; exact ih
theorem sp_picCountPagesInUse (htr : l.stackTraces = false) (P : PicR K h ad num sc pg kd ty) (G : ∀ p, p < 16 → PgR K h rw Lp (pg p) (hd p)) : mX2_countPagesInUse l K [.ref (ad 0)] h (kI fun r h' => r = nI ((List.range 16).countP (fun p => decide (0 < (ents (Lp (pg p))).length))) ∧ h' = h) := by
  obtain ⟨h1, ⟨g, h2, h3⟩, h4, h5⟩ := P
  refine fX2_countPagesInUse htr ?_
  intro X hX
  refine loopN (n := 16) (fun j => X (nI ((List.range j).countP (fun p => decide (0 < (ents (Lp (pg p))).length)))) (nI j) h) ?_ ?_ 0 (Nat.zero_le _)
  · exact hX _ _ _ ⟨fun _ => ⟨_, rfl, rfl, rfl⟩, fun q => absurd (nI_le (Nat.le_refl _) (by omega)) q⟩
  · intro j hj ih
    have g1 := G j hj
    have hle : (ents (Lp (pg j))).length < 2 ^ 31 := by have := g1.2.2.2.1; have := ents_len (Lp (pg j)); omega
    refine hX _ _ _ ⟨fun q => absurd q (nI_ge hj (by omega)), fun q => ⟨_, gf_of h1, _, aQ_x h2 hj (by omega), pg j, h3 j hj, g1.obj, ?_⟩⟩
    refine (sp_countEntries htr g1.1 (by have := g1.2.2.2.1; omega)).I ?_
    rintro r h' ⟨rfl, rfl⟩
    rw [List.range_succ, List.countP_append] at ih
    refine ⟨fun q => ?_, fun q => ?_⟩
    · have : ¬ 0 < (ents (Lp (pg j))).length := fun z => nI_ge z hle q
      rw [nI_sub1]; simpa [this] using ih
    · have : 0 < (ents (Lp (pg j))).length := Nat.pos_of_ne_zero fun z => q (by rw [z]; exact nI_le (Nat.le_refl _) (by decide))
      rw [nI_sub1, nI_sub1]; simpa [this] using ih
theorem sp_picCountShared (htr : l.stackTraces = false) (P : PicR K h ad num sc pg kd ty) (G : ∀ p, p < 16 → PgR K h rw Lp (pg p) (hd p)) (hh : ∀ p, p < 16 → hd p < 100) : mX2_countShared l K [.ref (ad 0)] h (kI fun r h' => r = nI ((List.range 16).countP (fun p => decide (0 < hd p))) ∧ h' = h) := by
  obtain ⟨h1, ⟨g, h2, h3⟩, h4, h5⟩ := P
  refine fX2_countShared htr ?_
  intro X hX
  refine loopN (n := 16) (fun j => X (nI ((List.range j).countP (fun p => decide (0 < hd p)))) (nI j) h) ?_ ?_ 0 (Nat.zero_le _)
  · exact hX _ _ _ ⟨fun _ => ⟨_, rfl, rfl, rfl⟩, fun q => absurd (nI_le (Nat.le_refl _) (by omega)) q⟩
  · intro j hj ih
    have g1 := G j hj
    have hle := hh j hj
    refine hX _ _ _ ⟨fun q => absurd q (nI_ge hj (by omega)), fun q => ⟨_, gf_of h1, _, aQ_x h2 hj (by omega), pg j, h3 j hj, g1.obj, ?_⟩⟩
    refine (sp_isShared htr g1.1).I ?_
    rintro r h' ⟨rfl, rfl⟩
    rw [List.range_succ, List.countP_append] at ih
    refine ⟨fun q => ?_, fun q => ?_⟩
    · have : ¬ 0 < hd j := fun z => bI_0.mp q (Int32.not_le.mp (nI_ge z (by omega)))
      rw [nI_sub1]; simpa [this] using ih
    · have : 0 < hd j := Nat.pos_of_ne_zero fun z => q (bI_0.mpr (Int32.not_lt.mpr (by rw [z]; exact nI_le (Nat.le_refl _) (by decide))))
      rw [nI_sub1, nI_sub1]; simpa [this] using ih
theorem sp_picAllFit {s k t : Int32} (htr : l.stackTraces = false) (P : PicR K h ad num sc pg kd ty) (G : ∀ p, p < 16 → PgR K h rw Lp (pg p) (hd p)) : mX2_allFit l K [.ref (ad 0), .int s, .int k, .int t] h (kI fun r h' => (∃ d : Decidable (∀ v ∈ eP Lp pg 16, v.1 = s → ∀ x ∈ v.2.2.2.1, ft k t x), r = @bI _ d) ∧ h' = h) := by
  obtain ⟨h1, ⟨g, h2, h3⟩, h4, h5⟩ := P
  refine fX2_allFit htr ?_
  intro X hX
  have dd : Decidable (∀ v ∈ eP Lp pg 16, v.1 = s → ∀ x ∈ v.2.2.2.1, ft k t x) := Classical.propDecidable _
  refine loopN (n := 16) (fun j => (∀ v ∈ eP Lp pg j, v.1 = s → ∀ x ∈ v.2.2.2.1, ft k t x) → X (nI j) h) ?_ ?_ 0 (Nat.zero_le _) (by simp [eP_0])
  · intro hf
    exact hX _ _ ⟨fun _ => ⟨_, rfl, ⟨dd, (bI_t hf).symm⟩, rfl⟩, fun q => absurd (nI_le (Nat.le_refl _) (by omega)) q⟩
  · intro j hj ih hf
    have g1 := G j hj
    refine hX _ _ ⟨fun q => absurd q (nI_ge hj (by omega)), fun q => ⟨_, gf_of h1, _, aQ_x h2 hj (by omega), pg j, h3 j hj, g1.obj, ?_⟩⟩
    refine (sp_pgAllFit htr g1.1 (by have := g1.2.2.2.1; omega) g1.2.1).I ?_
    rintro r h' ⟨⟨d9, rfl⟩, rfl⟩
    refine ⟨fun q => ?_, fun q => ⟨_, rfl, ⟨dd, (bI_f ?_).symm⟩, rfl⟩⟩
    · rw [nI_sub1]
      refine ih ?_
      rw [eP_s]
      intro v hv
      rcases List.mem_append.mp hv with z | z
      · exact hf v z
      · exact (Classical.byContradiction fun y => q (bI_0.mpr y)) v z
    · intro z
      refine bI_0.mp q fun v hv => z v ?_
      exact List.mem_flatMap.mpr ⟨j, List.mem_range.mpr hj, hv⟩
/-- the number of the page of an entry -/
def pgN (s : Int32) (k : Int64) (sp : Int32) : Int32 := ((((((k.toInt32 ^^^ (((k.toUInt64 >>> ((nI 32).toInt64.toUInt64 &&& Int64.toUInt64 63)).toInt64).toInt32)) * (nI 31)) + sp) * (nI 31)) + s) &&& (nI 15))
theorem sp_pageNumber {s : Int32} {k : Int64} {sp : Int32} (htr : l.stackTraces = false) : mX3_pageNumber l K [.int s, .long k, .int sp] h (kI fun r h' => r = pgN s k sp ∧ h' = h) := fX3_pageNumber htr ⟨_, rfl, rfl, rfl⟩
theorem and15 (x : Int32) : ∃ p, p < 16 ∧ x &&& nI 15 = nI p := by
  refine ⟨(x.toBitVec &&& 15#32).toNat, ?_, ?_⟩
  · rw [BitVec.toNat_and]
    exact Nat.lt_of_le_of_lt Nat.and_le_right (by decide)
  · apply Int32.toBitVec_inj.mp
    simp [nI]
theorem pgN_lt (s : Int32) (k : Int64) (sp : Int32) : ∃ p, p < 16 ∧ pgN s k sp = nI p := and15 _
/-- that number -/
def pgI (s : Int32) (k : Int64) (sp : Int32) : Nat := (pgN s k sp).toNatClampNeg
theorem pgI_lt (s : Int32) (k : Int64) (sp : Int32) : pgI s k sp < 16 := by
  obtain ⟨p, h1, h2⟩ := pgN_lt s k sp
  rw [pgI, h2, nI_clamp (by omega)]; exact h1
theorem pgN_eq (s : Int32) (k : Int64) (sp : Int32) : pgN s k sp = nI (pgI s k sp) := by
  obtain ⟨p, h1, h2⟩ := pgN_lt s k sp
  rw [pgI, h2, nI_clamp (by omega)]
end Pic
