/-! ===== the class: pages, counts and sweeps ===== -/
abbrev ents (L : List (Option EV)) : List EV := L.filterMap id
theorem ents_n {L : List (Option EV)} {j : Nat} (h : L[j]? = some none) : ents (L.take (j + 1)) = ents (L.take j) := by
  simp [ents, List.take_add_one, h]
theorem ents_s {L : List (Option EV)} {j : Nat} {v : EV} (h : L[j]? = some (some v)) : ents (L.take (j + 1)) = ents (L.take j) ++ [v] := by
  simp [ents, List.take_add_one, h]
theorem ents_len (L : List (Option EV)) : (ents L).length ≤ L.length := List.length_filterMap_le _ _
theorem mem_ents {L : List (Option EV)} {v : EV} : v ∈ ents L ↔ some v ∈ L := by simp [ents]
theorem ents_take_le (L : List (Option EV)) (j : Nat) : (ents (L.take j)).length ≤ j := by
  have h1 := ents_len (L.take j)
  have h2 := List.length_take_le j L
  omega
theorem sp_countEntries {l : Launch} {K : Kx} {h : Hp} {p rw : Nat} {L : List (Option EV)} {c : Int32} (htr : l.stackTraces = false) (P : PgAt K h p rw L c) (hn : L.length < 100000) : mX1_countEntries l K [.ref p] h (kI fun r h' => r = nI (ents L).length ∧ h' = h) := by
  obtain ⟨h1, f, h2, r⟩ := P
  refine fX1_countEntries htr ?_
  intro X hX
  refine loopN (n := L.length) (fun j => X (nI (ents (L.take j)).length) (nI j)) ?_ ?_ 0 (Nat.zero_le _)
  · refine hX _ _ ⟨rw, gf_of h1, _, alen_xQ h2, fun q => ⟨_, rfl, by rw [List.take_length], rfl⟩, fun q => absurd (nI_le (Nat.le_refl _) (by omega)) q⟩
  · intro j hj ih
    refine hX _ _ ⟨rw, gf_of h1, _, alen_xQ h2, fun q => absurd q (nI_ge hj (by omega)), fun q => ⟨rw, gf_of h1, _, aQ_x h2 hj (by omega), ?_⟩⟩
    rcases r.at hj with ⟨a1, a2⟩ | ⟨v, e, a1, a2, a3⟩
    · refine ⟨fun _ => ?_, fun a ha => ?_⟩
      · rw [nI_sub1]; rw [ents_n a1] at ih; exact ih
      · rw [a2] at ha; cases ha
    · refine ⟨fun ha => ?_, fun a ha => ?_⟩
      · rw [a2] at ha; cases ha
      · rw [nI_sub1, nI_sub1]; rw [ents_s a1, List.length_append] at ih; exact ih
theorem sp_countEntriesOf {l : Launch} {K : Kx} {h : Hp} {p rw : Nat} {L : List (Option EV)} {c s : Int32} (htr : l.stackTraces = false) (P : PgAt K h p rw L c) (hn : L.length < 100000) : mX1_countEntriesOf l K [.ref p, .int s] h (kI fun r h' => r = nI ((ents L).countP (fun v => decide (v.1 = s))) ∧ h' = h) := by
  obtain ⟨h1, f, h2, r⟩ := P
  refine fX1_countEntriesOf htr ?_
  intro X hX
  refine loopN (n := L.length) (fun j => X (nI ((ents (L.take j)).countP (fun v => decide (v.1 = s)))) (nI j)) ?_ ?_ 0 (Nat.zero_le _)
  · refine hX _ _ ⟨rw, gf_of h1, _, alen_xQ h2, fun q => ⟨_, rfl, by rw [List.take_length], rfl⟩, fun q => absurd (nI_le (Nat.le_refl _) (by omega)) q⟩
  · intro j hj ih
    refine hX _ _ ⟨rw, gf_of h1, _, alen_xQ h2, fun q => absurd q (nI_ge hj (by omega)), fun q => ⟨rw, gf_of h1, _, aQ_x h2 hj (by omega), ?_⟩⟩
    rcases r.at hj with ⟨a1, a2⟩ | ⟨v, e, a1, a2, a3⟩
    · refine ⟨fun _ => ?_, fun a ha => ?_⟩
      · rw [nI_sub1]; rw [ents_n a1] at ih; exact ih
      · rw [a2] at ha; cases ha
    · obtain ⟨nu, me, b1, b2, b3, nf⟩ := a3
      refine ⟨fun ha => ?_, fun a ha => ⟨rw, gf_of h1, _, aQ_x h2 hj (by omega), e, a2, v.1, gf_of b1, fun q => ?_, fun q => ?_⟩⟩
      · rw [a2] at ha; cases ha
      · rw [nI_sub1]; rw [ents_s a1, List.countP_append] at ih; simpa [q] using ih
      · rw [nI_sub1, nI_sub1]; rw [ents_s a1, List.countP_append] at ih; simpa [q] using ih
theorem sp_countNumbers {l : Launch} {K : Kx} {h : Hp} {p rw : Nat} {L : List (Option EV)} {c : Int32} (htr : l.stackTraces = false) (P : PgAt K h p rw L c) (hn : L.length < 100000) : mX1_countNumbers l K [.ref p] h (kI fun r h' => r = nI ((ents L).map (fun v => v.2.2.2.1.length)).sum ∧ h' = h) := by
  obtain ⟨h1, f, h2, r⟩ := P
  refine fX1_countNumbers htr ?_
  intro X hX
  refine loopN (n := L.length) (fun j => X (nI ((ents (L.take j)).map (fun v => v.2.2.2.1.length)).sum) (nI j)) ?_ ?_ 0 (Nat.zero_le _)
  · refine hX _ _ ⟨rw, gf_of h1, _, alen_xQ h2, fun q => ⟨_, rfl, by rw [List.take_length], rfl⟩, fun q => absurd (nI_le (Nat.le_refl _) (by omega)) q⟩
  · intro j hj ih
    refine hX _ _ ⟨rw, gf_of h1, _, alen_xQ h2, fun q => absurd q (nI_ge hj (by omega)), fun q => ⟨rw, gf_of h1, _, aQ_x h2 hj (by omega), ?_⟩⟩
    rcases r.at hj with ⟨a1, a2⟩ | ⟨v, e, a1, a2, a3⟩
    · refine ⟨fun _ => ?_, fun a ha => ?_⟩
      · rw [nI_sub1]; rw [ents_n a1] at ih; exact ih
      · rw [a2] at ha; cases ha
    · obtain ⟨nu, me, b1, b2, b3, nf⟩ := a3
      refine ⟨fun ha => ?_, fun a ha => ⟨rw, gf_of h1, _, aQ_x h2 hj (by omega), e, a2, nu, gf_of b1, _, alen_jl b2, ?_⟩⟩
      · rw [a2] at ha; cases ha
      · rw [nI_sub1, nI_add]; rw [ents_s a1, List.map_append, List.sum_append] at ih; simpa using ih
theorem sp_hasSpan {l : Launch} {K : Kx} {h : Hp} {p rw : Nat} {L : List (Option EV)} {c s : Int32} (htr : l.stackTraces = false) (P : PgAt K h p rw L c) (hn : L.length < 100000) : mX1_hasSpan l K [.ref p, .int s] h (kI fun r h' => r = bI (∃ v ∈ ents L, v.2.2.1 = s) ∧ h' = h) := by
  obtain ⟨h1, f, h2, r⟩ := P
  refine fX1_hasSpan htr ?_
  intro X hX
  refine loopN (n := L.length) (fun j => (∀ v ∈ ents (L.take j), v.2.2.1 ≠ s) → X (nI j)) ?_ ?_ 0 (Nat.zero_le _) (by simp)
  · intro hf
    refine hX _ ⟨rw, gf_of h1, _, alen_xQ h2, fun q => ⟨_, rfl, (bI_f ?_).symm, rfl⟩, fun q => absurd (nI_le (Nat.le_refl _) (by omega)) q⟩
    rintro ⟨v, hv, he⟩
    rw [List.take_length] at hf
    exact hf v hv he
  · intro j hj ih hf
    refine hX _ ⟨rw, gf_of h1, _, alen_xQ h2, fun q => absurd q (nI_ge hj (by omega)), fun q => ⟨rw, gf_of h1, _, aQ_x h2 hj (by omega), ?_⟩⟩
    rcases r.at hj with ⟨a1, a2⟩ | ⟨v, e, a1, a2, a3⟩
    · refine ⟨fun _ => ?_, fun a ha => ?_⟩
      · rw [nI_sub1]; rw [ents_n a1] at ih; exact ih hf
      · rw [a2] at ha; cases ha
    · obtain ⟨nu, me, b1, b2, b3, nf⟩ := a3
      refine ⟨fun ha => ?_, fun a ha => ⟨rw, gf_of h1, _, aQ_x h2 hj (by omega), e, a2, v.2.2.1, gf_of b1, fun q => ?_, fun q => ⟨_, rfl, (bI_t ⟨v, mem_ents.mpr (List.mem_of_getElem? a1), q⟩).symm, rfl⟩⟩⟩
      · rw [a2] at ha; cases ha
      · rw [nI_sub1]; rw [ents_s a1] at ih
        refine ih fun w hw => ?_
        rcases List.mem_append.mp hw with z | z
        · exact hf w z
        · rw [List.mem_singleton.mp z]; exact q
theorem sp_pgAllFit {l : Launch} {K : Kx} {h : Hp} {p rw : Nat} {L : List (Option EV)} {c s kd ty : Int32} (htr : l.stackTraces = false) (P : PgAt K h p rw L c) (hn : L.length < 100000) (hL : okL L) : mX1_allFit l K [.ref p, .int s, .int kd, .int ty] h (kI fun r h' => (∃ d : Decidable (∀ v ∈ ents L, v.1 = s → ∀ x ∈ v.2.2.2.1, ft kd ty x), r = @bI _ d) ∧ h' = h) := by
  obtain ⟨h1, f, h2, r⟩ := P
  refine fX1_allFit htr ?_
  intro X hX
  have dd : Decidable (∀ v ∈ ents L, v.1 = s → ∀ x ∈ v.2.2.2.1, ft kd ty x) := Classical.propDecidable _
  refine loopN (n := L.length) (fun j => (∀ v ∈ ents (L.take j), v.1 = s → ∀ x ∈ v.2.2.2.1, ft kd ty x) → X (nI j) h) ?_ ?_ 0 (Nat.zero_le _) (by simp)
  · intro hf
    refine hX _ _ ⟨rw, gf_of h1, _, alen_xQ h2, fun q => ⟨_, rfl, ⟨dd, (bI_t ?_).symm⟩, rfl⟩, fun q => absurd (nI_le (Nat.le_refl _) (by omega)) q⟩
    rw [List.take_length] at hf
    exact hf
  · intro j hj ih hf
    refine hX _ _ ⟨rw, gf_of h1, _, alen_xQ h2, fun q => absurd q (nI_ge hj (by omega)), fun q => ⟨rw, gf_of h1, _, aQ_x h2 hj (by omega), ?_⟩⟩
    rcases r.at hj with ⟨a1, a2⟩ | ⟨v, e, a1, a2, a3⟩
    · refine ⟨fun _ => ?_, fun a ha => ?_⟩
      · rw [nI_sub1]; rw [ents_n a1] at ih; exact ih hf
      · rw [a2] at ha; cases ha
    · have a3' := a3
      obtain ⟨nu, me, b1, b2, b3, nf⟩ := a3
      have go : (v.1 = s → ∀ x ∈ v.2.2.2.1, ft kd ty x) → X (nI j + nI 1) h := fun z => by
        rw [nI_sub1]; rw [ents_s a1] at ih
        refine ih fun w hw => ?_
        rcases List.mem_append.mp hw with y | y
        · exact hf w y
        · rw [List.mem_singleton.mp y]; exact z
      refine ⟨fun ha => ?_, fun a ha => ⟨rw, gf_of h1, _, aQ_x h2 hj (by omega), e, a2, v.1, gf_of b1, fun q => go (fun z => absurd z q), fun q => ⟨rw, gf_of h1, _, aQ_x h2 hj (by omega), e, a2, a3'.obj, ?_⟩⟩⟩
      · rw [a2] at ha; cases ha
      · refine (sp_allFit htr a3' (by have := (hL v (List.mem_of_getElem? a1)).2.1; omega)).I ?_
        rintro x h' ⟨⟨d9, rfl⟩, rfl⟩
        refine ⟨fun z => go fun _ => Classical.byContradiction fun y => z (bI_0.mpr y), fun z => ⟨_, rfl, ⟨dd, (bI_f ?_).symm⟩, rfl⟩⟩
        intro y
        exact bI_0.mp z (y v (mem_ents.mpr (List.mem_of_getElem? a1)) q)
