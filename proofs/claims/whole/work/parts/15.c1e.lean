/-! ===== the class: pages, a row more; copies; sorted keys ===== -/
theorem ents_app (A B : List (Option EV)) : ents (A ++ B) = ents A ++ ents B := List.filterMap_append
theorem ents_cut {L : List (Option EV)} {j : Nat} {o : Option EV} (h : L[j]? = some o) : ents L = ents (L.take j) ++ o.toList ++ ents (L.drop (j + 1)) := by
  have hj : j < L.length := (List.getElem?_eq_some_iff.mp h).1
  have h2 : L.drop j = o :: L.drop (j + 1) := by
    rw [List.drop_eq_getElem_cons hj]
    congr 1
    exact (List.getElem?_eq_some_iff.mp h).2
  conv => lhs; rw [← List.take_append_drop j L, ents_app, h2]
  cases o <;> simp [ents]
theorem ents_set {L : List (Option EV)} {j : Nat} (hj : j < L.length) (o : Option EV) : ents (L.set j o) = ents (L.take j) ++ o.toList ++ ents (L.drop (j + 1)) := by
  rw [ents_cut (j := j) (o := o) (List.getElem?_set_self hj)]
  rw [List.take_set_of_le (Nat.le_refl _), List.drop_set_of_lt (Nat.lt_succ_self _)]
theorem sp_freeRow {l : Launch} {K : Kx} {h : Hp} {p rw : Nat} {L : List (Option EV)} {c : Int32} {mc ms : Nat} (htr : l.stackTraces = false) (P : PgAt K h p rw L c) (hn : L.length < 100000) (hn0 : 0 < L.length) (hL : okL L) (hpr : p ≠ rw) (hm : 1 ≤ mc) (hs : 2 * L.length ≤ ms) :
    mX1_freeRow l K mc ms [.ref p] h (kI fun r h' => ∃ j rw' L', r = nI j ∧ j < L'.length ∧ L'[j]? = some none ∧ PgAt K h' p rw' L' c ∧ p ≠ rw' ∧ Imm K h h' ∧ (∀ a x, h a = some x → a ≠ p → h' a = some x) ∧ (rw' = rw ∨ h rw' = none) ∧ (L' = L ∨ (L' = L ++ List.replicate L.length none ∧ (ents L).length = L.length))) := by
  have P' := P
  obtain ⟨h1, f, h2, r⟩ := P
  refine fX1_freeRow htr ?_
  intro X hX
  refine loopN (n := L.length) (fun j => (ents (L.take j)).length = j → X (nI j)) ?_ ?_ 0 (Nat.zero_le _) rfl
  · intro hful
    rw [List.take_length] at hful
    refine hX _ ⟨rw, gf_of h1, _, alen_xQ h2, fun q => ⟨rw, gf_of h1, _, alen_xQ h2, L.length * 2, by rw [pk_mul], by omega, by omega, by omega, ?_⟩, fun q => absurd (nI_le (Nat.le_refl _) (by omega)) q⟩
    rintro q2 h3 hq2 hb rfl
    intro Y hY
    have hq2p : q2 ≠ p := (ne_fresh h1 hq2).symm
    have hq2r : q2 ≠ rw := (ne_fresh h2 hq2).symm
    have z : Y (nI 0) (va_up h q2 (some (xQ K 3 (L.length * 2) (fun i => if i < 0 then f i else none)))) (0 + 1) (0 + L.length * 2) := by
      refine loopN (n := L.length) (fun j => Y (nI j) (va_up h q2 (some (xQ K 3 (L.length * 2) (fun i => if i < j then f i else none)))) (0 + 1) (0 + L.length * 2)) ?_ ?_ 0 (Nat.zero_le _)
      · have e1 : va_up h q2 (some (xQ K 3 (L.length * 2) (fun i => if i < L.length then f i else none))) p = some (xO 1 [.ref rw, .int c]) := by rw [up_n hq2p.symm]; exact h1
        refine hY _ _ _ _ ⟨fun _ => ⟨_, pf_of e1 (by simp), ⟨by omega, by omega⟩, _, rfl, L.length, q2, L ++ List.replicate L.length none, rfl, by simp; omega, ?_, ⟨?_, fun i => if i < L.length then f i else none, ?_, ?_⟩, hq2p.symm, ?_, ?_, Or.inr hq2, Or.inr ⟨rfl, hful⟩⟩, fun q => absurd (nI_le (Nat.le_refl _) (by omega)) q⟩
        · rw [List.getElem?_append_right (Nat.le_refl _)]
          simp [hn0]
        · rw [up_s]; rfl
        · rw [up_n hq2p, up_s]; simp; omega
        · have hi : Imm K h (va_up (va_up h q2 (some (xQ K 3 (L.length * 2) (fun i => if i < L.length then f i else none)))) p (some (xO 1 ([.ref rw, .int c].set 0 (.ref q2))))) := (Imm.up (Ext.rf.up hq2).imm fun x e => by rw [h1] at e; cases e; exact not_im_O (by decide))
          intro i hi2
          rw [List.length_append, List.length_replicate] at hi2
          by_cases hil : i < L.length
          · rw [List.getElem?_append_left hil]
            simp only [hil, if_true]
            exact r.imm hL hi i hil
          · rw [List.getElem?_append_right (by omega)]
            simp only [hil, if_false]
            exact ⟨fun _ => trivial, fun v hv => by rw [List.getElem?_replicate] at hv; split at hv <;> cases hv⟩
        · exact Imm.up (Ext.rf.up hq2).imm fun x e => by rw [h1] at e; cases e; exact not_im_O (by decide)
        · intro a x e n; rw [up_n n, up_n (ne_fresh e hq2)]; exact e
      · intro j hj ih
        have e1 : ∀ g, va_up h q2 (some (xQ K 3 (L.length * 2) g)) p = some (xO 1 [.ref rw, .int c]) := fun g => by rw [up_n hq2p.symm]; exact h1
        have e2 : ∀ g, va_up h q2 (some (xQ K 3 (L.length * 2) g)) rw = some (xQ K 3 L.length f) := fun g => by rw [up_n hq2r.symm]; exact h2
        refine hY _ _ _ _ ⟨fun q => absurd q (nI_ge hj (by omega)), fun q => ⟨rw, gf_of (e1 _), _, aQ_x (e2 _) hj (by omega), fun v9 hv9 => ?_, _, wQ_x (up_s _ _ _) (by omega) (by omega), ?_⟩⟩
        · rcases r.at hj with ⟨a1, a2⟩ | ⟨v, e, a1, a2, a3⟩
          · rw [a2] at hv9; cases hv9
          · rw [a2] at hv9; cases hv9
            obtain ⟨fs, hfs⟩ := a3.obj
            exact ⟨fs, by rw [up_n (ne_fresh hfs hq2)]; exact hfs⟩
        · rw [nI_sub1, up_up]
          have : va_up (fun i => if i < j then f i else none) j (f j) = fun i => if i < j + 1 then f i else none := by
            funext i
            by_cases y : i = j
            · subst y; rw [up_s]; simp
            · rw [up_n y]
              by_cases w : i < j
              · simp [w, Nat.lt_succ_of_lt w]
              · have : ¬ i < j + 1 := by omega
                simp [w, this]
          rw [this]
          exact ih
    simpa using z
  · intro j hj ih hful
    refine hX _ ⟨rw, gf_of h1, _, alen_xQ h2, fun q => absurd q (nI_ge hj (by omega)), fun q => ⟨rw, gf_of h1, _, aQ_x h2 hj (by omega), ?_⟩⟩
    rcases r.at hj with ⟨a1, a2⟩ | ⟨v, e, a1, a2, a3⟩
    · refine ⟨fun _ => ⟨⟨by omega, by omega⟩, _, rfl, j, rw, L, rfl, hj, a1, P', hpr, Imm.rf, fun _ _ e _ => e, Or.inl rfl, Or.inl rfl⟩, fun a ha => ?_⟩
      rw [a2] at ha; cases ha
    · refine ⟨fun ha => ?_, fun a ha => ?_⟩
      · rw [a2] at ha; cases ha
      · rw [nI_sub1]; exact ih (by rw [ents_s a1, List.length_append]; simp; exact hful)
/-- what a page holds behind a keeping -/
def nwE (v : EV) : Option EV := if v.2.2.2.1 = [] then none else some v
theorem ents_rep (n : Nat) : ents (List.replicate n none) = [] := by
  induction n with
  | zero => rfl
  | succ n ih => simp [List.replicate_succ]
theorem sp_keepEntry {l : Launch} {K : Kx} {h : Hp} {p rw e : Nat} {L : List (Option EV)} {c : Int32} {v : EV} {mc ms : Nat} (htr : l.stackTraces = false) (P : PgAt K h p rw L c) (E : EntAt K h e v) (hN : v.2.2.2.1.length < 100) (hM : v.2.2.2.2.1.length < 100) (hn : L.length < 10000) (hn0 : 0 < L.length) (hL : okL L) (hv : v.2.2.2.1 ≠ [] → okV v) (hpr : p ≠ rw) (hm : 1 ≤ mc) (hs : 2 * L.length ≤ ms) :
    mX1_keepEntry l K mc ms [.ref p, .ref e] h (kV fun h' => ∃ rw' L', PgAt K h' p rw' L' c ∧ p ≠ rw' ∧ okL L' ∧ Imm K h h' ∧ (∀ a x, h a = some x → a ≠ p → a ≠ rw → h' a = some x) ∧ (rw' = rw ∨ h rw' = none) ∧ (L'.length = L.length ∨ (L'.length = 2 * L.length ∧ (ents L).length = L.length)) ∧
      ∃ A B ow, ents L = A ++ ow.toList ++ B ∧ ents L' = A ++ (nwE v).toList ++ B ∧ (∀ w, ow = some w → w.1 = v.1 ∧ w.2.1 = v.2.1 ∧ w.2.2.1 = v.2.2.1) ∧ (ow = none → ∀ w ∈ ents L, ¬ (w.1 = v.1 ∧ w.2.1 = v.2.1 ∧ w.2.2.1 = v.2.2.1))) := by
  have E' := E
  obtain ⟨nu, me, b1, b2, b3, nf⟩ := E
  -- the write itself
  have wr : ∀ (h2 : Hp) (rw2 j : Nat) (L2 : List (Option EV)), PgAt K h2 p rw2 L2 c → p ≠ rw2 → EntAt K h2 e v → j < L2.length → L2.length < 100000 → okL L2 → ∀ (a b : Nat), a ≤ mc → b ≤ ms → ∀ (Post : Hp → Prop), (∀ h3, PgAt K h3 p rw2 (L2.set j (nwE v)) c → Imm K h2 h3 → (∀ a, a ≠ rw2 → h3 a = h2 a) → okL (L2.set j (nwE v)) → Post h3) →
      (∃ p_6, gf h2 p 1 0 = some (.ref p_6) ∧ ((∃ fs, h2 e = some (xO 0 fs)) ∧ (a ≤ mc ∧ b ≤ ms ∧ mX0_isNone l K [.ref e] h2 (kI (fun v_8 h_7 => ((v_8 = nI 0 → ((∃ fs, h_7 e = some (xO 0 fs)) ∧ ∃ h_9, wQ K 3 h_7 p_6 (nI j) (some e) = some h_9 ∧ ((a ≤ mc ∧ b ≤ ms) ∧ kV Post (.inl none) h_9))) ∧ (¬ v_8 = nI 0 → (∃ h_10, wQ K 3 h_7 p_6 (nI j) none = some h_10 ∧ ((a ≤ mc ∧ b ≤ ms) ∧ kV Post (.inl none) h_10)))))))) ) := by
    intro h2 rw2 j L2 P2 hpr2 E2 hj hn2 hL2 a b ha hb Post hPost
    obtain ⟨c1, f, c2, r⟩ := P2
    refine ⟨rw2, gf_of c1, E2.obj, ha, hb, ?_⟩
    refine (sp_isNone htr E2 (by omega)).I ?_
    rintro x h' ⟨rfl, rfl⟩
    have im2 : ∀ g, Imm K h' (va_up h' rw2 (some (xQ K 3 L2.length g))) := fun g => Imm.rf.up fun x e => by rw [c2] at e; cases e; exact not_im_Q
    have fin : ∀ (x : Option Nat), (nwE v = none → x = none) → (∀ w, nwE v = some w → ∃ e2, x = some e2 ∧ EntAt K h' e2 w) → Post (va_up h' rw2 (some (xQ K 3 L2.length (va_up f j x)))) := fun x z1 z2 => by
      have ok2 : okL (L2.set j (nwE v)) := by
        intro w hw
        rcases List.mem_or_eq_of_mem_set hw with z | z
        · exact hL2 w z
        · unfold nwE at z
          split at z
          · cases z
          · rename_i hne; cases z; exact hv hne
      refine hPost _ ⟨by rw [up_n hpr2]; exact c1, va_up f j x, by rw [up_s, List.length_set], ?_⟩ (im2 _) (fun a n => up_n n) ok2
      exact (r.set hj z1 z2).imm ok2 (im2 _)
    refine ⟨fun q => ⟨E2.obj, _, wQ_x c2 hj (by omega), ⟨ha, hb⟩, rfl, ?_⟩, fun q => ⟨_, wQ_x c2 hj (by omega), ⟨ha, hb⟩, rfl, ?_⟩⟩
    · have hne : ¬ v.2.2.2.1 = [] := bI_0.mp q
      exact fin (some e) (fun z => by simp [nwE, hne] at z) (fun w z => by simp [nwE, hne] at z; subst z; exact ⟨e, rfl, E2⟩)
    · have hne : v.2.2.2.1 = [] := Classical.byContradiction fun z => q (bI_0.mpr z)
      exact fin none (fun _ => rfl) (fun w z => by simp [nwE, hne] at z)
  refine fX1_keepEntry htr ⟨v.1, gf_of b1, v.2.1, gf_of b1, v.2.2.1, gf_of b1, ⟨_, P.1⟩, by omega, by omega, ?_⟩
  refine (sp_rowOf htr P (by omega)).I ?_
  rintro x h' ⟨rfl, rfl⟩
  cases hf : L.findIdx? (mt v.1 v.2.1 v.2.2.1) with
  | some j =>
    obtain ⟨hj, hm1, -⟩ := List.findIdx?_eq_some_iff_getElem.mp hf
    refine ⟨fun _ => ?_, fun q => ?_⟩
    · refine wr h' rw j L P hpr E' hj (by omega) hL _ _ (by omega) (by omega) _ ?_
      intro h3 P3 im3 fr3 ok3
      refine ⟨rw, _, P3, hpr, ok3, im3, fun a x e _ n => by rw [fr3 a n]; exact e, Or.inl rfl, Or.inl (List.length_set), _, _, L[j], ents_cut (by simp [hj]), ents_set hj _, ?_, ?_⟩
      · intro w hw
        rw [hw] at hm1
        simpa [mt] using hm1
      · intro hw
        rw [hw] at hm1
        simp [mt] at hm1
    · exfalso
      have h1 : (nI j).toInt = j := nI_toInt (by omega)
      have h2 : (-nI 1 : Int32).toInt = -1 := by decide
      have : (rowR (some j)) = nI j := rfl
      rw [this] at q
      rw [q, h2] at h1
      omega
  | none =>
    refine ⟨fun q => absurd rfl q, fun _ => ⟨⟨_, P.1⟩, 1, 2 * L.length, by omega, by omega, ?_⟩⟩
    refine (sp_freeRow htr P (by omega) hn0 hL hpr (Nat.le_refl _) (Nat.le_refl _)).I ?_
    rintro x h2 ⟨j, rw', L', rfl, hj, hjn, P2, hpr2, im2, fr2, hrw, hL'⟩
    have ok' : okL L' := by
      rcases hL' with rfl | ⟨rfl, _⟩
      · exact hL
      · intro w hw
        rcases List.mem_append.mp hw with z | z
        · exact hL w z
        · have := List.eq_of_mem_replicate z; cases this
    have he : ents L' = ents L := by
      rcases hL' with rfl | ⟨rfl, _⟩
      · rfl
      · rw [ents_app, ents_rep, List.append_nil]
    have hlen : L'.length = L.length ∨ (L'.length = 2 * L.length ∧ (ents L).length = L.length) := by
      rcases hL' with rfl | ⟨rfl, z⟩
      · exact Or.inl rfl
      · exact Or.inr ⟨by simp; omega, z⟩
    have hlt : L'.length < 100000 := by omega
    refine wr h2 rw' j L' P2 hpr2 (E'.imm hN hM im2) hj hlt ok' _ _ (by omega) (by omega) _ ?_
    intro h3 P3 im3 fr3 ok3
    refine ⟨rw', _, P3, hpr2, ok3, im2.tr im3, fun a x e n1 n2 => ?_, hrw, by rw [List.length_set]; exact hlen, _, _, none, by rw [← he]; exact ents_cut hjn, ents_set hj _, (fun w hw => by cases hw), fun _ w hw z => ?_⟩
    · have : a ≠ rw' := by
        rcases hrw with y | y
        · rw [y]; exact n2
        · exact ne_fresh e y
      rw [fr3 a this]; exact fr2 _ _ e n1
    · have := List.findIdx?_eq_none_iff.mp hf (some w) (mem_ents.mp hw)
      simp [mt, z] at this

theorem sp_pgInit {l : Launch} {K : Kx} {h : Hp} {q : Nat} {x y : Value} {mc ms : Nat} (htr : l.stackTraces = false) (hq : h q = some (xO 1 [x, y])) (hm : 1 ≤ mc) (hs : 4 ≤ ms) : mX1_init l K mc ms [.ref q] h (kV fun h' => ∃ rw, h rw = none ∧ kB K ≤ rw ∧ h' = va_up (va_up h rw (some (xQ K 3 4 (fun _ => none)))) q (some (xO 1 [.ref rw, .int (nI 0)]))) := by
  refine fX1_init htr ⟨4, rfl, by decide, by omega, by omega, ?_⟩
  rintro r h2 hr hb rfl
  have hqr := ne_fresh hq hr
  have e1 : va_up h r (some (xQ K 3 4 (fun _ => none))) q = some (xO 1 [x, y]) := by rw [up_n hqr]; exact hq
  refine ⟨_, pf_of e1 (by simp), _, pf_of (up_s _ _ _) (by simp), ⟨by omega, by omega⟩, rfl, r, hr, hb, ?_⟩
  rw [up_up]
  rfl
theorem sp_copied {l : Launch} {K : Kx} {h : Hp} {p rw : Nat} {L : List (Option EV)} {c : Int32} {mc ms : Nat} (htr : l.stackTraces = false) (P : PgAt K h p rw L c) (hL : okL L) (hm : 3 ≤ mc) (hs : L.length + 6 ≤ ms) : mX1_copied l K mc ms [.ref p] h (kQ fun o h' => ∃ q rw', o = some q ∧ h q = none ∧ h rw' = none ∧ q ≠ rw' ∧ kB K ≤ q ∧ PgAt K h' q rw' L (nI 0) ∧ Ext h h') := by
  obtain ⟨h1, f, h2, r⟩ := P
  refine fX1_copied htr ⟨by omega, by omega, ?_⟩
  rintro q h3 hq hb rfl
  refine ⟨1, 4, by omega, by omega, ?_⟩
  refine (sp_pgInit htr (up_s _ _ _) (Nat.le_refl _) (Nat.le_refl _)).V ?_
  rintro h4 ⟨r0, hr0, hb0, rfl⟩
  obtain ⟨hqr, hr0h⟩ := fresh2 hr0
  have x4 : Ext h (va_up (va_up (va_up h q (some (xO 1 [.null, .int 0]))) r0 (some (xQ K 3 4 (fun _ => none)))) q (some (xO 1 [.ref r0, .int (nI 0)]))) := ((Ext.rf.up hq).up hr0h).up hq
  refine ⟨rw, gf_of (x4 _ _ h1), _, _, x4 _ _ h2, by omega, by omega, ?_⟩
  rintro q2 h5 hq2 hb2 rfl
  have hq2q : q2 ≠ q := fun z => by rw [z, up_s] at hq2; cases hq2
  have hq2h : h q2 = none := by
    cases e : h q2 with
    | none => rfl
    | some x => rw [x4 _ _ e] at hq2; cases hq2
  refine ⟨_, _, up_s _ _ _, _, pf_of (by rw [up_n hq2q.symm, up_s]) (by simp), ⟨by omega, by omega⟩, kQ_ref ⟨q, q2, rfl, hq, hq2h, hq2q.symm, hb, ⟨?_, f, ?_, ?_⟩, ?_⟩⟩
  · rw [up_s]; rfl
  · rw [up_n hq2q, up_s]
  · exact r.imm hL ((x4.up hq2h).up hq).imm
  · exact (x4.up hq2h).up hq
