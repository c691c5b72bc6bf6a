/-! ===== the class: pages that change, further ===== -/
def mvO (s kd ty : Int32) (o : Option EV) : Option EV := o.map (fun v => if v.1 = s then mvE kd ty v else v)
theorem ents_mvO (s kd ty : Int32) (L : List (Option EV)) : ents (L.map (mvO s kd ty)) = (ents L).map (fun v => if v.1 = s then mvE kd ty v else v) := by
  induction L with
  | nil => rfl
  | cons o L ih =>
    cases o with
    | none => simpa [mvO] using ih
    | some v => simpa [mvO] using ih
theorem mvE_ok {kd ty : Int32} {v : EV} (h : okV v) : okV (mvE kd ty v) := by
  obtain ⟨h1, h2, h3⟩ := h
  unfold mvE
  split
  · refine ⟨by simp, by simp, by simp⟩
  · split
    · exact ⟨h1, h2, h3⟩
    · exact ⟨h1, h2, by simp⟩
theorem up_self {h : Hp} {a : Nat} {x : va_E} (e : h a = some x) : va_up h a (some x) = h := by
  funext b
  by_cases y : b = a
  · subst y; rw [up_s, e]
  · rw [up_n y]
theorem upf_self {f : Nat → Option Nat} {j : Nat} {x : Option Nat} (e : f j = x) : va_up f j x = f := by
  funext b
  by_cases y : b = j
  · subst y; rw [up_s, e]
  · rw [up_n y]
theorem sp_moveEntries {l : Launch} {K : Kx} {h : Hp} {p rw : Nat} {L : List (Option EV)} {c s kd ty : Int32} {mc ms : Nat} (htr : l.stackTraces = false) (P : PgAt K h p rw L c) (he : eK K h) (hn : L.length < 100000) (hL : okL L) (hpr : p ≠ rw)
    (hm : 2 * (ents L).countP (fun v => decide (v.1 = s)) ≤ mc) (hs : 7 * (ents L).countP (fun v => decide (v.1 = s)) ≤ ms) :
    mX1_moveEntries l K mc ms [.ref p, .int s, .int kd, .int ty] h (kI fun r h' => r = nI ((ents L).countP (fun v => decide (v.1 = s))) ∧ PgAt K h' p rw (L.map (mvO s kd ty)) c ∧ Imm K h h' ∧ ∀ a x, h a = some x → a ≠ rw → h' a = some x) := by
  obtain ⟨h1, f, h2, r⟩ := P
  have hrn : ∀ x, h rw = some x → ¬ im K x := fun x e => by rw [h2] at e; cases e; exact not_im_Q
  refine fX1_moveEntries htr ?_
  intro X hX
  have cle : ∀ j, (ents (L.take j)).countP (fun v => decide (v.1 = s)) ≤ (ents L).countP (fun v => decide (v.1 = s)) := fun j => by
    conv => rhs; rw [← List.take_append_drop j L, ents, List.filterMap_append, List.countP_append]
    exact Nat.le_add_right _ _
  refine loopN (n := L.length) (fun j => ∀ hj kc ks, (∃ g, hj rw = some (xQ K 3 L.length g) ∧ rowOk K hj g (pre (mvO s kd ty) L j)) → Imm K h hj → (∀ a x, h a = some x → a ≠ rw → hj a = some x) → kc ≤ 2 * (ents (L.take j)).countP (fun v => decide (v.1 = s)) → ks ≤ 7 * (ents (L.take j)).countP (fun v => decide (v.1 = s)) → X (nI ((ents (L.take j)).countP (fun v => decide (v.1 = s)))) (nI j) hj kc ks) ?_ ?_ 0 (Nat.zero_le _) h 0 0 ⟨f, h2, by rw [pre_0]; exact r⟩ Imm.rf (fun _ _ e _ => e) (Nat.zero_le _) (Nat.zero_le _)
  · rintro hj kc ks ⟨g, g1, g2⟩ hi hfr hk1 hk2
    have h1' := hfr _ _ h1 hpr
    have := cle L.length
    refine hX _ _ _ _ _ ⟨rw, gf_of h1', _, alen_xQ g1, fun q => ⟨⟨by omega, by omega⟩, _, rfl, by rw [List.take_length], ⟨h1', g, by rw [List.length_map]; exact g1, by rw [pre_n] at g2; exact g2⟩, hi, hfr⟩, fun q => absurd (nI_le (Nat.le_refl _) (by omega)) q⟩
  · rintro j hj ih hh kc ks ⟨g, g1, g2⟩ hi hfr hk1 hk2
    have h1' := hfr _ _ h1 hpr
    have hjp : j < (pre (mvO s kd ty) L j).length := by rw [pre_len _ _ (by omega)]; exact hj
    refine hX _ _ _ _ _ ⟨rw, gf_of h1', _, alen_xQ g1, fun q => absurd q (nI_ge hj (by omega)), fun q => ⟨rw, gf_of h1', _, aQ_x g1 hj (by omega), ?_⟩⟩
    rcases g2.at hjp with ⟨a1, a2⟩ | ⟨v, e, a1, a2, a3⟩
    · rw [pre_get _ _ hj] at a1
      refine ⟨fun _ => ?_, fun a ha => ?_⟩
      · rw [nI_sub1]
        have := ih hh kc ks ⟨g, g1, by rw [pre_s _ _ a1]; have := g2.set (j := j) hjp (o := none) (x := none) (fun _ => rfl) (fun _ z => by cases z); rwa [upf_self a2] at this⟩ hi hfr (by rw [ents_n a1]; exact hk1) (by rw [ents_n a1]; exact hk2)
        rwa [ents_n a1] at this
      · rw [a2] at ha; cases ha
    · rw [pre_get _ _ hj] at a1
      have ok := hL v (List.mem_of_getElem? a1)
      have a3' := a3
      obtain ⟨nu, me, b1, b2, b3, nf⟩ := a3
      have cs := cle (j + 1)
      refine ⟨fun ha => ?_, fun a ha => ⟨rw, gf_of h1', _, aQ_x g1 hj (by omega), e, a2, v.1, gf_of b1, fun q => ?_, fun q => ⟨rw, gf_of h1', rw, gf_of h1', _, aQ_x g1 hj (by omega), e, a2, ⟨_, b1⟩, 2, 7, ?_, ?_, ?_⟩⟩⟩
      · rw [a2] at ha; cases ha
      · rw [nI_sub1]
        have := ih hh kc ks ⟨g, g1, by
          rw [pre_s _ _ a1]
          have := g2.set (j := j) hjp (o := some v) (x := some e) (fun z => by cases z) (fun _ z => by cases z; exact ⟨e, rfl, a3'⟩)
          rw [upf_self a2] at this
          simpa [mvO, q] using this⟩ hi hfr (by rw [ents_s a1, List.countP_append]; simp [q]; omega) (by rw [ents_s a1, List.countP_append]; simp [q]; omega)
        rw [ents_s a1, List.countP_append] at this
        simpa [q] using this
      · rw [ents_s a1, List.countP_append] at cs; simp [q] at cs; omega
      · rw [ents_s a1, List.countP_append] at cs; simp [q] at cs; omega
      · have heK : eK K hh := ⟨hi _ _ he.2.1 he.1 (Or.inr ⟨_, _, rfl, by decide⟩), he.2.1, fun a z => by
          obtain ⟨x, e⟩ := he.2.2 a z
          by_cases y : a = rw
          · exact ⟨_, y ▸ g1⟩
          · exact ⟨x, hfr _ _ e y⟩⟩
        refine (sp_movedTo htr a3' heK ok.1 (by have := ok.2.1; omega) (by have := ok.2.2; omega) (Nat.le_refl _) (Nat.le_refl _)).Q ?_
        rintro o h5 ⟨q2, rfl, hE, hx⟩
        refine ⟨fun v9 z => by cases z; exact hE.obj, _, wQ_x (hx _ _ g1) hj (by omega), ?_⟩
        rw [nI_sub1, nI_sub1]
        have im5 : Imm K h5 (va_up h5 rw (some (xQ K 3 L.length (va_up g j (some q2))))) := Imm.rf.up fun x e => by rw [hx _ _ g1] at e; cases e; exact not_im_Q
        have okp : okL (pre (mvO s kd ty) L j) := by
          intro w hw
          rcases List.mem_append.mp hw with z | z
          · obtain ⟨o, ho, hoe⟩ := List.mem_map.mp z
            cases o with
            | none => cases hoe
            | some u =>
              have hu := hL u (List.mem_of_mem_take ho)
              simp only [mvO, Option.map_some, Option.some.injEq] at hoe
              rw [← hoe]
              split
              · exact mvE_ok hu
              · exact hu
          · exact hL w (List.mem_of_mem_drop z)
        have ok2 : okL ((pre (mvO s kd ty) L j).set j (some (mvE kd ty v))) := by
          intro w hw
          rcases List.mem_or_eq_of_mem_set hw with z | z
          · exact okp w z
          · cases z; exact mvE_ok ok
        have := ih (va_up h5 rw (some (xQ K 3 L.length (va_up g j (some q2))))) (kc + 2) (ks + 7) ⟨_, up_s _ _ _, by
          rw [pre_s _ _ a1]
          have := (g2.imm okp hx.imm).set (j := j) hjp (o := some (mvE kd ty v)) (x := some q2) (fun z => by cases z) (fun _ z => by cases z; exact ⟨q2, rfl, hE⟩)
          have := this.imm ok2 im5
          simpa [mvO, q] using this⟩ ((hi.tr hx.imm).tr im5) (fun a x e n => by rw [up_n n]; exact hx _ _ (hfr _ _ e n)) (by rw [ents_s a1, List.countP_append]; simp [q]; omega) (by rw [ents_s a1, List.countP_append]; simp [q]; omega)
        rw [ents_s a1, List.countP_append] at this
        simpa [q] using this
