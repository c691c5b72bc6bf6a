/-! ===== the class: pages that change ===== -/
/-- the first j places as φ makes them, the others as they are -/
def pre (φ : Option EV → Option EV) (L : List (Option EV)) (j : Nat) : List (Option EV) := (L.take j).map φ ++ L.drop j
theorem pre_0 (φ : Option EV → Option EV) (L : List (Option EV)) : pre φ L 0 = L := by simp [pre]
theorem pre_n (φ : Option EV → Option EV) (L : List (Option EV)) : pre φ L L.length = L.map φ := by simp [pre]
theorem pre_len (φ : Option EV → Option EV) (L : List (Option EV)) {j : Nat} (hj : j ≤ L.length) : (pre φ L j).length = L.length := by
  simp only [pre, List.length_append, List.length_map, List.length_take, List.length_drop]
  omega
theorem pre_get (φ : Option EV → Option EV) (L : List (Option EV)) {j : Nat} (hj : j < L.length) : (pre φ L j)[j]? = L[j]? := by
  have h1 : ((L.take j).map φ).length = j := by simp; omega
  rw [pre, List.getElem?_append_right (by omega), h1]
  simp
theorem pre_s (φ : Option EV → Option EV) (L : List (Option EV)) {j : Nat} {o : Option EV} (ho : L[j]? = some o) : pre φ L (j + 1) = (pre φ L j).set j (φ o) := by
  have hj : j < L.length := (List.getElem?_eq_some_iff.mp ho).1
  have h1 : ((L.take j).map φ).length = j := by simp; omega
  have h2 : L.drop j = o :: L.drop (j + 1) := by
    rw [List.drop_eq_getElem_cons hj]
    congr 1
    exact (List.getElem?_eq_some_iff.mp ho).2
  rw [pre, pre, List.take_add_one, ho, h2, List.set_append_right _ _ (by omega), h1]
  simp
theorem rowOk.set {K : Kx} {h : Hp} {f : Nat → Option Nat} {L : List (Option EV)} (r : rowOk K h f L) {j : Nat} (hj : j < L.length) {o : Option EV} {x : Option Nat} (h1 : o = none → x = none) (h2 : ∀ v, o = some v → ∃ e, x = some e ∧ EntAt K h e v) : rowOk K h (va_up f j x) (L.set j o) := by
  intro i hi
  rw [List.length_set] at hi
  by_cases hij : i = j
  · subst hij
    rw [up_s, List.getElem?_set_self hj]
    exact ⟨fun q => h1 (Option.some.inj q), fun v q => h2 v (Option.some.inj q)⟩
  · rw [up_n hij, List.getElem?_set_ne (Ne.symm hij)]
    exact r i hi
def lsp (s : Int32) (o : Option EV) : Option EV := o.filter (fun v => !decide (v.2.2.1 = s))
theorem ents_lsp (s : Int32) (L : List (Option EV)) : ents (L.map (lsp s)) = (ents L).filter (fun v => !decide (v.2.2.1 = s)) := by
  induction L with
  | nil => rfl
  | cons o L ih =>
    cases o with
    | none => simpa [lsp] using ih
    | some v =>
      by_cases q : v.2.2.1 = s
      · simpa [lsp, q, Option.filter] using ih
      · simpa [lsp, q, Option.filter] using ih
theorem sp_loseSpan {l : Launch} {K : Kx} {h : Hp} {p rw : Nat} {L : List (Option EV)} {c s : Int32} (htr : l.stackTraces = false) (P : PgAt K h p rw L c) (hn : L.length < 100000) (hL : okL L) (hpr : p ≠ rw) : mX1_loseSpan l K [.ref p, .int s] h (kI fun r h' => r = nI ((ents L).countP (fun v => decide (v.2.2.1 = s))) ∧ PgAt K h' p rw (L.map (lsp s)) c ∧ Imm K h h' ∧ ∀ a, a ≠ rw → h' a = h a) := by
  obtain ⟨h1, f, h2, r⟩ := P
  refine fX1_loseSpan htr ?_
  intro X hX
  have z : X (nI 0) (nI 0) (va_up h rw (some (xQ K 3 L.length f))) := by
    refine loopN (n := L.length) (fun j => ∀ g, rowOk K h g (pre (lsp s) L j) → X (nI ((ents (L.take j)).countP (fun v => decide (v.2.2.1 = s)))) (nI j) (va_up h rw (some (xQ K 3 L.length g)))) ?_ ?_ 0 (Nat.zero_le _) f (by rw [pre_0]; exact r)
    · intro g hg
      have h1' : va_up h rw (some (xQ K 3 L.length g)) p = some (xO 1 [.ref rw, .int c]) := by rw [up_n hpr]; exact h1
      refine hX _ _ _ ⟨rw, gf_of h1', _, alen_xQ (up_s _ _ _), fun q => ⟨_, rfl, by rw [List.take_length], ⟨h1', g, ?_, ?_⟩, ?_, ?_⟩, fun q => absurd (nI_le (Nat.le_refl _) (by omega)) q⟩
      · rw [up_s, List.length_map]
      · rw [pre_n] at hg
        refine hg.imm ?_ ?_
        · intro v hv
          obtain ⟨o, ho, he⟩ := List.mem_map.mp hv
          cases o with
          | none => cases he
          | some w =>
            simp only [lsp, Option.filter] at he
            split at he
            · cases he; exact hL _ ho
            · cases he
        · exact Imm.rf.up fun x e => by rw [h2] at e; cases e; exact not_im_Q
      · exact Imm.rf.up fun x e => by rw [h2] at e; cases e; exact not_im_Q
      · intro a ha; rw [up_n ha]
    · intro j hj ih g hg
      have h1' : va_up h rw (some (xQ K 3 L.length g)) p = some (xO 1 [.ref rw, .int c]) := by rw [up_n hpr]; exact h1
      have hi : Imm K h (va_up h rw (some (xQ K 3 L.length g))) := Imm.rf.up fun x e => by rw [h2] at e; cases e; exact not_im_Q
      have hjp : j < (pre (lsp s) L j).length := by rw [pre_len _ _ (by omega)]; exact hj
      refine hX _ _ _ ⟨rw, gf_of h1', _, alen_xQ (up_s _ _ _), fun q => absurd q (nI_ge hj (by omega)), fun q => ⟨rw, gf_of h1', _, aQ_x (up_s _ _ _) hj (by omega), ?_⟩⟩
      rcases hg.at hjp with ⟨a1, a2⟩ | ⟨v, e, a1, a2, a3⟩
      · rw [pre_get _ _ hj] at a1
        refine ⟨fun _ => ?_, fun a ha => ?_⟩
        · rw [nI_sub1]
          have := ih g (by rw [pre_s _ _ a1]; have := hg.set (j := j) hjp (o := none) (x := none) (fun _ => rfl) (fun _ z => by cases z); rwa [show va_up g j none = g from by funext i; by_cases y : i = j <;> simp [va_up, y, a2]] at this)
          rwa [ents_n a1] at this
        · rw [a2] at ha; cases ha
      · rw [pre_get _ _ hj] at a1
        have ok := hL v (List.mem_of_getElem? a1)
        have a3' := a3.imm (by have := ok.2.1; omega) (by have := ok.2.2; omega) hi
        obtain ⟨nu, me, b1, b2, b3, nf⟩ := a3'
        refine ⟨fun ha => ?_, fun a ha => ⟨rw, gf_of h1', _, aQ_x (up_s _ _ _) hj (by omega), e, a2, v.2.2.1, gf_of b1, fun q => ?_, fun q => ⟨rw, gf_of h1', _, wQ_x (up_s _ _ _) hj (by omega), ?_⟩⟩⟩
        · rw [a2] at ha; cases ha
        · rw [nI_sub1]
          have := ih g (by
            rw [pre_s _ _ a1]
            have := hg.set (j := j) hjp (o := some v) (x := some e) (fun z => by cases z) (fun _ z => by cases z; exact ⟨e, rfl, a3⟩)
            rw [show va_up g j (some e) = g from by funext i; by_cases y : i = j <;> simp [va_up, y, a2]] at this
            simpa [lsp, q, Option.filter] using this)
          rw [ents_s a1, List.countP_append] at this
          simpa [q] using this
        · rw [nI_sub1, nI_sub1, up_up]
          have := ih (va_up g j none) (by
            rw [pre_s _ _ a1]
            have := hg.set (j := j) hjp (o := none) (x := none) (fun _ => rfl) (fun _ z => by cases z)
            simpa [lsp, q, Option.filter] using this)
          rw [ents_s a1, List.countP_append] at this
          simpa [q] using this
  have e9 : va_up h rw (some (xQ K 3 L.length f)) = h := by
    funext a
    by_cases y : a = rw
    · subst y; rw [up_s, h2]
    · rw [up_n y]
  rw [e9] at z
  exact z
