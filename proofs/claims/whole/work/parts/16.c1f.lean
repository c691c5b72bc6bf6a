/-! ===== the class: keys, sorted ===== -/
def plc (R : List Int64) (x : Int64) : Nat := R.findIdx (fun z => !decide (z < x))
def insK (x : Int64) (R : List Int64) : List Int64 := R.insertIdx (plc R x) x
theorem plc_le (R : List Int64) (x : Int64) : plc R x ≤ R.length := List.findIdx_le_length
theorem cbR_plc {R : List Int64} {f : Nat → Int64} {x : Int64} {j : Nat} (hf : ∀ i, i < R.length → f i = R.getD i 0) (h : cbR f R.length x j) : j = plc R x := by
  obtain ⟨h1, h2, h3⟩ := h
  rcases Nat.lt_trichotomy j (plc R x) with q | q | q
  · have hj : j < R.length := Nat.lt_of_lt_of_le q (plc_le R x)
    have := List.not_of_lt_findIdx q
    have e := h3 hj
    rw [hf j hj] at e
    simp [hj] at e this
    exact absurd this (by simpa using e)
  · exact q
  · have hp : plc R x < R.length := by omega
    have := List.findIdx_getElem (w := hp) (xs := R) (p := fun z => !decide (z < x))
    have e := h2 _ q
    rw [hf _ hp] at e
    simp [hp] at e
    have t : (R[plc R x] < x) := e
    simp only [plc] at t
    simp at this
    exact absurd t (Int64.not_lt.mpr this)
theorem insK_len (x : Int64) (R : List Int64) : (insK x R).length = R.length + 1 := List.length_insertIdx_of_le_length (plc_le R x) x
theorem not_im_150 {K : Kx} {f : Nat → Int64} : ¬ im K (xJ K 150 f) := by
  rintro (⟨fs, e⟩ | ⟨n', f', e, h⟩)
  · cases e
  · have := (Prod.mk.inj (Prod.mk.inj (Sum.inl.inj e)).2).1
    omega
def mk2 (s sp : Int32) (v : EV) : Bool := decide (v.1 = s ∧ v.2.2.1 = sp)
def foldK (E : List EV) (R : List Int64) : List Int64 := E.foldl (fun R v => insK v.2.1 R) R
theorem fold_ins_len (E : List EV) : ∀ R : List Int64, (foldK E R).length = R.length + E.length := by
  unfold foldK
  induction E with
  | nil => intro R; rfl
  | cons v E ih => intro R; simp only [List.foldl_cons, ih, insK_len, List.length_cons]; omega
theorem sp_sortKeysInto {l : Launch} {K : Kx} {h : Hp} {p rw rk : Nat} {L : List (Option EV)} {c s sp : Int32} {f : Nat → Int64} {R : List Int64} (htr : l.stackTraces = false) (P : PgAt K h p rw L c) (hn : L.length < 100000) (hL : okL L) (hk : h rk = some (xJ K 150 f)) (hb : kB K ≤ rk) (hR : ∀ i, i < R.length → f i = R.getD i 0) (hlen : R.length + ((ents L).filter (mk2 s sp)).length ≤ 150) :
    mX1_sortKeysInto l K [.ref p, .ref rk, .int (nI R.length), .int s, .int sp] h (kI fun r h' => ∃ f', r = nI (foldK ((ents L).filter (mk2 s sp)) R).length ∧ h' = va_up h rk (some (xJ K 150 f')) ∧ ∀ i, i < (foldK ((ents L).filter (mk2 s sp)) R).length → f' i = (foldK ((ents L).filter (mk2 s sp)) R).getD i 0) := by
  obtain ⟨h1, fr, h2, r⟩ := P
  have hrp : rk ≠ p := fun z => by rw [z, h1] at hk; cases hk
  have hrr : rk ≠ rw := fun z => by
    rw [z, h2] at hk
    have h2 := Sum.inr.inj (Prod.mk.inj (Prod.mk.inj (Sum.inl.inj (Option.some.inj hk))).2).2
    cases h2
  refine fX1_sortKeysInto htr ?_
  intro X hX
  have e1 : ∀ g, va_up h rk (some (xJ K 150 g)) p = some (xO 1 [.ref rw, .int c]) := fun g => by rw [up_n hrp.symm]; exact h1
  have e2 : ∀ g, va_up h rk (some (xJ K 150 g)) rw = some (xQ K 3 L.length fr) := fun g => by rw [up_n hrr.symm]; exact h2
  have im1 : ∀ g, Imm K h (va_up h rk (some (xJ K 150 g))) := fun g => Imm.rf.up fun x e => by rw [hk] at e; cases e; exact not_im_150
  have z : X (nI R.length) (nI 0) (va_up h rk (some (xJ K 150 f))) := by
    refine loopN (n := L.length) (fun j => ∀ g, (∀ i, i < (foldK ((ents (L.take j)).filter (mk2 s sp)) R).length → g i = (foldK ((ents (L.take j)).filter (mk2 s sp)) R).getD i 0) → X (nI (foldK ((ents (L.take j)).filter (mk2 s sp)) R).length) (nI j) (va_up h rk (some (xJ K 150 g)))) ?_ ?_ 0 (Nat.zero_le _) f (by simpa [foldK] using hR)
    · intro g hg
      rw [List.take_length] at hg ⊢
      refine hX _ _ _ ⟨rw, gf_of (e1 _), _, alen_xQ (e2 _), fun q => ⟨_, rfl, g, rfl, rfl, hg⟩, fun q => absurd (nI_le (Nat.le_refl _) (by omega)) q⟩
    · intro j hj ih g hg
      have hsplit : ents L = ents (L.take j) ++ ents (L.drop j) := by conv => lhs; rw [← List.take_append_drop j L, ents_app]
      generalize hRj : foldK ((ents (L.take j)).filter (mk2 s sp)) R = Rj at hg ih ⊢
      have hRl : Rj.length = R.length + ((ents (L.take j)).filter (mk2 s sp)).length := by rw [← hRj]; exact fold_ins_len _ R
      have htot : Rj.length + ((ents (L.drop j)).filter (mk2 s sp)).length ≤ 150 := by
        rw [hsplit, List.filter_append, List.length_append] at hlen
        omega
      refine hX _ _ _ ⟨rw, gf_of (e1 _), _, alen_xQ (e2 _), fun q => absurd q (nI_ge hj (by omega)), fun q => ⟨nI 150, by simp [alen, up_s], fun q => ?_, fun q => ⟨rw, gf_of (e1 _), _, aQ_x (e2 _) hj (by omega), ?_⟩⟩⟩
      · have hfull : ((ents (L.drop j)).filter (mk2 s sp)) = [] := by
          have : ¬ Rj.length < 150 := fun z => nI_ge z (by decide) q
          exact List.length_eq_zero_iff.mp (by omega)
        have hfin : foldK ((ents L).filter (mk2 s sp)) R = Rj := by
          rw [hsplit, List.filter_append, hfull, List.append_nil, hRj]
        rw [hfin]
        exact ⟨_, rfl, g, rfl, rfl, hg⟩
      · have stay : ((ents (L.take (j + 1))).filter (mk2 s sp)) = ((ents (L.take j)).filter (mk2 s sp)) → X (nI Rj.length) (nI j + nI 1) (va_up h rk (some (xJ K 150 g))) := fun y => by
          rw [nI_sub1]
          have := ih g
          rw [y, hRj] at this
          exact this hg
        rcases r.at hj with ⟨a1, a2⟩ | ⟨v, e, a1, a2, a3⟩
        · refine ⟨fun _ => stay (by rw [ents_n a1]), fun a ha => ?_⟩
          rw [a2] at ha; cases ha
        · have ok := hL v (List.mem_of_getElem? a1)
          have E : ∀ g, EntAt K (va_up h rk (some (xJ K 150 g))) e v := fun g => a3.imm (by have := ok.2.1; omega) (by have := ok.2.2; omega) (im1 g)
          have E1 : ∀ g, ∃ nu me, va_up h rk (some (xJ K 150 g)) e = some (en v nu me) := fun g => by
            obtain ⟨nu, me, b1, _⟩ := E g
            exact ⟨nu, me, b1⟩
          obtain ⟨nu, me, b1⟩ := E1 g
          refine ⟨fun ha => ?_, fun a ha => ⟨rw, gf_of (e1 _), _, aQ_x (e2 _) hj (by omega), e, a2, v.1, gf_of b1, fun q1 => stay ?_, fun q1 => ⟨rw, gf_of (e1 _), _, aQ_x (e2 _) hj (by omega), e, a2, v.2.2.1, gf_of b1, fun q2 => stay ?_, fun q2 => ⟨rw, gf_of (e1 _), _, aQ_x (e2 _) hj (by omega), e, a2, v.2.1, gf_of b1, ?_⟩⟩⟩⟩
          · rw [a2] at ha; cases ha
          · rw [ents_s a1, List.filter_append]; simp [mk2, q1]
          · rw [ents_s a1, List.filter_append]; simp [mk2, q2]
          · have hm : mk2 s sp v = true := by simp [mk2, q1, q2]
            have hdrop : 0 < ((ents (L.drop j)).filter (mk2 s sp)).length := by
              have hmem : v ∈ (ents (L.drop j)).filter (mk2 s sp) := by
                refine List.mem_filter.mpr ⟨mem_ents.mpr ?_, hm⟩
                exact List.mem_iff_getElem?.mpr ⟨0, by rw [List.getElem?_drop]; simpa using a1⟩
              exact List.length_pos_of_mem hmem
            have hlt : Rj.length < 150 := by omega
            refine (sp_countBelow htr (up_s _ _ _) (by omega) (by decide)).I ?_
            rintro x h' ⟨⟨i, rfl, hcb⟩, rfl⟩
            have hi := cbR_plc hg hcb
            have hile : i ≤ Rj.length := hcb.1
            have ci : (nI i).toNatClampNeg = i := nI_clamp (by omega)
            have ci1 : (nI (i + 1)).toNatClampNeg = i + 1 := nI_clamp (by omega)
            have cn : (nI (Rj.length - i)).toNatClampNeg = Rj.length - i := nI_clamp (by omega)
            rw [nI_sub1, pk_sub hile]
            refine ⟨_, _, _, _, up_s _ _ _, up_s _ _ _, hb, nI_pos (by omega), nI_pos (by omega), nI_pos (by omega), by rw [ci, cn]; omega, by rw [ci1, cn]; omega, ?_⟩
            rintro h5 rfl
            rw [ci, ci1, cn, up_up]
            obtain ⟨nu2, me2, b2⟩ := E1 (va_cpy g g i (i + 1) (Rj.length - i))
            refine ⟨rw, gf_of (e1 _), _, aQ_x (e2 _) hj (by omega), e, a2, v.2.1, gf_of b2, _, wJ_x (up_s _ _ _) (by omega) (by decide), ?_⟩
            rw [up_up, nI_sub1, nI_sub1]
            have := ih (vp_updL (va_cpy g g i (i + 1) (Rj.length - i)) i v.2.1)
            have hnext : foldK ((ents (L.take (j + 1))).filter (mk2 s sp)) R = insK v.2.1 Rj := by
              rw [← hRj, ents_s a1, List.filter_append]
              simp [foldK, hm, List.foldl_append]
            rw [hnext, insK_len] at this
            refine this ?_
            intro m hm2
            unfold insK
            rw [← hi, List.getD_eq_getElem?_getD, List.getElem?_insertIdx]
            simp only [vp_updL, va_cpy]
            rcases Nat.lt_trichotomy m i with y | y | y
            · have t1 : ¬ (i + 1 ≤ m ∧ m < i + 1 + (Rj.length - i)) := by omega
              have t2 : m ≠ i := by omega
              have t3 := hg m (by omega)
              simp [t1, t2, y, t3, List.getD_eq_getElem?_getD]
            · subst y; simp [hile]
            · have t1 : i + 1 ≤ m ∧ m < i + 1 + (Rj.length - i) := by omega
              have t2 : m ≠ i := by omega
              have t3 : ¬ m < i := by omega
              have t4 : i + (m - (i + 1)) = m - 1 := by omega
              have t5 := hg (m - 1) (by omega)
              simp [t1, t2, t3, t4, t5, List.getD_eq_getElem?_getD]
  rw [up_self hk] at z
  exact z
