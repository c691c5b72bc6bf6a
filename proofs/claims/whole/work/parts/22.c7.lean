/-! ===== the class: readers ===== -/
section Obj
variable {l : Launch} {K : Kx} {h h' : Hp} {x : Nat} {ad : Nat → Nat → Nat} {o : OV} {nm : Nat → Int32} {th : Nat → Bool} {nu : Nat → Int32} {sc : Nat → Nat} {kd ty : Nat → Nat → Int32} {pa : Nat → Nat → Nat} {Lp : Nat → List (Option EV)} {rw : Nat → Nat} {s : Int32} {mc ms : Nat}
/-- refused, or there is no such thing (d) -/
def Xr (S : Nat → Prop) (d : Nat) (N : Prop) (E : String) : Prop := (∃ c, 0 < c ∧ c < 4 ∧ E = exN c ∧ S c) ∨ (E = exN d ∧ S 0 ∧ N)
theorem sp_value (htr : l.stackTraces = false) (C : CR K h x ad o nm th nu sc kd ty pa Lp rw) (I : PI th pa Lp) (hsc : sc 0 ≤ 8) (hm : 40 ≤ mc) (hs : 1200 ≤ ms) :
    mX3_value l K mc ms [.ref x, .int s] h (kLX (fun r h' => St (sc 0) (kd 0) (ty 0) o.2.2.1 s (nI 0) (nI 3) 0 0 ∧ (lk s o.2.2.2.1 o.2.2.2.2 (eP Lp (pa 0) 16)).2.2.2.1 ≠ [] ∧ r = (lk s o.2.2.2.1 o.2.2.2.2 (eP Lp (pa 0) 16)).2.2.2.1.getD 0 0 ∧ SpC K h x ad o nm th nu sc kd ty pa Lp none h') (fun E h' => SpC K h x ad o nm th nu sc kd ty pa Lp none h' ∧ Xr (St (sc 0) (kd 0) (ty 0) o.2.2.1 s (nI 0) (nI 3) 0) 4 ((lk s o.2.2.2.1 o.2.2.2.2 (eP Lp (pa 0) 16)).2.2.2.1 = []) E)) := by
  have hok := C.lk_ok (show 0 < 7 by decide) C.t0 s o.2.2.2.1 o.2.2.2.2
  refine fX3_value htr ⟨C.ob, 2, 12, by omega, by omega, ?_⟩
  refine (sp_needToRead htr C hsc (Nat.le_refl _) (Nat.le_refl _)).VX ?_ (fun E h' z => Or.inr ⟨E, rfl, by rw [z.1]; exact SpC.none C I Ext.rf, Or.inl z.2⟩)
  rintro h' ⟨rfl, hst⟩
  refine ⟨C.ob, 1, 6, by omega, by omega, ?_⟩
  refine (sp_entryAtHand htr C (Nat.le_refl _) (Nat.le_refl _)).Q ?_
  rintro w h1 ⟨e, rfl, E, ex⟩
  rw [lk_eP (I 0 (by decide) C.t0)] at E
  generalize hv : lk s o.2.2.2.1 o.2.2.2.2 (eP Lp (pa 0) 16) = v at E hok ⊢
  have E9 := E
  obtain ⟨nu1, me1, b1, b2, b3, nf⟩ := E9
  refine ⟨e, rfl, E.obj, by omega, by omega, ?_⟩
  refine (sp_isNone htr E (by omega)).I ?_
  rintro r h1' ⟨rfl, rfl⟩
  refine ⟨fun q => ?_, fun q => ⟨by omega, by omega, Or.inr ⟨_, rfl, SpC.none C I ex, Or.inr ⟨rfl, hst, Classical.byContradiction fun z => q (bI_0.mpr z)⟩⟩⟩⟩
  have hne := bI_0.mp q
  exact ⟨_, gf_of b1, _, aJ_jl (j := 0) b2 (List.length_pos_iff.mpr hne) (by omega), ⟨by omega, by omega⟩, Or.inl ⟨_, rfl, hst, hne, rfl, SpC.none C I ex⟩⟩
theorem sp_numberAt {a : Nat} {i : Int32} {R : List Int64} (htr : l.stackTraces = false) (e : h a = some (jl K R)) (hR : R.length < 1000) (hm : 1 ≤ mc) (hs : 6 ≤ ms) :
    mX3_numberAt l K mc ms [.ref a, .int i] h (kLX (fun r h' => h' = h ∧ ∃ j, j < R.length ∧ i = nI j ∧ r = R.getD j 0) (fun E h' => h' = h ∧ E = exN 1 ∧ ¬ isS i R.length)) := by
  refine fX3_numberAt htr ⟨fun q => ⟨by omega, by omega, Or.inr ⟨_, rfl, rfl, rfl, fun z => z.1 q⟩⟩, fun q => ⟨_, alen_jl e, fun q2 => ?_, fun q2 => ⟨by omega, by omega, Or.inr ⟨_, rfl, rfl, rfl, fun z => q2 z.2⟩⟩⟩⟩
  obtain ⟨j, hj, rfl⟩ := (show isS i R.length from ⟨q, q2⟩).ix hR
  exact ⟨_, aJ_jl e hj (by omega), ⟨by omega, by omega⟩, Or.inl ⟨_, rfl, rfl, j, hj, rfl, rfl⟩⟩
theorem sp_item {i : Int32} (htr : l.stackTraces = false) (C : CR K h x ad o nm th nu sc kd ty pa Lp rw) (I : PI th pa Lp) (hsc : sc 0 ≤ 8) (hm : 40 ≤ mc) (hs : 1200 ≤ ms) :
    mX3_item l K mc ms [.ref x, .int s, .int i] h (kLX (fun r h' => St (sc 0) (kd 0) (ty 0) o.2.2.1 s (nI 1) (nI 2) 0 0 ∧ (∃ j, j < (lk s o.2.2.2.1 o.2.2.2.2 (eP Lp (pa 0) 16)).2.2.2.1.length ∧ i = nI j ∧ r = (lk s o.2.2.2.1 o.2.2.2.2 (eP Lp (pa 0) 16)).2.2.2.1.getD j 0) ∧ SpC K h x ad o nm th nu sc kd ty pa Lp none h') (fun E h' => SpC K h x ad o nm th nu sc kd ty pa Lp none h' ∧ Xr (St (sc 0) (kd 0) (ty 0) o.2.2.1 s (nI 1) (nI 2) 0) 1 (¬ isS i (lk s o.2.2.2.1 o.2.2.2.2 (eP Lp (pa 0) 16)).2.2.2.1.length) E)) := by
  have hok := C.lk_ok (show 0 < 7 by decide) C.t0 s o.2.2.2.1 o.2.2.2.2
  refine fX3_item htr ⟨C.ob, 2, 12, by omega, by omega, ?_⟩
  refine (sp_needToRead htr C hsc (Nat.le_refl _) (Nat.le_refl _)).VX ?_ (fun E h' z => Or.inr ⟨E, rfl, by rw [z.1]; exact SpC.none C I Ext.rf, Or.inl z.2⟩)
  rintro h' ⟨rfl, hst⟩
  refine ⟨C.ob, 1, 6, by omega, by omega, ?_⟩
  refine (sp_entryAtHand htr C (Nat.le_refl _) (Nat.le_refl _)).Q ?_
  rintro w h1 ⟨e, rfl, E, ex⟩
  rw [lk_eP (I 0 (by decide) C.t0)] at E
  generalize hv : lk s o.2.2.2.1 o.2.2.2.2 (eP Lp (pa 0) 16) = v at E hok ⊢
  obtain ⟨nu1, me1, b1, b2, b3, nf⟩ := E
  refine ⟨e, rfl, _, gf_of b1, 1, 6, by omega, by omega, ?_⟩
  refine (sp_numberAt htr b2 (by omega) (Nat.le_refl _) (Nat.le_refl _)).LX ?_ ?_
  · rintro r h2 ⟨rfl, z⟩
    exact ⟨⟨by omega, by omega⟩, Or.inl ⟨_, rfl, hst, z, SpC.none C I ex⟩⟩
  · rintro E h2 ⟨rfl, rfl, z⟩
    exact Or.inr ⟨_, rfl, SpC.none C I ex, Or.inr ⟨rfl, hst, z⟩⟩
theorem sp_member {i : Int32} (htr : l.stackTraces = false) (C : CR K h x ad o nm th nu sc kd ty pa Lp rw) (I : PI th pa Lp) (hsc : sc 0 ≤ 8) (hm : 40 ≤ mc) (hs : 1200 ≤ ms) :
    mX3_member l K mc ms [.ref x, .int s, .int i] h (kLX (fun r h' => St (sc 0) (kd 0) (ty 0) o.2.2.1 s (nI 2) (nI 2) 0 0 ∧ (∃ j, j < (lk s o.2.2.2.1 o.2.2.2.2 (eP Lp (pa 0) 16)).2.2.2.2.1.length ∧ i = nI j ∧ r = (lk s o.2.2.2.1 o.2.2.2.2 (eP Lp (pa 0) 16)).2.2.2.2.1.getD j 0) ∧ SpC K h x ad o nm th nu sc kd ty pa Lp none h') (fun E h' => SpC K h x ad o nm th nu sc kd ty pa Lp none h' ∧ Xr (St (sc 0) (kd 0) (ty 0) o.2.2.1 s (nI 2) (nI 2) 0) 1 (¬ isS i (lk s o.2.2.2.1 o.2.2.2.2 (eP Lp (pa 0) 16)).2.2.2.2.1.length) E)) := by
  have hok := C.lk_ok (show 0 < 7 by decide) C.t0 s o.2.2.2.1 o.2.2.2.2
  refine fX3_member htr ⟨C.ob, 2, 12, by omega, by omega, ?_⟩
  refine (sp_needToRead htr C hsc (Nat.le_refl _) (Nat.le_refl _)).VX ?_ (fun E h' z => Or.inr ⟨E, rfl, by rw [z.1]; exact SpC.none C I Ext.rf, Or.inl z.2⟩)
  rintro h' ⟨rfl, hst⟩
  refine ⟨C.ob, 1, 6, by omega, by omega, ?_⟩
  refine (sp_entryAtHand htr C (Nat.le_refl _) (Nat.le_refl _)).Q ?_
  rintro w h1 ⟨e, rfl, E, ex⟩
  rw [lk_eP (I 0 (by decide) C.t0)] at E
  generalize hv : lk s o.2.2.2.1 o.2.2.2.2 (eP Lp (pa 0) 16) = v at E hok ⊢
  obtain ⟨nu1, me1, b1, b2, b3, nf⟩ := E
  refine ⟨e, rfl, _, gf_of b1, 1, 6, by omega, by omega, ?_⟩
  refine (sp_numberAt htr b3 (by omega) (Nat.le_refl _) (Nat.le_refl _)).LX ?_ ?_
  · rintro r h2 ⟨rfl, z⟩
    exact ⟨⟨by omega, by omega⟩, Or.inl ⟨_, rfl, hst, z, SpC.none C I ex⟩⟩
  · rintro E h2 ⟨rfl, rfl, z⟩
    exact Or.inr ⟨_, rfl, SpC.none C I ex, Or.inr ⟨rfl, hst, z⟩⟩
theorem sp_get {m : Int64} (htr : l.stackTraces = false) (C : CR K h x ad o nm th nu sc kd ty pa Lp rw) (I : PI th pa Lp) (hsc : sc 0 ≤ 8) (hmap : ∀ i, i < sc 0 → s = nI i → kd 0 i = nI 2 → (lk s o.2.2.2.1 o.2.2.2.2 (eP Lp (pa 0) 16)).2.2.2.1.length = (lk s o.2.2.2.1 o.2.2.2.2 (eP Lp (pa 0) 16)).2.2.2.2.1.length) (hm : 40 ≤ mc) (hs : 1200 ≤ ms) :
    mX3_get l K mc ms [.ref x, .int s, .long m] h (kLX (fun r h' => St (sc 0) (kd 0) (ty 0) o.2.2.1 s (nI 2) (nI 2) 0 0 ∧ (∃ j, plm (lk s o.2.2.2.1 o.2.2.2.2 (eP Lp (pa 0) 16)) m j ∧ hasM (lk s o.2.2.2.1 o.2.2.2.2 (eP Lp (pa 0) 16)) m j ∧ r = (lk s o.2.2.2.1 o.2.2.2.2 (eP Lp (pa 0) 16)).2.2.2.1.getD j 0) ∧ SpC K h x ad o nm th nu sc kd ty pa Lp none h') (fun E h' => SpC K h x ad o nm th nu sc kd ty pa Lp none h' ∧ Xr (St (sc 0) (kd 0) (ty 0) o.2.2.1 s (nI 2) (nI 2) 0) 4 (∃ j, plm (lk s o.2.2.2.1 o.2.2.2.2 (eP Lp (pa 0) 16)) m j ∧ ¬ hasM (lk s o.2.2.2.1 o.2.2.2.2 (eP Lp (pa 0) 16)) m j) E)) := by
  have hok := C.lk_ok (show 0 < 7 by decide) C.t0 s o.2.2.2.1 o.2.2.2.2
  refine fX3_get htr ⟨C.ob, 2, 12, by omega, by omega, ?_⟩
  refine (sp_needToRead htr C hsc (Nat.le_refl _) (Nat.le_refl _)).VX ?_ (fun E h' z => Or.inr ⟨E, rfl, by rw [z.1]; exact SpC.none C I Ext.rf, Or.inl z.2⟩)
  rintro h' ⟨rfl, hst⟩
  have hml : (lk s o.2.2.2.1 o.2.2.2.2 (eP Lp (pa 0) 16)).2.2.2.1.length = (lk s o.2.2.2.1 o.2.2.2.2 (eP Lp (pa 0) 16)).2.2.2.2.1.length := by
    rcases hst with ⟨z, _⟩ | ⟨i, hi, hsi, z⟩
    · cases z
    · rcases z with ⟨z, _⟩ | ⟨z, _⟩
      · cases z
      · exact hmap i hi hsi (z.elim id id)
  refine ⟨C.ob, 1, 6, by omega, by omega, ?_⟩
  refine (sp_entryAtHand htr C (Nat.le_refl _) (Nat.le_refl _)).Q ?_
  rintro w h1 ⟨e, rfl, E, ex⟩
  rw [lk_eP (I 0 (by decide) C.t0)] at E
  generalize hv : lk s o.2.2.2.1 o.2.2.2.2 (eP Lp (pa 0) 16) = v at E hok hml ⊢
  have E9 := E
  obtain ⟨nu1, me1, b1, b2, b3, nf⟩ := E9
  refine ⟨e, rfl, E.obj, by omega, by omega, ?_⟩
  refine (sp_placeOf htr E (by omega)).I ?_
  rintro r h1' ⟨⟨j, rfl, hj⟩, rfl⟩
  have hj2 : j ≤ v.2.2.2.2.1.length := hj.1
  refine ⟨E.obj, by omega, by omega, ?_⟩
  refine (sp_hasMember htr E (by omega) (by omega)).I ?_
  rintro r h1'' ⟨rfl, rfl⟩
  refine ⟨fun q => ?_, fun q => ⟨by omega, by omega, Or.inr ⟨_, rfl, SpC.none C I ex, Or.inr ⟨rfl, hst, j, hj, bI_0.mp q⟩⟩⟩⟩
  have hm9 := Classical.byContradiction fun z => q (bI_0.mpr z)
  exact ⟨_, gf_of b1, _, aJ_jl b2 (by have := hm9.1; omega) (by omega), ⟨by omega, by omega⟩, Or.inl ⟨_, rfl, hst, ⟨j, hj, hm9, rfl⟩, SpC.none C I ex⟩⟩
theorem sp_size (htr : l.stackTraces = false) (C : CR K h x ad o nm th nu sc kd ty pa Lp rw) (I : PI th pa Lp) (hsc : sc 0 ≤ 8) (hm : 40 ≤ mc) (hs : 1200 ≤ ms) :
    mX3_size l K mc ms [.ref x, .int s] h (kIX (fun r h' => Sk (sc 0) o.2.2.1 s 0 ∧ (∃ i, i < sc 0 ∧ s = nI i ∧ r = if kd 0 i = nI 3 then (lk s o.2.2.2.1 o.2.2.2.2 (eP Lp (pa 0) 16)).2.2.2.2.2 else nI (lk s o.2.2.2.1 o.2.2.2.2 (eP Lp (pa 0) 16)).2.2.2.1.length) ∧ SpC K h x ad o nm th nu sc kd ty pa Lp none h') (fun E h' => h' = h ∧ ((E = exN 1 ∧ Sk (sc 0) o.2.2.1 s 1) ∨ (E = exN 3 ∧ Sk (sc 0) o.2.2.1 s 2)))) := by
  refine fX3_size htr ⟨C.ob, 1, 6, by omega, by omega, ?_⟩
  refine (sp_needState htr C (Nat.le_refl _) (Nat.le_refl _)).VX ?_ (fun E h' z => Or.inr ⟨E, rfl, z.2.1, Or.inl ⟨z.1, Or.inl ⟨rfl, z.2.2⟩⟩⟩)
  rintro h' ⟨rfl, hS⟩
  refine ⟨C.ob, 1, 6, by omega, by omega, ?_⟩
  refine (sp_needKey htr C (Nat.le_refl _) (Nat.le_refl _)).VX ?_ (fun E h' z => Or.inr ⟨E, rfl, z.2.1, Or.inr ⟨z.1, Or.inr ⟨hS, Or.inl ⟨rfl, z.2.2⟩⟩⟩⟩)
  rintro h' ⟨rfl, hk⟩
  have hst : Sk (sc 0) o.2.2.1 s 0 := Or.inr ⟨hS, Or.inr ⟨rfl, hk⟩⟩
  refine ⟨C.ob, 1, 6, by omega, by omega, ?_⟩
  refine (sp_entryAtHand htr C (Nat.le_refl _) (Nat.le_refl _)).Q ?_
  rintro w h1 ⟨e, rfl, E, ex⟩
  rw [lk_eP (I 0 (by decide) C.t0)] at E
  have C1 := C.ext ex
  obtain ⟨p1, -, p4, p5⟩ := C1.p0
  obtain ⟨i, hi, rfl⟩ := hS.ix (by omega)
  obtain ⟨nu1, me1, b1, b2, b3, nf⟩ := E
  refine ⟨_, gf_of C1.xx, _, gf_of p1, _, aI_x p4 (by omega) (by omega), fun q => ⟨e, rfl, _, gf_of b1, _, alen_jl b2, ⟨by omega, by omega⟩, Or.inl ⟨_, rfl, hst, ⟨i, hi, rfl, by rw [if_neg q]⟩, SpC.none C I ex⟩⟩, fun q => ⟨e, rfl, _, gf_of b1, ⟨by omega, by omega⟩, Or.inl ⟨_, rfl, hst, ⟨i, hi, rfl, by rw [if_pos q]⟩, SpC.none C I ex⟩⟩⟩
/-! snapshots, found -/
theorem sp_slotOf {n : Int32} (htr : l.stackTraces = false) (C : CR K h x ad o nm th nu sc kd ty pa Lp rw) :
    mX3_slotOf l K [.ref x, .int n] h (kI fun r h' => ((∃ j, j < 6 ∧ r = nI j ∧ th (j + 1) = true ∧ nu (j + 1) = n) ∨ (r = -nI 1 ∧ ∀ j, j < 6 → th (j + 1) = true → nu (j + 1) ≠ n)) ∧ h' = h) := by
  obtain ⟨f, c4, c5⟩ := C.2.2.1
  refine fX3_slotOf htr ?_
  intro X hX
  refine loopN (n := 6) (fun j => (∀ i, i < j → th (i + 1) = true → nu (i + 1) ≠ n) → X (nI j)) ?_ ?_ 0 (Nat.zero_le _) (fun i hi => absurd hi (Nat.not_lt_zero i))
  · intro hf
    exact hX _ ⟨fun _ => ⟨_, rfl, Or.inr ⟨rfl, hf⟩, rfl⟩, fun q => absurd (nI_le (Nat.le_refl _) (by omega)) q⟩
  · intro j hj ih hf
    have next : (th (j + 1) = true → nu (j + 1) ≠ n) → X (nI j + nI 1) := fun z => by
      rw [nI_sub1]
      refine ih fun i hi => ?_
      rcases Nat.lt_succ_iff_lt_or_eq.mp hi with q | rfl
      · exact hf i q
      · exact z
    refine hX _ ⟨fun q => absurd q (nI_ge hj (by omega)), fun q => ⟨_, gf_of C.xx, _, aQ_x c4 hj (by omega), fun z => next fun t => ?_, fun a z => ?_⟩⟩
    · rw [c5 j hj, if_pos t] at z; cases z
    · rw [c5 j hj] at z
      split at z
      · rename_i t
        cases z
        exact ⟨_, gf_of (C.p (by omega) t).1, fun q2 => next fun _ => q2, fun q2 => ⟨_, rfl, Or.inl ⟨j, hj, rfl, t, q2⟩, rfl⟩⟩
      · cases z
theorem neg1_lt : (-nI 1 : Int32) < nI 0 := by decide
/-- a snapshot of number n in slot c, or none -/
theorem sp_snapshotIn_s {j : Nat} (htr : l.stackTraces = false) (C : CR K h x ad o nm th nu sc kd ty pa Lp rw) (hj : j < 6) (ht : th (j + 1) = true) : mX3_snapshotIn l K mc ms [.ref x, .int (nI j)] h (kQX (fun w h' => w = some (ad (j + 1) 0) ∧ h' = h) (fun _ _ => False)) := by
  obtain ⟨f, c4, c5⟩ := C.2.2.1
  refine fX3_snapshotIn htr ⟨fun q => absurd q (nI_pos (by omega)), fun q => ⟨fun q2 => ⟨_, gf_of C.xx, _, aQ_x c4 hj (by omega), fun z => ?_, fun a z => ?_⟩, fun q2 => absurd (Int32.not_le.mp (nI_ge hj (by omega))) q2⟩⟩
  · rw [c5 j hj, if_pos ht] at z; cases z
  · rw [c5 j hj, if_pos ht] at z; cases z
    exact ⟨⟨by omega, by omega⟩, Or.inl ⟨some _, rfl, rfl, rfl⟩⟩
theorem sp_snapshotIn_n (htr : l.stackTraces = false) (hm : 1 ≤ mc) (hs : 6 ≤ ms) : mX3_snapshotIn l K mc ms [.ref x, .int (-nI 1)] h (kQX (fun _ _ => False) (fun E h' => E = exN 1 ∧ h' = h)) :=
  fX3_snapshotIn htr ⟨fun _ => ⟨by omega, by omega, Or.inr ⟨_, rfl, rfl, rfl⟩⟩, fun q => absurd neg1_lt q⟩
/-- c is the picture of number n: now for -1 -/
def pcR (th : Nat → Bool) (nu : Nat → Int32) (n : Int32) (c : Nat) : Prop := (n = -nI 1 ∧ c = 0) ∨ (n ≠ -nI 1 ∧ 0 < c ∧ c < 7 ∧ th c = true ∧ nu c = n)
def pcN (th : Nat → Bool) (nu : Nat → Int32) (n : Int32) : Prop := n ≠ -nI 1 ∧ ∀ j, j < 6 → th (j + 1) = true → nu (j + 1) ≠ n
theorem sp_pictureOf {n : Int32} (htr : l.stackTraces = false) (C : CR K h x ad o nm th nu sc kd ty pa Lp rw) (hm : 1 ≤ mc) (hs : 6 ≤ ms) :
    mX3_pictureOf l K mc ms [.ref x, .int n] h (kQX (fun w h' => h' = h ∧ ∃ c, w = some (ad c 0) ∧ c < 7 ∧ th c = true ∧ pcR th nu n c) (fun E h' => h' = h ∧ E = exN 1 ∧ pcN th nu n)) := by
  refine fX3_pictureOf htr ⟨fun q => ⟨C.ob, by omega, by omega, ?_⟩, fun q => ⟨_, gf_of C.xx, ⟨by omega, by omega⟩, Or.inl ⟨some _, rfl, rfl, 0, rfl, by decide, C.t0, Or.inl ⟨q, rfl⟩⟩⟩⟩
  refine (sp_slotOf htr C).I ?_
  rintro r h' ⟨z, rfl⟩
  refine ⟨C.ob, 1, 6, by omega, by omega, ?_⟩
  rcases z with ⟨j, hj, rfl, t, hn⟩ | ⟨rfl, hn⟩
  · refine (sp_snapshotIn_s htr C hj t).QX ?_ ?_
    · rintro w h' ⟨rfl, rfl⟩
      exact ⟨⟨by omega, by omega⟩, Or.inl ⟨_, rfl, rfl, j + 1, rfl, by omega, t, Or.inr ⟨q, by omega, by omega, t, hn⟩⟩⟩
    · intro E h' z; exact z.elim
  · refine (sp_snapshotIn_n htr (Nat.le_refl _) (Nat.le_refl _)).QX ?_ ?_
    · intro w h' z; exact z.elim
    · rintro E h' ⟨rfl, rfl⟩
      exact Or.inr ⟨_, rfl, rfl, rfl, q, hn⟩
theorem sp_ask {n : Int32} {k : Int64} {sp i : Int32} (htr : l.stackTraces = false) (C : CR K h x ad o nm th nu sc kd ty pa Lp rw) (I : PI th pa Lp) (hm : 40 ≤ mc) (hs : 1200 ≤ ms) :
    mX3_ask l K mc ms [.ref x, .int n, .int s, .long k, .int sp, .int i] h (kLX (fun r h' => isS s (sc 0) ∧ (∃ c j, c < 7 ∧ th c = true ∧ pcR th nu n c ∧ j < (lk s k sp (eP Lp (pa c) 16)).2.2.2.1.length ∧ i = nI j ∧ r = (lk s k sp (eP Lp (pa c) 16)).2.2.2.1.getD j 0) ∧ SpC K h x ad o nm th nu sc kd ty pa Lp none h')
      (fun E h' => SpC K h x ad o nm th nu sc kd ty pa Lp none h' ∧ ((E = exN 1 ∧ (¬ isS s (sc 0) ∨ pcN th nu n)) ∨ (E = exN 4 ∧ isS s (sc 0) ∧ ∃ c, c < 7 ∧ th c = true ∧ pcR th nu n c ∧ ¬ isS i (lk s k sp (eP Lp (pa c) 16)).2.2.2.1.length)))) := by
  refine fX3_ask htr ⟨C.ob, 1, 6, by omega, by omega, ?_⟩
  refine (sp_pictureOf htr C (Nat.le_refl _) (Nat.le_refl _)).QX ?_ (fun E h' z => Or.inr ⟨E, rfl, by rw [z.1]; exact SpC.none C I Ext.rf, Or.inl ⟨z.2.1, Or.inr z.2.2⟩⟩)
  rintro w h' ⟨rfl, c, rfl, hc, ht, hpc⟩
  refine ⟨C.ob, 1, 6, by omega, by omega, ?_⟩
  refine (sp_needState htr C (Nat.le_refl _) (Nat.le_refl _)).VX ?_ (fun E h' z => Or.inr ⟨E, rfl, by rw [z.2.1]; exact SpC.none C I Ext.rf, Or.inl ⟨z.1, Or.inl z.2.2⟩⟩)
  rintro h' ⟨rfl, hS⟩
  have hok := C.lk_ok hc ht s k sp
  refine ⟨_, rfl, ⟨_, (C.p hc ht).1⟩, 1, 6, by omega, by omega, ?_⟩
  refine (sp_entryOf htr (C.p hc ht) (fun p hp => C.g hc ht hp) C.e (Nat.le_refl _) (Nat.le_refl _)).Q ?_
  rintro w h1 ⟨e, rfl, E, ex⟩
  rw [lk_eP (I c hc ht)] at E
  obtain ⟨nu1, me1, b1, b2, b3, nf⟩ := E
  refine ⟨e, rfl, _, gf_of b1, fun q => ⟨by omega, by omega, Or.inr ⟨_, rfl, SpC.none C I ex, Or.inr ⟨rfl, hS, c, hc, ht, hpc, fun z => z.1 q⟩⟩⟩, fun q => ⟨_, alen_jl b2, fun q2 => ?_, fun q2 => ⟨by omega, by omega, Or.inr ⟨_, rfl, SpC.none C I ex, Or.inr ⟨rfl, hS, c, hc, ht, hpc, fun z => q2 z.2⟩⟩⟩⟩⟩
  obtain ⟨j, hj, rfl⟩ := (show isS i _ from ⟨q, q2⟩).ix (by omega)
  exact ⟨_, aJ_jl b2 hj (by omega), ⟨by omega, by omega⟩, Or.inl ⟨_, rfl, hS, ⟨c, j, hc, ht, hpc, hj, rfl, rfl⟩, SpC.none C I ex⟩⟩
theorem sp_entries {n : Int32} (htr : l.stackTraces = false) (C : CR K h x ad o nm th nu sc kd ty pa Lp rw) (hm : 40 ≤ mc) (hs : 1200 ≤ ms) :
    mX3_entries l K mc ms [.ref x, .int n, .int s] h (kIX (fun r h' => h' = h ∧ isS s (sc 0) ∧ ∃ c, c < 7 ∧ th c = true ∧ pcR th nu n c ∧ r = nI ((eP Lp (pa c) 16).countP (fun v => decide (v.1 = s))))
      (fun E h' => h' = h ∧ E = exN 1 ∧ (¬ isS s (sc 0) ∨ pcN th nu n))) := by
  refine fX3_entries htr ⟨C.ob, 1, 6, by omega, by omega, ?_⟩
  refine (sp_pictureOf htr C (Nat.le_refl _) (Nat.le_refl _)).QX ?_ (fun E h' z => Or.inr ⟨E, rfl, z.1, z.2.1, Or.inr z.2.2⟩)
  rintro w h' ⟨rfl, c, rfl, hc, ht, hpc⟩
  refine ⟨C.ob, 1, 6, by omega, by omega, ?_⟩
  refine (sp_needState htr C (Nat.le_refl _) (Nat.le_refl _)).VX ?_ (fun E h' z => Or.inr ⟨E, rfl, z.2.1, z.1, Or.inl z.2.2⟩)
  rintro h' ⟨rfl, hS⟩
  refine ⟨_, rfl, ⟨_, (C.p hc ht).1⟩, by omega, by omega, ?_⟩
  refine (sp_picCountEntriesOf htr (C.p hc ht) (fun p hp => C.g hc ht hp)).I ?_
  rintro r h' ⟨rfl, rfl⟩
  exact ⟨⟨by omega, by omega⟩, Or.inl ⟨_, rfl, rfl, hS, c, hc, ht, hpc, rfl⟩⟩
theorem sp_of {i : Int32} (htr : l.stackTraces = false) (C : CR K h x ad o nm th nu sc kd ty pa Lp rw) (hsc : sc 0 ≤ 8) (hm : 40 ≤ mc) (hs : 1200 ≤ ms) :
    mX3_of l K mc ms [.ref x, .int s, .int i] h (kIX (fun r h' => h' = h ∧ ∃ j, j < sc 0 ∧ s = nI j ∧ ((i = nI 0 ∧ r = nm j) ∨ (i = nI 1 ∧ r = kd 0 j) ∨ (i = nI 2 ∧ r = ty 0 j)))
      (fun E h' => h' = h ∧ E = exN 1 ∧ (¬ isS s (sc 0) ∨ i.toInt < 0 ∨ 2 < i.toInt))) := by
  refine fX3_of htr ⟨C.ob, 1, 6, by omega, by omega, ?_⟩
  refine (sp_needState htr C (Nat.le_refl _) (Nat.le_refl _)).VX ?_ (fun E h' z => Or.inr ⟨E, rfl, z.2.1, z.1, Or.inl z.2.2⟩)
  rintro h' ⟨rfl, hS⟩
  obtain ⟨j, hj, rfl⟩ := hS.ix (by omega)
  obtain ⟨p1, -, p4, p5⟩ := C.p0
  refine ⟨fun q => ⟨by omega, by omega, Or.inr ⟨_, rfl, rfl, rfl, Or.inr q⟩⟩, fun q => ⟨_, gf_of C.xx, _, aI_x C.2.1 (by omega) (by omega), ⟨by omega, by omega⟩, Or.inl ⟨_, rfl, rfl, j, hj, rfl, Or.inl ⟨q, rfl⟩⟩⟩, fun q => ⟨_, gf_of C.xx, _, gf_of p1, _, aI_x p4 (by omega) (by omega), ⟨by omega, by omega⟩, Or.inl ⟨_, rfl, rfl, j, hj, rfl, Or.inr (Or.inl ⟨q, rfl⟩)⟩⟩, fun q => ⟨_, gf_of C.xx, _, gf_of p1, _, aI_x p5 (by omega) (by omega), ⟨by omega, by omega⟩, Or.inl ⟨_, rfl, rfl, j, hj, rfl, Or.inr (Or.inr ⟨q, rfl⟩)⟩⟩⟩
theorem sp_countSnapshots (htr : l.stackTraces = false) (C : CR K h x ad o nm th nu sc kd ty pa Lp rw) : mX3_countSnapshots l K [.ref x] h (kI fun r h' => r = nI ((List.range 6).countP (fun j => th (j + 1))) ∧ h' = h) := by
  obtain ⟨f, c4, c5⟩ := C.2.2.1
  refine fX3_countSnapshots htr ?_
  intro X hX
  refine loopN (n := 6) (fun j => X (nI ((List.range j).countP (fun j => th (j + 1)))) (nI j)) ?_ ?_ 0 (Nat.zero_le _)
  · exact hX _ _ ⟨fun _ => ⟨_, rfl, rfl, rfl⟩, fun q => absurd (nI_le (Nat.le_refl _) (by omega)) q⟩
  · intro j hj ih
    rw [List.range_succ, List.countP_append] at ih
    refine hX _ _ ⟨fun q => absurd q (nI_ge hj (by omega)), fun q => ⟨_, gf_of C.xx, _, aQ_x c4 hj (by omega), fun z => ?_, fun a z => ?_⟩⟩
    · rw [c5 j hj] at z
      split at z
      · cases z
      · rename_i t
        rw [nI_sub1]; simpa [t] using ih
    · rw [c5 j hj] at z
      split at z
      · rename_i t
        rw [nI_sub1, nI_sub1]; simpa [t] using ih
      · cases z
theorem sp_told {i : Int32} (htr : l.stackTraces = false) (C : CR K h x ad o nm th nu sc kd ty pa Lp rw) :
    mX3_told l K [.ref x, .int i] h (kI fun r h' => h' = h ∧ (((i.toInt < 0 ∨ 6 < i.toInt) ∧ r = -nI 1) ∨ (i = nI 0 ∧ r = nI (sc 0)) ∨ (i = nI 1 ∧ r = nI (eP Lp (pa 0) 16).length) ∨ (i = nI 2 ∧ r = nI ((List.range 6).countP (fun j => th (j + 1)))) ∨ (i = nI 3 ∧ r = nI ((List.range 16).countP (fun p => decide (0 < hdc th pa p (pa 0 p))))) ∨ (i = nI 4 ∧ r = o.2.1) ∨
      (i = nI 5 ∧ r = nI ((List.range 16).countP (fun p => decide (0 < (ents (Lp (pa 0 p))).length)))) ∨ (i = nI 6 ∧ r = nI ((eP Lp (pa 0) 16).map (fun v => v.2.2.2.1.length)).sum))) := by
  have P := C.p0
  have G : ∀ p, p < 16 → PgR K h rw Lp (pa 0 p) (hdc th pa p (pa 0 p)) := fun p hp => C.g0 hp
  refine fX3_told htr ⟨fun q => ⟨_, rfl, rfl, Or.inl ⟨q, rfl⟩⟩, fun q => ⟨_, gf_of C.xx, _, gf_of P.1, _, rfl, rfl, Or.inr (Or.inl ⟨q, rfl⟩)⟩, fun q => ⟨_, gf_of C.xx, ⟨_, P.1⟩, ?_⟩, fun q => ⟨C.ob, ?_⟩, fun q => ⟨_, gf_of C.xx, ⟨_, P.1⟩, ?_⟩, fun q => ⟨_, gf_of C.xx, _, rfl, rfl, Or.inr (Or.inr (Or.inr (Or.inr (Or.inr (Or.inl ⟨q, rfl⟩)))))⟩, fun q => ⟨_, gf_of C.xx, ⟨_, P.1⟩, ?_⟩, fun q => ⟨_, gf_of C.xx, ⟨_, P.1⟩, ?_⟩⟩
  · refine (sp_picCountEntries htr P G).I ?_
    rintro r h' ⟨rfl, rfl⟩
    exact ⟨_, rfl, rfl, Or.inr (Or.inr (Or.inl ⟨q, rfl⟩))⟩
  · refine (sp_countSnapshots htr C).I ?_
    rintro r h' ⟨rfl, rfl⟩
    exact ⟨_, rfl, rfl, Or.inr (Or.inr (Or.inr (Or.inl ⟨q, rfl⟩)))⟩
  · refine (sp_picCountShared htr P G (fun p hp => by have := hdc_le th pa p (pa 0 p); omega)).I ?_
    rintro r h' ⟨rfl, rfl⟩
    exact ⟨_, rfl, rfl, Or.inr (Or.inr (Or.inr (Or.inr (Or.inl ⟨q, rfl⟩))))⟩
  · refine (sp_picCountPagesInUse htr P G).I ?_
    rintro r h' ⟨rfl, rfl⟩
    exact ⟨_, rfl, rfl, Or.inr (Or.inr (Or.inr (Or.inr (Or.inr (Or.inr (Or.inl ⟨q, rfl⟩))))))⟩
  · refine (sp_picCountNumbers htr P G).I ?_
    rintro r h' ⟨rfl, rfl⟩
    exact ⟨_, rfl, rfl, Or.inr (Or.inr (Or.inr (Or.inr (Or.inr (Or.inr (Or.inr ⟨q, rfl⟩))))))⟩
end Obj
