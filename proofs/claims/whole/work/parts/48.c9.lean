/-! ===== the class: value, get, ask over the right words ===== -/
section Obj
variable {l : Launch} {K : Kx} {h h' : Hp} {x : Nat} {ad : Nat → Nat → Nat} {o : OV} {nm : Nat → Int32} {th : Nat → Bool} {nu : Nat → Int32} {sc : Nat → Nat} {kd ty : Nat → Nat → Int32} {pa : Nat → Nat → Nat} {Lp : Nat → List (Option EV)} {rw : Nat → Nat} {s : Int32} {mc ms : Nat}
theorem sp_value9 (htr : l.stackTraces = false) (C : CR K h x ad o nm th nu sc kd ty pa Lp rw) (I : PI th pa Lp) (hsc : sc 0 ≤ 8) (hm : 40 ≤ mc) (hs : 1200 ≤ ms) :
    mX3_value9 l K mc ms [.ref x, .int s] h (kLX (fun r h' => St (sc 0) (kd 0) (ty 0) o.2.2.1 s (nI 0) (nI 3) 0 0 ∧ (lk s o.2.2.2.1 o.2.2.2.2 (eP Lp (pa 0) 16)).2.2.2.1 ≠ [] ∧ r = (lk s o.2.2.2.1 o.2.2.2.2 (eP Lp (pa 0) 16)).2.2.2.1.getD 0 0 ∧ SpC K h x ad o nm th nu sc kd ty pa Lp none h') (fun E h' => SpC K h x ad o nm th nu sc kd ty pa Lp none h' ∧ Xr (St (sc 0) (kd 0) (ty 0) o.2.2.1 s (nI 0) (nI 3) 0) 4 ((lk s o.2.2.2.1 o.2.2.2.2 (eP Lp (pa 0) 16)).2.2.2.1 = []) E)) := by
  have hok := C.lk_ok (show 0 < 7 by decide) C.t0 s o.2.2.2.1 o.2.2.2.2
  refine fX3_value9 htr ⟨C.ob, 2, 12, by omega, by omega, ?_⟩
  refine (sp_needToRead htr C hsc (Nat.le_refl _) (Nat.le_refl _)).VX ?_ (fun E h' z => Or.inr ⟨E, rfl, by rw [z.1]; exact SpC.none C I Ext.rf, Or.inl z.2⟩)
  rintro h' ⟨rfl, hst⟩
  refine ⟨C.ob, 1, 6, by omega, by omega, ?_⟩
  refine (sp_entryAtHand htr C (Nat.le_refl _) (Nat.le_refl _)).Q ?_
  rintro w h1 ⟨e, rfl, E, ex⟩
  rw [lk_eP (I 0 (by decide) C.t0)] at E
  generalize hv : lk s o.2.2.2.1 o.2.2.2.2 (eP Lp (pa 0) 16) = v at E hok ⊢
  have E9 := E
  obtain ⟨nu1, me1, b1, b2, b3, nf⟩ := E9
  refine ⟨e, rfl, E.obj, by omega, by omega, ?_⟩
  refine (sp_isNone htr E (by omega)).I ?_
  rintro r h1' ⟨rfl, rfl⟩
  refine ⟨fun q => ?_, fun q => ⟨by omega, by omega, Or.inr ⟨_, rfl, SpC.none C I ex, Or.inr ⟨rfl, hst, Classical.byContradiction fun z => q (bI_0.mpr z)⟩⟩⟩⟩
  have hne := bI_0.mp q
  exact ⟨_, gf_of b1, _, aJ_jl (j := 0) b2 (List.length_pos_iff.mpr hne) (by omega), ⟨by omega, by omega⟩, Or.inl ⟨_, rfl, hst, hne, rfl, SpC.none C I ex⟩⟩
theorem sp_get9 {m : Int64} (htr : l.stackTraces = false) (C : CR K h x ad o nm th nu sc kd ty pa Lp rw) (I : PI th pa Lp) (hsc : sc 0 ≤ 8) (hmap : ∀ i, i < sc 0 → s = nI i → kd 0 i = nI 2 → (lk s o.2.2.2.1 o.2.2.2.2 (eP Lp (pa 0) 16)).2.2.2.1.length = (lk s o.2.2.2.1 o.2.2.2.2 (eP Lp (pa 0) 16)).2.2.2.2.1.length) (hm : 40 ≤ mc) (hs : 1200 ≤ ms) :
    mX3_get9 l K mc ms [.ref x, .int s, .long m] h (kLX (fun r h' => St (sc 0) (kd 0) (ty 0) o.2.2.1 s (nI 2) (nI 2) 0 0 ∧ (∃ j, plm (lk s o.2.2.2.1 o.2.2.2.2 (eP Lp (pa 0) 16)) m j ∧ hasM (lk s o.2.2.2.1 o.2.2.2.2 (eP Lp (pa 0) 16)) m j ∧ r = (lk s o.2.2.2.1 o.2.2.2.2 (eP Lp (pa 0) 16)).2.2.2.1.getD j 0) ∧ SpC K h x ad o nm th nu sc kd ty pa Lp none h') (fun E h' => SpC K h x ad o nm th nu sc kd ty pa Lp none h' ∧ Xr (St (sc 0) (kd 0) (ty 0) o.2.2.1 s (nI 2) (nI 2) 0) 4 (∃ j, plm (lk s o.2.2.2.1 o.2.2.2.2 (eP Lp (pa 0) 16)) m j ∧ ¬ hasM (lk s o.2.2.2.1 o.2.2.2.2 (eP Lp (pa 0) 16)) m j) E)) := by
  have hok := C.lk_ok (show 0 < 7 by decide) C.t0 s o.2.2.2.1 o.2.2.2.2
  refine fX3_get9 htr ⟨C.ob, 2, 12, by omega, by omega, ?_⟩
  refine (sp_needToRead htr C hsc (Nat.le_refl _) (Nat.le_refl _)).VX ?_ (fun E h' z => Or.inr ⟨E, rfl, by rw [z.1]; exact SpC.none C I Ext.rf, Or.inl z.2⟩)
  rintro h' ⟨rfl, hst⟩
  have hml : (lk s o.2.2.2.1 o.2.2.2.2 (eP Lp (pa 0) 16)).2.2.2.1.length = (lk s o.2.2.2.1 o.2.2.2.2 (eP Lp (pa 0) 16)).2.2.2.2.1.length := by
    rcases hst with ⟨z, _⟩ | ⟨i, hi, hsi, z⟩
    · cases z
    · rcases z with ⟨z, _⟩ | ⟨z, _⟩
      · cases z
      · exact hmap i hi hsi (z.elim id id)
  refine ⟨C.ob, 1, 6, by omega, by omega, ?_⟩
  refine (sp_entryAtHand htr C (Nat.le_refl _) (Nat.le_refl _)).Q ?_
  rintro w h1 ⟨e, rfl, E, ex⟩
  rw [lk_eP (I 0 (by decide) C.t0)] at E
  generalize hv : lk s o.2.2.2.1 o.2.2.2.2 (eP Lp (pa 0) 16) = v at E hok hml ⊢
  have E9 := E
  obtain ⟨nu1, me1, b1, b2, b3, nf⟩ := E9
  refine ⟨e, rfl, E.obj, by omega, by omega, ?_⟩
  refine (sp_placeOf htr E (by omega)).I ?_
  rintro r h1' ⟨⟨j, rfl, hj⟩, rfl⟩
  have hj2 : j ≤ v.2.2.2.2.1.length := hj.1
  refine ⟨E.obj, by omega, by omega, ?_⟩
  refine (sp_hasMember htr E (by omega) (by omega)).I ?_
  rintro r h1'' ⟨rfl, rfl⟩
  refine ⟨fun q => ?_, fun q => ⟨by omega, by omega, Or.inr ⟨_, rfl, SpC.none C I ex, Or.inr ⟨rfl, hst, j, hj, bI_0.mp q⟩⟩⟩⟩
  have hm9 := Classical.byContradiction fun z => q (bI_0.mpr z)
  exact ⟨_, gf_of b1, _, aJ_jl b2 (by have := hm9.1; omega) (by omega), ⟨by omega, by omega⟩, Or.inl ⟨_, rfl, hst, ⟨j, hj, hm9, rfl⟩, SpC.none C I ex⟩⟩
theorem sp_ask9 {n : Int32} {k : Int64} {sp i : Int32} (htr : l.stackTraces = false) (C : CR K h x ad o nm th nu sc kd ty pa Lp rw) (I : PI th pa Lp) (hm : 40 ≤ mc) (hs : 1200 ≤ ms) :
    mX3_ask9 l K mc ms [.ref x, .int n, .int s, .long k, .int sp, .int i] h (kLX (fun r h' => isS s (sc 0) ∧ (∃ c j, c < 7 ∧ th c = true ∧ pcR th nu n c ∧ j < (lk s k sp (eP Lp (pa c) 16)).2.2.2.1.length ∧ i = nI j ∧ r = (lk s k sp (eP Lp (pa c) 16)).2.2.2.1.getD j 0) ∧ SpC K h x ad o nm th nu sc kd ty pa Lp none h')
      (fun E h' => SpC K h x ad o nm th nu sc kd ty pa Lp none h' ∧ ((E = exN 1 ∧ (¬ isS s (sc 0) ∨ pcN th nu n)) ∨ (E = exN 4 ∧ isS s (sc 0) ∧ ∃ c, c < 7 ∧ th c = true ∧ pcR th nu n c ∧ ¬ isS i (lk s k sp (eP Lp (pa c) 16)).2.2.2.1.length)))) := by
  refine fX3_ask9 htr ⟨C.ob, 1, 6, by omega, by omega, ?_⟩
  refine (sp_pictureOf htr C (Nat.le_refl _) (Nat.le_refl _)).QX ?_ (fun E h' z => Or.inr ⟨E, rfl, by rw [z.1]; exact SpC.none C I Ext.rf, Or.inl ⟨z.2.1, Or.inr z.2.2⟩⟩)
  rintro w h' ⟨rfl, c, rfl, hc, ht, hpc⟩
  refine ⟨C.ob, 1, 6, by omega, by omega, ?_⟩
  refine (sp_needState htr C (Nat.le_refl _) (Nat.le_refl _)).VX ?_ (fun E h' z => Or.inr ⟨E, rfl, by rw [z.2.1]; exact SpC.none C I Ext.rf, Or.inl ⟨z.1, Or.inl z.2.2⟩⟩)
  rintro h' ⟨rfl, hS⟩
  have hok := C.lk_ok hc ht s k sp
  refine ⟨_, rfl, ⟨_, (C.p hc ht).1⟩, 1, 6, by omega, by omega, ?_⟩
  refine (sp_entryOf htr (C.p hc ht) (fun p hp => C.g hc ht hp) C.e (Nat.le_refl _) (Nat.le_refl _)).Q ?_
  rintro w h1 ⟨e, rfl, E, ex⟩
  rw [lk_eP (I c hc ht)] at E
  obtain ⟨nu1, me1, b1, b2, b3, nf⟩ := E
  refine ⟨e, rfl, _, gf_of b1, fun q => ⟨by omega, by omega, Or.inr ⟨_, rfl, SpC.none C I ex, Or.inr ⟨rfl, hS, c, hc, ht, hpc, fun z => z.1 q⟩⟩⟩, fun q => ⟨_, alen_jl b2, fun q2 => ?_, fun q2 => ⟨by omega, by omega, Or.inr ⟨_, rfl, SpC.none C I ex, Or.inr ⟨rfl, hS, c, hc, ht, hpc, fun z => q2 z.2⟩⟩⟩⟩⟩
  obtain ⟨j, hj, rfl⟩ := (show isS i _ from ⟨q, q2⟩).ix (by omega)
  exact ⟨_, aJ_jl b2 hj (by omega), ⟨by omega, by omega⟩, Or.inl ⟨_, rfl, hS, ⟨c, j, hc, ht, hpc, hj, rfl, rfl⟩, SpC.none C I ex⟩⟩
end Obj
