/-! ===== the class: move ===== -/
section Obj
variable {l : Launch} {K : Kx} {h h' : Hp} {x : Nat} {ad : Nat → Nat → Nat} {o : OV} {nm : Nat → Int32} {th : Nat → Bool} {nu : Nat → Int32} {sc : Nat → Nat} {kd ty : Nat → Nat → Int32} {pa : Nat → Nat → Nat} {Lp : Nat → List (Option EV)} {rw : Nat → Nat} {s : Int32} {mc ms : Nat}
theorem CR.kt2 {kd0 ty0 : Nat → Int32} (C : CR K h x ad o nm th nu sc kd ty pa Lp rw) : CR K (va_up (va_up h (ad 0 2) (some (xI K 8 kd0))) (ad 0 3) (some (xI K 8 ty0))) x ad o nm th nu sc (u0 kd kd0) (u0 ty ty0) pa Lp rw ∧ FF K h (va_up (va_up h (ad 0 2) (some (xI K 8 kd0))) (ad 0 3) (some (xI K 8 ty0))) := by
  have d := C.d
  obtain ⟨p1, ⟨g, p2, p3⟩, p4, p5⟩ := C.p0
  have a0 : ∀ k, k < 4 → ad 7 0 ≠ ad 0 k := fun k hk z => (d.2.2.2.1 0 k (by decide) d.1 hk).1 z.symm
  have ne : ∀ k k', k < 4 → k' < 4 → k ≠ k' → ad 0 k ≠ ad 0 k' := fun k k' hk hk' n z => n (d.2.2.2.2.1 0 0 k k' (by decide) (by decide) d.1 d.1 hk hk' z).2
  have r := C.re (h' := va_up (va_up h (ad 0 2) (some (xI K 8 kd0))) (ad 0 3) (some (xI K 8 ty0))) (nm' := nm) (sc0 := sc 0) (pg0 := pa 0) (kd0 := kd0) (ty0 := ty0) (by rw [up_n (a0 3 (by decide)), up_n (a0 2 (by decide))]; exact C.2.1) ⟨by rw [up_n (ne 0 3 (by decide) (by decide) (by decide)), up_n (ne 0 2 (by decide) (by decide) (by decide))]; exact p1, ⟨g, by rw [up_n (ne 1 3 (by decide) (by decide) (by decide)), up_n (ne 1 2 (by decide) (by decide) (by decide))]; exact p2, p3⟩, by rw [up_n (ne 2 3 (by decide) (by decide) (by decide)), up_s], up_s _ _ _⟩ (fun p hp => ⟨0, by decide, d.1, rfl⟩) (fun a X e n1 n2 => by rw [up_n (n2 3 (by decide)), up_n (n2 2 (by decide))]; exact e)
  rw [u0_self, u0_self] at r
  exact ⟨r.1, r.2.1⟩
theorem sp_move {k t : Int32} (htr : l.stackTraces = false) (C : CR K h x ad o nm th nu sc kd ty pa Lp rw) (I : PI th pa Lp) (h150 : (eP Lp (pa 0) 16).length ≤ 150) (hsc : sc 0 ≤ 8) (hkd : ∀ i, i < sc 0 → ∃ j, j < 4 ∧ kd 0 i = nI j) (hm : 400 ≤ mc) (hs : 7000 ≤ ms) :
    mX3_move l K mc ms [.ref x, .int s, .int k, .int t] h (kIX (fun r h' => ∃ i, i < sc 0 ∧ s = nI i ∧ ((¬ kt k t ∧ r = -nI 1 ∧ h' = h) ∨ (kt k t ∧ ¬ (cmv (kd 0 i) k ∧ ∀ v ∈ eP Lp (pa 0) 16, v.1 = s → ∀ x ∈ v.2.2.2.1, ft k t x) ∧ r = -nI 3 ∧ h' = h) ∨
      (kt k t ∧ (cmv (kd 0 i) k ∧ ∀ v ∈ eP Lp (pa 0) 16, v.1 = s → ∀ x ∈ v.2.2.2.1, ft k t x) ∧ r = nI ((eP Lp (pa 0) 16).countP (fun v => decide (v.1 = s))) ∧ MS K h x ad o nm th nu sc kd ty (u0 kd (upd (kd 0) i k)) (u0 ty (upd (ty 0) i t)) pa Lp (fun v => decide (v.1 = s)) (mvL s k t) h'))) (fun E h' => h' = h ∧ E = exN 1 ∧ ¬ isS s (sc 0))) := by
  refine fX3_move htr ⟨C.ob, 1, 6, by omega, by omega, ?_⟩
  refine (sp_needState htr C (Nat.le_refl _) (Nat.le_refl _)).VX ?_ (fun E h' z => Or.inr ⟨E, rfl, z.2.1, z.1, z.2.2⟩)
  rintro h' ⟨rfl, hS⟩
  obtain ⟨i, hi, rfl⟩ := hS.ix (by omega)
  refine ⟨by omega, by omega, ?_⟩
  refine (sp_isKindAndType htr).I ?_
  rintro r h9 ⟨z, rfl⟩
  rcases z.symm with ⟨rfl, hk⟩ | ⟨rfl, hk⟩
  · exact ⟨fun q => absurd rfl q, fun _ => ⟨⟨by omega, by omega⟩, Or.inl ⟨_, rfl, i, hi, rfl, Or.inl ⟨hk, rfl, rfl⟩⟩⟩⟩
  refine ⟨fun _ => ?_, fun q => absurd q nI01⟩
  have P0 := C.p0
  obtain ⟨p1, ⟨g, p2, p3⟩, p4, p5⟩ := P0
  refine ⟨_, gf_of C.xx, _, gf_of p1, _, aI_x p4 (by omega) (by omega), by omega, by omega, ?_⟩
  refine (sp_canMove htr (hkd i hi)).I ?_
  rintro r h9' ⟨rfl, rfl⟩
  refine ⟨fun q => ⟨⟨by omega, by omega⟩, Or.inl ⟨_, rfl, i, hi, rfl, Or.inr (Or.inl ⟨hk, fun z => bI_0.mp q z.1, rfl, rfl⟩)⟩⟩, fun q => ⟨_, gf_of C.xx, ⟨_, p1⟩, by omega, by omega, ?_⟩⟩
  have hcm := Classical.byContradiction fun z => q (bI_0.mpr z)
  refine (sp_picAllFit htr C.p0 (fun p hp => C.g0 hp)).I ?_
  rintro r h9'' ⟨⟨dd, rfl⟩, rfl⟩
  refine ⟨fun q2 => ?_, fun q2 => ⟨⟨by omega, by omega⟩, Or.inl ⟨_, rfl, i, hi, rfl, Or.inr (Or.inl ⟨hk, fun z => bI_0.mp q2 z.2, rfl, rfl⟩)⟩⟩⟩
  have hft := Classical.byContradiction fun z => q2 (bI_0.mpr z)
  intro X hX
  have hψ : ∀ A B, mvL (nI i) k t (A ++ B) = mvL (nI i) k t A ++ mvL (nI i) k t B := fun A B => List.map_append ..
  have mono : ∀ j, j ≤ 16 → (eP Lp (pa 0) j).countP (fun v => decide (v.1 = nI i)) ≤ 150 := by
    have hb : (eP Lp (pa 0) 16).countP (fun v => decide (v.1 = nI i)) ≤ 150 := Nat.le_trans List.countP_le_length h150
    refine loopN (n := 16) (fun j => (eP Lp (pa 0) j).countP (fun v => decide (v.1 = nI i)) ≤ 150) hb ?_
    intro j _ ih
    rw [eP_s, List.countP_append] at ih
    omega
  refine loopN (n := 16) (fun j => ∀ h' o' pa' Lp' rw' kc ks, SW K h9'' x ad o nm th nu sc kd ty pa Lp (pT (fun v => decide (v.1 = nI i)) (eP Lp (pa 0) 16)) (mvL (nI i) k t) j h' o' pa' Lp' rw' → kc ≤ 1 + 3 * j + 2 * (eP Lp (pa 0) j).countP (fun v => decide (v.1 = nI i)) → ks ≤ 6 + 306 * j + 7 * (eP Lp (pa 0) j).countP (fun v => decide (v.1 = nI i)) → X (nI ((eP Lp (pa 0) j).countP (fun v => decide (v.1 = nI i)))) (nI j) h' kc ks) ?_ ?_ 0 (Nat.zero_le _) h9'' o pa Lp rw _ _ (SW.zero C) (by omega) (by omega)
  · intro h' o' pa' Lp' rw' kc ks w hk1 hk2
    have hb := mono 16 (Nat.le_refl _)
    obtain ⟨f1, f2, f3⟩ := w.fin I rfl hψ (fun E v hv => by
      obtain ⟨u, hu, e⟩ := List.mem_map.mp hv
      refine ⟨u, hu, ?_⟩
      rw [← e]
      split
      · exact (mvE_ky _ _ _).symm
      · rfl)
    have C' := w.1
    obtain ⟨p1', ⟨g', p2', p3'⟩, p4', p5'⟩ := C'.p0
    have hxa : x ≠ ad 0 2 := ne_tag C'.xx p4' (by simp [tag_O, tag_I])
    have d := C.d
    have ne : ∀ k k', k < 4 → k' < 4 → k ≠ k' → ad 0 k ≠ ad 0 k' := fun k k' hk hk' n z => n (d.2.2.2.2.1 0 0 k k' (by decide) (by decide) d.1 d.1 hk hk' z).2
    have e1 : va_up h' (ad 0 2) (some (xI K 8 (upd (kd 0) i k))) x = some (xob ad o') := by rw [up_n hxa]; exact C'.xx
    have e2 : va_up h' (ad 0 2) (some (xI K 8 (upd (kd 0) i k))) (ad 0 0) = some (xO 2 [.int (nu 0), .ref (ad 0 1), .ref (ad 0 2), .ref (ad 0 3), .int (nI (sc 0))]) := by rw [up_n (ne 0 2 (by decide) (by decide) (by decide))]; exact p1'
    have e3 : va_up h' (ad 0 2) (some (xI K 8 (upd (kd 0) i k))) (ad 0 3) = some (xI K 8 (ty 0)) := by rw [up_n (ne 3 2 (by decide) (by decide) (by decide))]; exact p5'
    obtain ⟨C2, ff2⟩ := C'.kt2 (kd0 := upd (kd 0) i k) (ty0 := upd (ty 0) i t)
    exact hX _ _ _ _ _ ⟨fun _ => ⟨_, gf_of C'.xx, _, gf_of p1', _, wI_x p4' (by omega) (by omega), _, gf_of e1, _, gf_of e2, _, wI_x e3 (by omega) (by omega), ⟨by omega, by omega⟩, Or.inl ⟨_, rfl, i, hi, rfl, Or.inr (Or.inr ⟨hk, ⟨hcm, hft⟩, rfl, o', pa', Lp', rw', C2, w.2.1.tr ff2, f1, f2, w.2.2.1, f3⟩)⟩⟩, fun q => absurd (nI_le (Nat.le_refl _) (by omega)) q⟩
  · intro j hj ih h' o' pa' Lp' rw' kc ks w hk1 hk2
    have hb := mono (j + 1) (by omega)
    rw [eP_s, List.countP_append] at hb
    have C' := w.1
    have G := C'.g0 hj
    obtain ⟨p1', ⟨g', p2', p3'⟩, p4', p5'⟩ := C'.p0
    have hl := w.2.2.2.2.1 j hj (Nat.le_refl _)
    have hT := pT_page (φ := fun v => decide (v.1 = nI i)) (I 0 (by decide) C.t0) hj
    refine hX _ _ _ _ _ ⟨fun q => absurd q (nI_ge hj (by omega)), fun q => ⟨_, gf_of C'.xx, _, gf_of p1', _, aQ_x p2' hj (by omega), pa' 0 j, p3' j hj, G.obj, by omega, by omega, ?_⟩⟩
    refine (sp_countEntriesOf htr G.1 (by have := G.2.2.2.1; omega)).I ?_
    rintro r h9 ⟨rfl, rfl⟩
    rw [hl]
    refine ⟨fun q => ?_, fun q => ⟨C'.ob, 3, 306, by omega, by omega, ?_⟩⟩
    · have e0 : (ents (Lp (pa 0 j))).countP (fun v => decide (v.1 = nI i)) = 0 := Nat.eq_zero_of_not_pos fun z => nI_ge z (by omega) q
      have hn := List.countP_eq_zero.mp e0
      have ht : pT (fun v => decide (v.1 = nI i)) (eP Lp (pa 0) 16) j = false := by
        rw [← Bool.not_eq_true, hT]
        rintro ⟨v, hv, e⟩
        exact hn v hv e
      have := ih h9 o' pa' Lp' rw' (kc + 0) (ks + 0) (w.skip hj ht (by
        unfold mvL
        conv => rhs; rw [← List.map_id (ents (Lp (pa 0 j)))]
        refine List.map_congr_left fun v hv => ?_
        have := hn v hv
        simp only [decide_eq_true_eq] at this
        rw [if_neg this]; rfl)) (by rw [eP_s, List.countP_append]; omega) (by rw [eP_s, List.countP_append]; omega)
      rw [eP_s, List.countP_append, e0] at this
      rw [nI_sub1]; exact this
    · have hy : 0 < (ents (Lp (pa 0 j))).countP (fun v => decide (v.1 = nI i)) := Nat.pos_of_ne_zero fun z => q (by rw [z]; exact nI_le (Nat.le_refl _) (by decide))
      have ht : pT (fun v => decide (v.1 = nI i)) (eP Lp (pa 0) 16) j = true := hT.mpr (by obtain ⟨v, hv, e⟩ := List.countP_pos_iff.mp hy; exact ⟨v, hv, e⟩)
      refine (sp_pageToChange htr C' hj (Nat.le_refl _) (Nat.le_refl _)).Q ?_
      rintro w9 h1 ⟨o1, pa1, Lp1, rw1, rfl, tt, C1, hz, ff1, im1⟩
      have G1 := C1.g0 hj
      have hne : pa1 0 j ≠ rw1 (pa1 0 j) := by
        obtain ⟨q1, f, q2, q3⟩ := G1.1
        exact ne_tag q1 q2 (by simp [tag_O, tag_Q])
      have hL1 : Lp1 (pa1 0 j) = Lp (pa 0 j) := by rw [tt.lp (by decide) C.t0 hj, hl]
      refine ⟨_, rfl, G1.obj, 2 * (ents (Lp (pa 0 j))).countP (fun v => decide (v.1 = nI i)), 7 * (ents (Lp (pa 0 j))).countP (fun v => decide (v.1 = nI i)), by omega, by omega, ?_⟩
      refine (sp_moveEntries htr G1.1 C1.e (by have := G1.2.2.2.1; omega) G1.2.1 hne (by rw [hL1]; exact Nat.le_refl _) (by rw [hL1]; exact Nat.le_refl _)).I ?_
      rintro r h2 ⟨rfl, P2, im2, fr2⟩
      rw [hz] at P2
      obtain ⟨C2, ff2⟩ := C1.page hj hz P2 (fun v hv => by
        obtain ⟨w, hw, e⟩ := List.mem_map.mp hv
        cases w with
        | none => cases e
        | some u =>
          simp only [mvO, Option.map_some, Option.some.injEq] at e
          rw [← e]
          split
          · exact mvE_ok (G1.2.1 _ hw)
          · exact G1.2.1 _ hw) (by rw [List.length_map]; exact G1.2.2.1) (by rw [List.length_map]; exact G1.2.2.2.1) im2 (fun a X e _ n => fr2 a X e n) (Or.inl rfl)
      have st := w.step hj ht tt C1 hz ff1 C2 ff2 (by rw [ents_mvO, hL1]; rfl)
      have := ih h2 o1 pa1 _ _ (((kc + 0) + 3) + 2 * (ents (Lp (pa 0 j))).countP (fun v => decide (v.1 = nI i))) (((ks + 0) + 306) + 7 * (ents (Lp (pa 0 j))).countP (fun v => decide (v.1 = nI i))) st (by rw [eP_s, List.countP_append]; omega) (by rw [eP_s, List.countP_append]; omega)
      rw [eP_s, List.countP_append] at this
      rw [nI_sub1, nI_add, hL1]; exact this
end Obj
