/-! ===== the class: calls of the entry at hand ===== -/
theorem find_eP {Lp : Nat → List (Option EV)} {pg : Nat → Nat} {s : Int32} {k : Int64} {sp : Int32} (hpi : ∀ p', p' < 16 → ∀ w ∈ ents (Lp (pg p')), pgI w.1 w.2.1 w.2.2.1 = p') : (eP Lp pg 16).find? (at3 s k sp) = (ents (Lp (pg (pgI s k sp)))).find? (at3 s k sp) := by
  obtain ⟨X, Y, hr, hX, hY⟩ := range_cut (pgI_lt s k sp)
  have far : ∀ Z : List Nat, (∀ a, a ∈ Z → a < 16 ∧ a ≠ pgI s k sp) → (Z.flatMap (fun p => ents (Lp (pg p)))).find? (at3 s k sp) = none := fun Z hZ => by
    rw [List.find?_eq_none]
    intro w hw z
    obtain ⟨a, ha, hwa⟩ := List.mem_flatMap.mp hw
    have h1 := hpi a (hZ a ha).1 w hwa
    have h2 := at3_ky.mp z
    simp only [kyE, Prod.mk.injEq] at h2
    rw [h2.1, h2.2.1, h2.2.2] at h1
    exact (hZ a ha).2 h1.symm
  rw [eP, hr, List.flatMap_append, List.flatMap_cons, List.find?_append, List.find?_append, far X hX, far Y hY]
  simp
theorem lk_eP {Lp : Nat → List (Option EV)} {pg : Nat → Nat} {s : Int32} {k : Int64} {sp : Int32} (hpi : ∀ p', p' < 16 → ∀ w ∈ ents (Lp (pg p')), pgI w.1 w.2.1 w.2.2.1 = p') : lk s k sp (ents (Lp (pg (pgI s k sp)))) = lk s k sp (eP Lp pg 16) := by
  rw [lk, lk, find_eP hpi]
theorem lk_cases (s : Int32) (k : Int64) (sp : Int32) (E : List EV) : (lk s k sp E ∈ E ∧ kyE (lk s k sp E) = (s, k, sp)) ∨ (lk s k sp E = (s, k, sp, [], [], nI 0) ∧ ∀ w ∈ E, kyE w ≠ (s, k, sp)) := by
  unfold lk
  cases hf : E.find? (at3 s k sp) with
  | some v => exact Or.inl ⟨List.mem_of_find?_eq_some hf, at3_ky.mp (List.find?_some hf)⟩
  | none => exact Or.inr ⟨rfl, fun w hw z => by have := List.find?_eq_none.mp hf w hw; exact this (at3_ky.mpr z)⟩
theorem lk_ky (s : Int32) (k : Int64) (sp : Int32) (E : List EV) : kyE (lk s k sp E) = (s, k, sp) := by
  rcases lk_cases s k sp E with h | h
  · exact h.2
  · rw [h.1]; rfl
/-- the class behind a call that keeps u (or nothing) -/
def SpC (K : Kx) (h : Hp) (x : Nat) (ad : Nat → Nat → Nat) (o : OV) (nm : Nat → Int32) (th : Nat → Bool) (nu : Nat → Int32) (sc : Nat → Nat) (kd ty : Nat → Nat → Int32) (pa : Nat → Nat → Nat) (Lp : Nat → List (Option EV)) (u : Option EV) (h' : Hp) : Prop :=
  ∃ o' pa' Lp' rw', CR K h' x ad o' nm th nu sc kd ty pa' Lp' rw' ∧ FF K h h' ∧ PI th pa' Lp' ∧ (∀ c, 0 < c → c < 7 → th c = true → eP Lp' (pa' c) 16 = eP Lp (pa c) 16) ∧
    ((u = none ∧ o' = o ∧ pa' = pa ∧ Lp' = Lp) ∨ ∃ v, u = some v ∧ Tq th (pgI v.1 v.2.1 v.2.2.1) o pa o' pa' ∧ (eP Lp' (pa' 0) 16).Perm ((nwE v).toList ++ noE v (eP Lp (pa 0) 16)))
def putR (v : EV) (n : Nat) (y : Int64) (r : Int32) (u : Option EV) : Prop := (v.2.2.2.1 = [] ∧ 150 ≤ n ∧ r = -nI 4 ∧ u = none) ∨ (¬ (v.2.2.2.1 = [] ∧ 150 ≤ n) ∧ r = bI (v.2.2.2.1 = []) ∧ u = some (v.1, v.2.1, v.2.2.1, [y], [], nI 0))
def addR (v : EV) (n : Nat) (y : Int64) (r : Int32) (u : Option EV) : Prop := ((10 ≤ v.2.2.2.1.length ∨ (v.2.2.2.1 = [] ∧ 150 ≤ n)) ∧ r = -nI 4 ∧ u = none) ∨ (¬ (10 ≤ v.2.2.2.1.length ∨ (v.2.2.2.1 = [] ∧ 150 ≤ n)) ∧ r = nI (v.2.2.2.1.length + 1) ∧ u = some (v.1, v.2.1, v.2.2.1, v.2.2.2.1 ++ [y], [], nI 0))
def foldR (v : EV) (n : Nat) (t : Int32) (y : Int64) (r : Int32) (u : Option EV) : Prop := (v.2.2.2.1 = [] ∧ 150 ≤ n ∧ r = -nI 4 ∧ u = none) ∨ (¬ (v.2.2.2.1 = [] ∧ 150 ≤ n) ∧ r = v.2.2.2.2.2 + nI 1 ∧ u = some (v.1, v.2.1, v.2.2.1, [if v.2.2.2.1 = [] then y else jn t (v.2.2.2.1.getD 0 0) y], [], v.2.2.2.2.2 + nI 1))
/-- the place of a member -/
def plm (v : EV) (m : Int64) (j : Nat) : Prop := cbR (fun i => v.2.2.2.2.1.getD i 0) v.2.2.2.2.1.length m j
abbrev hasM (v : EV) (m : Int64) (j : Nat) : Prop := j < v.2.2.2.2.1.length ∧ v.2.2.2.2.1.getD j 0 = m
def setR (v : EV) (n : Nat) (m y : Int64) (r : Int32) (u : Option EV) : Prop := ∃ j, plm v m j ∧ ((hasM v m j ∧ r = nI 0 ∧ u = some (v.1, v.2.1, v.2.2.1, v.2.2.2.1.set j y, v.2.2.2.2.1, nI 0)) ∨
  (¬ hasM v m j ∧ (10 ≤ v.2.2.2.2.1.length ∨ (v.2.2.2.1 = [] ∧ 150 ≤ n)) ∧ r = -nI 4 ∧ u = none) ∨
  (¬ hasM v m j ∧ ¬ (10 ≤ v.2.2.2.2.1.length ∨ (v.2.2.2.1 = [] ∧ 150 ≤ n)) ∧ r = nI 1 ∧ u = some (v.1, v.2.1, v.2.2.1, v.2.2.2.1.insertIdx j y, v.2.2.2.2.1.insertIdx j m, nI 0)))
def remR (v : EV) (m : Int64) (r : Int32) (u : Option EV) : Prop := ∃ j, plm v m j ∧ ((hasM v m j ∧ r = nI 1 ∧ u = some (v.1, v.2.1, v.2.2.1, v.2.2.2.1.eraseIdx j, v.2.2.2.2.1.eraseIdx j, nI 0)) ∨ (¬ hasM v m j ∧ r = nI 0 ∧ u = none))
def clrR (v : EV) (r : Int32) (u : Option EV) : Prop := (v.2.2.2.1 = [] ∧ r = nI 0 ∧ u = none) ∨ (v.2.2.2.1 ≠ [] ∧ r = nI 1 ∧ u = some (v.1, v.2.1, v.2.2.1, [], [], nI 0))
section Obj
variable {l : Launch} {K : Kx} {h h' : Hp} {x : Nat} {ad : Nat → Nat → Nat} {o : OV} {nm : Nat → Int32} {th : Nat → Bool} {nu : Nat → Int32} {sc : Nat → Nat} {kd ty : Nat → Nat → Int32} {pa : Nat → Nat → Nat} {Lp : Nat → List (Option EV)} {rw : Nat → Nat}
theorem CR.lk_ok (C : CR K h x ad o nm th nu sc kd ty pa Lp rw) {c : Nat} (hc : c < 7) (ht : th c = true) (s : Int32) (k : Int64) (sp : Int32) : (lk s k sp (eP Lp (pa c) 16)).2.2.2.1.length ≤ 10 ∧ (lk s k sp (eP Lp (pa c) 16)).2.2.2.2.1.length ≤ 10 := by
  rcases lk_cases s k sp (eP Lp (pa c) 16) with z | z
  · obtain ⟨p, hp, hw⟩ := List.mem_flatMap.mp z.1
    have := (C.g hc ht (List.mem_range.mp hp)).2.1 _ (mem_ents.mp hw)
    exact ⟨this.2.1, this.2.2⟩
  · rw [z.1]; exact ⟨by simp, by simp⟩
theorem SpC.none (C : CR K h x ad o nm th nu sc kd ty pa Lp rw) (I : PI th pa Lp) (e : Ext h h') : SpC K h x ad o nm th nu sc kd ty pa Lp none h' := ⟨o, pa, Lp, rw, C.ext e, FF.ext C.e.2.2 e, I, fun _ _ _ _ => rfl, Or.inl ⟨rfl, rfl, rfl, rfl⟩⟩
theorem sp_keepS {h0 : Hp} {e mc ms : Nat} {v : EV} (htr : l.stackTraces = false) (C : CR K h0 x ad o nm th nu sc kd ty pa Lp rw) (ex : Ext h0 h) (I : PI th pa Lp) (hnd : ((eP Lp (pa 0) 16).map kyE).Nodup) (h150 : (eP Lp (pa 0) 16).length ≤ 150) (E : EntAt K h e v) (hN : v.2.2.2.1.length ≤ 10) (hM : v.2.2.2.2.1.length ≤ 10) (hm : 4 ≤ mc) (hs : 906 ≤ ms) :
    mX3_keep l K mc ms [.ref x, .ref e] h (kV fun h' => SpC K h0 x ad o nm th nu sc kd ty pa Lp (some v) h' ∧ Imm K h h') := by
  refine (sp_keep htr (C.ext ex) I hnd h150 E hN hM hm hs).V ?_
  rintro h' ⟨o', pa', Lp', rw', C', ff, im, t, I', hc, hperm⟩
  exact ⟨⟨o', pa', Lp', rw', C', (FF.ext C.e.2.2 ex).tr ff, I', hc, Or.inr ⟨v, rfl, t, hperm⟩⟩, im⟩
variable {s : Int32} {mc ms : Nat}
theorem sp_put {y : Int64} (htr : l.stackTraces = false) (C : CR K h x ad o nm th nu sc kd ty pa Lp rw) (I : PI th pa Lp) (hnd : ((eP Lp (pa 0) 16).map kyE).Nodup) (h150 : (eP Lp (pa 0) 16).length ≤ 150) (hsc : sc 0 ≤ 8) (hm : 40 ≤ mc) (hs : 1200 ≤ ms) :
    mX3_put l K mc ms [.ref x, .int s, .long y] h (kIX (fun r h' => St (sc 0) (kd 0) (ty 0) o.2.2.1 s (nI 0) (nI 0) y 0 ∧ ∃ u, putR (lk s o.2.2.2.1 o.2.2.2.2 (eP Lp (pa 0) 16)) (eP Lp (pa 0) 16).length y r u ∧ SpC K h x ad o nm th nu sc kd ty pa Lp u h') (fun E h' => h' = h ∧ ∃ c, 0 < c ∧ c < 4 ∧ E = exN c ∧ St (sc 0) (kd 0) (ty 0) o.2.2.1 s (nI 0) (nI 0) y c)) := by
  have hok := C.lk_ok (show 0 < 7 by decide) C.t0 s o.2.2.2.1 o.2.2.2.2
  refine fX3_put htr ⟨C.ob, 2, 12, by omega, by omega, ?_⟩
  refine (sp_needToWrite htr C hsc (Nat.le_refl _) (Nat.le_refl _)).VX ?_ (fun E h' z => Or.inr ⟨E, rfl, z⟩)
  rintro h' ⟨rfl, hst⟩
  refine ⟨C.ob, 1, 6, by omega, by omega, ?_⟩
  refine (sp_entryAtHand htr C (Nat.le_refl _) (Nat.le_refl _)).Q ?_
  rintro w h1 ⟨e, rfl, E, ex⟩
  rw [lk_eP (I 0 (by decide) C.t0)] at E
  generalize hv : lk s o.2.2.2.1 o.2.2.2.2 (eP Lp (pa 0) 16) = v at E hok ⊢
  have C1 := C.ext ex
  refine ⟨C1.ob, by omega, by omega, ?_⟩
  refine (sp_hasNoRoomFor htr C1 E (by omega) (by omega)).I ?_
  rintro r h1' ⟨rfl, rfl⟩
  refine ⟨fun q => ⟨e, rfl, E.obj, 2, 7, by omega, by omega, ?_⟩, fun q => ⟨⟨by omega, by omega⟩, Or.inl ⟨_, rfl, hst, none, Or.inl ?_, SpC.none C I ex⟩⟩⟩
  · refine (sp_withOnly htr E C1.e (Nat.le_refl _) (Nat.le_refl _)).Q ?_
    rintro w h2 ⟨q2, rfl, hq2, E2, ex2⟩
    refine ⟨(C1.ext ex2).ob, 4, 906, by omega, by omega, ?_⟩
    refine (sp_keepS htr C (ex.tr ex2) I hnd h150 E2 (by simp) (by simp) (Nat.le_refl _) (Nat.le_refl _)).V ?_
    rintro h3 ⟨st, im3⟩
    have E3 := (E.ext ex2).imm (by omega) (by omega) im3
    refine ⟨E3.obj, by omega, by omega, ?_⟩
    refine (sp_isNone htr E3 (by omega)).I ?_
    rintro r h3' ⟨rfl, rfl⟩
    have np := bI_0.mp q
    exact ⟨fun q3 => ⟨⟨by omega, by omega⟩, Or.inl ⟨_, rfl, hst, _, Or.inr ⟨np, (bI_f (bI_0.mp q3)).symm, rfl⟩, st⟩⟩, fun q3 => ⟨⟨by omega, by omega⟩, Or.inl ⟨_, rfl, hst, _, Or.inr ⟨np, (bI_t (Classical.byContradiction fun z => q3 (bI_0.mpr z))).symm, rfl⟩, st⟩⟩⟩
  · have := Classical.byContradiction fun z => q (bI_0.mpr z)
    exact ⟨this.1, this.2, rfl, rfl⟩
theorem sp_add {y : Int64} (htr : l.stackTraces = false) (C : CR K h x ad o nm th nu sc kd ty pa Lp rw) (I : PI th pa Lp) (hnd : ((eP Lp (pa 0) 16).map kyE).Nodup) (h150 : (eP Lp (pa 0) 16).length ≤ 150) (hsc : sc 0 ≤ 8) (hm : 40 ≤ mc) (hs : 1200 ≤ ms) :
    mX3_add l K mc ms [.ref x, .int s, .long y] h (kIX (fun r h' => St (sc 0) (kd 0) (ty 0) o.2.2.1 s (nI 1) (nI 1) y 0 ∧ ∃ u, addR (lk s o.2.2.2.1 o.2.2.2.2 (eP Lp (pa 0) 16)) (eP Lp (pa 0) 16).length y r u ∧ SpC K h x ad o nm th nu sc kd ty pa Lp u h') (fun E h' => h' = h ∧ ∃ c, 0 < c ∧ c < 4 ∧ E = exN c ∧ St (sc 0) (kd 0) (ty 0) o.2.2.1 s (nI 1) (nI 1) y c)) := by
  have hok := C.lk_ok (show 0 < 7 by decide) C.t0 s o.2.2.2.1 o.2.2.2.2
  refine fX3_add htr ⟨C.ob, 2, 12, by omega, by omega, ?_⟩
  refine (sp_needToWrite htr C hsc (Nat.le_refl _) (Nat.le_refl _)).VX ?_ (fun E h' z => Or.inr ⟨E, rfl, z⟩)
  rintro h' ⟨rfl, hst⟩
  refine ⟨C.ob, 1, 6, by omega, by omega, ?_⟩
  refine (sp_entryAtHand htr C (Nat.le_refl _) (Nat.le_refl _)).Q ?_
  rintro w h1 ⟨e, rfl, E, ex⟩
  rw [lk_eP (I 0 (by decide) C.t0)] at E
  generalize hv : lk s o.2.2.2.1 o.2.2.2.2 (eP Lp (pa 0) 16) = v at E hok ⊢
  have C1 := C.ext ex
  have E9 := E
  obtain ⟨nu1, me1, b1, b2, b3, nf⟩ := E9
  refine ⟨e, rfl, _, gf_of b1, _, alen_jl b2, fun q => ⟨⟨by omega, by omega⟩, Or.inl ⟨_, rfl, hst, none, Or.inl ⟨Or.inl (Nat.le_of_not_lt fun z => nI_ge z (by omega) q), rfl, rfl⟩, SpC.none C I ex⟩⟩, fun q => ⟨C1.ob, by omega, by omega, ?_⟩⟩
  have hlt : ¬ 10 ≤ v.2.2.2.1.length := fun z => q (nI_le z (by omega))
  refine (sp_hasNoRoomFor htr C1 E (by omega) (by omega)).I ?_
  rintro r h1' ⟨rfl, rfl⟩
  refine ⟨fun q => ⟨E.obj, 2, 17, by omega, by omega, ?_⟩, fun q => ⟨⟨by omega, by omega⟩, Or.inl ⟨_, rfl, hst, none, Or.inl ⟨Or.inr (Classical.byContradiction fun z => q (bI_0.mpr z)), rfl, rfl⟩, SpC.none C I ex⟩⟩⟩
  refine (sp_withOneMore htr E C1.e (by omega) (Nat.le_refl _) (by omega)).Q ?_
  rintro w h2 ⟨q2, rfl, hq2, E2, ex2⟩
  refine ⟨(C1.ext ex2).ob, 4, 906, by omega, by omega, ?_⟩
  refine (sp_keepS htr C (ex.tr ex2) I hnd h150 E2 (by simp; omega) (by simp) (Nat.le_refl _) (Nat.le_refl _)).V ?_
  rintro h3 ⟨st, im3⟩
  obtain ⟨nu2, me2, d1, d2, d3, -⟩ := (E.ext ex2).imm (by omega) (by omega) im3
  refine ⟨_, gf_of d1, _, alen_jl d2, ⟨by omega, by omega⟩, Or.inl ⟨_, rfl, hst, _, Or.inr ⟨?_, nI_sub1 _, rfl⟩, st⟩⟩
  rintro (z | z)
  · exact hlt z
  · exact bI_0.mp q z
theorem sp_fold {y : Int64} (htr : l.stackTraces = false) (C : CR K h x ad o nm th nu sc kd ty pa Lp rw) (I : PI th pa Lp) (hnd : ((eP Lp (pa 0) 16).map kyE).Nodup) (h150 : (eP Lp (pa 0) 16).length ≤ 150) (hsc : sc 0 ≤ 8) (hm : 40 ≤ mc) (hs : 1200 ≤ ms) :
    mX3_fold l K mc ms [.ref x, .int s, .long y] h (kIX (fun r h' => St (sc 0) (kd 0) (ty 0) o.2.2.1 s (nI 3) (nI 3) y 0 ∧ ∃ u i, i < sc 0 ∧ s = nI i ∧ foldR (lk s o.2.2.2.1 o.2.2.2.2 (eP Lp (pa 0) 16)) (eP Lp (pa 0) 16).length (ty 0 i) y r u ∧ SpC K h x ad o nm th nu sc kd ty pa Lp u h') (fun E h' => h' = h ∧ ∃ c, 0 < c ∧ c < 4 ∧ E = exN c ∧ St (sc 0) (kd 0) (ty 0) o.2.2.1 s (nI 3) (nI 3) y c)) := by
  have hok := C.lk_ok (show 0 < 7 by decide) C.t0 s o.2.2.2.1 o.2.2.2.2
  refine fX3_fold htr ⟨C.ob, 2, 12, by omega, by omega, ?_⟩
  refine (sp_needToWrite htr C hsc (Nat.le_refl _) (Nat.le_refl _)).VX ?_ (fun E h' z => Or.inr ⟨E, rfl, z⟩)
  rintro h' ⟨rfl, hst⟩
  obtain ⟨i, hi, rfl⟩ : ∃ i, i < sc 0 ∧ s = nI i := by
    rcases hst with ⟨z, _⟩ | ⟨i, hi, hsi, _⟩
    · cases z
    · exact ⟨i, hi, hsi⟩
  refine ⟨C.ob, 1, 6, by omega, by omega, ?_⟩
  refine (sp_entryAtHand htr C (Nat.le_refl _) (Nat.le_refl _)).Q ?_
  rintro w h1 ⟨e, rfl, E, ex⟩
  rw [lk_eP (I 0 (by decide) C.t0)] at E
  generalize hv : lk (nI i) o.2.2.2.1 o.2.2.2.2 (eP Lp (pa 0) 16) = v at E hok ⊢
  have C1 := C.ext ex
  obtain ⟨p1, -, p4, p5⟩ := C1.p0
  refine ⟨C1.ob, by omega, by omega, ?_⟩
  refine (sp_hasNoRoomFor htr C1 E (by omega) (by omega)).I ?_
  rintro r h1' ⟨rfl, rfl⟩
  refine ⟨fun q => ⟨_, gf_of C1.xx, _, gf_of p1, _, aI_x p5 (by omega) (by omega), e, rfl, E.obj, 2, 7, by omega, by omega, ?_⟩, fun q => ⟨⟨by omega, by omega⟩, Or.inl ⟨_, rfl, hst, none, i, hi, rfl, Or.inl ?_, SpC.none C I ex⟩⟩⟩
  · refine (sp_withFolded htr E C1.e (by omega) (Nat.le_refl _) (Nat.le_refl _)).Q ?_
    rintro w h2 ⟨q2, rfl, hq2, E2, ex2⟩
    refine ⟨(C1.ext ex2).ob, 4, 906, by omega, by omega, ?_⟩
    refine (sp_keepS htr C (ex.tr ex2) I hnd h150 E2 (by simp) (by simp) (Nat.le_refl _) (Nat.le_refl _)).V ?_
    rintro h3 ⟨st, im3⟩
    obtain ⟨nu2, me2, d1, d2, d3, -⟩ := (E.ext ex2).imm (by omega) (by omega) im3
    exact ⟨_, gf_of d1, ⟨by omega, by omega⟩, Or.inl ⟨_, rfl, hst, _, i, hi, rfl, Or.inr ⟨bI_0.mp q, rfl, rfl⟩, st⟩⟩
  · have := Classical.byContradiction fun z => q (bI_0.mpr z)
    exact ⟨this.1, this.2, rfl, rfl⟩
theorem sp_set {m y : Int64} (htr : l.stackTraces = false) (C : CR K h x ad o nm th nu sc kd ty pa Lp rw) (I : PI th pa Lp) (hnd : ((eP Lp (pa 0) 16).map kyE).Nodup) (h150 : (eP Lp (pa 0) 16).length ≤ 150) (hsc : sc 0 ≤ 8) (hmap : ∀ i, i < sc 0 → s = nI i → kd 0 i = nI 2 → (lk s o.2.2.2.1 o.2.2.2.2 (eP Lp (pa 0) 16)).2.2.2.1.length = (lk s o.2.2.2.1 o.2.2.2.2 (eP Lp (pa 0) 16)).2.2.2.2.1.length) (hm : 40 ≤ mc) (hs : 1200 ≤ ms) :
    mX3_set l K mc ms [.ref x, .int s, .long m, .long y] h (kIX (fun r h' => St (sc 0) (kd 0) (ty 0) o.2.2.1 s (nI 2) (nI 2) y 0 ∧ ∃ u, setR (lk s o.2.2.2.1 o.2.2.2.2 (eP Lp (pa 0) 16)) (eP Lp (pa 0) 16).length m y r u ∧ SpC K h x ad o nm th nu sc kd ty pa Lp u h') (fun E h' => h' = h ∧ ∃ c, 0 < c ∧ c < 4 ∧ E = exN c ∧ St (sc 0) (kd 0) (ty 0) o.2.2.1 s (nI 2) (nI 2) y c)) := by
  have hok := C.lk_ok (show 0 < 7 by decide) C.t0 s o.2.2.2.1 o.2.2.2.2
  refine fX3_set htr ⟨C.ob, 2, 12, by omega, by omega, ?_⟩
  refine (sp_needToWrite htr C hsc (Nat.le_refl _) (Nat.le_refl _)).VX ?_ (fun E h' z => Or.inr ⟨E, rfl, z⟩)
  rintro h' ⟨rfl, hst⟩
  have hml : (lk s o.2.2.2.1 o.2.2.2.2 (eP Lp (pa 0) 16)).2.2.2.1.length = (lk s o.2.2.2.1 o.2.2.2.2 (eP Lp (pa 0) 16)).2.2.2.2.1.length := by
    rcases hst with ⟨z, _⟩ | ⟨i, hi, hsi, z⟩
    · cases z
    · rcases z with ⟨z, _⟩ | ⟨z, _⟩
      · cases z
      · exact hmap i hi hsi (z.elim id id)
  refine ⟨C.ob, 1, 6, by omega, by omega, ?_⟩
  refine (sp_entryAtHand htr C (Nat.le_refl _) (Nat.le_refl _)).Q ?_
  rintro w h1 ⟨e, rfl, E, ex⟩
  rw [lk_eP (I 0 (by decide) C.t0)] at E
  generalize hv : lk s o.2.2.2.1 o.2.2.2.2 (eP Lp (pa 0) 16) = v at E hok hml ⊢
  have C1 := C.ext ex
  have E9 := E
  obtain ⟨nu1, me1, b1, b2, b3, nf⟩ := E9
  refine ⟨e, rfl, E.obj, by omega, by omega, ?_⟩
  refine (sp_placeOf htr E (by omega)).I ?_
  rintro r h1' ⟨⟨j, rfl, hj⟩, rfl⟩
  have hj2 : j ≤ v.2.2.2.2.1.length := hj.1
  refine ⟨E.obj, by omega, by omega, ?_⟩
  refine (sp_hasMember htr E (by omega) (by omega)).I ?_
  rintro r h1'' ⟨rfl, rfl⟩
  refine ⟨fun q => ⟨_, gf_of b1, _, alen_jl b3, fun q2 => ⟨⟨by omega, by omega⟩, Or.inl ⟨_, rfl, hst, none, ⟨j, hj, Or.inr (Or.inl ⟨bI_0.mp q, Or.inl (Nat.le_of_not_lt fun z => nI_ge z (by omega) q2), rfl, rfl⟩)⟩, SpC.none C I ex⟩⟩, fun q2 => ⟨C1.ob, by omega, by omega, ?_⟩⟩, fun q => ⟨E.obj, 2, 16, by omega, by omega, ?_⟩⟩
  · have hlt : ¬ 10 ≤ v.2.2.2.2.1.length := fun z => q2 (nI_le z (by omega))
    refine (sp_hasNoRoomFor htr C1 E (by omega) (by omega)).I ?_
    rintro r h1' ⟨rfl, rfl⟩
    refine ⟨fun q3 => ⟨E.obj, 3, 28, by omega, by omega, ?_⟩, fun q3 => ⟨⟨by omega, by omega⟩, Or.inl ⟨_, rfl, hst, none, ⟨j, hj, Or.inr (Or.inl ⟨bI_0.mp q, Or.inr (Classical.byContradiction fun z => q3 (bI_0.mpr z)), rfl, rfl⟩)⟩, SpC.none C I ex⟩⟩⟩
    refine (sp_withMember htr E C1.e.2.2 hml hj2 (by omega) (Nat.le_refl _) (by omega)).Q ?_
    rintro w h2 ⟨q9, rfl, hq9, E2, ex2⟩
    refine ⟨(C1.ext ex2).ob, 4, 906, by omega, by omega, ?_⟩
    refine (sp_keepS htr C (ex.tr ex2) I hnd h150 E2 (by simp only [List.length_insertIdx_of_le_length (show j ≤ v.2.2.2.1.length by omega)]; omega) (by simp only [List.length_insertIdx_of_le_length hj2]; omega) (Nat.le_refl _) (Nat.le_refl _)).V ?_
    rintro h3 ⟨st, im3⟩
    refine ⟨⟨by omega, by omega⟩, Or.inl ⟨_, rfl, hst, _, ⟨j, hj, Or.inr (Or.inr ⟨bI_0.mp q, ?_, rfl, rfl⟩)⟩, st⟩⟩
    rintro (z | z)
    · exact hlt z
    · exact bI_0.mp q3 z
  · have hm9 := Classical.byContradiction fun z => q (bI_0.mpr z)
    refine (sp_withNumberAt htr E C1.e.2.2 (by have := hm9.1; omega) (by omega) (Nat.le_refl _) (by omega)).Q ?_
    rintro w h2 ⟨q9, rfl, hq9, E2, ex2⟩
    refine ⟨(C1.ext ex2).ob, 4, 906, by omega, by omega, ?_⟩
    refine (sp_keepS htr C (ex.tr ex2) I hnd h150 E2 (by simp only [List.length_set]; omega) hok.2 (Nat.le_refl _) (Nat.le_refl _)).V ?_
    rintro h3 ⟨st, im3⟩
    exact ⟨⟨by omega, by omega⟩, Or.inl ⟨_, rfl, hst, _, ⟨j, hj, Or.inl ⟨hm9, rfl, rfl⟩⟩, st⟩⟩
theorem sp_remove {m : Int64} (htr : l.stackTraces = false) (C : CR K h x ad o nm th nu sc kd ty pa Lp rw) (I : PI th pa Lp) (hnd : ((eP Lp (pa 0) 16).map kyE).Nodup) (h150 : (eP Lp (pa 0) 16).length ≤ 150) (hsc : sc 0 ≤ 8) (hmap : ∀ i, i < sc 0 → s = nI i → kd 0 i = nI 2 → (lk s o.2.2.2.1 o.2.2.2.2 (eP Lp (pa 0) 16)).2.2.2.1.length = (lk s o.2.2.2.1 o.2.2.2.2 (eP Lp (pa 0) 16)).2.2.2.2.1.length) (hm : 40 ≤ mc) (hs : 1200 ≤ ms) :
    mX3_remove l K mc ms [.ref x, .int s, .long m] h (kIX (fun r h' => St (sc 0) (kd 0) (ty 0) o.2.2.1 s (nI 2) (nI 2) 0 0 ∧ ∃ u, remR (lk s o.2.2.2.1 o.2.2.2.2 (eP Lp (pa 0) 16)) m r u ∧ SpC K h x ad o nm th nu sc kd ty pa Lp u h') (fun E h' => h' = h ∧ ∃ c, 0 < c ∧ c < 4 ∧ E = exN c ∧ St (sc 0) (kd 0) (ty 0) o.2.2.1 s (nI 2) (nI 2) 0 c)) := by
  have hok := C.lk_ok (show 0 < 7 by decide) C.t0 s o.2.2.2.1 o.2.2.2.2
  refine fX3_remove htr ⟨C.ob, 2, 12, by omega, by omega, ?_⟩
  refine (sp_needToRead htr C hsc (Nat.le_refl _) (Nat.le_refl _)).VX ?_ (fun E h' z => Or.inr ⟨E, rfl, z⟩)
  rintro h' ⟨rfl, hst⟩
  have hml : (lk s o.2.2.2.1 o.2.2.2.2 (eP Lp (pa 0) 16)).2.2.2.1.length = (lk s o.2.2.2.1 o.2.2.2.2 (eP Lp (pa 0) 16)).2.2.2.2.1.length := by
    rcases hst with ⟨z, _⟩ | ⟨i, hi, hsi, z⟩
    · cases z
    · rcases z with ⟨z, _⟩ | ⟨z, _⟩
      · cases z
      · exact hmap i hi hsi (z.elim id id)
  refine ⟨C.ob, 1, 6, by omega, by omega, ?_⟩
  refine (sp_entryAtHand htr C (Nat.le_refl _) (Nat.le_refl _)).Q ?_
  rintro w h1 ⟨e, rfl, E, ex⟩
  rw [lk_eP (I 0 (by decide) C.t0)] at E
  generalize hv : lk s o.2.2.2.1 o.2.2.2.2 (eP Lp (pa 0) 16) = v at E hok hml ⊢
  have C1 := C.ext ex
  refine ⟨e, rfl, E.obj, by omega, by omega, ?_⟩
  refine (sp_placeOf htr E (by omega)).I ?_
  rintro r h1' ⟨⟨j, rfl, hj⟩, rfl⟩
  have hj2 : j ≤ v.2.2.2.2.1.length := hj.1
  refine ⟨E.obj, by omega, by omega, ?_⟩
  refine (sp_hasMember htr E (by omega) (by omega)).I ?_
  rintro r h1'' ⟨rfl, rfl⟩
  refine ⟨fun q => ⟨E.obj, 3, 28, by omega, by omega, ?_⟩, fun q => ⟨⟨by omega, by omega⟩, Or.inl ⟨_, rfl, hst, none, ⟨j, hj, Or.inr ⟨bI_0.mp q, rfl, rfl⟩⟩, SpC.none C I ex⟩⟩⟩
  have hm9 := Classical.byContradiction fun z => q (bI_0.mpr z)
  refine (sp_withoutMember htr E C1.e.2.2 hml hm9.1 (by omega) (Nat.le_refl _) (by omega)).Q ?_
  rintro w h2 ⟨q9, rfl, hq9, E2, ex2⟩
  refine ⟨(C1.ext ex2).ob, 4, 906, by omega, by omega, ?_⟩
  refine (sp_keepS htr C (ex.tr ex2) I hnd h150 E2 (by have := List.length_eraseIdx_le v.2.2.2.1 j; simp only; omega) (by have := List.length_eraseIdx_le v.2.2.2.2.1 j; simp only; omega) (Nat.le_refl _) (Nat.le_refl _)).V ?_
  rintro h3 ⟨st, im3⟩
  exact ⟨⟨by omega, by omega⟩, Or.inl ⟨_, rfl, hst, _, ⟨j, hj, Or.inl ⟨hm9, rfl, rfl⟩⟩, st⟩⟩
/-- c: 0 nothing, 1 no such state, 2 no key -/
def Sk (n : Nat) (hk : Int32) (s : Int32) (c : Nat) : Prop := (c = 1 ∧ ¬ isS s n) ∨ (isS s n ∧ ((c = 2 ∧ hk = nI 0) ∨ (c = 0 ∧ hk ≠ nI 0)))
theorem sp_clear (htr : l.stackTraces = false) (C : CR K h x ad o nm th nu sc kd ty pa Lp rw) (I : PI th pa Lp) (hnd : ((eP Lp (pa 0) 16).map kyE).Nodup) (h150 : (eP Lp (pa 0) 16).length ≤ 150) (hm : 40 ≤ mc) (hs : 1200 ≤ ms) :
    mX3_clear l K mc ms [.ref x, .int s] h (kIX (fun r h' => Sk (sc 0) o.2.2.1 s 0 ∧ ∃ u, clrR (lk s o.2.2.2.1 o.2.2.2.2 (eP Lp (pa 0) 16)) r u ∧ SpC K h x ad o nm th nu sc kd ty pa Lp u h') (fun E h' => h' = h ∧ ((E = exN 1 ∧ Sk (sc 0) o.2.2.1 s 1) ∨ (E = exN 3 ∧ Sk (sc 0) o.2.2.1 s 2)))) := by
  have hok := C.lk_ok (show 0 < 7 by decide) C.t0 s o.2.2.2.1 o.2.2.2.2
  refine fX3_clear htr ⟨C.ob, 1, 6, by omega, by omega, ?_⟩
  refine (sp_needState htr C (Nat.le_refl _) (Nat.le_refl _)).VX ?_ (fun E h' z => Or.inr ⟨E, rfl, z.2.1, Or.inl ⟨z.1, Or.inl ⟨rfl, z.2.2⟩⟩⟩)
  rintro h' ⟨rfl, hS⟩
  refine ⟨C.ob, 1, 6, by omega, by omega, ?_⟩
  refine (sp_needKey htr C (Nat.le_refl _) (Nat.le_refl _)).VX ?_ (fun E h' z => Or.inr ⟨E, rfl, z.2.1, Or.inr ⟨z.1, Or.inr ⟨hS, Or.inl ⟨rfl, z.2.2⟩⟩⟩⟩)
  rintro h' ⟨rfl, hk⟩
  have hst : Sk (sc 0) o.2.2.1 s 0 := Or.inr ⟨hS, Or.inr ⟨rfl, hk⟩⟩
  refine ⟨C.ob, 1, 6, by omega, by omega, ?_⟩
  refine (sp_entryAtHand htr C (Nat.le_refl _) (Nat.le_refl _)).Q ?_
  rintro w h1 ⟨e, rfl, E, ex⟩
  rw [lk_eP (I 0 (by decide) C.t0)] at E
  generalize hv : lk s o.2.2.2.1 o.2.2.2.2 (eP Lp (pa 0) 16) = v at E hok ⊢
  have C1 := C.ext ex
  refine ⟨e, rfl, E.obj, by omega, by omega, ?_⟩
  refine (sp_isNone htr E (by omega)).I ?_
  rintro r h1' ⟨rfl, rfl⟩
  refine ⟨fun q => ⟨E.obj, 1, 6, by omega, by omega, ?_⟩, fun q => ⟨⟨by omega, by omega⟩, Or.inl ⟨_, rfl, hst, none, Or.inl ⟨Classical.byContradiction fun z => q (bI_0.mpr z), rfl, rfl⟩, SpC.none C I ex⟩⟩⟩
  refine (sp_withNothing htr E C1.e (Nat.le_refl _) (Nat.le_refl _)).Q ?_
  rintro w h2 ⟨q9, rfl, hq9, E2, ex2⟩
  refine ⟨(C1.ext ex2).ob, 4, 906, by omega, by omega, ?_⟩
  refine (sp_keepS htr C (ex.tr ex2) I hnd h150 E2 (by simp) (by simp) (Nat.le_refl _) (Nat.le_refl _)).V ?_
  rintro h3 ⟨st, im3⟩
  exact ⟨⟨by omega, by omega⟩, Or.inl ⟨_, rfl, hst, _, Or.inr ⟨bI_0.mp q, rfl, rfl⟩, st⟩⟩
end Obj
