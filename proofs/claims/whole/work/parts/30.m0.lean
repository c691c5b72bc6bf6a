/-! ===== the reference: its object laid over a heap ===== -/
abbrev MI : Type := Nat → Nat → Int32
abbrev ML : Type := Nat → Nat → Int64
def setI (I : MI) (f j : Nat) (x : Int32) : MI := fun g => if g = f then upd (I f) j x else I g
def setL (L : ML) (f j : Nat) (x : Int64) : ML := fun g => if g = f then vp_updL (L f) j x else L g
theorem setI_f {I : MI} {f j : Nat} {x : Int32} : setI I f j x f = upd (I f) j x := by simp [setI]
theorem setI_n {I : MI} {f j g : Nat} {x : Int32} (n : g ≠ f) : setI I f j x g = I g := by simp [setI, n]
theorem setL_f {L : ML} {f j : Nat} {x : Int64} : setL L f j x f = vp_updL (L f) j x := by simp [setL]
theorem setL_n {L : ML} {f j g : Nat} {x : Int64} (n : g ≠ f) : setL L f j x g = L g := by simp [setL, n]
theorem updL_s {f : Nat → Int64} {j : Nat} {x : Int64} : vp_updL f j x j = x := by simp [vp_updL]
theorem updL_n {f : Nat → Int64} {j i : Nat} {x : Int64} (n : i ≠ j) : vp_updL f j x i = f i := by simp [vp_updL, n]
def mob (am : Nat → Nat) (I : MI) (L : ML) : List Value := [.int (I 0 0), .int (I 1 0), .ref (am 2), .ref (am 3), .ref (am 4), .ref (am 5), .ref (am 6), .ref (am 7), .ref (am 8), .ref (am 9), .ref (am 10), .ref (am 11), .ref (am 12), .ref (am 13), .ref (am 14), .ref (am 15), .int (I 16 0), .int (I 17 0), .int (I 18 0), .int (I 19 0), .long (L 20 0), .int (I 21 0), .int (I 22 0)]
def mcl (K : Kx) (I : MI) (L : ML) (f : Nat) : va_E := match f with
  | 2 => xI K 8 (I 2)
  | 3 => xI K 56 (I 3)
  | 4 => xI K 56 (I 4)
  | 5 => xI K 7 (I 5)
  | 6 => xI K 7 (I 6)
  | 7 => xI K 1050 (I 7)
  | 8 => xJ K 1050 (L 8)
  | 9 => xI K 1050 (I 9)
  | 10 => xI K 1050 (I 10)
  | 11 => xJ K 10500 (L 11)
  | 12 => xJ K 10500 (L 12)
  | 13 => xI K 112 (I 13)
  | 14 => xZ K 7 (I 14)
  | 15 => xI K 7 (I 15)
  | _ => xO 4 []
def Mw (K : Kx) (m : Nat) (am : Nat → Nat) (I : MI) (L : ML) (h : Hp) : Hp := fun a => if a = m then some (xO 4 (mob am I L)) else match (List.range 14).find? (fun i => decide (am (i + 2) = a)) with
  | some i => some (mcl K I L (i + 2))
  | none => h a
def AM (m : Nat) (am : Nat → Nat) : Prop := (∀ i, i < 14 → am (i + 2) ≠ m) ∧ ∀ i j, i < 14 → j < 14 → am (i + 2) = am (j + 2) → i = j
section Mod
variable {l : Launch} {K : Kx} {m : Nat} {am : Nat → Nat} {I I' : MI} {L L' : ML} {h : Hp} {j : Nat} {x : Int32} {y : Int64}
theorem Mw_m : Mw K m am I L h m = some (xO 4 (mob am I L)) := by simp [Mw]
theorem Mw_o : (∃ fs, Mw K m am I L h m = some (xO 4 fs)) ↔ True := ⟨fun _ => trivial, fun _ => ⟨_, Mw_m⟩⟩
theorem am_find (A : AM m am) {i : Nat} (hi : i < 14) : (List.range 14).find? (fun i' => decide (am (i' + 2) = am (i + 2))) = some i := by
  cases hf : (List.range 14).find? (fun i' => decide (am (i' + 2) = am (i + 2))) with
  | none => exact absurd (List.find?_eq_none.mp hf i (List.mem_range.mpr hi)) (by simp)
  | some i' =>
    have h1 := List.find?_some hf
    have h2 := List.mem_range.mp (List.mem_of_find?_eq_some hf)
    simp only [decide_eq_true_eq] at h1
    rw [A.2 i' i h2 hi h1]
theorem Mw_c (A : AM m am) {i : Nat} (hi : i < 14) : Mw K m am I L h (am (i + 2)) = some (mcl K I L (i + 2)) := by
  simp only [Mw, A.1 i hi, if_false, am_find A hi]
theorem Mw_upc (A : AM m am) {i : Nat} (hi : i < 14) (h1 : mob am I' L' = mob am I L) (h2 : ∀ g, g < 14 → g ≠ i → mcl K I' L' (g + 2) = mcl K I L (g + 2)) : va_up (Mw K m am I L h) (am (i + 2)) (some (mcl K I' L' (i + 2))) = Mw K m am I' L' h := by
  funext a
  by_cases y : a = am (i + 2)
  · subst y; rw [up_s, Mw_c A hi]
  · rw [up_n y]
    unfold Mw
    rw [h1]
    split
    · rfl
    · cases hf : (List.range 14).find? (fun i' => decide (am (i' + 2) = a)) with
      | none => rfl
      | some g =>
        have e1 := List.find?_some hf
        have e2 := List.mem_range.mp (List.mem_of_find?_eq_some hf)
        simp only [decide_eq_true_eq] at e1
        simp only
        rw [h2 g e2 (fun z => y (by rw [← z, e1]))]
theorem Mw_upm (h2 : ∀ g, g < 14 → mcl K I' L' (g + 2) = mcl K I L (g + 2)) : va_up (Mw K m am I L h) m (some (xO 4 (mob am I' L'))) = Mw K m am I' L' h := by
  funext a
  by_cases y : a = m
  · subst y; rw [up_s, Mw_m]
  · rw [up_n y]
    unfold Mw
    simp only [y, if_false]
    cases hf : (List.range 14).find? (fun i' => decide (am (i' + 2) = a)) with
    | none => rfl
    | some g =>
      have e2 := List.mem_range.mp (List.mem_of_find?_eq_some hf)
      simp only
      rw [h2 g e2]
theorem g0M : gf (Mw K m am I L h) m 4 0 = some (.int (I 0 0)) := gf_of Mw_m
theorem g1M : gf (Mw K m am I L h) m 4 1 = some (.int (I 1 0)) := gf_of Mw_m
theorem g2M : gf (Mw K m am I L h) m 4 2 = some (.ref (am 2)) := gf_of Mw_m
theorem g3M : gf (Mw K m am I L h) m 4 3 = some (.ref (am 3)) := gf_of Mw_m
theorem g4M : gf (Mw K m am I L h) m 4 4 = some (.ref (am 4)) := gf_of Mw_m
theorem g5M : gf (Mw K m am I L h) m 4 5 = some (.ref (am 5)) := gf_of Mw_m
theorem g6M : gf (Mw K m am I L h) m 4 6 = some (.ref (am 6)) := gf_of Mw_m
theorem g7M : gf (Mw K m am I L h) m 4 7 = some (.ref (am 7)) := gf_of Mw_m
theorem g8M : gf (Mw K m am I L h) m 4 8 = some (.ref (am 8)) := gf_of Mw_m
theorem g9M : gf (Mw K m am I L h) m 4 9 = some (.ref (am 9)) := gf_of Mw_m
theorem g10M : gf (Mw K m am I L h) m 4 10 = some (.ref (am 10)) := gf_of Mw_m
theorem g11M : gf (Mw K m am I L h) m 4 11 = some (.ref (am 11)) := gf_of Mw_m
theorem g12M : gf (Mw K m am I L h) m 4 12 = some (.ref (am 12)) := gf_of Mw_m
theorem g13M : gf (Mw K m am I L h) m 4 13 = some (.ref (am 13)) := gf_of Mw_m
theorem g14M : gf (Mw K m am I L h) m 4 14 = some (.ref (am 14)) := gf_of Mw_m
theorem g15M : gf (Mw K m am I L h) m 4 15 = some (.ref (am 15)) := gf_of Mw_m
theorem g16M : gf (Mw K m am I L h) m 4 16 = some (.int (I 16 0)) := gf_of Mw_m
theorem g17M : gf (Mw K m am I L h) m 4 17 = some (.int (I 17 0)) := gf_of Mw_m
theorem g18M : gf (Mw K m am I L h) m 4 18 = some (.int (I 18 0)) := gf_of Mw_m
theorem g19M : gf (Mw K m am I L h) m 4 19 = some (.int (I 19 0)) := gf_of Mw_m
theorem g20M : gf (Mw K m am I L h) m 4 20 = some (.long (L 20 0)) := gf_of Mw_m
theorem g21M : gf (Mw K m am I L h) m 4 21 = some (.int (I 21 0)) := gf_of Mw_m
theorem g22M : gf (Mw K m am I L h) m 4 22 = some (.int (I 22 0)) := gf_of Mw_m
theorem p0M : pf (Mw K m am I L h) m 4 0 (.int x) = some (Mw K m am (setI I 0 0 x) L h) := by
  rw [pf_of Mw_m (by simp [mob]), show (mob am I L).set 0 (.int x) = mob am (setI I 0 0 x) L from rfl]
  congr 1
  refine Mw_upm fun g hg => ?_
  match g, hg with
  | 0, _ => rfl
  | 1, _ => rfl
  | 2, _ => rfl
  | 3, _ => rfl
  | 4, _ => rfl
  | 5, _ => rfl
  | 6, _ => rfl
  | 7, _ => rfl
  | 8, _ => rfl
  | 9, _ => rfl
  | 10, _ => rfl
  | 11, _ => rfl
  | 12, _ => rfl
  | 13, _ => rfl
theorem p1M : pf (Mw K m am I L h) m 4 1 (.int x) = some (Mw K m am (setI I 1 0 x) L h) := by
  rw [pf_of Mw_m (by simp [mob]), show (mob am I L).set 1 (.int x) = mob am (setI I 1 0 x) L from rfl]
  congr 1
  refine Mw_upm fun g hg => ?_
  match g, hg with
  | 0, _ => rfl
  | 1, _ => rfl
  | 2, _ => rfl
  | 3, _ => rfl
  | 4, _ => rfl
  | 5, _ => rfl
  | 6, _ => rfl
  | 7, _ => rfl
  | 8, _ => rfl
  | 9, _ => rfl
  | 10, _ => rfl
  | 11, _ => rfl
  | 12, _ => rfl
  | 13, _ => rfl
theorem p16M : pf (Mw K m am I L h) m 4 16 (.int x) = some (Mw K m am (setI I 16 0 x) L h) := by
  rw [pf_of Mw_m (by simp [mob]), show (mob am I L).set 16 (.int x) = mob am (setI I 16 0 x) L from rfl]
  congr 1
  refine Mw_upm fun g hg => ?_
  match g, hg with
  | 0, _ => rfl
  | 1, _ => rfl
  | 2, _ => rfl
  | 3, _ => rfl
  | 4, _ => rfl
  | 5, _ => rfl
  | 6, _ => rfl
  | 7, _ => rfl
  | 8, _ => rfl
  | 9, _ => rfl
  | 10, _ => rfl
  | 11, _ => rfl
  | 12, _ => rfl
  | 13, _ => rfl
theorem p17M : pf (Mw K m am I L h) m 4 17 (.int x) = some (Mw K m am (setI I 17 0 x) L h) := by
  rw [pf_of Mw_m (by simp [mob]), show (mob am I L).set 17 (.int x) = mob am (setI I 17 0 x) L from rfl]
  congr 1
  refine Mw_upm fun g hg => ?_
  match g, hg with
  | 0, _ => rfl
  | 1, _ => rfl
  | 2, _ => rfl
  | 3, _ => rfl
  | 4, _ => rfl
  | 5, _ => rfl
  | 6, _ => rfl
  | 7, _ => rfl
  | 8, _ => rfl
  | 9, _ => rfl
  | 10, _ => rfl
  | 11, _ => rfl
  | 12, _ => rfl
  | 13, _ => rfl
theorem p18M : pf (Mw K m am I L h) m 4 18 (.int x) = some (Mw K m am (setI I 18 0 x) L h) := by
  rw [pf_of Mw_m (by simp [mob]), show (mob am I L).set 18 (.int x) = mob am (setI I 18 0 x) L from rfl]
  congr 1
  refine Mw_upm fun g hg => ?_
  match g, hg with
  | 0, _ => rfl
  | 1, _ => rfl
  | 2, _ => rfl
  | 3, _ => rfl
  | 4, _ => rfl
  | 5, _ => rfl
  | 6, _ => rfl
  | 7, _ => rfl
  | 8, _ => rfl
  | 9, _ => rfl
  | 10, _ => rfl
  | 11, _ => rfl
  | 12, _ => rfl
  | 13, _ => rfl
theorem p19M : pf (Mw K m am I L h) m 4 19 (.int x) = some (Mw K m am (setI I 19 0 x) L h) := by
  rw [pf_of Mw_m (by simp [mob]), show (mob am I L).set 19 (.int x) = mob am (setI I 19 0 x) L from rfl]
  congr 1
  refine Mw_upm fun g hg => ?_
  match g, hg with
  | 0, _ => rfl
  | 1, _ => rfl
  | 2, _ => rfl
  | 3, _ => rfl
  | 4, _ => rfl
  | 5, _ => rfl
  | 6, _ => rfl
  | 7, _ => rfl
  | 8, _ => rfl
  | 9, _ => rfl
  | 10, _ => rfl
  | 11, _ => rfl
  | 12, _ => rfl
  | 13, _ => rfl
theorem p21M : pf (Mw K m am I L h) m 4 21 (.int x) = some (Mw K m am (setI I 21 0 x) L h) := by
  rw [pf_of Mw_m (by simp [mob]), show (mob am I L).set 21 (.int x) = mob am (setI I 21 0 x) L from rfl]
  congr 1
  refine Mw_upm fun g hg => ?_
  match g, hg with
  | 0, _ => rfl
  | 1, _ => rfl
  | 2, _ => rfl
  | 3, _ => rfl
  | 4, _ => rfl
  | 5, _ => rfl
  | 6, _ => rfl
  | 7, _ => rfl
  | 8, _ => rfl
  | 9, _ => rfl
  | 10, _ => rfl
  | 11, _ => rfl
  | 12, _ => rfl
  | 13, _ => rfl
theorem p22M : pf (Mw K m am I L h) m 4 22 (.int x) = some (Mw K m am (setI I 22 0 x) L h) := by
  rw [pf_of Mw_m (by simp [mob]), show (mob am I L).set 22 (.int x) = mob am (setI I 22 0 x) L from rfl]
  congr 1
  refine Mw_upm fun g hg => ?_
  match g, hg with
  | 0, _ => rfl
  | 1, _ => rfl
  | 2, _ => rfl
  | 3, _ => rfl
  | 4, _ => rfl
  | 5, _ => rfl
  | 6, _ => rfl
  | 7, _ => rfl
  | 8, _ => rfl
  | 9, _ => rfl
  | 10, _ => rfl
  | 11, _ => rfl
  | 12, _ => rfl
  | 13, _ => rfl
theorem p20M : pf (Mw K m am I L h) m 4 20 (.long y) = some (Mw K m am I (setL L 20 0 y) h) := by
  rw [pf_of Mw_m (by simp [mob]), show (mob am I L).set 20 (.long y) = mob am I (setL L 20 0 y) from rfl]
  congr 1
  refine Mw_upm fun g hg => ?_
  match g, hg with
  | 0, _ => rfl
  | 1, _ => rfl
  | 2, _ => rfl
  | 3, _ => rfl
  | 4, _ => rfl
  | 5, _ => rfl
  | 6, _ => rfl
  | 7, _ => rfl
  | 8, _ => rfl
  | 9, _ => rfl
  | 10, _ => rfl
  | 11, _ => rfl
  | 12, _ => rfl
  | 13, _ => rfl
theorem c2M (A : AM m am) : Mw K m am I L h (am 2) = some (xI K 8 (I 2)) := Mw_c A (i := 0) (by decide)
theorem r2M (A : AM m am) (hj : j < 8) : aI K (Mw K m am I L h) (am 2) (nI j) = some (I 2 j) := aI_x (c2M A) hj (by decide)
theorem w2M (A : AM m am) (hj : j < 8) : wI K (Mw K m am I L h) (am 2) (nI j) x = some (Mw K m am (setI I 2 j x) L h) := by
  rw [wI_x (c2M A) hj (by decide)]
  congr 1
  refine Mw_upc A (i := 0) (I' := setI I 2 j x) (L' := L) (by decide) rfl fun g hg n => ?_
  match g, hg, n with
  | 0, _, n => exact absurd rfl n
  | 1, _, _ => rfl
  | 2, _, _ => rfl
  | 3, _, _ => rfl
  | 4, _, _ => rfl
  | 5, _, _ => rfl
  | 6, _, _ => rfl
  | 7, _, _ => rfl
  | 8, _, _ => rfl
  | 9, _, _ => rfl
  | 10, _, _ => rfl
  | 11, _, _ => rfl
  | 12, _, _ => rfl
  | 13, _, _ => rfl
theorem c3M (A : AM m am) : Mw K m am I L h (am 3) = some (xI K 56 (I 3)) := Mw_c A (i := 1) (by decide)
theorem r3M (A : AM m am) (hj : j < 56) : aI K (Mw K m am I L h) (am 3) (nI j) = some (I 3 j) := aI_x (c3M A) hj (by decide)
theorem w3M (A : AM m am) (hj : j < 56) : wI K (Mw K m am I L h) (am 3) (nI j) x = some (Mw K m am (setI I 3 j x) L h) := by
  rw [wI_x (c3M A) hj (by decide)]
  congr 1
  refine Mw_upc A (i := 1) (I' := setI I 3 j x) (L' := L) (by decide) rfl fun g hg n => ?_
  match g, hg, n with
  | 0, _, _ => rfl
  | 1, _, n => exact absurd rfl n
  | 2, _, _ => rfl
  | 3, _, _ => rfl
  | 4, _, _ => rfl
  | 5, _, _ => rfl
  | 6, _, _ => rfl
  | 7, _, _ => rfl
  | 8, _, _ => rfl
  | 9, _, _ => rfl
  | 10, _, _ => rfl
  | 11, _, _ => rfl
  | 12, _, _ => rfl
  | 13, _, _ => rfl
theorem c4M (A : AM m am) : Mw K m am I L h (am 4) = some (xI K 56 (I 4)) := Mw_c A (i := 2) (by decide)
theorem r4M (A : AM m am) (hj : j < 56) : aI K (Mw K m am I L h) (am 4) (nI j) = some (I 4 j) := aI_x (c4M A) hj (by decide)
theorem w4M (A : AM m am) (hj : j < 56) : wI K (Mw K m am I L h) (am 4) (nI j) x = some (Mw K m am (setI I 4 j x) L h) := by
  rw [wI_x (c4M A) hj (by decide)]
  congr 1
  refine Mw_upc A (i := 2) (I' := setI I 4 j x) (L' := L) (by decide) rfl fun g hg n => ?_
  match g, hg, n with
  | 0, _, _ => rfl
  | 1, _, _ => rfl
  | 2, _, n => exact absurd rfl n
  | 3, _, _ => rfl
  | 4, _, _ => rfl
  | 5, _, _ => rfl
  | 6, _, _ => rfl
  | 7, _, _ => rfl
  | 8, _, _ => rfl
  | 9, _, _ => rfl
  | 10, _, _ => rfl
  | 11, _, _ => rfl
  | 12, _, _ => rfl
  | 13, _, _ => rfl
theorem c5M (A : AM m am) : Mw K m am I L h (am 5) = some (xI K 7 (I 5)) := Mw_c A (i := 3) (by decide)
theorem r5M (A : AM m am) (hj : j < 7) : aI K (Mw K m am I L h) (am 5) (nI j) = some (I 5 j) := aI_x (c5M A) hj (by decide)
theorem w5M (A : AM m am) (hj : j < 7) : wI K (Mw K m am I L h) (am 5) (nI j) x = some (Mw K m am (setI I 5 j x) L h) := by
  rw [wI_x (c5M A) hj (by decide)]
  congr 1
  refine Mw_upc A (i := 3) (I' := setI I 5 j x) (L' := L) (by decide) rfl fun g hg n => ?_
  match g, hg, n with
  | 0, _, _ => rfl
  | 1, _, _ => rfl
  | 2, _, _ => rfl
  | 3, _, n => exact absurd rfl n
  | 4, _, _ => rfl
  | 5, _, _ => rfl
  | 6, _, _ => rfl
  | 7, _, _ => rfl
  | 8, _, _ => rfl
  | 9, _, _ => rfl
  | 10, _, _ => rfl
  | 11, _, _ => rfl
  | 12, _, _ => rfl
  | 13, _, _ => rfl
theorem c6M (A : AM m am) : Mw K m am I L h (am 6) = some (xI K 7 (I 6)) := Mw_c A (i := 4) (by decide)
theorem r6M (A : AM m am) (hj : j < 7) : aI K (Mw K m am I L h) (am 6) (nI j) = some (I 6 j) := aI_x (c6M A) hj (by decide)
theorem w6M (A : AM m am) (hj : j < 7) : wI K (Mw K m am I L h) (am 6) (nI j) x = some (Mw K m am (setI I 6 j x) L h) := by
  rw [wI_x (c6M A) hj (by decide)]
  congr 1
  refine Mw_upc A (i := 4) (I' := setI I 6 j x) (L' := L) (by decide) rfl fun g hg n => ?_
  match g, hg, n with
  | 0, _, _ => rfl
  | 1, _, _ => rfl
  | 2, _, _ => rfl
  | 3, _, _ => rfl
  | 4, _, n => exact absurd rfl n
  | 5, _, _ => rfl
  | 6, _, _ => rfl
  | 7, _, _ => rfl
  | 8, _, _ => rfl
  | 9, _, _ => rfl
  | 10, _, _ => rfl
  | 11, _, _ => rfl
  | 12, _, _ => rfl
  | 13, _, _ => rfl
theorem c7M (A : AM m am) : Mw K m am I L h (am 7) = some (xI K 1050 (I 7)) := Mw_c A (i := 5) (by decide)
theorem r7M (A : AM m am) (hj : j < 1050) : aI K (Mw K m am I L h) (am 7) (nI j) = some (I 7 j) := aI_x (c7M A) hj (by decide)
theorem w7M (A : AM m am) (hj : j < 1050) : wI K (Mw K m am I L h) (am 7) (nI j) x = some (Mw K m am (setI I 7 j x) L h) := by
  rw [wI_x (c7M A) hj (by decide)]
  congr 1
  refine Mw_upc A (i := 5) (I' := setI I 7 j x) (L' := L) (by decide) rfl fun g hg n => ?_
  match g, hg, n with
  | 0, _, _ => rfl
  | 1, _, _ => rfl
  | 2, _, _ => rfl
  | 3, _, _ => rfl
  | 4, _, _ => rfl
  | 5, _, n => exact absurd rfl n
  | 6, _, _ => rfl
  | 7, _, _ => rfl
  | 8, _, _ => rfl
  | 9, _, _ => rfl
  | 10, _, _ => rfl
  | 11, _, _ => rfl
  | 12, _, _ => rfl
  | 13, _, _ => rfl
theorem c8M (A : AM m am) : Mw K m am I L h (am 8) = some (xJ K 1050 (L 8)) := Mw_c A (i := 6) (by decide)
theorem r8M (A : AM m am) (hj : j < 1050) : aJ K (Mw K m am I L h) (am 8) (nI j) = some (L 8 j) := aJ_x (c8M A) hj (by decide)
theorem w8M (A : AM m am) (hj : j < 1050) : wJ K (Mw K m am I L h) (am 8) (nI j) y = some (Mw K m am I (setL L 8 j y) h) := by
  rw [wJ_x (c8M A) hj (by decide)]
  congr 1
  refine Mw_upc A (i := 6) (I' := I) (L' := setL L 8 j y) (by decide) rfl fun g hg n => ?_
  match g, hg, n with
  | 0, _, _ => rfl
  | 1, _, _ => rfl
  | 2, _, _ => rfl
  | 3, _, _ => rfl
  | 4, _, _ => rfl
  | 5, _, _ => rfl
  | 6, _, n => exact absurd rfl n
  | 7, _, _ => rfl
  | 8, _, _ => rfl
  | 9, _, _ => rfl
  | 10, _, _ => rfl
  | 11, _, _ => rfl
  | 12, _, _ => rfl
  | 13, _, _ => rfl
theorem c9M (A : AM m am) : Mw K m am I L h (am 9) = some (xI K 1050 (I 9)) := Mw_c A (i := 7) (by decide)
theorem r9M (A : AM m am) (hj : j < 1050) : aI K (Mw K m am I L h) (am 9) (nI j) = some (I 9 j) := aI_x (c9M A) hj (by decide)
theorem w9M (A : AM m am) (hj : j < 1050) : wI K (Mw K m am I L h) (am 9) (nI j) x = some (Mw K m am (setI I 9 j x) L h) := by
  rw [wI_x (c9M A) hj (by decide)]
  congr 1
  refine Mw_upc A (i := 7) (I' := setI I 9 j x) (L' := L) (by decide) rfl fun g hg n => ?_
  match g, hg, n with
  | 0, _, _ => rfl
  | 1, _, _ => rfl
  | 2, _, _ => rfl
  | 3, _, _ => rfl
  | 4, _, _ => rfl
  | 5, _, _ => rfl
  | 6, _, _ => rfl
  | 7, _, n => exact absurd rfl n
  | 8, _, _ => rfl
  | 9, _, _ => rfl
  | 10, _, _ => rfl
  | 11, _, _ => rfl
  | 12, _, _ => rfl
  | 13, _, _ => rfl
theorem c10M (A : AM m am) : Mw K m am I L h (am 10) = some (xI K 1050 (I 10)) := Mw_c A (i := 8) (by decide)
theorem r10M (A : AM m am) (hj : j < 1050) : aI K (Mw K m am I L h) (am 10) (nI j) = some (I 10 j) := aI_x (c10M A) hj (by decide)
theorem w10M (A : AM m am) (hj : j < 1050) : wI K (Mw K m am I L h) (am 10) (nI j) x = some (Mw K m am (setI I 10 j x) L h) := by
  rw [wI_x (c10M A) hj (by decide)]
  congr 1
  refine Mw_upc A (i := 8) (I' := setI I 10 j x) (L' := L) (by decide) rfl fun g hg n => ?_
  match g, hg, n with
  | 0, _, _ => rfl
  | 1, _, _ => rfl
  | 2, _, _ => rfl
  | 3, _, _ => rfl
  | 4, _, _ => rfl
  | 5, _, _ => rfl
  | 6, _, _ => rfl
  | 7, _, _ => rfl
  | 8, _, n => exact absurd rfl n
  | 9, _, _ => rfl
  | 10, _, _ => rfl
  | 11, _, _ => rfl
  | 12, _, _ => rfl
  | 13, _, _ => rfl
theorem c11M (A : AM m am) : Mw K m am I L h (am 11) = some (xJ K 10500 (L 11)) := Mw_c A (i := 9) (by decide)
theorem r11M (A : AM m am) (hj : j < 10500) : aJ K (Mw K m am I L h) (am 11) (nI j) = some (L 11 j) := aJ_x (c11M A) hj (by decide)
theorem w11M (A : AM m am) (hj : j < 10500) : wJ K (Mw K m am I L h) (am 11) (nI j) y = some (Mw K m am I (setL L 11 j y) h) := by
  rw [wJ_x (c11M A) hj (by decide)]
  congr 1
  refine Mw_upc A (i := 9) (I' := I) (L' := setL L 11 j y) (by decide) rfl fun g hg n => ?_
  match g, hg, n with
  | 0, _, _ => rfl
  | 1, _, _ => rfl
  | 2, _, _ => rfl
  | 3, _, _ => rfl
  | 4, _, _ => rfl
  | 5, _, _ => rfl
  | 6, _, _ => rfl
  | 7, _, _ => rfl
  | 8, _, _ => rfl
  | 9, _, n => exact absurd rfl n
  | 10, _, _ => rfl
  | 11, _, _ => rfl
  | 12, _, _ => rfl
  | 13, _, _ => rfl
theorem c12M (A : AM m am) : Mw K m am I L h (am 12) = some (xJ K 10500 (L 12)) := Mw_c A (i := 10) (by decide)
theorem r12M (A : AM m am) (hj : j < 10500) : aJ K (Mw K m am I L h) (am 12) (nI j) = some (L 12 j) := aJ_x (c12M A) hj (by decide)
theorem w12M (A : AM m am) (hj : j < 10500) : wJ K (Mw K m am I L h) (am 12) (nI j) y = some (Mw K m am I (setL L 12 j y) h) := by
  rw [wJ_x (c12M A) hj (by decide)]
  congr 1
  refine Mw_upc A (i := 10) (I' := I) (L' := setL L 12 j y) (by decide) rfl fun g hg n => ?_
  match g, hg, n with
  | 0, _, _ => rfl
  | 1, _, _ => rfl
  | 2, _, _ => rfl
  | 3, _, _ => rfl
  | 4, _, _ => rfl
  | 5, _, _ => rfl
  | 6, _, _ => rfl
  | 7, _, _ => rfl
  | 8, _, _ => rfl
  | 9, _, _ => rfl
  | 10, _, n => exact absurd rfl n
  | 11, _, _ => rfl
  | 12, _, _ => rfl
  | 13, _, _ => rfl
theorem c13M (A : AM m am) : Mw K m am I L h (am 13) = some (xI K 112 (I 13)) := Mw_c A (i := 11) (by decide)
theorem r13M (A : AM m am) (hj : j < 112) : aI K (Mw K m am I L h) (am 13) (nI j) = some (I 13 j) := aI_x (c13M A) hj (by decide)
theorem w13M (A : AM m am) (hj : j < 112) : wI K (Mw K m am I L h) (am 13) (nI j) x = some (Mw K m am (setI I 13 j x) L h) := by
  rw [wI_x (c13M A) hj (by decide)]
  congr 1
  refine Mw_upc A (i := 11) (I' := setI I 13 j x) (L' := L) (by decide) rfl fun g hg n => ?_
  match g, hg, n with
  | 0, _, _ => rfl
  | 1, _, _ => rfl
  | 2, _, _ => rfl
  | 3, _, _ => rfl
  | 4, _, _ => rfl
  | 5, _, _ => rfl
  | 6, _, _ => rfl
  | 7, _, _ => rfl
  | 8, _, _ => rfl
  | 9, _, _ => rfl
  | 10, _, _ => rfl
  | 11, _, n => exact absurd rfl n
  | 12, _, _ => rfl
  | 13, _, _ => rfl
theorem c14M (A : AM m am) : Mw K m am I L h (am 14) = some (xZ K 7 (I 14)) := Mw_c A (i := 12) (by decide)
theorem r14M (A : AM m am) (hj : j < 7) : aZ K (Mw K m am I L h) (am 14) (nI j) = some (I 14 j) := by
  have h1 := nI_clamp (n := j) (by omega)
  have h2 := nI_pos (n := j) (by omega)
  simp [aZ, c14M A, h1, h2, hj]
theorem w14M (A : AM m am) (hj : j < 7) : wZ K (Mw K m am I L h) (am 14) (nI j) x = some (Mw K m am (setI I 14 j x) L h) := by
  have h1 := nI_clamp (n := j) (by omega)
  have h2 := nI_pos (n := j) (by omega)
  have e : wZ K (Mw K m am I L h) (am 14) (nI j) x = some (va_up (Mw K m am I L h) (am 14) (some (xZ K 7 (upd (I 14) j x)))) := by simp [wZ, c14M A, h1, h2, hj]
  rw [e]
  congr 1
  refine Mw_upc A (i := 12) (I' := setI I 14 j x) (L' := L) (by decide) rfl fun g hg n => ?_
  match g, hg, n with
  | 0, _, _ => rfl
  | 1, _, _ => rfl
  | 2, _, _ => rfl
  | 3, _, _ => rfl
  | 4, _, _ => rfl
  | 5, _, _ => rfl
  | 6, _, _ => rfl
  | 7, _, _ => rfl
  | 8, _, _ => rfl
  | 9, _, _ => rfl
  | 10, _, _ => rfl
  | 11, _, _ => rfl
  | 12, _, n => exact absurd rfl n
  | 13, _, _ => rfl
theorem c15M (A : AM m am) : Mw K m am I L h (am 15) = some (xI K 7 (I 15)) := Mw_c A (i := 13) (by decide)
theorem r15M (A : AM m am) (hj : j < 7) : aI K (Mw K m am I L h) (am 15) (nI j) = some (I 15 j) := aI_x (c15M A) hj (by decide)
theorem w15M (A : AM m am) (hj : j < 7) : wI K (Mw K m am I L h) (am 15) (nI j) x = some (Mw K m am (setI I 15 j x) L h) := by
  rw [wI_x (c15M A) hj (by decide)]
  congr 1
  refine Mw_upc A (i := 13) (I' := setI I 15 j x) (L' := L) (by decide) rfl fun g hg n => ?_
  match g, hg, n with
  | 0, _, _ => rfl
  | 1, _, _ => rfl
  | 2, _, _ => rfl
  | 3, _, _ => rfl
  | 4, _, _ => rfl
  | 5, _, _ => rfl
  | 6, _, _ => rfl
  | 7, _, _ => rfl
  | 8, _, _ => rfl
  | 9, _, _ => rfl
  | 10, _, _ => rfl
  | 11, _, _ => rfl
  | 12, _, _ => rfl
  | 13, _, n => exact absurd rfl n
end Mod
