/-! ===== the reference: its entries as a list ===== -/
abbrev szN (x : Int32) : Nat := x.toNatClampNeg
abbrev kdE (I : MI) (c e : Nat) : Int32 := I 3 (8 * c + (I 7 e).toNatClampNeg)
def mEv (I : MI) (L : ML) (c e : Nat) : EV := (I 7 e, L 8 e, I 9 e, if kdE I c e = nI 0 ∨ kdE I c e = nI 3 then [L 11 (10 * e)] else (List.range (szN (I 10 e))).map (fun i => L 11 (10 * e + i)), if kdE I c e = nI 2 then (List.range (szN (I 10 e))).map (fun i => L 12 (10 * e + i)) else [], if kdE I c e = nI 3 then I 10 e else nI 0)
def mLst (I : MI) (L : ML) (c n : Nat) : List EV := (List.range n).map (fun i => mEv I L c (150 * c + i))
/-- an entry as it may be: of one of n states, with as many numbers as its kind has -/
def eOk (I : MI) (c n e : Nat) : Prop := ∃ st, st < n ∧ I 7 e = nI st ∧ (I 3 (8 * c + st) ≠ nI 3 → ∃ t, I 10 e = nI t ∧ 0 < t ∧ t ≤ 10 ∧ (I 3 (8 * c + st) = nI 0 → t = 1))
def sameE (I : MI) (L : ML) (I' : MI) (L' : ML) (e : Nat) : Prop := I' 7 e = I 7 e ∧ L' 8 e = L 8 e ∧ I' 9 e = I 9 e ∧ I' 10 e = I 10 e ∧ ∀ i, i < 10 → L' 11 (10 * e + i) = L 11 (10 * e + i) ∧ L' 12 (10 * e + i) = L 12 (10 * e + i)
theorem mEv_ky (I : MI) (L : ML) (c e : Nat) : kyE (mEv I L c e) = (I 7 e, L 8 e, I 9 e) := rfl
theorem mLst_len (I : MI) (L : ML) (c n : Nat) : (mLst I L c n).length = n := by simp [mLst]
theorem mLst_get {I : MI} {L : ML} {c n i : Nat} (hi : i < n) : (mLst I L c n)[i]? = some (mEv I L c (150 * c + i)) := by simp [mLst, hi]
theorem map_range_congr {α : Type} {n : Nat} {f g : Nat → α} (h : ∀ i, i < n → f i = g i) : (List.range n).map f = (List.range n).map g := List.map_congr_left fun i hi => h i (List.mem_range.mp hi)
theorem mEv_same {I I' : MI} {L L' : ML} {c n e : Nat} (hn : n ≤ 8) (s : sameE I L I' L' e) (h3 : ∀ st, st < n → I' 3 (8 * c + st) = I 3 (8 * c + st)) (ok : eOk I c n e) : mEv I' L' c e = mEv I L c e := by
  obtain ⟨s7, s8, s9, s10, s11⟩ := s
  obtain ⟨st, hst, e7, tk⟩ := ok
  have hk : kdE I' c e = kdE I c e := by
    simp only [kdE, s7, e7, nI_clamp (show st < 2 ^ 31 by omega)]
    exact h3 st hst
  have hk2 : kdE I c e = I 3 (8 * c + st) := by simp only [kdE, e7, nI_clamp (show st < 2 ^ 31 by omega)]
  unfold mEv
  rw [hk, s7, s8, s9, s10]
  have e0 := (s11 0 (by decide)).1
  simp only [Nat.add_zero] at e0
  by_cases q : kdE I c e = nI 3
  · simp only [q, or_true, if_true, e0]
    rw [if_neg (by decide), if_neg (by decide)]
  · obtain ⟨t, e10, t0, t10, tv⟩ := tk (by rw [← hk2]; exact q)
    have hsz : szN (I 10 e) = t := by rw [szN, e10, nI_clamp (by omega)]
    rw [hsz, e0, map_range_congr (f := fun i => L' 11 (10 * e + i)) fun i hi => (s11 i (by omega)).1, map_range_congr (f := fun i => L' 12 (10 * e + i)) fun i hi => (s11 i (by omega)).2]
theorem mLst_same {I I' : MI} {L L' : ML} {c m n : Nat} (hn : m ≤ 8) (s : ∀ i, i < n → sameE I L I' L' (150 * c + i)) (h3 : ∀ st, st < m → I' 3 (8 * c + st) = I 3 (8 * c + st)) (ok : ∀ i, i < n → eOk I c m (150 * c + i)) : mLst I' L' c n = mLst I L c n := map_range_congr fun i hi => mEv_same hn (s i hi) h3 (ok i hi)
theorem mLst_s (I : MI) (L : ML) (c n : Nat) : mLst I L c (n + 1) = mLst I L c n ++ [mEv I L c (150 * c + n)] := by simp [mLst, List.range_succ]
theorem eOk_same {I I' : MI} {c n e : Nat} (h7 : I' 7 e = I 7 e) (h10 : I' 10 e = I 10 e) (h3 : ∀ st, st < n → I' 3 (8 * c + st) = I 3 (8 * c + st)) (ok : eOk I c n e) : eOk I' c n e := by
  obtain ⟨st, hst, e7, tk⟩ := ok
  exact ⟨st, hst, h7.trans e7, by rw [h3 st hst, h10]; exact tk⟩
theorem mLst_set {I I' : MI} {L L' : ML} {m n i : Nat} (hm : m ≤ 8) (hi : i < n) (s : ∀ j, j < n → j ≠ i → sameE I L I' L' j) (h3 : ∀ st, st < m → I' 3 st = I 3 st) (ok : ∀ j, j < n → eOk I 0 m j) : mLst I' L' 0 n = (mLst I L 0 n).set i (mEv I' L' 0 i) := by
  apply List.ext_getElem?
  intro j
  rw [List.getElem?_set]
  by_cases hj : j < n
  · have e1 : (mLst I' L' 0 n)[j]? = some (mEv I' L' 0 j) := by rw [mLst_get hj]; simp
    rw [e1]
    by_cases y : i = j
    · subst y; simp [mLst_len, hj]
    · rw [if_neg y]
      have e2 : (mLst I L 0 n)[j]? = some (mEv I L 0 j) := by rw [mLst_get hj]; simp
      rw [e2, mEv_same hm (s j hj (fun z => y z.symm)) (by simpa using h3) (ok j hj)]
  · rw [List.getElem?_eq_none (by rw [mLst_len]; omega)]
    by_cases y : i = j
    · omega
    · rw [if_neg y, List.getElem?_eq_none (by rw [mLst_len]; omega)]
theorem find_m {I : MI} {L : ML} {c n : Nat} {s : Int32} {k : Int64} {sp : Int32} : (mLst I L c n).find? (at3 s k sp) = (fdM I L c n s k sp).map (mEv I L c) := by
  rw [mLst, List.find?_map, fdM, Option.map_map]
  rfl
theorem fdM_some {I : MI} {L : ML} {c n e : Nat} {s : Int32} {k : Int64} {sp : Int32} (h : fdM I L c n s k sp = some e) : ∃ i, i < n ∧ e = 150 * c + i ∧ I 7 e = s ∧ L 8 e = k ∧ I 9 e = sp := by
  unfold fdM at h
  cases hf : (List.range n).find? (fun i => decide (I 7 (150 * c + i) = s ∧ L 8 (150 * c + i) = k ∧ I 9 (150 * c + i) = sp)) with
  | none => rw [hf] at h; cases h
  | some i =>
    rw [hf] at h
    cases h
    have h1 := List.find?_some hf
    simp only [decide_eq_true_eq] at h1
    exact ⟨i, List.mem_range.mp (List.mem_of_find?_eq_some hf), rfl, h1⟩
theorem fdM_none {I : MI} {L : ML} {c n : Nat} {s : Int32} {k : Int64} {sp : Int32} (h : fdM I L c n s k sp = none) : ∀ w ∈ mLst I L c n, kyE w ≠ (s, k, sp) := by
  have := find_m (I := I) (L := L) (c := c) (n := n) (s := s) (k := k) (sp := sp)
  rw [h] at this
  intro w hw z
  exact List.find?_eq_none.mp this w hw (at3_ky.mpr z)
theorem lk_m_s {I : MI} {L : ML} {c n e : Nat} {s : Int32} {k : Int64} {sp : Int32} (h : fdM I L c n s k sp = some e) : lk s k sp (mLst I L c n) = mEv I L c e := by rw [lk, find_m, h]; rfl
theorem lk_m_n {I : MI} {L : ML} {c n : Nat} {s : Int32} {k : Int64} {sp : Int32} (h : fdM I L c n s k sp = none) : lk s k sp (mLst I L c n) = (s, k, sp, [], [], nI 0) := by rw [lk, find_m, h]; rfl
/-! one entry changed, added, taken away -/
theorem noE_erase {M : List EV} {i : Nat} {w v : EV} (hnd : (M.map kyE).Nodup) (hi : M[i]? = some w) (hk : kyE w = kyE v) : noE v M = M.take i ++ M.drop (i + 1) := by
  have hil : i < M.length := (List.getElem?_eq_some_iff.mp hi).1
  have e : M = M.take i ++ w :: M.drop (i + 1) := by
    conv => lhs; rw [← List.take_append_drop i M]
    congr 1
    rw [List.drop_eq_getElem_cons hil]
    congr 1
    exact (List.getElem?_eq_some_iff.mp hi).2
  rw [e, List.map_append, List.map_cons] at hnd
  have n1 := List.nodup_append.mp hnd
  have n2 := List.nodup_cons.mp n1.2.1
  have h1 : noE v (M.take i) = M.take i := noE_self fun u hu z => n1.2.2 (kyE u) (List.mem_map_of_mem hu) (kyE w) (by simp) (by rw [z, hk])
  have h2 : noE v (M.drop (i + 1)) = M.drop (i + 1) := noE_self fun u hu z => n2.1 (by rw [hk, ← z]; exact List.mem_map_of_mem hu)
  have h3 : at3 v.1 v.2.1 v.2.2.1 w = true := at3_ky.mpr hk
  conv => lhs; rw [e, noE_app, h1]
  rw [show noE v (w :: M.drop (i + 1)) = noE v (M.drop (i + 1)) by simp [noE, h3], h2]
theorem set_perm {M : List EV} {i : Nat} {w v : EV} (hnd : (M.map kyE).Nodup) (hi : M[i]? = some w) (hk : kyE w = kyE v) : (M.set i v).Perm (v :: noE v M) := by
  have hil : i < M.length := (List.getElem?_eq_some_iff.mp hi).1
  rw [noE_erase hnd hi hk, List.set_eq_take_append_cons_drop, if_pos hil]
  exact List.perm_middle
theorem set_nodup {M : List EV} {i : Nat} {w v : EV} (hnd : (M.map kyE).Nodup) (hi : M[i]? = some w) (hk : kyE w = kyE v) : ((M.set i v).map kyE).Nodup := by
  have : (M.set i v).map kyE = M.map kyE := by
    rw [List.map_set, ← hk]
    apply List.ext_getElem?
    intro j
    rw [List.getElem?_set]
    split
    · rename_i y
      subst y
      simp [hi]
      exact (List.getElem?_eq_some_iff.mp hi).1
    · rfl
  rw [this]; exact hnd
theorem app_perm {M : List EV} {v : EV} (hno : ∀ w ∈ M, kyE w ≠ kyE v) : (M ++ [v]).Perm (v :: noE v M) := by
  rw [noE_self hno]
  exact List.perm_append_comm (l₁ := M) (l₂ := [v])
theorem app_nodup {M : List EV} {v : EV} (hnd : (M.map kyE).Nodup) (hno : ∀ w ∈ M, kyE w ≠ kyE v) : ((M ++ [v]).map kyE).Nodup := by
  rw [List.map_append, List.nodup_append]
  refine ⟨hnd, by simp, fun a ha b hb => ?_⟩
  obtain ⟨w, hw, rfl⟩ := List.mem_map.mp ha
  simp at hb
  rw [hb]; exact hno w hw
/-- the last one put in place i -/
def swr (M : List EV) (i : Nat) : List EV := (M.set i (M.getLastD (0, 0, 0, [], [], 0))).dropLast
theorem swr_take {M : List EV} {i : Nat} (hi : i < M.length) : (swr M i).take i = M.take i := by
  apply List.ext_getElem?
  intro j
  rw [List.getElem?_take, List.getElem?_take]
  split
  · rename_i hj
    rw [swr, List.getElem?_dropLast, List.length_set, if_pos (by omega), List.getElem?_set_ne (by omega)]
  · rfl
theorem swr_drop {M : List EV} {i : Nat} (hi : i < M.length) : ((swr M i).drop i).Perm (M.drop (i + 1)) := by
  have hne : M ≠ [] := fun z => by rw [z] at hi; exact absurd hi (by simp)
  obtain ⟨N, z, rfl⟩ : ∃ N z, M = N ++ [z] := ⟨M.dropLast, M.getLast hne, (List.dropLast_concat_getLast hne).symm⟩
  have hlen : (N ++ [z]).length = N.length + 1 := by simp
  rw [hlen] at hi
  unfold swr
  simp only [List.getLastD_concat]
  by_cases y : i = N.length
  · subst y
    rw [List.set_append_right _ _ (Nat.le_refl _)]
    simp
  · have hiN : i < N.length := by omega
    rw [List.set_append_left _ _ hiN, List.dropLast_concat, List.set_eq_take_append_cons_drop, if_pos hiN, List.drop_append_of_le_length (by simp; omega), List.drop_append_of_le_length (by omega)]
    simp only [List.drop_take, Nat.sub_self, List.take_zero, List.nil_append]
    exact List.perm_append_comm (l₁ := [z]) (l₂ := N.drop (i + 1))
theorem swr_perm {M : List EV} {i : Nat} {w v : EV} (hnd : (M.map kyE).Nodup) (hi : M[i]? = some w) (hk : kyE w = kyE v) : (swr M i).Perm (noE v M) := by
  have hil : i < M.length := (List.getElem?_eq_some_iff.mp hi).1
  rw [noE_erase hnd hi hk, ← List.take_append_drop i (swr M i), swr_take hil]
  exact (swr_drop hil).append_left _
theorem noE_nodup {M : List EV} {v : EV} (hnd : (M.map kyE).Nodup) : ((noE v M).map kyE).Nodup := hnd.sublist ((List.filter_sublist).map kyE)
/-! the pages -/
/-- the pages of T are changed: those that a snapshot holds have new numbers -/
def PgM (T : Nat → Bool) (I I' : MI) : Prop :=
  I' 18 0 = I 18 0 + nI ((List.range 16).countP (fun p => T p && shB I p)) ∧ I' 17 0 = I 17 0 + nI ((List.range 16).countP (fun p => T p && shB I p)) ∧ (∀ j, 16 ≤ j → I' 13 j = I 13 j) ∧
  ∀ p, p < 16 → (T p = true ∧ shB I p = true → ∃ q, 0 < q ∧ q ≤ (List.range 16).countP (fun p => T p && shB I p) ∧ I' 13 p = I 17 0 + nI q) ∧ (¬ (T p = true ∧ shB I p = true) → I' 13 p = I 13 p)
/-- the pages' numbers are below the counter -/
def PB (I : MI) : Prop := ∃ g, I 17 0 = nI g ∧ g < 2 ^ 30 ∧ ∀ j, j < 112 → ∃ q, q ≤ g ∧ I 13 j = nI q
theorem shB_c {I I' : MI} {p : Nat} (h14 : I' 14 = I 14) (h13 : ∀ j, 16 ≤ j → I' 13 j = I 13 j) (hp : I' 13 p = I 13 p) : shB I' p = shB I p := by
  unfold shB
  congr 1
  funext j
  rw [h14, hp, h13 (16 * (j + 1) + p) (by omega)]
theorem countP_le16 (f : Nat → Bool) : (List.range 16).countP f ≤ 16 := by
  have := List.countP_le_length (p := f) (l := List.range 16)
  simpa using this
theorem PgM.rf {I I' : MI} (h : I' 13 = I 13) (h7 : I' 17 0 = I 17 0) (h8 : I' 18 0 = I 18 0) : PgM (fun _ => false) I I' := by
  refine ⟨?_, ?_, fun j _ => by rw [h], fun p _ => ⟨fun z => by simp at z, fun _ => by rw [h]⟩⟩
  · rw [h8]; simp only [Bool.false_and, List.countP_false, Function.const_apply]; exact (nI_0r _).symm
  · rw [h7]; simp only [Bool.false_and, List.countP_false, Function.const_apply]; exact (nI_0r _).symm
theorem PgM.step {T : Nat → Bool} {I I1 I2 : MI} {p : Nat} (t : PgM T I I1) (pb : PB I) (h14 : I1 14 = I 14) (hp : p < 16) (h13 : I2 13 = tch I1 p 13) (h17 : I2 17 0 = tch I1 p 17 0) (h18 : I2 18 0 = tch I1 p 18 0) : PgM (fun p' => T p' || decide (p' = p)) I I2 := by
  obtain ⟨t1, t2, t3, t4⟩ := t
  obtain ⟨g, hg, hgb, hq⟩ := pb
  have cut := countP_cut (n := 16) hp (f := fun p' => (T p' || decide (p' = p)) && shB I p') (g := fun p' => T p' && shB I p') (fun i hi n => by simp [n])
  have c16 := countP_le16 (fun p => T p && shB I p)
  by_cases hold : T p = true ∧ shB I p = true
  · -- it was changed before
    obtain ⟨q, q0, q1, q2⟩ := (t4 p hp).1 hold
    have ns : shB I1 p = false := by
      rw [← Bool.not_eq_true]
      intro z
      unfold shB at z
      rw [List.any_eq_true] at z
      obtain ⟨j, hj, z⟩ := z
      have hj6 := List.mem_range.mp hj
      simp only [Bool.and_eq_true, decide_eq_true_eq] at z
      rw [t3 (16 * (j + 1) + p) (by omega), q2] at z
      obtain ⟨r, hr, hr2⟩ := hq (16 * (j + 1) + p) (by omega)
      rw [hr2, hg, nI_add] at z
      have := (nI_eq (by omega) (by omega)).mp z.2
      omega
    have e0 : tch I1 p = I1 := by rw [tch, ns]; rfl
    simp only [hold.1, hold.2, Bool.true_or, Bool.and_self, if_true] at cut
    have ce : (List.range 16).countP (fun p' => (T p' || decide (p' = p)) && shB I p') = (List.range 16).countP (fun p' => T p' && shB I p') := by omega
    rw [e0] at h13 h17 h18
    refine ⟨by rw [h18, t1, ce], by rw [h17, t2, ce], fun j hj => by rw [h13]; exact t3 j hj, fun p' hp' => ?_⟩
    rw [h13, ce]
    refine ⟨fun z => ?_, fun z => (t4 p' hp').2 fun y => z ⟨by simp [y.1], y.2⟩⟩
    by_cases y : p' = p
    · subst y; exact ⟨q, q0, q1, q2⟩
    · exact (t4 p' hp').1 ⟨by simpa [y] using z.1, z.2⟩
  · have e13 := (t4 p hp).2 hold
    have es : shB I1 p = shB I p := shB_c h14 t3 e13
    by_cases hs : shB I p = true
    · have hT : T p = false := by rw [← Bool.not_eq_true]; exact fun z => hold ⟨z, hs⟩
      simp only [hT, hs, Bool.false_or, decide_true, Bool.and_self, Bool.false_and, if_true, Bool.false_eq_true, if_false, Nat.add_zero] at cut
      have ce : (List.range 16).countP (fun p' => (T p' || decide (p' = p)) && shB I p') = (List.range 16).countP (fun p' => T p' && shB I p') + 1 := by omega
      have e0 : tch I1 p = setI (setI (setI I1 18 0 (I1 18 0 + nI 1)) 17 0 (I1 17 0 + nI 1)) 13 p (I1 17 0 + nI 1) := by rw [tch, es, hs]; rfl
      have h13' : I2 13 = upd (I1 13) p (I1 17 0 + nI 1) := by rw [h13, e0, setI_f, setI_n (by decide), setI_n (by decide)]
      have h17' : I2 17 0 = I1 17 0 + nI 1 := by rw [h17, e0, setI_n (by decide), setI_f, upd_s]
      have h18' : I2 18 0 = I1 18 0 + nI 1 := by rw [h18, e0, setI_n (by decide), setI_n (by decide), setI_f, upd_s]
      refine ⟨by rw [h18', t1, ce, Int32.add_assoc, nI_sub1], by rw [h17', t2, ce, Int32.add_assoc, nI_sub1], fun j hj => by rw [h13', upd_n (by omega)]; exact t3 j hj, fun p' hp' => ?_⟩
      rw [h13', ce]
      by_cases y : p' = p
      · subst y
        rw [upd_s]
        exact ⟨fun _ => ⟨_, by omega, Nat.le_refl _, by rw [t2, Int32.add_assoc, nI_sub1]⟩, fun z => absurd ⟨by simp, hs⟩ z⟩
      · rw [upd_n y]
        refine ⟨fun z => ?_, fun z => (t4 p' hp').2 fun w => z ⟨by simp [w.1], w.2⟩⟩
        obtain ⟨q, q0, q1, q2⟩ := (t4 p' hp').1 ⟨by simpa [y] using z.1, z.2⟩
        exact ⟨q, q0, by omega, q2⟩
    · rw [Bool.not_eq_true] at hs
      have e0 : tch I1 p = I1 := by rw [tch, es, hs]; rfl
      simp only [hs, Bool.and_false, Bool.false_eq_true, if_false, Nat.add_zero] at cut
      rw [e0] at h13 h17 h18
      refine ⟨by rw [h18, t1, cut], by rw [h17, t2, cut], fun j hj => by rw [h13]; exact t3 j hj, fun p' hp' => ?_⟩
      rw [h13, cut]
      refine ⟨fun z => ?_, fun z => (t4 p' hp').2 fun w => z ⟨by simp [w.1], w.2⟩⟩
      by_cases y : p' = p
      · subst y; rw [hs] at z; exact absurd z.2 (by simp)
      · exact (t4 p' hp').1 ⟨by simpa [y] using z.1, z.2⟩
