/-! ===== class and reference side by side: drop, restore; sorted keys ===== -/
section Rel
variable {o o' : OV} {nm : Nat → Int32} {th : Nat → Bool} {nu : Nat → Int32} {sc : Nat → Nat} {kd ty kd' ty' : Nat → Nat → Int32} {pa pa' : Nat → Nat → Nat} {Lp Lp' : Nat → List (Option EV)} {I I' : MI} {L L' : ML} {N : Nat → Nat} {g : Nat}
theorem Rel2.dr {j : Nat} (r : Rel2 o nm th nu sc kd ty pa Lp I L N g) (hg : g + 1 < 2 ^ 20) (hj : j < 6) : Rel2 o nm (va_up th (j + 1) false) nu sc kd ty pa Lp (setI (z0 I) 14 (j + 1) (nI 0)) L N (g + 1) := by
  obtain ⟨r1, r2, r3, r4, r5, r6, r7, ⟨a, b1, b2, b3, b4⟩, ⟨q, q1, q2, q3⟩, r10, r11⟩ := r
  generalize hI' : setI (z0 I) 14 (j + 1) (nI 0) = I'
  have h : ∀ f, f ≠ 0 → f ≠ 14 → I' f = I f := fun f h0 h14 => by rw [← hI', setI_n h14, z0_n h0]
  have h14 : I' 14 = upd (I 14) (j + 1) (nI 0) := by rw [← hI', setI_f, z0_n (by decide)]
  have th' : ∀ c, va_up th (j + 1) false c = true → c ≠ j + 1 ∧ th c = true := fun c hc => by
    by_cases y : c = j + 1
    · subst y; rw [up_s] at hc; cases hc
    · rw [up_n y] at hc; exact ⟨y, hc⟩
  have sE : ∀ e, sameE I L I' L e := fun e => sameE.rf (h 7 (by decide) (by decide)) (h 9 (by decide) (by decide)) (h 10 (by decide) (by decide))
  have h3 : I' 3 = I 3 := h 3 (by decide) (by decide)
  refine ⟨?_, fun c hc ht => ?_, fun c h0 hc => ?_, ?_, fun c hc ht => ?_, fun c c' p hc hc' ht ht' hp => ?_, fun c hc ht => r7 c hc (th' c ht).2, ⟨a, b1, by omega, fun c h0 hc ht => b3 c h0 hc (th' c ht).2, fun c c' h0 hc h0' hc' ht ht' => b4 c c' h0 hc h0' hc' (th' c ht).2 (th' c' ht').2⟩, ⟨q, by rw [h 17 (by decide) (by decide)]; exact q1, by omega, by rw [h 13 (by decide) (by decide)]; exact q3⟩, by rw [up_n (by omega)]; exact r10, hg⟩
  · rw [h 1 (by decide) (by decide), h 2 (by decide) (by decide)]; exact r1
  · rw [h3, h 4 (by decide) (by decide)]; exact r2 c hc (th' c ht).2
  · rw [h14, h 5 (by decide) (by decide), h 15 (by decide) (by decide)]
    by_cases y : c = j + 1
    · subst y
      rw [upd_s, up_s]
      exact ⟨⟨fun _ => rfl, fun _ => rfl⟩, fun z => by cases z⟩
    · rw [upd_n y, up_n y]; exact r3 c h0 hc
  · rw [h 16 (by decide) (by decide), h 18 (by decide) (by decide), h 19 (by decide) (by decide), h 21 (by decide) (by decide)]; exact r4
  · obtain ⟨c1, c2, c3, c4, c5⟩ := r5 c hc (th' c ht).2
    have h8 : sc c ≤ 8 := Nat.le_trans (r2 c hc (th' c ht).2).1 r1.2.1
    rw [mLst_same h8 (fun i _ => sE _) (fun st _ => by rw [h3]) c3, h 6 (by decide) (by decide)]
    exact ⟨c1, c2, fun i hi => eOk_same (sE _).1 (sE _).2.2.2.1 (fun st _ => by rw [h3]) (c3 i hi), c4, c5⟩
  · rw [h 13 (by decide) (by decide)]; exact r6 c c' p hc hc' (th' c ht).2 (th' c' ht').2 hp
theorem Rel2.rs {c : Nat} (r : Rel2 o nm th nu sc kd ty pa Lp I L N g) (hg : g + 1 < 2 ^ 20) (h0c : 0 < c) (hc7 : c < 7) (htc : th c = true) : Rel2 o nm th nu sc (u0 kd (mixK kd c (sc c))) (u0 ty (mixK ty c (sc c))) (u0 pa (pa c)) Lp (rsI I c (N c) (sc c)) (caL L c 0 (N c)) (va_up N 0 (N c)) (g + 1) := by
  obtain ⟨⟨a1, a2, a3⟩, r2, r3, ⟨s1, s2, s3, s4, s5, s6⟩, r5, r6, r7, ⟨a, b1, b2, b3, b4⟩, ⟨q, q1, q2, q3⟩, r10, r11⟩ := r
  generalize hI' : rsI I c (N c) (sc c) = I'
  have h : ∀ f, f ≠ 0 → f ≠ 3 → f ≠ 4 → f ≠ 6 → f ≠ 7 → f ≠ 9 → f ≠ 10 → f ≠ 13 → I' f = I f := fun f h0 h3 h4 h6 h7 h9 h10 h13 => by
    rw [← hI', rsI, ktI_n h3 h4, caI_n h6 h7 h9 h10 h13, z0_n h0]
  have h3 : I' 3 = shf (I 3) (8 * c) (8 * 0) (sc c) := by rw [← hI', rsI, ktI_3, caI_n (by decide) (by decide) (by decide) (by decide) (by decide), z0_n (by decide)]
  have h4 : I' 4 = shf (I 4) (8 * c) (8 * 0) (sc c) := by rw [← hI', rsI, ktI_4, caI_n (by decide) (by decide) (by decide) (by decide) (by decide), z0_n (by decide)]
  have h6 : I' 6 = upd (I 6) 0 (I 6 c) := by rw [← hI', rsI, ktI_n (by decide) (by decide), caI_6, z0_n (by decide)]
  have h7 : I' 7 = shf (I 7) (150 * c) (150 * 0) (N c) := by rw [← hI', rsI, ktI_n (by decide) (by decide), caI_7, z0_n (by decide)]
  have h9 : I' 9 = shf (I 9) (150 * c) (150 * 0) (N c) := by rw [← hI', rsI, ktI_n (by decide) (by decide), caI_9, z0_n (by decide)]
  have h10 : I' 10 = shf (I 10) (150 * c) (150 * 0) (N c) := by rw [← hI', rsI, ktI_n (by decide) (by decide), caI_10, z0_n (by decide)]
  have h13 : I' 13 = shf (I 13) (16 * c) (16 * 0) 16 := by rw [← hI', rsI, ktI_n (by decide) (by decide), caI_13, z0_n (by decide)]
  clear hI'
  have i : ∀ f, f ≠ 0 → f ≠ 3 → f ≠ 4 → f ≠ 6 → f ≠ 7 → f ≠ 9 → f ≠ 10 → f ≠ 13 → I' f = I f := h
  have l20 : caL L c 0 (N c) 20 = L 20 := caL_n (by decide) (by decide) (by decide)
  obtain ⟨n1, n2, n3, n4, n5⟩ := r5 c hc7 htc
  have hcs := (r2 c hc7 htc).1
  have s0 : ∀ {α : Type} (f : Nat → α) (w : α), u0 f w 0 = w := fun f w => rfl
  have sn : ∀ {α : Type} (f : Nat → α) (w : α) (c : Nat), c ≠ 0 → u0 f w c = f c := fun f w c hc => if_neg hc
  refine ⟨⟨by rw [i 1 (by decide) (by decide) (by decide) (by decide) (by decide) (by decide) (by decide) (by decide)]; exact a1, a2, by rw [i 2 (by decide) (by decide) (by decide) (by decide) (by decide) (by decide) (by decide) (by decide)]; exact a3⟩, fun d hd ht => ?_, ?_, ⟨?_, ?_, ?_, by rw [l20]; exact s4, ?_, s6⟩, fun d hd ht => ?_, fun d d' p hd hd' ht ht' hp => ?_, fun d hd ht p hp w hw => ?_, ⟨a, b1, by omega, b3, b4⟩, ⟨q, by rw [i 17 (by decide) (by decide) (by decide) (by decide) (by decide) (by decide) (by decide) (by decide)]; exact q1, by omega, fun k hk => ?_⟩, r10, hg⟩
  · obtain ⟨c1, c2⟩ := r2 d hd ht
    refine ⟨c1, fun k hk => ?_⟩
    by_cases y : d = 0
    · subst y
      rw [s0, s0, h3, h4, mixK, mixK]
      by_cases z : k < sc c
      · rw [if_pos z, if_pos z, shf_in ⟨by omega, by omega⟩, shf_in ⟨by omega, by omega⟩, show 8 * c + (8 * 0 + k - 8 * 0) = 8 * c + k by omega]
        exact (r2 c hc7 htc).2 k z
      · rw [if_neg z, if_neg z, shf_out (by omega), shf_out (by omega)]
        exact c2 k hk
    · rw [sn kd _ d y, sn ty _ d y, h3, h4, shf_out (by omega), shf_out (by omega)]
      exact c2 k hk
  · rw [i 14 (by decide) (by decide) (by decide) (by decide) (by decide) (by decide) (by decide) (by decide), i 5 (by decide) (by decide) (by decide) (by decide) (by decide) (by decide) (by decide) (by decide), i 15 (by decide) (by decide) (by decide) (by decide) (by decide) (by decide) (by decide) (by decide)]; exact r3
  · rw [i 16 (by decide) (by decide) (by decide) (by decide) (by decide) (by decide) (by decide) (by decide)]; exact s1
  · rw [i 18 (by decide) (by decide) (by decide) (by decide) (by decide) (by decide) (by decide) (by decide)]; exact s2
  · rw [i 19 (by decide) (by decide) (by decide) (by decide) (by decide) (by decide) (by decide) (by decide)]; exact s3
  · rw [i 21 (by decide) (by decide) (by decide) (by decide) (by decide) (by decide) (by decide) (by decide)]; exact s5
  · by_cases y : d = 0
    · subst y
      obtain ⟨m1, m2⟩ := mLst_copy (I := I) (L := L) (I' := I') (L' := caL L c 0 (N c)) (f := c) (t := 0) (by omega) (fun j hj => ca_in h7 h9 h10 hj) (fun st hst => by rw [h3, shf_in ⟨by omega, by omega⟩]; congr 1; omega) n3
      rw [up_s, m1, s0]
      exact ⟨by rw [h6, upd_s]; exact n1, n2, fun j hj => eOk_up hcs (m2 j hj), n4, n5⟩
    · obtain ⟨c1, c2, c3, c4, c5⟩ := r5 d hd ht
      have h8' : sc d ≤ 8 := Nat.le_trans (r2 d hd ht).1 a2
      have sE : ∀ j, j < N d → sameE I L I' (caL L c 0 (N c)) (150 * d + j) := fun j hj => ca_out h7 h9 h10 (by omega)
      have k3 : ∀ st, st < sc d → I' 3 (8 * d + st) = I 3 (8 * d + st) := fun st hst => by rw [h3, shf_out (by omega)]
      rw [up_n y, sn pa _ d y, mLst_same h8' sE k3 c3, h6, upd_n y]
      exact ⟨c1, c2, fun j hj => eOk_same (sE j hj).1 (sE j hj).2.2.2.1 k3 (c3 j hj), c4, c5⟩
  · have key : ∀ d, d < 7 → th d = true → ∃ e, e < 7 ∧ th e = true ∧ u0 pa (pa c) d = pa e ∧ I' 13 (16 * d + p) = I 13 (16 * e + p) := fun d hd ht => by
      by_cases y : d = 0
      · subst y; exact ⟨c, hc7, htc, s0 _ _, by rw [h13, shf_in ⟨by omega, by omega⟩]; congr 1; omega⟩
      · exact ⟨d, hd, ht, sn _ _ d y, by rw [h13, shf_out (by omega)]⟩
    obtain ⟨e, d1, d2, d3, d4⟩ := key d hd ht
    obtain ⟨e', d1', d2', d3', d4'⟩ := key d' hd' ht'
    rw [d3, d3', d4, d4']
    exact r6 e e' p d1 d1' d2 d2' hp
  · by_cases y : d = 0
    · subst y; rw [s0] at hw; exact r7 c hc7 htc p hp w hw
    · rw [sn pa _ d y] at hw; exact r7 d hd ht p hp w hw
  · rw [h13]
    by_cases y : 16 * 0 ≤ k ∧ k < 16 * 0 + 16
    · rw [shf_in y]; exact q3 _ (by omega)
    · rw [shf_out y]; exact q3 k hk
end Rel
/-! sorted keys -/
theorem insK_nil (x : Int64) : insK x [] = [x] := rfl
theorem insK_cons (x a : Int64) (R : List Int64) : insK x (a :: R) = if a < x then a :: insK x R else x :: a :: R := by
  unfold insK plc
  rw [List.findIdx_cons]
  by_cases y : a < x
  · simp [y, List.insertIdx_succ_cons]
  · simp [y]
theorem insK_perm (x : Int64) (R : List Int64) : (insK x R).Perm (x :: R) := by
  induction R with
  | nil => exact List.Perm.refl _
  | cons a R ih =>
    rw [insK_cons]
    split
    · exact (ih.cons a).trans (List.Perm.swap x a R)
    · exact List.Perm.refl _
theorem insK_sort (x : Int64) (R : List Int64) (hx : x ∉ R) (hs : R.Pairwise (· < ·)) : (insK x R).Pairwise (· < ·) := by
  induction R with
  | nil => simp [insK_nil]
  | cons a R ih =>
    rw [List.pairwise_cons] at hs
    rw [insK_cons]
    split
    · rename_i y
      rw [List.pairwise_cons]
      refine ⟨fun b hb => ?_, ih (fun z => hx (List.mem_cons_of_mem _ z)) hs.2⟩
      rcases List.mem_cons.mp ((insK_perm x R).mem_iff.mp hb) with rfl | z
      · exact y
      · exact hs.1 b z
    · rename_i y
      have hxa : x < a := by
        rcases Int64.lt_or_eq_of_le (Int64.not_lt.mp y) with z | z
        · exact z
        · exact absurd (by rw [z]; exact List.mem_cons_self) hx
      rw [List.pairwise_cons, List.pairwise_cons]
      refine ⟨fun b hb => ?_, hs⟩
      rcases List.mem_cons.mp hb with rfl | z
      · exact hxa
      · exact Int64.lt_trans hxa (hs.1 b z)
theorem foldK_perm (E : List EV) : ∀ R : List Int64, (foldK E R).Perm (E.map (fun v => v.2.1) ++ R) := by
  induction E with
  | nil => intro R; exact List.Perm.refl _
  | cons v E ih =>
    intro R
    show (foldK E (insK v.2.1 R)).Perm _
    refine (ih _).trans ?_
    rw [List.map_cons, List.cons_append]
    exact ((insK_perm v.2.1 R).append_left _).trans List.perm_middle
theorem foldK_sort (E : List EV) : ∀ R : List Int64, (E.map (fun v => v.2.1) ++ R).Nodup → R.Pairwise (· < ·) → (foldK E R).Pairwise (· < ·) := by
  induction E with
  | nil => intro R _ h; exact h
  | cons v E ih =>
    intro R hnd hs
    show (foldK E (insK v.2.1 R)).Pairwise _
    rw [List.map_cons, List.cons_append, List.nodup_cons] at hnd
    refine ih _ ?_ (insK_sort _ _ (fun z => hnd.1 (List.mem_append_right _ z)) hs)
    refine (((insK_perm v.2.1 R).append_left _).trans List.perm_middle).nodup_iff.mpr ?_
    rw [List.nodup_cons]; exact hnd
theorem rank_sort {S : List Int64} (hs : S.Pairwise (· < ·)) : ∀ {j : Nat}, j < S.length → S.countP (fun y => decide (y < S.getD j 0)) = j := by
  induction S with
  | nil => intro j hj; exact absurd hj (Nat.not_lt_zero _)
  | cons a S ih =>
    rw [List.pairwise_cons] at hs
    intro j hj
    cases j with
    | zero =>
      rw [List.getD_cons_zero, List.countP_eq_zero]
      intro b hb
      rcases List.mem_cons.mp hb with rfl | z
      · simpa using Int64.not_lt.mp (Int64.lt_irrefl b)
      · simpa using Int64.le_of_lt (hs.1 b z)
    | succ j =>
      have hj' : j < S.length := by simpa using hj
      rw [List.getD_cons_succ, List.countP_cons, ih hs.2 hj']
      have hm : S.getD j 0 ∈ S := by rw [List.getD_eq_getElem?_getD, List.getElem?_eq_getElem hj']; exact List.getElem_mem hj'
      rw [if_pos (decide_eq_true (hs.1 _ hm))]
theorem nodup_of_map {α β : Type} {f : α → β} {A : List α} (h : (A.map f).Nodup) : A.Nodup := by
  induction A with
  | nil => exact List.nodup_nil
  | cons a A ih =>
    rw [List.map_cons, List.nodup_cons] at h
    rw [List.nodup_cons]
    exact ⟨fun z => h.1 (List.mem_map.mpr ⟨a, z, rfl⟩), ih h.2⟩
/-- the keys of a state in a span, sorted: the j-th has j below it -/
theorem keys_rank {E M : List EV} {s sp : Int32} (hp : E.Perm M) (hnd : (M.map kyE).Nodup) : (foldK (E.filter (mk2 s sp)) []).length = M.countP (mk2 s sp) ∧ (∀ j, j < M.countP (mk2 s sp) → ∃ w ∈ M, mk2 s sp w = true ∧ rkM s sp M w = j ∧ w.2.1 = (foldK (E.filter (mk2 s sp)) []).getD j 0) ∧ ∀ w ∈ M, mk2 s sp w = true → rkM s sp M w < M.countP (mk2 s sp) ∧ w.2.1 = (foldK (E.filter (mk2 s sp)) []).getD (rkM s sp M w) 0 := by
  have len : (foldK (E.filter (mk2 s sp)) []).length = M.countP (mk2 s sp) := by
    rw [fold_ins_len, List.length_nil, Nat.zero_add, ← List.countP_eq_length_filter, hp.countP_eq]
  have pS : (foldK (E.filter (mk2 s sp)) []).Perm ((M.filter (mk2 s sp)).map (fun v => v.2.1)) := by
    have := foldK_perm (E.filter (mk2 s sp)) []
    rw [List.append_nil] at this
    exact this.trans ((hp.filter _).map _)
  have ndk : ((E.filter (mk2 s sp)).map (fun v => v.2.1)).Nodup := by
    have h1 : ((E.filter (mk2 s sp)).map kyE).Nodup := ((hp.map kyE).nodup_iff.mpr hnd).sublist (List.filter_sublist.map _)
    have h2 : (E.filter (mk2 s sp)).map kyE = ((E.filter (mk2 s sp)).map (fun v => v.2.1)).map (fun k => (s, k, sp)) := by
      rw [List.map_map]
      refine List.map_congr_left fun v hv => ?_
      have := of_decide_eq_true (List.mem_filter.mp hv).2
      simp only [kyE, Function.comp_apply, this.1, this.2]
    rw [h2] at h1
    exact nodup_of_map h1
  have sS : (foldK (E.filter (mk2 s sp)) []).Pairwise (· < ·) := foldK_sort _ [] (by rw [List.append_nil]; exact ndk) List.Pairwise.nil
  have rk : ∀ w : EV, rkM s sp M w = (foldK (E.filter (mk2 s sp)) []).countP (fun y => decide (y < w.2.1)) := fun w => by
    rw [pS.countP_eq, List.countP_map, rkM, List.countP_filter]
    refine List.countP_congr fun u _ => ?_
    rw [Bool.and_comm]
    rfl
  generalize hS : foldK (E.filter (mk2 s sp)) [] = S at len pS sS rk
  refine ⟨len, fun j hj => ?_, fun w hw hm => ?_⟩
  · rw [← len] at hj
    have hm : S.getD j 0 ∈ S := by rw [List.getD_eq_getElem?_getD, List.getElem?_eq_getElem hj]; exact List.getElem_mem hj
    obtain ⟨w, hw, e⟩ := List.mem_map.mp (pS.mem_iff.mp hm)
    refine ⟨w, (List.mem_filter.mp hw).1, (List.mem_filter.mp hw).2, ?_, e⟩
    rw [rk, e, rank_sort sS hj]
  · have : w.2.1 ∈ S := pS.mem_iff.mpr (List.mem_map.mpr ⟨w, List.mem_filter.mpr ⟨hw, hm⟩, rfl⟩)
    obtain ⟨j, hj, e⟩ := List.mem_iff_getElem.mp this
    have e' : w.2.1 = S.getD j 0 := by rw [List.getD_eq_getElem?_getD, List.getElem?_eq_getElem hj]; exact e.symm
    have hr : rkM s sp M w = j := by rw [rk, e', rank_sort sS hj]
    rw [hr, ← len]
    exact ⟨hj, e'⟩
theorem pT_perm {φ : EV → Bool} {E M : List EV} (hp : E.Perm M) (p : Nat) : pT φ E p = pT φ M p := by
  rw [Bool.eq_iff_iff]
  unfold pT
  simp only [List.any_eq_true]
  exact ⟨fun ⟨v, hv, z⟩ => ⟨v, hp.mem_iff.mp hv, z⟩, fun ⟨v, hv, z⟩ => ⟨v, hp.mem_iff.mpr hv, z⟩⟩
