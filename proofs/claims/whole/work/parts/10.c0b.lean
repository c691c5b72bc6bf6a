/-! ===== the class: entries, further ===== -/
theorem fresh2 {h : Hp} {q q2 : Nat} {d : va_E} (hq2 : va_up h q (some d) q2 = none) : q ≠ q2 ∧ h q2 = none := by
  have hqq : q ≠ q2 := fun z => by rw [← z, up_s] at hq2; cases hq2
  exact ⟨hqq, by rw [up_n (fun z => hqq z.symm)] at hq2; exact hq2⟩
theorem one_eq (x : Int64) : vp_updL (fun _ => 0) 0 x = fun i => ([x] : List Int64).getD i 0 := by
  funext i
  cases i with
  | zero => simp [vp_updL]
  | succ i => simp [vp_updL]
theorem sp_withOneMore {l : Launch} {K : Kx} {h : Hp} {e : Nat} {v : EV} {x : Int64} {mc ms : Nat} (htr : l.stackTraces = false) (E : EntAt K h e v) (he : eK K h) (hL : v.2.2.2.1.length < 1000) (hm : 2 ≤ mc) (hs : v.2.2.2.1.length + 7 ≤ ms) : mX0_withOneMore l K mc ms [.ref e, .long x] h (kQ (Mk K h (v.1, v.2.1, v.2.2.1, v.2.2.2.1 ++ [x], [], nI 0))) := by
  obtain ⟨nu, me, h1, h2, h3, nf⟩ := E
  obtain ⟨he, hEf, hF⟩ := he
  refine fX0_withOneMore htr ⟨by omega, by omega, ?_⟩
  rintro q h2' hq hb rfl
  have e1 : va_up h q (some (xO 0 [.int 0, .long 0, .int 0, .null, .null, .int 0])) e = some (en v nu me) := by rw [up_n (ne_fresh h1 hq)]; exact h1
  have e2 : va_up h q (some (xO 0 [.int 0, .long 0, .int 0, .null, .null, .int 0])) nu = some (jl K v.2.2.2.1) := by rw [up_n (ne_fresh h2 hq)]; exact h2
  refine ⟨nu, gf_of e1, nu, gf_of e1, _, alen_jl e2, 1, v.2.2.2.1.length + 1, by omega, by omega, ?_⟩
  refine (sp_inserted htr e2 (Nat.le_refl _) hL (Nat.le_refl _) (Nat.le_refl _)).Q ?_
  rintro o h4 ⟨q2, rfl, hq2, hr, hx⟩
  obtain ⟨hqq, hq2h⟩ := fresh2 hq2
  refine ⟨by omega, by omega, ?_⟩
  refine (sp_init_ htr (hx _ _ (up_s _ _ _)) rfl (ne_fresh h1 hq) (hx _ _ e1)).V ?_
  rintro h5 rfl
  have hxx : Ext h h4 := (Ext.rf.up hq).tr hx
  refine ⟨⟨by omega, by omega⟩, kQ_ref ⟨q, rfl, hq, ⟨q2, K.2.2.2, ?_, ?_, ?_, hF.n hq, hF.n hq2h, hEf⟩, hxx.up hq⟩⟩
  · rw [up_s]
  · rw [up_n (fun z => hqq z.symm), hr, List.insertIdx_length_self]
  · rw [up_n (ne_fresh he hq)]; exact hxx _ _ he
theorem sp_withMember {l : Launch} {K : Kx} {h : Hp} {e i : Nat} {v : EV} {x y : Int64} {mc ms : Nat} (htr : l.stackTraces = false) (E : EntAt K h e v) (hF : oF K h) (hl : v.2.2.2.1.length = v.2.2.2.2.1.length) (hi : i ≤ v.2.2.2.2.1.length) (hL : v.2.2.2.2.1.length < 1000) (hm : 3 ≤ mc) (hs : 2 * v.2.2.2.2.1.length + 8 ≤ ms) : mX0_withMember l K mc ms [.ref e, .int (nI i), .long x, .long y] h (kQ (Mk K h (v.1, v.2.1, v.2.2.1, v.2.2.2.1.insertIdx i y, v.2.2.2.2.1.insertIdx i x, nI 0))) := by
  obtain ⟨nu, me, h1, h2, h3, nf⟩ := E
  refine fX0_withMember htr ⟨by omega, by omega, ?_⟩
  rintro q h2' hq hb rfl
  have e1 : va_up h q (some (xO 0 [.int 0, .long 0, .int 0, .null, .null, .int 0])) e = some (en v nu me) := by rw [up_n (ne_fresh h1 hq)]; exact h1
  have e2 : va_up h q (some (xO 0 [.int 0, .long 0, .int 0, .null, .null, .int 0])) nu = some (jl K v.2.2.2.1) := by rw [up_n (ne_fresh h2 hq)]; exact h2
  have e3 : va_up h q (some (xO 0 [.int 0, .long 0, .int 0, .null, .null, .int 0])) me = some (jl K v.2.2.2.2.1) := by rw [up_n (ne_fresh h3 hq)]; exact h3
  refine ⟨nu, gf_of e1, 1, v.2.2.2.1.length + 1, by omega, by omega, ?_⟩
  refine (sp_inserted htr e2 (by omega) (by omega) (Nat.le_refl _) (Nat.le_refl _)).Q ?_
  rintro o h4 ⟨q2, rfl, hq2, hr, hx⟩
  obtain ⟨hqq, hq2h⟩ := fresh2 hq2
  refine ⟨me, gf_of (hx _ _ e1), 1, v.2.2.2.2.1.length + 1, by omega, by omega, ?_⟩
  refine (sp_inserted htr (hx _ _ e3) hi hL (Nat.le_refl _) (Nat.le_refl _)).Q ?_
  rintro o h5 ⟨q3, rfl, hq3, hr3, hx3⟩
  have hq3q : q3 ≠ q := fun z => by rw [z, hx _ _ (up_s _ _ _)] at hq3; cases hq3
  refine ⟨by omega, by omega, ?_⟩
  refine (sp_init_ htr (hx3 _ _ (hx _ _ (up_s _ _ _))) rfl (ne_fresh h1 hq) (hx3 _ _ (hx _ _ e1))).V ?_
  rintro h6 rfl
  have hxx : Ext h h5 := ((Ext.rf.up hq).tr hx).tr hx3
  refine ⟨⟨by omega, by omega⟩, kQ_ref ⟨q, rfl, hq, ⟨q2, q3, ?_, ?_, ?_, hF.n hq, hF.n hq2h, (hF.ext ((Ext.rf.up hq).tr hx)).n hq3⟩, hxx.up hq⟩⟩
  · rw [up_s]
  · rw [up_n (fun z => hqq z.symm)]; exact hx3 _ _ hr
  · rw [up_n hq3q]; exact hr3
theorem sp_withoutMember {l : Launch} {K : Kx} {h : Hp} {e i : Nat} {v : EV} {mc ms : Nat} (htr : l.stackTraces = false) (E : EntAt K h e v) (hF : oF K h) (hl : v.2.2.2.1.length = v.2.2.2.2.1.length) (hi : i < v.2.2.2.2.1.length) (hL : v.2.2.2.2.1.length < 1000) (hm : 3 ≤ mc) (hs : 2 * v.2.2.2.2.1.length + 8 ≤ ms) : mX0_withoutMember l K mc ms [.ref e, .int (nI i)] h (kQ (Mk K h (v.1, v.2.1, v.2.2.1, v.2.2.2.1.eraseIdx i, v.2.2.2.2.1.eraseIdx i, nI 0))) := by
  obtain ⟨nu, me, h1, h2, h3, nf⟩ := E
  refine fX0_withoutMember htr ⟨by omega, by omega, ?_⟩
  rintro q h2' hq hb rfl
  have e1 : va_up h q (some (xO 0 [.int 0, .long 0, .int 0, .null, .null, .int 0])) e = some (en v nu me) := by rw [up_n (ne_fresh h1 hq)]; exact h1
  have e2 : va_up h q (some (xO 0 [.int 0, .long 0, .int 0, .null, .null, .int 0])) nu = some (jl K v.2.2.2.1) := by rw [up_n (ne_fresh h2 hq)]; exact h2
  have e3 : va_up h q (some (xO 0 [.int 0, .long 0, .int 0, .null, .null, .int 0])) me = some (jl K v.2.2.2.2.1) := by rw [up_n (ne_fresh h3 hq)]; exact h3
  refine ⟨nu, gf_of e1, 1, v.2.2.2.1.length, by omega, by omega, ?_⟩
  refine (sp_without htr e2 (by omega) (by omega) (Nat.le_refl _) (Nat.le_refl _)).Q ?_
  rintro o h4 ⟨q2, rfl, hq2, hr, hx⟩
  obtain ⟨hqq, hq2h⟩ := fresh2 hq2
  refine ⟨me, gf_of (hx _ _ e1), 1, v.2.2.2.2.1.length, by omega, by omega, ?_⟩
  refine (sp_without htr (hx _ _ e3) hi hL (Nat.le_refl _) (Nat.le_refl _)).Q ?_
  rintro o h5 ⟨q3, rfl, hq3, hr3, hx3⟩
  have hq3q : q3 ≠ q := fun z => by rw [z, hx _ _ (up_s _ _ _)] at hq3; cases hq3
  refine ⟨by omega, by omega, ?_⟩
  refine (sp_init_ htr (hx3 _ _ (hx _ _ (up_s _ _ _))) rfl (ne_fresh h1 hq) (hx3 _ _ (hx _ _ e1))).V ?_
  rintro h6 rfl
  have hxx : Ext h h5 := ((Ext.rf.up hq).tr hx).tr hx3
  refine ⟨⟨by omega, by omega⟩, kQ_ref ⟨q, rfl, hq, ⟨q2, q3, ?_, ?_, ?_, hF.n hq, hF.n hq2h, (hF.ext ((Ext.rf.up hq).tr hx)).n hq3⟩, hxx.up hq⟩⟩
  · rw [up_s]
  · rw [up_n (fun z => hqq z.symm)]; exact hx3 _ _ hr
  · rw [up_n hq3q]; exact hr3
theorem sp_copyOf {l : Launch} {K : Kx} {h : Hp} {a n : Nat} {f : Nat → Int64} {mc ms : Nat} (htr : l.stackTraces = false) (ha : h a = some (xJ K n f)) (hn : 0 < n) (hm : 1 ≤ mc) (hs : n ≤ ms) : mJ7_copyOf_c38d5 l K mc ms [.ref a, .int (nI n)] h (kQ fun o h' => ∃ q, o = some q ∧ h q = none ∧ kB K ≤ q ∧ h' = va_up h q (some (xJ K n f))) := by
  refine fJ7_copyOf_c38d5 htr ⟨nI n, by simp [alen, ha], fun h => absurd rfl h, fun _ => ⟨n, f, ha, hn, by omega, by omega, ?_⟩⟩
  rintro q h2 hq hb rfl
  exact ⟨n, f, up_s _ _ _, hn, ⟨by omega, by omega⟩, kQ_ref ⟨q, rfl, hq, hb, rfl⟩⟩
theorem set_eq (L : List Int64) (i : Nat) (hi : i < L.length) (x : Int64) : vp_updL (fun j => L.getD j 0) i x = fun j => (L.set i x).getD j 0 := by
  funext j
  simp only [vp_updL, List.getD_eq_getElem?_getD, List.getElem?_set]
  by_cases h : j = i
  · subst h; simp [hi]
  · simp [h, Ne.symm h]
theorem sp_withNumberAt {l : Launch} {K : Kx} {h : Hp} {e i : Nat} {v : EV} {x : Int64} {mc ms : Nat} (htr : l.stackTraces = false) (E : EntAt K h e v) (hF : oF K h) (hi : i < v.2.2.2.1.length) (hL : v.2.2.2.1.length < 1000) (hm : 2 ≤ mc) (hs : v.2.2.2.1.length + 6 ≤ ms) : mX0_withNumberAt l K mc ms [.ref e, .int (nI i), .long x] h (kQ (Mk K h (v.1, v.2.1, v.2.2.1, v.2.2.2.1.set i x, v.2.2.2.2.1, nI 0))) := by
  obtain ⟨nu, me, h1, h2, h3, nf⟩ := E
  refine fX0_withNumberAt htr ⟨nu, gf_of h1, nu, gf_of h1, _, alen_jl h2, 1, v.2.2.2.1.length, by omega, by omega, ?_⟩
  refine (sp_copyOf htr h2 (by omega) (Nat.le_refl _) (Nat.le_refl _)).Q ?_
  rintro o h4 ⟨q, rfl, hq, hb, rfl⟩
  refine ⟨q, rfl, _, wJ_x (up_s _ _ _) hi (by omega), by omega, by omega, ?_⟩
  rw [up_up]
  rintro q2 h5 hq2 hb2 rfl
  obtain ⟨hqq, hq2h⟩ := fresh2 hq2
  have e1 : va_up (va_up h q (some (xJ K v.2.2.2.1.length (vp_updL (fun i => v.2.2.2.1.getD i 0) i x)))) q2 (some (xO 0 [.int 0, .long 0, .int 0, .null, .null, .int 0])) e = some (en v nu me) := by rw [up_n (ne_fresh h1 hq2h), up_n (ne_fresh h1 hq)]; exact h1
  refine ⟨me, gf_of e1, by omega, by omega, ?_⟩
  refine (sp_init_ htr (up_s _ _ _) rfl (ne_fresh h1 hq2h) e1).V ?_
  rintro h6 rfl
  rw [up_up]
  refine ⟨⟨by omega, by omega⟩, kQ_ref ⟨q2, rfl, hq2h, ⟨q, me, ?_, ?_, ?_, hF.n hq2h, hF.n hq, nf.2.2⟩, (Ext.rf.up hq).up hq2h⟩⟩
  · rw [up_s]
  · rw [up_n hqq, up_s, set_eq _ _ hi]
    simp only [jl, List.length_set]
  · rw [up_n (ne_fresh h3 hq2h), up_n (ne_fresh h3 hq)]; exact h3
/-- numbers joined into a fold of a type -/
def jn (t : Int32) (a b : Int64) : Int64 := if t = nI 0 then a + b else if t = nI 1 then (if b < a then b else a) else (if b < a then a else b)
theorem sp_joined {l : Launch} {K : Kx} {h : Hp} {t : Int32} {a b : Int64} (htr : l.stackTraces = false) : mX3_joined l K [.int t, .long a, .long b] h (kL fun r h' => r = jn t a b ∧ h' = h) := by
  refine fX3_joined htr ?_
  unfold jn
  refine ⟨fun h0 => ⟨fun h1 => ⟨_, rfl, ?_, rfl⟩, fun h1 => ⟨_, rfl, ?_, rfl⟩⟩, fun h0 => ⟨_, rfl, ?_, rfl⟩⟩
  · simp [h0, h1]
  · simp [h0, h1, nI01]
  · simp [h0]
/-- a number fits a state of a kind and a type -/
def ft (kd ty : Int32) (x : Int64) : Prop := kd = nI 3 ∨ ty = nI 0 ∨ (ty = nI 1 ∧ ¬ x < -lN 1000 ∧ ¬ lN 1000 < x) ∨ (ty ≠ nI 0 ∧ ty ≠ nI 1 ∧ ¬ x < lN 0)
theorem sp_fits {l : Launch} {K : Kx} {h : Hp} {kd ty : Int32} {x : Int64} (htr : l.stackTraces = false) : mX3_fits l K [.int kd, .int ty, .long x] h (kI fun r h' => (∃ d : Decidable (ft kd ty x), r = @bI (ft kd ty x) d) ∧ h' = h) := by
  refine fX3_fits htr ?_
  have d : Decidable (ft kd ty x) := Classical.propDecidable _
  have T : ft kd ty x → kI (fun r h' => (∃ d : Decidable (ft kd ty x), r = @bI (ft kd ty x) d) ∧ h' = h) (.inl (some (.int (nI 1)))) h := fun q => ⟨_, rfl, ⟨d, (bI_t q).symm⟩, rfl⟩
  have N : ¬ ft kd ty x → kI (fun r h' => (∃ d : Decidable (ft kd ty x), r = @bI (ft kd ty x) d) ∧ h' = h) (.inl (some (.int (nI 0)))) h := fun q => ⟨_, rfl, ⟨d, (bI_f q).symm⟩, rfl⟩
  have n1 : nI 0 ≠ nI 1 := fun h => nI01 h.symm
  refine ⟨fun h0 => T (Or.inl h0), fun h0 => ⟨fun h1 => ⟨fun h2 => ⟨fun h3 => N ?_, fun h3 => T (Or.inr (Or.inr (Or.inr ⟨h1, h2, h3⟩)))⟩, fun h2 => ⟨fun h3 => N ?_, fun h3 => ⟨fun h4 => N ?_, fun h4 => T (Or.inr (Or.inr (Or.inl ⟨h2, h3, h4⟩)))⟩⟩⟩, fun h1 => T (Or.inr (Or.inl h1))⟩⟩
  all_goals (unfold ft; grind)

theorem sp_placeOf {l : Launch} {K : Kx} {h : Hp} {e : Nat} {v : EV} {x : Int64} (htr : l.stackTraces = false) (E : EntAt K h e v) (hL : v.2.2.2.2.1.length < 1000) : mX0_placeOf l K [.ref e, .long x] h (kI fun r h' => (∃ j, r = nI j ∧ cbR (fun i => v.2.2.2.2.1.getD i 0) v.2.2.2.2.1.length x j) ∧ h' = h) := by
  obtain ⟨nu, me, h1, h2, h3, nf⟩ := E
  refine fX0_placeOf htr ⟨me, gf_of h1, me, gf_of h1, _, alen_jl h3, ?_⟩
  refine (sp_countBelow htr h3 (Nat.le_refl _) (by omega)).I ?_
  rintro r h' ⟨hr, rfl⟩
  exact ⟨_, rfl, hr, rfl⟩
theorem sp_hasMember {l : Launch} {K : Kx} {h : Hp} {e j : Nat} {v : EV} {x : Int64} (htr : l.stackTraces = false) (E : EntAt K h e v) (hL : v.2.2.2.2.1.length < 1000) (hj : j < 2 ^ 31) : mX0_hasMember l K [.ref e, .int (nI j), .long x] h (kI fun r h' => r = bI (j < v.2.2.2.2.1.length ∧ v.2.2.2.2.1.getD j 0 = x) ∧ h' = h) := by
  obtain ⟨nu, me, h1, h2, h3, nf⟩ := E
  refine fX0_hasMember htr ⟨me, gf_of h1, _, alen_jl h3, fun c => ⟨_, rfl, ?_, rfl⟩, fun c => ?_⟩
  · have : ¬ j < v.2.2.2.2.1.length := fun z => nI_ge z (by omega) c
    exact (bI_f (fun z => this z.1)).symm
  · have hjl : j < v.2.2.2.2.1.length := Nat.lt_of_not_le fun z => c (nI_le z (by omega))
    refine ⟨me, gf_of h1, _, aJ_jl h3 hjl (by omega), fun d => ⟨_, rfl, (bI_f (fun z => d z.2)).symm, rfl⟩, fun d => ⟨_, rfl, (bI_t ⟨hjl, d⟩).symm, rfl⟩⟩
theorem sp_withFolded {l : Launch} {K : Kx} {h : Hp} {e : Nat} {v : EV} {t : Int32} {x : Int64} {mc ms : Nat} (htr : l.stackTraces = false) (E : EntAt K h e v) (he : eK K h) (hL : v.2.2.2.1.length < 1000) (hm : 2 ≤ mc) (hs : 7 ≤ ms) :
    mX0_withFolded l K mc ms [.ref e, .int t, .long x] h (kQ (Mk K h (v.1, v.2.1, v.2.2.1, [if v.2.2.2.1 = [] then x else jn t (v.2.2.2.1.getD 0 0) x], [], v.2.2.2.2.2 + nI 1))) := by
  have E' := E
  obtain ⟨nu, me, h1, h2, h3, nf⟩ := E
  obtain ⟨he, hEf, hF⟩ := he
  refine fX0_withFolded htr ⟨⟨_, h1⟩, by omega, by omega, ?_⟩
  refine (sp_isNone htr E' (by omega)).I ?_
  rintro r h' ⟨rfl, rfl⟩
  have tail : ∀ (z : Int64), z = (if v.2.2.2.1 = [] then x else jn t (v.2.2.2.1.getD 0 0) x) → ∀ (a b : Nat), a ≤ 0 → b ≤ 0 → (a + 1 ≤ mc ∧ b + 6 ≤ ms ∧ ∀ (q_7 : Nat) (h_8 : Hp), h' q_7 = none → kB K ≤ q_7 → h_8 = va_up h' q_7 (some (xO 0 [.int 0, .long 0, .int 0, .null, .null, .int 0])) → (∃ N_11, nI 1 = nI N_11 ∧ N_11 ≤ 60000000 ∧ (a + 1) + 1 ≤ mc ∧ (b + 6) + N_11 ≤ ms ∧ ∀ (q_9 : Nat) (h_10 : Hp), h_8 q_9 = none → kB K ≤ q_9 → h_10 = va_up h_8 q_9 (some (xJ K N_11 (fun _ => 0))) → (∃ h_12, wJ K h_10 q_9 (nI 0) z = some h_12 ∧ (∃ v_13, gf h_12 e 0 5 = some (.int v_13) ∧ (((a + 1) + 1) + 0 ≤ mc ∧ ((b + 6) + N_11) + 0 ≤ ms ∧ mX0_init_ l K [.ref q_7, .ref e, .ref q_9, .ref K.2.2.2, .int (v_13 + (nI 1))] h_12 (kV (fun h_14 => (((((a + 1) + 1) + 0) ≤ mc ∧ (((b + 6) + N_11) + 0) ≤ ms) ∧ kQ (Mk K h' (v.1, v.2.1, v.2.2.1, [if v.2.2.2.1 = [] then x else jn t (v.2.2.2.1.getD 0 0) x], [], v.2.2.2.2.2 + nI 1)) (.inl (some (.ref q_7))) h_14)))))))) := by
    intro z hz a b ha hb
    refine ⟨by omega, by omega, ?_⟩
    rintro q h2' hq hb' rfl
    refine ⟨1, rfl, by decide, by omega, by omega, ?_⟩
    rintro q2 h3' hq2 hb2 rfl
    obtain ⟨hqq, hq2h⟩ := fresh2 hq2
    refine ⟨_, wJ_x (j := 0) (up_s _ _ _) (by decide) (by decide), ?_⟩
    rw [up_up]
    have e1 : va_up (va_up h' q (some (xO 0 [.int 0, .long 0, .int 0, .null, .null, .int 0]))) q2 (some (xJ K 1 (vp_updL (fun _ => 0) 0 z))) e = some (en v nu me) := by rw [up_n (ne_fresh h1 hq2h), up_n (ne_fresh h1 hq)]; exact h1
    refine ⟨v.2.2.2.2.2, gf_of e1, by omega, by omega, ?_⟩
    refine (sp_init_ htr (by rw [up_n hqq, up_s]) rfl (ne_fresh h1 hq) e1).V ?_
    rintro h5 rfl
    refine ⟨⟨by omega, by omega⟩, kQ_ref ⟨q, rfl, hq, ⟨q2, K.2.2.2, ?_, ?_, ?_, hF.n hq, hF.n hq2h, hEf⟩, ?_⟩⟩
    · rw [up_s]
    · rw [up_n (fun z => hqq z.symm), up_s, one_eq, hz]; rfl
    · rw [up_n (ne_fresh he hq), up_n (ne_fresh he hq2h), up_n (ne_fresh he hq)]; exact he
    · exact ((Ext.rf.up hq).up hq2h).up hq
  refine ⟨fun c => ?_, fun c => tail x ?_ _ _ (by omega) (by omega)⟩
  · have hne : ¬ v.2.2.2.1 = [] := bI_0.mp c
    have hpos : 0 < v.2.2.2.1.length := List.length_pos_iff.mpr hne
    refine ⟨nu, gf_of h1, _, aJ_jl (j := 0) h2 hpos (by omega), by omega, by omega, ?_⟩
    refine (sp_joined htr).L ?_
    rintro z h'' ⟨rfl, rfl⟩
    exact tail _ (by rw [if_neg hne]) _ _ (by omega) (by omega)
  · have hne : v.2.2.2.1 = [] := Classical.byContradiction fun z => c (bI_0.mpr z)
    rw [if_pos hne]
/-- all numbers joined -/
def jns (t : Int32) : List Int64 → Int64
  | [] => 0
  | a :: L => L.foldl (jn t) a
theorem foldl_getD (t : Int32) (a : Int64) (L : List Int64) (j : Nat) (hj : j < L.length) : (L.take (j + 1)).foldl (jn t) a = jn t ((L.take j).foldl (jn t) a) (L.getD j 0) := by
  rw [List.take_add_one, List.foldl_append]
  simp [hj]
theorem sp_foldedUp {l : Launch} {K : Kx} {h : Hp} {e : Nat} {v : EV} {t : Int32} {mc ms : Nat} (htr : l.stackTraces = false) (E : EntAt K h e v) (he : eK K h) (hne : v.2.2.2.1 ≠ []) (hL : v.2.2.2.1.length < 1000) (hm : 2 ≤ mc) (hs : 7 ≤ ms) :
    mX0_foldedUp l K mc ms [.ref e, .int t] h (kQ (Mk K h (v.1, v.2.1, v.2.2.1, [jns t v.2.2.2.1], [], nI v.2.2.2.1.length))) := by
  have E' := E
  obtain ⟨nu, me, h1, h2, h3, nf⟩ := E
  have hpos : 0 < v.2.2.2.1.length := List.length_pos_iff.mpr hne
  obtain ⟨he, hEf, hF⟩ := he
  refine fX0_foldedUp htr ⟨⟨_, h1⟩, by omega, by omega, ?_⟩
  refine (sp_isNone htr E' (by omega)).I ?_
  rintro r h' ⟨rfl, rfl⟩
  refine ⟨fun c => ?_, fun c => absurd (bI_0.mpr hne) c⟩
  refine ⟨nu, gf_of h1, _, aJ_jl (j := 0) h2 hpos (by omega), ?_⟩
  intro X hX
  obtain ⟨a, L, hv⟩ : ∃ a L, v.2.2.2.1 = a :: L := by
    cases hq : v.2.2.2.1 with
    | nil => exact absurd hq hne
    | cons a L => exact ⟨a, L, rfl⟩
  have hlen : v.2.2.2.1.length = L.length + 1 := by rw [hv]; rfl
  have key : ∀ d j, d = L.length - j → j ≤ L.length → X ((L.take j).foldl (jn t) a) (nI (j + 1)) h' 0 0 := by
    intro d
    induction d with
    | zero =>
      intro j hd hj
      refine hX _ _ _ _ _ ⟨nu, gf_of h1, _, alen_jl h2, fun c => ?_, fun c => absurd (nI_le (by omega) (by omega)) c⟩
      refine ⟨by omega, by omega, ?_⟩
      rintro q h2' hq hb' rfl
      refine ⟨1, rfl, by decide, by omega, by omega, ?_⟩
      rintro q2 h3' hq2 hb2 rfl
      obtain ⟨hqq, hq2h⟩ := fresh2 hq2
      refine ⟨_, wJ_x (j := 0) (up_s _ _ _) (by decide) (by decide), ?_⟩
      rw [up_up]
      have e1 : ∀ w, va_up (va_up h' q (some (xO 0 [.int 0, .long 0, .int 0, .null, .null, .int 0]))) q2 w e = some (en v nu me) := fun w => by rw [up_n (ne_fresh h1 hq2h), up_n (ne_fresh h1 hq)]; exact h1
      have e2 : ∀ w, va_up (va_up h' q (some (xO 0 [.int 0, .long 0, .int 0, .null, .null, .int 0]))) q2 w nu = some (jl K v.2.2.2.1) := fun w => by rw [up_n (ne_fresh h2 hq2h), up_n (ne_fresh h2 hq)]; exact h2
      refine ⟨nu, gf_of (e1 _), _, alen_jl (e2 _), by omega, by omega, ?_⟩
      refine (sp_init_ htr (by rw [up_n hqq, up_s]) rfl (ne_fresh h1 hq) (e1 _)).V ?_
      rintro h5 rfl
      refine ⟨⟨by omega, by omega⟩, kQ_ref ⟨q, rfl, hq, ⟨q2, K.2.2.2, ?_, ?_, ?_, hF.n hq, hF.n hq2h, hEf⟩, ?_⟩⟩
      · rw [up_s]
      · rw [up_n (fun z => hqq z.symm), up_s, one_eq]
        have : j = L.length := by omega
        simp only [hv, jns, this, List.take_length]
        rfl
      · rw [up_n (ne_fresh he hq), up_n (ne_fresh he hq2h), up_n (ne_fresh he hq)]; exact he
      · exact ((Ext.rf.up hq).up hq2h).up hq
    | succ d ih =>
      intro j hd hj
      have hjl : j < L.length := by omega
      refine hX _ _ _ _ _ ⟨nu, gf_of h1, _, alen_jl h2, fun c => absurd c (nI_ge (by omega) (by omega)), fun c => ⟨nu, gf_of h1, _, aJ_jl h2 (by omega) (by omega), by omega, by omega, ?_⟩⟩
      refine (sp_joined htr).L ?_
      rintro z h'' ⟨rfl, rfl⟩
      have := ih (j + 1) (by omega) (by omega)
      rw [foldl_getD t a L j hjl] at this
      rw [nI_sub1]
      have e5 : v.2.2.2.1.getD (j + 1) 0 = L.getD j 0 := by rw [hv]; simp
      rw [e5]
      exact this
  have := key _ 0 rfl (Nat.zero_le _)
  simp only [List.take_zero, List.foldl_nil] at this
  have e6 : v.2.2.2.1.getD 0 0 = a := by rw [hv]; rfl
  rw [e6]
  exact this

theorem sp_allFit {l : Launch} {K : Kx} {h : Hp} {e : Nat} {v : EV} {kd ty : Int32} (htr : l.stackTraces = false) (E : EntAt K h e v) (hL : v.2.2.2.1.length < 1000) : mX0_allFit l K [.ref e, .int kd, .int ty] h (kI fun r h' => (∃ d : Decidable (∀ x ∈ v.2.2.2.1, ft kd ty x), r = @bI _ d) ∧ h' = h) := by
  obtain ⟨nu, me, h1, h2, h3, nf⟩ := E
  refine fX0_allFit htr ?_
  intro X hX
  have dd : Decidable (∀ x ∈ v.2.2.2.1, ft kd ty x) := Classical.propDecidable _
  have key : ∀ d j, d = v.2.2.2.1.length - j → j ≤ v.2.2.2.1.length → (∀ i, i < j → ft kd ty (v.2.2.2.1.getD i 0)) → X (nI j) h := by
    intro d
    induction d with
    | zero =>
      intro j hd hj hf
      refine hX _ _ ⟨nu, gf_of h1, _, alen_jl h2, fun c => ⟨_, rfl, ⟨dd, (bI_t ?_).symm⟩, rfl⟩, fun c => absurd (nI_le (by omega) (by omega)) c⟩
      intro x hx
      obtain ⟨i, hi, rfl⟩ := List.mem_iff_getElem.mp hx
      have := hf i (by omega)
      simpa [hi] using this
    | succ d ih =>
      intro j hd hj hf
      refine hX _ _ ⟨nu, gf_of h1, _, alen_jl h2, fun c => absurd c (nI_ge (by omega) (by omega)), fun c => ⟨nu, gf_of h1, _, aJ_jl h2 (by omega) (by omega), ?_⟩⟩
      refine (sp_fits htr).I ?_
      rintro r h' ⟨⟨d9, rfl⟩, rfl⟩
      refine ⟨fun c => ?_, fun c => ⟨_, rfl, ⟨dd, (bI_f ?_).symm⟩, rfl⟩⟩
      · rw [nI_sub1]
        refine ih (j + 1) (by omega) (by omega) ?_
        intro i hi
        rcases Nat.lt_succ_iff_lt_or_eq.mp hi with q | rfl
        · exact hf i q
        · exact Classical.byContradiction fun z => c (bI_0.mpr z)
      · intro z
        refine bI_0.mp c (z _ ?_)
        have hjl : j < v.2.2.2.1.length := by omega
        simp [hjl]
  exact key _ 0 rfl (Nat.zero_le _) (fun i hi => absurd hi (Nat.not_lt_zero i))
/-- what an entry's value becomes when it is moved -/
def mvE (kd ty : Int32) (v : EV) : EV := if kd = nI 3 then (v.1, v.2.1, v.2.2.1, [jns ty v.2.2.2.1], [], nI v.2.2.2.1.length) else if kd = nI 2 then v else (v.1, v.2.1, v.2.2.1, v.2.2.2.1, [], nI 0)
theorem sp_movedTo {l : Launch} {K : Kx} {h : Hp} {e : Nat} {v : EV} {kd ty : Int32} {mc ms : Nat} (htr : l.stackTraces = false) (E : EntAt K h e v) (he : eK K h) (hne : v.2.2.2.1 ≠ []) (hL : v.2.2.2.1.length < 1000) (hM : v.2.2.2.2.1.length < 1000) (hm : 2 ≤ mc) (hs : 7 ≤ ms) :
    mX0_movedTo l K mc ms [.ref e, .int kd, .int ty] h (kQ fun o h' => ∃ q, o = some q ∧ EntAt K h' q (mvE kd ty v) ∧ Ext h h') := by
  have E' := E
  have he' := he
  obtain ⟨he, hEf, hF⟩ := he
  obtain ⟨nu, me, h1, h2, h3, nf⟩ := E
  have mk : kd ≠ nI 3 → kd ≠ nI 2 → ∀ (a b : Nat), a ≤ 0 → b ≤ 0 → (a + 1 ≤ mc ∧ b + 6 ≤ ms ∧ ∀ (q_3 : Nat) (h_4 : Hp), h q_3 = none → kB K ≤ q_3 → h_4 = va_up h q_3 (some (xO 0 [.int 0, .long 0, .int 0, .null, .null, .int 0])) → (∃ p_5, gf h_4 e 0 3 = some (.ref p_5) ∧ ((a + 1) + 0 ≤ mc ∧ (b + 6) + 0 ≤ ms ∧ mX0_init_ l K [.ref q_3, .ref e, .ref p_5, .ref K.2.2.2, .int (nI 0)] h_4 (kV (fun h_6 => ((((a + 1) + 0) ≤ mc ∧ ((b + 6) + 0) ≤ ms) ∧ kQ (fun o h' => ∃ q, o = some q ∧ EntAt K h' q (mvE kd ty v) ∧ Ext h h') (.inl (some (.ref q_3))) h_6)))))) := by
    intro c3 c2 a b ha hb
    refine ⟨by omega, by omega, ?_⟩
    rintro q h2' hq hb' rfl
    have e1 : va_up h q (some (xO 0 [.int 0, .long 0, .int 0, .null, .null, .int 0])) e = some (en v nu me) := by rw [up_n (ne_fresh h1 hq)]; exact h1
    refine ⟨nu, gf_of e1, by omega, by omega, ?_⟩
    refine (sp_init_ htr (up_s _ _ _) rfl (ne_fresh h1 hq) e1).V ?_
    rintro h5 rfl
    rw [up_up]
    refine ⟨⟨by omega, by omega⟩, kQ_ref ⟨q, rfl, ⟨nu, K.2.2.2, ?_, ?_, ?_, hF.n hq, nf.2.1, hEf⟩, Ext.rf.up hq⟩⟩
    · rw [up_s]; simp [mvE, c3, c2]
    · rw [up_n (ne_fresh h2 hq)]; simp only [mvE, c3, c2, if_false]; exact h2
    · rw [up_n (ne_fresh he hq)]; simp only [mvE, c3, c2, if_false]; exact he
  refine fX0_movedTo htr ⟨fun c3 => ⟨fun c2 => ⟨⟨by omega, by omega⟩, kQ_ref ⟨e, rfl, ?_, Ext.rf⟩⟩, fun c2 => ⟨me, gf_of h1, _, alen_jl h3, fun c => mk c3 c2 _ _ (by omega) (by omega), fun c => ⟨_, gf_of h1, fun c' => mk c3 c2 _ _ (by omega) (by omega), fun c' => ⟨⟨by omega, by omega⟩, kQ_ref ⟨e, rfl, ?_, Ext.rf⟩⟩⟩⟩⟩, fun c3 => ⟨⟨_, h1⟩, 2, 7, by omega, by omega, ?_⟩⟩
  · simp only [mvE, c2, if_true]
    rw [if_neg (by decide)]
    exact E'
  · have hm0 : v.2.2.2.2.1 = [] := List.length_eq_zero_iff.mp ((nI_eq (by omega) (by decide)).mp c)
    have : mvE kd ty v = v := by
      obtain ⟨s, k, p, N, M, F⟩ := v
      simp only at hm0 c'
      simp [mvE, c3, c2, hm0, c']
    rw [this]
    exact E'
  · refine (sp_foldedUp htr E' he' hne hL (Nat.le_refl _) (Nat.le_refl _)).Q ?_
    rintro o h' ⟨q, rfl, hq, hE, hx⟩
    refine ⟨⟨by omega, by omega⟩, _, rfl, q, rfl, ?_, hx⟩
    simp only [mvE, c3, if_true]
    exact hE
