/-! ===== the reference: calls of the entry at hand ===== -/
theorem ref22s {I : MI} {e : Nat} : refI I 0 (some e) 22 0 = nI e := by rw [refI, setI_f, upd_s]; rfl
theorem ref22n {I : MI} : refI I 0 none 22 0 = -nI 1 := by rw [refI, setI_f, upd_s]; rfl
theorem ref00 {I : MI} {c : Nat} {o : Option Nat} : refI I c o 0 0 = nI c := by rw [refI, setI_n (by decide), setI_f, upd_s]
theorem refN {I : MI} {c g : Nat} {o : Option Nat} (h0 : g ≠ 0) (h22 : g ≠ 22) : refI I c o g = I g := by rw [refI, setI_n h22, setI_n h0]
/-- the reference's state as it may be: sm states, n entries now -/
def MV (I : MI) (L : ML) (sm n : Nat) : Prop := I 1 0 = nI sm ∧ sm ≤ 8 ∧ I 6 0 = nI n ∧ n ≤ 150 ∧ (∀ j, j < n → eOk I 0 sm j) ∧ ((mLst I L 0 n).map kyE).Nodup ∧ PB I ∧ ∀ i, i < sm → ∃ k, k < 4 ∧ I 3 i = nI k
/-- only the entries of now have changed -/
def NF (I : MI) (L : ML) (I' : MI) (L' : ML) : Prop := (∀ g, g ≠ 0 → g ≠ 6 → g ≠ 7 → g ≠ 9 → g ≠ 10 → g ≠ 13 → g ≠ 17 → g ≠ 18 → g ≠ 22 → I' g = I g) ∧ L' 20 = L 20 ∧ (∀ c, c ≠ 0 → I' 6 c = I 6 c) ∧ ∀ e, 150 ≤ e → sameE I L I' L' e
def MSt (I : MI) (L : ML) (sm n : Nat) (u : Option EV) (I' : MI) (L' : ML) : Prop :=
  ∃ n', I' 6 0 = nI n' ∧ n' ≤ 150 ∧ NF I L I' L' ∧ (∀ j, j < n' → eOk I' 0 sm j) ∧ ((mLst I' L' 0 n').map kyE).Nodup ∧
    ((u = none ∧ n' = n ∧ mLst I' L' 0 n' = mLst I L 0 n ∧ PgM (fun _ => false) I I') ∨ ∃ v, u = some v ∧ PgM (fun p => decide (p = pgI v.1 v.2.1 v.2.2.1)) I I' ∧ (mLst I' L' 0 n').Perm ((nwE v).toList ++ noE v (mLst I L 0 n)))
theorem sameE.rf {I I' : MI} {L : ML} {e : Nat} (h7 : I' 7 = I 7) (h9 : I' 9 = I 9) (h10 : I' 10 = I 10) : sameE I L I' L e := ⟨by rw [h7], rfl, by rw [h9], by rw [h10], fun _ _ => ⟨rfl, rfl⟩⟩
/-- nothing but what the reference notes has changed -/
theorem MSt.no {I I' : MI} {L : ML} {sm n : Nat} (v : MV I L sm n) (h : ∀ g, g ≠ 0 → g ≠ 22 → I' g = I g) : MSt I L sm n none I' L := by
  obtain ⟨v1, v2, v3, v4, v5, v6, v7, v8⟩ := v
  have e : mLst I' L 0 n = mLst I L 0 n := mLst_same v2 (fun i _ => sameE.rf (h 7 (by decide) (by decide)) (h 9 (by decide) (by decide)) (h 10 (by decide) (by decide))) (fun st _ => by rw [h 3 (by decide) (by decide)]) (fun i hi => by simpa using v5 i hi)
  refine ⟨n, by rw [h 6 (by decide) (by decide)]; exact v3, v4, ⟨fun g g0 _ _ _ _ _ _ _ g22 => h g g0 g22, rfl, fun c _ => by rw [h 6 (by decide) (by decide)], fun e _ => sameE.rf (h 7 (by decide) (by decide)) (h 9 (by decide) (by decide)) (h 10 (by decide) (by decide))⟩, fun j hj => eOk_same (by rw [h 7 (by decide) (by decide)]) (by rw [h 10 (by decide) (by decide)]) (fun st _ => by rw [h 3 (by decide) (by decide)]) (v5 j hj), by rw [e]; exact v6, Or.inl ⟨rfl, rfl, e, PgM.rf (h 13 (by decide) (by decide)) (by rw [h 17 (by decide) (by decide)]) (by rw [h 18 (by decide) (by decide)])⟩⟩
theorem PgM.one {I I1 I' : MI} {p : Nat} (pb : PB I) (hp : p < 16) (h : ∀ g, g = 13 ∨ g = 14 ∨ g = 17 ∨ g = 18 → I1 g = I g) (h13 : I' 13 = tch I1 p 13) (h17 : I' 17 0 = tch I1 p 17 0) (h18 : I' 18 0 = tch I1 p 18 0) : PgM (fun p' => decide (p' = p)) I I' := by
  have := (PgM.rf (I := I) (I' := I1) (h 13 (by simp)) (by rw [h 17 (by simp)]) (by rw [h 18 (by simp)])).step pb (h 14 (by simp)) hp h13 h17 h18
  simpa using this
/-- an entry that was there is another one -/
theorem MSt.set {I I' : MI} {L L' : ML} {sm n e : Nat} {w : EV} (v : MV I L sm n) (he : e < n) (hf : ∀ g, g ≠ 0 → g ≠ 10 → g ≠ 13 → g ≠ 17 → g ≠ 18 → g ≠ 22 → I' g = I g) (h8 : L' 8 = L 8) (h20 : L' 20 = L 20) (hs : ∀ e', e' ≠ e → I' 10 e' = I 10 e' ∧ ∀ i, i < 10 → L' 11 (10 * e' + i) = L 11 (10 * e' + i) ∧ L' 12 (10 * e' + i) = L 12 (10 * e' + i))
    (hp : PgM (fun p => decide (p = pgI (I 7 e) (L 8 e) (I 9 e))) I I') (ok : eOk I' 0 sm e) (hw : mEv I' L' 0 e = w) (hne : w.2.2.2.1 ≠ []) : MSt I L sm n (some w) I' L' := by
  obtain ⟨v1, v2, v3, v4, v5, v6, v7, v8⟩ := v
  have f7 := hf 7 (by decide) (by decide) (by decide) (by decide) (by decide) (by decide)
  have f9 := hf 9 (by decide) (by decide) (by decide) (by decide) (by decide) (by decide)
  have f6 := hf 6 (by decide) (by decide) (by decide) (by decide) (by decide) (by decide)
  have f3 := hf 3 (by decide) (by decide) (by decide) (by decide) (by decide) (by decide)
  have same : ∀ e', e' ≠ e → sameE I L I' L' e' := fun e' n => ⟨by rw [f7], by rw [h8], by rw [f9], (hs e' n).1, (hs e' n).2⟩
  have hl : mLst I' L' 0 n = (mLst I L 0 n).set e w := by rw [mLst_set v2 he (fun j _ n => same j n) (fun st _ => by rw [f3]) v5, hw]
  have hg : (mLst I L 0 n)[e]? = some (mEv I L 0 e) := by rw [mLst_get he]; simp
  have hk : kyE (mEv I L 0 e) = kyE w := by rw [← hw, mEv_ky, mEv_ky, f7, f9, h8]
  refine ⟨n, by rw [f6]; exact v3, v4, ⟨fun g g0 g6 g7 g9 g10 g13 g17 g18 g22 => hf g g0 g10 g13 g17 g18 g22, h20, fun c _ => by rw [f6], fun e' he' => same e' (by omega)⟩, fun j hj => ?_, by rw [hl]; exact set_nodup v6 hg hk, Or.inr ⟨w, rfl, ?_, ?_⟩⟩
  · by_cases y : j = e
    · subst y; exact ok
    · exact eOk_same (by rw [f7]) (hs j y).1 (fun st _ => by rw [f3]) (v5 j hj)
  · have : pgI w.1 w.2.1 w.2.2.1 = pgI (I 7 e) (L 8 e) (I 9 e) := by
      simp only [kyE, Prod.mk.injEq] at hk
      rw [← hk.1, ← hk.2.1, ← hk.2.2]; rfl
    rw [this]; exact hp
  · rw [hl, nwE, if_neg hne]
    exact set_perm v6 hg hk
/-- a new entry -/
theorem MSt.app {I I' : MI} {L L' : ML} {sm n : Nat} {w : EV} (v : MV I L sm n) (hn : n < 150) (h6 : I' 6 0 = nI (n + 1)) (h6c : ∀ c, c ≠ 0 → I' 6 c = I 6 c) (hf : ∀ g, g ≠ 0 → g ≠ 6 → g ≠ 7 → g ≠ 9 → g ≠ 10 → g ≠ 13 → g ≠ 17 → g ≠ 18 → g ≠ 22 → I' g = I g) (h20 : L' 20 = L 20) (hs : ∀ e', e' ≠ n → sameE I L I' L' e')
    (hp : PgM (fun p => decide (p = pgI (I' 7 n) (L' 8 n) (I' 9 n))) I I') (ok : eOk I' 0 sm n) (hw : mEv I' L' 0 n = w) (hne : w.2.2.2.1 ≠ []) (hno : ∀ u ∈ mLst I L 0 n, kyE u ≠ kyE w) : MSt I L sm n (some w) I' L' := by
  obtain ⟨v1, v2, v3, v4, v5, v6, v7, v8⟩ := v
  have f3 := hf 3 (by decide) (by decide) (by decide) (by decide) (by decide) (by decide) (by decide) (by decide) (by decide)
  have hl : mLst I' L' 0 (n + 1) = mLst I L 0 n ++ [w] := by
    rw [mLst_s]
    congr 1
    · exact mLst_same v2 (fun i hi => hs _ (by omega)) (fun st _ => by rw [f3]) (fun i hi => by simpa using v5 i hi)
    · simp only [Nat.mul_zero, Nat.zero_add, hw]
  refine ⟨n + 1, h6, by omega, ⟨hf, h20, h6c, fun e he => hs e (by omega)⟩, fun j hj => ?_, by rw [hl]; exact app_nodup v6 hno, Or.inr ⟨w, rfl, ?_, ?_⟩⟩
  · by_cases y : j = n
    · subst y; exact ok
    · have := hs j y
      exact eOk_same this.1 this.2.2.2.1 (fun st _ => by rw [f3]) (v5 j (by omega))
  · rw [← hw]; exact hp
  · rw [hl, nwE, if_neg hne]
    exact app_perm hno
theorem kdE_st {I : MI} {e i : Nat} (h : I 7 e = nI i) (hi : i < 1000) : kdE I 0 e = I 3 i := by
  simp only [kdE, h, nI_clamp (show i < 2 ^ 31 by omega), Nat.mul_zero, Nat.zero_add]
theorem mEv_0 {I : MI} {L : ML} {c e : Nat} (h : kdE I c e = nI 0) : mEv I L c e = (I 7 e, L 8 e, I 9 e, [L 11 (10 * e)], [], nI 0) := by
  have n2 : ¬ nI 0 = nI 2 := by decide
  have n3 : ¬ nI 0 = nI 3 := by decide
  simp only [mEv, h, true_or, if_true, n2, n3, if_false]
theorem mEv_1 {I : MI} {L : ML} {c e t : Nat} (h : kdE I c e = nI 1) (ht : I 10 e = nI t) (hb : t < 1000) : mEv I L c e = (I 7 e, L 8 e, I 9 e, (List.range t).map (fun i => L 11 (10 * e + i)), [], nI 0) := by
  have n0 : ¬ nI 1 = nI 0 := by decide
  have n2 : ¬ nI 1 = nI 2 := by decide
  have n3 : ¬ nI 1 = nI 3 := by decide
  simp only [mEv, h, n0, n2, n3, or_self, if_false, szN, ht, nI_clamp (show t < 2 ^ 31 by omega)]
theorem mEv_2 {I : MI} {L : ML} {c e t : Nat} (h : kdE I c e = nI 2) (ht : I 10 e = nI t) (hb : t < 1000) : mEv I L c e = (I 7 e, L 8 e, I 9 e, (List.range t).map (fun i => L 11 (10 * e + i)), (List.range t).map (fun i => L 12 (10 * e + i)), nI 0) := by
  have n0 : ¬ nI 2 = nI 0 := by decide
  have n3 : ¬ nI 2 = nI 3 := by decide
  simp only [mEv, h, n0, n3, or_self, if_false, if_true, szN, ht, nI_clamp (show t < 2 ^ 31 by omega)]
theorem mEv_3 {I : MI} {L : ML} {c e : Nat} (h : kdE I c e = nI 3) : mEv I L c e = (I 7 e, L 8 e, I 9 e, [L 11 (10 * e)], [], I 10 e) := by
  have n2 : ¬ nI 3 = nI 2 := by decide
  simp only [mEv, h, or_true, if_true, n2, if_false]
theorem setI_self {I : MI} {f j : Nat} : setI I f j (I f j) = I := by
  funext g
  by_cases y : g = f
  · subst y
    rw [setI_f]
    funext i
    by_cases z : i = j
    · subst z; rw [upd_s]
    · rw [upd_n z]
  · rw [setI_n y]
/-- what a call does to an entry that is there -/
theorem MSt.setp {I : MI} {L L' : ML} {sm n e : Nat} {x : Int32} {w : EV} (v : MV I L sm n) (he : e < n) (h8 : L' 8 = L 8) (h20 : L' 20 = L 20) (hs : ∀ e', e' ≠ e → ∀ i, i < 10 → L' 11 (10 * e' + i) = L 11 (10 * e' + i) ∧ L' 12 (10 * e' + i) = L 12 (10 * e' + i))
    (ok : ∀ st, st < sm → I 7 e = nI st → I 3 st ≠ nI 3 → ∃ t, x = nI t ∧ 0 < t ∧ t ≤ 10 ∧ (I 3 st = nI 0 → t = 1)) (hw : ∀ X : MI, X 7 e = I 7 e → X 9 e = I 9 e → X 10 e = x → X 3 = I 3 → mEv X L' 0 e = w) (hne : w.2.2.2.1 ≠ []) :
    MSt I L sm n (some w) (setI (tch (refI I 0 (some e)) (pgI (I 7 e) (L 8 e) (I 9 e))) 10 e x) L' := by
  have f : ∀ g, g ≠ 0 → g ≠ 10 → g ≠ 13 → g ≠ 17 → g ≠ 18 → g ≠ 22 → setI (tch (refI I 0 (some e)) (pgI (I 7 e) (L 8 e) (I 9 e))) 10 e x g = I g := fun g g0 g10 g13 g17 g18 g22 => by rw [setI_n g10, tch_n g18 g17 g13, refN g0 g22]
  refine MSt.set (e := e) v he f h8 h20 (fun e2 n2 => ⟨?_, hs e2 n2⟩) (PgM.one (I1 := refI I 0 (some e)) v.2.2.2.2.2.2.1 (pgI_lt _ _ _) (fun g hg => refN (by omega) (by omega)) ?_ ?_ ?_) ?_ (hw _ ?_ ?_ ?_ ?_) hne
  · rw [setI_f, upd_n n2, tch_n (by decide) (by decide) (by decide), refN (by decide) (by decide)]
  · rw [setI_n (by decide)]
  · rw [setI_n (by decide)]
  · rw [setI_n (by decide)]
  · obtain ⟨st, hst, e7, _⟩ := v.2.2.2.2.1 e he
    refine ⟨st, hst, by rw [f 7 (by decide) (by decide) (by decide) (by decide) (by decide) (by decide)]; exact e7, fun q => ?_⟩
    rw [f 3 (by decide) (by decide) (by decide) (by decide) (by decide) (by decide)] at q ⊢
    obtain ⟨t, t1, t2, t3, t4⟩ := ok st hst e7 (by simpa using q)
    exact ⟨t, by rw [setI_f, upd_s, t1], t2, t3, by simpa using t4⟩
  · rw [f 7 (by decide) (by decide) (by decide) (by decide) (by decide) (by decide)]
  · rw [f 9 (by decide) (by decide) (by decide) (by decide) (by decide) (by decide)]
  · rw [setI_f, upd_s]
  · rw [f 3 (by decide) (by decide) (by decide) (by decide) (by decide) (by decide)]
theorem neI_n {I : MI} {e g : Nat} {s : Int32} (h6 : g ≠ 6) (h7 : g ≠ 7) (h9 : g ≠ 9) (h10 : g ≠ 10) : neI I e s g = I g := by rw [neI, setI_n h6, setI_n h10, setI_n h9, setI_n h7]
theorem neI_7 {I : MI} {e : Nat} {s : Int32} : neI I e s 7 = upd (I 7) e s := by rw [neI, setI_n (by decide), setI_n (by decide), setI_n (by decide), setI_f]
theorem neI_9 {I : MI} {e : Nat} {s : Int32} : neI I e s 9 = upd (I 9) e (I 21 0) := by rw [neI, setI_n (by decide), setI_n (by decide), setI_f, setI_n (by decide)]
theorem neI_10 {I : MI} {e : Nat} {s : Int32} : neI I e s 10 = upd (I 10) e (nI 0) := by rw [neI, setI_n (by decide), setI_f, setI_n (by decide), setI_n (by decide)]
theorem neI_6 {I : MI} {e : Nat} {s : Int32} : neI I e s 6 = upd (I 6) 0 (nI (e + 1)) := by rw [neI, setI_f, setI_n (by decide), setI_n (by decide), setI_n (by decide)]
/-- what a call does that makes an entry -/
theorem MSt.newp {I : MI} {L L' : ML} {sm n i : Nat} {x : Int32} {w : EV} (v : MV I L sm n) (hn : n < 150) (hi : i < sm) (hfd : fdM I L 0 n (nI i) (L 20 0) (I 21 0) = none) (h8 : L' 8 = vp_updL (L 8) n (L 20 0)) (h20 : L' 20 = L 20) (hs : ∀ e', e' ≠ n → ∀ i, i < 10 → L' 11 (10 * e' + i) = L 11 (10 * e' + i) ∧ L' 12 (10 * e' + i) = L 12 (10 * e' + i))
    (ok : I 3 i ≠ nI 3 → ∃ t, x = nI t ∧ 0 < t ∧ t ≤ 10 ∧ (I 3 i = nI 0 → t = 1)) (hw : ∀ X : MI, X 7 n = nI i → X 9 n = I 21 0 → X 10 n = x → X 3 = I 3 → mEv X L' 0 n = w) (hne : w.2.2.2.1 ≠ []) :
    MSt I L sm n (some w) (setI (tch (neI (refI I 0 none) n (nI i)) (pgI (nI i) (L 20 0) (I 21 0))) 10 n x) L' := by
  generalize hI' : setI (tch (neI (refI I 0 none) n (nI i)) (pgI (nI i) (L 20 0) (I 21 0))) 10 n x = I'
  have f : ∀ g, g ≠ 0 → g ≠ 6 → g ≠ 7 → g ≠ 9 → g ≠ 10 → g ≠ 13 → g ≠ 17 → g ≠ 18 → g ≠ 22 → I' g = I g := fun g g0 g6 g7 g9 g10 g13 g17 g18 g22 => by rw [← hI', setI_n g10, tch_n g18 g17 g13, neI_n g6 g7 g9 g10, refN g0 g22]
  have f7 : I' 7 = upd (I 7) n (nI i) := by rw [← hI', setI_n (by decide), tch_n (by decide) (by decide) (by decide), neI_7, refN (by decide) (by decide)]
  have f9 : I' 9 = upd (I 9) n (I 21 0) := by rw [← hI', setI_n (by decide), tch_n (by decide) (by decide) (by decide), neI_9, refN (by decide) (by decide), refN (by decide) (by decide)]
  have f6 : I' 6 = upd (I 6) 0 (nI (n + 1)) := by rw [← hI', setI_n (by decide), tch_n (by decide) (by decide) (by decide), neI_6, refN (by decide) (by decide)]
  have f10 : ∀ e, e ≠ n → I' 10 e = I 10 e := fun e he => by rw [← hI', setI_f, upd_n he, tch_n (by decide) (by decide) (by decide), neI_10, upd_n he, refN (by decide) (by decide)]
  have f10n : I' 10 n = x := by rw [← hI', setI_f, upd_s]
  have f3 := f 3 (by decide) (by decide) (by decide) (by decide) (by decide) (by decide) (by decide) (by decide) (by decide)
  have f7n : I' 7 n = nI i := by rw [f7, upd_s]
  have f9n : I' 9 n = I 21 0 := by rw [f9, upd_s]
  have f8n : L' 8 n = L 20 0 := by rw [h8, updL_s]
  have hw' := hw I' f7n f9n f10n f3
  refine MSt.app v hn (by rw [f6, upd_s]) (fun c hc => by rw [f6, upd_n hc]) f h20 (fun e' n2 => ⟨by rw [f7, upd_n n2], by rw [h8, updL_n n2], by rw [f9, upd_n n2], f10 e' n2, hs e' n2⟩) ?_ ?_ hw' hne ?_
  · rw [f7n, f8n, f9n]
    refine PgM.one (I1 := neI (refI I 0 none) n (nI i)) v.2.2.2.2.2.2.1 (pgI_lt _ _ _) (fun g hg => by rw [neI_n (by omega) (by omega) (by omega) (by omega), refN (by omega) (by omega)]) ?_ ?_ ?_
    · rw [← hI', setI_n (by decide)]
    · rw [← hI', setI_n (by decide)]
    · rw [← hI', setI_n (by decide)]
  · refine ⟨i, hi, f7n, fun q => ?_⟩
    rw [f3] at q ⊢
    obtain ⟨t, t1, t2, t3, t4⟩ := ok (by simpa using q)
    exact ⟨t, by rw [f10n, t1], t2, t3, by simpa using t4⟩
  · intro u hu
    have := fdM_none hfd u hu
    rw [← hw', mEv_ky, f7n, f8n, f9n]
    exact this
theorem St.ix {n : Nat} {kd ty : Nat → Int32} {hk s k1 k2 : Int32} {v : Int64} (q : St n kd ty hk s k1 k2 v 0) : ∃ i, i < n ∧ s = nI i ∧ (kd i = k1 ∨ kd i = k2) ∧ ft (kd i) (ty i) v ∧ hk ≠ nI 0 := by
  rcases q with ⟨z, _⟩ | ⟨i, hi, hs, ⟨z, _⟩ | ⟨h1, h2, ⟨z, _⟩ | ⟨_, h3⟩⟩⟩
  · cases z
  · cases z
  · cases z
  · exact ⟨i, hi, hs, h1, h2, h3⟩
section Mod
variable {l : Launch} {K : Kx} {m : Nat} {am : Nat → Nat} {I I' : MI} {L L' : ML} {h : Hp} {sm n : Nat} {s : Int32}
/-- how a call that may be refused ends -/
def mEnd (K : Kx) (m : Nat) (am : Nat → Nat) (I : MI) (L : ML) (h : Hp) (S : Nat → Prop) (R : MI → ML → Prop) (Q : MI → ML → Prop) (h' : Hp) : Prop := ∃ c I' L', h' = Mw K m am I' L' h ∧ S c ∧ I' 0 0 = nI c ∧ ((0 < c ∧ c < 5 ∧ R I' L') ∨ (c = 0 ∧ Q I' L'))
theorem sp_mPut {y : Int64} (htr : l.stackTraces = false) (A : AM m am) (v : MV I L sm n) :
    mX4_put l K [.ref m, .int s, .long y] (Mw K m am I L h) (kI fun r h' => mEnd K m am I L h (St sm (I 3) (I 4) (I 19 0) s (nI 0) (nI 0) y) (MSt I L sm n none) (fun I' L' => ∃ u, putR (lk s (L 20 0) (I 21 0) (mLst I L 0 n)) n y r u ∧ MSt I L sm n u I' L') h') := by
  have vv := v
  obtain ⟨v1, v2, v3, v4, v5, v6, v7, v8⟩ := vv
  refine fX4_put htr ⟨⟨_, Mw_m⟩, ?_⟩
  refine (sp_mRefused htr A v1 v2 v3 v4).I ?_
  rintro r h' ⟨c, hc4, hst, hr, rfl⟩
  refine ⟨fun q => ?_, fun q => ⟨_, rfl, c, _, L, rfl, hst, ref00, Or.inl ⟨Nat.pos_of_ne_zero fun z => q (hr.mpr z), by omega, MSt.no v fun g h0 h22 => refN h0 h22⟩⟩⟩
  have := hr.mp q
  subst this
  obtain ⟨i, hi, rfl, hkd, -, -⟩ := hst.ix
  have hkd : I 3 i = nI 0 := hkd.elim id id
  have kX : ∀ (X : MI) e, X 7 e = nI i → X 3 = I 3 → kdE X 0 e = nI 0 := fun X e h1 h2 => by rw [kdE_st h1 (by omega), h2]; exact hkd
  cases hfd : fdM I L 0 n (nI i) (L 20 0) (I 21 0) with
  | some e =>
    obtain ⟨e', he', hee, f7, f8, f9⟩ := fdM_some hfd
    have : e' = e := by omega
    subst this
    have hp0 : nI 0 ≤ nI e' := nonneg (by omega)
    simp (disch := omega) only [g0M, g1M, g2M, g3M, g4M, g5M, g6M, g7M, g8M, g9M, g10M, g11M, g12M, g13M, g14M, g15M, g16M, g17M, g18M, g19M, g20M, g21M, g22M, p0M, p1M, p16M, p17M, p18M, p19M, p20M, p21M, p22M, r2M A, r3M A, r4M A, r5M A, r6M A, r7M A, r8M A, r9M A, r10M A, r11M A, r12M A, r13M A, r14M A, r15M A, w2M A, w3M A, w4M A, w5M A, w6M A, w7M A, w8M A, w9M A, w10M A, w11M A, w12M A, w13M A, w14M A, w15M A, Mw_o, true_and, Option.some.injEq, Value.ref.injEq, Value.int.injEq, Value.long.injEq, exists_eq_left', setI_f, setI_n, setL_f, setL_n, upd_s, updL_s, pk_mul, nI_add, nI_sub1, nI01, neg_not, neg1_lt, not_true_eq_false, not_false_eq_true, false_implies, true_implies, implies_true, and_true, true_and, eq_self, ref22s, ref22n, ref00, refN, tch_n, hp0]
    refine (sp_mTouchOf htr A (by omega)).V ?_
    rintro h' rfl
    simp (disch := omega) only [g0M, g1M, g2M, g3M, g4M, g5M, g6M, g7M, g8M, g9M, g10M, g11M, g12M, g13M, g14M, g15M, g16M, g17M, g18M, g19M, g20M, g21M, g22M, p0M, p1M, p16M, p17M, p18M, p19M, p20M, p21M, p22M, r2M A, r3M A, r4M A, r5M A, r6M A, r7M A, r8M A, r9M A, r10M A, r11M A, r12M A, r13M A, r14M A, r15M A, w2M A, w3M A, w4M A, w5M A, w6M A, w7M A, w8M A, w9M A, w10M A, w11M A, w12M A, w13M A, w14M A, w15M A, Mw_o, true_and, Option.some.injEq, Value.ref.injEq, Value.int.injEq, Value.long.injEq, exists_eq_left', setI_f, setI_n, setL_f, setL_n, upd_s, updL_s, pk_mul, nI_add, nI_sub1, nI01, neg_not, neg1_lt, not_true_eq_false, not_false_eq_true, false_implies, true_implies, implies_true, and_true, true_and, eq_self, ref22s, ref22n, ref00, refN, tch_n, hp0]
    have hev := mEv_0 (L := L) (kX I e' f7 rfl)
    refine ⟨_, rfl, 0, _, _, rfl, hst, by simp (disch := omega) only [setI_n, nI01, neg_not, neg1_lt, not_true_eq_false, not_false_eq_true, false_implies, true_implies, implies_true, and_true, true_and, eq_self, ref22s, ref22n, ref00, refN, tch_n], Or.inr ⟨rfl, some (I 7 e', L 8 e', I 9 e', [y], [], nI 0), ?_, MSt.setp v he' (by rw [setL_n (by decide)]) (by rw [setL_n (by decide)]) (fun e2 n2 j hj => ⟨by rw [setL_f, updL_n (by omega)], by rw [setL_n (by decide)]⟩) (fun _ _ _ _ => ⟨1, rfl, by decide, by decide, fun _ => rfl⟩) (fun X x7 x9 x10 x3 => ?_) (by simp)⟩⟩
    · rw [lk_m_s hfd, hev]
      exact Or.inr ⟨fun z => by simp at z, (bI_f (by simp)).symm, rfl⟩
    · rw [mEv_0 (kX X e' (x7.trans f7) x3), x7, x9, setL_n (by decide), setL_f, updL_s]
  | none =>
    simp (disch := omega) only [g0M, g1M, g2M, g3M, g4M, g5M, g6M, g7M, g8M, g9M, g10M, g11M, g12M, g13M, g14M, g15M, g16M, g17M, g18M, g19M, g20M, g21M, g22M, p0M, p1M, p16M, p17M, p18M, p19M, p20M, p21M, p22M, r2M A, r3M A, r4M A, r5M A, r6M A, r7M A, r8M A, r9M A, r10M A, r11M A, r12M A, r13M A, r14M A, r15M A, w2M A, w3M A, w4M A, w5M A, w6M A, w7M A, w8M A, w9M A, w10M A, w11M A, w12M A, w13M A, w14M A, w15M A, Mw_o, true_and, Option.some.injEq, Value.ref.injEq, Value.int.injEq, Value.long.injEq, exists_eq_left', setI_f, setI_n, setL_f, setL_n, upd_s, updL_s, pk_mul, nI_add, nI_sub1, nI01, neg_not, neg1_lt, not_true_eq_false, not_false_eq_true, false_implies, true_implies, implies_true, and_true, true_and, eq_self, ref22s, ref22n, ref00, refN, tch_n, v3]
    have hlk := lk_m_n hfd
    refine ⟨fun q => ?_, fun q => ?_⟩
    · have hn : n < 150 := Nat.lt_of_le_of_ne v4 fun z => q (by rw [z])
      refine (sp_mNewEntry htr A (by rw [refN (by decide) (by decide)]; exact v3) hn).I ?_
      rintro r h' ⟨rfl, rfl⟩
      refine ⟨⟨_, Mw_m⟩, ?_⟩
      refine (sp_mTouchOf htr A (by omega)).V ?_
      rintro h' rfl
      rw [neI_7, neI_9, upd_s, upd_s, setL_f, updL_s, refN (by decide) (by decide)]
      simp (disch := omega) only [g0M, g1M, g2M, g3M, g4M, g5M, g6M, g7M, g8M, g9M, g10M, g11M, g12M, g13M, g14M, g15M, g16M, g17M, g18M, g19M, g20M, g21M, g22M, p0M, p1M, p16M, p17M, p18M, p19M, p20M, p21M, p22M, r2M A, r3M A, r4M A, r5M A, r6M A, r7M A, r8M A, r9M A, r10M A, r11M A, r12M A, r13M A, r14M A, r15M A, w2M A, w3M A, w4M A, w5M A, w6M A, w7M A, w8M A, w9M A, w10M A, w11M A, w12M A, w13M A, w14M A, w15M A, Mw_o, true_and, Option.some.injEq, Value.ref.injEq, Value.int.injEq, Value.long.injEq, exists_eq_left', setI_f, setI_n, setL_f, setL_n, upd_s, updL_s, pk_mul, nI_add, nI_sub1, nI01, neg_not, neg1_lt, not_true_eq_false, not_false_eq_true, false_implies, true_implies, implies_true, and_true, true_and, eq_self, ref22s, ref22n, ref00, refN, tch_n]
      refine ⟨_, rfl, 0, _, _, rfl, hst, by simp (disch := omega) only [setI_n, tch_n, neI_n, ref00], Or.inr ⟨rfl, some (nI i, L 20 0, I 21 0, [y], [], nI 0), ?_, MSt.newp v hn hi hfd (by rw [setL_n (by decide), setL_f]) (by rw [setL_n (by decide), setL_n (by decide)]) (fun e2 n2 j hj => ⟨by rw [setL_f, updL_n (by omega), setL_n (by decide)], by rw [setL_n (by decide), setL_n (by decide)]⟩) (fun _ => ⟨1, rfl, by decide, by decide, fun _ => rfl⟩) (fun X x7 x9 x10 x3 => ?_) (by simp)⟩⟩
      · rw [hlk]
        exact Or.inr ⟨fun z => by omega, (bI_t rfl).symm, rfl⟩
      · rw [mEv_0 (kX X n x7 x3), x7, x9, setL_n (by decide), setL_f, updL_s, setL_f, updL_s]
    · have hn : n = 150 := (nI_eq (by omega) (by omega)).mp q
      refine ⟨_, rfl, 0, _, L, rfl, hst, ref00, Or.inr ⟨rfl, none, ?_, MSt.no v fun g h0 h22 => refN h0 h22⟩⟩
      rw [hlk]
      exact Or.inl ⟨rfl, by omega, rfl, rfl⟩
end Mod
