/-! ===== class and reference side by side: the heap ===== -/
/-- K with foreign addresses F -/
def kF (K : Kx) (F : List Nat) : Kx := (K.1, fun i => if i < 6 then K.2.1 i else if i = 99 then F.length else F.getD (i - 100) 0, K.2.2)
theorem kF_f {K : Kx} {F : List Nat} {a : Nat} : fK (kF K F) a ↔ a ∈ F := by
  unfold fK kF
  simp only [show ¬ (99 < 6) by decide, if_false, if_true]
  constructor
  · rintro ⟨i, hi, e⟩
    rw [if_neg (by omega), if_neg (by omega)] at e
    rw [Nat.add_sub_cancel_left, List.getD_eq_getElem?_getD, List.getElem?_eq_getElem hi] at e
    rw [e]; exact List.getElem_mem hi
  · intro h
    obtain ⟨i, hi, e⟩ := List.mem_iff_getElem.mp h
    refine ⟨i, hi, ?_⟩
    rw [if_neg (by omega), if_neg (by omega), Nat.add_sub_cancel_left, List.getD_eq_getElem?_getD, List.getElem?_eq_getElem hi]
    exact e.symm
theorem Rp_K {K : Kx} {F : List Nat} : Rp (kF K F) = Rp K := rfl
theorem KU_K {K : Kx} {F : List Nat} : KU (kF K F) = KU K := rfl
theorem MX_K {l : Launch} {K : Kx} {F : List Nat} : MX l (kF K F) = MX l K := rfl
theorem xI_K {K : Kx} {F : List Nat} : xI (kF K F) = xI K := rfl
theorem xJ_K {K : Kx} {F : List Nat} : xJ (kF K F) = xJ K := rfl
/-- cells of one heap are cells of another, and none of theirs is foreign to the other K -/
def Sw (K K' : Kx) (h h' : Hp) : Prop := ∀ a x, ¬ fK K a → h a = some x → h' a = some x ∧ ¬ fK K' a
theorem EntAt.sw {K : Kx} {F F' : List Nat} {h h' : Hp} {e : Nat} {v : EV} (E : EntAt (kF K F) h e v) (w : Sw (kF K F) (kF K F') h h') : EntAt (kF K F') h' e v := by
  obtain ⟨nu, me, h1, h2, h3, n1, n2, n3⟩ := E
  exact ⟨nu, me, (w _ _ n1 h1).1, (w _ _ n2 h2).1, (w _ _ n3 h3).1, (w _ _ n1 h1).2, (w _ _ n2 h2).2, (w _ _ n3 h3).2⟩
theorem PgR.sw {K : Kx} {F F' : List Nat} {h h' : Hp} {rw : Nat → Nat} {Lp : Nat → List (Option EV)} {a c : Nat} (g : PgR (kF K F) h rw Lp a c) (w : Sw (kF K F) (kF K F') h h') : PgR (kF K F') h' rw Lp a c := by
  obtain ⟨⟨q1, f, q2, q3⟩, g2, g3, g4, g5, g6⟩ := g
  exact ⟨⟨(w _ _ g5 q1).1, f, (w _ _ g6 q2).1, fun j hj => ⟨(q3 j hj).1, fun v hv => by obtain ⟨e, e1, e2⟩ := (q3 j hj).2 v hv; exact ⟨e, e1, e2.sw w⟩⟩⟩, g2, g3, g4, (w _ _ g5 q1).2, (w _ _ g6 q2).2⟩
theorem CR.sw {K : Kx} {F F' : List Nat} {h h' : Hp} {x : Nat} {ad : Nat → Nat → Nat} {o : OV} {nm : Nat → Int32} {th : Nat → Bool} {nu : Nat → Int32} {sc : Nat → Nat} {kd ty : Nat → Nat → Int32} {pa : Nat → Nat → Nat} {Lp : Nat → List (Option EV)} {rw : Nat → Nat} (C : CR (kF K F) h x ad o nm th nu sc kd ty pa Lp rw) (w : Sw (kF K F) (kF K F') h h') (of : oF (kF K F') h') : CR (kF K F') h' x ad o nm th nu sc kd ty pa Lp rw := by
  obtain ⟨⟨c1, c2⟩, c3, ⟨f, c4, c5⟩, ⟨g, c6⟩, c7, c8, ⟨d1, d2, d3, d4, d5, d6, d7⟩, ⟨e1, e2, e3⟩, c11⟩ := C
  refine ⟨⟨(w _ _ c1 c2).2, (w _ _ c1 c2).1⟩, (w _ _ (d3 0 (by decide)) c3).1, ⟨f, (w _ _ (d3 1 (by decide)) c4).1, c5⟩, ⟨g, (w _ _ (d3 2 (by decide)) c6).1⟩, fun c hc ht => ?_, fun c hc ht p hp => (c8 c hc ht p hp).sw w, ⟨d1, d2, fun i hi => ?_, fun c k hc ht hk => ⟨(d4 c k hc ht hk).1, ?_⟩, d5, d6, d7⟩, ⟨(w _ _ e2 e1).1, (w _ _ e2 e1).2, of⟩, fun i j hi hj z => c11 i j hi hj (by simp only [kF, hi, hj, if_true] at z ⊢; exact z)⟩
  · obtain ⟨p1, ⟨g, p2, p3⟩, p4, p5⟩ := c7 c hc ht
    exact ⟨(w _ _ (d4 c 0 hc ht (by decide)).2 p1).1, ⟨g, (w _ _ (d4 c 1 hc ht (by decide)).2 p2).1, p3⟩, (w _ _ (d4 c 2 hc ht (by decide)).2 p4).1, (w _ _ (d4 c 3 hc ht (by decide)).2 p5).1⟩
  · match i, hi with
    | 0, _ => exact (w _ _ (d3 0 (by decide)) c3).2
    | 1, _ => exact (w _ _ (d3 1 (by decide)) c4).2
    | 2, _ => exact (w _ _ (d3 2 (by decide)) c6).2
  · obtain ⟨p1, ⟨g, p2, p3⟩, p4, p5⟩ := c7 c hc ht
    match k, hk with
    | 0, _ => exact (w _ _ (d4 c 0 hc ht (by decide)).2 p1).2
    | 1, _ => exact (w _ _ (d4 c 1 hc ht (by decide)).2 p2).2
    | 2, _ => exact (w _ _ (d4 c 2 hc ht (by decide)).2 p4).2
    | 3, _ => exact (w _ _ (d4 c 3 hc ht (by decide)).2 p5).2
/-- the reference's and the law's addresses are F -/
def FX (F : List Nat) (m out : Nat) (am : Nat → Nat) : Prop := AM m am ∧ (∀ a, a ∈ F ↔ a = m ∨ a = out ∨ ∃ i, i < 14 ∧ a = am (i + 2)) ∧ out ≠ m ∧ ∀ i, i < 14 → am (i + 2) ≠ out
theorem Mw_o2 {K : Kx} {m a : Nat} {am : Nat → Nat} {I : MI} {L : ML} {h : Hp} (h1 : a ≠ m) (h2 : ∀ i, i < 14 → am (i + 2) ≠ a) : Mw K m am I L h a = h a := by
  unfold Mw
  rw [if_neg h1, List.find?_eq_none.mpr fun i hi => by simpa using h2 i (List.mem_range.mp hi)]
theorem Mw_cases {K : Kx} {m : Nat} {am : Nat → Nat} (A : AM m am) (a : Nat) : (a = m) ∨ (∃ i, i < 14 ∧ a = am (i + 2)) ∨ (a ≠ m ∧ ∀ i, i < 14 → am (i + 2) ≠ a) := by
  by_cases y : a = m
  · exact Or.inl y
  · by_cases z : ∃ i, i < 14 ∧ a = am (i + 2)
    · exact Or.inr (Or.inl z)
    · exact Or.inr (Or.inr ⟨y, fun i hi w => z ⟨i, hi, w.symm⟩⟩)
/-- two heaps alike where the reference is laid -/
theorem Mw_id {K : Kx} {m : Nat} {am : Nat → Nat} {I : MI} {L : ML} {h h2 : Hp} (A : AM m am) (e : h = Mw K m am I L h) (hm : h2 m = h m) (ha : ∀ i, i < 14 → h2 (am (i + 2)) = h (am (i + 2))) : h2 = Mw K m am I L h2 := by
  funext a
  rcases Mw_cases (K := K) A a with rfl | ⟨i, hi, rfl⟩ | ⟨h1, h2'⟩
  · rw [Mw_m, hm, e, Mw_m]
  · rw [Mw_c A hi, ha i hi, e, Mw_c A hi]
  · rw [Mw_o2 h1 h2']
theorem Mw_Mw {K : Kx} {m : Nat} {am : Nat → Nat} {I I' : MI} {L L' : ML} {h : Hp} (A : AM m am) : Mw K m am I L (Mw K m am I' L' h) = Mw K m am I L h := by
  funext a
  rcases Mw_cases (K := K) A a with rfl | ⟨i, hi, rfl⟩ | ⟨h1, h2'⟩
  · rw [Mw_m, Mw_m]
  · rw [Mw_c A hi, Mw_c A hi]
  · rw [Mw_o2 h1 h2', Mw_o2 h1 h2', Mw_o2 h1 h2']
/-- all but the law's row alike -/
def FG (K : Kx) (out : Nat) (h h2 : Hp) : Prop := (∀ a, a ≠ out → h2 a = h a) ∧ ∃ f, h2 out = some (xJ K 1 f)
theorem mid {K : Kx} {F : List Nat} {m out : Nat} {am : Nat → Nat} {H h' H2 : Hp} {x : Nat} {ad : Nat → Nat → Nat} {o : OV} {nm : Nat → Int32} {th : Nat → Bool} {nu : Nat → Int32} {sc : Nat → Nat} {kd ty : Nat → Nat → Int32} {pa : Nat → Nat → Nat} {Lp : Nat → List (Option EV)} {rw : Nat → Nat} {I : MI} {L : ML} (fx : FX F m out am) (C : CR (kF K F) h' x ad o nm th nu sc kd ty pa Lp rw) (ff : FF (kF K F) H h') (e : H = Mw K m am I L H) (fg : FG K out h' H2) :
    H2 = Mw K m am I L H2 ∧ ∀ I' L', CR (kF K F) (Mw K m am I' L' H2) x ad o nm th nu sc kd ty pa Lp rw ∧ Mw K m am I' L' H2 = Mw K m am I' L' (Mw K m am I' L' H2) ∧ Mw K m am I' L' H2 out = H2 out := by
  obtain ⟨A, hF, om, oa⟩ := fx
  have fm : fK (kF K F) m := kF_f.mpr ((hF m).mpr (Or.inl rfl))
  have fo : fK (kF K F) out := kF_f.mpr ((hF out).mpr (Or.inr (Or.inl rfl)))
  have fa : ∀ i, i < 14 → fK (kF K F) (am (i + 2)) := fun i hi => kF_f.mpr ((hF _).mpr (Or.inr (Or.inr ⟨i, hi, rfl⟩)))
  have e2 : H2 = Mw K m am I L H2 := Mw_id A e (by rw [fg.1 m om.symm, ff m fm]) (fun i hi => by rw [fg.1 _ (oa i hi), ff _ (fa i hi)])
  refine ⟨e2, fun I' L' => ⟨C.sw (fun a X na ha => ⟨?_, na⟩) ?_, (Mw_Mw A).symm, Mw_o2 om oa⟩⟩
  · have n1 : a ≠ m := fun z => na (by rw [z]; exact fm)
    have n2 : a ≠ out := fun z => na (by rw [z]; exact fo)
    have n3 : ∀ i, i < 14 → am (i + 2) ≠ a := fun i hi z => na (by rw [← z]; exact fa i hi)
    rw [Mw_o2 n1 n3, fg.1 a n2]
    exact ha
  · intro a ha
    rcases (hF a).mp (kF_f.mp ha) with rfl | rfl | ⟨i, hi, rfl⟩
    · exact ⟨_, Mw_m⟩
    · obtain ⟨f, hf⟩ := fg.2
      exact ⟨_, by rw [Mw_o2 om oa]; exact hf⟩
    · exact ⟨_, Mw_c A hi⟩
