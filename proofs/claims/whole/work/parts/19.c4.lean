/-! ===== the class: a page that is changed ===== -/
/-- foreign cells stay -/
def FF (K : Kx) (h h' : Hp) : Prop := ∀ a, fK K a → h' a = h a
theorem FF.rf {K : Kx} {h : Hp} : FF K h h := fun _ _ => rfl
theorem FF.tr {K : Kx} {h h' h'' : Hp} (p : FF K h h') (q : FF K h' h'') : FF K h h'' := fun a z => (q a z).trans (p a z)
theorem FF.ext {K : Kx} {h h' : Hp} (he : oF K h) (x : Ext h h') : FF K h h' := fun a z => by
  obtain ⟨X, e⟩ := he a z
  rw [x _ _ e, e]
theorem eK.fr {K : Kx} {h h' : Hp} (he : eK K h) (f : FF K h h') (i : Imm K h h') : eK K h' := ⟨i _ _ he.2.1 he.1 (Or.inr ⟨_, _, rfl, by decide⟩), he.2.1, fun a z => by rw [f a z]; exact he.2.2 a z⟩
/-- page p of now is another one -/
def pu (pa : Nat → Nat → Nat) (p q : Nat) : Nat → Nat → Nat := fun c p' => if c = 0 ∧ p' = p then q else pa c p'
theorem pu_s (pa : Nat → Nat → Nat) (p q : Nat) : pu pa p q 0 p = q := by simp [pu]
theorem pu_n {pa : Nat → Nat → Nat} {p q c p' : Nat} (n : ¬ (c = 0 ∧ p' = p)) : pu pa p q c p' = pa c p' := by simp [pu, n]
theorem pu_c {pa : Nat → Nat → Nat} {p q c p' : Nat} : pu pa p q (c + 1) p' = pa (c + 1) p' := by simp [pu]
theorem hdc_pu (th : Nat → Bool) (pa : Nat → Nat → Nat) (p q p' a : Nat) : hdc th (pu pa p q) p' a = hdc th pa p' a := by simp [hdc, pu_c]
/-- an address that no picture has -/
def nP (th : Nat → Bool) (pa : Nat → Nat → Nat) (q : Nat) : Prop := ∀ c p, c < 7 → th c = true → p < 16 → pa c p ≠ q
theorem hdc_0 {th : Nat → Bool} {pa : Nat → Nat → Nat} {q p : Nat} (n : nP th pa q) (hp : p < 16) : hdc th pa p q = 0 := by
  rw [hdc, List.countP_eq_zero]
  intro j hj
  rw [List.mem_range] at hj
  cases ht : th (j + 1) with
  | false => simp
  | true => simpa using n (j + 1) p (by omega) ht hp
theorem hdc_pos {th : Nat → Bool} {pa : Nat → Nat → Nat} {p a : Nat} : 0 < hdc th pa p a ↔ ∃ j, j < 6 ∧ th (j + 1) = true ∧ pa (j + 1) p = a := by
  rw [hdc, List.countP_pos_iff]
  constructor
  · rintro ⟨j, hj, q⟩
    simp at hj q
    exact ⟨j, hj, q.1, q.2⟩
  · rintro ⟨j, hj, q1, q2⟩
    exact ⟨j, by simpa using hj, by simp [q1, q2]⟩
/-- page p of now, made ready to be changed -/
def Tc (th : Nat → Bool) (p : Nat) (o : OV) (pa : Nat → Nat → Nat) (Lp : Nat → List (Option EV)) (o' : OV) (pa' : Nat → Nat → Nat) (Lp' : Nat → List (Option EV)) : Prop :=
  (hdc th pa p (pa 0 p) = 0 ∧ o' = o ∧ pa' = pa ∧ Lp' = Lp) ∨ (0 < hdc th pa p (pa 0 p) ∧ o' = (o.1, o.2.1 + nI 1, o.2.2) ∧ ∃ q, nP th pa q ∧ pa' = pu pa p q ∧ Lp' = va_up Lp q (Lp (pa 0 p)))
section Obj
variable {l : Launch} {K : Kx} {h h' : Hp} {x : Nat} {ad : Nat → Nat → Nat} {o : OV} {nm : Nat → Int32} {th : Nat → Bool} {nu : Nat → Int32} {sc : Nat → Nat} {kd ty : Nat → Nat → Int32} {pa : Nat → Nat → Nat} {Lp : Nat → List (Option EV)} {rw : Nat → Nat}
theorem PicR.fr {K : Kx} {h h' : Hp} {ad : Nat → Nat} {num : Int32} {sc : Nat} {pg : Nat → Nat} {kd ty : Nat → Int32} (P : PicR K h ad num sc pg kd ty) (f : ∀ k X, k < 4 → h (ad k) = some X → (tagOf X = .inr 2 ∨ tagOf X = .inl (K.2.1 4) ∨ tagOf X = .inl (K.2.1 0)) → h' (ad k) = some X) : PicR K h' ad num sc pg kd ty := by
  obtain ⟨h1, ⟨g, h2, h3⟩, h4, h5⟩ := P
  exact ⟨f _ _ (by decide) h1 (Or.inl rfl), ⟨g, f _ _ (by decide) h2 (Or.inr (Or.inl rfl)), h3⟩, f _ _ (by decide) h4 (Or.inr (Or.inr rfl)), f _ _ (by decide) h5 (Or.inr (Or.inr rfl))⟩
theorem CR.live (C : CR K h x ad o nm th nu sc kd ty pa Lp rw) {q : Nat} (hq : h q = none) : nP th pa q := fun c p hc ht hp z => by
  have := (C.g hc ht hp).1.1
  rw [z, hq] at this; cases this
/-- what page p of now has, is another thing; it is held by no snapshot -/
theorem CR.page {p rw2 : Nat} {L2 : List (Option EV)} (C : CR K h x ad o nm th nu sc kd ty pa Lp rw) (hp : p < 16) (h0 : hdc th pa p (pa 0 p) = 0) (P2 : PgAt K h' (pa 0 p) rw2 L2 (nI 0)) (ok : okL L2) (hl0 : 0 < L2.length) (hl : L2.length ≤ 300) (i : Imm K h h')
    (fr : ∀ a X, h a = some X → a ≠ pa 0 p → a ≠ rw (pa 0 p) → h' a = some X) (hr : rw2 = rw (pa 0 p) ∨ h rw2 = none) : CR K h' x ad o nm th nu sc kd ty pa (va_up Lp (pa 0 p) L2) (va_up rw (pa 0 p) rw2) ∧ FF K h h' := by
  have C' := C
  have ki := C.ki
  have G0 := C.g0 hp
  obtain ⟨⟨c1, c2⟩, c3, ⟨f, c4, c5⟩, ⟨g, c6⟩, c7, c8, c9, c10, c11⟩ := C
  obtain ⟨g1, fg, g2, g3⟩ := G0.1
  have fr2 : ∀ a X, h a = some X → tagOf X ≠ .inr 1 → tagOf X ≠ .inl (K.2.1 3) → h' a = some X := fun a X e t1 t2 => fr a X e (ne_tag e g1 t1) (ne_tag e g2 t2)
  have ff : FF K h h' := fun a z => by
    obtain ⟨X, e⟩ := c10.2.2 a z
    rw [e]
    exact fr a X e (fun y => G0.2.2.2.2.1 (y ▸ z)) (fun y => G0.2.2.2.2.2 (y ▸ z))
  have nf2 : ¬ fK K rw2 := by
    rcases hr with z | z
    · rw [z]; exact G0.2.2.2.2.2
    · exact c10.2.2.n z
  refine ⟨⟨⟨c1, fr2 _ _ c2 (by simp [tag_O]) (by simp [tag_O])⟩, fr2 _ _ c3 (by simp [tag_I]) (ki.ne (by decide) (by decide) (by decide)), ⟨f, fr2 _ _ c4 (by simp [tag_Q]) (ki.ne (by decide) (by decide) (by decide)), c5⟩, ⟨g, fr2 _ _ c6 (by simp [tag_J]) (ki.ne (by decide) (by decide) (by decide))⟩, ?_, ?_, ?_, c10.fr ff i, c11⟩, ff⟩
  · intro c hc ht
    refine (c7 c hc ht).fr fun k X _ e t => fr2 _ _ e ?_ ?_
    · rcases t with t | t | t <;> rw [t] <;> simp
    · rcases t with t | t | t <;> rw [t]
      · simp
      · exact ki.ne (by decide) (by decide) (by decide)
      · exact ki.ne (by decide) (by decide) (by decide)
  · intro c hc ht p' hp'
    by_cases y : pa c p' = pa 0 p
    · have : p' = p := c9.2.2.2.2.2.1 c 0 p' p hc (by decide) ht c9.1 hp' hp y
      subst this
      rw [y, h0]
      refine ⟨?_, ?_, ?_, ?_, G0.2.2.2.2.1, ?_⟩
      · rw [up_s, up_s]; exact P2
      · rw [up_s]; exact ok
      · rw [up_s]; exact hl0
      · rw [up_s]; exact hl
      · rw [up_s]; exact nf2
    · have G := c8 c hc ht p' hp'
      obtain ⟨e1, ef, e2, e3⟩ := G.1
      have n2 : rw (pa c p') ≠ rw (pa 0 p) := fun z => y (c9.2.2.2.2.2.2 c 0 p' p hc (by decide) ht c9.1 hp' hp z)
      refine ⟨?_, ?_, ?_, ?_, G.2.2.2.2.1, ?_⟩
      · rw [up_n y, up_n y]
        exact G.1.imm G.2.1 i ((fr _ _ e1 y (ne_tag e1 g2 (by simp [tag_O, tag_Q]))).trans e1.symm) ((fr _ _ e2 (ne_tag e2 g1 (by simp [tag_O, tag_Q])) n2).trans e2.symm)
      · rw [up_n y]; exact G.2.1
      · rw [up_n y]; exact G.2.2.1
      · rw [up_n y]; exact G.2.2.2.1
      · rw [up_n y]; exact G.2.2.2.2.2
  · obtain ⟨d1, d2, d3, d4, d5, d6, d7⟩ := c9
    refine ⟨d1, d2, d3, d4, d5, d6, ?_⟩
    intro c c' p1 p2 hc hc' ht ht' hp1 hp2 z
    by_cases y1 : pa c p1 = pa 0 p
    · by_cases y2 : pa c' p2 = pa 0 p
      · rw [y1, y2]
      · exfalso
        rw [y1, up_s, up_n y2] at z
        rcases hr with w | w
        · rw [w] at z
          exact y2 (d7 0 c' p p2 (by decide) hc' d1 ht' hp hp2 z).symm
        · obtain ⟨_, _, e2, _⟩ := (c8 c' hc' ht' p2 hp2).1
          rw [← z, w] at e2; cases e2
    · by_cases y2 : pa c' p2 = pa 0 p
      · exfalso
        rw [y2, up_s, up_n y1] at z
        rcases hr with w | w
        · rw [w] at z
          exact y1 (d7 c 0 p1 p hc (by decide) ht d1 hp1 hp z)
        · obtain ⟨_, _, e2, _⟩ := (c8 c hc ht p1 hp1).1
          rw [z, w] at e2; cases e2
      · rw [up_n y1, up_n y2] at z
        exact d7 c c' p1 p2 hc hc' ht ht' hp1 hp2 z
theorem sp_pageToChange {p mc ms : Nat} (htr : l.stackTraces = false) (C : CR K h x ad o nm th nu sc kd ty pa Lp rw) (hp : p < 16) (hm : 3 ≤ mc) (hs : 306 ≤ ms) :
    mX3_pageToChange l K mc ms [.ref x, .int (nI p)] h (kQ fun w h' => ∃ o' pa' Lp' rw', w = some (pa' 0 p) ∧ Tc th p o pa Lp o' pa' Lp' ∧ CR K h' x ad o' nm th nu sc kd ty pa' Lp' rw' ∧ hdc th pa' p (pa' 0 p) = 0 ∧ FF K h h' ∧ Imm K h h') := by
  have ki := C.ki
  have G0 := C.g0 hp
  obtain ⟨p1, ⟨g, p2, p3⟩, p4, p5⟩ := C.p0
  refine fX3_pageToChange htr ⟨_, gf_of C.xx, _, gf_of p1, _, aQ_x p2 hp (by omega), pa 0 p, p3 p hp, G0.obj, by omega, by omega, ?_⟩
  refine (sp_isShared htr G0.1).I ?_
  rintro r h' ⟨rfl, rfl⟩
  have hle := hdc_le th pa p (pa 0 p)
  refine ⟨fun q => ⟨⟨by omega, by omega⟩, kQ_ref ?_⟩, fun q => ⟨G0.obj, 3, 306, by omega, by omega, ?_⟩⟩
  · have hz : hdc th pa p (pa 0 p) = 0 := Nat.eq_zero_of_not_pos fun z => bI_0.mp q (Int32.not_le.mp (nI_ge z (by omega)))
    exact ⟨o, pa, Lp, rw, rfl, Or.inl ⟨hz, rfl, rfl, rfl⟩, C, hz, FF.rf, Imm.rf⟩
  · have hz : 0 < hdc th pa p (pa 0 p) := Nat.pos_of_ne_zero fun z => q (bI_0.mpr (Int32.not_lt.mpr (by rw [z]; exact nI_le (Nat.le_refl _) (by decide))))
    refine (sp_copied htr G0.1 G0.2.1 (Nat.le_refl _) (by have := G0.2.2.2.1; omega)).Q ?_
    rintro w h1 ⟨q, rw', rfl, hq, hrw, hqr, hb, P1, hx⟩
    have hn := C.live hq
    have C1 := C.ext hx
    obtain ⟨p1', ⟨g', p2', p3'⟩, p4', p5'⟩ := C1.p0
    have hxa : x ≠ ad 0 1 := ne_tag C1.xx p2' (by simp [tag_O, tag_Q])
    have ex2 : va_up h1 (ad 0 1) (some (xQ K 4 16 (va_up g' p (some q)))) x = some (xob ad o) := by rw [up_n hxa]; exact C1.xx
    refine ⟨_, gf_of C1.xx, _, gf_of p1', fun v9 z => ?_, _, wQ_x p2' hp (by omega), _, gf_of ex2, _, pf_of ex2 (by simp), ⟨by omega, by omega⟩, ?_⟩
    · cases z; exact ⟨_, P1.1⟩
    · have C9 := C1
      obtain ⟨⟨c1, c2⟩, c3, ⟨f, c4, c5⟩, ⟨gg, c6⟩, c7, c8, c9, c10, c11⟩ := C1
      obtain ⟨d1, d2, d3, d4, d5, d6, d7⟩ := c9
      generalize hh3 : va_up (va_up h1 (ad 0 1) (some (xQ K 4 16 (va_up g' p (some q))))) x (some (xO 3 ([Value.ref (ad 7 0), .ref (ad 0 0), .ref (ad 7 1), .ref (ad 7 2), .int o.1, .int o.2.1, .int o.2.2.1, .long o.2.2.2.1, .int o.2.2.2.2].set 5 (.int (o.2.1 + nI 1))))) = h3
      have fr : ∀ a X, h1 a = some X → a ≠ ad 0 1 → a ≠ x → h3 a = some X := fun a X e n1 n2 => by rw [← hh3, up_n n2, up_n n1]; exact e
      have fr2 : ∀ a X, h1 a = some X → tagOf X ≠ .inr 3 → tagOf X ≠ .inl (K.2.1 4) → h3 a = some X := fun a X e t1 t2 => fr a X e (ne_tag e p2' t2) (ne_tag e c2 t1)
      have e1 : h3 (ad 0 1) = some (xQ K 4 16 (va_up g' p (some q))) := by rw [← hh3, up_n (fun z => hxa z.symm), up_s]
      have e2 : h3 x = some (xob ad (o.1, o.2.1 + nI 1, o.2.2)) := by rw [← hh3, up_s]; rfl
      have im3 : Imm K h1 h3 := fun a X n e t => fr2 a X e (by rcases tag_im t with z | z <;> rw [z] <;> simp) (by rcases tag_im t with z | z <;> rw [z]; (· simp); (· exact ki.ne (by decide) (by decide) (by decide)))
      have ff3 : FF K h1 h3 := fun a z => by
        obtain ⟨X, e⟩ := c10.2.2 a z
        rw [e]
        exact fr a X e (fun y => (d4 0 1 (by decide) d1 (by decide)).2 (y ▸ z)) (fun y => c1 (y ▸ z))
      have pg3 : ∀ a b L c, PgAt K h1 a b L c → PgAt K h3 a b L c := by
        rintro a b L c ⟨q1, ff, q2, q3⟩
        refine ⟨fr2 _ _ q1 (by simp [tag_O]) (by simp [tag_O]), ff, fr2 _ _ q2 (by simp [tag_Q]) (ki.ne (by decide) (by decide) (by decide)), fun j hj => ⟨(q3 j hj).1, fun v hv => ?_⟩⟩
        obtain ⟨e, y1, nu, me, b1, b2, b3, nf⟩ := (q3 j hj).2 v hv
        exact ⟨e, y1, nu, me, fr2 _ _ b1 (by simp [tag_O]) (by simp [tag_O]), fr2 _ _ b2 (by simp [tag_J]) (ki.ne (by decide) (by decide) (by decide)), fr2 _ _ b3 (by simp [tag_J]) (ki.ne (by decide) (by decide) (by decide)), nf⟩
      have hqp : ∀ c p', c < 7 → th c = true → p' < 16 → pa c p' ≠ q := hn
      refine ⟨some q, rfl, (o.1, o.2.1 + nI 1, o.2.2), pu pa p q, va_up Lp q (Lp (pa 0 p)), va_up rw q rw', by rw [pu_s], Or.inr ⟨hz, rfl, q, hn, rfl, rfl⟩, ⟨⟨c1, e2⟩, fr2 _ _ c3 (by simp [tag_I]) (ki.ne (by decide) (by decide) (by decide)), ⟨f, fr2 _ _ c4 (by simp [tag_Q]) (ki.ne (by decide) (by decide) (by decide)), c5⟩, ⟨gg, fr2 _ _ c6 (by simp [tag_J]) (ki.ne (by decide) (by decide) (by decide))⟩, ?_, ?_, ⟨d1, d2, d3, d4, d5, ?_, ?_⟩, c10.fr ff3 im3, c11⟩, by rw [pu_s, hdc_pu]; exact hdc_0 hn hp, (FF.ext C.e.2.2 hx).tr ff3, hx.imm.tr im3⟩
      · intro c hc ht
        by_cases hc0 : c = 0
        · subst hc0
          refine ⟨fr2 _ _ p1' (by simp [tag_O]) (by simp [tag_O]), ⟨_, e1, fun p' hp' => ?_⟩, fr2 _ _ p4' (by simp [tag_I]) (ki.ne (by decide) (by decide) (by decide)), fr2 _ _ p5' (by simp [tag_I]) (ki.ne (by decide) (by decide) (by decide))⟩
          by_cases y : p' = p
          · subst y; rw [up_s, pu_s]
          · rw [up_n y, pu_n (fun z => y z.2)]; exact p3' p' hp'
        · have : pu pa p q c = pa c := by funext p'; exact pu_n (fun z => hc0 z.1)
          rw [this]
          refine (c7 c hc ht).fr fun k X hk e t => fr _ _ e (fun z => hc0 (d5 c 0 k 1 hc (by decide) ht d1 hk (by decide) z).1) (ne_tag e c2 ?_)
          rcases t with t | t | t <;> rw [t] <;> simp [tag_O]
      · intro c hc ht p' hp'
        rw [hdc_pu]
        by_cases y : c = 0 ∧ p' = p
        · obtain ⟨rfl, rfl⟩ := y
          rw [pu_s, hdc_0 hn hp]
          refine ⟨?_, ?_, ?_, ?_, C.e.2.2.n hq, ?_⟩
          · rw [up_s, up_s]; exact pg3 _ _ _ _ P1
          · rw [up_s]; exact G0.2.1
          · rw [up_s]; exact G0.2.2.1
          · rw [up_s]; exact G0.2.2.2.1
          · rw [up_s]; exact C.e.2.2.n hrw
        · rw [pu_n y]
          have n := hqp c p' hc ht hp'
          have G := c8 c hc ht p' hp'
          refine ⟨?_, ?_, ?_, ?_, G.2.2.2.2.1, ?_⟩
          · rw [up_n n, up_n n]; exact pg3 _ _ _ _ G.1
          · rw [up_n n]; exact G.2.1
          · rw [up_n n]; exact G.2.2.1
          · rw [up_n n]; exact G.2.2.2.1
          · rw [up_n n]; exact G.2.2.2.2.2
      · intro c c' a b hc hc' ht ht' ha hb z
        by_cases y : c = 0 ∧ a = p
        · by_cases y' : c' = 0 ∧ b = p
          · rw [y.2, y'.2]
          · exfalso
            obtain ⟨rfl, rfl⟩ := y
            rw [pu_s, pu_n y'] at z
            exact hqp c' b hc' ht' hb z.symm
        · by_cases y' : c' = 0 ∧ b = p
          · exfalso
            obtain ⟨rfl, rfl⟩ := y'
            rw [pu_s, pu_n y] at z
            exact hqp c a hc ht ha z
          · rw [pu_n y, pu_n y'] at z
            exact d6 c c' a b hc hc' ht ht' ha hb z
      · have nr : ∀ c p', c < 7 → th c = true → p' < 16 → rw (pa c p') ≠ rw' := fun c p' hc ht hp' z => by
          obtain ⟨_, _, e2, _⟩ := (C.g hc ht hp').1
          rw [z, hrw] at e2; cases e2
        intro c c' a b hc hc' ht ht' ha hb z
        by_cases y : c = 0 ∧ a = p
        · by_cases y' : c' = 0 ∧ b = p
          · rw [y.2, y'.2, y.1, y'.1]
          · exfalso
            obtain ⟨rfl, rfl⟩ := y
            rw [pu_s, pu_n y', up_s, up_n (hqp c' b hc' ht' hb)] at z
            exact nr c' b hc' ht' hb z.symm
        · by_cases y' : c' = 0 ∧ b = p
          · exfalso
            obtain ⟨rfl, rfl⟩ := y'
            rw [pu_s, pu_n y, up_s, up_n (hqp c a hc ht ha)] at z
            exact nr c a hc ht ha z
          · rw [pu_n y, pu_n y'] at z ⊢
            rw [up_n (hqp c a hc ht ha), up_n (hqp c' b hc' ht' hb)] at z
            exact d7 c c' a b hc hc' ht ht' ha hb z
end Obj
