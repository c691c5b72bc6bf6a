/-! ===== the class: snapshots, taken and dropped ===== -/
/-- pages p below j hold d p, the others c p; all else as in h -/
def HN (h : Hp) (pg : Nat → Nat) (rw : Nat → Nat) (c d : Nat → Int32) (j : Nat) (H : Hp) : Prop :=
  (∀ p, p < 16 → H (pg p) = some (xO 1 [.ref (rw (pg p)), .int (if p < j then d p else c p)])) ∧ ∀ a, (∀ p, p < 16 → a ≠ pg p) → H a = h a
theorem HN.step {h H : Hp} {pg rw : Nat → Nat} {c d : Nat → Int32} {j : Nat} (w : HN h pg rw c d j H) (inj : ∀ p p', p < 16 → p' < 16 → pg p = pg p' → p = p') (hj : j < 16) : HN h pg rw c d (j + 1) (va_up H (pg j) (some (xO 1 [.ref (rw (pg j)), .int (d j)]))) := by
  refine ⟨fun p hp => ?_, fun a ha => by rw [up_n (ha j hj)]; exact w.2 a ha⟩
  by_cases y : p = j
  · subst y; rw [up_s, if_pos (Nat.lt_succ_self _)]
  · rw [up_n (fun z => y (inj p j hp hj z)), w.1 p hp]
    by_cases z : p < j
    · rw [if_pos z, if_pos (by omega)]
    · rw [if_neg z, if_neg (by omega)]
section Obj
variable {l : Launch} {K : Kx} {h h' : Hp} {x : Nat} {ad : Nat → Nat → Nat} {o : OV} {nm : Nat → Int32} {th : Nat → Bool} {nu : Nat → Int32} {sc : Nat → Nat} {kd ty : Nat → Nat → Int32} {pa : Nat → Nat → Nat} {Lp : Nat → List (Option EV)} {rw : Nat → Nat} {s : Int32} {mc ms : Nat}
theorem CR.inj (C : CR K h x ad o nm th nu sc kd ty pa Lp rw) {c : Nat} (hc : c < 7) (ht : th c = true) : ∀ p p', p < 16 → p' < 16 → pa c p = pa c p' → p = p' := fun p p' hp hp' z => C.d.2.2.2.2.2.1 c c p p' hc hc ht ht hp hp' z
theorem CR.hn0 (C : CR K h x ad o nm th nu sc kd ty pa Lp rw) {c : Nat} (hc : c < 7) (ht : th c = true) (d : Nat → Int32) : HN h (pa c) rw (fun p => nI (hdc th pa p (pa c p))) d 0 h := ⟨fun p hp => by rw [if_neg (Nat.not_lt_zero p)]; exact (C.g hc ht hp).1.1, fun _ _ => rfl⟩
theorem sp_releasePages {c : Nat} (htr : l.stackTraces = false) (C : CR K h x ad o nm th nu sc kd ty pa Lp rw) (hc : c < 7) (ht : th c = true) (hpos : ∀ p, p < 16 → 0 < hdc th pa p (pa c p)) :
    mX2_releasePages l K [.ref (ad c 0)] h (kV fun h' => HN h (pa c) rw (fun p => nI (hdc th pa p (pa c p))) (fun p => nI (hdc th pa p (pa c p) - 1)) 16 h') := by
  obtain ⟨p1, ⟨g, p2, p3⟩, p4, p5⟩ := C.p hc ht
  refine fX2_releasePages htr ?_
  intro X hX
  refine loopN (n := 16) (fun j => ∀ H, HN h (pa c) rw (fun p => nI (hdc th pa p (pa c p))) (fun p => nI (hdc th pa p (pa c p) - 1)) j H → X (nI j) H) ?_ ?_ 0 (Nat.zero_le _) h (C.hn0 hc ht _)
  · intro H w
    exact hX _ _ ⟨fun _ => ⟨rfl, w⟩, fun q => absurd (nI_le (Nat.le_refl _) (by omega)) q⟩
  · intro j hj ih H w
    have ne : ∀ a X, h a = some X → tagOf X ≠ .inr 1 → H a = some X := fun a X e t => by rw [w.2 a fun p hp => ne_tag e (C.g hc ht hp).1.1 t]; exact e
    have wj := w.1 j hj
    rw [if_neg (Nat.lt_irrefl j)] at wj
    refine hX _ _ ⟨fun q => absurd q (nI_ge hj (by omega)), fun q => ⟨_, gf_of (ne _ _ p1 (by simp [tag_O])), _, aQ_x (ne _ _ p2 (by simp [tag_Q])) hj (by omega), pa c j, p3 j hj, _, gf_of wj, _, pf_of wj (by simp), ?_⟩⟩
    rw [nI_sub1, pk_sub (hpos j hj)]
    exact ih _ (w.step (C.inj hc ht) hj)
/-- a snapshot is there no longer -/
theorem CR.drop {j : Nat} {h2 : Hp} (C : CR K h x ad o nm th nu sc kd ty pa Lp rw) (hj : j < 6) (ht : th (j + 1) = true) (w : HN h (pa (j + 1)) rw (fun p => nI (hdc th pa p (pa (j + 1) p))) (fun p => nI (hdc th pa p (pa (j + 1) p) - 1)) 16 h2) :
    ∃ f, h2 (ad 7 1) = some (xQ K 5 6 f) ∧ CR K (va_up h2 (ad 7 1) (some (xQ K 5 6 (va_up f j none)))) x ad o nm (va_up th (j + 1) false) nu sc kd ty pa Lp rw ∧ FF K h (va_up h2 (ad 7 1) (some (xQ K 5 6 (va_up f j none)))) := by
  have ki := C.ki
  have C9 := C
  obtain ⟨⟨c1, c2⟩, c3, ⟨f, c4, c5⟩, ⟨g, c6⟩, c7, c8, c9, c10, c11⟩ := C
  obtain ⟨d1, d2, d3, d4, d5, d6, d7⟩ := c9
  have ne : ∀ a X, h a = some X → tagOf X ≠ .inr 1 → h2 a = some X := fun a X e t => by rw [w.2 a fun p hp => ne_tag e (c8 (j + 1) (by omega) ht p hp).1.1 t]; exact e
  have e4 := ne _ _ c4 (by simp [tag_Q])
  refine ⟨f, e4, ?_⟩
  generalize hh : va_up h2 (ad 7 1) (some (xQ K 5 6 (va_up f j none))) = h3
  have fr : ∀ a X, h a = some X → tagOf X ≠ .inr 1 → tagOf X ≠ .inl (K.2.1 5) → h3 a = some X := fun a X e t1 t2 => by rw [← hh, up_n (ne_tag e c4 t2)]; exact ne a X e t1
  have pg3 : ∀ p, p < 16 → h3 (pa (j + 1) p) = some (xO 1 [.ref (rw (pa (j + 1) p)), .int (nI (hdc th pa p (pa (j + 1) p) - 1))]) := fun p hp => by
    have e := (c8 (j + 1) (by omega) ht p hp).1.1
    rw [← hh, up_n (ne_tag e c4 (by simp [tag_O, tag_Q])), w.1 p hp, if_pos hp]
  have pgo : ∀ a X, h a = some X → tagOf X = .inr 1 → (∀ p, p < 16 → a ≠ pa (j + 1) p) → h3 a = some X := fun a X e t n => by rw [← hh, up_n (ne_tag e c4 (by rw [t]; simp [tag_Q])), w.2 a n]; exact e
  have im1 : Imm K h h3 := fun a X n e t => fr a X e (by rcases tag_im t with z | z <;> rw [z] <;> simp) (by rcases tag_im t with z | z <;> rw [z]; (· simp); (· exact ki.ne (by decide) (by decide) (by decide)))
  have ff : FF K h h3 := fun a z => by
    have n1 : a ≠ ad 7 1 := fun y => d3 1 (by decide) (y ▸ z)
    rw [← hh, up_n n1]
    exact w.2 a fun p hp y => (c8 (j + 1) (by omega) ht p hp).2.2.2.2.1 (y ▸ z)
  have th' : ∀ c, va_up th (j + 1) false c = true → c ≠ j + 1 ∧ th c = true := fun c z => by
    by_cases y : c = j + 1
    · subst y; rw [up_s] at z; cases z
    · rw [up_n y] at z; exact ⟨y, z⟩
  refine ⟨⟨⟨c1, fr _ _ c2 (by simp [tag_O]) (by simp [tag_O])⟩, fr _ _ c3 (by simp [tag_I]) (ki.ne (by decide) (by decide) (by decide)), ⟨va_up f j none, by rw [← hh, up_s], fun i hi => ?_⟩, ⟨g, fr _ _ c6 (by simp [tag_J]) (ki.ne (by decide) (by decide) (by decide))⟩, fun c hc ht2 => ?_, fun c hc ht2 p hp => ?_, ?_, c10.fr ff im1, c11⟩, ff⟩
  · by_cases y : i = j
    · subst y; rw [up_s, up_s]; simp
    · rw [up_n y, up_n (by omega)]; exact c5 i hi
  · refine (c7 c hc (th' c ht2).2).fr fun k X _ e t => fr _ _ e ?_ ?_
    · rcases t with t | t | t <;> rw [t] <;> simp
    · rcases t with t | t | t <;> rw [t]
      · simp
      · exact ki.ne (by decide) (by decide) (by decide)
      · exact ki.ne (by decide) (by decide) (by decide)
  · have G := c8 c hc (th' c ht2).2 p hp
    have hd := hdc_del (pa := pa) hj ht p (pa c p)
    obtain ⟨q1, f9, q2, q3⟩ := G.1
    have q2' := fr _ _ q2 (by simp [tag_Q]) (ki.ne (by decide) (by decide) (by decide))
    refine ⟨⟨?_, f9, q2', q3.imm G.2.1 im1⟩, G.2⟩
    by_cases y : pa (j + 1) p = pa c p
    · rw [if_pos y] at hd
      have := pg3 p hp
      rw [y, show hdc th pa p (pa c p) - 1 = hdc (va_up th (j + 1) false) pa p (pa c p) by omega] at this
      exact this
    · rw [if_neg y] at hd
      rw [show hdc (va_up th (j + 1) false) pa p (pa c p) = hdc th pa p (pa c p) by omega]
      exact pgo _ _ q1 rfl fun p' hp' z => y (by
        have := d6 c (j + 1) p p' hc (by omega) (th' c ht2).2 ht hp hp' z
        subst this; exact z.symm)
  · refine ⟨by rw [up_n (by omega)]; exact d1, d2, d3, fun c k hc t => d4 c k hc (th' c t).2, fun c c' k k' hc hc' t t' => d5 c c' k k' hc hc' (th' c t).2 (th' c' t').2, fun c c' p p' hc hc' t t' => d6 c c' p p' hc hc' (th' c t).2 (th' c' t').2, fun c c' p p' hc hc' t t' => d7 c c' p p' hc hc' (th' c t).2 (th' c' t').2⟩
theorem sp_drop {n : Int32} (htr : l.stackTraces = false) (C : CR K h x ad o nm th nu sc kd ty pa Lp rw) (hm : 40 ≤ mc) (hs : 1200 ≤ ms) :
    mX3_drop l K mc ms [.ref x, .int n] h (kIX (fun r h' => ∃ j, j < 6 ∧ th (j + 1) = true ∧ nu (j + 1) = n ∧ r = nI ((List.range 16).countP (fun p => decide (0 < hdc (va_up th (j + 1) false) pa p (pa 0 p)))) ∧ CR K h' x ad o nm (va_up th (j + 1) false) nu sc kd ty pa Lp rw ∧ FF K h h')
      (fun E h' => h' = h ∧ E = exN 1 ∧ ∀ j, j < 6 → th (j + 1) = true → nu (j + 1) ≠ n)) := by
  refine fX3_drop htr ⟨C.ob, by omega, by omega, ?_⟩
  refine (sp_slotOf htr C).I ?_
  rintro r h' ⟨z, rfl⟩
  refine ⟨C.ob, 1, 6, by omega, by omega, ?_⟩
  rcases z with ⟨j, hj, rfl, t, hn⟩ | ⟨rfl, hn⟩
  · refine (sp_snapshotIn_s htr C hj t).QX ?_ (fun E h' z => z.elim)
    rintro w h9 ⟨rfl, rfl⟩
    refine ⟨_, rfl, ⟨_, (C.p (by omega) t).1⟩, by omega, by omega, ?_⟩
    refine (sp_releasePages htr C (by omega) t (fun p hp => hdc_pos.mpr ⟨j, hj, t, rfl⟩)).V ?_
    intro h2 w2
    obtain ⟨f, e4, C3, ff⟩ := C.drop hj t w2
    have e1 : h2 x = some (xob ad o) := by rw [w2.2 x fun p hp => ne_tag C.xx (C.g (by omega) t hp).1.1 (by simp [tag_O])]; exact C.xx
    refine ⟨_, gf_of e1, _, wQ_x e4 hj (by omega), _, gf_of C3.xx, ⟨_, C3.p0.1⟩, by omega, by omega, ?_⟩
    refine (sp_picCountShared htr C3.p0 (fun p hp => C3.g0 hp) (fun p hp => by have := hdc_le (va_up th (j + 1) false) pa p (pa 0 p); omega)).I ?_
    rintro r h9 ⟨rfl, rfl⟩
    exact ⟨⟨by omega, by omega⟩, Or.inl ⟨_, rfl, j, hj, t, hn, rfl, C3, ff⟩⟩
  · refine (sp_snapshotIn_n htr (Nat.le_refl _) (Nat.le_refl _)).QX (fun w h' z => z.elim) ?_
    rintro E h' ⟨rfl, rfl⟩
    exact Or.inr ⟨_, rfl, rfl, rfl, hn⟩
/-- the addresses of a new picture -/
def adn (q b1 b2 b3 : Nat) : Nat → Nat := fun k => if k = 0 then q else if k = 1 then b1 else if k = 2 then b2 else b3
theorem sp_taken {n : Int32} (htr : l.stackTraces = false) (C : CR K h x ad o nm th nu sc kd ty pa Lp rw) (hm : 4 ≤ mc) (hs : 37 ≤ ms) :
    mX2_taken l K mc ms [.ref (ad 0 0), .int n] h (kQ fun w h' => ∃ q b1 b2 b3 h3 kf tf, w = some q ∧ h q = none ∧ h b1 = none ∧ h b2 = none ∧ h b3 = none ∧ (∀ k k', k < 4 → k' < 4 → adn q b1 b2 b3 k = adn q b1 b2 b3 k' → k = k') ∧ Ext h h3 ∧ PicR K h3 (adn q b1 b2 b3) n (sc 0) (pa 0) kf tf ∧ (∀ s, s < 8 → kf s = kd 0 s ∧ tf s = ty 0 s) ∧ HN h3 (pa 0) rw (fun p => nI (hdc th pa p (pa 0 p))) (fun p => nI (hdc th pa p (pa 0 p) + 1)) 16 h') := by
  refine fX2_taken htr ⟨by omega, by omega, ?_⟩
  rintro q h2 hq - rfl
  refine ⟨3, 32, by omega, by omega, ?_⟩
  have x2 : Ext h (va_up h q (some (xO 2 [.int 0, .null, .null, .null, .int 0]))) := Ext.rf.up hq
  have C2 := C.ext x2
  refine (sp_picInit_ htr (up_s _ _ _) rfl (fun k hk z => ?_) C2.p0 (fun p hp => (C2.g0 hp).obj) (Nat.le_refl _) (Nat.le_refl _)).V ?_
  · obtain ⟨p1, ⟨g, p2, p3⟩, p4, p5⟩ := C.p0
    match k, hk with
    | 0, _ => exact ne_fresh p1 hq z
    | 1, _ => exact ne_fresh p2 hq z
    | 2, _ => exact ne_fresh p4 hq z
    | 3, _ => exact ne_fresh p5 hq z
  rintro h3 ⟨b1, b2, b3, g, kf, tf, hb1, hb2, hb3, b12, b13, b23, pn, hg, hk⟩
  obtain ⟨q1, hb1h⟩ := fresh2 hb1
  obtain ⟨q2, hb2h⟩ := fresh2 hb2
  obtain ⟨q3, hb3h⟩ := fresh2 hb3
  obtain ⟨n1, n2, n3, n4, n5⟩ := pn
  have x3 : Ext h h3 := fun a X e => by
    rw [n5 a (ne_fresh e hq) (ne_fresh e hb1h) (ne_fresh e hb2h) (ne_fresh e hb3h), up_n (ne_fresh e hq)]; exact e
  have C3 := C.ext x3
  intro X hX
  obtain ⟨p1, ⟨g', p2, p3⟩, p4, p5⟩ := C3.p0
  refine loopN (n := 16) (fun j => ∀ H, HN h3 (pa 0) rw (fun p => nI (hdc th pa p (pa 0 p))) (fun p => nI (hdc th pa p (pa 0 p) + 1)) j H → X (nI j) H (0 + 1 + 3) (0 + 5 + 32)) ?_ ?_ 0 (Nat.zero_le _) h3 (C3.hn0 (by decide) C.t0 _)
  · intro H w
    refine hX _ _ _ _ ⟨fun _ => ⟨⟨by omega, by omega⟩, kQ_ref ⟨q, b1, b2, b3, h3, kf, tf, rfl, hq, hb1h, hb2h, hb3h, ?_, x3, ⟨n1, ⟨g, n2, hg⟩, n3, n4⟩, hk, w⟩⟩, fun q => absurd (nI_le (Nat.le_refl _) (by omega)) q⟩
    intro k k' hk hk'
    match k, hk, k', hk' with
    | 0, _, 0, _ => intro _; rfl
    | 0, _, 1, _ => intro z; exact absurd z q1
    | 0, _, 2, _ => intro z; exact absurd z q2
    | 0, _, 3, _ => intro z; exact absurd z q3
    | 1, _, 0, _ => intro z; exact absurd z q1.symm
    | 1, _, 1, _ => intro _; rfl
    | 1, _, 2, _ => intro z; exact absurd z b12
    | 1, _, 3, _ => intro z; exact absurd z b13
    | 2, _, 0, _ => intro z; exact absurd z q2.symm
    | 2, _, 1, _ => intro z; exact absurd z b12.symm
    | 2, _, 2, _ => intro _; rfl
    | 2, _, 3, _ => intro z; exact absurd z b23
    | 3, _, 0, _ => intro z; exact absurd z q3.symm
    | 3, _, 1, _ => intro z; exact absurd z b13.symm
    | 3, _, 2, _ => intro z; exact absurd z b23.symm
    | 3, _, 3, _ => intro _; rfl
  · intro j hj ih H w
    have ne : ∀ a X, h3 a = some X → tagOf X ≠ .inr 1 → H a = some X := fun a X e t => by rw [w.2 a fun p hp => ne_tag e (C3.g0 hp).1.1 t]; exact e
    have wj := w.1 j hj
    rw [if_neg (Nat.lt_irrefl j)] at wj
    refine hX _ _ _ _ ⟨fun q => absurd q (nI_ge hj (by omega)), fun q => ⟨_, gf_of (ne _ _ p1 (by simp [tag_O])), _, aQ_x (ne _ _ p2 (by simp [tag_Q])) hj (by omega), pa 0 j, p3 j hj, _, gf_of wj, _, pf_of wj (by simp), ?_⟩⟩
    rw [nI_sub1, nI_sub1]
    exact ih _ (w.step (C3.inj (by decide) C.t0) hj)
/-- a snapshot is there -/
theorem CR.take {j q b1 b2 b3 : Nat} {n : Int32} {h3 h4 h6 : Hp} {kf tf : Nat → Int32} {f : Nat → Option Nat} {o' : OV} (C : CR K h x ad o nm th nu sc kd ty pa Lp rw) (hj : j < 6) (ht : th (j + 1) = false) (hq : h q = none) (hb1 : h b1 = none) (hb2 : h b2 = none) (hb3 : h b3 = none)
    (hinj : ∀ k k', k < 4 → k' < 4 → adn q b1 b2 b3 k = adn q b1 b2 b3 k' → k = k') (x3 : Ext h h3) (P : PicR K h3 (adn q b1 b2 b3) n (sc 0) (pa 0) kf tf) (w : HN h3 (pa 0) rw (fun p => nI (hdc th pa p (pa 0 p))) (fun p => nI (hdc th pa p (pa 0 p) + 1)) 16 h4)
    (e4 : h4 (ad 7 1) = some (xQ K 5 6 f)) (hf : ∀ i, i < 6 → f i = if th (i + 1) = true then some (ad (i + 1) 0) else none) (h6e : h6 = va_up (va_up h4 (ad 7 1) (some (xQ K 5 6 (va_up f j (some q))))) x (some (xob ad o'))) :
    CR K h6 x (va_up ad (j + 1) (adn q b1 b2 b3)) o' nm (va_up th (j + 1) true) (va_up nu (j + 1) n) (va_up sc (j + 1) (sc 0)) (va_up kd (j + 1) kf) (va_up ty (j + 1) tf) (va_up pa (j + 1) (pa 0)) Lp rw ∧ FF K h h6 ∧ h6 q = some (xO 2 [.int n, .ref b1, .ref b2, .ref b3, .int (nI (sc 0))]) := by
  have ki := C.ki
  have hfr : ∀ k, h (adn q b1 b2 b3 k) = none := fun k => by
    unfold adn
    split
    · exact hq
    · split
      · exact hb1
      · split
        · exact hb2
        · exact hb3
  have C3 := C.ext x3
  have e0 : eK K h := C.e
  obtain ⟨⟨c1, c2⟩, c3, ⟨f', c4, c5⟩, ⟨g, c6⟩, c7, c8, c9, c10, c11⟩ := C3
  obtain ⟨d1, d2, d3, d4, d5, d6, d7⟩ := c9
  have ne : ∀ a X, h3 a = some X → tagOf X ≠ .inr 1 → h4 a = some X := fun a X e t => by rw [w.2 a fun p hp => ne_tag e (c8 0 (by decide) d1 p hp).1.1 t]; exact e
  have fr : ∀ a X, h3 a = some X → tagOf X ≠ .inr 1 → tagOf X ≠ .inl (K.2.1 5) → tagOf X ≠ .inr 3 → h6 a = some X := fun a X e t1 t2 t3 => by rw [h6e, up_n (ne_tag e c2 t3), up_n (ne_tag e c4 t2)]; exact ne a X e t1
  have pg6 : ∀ p, p < 16 → h6 (pa 0 p) = some (xO 1 [.ref (rw (pa 0 p)), .int (nI (hdc th pa p (pa 0 p) + 1))]) := fun p hp => by
    have e := (c8 0 (by decide) d1 p hp).1.1
    rw [h6e, up_n (ne_tag e c2 (by simp [tag_O])), up_n (ne_tag e c4 (by simp [tag_O, tag_Q])), w.1 p hp, if_pos hp]
  have pgo : ∀ a X, h3 a = some X → tagOf X = .inr 1 → (∀ p, p < 16 → a ≠ pa 0 p) → h6 a = some X := fun a X e t n => by rw [h6e, up_n (ne_tag e c2 (by rw [t]; simp [tag_O])), up_n (ne_tag e c4 (by rw [t]; simp [tag_Q])), w.2 a n]; exact e
  have im1 : Imm K h3 h6 := fun a X n e t => fr a X e (by rcases tag_im t with z | z <;> rw [z] <;> simp) (by rcases tag_im t with z | z <;> rw [z]; (· simp); (· exact ki.ne (by decide) (by decide) (by decide))) (by rcases tag_im t with z | z <;> rw [z] <;> simp)
  have ff3 : FF K h3 h6 := fun a z => by
    have n1 : a ≠ ad 7 1 := fun y => d3 1 (by decide) (y ▸ z)
    have n2 : a ≠ x := fun y => c1 (y ▸ z)
    rw [h6e, up_n n2, up_n n1]
    exact w.2 a fun p hp y => (c8 0 (by decide) d1 p hp).2.2.2.2.1 (y ▸ z)
  have exn : x ≠ ad 7 1 := ne_tag c2 c4 (by simp [tag_O, tag_Q])
  have a7 : va_up ad (j + 1) (adn q b1 b2 b3) 7 = ad 7 := up_n (by omega)
  have a0 : va_up ad (j + 1) (adn q b1 b2 b3) 0 = ad 0 := up_n (by omega)
  have th' : ∀ c, va_up th (j + 1) true c = true → c = j + 1 ∨ (c ≠ j + 1 ∧ th c = true) := fun c z => by
    by_cases y : c = j + 1
    · exact Or.inl y
    · rw [up_n y] at z; exact Or.inr ⟨y, z⟩
  have pick : ∀ c, c < 7 → va_up th (j + 1) true c = true → ∃ c0, c0 < 7 ∧ th c0 = true ∧ va_up pa (j + 1) (pa 0) c = pa c0 := fun c hc z => by
    rcases th' c z with y | y
    · subst y; exact ⟨0, by decide, d1, up_s _ _ _⟩
    · exact ⟨c, hc, y.2, up_n y.1⟩
  have old : ∀ c k, c < 7 → th c = true → k < 4 → ∃ X, h (ad c k) = some X := fun c k hc ht hk => by
    obtain ⟨p1, ⟨g, p2, p3⟩, p4, p5⟩ := C.p hc ht
    match k, hk with
    | 0, _ => exact ⟨_, p1⟩
    | 1, _ => exact ⟨_, p2⟩
    | 2, _ => exact ⟨_, p4⟩
    | 3, _ => exact ⟨_, p5⟩
  have picFr : ∀ {ad9 : Nat → Nat} {n9 : Int32} {s9 : Nat} {pg9 : Nat → Nat} {k9 t9 : Nat → Int32}, PicR K h3 ad9 n9 s9 pg9 k9 t9 → PicR K h6 ad9 n9 s9 pg9 k9 t9 := fun P => by
    refine P.fr fun k X _ e t => fr _ _ e ?_ ?_ ?_
    · rcases t with t | t | t <;> rw [t] <;> simp
    · rcases t with t | t | t <;> rw [t]
      · simp
      · exact ki.ne (by decide) (by decide) (by decide)
      · exact ki.ne (by decide) (by decide) (by decide)
    · rcases t with t | t | t <;> rw [t] <;> simp
  refine ⟨⟨⟨c1, ?_⟩, ?_, ⟨va_up f j (some q), ?_, fun i hi => ?_⟩, ⟨g, ?_⟩, fun c hc ht2 => ?_, fun c hc ht2 p hp => ?_, ?_, c10.fr ff3 im1, c11⟩, (FF.ext e0.2.2 x3).tr ff3, ?_⟩
  · rw [h6e, up_s]
    simp only [xob, a7, a0]
  · rw [a7]; exact fr _ _ c3 (by simp [tag_I]) (ki.ne (by decide) (by decide) (by decide)) (by simp [tag_I])
  · rw [a7, h6e, up_n exn.symm, up_s]
  · by_cases y : i = j
    · subst y; rw [up_s, up_s, up_s]; rfl
    · rw [up_n y, up_n (by omega), up_n (by omega)]; exact hf i hi
  · rw [a7]; exact fr _ _ c6 (by simp [tag_J]) (ki.ne (by decide) (by decide) (by decide)) (by simp [tag_J])
  · rcases th' c ht2 with y | y
    · subst y
      rw [up_s, up_s, up_s, up_s, up_s, up_s]
      exact picFr P
    · rw [up_n y.1, up_n y.1, up_n y.1, up_n y.1, up_n y.1, up_n y.1]
      exact picFr (c7 c hc y.2)
  · obtain ⟨c0, hc0, ht0, ep⟩ := pick c hc ht2
    rw [hdc_add hj ht, ep]
    have G := c8 c0 hc0 ht0 p hp
    obtain ⟨q1, f9, q2, q3⟩ := G.1
    have q2' := fr _ _ q2 (by simp [tag_Q]) (ki.ne (by decide) (by decide) (by decide)) (by simp [tag_Q])
    refine ⟨⟨?_, f9, q2', q3.imm G.2.1 im1⟩, G.2⟩
    by_cases y : pa 0 p = pa c0 p
    · rw [if_pos y, ← y]; exact pg6 p hp
    · rw [if_neg y, Nat.add_zero]
      exact pgo _ _ q1 rfl fun p' hp' z => y (by
        have := d6 c0 0 p p' hc0 (by decide) ht0 d1 hp hp' z
        subst this; exact z.symm)
  · refine ⟨by rw [up_n (by omega)]; exact d1, by rw [a7]; exact d2, fun i hi => by rw [a7]; exact d3 i hi, fun c k hc t hk => ?_, fun c c' k k' hc hc' t t' hk hk' z => ?_, fun c c' p p' hc hc' t t' hp hp' z => ?_, fun c c' p p' hc hc' t t' hp hp' z => ?_⟩
    · rw [a7]
      rcases th' c t with y | y
      · subst y; rw [up_s]
        exact ⟨fun z => by (have := C.2.1; rw [← z, hfr] at this; cases this), e0.2.2.n (hfr k)⟩
      · rw [up_n y.1]; exact d4 c k hc y.2 hk
    · rcases th' c t with y | y
      · rcases th' c' t' with y' | y'
        · rw [y, y', up_s] at z
          exact ⟨y.trans y'.symm, hinj k k' hk hk' z⟩
        · exfalso
          rw [y, up_s, up_n y'.1] at z
          obtain ⟨X, e⟩ := old c' k' hc' y'.2 hk'
          rw [← z, hfr] at e; cases e
      · rcases th' c' t' with y' | y'
        · exfalso
          rw [y', up_s, up_n y.1] at z
          obtain ⟨X, e⟩ := old c k hc y.2 hk
          rw [z, hfr] at e; cases e
        · rw [up_n y.1, up_n y'.1] at z
          exact d5 c c' k k' hc hc' y.2 y'.2 hk hk' z
    · obtain ⟨c0, hc0, ht0, ep⟩ := pick c hc t
      obtain ⟨c1, hc1, ht1, ep1⟩ := pick c' hc' t'
      rw [ep, ep1] at z
      exact d6 c0 c1 p p' hc0 hc1 ht0 ht1 hp hp' z
    · obtain ⟨c0, hc0, ht0, ep⟩ := pick c hc t
      obtain ⟨c1, hc1, ht1, ep1⟩ := pick c' hc' t'
      rw [ep, ep1] at z ⊢
      exact d7 c0 c1 p p' hc0 hc1 ht0 ht1 hp hp' z
  · exact fr _ _ P.1 (by simp [tag_O]) (by simp [tag_O]) (by simp [tag_O])
theorem sp_snapshot (htr : l.stackTraces = false) (C : CR K h x ad o nm th nu sc kd ty pa Lp rw) (hm : 40 ≤ mc) (hs : 1200 ≤ ms) :
    mX3_snapshot l K mc ms [.ref x] h (kI fun r h' => (r = -nI 4 ∧ h' = h ∧ ∀ j, j < 6 → th (j + 1) = true) ∨ ∃ j an kf tf, j < 6 ∧ th (j + 1) = false ∧ (∀ i, i < j → th (i + 1) = true) ∧ r = o.1 ∧ (∀ s, s < 8 → kf s = kd 0 s ∧ tf s = ty 0 s) ∧
      CR K h' x (va_up ad (j + 1) an) (o.1 + nI 1, o.2) nm (va_up th (j + 1) true) (va_up nu (j + 1) o.1) (va_up sc (j + 1) (sc 0)) (va_up kd (j + 1) kf) (va_up ty (j + 1) tf) (va_up pa (j + 1) (pa 0)) Lp rw ∧ FF K h h') := by
  obtain ⟨f, c4, c5⟩ := C.2.2.1
  refine fX3_snapshot htr ?_
  intro X hX
  refine loopN (n := 6) (fun j => (∀ i, i < j → th (i + 1) = true) → X (nI j) h 0 0) ?_ ?_ 0 (Nat.zero_le _) (fun i hi => absurd hi (Nat.not_lt_zero i))
  · intro hf
    exact hX _ _ _ _ ⟨fun _ => ⟨⟨by omega, by omega⟩, _, rfl, Or.inl ⟨rfl, rfl, hf⟩⟩, fun q => absurd (nI_le (Nat.le_refl _) (by omega)) q⟩
  · intro j hj ih hf
    refine hX _ _ _ _ ⟨fun q => absurd q (nI_ge hj (by omega)), fun q => ⟨_, gf_of C.xx, _, aQ_x c4 hj (by omega), fun z => ⟨_, gf_of C.xx, _, gf_of C.xx, ⟨_, C.p0.1⟩, 4, 37, by omega, by omega, ?_⟩, fun a z => ?_⟩⟩
    · have ht : th (j + 1) = false := by
        rw [c5 j hj] at z
        split at z
        · cases z
        · rename_i t; simpa using t
      refine (sp_taken htr C (Nat.le_refl _) (Nat.le_refl _)).Q ?_
      rintro w h4 ⟨q9, b1, b2, b3, h3, kf, tf, rfl, hq, hb1, hb2, hb3, hinj, x3, P, hk, hn⟩
      have C3 := C.ext x3
      have ne : ∀ a X, h3 a = some X → tagOf X ≠ .inr 1 → h4 a = some X := fun a X e t => by rw [hn.2 a fun p hp => ne_tag e (C3.g0 hp).1.1 t]; exact e
      have e1 := ne _ _ C3.xx (by simp [tag_O])
      have e4 := ne _ _ (x3 _ _ c4) (by simp [tag_Q])
      have eq := ne _ _ P.1 (by simp [tag_O])
      have exn : x ≠ ad 7 1 := ne_tag C.xx c4 (by simp [tag_O, tag_Q])
      have e5 : va_up h4 (ad 7 1) (some (xQ K 5 6 (va_up f j (some q9)))) x = some (xob ad o) := by rw [up_n exn]; exact e1
      obtain ⟨C6, ff6, e6⟩ := C.take (o' := (o.1 + nI 1, o.2)) hj ht hq hb1 hb2 hb3 hinj x3 P hn e4 c5 rfl
      refine ⟨_, gf_of e1, fun v9 z9 => ?_, _, wQ_x e4 hj (by omega), _, gf_of e5, _, pf_of e5 (by simp), q9, rfl, _, gf_of e6, ⟨by omega, by omega⟩, _, rfl, Or.inr ⟨j, _, kf, tf, hj, ht, hf, rfl, hk, C6, ff6⟩⟩
      cases z9; exact ⟨_, eq⟩
    · have t : th (j + 1) = true := by
        rw [c5 j hj] at z
        split at z
        · rename_i t; exact t
        · cases z
      rw [nI_sub1]
      refine ih fun i hi => ?_
      rcases Nat.lt_succ_iff_lt_or_eq.mp hi with y | rfl
      · exact hf i y
      · exact t
end Obj
