/-! ===== the class: its own numbers, the keys, states ===== -/
def u0 {α : Type} (f : Nat → α) (v : α) : Nat → α := fun c => if c = 0 then v else f c
theorem u0_0 {α : Type} (f : Nat → α) (v : α) : u0 f v 0 = v := rfl
theorem u0_n {α : Type} {f : Nat → α} {v : α} {c : Nat} (n : c ≠ 0) : u0 f v c = f c := if_neg n
theorem u0_s {α : Type} {f : Nat → α} {v : α} {c : Nat} : u0 f v (c + 1) = f (c + 1) := rfl
theorem u0_self {α : Type} (f : Nat → α) : u0 f (f 0) = f := by
  funext c
  by_cases y : c = 0
  · subst y; rfl
  · exact u0_n y
section Obj
variable {l : Launch} {K : Kx} {h h' : Hp} {x : Nat} {ad : Nat → Nat → Nat} {o : OV} {nm : Nat → Int32} {th : Nat → Bool} {nu : Nat → Int32} {sc : Nat → Nat} {kd ty : Nat → Nat → Int32} {pa : Nat → Nat → Nat} {Lp : Nat → List (Option EV)} {rw : Nat → Nat} {s : Int32} {mc ms : Nat}
theorem PgAt.tg {p rw : Nat} {L : List (Option EV)} {c : Int32} (P : PgAt K h p rw L c) (f : ∀ b X, ¬ fK K b ∨ tagOf X ≠ .inl (K.2.1 1) → h b = some X → (tagOf X = .inr 1 ∨ tagOf X = .inl (K.2.1 3)) ∨ im K X → h' b = some X) (hL : okL L) (n1 : ¬ fK K p) (n2 : ¬ fK K rw) : PgAt K h' p rw L c := by
  obtain ⟨q1, g, q2, q3⟩ := P
  refine ⟨f _ _ (Or.inl n1) q1 (Or.inl (Or.inl rfl)), g, f _ _ (Or.inl n2) q2 (Or.inl (Or.inr rfl)), q3.imm hL fun a X n e t => f _ _ (Or.inl n) e (Or.inr t)⟩
/-- the object's own numbers -/
theorem CR.own (C : CR K h x ad o nm th nu sc kd ty pa Lp rw) (o' : OV) : CR K (va_up h x (some (xob ad o'))) x ad o' nm th nu sc kd ty pa Lp rw ∧ FF K h (va_up h x (some (xob ad o'))) ∧ Imm K h (va_up h x (some (xob ad o'))) := by
  have ki := C.ki
  obtain ⟨⟨c1, c2⟩, c3, ⟨f, c4, c5⟩, ⟨g, c6⟩, c7, c8, c9, c10, c11⟩ := C
  have fr : ∀ a X, h a = some X → tagOf X ≠ .inr 3 → va_up h x (some (xob ad o')) a = some X := fun a X e t => by rw [up_n (ne_tag e c2 t)]; exact e
  have im1 : Imm K h (va_up h x (some (xob ad o'))) := Imm.rf.up fun X e => by rw [c2] at e; cases e; exact not_im_O (by decide)
  have ff : FF K h (va_up h x (some (xob ad o'))) := fun a z => up_n fun y => c1 (y ▸ z)
  refine ⟨⟨⟨c1, up_s _ _ _⟩, fr _ _ c3 (by simp [tag_I]), ⟨f, fr _ _ c4 (by simp [tag_Q]), c5⟩, ⟨g, fr _ _ c6 (by simp [tag_J])⟩, fun c hc ht => ?_, fun c hc ht p hp => ?_, c9, c10.fr ff im1, c11⟩, ff, im1⟩
  · refine (c7 c hc ht).fr fun k X _ e t => fr _ _ e ?_
    rcases t with t | t | t <;> rw [t] <;> simp
  · have G := c8 c hc ht p hp
    refine ⟨G.1.tg (fun b X _ e t => fr _ _ e ?_) G.2.1 G.2.2.2.2.1 G.2.2.2.2.2, G.2⟩
    rcases t with (t | t) | t
    · rw [t]; simp
    · rw [t]; simp
    · rcases tag_im t with t | t <;> rw [t] <;> simp
/-- the sorted keys -/
theorem CR.rk {f' : Nat → Int64} (C : CR K h x ad o nm th nu sc kd ty pa Lp rw) : CR K (va_up h (ad 7 2) (some (xJ K 150 f'))) x ad o nm th nu sc kd ty pa Lp rw ∧ FF K h (va_up h (ad 7 2) (some (xJ K 150 f'))) ∧ Imm K h (va_up h (ad 7 2) (some (xJ K 150 f'))) := by
  have ki := C.ki
  obtain ⟨⟨c1, c2⟩, c3, ⟨f, c4, c5⟩, ⟨g, c6⟩, c7, c8, c9, c10, c11⟩ := C
  have fr : ∀ a X, h a = some X → tagOf X ≠ .inl (K.2.1 1) → va_up h (ad 7 2) (some (xJ K 150 f')) a = some X := fun a X e t => by rw [up_n (ne_tag e c6 t)]; exact e
  have im1 : Imm K h (va_up h (ad 7 2) (some (xJ K 150 f'))) := Imm.rf.up fun X e => by rw [c6] at e; cases e; exact not_im_150
  have ff : FF K h (va_up h (ad 7 2) (some (xJ K 150 f'))) := fun a z => up_n fun y => c9.2.2.1 2 (by decide) (y ▸ z)
  refine ⟨⟨⟨c1, fr _ _ c2 (by simp [tag_O])⟩, fr _ _ c3 (ki.ne (by decide) (by decide) (by decide)), ⟨f, fr _ _ c4 (ki.ne (by decide) (by decide) (by decide)), c5⟩, ⟨f', up_s _ _ _⟩, fun c hc ht => ?_, fun c hc ht p hp => ?_, c9, c10.fr ff im1, c11⟩, ff, im1⟩
  · refine (c7 c hc ht).fr fun k X _ e t => fr _ _ e ?_
    rcases t with t | t | t <;> rw [t]
    · simp
    · exact ki.ne (by decide) (by decide) (by decide)
    · exact ki.ne (by decide) (by decide) (by decide)
  · have G := c8 c hc ht p hp
    refine ⟨G.1.tg (fun b X n e t => ?_) G.2.1 G.2.2.2.2.1 G.2.2.2.2.2, G.2⟩
    rcases t with (t | t) | t
    · exact fr _ _ e (by rw [t]; simp)
    · exact fr _ _ e (by rw [t]; exact ki.ne (by decide) (by decide) (by decide))
    · rcases n with n | n
      · exact im1 _ _ n e t
      · exact fr _ _ e n
/-- now and the names, made anew -/
theorem CR.re {nm' : Nat → Int32} {sc0 : Nat} {pg0 : Nat → Nat} {kd0 ty0 : Nat → Int32} (C : CR K h x ad o nm th nu sc kd ty pa Lp rw) (hn : h' (ad 7 0) = some (xI K 8 nm')) (P : PicR K h' (ad 0) (nu 0) sc0 pg0 kd0 ty0) (hpg : ∀ p, p < 16 → ∃ c0, c0 < 7 ∧ th c0 = true ∧ pg0 p = pa c0 p)
    (fr : ∀ a X, h a = some X → a ≠ ad 7 0 → (∀ k, k < 4 → a ≠ ad 0 k) → h' a = some X) : CR K h' x ad o nm' th nu (u0 sc sc0) (u0 kd kd0) (u0 ty ty0) (u0 pa pg0) Lp rw ∧ FF K h h' ∧ Imm K h h' := by
  have ki := C.ki
  have P0 := C.p0
  obtain ⟨⟨c1, c2⟩, c3, ⟨f, c4, c5⟩, ⟨g, c6⟩, c7, c8, c9, c10, c11⟩ := C
  have hd9 : ∀ p a, hdc th (u0 pa pg0) p a = hdc th pa p a := fun p a => rfl
  have kt : ∀ a X, h a = some X → tagOf X ≠ .inr 2 → tagOf X ≠ .inl (K.2.1 4) → tagOf X ≠ .inl (K.2.1 0) → ∀ k, k < 4 → a ≠ ad 0 k := by
    intro a X e t1 t2 t3 k hk
    obtain ⟨p1, ⟨g, p2, p3⟩, p4, p5⟩ := P0
    match k, hk with
    | 0, _ => exact ne_tag e p1 t1
    | 1, _ => exact ne_tag e p2 t2
    | 2, _ => exact ne_tag e p4 t3
    | 3, _ => exact ne_tag e p5 t3
  have fr2 : ∀ a X, h a = some X → tagOf X ≠ .inr 2 → tagOf X ≠ .inl (K.2.1 4) → tagOf X ≠ .inl (K.2.1 0) → h' a = some X := fun a X e t1 t2 t3 => fr a X e (ne_tag e c3 t3) (kt a X e t1 t2 t3)
  have im1 : Imm K h h' := fun a X n e t => by
    rcases tag_im t with z | z
    · exact fr2 _ _ e (by rw [z]; simp) (by rw [z]; simp) (by rw [z]; simp)
    · exact fr2 _ _ e (by rw [z]; simp) (by rw [z]; exact ki.ne (by decide) (by decide) (by decide)) (by rw [z]; exact ki.ne (by decide) (by decide) (by decide))
  have ff : FF K h h' := fun a z => by
    obtain ⟨X, e⟩ := c10.2.2 a z
    rw [e]
    exact fr a X e (fun y => c9.2.2.1 0 (by decide) (y ▸ z)) (fun k hk y => (c9.2.2.2.1 0 k (by decide) c9.1 hk).2 (y ▸ z))
  have pick : ∀ c p, c < 7 → th c = true → p < 16 → ∃ c0, c0 < 7 ∧ th c0 = true ∧ u0 pa pg0 c p = pa c0 p := fun c p hc ht hp => by
    by_cases y : c = 0
    · subst y; exact hpg p hp
    · exact ⟨c, hc, ht, by rw [u0_n y]⟩
  refine ⟨⟨⟨c1, fr2 _ _ c2 (by simp [tag_O]) (by simp [tag_O]) (by simp [tag_O])⟩, hn, ⟨f, fr2 _ _ c4 (by simp [tag_Q]) (ki.ne (by decide) (by decide) (by decide)) (ki.ne (by decide) (by decide) (by decide)), c5⟩, ⟨g, fr2 _ _ c6 (by simp [tag_J]) (ki.ne (by decide) (by decide) (by decide)) (ki.ne (by decide) (by decide) (by decide))⟩, fun c hc ht => ?_, fun c hc ht p hp => ?_, ?_, c10.fr ff im1, c11⟩, ff, im1⟩
  · by_cases y : c = 0
    · subst y; exact P
    · rw [u0_n y, u0_n y, u0_n y, u0_n y]
      refine (c7 c hc ht).fr fun k X hk e t => fr _ _ e (c9.2.2.2.1 c k hc ht hk).1 fun k' hk' z => ?_
      exact y (c9.2.2.2.2.1 c 0 k k' hc (by decide) ht c9.1 hk hk' z).1
  · obtain ⟨c0, hc0, ht0, e0⟩ := pick c p hc ht hp
    rw [hd9, e0]
    have G := c8 c0 hc0 ht0 p hp
    refine ⟨G.1.tg (fun b X n e t => ?_) G.2.1 G.2.2.2.2.1 G.2.2.2.2.2, G.2⟩
    rcases t with (t | t) | t
    · exact fr2 _ _ e (by rw [t]; simp) (by rw [t]; simp) (by rw [t]; simp)
    · exact fr2 _ _ e (by rw [t]; simp) (by rw [t]; exact ki.ne (by decide) (by decide) (by decide)) (by rw [t]; exact ki.ne (by decide) (by decide) (by decide))
    · rcases tag_im t with z | z
      · exact fr2 _ _ e (by rw [z]; simp) (by rw [z]; simp) (by rw [z]; simp)
      · exact fr2 _ _ e (by rw [z]; simp) (by rw [z]; exact ki.ne (by decide) (by decide) (by decide)) (by rw [z]; exact ki.ne (by decide) (by decide) (by decide))
  · obtain ⟨d1, d2, d3, d4, d5, d6, d7⟩ := c9
    refine ⟨d1, d2, d3, d4, d5, ?_, ?_⟩
    · intro c c' p p' hc hc' ht ht' hp hp' z
      obtain ⟨a, ha, hta, ea⟩ := pick c p hc ht hp
      obtain ⟨b, hb, htb, eb⟩ := pick c' p' hc' ht' hp'
      rw [ea, eb] at z
      exact d6 a b p p' ha hb hta htb hp hp' z
    · intro c c' p p' hc hc' ht ht' hp hp' z
      obtain ⟨a, ha, hta, ea⟩ := pick c p hc ht hp
      obtain ⟨b, hb, htb, eb⟩ := pick c' p' hc' ht' hp'
      rw [ea, eb] at z ⊢
      exact d7 a b p p' ha hb hta htb hp hp' z
theorem sp_key {k : Int64} (htr : l.stackTraces = false) (C : CR K h x ad o nm th nu sc kd ty pa Lp rw) : mX3_key l K [.ref x, .long k] h (kV fun h' => CR K h' x ad (o.1, o.2.1, nI 1, k, o.2.2.2.2) nm th nu sc kd ty pa Lp rw ∧ FF K h h') := by
  refine fX3_key htr ⟨_, pf_of C.xx (by simp), _, pf_of (up_s _ _ _) (by simp), rfl, ?_⟩
  rw [up_up]
  have := C.own (o.1, o.2.1, nI 1, k, o.2.2.2.2)
  exact ⟨this.1, this.2.1⟩
theorem sp_leave (htr : l.stackTraces = false) (C : CR K h x ad o nm th nu sc kd ty pa Lp rw) (hk : o.2.2.1 = nI 0 ∨ o.2.2.1 = nI 1) : mX3_leave l K [.ref x] h (kI fun r h' => r = o.2.2.1 ∧ CR K h' x ad (o.1, o.2.1, nI 0, o.2.2.2.1, o.2.2.2.2) nm th nu sc kd ty pa Lp rw ∧ FF K h h') := by
  have := C.own (o.1, o.2.1, nI 0, o.2.2.2.1, o.2.2.2.2)
  exact fX3_leave htr ⟨_, gf_of C.xx, _, pf_of C.xx (by simp), hk, _, rfl, rfl, this.1, this.2.1⟩
theorem sp_span {k : Int32} (htr : l.stackTraces = false) (C : CR K h x ad o nm th nu sc kd ty pa Lp rw) : mX3_span l K [.ref x, .int k] h (kI fun r h' => r = o.2.2.2.2 ∧ CR K h' x ad (o.1, o.2.1, o.2.2.1, o.2.2.2.1, k) nm th nu sc kd ty pa Lp rw ∧ FF K h h') := by
  have := C.own (o.1, o.2.1, o.2.2.1, o.2.2.2.1, k)
  exact fX3_span htr ⟨_, gf_of C.xx, _, pf_of C.xx (by simp), _, rfl, rfl, this.1, this.2.1⟩
theorem foldK_app (A B : List EV) (R : List Int64) : foldK (A ++ B) R = foldK B (foldK A R) := by simp [foldK, List.foldl_append]
theorem sp_sortKeys (htr : l.stackTraces = false) (C : CR K h x ad o nm th nu sc kd ty pa Lp rw) (h150 : (eP Lp (pa 0) 16).length ≤ 150) : mX3_sortKeys l K [.ref x, .int s] h (kI fun r h' => ∃ f', r = nI (foldK ((eP Lp (pa 0) 16).filter (mk2 s o.2.2.2.2)) []).length ∧ h' = va_up h (ad 7 2) (some (xJ K 150 f')) ∧ ∀ i, i < (foldK ((eP Lp (pa 0) 16).filter (mk2 s o.2.2.2.2)) []).length → f' i = (foldK ((eP Lp (pa 0) 16).filter (mk2 s o.2.2.2.2)) []).getD i 0) := by
  obtain ⟨f, c6⟩ := C.2.2.2.1
  refine fX3_sortKeys htr ?_
  intro X hX
  have mono : ∀ j, j ≤ 16 → ((eP Lp (pa 0) j).filter (mk2 s o.2.2.2.2)).length ≤ ((eP Lp (pa 0) 16).filter (mk2 s o.2.2.2.2)).length := by
    refine loopN (n := 16) (fun j => ((eP Lp (pa 0) j).filter (mk2 s o.2.2.2.2)).length ≤ ((eP Lp (pa 0) 16).filter (mk2 s o.2.2.2.2)).length) (Nat.le_refl _) ?_
    intro j _ ih
    rw [eP_s, List.filter_append, List.length_append] at ih
    omega
  have tot : ((eP Lp (pa 0) 16).filter (mk2 s o.2.2.2.2)).length ≤ 150 := Nat.le_trans (List.length_filter_le _ _) h150
  have z : X (nI 0) (nI 0) (va_up h (ad 7 2) (some (xJ K 150 f))) := by
    refine loopN (n := 16) (fun j => ∀ g, (∀ i, i < (foldK ((eP Lp (pa 0) j).filter (mk2 s o.2.2.2.2)) []).length → g i = (foldK ((eP Lp (pa 0) j).filter (mk2 s o.2.2.2.2)) []).getD i 0) → X (nI (foldK ((eP Lp (pa 0) j).filter (mk2 s o.2.2.2.2)) []).length) (nI j) (va_up h (ad 7 2) (some (xJ K 150 g)))) ?_ ?_ 0 (Nat.zero_le _) f (fun i hi => absurd hi (by simp [eP_0, foldK]))
    · intro g hg
      exact hX _ _ _ ⟨fun _ => ⟨_, rfl, g, rfl, rfl, hg⟩, fun q => absurd (nI_le (Nat.le_refl _) (by omega)) q⟩
    · intro j hj ih g hg
      have C2 := (C.rk (f' := g)).1
      obtain ⟨p1, ⟨gg, p2, p3⟩, -, -⟩ := C2.p0
      have G := C2.g0 hj
      refine hX _ _ _ ⟨fun q => absurd q (nI_ge hj (by omega)), fun q => ⟨_, gf_of C2.xx, _, gf_of p1, _, aQ_x p2 hj (by omega), _, gf_of C2.xx, _, gf_of C2.xx, pa 0 j, p3 j hj, G.obj, ?_⟩⟩
      have hb := mono (j + 1) (by omega)
      rw [eP_s, List.filter_append, List.length_append] at hb
      refine (sp_sortKeysInto htr G.1 (by have := G.2.2.2.1; omega) G.2.1 (up_s _ _ _) C.d.2.1 hg (by rw [fold_ins_len]; simp only [List.length_nil]; omega)).I ?_
      rintro r h' ⟨f', rfl, rfl, hf'⟩
      have := ih f'
      rw [eP_s, List.filter_append, foldK_app] at this
      rw [up_up, nI_sub1]
      exact this hf'
  rw [up_self c6] at z
  exact z
theorem sp_keys (htr : l.stackTraces = false) (C : CR K h x ad o nm th nu sc kd ty pa Lp rw) (I : PI th pa Lp) (h150 : (eP Lp (pa 0) 16).length ≤ 150) (hm : 40 ≤ mc) (hs : 1200 ≤ ms) :
    mX3_keys l K mc ms [.ref x, .int s] h (kIX (fun r h' => isS s (sc 0) ∧ r = nI (foldK ((eP Lp (pa 0) 16).filter (mk2 s o.2.2.2.2)) []).length ∧ SpC K h x ad o nm th nu sc kd ty pa Lp none h') (fun E h' => h' = h ∧ E = exN 1 ∧ ¬ isS s (sc 0))) := by
  refine fX3_keys htr ⟨C.ob, 1, 6, by omega, by omega, ?_⟩
  refine (sp_needState htr C (Nat.le_refl _) (Nat.le_refl _)).VX ?_ (fun E h' z => Or.inr ⟨E, rfl, z.2.1, z.1, z.2.2⟩)
  rintro h' ⟨rfl, hS⟩
  refine ⟨C.ob, by omega, by omega, ?_⟩
  refine (sp_sortKeys htr C h150).I ?_
  rintro r h1 ⟨f', rfl, rfl, -⟩
  obtain ⟨C2, ff, im⟩ := C.rk (f' := f')
  exact ⟨⟨by omega, by omega⟩, Or.inl ⟨_, rfl, hS, rfl, o, pa, Lp, rw, C2, ff, I, fun _ _ _ _ => rfl, Or.inl ⟨rfl, rfl, rfl, rfl⟩⟩⟩
theorem sp_keyAt {i : Int32} (htr : l.stackTraces = false) (C : CR K h x ad o nm th nu sc kd ty pa Lp rw) (I : PI th pa Lp) (h150 : (eP Lp (pa 0) 16).length ≤ 150) (hm : 40 ≤ mc) (hs : 1200 ≤ ms) :
    mX3_keyAt l K mc ms [.ref x, .int s, .int i] h (kLX (fun r h' => isS s (sc 0) ∧ (∃ j, j < (foldK ((eP Lp (pa 0) 16).filter (mk2 s o.2.2.2.2)) []).length ∧ i = nI j ∧ r = (foldK ((eP Lp (pa 0) 16).filter (mk2 s o.2.2.2.2)) []).getD j 0) ∧ SpC K h x ad o nm th nu sc kd ty pa Lp none h') (fun E h' => SpC K h x ad o nm th nu sc kd ty pa Lp none h' ∧ E = exN 1 ∧ (¬ isS s (sc 0) ∨ ¬ isS i (foldK ((eP Lp (pa 0) 16).filter (mk2 s o.2.2.2.2)) []).length))) := by
  refine fX3_keyAt htr ⟨C.ob, 1, 6, by omega, by omega, ?_⟩
  refine (sp_needState htr C (Nat.le_refl _) (Nat.le_refl _)).VX ?_ (fun E h' z => Or.inr ⟨E, rfl, by rw [z.2.1]; exact SpC.none C I Ext.rf, z.1, Or.inl z.2.2⟩)
  rintro h' ⟨rfl, hS⟩
  refine ⟨C.ob, by omega, by omega, ?_⟩
  refine (sp_sortKeys htr C h150).I ?_
  rintro r h1 ⟨f', rfl, rfl, hf'⟩
  obtain ⟨C2, ff, im⟩ := C.rk (f' := f')
  have st : SpC K h' x ad o nm th nu sc kd ty pa Lp none (va_up h' (ad 7 2) (some (xJ K 150 f'))) := ⟨o, pa, Lp, rw, C2, ff, I, fun _ _ _ _ => rfl, Or.inl ⟨rfl, rfl, rfl, rfl⟩⟩
  have hle : (foldK ((eP Lp (pa 0) 16).filter (mk2 s o.2.2.2.2)) []).length ≤ 150 := by
    rw [fold_ins_len]
    have := List.length_filter_le (mk2 s o.2.2.2.2) (eP Lp (pa 0) 16)
    simp only [List.length_nil]; omega
  refine ⟨fun q => ⟨by omega, by omega, Or.inr ⟨_, rfl, st, rfl, Or.inr fun z => z.1 q⟩⟩, fun q => ⟨fun q2 => ?_, fun q2 => ⟨by omega, by omega, Or.inr ⟨_, rfl, st, rfl, Or.inr fun z => q2 z.2⟩⟩⟩⟩
  obtain ⟨j, hj, rfl⟩ := (show isS i _ from ⟨q, q2⟩).ix (by omega)
  exact ⟨_, gf_of C2.xx, _, aJ_x (up_s _ _ _) (by omega) (by decide), ⟨by omega, by omega⟩, Or.inl ⟨_, rfl, hS, ⟨j, hj, rfl, hf' j hj⟩, st⟩⟩
/-- a kind and a type -/
def kt (k t : Int32) : Prop := ¬ k < nI 0 ∧ ¬ nI 4 ≤ k ∧ ¬ t < nI 0 ∧ ¬ nI 3 ≤ t
theorem sp_isKindAndType {k t : Int32} (htr : l.stackTraces = false) : mX3_isKindAndType l K [.int k, .int t] h (kI fun r h' => ((r = nI 1 ∧ kt k t) ∨ (r = nI 0 ∧ ¬ kt k t)) ∧ h' = h) :=
  fX3_isKindAndType htr ⟨fun q => ⟨_, rfl, Or.inr ⟨rfl, fun z => z.1 q⟩, rfl⟩, fun q => ⟨fun q2 => ⟨_, rfl, Or.inr ⟨rfl, fun z => z.2.1 q2⟩, rfl⟩, fun q2 => ⟨fun q3 => ⟨_, rfl, Or.inr ⟨rfl, fun z => z.2.2.1 q3⟩, rfl⟩, fun q3 => ⟨fun q4 => ⟨_, rfl, Or.inr ⟨rfl, fun z => z.2.2.2 q4⟩, rfl⟩, fun q4 => ⟨_, rfl, Or.inl ⟨rfl, q, q2, q3, q4⟩, rfl⟩⟩⟩⟩⟩
theorem sp_state {n k t : Int32} (htr : l.stackTraces = false) (C : CR K h x ad o nm th nu sc kd ty pa Lp rw) (hsc : sc 0 ≤ 8) :
    mX3_state l K [.ref x, .int n, .int k, .int t] h (kI fun r h' => (¬ kt k t ∧ r = -nI 1 ∧ h' = h) ∨ (kt k t ∧ ∃ i, i < sc 0 ∧ nm i = n ∧ (∀ j, j < i → nm j ≠ n) ∧ h' = h ∧ ((kd 0 i = k ∧ ty 0 i = t ∧ r = nI i) ∨ (¬ (kd 0 i = k ∧ ty 0 i = t) ∧ r = -nI 3))) ∨
      (kt k t ∧ (∀ j, j < sc 0 → nm j ≠ n) ∧ ((sc 0 = 8 ∧ r = -nI 4 ∧ h' = h) ∨ (sc 0 < 8 ∧ r = nI (sc 0) ∧ CR K h' x ad o (upd nm (sc 0) n) th nu (u0 sc (sc 0 + 1)) (u0 kd (upd (kd 0) (sc 0) k)) (u0 ty (upd (ty 0) (sc 0) t)) pa Lp rw ∧ FF K h h')))) := by
  refine fX3_state htr ?_
  refine (sp_isKindAndType htr).I ?_
  rintro r h' ⟨z, rfl⟩
  have P := C.p0
  obtain ⟨p1, ⟨g, p2, p3⟩, p4, p5⟩ := P
  rcases z with ⟨rfl, hk⟩ | ⟨rfl, hk⟩
  · refine ⟨fun _ => ?_, fun q => absurd q nI01⟩
    intro X hX
    refine loopN (n := sc 0) (fun j => (∀ i, i < j → nm i ≠ n) → X (nI j)) ?_ ?_ 0 (Nat.zero_le _) (fun i hi => absurd hi (Nat.not_lt_zero i))
    · intro hf
      refine hX _ ⟨_, gf_of C.xx, _, gf_of p1, fun _ => ⟨_, gf_of C.xx, _, gf_of p1, fun q => ?_, fun q => ⟨_, rfl, Or.inr (Or.inr ⟨hk, hf, Or.inl ⟨?_, rfl, rfl⟩⟩)⟩⟩, fun q => absurd (nI_le (Nat.le_refl _) (by omega)) q⟩
      · have h8 : sc 0 < 8 := Nat.lt_of_not_le fun z => Int32.not_lt.mpr (nI_le z (by omega)) q
        have d := C.d
        have xa : x ≠ ad 7 0 := ne_tag C.xx C.2.1 (by simp [tag_O, tag_I])
        have e1 : va_up h' (ad 7 0) (some (xI K 8 (upd nm (sc 0) n))) x = some (xob ad o) := by rw [up_n xa]; exact C.xx
        have a0 : ∀ k, k < 4 → ad 0 k ≠ ad 7 0 := fun k hk => (d.2.2.2.1 0 k (by decide) d.1 hk).1
        have ne : ∀ k k', k < 4 → k' < 4 → k ≠ k' → ad 0 k ≠ ad 0 k' := fun k k' hk hk' n z => n (d.2.2.2.2.1 0 0 k k' (by decide) (by decide) d.1 d.1 hk hk' z).2
        have e2 : va_up h' (ad 7 0) (some (xI K 8 (upd nm (sc 0) n))) (ad 0 0) = some (xO 2 [.int (nu 0), .ref (ad 0 1), .ref (ad 0 2), .ref (ad 0 3), .int (nI (sc 0))]) := by rw [up_n (a0 0 (by decide))]; exact p1
        refine ⟨_, gf_of C.xx, _, gf_of C.xx, _, gf_of p1, _, wI_x C.2.1 h8 (by omega), _, gf_of e1, ⟨_, e2⟩, ?_⟩
        refine fX2_tellState htr ⟨_, gf_of e2, _, gf_of e2, _, wI_x (by rw [up_n (a0 2 (by decide))]; exact p4) h8 (by omega), ?_⟩
        generalize hh2 : va_up (va_up h' (ad 7 0) (some (xI K 8 (upd nm (sc 0) n)))) (ad 0 2) (some (xI K 8 (upd (kd 0) (sc 0) k))) = h2
        have e3 : h2 (ad 0 0) = some (xO 2 [.int (nu 0), .ref (ad 0 1), .ref (ad 0 2), .ref (ad 0 3), .int (nI (sc 0))]) := by rw [← hh2, up_n (ne 0 2 (by decide) (by decide) (by decide))]; exact e2
        have e4 : h2 (ad 0 3) = some (xI K 8 (ty 0)) := by rw [← hh2, up_n (ne 3 2 (by decide) (by decide) (by decide)), up_n (a0 3 (by decide))]; exact p5
        refine ⟨_, gf_of e3, _, wI_x e4 h8 (by omega), ?_⟩
        generalize hh3 : va_up h2 (ad 0 3) (some (xI K 8 (upd (ty 0) (sc 0) t))) = h3
        have e5 : h3 (ad 0 0) = some (xO 2 [.int (nu 0), .ref (ad 0 1), .ref (ad 0 2), .ref (ad 0 3), .int (nI (sc 0))]) := by rw [← hh3, up_n (ne 0 3 (by decide) (by decide) (by decide))]; exact e3
        refine ⟨_, gf_of e5, _, pf_of e5 (by simp), _, rfl, _, rfl, Or.inr (Or.inr ⟨hk, hf, Or.inr ⟨h8, rfl, ?_⟩⟩)⟩
        generalize hh4 : va_up h3 (ad 0 0) (some (xO 2 ([Value.int (nu 0), .ref (ad 0 1), .ref (ad 0 2), .ref (ad 0 3), .int (nI (sc 0))].set 4 (.int (nI (sc 0) + nI 1))))) = h4
        have fr : ∀ a X, h' a = some X → a ≠ ad 7 0 → (∀ k, k < 4 → a ≠ ad 0 k) → h4 a = some X := fun a X e n1 n2 => by
          rw [← hh4, up_n (n2 0 (by decide)), ← hh3, up_n (n2 3 (by decide)), ← hh2, up_n (n2 2 (by decide)), up_n n1]; exact e
        have r0 : h4 (ad 7 0) = some (xI K 8 (upd nm (sc 0) n)) := by rw [← hh4, up_n (fun z => a0 0 (by decide) z.symm), ← hh3, up_n (fun z => a0 3 (by decide) z.symm), ← hh2, up_n (fun z => a0 2 (by decide) z.symm), up_s]
        have r1 : PicR K h4 (ad 0) (nu 0) (sc 0 + 1) (pa 0) (upd (kd 0) (sc 0) k) (upd (ty 0) (sc 0) t) := by
          refine ⟨?_, ⟨g, ?_, p3⟩, ?_, ?_⟩
          · rw [← hh4, up_s, nI_sub1]; rfl
          · rw [← hh4, up_n (ne 1 0 (by decide) (by decide) (by decide)), ← hh3, up_n (ne 1 3 (by decide) (by decide) (by decide)), ← hh2, up_n (ne 1 2 (by decide) (by decide) (by decide)), up_n (a0 1 (by decide))]; exact p2
          · rw [← hh4, up_n (ne 2 0 (by decide) (by decide) (by decide)), ← hh3, up_n (ne 2 3 (by decide) (by decide) (by decide)), ← hh2, up_s]
          · rw [← hh4, up_n (ne 3 0 (by decide) (by decide) (by decide)), ← hh3, up_s]
        have := C.re r0 r1 (fun p hp => ⟨0, by decide, d.1, rfl⟩) fr
        rw [u0_self pa] at this
        exact ⟨this.1, this.2.1⟩
      · exact Nat.le_antisymm hsc (Nat.le_of_not_lt fun z => q (Int32.not_le.mp (nI_ge z (by omega))))
    · intro j hj ih hf
      refine hX _ ⟨_, gf_of C.xx, _, gf_of p1, fun q => absurd q (nI_ge hj (by omega)), fun q => ⟨_, gf_of C.xx, _, aI_x C.2.1 (by omega) (by omega), fun q2 => ?_, fun q2 => ⟨_, gf_of C.xx, _, gf_of p1, _, aI_x p4 (by omega) (by omega), fun q3 => ⟨_, rfl, Or.inr (Or.inl ⟨hk, j, hj, q2, hf, rfl, Or.inr ⟨fun z => q3 z.1, rfl⟩⟩)⟩, fun q3 => ⟨_, gf_of C.xx, _, gf_of p1, _, aI_x p5 (by omega) (by omega), fun q4 => ⟨_, rfl, Or.inr (Or.inl ⟨hk, j, hj, q2, hf, rfl, Or.inr ⟨fun z => q4 z.2, rfl⟩⟩)⟩, fun q4 => ⟨_, rfl, Or.inr (Or.inl ⟨hk, j, hj, q2, hf, rfl, Or.inl ⟨q3, q4, rfl⟩⟩)⟩⟩⟩⟩⟩
      rw [nI_sub1]
      refine ih fun i hi => ?_
      rcases Nat.lt_succ_iff_lt_or_eq.mp hi with y | rfl
      · exact hf i y
      · exact q2
  · exact ⟨fun q => absurd rfl q, fun _ => ⟨_, rfl, Or.inl ⟨hk, rfl, rfl⟩⟩⟩
end Obj
