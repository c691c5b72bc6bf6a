/-! ===== class and reference side by side: the calls of the entry at hand ===== -/
theorem St_det {n : Nat} {kd ty kd' ty' : Nat → Int32} {hk s k1 k2 : Int32} {v : Int64} {c c' : Nat} (h8 : n ≤ 8) (h : ∀ i, i < n → kd' i = kd i ∧ ty' i = ty i) (a : St n kd ty hk s k1 k2 v c) (b : St n kd' ty' hk s k1 k2 v c') : c = c' := by
  rcases a with ⟨rfl, a⟩ | ⟨i, hi, rfl, a⟩
  · rcases b with ⟨rfl, b⟩ | ⟨i, hi, rfl, b⟩
    · rfl
    · exact absurd (isS_of hi (by omega)) a
  · rcases b with ⟨rfl, b⟩ | ⟨i', hi', hii, b⟩
    · exact absurd (isS_of hi (by omega)) b
    · have : i = i' := (nI_eq (by omega) (by omega)).mp hii
      subst this
      rw [(h i hi).1, (h i hi).2] at b
      rcases a with ⟨rfl, a⟩ | ⟨a1, a2, a⟩ <;> rcases b with ⟨rfl, b⟩ | ⟨b1, b2, b⟩
      · rfl
      · exact absurd a (by rintro (z | z); exact b1.elim z.1 z.2; exact z b2)
      · exact absurd b (by rintro (z | z); exact a1.elim z.1 z.2; exact z a2)
      · rcases a with ⟨rfl, a⟩ | ⟨rfl, a⟩ <;> rcases b with ⟨rfl, b⟩ | ⟨rfl, b⟩
        · rfl
        · exact absurd a b
        · exact absurd b a
        · rfl
theorem Sk_det {n : Nat} {hk s : Int32} {c c' : Nat} (a : Sk n hk s c) (b : Sk n hk s c') : c = c' := by
  rcases a with ⟨rfl, a⟩ | ⟨a, z⟩ <;> rcases b with ⟨rfl, b⟩ | ⟨b, y⟩
  · rfl
  · exact absurd b a
  · exact absurd a b
  · rcases z with ⟨rfl, z⟩ | ⟨rfl, z⟩ <;> rcases y with ⟨rfl, y⟩ | ⟨rfl, y⟩
    · rfl
    · exact absurd z y
    · exact absurd y z
    · rfl
theorem putR_det {v : EV} {n : Nat} {y : Int64} {a a' : Int32} {u u' : Option EV} (h : putR v n y a u) (h' : putR v n y a' u') : a = a' ∧ u = u' := by
  rcases h with ⟨h1, h2, rfl, rfl⟩ | ⟨h1, rfl, rfl⟩ <;> rcases h' with ⟨k1, k2, rfl, rfl⟩ | ⟨k1, rfl, rfl⟩
  · exact ⟨rfl, rfl⟩
  · exact absurd ⟨h1, h2⟩ k1
  · exact absurd ⟨k1, k2⟩ h1
  · exact ⟨rfl, rfl⟩
theorem addR_det {v : EV} {n : Nat} {y : Int64} {a a' : Int32} {u u' : Option EV} (h : addR v n y a u) (h' : addR v n y a' u') : a = a' ∧ u = u' := by
  rcases h with ⟨h1, rfl, rfl⟩ | ⟨h1, rfl, rfl⟩ <;> rcases h' with ⟨k1, rfl, rfl⟩ | ⟨k1, rfl, rfl⟩
  · exact ⟨rfl, rfl⟩
  · exact absurd h1 k1
  · exact absurd k1 h1
  · exact ⟨rfl, rfl⟩
theorem foldR_det {v : EV} {n : Nat} {t : Int32} {y : Int64} {a a' : Int32} {u u' : Option EV} (h : foldR v n t y a u) (h' : foldR v n t y a' u') : a = a' ∧ u = u' := by
  rcases h with ⟨h1, h2, rfl, rfl⟩ | ⟨h1, rfl, rfl⟩ <;> rcases h' with ⟨k1, k2, rfl, rfl⟩ | ⟨k1, rfl, rfl⟩
  · exact ⟨rfl, rfl⟩
  · exact absurd ⟨h1, h2⟩ k1
  · exact absurd ⟨k1, k2⟩ h1
  · exact ⟨rfl, rfl⟩
theorem clrR_det {v : EV} {a a' : Int32} {u u' : Option EV} (h : clrR v a u) (h' : clrR v a' u') : a = a' ∧ u = u' := by
  rcases h with ⟨h1, rfl, rfl⟩ | ⟨h1, rfl, rfl⟩ <;> rcases h' with ⟨k1, rfl, rfl⟩ | ⟨k1, rfl, rfl⟩
  · exact ⟨rfl, rfl⟩
  · exact absurd h1 k1
  · exact absurd k1 h1
  · exact ⟨rfl, rfl⟩
theorem setR_det {v : EV} {n : Nat} {x y : Int64} {a a' : Int32} {u u' : Option EV} (h : setR v n x y a u) (h' : setR v n x y a' u') : a = a' ∧ u = u' := by
  obtain ⟨j, hj, h⟩ := h
  obtain ⟨j', hj', h'⟩ := h'
  have := cbR_inj hj hj'
  subst this
  rcases h with ⟨h1, rfl, rfl⟩ | ⟨h1, h2, rfl, rfl⟩ | ⟨h1, h2, rfl, rfl⟩ <;> rcases h' with ⟨k1, rfl, rfl⟩ | ⟨k1, k2, rfl, rfl⟩ | ⟨k1, k2, rfl, rfl⟩
  · exact ⟨rfl, rfl⟩
  · exact absurd h1 k1
  · exact absurd h1 k1
  · exact absurd k1 h1
  · exact ⟨rfl, rfl⟩
  · exact absurd h2 k2
  · exact absurd k1 h1
  · exact absurd k2 h2
  · exact ⟨rfl, rfl⟩
theorem remR_det {v : EV} {x : Int64} {a a' : Int32} {u u' : Option EV} (h : remR v x a u) (h' : remR v x a' u') : a = a' ∧ u = u' := by
  obtain ⟨j, hj, h⟩ := h
  obtain ⟨j', hj', h'⟩ := h'
  have := cbR_inj hj hj'
  subst this
  rcases h with ⟨h1, rfl, rfl⟩ | ⟨h1, rfl, rfl⟩ <;> rcases h' with ⟨k1, rfl, rfl⟩ | ⟨k1, rfl, rfl⟩
  · exact ⟨rfl, rfl⟩
  · exact absurd h1 k1
  · exact absurd k1 h1
  · exact ⟨rfl, rfl⟩
theorem xrd_det {α : Type} {S S' : Nat → Prop} {d c c' : Nat} {Nn Nn' Y Y' : Prop} {a a' : α} (hd : 0 < d) (hS : ∀ c c', S c → S' c' → c = c') (h1 : Nn → ¬ Y') (h2 : Nn' → ¬ Y) (h3 : Y → Y' → a' = a) (h : XRd S d Nn Y c) (h' : XRd S' d Nn' Y' c') : c = c' ∧ (c = 0 → a' = a) := by
  rcases h with ⟨c0, c4, s⟩ | ⟨s, h⟩ <;> rcases h' with ⟨c0', c4', s'⟩ | ⟨s', h'⟩
  · exact ⟨hS _ _ s s', fun z => by omega⟩
  · have := hS _ _ s s'; omega
  · have := hS _ _ s s'; omega
  · rcases h with ⟨rfl, n⟩ | ⟨rfl, yy⟩ <;> rcases h' with ⟨rfl, n'⟩ | ⟨rfl, yy'⟩
    · exact ⟨rfl, fun z => by omega⟩
    · exact absurd yy' (h1 n)
    · exact absurd yy (h2 n')
    · exact ⟨rfl, fun _ => h3 yy yy'⟩
section Rel
variable {l : Launch} {K : Kx} {F : List Nat} {x m out : Nat} {am : Nat → Nat} {H h' H2 : Hp} {ad : Nat → Nat → Nat} {rw : Nat → Nat} {o o' : OV} {nm : Nat → Int32} {th : Nat → Bool} {nu : Nat → Int32} {sc : Nat → Nat} {kd ty kd' ty' : Nat → Nat → Int32} {pa pa' : Nat → Nat → Nat} {Lp Lp' : Nat → List (Option EV)} {I I' : MI} {L L' : ML} {N : Nat → Nat} {g k0 mc ms : Nat} {s : Int32}
theorem Rel2.t0 (r : Rel2 o nm th nu sc kd ty pa Lp I L N g) : th 0 = true := r.2.2.2.2.2.2.2.2.2.1
theorem Rel2.h8 (r : Rel2 o nm th nu sc kd ty pa Lp I L N g) : sc 0 ≤ 8 := r.1.2.1
theorem Rel2.hand (r : Rel2 o nm th nu sc kd ty pa Lp I L N g) (s : Int32) : lk s (L 20 0) (I 21 0) (mLst I L 0 (N 0)) = lk s o.2.2.2.1 o.2.2.2.2 (eP Lp (pa 0) 16) := by
  rw [r.lkE (by decide) r.t0, r.2.2.2.1.2.2.2.1, r.2.2.2.1.2.2.2.2.1]
theorem Rel2.l150 (r : Rel2 o nm th nu sc kd ty pa Lp I L N g) : (eP Lp (pa 0) 16).length ≤ 150 := by
  rw [r.len (by decide) r.t0]; exact (r.2.2.2.2.1 0 (by decide) r.t0).2.1
theorem Rel2.kty (r : Rel2 o nm th nu sc kd ty pa Lp I L N g) : ∀ i, i < sc 0 → I 3 i = kd 0 i ∧ I 4 i = ty 0 i := fun i hi => by
  have := (r.2.1 0 (by decide) r.t0).2 i hi
  simp only [Nat.mul_zero, Nat.zero_add] at this
  exact ⟨this.1, this.2.1⟩
theorem Rel2.st (r : Rel2 o nm th nu sc kd ty pa Lp I L N g) {k1 k2 : Int32} {v : Int64} (c c' : Nat) (a : St (sc 0) (kd 0) (ty 0) o.2.2.1 s k1 k2 v c) (b : St (sc 0) (I 3) (I 4) (I 19 0) s k1 k2 v c') : c = c' := by
  rw [r.2.2.2.1.2.2.1] at b
  exact St_det r.h8 r.kty a b
theorem Rel2.map (r : Rel2 o nm th nu sc kd ty pa Lp I L N g) : ∀ i, i < sc 0 → s = nI i → kd 0 i = nI 2 → (lk s o.2.2.2.1 o.2.2.2.2 (eP Lp (pa 0) 16)).2.2.2.1.length = (lk s o.2.2.2.1 o.2.2.2.2 (eP Lp (pa 0) 16)).2.2.2.2.1.length := by
  rintro i hi rfl hk
  rw [← r.hand]
  have h8 := r.h8
  obtain ⟨b1, b2, b3, b4, b5⟩ := r.2.2.2.2.1 0 (by decide) r.t0
  cases hfd : fdM I L 0 (N 0) (nI i) (L 20 0) (I 21 0) with
  | none => rw [lk_m_n hfd]
  | some e =>
    obtain ⟨e', he', hee, f7, f8, f9⟩ := fdM_some hfd
    have : e' = e := by omega
    subst this
    obtain ⟨st, hst, s7, tk⟩ := b3 e' he'
    simp only [Nat.mul_zero, Nat.zero_add] at tk s7
    have hsti : st = i := (nI_eq (by omega) (by omega)).mp (s7.symm.trans f7)
    subst hsti
    have hk3 : I 3 st = nI 2 := (r.kty st hi).1.trans hk
    obtain ⟨t, t10, t0, tb, -⟩ := tk (by rw [hk3]; decide)
    rw [lk_m_s hfd, mEv_2 (L := L) ((kdE_st f7 (by omega)).trans hk3) t10 (by omega)]
    simp
theorem tw_put {y : Int64} (htr : l.stackTraces = false) (fx : FX F m out am) (W : WS K F x m out am H g k0) (hg : g + 1 < 2 ^ 20) (hm : 40 ≤ mc) (hs : 1200 ≤ ms) :
    mX3_put l K mc ms [.ref x, .int s, .long y] H (kIX (fun a h' => Nx .int K F x m out am (g + 1) (mX4_put l K [.ref m, .int s, .long y]) 0 a h') (fun E h' => ∃ k, 0 < k ∧ k < 4 ∧ E = exN k ∧ ∀ a, Nx .int K F x m out am (g + 1) (mX4_put l K [.ref m, .int s, .long y]) k a h')) := by
  obtain ⟨ad, o, nm, th, nu, sc, kd, ty, pa, Lp, rw, I, L, N, C, r, e, i0, fo, ho⟩ := W
  exact sim_w (b := 4) (by decide) fx r hg C e ⟨fo, ho⟩ (sp_put (K := kF K F) htr C r.2.2.2.2.2.2.1 (r.nd (by decide) r.t0) r.l150 r.h8 hm hs) (fun H2 => sp_mPut htr fx.1 r.mv) r.st (fun a u a' u' q q' => by rw [r.hand, ← r.len (by decide) r.t0] at q'; exact putR_det q q')
theorem tw_add {y : Int64} (htr : l.stackTraces = false) (fx : FX F m out am) (W : WS K F x m out am H g k0) (hg : g + 1 < 2 ^ 20) (hm : 40 ≤ mc) (hs : 1200 ≤ ms) :
    mX3_add l K mc ms [.ref x, .int s, .long y] H (kIX (fun a h' => Nx .int K F x m out am (g + 1) (mX4_add l K [.ref m, .int s, .long y]) 0 a h') (fun E h' => ∃ k, 0 < k ∧ k < 4 ∧ E = exN k ∧ ∀ a, Nx .int K F x m out am (g + 1) (mX4_add l K [.ref m, .int s, .long y]) k a h')) := by
  obtain ⟨ad, o, nm, th, nu, sc, kd, ty, pa, Lp, rw, I, L, N, C, r, e, i0, fo, ho⟩ := W
  exact sim_w (b := 4) (by decide) fx r hg C e ⟨fo, ho⟩ (sp_add (K := kF K F) htr C r.2.2.2.2.2.2.1 (r.nd (by decide) r.t0) r.l150 r.h8 hm hs) (fun H2 => sp_mAdd htr fx.1 r.mv) r.st (fun a u a' u' q q' => by rw [r.hand, ← r.len (by decide) r.t0] at q'; exact addR_det q q')
theorem tw_set {z y : Int64} (htr : l.stackTraces = false) (fx : FX F m out am) (W : WS K F x m out am H g k0) (hg : g + 1 < 2 ^ 20) (hm : 40 ≤ mc) (hs : 1200 ≤ ms) :
    mX3_set l K mc ms [.ref x, .int s, .long z, .long y] H (kIX (fun a h' => Nx .int K F x m out am (g + 1) (mX4_set l K [.ref m, .int s, .long z, .long y]) 0 a h') (fun E h' => ∃ k, 0 < k ∧ k < 4 ∧ E = exN k ∧ ∀ a, Nx .int K F x m out am (g + 1) (mX4_set l K [.ref m, .int s, .long z, .long y]) k a h')) := by
  obtain ⟨ad, o, nm, th, nu, sc, kd, ty, pa, Lp, rw, I, L, N, C, r, e, i0, fo, ho⟩ := W
  exact sim_w (b := 4) (by decide) fx r hg C e ⟨fo, ho⟩ (sp_set (K := kF K F) htr C r.2.2.2.2.2.2.1 (r.nd (by decide) r.t0) r.l150 r.h8 r.map hm hs) (fun H2 => sp_mSet htr fx.1 r.mv) r.st (fun a u a' u' q q' => by rw [r.hand, ← r.len (by decide) r.t0] at q'; exact setR_det q q')
theorem tw_remove {z : Int64} (htr : l.stackTraces = false) (fx : FX F m out am) (W : WS K F x m out am H g k0) (hg : g + 1 < 2 ^ 20) (hm : 40 ≤ mc) (hs : 1200 ≤ ms) :
    mX3_remove l K mc ms [.ref x, .int s, .long z] H (kIX (fun a h' => Nx .int K F x m out am (g + 1) (mX4_remove l K [.ref m, .int s, .long z]) 0 a h') (fun E h' => ∃ k, 0 < k ∧ k < 4 ∧ E = exN k ∧ ∀ a, Nx .int K F x m out am (g + 1) (mX4_remove l K [.ref m, .int s, .long z]) k a h')) := by
  obtain ⟨ad, o, nm, th, nu, sc, kd, ty, pa, Lp, rw, I, L, N, C, r, e, i0, fo, ho⟩ := W
  exact sim_w (b := 4) (by decide) fx r hg C e ⟨fo, ho⟩ (sp_remove (K := kF K F) htr C r.2.2.2.2.2.2.1 (r.nd (by decide) r.t0) r.l150 r.h8 r.map hm hs) (fun H2 => sp_mRemove htr fx.1 r.mv) r.st (fun a u a' u' q q' => by rw [r.hand] at q'; exact remR_det q q')
theorem tw_fold {y : Int64} (htr : l.stackTraces = false) (fx : FX F m out am) (W : WS K F x m out am H g k0) (hg : g + 1 < 2 ^ 20) (hm : 40 ≤ mc) (hs : 1200 ≤ ms) :
    mX3_fold l K mc ms [.ref x, .int s, .long y] H (kIX (fun a h' => Nx .int K F x m out am (g + 1) (mX4_fold l K [.ref m, .int s, .long y]) 0 a h') (fun E h' => ∃ k, 0 < k ∧ k < 4 ∧ E = exN k ∧ ∀ a, Nx .int K F x m out am (g + 1) (mX4_fold l K [.ref m, .int s, .long y]) k a h')) := by
  obtain ⟨ad, o, nm, th, nu, sc, kd, ty, pa, Lp, rw, I, L, N, C, r, e, i0, fo, ho⟩ := W
  refine sim_w (b := 4) (S := St (sc 0) (kd 0) (ty 0) o.2.2.1 s (nI 3) (nI 3) y) (S' := St (sc 0) (I 3) (I 4) (I 19 0) s (nI 3) (nI 3) y) (ec := exN) (R := fun a u => ∃ i, i < sc 0 ∧ s = nI i ∧ foldR (lk s o.2.2.2.1 o.2.2.2.2 (eP Lp (pa 0) 16)) (eP Lp (pa 0) 16).length (ty 0 i) y a u) (R' := fun a u => ∃ i, i < sc 0 ∧ s = nI i ∧ foldR (lk s (L 20 0) (I 21 0) (mLst I L 0 (N 0))) (N 0) (I 4 i) y a u) (by decide) fx r hg C e ⟨fo, ho⟩
    ((sp_fold (K := kF K F) htr C r.2.2.2.2.2.2.1 (r.nd (by decide) r.t0) r.l150 r.h8 hm hs).mono fun rs h' q => ?_) (fun H2 => (sp_mFold htr fx.1 r.mv).mono fun rs h' q => ?_) r.st (fun a u a' u' q q' => ?_)
  · rcases q with ⟨a, rfl, s0, u, i, hi, hs, hf, sp⟩ | q
    · exact Or.inl ⟨a, rfl, s0, u, ⟨i, hi, hs, hf⟩, sp⟩
    · exact Or.inr q
  · obtain ⟨a, rfl, c, I', L', e1, e2, e3, z⟩ := q
    refine ⟨a, rfl, c, I', L', e1, e2, e3, z.imp id ?_⟩
    rintro ⟨c0, u, i, hi, hs, hf, ms⟩
    exact ⟨c0, u, ⟨i, hi, hs, hf⟩, ms⟩
  · obtain ⟨i, hi, rfl, q⟩ := q
    obtain ⟨i', hi', hii, q'⟩ := q'
    have h8 := r.h8
    have : i = i' := (nI_eq (by omega) (by omega)).mp hii
    subst this
    rw [r.hand, ← r.len (by decide) r.t0, (r.kty i hi).2] at q'
    exact foldR_det q q'
/-- which exception stands for which code, of size and clear -/
def ecS (c : Nat) : String := if c = 1 then exN 1 else exN 3
def ecA (c : Nat) : String := if c = 1 then exN 1 else exN 4
theorem tw_clear (htr : l.stackTraces = false) (fx : FX F m out am) (W : WS K F x m out am H g k0) (hg : g + 1 < 2 ^ 20) (hm : 40 ≤ mc) (hs : 1200 ≤ ms) :
    mX3_clear l K mc ms [.ref x, .int s] H (kIX (fun a h' => Nx .int K F x m out am (g + 1) (mX4_clear l K [.ref m, .int s]) 0 a h') (fun E h' => ∃ k, 0 < k ∧ k < 3 ∧ E = ecS k ∧ ∀ a, Nx .int K F x m out am (g + 1) (mX4_clear l K [.ref m, .int s]) k a h')) := by
  obtain ⟨ad, o, nm, th, nu, sc, kd, ty, pa, Lp, rw, I, L, N, C, r, e, i0, fo, ho⟩ := W
  refine sim_w (b := 3) (S := Sk (sc 0) o.2.2.1 s) (S' := Sk (sc 0) (I 19 0) s) (R := fun a u => clrR (lk s o.2.2.2.1 o.2.2.2.2 (eP Lp (pa 0) 16)) a u) (ec := ecS) (by decide) fx r hg C e ⟨fo, ho⟩ ((sp_clear (K := kF K F) htr C r.2.2.2.2.2.2.1 (r.nd (by decide) r.t0) r.l150 hm hs).mono fun rs h' q => ?_) (fun H2 => sp_mClear htr fx.1 r.mv) (fun c c' a b => by rw [r.2.2.2.1.2.2.1] at b; exact Sk_det a b) (fun a u a' u' q q' => by rw [r.hand] at q'; exact clrR_det q q')
  rcases q with q | ⟨E, rfl, rfl, ⟨rfl, z⟩ | ⟨rfl, z⟩⟩
  · exact Or.inl q
  · exact Or.inr ⟨_, rfl, rfl, 1, by decide, by decide, rfl, z⟩
  · exact Or.inr ⟨_, rfl, rfl, 2, by decide, by decide, rfl, z⟩
theorem getD_det {A B : List Int64} (e : A = B) {i : Int32} {r r' : Int64} (hl : A.length ≤ 1000) (h : ∃ j, j < A.length ∧ i = nI j ∧ r = A.getD j 0) (h' : ∃ j, j < B.length ∧ i = nI j ∧ r' = B.getD j 0) : r' = r := by
  subst e
  obtain ⟨j, hj, rfl, rfl⟩ := h
  obtain ⟨j', hj', e, rfl⟩ := h'
  have : j = j' := (nI_eq (by omega) (by omega)).mp e
  rw [this]
theorem tw_value (htr : l.stackTraces = false) (fx : FX F m out am) (W : WS K F x m out am H g k0) (hg : g + 1 < 2 ^ 20) (hm : 40 ≤ mc) (hs : 1200 ≤ ms) :
    mX3_value9 l K mc ms [.ref x, .int s] H (kG .long (fun a h' => Nx .long K F x m out am (g + 1) (mX4_value l K [.ref m, .int s]) 0 a h') (fun E h' => ∃ k, 0 < k ∧ k < 5 ∧ E = exN k ∧ ∀ a, Nx .long K F x m out am (g + 1) (mX4_value l K [.ref m, .int s]) k a h')) := by
  obtain ⟨ad, o, nm, th, nu, sc, kd, ty, pa, Lp, rw, I, L, N, C, r, e, i0, fo, ho⟩ := W
  refine sim_r (ad := ad) (ec := exN) (P := fun a c => XRd (St (sc 0) (kd 0) (ty 0) o.2.2.1 s (nI 0) (nI 3) 0) 4 ((lk s o.2.2.2.1 o.2.2.2.2 (eP Lp (pa 0) 16)).2.2.2.1 = []) ((lk s o.2.2.2.1 o.2.2.2.2 (eP Lp (pa 0) 16)).2.2.2.1 ≠ [] ∧ a = (lk s o.2.2.2.1 o.2.2.2.2 (eP Lp (pa 0) 16)).2.2.2.1.getD 0 0) c) fx r hg e ⟨fo, ho⟩ ((sp_value9 (K := kF K F) htr C r.2.2.2.2.2.2.1 r.h8 hm hs).mono fun rs h' q => ?_) (fun H2 => sp_mValue htr fx.1 r.mv) (fun a c a' c' q q' => ?_) 0
  · rcases q with ⟨a, rfl, s0, z1, z2, sp⟩ | ⟨E, rfl, sp, ⟨c, c0, c4, rfl, sc'⟩ | ⟨rfl, s0, z⟩⟩
    · exact Or.inl ⟨a, rfl, Or.inr ⟨s0, Or.inr ⟨rfl, z1, z2⟩⟩, sp⟩
    · exact Or.inr ⟨_, rfl, sp, c, c0, by omega, rfl, fun _ => Or.inl ⟨c0, c4, sc'⟩⟩
    · exact Or.inr ⟨_, rfl, sp, 4, by decide, by decide, rfl, fun _ => Or.inr ⟨s0, Or.inl ⟨rfl, z⟩⟩⟩
  · rw [r.hand] at q'
    exact xrd_det (by decide) r.st (fun z y => y.1 z) (fun z y => y.1 z) (fun z y => by rw [z.2, y.2]) q q'
theorem tw_item {i : Int32} (htr : l.stackTraces = false) (fx : FX F m out am) (W : WS K F x m out am H g k0) (hg : g + 1 < 2 ^ 20) (hm : 40 ≤ mc) (hs : 1200 ≤ ms) :
    mX3_item l K mc ms [.ref x, .int s, .int i] H (kG .long (fun a h' => Nx .long K F x m out am (g + 1) (mX4_item l K [.ref m, .int s, .int i]) 0 a h') (fun E h' => ∃ k, 0 < k ∧ k < 4 ∧ E = exN k ∧ ∀ a, Nx .long K F x m out am (g + 1) (mX4_item l K [.ref m, .int s, .int i]) k a h')) := by
  obtain ⟨ad, o, nm, th, nu, sc, kd, ty, pa, Lp, rw, I, L, N, C, r, e, i0, fo, ho⟩ := W
  have hok := C.lk_ok (show 0 < 7 by decide) C.t0 s o.2.2.2.1 o.2.2.2.2
  refine sim_r (ad := ad) (ec := exN) (P := fun a c => XRd (St (sc 0) (kd 0) (ty 0) o.2.2.1 s (nI 1) (nI 2) 0) 1 (¬ isS i (lk s o.2.2.2.1 o.2.2.2.2 (eP Lp (pa 0) 16)).2.2.2.1.length) (∃ j, j < (lk s o.2.2.2.1 o.2.2.2.2 (eP Lp (pa 0) 16)).2.2.2.1.length ∧ i = nI j ∧ a = (lk s o.2.2.2.1 o.2.2.2.2 (eP Lp (pa 0) 16)).2.2.2.1.getD j 0) c) fx r hg e ⟨fo, ho⟩ ((sp_item (K := kF K F) htr C r.2.2.2.2.2.2.1 r.h8 hm hs).mono fun rs h' q => ?_) (fun H2 => sp_mItem htr fx.1 r.mv) (fun a c a' c' q q' => ?_) 0
  · rcases q with ⟨a, rfl, s0, z, sp⟩ | ⟨E, rfl, sp, ⟨c, c0, c4, rfl, sc'⟩ | ⟨rfl, s0, z⟩⟩
    · exact Or.inl ⟨a, rfl, Or.inr ⟨s0, Or.inr ⟨rfl, z⟩⟩, sp⟩
    · exact Or.inr ⟨_, rfl, sp, c, c0, by omega, rfl, fun _ => Or.inl ⟨c0, c4, sc'⟩⟩
    · exact Or.inr ⟨_, rfl, sp, 1, by decide, by decide, rfl, fun _ => Or.inr ⟨s0, Or.inl ⟨rfl, z⟩⟩⟩
  · rw [r.hand] at q'
    refine xrd_det (by decide) r.st (fun z y => ?_) (fun z y => ?_) (fun z y => getD_det rfl (by omega) z y) q q'
    · obtain ⟨j, hj, rfl, _⟩ := y; exact z (isS_of hj (by omega))
    · obtain ⟨j, hj, rfl, _⟩ := y; exact z (isS_of hj (by omega))
theorem tw_member {i : Int32} (htr : l.stackTraces = false) (fx : FX F m out am) (W : WS K F x m out am H g k0) (hg : g + 1 < 2 ^ 20) (hm : 40 ≤ mc) (hs : 1200 ≤ ms) :
    mX3_member l K mc ms [.ref x, .int s, .int i] H (kG .long (fun a h' => Nx .long K F x m out am (g + 1) (mX4_member l K [.ref m, .int s, .int i]) 0 a h') (fun E h' => ∃ k, 0 < k ∧ k < 4 ∧ E = exN k ∧ ∀ a, Nx .long K F x m out am (g + 1) (mX4_member l K [.ref m, .int s, .int i]) k a h')) := by
  obtain ⟨ad, o, nm, th, nu, sc, kd, ty, pa, Lp, rw, I, L, N, C, r, e, i0, fo, ho⟩ := W
  have hok := C.lk_ok (show 0 < 7 by decide) C.t0 s o.2.2.2.1 o.2.2.2.2
  refine sim_r (ad := ad) (ec := exN) (P := fun a c => XRd (St (sc 0) (kd 0) (ty 0) o.2.2.1 s (nI 2) (nI 2) 0) 1 (¬ isS i (lk s o.2.2.2.1 o.2.2.2.2 (eP Lp (pa 0) 16)).2.2.2.2.1.length) (∃ j, j < (lk s o.2.2.2.1 o.2.2.2.2 (eP Lp (pa 0) 16)).2.2.2.2.1.length ∧ i = nI j ∧ a = (lk s o.2.2.2.1 o.2.2.2.2 (eP Lp (pa 0) 16)).2.2.2.2.1.getD j 0) c) fx r hg e ⟨fo, ho⟩ ((sp_member (K := kF K F) htr C r.2.2.2.2.2.2.1 r.h8 hm hs).mono fun rs h' q => ?_) (fun H2 => sp_mMember htr fx.1 r.mv) (fun a c a' c' q q' => ?_) 0
  · rcases q with ⟨a, rfl, s0, z, sp⟩ | ⟨E, rfl, sp, ⟨c, c0, c4, rfl, sc'⟩ | ⟨rfl, s0, z⟩⟩
    · exact Or.inl ⟨a, rfl, Or.inr ⟨s0, Or.inr ⟨rfl, z⟩⟩, sp⟩
    · exact Or.inr ⟨_, rfl, sp, c, c0, by omega, rfl, fun _ => Or.inl ⟨c0, c4, sc'⟩⟩
    · exact Or.inr ⟨_, rfl, sp, 1, by decide, by decide, rfl, fun _ => Or.inr ⟨s0, Or.inl ⟨rfl, z⟩⟩⟩
  · rw [r.hand] at q'
    refine xrd_det (by decide) r.st (fun z y => ?_) (fun z y => ?_) (fun z y => getD_det rfl (by omega) z y) q q'
    · obtain ⟨j, hj, rfl, _⟩ := y; exact z (isS_of hj (by omega))
    · obtain ⟨j, hj, rfl, _⟩ := y; exact z (isS_of hj (by omega))
theorem tw_get {z : Int64} (htr : l.stackTraces = false) (fx : FX F m out am) (W : WS K F x m out am H g k0) (hg : g + 1 < 2 ^ 20) (hm : 40 ≤ mc) (hs : 1200 ≤ ms) :
    mX3_get9 l K mc ms [.ref x, .int s, .long z] H (kG .long (fun a h' => Nx .long K F x m out am (g + 1) (mX4_get l K [.ref m, .int s, .long z]) 0 a h') (fun E h' => ∃ k, 0 < k ∧ k < 5 ∧ E = exN k ∧ ∀ a, Nx .long K F x m out am (g + 1) (mX4_get l K [.ref m, .int s, .long z]) k a h')) := by
  obtain ⟨ad, o, nm, th, nu, sc, kd, ty, pa, Lp, rw, I, L, N, C, r, e, i0, fo, ho⟩ := W
  refine sim_r (ad := ad) (ec := exN) (P := fun a c => XRd (St (sc 0) (kd 0) (ty 0) o.2.2.1 s (nI 2) (nI 2) 0) 4 (∃ j, plm (lk s o.2.2.2.1 o.2.2.2.2 (eP Lp (pa 0) 16)) z j ∧ ¬ hasM (lk s o.2.2.2.1 o.2.2.2.2 (eP Lp (pa 0) 16)) z j) (∃ j, plm (lk s o.2.2.2.1 o.2.2.2.2 (eP Lp (pa 0) 16)) z j ∧ hasM (lk s o.2.2.2.1 o.2.2.2.2 (eP Lp (pa 0) 16)) z j ∧ a = (lk s o.2.2.2.1 o.2.2.2.2 (eP Lp (pa 0) 16)).2.2.2.1.getD j 0) c) fx r hg e ⟨fo, ho⟩ ((sp_get9 (K := kF K F) htr C r.2.2.2.2.2.2.1 r.h8 r.map hm hs).mono fun rs h' q => ?_) (fun H2 => sp_mGet htr fx.1 r.mv) (fun a c a' c' q q' => ?_) 0
  · rcases q with ⟨a, rfl, s0, z, sp⟩ | ⟨E, rfl, sp, ⟨c, c0, c4, rfl, sc'⟩ | ⟨rfl, s0, z⟩⟩
    · exact Or.inl ⟨a, rfl, Or.inr ⟨s0, Or.inr ⟨rfl, z⟩⟩, sp⟩
    · exact Or.inr ⟨_, rfl, sp, c, c0, by omega, rfl, fun _ => Or.inl ⟨c0, c4, sc'⟩⟩
    · exact Or.inr ⟨_, rfl, sp, 4, by decide, by decide, rfl, fun _ => Or.inr ⟨s0, Or.inl ⟨rfl, z⟩⟩⟩
  · rw [r.hand] at q'
    refine xrd_det (by decide) r.st ?_ ?_ ?_ q q'
    · rintro ⟨j, hj, n⟩ ⟨j', hj', y, _⟩
      rw [cbR_inj hj hj'] at y; exact n y
    · rintro ⟨j, hj, n⟩ ⟨j', hj', y, _⟩
      rw [cbR_inj hj hj'] at y; exact n y
    · rintro ⟨j, hj, n, rfl⟩ ⟨j', hj', y, rfl⟩
      rw [cbR_inj hj hj']
theorem tw_size (htr : l.stackTraces = false) (fx : FX F m out am) (W : WS K F x m out am H g k0) (hg : g + 1 < 2 ^ 20) (hm : 40 ≤ mc) (hs : 1200 ≤ ms) :
    mX3_size l K mc ms [.ref x, .int s] H (kG .int (fun a h' => Nx .int K F x m out am (g + 1) (mX4_size l K [.ref m, .int s]) 0 a h') (fun E h' => ∃ k, 0 < k ∧ k < 3 ∧ E = ecS k ∧ ∀ a, Nx .int K F x m out am (g + 1) (mX4_size l K [.ref m, .int s]) k a h')) := by
  obtain ⟨ad, o, nm, th, nu, sc, kd, ty, pa, Lp, rw, I, L, N, C, r, e, i0, fo, ho⟩ := W
  refine sim_r (ad := ad) (ec := ecS) (P := fun a c => (0 < c ∧ c < 3 ∧ Sk (sc 0) o.2.2.1 s c) ∨ (c = 0 ∧ Sk (sc 0) o.2.2.1 s 0 ∧ ∃ i, i < sc 0 ∧ s = nI i ∧ a = if kd 0 i = nI 3 then (lk s o.2.2.2.1 o.2.2.2.2 (eP Lp (pa 0) 16)).2.2.2.2.2 else nI (lk s o.2.2.2.1 o.2.2.2.2 (eP Lp (pa 0) 16)).2.2.2.1.length)) fx r hg e ⟨fo, ho⟩ ((sp_size (K := kF K F) htr C r.2.2.2.2.2.2.1 r.h8 hm hs).mono fun rs h' q => ?_) (fun H2 => sp_mSize htr fx.1 r.mv) (fun a c a' c' q q' => ?_) 0
  · rcases q with ⟨a, rfl, s0, z, sp⟩ | ⟨E, rfl, rfl, ⟨rfl, z⟩ | ⟨rfl, z⟩⟩
    · exact Or.inl ⟨a, rfl, Or.inr ⟨rfl, s0, z⟩, sp⟩
    · exact Or.inr ⟨_, rfl, SpC.none C r.2.2.2.2.2.2.1 Ext.rf, 1, by decide, by decide, rfl, fun _ => Or.inl ⟨by decide, by decide, z⟩⟩
    · exact Or.inr ⟨_, rfl, SpC.none C r.2.2.2.2.2.2.1 Ext.rf, 2, by decide, by decide, rfl, fun _ => Or.inl ⟨by decide, by decide, z⟩⟩
  · rw [r.hand, r.2.2.2.1.2.2.1] at q'
    rcases q with ⟨c0, c3, q⟩ | ⟨rfl, q, i, hi, rfl, rfl⟩ <;> rcases q' with ⟨c0', c3', q'⟩ | ⟨rfl, q', i', hi', hii, rfl⟩
    · exact ⟨Sk_det q q', fun z => by omega⟩
    · have := Sk_det q q'; omega
    · have := Sk_det q q'; omega
    · have h8 := r.h8
      have : i = i' := (nI_eq (by omega) (by omega)).mp hii
      subst this
      exact ⟨rfl, fun _ => by rw [(r.kty i hi).1]⟩
end Rel
