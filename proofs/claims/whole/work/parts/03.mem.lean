/-! ===== reads and writes of abstract heaps ===== -/
def gf (h : Hp) (a ci k : Nat) : Option Value := match h a with
  | some (.inr o) => if o.1 = ci then o.2[k]? else none
  | _ => none
def pf (h : Hp) (a ci k : Nat) (v : Value) : Option Hp := match h a with
  | some (.inr o) => if o.1 = ci ∧ k < o.2.length then some (va_up h a (some (.inr (ci, o.2.set k v)))) else none
  | _ => none
def alen (K : Kx) (t : Nat) (h : Hp) (a : Nat) : Option Int32 := match h a with
  | some (.inl (c, n, _)) => if c = K.2.1 t then some (nI n) else none
  | _ => none
def aI (K : Kx) (h : Hp) (a : Nat) (i : Int32) : Option Int32 := match h a with
  | some (.inl (c, n, .inl f)) => if c = K.2.1 0 ∧ ¬ (i < 0 ∨ n ≤ i.toNatClampNeg) then some (f i.toNatClampNeg) else none
  | _ => none
def aZ (K : Kx) (h : Hp) (a : Nat) (i : Int32) : Option Int32 := match h a with
  | some (.inl (c, n, .inl f)) => if c = K.2.1 2 ∧ ¬ (i < 0 ∨ n ≤ i.toNatClampNeg) then some (f i.toNatClampNeg) else none
  | _ => none
def aJ (K : Kx) (h : Hp) (a : Nat) (i : Int32) : Option Int64 := match h a with
  | some (.inl (c, n, .inr (.inl f))) => if c = K.2.1 1 ∧ ¬ (i < 0 ∨ n ≤ i.toNatClampNeg) then some (f i.toNatClampNeg) else none
  | _ => none
def aQ (K : Kx) (t : Nat) (h : Hp) (a : Nat) (i : Int32) : Option (Option Nat) := match h a with
  | some (.inl (c, n, .inr (.inr (.inr (.inr f))))) => if c = K.2.1 t ∧ ¬ (i < 0 ∨ n ≤ i.toNatClampNeg) then some (f i.toNatClampNeg) else none
  | _ => none
def wI (K : Kx) (h : Hp) (a : Nat) (i x : Int32) : Option Hp := match h a with
  | some (.inl (c, n, .inl f)) => if c = K.2.1 0 ∧ ¬ (i < 0 ∨ n ≤ i.toNatClampNeg) then some (va_up h a (some (xI K n (upd f i.toNatClampNeg x)))) else none
  | _ => none
def wZ (K : Kx) (h : Hp) (a : Nat) (i x : Int32) : Option Hp := match h a with
  | some (.inl (c, n, .inl f)) => if c = K.2.1 2 ∧ ¬ (i < 0 ∨ n ≤ i.toNatClampNeg) then some (va_up h a (some (xZ K n (upd f i.toNatClampNeg x)))) else none
  | _ => none
def wJ (K : Kx) (h : Hp) (a : Nat) (i : Int32) (x : Int64) : Option Hp := match h a with
  | some (.inl (c, n, .inr (.inl f))) => if c = K.2.1 1 ∧ ¬ (i < 0 ∨ n ≤ i.toNatClampNeg) then some (va_up h a (some (xJ K n (vp_updL f i.toNatClampNeg x)))) else none
  | _ => none
def wQ (K : Kx) (t : Nat) (h : Hp) (a : Nat) (i : Int32) (x : Option Nat) : Option Hp := match h a with
  | some (.inl (c, n, .inr (.inr (.inr (.inr f))))) => if c = K.2.1 t ∧ ¬ (i < 0 ∨ n ≤ i.toNatClampNeg) then some (va_up h a (some (xQ K t n (va_up f i.toNatClampNeg x)))) else none
  | _ => none
theorem gf_of {h : Hp} {a ci k : Nat} {fs : List Value} (e : h a = some (xO ci fs)) : gf h a ci k = fs[k]? := by simp [gf, e]
theorem pf_of {h : Hp} {a ci k : Nat} {fs : List Value} {v : Value} (e : h a = some (xO ci fs)) (hk : k < fs.length) : pf h a ci k v = some (va_up h a (some (xO ci (fs.set k v)))) := by simp [pf, e, hk]
theorem gf_spec {h : Hp} {a ci k : Nat} {v : Value} (e : gf h a ci k = some v) : ∃ fs, h a = some (xO ci fs) ∧ fs[k]? = some v := by
  unfold gf at e
  split at e
  · rename_i o ho
    split at e
    · rename_i hc
      exact ⟨o.2, by rw [ho, ← hc], e⟩
    · cases e
  · cases e
theorem pf_spec {h h' : Hp} {a ci k : Nat} {v : Value} (e : pf h a ci k v = some h') : ∃ fs, h a = some (xO ci fs) ∧ k < fs.length ∧ h' = va_up h a (some (xO ci (fs.set k v))) := by
  unfold pf at e
  split at e
  · rename_i o ho
    split at e
    · rename_i hc
      exact ⟨o.2, by rw [ho, ← hc.1], hc.2, (Option.some.inj e).symm⟩
    · cases e
  · cases e
theorem alen_spec {K : Kx} {t : Nat} {h : Hp} {a : Nat} {v : Int32} (e : alen K t h a = some v) : ∃ x : vp_A, h a = some (.inl (K.2.1 t, x)) ∧ v = nI x.1 := by
  unfold alen at e
  split at e
  · rename_i c n y ho
    split at e
    · rename_i hc
      exact ⟨(n, y), by rw [ho, hc], (Option.some.inj e).symm⟩
    · cases e
  · cases e
theorem aI_spec {K : Kx} {h : Hp} {a : Nat} {i v : Int32} (e : aI K h a i = some v) : ∃ n f, h a = some (xI K n f) ∧ vp_in i n ∧ v = f i.toNatClampNeg := by
  unfold aI at e
  split at e
  · rename_i c n f ho
    split at e
    · rename_i hc
      exact ⟨n, f, by rw [ho, hc.1], hc.2, (Option.some.inj e).symm⟩
    · cases e
  · cases e
theorem aZ_spec {K : Kx} {h : Hp} {a : Nat} {i v : Int32} (e : aZ K h a i = some v) : ∃ n f, h a = some (xZ K n f) ∧ vp_in i n ∧ v = f i.toNatClampNeg := by
  unfold aZ at e
  split at e
  · rename_i c n f ho
    split at e
    · rename_i hc
      exact ⟨n, f, by rw [ho, hc.1], hc.2, (Option.some.inj e).symm⟩
    · cases e
  · cases e
theorem aJ_spec {K : Kx} {h : Hp} {a : Nat} {i : Int32} {v : Int64} (e : aJ K h a i = some v) : ∃ n f, h a = some (xJ K n f) ∧ vp_in i n ∧ v = f i.toNatClampNeg := by
  unfold aJ at e
  split at e
  · rename_i c n f ho
    split at e
    · rename_i hc
      exact ⟨n, f, by rw [ho, hc.1], hc.2, (Option.some.inj e).symm⟩
    · cases e
  · cases e
theorem aQ_spec {K : Kx} {t : Nat} {h : Hp} {a : Nat} {i : Int32} {v : Option Nat} (e : aQ K t h a i = some v) : ∃ n f, h a = some (xQ K t n f) ∧ vp_in i n ∧ v = f i.toNatClampNeg := by
  unfold aQ at e
  split at e
  · rename_i c n f ho
    split at e
    · rename_i hc
      exact ⟨n, f, by rw [ho, hc.1], hc.2, (Option.some.inj e).symm⟩
    · cases e
  · cases e
theorem wI_spec {K : Kx} {h h' : Hp} {a : Nat} {i x : Int32} (e : wI K h a i x = some h') : ∃ n f, h a = some (xI K n f) ∧ vp_in i n ∧ h' = va_up h a (some (xI K n (upd f i.toNatClampNeg x))) := by
  unfold wI at e
  split at e
  · rename_i c n f ho
    split at e
    · rename_i hc
      exact ⟨n, f, by rw [ho, hc.1], hc.2, (Option.some.inj e).symm⟩
    · cases e
  · cases e
theorem wZ_spec {K : Kx} {h h' : Hp} {a : Nat} {i x : Int32} (e : wZ K h a i x = some h') : ∃ n f, h a = some (xZ K n f) ∧ vp_in i n ∧ h' = va_up h a (some (xZ K n (upd f i.toNatClampNeg x))) := by
  unfold wZ at e
  split at e
  · rename_i c n f ho
    split at e
    · rename_i hc
      exact ⟨n, f, by rw [ho, hc.1], hc.2, (Option.some.inj e).symm⟩
    · cases e
  · cases e
theorem wJ_spec {K : Kx} {h h' : Hp} {a : Nat} {i : Int32} {x : Int64} (e : wJ K h a i x = some h') : ∃ n f, h a = some (xJ K n f) ∧ vp_in i n ∧ h' = va_up h a (some (xJ K n (vp_updL f i.toNatClampNeg x))) := by
  unfold wJ at e
  split at e
  · rename_i c n f ho
    split at e
    · rename_i hc
      exact ⟨n, f, by rw [ho, hc.1], hc.2, (Option.some.inj e).symm⟩
    · cases e
  · cases e
theorem wQ_spec {K : Kx} {t : Nat} {h h' : Hp} {a : Nat} {i : Int32} {x : Option Nat} (e : wQ K t h a i x = some h') : ∃ n f, h a = some (xQ K t n f) ∧ vp_in i n ∧ h' = va_up h a (some (xQ K t n (va_up f i.toNatClampNeg x))) := by
  unfold wQ at e
  split at e
  · rename_i c n f ho
    split at e
    · rename_i hc
      exact ⟨n, f, by rw [ho, hc.1], hc.2, (Option.some.inj e).symm⟩
    · cases e
  · cases e
theorem xJ_in {K : Kx} {n : Nat} {f : Nat → Int64} {i : Int32} (hi : vp_in i n) (g : Nat → Int64) : xJ K n f ≠ xJ K 0 g := by
  intro e
  cases e
  exact hi (Or.inr (Nat.zero_le _))
theorem xI_ne {c : ClassId} {K : Kx} {n : Nat} {f : Nat → Int32} (g : Nat → Int64) : (.inl (c, n, .inl f) : va_E) ≠ xJ K 0 g := fun e => by
  have h2 := (Prod.mk.inj (Prod.mk.inj (Sum.inl.inj e)).2).2
  cases h2
theorem xQ_ne {c : ClassId} {K : Kx} {n : Nat} {f : Nat → Option Nat} (g : Nat → Int64) : (.inl (c, n, .inr (.inr (.inr (.inr f)))) : va_E) ≠ xJ K 0 g := fun e => by
  have h2 := Sum.inr.inj (Prod.mk.inj (Prod.mk.inj (Sum.inl.inj e)).2).2
  cases h2
theorem xO_ne {K : Kx} {ci : Nat} {fs : List Value} (g : Nat → Int64) : xO ci fs ≠ xJ K 0 g := fun e => by cases e
section Mem
variable {l : Launch} {K : Kx} {own : String} {cc : ByteArray} {nL : Nat} {ret : Option FieldType} {Ts : List Cond} {hh : List (Nat × Nat × Nat × Nat)} {nm : String} {fr lo mc ms : Nat} {Qf : State → Array Value → List Frame → State → Prop} {pc : Nat} {rest : List Value} {lv lv' : List (Nat × Value)} {h : Hp} {kc ks : Nat}
theorem J_get {ci k a N idx : Nat} {C : String} {T : u_T} {v : Value} (hd : decode cc pc = .ok (.getfield idx, 3)) (hc : vwCl[ci]? = some (C, T, N)) (hin : ∀ w ∈ u_ws C T N, w ∈ Ts) (hk : k < N) (hl0 : Cond.fieldLink own idx (T k).1 (T k).2.1 (T k).2.2.1 ∈ Ts) (hg : gf h a ci k = some v)
    (kk : J l K own cc nL ret Ts hh nm fr lo mc ms Qf (pc + 3) (v :: rest) lv h kc ks) : J l K own cc nL ret Ts hh nm fr lo mc ms Qf pc (.ref a :: rest) lv h kc ks := by
  intro p e s m args below meth c ok H locs ls hR hS hl
  obtain ⟨fs, he, hv⟩ := gf_spec hg
  obtain ⟨hb, hat⟩ := hR.at he (fun f e => by cases e)
  have hP : va_P K.1 vwCl [(a, .inr (ci, fs))] H := fun k q hq => by
    have hz : k < 1 := (List.getElem?_eq_some_iff.mp hq).1
    rw [show k = 0 by omega] at hq
    cases hq
    exact hat
  exact va_get ok.1 ok.2.1 ok.2.2.2.2.1 hin ok.2.2.2.1 ok.2.2.2.2.2.2.2.2.2.1.1 hP 0 rfl hc k hk (ok.2.2.2.2.1 _ hl0) (fun _ h9 => h9) hv hd (kk p e s m args below meth c ok H locs ls hR hS hl)
theorem J_put {ci k a N idx : Nat} {C : String} {T : u_T} {v : Value} {ty : FieldType} {h' : Hp} (hd : decode cc pc = .ok (.putfield idx, 3)) (hc : vwCl[ci]? = some (C, T, N)) (hin : ∀ w ∈ u_ws C T N, w ∈ Ts) (ty0 : Nat → FieldType) (hty : ∀ k, k < N → parseFieldDescriptor (T k).2.2.1 = some (ty0 k)) (hnm : ∀ a, a < N → ∀ b, b < N → a ≠ b → (T a).2.1 ≠ (T b).2.1)
    (hk : k < N) (hl0 : Cond.fieldLink own idx (T k).1 (T k).2.1 (T k).2.2.1 ∈ Ts) (hfin : (T k).2.2.2 = false) (hty1 : ty0 k = ty) (hn : narrow ty v = v) (hfit : fits ty v = true) (hg : pf h a ci k v = some h')
    (kk : J l K own cc nL ret Ts hh nm fr lo mc ms Qf (pc + 3) rest lv h' kc ks) : J l K own cc nL ret Ts hh nm fr lo mc ms Qf pc (v :: .ref a :: rest) lv h kc ks := by
  intro p e s m args below meth c ok H locs ls hR hS hl
  obtain ⟨fs, he, hlen, rfl⟩ := pf_spec hg
  obtain ⟨hb, hat⟩ := hR.at he (fun f e => by cases e)
  have hts := ok.2.2.2.2.1
  have hK := ok.2.2.2.2.2.2.2.2.2.1.1
  have hap := va_apart (own := own) hts hin ty0 hty hnm hK hc
  obtain ⟨r, h1, cell, q1, q2, q3, q4⟩ := hat
  have hr : r = (C, T, N) := Option.some.inj (h1.symm.trans hc)
  subst hr
  obtain ⟨hSl, hfc, kC, hkC, hkind⟩ := hK.1 ci _ hc
  obtain ⟨cf, kf, fi, f, hi, hsl⟩ := hSl k hk
  have hlay := hts _ (hin _ (u_in_lay hk))
  unfold u_lay at hlay
  rw [if_neg (by rw [hfin]; decide)] at hlay
  have hst := (u_facts hfc hkC (u_lays hts hin hk) hi).1
  have h6 := u_store hfc hkC hkind hlay hi (ty := ty) (by rw [← hty1]; exact hty k hk) hn hfit
  refine W.putK ok.1 ok.2.1 (f := f) ⟨ok.2.2.2.1, hts _ hl0, ⟨_, _, _, hi⟩, hst⟩ (by rw [q2]; exact h6) q1 q3 (by rw [hsl]; exact k2_hasslot (q4 k hk)) rfl rfl hd fun H' e1 e2 e3 => ?_
  rw [hsl] at e1 ⊢
  refine kk p e s m args below meth c ok H' _ ls (hR.upd hb e2 e3 ⟨_, hc, t_OB.to (V := updV (vp_V fs) k v) ⟨_, e1, q2, q3, t_set q4 hap hk v⟩ (fun j _ => vp_updV_set hlen v j)⟩) (hS.put e2 e3 hb) hl
theorem J_iret {v : Int32} {Post : Rs → Hp → Prop} (hd : decode cc pc = .ok (.ireturn, 1)) (hr : ret = some .int) (h1 : kc ≤ mc) (h2 : ks ≤ ms) (hp : Post (.inl (some (.int v))) h) : J l K own cc nL ret Ts hh nm fr lo mc ms (QM K mc ms Post) pc [.int v] lv h kc ks :=
  fun p e s m args below meth c ok H locs ls hR hS hl => W.widen h1 h2 (vx_ret (W.iret ok.1 ok.2.1 (ok.2.2.2.2.2.2.1.trans hr) (fun t ht hW => ⟨⟨_, h, rfl, hp, by rw [ht]; exact hR⟩, hS.F ht⟩) hS.2.2 hd (hlocks := ok.2.2.2.2.2.1)))
theorem J_zret {v : Int32} {Post : Rs → Hp → Prop} (hd : decode cc pc = .ok (.ireturn, 1)) (hr : ret = some .boolean) (hv : v = 0 ∨ v = 1) (h1 : kc ≤ mc) (h2 : ks ≤ ms) (hp : Post (.inl (some (.int v))) h) : J l K own cc nL ret Ts hh nm fr lo mc ms (QM K mc ms Post) pc [.int v] lv h kc ks :=
  fun p e s m args below meth c ok H locs ls hR hS hl => W.widen h1 h2 (vx_ret (W.zret ok.1 ok.2.1 (ok.2.2.2.2.2.2.1.trans hr) (by rcases hv with rfl | rfl <;> rfl) (fun t ht hW => ⟨⟨_, h, rfl, hp, by rw [ht]; exact hR⟩, hS.F ht⟩) hS.2.2 hd (hlocks := ok.2.2.2.2.2.1)))
theorem J_lret {v : Int64} {Post : Rs → Hp → Prop} (hd : decode cc pc = .ok (.lreturn, 1)) (hr : ret = some .long) (h1 : kc ≤ mc) (h2 : ks ≤ ms) (hp : Post (.inl (some (.long v))) h) : J l K own cc nL ret Ts hh nm fr lo mc ms (QM K mc ms Post) pc [.long v] lv h kc ks :=
  fun p e s m args below meth c ok H locs ls hR hS hl => W.widen h1 h2 (vx_ret (W.lret ok.1 ok.2.1 (ok.2.2.2.2.2.2.1.trans hr) (fun t ht hW => ⟨⟨_, h, rfl, hp, by rw [ht]; exact hR⟩, hS.F ht⟩) hS.2.2 hd (hlocks := ok.2.2.2.2.2.1)))
theorem J_vret {Post : Rs → Hp → Prop} (hd : decode cc pc = .ok (.return_, 1)) (hr : ret = none) (h1 : kc ≤ mc) (h2 : ks ≤ ms) (hp : Post (.inl none) h) : J l K own cc nL ret Ts hh nm fr lo mc ms (QM K mc ms Post) pc [] lv h kc ks :=
  fun p e s m args below meth c ok H locs ls hR hS hl => W.widen h1 h2 (vx_ret (W.vret ok.1 ok.2.1 (ok.2.2.2.2.2.2.1.trans hr) (fun t ht hW => ⟨⟨_, h, rfl, hp, by rw [ht]; exact hR⟩, hS.F ht⟩) hS.2.2 hd (hlocks := ok.2.2.2.2.2.1)))
theorem J_aret {x : Option Nat} {rt : FieldType} {Post : Rs → Hp → Prop} (hd : decode cc pc = .ok (.areturn, 1)) (hr : ret = some rt) (hrt : (∃ n, rt = .object n) ∨ ∃ t, rt = .array t) (h1 : kc ≤ mc) (h2 : ks ≤ ms) (hp : Post (.inl (some (va_rf x))) h) : J l K own cc nL ret Ts hh nm fr lo mc ms (QM K mc ms Post) pc [va_rf x] lv h kc ks :=
  fun p e s m args below meth c ok H locs ls hR hS hl => W.widen h1 h2 (vx_ret (W.aret ok.1 ok.2.1 (ok.2.2.2.2.2.2.1.trans hr) hrt (by cases x with | none => exact Or.inl rfl | some y => exact Or.inr ⟨y, rfl⟩) (fun t ht hW => ⟨⟨_, h, rfl, hp, by rw [ht]; exact hR⟩, hS.F ht⟩) hS.2.2 hd (hlocks := ok.2.2.2.2.2.1)))
theorem J_alen {a t : Nat} {v : Int32} {ty : FieldType} (hd : decode cc pc = .ok (.arraylength, 1)) (ht : (tyL K)[t]? = some (K.2.1 t, ty)) (hg : alen K t h a = some v)
    (kk : J l K own cc nL ret Ts hh nm fr lo mc ms Qf (pc + 1) (.int v :: rest) lv h kc ks) : J l K own cc nL ret Ts hh nm fr lo mc ms Qf pc (.ref a :: rest) lv h kc ks := by
  intro p e s m args below meth c ok H locs ls hR hS hl
  obtain ⟨x, he, rfl⟩ := alen_spec hg
  have hk := kk p e s m args below meth c ok H locs ls hR hS hl
  rcases hR.1 a _ he with q | ⟨rfl, q2, f, q3⟩
  · have hP : va_P K.1 vwCl [(a, .inl (K.2.1 t, x))] H := fun k q' hq => by
      have hz : k < 1 := (List.getElem?_eq_some_iff.mp hq).1
      rw [show k = 0 by omega] at hq
      cases hq
      exact q.2
    exact va_alen ok.1 ok.2.1 ok.2.2.2.2.2.2.2.2.2.1.1 hP 0 t rfl ht rfl hd hk
  · obtain ⟨cell, g1, g2, g3, g4, g5, g6, g7⟩ := ok.2.2.2.2.2.2.2.2.2.1.2.2.2.2.2.2.2.2.2.2.2.2.1
    have hx : x.1 = 0 := by
      have e1 := Sum.inl.inj q3
      rw [(Prod.mk.inj e1).2]
    rw [hx] at hk
    exact W.alen ok.1 ok.2.1 (cell := cell) (by rw [hR.2.2 _ q2]; exact g1) g2 g5 rfl rfl hd hk
theorem Rp.one {H : Heap} (hR : Rp K h H) {a : Nat} {x : va_E} (he : h a = some x) (hx : ∀ f, x ≠ xJ K 0 f) : va_P K.1 vwCl [(a, x)] H := fun k q' hq => by
  have hz : k < 1 := (List.getElem?_eq_some_iff.mp hq).1
  rw [show k = 0 by omega] at hq
  cases hq
  exact (hR.at he hx).2
theorem J_iald {a : Nat} {i v : Int32} (hd : decode cc pc = .ok (.iaload, 1)) (hg : aI K h a i = some v)
    (kk : J l K own cc nL ret Ts hh nm fr lo mc ms Qf (pc + 1) (.int v :: rest) lv h kc ks) : J l K own cc nL ret Ts hh nm fr lo mc ms Qf pc (.int i :: .ref a :: rest) lv h kc ks := by
  intro p e s m args below meth c ok H locs ls hR hS hl
  obtain ⟨n, f, he, hi, rfl⟩ := aI_spec hg
  exact va_iald ok.1 ok.2.1 ok.2.2.2.2.2.2.2.2.2.1.1 (hR.one he xI_ne) 0 0 rfl rfl hi hd (kk p e s m args below meth c ok H locs ls hR hS hl)
theorem J_zald {a : Nat} {i v : Int32} (hd : decode cc pc = .ok (.baload, 1)) (hg : aZ K h a i = some v)
    (kk : J l K own cc nL ret Ts hh nm fr lo mc ms Qf (pc + 1) (.int v :: rest) lv h kc ks) : J l K own cc nL ret Ts hh nm fr lo mc ms Qf pc (.int i :: .ref a :: rest) lv h kc ks := by
  intro p e s m args below meth c ok H locs ls hR hS hl
  obtain ⟨n, f, he, hi, rfl⟩ := aZ_spec hg
  exact va_zald ok.1 ok.2.1 ok.2.2.2.2.2.2.2.2.2.1.1 (hR.one he xI_ne) 0 2 rfl rfl hi hd (kk p e s m args below meth c ok H locs ls hR hS hl)
theorem J_lald {a : Nat} {i : Int32} {v : Int64} (hd : decode cc pc = .ok (.laload, 1)) (hg : aJ K h a i = some v)
    (kk : J l K own cc nL ret Ts hh nm fr lo mc ms Qf (pc + 1) (.long v :: rest) lv h kc ks) : J l K own cc nL ret Ts hh nm fr lo mc ms Qf pc (.int i :: .ref a :: rest) lv h kc ks := by
  intro p e s m args below meth c ok H locs ls hR hS hl
  obtain ⟨n, f, he, hi, rfl⟩ := aJ_spec hg
  exact va_lald ok.1 ok.2.1 ok.2.2.2.2.2.2.2.2.2.1.1 (hR.one he (xJ_in hi)) 0 1 rfl rfl hi hd (kk p e s m args below meth c ok H locs ls hR hS hl)
theorem J_aald {a t : Nat} {i : Int32} {v : Option Nat} {C : String} (hd : decode cc pc = .ok (.aaload, 1)) (ht : (tyL K)[t]? = some (K.2.1 t, .object C)) (hg : aQ K t h a i = some v)
    (kk : J l K own cc nL ret Ts hh nm fr lo mc ms Qf (pc + 1) (va_rf v :: rest) lv h kc ks) : J l K own cc nL ret Ts hh nm fr lo mc ms Qf pc (.int i :: .ref a :: rest) lv h kc ks := by
  intro p e s m args below meth c ok H locs ls hR hS hl
  obtain ⟨n, f, he, hi, rfl⟩ := aQ_spec hg
  exact va_aldq ok.1 ok.2.1 ok.2.2.2.2.2.2.2.2.2.1.1 (hR.one he xQ_ne) 0 t rfl ht hi hd (kk p e s m args below meth c ok H locs ls hR hS hl)
theorem J_iast {a : Nat} {i x : Int32} {h' : Hp} (hd : decode cc pc = .ok (.iastore, 1)) (hg : wI K h a i x = some h')
    (kk : J l K own cc nL ret Ts hh nm fr lo mc ms Qf (pc + 1) rest lv h' kc ks) : J l K own cc nL ret Ts hh nm fr lo mc ms Qf pc (.int x :: .int i :: .ref a :: rest) lv h kc ks := by
  intro p e s m args below meth c ok H locs ls hR hS hl
  obtain ⟨n, f, he, hi, rfl⟩ := wI_spec hg
  obtain ⟨hb, hat⟩ := hR.at he xI_ne
  refine W.iast ok.1 ok.2.1 hat ((ok.2.2.2.2.2.2.2.2.2.1.1.2 0 _ rfl).1 n (fun j => .int (f j))) (fun q => by cases q) (by show ¬ (i < 0 ∨ (arrV _ _ _).slots.size ≤ _); rw [arrV_size]; exact hi) rfl rfl hd fun H1 e1 z oq => ?_
  refine kk p e s m args below meth c ok H1 _ ls (hR.upd hb z oq ?_) (hS.put z oq hb) hl
  show H1[a]? = some (vp_cell _ _)
  rw [e1, vp_cell_i, vp_cell_i, arrV_store]
  congr 2
  funext q
  by_cases hq : q = i.toNatClampNeg
  · subst hq
    simp [updV, upd]
  · simp [updV, upd, hq]
theorem J_zast {a : Nat} {i x : Int32} {h' : Hp} (hd : decode cc pc = .ok (.bastore, 1)) (hx : x = 0 ∨ x = 1) (hg : wZ K h a i x = some h')
    (kk : J l K own cc nL ret Ts hh nm fr lo mc ms Qf (pc + 1) rest lv h' kc ks) : J l K own cc nL ret Ts hh nm fr lo mc ms Qf pc (.int x :: .int i :: .ref a :: rest) lv h kc ks := by
  intro p e s m args below meth c ok H locs ls hR hS hl
  obtain ⟨n, f, he, hi, rfl⟩ := wZ_spec hg
  obtain ⟨hb, hat⟩ := hR.at he xI_ne
  refine W.zast ok.1 ok.2.1 hat ((ok.2.2.2.2.2.2.2.2.2.1.1.2 2 _ rfl).1 n (fun j => .int (f j))) (fun q => by cases q) (by show ¬ (i < 0 ∨ (arrV _ _ _).slots.size ≤ _); rw [arrV_size]; exact hi) rfl rfl hd fun H1 e1 z oq => ?_
  refine kk p e s m args below meth c ok H1 _ ls (hR.upd hb z oq ?_) (hS.put z oq hb) hl
  show H1[a]? = some (vp_cell _ _)
  have hn : vp_nar .boolean x = x := by rcases hx with rfl | rfl <;> rfl
  rw [e1, vp_cell_i, vp_cell_i, arrV_store]
  congr 2
  funext q
  by_cases hq : q = i.toNatClampNeg
  · subst hq
    simp only [updV, upd, if_true]
    rcases hx with rfl | rfl <;> rfl
  · simp [updV, upd, hq]
theorem J_last {a : Nat} {i : Int32} {x : Int64} {h' : Hp} (hd : decode cc pc = .ok (.lastore, 1)) (hg : wJ K h a i x = some h')
    (kk : J l K own cc nL ret Ts hh nm fr lo mc ms Qf (pc + 1) rest lv h' kc ks) : J l K own cc nL ret Ts hh nm fr lo mc ms Qf pc (.long x :: .int i :: .ref a :: rest) lv h kc ks := by
  intro p e s m args below meth c ok H locs ls hR hS hl
  obtain ⟨n, f, he, hi, rfl⟩ := wJ_spec hg
  obtain ⟨hb, hat⟩ := hR.at he (xJ_in hi)
  refine W.last ok.1 ok.2.1 hat ((ok.2.2.2.2.2.2.2.2.2.1.1.2 1 _ rfl).1 n (fun j => .long (f j))) (fun q => by cases q) (by show ¬ (i < 0 ∨ (arrV _ _ _).slots.size ≤ _); rw [arrV_size]; exact hi) rfl rfl hd fun H1 e1 z oq => ?_
  refine kk p e s m args below meth c ok H1 _ ls (hR.upd hb z oq ?_) (hS.put z oq hb) hl
  show H1[a]? = some (vp_cell _ _)
  rw [e1, vp_cell_l, vp_cell_l, arrV_store]
  congr 2
  funext q
  by_cases hq : q = i.toNatClampNeg
  · subst hq
    simp [updV, vp_updL]
  · simp [updV, vp_updL, hq]
theorem J_aast {a t ci v : Nat} {i : Int32} {h' : Hp} {r : vw_C} (hd : decode cc pc = .ok (.aastore, 1)) (ht : (tyL K)[t]? = some (K.2.1 t, .object r.1)) (hc : vwCl[ci]? = some r) (hv : ∃ fs, h v = some (xO ci fs)) (hg : wQ K t h a i (some v) = some h')
    (kk : J l K own cc nL ret Ts hh nm fr lo mc ms Qf (pc + 1) rest lv h' kc ks) : J l K own cc nL ret Ts hh nm fr lo mc ms Qf pc (.ref v :: .int i :: .ref a :: rest) lv h kc ks := by
  intro p e s m args below meth c ok H locs ls hR hS hl
  obtain ⟨n, f, he, hi, rfl⟩ := wQ_spec hg
  obtain ⟨hb, hat⟩ := hR.at he xQ_ne
  obtain ⟨vs, hv⟩ := hv
  obtain ⟨r', hr', cellV, g1, g2, g3, -⟩ := (hR.at hv xO_ne).2
  have hK := ok.2.2.2.2.2.2.2.2.2.1.1
  have hlt : i.toNatClampNeg < n := Nat.not_le.mp fun q => hi (Or.inr q)
  have h0 : ¬ i < 0 := fun q => hi (Or.inl q)
  have hcls := (hK.1 ci r hc).2
  obtain ⟨kA, comp, k1, k2, k3, -⟩ := (hK.2 t _ ht).2
  have hcomp : comp = K.1.1 ci := Option.some.inj (k3.symm.trans hcls.1)
  subst hcomp
  obtain ⟨kC, hkC, -⟩ := hcls.2
  refine W.aast ok.1 ok.2.1 hat (fun q h => by cases h) (fun h => by cases h) k1 k2 rfl hkC ⟨h0, by show _ < (arrV _ _ _).slots.size; rw [arrV_size]; exact hlt⟩ g1 (fun q h => by rw [g3] at h; cases h) (by rw [g2]; exact hkC) (by rw [g2]; exact va_assign hcls) rfl rfl hd fun H1 e1 z oq => ?_
  refine kk p e s m args below meth c ok H1 _ ls (hR.upd hb z oq ?_) (hS.put z oq hb) hl
  show H1[a]? = some (vp_cell _ _)
  rw [e1, vp_cell_q, vp_cell_q, arrV_store]
  congr 2
  funext q
  by_cases hq : q = i.toNatClampNeg
  · subst hq
    simp [updV, va_up, va_rf]
  · simp [updV, va_up, hq]
theorem J_aastN {a t : Nat} {i : Int32} {h' : Hp} {C : String} (hd : decode cc pc = .ok (.aastore, 1)) (ht : (tyL K)[t]? = some (K.2.1 t, .object C)) (hg : wQ K t h a i none = some h')
    (kk : J l K own cc nL ret Ts hh nm fr lo mc ms Qf (pc + 1) rest lv h' kc ks) : J l K own cc nL ret Ts hh nm fr lo mc ms Qf pc (va_rf none :: .int i :: .ref a :: rest) lv h kc ks := by
  intro p e s m args below meth c ok H locs ls hR hS hl
  obtain ⟨n, f, he, hi, rfl⟩ := wQ_spec hg
  obtain ⟨hb, hat⟩ := hR.at he xQ_ne
  have hK := ok.2.2.2.2.2.2.2.2.2.1.1
  refine va_WaastN (C := C) ok.1 ok.2.1 hat ((hK.2 t _ ht).1 n (fun j => va_rf (f j))) (fun h => by cases h) (by show ¬ (i < 0 ∨ (arrV _ _ _).slots.size ≤ _); rw [arrV_size]; exact hi) rfl rfl hd fun H1 e1 z oq => ?_
  refine kk p e s m args below meth c ok H1 _ ls (hR.upd hb z oq ?_) (hS.put z oq hb) hl
  show H1[a]? = some (vp_cell _ _)
  rw [e1, vp_cell_q, vp_cell_q, arrV_store]
  congr 2
  funext q
  by_cases hq : q = i.toNatClampNeg
  · subst hq
    simp [updV, va_up, va_rf]
  · simp [updV, va_up, hq]
/-- any reference into a row of its kind -/
theorem J_aastq {a t ci : Nat} {x : Option Nat} {i : Int32} {h' : Hp} {r : vw_C} (hd : decode cc pc = .ok (.aastore, 1)) (ht : (tyL K)[t]? = some (K.2.1 t, .object r.1)) (hc : vwCl[ci]? = some r) (hv : ∀ v, x = some v → ∃ fs, h v = some (xO ci fs)) (hg : wQ K t h a i x = some h')
    (kk : J l K own cc nL ret Ts hh nm fr lo mc ms Qf (pc + 1) rest lv h' kc ks) : J l K own cc nL ret Ts hh nm fr lo mc ms Qf pc (va_rf x :: .int i :: .ref a :: rest) lv h kc ks := by
  cases x with
  | none => exact J_aastN hd ht hg kk
  | some v => exact J_aast hd ht hc (hv v rfl) hg kk
theorem J_putF {ci k a N idx : Nat} {C : String} {T : u_T} {v : Value} {ty : FieldType} {h' : Hp} (hd : decode cc pc = .ok (.putfield idx, 3)) (hc : vwCl[ci]? = some (C, T, N)) (hin : ∀ w ∈ u_ws C T N, w ∈ Ts) (ty0 : Nat → FieldType) (hty : ∀ k, k < N → parseFieldDescriptor (T k).2.2.1 = some (ty0 k)) (hnm : ∀ a, a < N → ∀ b, b < N → a ≠ b → (T a).2.1 ≠ (T b).2.1)
    (hk : k < N) (hl0 : Cond.fieldLink own idx (T k).1 (T k).2.1 (T k).2.2.1 ∈ Ts) (hfin : (T k).2.2.2 = true) (hin2 : nm = "<init>") (hdecl : (T k).1 = own) (hty1 : ty0 k = ty) (hn : narrow ty v = v) (hfit : fits ty v = true) (hg : pf h a ci k v = some h')
    (kk : J l K own cc nL ret Ts hh nm fr lo mc ms Qf (pc + 3) rest lv h' kc ks) : J l K own cc nL ret Ts hh nm fr lo mc ms Qf pc (v :: .ref a :: rest) lv h kc ks := by
  intro p e s m args below meth c ok H locs ls hR hS hl
  obtain ⟨fs, he, hlen, rfl⟩ := pf_spec hg
  obtain ⟨hb, hat⟩ := hR.at he (fun f e => by cases e)
  have hts := ok.2.2.2.2.1
  have hK := ok.2.2.2.2.2.2.2.2.2.1.1
  have hown := ok.2.2.2.1
  have hap := va_apart (own := own) hts hin ty0 hty hnm hK hc
  obtain ⟨r, h1, cell, q1, q2, q3, q4⟩ := hat
  have hr : r = (C, T, N) := Option.some.inj (h1.symm.trans hc)
  subst hr
  obtain ⟨hSl, hfc, kC, hkC, hkind⟩ := hK.1 ci _ hc
  obtain ⟨cf, kf, fi, f, hi, hsl⟩ := hSl k hk
  have hlay := hts _ (hin _ (u_in_lay hk))
  unfold u_lay at hlay
  rw [if_pos hfin] at hlay
  have hst := (u_facts hfc hkC (u_lays hts hin hk) hi).1
  have hcf : m.cls = cf := by
    obtain ⟨_, _, c', _, _, _, -, -, hf', -, -, -, hown2, -⟩ := Cond.laysFinal_spec hlay
    have e1 : c' = cf := by have := hi.symm.trans hf'; simp at this; exact this.1.symm
    rw [hdecl] at hown2
    rw [← e1]; exact Option.some.inj (hown.symm.trans hown2)
  have h6 := u_fits hfc hkC hkind (Or.inr hlay) hi (ty := ty) (by rw [← hty1]; exact hty k hk) hn hfit
  refine W.putFinK ok.1 ok.2.1 hown (hts _ hl0) hi hst hcf (ok.2.2.2.2.2.2.2.1.trans hin2) (by rw [q2]; exact h6) q1 q3 (by rw [hsl]; exact k2_hasslot (q4 k hk)) rfl rfl hd fun H' e1 e2 e3 => ?_
  rw [hsl] at e1 ⊢
  refine kk p e s m args below meth c ok H' _ ls (hR.upd hb e2 e3 ⟨_, hc, t_OB.to (V := updV (vp_V fs) k v) ⟨_, e1, q2, q3, t_set q4 hap hk v⟩ (fun j _ => vp_updV_set hlen v j)⟩) (hS.put e2 e3 hb) hl
/-- new -/
theorem J_new {ci N idx : Nat} {C : String} {T : u_T} {fs : List Value} (hd : decode cc pc = .ok (.new idx, 3)) (hc : vwCl[ci]? = some (C, T, N)) (hin : ∀ w ∈ u_ws C T N, w ∈ Ts) (ty : Nat → FieldType) (hty : ∀ k, k < N → parseFieldDescriptor (T k).2.2.1 = some (ty k))
    (hcl : Cond.classLink own idx C ∈ Ts) (hinst : Cond.instantiable C N ∈ Ts) (hini : Cond.initialized C ∈ Ts) (hfs : ∀ j, j < N → defaultValue (ty j) = vp_V fs j) (h1 : kc + 1 ≤ mc) (h2 : ks + N ≤ ms)
    (kk : ∀ q, h q = none → kB K ≤ q → J l K own cc nL ret Ts hh nm fr lo mc ms Qf (pc + 3) (.ref q :: rest) lv (va_up h q (some (xO ci fs))) (kc + 1) (ks + N)) : J l K own cc nL ret Ts hh nm fr lo mc ms Qf pc rest lv h kc ks := by
  intro p e s m args below meth c ok H locs ls hR hS hl
  have hts := ok.2.2.2.2.1
  have hKn := ok.2.2.2.2.2.2.2.2.2.1.1.1 ci _ hc
  refine W.newcK ok.1 ok.2.1 ok.2.2.2.1 (hts _ hcl) (hts _ hinst) (hts _ hini) rfl hd h1 h2 hKn.2.1 rfl fun H1 kC hkC e1 z1 o1 => ?_
  refine kk H.size hR.fresh hR.2.1 p e s m args below meth c ok H1 _ ls (hR.push z1 o1 ?_) (hS.new z1 o1) hl
  exact ⟨_, hc, (u_born ty hts hin hKn hkC e1 hty).to hfs⟩
/-- rows of numbers -/
theorem J_newa {t : Nat} {atype : ArrayType} {n : Int32} {N' : Nat} {ty : FieldType} {a0 : vp_A} (hd : decode cc pc = .ok (.newarray atype, 2)) (harr : Cond.arrayClass (newarray.typeOf atype) ∈ Ts) (hty : newarray.typeOf atype = ty) (ht : (tyL K)[t]? = some (K.2.1 t, ty))
    (hra : ∀ (U : State) (cA : ClassId), va_RA U cA ty → U.vm.findClass ("[" ++ ty.toString) = some cA) (ha : ∀ cA : ClassId, vp_cell cA a0 = arrV cA N' (fun _ => defaultValue ty)) (hn : n = nI N') (hN : N' ≤ 60000000) (hb8 : componentBytes ty ≤ 8) (h1 : kc + 1 ≤ mc) (h2 : ks + N' ≤ ms)
    (kk : ∀ q, h q = none → kB K ≤ q → J l K own cc nL ret Ts hh nm fr lo mc ms Qf (pc + 2) (.ref q :: rest) lv (va_up h q (some (.inl (K.2.1 t, a0)))) (kc + 1) (ks + N')) : J l K own cc nL ret Ts hh nm fr lo mc ms Qf pc (.int n :: rest) lv h kc ks := by
  intro p e s m args below meth c ok H locs ls hR hS hl
  subst hty
  subst hn
  have hbt : N' * componentBytes (newarray.typeOf atype) ≤ 536870912 := by
    have := Nat.mul_le_mul_left N' hb8
    omega
  refine va_newaK ok.1 ok.2.1 (ok.2.2.2.2.1 _ harr) rfl hd rfl (nI_pos (by omega)) (nI_clamp (by omega)) hbt h1 h2 rfl fun H1 cA e1 z1 o1 hAr hNm => ?_
  have hcA : cA = K.2.1 t := Option.some.inj (hNm.symm.trans (hra s _ (ok.2.2.2.2.2.2.2.2.2.1.1.2 t _ ht).2))
  subst hcA
  refine kk H.size hR.fresh hR.2.1 p e s m args below meth c ok H1 _ ls (hR.push z1 o1 ?_) (hS.new z1 o1) hl
  show H1[H.size]? = some (vp_cell _ _)
  rw [ha]
  exact e1
theorem ra_i (U : State) (cA : ClassId) (h : va_RA U cA .int) : U.vm.findClass ("[" ++ FieldType.int.toString) = some cA := h
theorem ra_j (U : State) (cA : ClassId) (h : va_RA U cA .long) : U.vm.findClass ("[" ++ FieldType.long.toString) = some cA := h
theorem ra_z (U : State) (cA : ClassId) (h : va_RA U cA .boolean) : U.vm.findClass ("[" ++ FieldType.boolean.toString) = some cA := h
/-- rows of references -/
theorem J_anew {t idx : Nat} {n : Int32} {N' : Nat} {C : String} (hd : decode cc pc = .ok (.anewarray idx, 3)) (hcl : Cond.classLink own idx C ∈ Ts) (ht : (tyL K)[t]? = some (K.2.1 t, .object C)) (hov : ∀ U, KU K U → va_AO C U) (hn : n = nI N') (hN : N' ≤ 60000000) (h1 : kc + 1 ≤ mc) (h2 : ks + N' ≤ ms)
    (kk : ∀ q, h q = none → kB K ≤ q → J l K own cc nL ret Ts hh nm fr lo mc ms Qf (pc + 3) (.ref q :: rest) lv (va_up h q (some (xQ K t N' (fun _ => none)))) (kc + 1) (ks + N')) : J l K own cc nL ret Ts hh nm fr lo mc ms Qf pc (.int n :: rest) lv h kc ks := by
  intro p e s m args below meth c ok H locs ls hR hS hl
  subst hn
  have hcl9 : (nI N').toNatClampNeg = N' := nI_clamp (by omega)
  refine W.anew ok.1 ok.2.1 ok.2.2.2.1 (ok.2.2.2.2.1 _ hcl) (va_AO.use (hov s ok.2.2.2.2.2.2.2.2.2.1)) rfl hd rfl (nI_pos (by omega)) (by rw [hcl9]; omega) h1 (by rw [hcl9]; exact h2) fun cA kA comp f1 f2 f3 f4 => ?_
  rw [hcl9]
  generalize hH1 : H.push ({ cls := cA, slots := Array.replicate N' .null, vm := .none } : Cell) = H1
  have z1 : H1.size = H.size + 1 := by rw [← hH1, Array.size_push]
  have e1 : H1[H.size]? = some (arrV cA N' (fun _ => .null)) := by rw [← hH1, Array.getElem?_push_size, ← arrV_new]
  have o1 : ∀ q : Nat, q < H.size → H1[q]? = H[q]? := fun q hq => by rw [← hH1, Array.getElem?_push, if_neg (Nat.ne_of_lt hq)]
  obtain ⟨kA2, comp2, g1, g2, g3, g4⟩ := (ok.2.2.2.2.2.2.2.2.2.1.1.2 t _ ht).2
  have hcA : cA = K.2.1 t := Option.some.inj (f1.symm.trans g4)
  subst hcA
  refine kk H.size hR.fresh hR.2.1 p e s m args below meth c ok H1 _ ls (hR.push z1 o1 ?_) (hS.new z1 o1) hl
  show H1[H.size]? = some (vp_cell _ _)
  rw [vp_cell_q]
  exact e1
/-- Object's constructor -/
theorem J_objInit {a idx : Nat} (hd : decode cc pc = .ok (.invokespecial idx, 3)) (hl1 : Cond.methodLink own idx Lib.objectInit ∈ Ts) (hl2 : Cond.instanceMethod Lib.objectInit ∈ Ts) (hl3 : Cond.code Lib.objectInit ⟨#[0xb1]⟩ 1 none ∈ Ts) (hf : 1 ≤ fr) (ho : (rest.map fun v => v.category).sum + 12 ≤ lo)
    (kk : J l K own cc nL ret Ts hh nm fr lo mc ms Qf (pc + 3) rest lv h kc ks) : J l K own cc nL ret Ts hh nm fr lo mc ms Qf pc (.ref a :: rest) lv h kc ks := by
  intro p e s m args below meth c ok H locs ls hR hS hl
  refine W.objInit ok.1 ok.2.1 ok.2.2.2.1 (ok.2.2.2.2.1 _ hl1) (ok.2.2.2.2.1 _ hl2) (ok.2.2.2.2.1 _ hl3) rfl (by rw [ok.2.2.1]; exact hl.1) rfl hd hf (by show 2 * 0 + _ + 12 ≤ lo; omega) ?_
  exact kk p e s m args below meth c ok H locs ls hR hS hl
theorem J_ldc2 {idx : Nat} {v : Int64} (hd : decode cc pc = .ok (.ldc2_w idx, 3)) (hc : Cond.constantLong own idx v ∈ Ts) (kk : J l K own cc nL ret Ts hh nm fr lo mc ms Qf (pc + 3) (.long v :: rest) lv h kc ks) : J l K own cc nL ret Ts hh nm fr lo mc ms Qf pc rest lv h kc ks :=
  fun p e s m args below meth c ok H locs ls hR hS hl => lv_ldc2 ok.1 ok.2.1 ok.2.2.2.1 (ok.2.2.2.2.1 _ hc) hd (kk p e s m args below meth c ok H locs ls hR hS hl)
theorem J_gets {idx : Nat} (hd : decode cc pc = .ok (.getstatic idx, 3)) (hl0 : Cond.fieldLink own idx "KeyStates" "EMPTY" "[J" ∈ Ts) (kk : J l K own cc nL ret Ts hh nm fr lo mc ms Qf (pc + 3) (.ref K.2.2.2 :: rest) lv h kc ks) : J l K own cc nL ret Ts hh nm fr lo mc ms Qf pc rest lv h kc ks :=
  fun p e s m args below meth c ok H locs ls hR hS hl => va_gets ok.1 ok.2.1 (KU.z ok.2.2.2.2.2.2.2.2.2.2.2.1 ok.2.2.2.2.2.2.2.2.2.2.2.2 ok.2.2.2.2.2.2.2.2.2.1.2.2.2.1) hS ok.2.2.2.1 (ok.2.2.2.2.1 _ hl0) (fun _ h9 => h9) hd (kk p e s m args below meth c ok H locs ls hR hS hl)
theorem J_getsN {idx : Nat} (hd : decode cc pc = .ok (.getstatic idx, 3)) (hl0 : (own, idx, "KeyStates", "EMPTY", "[J", "KeyStates") ∈ nestF) (kk : J l K own cc nL ret Ts hh nm fr lo mc ms Qf (pc + 3) (.ref K.2.2.2 :: rest) lv h kc ks) : J l K own cc nL ret Ts hh nm fr lo mc ms Qf pc rest lv h kc ks :=
  fun p e s m args below meth c ok H locs ls hR hS hl => va_getsN ok.1 ok.2.1 (KU.z ok.2.2.2.2.2.2.2.2.2.2.2.1 ok.2.2.2.2.2.2.2.2.2.2.2.2 ok.2.2.2.2.2.2.2.2.2.1.2.2.2.1) hS ok.2.2.2.1 (va_Nw.use rfl (ok.2.2.2.2.2.2.2.2.2.1.2.2.2.2.1 _ hl0)) (fun _ h9 => h9) hd (kk p e s m args below meth c ok H locs ls hR hS hl)
/-- switches -/
theorem J_tableOut {dflt lo9 hi : Int} {offs : Array Int} {len : Nat} {x : Int32} {tgt : Nat} (hd : decode cc pc = .ok (.tableswitch dflt lo9 hi offs, len)) (h1 : x.toInt < lo9 ∨ hi < x.toInt) (ht : (pc : Int) + dflt = (tgt : Int))
    (kk : J l K own cc nL ret Ts hh nm fr lo mc ms Qf tgt rest lv h kc ks) : J l K own cc nL ret Ts hh nm fr lo mc ms Qf pc (.int x :: rest) lv h kc ks :=
  fun p e s m args below meth c ok H locs ls hR hS hl => lv_tableOut ok.1 ok.2.1 hd h1 ht (kk p e s m args below meth c ok H locs ls hR hS hl)
theorem J_tableIn {dflt lo9 hi : Int} {offs : Array Int} {len : Nat} {x : Int32} {off : Int} {tgt : Nat} (hd : decode cc pc = .ok (.tableswitch dflt lo9 hi offs, len)) (h1 : ¬ x.toInt < lo9) (h2 : ¬ hi < x.toInt) (h3 : offs[(x.toInt - lo9).toNat]? = some off) (ht : (pc : Int) + off = (tgt : Int))
    (kk : J l K own cc nL ret Ts hh nm fr lo mc ms Qf tgt rest lv h kc ks) : J l K own cc nL ret Ts hh nm fr lo mc ms Qf pc (.int x :: rest) lv h kc ks :=
  fun p e s m args below meth c ok H locs ls hR hS hl => lv_tableIn ok.1 ok.2.1 hd h1 h2 h3 ht (kk p e s m args below meth c ok H locs ls hR hS hl)
/-- what a call that has come back gives the caller's walk -/
theorem J_run {p : Program} {e : Env} {s : State} {m : MethodId} {args : Array Value} {below : List Frame} {meth : Method} {c : Code} (ok : OkB l K own cc nL ret Ts hh nm p s m args meth c) {H : Heap} {locs : List Loc} {ls : Array Slot} (hS : va_S (Ax K) s.heap H locs) (hl : lv_has ls nL lv)
    {mc' ms' : Nat} {st0 : List Value} {P : Rs → Hp → Prop} {a : Array Value} (hr : vx_Run p l e (rmx fr lo mc ms) s m args below meth c H locs kc ks mc' ms' (F0 m pc ls st0) rest (Qcx K P a) (Xcx K P) (Ax K))
    (kk : ∀ (v : Option Value) (h' : Hp), P (.inl v) h' → J l K own cc nL ret Ts hh nm fr lo mc ms Qf (pc + 3) (v.toList ++ rest) lv h' (kc + mc') (ks + ms'))
    (kx : ∀ (E : String) (h' : Hp) (ce : Cell) (q9 : Addr) (H1 : Heap) (locs1 : List Loc), P (.inr E) h' → Rp K h' H1 → va_S (Ax K) s.heap H1 locs1 → H1[q9]? = some ce → ce.vm = .none → s.vm.findClass E = some ce.cls → vx_W p l e (rmx fr lo mc ms) s m args below meth c H1 locs1 (kc + mc') (ks + ms') (Qf s args below) (F0 m pc ls rest) q9) :
    W p l e (rmx fr lo mc ms) s m args below meth c H locs kc ks (Qf s args below) (F0 m pc ls st0) := by
  intro T hT X
  rcases hr T hT X with ⟨v, st₀, t, T', L, h0, X', hL, e1, e2, ⟨⟨v', h', hv, hp, hR'⟩, hF⟩, st⟩ | ⟨q, st₀, t, T', L, E, ce, h0, X', hL, e1, e2, ⟨⟨h', hp, hR'⟩, hF⟩, hce, hcv, hcl, st⟩
  · cases hv
    obtain ⟨k1, k2, k3⟩ := vx_keep h0 e1 hS (fun _ _ h => h) (fun _ h => h) hL hF
    obtain ⟨t2, a1, b1⟩ := kk v h' hp p e s m args below meth c ok T'.heap (locs ++ L) ls (by rw [e1]; exact hR') k3 hl T' rfl X'
    exact ⟨t2, st t2 a1, b1⟩
  · obtain ⟨k1, k2, k3⟩ := vx_keep h0 e1 hS (fun _ _ h => h) (fun _ h => h) hL hF
    obtain ⟨t2, a1, b1⟩ := kx E h' ce q T'.heap (locs ++ L) hp (by rw [e1]; exact hR') k3 (by rw [e1]; exact hce) hcv hcl T' rfl X'
    exact ⟨t2, st.trans a1, b1⟩
/-- an exception that no handler takes -/
theorem J_out {p : Program} {e : Env} {s : State} {m : MethodId} {args : Array Value} {below : List Frame} {meth : Method} {c : Code} {Post : Rs → Hp → Prop} (ok : OkB l K own cc nL ret Ts [] nm p s m args meth c) {H : Heap} {locs : List Loc} {ls : Array Slot} (hR : Rp K h H) (hS : va_S (Ax K) s.heap H locs) {E : String} {ce : Cell} {q : Addr} (hcell : H[q]? = some ce) (hv : ce.vm = .none) (hcl : s.vm.findClass E = some ce.cls)
    (hp : Post (.inr E) h) (h1 : kc ≤ mc) (h2 : ks ≤ ms) : vx_W p l e (rmx fr lo mc ms) s m args below meth c H locs kc ks (QM K mc ms Post s args below) (F0 m pc ls rest) q := by
  refine vx_out (fun x hx => ?_) ok.2.2.2.2.2.1 hcell hv hcl (fun t ht hA => ⟨⟨h, hp, by rw [ht]; exact hR⟩, hS.F ht⟩) hS.2.2 h1 h2
  rw [ok.2.2.2.2.2.2.2.2.1] at hx
  cases hx
abbrev fitR (fr lo frc loc nLc : Nat) : Prop := frc + 1 ≤ fr ∧ 8 + (nLc + 11) + loc ≤ lo
theorem preV_of {s : State} {H : Heap} {ci b : Nat} {fs : List Value} {r : vw_C} {As : List Value} (hK : KU K s) (hR : Rp K h H) (hc : vwCl[ci]? = some r) (hb : h b = some (xO ci fs)) : PreV s H r.1 b (Pcx K (.ref b :: As) h) As := by
  refine ⟨Pcx.blind, ?_, fun U hU hW => ⟨rfl, hK.warm hW, by rw [hU]; exact hR⟩⟩
  obtain ⟨-, r', hr', cell, g1, g2, g3, -⟩ := hR.at hb (fun f e => by cases e)
  exact ⟨cell, g1, by rw [g3]; rfl, by rw [g2]; exact (hK.1.1 ci r hc).2.1⟩
set_option maxHeartbeats 4000000 in
/-- invokevirtual, of a method with no handlers, in a body with none -/
theorem J_callV {idx ci b frc loc nLc mc' ms' n : Nat} {y : MethodName} {bytes : ByteArray} {retc : Option FieldType} {wsy wsy' : List Cond} {As : List Value} {P Post : Rs → Hp → Prop} {r : vw_C} (hd : decode cc pc = .ok (.invokevirtual idx, 3)) (hc : vwCl[ci]? = some r) (hG : GoodIn Ts (wsV own idx r.1 y wsy)) (hw : wsy = Cond.code y bytes nLc retc :: wsy')
    (hdd : y.cls = r.1 ∧ y.cls ≠ "java/lang/invoke/MethodHandle" ∧ y.cls ≠ "java/lang/invoke/VarHandle" ∧ (parseMethodDescriptor y.desc).map (fun d => d.parameters.length) = some n) (hn : As.length = n) (hfit : fitR fr lo frc loc nLc) (hb : ∃ fs, h b = some (xO ci fs)) (hrest : (rest.map fun v => v.category).sum ≤ 8)
    (h1 : kc + mc' ≤ mc) (h2 : ks + ms' ≤ ms) (hM : MX l K y wsy frc loc mc' ms' (.ref b :: As) h P)
    (kk : ∀ (v : Option Value) (h' : Hp), P (.inl v) h' → J l K own cc nL ret Ts [] nm fr lo mc ms (QM K mc ms Post) (pc + 3) (v.toList ++ rest) lv h' (kc + mc') (ks + ms'))
    (kx : ∀ (E : String) (h' : Hp), P (.inr E) h' → Post (.inr E) h') : J l K own cc nL ret Ts [] nm fr lo mc ms (QM K mc ms Post) pc (As.reverse ++ .ref b :: rest) lv h kc ks := by
  intro p e s m args below meth c ok H locs ls hR hS hl
  obtain ⟨fs, hb⟩ := hb
  refine J_run ok hS hl (vx_runV (As := As) (rest := rest) (Ts := Ts) (own := own) ⟨ok.1, ok.2.1, ok.2.2.1, ok.2.2.2.1, ok.2.2.2.2.1⟩ hM (cwV n ok.2.2.2.2.1 hG hw rfl rfl hdd hfit) (preV_of ok.2.2.2.2.2.2.2.2.2.1 hR hc hb) rfl hn hl.1 rfl (lv_room hrest) hd ⟨h1, h2⟩) kk ?_
  intro E h' ce q9 H1 locs1 hp hR1 hS1 g1 g2 g3
  exact J_out ok hR1 hS1 g1 g2 g3 (kx E h' hp) h1 h2
set_option maxHeartbeats 4000000 in
/-- invokestatic -/
theorem J_callS {idx frc loc nLc mc' ms' n : Nat} {y : MethodName} {bytes : ByteArray} {retc : Option FieldType} {wsy wsy' : List Cond} {As : List Value} {P Post : Rs → Hp → Prop} (hd : decode cc pc = .ok (.invokestatic idx, 3)) (hG : GoodIn Ts (va_wsS own idx y wsy)) (hw : wsy = Cond.code y bytes nLc retc :: wsy')
    (hdd : y.cls ≠ "java/lang/invoke/MethodHandle" ∧ y.cls ≠ "java/lang/invoke/VarHandle" ∧ (parseMethodDescriptor y.desc).map (fun d => d.parameters.length) = some n) (hn : As.length = n) (hfit : fitR fr lo frc loc nLc) (hrest : (rest.map fun v => v.category).sum ≤ 8)
    (h1 : kc + mc' ≤ mc) (h2 : ks + ms' ≤ ms) (hM : MX l K y wsy frc loc mc' ms' As h P)
    (kk : ∀ (v : Option Value) (h' : Hp), P (.inl v) h' → J l K own cc nL ret Ts [] nm fr lo mc ms (QM K mc ms Post) (pc + 3) (v.toList ++ rest) lv h' (kc + mc') (ks + ms'))
    (kx : ∀ (E : String) (h' : Hp), P (.inr E) h' → Post (.inr E) h') : J l K own cc nL ret Ts [] nm fr lo mc ms (QM K mc ms Post) pc (As.reverse ++ rest) lv h kc ks := by
  intro p e s m args below meth c ok H locs ls hR hS hl
  have hts := ok.2.2.2.2.1
  have okw : ∀ w ∈ va_wsS own idx y wsy, w.before args s = true := fun w h => hts w (hG w h).1
  have hG2 : GoodIn Ts wsy := fun w h => hG w (by unfold va_wsS; exact List.mem_append_right _ h)
  have hcm : Cond.code y bytes nLc retc ∈ wsy := by rw [hw]; exact List.mem_cons_self
  have cb : CallB (rmx fr lo mc ms) s args own idx y bytes nLc retc wsy (rmx frc loc mc' ms') mc' ms' n ∧ (Cond.static y).before args s = true := by
    refine ⟨⟨rfl, rfl, hfit.1, hfit.2, pay_in hts hG2, hcm, hts _ (hG2 _ hcm).1, okw _ (by simp [va_wsS]), ⟨hdd.1, hdd.2.1⟩, fun sig h => ?_, okw _ (by simp [va_wsS])⟩, okw _ (by simp [va_wsS])⟩
    have h2 := hdd.2.2
    rw [h] at h2
    exact (Option.some.inj h2).symm
  refine J_run ok hS hl (vx_runS (As := As) (rest := rest) (Ts := Ts) (own := own) ⟨ok.1, ok.2.1, ok.2.2.1, ok.2.2.2.1, ok.2.2.2.2.1⟩ hM cb ⟨Pcx.blind, fun U hU hW => ⟨rfl, ok.2.2.2.2.2.2.2.2.2.1.warm hW, by rw [hU]; exact hR⟩⟩ rfl hn hl.1 rfl (lv_room hrest) hd ⟨h1, h2⟩) kk ?_
  intro E h' ce q9 H1 locs1 hp hR1 hS1 g1 g2 g3
  exact J_out ok hR1 hS1 g1 g2 g3 (kx E h' hp) h1 h2
end Mem
