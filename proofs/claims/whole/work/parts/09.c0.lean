/-! ===== pure rows: heaps that grow, small numbers ===== -/
theorem up_s {α : Type} (h : Nat → α) (a : Nat) (v : α) : va_up h a v a = v := by simp [va_up]
theorem up_n {α : Type} {h : Nat → α} {a b : Nat} {v : α} (hne : b ≠ a) : va_up h a v b = h b := by simp [va_up, hne]
theorem up_up {α : Type} (h : Nat → α) (a : Nat) (v w : α) : va_up (va_up h a v) a w = va_up h a w := by
  funext b
  simp only [va_up]
  split <;> rfl
def Ext (h h' : Hp) : Prop := ∀ a x, h a = some x → h' a = some x
theorem Ext.rf {h : Hp} : Ext h h := fun _ _ e => e
theorem Ext.tr {h h' h'' : Hp} (p : Ext h h') (q : Ext h' h'') : Ext h h'' := fun a x e => q a x (p a x e)
theorem Ext.up {h h' : Hp} {a : Nat} {v : Option va_E} (p : Ext h h') (f : h a = none) : Ext h (va_up h' a v) := fun b x e => by
  have hne : b ≠ a := fun q => by rw [q, f] at e; cases e
  rw [up_n hne]; exact p b x e
theorem ne_fresh {h : Hp} {a b : Nat} {x : va_E} (e : h a = some x) (f : h b = none) : a ≠ b := fun q => by rw [q, f] at e; cases e
def bI (p : Prop) [Decidable p] : Int32 := if p then nI 1 else nI 0
theorem bI_t {p : Prop} [Decidable p] (h : p) : bI p = nI 1 := if_pos h
theorem bI_f {p : Prop} [Decidable p] (h : ¬ p) : bI p = nI 0 := if_neg h
theorem nI01 : ¬ nI 1 = nI 0 := by decide
theorem bI_0 {p : Prop} [Decidable p] : bI p = nI 0 ↔ ¬ p := by
  unfold bI
  split
  · rename_i h; exact ⟨fun e => absurd e nI01, fun e => absurd h e⟩
  · rename_i h; exact ⟨fun _ => h, fun _ => rfl⟩
/-! ===== the class: entries ===== -/
/-- an entry's value: state, key, span, numbers, members, folded -/
abbrev EV : Type := Int32 × Int64 × Int32 × List Int64 × List Int64 × Int32
abbrev jl (K : Kx) (L : List Int64) : va_E := xJ K L.length (fun i => L.getD i 0)
abbrev en (v : EV) (nu me : Nat) : va_E := xO 0 [.int v.1, .long v.2.1, .int v.2.2.1, .ref nu, .ref me, .int v.2.2.2.2.2]
/-- addresses that the class leaves alone: the reference's and the law's own (K's row of classes bears them behind place 100) -/
def fK (K : Kx) (a : Nat) : Prop := ∃ i, i < K.2.1 99 ∧ a = K.2.1 (100 + i)
/-- they are all in use -/
def oF (K : Kx) (h : Hp) : Prop := ∀ a, fK K a → ∃ x, h a = some x
theorem oF.n {K : Kx} {h : Hp} (o : oF K h) {q : Nat} (f : h q = none) : ¬ fK K q := fun z => by
  obtain ⟨x, e⟩ := o q z
  rw [f] at e; cases e
theorem oF.ext {K : Kx} {h h' : Hp} (o : oF K h) (x : Ext h h') : oF K h' := fun a z => by
  obtain ⟨y, e⟩ := o a z
  exact ⟨y, x _ _ e⟩
/-- EMPTY is there, and none of theirs -/
def eK (K : Kx) (h : Hp) : Prop := h K.2.2.2 = some (jl K []) ∧ ¬ fK K K.2.2.2 ∧ oF K h
theorem eK.ext {K : Kx} {h h' : Hp} (o : eK K h) (x : Ext h h') : eK K h' := ⟨x _ _ o.1, o.2.1, o.2.2.ext x⟩
def EntAt (K : Kx) (h : Hp) (e : Nat) (v : EV) : Prop := ∃ nu me, h e = some (en v nu me) ∧ h nu = some (jl K v.2.2.2.1) ∧ h me = some (jl K v.2.2.2.2.1) ∧ ¬ fK K e ∧ ¬ fK K nu ∧ ¬ fK K me
theorem EntAt.ext {K : Kx} {h h' : Hp} {e : Nat} {v : EV} (E : EntAt K h e v) (x : Ext h h') : EntAt K h' e v := by
  obtain ⟨nu, me, h1, h2, h3, nf⟩ := E
  exact ⟨nu, me, x _ _ h1, x _ _ h2, x _ _ h3, nf⟩
theorem alen_jl {K : Kx} {h : Hp} {a : Nat} {L : List Int64} (e : h a = some (jl K L)) : alen K 1 h a = some (nI L.length) := by simp [alen, e]
theorem aJ_x {K : Kx} {h : Hp} {a j n : Nat} {f : Nat → Int64} (e : h a = some (xJ K n f)) (hj : j < n) (hL : n < 2 ^ 31) : aJ K h a (nI j) = some (f j) := by
  have h1 := nI_clamp (n := j) (by omega)
  have h2 := nI_pos (n := j) (by omega)
  simp [aJ, e, h1, h2, hj]
theorem aJ_jl {K : Kx} {h : Hp} {a j : Nat} {L : List Int64} (e : h a = some (jl K L)) (hj : j < L.length) (hL : L.length < 2 ^ 31) : aJ K h a (nI j) = some (L.getD j 0) := aJ_x e hj hL
theorem wJ_x {K : Kx} {h : Hp} {a j n : Nat} {f : Nat → Int64} {x : Int64} (e : h a = some (xJ K n f)) (hj : j < n) (hL : n < 2 ^ 31) : wJ K h a (nI j) x = some (va_up h a (some (xJ K n (vp_updL f j x)))) := by
  have h1 := nI_clamp (n := j) (by omega)
  have h2 := nI_pos (n := j) (by omega)
  simp [wJ, e, h1, h2, hj]
theorem sp_isNone {l : Launch} {K : Kx} {h : Hp} {e : Nat} {v : EV} (htr : l.stackTraces = false) (E : EntAt K h e v) (hn : v.2.2.2.1.length < 2 ^ 31) : mX0_isNone l K [.ref e] h (kI fun r h' => r = bI (v.2.2.2.1 = []) ∧ h' = h) := by
  obtain ⟨nu, me, h1, h2, h3, nf⟩ := E
  refine fX0_isNone htr ?_
  simp [gf, h1, alen, h2, kI]
  rw [nI_eq hn (show 0 < 2 ^ 31 by decide)]
  cases hL : v.2.2.2.1 <;> simp [bI]
theorem sp_isAt {l : Launch} {K : Kx} {h : Hp} {e : Nat} {v : EV} {s : Int32} {k : Int64} {p : Int32} (htr : l.stackTraces = false) (E : EntAt K h e v) : mX0_isAt l K [.ref e, .int s, .long k, .int p] h (kI fun r h' => r = bI (v.1 = s ∧ v.2.1 = k ∧ v.2.2.1 = p) ∧ h' = h) := by
  obtain ⟨nu, me, h1, h2, h3, nf⟩ := E
  refine fX0_isAt htr ?_
  simp only [gf, h1, kI]
  simp [bI]
  grind
/-- how many of the first c places are below x, in front -/
def cbR (f : Nat → Int64) (c : Nat) (x : Int64) (j : Nat) : Prop := j ≤ c ∧ (∀ i, i < j → f i < x) ∧ (j < c → ¬ f j < x)
theorem sp_countBelow {l : Launch} {K : Kx} {h : Hp} {a c n : Nat} {f : Nat → Int64} {x : Int64} (htr : l.stackTraces = false) (e : h a = some (xJ K n f)) (hc : c ≤ n) (hn : n < 2 ^ 31) : mX3_countBelow l K [.ref a, .int (nI c), .long x] h (kI fun r h' => (∃ j, r = nI j ∧ cbR f c x j) ∧ h' = h) := by
  refine fX3_countBelow htr ?_
  intro X hX
  have key : ∀ d j, d = c - j → j ≤ c → (∀ i, i < j → f i < x) → X (nI j) := by
    intro d
    induction d with
    | zero =>
      intro j h1 h2 h3
      refine hX _ ⟨fun _ => ⟨_, rfl, ⟨j, rfl, h2, h3, fun h => by omega⟩, rfl⟩, fun h => absurd (nI_le (show c ≤ j by omega) (by omega)) h⟩
    | succ d ih =>
      intro j h1 h2 h3
      have hjc : j < c := by omega
      refine hX _ ⟨fun h => absurd h (nI_ge hjc (by omega)), fun _ => ⟨nI n, by simp [alen, e], fun h => absurd h (nI_ge (by omega) hn), fun _ => ⟨f j, aJ_x e (by omega) hn, fun hx => ⟨_, rfl, ⟨j, rfl, h2, h3, fun _ => Int64.not_lt.mpr hx⟩, rfl⟩, fun hx => ?_⟩⟩⟩
      rw [show nI 1 = (1 : Int32) from rfl, nI_1]
      refine ih (j + 1) (by omega) (by omega) ?_
      intro i hi
      rcases Nat.lt_succ_iff_lt_or_eq.mp hi with h | rfl
      · exact h3 i h
      · exact Int64.not_le.mp hx
  exact key _ 0 rfl (Nat.zero_le _) (fun i hi => absurd hi (Nat.not_lt_zero i))

/-! makers of entries -/
theorem sp_init_ {l : Launch} {K : Kx} {h : Hp} {q e nu me : Nat} {v : EV} {x2 x3 : Nat} {x4 : Int32} {fs : List Value} (htr : l.stackTraces = false) (hq : h q = some (xO 0 fs)) (hfs : fs.length = 6) (hne : e ≠ q) (h1 : h e = some (en v nu me)) :
    mX0_init_ l K [.ref q, .ref e, .ref x2, .ref x3, .int x4] h (kV fun h' => h' = va_up h q (some (xO 0 [.int v.1, .long v.2.1, .int v.2.2.1, .ref x2, .ref x3, .int x4]))) := by
  refine fX0_init_ htr ?_
  match fs, hfs with
  | [f0, f1, f2, f3, f4, f5], _ =>
    simp [gf, pf, h1, hq, up_n hne, up_s, up_up, kV]
theorem sp_init {l : Launch} {K : Kx} {h : Hp} {q : Nat} {s : Int32} {k : Int64} {p : Int32} {fs : List Value} (htr : l.stackTraces = false) (hq : h q = some (xO 0 fs)) (hfs : fs.length = 6) :
    mX0_init l K [.ref q, .int s, .long k, .int p] h (kV fun h' => h' = va_up h q (some (xO 0 [.int s, .long k, .int p, .ref K.2.2.2, .ref K.2.2.2, .int (nI 0)]))) := by
  refine fX0_init htr ?_
  match fs, hfs with
  | [f0, f1, f2, f3, f4, f5], _ =>
    simp [gf, pf, hq, up_s, up_up, kV]
/-- a new entry of value v, at an address that was free; nothing else has changed -/
def Mk (K : Kx) (h : Hp) (v : EV) : Option Nat → Hp → Prop := fun o h' => ∃ q, o = some q ∧ h q = none ∧ EntAt K h' q v ∧ Ext h h'
/-- a new row of longs -/
def MkJ (K : Kx) (h : Hp) (L : List Int64) : Option Nat → Hp → Prop := fun o h' => ∃ q, o = some q ∧ h q = none ∧ h' q = some (jl K L) ∧ Ext h h'
theorem rf_some (q : Nat) : va_rf (some q) = .ref q := rfl
theorem kQ_ref {F : Option Nat → Hp → Prop} {q : Nat} {h : Hp} (f : F (some q) h) : kQ F (.inl (some (.ref q))) h := ⟨some q, rfl, f⟩
theorem nI_sub1 (n : Nat) : nI n + nI 1 = nI (n + 1) := nI_1 n
theorem sp_withNothing {l : Launch} {K : Kx} {h : Hp} {e : Nat} {v : EV} {mc ms : Nat} (htr : l.stackTraces = false) (E : EntAt K h e v) (he : eK K h) (hm : 1 ≤ mc) (hs : 6 ≤ ms) : mX0_withNothing l K mc ms [.ref e] h (kQ (Mk K h (v.1, v.2.1, v.2.2.1, [], [], nI 0))) := by
  obtain ⟨nu, me, h1, h2, h3, nf⟩ := E
  obtain ⟨he, hEf, hF⟩ := he
  refine fX0_withNothing htr ⟨by omega, by omega, ?_⟩
  rintro q h2' hq hb rfl
  refine ⟨by omega, by omega, ?_⟩
  refine (sp_init_ htr (up_s _ _ _) rfl (ne_fresh h1 hq) (by rw [up_n (ne_fresh h1 hq)]; exact h1)).V ?_
  rintro h3' rfl
  refine ⟨⟨by omega, by omega⟩, kQ_ref ⟨q, rfl, hq, ⟨K.2.2.2, K.2.2.2, ?_, ?_, ?_, hF.n hq, hEf, hEf⟩, ?_⟩⟩
  · rw [up_s]
  · rw [up_up, up_n (ne_fresh he hq)]; exact he
  · rw [up_up, up_n (ne_fresh he hq)]; exact he
  · rw [up_up]; exact Ext.rf.up hq
theorem sp_withOnly {l : Launch} {K : Kx} {h : Hp} {e : Nat} {v : EV} {x : Int64} {mc ms : Nat} (htr : l.stackTraces = false) (E : EntAt K h e v) (he : eK K h) (hm : 2 ≤ mc) (hs : 7 ≤ ms) : mX0_withOnly l K mc ms [.ref e, .long x] h (kQ (Mk K h (v.1, v.2.1, v.2.2.1, [x], [], nI 0))) := by
  obtain ⟨nu, me, h1, h2, h3, nf⟩ := E
  obtain ⟨he, hEf, hF⟩ := he
  refine fX0_withOnly htr ⟨by omega, by omega, ?_⟩
  rintro q h2' hq hb rfl
  refine ⟨1, rfl, by decide, by omega, by omega, ?_⟩
  rintro q2 h3' hq2 hb2 rfl
  have hqq : q ≠ q2 := fun z => by rw [← z, up_s] at hq2; cases hq2
  have hq2h : h q2 = none := by rw [up_n (fun z => hqq z.symm)] at hq2; exact hq2
  refine ⟨_, wJ_x (j := 0) (up_s _ _ _) (by decide) (by decide), by omega, by omega, ?_⟩
  rw [up_up]
  refine (sp_init_ htr (by rw [up_n hqq, up_s]) rfl (ne_fresh h1 hq) (by rw [up_n (ne_fresh h1 hq2h), up_n (ne_fresh h1 hq)]; exact h1)).V ?_
  rintro h5 rfl
  refine ⟨⟨by omega, by omega⟩, kQ_ref ⟨q, rfl, hq, ⟨q2, K.2.2.2, ?_, ?_, ?_, hF.n hq, hF.n hq2h, hEf⟩, ?_⟩⟩
  · rw [up_s]
  · rw [up_n (fun z => hqq z.symm), up_s]
    congr 3
    funext i
    cases i with
    | zero => simp [vp_updL]
    | succ i => simp [vp_updL]
  · rw [up_n (ne_fresh he hq), up_n (ne_fresh he hq2h), up_n (ne_fresh he hq)]; exact he
  · exact ((Ext.rf.up hq).up hq2h).up hq
theorem va_cpy_lt {f g : Nat → Int64} {sp dp n j : Nat} (h : j < dp) : va_cpy f g sp dp n j = g j := pk_cpy_out (Or.inl h)
theorem ins_eq (L : List Int64) (i : Nat) (hi : i ≤ L.length) (x : Int64) : va_cpy (fun j => L.getD j 0) (vp_updL (va_cpy (fun j => L.getD j 0) (fun _ => 0) 0 0 i) i x) i (i + 1) (L.length - i) = fun j => (L.insertIdx i x).getD j 0 := by
  funext j
  simp only [va_cpy, vp_updL, List.getD_eq_getElem?_getD, List.getElem?_insertIdx]
  rcases Nat.lt_trichotomy j i with h | rfl | h
  · have h1 : ¬ (i + 1 ≤ j ∧ j < i + 1 + (L.length - i)) := by omega
    have h2 : j ≠ i := by omega
    simp [h1, h2, h]
  · have h1 : ¬ (j + 1 ≤ j ∧ j < j + 1 + (L.length - j)) := by omega
    simp [hi, h1]
  · have h2 : ¬ j < i := by omega
    have h3 : j ≠ i := by omega
    by_cases h4 : j < i + 1 + (L.length - i)
    · have h5 : i + 1 ≤ j ∧ j < i + 1 + (L.length - i) := ⟨by omega, h4⟩
      have h6 : i + (j - (i + 1)) = j - 1 := by omega
      simp [h5, h2, h3, h6]
    · have h5 : ¬ (i + 1 ≤ j ∧ j < i + 1 + (L.length - i)) := by omega
      have h7 : ¬ j ≤ L.length := by omega
      have h8 : L.length ≤ j - 1 := by omega
      simp [h5, h3, h2, List.getElem?_eq_none h8]
theorem sp_inserted {l : Launch} {K : Kx} {h : Hp} {a i : Nat} {L : List Int64} {x : Int64} {mc ms : Nat} (htr : l.stackTraces = false) (ha : h a = some (jl K L)) (hi : i ≤ L.length) (hL : L.length < 1000) (hm : 1 ≤ mc) (hs : L.length + 1 ≤ ms) : mX0_inserted l K mc ms [.ref a, .int (nI i), .long x] h (kQ (MkJ K h (L.insertIdx i x))) := by
  have c0 : (nI 0).toNatClampNeg = 0 := by decide
  have ci : (nI i).toNatClampNeg = i := nI_clamp (by omega)
  have ci1 : (nI (i + 1)).toNatClampNeg = i + 1 := nI_clamp (by omega)
  have cn : (nI (L.length - i)).toNatClampNeg = L.length - i := nI_clamp (by omega)
  have p0 : ∀ n, n < 2000 → ¬ nI n < nI 0 := fun n hn => nI_pos (by omega)
  refine fX0_inserted htr ⟨_, alen_jl ha, L.length + 1, nI_1 _, by omega, by omega, by omega, ?_⟩
  rintro q h2' hq hb rfl
  have hne := ne_fresh ha hq
  refine ⟨_, _, _, _, by rw [up_n hne]; exact ha, up_s _ _ _, hb, p0 0 (by decide), p0 0 (by decide), p0 i (by omega), by rw [c0, ci]; omega, by rw [c0, ci]; omega, ?_⟩
  rintro h3' rfl
  rw [c0, ci, up_up]
  refine ⟨_, wJ_x (up_s _ _ _) (by omega) (by omega), _, by rw [up_up]; exact alen_jl (by rw [up_n hne]; exact ha), ?_⟩
  rw [up_up, nI_sub1, pk_sub hi]
  refine ⟨_, _, _, _, by rw [up_n hne]; exact ha, up_s _ _ _, hb, p0 i (by omega), p0 (i + 1) (by omega), p0 _ (by omega), by simp only [cn]; omega, by simp only [ci1, cn]; omega, ?_⟩
  rintro h4' rfl
  rw [ci1, cn, up_up, ins_eq L i hi x]
  refine ⟨⟨by omega, by omega⟩, kQ_ref ⟨q, rfl, hq, ?_, Ext.rf.up hq⟩⟩
  rw [up_s]; simp only [jl, List.length_insertIdx_of_le_length hi]

theorem ers_eq (L : List Int64) (i : Nat) (hi : i < L.length) : va_cpy (fun j => L.getD j 0) (va_cpy (fun j => L.getD j 0) (fun _ => 0) 0 0 i) (i + 1) i (L.length - 1 - i) = fun j => (L.eraseIdx i).getD j 0 := by
  funext j
  simp only [va_cpy, List.getD_eq_getElem?_getD, List.getElem?_eraseIdx]
  by_cases h : j < i
  · have h1 : ¬ (i ≤ j ∧ j < i + (L.length - 1 - i)) := by omega
    simp [h1, h]
  · by_cases h4 : j < i + (L.length - 1 - i)
    · have h5 : i ≤ j ∧ j < i + (L.length - 1 - i) := ⟨by omega, h4⟩
      have h6 : i + 1 + (j - i) = j + 1 := by omega
      simp [h5, h, h6]
    · have h5 : ¬ (i ≤ j ∧ j < i + (L.length - 1 - i)) := by omega
      have h8 : L.length ≤ j + 1 := by omega
      simp [h5, h, List.getElem?_eq_none h8]
theorem sp_without {l : Launch} {K : Kx} {h : Hp} {a i : Nat} {L : List Int64} {mc ms : Nat} (htr : l.stackTraces = false) (ha : h a = some (jl K L)) (hi : i < L.length) (hL : L.length < 1000) (hm : 1 ≤ mc) (hs : L.length ≤ ms) : mX0_without l K mc ms [.ref a, .int (nI i)] h (kQ (MkJ K h (L.eraseIdx i))) := by
  have c0 : (nI 0).toNatClampNeg = 0 := by decide
  have ci : (nI i).toNatClampNeg = i := nI_clamp (by omega)
  have ci1 : (nI (i + 1)).toNatClampNeg = i + 1 := nI_clamp (by omega)
  have cn : (nI (L.length - 1 - i)).toNatClampNeg = L.length - 1 - i := nI_clamp (by omega)
  have p0 : ∀ n, n < 2000 → ¬ nI n < nI 0 := fun n hn => nI_pos (by omega)
  refine fX0_without htr ⟨_, alen_jl ha, L.length - 1, pk_sub (by omega), by omega, by omega, by omega, ?_⟩
  rintro q h2' hq hb rfl
  have hne := ne_fresh ha hq
  refine ⟨_, _, _, _, by rw [up_n hne]; exact ha, up_s _ _ _, hb, p0 0 (by decide), p0 0 (by decide), p0 i (by omega), by rw [c0, ci]; omega, by rw [c0, ci]; omega, ?_⟩
  rintro h3' rfl
  rw [c0, ci, up_up]
  refine ⟨_, by simp only [alen, up_s]; rfl, ?_⟩
  rw [nI_sub1, pk_sub (show i ≤ L.length - 1 by omega)]
  refine ⟨_, _, _, _, by rw [up_n hne]; exact ha, up_s _ _ _, hb, p0 _ (by omega), p0 _ (by omega), p0 _ (by omega), by simp only [ci1, cn]; omega, by simp only [ci, cn]; omega, ?_⟩
  rintro h4' rfl
  rw [ci1, cn, up_up, ers_eq L i hi]
  refine ⟨⟨by omega, by omega⟩, kQ_ref ⟨q, rfl, hq, ?_, Ext.rf.up hq⟩⟩
  rw [up_s]; simp only [jl, List.length_eraseIdx_of_lt hi]
