/-! ===== class and reference side by side: calls ===== -/
/-- the world between two calls of the law: g calls done, the last one's code k -/
def WS (K : Kx) (F : List Nat) (x m out : Nat) (am : Nat → Nat) (H : Hp) (g k : Nat) : Prop :=
  ∃ ad o nm th nu sc kd ty pa Lp rw I L N, CR (kF K F) H x ad o nm th nu sc kd ty pa Lp rw ∧ Rel2 o nm th nu sc kd ty pa Lp I L N g ∧ H = Mw K m am I L H ∧ I 0 0 = nI k ∧ ∃ f, H out = some (xJ K 1 f)
def kG {α : Type} (mk : α → Value) (F : α → Hp → Prop) (X : String → Hp → Prop) : Rs → Hp → Prop := fun r h => (∃ x : α, r = .inl (some (mk x)) ∧ F x h) ∨ ∃ E, r = .inr E ∧ X E h
def kH {α : Type} (mk : α → Value) (F : α → Hp → Prop) : Rs → Hp → Prop := fun r h => ∃ x : α, r = .inl (some (mk x)) ∧ F x h
/-- what is left to do: the reference's call, over any heap that differs in the law's row alone; it ends with code k, and answers r if that is 0 -/
def Nx {α : Type} (mk : α → Value) (K : Kx) (F : List Nat) (x m out : Nat) (am : Nat → Nat) (g : Nat) (M : Hp → (Rs → Hp → Prop) → Prop) (k : Nat) (r : α) (h' : Hp) : Prop :=
  ((∃ f, h' out = some (xJ K 1 f)) ∧ ∃ fs, h' m = some (xO 4 fs)) ∧ ∀ H2, FG K out h' H2 → M H2 (kH mk fun r' H3 => WS K F x m out am H3 g k ∧ H3 out = H2 out ∧ (k = 0 → r' = r))
section Rel
variable {l : Launch} {K : Kx} {F : List Nat} {x m out : Nat} {am : Nat → Nat} {H h' H2 : Hp} {ad : Nat → Nat → Nat} {rw : Nat → Nat} {o o' : OV} {nm : Nat → Int32} {th : Nat → Bool} {nu : Nat → Int32} {sc : Nat → Nat} {kd ty kd' ty' : Nat → Nat → Int32} {pa pa' : Nat → Nat → Nat} {Lp Lp' : Nat → List (Option EV)} {I I' : MI} {L L' : ML} {N : Nat → Nat} {g : Nat}
theorem two (fx : FX F m out am) (ff : FF (kF K F) H h') (e : H = Mw K m am I L H) (ho : ∃ f, H out = some (xJ K 1 f)) : (∃ f, h' out = some (xJ K 1 f)) ∧ ∃ fs, h' m = some (xO 4 fs) := by
  have fo : fK (kF K F) out := kF_f.mpr ((fx.2.1 out).mpr (Or.inr (Or.inl rfl)))
  have fm : fK (kF K F) m := kF_f.mpr ((fx.2.1 m).mpr (Or.inl rfl))
  exact ⟨by rw [ff _ fo]; exact ho, _, by rw [ff _ fm, e]; exact Mw_m⟩
theorem Rel2.same (r : Rel2 o nm th nu sc kd ty pa Lp I L N g) (hg : g + 1 < 2 ^ 20) (h : ∀ f, f ≠ 0 → f ≠ 22 → I' f = I f) : Rel2 o nm th nu sc kd ty pa Lp I' L N (g + 1) := by
  obtain ⟨r1, r2, r3, r4, r5, r6, r7, ⟨a, b1, b2, b3, b4⟩, ⟨q, q1, q2, q3⟩, r10, r11⟩ := r
  have e : ∀ c n s, s ≤ 8 → (∀ j, j < n → eOk I c s (150 * c + j)) → mLst I' L c n = mLst I L c n := fun c n s h8 ok => mLst_same h8 (fun i _ => sameE.rf (h 7 (by decide) (by decide)) (h 9 (by decide) (by decide)) (h 10 (by decide) (by decide))) (fun st _ => by rw [h 3 (by decide) (by decide)]) ok
  refine ⟨?_, ?_, ?_, ?_, fun c hc ht => ?_, ?_, r7, ⟨a, b1, by omega, b3, b4⟩, ⟨q, by rw [h 17 (by decide) (by decide)]; exact q1, by omega, by rw [h 13 (by decide) (by decide)]; exact q3⟩, r10, hg⟩
  · rw [h 1 (by decide) (by decide), h 2 (by decide) (by decide)]; exact r1
  · rw [h 3 (by decide) (by decide), h 4 (by decide) (by decide)]; exact r2
  · rw [h 14 (by decide) (by decide), h 5 (by decide) (by decide), h 15 (by decide) (by decide)]; exact r3
  · rw [h 16 (by decide) (by decide), h 18 (by decide) (by decide), h 19 (by decide) (by decide), h 21 (by decide) (by decide)]; exact r4
  · obtain ⟨c1, c2, c3, c4, c5⟩ := r5 c hc ht
    have h8 : sc c ≤ 8 := Nat.le_trans (r2 c hc ht).1 r1.2.1
    rw [e c (N c) (sc c) h8 c3, h 6 (by decide) (by decide)]
    exact ⟨c1, c2, fun j hj => eOk_same (by rw [h 7 (by decide) (by decide)]) (by rw [h 10 (by decide) (by decide)]) (fun st _ => by rw [h 3 (by decide) (by decide)]) (c3 j hj), c4, c5⟩
  · rw [h 13 (by decide) (by decide)]; exact r6
theorem TMj.no : TMj th (fun _ => false) 16 o pa o pa := by
  refine ⟨?_, fun _ _ => rfl, fun p hp => ⟨fun z => by simp at z, fun _ => rfl⟩⟩
  simp only [Bool.false_and, List.countP_false, Function.const_apply]
  rw [nI_0r]
theorem Rel2.nfs (r : Rel2 o nm th nu sc kd ty pa Lp I L N g) (nf : NF I L I' L') {T : Nat → Bool} {n' : Nat} (hg : g + 1 < 2 ^ 20) (t : TMj th T 16 o pa o' pa') (u : PgM T I I') (h60 : I' 6 0 = nI n') (hn : n' ≤ 150) (hok : ∀ j, j < n' → eOk I' 0 (sc 0) j) (hnd : ((mLst I' L' 0 n').map kyE).Nodup) (hp : (eP Lp' (pa' 0) 16).Perm (mLst I' L' 0 n')) (heP : ∀ c, 0 < c → c < 7 → th c = true → eP Lp' (pa' c) 16 = eP Lp (pa c) 16) (pi : PI th pa' Lp') : Rel2 o' nm th nu sc kd ty pa' Lp' I' L' (va_up N 0 n') (g + 1) := by
  have h3 : I' 3 = I 3 := nf.1 3 (by decide) (by decide) (by decide) (by decide) (by decide) (by decide) (by decide) (by decide) (by decide)
  have h4 : I' 4 = I 4 := nf.1 4 (by decide) (by decide) (by decide) (by decide) (by decide) (by decide) (by decide) (by decide) (by decide)
  refine r.sweep hg t u (fun f h0 _ _ h6 h7 h9 h10 h13 h17 h18 h22 => nf.1 f h0 h6 h7 h9 h10 h13 h17 h18 h22) nf.2.1 nf.2.2.1 nf.2.2.2 (fun c _ i _ => by rw [h3, h4]; exact ⟨rfl, rfl⟩) (fun i hi => ?_) (fun c _ => ⟨rfl, rfl⟩) h60 hn hok hnd hp heP pi
  have := (r.2.1 0 (by decide) r.2.2.2.2.2.2.2.2.2.1).2 i hi
  rw [h3, h4]
  simpa using this
theorem nwE_perm {v : EV} {E M : List EV} (h : E.Perm M) : ((nwE v).toList ++ noE v E).Perm ((nwE v).toList ++ noE v M) := (h.filter _).append_left _
/-- both have kept the same -/
theorem Rel2.mst {u : Option EV} (r : Rel2 o nm th nu sc kd ty pa Lp I L N g) (hg : g + 1 < 2 ^ 20) (pi : PI th pa' Lp') (heP : ∀ c, 0 < c → c < 7 → th c = true → eP Lp' (pa' c) 16 = eP Lp (pa c) 16)
    (h : (u = none ∧ o' = o ∧ pa' = pa ∧ Lp' = Lp) ∨ ∃ v, u = some v ∧ Tq th (pgI v.1 v.2.1 v.2.2.1) o pa o' pa' ∧ (eP Lp' (pa' 0) 16).Perm ((nwE v).toList ++ noE v (eP Lp (pa 0) 16))) (ms : MSt I L (sc 0) (N 0) u I' L') : ∃ N', Rel2 o' nm th nu sc kd ty pa' Lp' I' L' N' (g + 1) := by
  have t0 := r.2.2.2.2.2.2.2.2.2.1
  obtain ⟨b1, b2, b3, b4, b5⟩ := r.2.2.2.2.1 0 (by decide) t0
  obtain ⟨n', m1, m2, m3, m4, m5, m6⟩ := ms
  rcases h with ⟨rfl, rfl, rfl, rfl⟩ | ⟨v, rfl, tq, hp⟩
  · rcases m6 with ⟨-, rfl, m7, m8⟩ | ⟨w, z, _⟩
    · exact ⟨_, r.nfs m3 hg TMj.no m8 m1 m2 m4 m5 (by rw [m7]; exact b5) heP pi⟩
    · cases z
  · rcases m6 with ⟨z, _⟩ | ⟨w, z, m7, m8⟩
    · cases z
    · cases z
      exact ⟨_, r.nfs m3 hg (tq.tm (pgI_lt _ _ _)) m7 m1 m2 m4 m5 (hp.trans ((nwE_perm b5).trans m8.symm)) heP pi⟩
/-- a call that may keep something -/
theorem sim_w {y y' : MethodName} {ws ws' : List Cond} {fr lo mc ms fr' lo' mc' ms' : Nat} {As As' : List Value} {S S' : Nat → Prop} {R R' : Int32 → Option EV → Prop} {ec : Nat → String} {b : Nat} (hb : b ≤ 5) (fx : FX F m out am) (r : Rel2 o nm th nu sc kd ty pa Lp I L N g) (hg : g + 1 < 2 ^ 20) (C : CR (kF K F) H x ad o nm th nu sc kd ty pa Lp rw) (e : H = Mw K m am I L H) (ho : ∃ f, H out = some (xJ K 1 f))
    (hC : MX l K y ws fr lo mc ms As H (kIX (fun r h' => S 0 ∧ ∃ u, R r u ∧ SpC (kF K F) H x ad o nm th nu sc kd ty pa Lp u h') (fun E h' => h' = H ∧ ∃ c, 0 < c ∧ c < b ∧ E = ec c ∧ S c)))
    (hM : ∀ H2, MX l K y' ws' fr' lo' mc' ms' As' (Mw K m am I L H2) (kI fun r h' => mEnd K m am I L H2 S' (MSt I L (sc 0) (N 0) none) (fun I' L' => ∃ u, R' r u ∧ MSt I L (sc 0) (N 0) u I' L') h'))
    (hS : ∀ c c', S c → S' c' → c = c') (hR : ∀ a u a' u', R a u → R' a' u' → a = a' ∧ u = u') :
    MX l K y ws fr lo mc ms As H (kIX (fun a h' => Nx .int K F x m out am (g + 1) (MX l K y' ws' fr' lo' mc' ms' As') 0 a h') (fun E h' => ∃ k, 0 < k ∧ k < b ∧ E = ec k ∧ ∀ a, Nx .int K F x m out am (g + 1) (MX l K y' ws' fr' lo' mc' ms' As') k a h')) := by
  refine hC.mono fun rs h' q => ?_
  rcases q with ⟨a, rfl, s0, u, hu, o', pa', Lp', rw', c1, c2, c3, c4, c5⟩ | ⟨E, rfl, rfl, c, c0, c5, rfl, sc'⟩
  · refine Or.inl ⟨a, rfl, two fx c2 e ho, fun H2 fg => ?_⟩
    obtain ⟨e2, fin⟩ := mid fx c1 c2 e fg
    rw [e2]
    refine (hM H2).mono fun rs h3 q => ?_
    obtain ⟨a', rfl, c, I', L', rfl, s', i0, z⟩ := q
    have := hS _ _ s0 s'
    subst this
    rcases z with ⟨z, _⟩ | ⟨_, u', hu', mst⟩
    · exact absurd z (Nat.lt_irrefl _)
    · obtain ⟨rfl, rfl⟩ := hR _ _ _ _ hu hu'
      obtain ⟨N', r'⟩ := r.mst hg c3 c4 c5 mst
      obtain ⟨f1, f2, f3⟩ := fin I' L'
      rw [← e2]
      exact ⟨_, rfl, ⟨_, _, _, _, _, _, _, _, _, _, _, I', L', N', f1, r', f2, i0, by rw [f3]; exact fg.2⟩, f3, fun _ => rfl⟩
  · refine Or.inr ⟨_, rfl, c, c0, by omega, rfl, fun a => ⟨two fx (fun _ _ => rfl) e ho, fun H2 fg => ?_⟩⟩
    obtain ⟨e2, fin⟩ := mid fx C (fun _ _ => rfl) e fg
    rw [e2]
    refine (hM H2).mono fun rs h3 q => ?_
    obtain ⟨a', rfl, c', I', L', rfl, s', i0, z⟩ := q
    have := hS _ _ sc' s'
    subst this
    rcases z with ⟨_, _, mst⟩ | ⟨z, _⟩
    · obtain ⟨N', r'⟩ := r.mst (u := none) hg r.2.2.2.2.2.2.1 (fun _ _ _ _ => rfl) (Or.inl ⟨rfl, rfl, rfl, rfl⟩) mst
      obtain ⟨f1, f2, f3⟩ := fin I' L'
      rw [← e2]
      exact ⟨_, rfl, ⟨_, _, _, _, _, _, _, _, _, _, _, I', L', N', f1, r', f2, i0, by rw [f3]; exact fg.2⟩, f3, fun z => by omega⟩
    · omega
/-- a call that keeps nothing -/
theorem sim_r {α : Type} {mk : α → Value} {y y' : MethodName} {ws ws' : List Cond} {fr lo mc ms fr' lo' mc' ms' : Nat} {As As' : List Value} {P P' : α → Nat → Prop} {ec : Nat → String} {b : Nat} (fx : FX F m out am) (r : Rel2 o nm th nu sc kd ty pa Lp I L N g) (hg : g + 1 < 2 ^ 20) (e : H = Mw K m am I L H) (ho : ∃ f, H out = some (xJ K 1 f))
    (hC : MX l K y ws fr lo mc ms As H (kG mk (fun a h' => P a 0 ∧ SpC (kF K F) H x ad o nm th nu sc kd ty pa Lp none h') (fun E h' => SpC (kF K F) H x ad o nm th nu sc kd ty pa Lp none h' ∧ ∃ c, 0 < c ∧ c < b ∧ E = ec c ∧ ∀ a, P a c)))
    (hM : ∀ H2, MX l K y' ws' fr' lo' mc' ms' As' (Mw K m am I L H2) (kH mk fun a h' => mRd K m am I L H2 (P' a) h'))
    (hP : ∀ a c a' c', P a c → P' a' c' → c = c' ∧ (c = 0 → a' = a)) (dfl : α) :
    MX l K y ws fr lo mc ms As H (kG mk (fun a h' => Nx mk K F x m out am (g + 1) (MX l K y' ws' fr' lo' mc' ms' As') 0 a h') (fun E h' => ∃ k, 0 < k ∧ k < b ∧ E = ec k ∧ ∀ a, Nx mk K F x m out am (g + 1) (MX l K y' ws' fr' lo' mc' ms' As') k a h')) := by
  have go : ∀ k a h', P a k → SpC (kF K F) H x ad o nm th nu sc kd ty pa Lp none h' → Nx mk K F x m out am (g + 1) (MX l K y' ws' fr' lo' mc' ms' As') k a h' := by
    rintro k a h' p ⟨o', pa', Lp', rw', c1, c2, c3, c4, c5⟩
    refine ⟨two fx c2 e ho, fun H2 fg => ?_⟩
    obtain ⟨-, rfl, rfl, rfl⟩ : none = none ∧ o' = o ∧ pa' = pa ∧ Lp' = Lp := by
      rcases c5 with z | ⟨v, z, _⟩
      · exact z
      · cases z
    obtain ⟨e2, fin⟩ := mid fx c1 c2 e fg
    rw [e2]
    refine (hM H2).mono fun rs h3 q => ?_
    obtain ⟨a', rfl, c, I', c5', rfl, i0, hI, p'⟩ := q
    obtain ⟨rfl, ha⟩ := hP _ _ _ _ p p'
    obtain ⟨f1, f2, f3⟩ := fin I' L
    rw [← e2]
    exact ⟨_, rfl, ⟨_, _, _, _, _, _, _, _, _, _, _, I', L, N, f1, r.same hg hI, f2, i0, by rw [f3]; exact fg.2⟩, f3, ha⟩
  refine hC.mono fun rs h' q => ?_
  rcases q with ⟨a, rfl, p, sp⟩ | ⟨E, rfl, sp, c, c0, c5, rfl, p⟩
  · exact Or.inl ⟨a, rfl, go 0 a h' p sp⟩
  · exact Or.inr ⟨_, rfl, c, c0, c5, rfl, fun a => go c a h' (p a) sp⟩
end Rel
