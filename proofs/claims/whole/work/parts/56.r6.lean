/-! ===== class and reference side by side: the other calls ===== -/
section Rel
variable {l : Launch} {K : Kx} {F : List Nat} {x m out : Nat} {am : Nat → Nat} {H h' H2 : Hp} {ad : Nat → Nat → Nat} {rw : Nat → Nat} {o o' : OV} {nm : Nat → Int32} {th : Nat → Bool} {nu : Nat → Int32} {sc : Nat → Nat} {kd ty kd' ty' : Nat → Nat → Int32} {pa pa' : Nat → Nat → Nat} {Lp Lp' : Nat → List (Option EV)} {I I' : MI} {L L' : ML} {N : Nat → Nat} {g k0 mc ms : Nat} {s : Int32}
theorem Nx.of {α : Type} {mk : α → Value} {y' : MethodName} {ws' : List Cond} {fr' lo' mc' ms' g' k : Nat} {As' : List Value} {a : α} (fx : FX F m out am) (C : CR (kF K F) h' x ad o nm th nu sc kd ty pa Lp rw) (ff : FF (kF K F) H h') (e : H = Mw K m am I L H) (ho : ∃ f, H out = some (xJ K 1 f))
    (hM : ∀ H2, MX l K y' ws' fr' lo' mc' ms' As' (Mw K m am I L H2) (kH mk fun a' h3 => ∃ I' L' N', h3 = Mw K m am I' L' H2 ∧ Rel2 o nm th nu sc kd ty pa Lp I' L' N' g' ∧ I' 0 0 = nI k ∧ (k = 0 → a' = a))) : Nx mk K F x m out am g' (MX l K y' ws' fr' lo' mc' ms' As') k a h' := by
  refine ⟨two fx ff e ho, fun H2 fg => ?_⟩
  obtain ⟨e2, fin⟩ := mid fx C ff e fg
  rw [e2]
  refine (hM H2).mono fun rs h3 q => ?_
  obtain ⟨a', rfl, I', L', N', rfl, r', i0, ha⟩ := q
  obtain ⟨f1, f2, f3⟩ := fin I' L'
  rw [← e2]
  exact ⟨_, rfl, ⟨_, _, _, _, _, _, _, _, _, _, _, I', L', N', f1, r', f2, i0, by rw [f3]; exact fg.2⟩, f3, ha⟩
/-- the same, of a call that answers nothing -/
def NxV (K : Kx) (F : List Nat) (x m out : Nat) (am : Nat → Nat) (g : Nat) (M : Hp → (Rs → Hp → Prop) → Prop) (h' : Hp) : Prop :=
  ((∃ f, h' out = some (xJ K 1 f)) ∧ ∃ fs, h' m = some (xO 4 fs)) ∧ ∀ H2, FG K out h' H2 → M H2 (kV fun H3 => WS K F x m out am H3 g 0 ∧ H3 out = H2 out)
theorem tw_key {k : Int64} (htr : l.stackTraces = false) (fx : FX F m out am) (W : WS K F x m out am H g k0) (hg : g + 1 < 2 ^ 20) :
    mX3_key l K [.ref x, .long k] H (kV fun h' => NxV K F x m out am (g + 1) (mX4_key l K [.ref m, .long k]) h') := by
  obtain ⟨ad, o, nm, th, nu, sc, kd, ty, pa, Lp, rw, I, L, N, C, r, e, i0, fo, ho⟩ := W
  refine (sp_key (K := kF K F) htr C).mono fun rs h' q => ?_
  obtain ⟨rfl, c1, c2⟩ := q
  refine ⟨rfl, two fx c2 e ⟨fo, ho⟩, fun H2 fg => ?_⟩
  obtain ⟨e2, fin⟩ := mid fx c1 c2 e fg
  rw [e2]
  refine (sp_mKey htr).mono fun rs h3 q => ?_
  obtain ⟨rfl, rfl⟩ := q
  obtain ⟨f1, f2, f3⟩ := fin (setI (z0 I) 19 0 (nI 1)) (setL L 20 0 k)
  rw [← e2]
  exact ⟨rfl, ⟨_, _, _, _, _, _, _, _, _, _, _, _, _, N, f1, r.hd hg (fun f h0 h19 _ _ => by rw [setI_n h19, z0_n h0]) (fun f h => setL_n h) (by rw [setI_f, upd_s]) (by rw [setL_f, updL_s]) (by rw [setI_n (by decide), z0_n (by decide)]; exact r.2.2.2.1.2.2.2.2.1) (Or.inr rfl), f2, by rw [setI_n (by decide), z0_0], by rw [f3]; exact fg.2⟩, f3⟩
theorem tw_leave (htr : l.stackTraces = false) (fx : FX F m out am) (W : WS K F x m out am H g k0) (hg : g + 1 < 2 ^ 20) :
    mX3_leave l K [.ref x] H (kI fun a h' => Nx .int K F x m out am (g + 1) (mX4_leave l K [.ref m]) 0 a h') := by
  obtain ⟨ad, o, nm, th, nu, sc, kd, ty, pa, Lp, rw, I, L, N, C, r, e, i0, fo, ho⟩ := W
  obtain ⟨s1, s2, s3, s4, s5, s6⟩ := r.2.2.2.1
  refine (sp_leave (K := kF K F) htr C s6).mono fun rs h' q => ?_
  obtain ⟨a, rfl, rfl, c1, c2⟩ := q
  refine ⟨_, rfl, Nx.of fx c1 c2 e ⟨fo, ho⟩ fun H2 => (sp_mLeave htr (by rw [s3]; exact s6)).mono fun rs h3 q => ?_⟩
  obtain ⟨a, rfl, rfl, rfl⟩ := q
  exact ⟨_, rfl, _, L, N, rfl, r.hd hg (fun f h0 h19 _ _ => by rw [setI_n h19, z0_n h0]) (fun f h => rfl) (by rw [setI_f, upd_s]) s4 (by rw [setI_n (by decide), z0_n (by decide)]; exact s5) (Or.inl rfl), by rw [setI_n (by decide), z0_0], fun _ => s3⟩
theorem tw_span {k : Int32} (htr : l.stackTraces = false) (fx : FX F m out am) (W : WS K F x m out am H g k0) (hg : g + 1 < 2 ^ 20) :
    mX3_span l K [.ref x, .int k] H (kI fun a h' => Nx .int K F x m out am (g + 1) (mX4_span l K [.ref m, .int k]) 0 a h') := by
  obtain ⟨ad, o, nm, th, nu, sc, kd, ty, pa, Lp, rw, I, L, N, C, r, e, i0, fo, ho⟩ := W
  obtain ⟨s1, s2, s3, s4, s5, s6⟩ := r.2.2.2.1
  refine (sp_span (K := kF K F) htr C).mono fun rs h' q => ?_
  obtain ⟨a, rfl, rfl, c1, c2⟩ := q
  refine ⟨_, rfl, Nx.of fx c1 c2 e ⟨fo, ho⟩ fun H2 => (sp_mSpan htr).mono fun rs h3 q => ?_⟩
  obtain ⟨a, rfl, rfl, rfl⟩ := q
  exact ⟨_, rfl, _, L, N, rfl, r.hd hg (fun f h0 _ h21 _ => by rw [setI_n h21, z0_n h0]) (fun f h => rfl) (by rw [setI_n (by decide), z0_n (by decide)]; exact s3) s4 (by rw [setI_f, upd_s]) s6, by rw [setI_n (by decide), z0_0], fun _ => s5⟩
theorem tw_state {n k t : Int32} (htr : l.stackTraces = false) (fx : FX F m out am) (W : WS K F x m out am H g k0) (hg : g + 1 < 2 ^ 20) :
    mX3_state l K [.ref x, .int n, .int k, .int t] H (kI fun a h' => Nx .int K F x m out am (g + 1) (mX4_state l K [.ref m, .int n, .int k, .int t]) 0 a h') := by
  obtain ⟨ad, o, nm, th, nu, sc, kd, ty, pa, Lp, rw, I, L, N, C, r, e, i0, fo, ho⟩ := W
  have h8 := r.h8
  have kty := r.kty
  have nms := r.1.2.2
  have same : Rel2 o nm th nu sc kd ty pa Lp (z0 I) L N (g + 1) := r.same hg fun f h0 _ => z0_n h0
  refine (sp_state (K := kF K F) htr C h8).mono fun rs h' q => ?_
  obtain ⟨a, rfl, q⟩ := q
  refine ⟨_, rfl, ?_⟩
  have hM := fun H2 => sp_mState (l := l) (K := K) (m := m) (am := am) (I := I) (L := L) (h := H2) (nm := n) (k := k) (t := t) htr fx.1 r.1.1 h8
  rcases q with ⟨k1, rfl, rfl⟩ | ⟨k1, i, hi, hn, hb, rfl, q⟩ | ⟨k1, hno, q⟩
  · refine Nx.of fx C (fun _ _ => rfl) e ⟨fo, ho⟩ fun H2 => (hM H2).mono fun rs h3 q => ?_
    obtain ⟨a, rfl, ⟨_, rfl, rfl⟩ | ⟨z, _⟩ | ⟨z, _⟩⟩ := q
    · exact ⟨_, rfl, _, L, N, rfl, same, z0_0, fun _ => rfl⟩
    · exact absurd z k1
    · exact absurd z k1
  · refine Nx.of fx C (fun _ _ => rfl) e ⟨fo, ho⟩ fun H2 => (hM H2).mono fun rs h3 q' => ?_
    obtain ⟨a', rfl, ⟨z, _⟩ | ⟨_, i', hi', hn', hb', rfl, q'⟩ | ⟨_, z, _⟩⟩ := q'
    · exact absurd k1 z
    · have : i' = i := by
        rcases Nat.lt_trichotomy i' i with y | y | y
        · exact absurd (by rw [← nms i' hi']; exact hn') (hb i' y)
        · exact y
        · exact absurd (by rw [nms i hi]; exact hn) (hb' i y)
      subst this
      rw [(kty i' hi).1, (kty i' hi).2] at q'
      refine ⟨_, rfl, _, L, N, rfl, same, z0_0, fun _ => ?_⟩
      rcases q with ⟨y1, y2, rfl⟩ | ⟨y1, rfl⟩ <;> rcases q' with ⟨w1, w2, rfl⟩ | ⟨w1, rfl⟩
      · rfl
      · exact absurd ⟨y1, y2⟩ w1
      · exact absurd ⟨w1, w2⟩ y1
      · rfl
    · exact absurd (by rw [nms i hi]; exact hn) (z i hi)
  · rcases q with ⟨s8, rfl, rfl⟩ | ⟨s8, rfl, c1, c2⟩
    · refine Nx.of fx C (fun _ _ => rfl) e ⟨fo, ho⟩ fun H2 => (hM H2).mono fun rs h3 q' => ?_
      obtain ⟨a', rfl, ⟨z, _⟩ | ⟨_, i', hi', hn', _⟩ | ⟨_, z, ⟨_, rfl, rfl⟩ | ⟨y, _⟩⟩⟩ := q'
      · exact absurd k1 z
      · exact absurd (by rw [← nms i' hi']; exact hn') (hno i' hi')
      · exact ⟨_, rfl, _, L, N, rfl, same, z0_0, fun _ => rfl⟩
      · omega
    · refine Nx.of fx c1 c2 e ⟨fo, ho⟩ fun H2 => (hM H2).mono fun rs h3 q' => ?_
      obtain ⟨a', rfl, ⟨z, _⟩ | ⟨_, i', hi', hn', _⟩ | ⟨_, z, ⟨y, _⟩ | ⟨_, rfl, rfl⟩⟩⟩ := q'
      · exact absurd k1 z
      · exact absurd (by rw [← nms i' hi']; exact hn') (hno i' hi')
      · omega
      · obtain ⟨b, hb, rfl⟩ : ∃ b, b < 4 ∧ k = nI b := (show isS k 4 from ⟨k1.1, Int32.not_le.mp k1.2.1⟩).ix (by decide)
        exact ⟨_, rfl, _, L, N, rfl, r.nst hg s8 hb, by rw [setI_n (by decide), setI_n (by decide), setI_n (by decide), setI_n (by decide), z0_0], fun _ => rfl⟩
theorem tw_snapshot (htr : l.stackTraces = false) (fx : FX F m out am) (W : WS K F x m out am H g k0) (hg : g + 1 < 2 ^ 20) (hm : 40 ≤ mc) (hs : 1200 ≤ ms) :
    mX3_snapshot l K mc ms [.ref x] H (kI fun a h' => Nx .int K F x m out am (g + 1) (mX4_snapshot l K [.ref m]) 0 a h') := by
  obtain ⟨ad, o, nm, th, nu, sc, kd, ty, pa, Lp, rw, I, L, N, C, r, e, i0, fo, ho⟩ := W
  have h14 : ∀ j, j < 6 → (I 14 (j + 1) = nI 0 ↔ th (j + 1) = false) := fun j hj => (r.2.2.1 (j + 1) (by omega) (by omega)).1
  obtain ⟨n1, n2, -⟩ := r.2.2.2.2.1 0 (by decide) r.t0
  refine (sp_snapshot (K := kF K F) htr C hm hs).mono fun rs h' q => ?_
  obtain ⟨a, rfl, q⟩ := q
  refine ⟨_, rfl, ?_⟩
  have hM := fun H2 => sp_mSnapshot (l := l) (K := K) (m := m) (am := am) (I := I) (L := L) (h := H2) htr fx.1 r.1.1 r.h8 n1 n2
  rcases q with ⟨rfl, rfl, q⟩ | ⟨j, an, kf, tf, hj, hf, hb, rfl, hk, c1, c2⟩
  · refine Nx.of fx C (fun _ _ => rfl) e ⟨fo, ho⟩ fun H2 => (hM H2).mono fun rs h3 q' => ?_
    obtain ⟨a', rfl, ⟨rfl, rfl, _⟩ | ⟨j, hj, z, _⟩⟩ := q'
    · exact ⟨_, rfl, _, L, N, rfl, r.same hg fun f h0 _ => z0_n h0, z0_0, fun _ => rfl⟩
    · have := (h14 j hj).mp z
      rw [q j hj] at this; cases this
  · refine Nx.of fx c1 c2 e ⟨fo, ho⟩ fun H2 => (hM H2).mono fun rs h3 q' => ?_
    obtain ⟨a', rfl, ⟨_, _, z⟩ | ⟨j', hj', z1, z2, rfl, rfl⟩⟩ := q'
    · exact absurd ((h14 j hj).mpr hf) (z j hj)
    · have : j' = j := by
        rcases Nat.lt_trichotomy j' j with y | y | y
        · have := (h14 j' hj').mp z1
          rw [hb j' y] at this; cases this
        · exact y
        · exact absurd ((h14 j hj).mpr hf) (z2 j y)
      subst this
      refine ⟨_, rfl, _, _, _, rfl, r.sn hg hj hf hk, ?_, fun _ => r.2.2.2.1.1⟩
      rw [snI, setI_n (by decide), setI_n (by decide), setI_n (by decide), setI_n (by decide), ktI_n (by decide) (by decide), caI_n (by decide) (by decide) (by decide) (by decide) (by decide), z0_0]
theorem Rel2.num (r : Rel2 o nm th nu sc kd ty pa Lp I L N g) {c c' : Nat} {n : Int32} (h0 : 0 < c) (hc : c < 7) (ht : th c = true) (hn : nu c = n) (h0' : 0 < c') (hc' : c' < 7) (ht' : ¬ I 14 c' = nI 0) (hn' : I 15 c' = n) : c' = c := by
  have t' : th c' = true := by
    cases h : th c' with
    | true => rfl
    | false => exact absurd ((r.2.2.1 c' h0' hc').1.mpr h) ht'
  obtain ⟨a, b1, b2, b3, b4⟩ := r.2.2.2.2.2.2.2.1
  exact b4 c' c h0' hc' h0 hc t' ht (by rw [hn, ← hn', ((r.2.2.1 c' h0' hc').2 t').2])
theorem Rel2.nn (r : Rel2 o nm th nu sc kd ty pa Lp I L N g) {c : Nat} (h0 : 0 < c) (hc : c < 7) : th c = true ↔ ¬ I 14 c = nI 0 := by
  rw [(r.2.2.1 c h0 hc).1]
  cases th c <;> simp
theorem Rel2.nx (r : Rel2 o nm th nu sc kd ty pa Lp I L N g) {n : Int32} : (∀ j, j < 6 → th (j + 1) = true → nu (j + 1) ≠ n) ↔ ∀ j, j < 6 → ¬ I 14 (j + 1) = nI 0 → I 15 (j + 1) ≠ n := by
  refine forall_congr' fun j => forall_congr' fun hj => ?_
  rw [r.nn (c := j + 1) (by omega) (by omega)]
  refine forall_congr' fun z => ?_
  rw [((r.2.2.1 (j + 1) (by omega) (by omega)).2 ((r.nn (by omega) (by omega)).mpr z)).2]
/-- which exception stands for code 1 -/
def ec1 (_ : Nat) : String := exN 1
theorem tw_drop {n : Int32} (htr : l.stackTraces = false) (fx : FX F m out am) (W : WS K F x m out am H g k0) (hg : g + 1 < 2 ^ 20) (hm : 40 ≤ mc) (hs : 1200 ≤ ms) :
    mX3_drop l K mc ms [.ref x, .int n] H (kIX (fun a h' => Nx .int K F x m out am (g + 1) (mX4_drop l K [.ref m, .int n]) 0 a h') (fun E h' => ∃ k, 0 < k ∧ k < 2 ∧ E = exN 1 ∧ ∀ a, Nx .int K F x m out am (g + 1) (mX4_drop l K [.ref m, .int n]) k a h')) := by
  obtain ⟨ad, o, nm, th, nu, sc, kd, ty, pa, Lp, rw, I, L, N, C, r, e, i0, fo, ho⟩ := W
  refine (sp_drop (K := kF K F) htr C hm hs).mono fun rs h' q => ?_
  have hM := fun H2 => sp_mDrop (l := l) (K := K) (m := m) (am := am) (I := I) (L := L) (h := H2) (x := n) htr fx.1
  rcases q with ⟨a, rfl, j, hj, ht, hn, rfl, c1, c2⟩ | ⟨E, rfl, rfl, rfl, q⟩
  · refine Or.inl ⟨_, rfl, Nx.of fx c1 c2 e ⟨fo, ho⟩ fun H2 => (hM H2).mono fun rs h3 q' => ?_⟩
    obtain ⟨a', rfl, ⟨j', hj', z1, z2, rfl, rfl⟩ | ⟨z, _⟩⟩ := q'
    · have : j' + 1 = j + 1 := r.num (by omega) (by omega) ht hn (by omega) (by omega) z1 z2
      have : j' = j := by omega
      subst this
      have r' := r.dr hg hj
      refine ⟨_, rfl, _, _, _, rfl, r', by rw [setI_n (by decide), z0_0], fun _ => ?_⟩
      congr 1
      exact List.countP_congr fun p hp => by rw [r'.sh (List.mem_range.mp hp)]
    · exact absurd hn (r.nx.mpr z j hj ht)
  · refine Or.inr ⟨_, rfl, 1, by decide, by decide, rfl, fun a => Nx.of fx C (fun _ _ => rfl) e ⟨fo, ho⟩ fun H2 => (hM H2).mono fun rs h3 q' => ?_⟩
    obtain ⟨a', rfl, ⟨j', hj', z1, z2, _⟩ | ⟨z, rfl⟩⟩ := q'
    · exact absurd z2 (r.nx.mp q j' hj' z1)
    · exact ⟨_, rfl, _, L, N, rfl, r.same hg fun f h0 _ => setI_n h0, by rw [setI_f, upd_s], fun z => by omega⟩
theorem tw_restore {n : Int32} (htr : l.stackTraces = false) (fx : FX F m out am) (W : WS K F x m out am H g k0) (hg : g + 1 < 2 ^ 20) (hm : 40 ≤ mc) (hs : 1200 ≤ ms) :
    mX3_restore l K mc ms [.ref x, .int n] H (kIX (fun a h' => Nx .int K F x m out am (g + 1) (mX4_restore l K [.ref m, .int n]) 0 a h') (fun E h' => ∃ k, 0 < k ∧ k < 2 ∧ E = exN 1 ∧ ∀ a, Nx .int K F x m out am (g + 1) (mX4_restore l K [.ref m, .int n]) k a h')) := by
  obtain ⟨ad, o, nm, th, nu, sc, kd, ty, pa, Lp, rw, I, L, N, C, r, e, i0, fo, ho⟩ := W
  have t0 := r.t0
  have hN : ∀ c, c < 7 → (c = 0 ∨ ¬ I 14 c = nI 0) → I 6 c = nI (N c) ∧ N c ≤ 150 := fun c hc z => by
    have ht : th c = true := z.elim (fun z => by rw [z]; exact t0) fun z => by
      by_cases y : c = 0
      · rw [y]; exact t0
      · exact (r.nn (by omega) hc).mpr z
    exact ⟨(r.2.2.2.2.1 c hc ht).1, (r.2.2.2.2.1 c hc ht).2.1⟩
  have hsc : ∀ c, c < 7 → th c = true → sc c ≤ 8 := fun c hc ht => Nat.le_trans (r.2.1 c hc ht).1 r.h8
  have hS : ∀ c, 0 < c → c < 7 → ¬ I 14 c = nI 0 → I 5 c = nI (sc c) ∧ sc c ≤ 8 := fun c h0 hc z => ⟨((r.2.2.1 c h0 hc).2 ((r.nn h0 hc).mpr z)).1, hsc c hc ((r.nn h0 hc).mpr z)⟩
  refine (sp_restore (K := kF K F) htr C hsc hm hs).mono fun rs h' q => ?_
  have hM := fun H2 => sp_mRestore (l := l) (K := K) (m := m) (am := am) (I := I) (L := L) (h := H2) (x := n) htr fx.1 hN hS
  rcases q with ⟨a, rfl, c, h0, hc, ht, hn, rfl, c1, c2⟩ | ⟨E, rfl, rfl, rfl, q⟩
  · refine Or.inl ⟨_, rfl, Nx.of fx c1 c2 e ⟨fo, ho⟩ fun H2 => (hM H2).mono fun rs h3 q' => ?_⟩
    obtain ⟨a', rfl, ⟨c', h0', hc', z1, z2, rfl, rfl⟩ | ⟨z, _⟩⟩ := q'
    · have : c' = c := r.num h0 hc ht hn h0' hc' z1 z2
      subst this
      refine ⟨_, rfl, _, _, _, rfl, r.rs hg h0 hc ht, ?_, fun _ => by rw [r.len hc ht]⟩
      rw [rsI, ktI_n (by decide) (by decide), caI_n (by decide) (by decide) (by decide) (by decide) (by decide), z0_0]
    · have := r.nx.mpr z (c - 1) (by omega)
      rw [show c - 1 + 1 = c by omega] at this
      exact absurd hn (this ht)
  · refine Or.inr ⟨_, rfl, 1, by decide, by decide, rfl, fun a => Nx.of fx C (fun _ _ => rfl) e ⟨fo, ho⟩ fun H2 => (hM H2).mono fun rs h3 q' => ?_⟩
    obtain ⟨a', rfl, ⟨c', h0', hc', z1, z2, _⟩ | ⟨z, rfl⟩⟩ := q'
    · have := r.nx.mp q (c' - 1) (by omega)
      rw [show c' - 1 + 1 = c' by omega] at this
      exact absurd z2 (this z1)
    · exact ⟨_, rfl, _, L, N, rfl, r.same hg fun f h0 _ => setI_n h0, by rw [setI_f, upd_s], fun z => by omega⟩
theorem tw_clearSpan (htr : l.stackTraces = false) (fx : FX F m out am) (W : WS K F x m out am H g k0) (hg : g + 1 < 2 ^ 20) (hm : 400 ≤ mc) (hs : 7000 ≤ ms) :
    mX3_clearSpan l K mc ms [.ref x] H (kI fun a h' => Nx .int K F x m out am (g + 1) (mX4_clearSpan l K [.ref m]) 0 a h') := by
  obtain ⟨ad, o, nm, th, nu, sc, kd, ty, pa, Lp, rw, I, L, N, C, r, e, i0, fo, ho⟩ := W
  obtain ⟨n1, n2, n3, n4, n5⟩ := r.2.2.2.2.1 0 (by decide) r.t0
  have s5 := r.2.2.2.1.2.2.2.2.1
  refine (sp_clearSpan (K := kF K F) htr C r.2.2.2.2.2.2.1 hm hs).mono fun rs h' q => ?_
  obtain ⟨a, rfl, rfl, o', pa', Lp', rw', c1, c2, c3, c4, c5, c6⟩ := q
  refine ⟨_, rfl, Nx.of fx c1 c2 e ⟨fo, ho⟩ fun H2 => (sp_mClearSpan htr fx.1 r.mv).mono fun rs h3 q' => ?_⟩
  obtain ⟨a', rfl, I', L', rfl, i0', rfl, n', m1, m2, m3, m4, m5, m6, m7⟩ := q'
  rw [s5] at m6 m7 ⊢
  refine ⟨_, rfl, I', L', _, rfl, r.nfs m3 hg c5 (m6.cg fun p _ => (pT_perm n5 p).symm) m1 m2 m4 m5 ?_ c4 c3, i0', fun _ => by rw [n5.countP_eq]⟩
  rw [c6]
  exact (n5.filter _).trans m7.symm
theorem mvL_ky {s k t : Int32} (M : List EV) : (mvL s k t M).map kyE = M.map kyE := by
  rw [mvL, List.map_map]
  refine List.map_congr_left fun v _ => ?_
  rw [Function.comp_apply]
  split
  · exact mvE_ky k t v
  · rfl
theorem tw_move {k t : Int32} (htr : l.stackTraces = false) (fx : FX F m out am) (W : WS K F x m out am H g k0) (hg : g + 1 < 2 ^ 20) (hm : 400 ≤ mc) (hs : 7000 ≤ ms) :
    mX3_move l K mc ms [.ref x, .int s, .int k, .int t] H (kIX (fun a h' => Nx .int K F x m out am (g + 1) (mX4_move l K [.ref m, .int s, .int k, .int t]) 0 a h') (fun E h' => ∃ k', 0 < k' ∧ k' < 2 ∧ E = exN 1 ∧ ∀ a, Nx .int K F x m out am (g + 1) (mX4_move l K [.ref m, .int s, .int k, .int t]) k' a h')) := by
  obtain ⟨ad, o, nm, th, nu, sc, kd, ty, pa, Lp, rw, I, L, N, C, r, e, i0, fo, ho⟩ := W
  obtain ⟨n1, n2, n3, n4, n5⟩ := r.2.2.2.2.1 0 (by decide) r.t0
  have h8 := r.h8
  have kty := r.kty
  have k4 : ∀ i, i < sc 0 → ∃ j, j < 4 ∧ kd 0 i = nI j := fun i hi => ((r.2.1 0 (by decide) r.t0).2 i hi).2.2
  have same : Rel2 o nm th nu sc kd ty pa Lp (z0 I) L N (g + 1) := r.same hg fun f h0 _ => z0_n h0
  have hall : ∀ s : Int32, (∀ v ∈ eP Lp (pa 0) 16, v.1 = s → ∀ x ∈ v.2.2.2.1, ft k t x) ↔ ∀ v ∈ mLst I L 0 (N 0), v.1 = s → ∀ x ∈ v.2.2.2.1, ft k t x := fun s => ⟨fun z v hv => z v (n5.mem_iff.mpr hv), fun z v hv => z v (n5.mem_iff.mp hv)⟩
  refine (sp_move (K := kF K F) htr C r.2.2.2.2.2.2.1 r.l150 h8 k4 hm hs).mono fun rs h' q => ?_
  have hM := fun H2 => sp_mMove (l := l) (K := K) (m := m) (am := am) (I := I) (L := L) (h := H2) (s := s) (k := k) (t := t) htr fx.1 r.mv
  rcases q with ⟨a, rfl, i, hi, rfl, q⟩ | ⟨E, rfl, rfl, rfl, q⟩
  · have ii : ∀ i', i' < sc 0 → nI i = nI i' → i' = i := fun i' hi' z => ((nI_eq (by omega) (by omega)).mp z).symm
    rw [hall] at q
    rcases q with ⟨k1, rfl, rfl⟩ | ⟨k1, k2, rfl, rfl⟩ | ⟨k1, k2, rfl, o', pa', Lp', rw', c1, c2, c3, c4, c5, c6⟩
    · refine Or.inl ⟨_, rfl, Nx.of fx C (fun _ _ => rfl) e ⟨fo, ho⟩ fun H2 => (hM H2).mono fun rs h3 q' => ?_⟩
      obtain ⟨a', rfl, ⟨z, _⟩ | ⟨i', hi', hii, ⟨_, rfl, rfl⟩ | ⟨z, _⟩ | ⟨z, _⟩⟩⟩ := q'
      · exact absurd (isS_of hi (by omega)) z
      · exact ⟨_, rfl, _, L, N, rfl, same, z0_0, fun _ => rfl⟩
      · exact absurd z k1
      · exact absurd z k1
    · refine Or.inl ⟨_, rfl, Nx.of fx C (fun _ _ => rfl) e ⟨fo, ho⟩ fun H2 => (hM H2).mono fun rs h3 q' => ?_⟩
      obtain ⟨a', rfl, ⟨z, _⟩ | ⟨i', hi', hii, ⟨z, _⟩ | ⟨_, _, rfl, rfl⟩ | ⟨_, z, _⟩⟩⟩ := q'
      · exact absurd (isS_of hi (by omega)) z
      · exact absurd k1 z
      · exact ⟨_, rfl, _, L, N, rfl, same, z0_0, fun _ => rfl⟩
      · have := ii i' hi' hii
        subst this
        rw [(kty i' hi).1] at z
        exact absurd z k2
    · refine Or.inl ⟨_, rfl, Nx.of fx c1 c2 e ⟨fo, ho⟩ fun H2 => (hM H2).mono fun rs h3 q' => ?_⟩
      obtain ⟨a', rfl, ⟨z, _⟩ | ⟨i', hi', hii, ⟨z, _⟩ | ⟨_, z, _⟩ | ⟨_, _, rfl, I', L', rfl, i0', m1, m3, m4, m20, mE, mOk, mP, mL⟩⟩⟩ := q'
      · exact absurd (isS_of hi (by omega)) z
      · exact absurd k1 z
      · have := ii i' hi' hii
        subst this
        rw [(kty i' hi).1] at z
        exact absurd k2 z
      · have := ii i' hi' hii
        subst this
        obtain ⟨b, hb, rfl⟩ : ∃ b, b < 4 ∧ k = nI b := (show isS k 4 from ⟨k1.1, Int32.not_le.mp k1.2.1⟩).ix (by decide)
        have i6 : I' 6 = I 6 := m1 6 (by decide) (by decide) (by decide) (by decide) (by decide) (by decide) (by decide)
        refine ⟨_, rfl, I', L', _, rfl, r.sweep hg c5 (mP.cg fun p _ => (pT_perm n5 p).symm) (fun f h0 h3 h4 h6 h7 h9 h10 h13 h17 h18 h22 => m1 f h0 h3 h4 h10 h13 h17 h18) m20 (fun c _ => by rw [i6]) mE (fun c hc j hj => ?_) (fun j hj => ?_) (fun c hc => ⟨if_neg (by omega), if_neg (by omega)⟩) (by rw [i6]; exact n1) n2 mOk (by rw [mL, mvL_ky]; exact n4) (by rw [c6, mL]; exact n5.map _) c4 c3, i0', fun _ => by rw [n5.countP_eq]⟩
        · rw [m3, m4, upd_n (by omega), upd_n (by omega)]; exact ⟨rfl, rfl⟩
        · show I' 3 j = upd (kd 0) i' (nI b) j ∧ I' 4 j = upd (ty 0) i' t j ∧ ∃ k, k < 4 ∧ upd (kd 0) i' (nI b) j = nI k
          rw [m3, m4]
          by_cases y : j = i'
          · subst y; rw [upd_s, upd_s, upd_s, upd_s]; exact ⟨rfl, rfl, b, hb, rfl⟩
          · rw [upd_n y, upd_n y, upd_n y, upd_n y]; exact ⟨(kty j hj).1, (kty j hj).2, k4 j hj⟩
  · refine Or.inr ⟨_, rfl, 1, by decide, by decide, rfl, fun a => Nx.of fx C (fun _ _ => rfl) e ⟨fo, ho⟩ fun H2 => (hM H2).mono fun rs h3 q' => ?_⟩
    obtain ⟨a', rfl, ⟨z, rfl⟩ | ⟨i', hi', rfl, _⟩⟩ := q'
    · exact ⟨_, rfl, _, L, N, rfl, r.same hg fun f h0 _ => setI_n h0, by rw [setI_f, upd_s], fun z => by omega⟩
    · exact absurd (isS_of hi' (by omega)) q
end Rel
