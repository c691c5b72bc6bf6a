/-! ===== class and reference side by side: what is asked ===== -/
section Rel
variable {l : Launch} {K : Kx} {F : List Nat} {x m out : Nat} {am : Nat → Nat} {H h' H2 : Hp} {ad : Nat → Nat → Nat} {rw : Nat → Nat} {o o' : OV} {nm : Nat → Int32} {th : Nat → Bool} {nu : Nat → Int32} {sc : Nat → Nat} {kd ty kd' ty' : Nat → Nat → Int32} {pa pa' : Nat → Nat → Nat} {Lp Lp' : Nat → List (Option EV)} {I I' : MI} {L L' : ML} {N : Nat → Nat} {g k0 mc ms : Nat} {s : Int32}
theorem tw_keys (htr : l.stackTraces = false) (fx : FX F m out am) (W : WS K F x m out am H g k0) (hg : g + 1 < 2 ^ 20) (hm : 40 ≤ mc) (hs : 1200 ≤ ms) :
    mX3_keys l K mc ms [.ref x, .int s] H (kG .int (fun a h' => Nx .int K F x m out am (g + 1) (mX4_keys l K [.ref m, .int s]) 0 a h') (fun E h' => ∃ k, 0 < k ∧ k < 2 ∧ E = ec1 k ∧ ∀ a, Nx .int K F x m out am (g + 1) (mX4_keys l K [.ref m, .int s]) k a h')) := by
  obtain ⟨ad, o, nm, th, nu, sc, kd, ty, pa, Lp, rw, I, L, N, C, r, e, i0, fo, ho⟩ := W
  obtain ⟨n1, n2, n3, n4, n5⟩ := r.2.2.2.2.1 0 (by decide) r.t0
  have s5 := r.2.2.2.1.2.2.2.2.1
  refine sim_r (ad := ad) (ec := ec1) (P := fun a c => (c = 1 ∧ ¬ isS s (sc 0)) ∨ (c = 0 ∧ isS s (sc 0) ∧ a = nI ((mLst I L 0 (N 0)).countP (mk2 s (I 21 0))))) fx r hg e ⟨fo, ho⟩ ((sp_keys (K := kF K F) htr C r.2.2.2.2.2.2.1 r.l150 hm hs).mono fun rs h' q => ?_) (fun H2 => sp_mKeys htr fx.1 r.1.1 r.h8 n1 n2) (fun a c a' c' q q' => ?_) 0
  · rcases q with ⟨a, rfl, s0, rfl, sp⟩ | ⟨E, rfl, rfl, rfl, z⟩
    · exact Or.inl ⟨_, rfl, Or.inr ⟨rfl, s0, by rw [(keys_rank n5 n4).1, s5]⟩, sp⟩
    · exact Or.inr ⟨_, rfl, SpC.none C r.2.2.2.2.2.2.1 Ext.rf, 1, by decide, by decide, rfl, fun _ => Or.inl ⟨rfl, z⟩⟩
  · rcases q with ⟨rfl, q⟩ | ⟨rfl, q, rfl⟩ <;> rcases q' with ⟨rfl, q'⟩ | ⟨rfl, q', rfl⟩
    · exact ⟨rfl, fun z => by omega⟩
    · exact absurd q' q
    · exact absurd q q'
    · exact ⟨rfl, fun _ => rfl⟩
theorem tw_keyAt {i : Int32} (htr : l.stackTraces = false) (fx : FX F m out am) (W : WS K F x m out am H g k0) (hg : g + 1 < 2 ^ 20) (hm : 40 ≤ mc) (hs : 1200 ≤ ms) :
    mX3_keyAt l K mc ms [.ref x, .int s, .int i] H (kG .long (fun a h' => Nx .long K F x m out am (g + 1) (mX4_keyAt l K [.ref m, .int s, .int i]) 0 a h') (fun E h' => ∃ k, 0 < k ∧ k < 2 ∧ E = ec1 k ∧ ∀ a, Nx .long K F x m out am (g + 1) (mX4_keyAt l K [.ref m, .int s, .int i]) k a h')) := by
  obtain ⟨ad, o, nm, th, nu, sc, kd, ty, pa, Lp, rw, I, L, N, C, r, e, i0, fo, ho⟩ := W
  obtain ⟨n1, n2, n3, n4, n5⟩ := r.2.2.2.2.1 0 (by decide) r.t0
  have s5 := r.2.2.2.1.2.2.2.2.1
  obtain ⟨k1, k2, k3⟩ := keys_rank (s := s) (sp := I 21 0) n5 n4
  have kb : (mLst I L 0 (N 0)).countP (mk2 s (I 21 0)) ≤ 150 := by
    have := List.countP_le_length (p := mk2 s (I 21 0)) (l := mLst I L 0 (N 0))
    rw [mLst_len] at this; omega
  refine sim_r (ad := ad) (ec := ec1) (P := fun a c => (c = 1 ∧ (¬ isS s (sc 0) ∨ ¬ isS i ((mLst I L 0 (N 0)).countP (mk2 s (I 21 0))))) ∨ (c = 0 ∧ isS s (sc 0) ∧ ∃ j, j < (mLst I L 0 (N 0)).countP (mk2 s (I 21 0)) ∧ i = nI j ∧ a = (foldK ((eP Lp (pa 0) 16).filter (mk2 s (I 21 0))) []).getD j 0)) fx r hg e ⟨fo, ho⟩ ((sp_keyAt (K := kF K F) htr C r.2.2.2.2.2.2.1 r.l150 hm hs).mono fun rs h' q => ?_) (fun H2 => sp_mKeyAt htr fx.1 r.1.1 r.h8 n1 n2) (fun a c a' c' q q' => ?_) 0
  · rw [← s5] at q
    rcases q with ⟨a, rfl, s0, ⟨j, hj, hi, ha⟩, sp⟩ | ⟨E, rfl, sp, rfl, z⟩
    · exact Or.inl ⟨_, rfl, Or.inr ⟨rfl, s0, j, by rw [← k1]; exact hj, hi, ha⟩, sp⟩
    · exact Or.inr ⟨_, rfl, sp, 1, by decide, by decide, rfl, fun _ => Or.inl ⟨rfl, by rw [← k1]; exact z⟩⟩
  · rcases q with ⟨rfl, q⟩ | ⟨rfl, q, j, hj, rfl, rfl⟩ <;> rcases q' with ⟨rfl, q'⟩ | ⟨rfl, q', w, hw, hm2, hr, rfl⟩
    · exact ⟨rfl, fun z => by omega⟩
    · rcases q with q | q
      · exact absurd q' q
      · rw [← hr] at q
        exact absurd (isS_of (k3 w hw hm2).1 (by omega)) q
    · rcases q' with q' | q'
      · exact absurd q q'
      · obtain ⟨w, hw, hm2, hr, _⟩ := k2 j hj
        exact absurd (by rw [hr]) (q' w hw hm2)
    · refine ⟨rfl, fun _ => ?_⟩
      have := (nI_eq (by have := (k3 w hw hm2).1; omega) (by omega)).mp hr
      rw [(k3 w hw hm2).2, this]
theorem Rel2.pc (r : Rel2 o nm th nu sc kd ty pa Lp I L N g) {n : Int32} {c c' : Nat} (h : pcR th nu n c) (h' : mcp I n c') : c' = c ∧ c < 7 ∧ th c = true := by
  rcases h with ⟨h1, rfl⟩ | ⟨h1, h2, h3, h4, h5⟩ <;> rcases h' with ⟨k1, rfl⟩ | ⟨k1, k2, k3, k4, k5⟩
  · exact ⟨rfl, by decide, r.t0⟩
  · exact absurd h1 k1
  · exact absurd k1 h1
  · exact ⟨r.num h2 h3 h4 h5 k2 k3 k4 k5, h3, h4⟩
theorem Rel2.pn1 (r : Rel2 o nm th nu sc kd ty pa Lp I L N g) {n : Int32} {c' : Nat} (h : pcN th nu n) (h' : mcp I n c') : False := by
  rcases h' with ⟨k1, rfl⟩ | ⟨k1, k2, k3, k4, k5⟩
  · exact h.1 k1
  · have := r.nx.mp h.2 (c' - 1) (by omega)
    rw [show c' - 1 + 1 = c' by omega] at this
    exact this k4 k5
theorem Rel2.pn2 (r : Rel2 o nm th nu sc kd ty pa Lp I L N g) {n : Int32} {c : Nat} (h : pcR th nu n c) (h' : mcn I n) : False := by
  rcases h with ⟨h1, rfl⟩ | ⟨h1, h2, h3, h4, h5⟩
  · exact h'.1 h1
  · have := r.nx.mpr h'.2 (c - 1) (by omega)
    rw [show c - 1 + 1 = c by omega] at this
    exact this h4 h5
theorem Rel2.hN (r : Rel2 o nm th nu sc kd ty pa Lp I L N g) : ∀ c, c < 7 → (c = 0 ∨ ¬ I 14 c = nI 0) → I 6 c = nI (N c) ∧ N c ≤ 150 := fun c hc z => by
  have ht : th c = true := z.elim (fun z => by rw [z]; exact r.t0) fun z => by
    by_cases y : c = 0
    · rw [y]; exact r.t0
    · exact (r.nn (by omega) hc).mpr z
  exact ⟨(r.2.2.2.2.1 c hc ht).1, (r.2.2.2.2.1 c hc ht).2.1⟩
theorem tw_entries {n : Int32} (htr : l.stackTraces = false) (fx : FX F m out am) (W : WS K F x m out am H g k0) (hg : g + 1 < 2 ^ 20) (hm : 40 ≤ mc) (hs : 1200 ≤ ms) :
    mX3_entries l K mc ms [.ref x, .int n, .int s] H (kG .int (fun a h' => Nx .int K F x m out am (g + 1) (mX4_entries l K [.ref m, .int n, .int s]) 0 a h') (fun E h' => ∃ k, 0 < k ∧ k < 2 ∧ E = ec1 k ∧ ∀ a, Nx .int K F x m out am (g + 1) (mX4_entries l K [.ref m, .int n, .int s]) k a h')) := by
  obtain ⟨ad, o, nm, th, nu, sc, kd, ty, pa, Lp, rw, I, L, N, C, r, e, i0, fo, ho⟩ := W
  refine sim_r (ad := ad) (ec := ec1) (P := fun a c => (c = 1 ∧ (¬ isS s (sc 0) ∨ pcN th nu n)) ∨ (c = 0 ∧ isS s (sc 0) ∧ ∃ c9, c9 < 7 ∧ th c9 = true ∧ pcR th nu n c9 ∧ a = nI ((eP Lp (pa c9) 16).countP (fun v => decide (v.1 = s))))) fx r hg e ⟨fo, ho⟩ ((sp_entries (K := kF K F) htr C hm hs).mono fun rs h' q => ?_) (fun H2 => sp_mEntries htr fx.1 r.1.1 r.h8 r.hN) (fun a c a' c' q q' => ?_) 0
  · rcases q with ⟨a, rfl, rfl, s0, z⟩ | ⟨E, rfl, rfl, rfl, z⟩
    · exact Or.inl ⟨_, rfl, Or.inr ⟨rfl, s0, z⟩, SpC.none C r.2.2.2.2.2.2.1 Ext.rf⟩
    · exact Or.inr ⟨_, rfl, SpC.none C r.2.2.2.2.2.2.1 Ext.rf, 1, by decide, by decide, rfl, fun _ => Or.inl ⟨rfl, z⟩⟩
  · rcases q with ⟨rfl, q⟩ | ⟨rfl, q, c9, hc, ht, hp, rfl⟩ <;> rcases q' with ⟨rfl, q'⟩ | ⟨rfl, q', c8, hp', rfl⟩
    · exact ⟨rfl, fun z => by omega⟩
    · exact (q.elim (fun z => z q') fun z => r.pn1 z hp').elim
    · exact (q'.elim (fun z => z q) fun z => r.pn2 hp z).elim
    · refine ⟨rfl, fun _ => ?_⟩
      rw [(r.pc hp hp').1, (r.2.2.2.2.1 c9 hc ht).2.2.2.2.countP_eq]
theorem tw_ask {n : Int32} {k : Int64} {sp i : Int32} (htr : l.stackTraces = false) (fx : FX F m out am) (W : WS K F x m out am H g k0) (hg : g + 1 < 2 ^ 20) (hm : 40 ≤ mc) (hs : 1200 ≤ ms) :
    mX3_ask9 l K mc ms [.ref x, .int n, .int s, .long k, .int sp, .int i] H (kG .long (fun a h' => Nx .long K F x m out am (g + 1) (mX4_ask l K [.ref m, .int n, .int s, .long k, .int sp, .int i]) 0 a h') (fun E h' => ∃ k9, 0 < k9 ∧ k9 < 3 ∧ E = ecA k9 ∧ ∀ a, Nx .long K F x m out am (g + 1) (mX4_ask l K [.ref m, .int n, .int s, .long k, .int sp, .int i]) k9 a h')) := by
  obtain ⟨ad, o, nm, th, nu, sc, kd, ty, pa, Lp, rw, I, L, N, C, r, e, i0, fo, ho⟩ := W
  have t0 := r.t0
  have hok : ∀ c, c < 7 → (c = 0 ∨ ¬ I 14 c = nI 0) → sc c ≤ 8 ∧ (∀ i, i < sc c → ∃ k, k < 4 ∧ I 3 (8 * c + i) = nI k) ∧ ∀ j, j < N c → eOk I c (sc c) (150 * c + j) := fun c hc z => by
    have ht : th c = true := z.elim (fun z => by rw [z]; exact t0) fun z => by
      by_cases y : c = 0
      · rw [y]; exact t0
      · exact (r.nn (by omega) hc).mpr z
    refine ⟨Nat.le_trans (r.2.1 c hc ht).1 r.h8, fun i hi => ?_, (r.2.2.2.2.1 c hc ht).2.2.1⟩
    obtain ⟨z1, z2, k, z3, z4⟩ := (r.2.1 c hc ht).2 i hi
    exact ⟨k, z3, z1.trans z4⟩
  refine sim_r (ad := ad) (ec := ecA) (P := fun a c => (c = 1 ∧ (¬ isS s (sc 0) ∨ pcN th nu n)) ∨ (isS s (sc 0) ∧ ∃ c9, c9 < 7 ∧ th c9 = true ∧ pcR th nu n c9 ∧ ((c = 2 ∧ ¬ isS i (lk s k sp (eP Lp (pa c9) 16)).2.2.2.1.length) ∨ (c = 0 ∧ ∃ j, j < (lk s k sp (eP Lp (pa c9) 16)).2.2.2.1.length ∧ i = nI j ∧ a = (lk s k sp (eP Lp (pa c9) 16)).2.2.2.1.getD j 0)))) fx r hg e ⟨fo, ho⟩ ((sp_ask9 (K := kF K F) htr C r.2.2.2.2.2.2.1 hm hs).mono fun rs h' q => ?_) (fun H2 => sp_mAsk htr fx.1 r.1.1 r.h8 r.hN hok) (fun a c a' c' q q' => ?_) 0
  · rcases q with ⟨a, rfl, s0, ⟨c9, j, hc, ht, hp, hj, hi, ha⟩, sp⟩ | ⟨E, rfl, sp, ⟨rfl, z⟩ | ⟨rfl, s0, c9, hc, ht, hp, z⟩⟩
    · exact Or.inl ⟨_, rfl, Or.inr ⟨s0, c9, hc, ht, hp, Or.inr ⟨rfl, j, hj, hi, ha⟩⟩, sp⟩
    · exact Or.inr ⟨_, rfl, sp, 1, by decide, by decide, rfl, fun _ => Or.inl ⟨rfl, z⟩⟩
    · exact Or.inr ⟨_, rfl, sp, 2, by decide, by decide, rfl, fun _ => Or.inr ⟨s0, c9, hc, ht, hp, Or.inl ⟨rfl, z⟩⟩⟩
  · rcases q with ⟨rfl, q⟩ | ⟨q, c9, hc, ht, hp, z⟩ <;> rcases q' with ⟨rfl, q'⟩ | ⟨q', c8, hp', z'⟩
    · exact ⟨rfl, fun z => by omega⟩
    · exact (q.elim (fun z => z q') fun z => r.pn1 z hp').elim
    · exact (q'.elim (fun z => z q) fun z => r.pn2 hp z).elim
    · have := (r.pc hp hp').1
      subst this
      rw [← r.lkE hc ht] at z'
      have hl := (C.lk_ok hc ht s k sp).1
      rcases z with ⟨rfl, z⟩ | ⟨rfl, j, hj, rfl, rfl⟩ <;> rcases z' with ⟨rfl, z'⟩ | ⟨rfl, z'⟩
      · exact ⟨rfl, fun z => by omega⟩
      · obtain ⟨j, hj, rfl, _⟩ := z'
        exact absurd (isS_of hj (by omega)) z
      · exact absurd (isS_of hj (by omega)) z'
      · obtain ⟨j', hj', hjj, rfl⟩ := z'
        have : j' = j := ((nI_eq (by omega) (by omega)).mp hjj).symm
        exact ⟨rfl, fun _ => by rw [this]⟩
theorem tw_of {i : Int32} (htr : l.stackTraces = false) (fx : FX F m out am) (W : WS K F x m out am H g k0) (hg : g + 1 < 2 ^ 20) (hm : 40 ≤ mc) (hs : 1200 ≤ ms) :
    mX3_of l K mc ms [.ref x, .int s, .int i] H (kG .int (fun a h' => Nx .int K F x m out am (g + 1) (mX4_of l K [.ref m, .int s, .int i]) 0 a h') (fun E h' => ∃ k, 0 < k ∧ k < 2 ∧ E = ec1 k ∧ ∀ a, Nx .int K F x m out am (g + 1) (mX4_of l K [.ref m, .int s, .int i]) k a h')) := by
  obtain ⟨ad, o, nm, th, nu, sc, kd, ty, pa, Lp, rw, I, L, N, C, r, e, i0, fo, ho⟩ := W
  have h8 := r.h8
  have kty := r.kty
  have nms := r.1.2.2
  refine sim_r (ad := ad) (ec := ec1) (P := fun a c => (c = 1 ∧ (¬ isS s (sc 0) ∨ ¬ isS i 3)) ∨ (c = 0 ∧ ∃ j, j < sc 0 ∧ s = nI j ∧ ((i = nI 0 ∧ a = nm j) ∨ (i = nI 1 ∧ a = kd 0 j) ∨ (i = nI 2 ∧ a = ty 0 j)))) fx r hg e ⟨fo, ho⟩ ((sp_of (K := kF K F) htr C h8 hm hs).mono fun rs h' q => ?_) (fun H2 => sp_mOf htr fx.1 r.1.1 h8) (fun a c a' c' q q' => ?_) 0
  · rcases q with ⟨a, rfl, rfl, z⟩ | ⟨E, rfl, rfl, rfl, z⟩
    · exact Or.inl ⟨_, rfl, Or.inr ⟨rfl, z⟩, SpC.none C r.2.2.2.2.2.2.1 Ext.rf⟩
    · refine Or.inr ⟨_, rfl, SpC.none C r.2.2.2.2.2.2.1 Ext.rf, 1, by decide, by decide, rfl, fun _ => Or.inl ⟨rfl, z.imp id fun z w => ?_⟩⟩
      obtain ⟨d, hd, rfl⟩ := w.ix (by decide)
      rw [nI_toInt (by omega)] at z
      omega
  · have e3 : ∀ a b, a < 3 → b < 3 → nI a = nI b → a = b := fun a b ha hb z => (nI_eq (by omega) (by omega)).mp z
    rcases q with ⟨rfl, q⟩ | ⟨rfl, j, hj, rfl, q⟩ <;> rcases q' with ⟨rfl, q'⟩ | ⟨rfl, j', hj', hjj, q'⟩
    · exact ⟨rfl, fun z => by omega⟩
    · rcases q with q | q
      · rw [hjj] at q; exact absurd (isS_of hj' (by omega)) q
      · refine absurd ?_ q
        rcases q' with ⟨rfl, _⟩ | ⟨rfl, _⟩ | ⟨rfl, _⟩
        · exact isS_of (by decide) (by decide)
        · exact isS_of (by decide) (by decide)
        · exact isS_of (by decide) (by decide)
    · rcases q' with q' | q'
      · exact absurd (isS_of hj (by omega)) q'
      · refine absurd ?_ q'
        rcases q with ⟨rfl, _⟩ | ⟨rfl, _⟩ | ⟨rfl, _⟩
        · exact isS_of (by decide) (by decide)
        · exact isS_of (by decide) (by decide)
        · exact isS_of (by decide) (by decide)
    · have : j' = j := ((nI_eq (by omega) (by omega)).mp hjj).symm
      subst this
      rw [nms j' hj, (kty j' hj).1, (kty j' hj).2] at q'
      refine ⟨rfl, fun _ => ?_⟩
      rcases q with ⟨h1, rfl⟩ | ⟨h1, rfl⟩ | ⟨h1, rfl⟩ <;> rcases q' with ⟨h2, rfl⟩ | ⟨h2, rfl⟩ | ⟨h2, rfl⟩
      · rfl
      · exact absurd (e3 0 1 (by decide) (by decide) (h1.symm.trans h2)) (by decide)
      · exact absurd (e3 0 2 (by decide) (by decide) (h1.symm.trans h2)) (by decide)
      · exact absurd (e3 1 0 (by decide) (by decide) (h1.symm.trans h2)) (by decide)
      · rfl
      · exact absurd (e3 1 2 (by decide) (by decide) (h1.symm.trans h2)) (by decide)
      · exact absurd (e3 2 0 (by decide) (by decide) (h1.symm.trans h2)) (by decide)
      · exact absurd (e3 2 1 (by decide) (by decide) (h1.symm.trans h2)) (by decide)
      · rfl
theorem tw_told {i : Int32} (htr : l.stackTraces = false) (fx : FX F m out am) (W : WS K F x m out am H g k0) (hg : g + 1 < 2 ^ 20) :
    mX3_told l K [.ref x, .int i] H (kI fun a h' => Nx .int K F x m out am (g + 1) (mX4_told l K [.ref m, .int i]) 0 a h') := by
  obtain ⟨ad, o, nm, th, nu, sc, kd, ty, pa, Lp, rw, I, L, N, C, r, e, i0, fo, ho⟩ := W
  obtain ⟨n1, n2, n3, n4, n5⟩ := r.2.2.2.2.1 0 (by decide) r.t0
  refine (sp_told (K := kF K F) htr C).mono fun rs h' q => ?_
  obtain ⟨a, rfl, rfl, q⟩ := q
  refine ⟨_, rfl, Nx.of fx C (fun _ _ => rfl) e ⟨fo, ho⟩ fun H2 => (sp_mTold htr fx.1 r.mv).mono fun rs h3 q' => ?_⟩
  obtain ⟨a', rfl, rfl, q'⟩ := q'
  refine ⟨_, rfl, _, L, N, rfl, r.same hg fun f h0 _ => z0_n h0, z0_0, fun _ => ?_⟩
  have e7 : ∀ a b, a < 7 → b < 7 → nI a = nI b → a = b := fun a b ha hb z => (nI_eq (by omega) (by omega)).mp z
  have v1 : (eP Lp (pa 0) 16).length = N 0 := r.len (by decide) r.t0
  have v2 : (List.range 6).countP (fun j => th (j + 1)) = (List.range 6).countP (fun j => !decide (I 14 (j + 1) = nI 0)) := List.countP_congr fun j hj => by
    have hj6 := List.mem_range.mp hj
    rw [r.nn (by omega) (by omega)]; simp
  have v3 : (List.range 16).countP (fun p => decide (0 < hdc th pa p (pa 0 p))) = (List.range 16).countP (shB I) := List.countP_congr fun p hp => by rw [r.sh (List.mem_range.mp hp)]
  have v4 := r.2.2.2.1.2.1
  have v5 : (List.range 16).countP (fun p => decide (0 < (ents (Lp (pa 0 p))).length)) = (List.range 16).countP (fun p => (mLst I L 0 (N 0)).any (fun v => decide (pgI v.1 v.2.1 v.2.2.1 = p))) := List.countP_congr fun p hp => by
    have hpT := pT_page (φ := fun _ => true) (r.2.2.2.2.2.2.1 0 (by decide) r.t0) (List.mem_range.mp hp)
    rw [pT_perm n5] at hpT
    have : pT (fun _ => true) (mLst I L 0 (N 0)) p = (mLst I L 0 (N 0)).any (fun v => decide (pgI v.1 v.2.1 v.2.2.1 = p)) := by simp [pT]
    rw [← this, hpT, decide_eq_true_eq, List.length_pos_iff_exists_mem]
    simp
  have v6 : ((eP Lp (pa 0) 16).map (fun v => v.2.2.2.1.length)).sum = ((mLst I L 0 (N 0)).map (fun v => v.2.2.2.1.length)).sum := (n5.map _).sum_nat
  rw [v1, v2, v3, ← v4, v5, v6] at q
  have tI : ∀ d, d < 7 → (nI d).toInt = d := fun d hd => nI_toInt (by omega)
  rcases q with ⟨z, rfl⟩ | q
  · rcases q' with ⟨_, rfl⟩ | q'
    · rfl
    · exfalso
      rcases q' with ⟨rfl, _⟩ | ⟨rfl, _⟩ | ⟨rfl, _⟩ | ⟨rfl, _⟩ | ⟨rfl, _⟩ | ⟨rfl, _⟩ | ⟨rfl, _⟩
      · rw [tI 0 (by decide)] at z; omega
      · rw [tI 1 (by decide)] at z; omega
      · rw [tI 2 (by decide)] at z; omega
      · rw [tI 3 (by decide)] at z; omega
      · rw [tI 4 (by decide)] at z; omega
      · rw [tI 5 (by decide)] at z; omega
      · rw [tI 6 (by decide)] at z; omega
  · have T : ∀ (P : Nat → Int32) (i a a' : Int32), (∃ d, d < 7 ∧ i = nI d ∧ a = P d) → (((∀ d, d < 7 → i ≠ nI d) ∧ a' = -nI 1) ∨ ∃ d, d < 7 ∧ i = nI d ∧ a' = P d) → a' = a := by
      rintro P i a a' ⟨d, hd, rfl, rfl⟩ (⟨z, _⟩ | ⟨d', hd', hdd, rfl⟩)
      · exact absurd rfl (z d hd)
      · rw [e7 d d' hd hd' hdd]
    refine T (fun d => match d with
      | 0 => nI (sc 0)
      | 1 => nI (N 0)
      | 2 => nI ((List.range 6).countP (fun j => !decide (I 14 (j + 1) = nI 0)))
      | 3 => nI ((List.range 16).countP (shB I))
      | 4 => I 18 0
      | 5 => nI ((List.range 16).countP (fun p => (mLst I L 0 (N 0)).any (fun v => decide (pgI v.1 v.2.1 v.2.2.1 = p))))
      | _ => nI ((mLst I L 0 (N 0)).map (fun v => v.2.2.2.1.length)).sum) i a a' ?_ ?_
    · rcases q with ⟨h, h'⟩ | ⟨h, h'⟩ | ⟨h, h'⟩ | ⟨h, h'⟩ | ⟨h, h'⟩ | ⟨h, h'⟩ | ⟨h, h'⟩
      · exact ⟨0, by decide, h, h'⟩
      · exact ⟨1, by decide, h, h'⟩
      · exact ⟨2, by decide, h, h'⟩
      · exact ⟨3, by decide, h, h'⟩
      · exact ⟨4, by decide, h, h'⟩
      · exact ⟨5, by decide, h, h'⟩
      · exact ⟨6, by decide, h, h'⟩
    · rcases q' with h | ⟨h, h'⟩ | ⟨h, h'⟩ | ⟨h, h'⟩ | ⟨h, h'⟩ | ⟨h, h'⟩ | ⟨h, h'⟩ | ⟨h, h'⟩
      · exact Or.inl h
      · exact Or.inr ⟨0, by decide, h, h'⟩
      · exact Or.inr ⟨1, by decide, h, h'⟩
      · exact Or.inr ⟨2, by decide, h, h'⟩
      · exact Or.inr ⟨3, by decide, h, h'⟩
      · exact Or.inr ⟨4, by decide, h, h'⟩
      · exact Or.inr ⟨5, by decide, h, h'⟩
      · exact Or.inr ⟨6, by decide, h, h'⟩
end Rel
